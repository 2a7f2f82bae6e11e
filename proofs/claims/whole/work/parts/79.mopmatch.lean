/-! matching, on the check's side -/
section OP2
variable {d : ax_D} {s tx : Row} {ln : Nat}
theorem m_opMatch (hs : mr d 2 = s) (hk : Ok s) (ht : mr d 10 = tx) (h10 : mv d 10 = nI ln) (hl : ln ≤ 80) (Q : ax_P)
    (h0 : ¬ s 3 = 1 → ∀ d', FrM (fun _ => False) (fun k => k = 0) d d' → mv d' 0 = 1 → Q d' (Sum.inl (some (Sum.inl 0))))
    (hF : s 3 = 1 → ∀ g, OP tx ln = Sum.inl g → ∀ d', FrM (fun _ => False) (fun k => k = 0 ∨ k = 10 ∨ k = 11 ∨ (15 ≤ k ∧ k ≤ 19)) d d' → mv d' 0 = 2 → mv d' 10 = 0 → mv d' 11 = nI g → Q d' (Sum.inl (some (Sum.inl 0))))
    (hG : s 3 = 1 → ∀ x, OP tx ln = Sum.inr x → x < 32 → ∀ d', FrM (fun _ => False) (fun k => k = 0 ∨ k = 10 ∨ k = 11 ∨ (15 ≤ k ∧ k ≤ 19)) d d' → mv d' 0 = 0 → mv d' 10 = 0 → mv d' 11 = -1 → Q d' (Sum.inl (some (Sum.inl (setI (vis s (nI (x % 8)) (nI (x / 8))) (nT s)))))) : CT 253 [ax_vR 9 0 0] d Q := by
  refine w253 (fun d1 e1 => (m_played _ _).mpr ?_)
  have q1 : d1 = sV d 0 0 := e1
  have s1 : mr d1 2 = s := by rw [q1, mr_sV (by decide)]; exact hs
  rw [s1]
  by_cases hp : s 3 = 1
  case neg =>
    rw [show plays s = false from decide_eq_false hp]
    refine ⟨fun _ => (m_fails _ _ _).mpr ?_, fun g => absurd rfl g⟩
    rw [q1]
    exact h0 hp _ (FrM_trans (FrM_sV d (k := 0) (K := fun k => k = 0) rfl 0) (FrM_sV (sV d 0 0) (k := 0) (K := fun k => k = 0) rfl 1)) (mv_sV _ _ _)
  rw [show plays s = true from decide_eq_true hp]
  refine ⟨fun g => absurd g (by decide), fun _ d6 e6 d7 e7 => ?_⟩
  have q6 : d6 = sV d1 15 0 := e6
  have q7 : d7 = sV d6 16 1 := e7
  have F7 : FrM (fun _ => False) (fun k => k = 0 ∨ k = 10 ∨ k = 11 ∨ (15 ≤ k ∧ k ≤ 19)) d d7 := by
    rw [q7, q6, q1]
    exact FrM_trans (FrM_sV d (k := 0) (K := fun k => k = 0 ∨ k = 10 ∨ k = 11 ∨ (15 ≤ k ∧ k ≤ 19)) (Or.inl rfl) 0) (FrM_trans (FrM_sV _ (k := 15) (K := fun k => k = 0 ∨ k = 10 ∨ k = 11 ∨ (15 ≤ k ∧ k ≤ 19)) (by omega) 0) (FrM_sV _ (k := 16) (K := fun k => k = 0 ∨ k = 10 ∨ k = 11 ∨ (15 ≤ k ∧ k ≤ 19)) (by omega) 1))
  have R7 : Rm d7 tx ln 0 := by
    rw [q7, q6, q1]
    refine Rm_sV ⟨?_, ?_, mv_sV _ _ _⟩ (by decide) (by decide) _
    · rw [mr_sV (by decide), mr_sV (by decide)]; exact ht
    · rw [mv_sVn (by decide), mv_sVn (by decide)]; exact h10
  have s7 : mr d7 2 = s := by rw [q7, mr_sV (by decide), q6, mr_sV (by decide)]; exact s1
  have z7 : mv d7 0 = 0 := by rw [q7, mv_sVn (by decide), q6, mv_sVn (by decide), q1]; exact mv_sV _ _ _
  have frN : ∀ {d' : ax_D}, FrN d7 d' → FrM (fun _ => False) (fun k => k = 0 ∨ k = 10 ∨ k = 11 ∨ (15 ≤ k ∧ k ≤ 19)) d d' := fun {d'} f => FrM_trans F7 ⟨f.1, f.2.1, fun j h0 _ => f.2.2.1 j h0, fun k hk => f.2.2.2 k (fun z => hk (Or.inr (Or.inr (Or.inr z))))⟩
  -- behind the phrase
  have fault : ∀ d8 g, FrN d7 d8 → g ≤ 80 → OP tx ln = Sum.inl g → h253_60 (nI g) d8 Q := by
    intro d8 g f8 hg ho
    refine w253_60 _ (fun d9 e9 d10 e10 => ?_)
    have q9 : d9 = sV d8 11 (nI g) := e9
    have q10 : d10 = sV d9 10 0 := e10
    have e11 : ax_row d10 9 0 0 11 = nI g := by rw [q10, q9]; exact (mv_sVn (by decide) _ _).trans (mv_sV _ _ _)
    rw [e11]
    refine ⟨fun z => absurd z (nI_nm (by omega)), fun _ => (m_fails _ _ _).mpr ?_⟩
    refine hF hp g ho _ ?_ (mv_sV _ _ _) (by rw [mv_sVn (by decide), q10]; exact mv_sV _ _ _) (by rw [mv_sVn (by decide)]; exact e11)
    rw [q10, q9]
    exact FrM_trans (frN f8) (FrM_trans (FrM_sV _ (k := 11) (K := fun k => k = 0 ∨ k = 10 ∨ k = 11 ∨ (15 ≤ k ∧ k ≤ 19)) (by omega) _) (FrM_trans (FrM_sV _ (k := 10) (K := fun k => k = 0 ∨ k = 10 ∨ k = 11 ∨ (15 ≤ k ∧ k ≤ 19)) (by omega) _) (FrM_sV _ (k := 0) (K := fun k => k = 0 ∨ k = 10 ∨ k = 11 ∨ (15 ≤ k ∧ k ≤ 19)) (by omega) _)))
  refine m_phrase R7 hl (Nat.zero_le _) (by rw [q7]; exact mv_sV _ _ _) false _ ?_
  cases hph : PH tx ln false 0 with
  | inl g =>
    have ho : OP tx ln = Sum.inl g := by unfold OP; rw [hph]
    intro d8 f8 r8 z16
    have z16 : ax_row d8 9 0 0 16 = 0 := z16
    have e15 : ax_row d8 9 0 0 15 = nI g := r8.2.2
    refine ⟨fun _ => ?_, fun z => absurd z16 z⟩
    rw [e15]
    exact fault d8 g f8 (Nat.le_trans (PH_fb (Nat.zero_le _) hph) hl) ho
  | inr xb =>
    obtain ⟨x, b⟩ := xb
    obtain ⟨-, b2, bx⟩ := PH_b (Nat.zero_le _) hph
    have hx : x < 32 := by
      rcases bx with q | ⟨-, q⟩
      · exact q
      · cases q
    intro d8 f8 r8 z16 hv
    have z16 : ax_row d8 9 0 0 16 = 1 := z16
    have e15 : ax_row d8 9 0 0 15 = nI b := r8.2.2
    have e10 : ax_row d8 9 0 0 10 = nI ln := r8.2.1
    refine ⟨fun z => absurd (z16.symm.trans z) (by decide), fun _ => ?_⟩
    rw [e15, e10]
    refine ⟨fun z => ?_, fun z => ?_⟩
    · have hb : b = ln := (nI_eq (by omega) (by omega)).mp z
      have ho : OP tx ln = Sum.inr x := by unfold OP; rw [hph]; show (if b < ln then Sum.inl b else Sum.inr x : Nat ⊕ Nat) = Sum.inr x; rw [if_neg (by omega)]
      refine w253_60 _ (fun d9 e9 d10 e10 => ?_)
      have q9 : d9 = sV d8 11 (-1) := e9
      have q10 : d10 = sV d9 10 0 := e10
      have e11 : ax_row d10 9 0 0 11 = -1 := by rw [q10, q9]; exact (mv_sVn (by decide) _ _).trans (mv_sV _ _ _)
      obtain ⟨v1, v2⟩ := hv.2 hx
      have e18 : ax_row d10 9 0 0 18 = nI (x % 8) := by rw [q10, q9]; exact (mv_sVn (by decide) _ _).trans ((mv_sVn (by decide) _ _).trans v1)
      have e19 : ax_row d10 9 0 0 19 = nI (x / 8) := by rw [q10, q9]; exact (mv_sVn (by decide) _ _).trans ((mv_sVn (by decide) _ _).trans v2)
      rw [e11, e18, e19]
      refine ⟨fun _ => ?_, fun z => absurd rfl z⟩
      have s10 : mr d10 2 = s := by rw [q10, mr_sV (by decide), q9, mr_sV (by decide), f8.2.2.1 2 (by decide)]; exact s7
      refine (m_visOf s10 hk hp _ _ _).mpr ?_
      refine hG hp x ho hx d10 ?_ ?_ (by rw [q10]; exact mv_sV _ _ _) e11
      · rw [q10, q9]
        exact FrM_trans (frN f8) (FrM_trans (FrM_sV _ (k := 11) (K := fun k => k = 0 ∨ k = 10 ∨ k = 11 ∨ (15 ≤ k ∧ k ≤ 19)) (by omega) _) (FrM_sV _ (k := 10) (K := fun k => k = 0 ∨ k = 10 ∨ k = 11 ∨ (15 ≤ k ∧ k ≤ 19)) (by omega) _))
      · rw [q10, mv_sVn (by decide), q9, mv_sVn (by decide), f8.2.2.2 0 (by omega)]; exact z7
    · have hb : b ≠ ln := fun q => z (by rw [q])
      have ho : OP tx ln = Sum.inl b := by unfold OP; rw [hph]; show (if b < ln then Sum.inl b else Sum.inr x : Nat ⊕ Nat) = Sum.inl b; rw [if_pos (by omega)]
      exact fault d8 b f8 (by omega) ho
end OP2
