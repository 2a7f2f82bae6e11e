/-! foresee, on the check's side -/
theorem CO_gd : ∀ (l : List Cd) (s : Row) (H : List Row) (i : Nat), Ok s → s 3 = 1 → load s ≤ 20 → (∀ (j : Nat) (c : Cd), l[j]? = some c → VOkT c) → Gd s (CO l s H i).1 ∧ load (CO l s H i).1 ≤ 20 := by
  intro l
  induction l with
  | nil => intro s H i hk hp hL _; exact ⟨⟨hk, SP_refl s, hp⟩, hL⟩
  | cons c l ih =>
    intro s H i hk hp hL hv
    have hga := GA_act hk hp hL (cmd_ok (hv 0 c rfl)).2
    have hga : GA s (actS s (cmT c)) := hga
    have hv' : ∀ (j : Nat) (c : Cd), l[j]? = some c → VOkT c := fun j c' hj => hv (j + 1) c' hj
    unfold CO
    cases hr : actS s (cmT c) with
    | inl w => exact ⟨⟨hk, SP_refl s, hp⟩, hL⟩
    | inr s' =>
      rw [hr] at hga
      have hga : Gd s s' ∧ load s' ≤ 20 := hga
      show Gd s (if c.1 = 6 then CO l s' H (i + 1) else CO l (passS s') (keepH H s) (i + 1) : Row × List Row × Nat × (Int32 × Int32)).1 ∧ load (if c.1 = 6 then CO l s' H (i + 1) else CO l (passS s') (keepH H s) (i + 1) : Row × List Row × Nat × (Int32 × Int32)).1 ≤ 20
      by_cases e : c.1 = 6
      · rw [if_pos e]
        have := ih s' H (i + 1) hga.1.1 hga.1.2.2 hga.2 hv'
        exact ⟨Gd_trans hga.1 this.1, this.2⟩
      · rw [if_neg e]
        have gp := GL_pass hga.1.1 hga.1.2.2
        have := ih (passS s') (keepH H s) (i + 1) gp.1.1 gp.1.2.2 (Nat.le_trans gp.2 hga.2) hv'
        exact ⟨Gd_trans hga.1 (Gd_trans gp.1 this.1), this.2⟩
theorem m_copyTo {d : ax_D} (Q : ax_P) (hQ : CT 219 [ax_vR 9 0 0, Sum.inl 0] (sR d 29 (frS (mr d 29) (mr d 2) 369)) (kI (fun x2 d1 => h244_67 x2 0 d1 Q) (fun E d => Q d (Sum.inr E)))) : h244_34 0 d Q := by
  have key := lp_up (fun i => h244_34 (nI i) (sR d 29 (frS (mr d 29) (mr d 2) i)) Q) 369 ?_ ?_ 0 (Nat.zero_le _)
  · have key : h244_34 (nI 0) (sR d 29 (frS (mr d 29) (mr d 2) 0)) Q := key
    rw [frS_0, sR_id d 29 rfl] at key
    exact key
  · exact w244_34 _ ⟨fun _ => hQ, fun g => absurd (by decide) g⟩
  · intro i hi ih
    have ci : ax_in (nI i) 369 = true := ax_in_nI hi (by omega)
    refine w244_34 _ ⟨fun g => absurd g (by rw [Int32.not_le]; exact nI_lt (b := 369) hi (by omega)), fun _ => ⟨ci, ci, fun d1 e1 => ?_⟩⟩
    have q1 : d1 = sR (sR d 29 (frS (mr d 29) (mr d 2) i)) 29 (upd (mr (sR d 29 (frS (mr d 29) (mr d 2) i)) 29) (nI i).toNatClampNeg (mr (sR d 29 (frS (mr d 29) (mr d 2) i)) 2 (nI i).toNatClampNeg)) := e1
    rw [mr_sR, mr_sRn (by decide), sR_sR, nI_clamp (by omega), frS_succ] at q1
    rw [q1, show nI i + 1 = nI (i + 1) from nI_add i 1]
    exact ih
theorem m_copyBack {d : ax_D} (v : Int32) (Q : ax_P) (hQ : Q (sR d 2 (frS (mr d 2) (mr d 29) 369)) (Sum.inl (some (Sum.inl v)))) : h244_67 v 0 d Q := by
  have key := lp_up (fun i => h244_67 v (nI i) (sR d 2 (frS (mr d 2) (mr d 29) i)) Q) 369 ?_ ?_ 0 (Nat.zero_le _)
  · have key : h244_67 v (nI 0) (sR d 2 (frS (mr d 2) (mr d 29) 0)) Q := key
    rw [frS_0, sR_id d 2 rfl] at key
    exact key
  · exact w244_67 _ _ ⟨fun _ => hQ, fun g => absurd (by decide) g⟩
  · intro i hi ih
    have ci : ax_in (nI i) 369 = true := ax_in_nI hi (by omega)
    refine w244_67 _ _ ⟨fun g => absurd g (by rw [Int32.not_le]; exact nI_lt (b := 369) hi (by omega)), fun _ => ⟨ci, ci, fun d1 e1 => ?_⟩⟩
    have q1 : d1 = sR (sR d 2 (frS (mr d 2) (mr d 29) i)) 2 (upd (mr (sR d 2 (frS (mr d 2) (mr d 29) i)) 2) (nI i).toNatClampNeg (mr (sR d 2 (frS (mr d 2) (mr d 29) i)) 29 (nI i).toNatClampNeg)) := e1
    rw [mr_sR, mr_sRn (by decide), sR_sR, nI_clamp (by omega), frS_succ] at q1
    rw [q1, show nI i + 1 = nI (i + 1) from nI_add i 1]
    exact ih
theorem frS_back {a f s : Row} (ha : Ok a) (hs : Ok s) : frS a (frS f s 369) 369 = s := by
  funext k
  unfold frS
  by_cases h : k < 369
  · rw [if_pos h, if_pos h]
  · rw [if_neg h, ha.2.2.2.2.2.2 k (by omega), hs.2.2.2.2.2.2 k (by omega)]
def RF (j : Nat) : Prop := S21 j ∨ j = 2 ∨ j = 6 ∨ j = 7 ∨ j = 29
def KF (k : Nat) : Prop := k = 0 ∨ k = 7 ∨ (15 ≤ k ∧ k ≤ 19) ∨ (25 ≤ k ∧ k ≤ 27)
section OF2
variable {d : ax_D} {s tx : Row} {ln : Nat}
theorem m_opFore {H : List Row} (hs : mr d 2 = s) (hk : Ok s) (hL : load s ≤ 20) (ht : mr d 10 = tx) (h10 : mv d 10 = nI ln) (hl : ln ≤ 80) (hh : s 3 = 1 → mHist d H) (Q : ax_P)
    (h0 : ¬ s 3 = 1 → ∀ d', FrM (fun _ => False) (fun k => k = 0) d d' → mv d' 0 = 1 → Q d' (Sum.inl (some (Sum.inl 0))))
    (hF : s 3 = 1 → ∀ g, CS tx ln = Sum.inl g → ∀ d', FrM S21 KF d d' → mv d' 0 = 2 → mv d' 7 = mv d 7 → Q d' (Sum.inl (some (Sum.inl 0))))
    (hG : s 3 = 1 → ∀ l, CS tx ln = Sum.inr l → ∀ d', FrM RF KF d d' → mv d' 0 = 0 → mr d' 2 = s → mHist d' H → Q d' (Sum.inl (some (Sum.inl (nI (CO l s H 0).2.2.1))))) : CT 244 [ax_vR 9 0 0] d Q := by
  refine w244 (fun d1 e1 => (m_played _ _).mpr ?_)
  have q1 : d1 = sV d 0 0 := e1
  have s1 : mr d1 2 = s := by rw [q1, mr_sV (by decide)]; exact hs
  rw [s1]
  by_cases hp : s 3 = 1
  case neg =>
    rw [show plays s = false from decide_eq_false hp]
    refine ⟨fun _ => (m_fails _ _ _).mpr ?_, fun g => absurd rfl g⟩
    rw [q1]
    exact h0 hp _ (FrM_trans (FrM_sV d (k := 0) (K := fun k => k = 0) rfl 0) (FrM_sV (sV d 0 0) (k := 0) (K := fun k => k = 0) rfl 1)) (mv_sV _ _ _)
  rw [show plays s = true from decide_eq_true hp]
  refine ⟨fun g => absurd g (by decide), fun _ => ?_⟩
  have hK : ∀ k, (15 ≤ k ∧ k ≤ 19) ∨ k = 25 → KF k := fun k z => by unfold KF; omega
  have k0 : KF 0 := Or.inl rfl
  have k7 : KF 7 := Or.inr (Or.inl rfl)
  have k26 : KF 26 := by unfold KF; omega
  have k27 : KF 27 := by unfold KF; omega
  refine m_read (tx := tx) (ln := ln) hl (by rw [q1, mr_sV (by decide)]; exact ht) (by rw [q1, mv_sVn (by decide)]; exact h10) _ ?_
  have n21 : ∀ j, j < 21 → ¬ S21 j := fun j hj z => by unfold S21 at z; omega
  cases hc : CS tx ln with
  | inl g =>
    intro d2 f2 hg
    refine ⟨fun z => absurd z (nI_nm (by omega)), fun _ => (m_fails _ _ _).mpr ?_⟩
    refine hF hp g hc _ (FrM_trans (by rw [q1]; exact FrM_sV d k0 0) (FrM_trans (FrM_L f2 (fun j z => z) hK) (FrM_sV _ k0 _))) (mv_sV _ _ _) ?_
    rw [mv_sVn (by decide), f2.2.2.2 7 (by decide) (by decide), q1, mv_sVn (by decide)]
  | inr l =>
    obtain ⟨hl20, hv⟩ := CS_ok hl l hc
    intro d2 f2 g25 ge
    refine ⟨fun _ => m_copyTo Q ?_, fun z => absurd rfl z⟩
    have r2 : ∀ j, j ≠ 0 → j < 21 → mr d2 j = mr d j := fun j a b => by rw [f2.2.2.1 j a (n21 j b), q1, mr_sV a]
    have s2 : mr d2 2 = s := (r2 2 (by decide) (by decide)).trans hs
    rw [s2]
    refine w219 _ (fun d3 e3 d4 e4 => ?_)
    have q3 : d3 = sV (sR d2 29 (frS (mr d2 29) s 369)) 26 0 := e3
    have q4 : d4 = sV d3 27 (-1) := e4
    have r4 : ∀ j, j ≠ 0 → j ≠ 29 → mr d4 j = mr d2 j := fun j a b => by rw [q4, mr_sV a, q3, mr_sV a, mr_sRn b]
    have v4 : ∀ k, k ≠ 26 → k ≠ 27 → mv d4 k = mv d2 k := fun k a b => by rw [q4, mv_sVn b, q3, mv_sVn a, mv_sR (by decide)]
    have x29 : mr d4 29 = frS (mr d2 29) s 369 := by rw [q4, mr_sV (by decide), q3, mr_sV (by decide), mr_sR]
    have hh := hh hp
    have hh4 : mHist d4 (cond false H H) := by
      refine ⟨?_, hh.2.1, fun j r hj k hk => ?_⟩
      · rw [v4 7 (by decide) (by decide), f2.2.2.2 7 (by decide) (by decide), q1, mv_sVn (by decide)]; exact hh.1
      · rw [r4 7 (by decide) (by decide), r2 7 (by decide) (by decide)]; exact hh.2.2 j r hj k hk
    have F4 : FrM RF KF d d4 := by
      refine FrM_trans (b := d1) (by rw [q1]; exact FrM_sV d k0 0) (FrM_trans (FrM_L f2 (fun j z => Or.inl z) hK) ?_)
      refine ⟨by rw [q4, q3]; rfl, by rw [q4, q3]; rfl, fun j a b => r4 j a (fun z => b (by unfold RF; omega)), fun k hk => v4 k (fun z => hk (by rw [z]; exact k26)) (fun z => hk (by rw [z]; exact k27))⟩
    refine m_carry (tr := false) l 0 d4 s H H _ ((r4 2 (by decide) (by decide)).trans s2) hk hp hL ?_ (by omega) (fun j c hj => ⟨?_, hv j c hj⟩) ?_ (by rw [q4]; exact mv_sV _ _ _) hh4 ?_
    · rw [v4 25 (by decide) (by decide), g25, Nat.zero_add]
    · rw [Nat.zero_add]
      have := ge j c hj
      unfold Ent at this ⊢
      rw [r4 21 (by decide) (by decide), r4 22 (by decide) (by decide), r4 23 (by decide) (by decide), r4 24 (by decide) (by decide), r4 25 (by decide) (by decide)]
      exact this
    · rw [q4, mv_sVn (by decide), q3]; exact mv_sV _ _ _
    · intro d' f' g2 _ _ gh
      have gd := CO_gd l s H 0 hk hp hL hv
      refine m_copyBack _ Q ?_
      have y29 : mr d' 29 = frS (mr d2 29) s 369 := (f'.2.2.1 29 (by decide) (by decide) (by decide) (by decide)).trans x29
      rw [g2, y29, frS_back gd.1.1 hk]
      refine hG hp l hc _ (FrM_trans F4 (FrM_trans (FrM_K f' ⟨by unfold RF; omega, by unfold RF; omega, by unfold RF; omega⟩ ⟨k7, k26, k27⟩) ⟨rfl, rfl, fun j _ b => mr_sRn (fun z => b (by unfold RF; omega)) d' s, fun k _ => mv_sR (by decide) d' k s⟩)) ?_ (mr_sR _ _ _) ?_
      · rw [mv_sR (by decide), f'.2.2.2 0 (by decide) (by decide) (by decide), v4 0 (by decide) (by decide), f2.2.2.2 0 (by decide) (by decide), q1]; exact mv_sV _ _ _
      · exact ⟨(mv_sR (by decide) d' 7 s).trans gh.1, gh.2.1, fun j r hj k hk => by rw [mr_sRn (by decide)]; exact gh.2.2 j r hj k hk⟩
end OF2
