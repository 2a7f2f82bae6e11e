/-! the check's reader: all commands -/
def FrL (d d' : ax_D) : Prop := d'.1 = d.1 ∧ d'.2.2 = d.2.2 ∧ (∀ j, j ≠ 0 → ¬ S21 j → mr d' j = mr d j) ∧ ∀ k, ¬ (15 ≤ k ∧ k ≤ 19) → k ≠ 25 → mv d' k = mv d k
theorem FrL_C {c : Nat} {d e : ax_D} (h : FrC c d e) : FrL d e := ⟨h.1, h.2.1, h.2.2.1, h.2.2.2.2⟩
theorem FrL_N {d e : ax_D} (h : FrN d e) : FrL d e := ⟨h.1, h.2.1, fun j hj _ => h.2.2.1 j hj, fun k hk _ => h.2.2.2 k hk⟩
theorem FrL_trans {d e g : ax_D} (h1 : FrL d e) (h2 : FrL e g) : FrL d g := ⟨h2.1.trans h1.1, h2.2.1.trans h1.2.1, fun j hj hs => (h2.2.2.1 j hj hs).trans (h1.2.2.1 j hj hs), fun k hk h25 => (h2.2.2.2 k hk h25).trans (h1.2.2.2 k hk h25)⟩
def LsQ (d : ax_D) (i : Nat) (r : Nat ⊕ List Cd) (Q : ax_P) : Prop := match r with
  | Sum.inl f => ∀ d', FrL d d' → f ≤ 80 → Q d' (Sum.inl (some (Sum.inl (nI f))))
  | Sum.inr l => ∀ d', FrL d d' → mv d' 25 = nI (i + l.length) → (∀ j k, j ≠ 0 → k < i → mr d' j k = mr d j k) → (∀ j c, l[j]? = some c → Ent d' (i + j) (cmT c)) → Q d' (Sum.inl (some (Sum.inl (-1))))
section MA
variable {tx : Row} {ln : Nat}
theorem Ent_k {d d' : ax_D} {c : Nat} {k : Cmd} (h : Ent d c k) (e : ∀ j, j ≠ 0 → mr d' j c = mr d j c) : Ent d' c k := by
  unfold Ent at h ⊢
  rw [e 21 (by decide), e 22 (by decide), e 23 (by decide), e 24 (by decide), e 25 (by decide)]
  exact h
theorem h232_f {d : ax_D} {Q : ax_P} {f : Nat} (h16 : mv d 16 = 0) (h : mv d 15 = nI f) (hQ : Q d (Sum.inl (some (Sum.inl (nI f))))) : h232_19 d Q := by
  have e : ax_row d 9 0 0 15 = nI f := h
  refine w232_19 ⟨fun _ => ⟨fun _ => ?_, fun g => absurd h16 g⟩, fun g => absurd h16 g⟩
  rw [e]
  exact hQ
theorem m_all (hl : ln ≤ 80) : ∀ n i (d : ax_D) (a : Nat), n + i = 22 → 4 * i ≤ a → a ≤ ln → Rm d tx ln a → mv d 16 = 1 → mv d 25 = nI i → ∀ Q : ax_P, LsQ d i (CSN tx ln n a) Q → CT 231 [ax_vR 9 0 0] d (kV (fun d4 => h232_19 d4 Q) (fun E d => Q d (Sum.inr E))) := by
  intro n
  induction n with
  | zero => intro i d a h1 h2 h3; omega
  | succ n ih =>
    intro i d a h1 h2 ha hr h16 h25 Q hQ
    refine m_cmd hr hl ha h16 h25 (by omega) _ ?_
    unfold CSN at hQ
    cases hc : CM tx ln a with
    | inl f =>
      simp only [hc] at hQ
      exact fun d' f' r' k16 => h232_f k16 r'.2.2 (hQ d' (FrL_C f') (Nat.le_trans (CM_fb ha hc) hl))
    | inr cb =>
      obtain ⟨c, b⟩ := cb
      simp only [hc] at hQ
      obtain ⟨b1, b2, -⟩ := CM_b ha hc
      intro d1 f1 r1 k16 k25 hent
      have n16 : ¬ ax_row d1 9 0 0 16 = 0 := fun g => absurd (k16.symm.trans g) (by decide)
      have e15 : ax_row d1 9 0 0 15 = nI b := r1.2.2
      have e10 : ax_row d1 9 0 0 10 = nI ln := r1.2.1
      have e25 : ax_row d1 9 0 0 25 = nI (i + 1) := k25
      refine w232_19 ⟨fun g => absurd g n16, fun _ => ?_⟩
      rw [e15, e10, e25]
      refine ⟨fun g => ⟨fun g => absurd g n16, fun _ => ?_⟩, fun g => ⟨fun g2 => absurd g2 ?_, fun _ => ?_⟩⟩
      · have g : b = ln := by
          rcases Nat.lt_or_ge b ln with q | q
          · exact absurd g (nI_ge q (by omega))
          · omega
        rw [if_pos g] at hQ
        refine hQ d1 (FrL_C f1) k25 (fun j k hj hk => f1.2.2.2.1 j k hj (by omega)) (fun j c' hj => ?_)
        cases j with
        | zero =>
          have : c = c' := Option.some.inj hj
          rw [← this]
          exact hent
        | succ j => cases hj
      · rw [Int32.not_le]
        exact nI_lt (b := 30) (by omega) (by omega)
      · have g : ¬ b = ln := fun z => g (by rw [z]; exact nI_le (Nat.le_refl _) (by omega))
        rw [if_neg g] at hQ
        refine m_must r1 hl b2 k16 (by omega) _ ?_
        cases hw : RW tx ln 33 1 b with
        | inl f =>
          simp only [hw] at hQ ⊢
          intro d2 f2 r2 z16
          refine ⟨fun _ => h232_f z16 r2.2.2 (hQ d2 (FrL_trans (FrL_C f1) (FrL_N f2)) (Nat.le_trans (RW_fb b2 hw) hl)), fun g => absurd z16 g⟩
        | inr w =>
          simp only [hw] at hQ ⊢
          obtain ⟨m1, m2, m3⟩ := RW_lt hw
          have ew : w = 33 := by omega
          rw [ew] at m3
          have hb2 : b + 2 ≤ ln := full_ln b2 m3
          intro d2 f2 r2 z16
          have r2 : Rm d2 tx ln (b + 2) := r2
          refine ⟨fun g => absurd (z16.symm.trans g) (by decide), fun _ => ?_⟩
          refine ih (i + 1) d2 (b + 2) (by omega) (by omega) hb2 r2 z16 ((f2.2.2.2 25 (by omega)).trans k25) Q ?_
          cases hs : CSN tx ln n (b + 2) with
          | inl f =>
            simp only [hs] at hQ
            exact fun d6 f6 hf => hQ d6 (FrL_trans (FrL_C f1) (FrL_trans (FrL_N f2) f6)) hf
          | inr l =>
            simp only [hs] at hQ
            intro d6 f6 g25 gold gnew
            have elen : i + (c :: l).length = i + 1 + l.length := by rw [List.length_cons]; omega
            refine hQ d6 (FrL_trans (FrL_C f1) (FrL_trans (FrL_N f2) f6)) (by rw [elen]; exact g25) (fun j k hj hk => ?_) (fun j c' hj => ?_)
            · rw [gold j k hj (by omega), f2.2.2.1 j hj]
              exact f1.2.2.2.1 j k hj (by omega)
            · cases j with
              | zero =>
                have : c = c' := Option.some.inj hj
                rw [← this]
                exact Ent_k hent (fun j hj => by rw [Nat.add_zero, gold j i hj (by omega), f2.2.2.1 j hj])
              | succ j =>
                have := gnew j c' hj
                rw [show i + 1 + j = i + (j + 1) by omega] at this
                exact this
/-- the check reads as the class does -/
theorem m_read {d : ax_D} (hl : ln ≤ 80) (ht : mr d 10 = tx) (h10 : mv d 10 = nI ln) (Q : ax_P) (hQ : match CS tx ln with
    | Sum.inl f => ∀ d', FrL d d' → f ≤ 80 → Q d' (Sum.inl (some (Sum.inl (nI f))))
    | Sum.inr l => ∀ d', FrL d d' → mv d' 25 = nI l.length → (∀ j c, l[j]? = some c → Ent d' j (cmT c)) → Q d' (Sum.inl (some (Sum.inl (-1))))) : CT 232 [ax_vR 9 0 0] d Q := by
  refine w232 (fun d1 e1 d2 e2 d3 e3 => ?_)
  have q1 : d1 = sV d 15 0 := e1
  have q2 : d2 = sV d1 25 0 := e2
  have q3 : d3 = sV d2 16 1 := e3
  have R1 : Rm d1 tx ln 0 := by
    rw [q1]
    exact ⟨(mr_sV (by decide) d 15 0).trans ht, (mv_sVn (by decide) d 0).trans h10, mv_sV d 15 0⟩
  have R3 : Rm d3 tx ln 0 := by rw [q3, q2]; exact Rm_sV (Rm_sV R1 (by decide) (by decide) _) (by decide) (by decide) _
  have F : FrL d d3 := by
    rw [q3, q2, q1]
    refine ⟨rfl, rfl, fun j hj _ => ?_, fun k hk h25 => ?_⟩
    · rw [mr_sV hj, mr_sV hj, mr_sV hj]
    · rw [mv_sVn (by omega), mv_sVn h25, mv_sVn (by omega)]
  refine m_all hl 22 0 d3 0 rfl (Nat.zero_le _) (Nat.zero_le _) R3 (by rw [q3]; exact mv_sV _ _ _) (by rw [q3, mv_sVn (by decide), q2]; exact mv_sV _ _ _) Q ?_
  cases hc : CSN tx ln 22 0 with
  | inl f =>
    rw [show CS tx ln = Sum.inl f from hc] at hQ
    exact fun d' f hf => hQ d' (FrL_trans F f) hf
  | inr l =>
    rw [show CS tx ln = Sum.inr l from hc] at hQ
    intro d' f g25 _ gnew
    exact hQ d' (FrL_trans F f) (by rw [g25, Nat.zero_add]) (fun j c hj => by have := gnew j c hj; rw [Nat.zero_add] at this; exact this)
theorem oneS_any (s : Row) (v n a x y x' y' : Int32) : oneS s (v, n, a, x, y) = oneS s (v, n, a, x', y') := rfl
/-- what the check holds does what the class's command does -/
theorem ent_act {d : ax_D} {c : Nat} {k : Cmd} (h : Ent d c k) (hk : CmdOk k) (s : Row) : actS s (mr d 21 c, mr d 22 c, mr d 23 c, mr d 24 c, mr d 25 c) = actS s k ∧ CmdOk (mr d 21 c, mr d 22 c, mr d 23 c, mr d 24 c, mr d 25 c) := by
  obtain ⟨v, n, a, n2, a2⟩ := k
  obtain ⟨h1, h2, h3, h4⟩ := h
  obtain ⟨⟨w, hw, ew⟩, hd⟩ := hk
  simp only at h1 h2 h3 h4 ew hd
  refine ⟨?_, ⟨⟨w, hw, h1.trans ew⟩, fun e => ?_⟩⟩
  · rw [h1]
    rcases (by omega : w = 0 ∨ w = 1 ∨ w = 2 ∨ (3 ≤ w ∧ w ≤ 8) ∨ (9 ≤ w ∧ w ≤ 12) ∨ w = 13 ∨ w = 14) with q | q | q | q | q | q | q
    · have e : v = 0 := by rw [ew, q]; rfl
      rw [actS_eq, actS_eq, decide_eq_true e, cond_true, cond_true]
    · have e : v = 1 := by rw [ew, q]; rfl
      rw [actS_eq, actS_eq, decide_eq_false (show ¬ v = 0 by rw [e]; decide), decide_eq_true e, cond_false, cond_true, cond_false, cond_true]
    · have e : v = 2 := by rw [ew, q]; rfl
      rw [h2 e, actS_eq, actS_eq, decide_eq_false (show ¬ v = 0 by rw [e]; decide), decide_eq_false (show ¬ v = 1 by rw [e]; decide), decide_eq_true e, cond_false, cond_false, cond_true, cond_false, cond_false, cond_true]
    · have hin : inB v 3 12 = true := by
        rw [ew]
        exact inB_iff.mpr ⟨nI_le (a := 3) q.1 (by omega), nI_le (b := 12) (by omega) (by omega)⟩
      obtain ⟨g1, g2⟩ := h3 hin
      have e8 : decide (8 < v) = false := decide_eq_false (by rw [ew, Int32.not_lt]; exact nI_le (b := 8) q.2 (by omega))
      rw [g1, g2, actS_eq, actS_eq, e8, cond_false, cond_false, oneS_any s v n a (mr d 24 c) (mr d 25 c) n2 a2]
    · have hin : inB v 3 12 = true := by
        rw [ew]
        exact inB_iff.mpr ⟨nI_le (a := 3) (by omega) (by omega), nI_le (b := 12) (by omega) (by omega)⟩
      have hin2 : inB v 9 12 = true := by
        rw [ew]
        exact inB_iff.mpr ⟨nI_le (a := 9) q.1 (by omega), nI_le (b := 12) (by omega) (by omega)⟩
      obtain ⟨g1, g2⟩ := h3 hin
      obtain ⟨g3, g4⟩ := h4 hin2
      rw [g1, g2, g3, g4]
    · have e : v = 13 := by rw [ew, q]; rfl
      rw [actS_eq, actS_eq, decide_eq_false (show ¬ v = 0 by rw [e]; decide), decide_eq_false (show ¬ v = 1 by rw [e]; decide), decide_eq_false (show ¬ v = 2 by rw [e]; decide), decide_eq_true e]
      simp only [cond_false, cond_true]
    · have e : v = 14 := by rw [ew, q]; rfl
      rw [actS_eq, actS_eq, decide_eq_false (show ¬ v = 0 by rw [e]; decide), decide_eq_false (show ¬ v = 1 by rw [e]; decide), decide_eq_false (show ¬ v = 2 by rw [e]; decide), decide_eq_false (show ¬ v = 13 by rw [e]; decide), decide_eq_true e]
      simp only [cond_false, cond_true]
  · have e : mr d 21 c = 2 := e
    show ∃ k, k < 6 ∧ mr d 22 c = nI k
    rw [h2 (h1.symm.trans e)]
    exact hd (h1.symm.trans e)
end MA
