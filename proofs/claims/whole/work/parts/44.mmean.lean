/-! the check's meaning of a noun phrase, and its whole command -/
theorem ct0 {p : Nat → Bool} {n : Nat} (hn : n ≤ 32) : setI p n = 0 ↔ fb_ct p n = 0 := by rw [setI_0 hn, fb_ct_zero]
theorem first_one {p : Nat → Bool} {n : Nat} (h : fb_ct p n = 1) : ∃ i, first p n = some i ∧ i < n ∧ p i = true := by
  obtain ⟨i, hi, hp, -⟩ := ct_one.mp h
  cases hf : first p n with
  | none => exact absurd (hp.symm.trans (first_none hf i hi)) (by decide)
  | some j => exact ⟨j, rfl, (first_some hf).1, (first_some hf).2.1⟩
theorem m_single {p : Nat → Bool} {n : Nat} (hn : n ≤ 16) (d : ax_D) (Q : ax_P) : CT 193 [Sum.inl (setI p n)] d Q ↔ Q d (Sum.inl (some (Sum.inl (b2i (decide (fb_ct p n = 1)))))) := by
  refine ct_iff (w193 _ ?_) Q
  refine ⟨fun g => ?_, fun g => ⟨fun g2 => ?_, fun g2 => ?_⟩⟩
  · have := (ct0 (show n ≤ 32 by omega)).mp g
    rw [decide_eq_false (by omega)]
    exact ⟨rfl, rfl⟩
  · rw [decide_eq_true ((setI_one hn g).mp g2)]
    exact ⟨rfl, rfl⟩
  · rw [decide_eq_false (fun e => g2 ((setI_one hn g).mpr e))]
    exact ⟨rfl, rfl⟩
theorem m_lowest {p : Nat → Bool} {n i : Nat} (hn : n ≤ 16) (hf : first p n = some i) (d : ax_D) (Q : ax_P) : CT 194 [Sum.inl (setI p n)] d Q ↔ Q d (Sum.inl (some (Sum.inl (nI i)))) := by
  refine ct_iff (w194 _ ?_) Q
  obtain ⟨f1, f2, f3⟩ := first_some hf
  refine lp_up (fun j => h194_2 (setI p n) (nI j) d (fun d' r => d' = d ∧ r = Sum.inl (some (Sum.inl (nI i))))) i ?_ ?_ 0 (by omega)
  · refine w194_2 _ _ ?_
    rw [bt_sh (show i < 32 by omega), bt_setI (by omega) (by omega), decide_eq_true f1, f2]
    exact ⟨fun x => (by cases x), fun _ => ⟨rfl, rfl⟩⟩
  · intro j hj ih
    refine w194_2 _ _ ?_
    rw [bt_sh (show j < 32 by omega), bt_setI (by omega) (by omega), f3 j hj, Bool.and_false, nI_1]
    exact ⟨fun _ => ih, fun x => absurd rfl x⟩
def mtD (d : ax_D) (r : Int32 ⊕ Nat) : ax_D := match r with
  | Sum.inl w => sV (sV d 26 w) 27 (-1)
  | Sum.inr _ => d
def mtV (r : Int32 ⊕ Nat) : Int32 := match r with
  | Sum.inl _ => -1
  | Sum.inr t => nI t
/-- the one that is meant, out of a set -/
def oneOf (p : Nat → Bool) (n : Nat) : Int32 ⊕ Nat := cond (decide (fb_ct p n = 1)) (match first p n with
  | some t => Sum.inr t
  | none => Sum.inl 1) (Sum.inl (cond (decide (fb_ct p n = 0)) 1 2))
theorem meantS_eq (s : Row) (n a p : Int32) : meantS s n a p = oneOf (meantP s n a p) (nT s) := rfl
section MM
variable {d : ax_D} {s : Row}
theorem m_visOf (hs : mr d 2 = s) (h : Ok s) (hp : s 3 = 1) (n a : Int32) (Q : ax_P) : CT 195 [ax_vR 9 0 0, Sum.inl n, Sum.inl a] d Q ↔ Q d (Sum.inl (some (Sum.inl (setI (vis s n a) (nT s))))) := by
  refine ct_iff (w195 _ _ ?_) Q
  have hT := Ok_T h
  refine lp_up (fun i => h195_5 n a (setI (vis s n a) i) (nI i) d (fun d' r => d' = d ∧ r = Sum.inl (some (Sum.inl (setI (vis s n a) (nT s)))))) (nT s) ?_ ?_ 0 (by omega)
  · refine w195_5 _ _ _ _ ?_
    rw [show ax_row d 9 0 2 1 = nI (nT s) from (congrFun hs 1).trans hT.1]
    exact ⟨fun _ => ⟨rfl, rfl⟩, fun x => absurd (nI_le (Nat.le_refl _) (by omega)) x⟩
  · intro i hi ih
    have hl := Ok_lt h hi
    have hj : h195_63 n a (setI (vis s n a) i) (nI i) (b2i (vis s n a i)) d (fun d' r => d' = d ∧ r = Sum.inl (some (Sum.inl (setI (vis s n a) (nT s))))) := by
      refine w195_63 _ _ _ _ _ ?_
      rw [setI_succ] at ih
      rw [nI_1]
      refine ⟨fun g => ?_, fun g => ?_⟩
      · rw [b2i_0] at g
        rw [g] at ih
        rw [show setI (vis s n a) i ||| 0 = setI (vis s n a) i by simp]
        exact ih
      · rw [b2i_0, Bool.not_eq_false] at g
        rw [g] at ih
        exact ih
    rw [show vis s n a i = (decide (s (127 + i) = n) && ((decide (a = 0) || decide (s (143 + i) = a)) && seen s i)) from rfl] at hj
    refine w195_5 _ _ _ _ ?_
    simp only [f_mv, f_sV, f_sV', f_sR, f_mr, mr_sR, mv_sV, sV_sV, sR_sR, kV_r, kV_x, kI_r, kI_x, kR_r, kF_r, kD_r, forall_eq, not_true_eq_false, not_false_eq_true, false_implies, true_implies, true_and, and_true, b2i_0, b2i_1, b2i_01, b2i_t, b2i_f, decide_true, decide_false, Bool.not_true, Bool.not_false, i1_0, hs, hT.1, le_no hi (show nT s < 2 ^ 31 by omega), in_127 hl, cl_127 hl, in_143 hl, cl_143 hl, m_see hs h (decide_eq_true hp) hi]
    refine ⟨fun g1 => ⟨fun g2 => ⟨fun g3 => ?_, fun g3 => ?_⟩, fun g2 => ⟨fun g4 => ⟨fun g3 => ?_, fun g3 => ?_⟩, fun g4 => ?_⟩⟩, fun g1 => ?_⟩
    · rw [decide_eq_true g1, decide_eq_true g2, g3] at hj
      exact hj
    · rw [Bool.not_eq_false] at g3
      rw [decide_eq_true g1, decide_eq_true g2, g3] at hj
      exact hj
    · rw [decide_eq_true g1, decide_eq_true g4, g3, decide_eq_false g2] at hj
      exact hj
    · rw [Bool.not_eq_false] at g3
      rw [decide_eq_true g1, decide_eq_true g4, g3, decide_eq_false g2] at hj
      exact hj
    · rw [decide_eq_true g1, decide_eq_false g4, decide_eq_false g2] at hj
      exact hj
    · rw [decide_eq_false g1] at hj
      exact hj
theorem m_carSet (hs : mr d 2 = s) (h : Ok s) (Q : ax_P) : CT 192 [ax_vR 9 0 0] d Q ↔ Q d (Sum.inl (some (Sum.inl (setI (car s) (nT s))))) := by
  refine ct_iff (w192 ?_) Q
  have hT := Ok_T h
  refine lp_up (fun i => h192_4 (setI (car s) i) (nI i) d (fun d' r => d' = d ∧ r = Sum.inl (some (Sum.inl (setI (car s) (nT s)))))) (nT s) ?_ ?_ 0 (by omega)
  · refine w192_4 _ _ ?_
    rw [show ax_row d 9 0 2 1 = nI (nT s) from (congrFun hs 1).trans hT.1]
    exact ⟨fun _ => ⟨rfl, rfl⟩, fun x => absurd (nI_le (Nat.le_refl _) (by omega)) x⟩
  · intro i hi ih
    have hl := Ok_lt h hi
    refine w192_4 _ _ ?_
    rw [setI_succ, show car s i = decide (s (255 + i) = 3) from rfl] at ih
    simp only [f_mv, f_sV, f_sV', f_sR, f_mr, mr_sR, mv_sV, sV_sV, sR_sR, kV_r, kV_x, kI_r, kI_x, kR_r, kF_r, kD_r, forall_eq, not_true_eq_false, not_false_eq_true, false_implies, true_implies, true_and, and_true, b2i_0, b2i_1, b2i_01, b2i_t, b2i_f, decide_true, decide_false, Bool.not_true, Bool.not_false, i1_0, hs, hT.1, le_no hi (show nT s < 2 ^ 31 by omega), in_255 hl, cl_255 hl, nI_1]
    refine ⟨fun g => ?_, fun g => ?_⟩
    · rw [decide_eq_true g] at ih
      exact ih
    · rw [decide_eq_false g] at ih
      rw [show setI (car s) i ||| 0 = setI (car s) i by simp]
      exact ih
theorem m_meantE {q : Nat → Bool} {n : Nat} (hn : n ≤ 16) (v1 v2 v3 v4 v5 v6 : Int32) : h196_65 v1 v2 v3 v4 v5 v6 (setI q n) d (fun d' r => d' = mtD d (oneOf q n) ∧ r = Sum.inl (some (Sum.inl (mtV (oneOf q n))))) := by
  refine w196_65 _ _ _ _ _ _ _ ?_
  simp only [f_mv, f_sV, f_sV', f_sR, f_mr, mr_sR, mv_sV, sV_sV, sR_sR, kV_r, kV_x, kI_r, kI_x, kR_r, kF_r, kD_r, forall_eq, not_true_eq_false, not_false_eq_true, false_implies, true_implies, true_and, and_true, b2i_0, b2i_1, b2i_01, b2i_t, b2i_f, decide_true, decide_false, Bool.not_true, Bool.not_false, i1_0, m_single hn, m_refuses]
  unfold oneOf
  refine ⟨fun g => ⟨fun g2 => ?_, fun g2 => ?_⟩, fun g => ?_⟩
  · rw [g, decide_eq_true ((ct0 (show n ≤ 32 by omega)).mp g2)]
    exact ⟨rfl, rfl⟩
  · rw [g, decide_eq_false (fun e => g2 ((ct0 (show n ≤ 32 by omega)).mpr e))]
    exact ⟨rfl, rfl⟩
  · rw [Bool.not_eq_false] at g
    obtain ⟨i, hf, -⟩ := first_one (of_decide_eq_true g)
    rw [g, hf, m_lowest hn hf]
    exact ⟨rfl, rfl⟩
theorem m_meant (hs : mr d 2 = s) (h : Ok s) (hp : s 3 = 1) (n a p : Int32) (Q : ax_P) : CT 196 [ax_vR 9 0 0, Sum.inl n, Sum.inl a, Sum.inl p] d Q ↔ Q (mtD d (meantS s n a p)) (Sum.inl (some (Sum.inl (mtV (meantS s n a p))))) := by
  refine ct_iff (w196 _ _ _ ?_) Q
  have hT := (Ok_T h).2
  rw [meantS_eq]
  simp only [f_mv, f_sV, f_sV', f_sR, f_mr, mr_sR, mv_sV, sV_sV, sR_sR, kV_r, kV_x, kI_r, kI_x, kR_r, kF_r, kD_r, forall_eq, not_true_eq_false, not_false_eq_true, false_implies, true_implies, true_and, and_true, b2i_0, b2i_1, b2i_01, b2i_t, b2i_f, decide_true, decide_false, Bool.not_true, Bool.not_false, i1_0, m_visOf hs h hp, m_carSet hs h, m_single hT]
  have go : ∀ (v1 v2 v3 v4 v5 v6 : Int32) (q : Nat → Bool), meantP s n a p = q → h196_65 v1 v2 v3 v4 v5 v6 (setI q (nT s)) d (fun d' r => d' = mtD d (oneOf (meantP s n a p) (nT s)) ∧ r = Sum.inl (some (Sum.inl (mtV (oneOf (meantP s n a p) (nT s)))))) := fun v1 v2 v3 v4 v5 v6 q e => by
    rw [e]
    exact m_meantE hT v1 v2 v3 v4 v5 v6
  have e1 : p = 1 → prefS s n a p = fun t => vis s n a t && !car s t := fun e => by funext t; unfold prefS; rw [decide_eq_true e]; rfl
  have e2 : ¬ p = 1 → p = 2 → prefS s n a p = fun t => vis s n a t && car s t := fun e e9 => by funext t; unfold prefS; rw [decide_eq_false e, decide_eq_true e9]; rfl
  have e3 : ¬ p = 1 → ¬ p = 2 → prefS s n a p = fun _ => false := fun e e9 => by funext t; unfold prefS; rw [decide_eq_false e, decide_eq_false e9]; rfl
  have z0 : fb_ct (fun _ : Nat => false) (nT s) = 0 := fb_ct_zero.mpr (fun _ _ => rfl)
  refine ⟨fun g => ⟨fun g2 => ⟨fun g3 => ?_, fun g3 => ?_⟩, fun g2 => ?_⟩, fun g => ⟨fun g1 => ⟨fun g2 => ⟨fun g3 => ?_, fun g3 => ?_⟩, fun g2 => ?_⟩, fun g1 => ?_⟩⟩
  · rw [setI_andn (by omega), ct0 (by omega), ← e1 g] at g3
    exact go _ _ _ _ _ _ _ (by unfold meantP; rw [g2, decide_eq_true g3]; rfl)
  · rw [setI_andn (by omega), ct0 (by omega), ← e1 g] at g3
    rw [setI_andn (by omega), ← e1 g]
    exact go _ _ _ _ _ _ _ (by unfold meantP; rw [g2, decide_eq_false g3]; rfl)
  · rw [Bool.not_eq_false] at g2
    exact go _ _ _ _ _ _ _ (by unfold meantP; rw [g2]; rfl)
  · rw [setI_and (by omega), ct0 (by omega), ← e2 g g1] at g3
    exact go _ _ _ _ _ _ _ (by unfold meantP; rw [g2, decide_eq_true g3]; rfl)
  · rw [setI_and (by omega), ct0 (by omega), ← e2 g g1] at g3
    rw [setI_and (by omega), ← e2 g g1]
    exact go _ _ _ _ _ _ _ (by unfold meantP; rw [g2, decide_eq_false g3]; rfl)
  · rw [Bool.not_eq_false] at g2
    exact go _ _ _ _ _ _ _ (by unfold meantP; rw [g2]; rfl)
  · have hz : meantP s n a p = vis s n a := by
      unfold meantP
      rw [e3 g g1, z0]
      simp
    first | exact go _ _ _ _ _ _ _ hz | exact ⟨fun _ => go _ _ _ _ _ _ _ hz, fun _ => go _ _ _ _ _ _ _ hz⟩
theorem oneOf_lt {q : Nat → Bool} {n t : Nat} (h : oneOf q n = Sum.inr t) : t < n ∧ q t = true := by
  unfold oneOf at h
  by_cases e : fb_ct q n = 1
  · obtain ⟨i, hf, h1, h2⟩ := first_one e
    rw [decide_eq_true e, hf] at h
    cases h
    exact ⟨h1, h2⟩
  · rw [decide_eq_false e] at h
    cases h
theorem meant_lt {n a p : Int32} {t : Nat} (h : meantS s n a p = Sum.inr t) : t < nT s ∧ seen s t = true := by
  rw [meantS_eq] at h
  obtain ⟨h1, h2⟩ := oneOf_lt h
  refine ⟨h1, ?_⟩
  have hv : vis s n a t = true := by
    unfold meantP at h2
    cases hc : (!decide (fb_ct (vis s n a) (nT s) = 1) && !decide (fb_ct (prefS s n a p) (nT s) = 0)) with
    | false => rw [hc] at h2; exact h2
    | true =>
      rw [hc] at h2
      have h2 : prefS s n a p t = true := h2
      unfold prefS at h2
      by_cases e1 : p = 1
      · rw [decide_eq_true e1] at h2
        exact ((Bool.and_eq_true _ _).mp h2).1
      · rw [decide_eq_false e1] at h2
        by_cases e2 : p = 2
        · rw [decide_eq_true e2] at h2
          exact ((Bool.and_eq_true _ _).mp h2).1
        · rw [decide_eq_false e2] at h2
          cases h2
  unfold vis at hv
  rw [Bool.and_eq_true, Bool.and_eq_true] at hv
  exact hv.2.2
theorem inB_ex {x : Int32} {a b : Nat} (h : inB x (nI a) (nI b) = true) (ha : a < 2 ^ 31) (hb : b < 2 ^ 31) : ∃ n, a ≤ n ∧ n ≤ b ∧ x = nI n := by
  obtain ⟨h1, h2⟩ := inB_iff.mp h
  have e1 := nI_toInt ha
  obtain ⟨j, hj, rfl⟩ := nI_of (x := x) (fun hx => by
    rw [i32_lt] at hx
    rw [i32_le, e1] at h1
    have : (0 : Int32).toInt = 0 := by decide
    omega)
  exact ⟨j, (nI_leI ha hj).mp h1, (nI_leI hj hb).mp h2, rfl⟩
/-- a verb carried out on the things that are meant -/
theorem m_does (hs : mr d 2 = s) (h : Ok s) {v : Int32} {t q : Nat} {x : Int32} (ht : t < nT s) (hv : inB v 3 8 = true ∨ (q < nT s ∧ x = nI q)) (Q : ax_P) : CT 182 [ax_vR 9 0 0, Sum.inl v, Sum.inl (nI t), Sum.inl x] d Q ↔ Q (apA d (doesS s v t q)) (Sum.inl none) := by
  refine ct_iff (w182 _ _ _ ?_) Q
  have hl := Ok_lt h ht
  unfold doesS
  refine ⟨fun g => ?_, fun g3 => ⟨fun g => ?_, fun g4 => ⟨fun g => ?_, fun g5 => ⟨fun g => ?_, fun g6 => ⟨fun g => ?_, fun g7 => ⟨fun g => ?_, fun g8 => ?_⟩⟩⟩⟩⟩⟩
  · simp only [kV_r, kV_x, kI_r, kI_x, kR_r, kF_r, kD_r, forall_eq, not_true_eq_false, not_false_eq_true, false_implies, true_implies, true_and, and_true, b2i_0, b2i_1, b2i_01, b2i_t, b2i_f, decide_true, decide_false, Bool.not_true, Bool.not_false, i1_0, m_take hs h ht, decide_eq_true g, cond_true]
  · simp only [f_mv, f_sV, f_sV', f_sR, f_mr, mr_sR, mv_sV, sV_sV, sR_sR, kV_r, kV_x, kI_r, kI_x, kR_r, kF_r, kD_r, forall_eq, not_true_eq_false, not_false_eq_true, false_implies, true_implies, true_and, and_true, b2i_0, b2i_1, b2i_01, b2i_t, b2i_f, decide_true, decide_false, Bool.not_true, Bool.not_false, i1_0, in_255 hl, cl_255 hl, hs, m_moves hl, m_refuses, decide_eq_true g, decide_eq_false g3, cond_true, cond_false]
    unfold drpS
    refine ⟨fun z => ?_, fun z => ?_⟩
    · rw [decide_eq_true z]
      all_goals first | rfl | exact ⟨rfl, rfl⟩
    · rw [decide_eq_false z]
      all_goals first | rfl | exact ⟨rfl, rfl⟩
  · rw [decide_eq_false g3, decide_eq_false g4, decide_eq_true g, cond_false, cond_false, cond_true]
    have := m_open hs hl true (kV (fun d' => d' = apA d (opnS s t true) ∧ (Sum.inl none : Option ax_V ⊕ Nat) = Sum.inl none) (fun E d_1 => d_1 = apA d (opnS s t true) ∧ (Sum.inr E : Option ax_V ⊕ Nat) = Sum.inl none))
    exact this.mpr ⟨rfl, rfl⟩
  · rw [decide_eq_false g3, decide_eq_false g4, decide_eq_false g5, decide_eq_true g, cond_false, cond_false, cond_false, cond_true]
    have := m_open hs hl false (kV (fun d' => d' = apA d (opnS s t false) ∧ (Sum.inl none : Option ax_V ⊕ Nat) = Sum.inl none) (fun E d_1 => d_1 = apA d (opnS s t false) ∧ (Sum.inr E : Option ax_V ⊕ Nat) = Sum.inl none))
    exact this.mpr ⟨rfl, rfl⟩
  · rw [decide_eq_false g3, decide_eq_false g4, decide_eq_false g5, decide_eq_false g6, decide_eq_true g, cond_false, cond_false, cond_false, cond_false, cond_true]
    have := m_light hs hl true (kV (fun d' => d' = apA d (litS s t true) ∧ (Sum.inl none : Option ax_V ⊕ Nat) = Sum.inl none) (fun E d_1 => d_1 = apA d (litS s t true) ∧ (Sum.inr E : Option ax_V ⊕ Nat) = Sum.inl none))
    exact this.mpr ⟨rfl, rfl⟩
  · rw [decide_eq_false g3, decide_eq_false g4, decide_eq_false g5, decide_eq_false g6, decide_eq_false g7, decide_eq_true g, cond_false, cond_false, cond_false, cond_false, cond_false, cond_true]
    have := m_light hs hl false (kV (fun d' => d' = apA d (litS s t false) ∧ (Sum.inl none : Option ax_V ⊕ Nat) = Sum.inl none) (fun E d_1 => d_1 = apA d (litS s t false) ∧ (Sum.inr E : Option ax_V ⊕ Nat) = Sum.inl none))
    exact this.mpr ⟨rfl, rfl⟩
  · have hq : q < nT s ∧ x = nI q := by
      rcases hv with hv | hv
      · obtain ⟨n, n1, n2, rfl⟩ := inB_ex (a := 3) (b := 8) hv (by omega) (by omega)
        rcases (by omega : n = 3 ∨ n = 4 ∨ n = 5 ∨ n = 6 ∨ n = 7 ∨ n = 8) with e | e | e | e | e | e
        · exact absurd (by rw [e]; rfl) g3
        · exact absurd (by rw [e]; rfl) g4
        · exact absurd (by rw [e]; rfl) g5
        · exact absurd (by rw [e]; rfl) g6
        · exact absurd (by rw [e]; rfl) g7
        · exact absurd (by rw [e]; rfl) g8
      · exact hv
    obtain ⟨hq, rfl⟩ := hq
    rw [decide_eq_false g3, decide_eq_false g4, decide_eq_false g5, decide_eq_false g6, decide_eq_false g7, decide_eq_false g8]
    simp only [cond_false]
    refine ⟨fun g => ?_, fun g9 => ⟨fun g => ?_, fun g10 => ⟨fun g => ?_, fun g11 => ?_⟩⟩⟩
    · rw [decide_eq_true g]
      exact (m_put hs h ht hq (Or.inl rfl) _).mpr (by first | exact ⟨rfl, rfl⟩ | exact ⟨rfl, trivial⟩ | rfl)
    · rw [decide_eq_false g9, decide_eq_true g]
      exact (m_put hs h ht hq (Or.inr rfl) _).mpr (by first | exact ⟨rfl, rfl⟩ | exact ⟨rfl, trivial⟩ | rfl)
    · rw [decide_eq_false g9, decide_eq_false g10, decide_eq_true g]
      exact (m_lok (q := q) hs hl true _).mpr (by first | exact ⟨rfl, rfl⟩ | exact ⟨rfl, trivial⟩ | rfl)
    · rw [decide_eq_false g9, decide_eq_false g10, decide_eq_false g11]
      exact (m_lok (q := q) hs hl false _).mpr (by first | exact ⟨rfl, rfl⟩ | exact ⟨rfl, trivial⟩ | rfl)
/-- a command that can be read -/
def CmdOk (c : Cmd) : Prop := (∃ v, v < 15 ∧ c.1 = nI v) ∧ (c.1 = 2 → ∃ k, k < 6 ∧ c.2.1 = nI k)
theorem ct_of {a : Nat} {as : List ax_V} {d D : ax_D} {R : Option ax_V ⊕ Nat} (h : ∀ Q : ax_P, Q D R → CT a as d Q) (Q : ax_P) : CT a as d Q ↔ Q D R := ct_iff (h _ ⟨rfl, rfl⟩) Q
theorem sk193 {d1 : ax_D} {Q : ax_P} (v1 v2 v3 v4 v5 : Int32) (h : ¬ mv d1 26 = 0) (hq : Q d1 (Sum.inl none)) : h200_193 v1 v2 v3 v4 v5 d1 Q := w200_193 _ _ _ _ _ ⟨fun x => absurd x h, fun _ => ⟨fun x => absurd x h, fun _ => hq⟩⟩
theorem sk170 {d1 : ax_D} {Q : ax_P} (v1 v2 v3 v4 v5 : Int32) (h : ¬ mv d1 26 = 0) (hq : Q d1 (Sum.inl none)) : h200_170 v1 v2 v3 v4 v5 d1 Q := w200_170 _ _ _ _ _ ⟨fun x => absurd x h, fun _ => sk193 _ _ _ _ _ h hq⟩
theorem sk135 {d1 : ax_D} {Q : ax_P} (v1 v2 v3 v4 : Int32) (h : ¬ mv d1 26 = 0) (hq : Q d1 (Sum.inl none)) : h200_135 v1 v2 v3 v4 d1 Q := w200_135 _ _ _ _ ⟨fun x => absurd x h, fun _ => sk170 _ _ _ _ _ h hq⟩
theorem rf26 (d : ax_D) (w x : Int32) : mv (sV (sV d 26 w) 27 x) 26 = w := by rw [mv_sVn (by decide), mv_sV]
theorem h193 (hs : mr d 2 = s) (h : Ok s) (hpp : plays s = true) (h26 : mv d 26 = 0) {v : Int32} (c1 : Int32) (Q : ax_P) {t q : Nat} {x s0 : Int32} (ht : t < nT s) (hx : inB v 3 8 = true ∧ s0 = 0 ∨ (s0 = 1 ∧ q < nT s ∧ x = nI q)) (hq : Q (apA d (cond (decide (s0 = 0) || reach s q) (doesS s v t q) (rf 3 (nI q)))) (Sum.inl none)) : h200_193 c1 v (nI t) s0 x d Q := by
  refine w200_193 _ _ _ _ _ ⟨fun _ => ?_, fun x => absurd h26 x⟩
  rcases hx with ⟨hv8, rfl⟩ | ⟨rfl, hqq, rfl⟩
  · refine ⟨fun _ => ⟨fun _ => ?_, fun x => absurd h26 x⟩, fun x => absurd rfl x⟩
    exact (m_does (q := q) hs h ht (Or.inl hv8) _).mpr hq
  · refine ⟨fun x => absurd x (by decide), fun _ => (m_reach hs h hpp hqq _).mpr ⟨fun g => ?_, fun g => ⟨fun _ => ?_, fun x => absurd h26 x⟩⟩⟩
    · rw [b2i_0] at g
      rw [g] at hq
      refine (m_refuses _ _ _ _).mpr ⟨fun x => ?_, fun _ => hq⟩
      have x : mv _ 26 = 0 := x
      rw [rf26] at x
      exact absurd x (by decide)
    · rw [b2i_0, Bool.not_eq_false] at g
      rw [g] at hq
      exact (m_does (q := q) hs h ht (Or.inr ⟨hqq, rfl⟩) _).mpr hq
theorem h170 (hs : mr d 2 = s) (h : Ok s) (hpp : plays s = true) (h26 : mv d 26 = 0) {v : Int32} (c1 : Int32) (Q : ax_P) {t q : Nat} {x s0 : Int32} (ht : t < nT s) (hx : inB v 3 8 = true ∧ s0 = 0 ∨ (s0 = 1 ∧ q < nT s ∧ x = nI q)) (hq : Q (apA d (cond (reach s t) (cond (decide (s0 = 0) || reach s q) (doesS s v t q) (rf 3 (nI q))) (rf 3 (nI t)))) (Sum.inl none)) : h200_170 c1 v (nI t) s0 x d Q := by
  refine w200_170 _ _ _ _ _ ⟨fun _ => (m_reach hs h hpp ht _).mpr ⟨fun g => ?_, fun g => ?_⟩, fun x => absurd h26 x⟩
  · rw [b2i_0] at g
    rw [g] at hq
    refine (m_refuses _ _ _ _).mpr (sk193 _ _ _ _ _ ?_ hq)
    rw [rf26]
    decide
  · rw [b2i_0, Bool.not_eq_false] at g
    rw [g] at hq
    exact h193 hs h hpp h26 c1 Q ht hx hq
theorem mtw (s : Row) (n a p w : Int32) (h : meantS s n a p = Sum.inl w) : ¬ w = 0 := by
  rw [meantS_eq] at h
  unfold oneOf at h
  cases h1 : decide (fb_ct (meantP s n a p) (nT s) = 1) with
  | true =>
    obtain ⟨i, hf, -⟩ := first_one (of_decide_eq_true h1)
    rw [h1, hf] at h
    cases h
  | false =>
    rw [h1] at h
    cases h2 : decide (fb_ct (meantP s n a p) (nT s) = 0) with
    | true => rw [h2] at h; cases h; decide
    | false => rw [h2] at h; cases h; decide
theorem actS_eq (s : Row) (v n a n2 a2 : Int32) : actS s (v, n, a, n2, a2) = cond (decide (v = 0)) (cond (bright s (nP s)) (ok s) (rf 12 (-1))) (cond (decide (v = 1)) (ok s) (cond (decide (v = 2)) (movS s n.toNatClampNeg)
  (cond (decide (v = 13)) (talS s) (cond (decide (v = 14)) (dalS s) (cond (decide (8 < v)) (twoS s (v, n, a, n2, a2)) (oneS s (v, n, a, n2, a2))))))) := rfl
theorem m_acts (hs : mr d 2 = s) (h : Ok s) (hp : s 3 = 1) (h26 : mv d 26 = 0) {c : Nat} (hc : c < 30) {k : Cmd} (hk : CmdOk k) (hv : mr d 21 c = k.1) (hn : mr d 22 c = k.2.1) (ha : mr d 23 c = k.2.2.1) (hn2 : mr d 24 c = k.2.2.2.1) (ha2 : mr d 25 c = k.2.2.2.2) (Q : ax_P) : CT 200 [ax_vR 9 0 0, Sum.inl (nI c)] d Q ↔ Q (apA d (actS s k)) (Sum.inl none) := by
  refine ct_of (fun Q hQ => w200 _ ?_) Q
  have hpp : plays s = true := decide_eq_true hp
  obtain ⟨h5, h6, h8⟩ := Ok_P h hpp
  obtain ⟨v, n, a, n2, a2⟩ := k
  obtain ⟨⟨vn, hvn, ev⟩, hdir⟩ := hk
  simp only at ev hdir hv hn ha hn2 ha2
  have cl : (nI c).toNatClampNeg = c := nI_clamp (by omega)
  have ci : ax_in (nI c) 30 = true := ax_in_nI hc (by omega)
  have hv' : ax_row d 9 0 21 c = v := hv
  have hn' : ax_row d 9 0 22 c = n := hn
  have ha' : ax_row d 9 0 23 c = a := ha
  have hn2' : ax_row d 9 0 24 c = n2 := hn2
  have ha2' : ax_row d 9 0 25 c = a2 := ha2
  have h5' : ax_row d 9 0 2 5 = nI (nP s) := (congrFun hs 5).trans h5
  have ne : ∀ m, vn ≠ m → m < 100 → ¬ v = nI m := fun m hm hm2 x => hm ((nI_eq (by omega) (by omega)).mp (ev.symm.trans x))
  have ne0 : vn ≠ 0 → ¬ v = 0 := fun h => ne 0 h (by omega)
  have ne1 : vn ≠ 1 → ¬ v = 1 := fun h => ne 1 h (by omega)
  have ne2 : vn ≠ 2 → ¬ v = 2 := fun h => ne 2 h (by omega)
  have ne13 : vn ≠ 13 → ¬ v = 13 := fun h => ne 13 h (by omega)
  have ne14 : vn ≠ 14 → ¬ v = 14 := fun h => ne 14 h (by omega)
  rw [cl, hv', hn', h5']
  refine ⟨ci, ?_⟩
  -- a command with one or two things
  have things : 3 ≤ vn → vn ≤ 12 → h200_66 (nI c) v d Q := by
    intro v3 v12
    have hin : inB v 3 12 = true := by
      rw [ev]
      exact inB_iff.mpr ⟨nI_le (a := 3) v3 (by omega), nI_le (b := 12) v12 (by omega)⟩
    have hact : actS s (v, n, a, n2, a2) = cond (decide (8 < v)) (twoS s (v, n, a, n2, a2)) (oneS s (v, n, a, n2, a2)) := by
      rw [actS_eq, decide_eq_false (ne0 (by omega)), decide_eq_false (ne1 (by omega)), decide_eq_false (ne2 (by omega)), decide_eq_false (ne13 (by omega)), decide_eq_false (ne14 (by omega))]
      rfl
    rw [hact] at hQ
    -- behind the first meaning
    have hm : ∀ p, p = prefV v → CT 196 [ax_vR 9 0 0, Sum.inl n, Sum.inl a, Sum.inl p] d (kI (fun x d' => ((v ≤ 8) → h200_135 (nI c) v x 0 d' Q) ∧ (¬ (v ≤ 8) → h200_135 (nI c) v x 1 d' Q)) (fun E d' => Q d' (Sum.inr E))) := by
      intro p ep
      refine (m_meant hs h hp n a p _).mpr ?_
      show ((v ≤ 8) → h200_135 (nI c) v (mtV (meantS s n a p)) 0 (mtD d (meantS s n a p)) Q) ∧ (¬ (v ≤ 8) → h200_135 (nI c) v (mtV (meantS s n a p)) 1 (mtD d (meantS s n a p)) Q)
      have e8 : (8 < v) = ¬ v ≤ 8 := by rw [Int32.not_le]
      refine ⟨fun g => ?_, fun g => ?_⟩
      · have hQ1 : Q (apA d (oneS s (v, n, a, n2, a2))) (Sum.inl none) := by
          rw [decide_eq_false (by rw [e8]; exact fun x => x g)] at hQ
          exact hQ
        unfold oneS at hQ1
        simp only [← ep] at hQ1
        cases hr : meantS s n a p with
        | inl w =>
          rw [hr] at hQ1
          exact sk135 _ _ _ _ (by show ¬ mv (sV (sV d 26 w) 27 (-1)) 26 = 0; rw [rf26]; exact mtw s n a p w hr) hQ1
        | inr t =>
          rw [hr] at hQ1
          have hv8 : inB v 3 8 = true := inB_iff.mpr ⟨(inB_iff.mp hin).1, g⟩
          refine w200_135 _ _ _ _ ⟨fun _ => ⟨fun _ => ?_, fun x => absurd rfl x⟩, fun x => absurd h26 x⟩
          exact h170 (q := 0) hs h hpp h26 _ Q (meant_lt hr).1 (Or.inl ⟨hv8, rfl⟩) (by simpa using hQ1)
      · have hQ1 : Q (apA d (twoS s (v, n, a, n2, a2))) (Sum.inl none) := by
          rw [decide_eq_true (by rw [e8]; exact g)] at hQ
          exact hQ
        unfold twoS at hQ1
        simp only [← ep] at hQ1
        cases hr : meantS s n a p with
        | inl w =>
          rw [hr] at hQ1
          exact sk135 _ _ _ _ (by show ¬ mv (sV (sV d 26 w) 27 (-1)) 26 = 0; rw [rf26]; exact mtw s n a p w hr) hQ1
        | inr t =>
          rw [hr] at hQ1
          refine w200_135 _ _ _ _ ⟨fun _ => ⟨fun x => absurd x (by decide), fun _ => ⟨ci, ci, ?_⟩⟩, fun x => absurd h26 x⟩
          rw [cl]
          show CT 196 [ax_vR 9 0 0, Sum.inl (ax_row d 9 0 24 c), Sum.inl (ax_row d 9 0 25 c), Sum.inl 0] d _
          rw [hn2', ha2']
          refine (m_meant hs h hp n2 a2 0 _).mpr ?_
          show h200_170 (nI c) v (nI t) 1 (mtV (meantS s n2 a2 0)) (mtD d (meantS s n2 a2 0)) Q
          cases hr2 : meantS s n2 a2 0 with
          | inl w =>
            simp only [hr2] at hQ1
            exact sk170 _ _ _ _ _ (by show ¬ mv (sV (sV d 26 w) 27 (-1)) 26 = 0; rw [rf26]; exact mtw s n2 a2 0 w hr2) hQ1
          | inr q =>
            simp only [hr2] at hQ1
            exact h170 (q := q) hs h hpp h26 _ Q (meant_lt hr).1 (Or.inr ⟨rfl, (meant_lt hr2).1, rfl⟩) (by simpa using hQ1)
    refine w200_66 _ _ ?_
    refine (m_in _ _ _ _ _).mpr ?_
    rw [hin, cl]
    refine ⟨fun x => (by cases x), fun _ => ⟨ci, ci, ?_⟩⟩
    rw [hn', ha']
    refine ⟨fun g => hm 1 (by unfold prefV; rw [decide_eq_true g]; rfl), fun g => ⟨fun g2 => hm 2 (by unfold prefV; rw [decide_eq_false g, decide_eq_true g2]; rfl), fun g2 => (m_in _ _ _ _ _).mpr ⟨fun g3 => hm 0 ?_, fun g3 => hm 2 ?_⟩⟩⟩
    · rw [b2i_0] at g3
      unfold prefV
      rw [decide_eq_false g, decide_eq_false g2, g3]
      rfl
    · rw [b2i_0, Bool.not_eq_false] at g3
      unfold prefV
      rw [decide_eq_false g, decide_eq_false g2, g3]
      rfl
  have nothing : (vn ≤ 2 ∨ 13 ≤ vn) → ∀ d' (Q' : ax_P), Q' d' (Sum.inl none) → h200_66 (nI c) v d' Q' := by
    intro hv3 d' Q' hq
    refine w200_66 _ _ ((m_in _ _ _ _ _).mpr ?_)
    have hin : inB v 3 12 = false := by
      cases hb : inB v 3 12 with
      | false => rfl
      | true =>
        obtain ⟨m, m1, m2, e⟩ := inB_ex (a := 3) (b := 12) hb (by omega) (by omega)
        exact absurd e (ne m (by omega) (by omega))
    rw [hin]
    exact ⟨fun _ => hq, fun x => absurd rfl x⟩
  have front : vn ≤ 2 → ∀ d' (Q' : ax_P), Q' d' (Sum.inl none) → h200_46 (nI c) v d' Q' := fun hv3 d' Q' hq => w200_46 _ _ ⟨fun x => absurd x (ne13 (by omega)), fun _ => ⟨fun x => absurd x (ne14 (by omega)), fun _ => nothing (Or.inl hv3) d' Q' hq⟩⟩
  rcases (by omega : vn = 0 ∨ vn = 1 ∨ vn = 2 ∨ (3 ≤ vn ∧ vn ≤ 12) ∨ vn = 13 ∨ vn = 14) with e | e | e | ⟨e1, e2⟩ | e | e
  · subst e
    have ev : v = 0 := ev
    refine ⟨fun _ => (m_bright hs h h8 _).mpr ⟨fun g => ?_, fun g => ?_⟩, fun x => absurd ev x⟩
    · rw [b2i_0] at g
      refine (m_refuses _ _ _ _).mpr ⟨fun x => absurd x (ne2 (by omega)), fun _ => front (by omega) _ _ ?_⟩
      rw [actS_eq] at hQ
      rw [decide_eq_true ev, g] at hQ
      exact hQ
    · rw [b2i_0, Bool.not_eq_false] at g
      refine ⟨fun x => absurd x (ne2 (by omega)), fun _ => front (by omega) _ _ ?_⟩
      rw [actS_eq] at hQ
      rw [decide_eq_true ev, g] at hQ
      have hQ : Q (sR d 2 s) (Sum.inl none) := hQ
      rw [sR_id d 2 hs] at hQ
      exact hQ
  · subst e
    have ev : v = 1 := ev
    refine ⟨fun x => absurd x (ne0 (by omega)), fun _ => ⟨fun x => absurd x (ne2 (by omega)), fun _ => front (by omega) _ _ ?_⟩⟩
    rw [actS_eq] at hQ
    rw [decide_eq_false (ne0 (by omega)), decide_eq_true ev] at hQ
    have hQ : Q (sR d 2 s) (Sum.inl none) := hQ
    rw [sR_id d 2 hs] at hQ
    exact hQ
  · subst e
    have ev : v = 2 := ev
    obtain ⟨k, hk, ek⟩ := hdir ev
    refine ⟨fun x => absurd x (ne0 (by omega)), fun _ => ⟨fun _ => ⟨ci, ?_⟩, fun x => absurd ev x⟩⟩
    rw [ek]
    refine (m_go hs h hpp hk _).mpr (front (by omega) _ _ ?_)
    rw [actS_eq] at hQ
    rw [decide_eq_false (ne0 (by omega)), decide_eq_false (ne1 (by omega)), decide_eq_true ev] at hQ
    simp only [cond_false, cond_true, ek, nI_clamp (show k < 2 ^ 31 by omega)] at hQ
    exact hQ
  · refine ⟨fun x => absurd x (ne0 (by omega)), fun _ => ⟨fun x => absurd x (ne2 (by omega)), fun _ => w200_46 _ _ ⟨fun x => absurd x (ne13 (by omega)), fun _ => ⟨fun x => absurd x (ne14 (by omega)), fun _ => things e1 e2⟩⟩⟩⟩
  · subst e
    have ev : v = 13 := ev
    refine ⟨fun x => absurd x (ne0 (by omega)), fun _ => ⟨fun x => absurd x (ne2 (by omega)), fun _ => w200_46 _ _ ⟨fun _ => ?_, fun x => absurd ev x⟩⟩⟩
    refine (m_tal hs h hp _).mpr ⟨fun x => absurd x (ne14 (by omega)), fun _ => nothing (Or.inr (by omega)) _ _ ?_⟩
    rw [actS_eq] at hQ
    rw [decide_eq_false (ne0 (by omega)), decide_eq_false (ne1 (by omega)), decide_eq_false (ne2 (by omega)), decide_eq_true ev] at hQ
    exact hQ
  · subst e
    have ev : v = 14 := ev
    refine ⟨fun x => absurd x (ne0 (by omega)), fun _ => ⟨fun x => absurd x (ne2 (by omega)), fun _ => w200_46 _ _ ⟨fun x => absurd x (ne13 (by omega)), fun _ => ⟨fun _ => ?_, fun x => absurd ev x⟩⟩⟩⟩
    refine (m_dal hs h hp _).mpr (nothing (Or.inr (by omega)) _ _ ?_)
    rw [actS_eq] at hQ
    rw [decide_eq_false (ne0 (by omega)), decide_eq_false (ne1 (by omega)), decide_eq_false (ne2 (by omega)), decide_eq_false (ne13 (by omega)), decide_eq_true ev] at hQ
    exact hQ
end MM
