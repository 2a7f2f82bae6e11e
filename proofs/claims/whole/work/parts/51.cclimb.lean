/-! the class's climbs and sums -/
section CM
variable {d : ax_D} {w : Nat} {s : Row}
theorem c_out31 (h : CC d w s) (v1 v3 : Int32) {t : Nat} (ht : t < nT s) (hh : held s t = false) : h56_31 w v1 (nI t) v3 d (fun d' r => d' = d ∧ r = Sum.inl (some (Sum.inl (outS s t)))) := by
  refine w56_31 _ _ _ _ ?_
  have hl := Ok_lt h.2.2 ht
  simp only [c_isTh h, isTh_nI h.2.2 ht, ax_in_nI hl (by omega), nI_clamp (show t < 2 ^ 31 by omega), (h.2.1.1 t hl).1, (h.2.1.1 t hl).2.1, kV_r, kV_x, kI_r, kI_x, kR_r, kF_r, kD_r, forall_eq, not_true_eq_false, not_false_eq_true, false_implies, true_implies, true_and, and_true, b2i_0, b2i_1, b2i_01, b2i_t, b2i_f, decide_true, decide_false, Bool.not_true, Bool.not_false, i1_0]
  unfold outS
  rcases (h.2.2.2.1 t ht).1 with ⟨e, -⟩ | ⟨e, -⟩ | ⟨e, -⟩ | ⟨e, -⟩ | ⟨e, -⟩
  · simp [e]
  · exact absurd (held_iff.mpr (Or.inl e)) (by rw [hh]; decide)
  · exact absurd (held_iff.mpr (Or.inr e)) (by rw [hh]; decide)
  · simp [e]
  · simp [e]
theorem c_outer (h : CC d w s) {t : Nat} (ht : t < nT s) (Q : ax_P) : CT 56 [ax_vR 7 w 0, Sum.inl (nI t)] d Q ↔ Q d (Sum.inl (some (Sum.inl (outer s t)))) := by
  refine ct_iff (w56 _ _ ?_) Q
  have hT := (Ok_T h.2.2).2
  have key : ∀ v n t i, t < nT s → Rt s n t → i + n < 16 → h56_4 w v (nI t) (nI i) d (fun d' r => d' = d ∧ r = Sum.inl (some (Sum.inl (outer s t)))) := by
    intro v n
    induction n with
    | zero =>
      intro t i ht hr hi
      have hh : held s t = false := hr
      have hl := Ok_lt h.2.2 ht
      refine w56_4 _ _ _ _ ?_
      simp only [show ((16 : Int32) ≤ nI i) = False from le_no (b := 16) (by omega) (by omega), c_held h.2.1 hl, hh, kV_r, kV_x, kI_r, kI_x, kR_r, kF_r, kD_r, forall_eq, not_true_eq_false, not_false_eq_true, false_implies, true_implies, true_and, and_true, b2i_0, b2i_1, b2i_01, b2i_t, b2i_f, decide_true, decide_false, Bool.not_true, Bool.not_false, i1_0]
      have := c_out31 h v (nI i) ht hh
      unfold outer
      rw [top_0 hh]
      simpa using this
    | succ n ih =>
      intro t i ht hr hi
      have hh : held s t = true := hr.1
      have hl := Ok_lt h.2.2 ht
      obtain ⟨a, b, -⟩ := Tp_held hT (h.2.2.2.1 t ht).1 hh
      have := ih (par s t) (i + 1) a hr.2 (by omega)
      refine w56_4 _ _ _ _ ?_
      simp only [show ((16 : Int32) ≤ nI i) = False from le_no (b := 16) (by omega) (by omega), c_held h.2.1 hl, hh, ax_in_nI hl (by omega), nI_clamp (show t < 2 ^ 31 by omega), (h.2.1.1 t hl).2.1, b, nI_1, kV_r, kV_x, kI_r, kI_x, kR_r, kF_r, kD_r, forall_eq, not_true_eq_false, not_false_eq_true, false_implies, true_implies, true_and, and_true, b2i_0, b2i_1, b2i_01, b2i_t, b2i_f, decide_true, decide_false, Bool.not_true, Bool.not_false, i1_0]
      unfold outer at this ⊢
      rw [top_1 h.2.2 ht hh]
      simpa using this
  obtain ⟨n, hn, hr⟩ := h.2.2.2.2.1 t ht
  exact key _ n t 0 ht hr (by omega)
theorem c_inside (h : CC d w s) {t q : Nat} (ht : t < nT s) (hq : q < 16) (Q : ax_P) : CT 55 [ax_vR 7 w 0, Sum.inl (nI t), Sum.inl (nI q)] d Q ↔ Q d (Sum.inl (some (Sum.inl (b2i (inside s t q))))) := by
  refine ct_iff (w55 _ _ _ ?_) Q
  have hT := (Ok_T h.2.2).2
  have key : ∀ v n t i, t < nT s → Rt s n t → i + n < 16 → h55_5 w v (nI q) (nI t) (nI i) d (fun d' r => d' = d ∧ r = Sum.inl (some (Sum.inl (b2i (inside s t q))))) := by
    intro v n
    induction n with
    | zero =>
      intro t i ht hr hi
      have hh : held s t = false := hr
      have hl := Ok_lt h.2.2 ht
      have e : (nI t = nI q) = (t = q) := propext (nI_eq (by omega) (by omega))
      refine w55_5 _ _ _ _ _ ?_
      simp only [show ((16 : Int32) ≤ nI i) = False from le_no (b := 16) (by omega) (by omega), c_held h.2.1 hl, hh, e, inside_0 hh, kV_r, kV_x, kI_r, kI_x, kR_r, kF_r, kD_r, forall_eq, not_true_eq_false, not_false_eq_true, false_implies, true_implies, true_and, and_true, b2i_0, b2i_1, b2i_01, b2i_t, b2i_f, decide_true, decide_false, Bool.not_true, Bool.not_false, i1_0]
      by_cases g : t = q
      · simp [g, b2i]
      · simp [g, ax_beq_ne g, b2i]
    | succ n ih =>
      intro t i ht hr hi
      have hh : held s t = true := hr.1
      have hl := Ok_lt h.2.2 ht
      obtain ⟨a, b, -⟩ := Tp_held hT (h.2.2.2.1 t ht).1 hh
      have := ih (par s t) (i + 1) a hr.2 (by omega)
      have e : (nI t = nI q) = (t = q) := propext (nI_eq (by omega) (by omega))
      refine w55_5 _ _ _ _ _ ?_
      simp only [show ((16 : Int32) ≤ nI i) = False from le_no (b := 16) (by omega) (by omega), c_held h.2.1 hl, hh, ax_in_nI hl (by omega), nI_clamp (show t < 2 ^ 31 by omega), (h.2.1.1 t hl).2.1, b, nI_1, e, inside_1 h.2.2 ht hh, kV_r, kV_x, kI_r, kI_x, kR_r, kF_r, kD_r, forall_eq, not_true_eq_false, not_false_eq_true, false_implies, true_implies, true_and, and_true, b2i_0, b2i_1, b2i_01, b2i_t, b2i_f, decide_true, decide_false, Bool.not_true, Bool.not_false, i1_0]
      by_cases g : t = q
      · simp [g, b2i]
      · simpa [g, ax_beq_ne g] using this
  obtain ⟨n, hn, hr⟩ := h.2.2.2.2.1 t ht
  exact key _ n t 0 ht hr (by omega)
theorem c_unenc (h : CC d w s) {t : Nat} (ht : t < nT s) (Q : ax_P) : CT 52 [ax_vR 7 w 0, Sum.inl (nI t)] d Q ↔ Q d (Sum.inl (some (Sum.inl (b2i (opened s t))))) := by
  refine ct_iff (w52 _ _ ?_) Q
  have hT := (Ok_T h.2.2).2
  have key : ∀ v n t i, t < nT s → Rt s n t → i + n < 16 → h52_4 w v (nI t) (nI i) d (fun d' r => d' = d ∧ r = Sum.inl (some (Sum.inl (b2i (opened s t))))) := by
    intro v n
    induction n with
    | zero =>
      intro t i ht hr hi
      have hh : held s t = false := hr
      have hl := Ok_lt h.2.2 ht
      refine w52_4 _ _ _ _ ?_
      simp only [show ((16 : Int32) ≤ nI i) = False from le_no (b := 16) (by omega) (by omega), c_held h.2.1 hl, hh, opened_0 hh, kV_r, kV_x, kI_r, kI_x, kR_r, kF_r, kD_r, forall_eq, not_true_eq_false, not_false_eq_true, false_implies, true_implies, true_and, and_true, b2i_0, b2i_1, b2i_01, b2i_t, b2i_f, decide_true, decide_false, Bool.not_true, Bool.not_false, i1_0]
      all_goals simp
    | succ n ih =>
      intro t i ht hr hi
      have hh : held s t = true := hr.1
      have hl := Ok_lt h.2.2 ht
      obtain ⟨a, b, -⟩ := Tp_held hT (h.2.2.2.1 t ht).1 hh
      have := ih (par s t) (i + 1) a hr.2 (by omega)
      refine w52_4 _ _ _ _ ?_
      simp only [show ((16 : Int32) ≤ nI i) = False from le_no (b := 16) (by omega) (by omega), c_held h.2.1 hl, hh, ax_in_nI hl (by omega), nI_clamp (show t < 2 ^ 31 by omega), (h.2.1.1 t hl).1, (h.2.1.1 t hl).2.1, b, c_has h.2.1 (Ok_lt h.2.2 a), nI_1, opened_1 h.2.2 ht hh, kV_r, kV_x, kI_r, kI_x, kR_r, kF_r, kD_r, forall_eq, not_true_eq_false, not_false_eq_true, false_implies, true_implies, true_and, and_true, b2i_0, b2i_1, b2i_01, b2i_t, b2i_f, decide_true, decide_false, Bool.not_true, Bool.not_false, i1_0]
      rcases held_iff.mp hh with e | e
      · cases g : hasF s (par s t) 1 <;> simpa [e, g, b2i] using this
      · simpa [e] using this
  obtain ⟨n, hn, hr⟩ := h.2.2.2.2.1 t ht
  exact key _ n t 0 ht hr (by omega)
theorem CC_sz (h : CC d w s) {t : Nat} (ht : t < nT s) : ax_row d 3 (ax_pW w) 11 t = nI (sz s t) := (h.1.2.2.2.2.1 t (Ok_lt h.2.2 ht)).2.2.2.1.trans (sz_of h.2.2 ht).1
theorem c_load (h : CC d w s) (Q : ax_P) : CT 116 [ax_vR 7 w 0] d Q ↔ Q d (Sum.inl (some (Sum.inl (nI (load s))))) := by
  refine ct_iff (w116 _ ?_) Q
  have hT16 := (Ok_T h.2.2).2
  have key := lp_up (fun i => h116_4 w (nI (fb_sm (fun t => cond (decide (outer s t = -1)) (sz s t) 0) i)) (nI i) d (fun d' r => d' = d ∧ r = Sum.inl (some (Sum.inl (nI (load s)))))) (nT s) ?_ ?_ 0 (by omega)
  · exact key
  · refine w116_4 _ _ _ ?_
    simp only [kV_r, kV_x, kI_r, kI_x, kR_r, kF_r, kD_r, forall_eq, not_true_eq_false, not_false_eq_true, false_implies, true_implies, true_and, and_true, b2i_0, b2i_1, b2i_01, b2i_t, b2i_f, decide_true, decide_false, Bool.not_true, Bool.not_false, i1_0, CC_T h, le_yes (Nat.le_refl _) (show nT s < 2 ^ 31 by omega)]
    simp [load]
  · intro i hi ih
    have hl := Ok_lt h.2.2 hi
    refine w116_4 _ _ _ ?_
    simp only [kV_r, kV_x, kI_r, kI_x, kR_r, kF_r, kD_r, forall_eq, not_true_eq_false, not_false_eq_true, false_implies, true_implies, true_and, and_true, b2i_0, b2i_1, b2i_01, b2i_t, b2i_f, decide_true, decide_false, Bool.not_true, Bool.not_false, i1_0, CC_T h, le_no hi (show nT s < 2 ^ 31 by omega), c_outer h hi, ax_in_nI hl (by omega), nI_clamp (show i < 2 ^ 31 by omega), CC_sz h hi, nI_1, nI_add]
    rw [fb_sm_succ] at ih
    by_cases g : outer s i = -1 <;> simpa [g] using ih
/-- what the load would be with t -/
def loadW (s : Row) (t : Nat) : Nat := fb_sm (fun u => cond (decide (outer s u = -1) || inside s u t) (sz s u) 0) (nT s)
theorem c_loadW (h : CC d w s) {q : Nat} (hq : q < 16) (Q : ax_P) : CT 57 [ax_vR 7 w 0, Sum.inl (nI q)] d Q ↔ Q d (Sum.inl (some (Sum.inl (nI (loadW s q))))) := by
  refine ct_iff (w57 _ _ ?_) Q
  have hT16 := (Ok_T h.2.2).2
  have key := lp_up (fun i => h57_4 w (nI q) (nI (fb_sm (fun u => cond (decide (outer s u = -1) || inside s u q) (sz s u) 0) i)) (nI i) d (fun d' r => d' = d ∧ r = Sum.inl (some (Sum.inl (nI (loadW s q)))))) (nT s) ?_ ?_ 0 (by omega)
  · exact key
  · refine w57_4 _ _ _ _ ?_
    simp only [kV_r, kV_x, kI_r, kI_x, kR_r, kF_r, kD_r, forall_eq, not_true_eq_false, not_false_eq_true, false_implies, true_implies, true_and, and_true, b2i_0, b2i_1, b2i_01, b2i_t, b2i_f, decide_true, decide_false, Bool.not_true, Bool.not_false, i1_0, CC_T h, le_yes (Nat.le_refl _) (show nT s < 2 ^ 31 by omega)]
    simp [loadW]
  · intro i hi ih
    have hl := Ok_lt h.2.2 hi
    rw [fb_sm_succ] at ih
    have hj : h57_38 w (nI q) (nI (fb_sm (fun u => cond (decide (outer s u = -1) || inside s u q) (sz s u) 0) i)) (nI i) (b2i (decide (outer s i = -1) || inside s i q)) d (fun d' r => d' = d ∧ r = Sum.inl (some (Sum.inl (nI (loadW s q))))) := by
      refine w57_38 _ _ _ _ _ ?_
      simp only [kV_r, kV_x, kI_r, kI_x, kR_r, kF_r, kD_r, forall_eq, not_true_eq_false, not_false_eq_true, false_implies, true_implies, true_and, and_true, b2i_0, b2i_1, b2i_01, b2i_t, b2i_f, decide_true, decide_false, Bool.not_true, Bool.not_false, i1_0, ax_in_nI hl (by omega), nI_clamp (show i < 2 ^ 31 by omega), CC_sz h hi, nI_1, nI_add]
      cases g : (decide (outer s i = -1) || inside s i q) <;> simpa [g] using ih
    refine w57_4 _ _ _ _ ?_
    simp only [kV_r, kV_x, kI_r, kI_x, kR_r, kF_r, kD_r, forall_eq, not_true_eq_false, not_false_eq_true, false_implies, true_implies, true_and, and_true, b2i_0, b2i_1, b2i_01, b2i_t, b2i_f, decide_true, decide_false, Bool.not_true, Bool.not_false, i1_0, CC_T h, le_no hi (show nT s < 2 ^ 31 by omega), c_outer h hi, c_inside h hi hq]
    by_cases g1 : outer s i = -1 <;> cases g2 : inside s i q <;> simpa [g1, g2, b2i] using hj
theorem loadW_bear (h : CC d w s) {t : Nat} (ht : t < nT s) (g : Int32) : decide (loadW s t ≤ 20) = bear s t 3 g := by
  unfold bear
  rw [load_car h.2.2 ht]
  rfl
theorem loadW_lt (h : Ok s) (t : Nat) : loadW s t ≤ 144 := by
  refine Nat.le_trans (fb_sm_bound (c := 9) (fun k hk => ?_)) (Nat.mul_le_mul_right 9 (Ok_T h).2)
  cases (decide (outer s k = -1) || inside s k t) with
  | true => exact Nat.le_of_lt_succ (sz_of h hk).2
  | false => exact Nat.zero_le _
/-- what is in or on a thing: the class's sum is the check's -/
theorem inOf_eq (h : Ok s) {t q : Nat} (ht : t < nT s) (hq : q < 16) : inOf s (nI q) (-1) t = (!decide (s (255 + t) = 0) && decide (s (271 + t) = nI q)) := by
  unfold inOf
  have hl := Ok_lt h ht
  rw [decide_eq_false (fun e => (nI_neg (show t < 2 ^ 31 by omega)).mp e)]
  rcases (h.2.1 t ht).1 with ⟨e, -⟩ | ⟨e, -⟩ | ⟨e, -⟩ | ⟨e, e2⟩ | ⟨e, e2⟩
  · rw [held_f (by rw [e]; decide) (by rw [e]; decide), e]; rfl
  · rw [held_iff.mpr (Or.inl e), e]; rfl
  · rw [held_iff.mpr (Or.inr e), e]; rfl
  · rw [held_f (by rw [e]; decide) (by rw [e]; decide), e2, decide_eq_false (fun e => (nI_neg' (show q < 2 ^ 31 by omega)).mp e)]; simp
  · rw [held_f (by rw [e]; decide) (by rw [e]; decide), e2, decide_eq_false (fun e => (nI_neg' (show q < 2 ^ 31 by omega)).mp e)]; simp
theorem c_size (h : CC d w s) {q : Nat} (hq : q < 16) (Q : ax_P) : CT 67 [ax_vR 7 w 0, Sum.inl (nI q)] d Q ↔ Q d (Sum.inl (some (Sum.inl (nI (filled s (nI q) (-1)))))) := by
  refine ct_iff (w67 _ _ ?_) Q
  have hT16 := (Ok_T h.2.2).2
  have key := lp_up (fun i => h67_4 w (nI q) (nI (fb_sm (fun t => cond (inOf s (nI q) (-1) t) (sz s t) 0) i)) (nI i) d (fun d' r => d' = d ∧ r = Sum.inl (some (Sum.inl (nI (filled s (nI q) (-1))))))) (nT s) ?_ ?_ 0 (by omega)
  · exact key
  · refine w67_4 _ _ _ _ ?_
    simp only [kV_r, kV_x, kI_r, kI_x, kR_r, kF_r, kD_r, forall_eq, not_true_eq_false, not_false_eq_true, false_implies, true_implies, true_and, and_true, b2i_0, b2i_1, b2i_01, b2i_t, b2i_f, decide_true, decide_false, Bool.not_true, Bool.not_false, i1_0, CC_T h, le_yes (Nat.le_refl _) (show nT s < 2 ^ 31 by omega)]
    simp [filled]
  · intro i hi ih
    have hl := Ok_lt h.2.2 hi
    rw [fb_sm_succ] at ih
    have hj : h67_39 w (nI q) (nI (fb_sm (fun t => cond (inOf s (nI q) (-1) t) (sz s t) 0) i)) (nI i) (b2i (inOf s (nI q) (-1) i)) d (fun d' r => d' = d ∧ r = Sum.inl (some (Sum.inl (nI (filled s (nI q) (-1)))))) := by
      refine w67_39 _ _ _ _ _ ?_
      simp only [kV_r, kV_x, kI_r, kI_x, kR_r, kF_r, kD_r, forall_eq, not_true_eq_false, not_false_eq_true, false_implies, true_implies, true_and, and_true, b2i_0, b2i_1, b2i_01, b2i_t, b2i_f, decide_true, decide_false, Bool.not_true, Bool.not_false, i1_0, ax_in_nI hl (by omega), nI_clamp (show i < 2 ^ 31 by omega), CC_sz h hi, nI_1, nI_add]
      cases g : inOf s (nI q) (-1) i <;> simpa [g] using ih
    rw [inOf_eq h.2.2 hi hq] at hj
    refine w67_4 _ _ _ _ ?_
    simp only [kV_r, kV_x, kI_r, kI_x, kR_r, kF_r, kD_r, forall_eq, not_true_eq_false, not_false_eq_true, false_implies, true_implies, true_and, and_true, b2i_0, b2i_1, b2i_01, b2i_t, b2i_f, decide_true, decide_false, Bool.not_true, Bool.not_false, i1_0, CC_T h, le_no hi (show nT s < 2 ^ 31 by omega), ax_in_nI hl (by omega), nI_clamp (show i < 2 ^ 31 by omega), (h.2.1.1 i hl).1, (h.2.1.1 i hl).2.1]
    by_cases g1 : s (255 + i) = 0 <;> by_cases g2 : s (271 + i) = nI q <;> simpa [g1, g2, b2i] using hj
/-- all but one -/
theorem filled_but (h : Ok s) {t q : Nat} (ht : t < nT s) : filled s (nI q) (-1) = filled s (nI q) (nI t) + cond (held s t && decide (s (271 + t) = nI q)) (sz s t) 0 := by
  have hl := Ok_lt h ht
  unfold filled
  have h1 := fb_sm_upd (fun u => cond (inOf s (nI q) (-1) u) (sz s u) 0) 0 ht
  have h2 : fb_sm (fun k => if k = t then 0 else cond (inOf s (nI q) (-1) k) (sz s k) 0) (nT s) = fb_sm (fun k => cond (inOf s (nI q) (nI t) k) (sz s k) 0) (nT s) := by
    refine fb_sm_cong (fun k hk => ?_)
    have hk16 := Ok_lt h hk
    unfold inOf
    rw [decide_eq_false (fun e => (nI_neg (show k < 2 ^ 31 by omega)).mp e)]
    by_cases e : k = t
    · subst e
      simp
    · rw [if_neg e, decide_eq_false (fun e2 => e ((nI_eq (by omega) (by omega)).mp e2))]
  rw [h2] at h1
  have h3 : cond (inOf s (nI q) (-1) t) (sz s t) 0 = cond (held s t && decide (s (271 + t) = nI q)) (sz s t) 0 := by
    unfold inOf
    rw [decide_eq_false (fun e => (nI_neg (show t < 2 ^ 31 by omega)).mp e)]
    rfl
  have h1 : _ + cond (inOf s (nI q) (-1) t) (sz s t) 0 = _ := h1
  rw [h3] at h1
  omega
end CM
