/-! the class's rows against the check's row; the class's leaves -/
def Cp (d : ax_D) (p : Nat) (s : Row) : Prop :=
  (ax_row d 3 p 0 0 = s 0 ∧ ax_row d 3 p 0 1 = s 1 ∧ ax_row d 3 p 0 2 = s 2) ∧ (∀ r, r < 8 → bt (ax_row d 3 p 0 3) r = decide (s (7 + r) = 1)) ∧ (∀ k, k < 6 → s (305 + k) = b2i (bt (ax_row d 3 p 0 4) k)) ∧
  (∀ e, e < 48 → ax_row d 3 p 6 e = s (15 + e) ∧ ax_row d 3 p 7 e = s (63 + e)) ∧
  (∀ t, t < 16 → ax_row d 3 p 8 t = s (111 + t) ∧ ax_row d 3 p 9 t = s (127 + t) ∧ ax_row d 3 p 10 t = s (143 + t) ∧ ax_row d 3 p 11 t = s (159 + t) ∧ ax_row d 3 p 12 t = s (175 + t) ∧ ax_row d 3 p 13 t = s (191 + t) ∧ ax_row d 3 p 14 t = s (223 + t)) ∧
  (∀ k, k < 6 → ax_row d 3 p 15 k = s (287 + k) ∧ ax_row d 3 p 16 k = s (293 + k) ∧ ax_row d 3 p 17 k = s (299 + k))
def plI (s : Row) : Int32 := if s 3 = 1 then s 5 else -1
def Cw (d : ax_D) (w : Nat) (s : Row) : Prop :=
  (∀ t, t < 16 → ax_row d 7 w 2 t = s (255 + t) ∧ ax_row d 7 w 3 t = s (271 + t) ∧ ax_row d 7 w 4 t = s (239 + t) ∧ ax_row d 7 w 5 t = s (207 + t)) ∧
  (ax_row d 7 w 0 11 = plI s ∧ ax_row d 7 w 0 9 = s 6 ∧ ax_row d 7 w 0 10 = s 4) ∧ (∀ e, e < 40 → ax_row d 7 w 9 e = s (329 + e)) ∧
  (s 3 = 1 → ∀ k, k < nD s → ax_row d 7 w 6 k = s (311 + k) ∧ ax_row d 7 w 7 k = s (323 + k) ∧ ax_row d 7 w 8 k = nI (dW s k % 6))
/-- the class's world w and its plan hold the good row s -/
def CC (d : ax_D) (w : Nat) (s : Row) : Prop := Cp d (ax_pW w) s ∧ Cw d w s ∧ Ok s
/-- numbers of things, rooms, daemons -/
theorem inB_m1 {s1 x : Int32} {n : Nat} (h : s1 = nI n) (hn : n < 1000) : inB x 0 (s1 - 1) = (!decide (x < 0) && !decide (s1 ≤ x)) := by
  subst h
  rw [inB_lt]
  have e : (nI n - 1 < x) = (nI n ≤ x) := propext (by
    rw [i32_lt, i32_le]
    have h1 := nI_toInt (n := n) (by omega)
    have h2 : (nI n - 1).toInt = (n : Int) - 1 := by
      have := pk_sub_toInt (a := n) (b := 1) (by omega) (by omega)
      exact this
    rw [h1, h2]
    omega)
  rw [decide_eq_decide.mpr (iff_of_eq e)]
theorem isTh_eq {s : Row} (h : Ok s) (x : Int32) : isTh s x = (!decide (x < 0) && !decide (s 1 ≤ x)) := inB_m1 (Ok_T h).1 (by have := (Ok_T h).2; omega)
theorem isRm_eq {s : Row} (h : Ok s) (x : Int32) : isRm s x = (!decide (x < 0) && !decide (s 0 ≤ x)) := inB_m1 (Pk_R h.1).1 (by have := (Pk_R h.1).2; omega)
theorem isTh_nI {s : Row} (h : Ok s) {t : Nat} (ht : t < nT s) : isTh s (nI t) = true := by
  have hl := Ok_lt h ht
  have hT := Ok_T h
  rw [isTh_eq h, hT.1, decide_eq_false (nI_pos (by omega)), decide_eq_false (nI_ge ht (by omega))]
  rfl
theorem isTh_ex {s : Row} (h : Ok s) {x : Int32} (hx : isTh s x = true) : ∃ t, t < nT s ∧ x = nI t := by
  rw [isTh_eq h, Bool.and_eq_true] at hx
  have hT := Ok_T h
  rcases pk_ix x (n := nT s) (by omega) with a | a | a
  · simp [a] at hx
  · rw [hT.1] at hx
    simp [a] at hx
  · exact a
theorem isRm_nI {s : Row} (h : Ok s) {t : Nat} (ht : t < nR s) : isRm s (nI t) = true := by
  have hT := Pk_R h.1
  rw [isRm_eq h, hT.1, decide_eq_false (nI_pos (by omega)), decide_eq_false (nI_ge ht (by omega))]
  rfl
theorem isRm_ex {s : Row} (h : Ok s) {x : Int32} (hx : isRm s x = true) : ∃ t, t < nR s ∧ x = nI t := by
  rw [isRm_eq h, Bool.and_eq_true] at hx
  have hT := Pk_R h.1
  rcases pk_ix x (n := nR s) (by omega) with a | a | a
  · simp [a] at hx
  · rw [hT.1] at hx
    simp [a] at hx
  · exact a
theorem c_within (x a b : Int32) (d : ax_D) (Q : ax_P) : CT 1 [Sum.inl x, Sum.inl a, Sum.inl b] d Q ↔ Q d (Sum.inl (some (Sum.inl (b2i (inB x a b))))) := by
  refine ct_iff (w1 x a b (fun d E h => by cases h.2) ?_) Q
  rw [inB_lt]
  by_cases h1 : x < a <;> by_cases h2 : b < x <;> simp [h1, h2, b2i]
theorem c_with (x f p : Int32) (d : ax_D) (Q : ax_P) : CT 10 [Sum.inl x, Sum.inl f, Sum.inl p] d Q ↔ Q d (Sum.inl (some (Sum.inl (wF x f (!decide (p = 0)))))) := by
  refine ct_iff (w10 _ _ _ (fun d E h => by cases h.2) ?_) Q
  by_cases h : p = 0 <;> simp [h, wF]
theorem c_cont {i : Nat} (hi : i < 16) (S : Int32) (d : ax_D) (Q : ax_P) : CT 41 [Sum.inl S, Sum.inl (nI i)] d Q ↔ Q d (Sum.inl (some (Sum.inl (b2i (bt S i))))) := by
  refine ct_iff (w41 _ _ (fun d E h => by cases h.2) ?_) Q
  simp only [eq_false (nI_pos (show i < 2 ^ 31 by omega)), show ((16 : Int32) ≤ nI i) = False from le_no (b := 16) hi (by omega), bt_sh (show i < 32 by omega), kV_r, kV_x, kI_r, kI_x, kR_r, kF_r, kD_r, forall_eq, not_true_eq_false, not_false_eq_true, false_implies, true_implies, true_and, and_true, b2i_0, b2i_1, b2i_01, b2i_t, b2i_f, decide_true, decide_false, Bool.not_true, Bool.not_false, i1_0]
  cases bt S i <;> simp [b2i]
section CL
variable {d : ax_D} {w : Nat} {s : Row}
theorem CC_T (h : CC d w s) : ax_row d 3 (ax_pW w) 0 1 = nI (nT s) := h.1.1.2.1.trans (Ok_T h.2.2).1
theorem c_isTh' {p : Nat} (h1 : ax_row d 3 p 0 1 = s 1) (hk : Ok s) (x : Int32) (Q : ax_P) : CT 3 [ax_vR 3 p 0, Sum.inl x] d Q ↔ Q d (Sum.inl (some (Sum.inl (b2i (isTh s x))))) := by
  refine ct_iff (w3 _ _ ?_) Q
  rw [isTh_eq hk, h1]
  by_cases g1 : x < 0 <;> by_cases g2 : s 1 ≤ x <;> simp [g1, g2, b2i]
theorem c_isTh (h : CC d w s) (x : Int32) (Q : ax_P) : CT 3 [ax_vR 3 (ax_pW w) 0, Sum.inl x] d Q ↔ Q d (Sum.inl (some (Sum.inl (b2i (isTh s x))))) := c_isTh' h.1.1.2.1 h.2.2 x Q
theorem c_isRm {p : Nat} (h1 : ax_row d 3 p 0 0 = s 0) (hk : Ok s) (x : Int32) (Q : ax_P) : CT 13 [ax_vR 3 p 0, Sum.inl x] d Q ↔ Q d (Sum.inl (some (Sum.inl (b2i (isRm s x))))) := by
  refine ct_iff (w13 _ _ ?_) Q
  rw [isRm_eq hk, h1]
  by_cases g1 : x < 0 <;> by_cases g2 : s 0 ≤ x <;> simp [g1, g2, b2i]
theorem c_kind {p : Nat} (h : Cp d p s) (hk : Ok s) {t : Nat} (ht : t < nT s) (Q : ax_P) : CT 7 [ax_vR 3 p 0, Sum.inl (nI t)] d Q ↔ Q d (Sum.inl (some (Sum.inl (s (111 + t))))) := by
  refine ct_iff (w7 _ _ ?_) Q
  have hl := Ok_lt hk ht
  have hT16 := (Ok_T hk).2
  simp only [eq_false (nI_pos (show t < 2 ^ 31 by omega)), h.1.2.1, (Ok_T hk).1, le_no ht (show nT s < 2 ^ 31 by omega), ax_in_nI hl (by omega), nI_clamp (show t < 2 ^ 31 by omega), (h.2.2.2.2.1 t hl).1, kV_r, kV_x, kI_r, kI_x, kR_r, kF_r, kD_r, forall_eq, not_true_eq_false, not_false_eq_true, false_implies, true_implies, true_and, and_true, b2i_0, b2i_1, b2i_01, b2i_t, b2i_f, decide_true, decide_false, Bool.not_true, Bool.not_false, i1_0]
theorem c_lock {p : Nat} (h : Cp d p s) (hk : Ok s) {t : Nat} (ht : t < nT s) (Q : ax_P) : CT 8 [ax_vR 3 p 0, Sum.inl (nI t)] d Q ↔ Q d (Sum.inl (some (Sum.inl (b2i (isLock s t))))) := by
  refine ct_iff (w8 _ _ ?_) Q
  simp only [c_kind h hk ht, kV_r, kV_x, kI_r, kI_x, kR_r, kF_r, kD_r, forall_eq, not_true_eq_false, not_false_eq_true, false_implies, true_implies, true_and, and_true, b2i_0, b2i_1, b2i_01, b2i_t, b2i_f, decide_true, decide_false, Bool.not_true, Bool.not_false, i1_0]
  by_cases h1 : s (111 + t) = 1 <;> by_cases h2 : s (111 + t) = 4 <;> simp [h1, h2, isLock, b2i]
theorem c_hold {p : Nat} (h : Cp d p s) (hk : Ok s) {t : Nat} (ht : t < nT s) (Q : ax_P) : CT 148 [ax_vR 3 p 0, Sum.inl (nI t)] d Q ↔ Q d (Sum.inl (some (Sum.inl (b2i (isHold s t))))) := by
  refine ct_iff (w148 _ _ ?_) Q
  simp only [c_kind h hk ht, kV_r, kV_x, kI_r, kI_x, kR_r, kF_r, kD_r, forall_eq, not_true_eq_false, not_false_eq_true, false_implies, true_implies, true_and, and_true, b2i_0, b2i_1, b2i_01, b2i_t, b2i_f, decide_true, decide_false, Bool.not_true, Bool.not_false, i1_0]
  by_cases h1 : s (111 + t) = 1 <;> by_cases h2 : s (111 + t) = 2 <;> simp [h1, h2, isHold, b2i]
theorem c_has (h : Cw d w s) {t : Nat} (ht : t < 16) (f : Int32) (Q : ax_P) : CT 34 [ax_vR 7 w 0, Sum.inl (nI t), Sum.inl f] d Q ↔ Q d (Sum.inl (some (Sum.inl (b2i (hasF s t f))))) := by
  refine ct_iff (w34 _ _ _ ?_) Q
  simp only [eq_false (nI_pos (show t < 2 ^ 31 by omega)), show ((16 : Int32) ≤ nI t) = False from le_no (b := 16) ht (by omega), ax_in_nI ht (by omega), nI_clamp (show t < 2 ^ 31 by omega), (h.1 t ht).2.2.1, bit0, kV_r, kV_x, kI_r, kI_x, kR_r, kF_r, kD_r, forall_eq, not_true_eq_false, not_false_eq_true, false_implies, true_implies, true_and, and_true, b2i_0, b2i_1, b2i_01, b2i_t, b2i_f, decide_true, decide_false, Bool.not_true, Bool.not_false, i1_0]
  unfold hasF
  cases bit (s (239 + t)) f <;> simp [b2i]
theorem c_played (h : Cw d w s) (hk : Ok s) (Q : ax_P) : CT 5 [ax_vR 7 w 0] d Q ↔ Q d (Sum.inl (some (Sum.inl (b2i (plays s))))) := by
  refine ct_iff (w5 _ ?_) Q
  rw [h.2.1.1]
  unfold plI plays
  by_cases h3 : s 3 = 1
  · obtain ⟨h5, h6, h8⟩ := Ok_P hk (decide_eq_true h3)
    rw [if_pos h3, h5]
    simp [nI_neg (show nP s < 2 ^ 31 by omega), h3, b2i]
  · rw [if_neg h3]
    simp [h3, b2i]
theorem c_held (h : Cw d w s) {t : Nat} (ht : t < 16) (Q : ax_P) : CT 51 [ax_vR 7 w 0, Sum.inl (nI t)] d Q ↔ Q d (Sum.inl (some (Sum.inl (b2i (held s t))))) := by
  refine ct_iff (w51 _ _ ?_) Q
  simp only [eq_false (nI_pos (show t < 2 ^ 31 by omega)), show ((16 : Int32) ≤ nI t) = False from le_no (b := 16) ht (by omega), ax_in_nI ht (by omega), nI_clamp (show t < 2 ^ 31 by omega), (h.1 t ht).1, kV_r, kV_x, kI_r, kI_x, kR_r, kF_r, kD_r, forall_eq, not_true_eq_false, not_false_eq_true, false_implies, true_implies, true_and, and_true, b2i_0, b2i_1, b2i_01, b2i_t, b2i_f, decide_true, decide_false, Bool.not_true, Bool.not_false, i1_0]
  by_cases h1 : s (255 + t) = 1
  · simp [h1, held_iff.mpr (Or.inl h1), b2i]
  · by_cases h2 : s (255 + t) = 2
    · simp [h2, held_iff.mpr (Or.inr h2), b2i]
    · simp [h1, h2, held_f h1 h2, b2i]
theorem lt2 (p : Int32) : (2 < p) = (¬ p ≤ 2) := by rw [Int32.not_le]
theorem isAt_34 {t : Nat} (h : Ok s) (ht : t < nT s) {p : Int32} (hp : s (255 + t) = p) : decide (2 < p) = (decide (p = 3) || decide (p = 4)) := by
  subst hp
  rcases (h.2.1 t ht).1 with ⟨e, -⟩ | ⟨e, -⟩ | ⟨e, -⟩ | ⟨e, -⟩ | ⟨e, -⟩ <;> rw [e] <;> decide
theorem c_isAt (h : Cw d w s) (hk : Ok s) {t : Nat} (ht : t < nT s) (p g : Int32) (Q : ax_P) : CT 46 [ax_vR 7 w 0, Sum.inl (nI t), Sum.inl p, Sum.inl g] d Q ↔ Q d (Sum.inl (some (Sum.inl (b2i (isAtS s t p g))))) := by
  refine ct_iff (w46 _ _ _ _ ?_) Q
  have hl := Ok_lt hk ht
  simp only [eq_false (nI_pos (show t < 2 ^ 31 by omega)), show ((16 : Int32) ≤ nI t) = False from le_no (b := 16) hl (by omega), ax_in_nI hl (by omega), nI_clamp (show t < 2 ^ 31 by omega), (h.1 t hl).1, (h.1 t hl).2.1, kV_r, kV_x, kI_r, kI_x, kR_r, kF_r, kD_r, forall_eq, not_true_eq_false, not_false_eq_true, false_implies, true_implies, true_and, and_true, b2i_0, b2i_1, b2i_01, b2i_t, b2i_f, decide_true, decide_false, Bool.not_true, Bool.not_false, i1_0]
  unfold isAtS
  by_cases h1 : s (255 + t) = p
  · rw [isAt_34 hk ht h1]
    by_cases h2 : s (271 + t) = g <;> by_cases h3 : p = 3 <;> by_cases h4 : p = 4 <;> simp [h1, h2, h3, h4, b2i]
  · simp [h1, b2i]
theorem fast_eq (hk : Ok s) {t : Nat} (ht : t < nT s) : fast s t = (decide (s (111 + t) = 4) || hasF s t 0) := by
  unfold fast
  cases h : hasF s t 0 with
  | false => rfl
  | true => rw [decide_eq_true ((hk.2.1 t ht).2.2.2.1 h)]; rfl
theorem c_mov (h : CC d w s) {t : Nat} (ht : t < nT s) (Q : ax_P) : CT 54 [ax_vR 7 w 0, Sum.inl (nI t)] d Q ↔ Q d (Sum.inl (some (Sum.inl (b2i (!fast s t))))) := by
  refine ct_iff (w54 _ _ ?_) Q
  simp only [c_kind h.1 h.2.2 ht, c_has h.2.1 (Ok_lt h.2.2 ht), fast_eq h.2.2 ht, kV_r, kV_x, kI_r, kI_x, kR_r, kF_r, kD_r, forall_eq, not_true_eq_false, not_false_eq_true, false_implies, true_implies, true_and, and_true, b2i_0, b2i_1, b2i_01, b2i_t, b2i_f, decide_true, decide_false, Bool.not_true, Bool.not_false, i1_0]
  by_cases h1 : s (111 + t) = 4 <;> cases h2 : hasF s t 0 <;> simp [h1, b2i]
theorem c_carried (h : CC d w s) {t : Nat} (ht : t < nT s) (Q : ax_P) : CT 37 [ax_vR 7 w 0, Sum.inl (nI t)] d Q ↔ Q d (Sum.inl (some (Sum.inl (b2i (car s t))))) := by
  refine ct_iff (w37 _ _ ?_) Q
  have hl := Ok_lt h.2.2 ht
  simp only [c_isTh h, isTh_nI h.2.2 ht, ax_in_nI hl (by omega), nI_clamp (show t < 2 ^ 31 by omega), (h.2.1.1 t hl).1, kV_r, kV_x, kI_r, kI_x, kR_r, kF_r, kD_r, forall_eq, not_true_eq_false, not_false_eq_true, false_implies, true_implies, true_and, and_true, b2i_0, b2i_1, b2i_01, b2i_t, b2i_f, decide_true, decide_false, Bool.not_true, Bool.not_false, i1_0]
  by_cases h1 : s (255 + t) = 3 <;> simp [h1, car, b2i]
end CL
