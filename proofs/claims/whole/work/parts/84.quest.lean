/-! questions: what the class checks first, and the simple ones -/
theorem m2 (d : ax_D) (k : Nat) (x : Int32) : mr (sV d k x) 2 = mr d 2 := mr_sV (by decide) d k x
theorem eLits : (((0 : Int32) = 1) = False) ∧ (((0 : Int32) = 2) = False) ∧ (((0 : Int32) = 3) = False) ∧ (((0 : Int32) = 4) = False) ∧ (((0 : Int32) = 5) = False) ∧ (((0 : Int32) = 6) = False) ∧ (((0 : Int32) = 7) = False) ∧ (((0 : Int32) = 8) = False) ∧ (((0 : Int32) = 9) = False) ∧ (((0 : Int32) = 10) = False) ∧ (((0 : Int32) = 11) = False) ∧ (((1 : Int32) = 0) = False) ∧ (((1 : Int32) = 2) = False) ∧ (((1 : Int32) = 3) = False) ∧ (((1 : Int32) = 4) = False) ∧ (((1 : Int32) = 5) = False) ∧ (((1 : Int32) = 6) = False) ∧ (((1 : Int32) = 7) = False) ∧ (((1 : Int32) = 8) = False) ∧ (((1 : Int32) = 9) = False) ∧ (((1 : Int32) = 10) = False) ∧ (((1 : Int32) = 11) = False) ∧ (((2 : Int32) = 0) = False) ∧ (((2 : Int32) = 1) = False) ∧ (((2 : Int32) = 3) = False) ∧ (((2 : Int32) = 4) = False) ∧ (((2 : Int32) = 5) = False) ∧ (((2 : Int32) = 6) = False) ∧ (((2 : Int32) = 7) = False) ∧ (((2 : Int32) = 8) = False) ∧ (((2 : Int32) = 9) = False) ∧ (((2 : Int32) = 10) = False) ∧ (((2 : Int32) = 11) = False) ∧ (((3 : Int32) = 0) = False) ∧ (((3 : Int32) = 1) = False) ∧ (((3 : Int32) = 2) = False) ∧ (((3 : Int32) = 4) = False) ∧ (((3 : Int32) = 5) = False) ∧ (((3 : Int32) = 6) = False) ∧ (((3 : Int32) = 7) = False) ∧ (((3 : Int32) = 8) = False) ∧ (((3 : Int32) = 9) = False) ∧ (((3 : Int32) = 10) = False) ∧ (((3 : Int32) = 11) = False) ∧ (((4 : Int32) = 0) = False) ∧ (((4 : Int32) = 1) = False) ∧ (((4 : Int32) = 2) = False) ∧ (((4 : Int32) = 3) = False) ∧ (((4 : Int32) = 5) = False) ∧ (((4 : Int32) = 6) = False) ∧ (((4 : Int32) = 7) = False) ∧ (((4 : Int32) = 8) = False) ∧ (((4 : Int32) = 9) = False) ∧ (((4 : Int32) = 10) = False) ∧ (((4 : Int32) = 11) = False) ∧ (((5 : Int32) = 0) = False) ∧ (((5 : Int32) = 1) = False) ∧ (((5 : Int32) = 2) = False) ∧ (((5 : Int32) = 3) = False) ∧ (((5 : Int32) = 4) = False) ∧ (((5 : Int32) = 6) = False) ∧ (((5 : Int32) = 7) = False) ∧ (((5 : Int32) = 8) = False) ∧ (((5 : Int32) = 9) = False) ∧ (((5 : Int32) = 10) = False) ∧ (((5 : Int32) = 11) = False) ∧ (((6 : Int32) = 0) = False) ∧ (((6 : Int32) = 1) = False) ∧ (((6 : Int32) = 2) = False) ∧ (((6 : Int32) = 3) = False) ∧ (((6 : Int32) = 4) = False) ∧ (((6 : Int32) = 5) = False) ∧ (((6 : Int32) = 7) = False) ∧ (((6 : Int32) = 8) = False) ∧ (((6 : Int32) = 9) = False) ∧ (((6 : Int32) = 10) = False) ∧ (((6 : Int32) = 11) = False) ∧ (((7 : Int32) = 0) = False) ∧ (((7 : Int32) = 1) = False) ∧ (((7 : Int32) = 2) = False) ∧ (((7 : Int32) = 3) = False) ∧ (((7 : Int32) = 4) = False) ∧ (((7 : Int32) = 5) = False) ∧ (((7 : Int32) = 6) = False) ∧ (((7 : Int32) = 8) = False) ∧ (((7 : Int32) = 9) = False) ∧ (((7 : Int32) = 10) = False) ∧ (((7 : Int32) = 11) = False) ∧ (((8 : Int32) = 0) = False) ∧ (((8 : Int32) = 1) = False) ∧ (((8 : Int32) = 2) = False) ∧ (((8 : Int32) = 3) = False) ∧ (((8 : Int32) = 4) = False) ∧ (((8 : Int32) = 5) = False) ∧ (((8 : Int32) = 6) = False) ∧ (((8 : Int32) = 7) = False) ∧ (((8 : Int32) = 9) = False) ∧ (((8 : Int32) = 10) = False) ∧ (((8 : Int32) = 11) = False) ∧ (((9 : Int32) = 0) = False) ∧ (((9 : Int32) = 1) = False) ∧ (((9 : Int32) = 2) = False) ∧ (((9 : Int32) = 3) = False) ∧ (((9 : Int32) = 4) = False) ∧ (((9 : Int32) = 5) = False) ∧ (((9 : Int32) = 6) = False) ∧ (((9 : Int32) = 7) = False) ∧ (((9 : Int32) = 8) = False) ∧ (((9 : Int32) = 10) = False) ∧ (((9 : Int32) = 11) = False) ∧ (((10 : Int32) = 0) = False) ∧ (((10 : Int32) = 1) = False) ∧ (((10 : Int32) = 2) = False) ∧ (((10 : Int32) = 3) = False) ∧ (((10 : Int32) = 4) = False) ∧ (((10 : Int32) = 5) = False) ∧ (((10 : Int32) = 6) = False) ∧ (((10 : Int32) = 7) = False) ∧ (((10 : Int32) = 8) = False) ∧ (((10 : Int32) = 9) = False) ∧ (((10 : Int32) = 11) = False) ∧ (((11 : Int32) = 0) = False) ∧ (((11 : Int32) = 1) = False) ∧ (((11 : Int32) = 2) = False) ∧ (((11 : Int32) = 3) = False) ∧ (((11 : Int32) = 4) = False) ∧ (((11 : Int32) = 5) = False) ∧ (((11 : Int32) = 6) = False) ∧ (((11 : Int32) = 7) = False) ∧ (((11 : Int32) = 8) = False) ∧ (((11 : Int32) = 9) = False) ∧ (((11 : Int32) = 10) = False) ∧ (((0 : Int32) = -1) = False) ∧ (((0 : Int32) ≤ 0) = True) ∧ (((0 : Int32) < 6) = True) ∧ (((1 : Int32) = -1) = False) ∧ (((1 : Int32) ≤ 0) = False) ∧ (((1 : Int32) < 6) = True) ∧ (((2 : Int32) = -1) = False) ∧ (((2 : Int32) ≤ 0) = False) ∧ (((2 : Int32) < 6) = True) ∧ (((3 : Int32) = -1) = False) ∧ (((3 : Int32) ≤ 0) = False) ∧ (((3 : Int32) < 6) = True) ∧ (((4 : Int32) = -1) = False) ∧ (((4 : Int32) ≤ 0) = False) ∧ (((4 : Int32) < 6) = True) ∧ (((5 : Int32) = -1) = False) ∧ (((5 : Int32) ≤ 0) = False) ∧ (((5 : Int32) < 6) = True) ∧ (((6 : Int32) = -1) = False) ∧ (((6 : Int32) ≤ 0) = False) ∧ (((6 : Int32) < 6) = False) ∧ (((7 : Int32) = -1) = False) ∧ (((7 : Int32) ≤ 0) = False) ∧ (((7 : Int32) < 6) = False) ∧ (((8 : Int32) = -1) = False) ∧ (((8 : Int32) ≤ 0) = False) ∧ (((8 : Int32) < 6) = False) ∧ (((9 : Int32) = -1) = False) ∧ (((9 : Int32) ≤ 0) = False) ∧ (((9 : Int32) < 6) = False) ∧ (((10 : Int32) = -1) = False) ∧ (((10 : Int32) ≤ 0) = False) ∧ (((10 : Int32) < 6) = False) ∧ (((11 : Int32) = -1) = False) ∧ (((11 : Int32) ≤ 0) = False) ∧ (((11 : Int32) < 6) = False) := ⟨eq_false (by decide), eq_false (by decide), eq_false (by decide), eq_false (by decide), eq_false (by decide), eq_false (by decide), eq_false (by decide), eq_false (by decide), eq_false (by decide), eq_false (by decide), eq_false (by decide), eq_false (by decide), eq_false (by decide), eq_false (by decide), eq_false (by decide), eq_false (by decide), eq_false (by decide), eq_false (by decide), eq_false (by decide), eq_false (by decide), eq_false (by decide), eq_false (by decide), eq_false (by decide), eq_false (by decide), eq_false (by decide), eq_false (by decide), eq_false (by decide), eq_false (by decide), eq_false (by decide), eq_false (by decide), eq_false (by decide), eq_false (by decide), eq_false (by decide), eq_false (by decide), eq_false (by decide), eq_false (by decide), eq_false (by decide), eq_false (by decide), eq_false (by decide), eq_false (by decide), eq_false (by decide), eq_false (by decide), eq_false (by decide), eq_false (by decide), eq_false (by decide), eq_false (by decide), eq_false (by decide), eq_false (by decide), eq_false (by decide), eq_false (by decide), eq_false (by decide), eq_false (by decide), eq_false (by decide), eq_false (by decide), eq_false (by decide), eq_false (by decide), eq_false (by decide), eq_false (by decide), eq_false (by decide), eq_false (by decide), eq_false (by decide), eq_false (by decide), eq_false (by decide), eq_false (by decide), eq_false (by decide), eq_false (by decide), eq_false (by decide), eq_false (by decide), eq_false (by decide), eq_false (by decide), eq_false (by decide), eq_false (by decide), eq_false (by decide), eq_false (by decide), eq_false (by decide), eq_false (by decide), eq_false (by decide), eq_false (by decide), eq_false (by decide), eq_false (by decide), eq_false (by decide), eq_false (by decide), eq_false (by decide), eq_false (by decide), eq_false (by decide), eq_false (by decide), eq_false (by decide), eq_false (by decide), eq_false (by decide), eq_false (by decide), eq_false (by decide), eq_false (by decide), eq_false (by decide), eq_false (by decide), eq_false (by decide), eq_false (by decide), eq_false (by decide), eq_false (by decide), eq_false (by decide), eq_false (by decide), eq_false (by decide), eq_false (by decide), eq_false (by decide), eq_false (by decide), eq_false (by decide), eq_false (by decide), eq_false (by decide), eq_false (by decide), eq_false (by decide), eq_false (by decide), eq_false (by decide), eq_false (by decide), eq_false (by decide), eq_false (by decide), eq_false (by decide), eq_false (by decide), eq_false (by decide), eq_false (by decide), eq_false (by decide), eq_false (by decide), eq_false (by decide), eq_false (by decide), eq_false (by decide), eq_false (by decide), eq_false (by decide), eq_false (by decide), eq_false (by decide), eq_false (by decide), eq_false (by decide), eq_false (by decide), eq_false (by decide), eq_false (by decide), eq_false (by decide), eq_true (by decide), eq_true (by decide), eq_false (by decide), eq_false (by decide), eq_true (by decide), eq_false (by decide), eq_false (by decide), eq_true (by decide), eq_false (by decide), eq_false (by decide), eq_true (by decide), eq_false (by decide), eq_false (by decide), eq_true (by decide), eq_false (by decide), eq_false (by decide), eq_true (by decide), eq_false (by decide), eq_false (by decide), eq_false (by decide), eq_false (by decide), eq_false (by decide), eq_false (by decide), eq_false (by decide), eq_false (by decide), eq_false (by decide), eq_false (by decide), eq_false (by decide), eq_false (by decide), eq_false (by decide), eq_false (by decide), eq_false (by decide), eq_false (by decide), eq_false (by decide), eq_false (by decide)⟩
theorem bf_or (b : Bool) : b = false ∨ b = true := by cases b <;> simp
theorem f_s2 (d : ax_D) (f : Row) : ax_set d 9 0 2 f = sR d 2 f := rfl
theorem f_s3 (d : ax_D) (f : Row) : ax_set d 9 0 3 f = sR d 3 f := rfl
theorem f_s29 (d : ax_D) (f : Row) : ax_set d 9 0 29 f = sR d 29 f := rfl
theorem f_s30 (d : ax_D) (f : Row) : ax_set d 9 0 30 f = sR d 30 f := rfl
theorem c_range (x a b : Int32) (d : ax_D) (Q : ax_P) : CT 2 [Sum.inl x, Sum.inl a, Sum.inl b] d Q ↔ Q d (cond (inB x a b) (Sum.inl none) (Sum.inr 1)) := by
  refine ct_iff (w2 _ _ _ ?_) Q
  simp only [c_within, kV_r, kV_x, kI_r, kI_x, kR_r, kF_r, kD_r, forall_eq, not_true_eq_false, not_false_eq_true, false_implies, true_implies, true_and, and_true, b2i_0, b2i_1, b2i_01, b2i_t, b2i_f, decide_true, decide_false, Bool.not_true, Bool.not_false, i1_0, eq_self, reduceCtorEq, eLits]
  cases inB x a b <;> simp [b2i]
section CK
variable {d : ax_D} {s : Row}
theorem c_chkT (h : CC d 0 s) (x : Int32) (Q : ax_P) : CT 4 [ax_vR 8 0 0, Sum.inl x] d Q ↔ Q d (cond (isTh s x) (Sum.inl none) (Sum.inr 2)) := by
  refine ct_iff (w4 _ ?_) Q
  simp only [c_isTh' (p := 0) h.1.1.2.1 h.2.2, kV_r, kV_x, kI_r, kI_x, kR_r, kF_r, kD_r, forall_eq, not_true_eq_false, not_false_eq_true, false_implies, true_implies, true_and, and_true, b2i_0, b2i_1, b2i_01, b2i_t, b2i_f, decide_true, decide_false, Bool.not_true, Bool.not_false, i1_0, eq_self, reduceCtorEq, eLits]
  cases isTh s x <;> simp [b2i]
theorem c_chkR (h : CC d 0 s) (x : Int32) (Q : ax_P) : CT 23 [ax_vR 8 0 0, Sum.inl x] d Q ↔ Q d (cond (isRm s x) (Sum.inl none) (Sum.inr 2)) := by
  refine ct_iff (w23 _ ?_) Q
  simp only [c_isRm (p := 0) h.1.1.1 h.2.2, kV_r, kV_x, kI_r, kI_x, kR_r, kF_r, kD_r, forall_eq, not_true_eq_false, not_false_eq_true, false_implies, true_implies, true_and, and_true, b2i_0, b2i_1, b2i_01, b2i_t, b2i_f, decide_true, decide_false, Bool.not_true, Bool.not_false, i1_0, eq_self, reduceCtorEq, eLits]
  cases isRm s x <;> simp [b2i]
theorem c_refP (h : CC d 0 s) (Q : ax_P) : CT 6 [ax_vR 8 0 0] d Q ↔ Q d (cond (plays s) (Sum.inr 0) (Sum.inl none)) := by
  refine ct_iff (w6 ?_) Q
  simp only [c_played h.2.1 h.2.2, kV_r, kV_x, kI_r, kI_x, kR_r, kF_r, kD_r, forall_eq, not_true_eq_false, not_false_eq_true, false_implies, true_implies, true_and, and_true, b2i_0, b2i_1, b2i_01, b2i_t, b2i_f, decide_true, decide_false, Bool.not_true, Bool.not_false, i1_0, eq_self, reduceCtorEq, eLits]
  cases plays s <;> simp [b2i]
theorem c_refU (h : CC d 0 s) (Q : ax_P) : CT 32 [ax_vR 8 0 0] d Q ↔ Q d (cond (plays s) (Sum.inl none) (Sum.inr 0)) := by
  refine ct_iff (w32 ?_) Q
  simp only [c_played h.2.1 h.2.2, kV_r, kV_x, kI_r, kI_x, kR_r, kF_r, kD_r, forall_eq, not_true_eq_false, not_false_eq_true, false_implies, true_implies, true_and, and_true, b2i_0, b2i_1, b2i_01, b2i_t, b2i_f, decide_true, decide_false, Bool.not_true, Bool.not_false, i1_0, eq_self, reduceCtorEq, eLits]
  cases plays s <;> simp [b2i]
theorem in5 {w : Int32} (h : inB w 0 4 = true) : w = 0 ∨ w = 1 ∨ w = 2 ∨ w = 3 ∨ w = 4 := by
  obtain ⟨n, -, hn, e⟩ := inB_ex (a := 0) (b := 4) h (by omega) (by omega)
  rcases (by omega : n = 0 ∨ n = 1 ∨ n = 2 ∨ n = 3 ∨ n = 4) with z | z | z | z | z <;> subst z <;> subst e
  · exact Or.inl rfl
  · exact Or.inr (Or.inl rfl)
  · exact Or.inr (Or.inr (Or.inl rfl))
  · exact Or.inr (Or.inr (Or.inr (Or.inl rfl)))
  · exact Or.inr (Or.inr (Or.inr (Or.inr rfl)))
theorem isPl_0 (s : Row) (g : Int32) : isPl s 0 g = isRm s g := by unfold isPl; rw [show inB 0 0 4 = true by decide, show decide ((2 : Int32) < 0) = false by decide, show decide ((0 : Int32) = 0) = true by decide]; rfl
theorem isPl_1 (s : Row) (g : Int32) : isPl s 1 g = isTh s g := by unfold isPl; rw [show inB 1 0 4 = true by decide, show decide ((2 : Int32) < 1) = false by decide, show decide ((1 : Int32) = 0) = false by decide]; rfl
theorem isPl_2 (s : Row) (g : Int32) : isPl s 2 g = isTh s g := by unfold isPl; rw [show inB 2 0 4 = true by decide, show decide ((2 : Int32) < 2) = false by decide, show decide ((2 : Int32) = 0) = false by decide]; rfl
theorem isPl_3 (s : Row) (g : Int32) : isPl s 3 g = true := by unfold isPl; rw [show inB 3 0 4 = true by decide, show decide ((2 : Int32) < 3) = true by decide]; rfl
theorem isPl_4 (s : Row) (g : Int32) : isPl s 4 g = true := by unfold isPl; rw [show inB 4 0 4 = true by decide, show decide ((2 : Int32) < 4) = true by decide]; rfl
theorem c_chkPl (h : CC d 0 s) (p g : Int32) (Q : ax_P) : CT 30 [ax_vR 8 0 0, Sum.inl p, Sum.inl g] d Q ↔ Q d (cond (isPl s p g) (Sum.inl none) (Sum.inr 1)) := by
  refine ct_iff (w30 _ _ ?_) Q
  have h34 : ∀ Q : ax_P, Q d (cond (isTh s g) (Sum.inl none) (Sum.inr 1)) → h30_34 p g d Q := fun Q hQ => by
    refine w30_34 _ _ ?_
    simp only [c_isTh' (p := 0) h.1.1.2.1 h.2.2, kV_r, kV_x, kI_r, kI_x, kR_r, kF_r, kD_r, forall_eq, not_true_eq_false, not_false_eq_true, false_implies, true_implies, true_and, and_true, b2i_0, b2i_1, b2i_01, b2i_t, b2i_f, decide_true, decide_false, Bool.not_true, Bool.not_false, i1_0, eq_self, reduceCtorEq, eLits]
    cases hg : isTh s g <;> rw [hg] at hQ <;> simpa [b2i] using hQ
  simp only [c_range]
  cases hb : inB p 0 4 with
  | false => simp [isPl, hb, kV]
  | true =>
    rcases in5 hb with e | e | e | e | e <;> subst e
    · simp only [c_isRm (p := 0) h.1.1.1 h.2.2, kV_r, kV_x, kI_r, kI_x, kR_r, kF_r, kD_r, forall_eq, not_true_eq_false, not_false_eq_true, false_implies, true_implies, true_and, and_true, b2i_0, b2i_1, b2i_01, b2i_t, b2i_f, decide_true, decide_false, Bool.not_true, Bool.not_false, i1_0, eq_self, reduceCtorEq, eLits, cond_true, isPl_0]
      cases hg : isRm s g <;> simp
    · simp only [kV_r, kV_x, kI_r, kI_x, kR_r, kF_r, kD_r, forall_eq, not_true_eq_false, not_false_eq_true, false_implies, true_implies, true_and, and_true, b2i_0, b2i_1, b2i_01, b2i_t, b2i_f, decide_true, decide_false, Bool.not_true, Bool.not_false, i1_0, eq_self, reduceCtorEq, eLits, cond_true, isPl_1]
      exact h34 _ ⟨rfl, rfl⟩
    · simp only [kV_r, kV_x, kI_r, kI_x, kR_r, kF_r, kD_r, forall_eq, not_true_eq_false, not_false_eq_true, false_implies, true_implies, true_and, and_true, b2i_0, b2i_1, b2i_01, b2i_t, b2i_f, decide_true, decide_false, Bool.not_true, Bool.not_false, i1_0, eq_self, reduceCtorEq, eLits, cond_true, isPl_2]
      exact h34 _ ⟨rfl, rfl⟩
    · simp only [kV_r, kV_x, kI_r, kI_x, kR_r, kF_r, kD_r, forall_eq, not_true_eq_false, not_false_eq_true, false_implies, true_implies, true_and, and_true, b2i_0, b2i_1, b2i_01, b2i_t, b2i_f, decide_true, decide_false, Bool.not_true, Bool.not_false, i1_0, eq_self, reduceCtorEq, eLits, cond_true, isPl_3]
    · simp only [kV_r, kV_x, kI_r, kI_x, kR_r, kF_r, kD_r, forall_eq, not_true_eq_false, not_false_eq_true, false_implies, true_implies, true_and, and_true, b2i_0, b2i_1, b2i_01, b2i_t, b2i_f, decide_true, decide_false, Bool.not_true, Bool.not_false, i1_0, eq_self, reduceCtorEq, eLits, cond_true, isPl_4]
end CK
section JO
variable {d : ax_D} {n : Nat}
theorem j_outer (I : INV d n) (x : Int32) : JN [2] 139 256 [x] d n := by
  have hC := I.1
  have hk := hC.2.2
  cases hT : isTh (mr d 2) x with
  | false => exact jq_x I 0 rfl (fun Q hQ => w139 _ (by simp only [c_chkT hC, hT, kV_r, kV_x, kI_r, kI_x, kR_r, kF_r, kD_r, forall_eq, not_true_eq_false, not_false_eq_true, false_implies, true_implies, true_and, and_true, b2i_0, b2i_1, b2i_01, b2i_t, b2i_f, decide_true, decide_false, Bool.not_true, Bool.not_false, i1_0, eq_self, reduceCtorEq, eLits, cond_false]; exact hQ)) (fun d' Q e _ hQ => w256 _ (by simp only [f_mv, f_sV, f_sV', f_s2, f_s3, f_s29, f_s30, f_mr, mr_sR, mv_sV, sV_sV, sR_sR, m2, kV_r, kV_x, kI_r, kI_x, kR_r, kF_r, kD_r, forall_eq, not_true_eq_false, not_false_eq_true, false_implies, true_implies, true_and, and_true, b2i_0, b2i_1, b2i_01, b2i_t, b2i_f, decide_true, decide_false, Bool.not_true, Bool.not_false, i1_0, eq_self, reduceCtorEq, eLits, m2, m_isTh, e, hT, m_fails]; exact hQ _))
  | true =>
    obtain ⟨t, ht, rfl⟩ := isTh_ex hk hT
    exact jq_v I (outer (mr d 2) t) (fun Q hQ => w139 _ (by simp only [c_chkT hC, hT, kV_r, kV_x, kI_r, kI_x, kR_r, kF_r, kD_r, forall_eq, not_true_eq_false, not_false_eq_true, false_implies, true_implies, true_and, and_true, b2i_0, b2i_1, b2i_01, b2i_t, b2i_f, decide_true, decide_false, Bool.not_true, Bool.not_false, i1_0, eq_self, reduceCtorEq, eLits, cond_true, c_outer hC ht]; exact hQ)) (fun d' Q e _ hQ => w256 _ (by simp only [f_mv, f_sV, f_sV', f_s2, f_s3, f_s29, f_s30, f_mr, mr_sR, mv_sV, sV_sV, sR_sR, m2, kV_r, kV_x, kI_r, kI_x, kR_r, kF_r, kD_r, forall_eq, not_true_eq_false, not_false_eq_true, false_implies, true_implies, true_and, and_true, b2i_0, b2i_1, b2i_01, b2i_t, b2i_f, decide_true, decide_false, Bool.not_true, Bool.not_false, i1_0, eq_self, reduceCtorEq, eLits, m2, m_isTh, e, hT, m_outer ((m2 d' 0 0).trans e) hk ht]; exact hQ))
theorem j_isLit (I : INV d n) (x : Int32) : JN [2] 128 246 [x] d n := by
  have hC := I.1
  have hk := hC.2.2
  cases hT : isRm (mr d 2) x with
  | false => exact jq_x I 0 rfl (fun Q hQ => w128 _ (by simp only [c_chkR hC, hT, kV_r, kV_x, kI_r, kI_x, kR_r, kF_r, kD_r, forall_eq, not_true_eq_false, not_false_eq_true, false_implies, true_implies, true_and, and_true, b2i_0, b2i_1, b2i_01, b2i_t, b2i_f, decide_true, decide_false, Bool.not_true, Bool.not_false, i1_0, eq_self, reduceCtorEq, eLits, cond_false]; exact hQ)) (fun d' Q e _ hQ => w246 _ (by
      simp only [kV_r, kV_x, kI_r, kI_x, kR_r, kF_r, kD_r, forall_eq, not_true_eq_false, not_false_eq_true, false_implies, true_implies, true_and, and_true, b2i_0, b2i_1, b2i_01, b2i_t, b2i_f, decide_true, decide_false, Bool.not_true, Bool.not_false, i1_0, eq_self, reduceCtorEq, eLits, m_isRm, e, hT]
      refine w246_14 _ _ ?_
      simp only [f_mv, f_sV, f_sV', f_s2, f_s3, f_s29, f_s30, f_mr, mr_sR, mv_sV, sV_sV, sR_sR, m2, kV_r, kV_x, kI_r, kI_x, kR_r, kF_r, kD_r, forall_eq, not_true_eq_false, not_false_eq_true, false_implies, true_implies, true_and, and_true, b2i_0, b2i_1, b2i_01, b2i_t, b2i_f, decide_true, decide_false, Bool.not_true, Bool.not_false, i1_0, eq_self, reduceCtorEq, eLits]
      exact hQ _))
  | true =>
    obtain ⟨t, ht, rfl⟩ := isRm_ex hk hT
    have hr8 : t < 8 := Nat.lt_of_lt_of_le ht (Pk_R hk.1).2
    exact jq_v I (b2i (bright (mr d 2) t)) (fun Q hQ => w128 _ (by simp only [c_chkR hC, hT, kV_r, kV_x, kI_r, kI_x, kR_r, kF_r, kD_r, forall_eq, not_true_eq_false, not_false_eq_true, false_implies, true_implies, true_and, and_true, b2i_0, b2i_1, b2i_01, b2i_t, b2i_f, decide_true, decide_false, Bool.not_true, Bool.not_false, i1_0, eq_self, reduceCtorEq, eLits, cond_true, c_hasLight (a := 0) hC hr8]; exact ⟨bf_or _, hQ⟩)) (fun d' Q e _ hQ => w246 _ (by
      simp only [kV_r, kV_x, kI_r, kI_x, kR_r, kF_r, kD_r, forall_eq, not_true_eq_false, not_false_eq_true, false_implies, true_implies, true_and, and_true, b2i_0, b2i_1, b2i_01, b2i_t, b2i_f, decide_true, decide_false, Bool.not_true, Bool.not_false, i1_0, eq_self, reduceCtorEq, eLits, m_isRm, e, hT]
      refine w246_14 _ _ ?_
      simp only [f_mv, f_sV, f_sV', f_s2, f_s3, f_s29, f_s30, f_mr, mr_sR, mv_sV, sV_sV, sR_sR, m2, kV_r, kV_x, kI_r, kI_x, kR_r, kF_r, kD_r, forall_eq, not_true_eq_false, not_false_eq_true, false_implies, true_implies, true_and, and_true, b2i_0, b2i_1, b2i_01, b2i_t, b2i_f, decide_true, decide_false, Bool.not_true, Bool.not_false, i1_0, eq_self, reduceCtorEq, eLits, m_bright ((m2 d' 0 0).trans e) hk hr8]
      cases hb : bright (mr d 2) t <;> rw [hb] at hQ <;> simpa [b2i] using hQ))
theorem j_isVisible (I : INV d n) (x : Int32) : JN [2, 0] 133 249 [x] d n := by
  have hC := I.1
  have hk := hC.2.2
  cases hT : isTh (mr d 2) x with
  | false => exact jq_x I 0 rfl (fun Q hQ => w133 _ (by simp only [c_chkT hC, hT, kV_r, kV_x, kI_r, kI_x, kR_r, kF_r, kD_r, forall_eq, not_true_eq_false, not_false_eq_true, false_implies, true_implies, true_and, and_true, b2i_0, b2i_1, b2i_01, b2i_t, b2i_f, decide_true, decide_false, Bool.not_true, Bool.not_false, i1_0, eq_self, reduceCtorEq, eLits, cond_false]; exact hQ)) (fun d' Q e _ hQ => w249 _ (by
      simp only [kV_r, kV_x, kI_r, kI_x, kR_r, kF_r, kD_r, forall_eq, not_true_eq_false, not_false_eq_true, false_implies, true_implies, true_and, and_true, b2i_0, b2i_1, b2i_01, b2i_t, b2i_f, decide_true, decide_false, Bool.not_true, Bool.not_false, i1_0, eq_self, reduceCtorEq, eLits, m_isTh, e, hT]
      refine w249_25 _ _ ?_
      simp only [f_mv, f_sV, f_sV', f_s2, f_s3, f_s29, f_s30, f_mr, mr_sR, mv_sV, sV_sV, sR_sR, m2, kV_r, kV_x, kI_r, kI_x, kR_r, kF_r, kD_r, forall_eq, not_true_eq_false, not_false_eq_true, false_implies, true_implies, true_and, and_true, b2i_0, b2i_1, b2i_01, b2i_t, b2i_f, decide_true, decide_false, Bool.not_true, Bool.not_false, i1_0, eq_self, reduceCtorEq, eLits]
      exact hQ _))
  | true =>
    obtain ⟨t, ht, rfl⟩ := isTh_ex hk hT
    have hl := Ok_lt hk ht
    cases hp : plays (mr d 2) with
    | false => exact jq_x I 1 rfl (fun Q hQ => w133 _ (by simp only [c_chkT hC, c_refU hC, hT, hp, kV_r, kV_x, kI_r, kI_x, kR_r, kF_r, kD_r, forall_eq, not_true_eq_false, not_false_eq_true, false_implies, true_implies, true_and, and_true, b2i_0, b2i_1, b2i_01, b2i_t, b2i_f, decide_true, decide_false, Bool.not_true, Bool.not_false, i1_0, eq_self, reduceCtorEq, eLits, cond_true, cond_false]; exact hQ)) (fun d' Q e _ hQ => w249 _ (by
        simp only [kV_r, kV_x, kI_r, kI_x, kR_r, kF_r, kD_r, forall_eq, not_true_eq_false, not_false_eq_true, false_implies, true_implies, true_and, and_true, b2i_0, b2i_1, b2i_01, b2i_t, b2i_f, decide_true, decide_false, Bool.not_true, Bool.not_false, i1_0, eq_self, reduceCtorEq, eLits, m_isTh, m_played, e, hT, hp]
        refine w249_25 _ _ ?_
        simp only [f_mv, f_sV, f_sV', f_s2, f_s3, f_s29, f_s30, f_mr, mr_sR, mv_sV, sV_sV, sR_sR, m2, kV_r, kV_x, kI_r, kI_x, kR_r, kF_r, kD_r, forall_eq, not_true_eq_false, not_false_eq_true, false_implies, true_implies, true_and, and_true, b2i_0, b2i_1, b2i_01, b2i_t, b2i_f, decide_true, decide_false, Bool.not_true, Bool.not_false, i1_0, eq_self, reduceCtorEq, eLits]
        exact hQ _))
    | true =>
      have hb : bt (setI (seen (mr d 2)) (nT (mr d 2))) t = seen (mr d 2) t := by
        rw [bt_setI (by have := (Ok_T hk).2; omega) (by omega), decide_eq_true ht, Bool.true_and]
      exact jq_v I (b2i (seen (mr d 2) t)) (fun Q hQ => w133 _ (by simp only [c_chkT hC, c_refU hC, hT, hp, kV_r, kV_x, kI_r, kI_x, kR_r, kF_r, kD_r, forall_eq, not_true_eq_false, not_false_eq_true, false_implies, true_implies, true_and, and_true, b2i_0, b2i_1, b2i_01, b2i_t, b2i_f, decide_true, decide_false, Bool.not_true, Bool.not_false, i1_0, eq_self, reduceCtorEq, eLits, cond_true, c_visible (a := 0) hC hp, c_cont hl, hb]; exact ⟨bf_or _, hQ⟩)) (fun d' Q e _ hQ => w249 _ (by
        simp only [kV_r, kV_x, kI_r, kI_x, kR_r, kF_r, kD_r, forall_eq, not_true_eq_false, not_false_eq_true, false_implies, true_implies, true_and, and_true, b2i_0, b2i_1, b2i_01, b2i_t, b2i_f, decide_true, decide_false, Bool.not_true, Bool.not_false, i1_0, eq_self, reduceCtorEq, eLits, m_isTh, m_played, e, hT, hp]
        refine w249_25 _ _ ?_
        simp only [f_mv, f_sV, f_sV', f_s2, f_s3, f_s29, f_s30, f_mr, mr_sR, mv_sV, sV_sV, sR_sR, m2, kV_r, kV_x, kI_r, kI_x, kR_r, kF_r, kD_r, forall_eq, not_true_eq_false, not_false_eq_true, false_implies, true_implies, true_and, and_true, b2i_0, b2i_1, b2i_01, b2i_t, b2i_f, decide_true, decide_false, Bool.not_true, Bool.not_false, i1_0, eq_self, reduceCtorEq, eLits, m_see ((m2 d' 0 0).trans e) hk hp ht]
        cases hb : seen (mr d 2) t <;> rw [hb] at hQ <;> simpa [b2i] using hQ))
theorem j_isReachable (I : INV d n) (x : Int32) : JN [2, 0] 129 247 [x] d n := by
  have hC := I.1
  have hk := hC.2.2
  cases hT : isTh (mr d 2) x with
  | false => exact jq_x I 0 rfl (fun Q hQ => w129 _ (by simp only [c_chkT hC, hT, kV_r, kV_x, kI_r, kI_x, kR_r, kF_r, kD_r, forall_eq, not_true_eq_false, not_false_eq_true, false_implies, true_implies, true_and, and_true, b2i_0, b2i_1, b2i_01, b2i_t, b2i_f, decide_true, decide_false, Bool.not_true, Bool.not_false, i1_0, eq_self, reduceCtorEq, eLits, cond_false]; exact hQ)) (fun d' Q e _ hQ => w247 _ (by
      simp only [kV_r, kV_x, kI_r, kI_x, kR_r, kF_r, kD_r, forall_eq, not_true_eq_false, not_false_eq_true, false_implies, true_implies, true_and, and_true, b2i_0, b2i_1, b2i_01, b2i_t, b2i_f, decide_true, decide_false, Bool.not_true, Bool.not_false, i1_0, eq_self, reduceCtorEq, eLits, m_isTh, e, hT]
      refine w247_25 _ _ ?_
      simp only [f_mv, f_sV, f_sV', f_s2, f_s3, f_s29, f_s30, f_mr, mr_sR, mv_sV, sV_sV, sR_sR, m2, kV_r, kV_x, kI_r, kI_x, kR_r, kF_r, kD_r, forall_eq, not_true_eq_false, not_false_eq_true, false_implies, true_implies, true_and, and_true, b2i_0, b2i_1, b2i_01, b2i_t, b2i_f, decide_true, decide_false, Bool.not_true, Bool.not_false, i1_0, eq_self, reduceCtorEq, eLits]
      exact hQ _))
  | true =>
    obtain ⟨t, ht, rfl⟩ := isTh_ex hk hT
    have hl := Ok_lt hk ht
    cases hp : plays (mr d 2) with
    | false => exact jq_x I 1 rfl (fun Q hQ => w129 _ (by simp only [c_chkT hC, c_refU hC, hT, hp, kV_r, kV_x, kI_r, kI_x, kR_r, kF_r, kD_r, forall_eq, not_true_eq_false, not_false_eq_true, false_implies, true_implies, true_and, and_true, b2i_0, b2i_1, b2i_01, b2i_t, b2i_f, decide_true, decide_false, Bool.not_true, Bool.not_false, i1_0, eq_self, reduceCtorEq, eLits, cond_true, cond_false]; exact hQ)) (fun d' Q e _ hQ => w247 _ (by
        simp only [kV_r, kV_x, kI_r, kI_x, kR_r, kF_r, kD_r, forall_eq, not_true_eq_false, not_false_eq_true, false_implies, true_implies, true_and, and_true, b2i_0, b2i_1, b2i_01, b2i_t, b2i_f, decide_true, decide_false, Bool.not_true, Bool.not_false, i1_0, eq_self, reduceCtorEq, eLits, m_isTh, m_played, e, hT, hp]
        refine w247_25 _ _ ?_
        simp only [f_mv, f_sV, f_sV', f_s2, f_s3, f_s29, f_s30, f_mr, mr_sR, mv_sV, sV_sV, sR_sR, m2, kV_r, kV_x, kI_r, kI_x, kR_r, kF_r, kD_r, forall_eq, not_true_eq_false, not_false_eq_true, false_implies, true_implies, true_and, and_true, b2i_0, b2i_1, b2i_01, b2i_t, b2i_f, decide_true, decide_false, Bool.not_true, Bool.not_false, i1_0, eq_self, reduceCtorEq, eLits]
        exact hQ _))
    | true =>
      have hb : bt (setI (seen (mr d 2)) (nT (mr d 2))) t = seen (mr d 2) t := by
        rw [bt_setI (by have := (Ok_T hk).2; omega) (by omega), decide_eq_true ht, Bool.true_and]
      exact jq_v I (b2i (reach (mr d 2) t)) (fun Q hQ => w129 _ (by
        simp only [c_chkT hC, c_refU hC, hT, hp, kV_r, kV_x, kI_r, kI_x, kR_r, kF_r, kD_r, forall_eq, not_true_eq_false, not_false_eq_true, false_implies, true_implies, true_and, and_true, b2i_0, b2i_1, b2i_01, b2i_t, b2i_f, decide_true, decide_false, Bool.not_true, Bool.not_false, i1_0, eq_self, reduceCtorEq, eLits, cond_true, c_visible (a := 0) hC hp, c_cont hl, hb, c_unenc hC ht]
        cases hs : seen (mr d 2) t with
        | false =>
          rw [show reach (mr d 2) t = false by unfold reach; rw [hs]; rfl] at hQ
          simpa [b2i] using hQ
        | true =>
          rw [reach_seen hs] at hQ
          cases ho : opened (mr d 2) t <;> rw [ho] at hQ <;> simpa [b2i] using hQ)) (fun d' Q e _ hQ => w247 _ (by
        simp only [kV_r, kV_x, kI_r, kI_x, kR_r, kF_r, kD_r, forall_eq, not_true_eq_false, not_false_eq_true, false_implies, true_implies, true_and, and_true, b2i_0, b2i_1, b2i_01, b2i_t, b2i_f, decide_true, decide_false, Bool.not_true, Bool.not_false, i1_0, eq_self, reduceCtorEq, eLits, m_isTh, m_played, e, hT, hp]
        refine w247_25 _ _ ?_
        simp only [f_mv, f_sV, f_sV', f_s2, f_s3, f_s29, f_s30, f_mr, mr_sR, mv_sV, sV_sV, sR_sR, m2, kV_r, kV_x, kI_r, kI_x, kR_r, kF_r, kD_r, forall_eq, not_true_eq_false, not_false_eq_true, false_implies, true_implies, true_and, and_true, b2i_0, b2i_1, b2i_01, b2i_t, b2i_f, decide_true, decide_false, Bool.not_true, Bool.not_false, i1_0, eq_self, reduceCtorEq, eLits, m_reach ((m2 d' 0 0).trans e) hk hp ht]
        cases hb : reach (mr d 2) t <;> rw [hb] at hQ <;> simpa [b2i] using hQ))
theorem j_event (I : INV d n) (x : Int32) : JN [2] 124 242 [x] d n := by
  have hC := I.1
  have hk := hC.2.2
  have h6 : ax_row d 7 0 0 9 = mr d 2 6 := hC.2.1.2.1.2.1
  have h40 : ∃ e, e ≤ 40 ∧ mr d 2 6 = nI e := by
    rcases hk.2.2.2.2.2.1 with q | q
    · exact ⟨0, by omega, q.2.2⟩
    · exact q.2.2
  obtain ⟨e6, he, h6e⟩ := h40
  cases hT : inB x 0 (mr d 2 6 - 1) with
  | false => exact jq_x I 0 rfl (fun Q hQ => w124 _ (by simp only [c_within, h6, hT, kV_r, kV_x, kI_r, kI_x, kR_r, kF_r, kD_r, forall_eq, not_true_eq_false, not_false_eq_true, false_implies, true_implies, true_and, and_true, b2i_0, b2i_1, b2i_01, b2i_t, b2i_f, decide_true, decide_false, Bool.not_true, Bool.not_false, i1_0, eq_self, reduceCtorEq, eLits]; exact hQ)) (fun d' Q e _ hQ => w242 _ (by simp only [f_mv, f_sV, f_sV', f_s2, f_s3, f_s29, f_s30, f_mr, mr_sR, mv_sV, sV_sV, sR_sR, m2, kV_r, kV_x, kI_r, kI_x, kR_r, kF_r, kD_r, forall_eq, not_true_eq_false, not_false_eq_true, false_implies, true_implies, true_and, and_true, b2i_0, b2i_1, b2i_01, b2i_t, b2i_f, decide_true, decide_false, Bool.not_true, Bool.not_false, i1_0, eq_self, reduceCtorEq, eLits, m2, m_in, e, hT, m_fails]; exact hQ _))
  | true =>
    have hx : ∃ i, i < e6 ∧ x = nI i := by
      rw [inB_m1 h6e (by omega), h6e, Bool.and_eq_true] at hT
      rcases pk_ix x (n := e6) (by omega) with a | a | a
      · simp [a] at hT
      · simp [a] at hT
      · exact a
    obtain ⟨i, hi, rfl⟩ := hx
    have ci : ax_in (nI i) 40 = true := ax_in_nI (by omega) (by omega)
    exact jq_v I (mr d 2 (329 + i)) (fun Q hQ => w124 _ (by simp only [c_within, h6, hT, kV_r, kV_x, kI_r, kI_x, kR_r, kF_r, kD_r, forall_eq, not_true_eq_false, not_false_eq_true, false_implies, true_implies, true_and, and_true, b2i_0, b2i_1, b2i_01, b2i_t, b2i_f, decide_true, decide_false, Bool.not_true, Bool.not_false, i1_0, eq_self, reduceCtorEq, eLits, ci, nI_clamp (show i < 2 ^ 31 by omega), hC.2.1.2.2.1 i (show i < 40 by omega)]; exact hQ)) (fun d' Q e _ hQ => w242 _ (by simp only [f_mv, f_sV, f_sV', f_s2, f_s3, f_s29, f_s30, f_mr, mr_sR, mv_sV, sV_sV, sR_sR, m2, kV_r, kV_x, kI_r, kI_x, kR_r, kF_r, kD_r, forall_eq, not_true_eq_false, not_false_eq_true, false_implies, true_implies, true_and, and_true, b2i_0, b2i_1, b2i_01, b2i_t, b2i_f, decide_true, decide_false, Bool.not_true, Bool.not_false, i1_0, eq_self, reduceCtorEq, eLits, m2, m_in, e, hT, in_329 (show i < 40 by omega), cl_329 (show i < 40 by omega)]; exact hQ))
theorem j_fault (I : INV d n) : JN [] 126 243 [] d n := by
  have h7 : ax_row d 8 0 0 7 = mv d 11 := I.2.2.1.1
  exact jq_v I (mv d 11) (fun Q hQ => w126 (by rw [h7]; exact hQ)) (fun d' Q _ e hQ => w243 (by
    simp only [f_mv, f_sV, f_sV', f_s2, f_s3, f_s29, f_s30, f_mr, mr_sR, mv_sV, sV_sV, sR_sR, m2, kV_r, kV_x, kI_r, kI_x, kR_r, kF_r, kD_r, forall_eq, not_true_eq_false, not_false_eq_true, false_implies, true_implies, true_and, and_true, b2i_0, b2i_1, b2i_01, b2i_t, b2i_f, decide_true, decide_false, Bool.not_true, Bool.not_false, i1_0, eq_self, reduceCtorEq, eLits, mv_sVn (show (11 : Nat) ≠ 0 by decide), e 11]; exact hQ))
theorem in3 {w : Int32} (h : inB w 0 2 = true) : w = 0 ∨ w = 1 ∨ w = 2 := by
  obtain ⟨n, -, hn, e⟩ := inB_ex (a := 0) (b := 2) h (by omega) (by omega)
  rcases (by omega : n = 0 ∨ n = 1 ∨ n = 2) with z | z | z <;> subst z <;> subst e
  · exact Or.inl rfl
  · exact Or.inr (Or.inl rfl)
  · exact Or.inr (Or.inr rfl)
theorem j_refusal (I : INV d n) (x : Int32) : JN [1] 143 259 [x] d n := by
  obtain ⟨-, h8, h9, h10⟩ := I.2.2.1
  cases hT : inB x 0 2 with
  | false =>
    have n0 : ¬ x = 0 := fun z => by rw [z] at hT; exact absurd hT (by decide)
    have n1 : ¬ x = 1 := fun z => by rw [z] at hT; exact absurd hT (by decide)
    have n2 : ¬ x = 2 := fun z => by rw [z] at hT; exact absurd hT (by decide)
    exact jq_x I 0 rfl (fun Q hQ => w143 _ (by simp only [c_range, hT, kV_r, kV_x, kI_r, kI_x, kR_r, kF_r, kD_r, forall_eq, not_true_eq_false, not_false_eq_true, false_implies, true_implies, true_and, and_true, b2i_0, b2i_1, b2i_01, b2i_t, b2i_f, decide_true, decide_false, Bool.not_true, Bool.not_false, i1_0, eq_self, reduceCtorEq, eLits, cond_false]; exact hQ)) (fun d' Q e _ hQ => w259 _ (by simp only [f_mv, f_sV, f_sV', f_s2, f_s3, f_s29, f_s30, f_mr, mr_sR, mv_sV, sV_sV, sR_sR, m2, kV_r, kV_x, kI_r, kI_x, kR_r, kF_r, kD_r, forall_eq, not_true_eq_false, not_false_eq_true, false_implies, true_implies, true_and, and_true, b2i_0, b2i_1, b2i_01, b2i_t, b2i_f, decide_true, decide_false, Bool.not_true, Bool.not_false, i1_0, eq_self, reduceCtorEq, eLits, n0, n1, n2, m_fails]; exact hQ _))
  | true =>
    rcases in3 hT with e | e | e <;> subst e
    · exact jq_v I (mv d 12) (fun Q hQ => w143 _ (by simp only [c_range, hT, kV_r, kV_x, kI_r, kI_x, kR_r, kF_r, kD_r, forall_eq, not_true_eq_false, not_false_eq_true, false_implies, true_implies, true_and, and_true, b2i_0, b2i_1, b2i_01, b2i_t, b2i_f, decide_true, decide_false, Bool.not_true, Bool.not_false, i1_0, eq_self, reduceCtorEq, eLits, cond_true, h8]; exact hQ)) (fun d' Q _ e hQ => w259 _ (by simp only [f_mv, f_sV, f_sV', f_s2, f_s3, f_s29, f_s30, f_mr, mr_sR, mv_sV, sV_sV, sR_sR, m2, kV_r, kV_x, kI_r, kI_x, kR_r, kF_r, kD_r, forall_eq, not_true_eq_false, not_false_eq_true, false_implies, true_implies, true_and, and_true, b2i_0, b2i_1, b2i_01, b2i_t, b2i_f, decide_true, decide_false, Bool.not_true, Bool.not_false, i1_0, eq_self, reduceCtorEq, eLits, mv_sVn (show (12 : Nat) ≠ 0 by decide), e 12]; exact hQ))
    · exact jq_v I (mv d 13) (fun Q hQ => w143 _ (by simp only [c_range, hT, kV_r, kV_x, kI_r, kI_x, kR_r, kF_r, kD_r, forall_eq, not_true_eq_false, not_false_eq_true, false_implies, true_implies, true_and, and_true, b2i_0, b2i_1, b2i_01, b2i_t, b2i_f, decide_true, decide_false, Bool.not_true, Bool.not_false, i1_0, eq_self, reduceCtorEq, eLits, cond_true, h9]; exact hQ)) (fun d' Q _ e hQ => w259 _ (by simp only [f_mv, f_sV, f_sV', f_s2, f_s3, f_s29, f_s30, f_mr, mr_sR, mv_sV, sV_sV, sR_sR, m2, kV_r, kV_x, kI_r, kI_x, kR_r, kF_r, kD_r, forall_eq, not_true_eq_false, not_false_eq_true, false_implies, true_implies, true_and, and_true, b2i_0, b2i_1, b2i_01, b2i_t, b2i_f, decide_true, decide_false, Bool.not_true, Bool.not_false, i1_0, eq_self, reduceCtorEq, eLits, i1_0, mv_sVn (show (13 : Nat) ≠ 0 by decide), e 13]; exact hQ))
    · have q0 : ((2 : Int32) = 0) = False := eq_false (by decide)
      have q1 : ((2 : Int32) = 1) = False := eq_false (by decide)
      exact jq_v I (mv d 14) (fun Q hQ => w143 _ (by simp only [c_range, hT, kV_r, kV_x, kI_r, kI_x, kR_r, kF_r, kD_r, forall_eq, not_true_eq_false, not_false_eq_true, false_implies, true_implies, true_and, and_true, b2i_0, b2i_1, b2i_01, b2i_t, b2i_f, decide_true, decide_false, Bool.not_true, Bool.not_false, i1_0, eq_self, reduceCtorEq, eLits, cond_true, h10, q0, q1]; exact hQ)) (fun d' Q _ e hQ => w259 _ (by simp only [f_mv, f_sV, f_sV', f_s2, f_s3, f_s29, f_s30, f_mr, mr_sR, mv_sV, sV_sV, sR_sR, m2, kV_r, kV_x, kI_r, kI_x, kR_r, kF_r, kD_r, forall_eq, not_true_eq_false, not_false_eq_true, false_implies, true_implies, true_and, and_true, b2i_0, b2i_1, b2i_01, b2i_t, b2i_f, decide_true, decide_false, Bool.not_true, Bool.not_false, i1_0, eq_self, reduceCtorEq, eLits, q0, q1, mv_sVn (show (14 : Nat) ≠ 0 by decide), e 14]; exact hQ))
theorem c_chkE (hC : CC d 0 (mr d 2)) {r k : Nat} (hr : r < nR (mr d 2)) (hk6 : k < 6) (Q : ax_P) : CT 29 [ax_vR 8 0 0, Sum.inl (nI r), Sum.inl (nI k)] d Q ↔ Q d (cond (decide (mr d 2 (15 + (6 * r + k)) = -1)) (Sum.inr 4) (Sum.inl none)) := by
  have hR := isRm_nI hC.2.2 hr
  have hb : inB (nI k) 0 5 = true := by
    rw [inB_lt, show (5 : Int32) = nI 5 from rfl, decide_eq_false (nI_pos (by omega)), decide_eq_false (show ¬ nI 5 < nI k by rw [Int32.not_lt]; exact nI_le (by omega) (by omega))]; rfl
  refine ct_iff (w29 _ _ ?_) Q
  simp only [c_chkR hC, hR, c_range, hb, kV_r, kV_x, kI_r, kI_x, kR_r, kF_r, kD_r, forall_eq, not_true_eq_false, not_false_eq_true, false_implies, true_implies, true_and, and_true, b2i_0, b2i_1, b2i_01, b2i_t, b2i_f, decide_true, decide_false, Bool.not_true, Bool.not_false, i1_0, eq_self, reduceCtorEq, eLits, cond_true, c_exitP (p := 0) hC.1 hC.2.2 hr hk6]
  by_cases h1 : mr d 2 (15 + (6 * r + k)) = -1 <;> simp [h1]
theorem j_exit (I : INV d n) (x y : Int32) : JN [2, 1, 4] 125 240 [x, y] d n := by
  have hC := I.1
  have hk := hC.2.2
  cases hT : isRm (mr d 2) x with
  | false => exact jq_x I 0 rfl (fun Q hQ => w125 _ _ (w29 _ _ (by simp only [c_chkR hC, hT, kV_r, kV_x, kI_r, kI_x, kR_r, kF_r, kD_r, forall_eq, not_true_eq_false, not_false_eq_true, false_implies, true_implies, true_and, and_true, b2i_0, b2i_1, b2i_01, b2i_t, b2i_f, decide_true, decide_false, Bool.not_true, Bool.not_false, i1_0, eq_self, reduceCtorEq, eLits, cond_false]; exact hQ))) (fun d' Q e _ hQ => w240 _ _ (by simp only [f_mv, f_sV, f_sV', f_s2, f_s3, f_s29, f_s30, f_mr, mr_sR, mv_sV, sV_sV, sR_sR, m2, kV_r, kV_x, kI_r, kI_x, kR_r, kF_r, kD_r, forall_eq, not_true_eq_false, not_false_eq_true, false_implies, true_implies, true_and, and_true, b2i_0, b2i_1, b2i_01, b2i_t, b2i_f, decide_true, decide_false, Bool.not_true, Bool.not_false, i1_0, eq_self, reduceCtorEq, eLits, m2, m_isRm, e, hT, m_fails]; exact hQ _))
  | true =>
    cases hb : inB y 0 5 with
    | false => exact jq_x I 1 rfl (fun Q hQ => w125 _ _ (w29 _ _ (by simp only [c_chkR hC, hT, c_range, hb, kV_r, kV_x, kI_r, kI_x, kR_r, kF_r, kD_r, forall_eq, not_true_eq_false, not_false_eq_true, false_implies, true_implies, true_and, and_true, b2i_0, b2i_1, b2i_01, b2i_t, b2i_f, decide_true, decide_false, Bool.not_true, Bool.not_false, i1_0, eq_self, reduceCtorEq, eLits, cond_true, cond_false]; exact hQ))) (fun d' Q e _ hQ => w240 _ _ (by simp only [f_mv, f_sV, f_sV', f_s2, f_s3, f_s29, f_s30, f_mr, mr_sR, mv_sV, sV_sV, sR_sR, m2, kV_r, kV_x, kI_r, kI_x, kR_r, kF_r, kD_r, forall_eq, not_true_eq_false, not_false_eq_true, false_implies, true_implies, true_and, and_true, b2i_0, b2i_1, b2i_01, b2i_t, b2i_f, decide_true, decide_false, Bool.not_true, Bool.not_false, i1_0, eq_self, reduceCtorEq, eLits, m2, m_isRm, m_in, e, hT, hb, m_fails]; exact hQ _))
    | true =>
      obtain ⟨r, hr, rfl⟩ := isRm_ex hk hT
      obtain ⟨k, -, hk5, rfl⟩ := inB_ex (a := 0) (b := 5) hb (by omega) (by omega)
      have hr8 : r < 8 := Nat.lt_of_lt_of_le hr (Pk_R hk.1).2
      have ci : ax_in (nI (15 + (6 * r + k))) 369 = true := ax_in_nI (by omega) (by omega)
      have cl : (nI (15 + (6 * r + k))).toNatClampNeg = 15 + (6 * r + k) := nI_clamp (by omega)
      by_cases h1 : mr d 2 (15 + (6 * r + k)) = -1
      · exact jq_x I 2 rfl (fun Q hQ => w125 _ _ (by simp only [c_chkE hC hr (show k < 6 by omega), decide_eq_true h1, cond_true, kV_r, kV_x, kI_r, kI_x, kR_r, kF_r, kD_r, forall_eq, not_true_eq_false, not_false_eq_true, false_implies, true_implies, true_and, and_true, b2i_0, b2i_1, b2i_01, b2i_t, b2i_f, decide_true, decide_false, Bool.not_true, Bool.not_false, i1_0, eq_self, reduceCtorEq, eLits]; exact hQ)) (fun d' Q e _ hQ => w240 _ _ (by simp only [f_mv, f_sV, f_sV', f_s2, f_s3, f_s29, f_s30, f_mr, mr_sR, mv_sV, sV_sV, sR_sR, m2, kV_r, kV_x, kI_r, kI_x, kR_r, kF_r, kD_r, forall_eq, not_true_eq_false, not_false_eq_true, false_implies, true_implies, true_and, and_true, b2i_0, b2i_1, b2i_01, b2i_t, b2i_f, decide_true, decide_false, Bool.not_true, Bool.not_false, i1_0, eq_self, reduceCtorEq, eLits, m2, m_isRm, m_in, e, hT, hb, e15, ci, cl, h1, m_fails]; exact hQ _))
      · exact jq_v I (mr d 2 (15 + (6 * r + k))) (fun Q hQ => w125 _ _ (by simp only [c_chkE hC hr (show k < 6 by omega), decide_eq_false h1, cond_false, kV_r, kV_x, kI_r, kI_x, kR_r, kF_r, kD_r, forall_eq, not_true_eq_false, not_false_eq_true, false_implies, true_implies, true_and, and_true, b2i_0, b2i_1, b2i_01, b2i_t, b2i_f, decide_true, decide_false, Bool.not_true, Bool.not_false, i1_0, eq_self, reduceCtorEq, eLits, c_exitP (p := 0) hC.1 hk hr (show k < 6 by omega)]; exact hQ)) (fun d' Q e _ hQ => w240 _ _ (by simp only [f_mv, f_sV, f_sV', f_s2, f_s3, f_s29, f_s30, f_mr, mr_sR, mv_sV, sV_sV, sR_sR, m2, kV_r, kV_x, kI_r, kI_x, kR_r, kF_r, kD_r, forall_eq, not_true_eq_false, not_false_eq_true, false_implies, true_implies, true_and, and_true, b2i_0, b2i_1, b2i_01, b2i_t, b2i_f, decide_true, decide_false, Bool.not_true, Bool.not_false, i1_0, eq_self, reduceCtorEq, eLits, m2, m_isRm, m_in, e, hT, hb, e15, ci, cl, h1, m_fails]; exact hQ))
theorem j_door (I : INV d n) (x y : Int32) : JN [2, 1, 4] 123 241 [x, y] d n := by
  have hC := I.1
  have hk := hC.2.2
  cases hT : isRm (mr d 2) x with
  | false => exact jq_x I 0 rfl (fun Q hQ => w123 _ _ (w29 _ _ (by simp only [c_chkR hC, hT, kV_r, kV_x, kI_r, kI_x, kR_r, kF_r, kD_r, forall_eq, not_true_eq_false, not_false_eq_true, false_implies, true_implies, true_and, and_true, b2i_0, b2i_1, b2i_01, b2i_t, b2i_f, decide_true, decide_false, Bool.not_true, Bool.not_false, i1_0, eq_self, reduceCtorEq, eLits, cond_false]; exact hQ))) (fun d' Q e _ hQ => w241 _ _ (w240 _ _ (by
      simp only [f_mv, f_sV, f_sV', f_s2, f_s3, f_s29, f_s30, f_mr, mr_sR, mv_sV, sV_sV, sR_sR, m2, kV_r, kV_x, kI_r, kI_x, kR_r, kF_r, kD_r, forall_eq, not_true_eq_false, not_false_eq_true, false_implies, true_implies, true_and, and_true, b2i_0, b2i_1, b2i_01, b2i_t, b2i_f, decide_true, decide_false, Bool.not_true, Bool.not_false, i1_0, eq_self, reduceCtorEq, eLits, m2, m_isRm, e, hT, m_fails]
      exact hQ _)))
  | true =>
    cases hb : inB y 0 5 with
    | false => exact jq_x I 1 rfl (fun Q hQ => w123 _ _ (w29 _ _ (by simp only [c_chkR hC, hT, c_range, hb, kV_r, kV_x, kI_r, kI_x, kR_r, kF_r, kD_r, forall_eq, not_true_eq_false, not_false_eq_true, false_implies, true_implies, true_and, and_true, b2i_0, b2i_1, b2i_01, b2i_t, b2i_f, decide_true, decide_false, Bool.not_true, Bool.not_false, i1_0, eq_self, reduceCtorEq, eLits, cond_true, cond_false]; exact hQ))) (fun d' Q e _ hQ => w241 _ _ (w240 _ _ (by
        simp only [f_mv, f_sV, f_sV', f_s2, f_s3, f_s29, f_s30, f_mr, mr_sR, mv_sV, sV_sV, sR_sR, m2, kV_r, kV_x, kI_r, kI_x, kR_r, kF_r, kD_r, forall_eq, not_true_eq_false, not_false_eq_true, false_implies, true_implies, true_and, and_true, b2i_0, b2i_1, b2i_01, b2i_t, b2i_f, decide_true, decide_false, Bool.not_true, Bool.not_false, i1_0, eq_self, reduceCtorEq, eLits, m2, m_isRm, m_in, e, hT, hb, m_fails]
        exact hQ _)))
    | true =>
      obtain ⟨r, hr, rfl⟩ := isRm_ex hk hT
      obtain ⟨k, -, hk5, rfl⟩ := inB_ex (a := 0) (b := 5) hb (by omega) (by omega)
      have hr8 : r < 8 := Nat.lt_of_lt_of_le hr (Pk_R hk.1).2
      have ci : ax_in (nI (15 + (6 * r + k))) 369 = true := ax_in_nI (by omega) (by omega)
      have cl : (nI (15 + (6 * r + k))).toNatClampNeg = 15 + (6 * r + k) := nI_clamp (by omega)
      have ci2 : ax_in (nI (63 + (6 * r + k))) 369 = true := ax_in_nI (by omega) (by omega)
      have cl2 : (nI (63 + (6 * r + k))).toNatClampNeg = 63 + (6 * r + k) := nI_clamp (by omega)
      by_cases h1 : mr d 2 (15 + (6 * r + k)) = -1
      · exact jq_x I 2 rfl (fun Q hQ => w123 _ _ (by simp only [c_chkE hC hr (show k < 6 by omega), decide_eq_true h1, cond_true, kV_r, kV_x, kI_r, kI_x, kR_r, kF_r, kD_r, forall_eq, not_true_eq_false, not_false_eq_true, false_implies, true_implies, true_and, and_true, b2i_0, b2i_1, b2i_01, b2i_t, b2i_f, decide_true, decide_false, Bool.not_true, Bool.not_false, i1_0, eq_self, reduceCtorEq, eLits]; exact hQ)) (fun d' Q e _ hQ => w241 _ _ (w240 _ _ (by
          simp only [f_mv, f_sV, f_sV', f_s2, f_s3, f_s29, f_s30, f_mr, mr_sR, mv_sV, sV_sV, sR_sR, m2, kV_r, kV_x, kI_r, kI_x, kR_r, kF_r, kD_r, forall_eq, not_true_eq_false, not_false_eq_true, false_implies, true_implies, true_and, and_true, b2i_0, b2i_1, b2i_01, b2i_t, b2i_f, decide_true, decide_false, Bool.not_true, Bool.not_false, i1_0, eq_self, reduceCtorEq, eLits, m2, m_isRm, m_in, e, hT, hb, e15, ci, cl, h1, m_fails]
          exact hQ _)))
      · exact jq_v I (mr d 2 (63 + (6 * r + k))) (fun Q hQ => w123 _ _ (by simp only [c_chkE hC hr (show k < 6 by omega), decide_eq_false h1, cond_false, kV_r, kV_x, kI_r, kI_x, kR_r, kF_r, kD_r, forall_eq, not_true_eq_false, not_false_eq_true, false_implies, true_implies, true_and, and_true, b2i_0, b2i_1, b2i_01, b2i_t, b2i_f, decide_true, decide_false, Bool.not_true, Bool.not_false, i1_0, eq_self, reduceCtorEq, eLits, c_doorP (p := 0) hC.1 hk hr (show k < 6 by omega)]; exact hQ)) (fun d' Q e _ hQ => w241 _ _ (w240 _ _ (by
          simp only [f_mv, f_sV, f_sV', f_s2, f_s3, f_s29, f_s30, f_mr, mr_sR, mv_sV, sV_sV, sR_sR, m2, kV_r, kV_x, kI_r, kI_x, kR_r, kF_r, kD_r, forall_eq, not_true_eq_false, not_false_eq_true, false_implies, true_implies, true_and, and_true, b2i_0, b2i_1, b2i_01, b2i_t, b2i_f, decide_true, decide_false, Bool.not_true, Bool.not_false, i1_0, eq_self, reduceCtorEq, eLits, m2, m_isRm, m_in, e, hT, hb, e15, ci, cl, h1, e63, ci2, cl2]
          exact hQ)))
end JO
