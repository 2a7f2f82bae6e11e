/-! the check's leaves: what each answers -/
theorem inB_lt (x a b : Int32) : inB x a b = (!decide (x < a) && !decide (b < x)) := by
  unfold inB
  by_cases h1 : x < a <;> by_cases h2 : b < x <;> simp [h1, h2, ← Int32.not_lt]
theorem m_in (x a b : Int32) (d : ax_D) (Q : ax_P) : CT 171 [Sum.inl x, Sum.inl a, Sum.inl b] d Q ↔ Q d (Sum.inl (some (Sum.inl (b2i (inB x a b))))) := by
  refine ct_iff (w171 x a b ?_) Q
  rw [inB_lt]
  by_cases h1 : x < a <;> by_cases h2 : b < x <;> simp [h1, h2, b2i]
theorem m_has {t : Nat} (ht : t < 16) (f : Int32) (d : ax_D) (Q : ax_P) : CT 163 [ax_vR 9 0 0, Sum.inl (nI t), Sum.inl f] d Q ↔ Q d (Sum.inl (some (Sum.inl (b2i (hasF (mr d 2) t f))))) := by
  refine ct_iff (w163 _ _ ?_) Q
  simp only [f_mv, f_sV, f_sV', f_sR, f_mr, mr_sR, mv_sV, sV_sV, sR_sR, kV_r, kV_x, kI_r, kI_x, kR_r, kF_r, kD_r, forall_eq, not_true_eq_false, not_false_eq_true, false_implies, true_implies, true_and, and_true, b2i_0, b2i_1, b2i_01, b2i_t, b2i_f, decide_true, decide_false, Bool.not_true, Bool.not_false, i1_0, in_239 ht, cl_239 ht]
  refine ⟨fun h => ?_, fun h => ?_⟩ <;> simp [h, hasF, bit, b2i]
theorem m_sets {t : Nat} (ht : t < 16) (f p : Int32) (d : ax_D) (Q : ax_P) : CT 165 [ax_vR 9 0 0, Sum.inl (nI t), Sum.inl f, Sum.inl p] d Q ↔ Q (sR d 2 (sets (mr d 2) t f (!decide (p = 0)))) (Sum.inl none) := by
  refine ct_iff (w165 _ _ _ ?_) Q
  simp only [f_mv, f_sV, f_sV', f_sR, f_mr, mr_sR, mv_sV, sV_sV, sR_sR, kV_r, kV_x, kI_r, kI_x, kR_r, kF_r, kD_r, forall_eq, not_true_eq_false, not_false_eq_true, false_implies, true_implies, true_and, and_true, b2i_0, b2i_1, b2i_01, b2i_t, b2i_f, decide_true, decide_false, Bool.not_true, Bool.not_false, i1_0, in_239 ht, cl_239 ht]
  refine ⟨fun h => ?_, fun h => ?_⟩ <;> simp [h, sets, wF]
theorem m_lock {t : Nat} (ht : t < 16) (d : ax_D) (Q : ax_P) : CT 167 [ax_vR 9 0 0, Sum.inl (nI t)] d Q ↔ Q d (Sum.inl (some (Sum.inl (b2i (isLock (mr d 2) t))))) := by
  refine ct_iff (w167 _ ?_) Q
  simp only [f_mv, f_sV, f_sV', f_sR, f_mr, mr_sR, mv_sV, sV_sV, sR_sR, kV_r, kV_x, kI_r, kI_x, kR_r, kF_r, kD_r, forall_eq, not_true_eq_false, not_false_eq_true, false_implies, true_implies, true_and, and_true, b2i_0, b2i_1, b2i_01, b2i_t, b2i_f, decide_true, decide_false, Bool.not_true, Bool.not_false, i1_0, in_111 ht, cl_111 ht]
  by_cases h1 : mr d 2 (111 + t) = 1 <;> by_cases h2 : mr d 2 (111 + t) = 4 <;> simp [h1, h2, isLock, b2i]
theorem m_hold {t : Nat} (ht : t < 16) (d : ax_D) (Q : ax_P) : CT 245 [ax_vR 9 0 0, Sum.inl (nI t)] d Q ↔ Q d (Sum.inl (some (Sum.inl (b2i (isHold (mr d 2) t))))) := by
  refine ct_iff (w245 _ ?_) Q
  simp only [f_mv, f_sV, f_sV', f_sR, f_mr, mr_sR, mv_sV, sV_sV, sR_sR, kV_r, kV_x, kI_r, kI_x, kR_r, kF_r, kD_r, forall_eq, not_true_eq_false, not_false_eq_true, false_implies, true_implies, true_and, and_true, b2i_0, b2i_1, b2i_01, b2i_t, b2i_f, decide_true, decide_false, Bool.not_true, Bool.not_false, i1_0, in_111 ht, cl_111 ht]
  by_cases h1 : mr d 2 (111 + t) = 1 <;> by_cases h2 : mr d 2 (111 + t) = 2 <;> simp [h1, h2, isHold, b2i]
theorem m_moves {t : Nat} (ht : t < 16) (p g : Int32) (d : ax_D) (Q : ax_P) : CT 169 [ax_vR 9 0 0, Sum.inl (nI t), Sum.inl p, Sum.inl g] d Q ↔ Q (sR d 2 (moves (mr d 2) t p g)) (Sum.inl none) := by
  refine ct_iff (w169 _ _ _ ?_) Q
  simp only [f_mv, f_sV, f_sV', f_sR, f_mr, mr_sR, mv_sV, sV_sV, sR_sR, kV_r, kV_x, kI_r, kI_x, kR_r, kF_r, kD_r, forall_eq, not_true_eq_false, not_false_eq_true, false_implies, true_implies, true_and, and_true, b2i_0, b2i_1, b2i_01, b2i_t, b2i_f, decide_true, decide_false, Bool.not_true, Bool.not_false, i1_0, in_255 ht, cl_255 ht, in_271 ht, cl_271 ht]
  refine ⟨fun h => ?_, fun h => ?_⟩ <;> simp [h, moves, mvT]
theorem m_isAt {t : Nat} (ht : t < 16) (p g : Int32) (d : ax_D) (Q : ax_P) : CT 173 [ax_vR 9 0 0, Sum.inl (nI t), Sum.inl p, Sum.inl g] d Q ↔ Q d (Sum.inl (some (Sum.inl (b2i (isAtS (mr d 2) t p g))))) := by
  refine ct_iff (w173 _ _ _ ?_) Q
  simp only [f_mv, f_sV, f_sV', f_sR, f_mr, mr_sR, mv_sV, sV_sV, sR_sR, kV_r, kV_x, kI_r, kI_x, kR_r, kF_r, kD_r, forall_eq, not_true_eq_false, not_false_eq_true, false_implies, true_implies, true_and, and_true, b2i_0, b2i_1, b2i_01, b2i_t, b2i_f, decide_true, decide_false, Bool.not_true, Bool.not_false, i1_0, in_255 ht, cl_255 ht, in_271 ht, cl_271 ht]
  by_cases h1 : mr d 2 (255 + t) = p <;> by_cases h2 : 2 < p <;> by_cases h3 : mr d 2 (271 + t) = g <;> simp [h1, h2, h3, isAtS, b2i]
theorem m_played (d : ax_D) (Q : ax_P) : CT 184 [ax_vR 9 0 0] d Q ↔ Q d (Sum.inl (some (Sum.inl (b2i (plays (mr d 2)))))) := by
  refine ct_iff (w184 ?_) Q
  simp only [f_mv, f_sV, f_sV', f_sR, f_mr, mr_sR, mv_sV, sV_sV, sR_sR, kV_r, kV_x, kI_r, kI_x, kR_r, kF_r, kD_r, forall_eq, not_true_eq_false, not_false_eq_true, false_implies, true_implies, true_and, and_true, b2i_0, b2i_1, b2i_01, b2i_t, b2i_f, decide_true, decide_false, Bool.not_true, Bool.not_false, i1_0]
  by_cases h1 : mr d 2 3 = 1 <;> simp [h1, plays, b2i]
theorem m_fails (c : Int32) (d : ax_D) (Q : ax_P) : CT 201 [ax_vR 9 0 0, Sum.inl c] d Q ↔ Q (sV d 0 c) (Sum.inl (some (Sum.inl 0))) := ct_iff (w201 _ (fun d1 e => ⟨e, rfl⟩)) Q
theorem m_isTh (x : Int32) (d : ax_D) (Q : ax_P) : CT 203 [ax_vR 9 0 0, Sum.inl x] d Q ↔ Q d (Sum.inl (some (Sum.inl (b2i (isTh (mr d 2) x))))) := by
  refine ct_iff (w203 _ ?_) Q
  simp only [f_mv, f_sV, f_sV', f_sR, f_mr, mr_sR, mv_sV, sV_sV, sR_sR, kV_r, kV_x, kI_r, kI_x, kR_r, kF_r, kD_r, forall_eq, not_true_eq_false, not_false_eq_true, false_implies, true_implies, true_and, and_true, b2i_0, b2i_1, b2i_01, b2i_t, b2i_f, decide_true, decide_false, Bool.not_true, Bool.not_false, i1_0, m_in]
  simp [isTh]
theorem m_isRm (x : Int32) (d : ax_D) (Q : ax_P) : CT 209 [ax_vR 9 0 0, Sum.inl x] d Q ↔ Q d (Sum.inl (some (Sum.inl (b2i (isRm (mr d 2) x))))) := by
  refine ct_iff (w209 _ ?_) Q
  simp only [f_mv, f_sV, f_sV', f_sR, f_mr, mr_sR, mv_sV, sV_sV, sR_sR, kV_r, kV_x, kI_r, kI_x, kR_r, kF_r, kD_r, forall_eq, not_true_eq_false, not_false_eq_true, false_implies, true_implies, true_and, and_true, b2i_0, b2i_1, b2i_01, b2i_t, b2i_f, decide_true, decide_false, Bool.not_true, Bool.not_false, i1_0, m_in]
  simp [isRm]
theorem m_refuses (c t : Int32) (d : ax_D) (Q : ax_P) : CT 164 [ax_vR 9 0 0, Sum.inl c, Sum.inl t] d Q ↔ Q (sV (sV d 26 c) 27 t) (Sum.inl none) := ct_iff (w164 _ _ (fun d1 e1 d2 e2 => ⟨by rw [e2, e1]; rfl, rfl⟩)) Q
def isPl (s : Row) (p g : Int32) : Bool := inB p 0 4 && (decide (2 < p) || cond (decide (p = 0)) (isRm s g) (isTh s g))
theorem m_isPl (p g : Int32) (d : ax_D) (Q : ax_P) : CT 235 [ax_vR 9 0 0, Sum.inl p, Sum.inl g] d Q ↔ Q d (Sum.inl (some (Sum.inl (b2i (isPl (mr d 2) p g))))) := by
  refine ct_iff (w235 _ _ ?_) Q
  simp only [f_mv, f_sV, f_sV', f_sR, f_mr, mr_sR, mv_sV, sV_sV, sR_sR, kV_r, kV_x, kI_r, kI_x, kR_r, kF_r, kD_r, forall_eq, not_true_eq_false, not_false_eq_true, false_implies, true_implies, true_and, and_true, b2i_0, b2i_1, b2i_01, b2i_t, b2i_f, decide_true, decide_false, Bool.not_true, Bool.not_false, i1_0, m_in, m_isRm, m_isTh]
  rcases Classical.propComplete (2 < p) with h2 | h2 <;> rcases Classical.propComplete (p = 0) with h3 | h3 <;> cases h1 : inB p 0 4 <;> cases h4 : isRm (mr d 2) g <;> cases h5 : isTh (mr d 2) g <;> simp [h1, h2, h3, h4, h5, isPl, b2i]
def isDk (k o : Int32) : Bool := cond (decide (k = 0)) (decide (o = 1) || decide (o = 4)) (cond (decide (k = 1)) (!decide (o = 4)) (cond (decide (k = 2)) (decide (o = 1)) (decide (o = 3))))
theorem m_isDk (k o : Int32) (d : ax_D) (Q : ax_P) : CT 202 [Sum.inl k, Sum.inl o] d Q ↔ Q d (Sum.inl (some (Sum.inl (b2i (isDk k o))))) := by
  refine ct_iff (w202 _ _ ?_) Q
  simp only [kV_r, kV_x, kI_r, kI_x, kR_r, kF_r, kD_r, forall_eq, not_true_eq_false, not_false_eq_true, false_implies, true_implies, true_and, and_true, b2i_0, b2i_1, b2i_01, b2i_t, b2i_f, decide_true, decide_false, Bool.not_true, Bool.not_false, i1_0]
  by_cases h0 : k = 0 <;> by_cases h1 : k = 1 <;> by_cases h2 : k = 2 <;> by_cases g1 : o = 1 <;> by_cases g2 : o = 4 <;> by_cases g3 : o = 3 <;> simp_all [isDk, b2i]
