/-! more questions: thing, worth, daemon, count, letter, content -/
theorem in12 {w : Int32} (h : inB w 0 11 = true) : w = 0 ∨ w = 1 ∨ w = 2 ∨ w = 3 ∨ w = 4 ∨ w = 5 ∨ w = 6 ∨ w = 7 ∨ w = 8 ∨ w = 9 ∨ w = 10 ∨ w = 11 := by
  obtain ⟨n, -, hn, e⟩ := inB_ex (a := 0) (b := 11) h (by omega) (by omega)
  rcases (by omega : n = 0 ∨ n = 1 ∨ n = 2 ∨ n = 3 ∨ n = 4 ∨ n = 5 ∨ n = 6 ∨ n = 7 ∨ n = 8 ∨ n = 9 ∨ n = 10 ∨ n = 11) with z | z | z | z | z | z | z | z | z | z | z | z <;> subst z <;> subst e <;> decide
theorem in10 {w : Int32} (h : inB w 0 9 = true) : w = 0 ∨ w = 1 ∨ w = 2 ∨ w = 3 ∨ w = 4 ∨ w = 5 ∨ w = 6 ∨ w = 7 ∨ w = 8 ∨ w = 9 := by
  obtain ⟨n, -, hn, e⟩ := inB_ex (a := 0) (b := 9) h (by omega) (by omega)
  rcases (by omega : n = 0 ∨ n = 1 ∨ n = 2 ∨ n = 3 ∨ n = 4 ∨ n = 5 ∨ n = 6 ∨ n = 7 ∨ n = 8 ∨ n = 9) with z | z | z | z | z | z | z | z | z | z <;> subst z <;> subst e <;> decide
theorem in6 {w : Int32} (h : inB w 0 5 = true) : w = 0 ∨ w = 1 ∨ w = 2 ∨ w = 3 ∨ w = 4 ∨ w = 5 := by
  obtain ⟨n, -, hn, e⟩ := inB_ex (a := 0) (b := 5) h (by omega) (by omega)
  rcases (by omega : n = 0 ∨ n = 1 ∨ n = 2 ∨ n = 3 ∨ n = 4 ∨ n = 5) with z | z | z | z | z | z <;> subst z <;> subst e <;> decide
section JT
variable {d : ax_D} {n : Nat}
theorem in11n {w : Int32} (h : inB w 0 11 = false) : inB w 0 10 = false ∧ ¬ w = 11 := by
  constructor
  · cases h10 : inB w 0 10 with
    | false => rfl
    | true =>
      obtain ⟨n, -, hn, e⟩ := inB_ex (a := 0) (b := 10) h10 (by omega) (by omega)
      rw [e, inB_lt, show (11 : Int32) = nI 11 from rfl, decide_eq_false (nI_pos (by omega)), decide_eq_false (show ¬ nI 11 < nI n by rw [Int32.not_lt]; exact nI_le (by omega) (by omega))] at h
      cases h
  · intro z
    rw [z] at h
    exact absurd h (by decide)
theorem j_thing (I : INV d n) (x w : Int32) : JN [2, 1] 159 268 [x, w] d n := by
  have hC := I.1
  have hk := hC.2.2
  cases hT : isTh (mr d 2) x with
  | false => exact jq_x I 0 rfl (fun Q hQ => w159 _ _ (by simp only [c_chkT hC, hT, kV_r, kV_x, kI_r, kI_x, kR_r, kF_r, kD_r, forall_eq, not_true_eq_false, not_false_eq_true, false_implies, true_implies, true_and, and_true, b2i_0, b2i_1, b2i_01, b2i_t, b2i_f, decide_true, decide_false, Bool.not_true, Bool.not_false, i1_0, eq_self, reduceCtorEq, eLits, cond_false]; exact hQ)) (fun d' Q e _ hQ => w268 _ _ (by simp only [f_mv, f_sV, f_sV', f_s2, f_s3, f_s29, f_s30, f_mr, mr_sR, mv_sV, sV_sV, sR_sR, m2, kV_r, kV_x, kI_r, kI_x, kR_r, kF_r, kD_r, forall_eq, not_true_eq_false, not_false_eq_true, false_implies, true_implies, true_and, and_true, b2i_0, b2i_1, b2i_01, b2i_t, b2i_f, decide_true, decide_false, Bool.not_true, Bool.not_false, i1_0, eq_self, reduceCtorEq, eLits, m2, m_isTh, e, hT, m_fails]; exact hQ _))
  | true =>
    cases hb : inB w 0 11 with
    | false => exact jq_x I 1 rfl (fun Q hQ => w159 _ _ (by simp only [c_chkT hC, hT, c_range, hb, kV_r, kV_x, kI_r, kI_x, kR_r, kF_r, kD_r, forall_eq, not_true_eq_false, not_false_eq_true, false_implies, true_implies, true_and, and_true, b2i_0, b2i_1, b2i_01, b2i_t, b2i_f, decide_true, decide_false, Bool.not_true, Bool.not_false, i1_0, eq_self, reduceCtorEq, eLits, cond_true, cond_false]; exact hQ)) (fun d' Q e _ hQ => w268 _ _ (by simp only [f_mv, f_sV, f_sV', f_s2, f_s3, f_s29, f_s30, f_mr, mr_sR, mv_sV, sV_sV, sR_sR, m2, kV_r, kV_x, kI_r, kI_x, kR_r, kF_r, kD_r, forall_eq, not_true_eq_false, not_false_eq_true, false_implies, true_implies, true_and, and_true, b2i_0, b2i_1, b2i_01, b2i_t, b2i_f, decide_true, decide_false, Bool.not_true, Bool.not_false, i1_0, eq_self, reduceCtorEq, eLits, m2, m_isTh, m_in, e, hT, in11n hb, m_fails]; exact hQ _))
    | true =>
      obtain ⟨t, ht, rfl⟩ := isTh_ex hk hT
      have hl := Ok_lt hk ht
      have ci : ax_in (nI t) 16 = true := ax_in_nI hl (by omega)
      have cl : (nI t).toNatClampNeg = t := nI_clamp (by omega)
      have hcp : Cp d 0 (mr d 2) := hC.1
      obtain ⟨p1, p2, p3, p4, p5, p6, p7⟩ := hcp.2.2.2.2.1 t hl
      obtain ⟨w1, w2, w3, w4⟩ := hC.2.1.1 t hl
      have hTp : isTh (mr d 2) (nI t) = true := hT
      have P : ∀ (k : Nat) (wl : Int32), wl = nI k → k < 11 → inB wl 0 11 = true → inB wl 0 10 = true → ¬ wl = 11 → (∀ Q : ax_P, Q d (Sum.inl (some (Sum.inl (mr d 2 (111 + (16 * k + t)))))) → CT 159 [ax_vR 8 0 0, Sum.inl (nI t), Sum.inl wl] d Q) → JN [2, 1] 159 268 [nI t, wl] d n := by
        intro k wl hwl hk11 hb11 hb10 h11 hc
        have ea : (111 : Int32) + 16 * wl + nI t = nI (111 + (16 * k + t)) := by
          rw [hwl, show (16 : Int32) * nI k = nI (16 * k) from pk_mul 16 k, show (111 : Int32) + nI (16 * k) = nI (111 + 16 * k) from nI_add 111 _, nI_add, Nat.add_assoc]
        exact jq_v I (mr d 2 (111 + (16 * k + t))) hc (fun d' Q e _ hQ => w268 _ _ (by
          simp only [f_mv, f_sV, f_sV', f_s2, f_s3, f_s29, f_s30, f_mr, mr_sR, mv_sV, sV_sV, sR_sR, m2, kV_r, kV_x, kI_r, kI_x, kR_r, kF_r, kD_r, forall_eq, not_true_eq_false, not_false_eq_true, false_implies, true_implies, true_and, and_true, b2i_0, b2i_1, b2i_01, b2i_t, b2i_f, decide_true, decide_false, Bool.not_true, Bool.not_false, i1_0, eq_self, reduceCtorEq, eLits, m2, m_isTh, m_in, e, hTp, hb10, h11, ea, ax_in_nI (show 111 + (16 * k + t) < 369 by omega) (show 369 ≤ 2 ^ 31 by omega), nI_clamp (show 111 + (16 * k + t) < 2 ^ 31 by omega)]
          exact hQ))
      have A : ∀ (wl : Int32) (v : Int32) (Q : ax_P), inB wl 0 11 = true → wl < 6 → CT 157 [ax_vR 3 0 0, Sum.inl (nI t), Sum.inl wl] d (fun d' r => d' = d ∧ r = Sum.inl (some (Sum.inl v))) → Q d (Sum.inl (some (Sum.inl v))) → CT 159 [ax_vR 8 0 0, Sum.inl (nI t), Sum.inl wl] d Q := by
        intro wl v Q h1 h2 h3 hQ
        refine w159 _ _ ?_
        simp only [c_chkT hC, hTp, c_range, h1, kV_r, kV_x, kI_r, kI_x, kR_r, kF_r, kD_r, forall_eq, not_true_eq_false, not_false_eq_true, false_implies, true_implies, true_and, and_true, b2i_0, b2i_1, b2i_01, b2i_t, b2i_f, decide_true, decide_false, Bool.not_true, Bool.not_false, i1_0, eq_self, reduceCtorEq, eLits, cond_true]
        exact ⟨fun _ => (ct_iff h3 _).mpr hQ, fun z => absurd h2 z⟩
      have A7 : ∀ (wl : Int32) (v : Int32) (Q : ax_P), inB wl 0 11 = true → ¬ wl < 6 → ¬ wl = 7 → CT 158 [ax_vR 7 0 0, Sum.inl (nI t), Sum.inl wl] d (fun d' r => d' = d ∧ r = Sum.inl (some (Sum.inl v))) → Q d (Sum.inl (some (Sum.inl v))) → CT 159 [ax_vR 8 0 0, Sum.inl (nI t), Sum.inl wl] d Q := by
        intro wl v Q h1 h2 h7 h3 hQ
        refine w159 _ _ ?_
        simp only [c_chkT hC, hTp, c_range, h1, kV_r, kV_x, kI_r, kI_x, kR_r, kF_r, kD_r, forall_eq, not_true_eq_false, not_false_eq_true, false_implies, true_implies, true_and, and_true, b2i_0, b2i_1, b2i_01, b2i_t, b2i_f, decide_true, decide_false, Bool.not_true, Bool.not_false, i1_0, eq_self, reduceCtorEq, eLits, cond_true]
        exact ⟨fun z => absurd z h2, fun _ => ⟨fun z => absurd z h7, fun _ => (ct_iff h3 _).mpr hQ⟩⟩
      rcases in12 hb with e | e | e | e | e | e | e | e | e | e | e | e <;> subst e
      · refine P 0 _ rfl (by omega) hb (by decide) (by decide) (fun Q hQ => A _ _ Q hb (by decide) (w157 _ _ _ ?_) hQ)
        simp only [c_isTh' (p := 0) hC.1.1.2.1 hk, hTp, kV_r, kV_x, kI_r, kI_x, kR_r, kF_r, kD_r, forall_eq, not_true_eq_false, not_false_eq_true, false_implies, true_implies, true_and, and_true, b2i_0, b2i_1, b2i_01, b2i_t, b2i_f, decide_true, decide_false, Bool.not_true, Bool.not_false, i1_0, eq_self, reduceCtorEq, eLits, ci, cl, p1]
        first | rfl | exact congrArg (fun k => (Sum.inl (some (Sum.inl (mr d 2 k))) : Option ax_V ⊕ Nat)) (by omega)
      · refine P 1 _ rfl (by omega) hb (by decide) (by decide) (fun Q hQ => A _ _ Q hb (by decide) (w157 _ _ _ ?_) hQ)
        simp only [c_isTh' (p := 0) hC.1.1.2.1 hk, hTp, kV_r, kV_x, kI_r, kI_x, kR_r, kF_r, kD_r, forall_eq, not_true_eq_false, not_false_eq_true, false_implies, true_implies, true_and, and_true, b2i_0, b2i_1, b2i_01, b2i_t, b2i_f, decide_true, decide_false, Bool.not_true, Bool.not_false, i1_0, eq_self, reduceCtorEq, eLits, ci, cl, p2]
        first | rfl | exact congrArg (fun k => (Sum.inl (some (Sum.inl (mr d 2 k))) : Option ax_V ⊕ Nat)) (by omega)
      · refine P 2 _ rfl (by omega) hb (by decide) (by decide) (fun Q hQ => A _ _ Q hb (by decide) (w157 _ _ _ ?_) hQ)
        simp only [c_isTh' (p := 0) hC.1.1.2.1 hk, hTp, kV_r, kV_x, kI_r, kI_x, kR_r, kF_r, kD_r, forall_eq, not_true_eq_false, not_false_eq_true, false_implies, true_implies, true_and, and_true, b2i_0, b2i_1, b2i_01, b2i_t, b2i_f, decide_true, decide_false, Bool.not_true, Bool.not_false, i1_0, eq_self, reduceCtorEq, eLits, ci, cl, p3]
        first | rfl | exact congrArg (fun k => (Sum.inl (some (Sum.inl (mr d 2 k))) : Option ax_V ⊕ Nat)) (by omega)
      · refine P 3 _ rfl (by omega) hb (by decide) (by decide) (fun Q hQ => A _ _ Q hb (by decide) (w157 _ _ _ ?_) hQ)
        simp only [c_isTh' (p := 0) hC.1.1.2.1 hk, hTp, kV_r, kV_x, kI_r, kI_x, kR_r, kF_r, kD_r, forall_eq, not_true_eq_false, not_false_eq_true, false_implies, true_implies, true_and, and_true, b2i_0, b2i_1, b2i_01, b2i_t, b2i_f, decide_true, decide_false, Bool.not_true, Bool.not_false, i1_0, eq_self, reduceCtorEq, eLits, ci, cl, p4]
        first | rfl | exact congrArg (fun k => (Sum.inl (some (Sum.inl (mr d 2 k))) : Option ax_V ⊕ Nat)) (by omega)
      · refine P 4 _ rfl (by omega) hb (by decide) (by decide) (fun Q hQ => A _ _ Q hb (by decide) (w157 _ _ _ ?_) hQ)
        simp only [c_isTh' (p := 0) hC.1.1.2.1 hk, hTp, kV_r, kV_x, kI_r, kI_x, kR_r, kF_r, kD_r, forall_eq, not_true_eq_false, not_false_eq_true, false_implies, true_implies, true_and, and_true, b2i_0, b2i_1, b2i_01, b2i_t, b2i_f, decide_true, decide_false, Bool.not_true, Bool.not_false, i1_0, eq_self, reduceCtorEq, eLits, ci, cl, p5]
        first | rfl | exact congrArg (fun k => (Sum.inl (some (Sum.inl (mr d 2 k))) : Option ax_V ⊕ Nat)) (by omega)
      · refine P 5 _ rfl (by omega) hb (by decide) (by decide) (fun Q hQ => A _ _ Q hb (by decide) (w157 _ _ _ ?_) hQ)
        simp only [c_isTh' (p := 0) hC.1.1.2.1 hk, hTp, kV_r, kV_x, kI_r, kI_x, kR_r, kF_r, kD_r, forall_eq, not_true_eq_false, not_false_eq_true, false_implies, true_implies, true_and, and_true, b2i_0, b2i_1, b2i_01, b2i_t, b2i_f, decide_true, decide_false, Bool.not_true, Bool.not_false, i1_0, eq_self, reduceCtorEq, eLits, ci, cl, p6]
        first | rfl | exact congrArg (fun k => (Sum.inl (some (Sum.inl (mr d 2 k))) : Option ax_V ⊕ Nat)) (by omega)
      · refine P 6 _ rfl (by omega) hb (by decide) (by decide) (fun Q hQ => A7 _ _ Q hb (by decide) (by decide) (w158 _ _ _ ?_) hQ)
        simp only [show ax_pW 0 = 0 from rfl, c_isTh' (p := 0) hC.1.1.2.1 hk, hTp, kV_r, kV_x, kI_r, kI_x, kR_r, kF_r, kD_r, forall_eq, not_true_eq_false, not_false_eq_true, false_implies, true_implies, true_and, and_true, b2i_0, b2i_1, b2i_01, b2i_t, b2i_f, decide_true, decide_false, Bool.not_true, Bool.not_false, i1_0, eq_self, reduceCtorEq, eLits, ci, cl, w4]
        first | rfl | exact congrArg (fun k => (Sum.inl (some (Sum.inl (mr d 2 k))) : Option ax_V ⊕ Nat)) (by omega)
      · refine P 7 _ rfl (by omega) hb (by decide) (by decide) (fun Q hQ => ?_)
        refine w159 _ _ ?_
        simp only [c_chkT hC, hTp, c_range, hb, kV_r, kV_x, kI_r, kI_x, kR_r, kF_r, kD_r, forall_eq, not_true_eq_false, not_false_eq_true, false_implies, true_implies, true_and, and_true, b2i_0, b2i_1, b2i_01, b2i_t, b2i_f, decide_true, decide_false, Bool.not_true, Bool.not_false, i1_0, eq_self, reduceCtorEq, eLits, cond_true]
        refine w157 _ _ _ ?_
        simp only [c_isTh' (p := 0) hC.1.1.2.1 hk, hTp, kV_r, kV_x, kI_r, kI_x, kR_r, kF_r, kD_r, forall_eq, not_true_eq_false, not_false_eq_true, false_implies, true_implies, true_and, and_true, b2i_0, b2i_1, b2i_01, b2i_t, b2i_f, decide_true, decide_false, Bool.not_true, Bool.not_false, i1_0, eq_self, reduceCtorEq, eLits, ci, cl, p7]
        refine ?_
        rw [show 223 + t = 111 + (16 * 7 + t) by omega]
        exact hQ
      · refine P 8 _ rfl (by omega) hb (by decide) (by decide) (fun Q hQ => A7 _ _ Q hb (by decide) (by decide) (w158 _ _ _ ?_) hQ)
        simp only [show ax_pW 0 = 0 from rfl, c_isTh' (p := 0) hC.1.1.2.1 hk, hTp, kV_r, kV_x, kI_r, kI_x, kR_r, kF_r, kD_r, forall_eq, not_true_eq_false, not_false_eq_true, false_implies, true_implies, true_and, and_true, b2i_0, b2i_1, b2i_01, b2i_t, b2i_f, decide_true, decide_false, Bool.not_true, Bool.not_false, i1_0, eq_self, reduceCtorEq, eLits, ci, cl, w3]
        first | rfl | exact congrArg (fun k => (Sum.inl (some (Sum.inl (mr d 2 k))) : Option ax_V ⊕ Nat)) (by omega)
      · refine P 9 _ rfl (by omega) hb (by decide) (by decide) (fun Q hQ => A7 _ _ Q hb (by decide) (by decide) (w158 _ _ _ ?_) hQ)
        simp only [show ax_pW 0 = 0 from rfl, c_isTh' (p := 0) hC.1.1.2.1 hk, hTp, kV_r, kV_x, kI_r, kI_x, kR_r, kF_r, kD_r, forall_eq, not_true_eq_false, not_false_eq_true, false_implies, true_implies, true_and, and_true, b2i_0, b2i_1, b2i_01, b2i_t, b2i_f, decide_true, decide_false, Bool.not_true, Bool.not_false, i1_0, eq_self, reduceCtorEq, eLits, ci, cl, w1]
        first | rfl | exact congrArg (fun k => (Sum.inl (some (Sum.inl (mr d 2 k))) : Option ax_V ⊕ Nat)) (by omega)
      · refine P 10 _ rfl (by omega) hb (by decide) (by decide) (fun Q hQ => A7 _ _ Q hb (by decide) (by decide) (w158 _ _ _ ?_) hQ)
        simp only [show ax_pW 0 = 0 from rfl, c_isTh' (p := 0) hC.1.1.2.1 hk, hTp, kV_r, kV_x, kI_r, kI_x, kR_r, kF_r, kD_r, forall_eq, not_true_eq_false, not_false_eq_true, false_implies, true_implies, true_and, and_true, b2i_0, b2i_1, b2i_01, b2i_t, b2i_f, decide_true, decide_false, Bool.not_true, Bool.not_false, i1_0, eq_self, reduceCtorEq, eLits, ci, cl, w2]
        first | rfl | exact congrArg (fun k => (Sum.inl (some (Sum.inl (mr d 2 k))) : Option ax_V ⊕ Nat)) (by omega)
      · refine jq_v I (nI (filled (mr d 2) (nI t) (-1))) (fun Q hQ => A7 _ _ Q hb (by decide) (by decide) (w158 _ _ _ ?_) hQ) (fun d' Q e _ hQ => w268 _ _ ?_)
        · simp only [show ax_pW 0 = 0 from rfl, c_isTh' (p := 0) hC.1.1.2.1 hk, hTp, kV_r, kV_x, kI_r, kI_x, kR_r, kF_r, kD_r, forall_eq, not_true_eq_false, not_false_eq_true, false_implies, true_implies, true_and, and_true, b2i_0, b2i_1, b2i_01, b2i_t, b2i_f, decide_true, decide_false, Bool.not_true, Bool.not_false, i1_0, eq_self, reduceCtorEq, eLits]
          refine (c_size hC hl _).mpr ⟨rfl, rfl⟩
        · simp only [f_mv, f_sV, f_sV', f_s2, f_s3, f_s29, f_s30, f_mr, mr_sR, mv_sV, sV_sV, sR_sR, m2, kV_r, kV_x, kI_r, kI_x, kR_r, kF_r, kD_r, forall_eq, not_true_eq_false, not_false_eq_true, false_implies, true_implies, true_and, and_true, b2i_0, b2i_1, b2i_01, b2i_t, b2i_f, decide_true, decide_false, Bool.not_true, Bool.not_false, i1_0, eq_self, reduceCtorEq, eLits, m2, m_isTh, e, hTp, m_filled ((m2 d' 0 0).trans e) hk]
          exact hQ
/-- what is worth something at a place -/
def worthS (s : Row) (x : Int32) : Nat → Int32
  | 0 => 0
  | k + 1 => cond (decide (outer s k = x)) (worthS s x k + s (191 + k)) (worthS s x k)
theorem j_worth (I : INV d n) (x : Int32) : JN [2] 162 271 [x] d n := by
  have hC := I.1
  have hk := hC.2.2
  have hT16 := (Ok_T hk).2
  have hTc : ax_row d 3 0 0 1 = nI (nT (mr d 2)) := hC.1.1.2.1.trans (Ok_T hk).1
  have cls : ∀ Q : ax_P, Q d (Sum.inl (some (Sum.inl (worthS (mr d 2) x (nT (mr d 2)))))) → h162_14 x 0 0 d Q := fun Q hQ => by
    have key := lp_up (fun i => h162_14 x (worthS (mr d 2) x i) (nI i) d Q) (nT (mr d 2)) ?_ ?_ 0 (Nat.zero_le _)
    · exact key
    · refine w162_14 _ _ _ ?_
      simp only [hTc, le_yes (Nat.le_refl _) (show nT (mr d 2) < 2 ^ 31 by omega), kV_r, kV_x, kI_r, kI_x, kR_r, kF_r, kD_r, forall_eq, not_true_eq_false, not_false_eq_true, false_implies, true_implies, true_and, and_true, b2i_0, b2i_1, b2i_01, b2i_t, b2i_f, decide_true, decide_false, Bool.not_true, Bool.not_false, i1_0, eq_self, reduceCtorEq, eLits]
      exact hQ
    · intro i hi ih
      have hl := Ok_lt hk hi
      refine w162_14 _ _ _ ?_
      simp only [hTc, le_no hi (show nT (mr d 2) < 2 ^ 31 by omega), kV_r, kV_x, kI_r, kI_x, kR_r, kF_r, kD_r, forall_eq, not_true_eq_false, not_false_eq_true, false_implies, true_implies, true_and, and_true, b2i_0, b2i_1, b2i_01, b2i_t, b2i_f, decide_true, decide_false, Bool.not_true, Bool.not_false, i1_0, eq_self, reduceCtorEq, eLits, c_outer hC hi, ax_in_nI hl (by omega), nI_clamp (show i < 2 ^ 31 by omega), ((show Cp d 0 (mr d 2) from hC.1).2.2.2.2.1 i hl).2.2.2.2.2.1, nI_1]
      unfold worthS at ih
      by_cases g : outer (mr d 2) i = x
      · rw [decide_eq_true g] at ih
        exact ⟨fun _ => ih, fun z => absurd g z⟩
      · rw [decide_eq_false g, cond_false] at ih
        exact ⟨fun z => absurd z g, fun _ => ih⟩
  have chk : ∀ (d' : ax_D) (Q : ax_P), mr d' 2 = mr d 2 → Q d' (Sum.inl (some (Sum.inl (worthS (mr d 2) x (nT (mr d 2)))))) → h271_28 x 0 0 d' Q := fun d' Q e hQ => by
    have key := lp_up (fun i => h271_28 x (worthS (mr d 2) x i) (nI i) d' Q) (nT (mr d 2)) ?_ ?_ 0 (Nat.zero_le _)
    · exact key
    · refine w271_28 _ _ _ ?_
      simp only [f_mv, f_sV, f_sV', f_s2, f_s3, f_s29, f_s30, f_mr, mr_sR, mv_sV, sV_sV, sR_sR, m2, e, (Ok_T hk).1, le_yes (Nat.le_refl _) (show nT (mr d 2) < 2 ^ 31 by omega), kV_r, kV_x, kI_r, kI_x, kR_r, kF_r, kD_r, forall_eq, not_true_eq_false, not_false_eq_true, false_implies, true_implies, true_and, and_true, b2i_0, b2i_1, b2i_01, b2i_t, b2i_f, decide_true, decide_false, Bool.not_true, Bool.not_false, i1_0, eq_self, reduceCtorEq, eLits]
      exact hQ
    · intro i hi ih
      have hl := Ok_lt hk hi
      refine w271_28 _ _ _ ?_
      simp only [f_mv, f_sV, f_sV', f_s2, f_s3, f_s29, f_s30, f_mr, mr_sR, mv_sV, sV_sV, sR_sR, m2, e, (Ok_T hk).1, le_no hi (show nT (mr d 2) < 2 ^ 31 by omega), kV_r, kV_x, kI_r, kI_x, kR_r, kF_r, kD_r, forall_eq, not_true_eq_false, not_false_eq_true, false_implies, true_implies, true_and, and_true, b2i_0, b2i_1, b2i_01, b2i_t, b2i_f, decide_true, decide_false, Bool.not_true, Bool.not_false, i1_0, eq_self, reduceCtorEq, eLits, m_outer e hk hi, in_111 hl, cl_111 hl, in_127 hl, cl_127 hl, in_143 hl, cl_143 hl, in_159 hl, cl_159 hl, in_175 hl, cl_175 hl, in_191 hl, cl_191 hl, in_207 hl, cl_207 hl, in_223 hl, cl_223 hl, in_239 hl, cl_239 hl, in_255 hl, cl_255 hl, in_271 hl, cl_271 hl, in_191 hl, cl_191 hl, nI_1]
      unfold worthS at ih
      by_cases g : outer (mr d 2) i = x
      · rw [decide_eq_true g] at ih
        exact ⟨fun _ => ih, fun z => absurd g z⟩
      · rw [decide_eq_false g, cond_false] at ih
        refine ⟨fun z => absurd z g, fun _ => ?_⟩
        rw [Int32.add_zero]
        exact ih
  by_cases h1 : x = -1
  · exact jq_v I _ (fun Q hQ => w162 _ ⟨fun _ => cls Q hQ, fun z => absurd h1 z⟩) (fun d' Q e _ hQ => w271 _ (fun d1 e1 => ⟨fun _ => by
      have q1 : d1 = sV d' 0 0 := e1
      rw [q1]
      exact chk _ Q ((m2 d' 0 0).trans e) hQ, fun z => absurd h1 z⟩))
  · cases hR : isRm (mr d 2) x with
    | false => exact jq_x I 0 rfl (fun Q hQ => w162 _ ⟨fun z => absurd z h1, fun _ => by simp only [c_chkR hC, hR, kV_r, kV_x, kI_r, kI_x, kR_r, kF_r, kD_r, forall_eq, not_true_eq_false, not_false_eq_true, false_implies, true_implies, true_and, and_true, b2i_0, b2i_1, b2i_01, b2i_t, b2i_f, decide_true, decide_false, Bool.not_true, Bool.not_false, i1_0, eq_self, reduceCtorEq, eLits, cond_false]; exact hQ⟩) (fun d' Q e _ hQ => w271 _ (by simp only [f_mv, f_sV, f_sV', f_s2, f_s3, f_s29, f_s30, f_mr, mr_sR, mv_sV, sV_sV, sR_sR, m2, kV_r, kV_x, kI_r, kI_x, kR_r, kF_r, kD_r, forall_eq, not_true_eq_false, not_false_eq_true, false_implies, true_implies, true_and, and_true, b2i_0, b2i_1, b2i_01, b2i_t, b2i_f, decide_true, decide_false, Bool.not_true, Bool.not_false, i1_0, eq_self, reduceCtorEq, eLits, h1, m2, m_isRm, e, hR, m_fails]; exact hQ _))
    | true => exact jq_v I _ (fun Q hQ => w162 _ ⟨fun z => absurd z h1, fun _ => by simp only [c_chkR hC, hR, kV_r, kV_x, kI_r, kI_x, kR_r, kF_r, kD_r, forall_eq, not_true_eq_false, not_false_eq_true, false_implies, true_implies, true_and, and_true, b2i_0, b2i_1, b2i_01, b2i_t, b2i_f, decide_true, decide_false, Bool.not_true, Bool.not_false, i1_0, eq_self, reduceCtorEq, eLits, cond_true]; exact cls Q hQ⟩) (fun d' Q e _ hQ => w271 _ (by simp only [f_mv, f_sV, f_sV', f_s2, f_s3, f_s29, f_s30, f_mr, mr_sR, mv_sV, sV_sV, sR_sR, m2, kV_r, kV_x, kI_r, kI_x, kR_r, kF_r, kD_r, forall_eq, not_true_eq_false, not_false_eq_true, false_implies, true_implies, true_and, and_true, b2i_0, b2i_1, b2i_01, b2i_t, b2i_f, decide_true, decide_false, Bool.not_true, Bool.not_false, i1_0, eq_self, reduceCtorEq, eLits, h1, m2, m_isRm, e, hR]; exact chk _ Q ((m2 d' 0 0).trans e) hQ))
end JT
