/-! daemon, count, letter -/
section JD
variable {d : ax_D} {n : Nat}
theorem in5n {w : Int32} (h : inB w 0 5 = false) : ¬ w = 0 ∧ ¬ w = 1 ∧ ¬ w = 2 ∧ ¬ w = 3 ∧ ¬ w = 4 ∧ ¬ w = 5 :=
  ⟨fun z => by rw [z] at h; exact absurd h (by decide), fun z => by rw [z] at h; exact absurd h (by decide), fun z => by rw [z] at h; exact absurd h (by decide), fun z => by rw [z] at h; exact absurd h (by decide), fun z => by rw [z] at h; exact absurd h (by decide), fun z => by rw [z] at h; exact absurd h (by decide)⟩
theorem j_daemon (I : INV d n) (x w : Int32) : JN [2, 1] 119 238 [x, w] d n := by
  have hC := I.1
  have hk := hC.2.2
  have hD := Pk_D hk.1
  have r2 : ax_row d 3 0 0 2 = mr d 2 2 := hC.1.1.2.2
  cases hT : inB x 0 (mr d 2 2 - 1) with
  | false => exact jq_x I 0 rfl (fun Q hQ => w119 _ _ (by simp only [r2, c_within, hT, kV_r, kV_x, kI_r, kI_x, kR_r, kF_r, kD_r, forall_eq, not_true_eq_false, not_false_eq_true, false_implies, true_implies, true_and, and_true, b2i_0, b2i_1, b2i_01, b2i_t, b2i_f, decide_true, decide_false, Bool.not_true, Bool.not_false, i1_0, eq_self, reduceCtorEq, eLits]; exact hQ)) (fun d' Q e _ hQ => w238 _ _ (by simp only [f_mv, f_sV, f_sV', f_s2, f_s3, f_s29, f_s30, f_mr, mr_sR, mv_sV, sV_sV, sR_sR, m2, kV_r, kV_x, kI_r, kI_x, kR_r, kF_r, kD_r, forall_eq, not_true_eq_false, not_false_eq_true, false_implies, true_implies, true_and, and_true, b2i_0, b2i_1, b2i_01, b2i_t, b2i_f, decide_true, decide_false, Bool.not_true, Bool.not_false, i1_0, eq_self, reduceCtorEq, eLits, m2, m_in, e, hT, m_fails]; exact hQ _))
  | true =>
    have hx : ∃ i, i < nD (mr d 2) ∧ x = nI i := by
      have h1 := hT
      rw [inB_m1 hD.1 (by omega), hD.1, Bool.and_eq_true] at h1
      rcases pk_ix x (n := nD (mr d 2)) (by omega) with a | a | a
      · simp [a] at h1
      · simp [a] at h1
      · exact a
    obtain ⟨i, hi, rfl⟩ := hx
    have hi6 : i < 6 := by omega
    have ci : ax_in (nI i) 6 = true := ax_in_nI hi6 (by omega)
    have cl : (nI i).toNatClampNeg = i := nI_clamp (by omega)
    cases hb : inB w 0 5 with
    | false =>
      obtain ⟨n0, n1, n2, n3, n4, n5⟩ := in5n hb
      exact jq_x I 1 rfl (fun Q hQ => w119 _ _ (by simp only [r2, c_within, hT, c_range, hb, kV_r, kV_x, kI_r, kI_x, kR_r, kF_r, kD_r, forall_eq, not_true_eq_false, not_false_eq_true, false_implies, true_implies, true_and, and_true, b2i_0, b2i_1, b2i_01, b2i_t, b2i_f, decide_true, decide_false, Bool.not_true, Bool.not_false, i1_0, eq_self, reduceCtorEq, eLits, cond_false]; exact hQ)) (fun d' Q e _ hQ => w238 _ _ (by simp only [f_mv, f_sV, f_sV', f_s2, f_s3, f_s29, f_s30, f_mr, mr_sR, mv_sV, sV_sV, sR_sR, m2, kV_r, kV_x, kI_r, kI_x, kR_r, kF_r, kD_r, forall_eq, not_true_eq_false, not_false_eq_true, false_implies, true_implies, true_and, and_true, b2i_0, b2i_1, b2i_01, b2i_t, b2i_f, decide_true, decide_false, Bool.not_true, Bool.not_false, i1_0, eq_self, reduceCtorEq, eLits, m2, m_in, e, hT, n0, n1, n2, n3, n4, n5, m_fails]; exact hQ _))
    | true =>
      have hcp : Cp d 0 (mr d 2) := hC.1
      obtain ⟨q1, q2, q3⟩ := hcp.2.2.2.2.2 i hi6
      have q0 := hcp.2.2.1 i hi6
      have A : ∀ (wl v : Int32) (Q : ax_P), inB wl 0 5 = true → ¬ wl = 3 → ¬ wl = 4 → CT 118 [ax_vR 3 0 0, Sum.inl (nI i), Sum.inl wl] d (fun d' r => d' = d ∧ r = Sum.inl (some (Sum.inl v))) → Q d (Sum.inl (some (Sum.inl v))) → CT 119 [ax_vR 8 0 0, Sum.inl (nI i), Sum.inl wl] d Q := by
        intro wl v Q h1 h3 h4 h5 hQ
        refine w119 _ _ ?_
        simp only [r2, c_within, hT, c_range, h1, kV_r, kV_x, kI_r, kI_x, kR_r, kF_r, kD_r, forall_eq, not_true_eq_false, not_false_eq_true, false_implies, true_implies, true_and, and_true, b2i_0, b2i_1, b2i_01, b2i_t, b2i_f, decide_true, decide_false, Bool.not_true, Bool.not_false, i1_0, eq_self, reduceCtorEq, eLits, cond_true]
        exact ⟨fun z => absurd z h3, fun _ => ⟨fun z => absurd z h4, fun _ => (ct_iff h5 _).mpr hQ⟩⟩
      rcases in6 hb with e | e | e | e | e | e <;> subst e
      · refine jq_v I (mr d 2 (287 + i)) (fun Q hQ => A _ _ Q hb (by decide) (by decide) (w118 _ _ _ ?_) hQ) (fun d' Q e _ hQ => w238 _ _ (by simp only [f_mv, f_sV, f_sV', f_s2, f_s3, f_s29, f_s30, f_mr, mr_sR, mv_sV, sV_sV, sR_sR, m2, kV_r, kV_x, kI_r, kI_x, kR_r, kF_r, kD_r, forall_eq, not_true_eq_false, not_false_eq_true, false_implies, true_implies, true_and, and_true, b2i_0, b2i_1, b2i_01, b2i_t, b2i_f, decide_true, decide_false, Bool.not_true, Bool.not_false, i1_0, eq_self, reduceCtorEq, eLits, m2, m_in, e, hT, in_287 hi6, cl_287 hi6]; exact hQ))
        simp only [r2, c_within, hT, kV_r, kV_x, kI_r, kI_x, kR_r, kF_r, kD_r, forall_eq, not_true_eq_false, not_false_eq_true, false_implies, true_implies, true_and, and_true, b2i_0, b2i_1, b2i_01, b2i_t, b2i_f, decide_true, decide_false, Bool.not_true, Bool.not_false, i1_0, eq_self, reduceCtorEq, eLits, ci, cl, q1]
      · refine jq_v I (mr d 2 (293 + i)) (fun Q hQ => A _ _ Q hb (by decide) (by decide) (w118 _ _ _ ?_) hQ) (fun d' Q e _ hQ => w238 _ _ (by
          simp only [f_mv, f_sV, f_sV', f_s2, f_s3, f_s29, f_s30, f_mr, mr_sR, mv_sV, sV_sV, sR_sR, m2, kV_r, kV_x, kI_r, kI_x, kR_r, kF_r, kD_r, forall_eq, not_true_eq_false, not_false_eq_true, false_implies, true_implies, true_and, and_true, b2i_0, b2i_1, b2i_01, b2i_t, b2i_f, decide_true, decide_false, Bool.not_true, Bool.not_false, i1_0, eq_self, reduceCtorEq, eLits, m2, m_in, e, hT, in_293 hi6, cl_293 hi6]; exact hQ))
        simp only [r2, c_within, hT, kV_r, kV_x, kI_r, kI_x, kR_r, kF_r, kD_r, forall_eq, not_true_eq_false, not_false_eq_true, false_implies, true_implies, true_and, and_true, b2i_0, b2i_1, b2i_01, b2i_t, b2i_f, decide_true, decide_false, Bool.not_true, Bool.not_false, i1_0, eq_self, reduceCtorEq, eLits, ci, cl, q2]
      · refine jq_v I (mr d 2 (299 + i)) (fun Q hQ => A _ _ Q hb (by decide) (by decide) (w118 _ _ _ ?_) hQ) (fun d' Q e _ hQ => w238 _ _ (by
          simp only [f_mv, f_sV, f_sV', f_s2, f_s3, f_s29, f_s30, f_mr, mr_sR, mv_sV, sV_sV, sR_sR, m2, kV_r, kV_x, kI_r, kI_x, kR_r, kF_r, kD_r, forall_eq, not_true_eq_false, not_false_eq_true, false_implies, true_implies, true_and, and_true, b2i_0, b2i_1, b2i_01, b2i_t, b2i_f, decide_true, decide_false, Bool.not_true, Bool.not_false, i1_0, eq_self, reduceCtorEq, eLits, m2, m_in, e, hT, in_299 hi6, cl_299 hi6]; exact hQ))
        simp only [r2, c_within, hT, kV_r, kV_x, kI_r, kI_x, kR_r, kF_r, kD_r, forall_eq, not_true_eq_false, not_false_eq_true, false_implies, true_implies, true_and, and_true, b2i_0, b2i_1, b2i_01, b2i_t, b2i_f, decide_true, decide_false, Bool.not_true, Bool.not_false, i1_0, eq_self, reduceCtorEq, eLits, ci, cl, q3]
      · cases hp : plays (mr d 2) with
        | false =>
          refine jq_v I (-1) (fun Q hQ => w119 _ _ (by simp only [r2, c_within, hT, c_range, hb, kV_r, kV_x, kI_r, kI_x, kR_r, kF_r, kD_r, forall_eq, not_true_eq_false, not_false_eq_true, false_implies, true_implies, true_and, and_true, b2i_0, b2i_1, b2i_01, b2i_t, b2i_f, decide_true, decide_false, Bool.not_true, Bool.not_false, i1_0, eq_self, reduceCtorEq, eLits, cond_true, c_played hC.2.1 hk, hp]; exact hQ)) (fun d' Q e _ hQ => w238 _ _ ?_)
          simp only [f_mv, f_sV, f_sV', f_s2, f_s3, f_s29, f_s30, f_mr, mr_sR, mv_sV, sV_sV, sR_sR, m2, kV_r, kV_x, kI_r, kI_x, kR_r, kF_r, kD_r, forall_eq, not_true_eq_false, not_false_eq_true, false_implies, true_implies, true_and, and_true, b2i_0, b2i_1, b2i_01, b2i_t, b2i_f, decide_true, decide_false, Bool.not_true, Bool.not_false, i1_0, eq_self, reduceCtorEq, eLits, m2, m_in, m_played, e, hT, hp]
          exact hQ
        | true =>
          have q := (hC.2.1.2.2.2 (of_decide_eq_true hp) i hi).1
          refine jq_v I (mr d 2 (311 + i)) (fun Q hQ => w119 _ _ (by simp only [r2, c_within, hT, c_range, hb, kV_r, kV_x, kI_r, kI_x, kR_r, kF_r, kD_r, forall_eq, not_true_eq_false, not_false_eq_true, false_implies, true_implies, true_and, and_true, b2i_0, b2i_1, b2i_01, b2i_t, b2i_f, decide_true, decide_false, Bool.not_true, Bool.not_false, i1_0, eq_self, reduceCtorEq, eLits, cond_true, c_played hC.2.1 hk, hp, ci, cl, q]; exact hQ)) (fun d' Q e _ hQ => w238 _ _ ?_)
          simp only [f_mv, f_sV, f_sV', f_s2, f_s3, f_s29, f_s30, f_mr, mr_sR, mv_sV, sV_sV, sR_sR, m2, kV_r, kV_x, kI_r, kI_x, kR_r, kF_r, kD_r, forall_eq, not_true_eq_false, not_false_eq_true, false_implies, true_implies, true_and, and_true, b2i_0, b2i_1, b2i_01, b2i_t, b2i_f, decide_true, decide_false, Bool.not_true, Bool.not_false, i1_0, eq_self, reduceCtorEq, eLits, m2, m_in, m_played, e, hT, hp, in_311 hi6, cl_311 hi6]
          exact hQ
      · cases hp : plays (mr d 2) with
        | false =>
          refine jq_v I 0 (fun Q hQ => w119 _ _ (by simp only [r2, c_within, hT, c_range, hb, kV_r, kV_x, kI_r, kI_x, kR_r, kF_r, kD_r, forall_eq, not_true_eq_false, not_false_eq_true, false_implies, true_implies, true_and, and_true, b2i_0, b2i_1, b2i_01, b2i_t, b2i_f, decide_true, decide_false, Bool.not_true, Bool.not_false, i1_0, eq_self, reduceCtorEq, eLits, cond_true, c_played hC.2.1 hk, hp]; exact hQ)) (fun d' Q e _ hQ => w238 _ _ ?_)
          simp only [f_mv, f_sV, f_sV', f_s2, f_s3, f_s29, f_s30, f_mr, mr_sR, mv_sV, sV_sV, sR_sR, m2, kV_r, kV_x, kI_r, kI_x, kR_r, kF_r, kD_r, forall_eq, not_true_eq_false, not_false_eq_true, false_implies, true_implies, true_and, and_true, b2i_0, b2i_1, b2i_01, b2i_t, b2i_f, decide_true, decide_false, Bool.not_true, Bool.not_false, i1_0, eq_self, reduceCtorEq, eLits, m2, m_in, m_played, e, hT, hp]
          exact hQ
        | true =>
          have q := (hC.2.1.2.2.2 (of_decide_eq_true hp) i hi).2.1
          refine jq_v I (mr d 2 (323 + i)) (fun Q hQ => w119 _ _ (by simp only [r2, c_within, hT, c_range, hb, kV_r, kV_x, kI_r, kI_x, kR_r, kF_r, kD_r, forall_eq, not_true_eq_false, not_false_eq_true, false_implies, true_implies, true_and, and_true, b2i_0, b2i_1, b2i_01, b2i_t, b2i_f, decide_true, decide_false, Bool.not_true, Bool.not_false, i1_0, eq_self, reduceCtorEq, eLits, cond_true, c_played hC.2.1 hk, hp, ci, cl, q]; exact hQ)) (fun d' Q e _ hQ => w238 _ _ ?_)
          simp only [f_mv, f_sV, f_sV', f_s2, f_s3, f_s29, f_s30, f_mr, mr_sR, mv_sV, sV_sV, sR_sR, m2, kV_r, kV_x, kI_r, kI_x, kR_r, kF_r, kD_r, forall_eq, not_true_eq_false, not_false_eq_true, false_implies, true_implies, true_and, and_true, b2i_0, b2i_1, b2i_01, b2i_t, b2i_f, decide_true, decide_false, Bool.not_true, Bool.not_false, i1_0, eq_self, reduceCtorEq, eLits, m2, m_in, m_played, e, hT, hp, in_323 hi6, cl_323 hi6]
          exact hQ
      · refine jq_v I (mr d 2 (305 + i)) (fun Q hQ => A _ _ Q hb (by decide) (by decide) (w118 _ _ _ ?_) hQ) (fun d' Q e _ hQ => w238 _ _ (by
          simp only [f_mv, f_sV, f_sV', f_s2, f_s3, f_s29, f_s30, f_mr, mr_sR, mv_sV, sV_sV, sR_sR, m2, kV_r, kV_x, kI_r, kI_x, kR_r, kF_r, kD_r, forall_eq, not_true_eq_false, not_false_eq_true, false_implies, true_implies, true_and, and_true, b2i_0, b2i_1, b2i_01, b2i_t, b2i_f, decide_true, decide_false, Bool.not_true, Bool.not_false, i1_0, eq_self, reduceCtorEq, eLits, m2, m_in, e, hT, in_305 hi6, cl_305 hi6]
          exact hQ))
        simp only [r2, c_within, hT, kV_r, kV_x, kI_r, kI_x, kR_r, kF_r, kD_r, forall_eq, not_true_eq_false, not_false_eq_true, false_implies, true_implies, true_and, and_true, b2i_0, b2i_1, b2i_01, b2i_t, b2i_f, decide_true, decide_false, Bool.not_true, Bool.not_false, i1_0, eq_self, reduceCtorEq, eLits, ci, cl, c_cont (show i < 16 by omega), q0]
        refine ?_
        cases bt (ax_row d 3 0 0 4) i <;> simp [b2i]
theorem in9n {w : Int32} (h : inB w 0 9 = false) : ¬ w = 0 ∧ ¬ w = 1 ∧ ¬ w = 2 ∧ ¬ w = 3 ∧ ¬ w = 4 ∧ ¬ w = 5 ∧ ¬ w = 6 ∧ ¬ w = 7 ∧ ¬ w = 8 ∧ ¬ w = 9 :=
  ⟨fun z => by rw [z] at h; exact absurd h (by decide), fun z => by rw [z] at h; exact absurd h (by decide), fun z => by rw [z] at h; exact absurd h (by decide), fun z => by rw [z] at h; exact absurd h (by decide), fun z => by rw [z] at h; exact absurd h (by decide), fun z => by rw [z] at h; exact absurd h (by decide), fun z => by rw [z] at h; exact absurd h (by decide), fun z => by rw [z] at h; exact absurd h (by decide), fun z => by rw [z] at h; exact absurd h (by decide), fun z => by rw [z] at h; exact absurd h (by decide)⟩
theorem j_count (I : INV d n) (w : Int32) : JN [1] 117 237 [w] d n := by
  have hC := I.1
  have hk := hC.2.2
  have I2 := I
  obtain ⟨-, -, -, ln, a, m, H, f, -, -, -, ⟨-, t2, t3⟩, ⟨y1, y2, -⟩, -, -⟩ := I2
  obtain ⟨r0, r1, r2⟩ := hC.1.1
  obtain ⟨g1, g2, g3⟩ := hC.2.1.2.1
  cases hb : inB w 0 9 with
  | false =>
    obtain ⟨n0, n1, n2, n3, n4, n5, n6, n7, n8, n9⟩ := in9n hb
    exact jq_x I 0 rfl (fun Q hQ => w117 _ (by simp only [c_range, hb, kV_r, kV_x, kI_r, kI_x, kR_r, kF_r, kD_r, forall_eq, not_true_eq_false, not_false_eq_true, false_implies, true_implies, true_and, and_true, b2i_0, b2i_1, b2i_01, b2i_t, b2i_f, decide_true, decide_false, Bool.not_true, Bool.not_false, i1_0, eq_self, reduceCtorEq, eLits, cond_false]; exact hQ)) (fun d' Q e _ hQ => w237 _ (by simp only [f_mv, f_sV, f_sV', f_s2, f_s3, f_s29, f_s30, f_mr, mr_sR, mv_sV, sV_sV, sR_sR, m2, kV_r, kV_x, kI_r, kI_x, kR_r, kF_r, kD_r, forall_eq, not_true_eq_false, not_false_eq_true, false_implies, true_implies, true_and, and_true, b2i_0, b2i_1, b2i_01, b2i_t, b2i_f, decide_true, decide_false, Bool.not_true, Bool.not_false, i1_0, eq_self, reduceCtorEq, eLits, n0, n1, n2, n3, n4, n5, n6, n7, n8, n9, m_fails]; exact hQ _))
  | true =>
    have y2' : mv d 7 = nI H.length := y2.1
    have y1' : ax_row d 2 0 0 2 = nI H.length := y1.1
    have e0 : ∀ d' : ax_D, mv (sV d' 0 0) 7 = mv d' 7 := fun d' => mv_sVn (by decide) d' 0
    have e1 : ∀ d' : ax_D, mv (sV d' 0 0) 10 = mv d' 10 := fun d' => mv_sVn (by decide) d' 0
    rcases in10 hb with e | e | e | e | e | e | e | e | e | e <;> subst e
    · exact jq_v I (mr d 2 0) (fun Q hQ => w117 _ (by simp only [c_range, hb, kV_r, kV_x, kI_r, kI_x, kR_r, kF_r, kD_r, forall_eq, not_true_eq_false, not_false_eq_true, false_implies, true_implies, true_and, and_true, b2i_0, b2i_1, b2i_01, b2i_t, b2i_f, decide_true, decide_false, Bool.not_true, Bool.not_false, i1_0, eq_self, reduceCtorEq, eLits, cond_true, show ax_row d 3 0 0 0 = mr d 2 0 from r0]; exact hQ)) (fun d' Q e _ hQ => w237 _ (by simp only [f_mv, f_sV, f_sV', f_s2, f_s3, f_s29, f_s30, f_mr, mr_sR, mv_sV, sV_sV, sR_sR, m2, kV_r, kV_x, kI_r, kI_x, kR_r, kF_r, kD_r, forall_eq, not_true_eq_false, not_false_eq_true, false_implies, true_implies, true_and, and_true, b2i_0, b2i_1, b2i_01, b2i_t, b2i_f, decide_true, decide_false, Bool.not_true, Bool.not_false, i1_0, eq_self, reduceCtorEq, eLits, m2, e]; exact hQ))
    · exact jq_v I (mr d 2 1) (fun Q hQ => w117 _ (by simp only [c_range, hb, kV_r, kV_x, kI_r, kI_x, kR_r, kF_r, kD_r, forall_eq, not_true_eq_false, not_false_eq_true, false_implies, true_implies, true_and, and_true, b2i_0, b2i_1, b2i_01, b2i_t, b2i_f, decide_true, decide_false, Bool.not_true, Bool.not_false, i1_0, eq_self, reduceCtorEq, eLits, cond_true, show ax_row d 3 0 0 1 = mr d 2 1 from r1]; exact hQ)) (fun d' Q e _ hQ => w237 _ (by simp only [f_mv, f_sV, f_sV', f_s2, f_s3, f_s29, f_s30, f_mr, mr_sR, mv_sV, sV_sV, sR_sR, m2, kV_r, kV_x, kI_r, kI_x, kR_r, kF_r, kD_r, forall_eq, not_true_eq_false, not_false_eq_true, false_implies, true_implies, true_and, and_true, b2i_0, b2i_1, b2i_01, b2i_t, b2i_f, decide_true, decide_false, Bool.not_true, Bool.not_false, i1_0, eq_self, reduceCtorEq, eLits, m2, e]; exact hQ))
    · exact jq_v I (mr d 2 2) (fun Q hQ => w117 _ (by simp only [c_range, hb, kV_r, kV_x, kI_r, kI_x, kR_r, kF_r, kD_r, forall_eq, not_true_eq_false, not_false_eq_true, false_implies, true_implies, true_and, and_true, b2i_0, b2i_1, b2i_01, b2i_t, b2i_f, decide_true, decide_false, Bool.not_true, Bool.not_false, i1_0, eq_self, reduceCtorEq, eLits, cond_true, show ax_row d 3 0 0 2 = mr d 2 2 from r2]; exact hQ)) (fun d' Q e _ hQ => w237 _ (by simp only [f_mv, f_sV, f_sV', f_s2, f_s3, f_s29, f_s30, f_mr, mr_sR, mv_sV, sV_sV, sR_sR, m2, kV_r, kV_x, kI_r, kI_x, kR_r, kF_r, kD_r, forall_eq, not_true_eq_false, not_false_eq_true, false_implies, true_implies, true_and, and_true, b2i_0, b2i_1, b2i_01, b2i_t, b2i_f, decide_true, decide_false, Bool.not_true, Bool.not_false, i1_0, eq_self, reduceCtorEq, eLits, m2, e]; exact hQ))
    · cases hp : plays (mr d 2) with
      | false => exact jq_v I (-1) (fun Q hQ => w117 _ (by
          simp only [c_range, hb, kV_r, kV_x, kI_r, kI_x, kR_r, kF_r, kD_r, forall_eq, not_true_eq_false, not_false_eq_true, false_implies, true_implies, true_and, and_true, b2i_0, b2i_1, b2i_01, b2i_t, b2i_f, decide_true, decide_false, Bool.not_true, Bool.not_false, i1_0, eq_self, reduceCtorEq, eLits, cond_true, c_played hC.2.1 hk, hp]
          exact hQ)) (fun d' Q e _ hQ => w237 _ (by
          simp only [f_mv, f_sV, f_sV', f_s2, f_s3, f_s29, f_s30, f_mr, mr_sR, mv_sV, sV_sV, sR_sR, m2, kV_r, kV_x, kI_r, kI_x, kR_r, kF_r, kD_r, forall_eq, not_true_eq_false, not_false_eq_true, false_implies, true_implies, true_and, and_true, b2i_0, b2i_1, b2i_01, b2i_t, b2i_f, decide_true, decide_false, Bool.not_true, Bool.not_false, i1_0, eq_self, reduceCtorEq, eLits, m2, e, m_played, hp]
          exact hQ))
      | true => exact jq_v I (mr d 2 4) (fun Q hQ => w117 _ (by
          simp only [c_range, hb, kV_r, kV_x, kI_r, kI_x, kR_r, kF_r, kD_r, forall_eq, not_true_eq_false, not_false_eq_true, false_implies, true_implies, true_and, and_true, b2i_0, b2i_1, b2i_01, b2i_t, b2i_f, decide_true, decide_false, Bool.not_true, Bool.not_false, i1_0, eq_self, reduceCtorEq, eLits, cond_true, c_played hC.2.1 hk, hp, show ax_row d 7 0 0 10 = mr d 2 4 from g3]
          exact hQ)) (fun d' Q e _ hQ => w237 _ (by
          simp only [f_mv, f_sV, f_sV', f_s2, f_s3, f_s29, f_s30, f_mr, mr_sR, mv_sV, sV_sV, sR_sR, m2, kV_r, kV_x, kI_r, kI_x, kR_r, kF_r, kD_r, forall_eq, not_true_eq_false, not_false_eq_true, false_implies, true_implies, true_and, and_true, b2i_0, b2i_1, b2i_01, b2i_t, b2i_f, decide_true, decide_false, Bool.not_true, Bool.not_false, i1_0, eq_self, reduceCtorEq, eLits, m2, e, m_played, hp]
          exact hQ))
    · have h11 : ax_row d 7 0 0 11 = cond (plays (mr d 2)) (mr d 2 5) (-1) := by
        rw [show ax_row d 7 0 0 11 = plI (mr d 2) from g1]
        unfold plI plays
        by_cases h3 : mr d 2 3 = 1
        · rw [if_pos h3, decide_eq_true h3]; rfl
        · rw [if_neg h3, decide_eq_false h3]; rfl
      refine jq_v I (cond (plays (mr d 2)) (mr d 2 5) (-1)) (fun Q hQ => w117 _ (by
          simp only [c_range, hb, kV_r, kV_x, kI_r, kI_x, kR_r, kF_r, kD_r, forall_eq, not_true_eq_false, not_false_eq_true, false_implies, true_implies, true_and, and_true, b2i_0, b2i_1, b2i_01, b2i_t, b2i_f, decide_true, decide_false, Bool.not_true, Bool.not_false, i1_0, eq_self, reduceCtorEq, eLits, cond_true, h11]
          exact hQ)) (fun d' Q e _ hQ => w237 _ ?_)
      simp only [f_mv, f_sV, f_sV', f_s2, f_s3, f_s29, f_s30, f_mr, mr_sR, mv_sV, sV_sV, sR_sR, m2, kV_r, kV_x, kI_r, kI_x, kR_r, kF_r, kD_r, forall_eq, not_true_eq_false, not_false_eq_true, false_implies, true_implies, true_and, and_true, b2i_0, b2i_1, b2i_01, b2i_t, b2i_f, decide_true, decide_false, Bool.not_true, Bool.not_false, i1_0, eq_self, reduceCtorEq, eLits, m2, e, m_played]
      refine ?_
      cases hp : plays (mr d 2) <;> rw [hp] at hQ <;> simpa [b2i] using hQ
    · exact jq_v I (nI ln) (fun Q hQ => w117 _ (by
          simp only [c_range, hb, kV_r, kV_x, kI_r, kI_x, kR_r, kF_r, kD_r, forall_eq, not_true_eq_false, not_false_eq_true, false_implies, true_implies, true_and, and_true, b2i_0, b2i_1, b2i_01, b2i_t, b2i_f, decide_true, decide_false, Bool.not_true, Bool.not_false, i1_0, eq_self, reduceCtorEq, eLits, cond_true, t2]
          exact hQ)) (fun d' Q e e' hQ => w237 _ (by
          simp only [f_mv, f_sV, f_sV', f_s2, f_s3, f_s29, f_s30, f_mr, mr_sR, mv_sV, sV_sV, sR_sR, m2, kV_r, kV_x, kI_r, kI_x, kR_r, kF_r, kD_r, forall_eq, not_true_eq_false, not_false_eq_true, false_implies, true_implies, true_and, and_true, b2i_0, b2i_1, b2i_01, b2i_t, b2i_f, decide_true, decide_false, Bool.not_true, Bool.not_false, i1_0, eq_self, reduceCtorEq, eLits, m2, e1, e' 10, t3]
          exact hQ))
    · exact jq_v I (nI H.length) (fun Q hQ => w117 _ (by
          simp only [c_range, hb, kV_r, kV_x, kI_r, kI_x, kR_r, kF_r, kD_r, forall_eq, not_true_eq_false, not_false_eq_true, false_implies, true_implies, true_and, and_true, b2i_0, b2i_1, b2i_01, b2i_t, b2i_f, decide_true, decide_false, Bool.not_true, Bool.not_false, i1_0, eq_self, reduceCtorEq, eLits, cond_true, y1']
          exact hQ)) (fun d' Q e e' hQ => w237 _ (by
          simp only [f_mv, f_sV, f_sV', f_s2, f_s3, f_s29, f_s30, f_mr, mr_sR, mv_sV, sV_sV, sR_sR, m2, kV_r, kV_x, kI_r, kI_x, kR_r, kF_r, kD_r, forall_eq, not_true_eq_false, not_false_eq_true, false_implies, true_implies, true_and, and_true, b2i_0, b2i_1, b2i_01, b2i_t, b2i_f, decide_true, decide_false, Bool.not_true, Bool.not_false, i1_0, eq_self, reduceCtorEq, eLits, m2, e0, e' 7, y2']
          exact hQ))
    · have h7 : (∀ Q : ax_P, Q d (Sum.inl (some (Sum.inl (cond (plays (mr d 2)) (mr d 2 4) 0)))) → CT 117 [ax_vR 8 0 0, Sum.inl 7] d Q) := fun Q hQ => w117 _ (by
          simp only [c_range, hb, kV_r, kV_x, kI_r, kI_x, kR_r, kF_r, kD_r, forall_eq, not_true_eq_false, not_false_eq_true, false_implies, true_implies, true_and, and_true, b2i_0, b2i_1, b2i_01, b2i_t, b2i_f, decide_true, decide_false, Bool.not_true, Bool.not_false, i1_0, eq_self, reduceCtorEq, eLits, cond_true, c_played hC.2.1 hk, show ax_row d 7 0 0 10 = mr d 2 4 from g3]
          refine ?_
          cases hp : plays (mr d 2) <;> rw [hp] at hQ <;> simpa [b2i] using hQ)
      refine jq_v I (cond (plays (mr d 2)) (mr d 2 4) 0) h7 (fun d' Q e _ hQ => w237 _ ?_)
      simp only [f_mv, f_sV, f_sV', f_s2, f_s3, f_s29, f_s30, f_mr, mr_sR, mv_sV, sV_sV, sR_sR, m2, kV_r, kV_x, kI_r, kI_x, kR_r, kF_r, kD_r, forall_eq, not_true_eq_false, not_false_eq_true, false_implies, true_implies, true_and, and_true, b2i_0, b2i_1, b2i_01, b2i_t, b2i_f, decide_true, decide_false, Bool.not_true, Bool.not_false, i1_0, eq_self, reduceCtorEq, eLits, m2, e, m_played]
      refine ?_
      cases hp : plays (mr d 2) <;> rw [hp] at hQ <;> simpa [b2i] using hQ
    · exact jq_v I (mr d 2 6) (fun Q hQ => w117 _ (by
          simp only [c_range, hb, kV_r, kV_x, kI_r, kI_x, kR_r, kF_r, kD_r, forall_eq, not_true_eq_false, not_false_eq_true, false_implies, true_implies, true_and, and_true, b2i_0, b2i_1, b2i_01, b2i_t, b2i_f, decide_true, decide_false, Bool.not_true, Bool.not_false, i1_0, eq_self, reduceCtorEq, eLits, cond_true, show ax_row d 7 0 0 9 = mr d 2 6 from g2]
          exact hQ)) (fun d' Q e _ hQ => w237 _ (by
          simp only [f_mv, f_sV, f_sV', f_s2, f_s3, f_s29, f_s30, f_mr, mr_sR, mv_sV, sV_sV, sR_sR, m2, kV_r, kV_x, kI_r, kI_x, kR_r, kF_r, kD_r, forall_eq, not_true_eq_false, not_false_eq_true, false_implies, true_implies, true_and, and_true, b2i_0, b2i_1, b2i_01, b2i_t, b2i_f, decide_true, decide_false, Bool.not_true, Bool.not_false, i1_0, eq_self, reduceCtorEq, eLits, m2, e]
          exact hQ))
    · exact jq_v I (nI (load (mr d 2))) (fun Q hQ => w117 _ (by
          simp only [c_range, hb, kV_r, kV_x, kI_r, kI_x, kR_r, kF_r, kD_r, forall_eq, not_true_eq_false, not_false_eq_true, false_implies, true_implies, true_and, and_true, b2i_0, b2i_1, b2i_01, b2i_t, b2i_f, decide_true, decide_false, Bool.not_true, Bool.not_false, i1_0, eq_self, reduceCtorEq, eLits, cond_true, c_load hC]
          exact hQ)) (fun d' Q e _ hQ => w237 _ (by
          simp only [f_mv, f_sV, f_sV', f_s2, f_s3, f_s29, f_s30, f_mr, mr_sR, mv_sV, sV_sV, sR_sR, m2, kV_r, kV_x, kI_r, kI_x, kR_r, kF_r, kD_r, forall_eq, not_true_eq_false, not_false_eq_true, false_implies, true_implies, true_and, and_true, b2i_0, b2i_1, b2i_01, b2i_t, b2i_f, decide_true, decide_false, Bool.not_true, Bool.not_false, i1_0, eq_self, reduceCtorEq, eLits, m2, e, m_load ((m2 d' 0 0).trans e) hk]
          exact hQ))
theorem j_letter (I : INV d n) (x y : Int32) : JN [1, 2] 134 251 [x, y] d n := by
  cases hb : inB x 0 7 with
  | false => exact jq_x I 0 rfl (fun Q hQ => w134 _ _ (by simp only [c_range, hb, kV_r, kV_x, kI_r, kI_x, kR_r, kF_r, kD_r, forall_eq, not_true_eq_false, not_false_eq_true, false_implies, true_implies, true_and, and_true, b2i_0, b2i_1, b2i_01, b2i_t, b2i_f, decide_true, decide_false, Bool.not_true, Bool.not_false, i1_0, eq_self, reduceCtorEq, eLits, cond_false]; exact hQ)) (fun d' Q e _ hQ => w251 _ _ (by
      simp only [f_mv, f_sV, f_sV', f_s2, f_s3, f_s29, f_s30, f_mr, mr_sR, mv_sV, sV_sV, sR_sR, m2, kV_r, kV_x, kI_r, kI_x, kR_r, kF_r, kD_r, forall_eq, not_true_eq_false, not_false_eq_true, false_implies, true_implies, true_and, and_true, b2i_0, b2i_1, b2i_01, b2i_t, b2i_f, decide_true, decide_false, Bool.not_true, Bool.not_false, i1_0, eq_self, reduceCtorEq, eLits, m_in, hb]
      exact hQ _))
  | true =>
    obtain ⟨k, -, hk7, rfl⟩ := inB_ex (a := 0) (b := 7) hb (by omega) (by omega)
    have e18 : (18 : Int32) + nI k = nI (18 + k) := nI_add 18 k
    have hw : 18 + k < 34 := by omega
    have hwl := wl_7 (18 + k) hw
    have hw2 := wl_2 (18 + k) hw
    cases hy : inB y 0 (nI (wl (18 + k)) - 1) with
    | false => exact jq_x I 1 rfl (fun Q hQ => w134 _ _ (by simp only [c_range, hb, kV_r, kV_x, kI_r, kI_x, kR_r, kF_r, kD_r, forall_eq, not_true_eq_false, not_false_eq_true, false_implies, true_implies, true_and, and_true, b2i_0, b2i_1, b2i_01, b2i_t, b2i_f, decide_true, decide_false, Bool.not_true, Bool.not_false, i1_0, eq_self, reduceCtorEq, eLits, cond_true, e18, c_text hw, t_len hw, c_within, hy]; exact hQ)) (fun d' Q e _ hQ => w251 _ _ (by
        simp only [f_mv, f_sV, f_sV', f_s2, f_s3, f_s29, f_s30, f_mr, mr_sR, mv_sV, sV_sV, sR_sR, m2, kV_r, kV_x, kI_r, kI_x, kR_r, kF_r, kD_r, forall_eq, not_true_eq_false, not_false_eq_true, false_implies, true_implies, true_and, and_true, b2i_0, b2i_1, b2i_01, b2i_t, b2i_f, decide_true, decide_false, Bool.not_true, Bool.not_false, i1_0, eq_self, reduceCtorEq, eLits, m_in, hb, m_nounOf (show k < 8 by omega), t_len hw, hy]
        exact hQ _))
    | true =>
      have hx : ∃ i, i < wl (18 + k) ∧ y = nI i := by
        have h1 := hy
        rw [inB_m1 rfl (by omega), Bool.and_eq_true] at h1
        rcases pk_ix y (n := wl (18 + k)) (by omega) with a | a | a
        · simp [a] at h1
        · simp [a] at h1
        · exact a
      obtain ⟨i, hi, rfl⟩ := hx
      have hok := wc_ok (18 + k) hw i (by omega)
      exact jq_v I (wc (18 + k) i) (fun Q hQ => w134 _ _ (by simp only [c_range, hb, kV_r, kV_x, kI_r, kI_x, kR_r, kF_r, kD_r, forall_eq, not_true_eq_false, not_false_eq_true, false_implies, true_implies, true_and, and_true, b2i_0, b2i_1, b2i_01, b2i_t, b2i_f, decide_true, decide_false, Bool.not_true, Bool.not_false, i1_0, eq_self, reduceCtorEq, eLits, cond_true, e18, c_text hw, t_len hw, c_within, hy, t_char hw hi]; exact ⟨hok, hQ⟩)) (fun d' Q e _ hQ => w251 _ _ (by
        simp only [f_mv, f_sV, f_sV', f_s2, f_s3, f_s29, f_s30, f_mr, mr_sR, mv_sV, sV_sV, sR_sR, m2, kV_r, kV_x, kI_r, kI_x, kR_r, kF_r, kD_r, forall_eq, not_true_eq_false, not_false_eq_true, false_implies, true_implies, true_and, and_true, b2i_0, b2i_1, b2i_01, b2i_t, b2i_f, decide_true, decide_false, Bool.not_true, Bool.not_false, i1_0, eq_self, reduceCtorEq, eLits, m_in, hb, m_nounOf (show k < 8 by omega), t_len hw, hy, t_char hw hi]
        exact ⟨hok, hQ⟩))
end JD
