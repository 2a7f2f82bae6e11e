/-! setCapacity, setKey, setFuel, setFlag, connect -/
section SO2
variable {d : ax_D} {n : Nat}
theorem CC_arr {s : Row} (hC : CC d 0 s) (hnp : ¬ s 3 = 1) {j t : Nat} (h1 : 6 ≤ j) (h2 : j ≤ 17) (ht : t < lnP j) (x : Int32) (ok : Ok (upd s (ixP j t) x)) {d1 : ax_D} (e : d1 = ax_set d 3 0 j (upd (ax_row d 3 0 j) t x)) : CC d1 0 (upd s (ixP j t) x) := by
  have hb := ixP_lt h1 h2 ht
  have hcp : Cp d 0 s := hC.1
  have f : Fr (fun k i => k = 3 ∧ i = 0) d d1 := by rw [e]; exact Fr_set (by decide) ⟨rfl, rfl⟩ d j _
  exact ⟨Cp_set hcp h1 h2 ht x e, Cw_Fr f (fun z => by cases z.1) (Cw_pl hC.2.1 hnp (by rw [upd_n (by omega)]; exact hnp) (fun k hk => upd_n (by omega) _ _)), ok⟩
theorem j_setCap (I : INV d n) (x w : Int32) : JN [2, 1, 3, 0] 149 262 [x, w] d n := by
  have hC := I.1
  have hL := I.2.1
  have hk := hC.2.2
  have hcp : Cp d 0 (mr d 2) := hC.1
  cases hT : isTh (mr d 2) x with
  | false => exact jq_x I 0 rfl (fun Q hQ => w149 _ _ (by simp only [c_chkT hC, hT, kV_r, kV_x, kI_r, kI_x, kR_r, kF_r, kD_r, forall_eq, not_true_eq_false, not_false_eq_true, false_implies, true_implies, true_and, and_true, b2i_0, b2i_1, b2i_01, b2i_t, b2i_f, decide_true, decide_false, Bool.not_true, Bool.not_false, i1_0, eq_self, reduceCtorEq, eLits, cond_false]; exact hQ)) (fun d' Q e _ hQ => w262 _ _ (by simp only [f_mv, f_sV, f_sV', f_s2, f_s3, f_s29, f_s30, f_mr, mr_sR, mv_sV, sV_sV, sR_sR, m2, kV_r, kV_x, kI_r, kI_x, kR_r, kF_r, kD_r, forall_eq, not_true_eq_false, not_false_eq_true, false_implies, true_implies, true_and, and_true, b2i_0, b2i_1, b2i_01, b2i_t, b2i_f, decide_true, decide_false, Bool.not_true, Bool.not_false, i1_0, eq_self, reduceCtorEq, eLits, m_isTh, e, hT, m_fails]; exact hQ _))
  | true =>
    cases hb : inB w 0 30 with
    | false => exact jq_x I 1 rfl (fun Q hQ => w149 _ _ (by simp only [c_chkT hC, c_range, hT, hb, kV_r, kV_x, kI_r, kI_x, kR_r, kF_r, kD_r, forall_eq, not_true_eq_false, not_false_eq_true, false_implies, true_implies, true_and, and_true, b2i_0, b2i_1, b2i_01, b2i_t, b2i_f, decide_true, decide_false, Bool.not_true, Bool.not_false, i1_0, eq_self, reduceCtorEq, eLits, cond_true, cond_false]; exact hQ)) (fun d' Q e _ hQ => w262 _ _ (by simp only [f_mv, f_sV, f_sV', f_s2, f_s3, f_s29, f_s30, f_mr, mr_sR, mv_sV, sV_sV, sR_sR, m2, kV_r, kV_x, kI_r, kI_x, kR_r, kF_r, kD_r, forall_eq, not_true_eq_false, not_false_eq_true, false_implies, true_implies, true_and, and_true, b2i_0, b2i_1, b2i_01, b2i_t, b2i_f, decide_true, decide_false, Bool.not_true, Bool.not_false, i1_0, eq_self, reduceCtorEq, eLits, m_isTh, m_in, e, hT, hb, m_fails]; exact hQ _))
    | true =>
      obtain ⟨t, ht, rfl⟩ := isTh_ex hk hT
      have hl := Ok_lt hk ht
      have ci : ax_in (nI t) 16 = true := ax_in_nI hl (by omega)
      have cl : (nI t).toNatClampNeg = t := nI_clamp (by omega)
      cases hh : isHold (mr d 2) t with
      | false => exact jq_x I 2 rfl (fun Q hQ => w149 _ _ (by simp only [c_chkT hC, c_range, c_hold hcp hk ht, hT, hb, hh, kV_r, kV_x, kI_r, kI_x, kR_r, kF_r, kD_r, forall_eq, not_true_eq_false, not_false_eq_true, false_implies, true_implies, true_and, and_true, b2i_0, b2i_1, b2i_01, b2i_t, b2i_f, decide_true, decide_false, Bool.not_true, Bool.not_false, i1_0, eq_self, reduceCtorEq, eLits, cond_true]; exact hQ)) (fun d' Q e _ hQ => w262 _ _ (by simp only [f_mv, f_sV, f_sV', f_s2, f_s3, f_s29, f_s30, f_mr, mr_sR, mv_sV, sV_sV, sR_sR, m2, kV_r, kV_x, kI_r, kI_x, kR_r, kF_r, kD_r, forall_eq, not_true_eq_false, not_false_eq_true, false_implies, true_implies, true_and, and_true, b2i_0, b2i_1, b2i_01, b2i_t, b2i_f, decide_true, decide_false, Bool.not_true, Bool.not_false, i1_0, eq_self, reduceCtorEq, eLits, m_isTh, m_in, m_hold hl, e, hT, hb, hh, m_fails]; exact hQ _))
      | true =>
        cases hp : plays (mr d 2) with
        | true => exact jq_x I 3 rfl (fun Q hQ => w149 _ _ (by simp only [c_chkT hC, c_range, c_hold hcp hk ht, c_refP hC, hT, hb, hh, hp, kV_r, kV_x, kI_r, kI_x, kR_r, kF_r, kD_r, forall_eq, not_true_eq_false, not_false_eq_true, false_implies, true_implies, true_and, and_true, b2i_0, b2i_1, b2i_01, b2i_t, b2i_f, decide_true, decide_false, Bool.not_true, Bool.not_false, i1_0, eq_self, reduceCtorEq, eLits, cond_true]; exact hQ)) (fun d' Q e _ hQ => w262 _ _ (by simp only [f_mv, f_sV, f_sV', f_s2, f_s3, f_s29, f_s30, f_mr, mr_sR, mv_sV, sV_sV, sR_sR, m2, kV_r, kV_x, kI_r, kI_x, kR_r, kF_r, kD_r, forall_eq, not_true_eq_false, not_false_eq_true, false_implies, true_implies, true_and, and_true, b2i_0, b2i_1, b2i_01, b2i_t, b2i_f, decide_true, decide_false, Bool.not_true, Bool.not_false, i1_0, eq_self, reduceCtorEq, eLits, m_isTh, m_in, m_hold hl, m_played, e, hT, hb, hh, hp, m_fails]; exact hQ _))
        | false =>
          have hnp : ¬ mr d 2 3 = 1 := of_decide_eq_false hp
          by_cases hs : nI (filled (mr d 2) (nI t) (-1)) ≤ w
          · obtain ⟨ok, ld⟩ := Ok_pl0 (s' := upd (mr d 2) (175 + t) w) hk (fun k hk => upd_n (by omega) _ _) hnp (fun u h1 h2 => by rw [upd_n (by omega), upd_n (by omega)]; exact hk.1.2.2.2.2 u h1 h2)
            refine jq_s I hnp (s' := upd (mr d 2) (175 + t) w) (by rw [upd_n (by omega)]; exact hnp) (by rw [ld]; exact hL) (mr d 2 (175 + t)) (fun Q hQ => w149 _ _ ?_) (fun d' Q e hQ => w262 _ _ ?_)
            · simp only [c_chkT hC, c_range, c_hold hcp hk ht, c_refP hC, c_size hC hl, hT, hb, hh, hp, kV_r, kV_x, kI_r, kI_x, kR_r, kF_r, kD_r, forall_eq, not_true_eq_false, not_false_eq_true, false_implies, true_implies, true_and, and_true, b2i_0, b2i_1, b2i_01, b2i_t, b2i_f, decide_true, decide_false, Bool.not_true, Bool.not_false, i1_0, eq_self, reduceCtorEq, eLits, cond_true, cond_false, ci, cl]
              refine ⟨fun _ => ?_, fun z => absurd hs z⟩
              rw [show ax_row d 3 0 12 t = mr d 2 (175 + t) from Cp_arr hcp (j := 12) (by decide) (by decide) hl]
              exact hQ _ (Fr3 d rfl) (CC_arr hC hnp (j := 12) (by decide) (by decide) hl w ok rfl)
            · simp only [f_mv, f_sV, f_sV', f_s2, f_s3, f_s29, f_s30, f_mr, mr_sR, mv_sV, sV_sV, sR_sR, m2, kV_r, kV_x, kI_r, kI_x, kR_r, kF_r, kD_r, forall_eq, not_true_eq_false, not_false_eq_true, false_implies, true_implies, true_and, and_true, b2i_0, b2i_1, b2i_01, b2i_t, b2i_f, decide_true, decide_false, Bool.not_true, Bool.not_false, i1_0, eq_self, reduceCtorEq, eLits, m_isTh, m_in, m_hold hl, m_played, m_filled ((m2 d' 0 0).trans e) hk, e, hT, hb, hh, hp, in_175 hl, cl_175 hl]
              exact ⟨fun _ => hQ, fun z => absurd hs z⟩
          · refine jq_x I 3 rfl (fun Q hQ => w149 _ _ ?_) (fun d' Q e _ hQ => w262 _ _ ?_)
            · simp only [c_chkT hC, c_range, c_hold hcp hk ht, c_refP hC, c_size hC hl, hT, hb, hh, hp, kV_r, kV_x, kI_r, kI_x, kR_r, kF_r, kD_r, forall_eq, not_true_eq_false, not_false_eq_true, false_implies, true_implies, true_and, and_true, b2i_0, b2i_1, b2i_01, b2i_t, b2i_f, decide_true, decide_false, Bool.not_true, Bool.not_false, i1_0, eq_self, reduceCtorEq, eLits, cond_true, cond_false]
              exact ⟨fun z => absurd z hs, fun _ => hQ⟩
            · simp only [f_mv, f_sV, f_sV', f_s2, f_s3, f_s29, f_s30, f_mr, mr_sR, mv_sV, sV_sV, sR_sR, m2, kV_r, kV_x, kI_r, kI_x, kR_r, kF_r, kD_r, forall_eq, not_true_eq_false, not_false_eq_true, false_implies, true_implies, true_and, and_true, b2i_0, b2i_1, b2i_01, b2i_t, b2i_f, decide_true, decide_false, Bool.not_true, Bool.not_false, i1_0, eq_self, reduceCtorEq, eLits, m_isTh, m_in, m_hold hl, m_played, m_filled ((m2 d' 0 0).trans e) hk, e, hT, hb, hh, hp, m_fails]
              exact ⟨fun z => absurd z hs, fun _ => hQ _⟩
theorem j_setKey (I : INV d n) (x w : Int32) : JN [2, 3, 0] 153 265 [x, w] d n := by
  have hC := I.1
  have hL := I.2.1
  have hk := hC.2.2
  have hcp : Cp d 0 (mr d 2) := hC.1
  cases hT : isTh (mr d 2) x with
  | false => exact jq_x I 0 rfl (fun Q hQ => w153 _ _ (by simp only [c_chkT hC, hT, kV_r, kV_x, kI_r, kI_x, kR_r, kF_r, kD_r, forall_eq, not_true_eq_false, not_false_eq_true, false_implies, true_implies, true_and, and_true, b2i_0, b2i_1, b2i_01, b2i_t, b2i_f, decide_true, decide_false, Bool.not_true, Bool.not_false, i1_0, eq_self, reduceCtorEq, eLits, cond_false]; exact hQ)) (fun d' Q e _ hQ => w265 _ _ (by simp only [f_mv, f_sV, f_sV', f_s2, f_s3, f_s29, f_s30, f_mr, mr_sR, mv_sV, sV_sV, sR_sR, m2, kV_r, kV_x, kI_r, kI_x, kR_r, kF_r, kD_r, forall_eq, not_true_eq_false, not_false_eq_true, false_implies, true_implies, true_and, and_true, b2i_0, b2i_1, b2i_01, b2i_t, b2i_f, decide_true, decide_false, Bool.not_true, Bool.not_false, i1_0, eq_self, reduceCtorEq, eLits, m_isTh, e, hT, m_fails]; exact hQ _))
  | true =>
    by_cases hw : w = -1 ∨ isTh (mr d 2) w = true
    case neg =>
      have w1 : ¬ w = -1 := fun z => hw (Or.inl z)
      have w2 : isTh (mr d 2) w = false := by
        cases h : isTh (mr d 2) w with
        | false => rfl
        | true => exact absurd (Or.inr h) hw
      exact jq_x I 0 rfl (fun Q hQ => w153 _ _ (by simp only [c_chkT hC, hT, kV_r, kV_x, kI_r, kI_x, kR_r, kF_r, kD_r, forall_eq, not_true_eq_false, not_false_eq_true, false_implies, true_implies, true_and, and_true, b2i_0, b2i_1, b2i_01, b2i_t, b2i_f, decide_true, decide_false, Bool.not_true, Bool.not_false, i1_0, eq_self, reduceCtorEq, eLits, cond_true, w1, w2, cond_false]; exact hQ)) (fun d' Q e _ hQ => w265 _ _ (by simp only [f_mv, f_sV, f_sV', f_s2, f_s3, f_s29, f_s30, f_mr, mr_sR, mv_sV, sV_sV, sR_sR, m2, kV_r, kV_x, kI_r, kI_x, kR_r, kF_r, kD_r, forall_eq, not_true_eq_false, not_false_eq_true, false_implies, true_implies, true_and, and_true, b2i_0, b2i_1, b2i_01, b2i_t, b2i_f, decide_true, decide_false, Bool.not_true, Bool.not_false, i1_0, eq_self, reduceCtorEq, eLits, m_isTh, e, hT, w1, w2, m_fails]; exact hQ _))
    obtain ⟨t, ht, rfl⟩ := isTh_ex hk hT
    have hl := Ok_lt hk ht
    have ci : ax_in (nI t) 16 = true := ax_in_nI hl (by omega)
    have cl : (nI t).toNatClampNeg = t := nI_clamp (by omega)
    have gc : ∀ Q : ax_P, h153_23 (nI t) w d Q → CT 153 [ax_vR 8 0 0, Sum.inl (nI t), Sum.inl w] d Q := fun Q hQ => w153 _ _ (by
      simp only [c_chkT hC, hT, kV_r, kV_x, kI_r, kI_x, kR_r, kF_r, kD_r, forall_eq, not_true_eq_false, not_false_eq_true, false_implies, true_implies, true_and, and_true, b2i_0, b2i_1, b2i_01, b2i_t, b2i_f, decide_true, decide_false, Bool.not_true, Bool.not_false, i1_0, eq_self, reduceCtorEq, eLits, cond_true]
      by_cases h1 : w = -1
      · exact ⟨fun _ => hQ, fun z => absurd h1 z⟩
      · simp only [hw.resolve_left h1, kV_r, kV_x, kI_r, kI_x, kR_r, kF_r, kD_r, forall_eq, not_true_eq_false, not_false_eq_true, false_implies, true_implies, true_and, and_true, b2i_0, b2i_1, b2i_01, b2i_t, b2i_f, decide_true, decide_false, Bool.not_true, Bool.not_false, i1_0, eq_self, reduceCtorEq, eLits, cond_true]
        exact ⟨fun z => absurd z h1, fun _ => hQ⟩)
    have gm : ∀ (d' : ax_D) (Q : ax_P), mr d' 2 = mr d 2 → h265_32 (nI t) w (sV d' 0 0) Q → CT 265 [ax_vR 9 0 0, Sum.inl (nI t), Sum.inl w] d' Q := fun d' Q e hQ => w265 _ _ (by
      simp only [f_mv, f_sV, f_sV', f_s2, f_s3, f_s29, f_s30, f_mr, mr_sR, mv_sV, sV_sV, sR_sR, m2, kV_r, kV_x, kI_r, kI_x, kR_r, kF_r, kD_r, forall_eq, not_true_eq_false, not_false_eq_true, false_implies, true_implies, true_and, and_true, b2i_0, b2i_1, b2i_01, b2i_t, b2i_f, decide_true, decide_false, Bool.not_true, Bool.not_false, i1_0, eq_self, reduceCtorEq, eLits, m_isTh, e, hT]
      by_cases h1 : w = -1
      · exact ⟨fun _ => hQ, fun z => absurd h1 z⟩
      · simp only [hw.resolve_left h1, kV_r, kV_x, kI_r, kI_x, kR_r, kF_r, kD_r, forall_eq, not_true_eq_false, not_false_eq_true, false_implies, true_implies, true_and, and_true, b2i_0, b2i_1, b2i_01, b2i_t, b2i_f, decide_true, decide_false, Bool.not_true, Bool.not_false, i1_0, eq_self, reduceCtorEq, eLits]
        exact ⟨fun z => absurd z h1, fun _ => hQ⟩)
    cases hh : isLock (mr d 2) t with
    | false => exact jq_x I 1 rfl (fun Q hQ => gc Q (w153_23 _ _ (by simp only [c_lock hcp hk ht, hh, kV_r, kV_x, kI_r, kI_x, kR_r, kF_r, kD_r, forall_eq, not_true_eq_false, not_false_eq_true, false_implies, true_implies, true_and, and_true, b2i_0, b2i_1, b2i_01, b2i_t, b2i_f, decide_true, decide_false, Bool.not_true, Bool.not_false, i1_0, eq_self, reduceCtorEq, eLits]; exact hQ))) (fun d' Q e _ hQ => gm d' Q e (w265_32 _ _ (by simp only [f_mv, f_sV, f_sV', f_s2, f_s3, f_s29, f_s30, f_mr, mr_sR, mv_sV, sV_sV, sR_sR, m2, kV_r, kV_x, kI_r, kI_x, kR_r, kF_r, kD_r, forall_eq, not_true_eq_false, not_false_eq_true, false_implies, true_implies, true_and, and_true, b2i_0, b2i_1, b2i_01, b2i_t, b2i_f, decide_true, decide_false, Bool.not_true, Bool.not_false, i1_0, eq_self, reduceCtorEq, eLits, m_lock hl, e, hh, m_fails]; exact hQ _)))
    | true =>
      cases hp : plays (mr d 2) with
      | true => exact jq_x I 2 rfl (fun Q hQ => gc Q (w153_23 _ _ (by simp only [c_lock hcp hk ht, c_refP hC, hh, hp, kV_r, kV_x, kI_r, kI_x, kR_r, kF_r, kD_r, forall_eq, not_true_eq_false, not_false_eq_true, false_implies, true_implies, true_and, and_true, b2i_0, b2i_1, b2i_01, b2i_t, b2i_f, decide_true, decide_false, Bool.not_true, Bool.not_false, i1_0, eq_self, reduceCtorEq, eLits, cond_true]; exact hQ))) (fun d' Q e _ hQ => gm d' Q e (w265_32 _ _ (by simp only [f_mv, f_sV, f_sV', f_s2, f_s3, f_s29, f_s30, f_mr, mr_sR, mv_sV, sV_sV, sR_sR, m2, kV_r, kV_x, kI_r, kI_x, kR_r, kF_r, kD_r, forall_eq, not_true_eq_false, not_false_eq_true, false_implies, true_implies, true_and, and_true, b2i_0, b2i_1, b2i_01, b2i_t, b2i_f, decide_true, decide_false, Bool.not_true, Bool.not_false, i1_0, eq_self, reduceCtorEq, eLits, m_lock hl, m_played, e, hh, hp, m_fails]; exact hQ _)))
      | false =>
        have hnp : ¬ mr d 2 3 = 1 := of_decide_eq_false hp
        obtain ⟨ok, ld⟩ := Ok_pl0 (s' := upd (mr d 2) (223 + t) w) hk (fun k hk => upd_n (by omega) _ _) hnp (fun u h1 h2 => by rw [upd_n (by omega), upd_n (by omega)]; exact hk.1.2.2.2.2 u h1 h2)
        refine jq_s I hnp (s' := upd (mr d 2) (223 + t) w) (by rw [upd_n (by omega)]; exact hnp) (by rw [ld]; exact hL) (mr d 2 (223 + t)) (fun Q hQ => gc Q (w153_23 _ _ ?_)) (fun d' Q e hQ => gm d' Q e (w265_32 _ _ ?_))
        · simp only [c_lock hcp hk ht, c_refP hC, hh, hp, kV_r, kV_x, kI_r, kI_x, kR_r, kF_r, kD_r, forall_eq, not_true_eq_false, not_false_eq_true, false_implies, true_implies, true_and, and_true, b2i_0, b2i_1, b2i_01, b2i_t, b2i_f, decide_true, decide_false, Bool.not_true, Bool.not_false, i1_0, eq_self, reduceCtorEq, eLits, cond_false, ci, cl]
          rw [show ax_row d 3 0 14 t = mr d 2 (223 + t) from Cp_arr hcp (j := 14) (by decide) (by decide) hl]
          exact hQ _ (Fr3 d rfl) (CC_arr hC hnp (j := 14) (by decide) (by decide) hl w ok rfl)
        · simp only [f_mv, f_sV, f_sV', f_s2, f_s3, f_s29, f_s30, f_mr, mr_sR, mv_sV, sV_sV, sR_sR, m2, kV_r, kV_x, kI_r, kI_x, kR_r, kF_r, kD_r, forall_eq, not_true_eq_false, not_false_eq_true, false_implies, true_implies, true_and, and_true, b2i_0, b2i_1, b2i_01, b2i_t, b2i_f, decide_true, decide_false, Bool.not_true, Bool.not_false, i1_0, eq_self, reduceCtorEq, eLits, m_lock hl, m_played, e, hh, hp, in_223 hl, cl_223 hl]
          exact hQ
/-- a lamp's fuel, another one -/
theorem Ok_fuel {s : Row} (h : Ok s) (hnp : ¬ s 3 = 1) {t f : Nat} (ht : t < nT s) (hf : f < 100) (h4 : hasF s t 4 = true → f ≠ 0) : Ok (upd s (207 + t) (nI f)) ∧ load (upd s (207 + t) (nI f)) = load s := by
  have hl := Ok_lt h ht
  have sp : SP s (upd s (207 + t) (nI f)) := SP_upd (SP_refl s) (by unfold Pix; omega) _
  have pl : SPl s (upd s (207 + t) (nI f)) := fun k h1 h2 => upd_n (by omega) _ _
  have ok : Ok (upd s (207 + t) (nI f)) := by
    refine Ok_mk h sp pl (fun u hu => ?_) (fun u h1 h2 => ?_) (fun k hk h3 => ?_) ?_ (fun k hk => ?_)
    · by_cases e : u = t
      · subst e
        have tf := (h.2.1 u hu).2
        have eh : ∀ g, hasF (upd s (207 + u) (nI f)) u g = hasF s u g := fun g => by unfold hasF; rw [upd_n (by omega)]
        have ek : upd s (207 + u) (nI f) (111 + u) = s (111 + u) := upd_n (by omega) _ _
        have el : isLock (upd s (207 + u) (nI f)) u = isLock s u := by unfold isLock; rw [ek]
        obtain ⟨a1, a2, a3, a4, a5, a6⟩ := tf
        refine ⟨by rw [upd_n (by omega)]; exact a1, ⟨f, hf, upd_s _ _ _⟩, ?_, ?_, ?_, ?_⟩
        · rw [eh, ek]; exact a3
        · rw [eh, el]; exact a4
        · rw [eh, ek]; exact a5
        · rw [eh, ek, upd_s]
          exact fun z => ⟨(a6 z).1, fun y => h4 z ((nI_eq (by omega) (by omega)).mp (show nI f = nI 0 from y))⟩
      · have hu16 := Ok_lt h hu
        exact Tflag_of (upd_n (by omega) _ _) (upd_n (by omega) _ _) (upd_n (by omega) _ _) (h.2.1 u hu).2
    · rw [upd_n (by omega), upd_n (by omega)]; exact h.2.2.2.1 u h1 h2
    · rw [upd_n (by omega)] at h3
      exact absurd h3 hnp
    · rw [upd_n (by omega), upd_n (by omega), upd_n (by omega)]
      rcases h.2.2.2.2.2.1 with q | q
      · exact Or.inl q
      · exact absurd q.1 hnp
    · rw [upd_n (by omega)]; exact h.2.2.2.2.2.2 k hk
  exact ⟨ok, SPl_load h ok sp pl⟩
theorem j_setFuel (I : INV d n) (x w : Int32) : JN [2, 1, 3, 0] 152 264 [x, w] d n := by
  have hC := I.1
  have hL := I.2.1
  have hk := hC.2.2
  have hcp : Cp d 0 (mr d 2) := hC.1
  cases hT : isTh (mr d 2) x with
  | false => exact jq_x I 0 rfl (fun Q hQ => w152 _ _ (by simp only [c_chkT hC, hT, kV_r, kV_x, kI_r, kI_x, kR_r, kF_r, kD_r, forall_eq, not_true_eq_false, not_false_eq_true, false_implies, true_implies, true_and, and_true, b2i_0, b2i_1, b2i_01, b2i_t, b2i_f, decide_true, decide_false, Bool.not_true, Bool.not_false, i1_0, eq_self, reduceCtorEq, eLits, cond_false]; exact hQ)) (fun d' Q e _ hQ => w264 _ _ (by simp only [f_mv, f_sV, f_sV', f_s2, f_s3, f_s29, f_s30, f_mr, mr_sR, mv_sV, sV_sV, sR_sR, m2, kV_r, kV_x, kI_r, kI_x, kR_r, kF_r, kD_r, forall_eq, not_true_eq_false, not_false_eq_true, false_implies, true_implies, true_and, and_true, b2i_0, b2i_1, b2i_01, b2i_t, b2i_f, decide_true, decide_false, Bool.not_true, Bool.not_false, i1_0, eq_self, reduceCtorEq, eLits, m_isTh, e, hT, m_fails]; exact hQ _))
  | true =>
    cases hb : inB w 0 99 with
    | false => exact jq_x I 1 rfl (fun Q hQ => w152 _ _ (by simp only [c_chkT hC, c_range, hT, hb, kV_r, kV_x, kI_r, kI_x, kR_r, kF_r, kD_r, forall_eq, not_true_eq_false, not_false_eq_true, false_implies, true_implies, true_and, and_true, b2i_0, b2i_1, b2i_01, b2i_t, b2i_f, decide_true, decide_false, Bool.not_true, Bool.not_false, i1_0, eq_self, reduceCtorEq, eLits, cond_true, cond_false]; exact hQ)) (fun d' Q e _ hQ => w264 _ _ (by simp only [f_mv, f_sV, f_sV', f_s2, f_s3, f_s29, f_s30, f_mr, mr_sR, mv_sV, sV_sV, sR_sR, m2, kV_r, kV_x, kI_r, kI_x, kR_r, kF_r, kD_r, forall_eq, not_true_eq_false, not_false_eq_true, false_implies, true_implies, true_and, and_true, b2i_0, b2i_1, b2i_01, b2i_t, b2i_f, decide_true, decide_false, Bool.not_true, Bool.not_false, i1_0, eq_self, reduceCtorEq, eLits, m_isTh, m_in, e, hT, hb, m_fails]; exact hQ _))
    | true =>
      obtain ⟨t, ht, rfl⟩ := isTh_ex hk hT
      obtain ⟨f, -, hf, rfl⟩ := inB_ex (a := 0) (b := 99) hb (by omega) (by omega)
      have hl := Ok_lt hk ht
      have ci : ax_in (nI t) 16 = true := ax_in_nI hl (by omega)
      have cl : (nI t).toNatClampNeg = t := nI_clamp (by omega)
      by_cases hh : mr d 2 (111 + t) = 3
      case neg => exact jq_x I 2 rfl (fun Q hQ => w152 _ _ (by simp only [c_chkT hC, c_range, c_kind hcp hk ht, hT, hb, hh, kV_r, kV_x, kI_r, kI_x, kR_r, kF_r, kD_r, forall_eq, not_true_eq_false, not_false_eq_true, false_implies, true_implies, true_and, and_true, b2i_0, b2i_1, b2i_01, b2i_t, b2i_f, decide_true, decide_false, Bool.not_true, Bool.not_false, i1_0, eq_self, reduceCtorEq, eLits, cond_true]; exact hQ)) (fun d' Q e _ hQ => w264 _ _ (by simp only [f_mv, f_sV, f_sV', f_s2, f_s3, f_s29, f_s30, f_mr, mr_sR, mv_sV, sV_sV, sR_sR, m2, kV_r, kV_x, kI_r, kI_x, kR_r, kF_r, kD_r, forall_eq, not_true_eq_false, not_false_eq_true, false_implies, true_implies, true_and, and_true, b2i_0, b2i_1, b2i_01, b2i_t, b2i_f, decide_true, decide_false, Bool.not_true, Bool.not_false, i1_0, eq_self, reduceCtorEq, eLits, m_isTh, m_in, in_111 hl, cl_111 hl, e, hT, hb, hh, m_fails]; exact hQ _))
      cases hp : plays (mr d 2) with
      | true => exact jq_x I 3 rfl (fun Q hQ => w152 _ _ (by simp only [c_chkT hC, c_range, c_kind hcp hk ht, c_refP hC, hT, hb, hh, hp, kV_r, kV_x, kI_r, kI_x, kR_r, kF_r, kD_r, forall_eq, not_true_eq_false, not_false_eq_true, false_implies, true_implies, true_and, and_true, b2i_0, b2i_1, b2i_01, b2i_t, b2i_f, decide_true, decide_false, Bool.not_true, Bool.not_false, i1_0, eq_self, reduceCtorEq, eLits, cond_true]; exact hQ)) (fun d' Q e _ hQ => w264 _ _ (by simp only [f_mv, f_sV, f_sV', f_s2, f_s3, f_s29, f_s30, f_mr, mr_sR, mv_sV, sV_sV, sR_sR, m2, kV_r, kV_x, kI_r, kI_x, kR_r, kF_r, kD_r, forall_eq, not_true_eq_false, not_false_eq_true, false_implies, true_implies, true_and, and_true, b2i_0, b2i_1, b2i_01, b2i_t, b2i_f, decide_true, decide_false, Bool.not_true, Bool.not_false, i1_0, eq_self, reduceCtorEq, eLits, m_isTh, m_in, in_111 hl, cl_111 hl, m_played, e, hT, hb, hh, hp, m_fails]; exact hQ _))
      | false =>
        have hnp : ¬ mr d 2 3 = 1 := of_decide_eq_false hp
        by_cases hz : nI f = 0 ∧ hasF (mr d 2) t 4 = true
        · exact jq_x I 3 rfl (fun Q hQ => w152 _ _ (by simp only [c_chkT hC, c_range, c_kind hcp hk ht, c_refP hC, c_has hC.2.1 hl, hT, hb, hh, hp, hz.1, hz.2, show inB 0 0 99 = true by decide, kV_r, kV_x, kI_r, kI_x, kR_r, kF_r, kD_r, forall_eq, not_true_eq_false, not_false_eq_true, false_implies, true_implies, true_and, and_true, b2i_0, b2i_1, b2i_01, b2i_t, b2i_f, decide_true, decide_false, Bool.not_true, Bool.not_false, i1_0, eq_self, reduceCtorEq, eLits, cond_true, cond_false]; exact hQ)) (fun d' Q e _ hQ => w264 _ _ (by simp only [f_mv, f_sV, f_sV', f_s2, f_s3, f_s29, f_s30, f_mr, mr_sR, mv_sV, sV_sV, sR_sR, m2, kV_r, kV_x, kI_r, kI_x, kR_r, kF_r, kD_r, forall_eq, not_true_eq_false, not_false_eq_true, false_implies, true_implies, true_and, and_true, b2i_0, b2i_1, b2i_01, b2i_t, b2i_f, decide_true, decide_false, Bool.not_true, Bool.not_false, i1_0, eq_self, reduceCtorEq, eLits, m_isTh, m_in, in_111 hl, cl_111 hl, m_played, m_has hl, e, hT, hb, hh, hp, hz.1, hz.2, show inB 0 0 99 = true by decide, m_fails]; exact hQ _))
        · have h4 : hasF (mr d 2) t 4 = true → f ≠ 0 := fun z y => hz ⟨by rw [y]; rfl, z⟩
          obtain ⟨ok, ld⟩ := Ok_fuel hk hnp ht (show f < 100 by omega) h4
          have w4 : ax_row d 7 0 5 t = mr d 2 (207 + t) := (hC.2.1.1 t hl).2.2.2
          have cc : CC (ax_set d 7 0 5 (upd (ax_row d 7 0 5) t (nI f))) 0 (upd (mr d 2) (207 + t) (nI f)) := by
            have f7 : Fr (sW 0) d (ax_set d 7 0 5 (upd (ax_row d 7 0 5) t (nI f))) := Fr_set (by decide) ⟨rfl, rfl⟩ d 5 _
            exact ⟨Cp_SP (Cp_Fr f7 (fun z => by cases z.1) hC.1) (SP_upd (SP_refl _) (by unfold Pix; omega) _), Cw_u5 hC.2.1 (Pk_D hk.1).2 hl (nI f), ok⟩
          have tail : ∀ d' : ax_D, ∀ Q : ax_P, mr d' 2 = mr d 2 → Q (sR (sV d' 0 0) 2 (upd (mr d 2) (207 + t) (nI f))) (Sum.inl (some (Sum.inl (mr d 2 (207 + t))))) → h264_80 (nI t) (nI f) (sV d' 0 0) Q := fun d' Q e hQ => w264_80 _ _ (by
            simp only [f_mv, f_sV, f_sV', f_s2, f_s3, f_s29, f_s30, f_mr, mr_sR, mv_sV, sV_sV, sR_sR, m2, kV_r, kV_x, kI_r, kI_x, kR_r, kF_r, kD_r, forall_eq, not_true_eq_false, not_false_eq_true, false_implies, true_implies, true_and, and_true, b2i_0, b2i_1, b2i_01, b2i_t, b2i_f, decide_true, decide_false, Bool.not_true, Bool.not_false, i1_0, eq_self, reduceCtorEq, eLits, in_207 hl, cl_207 hl, e]
            exact hQ)
          refine jq_s I hnp (s' := upd (mr d 2) (207 + t) (nI f)) (by rw [upd_n (by omega)]; exact hnp) (by rw [ld]; exact hL) (mr d 2 (207 + t)) (fun Q hQ => w152 _ _ ?_) (fun d' Q e hQ => w264 _ _ ?_)
          · simp only [c_chkT hC, c_range, c_kind hcp hk ht, c_refP hC, c_has hC.2.1 hl, hT, hb, hh, hp, kV_r, kV_x, kI_r, kI_x, kR_r, kF_r, kD_r, forall_eq, not_true_eq_false, not_false_eq_true, false_implies, true_implies, true_and, and_true, b2i_0, b2i_1, b2i_01, b2i_t, b2i_f, decide_true, decide_false, Bool.not_true, Bool.not_false, i1_0, eq_self, reduceCtorEq, eLits, cond_true, cond_false, ci, cl, w4]
            by_cases hf0 : nI f = 0
            · have h4f : hasF (mr d 2) t 4 = false := by
                cases h : hasF (mr d 2) t 4 with
                | false => rfl
                | true => exact absurd ⟨hf0, h⟩ hz
              exact ⟨fun _ => ⟨fun _ => hQ _ (Fr7 d rfl) cc, fun z => absurd h4f z⟩, fun z => absurd hf0 z⟩
            · exact ⟨fun z => absurd z hf0, fun _ => hQ _ (Fr7 d rfl) cc⟩
          · simp only [f_mv, f_sV, f_sV', f_s2, f_s3, f_s29, f_s30, f_mr, mr_sR, mv_sV, sV_sV, sR_sR, m2, kV_r, kV_x, kI_r, kI_x, kR_r, kF_r, kD_r, forall_eq, not_true_eq_false, not_false_eq_true, false_implies, true_implies, true_and, and_true, b2i_0, b2i_1, b2i_01, b2i_t, b2i_f, decide_true, decide_false, Bool.not_true, Bool.not_false, i1_0, eq_self, reduceCtorEq, eLits, m_isTh, m_in, in_111 hl, cl_111 hl, m_played, m_has hl, e, hT, hb, hh, hp]
            by_cases hf0 : nI f = 0
            · have h4f : hasF (mr d 2) t 4 = false := by
                cases h : hasF (mr d 2) t 4 with
                | false => rfl
                | true => exact absurd ⟨hf0, h⟩ hz
              exact ⟨fun _ => ⟨fun _ => tail d' Q e hQ, fun z => absurd h4f z⟩, fun z => absurd hf0 z⟩
            · exact ⟨fun z => absurd z hf0, fun _ => tail d' Q e hQ⟩
/-- which kinds can have which flags -/
def canF (s : Row) (t : Nat) (f : Int32) : Bool := cond (decide (f = 0)) (decide (s (111 + t) < 3)) (cond (decide (f = 1)) (isLock s t) (cond (decide (f = 2)) (isLock s t) (cond (decide (f = 3)) (decide (s (111 + t) = 1)) (decide (s (111 + t) = 3)))))
theorem kind5 {s : Row} (h : Ok s) {t : Nat} (ht : t < nT s) : s (111 + t) = 0 ∨ s (111 + t) = 1 ∨ s (111 + t) = 2 ∨ s (111 + t) = 3 ∨ s (111 + t) = 4 := by
  obtain ⟨⟨k, hk, e⟩, -⟩ := h.1.2.2.1 t ht
  rw [e]
  rcases (by omega : k = 0 ∨ k = 1 ∨ k = 2 ∨ k = 3 ∨ k = 4) with z | z | z | z | z <;> subst z
  · exact Or.inl rfl
  · exact Or.inr (Or.inl rfl)
  · exact Or.inr (Or.inr (Or.inl rfl))
  · exact Or.inr (Or.inr (Or.inr (Or.inl rfl)))
  · exact Or.inr (Or.inr (Or.inr (Or.inr rfl)))
theorem c_canF {s : Row} (hC : CC d 0 s) {t : Nat} (ht : t < nT s) {f : Int32} (hf : inB f 0 4 = true) (Q : ax_P) : CT 150 [ax_vR 3 0 0, Sum.inl (nI t), Sum.inl f] d Q ↔ Q d (Sum.inl (some (Sum.inl (b2i (canF s t f))))) := by
  have hcp : Cp d 0 s := hC.1
  have hk := hC.2.2
  refine ct_iff (w150 _ _ _ ?_) Q
  simp only [c_hold hcp hk ht, c_lock hcp hk ht, c_kind hcp hk ht]
  rcases in5 hf with e | e | e | e | e <;> subst e
  · simp only [kV_r, kV_x, kI_r, kI_x, kR_r, kF_r, kD_r, forall_eq, not_true_eq_false, not_false_eq_true, false_implies, true_implies, true_and, and_true, b2i_0, b2i_1, b2i_01, b2i_t, b2i_f, decide_true, decide_false, Bool.not_true, Bool.not_false, i1_0, eq_self, reduceCtorEq, eLits, c_kind hcp hk ht]
    unfold canF isHold
    rcases kind5 hk ht with e | e | e | e | e <;> rw [e] <;> simp [b2i] <;> decide
  · simp only [kV_r, kV_x, kI_r, kI_x, kR_r, kF_r, kD_r, forall_eq, not_true_eq_false, not_false_eq_true, false_implies, true_implies, true_and, and_true, b2i_0, b2i_1, b2i_01, b2i_t, b2i_f, decide_true, decide_false, Bool.not_true, Bool.not_false, i1_0, eq_self, reduceCtorEq, eLits]
    refine ⟨bf_or _, ?_⟩
    unfold canF; rfl
  · simp only [kV_r, kV_x, kI_r, kI_x, kR_r, kF_r, kD_r, forall_eq, not_true_eq_false, not_false_eq_true, false_implies, true_implies, true_and, and_true, b2i_0, b2i_1, b2i_01, b2i_t, b2i_f, decide_true, decide_false, Bool.not_true, Bool.not_false, i1_0, eq_self, reduceCtorEq, eLits]
    refine ⟨bf_or _, ?_⟩
    unfold canF; rfl
  · simp only [kV_r, kV_x, kI_r, kI_x, kR_r, kF_r, kD_r, forall_eq, not_true_eq_false, not_false_eq_true, false_implies, true_implies, true_and, and_true, b2i_0, b2i_1, b2i_01, b2i_t, b2i_f, decide_true, decide_false, Bool.not_true, Bool.not_false, i1_0, eq_self, reduceCtorEq, eLits]
    unfold canF
    by_cases h : s (111 + t) = 1 <;> simp [h, b2i]
  · simp only [kV_r, kV_x, kI_r, kI_x, kR_r, kF_r, kD_r, forall_eq, not_true_eq_false, not_false_eq_true, false_implies, true_implies, true_and, and_true, b2i_0, b2i_1, b2i_01, b2i_t, b2i_f, decide_true, decide_false, Bool.not_true, Bool.not_false, i1_0, eq_self, reduceCtorEq, eLits]
    unfold canF
    by_cases h : s (111 + t) = 3 <;> simp [h, b2i]
theorem m_canF {d' : ax_D} {s : Row} (hs : mr d' 2 = s) (hk : Ok s) {t : Nat} (ht : t < nT s) {f : Int32} (hf : inB f 0 4 = true) (Q : ax_P) : CT 254 [ax_vR 9 0 0, Sum.inl (nI t), Sum.inl f] d' Q ↔ Q d' (Sum.inl (some (Sum.inl (b2i (canF s t f))))) := by
  have hl := Ok_lt hk ht
  refine ct_iff (w254 _ _ ?_) Q
  simp only [f_mv, f_sV, f_sV', f_s2, f_s3, f_s29, f_s30, f_mr, mr_sR, mv_sV, sV_sV, sR_sR, m2, in_111 hl, cl_111 hl, m_lock hl, hs]
  refine ⟨trivial, ?_⟩
  rcases in5 hf with e | e | e | e | e <;> subst e
  · simp only [kV_r, kV_x, kI_r, kI_x, kR_r, kF_r, kD_r, forall_eq, not_true_eq_false, not_false_eq_true, false_implies, true_implies, true_and, and_true, b2i_0, b2i_1, b2i_01, b2i_t, b2i_f, decide_true, decide_false, Bool.not_true, Bool.not_false, i1_0, eq_self, reduceCtorEq, eLits]
    unfold canF
    rcases kind5 hk ht with e | e | e | e | e <;> rw [e] <;> simp [b2i] <;> decide
  · simp only [kV_r, kV_x, kI_r, kI_x, kR_r, kF_r, kD_r, forall_eq, not_true_eq_false, not_false_eq_true, false_implies, true_implies, true_and, and_true, b2i_0, b2i_1, b2i_01, b2i_t, b2i_f, decide_true, decide_false, Bool.not_true, Bool.not_false, i1_0, eq_self, reduceCtorEq, eLits]
    refine ⟨bf_or _, ?_⟩
    unfold canF; rfl
  · simp only [kV_r, kV_x, kI_r, kI_x, kR_r, kF_r, kD_r, forall_eq, not_true_eq_false, not_false_eq_true, false_implies, true_implies, true_and, and_true, b2i_0, b2i_1, b2i_01, b2i_t, b2i_f, decide_true, decide_false, Bool.not_true, Bool.not_false, i1_0, eq_self, reduceCtorEq, eLits]
    refine ⟨bf_or _, ?_⟩
    unfold canF; rfl
  · simp only [kV_r, kV_x, kI_r, kI_x, kR_r, kF_r, kD_r, forall_eq, not_true_eq_false, not_false_eq_true, false_implies, true_implies, true_and, and_true, b2i_0, b2i_1, b2i_01, b2i_t, b2i_f, decide_true, decide_false, Bool.not_true, Bool.not_false, i1_0, eq_self, reduceCtorEq, eLits]
    unfold canF
    by_cases h : s (111 + t) = 1 <;> simp [h, b2i]
  · simp only [kV_r, kV_x, kI_r, kI_x, kR_r, kF_r, kD_r, forall_eq, not_true_eq_false, not_false_eq_true, false_implies, true_implies, true_and, and_true, b2i_0, b2i_1, b2i_01, b2i_t, b2i_f, decide_true, decide_false, Bool.not_true, Bool.not_false, i1_0, eq_self, reduceCtorEq, eLits]
    unfold canF
    by_cases h : s (111 + t) = 3 <;> simp [h, b2i]
end SO2
