/-! addRoom, addThing, addDaemon -/
def rmS (s : Row) (r : Nat) (on : Bool) : Nat → Row
  | 0 => upd (upd s 0 (nI (r + 1))) (7 + r) (b2i on)
  | k + 1 => upd (upd (rmS s r on k) (15 + (6 * r + k)) (-1)) (63 + (6 * r + k)) (-1)
theorem rmS_in {s : Row} {r : Nat} {on : Bool} : ∀ {i k : Nat}, k < i → r < 8 → i ≤ 6 → rmS s r on i (15 + (6 * r + k)) = -1 ∧ rmS s r on i (63 + (6 * r + k)) = -1 := by
  intro i
  induction i with
  | zero => intro k hk; omega
  | succ i ih =>
    intro k hk hr hi
    unfold rmS
    by_cases e : k = i
    · rw [e]
      exact ⟨by rw [upd_n (by omega), upd_s], by rw [upd_s]⟩
    · rw [upd_n (by omega), upd_n (by omega), upd_n (by omega), upd_n (by omega)]
      exact ih (by omega) hr (by omega)
theorem rmS_out {s : Row} {r : Nat} {on : Bool} {j : Nat} (h0 : j ≠ 0) (h7 : j ≠ 7 + r) : ∀ {i : Nat}, i ≤ 6 → (∀ k, k < 6 → j ≠ 15 + (6 * r + k) ∧ j ≠ 63 + (6 * r + k)) → rmS s r on i j = s j := by
  intro i
  induction i with
  | zero => intro _ _; unfold rmS; rw [upd_n h7, upd_n h0]
  | succ i ih =>
    intro hi hj
    have := hj i (by omega)
    unfold rmS
    rw [upd_n this.2, upd_n this.1]
    exact ih (by omega) hj
theorem rmS_0 {s : Row} {r : Nat} {on : Bool} : ∀ i, rmS s r on i 0 = nI (r + 1) := by
  intro i
  induction i with
  | zero => unfold rmS; rw [upd_n (by omega), upd_s]
  | succ i ih => unfold rmS; rw [upd_n (by omega), upd_n (by omega)]; exact ih
section AD
variable {d : ax_D} {n : Nat}
theorem j_addRoom (I : INV d n) (on : Int32) : JN [0] 16 205 [on] d n := by
  have hC := I.1
  have hL := I.2.1
  have hk := hC.2.2
  have hcp : Cp d 0 (mr d 2) := hC.1
  have hR := Pk_R hk.1
  cases hp : plays (mr d 2) with
  | true => exact jq_x I 0 rfl (fun Q hQ => w16 _ (by simp only [c_refP hC, hp, kV_r, kV_x, kI_r, kI_x, kR_r, kF_r, kD_r, forall_eq, not_true_eq_false, not_false_eq_true, false_implies, true_implies, true_and, and_true, b2i_0, b2i_1, b2i_01, b2i_t, b2i_f, decide_true, decide_false, Bool.not_true, Bool.not_false, i1_0, eq_self, reduceCtorEq, eLits, cond_true]; exact hQ)) (fun d' Q e _ hQ => w205 _ (by simp only [f_mv, f_sV, f_sV', f_s2, f_s3, f_s29, f_s30, f_mr, mr_sR, mv_sV, sV_sV, sR_sR, m2, kV_r, kV_x, kI_r, kI_x, kR_r, kF_r, kD_r, forall_eq, not_true_eq_false, not_false_eq_true, false_implies, true_implies, true_and, and_true, b2i_0, b2i_1, b2i_01, b2i_t, b2i_f, decide_true, decide_false, Bool.not_true, Bool.not_false, i1_0, eq_self, reduceCtorEq, eLits, m_played, e, hp, m_fails]; exact hQ _))
  | false =>
    have hnp : ¬ mr d 2 3 = 1 := of_decide_eq_false hp
    have r0 : ax_row d 3 0 0 0 = nI (nR (mr d 2)) := hcp.1.1.trans hR.1
    by_cases h8 : nR (mr d 2) = 8
    · exact jq_x I 0 rfl (fun Q hQ => w16 _ (by
        simp only [c_refP hC, hp, kV_r, kV_x, kI_r, kI_x, kR_r, kF_r, kD_r, forall_eq, not_true_eq_false, not_false_eq_true, false_implies, true_implies, true_and, and_true, b2i_0, b2i_1, b2i_01, b2i_t, b2i_f, decide_true, decide_false, Bool.not_true, Bool.not_false, i1_0, eq_self, reduceCtorEq, eLits, cond_false]
        refine w15 _ _ ?_
        rw [r0, h8]
        refine ⟨fun z => absurd z (by decide), fun _ => ?_⟩
        simp only [kV_r, kV_x, kI_r, kI_x, kR_r, kF_r, kD_r, forall_eq, not_true_eq_false, not_false_eq_true, false_implies, true_implies, true_and, and_true, b2i_0, b2i_1, b2i_01, b2i_t, b2i_f, decide_true, decide_false, Bool.not_true, Bool.not_false, i1_0, eq_self, reduceCtorEq, eLits]
        exact hQ)) (fun d' Q e _ hQ => w205 _ (by simp only [f_mv, f_sV, f_sV', f_s2, f_s3, f_s29, f_s30, f_mr, mr_sR, mv_sV, sV_sV, sR_sR, m2, kV_r, kV_x, kI_r, kI_x, kR_r, kF_r, kD_r, forall_eq, not_true_eq_false, not_false_eq_true, false_implies, true_implies, true_and, and_true, b2i_0, b2i_1, b2i_01, b2i_t, b2i_f, decide_true, decide_false, Bool.not_true, Bool.not_false, i1_0, eq_self, reduceCtorEq, eLits, m_played, e, hp, hR.1, h8, show (nI 8 = (8 : Int32)) = True from eq_true rfl, m_fails]; exact hQ _))
    · obtain ⟨R, hRR⟩ : ∃ R, nR (mr d 2) = R := ⟨_, rfl⟩
      rw [hRR] at r0 h8
      have hR8 : R < 8 := by omega
      have s0 : mr d 2 0 = nI R := by rw [hR.1, hRR]
      have lt8 : nI R < 8 := nI_lt (b := 8) hR8 (by omega)
      have ne8 : ¬ nI R = 8 := fun z => by have := (nI_eq (by omega) (by omega)).mp (show nI R = nI 8 from z); omega
      -- the new row is good
      have nRs : nR (rmS (mr d 2) R (!decide (on = 0)) 6) = R + 1 := by unfold nR; rw [rmS_0, nI_clamp (by omega)]
      have out : ∀ j, j ≠ 0 → ¬ (7 ≤ j ∧ j < 111) → rmS (mr d 2) R (!decide (on = 0)) 6 j = mr d 2 j := fun j h0 h1 => rmS_out h0 (by omega) (Nat.le_refl _) (fun k hk => by omega)
      have nDs : nD (rmS (mr d 2) R (!decide (on = 0)) 6) = nD (mr d 2) := by unfold nD; rw [out 2 (by omega) (by omega)]
      obtain ⟨ok, ld⟩ := Ok_pl (s' := rmS (mr d 2) R (!decide (on = 0)) 6) hk (fun i hi => out i (by omega) (by omega)) hnp (by rw [nRs, rmS_0]; exact ⟨rfl, by omega, by omega⟩) (by rw [nDs, out 2 (by omega) (by omega)]; exact Pk_D hk.1) (by
        rw [nRs]
        intro q hq i hi
        by_cases z : q = R
        · rw [z]
          obtain ⟨a, b⟩ := rmS_in (s := mr d 2) (r := R) (on := !decide (on = 0)) (i := 6) (k := i) hi hR8 (Nat.le_refl _)
          exact ⟨Or.inl a, Or.inl b⟩
        · have a : rmS (mr d 2) R (!decide (on = 0)) 6 (15 + (6 * q + i)) = mr d 2 (15 + (6 * q + i)) := rmS_out (by omega) (by omega) (Nat.le_refl _) (fun k hk => by omega)
          have b : rmS (mr d 2) R (!decide (on = 0)) 6 (63 + (6 * q + i)) = mr d 2 (63 + (6 * q + i)) := rmS_out (by omega) (by omega) (Nat.le_refl _) (fun k hk => by omega)
          rw [a, b]
          obtain ⟨u1, u2⟩ := hk.1.2.1 q (by omega) i hi
          exact ⟨u1.imp (fun z => z) (fun ⟨y, y1, y2⟩ => ⟨y, by omega, y2⟩), u2⟩) (by
        rw [nDs]
        intro i hi
        have := (Pk_D hk.1).2
        rw [out _ (by omega) (by omega), out _ (by omega) (by omega)]
        exact hk.1.2.2.2.1 i hi) (fun u h1 h2 => by
        rw [out _ (by omega) (by omega), out _ (by omega) (by omega)]
        exact hk.1.2.2.2.2 u h1 h2)
      have o3 : rmS (mr d 2) R (!decide (on = 0)) 6 3 = mr d 2 3 := out 3 (by omega) (by omega)
      refine jq_s I hnp (s' := rmS (mr d 2) R (!decide (on = 0)) 6) (by rw [o3]; exact hnp) (by rw [ld]; exact hL) (nI R) (fun Q hQ => w16 _ ?_) (fun d' Q e hQ => w205 _ (fun d1 e1 => (m_played _ _).mpr ?_))
      · simp only [c_refP hC, hp, kV_r, cond_false]
        refine w15 _ _ ?_
        rw [r0]
        refine ⟨fun _ d1 e1 => (c_with _ _ _ d1 _).mpr (fun d4 e4 => ?_), fun z => absurd lt8 z⟩
        rw [show nI R + 1 = nI (R + 1) from nI_add R 1] at e1
        have c1 : Cp d1 0 (upd (mr d 2) 0 (nI (R + 1))) := Cp_num hcp (by decide) _ e1
        have c4 : Cp d4 0 (rmS (mr d 2) R (!decide (on = 0)) 0) := Cp_light c1 hR8 _ e4
        have f4 : Fr (fun k i => k = 3 ∧ i = 0) d d4 := Fr_trans (b := d1) (by rw [e1]; exact Fr_set (by decide) ⟨rfl, rfl⟩ d 0 _) (by rw [e4]; exact Fr_set (by decide) ⟨rfl, rfl⟩ d1 0 _)
        have key := lp_up (fun i => ∀ x, Fr (fun k i => k = 3 ∧ i = 0) d x → Cp x 0 (rmS (mr d 2) R (!decide (on = 0)) i) → h15_41 0 on (nI R) (nI i) x (kI (fun x3 d2 => ((x3 = (-1)) → Q d2 (Sum.inr 0)) ∧ (¬ (x3 = (-1)) → Q d2 (Sum.inl (some (Sum.inl x3))))) (fun E d => Q d (Sum.inr E)))) 6 ?_ ?_ 0 (Nat.zero_le _)
        · exact key d4 f4 c4
        · intro x fx cx
          refine w15_41 _ _ _ _ ⟨fun _ => ⟨fun z => absurd z (nI_nm (by omega)), fun _ => hQ x (Fr_mono fx (fun k i z => Or.inl z)) ⟨cx, Cw_Fr fx (fun z => by cases z.1) (Cw_pl hC.2.1 hnp (by rw [o3]; exact hnp) (fun k hk => out k (by omega) (by omega))), ok⟩⟩, fun z => absurd (by decide) z⟩
        · intro i hi ih x fx cx
          refine w15_41 _ _ _ _ ⟨fun z => absurd z (nI_ge (b := 6) hi (by omega)), fun _ => c_lead cx (R := R + 1) (r := R) (k := i) (rmS_0 i) (by omega) (by omega) hi _ _ _ (fun y fy cy => ?_)⟩
          rw [show nI i + 1 = nI (i + 1) from nI_add i 1]
          exact ih y (Fr_trans fx fy) cy
      · have q1 : d1 = sV d' 0 0 := e1
        subst q1
        rw [m2, e, hp, kI_r]
        have s0' : ax_row (sV d' 0 0) 9 0 2 0 = nI R := (congrFun ((m2 d' 0 0).trans e) 0).trans s0
        rw [s0']
        have key := lp_up (fun i => h205_66 on (nI R) (nI i) (sR (sV d' 0 0) 2 (rmS (mr d 2) R (!decide (on = 0)) i)) Q) 6 ?_ ?_ 0 (Nat.zero_le _)
        · have x1 : ∀ v, sR (sR (sV d' 0 0) 2 (upd (mr (sV d' 0 0) 2) 0 (nI R + 1))) 2 (upd (mr (sR (sV d' 0 0) 2 (upd (mr (sV d' 0 0) 2) 0 (nI R + 1))) 2) (7 + R) v) = sR (sV d' 0 0) 2 (upd (upd (mr d 2) 0 (nI (R + 1))) (7 + R) v) := fun v => by rw [mr_sR, sR_sR, m2, e, show nI R + 1 = nI (R + 1) from nI_add R 1]
          refine ⟨fun _ => ⟨fun z => absurd z ne8, fun _ d6 e6 => ⟨fun z => ⟨in_7 hR8, fun d7 e7 => ?_⟩, fun z => ⟨in_7 hR8, fun d8 e8 => ?_⟩⟩⟩, fun z => absurd rfl z⟩
          · rw [cl_7 hR8] at e7
            have q7 : d7 = sR (sR (sV d' 0 0) 2 (upd (mr (sV d' 0 0) 2) 0 (nI R + 1))) 2 (upd (mr (sR (sV d' 0 0) 2 (upd (mr (sV d' 0 0) 2) 0 (nI R + 1))) 2) (7 + R) 0) := by rw [e7, e6]; rfl
            rw [q7, x1]
            have : rmS (mr d 2) R (!decide (on = 0)) 0 = upd (upd (mr d 2) 0 (nI (R + 1))) (7 + R) 0 := by unfold rmS; rw [decide_eq_true z]; rfl
            rw [← this]
            exact key
          · rw [cl_7 hR8] at e8
            have q8 : d8 = sR (sR (sV d' 0 0) 2 (upd (mr (sV d' 0 0) 2) 0 (nI R + 1))) 2 (upd (mr (sR (sV d' 0 0) 2 (upd (mr (sV d' 0 0) 2) 0 (nI R + 1))) 2) (7 + R) 1) := by rw [e8, e6]; rfl
            rw [q8, x1]
            have : rmS (mr d 2) R (!decide (on = 0)) 0 = upd (upd (mr d 2) 0 (nI (R + 1))) (7 + R) 1 := by unfold rmS; rw [decide_eq_false z]; rfl
            rw [← this]
            exact key
        · exact w205_66 _ _ _ ⟨fun _ => hQ, fun z => absurd (by decide) z⟩
        · intro i hi ih
          refine w205_66 _ _ _ ⟨fun z => absurd z (nI_ge (b := 6) hi (by omega)), fun _ => ?_⟩
          rw [e15, e63, nI_clamp (by omega), nI_clamp (by omega)]
          refine ⟨ax_in_nI (by omega) (by omega), fun d1 e1 => ⟨ax_in_nI (by omega) (by omega), fun d2 e2 => ?_⟩⟩
          have q1 : d1 = sR (sR (sV d' 0 0) 2 (rmS (mr d 2) R (!decide (on = 0)) i)) 2 (upd (mr (sR (sV d' 0 0) 2 (rmS (mr d 2) R (!decide (on = 0)) i)) 2) (15 + (6 * R + i)) (-1)) := e1
          rw [mr_sR, sR_sR] at q1
          have q2 : d2 = sR d1 2 (upd (mr d1 2) (63 + (6 * R + i)) (-1)) := e2
          rw [q1, mr_sR, sR_sR] at q2
          rw [q2, show nI i + 1 = nI (i + 1) from nI_add i 1]
          exact ih
theorem inT {x : Int32} {a b : Nat} (h : inB x (nI a) (nI b) = true) (ha : a < 100) (hb : b < 100) : ∃ k, a ≤ k ∧ k ≤ b ∧ x = nI k := by
  obtain ⟨k, h1, h2, h3⟩ := inB_ex h (by omega) (by omega)
  exact ⟨k, h1, h2, h3⟩
/-- a daemon's kind and its thing -/
theorem c_serve {s : Row} (hC : CC d 0 s) {t : Nat} (ht : t < nT s) (f : Int32) (Q : ax_P) : CT 9 [ax_vR 3 0 0, Sum.inl (nI t), Sum.inl f] d Q ↔ Q d (Sum.inl (some (Sum.inl (b2i (isDk f (s (111 + t))))))) := by
  have hcp : Cp d 0 s := hC.1
  have hk := hC.2.2
  refine ct_iff (w9 _ _ _ ?_) Q
  simp only [c_lock hcp hk ht, c_kind hcp hk ht]
  simp only [kV_r, kV_x, kI_r, kI_x, kR_r, kF_r, kD_r, forall_eq, not_true_eq_false, not_false_eq_true, false_implies, true_implies, true_and, and_true, b2i_0, b2i_1, b2i_01, b2i_t, b2i_f, decide_true, decide_false, Bool.not_true, Bool.not_false, i1_0, eq_self, reduceCtorEq, eLits]
  unfold isDk isLock
  by_cases h0 : f = 0 <;> by_cases h1 : f = 1 <;> by_cases h2 : f = 2 <;> by_cases g1 : s (111 + t) = 1 <;> by_cases g2 : s (111 + t) = 4 <;> by_cases g3 : s (111 + t) = 3 <;> simp_all [b2i]
/-- the row with one daemon more -/
def dmS (s : Row) (i : Nat) (k t p : Int32) (on : Bool) : Row := upd (upd (upd (upd (upd s 2 (nI (i + 1))) (287 + i) k) (293 + i) t) (299 + i) p) (305 + i) (b2i on)
theorem dmS_out {s : Row} {i : Nat} {k t p : Int32} {on : Bool} {j : Nat} (h2 : j ≠ 2) (h : j ≠ 287 + i ∧ j ≠ 293 + i ∧ j ≠ 299 + i ∧ j ≠ 305 + i) : dmS s i k t p on j = s j := by
  unfold dmS
  rw [upd_n h.2.2.2, upd_n h.2.2.1, upd_n h.2.1, upd_n h.1, upd_n h2]
theorem j_addDaemon (I : INV d n) (kd x pd on : Int32) : JN [2, 1, 3, 0] 12 204 [kd, x, pd, on] d n := by
  have hC := I.1
  have hL := I.2.1
  have hk := hC.2.2
  have hcp : Cp d 0 (mr d 2) := hC.1
  have hD := Pk_D hk.1
  cases hT : isTh (mr d 2) x with
  | false => exact jq_x I 0 rfl (fun Q hQ => w12 _ _ _ _ (by simp only [c_chkT hC, hT, kV_r, kV_x, kI_r, kI_x, kR_r, kF_r, kD_r, forall_eq, not_true_eq_false, not_false_eq_true, false_implies, true_implies, true_and, and_true, b2i_0, b2i_1, b2i_01, b2i_t, b2i_f, decide_true, decide_false, Bool.not_true, Bool.not_false, i1_0, eq_self, reduceCtorEq, eLits, cond_false]; exact hQ)) (fun d' Q e _ hQ => w204 _ _ _ _ (by simp only [f_mv, f_sV, f_sV', f_s2, f_s3, f_s29, f_s30, f_mr, mr_sR, mv_sV, sV_sV, sR_sR, m2, kV_r, kV_x, kI_r, kI_x, kR_r, kF_r, kD_r, forall_eq, not_true_eq_false, not_false_eq_true, false_implies, true_implies, true_and, and_true, b2i_0, b2i_1, b2i_01, b2i_t, b2i_f, decide_true, decide_false, Bool.not_true, Bool.not_false, i1_0, eq_self, reduceCtorEq, eLits, m_isTh, e, hT, m_fails]; exact hQ _))
  | true =>
    cases hb : inB kd 0 3 with
    | false => exact jq_x I 1 rfl (fun Q hQ => w12 _ _ _ _ (by simp only [c_chkT hC, c_range, hT, hb, kV_r, kV_x, kI_r, kI_x, kR_r, kF_r, kD_r, forall_eq, not_true_eq_false, not_false_eq_true, false_implies, true_implies, true_and, and_true, b2i_0, b2i_1, b2i_01, b2i_t, b2i_f, decide_true, decide_false, Bool.not_true, Bool.not_false, i1_0, eq_self, reduceCtorEq, eLits, cond_true, cond_false]; exact hQ)) (fun d' Q e _ hQ => w204 _ _ _ _ (by simp only [f_mv, f_sV, f_sV', f_s2, f_s3, f_s29, f_s30, f_mr, mr_sR, mv_sV, sV_sV, sR_sR, m2, kV_r, kV_x, kI_r, kI_x, kR_r, kF_r, kD_r, forall_eq, not_true_eq_false, not_false_eq_true, false_implies, true_implies, true_and, and_true, b2i_0, b2i_1, b2i_01, b2i_t, b2i_f, decide_true, decide_false, Bool.not_true, Bool.not_false, i1_0, eq_self, reduceCtorEq, eLits, m_isTh, m_in, e, hT, hb, m_fails]; exact hQ _))
    | true =>
      cases hq : inB pd 1 20 with
      | false => exact jq_x I 1 rfl (fun Q hQ => w12 _ _ _ _ (by simp only [c_chkT hC, c_range, hT, hb, hq, kV_r, kV_x, kI_r, kI_x, kR_r, kF_r, kD_r, forall_eq, not_true_eq_false, not_false_eq_true, false_implies, true_implies, true_and, and_true, b2i_0, b2i_1, b2i_01, b2i_t, b2i_f, decide_true, decide_false, Bool.not_true, Bool.not_false, i1_0, eq_self, reduceCtorEq, eLits, cond_true, cond_false]; exact hQ)) (fun d' Q e _ hQ => w204 _ _ _ _ (by simp only [f_mv, f_sV, f_sV', f_s2, f_s3, f_s29, f_s30, f_mr, mr_sR, mv_sV, sV_sV, sR_sR, m2, kV_r, kV_x, kI_r, kI_x, kR_r, kF_r, kD_r, forall_eq, not_true_eq_false, not_false_eq_true, false_implies, true_implies, true_and, and_true, b2i_0, b2i_1, b2i_01, b2i_t, b2i_f, decide_true, decide_false, Bool.not_true, Bool.not_false, i1_0, eq_self, reduceCtorEq, eLits, m_isTh, m_in, e, hT, hb, hq, m_fails]; exact hQ _))
      | true =>
        obtain ⟨t, ht, rfl⟩ := isTh_ex hk hT
        have hl := Ok_lt hk ht
        cases hh : isDk kd (mr d 2 (111 + t)) with
        | false => exact jq_x I 2 rfl (fun Q hQ => w12 _ _ _ _ (by simp only [c_chkT hC, c_range, c_serve hC ht, hT, hb, hq, hh, kV_r, kV_x, kI_r, kI_x, kR_r, kF_r, kD_r, forall_eq, not_true_eq_false, not_false_eq_true, false_implies, true_implies, true_and, and_true, b2i_0, b2i_1, b2i_01, b2i_t, b2i_f, decide_true, decide_false, Bool.not_true, Bool.not_false, i1_0, eq_self, reduceCtorEq, eLits, cond_true]; exact hQ)) (fun d' Q e _ hQ => w204 _ _ _ _ (by simp only [f_mv, f_sV, f_sV', f_s2, f_s3, f_s29, f_s30, f_mr, mr_sR, mv_sV, sV_sV, sR_sR, m2, kV_r, kV_x, kI_r, kI_x, kR_r, kF_r, kD_r, forall_eq, not_true_eq_false, not_false_eq_true, false_implies, true_implies, true_and, and_true, b2i_0, b2i_1, b2i_01, b2i_t, b2i_f, decide_true, decide_false, Bool.not_true, Bool.not_false, i1_0, eq_self, reduceCtorEq, eLits, m_isTh, m_in, m_isDk, in_111 hl, cl_111 hl, e, hT, hb, hq, hh, m_fails]; exact hQ _))
        | true =>
          cases hp : plays (mr d 2) with
          | true => exact jq_x I 3 rfl (fun Q hQ => w12 _ _ _ _ (by simp only [c_chkT hC, c_range, c_serve hC ht, c_refP hC, hT, hb, hq, hh, hp, kV_r, kV_x, kI_r, kI_x, kR_r, kF_r, kD_r, forall_eq, not_true_eq_false, not_false_eq_true, false_implies, true_implies, true_and, and_true, b2i_0, b2i_1, b2i_01, b2i_t, b2i_f, decide_true, decide_false, Bool.not_true, Bool.not_false, i1_0, eq_self, reduceCtorEq, eLits, cond_true]; exact hQ)) (fun d' Q e _ hQ => w204 _ _ _ _ (by simp only [f_mv, f_sV, f_sV', f_s2, f_s3, f_s29, f_s30, f_mr, mr_sR, mv_sV, sV_sV, sR_sR, m2, kV_r, kV_x, kI_r, kI_x, kR_r, kF_r, kD_r, forall_eq, not_true_eq_false, not_false_eq_true, false_implies, true_implies, true_and, and_true, b2i_0, b2i_1, b2i_01, b2i_t, b2i_f, decide_true, decide_false, Bool.not_true, Bool.not_false, i1_0, eq_self, reduceCtorEq, eLits, m_isTh, m_in, m_isDk, m_played, in_111 hl, cl_111 hl, e, hT, hb, hq, hh, hp, m_fails]; exact hQ _))
          | false =>
            have hnp : ¬ mr d 2 3 = 1 := of_decide_eq_false hp
            have r2 : ax_row d 3 0 0 2 = nI (nD (mr d 2)) := hcp.1.2.2.trans hD.1
            by_cases h6 : nD (mr d 2) = 6
            · exact jq_x I 3 rfl (fun Q hQ => w12 _ _ _ _ (by
                simp only [c_chkT hC, c_range, c_serve hC ht, c_refP hC, hT, hb, hq, hh, hp, kV_r, kV_x, kI_r, kI_x, kR_r, kF_r, kD_r, forall_eq, not_true_eq_false, not_false_eq_true, false_implies, true_implies, true_and, and_true, b2i_0, b2i_1, b2i_01, b2i_t, b2i_f, decide_true, decide_false, Bool.not_true, Bool.not_false, i1_0, eq_self, reduceCtorEq, eLits, cond_true, cond_false]
                refine w11 _ _ _ _ _ ?_
                rw [r2, h6]
                refine ⟨fun z => absurd z (by decide), fun _ => ?_⟩
                simp only [kV_r, kV_x, kI_r, kI_x, kR_r, kF_r, kD_r, forall_eq, not_true_eq_false, not_false_eq_true, false_implies, true_implies, true_and, and_true, b2i_0, b2i_1, b2i_01, b2i_t, b2i_f, decide_true, decide_false, Bool.not_true, Bool.not_false, i1_0, eq_self, reduceCtorEq, eLits]
                exact hQ)) (fun d' Q e _ hQ => w204 _ _ _ _ (by simp only [f_mv, f_sV, f_sV', f_s2, f_s3, f_s29, f_s30, f_mr, mr_sR, mv_sV, sV_sV, sR_sR, m2, kV_r, kV_x, kI_r, kI_x, kR_r, kF_r, kD_r, forall_eq, not_true_eq_false, not_false_eq_true, false_implies, true_implies, true_and, and_true, b2i_0, b2i_1, b2i_01, b2i_t, b2i_f, decide_true, decide_false, Bool.not_true, Bool.not_false, i1_0, eq_self, reduceCtorEq, eLits, m_isTh, m_in, m_isDk, m_played, in_111 hl, cl_111 hl, e, hT, hb, hq, hh, hp, hD.1, h6, show (nI 6 = (6 : Int32)) = True from eq_true rfl, m_fails]; exact hQ _))
            · obtain ⟨i, hi⟩ : ∃ i, nD (mr d 2) = i := ⟨_, rfl⟩
              rw [hi] at r2 h6
              have hi6 : i < 6 := by omega
              have s2e : mr d 2 2 = nI i := by rw [hD.1, hi]
              have lt6 : nI i < 6 := nI_lt (b := 6) hi6 (by omega)
              have ne6 : ¬ nI i = 6 := fun z => h6 ((nI_eq (by omega) (by omega)).mp (show nI i = nI 6 from z))
              have ci : ax_in (nI i) 6 = true := ax_in_nI hi6 (by omega)
              have cl : (nI i).toNatClampNeg = i := nI_clamp (by omega)
              obtain ⟨kk, -, hk3, hkd⟩ := inB_ex (a := 0) (b := 3) hb (by omega) (by omega)
              have hks : isDk kd (mr d 2 (111 + t)) = true := hh
              have nDs : nD (dmS (mr d 2) i kd (nI t) pd (!decide (on = 0))) = i + 1 := by
                unfold nD dmS
                rw [upd_n (by omega), upd_n (by omega), upd_n (by omega), upd_n (by omega), upd_s, nI_clamp (by omega)]
              have out : ∀ j, j ≠ 2 → ¬ (287 ≤ j ∧ j < 311) → dmS (mr d 2) i kd (nI t) pd (!decide (on = 0)) j = mr d 2 j := fun j h0 h1 => dmS_out h0 (by omega)
              have nRs : nR (dmS (mr d 2) i kd (nI t) pd (!decide (on = 0))) = nR (mr d 2) := by unfold nR; rw [out 0 (by omega) (by omega)]
              have hR := Pk_R hk.1
              obtain ⟨ok, ld⟩ := Ok_pl (s' := dmS (mr d 2) i kd (nI t) pd (!decide (on = 0))) hk (fun j hj => out j (by omega) (by omega)) hnp (by rw [nRs, out 0 (by omega) (by omega)]; exact ⟨hR.1, hR.2, Nat.le_refl _⟩) (by
                rw [nDs]
                refine ⟨?_, by omega⟩
                unfold dmS
                rw [upd_n (by omega), upd_n (by omega), upd_n (by omega), upd_n (by omega), upd_s]) (by
                rw [nRs]
                intro q hq i' hi'
                rw [out _ (by omega) (by omega), out _ (by omega) (by omega)]
                exact hk.1.2.1 q hq i' hi') (by
                rw [nDs]
                intro j hj
                by_cases z : j = i
                · have a : dmS (mr d 2) i kd (nI t) pd (!decide (on = 0)) (287 + i) = kd := by
                    unfold dmS
                    rw [upd_n (by omega), upd_n (by omega), upd_n (by omega), upd_s]
                  have b : dmS (mr d 2) i kd (nI t) pd (!decide (on = 0)) (293 + i) = nI t := by
                    unfold dmS
                    rw [upd_n (by omega), upd_n (by omega), upd_s]
                  rw [z, a, b]
                  refine ⟨⟨kk, by omega, hkd⟩, t, ht, rfl, fun y => ?_, fun y => ?_⟩
                  · rw [y] at hks; exact of_decide_eq_true hks
                  · rw [y] at hks; exact of_decide_eq_true hks
                · rw [dmS_out (by omega) (by omega), dmS_out (by omega) (by omega)]
                  exact hk.1.2.2.2.1 j (by omega)) (fun u h1 h2 => by
                rw [out _ (by omega) (by omega), out _ (by omega) (by omega)]
                exact hk.1.2.2.2.2 u h1 h2)
              have o3 : dmS (mr d 2) i kd (nI t) pd (!decide (on = 0)) 3 = mr d 2 3 := out 3 (by omega) (by omega)
              refine jq_s I hnp (s' := dmS (mr d 2) i kd (nI t) pd (!decide (on = 0))) (by rw [o3]; exact hnp) (by rw [ld]; exact hL) (nI i) (fun Q hQ => w12 _ _ _ _ ?_) (fun d' Q e hQ => w204 _ _ _ _ ?_)
              · simp only [c_chkT hC, c_range, c_serve hC ht, c_refP hC, hT, hb, hq, hh, hp, kV_r, kV_x, kI_r, kI_x, kR_r, kF_r, kD_r, forall_eq, not_true_eq_false, not_false_eq_true, false_implies, true_implies, true_and, and_true, b2i_0, b2i_1, b2i_01, b2i_t, b2i_f, decide_true, decide_false, Bool.not_true, Bool.not_false, i1_0, eq_self, reduceCtorEq, eLits, cond_true, cond_false]
                refine w11 _ _ _ _ _ ?_
                rw [r2, cl]
                refine ⟨fun _ d1 e1 => ⟨ci, fun d2 e2 => ⟨ci, fun d3 e3 => ⟨ci, fun d4 e4 => (c_with _ _ _ d4 _).mpr (fun d7 e7 => ?_)⟩⟩⟩, fun z => absurd lt6 z⟩
                rw [show nI i + 1 = nI (i + 1) from nI_add i 1] at e1
                have c1 : Cp d1 0 (upd (mr d 2) 2 (nI (i + 1))) := Cp_num hcp (by decide) _ e1
                have c2 := Cp_set c1 (j := 15) (by decide) (by decide) hi6 kd e2
                have c3 := Cp_set c2 (j := 16) (by decide) (by decide) hi6 (nI t) e3
                have c4 := Cp_set c3 (j := 17) (by decide) (by decide) hi6 pd e4
                have c7 : Cp d7 0 (dmS (mr d 2) i kd (nI t) pd (!decide (on = 0))) := Cp_once c4 hi6 _ e7
                have st : ∀ {a b : ax_D} {j : Nat} {g : Row}, b = ax_set a 3 0 j g → Fr (fun k i => k = 3 ∧ i = 0) a b := fun {a b j g} e => by rw [e]; exact Fr_set (by decide) ⟨rfl, rfl⟩ a j g
                have f7 : Fr (fun k i => k = 3 ∧ i = 0) d d7 := Fr_trans (st e1) (Fr_trans (st e2) (Fr_trans (st e3) (Fr_trans (st e4) (st e7))))
                refine ⟨fun z => absurd z (nI_nm (by omega)), fun _ => hQ d7 (Fr_mono f7 (fun k i z => Or.inl z)) ⟨c7, Cw_Fr f7 (fun z => by cases z.1) (Cw_pl hC.2.1 hnp (by rw [o3]; exact hnp) (fun k hk => out k (by omega) (by omega))), ok⟩⟩
              · have eon : ∀ {v : Int32}, v = b2i (!decide (on = 0)) → dmS (mr d 2) i kd (nI t) pd (!decide (on = 0)) = upd (upd (upd (upd (upd (mr d 2) 2 (nI (i + 1))) (287 + i) kd) (293 + i) (nI t)) (299 + i) pd) (305 + i) v := fun {v} h => by rw [h]; rfl
                simp only [f_mv, f_sV, f_sV', f_s2, f_s3, f_s29, f_s30, f_mr, mr_sR, mv_sV, sV_sV, sR_sR, m2, kV_r, kV_x, kI_r, kI_x, kR_r, kF_r, kD_r, forall_eq, not_true_eq_false, not_false_eq_true, false_implies, true_implies, true_and, and_true, b2i_0, b2i_1, b2i_01, b2i_t, b2i_f, decide_true, decide_false, Bool.not_true, Bool.not_false, i1_0, eq_self, reduceCtorEq, eLits, m_isTh, m_in, m_isDk, m_played, in_111 hl, cl_111 hl, e, hT, hb, hq, hh, hp, s2e, ne6, in_287 hi6, cl_287 hi6, in_293 hi6, cl_293 hi6, in_299 hi6, cl_299 hi6, in_305 hi6, cl_305 hi6, nI_1]
                refine ⟨fun z => ?_, fun z => ?_⟩
                · rw [← eon (v := 0) (by rw [decide_eq_true z]; rfl)]; exact hQ
                · rw [← eon (v := 1) (by rw [decide_eq_false z]; rfl)]; exact hQ
end AD
