/-! setFlag, connect -/
def wrF (s : Row) (t : Nat) (f : Int32) : Bool := cond (decide (f = 1)) (hasF s t 2) (cond (decide (f = 2)) (hasF s t 1) (cond (decide (f = 4)) (decide (s (207 + t) = 0)) false))
section SF
variable {d : ax_D} {n : Nat}
theorem m_wrF {d' : ax_D} {s : Row} (hs : mr d' 2 = s) {t : Nat} (hl : t < 16) {f : Int32} (hf : inB f 0 4 = true) (Q : ax_P) : CT 250 [ax_vR 9 0 0, Sum.inl (nI t), Sum.inl f] d' Q ↔ Q d' (Sum.inl (some (Sum.inl (b2i (wrF s t f))))) := by
  refine ct_iff (w250 _ _ ?_) Q
  simp only [f_mv, f_sV, f_sV', f_s2, f_s3, f_s29, f_s30, f_mr, mr_sR, mv_sV, sV_sV, sR_sR, m2, in_207 hl, cl_207 hl, m_has hl, hs]
  rcases in5 hf with e | e | e | e | e <;> subst e
  · simp only [kV_r, kV_x, kI_r, kI_x, kR_r, kF_r, kD_r, forall_eq, not_true_eq_false, not_false_eq_true, false_implies, true_implies, true_and, and_true, b2i_0, b2i_1, b2i_01, b2i_t, b2i_f, decide_true, decide_false, Bool.not_true, Bool.not_false, i1_0, eq_self, reduceCtorEq, eLits]; rfl
  · simp only [kV_r, kV_x, kI_r, kI_x, kR_r, kF_r, kD_r, forall_eq, not_true_eq_false, not_false_eq_true, false_implies, true_implies, true_and, and_true, b2i_0, b2i_1, b2i_01, b2i_t, b2i_f, decide_true, decide_false, Bool.not_true, Bool.not_false, i1_0, eq_self, reduceCtorEq, eLits]
    refine ⟨bf_or _, ?_⟩
    unfold wrF; rfl
  · simp only [kV_r, kV_x, kI_r, kI_x, kR_r, kF_r, kD_r, forall_eq, not_true_eq_false, not_false_eq_true, false_implies, true_implies, true_and, and_true, b2i_0, b2i_1, b2i_01, b2i_t, b2i_f, decide_true, decide_false, Bool.not_true, Bool.not_false, i1_0, eq_self, reduceCtorEq, eLits]
    refine ⟨bf_or _, ?_⟩
    unfold wrF; rfl
  · simp only [kV_r, kV_x, kI_r, kI_x, kR_r, kF_r, kD_r, forall_eq, not_true_eq_false, not_false_eq_true, false_implies, true_implies, true_and, and_true, b2i_0, b2i_1, b2i_01, b2i_t, b2i_f, decide_true, decide_false, Bool.not_true, Bool.not_false, i1_0, eq_self, reduceCtorEq, eLits]; rfl
  · simp only [kV_r, kV_x, kI_r, kI_x, kR_r, kF_r, kD_r, forall_eq, not_true_eq_false, not_false_eq_true, false_implies, true_implies, true_and, and_true, b2i_0, b2i_1, b2i_01, b2i_t, b2i_f, decide_true, decide_false, Bool.not_true, Bool.not_false, i1_0, eq_self, reduceCtorEq, eLits]
    unfold wrF
    by_cases h : s (207 + t) = 0 <;> simp [h, b2i]
theorem b2i_z {b : Bool} : b2i b = 0 ↔ b = false := by cases b <;> simp [b2i]
theorem c_flag0 {s : Row} (hC : CC d 0 s) {t : Nat} (ht : t < nT s) {f : Int32} (hf : inB f 0 4 = true) (on : Int32) (Q : ax_P) (H : ∀ v5 s0 : Int32, (wrF s t f = false → v5 = 0 ∧ s0 = 0) → (wrF s t f = true → ¬ (v5 = 0 ∧ s0 = 0)) → h151_106 (nI t) f on v5 s0 d Q) :
    ((f = 1) → CT 34 [ax_vR 7 0 0, Sum.inl (nI t), Sum.inl 2] d (kI (fun x7 d6 => ((x7 = 0) → h151_64 (nI t) f on d6 Q) ∧ (¬ (x7 = 0) → h151_84 (nI t) f on 1 d6 Q)) (fun E d => Q d (Sum.inr E)))) ∧ (¬ (f = 1) → h151_64 (nI t) f on d Q) := by
  have hl := Ok_lt hC.2.2 ht
  have ci : ax_in (nI t) 16 = true := ax_in_nI hl (by omega)
  have cl : (nI t).toNatClampNeg = t := nI_clamp (by omega)
  have w4 : ax_row d 7 0 5 t = s (207 + t) := (hC.2.1.1 t hl).2.2.2
  have h10 : ¬ (1 : Int32) = 0 := by decide
  have h84 : ∀ s0, (¬ f = 4) → h151_106 (nI t) f on s0 0 d Q → h151_84 (nI t) f on s0 d Q := fun s0 h4 h => w151_84 _ _ _ _ ⟨fun z => absurd z h4, fun _ => h⟩
  rcases in5 hf with e | e | e | e | e <;> subst e
  · refine ⟨fun z => absurd z (by decide), fun _ => w151_64 _ _ _ ⟨fun z => absurd z (by decide), fun _ => h84 0 (by decide) (H 0 0 (fun _ => ⟨rfl, rfl⟩) (fun z => by cases z))⟩⟩
  · refine ⟨fun _ => (c_has hC.2.1 hl 2 _).mpr ⟨fun z => ?_, fun z => ?_⟩, fun z => absurd rfl z⟩
    · exact w151_64 _ _ _ ⟨fun z => absurd z (by decide), fun _ => h84 0 (by decide) (H 0 0 (fun _ => ⟨rfl, rfl⟩) (fun y => by rw [show wrF s t 1 = hasF s t 2 from rfl, b2i_z.mp z] at y; cases y))⟩
    · exact h84 1 (by decide) (H 1 0 (fun y => absurd (b2i_z.mpr y) z) (fun _ y => h10 y.1))
  · refine ⟨fun z => absurd z (by decide), fun _ => w151_64 _ _ _ ⟨fun _ => (c_has hC.2.1 hl 1 _).mpr ⟨fun z => ?_, fun z => ?_⟩, fun z => absurd rfl z⟩⟩
    · exact h84 0 (by decide) (H 0 0 (fun _ => ⟨rfl, rfl⟩) (fun y => by rw [show wrF s t 2 = hasF s t 1 from rfl, b2i_z.mp z] at y; cases y))
    · exact h84 1 (by decide) (H 1 0 (fun y => absurd (b2i_z.mpr y) z) (fun _ y => h10 y.1))
  · refine ⟨fun z => absurd z (by decide), fun _ => w151_64 _ _ _ ⟨fun z => absurd z (by decide), fun _ => h84 0 (by decide) (H 0 0 (fun _ => ⟨rfl, rfl⟩) (fun z => by cases z))⟩⟩
  · refine ⟨fun z => absurd z (by decide), fun _ => w151_64 _ _ _ ⟨fun z => absurd z (by decide), fun _ => w151_84 _ _ _ _ ⟨fun _ => ⟨ci, ?_⟩, fun z => absurd rfl z⟩⟩⟩
    rw [cl, w4]
    have e : wrF s t 4 = decide (s (207 + t) = 0) := rfl
    refine ⟨fun z => H 0 1 (fun y => ?_) (fun _ y => h10 y.2), fun z => H 0 0 (fun _ => ⟨rfl, rfl⟩) (fun y => ?_)⟩
    · rw [e, decide_eq_true z] at y; cases y
    · rw [e, decide_eq_false z] at y; cases y
theorem flOk_of {s : Row} {t f : Nat} {on : Bool} (hf : f ≤ 4) (hc : canF s t (nI f) = true) (hw : on = true → wrF s t (nI f) = false) : FlOk s t f on := by
  refine ⟨by omega, fun h => ?_⟩
  have hw := hw h
  rcases (by omega : f = 0 ∨ f = 1 ∨ f = 2 ∨ f = 3 ∨ f = 4) with e | e | e | e | e <;> subst e
  · exact ⟨fun _ => of_decide_eq_true hc, fun z => by omega, fun z => by omega, fun z => by omega⟩
  · exact ⟨fun z => by omega, fun _ => hc, fun z => by omega, fun z => by omega⟩
  · exact ⟨fun z => by omega, fun z => by omega, fun z => by omega, fun z => by omega⟩
  · exact ⟨fun z => by omega, fun z => by omega, fun _ => of_decide_eq_true hc, fun z => by omega⟩
  · exact ⟨fun z => by omega, fun z => by omega, fun z => by omega, fun _ => ⟨of_decide_eq_true hc, of_decide_eq_false hw⟩⟩
theorem j_setFlag (I : INV d n) (x w on : Int32) : JN [2, 1, 3, 0] 151 263 [x, w, on] d n := by
  have hC := I.1
  have hL := I.2.1
  have hk := hC.2.2
  have hcp : Cp d 0 (mr d 2) := hC.1
  have t80 : ∀ (v1 v2 v3 k : Int32) (d' : ax_D) (Q : ax_P), ¬ k ≤ 0 → (∀ x, Q (sV d' 0 k) (Sum.inl (some (Sum.inl x)))) → h263_80 v1 v2 v3 (sV d' 0 k) Q := fun v1 v2 v3 k d' Q hk hQ => w263_80 _ _ _ ⟨fun z => absurd (by rw [← mv_sV d' 0 k]; exact z) hk, fun _ => hQ 0⟩
  cases hT : isTh (mr d 2) x with
  | false => exact jq_x I 0 rfl (fun Q hQ => w151 _ _ _ (by simp only [c_chkT hC, hT, kV_r, kV_x, kI_r, kI_x, kR_r, kF_r, kD_r, forall_eq, not_true_eq_false, not_false_eq_true, false_implies, true_implies, true_and, and_true, b2i_0, b2i_1, b2i_01, b2i_t, b2i_f, decide_true, decide_false, Bool.not_true, Bool.not_false, i1_0, eq_self, reduceCtorEq, eLits, cond_false]; exact hQ)) (fun d' Q e _ hQ => w263 _ _ _ (by simp only [f_mv, f_sV, f_sV', f_s2, f_s3, f_s29, f_s30, f_mr, mr_sR, mv_sV, sV_sV, sR_sR, m2, kV_r, kV_x, kI_r, kI_x, kR_r, kF_r, kD_r, forall_eq, not_true_eq_false, not_false_eq_true, false_implies, true_implies, true_and, and_true, b2i_0, b2i_1, b2i_01, b2i_t, b2i_f, decide_true, decide_false, Bool.not_true, Bool.not_false, i1_0, eq_self, reduceCtorEq, eLits, m_isTh, e, hT]; exact t80 _ _ _ 1 d' Q (by decide) hQ))
  | true =>
    cases hb : inB w 0 4 with
    | false => exact jq_x I 1 rfl (fun Q hQ => w151 _ _ _ (by simp only [c_chkT hC, c_range, hT, hb, kV_r, kV_x, kI_r, kI_x, kR_r, kF_r, kD_r, forall_eq, not_true_eq_false, not_false_eq_true, false_implies, true_implies, true_and, and_true, b2i_0, b2i_1, b2i_01, b2i_t, b2i_f, decide_true, decide_false, Bool.not_true, Bool.not_false, i1_0, eq_self, reduceCtorEq, eLits, cond_true, cond_false]; exact hQ)) (fun d' Q e _ hQ => w263 _ _ _ (by simp only [f_mv, f_sV, f_sV', f_s2, f_s3, f_s29, f_s30, f_mr, mr_sR, mv_sV, sV_sV, sR_sR, m2, kV_r, kV_x, kI_r, kI_x, kR_r, kF_r, kD_r, forall_eq, not_true_eq_false, not_false_eq_true, false_implies, true_implies, true_and, and_true, b2i_0, b2i_1, b2i_01, b2i_t, b2i_f, decide_true, decide_false, Bool.not_true, Bool.not_false, i1_0, eq_self, reduceCtorEq, eLits, m_isTh, m_in, e, hT, hb]; exact t80 _ _ _ 2 d' Q (by decide) hQ))
    | true =>
      obtain ⟨t, ht, rfl⟩ := isTh_ex hk hT
      have hl := Ok_lt hk ht
      cases hh : canF (mr d 2) t w with
      | false => exact jq_x I 2 rfl (fun Q hQ => w151 _ _ _ (by simp only [c_chkT hC, c_range, c_canF hC ht hb, hT, hb, hh, kV_r, kV_x, kI_r, kI_x, kR_r, kF_r, kD_r, forall_eq, not_true_eq_false, not_false_eq_true, false_implies, true_implies, true_and, and_true, b2i_0, b2i_1, b2i_01, b2i_t, b2i_f, decide_true, decide_false, Bool.not_true, Bool.not_false, i1_0, eq_self, reduceCtorEq, eLits, cond_true]; exact hQ)) (fun d' Q e _ hQ => w263 _ _ _ (by simp only [f_mv, f_sV, f_sV', f_s2, f_s3, f_s29, f_s30, f_mr, mr_sR, mv_sV, sV_sV, sR_sR, m2, kV_r, kV_x, kI_r, kI_x, kR_r, kF_r, kD_r, forall_eq, not_true_eq_false, not_false_eq_true, false_implies, true_implies, true_and, and_true, b2i_0, b2i_1, b2i_01, b2i_t, b2i_f, decide_true, decide_false, Bool.not_true, Bool.not_false, i1_0, eq_self, reduceCtorEq, eLits, m_isTh, m_in, m_canF ((m2 d' 0 0).trans e) hk ht hb, e, hT, hb, hh]; exact t80 _ _ _ 3 d' Q (by decide) hQ))
      | true =>
        cases hp : plays (mr d 2) with
        | true => exact jq_x I 3 rfl (fun Q hQ => w151 _ _ _ (by simp only [c_chkT hC, c_range, c_canF hC ht hb, c_refP hC, hT, hb, hh, hp, kV_r, kV_x, kI_r, kI_x, kR_r, kF_r, kD_r, forall_eq, not_true_eq_false, not_false_eq_true, false_implies, true_implies, true_and, and_true, b2i_0, b2i_1, b2i_01, b2i_t, b2i_f, decide_true, decide_false, Bool.not_true, Bool.not_false, i1_0, eq_self, reduceCtorEq, eLits, cond_true]; exact hQ)) (fun d' Q e _ hQ => w263 _ _ _ (by simp only [f_mv, f_sV, f_sV', f_s2, f_s3, f_s29, f_s30, f_mr, mr_sR, mv_sV, sV_sV, sR_sR, m2, kV_r, kV_x, kI_r, kI_x, kR_r, kF_r, kD_r, forall_eq, not_true_eq_false, not_false_eq_true, false_implies, true_implies, true_and, and_true, b2i_0, b2i_1, b2i_01, b2i_t, b2i_f, decide_true, decide_false, Bool.not_true, Bool.not_false, i1_0, eq_self, reduceCtorEq, eLits, m_isTh, m_in, m_canF ((m2 d' 0 0).trans e) hk ht hb, m_played, e, hT, hb, hh, hp]; exact t80 _ _ _ 4 d' Q (by decide) hQ))
        | false =>
          have hnp : ¬ mr d 2 3 = 1 := of_decide_eq_false hp
          have gc : ∀ Q : ax_P, (∀ v5 s0 : Int32, (wrF (mr d 2) t w = false → v5 = 0 ∧ s0 = 0) → (wrF (mr d 2) t w = true → ¬ (v5 = 0 ∧ s0 = 0)) → h151_106 (nI t) w on v5 s0 d Q) → CT 151 [ax_vR 8 0 0, Sum.inl (nI t), Sum.inl w, Sum.inl on] d Q := fun Q H => w151 _ _ _ (by
            simp only [c_chkT hC, c_range, c_canF hC ht hb, c_refP hC, hT, hb, hh, hp, kV_r, kI_r, cond_true, cond_false]
            exact ⟨fun z => absurd z (by decide), fun _ => c_flag0 hC ht hb on Q H⟩)
          by_cases hbad : ¬ on = 0 ∧ wrF (mr d 2) t w = true
          · refine jq_x I 3 rfl (fun Q hQ => gc Q (fun v5 s0 _ h => w151_106 _ _ _ _ _ ⟨fun z => absurd z hbad.1, fun _ => ⟨fun z5 => ⟨fun z0 => absurd ⟨z5, z0⟩ (h hbad.2), fun _ => hQ⟩, fun _ => hQ⟩⟩)) (fun d' Q e _ hQ => w263 _ _ _ ?_)
            simp only [f_mv, f_sV, f_sV', f_s2, f_s3, f_s29, f_s30, f_mr, mr_sR, mv_sV, sV_sV, sR_sR, m2, kV_r, kV_x, kI_r, kI_x, kR_r, kF_r, kD_r, forall_eq, not_true_eq_false, not_false_eq_true, false_implies, true_implies, true_and, and_true, b2i_0, b2i_1, b2i_01, b2i_t, b2i_f, decide_true, decide_false, Bool.not_true, Bool.not_false, i1_0, eq_self, reduceCtorEq, eLits, m_isTh, m_in, m_canF ((m2 d' 0 0).trans e) hk ht hb, m_played, m_wrF ((m2 d' 0 0).trans e) hl hb, e, hT, hb, hh, hp, hbad.1, hbad.2]
            exact t80 _ _ _ 4 d' Q (by decide) hQ
          · obtain ⟨f, -, hf4, rfl⟩ := inB_ex (a := 0) (b := 4) hb (by omega) (by omega)
            have fl : FlOk (mr d 2) t f (!decide (on = 0)) := flOk_of hf4 hh (fun h => by
              cases hw : wrF (mr d 2) t (nI f) with
              | false => rfl
              | true => exact absurd ⟨of_decide_eq_false (by cases hd : decide (on = 0) with
                | false => rfl
                | true => rw [hd] at h; cases h), hw⟩ hbad)
            obtain ⟨ok, sp, pl⟩ := Ok_sets hk ht fl
            refine jq_s I hnp (s' := sets (mr d 2) t (nI f) (!decide (on = 0))) (by rw [show sets (mr d 2) t (nI f) (!decide (on = 0)) 3 = mr d 2 3 from upd_n (by omega) _ _]; exact hnp) (by rw [SPl_load hk ok sp pl]; exact hL) (b2i (hasF (mr d 2) t (nI f))) (fun Q hQ => gc Q (fun v5 s0 h _ => ?_)) (fun d' Q e hQ => w263 _ _ _ ?_)
            · have go : CT 34 [ax_vR 7 0 0, Sum.inl (nI t), Sum.inl (nI f)] d (kI (fun x2 d1 => CT 35 [ax_vR 7 0 0, Sum.inl (nI t), Sum.inl (nI f), Sum.inl on] d1 (kV (fun d3 => (x2 = 0 ∨ x2 = 1) ∧ (Q d3 (Sum.inl (some (Sum.inl x2))))) (fun E d => Q d (Sum.inr E)))) (fun E d => Q d (Sum.inr E))) := by
                refine (c_has hC.2.1 hl (nI f) _).mpr ?_
                refine c_mark hC ht fl _ (fun d1 f1 c1 => ⟨ct_ty _, hQ d1 (Fr_mono f1 (fun k i z => Or.inr z)) c1⟩)
              refine w151_106 _ _ _ _ _ ⟨fun _ => go, fun z => ?_⟩
              have hw : wrF (mr d 2) t (nI f) = false := by
                cases hw : wrF (mr d 2) t (nI f) with
                | false => rfl
                | true => exact absurd ⟨z, hw⟩ hbad
              obtain ⟨q5, q0⟩ := h hw
              exact ⟨fun _ => ⟨fun _ => go, fun y => absurd q0 y⟩, fun y => absurd q5 y⟩
            · have fin : h263_80 (nI t) (nI f) on (sV d' 0 0) Q := by
                refine w263_80 _ _ _ ⟨fun _ => ?_, fun z => absurd (by rw [show ax_row (sV d' 0 0) 9 0 0 0 = 0 from mv_sV d' 0 0]; decide) z⟩
                refine (m_has hl (nI f) _ _).mpr ((m_sets hl (nI f) on _ _).mpr ?_)
                rw [m2, e]
                exact ⟨ct_ty _, hQ⟩
              simp only [f_mv, f_sV, f_sV', f_s2, f_s3, f_s29, f_s30, f_mr, mr_sR, mv_sV, sV_sV, sR_sR, m2, kV_r, kV_x, kI_r, kI_x, kR_r, kF_r, kD_r, forall_eq, not_true_eq_false, not_false_eq_true, false_implies, true_implies, true_and, and_true, b2i_0, b2i_1, b2i_01, b2i_t, b2i_f, decide_true, decide_false, Bool.not_true, Bool.not_false, i1_0, eq_self, reduceCtorEq, eLits, m_isTh, m_in, m_canF ((m2 d' 0 0).trans e) hk ht hb, m_played, m_wrF ((m2 d' 0 0).trans e) hl hb, e, hT, hb, hh, hp]
              refine ⟨fun _ => fin, fun z => ?_⟩
              cases hw : wrF (mr d 2) t (nI f) with
              | false => exact ⟨fun _ => fin, fun y => absurd rfl y⟩
              | true => exact absurd ⟨z, hw⟩ hbad
/-- the class sets an exit -/
theorem c_lead {s : Row} (hcp : Cp d 0 s) {R r k : Nat} (h0 : s 0 = nI R) (hR : R ≤ 8) (hr : r < R) (hk6 : k < 6) (to dr : Int32) (Q : ax_P) (hQ : ∀ d', Fr (fun k i => k = 3 ∧ i = 0) d d' → Cp d' 0 (upd (upd s (15 + (6 * r + k)) to) (63 + (6 * r + k)) dr) → Q d' (Sum.inl none)) : CT 14 [ax_vR 3 0 0, Sum.inl (nI r), Sum.inl (nI k), Sum.inl to, Sum.inl dr] d Q := by
  have r0 : ax_row d 3 0 0 0 = nI R := hcp.1.1.trans h0
  have hb : inB (nI k) 0 5 = true := by
    rw [inB_lt, show (5 : Int32) = nI 5 from rfl, decide_eq_false (nI_pos (by omega)), decide_eq_false (show ¬ nI 5 < nI k by rw [Int32.not_lt]; exact nI_le (by omega) (by omega))]; rfl
  have he : 6 * r + k < 48 := by omega
  have ci : ax_in (nI (6 * r + k)) 48 = true := ax_in_nI he (by omega)
  have cl : (nI (6 * r + k)).toNatClampNeg = 6 * r + k := nI_clamp (by omega)
  refine w14 _ _ _ _ _ (w13 _ _ ?_)
  rw [r0]
  refine ⟨fun z => absurd z (nI_pos (by omega)), fun _ => ⟨fun z => absurd z (nI_ge hr (by omega)), fun _ => ?_⟩⟩
  refine ⟨fun z => absurd z (by decide), fun _ => (c_within _ _ _ d _).mpr ?_⟩
  rw [hb]
  refine ⟨fun z => absurd z (by decide), fun _ => ?_⟩
  rw [e6m, cl]
  refine ⟨ci, fun d1 e1 => ⟨ci, fun d2 e2 => ?_⟩⟩
  have c1 : Cp d1 0 (upd s (15 + (6 * r + k)) to) := Cp_set hcp (j := 6) (by decide) (by decide) he to e1
  have c2 : Cp d2 0 (upd (upd s (15 + (6 * r + k)) to) (63 + (6 * r + k)) dr) := Cp_set c1 (j := 7) (by decide) (by decide) he dr e2
  exact hQ d2 (Fr_trans (b := d1) (by rw [e1]; exact Fr_set (by decide) ⟨rfl, rfl⟩ d 6 _) (by rw [e2]; exact Fr_set (by decide) ⟨rfl, rfl⟩ d1 7 _)) c2
theorem j_connect (I : INV d n) (x k to dr : Int32) : JN [2, 1, 0] 113 234 [x, k, to, dr] d n := by
  have hC := I.1
  have hL := I.2.1
  have hk := hC.2.2
  have hcp : Cp d 0 (mr d 2) := hC.1
  have cR : ∀ (y : Int32) (Q : ax_P), CT 13 [ax_vR 3 0 0, Sum.inl y] d Q ↔ Q d (Sum.inl (some (Sum.inl (b2i (isRm (mr d 2) y))))) := fun y Q => c_isRm hcp.1.1 hk y Q
  have cT : ∀ (y : Int32) (Q : ax_P), CT 3 [ax_vR 3 0 0, Sum.inl y] d Q ↔ Q d (Sum.inl (some (Sum.inl (b2i (isTh (mr d 2) y))))) := fun y Q => c_isTh' hcp.1.2.1 hk y Q
  -- the class's first looks
  have g28 : ∀ Q : ax_P, h113_28 x k to dr (b2i (decide (to = -1) || isRm (mr d 2) to)) d Q → CT 113 [ax_vR 8 0 0, Sum.inl x, Sum.inl k, Sum.inl to, Sum.inl dr] d Q := fun Q h => w113 _ _ _ _ (by
    by_cases h1 : to = -1
    · rw [decide_eq_true h1] at h
      exact ⟨fun _ => h, fun z => absurd h1 z⟩
    · rw [decide_eq_false h1, Bool.false_or] at h
      refine ⟨fun z => absurd z h1, fun _ => (cR to _).mpr ⟨fun z => ?_, fun z => ?_⟩⟩
      · rw [b2i_z.mp z] at h; exact h
      · cases hr : isRm (mr d 2) to with
        | false => rw [hr] at z; exact absurd rfl z
        | true => rw [hr] at h; exact h)
  have g51 : ∀ (v6 : Int32) (Q : ax_P), h113_51 x k to dr v6 (b2i (decide (dr = -1) || isTh (mr d 2) dr)) d Q → h113_28 x k to dr v6 d Q := fun v6 Q h => w113_28 _ _ _ _ _ (by
    by_cases h1 : dr = -1
    · rw [decide_eq_true h1] at h
      exact ⟨fun _ => h, fun z => absurd h1 z⟩
    · rw [decide_eq_false h1, Bool.false_or] at h
      refine ⟨fun z => absurd z h1, fun _ => (cT dr _).mpr ⟨fun z => ?_, fun z => ?_⟩⟩
      · rw [b2i_z.mp z] at h; exact h
      · cases hr : isTh (mr d 2) dr with
        | false => rw [hr] at z; exact absurd rfl z
        | true => rw [hr] at h; exact h)
  by_cases hA : isRm (mr d 2) x = true ∧ (decide (to = -1) || isRm (mr d 2) to) = true ∧ (decide (dr = -1) || isTh (mr d 2) dr) = true
  case neg =>
    refine jq_x I 0 rfl (fun Q hQ => g28 Q (g51 _ Q (w113_51 _ _ _ _ _ _ ((cR x _).mpr ⟨fun _ => hQ, fun z1 => ⟨fun _ => hQ, fun z2 => ⟨fun _ => hQ, fun z3 => ?_⟩⟩⟩)))) (fun d' Q e _ hQ => w234 _ _ _ _ ?_)
    · have nz : ∀ {b : Bool}, ¬ b2i b = 0 → b = true := fun {b} h => by
        cases b with
        | true => rfl
        | false => exact absurd rfl h
      exact absurd ⟨nz z1, nz z2, nz z3⟩ hA
    · simp only [f_mv, f_sV, f_sV', f_s2, f_s3, f_s29, f_s30, f_mr, mr_sR, mv_sV, sV_sV, sR_sR, m2, kV_r, kV_x, kI_r, kI_x, kR_r, kF_r, kD_r, forall_eq, not_true_eq_false, not_false_eq_true, false_implies, true_implies, true_and, and_true, b2i_0, b2i_1, b2i_01, b2i_t, b2i_f, decide_true, decide_false, Bool.not_true, Bool.not_false, i1_0, eq_self, reduceCtorEq, eLits, m_isRm, m_isTh, m_fails, e]
      have f1 : ∀ {b : Bool}, ¬ b = false → b = true := fun {b} h => by
        cases b with
        | true => rfl
        | false => exact absurd rfl h
      refine ⟨fun _ => hQ _, fun z1 => ⟨fun t1 => ⟨fun t2 => ?_, fun t2 => ⟨fun _ => hQ _, fun z3 => ?_⟩⟩, fun t1 => ⟨fun _ => hQ _, fun z2 => ⟨fun t2 => ?_, fun t2 => ⟨fun _ => hQ _, fun z3 => ?_⟩⟩⟩⟩⟩
      · exact absurd ⟨f1 z1, by rw [decide_eq_true t1]; rfl, by rw [decide_eq_true t2]; rfl⟩ hA
      · exact absurd ⟨f1 z1, by rw [decide_eq_true t1]; rfl, by rw [f1 z3, Bool.or_true]⟩ hA
      · exact absurd ⟨f1 z1, by rw [f1 z2, Bool.or_true], by rw [decide_eq_true t2]; rfl⟩ hA
      · exact absurd ⟨f1 z1, by rw [f1 z2, Bool.or_true], by rw [f1 z3, Bool.or_true]⟩ hA
  obtain ⟨a1, a2, a3⟩ := hA
  obtain ⟨r, hr, rfl⟩ := isRm_ex hk a1
  have hr8 : r < 8 := Nat.lt_of_lt_of_le hr (Pk_R hk.1).2
  have hto : to = -1 ∨ ∃ q, q < nR (mr d 2) ∧ to = nI q := by
    by_cases h1 : to = -1
    · exact Or.inl h1
    · rw [decide_eq_false h1, Bool.false_or] at a2
      exact Or.inr (isRm_ex hk a2)
  have hdr : dr = -1 ∨ ∃ q, q < nT (mr d 2) ∧ dr = nI q := by
    by_cases h1 : dr = -1
    · exact Or.inl h1
    · rw [decide_eq_false h1, Bool.false_or] at a3
      exact Or.inr (isTh_ex hk a3)
  -- the wrong door
  obtain ⟨W, hW1, hW2⟩ : ∃ W : Bool, (W = true ↔ ∃ q, q < nT (mr d 2) ∧ dr = nI q ∧ (to = -1 ∨ ¬ mr d 2 (111 + q) = 4)) ∧ ∀ Q : ax_P, h113_109 (nI r) k to dr (b2i (decide (to = -1) || isRm (mr d 2) to)) (b2i (decide (dr = -1) || isTh (mr d 2) dr)) (b2i W) d Q → CT 113 [ax_vR 8 0 0, Sum.inl (nI r), Sum.inl k, Sum.inl to, Sum.inl dr] d Q := by
    have n1 : ¬ b2i true = 0 := by decide
    rcases hdr with h1 | ⟨q, hq, h1⟩
    · refine ⟨false, ⟨(fun z => by cases z), fun ⟨q, hq, e, _⟩ => absurd (h1.symm.trans e).symm (nI_nm (by have := (Ok_T hk).2; omega))⟩, fun Q h => g28 Q (g51 _ Q (w113_51 _ _ _ _ _ _ ((cR (nI r) _).mpr ?_)))⟩
      rw [a1, a2, a3]
      rw [a2, a3] at h
      exact ⟨fun z => absurd z n1, fun _ => ⟨fun z => absurd z n1, fun _ => ⟨fun z => absurd z n1, fun _ => ⟨fun _ => h, fun z => absurd h1 z⟩⟩⟩⟩
    · have hq16 := Ok_lt hk hq
      have hne : ¬ dr = -1 := fun z => nI_nm (n := q) (by omega) (h1.symm.trans z)
      refine ⟨decide (to = -1) || !decide (mr d 2 (111 + q) = 4), ⟨fun z => ⟨q, hq, h1, ?_⟩, fun ⟨q', hq', e, h⟩ => ?_⟩, fun Q h => g28 Q (g51 _ Q (w113_51 _ _ _ _ _ _ ((cR (nI r) _).mpr ?_)))⟩
      · by_cases t1 : to = -1
        · exact Or.inl t1
        · rw [decide_eq_false t1, Bool.false_or] at z
          exact Or.inr (fun y => by rw [decide_eq_true y] at z; cases z)
      · have eq : q' = q := (nI_eq (by have := Ok_lt hk hq'; omega) (by omega)).mp (e.symm.trans h1)
        rw [eq] at h
        rcases h with h | h
        · rw [decide_eq_true h]; rfl
        · rw [decide_eq_false h, Bool.not_false, Bool.or_true]
      · rw [a1, a2, a3]
        rw [a2, a3] at h
        refine ⟨fun z => absurd z n1, fun _ => ⟨fun z => absurd z n1, fun _ => ⟨fun z => absurd z n1, fun _ => ⟨fun z => absurd z hne, fun _ => ⟨fun t1 => ?_, fun t1 => ?_⟩⟩⟩⟩⟩
        · rw [decide_eq_true t1] at h; exact h
        · rw [decide_eq_false t1, Bool.false_or] at h
          rw [h1] at h ⊢
          refine (c_kind hcp hk hq _).mpr ⟨fun y => ?_, fun y => ?_⟩
          · rw [decide_eq_true y] at h; exact h
          · rw [decide_eq_false y] at h; exact h
  -- the check's first looks
  have gm : ∀ (d' : ax_D) (Q : ax_P), mr d' 2 = mr d 2 → h234_47 (nI r) k to dr (sV d' 0 0) Q → CT 234 [ax_vR 9 0 0, Sum.inl (nI r), Sum.inl k, Sum.inl to, Sum.inl dr] d' Q := fun d' Q e h => w234 _ _ _ _ (by
    simp only [f_mv, f_sV, f_sV', f_s2, f_s3, f_s29, f_s30, f_mr, mr_sR, mv_sV, sV_sV, sR_sR, m2, kV_r, kV_x, kI_r, kI_x, kR_r, kF_r, kD_r, forall_eq, not_true_eq_false, not_false_eq_true, false_implies, true_implies, true_and, and_true, b2i_0, b2i_1, b2i_01, b2i_t, b2i_f, decide_true, decide_false, Bool.not_true, Bool.not_false, i1_0, eq_self, reduceCtorEq, eLits, m_isRm, m_isTh, e, a1]
    by_cases t1 : to = -1
    · by_cases t2 : dr = -1
      · exact ⟨fun _ => ⟨fun _ => h, fun z => absurd t2 z⟩, fun z => absurd t1 z⟩
      · have := a3
        rw [decide_eq_false t2, Bool.false_or] at this
        exact ⟨fun _ => ⟨fun z => absurd z t2, fun _ => ⟨fun z => absurd (this.symm.trans z) (by decide), fun _ => h⟩⟩, fun z => absurd t1 z⟩
    · have q1 := a2
      rw [decide_eq_false t1, Bool.false_or] at q1
      refine ⟨fun z => absurd z t1, fun _ => ⟨fun z => absurd (q1.symm.trans z) (by decide), fun _ => ?_⟩⟩
      by_cases t2 : dr = -1
      · exact ⟨fun _ => h, fun z => absurd t2 z⟩
      · have := a3
        rw [decide_eq_false t2, Bool.false_or] at this
        exact ⟨fun z => absurd z t2, fun _ => ⟨fun z => absurd (this.symm.trans z) (by decide), fun _ => h⟩⟩)
  have g87 : ∀ (d' : ax_D) (Q : ax_P), mr d' 2 = mr d 2 → W = false → inB k 0 5 = true → h234_87 (nI r) k to dr (sV d' 0 0) Q → h234_47 (nI r) k to dr (sV d' 0 0) Q := fun d' Q e hw hb h => w234_47 _ _ _ _ (by
    simp only [f_mv, f_sV, f_sV', f_s2, f_s3, f_s29, f_s30, f_mr, mr_sR, mv_sV, sV_sV, sR_sR, m2, kV_r, kV_x, kI_r, kI_x, kR_r, kF_r, kD_r, forall_eq, not_true_eq_false, not_false_eq_true, false_implies, true_implies, true_and, and_true, b2i_0, b2i_1, b2i_01, b2i_t, b2i_f, decide_true, decide_false, Bool.not_true, Bool.not_false, i1_0, eq_self, reduceCtorEq, eLits, m_in, hb, e]
    rcases hdr with h1 | ⟨q, hq, h1⟩
    · exact ⟨fun _ => h, fun z => absurd h1 z⟩
    · have hq16 := Ok_lt hk hq
      have hne : ¬ dr = -1 := fun z => nI_nm (n := q) (by omega) (h1.symm.trans z)
      have nw : ¬ (to = -1 ∨ ¬ mr d 2 (111 + q) = 4) := fun z => by rw [hW1.mpr ⟨q, hq, h1, z⟩] at hw; cases hw
      refine ⟨fun z => absurd z hne, fun _ => ?_⟩
      subst h1
      rw [cl_111 hq16]
      refine ⟨in_111 hq16, fun _ => ⟨fun t1 => absurd (Or.inl t1) nw, fun _ => h⟩, fun z => absurd (Or.inr z) nw⟩)
  by_cases hB : inB k 0 5 = true ∧ W = false
  case neg =>
    refine jq_x I 1 rfl (fun Q hQ => hW2 Q (w113_109 _ _ _ _ _ _ _ ((c_within _ _ _ d _).mpr ⟨fun _ => hQ, fun z => ⟨fun y => ?_, fun _ => hQ⟩⟩))) (fun d' Q e _ hQ => gm d' Q e ?_)
    · exfalso
      refine hB ⟨?_, b2i_z.mp y⟩
      cases hb : inB k 0 5 with
      | true => rfl
      | false => rw [hb] at z; exact absurd rfl z
    · refine w234_47 _ _ _ _ ?_
      simp only [f_mv, f_sV, f_sV', f_s2, f_s3, f_s29, f_s30, f_mr, mr_sR, mv_sV, sV_sV, sR_sR, m2, kV_r, kV_x, kI_r, kI_x, kR_r, kF_r, kD_r, forall_eq, not_true_eq_false, not_false_eq_true, false_implies, true_implies, true_and, and_true, b2i_0, b2i_1, b2i_01, b2i_t, b2i_f, decide_true, decide_false, Bool.not_true, Bool.not_false, i1_0, eq_self, reduceCtorEq, eLits, m_in, m_fails, e]
      refine ⟨fun _ => hQ _, fun z => ?_⟩
      have hb : inB k 0 5 = true := by
        cases hb : inB k 0 5 with
        | true => rfl
        | false => exact absurd hb z
      have hw : W = true := by
        cases hw : W with
        | true => rfl
        | false => exact absurd ⟨hb, hw⟩ hB
      obtain ⟨q, hq, h1, h2⟩ := hW1.mp hw
      have hq16 := Ok_lt hk hq
      refine ⟨fun y => absurd (h1.symm.trans y) (nI_nm (by omega)), fun _ => ?_⟩
      subst h1
      rw [cl_111 hq16]
      refine ⟨in_111 hq16, fun y => ⟨fun _ => hQ _, fun t1 => ?_⟩, fun _ => hQ _⟩
      rcases h2 with h2 | h2
      · exact absurd h2 t1
      · exact absurd y h2
  obtain ⟨hb, hw⟩ := hB
  obtain ⟨c, -, hc5, rfl⟩ := inB_ex (a := 0) (b := 5) hb (by omega) (by omega)
  have n1 : ¬ b2i true = 0 := by decide
  cases hp : plays (mr d 2) with
  | true =>
    refine jq_x I 2 rfl (fun Q hQ => hW2 Q (w113_109 _ _ _ _ _ _ _ ((c_within _ _ _ d _).mpr ?_))) (fun d' Q e _ hQ => gm d' Q e (g87 d' Q e hw hb (w234_87 _ _ _ _ ?_)))
    · rw [hb, hw]
      refine ⟨fun z => absurd z n1, fun _ => ⟨fun _ => (c_refP hC _).mpr ?_, fun z => absurd rfl z⟩⟩
      rw [hp]
      exact hQ
    · simp only [f_mv, f_sV, f_sV', f_s2, f_s3, f_s29, f_s30, f_mr, mr_sR, mv_sV, sV_sV, sR_sR, m2, kV_r, kV_x, kI_r, kI_x, kR_r, kF_r, kD_r, forall_eq, not_true_eq_false, not_false_eq_true, false_implies, true_implies, true_and, and_true, b2i_0, b2i_1, b2i_01, b2i_t, b2i_f, decide_true, decide_false, Bool.not_true, Bool.not_false, i1_0, eq_self, reduceCtorEq, eLits, m_played, e, hp, m_fails]
      exact hQ _
  | false =>
    have hnp : ¬ mr d 2 3 = 1 := of_decide_eq_false hp
    have he : 6 * r + c < 48 := by omega
    have hR := Pk_R hk.1
    obtain ⟨ok, ld⟩ := Ok_pl (s' := upd (upd (mr d 2) (15 + (6 * r + c)) to) (63 + (6 * r + c)) dr) hk (fun i hi => by rw [upd_n (by omega), upd_n (by omega)]) hnp (by
        have e : nR (upd (upd (mr d 2) (15 + (6 * r + c)) to) (63 + (6 * r + c)) dr) = nR (mr d 2) := by unfold nR; rw [upd_n (by omega), upd_n (by omega)]
        rw [e, upd_n (by omega), upd_n (by omega)]
        exact ⟨hR.1, hR.2, Nat.le_refl _⟩) (by
        have e : nD (upd (upd (mr d 2) (15 + (6 * r + c)) to) (63 + (6 * r + c)) dr) = nD (mr d 2) := by unfold nD; rw [upd_n (by omega), upd_n (by omega)]
        rw [e, upd_n (by omega), upd_n (by omega)]
        exact Pk_D hk.1) (by
        have e : nR (upd (upd (mr d 2) (15 + (6 * r + c)) to) (63 + (6 * r + c)) dr) = nR (mr d 2) := by unfold nR; rw [upd_n (by omega), upd_n (by omega)]
        rw [e]
        intro q hq i hi
        obtain ⟨u1, u2⟩ := hk.1.2.1 q hq i hi
        constructor
        · rw [upd_n (by omega)]
          by_cases z : 15 + (6 * q + i) = 15 + (6 * r + c)
          · rw [z, upd_s]; exact hto
          · rw [upd_n z]; exact u1
        · by_cases z : 63 + (6 * q + i) = 63 + (6 * r + c)
          · rw [z, upd_s]; exact hdr
          · rw [upd_n z, upd_n (by omega)]; exact u2) (by
        have e : nD (upd (upd (mr d 2) (15 + (6 * r + c)) to) (63 + (6 * r + c)) dr) = nD (mr d 2) := by unfold nD; rw [upd_n (by omega), upd_n (by omega)]
        rw [e]
        intro i hi
        have := (Pk_D hk.1).2
        rw [upd_n (by omega), upd_n (by omega), upd_n (by omega), upd_n (by omega)]
        exact hk.1.2.2.2.1 i hi) (fun u h1 h2 => by
        rw [upd_n (by omega), upd_n (by omega), upd_n (by omega), upd_n (by omega)]
        exact hk.1.2.2.2.2 u h1 h2)
    refine jq_s I hnp (s' := upd (upd (mr d 2) (15 + (6 * r + c)) to) (63 + (6 * r + c)) dr) (by rw [upd_n (by omega), upd_n (by omega)]; exact hnp) (by rw [ld]; exact hL) (mr d 2 (15 + (6 * r + c))) (fun Q hQ => hW2 Q (w113_109 _ _ _ _ _ _ _ ((c_within _ _ _ d _).mpr ?_))) (fun d' Q e hQ => gm d' Q e (g87 d' Q e hw hb (w234_87 _ _ _ _ ?_)))
    · rw [hb, hw]
      refine ⟨fun z => absurd z n1, fun _ => ⟨fun _ => (c_refP hC _).mpr ?_, fun z => absurd rfl z⟩⟩
      rw [hp]
      refine (c_exitP hcp hk hr (by omega) _).mpr (c_lead hcp hR.1 hR.2 hr (by omega) to dr _ (fun d1 f1 c1 => ?_))
      exact hQ d1 (Fr_mono f1 (fun k i z => Or.inl z)) ⟨c1, Cw_Fr f1 (fun z => by cases z.1) (Cw_pl hC.2.1 hnp (by rw [upd_n (by omega), upd_n (by omega)]; exact hnp) (fun i hi => by rw [upd_n (by omega), upd_n (by omega)])), ok⟩
    · simp only [f_mv, f_sV, f_sV', f_s2, f_s3, f_s29, f_s30, f_mr, mr_sR, mv_sV, sV_sV, sR_sR, m2, kV_r, kV_x, kI_r, kI_x, kR_r, kF_r, kD_r, forall_eq, not_true_eq_false, not_false_eq_true, false_implies, true_implies, true_and, and_true, b2i_0, b2i_1, b2i_01, b2i_t, b2i_f, decide_true, decide_false, Bool.not_true, Bool.not_false, i1_0, eq_self, reduceCtorEq, eLits, m_played, e, hp, e6k, in_15 he, cl_15 he, in_63 he, cl_63 he]
      exact hQ
end SF
