/-! litShare and meanSize -/
theorem fl_f : ∀ a, a ≤ 8 → ∀ b, b ≤ 8 → b ≠ 0 → FP.fdiv (FP.i2f (nI a)) (FP.i2f (nI b)) &&& 0x7fffffff ≤ 0x7f800000 := by decide +kernel
def GF (x : UInt32) : Prop := FP.f2d x &&& 0x7fffffffffffffff ≤ 0x7ff0000000000000 ∧ Op.cmpValue (FP.dcmp (FP.f2d x) (FP.f2d x)) .l = 0
def GD (x : UInt64) : Prop := Op.cmpValue (FP.dcmp x x) .l = 0
theorem fl_g : ∀ a, a ≤ 8 → ∀ b, b ≤ 8 → b ≠ 0 → FP.f2d (FP.fdiv (FP.i2f (nI a)) (FP.i2f (nI b))) &&& 0x7fffffffffffffff ≤ 0x7ff0000000000000 ∧ Op.cmpValue (FP.dcmp (FP.f2d (FP.fdiv (FP.i2f (nI a)) (FP.i2f (nI b)))) (FP.f2d (FP.fdiv (FP.i2f (nI a)) (FP.i2f (nI b))))) .l = 0 := by decide +kernel
theorem fl_d : ∀ a, a ≤ 20 → ∀ b, b ≤ 16 → b ≠ 0 → FP.ddiv (FP.i2d (nI a)) (FP.i2d (nI b)) &&& 0x7fffffffffffffff ≤ 0x7ff0000000000000 ∧ Op.cmpValue (FP.dcmp (FP.ddiv (FP.i2d (nI a)) (FP.i2d (nI b))) (FP.ddiv (FP.i2d (nI a)) (FP.i2d (nI b)))) .l = 0 := by decide +kernel
def AGF (r1 r2 : Option ax_V ⊕ Nat) (th : Int32) : Prop := (∃ x, r1 = Sum.inr 5 ∧ th = 1 ∧ r2 = Sum.inl (some (Sum.inr (Sum.inr (Sum.inl x))))) ∨ ∃ x, r1 = Sum.inl (some (Sum.inr (Sum.inr (Sum.inl x)))) ∧ GF x ∧ th = 0 ∧ r2 = Sum.inl (some (Sum.inr (Sum.inr (Sum.inl x))))
def AGD (r1 r2 : Option ax_V ⊕ Nat) (th : Int32) : Prop := (∃ x, r1 = Sum.inr 5 ∧ th = 1 ∧ r2 = Sum.inl (some (Sum.inr (Sum.inr (Sum.inr (Sum.inl x)))))) ∨ ∃ x, r1 = Sum.inl (some (Sum.inr (Sum.inr (Sum.inr (Sum.inl x))))) ∧ GD x ∧ th = 0 ∧ r2 = Sum.inl (some (Sum.inr (Sum.inr (Sum.inr (Sum.inl x)))))
/-- as JN, with any agreement of the answers -/
def JA (A : Option ax_V ⊕ Nat → Option ax_V ⊕ Nat → Int32 → Prop) (ci mi : Nat) (d : ax_D) (n : Nat) : Prop := CT ci [ax_vR 8 0 0] d (fun d1 r1 => d1.2.2 = d.2.2 ∧ ∀ o, CT mi [ax_vR 9 0 0] (oD d1 o) (fun d2 r2 => INV d2 n ∧ d2.2.2 = o ∧ A r1 r2 (mv d2 0)))
theorem ja_q {A : Option ax_V ⊕ Nat → Option ax_V ⊕ Nat → Int32 → Prop} {ci mi : Nat} {d : ax_D} {n : Nat} (I : INV d n) (r1 r2 : Option ax_V ⊕ Nat) (th : Int32) (hA : A r1 r2 th) (hc : ∀ Q : ax_P, Q d r1 → CT ci [ax_vR 8 0 0] d Q) (hm : ∀ (d' : ax_D) (Q : ax_P), mr d' 2 = mr d 2 → Q (sV d' 0 th) r2 → CT mi [ax_vR 9 0 0] d' Q) : JA A ci mi d n := by
  refine hc _ ⟨rfl, fun o => hm (oD d o) _ rfl ⟨?_, rfl, ?_⟩⟩
  · have fq : FQ SQ RQ KQ' d (sV (oD d o) 0 th) := FQ_of (o := o) (Fr_refl d) (FrM_sV (oD d o) (Or.inl rfl) th)
    exact INV_keep I fq rfl rfl
  · rw [mv_sV]; exact hA
section JF
variable {d : ax_D} {n : Nat}
theorem j_litShare (I : INV d n) : JA AGF 135 252 d n := by
  have hC := I.1
  have hk := hC.2.2
  have hR := Pk_R hk.1
  have r0 : ax_row d 3 0 0 0 = nI (nR (mr d 2)) := hC.1.1.1.trans hR.1
  have hct : ∀ i, i ≤ nR (mr d 2) → fb_ct (bright (mr d 2)) i ≤ 8 := fun i hi => Nat.le_trans (fb_ct_le _ i) (by omega)
  by_cases hz : nR (mr d 2) = 0
  · have hs0 : mr d 2 0 = 0 := by rw [hR.1, hz]; rfl
    refine ja_q I (Sum.inr 5) (Sum.inl (some (Sum.inr (Sum.inr (Sum.inl FP.fconst0))))) 1 (Or.inl ⟨_, rfl, rfl, rfl⟩) (fun Q hQ => w135 ?_) (fun d' Q e hQ => w252 (w252_4 _ _ ?_))
    · rw [r0, hz]
      exact ⟨fun _ => hQ, fun z => absurd rfl z⟩
    · simp only [f_mv, f_sV, f_sV', f_s2, f_s3, f_s29, f_s30, f_mr, mr_sR, mv_sV, sV_sV, sR_sR, m2, kV_r, kV_x, kI_r, kI_x, kR_r, kF_r, kD_r, forall_eq, not_true_eq_false, not_false_eq_true, false_implies, true_implies, true_and, and_true, b2i_0, b2i_1, b2i_01, b2i_t, b2i_f, decide_true, decide_false, Bool.not_true, Bool.not_false, i1_0, eq_self, reduceCtorEq, eLits, e, hs0]
      refine w252_51 _ _ _ ?_
      simp only [f_mv, f_sV, f_sV', f_s2, f_s3, f_s29, f_s30, f_mr, mr_sR, mv_sV, sV_sV, sR_sR, m2, kV_r, kV_x, kI_r, kI_x, kR_r, kF_r, kD_r, forall_eq, not_true_eq_false, not_false_eq_true, false_implies, true_implies, true_and, and_true, b2i_0, b2i_1, b2i_01, b2i_t, b2i_f, decide_true, decide_false, Bool.not_true, Bool.not_false, i1_0, eq_self, reduceCtorEq, eLits]
      exact hQ
  · have hb8 : nR (mr d 2) ≤ 8 := hR.2
    have hx := fl_f _ (hct _ (Nat.le_refl _)) _ hb8 hz
    have hg := fl_g _ (hct _ (Nat.le_refl _)) _ hb8 hz
    have hs0 : ¬ mr d 2 0 = 0 := by rw [hR.1]; exact fun z => hz ((nI_eq (by omega) (by omega)).mp (show nI (nR (mr d 2)) = nI 0 from z))
    refine ja_q I (Sum.inl (some (Sum.inr (Sum.inr (Sum.inl (FP.fdiv (FP.i2f (nI (fb_ct (bright (mr d 2)) (nR (mr d 2))))) (FP.i2f (nI (nR (mr d 2))))))))))  (Sum.inl (some (Sum.inr (Sum.inr (Sum.inl (FP.fdiv (FP.i2f (nI (fb_ct (bright (mr d 2)) (nR (mr d 2))))) (FP.i2f (nI (nR (mr d 2)))))))))) 0 (Or.inr ⟨_, rfl, hg, rfl, rfl⟩) (fun Q hQ => w135 ?_) (fun d' Q e hQ => w252 ?_)
    · refine ⟨fun z => absurd (r0.symm.trans z) (by rw [← hR.1]; exact hs0), fun _ => ?_⟩
      rw [r0]
      have key := lp_up (fun i => h135_30 (nI (nR (mr d 2))) (nI (fb_ct (bright (mr d 2)) i)) (nI i) d Q) (nR (mr d 2)) ?_ ?_ 0 (Nat.zero_le _)
      · exact key
      · refine w135_30 _ _ _ ⟨fun _ => ⟨hx, hQ⟩, fun z => absurd (nI_le (Nat.le_refl _) (by omega)) z⟩
      · intro i hi ih
        have hb := hct i (Nat.le_of_lt hi)
        refine w135_30 _ _ _ ⟨fun z => absurd z (nI_ge hi (by omega)), fun _ => ?_⟩
        simp only [c_hasLight (a := 0) hC (show i < 8 by omega), kV_r, kV_x, kI_r, kI_x, kR_r, kF_r, kD_r, forall_eq, not_true_eq_false, not_false_eq_true, false_implies, true_implies, true_and, and_true, b2i_0, b2i_1, b2i_01, b2i_t, b2i_f, decide_true, decide_false, Bool.not_true, Bool.not_false, i1_0, eq_self, reduceCtorEq, eLits, nI_1]
        rw [fb_ct_succ] at ih
        cases hp : bright (mr d 2) i with
        | false =>
          rw [hp] at ih
          exact ⟨fun _ => by simpa using ih, fun z => absurd rfl z⟩
        | true =>
          rw [hp] at ih
          exact ⟨fun z => absurd z (by decide), fun _ => by simpa using ih⟩
    · have key := lp_up (fun i => h252_4 (nI (fb_ct (bright (mr d 2)) i)) (nI i) d' Q) (nR (mr d 2)) ?_ ?_ 0 (Nat.zero_le _)
      · exact key
      · refine w252_4 _ _ ?_
        simp only [f_mv, f_sV, f_sV', f_s2, f_s3, f_s29, f_s30, f_mr, mr_sR, mv_sV, sV_sV, sR_sR, m2, e, hR.1]
        refine ⟨fun _ => ⟨fun z => absurd z (by rw [← hR.1]; exact hs0), fun _ => w252_51 _ _ _ ?_⟩, fun z => absurd (nI_le (Nat.le_refl _) (by omega)) z⟩
        simp only [f_mv, f_sV, f_sV', f_s2, f_s3, f_s29, f_s30, f_mr, mr_sR, mv_sV, sV_sV, sR_sR, m2, kV_r, kV_x, kI_r, kI_x, kR_r, kF_r, kD_r, forall_eq, not_true_eq_false, not_false_eq_true, false_implies, true_implies, true_and, and_true, b2i_0, b2i_1, b2i_01, b2i_t, b2i_f, decide_true, decide_false, Bool.not_true, Bool.not_false, i1_0, eq_self, reduceCtorEq, eLits, m2, e, hR.1]
        exact ⟨hx, hQ⟩
      · intro i hi ih
        have hb := hct i (Nat.le_of_lt hi)
        refine w252_4 _ _ ?_
        simp only [f_mv, f_sV, f_sV', f_s2, f_s3, f_s29, f_s30, f_mr, mr_sR, mv_sV, sV_sV, sR_sR, m2, e, hR.1]
        refine ⟨fun z => absurd z (nI_ge hi (by omega)), fun _ => ?_⟩
        simp only [m_bright e hk (show i < 8 by omega), kV_r, kV_x, kI_r, kI_x, kR_r, kF_r, kD_r, forall_eq, not_true_eq_false, not_false_eq_true, false_implies, true_implies, true_and, and_true, b2i_0, b2i_1, b2i_01, b2i_t, b2i_f, decide_true, decide_false, Bool.not_true, Bool.not_false, i1_0, eq_self, reduceCtorEq, eLits, nI_1]
        rw [fb_ct_succ] at ih
        cases hp : bright (mr d 2) i with
        | false =>
          rw [hp] at ih
          exact ⟨fun _ => by simpa using ih, fun z => absurd rfl z⟩
        | true =>
          rw [hp] at ih
          exact ⟨fun z => absurd z (by decide), fun _ => by simpa using ih⟩
theorem j_meanSize (I : INV d n) : JA AGD 138 255 d n := by
  have hC := I.1
  have hL := I.2.1
  have hk := hC.2.2
  have hT := Ok_T hk
  have r1 : ax_row d 3 0 0 1 = nI (nT (mr d 2)) := hC.1.1.2.1.trans hT.1
  have hct : ∀ i, i ≤ nT (mr d 2) → fb_ct (fun t => decide (outer (mr d 2) t = -1)) i ≤ 16 := fun i hi => Nat.le_trans (fb_ct_le _ i) (by omega)
  -- the count, on both sides
  have cls : ∀ Q : ax_P, h138_4 (nI (fb_ct (fun t => decide (outer (mr d 2) t = -1)) (nT (mr d 2)))) (nI (nT (mr d 2))) d Q → h138_4 0 0 d Q := fun Q hQ => by
    have key := lp_up (fun i => h138_4 (nI (fb_ct (fun t => decide (outer (mr d 2) t = -1)) i)) (nI i) d Q) (nT (mr d 2)) ?_ ?_ 0 (Nat.zero_le _)
    · exact key
    · exact hQ
    · intro i hi ih
      have hb := hct i (Nat.le_of_lt hi)
      refine w138_4 _ _ ?_
      rw [r1]
      refine ⟨fun z => absurd z (nI_ge hi (by omega)), fun _ => ?_⟩
      simp only [c_outer hC hi, kV_r, kV_x, kI_r, kI_x, kR_r, kF_r, kD_r, forall_eq, not_true_eq_false, not_false_eq_true, false_implies, true_implies, true_and, and_true, b2i_0, b2i_1, b2i_01, b2i_t, b2i_f, decide_true, decide_false, Bool.not_true, Bool.not_false, i1_0, eq_self, reduceCtorEq, eLits, nI_1]
      rw [fb_ct_succ] at ih
      by_cases g : outer (mr d 2) i = -1
      · rw [decide_eq_true g] at ih
        exact ⟨fun _ => by simpa using ih, fun z => absurd g z⟩
      · rw [decide_eq_false g] at ih
        exact ⟨fun z => absurd z g, fun _ => by simpa using ih⟩
  have chk : ∀ (d' : ax_D) (Q : ax_P), mr d' 2 = mr d 2 → h255_4 (nI (fb_ct (fun t => decide (outer (mr d 2) t = -1)) (nT (mr d 2)))) (nI (nT (mr d 2))) d' Q → h255_4 0 0 d' Q := fun d' Q e hQ => by
    have key := lp_up (fun i => h255_4 (nI (fb_ct (fun t => decide (outer (mr d 2) t = -1)) i)) (nI i) d' Q) (nT (mr d 2)) ?_ ?_ 0 (Nat.zero_le _)
    · exact key
    · exact hQ
    · intro i hi ih
      have hb := hct i (Nat.le_of_lt hi)
      refine w255_4 _ _ ?_
      simp only [f_mv, f_sV, f_sV', f_s2, f_s3, f_s29, f_s30, f_mr, mr_sR, mv_sV, sV_sV, sR_sR, m2, e, hT.1]
      refine ⟨fun z => absurd z (nI_ge hi (by omega)), fun _ => ?_⟩
      simp only [m_outer e hk hi, kV_r, kV_x, kI_r, kI_x, kR_r, kF_r, kD_r, forall_eq, not_true_eq_false, not_false_eq_true, false_implies, true_implies, true_and, and_true, b2i_0, b2i_1, b2i_01, b2i_t, b2i_f, decide_true, decide_false, Bool.not_true, Bool.not_false, i1_0, eq_self, reduceCtorEq, eLits, nI_1]
      rw [fb_ct_succ] at ih
      by_cases g : outer (mr d 2) i = -1
      · rw [decide_eq_true g] at ih
        exact ⟨fun _ => by simpa using ih, fun z => absurd g z⟩
      · rw [decide_eq_false g] at ih
        exact ⟨fun z => absurd z g, fun _ => by simpa using ih⟩
  have hb := hct (nT (mr d 2)) (Nat.le_refl _)
  revert cls chk hb
  generalize fb_ct (fun t => decide (outer (mr d 2) t = -1)) (nT (mr d 2)) = c
  intro cls chk hb
  by_cases hz : c = 0
  · subst hz
    refine ja_q I (Sum.inr 5) (Sum.inl (some (Sum.inr (Sum.inr (Sum.inr (Sum.inl FP.dconst0)))))) 1 (Or.inl ⟨_, rfl, rfl, rfl⟩) (fun Q hQ => w138 (cls Q (w138_4 _ _ ?_))) (fun d' Q e hQ => w255 (chk d' Q e (w255_4 _ _ ?_)))
    · rw [r1]
      exact ⟨fun _ => ⟨fun _ => hQ, fun z => absurd rfl z⟩, fun z => absurd (nI_le (Nat.le_refl _) (by omega)) z⟩
    · simp only [f_mv, f_sV, f_sV', f_s2, f_s3, f_s29, f_s30, f_mr, mr_sR, mv_sV, sV_sV, sR_sR, m2, e, hT.1]
      refine ⟨fun _ => ⟨fun _ => ?_, fun z => absurd rfl z⟩, fun z => absurd (nI_le (Nat.le_refl _) (by omega)) z⟩
      simp only [f_mv, f_sV, f_sV', f_s2, f_s3, f_s29, f_s30, f_mr, mr_sR, mv_sV, sV_sV, sR_sR, m2, kV_r, kV_x, kI_r, kI_x, kR_r, kF_r, kD_r, forall_eq, not_true_eq_false, not_false_eq_true, false_implies, true_implies, true_and, and_true, b2i_0, b2i_1, b2i_01, b2i_t, b2i_f, decide_true, decide_false, Bool.not_true, Bool.not_false, i1_0, eq_self, reduceCtorEq, eLits]
      exact ⟨fun _ => hQ, fun z => absurd rfl z⟩
  · have hx := fl_d _ hL _ hb hz
    have hc0 : ¬ nI c = 0 := fun z => hz ((nI_eq (by omega) (by omega)).mp (show nI c = nI 0 from z))
    refine ja_q I (Sum.inl (some (Sum.inr (Sum.inr (Sum.inr (Sum.inl (FP.ddiv (FP.i2d (nI (load (mr d 2)))) (FP.i2d (nI c)))))))))  (Sum.inl (some (Sum.inr (Sum.inr (Sum.inr (Sum.inl (FP.ddiv (FP.i2d (nI (load (mr d 2)))) (FP.i2d (nI c))))))))) 0 (Or.inr ⟨_, rfl, hx.2, rfl, rfl⟩) (fun Q hQ => w138 (cls Q (w138_4 _ _ ?_))) (fun d' Q e hQ => w255 (chk d' Q e (w255_4 _ _ ?_)))
    · rw [r1]
      refine ⟨fun _ => ⟨fun z => absurd z hc0, fun _ => ?_⟩, fun z => absurd (nI_le (Nat.le_refl _) (by omega)) z⟩
      simp only [c_load hC, kV_r, kV_x, kI_r, kI_x, kR_r, kF_r, kD_r, forall_eq, not_true_eq_false, not_false_eq_true, false_implies, true_implies, true_and, and_true, b2i_0, b2i_1, b2i_01, b2i_t, b2i_f, decide_true, decide_false, Bool.not_true, Bool.not_false, i1_0, eq_self, reduceCtorEq, eLits]
      exact ⟨hx.1, hQ⟩
    · simp only [f_mv, f_sV, f_sV', f_s2, f_s3, f_s29, f_s30, f_mr, mr_sR, mv_sV, sV_sV, sR_sR, m2, e, hT.1]
      refine ⟨fun _ => ⟨fun z => absurd z hc0, fun _ => ?_⟩, fun z => absurd (nI_le (Nat.le_refl _) (by omega)) z⟩
      simp only [f_mv, f_sV, f_sV', f_s2, f_s3, f_s29, f_s30, f_mr, mr_sR, mv_sV, sV_sV, sR_sR, m2, kV_r, kV_x, kI_r, kI_x, kR_r, kF_r, kD_r, forall_eq, not_true_eq_false, not_false_eq_true, false_implies, true_implies, true_and, and_true, b2i_0, b2i_1, b2i_01, b2i_t, b2i_f, decide_true, decide_false, Bool.not_true, Bool.not_false, i1_0, eq_self, reduceCtorEq, eLits]
      refine ⟨fun z => absurd z hc0, fun _ => ?_⟩
      simp only [m_load ((m2 d' 0 0).trans e) hk, kV_r, kV_x, kI_r, kI_x, kR_r, kF_r, kD_r, forall_eq, not_true_eq_false, not_false_eq_true, false_implies, true_implies, true_and, and_true, b2i_0, b2i_1, b2i_01, b2i_t, b2i_f, decide_true, decide_false, Bool.not_true, Bool.not_false, i1_0, eq_self, reduceCtorEq, eLits]
      exact ⟨hx.1, hQ⟩
end JF
