/-! outerLater -/
def itP (s : Row) : Nat → Row
  | 0 => s
  | n + 1 => passS (itP s n)
theorem itP_gd {s : Row} (h : Ok s) (hp : s 3 = 1) : ∀ n, Gd s (itP s n) := by
  intro n
  induction n with
  | zero => exact ⟨h, SP_refl s, hp⟩
  | succ n ih => exact Gd_trans ih (Gd_pass ih.1 ih.2.2)
section JL
variable {d : ax_D} {n : Nat}
theorem m_copyTo2 {d : ax_D} (v1 v2 : Int32) (Q : ax_P) (hQ : h257_77 v1 v2 0 (sR d 29 (frS (mr d 29) (mr d 2) 369)) Q) : h257_50 v1 v2 0 d Q := by
  have key := lp_up (fun i => h257_50 v1 v2 (nI i) (sR d 29 (frS (mr d 29) (mr d 2) i)) Q) 369 ?_ ?_ 0 (Nat.zero_le _)
  · have key : h257_50 v1 v2 (nI 0) (sR d 29 (frS (mr d 29) (mr d 2) 0)) Q := key
    rw [frS_0, sR_id d 29 rfl] at key
    exact key
  · exact w257_50 _ _ _ ⟨fun _ => hQ, fun g => absurd (by decide) g⟩
  · intro i hi ih
    have ci : ax_in (nI i) 369 = true := ax_in_nI hi (by omega)
    refine w257_50 _ _ _ ⟨fun g => absurd g (by rw [Int32.not_le]; exact nI_lt (b := 369) hi (by omega)), fun _ => ⟨ci, ci, fun d1 e1 => ?_⟩⟩
    have q1 : d1 = sR (sR d 29 (frS (mr d 29) (mr d 2) i)) 29 (upd (mr (sR d 29 (frS (mr d 29) (mr d 2) i)) 29) (nI i).toNatClampNeg (mr (sR d 29 (frS (mr d 29) (mr d 2) i)) 2 (nI i).toNatClampNeg)) := e1
    rw [mr_sR, mr_sRn (by decide), sR_sR, nI_clamp (by omega), frS_succ] at q1
    rw [q1, show nI i + 1 = nI (i + 1) from nI_add i 1]
    exact ih
theorem m_copyBack2 {d : ax_D} (v1 v2 v : Int32) (Q : ax_P) (hQ : Q (sR d 2 (frS (mr d 2) (mr d 29) 369)) (Sum.inl (some (Sum.inl v)))) : h257_101 v1 v2 v 0 d Q := by
  have key := lp_up (fun i => h257_101 v1 v2 v (nI i) (sR d 2 (frS (mr d 2) (mr d 29) i)) Q) 369 ?_ ?_ 0 (Nat.zero_le _)
  · have key : h257_101 v1 v2 v (nI 0) (sR d 2 (frS (mr d 2) (mr d 29) 0)) Q := key
    rw [frS_0, sR_id d 2 rfl] at key
    exact key
  · exact w257_101 _ _ _ _ ⟨fun _ => hQ, fun g => absurd (by decide) g⟩
  · intro i hi ih
    have ci : ax_in (nI i) 369 = true := ax_in_nI hi (by omega)
    refine w257_101 _ _ _ _ ⟨fun g => absurd g (by rw [Int32.not_le]; exact nI_lt (b := 369) hi (by omega)), fun _ => ⟨ci, ci, fun d1 e1 => ?_⟩⟩
    have q1 : d1 = sR (sR d 2 (frS (mr d 2) (mr d 29) i)) 2 (upd (mr (sR d 2 (frS (mr d 2) (mr d 29) i)) 2) (nI i).toNatClampNeg (mr (sR d 2 (frS (mr d 2) (mr d 29) i)) 29 (nI i).toNatClampNeg)) := e1
    rw [mr_sR, mr_sRn (by decide), sR_sR, nI_clamp (by omega), frS_succ] at q1
    rw [q1, show nI i + 1 = nI (i + 1) from nI_add i 1]
    exact ih
theorem j_later (I : INV d n) (x y : Int32) : JN [2, 1, 0] 140 257 [x, y] d n := by
  have hC := I.1
  have hk := hC.2.2
  cases hT : isTh (mr d 2) x with
  | false => exact jq_x I 0 rfl (fun Q hQ => w140 _ _ (by simp only [c_chkT hC, hT, kV_r, kV_x, kI_r, kI_x, kR_r, kF_r, kD_r, forall_eq, not_true_eq_false, not_false_eq_true, false_implies, true_implies, true_and, and_true, b2i_0, b2i_1, b2i_01, b2i_t, b2i_f, decide_true, decide_false, Bool.not_true, Bool.not_false, i1_0, eq_self, reduceCtorEq, eLits, cond_false]; exact hQ)) (fun d' Q e _ hQ => w257 _ _ (by simp only [f_mv, f_sV, f_sV', f_s2, f_s3, f_s29, f_s30, f_mr, mr_sR, mv_sV, sV_sV, sR_sR, m2, kV_r, kV_x, kI_r, kI_x, kR_r, kF_r, kD_r, forall_eq, not_true_eq_false, not_false_eq_true, false_implies, true_implies, true_and, and_true, b2i_0, b2i_1, b2i_01, b2i_t, b2i_f, decide_true, decide_false, Bool.not_true, Bool.not_false, i1_0, eq_self, reduceCtorEq, eLits, m2, m_isTh, e, hT, m_fails]; exact hQ _))
  | true =>
    cases hb : inB y 0 30 with
    | false => exact jq_x I 1 rfl (fun Q hQ => w140 _ _ (by simp only [c_chkT hC, hT, c_range, hb, kV_r, kV_x, kI_r, kI_x, kR_r, kF_r, kD_r, forall_eq, not_true_eq_false, not_false_eq_true, false_implies, true_implies, true_and, and_true, b2i_0, b2i_1, b2i_01, b2i_t, b2i_f, decide_true, decide_false, Bool.not_true, Bool.not_false, i1_0, eq_self, reduceCtorEq, eLits, cond_true, cond_false]; exact hQ)) (fun d' Q e _ hQ => w257 _ _ (by simp only [f_mv, f_sV, f_sV', f_s2, f_s3, f_s29, f_s30, f_mr, mr_sR, mv_sV, sV_sV, sR_sR, m2, kV_r, kV_x, kI_r, kI_x, kR_r, kF_r, kD_r, forall_eq, not_true_eq_false, not_false_eq_true, false_implies, true_implies, true_and, and_true, b2i_0, b2i_1, b2i_01, b2i_t, b2i_f, decide_true, decide_false, Bool.not_true, Bool.not_false, i1_0, eq_self, reduceCtorEq, eLits, m2, m_isTh, m_in, e, hT, hb, m_fails]; exact hQ _))
    | true =>
      cases hp : plays (mr d 2) with
      | false => exact jq_x I 2 rfl (fun Q hQ => w140 _ _ (by simp only [c_chkT hC, hT, c_range, hb, c_refU hC, hp, kV_r, kV_x, kI_r, kI_x, kR_r, kF_r, kD_r, forall_eq, not_true_eq_false, not_false_eq_true, false_implies, true_implies, true_and, and_true, b2i_0, b2i_1, b2i_01, b2i_t, b2i_f, decide_true, decide_false, Bool.not_true, Bool.not_false, i1_0, eq_self, reduceCtorEq, eLits, cond_true, cond_false]; exact hQ)) (fun d' Q e _ hQ => w257 _ _ (by simp only [f_mv, f_sV, f_sV', f_s2, f_s3, f_s29, f_s30, f_mr, mr_sR, mv_sV, sV_sV, sR_sR, m2, kV_r, kV_x, kI_r, kI_x, kR_r, kF_r, kD_r, forall_eq, not_true_eq_false, not_false_eq_true, false_implies, true_implies, true_and, and_true, b2i_0, b2i_1, b2i_01, b2i_t, b2i_f, decide_true, decide_false, Bool.not_true, Bool.not_false, i1_0, eq_self, reduceCtorEq, eLits, m2, m_isTh, m_in, m_played, e, hT, hb, hp, m_fails]; exact hQ _))
      | true =>
        obtain ⟨t, ht, rfl⟩ := isTh_ex hk hT
        obtain ⟨k, -, hk30, rfl⟩ := inB_ex (a := 0) (b := 30) hb (by omega) (by omega)
        have h3 : mr d 2 3 = 1 := of_decide_eq_true hp
        have gd := itP_gd hk h3
        have hlt : ∀ i, t < nT (itP (mr d 2) i) := fun i => by rw [SP_T (gd i).2.1]; exact ht
        refine jq_gen I (r1 := Sum.inl (some (Sum.inl (outer (itP (mr d 2) k) t)))) (fun Q hQ => w140 _ _ ?_) (fun d' Q e hQ => w257 _ _ ?_)
        · simp only [c_chkT hC, hT, c_range, hb, c_refU hC, hp, kV_r, kV_x, kI_r, kI_x, kR_r, kF_r, kD_r, forall_eq, not_true_eq_false, not_false_eq_true, false_implies, true_implies, true_and, and_true, b2i_0, b2i_1, b2i_01, b2i_t, b2i_f, decide_true, decide_false, Bool.not_true, Bool.not_false, i1_0, eq_self, reduceCtorEq, eLits, cond_true]
          refine c_copy (w := 15) (p := 0) (by omega) d _ (fun d1 f1 e1 => ?_)
          have c1 : CC d1 15 (mr d 2) := ⟨Cp_Fr f1 (fun z => by cases z.1) hC.1, WEq_Cw e1 hk hC.2.1, hk⟩
          have key := lp_up (fun i => ∀ d2, Fr (sW 15) d d2 → CC d2 15 (itP (mr d 2) i) → h140_35 (nI t) (nI k) (nI i) d2 Q) k ?_ ?_ 0 (Nat.zero_le _)
          · exact key d1 f1 c1
          · intro d2 f2 c2
            refine w140_35 _ _ _ ⟨fun _ => (c_outer c2 (hlt k) _).mpr ?_, fun z => absurd (nI_le (Nat.le_refl _) (by omega)) z⟩
            refine hQ d2 (Fr_mono f2 (fun k i z => Or.inr (Or.inl z))) ?_ ?_
            · exact Fr_row f2 (fun z => by cases z.1) 1
            · rw [Fr_row f2 (fun z => by cases z.1) 0]
          · intro i hi ih d2 f2 c2
            refine w140_35 _ _ _ ⟨fun z => absurd z (nI_ge hi (by omega)), fun _ => ?_⟩
            refine c_endTurn (a := 1) c2 (gd i).2.2 _ (fun d3 f3 c3 => ?_)
            have f3 : Fr (sW 15) d2 d3 := f3
            have := ih d3 (Fr_trans f2 f3) c3
            rw [show nI i + 1 = nI (i + 1) from nI_add i 1]
            exact this
        · have e2 : mr d' 2 = mr d 2 := congrFun e 2
          simp only [f_mv, f_sV, f_sV', f_s2, f_s3, f_s29, f_s30, f_mr, mr_sR, mv_sV, sV_sV, sR_sR, m2, kV_r, kV_x, kI_r, kI_x, kR_r, kF_r, kD_r, forall_eq, not_true_eq_false, not_false_eq_true, false_implies, true_implies, true_and, and_true, b2i_0, b2i_1, b2i_01, b2i_t, b2i_f, decide_true, decide_false, Bool.not_true, Bool.not_false, i1_0, eq_self, reduceCtorEq, eLits, m2, m_isTh, m_in, m_played, e2, hT, hb, hp]
          refine m_copyTo2 _ _ Q ?_
          have key := lp_up (fun i => ∀ d2, FrM RQ KQ' d' d2 ∨ FrM (fun j => RQ j ∨ j = 2) KQ' d' d2 → mv d2 0 = 0 → eqR (mr d2 29) (mr d 2) → mr d2 2 = itP (mr d 2) i → h257_77 (nI t) (nI k) (nI i) d2 Q) k ?_ ?_ 0 (Nat.zero_le _)
          · refine key _ (Or.inr (FrM_trans (FrM_sV d' (Or.inl rfl) 0) (FrM_R _ (by decide) (Or.inl (Or.inr (by decide))) _))) ?_ ?_ ?_
            · rw [mv_sR (by decide)]; exact mv_sV _ _ _
            · rw [mr_sR, m2, e2]; exact eqR_frS _ _
            · rw [mr_sRn (by decide), m2, e2]; rfl
          · intro d2 f2 v0 x29 s2
            have f2 : FrM (fun j => RQ j ∨ j = 2) KQ' d' d2 := f2.elim (fun z => FrM_mono z (fun j y => Or.inl y) (fun _ y => y)) (fun z => z)
            refine w257_77 _ _ _ ⟨fun _ => (m_outer s2 (gd k).1 (hlt k) _).mpr (m_copyBack2 _ _ _ Q ?_), fun z => absurd (nI_le (Nat.le_refl _) (by omega)) z⟩
            rw [s2, eqR_back (gd k).1 hk x29]
            refine hQ _ _ ⟨f2.1, f2.2.1, fun j h0 hr => ?_, fun k hk => (mv_sR (by decide) d2 k _).trans (f2.2.2.2 k hk)⟩ (Or.inr ⟨_, rfl, (mv_sR (by decide) d2 0 _).trans v0, rfl⟩)
            by_cases hj : j = 2
            · rw [hj, mr_sR, e2]
            · rw [mr_sRn hj]; exact f2.2.2.1 j h0 (fun z => z.elim hr hj)
          · intro i hi ih d2 f2 v0 x29 s2
            have f2 : FrM (fun j => RQ j ∨ j = 2) KQ' d' d2 := f2.elim (fun z => FrM_mono z (fun j y => Or.inl y) (fun _ y => y)) (fun z => z)
            refine w257_77 _ _ _ ⟨fun z => absurd z (nI_ge hi (by omega)), fun _ => (m_pass s2 (gd i).1 (gd i).2.2 _).mpr ?_⟩
            rw [show nI i + 1 = nI (i + 1) from nI_add i 1]
            refine ih _ (Or.inr (FrM_trans f2 (FrM_R _ (by decide) (Or.inr rfl) _))) ?_ ?_ (mr_sR _ _ _)
            · rw [mv_sR (by decide)]; exact v0
            · rw [mr_sRn (by decide)]; exact x29
end JL
