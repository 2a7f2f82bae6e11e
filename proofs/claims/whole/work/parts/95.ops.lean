/-! command, foresee, matching, undo: both sides -/
section OPS
variable {d : ax_D} {n : Nat}
theorem j_undo (I : INV d n) : JN [0] 161 270 [] d n := by
  have I2 := I
  obtain ⟨hC, hL, h3, ln, a, m, H, f, h4, h5, h6, tx, ⟨y1, y2, y3⟩, h9, h10⟩ := I2
  have hk := hC.2.2
  by_cases hz : H.length = 0
  · refine jq_x I 0 rfl (fun Q hQ => c_opUndo (f := f) (H := H) (fun i r hi => ?_) hC y1 Q (fun _ => hQ) (fun k r hk _ => by omega)) (fun d' Q e e' hQ => ?_)
    · rw [List.getElem?_eq_none (by omega)] at hi; cases hi
    · refine w270 (fun d1 e1 => ?_)
      have q1 : d1 = sV d' 0 0 := e1
      have e7 : ax_row d1 9 0 0 7 = 0 := by rw [q1]; exact (mv_sVn (k := 0) (k' := 7) (by decide) d' 0).trans ((e' 7).trans (y2.1.trans (by rw [hz]; rfl)))
      rw [e7]
      refine ⟨fun _ => (m_fails _ _ _).mpr ?_, fun z => absurd rfl z⟩
      rw [q1, sV_sV]
      exact hQ _
  · have hp : mr d 2 3 = 1 := Classical.byContradiction (fun z => hz (by rw [y3 z]; rfl))
    obtain ⟨st, r0, c, b1, b2, b3, b4, b5, b6, b7, b8, b9, b10, b11⟩ := h9 hp
    obtain ⟨k, hk1⟩ : ∃ k, H.length = k + 1 := ⟨H.length - 1, by omega⟩
    obtain ⟨r, hr⟩ : ∃ r, H[k]? = some r := ⟨H[k]'(by omega), List.getElem?_eq_getElem (by omega)⟩
    obtain ⟨⟨t1, t2, t3, t4⟩, t5⟩ := b11 k r hr
    refine jn_of (r1 := Sum.inl (some (Sum.inl (nI k)))) (S := fun k i => (k = 2 ∧ i = 0) ∨ (k = 7 ∧ i = 0)) (P := fun d1 => CC d1 0 r ∧ cHist d1 f (H.take k)) (fun Q hQ => c_opUndo (f := f) (H := H) (fun i x hi => ⟨(b11 i x hi).1.1, (b11 i x hi).1.2.1⟩) hC y1 Q (fun z => absurd z hz) (fun k' r' e1 e2 d' f' c' h' => ?_)) (fun d1 o f1 p1 => m_opUndo (d := oD d1 o) (H := H) (fun i x hi => (b11 i x hi).1.1) (s := mr d 2) (Fr_mr f1 2) hk ?_ _ (fun z => absurd z hz) (fun k' r' e1 e2 d2 f2 v0 s2 mh => ?_))
    · have ek : k' = k := by omega
      subst ek
      rw [hr] at e2
      have er : r = r' := Option.some.inj e2
      subst er
      exact hQ d' f' ⟨c', h'⟩
    · exact ⟨(show mv d1 7 = mv d 7 from congrFun (Fr_mr f1 0) 7).trans y2.1, y2.2.1, fun i s hi j hj => by rw [oD_mr, Fr_mr f1]; exact y2.2.2 i s hi j hj⟩
    · have ek : k' = k := by omega
      subst ek
      rw [hr] at e2
      have er : r = r' := Option.some.inj e2
      subst er
      have fq := FQ_of f1 f2
      have s3 : mr d2 3 = mr d 3 := fq.2.1 3 (by decide) (by decide)
      refine ⟨INV_mk h3 h4 h5 h6 tx h10 fq (fun k i z => by omega) (fun j z => by omega) (fun k z => by omega) (by rw [s2]; exact CC_o f2 p1.1) (by rw [s2]; exact t4) (H' := H.take k') (f' := f) ⟨?_, mh, fun z => absurd (by rw [s2]; exact t3) z⟩ (fun _ => ⟨st, r0, c + k' - H.length, by rw [s3]; exact b1, b2, b3, b4, ?_, b6, ?_, by omega, ?_, ?_, fun j h hj => ?_⟩), f2.2.1, Or.inr ⟨_, rfl, v0, rfl⟩⟩
      · obtain ⟨u1, u2, u3, u4, u5⟩ := p1.2
        exact ⟨by rw [FrM_row f2 (by decide)]; exact u1, u2, u3, by rw [FrM_row f2 (by decide)]; exact u4, fun i s hi => Cw_row (fun j => FrM_row f2 (by decide) _ j) (u5 i s hi)⟩
      · rw [s2]; exact SP_trans (SP_sym t2) b5
      · exact FQ_Cw fq (by decide) b7
      · rw [s2, fq.1 6 0 4 (by decide) (by decide)]; exact t5
      · rw [List.length_take]; omega
      · rw [List.getElem?_take] at hj
        by_cases hlt : j < k'
        · rw [if_pos hlt] at hj
          obtain ⟨⟨v1, v2, v3, v4⟩, v5⟩ := b11 j h hj
          rw [s2, fq.1 6 0 4 (by decide) (by decide), List.length_take, show c + k' - H.length + j - min k' H.length = c + j - H.length by omega]
          exact ⟨⟨v1, SP_trans (SP_sym t2) v2, v3, v4⟩, v5⟩
        · rw [if_neg hlt] at hj; cases hj
/-- a call that may read: unplayed it is refused -/
theorem j_foresee (I : INV d n) : JN [0, 1] 127 244 [] d n := by
  have I2 := I
  obtain ⟨hC, hL, h3, ln, a, m, H, f, h4, h5, h6, ⟨x1, x2, x3⟩, ⟨y1, y2, y3⟩, h9, h10⟩ := I2
  have hk := hC.2.2
  have hm : ∀ {d1 : ax_D} {o : Int64 × UInt64} {S : Nat → Nat → Prop}, Fr S d d1 → mHist (oD d1 o) H := fun f1 => ⟨(congrFun (Fr_mr f1 0) 7).trans y2.1, y2.2.1, fun i s hi j hj => by rw [oD_mr, Fr_mr f1]; exact y2.2.2 i s hi j hj⟩
  by_cases hp : mr d 2 3 = 1
  case neg =>
    refine jq_x I 0 rfl (fun Q hQ => c_opFore (tx := mr d 10) hC hL x1 x2 h6 H Q (fun _ => hQ) (fun z => absurd z hp) (fun z => absurd z hp)) (fun d' Q e e' hQ => w244 (by
      simp only [f_mv, f_sV, f_sV', f_s2, f_s3, f_s29, f_s30, f_mr, mr_sR, mv_sV, sV_sV, sR_sR, m2, kV_r, kV_x, kI_r, kI_x, kR_r, kF_r, kD_r, forall_eq, not_true_eq_false, not_false_eq_true, false_implies, true_implies, true_and, and_true, b2i_0, b2i_1, b2i_01, b2i_t, b2i_f, decide_true, decide_false, Bool.not_true, Bool.not_false, i1_0, eq_self, reduceCtorEq, eLits, m_played, e, show plays (mr d 2) = false from decide_eq_false hp, m_fails]
      exact hQ _))
  cases hc : CS (mr d 10) ln with
  | inl g =>
    refine jn_of (r1 := Sum.inr 1) (S := SQ) (P := fun d1 => ax_row d1 4 0 1 = ax_row d 4 0 1 ∧ ax_row d1 4 0 0 1 = ax_row d 4 0 0 1) (fun Q hQ => c_opFore (tx := mr d 10) hC hL x1 x2 h6 H Q (fun z => absurd hp z) (fun _ g' _ d' f' => hQ d' (Fr_mono f'.1 (fun k i z => Or.inl z)) ⟨f'.2.1, f'.2.2 1 (by decide) (by decide) (by decide)⟩) (fun _ l hl => by rw [hc] at hl; cases hl)) (fun d1 o f1 p1 => m_opFore (d := oD d1 o) (s := mr d 2) (tx := mr d 10) (ln := ln) (H := H) (Fr_mr f1 2) hk hL (Fr_mr f1 10) ((congrFun (Fr_mr f1 0) 10).trans x3) h6 (fun _ => hm f1) _ (fun z => absurd hp z) (fun _ g' _ d2 f2 v0 v7 => ?_) (fun _ l hl => by rw [hc] at hl; cases hl))
    have f2' : FrM RQ (fun k => KQ' k ∨ k = 7) (oD d1 o) d2 := FrM_mono f2 (fun j z => by unfold S21 at z; unfold RQ; omega) (fun k z => by unfold KF at z; unfold KQ'; omega)
    have f2q : FrM RQ KQ' (oD d1 o) d2 := ⟨f2'.1, f2'.2.1, f2'.2.2.1, fun k hk => by
      by_cases e7 : k = 7
      · rw [e7]; exact v7
      · exact f2'.2.2.2 k (fun z => z.elim hk e7)⟩
    refine ⟨INV_keep I (FQ_of f1 f2q) ?_ ?_, f2.2.1, Or.inl ⟨1, 1, 0, rfl, rfl, v0, rfl⟩⟩
    · rw [FrM_row f2 (by decide)]; exact p1.1
    · rw [FrM_row f2 (by decide)]; exact p1.2
  | inr l =>
    refine jn_of (r1 := Sum.inl (some (Sum.inl (nI (CO l (mr d 2) H 0).2.2.1)))) (S := SQ) (P := fun d1 => ax_row d1 4 0 1 = ax_row d 4 0 1 ∧ ax_row d1 4 0 0 1 = ax_row d 4 0 0 1) (fun Q hQ => c_opFore (tx := mr d 10) hC hL x1 x2 h6 H Q (fun z => absurd hp z) (fun _ g hg => by rw [hc] at hg; cases hg) (fun _ l' hl' d' f' t1 t2 => ?_)) (fun d1 o f1 p1 => m_opFore (d := oD d1 o) (s := mr d 2) (tx := mr d 10) (ln := ln) (H := H) (Fr_mr f1 2) hk hL (Fr_mr f1 10) ((congrFun (Fr_mr f1 0) 10).trans x3) h6 (fun _ => hm f1) _ (fun z => absurd hp z) (fun _ g hg => by rw [hc] at hg; cases hg) (fun _ l' hl' d2 f2 v0 s2 mh => ?_))
    · rw [hc] at hl'
      have el : l = l' := Sum.inr.inj hl'
      subst el
      exact hQ d' f' ⟨t1.trans x1.symm, t2.trans x2.symm⟩
    · rw [hc] at hl'
      have el : l = l' := Sum.inr.inj hl'
      subst el
      have fq := FQ_of f1 f2
      have nR : ∀ j, j = 3 ∨ j = 4 ∨ j = 5 ∨ j = 10 → ¬ RF j := fun j h z => by unfold RF S21 at z; omega
      have nK : ∀ k, 8 ≤ k → k ≤ 14 → ¬ KF k := fun k h1 h2 z => by unfold KF at z; omega
      have nS : ∀ k i, k ≠ 4 → k ≠ 0 → (k = 7 → i < 15) → ¬ SQ k i := fun k i q1 q2 q3 z => by
        rcases z with z | z | z
        · exact q1 z.1
        · have := q3 z.1; omega
        · exact q2 z.1
      have s3 : mr d2 3 = mr d 3 := fq.2.1 3 (by decide) (nR 3 (by omega))
      refine ⟨⟨?_, ?_, FQ_FLT fq (nS 8 0 (by decide) (by decide) (by omega)) (fun k a b => nK k (by omega) (by omega)) h3, ln, a, m, H, f, h4, h5, h6, ⟨?_, ?_, ?_⟩, ⟨?_, mh, ?_⟩, ?_, ?_⟩, f2.2.1, Or.inr ⟨_, rfl, v0, rfl⟩⟩
      · rw [s2]; exact FQ_CC fq (nS 7 0 (by decide) (by decide) (by omega)) (nS 3 _ (by decide) (by decide) (by omega)) hC
      · rw [s2]; exact hL
      · rw [FrM_row f2 (by decide), p1.1, fq.2.1 10 (by decide) (nR 10 (by omega))]; exact x1
      · rw [FrM_row f2 (by decide), p1.2]; exact x2
      · rw [fq.2.2 10 (nK 10 (by omega) (by omega))]; exact x3
      · exact FQ_cHist fq (nS 2 0 (by decide) (by decide) (by omega)) (fun i _ => nS 7 _ (by decide) (by decide) (fun _ => by have := Nat.mod_lt (f + i) (show 0 < 11 by decide); omega)) y1
      · rw [s2]; exact y3
      · rw [s2, s3]; exact FQ_BEG fq (nS 7 _ (by decide) (by decide) (by omega)) (nS 6 0 (by decide) (by decide) (by omega)) h9
      · exact FQ_SAV fq (congrFun (fq.1 8 0 0 (by decide) (nS 8 0 (by decide) (by decide) (by omega))) 2) (nK 8 (by omega) (by omega)) (nR 4 (by omega)) (nR 5 (by omega)) (nS 7 2 (by decide) (by decide) (by omega)) (nS 7 3 (by decide) (by decide) (by omega)) (nS 3 1 (by decide) (by decide) (by omega)) (nS 6 1 (by decide) (by decide) (by omega)) h10
theorem vis_set {s : Row} (hT : nT s ≤ 16) (n a : Int32) : setI (namedP s n a) (nT s) &&& setI (seen s) (nT s) = setI (vis s n a) (nT s) := by
  rw [setI_and (by omega)]
  refine setI_cong (fun i _ => ?_)
  unfold namedP vis
  rw [Bool.and_assoc]
theorem j_matching (I : INV d n) : JN [0, 1] 137 253 [] d n := by
  have I2 := I
  obtain ⟨hC, hL, ⟨g7, g8, g9, g10⟩, ln, a, m, H, f, h4, h5, h6, ⟨x1, x2, x3⟩, ⟨y1, y2, y3⟩, h9, h10⟩ := I2
  have hk := hC.2.2
  by_cases hp : mr d 2 3 = 1
  case neg =>
    refine jq_x I 0 rfl (fun Q hQ => c_opMatch (tx := mr d 10) hC x1 x2 h6 Q (fun _ => hQ) (fun z => absurd z hp) (fun z => absurd z hp)) (fun d' Q e e' hQ => w253 (by
      simp only [f_mv, f_sV, f_sV', f_s2, f_s3, f_s29, f_s30, f_mr, mr_sR, mv_sV, sV_sV, sR_sR, m2, kV_r, kV_x, kI_r, kI_x, kR_r, kF_r, kD_r, forall_eq, not_true_eq_false, not_false_eq_true, false_implies, true_implies, true_and, and_true, b2i_0, b2i_1, b2i_01, b2i_t, b2i_f, decide_true, decide_false, Bool.not_true, Bool.not_false, i1_0, eq_self, reduceCtorEq, eLits, m_played, e, show plays (mr d 2) = false from decide_eq_false hp, m_fails]
      exact hQ _))
  -- what both leave behind
  have fin : ∀ {d1 d2 : ax_D} {o : Int64 × UInt64} (v : Int32), Fr (fun k i => (k = 4 ∧ i = 0) ∨ (k = 8 ∧ i = 0)) d d1 → ax_row d1 4 0 1 = mr d 10 → ax_row d1 4 0 0 1 = 0 → ax_row d1 8 0 0 = upd (ax_row d 8 0 0) 7 v → FrM (fun _ => False) (fun k => k = 0 ∨ k = 10 ∨ k = 11 ∨ (15 ≤ k ∧ k ≤ 19)) (oD d1 o) d2 → mv d2 10 = 0 → mv d2 11 = v → INV d2 n := by
    intro d1 d2 o v f1 t1 t2 t8 f2 v10 v11
    have fq := FQ_of f1 f2
    have nS : ∀ k i, k ≠ 4 → k ≠ 8 → ¬ ((k = 4 ∧ i = 0) ∨ (k = 8 ∧ i = 0)) := fun k i q1 q2 z => z.elim (fun y => q1 y.1) (fun y => q2 y.1)
    have nK : ∀ k, k ≠ 0 → k ≠ 10 → k ≠ 11 → k < 15 → ¬ (k = 0 ∨ k = 10 ∨ k = 11 ∨ (15 ≤ k ∧ k ≤ 19)) := fun k _ _ _ _ z => by omega
    have s2 : mr d2 2 = mr d 2 := fq.2.1 2 (by decide) (fun z => z)
    have s3 : mr d2 3 = mr d 3 := fq.2.1 3 (by decide) (fun z => z)
    have r8 : ax_row d2 8 0 0 = upd (ax_row d 8 0 0) 7 v := (FrM_row f2 (by decide) 0 0).trans t8
    refine ⟨?_, ?_, ⟨?_, ?_, ?_, ?_⟩, 0, 0, a + m, H, f, by omega, by omega, by omega, ⟨?_, ?_, ?_⟩, ⟨?_, ?_, ?_⟩, ?_, ?_⟩
    · rw [s2]; exact FQ_CC fq (nS 7 0 (by decide) (by decide)) (nS 3 _ (by decide) (by decide)) hC
    · rw [s2]; exact hL
    · rw [r8, upd_s, v11]
    · rw [r8, upd_n (by decide), fq.2.2 12 (nK 12 (by decide) (by decide) (by decide) (by decide))]; exact g8
    · rw [r8, upd_n (by decide), fq.2.2 13 (nK 13 (by decide) (by decide) (by decide) (by decide))]; exact g9
    · rw [r8, upd_n (by decide), fq.2.2 14 (nK 14 (by decide) (by decide) (by decide) (by decide))]; exact g10
    · rw [FrM_row f2 (by decide), t1, fq.2.1 10 (by decide) (fun z => z)]
    · rw [FrM_row f2 (by decide), t2]; rfl
    · rw [v10]; rfl
    · exact FQ_cHist fq (nS 2 0 (by decide) (by decide)) (fun i _ => nS 7 _ (by decide) (by decide)) y1
    · exact FQ_mHist fq (fun z => z) (nK 7 (by decide) (by decide) (by decide) (by decide)) y2
    · rw [s2]; exact y3
    · rw [s2, s3]; exact BEG_mono (FQ_BEG fq (nS 7 _ (by decide) (by decide)) (nS 6 0 (by decide) (by decide)) h9) (by omega)
    · refine SAV_mono (FQ_SAV fq ?_ (nK 8 (by decide) (by decide) (by decide) (by decide)) (fun z => z) (fun z => z) (nS 7 2 (by decide) (by decide)) (nS 7 3 (by decide) (by decide)) (nS 3 1 (by decide) (by decide)) (nS 6 1 (by decide) (by decide)) h10) (by omega)
      rw [r8, upd_n (by decide)]
  cases hc : OP (mr d 10) ln with
  | inl g =>
    refine jn_of (r1 := Sum.inr 1) (S := fun k i => (k = 4 ∧ i = 0) ∨ (k = 8 ∧ i = 0)) (P := fun d1 => ax_row d1 4 0 1 = mr d 10 ∧ ax_row d1 4 0 0 1 = 0 ∧ ax_row d1 8 0 0 = upd (ax_row d 8 0 0) 7 (nI g)) (fun Q hQ => c_opMatch (tx := mr d 10) hC x1 x2 h6 Q (fun z => absurd hp z) (fun _ g' hg' d' f' t1 t2 t3 => ?_) (fun _ x hx => by rw [hc] at hx; cases hx)) (fun d1 o f1 p1 => m_opMatch (d := oD d1 o) (s := mr d 2) (tx := mr d 10) (ln := ln) (Fr_mr f1 2) hk (Fr_mr f1 10) ((congrFun (Fr_mr f1 0) 10).trans x3) h6 _ (fun z => absurd hp z) (fun _ g' hg' d2 f2 v0 v10 v11 => ?_) (fun _ x hx => by rw [hc] at hx; cases hx))
    · rw [hc] at hg'
      have e : g = g' := Sum.inl.inj hg'
      subst e
      exact hQ d' f' ⟨t1, t2, t3⟩
    · rw [hc] at hg'
      have e : g = g' := Sum.inl.inj hg'
      subst e
      exact ⟨fin (nI g) f1 p1.1 p1.2.1 p1.2.2 f2 v10 v11, f2.2.1, Or.inl ⟨1, 1, 0, rfl, rfl, v0, rfl⟩⟩
  | inr x =>
    refine jn_of (r1 := Sum.inl (some (Sum.inl (setI (vis (mr d 2) (nI (x % 8)) (nI (x / 8))) (nT (mr d 2)))))) (S := fun k i => (k = 4 ∧ i = 0) ∨ (k = 8 ∧ i = 0)) (P := fun d1 => ax_row d1 4 0 1 = mr d 10 ∧ ax_row d1 4 0 0 1 = 0 ∧ ax_row d1 8 0 0 = upd (ax_row d 8 0 0) 7 (-1)) (fun Q hQ => c_opMatch (tx := mr d 10) hC x1 x2 h6 Q (fun z => absurd hp z) (fun _ g hg => by rw [hc] at hg; cases hg) (fun _ x' hx' _ d' f' t1 t2 t3 => ?_)) (fun d1 o f1 p1 => m_opMatch (d := oD d1 o) (s := mr d 2) (tx := mr d 10) (ln := ln) (Fr_mr f1 2) hk (Fr_mr f1 10) ((congrFun (Fr_mr f1 0) 10).trans x3) h6 _ (fun z => absurd hp z) (fun _ g hg => by rw [hc] at hg; cases hg) (fun _ x' hx' _ d2 f2 v0 v10 v11 => ?_))
    · rw [hc] at hx'
      have e : x = x' := Sum.inr.inj hx'
      subst e
      rw [vis_set (Ok_T hk).2]
      exact hQ d' f' ⟨t1, t2, t3⟩
    · rw [hc] at hx'
      have e : x = x' := Sum.inr.inj hx'
      subst e
      exact ⟨fin (-1) f1 p1.1 p1.2.1 p1.2.2 f2 v10 v11, f2.2.1, Or.inr ⟨_, rfl, v0, rfl⟩⟩
theorem j_command (I : INV d n) (hn : n ≤ 512) : JN [0, 1] 112 233 [] d n := by
  have I2 := I
  obtain ⟨hC, hL, ⟨g7, g8, g9, g10⟩, ln, a, m, H, f, h4, h5, h6, ⟨x1, x2, x3⟩, ⟨y1, y2, y3⟩, h9, h10⟩ := I2
  have hk := hC.2.2
  have hm : ∀ {d1 : ax_D} {o : Int64 × UInt64} {S : Nat → Nat → Prop}, Fr S d d1 → mHist (oD d1 o) H := fun f1 => ⟨(congrFun (Fr_mr f1 0) 7).trans y2.1, y2.2.1, fun i s hi j hj => by rw [oD_mr, Fr_mr f1]; exact y2.2.2 i s hi j hj⟩
  by_cases hp : mr d 2 3 = 1
  case neg =>
    refine jq_x I 0 rfl (fun Q hQ => c_opCmd (f := f) (H := H) (tx := mr d 10) hC hL x1 x2 h6 (fun _ => y1) Q (fun _ => hQ) (fun z => absurd z hp) (fun z => absurd z hp)) (fun d' Q e e' hQ => w233 (by
      simp only [f_mv, f_sV, f_sV', f_s2, f_s3, f_s29, f_s30, f_mr, mr_sR, mv_sV, sV_sV, sR_sR, m2, kV_r, kV_x, kI_r, kI_x, kR_r, kF_r, kD_r, forall_eq, not_true_eq_false, not_false_eq_true, false_implies, true_implies, true_and, and_true, b2i_0, b2i_1, b2i_01, b2i_t, b2i_f, decide_true, decide_false, Bool.not_true, Bool.not_false, i1_0, eq_self, reduceCtorEq, eLits, m_played, e, show plays (mr d 2) = false from decide_eq_false hp, m_fails]
      exact hQ _))
  have nR : ∀ j, j = 3 ∨ j = 4 ∨ j = 5 ∨ j = 10 → ¬ RC j := fun j h z => by unfold RC S21 at z; omega
  have nK8 : ¬ KC 8 := fun z => by unfold KC at z; omega
  have nSY : ∀ k i, (k = 3 ∨ (k = 7 ∧ (i = 1 ∨ i = 2 ∨ i = 3)) ∨ (k = 6 ∧ i = 1)) → ¬ SY k i := fun k i q z => by unfold SY SX at z; omega
  cases hc : CS (mr d 10) ln with
  | inl g =>
    refine jn_of (r1 := Sum.inr 1) (S := fun k i => (k = 4 ∧ i = 0) ∨ (k = 8 ∧ i = 0)) (P := fun d1 => ax_row d1 4 0 1 = mr d 10 ∧ ax_row d1 4 0 0 1 = 0 ∧ ax_row d1 8 0 0 = upd (ax_row d 8 0 0) 7 (nI g)) (fun Q hQ => c_opCmd (f := f) (H := H) (tx := mr d 10) hC hL x1 x2 h6 (fun _ => y1) Q (fun z => absurd hp z) (fun _ g' hg' _ d' f' t1 t2 t3 => ?_) (fun _ l hl => by rw [hc] at hl; cases hl)) (fun d1 o f1 p1 => m_opCmd (d := oD d1 o) (s := mr d 2) (tx := mr d 10) (ln := ln) (H := H) (Fr_mr f1 2) hk hL (Fr_mr f1 10) ((congrFun (Fr_mr f1 0) 10).trans x3) h6 (fun _ => hm f1) (fun l hl => CS_ok h6 l hl) _ (fun z => absurd hp z) (fun _ g' hg' d2 f2 v0 s2 v7 r7 v10 v11 v12 v13 v14 => ?_) (fun _ l hl => by rw [hc] at hl; cases hl))
    · rw [hc] at hg'
      have e : g = g' := Sum.inl.inj hg'
      subst e
      exact hQ d' f' ⟨t1, t2, t3⟩
    · rw [hc] at hg'
      have e : g = g' := Sum.inl.inj hg'
      subst e
      have fq := FQ_of f1 f2
      have nS : ∀ k i, k ≠ 4 → k ≠ 8 → ¬ ((k = 4 ∧ i = 0) ∨ (k = 8 ∧ i = 0)) := fun k i q1 q2 z => z.elim (fun y => q1 y.1) (fun y => q2 y.1)
      have s3 : mr d2 3 = mr d 3 := fq.2.1 3 (by decide) (nR 3 (by omega))
      have e0 : ∀ k, mv (oD d1 o) k = mv d k := fun k => congrFun (Fr_mr f1 0) k
      have r8 : ax_row d2 8 0 0 = upd (ax_row d 8 0 0) 7 (nI g) := (FrM_row f2 (by decide) 0 0).trans p1.2.2
      refine ⟨⟨?_, ?_, ⟨?_, ?_, ?_, ?_⟩, 0, 0, a + m, H, f, by omega, by omega, by omega, ⟨?_, ?_, ?_⟩, ⟨?_, ⟨?_, y2.2.1, fun i s hi k hk => ?_⟩, ?_⟩, ?_, ?_⟩, f2.2.1, Or.inl ⟨1, 1, 0, rfl, rfl, v0, rfl⟩⟩
      · rw [s2]; exact FQ_CC fq (nS 7 0 (by decide) (by decide)) (nS 3 _ (by decide) (by decide)) hC
      · rw [s2]; exact hL
      · rw [r8, upd_s, v11]
      · rw [r8, upd_n (by decide), v12, e0]; exact g8
      · rw [r8, upd_n (by decide), v13, e0]; exact g9
      · rw [r8, upd_n (by decide), v14, e0]; exact g10
      · rw [FrM_row f2 (by decide), p1.1, fq.2.1 10 (by decide) (nR 10 (by omega))]
      · rw [FrM_row f2 (by decide), p1.2.1]; rfl
      · rw [v10]; rfl
      · exact FQ_cHist fq (nS 2 0 (by decide) (by decide)) (fun i _ => nS 7 _ (by decide) (by decide)) y1
      · rw [v7, e0]; exact y2.1
      · rw [r7, oD_mr, Fr_mr f1]; exact y2.2.2 i s hi k hk
      · rw [s2]; exact y3
      · rw [s2, s3]; exact BEG_mono (FQ_BEG fq (nS 7 _ (by decide) (by decide)) (nS 6 0 (by decide) (by decide)) h9) (by omega)
      · refine SAV_mono (FQ_SAV fq ?_ nK8 (nR 4 (by omega)) (nR 5 (by omega)) (nS 7 2 (by decide) (by decide)) (nS 7 3 (by decide) (by decide)) (nS 3 1 (by decide) (by decide)) (nS 6 1 (by decide) (by decide)) h10) (by omega)
        rw [r8, upd_n (by decide)]
  | inr l =>
    obtain ⟨hl4, hv⟩ := CSN_ok 22 0 l (Nat.zero_le _) hc
    obtain ⟨st, r0, c, b1, b2, b3, b4, b5, b6, b7, b8, b9, b10, b11⟩ := h9 hp
    have gd := CO_gd l (mr d 2) H 0 hk hp hL hv
    obtain ⟨k', k1, k2, k3⟩ := CO_RL l (mr d 2) H 0 (ax_row d 6 0 4) c hk hp hL hv b9 (by omega) ⟨y2.2.1, b10, b11⟩
    have hw0 := CO_0 l (mr d 2) H 0
    refine jn_of (r1 := Sum.inl (some (Sum.inl (nI (CO l (mr d 2) H 0).2.2.1)))) (S := SY) (P := fun d1 => CC d1 0 (CO l (mr d 2) H 0).1 ∧ (∃ f', cHist d1 f' (CO l (mr d 2) H 0).2.1) ∧ ax_row d1 6 0 4 = TO l (mr d 2) (ax_row d 6 0 4) ∧ ax_row d1 8 0 0 = refR (cmd0 (ax_row d 8 0 0)) (CO l (mr d 2) H 0).2.2.2.1 (CO l (mr d 2) H 0).2.2.2.2 (CO l (mr d 2) H 0).2.2.1 ∧ ax_row d1 4 0 1 = mr d 10 ∧ ax_row d1 4 0 0 1 = 0) (fun Q hQ => c_opCmd (f := f) (H := H) (tx := mr d 10) hC hL x1 x2 h6 (fun _ => y1) Q (fun z => absurd hp z) (fun _ g hg => by rw [hc] at hg; cases hg) (fun _ l' hl' d' f' fr c1 c2 c3 c4 c5 c6 => ?_)) (fun d1 o f1 p1 => m_opCmd (d := oD d1 o) (s := mr d 2) (tx := mr d 10) (ln := ln) (H := H) (Fr_mr f1 2) hk hL (Fr_mr f1 10) ((congrFun (Fr_mr f1 0) 10).trans x3) h6 (fun _ => hm f1) (fun l hl => CS_ok h6 l hl) _ (fun z => absurd hp z) (fun _ g hg => by rw [hc] at hg; cases hg) (fun _ l' hl' d2 f2 v0 s2 mh v10 v11 v12 v13 v14 => ?_))
    · rw [hc] at hl'
      have el : l = l' := Sum.inr.inj hl'
      subst el
      exact hQ d' fr ⟨c1, ⟨f', c2⟩, c3, c4, c5, c6⟩
    · rw [hc] at hl'
      have el : l = l' := Sum.inr.inj hl'
      subst el
      obtain ⟨p1, ⟨f', p2⟩, p3, p4, p5, p6⟩ := p1
      revert gd k2 k3 hw0 s2 mh v12 v13 v14 p1 p2 p4
      generalize CO l (mr d 2) H 0 = R
      intro gd k2 k3 hw0 s2 mh v12 v13 v14 p1 p2 p4
      have fq := FQ_of f1 f2
      have s3 : mr d2 3 = mr d 3 := fq.2.1 3 (by decide) (nR 3 (by omega))
      have r8 : ax_row d2 8 0 0 = refR (cmd0 (ax_row d 8 0 0)) R.2.2.2.1 R.2.2.2.2 R.2.2.1 := (FrM_row f2 (by decide) 0 0).trans p4
      have h3R : R.1 3 = 1 := gd.1.2.2
      have x8 : ax_row d2 8 0 0 7 = -1 ∧ ax_row d2 8 0 0 8 = R.2.2.2.1 ∧ ax_row d2 8 0 0 9 = R.2.2.2.2 ∧ ax_row d2 8 0 0 10 = (if R.2.2.2.1 = 0 then -1 else nI R.2.2.1) ∧ ax_row d2 8 0 0 2 = ax_row d 8 0 0 2 := by
        rw [r8]
        unfold refR cmd0
        by_cases hw : R.2.2.2.1 = 0
        · rw [if_pos hw, if_pos hw, hw0 hw, hw]
          refine ⟨?_, ?_, ?_, ?_, ?_⟩
          · rw [upd_n (by decide), upd_n (by decide), upd_n (by decide), upd_s]
          · rw [upd_n (by decide), upd_n (by decide), upd_s]
          · rw [upd_n (by decide), upd_s]
          · rw [upd_s]
          · rw [upd_n (by decide), upd_n (by decide), upd_n (by decide), upd_n (by decide)]
        · rw [if_neg hw, if_neg hw]
          refine ⟨?_, ?_, ?_, ?_, ?_⟩
          · rw [upd_n (by decide), upd_n (by decide), upd_n (by decide), upd_n (by decide), upd_n (by decide), upd_n (by decide), upd_s]
          · rw [upd_n (by decide), upd_n (by decide), upd_s]
          · rw [upd_n (by decide), upd_s]
          · rw [upd_s]
          · rw [upd_n (by decide), upd_n (by decide), upd_n (by decide), upd_n (by decide), upd_n (by decide), upd_n (by decide), upd_n (by decide)]
      obtain ⟨z7, z8, z9, z10, z2⟩ := x8
      refine ⟨⟨?_, ?_, ⟨?_, ?_, ?_, ?_⟩, 0, 0, a + m, R.2.1, f', by omega, by omega, by omega, ⟨?_, ?_, ?_⟩, ⟨?_, mh, fun z => absurd (by rw [s2]; exact h3R) z⟩, fun _ => ⟨st, r0, k', by rw [s3]; exact b1, b2, b3, b4, ?_, b6, ?_, by omega, ?_, k3.2.1, fun j h hj => ?_⟩, ?_⟩, f2.2.1, Or.inr ⟨_, rfl, v0, rfl⟩⟩
      · rw [s2]; exact CC_o f2 p1
      · rw [s2]; exact gd.2
      · rw [z7, v11]
      · rw [z8, v12]
      · rw [z9, v13]
      · rw [z10, v14]
      · rw [FrM_row f2 (by decide), p5, fq.2.1 10 (by decide) (nR 10 (by omega))]
      · rw [FrM_row f2 (by decide), p6]; rfl
      · rw [v10]; rfl
      · obtain ⟨u1, u2, u3, u4, u5⟩ := p2
        exact ⟨by rw [FrM_row f2 (by decide)]; exact u1, u2, u3, by rw [FrM_row f2 (by decide)]; exact u4, fun i s hi => Cw_row (fun j => FrM_row f2 (by decide) _ j) (u5 i s hi)⟩
      · rw [s2]; exact SP_trans (SP_sym gd.1.2.1) b5
      · exact FQ_Cw fq (nSY 7 _ (by omega)) b7
      · rw [s2, FrM_row f2 (by decide), p3]; exact k2
      · rw [s2, FrM_row f2 (by decide), p3]; exact k3.2.2 j h hj
      · exact SAV_mono (FQ_SAV fq z2 nK8 (nR 4 (by omega)) (nR 5 (by omega)) (nSY 7 2 (by omega)) (nSY 7 3 (by omega)) (nSY 3 1 (by omega)) (nSY 6 1 (by omega)) h10) (by omega)
end OPS
