/-! begin, stop, save, restore: both sides -/
theorem FrM_row {R K : Nat → Prop} {d1 d2 : ax_D} {o : Int64 × UInt64} (h : FrM R K (oD d1 o) d2) {k : Nat} (h9 : k ≠ 9) (i j : Nat) : ax_row d2 k i j = ax_row d1 k i j := by
  unfold ax_row
  rw [ax_beq_ne h9, h.1]
  rfl
theorem CC_o {R K : Nat → Prop} {d1 d2 : ax_D} {o : Int64 × UInt64} (h : FrM R K (oD d1 o) d2) {w : Nat} {s : Row} (hc : CC d1 w s) : CC d2 w s := ⟨Cp_row (fun j => FrM_row h (by decide) _ j) hc.1, Cw_row (fun j => FrM_row h (by decide) _ j) hc.2.1, hc.2.2⟩
theorem INV_fin {S : Nat → Nat → Prop} {R K : Nat → Prop} {d d2 : ax_D} {n : Nat} (I : INV d n) (fq : FQ S R K d d2) (hS : ∀ k i, S k i → (k = 7 ∧ i ≠ 2 ∧ i ≠ 3) ∨ (k = 3 ∧ i = 0) ∨ k = 2 ∨ (k = 6 ∧ i = 0) ∨ k = 0) (hR : ∀ j, R j → j ≠ 10 ∧ j ≠ 4 ∧ j ≠ 5) (hK : ∀ k, K k → k < 8 ∨ 14 < k ∨ k = 9) (hC : CC d2 0 (mr d2 2)) (hL : load (mr d2 2) ≤ 20)
    (hH : ∀ m H f, m ≤ n → HIS d H f → BEG d 0 (mr d 2) H (mr d 3) m → ∃ H' f', HIS d2 H' f' ∧ BEG d2 0 (mr d2 2) H' (mr d2 3) m) : INV d2 n := by
  obtain ⟨-, -, h3, ln, a, m, H, f, h4, h5, h6, ⟨x1, x2, x3⟩, y, h9, h10⟩ := I
  have nS : ∀ k i, (k = 8 ∨ k = 4 ∨ (k = 7 ∧ (i = 2 ∨ i = 3)) ∨ (k = 3 ∧ i = 1) ∨ (k = 6 ∧ i = 1)) → ¬ S k i := fun k i q z => by have := hS k i z; omega
  have nR : ∀ j, j = 10 ∨ j = 4 ∨ j = 5 → ¬ R j := fun j q z => by have := hR j z; omega
  have nK : ∀ k, 8 ≤ k → k ≤ 14 → k ≠ 9 → ¬ K k := fun k q1 q2 q3 z => by have := hK k z; omega
  obtain ⟨H', f', g1, g2⟩ := hH m H f (by omega) y h9
  refine ⟨hC, hL, FQ_FLT fq (nS 8 0 (by omega)) (fun k a b => nK k (by omega) (by omega) (by omega)) h3, ln, a, m, H', f', h4, h5, h6, ⟨?_, ?_, ?_⟩, g1, g2, ?_⟩
  · rw [fq.1 4 0 1 (by decide) (nS 4 0 (by omega)), fq.2.1 10 (by decide) (nR 10 (by omega))]; exact x1
  · rw [fq.1 4 0 0 (by decide) (nS 4 0 (by omega))]; exact x2
  · rw [fq.2.2 10 (nK 10 (by omega) (by omega) (by omega))]; exact x3
  · exact FQ_SAV fq (congrFun (fq.1 8 0 0 (by decide) (nS 8 0 (by omega))) 2) (nK 8 (by omega) (by omega) (by omega)) (nR 4 (by omega)) (nR 5 (by omega)) (nS 7 2 (by omega)) (nS 7 3 (by omega)) (nS 3 1 (by omega)) (nS 6 1 (by omega)) h10
theorem INV_mk {S : Nat → Nat → Prop} {R K : Nat → Prop} {d d2 : ax_D} {n ln a m : Nat} (h3 : FLT d) (h4 : a + m ≤ n) (h5 : ln ≤ 4 * a) (h6 : ln ≤ 80) (x : TXT d ln) (h10 : SAV d m) (fq : FQ S R K d d2) (hS : ∀ k i, S k i → (k = 7 ∧ i ≠ 2 ∧ i ≠ 3) ∨ (k = 3 ∧ i = 0) ∨ k = 2 ∨ (k = 6 ∧ i = 0) ∨ k = 0) (hR : ∀ j, R j → j ≠ 10 ∧ j ≠ 4 ∧ j ≠ 5) (hK : ∀ k, K k → k < 8 ∨ 14 < k ∨ k = 9) (hC : CC d2 0 (mr d2 2)) (hL : load (mr d2 2) ≤ 20) {H' : List Row} {f' : Nat} (g1 : HIS d2 H' f') (g2 : BEG d2 0 (mr d2 2) H' (mr d2 3) m) : INV d2 n := by
  obtain ⟨x1, x2, x3⟩ := x
  have nS : ∀ k i, (k = 8 ∨ k = 4 ∨ (k = 7 ∧ (i = 2 ∨ i = 3)) ∨ (k = 3 ∧ i = 1) ∨ (k = 6 ∧ i = 1)) → ¬ S k i := fun k i q z => by have := hS k i z; omega
  have nR : ∀ j, j = 10 ∨ j = 4 ∨ j = 5 → ¬ R j := fun j q z => by have := hR j z; omega
  have nK : ∀ k, 8 ≤ k → k ≤ 14 → k ≠ 9 → ¬ K k := fun k q1 q2 q3 z => by have := hK k z; omega
  refine ⟨hC, hL, FQ_FLT fq (nS 8 0 (by omega)) (fun k a b => nK k (by omega) (by omega) (by omega)) h3, ln, a, m, H', f', h4, h5, h6, ⟨?_, ?_, ?_⟩, g1, g2, ?_⟩
  · rw [fq.1 4 0 1 (by decide) (nS 4 0 (by omega)), fq.2.1 10 (by decide) (nR 10 (by omega))]; exact x1
  · rw [fq.1 4 0 0 (by decide) (nS 4 0 (by omega))]; exact x2
  · rw [fq.2.2 10 (nK 10 (by omega) (by omega) (by omega))]; exact x3
  · exact FQ_SAV fq (congrFun (fq.1 8 0 0 (by decide) (nS 8 0 (by omega))) 2) (nK 8 (by omega) (by omega) (by omega)) (nR 4 (by omega)) (nR 5 (by omega)) (nS 7 2 (by omega)) (nS 7 3 (by omega)) (nS 3 1 (by omega)) (nS 6 1 (by omega)) h10
theorem RL_cong {T T' b s : Row} {c : Nat} (h : RL T b s c) (hT : ∀ i, i < c → T' i = T i) : RL T' b s c := by
  obtain ⟨L, h1, h2, h3, h4⟩ := h
  refine ⟨L, h1, h2, fun i x hx => ?_, h4⟩
  have hi : i < L.length := by
    rcases Nat.lt_or_ge i L.length with q | q
    · exact q
    · rw [List.getElem?_eq_none q] at hx; cases hx
  rw [hT i (by omega)]
  exact h3 i x hx
section ST
variable {d : ax_D} {n : Nat}
theorem m_begin {d : ax_D} {s : Row} (hs : mr d 2 = s) (hk : Ok s) {r : Nat} (Q : ax_P) (hQ : ∀ d', FrM (fun j => j = 2 ∨ j = 3) (fun k => k = 7) d d' → mr d' 2 = bgS s r → eqR (mr d' 3) s → mv d' 7 = 0 → Q d' (Sum.inl (some (Sum.inl (s 1))))) : h210_34 (nI r) 0 d Q := by
  have hD := Pk_D hk.1
  have e7 : ∀ k, (sR d 3 (frS (mr d 3) s k)).1 = d.1 := fun _ => rfl
  -- the daemons
  have dm : ∀ x : ax_D, FrM (fun j => j = 2 ∨ j = 3) (fun k => k = 7) d x → eqR (mr x 3) s → mv x 7 = 0 → mr x 2 = bgK s r 0 → h210_95 (nI r) 0 x Q := by
    intro x fx q3 q7 q2
    have key := lp_up (fun i => ∀ y : ax_D, FrM (fun j => j = 2 ∨ j = 3) (fun k => k = 7) d y → eqR (mr y 3) s → mv y 7 = 0 → mr y 2 = bgK s r i → h210_95 (nI r) (nI i) y Q) (nD s) ?_ ?_ 0 (Nat.zero_le _)
    · exact key x fx q3 q7 q2
    · intro y fy y3 y7 y2
      refine w210_95 _ _ ?_
      have k2 : bgK s r (nD s) 2 = nI (nD s) := (bgK_n hD.2 (Or.inl (by omega))).trans hD.1
      have k1 : bgK s r (nD s) 1 = s 1 := bgK_n hD.2 (Or.inl (by omega))
      simp only [f_mv, f_sV, f_sV', f_s2, f_s3, f_s29, f_s30, f_mr, mr_sR, mv_sV, sV_sV, sR_sR, m2, y2, k2, k1]
      exact ⟨fun _ => hQ y fy (y2.trans (bgS_K s r).symm) y3 y7, fun z => absurd (nI_le (Nat.le_refl _) (by omega)) z⟩
    · intro i hi ih y fy y3 y7 y2
      have hi6 : i < 6 := by omega
      refine w210_95 _ _ ?_
      have k2 : bgK s r i 2 = nI (nD s) := (bgK_n (by omega) (Or.inl (by omega))).trans hD.1
      simp only [f_mv, f_mr, y2, k2]
      refine ⟨fun z => absurd z (nI_ge hi (by omega)), fun _ => ⟨in_299 hi6, ⟨in_311 hi6, fun x1 g1 => ⟨in_317 hi6, fun x2 g2 => ⟨in_323 hi6, fun x3 g3 => ?_⟩⟩⟩⟩⟩
      rw [cl_311 hi6, cl_299 hi6, bgK_n (show i ≤ 6 by omega) (Or.inr (Or.inl ⟨by omega, by omega⟩))] at g1
      rw [cl_317 hi6] at g2
      rw [cl_323 hi6] at g3
      have k1 : x1 = sR y 2 (upd (bgK s r i) (311 + i) (s (299 + i))) := g1
      have k2 : x2 = sR x1 2 (upd (mr x1 2) (317 + i) (-1)) := g2
      have k3 : x3 = sR x2 2 (upd (mr x2 2) (323 + i) 0) := g3
      rw [k1, mr_sR, sR_sR] at k2
      rw [k2, mr_sR, sR_sR, bgK_succ hi6] at k3
      rw [show nI i + 1 = nI (i + 1) from nI_add i 1, k3]
      refine ih _ (FrM_trans fy (FrM_R y (by decide) (Or.inl rfl) _)) ?_ ?_ (mr_sR _ _ _)
      · rw [mr_sRn (by decide)]; exact y3
      · rw [mv_sR (by decide)]; exact y7
  have key := lp_up (fun i => h210_34 (nI r) (nI i) (sR d 3 (frS (mr d 3) s i)) Q) 369 ?_ ?_ 0 (Nat.zero_le _)
  · have key : h210_34 (nI r) (nI 0) (sR d 3 (frS (mr d 3) s 0)) Q := key
    rw [frS_0, sR_id d 3 rfl] at key
    exact key
  · refine w210_34 _ _ ⟨fun _ d1 e1 d2 e2 d3 e3 d4 e4 d5 e5 => ?_, fun g => absurd (by decide) g⟩
    have q1 : d1 = sV (sR d 3 (frS (mr d 3) s 369)) 7 0 := e1
    have q2 : d2 = sR d1 2 (upd (mr d1 2) 3 1) := e2
    have q3 : d3 = sR d2 2 (upd (mr d2 2) 4 0) := e3
    have q4 : d4 = sR d3 2 (upd (mr d3 2) 5 (nI r)) := e4
    have q5 : d5 = sR d4 2 (upd (mr d4 2) 6 0) := e5
    rw [q2, mr_sR, sR_sR] at q3
    rw [q3, mr_sR, sR_sR] at q4
    rw [q4, mr_sR, sR_sR] at q5
    have s1 : mr d1 2 = s := by rw [q1, m2, mr_sRn (by decide)]; exact hs
    rw [s1, ← bgK_0] at q5
    rw [q5]
    refine dm _ (FrM_trans (b := d1) ?_ (FrM_R d1 (by decide) (Or.inl rfl) _)) ?_ ?_ (mr_sR _ _ _)
    · rw [q1]; exact FrM_trans (FrM_R d (by decide) (Or.inr rfl) _) (FrM_sV (K := fun k => k = 7) _ rfl 0)
    · rw [mr_sRn (by decide), q1, mr_sV (by decide), mr_sR]; exact eqR_frS _ _
    · rw [mv_sR (by decide), q1]; exact mv_sV _ _ _
  · intro i hi ih
    have ci : ax_in (nI i) 369 = true := ax_in_nI hi (by omega)
    refine w210_34 _ _ ⟨fun g => absurd g (by rw [Int32.not_le]; exact nI_lt (b := 369) hi (by omega)), fun _ => ⟨ci, ci, fun d1 e1 => ?_⟩⟩
    have q1 : d1 = sR (sR d 3 (frS (mr d 3) s i)) 3 (upd (mr (sR d 3 (frS (mr d 3) s i)) 3) (nI i).toNatClampNeg (mr (sR d 3 (frS (mr d 3) s i)) 2 (nI i).toNatClampNeg)) := e1
    rw [mr_sR, mr_sRn (by decide), sR_sR, nI_clamp (by omega), hs, frS_succ] at q1
    rw [q1, show nI i + 1 = nI (i + 1) from nI_add i 1]
    exact ih
theorem j_begin (I : INV d n) (x : Int32) : JN [2, 0] 27 210 [x] d n := by
  have hC := I.1
  have hL := I.2.1
  have hk := hC.2.2
  cases hT : isRm (mr d 2) x with
  | false => exact jq_x I 0 rfl (fun Q hQ => w27 _ (by simp only [c_chkR hC, hT, kV_r, kV_x, kI_r, kI_x, kR_r, kF_r, kD_r, forall_eq, not_true_eq_false, not_false_eq_true, false_implies, true_implies, true_and, and_true, b2i_0, b2i_1, b2i_01, b2i_t, b2i_f, decide_true, decide_false, Bool.not_true, Bool.not_false, i1_0, eq_self, reduceCtorEq, eLits, cond_false]; exact hQ)) (fun d' Q e _ hQ => w210 _ (by simp only [f_mv, f_sV, f_sV', f_s2, f_s3, f_s29, f_s30, f_mr, mr_sR, mv_sV, sV_sV, sR_sR, m2, kV_r, kV_x, kI_r, kI_x, kR_r, kF_r, kD_r, forall_eq, not_true_eq_false, not_false_eq_true, false_implies, true_implies, true_and, and_true, b2i_0, b2i_1, b2i_01, b2i_t, b2i_f, decide_true, decide_false, Bool.not_true, Bool.not_false, i1_0, eq_self, reduceCtorEq, eLits, m_isRm, e, hT, m_fails]; exact hQ _))
  | true =>
    cases hp : plays (mr d 2) with
    | true => exact jq_x I 1 rfl (fun Q hQ => w27 _ (by simp only [c_chkR hC, c_refP hC, hT, hp, kV_r, kV_x, kI_r, kI_x, kR_r, kF_r, kD_r, forall_eq, not_true_eq_false, not_false_eq_true, false_implies, true_implies, true_and, and_true, b2i_0, b2i_1, b2i_01, b2i_t, b2i_f, decide_true, decide_false, Bool.not_true, Bool.not_false, i1_0, eq_self, reduceCtorEq, eLits, cond_true]; exact hQ)) (fun d' Q e _ hQ => w210 _ (by simp only [f_mv, f_sV, f_sV', f_s2, f_s3, f_s29, f_s30, f_mr, mr_sR, mv_sV, sV_sV, sR_sR, m2, kV_r, kV_x, kI_r, kI_x, kR_r, kF_r, kD_r, forall_eq, not_true_eq_false, not_false_eq_true, false_implies, true_implies, true_and, and_true, b2i_0, b2i_1, b2i_01, b2i_t, b2i_f, decide_true, decide_false, Bool.not_true, Bool.not_false, i1_0, eq_self, reduceCtorEq, eLits, m_isRm, m_played, e, hT, hp, m_fails]; exact hQ _))
    | false =>
      obtain ⟨r, hr, rfl⟩ := isRm_ex hk hT
      have hnp : ¬ mr d 2 3 = 1 := of_decide_eq_false hp
      obtain ⟨ob, spb, plb⟩ := Ok_bg hk hr
      refine jn_of (r1 := Sum.inl (some (Sum.inl (mr d 2 1)))) (S := fun k i => (k = 7 ∧ (i = 0 ∨ i = 1)) ∨ (k = 2 ∧ i = 0)) (P := fun d1 => CC d1 0 (bgS (mr d 2) r) ∧ Cw d1 1 (bgS (mr d 2) r) ∧ ax_row d1 2 0 0 = upd (ax_row d 2 0 0) 2 0) (fun Q hQ => w27 _ ?_) (fun d1 o f1 p1 => w210 _ ?_)
      · simp only [c_chkR hC, c_refP hC, hT, hp, kV_r, kV_x, kI_r, kI_x, kR_r, kF_r, kD_r, forall_eq, not_true_eq_false, not_false_eq_true, false_implies, true_implies, true_and, and_true, b2i_0, b2i_1, b2i_01, b2i_t, b2i_f, decide_true, decide_false, Bool.not_true, Bool.not_false, i1_0, eq_self, reduceCtorEq, eLits, cond_true, cond_false]
        refine w24 (fun d1 e1 => ?_)
        have e1 : d1 = ax_set d 2 0 0 (upd (ax_row d 2 0 0) 2 0) := e1
        have f1 : Fr (fun k i => k = 2 ∧ i = 0) d d1 := by rw [e1]; exact Fr_set (by decide) ⟨rfl, rfl⟩ d 0 _
        have c1 : CC d1 0 (mr d 2) := ⟨Cp_Fr f1 (fun z => by cases z.1) hC.1, Cw_Fr f1 (fun z => by cases z.1) hC.2.1, hk⟩
        refine c_open26 c1 hnp hr _ (fun d2 f2 c2 w2 => ?_)
        show Q d2 (Sum.inl (some (Sum.inl (ax_row d2 3 0 0 1))))
        have e31 : ax_row d2 3 0 0 1 = mr d 2 1 := (show ax_row d2 3 0 0 1 = bgS (mr d 2) r 1 from c2.1.1.2.1).trans (bg_n (Pk_D hk.1).2 (by omega))
        rw [e31]
        refine hQ d2 (Fr_trans (Fr_mono f1 (fun k i z => Or.inr z)) (Fr_mono f2 (fun k i z => Or.inl z))) ⟨c2, w2, ?_⟩
        rw [Fr_row f2 (fun z => by cases z.1) 0, e1, row_s]
      · obtain ⟨p1, p2, p3⟩ := p1
        have e2 : mr (oD d1 o) 2 = mr d 2 := Fr_mr f1 2
        simp only [f_mv, f_sV, f_sV', f_s2, f_s3, f_s29, f_s30, f_mr, mr_sR, mv_sV, sV_sV, sR_sR, m2, kV_r, kV_x, kI_r, kI_x, kR_r, kF_r, kD_r, forall_eq, not_true_eq_false, not_false_eq_true, false_implies, true_implies, true_and, and_true, b2i_0, b2i_1, b2i_01, b2i_t, b2i_f, decide_true, decide_false, Bool.not_true, Bool.not_false, i1_0, eq_self, reduceCtorEq, eLits, m_isRm, m_played, e2, hT, hp]
        refine m_begin (s := mr d 2) ((m2 _ _ _).trans e2) hk _ (fun d2 f2 s2 s3 v7 => ?_)
        have v0 : mv d2 0 = 0 := (f2.2.2.2 0 (by decide)).trans (mv_sV _ _ _)
        have f2 : FrM (fun j => j = 2 ∨ j = 3) (fun k => k = 0 ∨ k = 7) (oD d1 o) d2 := FrM_trans (FrM_sV (oD d1 o) (Or.inl rfl) 0) (FrM_mono f2 (fun _ z => z) (fun _ z => Or.inr z))
        have fq := FQ_of f1 f2
        refine ⟨INV_fin I fq (fun k i z => by omega) (fun j z => by omega) (fun k z => by omega) ?_ ?_ (fun m H f hm hh _ => ⟨[], f, ⟨⟨?_, ?_, hh.1.2.2.1, ?_, fun i s hi => by cases hi⟩, ⟨v7, by decide, fun i s hi => by cases hi⟩, fun _ => rfl⟩, fun _ => ⟨mr d 2, r, 0, s3, hk, hnp, hL, ?_, hr, ?_, Nat.zero_le _, ?_, Nat.le_refl _, fun j h hj => by cases hj⟩⟩), f2.2.1, Or.inr ⟨_, rfl, v0, rfl⟩⟩
        · rw [s2]; exact CC_o f2 p1
        · rw [s2, SPl_load hk ob spb plb]; exact hL
        · rw [FrM_row f2 (by decide), p3, upd_s]; rfl
        · decide
        · rw [FrM_row f2 (by decide), p3, upd_n (by decide)]; exact hh.1.2.2.2.1
        · rw [s2]; exact SP_sym spb
        · exact Cw_row (fun j => FrM_row f2 (by decide) _ j) p2
        · rw [s2]; exact ⟨[], rfl, bg_4 _ _, (fun i x hx => by cases hx), rfl⟩
theorem m_stop {d : ax_D} (v : Int32) (Q : ax_P) (hQ : Q (sV (sR d 2 (frS (mr d 2) (mr d 3) 369)) 7 0) (Sum.inl (some (Sum.inl v)))) : h267_27 v 0 d Q := by
  have key := lp_up (fun i => h267_27 v (nI i) (sR d 2 (frS (mr d 2) (mr d 3) i)) Q) 369 ?_ ?_ 0 (Nat.zero_le _)
  · have key : h267_27 v (nI 0) (sR d 2 (frS (mr d 2) (mr d 3) 0)) Q := key
    rw [frS_0, sR_id d 2 rfl] at key
    exact key
  · exact w267_27 _ _ ⟨fun _ d1 e1 => by rw [e1]; exact hQ, fun g => absurd (by decide) g⟩
  · intro i hi ih
    have ci : ax_in (nI i) 369 = true := ax_in_nI hi (by omega)
    refine w267_27 _ _ ⟨fun g => absurd g (by rw [Int32.not_le]; exact nI_lt (b := 369) hi (by omega)), fun _ => ⟨ci, ci, fun d1 e1 => ?_⟩⟩
    have q1 : d1 = sR (sR d 2 (frS (mr d 2) (mr d 3) i)) 2 (upd (mr (sR d 2 (frS (mr d 2) (mr d 3) i)) 2) (nI i).toNatClampNeg (mr (sR d 2 (frS (mr d 2) (mr d 3) i)) 3 (nI i).toNatClampNeg)) := e1
    rw [mr_sR, mr_sRn (by decide), sR_sR, nI_clamp (by omega), frS_succ] at q1
    rw [q1, show nI i + 1 = nI (i + 1) from nI_add i 1]
    exact ih
/-- a world that stands for what begin made, back to what it was -/
theorem Cw_st {d : ax_D} {w : Nat} {st : Row} {r : Nat} (hk : Ok st) (hnp : ¬ st 3 = 1) {d' : ax_D} (h : Cw d w (bgS st r)) (e : ∀ j, j ≠ 0 → ax_row d' 7 w j = ax_row d 7 w j) (e0 : ax_row d' 7 w 0 = upd (ax_row d 7 w 0) 11 (-1)) : Cw d' w st := by
  have hD := (Pk_D hk.1).2
  obtain ⟨a1, ⟨b1, b2, b3⟩, c1, -⟩ := h
  have h46 : st 4 = 0 ∧ st 6 = 0 := by
    rcases hk.2.2.2.2.2.1 with q | q
    · exact q.2
    · exact absurd q.1 hnp
  refine ⟨fun t ht => ?_, ⟨?_, ?_, ?_⟩, fun x hx => ?_, fun z => absurd z hnp⟩
  · rw [e 2 (by decide), e 3 (by decide), e 4 (by decide), e 5 (by decide)]
    have := a1 t ht
    rw [bg_n hD (by omega), bg_n hD (by omega), bg_n hD (by omega), bg_n hD (by omega)] at this
    exact this
  · rw [e0, upd_s]; unfold plI; rw [if_neg hnp]
  · rw [e0, upd_n (by decide), b2, bg_6, h46.2]
  · rw [e0, upd_n (by decide), b3, bg_4, h46.1]
  · rw [e 9 (by decide), c1 x hx, bg_n hD (by omega)]
theorem j_stop (I : INV d n) : JN [0] 156 267 [] d n := by
  have hC := I.1
  have hk := hC.2.2
  cases hp : plays (mr d 2) with
  | false => exact jq_x I 0 rfl (fun Q hQ => w156 (by simp only [c_refU hC, hp, kV_r, kV_x, kI_r, kI_x, kR_r, kF_r, kD_r, forall_eq, not_true_eq_false, not_false_eq_true, false_implies, true_implies, true_and, and_true, b2i_0, b2i_1, b2i_01, b2i_t, b2i_f, decide_true, decide_false, Bool.not_true, Bool.not_false, i1_0, eq_self, reduceCtorEq, eLits, cond_false]; exact hQ)) (fun d' Q e _ hQ => w267 (by simp only [f_mv, f_sV, f_sV', f_s2, f_s3, f_s29, f_s30, f_mr, mr_sR, mv_sV, sV_sV, sR_sR, m2, kV_r, kV_x, kI_r, kI_x, kR_r, kF_r, kD_r, forall_eq, not_true_eq_false, not_false_eq_true, false_implies, true_implies, true_and, and_true, b2i_0, b2i_1, b2i_01, b2i_t, b2i_f, decide_true, decide_false, Bool.not_true, Bool.not_false, i1_0, eq_self, reduceCtorEq, eLits, m_played, e, hp, m_fails]; exact hQ _))
  | true =>
    have h3 : mr d 2 3 = 1 := of_decide_eq_true hp
    have hB : ∃ st r, eqR (mr d 3) st ∧ Ok st ∧ (¬ st 3 = 1) ∧ load st ≤ 20 ∧ SP (mr d 2) st ∧ Cw d 1 (bgS st r) := by
      obtain ⟨-, -, -, ln, a, m, H, f, -, -, -, -, -, hb, -⟩ := I
      obtain ⟨st, r, c, b1, b2, b3, b4, b5, b6, b7, -⟩ := hb h3
      exact ⟨st, r, b1, b2, b3, b4, b5, b7⟩
    obtain ⟨st, r, b1, b2, b3, b4, b5, b7⟩ := hB
    have h4 : ax_row d 7 0 0 10 = mr d 2 4 := hC.2.1.2.1.2.2
    refine jn_of (r1 := Sum.inl (some (Sum.inl (mr d 2 4)))) (S := fun k i => (k = 7 ∧ i = 0) ∨ (k = 2 ∧ i = 0)) (P := fun d1 => CC d1 0 st ∧ ax_row d1 2 0 0 = upd (ax_row d 2 0 0) 2 0) (fun Q hQ => w156 ?_) (fun d1 o f1 p1 => w267 ?_)
    · simp only [c_refU hC, hp, kV_r, kV_x, kI_r, kI_x, kR_r, kF_r, kD_r, forall_eq, not_true_eq_false, not_false_eq_true, false_implies, true_implies, true_and, and_true, b2i_0, b2i_1, b2i_01, b2i_t, b2i_f, decide_true, decide_false, Bool.not_true, Bool.not_false, i1_0, eq_self, reduceCtorEq, eLits, cond_true]
      refine w24 (fun d1 e1 => w155 _ ?_)
      have e1 : d1 = ax_set d 2 0 0 (upd (ax_row d 2 0 0) 2 0) := e1
      have f1 : Fr (fun k i => k = 2 ∧ i = 0) d d1 := by rw [e1]; exact Fr_set (by decide) ⟨rfl, rfl⟩ d 0 _
      refine c_copy (w := 0) (p := 1) (by omega) d1 _ (fun d2 f2 g2 d3 e3 => ?_)
      have e3 : d3 = ax_set d2 7 0 0 (upd (ax_row d2 7 0 0) 11 (-1)) := e3
      have f3 : Fr (sW 0) d2 d3 := by rw [e3]; exact Fr_set (by decide) ⟨rfl, rfl⟩ d2 0 _
      show Q d3 (Sum.inl (some (Sum.inl (ax_row d 7 0 0 10))))
      rw [h4]
      have cw2 : Cw d2 0 (bgS st r) := by
        have hr : r < nR st ∨ True := Or.inr trivial
        have hb : Cw d1 1 (bgS st r) := Cw_Fr f1 (fun z => by cases z.1) b7
        obtain ⟨h1, h2, h3, h4⟩ := g2
        obtain ⟨c1, ⟨c2, c3, c4⟩, c5, c6⟩ := hb
        have hD : nD (bgS st r) ≤ 6 := by rw [show nD (bgS st r) = nD st from by unfold nD; rw [bg_n (Pk_D b2.1).2 (by omega)]]; exact (Pk_D b2.1).2
        refine ⟨fun t ht => ?_, ⟨?_, ?_, ?_⟩, fun e he => ?_, fun hp k hk => ?_⟩
        · rw [h1 2 t (by omega) (by omega) ht, h1 3 t (by omega) (by omega) ht, h1 4 t (by omega) (by omega) ht, h1 5 t (by omega) (by omega) ht]
          exact c1 t ht
        · rw [h4 11 (by omega) (by omega)]; exact c2
        · rw [h4 9 (by omega) (by omega)]; exact c3
        · rw [h4 10 (by omega) (by omega)]; exact c4
        · rw [h3 e he]; exact c5 e he
        · rw [h2 6 k (by omega) (by omega) (by omega), h2 7 k (by omega) (by omega) (by omega), h2 8 k (by omega) (by omega) (by omega)]
          exact c6 hp k hk
      refine hQ d3 (Fr_trans (Fr_mono f1 (fun k i z => Or.inr z)) (Fr_trans (Fr_mono f2 (fun k i z => Or.inl z)) (Fr_mono f3 (fun k i z => Or.inl z)))) ⟨⟨?_, ?_, b2⟩, ?_⟩
      · exact Cp_SP (Cp_Fr f3 (fun z => by cases z.1) (Cp_Fr f2 (fun z => by cases z.1) (Cp_Fr f1 (fun z => by cases z.1) hC.1))) b5
      · refine Cw_st b2 b3 cw2 (fun j hj => by rw [e3, row_j hj]) (by rw [e3, row_s])
      · rw [Fr_row f3 (fun z => by cases z.1) 0, Fr_row f2 (fun z => by cases z.1) 0, e1, row_s]
    · obtain ⟨p1, p2⟩ := p1
      have e2 : mr (oD d1 o) 2 = mr d 2 := Fr_mr f1 2
      have e3 : mr (oD d1 o) 3 = mr d 3 := Fr_mr f1 3
      simp only [f_mv, f_sV, f_sV', f_s2, f_s3, f_s29, f_s30, f_mr, mr_sR, mv_sV, sV_sV, sR_sR, m2, kV_r, kV_x, kI_r, kI_x, kR_r, kF_r, kD_r, forall_eq, not_true_eq_false, not_false_eq_true, false_implies, true_implies, true_and, and_true, b2i_0, b2i_1, b2i_01, b2i_t, b2i_f, decide_true, decide_false, Bool.not_true, Bool.not_false, i1_0, eq_self, reduceCtorEq, eLits, m_played, e2, hp]
      refine m_stop _ _ ?_
      rw [m2, e2, mr_sV (by decide), e3, eqR_back hk b2 b1]
      have f2 : FrM (fun j => j = 2) (fun k => k = 0 ∨ k = 7) (oD d1 o) (sV (sR (sV (oD d1 o) 0 0) 2 st) 7 0) := FrM_trans (FrM_sV (oD d1 o) (Or.inl rfl) 0) (FrM_trans (FrM_R (R := fun j => j = 2) (j := 2) (sV (oD d1 o) 0 0) (by decide) rfl st) (FrM_sV _ (Or.inr rfl) 0))
      have fq := FQ_of f1 f2
      have s2 : mr (sV (sR (sV (oD d1 o) 0 0) 2 st) 7 0) 2 = st := by rw [m2, mr_sR]
      refine ⟨INV_fin I fq (fun k i z => by omega) (fun j z => by omega) (fun k z => by omega) ?_ ?_ (fun m H f hm hh _ => ⟨[], f, ⟨⟨?_, ?_, hh.1.2.2.1, ?_, fun i s hi => by cases hi⟩, ⟨mv_sV _ _ _, by decide, fun i s hi => by cases hi⟩, fun _ => rfl⟩, fun z => absurd z (by rw [s2]; exact b3)⟩), rfl, Or.inr ⟨_, rfl, ?_, rfl⟩⟩
      · rw [s2]; exact CC_o f2 p1
      · rw [s2]; exact b4
      · rw [FrM_row f2 (by decide), p2, upd_s]; rfl
      · decide
      · rw [FrM_row f2 (by decide), p2, upd_n (by decide)]; exact hh.1.2.2.2.1
      · rw [mv_sVn (by decide), mv_sR (by decide), mv_sV]
end ST
