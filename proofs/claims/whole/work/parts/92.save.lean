/-! save, restore, isReplayed -/
section SV
variable {d : ax_D} {n : Nat}
theorem WEq_Cw' {d d' : ax_D} {w p : Nat} (h : WEq d' w d p) {s : Row} (hs : Pok s) (hc : Cw d p s) : Cw d' w s := by
  obtain ⟨h1, h2, h3, h4⟩ := h
  obtain ⟨c1, ⟨c2, c3, c4⟩, c5, c6⟩ := hc
  have hD := (Pk_D hs).2
  refine ⟨fun t ht => ?_, ⟨?_, ?_, ?_⟩, fun e he => ?_, fun hp k hk => ?_⟩
  · rw [h1 2 t (by omega) (by omega) ht, h1 3 t (by omega) (by omega) ht, h1 4 t (by omega) (by omega) ht, h1 5 t (by omega) (by omega) ht]
    exact c1 t ht
  · rw [h4 11 (by omega) (by omega)]; exact c2
  · rw [h4 9 (by omega) (by omega)]; exact c3
  · rw [h4 10 (by omega) (by omega)]; exact c4
  · rw [h3 e he]; exact c5 e he
  · rw [h2 6 k (by omega) (by omega) (by omega), h2 7 k (by omega) (by omega) (by omega), h2 8 k (by omega) (by omega) (by omega)]
    exact c6 hp k hk
theorem m_save {d : ax_D} (Q : ax_P) (hQ : Q (sV (sR (sR d 4 (frS (mr d 4) (mr d 2) 369)) 5 (frS (mr d 5) (mr d 3) 369)) 8 1) (Sum.inl (some (Sum.inl (mr d 2 1))))) : h261_7 0 d Q := by
  have key := lp_up (fun i => h261_7 (nI i) (sR (sR d 4 (frS (mr d 4) (mr d 2) i)) 5 (frS (mr d 5) (mr d 3) i)) Q) 369 ?_ ?_ 0 (Nat.zero_le _)
  · have key : h261_7 (nI 0) (sR (sR d 4 (frS (mr d 4) (mr d 2) 0)) 5 (frS (mr d 5) (mr d 3) 0)) Q := key
    rw [frS_0, frS_0, sR_id d 4 rfl, sR_id d 5 rfl] at key
    exact key
  · refine w261_7 _ ⟨fun _ d1 e1 => ?_, fun g => absurd (by decide) g⟩
    have q1 : d1 = sV (sR (sR d 4 (frS (mr d 4) (mr d 2) 369)) 5 (frS (mr d 5) (mr d 3) 369)) 8 1 := e1
    have e2 : ax_row d1 9 0 2 1 = mr d 2 1 := by rw [q1]; exact congrFun (show mr (sV (sR (sR d 4 (frS (mr d 4) (mr d 2) 369)) 5 (frS (mr d 5) (mr d 3) 369)) 8 1) 2 = mr d 2 by rw [m2, mr_sRn (by decide), mr_sRn (by decide)]) 1
    rw [e2, q1]
    exact hQ
  · intro i hi ih
    have ci : ax_in (nI i) 369 = true := ax_in_nI hi (by omega)
    refine w261_7 _ ⟨fun g => absurd g (by rw [Int32.not_le]; exact nI_lt (b := 369) hi (by omega)), fun _ => ⟨ci, ci, fun d1 e1 => ⟨ci, ci, fun d2 e2 => ?_⟩⟩⟩
    rw [nI_clamp (by omega)] at e1 e2
    have q1 : d1 = sR (sR (sR d 4 (frS (mr d 4) (mr d 2) i)) 5 (frS (mr d 5) (mr d 3) i)) 4 (upd (mr (sR (sR d 4 (frS (mr d 4) (mr d 2) i)) 5 (frS (mr d 5) (mr d 3) i)) 4) i (mr (sR (sR d 4 (frS (mr d 4) (mr d 2) i)) 5 (frS (mr d 5) (mr d 3) i)) 2 i)) := e1
    rw [mr_sRn (by decide), mr_sR, mr_sRn (by decide), mr_sRn (by decide), frS_succ, sM_c (by decide), sR_sR] at q1
    have q2 : d2 = sR d1 5 (upd (mr d1 5) i (mr d1 3 i)) := e2
    rw [q1, mr_sR, mr_sRn (by decide), mr_sRn (by decide), frS_succ, sR_sR] at q2
    rw [q2, show nI i + 1 = nI (i + 1) from nI_add i 1]
    exact ih
theorem m_rest {d : ax_D} (Q : ax_P) (hQ : Q (sV (sR (sR d 2 (frS (mr d 2) (mr d 4) 369)) 3 (frS (mr d 3) (mr d 5) 369)) 7 0) (Sum.inl (some (Sum.inl (mr d 4 1))))) : h260_20 0 d Q := by
  have key := lp_up (fun i => h260_20 (nI i) (sR (sR d 2 (frS (mr d 2) (mr d 4) i)) 3 (frS (mr d 3) (mr d 5) i)) Q) 369 ?_ ?_ 0 (Nat.zero_le _)
  · have key : h260_20 (nI 0) (sR (sR d 2 (frS (mr d 2) (mr d 4) 0)) 3 (frS (mr d 3) (mr d 5) 0)) Q := key
    rw [frS_0, frS_0, sR_id d 2 rfl, sR_id d 3 rfl] at key
    exact key
  · refine w260_20 _ ⟨fun _ d1 e1 => ?_, fun g => absurd (by decide) g⟩
    have q1 : d1 = sV (sR (sR d 2 (frS (mr d 2) (mr d 4) 369)) 3 (frS (mr d 3) (mr d 5) 369)) 7 0 := e1
    have e2 : ax_row d1 9 0 2 1 = mr d 4 1 := by
      rw [q1]
      refine (congrFun (show mr (sV (sR (sR d 2 (frS (mr d 2) (mr d 4) 369)) 3 (frS (mr d 3) (mr d 5) 369)) 7 0) 2 = frS (mr d 2) (mr d 4) 369 by rw [m2, mr_sRn (by decide), mr_sR]) 1).trans ?_
      unfold frS
      rw [if_pos (by decide)]
    rw [e2, q1]
    exact hQ
  · intro i hi ih
    have ci : ax_in (nI i) 369 = true := ax_in_nI hi (by omega)
    refine w260_20 _ ⟨fun g => absurd g (by rw [Int32.not_le]; exact nI_lt (b := 369) hi (by omega)), fun _ => ⟨ci, ci, fun d1 e1 => ⟨ci, ci, fun d2 e2 => ?_⟩⟩⟩
    rw [nI_clamp (by omega)] at e1 e2
    have q1 : d1 = sR (sR (sR d 2 (frS (mr d 2) (mr d 4) i)) 3 (frS (mr d 3) (mr d 5) i)) 2 (upd (mr (sR (sR d 2 (frS (mr d 2) (mr d 4) i)) 3 (frS (mr d 3) (mr d 5) i)) 2) i (mr (sR (sR d 2 (frS (mr d 2) (mr d 4) i)) 3 (frS (mr d 3) (mr d 5) i)) 4 i)) := e1
    rw [mr_sRn (by decide), mr_sR, mr_sRn (by decide), mr_sRn (by decide), frS_succ, sM_c (by decide), sR_sR] at q1
    have q2 : d2 = sR d1 3 (upd (mr d1 3) i (mr d1 5 i)) := e2
    rw [q1, mr_sR, mr_sRn (by decide), mr_sRn (by decide), frS_succ, sR_sR] at q2
    rw [q2, show nI i + 1 = nI (i + 1) from nI_add i 1]
    exact ih
/-- a story and its copy -/
theorem BEG_copy {d d' : ax_D} {i j : Nat} {s : Row} {H : List Row} {f f' : Row} {m : Nat} (hm : m ≤ 512) (hf : eqR f' f) (hw : WEq d' (2 * i + 1) d (2 * j + 1)) (ht : ∀ k, k < 512 → ax_row d' 6 i 4 k = ax_row d 6 j 4 k) (h : BEG d j s H f m) : BEG d' i s [] f' m := fun hp => by
  obtain ⟨st, r, c, b1, b2, b3, b4, b5, b6, b7, b8, b9, -⟩ := h hp
  refine ⟨st, r, c, fun k hk => (hf k hk).trans (b1 k hk), b2, b3, b4, b5, b6, WEq_Cw' hw (Ok_bg b2 b6).1.1 b7, b8, RL_cong b9 (fun k hk => ht k (by omega)), Nat.zero_le _, fun j h hj => by cases hj⟩
theorem j_save (I : INV d n) (hn : n ≤ 512) : JN [] 147 261 [] d n := by
  have hC := I.1
  have hL := I.2.1
  have hk := hC.2.2
  have h31 : ax_row d 3 0 0 1 = mr d 2 1 := (show Cp d 0 (mr d 2) from hC.1).1.2.1
  refine jn_of (r1 := Sum.inl (some (Sum.inl (mr d 2 1)))) (S := fun k i => sS 1 k i ∨ (k = 8 ∧ i = 0)) (P := fun d1 => PEq d1 1 d 0 ∧ WEq d1 2 d 0 ∧ WEq d1 3 d 1 ∧ (∀ k, k < 512 → ax_row d1 6 1 4 k = ax_row d 6 0 4 k) ∧ ax_row d1 8 0 0 = upd (ax_row d 8 0 0) 2 1) (fun Q hQ => w147 (c_story (w := 1) (p := 0) (by decide) d _ (fun d1 f1 g1 g2 g3 g4 d2 e2 => ?_))) (fun d1 o f1 p1 => w261 (fun d2 e2 => m_save _ ?_))
  · have e2 : d2 = ax_set d1 8 0 0 (upd (ax_row d1 8 0 0) 2 1) := e2
    have f2 : Fr (fun k i => k = 8 ∧ i = 0) d1 d2 := by rw [e2]; exact Fr_set (by decide) ⟨rfl, rfl⟩ d1 0 _
    have k : ∀ a i j, a ≠ 8 → ax_row d2 a i j = ax_row d1 a i j := fun a i j ha => Fr_row f2 (fun z => ha z.1) j
    have q : ax_row d2 3 0 0 1 = mr d 2 1 := by rw [k 3 0 0 (by decide), Fr_row f1 (fun z => by unfold sS at z; omega) 0]; exact h31
    show Q d2 (Sum.inl (some (Sum.inl (ax_row d2 3 0 0 1))))
    rw [q]
    refine hQ d2 (Fr_trans (Fr_mono f1 (fun k i z => Or.inl z)) (Fr_mono f2 (fun k i z => Or.inr z))) ⟨?_, ?_, ?_, fun i hi => ?_, ?_⟩
    · obtain ⟨a, b, c, e⟩ := g1
      exact ⟨fun t ht => by rw [k 3 1 0 (by decide)]; exact a t ht, fun j t h1 h2 ht => by rw [k 3 1 j (by decide)]; exact b j t h1 h2 ht, fun j t h1 h2 ht => by rw [k 3 1 j (by decide)]; exact c j t h1 h2 ht, fun j t h1 h2 ht => by rw [k 3 1 j (by decide)]; exact e j t h1 h2 ht⟩
    · obtain ⟨a, b, c, e⟩ := g2
      exact ⟨fun j t h1 h2 ht => by rw [k 7 2 j (by decide)]; exact a j t h1 h2 ht, fun j t h1 h2 ht => by rw [k 7 2 j (by decide)]; exact b j t h1 h2 ht, fun t ht => by rw [k 7 2 9 (by decide)]; exact c t ht, fun t h1 h2 => by rw [k 7 2 0 (by decide)]; exact e t h1 h2⟩
    · obtain ⟨a, b, c, e⟩ := g3
      exact ⟨fun j t h1 h2 ht => by rw [k 7 3 j (by decide)]; exact a j t h1 h2 ht, fun j t h1 h2 ht => by rw [k 7 3 j (by decide)]; exact b j t h1 h2 ht, fun t ht => by rw [k 7 3 9 (by decide)]; exact c t ht, fun t h1 h2 => by rw [k 7 3 0 (by decide)]; exact e t h1 h2⟩
    · rw [k 6 1 4 (by decide)]; exact g4 i hi
    · rw [e2, row_s, Fr_row f1 (fun z => by unfold sS at z; omega) 0]
  · have q2 : d2 = sV (oD d1 o) 0 0 := e2
    rw [q2]
    simp only [m2, oD_mr, Fr_mr f1, mr_sV (show (3 : Nat) ≠ 0 by decide), mr_sV (show (4 : Nat) ≠ 0 by decide), mr_sV (show (5 : Nat) ≠ 0 by decide)]
    generalize hd3 : sV (sR (sR (sV (oD d1 o) 0 0) 4 (frS (mr d 4) (mr d 2) 369)) 5 (frS (mr d 5) (mr d 3) 369)) 8 1 = d3
    have f3 : FrM (fun j => j = 4 ∨ j = 5) (fun k => k = 0 ∨ k = 8) (oD d1 o) d3 := by
      rw [← hd3]
      exact FrM_trans (FrM_sV (oD d1 o) (Or.inl rfl) 0) (FrM_trans (FrM_R (j := 4) (sV (oD d1 o) 0 0) (by decide) (Or.inl rfl) _) (FrM_trans (FrM_R (j := 5) _ (by decide) (Or.inr rfl) _) (FrM_sV _ (Or.inr rfl) 1)))
    have x4 : mr d3 4 = frS (mr d 4) (mr d 2) 369 := by rw [← hd3, mr_sV (by decide), mr_sRn (by decide), mr_sR]
    have x5 : mr d3 5 = frS (mr d 5) (mr d 3) 369 := by rw [← hd3, mr_sV (by decide), mr_sR]
    have x8 : mv d3 8 = 1 := by rw [← hd3]; exact mv_sV _ _ _
    have x0 : mv d3 0 = 0 := by rw [← hd3, mv_sVn (by decide), mv_sR (by decide), mv_sR (by decide)]; exact mv_sV _ _ _
    have fq := FQ_of f1 f3
    have s2 : mr d3 2 = mr d 2 := fq.2.1 2 (by decide) (by decide)
    have s3 : mr d3 3 = mr d 3 := fq.2.1 3 (by decide) (by decide)
    obtain ⟨p1, p2, p3, p4, p5⟩ := p1
    obtain ⟨h1, h2, h3, ln, a, m, H, f, h4, h5, h6, ⟨y1, y2, y3⟩, ⟨z1, z2, z3⟩, h9, h10⟩ := I
    have nS : ∀ k i, (k = 4 ∨ (k = 7 ∧ i ≠ 2 ∧ i ≠ 3) ∨ (k = 3 ∧ i = 0) ∨ (k = 6 ∧ i = 0) ∨ k = 2) → ¬ (sS 1 k i ∨ (k = 8 ∧ i = 0)) := fun k i q z => by unfold sS at z; omega
    have r : ∀ k, k ≠ 9 → ∀ i j, ax_row d3 k i j = ax_row d1 k i j := fun k h i j => FrM_row f3 h i j
    refine ⟨⟨?_, ?_, ?_, ln, a, m, H, f, h4, h5, h6, ⟨?_, ?_, ?_⟩, ⟨?_, ?_, ?_⟩, ?_, ?_⟩, f3.2.1, Or.inr ⟨_, rfl, x0, rfl⟩⟩
    · rw [s2]; exact FQ_CC fq (nS 7 0 (by omega)) (nS 3 _ (Or.inr (Or.inr (Or.inl ⟨rfl, rfl⟩)))) h1
    · rw [s2]; exact h2
    · unfold FLT
      rw [r 8 (by decide), p5, upd_n (by decide), upd_n (by decide), upd_n (by decide), upd_n (by decide), fq.2.2 11 (by decide), fq.2.2 12 (by decide), fq.2.2 13 (by decide), fq.2.2 14 (by decide)]
      exact h3
    · rw [fq.1 4 0 1 (by decide) (nS 4 0 (by omega)), fq.2.1 10 (by decide) (by decide)]; exact y1
    · rw [fq.1 4 0 0 (by decide) (nS 4 0 (by omega))]; exact y2
    · rw [fq.2.2 10 (by decide)]; exact y3
    · exact FQ_cHist fq (nS 2 0 (by omega)) (fun i _ => nS 7 _ (by have := Nat.mod_lt (f + i) (show 0 < 11 by decide); omega)) z1
    · exact FQ_mHist fq (by decide) (by decide) z2
    · rw [s2]; exact z3
    · rw [s2, s3]; exact FQ_BEG fq (nS 7 _ (by omega)) (nS 6 0 (by omega)) h9
    · refine ⟨?_, Or.inr ⟨x8, mr d 2, ?_, ⟨?_, ?_, hk⟩, hL, ?_⟩⟩
      · rw [r 8 (by decide), p5, upd_s, x8]
      · rw [x4]; exact eqR_frS _ _
      · exact Cp_row (p := 1) (p' := 1) (fun j => r 3 (by decide) 1 j) (PEq_Cp p1 hC.1)
      · exact Cw_row (fun j => r 7 (by decide) 2 j) (WEq_Cw p2 hk hC.2.1)
      · have b1 : BEG d1 1 (mr d 2) [] (mr d3 5) m := BEG_copy (i := 1) (j := 0) (by omega) (by rw [x5]; exact eqR_frS _ _) p3 p4 h9
        intro hp
        obtain ⟨st, r', c, b1, b2, b3, b4, b5, b6, b7, b8, b9, b10⟩ := b1 hp
        exact ⟨st, r', c, b1, b2, b3, b4, b5, b6, Cw_row (fun j => r 7 (by decide) 3 j) b7, b8, by rw [r 6 (by decide)]; exact b9, Nat.zero_le _, fun j h hj => by cases hj⟩
theorem j_restore (I : INV d n) (hn : n ≤ 512) : JN [0] 146 260 [] d n := by
  have hC := I.1
  have hk := hC.2.2
  have hS : ∃ m, m ≤ n ∧ SAV d m := by
    obtain ⟨-, -, -, ln, a, m, H, f, h4, -, -, -, -, -, h10⟩ := I
    exact ⟨m, by omega, h10⟩
  obtain ⟨m, hm, g8, hs⟩ := hS
  by_cases h0 : mv d 8 = 0
  · exact jq_x I 0 rfl (fun Q hQ => w146 ⟨fun _ => hQ, fun z => absurd (g8.trans h0) z⟩) (fun d' Q e e' hQ => w260 (by
      simp only [f_mv, f_sV, f_sV', f_s2, f_s3, f_s29, f_s30, f_mr, mr_sR, mv_sV, sV_sV, sR_sR, m2, kV_r, kV_x, kI_r, kI_x, kR_r, kF_r, kD_r, forall_eq, not_true_eq_false, not_false_eq_true, false_implies, true_implies, true_and, and_true, b2i_0, b2i_1, b2i_01, b2i_t, b2i_f, decide_true, decide_false, Bool.not_true, Bool.not_false, i1_0, eq_self, reduceCtorEq, eLits, mv_sVn (show (8 : Nat) ≠ 0 by decide), e' 8, h0, m_fails]
      exact hQ _))
  · rcases hs with q | ⟨q, sv, x1, x2, x3, x4⟩
    · exact absurd q h0
    · have h41 : mr d 4 1 = sv 1 := x1 1 (by decide)
      refine jn_of (r1 := Sum.inl (some (Sum.inl (sv 1)))) (S := fun k i => sS 0 k i ∨ (k = 2 ∧ i = 0)) (P := fun d1 => CC d1 0 sv ∧ WEq d1 1 d 3 ∧ (∀ k, k < 512 → ax_row d1 6 0 4 k = ax_row d 6 1 4 k) ∧ ax_row d1 2 0 0 = upd (ax_row d 2 0 0) 2 0) (fun Q hQ => w146 ⟨fun z => absurd (g8.symm.trans z) h0, fun _ => w24 (fun d1 e1 => c_story (w := 0) (p := 1) (by decide) d1 _ (fun d2 f2 g1 g2 g3 g4 => ?_))⟩) (fun d1 o f1 p1 => w260 ?_)
      · have e1 : d1 = ax_set d 2 0 0 (upd (ax_row d 2 0 0) 2 0) := e1
        have f1 : Fr (fun k i => k = 2 ∧ i = 0) d d1 := by rw [e1]; exact Fr_set (by decide) ⟨rfl, rfl⟩ d 0 _
        have c1 : CC d1 2 sv := ⟨Cp_Fr f1 (fun z => by cases z.1) x2.1, Cw_Fr f1 (fun z => by cases z.1) x2.2.1, x2.2.2⟩
        have cc : CC d2 0 sv := ⟨PEq_Cp g1 c1.1, WEq_Cw g2 x2.2.2 c1.2.1, x2.2.2⟩
        have q : ax_row d2 3 0 0 1 = sv 1 := (show Cp d2 0 sv from cc.1).1.2.1
        show Q d2 (Sum.inl (some (Sum.inl (ax_row d2 3 0 0 1))))
        rw [q]
        refine hQ d2 (Fr_trans (Fr_mono f1 (fun k i z => Or.inr z)) (Fr_mono f2 (fun k i z => Or.inl z))) ⟨cc, ?_, fun k hk => ?_, ?_⟩
        · have k7 : ∀ i j, ax_row d1 7 i j = ax_row d 7 i j := fun i j => Fr_row f1 (fun z => by cases z.1) j
          obtain ⟨a, b, c, e⟩ := g3
          exact ⟨fun j t h1 h2 ht => by rw [← k7]; exact a j t h1 h2 ht, fun j t h1 h2 ht => by rw [← k7]; exact b j t h1 h2 ht, fun t ht => by rw [← k7]; exact c t ht, fun t h1 h2 => by rw [← k7]; exact e t h1 h2⟩
        · rw [g4 k hk, Fr_row f1 (fun z => by cases z.1) 4]
        · rw [Fr_row f2 (fun z => by unfold sS at z; omega) 0, e1, row_s]
      · simp only [f_mv, f_sV, f_sV', f_s2, f_s3, f_s29, f_s30, f_mr, mr_sR, mv_sV, sV_sV, sR_sR, m2, kV_r, kV_x, kI_r, kI_x, kR_r, kF_r, kD_r, forall_eq, not_true_eq_false, not_false_eq_true, false_implies, true_implies, true_and, and_true, b2i_0, b2i_1, b2i_01, b2i_t, b2i_f, decide_true, decide_false, Bool.not_true, Bool.not_false, i1_0, eq_self, reduceCtorEq, eLits, mv_sVn (show (8 : Nat) ≠ 0 by decide), oD_mv, show mv d1 8 = mv d 8 from congrFun (Fr_mr f1 0) 8, h0]
        refine m_rest _ ?_
        simp only [m2, oD_mr, Fr_mr f1, mr_sV (show (3 : Nat) ≠ 0 by decide), mr_sV (show (4 : Nat) ≠ 0 by decide), mr_sV (show (5 : Nat) ≠ 0 by decide), h41]
        rw [eqR_back hk x2.2.2 x1]
        generalize hd3 : sV (sR (sR (sV (oD d1 o) 0 0) 2 sv) 3 (frS (mr d 3) (mr d 5) 369)) 7 0 = d3
        have f3 : FrM (fun j => j = 2 ∨ j = 3) (fun k => k = 0 ∨ k = 7) (oD d1 o) d3 := by
          rw [← hd3]
          exact FrM_trans (FrM_sV (oD d1 o) (Or.inl rfl) 0) (FrM_trans (FrM_R (j := 2) (sV (oD d1 o) 0 0) (by decide) (Or.inl rfl) _) (FrM_trans (FrM_R (j := 3) _ (by decide) (Or.inr rfl) _) (FrM_sV _ (Or.inr rfl) 0)))
        have s2 : mr d3 2 = sv := by rw [← hd3, m2, mr_sRn (by decide), mr_sR]
        have s3 : mr d3 3 = frS (mr d 3) (mr d 5) 369 := by rw [← hd3, mr_sV (by decide), mr_sR]
        have v7 : mv d3 7 = 0 := by rw [← hd3]; exact mv_sV _ _ _
        have v0 : mv d3 0 = 0 := by rw [← hd3, mv_sVn (by decide), mv_sR (by decide), mv_sR (by decide)]; exact mv_sV _ _ _
        have fq := FQ_of f1 f3
        obtain ⟨p1, p2, p3, p4⟩ := p1
        have r : ∀ k, k ≠ 9 → ∀ i j, ax_row d3 k i j = ax_row d1 k i j := fun k h i j => FrM_row f3 h i j
        have hI : ∀ H f, HIS d H f → HIS d3 [] f := fun H f hh => ⟨⟨by rw [r 2 (by decide), p4, upd_s]; rfl, by decide, hh.1.2.2.1, by rw [r 2 (by decide), p4, upd_n (by decide)]; exact hh.1.2.2.2.1, fun i s hi => by cases hi⟩, ⟨v7, by decide, fun i s hi => by cases hi⟩, fun _ => rfl⟩
        obtain ⟨h1, h2, h3, ln, a, m', H, f, h4, h5, h6, ⟨y1, y2, y3⟩, z, h9, h10⟩ := I
        have nS : ∀ k i, (k = 8 ∨ k = 4 ∨ (k = 7 ∧ (i = 2 ∨ i = 3)) ∨ (k = 3 ∧ i = 1) ∨ (k = 6 ∧ i = 1)) → ¬ (sS 0 k i ∨ (k = 2 ∧ i = 0)) := fun k i q z => by unfold sS at z; omega
        have hb : BEG d 1 sv [] (mr d 5) m' := by
          rcases h10.2 with w | ⟨-, sv', w1, w2, -, w4⟩
          · exact absurd w h0
          · have e : sv' = sv := by
              funext k
              by_cases hk : k < 369
              · rw [← x1 k hk, ← w1 k hk]
              · rw [w2.2.2.2.2.2.2.2.2 k (by omega), x2.2.2.2.2.2.2.2.2 k (by omega)]
            rw [e] at w4
            exact w4
        refine ⟨⟨?_, ?_, FQ_FLT fq (nS 8 0 (by omega)) (fun k a b => by omega) h3, ln, a, m', [], f, h4, h5, h6, ⟨?_, ?_, ?_⟩, hI H f z, ?_, ?_⟩, f3.2.1, Or.inr ⟨_, rfl, v0, rfl⟩⟩
        · rw [s2]; exact CC_o f3 p1
        · rw [s2]; exact x3
        · rw [fq.1 4 0 1 (by decide) (nS 4 0 (by omega)), fq.2.1 10 (by decide) (by decide)]; exact y1
        · rw [fq.1 4 0 0 (by decide) (nS 4 0 (by omega))]; exact y2
        · rw [fq.2.2 10 (by decide)]; exact y3
        · rw [s2]
          have b1 : BEG d1 0 sv [] (mr d3 3) m' := BEG_copy (i := 0) (j := 1) (by omega) (by rw [s3]; exact eqR_frS _ _) p2 p3 hb
          intro hp
          obtain ⟨st, r', c, b1, b2, b3, b4, b5, b6, b7, b8, b9, b10⟩ := b1 hp
          exact ⟨st, r', c, b1, b2, b3, b4, b5, b6, Cw_row (fun j => r 7 (by decide) 1 j) b7, b8, by rw [r 6 (by decide)]; exact b9, Nat.zero_le _, fun j h hj => by cases hj⟩
        · exact FQ_SAV fq (congrFun (fq.1 8 0 0 (by decide) (nS 8 0 (by omega))) 2) (by decide) (by decide) (by decide) (nS 7 2 (by omega)) (nS 7 3 (by omega)) (nS 3 1 (by omega)) (nS 6 1 (by omega)) h10
/-- two worlds that hold the same row are alike -/
theorem c_like {d : ax_D} {s : Row} (h1 : CC d 15 s) (h2 : CC d 0 s) (hp : s 3 = 1) (Q : ax_P) (hQ : Q d (Sum.inl (some (Sum.inl 1)))) : CT 131 [ax_vR 7 15 0, ax_vR 7 0 0] d Q := by
  have hk := h1.2.2
  have hT := Ok_T hk
  have hD := Pk_D hk.1
  obtain ⟨e6, he6, h6⟩ := Ok_6 hk hp
  obtain ⟨a1, ⟨a2, a3, a4⟩, a5, a6⟩ := h1.2.1
  obtain ⟨b1, ⟨b2, b3, b4⟩, b5, b6⟩ := h2.2.1
  have h10 : ¬ (1 : Int32) = 0 := by decide
  have r1 : ax_row d 3 (ax_pW 15) 0 1 = nI (nT s) := (show Cp d 0 s from h1.1).1.2.1.trans hT.1
  have r2 : ax_row d 3 (ax_pW 15) 0 2 = nI (nD s) := (show Cp d 0 s from h1.1).1.2.2.trans hD.1
  have ev : h131_204 15 0 1 0 d Q := by
    have key := lp_up (fun i => h131_204 15 0 1 (nI i) d Q) e6 ?_ ?_ 0 (Nat.zero_le _)
    · exact key
    · refine w131_204 _ _ _ _ ?_
      rw [a3, h6]
      exact ⟨fun _ => ⟨Or.inr rfl, hQ⟩, fun z => absurd (nI_le (Nat.le_refl _) (by omega)) z⟩
    · intro i hi ih
      have ci : ax_in (nI i) 40 = true := ax_in_nI (by omega) (by omega)
      have e : ax_row d 7 15 9 (nI i).toNatClampNeg = ax_row d 7 0 9 (nI i).toNatClampNeg := by rw [nI_clamp (by omega), a5 i (by omega), b5 i (by omega)]
      refine w131_204 _ _ _ _ ?_
      rw [a3, h6]
      refine ⟨fun z => absurd z (nI_ge hi (by omega)), fun _ => ⟨fun z => absurd z h10, fun _ => ⟨ci, ci, fun _ => ?_, fun z => absurd e z⟩⟩⟩
      rw [show nI i + 1 = nI (i + 1) from nI_add i 1]
      exact ih
  have dm : h131_130 15 0 1 0 d Q := by
    have key := lp_up (fun i => h131_130 15 0 1 (nI i) d Q) (nD s) ?_ ?_ 0 (Nat.zero_le _)
    · exact key
    · refine w131_130 _ _ _ _ ?_
      rw [r2]
      exact ⟨fun _ => ev, fun z => absurd (nI_le (Nat.le_refl _) (by omega)) z⟩
    · intro i hi ih
      have ci : ax_in (nI i) 6 = true := ax_in_nI (by omega) (by omega)
      have cl : (nI i).toNatClampNeg = i := nI_clamp (by omega)
      obtain ⟨u1, u2, u3⟩ := a6 hp i hi
      obtain ⟨v1, v2, v3⟩ := b6 hp i hi
      have g1 : ax_row d 7 15 6 (nI i).toNatClampNeg = ax_row d 7 0 6 (nI i).toNatClampNeg := by rw [cl, u1, v1]
      have g2 : ax_row d 7 15 7 (nI i).toNatClampNeg = ax_row d 7 0 7 (nI i).toNatClampNeg := by rw [cl, u2, v2]
      have g3 : ax_row d 7 15 8 (nI i).toNatClampNeg = ax_row d 7 0 8 (nI i).toNatClampNeg := by rw [cl, u3, v3]
      refine w131_130 _ _ _ _ ?_
      rw [r2]
      refine ⟨fun z => absurd z (nI_ge hi (by omega)), fun _ => ⟨fun z => absurd z h10, fun _ => ⟨ci, ci, fun _ => ⟨ci, ci, fun _ => ⟨ci, ci, fun _ => ?_, fun z => absurd g3 z⟩, fun z => absurd g2 z⟩, fun z => absurd g1 z⟩⟩⟩
      rw [show nI i + 1 = nI (i + 1) from nI_add i 1]
      exact ih
  have th : h131_41 15 0 1 0 d Q := by
    have key := lp_up (fun i => h131_41 15 0 1 (nI i) d Q) (nT s) ?_ ?_ 0 (Nat.zero_le _)
    · exact key
    · refine w131_41 _ _ _ _ ?_
      rw [r1]
      exact ⟨fun _ => dm, fun z => absurd (nI_le (Nat.le_refl _) (by omega)) z⟩
    · intro i hi ih
      have ci : ax_in (nI i) 16 = true := ax_in_nI (by omega) (by omega)
      have cl : (nI i).toNatClampNeg = i := nI_clamp (by omega)
      obtain ⟨u1, u2, u3, u4⟩ := a1 i (by omega)
      obtain ⟨v1, v2, v3, v4⟩ := b1 i (by omega)
      have g1 : ax_row d 7 15 2 (nI i).toNatClampNeg = ax_row d 7 0 2 (nI i).toNatClampNeg := by rw [cl, u1, v1]
      have g2 : ax_row d 7 15 3 (nI i).toNatClampNeg = ax_row d 7 0 3 (nI i).toNatClampNeg := by rw [cl, u2, v2]
      have g3 : ax_row d 7 15 4 (nI i).toNatClampNeg = ax_row d 7 0 4 (nI i).toNatClampNeg := by rw [cl, u3, v3]
      have g4 : ax_row d 7 15 5 (nI i).toNatClampNeg = ax_row d 7 0 5 (nI i).toNatClampNeg := by rw [cl, u4, v4]
      refine w131_41 _ _ _ _ ?_
      rw [r1]
      refine ⟨fun z => absurd z (nI_ge hi (by omega)), fun _ => ⟨fun z => absurd z h10, fun _ => ⟨ci, ci, fun _ => ⟨ci, ci, fun _ => ⟨ci, ci, fun _ => ⟨ci, ci, fun _ => ?_, fun z => absurd g4 z⟩, fun z => absurd g3 z⟩, fun z => absurd g2 z⟩, fun z => absurd g1 z⟩⟩⟩
      rw [show nI i + 1 = nI (i + 1) from nI_add i 1]
      exact ih
  have q1 : ax_row d 7 15 0 10 = ax_row d 7 0 0 10 := a4.trans b4.symm
  have q2 : ax_row d 7 15 0 11 = ax_row d 7 0 0 11 := a2.trans b2.symm
  have q3 : ax_row d 7 15 0 9 = ax_row d 7 0 0 9 := a3.trans b3.symm
  exact w131 _ _ ⟨fun _ => ⟨fun _ => ⟨fun _ => th, fun z => absurd q3 z⟩, fun z => absurd q2 z⟩, fun z => absurd q1 z⟩
/-- a replay: the turns taken once more -/
theorem c_replay {s : Row} {T : Row} {c : Nat} (hc : c ≤ 512) : ∀ (L : List Cd) (i : Nat) (d : ax_D) (x : Row) (Q : ax_P), i + L.length = c → CC d 15 x → x 3 = 1 → load x ≤ 20 → CC d 0 s → s 3 = 1 → ax_row d 6 0 4 = T → (∀ (j : Nat) (z : Cd), L[j]? = some z → T (i + j) = cdT z ∧ VOkT z ∧ z.1 ≠ 6) → runL L x = some s → (∀ d', Fr (sA 1) d d' → Q d' (Sum.inl (some (Sum.inl 1)))) → h132_31 (nI c) (nI i) d Q := by
  intro L
  induction L with
  | nil =>
    intro i d x Q hi h1 hp hL h2 hs hT he hr hQ
    have hx : x = s := Option.some.inj hr
    have hi : i = c := by rw [List.length_nil] at hi; omega
    subst hi
    refine w132_31 _ _ ⟨fun _ => c_like (by rw [hx] at h1; exact h1) h2 hs _ ⟨Or.inr rfl, hQ d (Fr_refl d)⟩, fun z => absurd (nI_le (Nat.le_refl _) (by omega)) z⟩
  | cons z L ih =>
    intro i d x Q hi h1 hp hL h2 hs hT he hr hQ
    rw [List.length_cons] at hi
    obtain ⟨t1, t2, t3⟩ := he 0 z rfl
    refine w132_31 _ _ ⟨fun z => absurd z (nI_ge (by omega) (by omega)), fun _ => ⟨ax_in_nI (by omega) (by omega), ?_⟩⟩
    rw [nI_clamp (by omega), hT, show T i = cdT z from t1]
    refine c_act (a := 1) h1 hp hL t2 _ ?_
    have hga : GA x (actS x (cmT z)) := GA_act h1.2.2 hp hL (cmd_ok t2).2
    show ActQ 1 d x z.1 (actS x (cmT z)) _
    unfold runL at hr
    cases ha : actS x (cmT z) with
    | inl w => rw [ha] at hr; cases hr
    | inr x' =>
      rw [ha] at hr hga
      have hga : Gd x x' ∧ load x' ≤ 20 := hga
      have gp := GL_pass hga.1.1 hga.1.2.2
      intro d' f' c' _ _
      refine ⟨fun z => absurd z (by decide), fun _ => ?_⟩
      have c' : CC d' 15 (cond (decide (z.1 = 6)) x' (passS x')) := c'
      rw [decide_eq_false t3] at c'
      rw [show nI i + 1 = nI (i + 1) from nI_add i 1]
      refine ih (i + 1) d' (passS x') Q (by omega) c' gp.1.2.2 (Nat.le_trans gp.2 hga.2) ?_ hs ?_ (fun j y hj => ?_) hr (fun d2 f2 => hQ d2 (Fr_trans f' f2))
      · exact ⟨Cp_Fr f' (fun z => by rcases z with z | z <;> cases z.1) h2.1, Cw_Fr f' (fun z => by
          rcases z with z | z
          · cases z.2
          · cases z.1) h2.2.1, h2.2.2⟩
      · rw [Fr_row f' (fun z => by rcases z with z | z <;> cases z.1) 4]; exact hT
      · rw [show i + 1 + j = i + (j + 1) by omega]
        exact he (j + 1) y hj
theorem j_replayed (I : INV d n) (hn : n ≤ 512) : JN [0] 132 248 [] d n := by
  have hC := I.1
  have hk := hC.2.2
  have i00 : ((0 : Int32) = 0) = True := eq_self 0
  cases hp : plays (mr d 2) with
  | false => exact jq_x I 0 rfl (fun Q hQ => w132 (by simp only [c_refU hC, hp, kV_r, kV_x, kI_r, kI_x, kR_r, kF_r, kD_r, forall_eq, not_true_eq_false, not_false_eq_true, false_implies, true_implies, true_and, and_true, b2i_0, b2i_1, b2i_01, b2i_t, b2i_f, decide_true, decide_false, Bool.not_true, Bool.not_false, i1_0, eq_self, reduceCtorEq, eLits, cond_false]; exact hQ)) (fun d' Q e _ hQ => w248 (by simp only [f_mv, f_sV, f_sV', f_s2, f_s3, f_s29, f_s30, f_mr, mr_sR, mv_sV, sV_sV, sR_sR, m2, kV_r, kV_x, kI_r, kI_x, kR_r, kF_r, kD_r, forall_eq, not_true_eq_false, not_false_eq_true, false_implies, true_implies, true_and, and_true, b2i_0, b2i_1, b2i_01, b2i_t, b2i_f, decide_true, decide_false, Bool.not_true, Bool.not_false, i1_0, eq_self, reduceCtorEq, eLits, m_played, e, hp]; exact hQ _))
  | true =>
    have h3 : mr d 2 3 = 1 := of_decide_eq_true hp
    have hB : ∃ st r c, Ok st ∧ load st ≤ 20 ∧ SP (mr d 2) st ∧ r < nR st ∧ Cw d 1 (bgS st r) ∧ c ≤ 512 ∧ RL (ax_row d 6 0 4) (bgS st r) (mr d 2) c := by
      obtain ⟨-, -, -, ln, a, m, H, f, h4, -, -, -, -, hb, -⟩ := I
      obtain ⟨st, r, c, b1, b2, b3, b4, b5, b6, b7, b8, b9, -⟩ := hb h3
      exact ⟨st, r, c, b2, b4, b5, b6, b7, by omega, b9⟩
    obtain ⟨st, r, c, b2, b4, b5, b6, b7, b8, L, l1, l2, l3, l4⟩ := hB
    obtain ⟨ob, spb, plb⟩ := Ok_bg b2 b6
    have h10 : ax_row d 7 0 0 10 = nI c := (show ax_row d 7 0 0 10 = mr d 2 4 from hC.2.1.2.1.2.2).trans l2
    refine jq_gen I (r1 := Sum.inl (some (Sum.inl 1))) (fun Q hQ => w132 ?_) (fun d' Q e hQ => w248 ?_)
    · simp only [c_refU hC, hp, kV_r, kV_x, kI_r, kI_x, kR_r, kF_r, kD_r, forall_eq, not_true_eq_false, not_false_eq_true, false_implies, true_implies, true_and, and_true, b2i_0, b2i_1, b2i_01, b2i_t, b2i_f, decide_true, decide_false, Bool.not_true, Bool.not_false, i1_0, eq_self, reduceCtorEq, eLits, cond_true]
      refine c_copy (w := 15) (p := 1) (by omega) d _ (fun d1 f1 g1 => w130 _ ?_)
      have c1 : CC d1 15 (bgS st r) := ⟨Cp_SP (Cp_SP (Cp_Fr f1 (fun z => by cases z.1) hC.1) b5) spb, WEq_Cw g1 ob b7, ob⟩
      have c0 : CC d1 0 (mr d 2) := ⟨Cp_Fr f1 (fun z => by cases z.1) hC.1, Cw_Fr f1 (fun z => by cases z.2) hC.2.1, hk⟩
      have x10 : ax_row d1 7 (2 * 0) 0 10 = nI c := by
        show ax_row d1 7 0 0 10 = nI c
        rw [Fr_row f1 (fun z => by cases z.2) 0]; exact h10
      rw [x10]
      have go : h132_31 (nI c) 0 d1 Q := by
        refine c_replay (T := ax_row d 6 0 4) b8 L 0 d1 (bgS st r) Q (by omega) c1 (bg_3 _ _) (by rw [SPl_load b2 ob spb plb]; exact b4) c0 h3 ?_ (fun j z hj => ?_) l4 (fun d2 f2 => ?_)
        · exact Fr_row f1 (fun z => by cases z.1) 4
        · rw [Nat.zero_add]; exact l3 j z hj
        · refine hQ d2 (Fr_trans (Fr_mono f1 (fun k i z => Or.inr (Or.inl z))) (Fr_mono f2 (fun k i z => Or.inr z))) ?_ ?_
          · rw [Fr_row f2 (fun z => by rcases z with z | z <;> cases z.1) 1, Fr_row f1 (fun z => by cases z.1) 1]
          · rw [Fr_row f2 (fun z => by rcases z with z | z <;> cases z.1) 0, Fr_row f1 (fun z => by cases z.1) 0]
      refine ⟨fun z => ?_, fun _ => go⟩
      have hc512 : c = 512 := by
        rcases Nat.lt_or_ge c 512 with q | q
        · exact absurd z (nI_ge (b := 512) q (by omega))
        · omega
      rw [hc512] at go
      exact go
    · simp only [f_mv, f_sV, f_sV', f_s2, f_s3, f_s29, f_s30, f_mr, mr_sR, mv_sV, sV_sV, sR_sR, m2, kV_r, kV_x, kI_r, kI_x, kR_r, kF_r, kD_r, forall_eq, not_true_eq_false, not_false_eq_true, false_implies, true_implies, true_and, and_true, b2i_0, b2i_1, b2i_01, b2i_t, b2i_f, decide_true, decide_false, Bool.not_true, Bool.not_false, i1_0, eq_self, reduceCtorEq, eLits, m_played, congrFun e 2, show mr d' 2 = mr d 2 from congrFun e 2, hp]
      exact hQ _ _ (FrM_sV d' (Or.inl rfl) 0) (Or.inr ⟨1, rfl, mv_sV _ _ _, rfl⟩)
end SV
