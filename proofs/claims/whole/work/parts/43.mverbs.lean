/-! the check's verbs -/
def apA (d : ax_D) (r : AR) : ax_D := match r with
  | Sum.inl (w, a) => sV (sV d 26 w) 27 a
  | Sum.inr s => sR d 2 s
theorem apA_rf (d : ax_D) (w a : Int32) : apA d (rf w a) = sV (sV d 26 w) 27 a := rfl
theorem apA_ok (d : ax_D) (s : Row) : apA d (ok s) = sR d 2 s := rfl
section MV
variable {d : ax_D} {s : Row}
theorem mv3 {t : Nat} {g : Int32} (ht : t < nT s) : MvOk s t 3 g := ⟨ht, Or.inr (Or.inr (Or.inr (Or.inl rfl)))⟩
theorem m_take (hs : mr d 2 = s) (h : Ok s) {t : Nat} (ht : t < nT s) (Q : ax_P) : CT 181 [ax_vR 9 0 0, Sum.inl (nI t)] d Q ↔ Q (apA d (takS s t)) (Sum.inl none) := by
  refine ct_iff (w181 _ ?_) Q
  have hl := Ok_lt h ht
  unfold takS
  simp only [f_mv, f_sV, f_sV', f_sR, f_mr, mr_sR, mv_sV, sV_sV, sR_sR, kV_r, kV_x, kI_r, kI_x, kR_r, kF_r, kD_r, forall_eq, not_true_eq_false, not_false_eq_true, false_implies, true_implies, true_and, and_true, b2i_0, b2i_1, b2i_01, b2i_t, b2i_f, decide_true, decide_false, Bool.not_true, Bool.not_false, i1_0, m_fast hs hl, in_255 hl, cl_255 hl, hs, m_bear hs h ht 3 (-1) (Ok_moves h (mv3 ht)), m_refuses, m_moves hl]
  refine ⟨fun g => ⟨fun g2 => ?_, fun g2 => ⟨fun g3 => ?_, fun g3 => ?_⟩⟩, fun g => ?_⟩
  · rw [g, decide_eq_true g2]
    all_goals first | rfl | exact ⟨rfl, rfl⟩
  · rw [g, decide_eq_false g2, g3]
    all_goals first | rfl | exact ⟨rfl, rfl⟩
  · have g3 : bear s t 3 (-1) = true := by simpa using g3
    rw [g, decide_eq_false g2, g3]
    all_goals first | rfl | exact ⟨rfl, rfl⟩
  · have g : fast s t = true := by simpa using g
    rw [g]
    all_goals first | rfl | exact ⟨rfl, rfl⟩
theorem m_open (hs : mr d 2 = s) {t : Nat} (hl : t < 16) (p : Bool) (Q : ax_P) : CT 170 [ax_vR 9 0 0, Sum.inl (nI t), Sum.inl (b2i p)] d Q ↔ Q (apA d (opnS s t p)) (Sum.inl none) := by
  refine ct_iff (w170 _ _ ?_) Q
  unfold opnS
  simp only [f_mv, f_sV, f_sV', f_sR, f_mr, mr_sR, mv_sV, sV_sV, sR_sR, kV_r, kV_x, kI_r, kI_x, kR_r, kF_r, kD_r, forall_eq, not_true_eq_false, not_false_eq_true, false_implies, true_implies, true_and, and_true, b2i_0, b2i_1, b2i_01, b2i_t, b2i_f, decide_true, decide_false, Bool.not_true, Bool.not_false, i1_0, m_lock hl, hs, m_has hl, m_refuses, m_sets hl]
  cases g : isLock s t <;> cases g2 : hasF s t 1 <;> cases p <;> cases g3 : hasF s t 2 <;> simp [b2i, apA, rf, ok]
theorem m_lokE (hs : mr d 2 = s) {t q : Nat} (hl : t < 16) (p : Int32) (Q : ax_P) : h168_59 (nI t) (nI q) p d (fun d' r => d' = apA d (cond (decide (s (223 + t) = nI q)) (ok (sets s t 2 (!decide (p = 0)))) (rf 8 (nI q))) ∧ r = Sum.inl none) := by
  refine w168_59 _ _ _ ?_
  simp only [f_mv, f_sV, f_sV', f_sR, f_mr, mr_sR, mv_sV, sV_sV, sR_sR, kV_r, kV_x, kI_r, kI_x, kR_r, kF_r, kD_r, forall_eq, not_true_eq_false, not_false_eq_true, false_implies, true_implies, true_and, and_true, b2i_0, b2i_1, b2i_01, b2i_t, b2i_f, decide_true, decide_false, Bool.not_true, Bool.not_false, i1_0, in_223 hl, cl_223 hl, hs, m_sets hl, m_refuses]
  refine ⟨fun g => ?_, fun g => ?_⟩ <;> simp [g, apA, rf, ok]
theorem m_lok (hs : mr d 2 = s) {t q : Nat} (hl : t < 16) (p : Bool) (Q : ax_P) : CT 168 [ax_vR 9 0 0, Sum.inl (nI t), Sum.inl (nI q), Sum.inl (b2i p)] d Q ↔ Q (apA d (lokS s t q p)) (Sum.inl none) := by
  refine ct_iff (w168 _ _ _ ?_) Q
  have he := m_lokE (q := q) hs hl (b2i p) Q
  unfold lokS
  simp only [f_mv, f_sV, f_sV', f_sR, f_mr, mr_sR, mv_sV, sV_sV, sR_sR, kV_r, kV_x, kI_r, kI_x, kR_r, kF_r, kD_r, forall_eq, not_true_eq_false, not_false_eq_true, false_implies, true_implies, true_and, and_true, b2i_0, b2i_1, b2i_01, b2i_t, b2i_f, decide_true, decide_false, Bool.not_true, Bool.not_false, i1_0, m_lock hl, hs, m_has hl, m_refuses]
  cases g : isLock s t <;> cases g2 : hasF s t 2 <;> cases p <;> cases g3 : hasF s t 1 <;> simp [b2i, apA, rf, ok] <;> simpa [b2i, apA, rf, ok] using he
theorem m_light (hs : mr d 2 = s) {t : Nat} (hl : t < 16) (p : Bool) (Q : ax_P) : CT 166 [ax_vR 9 0 0, Sum.inl (nI t), Sum.inl (b2i p)] d Q ↔ Q (apA d (litS s t p)) (Sum.inl none) := by
  refine ct_iff (w166 _ _ ?_) Q
  unfold litS
  simp only [f_mv, f_sV, f_sV', f_sR, f_mr, mr_sR, mv_sV, sV_sV, sR_sR, kV_r, kV_x, kI_r, kI_x, kR_r, kF_r, kD_r, forall_eq, not_true_eq_false, not_false_eq_true, false_implies, true_implies, true_and, and_true, b2i_0, b2i_1, b2i_01, b2i_t, b2i_f, decide_true, decide_false, Bool.not_true, Bool.not_false, i1_0, in_111 hl, cl_111 hl, in_207 hl, cl_207 hl, hs, m_has hl, m_refuses, m_sets hl]
  by_cases g : s (111 + t) = 3 <;> cases g2 : hasF s t 4 <;> cases p <;> by_cases g3 : s (207 + t) = 0 <;> simp [g, g3, b2i, apA, rf, ok]
theorem m_put (hs : mr d 2 = s) (h : Ok s) {t q : Nat} (ht : t < nT s) (hq : q < nT s) {p : Int32} (hp : p = 1 ∨ p = 2) (Q : ax_P) : CT 180 [ax_vR 9 0 0, Sum.inl (nI t), Sum.inl (nI q), Sum.inl p] d Q ↔ Q (apA d (putS s t q p)) (Sum.inl none) := by
  refine ct_iff (w180 _ _ _ ?_) Q
  have hl := Ok_lt h ht
  have hl2 := Ok_lt h hq
  have h83 : s (111 + q) = p → inside s q t = false → h180_83 (nI t) (nI q) p d (fun d' r => d' = apA d (cond (isAtS s t p (nI q)) (rf 5 (-1)) (cond (decide (s (175 + q) < nI (filled s (nI q) (nI t) + sz s t)) || !bear s t p (nI q)) (rf 7 (nI q)) (ok (moves s t p (nI q))))) ∧ r = Sum.inl none) := by
    intro g1 g2
    have hm : MvOk s t p (nI q) := by
      rcases hp with rfl | rfl
      · exact ⟨ht, Or.inr (Or.inl ⟨rfl, q, hq, rfl, g1, g2⟩)⟩
      · exact ⟨ht, Or.inr (Or.inr (Or.inl ⟨rfl, q, hq, rfl, g1, g2⟩))⟩
    refine w180_83 _ _ _ ?_
    simp only [f_mv, f_sV, f_sV', f_sR, f_mr, mr_sR, mv_sV, sV_sV, sR_sR, kV_r, kV_x, kI_r, kI_x, kR_r, kF_r, kD_r, forall_eq, not_true_eq_false, not_false_eq_true, false_implies, true_implies, true_and, and_true, b2i_0, b2i_1, b2i_01, b2i_t, b2i_f, decide_true, decide_false, Bool.not_true, Bool.not_false, i1_0, m_isAt hl, hs, m_filled hs h, in_159 hl, cl_159 hl, in_175 hl2, cl_175 hl2, (sz_of h ht).1, nI_add, m_refuses, m_bear hs h ht p (nI q) (Ok_moves h hm), m_moves hl]
    cases g3 : isAtS s t p (nI q) <;> by_cases g4 : s (175 + q) < nI (filled s (nI q) (nI t) + sz s t) <;> cases g5 : bear s t p (nI q) <;> simp [g4, apA, rf, ok]
  unfold putS
  simp only [f_mv, f_sV, f_sV', f_sR, f_mr, mr_sR, mv_sV, sV_sV, sR_sR, kV_r, kV_x, kI_r, kI_x, kR_r, kF_r, kD_r, forall_eq, not_true_eq_false, not_false_eq_true, false_implies, true_implies, true_and, and_true, b2i_0, b2i_1, b2i_01, b2i_t, b2i_f, decide_true, decide_false, Bool.not_true, Bool.not_false, i1_0, m_fast hs hl, in_111 hl2, cl_111 hl2, hs, m_inside hs h hq hl, m_has hl2, m_refuses]
  refine ⟨fun g => ⟨fun g2 => ⟨fun g3 => ⟨fun g4 => ⟨fun g5 => ?_, fun g5 => ?_⟩, fun g4 => ?_⟩, fun g3 => ?_⟩, fun g2 => ?_⟩, fun g => ?_⟩
  · rw [g, decide_eq_true g2, g3, decide_eq_true g4, g5]
    all_goals first | rfl | exact ⟨rfl, rfl⟩
  · have g5 : hasF s q 1 = true := by simpa using g5
    rw [g, decide_eq_true g2, g3, decide_eq_true g4, g5]
    exact h83 g2 g3
  · rw [g, decide_eq_true g2, g3, decide_eq_false g4]
    exact h83 g2 g3
  · have g3 : inside s q t = true := by simpa using g3
    rw [g, decide_eq_true g2, g3]
    all_goals first | rfl | exact ⟨rfl, rfl⟩
  · rw [g, decide_eq_false g2]
    all_goals first | rfl | exact ⟨rfl, rfl⟩
  · have g : fast s t = true := by simpa using g
    rw [g]
    all_goals first | rfl | exact ⟨rfl, rfl⟩
theorem m_go (hs : mr d 2 = s) (h : Ok s) (hp : plays s = true) {k : Nat} (hk : k < 6) (Q : ax_P) : CT 198 [ax_vR 9 0 0, Sum.inl (nI k)] d Q ↔ Q (apA d (movS s k)) (Sum.inl none) := by
  refine ct_iff (w198 _ ?_) Q
  obtain ⟨h5, h6, h8⟩ := Ok_P h hp
  have hE : 6 * nP s + k < 48 := by omega
  unfold movS
  simp only [f_mv, f_sV, f_sV', f_sR, f_mr, mr_sR, mv_sV, sV_sV, sR_sR, kV_r, kV_x, kI_r, kI_x, kR_r, kF_r, kD_r, forall_eq, not_true_eq_false, not_false_eq_true, false_implies, true_implies, true_and, and_true, b2i_0, b2i_1, b2i_01, b2i_t, b2i_f, decide_true, decide_false, Bool.not_true, Bool.not_false, i1_0, hs, h5, e6k, e15', in_15 hE, cl_15 hE, in_63 hE, cl_63 hE, m_refuses, m_shut hs hE (Ok_door h h6 hk)]
  by_cases g : s (15 + (6 * nP s + k)) = -1 <;> cases g2 : shut s (6 * nP s + k) <;> simp [g, apA, rf, ok]
theorem any_b (b : Bool) : (b2i b = 0) = (b = false) := b2i_0 b
/-- a fold that changes the row, and says whether it did -/
theorem Gd_fold2 {s : Row} (h : Ok s) (hp : s 3 = 1) (f : Nat → Bool × Row → Bool × Row) (N : Nat) (hf : ∀ a k, Gd s a.2 → k < N → Gd a.2 (f k a).2) : ∀ n, n ≤ N → Gd s (foldN f n (false, s)).2 := by
  intro n
  induction n with
  | zero => intro _; exact ⟨h, SP_refl s, hp⟩
  | succ n ih =>
    intro hn
    have g1 := ih (by omega)
    exact Gd_trans g1 (hf _ n g1 (by omega))
theorem Gd_talF {a : Bool × Row} {k : Nat} (h : Ok a.2) (hp : a.2 3 = 1) (hk : k < nT a.2) : Gd a.2 (talF k a).2 := by
  unfold talF
  cases talP a.2 k with
  | true => exact Gd_moves h hp (mv3 hk)
  | false => exact ⟨h, SP_refl _, hp⟩
theorem Gd_dalF {a : Bool × Row} {k : Nat} (h : Ok a.2) (hp : a.2 3 = 1) (hk : k < nT a.2) : Gd a.2 (dalF k a).2 := by
  unfold dalF
  cases decide (a.2 (255 + k) = 3) with
  | true =>
    obtain ⟨h5, h6, h8⟩ := Ok_P h (decide_eq_true hp)
    exact Gd_moves h hp ⟨hk, Or.inl ⟨rfl, nP a.2, h6, h5⟩⟩
  | false => exact ⟨h, SP_refl _, hp⟩
theorem Gd_tals (h : Ok s) (hp : s 3 = 1) {n : Nat} (hn : n ≤ nT s) : Gd s (foldN talF n (false, s)).2 := Gd_fold2 h hp talF (nT s) (fun a k ga hk => Gd_talF ga.1 ga.2.2 (by rw [SP_T ga.2.1]; exact hk)) n hn
theorem Gd_dals (h : Ok s) (hp : s 3 = 1) {n : Nat} (hn : n ≤ nT s) : Gd s (foldN dalF n (false, s)).2 := Gd_fold2 h hp dalF (nT s) (fun a k ga hk => Gd_dalF ga.1 ga.2.2 (by rw [SP_T ga.2.1]; exact hk)) n hn
/-- if nothing was done, nothing is changed -/
theorem fold2_no (f : Nat → Bool × Row → Bool × Row) (hf : ∀ a k, (f k a).1 = false → f k a = a) : ∀ n, (foldN f n (false, s)).1 = false → foldN f n (false, s) = (false, s) := by
  intro n
  induction n with
  | zero => intro _; rfl
  | succ n ih =>
    intro h
    rw [foldN_succ] at h ⊢
    have e := hf _ n h
    rw [e] at h ⊢
    exact ih h
theorem talF_no (a : Bool × Row) (k : Nat) (h : (talF k a).1 = false) : talF k a = a := by
  unfold talF at h ⊢
  cases hh : talP a.2 k with
  | true => rw [hh] at h; cases h
  | false => rfl
theorem dalF_no (a : Bool × Row) (k : Nat) (h : (dalF k a).1 = false) : dalF k a = a := by
  unfold dalF at h ⊢
  cases hh : decide (a.2 (255 + k) = 3) with
  | true => rw [hh] at h; cases h
  | false => rfl
theorem m_tal (hs : mr d 2 = s) (h : Ok s) (hp : s 3 = 1) (Q : ax_P) : CT 199 [ax_vR 9 0 0] d Q ↔ Q (apA d (talS s)) (Sum.inl none) := by
  refine ct_iff (w199 ?_) Q
  have hT := Ok_T h
  have key := lp_up (fun i => h199_4 (b2i (foldN talF i (false, s)).1) (nI i) (sR d 2 (foldN talF i (false, s)).2) (fun d' r => d' = apA d (talS s) ∧ r = Sum.inl none)) (nT s) ?_ ?_ 0 (by omega)
  · have : sR d 2 (foldN talF 0 (false, s)).2 = d := sR_id d 2 hs
    rw [this] at key
    exact key
  · refine w199_4 _ _ ?_
    have ga := Gd_tals h hp (Nat.le_refl (nT s))
    have e1 := (ga.2.1 1 (by unfold Pix; omega)).trans hT.1
    simp only [f_mv, f_sV, f_sV', f_sR, f_mr, mr_sR, mv_sV, sV_sV, sR_sR, kV_r, kV_x, kI_r, kI_x, kR_r, kF_r, kD_r, forall_eq, not_true_eq_false, not_false_eq_true, false_implies, true_implies, true_and, and_true, b2i_0, b2i_1, b2i_01, b2i_t, b2i_f, decide_true, decide_false, Bool.not_true, Bool.not_false, i1_0, e1, le_yes (Nat.le_refl _) (show nT s < 2 ^ 31 by omega), m_refuses]
    refine ⟨fun g => ?_, fun g => ?_⟩
    · have e := fold2_no (s := s) talF talF_no (nT s) g
      unfold talS anyS
      rw [e, sR_id d 2 hs]
      all_goals first | rfl | exact ⟨rfl, rfl⟩
    · have g : (foldN talF (nT s) (false, s)).1 = true := by simpa using g
      unfold talS anyS
      rw [g]
      all_goals first | rfl | exact ⟨rfl, rfl⟩
  · intro i hi ih
    have hl := Ok_lt h hi
    refine w199_4 _ _ ?_
    have ga := Gd_tals h hp (show i ≤ nT s by omega)
    have e1 := (ga.2.1 1 (by unfold Pix; omega)).trans hT.1
    rw [foldN_succ] at ih
    generalize foldN talF i (false, s) = b at *
    have hib : i < nT b.2 := by rw [SP_T ga.2.1]; exact hi
    have hpb : plays b.2 = true := decide_eq_true ga.2.2
    simp only [f_mv, f_sV, f_sV', f_sR, f_mr, mr_sR, mv_sV, sV_sV, sR_sR, kV_r, kV_x, kI_r, kI_x, kR_r, kF_r, kD_r, forall_eq, not_true_eq_false, not_false_eq_true, false_implies, true_implies, true_and, and_true, b2i_0, b2i_1, b2i_01, b2i_t, b2i_f, decide_true, decide_false, Bool.not_true, Bool.not_false, i1_0, e1, le_no hi (show nT s < 2 ^ 31 by omega), m_isAt hl, m_fast (mr_sR d 2 _) hl, m_reach (mr_sR d 2 _) ga.1 hpb hib, m_bear (mr_sR d 2 _) ga.1 hib 3 (-1) (Ok_moves ga.1 (mv3 hib)), m_moves hl, nI_1]
    unfold talF talP at ih
    cases g1 : isAtS b.2 i 0 (b.2 5) <;> cases g2 : fast b.2 i <;> cases g3 : reach b.2 i <;> cases g4 : bear b.2 i 3 (-1) <;> simpa [g1, g2, g3, g4, b2i] using ih
theorem m_dal (hs : mr d 2 = s) (h : Ok s) (hp : s 3 = 1) (Q : ax_P) : CT 183 [ax_vR 9 0 0] d Q ↔ Q (apA d (dalS s)) (Sum.inl none) := by
  refine ct_iff (w183 ?_) Q
  have hT := Ok_T h
  have key := lp_up (fun i => h183_4 (b2i (foldN dalF i (false, s)).1) (nI i) (sR d 2 (foldN dalF i (false, s)).2) (fun d' r => d' = apA d (dalS s) ∧ r = Sum.inl none)) (nT s) ?_ ?_ 0 (by omega)
  · have : sR d 2 (foldN dalF 0 (false, s)).2 = d := sR_id d 2 hs
    rw [this] at key
    exact key
  · refine w183_4 _ _ ?_
    have ga := Gd_dals h hp (Nat.le_refl (nT s))
    have e1 := (ga.2.1 1 (by unfold Pix; omega)).trans hT.1
    simp only [f_mv, f_sV, f_sV', f_sR, f_mr, mr_sR, mv_sV, sV_sV, sR_sR, kV_r, kV_x, kI_r, kI_x, kR_r, kF_r, kD_r, forall_eq, not_true_eq_false, not_false_eq_true, false_implies, true_implies, true_and, and_true, b2i_0, b2i_1, b2i_01, b2i_t, b2i_f, decide_true, decide_false, Bool.not_true, Bool.not_false, i1_0, e1, le_yes (Nat.le_refl _) (show nT s < 2 ^ 31 by omega), m_refuses]
    refine ⟨fun g => ?_, fun g => ?_⟩
    · have e := fold2_no (s := s) dalF dalF_no (nT s) g
      unfold dalS anyS
      rw [e, sR_id d 2 hs]
      all_goals first | rfl | exact ⟨rfl, rfl⟩
    · have g : (foldN dalF (nT s) (false, s)).1 = true := by simpa using g
      unfold dalS anyS
      rw [g]
      all_goals first | rfl | exact ⟨rfl, rfl⟩
  · intro i hi ih
    have hl := Ok_lt h hi
    refine w183_4 _ _ ?_
    have ga := Gd_dals h hp (show i ≤ nT s by omega)
    have e1 := (ga.2.1 1 (by unfold Pix; omega)).trans hT.1
    rw [foldN_succ] at ih
    generalize foldN dalF i (false, s) = b at *
    simp only [f_mv, f_sV, f_sV', f_sR, f_mr, mr_sR, mv_sV, sV_sV, sR_sR, kV_r, kV_x, kI_r, kI_x, kR_r, kF_r, kD_r, forall_eq, not_true_eq_false, not_false_eq_true, false_implies, true_implies, true_and, and_true, b2i_0, b2i_1, b2i_01, b2i_t, b2i_f, decide_true, decide_false, Bool.not_true, Bool.not_false, i1_0, e1, le_no hi (show nT s < 2 ^ 31 by omega), in_255 hl, cl_255 hl, m_moves hl, nI_1]
    unfold dalF at ih
    by_cases g1 : b.2 (255 + i) = 3 <;> simpa [g1, b2i] using ih
end MV
