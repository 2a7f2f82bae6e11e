/-! the check's turn: events, daemons, lamps -/
theorem shE_succ (s : Row) {i : Nat} (hi : i < 39) : upd (shE s i) (329 + i) (shE s i (329 + i + 1)) = shE s (i + 1) := by
  funext j
  unfold upd shE
  by_cases e : j = 329 + i
  · subst e
    rw [if_pos rfl, if_neg (by omega), if_pos (by omega)]
  · rw [if_neg e]
    by_cases e2 : 329 ≤ j ∧ j < 329 + i
    · rw [if_pos e2, if_pos (by omega)]
    · rw [if_neg e2, if_neg (by omega)]
theorem shE_0 (s : Row) : shE s 0 = s := by
  funext j
  unfold shE
  rw [if_neg (by omega)]
theorem e329 (i : Nat) : (329 : Int32) + nI i + 1 = nI (329 + i + 1) := by
  show nI 329 + nI i + 1 = _
  rw [nI_add, nI_1]
theorem e329m (i : Nat) : (329 : Int32) + nI (i + 1) - 1 = nI (329 + i) := by
  show nI 329 + nI (i + 1) - 1 = _
  rw [nI_add, show 329 + (i + 1) = (329 + i) + 1 by omega, nI_pred]
theorem h100 (c t : Nat) : nI 100 * nI c + nI t = nI (100 * c + t) := by rw [pk_mul, nI_add]
section MT
variable {d : ax_D} {s : Row}
theorem m_logs (hs : mr d 2 = s) (h : Ok s) (hp : s 3 = 1) (c t : Int32) (Q : ax_P) : CT 213 [ax_vR 9 0 0, Sum.inl c, Sum.inl t] d Q ↔ Q (sR d 2 (logS s (100 * c + t))) (Sum.inl none) := by
  refine ct_iff (w213 _ _ ?_) Q
  obtain ⟨e, he, h6⟩ := Ok_6 h hp
  refine ⟨fun g => ?_, fun g => ?_⟩
  · have g : mr d 2 6 = 40 := g
    rw [hs] at g
    have key := lp_up (fun i => h213_14 c t (nI i) (sR d 2 (shE s i)) (fun d' r => d' = sR d 2 (logS s (100 * c + t)) ∧ r = Sum.inl none)) 39 ?_ ?_ 0 (by omega)
    · rw [shE_0, sR_id d 2 hs] at key
      exact key
    · refine w213_14 _ _ _ ?_
      have e6 : shE s 39 6 = nI (39 + 1) := by unfold shE; rw [if_neg (by omega), g]; rfl
      simp only [f_mv, f_sV, f_sV', f_sR, f_mr, mr_sR, mv_sV, sV_sV, sR_sR, kV_r, kV_x, kI_r, kI_x, kR_r, kF_r, kD_r, forall_eq, not_true_eq_false, not_false_eq_true, false_implies, true_implies, true_and, and_true, b2i_0, b2i_1, b2i_01, b2i_t, b2i_f, decide_true, decide_false, Bool.not_true, Bool.not_false, i1_0, show ((39 : Int32) ≤ nI 39) = True from eq_true (by decide), e6, e329m, ax_in_nI (show 329 + 39 < 369 by omega) (by omega), nI_clamp (show 329 + 39 < 2 ^ 31 by omega)]
      simp [logS, g]
    · intro i hi ih
      refine w213_14 _ _ _ ?_
      simp only [f_mv, f_sV, f_sV', f_sR, f_mr, mr_sR, mv_sV, sV_sV, sR_sR, kV_r, kV_x, kI_r, kI_x, kR_r, kF_r, kD_r, forall_eq, not_true_eq_false, not_false_eq_true, false_implies, true_implies, true_and, and_true, b2i_0, b2i_1, b2i_01, b2i_t, b2i_f, decide_true, decide_false, Bool.not_true, Bool.not_false, i1_0, show ((39 : Int32) ≤ nI i) = False from le_no (b := 39) hi (by omega), e329, ax_in_nI (show 329 + i + 1 < 369 by omega) (by omega), in_329 (show i < 40 by omega), cl_329 (show i < 40 by omega), nI_clamp (show 329 + i + 1 < 2 ^ 31 by omega), shE_succ s hi, nI_1]
      exact ih
  · have g : ¬ mr d 2 6 = 40 := g
    rw [hs] at g
    have he40 : e < 40 := by
      rcases Nat.lt_or_ge e 40 with a | a
      · exact a
      · exact absurd (by rw [h6, show e = 40 by omega]; rfl) g
    simp only [f_mv, f_sV, f_sV', f_sR, f_mr, mr_sR, mv_sV, sV_sV, sR_sR, kV_r, kV_x, kI_r, kI_x, kR_r, kF_r, kD_r, forall_eq, not_true_eq_false, not_false_eq_true, false_implies, true_implies, true_and, and_true, b2i_0, b2i_1, b2i_01, b2i_t, b2i_f, decide_true, decide_false, Bool.not_true, Bool.not_false, i1_0, hs, h6, nI_1, upd_s, e329m, ax_in_nI (show 329 + e < 369 by omega) (by omega), nI_clamp (show 329 + e < 2 ^ 31 by omega)]
    have e2 : logS s (100 * c + t) = upd (upd s 6 (nI (e + 1))) (329 + e) (100 * c + t) := by unfold logS; rw [decide_eq_false g, cond_false, h6, nI_1, nI_clamp (by omega)]
    simp [e2]
theorem m_causes (hs : mr d 2 = s) (h : Ok s) (hp : s 3 = 1) {k : Nat} (hk : k < 6) (c t : Int32) (Q : ax_P) : CT 214 [ax_vR 9 0 0, Sum.inl (nI k), Sum.inl c, Sum.inl t] d Q ↔ Q (sR d 2 (causeS s k (100 * c + t))) (Sum.inl none) := by
  refine ct_iff (w214 _ _ _ ?_) Q
  obtain ⟨a, -, -⟩ := Ok_upd h (k := 323 + k) (s (323 + k) + 1) (by omega) hp (fun e => by omega) (fun e => by omega)
  simp only [f_mv, f_sV, f_sV', f_sR, f_mr, mr_sR, mv_sV, sV_sV, sR_sR, kV_r, kV_x, kI_r, kI_x, kR_r, kF_r, kD_r, forall_eq, not_true_eq_false, not_false_eq_true, false_implies, true_implies, true_and, and_true, b2i_0, b2i_1, b2i_01, b2i_t, b2i_f, decide_true, decide_false, Bool.not_true, Bool.not_false, i1_0, in_323 hk, cl_323 hk, hs, m_logs (mr_sR d 2 _) a (show upd s (323 + k) _ 3 = 1 by rw [upd_n (by omega)]; exact hp)]
  simp [causeS]
theorem m_shut (hs : mr d 2 = s) {e : Nat} (he : e < 48) (hd : s (63 + e) = -1 ∨ ∃ t, t < 16 ∧ s (63 + e) = nI t) (Q : ax_P) : CT 197 [ax_vR 9 0 0, Sum.inl (nI e)] d Q ↔ Q d (Sum.inl (some (Sum.inl (b2i (shut s e))))) := by
  refine ct_iff (w197 _ ?_) Q
  unfold shut
  rcases hd with hd | ⟨t, ht, hd⟩
  · simp only [f_mv, f_sV, f_sV', f_sR, f_mr, mr_sR, mv_sV, sV_sV, sR_sR, kV_r, kV_x, kI_r, kI_x, kR_r, kF_r, kD_r, forall_eq, not_true_eq_false, not_false_eq_true, false_implies, true_implies, true_and, and_true, b2i_0, b2i_1, b2i_01, b2i_t, b2i_f, decide_true, decide_false, Bool.not_true, Bool.not_false, i1_0, in_63 he, cl_63 he, hs, hd]
    simp [b2i]
  · simp only [f_mv, f_sV, f_sV', f_sR, f_mr, mr_sR, mv_sV, sV_sV, sR_sR, kV_r, kV_x, kI_r, kI_x, kR_r, kF_r, kD_r, forall_eq, not_true_eq_false, not_false_eq_true, false_implies, true_implies, true_and, and_true, b2i_0, b2i_1, b2i_01, b2i_t, b2i_f, decide_true, decide_false, Bool.not_true, Bool.not_false, i1_0, in_63 he, cl_63 he, hs, hd, nI_neg (show t < 2 ^ 31 by omega), m_has ht, nI_clamp (show t < 2 ^ 31 by omega)]
    cases g : hasF s t 1 <;> simp [g, b2i, nI_neg (show t < 2 ^ 31 by omega)]
theorem m_fast (hs : mr d 2 = s) {t : Nat} (ht : t < 16) (Q : ax_P) : CT 178 [ax_vR 9 0 0, Sum.inl (nI t)] d Q ↔ Q d (Sum.inl (some (Sum.inl (b2i (fast s t))))) := by
  refine ct_iff (w178 _ ?_) Q
  unfold fast
  simp only [f_mv, f_sV, f_sV', f_sR, f_mr, mr_sR, mv_sV, sV_sV, sR_sR, kV_r, kV_x, kI_r, kI_x, kR_r, kF_r, kD_r, forall_eq, not_true_eq_false, not_false_eq_true, false_implies, true_implies, true_and, and_true, b2i_0, b2i_1, b2i_01, b2i_t, b2i_f, decide_true, decide_false, Bool.not_true, Bool.not_false, i1_0, in_111 ht, cl_111 ht, hs, m_has ht]
  have e : (3 ≤ s (111 + t)) = ¬ (s (111 + t) < 3) := by rw [Int32.not_lt]
  rw [e]
  by_cases h1 : s (111 + t) = 4 <;> cases h2 : hasF s t 0 <;> by_cases h3 : s (111 + t) < 3 <;> simp [h1, h2, h3, b2i]
theorem e15' (a k : Nat) : (15 : Int32) + ((6 * nI a) + nI k) = nI (15 + (6 * a + k)) := by
  show nI 15 + (nI 6 * nI a + nI k) = _
  rw [pk_mul, nI_add, nI_add]
theorem e6k (a k : Nat) : (6 : Int32) * nI a + nI k = nI (6 * a + k) := by
  show nI 6 * nI a + nI k = _
  rw [pk_mul, nI_add]
theorem way6 {x : Int32} {W i : Nat} (h : x + 1 = nI W) (hW : W ≤ 6) (hi : i < 6) : (x + nI (i + 1)) - (x + nI (i + 1)) / 6 * 6 = nI ((W + i) % 6) := by
  have e : x + nI (i + 1) = nI (W + i) := by
    rw [nI_succ, show x + (nI i + 1) = (x + 1) + nI i by ac_rfl, h, nI_add]
  rw [e]
  exact pk_rem (d := 6) (by omega) (by decide) (by decide)
theorem Ok_door (h : Ok s) {r k : Nat} (hr : r < nR s) (hk : k < 6) : s (63 + (6 * r + k)) = -1 ∨ ∃ t, t < 16 ∧ s (63 + (6 * r + k)) = nI t := by
  rcases (h.1.2.1 r hr k hk).2 with a | ⟨t, h1, h2⟩
  · exact Or.inl a
  · exact Or.inr ⟨t, Ok_lt h h1, h2⟩
theorem m_wand (hs : mr d 2 = s) (h : Ok s) (hp : s 3 = 1) {k : Nat} (hk : k < nD s) (Q : ax_P) : CT 216 [ax_vR 9 0 0, Sum.inl (nI k)] d Q ↔ Q (sR d 2 (wandS s k)) (Sum.inl none) := by
  refine ct_iff (w216 _ ?_) Q
  have hk6 : k < 6 := Nat.lt_of_lt_of_le hk (Pk_D h.1).2
  have hR := (Pk_R h.1).2
  obtain ⟨d1, d2, -⟩ := dk h hk
  obtain ⟨w1, w2⟩ := dW_lt h hp hk
  have hl := Ok_lt h d2
  unfold wandS
  simp only [f_mv, f_sV, f_sV', f_sR, f_mr, mr_sR, mv_sV, sV_sV, sR_sR, kV_r, kV_x, kI_r, kI_x, kR_r, kF_r, kD_r, forall_eq, not_true_eq_false, not_false_eq_true, false_implies, true_implies, true_and, and_true, b2i_0, b2i_1, b2i_01, b2i_t, b2i_f, decide_true, decide_false, Bool.not_true, Bool.not_false, i1_0, in_293 hk6, cl_293 hk6, hs, d1, in_255 hl, cl_255 hl]
  refine ⟨fun g => ?_, fun g => ?_⟩
  · rw [decide_eq_true g, cond_true]
    obtain ⟨r1, r2⟩ := par_room h d2 g
    have key := lp_up (fun i => h216_27 (nI k) (nI (dT s k)) (nI (i + 1)) d (fun d' r => d' = sR d 2 (match findN (fun i => goes s (wandE s k (dT s k) i)) (6 - i) i with
      | none => s
      | some i => causeS (upd (upd s (271 + dT s k) (s (15 + wandE s k (dT s k) i))) (317 + k) (nI ((dW s k + i) % 6))) k (nI (200 + dT s k))) ∧ r = Sum.inl none)) 6 ?_ ?_ 0 (by omega)
    · exact key
    · refine w216_27 _ _ _ ?_
      rw [find_end]
      simp only [kV_r, kV_x, kI_r, kI_x, kR_r, kF_r, kD_r, forall_eq, not_true_eq_false, not_false_eq_true, false_implies, true_implies, true_and, and_true, b2i_0, b2i_1, b2i_01, b2i_t, b2i_f, decide_true, decide_false, Bool.not_true, Bool.not_false, i1_0, show ((6 : Int32) < nI (6 + 1)) = True from eq_true (by decide)]
      simp [sR_id d 2 hs]
    · intro i hi ih
      refine w216_27 _ _ _ ?_
      have e6 : ((6 : Int32) < nI (i + 1)) = False := eq_false (nI_nlt (b := i + 1) (a := 6) (by omega) (by omega))
      have hm : (dW s k + i) % 6 < 6 := Nat.mod_lt _ (by decide)
      have hE : 6 * par s (dT s k) + (dW s k + i) % 6 < 48 := by omega
      have hdo := Ok_door h r1 hm
      have nxt : goes s (wandE s k (dT s k) i) = false → h216_27 (nI k) (nI (dT s k)) (nI (i + 1 + 1)) d (fun d' r => d' = sR d 2 (match findN (fun i => goes s (wandE s k (dT s k) i)) (6 - i) i with
        | none => s
        | some i => causeS (upd (upd s (271 + dT s k) (s (15 + wandE s k (dT s k) i))) (317 + k) (nI ((dW s k + i) % 6))) k (nI (200 + dT s k))) ∧ r = Sum.inl none) := fun x => by
        rw [find_step hi, x]
        exact ih
      have hgo : goes s (wandE s k (dT s k) i) = (!decide (s (15 + (6 * par s (dT s k) + (dW s k + i) % 6)) = -1) && !shut s (6 * par s (dT s k) + (dW s k + i) % 6)) := rfl
      simp only [f_mv, f_sV, f_sV', f_sR, f_mr, mr_sR, mv_sV, sV_sV, sR_sR, kV_r, kV_x, kI_r, kI_x, kR_r, kF_r, kD_r, forall_eq, not_true_eq_false, not_false_eq_true, false_implies, true_implies, true_and, and_true, b2i_0, b2i_1, b2i_01, b2i_t, b2i_f, decide_true, decide_false, Bool.not_true, Bool.not_false, i1_0, hs, e6, in_317 hk6, cl_317 hk6, in_271 hl, cl_271 hl, r2, way6 w2 w1 hi, e15', e6k, in_15 hE, cl_15 hE, ax_in_nI (show 15 + (6 * par s (dT s k) + (dW s k + i) % 6) < 369 by omega) (by omega), nI_clamp (show 15 + (6 * par s (dT s k) + (dW s k + i) % 6) < 2 ^ 31 by omega), m_shut hs hE hdo, nI_1]
      refine ⟨fun g1 => nxt ?_, fun g1 => ⟨fun g2 => ?_, fun g2 => nxt ?_⟩⟩
      · rw [hgo, decide_eq_true g1]
        rfl
      · have hx := (h.1.2.1 (par s (dT s k)) r1 ((dW s k + i) % 6) hm).1
        rw [find_step hi, hgo, decide_eq_false g1, g2]
        rcases hx with hx | ⟨q, q1, q2⟩
        · exact absurd hx g1
        · have hmv : MvOk s (dT s k) 0 (nI q) := ⟨d2, Or.inl ⟨rfl, q, q1, rfl⟩⟩
          have e2 : upd s (271 + dT s k) (s (15 + (6 * par s (dT s k) + (dW s k + i) % 6))) = moves s (dT s k) 0 (nI q) := by
            unfold moves mvT
            rw [if_pos (by decide), q2]
            congr 1
            rw [← g, upd_id]
          have g1' := Gd_moves h hp hmv
          rw [← e2] at g1'
          have g2' := Gd_upd g1'.1 (k := 317 + k) (nI ((dW s k + i) % 6)) (by omega) g1'.2.2 (fun x => by omega) (fun _ _ => Or.inr ⟨_, hm, rfl⟩)
          rw [m_causes (mr_sR d 2 _) g2'.1 g2'.2.2 hk6, sR_sR, show (100 : Int32) * 2 + nI (dT s k) = nI (200 + dT s k) from h100 2 (dT s k)]
          rfl
      · have g2 : shut s (6 * par s (dT s k) + (dW s k + i) % 6) = true := by simpa using g2
        rw [hgo, g2]
        simp
  · rw [decide_eq_false g, cond_false, sR_id d 2 hs]
theorem m_gath (hs : mr d 2 = s) (h : Ok s) (hp : s 3 = 1) {k : Nat} (hk : k < nD s) (hc2 : s (287 + k) = 2) (Q : ax_P) : CT 215 [ax_vR 9 0 0, Sum.inl (nI k)] d Q ↔ Q (sR d 2 (gathS s k)) (Sum.inl none) := by
  refine ct_iff (w215 _ ?_) Q
  have hk6 : k < 6 := Nat.lt_of_lt_of_le hk (Pk_D h.1).2
  have hT := Ok_T h
  obtain ⟨d1, d2, d3, -⟩ := dk h hk
  have hl := Ok_lt h d2
  unfold gathS
  simp only [f_mv, f_sV, f_sV', f_sR, f_mr, mr_sR, mv_sV, sV_sV, sR_sR, kV_r, kV_x, kI_r, kI_x, kR_r, kF_r, kD_r, forall_eq, not_true_eq_false, not_false_eq_true, false_implies, true_implies, true_and, and_true, b2i_0, b2i_1, b2i_01, b2i_t, b2i_f, decide_true, decide_false, Bool.not_true, Bool.not_false, i1_0, in_293 hk6, cl_293 hk6, hs, d1, in_255 hl, cl_255 hl, m_has hl]
  refine ⟨fun g => ⟨fun g2 => ?_, fun g2 => ?_⟩, fun g => ?_⟩
  · rw [g2, Bool.and_false, cond_false, sR_id d 2 hs]
  · have g2 : hasF s (dT s k) 1 = true := by simpa using g2
    rw [g2, decide_eq_true g, Bool.true_and, cond_true]
    have key := lp_up (fun i => h215_36 (nI k) (nI (dT s k)) (nI i) d (fun d' r => d' = sR d 2 (match findN (gathP s (dT s k)) (nT s - i) i with
      | none => s
      | some t => causeS (moves s t 1 (nI (dT s k))) k (nI (300 + t))) ∧ r = Sum.inl none)) (nT s) ?_ ?_ 0 (by omega)
    · exact key
    · refine w215_36 _ _ _ ?_
      rw [find_end]
      simp only [f_mv, f_sV, f_sV', f_sR, f_mr, mr_sR, mv_sV, sV_sV, sR_sR, kV_r, kV_x, kI_r, kI_x, kR_r, kF_r, kD_r, forall_eq, not_true_eq_false, not_false_eq_true, false_implies, true_implies, true_and, and_true, b2i_0, b2i_1, b2i_01, b2i_t, b2i_f, decide_true, decide_false, Bool.not_true, Bool.not_false, i1_0, hs, hT.1, le_yes (Nat.le_refl _) (show nT s < 2 ^ 31 by omega)]
      simp [sR_id d 2 hs]
    · intro i hi ih
      refine w215_36 _ _ _ ?_
      have hil := Ok_lt h hi
      have e : (nI i = nI (dT s k)) = (i = dT s k) := propext (nI_eq (by omega) (by omega))
      have hgp : gathP s (dT s k) i = (!Nat.beq i (dT s k) && (isAtS s i 0 (s (271 + dT s k)) && (!fast s i && !decide (s (175 + dT s k) < nI (filled s (nI (dT s k)) (-1) + sz s i))))) := rfl
      have nxt : gathP s (dT s k) i = false → h215_36 (nI k) (nI (dT s k)) (nI (i + 1)) d (fun d' r => d' = sR d 2 (match findN (gathP s (dT s k)) (nT s - i) i with
        | none => s
        | some t => causeS (moves s t 1 (nI (dT s k))) k (nI (300 + t))) ∧ r = Sum.inl none) := fun x => by
        rw [find_step hi, x]
        exact ih
      simp only [f_mv, f_sV, f_sV', f_sR, f_mr, mr_sR, mv_sV, sV_sV, sR_sR, kV_r, kV_x, kI_r, kI_x, kR_r, kF_r, kD_r, forall_eq, not_true_eq_false, not_false_eq_true, false_implies, true_implies, true_and, and_true, b2i_0, b2i_1, b2i_01, b2i_t, b2i_f, decide_true, decide_false, Bool.not_true, Bool.not_false, i1_0, hs, hT.1, le_no hi (show nT s < 2 ^ 31 by omega), e, in_271 hl, cl_271 hl, m_isAt hil, m_fast hs hil, m_filled hs h, in_159 hil, cl_159 hil, in_175 hl, cl_175 hl, (sz_of h hi).1, nI_add, nI_1, m_moves hil]
      refine ⟨fun c1 => nxt ?_, fun c1 => ⟨fun c2 => nxt ?_, fun c2 => ⟨fun c3 => ⟨fun c4 => nxt ?_, fun c4 => ?_⟩, fun c3 => nxt ?_⟩⟩⟩
      · rw [hgp, c1, Nat.beq_refl]
        rfl
      · rw [hgp, c2]
        simp
      · rw [hgp, decide_eq_true c4]
        simp
      · have c2 : isAtS s i 0 (s (271 + dT s k)) = true := by simpa using c2
        have hi0 : inside s (dT s k) i = false := by
          rw [inside_0 (held_f (by rw [g]; decide) (by rw [g]; decide))]
          exact ax_beq_ne (fun x => c1 x.symm)
        have hm : MvOk s i 1 (nI (dT s k)) := ⟨hi, Or.inr (Or.inl ⟨rfl, dT s k, d2, rfl, d3 hc2, hi0⟩)⟩
        have g1' := Gd_moves h hp hm
        rw [m_causes (mr_sR d 2 _) g1'.1 g1'.2.2 hk6, sR_sR, show (100 : Int32) * 3 + nI i = nI (300 + i) from h100 3 i, find_step hi, hgp, ax_beq_ne c1, c2, c3, decide_eq_false c4]
        rfl
      · have c3 : fast s i = true := by simpa using c3
        rw [hgp, c3]
        simp
  · rw [decide_eq_false g, Bool.false_and, cond_false, sR_id d 2 hs]
theorem m_stirE {k : Nat} (hs : mr d 2 = s) (hk6 : k < 6) (v : Int32) : h217_143 (nI k) v d (fun d' r => d' = sR d 2 (stirE s k) ∧ r = Sum.inl none) := by
  refine w217_143 _ _ ?_
  simp only [f_mv, f_sV, f_sV', f_sR, f_mr, mr_sR, mv_sV, sV_sV, sR_sR, kV_r, kV_x, kI_r, kI_x, kR_r, kF_r, kD_r, forall_eq, not_true_eq_false, not_false_eq_true, false_implies, true_implies, true_and, and_true, b2i_0, b2i_1, b2i_01, b2i_t, b2i_f, decide_true, decide_false, Bool.not_true, Bool.not_false, i1_0, in_305 hk6, cl_305 hk6, in_311 hk6, cl_311 hk6, in_299 hk6, cl_299 hk6, hs]
  refine ⟨fun g => ?_, fun g => ?_⟩ <;> simp [g, stirE]
theorem m_stir (hs : mr d 2 = s) (h : Ok s) (hp : s 3 = 1) {k : Nat} (hk : k < nD s) (Q : ax_P) : CT 217 [ax_vR 9 0 0, Sum.inl (nI k)] d Q ↔ Q (sR d 2 (stirS s k)) (Sum.inl none) := by
  refine ct_iff (w217 _ ?_) Q
  have hk6 : k < 6 := Nat.lt_of_lt_of_le hk (Pk_D h.1).2
  obtain ⟨d1, d2, d3, d4⟩ := dk h hk
  have hl := Ok_lt h d2
  have fin : h217_143 (nI k) (nI (dT s k)) (sR d 2 (stirA s k)) (fun d' r => d' = sR d 2 (stirS s k) ∧ r = Sum.inl none) := by
    have := m_stirE (d := sR d 2 (stirA s k)) (mr_sR d 2 _) hk6 (nI (dT s k))
    rw [sR_sR] at this
    exact this
  have fin0 : ∀ a, stirA s k = a → h217_143 (nI k) (nI (dT s k)) (sR d 2 a) (fun d' r => d' = sR d 2 (stirS s k) ∧ r = Sum.inl none) := fun a e => by rw [← e]; exact fin
  have fins : stirA s k = s → h217_143 (nI k) (nI (dT s k)) d (fun d' r => d' = sR d 2 (stirS s k) ∧ r = Sum.inl none) := fun e => by
    have := fin0 s e
    rw [sR_id d 2 hs] at this
    exact this
  simp only [f_mv, f_sV, f_sV', f_sR, f_mr, mr_sR, mv_sV, sV_sV, sR_sR, kV_r, kV_x, kI_r, kI_x, kR_r, kF_r, kD_r, forall_eq, not_true_eq_false, not_false_eq_true, false_implies, true_implies, true_and, and_true, b2i_0, b2i_1, b2i_01, b2i_t, b2i_f, decide_true, decide_false, Bool.not_true, Bool.not_false, i1_0, in_293 hk6, cl_293 hk6, in_287 hk6, cl_287 hk6, hs, d1, m_has hl, m_wand hs h hp hk, in_207 hl, cl_207 hl, m_sets hl]
  refine ⟨fun g0 => ⟨fun g1 => fins ?_, fun g1 => ?_⟩, fun g0 => ⟨fun g1 => fin0 _ ?_, fun g1 => ⟨fun g2 => ?_, fun g2 => ⟨fun g3 => ⟨fun g4 => fins ?_, fun g4 => ?_⟩, fun g3 => ?_⟩⟩⟩⟩
  · simp [stirA, g0, shutS, g1]
  · have g1 : hasF s (dT s k) 1 = true := by simpa using g1
    have ga : Gd s (sets s (dT s k) 1 false) := Gd_sets h hp (f := 1) (on := false) d2 ⟨by omega, fun e => by cases e⟩
    rw [m_causes (mr_sR d 2 _) ga.1 ga.2.2 hk6]
    simp only [kV_r, kV_x, kI_r, kI_x, kR_r, kF_r, kD_r, forall_eq, not_true_eq_false, not_false_eq_true, false_implies, true_implies, true_and, and_true, b2i_0, b2i_1, b2i_01, b2i_t, b2i_f, decide_true, decide_false, Bool.not_true, Bool.not_false, i1_0, sR_sR]
    refine fin0 _ ?_
    unfold stirA shutS
    rw [decide_eq_true g0, g1, cond_true, cond_true]
    congr 1
    exact (h100 1 (dT s k)).symm
  · unfold stirA
    rw [decide_eq_false g0, decide_eq_true g1, cond_false, cond_true]
  · rw [m_gath hs h hp hk g2]
    simp only [kV_r, kV_x, kI_r, kI_x, kR_r, kF_r, kD_r, forall_eq, not_true_eq_false, not_false_eq_true, false_implies, true_implies, true_and, and_true, b2i_0, b2i_1, b2i_01, b2i_t, b2i_f, decide_true, decide_false, Bool.not_true, Bool.not_false, i1_0]
    refine fin0 _ ?_
    unfold stirA
    rw [decide_eq_false g0, decide_eq_false g1, decide_eq_true g2, cond_false, cond_false, cond_true]
  · have g5 : s (207 + dT s k) = 0 := by
      obtain ⟨-, ⟨f, hf, ef⟩, -⟩ := (h.2.1 (dT s k) d2).2
      rw [ef] at g4 ⊢
      rcases Nat.eq_zero_or_pos f with e | e
      · rw [e]; rfl
      · exact absurd g4 (nI_nle e (by omega))
    simp [stirA, g0, g1, g2, togS, g3, g5]
  · have g5 : ¬ s (207 + dT s k) = 0 := fun e => g4 (by rw [e]; decide)
    have hk3 : s (287 + k) = 3 := by
      obtain ⟨⟨q, hq, eq⟩, -⟩ := h.1.2.2.2.1 k hk
      rw [eq] at g0 g1 g2 ⊢
      have : q ≠ 0 := fun x => g0 (by rw [x]; rfl)
      have : q ≠ 1 := fun x => g1 (by rw [x]; rfl)
      have : q ≠ 2 := fun x => g2 (by rw [x]; rfl)
      rw [show q = 3 by omega]
      rfl
    have ga : Gd s (sets s (dT s k) 4 true) := Gd_sets h hp (f := 4) (on := true) d2 ⟨by omega, fun _ => ⟨fun x => by omega, fun x => by omega, fun x => by omega, fun _ => ⟨d4 hk3, g5⟩⟩⟩
    rw [m_causes (mr_sR d 2 _) ga.1 ga.2.2 hk6]
    simp only [kV_r, kV_x, kI_r, kI_x, kR_r, kF_r, kD_r, forall_eq, not_true_eq_false, not_false_eq_true, false_implies, true_implies, true_and, and_true, b2i_0, b2i_1, b2i_01, b2i_t, b2i_f, decide_true, decide_false, Bool.not_true, Bool.not_false, i1_0, sR_sR]
    refine fin0 _ ?_
    unfold stirA togS
    rw [decide_eq_false g0, decide_eq_false g1, decide_eq_false g2, g3, decide_eq_false g5, cond_false, cond_false, cond_false, cond_false, cond_false]
    congr 1
    exact (h100 4 (dT s k)).symm
  · have g3 : hasF s (dT s k) 4 = true := by simpa using g3
    have ga : Gd s (sets s (dT s k) 4 false) := Gd_sets h hp (f := 4) (on := false) d2 ⟨by omega, fun e => by cases e⟩
    rw [m_causes (mr_sR d 2 _) ga.1 ga.2.2 hk6]
    simp only [kV_r, kV_x, kI_r, kI_x, kR_r, kF_r, kD_r, forall_eq, not_true_eq_false, not_false_eq_true, false_implies, true_implies, true_and, and_true, b2i_0, b2i_1, b2i_01, b2i_t, b2i_f, decide_true, decide_false, Bool.not_true, Bool.not_false, i1_0, sR_sR]
    refine fin0 _ ?_
    unfold stirA togS
    rw [decide_eq_false g0, decide_eq_false g1, decide_eq_false g2, g3, cond_false, cond_false, cond_false, cond_true]
    congr 1
    exact (h100 5 (dT s k)).symm
theorem m_pass (hs : mr d 2 = s) (h : Ok s) (hp : s 3 = 1) (Q : ax_P) : CT 218 [ax_vR 9 0 0] d Q ↔ Q (sR d 2 (passS s)) (Sum.inl none) := by
  refine ct_iff (w218 ?_) Q
  have hD := Pk_D h.1
  have hT := Ok_T h
  simp only [f_mv, f_sV, f_sV', f_sR, f_mr, mr_sR, mv_sV, sV_sV, sR_sR, kV_r, kV_x, kI_r, kI_x, kR_r, kF_r, kD_r, forall_eq, not_true_eq_false, not_false_eq_true, false_implies, true_implies, true_and, and_true, b2i_0, b2i_1, b2i_01, b2i_t, b2i_f, decide_true, decide_false, Bool.not_true, Bool.not_false, i1_0, hs]
  have key2 := lp_up (fun i => h218_54 (nI i) (sR d 2 (foldN passL i (foldN passD (nD s) (tick s)))) (fun d' r => d' = sR d 2 (passS s) ∧ r = Sum.inl none)) (nT s) ?_ ?_ 0 (by omega)
  have key1 := lp_up (fun i => h218_12 (nI i) (sR d 2 (foldN passD i (tick s))) (fun d' r => d' = sR d 2 (passS s) ∧ r = Sum.inl none)) (nD s) ?_ ?_ 0 (by omega)
  · exact key1
  · refine w218_12 _ ?_
    have ga := Gd_passDs h hp (Nat.le_refl (nD s))
    have e2 : foldN passD (nD s) (tick s) 2 = nI (nD s) := (ga.2.1 2 (by unfold Pix; omega)).trans hD.1
    simp only [f_mv, f_sV, f_sV', f_sR, f_mr, mr_sR, mv_sV, sV_sV, sR_sR, kV_r, kV_x, kI_r, kI_x, kR_r, kF_r, kD_r, forall_eq, not_true_eq_false, not_false_eq_true, false_implies, true_implies, true_and, and_true, b2i_0, b2i_1, b2i_01, b2i_t, b2i_f, decide_true, decide_false, Bool.not_true, Bool.not_false, i1_0, e2, le_yes (Nat.le_refl _) (show nD s < 2 ^ 31 by omega)]
    exact key2
  · intro i hi ih
    have hi6 : i < 6 := Nat.lt_of_lt_of_le hi hD.2
    refine w218_12 _ ?_
    have ga := Gd_passDs h hp (show i ≤ nD s by omega)
    have e2 : foldN passD i (tick s) 2 = nI (nD s) := (ga.2.1 2 (by unfold Pix; omega)).trans hD.1
    rw [foldN_succ] at ih
    generalize foldN passD i (tick s) = a at *
    simp only [f_mv, f_sV, f_sV', f_sR, f_mr, mr_sR, mv_sV, sV_sV, sR_sR, kV_r, kV_x, kI_r, kI_x, kR_r, kF_r, kD_r, forall_eq, not_true_eq_false, not_false_eq_true, false_implies, true_implies, true_and, and_true, b2i_0, b2i_1, b2i_01, b2i_t, b2i_f, decide_true, decide_false, Bool.not_true, Bool.not_false, i1_0, e2, le_no hi (show nD s < 2 ^ 31 by omega), in_311 hi6, cl_311 hi6, m_stir (mr_sR d 2 _) ga.1 ga.2.2 (show i < nD a by rw [SP_D ga.2.1]; exact hi), nI_1]
    unfold passD at ih
    refine ⟨fun g => ?_, fun g => ?_⟩
    · rw [decide_eq_true g] at ih
      exact ih
    · rw [decide_eq_false g] at ih
      exact ih
  · refine w218_54 _ ?_
    have ga := Gd_passLs h hp (Nat.le_refl (nT s))
    have e1 : foldN passL (nT s) (foldN passD (nD s) (tick s)) 1 = nI (nT s) := (ga.2.1 1 (by unfold Pix; omega)).trans hT.1
    simp only [f_mv, f_sV, f_sV', f_sR, f_mr, mr_sR, mv_sV, sV_sV, sR_sR, kV_r, kV_x, kI_r, kI_x, kR_r, kF_r, kD_r, forall_eq, not_true_eq_false, not_false_eq_true, false_implies, true_implies, true_and, and_true, b2i_0, b2i_1, b2i_01, b2i_t, b2i_f, decide_true, decide_false, Bool.not_true, Bool.not_false, i1_0, e1, le_yes (Nat.le_refl _) (show nT s < 2 ^ 31 by omega)]
    simp [passS]
  · intro i hi ih
    have hl := Ok_lt h hi
    refine w218_54 _ ?_
    have ga := Gd_passLs h hp (show i ≤ nT s by omega)
    rw [foldN_succ] at ih
    have e1 : foldN passL i (foldN passD (nD s) (tick s)) 1 = nI (nT s) := (ga.2.1 1 (by unfold Pix; omega)).trans hT.1
    generalize foldN passL i (foldN passD (nD s) (tick s)) = a at *
    have hia : i < nT a := by rw [SP_T ga.2.1]; exact hi
    simp only [f_mv, f_sV, f_sV', f_sR, f_mr, mr_sR, mv_sV, sV_sV, sR_sR, kV_r, kV_x, kI_r, kI_x, kR_r, kF_r, kD_r, forall_eq, not_true_eq_false, not_false_eq_true, false_implies, true_implies, true_and, and_true, b2i_0, b2i_1, b2i_01, b2i_t, b2i_f, decide_true, decide_false, Bool.not_true, Bool.not_false, i1_0, e1, le_no hi (show nT s < 2 ^ 31 by omega), in_111 hl, cl_111 hl, m_has hl, in_207 hl, cl_207 hl, upd_s, nI_1]
    unfold passL at ih
    refine ⟨fun g => ⟨fun g2 => ?_, fun g2 => ?_⟩, fun g => ?_⟩
    · rw [g2, Bool.and_false] at ih
      exact ih
    · have g2 : hasF a i 4 = true := by simpa using g2
      rw [g2, decide_eq_true g] at ih
      have ih : h218_54 (nI (i + 1)) (sR d 2 (burnS a i)) (fun d' r => d' = sR d 2 (passS s) ∧ r = Sum.inl none) := ih
      unfold burnS at ih
      refine ⟨fun g3 => ?_, fun g3 => ?_⟩
      · have gb := Gd_burn0 ga.1 ga.2.2 hia g2 g3
        rw [decide_eq_true g3] at ih
        rw [m_sets hl]
        simp only [f_mv, f_sV, f_sV', f_sR, f_mr, mr_sR, mv_sV, sV_sV, sR_sR, kV_r, kV_x, kI_r, kI_x, kR_r, kF_r, kD_r, forall_eq, not_true_eq_false, not_false_eq_true, false_implies, true_implies, true_and, and_true, b2i_0, b2i_1, b2i_01, b2i_t, b2i_f, decide_true, decide_false, Bool.not_true, Bool.not_false, i1_0]
        rw [m_logs (mr_sR d 2 _) gb.1 gb.2.2]
        simp only [f_mv, f_sV, f_sV', f_sR, f_mr, mr_sR, mv_sV, sV_sV, sR_sR, kV_r, kV_x, kI_r, kI_x, kR_r, kF_r, kD_r, forall_eq, not_true_eq_false, not_false_eq_true, false_implies, true_implies, true_and, and_true, b2i_0, b2i_1, b2i_01, b2i_t, b2i_f, decide_true, decide_false, Bool.not_true, Bool.not_false, i1_0]
        have e6 : (100 : Int32) * 6 + nI i = nI (600 + i) := h100 6 i
        rw [e6]
        exact ih
      · rw [decide_eq_false g3] at ih
        exact ih
    · rw [decide_eq_false g] at ih
      exact ih
end MT
