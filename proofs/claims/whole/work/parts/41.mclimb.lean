/-! the check's climbs, sums and sight -/
theorem f_held (s : Row) (t : Nat) : inB (s (255 + t)) 1 2 = held s t := rfl
section MC
variable {d : ax_D} {s : Row}
theorem m_top (hs : mr d 2 = s) (h : Ok s) {t : Nat} (ht : t < nT s) (Q : ax_P) : CT 174 [ax_vR 9 0 0, Sum.inl (nI t)] d Q ↔ Q d (Sum.inl (some (Sum.inl (nI (top s t))))) := by
  refine ct_iff (w174 _ ?_) Q
  suffices key : ∀ v, h174_2 v (nI t) d (fun d' r => d' = d ∧ r = Sum.inl (some (Sum.inl (nI (top s t))))) from key _
  intro v
  refine climbs h (fun t => h174_2 v (nI t) d (fun d' r => d' = d ∧ r = Sum.inl (some (Sum.inl (nI (top s t)))))) (fun t ht hh => ?_) (fun t ht hh h1 h2 ih => ?_) ht
  · have hl := Ok_lt h ht
    refine w174_2 _ _ ?_
    simp only [f_mv, f_sV, f_sV', f_sR, f_mr, mr_sR, mv_sV, sV_sV, sR_sR, kV_r, kV_x, kI_r, kI_x, kR_r, kF_r, kD_r, forall_eq, not_true_eq_false, not_false_eq_true, false_implies, true_implies, true_and, and_true, b2i_0, b2i_1, b2i_01, b2i_t, b2i_f, decide_true, decide_false, Bool.not_true, Bool.not_false, i1_0, in_255 hl, cl_255 hl, m_in, hs, f_held, hh]
    simp [top_0 hh]
  · have hl := Ok_lt h ht
    refine w174_2 _ _ ?_
    rw [← top_1 h ht hh] at ih
    simp only [f_mv, f_sV, f_sV', f_sR, f_mr, mr_sR, mv_sV, sV_sV, sR_sR, kV_r, kV_x, kI_r, kI_x, kR_r, kF_r, kD_r, forall_eq, not_true_eq_false, not_false_eq_true, false_implies, true_implies, true_and, and_true, b2i_0, b2i_1, b2i_01, b2i_t, b2i_f, decide_true, decide_false, Bool.not_true, Bool.not_false, i1_0, in_255 hl, cl_255 hl, in_271 hl, cl_271 hl, m_in, hs, f_held, hh, h2]
    simpa using ih
theorem m_inside (hs : mr d 2 = s) (h : Ok s) {t q : Nat} (ht : t < nT s) (hq : q < 16) (Q : ax_P) : CT 179 [ax_vR 9 0 0, Sum.inl (nI t), Sum.inl (nI q)] d Q ↔ Q d (Sum.inl (some (Sum.inl (b2i (inside s t q))))) := by
  refine ct_iff (w179 _ _ ?_) Q
  suffices key : ∀ v, h179_2 v (nI q) (nI t) d (fun d' r => d' = d ∧ r = Sum.inl (some (Sum.inl (b2i (inside s t q))))) from key _
  intro v
  refine climbs h (fun t => h179_2 v (nI q) (nI t) d (fun d' r => d' = d ∧ r = Sum.inl (some (Sum.inl (b2i (inside s t q)))))) (fun t ht hh => ?_) (fun t ht hh h1 h2 ih => ?_) ht
  · have hl := Ok_lt h ht
    refine w179_2 _ _ _ ?_
    have e : (nI t = nI q) = (t = q) := propext (nI_eq (by omega) (by omega))
    simp only [f_mv, f_sV, f_sV', f_sR, f_mr, mr_sR, mv_sV, sV_sV, sR_sR, kV_r, kV_x, kI_r, kI_x, kR_r, kF_r, kD_r, forall_eq, not_true_eq_false, not_false_eq_true, false_implies, true_implies, true_and, and_true, b2i_0, b2i_1, b2i_01, b2i_t, b2i_f, decide_true, decide_false, Bool.not_true, Bool.not_false, i1_0, in_255 hl, cl_255 hl, m_in, hs, f_held, hh, e, inside_0 hh]
    by_cases g : t = q
    · simp [g, b2i]
    · simp [g, ax_beq_ne g, b2i]
  · have hl := Ok_lt h ht
    refine w179_2 _ _ _ ?_
    have e : (nI t = nI q) = (t = q) := propext (nI_eq (by omega) (by omega))
    simp only [f_mv, f_sV, f_sV', f_sR, f_mr, mr_sR, mv_sV, sV_sV, sR_sR, kV_r, kV_x, kI_r, kI_x, kR_r, kF_r, kD_r, forall_eq, not_true_eq_false, not_false_eq_true, false_implies, true_implies, true_and, and_true, b2i_0, b2i_1, b2i_01, b2i_t, b2i_f, decide_true, decide_false, Bool.not_true, Bool.not_false, i1_0, in_255 hl, cl_255 hl, in_271 hl, cl_271 hl, m_in, hs, f_held, hh, h2, e, inside_1 h ht hh]
    by_cases g : t = q
    · simp [g, b2i]
    · simpa [g, ax_beq_ne g] using ih
theorem m_outer (hs : mr d 2 = s) (h : Ok s) {t : Nat} (ht : t < nT s) (Q : ax_P) : CT 175 [ax_vR 9 0 0, Sum.inl (nI t)] d Q ↔ Q d (Sum.inl (some (Sum.inl (outer s t)))) := by
  refine ct_iff (w175 _ ?_) Q
  have hl := Ok_lt h (top_root h ht).1
  simp only [f_mv, f_sV, f_sV', f_sR, f_mr, mr_sR, mv_sV, sV_sV, sR_sR, kV_r, kV_x, kI_r, kI_x, kR_r, kF_r, kD_r, forall_eq, not_true_eq_false, not_false_eq_true, false_implies, true_implies, true_and, and_true, b2i_0, b2i_1, b2i_01, b2i_t, b2i_f, decide_true, decide_false, Bool.not_true, Bool.not_false, i1_0, m_top hs h ht, in_255 hl, cl_255 hl, in_271 hl, cl_271 hl, hs]
  refine ⟨fun g => ?_, fun g => ⟨fun g2 => ?_, fun g2 => ?_⟩⟩ <;> simp [outer, outS, g] <;> simp [g2]
theorem m_load (hs : mr d 2 = s) (h : Ok s) (Q : ax_P) : CT 176 [ax_vR 9 0 0] d Q ↔ Q d (Sum.inl (some (Sum.inl (nI (load s))))) := by
  refine ct_iff (w176 ?_) Q
  obtain ⟨hT, hT16⟩ := Ok_T h
  have key := lp_up (fun i => h176_4 (nI (fb_sm (fun t => cond (decide (outer s t = -1)) (sz s t) 0) i)) (nI i) d (fun d' r => d' = d ∧ r = Sum.inl (some (Sum.inl (nI (load s)))))) (nT s) ?_ ?_ 0 (by omega)
  · exact key
  · refine w176_4 _ _ ?_
    simp only [f_mv, f_sV, f_sV', f_sR, f_mr, mr_sR, mv_sV, sV_sV, sR_sR, kV_r, kV_x, kI_r, kI_x, kR_r, kF_r, kD_r, forall_eq, not_true_eq_false, not_false_eq_true, false_implies, true_implies, true_and, and_true, b2i_0, b2i_1, b2i_01, b2i_t, b2i_f, decide_true, decide_false, Bool.not_true, Bool.not_false, i1_0, hs, hT, le_yes (Nat.le_refl _) (show nT s < 2 ^ 31 by omega)]
    simp [load]
  · intro i hi ih
    have hl := Ok_lt h hi
    refine w176_4 _ _ ?_
    simp only [f_mv, f_sV, f_sV', f_sR, f_mr, mr_sR, mv_sV, sV_sV, sR_sR, kV_r, kV_x, kI_r, kI_x, kR_r, kF_r, kD_r, forall_eq, not_true_eq_false, not_false_eq_true, false_implies, true_implies, true_and, and_true, b2i_0, b2i_1, b2i_01, b2i_t, b2i_f, decide_true, decide_false, Bool.not_true, Bool.not_false, i1_0, hs, hT, le_no hi (show nT s < 2 ^ 31 by omega), m_outer hs h hi, in_159 hl, cl_159 hl, (sz_of h hi).1, nI_1, nI_add]
    rw [fb_sm_succ] at ih
    by_cases g : outer s i = -1 <;> simpa [g] using ih
theorem m_filled (hs : mr d 2 = s) (h : Ok s) (q but : Int32) (Q : ax_P) : CT 172 [ax_vR 9 0 0, Sum.inl q, Sum.inl but] d Q ↔ Q d (Sum.inl (some (Sum.inl (nI (filled s q but))))) := by
  refine ct_iff (w172 _ _ ?_) Q
  obtain ⟨hT, hT16⟩ := Ok_T h
  have key := lp_up (fun i => h172_5 q but (nI (fb_sm (fun t => cond (inOf s q but t) (sz s t) 0) i)) (nI i) d (fun d' r => d' = d ∧ r = Sum.inl (some (Sum.inl (nI (filled s q but)))))) (nT s) ?_ ?_ 0 (by omega)
  · exact key
  · refine w172_5 _ _ _ _ ?_
    simp only [f_mv, f_sV, f_sV', f_sR, f_mr, mr_sR, mv_sV, sV_sV, sR_sR, kV_r, kV_x, kI_r, kI_x, kR_r, kF_r, kD_r, forall_eq, not_true_eq_false, not_false_eq_true, false_implies, true_implies, true_and, and_true, b2i_0, b2i_1, b2i_01, b2i_t, b2i_f, decide_true, decide_false, Bool.not_true, Bool.not_false, i1_0, hs, hT, le_yes (Nat.le_refl _) (show nT s < 2 ^ 31 by omega)]
    simp [filled]
  · intro i hi ih
    have hl := Ok_lt h hi
    rw [fb_sm_succ] at ih
    have hj : h172_61 q but (nI (fb_sm (fun t => cond (inOf s q but t) (sz s t) 0) i)) (nI i) (b2i (inOf s q but i)) d (fun d' r => d' = d ∧ r = Sum.inl (some (Sum.inl (nI (filled s q but))))) := by
      refine w172_61 _ _ _ _ _ ?_
      simp only [f_mv, f_sV, f_sV', f_sR, f_mr, mr_sR, mv_sV, sV_sV, sR_sR, kV_r, kV_x, kI_r, kI_x, kR_r, kF_r, kD_r, forall_eq, not_true_eq_false, not_false_eq_true, false_implies, true_implies, true_and, and_true, b2i_0, b2i_1, b2i_01, b2i_t, b2i_f, decide_true, decide_false, Bool.not_true, Bool.not_false, i1_0, hs, in_159 hl, cl_159 hl, (sz_of h hi).1, nI_1, nI_add]
      cases g : inOf s q but i <;> simpa [g] using ih
    refine w172_5 _ _ _ _ ?_
    simp only [f_mv, f_sV, f_sV', f_sR, f_mr, mr_sR, mv_sV, sV_sV, sR_sR, kV_r, kV_x, kI_r, kI_x, kR_r, kF_r, kD_r, forall_eq, not_true_eq_false, not_false_eq_true, false_implies, true_implies, true_and, and_true, b2i_0, b2i_1, b2i_01, b2i_t, b2i_f, decide_true, decide_false, Bool.not_true, Bool.not_false, i1_0, hs, hT, le_no hi (show nT s < 2 ^ 31 by omega), in_255 hl, cl_255 hl, in_271 hl, cl_271 hl, m_in, f_held]
    rw [show inOf s q but i = (!decide (nI i = but) && (held s i && decide (s (271 + i) = q))) from rfl] at hj
    by_cases g1 : nI i = but <;> cases g2 : held s i <;> by_cases g3 : s (271 + i) = q <;> simpa [g1, g2, g3, b2i] using hj
theorem load_lt (h : Ok s) : load s ≤ 144 := by
  refine Nat.le_trans (fb_sm_bound (c := 9) (fun k hk => ?_)) (Nat.mul_le_mul_right 9 (Ok_T h).2)
  cases decide (outer s k = -1) with
  | true => exact Nat.le_of_lt_succ (sz_of h hk).2
  | false => exact Nat.zero_le _
theorem filled_lt (h : Ok s) (q but : Int32) : filled s q but ≤ 144 := by
  refine Nat.le_trans (fb_sm_bound (c := 9) (fun k hk => ?_)) (Nat.mul_le_mul_right 9 (Ok_T h).2)
  cases inOf s q but k with
  | true => exact Nat.le_of_lt_succ (sz_of h hk).2
  | false => exact Nat.zero_le _
theorem mvT_ok {t : Nat} (h : Tplace s t) : mvT (s (255 + t)) (s (271 + t)) = s (271 + t) := by
  unfold mvT
  rcases h with ⟨e, -⟩ | ⟨e, -⟩ | ⟨e, -⟩ | ⟨e, e2⟩ | ⟨e, e2⟩
  · rw [e]; rfl
  · rw [e]; rfl
  · rw [e]; rfl
  · rw [e, e2]; rfl
  · rw [e, e2]; rfl
theorem moves_back {t : Nat} (h : Tplace s t) (p g : Int32) : moves (moves s t p g) t (s (255 + t)) (s (271 + t)) = s := by
  unfold moves
  rw [mvT_ok h]
  funext k
  unfold upd
  by_cases h1 : k = 271 + t
  · subst h1
    simp
  · by_cases h2 : k = 255 + t
    · subst h2
      simp
    · simp [h1, h2]
theorem m_bear (hs : mr d 2 = s) (h : Ok s) {t : Nat} (ht : t < nT s) (p g : Int32) (h2 : Ok (moves s t p g)) (Q : ax_P) : CT 177 [ax_vR 9 0 0, Sum.inl (nI t), Sum.inl p, Sum.inl g] d Q ↔ Q d (Sum.inl (some (Sum.inl (b2i (bear s t p g))))) := by
  refine ct_iff (w177 _ _ _ ?_) Q
  have hl := Ok_lt h ht
  have hb : (20 < nI (load (moves s t p g))) = ¬ (load (moves s t p g) ≤ 20) := by
    rw [Nat.not_le]
    exact propext (nI_ltI (a := 20) (by omega) (by have := load_lt h2; omega))
  simp only [f_mv, f_sV, f_sV', f_sR, f_mr, mr_sR, mv_sV, sV_sV, sR_sR, kV_r, kV_x, kI_r, kI_x, kR_r, kF_r, kD_r, forall_eq, not_true_eq_false, not_false_eq_true, false_implies, true_implies, true_and, and_true, b2i_0, b2i_1, b2i_01, b2i_t, b2i_f, decide_true, decide_false, Bool.not_true, Bool.not_false, i1_0, in_255 hl, cl_255 hl, in_271 hl, cl_271 hl, m_moves hl, hs, m_load (mr_sR d 2 _) h2, moves_back (h.2.1 t ht).1, hb, sR_id d 2 hs]
  refine ⟨fun e => ?_, fun e => ?_⟩
  · simp [bear, e, b2i]
  · simp [bear, Decidable.not_not.mp e, b2i]
theorem m_seeT (hs : mr d 2 = s) {t : Nat} (ht : t < 16) (Q : ax_P) : CT 185 [ax_vR 9 0 0, Sum.inl (nI t)] d Q ↔ Q d (Sum.inl (some (Sum.inl (b2i (seeT s t))))) := by
  refine ct_iff (w185 _ ?_) Q
  simp only [f_mv, f_sV, f_sV', f_sR, f_mr, mr_sR, mv_sV, sV_sV, sR_sR, kV_r, kV_x, kI_r, kI_x, kR_r, kF_r, kD_r, forall_eq, not_true_eq_false, not_false_eq_true, false_implies, true_implies, true_and, and_true, b2i_0, b2i_1, b2i_01, b2i_t, b2i_f, decide_true, decide_false, Bool.not_true, Bool.not_false, i1_0, m_has ht, hs]
  cases g1 : hasF s t 1 <;> cases g2 : hasF s t 3 <;> simp [g1, g2, seeT, b2i]
def seenI (s : Row) (t : Nat) : Int32 := match seenUp s t with
  | none => -1
  | some u => nI u
theorem m_seen (hs : mr d 2 = s) (h : Ok s) {t : Nat} (ht : t < nT s) (Q : ax_P) : CT 186 [ax_vR 9 0 0, Sum.inl (nI t)] d Q ↔ Q d (Sum.inl (some (Sum.inl (seenI s t)))) := by
  refine ct_iff (w186 _ ?_) Q
  suffices key : ∀ v, h186_2 v (nI t) d (fun d' r => d' = d ∧ r = Sum.inl (some (Sum.inl (seenI s t)))) from key _
  intro v
  refine climbs h (fun t => h186_2 v (nI t) d (fun d' r => d' = d ∧ r = Sum.inl (some (Sum.inl (seenI s t))))) (fun t ht hh => ?_) (fun t ht hh h1 h2 ih => ?_) ht
  · have hl := Ok_lt h ht
    refine w186_2 _ _ ?_
    simp only [f_mv, f_sV, f_sV', f_sR, f_mr, mr_sR, mv_sV, sV_sV, sR_sR, kV_r, kV_x, kI_r, kI_x, kR_r, kF_r, kD_r, forall_eq, not_true_eq_false, not_false_eq_true, false_implies, true_implies, true_and, and_true, b2i_0, b2i_1, b2i_01, b2i_t, b2i_f, decide_true, decide_false, Bool.not_true, Bool.not_false, i1_0, in_255 hl, cl_255 hl, m_in, hs, f_held, hh]
    simp [seenI, seenUp_0 hh]
  · have hl := Ok_lt h ht
    refine w186_2 _ _ ?_
    unfold seenI at ih ⊢
    rw [seenUp_1 h ht hh]
    simp only [f_mv, f_sV, f_sV', f_sR, f_mr, mr_sR, mv_sV, sV_sV, sR_sR, kV_r, kV_x, kI_r, kI_x, kR_r, kF_r, kD_r, forall_eq, not_true_eq_false, not_false_eq_true, false_implies, true_implies, true_and, and_true, b2i_0, b2i_1, b2i_01, b2i_t, b2i_f, decide_true, decide_false, Bool.not_true, Bool.not_false, i1_0, in_255 hl, cl_255 hl, in_271 hl, cl_271 hl, m_in, hs, f_held, hh, h2, m_seeT hs (Ok_lt h h1)]
    by_cases g1 : s (255 + t) = 1 <;> cases g2 : seeT s (par s t) <;> simpa [g1, g2, b2i] using ih
theorem seenUp_lt (h : Ok s) {t : Nat} (ht : t < nT s) : ∀ u, seenUp s t = some u → u < nT s ∧ held s u = false := by
  refine climbs h (fun t => ∀ u, seenUp s t = some u → u < nT s ∧ held s u = false) (fun t ht hh u hu => ?_) (fun t ht hh h1 h2 ih u hu => ?_) ht
  · rw [seenUp_0 hh] at hu
    cases hu
    exact ⟨ht, hh⟩
  · rw [seenUp_1 h ht hh] at hu
    cases g : (decide (s (255 + t) = 1) && !seeT s (par s t)) with
    | true => rw [g] at hu; cases hu
    | false => rw [g] at hu; exact ih u hu
theorem m_shown (hs : mr d 2 = s) (h : Ok s) {t : Nat} (ht : t < nT s) (r : Int32) (Q : ax_P) : CT 187 [ax_vR 9 0 0, Sum.inl (nI t), Sum.inl r] d Q ↔ Q d (Sum.inl (some (Sum.inl (b2i (shown s t r))))) := by
  refine ct_iff (w187 _ _ ?_) Q
  simp only [f_mv, f_sV, f_sV', f_sR, f_mr, mr_sR, mv_sV, sV_sV, sR_sR, kV_r, kV_x, kI_r, kI_x, kR_r, kF_r, kD_r, forall_eq, not_true_eq_false, not_false_eq_true, false_implies, true_implies, true_and, and_true, b2i_0, b2i_1, b2i_01, b2i_t, b2i_f, decide_true, decide_false, Bool.not_true, Bool.not_false, i1_0, m_seen hs h ht]
  unfold seenI shown
  cases hu : seenUp s t with
  | none => simp [b2i]
  | some u =>
    have hl := Ok_lt h (seenUp_lt h ht u hu).1
    simp only [nI_neg (show u < 2 ^ 31 by omega), in_255 hl, cl_255 hl, in_271 hl, cl_271 hl, hs, m_played, f_mv, f_sV, f_sV', f_sR, f_mr, mr_sR, mv_sV, sV_sV, sR_sR, kV_r, kV_x, kI_r, kI_x, kR_r, kF_r, kD_r, forall_eq, not_true_eq_false, not_false_eq_true, false_implies, true_implies, true_and, and_true, b2i_0, b2i_1, b2i_01, b2i_t, b2i_f, decide_true, decide_false, Bool.not_true, Bool.not_false, i1_0]
    by_cases g1 : s (255 + u) = 0 <;> by_cases g2 : s (255 + u) = 3 <;> by_cases g3 : s (271 + u) = r <;> cases g4 : plays s <;> by_cases g5 : s 5 = r <;> simp [shownU, g1, g2, g3, g4, g5, b2i]
theorem anyN_succ (p : Nat → Bool) (n : Nat) : anyN p (n + 1) = (anyN p n || p n) := rfl
theorem anyN_iff {p : Nat → Bool} : ∀ {n : Nat}, anyN p n = true ↔ ∃ i, i < n ∧ p i = true := by
  intro n
  induction n with
  | zero => simp [anyN]
  | succ n ih =>
    rw [anyN_succ, Bool.or_eq_true, ih]
    constructor
    · rintro (⟨i, h1, h2⟩ | h)
      · exact ⟨i, by omega, h2⟩
      · exact ⟨n, by omega, h⟩
    · rintro ⟨i, h1, h2⟩
      by_cases e : i = n
      · subst e
        exact Or.inr h2
      · exact Or.inl ⟨i, by omega, h2⟩
theorem m_bright (hs : mr d 2 = s) (h : Ok s) {r : Nat} (hr : r < 8) (Q : ax_P) : CT 188 [ax_vR 9 0 0, Sum.inl (nI r)] d Q ↔ Q d (Sum.inl (some (Sum.inl (b2i (bright s r))))) := by
  refine ct_iff (w188 _ ?_) Q
  obtain ⟨hT, hT16⟩ := Ok_T h
  have key := lp_up (fun i => h188_21 (nI r) (b2i (decide (s (7 + r) = 1) || anyN (lamp s (nI r)) i)) (nI i) d (fun d' q => d' = d ∧ q = Sum.inl (some (Sum.inl (b2i (bright s r)))))) (nT s) ?_ ?_ 0 (by omega)
  · simp only [f_mv, f_sV, f_sV', f_sR, f_mr, mr_sR, mv_sV, sV_sV, sR_sR, kV_r, kV_x, kI_r, kI_x, kR_r, kF_r, kD_r, forall_eq, not_true_eq_false, not_false_eq_true, false_implies, true_implies, true_and, and_true, b2i_0, b2i_1, b2i_01, b2i_t, b2i_f, decide_true, decide_false, Bool.not_true, Bool.not_false, i1_0, hs, in_7 hr, cl_7 hr]
    simp only [anyN, Bool.or_false, nI_0] at key
    by_cases g : s (7 + r) = 1 <;> simpa [g, b2i] using key
  · exact w188_21 _ _ _ ⟨fun _ => ⟨ct_ty _, rfl, rfl⟩, fun x => absurd (by rw [show ax_row d 9 0 2 1 = nI (nT s) from (congrFun hs 1).trans hT]; exact nI_le (Nat.le_refl _) (by omega)) x⟩
  · intro i hi ih
    have hl := Ok_lt h hi
    refine w188_21 _ _ _ ?_
    rw [anyN_succ, ← Bool.or_assoc] at ih
    generalize (decide (s (7 + r) = 1) || anyN (lamp s (nI r)) i) = b at ih ⊢
    simp only [f_mv, f_sV, f_sV', f_sR, f_mr, mr_sR, mv_sV, sV_sV, sR_sR, kV_r, kV_x, kI_r, kI_x, kR_r, kF_r, kD_r, forall_eq, not_true_eq_false, not_false_eq_true, false_implies, true_implies, true_and, and_true, b2i_0, b2i_1, b2i_01, b2i_t, b2i_f, decide_true, decide_false, Bool.not_true, Bool.not_false, i1_0, hs, hT, le_no hi (show nT s < 2 ^ 31 by omega), m_has hl, in_111 hl, cl_111 hl, m_shown hs h hi, nI_1]
    unfold lamp at ih
    cases b <;> cases g1 : hasF s i 4 <;> by_cases g2 : s (111 + i) = 3 <;> cases g3 : shown s i (nI r) <;> simpa [g1, g2, g3, b2i] using ih
theorem Ok_P (h : Ok s) (hp : plays s = true) : s 5 = nI (nP s) ∧ nP s < nR s ∧ nP s < 8 := by
  have h3 : s 3 = 1 := of_decide_eq_true hp
  rcases h.2.2.2.2.2.1 with ⟨e, -⟩ | ⟨-, ⟨r, h1, h2⟩, -⟩
  · exact absurd (e.symm.trans h3) (by decide)
  · have hR := (Pk_R h.1).2
    have e : nP s = r := by unfold nP; rw [h2]; exact nI_clamp (by omega)
    rw [e]
    exact ⟨h2, h1, by omega⟩
theorem e63 (a k : Nat) : (63 : Int32) + (6 * nI a) + nI k = nI (63 + (6 * a + k)) := by
  show nI 63 + nI 6 * nI a + nI k = _
  rw [pk_mul, nI_add, nI_add, Nat.add_assoc]
theorem e15 (a k : Nat) : (15 : Int32) + (6 * nI a) + nI k = nI (15 + (6 * a + k)) := by
  show nI 15 + nI 6 * nI a + nI k = _
  rw [pk_mul, nI_add, nI_add, Nat.add_assoc]
theorem m_nearD (hs : mr d 2 = s) (h : Ok s) (hp : plays s = true) (t : Nat) (Q : ax_P) : CT 189 [ax_vR 9 0 0, Sum.inl (nI t)] d Q ↔ Q d (Sum.inl (some (Sum.inl (b2i (nearD s t))))) := by
  refine ct_iff (w189 _ ?_) Q
  obtain ⟨h5, -, h8⟩ := Ok_P h hp
  have key := lp_up (fun i => h189_4 (nI t) (b2i (anyN (fun k => decide (s (63 + (6 * nP s + k)) = nI t)) i)) (nI i) d (fun d' q => d' = d ∧ q = Sum.inl (some (Sum.inl (b2i (nearD s t)))))) 6 ?_ ?_ 0 (by omega)
  · exact key
  · refine w189_4 _ _ _ ?_
    simp only [f_mv, f_sV, f_sV', f_sR, f_mr, mr_sR, mv_sV, sV_sV, sR_sR, kV_r, kV_x, kI_r, kI_x, kR_r, kF_r, kD_r, forall_eq, not_true_eq_false, not_false_eq_true, false_implies, true_implies, true_and, and_true, b2i_0, b2i_1, b2i_01, b2i_t, b2i_f, decide_true, decide_false, Bool.not_true, Bool.not_false, i1_0, show ((6 : Int32) ≤ nI 6) = True from eq_true (by decide)]
    simp [nearD]
  · intro i hi ih
    refine w189_4 _ _ _ ?_
    rw [anyN_succ] at ih
    have e6 : ((6 : Int32) ≤ nI i) = False := le_no (b := 6) hi (by omega)
    generalize anyN (fun k => decide (s (63 + (6 * nP s + k)) = nI t)) i = b at ih ⊢
    simp only [f_mv, f_sV, f_sV', f_sR, f_mr, mr_sR, mv_sV, sV_sV, sR_sR, kV_r, kV_x, kI_r, kI_x, kR_r, kF_r, kD_r, forall_eq, not_true_eq_false, not_false_eq_true, false_implies, true_implies, true_and, and_true, b2i_0, b2i_1, b2i_01, b2i_t, b2i_f, decide_true, decide_false, Bool.not_true, Bool.not_false, i1_0, hs, e6, h5, e63, ax_in_nI (show 63 + (6 * nP s + i) < 369 by omega) (by omega), nI_clamp (show 63 + (6 * nP s + i) < 2 ^ 31 by omega), nI_1]
    cases b <;> by_cases g1 : s (63 + (6 * nP s + i)) = nI t <;> simpa [g1, b2i] using ih
theorem m_see (hs : mr d 2 = s) (h : Ok s) (hp : plays s = true) {t : Nat} (ht : t < nT s) (Q : ax_P) : CT 190 [ax_vR 9 0 0, Sum.inl (nI t)] d Q ↔ Q d (Sum.inl (some (Sum.inl (b2i (seen s t))))) := by
  refine ct_iff (w190 _ ?_) Q
  obtain ⟨h5, -, h8⟩ := Ok_P h hp
  simp only [f_mv, f_sV, f_sV', f_sR, f_mr, mr_sR, mv_sV, sV_sV, sR_sR, kV_r, kV_x, kI_r, kI_x, kR_r, kF_r, kD_r, forall_eq, not_true_eq_false, not_false_eq_true, false_implies, true_implies, true_and, and_true, b2i_0, b2i_1, b2i_01, b2i_t, b2i_f, decide_true, decide_false, Bool.not_true, Bool.not_false, i1_0, hs, h5, m_bright hs h h8, m_seen hs h ht, m_shown hs h ht, m_nearD hs h hp t]
  unfold seen carU
  rw [h5]
  refine ⟨fun e => ?_, fun e => ?_⟩
  · rw [e]
    unfold seenI
    cases hu : seenUp s t with
    | none => simp [b2i]
    | some u =>
      have hl := Ok_lt h (seenUp_lt h ht u hu).1
      simp only [nI_neg (show u < 2 ^ 31 by omega), in_255 hl, cl_255 hl, kV_r, kV_x, kI_r, kI_x, kR_r, kF_r, kD_r, forall_eq, not_true_eq_false, not_false_eq_true, false_implies, true_implies, true_and, and_true, b2i_0, b2i_1, b2i_01, b2i_t, b2i_f, decide_true, decide_false, Bool.not_true, Bool.not_false, i1_0]
      by_cases g : s (255 + u) = 3 <;> simp [g, b2i]
  · have e : bright s (nP s) = true := by simpa using e
    rw [e]
    cases g1 : shown s t (nI (nP s)) <;> cases g2 : nearD s t <;> simp [g1, g2, b2i]
theorem m_reach (hs : mr d 2 = s) (h : Ok s) (hp : plays s = true) {t : Nat} (ht : t < nT s) (Q : ax_P) : CT 191 [ax_vR 9 0 0, Sum.inl (nI t)] d Q ↔ Q d (Sum.inl (some (Sum.inl (b2i (reach s t))))) := by
  refine ct_iff (w191 _ ?_) Q
  simp only [f_mv, f_sV, f_sV', f_sR, f_mr, mr_sR, mv_sV, sV_sV, sR_sR, kV_r, kV_x, kI_r, kI_x, kR_r, kF_r, kD_r, forall_eq, not_true_eq_false, not_false_eq_true, false_implies, true_implies, true_and, and_true, b2i_0, b2i_1, b2i_01, b2i_t, b2i_f, decide_true, decide_false, Bool.not_true, Bool.not_false, i1_0, m_see hs h hp ht]
  suffices key : ∀ v, h191_8 v (b2i (seen s t)) (nI t) d (fun d' q => d' = d ∧ q = Sum.inl (some (Sum.inl (b2i (seen s t && opened s t))))) from key _
  intro v
  have h00 : ∀ t, h191_8 v 0 (nI t) d (fun d' q => d' = d ∧ q = Sum.inl (some (Sum.inl (b2i false)))) := by
    intro t
    refine w191_8 _ _ _ ?_
    simp [b2i]
  cases hb : seen s t with
  | false => exact h00 t
  | true =>
    simp only [Bool.true_and]
    show h191_8 v 1 (nI t) d (fun d' q => d' = d ∧ q = Sum.inl (some (Sum.inl (b2i (opened s t)))))
    clear hb
    refine climbs h (fun t => h191_8 v 1 (nI t) d (fun d' q => d' = d ∧ q = Sum.inl (some (Sum.inl (b2i (opened s t)))))) (fun t ht hh => ?_) (fun t ht hh h1 h2 ih => ?_) ht
    · have hl := Ok_lt h ht
      refine w191_8 _ _ _ ?_
      simp only [f_mv, f_sV, f_sV', f_sR, f_mr, mr_sR, mv_sV, sV_sV, sR_sR, kV_r, kV_x, kI_r, kI_x, kR_r, kF_r, kD_r, forall_eq, not_true_eq_false, not_false_eq_true, false_implies, true_implies, true_and, and_true, b2i_0, b2i_1, b2i_01, b2i_t, b2i_f, decide_true, decide_false, Bool.not_true, Bool.not_false, i1_0, in_255 hl, cl_255 hl, m_in, hs, f_held, hh]
      simp [opened_0 hh, b2i]
    · have hl := Ok_lt h ht
      refine w191_8 _ _ _ ?_
      rw [opened_1 h ht hh]
      simp only [f_mv, f_sV, f_sV', f_sR, f_mr, mr_sR, mv_sV, sV_sV, sR_sR, kV_r, kV_x, kI_r, kI_x, kR_r, kF_r, kD_r, forall_eq, not_true_eq_false, not_false_eq_true, false_implies, true_implies, true_and, and_true, b2i_0, b2i_1, b2i_01, b2i_t, b2i_f, decide_true, decide_false, Bool.not_true, Bool.not_false, i1_0, in_255 hl, cl_255 hl, in_271 hl, cl_271 hl, m_in, hs, f_held, hh, h2, m_has (Ok_lt h h1)]
      by_cases g1 : s (255 + t) = 2 <;> cases g2 : hasF s (par s t) 1 <;> simp [g1, g2, b2i] <;> first | simpa [b2i] using ih | simpa [b2i] using h00 (par s t)
end MC
