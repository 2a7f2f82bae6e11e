/-! the actor's verbs, further: putting, walking, taking and dropping all -/
section CW2
variable {d : ax_D} {a : Nat} {s : Row}
/-- the load when a thing is put into or on another -/
theorem bear_hold (h : Ok s) (hL : load s ≤ 20) {t q : Nat} (ht : t < nT s) (hq : q < nT s) {p : Int32} (hp : p = 1 ∨ p = 2) (hk : s (111 + q) = p) (hi : inside s q t = false) : bear s t p (nI q) = !(decide (outer s q = -1) && !decide (loadW s t ≤ 20)) := by
  have hm : MvOk s t p (nI q) := by
    rcases hp with rfl | rfl
    · exact ⟨ht, Or.inr (Or.inl ⟨rfl, q, hq, rfl, hk, hi⟩)⟩
    · exact ⟨ht, Or.inr (Or.inr (Or.inl ⟨rfl, q, hq, rfl, hk, hi⟩))⟩
  have ho := mo_out_h h hm hp hq rfl hi
  unfold bear
  by_cases e : outer s q = -1
  · rw [e] at ho
    rw [load_hold h hm ho, load_car h ht, decide_eq_true e]
    unfold loadW
    simp
  · have : load (moves s t p (nI q)) ≤ 20 := Nat.le_trans (load_le h hm (by rw [ho]; exact e)) hL
    rw [decide_eq_true this, decide_eq_false e]
    rfl
theorem c_insert (h : CC d (ax_wA a) s) (hL : load s ≤ 20) {t q : Nat} (ht : t < nT s) (hq : q < nT s) {p : Int32} (hp : p = 1 ∨ p = 2) (Q : ax_P) (hK : AQ a d s (putS s t q p) (fun d' => Q d' (Sum.inl none))) : CT 69 [ax_vR 0 a 0, Sum.inl (nI t), Sum.inl (nI q), Sum.inl p] d Q := by
  have hl := Ok_lt h.2.2 ht
  have hl2 := Ok_lt h.2.2 hq
  have h137 : fast s t = false → s (111 + q) = p → inside s q t = false → (p = 1 → hasF s q 1 = true) → h69_137 a (nI t) (nI q) p p (b2i (decide (outer s q = -1) && !decide (loadW s t ≤ 20))) d Q := by
    intro g1 g2 g3 g4
    refine w69_137 _ _ _ _ _ _ ?_
    have hm : MvOk s t p (nI q) := by
      rcases hp with rfl | rfl
      · exact ⟨ht, Or.inr (Or.inl ⟨rfl, q, hq, rfl, g2, g3⟩)⟩
      · exact ⟨ht, Or.inr (Or.inr (Or.inl ⟨rfl, q, hq, rfl, g2, g3⟩))⟩
    have hb := bear_hold h.2.2 hL ht hq hp g2 g3
    have g4' : (decide (p = 1) && !hasF s q 1) = false := by
      by_cases e : p = 1
      · rw [g4 e]; simp
      · rw [decide_eq_false e]; rfl
    unfold putS at hK
    rw [g1, decide_eq_true g2, g3, g4', hb] at hK
    simp only [c_isAt h.2.1 h.2.2 ht, c_fits h ht hq, kV_r, kV_x, kI_r, kI_x, kR_r, kF_r, kD_r, forall_eq, not_true_eq_false, not_false_eq_true, false_implies, true_implies, true_and, and_true, b2i_0, b2i_1, b2i_01, b2i_t, b2i_f, decide_true, decide_false, Bool.not_true, Bool.not_false, i1_0]
    generalize (decide (outer s q = -1) && !decide (loadW s t ≤ 20)) = hv at hK ⊢
    refine ⟨fun g5 => ⟨fun g6 => ⟨fun g7 => ?_, fun g7 => ?_⟩, fun g6 => ?_⟩, fun g5 => ?_⟩
    · rw [g5, g6] at hK
      have g7 : decide (s (175 + q) < nI (filled s (nI q) (nI t) + sz s t)) = true := by simpa using g7
      rw [g7] at hK
      exact c_refuse h _ _ _ hK
    · rw [g5, g6] at hK
      have g7 : decide (s (175 + q) < nI (filled s (nI q) (nI t) + sz s t)) = false := by simpa using g7
      rw [g7] at hK
      exact c_moveA h hm _ hK
    · have g6 : hv = true := by simpa using g6
      rw [g5, g6] at hK
      have hK : AQ a d s (cond (decide (s (175 + q) < nI (filled s (nI q) (nI t) + sz s t)) || true) (rf 7 (nI q)) (ok (moves s t p (nI q)))) _ := hK
      rw [Bool.or_true] at hK
      exact c_refuse h _ _ _ hK
    · have g5 : isAtS s t p (nI q) = true := by simpa using g5
      rw [g5] at hK
      exact c_refuse h _ _ _ hK
  have h42 : h69_42 a (nI t) (nI q) p p (b2i (decide (outer s q = -1) && !decide (loadW s t ≤ 20))) d Q := by
    refine w69_42 _ _ _ _ _ _ ?_
    simp only [c_mov h ht, c_kind (CC0 h) h.2.2 hq, c_inside h hq hl, c_has h.2.1 hl2, kV_r, kV_x, kI_r, kI_x, kR_r, kF_r, kD_r, forall_eq, not_true_eq_false, not_false_eq_true, false_implies, true_implies, true_and, and_true, b2i_0, b2i_1, b2i_01, b2i_t, b2i_f, decide_true, decide_false, Bool.not_true, Bool.not_false, i1_0]
    unfold putS at hK
    refine ⟨fun g => ?_, fun g => ⟨fun g2 => ⟨fun g3 => ⟨fun g4 => ⟨fun g5 => ?_, fun g5 => ?_⟩, fun g4 => ?_⟩, fun g3 => ?_⟩, fun g2 => ?_⟩⟩
    · have g : fast s t = true := by simpa using g
      rw [g] at hK
      exact c_refuse h _ _ _ hK
    all_goals have g : fast s t = false := by simpa using g
    · rw [g, decide_eq_true g2, g3, decide_eq_true g4, g5] at hK
      exact c_refuse h _ _ _ hK
    · have g5 : hasF s q 1 = true := by simpa using g5
      exact h137 g g2 g3 (fun _ => g5)
    · exact h137 g g2 g3 (fun e => absurd e g4)
    · have g3 : inside s q t = true := by simpa using g3
      rw [g, decide_eq_true g2, g3] at hK
      exact c_refuse h _ _ _ hK
    · rw [g, decide_eq_false g2] at hK
      exact c_refuse h _ _ _ hK
  have h10 : h69_10 a (nI t) (nI q) p p d Q := by
    refine w69_10 _ _ _ _ _ ?_
    have hle : (nI (loadW s t) ≤ 20) = (loadW s t ≤ 20) := propext (nI_leI (b := 20) (by have := loadW_lt h.2.2 t; omega) (by omega))
    simp only [c_outer h hq, c_loadW h hl, hle, kV_r, kV_x, kI_r, kI_x, kR_r, kF_r, kD_r, forall_eq, not_true_eq_false, not_false_eq_true, false_implies, true_implies, true_and, and_true, b2i_0, b2i_1, b2i_01, b2i_t, b2i_f, decide_true, decide_false, Bool.not_true, Bool.not_false, i1_0]
    refine ⟨fun g => ⟨fun g2 => ?_, fun g2 => ?_⟩, fun g => ?_⟩
    · rw [decide_eq_true g, decide_eq_true g2] at h42
      exact h42
    · rw [decide_eq_true g, decide_eq_false g2] at h42
      exact h42
    · rw [decide_eq_false g] at h42
      exact h42
  refine w69 _ _ _ _ ?_
  rcases hp with rfl | rfl
  · exact ⟨fun _ => h10, fun x => absurd rfl x⟩
  · exact ⟨fun x => absurd x (by decide), fun _ => h10⟩
theorem c_reach (h : CC d (ax_wA a) s) {t : Nat} (ht : t < nT s) (Q : ax_P) (h1 : opened s t = true → Q d (Sum.inl none)) (h2 : opened s t = false → AQ a d s (rf 3 (nI t)) (fun d' => Q d' (Sum.inl none))) : CT 53 [ax_vR 0 a 0, Sum.inl (nI t)] d Q := by
  refine w53 _ _ ?_
  simp only [c_unenc h ht, kV_r, kV_x, kI_r, kI_x, kR_r, kF_r, kD_r, forall_eq, not_true_eq_false, not_false_eq_true, false_implies, true_implies, true_and, and_true, b2i_0, b2i_1, b2i_01, b2i_t, b2i_f, decide_true, decide_false, Bool.not_true, Bool.not_false, i1_0]
  exact ⟨fun g => c_refuse h _ _ _ (h2 g), fun g => h1 (by simpa using g)⟩
theorem c_pass (h : CC d (ax_wA a) s) {r k : Nat} (hr : r < nR s) (hk6 : k < 6) (Q : ax_P) : CT 82 [ax_vR 7 (ax_wA a) 0, Sum.inl (nI r), Sum.inl (nI k)] d Q ↔ Q d (Sum.inl (some (Sum.inl (b2i (goes s (6 * r + k)))))) := by
  refine ct_iff (w82 _ _ _ ?_) Q
  have hd := Ok_door h.2.2 hr hk6
  rw [pW_wA]
  simp only [c_doorP (CC0 h) h.2.2 hr hk6, c_exitP (CC0 h) h.2.2 hr hk6, kV_r, kV_x, kI_r, kI_x, kR_r, kF_r, kD_r, forall_eq, not_true_eq_false, not_false_eq_true, false_implies, true_implies, true_and, and_true, b2i_0, b2i_1, b2i_01, b2i_t, b2i_f, decide_true, decide_false, Bool.not_true, Bool.not_false, i1_0]
  unfold goes shut
  rcases hd with e | ⟨t, ht, e⟩
  · rw [e]
    by_cases g : s (15 + (6 * r + k)) = -1 <;> simp [g, b2i]
  · rw [e]
    simp only [nI_neg (show t < 2 ^ 31 by omega), c_has h.2.1 ht, nI_clamp (show t < 2 ^ 31 by omega), kV_r, kV_x, kI_r, kI_x, kR_r, kF_r, kD_r, forall_eq, not_true_eq_false, not_false_eq_true, false_implies, true_implies, true_and, and_true, b2i_0, b2i_1, b2i_01, b2i_t, b2i_f, decide_true, decide_false, Bool.not_true, Bool.not_false, i1_0]
    by_cases g : s (15 + (6 * r + k)) = -1 <;> cases g2 : hasF s t 1 <;> simp [g, b2i, nI_neg (show t < 2 ^ 31 by omega)]
theorem c_walk (h : CC d (ax_wA a) s) (hp : s 3 = 1) {k : Nat} (hk : k < 6) (Q : ax_P) (hK : AQ a d s (movS s k) (fun d' => Q d' (Sum.inl none))) : CT 83 [ax_vR 0 a 0, Sum.inl (nI k)] d Q := by
  refine w83 _ _ ?_
  obtain ⟨h5, h6, h8⟩ := Ok_P h.2.2 (decide_eq_true hp)
  have hD := (Pk_D h.2.2.1).2
  unfold movS at hK
  have hgo : goes s (6 * nP s + k) = (!decide (s (15 + (6 * nP s + k)) = -1) && !shut s (6 * nP s + k)) := rfl
  simp only [CC_pl h (decide_eq_true hp), c_exitP (CC0 h) h.2.2 h6 hk, c_pass h h6 hk, c_doorP (CC0 h) h.2.2 h6 hk, kV_r, kV_x, kI_r, kI_x, kR_r, kF_r, kD_r, forall_eq, not_true_eq_false, not_false_eq_true, false_implies, true_implies, true_and, and_true, b2i_0, b2i_1, b2i_01, b2i_t, b2i_f, decide_true, decide_false, Bool.not_true, Bool.not_false, i1_0]
  refine ⟨fun g => ?_, fun g => ⟨fun g2 => ?_, fun g2 => ?_⟩⟩
  · rw [decide_eq_true g] at hK
    exact c_refuse h _ _ _ hK
  · rw [hgo, decide_eq_false g] at g2
    have g2 : shut s (6 * nP s + k) = true := by simpa using g2
    rw [decide_eq_false g, g2] at hK
    exact c_refuse h _ _ _ hK
  · rw [hgo, decide_eq_false g] at g2
    have g2 : shut s (6 * nP s + k) = false := by simpa using g2
    rw [decide_eq_false g, g2] at hK
    have hK : AQ a d s (ok (upd s 5 (s (15 + (6 * nP s + k))))) (fun d' => Q d' (Sum.inl none)) := hK
    have f1 : Fr (sW (ax_wA a)) d (ax_set d 7 (ax_wA a) 0 (upd (ax_row d 7 (ax_wA a) 0) 11 (s (15 + (6 * nP s + k))))) := Fr_set (by decide) ⟨rfl, rfl⟩ d 0 _
    rcases (h.2.2.1.2.1 (nP s) h6 k hk).1 with e | ⟨q, q1, q2⟩
    · exact absurd e g
    · obtain ⟨k1, k2, -⟩ := Ok_upd h.2.2 (k := 5) (s (15 + (6 * nP s + k))) (by omega) hp (fun _ => ⟨q, q1, q2⟩) (fun e => by omega)
      exact AQ_w f1 ⟨Cp_SP (Cp_Fr f1 (fun x => by cases x.1) h.1) k2, Cw_v11 h.2.1 hD hp _, k1⟩ hK
theorem c_look (h : CC d (ax_wA a) s) (hp : s 3 = 1) (Q : ax_P) (hK : AQ a d s (cond (bright s (nP s)) (ok s) (rf 12 (-1))) (fun d' => Q d' (Sum.inl none))) : CT 79 [ax_vR 0 a 0] d Q := by
  refine w79 _ ?_
  obtain ⟨h5, h6, h8⟩ := Ok_P h.2.2 (decide_eq_true hp)
  simp only [CC_pl h (decide_eq_true hp), c_hasLight h h8, kV_r, kV_x, kI_r, kI_x, kR_r, kF_r, kD_r, forall_eq, not_true_eq_false, not_false_eq_true, false_implies, true_implies, true_and, and_true, b2i_0, b2i_1, b2i_01, b2i_t, b2i_f, decide_true, decide_false, Bool.not_true, Bool.not_false, i1_0]
  refine ⟨fun g => ?_, fun g => ?_⟩
  · rw [g] at hK
    exact c_refuse h _ _ _ hK
  · have g : bright s (nP s) = true := by simpa using g
    rw [g] at hK
    exact hK d (Fr_refl d) h rfl rfl
/-- light stays when what lies in the player's room is taken -/
theorem seen_take (h : Ok s) {t : Nat} (ht : t < nT s) (hh : held s t = false) {u : Nat} (hu : u < nT s) : seenUp (moves s t 3 (-1)) u = seenUp s u := by
  have hl := Ok_lt h ht
  have h' := Ok_moves h (mv3 (g := -1) ht)
  have sp : SP s (moves s t 3 (-1)) := mo_SP hl
  refine climbs h (fun u => seenUp (moves s t 3 (-1)) u = seenUp s u) (fun u hu hhu => ?_) (fun u hu hhu h1 h2 ih => ?_) hu
  · rw [seenUp_0 hhu]
    by_cases e : u = t
    · subst e
      exact seenUp_0 (held_f (by rw [mo_p]; decide) (by rw [mo_p]; decide))
    · exact seenUp_0 ((mo_held (Ok_lt h hu) hl e).trans hhu)
  · have e : u ≠ t := fun e => by rw [e, hh] at hhu; cases hhu
    have hu16 := Ok_lt h hu
    have hp16 := Ok_lt h h1
    rw [seenUp_1 h hu hhu, seenUp_1 h' (by rw [SP_T sp]; exact hu) ((mo_held hu16 hl e).trans hhu), mo_par hu16 hl e, ih, mo_n (by omega) (by omega)]
    unfold seeT hasF
    rw [mo_n (by omega) (by omega)]
theorem bright_take (h : Ok s) (hp : s 3 = 1) {t : Nat} (ht : t < nT s) (h0 : s (255 + t) = 0) (h1 : s (271 + t) = s 5) : bright (moves s t 3 (-1)) (nP (moves s t 3 (-1))) = bright s (nP s) := by
  have hl := Ok_lt h ht
  obtain ⟨h5, h6, h8⟩ := Ok_P h (decide_eq_true hp)
  have sp : SP s (moves s t 3 (-1)) := mo_SP hl
  have e5 : moves s t 3 (-1) 5 = s 5 := mo_n (by omega) (by omega) s 3 (-1)
  have e3 : moves s t 3 (-1) 3 = s 3 := mo_n (by omega) (by omega) s 3 (-1)
  have eP : nP (moves s t 3 (-1)) = nP s := by unfold nP; rw [e5]
  have hh : held s t = false := held_f (by rw [h0]; decide) (by rw [h0]; decide)
  rw [eP]
  unfold bright
  rw [SP_T sp, mo_n (show 7 + nP s ≠ 255 + t by omega) (by omega)]
  congr 1
  have : ∀ n, n ≤ nT s → anyN (lamp (moves s t 3 (-1)) (nI (nP s))) n = anyN (lamp s (nI (nP s))) n := by
    intro n
    induction n with
    | zero => intro _; rfl
    | succ n ih =>
      intro hn
      have hn16 := Ok_lt h (show n < nT s by omega)
      rw [anyN_succ, anyN_succ, ih (by omega)]
      congr 1
      unfold lamp hasF
      rw [mo_n (by omega) (by omega), mo_n (by omega) (by omega)]
      congr 2
      unfold shown
      rw [seen_take h ht hh (by omega)]
      cases hu : seenUp s n with
      | none => rfl
      | some v =>
        have hv := Ok_lt h (seenUp_lt h (show n < nT s by omega) v hu).1
        show shownU (moves s t 3 (-1)) _ v = shownU s _ v
        unfold shownU plays
        rw [e5, e3]
        by_cases e : v = t
        · subst e
          rw [mo_p, h0, h1, ← h5]
          simp [hp]
        · rw [mo_n (by omega) (by omega), mo_n (by omega) (by omega)]
  exact this _ (Nat.le_refl _)
theorem seen_room (h : Ok s) (hp : s 3 = 1) {t : Nat} (ht : t < nT s) (ha : isAtS s t 0 (s 5) = true) : seen s t = bright s (nP s) ∧ reach s t = bright s (nP s) := by
  rw [isAt0, Bool.and_eq_true] at ha
  have h0 := of_decide_eq_true ha.1
  have h1 := of_decide_eq_true ha.2
  have hh : held s t = false := held_f (by rw [h0]; decide) (by rw [h0]; decide)
  have e : seen s t = bright s (nP s) := by
    unfold seen
    cases bright s (nP s) with
    | true =>
      unfold shown
      rw [seenUp_0 hh]
      show (shownU s (s 5) t || _) = true
      unfold shownU
      rw [h0, h1]
      simp
    | false =>
      unfold carU
      rw [seenUp_0 hh]
      show decide (s (255 + t) = 3) = false
      rw [h0]
      decide
  refine ⟨e, ?_⟩
  have : opened s t = true := opened_0 hh
  unfold reach
  rw [e]
  show (_ && opened s t) = _
  rw [this, Bool.and_true]
/-- what is taken when all is taken: the player's room stays lit or dark -/
theorem tal_inv (h : Ok s) (hp : s 3 = 1) : ∀ n, n ≤ nT s → (foldN talF n (false, s)).2 5 = s 5 ∧ bright (foldN talF n (false, s)).2 (nP (foldN talF n (false, s)).2) = bright s (nP s) ∧ (∀ u, n ≤ u → u < nT s → isAtS (foldN talF n (false, s)).2 u 0 (s 5) = isAtS s u 0 (s 5)) := by
  intro n
  induction n with
  | zero => intro _; exact ⟨rfl, rfl, fun _ _ _ => rfl⟩
  | succ n ih =>
    intro hn
    obtain ⟨i1, i2, i3⟩ := ih (by omega)
    have ga := Gd_tals h hp (show n ≤ nT s by omega)
    rw [foldN_succ]
    generalize foldN talF n (false, s) = b at *
    have hnb : n < nT b.2 := by rw [SP_T ga.2.1]; omega
    have hn16 := Ok_lt ga.1 hnb
    unfold talF
    cases hb : talP b.2 n with
    | false => exact ⟨i1, i2, fun u h1 h2 => i3 u (by omega) h2⟩
    | true =>
      unfold talP at hb
      rw [Bool.and_eq_true, isAt0, Bool.and_eq_true] at hb
      have h0 := of_decide_eq_true hb.1.1
      have h1 := of_decide_eq_true hb.1.2
      refine ⟨(mo_n (by omega) (by omega) _ _ _).trans i1, (bright_take ga.1 ga.2.2 hnb h0 h1).trans i2, fun u hu1 hu2 => ?_⟩
      have hu16 := Ok_lt h hu2
      rw [← i3 u (by omega) hu2]
      show isAtS (moves b.2 n 3 (-1)) u 0 (s 5) = _
      unfold isAtS
      rw [mo_n (by omega) (by omega), mo_n (by omega) (by omega)]
theorem c_takeAll (h : CC d (ax_wA a) s) (hp : s 3 = 1) (Q : ax_P) (hK : ∀ d' c, c ≤ nT s → (c = 0 ↔ (foldN talF (nT s) (false, s)).1 = false) → Fr (sW (ax_wA a)) d d' → CC d' (ax_wA a) (foldN talF (nT s) (false, s)).2 → Q d' (Sum.inl (some (Sum.inl (nI c))))) : CT 81 [ax_vR 0 a 0] d Q := by
  refine w81 _ ?_
  have hT := (Ok_T h.2.2)
  have hpp : plays s = true := decide_eq_true hp
  obtain ⟨h5, h6, h8⟩ := Ok_P h.2.2 hpp
  simp only [CC_pl h hpp, c_at h, c_visible h hpp, kV_r, kV_x, kI_r, kI_x, kR_r, kF_r, kD_r, forall_eq, not_true_eq_false, not_false_eq_true, false_implies, true_implies, true_and, and_true, b2i_0, b2i_1, b2i_01, b2i_t, b2i_f, decide_true, decide_false, Bool.not_true, Bool.not_false, i1_0]
  rw [setI_and (by omega)]
  have main : ∀ i, i ≤ nT s → ∀ d' c, c ≤ i → (c = 0 ↔ (foldN talF i (false, s)).1 = false) → Fr (sW (ax_wA a)) d d' → CC d' (ax_wA a) (foldN talF i (false, s)).2 → h81_28 a (setI (fun t => isAtS s t 0 (nI (nP s)) && seen s t) (nT s)) (nI c) (nI i) d' Q := by
    refine lp_up (fun i => ∀ d' c, c ≤ i → (c = 0 ↔ (foldN talF i (false, s)).1 = false) → Fr (sW (ax_wA a)) d d' → CC d' (ax_wA a) (foldN talF i (false, s)).2 → h81_28 a (setI (fun t => isAtS s t 0 (nI (nP s)) && seen s t) (nT s)) (nI c) (nI i) d' Q) (nT s) ?_ ?_
    · intro d' c hc hz f hcc
      refine w81_28 _ _ _ _ ?_
      have ga := Gd_tals h.2.2 hp (Nat.le_refl (nT s))
      rw [CC0_T hcc, SP_T ga.2.1]
      exact ⟨fun _ => hK d' c hc hz f hcc, fun x => absurd (nI_le (Nat.le_refl _) (by omega)) x⟩
    · intro i hi ih d' c hc hz f hcc
      have hl := Ok_lt h.2.2 hi
      refine w81_28 _ _ _ _ ?_
      have ga := Gd_tals h.2.2 hp (show i ≤ nT s by omega)
      obtain ⟨i1, i2, i3⟩ := tal_inv h.2.2 hp i (by omega)
      rw [foldN_succ] at ih
      rw [CC0_T hcc, SP_T ga.2.1]
      refine ⟨fun x => absurd x (nI_ge hi (by omega)), fun _ => ?_⟩
      generalize hbq : foldN talF i (false, s) = b at *
      have hib : i < nT b.2 := by rw [SP_T ga.2.1]; exact hi
      have hseen : (isAtS s i 0 (nI (nP s)) && seen s i) = (isAtS b.2 i 0 (b.2 5) && reach b.2 i) := by
        rw [← h5, i1, ← i3 i (Nat.le_refl _) hi]
        cases hx : isAtS b.2 i 0 (s 5) with
        | false => rfl
        | true =>
          have hx2 : isAtS s i 0 (s 5) = true := (i3 i (Nat.le_refl _) hi).symm.trans hx
          have hx3 : isAtS b.2 i 0 (b.2 5) = true := by rw [i1]; exact hx
          rw [(seen_room h.2.2 hp hi hx2).1, (seen_room ga.1 ga.2.2 hib hx3).2, i2]
      have hno : talP b.2 i = false → h81_28 a (setI (fun t => isAtS s t 0 (nI (nP s)) && seen s t) (nT s)) (nI c) (nI i + 1) d' Q := by
        intro hx
        rw [nI_1]
        have : talF i b = b := by unfold talF; rw [hx]; rfl
        refine ih d' c (by omega) ?_ f ?_
        · rw [this]; exact hz
        · rw [this]; exact hcc
      have h63 : h81_63 a (setI (fun t => isAtS s t 0 (nI (nP s)) && seen s t) (nT s)) (nI c) (nI i) (b2i ((isAtS b.2 i 0 (b.2 5) && reach b.2 i) && !fast b.2 i)) d' Q := by
        refine w81_63 _ _ _ _ _ ?_
        have hle : (20 < nI (loadW b.2 i)) = ¬ (loadW b.2 i ≤ 20) := by
          rw [Nat.not_le]
          exact propext (nI_ltI (a := 20) (by omega) (by have := loadW_lt ga.1 i; omega))
        simp only [c_loadW hcc (Ok_lt ga.1 hib), hle, kV_r, kV_x, kI_r, kI_x, kR_r, kF_r, kD_r, forall_eq, not_true_eq_false, not_false_eq_true, false_implies, true_implies, true_and, and_true, b2i_0, b2i_1, b2i_01, b2i_t, b2i_f, decide_true, decide_false, Bool.not_true, Bool.not_false, i1_0]
        have hb3 := loadW_bear hcc hib (-1)
        refine ⟨fun g => hno ?_, fun g => ⟨fun g2 => hno ?_, fun g2 => ?_⟩⟩
        · unfold talP
          cases h1 : isAtS b.2 i 0 (b.2 5) <;> cases h2 : reach b.2 i <;> cases h3 : fast b.2 i <;> simp_all
        · unfold talP
          rw [← hb3, decide_eq_false g2]
          simp
        · have g2 : loadW b.2 i ≤ 20 := by simpa using g2
          rw [Bool.not_eq_false] at g
          have hx : talP b.2 i = true := by
            unfold talP
            rw [← hb3, decide_eq_true g2]
            cases h1 : isAtS b.2 i 0 (b.2 5) <;> cases h2 : reach b.2 i <;> cases h3 : fast b.2 i <;> simp_all
          have hf : talF i b = (true, moves b.2 i 3 (-1)) := by unfold talF; rw [hx]; rfl
          refine c_move hcc (mv3 hib) _ (fun d2 f2 hc2 => ?_)
          show h81_28 a _ (nI c + 1) (nI i + 1) d2 Q
          rw [nI_1, nI_1]
          refine ih d2 (c + 1) (by omega) ?_ (Fr_trans f f2) ?_
          · rw [hf]; simp
          · rw [hf]; exact hc2
      simp only [c_cont hl, bt_setI (show nT s ≤ 32 by omega) (show i < 32 by omega), decide_eq_true hi, Bool.true_and, hseen, c_mov hcc hib, kV_r, kV_x, kI_r, kI_x, kR_r, kF_r, kD_r, forall_eq, not_true_eq_false, not_false_eq_true, false_implies, true_implies, true_and, and_true, b2i_0, b2i_1, b2i_01, b2i_t, b2i_f, decide_true, decide_false, Bool.not_true, Bool.not_false, i1_0]
      refine ⟨fun g => ?_, fun g => ⟨fun g2 => ?_, fun g2 => ?_⟩⟩
      · rw [g] at h63
        exact h63
      · have g : (isAtS b.2 i 0 (b.2 5) && reach b.2 i) = true := by simpa using g
        rw [g, g2] at h63
        exact h63
      · have g : (isAtS b.2 i 0 (b.2 5) && reach b.2 i) = true := by simpa using g
        have g2 : (!fast b.2 i) = true := by simpa using g2
        rw [g, g2] at h63
        exact h63
  exact main 0 (by omega) d 0 (by omega) (by simp [foldN]) (Fr_refl d) h
theorem c_dropAll (h : CC d (ax_wA a) s) (hp : s 3 = 1) (Q : ax_P) (hK : ∀ d' c, c ≤ nT s → (c = 0 ↔ (foldN dalF (nT s) (false, s)).1 = false) → Fr (sW (ax_wA a)) d d' → CC d' (ax_wA a) (foldN dalF (nT s) (false, s)).2 → Q d' (Sum.inl (some (Sum.inl (nI c))))) : CT 77 [ax_vR 0 a 0] d Q := by
  refine w77 _ ?_
  have hT := (Ok_T h.2.2)
  have main : ∀ i, i ≤ nT s → ∀ d' c, c ≤ i → (c = 0 ↔ (foldN dalF i (false, s)).1 = false) → Fr (sW (ax_wA a)) d d' → CC d' (ax_wA a) (foldN dalF i (false, s)).2 → h77_4 a (nI c) (nI i) d' Q := by
    refine lp_up (fun i => ∀ d' c, c ≤ i → (c = 0 ↔ (foldN dalF i (false, s)).1 = false) → Fr (sW (ax_wA a)) d d' → CC d' (ax_wA a) (foldN dalF i (false, s)).2 → h77_4 a (nI c) (nI i) d' Q) (nT s) ?_ ?_
    · intro d' c hc hz f hcc
      refine w77_4 _ _ _ ?_
      have ga := Gd_dals h.2.2 hp (Nat.le_refl (nT s))
      rw [CC0_T hcc, SP_T ga.2.1]
      exact ⟨fun _ => hK d' c hc hz f hcc, fun x => absurd (nI_le (Nat.le_refl _) (by omega)) x⟩
    · intro i hi ih d' c hc hz f hcc
      refine w77_4 _ _ _ ?_
      have ga := Gd_dals h.2.2 hp (show i ≤ nT s by omega)
      rw [foldN_succ] at ih
      rw [CC0_T hcc, SP_T ga.2.1]
      refine ⟨fun x => absurd x (nI_ge hi (by omega)), fun _ => ?_⟩
      generalize foldN dalF i (false, s) = b at *
      have hib : i < nT b.2 := by rw [SP_T ga.2.1]; exact hi
      obtain ⟨b5, b6, b8⟩ := Ok_P ga.1 (decide_eq_true ga.2.2)
      simp only [c_carried hcc hib, CC_pl hcc (decide_eq_true ga.2.2), kV_r, kV_x, kI_r, kI_x, kR_r, kF_r, kD_r, forall_eq, not_true_eq_false, not_false_eq_true, false_implies, true_implies, true_and, and_true, b2i_0, b2i_1, b2i_01, b2i_t, b2i_f, decide_true, decide_false, Bool.not_true, Bool.not_false, i1_0]
      refine ⟨fun g => ?_, fun g => ?_⟩
      · have hf : dalF i b = b := by unfold dalF; rw [show decide (b.2 (255 + i) = 3) = false from g]; rfl
        rw [nI_1]
        refine ih d' c (by omega) ?_ f ?_
        · rw [hf]; exact hz
        · rw [hf]; exact hcc
      · have g : car b.2 i = true := by simpa using g
        have hf : dalF i b = (true, moves b.2 i 0 (b.2 5)) := by unfold dalF; rw [show decide (b.2 (255 + i) = 3) = true from g]; rfl
        rw [b5] at hf
        refine c_move hcc ⟨hib, Or.inl ⟨rfl, nP b.2, b6, rfl⟩⟩ _ (fun d2 f2 hc2 => ?_)
        show h77_4 a (nI c + 1) (nI i + 1) d2 Q
        rw [nI_1, nI_1]
        refine ih d2 (c + 1) (by omega) ?_ (Fr_trans f f2) ?_
        · rw [hf]; simp
        · rw [hf]; exact hc2
  exact main 0 (by omega) d 0 (by omega) (by simp [foldN]) (Fr_refl d) h
end CW2
