/-! what the class sees, further; the verbs of its actor -/
section CV
variable {d : ax_D} {a : Nat} {s : Row}
def nearP (s : Row) (r i t : Nat) : Bool := anyN (fun k => decide (s (63 + (6 * r + k)) = nI t)) i
theorem c_doors (h : CC d (ax_wA a) s) {r : Nat} (hr : r < nR s) (Q : ax_P) : CT 60 [ax_vR 3 0 0, Sum.inl (nI r)] d Q ↔ Q d (Sum.inl (some (Sum.inl (setI (nearP s r 6) (nT s))))) := by
  refine ct_iff (w60 _ _ ?_) Q
  have hT := (Ok_T h.2.2).2
  have key := lp_up (fun i => h60_4 0 (nI r) (setI (nearP s r i) (nT s)) (nI i) d (fun d' q => d' = d ∧ q = Sum.inl (some (Sum.inl (setI (nearP s r 6) (nT s)))))) 6 ?_ ?_ 0 (by omega)
  · have e0 : setI (nearP s r 0) (nT s) = 0 := (setI_0 (by omega)).mpr (fun i _ => rfl)
    rw [e0] at key
    exact key
  · refine w60_4 _ _ _ _ ?_
    exact ⟨fun _ => ⟨rfl, rfl⟩, fun x => absurd (by decide) x⟩
  · intro i hi ih
    refine w60_4 _ _ _ _ ?_
    refine ⟨fun x => absurd x (nI_ge (b := 6) hi (by omega)), fun _ => ?_⟩
    simp only [c_doorP (CC0 h) h.2.2 hr hi, c_isTh' (CC0 h).1.2.1 h.2.2, nI_1, kV_r, kV_x, kI_r, kI_x, kR_r, kF_r, kD_r, forall_eq, not_true_eq_false, not_false_eq_true, false_implies, true_implies, true_and, and_true, b2i_0, b2i_1, b2i_01, b2i_t, b2i_f, decide_true, decide_false, Bool.not_true, Bool.not_false, i1_0]
    rcases (h.2.2.1.2.1 r hr i hi).2 with e | ⟨q, hq, e⟩
    · have e2 : setI (nearP s r (i + 1)) (nT s) = setI (nearP s r i) (nT s) := setI_cong (fun t ht => by
        have := Ok_lt h.2.2 ht
        unfold nearP
        rw [anyN_succ, e, decide_eq_false (fun x => (nI_neg' (show t < 2 ^ 31 by omega)).mp x), Bool.or_false])
      rw [e2] at ih
      have e3 : isTh s (-1) = false := by
        rw [isTh_eq h.2.2]
        rfl
      rw [e, e3]
      exact ⟨fun _ => ih, fun x => absurd rfl x⟩
    · have e2 : setI (nearP s r (i + 1)) (nT s) = setI (nearP s r i) (nT s) ||| (1 <<< (nI q &&& 31)) := by
        rw [setI_add (by omega) hq]
        refine setI_cong (fun t ht => ?_)
        have := Ok_lt h.2.2 ht
        have := Ok_lt h.2.2 hq
        unfold nearP
        rw [anyN_succ, e]
        congr 1
        exact decide_eq_decide.mpr ⟨fun x => ((nI_eq (by omega) (by omega)).mp x).symm, fun x => by rw [x]⟩
      rw [e2] at ih
      rw [e, isTh_nI h.2.2 hq]
      exact ⟨fun x => (by cases x), fun _ => ih⟩
theorem wi_car (h : Ok s) {t : Nat} (ht : t < nT s) : wi s (car s) t = carU s t := by
  refine climbs h (fun t => wi s (car s) t = carU s t) (fun t ht hh => ?_) (fun t ht hh h1 h2 ih => ?_) ht
  · rw [wi_0 hh]
    unfold carU
    rw [seenUp_0 hh]
    rfl
  · have hc : car s t = false := by
      unfold car
      rcases held_iff.mp hh with e | e <;> rw [e] <;> rfl
    rw [wi_1 h ht hh, hc, Bool.false_or, bare_up h ht hh, ih]
    unfold carU
    rw [seenUp_1 h ht hh]
    cases (decide (s (255 + t) = 1) && !seeT s (par s t)) <;> rfl
theorem c_visible (h : CC d (ax_wA a) s) (hp : plays s = true) (Q : ax_P) : CT 65 [ax_vR 5 a 0] d Q ↔ Q d (Sum.inl (some (Sum.inl (setI (seen s) (nT s))))) := by
  refine ct_iff (w65 _ ?_) Q
  obtain ⟨h5, h6, h8⟩ := Ok_P h.2.2 hp
  have hT := (Ok_T h.2.2).2
  simp only [CC_pl h hp, c_shownIn h h8, c_litBy h h8, c_at h, c_doors h h6, kV_r, kV_x, kI_r, kI_x, kR_r, kF_r, kD_r, forall_eq, not_true_eq_false, not_false_eq_true, false_implies, true_implies, true_and, and_true, b2i_0, b2i_1, b2i_01, b2i_t, b2i_f, decide_true, decide_false, Bool.not_true, Bool.not_false, i1_0]
  refine ⟨fun g => ?_, fun g => ?_⟩
  · have e : setI (fun t => isAtS s t 3 (-1)) (nT s) = setI (car s) (nT s) := setI_cong (fun t _ => isAt3)
    rw [e]
    simp only [c_wi h, kV_r, kV_x, kI_r, kI_x, kR_r, kF_r, kD_r, forall_eq, not_true_eq_false, not_false_eq_true, false_implies, true_implies, true_and, and_true, b2i_0, b2i_1, b2i_01, b2i_t, b2i_f, decide_true, decide_false, Bool.not_true, Bool.not_false, i1_0]
    rw [setI_cong (q := seen s) (fun t ht => ?_)]
    rw [wi_car h.2.2 ht]
    unfold seen
    rw [g]
    rfl
  · have g : bright s (nP s) = true := by simpa using g
    rw [setI_or (by omega)]
    rw [setI_cong (q := seen s) (fun t ht => ?_)]
    unfold seen
    rw [g, h5]
    rfl
/-- what an actor's verb leaves behind -/
def AQ (a : Nat) (d : ax_D) (s : Row) (r : AR) (K : ax_D → Prop) : Prop := match r with
  | Sum.inl (w, x) => ∀ d', Fr (sA a) d d' → CC d' (ax_wA a) s → ax_row d' 0 a 0 4 = w → ax_row d' 0 a 0 5 = x → K d'
  | Sum.inr s' => ∀ d', Fr (sA a) d d' → CC d' (ax_wA a) s' → ax_row d' 0 a 0 4 = ax_row d 0 a 0 4 → ax_row d' 0 a 0 5 = ax_row d 0 a 0 5 → K d'
theorem CC_Fr0 {d' : ax_D} (h : CC d (ax_wA a) s) (f : Fr (fun k i => k = 0 ∧ i = a) d d') : CC d' (ax_wA a) s := ⟨Cp_Fr f (fun x => by cases x.1) h.1, Cw_Fr f (fun x => by cases x.1) h.2.1, h.2.2⟩
theorem c_refuse (h : CC d (ax_wA a) s) (w x : Int32) (Q : ax_P) (hK : AQ a d s (rf w x) (fun d' => Q d' (Sum.inl none))) : CT 33 [ax_vR 0 a 0, Sum.inl w, Sum.inl x] d Q := by
  refine w33 _ _ _ (fun d1 e1 d2 e2 => ?_)
  have f1 : Fr (fun k i => k = 0 ∧ i = a) d d1 := by rw [e1]; exact Fr_set (by decide) ⟨rfl, rfl⟩ _ _ _
  have f2 : Fr (fun k i => k = 0 ∧ i = a) d d2 := Fr_trans f1 (by rw [e2]; exact Fr_set (by decide) ⟨rfl, rfl⟩ _ _ _)
  refine hK d2 (Fr_mono f2 (fun k i z => Or.inr z)) (CC_Fr0 h f2) ?_ ?_
  · rw [e2, row_s, upd_n (by decide), e1, row_s, upd_s]
  · rw [e2, row_s, upd_s]
theorem AQ_w {s' : Row} {d' : ax_D} (f : Fr (sW (ax_wA a)) d d') (hc : CC d' (ax_wA a) s') {K : ax_D → Prop} (hK : AQ a d s (ok s') K) : K d' :=
  hK d' (Fr_mono f (fun k i z => Or.inl z)) hc (congrFun (Fr_row f (fun z => by cases z.1) 0) 4) (congrFun (Fr_row f (fun z => by cases z.1) 0) 5)
theorem c_moveA (h : CC d (ax_wA a) s) {t : Nat} {p g : Int32} (hm : MvOk s t p g) (Q : ax_P) (hK : AQ a d s (ok (moves s t p g)) (fun d' => Q d' (Sum.inl none))) : CT 38 [ax_vR 7 (ax_wA a) 0, Sum.inl (nI t), Sum.inl p, Sum.inl g] d Q := c_move h hm Q (fun _ f hc => AQ_w f hc hK)
theorem c_markA (h : CC d (ax_wA a) s) {t f : Nat} {p : Int32} (ht : t < nT s) (hf : FlOk s t f (!decide (p = 0))) (Q : ax_P) (hK : AQ a d s (ok (sets s t (nI f) (!decide (p = 0)))) (fun d' => Q d' (Sum.inl none))) : CT 35 [ax_vR 7 (ax_wA a) 0, Sum.inl (nI t), Sum.inl (nI f), Sum.inl p] d Q := c_mark h ht hf Q (fun _ f hc => AQ_w f hc hK)
theorem c_take (h : CC d (ax_wA a) s) {t : Nat} (ht : t < nT s) (Q : ax_P) (hK : AQ a d s (takS s t) (fun d' => Q d' (Sum.inl none))) : CT 58 [ax_vR 0 a 0, Sum.inl (nI t)] d Q := by
  refine w58 _ _ ?_
  have hl := Ok_lt h.2.2 ht
  unfold takS at hK
  have hb := loadW_bear h ht (-1)
  have hle : (nI (loadW s t) ≤ 20) = (loadW s t ≤ 20) := propext (nI_leI (b := 20) (by have := loadW_lt h.2.2 t; omega) (by omega))
  simp only [c_mov h ht, c_carried h ht, c_loadW h hl, hle, kV_r, kV_x, kI_r, kI_x, kR_r, kF_r, kD_r, forall_eq, not_true_eq_false, not_false_eq_true, false_implies, true_implies, true_and, and_true, b2i_0, b2i_1, b2i_01, b2i_t, b2i_f, decide_true, decide_false, Bool.not_true, Bool.not_false, i1_0]
  refine ⟨fun g => ?_, fun g => ⟨fun g2 => ⟨fun g3 => ?_, fun g3 => ?_⟩, fun g2 => ?_⟩⟩
  · have g : fast s t = true := by simpa using g
    rw [g] at hK
    exact c_refuse h _ _ _ hK
  all_goals
    have g : fast s t = false := by simpa using g
    rw [g, cond_false] at hK
  · rw [show decide (s (255 + t) = 3) = false from g2, ← hb, decide_eq_true g3] at hK
    exact c_moveA h ⟨ht, Or.inr (Or.inr (Or.inr (Or.inl rfl)))⟩ _ hK
  · rw [show decide (s (255 + t) = 3) = false from g2, ← hb, decide_eq_false g3] at hK
    exact c_refuse h _ _ _ hK
  · have g2 : car s t = true := by simpa using g2
    rw [show decide (s (255 + t) = 3) = true from g2] at hK
    exact c_refuse h _ _ _ hK
theorem c_drop (h : CC d (ax_wA a) s) (hp : plays s = true) {t : Nat} (ht : t < nT s) (Q : ax_P) (hK : AQ a d s (drpS s t) (fun d' => Q d' (Sum.inl none))) : CT 39 [ax_vR 0 a 0, Sum.inl (nI t)] d Q := by
  refine w39 _ _ ?_
  obtain ⟨h5, h6, h8⟩ := Ok_P h.2.2 hp
  unfold drpS at hK
  simp only [c_carried h ht, CC_pl h hp, kV_r, kV_x, kI_r, kI_x, kR_r, kF_r, kD_r, forall_eq, not_true_eq_false, not_false_eq_true, false_implies, true_implies, true_and, and_true, b2i_0, b2i_1, b2i_01, b2i_t, b2i_f, decide_true, decide_false, Bool.not_true, Bool.not_false, i1_0]
  refine ⟨fun g => ?_, fun g => ?_⟩
  · rw [show decide (s (255 + t) = 3) = false from g] at hK
    exact c_refuse h _ _ _ hK
  · have g : car s t = true := by simpa using g
    rw [show decide (s (255 + t) = 3) = true from g, h5] at hK
    exact c_moveA h ⟨ht, Or.inl ⟨rfl, nP s, h6, rfl⟩⟩ _ hK
theorem c_open (h : CC d (ax_wA a) s) {t : Nat} (ht : t < nT s) (Q : ax_P) (hK : AQ a d s (opnS s t true) (fun d' => Q d' (Sum.inl none))) : CT 49 [ax_vR 0 a 0, Sum.inl (nI t)] d Q := by
  refine w49 _ _ ?_
  have hl := Ok_lt h.2.2 ht
  unfold opnS at hK
  simp only [c_lock (CC0 h) h.2.2 ht, c_has h.2.1 hl, kV_r, kV_x, kI_r, kI_x, kR_r, kF_r, kD_r, forall_eq, not_true_eq_false, not_false_eq_true, false_implies, true_implies, true_and, and_true, b2i_0, b2i_1, b2i_01, b2i_t, b2i_f, decide_true, decide_false, Bool.not_true, Bool.not_false, i1_0]
  refine ⟨fun g => ?_, fun g => ⟨fun g2 => ⟨fun g3 => ?_, fun g3 => ?_⟩, fun g2 => ?_⟩⟩
  · rw [g] at hK
    exact c_refuse h _ _ _ hK
  all_goals
    have g : isLock s t = true := by simpa using g
    rw [g, cond_true] at hK
  · rw [g2, g3] at hK
    exact c_markA h (f := 1) (p := 1) ht ⟨by omega, fun _ => ⟨fun x => by omega, fun _ => g, fun x => by omega, fun x => by omega⟩⟩ _ hK
  · have g3 : hasF s t 2 = true := by simpa using g3
    rw [g2, g3] at hK
    exact c_refuse h _ _ _ hK
  · have g2 : hasF s t 1 = true := by simpa using g2
    rw [g2] at hK
    exact c_refuse h _ _ _ hK
theorem c_close (h : CC d (ax_wA a) s) {t : Nat} (ht : t < nT s) (Q : ax_P) (hK : AQ a d s (opnS s t false) (fun d' => Q d' (Sum.inl none))) : CT 36 [ax_vR 0 a 0, Sum.inl (nI t)] d Q := by
  refine w36 _ _ ?_
  have hl := Ok_lt h.2.2 ht
  unfold opnS at hK
  simp only [c_lock (CC0 h) h.2.2 ht, c_has h.2.1 hl, kV_r, kV_x, kI_r, kI_x, kR_r, kF_r, kD_r, forall_eq, not_true_eq_false, not_false_eq_true, false_implies, true_implies, true_and, and_true, b2i_0, b2i_1, b2i_01, b2i_t, b2i_f, decide_true, decide_false, Bool.not_true, Bool.not_false, i1_0]
  refine ⟨fun g => ?_, fun g => ⟨fun g2 => ?_, fun g2 => ?_⟩⟩
  · rw [g] at hK
    exact c_refuse h _ _ _ hK
  all_goals
    have g : isLock s t = true := by simpa using g
    rw [g, cond_true] at hK
  · rw [g2] at hK
    exact c_refuse h _ _ _ hK
  · have g2 : hasF s t 1 = true := by simpa using g2
    rw [g2] at hK
    exact c_markA h (f := 1) (p := 0) ht ⟨by omega, fun e => by cases e⟩ _ hK
theorem c_key (h : CC d (ax_wA a) s) {t : Nat} (hl : t < 16) : ax_row d 3 0 14 t = s (223 + t) := ((CC0 h).2.2.2.2.1 t hl).2.2.2.2.2.2
theorem c_lockA (h : CC d (ax_wA a) s) {t q : Nat} (ht : t < nT s) (Q : ax_P) (hK : AQ a d s (lokS s t q true) (fun d' => Q d' (Sum.inl none))) : CT 70 [ax_vR 0 a 0, Sum.inl (nI t), Sum.inl (nI q)] d Q := by
  refine w70 _ _ _ ?_
  have hl := Ok_lt h.2.2 ht
  unfold lokS at hK
  simp only [c_lock (CC0 h) h.2.2 ht, c_has h.2.1 hl, ax_in_nI hl (by omega), nI_clamp (show t < 2 ^ 31 by omega), c_key h hl, kV_r, kV_x, kI_r, kI_x, kR_r, kF_r, kD_r, forall_eq, not_true_eq_false, not_false_eq_true, false_implies, true_implies, true_and, and_true, b2i_0, b2i_1, b2i_01, b2i_t, b2i_f, decide_true, decide_false, Bool.not_true, Bool.not_false, i1_0]
  refine ⟨fun g => ?_, fun g => ⟨fun g2 => ⟨fun g3 => ⟨fun g4 => ?_, fun g4 => ?_⟩, fun g3 => ?_⟩, fun g2 => ?_⟩⟩
  · rw [g] at hK
    exact c_refuse h _ _ _ hK
  all_goals
    have g : isLock s t = true := by simpa using g
    rw [g, cond_true] at hK
  · rw [g2, g3, decide_eq_true g4] at hK
    exact c_markA h (f := 2) (p := 1) ht ⟨by omega, fun _ => ⟨fun x => by omega, fun x => by omega, fun x => by omega, fun x => by omega⟩⟩ _ hK
  · rw [g2, g3, decide_eq_false g4] at hK
    exact c_refuse h _ _ _ hK
  · have g3 : hasF s t 1 = true := by simpa using g3
    rw [g2, g3] at hK
    exact c_refuse h _ _ _ hK
  · have g2 : hasF s t 2 = true := by simpa using g2
    rw [g2] at hK
    exact c_refuse h _ _ _ hK
theorem c_unlockA (h : CC d (ax_wA a) s) {t q : Nat} (ht : t < nT s) (Q : ax_P) (hK : AQ a d s (lokS s t q false) (fun d' => Q d' (Sum.inl none))) : CT 71 [ax_vR 0 a 0, Sum.inl (nI t), Sum.inl (nI q)] d Q := by
  refine w71 _ _ _ ?_
  have hl := Ok_lt h.2.2 ht
  unfold lokS at hK
  simp only [c_lock (CC0 h) h.2.2 ht, c_has h.2.1 hl, ax_in_nI hl (by omega), nI_clamp (show t < 2 ^ 31 by omega), c_key h hl, kV_r, kV_x, kI_r, kI_x, kR_r, kF_r, kD_r, forall_eq, not_true_eq_false, not_false_eq_true, false_implies, true_implies, true_and, and_true, b2i_0, b2i_1, b2i_01, b2i_t, b2i_f, decide_true, decide_false, Bool.not_true, Bool.not_false, i1_0]
  refine ⟨fun g => ?_, fun g => ⟨fun g2 => ?_, fun g2 => ⟨fun g4 => ?_, fun g4 => ?_⟩⟩⟩
  · rw [g] at hK
    exact c_refuse h _ _ _ hK
  all_goals
    have g : isLock s t = true := by simpa using g
    rw [g, cond_true] at hK
  · rw [g2] at hK
    exact c_refuse h _ _ _ hK
  · have g2 : hasF s t 2 = true := by simpa using g2
    rw [g2, decide_eq_true g4] at hK
    exact c_markA h (f := 2) (p := 0) ht ⟨by omega, fun e => by cases e⟩ _ hK
  · have g2 : hasF s t 2 = true := by simpa using g2
    rw [g2, decide_eq_false g4] at hK
    exact c_refuse h _ _ _ hK
theorem c_light (h : CC d (ax_wA a) s) {t : Nat} (ht : t < nT s) (Q : ax_P) (hK : AQ a d s (litS s t true) (fun d' => Q d' (Sum.inl none))) : CT 40 [ax_vR 0 a 0, Sum.inl (nI t)] d Q := by
  refine w40 _ _ ?_
  have hl := Ok_lt h.2.2 ht
  unfold litS at hK
  simp only [c_kind (CC0 h) h.2.2 ht, c_has h.2.1 hl, ax_in_nI hl (by omega), nI_clamp (show t < 2 ^ 31 by omega), (h.2.1.1 t hl).2.2.2, kV_r, kV_x, kI_r, kI_x, kR_r, kF_r, kD_r, forall_eq, not_true_eq_false, not_false_eq_true, false_implies, true_implies, true_and, and_true, b2i_0, b2i_1, b2i_01, b2i_t, b2i_f, decide_true, decide_false, Bool.not_true, Bool.not_false, i1_0]
  refine ⟨fun g => ⟨fun g2 => ⟨fun g3 => ?_, fun g3 => ?_⟩, fun g2 => ?_⟩, fun g => ?_⟩
  · rw [decide_eq_true g, g2, decide_eq_true g3] at hK
    exact c_refuse h _ _ _ hK
  · rw [decide_eq_true g, g2, decide_eq_false g3] at hK
    exact c_markA h (f := 4) (p := 1) ht ⟨by omega, fun _ => ⟨fun x => by omega, fun x => by omega, fun x => by omega, fun _ => ⟨g, g3⟩⟩⟩ _ hK
  · have g2 : hasF s t 4 = true := by simpa using g2
    rw [decide_eq_true g, g2] at hK
    exact c_refuse h _ _ _ hK
  · rw [decide_eq_false g] at hK
    exact c_refuse h _ _ _ hK
theorem c_quench (h : CC d (ax_wA a) s) {t : Nat} (ht : t < nT s) (Q : ax_P) (hK : AQ a d s (litS s t false) (fun d' => Q d' (Sum.inl none))) : CT 50 [ax_vR 0 a 0, Sum.inl (nI t)] d Q := by
  refine w50 _ _ ?_
  have hl := Ok_lt h.2.2 ht
  unfold litS at hK
  simp only [c_kind (CC0 h) h.2.2 ht, c_has h.2.1 hl, kV_r, kV_x, kI_r, kI_x, kR_r, kF_r, kD_r, forall_eq, not_true_eq_false, not_false_eq_true, false_implies, true_implies, true_and, and_true, b2i_0, b2i_1, b2i_01, b2i_t, b2i_f, decide_true, decide_false, Bool.not_true, Bool.not_false, i1_0]
  refine ⟨fun g => ⟨fun g2 => ?_, fun g2 => ?_⟩, fun g => ?_⟩
  · rw [decide_eq_true g, g2] at hK
    exact c_refuse h _ _ _ hK
  · have g2 : hasF s t 4 = true := by simpa using g2
    rw [decide_eq_true g, g2] at hK
    exact c_markA h (f := 4) (p := 0) ht ⟨by omega, fun e => by cases e⟩ _ hK
  · rw [decide_eq_false g] at hK
    exact c_refuse h _ _ _ hK
/-- whether there is room -/
theorem c_fits (h : CC d (ax_wA a) s) {t q : Nat} (ht : t < nT s) (hq : q < nT s) (Q : ax_P) : CT 68 [ax_vR 7 (ax_wA a) 0, Sum.inl (nI t), Sum.inl (nI q)] d Q ↔ Q d (Sum.inl (some (Sum.inl (b2i (!decide (s (175 + q) < nI (filled s (nI q) (nI t) + sz s t))))))) := by
  refine ct_iff (w68 _ _ _ ?_) Q
  have hl := Ok_lt h.2.2 ht
  have hl2 := Ok_lt h.2.2 hq
  have hcap := (h.1.2.2.2.2.1 q hl2).2.2.2.2.1
  have hfb := filled_but (q := q) h.2.2 ht
  simp only [c_isTh h, isTh_nI h.2.2 ht, isTh_nI h.2.2 hq, c_size h hl2, c_held h.2.1 hl, ax_in_nI hl (by omega), ax_in_nI hl2 (by omega), nI_clamp (show t < 2 ^ 31 by omega), nI_clamp (show q < 2 ^ 31 by omega), CC_sz h ht, hcap, (h.2.1.1 t hl).2.1, kV_r, kV_x, kI_r, kI_x, kR_r, kF_r, kD_r, forall_eq, not_true_eq_false, not_false_eq_true, false_implies, true_implies, true_and, and_true, b2i_0, b2i_1, b2i_01, b2i_t, b2i_f, decide_true, decide_false, Bool.not_true, Bool.not_false, i1_0]
  have fin : ∀ X n, X = nI n → n = filled s (nI q) (nI t) → h68_60 (ax_wA a) (nI t) (nI q) X d (fun d' r => d' = d ∧ r = Sum.inl (some (Sum.inl (b2i (!decide (s (175 + q) < nI (filled s (nI q) (nI t) + sz s t))))))) := by
    intro X n e hn
    subst e
    refine w68_60 _ _ _ _ ?_
    simp only [ax_in_nI hl (by omega), ax_in_nI hl2 (by omega), nI_clamp (show t < 2 ^ 31 by omega), nI_clamp (show q < 2 ^ 31 by omega), CC_sz h ht, hcap, nI_add, kV_r, kV_x, kI_r, kI_x, kR_r, kF_r, kD_r, forall_eq, not_true_eq_false, not_false_eq_true, false_implies, true_implies, true_and, and_true, b2i_0, b2i_1, b2i_01, b2i_t, b2i_f, decide_true, decide_false, Bool.not_true, Bool.not_false, i1_0]
    rw [hn]
    refine ⟨fun g => ?_, fun g => ?_⟩
    · rw [decide_eq_true g]
      all_goals first | rfl | exact ⟨rfl, rfl⟩
    · rw [decide_eq_false g]
      all_goals first | rfl | exact ⟨rfl, rfl⟩
  refine ⟨fun g => ?_, fun g => ⟨fun g2 => ?_, fun g2 => ?_⟩⟩
  · rw [g, Bool.false_and, cond_false, Nat.add_zero] at hfb
    exact fin _ _ rfl hfb
  · have g : held s t = true := by simpa using g
    rw [g, decide_eq_true g2, Bool.true_and, cond_true] at hfb
    exact fin _ _ (pk_sub (by omega)) (by omega)
  · have g : held s t = true := by simpa using g
    rw [g, decide_eq_false g2, Bool.true_and, cond_false, Nat.add_zero] at hfb
    exact fin _ _ rfl hfb
end CV
