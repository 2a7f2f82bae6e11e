/-! what the class sees -/
/-- what doesn't hide what is in or on it -/
def bare (s : Row) (t : Nat) : Bool := decide (s (111 + t) = 2) || seeT s t
/-- what can be seen from a set of things that stand by themselves -/
def wiN (s : Row) (p : Nat → Bool) : Nat → Nat → Bool
  | 0, t => p t
  | n + 1, t => p t || (held s t && (bare s (par s t) && wiN s p n (par s t)))
def wi (s : Row) (p : Nat → Bool) (t : Nat) : Bool := wiN s p 16 t
theorem wiN_st {s : Row} {p : Nat → Bool} : ∀ {n m t : Nat}, Rt s n t → n ≤ m → wiN s p m t = wiN s p n t := by
  intro n
  induction n with
  | zero =>
    intro m t hr hm
    cases m with
    | zero => rfl
    | succ m => unfold wiN; rw [show held s t = false from hr]; simp
  | succ n ih =>
    intro m t hr hm
    obtain ⟨k, rfl⟩ : ∃ k, m = k + 1 := ⟨m - 1, by omega⟩
    unfold wiN
    rw [hr.1, ih hr.2 (by omega)]
theorem wi_0 {s : Row} {p : Nat → Bool} {t : Nat} (h : held s t = false) : wi s p t = p t := by unfold wi wiN; rw [h]; simp
theorem wi_1 {s : Row} (h : Ok s) {p : Nat → Bool} {t : Nat} (ht : t < nT s) (hh : held s t = true) : wi s p t = (p t || (bare s (par s t) && wi s p (par s t))) := by
  obtain ⟨n, hn, hr⟩ := h.2.2.1 t ht
  cases n with
  | zero => exact absurd (hh.symm.trans hr) (by decide)
  | succ n =>
    unfold wi
    rw [wiN_st hr (by omega), wiN_st hr.2 (by omega)]
    show (p t || (held s t && _)) = _
    rw [hh]
    rfl
theorem wi_p {s : Row} {p : Nat → Bool} {t : Nat} (hp : p t = true) : wi s p t = true := by unfold wi wiN; rw [hp]; rfl
/-- one pass over the things adds what lies in or on what is seen -/
def grow (s : Row) (t : Nat) (m : Nat → Bool) : Nat → Bool := fun i => m i || (decide (i = t) && (held s t && (bare s (par s t) && m (par s t))))
section CS
variable {d : ax_D} {w : Nat} {s : Row}
theorem c_at (h : CC d w s) (p g : Int32) (Q : ax_P) : CT 47 [ax_vR 7 w 0, Sum.inl p, Sum.inl g] d Q ↔ Q d (Sum.inl (some (Sum.inl (setI (fun t => isAtS s t p g) (nT s))))) := by
  refine ct_iff (w47 _ _ _ ?_) Q
  have hT := (Ok_T h.2.2).2
  have key := lp_up (fun i => h47_5 w p g (setI (fun t => isAtS s t p g) i) (nI i) d (fun d' r => d' = d ∧ r = Sum.inl (some (Sum.inl (setI (fun t => isAtS s t p g) (nT s)))))) (nT s) ?_ ?_ 0 (by omega)
  · exact key
  · refine w47_5 _ _ _ _ _ ?_
    simp only [kV_r, kV_x, kI_r, kI_x, kR_r, kF_r, kD_r, forall_eq, not_true_eq_false, not_false_eq_true, false_implies, true_implies, true_and, and_true, b2i_0, b2i_1, b2i_01, b2i_t, b2i_f, decide_true, decide_false, Bool.not_true, Bool.not_false, i1_0, CC_T h, le_yes (Nat.le_refl _) (show nT s < 2 ^ 31 by omega)]
    all_goals simp
  · intro i hi ih
    refine w47_5 _ _ _ _ _ ?_
    simp only [kV_r, kV_x, kI_r, kI_x, kR_r, kF_r, kD_r, forall_eq, not_true_eq_false, not_false_eq_true, false_implies, true_implies, true_and, and_true, b2i_0, b2i_1, b2i_01, b2i_t, b2i_f, decide_true, decide_false, Bool.not_true, Bool.not_false, i1_0, CC_T h, le_no hi (show nT s < 2 ^ 31 by omega), c_isAt h.2.1 h.2.2 hi, nI_1]
    rw [setI_succ] at ih
    cases g1 : isAtS s i p g <;> simpa [g1] using ih
theorem bare10 : ∀ f, f < 32 → ((nI f &&& 10 = 0) ↔ (bit (nI f) 1 || bit (nI f) 3) = false) := by decide +kernel
theorem c_bare (h : CC d w s) (Q : ax_P) : CT 62 [ax_vR 7 w 0] d Q ↔ Q d (Sum.inl (some (Sum.inl (setI (bare s) (nT s))))) := by
  refine ct_iff (w62 _ ?_) Q
  have hT := (Ok_T h.2.2).2
  have key := lp_up (fun i => h62_4 w (setI (bare s) i) (nI i) d (fun d' r => d' = d ∧ r = Sum.inl (some (Sum.inl (setI (bare s) (nT s)))))) (nT s) ?_ ?_ 0 (by omega)
  · exact key
  · refine w62_4 _ _ _ ?_
    simp only [kV_r, kV_x, kI_r, kI_x, kR_r, kF_r, kD_r, forall_eq, not_true_eq_false, not_false_eq_true, false_implies, true_implies, true_and, and_true, b2i_0, b2i_1, b2i_01, b2i_t, b2i_f, decide_true, decide_false, Bool.not_true, Bool.not_false, i1_0, CC_T h, le_yes (Nat.le_refl _) (show nT s < 2 ^ 31 by omega)]
    all_goals simp
  · intro i hi ih
    have hl := Ok_lt h.2.2 hi
    have hj : h62_45 w (setI (bare s) i) (nI i) (b2i (bare s i)) d (fun d' r => d' = d ∧ r = Sum.inl (some (Sum.inl (setI (bare s) (nT s))))) := by
      refine w62_45 _ _ _ _ ?_
      rw [setI_succ] at ih
      simp only [kV_r, kV_x, kI_r, kI_x, kR_r, kF_r, kD_r, forall_eq, not_true_eq_false, not_false_eq_true, false_implies, true_implies, true_and, and_true, b2i_0, b2i_1, b2i_01, b2i_t, b2i_f, decide_true, decide_false, Bool.not_true, Bool.not_false, i1_0, nI_1]
      cases g : bare s i <;> simpa [g] using ih
    refine w62_4 _ _ _ ?_
    obtain ⟨⟨f, hf, ef⟩, -⟩ := (h.2.2.2.1 i hi).2
    have e10 : (s (239 + i) &&& 10 = 0) = (seeT s i = false) := by
      unfold seeT hasF
      rw [ef]
      exact propext (bare10 f hf)
    simp only [kV_r, kV_x, kI_r, kI_x, kR_r, kF_r, kD_r, forall_eq, not_true_eq_false, not_false_eq_true, false_implies, true_implies, true_and, and_true, b2i_0, b2i_1, b2i_01, b2i_t, b2i_f, decide_true, decide_false, Bool.not_true, Bool.not_false, i1_0, CC_T h, le_no hi (show nT s < 2 ^ 31 by omega), ax_in_nI hl (by omega), nI_clamp (show i < 2 ^ 31 by omega), (h.1.2.2.2.2.1 i hl).1, (h.2.1.1 i hl).2.2.1, e10]
    rw [show bare s i = (decide (s (111 + i) = 2) || seeT s i) from rfl] at hj
    by_cases g1 : s (111 + i) = 2 <;> cases g2 : seeT s i <;> simpa [g1, g2, b2i] using hj
end CS
section CI
variable {d : ax_D} {a : Nat} {s : Row}
theorem pW_wA (a : Nat) : ax_pW (ax_wA a) = 0 := by unfold ax_wA; split <;> rfl
theorem CC0 (h : CC d (ax_wA a) s) : Cp d 0 s := by have := h.1; rw [pW_wA] at this; exact this
theorem CC0_T (h : CC d (ax_wA a) s) : ax_row d 3 0 0 1 = nI (nT s) := (CC0 h).1.2.1.trans (Ok_T h.2.2).1
theorem bt_and_setI {p q : Nat → Bool} {n i : Nat} (hn : n ≤ 16) (hi : i < n) : bt (setI p n &&& setI q n) i = (p i && q i) := by
  rw [b_and, bt_setI (by omega) (by omega), bt_setI (by omega) (by omega), decide_eq_true hi]
  rfl
theorem c_wi (h : CC d (ax_wA a) s) (p : Nat → Bool) (Q : ax_P) : CT 63 [ax_vR 5 a 0, Sum.inl (setI p (nT s))] d Q ↔ Q d (Sum.inl (some (Sum.inl (setI (wi s p) (nT s))))) := by
  refine ct_iff (w63 _ _ ?_) Q
  have hT := (Ok_T h.2.2).2
  have hTp := fun t ht => (h.2.2.2.1 t ht).1
  simp only [c_bare h, kV_r, kV_x, kI_r, kI_x, kR_r, kF_r, kD_r, forall_eq, not_true_eq_false, not_false_eq_true, false_implies, true_implies, true_and, and_true, b2i_0, b2i_1, b2i_01, b2i_t, b2i_f, decide_true, decide_false, Bool.not_true, Bool.not_false, i1_0]
  -- what holds of the set that is seen after k passes
  have inv : ∀ j k, j + k = 16 → ∀ z : Nat → Bool, (∀ t, t < nT s → p t = true → z t = true) → (∀ t, t < nT s → z t = true → wi s p t = true) → (∀ n t, t < nT s → n < k + 0 → Rt s n t → wi s p t = true → z t = true) → h63_13 a (setI p (nT s)) (setI (bare s) (nT s)) (setI z (nT s)) (nI k) d (fun d' r => d' = d ∧ r = Sum.inl (some (Sum.inl (setI (wi s p) (nT s))))) := by
    intro j
    induction j with
    | zero =>
      intro k hk z z1 z2 z3
      refine w63_13 _ _ _ _ _ ?_
      rw [show k = 16 by omega]
      refine ⟨fun _ => ⟨rfl, ?_⟩, fun x => absurd (by decide) x⟩
      have : setI z (nT s) = setI (wi s p) (nT s) := setI_cong (fun t ht => by
        cases hz : z t with
        | true => exact (z2 t ht hz).symm
        | false =>
          cases hw : wi s p t with
          | false => rfl
          | true =>
            obtain ⟨n, hn, hr⟩ := h.2.2.2.2.1 t ht
            exact absurd ((z3 n t ht (by omega) hr hw).symm.trans hz) (by decide))
      rw [this]
    | succ j ih =>
      intro k hk z z1 z2 z3
      refine w63_13 _ _ _ _ _ ?_
      refine ⟨fun x => absurd x (le_no (b := 16) (by omega) (by omega)).mp, fun _ => ?_⟩
      -- the pass over the things
      have pass : ∀ i, i ≤ nT s → ∀ m : Nat → Bool, (∀ t, t < nT s → z t = true → m t = true) → (∀ t, t < nT s → m t = true → wi s p t = true) → (∀ t, t < i → held s t = true → bare s (par s t) = true → z (par s t) = true → m t = true) → h63_26 a (setI p (nT s)) (setI (bare s) (nT s)) (setI z (nT s)) (nI k) (setI m (nT s)) (nI i) d (fun d' r => d' = d ∧ r = Sum.inl (some (Sum.inl (setI (wi s p) (nT s))))) := by
        refine lp_up (fun i => ∀ m : Nat → Bool, (∀ t, t < nT s → z t = true → m t = true) → (∀ t, t < nT s → m t = true → wi s p t = true) → (∀ t, t < i → held s t = true → bare s (par s t) = true → z (par s t) = true → m t = true) → h63_26 a (setI p (nT s)) (setI (bare s) (nT s)) (setI z (nT s)) (nI k) (setI m (nT s)) (nI i) d (fun d' r => d' = d ∧ r = Sum.inl (some (Sum.inl (setI (wi s p) (nT s)))))) (nT s) ?_ ?_
        · intro m m1 m2 m3
          refine w63_26 _ _ _ _ _ _ _ ?_
          rw [CC0_T h]
          refine ⟨fun _ => ⟨fun e => ⟨rfl, ?_⟩, fun e => ?_⟩, fun x => absurd (nI_le (Nat.le_refl _) (by omega)) x⟩
          · have e' := (setI_eq (show nT s ≤ 32 by omega)).mp e
            have : setI z (nT s) = setI (wi s p) (nT s) := setI_cong (fun t ht => by
              cases hz : z t with
              | true => exact (z2 t ht hz).symm
              | false =>
                cases hw : wi s p t with
                | false => rfl
                | true =>
                  have cl : ∀ u, u < nT s → (wi s p u = true → z u = true) := fun u hu => by
                    refine climbs h.2.2 (fun u => wi s p u = true → z u = true) (fun u hu hh hq => ?_) (fun u hu hh b1 b2 ihu hq => ?_) hu
                    · rw [wi_0 hh] at hq
                      exact z1 u hu hq
                    · rw [wi_1 h.2.2 hu hh, Bool.or_eq_true, Bool.and_eq_true] at hq
                      rcases hq with hq | ⟨q1, q2⟩
                      · exact z1 u hu hq
                      · rw [← e' u hu]
                        exact m3 u hu hh q1 (ihu q2)
                  exact absurd ((cl t ht hw).symm.trans hz) (by decide))
            rw [this]
          · rw [nI_1]
            refine ih (k + 1) (by omega) m (fun t ht hq => m1 t ht (z1 t ht hq)) m2 (fun n t ht hn hr hw => ?_)
            cases n with
            | zero =>
              rw [wi_0 hr] at hw
              exact m1 t ht (z1 t ht hw)
            | succ n =>
              rw [wi_1 h.2.2 ht hr.1, Bool.or_eq_true, Bool.and_eq_true] at hw
              rcases hw with hq | ⟨q1, q2⟩
              · exact m1 t ht (z1 t ht hq)
              · exact m3 t ht hr.1 q1 (z3 n _ (Tp_held hT (hTp t ht) hr.1).1 (by omega) hr.2 q2)
        · intro i hi ihi m m1 m2 m3
          have hl := Ok_lt h.2.2 hi
          refine w63_26 _ _ _ _ _ _ _ ?_
          rw [CC0_T h]
          refine ⟨fun x => absurd x (nI_ge hi (by omega)), fun _ => ?_⟩
          simp only [c_held h.2.1 hl, kV_r, kV_x, kI_r, kI_x, kR_r, kF_r, kD_r, forall_eq, not_true_eq_false, not_false_eq_true, false_implies, true_implies, true_and, and_true, b2i_0, b2i_1, b2i_01, b2i_t, b2i_f, decide_true, decide_false, Bool.not_true, Bool.not_false, i1_0]
          have keepm : (held s i = true → bare s (par s i) = true → z (par s i) = true → m i = true) → h63_26 a (setI p (nT s)) (setI (bare s) (nT s)) (setI z (nT s)) (nI k) (setI m (nT s)) (nI (i + 1)) d (fun d' r => d' = d ∧ r = Sum.inl (some (Sum.inl (setI (wi s p) (nT s))))) := fun hx => ihi m m1 m2 (fun t ht a1 a2 a3 => by
            by_cases e : t = i
            · subst e
              exact hx a1 a2 a3
            · exact m3 t (by omega) a1 a2 a3)
          refine ⟨fun e => ?_, fun e => ?_⟩
          · rw [nI_1]
            exact keepm (fun x => by rw [e] at x; cases x)
          · have e : held s i = true := by simpa using e
            obtain ⟨b1, b2, -⟩ := Tp_held hT (hTp i hi) e
            have hb16 := Ok_lt h.2.2 b1
            simp only [ax_in_nI hl (by omega), nI_clamp (show i < 2 ^ 31 by omega), (h.2.1.1 i hl).2.1, b2, c_cont hb16, bt_and_setI hT b1, nI_1, kV_r, kV_x, kI_r, kI_x, kR_r, kF_r, kD_r, forall_eq, not_true_eq_false, not_false_eq_true, false_implies, true_implies, true_and, and_true, b2i_0, b2i_1, b2i_01, b2i_t, b2i_f, decide_true, decide_false, Bool.not_true, Bool.not_false, i1_0]
            refine ⟨fun e2 => keepm (fun _ x2 x3 => ?_), fun e2 => ?_⟩
            · rw [m1 _ b1 x3, x2] at e2
              cases e2
            · have e2 : (m (par s i) && bare s (par s i)) = true := by simpa using e2
              rw [Bool.and_eq_true] at e2
              rw [setI_add (by omega) hi]
              refine ihi _ (fun t ht hq => by rw [m1 t ht hq]; rfl) (fun t ht hq => ?_) (fun t ht a1 a2 a3 => ?_)
              · by_cases e3 : t = i
                · subst e3
                  rw [wi_1 h.2.2 ht e, e2.2, m2 _ b1 e2.1]
                  simp
                · simp [e3] at hq
                  exact m2 t ht hq
              · by_cases e3 : t = i
                · subst e3
                  simp
                · rw [m3 t (by omega) a1 a2 a3]
                  rfl
      exact pass 0 (by omega) z (fun t _ hq => hq) z2 (fun t ht => by omega)
  exact inv 16 0 (by omega) p (fun t _ hq => hq) (fun t _ hq => wi_p hq) (fun n t _ hn => by omega)
/-- what stands by itself in a room -/
def stands (s : Row) (r : Int32) (t : Nat) : Bool := isAtS s t 0 r || (decide (r = plI s) && isAtS s t 3 (-1))
theorem bare_up (h : Ok s) {t : Nat} (ht : t < nT s) (hh : held s t = true) : bare s (par s t) = !(decide (s (255 + t) = 1) && !seeT s (par s t)) := by
  obtain ⟨a1, a2, a3⟩ := Tp_held (Ok_T h).2 (h.2.1 t ht).1 hh
  unfold bare
  rw [a3]
  rcases held_iff.mp hh with e | e
  · rw [e]
    cases seeT s (par s t) <;> rfl
  · rw [e]
    cases seeT s (par s t) <;> rfl
theorem isAt0 {t : Nat} {g : Int32} : isAtS s t 0 g = (decide (s (255 + t) = 0) && decide (s (271 + t) = g)) := by
  unfold isAtS
  rw [show decide ((2 : Int32) < 0) = false from by decide, Bool.false_or]
theorem isAt3 {t : Nat} {g : Int32} : isAtS s t 3 g = car s t := by
  unfold isAtS car
  rw [show decide ((2 : Int32) < 3) = true from by decide, Bool.true_or, Bool.and_true]
theorem wi_shown (h : Ok s) {r : Nat} (hr : r < 8) {t : Nat} (ht : t < nT s) : wi s (stands s (nI r)) t = shown s t (nI r) := by
  have h_held : ∀ t, held s t = true → stands s (nI r) t = false := fun t hh => by
    unfold stands
    rw [isAt0, isAt3]
    unfold car
    rcases held_iff.mp hh with e | e <;> rw [e] <;> simp
  refine climbs h (fun t => wi s (stands s (nI r)) t = shown s t (nI r)) (fun t ht hh => ?_) (fun t ht hh h1 h2 ih => ?_) ht
  · rw [wi_0 hh]
    unfold shown
    rw [seenUp_0 hh]
    show stands s (nI r) t = shownU s (nI r) t
    unfold stands shownU
    rw [isAt0, isAt3]
    unfold car plI plays
    by_cases e0 : s (255 + t) = 0
    · simp [e0]
    · by_cases e3 : s (255 + t) = 3
      · by_cases p3 : s 3 = 1
        · by_cases e5 : s 5 = nI r
          · simp [e3, p3, e5]
          · have : ¬ nI r = s 5 := fun x => e5 x.symm
            simp [e3, p3, e5, this]
        · simp [e3, p3, nI_neg (show r < 2 ^ 31 by omega)]
      · simp [e0, e3]
  · rw [wi_1 h ht hh, h_held t hh, Bool.false_or, bare_up h ht hh, ih]
    unfold shown
    rw [seenUp_1 h ht hh]
    cases (decide (s (255 + t) = 1) && !seeT s (par s t)) <;> rfl
theorem c_shownIn (h : CC d (ax_wA a) s) {r : Nat} (hr : r < 8) (Q : ax_P) : CT 64 [ax_vR 5 a 0, Sum.inl (nI r)] d Q ↔ Q d (Sum.inl (some (Sum.inl (setI (fun t => shown s t (nI r)) (nT s))))) := by
  refine ct_iff (w64 _ _ ?_) Q
  have hT := (Ok_T h.2.2).2
  have e := setI_cong (p := wi s (stands s (nI r))) (q := fun t => shown s t (nI r)) (n := nT s) (fun t ht => wi_shown h.2.2 hr ht)
  have hpl := h.2.1.2.1.1
  simp only [c_at h, hpl, kV_r, kV_x, kI_r, kI_x, kR_r, kF_r, kD_r, forall_eq, not_true_eq_false, not_false_eq_true, false_implies, true_implies, true_and, and_true, b2i_0, b2i_1, b2i_01, b2i_t, b2i_f, decide_true, decide_false, Bool.not_true, Bool.not_false, i1_0]
  rw [← e]
  refine ⟨fun g => ?_, fun g => ?_⟩
  · rw [setI_or (by omega)]
    have e2 : (fun t => isAtS s t 0 (nI r) || isAtS s t 3 (-1)) = stands s (nI r) := by
      funext t
      unfold stands
      rw [decide_eq_true g, Bool.true_and]
    rw [e2]
    simp only [c_wi h, kV_r, kV_x, kI_r, kI_x, kR_r, kF_r, kD_r, forall_eq, not_true_eq_false, not_false_eq_true, false_implies, true_implies, true_and, and_true, b2i_0, b2i_1, b2i_01, b2i_t, b2i_f, decide_true, decide_false, Bool.not_true, Bool.not_false, i1_0]
    all_goals first | rfl | exact ⟨rfl, rfl⟩
  · have e2 : (fun t => isAtS s t 0 (nI r)) = stands s (nI r) := by
      funext t
      unfold stands
      rw [decide_eq_false g, Bool.false_and, Bool.or_false]
    rw [e2]
    simp only [c_wi h, kV_r, kV_x, kI_r, kI_x, kR_r, kF_r, kD_r, forall_eq, not_true_eq_false, not_false_eq_true, false_implies, true_implies, true_and, and_true, b2i_0, b2i_1, b2i_01, b2i_t, b2i_f, decide_true, decide_false, Bool.not_true, Bool.not_false, i1_0]
    all_goals first | rfl | exact ⟨rfl, rfl⟩
theorem c_litBy (h : CC d (ax_wA a) s) {r : Nat} (hr : r < 8) (Q : ax_P) : CT 61 [ax_vR 5 a 0, Sum.inl (nI r), Sum.inl (setI (fun t => shown s t (nI r)) (nT s))] d Q ↔ Q d (Sum.inl (some (Sum.inl (b2i (bright s r))))) := by
  refine ct_iff (w61 _ _ _ ?_) Q
  have hT := (Ok_T h.2.2).2
  simp only [c_cont (show r < 16 by omega), (CC0 h).2.1 r hr, kV_r, kV_x, kI_r, kI_x, kR_r, kF_r, kD_r, forall_eq, not_true_eq_false, not_false_eq_true, false_implies, true_implies, true_and, and_true, b2i_0, b2i_1, b2i_01, b2i_t, b2i_f, decide_true, decide_false, Bool.not_true, Bool.not_false, i1_0]
  unfold bright
  refine ⟨fun g => ?_, fun g => ?_⟩
  · have g : ¬ s (7 + r) = 1 := of_decide_eq_false g
    rw [decide_eq_false g, Bool.false_or]
    have key := lp_up (fun i => (anyN (lamp s (nI r)) i = false → h61_18 a (nI r) (setI (fun t => shown s t (nI r)) (nT s)) (nI i) d (fun d' q => d' = d ∧ q = Sum.inl (some (Sum.inl (b2i (anyN (lamp s (nI r)) (nT s)))))))) (nT s) ?_ ?_ 0 (by omega)
    · exact key rfl
    · intro hf
      refine w61_18 _ _ _ _ ?_
      rw [CC0_T h, hf]
      exact ⟨fun _ => ⟨rfl, rfl⟩, fun x => absurd (nI_le (Nat.le_refl _) (by omega)) x⟩
    · intro i hi ih hf
      have hl := Ok_lt h.2.2 hi
      refine w61_18 _ _ _ _ ?_
      rw [CC0_T h]
      refine ⟨fun x => absurd x (nI_ge hi (by omega)), fun _ => ?_⟩
      simp only [c_cont hl, bt_setI (show nT s ≤ 32 by omega) (show i < 32 by omega), decide_eq_true hi, Bool.true_and, c_has h.2.1 hl, nI_1, kV_r, kV_x, kI_r, kI_x, kR_r, kF_r, kD_r, forall_eq, not_true_eq_false, not_false_eq_true, false_implies, true_implies, true_and, and_true, b2i_0, b2i_1, b2i_01, b2i_t, b2i_f, decide_true, decide_false, Bool.not_true, Bool.not_false, i1_0]
      have hlamp : lamp s (nI r) i = (hasF s i 4 && shown s i (nI r)) := by
        unfold lamp
        cases hh : hasF s i 4 with
        | false => rfl
        | true => rw [decide_eq_true ((h.2.2.2.1 i hi).2.2.2.2.2.2 hh).1]; rfl
      rw [anyN_succ, hf, Bool.false_or, hlamp] at ih
      refine ⟨fun g1 => ih (by rw [g1, Bool.and_false]), fun g1 => ⟨fun g2 => ih (by rw [g2, Bool.false_and]), fun g2 => ?_⟩⟩
      have g1 : shown s i (nI r) = true := by simpa using g1
      have g2 : hasF s i 4 = true := by simpa using g2
      have : anyN (lamp s (nI r)) (nT s) = true := anyN_iff.mpr ⟨i, hi, by rw [hlamp, g1, g2]; rfl⟩
      rw [this]
      rfl
  · have g : s (7 + r) = 1 := by simpa using g
    rw [decide_eq_true g]
    all_goals first | rfl | exact ⟨rfl, rfl⟩
theorem c_hasLight (h : CC d (ax_wA a) s) {r : Nat} (hr : r < 8) (Q : ax_P) : CT 78 [ax_vR 5 a 0, Sum.inl (nI r)] d Q ↔ Q d (Sum.inl (some (Sum.inl (b2i (bright s r))))) := by
  refine ct_iff (w78 _ _ ?_) Q
  simp only [c_shownIn h hr, c_litBy h hr, kV_r, kV_x, kI_r, kI_x, kR_r, kF_r, kD_r, forall_eq, not_true_eq_false, not_false_eq_true, false_implies, true_implies, true_and, and_true, b2i_0, b2i_1, b2i_01, b2i_t, b2i_f, decide_true, decide_false, Bool.not_true, Bool.not_false, i1_0]
  simp
theorem CC_pl (h : CC d (ax_wA a) s) (hp : plays s = true) : ax_row d 7 (ax_wA a) 0 11 = nI (nP s) := by
  rw [h.2.1.2.1.1]
  unfold plI
  rw [if_pos (of_decide_eq_true hp)]
  exact (Ok_P h.2.2 hp).1
theorem e6m (a k : Nat) : nI a * (6 : Int32) + nI k = nI (6 * a + k) := by
  show nI a * nI 6 + nI k = _
  rw [pk_mul, nI_add, Nat.mul_comm]
theorem c_exitP {p : Nat} (hc : Cp d p s) (hk : Ok s) {r k : Nat} (hr : r < nR s) (hk6 : k < 6) (Q : ax_P) : CT 28 [ax_vR 3 p 0, Sum.inl (nI r), Sum.inl (nI k)] d Q ↔ Q d (Sum.inl (some (Sum.inl (s (15 + (6 * r + k)))))) := by
  have hR := Pk_R hk.1
  refine ct_iff (w28 _ _ _ ?_) Q
  have hj : h28_27 p (nI r) (nI k) 1 d (fun d' q => d' = d ∧ q = Sum.inl (some (Sum.inl (s (15 + (6 * r + k)))))) := by
    refine w28_27 _ _ _ _ ?_
    simp only [e6m, ax_in_nI (show 6 * r + k < 48 by omega) (by omega), nI_clamp (show 6 * r + k < 2 ^ 31 by omega), (hc.2.2.2.1 (6 * r + k) (by omega)).1, kV_r, kV_x, kI_r, kI_x, kR_r, kF_r, kD_r, forall_eq, not_true_eq_false, not_false_eq_true, false_implies, true_implies, true_and, and_true, b2i_0, b2i_1, b2i_01, b2i_t, b2i_f, decide_true, decide_false, Bool.not_true, Bool.not_false, i1_0]
    all_goals simp
  simp only [eq_false (nI_pos (show r < 2 ^ 31 by omega)), eq_false (nI_pos (show k < 2 ^ 31 by omega)), hc.1.1, hR.1, le_no hr (show nR s < 2 ^ 31 by omega), show ((6 : Int32) ≤ nI k) = False from le_no (b := 6) hk6 (by omega), kV_r, kV_x, kI_r, kI_x, kR_r, kF_r, kD_r, forall_eq, not_true_eq_false, not_false_eq_true, false_implies, true_implies, true_and, and_true, b2i_0, b2i_1, b2i_01, b2i_t, b2i_f, decide_true, decide_false, Bool.not_true, Bool.not_false, i1_0]
  exact hj
theorem c_doorP {p : Nat} (hc : Cp d p s) (hk : Ok s) {r k : Nat} (hr : r < nR s) (hk6 : k < 6) (Q : ax_P) : CT 59 [ax_vR 3 p 0, Sum.inl (nI r), Sum.inl (nI k)] d Q ↔ Q d (Sum.inl (some (Sum.inl (s (63 + (6 * r + k)))))) := by
  have hR := Pk_R hk.1
  refine ct_iff (w59 _ _ _ ?_) Q
  have hj : h59_27 p (nI r) (nI k) 1 d (fun d' q => d' = d ∧ q = Sum.inl (some (Sum.inl (s (63 + (6 * r + k)))))) := by
    refine w59_27 _ _ _ _ ?_
    simp only [e6m, ax_in_nI (show 6 * r + k < 48 by omega) (by omega), nI_clamp (show 6 * r + k < 2 ^ 31 by omega), (hc.2.2.2.1 (6 * r + k) (by omega)).2, kV_r, kV_x, kI_r, kI_x, kR_r, kF_r, kD_r, forall_eq, not_true_eq_false, not_false_eq_true, false_implies, true_implies, true_and, and_true, b2i_0, b2i_1, b2i_01, b2i_t, b2i_f, decide_true, decide_false, Bool.not_true, Bool.not_false, i1_0]
    all_goals simp
  simp only [eq_false (nI_pos (show r < 2 ^ 31 by omega)), eq_false (nI_pos (show k < 2 ^ 31 by omega)), hc.1.1, hR.1, le_no hr (show nR s < 2 ^ 31 by omega), show ((6 : Int32) ≤ nI k) = False from le_no (b := 6) hk6 (by omega), kV_r, kV_x, kI_r, kI_x, kR_r, kF_r, kD_r, forall_eq, not_true_eq_false, not_false_eq_true, false_implies, true_implies, true_and, and_true, b2i_0, b2i_1, b2i_01, b2i_t, b2i_f, decide_true, decide_false, Bool.not_true, Bool.not_false, i1_0]
  exact hj
end CI
