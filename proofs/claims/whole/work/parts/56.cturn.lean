/-! the class's turn: daemons and lamps -/
theorem log_upd {s : Row} {k : Nat} (hk : k < 6) (x v : Int32) : logS (upd s (323 + k) x) v = upd (logS s v) (323 + k) x := by
  unfold logS
  rw [upd_n (show 6 ≠ 323 + k by omega)]
  cases decide (s 6 = 40) with
  | true =>
    show upd (shE (upd s (323 + k) x) 39) 368 v = upd (upd (shE s 39) 368 v) (323 + k) x
    rw [upd_c (show 368 ≠ 323 + k by omega)]
    congr 1
    funext j
    unfold shE
    by_cases e : j = 323 + k
    · subst e
      rw [upd_s, if_neg (by omega), upd_s]
    · rw [upd_n e]
      by_cases e2 : 329 ≤ j ∧ j < 329 + 39
      · rw [if_pos e2, upd_n (show j + 1 ≠ 323 + k by omega), upd_n e]
        exact (if_pos e2).symm
      · rw [if_neg e2, upd_n e]
        exact (if_neg e2).symm
  | false =>
    show upd (upd (upd s (323 + k) x) 6 (s 6 + 1)) (329 + (s 6).toNatClampNeg) v = upd (upd (upd s 6 (s 6 + 1)) (329 + (s 6).toNatClampNeg) v) (323 + k) x
    rw [upd_c (show 329 + (s 6).toNatClampNeg ≠ 323 + k by omega), upd_c (show 323 + k ≠ 6 by omega)]
theorem log_c {s : Row} {k : Nat} (hk : k < 6) (v : Int32) : logS s v (323 + k) = s (323 + k) := by
  unfold logS
  cases decide (s 6 = 40) with
  | true =>
    show upd (shE s 39) 368 v (323 + k) = _
    rw [upd_n (by omega)]
    unfold shE
    rw [if_neg (by omega)]
  | false =>
    show upd (upd s 6 _) (329 + (s 6).toNatClampNeg) v (323 + k) = _
    rw [upd_n (by omega), upd_n (by omega)]
/-- what a daemon's act leaves behind, before it is counted -/
def RunA (s : Row) (k : Nat) (b : Bool) (r : Row) : Prop := (b = false ∧ r = s ∧ stirA s k = s) ∨ (b = true ∧ ∃ x v, r = logS x v ∧ stirA s k = causeS x k v)
theorem RunA_eq {s r : Row} {k : Nat} {b : Bool} (hk : k < 6) (h : RunA s k b r) : stirA s k = upd r (323 + k) (r (323 + k) + b2i b) := by
  rcases h with ⟨rfl, rfl, e⟩ | ⟨rfl, x, v, rfl, e⟩
  · rw [e]
    show r = upd r (323 + k) (r (323 + k) + 0)
    rw [show r (323 + k) + 0 = r (323 + k) by simp, upd_id]
  · rw [e]
    unfold causeS
    rw [log_upd hk, log_c hk]
    rfl
theorem h100' (c t : Nat) : nI c * nI 100 + nI t = nI (100 * c + t) := by rw [pk_mul, nI_add, Nat.mul_comm]
section CT2
variable {d : ax_D} {a : Nat} {s : Row}
theorem c_noteW (h : CC d (ax_wA a) s) (hp : s 3 = 1) (c t : Nat) (Q : ax_P) (hQ : ∀ d', Fr (sW (ax_wA a)) d d' → CC d' (ax_wA a) (logS s (nI (100 * c + t))) → Q d' (Sum.inl none)) : CT 84 [ax_vR 7 (ax_wA a) 0, Sum.inl (nI c), Sum.inl (nI t)] d Q := by
  refine c_note h hp (nI c) (nI t) Q (fun d' f hc => hQ d' f ?_)
  rw [← h100']
  exact hc
theorem c_shut (h : CC d (ax_wA a) s) (hp : s 3 = 1) {t : Nat} (ht : t < nT s) (Q : ax_P) (h0 : hasF s t 1 = false → Q d (Sum.inl (some (Sum.inl 0)))) (h1 : hasF s t 1 = true → ∀ d', Fr (sW (ax_wA a)) d d' → CC d' (ax_wA a) (logS (sets s t 1 false) (nI (100 + t))) → Q d' (Sum.inl (some (Sum.inl 1)))) : CT 88 [ax_vR 1 a 0, Sum.inl (nI t)] d Q := by
  refine w88 _ _ ?_
  have hl := Ok_lt h.2.2 ht
  simp only [c_has h.2.1 hl, kV_r, kV_x, kI_r, kI_x, kR_r, kF_r, kD_r, forall_eq, not_true_eq_false, not_false_eq_true, false_implies, true_implies, true_and, and_true, b2i_0, b2i_1, b2i_01, b2i_t, b2i_f, decide_true, decide_false, Bool.not_true, Bool.not_false, i1_0]
  refine ⟨h0, fun g => ?_⟩
  have g : hasF s t 1 = true := by simpa using g
  have hf : FlOk s t 1 (!decide ((0 : Int32) = 0)) := ⟨by omega, fun e => by cases e⟩
  refine c_mark (f := 1) h ht hf _ (fun d1 f1 c1 => ?_)
  have gs := Gd_sets h.2.2 hp (f := 1) (on := false) ht ⟨by omega, fun e => by cases e⟩
  refine c_noteW (s := sets s t 1 false) c1 gs.2.2 1 t _ (fun d2 f2 c2 => ?_)
  exact h1 g d2 (Fr_trans f1 f2) c2
theorem c_tog (h : CC d (ax_wA a) s) (hp : s 3 = 1) {t : Nat} (ht : t < nT s) (hk3 : s (111 + t) = 3) (Q : ax_P) (h0 : hasF s t 4 = false → s (207 + t) = 0 → Q d (Sum.inl (some (Sum.inl 0))))
    (h1 : hasF s t 4 = true → ∀ d', Fr (sW (ax_wA a)) d d' → CC d' (ax_wA a) (logS (sets s t 4 false) (nI (500 + t))) → Q d' (Sum.inl (some (Sum.inl 1))))
    (h2 : hasF s t 4 = false → ¬ s (207 + t) = 0 → ∀ d', Fr (sW (ax_wA a)) d d' → CC d' (ax_wA a) (logS (sets s t 4 true) (nI (400 + t))) → Q d' (Sum.inl (some (Sum.inl 1)))) : CT 89 [ax_vR 1 a 0, Sum.inl (nI t)] d Q := by
  have hl := Ok_lt h.2.2 ht
  have hpw := pW_wA a
  have b1 : hasF s t 4 = true → h89_56 a (nI t) (b2i true) 0 4 (nI t) (ax_wA a) d Q := fun g => by
    refine w89_56 _ _ _ _ _ _ _ ?_
    have hf : FlOk s t 4 (!decide ((0 : Int32) = 0)) := ⟨by omega, fun e => by cases e⟩
    refine c_mark (f := 4) h ht hf _ (fun d1 f1 c1 => ?_)
    have gs := Gd_sets h.2.2 hp (f := 4) (on := false) ht ⟨by omega, fun e => by cases e⟩
    refine ⟨fun x => absurd x (by decide), fun _ => ?_⟩
    exact c_noteW (s := sets s t 4 false) c1 gs.2.2 5 t _ (fun d2 f2 c2 => h1 g d2 (Fr_trans f1 f2) c2)
  have b2 : hasF s t 4 = false → ¬ s (207 + t) = 0 → h89_56 a (nI t) (b2i false) 1 4 (nI t) (ax_wA a) d Q := fun g g2 => by
    refine w89_56 _ _ _ _ _ _ _ ?_
    have hf : FlOk s t 4 (!decide ((1 : Int32) = 0)) := ⟨by omega, fun _ => ⟨fun x => by omega, fun x => by omega, fun x => by omega, fun _ => ⟨hk3, g2⟩⟩⟩
    refine c_mark (f := 4) h ht hf _ (fun d1 f1 c1 => ?_)
    have gs := Gd_sets h.2.2 hp (f := 4) (on := true) ht ⟨by omega, fun _ => ⟨fun x => by omega, fun x => by omega, fun x => by omega, fun _ => ⟨hk3, g2⟩⟩⟩
    refine ⟨fun _ => ?_, fun x => absurd rfl x⟩
    exact c_noteW (s := sets s t 4 true) c1 gs.2.2 4 t _ (fun d2 f2 c2 => h2 g g2 d2 (Fr_trans f1 f2) c2)
  refine w89 _ _ ?_
  simp only [c_isTh' (CC0 h).1.2.1 h.2.2, isTh_nI h.2.2 ht, c_has h.2.1 hl, ax_in_nI hl (by omega), nI_clamp (show t < 2 ^ 31 by omega), (h.2.1.1 t hl).2.2.2, kV_r, kV_x, kI_r, kI_x, kR_r, kF_r, kD_r, forall_eq, not_true_eq_false, not_false_eq_true, false_implies, true_implies, true_and, and_true, b2i_0, b2i_1, b2i_01, b2i_t, b2i_f, decide_true, decide_false, Bool.not_true, Bool.not_false, i1_0]
  refine ⟨fun g => ⟨fun g2 => h0 g g2, fun g2 => ⟨fun _ => ?_, fun x => absurd g x⟩⟩, fun g => ⟨fun x => absurd x g, fun _ => ?_⟩⟩
  · have := b2 g g2
    rw [g]
    exact this
  · have g : hasF s t 4 = true := by simpa using g
    have := b1 g
    rw [g]
    exact this
theorem c_gath (h : CC d (ax_wA a) s) (hp : s 3 = 1) {k : Nat} (hk : k < nD s) (hc2 : s (287 + k) = 2) (Q : ax_P) (hQ : ∀ d' b r, RunA s k b r → Fr (sW (ax_wA a)) d d' → CC d' (ax_wA a) r → Q d' (Sum.inl (some (Sum.inl (b2i b))))) : CT 86 [ax_vR 1 a 0, Sum.inl (nI (dT s k))] d Q := by
  obtain ⟨d1, d2, d3, -⟩ := dk h.2.2 hk
  have hT := Ok_T h.2.2
  have hl := Ok_lt h.2.2 d2
  have hsA : stirA s k = gathS s k := by
    unfold stirA
    rw [hc2]
    rfl
  have no : gathS s k = s → Q d (Sum.inl (some (Sum.inl 0))) := fun e => hQ d false s (Or.inl ⟨rfl, rfl, hsA.trans e⟩) (Fr_refl d) h
  have h00 : gathS s k = s → h86_43 a (nI (dT s k)) 0 0 d Q := fun e => w86_43 _ _ _ _ ⟨fun _ => no e, fun x => absurd rfl x⟩
  refine w86 _ _ ?_
  simp only [c_isTh' (CC0 h).1.2.1 h.2.2, isTh_nI h.2.2 d2, c_has h.2.1 hl, ax_in_nI hl (by omega), nI_clamp (show dT s k < 2 ^ 31 by omega), (h.2.1.1 _ hl).1, kV_r, kV_x, kI_r, kI_x, kR_r, kF_r, kD_r, forall_eq, not_true_eq_false, not_false_eq_true, false_implies, true_implies, true_and, and_true, b2i_0, b2i_1, b2i_01, b2i_t, b2i_f, decide_true, decide_false, Bool.not_true, Bool.not_false, i1_0]
  refine ⟨fun g => h00 ?_, fun g => ⟨fun g2 => ?_, fun g2 => h00 ?_⟩⟩
  · unfold gathS
    rw [g, Bool.and_false]
    rfl
  · have g : hasF s (dT s k) 1 = true := by simpa using g
    have hg : gathS s k = (match first (gathP s (dT s k)) (nT s) with
      | none => s
      | some t => causeS (moves s t 1 (nI (dT s k))) k (nI (300 + t))) := by
      unfold gathS
      rw [g, decide_eq_true g2]
      rfl
    have key := lp_up (fun i => (∀ z, z < i → gathP s (dT s k) z = false) → h86_43 a (nI (dT s k)) 1 (nI i) d Q) (nT s) ?_ ?_ 0 (by omega)
    · exact key (fun z hz => by omega)
    · intro hz
      have hf : first (gathP s (dT s k)) (nT s) = none := by
        cases hf : first (gathP s (dT s k)) (nT s) with
        | none => rfl
        | some t =>
          obtain ⟨f1, f2, -⟩ := first_some hf
          rw [hz t f1] at f2
          cases f2
      refine w86_43 _ _ _ _ ⟨fun x => absurd x (by decide), fun _ => ?_⟩
      rw [CC0_T h]
      refine ⟨fun _ => no ?_, fun x => absurd (nI_le (Nat.le_refl _) (by omega)) x⟩
      rw [hg, hf]
    · intro i hi ih hz
      have hil := Ok_lt h.2.2 hi
      have e : (nI i = nI (dT s k)) = (i = dT s k) := propext (nI_eq (by omega) (by omega))
      have hgp : gathP s (dT s k) i = (!Nat.beq i (dT s k) && (isAtS s i 0 (s (271 + dT s k)) && (!fast s i && !decide (s (175 + dT s k) < nI (filled s (nI (dT s k)) (-1) + sz s i))))) := rfl
      have nxt : gathP s (dT s k) i = false → h86_43 a (nI (dT s k)) 1 (nI i + 1) d Q := fun x => by
        rw [nI_1]
        exact ih (fun z hz2 => by
          by_cases e : z = i
          · rw [e]; exact x
          · exact hz z (by omega))
      have h100a : h86_100 a (nI (dT s k)) 1 (nI i) (b2i (!Nat.beq i (dT s k) && (!fast s i && isAtS s i 0 (s (271 + dT s k))))) d Q := by
        refine w86_100 _ _ _ _ _ ?_
        simp only [c_fits h hi d2, kV_r, kV_x, kI_r, kI_x, kR_r, kF_r, kD_r, forall_eq, not_true_eq_false, not_false_eq_true, false_implies, true_implies, true_and, and_true, b2i_0, b2i_1, b2i_01, b2i_t, b2i_f, decide_true, decide_false, Bool.not_true, Bool.not_false, i1_0]
        refine ⟨fun c1 => nxt ?_, fun c1 => ⟨fun c2 => nxt ?_, fun c2 => ?_⟩⟩
        · rw [hgp]
          cases x1 : Nat.beq i (dT s k) <;> cases x2 : fast s i <;> cases x3 : isAtS s i 0 (s (271 + dT s k)) <;> simp_all
        · rw [Bool.not_eq_false, Bool.and_eq_true, Bool.and_eq_true] at c1
          have hrm : held s i = false := by
            have := c1.2.2
            rw [isAt0, Bool.and_eq_true] at this
            have := of_decide_eq_true this.1
            exact held_f (by rw [this]; decide) (by rw [this]; decide)
          have hfb := filled_but (q := dT s k) h.2.2 hi
          rw [hrm, Bool.false_and, cond_false, Nat.add_zero] at hfb
          rw [hgp, hfb]
          rw [c2]
          simp
        · rw [Bool.not_eq_false, Bool.and_eq_true, Bool.and_eq_true] at c1
          have hne : i ≠ dT s k := fun x => by
            rw [x, Nat.beq_refl] at c1
            cases c1.1
          have hrm : held s i = false := by
            have := c1.2.2
            rw [isAt0, Bool.and_eq_true] at this
            have := of_decide_eq_true this.1
            exact held_f (by rw [this]; decide) (by rw [this]; decide)
          have hfb := filled_but (q := dT s k) h.2.2 hi
          rw [hrm, Bool.false_and, cond_false, Nat.add_zero] at hfb
          have hgt : gathP s (dT s k) i = true := by
            rw [Bool.not_eq_false] at c2
            rw [hgp, c1.1, c1.2.1, c1.2.2, hfb, c2]
            rfl
          have hf : first (gathP s (dT s k)) (nT s) = some i := by
            cases hf : first (gathP s (dT s k)) (nT s) with
            | none => rw [first_none hf i hi] at hgt; cases hgt
            | some t =>
              obtain ⟨f1, f2, f3⟩ := first_some hf
              rcases Nat.lt_trichotomy t i with x | x | x
              · rw [hz t x] at f2; cases f2
              · rw [x]
              · rw [f3 i x] at hgt; cases hgt
          have hi0 : inside s (dT s k) i = false := by
            rw [inside_0 (held_f (by rw [g2]; decide) (by rw [g2]; decide))]
            exact ax_beq_ne (fun x => hne x.symm)
          have hm : MvOk s i 1 (nI (dT s k)) := ⟨hi, Or.inr (Or.inl ⟨rfl, dT s k, d2, rfl, d3 hc2, hi0⟩)⟩
          have gm := Gd_moves h.2.2 hp hm
          refine c_move h hm _ (fun d3 f3 c3 => ?_)
          refine c_noteW c3 gm.2.2 3 i _ (fun d4 f4 c4 => ?_)
          refine hQ d4 true _ (Or.inr ⟨rfl, moves s i 1 (nI (dT s k)), nI (300 + i), rfl, ?_⟩) (Fr_trans f3 f4) c4
          rw [hsA, hg, hf]
      refine w86_43 _ _ _ _ ⟨fun x => absurd x (by decide), fun _ => ?_⟩
      rw [CC0_T h]
      refine ⟨fun x => absurd x (nI_ge hi (by omega)), fun _ => ?_⟩
      simp only [e, c_mov h hi, ax_in_nI hl (by omega), nI_clamp (show dT s k < 2 ^ 31 by omega), (h.2.1.1 _ hl).2.1, c_isAt h.2.1 h.2.2 hi, kV_r, kV_x, kI_r, kI_x, kR_r, kF_r, kD_r, forall_eq, not_true_eq_false, not_false_eq_true, false_implies, true_implies, true_and, and_true, b2i_0, b2i_1, b2i_01, b2i_t, b2i_f, decide_true, decide_false, Bool.not_true, Bool.not_false, i1_0]
      refine ⟨fun c1 => ?_, fun c1 => ⟨fun c2 => ?_, fun c2 => ⟨fun c3 => ?_, fun c3 => ?_⟩⟩⟩
      · rw [c1, Nat.beq_refl] at h100a
        rw [c1]
        exact h100a
      · rw [ax_beq_ne c1, c2] at h100a
        exact h100a
      · rw [Bool.not_eq_false] at c2
        rw [ax_beq_ne c1, c2, c3] at h100a
        exact h100a
      · rw [Bool.not_eq_false] at c2 c3
        rw [ax_beq_ne c1, c2, c3] at h100a
        exact h100a
  · unfold gathS
    rw [decide_eq_false g2]
    rfl
theorem c_wand (h : CC d (ax_wA a) s) (hp : s 3 = 1) {k : Nat} (hk : k < nD s) (hc1 : s (287 + k) = 1) (Q : ax_P) (hQ : ∀ d' b r, RunA s k b r → Fr (sW (ax_wA a)) d d' → CC d' (ax_wA a) r → Q d' (Sum.inl (some (Sum.inl (b2i b))))) : CT 87 [ax_vR 1 a 0, Sum.inl (nI k), Sum.inl (nI (dT s k))] d Q := by
  obtain ⟨d1, d2, -⟩ := dk h.2.2 hk
  have hD := (Pk_D h.2.2.1).2
  have hR := (Pk_R h.2.2.1).2
  have hl := Ok_lt h.2.2 d2
  obtain ⟨w1, w2⟩ := dW_lt h.2.2 hp hk
  have hsA : stirA s k = wandS s k := by
    unfold stirA
    rw [hc1]
    rfl
  have no : wandS s k = s → Q d (Sum.inl (some (Sum.inl 0))) := fun e => hQ d false s (Or.inl ⟨rfl, rfl, hsA.trans e⟩) (Fr_refl d) h
  refine w87 _ _ _ ?_
  simp only [c_isTh' (CC0 h).1.2.1 h.2.2, isTh_nI h.2.2 d2, ax_in_nI hl (by omega), nI_clamp (show dT s k < 2 ^ 31 by omega), (h.2.1.1 _ hl).1, (h.2.1.1 _ hl).2.1, kV_r, kV_x, kI_r, kI_x, kR_r, kF_r, kD_r, forall_eq, not_true_eq_false, not_false_eq_true, false_implies, true_implies, true_and, and_true, b2i_0, b2i_1, b2i_01, b2i_t, b2i_f, decide_true, decide_false, Bool.not_true, Bool.not_false, i1_0]
  refine ⟨fun g => ?_, fun g => no ?_⟩
  · obtain ⟨r1, r2⟩ := par_room h.2.2 d2 g
    have hg : wandS s k = (match first (fun i => goes s (wandE s k (dT s k) i)) 6 with
      | none => s
      | some i => causeS (upd (upd s (271 + dT s k) (s (15 + wandE s k (dT s k) i))) (317 + k) (nI ((dW s k + i) % 6))) k (nI (200 + dT s k))) := by
      unfold wandS
      rw [decide_eq_true g]
      rfl
    rw [r2]
    have key := lp_up (fun i => (∀ z, z < i → goes s (wandE s k (dT s k) z) = false) → h87_38 a (nI k) (nI (dT s k)) (nI (par s (dT s k))) (nI i) d Q) 6 ?_ ?_ 0 (by omega)
    · exact key (fun z hz => by omega)
    · intro hz
      have hf : first (fun i => goes s (wandE s k (dT s k) i)) 6 = none := by
        cases hf : first (fun i => goes s (wandE s k (dT s k) i)) 6 with
        | none => rfl
        | some t =>
          obtain ⟨f1, f2, -⟩ := first_some hf
          rw [hz t f1] at f2
          cases f2
      refine w87_38 _ _ _ _ _ ⟨fun _ => no ?_, fun x => absurd (by decide) x⟩
      rw [hg, hf]
    · intro i hi ih hz
      have hm : (dW s k + i) % 6 < 6 := Nat.mod_lt _ (by decide)
      have hnw := ((h.2.1.2.2.2 hp k hk)).2.2
      have hway : (nI (dW s k % 6) + nI i) - (nI (dW s k % 6) + nI i) / 6 * 6 = nI ((dW s k + i) % 6) := by
        rw [nI_add]
        have := pk_rem (a := dW s k % 6 + i) (d := 6) (by omega) (by decide) (by decide)
        rw [show (dW s k + i) % 6 = (dW s k % 6 + i) % 6 by omega]
        exact this
      have hway2 : (nI ((dW s k + i) % 6) + 1) - (nI ((dW s k + i) % 6) + 1) / 6 * 6 = nI (((dW s k + i) % 6 + 1) % 6) := by
        rw [nI_1]
        exact pk_rem (a := (dW s k + i) % 6 + 1) (d := 6) (by omega) (by decide) (by decide)
      refine w87_38 _ _ _ _ _ ⟨fun x => absurd x (nI_ge (b := 6) hi (by omega)), fun _ => ?_⟩
      simp only [ax_in_nI (show k < 6 by omega) (by omega), nI_clamp (show k < 2 ^ 31 by omega), hnw, hway, hway2, c_pass h r1 hm, c_exitP (CC0 h) h.2.2 r1 hm, kV_r, kV_x, kI_r, kI_x, kR_r, kF_r, kD_r, forall_eq, not_true_eq_false, not_false_eq_true, false_implies, true_implies, true_and, and_true, b2i_0, b2i_1, b2i_01, b2i_t, b2i_f, decide_true, decide_false, Bool.not_true, Bool.not_false, i1_0]
      refine ⟨fun c1 => ?_, fun c1 => ?_⟩
      · rw [nI_1]
        exact ih (fun z hz2 => by
          by_cases e : z = i
          · rw [e]; exact c1
          · exact hz z (by omega))
      · rw [Bool.not_eq_false] at c1
        have hgi : goes s (wandE s k (dT s k) i) = true := c1
        have hf : first (fun i => goes s (wandE s k (dT s k) i)) 6 = some i := by
          cases hf : first (fun i => goes s (wandE s k (dT s k) i)) 6 with
          | none =>
            have := first_none hf i hi
            have this : goes s (wandE s k (dT s k) i) = false := this
            rw [this] at hgi
            cases hgi
          | some t =>
            obtain ⟨f1, f2, f3⟩ := first_some hf
            rcases Nat.lt_trichotomy t i with x | x | x
            · rw [hz t x] at f2; cases f2
            · rw [x]
            · have f3 : goes s (wandE s k (dT s k) i) = false := f3 i x
              rw [f3] at hgi; cases hgi
        have g1 : ¬ s (15 + (6 * par s (dT s k) + (dW s k + i) % 6)) = -1 := fun e => by
          unfold goes at c1
          rw [decide_eq_true e] at c1
          cases c1
        rcases (h.2.2.1.2.1 (par s (dT s k)) r1 ((dW s k + i) % 6) hm).1 with hx | ⟨q, q1, q2⟩
        · exact absurd hx g1
        · have hmv : MvOk s (dT s k) 0 (nI q) := ⟨d2, Or.inl ⟨rfl, q, q1, rfl⟩⟩
          have e2 : upd s (271 + dT s k) (s (15 + wandE s k (dT s k) i)) = moves s (dT s k) 0 (nI q) := by
            unfold moves mvT
            rw [if_pos (by decide), show s (15 + wandE s k (dT s k) i) = nI q from q2]
            congr 1
            rw [← g, upd_id]
          have gm := Gd_moves h.2.2 hp hmv
          have gw := Gd_upd gm.1 (k := 317 + k) (nI ((dW s k + i) % 6)) (by omega) gm.2.2 (fun x => by omega) (fun _ _ => Or.inr ⟨_, hm, rfl⟩)
          rw [q2]
          refine c_move h hmv _ (fun d3 f3 c3 => ?_)
          suffices hfin : ∀ d4, d4 = ax_set d3 7 (ax_wA a) 8 (upd (ax_row d3 7 (ax_wA a) 8) k (nI (((dW s k + i) % 6 + 1) % 6))) → CT 84 [ax_vR 7 (ax_wA a) 0, Sum.inl 2, Sum.inl (nI (dT s k))] d4 (kV (fun d7 => Q d7 (Sum.inl (some (Sum.inl 1)))) (fun E d => Q d (Sum.inr E))) from hfin _ rfl
          intro d4 e4
          have hD3 : nD (moves s (dT s k) 0 (nI q)) ≤ 6 := (Pk_D gm.1.1).2
          have q8 := Cw_u8 c3.2.1 hD3 (show k < 6 by omega) hm
          rw [← e4] at q8
          have f4 : Fr (sW (ax_wA a)) d3 d4 := by rw [e4]; exact Fr_set (by decide) ⟨rfl, rfl⟩ _ _ _
          have c4 : CC d4 (ax_wA a) (upd (moves s (dT s k) 0 (nI q)) (317 + k) (nI ((dW s k + i) % 6))) := ⟨Cp_SP (Cp_Fr f4 (fun x => by cases x.1) c3.1) gw.2.1, q8, gw.1⟩
          refine c_noteW c4 gw.2.2 2 (dT s k) _ (fun d5 f5 c5 => ?_)
          refine hQ d5 true _ (Or.inr ⟨rfl, _, _, rfl, ?_⟩) (Fr_trans f3 (Fr_trans f4 f5)) c5
          rw [hsA, hg, hf]
          show causeS (upd (upd s (271 + dT s k) (s (15 + wandE s k (dT s k) i))) (317 + k) (nI ((dW s k + i) % 6))) k (nI (200 + dT s k)) = _
          rw [e2]
  · unfold wandS
    rw [decide_eq_false g]
    rfl
/-- the count and the next time -/
theorem c_runE (hp : s 3 = 1) (hs : Ok s) {k : Nat} (hk : k < nD s) {b : Bool} {r : Row} (hr : RunA s k b r) (h : CC d (ax_wA a) r) (v2 v3 : Int32) (Q : ax_P) (hQ : ∀ d', Fr (sW (ax_wA a)) d d' → CC d' (ax_wA a) (stirS s k) → Q d' (Sum.inl none)) : h90_97 a (nI k) v2 v3 (b2i b) (ax_row d 7 (ax_wA a) 7 k) (nI k) (ax_wA a) d Q := by
  have hD := (Pk_D hs.1).2
  have hk6 : k < 6 := by omega
  have hA := Gd_stirA hs hp hk
  have eA := RunA_eq hk6 hr
  have hrp : r 3 = 1 := by
    have := hA.2.2
    rw [eA, upd_n (by omega)] at this
    exact this
  have hDr : nD r ≤ 6 := (Pk_D h.2.2.1).2
  have hkr : k < nD r := by
    have e1 : nD (stirA s k) = nD s := SP_D hA.2.1
    rw [eA] at e1
    unfold nD at e1 hk ⊢
    rw [upd_n (by omega)] at e1
    omega
  have hc := (h.2.1.2.2.2 hrp k hkr).2.1
  refine w90_97 _ _ _ _ _ _ _ _ ⟨ax_in_nI hk6 (by omega), fun d1 e1 => ?_⟩
  rw [nI_clamp (show k < 2 ^ 31 by omega), hc] at e1
  have f1 : Fr (sW (ax_wA a)) d d1 := by rw [e1]; exact Fr_set (by decide) ⟨rfl, rfl⟩ _ _ _
  have q1 := Cw_u7 h.2.1 hDr hk6 (r (323 + k) + b2i b)
  rw [← e1, ← eA] at q1
  obtain ⟨-, sp1, -⟩ := Ok_upd h.2.2 (k := 323 + k) (r (323 + k) + b2i b) (by omega) hrp (fun x => by omega) (fun x => by omega)
  have cp1 : Cp d1 0 (stirA s k) := by
    have := Cp_SP (Cp_Fr f1 (fun x => by cases x.1) (CC0 h)) sp1
    rw [← eA] at this
    exact this
  have hDA : nD (stirA s k) ≤ 6 := (Pk_D hA.1.1).2
  have cc1 : CC d1 (ax_wA a) (stirA s k) := ⟨by rw [pW_wA]; exact cp1, q1, hA.1⟩
  have hon := cp1.2.2.1 k hk6
  have gE := Gd_upd hA.1 (k := 311 + k) (cond (decide (stirA s k (305 + k) = 1)) (-1) (stirA s k 4 + stirA s k (299 + k))) (by omega) hA.2.2 (fun x => by omega) (fun x => by omega)
  have fin : ∀ d2 x, x = cond (decide (stirA s k (305 + k) = 1)) (-1) (stirA s k 4 + stirA s k (299 + k)) → d2 = ax_set d1 7 (ax_wA a) 6 (upd (ax_row d1 7 (ax_wA a) 6) k x) → Q d2 (Sum.inl none) := by
    intro d2 x ex e2
    have f2 : Fr (sW (ax_wA a)) d1 d2 := by rw [e2]; exact Fr_set (by decide) ⟨rfl, rfl⟩ _ _ _
    have q2 := Cw_u6 q1 hDA hk6 x
    rw [← e2, ex] at q2
    exact hQ d2 (Fr_trans f1 f2) ⟨Cp_SP (Cp_Fr f2 (fun x => by cases x.1) cc1.1) gE.2.1, q2, gE.1⟩
  simp only [c_cont (show k < 16 by omega), ax_in_nI hk6 (by omega), nI_clamp (show k < 2 ^ 31 by omega), kV_r, kV_x, kI_r, kI_x, kR_r, kF_r, kD_r, forall_eq, not_true_eq_false, not_false_eq_true, false_implies, true_implies, true_and, and_true, b2i_0, b2i_1, b2i_01, b2i_t, b2i_f, decide_true, decide_false, Bool.not_true, Bool.not_false, i1_0]
  refine ⟨fun g => ?_, fun g => ?_⟩
  · have e5 : stirA s k (305 + k) = 0 := by rw [hon, g]; rfl
    have h10 := q1.2.1.2.2
    have h17 := (cp1.2.2.2.2.2 k hk6).2.2
    rw [h10, h17]
    exact fin _ _ (by rw [e5]; rfl) rfl
  · rw [Bool.not_eq_false] at g
    have e5 : stirA s k (305 + k) = 1 := by rw [hon, g]; rfl
    exact fin _ _ (by rw [e5]; rfl) rfl
theorem c_run (h : CC d (ax_wA a) s) (hp : s 3 = 1) {k : Nat} (hk : k < nD s) (Q : ax_P) (hQ : ∀ d', Fr (sW (ax_wA a)) d d' → CC d' (ax_wA a) (stirS s k) → Q d' (Sum.inl none)) : CT 90 [ax_vR 1 a 0, Sum.inl (nI k)] d Q := by
  have hD := (Pk_D h.2.2.1).2
  have hk6 : k < 6 := by omega
  obtain ⟨d1, d2, d3, d4⟩ := dk h.2.2 hk
  obtain ⟨r15, r16, r17⟩ := (CC0 h).2.2.2.2.2 k hk6
  obtain ⟨⟨kk, hkk, ek⟩, -⟩ := h.2.2.1.2.2.2.1 k hk
  have run : ∀ d' b r, RunA s k b r → Fr (sW (ax_wA a)) d d' → CC d' (ax_wA a) r → ∀ v2 v3, h90_97 a (nI k) v2 v3 (b2i b) (ax_row d' 7 (ax_wA a) 7 k) (nI k) (ax_wA a) d' Q := fun d' b r hr f hc v2 v3 => c_runE hp h.2.2 hk hr hc v2 v3 Q (fun d2 f2 c2 => hQ d2 (Fr_trans f f2) c2)
  refine w90 _ _ ?_
  simp only [ax_in_nI hk6 (by omega), nI_clamp (show k < 2 ^ 31 by omega), r15, r16, d1, kV_r, kV_x, kI_r, kI_x, kR_r, kF_r, kD_r, forall_eq, not_true_eq_false, not_false_eq_true, false_implies, true_implies, true_and, and_true, b2i_0, b2i_1, b2i_01, b2i_t, b2i_f, decide_true, decide_false, Bool.not_true, Bool.not_false, i1_0]
  refine ⟨fun g0 => ?_, fun g0 => ⟨fun g1 => ?_, fun g1 => ⟨fun g2 => ?_, fun g2 => ?_⟩⟩⟩
  · have hsA : stirA s k = shutS s k := by unfold stirA; rw [decide_eq_true g0]; rfl
    refine c_shut h hp d2 _ (fun g => ?_) (fun g d' f c => ?_)
    · exact ⟨fun _ => run d false s (Or.inl ⟨rfl, rfl, by rw [hsA]; unfold shutS; rw [g]; rfl⟩) (Fr_refl d) h _ _, fun x => absurd rfl x⟩
    · exact ⟨fun x => absurd x (by decide), fun _ => run d' true _ (Or.inr ⟨rfl, _, _, rfl, by rw [hsA]; unfold shutS; rw [g]; rfl⟩) f c _ _⟩
  · refine c_wand h hp hk g1 _ (fun d' b r hr f c => ?_)
    cases b with
    | false => exact ⟨fun _ => run d' false r hr f c _ _, fun x => absurd rfl x⟩
    | true => exact ⟨fun x => absurd x (by decide), fun _ => run d' true r hr f c _ _⟩
  · refine c_gath h hp hk g2 _ (fun d' b r hr f c => ?_)
    cases b with
    | false => exact ⟨fun _ => run d' false r hr f c _ _, fun x => absurd rfl x⟩
    | true => exact ⟨fun x => absurd x (by decide), fun _ => run d' true r hr f c _ _⟩
  · have hk3 : s (287 + k) = 3 := by
      rw [ek] at g0 g1 g2 ⊢
      have : kk ≠ 0 := fun x => g0 (by rw [x]; rfl)
      have : kk ≠ 1 := fun x => g1 (by rw [x]; rfl)
      have : kk ≠ 2 := fun x => g2 (by rw [x]; rfl)
      rw [show kk = 3 by omega]
      rfl
    have hsA : stirA s k = togS s k := by
      unfold stirA
      rw [decide_eq_false g0, decide_eq_false g1, decide_eq_false g2]
      rfl
    refine c_tog h hp d2 (d4 hk3) _ (fun g g5 => ?_) (fun g d' f c => ?_) (fun g g5 d' f c => ?_)
    · exact ⟨fun _ => run d false s (Or.inl ⟨rfl, rfl, by rw [hsA]; unfold togS; rw [g, decide_eq_true g5]; rfl⟩) (Fr_refl d) h _ _, fun x => absurd rfl x⟩
    · exact ⟨fun x => absurd x (by decide), fun _ => run d' true _ (Or.inr ⟨rfl, _, _, rfl, by rw [hsA]; unfold togS; rw [g]; rfl⟩) f c _ _⟩
    · exact ⟨fun x => absurd x (by decide), fun _ => run d' true _ (Or.inr ⟨rfl, _, _, rfl, by rw [hsA]; unfold togS; rw [g, decide_eq_false g5]; rfl⟩) f c _ _⟩
theorem c_burn (h : CC d (ax_wA a) s) (hp : s 3 = 1) {t : Nat} (ht : t < nT s) (hl4 : hasF s t 4 = true) (Q : ax_P) (hQ : ∀ d', Fr (sW (ax_wA a)) d d' → CC d' (ax_wA a) (burnS s t) → Q d' (Sum.inl none)) : CT 85 [ax_vR 1 a 0, Sum.inl (nI t)] d Q := by
  have hl := Ok_lt h.2.2 ht
  have hD := (Pk_D h.2.2.1).2
  have hfu := (h.2.1.1 t hl).2.2.2
  obtain ⟨-, ⟨f, hf, ef⟩, -, -, -, a6⟩ := (h.2.2.2.1 t ht).2
  have hf0 : f ≠ 0 := fun e => (a6 hl4).2 (by rw [ef, e]; rfl)
  have e1 : s (207 + t) - 1 = nI (f - 1) := by rw [ef]; exact pk_sub (a := f) (b := 1) (by omega)
  refine w85 _ _ ⟨ax_in_nI hl (by omega), ax_in_nI hl (by omega), fun d1 ed => ?_⟩
  rw [nI_clamp (show t < 2 ^ 31 by omega), hfu] at ed
  have f1 : Fr (sW (ax_wA a)) d d1 := by rw [ed]; exact Fr_set (by decide) ⟨rfl, rfl⟩ _ _ _
  have q1 := Cw_u5 h.2.1 hD hl (s (207 + t) - 1)
  rw [← ed] at q1
  have hrow : ax_row d1 7 (ax_wA a) 5 t = s (207 + t) - 1 := by rw [ed, row_s, upd_s]
  have hu : Cp d1 0 s := Cp_Fr f1 (fun x => by cases x.1) (CC0 h)
  unfold burnS at hQ
  refine ⟨ax_in_nI hl (by omega), ?_⟩
  rw [nI_clamp (show t < 2 ^ 31 by omega), hrow, e1]
  refine ⟨fun g => ?_, fun g => ?_⟩
  · have hz : ¬ s (207 + t) - 1 = 0 := by
      rw [e1]
      intro x
      rw [x] at g
      exact absurd g (by decide)
    rw [decide_eq_false hz] at hQ
    have gb := Gd_burn1 h.2.2 hp ht hl4 hz
    exact hQ d1 f1 ⟨by rw [pW_wA]; exact Cp_SP hu gb.2.1, q1, gb.1⟩
  · have hz : s (207 + t) - 1 = 0 := by
      rw [e1]
      rcases Nat.eq_zero_or_pos (f - 1) with x | x
      · rw [x]; rfl
      · exact absurd ((nI_ltI (a := 0) (b := f - 1) (by omega) (by omega)).mpr x) g
    rw [decide_eq_true hz] at hQ
    have gb := Gd_burn0 h.2.2 hp ht hl4 hz
    have hfl : ax_row d1 7 (ax_wA a) 4 t = upd s (207 + t) (s (207 + t) - 1) (239 + t) := (q1.1 t hl).2.2.1
    have hD1 : nD (upd s (207 + t) (s (207 + t) - 1)) ≤ 6 := by unfold nD at hD ⊢; rw [upd_n (by omega)]; exact hD
    refine w35 _ _ _ _ ?_
    rw [pW_wA]
    simp only [c_isTh' hu.1.2.1 h.2.2, isTh_nI h.2.2 ht, ax_in_nI hl (by omega), nI_clamp (show t < 2 ^ 31 by omega), hfl, c_with, kV_r, kV_x, kI_r, kI_x, kR_r, kF_r, kD_r, forall_eq, not_true_eq_false, not_false_eq_true, false_implies, true_implies, true_and, and_true, b2i_0, b2i_1, b2i_01, b2i_t, b2i_f, decide_true, decide_false, Bool.not_true, Bool.not_false, i1_0]
    have q2 := Cw_u4 q1 hD1 hl (wF (upd s (207 + t) (s (207 + t) - 1) (239 + t)) 4 false)
    have f2 : Fr (sW (ax_wA a)) d1 (ax_set d1 7 (ax_wA a) 4 (upd (ax_row d1 7 (ax_wA a) 4) t (wF (upd s (207 + t) (s (207 + t) - 1) (239 + t)) 4 false))) := Fr_set (by decide) ⟨rfl, rfl⟩ _ _ _
    have c2 : CC _ (ax_wA a) (sets (upd s (207 + t) (s (207 + t) - 1)) t 4 false) := ⟨by rw [pW_wA]; exact Cp_SP (Cp_Fr f2 (fun x => by cases x.1) hu) gb.2.1, q2, gb.1⟩
    exact c_noteW c2 gb.2.2 6 t _ (fun d3 f3 c3 => hQ d3 (Fr_trans f1 (Fr_trans f2 f3)) c3)
theorem c_endTurn (h : CC d (ax_wA a) s) (hp : s 3 = 1) (Q : ax_P) (hQ : ∀ d', Fr (sW (ax_wA a)) d d' → CC d' (ax_wA a) (passS s) → Q d' (Sum.inl none)) : CT 91 [ax_vR 1 a 0] d Q := by
  have hD := Pk_D h.2.2.1
  have hT := Ok_T h.2.2
  refine w91 _ (fun d1 ed => ?_)
  rw [h.2.1.2.1.2.2] at ed
  have f1 : Fr (sW (ax_wA a)) d d1 := by rw [ed]; exact Fr_set (by decide) ⟨rfl, rfl⟩ _ _ _
  have q1 := Cw_v10 h.2.1 hD.2 (s 4 + 1)
  rw [← ed] at q1
  have gt := Gd_tick h.2.2 hp
  have c1 : CC d1 (ax_wA a) (tick s) := ⟨Cp_SP (Cp_Fr f1 (fun x => by cases x.1) h.1) gt.2.1, q1, gt.1⟩
  have lamps : ∀ i, i ≤ nT s → ∀ d', Fr (sW (ax_wA a)) d d' → CC d' (ax_wA a) (foldN passL i (foldN passD (nD s) (tick s))) → h91_58 a (nI i) d' Q := by
    refine lp_up (fun i => ∀ d', Fr (sW (ax_wA a)) d d' → CC d' (ax_wA a) (foldN passL i (foldN passD (nD s) (tick s))) → h91_58 a (nI i) d' Q) (nT s) ?_ ?_
    · intro d' f c
      have ga := Gd_passLs h.2.2 hp (Nat.le_refl (nT s))
      refine w91_58 _ _ ?_
      rw [CC0_T c, SP_T ga.2.1]
      exact ⟨fun _ => hQ d' f c, fun x => absurd (nI_le (Nat.le_refl _) (by omega)) x⟩
    · intro i hi ih d' f c
      have ga := Gd_passLs h.2.2 hp (show i ≤ nT s by omega)
      rw [foldN_succ] at ih
      refine w91_58 _ _ ?_
      rw [CC0_T c, SP_T ga.2.1]
      generalize foldN passL i (foldN passD (nD s) (tick s)) = x at *
      have hix : i < nT x := by rw [SP_T ga.2.1]; exact hi
      refine ⟨fun y => absurd y (nI_ge hi (by omega)), fun _ => ?_⟩
      simp only [c_has c.2.1 (Ok_lt ga.1 hix), nI_1, kV_r, kV_x, kI_r, kI_x, kR_r, kF_r, kD_r, forall_eq, not_true_eq_false, not_false_eq_true, false_implies, true_implies, true_and, and_true, b2i_0, b2i_1, b2i_01, b2i_t, b2i_f, decide_true, decide_false, Bool.not_true, Bool.not_false, i1_0]
      refine ⟨fun g => ih d' f ?_, fun g => ?_⟩
      · unfold passL
        rw [g, Bool.and_false]
        exact c
      · rw [Bool.not_eq_false] at g
        refine c_burn c ga.2.2 hix g _ (fun d2 f2 c2 => ?_)
        refine ih d2 (Fr_trans f f2) ?_
        unfold passL
        rw [g, decide_eq_true ((ga.1.2.1 i hix).2.2.2.2.2.2 g).1]
        exact c2
  have days : ∀ i, i ≤ nD s → ∀ d', Fr (sW (ax_wA a)) d d' → CC d' (ax_wA a) (foldN passD i (tick s)) → h91_15 a (nI i) d' Q := by
    refine lp_up (fun i => ∀ d', Fr (sW (ax_wA a)) d d' → CC d' (ax_wA a) (foldN passD i (tick s)) → h91_15 a (nI i) d' Q) (nD s) ?_ ?_
    · intro d' f c
      have ga := Gd_passDs h.2.2 hp (Nat.le_refl (nD s))
      refine w91_15 _ _ ?_
      rw [(CC0 c).1.2.2, (Pk_D ga.1.1).1, SP_D ga.2.1]
      exact ⟨fun _ => lamps 0 (by omega) d' f c, fun x => absurd (nI_le (Nat.le_refl _) (by omega)) x⟩
    · intro i hi ih d' f c
      have ga := Gd_passDs h.2.2 hp (show i ≤ nD s by omega)
      rw [foldN_succ] at ih
      refine w91_15 _ _ ?_
      rw [(CC0 c).1.2.2, (Pk_D ga.1.1).1, SP_D ga.2.1]
      generalize foldN passD i (tick s) = x at *
      have hix : i < nD x := by rw [SP_D ga.2.1]; exact hi
      refine ⟨fun y => absurd y (nI_ge hi (by omega)), fun _ => ?_⟩
      simp only [ax_in_nI (show i < 6 by omega) (by omega), nI_clamp (show i < 2 ^ 31 by omega), (c.2.1.2.2.2 ga.2.2 i hix).1, c.2.1.2.1.2.2, nI_1, kV_r, kV_x, kI_r, kI_x, kR_r, kF_r, kD_r, forall_eq, not_true_eq_false, not_false_eq_true, false_implies, true_implies, true_and, and_true, b2i_0, b2i_1, b2i_01, b2i_t, b2i_f, decide_true, decide_false, Bool.not_true, Bool.not_false, i1_0]
      refine ⟨fun g => ?_, fun g => ih d' f ?_⟩
      · refine c_run c ga.2.2 hix _ (fun d2 f2 c2 => ?_)
        refine ih d2 (Fr_trans f f2) ?_
        unfold passD
        rw [decide_eq_true g]
        exact c2
      · unfold passD
        rw [decide_eq_false g]
        exact c
  exact days 0 (by omega) d1 f1 c1
end CT2
