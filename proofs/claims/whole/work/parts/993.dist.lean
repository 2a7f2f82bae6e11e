/-! distance -/
def edge (s : Row) (u w r : Nat) : Bool := goes s (6 * u + w) && decide (s (15 + (6 * u + w)) = nI r)
def NBk (s : Row) (R : Nat → Bool) (u w r : Nat) : Bool := anyN (fun u' => R u' && anyN (fun w' => edge s u' w' r) 6) u || (R u && anyN (fun w' => edge s u w' r) w)
def NB (s : Row) (R : Nat → Bool) (r : Nat) : Bool := NBk s R (nR s) 0 r
def RS (s : Row) (a : Nat) : Nat → Nat → Bool
  | 0, r => Nat.beq r a
  | n + 1, r => RS s a n r || NB s (RS s a n) r
def ES (s : Row) (a : Nat) : Nat → Nat → Bool
  | 0, r => RS s a 0 r
  | n + 1, r => RS s a (n + 1) r && !RS s a n r
def lab (s : Row) (a : Nat) : Nat → Nat → Int32
  | 0, _ => 0
  | n + 1, r => cond (RS s a n r) (lab s a n r) (nI (n + 1))
def VL (s : Row) (a n r : Nat) : Int32 := cond (RS s a n r) (lab s a n r) (-1)
theorem NBk_0 (s : Row) (R : Nat → Bool) (u r : Nat) : NBk s R u 0 r = anyN (fun u' => R u' && anyN (fun w' => edge s u' w' r) 6) u := by
  unfold NBk
  rw [show anyN (fun w' => edge s u w' r) 0 = false from rfl, Bool.and_false, Bool.or_false]
theorem NBk_6 (s : Row) (R : Nat → Bool) (u r : Nat) : NBk s R u 6 r = NBk s R (u + 1) 0 r := by
  rw [NBk_0, anyN_succ]
  rfl
theorem NBk_s (s : Row) (R : Nat → Bool) (u w r : Nat) : NBk s R u (w + 1) r = (NBk s R u w r || (R u && edge s u w r)) := by
  unfold NBk
  rw [anyN_succ]
  cases R u <;> simp [Bool.or_assoc]
theorem NBk_f {s : Row} {R : Nat → Bool} {u : Nat} (h : R u = false) (r : Nat) : NBk s R (u + 1) 0 r = NBk s R u 0 r := by
  rw [NBk_0, NBk_0, anyN_succ, h, Bool.false_and, Bool.or_false]
theorem NB_iff {s : Row} {R : Nat → Bool} {r : Nat} : NB s R r = true ↔ ∃ u, u < nR s ∧ R u = true ∧ ∃ w, w < 6 ∧ edge s u w r = true := by
  unfold NB
  rw [NBk_0, anyN_iff]
  constructor
  · rintro ⟨u, hu, h⟩
    rw [Bool.and_eq_true, anyN_iff] at h
    exact ⟨u, hu, h⟩
  · rintro ⟨u, hu, h⟩
    exact ⟨u, hu, by rw [Bool.and_eq_true, anyN_iff]; exact h⟩
theorem RS_mono {s : Row} {a r : Nat} : ∀ {n m : Nat}, n ≤ m → RS s a n r = true → RS s a m r = true := by
  intro n m
  induction m with
  | zero => intro h hr; rw [show n = 0 by omega] at hr; exact hr
  | succ m ih =>
    intro h hr
    by_cases e : n = m + 1
    · rw [← e]; exact hr
    · unfold RS
      rw [ih (by omega) hr]; rfl
theorem ES_RS {s : Row} {a r : Nat} : ∀ {n : Nat}, ES s a n r = true → RS s a n r = true := by
  intro n
  cases n with
  | zero => exact fun h => h
  | succ n =>
    intro h
    unfold ES at h
    rw [Bool.and_eq_true] at h
    exact h.1
/-- what is new at a round comes from what was new before -/
theorem ES_back {s : Row} {a n u w r : Nat} (hu : u < nR s) (hw : w < 6) (he : edge s u w r = true) (hR : RS s a n u = true) (hr : RS s a n r = false) : ES s a n u = true := by
  cases n with
  | zero => exact hR
  | succ n =>
    show (RS s a (n + 1) u && !RS s a n u) = true
    rw [hR, Bool.true_and]
    cases h : RS s a n u with
    | false => rfl
    | true =>
      have : RS s a (n + 1) r = true := by
        unfold RS
        rw [(NB_iff (R := RS s a n)).mpr ⟨u, hu, h, w, hw, he⟩, Bool.or_true]
      rw [this] at hr
      cases hr
theorem NB_ES {s : Row} {a n r : Nat} (hr : RS s a n r = false) : NB s (ES s a n) r = NB s (RS s a n) r := by
  cases h : NB s (RS s a n) r with
  | true =>
    obtain ⟨u, hu, h1, w, hw, he⟩ := NB_iff.mp h
    exact NB_iff.mpr ⟨u, hu, ES_back hu hw he h1 hr, w, hw, he⟩
  | false =>
    cases h2 : NB s (ES s a n) r with
    | false => rfl
    | true =>
      obtain ⟨u, hu, h1, w, hw, he⟩ := NB_iff.mp h2
      rw [NB_iff.mpr ⟨u, hu, ES_RS h1, w, hw, he⟩] at h
      cases h
theorem ES_down {s : Row} {a n r : Nat} (h : ES s a (n + 1) r = true) : ∃ u, u < nR s ∧ ES s a n u = true := by
  unfold ES at h
  rw [Bool.and_eq_true] at h
  have hf : RS s a n r = false := by
    cases hx : RS s a n r with
    | false => rfl
    | true => rw [hx] at h; exact absurd h.2 (by decide)
  have h1 := h.1
  unfold RS at h1
  rw [hf, Bool.false_or] at h1
  obtain ⟨u, hu, h1, w, hw, he⟩ := NB_iff.mp h1
  exact ⟨u, hu, ES_back hu hw he h1 hf⟩
theorem ES_all {s : Row} {a : Nat} : ∀ {n r : Nat}, r < nR s → ES s a n r = true → ∀ i, i ≤ n → ∃ u, u < nR s ∧ ES s a i u = true := by
  intro n
  induction n with
  | zero => intro r hr h i hi; rw [show i = 0 by omega]; exact ⟨r, hr, h⟩
  | succ n ih =>
    intro r hr h i hi
    by_cases e : i = n + 1
    · rw [e]; exact ⟨r, hr, h⟩
    · obtain ⟨u, hu, h2⟩ := ES_down h
      exact ih hu h2 i (by omega)
theorem ES_ne {s : Row} {a i j u : Nat} (hij : i < j) (h1 : ES s a i u = true) (h2 : ES s a j u = true) : False := by
  obtain ⟨k, rfl⟩ : ∃ k, j = k + 1 := ⟨j - 1, by omega⟩
  unfold ES at h2
  rw [Bool.and_eq_true, RS_mono (show i ≤ k by omega) (ES_RS h1)] at h2
  exact absurd h2.2 (by decide)
theorem RS_8 {s : Row} {a r : Nat} (hR : nR s ≤ 8) (hr : r < nR s) : RS s a 8 r = RS s a 7 r := by
  cases h7 : RS s a 7 r with
  | true => exact RS_mono (by omega) h7
  | false =>
    cases h8 : RS s a 8 r with
    | false => rfl
    | true =>
      exfalso
      have he : ES s a 8 r = true := by
        show (RS s a 8 r && !RS s a 7 r) = true
        rw [h8, h7]; rfl
      have ha := ES_all hr he
      have := fb_holes 8 9 (fun i => if h : i ≤ 8 then (ha i h).choose else 0) (fun i hi => by
        show (if h : i ≤ 8 then (ha i h).choose else 0) < 8
        rw [dif_pos (show i ≤ 8 by omega)]
        have := (ha i (by omega)).choose_spec.1
        omega) (fun i j hij hj => by
        show (if h : i ≤ 8 then (ha i h).choose else 0) ≠ (if h : j ≤ 8 then (ha j h).choose else 0)
        rw [dif_pos (show i ≤ 8 by omega), dif_pos (show j ≤ 8 by omega)]
        intro e
        have q1 := (ha i (by omega)).choose_spec.2
        have q2 := (ha j (by omega)).choose_spec.2
        rw [← e] at q2
        exact ES_ne hij q1 q2)
      omega
theorem lab_le (s : Row) (a : Nat) : ∀ n r, ∃ m, m ≤ n ∧ lab s a n r = nI m := by
  intro n
  induction n with
  | zero => intro r; exact ⟨0, Nat.le_refl _, rfl⟩
  | succ n ih =>
    intro r
    unfold lab
    cases RS s a n r with
    | true => obtain ⟨m, h1, h2⟩ := ih r; exact ⟨m, by omega, h2⟩
    | false => exact ⟨n + 1, Nat.le_refl _, rfl⟩
theorem lab_ES {s : Row} {a n r : Nat} (hn : n < 100) (h : RS s a n r = true) : lab s a n r = nI n ↔ ES s a n r = true := by
  cases n with
  | zero => exact ⟨fun _ => h, fun _ => rfl⟩
  | succ n =>
    show cond (RS s a n r) (lab s a n r) (nI (n + 1)) = nI (n + 1) ↔ (RS s a (n + 1) r && !RS s a n r) = true
    rw [h, Bool.true_and]
    cases hx : RS s a n r with
    | true =>
      obtain ⟨m, h1, h2⟩ := lab_le s a n r
      rw [cond_true, h2]
      exact ⟨fun z => by have := (nI_eq (by omega) (by omega)).mp z; omega, fun z => by cases z⟩
    | false => exact ⟨fun _ => rfl, fun _ => rfl⟩
theorem lab_first {s : Row} {a n r : Nat} (h : RS s a n r = true) (h0 : ∀ m, m < n → RS s a m r = false) : ∀ k, n ≤ k → lab s a k r = nI n := by
  intro k
  induction k with
  | zero => intro hk; rw [show n = 0 by omega]; rfl
  | succ k ih =>
    intro hk
    unfold lab
    by_cases e : n = k + 1
    · rw [h0 k (by omega), e]; rfl
    · rw [RS_mono (show n ≤ k by omega) h]; exact ih (by omega)
section DS
variable {d : ax_D} {n : Nat}
theorem goes_to {s : Row} (hk : Ok s) {u w : Nat} (hu : u < nR s) (hw : w < 6) (h : goes s (6 * u + w) = true) : ∃ q, q < nR s ∧ s (15 + (6 * u + w)) = nI q := by
  rcases (hk.1.2.1 u hu w hw).1 with e | e
  · unfold goes at h
    rw [decide_eq_true e] at h
    cases h
  · exact e
/-- the class's neighbours -/
theorem c_nb {s : Row} (hC : CC d 0 s) (R : Nat → Bool) (Q : ax_P) (hQ : Q d (Sum.inl (some (Sum.inl (setI (NB s R) (nR s)))))) : CT 120 [ax_vR 7 0 0, Sum.inl (setI R (nR s))] d Q := by
  have hk := hC.2.2
  have hR := Pk_R hk.1
  have r0 : ax_row d 3 (ax_pW 0) 0 0 = nI (nR s) := (show Cp d 0 s from hC.1).1.1.trans hR.1
  refine w120 _ _ ?_
  have key := lp_up (fun u => h120_4 0 (setI R (nR s)) (setI (NBk s R u 0) (nR s)) (nI u) d Q) (nR s) ?_ ?_ 0 (Nat.zero_le _)
  · have e0 : setI (NBk s R 0 0) (nR s) = 0 := (setI_0 (by omega)).mpr (fun i _ => by rw [NBk_0]; rfl)
    have key : h120_4 0 (setI R (nR s)) (setI (NBk s R 0 0) (nR s)) (nI 0) d Q := key
    rw [e0] at key
    exact key
  · refine w120_4 _ _ _ _ ?_
    rw [r0]
    exact ⟨fun _ => hQ, fun z => absurd (nI_le (Nat.le_refl _) (by omega)) z⟩
  · intro u hu ih
    refine w120_4 _ _ _ _ ?_
    rw [r0]
    refine ⟨fun z => absurd z (nI_ge hu (by omega)), fun _ => ?_⟩
    have hb : bt (setI R (nR s)) u = R u := by rw [bt_setI (by omega) (by omega), decide_eq_true hu, Bool.true_and]
    have inner := lp_up (fun w => h120_18 0 (setI R (nR s)) (setI (NBk s R u w) (nR s)) (nI u) (nI w) d Q) 6 ?_ ?_ 0 (Nat.zero_le _)
    · exact inner
    · refine w120_18 _ _ _ _ _ ((c_cont (show u < 16 by omega) _ _ _).mpr ?_)
      rw [hb]
      refine ⟨fun z => ?_, fun z => ⟨fun _ => ?_, fun y => absurd (by decide) y⟩⟩
      · rw [show nI u + 1 = nI (u + 1) from nI_add u 1, setI_cong (fun i _ => NBk_6 s R u i)]
        exact ih
      · rw [show nI u + 1 = nI (u + 1) from nI_add u 1, setI_cong (fun i _ => NBk_6 s R u i)]
        exact ih
    · intro w hw iw
      refine w120_18 _ _ _ _ _ ((c_cont (show u < 16 by omega) _ _ _).mpr ?_)
      rw [hb]
      refine ⟨fun z => ?_, fun z => ⟨fun y => absurd y (nI_ge (b := 6) hw (by omega)), fun _ => ?_⟩⟩
      · have hf := b2i_z.mp z
        rw [show nI u + 1 = nI (u + 1) from nI_add u 1, setI_cong (p := NBk s R u w) (q := NBk s R (u + 1) 0) (fun i _ => by
          rw [NBk_f hf, NBk_0]
          unfold NBk
          rw [hf, Bool.false_and, Bool.or_false])]
        exact ih
      · have hR1 := f_t (fun y => z (b2i_z.mpr y))
        refine (c_pass (a := 0) hC hu hw _).mpr ?_
        rw [show nI w + 1 = nI (w + 1) from nI_add w 1]
        refine ⟨fun y => ?_, fun y => (c_exitP (p := 0) hC.1 hk hu hw _).mpr ?_⟩
        · have hg := b2i_z.mp y
          rw [setI_cong (q := NBk s R u w) (p := NBk s R u (w + 1)) (fun i _ => by rw [NBk_s]; unfold edge; rw [hg, Bool.false_and, Bool.and_false, Bool.or_false])] at iw
          exact iw
        · have hg := f_t (fun x => y (b2i_z.mpr x))
          obtain ⟨q, hq, eq⟩ := goes_to hk hu hw hg
          show h120_18 0 (setI R (nR s)) ((setI (NBk s R u w) (nR s)) ||| (1 <<< (s (15 + (6 * u + w)) &&& 31))) (nI u) (nI (w + 1)) d Q
          rw [eq, setI_add (by omega) hq]
          rw [setI_cong (q := fun i => NBk s R u w i || decide (i = q)) (p := NBk s R u (w + 1)) (fun i hi => by
            rw [NBk_s, hR1, Bool.true_and]
            unfold edge
            rw [hg, Bool.true_and, eq]
            congr 1
            exact decide_eq_decide.mpr ⟨fun z => ((nI_eq (by omega) (by omega)).mp z).symm, fun z => by rw [z]⟩)] at iw
          exact iw
theorem c_steps {s : Row} (hC : CC d 0 s) {a b : Nat} (ha : a < nR s) (hb : b < nR s) (Q : ax_P) (hQ : Q d (Sum.inl (some (Sum.inl (VL s a 7 b))))) : CT 121 [ax_vR 7 0 0, Sum.inl (nI a), Sum.inl (nI b)] d Q := by
  have hR := Pk_R hC.2.2.1
  refine w121 _ _ _ ?_
  have key : ∀ k i, i + k = 8 → (∀ m, m < i → RS s a m b = false) → h121_7 0 (nI a) (nI b) (setI (RS s a i) (nR s)) (nI i) d Q := by
    intro k
    induction k with
    | zero =>
      intro i hi h0
      have e8 : i = 8 := by omega
      subst e8
      refine w121_7 _ _ _ _ _ ⟨fun _ => ?_, fun z => absurd (by decide) z⟩
      unfold VL at hQ
      rw [h0 7 (by decide)] at hQ
      exact hQ
    | succ k ih =>
      intro i hi h0
      have hbb : bt (setI (RS s a i) (nR s)) b = RS s a i b := by rw [bt_setI (by omega) (by omega), decide_eq_true hb, Bool.true_and]
      refine w121_7 _ _ _ _ _ ⟨fun z => absurd z (nI_ge (b := 8) (by omega) (by omega)), fun _ => (c_cont (show b < 16 by omega) _ _ _).mpr ?_⟩
      rw [hbb]
      refine ⟨fun z => c_nb hC (RS s a i) _ ?_, fun z => ?_⟩
      · have hf := b2i_z.mp z
        show h121_7 0 (nI a) (nI b) ((setI (RS s a i) (nR s)) ||| (setI (NB s (RS s a i)) (nR s))) (nI i + 1) d Q
        rw [setI_or (by omega), show nI i + 1 = nI (i + 1) from nI_add i 1]
        exact ih (i + 1) (by omega) (fun m hm => by
          by_cases e : m = i
          · rw [e]; exact hf
          · exact h0 m (by omega))
      · have ht := f_t (fun y => z (b2i_z.mpr y))
        unfold VL at hQ
        rw [RS_mono (show i ≤ 7 by omega) ht, cond_true, lab_first ht h0 7 (by omega)] at hQ
        exact hQ
  have k0 := key 8 0 (by omega) (fun m hm => by omega)
  have e0 : setI (RS s a 0) (nR s) = (1 : Int32) <<< (nI a &&& 31) := by
    refine (setI_ext (by omega) (fun i hi => ?_)).symm
    rw [bt_one (by omega) hi]
    unfold RS
    by_cases e : i = a
    · rw [e, decide_eq_true ha, Nat.beq_refl]; simp
    · rw [decide_eq_false e, ax_beq_ne e, Bool.and_false]
  rw [e0] at k0
  exact k0
/-- the labels while round n goes -/
def lbK (s : Row) (a n u w r : Nat) : Int32 := cond (RS s a n r) (lab s a n r) (cond (NBk s (ES s a n) u w r) (nI (n + 1)) (-1))
theorem lbK_end {s : Row} {a n r : Nat} : lbK s a n (nR s) 0 r = VL s a (n + 1) r := by
  unfold lbK VL
  cases h : RS s a n r with
  | true =>
    have h2 : RS s a (n + 1) r = true := RS_mono (by omega) h
    have el : lab s a (n + 1) r = cond (RS s a n r) (lab s a n r) (nI (n + 1)) := rfl
    rw [h2, el, h]; rfl
  | false =>
    have e : RS s a (n + 1) r = NB s (RS s a n) r := by
      show (RS s a n r || NB s (RS s a n) r) = _
      rw [h]; rfl
    rw [e, ← NB_ES h]
    show cond (NB s (ES s a n) r) (nI (n + 1)) (-1) = cond (NB s (ES s a n) r) (lab s a (n + 1) r) (-1)
    have el : lab s a (n + 1) r = cond (RS s a n r) (lab s a n r) (nI (n + 1)) := rfl
    rw [el, h]; rfl
theorem lbK_0 {s : Row} {a n r : Nat} : lbK s a n 0 0 r = VL s a n r := by
  unfold lbK VL
  rw [NBk_0]
  rfl
theorem lbK_n {s : Row} {a n u w r : Nat} (hn : n < 90) : lbK s a n u w r = nI n ↔ ES s a n r = true := by
  unfold lbK
  cases h : RS s a n r with
  | true => exact lab_ES (by omega) h
  | false =>
    refine ⟨fun z => ?_, fun z => by rw [ES_RS z] at h; cases h⟩
    cases hb : NBk s (ES s a n) u w r with
    | true =>
      rw [hb] at z
      have := (nI_eq (show n + 1 < 2 ^ 31 by omega) (show n < 2 ^ 31 by omega)).mp z
      omega
    | false =>
      rw [hb] at z
      exact absurd z.symm (nI_nm (by omega))
theorem m_dist {d' : ax_D} {s : Row} (hs : mr d' 2 = s) (hk : Ok s) {a b : Nat} (ha : a < nR s) (hb : b < nR s) (Q : ax_P) (hQ : ∀ y, FrM (fun j => j = 30) (fun _ => False) d' y → (VL s a 7 b = -1 → CT 201 [ax_vR 9 0 0, Sum.inl 2] y (kI (fun x2 d1 => Q d1 (Sum.inl (some (Sum.inl x2)))) (fun E d => Q d (Sum.inr E)))) ∧ (¬ VL s a 7 b = -1 → Q y (Sum.inl (some (Sum.inl (VL s a 7 b)))))) : h239_29 (nI a) (nI b) 0 d' Q := by
  have hR := Pk_R hk.1
  have ff : ∀ {y z : ax_D} {f : Row}, FrM (fun j => j = 30) (fun _ => False) d' y → z = sR y 30 f → FrM (fun j => j = 30) (fun _ => False) d' z := fun {y z f} h e => by
    rw [e]; exact FrM_trans h (FrM_R (R := fun j => j = 30) (j := 30) y (by decide) rfl f)
  have s2 : ∀ {y : ax_D}, FrM (fun j => j = 30) (fun _ => False) d' y → mr y 2 = s := fun h => (h.2.2.1 2 (by decide) (by decide)).trans hs
  -- the rounds
  have rounds : ∀ k i, i + k = 8 → ∀ y, FrM (fun j => j = 30) (fun _ => False) d' y → (∀ r, r < 8 → mr y 30 r = VL s a i r) → h239_59 (nI a) (nI b) (nI i) y Q := by
    intro k
    induction k with
    | zero =>
      intro i hi y fy ly
      have e8 : i = 8 := by omega
      subst e8
      have eb : mr y 30 b = VL s a 7 b := by
        rw [ly b (by omega)]
        unfold VL
        rw [RS_8 hR.2 hb]
        cases h7 : RS s a 7 b with
        | false => rfl
        | true =>
          show lab s a 8 b = lab s a 7 b
          show cond (RS s a 7 b) (lab s a 7 b) (nI 8) = _
          rw [h7]; rfl
      have cb : ax_in (nI b) 8 = true := ax_in_nI (by omega) (by omega)
      refine w239_59 _ _ _ ⟨fun _ => ⟨cb, ?_⟩, fun z => absurd (by decide) z⟩
      rw [nI_clamp (by omega), show ax_row y 9 0 30 b = VL s a 7 b from eb]
      obtain ⟨q1, q2⟩ := hQ y fy
      exact ⟨q1, fun z => ⟨cb, q2 z⟩⟩
    | succ k ih =>
      intro i hi y fy ly
      refine w239_59 _ _ _ ⟨fun z => absurd z (nI_ge (b := 8) (by omega) (by omega)), fun _ => ?_⟩
      have rooms := lp_up (fun u => ∀ y, FrM (fun j => j = 30) (fun _ => False) d' y → (∀ r, r < 8 → mr y 30 r = lbK s a i u 0 r) → h239_68 (nI a) (nI b) (nI i) (nI u) y Q) (nR s) ?_ ?_ 0 (Nat.zero_le _)
      · exact rooms y fy (fun r hr => (ly r hr).trans lbK_0.symm)
      · intro z fz lz
        refine w239_68 _ _ _ _ ?_
        rw [show ax_row z 9 0 2 0 = nI (nR s) from (congrFun (s2 fz) 0).trans hR.1]
        refine ⟨fun _ => ?_, fun w => absurd (nI_le (Nat.le_refl _) (by omega)) w⟩
        rw [show nI i + 1 = nI (i + 1) from nI_add i 1]
        exact ih (i + 1) (by omega) z fz (fun r hr => (lz r hr).trans lbK_end)
      · intro u hu iu z fz lz
        refine w239_68 _ _ _ _ ?_
        rw [show ax_row z 9 0 2 0 = nI (nR s) from (congrFun (s2 fz) 0).trans hR.1]
        refine ⟨fun w => absurd w (nI_ge hu (by omega)), fun _ => ?_⟩
        have ways := lp_up (fun w => ∀ y, FrM (fun j => j = 30) (fun _ => False) d' y → (∀ r, r < 8 → mr y 30 r = lbK s a i u w r) → h239_82 (nI a) (nI b) (nI i) (nI u) (nI w) y Q) 6 ?_ ?_ 0 (Nat.zero_le _)
        · exact ways z fz lz
        · intro x fx lx
          refine w239_82 _ _ _ _ _ ⟨fun _ => ?_, fun w => absurd (by decide) w⟩
          rw [show nI u + 1 = nI (u + 1) from nI_add u 1]
          refine iu x fx (fun r hr => ?_)
          rw [lx r hr]
          unfold lbK
          rw [NBk_6]
        · intro w hw iw x fx lx
          have he : 6 * u + w < 48 := by omega
          have cu : ax_in (nI u) 8 = true := ax_in_nI (by omega) (by omega)
          have x15 : ax_row x 9 0 2 (15 + (6 * u + w)) = s (15 + (6 * u + w)) := congrFun (s2 fx) _
          have skip : (∀ r, r < 8 → (ES s a i u && edge s u w r) = true → lbK s a i u w r ≠ -1) → h239_82 (nI a) (nI b) (nI i) (nI u) (nI (w + 1)) x Q := fun hsk => iw x fx (fun r hr => by
            rw [lx r hr]
            have hh := hsk r hr
            unfold lbK at hh ⊢
            rw [NBk_s]
            cases h1 : RS s a i r with
            | true => rfl
            | false =>
              cases h2 : NBk s (ES s a i) u w r with
              | true => rfl
              | false =>
                cases h3 : (ES s a i u && edge s u w r) with
                | false => rfl
                | true =>
                  have := hh h3
                  rw [h1, h2] at this
                  exact absurd rfl this)
          refine w239_82 _ _ _ _ _ ⟨fun z => absurd z (nI_ge (b := 6) hw (by omega)), fun _ => ?_⟩
          rw [show nI w + 1 = nI (w + 1) from nI_add w 1, e15', nI_clamp (show 15 + (6 * u + w) < 2 ^ 31 by omega), nI_clamp (show u < 2 ^ 31 by omega), x15, show ax_row x 9 0 30 u = lbK s a i u w u from lx u (by omega)]
          refine ⟨ax_in_nI (by omega) (by omega), cu, fun g => ⟨fun g1 => ?_, fun g1 => ?_⟩, fun g => ?_⟩
          · refine skip (fun r hr hx => ?_)
            rw [Bool.and_eq_true] at hx
            obtain ⟨q, hq, eq⟩ := goes_to hk hu hw (by
              have := hx.2
              unfold edge at this
              rw [Bool.and_eq_true] at this
              exact this.1)
            rw [eq] at g1
            exact absurd g1 (nI_nm (by omega))
          · have hes : ES s a i u = true := (lbK_n (by omega)).mp g
            obtain ⟨q, hq, eq⟩ : ∃ q, q < nR s ∧ s (15 + (6 * u + w)) = nI q := (hk.1.2.1 u hu w hw).1.resolve_left g1
            rw [e6k]
            refine (m_shut (s2 fx) he (Ok_door hk hu hw) _).mpr ⟨fun gs => ?_, fun gs => ?_⟩
            · have hsh := b2i_z.mp gs
              have hgo : goes s (6 * u + w) = true := by unfold goes; rw [decide_eq_false g1, hsh]; rfl
              have cq : ax_in (nI q) 8 = true := ax_in_nI (by omega) (by omega)
              have eed : ∀ r, r < 8 → edge s u w r = decide (r = q) := fun r hr => by
                unfold edge
                rw [hgo, Bool.true_and, eq]
                exact decide_eq_decide.mpr ⟨fun z => ((nI_eq (by omega) (by omega)).mp z).symm, fun z => by rw [z]⟩
              rw [eq, nI_clamp (by omega), show ax_row x 9 0 30 q = lbK s a i u w q from lx q (by omega)]
              refine ⟨cq, fun g2 => ⟨cq, fun d3 e3 => ?_⟩, fun g2 => ?_⟩
              · have q3 : d3 = sR x 30 (upd (mr x 30) q (nI i + 1)) := e3
                refine iw d3 (ff fx q3) (fun r hr => ?_)
                rw [q3, mr_sR]
                by_cases e : r = q
                · rw [e, upd_s, show nI i + 1 = nI (i + 1) from nI_add i 1]
                  have : RS s a i q = false ∧ NBk s (ES s a i) u w q = false := by
                    unfold lbK at g2
                    cases h1 : RS s a i q with
                    | true =>
                      rw [h1, cond_true] at g2
                      obtain ⟨m, m1, m2⟩ := lab_le s a i q
                      rw [m2] at g2
                      exact absurd g2 (nI_nm (by omega))
                    | false =>
                      rw [h1, cond_false] at g2
                      cases h2 : NBk s (ES s a i) u w q with
                      | true => rw [h2] at g2; exact absurd g2 (nI_nm (by omega))
                      | false => exact ⟨rfl, rfl⟩
                  unfold lbK
                  rw [this.1, NBk_s, hes, eed q (by omega), decide_eq_true rfl, Bool.true_and, Bool.or_true]
                  rfl
                · rw [upd_n e, lx r hr]
                  unfold lbK
                  rw [NBk_s, eed r hr, decide_eq_false e, Bool.and_false, Bool.or_false]
              · refine skip (fun r hr hx => ?_)
                rw [Bool.and_eq_true, eed r hr] at hx
                rw [of_decide_eq_true hx.2]
                exact g2
            · refine skip (fun r hr hx => ?_)
              rw [Bool.and_eq_true] at hx
              have := hx.2
              unfold edge goes at this
              rw [f_t (fun y => gs (b2i_z.mpr y)), Bool.not_true, Bool.and_false, Bool.false_and] at this
              cases this
          · refine skip (fun r hr hx => ?_)
            rw [Bool.and_eq_true] at hx
            exact absurd ((lbK_n (by omega)).mpr hx.1) g
  -- the first labels
  have init := lp_up (fun i => ∀ y, FrM (fun j => j = 30) (fun _ => False) d' y → (∀ r, r < i → mr y 30 r = VL s a 0 r) → h239_29 (nI a) (nI b) (nI i) y Q) 8 ?_ ?_ 0 (Nat.zero_le _)
  · exact init d' (FrM_id _ _ _) (fun r hr => by omega)
  · intro y fy ly
    exact w239_29 _ _ _ ⟨fun _ => rounds 8 0 (by omega) y fy ly, fun z => absurd (by decide) z⟩
  · intro i hi ii y fy ly
    have ci : ax_in (nI i) 8 = true := ax_in_nI hi (by omega)
    refine w239_29 _ _ _ ⟨fun z => absurd z (nI_ge (b := 8) hi (by omega)), fun _ => ?_⟩
    rw [nI_clamp (by omega), show nI i + 1 = nI (i + 1) from nI_add i 1]
    have st : ∀ v, v = VL s a 0 i → ∀ z, z = sR y 30 (upd (mr y 30) i v) → h239_29 (nI a) (nI b) (nI (i + 1)) z Q := fun v hv z hz => ii z (ff fy hz) (fun r hr => by
      rw [hz, mr_sR]
      by_cases e : r = i
      · rw [e, upd_s]; exact hv
      · rw [upd_n e]; exact ly r (by omega))
    refine ⟨fun g => ⟨ci, fun d1 e1 => st 0 ?_ d1 e1⟩, fun g => ⟨ci, fun d1 e1 => st (-1) ?_ d1 e1⟩⟩
    · have e : i = a := (nI_eq (by omega) (by omega)).mp g
      unfold VL RS
      rw [e, Nat.beq_refl]; rfl
    · have e : i ≠ a := fun z => g (by rw [z])
      unfold VL RS
      rw [ax_beq_ne e]; rfl
theorem j_distance (I : INV d n) (x y : Int32) : JN [2, 4] 122 239 [x, y] d n := by
  have hC := I.1
  have hk := hC.2.2
  cases hT : isRm (mr d 2) x with
  | false => exact jq_x I 0 rfl (fun Q hQ => w122 _ _ (by simp only [c_chkR hC, hT, kV_r, kV_x, kI_r, kI_x, kR_r, kF_r, kD_r, forall_eq, not_true_eq_false, not_false_eq_true, false_implies, true_implies, true_and, and_true, b2i_0, b2i_1, b2i_01, b2i_t, b2i_f, decide_true, decide_false, Bool.not_true, Bool.not_false, i1_0, eq_self, reduceCtorEq, eLits, cond_false]; exact hQ)) (fun d' Q e _ hQ => w239 _ _ (by simp only [f_mv, f_sV, f_sV', f_s2, f_s3, f_s29, f_s30, f_mr, mr_sR, mv_sV, sV_sV, sR_sR, m2, kV_r, kV_x, kI_r, kI_x, kR_r, kF_r, kD_r, forall_eq, not_true_eq_false, not_false_eq_true, false_implies, true_implies, true_and, and_true, b2i_0, b2i_1, b2i_01, b2i_t, b2i_f, decide_true, decide_false, Bool.not_true, Bool.not_false, i1_0, eq_self, reduceCtorEq, eLits, m_isRm, e, hT, m_fails]; exact hQ _))
  | true =>
    cases hU : isRm (mr d 2) y with
    | false => exact jq_x I 0 rfl (fun Q hQ => w122 _ _ (by simp only [c_chkR hC, hT, hU, kV_r, kV_x, kI_r, kI_x, kR_r, kF_r, kD_r, forall_eq, not_true_eq_false, not_false_eq_true, false_implies, true_implies, true_and, and_true, b2i_0, b2i_1, b2i_01, b2i_t, b2i_f, decide_true, decide_false, Bool.not_true, Bool.not_false, i1_0, eq_self, reduceCtorEq, eLits, cond_true, cond_false]; exact hQ)) (fun d' Q e _ hQ => w239 _ _ (by simp only [f_mv, f_sV, f_sV', f_s2, f_s3, f_s29, f_s30, f_mr, mr_sR, mv_sV, sV_sV, sR_sR, m2, kV_r, kV_x, kI_r, kI_x, kR_r, kF_r, kD_r, forall_eq, not_true_eq_false, not_false_eq_true, false_implies, true_implies, true_and, and_true, b2i_0, b2i_1, b2i_01, b2i_t, b2i_f, decide_true, decide_false, Bool.not_true, Bool.not_false, i1_0, eq_self, reduceCtorEq, eLits, m_isRm, e, hT, hU, m_fails]; exact hQ _))
    | true =>
      obtain ⟨a, ha, rfl⟩ := isRm_ex hk hT
      obtain ⟨b, hb, rfl⟩ := isRm_ex hk hU
      have fk : ∀ {d' z : ax_D}, FrM (fun j => j = 30) (fun _ => False) (sV d' 0 0) z → FrM RQ KQ' d' z := fun h => FrM_trans (FrM_sV _ (Or.inl rfl) 0) (FrM_mono h (fun j e => by rw [e]; exact Or.inr (by decide)) (fun _ z => z.elim))
      by_cases hv : VL (mr d 2) a 7 b = -1
      · refine jq_gen I (r1 := Sum.inr 4) (fun Q hQ => w122 _ _ ?_) (fun d' Q e hQ => w239 _ _ ?_)
        · simp only [c_chkR hC, hT, hU, kV_r, kV_x, kI_r, kI_x, kR_r, kF_r, kD_r, forall_eq, not_true_eq_false, not_false_eq_true, false_implies, true_implies, true_and, and_true, b2i_0, b2i_1, b2i_01, b2i_t, b2i_f, decide_true, decide_false, Bool.not_true, Bool.not_false, i1_0, eq_self, reduceCtorEq, eLits, cond_true]
          refine c_steps hC ha hb _ ⟨fun _ => hQ d (Fr_refl d) rfl rfl, fun z => absurd hv z⟩
        · have e2 : mr d' 2 = mr d 2 := congrFun e 2
          simp only [f_mv, f_sV, f_sV', f_s2, f_s3, f_s29, f_s30, f_mr, mr_sR, mv_sV, sV_sV, sR_sR, m2, kV_r, kV_x, kI_r, kI_x, kR_r, kF_r, kD_r, forall_eq, not_true_eq_false, not_false_eq_true, false_implies, true_implies, true_and, and_true, b2i_0, b2i_1, b2i_01, b2i_t, b2i_f, decide_true, decide_false, Bool.not_true, Bool.not_false, i1_0, eq_self, reduceCtorEq, eLits, m_isRm, e2, hT, hU]
          refine m_dist ((m2 d' 0 0).trans e2) hk ha hb Q (fun z fz => ⟨fun _ => (m_fails _ _ _).mpr ?_, fun w => absurd hv w⟩)
          refine hQ _ _ (FrM_trans (fk fz) (FrM_sV _ (Or.inl rfl) 2)) (Or.inl ⟨1, 4, 0, rfl, rfl, mv_sV _ _ _, rfl⟩)
      · refine jq_gen I (r1 := Sum.inl (some (Sum.inl (VL (mr d 2) a 7 b)))) (fun Q hQ => w122 _ _ ?_) (fun d' Q e hQ => w239 _ _ ?_)
        · simp only [c_chkR hC, hT, hU, kV_r, kV_x, kI_r, kI_x, kR_r, kF_r, kD_r, forall_eq, not_true_eq_false, not_false_eq_true, false_implies, true_implies, true_and, and_true, b2i_0, b2i_1, b2i_01, b2i_t, b2i_f, decide_true, decide_false, Bool.not_true, Bool.not_false, i1_0, eq_self, reduceCtorEq, eLits, cond_true]
          refine c_steps hC ha hb _ ⟨fun z => absurd z hv, fun _ => hQ d (Fr_refl d) rfl rfl⟩
        · have e2 : mr d' 2 = mr d 2 := congrFun e 2
          simp only [f_mv, f_sV, f_sV', f_s2, f_s3, f_s29, f_s30, f_mr, mr_sR, mv_sV, sV_sV, sR_sR, m2, kV_r, kV_x, kI_r, kI_x, kR_r, kF_r, kD_r, forall_eq, not_true_eq_false, not_false_eq_true, false_implies, true_implies, true_and, and_true, b2i_0, b2i_1, b2i_01, b2i_t, b2i_f, decide_true, decide_false, Bool.not_true, Bool.not_false, i1_0, eq_self, reduceCtorEq, eLits, m_isRm, e2, hT, hU]
          refine m_dist ((m2 d' 0 0).trans e2) hk ha hb Q (fun z fz => ⟨fun w => absurd w hv, fun _ => ?_⟩)
          refine hQ _ _ (fk fz) (Or.inr ⟨_, rfl, ?_, rfl⟩)
          exact (fz.2.2.2 0 (fun w => w)).trans (mv_sV _ _ _)
end DS
