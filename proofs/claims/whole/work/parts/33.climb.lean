/-! climbing from a thing to what holds it -/
theorem i32_eq {x z : Int32} (h : x.toInt = z.toInt) : x = z := Int32.toInt_inj.mp h
theorem i32_le {x y : Int32} : x ≤ y ↔ x.toInt ≤ y.toInt := Int32.le_iff_toInt_le
theorem i32_lt {x y : Int32} : x < y ↔ x.toInt < y.toInt := Int32.lt_iff_toInt_lt
theorem i32_k {n : Nat} (h : n < 2 ^ 31) : (Int32.ofNat n).toInt = (n : Int) := nI_toInt h
theorem inB_iff {x a b : Int32} : inB x a b = true ↔ a ≤ x ∧ x ≤ b := by unfold inB; simp
theorem held_iff {s : Row} {t : Nat} : held s t = true ↔ s (255 + t) = 1 ∨ s (255 + t) = 2 := by
  unfold held
  rw [inB_iff]
  generalize s (255 + t) = x
  have h1 : (1 : Int32).toInt = 1 := by decide
  have h2 : (2 : Int32).toInt = 2 := by decide
  constructor
  · rintro ⟨a, b⟩
    rw [i32_le] at a b
    rcases (by omega : x.toInt = 1 ∨ x.toInt = 2) with h | h
    · exact Or.inl (i32_eq (by omega))
    · exact Or.inr (i32_eq (by omega))
  · rintro (h | h) <;> subst h <;> decide
theorem held_f {s : Row} {t : Nat} (h1 : ¬ s (255 + t) = 1) (h2 : ¬ s (255 + t) = 2) : held s t = false := by
  cases h : held s t with
  | false => rfl
  | true => exact ((held_iff.mp h).elim h1 h2).elim
theorem Pk_T {s : Row} (h : Pok s) : s 1 = nI (nT s) ∧ nT s ≤ 16 := ⟨h.1.2.2.1, h.1.2.2.2.1⟩
theorem Pk_R {s : Row} (h : Pok s) : s 0 = nI (nR s) ∧ nR s ≤ 8 := ⟨h.1.1, h.1.2.1⟩
theorem Pk_D {s : Row} (h : Pok s) : s 2 = nI (nD s) ∧ nD s ≤ 6 := h.1.2.2.2.2
theorem par_of {s : Row} {t h : Nat} (e : s (271 + t) = nI h) (hh : h < 16) : par s t = h := by unfold par; rw [e]; exact nI_clamp (by omega)
theorem Tp_held {s : Row} {t : Nat} (hT : nT s ≤ 16) (h : Tplace s t) (hh : held s t = true) : par s t < nT s ∧ s (271 + t) = nI (par s t) ∧ s (111 + par s t) = s (255 + t) := by
  have h0 : ∀ x : Int32, s (255 + t) = x → x ≠ 1 → x ≠ 2 → False := fun x e a b => by
    rcases held_iff.mp hh with g | g
    · exact a (e.symm.trans g)
    · exact b (e.symm.trans g)
  rcases h with ⟨e, -⟩ | ⟨e, q, h1, h2, h3⟩ | ⟨e, q, h1, h2, h3⟩ | ⟨e, -⟩ | ⟨e, -⟩
  · exact (h0 0 e (by decide) (by decide)).elim
  · have := par_of h2 (by omega)
    rw [this, e]
    exact ⟨h1, h2, h3⟩
  · have := par_of h2 (by omega)
    rw [this, e]
    exact ⟨h1, h2, h3⟩
  · exact (h0 3 e (by decide) (by decide)).elim
  · exact (h0 4 e (by decide) (by decide)).elim
theorem Ok_T {s : Row} (h : Ok s) : s 1 = nI (nT s) ∧ nT s ≤ 16 := Pk_T h.1
theorem Ok_lt {s : Row} (h : Ok s) {t : Nat} (ht : t < nT s) : t < 16 := Nat.lt_of_lt_of_le ht (Ok_T h).2
theorem sz_of {s : Row} (h : Ok s) {t : Nat} (ht : t < nT s) : s (159 + t) = nI (sz s t) ∧ sz s t < 10 := by
  obtain ⟨-, z, -, h2, h3⟩ := h.1.2.2.1 t ht
  unfold sz
  rw [h3, nI_clamp (by omega)]
  exact ⟨rfl, h2⟩
section CL
variable {s : Row}
theorem Rt_det : ∀ {n m t : Nat}, Rt s n t → Rt s m t → n = m := by
  intro n
  induction n with
  | zero =>
    intro m t h1 h2
    cases m with
    | zero => rfl
    | succ m => exact absurd (h2.1.symm.trans h1) (by decide)
  | succ n ih =>
    intro m t h1 h2
    cases m with
    | zero => exact absurd (h1.1.symm.trans h2) (by decide)
    | succ m => rw [ih h1.2 h2.2]
theorem topN_st : ∀ {n m t : Nat}, Rt s n t → n ≤ m → topN s m t = topN s n t := by
  intro n
  induction n with
  | zero =>
    intro m t h hm
    cases m with
    | zero => rfl
    | succ m => unfold topN; rw [show held s t = false from h]; rfl
  | succ n ih =>
    intro m t h hm
    obtain ⟨k, rfl⟩ : ∃ k, m = k + 1 := ⟨m - 1, by omega⟩
    unfold topN
    rw [h.1]
    exact ih h.2 (by omega)
theorem insN_st {h : Nat} : ∀ {n m t : Nat}, Rt s n t → n ≤ m → insN s h m t = insN s h n t := by
  intro n
  induction n with
  | zero =>
    intro m t hr hm
    cases m with
    | zero => rfl
    | succ m => unfold insN; rw [show held s t = false from hr]; simp
  | succ n ih =>
    intro m t hr hm
    obtain ⟨k, rfl⟩ : ∃ k, m = k + 1 := ⟨m - 1, by omega⟩
    unfold insN
    rw [hr.1, ih hr.2 (by omega)]
theorem seenN_st : ∀ {n m t : Nat}, Rt s n t → n ≤ m → seenN s m t = seenN s n t := by
  intro n
  induction n with
  | zero =>
    intro m t hr hm
    cases m with
    | zero => rfl
    | succ m => unfold seenN; rw [show held s t = false from hr]; rfl
  | succ n ih =>
    intro m t hr hm
    obtain ⟨k, rfl⟩ : ∃ k, m = k + 1 := ⟨m - 1, by omega⟩
    unfold seenN
    rw [hr.1, ih hr.2 (by omega)]
theorem openN_st : ∀ {n m t : Nat}, Rt s n t → n ≤ m → openN s m t = openN s n t := by
  intro n
  induction n with
  | zero =>
    intro m t hr hm
    cases m with
    | zero => rfl
    | succ m => unfold openN; rw [show held s t = false from hr]; rfl
  | succ n ih =>
    intro m t hr hm
    obtain ⟨k, rfl⟩ : ∃ k, m = k + 1 := ⟨m - 1, by omega⟩
    unfold openN
    rw [hr.1, ih hr.2 (by omega)]
end CL
/-- a climb by itself: from each thing the next, until the end -/
theorem climb {s : Row} (hT : nT s ≤ 16) (hp : ∀ t, t < nT s → Tplace s t) (W : Nat → Prop) (h0 : ∀ t, t < nT s → held s t = false → W t) (h1 : ∀ t, t < nT s → held s t = true → par s t < nT s → s (271 + t) = nI (par s t) → W (par s t) → W t) : ∀ n t, t < nT s → Rt s n t → W t := by
  intro n
  induction n with
  | zero => intro t ht hr; exact h0 t ht hr
  | succ n ih =>
    intro t ht hr
    obtain ⟨a, b, -⟩ := Tp_held hT (hp t ht) hr.1
    exact h1 t ht hr.1 a b (ih _ a hr.2)
theorem top_root {s : Row} (h : Ok s) {t : Nat} (ht : t < nT s) : top s t < nT s ∧ held s (top s t) = false := by
  obtain ⟨n, hn, hr⟩ := h.2.2.1 t ht
  unfold top
  rw [topN_st hr (by omega)]
  have hT := (Pk_T h.1).2
  have hp := fun t ht => (h.2.1 t ht).1
  clear hn
  induction n generalizing t with
  | zero => exact ⟨ht, hr⟩
  | succ n ih =>
    unfold topN
    rw [hr.1]
    exact ih (Tp_held hT (hp t ht) hr.1).1 hr.2
/-- one step of each climb -/
theorem top_0 {s : Row} {t : Nat} (h : held s t = false) : top s t = t := by unfold top topN; rw [h]; rfl
theorem top_1 {s : Row} (h : Ok s) {t : Nat} (ht : t < nT s) (hh : held s t = true) : top s t = top s (par s t) := by
  obtain ⟨n, hn, hr⟩ := h.2.2.1 t ht
  cases n with
  | zero => exact absurd (hh.symm.trans hr) (by decide)
  | succ n =>
    unfold top
    rw [topN_st hr (by omega), topN_st hr.2 (by omega)]
    show cond (held s t) _ _ = _
    rw [hh]
    rfl
theorem inside_0 {s : Row} {t q : Nat} (h : held s t = false) : inside s t q = Nat.beq t q := by unfold inside insN; rw [h]; simp
theorem inside_1 {s : Row} (h : Ok s) {t q : Nat} (ht : t < nT s) (hh : held s t = true) : inside s t q = (Nat.beq t q || inside s (par s t) q) := by
  obtain ⟨n, hn, hr⟩ := h.2.2.1 t ht
  cases n with
  | zero => exact absurd (hh.symm.trans hr) (by decide)
  | succ n =>
    unfold inside
    rw [insN_st hr (by omega), insN_st hr.2 (by omega)]
    show (_ || (held s t && _)) = _
    rw [hh]
    rfl
theorem seenUp_0 {s : Row} {t : Nat} (h : held s t = false) : seenUp s t = some t := by unfold seenUp seenN; rw [h]; rfl
theorem seenUp_1 {s : Row} (h : Ok s) {t : Nat} (ht : t < nT s) (hh : held s t = true) : seenUp s t = cond (decide (s (255 + t) = 1) && !seeT s (par s t)) none (seenUp s (par s t)) := by
  obtain ⟨n, hn, hr⟩ := h.2.2.1 t ht
  cases n with
  | zero => exact absurd (hh.symm.trans hr) (by decide)
  | succ n =>
    unfold seenUp
    rw [seenN_st hr (by omega), seenN_st hr.2 (by omega)]
    show cond (held s t) _ _ = _
    rw [hh]
    rfl
/-- all the containers around it are open -/
def opened (s : Row) (t : Nat) : Bool := openN s 16 t
theorem opened_0 {s : Row} {t : Nat} (h : held s t = false) : opened s t = true := by unfold opened openN; rw [h]; rfl
theorem opened_1 {s : Row} (h : Ok s) {t : Nat} (ht : t < nT s) (hh : held s t = true) : opened s t = ((decide (s (255 + t) = 2) || hasF s (par s t) 1) && opened s (par s t)) := by
  obtain ⟨n, hn, hr⟩ := h.2.2.1 t ht
  cases n with
  | zero => exact absurd (hh.symm.trans hr) (by decide)
  | succ n =>
    unfold opened
    rw [openN_st hr (by omega), openN_st hr.2 (by omega)]
    show (!held s t || _) = _
    rw [hh]
    rfl
/-- a thing's climb, as an induction -/
theorem climbs {s : Row} (h : Ok s) (W : Nat → Prop) (h0 : ∀ t, t < nT s → held s t = false → W t) (h1 : ∀ t, t < nT s → held s t = true → par s t < nT s → s (271 + t) = nI (par s t) → W (par s t) → W t) {t : Nat} (ht : t < nT s) : W t := by
  obtain ⟨n, -, hr⟩ := h.2.2.1 t ht
  exact climb (Pk_T h.1).2 (fun t ht => (h.2.1 t ht).1) W h0 h1 n t ht hr
