/-! sets of things as bits -/
def setI (p : Nat → Bool) : Nat → Int32
  | 0 => 0
  | n + 1 => cond (p n) (setI p n ||| (1 <<< (nI n &&& 31))) (setI p n)
theorem bt_one {i j : Nat} (hi : i < 32) (hj : j < 32) : bt ((1 : Int32) <<< (nI i &&& 31)) j = decide (j = i) := by
  rw [b_shl i hi _ hj]
  by_cases e : j = i
  · subst e
    rw [decide_eq_true (Nat.le_refl _), Nat.sub_self, decide_eq_true rfl]
    decide
  · rw [decide_eq_false e]
    by_cases e2 : i ≤ j
    · have : ∀ j, j < 32 → j ≠ 0 → bt 1 j = false := by decide +kernel
      rw [this (j - i) (by omega) (by omega), Bool.and_false]
    · rw [decide_eq_false e2, Bool.false_and]
theorem bt_setI {p : Nat → Bool} : ∀ {n : Nat}, n ≤ 32 → ∀ {i : Nat}, i < 32 → bt (setI p n) i = (decide (i < n) && p i) := by
  intro n
  induction n with
  | zero =>
    intro _ i _
    show bt 0 i = _
    rw [b_0]
    simp
  | succ n ih =>
    intro hn i hi
    have ih := ih (by omega) hi
    unfold setI
    by_cases e : i = n
    · subst e
      cases hp : p i with
      | true =>
        rw [cond_true, b_or, bt_one (by omega) hi]
        simp
      | false =>
        rw [cond_false, ih]
        simp
    · have e1 : decide (i < n + 1) = decide (i < n) := decide_eq_decide.mpr (by omega)
      rw [e1, ← ih]
      cases hp : p n with
      | true => rw [cond_true, b_or, bt_one (by omega) hi, decide_eq_false e, Bool.or_false]
      | false => rfl
theorem setI_ext {p : Nat → Bool} {n : Nat} (hn : n ≤ 32) {x : Int32} (h : ∀ i, i < 32 → bt x i = (decide (i < n) && p i)) : x = setI p n := b_ext (fun i hi => (h i hi).trans (bt_setI hn hi).symm)
theorem setI_or {p q : Nat → Bool} {n : Nat} (hn : n ≤ 32) : setI p n ||| setI q n = setI (fun i => p i || q i) n := setI_ext hn (fun i hi => by
  rw [b_or, bt_setI hn hi, bt_setI hn hi]
  cases decide (i < n) <;> rfl)
theorem setI_and {p q : Nat → Bool} {n : Nat} (hn : n ≤ 32) : setI p n &&& setI q n = setI (fun i => p i && q i) n := setI_ext hn (fun i hi => by
  rw [b_and, bt_setI hn hi, bt_setI hn hi]
  cases decide (i < n) <;> cases p i <;> rfl)
theorem setI_andn {p q : Nat → Bool} {n : Nat} (hn : n ≤ 32) : setI p n &&& (setI q n ^^^ (-1)) = setI (fun i => p i && !q i) n := setI_ext hn (fun i hi => by
  rw [b_and, b_xor, b_m1 i hi, bt_setI hn hi, bt_setI hn hi]
  cases decide (i < n) <;> cases p i <;> cases q i <;> rfl)
theorem setI_add {p : Nat → Bool} {n k : Nat} (hn : n ≤ 32) (hk : k < n) : setI p n ||| (1 <<< (nI k &&& 31)) = setI (fun i => p i || decide (i = k)) n := setI_ext hn (fun i hi => by
  rw [b_or, bt_one (by omega) hi, bt_setI hn hi]
  by_cases e : i = k
  · subst e
    simp [hk]
  · simp [e])
theorem setI_cong {p q : Nat → Bool} {n : Nat} (h : ∀ i, i < n → p i = q i) : setI p n = setI q n := by
  induction n with
  | zero => rfl
  | succ n ih =>
    unfold setI
    rw [h n (by omega), ih (fun i hi => h i (by omega))]
theorem setI_eq {p q : Nat → Bool} {n : Nat} (hn : n ≤ 32) : setI p n = setI q n ↔ ∀ i, i < n → p i = q i := by
  constructor
  · intro h i hi
    have := congrArg (fun x => bt x i) h
    simp only [bt_setI hn (show i < 32 by omega), decide_eq_true hi, Bool.true_and] at this
    exact this
  · exact setI_cong
theorem setI_0 {p : Nat → Bool} {n : Nat} (hn : n ≤ 32) : setI p n = 0 ↔ ∀ i, i < n → p i = false := by
  have : (0 : Int32) = setI (fun _ => false) n := setI_ext hn (fun i hi => by rw [b_0]; simp)
  rw [this, setI_eq hn]
theorem setI_succ (p : Nat → Bool) (n : Nat) : setI p (n + 1) = cond (p n) (setI p n ||| (1 <<< (nI n &&& 31))) (setI p n) := rfl

/-! one bit alone, the lowest bit -/
theorem bt_nI {k i : Nat} (hi : i < 32) : bt (nI k) i = k.testBit i := by
  show (BitVec.ofNat 32 k).getLsbD i = _
  rw [BitVec.getLsbD_ofNat]
  simp [hi]
theorem ct_one {p : Nat → Bool} {n : Nat} : fb_ct p n = 1 ↔ ∃ i, i < n ∧ p i = true ∧ ∀ j, j < n → p j = true → j = i := by
  have two : ∀ i j, i < j → j < n → p i = true → p j = true → 2 ≤ fb_ct p n := by
    intro i j h1 h2 h3 h4
    have a1 := fb_ct_mono p (show i + 1 ≤ j by omega)
    have a2 := fb_ct_mono p (show j + 1 ≤ n by omega)
    rw [fb_ct_succ, h3, if_pos rfl] at a1
    rw [fb_ct_succ, h4, if_pos rfl] at a2
    omega
  constructor
  · intro h
    obtain ⟨i, hi, hp⟩ := fb_ct_pos.mp (show 0 < fb_ct p n by omega)
    refine ⟨i, hi, hp, fun j hj hpj => ?_⟩
    rcases Nat.lt_trichotomy j i with e | e | e
    · have := two j i e hi hpj hp
      omega
    · exact e
    · have := two i j e hj hp hpj
      omega
  · rintro ⟨i, hi, hp, hu⟩
    have h1 := fb_ct_pos.mpr ⟨i, hi, hp⟩
    rcases Nat.lt_or_ge (fb_ct p n) 2 with e | e
    · omega
    · obtain ⟨j, hj, hpj, ej⟩ := fb_ct_kth (p := p) (k := 1) (n := n) (by omega)
      obtain ⟨j0, hj0, hpj0, ej0⟩ := fb_ct_kth (p := p) (k := 0) (n := n) (by omega)
      have := hu j hj hpj
      have := hu j0 hj0 hpj0
      subst this
      rw [hu j hj hpj] at ej
      omega
/-- taking one off clears the lowest bit of a number, and no higher one -/
theorem pred_bits {N i : Nat} (h1 : N.testBit i = true) (h0 : ∀ j, j < i → N.testBit j = false) {j : Nat} (hj : i ≤ j) : (N - 1).testBit j = (N.testBit j && !decide (j = i)) := by
  have hmod : N % 2 ^ i = 0 := by
    apply Nat.eq_of_testBit_eq
    intro k
    rw [Nat.testBit_mod_two_pow, Nat.zero_testBit]
    by_cases hk : k < i
    · rw [h0 k hk, Bool.and_false]
    · rw [decide_eq_false hk, Bool.false_and]
  have hq : (N / 2 ^ i) % 2 = 1 := by
    have h2 : (N / 2 ^ i).testBit 0 = true := by
      rw [Nat.testBit_div_two_pow]
      simpa using h1
    rw [Nat.testBit_zero] at h2
    exact of_decide_eq_true h2
  have hN : N = 2 ^ i * (N / 2 ^ i) := by
    have := Nat.div_add_mod N (2 ^ i)
    omega
  have hpos : 0 < 2 ^ i := Nat.two_pow_pos i
  obtain ⟨m, hm⟩ : ∃ m, N / 2 ^ i = 2 * m + 1 := ⟨N / 2 ^ i / 2, by omega⟩
  have hN1 : N - 1 = 2 ^ i * (2 * m) + (2 ^ i - 1) := by
    rw [hN, hm, Nat.mul_add, Nat.mul_one]
    omega
  have hd : (N - 1) / 2 ^ i = 2 * m := by
    rw [hN1, Nat.add_comm, Nat.add_mul_div_left _ _ hpos, Nat.div_eq_of_lt (by omega), Nat.zero_add]
  obtain ⟨k, rfl⟩ : ∃ k, j = i + k := ⟨j - i, by omega⟩
  have e1 : (N - 1).testBit (i + k) = (2 * m).testBit k := by rw [← hd, Nat.testBit_div_two_pow]; congr 1; omega
  have e2 : N.testBit (i + k) = (2 * m + 1).testBit k := by rw [← hm, Nat.testBit_div_two_pow]; congr 1; omega
  rw [e1, e2]
  cases k with
  | zero =>
    rw [Nat.testBit_zero, Nat.testBit_zero]
    simp
  | succ k =>
    rw [Nat.testBit_succ, Nat.testBit_succ, show (2 * m) / 2 = m by omega, show (2 * m + 1) / 2 = m by omega]
    simp
/-- a set has one member alone -/
theorem setI_one {p : Nat → Bool} {n : Nat} (hn : n ≤ 16) (h0 : ¬ setI p n = 0) : (setI p n &&& (setI p n - 1) = 0) ↔ fb_ct p n = 1 := by
  have hx : ∃ i, i < n ∧ p i = true := Classical.byContradiction (fun hc => h0 ((setI_0 (by omega)).mpr (fun i hi => by
    cases hp : p i with
    | false => rfl
    | true => exact absurd ⟨i, hi, hp⟩ hc)))
  obtain ⟨i, hi, hp, hlow⟩ : ∃ i, i < n ∧ p i = true ∧ ∀ j, j < i → ¬ p j = true := fb_first (p := fun i => p i = true) hx
  obtain ⟨N, hN, eN⟩ : ∃ N, N < 2 ^ 32 ∧ setI p n = nI N := ⟨(setI p n).toBitVec.toNat, (setI p n).toBitVec.isLt, Int32.toBitVec_inj.mp (by
    show _ = BitVec.ofNat 32 _
    rw [BitVec.ofNat_toNat]
    simp)⟩
  have bits : ∀ j, j < 32 → N.testBit j = (decide (j < n) && p j) := fun j hj => by rw [← bt_nI hj, ← eN, bt_setI (by omega) hj]
  have hi1 : N.testBit i = true := by rw [bits i (by omega), decide_eq_true hi, hp]; rfl
  have hN0 : N ≠ 0 := fun e => by rw [e, Nat.zero_testBit] at hi1; cases hi1
  have hlow' : ∀ j, j < i → N.testBit j = false := fun j hj => by
    rw [bits j (by omega)]
    cases hpj : p j with
    | false => simp
    | true => exact absurd hpj (hlow j hj)
  have hpred : nI N - 1 = nI (N - 1) := by
    obtain ⟨M, rfl⟩ : ∃ M, N = M + 1 := ⟨N - 1, by omega⟩
    exact nI_pred M
  have hb : ∀ j, j < 32 → bt (setI p n &&& (setI p n - 1)) j = (decide (j < n) && p j && !decide (j = i) && decide (i ≤ j)) := by
    intro j hj
    rw [eN, hpred, b_and, bt_nI hj, bt_nI hj]
    by_cases hij : i ≤ j
    · rw [pred_bits hi1 hlow' hij, bits j hj, decide_eq_true hij]
      cases (decide (j < n) && p j) <;> simp
    · rw [hlow' j (by omega), decide_eq_false hij]
      simp
  rw [ct_one]
  constructor
  · intro h
    refine ⟨i, hi, hp, fun j hj hpj => ?_⟩
    have h2 := hb j (by omega)
    rw [h, b_0, decide_eq_true hj, hpj] at h2
    by_cases e : j = i
    · exact e
    · have : i ≤ j := by
        rcases Nat.lt_or_ge j i with a | a
        · exact absurd hpj (hlow j a)
        · exact a
      rw [decide_eq_false e, decide_eq_true this] at h2
      cases h2
  · rintro ⟨k, hk, hpk, hu⟩
    refine b_ext (fun j hj => ?_)
    rw [hb j hj, b_0]
    by_cases hjn : j < n
    · cases hpj : p j with
      | false => simp
      | true =>
        have e1 := hu j hjn hpj
        have e2 := hu i hi hp
        have : j = i := by omega
        simp [this]
    · rw [decide_eq_false hjn]
      rfl
