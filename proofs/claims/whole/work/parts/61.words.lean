/-! words, and what a text is read as -/
def wl (w : Nat) : Nat := ax_lenS.getD w 0
def wc (w i : Nat) : Int32 := ((((ax_bytS.getD w []).getD i 0) &&& 255).toUInt32 % 65536).toInt32
theorem wl_7 : ∀ w, w < 34 → wl w ≤ 7 := by decide +kernel
theorem wl_2 : ∀ w, w < 34 → 2 ≤ wl w := by decide +kernel
theorem wc_ok : ∀ w, w < 34 → ∀ i, i < 8 → vp_nar .char (wc w i) = wc w i := by decide +kernel
theorem ct_jchk {x n : Nat} (h : x < n) (hn : n < 2 ^ 31) {d : ax_D} {Q : ax_P} (hQ : Q d (Sum.inl none)) : CT 0 [Sum.inl (nI x), Sum.inl (nI n)] d Q := by
  refine ⟨d, Sum.inl none, hQ, ?_⟩
  show cond (!(decide (nI x < 0)) && decide (nI x < nI n)) (some (d, Sum.inl none)) none = some (d, Sum.inl none)
  have h1 : ¬ nI x < 0 := by
    rw [Int32.not_lt]
    exact nI_le (a := 0) (Nat.zero_le x) (by omega)
  rw [decide_eq_false h1, decide_eq_true (nI_lt h hn)]
  rfl
theorem t_len {w : Nat} (hw : w < 34) (d : ax_D) (Q : ax_P) : CT 103 [ax_vR 13 w 0] d Q ↔ Q d (Sum.inl (some (Sum.inl (nI (wl w))))) := by
  refine ct_of (fun Q hQ => w103 _ (w102 _ ?_)) Q
  have := wl_7 w hw
  show Q d (Sum.inl (some (Sum.inl (nI (wl w) >>> (0 &&& 31)))))
  rw [pk_shrN (by omega) (0 &&& 31) 0 (by decide), Nat.pow_zero, Nat.div_one]
  exact hQ
theorem t_char {w i : Nat} (hw : w < 34) (hi : i < wl w) (d : ax_D) (Q : ax_P) : CT 101 [ax_vR 13 w 0, Sum.inl (nI i)] d Q ↔ Q d (Sum.inl (some (Sum.inl (wc w i)))) := by
  refine ct_of (fun Q hQ => ?_) Q
  have h7 := wl_7 w hw
  refine w101 _ _ (w99 _ ⟨fun e => absurd e (by decide), fun _ => w100 _ _ (ct_jchk (n := wl w) hi (by omega) ?_)⟩)
  have e : (nI i).toNatClampNeg = i := nI_clamp (by omega)
  rw [e]
  refine ⟨ax_in_nI (N := wl w) hi (by omega), wc_ok w hw i (by omega), wc_ok w hw i (by omega), hQ⟩
/-- how far a word stands at a place -/
def agN (tx : Row) (ln w at_ : Nat) : Nat → Nat → Nat
  | 0, i => i
  | n + 1, i => cond (decide (i < wl w) && (decide (at_ + i < ln) && decide (tx (at_ + i) = wc w i))) (agN tx ln w at_ n (i + 1)) i
def agr (tx : Row) (ln w at_ : Nat) : Nat := agN tx ln w at_ 8 0
def full (tx : Row) (ln w at_ : Nat) : Bool := decide (agr tx ln w at_ = wl w)
section WD
variable {tx : Row} {ln : Nat}
theorem agN_b {w a : Nat} : ∀ n i, i ≤ wl w → a + i ≤ ln → agN tx ln w a n i ≤ wl w ∧ a + agN tx ln w a n i ≤ ln ∧ i ≤ agN tx ln w a n i := by
  intro n
  induction n with
  | zero => intro i h1 h2; exact ⟨h1, h2, Nat.le_refl _⟩
  | succ n ih =>
    intro i h1 h2
    unfold agN
    cases hc : (decide (i < wl w) && (decide (a + i < ln) && decide (tx (a + i) = wc w i))) with
    | false => exact ⟨h1, h2, Nat.le_refl _⟩
    | true =>
      have c1 := (Bool.and_eq_true _ _).mp hc
      have c2 := (Bool.and_eq_true _ _).mp c1.2
      have h3 := of_decide_eq_true c1.1
      have h4 := of_decide_eq_true c2.1
      obtain ⟨k1, k2, k3⟩ := ih (i + 1) (by omega) (by omega)
      exact ⟨k1, k2, by show i ≤ agN tx ln w a n (i + 1); omega⟩
theorem agr_b {w a : Nat} (ha : a ≤ ln) : agr tx ln w a ≤ wl w ∧ a + agr tx ln w a ≤ ln := by
  obtain ⟨h1, h2, -⟩ := agN_b (tx := tx) (w := w) 8 0 (Nat.zero_le _) ha
  exact ⟨h1, h2⟩
theorem agN_get {w a : Nat} : ∀ n i k, i ≤ k → k < agN tx ln w a n i → tx (a + k) = wc w k := by
  intro n
  induction n with
  | zero => intro i k h1 h2; exact absurd h2 (Nat.not_lt.mpr h1)
  | succ n ih =>
    intro i k h1 h2
    unfold agN at h2
    cases hc : (decide (i < wl w) && (decide (a + i < ln) && decide (tx (a + i) = wc w i))) with
    | false => rw [hc] at h2; exact absurd h2 (Nat.not_lt.mpr h1)
    | true =>
      rw [hc] at h2
      have c1 := (Bool.and_eq_true _ _).mp hc
      have c2 := (Bool.and_eq_true _ _).mp c1.2
      by_cases e : k = i
      · rw [e]; exact of_decide_eq_true c2.2
      · exact ih (i + 1) k (by omega) h2
theorem full_get {w a k : Nat} (h : full tx ln w a = true) (hk : k < wl w) : tx (a + k) = wc w k := agN_get 8 0 k (Nat.zero_le _) (by rw [show agN tx ln w a 8 0 = wl w from of_decide_eq_true h]; exact hk)
theorem full_ln {w a : Nat} (ha : a ≤ ln) (h : full tx ln w a = true) : a + wl w ≤ ln := by
  have := (agr_b (tx := tx) (w := w) ha).2
  rw [show agr tx ln w a = wl w from of_decide_eq_true h] at this
  exact this
/-- no word begins with another -/
theorem pfx_v : ∀ i, i < 18 → ∀ j, j < 18 → i ≠ j → ∃ k, k < 7 ∧ k < wl i ∧ k < wl j ∧ wc i k ≠ wc j k := by decide +kernel
theorem pfx_n : ∀ i, i < 12 → ∀ j, j < 12 → i ≠ j → ∃ k, k < 7 ∧ k < wl (18 + i) ∧ k < wl (18 + j) ∧ wc (18 + i) k ≠ wc (18 + j) k := by decide +kernel
theorem full_1v {i j a : Nat} (hi : i < 18) (hj : j < 18) (h1 : full tx ln i a = true) (h2 : full tx ln j a = true) : i = j := by
  by_cases e : i = j
  · exact e
  · obtain ⟨k, -, k1, k2, k3⟩ := pfx_v i hi j hj e
    exact absurd ((full_get h1 k1).symm.trans (full_get h2 k2)) k3
theorem full_1n {i j a : Nat} (hi : 18 ≤ i ∧ i < 30) (hj : 18 ≤ j ∧ j < 30) (h1 : full tx ln i a = true) (h2 : full tx ln j a = true) : i = j := by
  by_cases e : i = j
  · exact e
  · obtain ⟨k, -, k1, k2, k3⟩ := pfx_n (i - 18) (by omega) (j - 18) (by omega) (by omega)
    rw [show 18 + (i - 18) = i by omega] at k1 k3
    rw [show 18 + (j - 18) = j by omega] at k2 k3
    exact absurd ((full_get h1 k1).symm.trans (full_get h2 k2)) k3
def mxA (tx : Row) (ln a lo : Nat) : Nat → Nat
  | 0 => 0
  | n + 1 => max (mxA tx ln a lo n) (agr tx ln (lo + n) a)
/-- the word of a range that stands at a place, or how far one does -/
def RW (tx : Row) (ln lo n a : Nat) : Nat ⊕ Nat := match first (fun i => full tx ln (lo + i) a) n with
  | some i => Sum.inr (lo + i)
  | none => Sum.inl (a + mxA tx ln a lo n)
theorem mxA_add (a lo m : Nat) : ∀ n, mxA tx ln a lo (m + n) = max (mxA tx ln a lo m) (mxA tx ln a (lo + m) n) := by
  intro n
  induction n with
  | zero => exact (Nat.max_eq_left (Nat.zero_le _)).symm
  | succ n ih =>
    show max (mxA tx ln a lo (m + n)) (agr tx ln (lo + (m + n)) a) = max (mxA tx ln a lo m) (max (mxA tx ln a (lo + m) n) (agr tx ln (lo + m + n) a))
    rw [ih, Nat.max_assoc, Nat.add_assoc]
theorem mxA_b {a : Nat} (ha : a ≤ ln) (lo : Nat) : ∀ n, a + mxA tx ln a lo n ≤ ln := by
  intro n
  induction n with
  | zero => exact ha
  | succ n ih =>
    have := (agr_b (tx := tx) (w := lo + n) ha).2
    show a + max (mxA tx ln a lo n) (agr tx ln (lo + n) a) ≤ ln
    omega
theorem mxA_7 {a : Nat} (ha : a ≤ ln) (lo : Nat) : ∀ n, lo + n ≤ 34 → mxA tx ln a lo n ≤ 7 := by
  intro n
  induction n with
  | zero => intro _; exact Nat.zero_le _
  | succ n ih =>
    intro h
    have h1 := (agr_b (tx := tx) (w := lo + n) ha).1
    have h2 := wl_7 (lo + n) (by omega)
    have h3 := ih (by omega)
    show max (mxA tx ln a lo n) (agr tx ln (lo + n) a) ≤ 7
    omega
theorem RW_no {lo n a : Nat} (h : ∀ i, i < n → full tx ln (lo + i) a = false) : RW tx ln lo n a = Sum.inl (a + mxA tx ln a lo n) := by
  unfold RW
  cases hf : first (fun i => full tx ln (lo + i) a) n with
  | none => rfl
  | some i =>
    obtain ⟨f1, f2, -⟩ := first_some hf
    have f2 : full tx ln (lo + i) a = true := f2
    rw [h i f1] at f2
    cases f2
theorem RW_yes {lo n a w : Nat} (hw : lo ≤ w ∧ w < lo + n) (hf : full tx ln w a = true) (h1 : ∀ i, i < n → full tx ln (lo + i) a = true → lo + i = w) : RW tx ln lo n a = Sum.inr w := by
  unfold RW
  cases hq : first (fun i => full tx ln (lo + i) a) n with
  | none =>
    have := first_none hq (w - lo) (by omega)
    have this : full tx ln (lo + (w - lo)) a = false := this
    rw [show lo + (w - lo) = w by omega, hf] at this
    cases this
  | some i =>
    obtain ⟨f1, f2, -⟩ := first_some hq
    show (Sum.inr (lo + i) : Nat ⊕ Nat) = Sum.inr w
    rw [h1 i f1 f2]
theorem RW_first {lo n a i : Nat} (hi : i < n) (h0 : ∀ z, z < i → full tx ln (lo + z) a = false) (hf : full tx ln (lo + i) a = true) : RW tx ln lo n a = Sum.inr (lo + i) := by
  unfold RW
  cases hq : first (fun i => full tx ln (lo + i) a) n with
  | none =>
    have this : full tx ln (lo + i) a = false := first_none hq i hi
    rw [hf] at this
    cases this
  | some j =>
    obtain ⟨f1, f2, f3⟩ := first_some hq
    have f2 : full tx ln (lo + j) a = true := f2
    have : j = i := by
      rcases Nat.lt_trichotomy j i with g | g | g
      · rw [h0 j g] at f2; cases f2
      · exact g
      · have f3 : full tx ln (lo + i) a = false := f3 i g
        rw [hf] at f3; cases f3
    rw [this]
theorem RW_lt {lo n a w : Nat} (h : RW tx ln lo n a = Sum.inr w) : lo ≤ w ∧ w < lo + n ∧ full tx ln w a = true := by
  unfold RW at h
  cases hq : first (fun i => full tx ln (lo + i) a) n with
  | none => rw [hq] at h; cases h
  | some i =>
    rw [hq] at h
    obtain ⟨f1, f2, -⟩ := first_some hq
    have e : lo + i = w := Sum.inr.inj h
    rw [← e]
    exact ⟨by omega, by omega, f2⟩
theorem RW_f {lo n a f : Nat} (h : RW tx ln lo n a = Sum.inl f) : f = a + mxA tx ln a lo n ∧ ∀ i, i < n → full tx ln (lo + i) a = false := by
  unfold RW at h
  cases hq : first (fun i => full tx ln (lo + i) a) n with
  | none => rw [hq] at h; exact ⟨(Sum.inl.inj h).symm, fun i hi => first_none hq i hi⟩
  | some i => rw [hq] at h; cases h
/-- a noun phrase -/
def PH (tx : Row) (ln : Nat) (all : Bool) (a : Nat) : Nat ⊕ (Nat × Nat) := match RW tx ln 18 (cond all 12 11) a with
  | Sum.inl f => Sum.inl f
  | Sum.inr w => if w = 29 then Sum.inr (63, a + 3) else if w < 26 then Sum.inr (w - 18, a + wl w) else (match RW tx ln 18 8 (a + 4) with
    | Sum.inl f => Sum.inl f
    | Sum.inr u => Sum.inr (8 * (w - 25) + (u - 18), a + 4 + wl u))
/-- a command: verb, two phrases, place -/
def CM (tx : Row) (ln a : Nat) : Nat ⊕ ((Nat × Nat × Nat × Nat) × Nat) := match RW tx ln 0 18 a with
  | Sum.inl f => Sum.inl f
  | Sum.inr w => if w = 8 then (match RW tx ln 0 6 (a + 3) with
      | Sum.inl f => Sum.inl f
      | Sum.inr k => Sum.inr ((k, 0, 0, 0), a + 3 + wl k))
    else if w ≤ 7 then Sum.inr ((w, 0, 0, 0), a + wl w)
    else (match PH tx ln (decide (w = 9) || decide (w = 10)) (a + wl w) with
      | Sum.inl f => Sum.inl f
      | Sum.inr (x, a2) => if w < 15 then Sum.inr ((w, x, 0, 0), a2)
        else (match RW tx ln (if w = 15 then 30 else 32) (if w = 15 then 2 else 1) a2 with
          | Sum.inl f => Sum.inl f
          | Sum.inr l => (match PH tx ln false (a2 + wl l) with
            | Sum.inl f => Sum.inl f
            | Sum.inr (y, a4) => Sum.inr ((w, x, y, if l = 30 then 1 else 2), a4))))
/-- commands -/
def CSN (tx : Row) (ln : Nat) : Nat → Nat → Nat ⊕ List (Nat × Nat × Nat × Nat)
  | 0, _ => Sum.inr []
  | n + 1, a => match CM tx ln a with
    | Sum.inl f => Sum.inl f
    | Sum.inr (c, a1) => if a1 = ln then Sum.inr [c] else (match RW tx ln 33 1 a1 with
      | Sum.inl f => Sum.inl f
      | Sum.inr _ => (match CSN tx ln n (a1 + 2) with
        | Sum.inl f => Sum.inl f
        | Sum.inr l => Sum.inr (c :: l)))
theorem PH_b {all : Bool} {a x b : Nat} (ha : a ≤ ln) (h : PH tx ln all a = Sum.inr (x, b)) : a ≤ b ∧ b ≤ ln ∧ (x < 32 ∨ (x = 63 ∧ all = true)) := by
  unfold PH at h
  cases hr : RW tx ln 18 (cond all 12 11) a with
  | inl f => rw [hr] at h; cases h
  | inr w =>
    rw [hr] at h
    obtain ⟨k1, k2, k3⟩ := RW_lt hr
    have hb := full_ln ha k3
    have h : (if w = 29 then Sum.inr (63, a + 3) else if w < 26 then Sum.inr (w - 18, a + wl w) else (match RW tx ln 18 8 (a + 4) with
      | Sum.inl f => Sum.inl f
      | Sum.inr u => Sum.inr (8 * (w - 25) + (u - 18), a + 4 + wl u)) : Nat ⊕ (Nat × Nat)) = Sum.inr (x, b) := h
    by_cases e : w = 29
    · rw [if_pos e] at h
      cases h
      rw [e] at hb k2
      refine ⟨by omega, hb, Or.inr ⟨rfl, ?_⟩⟩
      cases all with
      | true => rfl
      | false => exact absurd k2 (by decide)
    · rw [if_neg e] at h
      have k2 : w < 30 := Nat.lt_of_lt_of_le k2 (by cases all <;> decide)
      by_cases e2 : w < 26
      · rw [if_pos e2] at h
        cases h
        exact ⟨by omega, hb, Or.inl (by omega)⟩
      · rw [if_neg e2] at h
        have e4 : wl w = 4 := by
          rcases (by omega : w = 26 ∨ w = 27 ∨ w = 28) with q | q | q <;> rw [q] <;> rfl
        rw [e4] at hb
        cases hu : RW tx ln 18 8 (a + 4) with
        | inl f => rw [hu] at h; cases h
        | inr u =>
          rw [hu] at h
          cases h
          obtain ⟨m1, m2, m3⟩ := RW_lt hu
          have hc := full_ln hb m3
          exact ⟨by omega, hc, Or.inl (by omega)⟩
end WD
