/-! what is done in a turn: the daemons, the lamps, the verbs -/
def foldN {α : Type} (f : Nat → α → α) : Nat → α → α
  | 0, a => a
  | n + 1, a => f n (foldN f n a)
theorem foldN_succ {α : Type} (f : Nat → α → α) (n : Nat) (a : α) : foldN f (n + 1) a = f n (foldN f n a) := rfl
def findN (p : Nat → Bool) : Nat → Nat → Option Nat
  | 0, _ => none
  | k + 1, i => cond (p i) (some i) (findN p k (i + 1))
/-- the first one below T -/
def first (p : Nat → Bool) (T : Nat) : Option Nat := findN p T 0
theorem find_step {p : Nat → Bool} {T i : Nat} (h : i < T) : findN p (T - i) i = cond (p i) (some i) (findN p (T - (i + 1)) (i + 1)) := by
  obtain ⟨k, hk⟩ : ∃ k, T - i = k + 1 := ⟨T - i - 1, by omega⟩
  rw [hk, show T - (i + 1) = k by omega]
  rfl
theorem find_end {p : Nat → Bool} {T : Nat} : findN p (T - T) T = none := by rw [Nat.sub_self]; rfl
theorem findN_spec {p : Nat → Bool} : ∀ {k i j : Nat}, findN p k i = some j → i ≤ j ∧ j < i + k ∧ p j = true ∧ ∀ z, i ≤ z → z < j → p z = false := by
  intro k
  induction k with
  | zero => intro i j h; cases h
  | succ k ih =>
    intro i j h
    unfold findN at h
    cases hp : p i with
    | true =>
      rw [hp] at h
      cases h
      exact ⟨Nat.le_refl _, by omega, hp, fun z h1 h2 => by omega⟩
    | false =>
      rw [hp] at h
      obtain ⟨a, b, c, e⟩ := ih h
      refine ⟨by omega, by omega, c, fun z h1 h2 => ?_⟩
      by_cases hz : z = i
      · rw [hz]; exact hp
      · exact e z (by omega) h2
theorem findN_none {p : Nat → Bool} : ∀ {k i : Nat}, findN p k i = none → ∀ z, i ≤ z → z < i + k → p z = false := by
  intro k
  induction k with
  | zero => intro i _ z h1 h2; omega
  | succ k ih =>
    intro i h z h1 h2
    unfold findN at h
    cases hp : p i with
    | true => rw [hp] at h; cases h
    | false =>
      rw [hp] at h
      by_cases hz : z = i
      · rw [hz]; exact hp
      · exact ih h z (by omega) (by omega)
theorem first_some {p : Nat → Bool} {T j : Nat} (h : first p T = some j) : j < T ∧ p j = true ∧ ∀ z, z < j → p z = false := by
  obtain ⟨-, b, c, e⟩ := findN_spec h
  exact ⟨by omega, c, fun z hz => e z (by omega) hz⟩
theorem first_none {p : Nat → Bool} {T : Nat} (h : first p T = none) : ∀ z, z < T → p z = false := fun z hz => findN_none h z (by omega) (by omega)
theorem findN_cong {p q : Nat → Bool} : ∀ {k i : Nat}, (∀ z, i ≤ z → z < i + k → p z = q z) → findN p k i = findN q k i := by
  intro k
  induction k with
  | zero => intro i _; rfl
  | succ k ih =>
    intro i h
    unfold findN
    rw [h i (Nat.le_refl _) (by omega), ih (fun z h1 h2 => h z (by omega) (by omega))]
theorem first_cong {p q : Nat → Bool} {T : Nat} (h : ∀ z, z < T → p z = q z) : first p T = first q T := findN_cong (fun z _ h2 => h z (by omega))
/-- events -/
def shE (s : Row) (n : Nat) : Row := fun j => if 329 ≤ j ∧ j < 329 + n then s (j + 1) else s j
def logS (s : Row) (v : Int32) : Row := cond (decide (s 6 = 40)) (upd (shE s 39) 368 v) (upd (upd s 6 (s 6 + 1)) (329 + (s 6).toNatClampNeg) v)
def causeS (s : Row) (k : Nat) (v : Int32) : Row := logS (upd s (323 + k) (s (323 + k) + 1)) v
def dT (s : Row) (k : Nat) : Nat := (s (293 + k)).toNatClampNeg
def dW (s : Row) (k : Nat) : Nat := (s (317 + k) + 1).toNatClampNeg
def goes (s : Row) (e : Nat) : Bool := !decide (s (15 + e) = -1) && !shut s e
def wandE (s : Row) (k t i : Nat) : Nat := 6 * par s t + (dW s k + i) % 6
def wandS (s : Row) (k : Nat) : Row := cond (decide (s (255 + dT s k) = 0)) (match first (fun i => goes s (wandE s k (dT s k) i)) 6 with
  | none => s
  | some i => causeS (upd (upd s (271 + dT s k) (s (15 + wandE s k (dT s k) i))) (317 + k) (nI ((dW s k + i) % 6))) k (nI (200 + dT s k))) s
def gathP (s : Row) (c t : Nat) : Bool := !Nat.beq t c && (isAtS s t 0 (s (271 + c)) && (!fast s t && !decide (s (175 + c) < nI (filled s (nI c) (-1) + sz s t))))
def gathS (s : Row) (k : Nat) : Row := cond (decide (s (255 + dT s k) = 0) && hasF s (dT s k) 1) (match first (gathP s (dT s k)) (nT s) with
  | none => s
  | some t => causeS (moves s t 1 (nI (dT s k))) k (nI (300 + t))) s
def shutS (s : Row) (k : Nat) : Row := cond (hasF s (dT s k) 1) (causeS (sets s (dT s k) 1 false) k (nI (100 + dT s k))) s
def togS (s : Row) (k : Nat) : Row := cond (hasF s (dT s k) 4) (causeS (sets s (dT s k) 4 false) k (nI (500 + dT s k))) (cond (decide (s (207 + dT s k) = 0)) s (causeS (sets s (dT s k) 4 true) k (nI (400 + dT s k))))
def stirA (s : Row) (k : Nat) : Row := cond (decide (s (287 + k) = 0)) (shutS s k) (cond (decide (s (287 + k) = 1)) (wandS s k) (cond (decide (s (287 + k) = 2)) (gathS s k) (togS s k)))
def stirE (s : Row) (k : Nat) : Row := upd s (311 + k) (cond (decide (s (305 + k) = 1)) (-1) (s 4 + s (299 + k)))
def stirS (s : Row) (k : Nat) : Row := stirE (stirA s k) k
def passD (k : Nat) (s : Row) : Row := cond (decide (s (311 + k) = s 4)) (stirS s k) s
def burnS (s : Row) (t : Nat) : Row := cond (decide (s (207 + t) - 1 = 0)) (logS (sets (upd s (207 + t) (s (207 + t) - 1)) t 4 false) (nI (600 + t))) (upd s (207 + t) (s (207 + t) - 1))
def passL (t : Nat) (s : Row) : Row := cond (decide (s (111 + t) = 3) && hasF s t 4) (burnS s t) s
def tick (s : Row) : Row := upd s 4 (s 4 + 1)
def passS (s : Row) : Row := foldN passL (nT s) (foldN passD (nD s) (tick s))
/-- a verb's outcome: refused for a reason that concerns a thing, or the new world -/
abbrev AR : Type := (Int32 × Int32) ⊕ Row
def rf (w a : Int32) : AR := Sum.inl (w, a)
def ok (s : Row) : AR := Sum.inr s
def takS (s : Row) (t : Nat) : AR := cond (fast s t) (rf 10 (nI t)) (cond (decide (s (255 + t) = 3)) (rf 5 (-1)) (cond (bear s t 3 (-1)) (ok (moves s t 3 (-1))) (rf 7 (nI t))))
def drpS (s : Row) (t : Nat) : AR := cond (decide (s (255 + t) = 3)) (ok (moves s t 0 (s 5))) (rf 5 (-1))
def opnS (s : Row) (t : Nat) (on : Bool) : AR := cond (isLock s t) (cond (hasF s t 1 == on) (rf 5 (-1)) (cond (on && hasF s t 2) (rf 6 (nI t)) (ok (sets s t 1 on)))) (rf 4 (nI t))
def lokS (s : Row) (t q : Nat) (on : Bool) : AR := cond (isLock s t) (cond (hasF s t 2 == on) (rf 5 (-1)) (cond (on && hasF s t 1) (rf 6 (nI t)) (cond (decide (s (223 + t) = nI q)) (ok (sets s t 2 on)) (rf 8 (nI q))))) (rf 4 (nI t))
def litS (s : Row) (t : Nat) (on : Bool) : AR := cond (decide (s (111 + t) = 3)) (cond (hasF s t 4 == on) (rf 5 (-1)) (cond (on && decide (s (207 + t) = 0)) (rf 11 (nI t)) (ok (sets s t 4 on)))) (rf 4 (nI t))
def putS (s : Row) (t q : Nat) (p : Int32) : AR := cond (fast s t) (rf 10 (nI t)) (cond (decide (s (111 + q) = p)) (cond (inside s q t) (rf 13 (nI t)) (cond (decide (p = 1) && !hasF s q 1) (rf 6 (nI q))
  (cond (isAtS s t p (nI q)) (rf 5 (-1)) (cond (decide (s (175 + q) < nI (filled s (nI q) (nI t) + sz s t)) || !bear s t p (nI q)) (rf 7 (nI q)) (ok (moves s t p (nI q))))))) (rf 4 (nI q)))
def movS (s : Row) (k : Nat) : AR := cond (decide (s (15 + (6 * nP s + k)) = -1)) (rf 9 (-1)) (cond (shut s (6 * nP s + k)) (rf 6 (s (63 + (6 * nP s + k)))) (ok (upd s 5 (s (15 + (6 * nP s + k))))))
def talP (s : Row) (t : Nat) : Bool := isAtS s t 0 (s 5) && (!fast s t && (reach s t && bear s t 3 (-1)))
def talF (t : Nat) (a : Bool × Row) : Bool × Row := cond (talP a.2 t) (true, moves a.2 t 3 (-1)) a
def dalF (t : Nat) (a : Bool × Row) : Bool × Row := cond (decide (a.2 (255 + t) = 3)) (true, moves a.2 t 0 (a.2 5)) a
def anyS (a : Bool × Row) : AR := cond a.1 (ok a.2) (rf 5 (-1))
def talS (s : Row) : AR := anyS (foldN talF (nT s) (false, s))
def dalS (s : Row) : AR := anyS (foldN dalF (nT s) (false, s))
/-- the things that a noun phrase means -/
def vis (s : Row) (n a : Int32) (t : Nat) : Bool := decide (s (127 + t) = n) && ((decide (a = 0) || decide (s (143 + t) = a)) && seen s t)
def car (s : Row) (t : Nat) : Bool := decide (s (255 + t) = 3)
def prefS (s : Row) (n a p : Int32) (t : Nat) : Bool := cond (decide (p = 1)) (vis s n a t && !car s t) (cond (decide (p = 2)) (vis s n a t && car s t) false)
def meantP (s : Row) (n a p : Int32) : Nat → Bool := cond (!decide (fb_ct (vis s n a) (nT s) = 1) && !decide (fb_ct (prefS s n a p) (nT s) = 0)) (prefS s n a p) (vis s n a)
/-- the thing that is meant, or the reason -/
def meantS (s : Row) (n a p : Int32) : Int32 ⊕ Nat := cond (decide (fb_ct (meantP s n a p) (nT s) = 1)) (match first (meantP s n a p) (nT s) with
  | some t => Sum.inr t
  | none => Sum.inl 1) (Sum.inl (cond (decide (fb_ct (meantP s n a p) (nT s) = 0)) 1 2))
/-- a command as it was read: the verb, and each noun and adjective -/
abbrev Cmd : Type := Int32 × Int32 × Int32 × Int32 × Int32
def doesS (s : Row) (v : Int32) (t q : Nat) : AR := cond (decide (v = 3)) (takS s t) (cond (decide (v = 4)) (drpS s t) (cond (decide (v = 5)) (opnS s t true) (cond (decide (v = 6)) (opnS s t false) (cond (decide (v = 7)) (litS s t true)
  (cond (decide (v = 8)) (litS s t false) (cond (decide (v = 9)) (putS s t q 1) (cond (decide (v = 10)) (putS s t q 2) (cond (decide (v = 11)) (lokS s t q true) (lokS s t q false)))))))))
def prefV (v : Int32) : Int32 := cond (decide (v = 3)) 1 (cond (decide (v = 4)) 2 (cond (inB v 9 10) 2 0))
def oneS (s : Row) (c : Cmd) : AR := match meantS s c.2.1 c.2.2.1 (prefV c.1) with
  | Sum.inl w => rf w (-1)
  | Sum.inr t => cond (reach s t) (doesS s c.1 t 0) (rf 3 (nI t))
def twoS (s : Row) (c : Cmd) : AR := match meantS s c.2.1 c.2.2.1 (prefV c.1) with
  | Sum.inl w => rf w (-1)
  | Sum.inr t => (match meantS s c.2.2.2.1 c.2.2.2.2 0 with
    | Sum.inl w => rf w (-1)
    | Sum.inr q => cond (reach s t) (cond (reach s q) (doesS s c.1 t q) (rf 3 (nI q))) (rf 3 (nI t)))
def actS (s : Row) (c : Cmd) : AR := cond (decide (c.1 = 0)) (cond (bright s (nP s)) (ok s) (rf 12 (-1))) (cond (decide (c.1 = 1)) (ok s) (cond (decide (c.1 = 2)) (movS s c.2.1.toNatClampNeg)
  (cond (decide (c.1 = 13)) (talS s) (cond (decide (c.1 = 14)) (dalS s) (cond (decide (8 < c.1)) (twoS s c) (oneS s c))))))
