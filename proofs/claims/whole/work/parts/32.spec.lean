/-! WHAT THE GAME IS: a row s of 369 numbers (the check's), read as a world -/
def nR (s : Row) : Nat := (s 0).toNatClampNeg
def nT (s : Row) : Nat := (s 1).toNatClampNeg
def nD (s : Row) : Nat := (s 2).toNatClampNeg
def inB (x a b : Int32) : Bool := decide (a ≤ x) && decide (x ≤ b)
def isTh (s : Row) (x : Int32) : Bool := inB x 0 (s 1 - 1)
def isRm (s : Row) (x : Int32) : Bool := inB x 0 (s 0 - 1)
def bit (x f : Int32) : Bool := decide ((x >>> (f &&& 31)) &&& 1 = 1)
def hasF (s : Row) (t : Nat) (f : Int32) : Bool := bit (s (239 + t)) f
def held (s : Row) (t : Nat) : Bool := inB (s (255 + t)) 1 2
def par (s : Row) (t : Nat) : Nat := (s (271 + t)).toNatClampNeg
def sz (s : Row) (t : Nat) : Nat := (s (159 + t)).toNatClampNeg
def wF (x f : Int32) (on : Bool) : Int32 := cond on (x ||| (1 <<< (f &&& 31))) (x &&& ((1 <<< (f &&& 31)) ^^^ (-1)))
def sets (s : Row) (t : Nat) (f : Int32) (on : Bool) : Row := upd s (239 + t) (wF (s (239 + t)) f on)
def mvT (p g : Int32) : Int32 := if p ≤ 2 then g else -1
def moves (s : Row) (t : Nat) (p g : Int32) : Row := upd (upd s (255 + t) p) (271 + t) (mvT p g)
def isAtS (s : Row) (t : Nat) (p g : Int32) : Bool := decide (s (255 + t) = p) && (decide (2 < p) || decide (s (271 + t) = g))
def isHold (s : Row) (t : Nat) : Bool := decide (s (111 + t) = 1) || decide (s (111 + t) = 2)
def isLock (s : Row) (t : Nat) : Bool := decide (s (111 + t) = 1) || decide (s (111 + t) = 4)
def inOf (s : Row) (h but : Int32) (t : Nat) : Bool := !decide (nI t = but) && (held s t && decide (s (271 + t) = h))
def filled (s : Row) (h but : Int32) : Nat := fb_sm (fun t => cond (inOf s h but t) (sz s t) 0) (nT s)
/-- up from a thing to what holds it, n times at most -/
def topN (s : Row) : Nat → Nat → Nat
  | 0, t => t
  | n + 1, t => cond (held s t) (topN s n (par s t)) t
def top (s : Row) (t : Nat) : Nat := topN s 16 t
def outS (s : Row) (u : Nat) : Int32 := if s (255 + u) = 0 then s (271 + u) else if s (255 + u) = 3 then -1 else -2
def outer (s : Row) (t : Nat) : Int32 := outS s (top s t)
def insN (s : Row) (h : Nat) : Nat → Nat → Bool
  | 0, t => Nat.beq t h
  | n + 1, t => Nat.beq t h || (held s t && insN s h n (par s t))
/-- t is h, or in or on it, directly or through others -/
def inside (s : Row) (t h : Nat) : Bool := insN s h 16 t
def load (s : Row) : Nat := fb_sm (fun t => cond (decide (outer s t = -1)) (sz s t) 0) (nT s)
def bear (s : Row) (t : Nat) (p g : Int32) : Bool := decide (load (moves s t p g) ≤ 20)
def seeT (s : Row) (t : Nat) : Bool := hasF s t 1 || hasF s t 3
def seenN (s : Row) : Nat → Nat → Option Nat
  | 0, t => some t
  | n + 1, t => cond (held s t) (cond (decide (s (255 + t) = 1) && !seeT s (par s t)) none (seenN s n (par s t))) (some t)
def seenUp (s : Row) (t : Nat) : Option Nat := seenN s 16 t
def plays (s : Row) : Bool := decide (s 3 = 1)
def shownU (s : Row) (r : Int32) (u : Nat) : Bool := cond (decide (s (255 + u) = 0)) (decide (s (271 + u) = r)) (decide (s (255 + u) = 3) && (plays s && decide (s 5 = r)))
def shown (s : Row) (t : Nat) (r : Int32) : Bool := match seenUp s t with
  | none => false
  | some u => shownU s r u
def anyN (p : Nat → Bool) : Nat → Bool
  | 0 => false
  | n + 1 => anyN p n || p n
def lamp (s : Row) (r : Int32) (t : Nat) : Bool := hasF s t 4 && (decide (s (111 + t) = 3) && shown s t r)
def bright (s : Row) (r : Nat) : Bool := decide (s (7 + r) = 1) || anyN (lamp s (nI r)) (nT s)
def nP (s : Row) : Nat := (s 5).toNatClampNeg
def nearD (s : Row) (t : Nat) : Bool := anyN (fun k => decide (s (63 + (6 * nP s + k)) = nI t)) 6
def carU (s : Row) (t : Nat) : Bool := match seenUp s t with
  | none => false
  | some u => decide (s (255 + u) = 3)
def seen (s : Row) (t : Nat) : Bool := cond (bright s (nP s)) (shown s t (s 5) || nearD s t) (carU s t)
def openN (s : Row) : Nat → Nat → Bool
  | 0, _ => true
  | n + 1, t => !held s t || ((decide (s (255 + t) = 2) || hasF s (par s t) 1) && openN s n (par s t))
def reach (s : Row) (t : Nat) : Bool := seen s t && openN s 16 t
def fast (s : Row) (t : Nat) : Bool := decide (s (111 + t) = 4) || (hasF s t 0 && decide (s (111 + t) < 3))
def shut (s : Row) (e : Nat) : Bool := !decide (s (63 + e) = -1) && !hasF s (s (63 + e)).toNatClampNeg 1
/-! what always holds of a row -/
/-- up from t one comes to something that isn't held, in just n steps -/
def Rt (s : Row) : Nat → Nat → Prop
  | 0, t => held s t = false
  | n + 1, t => held s t = true ∧ Rt s n (par s t)
def WF (s : Row) : Prop := ∀ t, t < nT s → ∃ n, n < 16 ∧ Rt s n t
def Tplace (s : Row) (t : Nat) : Prop :=
  (s (255 + t) = 0 ∧ ∃ r, r < nR s ∧ s (271 + t) = nI r) ∨ (s (255 + t) = 1 ∧ ∃ h, h < nT s ∧ s (271 + t) = nI h ∧ s (111 + h) = 1) ∨
  (s (255 + t) = 2 ∧ ∃ h, h < nT s ∧ s (271 + t) = nI h ∧ s (111 + h) = 2) ∨ (s (255 + t) = 3 ∧ s (271 + t) = -1) ∨ (s (255 + t) = 4 ∧ s (271 + t) = -1)
def Tflag (s : Row) (t : Nat) : Prop :=
  (∃ f, f < 32 ∧ s (239 + t) = nI f) ∧ (∃ f, f < 100 ∧ s (207 + t) = nI f) ∧ (hasF s t 0 = true → s (111 + t) < 3) ∧ (hasF s t 1 = true → isLock s t = true) ∧ (hasF s t 3 = true → s (111 + t) = 1) ∧ (hasF s t 4 = true → s (111 + t) = 3 ∧ ¬ s (207 + t) = 0)
/-- the numbers that stay while the world is played -/
def Pok (s : Row) : Prop :=
  (s 0 = nI (nR s) ∧ nR s ≤ 8 ∧ s 1 = nI (nT s) ∧ nT s ≤ 16 ∧ s 2 = nI (nD s) ∧ nD s ≤ 6) ∧
  (∀ r, r < nR s → ∀ k, k < 6 → (s (15 + (6 * r + k)) = -1 ∨ ∃ q, q < nR s ∧ s (15 + (6 * r + k)) = nI q) ∧ (s (63 + (6 * r + k)) = -1 ∨ ∃ t, t < nT s ∧ s (63 + (6 * r + k)) = nI t)) ∧
  (∀ t, t < nT s → (∃ k, k < 5 ∧ s (111 + t) = nI k) ∧ ∃ z, 1 ≤ z ∧ z < 10 ∧ s (159 + t) = nI z) ∧
  (∀ d, d < nD s → (∃ k, k < 4 ∧ s (287 + d) = nI k) ∧ ∃ t, t < nT s ∧ s (293 + d) = nI t ∧ (s (287 + d) = 2 → s (111 + t) = 1) ∧ (s (287 + d) = 3 → s (111 + t) = 3)) ∧
  (∀ t, nT s ≤ t → t < 16 → s (175 + t) = 0 ∧ s (191 + t) = 0)
/-- the numbers that change -/
def Wok (s : Row) : Prop :=
  (∀ t, t < nT s → Tplace s t ∧ Tflag s t) ∧ WF s ∧ (∀ t, nT s ≤ t → t < 16 → s (207 + t) = 0 ∧ s (239 + t) = 0) ∧
  (∀ d, d < nD s → s 3 = 1 → s (317 + d) = -1 ∨ ∃ w, w < 6 ∧ s (317 + d) = nI w) ∧
  ((s 3 = 0 ∧ s 4 = 0 ∧ s 6 = 0) ∨ (s 3 = 1 ∧ (∃ r, r < nR s ∧ s 5 = nI r) ∧ ∃ e, e ≤ 40 ∧ s 6 = nI e)) ∧ (∀ k, 369 ≤ k → s k = 0)
def Ok (s : Row) : Prop := Pok s ∧ Wok s
