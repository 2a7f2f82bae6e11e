/-! the class: members of a set, and what a noun phrase means -/
/-- the k-th member, by its number as an int -/
def mem (p : Nat → Bool) (n : Nat) (x : Int32) : Option Nat := first (fun i => p i && decide (x = nI (fb_ct p i))) n
def memV (p : Nat → Bool) (n : Nat) (x : Int32) : Int32 := match mem p n x with
  | none => -1
  | some i => nI i
theorem c_member {p : Nat → Bool} {n : Nat} (hn : n ≤ 16) (x : Int32) (d : ax_D) (Q : ax_P) : CT 42 [Sum.inl (setI p n), Sum.inl x] d Q ↔ Q d (Sum.inl (some (Sum.inl (memV p n x)))) := by
  suffices h : ∀ Q : ax_P, (∀ d E, ¬ Q d (Sum.inr E)) → Q d (Sum.inl (some (Sum.inl (memV p n x)))) → CT 42 [Sum.inl (setI p n), Sum.inl x] d Q from ct_iff (h _ (fun d E g => by cases g.2) ⟨rfl, rfl⟩) Q
  intro Q hX hQ
  refine w42 _ _ hX ?_
  have key : ∀ i, i ≤ 16 → (∀ z, z < i → z < n → (p z && decide (x = nI (fb_ct p z))) = false) → h42_4 (setI p n) x (x - nI (fb_ct p (min i n))) (nI i) d Q := by
    refine lp_up (fun i => (∀ z, z < i → z < n → (p z && decide (x = nI (fb_ct p z))) = false) → h42_4 (setI p n) x (x - nI (fb_ct p (min i n))) (nI i) d Q) 16 ?_ ?_
    · intro hz
      refine w42_4 _ _ _ _ ⟨fun _ => ?_, fun g => absurd (by decide) g⟩
      have : mem p n x = none := by
        cases hm : mem p n x with
        | none => rfl
        | some j =>
          obtain ⟨f1, f2, -⟩ := first_some hm
          have f2 : (p j && decide (x = nI (fb_ct p j))) = true := f2
          rw [hz j (by omega) f1] at f2
          cases f2
      unfold memV at hQ
      rw [this] at hQ
      exact hQ
    · intro i hi ih hz
      refine w42_4 _ _ _ _ ⟨fun g => absurd g (nI_ge (b := 16) hi (by omega)), fun _ => ?_⟩
      refine (c_cont hi _ _ _).mpr ?_
      rw [bt_setI (by omega) (by omega)]
      have next : (i < n → (p i && decide (x = nI (fb_ct p i))) = false) → ∀ y, y = x - nI (fb_ct p (min (i + 1) n)) → h42_4 (setI p n) x y (nI i + 1) d Q := by
        intro hno y hy
        rw [nI_1, hy]
        exact ih (fun z hz1 hz2 => by
          by_cases e : z = i
          · subst e; exact hno hz2
          · exact hz z (by omega) hz2)
      by_cases hin : i < n
      · rw [decide_eq_true hin, Bool.true_and, show min i n = i by omega]
        rw [show min (i + 1) n = i + 1 by omega, fb_ct_succ] at next
        refine ⟨fun g => ?_, fun g => ⟨fun g2 => ?_, fun g2 => ?_⟩⟩
        · rw [b2i_0] at g
          exact next (fun _ => by rw [g]; rfl) _ (by rw [g]; simp)
        · rw [b2i_0, Bool.not_eq_false] at g
          have hx : x = nI (fb_ct p i) := by
            have := congrArg (fun z => z + nI (fb_ct p i)) g2
            simpa using this
          have hm : mem p n x = some i := by
            have hpi : (p i && decide (x = nI (fb_ct p i))) = true := by rw [g, decide_eq_true hx]; rfl
            cases hm : mem p n x with
            | none =>
              have := first_none hm i hin
              have this : (p i && decide (x = nI (fb_ct p i))) = false := this
              rw [this] at hpi
              cases hpi
            | some j =>
              obtain ⟨f1, f2, f3⟩ := first_some hm
              have f2 : (p j && decide (x = nI (fb_ct p j))) = true := f2
              rcases Nat.lt_trichotomy j i with e | e | e
              · rw [hz j e f1] at f2
                cases f2
              · rw [e]
              · have f3 : (p i && decide (x = nI (fb_ct p i))) = false := f3 i e
                rw [f3] at hpi
                cases hpi
          unfold memV at hQ
          rw [hm] at hQ
          exact hQ
        · rw [b2i_0, Bool.not_eq_false] at g
          refine next (fun _ => ?_) _ ?_
          · rw [g]
            refine decide_eq_false (fun e => g2 ?_)
            rw [e]
            simp
          · rw [g, if_pos rfl, nI_succ]
            show x - nI (fb_ct p i) + (-1) = x - (nI (fb_ct p i) + 1)
            simp [Int32.sub_eq_add_neg, Int32.neg_add]
            ac_rfl
      · rw [decide_eq_false hin, Bool.false_and, show min i n = n by omega]
        rw [show min (i + 1) n = n by omega] at next
        exact ⟨fun _ => next (fun h => absurd h hin) _ rfl, fun g => absurd rfl g⟩
  have := key 0 (by omega) (fun z hz => by omega)
  rw [show min 0 n = 0 by omega] at this
  have e : x - nI (fb_ct p 0) = x := by
    show x - nI 0 = x
    rw [nI_0]
    simp
  rw [e] at this
  exact this
theorem mem_0 (p : Nat → Bool) (n : Nat) (hn : n ≤ 16) : mem p n 0 = first p n := by
  cases hf : first p n with
  | none =>
    cases hm : mem p n 0 with
    | none => rfl
    | some j =>
      obtain ⟨f1, f2, -⟩ := first_some hm
      have f2 : (p j && decide (0 = nI (fb_ct p j))) = true := f2
      rw [first_none hf j f1] at f2
      cases f2
  | some i =>
    obtain ⟨f1, f2, f3⟩ := first_some hf
    have c0 : fb_ct p i = 0 := fb_ct_zero.mpr (fun k hk => f3 k hk)
    cases hm : mem p n 0 with
    | none =>
      have := first_none hm i f1
      have this : (p i && decide (0 = nI (fb_ct p i))) = false := this
      rw [f2, c0] at this
      exact absurd this (by decide)
    | some j =>
      obtain ⟨g1, g2, g3⟩ := first_some hm
      have g2 : (p j && decide (0 = nI (fb_ct p j))) = true := g2
      rw [Bool.and_eq_true] at g2
      rcases Nat.lt_trichotomy j i with e | e | e
      · rw [f3 j e] at g2; cases g2.1
      · rw [e]
      · have g3 : (p i && decide (0 = nI (fb_ct p i))) = false := g3 i e
        rw [f2, c0] at g3
        exact absurd g3 (by decide)
theorem mem_1 {p : Nat → Bool} {n : Nat} (hn : n ≤ 16) : memV p n 1 = -1 ↔ fb_ct p n ≤ 1 := by
  unfold memV
  cases hm : mem p n 1 with
  | none =>
    refine ⟨fun _ => ?_, fun _ => rfl⟩
    rcases Nat.lt_or_ge (fb_ct p n) 2 with e | e
    · omega
    · obtain ⟨i, h1, h2, h3⟩ := fb_ct_kth (p := p) (k := 1) (n := n) (by omega)
      have := first_none hm i h1
      have this : (p i && decide (1 = nI (fb_ct p i))) = false := this
      rw [h2, h3] at this
      exact absurd this (by decide)
  | some i =>
    obtain ⟨f1, f2, -⟩ := first_some hm
    have f2 : (p i && decide (1 = nI (fb_ct p i))) = true := f2
    rw [Bool.and_eq_true] at f2
    have e1 := of_decide_eq_true f2.2
    have hle := fb_ct_le p i
    have e2 : fb_ct p i = 1 := ((nI_eq (a := 1) (by omega) (by omega)).mp e1).symm
    have h2 := fb_ct_mono p (show i + 1 ≤ n by omega)
    rw [fb_ct_succ, f2.1, if_pos rfl] at h2
    refine ⟨fun e => absurd e (nI_neg (show i < 2 ^ 31 by omega)).mp, fun e => by omega⟩
/-- a better choice out of a single one is that one -/
theorem oneOf_sub {b q : Nat → Bool} {n : Nat} (hs : ∀ t, t < n → b t = true → q t = true) (hb : ¬ fb_ct b n = 0) (hq : fb_ct q n = 1) : oneOf b n = oneOf q n := by
  have h1 := fb_ct_sub hs
  have hb1 : fb_ct b n = 1 := by omega
  obtain ⟨i, hf, i1, i2⟩ := first_one hb1
  obtain ⟨j, hg, j1, j2⟩ := first_one hq
  obtain ⟨k, k1, k2, k3⟩ := ct_one.mp hq
  have e1 := k3 i i1 (hs i i1 i2)
  have e2 := k3 j j1 j2
  unfold oneOf
  rw [decide_eq_true hb1, decide_eq_true hq, hf, hg, e1, e2]
  rfl
section CMN
variable {d : ax_D} {a : Nat} {s : Row}
theorem phr {x : Nat} (hx : x < 32) : nI x &&& 7 = nI (x % 8) ∧ nI x / 8 = nI (x / 8) := ⟨pk_andN (by omega) 3 (by decide), pk_div (d := 8) (by omega) (by decide) (by decide)⟩
def namedP (s : Row) (n b : Int32) (t : Nat) : Bool := decide (s (127 + t) = n) && (decide (b = 0) || decide (s (143 + t) = b))
theorem c_named {p : Nat} (h : Cp d p s) (hk : Ok s) {x : Nat} (hx : x < 32) (Q : ax_P) : CT 45 [ax_vR 3 p 0, Sum.inl (nI x)] d Q ↔ Q d (Sum.inl (some (Sum.inl (setI (namedP s (nI (x % 8)) (nI (x / 8))) (nT s))))) := by
  refine ct_of (fun Q hQ => w45 _ _ ?_) Q
  have hT := Ok_T hk
  refine w44 _ ?_
  show CT 43 [Sum.inl (nI x)] d _
  refine w43 _ ?_
  rw [(phr hx).1, (phr hx).2]
  refine lp_up (fun i => h45_16 p (nI x) (nI (x % 8)) (nI (x / 8)) (setI (namedP s (nI (x % 8)) (nI (x / 8))) i) (nI i) d Q) (nT s) ?_ ?_ 0 (by omega)
  · refine w45_16 _ _ _ _ _ _ ?_
    rw [h.1.2.1, hT.1]
    exact ⟨fun _ => hQ, fun g => absurd (nI_le (Nat.le_refl _) (by omega)) g⟩
  · intro i hi ih
    have hl := Ok_lt hk hi
    refine w45_16 _ _ _ _ _ _ ?_
    rw [setI_succ, show namedP s (nI (x % 8)) (nI (x / 8)) i = (decide (s (127 + i) = nI (x % 8)) && (decide (nI (x / 8) = 0) || decide (s (143 + i) = nI (x / 8)))) from rfl] at ih
    rw [h.1.2.1, hT.1, nI_clamp (show i < 2 ^ 31 by omega), (h.2.2.2.2.1 i hl).2.1, (h.2.2.2.2.1 i hl).2.2.1, nI_1]
    refine ⟨fun g => absurd g (nI_ge hi (by omega)), fun _ => ⟨ax_in_nI hl (by omega), fun g => ⟨fun g2 => ?_, fun g2 => ⟨ax_in_nI hl (by omega), fun g3 => ?_, fun g3 => ?_⟩⟩, fun g => ?_⟩⟩
    · rw [decide_eq_true g, decide_eq_true g2] at ih
      exact ih
    · rw [decide_eq_true g, decide_eq_true g3, Bool.or_true] at ih
      exact ih
    · rw [decide_eq_true g, decide_eq_false g2, decide_eq_false g3] at ih
      exact ih
    · rw [decide_eq_false g] at ih
      exact ih
def prefN (v : Int32) : Int32 := cond (decide (v = 9)) 1 (cond (decide (v = 10) || decide (v = 15)) 2 0)
/-- what the class does with what is meant -/
def MnQ (a : Nat) (d : ax_D) (s : Row) (r : Int32 ⊕ Nat) (Q : ax_P) : Prop := match r with
  | Sum.inl w => AQ a d s (rf w (-1)) (fun d' => Q d' (Sum.inl (some (Sum.inl (-1)))))
  | Sum.inr t => Q d (Sum.inl (some (Sum.inl (nI t))))
theorem c_meanE (h : CC d (ax_wA a) s) {q : Nat → Bool} (v1 v2 v3 v4 v5 v6 : Int32) (Q : ax_P) (hQ : MnQ a d s (oneOf q (nT s)) Q) : h48_75 a v1 v2 v3 v4 v5 v6 (setI q (nT s)) d Q := by
  have hT := (Ok_T h.2.2).2
  refine w48_75 _ _ _ _ _ _ _ _ ?_
  unfold oneOf at hQ
  refine ⟨fun g => ?_, fun g => (c_member hT _ _ _).mpr ⟨fun g2 => (c_member hT _ _ _).mpr ?_, fun g2 => ?_⟩⟩
  · have c0 := (ct0 (show nT s ≤ 32 by omega)).mp g
    rw [decide_eq_false (by omega), decide_eq_true c0] at hQ
    exact c_refuse h _ _ _ hQ
  · have c0 : ¬ fb_ct q (nT s) = 0 := fun e => g ((ct0 (show nT s ≤ 32 by omega)).mpr e)
    have c1 := (mem_1 hT).mp g2
    have c2 : fb_ct q (nT s) = 1 := by omega
    obtain ⟨i, hf, -⟩ := first_one c2
    rw [decide_eq_true c2, hf] at hQ
    unfold memV
    rw [mem_0 _ _ hT, hf]
    exact hQ
  · have c0 : ¬ fb_ct q (nT s) = 0 := fun e => g ((ct0 (show nT s ≤ 32 by omega)).mpr e)
    have c1 : ¬ fb_ct q (nT s) ≤ 1 := fun e => g2 ((mem_1 hT).mpr e)
    rw [decide_eq_false (by omega), decide_eq_false c0] at hQ
    exact c_refuse h _ _ _ hQ
theorem c_mean (h : CC d (ax_wA a) s) {x : Nat} (hx : x < 32) (v : Int32) (Q : ax_P) (hQ : MnQ a d s (meantS s (nI (x % 8)) (nI (x / 8)) (prefN v)) Q) : CT 48 [ax_vR 0 a 0, Sum.inl (nI x), Sum.inl (setI (seen s) (nT s)), Sum.inl v] d Q := by
  have hT := (Ok_T h.2.2).2
  refine w48 _ _ _ _ ?_
  have hN : setI (namedP s (nI (x % 8)) (nI (x / 8))) (nT s) &&& setI (seen s) (nT s) = setI (vis s (nI (x % 8)) (nI (x / 8))) (nT s) := by
    rw [setI_and (by omega)]
    refine setI_cong (fun t _ => ?_)
    unfold namedP vis
    rw [Bool.and_assoc]
  refine (c_named (CC0 h) h.2.2 hx _).mpr ((c_at h 3 (-1) _).mpr ?_)
  have hC : setI (fun t => isAtS s t 3 (-1)) (nT s) = setI (car s) (nT s) := setI_cong (fun t _ => isAt3)
  rw [hC, hN]
  generalize nI (x % 8) = n at *
  generalize nI (x / 8) = b at *
  rw [meantS_eq] at hQ
  have e1 : setI (vis s n b) (nT s) &&& setI (car s) (nT s) = setI (fun t => vis s n b t && car s t) (nT s) := setI_and (by omega)
  have e2 : setI (vis s n b) (nT s) &&& (setI (fun t => vis s n b t && car s t) (nT s) ^^^ (-1)) = setI (fun t => vis s n b t && !car s t) (nT s) := by
    rw [setI_andn (by omega)]
    refine setI_cong (fun t _ => ?_)
    cases vis s n b t <;> cases car s t <;> rfl
  rw [kI_r, e1, e2]
  -- the choice
  have go : ∀ (v1 v2 v3 v4 v5 v6 : Int32) (q : Nat → Bool), (∀ t, prefS s n b (prefN v) t = q t) → ((setI q (nT s) = 0 → h48_75 a v1 v2 v3 v4 v5 v6 (setI (vis s n b) (nT s)) d Q) ∧ (¬ setI q (nT s) = 0 → h48_75 a v1 v2 v3 v4 v5 v6 (setI q (nT s)) d Q)) := by
    intro v1 v2 v3 v4 v5 v6 q hq
    have hq' : prefS s n b (prefN v) = q := funext hq
    unfold meantP at hQ
    rw [hq'] at hQ
    refine ⟨fun g => ?_, fun g => ?_⟩
    · rw [decide_eq_true ((ct0 (show nT s ≤ 32 by omega)).mp g)] at hQ
      rw [show (!decide (fb_ct (vis s n b) (nT s) = 1) && !true) = false by simp] at hQ
      exact c_meanE h _ _ _ _ _ _ Q hQ
    · have g' : ¬ fb_ct q (nT s) = 0 := fun e => g ((ct0 (show nT s ≤ 32 by omega)).mpr e)
      rw [decide_eq_false g'] at hQ
      by_cases h1 : fb_ct (vis s n b) (nT s) = 1
      · rw [decide_eq_true h1] at hQ
        have hQ : MnQ a d s (oneOf (vis s n b) (nT s)) Q := hQ
        rw [← oneOf_sub (b := q) (fun t ht hb => by
          rw [← hq t] at hb
          unfold prefS at hb
          cases hv : vis s n b t with
          | true => rfl
          | false =>
            rw [hv] at hb
            simp only [Bool.false_and] at hb
            simp at hb) g' h1] at hQ
        exact c_meanE h _ _ _ _ _ _ Q hQ
      · rw [decide_eq_false h1] at hQ
        exact c_meanE h _ _ _ _ _ _ Q hQ
  refine ⟨fun g => ?_, fun g => ⟨fun g2 => ?_, fun g2 => ⟨fun g3 => ?_, fun g3 => ?_⟩⟩⟩
  · exact go _ _ _ _ _ _ _ (fun t => by unfold prefS prefN; rw [decide_eq_true g]; rfl)
  · exact go _ _ _ _ _ _ _ (fun t => by unfold prefS prefN; rw [decide_eq_false g, decide_eq_true g2]; rfl)
  · exact go _ _ _ _ _ _ _ (fun t => by unfold prefS prefN; rw [decide_eq_false g, decide_eq_false g2, decide_eq_true g3]; rfl)
  · have z : setI (fun _ : Nat => false) (nT s) = 0 := (setI_0 (by omega)).mpr (fun _ _ => rfl)
    exact (go _ _ _ _ _ _ (fun _ => false) (fun t => by unfold prefS prefN; rw [decide_eq_false g, decide_eq_false g2, decide_eq_false g3]; rfl)).1 z
end CMN
