/-! flags and lamps: the row stays good; a whole turn -/
theorem and1 (y : Int32) : (y &&& 1 = 0) = (bt y 0 = false) := propext (by
  constructor
  · intro h
    have := congrArg (fun z => bt z 0) h
    simp only [b_and, b_0] at this
    rw [show bt 1 0 = true from by decide, Bool.and_true] at this
    exact this
  · intro h
    refine b_ext (fun i hi => ?_)
    rw [b_and, b_0]
    by_cases e : i = 0
    · subst e
      rw [h, Bool.false_and]
    · have : ∀ i, i < 32 → i ≠ 0 → bt 1 i = false := by decide +kernel
      rw [this i hi e, Bool.and_false])
theorem and1' (y : Int32) : (y &&& 1 = 1) = (bt y 0 = true) := propext (by
  constructor
  · intro h
    have := congrArg (fun z => bt z 0) h
    simp only [b_and] at this
    rw [show bt 1 0 = true from by decide, Bool.and_true] at this
    exact this
  · intro h
    refine b_ext (fun i hi => ?_)
    rw [b_and]
    by_cases e : i = 0
    · subst e
      rw [h, Bool.true_and]
    · have : ∀ i, i < 32 → i ≠ 0 → bt 1 i = false := by decide +kernel
      rw [this i hi e, Bool.and_false])
theorem bit0 (x f : Int32) : ((x >>> (f &&& 31)) &&& 1 = 0) = (bit x f = false) := by
  unfold bit
  rw [and1]
  have h := and1' (x >>> (f &&& 31))
  cases hb : bt (x >>> (f &&& 31)) 0 <;> rw [hb] at h <;> simp [h]
theorem bt_sh {i : Nat} (hi : i < 32) (x : Int32) : ((x >>> (nI i &&& 31)) &&& 1 = 0) = (bt x i = false) := by
  rw [and1, b_sshr i hi x (by omega), if_pos (by omega)]
  rfl
theorem bit_nI {i : Nat} (hi : i < 32) (x : Int32) : bit x (nI i) = bt x i := by
  have h := bit0 x (nI i)
  rw [bt_sh hi] at h
  cases h1 : bt x i <;> cases h2 : bit x (nI i) <;> simp_all
theorem wF_bt {x : Int32} {f g : Nat} (hf : f < 32) (hg : g < 32) (on : Bool) : bt (wF x (nI f) on) g = if g = f then on else bt x g := by
  have h1 : bt ((1 : Int32) <<< (nI f &&& 31)) g = decide (g = f) := by
    rw [b_shl f hf _ hg]
    by_cases e : g = f
    · subst e
      rw [decide_eq_true (Nat.le_refl _), Nat.sub_self, decide_eq_true rfl]
      decide
    · rw [decide_eq_false e]
      by_cases e2 : f ≤ g
      · have : ∀ j, j < 32 → j ≠ 0 → bt 1 j = false := by decide +kernel
        rw [this (g - f) (by omega) (by omega), Bool.and_false]
      · rw [decide_eq_false e2, Bool.false_and]
  unfold wF
  cases on with
  | true =>
    show bt (x ||| _) g = _
    rw [b_or, h1]
    by_cases e : g = f <;> simp [e]
  | false =>
    show bt (x &&& (_ ^^^ (-1))) g = _
    rw [b_and, b_xor, h1, b_m1 g hg]
    by_cases e : g = f <;> simp [e]
theorem wF_lt : ∀ f, f < 5 → ∀ x, x < 32 → ∀ on : Bool, ∃ y, y < 32 ∧ wF (nI x) (nI f) on = nI y := by
  intro f hf x hx on
  have h : ((List.range 5).all (fun f => (List.range 32).all (fun x => [true, false].all (fun on => (List.range 32).any (fun y => decide (wF (nI x) (nI f) on = nI y)))))) = true := by decide +kernel
  have h1 := List.all_eq_true.mp h f (List.mem_range.mpr hf)
  have h2 := List.all_eq_true.mp h1 x (List.mem_range.mpr hx)
  have h3 := List.all_eq_true.mp h2 on (by cases on <;> simp)
  obtain ⟨y, hy, e⟩ := List.any_eq_true.mp h3
  exact ⟨y, List.mem_range.mp hy, of_decide_eq_true e⟩
theorem set_n {k t : Nat} (h : k ≠ 239 + t) (s : Row) (f : Int32) (on : Bool) : sets s t f on k = s k := upd_n h s _
theorem has_set {s : Row} {t u f g : Nat} (hf : f < 32) (hg : g < 32) (on : Bool) : hasF (sets s t (nI f) on) u (nI g) = if u = t ∧ g = f then on else hasF s u (nI g) := by
  unfold hasF sets
  rw [bit_nI hg, bit_nI hg]
  by_cases e : u = t
  · subst e
    rw [upd_s, wF_bt hf hg]
    by_cases e2 : g = f <;> simp [e2]
  · rw [upd_n (by omega), if_neg (fun x => e x.1)]
/-- what flag a thing may have -/
def FlOk (s : Row) (t f : Nat) (on : Bool) : Prop := f < 5 ∧ (on = true → (f = 0 → s (111 + t) < 3) ∧ (f = 1 → isLock s t = true) ∧ (f = 3 → s (111 + t) = 1) ∧ (f = 4 → s (111 + t) = 3 ∧ ¬ s (207 + t) = 0))
theorem Ok_sets {s : Row} (h : Ok s) {t f : Nat} {on : Bool} (ht : t < nT s) (hf : FlOk s t f on) : Ok (sets s t (nI f) on) ∧ SP s (sets s t (nI f) on) ∧ SPl s (sets s t (nI f) on) := by
  have hl := Ok_lt h ht
  have hT := (Ok_T h).2
  have sp : SP s (sets s t (nI f) on) := fun k hk => set_n (by unfold Pix at hk; omega) s _ on
  have pl : SPl s (sets s t (nI f) on) := fun k h1 h2 => set_n (by omega) s _ on
  refine ⟨Ok_mk h sp pl (fun u hu => ?_) (fun u h1 h2 => ?_) (fun k hk h3 => ?_) ?_ (fun k hk => ?_), sp, pl⟩
  · have hu16 := Ok_lt h hu
    obtain ⟨⟨x, hx, ex⟩, a2, a3, a4, a5, a6⟩ := (h.2.1 u hu).2
    have e0 := has_set (s := s) (t := t) (u := u) (g := 0) (show f < 32 by have := hf.1; omega) (by omega) on
    have e1 := has_set (s := s) (t := t) (u := u) (g := 1) (show f < 32 by have := hf.1; omega) (by omega) on
    have e3 := has_set (s := s) (t := t) (u := u) (g := 3) (show f < 32 by have := hf.1; omega) (by omega) on
    have e4 := has_set (s := s) (t := t) (u := u) (g := 4) (show f < 32 by have := hf.1; omega) (by omega) on
    have k1 : sets s t (nI f) on (111 + u) = s (111 + u) := set_n (by omega) s _ on
    have k2 : sets s t (nI f) on (207 + u) = s (207 + u) := set_n (by omega) s _ on
    have k3 : isLock (sets s t (nI f) on) u = isLock s u := by unfold isLock; rw [k1]
    refine ⟨?_, by rw [k2]; exact a2, fun q => ?_, fun q => ?_, fun q => ?_, fun q => ?_⟩
    · by_cases e : u = t
      · subst e
        unfold sets
        rw [upd_s, ex]
        obtain ⟨y, hy, e⟩ := wF_lt f hf.1 x hx on
        exact ⟨y, hy, e⟩
      · rw [set_n (by omega)]
        exact ⟨x, hx, ex⟩
    · have q : hasF (sets s t (nI f) on) u (nI 0) = true := q
      rw [k1]
      rw [e0] at q
      by_cases c : u = t ∧ 0 = f
      · rw [if_pos c] at q
        rw [c.1]
        exact (hf.2 q).1 c.2.symm
      · rw [if_neg c] at q
        exact a3 q
    · have q : hasF (sets s t (nI f) on) u (nI 1) = true := q
      rw [k3]
      rw [e1] at q
      by_cases c : u = t ∧ 1 = f
      · rw [if_pos c] at q
        rw [c.1]
        exact (hf.2 q).2.1 c.2.symm
      · rw [if_neg c] at q
        exact a4 q
    · have q : hasF (sets s t (nI f) on) u (nI 3) = true := q
      rw [k1]
      rw [e3] at q
      by_cases c : u = t ∧ 3 = f
      · rw [if_pos c] at q
        rw [c.1]
        exact (hf.2 q).2.2.1 c.2.symm
      · rw [if_neg c] at q
        exact a5 q
    · have q : hasF (sets s t (nI f) on) u (nI 4) = true := q
      rw [k1, k2]
      rw [e4] at q
      by_cases c : u = t ∧ 4 = f
      · rw [if_pos c] at q
        rw [c.1]
        exact (hf.2 q).2.2.2 c.2.symm
      · rw [if_neg c] at q
        exact a6 q
  · rw [set_n (by omega), set_n (by omega)]
    exact h.2.2.2.1 u h1 h2
  · have hD := (Pk_D h.1).2
    rw [set_n (by omega)] at h3 ⊢
    exact h.2.2.2.2.1 k hk h3
  · rw [set_n (by omega), set_n (by omega), set_n (by omega), set_n (by omega)]
    exact h.2.2.2.2.2.1
  · rw [set_n (by omega)]
    exact h.2.2.2.2.2.2 k hk
/-- a row that is good and played, with the plan of s -/
def Gd (s s' : Row) : Prop := Ok s' ∧ SP s s' ∧ s' 3 = 1
theorem Gd_trans {a b c : Row} (h1 : Gd a b) (h2 : Gd b c) : Gd a c := ⟨h2.1, SP_trans h1.2.1 h2.2.1, h2.2.2⟩
theorem log_3 (s : Row) (v : Int32) : logS s v 3 = s 3 := by
  unfold logS
  cases decide (s 6 = 40) with
  | true =>
    show upd (shE s 39) 368 v 3 = _
    rw [upd_n (by omega)]
    unfold shE
    rw [if_neg (by omega)]
  | false =>
    show upd (upd s 6 _) _ v 3 = _
    rw [upd_n (by omega), upd_n (by omega)]
theorem Gd_cause {s : Row} (h : Ok s) (hp : s 3 = 1) {k : Nat} (hk : k < 6) (v : Int32) : Gd s (causeS s k v) := by
  obtain ⟨a, b, -⟩ := Ok_cause h hp hk v
  refine ⟨a, b, ?_⟩
  unfold causeS
  rw [log_3, upd_n (by omega)]
  exact hp
theorem Gd_sets {s : Row} (h : Ok s) (hp : s 3 = 1) {t f : Nat} {on : Bool} (ht : t < nT s) (hf : FlOk s t f on) : Gd s (sets s t (nI f) on) := by
  have hl := Ok_lt h ht
  obtain ⟨a, b, -⟩ := Ok_sets h ht hf
  exact ⟨a, b, (set_n (by omega) s _ on).trans hp⟩
theorem Gd_moves {s : Row} (h : Ok s) (hp : s 3 = 1) {t : Nat} {p g : Int32} (hm : MvOk s t p g) : Gd s (moves s t p g) := by
  have hl := Ok_lt h hm.1
  exact ⟨Ok_moves h hm, mo_SP hl, (mo_n (by omega) (by omega) s p g).trans hp⟩
theorem Gd_upd {s : Row} (h : Ok s) {k : Nat} (x : Int32) (hk : k = 4 ∨ k = 5 ∨ (311 ≤ k ∧ k < 317) ∨ (317 ≤ k ∧ k < 323) ∨ (323 ≤ k ∧ k < 369)) (hp : s 3 = 1) (h5 : H5 s k x) (h7 : H7 k x) : Gd s (upd s k x) := by
  obtain ⟨a, b, -⟩ := Ok_upd h x hk hp h5 h7
  exact ⟨a, b, (upd_n (by omega) s x).trans hp⟩
theorem dk {s : Row} (h : Ok s) {k : Nat} (hk : k < nD s) : s (293 + k) = nI (dT s k) ∧ dT s k < nT s ∧ (s (287 + k) = 2 → s (111 + dT s k) = 1) ∧ (s (287 + k) = 3 → s (111 + dT s k) = 3) := by
  obtain ⟨-, t, h1, h2, h3, h4⟩ := h.1.2.2.2.1 k hk
  have e : dT s k = t := by unfold dT; rw [h2]; exact nI_clamp (by have := Ok_lt h h1; omega)
  rw [e]
  exact ⟨h2, h1, h3, h4⟩
theorem dW_lt {s : Row} (h : Ok s) (hp : s 3 = 1) {k : Nat} (hk : k < nD s) : dW s k ≤ 6 ∧ s (317 + k) + 1 = nI (dW s k) := by
  rcases h.2.2.2.2.1 k hk hp with e | ⟨w, h1, e⟩
  · unfold dW
    rw [e]
    decide
  · unfold dW
    rw [e, nI_1, nI_clamp (by omega)]
    exact ⟨by omega, rfl⟩
theorem par_room {s : Row} (h : Ok s) {t : Nat} (ht : t < nT s) (e : s (255 + t) = 0) : par s t < nR s ∧ s (271 + t) = nI (par s t) := by
  have hR := (Pk_R h.1).2
  rcases (h.2.1 t ht).1 with ⟨-, r, h1, h2⟩ | ⟨e2, -⟩ | ⟨e2, -⟩ | ⟨e2, -⟩ | ⟨e2, -⟩
  · have : par s t = r := by unfold par; rw [h2]; exact nI_clamp (by omega)
    rw [this]
    exact ⟨h1, h2⟩
  all_goals (rw [e] at e2; exact absurd e2 (by decide))
theorem Gd_wand {s : Row} (h : Ok s) (hp : s 3 = 1) {k : Nat} (hk : k < nD s) : Gd s (wandS s k) := by
  have hk6 : k < 6 := Nat.lt_of_lt_of_le hk (Pk_D h.1).2
  have hR := (Pk_R h.1).2
  obtain ⟨d1, d2, -⟩ := dk h hk
  unfold wandS
  by_cases e : s (255 + dT s k) = 0
  · rw [decide_eq_true e]
    obtain ⟨r1, r2⟩ := par_room h d2 e
    show Gd s (match first (fun i => goes s (wandE s k (dT s k) i)) 6 with
      | none => s
      | some i => causeS (upd (upd s (271 + dT s k) (s (15 + wandE s k (dT s k) i))) (317 + k) (nI ((dW s k + i) % 6))) k (nI (200 + dT s k)))
    cases hf : first (fun i => goes s (wandE s k (dT s k) i)) 6 with
    | none => exact ⟨h, SP_refl s, hp⟩
    | some i =>
      obtain ⟨f1, f2, -⟩ := first_some hf
      have hl := Ok_lt h d2
      have hx := ((h.1.2.1 (par s (dT s k)) r1 ((dW s k + i) % 6) (Nat.mod_lt _ (by decide))).1)
      have hne : ¬ s (15 + wandE s k (dT s k) i) = -1 := by
        intro q
        unfold goes at f2
        rw [decide_eq_true q] at f2
        cases f2
      rcases hx with hx | ⟨q, q1, q2⟩
      · exact absurd hx hne
      · have hm : MvOk s (dT s k) 0 (nI q) := ⟨d2, Or.inl ⟨rfl, q, q1, rfl⟩⟩
        have e2 : upd s (271 + dT s k) (s (15 + wandE s k (dT s k) i)) = moves s (dT s k) 0 (nI q) := by
          unfold moves mvT
          rw [if_pos (by decide), show s (15 + wandE s k (dT s k) i) = nI q from q2]
          congr 1
          rw [← e, upd_id]
        show Gd s (causeS (upd (upd s (271 + dT s k) (s (15 + wandE s k (dT s k) i))) (317 + k) (nI ((dW s k + i) % 6))) k (nI (200 + dT s k)))
        rw [e2]
        have g1 := Gd_moves h hp hm
        have g2 := Gd_upd g1.1 (k := 317 + k) (nI ((dW s k + i) % 6)) (by omega) g1.2.2 (fun x => by omega) (fun _ _ => Or.inr ⟨_, Nat.mod_lt _ (by decide), rfl⟩)
        exact Gd_trans g1 (Gd_trans g2 (Gd_cause g2.1 g2.2.2 hk6 _))
  · rw [decide_eq_false e]
    exact ⟨h, SP_refl s, hp⟩
theorem Gd_gath {s : Row} (h : Ok s) (hp : s 3 = 1) {k : Nat} (hk : k < nD s) (h2 : s (287 + k) = 2) : Gd s (gathS s k) := by
  have hk6 : k < 6 := Nat.lt_of_lt_of_le hk (Pk_D h.1).2
  obtain ⟨d1, d2, d3, -⟩ := dk h hk
  unfold gathS
  cases hc : (decide (s (255 + dT s k) = 0) && hasF s (dT s k) 1) with
  | false => exact ⟨h, SP_refl s, hp⟩
  | true =>
    show Gd s (match first (gathP s (dT s k)) (nT s) with
      | none => s
      | some t => causeS (moves s t 1 (nI (dT s k))) k (nI (300 + t)))
    cases hf : first (gathP s (dT s k)) (nT s) with
    | none => exact ⟨h, SP_refl s, hp⟩
    | some t =>
      obtain ⟨f1, f2, -⟩ := first_some hf
      have hc0 : s (255 + dT s k) = 0 := of_decide_eq_true ((Bool.and_eq_true _ _).mp hc).1
      have hne : dT s k ≠ t := fun e => by
        unfold gathP at f2
        rw [e, Nat.beq_refl] at f2
        cases f2
      have hi : inside s (dT s k) t = false := by
        rw [inside_0 (held_f (by rw [hc0]; decide) (by rw [hc0]; decide))]
        exact ax_beq_ne hne
      have hm : MvOk s t 1 (nI (dT s k)) := ⟨f1, Or.inr (Or.inl ⟨rfl, dT s k, d2, rfl, d3 h2, hi⟩)⟩
      have g1 := Gd_moves h hp hm
      exact Gd_trans g1 (Gd_cause g1.1 g1.2.2 hk6 _)
theorem Gd_shut {s : Row} (h : Ok s) (hp : s 3 = 1) {k : Nat} (hk : k < nD s) : Gd s (shutS s k) := by
  have hk6 : k < 6 := Nat.lt_of_lt_of_le hk (Pk_D h.1).2
  obtain ⟨d1, d2, -⟩ := dk h hk
  unfold shutS
  cases hasF s (dT s k) 1 with
  | false => exact ⟨h, SP_refl s, hp⟩
  | true =>
    have g1 := Gd_sets h hp (f := 1) (on := false) d2 ⟨by omega, fun e => by cases e⟩
    exact Gd_trans g1 (Gd_cause g1.1 g1.2.2 hk6 _)
theorem Gd_tog {s : Row} (h : Ok s) (hp : s 3 = 1) {k : Nat} (hk : k < nD s) (h3 : s (287 + k) = 3) : Gd s (togS s k) := by
  have hk6 : k < 6 := Nat.lt_of_lt_of_le hk (Pk_D h.1).2
  obtain ⟨d1, d2, -, d4⟩ := dk h hk
  unfold togS
  cases hasF s (dT s k) 4 with
  | true =>
    have g1 := Gd_sets h hp (f := 4) (on := false) d2 ⟨by omega, fun e => by cases e⟩
    exact Gd_trans g1 (Gd_cause g1.1 g1.2.2 hk6 _)
  | false =>
    by_cases e : s (207 + dT s k) = 0
    · rw [decide_eq_true e]
      exact ⟨h, SP_refl s, hp⟩
    · rw [decide_eq_false e]
      have g1 := Gd_sets h hp (f := 4) (on := true) d2 ⟨by omega, fun _ => ⟨fun x => by omega, fun x => by omega, fun x => by omega, fun _ => ⟨d4 h3, e⟩⟩⟩
      exact Gd_trans g1 (Gd_cause g1.1 g1.2.2 hk6 _)
theorem Gd_stirA {s : Row} (h : Ok s) (hp : s 3 = 1) {k : Nat} (hk : k < nD s) : Gd s (stirA s k) := by
  obtain ⟨⟨q, hq, eq⟩, -⟩ := h.1.2.2.2.1 k hk
  unfold stirA
  by_cases e0 : s (287 + k) = 0
  · rw [decide_eq_true e0]
    exact Gd_shut h hp hk
  · rw [decide_eq_false e0]
    by_cases e1 : s (287 + k) = 1
    · rw [decide_eq_true e1]
      exact Gd_wand h hp hk
    · rw [decide_eq_false e1]
      by_cases e2 : s (287 + k) = 2
      · rw [decide_eq_true e2]
        exact Gd_gath h hp hk e2
      · rw [decide_eq_false e2]
        refine Gd_tog h hp hk ?_
        rw [eq] at e0 e1 e2 ⊢
        have : q ≠ 0 := fun x => e0 (by rw [x]; rfl)
        have : q ≠ 1 := fun x => e1 (by rw [x]; rfl)
        have : q ≠ 2 := fun x => e2 (by rw [x]; rfl)
        rw [show q = 3 by omega]
        rfl
theorem Gd_stir {s : Row} (h : Ok s) (hp : s 3 = 1) {k : Nat} (hk : k < nD s) : Gd s (stirS s k) := by
  have hk6 : k < 6 := Nat.lt_of_lt_of_le hk (Pk_D h.1).2
  have g1 := Gd_stirA h hp hk
  exact Gd_trans g1 (Gd_upd g1.1 (k := 311 + k) _ (by omega) g1.2.2 (fun x => by omega) (fun x => by omega))
theorem Gd_passD {s : Row} (h : Ok s) (hp : s 3 = 1) {k : Nat} (hk : k < nD s) : Gd s (passD k s) := by
  unfold passD
  cases decide (s (311 + k) = s 4) with
  | true => exact Gd_stir h hp hk
  | false => exact ⟨h, SP_refl s, hp⟩
theorem Gd_burn0 {s : Row} (h : Ok s) (hp : s 3 = 1) {t : Nat} (ht : t < nT s) (hl4 : hasF s t 4 = true) (hz : s (207 + t) - 1 = 0) : Gd s (sets (upd s (207 + t) (s (207 + t) - 1)) t 4 false) := by
  have hl := Ok_lt h ht
  obtain ⟨⟨x, hx, ex⟩, ⟨f, hf, ef⟩, a3, a4, a5, a6⟩ := (h.2.1 t ht).2
  rw [hz]
  have u1 : ∀ k, k ≠ 207 + t → upd s (207 + t) 0 k = s k := fun k hk => upd_n hk s _
  have hs : ∀ k, k ≠ 207 + t → k ≠ 239 + t → sets (upd s (207 + t) 0) t 4 false k = s k := fun k h1 h2 => by rw [set_n h2, u1 k h1]
  have sp : SP s (sets (upd s (207 + t) 0) t 4 false) := fun k hk => hs k (by unfold Pix at hk; omega) (by unfold Pix at hk; omega)
  have pl : SPl s (sets (upd s (207 + t) 0) t 4 false) := fun k h1 h2 => hs k (by omega) (by omega)
  have hT := (Ok_T h).2
  refine ⟨Ok_mk h sp pl (fun u hu => ?_) (fun u h1 h2 => ?_) (fun k hk h3 => ?_) ?_ (fun k hk => ?_), sp, ?_⟩
  · have hu16 := Ok_lt h hu
    by_cases e : u = t
    · subst e
      have q0 := has_set (s := upd s (207 + u) 0) (t := u) (u := u) (f := 4) (g := 0) (by omega) (by omega) false
      have q1 := has_set (s := upd s (207 + u) 0) (t := u) (u := u) (f := 4) (g := 1) (by omega) (by omega) false
      have q3 := has_set (s := upd s (207 + u) 0) (t := u) (u := u) (f := 4) (g := 3) (by omega) (by omega) false
      have q4 := has_set (s := upd s (207 + u) 0) (t := u) (u := u) (f := 4) (g := 4) (by omega) (by omega) false
      have hu : ∀ g : Int32, hasF (upd s (207 + u) 0) u g = hasF s u g := fun g => by unfold hasF; rw [u1 _ (by omega)]
      have k1 : sets (upd s (207 + u) 0) u 4 false (111 + u) = s (111 + u) := hs _ (by omega) (by omega)
      refine ⟨?_, ?_, fun q => ?_, fun q => ?_, fun q => ?_, fun q => ?_⟩
      · unfold sets
        rw [upd_s, u1 _ (by omega), ex]
        exact wF_lt 4 (by omega) x hx false
      · rw [set_n (by omega), upd_s]
        exact ⟨0, by omega, rfl⟩
      · rw [k1]
        have q : hasF (sets (upd s (207 + u) 0) u (nI 4) false) u (nI 0) = true := q
        rw [q0, if_neg (by omega), hu] at q
        exact a3 q
      · have q : hasF (sets (upd s (207 + u) 0) u (nI 4) false) u (nI 1) = true := q
        rw [q1, if_neg (by omega), hu] at q
        have := a4 q
        unfold isLock at this ⊢
        rw [k1]
        exact this
      · rw [k1]
        have q : hasF (sets (upd s (207 + u) 0) u (nI 4) false) u (nI 3) = true := q
        rw [q3, if_neg (by omega), hu] at q
        exact a5 q
      · have q : hasF (sets (upd s (207 + u) 0) u (nI 4) false) u (nI 4) = true := q
        rw [q4, if_pos ⟨rfl, rfl⟩] at q
        cases q
    · exact Tflag_of (hs _ (by omega) (by omega)) (hs _ (by omega) (by omega)) (hs _ (by omega) (by omega)) (h.2.1 u hu).2
  · rw [hs _ (by omega) (by omega), hs _ (by omega) (by omega)]
    exact h.2.2.2.1 u h1 h2
  · have hD := (Pk_D h.1).2
    rw [hs _ (by omega) (by omega)] at h3 ⊢
    exact h.2.2.2.2.1 k hk h3
  · rw [hs _ (by omega) (by omega), hs _ (by omega) (by omega), hs _ (by omega) (by omega), hs _ (by omega) (by omega)]
    exact h.2.2.2.2.2.1
  · rw [hs _ (by omega) (by omega)]
    exact h.2.2.2.2.2.2 k hk
  · rw [hs _ (by omega) (by omega)]
    exact hp
theorem Gd_burn1 {s : Row} (h : Ok s) (hp : s 3 = 1) {t : Nat} (ht : t < nT s) (hl4 : hasF s t 4 = true) (hz : ¬ s (207 + t) - 1 = 0) : Gd s (upd s (207 + t) (s (207 + t) - 1)) := by
  have hl := Ok_lt h ht
  have hT := (Ok_T h).2
  obtain ⟨⟨x, hx, ex⟩, ⟨f, hf, ef⟩, a3, a4, a5, a6⟩ := (h.2.1 t ht).2
  have hf0 : f ≠ 0 := fun e => (a6 hl4).2 (by rw [ef, e]; rfl)
  have e1 : s (207 + t) - 1 = nI (f - 1) := by rw [ef]; exact pk_sub (a := f) (b := 1) (by omega)
  have hs : ∀ k, k ≠ 207 + t → upd s (207 + t) (s (207 + t) - 1) k = s k := fun k hk => upd_n hk s _
  have sp : SP s (upd s (207 + t) (s (207 + t) - 1)) := fun k hk => hs k (by unfold Pix at hk; omega)
  have pl : SPl s (upd s (207 + t) (s (207 + t) - 1)) := fun k h1 h2 => hs k (by omega)
  refine ⟨Ok_mk h sp pl (fun u hu => ?_) (fun u h1 h2 => ?_) (fun k hk h3 => ?_) ?_ (fun k hk => ?_), sp, ?_⟩
  · have hu16 := Ok_lt h hu
    by_cases e : u = t
    · subst e
      have hu : ∀ g : Int32, hasF (upd s (207 + u) (s (207 + u) - 1)) u g = hasF s u g := fun g => by unfold hasF; rw [hs _ (by omega)]
      have k1 : upd s (207 + u) (s (207 + u) - 1) (111 + u) = s (111 + u) := hs _ (by omega)
      refine ⟨?_, ?_, fun q => ?_, fun q => ?_, fun q => ?_, fun q => ?_⟩
      · rw [hs _ (by omega)]
        exact ⟨x, hx, ex⟩
      · rw [upd_s, e1]
        exact ⟨f - 1, by omega, rfl⟩
      · rw [hu] at q
        rw [k1]
        exact a3 q
      · rw [hu] at q
        have := a4 q
        unfold isLock at this ⊢
        rw [k1]
        exact this
      · rw [hu] at q
        rw [k1]
        exact a5 q
      · rw [hu] at q
        rw [k1, upd_s]
        exact ⟨(a6 q).1, hz⟩
    · exact Tflag_of (hs _ (by omega)) (hs _ (by omega)) (hs _ (by omega)) (h.2.1 u hu).2
  · rw [hs _ (by omega), hs _ (by omega)]
    exact h.2.2.2.1 u h1 h2
  · have hD := (Pk_D h.1).2
    rw [hs _ (by omega)] at h3 ⊢
    exact h.2.2.2.2.1 k hk h3
  · rw [hs _ (by omega), hs _ (by omega), hs _ (by omega), hs _ (by omega)]
    exact h.2.2.2.2.2.1
  · rw [hs _ (by omega)]
    exact h.2.2.2.2.2.2 k hk
  · rw [hs _ (by omega)]
    exact hp
/-- fuel goes down -/
theorem Gd_burn {s : Row} (h : Ok s) (hp : s 3 = 1) {t : Nat} (ht : t < nT s) (hl4 : hasF s t 4 = true) : Gd s (burnS s t) := by
  unfold burnS
  by_cases hz : s (207 + t) - 1 = 0
  · rw [decide_eq_true hz]
    have g1 := Gd_burn0 h hp ht hl4 hz
    obtain ⟨a, b, -⟩ := Ok_log g1.1 g1.2.2 (nI (600 + t))
    exact Gd_trans g1 ⟨a, b, (log_3 _ _).trans g1.2.2⟩
  · rw [decide_eq_false hz]
    exact Gd_burn1 h hp ht hl4 hz
theorem Gd_passL {s : Row} (h : Ok s) (hp : s 3 = 1) {t : Nat} (ht : t < nT s) : Gd s (passL t s) := by
  unfold passL
  cases hc : (decide (s (111 + t) = 3) && hasF s t 4) with
  | true => exact Gd_burn h hp ht ((Bool.and_eq_true _ _).mp hc).2
  | false => exact ⟨h, SP_refl s, hp⟩
/-- folds of what keeps a row good -/
theorem Gd_fold {s : Row} (h : Ok s) (hp : s 3 = 1) (f : Nat → Row → Row) (N : Nat) (hf : ∀ a k, Gd s a → k < N → Gd a (f k a)) : ∀ n, n ≤ N → Gd s (foldN f n s) := by
  intro n
  induction n with
  | zero => intro _; exact ⟨h, SP_refl s, hp⟩
  | succ n ih =>
    intro hn
    have g1 := ih (by omega)
    exact Gd_trans g1 (hf _ n g1 (by omega))
theorem Gd_tick {s : Row} (h : Ok s) (hp : s 3 = 1) : Gd s (tick s) := Gd_upd h (k := 4) _ (by omega) hp (fun x => by omega) (fun x => by omega)
theorem Gd_passDs {s : Row} (h : Ok s) (hp : s 3 = 1) {n : Nat} (hn : n ≤ nD s) : Gd s (foldN passD n (tick s)) := by
  have g1 := Gd_tick h hp
  have e := SP_D g1.2.1
  exact Gd_trans g1 (Gd_fold g1.1 g1.2.2 passD (nD s) (fun a k ga hk => Gd_passD ga.1 ga.2.2 (by rw [SP_D ga.2.1, e]; exact hk)) n hn)
theorem Gd_passLs {s : Row} (h : Ok s) (hp : s 3 = 1) {n : Nat} (hn : n ≤ nT s) : Gd s (foldN passL n (foldN passD (nD s) (tick s))) := by
  have g1 := Gd_passDs h hp (Nat.le_refl (nD s))
  have e := SP_T g1.2.1
  exact Gd_trans g1 (Gd_fold g1.1 g1.2.2 passL (nT s) (fun a k ga hk => Gd_passL ga.1 ga.2.2 (by rw [SP_T ga.2.1, e]; exact hk)) n hn)
theorem Gd_pass {s : Row} (h : Ok s) (hp : s 3 = 1) : Gd s (passS s) := Gd_passLs h hp (Nat.le_refl _)
