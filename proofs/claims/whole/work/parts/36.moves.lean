/-! a thing is moved: the row stays good; events -/
theorem Ok_ev {s s' : Row} (h : Ok s) (hp : s 3 = 1) (e : ∀ k, k ≠ 6 → (k < 329 ∨ 369 ≤ k) → s' k = s k) (h6 : ∃ e, e ≤ 40 ∧ s' 6 = nI e) : Ok s' ∧ SP s s' ∧ SPl s s' := by
  have sp : SP s s' := fun k hk => e k (by unfold Pix at hk; omega) (by unfold Pix at hk; omega)
  have pl : SPl s s' := fun k h1 h2 => e k (by omega) (by omega)
  have hT := (Ok_T h).2
  refine ⟨Ok_mk h sp pl (fun t ht => ?_) (fun t h1 h2 => ?_) (fun j hj h3 => ?_) ?_ (fun j hj => ?_), sp, pl⟩
  · exact Tflag_of (e _ (by omega) (by omega)) (e _ (by omega) (by omega)) (e _ (by omega) (by omega)) (h.2.1 t ht).2
  · rw [e _ (by omega) (by omega), e _ (by omega) (by omega)]
    exact h.2.2.2.1 t h1 h2
  · have hD := (Pk_D h.1).2
    rw [e _ (by omega) (by omega)]
    exact h.2.2.2.2.1 j hj hp
  · refine Or.inr ⟨by rw [e _ (by omega) (by omega)]; exact hp, ?_, h6⟩
    rw [e _ (by omega) (by omega)]
    rcases h.2.2.2.2.2.1 with ⟨e9, -⟩ | ⟨-, z, -⟩
    · exact absurd (e9.symm.trans hp) (by decide)
    · exact z
  · rw [e _ (by omega) (by omega)]
    exact h.2.2.2.2.2.2 j hj
theorem Ok_6 {s : Row} (h : Ok s) (hp : s 3 = 1) : ∃ e, e ≤ 40 ∧ s 6 = nI e := by
  rcases h.2.2.2.2.2.1 with ⟨e9, -⟩ | ⟨-, -, z⟩
  · exact absurd (e9.symm.trans hp) (by decide)
  · exact z
theorem Ok_log {s : Row} (h : Ok s) (hp : s 3 = 1) (v : Int32) : Ok (logS s v) ∧ SP s (logS s v) ∧ SPl s (logS s v) := by
  obtain ⟨e, h1, h2⟩ := Ok_6 h hp
  by_cases h40 : s 6 = 40
  · refine Ok_ev h hp (fun k hk hk2 => ?_) ⟨40, by omega, ?_⟩
    · unfold logS
      rw [h40, decide_eq_true rfl]
      show upd (shE s 39) 368 v k = _
      rw [upd_n (by omega)]
      unfold shE
      rw [if_neg (by omega)]
    · unfold logS
      rw [h40, decide_eq_true rfl]
      show upd (shE s 39) 368 v 6 = _
      rw [upd_n (by omega)]
      unfold shE
      rw [if_neg (by omega)]
      exact h40
  · have he : e < 40 := by
      rcases Nat.lt_or_ge e 40 with a | a
      · exact a
      · exact absurd (by rw [h2, show e = 40 by omega]; rfl) h40
    refine Ok_ev h hp (fun k hk hk2 => ?_) ⟨e + 1, by omega, ?_⟩
    · unfold logS
      rw [decide_eq_false h40, h2, nI_clamp (by omega)]
      show upd (upd s 6 _) (329 + e) v k = _
      rw [upd_n (by omega), upd_n hk]
    · unfold logS
      rw [decide_eq_false h40, h2, nI_clamp (by omega)]
      show upd (upd s 6 _) (329 + e) v 6 = _
      rw [upd_n (by omega), upd_s, nI_1]
theorem Ok_cause {s : Row} (h : Ok s) (hp : s 3 = 1) {k : Nat} (hk : k < 6) (v : Int32) : Ok (causeS s k v) ∧ SP s (causeS s k v) ∧ SPl s (causeS s k v) := by
  obtain ⟨a, b, c⟩ := Ok_upd h (k := 323 + k) (s (323 + k) + 1) (by omega) hp (fun e => by omega) (fun e => by omega)
  obtain ⟨a2, b2, c2⟩ := Ok_log a (by rw [upd_n (by omega)]; exact hp) v
  exact ⟨a2, SP_trans b b2, fun j h1 h2 => (c2 j h1 h2).trans (c j h1 h2)⟩
/-- a path has no thing twice -/
def upN (s : Row) : Nat → Nat → Nat
  | 0, t => t
  | n + 1, t => upN s n (par s t)
theorem Rt_up {s : Row} : ∀ {i n t : Nat}, Rt s n t → i ≤ n → Rt s (n - i) (upN s i t) := by
  intro i
  induction i with
  | zero => intro n t h _; exact h
  | succ i ih =>
    intro n t h hi
    obtain ⟨m, rfl⟩ : ∃ m, n = m + 1 := ⟨n - 1, by omega⟩
    rw [show m + 1 - (i + 1) = m - i by omega]
    exact ih h.2 (by omega)
theorem up_lt {s : Row} (hT : nT s ≤ 16) (hp : ∀ t, t < nT s → Tplace s t) : ∀ {i n t : Nat}, t < nT s → Rt s n t → i ≤ n → upN s i t < nT s := by
  intro i
  induction i with
  | zero => intro n t ht _ _; exact ht
  | succ i ih =>
    intro n t ht h hi
    obtain ⟨m, rfl⟩ : ∃ m, n = m + 1 := ⟨n - 1, by omega⟩
    exact ih (Tp_held hT (hp t ht) h.1).1 h.2 (by omega)
theorem Rt_lt {s : Row} (hT : nT s ≤ 16) (hp : ∀ t, t < nT s → Tplace s t) {n t : Nat} (ht : t < nT s) (h : Rt s n t) : n < nT s := by
  have := fb_holes (nT s) (n + 1) (fun i => upN s i t) (fun i hi => up_lt hT hp ht h (by omega)) (fun i j hij hj e => by
    have h1 := Rt_up h (show i ≤ n by omega)
    have h2 := Rt_up h (show j ≤ n by omega)
    have e : upN s i t = upN s j t := e
    rw [e] at h1
    have := Rt_det h1 h2
    omega)
  omega
/-- what may be moved where -/
def MvOk (s : Row) (t : Nat) (p g : Int32) : Prop := t < nT s ∧ ((p = 0 ∧ ∃ r, r < nR s ∧ g = nI r) ∨ (p = 1 ∧ ∃ q, q < nT s ∧ g = nI q ∧ s (111 + q) = 1 ∧ inside s q t = false) ∨ (p = 2 ∧ ∃ q, q < nT s ∧ g = nI q ∧ s (111 + q) = 2 ∧ inside s q t = false) ∨ p = 3 ∨ p = 4)
theorem mo_n {k t : Nat} (h1 : k ≠ 255 + t) (h2 : k ≠ 271 + t) (s : Row) (p g : Int32) : moves s t p g k = s k := by unfold moves; rw [upd_n h2, upd_n h1]
theorem mo_p {t : Nat} (s : Row) (p g : Int32) : moves s t p g (255 + t) = p := by unfold moves; rw [upd_n (by omega), upd_s]
theorem mo_g {t : Nat} (s : Row) (p g : Int32) : moves s t p g (271 + t) = mvT p g := by unfold moves; rw [upd_s]
section MV
variable {s : Row} {t : Nat} {p g : Int32}
theorem mo_SP (ht : t < 16) : SP s (moves s t p g) := fun k hk => mo_n (by unfold Pix at hk; omega) (by unfold Pix at hk; omega) s p g
theorem mo_held {u : Nat} (hu : u < 16) (ht : t < 16) (e : u ≠ t) : held (moves s t p g) u = held s u := by unfold held; rw [mo_n (by omega) (by omega)]
theorem mo_par {u : Nat} (hu : u < 16) (ht : t < 16) (e : u ≠ t) : par (moves s t p g) u = par s u := by unfold par; rw [mo_n (by omega) (by omega)]
theorem mo_Tp (h : Ok s) (hm : MvOk s t p g) : ∀ u, u < nT (moves s t p g) → Tplace (moves s t p g) u := by
  intro u hu
  have ht := Ok_lt h hm.1
  have sp : SP s (moves s t p g) := mo_SP ht
  rw [SP_T sp] at hu
  have hu16 := Ok_lt h hu
  have hT := (Ok_T h).2
  unfold Tplace
  rw [SP_R sp, SP_T sp]
  by_cases e : u = t
  · subst e
    rw [mo_p, mo_g]
    rcases hm.2 with ⟨rfl, r, h1, h2⟩ | ⟨rfl, q, h1, h2, h3, -⟩ | ⟨rfl, q, h1, h2, h3, -⟩ | rfl | rfl
    · exact Or.inl ⟨rfl, r, h1, h2⟩
    · exact Or.inr (Or.inl ⟨rfl, q, h1, h2, (SP_kind sp (by omega)).trans h3⟩)
    · exact Or.inr (Or.inr (Or.inl ⟨rfl, q, h1, h2, (SP_kind sp (by omega)).trans h3⟩))
    · exact Or.inr (Or.inr (Or.inr (Or.inl ⟨rfl, rfl⟩)))
    · exact Or.inr (Or.inr (Or.inr (Or.inr ⟨rfl, rfl⟩)))
  · rw [mo_n (by omega) (by omega), mo_n (by omega) (by omega)]
    rcases (h.2.1 u hu).1 with a | ⟨a, q, b, c, e⟩ | ⟨a, q, b, c, e⟩ | a | a
    · exact Or.inl a
    · exact Or.inr (Or.inl ⟨a, q, b, c, (SP_kind sp (by omega)).trans e⟩)
    · exact Or.inr (Or.inr (Or.inl ⟨a, q, b, c, (SP_kind sp (by omega)).trans e⟩))
    · exact Or.inr (Or.inr (Or.inr (Or.inl a)))
    · exact Or.inr (Or.inr (Or.inr (Or.inr a)))
/-- the path of what isn't in t stays -/
theorem mo_Rt_out (h : Ok s) (ht : t < nT s) {q : Nat} (hq : q < nT s) : inside s q t = false → ∃ n, Rt (moves s t p g) n q := by
  have ht16 := Ok_lt h ht
  refine climbs h (fun q => inside s q t = false → ∃ n, Rt (moves s t p g) n q) (fun u hu hh hi => ?_) (fun u hu hh h1 h2 ih hi => ?_) hq
  · have hne : u ≠ t := fun e => by
      rw [inside_0 hh, e, Nat.beq_refl] at hi
      cases hi
    exact ⟨0, (mo_held (Ok_lt h hu) ht16 hne).trans hh⟩
  · rw [inside_1 h hu hh, Bool.or_eq_false_iff] at hi
    have hne : u ≠ t := fun e => by
      rw [e, Nat.beq_refl] at hi
      cases hi.1
    obtain ⟨n, hn⟩ := ih hi.2
    refine ⟨n + 1, (mo_held (Ok_lt h hu) ht16 hne).trans hh, ?_⟩
    rw [mo_par (Ok_lt h hu) ht16 hne]
    exact hn
theorem mo_Rt_t (h : Ok s) (hm : MvOk s t p g) : ∃ n, Rt (moves s t p g) n t := by
  have hp := mo_p (t := t) s p g
  have hg := mo_g (t := t) s p g
  have hT := (Ok_T h).2
  rcases hm.2 with ⟨rfl, r, h1, h2⟩ | ⟨rfl, q, h1, h2, h3, h4⟩ | ⟨rfl, q, h1, h2, h3, h4⟩ | rfl | rfl
  · exact ⟨0, held_f (by rw [hp]; decide) (by rw [hp]; decide)⟩
  · obtain ⟨n, hn⟩ := mo_Rt_out (p := 1) (g := g) h hm.1 h1 h4
    refine ⟨n + 1, held_iff.mpr (Or.inl hp), ?_⟩
    rw [par_of (h := q) (by rw [hg]; exact h2) (by omega)]
    exact hn
  · obtain ⟨n, hn⟩ := mo_Rt_out (p := 2) (g := g) h hm.1 h1 h4
    refine ⟨n + 1, held_iff.mpr (Or.inr hp), ?_⟩
    rw [par_of (h := q) (by rw [hg]; exact h2) (by omega)]
    exact hn
  · exact ⟨0, held_f (by rw [hp]; decide) (by rw [hp]; decide)⟩
  · exact ⟨0, held_f (by rw [hp]; decide) (by rw [hp]; decide)⟩
theorem mo_WF (h : Ok s) (hm : MvOk s t p g) : WF (moves s t p g) := by
  have ht := Ok_lt h hm.1
  have sp : SP s (moves s t p g) := mo_SP ht
  have hT : nT (moves s t p g) ≤ 16 := by rw [SP_T sp]; exact (Ok_T h).2
  intro u hu
  have hu' := hu
  rw [SP_T sp] at hu'
  have hx : ∃ n, Rt (moves s t p g) n u := by
    refine climbs h (fun u => ∃ n, Rt (moves s t p g) n u) (fun u hu hh => ?_) (fun u hu hh h1 h2 ih => ?_) hu'
    · by_cases e : u = t
      · rw [e]; exact mo_Rt_t h hm
      · exact ⟨0, (mo_held (Ok_lt h hu) ht e).trans hh⟩
    · by_cases e : u = t
      · rw [e]; exact mo_Rt_t h hm
      · obtain ⟨n, hn⟩ := ih
        refine ⟨n + 1, (mo_held (Ok_lt h hu) ht e).trans hh, ?_⟩
        rw [mo_par (Ok_lt h hu) ht e]
        exact hn
  obtain ⟨n, hn⟩ := hx
  exact ⟨n, Nat.lt_of_lt_of_le (Rt_lt hT (mo_Tp h hm) hu hn) hT, hn⟩
theorem Ok_moves (h : Ok s) (hm : MvOk s t p g) : Ok (moves s t p g) := by
  have ht := Ok_lt h hm.1
  have hT := (Ok_T h).2
  have sp : SP s (moves s t p g) := mo_SP ht
  refine ⟨Pok_SP h.1 sp, fun u hu => ⟨mo_Tp h hm u hu, ?_⟩, mo_WF h hm, fun u h1 h2 => ?_, fun k hk h3 => ?_, ?_, fun k hk => ?_⟩
  · rw [SP_T sp] at hu
    exact Tflag_of (mo_n (by omega) (by omega) s p g) (mo_n (by omega) (by omega) s p g) (mo_n (by omega) (by omega) s p g) (h.2.1 u hu).2
  · rw [SP_T sp] at h1
    rw [mo_n (by omega) (by omega), mo_n (by omega) (by omega)]
    exact h.2.2.2.1 u h1 h2
  · rw [SP_D sp] at hk
    rw [mo_n (by omega) (by omega)] at h3 ⊢
    exact h.2.2.2.2.1 k hk h3
  · rw [SP_R sp, mo_n (by omega) (by omega), mo_n (by omega) (by omega), mo_n (by omega) (by omega), mo_n (by omega) (by omega)]
    exact h.2.2.2.2.2.1
  · rw [mo_n (by omega) (by omega)]
    exact h.2.2.2.2.2.2 k hk
/-- where things are then -/
theorem mo_outer (h : Ok s) (hm : MvOk s t p g) {u : Nat} (hu : u < nT s) : outer (moves s t p g) u = cond (inside s u t) (outer (moves s t p g) t) (outer s u) := by
  have ht := Ok_lt h hm.1
  have h' := Ok_moves h hm
  have sp : SP s (moves s t p g) := mo_SP ht
  refine climbs h (fun u => outer (moves s t p g) u = cond (inside s u t) (outer (moves s t p g) t) (outer s u)) (fun u hu hh => ?_) (fun u hu hh h1 h2 ih => ?_) hu
  · rw [inside_0 hh]
    by_cases e : u = t
    · subst e
      rw [Nat.beq_refl]
      rfl
    · rw [ax_beq_ne e]
      have hh' := (mo_held (p := p) (g := g) (Ok_lt h hu) ht e).trans hh
      unfold outer
      rw [top_0 hh, top_0 hh']
      unfold outS
      have := Ok_lt h hu
      rw [mo_n (by omega) (by omega), mo_n (by omega) (by omega)]
      rfl
  · rw [inside_1 h hu hh]
    by_cases e : u = t
    · subst e
      rw [Nat.beq_refl]
      rfl
    · rw [ax_beq_ne e, Bool.false_or]
      have hh' := (mo_held (p := p) (g := g) (Ok_lt h hu) ht e).trans hh
      have e1 : outer (moves s t p g) u = outer (moves s t p g) (par s u) := by
        unfold outer
        rw [top_1 h' (by rw [SP_T sp]; exact hu) hh', mo_par (Ok_lt h hu) ht e]
      have e2 : outer s u = outer s (par s u) := by
        unfold outer
        rw [top_1 h hu hh]
      rw [e1, e2]
      exact ih
theorem mo_out_f (e1 : p ≠ 1) (e2 : p ≠ 2) : outer (moves s t p g) t = if p = 0 then g else if p = 3 then -1 else -2 := by
  have hh : held (moves s t p g) t = false := held_f (by rw [mo_p]; exact e1) (by rw [mo_p]; exact e2)
  unfold outer
  rw [top_0 hh]
  unfold outS
  rw [mo_p, mo_g]
  by_cases h0 : p = 0
  · subst h0
    rfl
  · rw [if_neg h0, if_neg h0]
theorem mo_out_h (h : Ok s) (hm : MvOk s t p g) (hp : p = 1 ∨ p = 2) {q : Nat} (hq : q < nT s) (hg : g = nI q) (hi : inside s q t = false) : outer (moves s t p g) t = outer s q := by
  have ht := Ok_lt h hm.1
  have h' := Ok_moves h hm
  have sp : SP s (moves s t p g) := mo_SP ht
  have hh : held (moves s t p g) t = true := held_iff.mpr (by rw [mo_p]; exact hp)
  have hpar : par (moves s t p g) t = q := par_of (by rw [mo_g]; unfold mvT; rcases hp with rfl | rfl <;> exact hg) (Ok_lt h hq)
  have e1 : outer (moves s t p g) t = outer (moves s t p g) q := by
    unfold outer
    rw [top_1 h' (by rw [SP_T sp]; exact hm.1) hh, hpar]
  rw [e1, mo_outer h hm hq, hi]
  rfl
/-- the load when t is carried: class loadWith -/
theorem load_car (h : Ok s) (ht : t < nT s) : load (moves s t 3 g) = fb_sm (fun u => cond (decide (outer s u = -1) || inside s u t) (sz s u) 0) (nT s) := by
  have hm : MvOk s t 3 g := ⟨ht, Or.inr (Or.inr (Or.inr (Or.inl rfl)))⟩
  have hl := Ok_lt h ht
  unfold load
  rw [SP_T (mo_SP hl)]
  refine fb_sm_cong (fun u hu => ?_)
  have hu16 := Ok_lt h hu
  have e : sz (moves s t 3 g) u = sz s u := by unfold sz; rw [mo_n (by omega) (by omega)]
  rw [mo_outer h hm hu, mo_out_f (by decide) (by decide), e]
  cases inside s u t <;> simp
theorem load_le (h : Ok s) (hm : MvOk s t p g) (ho : outer (moves s t p g) t ≠ -1) : load (moves s t p g) ≤ load s := by
  have hl := Ok_lt h hm.1
  unfold load
  rw [SP_T (mo_SP hl)]
  refine fb_sm_le (fun u hu => ?_)
  have hu16 := Ok_lt h hu
  have e : sz (moves s t p g) u = sz s u := by unfold sz; rw [mo_n (by omega) (by omega)]
  rw [mo_outer h hm hu, e]
  cases inside s u t with
  | true =>
    rw [cond_true, decide_eq_false ho]
    exact Nat.zero_le _
  | false => exact Nat.le_refl _
theorem load_hold (h : Ok s) (hm : MvOk s t p g) (ho : outer (moves s t p g) t = -1) : load (moves s t p g) = load (moves s t 3 (-1)) := by
  have hl := Ok_lt h hm.1
  have hm3 : MvOk s t 3 (-1) := ⟨hm.1, Or.inr (Or.inr (Or.inr (Or.inl rfl)))⟩
  unfold load
  rw [SP_T (mo_SP hl), SP_T (mo_SP hl)]
  refine fb_sm_cong (fun u hu => ?_)
  have hu16 := Ok_lt h hu
  have e : sz (moves s t p g) u = sz s u := by unfold sz; rw [mo_n (by omega) (by omega)]
  have e3 : sz (moves s t 3 (-1)) u = sz s u := by unfold sz; rw [mo_n (by omega) (by omega)]
  rw [mo_outer h hm hu, mo_outer h hm3 hu, ho, mo_out_f (by decide) (by decide), e, e3]
  cases inside s u t <;> rfl
end MV
