/-! what stays: every change of a turn keeps a good row good, and the plan as it is -/
def Pix (k : Nat) : Prop := k < 3 ∨ (7 ≤ k ∧ k < 207) ∨ (223 ≤ k ∧ k < 239) ∨ (287 ≤ k ∧ k < 311)
/-- the same plan -/
def SP (s s' : Row) : Prop := ∀ k, Pix k → s' k = s k
theorem SP_refl (s : Row) : SP s s := fun _ _ => rfl
theorem SP_trans {s a b : Row} (h1 : SP s a) (h2 : SP a b) : SP s b := fun k hk => (h2 k hk).trans (h1 k hk)
theorem SP_upd {s a : Row} (h : SP s a) {k : Nat} (hk : ¬ Pix k) (x : Int32) : SP s (upd a k x) := fun j hj => by
  have hne : j ≠ k := fun e => hk (by rw [← e]; exact hj)
  rw [upd_n hne]
  exact h j hj
section SPS
variable {s s' : Row} (h : SP s s')
theorem SP_T (h : SP s s') : nT s' = nT s := by unfold nT; rw [h 1 (by unfold Pix; omega)]
theorem SP_R (h : SP s s') : nR s' = nR s := by unfold nR; rw [h 0 (by unfold Pix; omega)]
theorem SP_D (h : SP s s') : nD s' = nD s := by unfold nD; rw [h 2 (by unfold Pix; omega)]
theorem SP_kind (h : SP s s') {t : Nat} (ht : t < 16) : s' (111 + t) = s (111 + t) := h _ (by unfold Pix; omega)
theorem Pok_SP (hp : Pok s) (h : SP s s') : Pok s' := by
  have e1 := SP_R h
  have e2 := SP_T h
  have e3 := SP_D h
  obtain ⟨⟨a1, a2, a3, a4, a5, a6⟩, b, c, dd, z⟩ := hp
  unfold Pok
  rw [e1, e2, e3]
  refine ⟨⟨(h 0 (by unfold Pix; omega)).trans a1, a2, (h 1 (by unfold Pix; omega)).trans a3, a4, (h 2 (by unfold Pix; omega)).trans a5, a6⟩, fun r hr k hk => ?_, fun t ht => ?_, fun k hk => ?_, fun t h1 h2 => ?_⟩
  · rw [h (15 + (6 * r + k)) (by unfold Pix; omega), h (63 + (6 * r + k)) (by unfold Pix; omega)]
    exact b r hr k hk
  · rw [h (111 + t) (by unfold Pix; omega), h (159 + t) (by unfold Pix; omega)]
    exact c t ht
  · rw [h (287 + k) (by unfold Pix; omega), h (293 + k) (by unfold Pix; omega)]
    obtain ⟨u, t, v1, v2, v3⟩ := dd k hk
    refine ⟨u, t, v1, v2, ?_⟩
    rw [h (111 + t) (by unfold Pix; omega)]
    exact v3
  · rw [h (175 + t) (by unfold Pix; omega), h (191 + t) (by unfold Pix; omega)]
    exact z t h1 h2
end SPS
/-- places as they were -/
def SPl (s s' : Row) : Prop := ∀ k, 255 ≤ k → k < 287 → s' k = s k
theorem SPl_held {s s' : Row} (h : SPl s s') {t : Nat} (ht : t < 16) : held s' t = held s t := by unfold held; rw [h (255 + t) (by omega) (by omega)]
theorem SPl_par {s s' : Row} (h : SPl s s') {t : Nat} (ht : t < 16) : par s' t = par s t := by unfold par; rw [h (271 + t) (by omega) (by omega)]
theorem Tplace_SP {s s' : Row} (h : SP s s') (hl : SPl s s') (hT : nT s ≤ 16) {t : Nat} (ht : t < 16) (hp : Tplace s t) : Tplace s' t := by
  unfold Tplace
  rw [hl (255 + t) (by omega) (by omega), hl (271 + t) (by omega) (by omega), SP_R h, SP_T h]
  rcases hp with a | ⟨a, q, b, c, e⟩ | ⟨a, q, b, c, e⟩ | a | a
  · exact Or.inl a
  · exact Or.inr (Or.inl ⟨a, q, b, c, (SP_kind h (by omega)).trans e⟩)
  · exact Or.inr (Or.inr (Or.inl ⟨a, q, b, c, (SP_kind h (by omega)).trans e⟩))
  · exact Or.inr (Or.inr (Or.inr (Or.inl a)))
  · exact Or.inr (Or.inr (Or.inr (Or.inr a)))
theorem Rt_SP {s s' : Row} (hl : SPl s s') (hT : nT s ≤ 16) (hp : ∀ t, t < nT s → Tplace s t) : ∀ n t, t < nT s → Rt s n t → Rt s' n t := by
  intro n
  induction n with
  | zero =>
    intro t ht h
    exact (SPl_held hl (by omega)).trans h
  | succ n ih =>
    intro t ht h
    refine ⟨(SPl_held hl (by omega)).trans h.1, ?_⟩
    rw [SPl_par hl (by omega)]
    exact ih _ (Tp_held hT (hp t ht) h.1).1 h.2
theorem Ok_mk {s s' : Row} (h : Ok s) (sp : SP s s') (pl : SPl s s') (fl : ∀ t, t < nT s → Tflag s' t) (z : ∀ t, nT s ≤ t → t < 16 → s' (207 + t) = 0 ∧ s' (239 + t) = 0)
    (w : ∀ k, k < nD s → s' 3 = 1 → s' (317 + k) = -1 ∨ ∃ w, w < 6 ∧ s' (317 + k) = nI w) (pe : (s' 3 = 0 ∧ s' 4 = 0 ∧ s' 6 = 0) ∨ (s' 3 = 1 ∧ (∃ r, r < nR s ∧ s' 5 = nI r) ∧ ∃ e, e ≤ 40 ∧ s' 6 = nI e)) (hz : ∀ k, 369 ≤ k → s' k = 0) : Ok s' := by
  have hT := (Ok_T h).2
  refine ⟨Pok_SP h.1 sp, ?_⟩
  unfold Wok
  rw [SP_T sp, SP_D sp, SP_R sp]
  refine ⟨fun t ht => ⟨Tplace_SP sp pl hT (by omega) (h.2.1 t ht).1, fl t ht⟩, fun t ht => ?_, z, w, pe, hz⟩
  rw [SP_T sp] at ht
  obtain ⟨n, hn, hr⟩ := h.2.2.1 t ht
  exact ⟨n, hn, Rt_SP pl hT (fun t ht => (h.2.1 t ht).1) n t ht hr⟩
theorem SPl_top {s s' : Row} (h : Ok s) (h' : Ok s') (sp : SP s s') (pl : SPl s s') {t : Nat} (ht : t < nT s) : top s' t = top s t := by
  refine climbs h (fun t => top s' t = top s t) (fun t ht hh => ?_) (fun t ht hh h1 h2 ih => ?_) ht
  · rw [top_0 hh, top_0 ((SPl_held pl (Ok_lt h ht)).trans hh)]
  · rw [top_1 h ht hh, top_1 h' (by rw [SP_T sp]; exact ht) ((SPl_held pl (Ok_lt h ht)).trans hh), SPl_par pl (Ok_lt h ht)]
    exact ih
theorem SPl_outer {s s' : Row} (h : Ok s) (h' : Ok s') (sp : SP s s') (pl : SPl s s') {t : Nat} (ht : t < nT s) : outer s' t = outer s t := by
  have hl := Ok_lt h (top_root h ht).1
  unfold outer
  rw [SPl_top h h' sp pl ht]
  unfold outS
  rw [pl (255 + top s t) (by omega) (by omega), pl (271 + top s t) (by omega) (by omega)]
theorem SPl_load {s s' : Row} (h : Ok s) (h' : Ok s') (sp : SP s s') (pl : SPl s s') : load s' = load s := by
  unfold load
  rw [SP_T sp]
  refine fb_sm_cong (fun t ht => ?_)
  rw [SPl_outer h h' sp pl ht]
  unfold sz
  rw [sp (159 + t) (by have := Ok_lt h ht; unfold Pix; omega)]
theorem Tflag_of {s s' : Row} {t : Nat} (e1 : s' (239 + t) = s (239 + t)) (e2 : s' (207 + t) = s (207 + t)) (e3 : s' (111 + t) = s (111 + t)) (h : Tflag s t) : Tflag s' t := by
  unfold Tflag hasF isLock at *
  rw [e1, e2, e3]
  exact h
def H5 (s : Row) (k : Nat) (x : Int32) : Prop := k = 5 → ∃ r, r < nR s ∧ x = nI r
def H7 (k : Nat) (x : Int32) : Prop := 317 ≤ k → k < 323 → x = -1 ∨ ∃ w, w < 6 ∧ x = nI w
/-- a good row with some of the numbers of the play changed -/
theorem Ok_upd {s : Row} (h : Ok s) {k : Nat} (x : Int32) (hk : k = 4 ∨ k = 5 ∨ (311 ≤ k ∧ k < 317) ∨ (317 ≤ k ∧ k < 323) ∨ (323 ≤ k ∧ k < 369)) (hp : s 3 = 1) (h5 : H5 s k x) (h7 : H7 k x) : Ok (upd s k x) ∧ SP s (upd s k x) ∧ SPl s (upd s k x) := by
  have sp : SP s (upd s k x) := SP_upd (SP_refl s) (by unfold Pix; omega) x
  have pl : SPl s (upd s k x) := fun j h1 h2 => upd_n (by omega) s x
  have hT := (Ok_T h).2
  refine ⟨Ok_mk h sp pl (fun t ht => ?_) (fun t h1 h2 => ?_) (fun j hj h3 => ?_) ?_ (fun j hj => ?_), sp, pl⟩
  · exact Tflag_of (upd_n (by omega) s x) (upd_n (by omega) s x) (upd_n (by omega) s x) (h.2.1 t ht).2
  · rw [upd_n (by omega), upd_n (by omega)]
    exact h.2.2.2.1 t h1 h2
  · have hD := (Pk_D h.1).2
    by_cases e : 317 + j = k
    · rw [e, upd_s]
      exact h7 (by omega) (by omega)
    · rw [upd_n e]
      exact h.2.2.2.2.1 j hj hp
  · refine Or.inr ⟨by rw [upd_n (by omega)]; exact hp, ?_, ?_⟩
    · by_cases e : k = 5
      · subst e
        rw [upd_s]
        exact h5 rfl
      · rw [upd_n (by omega)]
        rcases h.2.2.2.2.2.1 with ⟨e9, -⟩ | ⟨-, z, -⟩
        · exact absurd (e9.symm.trans hp) (by decide)
        · exact z
    · rw [upd_n (by omega)]
      rcases h.2.2.2.2.2.1 with ⟨e9, -⟩ | ⟨-, -, z⟩
      · exact absurd (e9.symm.trans hp) (by decide)
      · exact z
  · rw [upd_n (by omega)]
    exact h.2.2.2.2.2.2 j hj
