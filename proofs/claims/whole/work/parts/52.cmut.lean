/-! the class's changes of a world -/
/-- only what S names is changed -/
def Fr (S : Nat → Nat → Prop) (d d' : ax_D) : Prop := d'.2 = d.2 ∧ ∀ k i j, ¬ S k i → d'.1 k i j = d.1 k i j
def sW (w : Nat) : Nat → Nat → Prop := fun k i => k = 7 ∧ i = w
def sA (a : Nat) : Nat → Nat → Prop := fun k i => (k = 7 ∧ i = ax_wA a) ∨ (k = 0 ∧ i = a)
theorem Fr_refl {S : Nat → Nat → Prop} (d : ax_D) : Fr S d d := ⟨rfl, fun _ _ _ _ => rfl⟩
theorem Fr_trans {S : Nat → Nat → Prop} {a b c : ax_D} (h1 : Fr S a b) (h2 : Fr S b c) : Fr S a c := ⟨h2.1.trans h1.1, fun k i j h => (h2.2 k i j h).trans (h1.2 k i j h)⟩
theorem Fr_mono {S S' : Nat → Nat → Prop} {a b : ax_D} (h : Fr S a b) (hs : ∀ k i, S k i → S' k i) : Fr S' a b := ⟨h.1, fun k i j hn => h.2 k i j (fun x => hn (hs k i x))⟩
theorem Fr_set {S : Nat → Nat → Prop} {k i : Nat} (h9 : k ≠ 9) (hS : S k i) (d : ax_D) (j : Nat) (f : Row) : Fr S d (ax_set d k i j f) := by
  unfold ax_set
  rw [ax_beq_ne h9]
  refine ⟨rfl, fun a b c hn => ?_⟩
  show ax_setC d.1 k i j f a b c = _
  unfold ax_setC
  by_cases h1 : a = k
  · by_cases h2 : b = i
    · exact absurd (h1 ▸ h2 ▸ hS) hn
    · rw [ax_beq_ne h2]; simp
  · rw [ax_beq_ne h1]; simp
theorem Fr_row {S : Nat → Nat → Prop} {d d' : ax_D} (h : Fr S d d') {k i : Nat} (hn : ¬ S k i) (j : Nat) : ax_row d' k i j = ax_row d k i j := by
  unfold ax_row
  rw [h.1, h.2 k i j hn]
theorem Fr_mr {S : Nat → Nat → Prop} {d d' : ax_D} (h : Fr S d d') (j : Nat) : mr d' j = mr d j := by
  unfold mr ax_row
  rw [h.1]
  rfl
theorem Cp_Fr {S : Nat → Nat → Prop} {d d' : ax_D} {p : Nat} {s : Row} (h : Fr S d d') (hn : ¬ S 3 p) (hc : Cp d p s) : Cp d' p s := by
  unfold Cp
  simp only [Fr_row h hn]
  exact hc
theorem Cw_Fr {S : Nat → Nat → Prop} {d d' : ax_D} {w : Nat} {s : Row} (h : Fr S d d') (hn : ¬ S 7 w) (hc : Cw d w s) : Cw d' w s := by
  unfold Cw
  simp only [Fr_row h hn]
  exact hc
theorem Cp_SP {d : ax_D} {p : Nat} {s s' : Row} (hc : Cp d p s) (h : SP s s') : Cp d p s' := by
  obtain ⟨⟨a0, a1, a2⟩, b, c, e, f, g⟩ := hc
  refine ⟨⟨a0.trans (h 0 (by unfold Pix; omega)).symm, a1.trans (h 1 (by unfold Pix; omega)).symm, a2.trans (h 2 (by unfold Pix; omega)).symm⟩, fun r hr => ?_, fun k hk => ?_, fun x hx => ?_, fun t ht => ?_, fun k hk => ?_⟩
  · rw [h (7 + r) (by unfold Pix; omega)]
    exact b r hr
  · rw [h (305 + k) (by unfold Pix; omega)]
    exact c k hk
  · rw [h (15 + x) (by unfold Pix; omega), h (63 + x) (by unfold Pix; omega)]
    exact e x hx
  · rw [h (111 + t) (by unfold Pix; omega), h (127 + t) (by unfold Pix; omega), h (143 + t) (by unfold Pix; omega), h (159 + t) (by unfold Pix; omega), h (175 + t) (by unfold Pix; omega), h (191 + t) (by unfold Pix; omega), h (223 + t) (by unfold Pix; omega)]
    exact f t ht
  · rw [h (287 + k) (by unfold Pix; omega), h (293 + k) (by unfold Pix; omega), h (299 + k) (by unfold Pix; omega)]
    exact g k hk
section CU
variable {d : ax_D} {w : Nat} {s : Row}
theorem plI_of {s s' : Row} (h3 : s' 3 = s 3) (h5 : s' 5 = s 5) : plI s' = plI s := by unfold plI; rw [h3, h5]
theorem dW_of {s s' : Row} {k : Nat} (h : s' (317 + k) = s (317 + k)) : dW s' k = dW s k := by unfold dW; rw [h]
theorem Cw_u2 (h : Cw d w s) (hD6 : nD s ≤ 6) {t : Nat} (ht : t < 16) (x : Int32) : Cw (ax_set d 7 w 2 (upd (ax_row d 7 w 2) t x)) w (upd s (255 + t) x) := by
  obtain ⟨a, ⟨b1, b2, b3⟩, c, e⟩ := h
  have hD : nD (upd s (255 + t) x) = nD s := by unfold nD; rw [upd_n (by omega)]
  refine ⟨fun u hu => ?_, ⟨?_, ?_, ?_⟩, fun y hy => ?_, fun h3 k hk => ?_⟩
  · obtain ⟨a1, a2, a3, a4⟩ := a u hu
    simp only [row_s, row_j, ne_eq, Nat.reduceEqDiff, not_false_eq_true]
    refine ⟨?_, ?_, ?_, ?_⟩
    · by_cases q : u = t
      · subst q
        rw [upd_s, upd_s]
      · rw [upd_n q, upd_n (by omega)]
        exact a1
    · rw [upd_n (by omega)]
      exact a2
    · rw [upd_n (by omega)]
      exact a3
    · rw [upd_n (by omega)]
      exact a4
  · simp only [row_s, row_j, ne_eq, Nat.reduceEqDiff, not_false_eq_true]
    rw [plI_of (upd_n (by omega) s x) (upd_n (by omega) s x)]
    exact b1
  · simp only [row_s, row_j, ne_eq, Nat.reduceEqDiff, not_false_eq_true]
    rw [upd_n (by omega)]
    exact b2
  · simp only [row_s, row_j, ne_eq, Nat.reduceEqDiff, not_false_eq_true]
    rw [upd_n (by omega)]
    exact b3
  · simp only [row_s, row_j, ne_eq, Nat.reduceEqDiff, not_false_eq_true]
    rw [upd_n (by omega)]
    exact c y hy
  · simp only [row_s, row_j, ne_eq, Nat.reduceEqDiff, not_false_eq_true]
    rw [upd_n (by omega)] at h3
    rw [hD] at hk
    obtain ⟨e1, e2, e3⟩ := e h3 k hk
    refine ⟨?_, ?_, ?_⟩
    · rw [upd_n (by omega)]
      exact e1
    · rw [upd_n (by omega)]
      exact e2
    · rw [dW_of (upd_n (by omega) s x)]
      exact e3
theorem Cw_u3 (h : Cw d w s) (hD6 : nD s ≤ 6) {t : Nat} (ht : t < 16) (x : Int32) : Cw (ax_set d 7 w 3 (upd (ax_row d 7 w 3) t x)) w (upd s (271 + t) x) := by
  obtain ⟨a, ⟨b1, b2, b3⟩, c, e⟩ := h
  have hD : nD (upd s (271 + t) x) = nD s := by unfold nD; rw [upd_n (by omega)]
  refine ⟨fun u hu => ?_, ⟨?_, ?_, ?_⟩, fun y hy => ?_, fun h3 k hk => ?_⟩
  · obtain ⟨a1, a2, a3, a4⟩ := a u hu
    simp only [row_s, row_j, ne_eq, Nat.reduceEqDiff, not_false_eq_true]
    refine ⟨?_, ?_, ?_, ?_⟩
    · rw [upd_n (by omega)]
      exact a1
    · by_cases q : u = t
      · subst q
        rw [upd_s, upd_s]
      · rw [upd_n q, upd_n (by omega)]
        exact a2
    · rw [upd_n (by omega)]
      exact a3
    · rw [upd_n (by omega)]
      exact a4
  · simp only [row_s, row_j, ne_eq, Nat.reduceEqDiff, not_false_eq_true]
    rw [plI_of (upd_n (by omega) s x) (upd_n (by omega) s x)]
    exact b1
  · simp only [row_s, row_j, ne_eq, Nat.reduceEqDiff, not_false_eq_true]
    rw [upd_n (by omega)]
    exact b2
  · simp only [row_s, row_j, ne_eq, Nat.reduceEqDiff, not_false_eq_true]
    rw [upd_n (by omega)]
    exact b3
  · simp only [row_s, row_j, ne_eq, Nat.reduceEqDiff, not_false_eq_true]
    rw [upd_n (by omega)]
    exact c y hy
  · simp only [row_s, row_j, ne_eq, Nat.reduceEqDiff, not_false_eq_true]
    rw [upd_n (by omega)] at h3
    rw [hD] at hk
    obtain ⟨e1, e2, e3⟩ := e h3 k hk
    refine ⟨?_, ?_, ?_⟩
    · rw [upd_n (by omega)]
      exact e1
    · rw [upd_n (by omega)]
      exact e2
    · rw [dW_of (upd_n (by omega) s x)]
      exact e3
theorem Cw_u4 (h : Cw d w s) (hD6 : nD s ≤ 6) {t : Nat} (ht : t < 16) (x : Int32) : Cw (ax_set d 7 w 4 (upd (ax_row d 7 w 4) t x)) w (upd s (239 + t) x) := by
  obtain ⟨a, ⟨b1, b2, b3⟩, c, e⟩ := h
  have hD : nD (upd s (239 + t) x) = nD s := by unfold nD; rw [upd_n (by omega)]
  refine ⟨fun u hu => ?_, ⟨?_, ?_, ?_⟩, fun y hy => ?_, fun h3 k hk => ?_⟩
  · obtain ⟨a1, a2, a3, a4⟩ := a u hu
    simp only [row_s, row_j, ne_eq, Nat.reduceEqDiff, not_false_eq_true]
    refine ⟨?_, ?_, ?_, ?_⟩
    · rw [upd_n (by omega)]
      exact a1
    · rw [upd_n (by omega)]
      exact a2
    · by_cases q : u = t
      · subst q
        rw [upd_s, upd_s]
      · rw [upd_n q, upd_n (by omega)]
        exact a3
    · rw [upd_n (by omega)]
      exact a4
  · simp only [row_s, row_j, ne_eq, Nat.reduceEqDiff, not_false_eq_true]
    rw [plI_of (upd_n (by omega) s x) (upd_n (by omega) s x)]
    exact b1
  · simp only [row_s, row_j, ne_eq, Nat.reduceEqDiff, not_false_eq_true]
    rw [upd_n (by omega)]
    exact b2
  · simp only [row_s, row_j, ne_eq, Nat.reduceEqDiff, not_false_eq_true]
    rw [upd_n (by omega)]
    exact b3
  · simp only [row_s, row_j, ne_eq, Nat.reduceEqDiff, not_false_eq_true]
    rw [upd_n (by omega)]
    exact c y hy
  · simp only [row_s, row_j, ne_eq, Nat.reduceEqDiff, not_false_eq_true]
    rw [upd_n (by omega)] at h3
    rw [hD] at hk
    obtain ⟨e1, e2, e3⟩ := e h3 k hk
    refine ⟨?_, ?_, ?_⟩
    · rw [upd_n (by omega)]
      exact e1
    · rw [upd_n (by omega)]
      exact e2
    · rw [dW_of (upd_n (by omega) s x)]
      exact e3
theorem Cw_u5 (h : Cw d w s) (hD6 : nD s ≤ 6) {t : Nat} (ht : t < 16) (x : Int32) : Cw (ax_set d 7 w 5 (upd (ax_row d 7 w 5) t x)) w (upd s (207 + t) x) := by
  obtain ⟨a, ⟨b1, b2, b3⟩, c, e⟩ := h
  have hD : nD (upd s (207 + t) x) = nD s := by unfold nD; rw [upd_n (by omega)]
  refine ⟨fun u hu => ?_, ⟨?_, ?_, ?_⟩, fun y hy => ?_, fun h3 k hk => ?_⟩
  · obtain ⟨a1, a2, a3, a4⟩ := a u hu
    simp only [row_s, row_j, ne_eq, Nat.reduceEqDiff, not_false_eq_true]
    refine ⟨?_, ?_, ?_, ?_⟩
    · rw [upd_n (by omega)]
      exact a1
    · rw [upd_n (by omega)]
      exact a2
    · rw [upd_n (by omega)]
      exact a3
    · by_cases q : u = t
      · subst q
        rw [upd_s, upd_s]
      · rw [upd_n q, upd_n (by omega)]
        exact a4
  · simp only [row_s, row_j, ne_eq, Nat.reduceEqDiff, not_false_eq_true]
    rw [plI_of (upd_n (by omega) s x) (upd_n (by omega) s x)]
    exact b1
  · simp only [row_s, row_j, ne_eq, Nat.reduceEqDiff, not_false_eq_true]
    rw [upd_n (by omega)]
    exact b2
  · simp only [row_s, row_j, ne_eq, Nat.reduceEqDiff, not_false_eq_true]
    rw [upd_n (by omega)]
    exact b3
  · simp only [row_s, row_j, ne_eq, Nat.reduceEqDiff, not_false_eq_true]
    rw [upd_n (by omega)]
    exact c y hy
  · simp only [row_s, row_j, ne_eq, Nat.reduceEqDiff, not_false_eq_true]
    rw [upd_n (by omega)] at h3
    rw [hD] at hk
    obtain ⟨e1, e2, e3⟩ := e h3 k hk
    refine ⟨?_, ?_, ?_⟩
    · rw [upd_n (by omega)]
      exact e1
    · rw [upd_n (by omega)]
      exact e2
    · rw [dW_of (upd_n (by omega) s x)]
      exact e3
theorem Cw_u9 (h : Cw d w s) (hD6 : nD s ≤ 6) {t : Nat} (ht : t < 40) (x : Int32) : Cw (ax_set d 7 w 9 (upd (ax_row d 7 w 9) t x)) w (upd s (329 + t) x) := by
  obtain ⟨a, ⟨b1, b2, b3⟩, c, e⟩ := h
  have hD : nD (upd s (329 + t) x) = nD s := by unfold nD; rw [upd_n (by omega)]
  refine ⟨fun u hu => ?_, ⟨?_, ?_, ?_⟩, fun y hy => ?_, fun h3 k hk => ?_⟩
  · obtain ⟨a1, a2, a3, a4⟩ := a u hu
    simp only [row_s, row_j, ne_eq, Nat.reduceEqDiff, not_false_eq_true]
    refine ⟨?_, ?_, ?_, ?_⟩
    · rw [upd_n (by omega)]
      exact a1
    · rw [upd_n (by omega)]
      exact a2
    · rw [upd_n (by omega)]
      exact a3
    · rw [upd_n (by omega)]
      exact a4
  · simp only [row_s, row_j, ne_eq, Nat.reduceEqDiff, not_false_eq_true]
    rw [plI_of (upd_n (by omega) s x) (upd_n (by omega) s x)]
    exact b1
  · simp only [row_s, row_j, ne_eq, Nat.reduceEqDiff, not_false_eq_true]
    rw [upd_n (by omega)]
    exact b2
  · simp only [row_s, row_j, ne_eq, Nat.reduceEqDiff, not_false_eq_true]
    rw [upd_n (by omega)]
    exact b3
  · simp only [row_s, row_j, ne_eq, Nat.reduceEqDiff, not_false_eq_true]
    by_cases q : y = t
    · subst q
      rw [upd_s, upd_s]
    · rw [upd_n q, upd_n (by omega)]
      exact c y hy
  · simp only [row_s, row_j, ne_eq, Nat.reduceEqDiff, not_false_eq_true]
    rw [upd_n (by omega)] at h3
    rw [hD] at hk
    obtain ⟨e1, e2, e3⟩ := e h3 k hk
    refine ⟨?_, ?_, ?_⟩
    · rw [upd_n (by omega)]
      exact e1
    · rw [upd_n (by omega)]
      exact e2
    · rw [dW_of (upd_n (by omega) s x)]
      exact e3
theorem Cw_u6 (h : Cw d w s) (hD6 : nD s ≤ 6) {t : Nat} (ht : t < 6) (x : Int32) : Cw (ax_set d 7 w 6 (upd (ax_row d 7 w 6) t x)) w (upd s (311 + t) x) := by
  obtain ⟨a, ⟨b1, b2, b3⟩, c, e⟩ := h
  have hD : nD (upd s (311 + t) x) = nD s := by unfold nD; rw [upd_n (by omega)]
  refine ⟨fun u hu => ?_, ⟨?_, ?_, ?_⟩, fun y hy => ?_, fun h3 k hk => ?_⟩
  · obtain ⟨a1, a2, a3, a4⟩ := a u hu
    simp only [row_s, row_j, ne_eq, Nat.reduceEqDiff, not_false_eq_true]
    refine ⟨?_, ?_, ?_, ?_⟩
    · rw [upd_n (by omega)]
      exact a1
    · rw [upd_n (by omega)]
      exact a2
    · rw [upd_n (by omega)]
      exact a3
    · rw [upd_n (by omega)]
      exact a4
  · simp only [row_s, row_j, ne_eq, Nat.reduceEqDiff, not_false_eq_true]
    rw [plI_of (upd_n (by omega) s x) (upd_n (by omega) s x)]
    exact b1
  · simp only [row_s, row_j, ne_eq, Nat.reduceEqDiff, not_false_eq_true]
    rw [upd_n (by omega)]
    exact b2
  · simp only [row_s, row_j, ne_eq, Nat.reduceEqDiff, not_false_eq_true]
    rw [upd_n (by omega)]
    exact b3
  · simp only [row_s, row_j, ne_eq, Nat.reduceEqDiff, not_false_eq_true]
    rw [upd_n (by omega)]
    exact c y hy
  · simp only [row_s, row_j, ne_eq, Nat.reduceEqDiff, not_false_eq_true]
    rw [upd_n (by omega)] at h3
    rw [hD] at hk
    obtain ⟨e1, e2, e3⟩ := e h3 k hk
    refine ⟨?_, ?_, ?_⟩
    · by_cases q : k = t
      · subst q
        rw [upd_s, upd_s]
      · rw [upd_n q, upd_n (by omega)]
        exact e1
    · rw [upd_n (by omega)]
      exact e2
    · rw [dW_of (upd_n (by omega) s x)]
      exact e3
theorem Cw_u7 (h : Cw d w s) (hD6 : nD s ≤ 6) {t : Nat} (ht : t < 6) (x : Int32) : Cw (ax_set d 7 w 7 (upd (ax_row d 7 w 7) t x)) w (upd s (323 + t) x) := by
  obtain ⟨a, ⟨b1, b2, b3⟩, c, e⟩ := h
  have hD : nD (upd s (323 + t) x) = nD s := by unfold nD; rw [upd_n (by omega)]
  refine ⟨fun u hu => ?_, ⟨?_, ?_, ?_⟩, fun y hy => ?_, fun h3 k hk => ?_⟩
  · obtain ⟨a1, a2, a3, a4⟩ := a u hu
    simp only [row_s, row_j, ne_eq, Nat.reduceEqDiff, not_false_eq_true]
    refine ⟨?_, ?_, ?_, ?_⟩
    · rw [upd_n (by omega)]
      exact a1
    · rw [upd_n (by omega)]
      exact a2
    · rw [upd_n (by omega)]
      exact a3
    · rw [upd_n (by omega)]
      exact a4
  · simp only [row_s, row_j, ne_eq, Nat.reduceEqDiff, not_false_eq_true]
    rw [plI_of (upd_n (by omega) s x) (upd_n (by omega) s x)]
    exact b1
  · simp only [row_s, row_j, ne_eq, Nat.reduceEqDiff, not_false_eq_true]
    rw [upd_n (by omega)]
    exact b2
  · simp only [row_s, row_j, ne_eq, Nat.reduceEqDiff, not_false_eq_true]
    rw [upd_n (by omega)]
    exact b3
  · simp only [row_s, row_j, ne_eq, Nat.reduceEqDiff, not_false_eq_true]
    rw [upd_n (by omega)]
    exact c y hy
  · simp only [row_s, row_j, ne_eq, Nat.reduceEqDiff, not_false_eq_true]
    rw [upd_n (by omega)] at h3
    rw [hD] at hk
    obtain ⟨e1, e2, e3⟩ := e h3 k hk
    refine ⟨?_, ?_, ?_⟩
    · rw [upd_n (by omega)]
      exact e1
    · by_cases q : k = t
      · subst q
        rw [upd_s, upd_s]
      · rw [upd_n q, upd_n (by omega)]
        exact e2
    · rw [dW_of (upd_n (by omega) s x)]
      exact e3
theorem Cw_v9 (h : Cw d w s) (hD6 : nD s ≤ 6) (x : Int32) : Cw (ax_set d 7 w 0 (upd (ax_row d 7 w 0) 9 x)) w (upd s 6 x) := by
  obtain ⟨a, ⟨b1, b2, b3⟩, c, e⟩ := h
  have hD : nD (upd s 6 x) = nD s := by unfold nD; rw [upd_n (by omega)]
  refine ⟨fun u hu => ?_, ⟨?_, ?_, ?_⟩, fun y hy => ?_, fun h3 k hk => ?_⟩
  · simp only [row_s, row_j, ne_eq, Nat.reduceEqDiff, not_false_eq_true]
    rw [upd_n (by omega), upd_n (by omega), upd_n (by omega), upd_n (by omega)]
    exact a u hu
  · simp only [row_s, row_j, ne_eq, Nat.reduceEqDiff, not_false_eq_true]
    rw [upd_n (by omega), plI_of (upd_n (by omega) s x) (upd_n (by omega) s x)]
    exact b1
  · simp only [row_s, row_j, ne_eq, Nat.reduceEqDiff, not_false_eq_true]
    rw [upd_s, upd_s]
  · simp only [row_s, row_j, ne_eq, Nat.reduceEqDiff, not_false_eq_true]
    rw [upd_n (by omega), upd_n (by omega)]
    exact b3
  · simp only [row_s, row_j, ne_eq, Nat.reduceEqDiff, not_false_eq_true]
    rw [upd_n (by omega)]
    exact c y hy
  · simp only [row_s, row_j, ne_eq, Nat.reduceEqDiff, not_false_eq_true]
    rw [upd_n (by omega)] at h3
    rw [hD] at hk
    rw [upd_n (by omega), upd_n (by omega), dW_of (upd_n (by omega) s x)]
    exact e h3 k hk
theorem Cw_v10 (h : Cw d w s) (hD6 : nD s ≤ 6) (x : Int32) : Cw (ax_set d 7 w 0 (upd (ax_row d 7 w 0) 10 x)) w (upd s 4 x) := by
  obtain ⟨a, ⟨b1, b2, b3⟩, c, e⟩ := h
  have hD : nD (upd s 4 x) = nD s := by unfold nD; rw [upd_n (by omega)]
  refine ⟨fun u hu => ?_, ⟨?_, ?_, ?_⟩, fun y hy => ?_, fun h3 k hk => ?_⟩
  · simp only [row_s, row_j, ne_eq, Nat.reduceEqDiff, not_false_eq_true]
    rw [upd_n (by omega), upd_n (by omega), upd_n (by omega), upd_n (by omega)]
    exact a u hu
  · simp only [row_s, row_j, ne_eq, Nat.reduceEqDiff, not_false_eq_true]
    rw [upd_n (by omega), plI_of (upd_n (by omega) s x) (upd_n (by omega) s x)]
    exact b1
  · simp only [row_s, row_j, ne_eq, Nat.reduceEqDiff, not_false_eq_true]
    rw [upd_n (by omega), upd_n (by omega)]
    exact b2
  · simp only [row_s, row_j, ne_eq, Nat.reduceEqDiff, not_false_eq_true]
    rw [upd_s, upd_s]
  · simp only [row_s, row_j, ne_eq, Nat.reduceEqDiff, not_false_eq_true]
    rw [upd_n (by omega)]
    exact c y hy
  · simp only [row_s, row_j, ne_eq, Nat.reduceEqDiff, not_false_eq_true]
    rw [upd_n (by omega)] at h3
    rw [hD] at hk
    rw [upd_n (by omega), upd_n (by omega), dW_of (upd_n (by omega) s x)]
    exact e h3 k hk
theorem Cw_v11 (h : Cw d w s) (hD6 : nD s ≤ 6) (h31 : s 3 = 1) (x : Int32) : Cw (ax_set d 7 w 0 (upd (ax_row d 7 w 0) 11 x)) w (upd s 5 x) := by
  obtain ⟨a, ⟨b1, b2, b3⟩, c, e⟩ := h
  have hD : nD (upd s 5 x) = nD s := by unfold nD; rw [upd_n (by omega)]
  refine ⟨fun u hu => ?_, ⟨?_, ?_, ?_⟩, fun y hy => ?_, fun h3 k hk => ?_⟩
  · simp only [row_s, row_j, ne_eq, Nat.reduceEqDiff, not_false_eq_true]
    rw [upd_n (by omega), upd_n (by omega), upd_n (by omega), upd_n (by omega)]
    exact a u hu
  · simp only [row_s, row_j, ne_eq, Nat.reduceEqDiff, not_false_eq_true]
    rw [upd_s]
    unfold plI
    rw [upd_n (by omega), upd_s, if_pos h31]
  · simp only [row_s, row_j, ne_eq, Nat.reduceEqDiff, not_false_eq_true]
    rw [upd_n (by omega), upd_n (by omega)]
    exact b2
  · simp only [row_s, row_j, ne_eq, Nat.reduceEqDiff, not_false_eq_true]
    rw [upd_n (by omega), upd_n (by omega)]
    exact b3
  · simp only [row_s, row_j, ne_eq, Nat.reduceEqDiff, not_false_eq_true]
    rw [upd_n (by omega)]
    exact c y hy
  · simp only [row_s, row_j, ne_eq, Nat.reduceEqDiff, not_false_eq_true]
    rw [upd_n (by omega)] at h3
    rw [hD] at hk
    rw [upd_n (by omega), upd_n (by omega), dW_of (upd_n (by omega) s x)]
    exact e h3 k hk
/-- the way behind the last one -/
theorem Cw_u8 (h : Cw d w s) (hD6 : nD s ≤ 6) {t q : Nat} (ht : t < 6) (hq : q < 6) : Cw (ax_set d 7 w 8 (upd (ax_row d 7 w 8) t (nI ((q + 1) % 6)))) w (upd s (317 + t) (nI q)) := by
  obtain ⟨a, ⟨b1, b2, b3⟩, c, e⟩ := h
  have hD : nD (upd s (317 + t) (nI q)) = nD s := by unfold nD; rw [upd_n (by omega)]
  refine ⟨fun u hu => ?_, ⟨?_, ?_, ?_⟩, fun y hy => ?_, fun h3 k hk => ?_⟩
  · simp only [row_s, row_j, ne_eq, Nat.reduceEqDiff, not_false_eq_true]
    rw [upd_n (by omega), upd_n (by omega), upd_n (by omega), upd_n (by omega)]
    exact a u hu
  · simp only [row_s, row_j, ne_eq, Nat.reduceEqDiff, not_false_eq_true]
    rw [plI_of (upd_n (by omega) s _) (upd_n (by omega) s _)]
    exact b1
  · simp only [row_s, row_j, ne_eq, Nat.reduceEqDiff, not_false_eq_true]
    rw [upd_n (by omega)]
    exact b2
  · simp only [row_s, row_j, ne_eq, Nat.reduceEqDiff, not_false_eq_true]
    rw [upd_n (by omega)]
    exact b3
  · simp only [row_s, row_j, ne_eq, Nat.reduceEqDiff, not_false_eq_true]
    rw [upd_n (by omega)]
    exact c y hy
  · simp only [row_s, row_j, ne_eq, Nat.reduceEqDiff, not_false_eq_true]
    rw [upd_n (by omega)] at h3
    rw [hD] at hk
    obtain ⟨e1, e2, e3⟩ := e h3 k hk
    rw [upd_n (by omega), upd_n (by omega)]
    refine ⟨e1, e2, ?_⟩
    by_cases z : k = t
    · subst z
      rw [upd_s]
      unfold dW
      rw [upd_s, nI_1, nI_clamp (by omega)]
    · rw [upd_n z, dW_of (upd_n (by omega) s _)]
      exact e3
theorem c_move (h : CC d w s) {t : Nat} {p g : Int32} (hm : MvOk s t p g) (Q : ax_P) (hQ : ∀ d', Fr (sW w) d d' → CC d' w (moves s t p g) → Q d' (Sum.inl none)) : CT 38 [ax_vR 7 w 0, Sum.inl (nI t), Sum.inl p, Sum.inl g] d Q := by
  have ht := hm.1
  have hl := Ok_lt h.2.2 ht
  have hD := (Pk_D h.2.2.1).2
  have h1 := Cw_u2 h.2.1 hD hl p
  have hD1 : nD (upd s (255 + t) p) ≤ 6 := by unfold nD at hD ⊢; rw [upd_n (by omega)]; exact hD
  have h2 := Cw_u3 h1 hD1 hl (mvT p g)
  have f1 : Fr (sW w) d (ax_set d 7 w 2 (upd (ax_row d 7 w 2) t p)) := Fr_set (by decide) ⟨rfl, rfl⟩ d 2 _
  have f2 := Fr_trans f1 (Fr_set (by decide) ⟨rfl, rfl⟩ _ 3 (upd (ax_row (ax_set d 7 w 2 (upd (ax_row d 7 w 2) t p)) 7 w 3) t (mvT p g)))
  have hfin := hQ _ f2 ⟨Cp_SP (Cp_Fr f2 (fun x => by cases x.1) h.1) (mo_SP hl), h2, Ok_moves h.2.2 hm⟩
  refine w38 _ _ _ _ ?_
  simp only [c_isTh h, isTh_nI h.2.2 ht, ax_in_nI hl (by omega), nI_clamp (show t < 2 ^ 31 by omega), kV_r, kV_x, kI_r, kI_x, kR_r, kF_r, kD_r, forall_eq, not_true_eq_false, not_false_eq_true, false_implies, true_implies, true_and, and_true, b2i_0, b2i_1, b2i_01, b2i_t, b2i_f, decide_true, decide_false, Bool.not_true, Bool.not_false, i1_0]
  have hp : mvT p g = if p = 3 then -1 else if p = 4 then -1 else g := by
    unfold mvT
    rcases hm.2 with ⟨rfl, -⟩ | ⟨rfl, -⟩ | ⟨rfl, -⟩ | rfl | rfl <;> rfl
  rw [hp] at hfin
  refine ⟨fun e => ?_, fun e => ⟨fun e2 => ?_, fun e2 => ?_⟩⟩
  · rw [if_pos e] at hfin
    exact hfin
  · rw [if_neg e, if_pos e2] at hfin
    exact hfin
  · rw [if_neg e, if_neg e2] at hfin
    exact hfin
theorem c_mark (h : CC d w s) {t f : Nat} {p : Int32} (ht : t < nT s) (hf : FlOk s t f (!decide (p = 0))) (Q : ax_P) (hQ : ∀ d', Fr (sW w) d d' → CC d' w (sets s t (nI f) (!decide (p = 0))) → Q d' (Sum.inl none)) : CT 35 [ax_vR 7 w 0, Sum.inl (nI t), Sum.inl (nI f), Sum.inl p] d Q := by
  have hl := Ok_lt h.2.2 ht
  have hD := (Pk_D h.2.2.1).2
  have f1 : Fr (sW w) d (ax_set d 7 w 4 (upd (ax_row d 7 w 4) t (wF (s (239 + t)) (nI f) (!decide (p = 0))))) := Fr_set (by decide) ⟨rfl, rfl⟩ d 4 _
  obtain ⟨k1, k2, -⟩ := Ok_sets h.2.2 ht hf
  have hfin := hQ _ f1 ⟨Cp_SP (Cp_Fr f1 (fun x => by cases x.1) h.1) k2, Cw_u4 h.2.1 hD hl _, k1⟩
  refine w35 _ _ _ _ ?_
  simp only [c_isTh h, isTh_nI h.2.2 ht, ax_in_nI hl (by omega), nI_clamp (show t < 2 ^ 31 by omega), (h.2.1.1 t hl).2.2.1, c_with, kV_r, kV_x, kI_r, kI_x, kR_r, kF_r, kD_r, forall_eq, not_true_eq_false, not_false_eq_true, false_implies, true_implies, true_and, and_true, b2i_0, b2i_1, b2i_01, b2i_t, b2i_f, decide_true, decide_false, Bool.not_true, Bool.not_false, i1_0]
  exact hfin
/-- events -/
theorem c_note (h : CC d w s) (hp : s 3 = 1) (c t : Int32) (Q : ax_P) (hQ : ∀ d', Fr (sW w) d d' → CC d' w (logS s (c * 100 + t)) → Q d' (Sum.inl none)) : CT 84 [ax_vR 7 w 0, Sum.inl c, Sum.inl t] d Q := by
  have hD := (Pk_D h.2.2.1).2
  obtain ⟨e, he, h6⟩ := Ok_6 h.2.2 hp
  obtain ⟨k1, k2, k3⟩ := Ok_log h.2.2 hp (c * 100 + t)
  have h9 := h.2.1.2.1.2.1
  refine w84 _ _ _ ?_
  rw [h9, h6]
  have hlog : ∀ d1 : ax_D, Fr (sW w) d d1 → Cw d1 w (logS s (c * 100 + t)) → Q d1 (Sum.inl none) := fun d1 f1 hw => hQ _ f1 ⟨Cp_SP (Cp_Fr f1 (fun x => by cases x.1) h.1) k2, hw, k1⟩
  refine ⟨fun g => ?_, fun g => ?_⟩
  · have he40 : e < 40 := (nI_ltI (b := 40) (by omega) (by omega)).mp g
    refine w84_30 _ _ _ ?_
    rw [h9, h6, nI_clamp (show e < 2 ^ 31 by omega)]
    refine ⟨ax_in_nI he40 (by omega), fun d1 e1 d2 e2 => ?_⟩
    subst e1
    have f1 : Fr (sW w) d (ax_set d 7 w 9 (upd (ax_row d 7 w 9) e (c * 100 + t))) := Fr_set (by decide) ⟨rfl, rfl⟩ d 9 _
    rw [row_j (by decide), h9, h6] at e2
    subst e2
    have f2 := Fr_trans f1 (Fr_set (by decide) ⟨rfl, rfl⟩ _ 0 (upd (ax_row (ax_set d 7 w 9 (upd (ax_row d 7 w 9) e (c * 100 + t))) 7 w 0) 9 (nI e + 1)))
    rw [row_j (by decide)] at f2
    refine hlog _ f2 ?_
    have hne : ¬ s 6 = 40 := by
      rw [h6]
      exact fun x => by have := (nI_eq (b := 40) (by omega) (by omega)).mp x; omega
    have q1 := Cw_u9 h.2.1 hD he40 (c * 100 + t)
    have hD1 : nD (upd s (329 + e) (c * 100 + t)) ≤ 6 := by unfold nD at hD ⊢; rw [upd_n (by omega)]; exact hD
    have q2 := Cw_v9 q1 hD1 (nI e + 1)
    rw [row_j (by decide)] at q2
    unfold logS
    rw [decide_eq_false hne, cond_false, h6, nI_clamp (by omega), upd_c (by omega)]
    exact q2
  · have he40 : e = 40 := by
      rcases Nat.lt_or_ge e 40 with x | x
      · exact absurd ((nI_ltI (b := 40) (by omega) (by omega)).mpr x) g
      · omega
    subst he40
    intro d1 e1 d2 e2
    subst e1
    rw [row_j (by decide)] at e2
    subst e2
    have f1 : Fr (sW w) d (ax_set d 7 w 9 (va_cpy (ax_row d 7 w 9) (ax_row d 7 w 9) 1 0 39)) := Fr_set (by decide) ⟨rfl, rfl⟩ d 9 _
    have f2 := Fr_trans f1 (Fr_set (by decide) ⟨rfl, rfl⟩ _ 0 (upd (ax_row (ax_set d 7 w 9 (va_cpy (ax_row d 7 w 9) (ax_row d 7 w 9) 1 0 39)) 7 w 0) 9 39))
    rw [row_j (by decide)] at f2
    -- the shifted row, with one event less
    have q1 : Cw (ax_set (ax_set d 7 w 9 (va_cpy (ax_row d 7 w 9) (ax_row d 7 w 9) 1 0 39)) 7 w 0 (upd (ax_row d 7 w 0) 9 39)) w (upd (shE s 39) 6 39) := by
      obtain ⟨a, ⟨b1, b2, b3⟩, c9, e9⟩ := h.2.1
      have sh : ∀ k, k < 329 ∨ 368 ≤ k → shE s 39 k = s k := fun k hk => by unfold shE; rw [if_neg (by omega)]
      have hDD : nD (upd (shE s 39) 6 39) = nD s := by unfold nD; rw [upd_n (by omega), sh _ (by omega)]
      refine ⟨fun u hu => ?_, ⟨?_, ?_, ?_⟩, fun y hy => ?_, fun h3 k hk => ?_⟩
      · simp only [row_s, row_j, ne_eq, Nat.reduceEqDiff, not_false_eq_true]
        rw [upd_n (by omega), upd_n (by omega), upd_n (by omega), upd_n (by omega), sh _ (by omega), sh _ (by omega), sh _ (by omega), sh _ (by omega)]
        exact a u hu
      · simp only [row_s, row_j, ne_eq, Nat.reduceEqDiff, not_false_eq_true]
        rw [upd_n (by omega), plI_of ((upd_n (by omega) _ _).trans (sh 3 (by omega))) ((upd_n (by omega) _ _).trans (sh 5 (by omega)))]
        exact b1
      · simp only [row_s, row_j, ne_eq, Nat.reduceEqDiff, not_false_eq_true]
        rw [upd_s, upd_s]
      · simp only [row_s, row_j, ne_eq, Nat.reduceEqDiff, not_false_eq_true]
        rw [upd_n (by omega), upd_n (by omega), sh _ (by omega)]
        exact b3
      · simp only [row_s, row_j, ne_eq, Nat.reduceEqDiff, not_false_eq_true]
        rw [upd_n (by omega)]
        by_cases z : y < 39
        · rw [pk_cpy_in (by omega) (by omega), show 1 + (y - 0) = y + 1 by omega, c9 (y + 1) (by omega)]
          unfold shE
          rw [if_pos (by omega)]
          rfl
        · rw [pk_cpy_out (by omega), c9 y hy, sh _ (by omega)]
      · simp only [row_s, row_j, ne_eq, Nat.reduceEqDiff, not_false_eq_true]
        rw [upd_n (by omega), sh _ (by omega)] at h3
        rw [hDD] at hk
        rw [upd_n (by omega), upd_n (by omega), sh _ (by omega), sh _ (by omega), dW_of ((upd_n (by omega) _ _).trans (sh (317 + k) (by omega)))]
        exact e9 h3 k hk
    refine w84_30 _ _ _ ?_
    rw [row_s, upd_s]
    refine ⟨by decide, fun d3 e3 d4 e4 => ?_⟩
    have cl : (39 : Int32).toNatClampNeg = 39 := by decide
    rw [cl] at e3
    subst e3
    simp only [row_s, row_j, upd_s, ne_eq, Nat.reduceEqDiff, not_false_eq_true] at e4
    subst e4
    have hD1 : nD (upd (shE s 39) 6 39) ≤ 6 := by
      unfold nD at hD ⊢
      rw [upd_n (by omega)]
      unfold shE
      rw [if_neg (by omega)]
      exact hD
    have q2 := Cw_u9 q1 hD1 (t := 39) (by omega) (c * 100 + t)
    have hD2 : nD (upd (upd (shE s 39) 6 39) (329 + 39) (c * 100 + t)) ≤ 6 := by unfold nD at hD1 ⊢; rw [upd_n (by omega)]; exact hD1
    have q3 := Cw_v9 q2 hD2 (39 + 1)
    have f3 := Fr_trans f2 (Fr_set (by decide) ⟨rfl, rfl⟩ _ 9 (upd (ax_row (ax_set (ax_set d 7 w 9 (va_cpy (ax_row d 7 w 9) (ax_row d 7 w 9) 1 0 39)) 7 w 0 (upd (ax_row d 7 w 0) 9 39)) 7 w 9) 39 (c * 100 + t)))
    have f4 := Fr_trans f3 (Fr_set (by decide) ⟨rfl, rfl⟩ _ 0 (upd (ax_row (ax_set (ax_set (ax_set d 7 w 9 (va_cpy (ax_row d 7 w 9) (ax_row d 7 w 9) 1 0 39)) 7 w 0 (upd (ax_row d 7 w 0) 9 39)) 7 w 9 (upd (ax_row (ax_set (ax_set d 7 w 9 (va_cpy (ax_row d 7 w 9) (ax_row d 7 w 9) 1 0 39)) 7 w 0 (upd (ax_row d 7 w 0) 9 39)) 7 w 9) 39 (c * 100 + t))) 7 w 0) 9 (39 + 1)))
    have h640 : s 6 = 40 := h6
    have e40 : upd (upd (upd (shE s 39) 6 39) (329 + 39) (c * 100 + t)) 6 (39 + 1) = logS s (c * 100 + t) := by
      unfold logS
      rw [decide_eq_true h640, cond_true, upd_c (by omega), upd_u]
      congr 1
      funext k
      by_cases z : k = 6
      · subst z
        rw [upd_s]
        unfold shE
        rw [if_neg (by omega), h640]
        decide
      · rw [upd_n z]
    rw [e40] at q3
    simp only [row_s, row_j, upd_s, ne_eq, Nat.reduceEqDiff, not_false_eq_true] at q3 f4
    exact hlog _ f4 q3
end CU
