/-! THE ABSTRACT MACHINE IS SOUND: each operation, from its row of the kit. -/
theorem ax_cat_conc (G : ax_G) (v : ax_V) : (ax_conc G v).category = ax_cat v := by
  rcases v with x | x | x | x | ⟨k, i, j⟩ <;> rfl
theorem ax_find_mem {lo : List (Nat × ax_V)} {a : Nat} {v : ax_V} (h : ax_find lo a = some v) : (a, v) ∈ lo := by
  induction lo with
  | nil => cases h
  | cons q r ih =>
    unfold ax_find at h
    cases hq : Nat.beq q.1 a with
    | true =>
      rw [hq] at h
      have h1 : q.2 = v := Option.some.inj h
      have h2 : q.1 = a := Nat.eq_of_beq_eq_true hq
      rw [← h1, ← h2]
      exact List.mem_cons_self
    | false =>
      rw [hq] at h
      exact List.mem_cons_of_mem _ (ih h)
abbrev ax_cl (G : ax_G) (lo : List (Nat × ax_V)) : List (Nat × Value) := lo.map (fun q => (q.1, ax_conc G q.2))
theorem ax_find_at {G : ax_G} {lo : List (Nat × ax_V)} {a nL : Nat} {v : ax_V} {ls : Array Slot} (h : ax_find lo a = some v) (hl : lv_has ls nL (ax_cl G lo)) : ls[a]? = some (.val (ax_conc G v)) :=
  hl.2.2 (a, ax_conc G v) (List.mem_map.mpr ⟨(a, v), ax_find_mem h, rfl⟩)
theorem ax_keys_nodup : ax_keys.Nodup := by decide +kernel
theorem ax_keys_9 : ∀ q ∈ ax_keys, q.1 = 9 → q.2.1 = 0 := by decide +kernel
theorem ax_keys_ga : ∀ q ∈ ax_keys, q.2.2 = 0 → ∀ s, s < 30 → ∀ r ∈ (ax_ga q.1 q.2.1 s).toList, r ∈ ax_keys := by decide +kernel
theorem ax_keys_w : ∀ x, x < 11 → (7, 4 + x, 0) ∈ ax_keys := by decide +kernel
theorem ax_keys_lt : ∀ q ∈ ax_keys, q.1 < 12 ∧ (q.2.2 = 0 → q.1 < 10) := by decide +kernel
theorem ax_cells_get (G : ax_G) (d : ax_D) {k i j : Nat} (h : (k, i, j) ∈ ax_keys) : ∃ n : Nat, (ax_cells G d)[n]? = some (G.2.2.1 k i j, ax_ent G d k i j) ∧ ax_keys[n]? = some (k, i, j) := by
  obtain ⟨n, hn⟩ := List.getElem?_of_mem h
  refine ⟨n, ?_, hn⟩
  unfold ax_cells
  rw [List.getElem?_map, hn]
  rfl
theorem ax_cells_set {G : ax_G} {d d' : ax_D} {k i j n : Nat} {x : va_E} (hn : ax_keys[n]? = some (k, i, j)) (h1 : ax_ent G d' k i j = x) (h2 : ∀ q ∈ ax_keys, q ≠ (k, i, j) → ax_ent G d' q.1 q.2.1 q.2.2 = ax_ent G d q.1 q.2.1 q.2.2) : (ax_cells G d).set n (G.2.2.1 k i j, x) = ax_cells G d' := by
  apply List.ext_getElem?
  intro z
  have hlt : n < ax_keys.length := (List.getElem?_eq_some_iff.mp hn).1
  unfold ax_cells
  rw [List.getElem?_set]
  by_cases hz : n = z
  · subst hz
    rw [if_pos rfl, List.getElem?_map, hn]
    simp only [List.length_map, Option.map_some]
    rw [if_pos hlt, h1]
  · rw [if_neg hz, List.getElem?_map, List.getElem?_map]
    cases hq : ax_keys[z]? with
    | none => rfl
    | some q =>
      have hne : q ≠ (k, i, j) := by
        intro he
        subst he
        exact hz ((List.getElem?_inj hlt ax_keys_nodup).mp (hn.trans hq.symm))
      simp only [Option.map_some]
      rw [h2 q (List.mem_of_getElem? hq) hne]
theorem ax_set_2 (d : ax_D) (k i j : Nat) (f : Nat → Int32) : (ax_set d k i j f).2.2 = d.2.2 := by
  unfold ax_set
  cases Nat.beq k 9 <;> rfl
theorem ax_row_same (d : ax_D) (k i j : Nat) (f : Nat → Int32) : ax_row (ax_set d k i j f) k i j = f := by
  unfold ax_row ax_set
  cases h : Nat.beq k 9
  · simp [ax_setC]
  · simp [ax_setM]
theorem ax_row_ne (d : ax_D) {k i j k' i' j' : Nat} (f : Nat → Int32) (h : (k', i', j') ≠ (k, i, j)) (h9 : k = 9 → i = 0) (h9' : k' = 9 → i' = 0) : ax_row (ax_set d k i j f) k' i' j' = ax_row d k' i' j' := by
  unfold ax_row ax_set
  cases hk : Nat.beq k 9 with
  | false =>
    cases hk' : Nat.beq k' 9 with
    | true => rfl
    | false =>
      have hc : (Nat.beq k' k && (Nat.beq i' i && Nat.beq j' j)) = false := by
        cases hb : (Nat.beq k' k && (Nat.beq i' i && Nat.beq j' j)) with
        | false => rfl
        | true =>
          rw [Bool.and_eq_true, Bool.and_eq_true] at hb
          exact absurd (by rw [Nat.eq_of_beq_eq_true hb.1, Nat.eq_of_beq_eq_true hb.2.1, Nat.eq_of_beq_eq_true hb.2.2]) h
      show ax_setC d.1 k i j f k' i' j' = _
      unfold ax_setC
      rw [hc]
      rfl
  | true =>
    cases hk' : Nat.beq k' 9 with
    | false => rfl
    | true =>
      have e1 : k = 9 := Nat.eq_of_beq_eq_true hk
      have e2 : k' = 9 := Nat.eq_of_beq_eq_true hk'
      have hj : Nat.beq j' j = false := by
        cases hb : Nat.beq j' j with
        | false => rfl
        | true => exact absurd (by rw [e1, e2, h9 e1, h9' e2, Nat.eq_of_beq_eq_true hb]) h
      show ax_setM d.2.1 j f j' = _
      unfold ax_setM
      rw [hj]
      rfl
theorem ax_ent_set_ne {G : ax_G} {d : ax_D} {k i j : Nat} {f : Nat → Int32} (hk : (k, i, j) ∈ ax_keys) : ∀ q ∈ ax_keys, q ≠ (k, i, j) → ax_ent G (ax_set d k i j f) q.1 q.2.1 q.2.2 = ax_ent G d q.1 q.2.1 q.2.2 := by
  intro q hq hne
  obtain ⟨k', i', j'⟩ := q
  have hr : ax_row (ax_set d k i j f) k' i' j' = ax_row d k' i' j' := ax_row_ne d f hne (ax_keys_9 _ hk) (ax_keys_9 _ hq)
  show ax_ent G (ax_set d k i j f) k' i' j' = ax_ent G d k' i' j'
  unfold ax_ent
  cases hj : Nat.beq j' 0 with
  | false =>
    simp only [cond_false]
    rw [hr, ax_set_2]
  | true =>
    have e0 : j' = 0 := Nat.eq_of_beq_eq_true hj
    simp only [cond_true]
    have hf : ax_fv G (ax_set d k i j f) k' i' = ax_fv G d k' i' := by
      funext z
      unfold ax_fv
      rw [← e0, hr]
    rw [hf]
theorem ax_ent_A {G : ax_G} {d : ax_D} {k i j : Nat} (h : ax_isA k j = true) : ax_ent G d k i j = .inl (cond (Nat.beq k 4 && Nat.beq j 1) (G.2.1 1) (G.2.1 0), (ax_len k j, .inl (ax_row d k i j))) := by
  have h1 : Nat.beq j 0 = false := by
    cases hb : Nat.beq j 0 with
    | false => rfl
    | true =>
      rw [Nat.eq_of_beq_eq_true hb] at h
      unfold ax_isA at h
      split at h <;> simp at h
  have h2 : Nat.beq k 2 = false ∧ Nat.beq k 10 = false ∧ Nat.beq k 11 = false := by
    unfold ax_isA at h
    split at h <;> first | exact ⟨rfl, rfl, rfl⟩ | simp at h
  unfold ax_ent
  rw [h1, h2.1, h2.2.1, h2.2.2]
  rfl
theorem ax_ent_O (G : ax_G) (d : ax_D) (k i : Nat) : ax_ent G d k i 0 = .inr (k + 2, (List.range (ax_nf k)).map (ax_fv G d k i)) := rfl
theorem ax_fv_set {G : ax_G} {d : ax_D} {k i b : Nat} {x : Int32} (hb : b < ax_nf k) (hg : ax_ga k i b = none) : (List.range (ax_nf k)).map (ax_fv G (ax_set d k i 0 (upd (ax_row d k i 0) b x)) k i) = ((List.range (ax_nf k)).map (ax_fv G d k i)).set b (.int x) := by
  apply List.ext_getElem?
  intro z
  rw [List.getElem?_set, List.getElem?_map, List.getElem?_map]
  by_cases hz : b = z
  · subst hz
    rw [if_pos rfl]
    simp only [List.length_map, List.length_range]
    rw [if_pos hb, List.getElem?_range hb, Option.map_some]
    unfold ax_fv
    rw [hg, ax_row_same]
    simp [upd]
  · rw [if_neg hz]
    by_cases hn : z < ax_nf k
    · rw [List.getElem?_range hn, Option.map_some, Option.map_some]
      unfold ax_fv
      rw [ax_row_same]
      have hu : upd (ax_row d k i 0) b x z = ax_row d k i 0 z := by
        unfold upd
        rw [if_neg (fun h => hz h.symm)]
      rw [hu]
    · have hnn : (List.range (ax_nf k))[z]? = none := by simp; omega
      rw [hnn]
      rfl

