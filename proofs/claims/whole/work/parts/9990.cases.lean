/-! THE LAW'S LOOP: each case keeps INV -/
theorem lz_jn {xs : List Nat} {ci mi : Nat} {as : List Int32} {d : ax_D} {n : Nat} {hs : List (Nat × Nat)} {W : Option (ax_D × Nat × Int32)} (f : Int32 → Int64) (J : JN xs ci mi as d n) (hci : ci < ax_N) (hmi : mi < ax_N)
    (hxs : ∀ k E, xs[k]? = some E → lx_hdF hs 1 E = some (nI (k + 1)) ∧ ¬ nI (k + 1) = 0)
    (wi : ∀ d1 x, ax_sem ax_N ci (ax_vR 8 0 0 :: as.map Sum.inl) d = some (d1, Sum.inl (some (Sum.inl x))) → W = some ((d1.1, d1.2.1, f x, d1.2.2.2), 0, 0))
    (wx : ∀ d1 E k, lx_hdF hs 1 E = some k → ax_sem ax_N ci (ax_vR 8 0 0 :: as.map Sum.inl) d = some (d1, Sum.inr E) → W = some (d1, 1, k)) :
    ∃ d' e' k d2 x, W = some (d', e', k) ∧ e' ≤ 1 ∧ ax_sem ax_N mi (ax_vR 9 0 0 :: as.map Sum.inl) d' = some (d2, Sum.inl (some (Sum.inl x))) ∧ INV d2 n ∧ mv d2 0 = k ∧ (k = 0 → d2.2.2.1 = f x) := by
  obtain ⟨d1, r1, ⟨h1, h2⟩, h3⟩ := ct_at J hci
  obtain ⟨d2, r2, ⟨i1, i2, ag⟩, h4⟩ := ct_at (h2 d1.2.2) hmi
  rcases ag with ⟨k, E, x, e1, e2, e3, e4⟩ | ⟨x, e1, -, -⟩
  · subst e1 e4
    obtain ⟨g1, g2⟩ := hxs k E e2
    exact ⟨d1, 1, nI (k + 1), d2, x, wx d1 E _ g1 h3, Nat.le_refl _, h4, i1, e3, fun h => absurd h g2⟩
  · subst e1
    obtain ⟨d3, r3, ⟨j1, j2, ag⟩, h5⟩ := ct_at (h2 (f x, d1.2.2.2)) hmi
    rcases ag with ⟨k, E, y, e1, -⟩ | ⟨y, e1, e3, e4⟩
    · cases e1
    · cases e1
      subst e4
      exact ⟨oD d1 (f x, d1.2.2.2), 0, 0, d3, x, wi d1 x h3, Nat.zero_le _, h5, j1, e3, fun _ => by rw [j2]⟩
theorem lz_j0 {ci mi : Nat} {d : ax_D} {n : Nat} (J : JN [] ci mi [] d n) (hci : ci < ax_N) (hmi : mi < ax_N) : ∃ d' x d2, ax_sem ax_N ci [ax_vR 8 0 0] d = some (d', Sum.inl (some (Sum.inl x))) ∧ ax_sem ax_N mi [ax_vR 9 0 0] d' = some (d2, Sum.inl (some (Sum.inl x))) ∧ INV d2 n := by
  obtain ⟨d1, r1, ⟨h1, h2⟩, h3⟩ := ct_at J hci
  obtain ⟨d2, r2, ⟨i1, i2, ag⟩, h4⟩ := ct_at (h2 d1.2.2) hmi
  rcases ag with ⟨k, E, x, e1, e2, -⟩ | ⟨x, e1, -, e4⟩
  · simp at e2
  · subst e1 e4
    exact ⟨d1, x, d2, h3, h4, i1⟩
theorem lz_jf {d : ax_D} {n : Nat} {W : Option (ax_D × Nat × Int32)} (J : JA AGF 135 252 d n)
    (wi : ∀ d1 x, GF x → ax_sem ax_N 135 [ax_vR 8 0 0] d = some (d1, Sum.inl (some (Sum.inr (Sum.inr (Sum.inl x))))) → W = some ((d1.1, d1.2.1, d1.2.2.1, FP.f2d x), 0, 0))
    (wx : ∀ d1, ax_sem ax_N 135 [ax_vR 8 0 0] d = some (d1, Sum.inr 5) → W = some (d1, 1, 1)) :
    ∃ d' e' k d2 x, W = some (d', e', k) ∧ e' ≤ 1 ∧ ax_sem ax_N 252 [ax_vR 9 0 0] d' = some (d2, Sum.inl (some (Sum.inr (Sum.inr (Sum.inl x))))) ∧ INV d2 n ∧ mv d2 0 = k ∧ (k = 0 → d2.2.2.2 = FP.f2d x ∧ GF x) := by
  obtain ⟨d1, r1, ⟨h1, h2⟩, h3⟩ := ct_at (n := ax_N) J (by decide)
  obtain ⟨d2, r2, ⟨i1, i2, ag⟩, h4⟩ := ct_at (n := ax_N) (h2 d1.2.2) (by decide)
  rcases ag with ⟨x, e1, e3, e4⟩ | ⟨x, e1, -, -⟩
  · subst e1 e4
    exact ⟨d1, 1, 1, d2, x, wx d1 h3, Nat.le_refl _, h4, i1, e3, fun h => absurd h (by decide)⟩
  · subst e1
    obtain ⟨d3, r3, ⟨j1, j2, ag⟩, h5⟩ := ct_at (n := ax_N) (h2 (d1.2.2.1, FP.f2d x)) (by decide)
    rcases ag with ⟨y, e1, -⟩ | ⟨y, e1, g, e3, e4⟩
    · cases e1
    · cases e1
      subst e4
      exact ⟨oD d1 (d1.2.2.1, FP.f2d x), 0, 0, d3, x, wi d1 x g h3, Nat.zero_le _, h5, j1, e3, fun _ => ⟨by rw [j2], g⟩⟩
theorem lz_jd {d : ax_D} {n : Nat} {W : Option (ax_D × Nat × Int32)} (J : JA AGD 138 255 d n)
    (wi : ∀ d1 x, ax_sem ax_N 138 [ax_vR 8 0 0] d = some (d1, Sum.inl (some (Sum.inr (Sum.inr (Sum.inr (Sum.inl x)))))) → W = some ((d1.1, d1.2.1, d1.2.2.1, x), 0, 0))
    (wx : ∀ d1, ax_sem ax_N 138 [ax_vR 8 0 0] d = some (d1, Sum.inr 5) → W = some (d1, 1, 1)) :
    ∃ d' e' k d2 x, W = some (d', e', k) ∧ e' ≤ 1 ∧ ax_sem ax_N 255 [ax_vR 9 0 0] d' = some (d2, Sum.inl (some (Sum.inr (Sum.inr (Sum.inr (Sum.inl x)))))) ∧ INV d2 n ∧ mv d2 0 = k ∧ (k = 0 → d2.2.2.2 = x ∧ GD x) := by
  obtain ⟨d1, r1, ⟨h1, h2⟩, h3⟩ := ct_at (n := ax_N) J (by decide)
  obtain ⟨d2, r2, ⟨i1, i2, ag⟩, h4⟩ := ct_at (n := ax_N) (h2 d1.2.2) (by decide)
  rcases ag with ⟨x, e1, e3, e4⟩ | ⟨x, e1, -, -⟩
  · subst e1 e4
    exact ⟨d1, 1, 1, d2, x, wx d1 h3, Nat.le_refl _, h4, i1, e3, fun h => absurd h (by decide)⟩
  · subst e1
    obtain ⟨d3, r3, ⟨j1, j2, ag⟩, h5⟩ := ct_at (n := ax_N) (h2 (d1.2.2.1, x)) (by decide)
    rcases ag with ⟨y, e1, -⟩ | ⟨y, e1, g, e3, e4⟩
    · cases e1
    · cases e1
      subst e4
      exact ⟨oD d1 (d1.2.2.1, x), 0, 0, d3, x, wi d1 x h3, Nat.zero_le _, h5, j1, e3, fun _ => ⟨by rw [j2], g⟩⟩
def IT (L : Nat) (xs : Nat → Int32) (i : Int32) (d : ax_D) (n e pc : Nat) : Prop := ∃ d' n' e', INV d' n' ∧ n' ≤ n + 1 ∧ e' ≤ e + 1 ∧ GO L xs pc (L6 i) [] d e 28 (L6 (i + 5)) [] d' e'

section LGC2
variable {L : Nat} {xs : Nat → Int32} {i : Int32} {d d' d2 : ax_D} {e e' : Nat} {k : Int32}
theorem lg_30z {x : UInt32} (a1 : ax_in (i + 1) L = true) (a2 : ax_in (i + 2) L = true) (a3 : ax_in (i + 3) L = true) (a4 : ax_in (i + 4) L = true)  (hw : lx_wor 30 [ax_vR 8 0 0, ax_vR 11 0 1] d = some (d', e', k)) (hm : ax_sem ax_N 252 [ax_vR 9 0 0] d' = some (d2, Sum.inl (some (Sum.inr (Sum.inr (Sum.inl x)))))) (ht : mv d2 0 = k) (ho : k = 0 → (d2.2.2.2 = FP.f2d x ∧ decide (Op.cmpValue (FP.dcmp (FP.f2d x) (FP.f2d x)) .l = 0) = true) ∧ decide (FP.f2d x &&& 0x7fffffffffffffff ≤ 0x7ff0000000000000) = true) : GO L xs 2140 (L6 i) [] d e 28 (L6 (i + 5)) [] d2 (e + e') := by
  have ht := decide_eq_true ht
  rcases Decidable.em (k = 0) with hk | hk
  · obtain ⟨ho, hnn⟩ := ho hk
    have hk : (!(decide (k = 0))) = false := by simp [hk]
    have hc : decide (Op.cmpValue (FP.dcmp d2.2.2.2 (FP.f2d x)) .l = 0) = true := by rw [ho.1]; exact ho.2
    refine go_w (pc1 := 2146) (lo1 := [(0, ax_vR 12 0 0), (1, ax_vR 8 0 0), (2, ax_vR 9 0 0), (3, ax_vR 10 0 1), (4, ax_vR 11 0 1), (5, Sum.inl i)]) (st1 := [Sum.inl k]) (d1 := d') (e1 := (e + e')) 3 hw (fun N => rfl) (fun N => rfl) ?_
    refine go_f (pc1 := 2152) (lo1 := [(0, ax_vR 12 0 0), (1, ax_vR 8 0 0), (2, ax_vR 9 0 0), (3, ax_vR 10 0 1), (4, ax_vR 11 0 1), (5, Sum.inl i), (6, Sum.inl k)]) (st1 := [Sum.inr (Sum.inr (Sum.inl x))]) (d1 := d2) (e1 := (e + e')) 3 hm (fun N => rfl) (fun N => rfl) ?_
    refine go_i (pc1 := 2158) (lo1 := [(0, ax_vR 12 0 0), (1, ax_vR 8 0 0), (2, ax_vR 9 0 0), (3, ax_vR 10 0 1), (4, ax_vR 11 0 1), (5, Sum.inl i), (6, Sum.inl k), (7, Sum.inr (Sum.inr (Sum.inl x)))]) (st1 := [Sum.inl (mv d2 0)]) (d1 := d2) (e1 := (e + e')) 3 (lz_thrown d2) (fun N => rfl) (fun N => rfl) ?_
    refine go_ct (pc1 := 2165) (lo1 := [(0, ax_vR 12 0 0), (1, ax_vR 8 0 0), (2, ax_vR 9 0 0), (3, ax_vR 10 0 1), (4, ax_vR 11 0 1), (5, Sum.inl i), (6, Sum.inl k), (7, Sum.inr (Sum.inr (Sum.inl x)))]) (st1 := []) (d1 := d2) (e1 := (e + e')) 2 ht (fun N => rfl) ?_
    refine go_cf (pc1 := 2170) (lo1 := [(0, ax_vR 12 0 0), (1, ax_vR 8 0 0), (2, ax_vR 9 0 0), (3, ax_vR 10 0 1), (4, ax_vR 11 0 1), (5, Sum.inl i), (6, Sum.inl k), (7, Sum.inr (Sum.inr (Sum.inl x)))]) (st1 := []) (d1 := d2) (e1 := (e + e')) 2 hk (fun N => rfl) ?_
    refine go_ct (pc1 := 2177) (lo1 := [(0, ax_vR 12 0 0), (1, ax_vR 8 0 0), (2, ax_vR 9 0 0), (3, ax_vR 10 0 1), (4, ax_vR 11 0 1), (5, Sum.inl i), (6, Sum.inl k), (7, Sum.inr (Sum.inr (Sum.inl x)))]) (st1 := [Sum.inr (Sum.inr (Sum.inr (Sum.inl (FP.f2d x)))), Sum.inr (Sum.inr (Sum.inr (Sum.inl d2.2.2.2)))]) (d1 := d2) (e1 := (e + e')) 5 hnn (fun N => rfl) ?_
    refine go_ct (pc1 := 2203) (lo1 := [(0, ax_vR 12 0 0), (1, ax_vR 8 0 0), (2, ax_vR 9 0 0), (3, ax_vR 10 0 1), (4, ax_vR 11 0 1), (5, Sum.inl i), (6, Sum.inl k), (7, Sum.inr (Sum.inr (Sum.inl x)))]) (st1 := []) (d1 := d2) (e1 := (e + e')) 2 hc (fun N => rfl) ?_
    exact go_s 3 (fun N => rfl)
  · have hk : (!(decide (k = 0))) = true := by simp [hk]
    refine go_w (pc1 := 2146) (lo1 := [(0, ax_vR 12 0 0), (1, ax_vR 8 0 0), (2, ax_vR 9 0 0), (3, ax_vR 10 0 1), (4, ax_vR 11 0 1), (5, Sum.inl i)]) (st1 := [Sum.inl k]) (d1 := d') (e1 := (e + e')) 3 hw (fun N => rfl) (fun N => rfl) ?_
    refine go_f (pc1 := 2152) (lo1 := [(0, ax_vR 12 0 0), (1, ax_vR 8 0 0), (2, ax_vR 9 0 0), (3, ax_vR 10 0 1), (4, ax_vR 11 0 1), (5, Sum.inl i), (6, Sum.inl k)]) (st1 := [Sum.inr (Sum.inr (Sum.inl x))]) (d1 := d2) (e1 := (e + e')) 3 hm (fun N => rfl) (fun N => rfl) ?_
    refine go_i (pc1 := 2158) (lo1 := [(0, ax_vR 12 0 0), (1, ax_vR 8 0 0), (2, ax_vR 9 0 0), (3, ax_vR 10 0 1), (4, ax_vR 11 0 1), (5, Sum.inl i), (6, Sum.inl k), (7, Sum.inr (Sum.inr (Sum.inl x)))]) (st1 := [Sum.inl (mv d2 0)]) (d1 := d2) (e1 := (e + e')) 3 (lz_thrown d2) (fun N => rfl) (fun N => rfl) ?_
    refine go_ct (pc1 := 2165) (lo1 := [(0, ax_vR 12 0 0), (1, ax_vR 8 0 0), (2, ax_vR 9 0 0), (3, ax_vR 10 0 1), (4, ax_vR 11 0 1), (5, Sum.inl i), (6, Sum.inl k), (7, Sum.inr (Sum.inr (Sum.inl x)))]) (st1 := []) (d1 := d2) (e1 := (e + e')) 2 ht (fun N => rfl) ?_
    refine go_ct (pc1 := 2203) (lo1 := [(0, ax_vR 12 0 0), (1, ax_vR 8 0 0), (2, ax_vR 9 0 0), (3, ax_vR 10 0 1), (4, ax_vR 11 0 1), (5, Sum.inl i), (6, Sum.inl k), (7, Sum.inr (Sum.inr (Sum.inl x)))]) (st1 := []) (d1 := d2) (e1 := (e + e')) 2 hk (fun N => rfl) ?_
    exact go_s 3 (fun N => rfl)
end LGC2
section LIT
variable {L : Nat} {xs : Nat → Int32} {i : Int32} {d : ax_D} {n e : Nat}
theorem lh_0 : ∀ (k E : Nat), ([0] : List Nat)[k]? = some E → lx_hdF (lx_whs 0) 1 E = some (nI (k + 1)) ∧ ¬ nI (k + 1) = 0 := fun k E h => match k, h with
  | 0, h => by cases h; exact ⟨rfl, by decide⟩
  | q + 1, h => by simp at h
theorem lh_1 : ∀ (k E : Nat), ([2, 1, 0] : List Nat)[k]? = some E → lx_hdF (lx_whs 1) 1 E = some (nI (k + 1)) ∧ ¬ nI (k + 1) = 0 := fun k E h => match k, h with
  | 0, h => by cases h; exact ⟨rfl, by decide⟩
  | 1, h => by cases h; exact ⟨rfl, by decide⟩
  | 2, h => by cases h; exact ⟨rfl, by decide⟩
  | q + 3, h => by simp at h
theorem lh_2 : ∀ (k E : Nat), ([1, 0] : List Nat)[k]? = some E → lx_hdF (lx_whs 2) 1 E = some (nI (k + 1)) ∧ ¬ nI (k + 1) = 0 := fun k E h => match k, h with
  | 0, h => by cases h; exact ⟨rfl, by decide⟩
  | 1, h => by cases h; exact ⟨rfl, by decide⟩
  | q + 2, h => by simp at h
theorem lh_3 : ∀ (k E : Nat), ([2, 1, 3, 0] : List Nat)[k]? = some E → lx_hdF (lx_whs 3) 1 E = some (nI (k + 1)) ∧ ¬ nI (k + 1) = 0 := fun k E h => match k, h with
  | 0, h => by cases h; exact ⟨rfl, by decide⟩
  | 1, h => by cases h; exact ⟨rfl, by decide⟩
  | 2, h => by cases h; exact ⟨rfl, by decide⟩
  | 3, h => by cases h; exact ⟨rfl, by decide⟩
  | q + 4, h => by simp at h
theorem lh_4 : ∀ (k E : Nat), ([2, 1, 3, 0] : List Nat)[k]? = some E → lx_hdF (lx_whs 4) 1 E = some (nI (k + 1)) ∧ ¬ nI (k + 1) = 0 := fun k E h => match k, h with
  | 0, h => by cases h; exact ⟨rfl, by decide⟩
  | 1, h => by cases h; exact ⟨rfl, by decide⟩
  | 2, h => by cases h; exact ⟨rfl, by decide⟩
  | 3, h => by cases h; exact ⟨rfl, by decide⟩
  | q + 4, h => by simp at h
theorem lh_5 : ∀ (k E : Nat), ([2, 3, 0] : List Nat)[k]? = some E → lx_hdF (lx_whs 5) 1 E = some (nI (k + 1)) ∧ ¬ nI (k + 1) = 0 := fun k E h => match k, h with
  | 0, h => by cases h; exact ⟨rfl, by decide⟩
  | 1, h => by cases h; exact ⟨rfl, by decide⟩
  | 2, h => by cases h; exact ⟨rfl, by decide⟩
  | q + 3, h => by simp at h
theorem lh_6 : ∀ (k E : Nat), ([2, 1, 3, 0] : List Nat)[k]? = some E → lx_hdF (lx_whs 6) 1 E = some (nI (k + 1)) ∧ ¬ nI (k + 1) = 0 := fun k E h => match k, h with
  | 0, h => by cases h; exact ⟨rfl, by decide⟩
  | 1, h => by cases h; exact ⟨rfl, by decide⟩
  | 2, h => by cases h; exact ⟨rfl, by decide⟩
  | 3, h => by cases h; exact ⟨rfl, by decide⟩
  | q + 4, h => by simp at h
theorem lh_7 : ∀ (k E : Nat), ([2, 1, 0] : List Nat)[k]? = some E → lx_hdF (lx_whs 7) 1 E = some (nI (k + 1)) ∧ ¬ nI (k + 1) = 0 := fun k E h => match k, h with
  | 0, h => by cases h; exact ⟨rfl, by decide⟩
  | 1, h => by cases h; exact ⟨rfl, by decide⟩
  | 2, h => by cases h; exact ⟨rfl, by decide⟩
  | q + 3, h => by simp at h
theorem lh_8 : ∀ (k E : Nat), ([2, 1, 3, 0] : List Nat)[k]? = some E → lx_hdF (lx_whs 8) 1 E = some (nI (k + 1)) ∧ ¬ nI (k + 1) = 0 := fun k E h => match k, h with
  | 0, h => by cases h; exact ⟨rfl, by decide⟩
  | 1, h => by cases h; exact ⟨rfl, by decide⟩
  | 2, h => by cases h; exact ⟨rfl, by decide⟩
  | 3, h => by cases h; exact ⟨rfl, by decide⟩
  | q + 4, h => by simp at h
theorem lh_9 : ∀ (k E : Nat), ([2, 1, 3, 0] : List Nat)[k]? = some E → lx_hdF (lx_whs 9) 1 E = some (nI (k + 1)) ∧ ¬ nI (k + 1) = 0 := fun k E h => match k, h with
  | 0, h => by cases h; exact ⟨rfl, by decide⟩
  | 1, h => by cases h; exact ⟨rfl, by decide⟩
  | 2, h => by cases h; exact ⟨rfl, by decide⟩
  | 3, h => by cases h; exact ⟨rfl, by decide⟩
  | q + 4, h => by simp at h
theorem lh_10 : ∀ (k E : Nat), ([2, 0] : List Nat)[k]? = some E → lx_hdF (lx_whs 10) 1 E = some (nI (k + 1)) ∧ ¬ nI (k + 1) = 0 := fun k E h => match k, h with
  | 0, h => by cases h; exact ⟨rfl, by decide⟩
  | 1, h => by cases h; exact ⟨rfl, by decide⟩
  | q + 2, h => by simp at h
theorem lh_11 : ∀ (k E : Nat), ([0] : List Nat)[k]? = some E → lx_hdF (lx_whs 11) 1 E = some (nI (k + 1)) ∧ ¬ nI (k + 1) = 0 := fun k E h => match k, h with
  | 0, h => by cases h; exact ⟨rfl, by decide⟩
  | q + 1, h => by simp at h
theorem lh_12 : ∀ (k E : Nat), ([1, 0] : List Nat)[k]? = some E → lx_hdF (lx_whs 12) 1 E = some (nI (k + 1)) ∧ ¬ nI (k + 1) = 0 := fun k E h => match k, h with
  | 0, h => by cases h; exact ⟨rfl, by decide⟩
  | 1, h => by cases h; exact ⟨rfl, by decide⟩
  | q + 2, h => by simp at h
theorem lh_13 : ∀ (k E : Nat), ([0, 1] : List Nat)[k]? = some E → lx_hdF (lx_whs 13) 1 E = some (nI (k + 1)) ∧ ¬ nI (k + 1) = 0 := fun k E h => match k, h with
  | 0, h => by cases h; exact ⟨rfl, by decide⟩
  | 1, h => by cases h; exact ⟨rfl, by decide⟩
  | q + 2, h => by simp at h
theorem lh_14 : ∀ (k E : Nat), ([0, 1] : List Nat)[k]? = some E → lx_hdF (lx_whs 14) 1 E = some (nI (k + 1)) ∧ ¬ nI (k + 1) = 0 := fun k E h => match k, h with
  | 0, h => by cases h; exact ⟨rfl, by decide⟩
  | 1, h => by cases h; exact ⟨rfl, by decide⟩
  | q + 2, h => by simp at h
theorem lh_15 : ∀ (k E : Nat), ([0, 1] : List Nat)[k]? = some E → lx_hdF (lx_whs 15) 1 E = some (nI (k + 1)) ∧ ¬ nI (k + 1) = 0 := fun k E h => match k, h with
  | 0, h => by cases h; exact ⟨rfl, by decide⟩
  | 1, h => by cases h; exact ⟨rfl, by decide⟩
  | q + 2, h => by simp at h
theorem lh_17 : ∀ (k E : Nat), ([1] : List Nat)[k]? = some E → lx_hdF (lx_whs 17) 1 E = some (nI (k + 1)) ∧ ¬ nI (k + 1) = 0 := fun k E h => match k, h with
  | 0, h => by cases h; exact ⟨rfl, by decide⟩
  | q + 1, h => by simp at h
theorem lh_18 : ∀ (k E : Nat), ([0] : List Nat)[k]? = some E → lx_hdF (lx_whs 18) 1 E = some (nI (k + 1)) ∧ ¬ nI (k + 1) = 0 := fun k E h => match k, h with
  | 0, h => by cases h; exact ⟨rfl, by decide⟩
  | q + 1, h => by simp at h
theorem lh_19 : ∀ (k E : Nat), ([0] : List Nat)[k]? = some E → lx_hdF (lx_whs 19) 1 E = some (nI (k + 1)) ∧ ¬ nI (k + 1) = 0 := fun k E h => match k, h with
  | 0, h => by cases h; exact ⟨rfl, by decide⟩
  | q + 1, h => by simp at h
theorem lh_20 : ∀ (k E : Nat), ([2, 1] : List Nat)[k]? = some E → lx_hdF (lx_whs 20) 1 E = some (nI (k + 1)) ∧ ¬ nI (k + 1) = 0 := fun k E h => match k, h with
  | 0, h => by cases h; exact ⟨rfl, by decide⟩
  | 1, h => by cases h; exact ⟨rfl, by decide⟩
  | q + 2, h => by simp at h
theorem lh_21 : ∀ (k E : Nat), ([2, 1, 4] : List Nat)[k]? = some E → lx_hdF (lx_whs 21) 1 E = some (nI (k + 1)) ∧ ¬ nI (k + 1) = 0 := fun k E h => match k, h with
  | 0, h => by cases h; exact ⟨rfl, by decide⟩
  | 1, h => by cases h; exact ⟨rfl, by decide⟩
  | 2, h => by cases h; exact ⟨rfl, by decide⟩
  | q + 3, h => by simp at h
theorem lh_22 : ∀ (k E : Nat), ([2, 1, 4] : List Nat)[k]? = some E → lx_hdF (lx_whs 22) 1 E = some (nI (k + 1)) ∧ ¬ nI (k + 1) = 0 := fun k E h => match k, h with
  | 0, h => by cases h; exact ⟨rfl, by decide⟩
  | 1, h => by cases h; exact ⟨rfl, by decide⟩
  | 2, h => by cases h; exact ⟨rfl, by decide⟩
  | q + 3, h => by simp at h
theorem lh_23 : ∀ (k E : Nat), ([2] : List Nat)[k]? = some E → lx_hdF (lx_whs 23) 1 E = some (nI (k + 1)) ∧ ¬ nI (k + 1) = 0 := fun k E h => match k, h with
  | 0, h => by cases h; exact ⟨rfl, by decide⟩
  | q + 1, h => by simp at h
theorem lh_24 : ∀ (k E : Nat), ([2, 0] : List Nat)[k]? = some E → lx_hdF (lx_whs 24) 1 E = some (nI (k + 1)) ∧ ¬ nI (k + 1) = 0 := fun k E h => match k, h with
  | 0, h => by cases h; exact ⟨rfl, by decide⟩
  | 1, h => by cases h; exact ⟨rfl, by decide⟩
  | q + 2, h => by simp at h
theorem lh_25 : ∀ (k E : Nat), ([2, 0] : List Nat)[k]? = some E → lx_hdF (lx_whs 25) 1 E = some (nI (k + 1)) ∧ ¬ nI (k + 1) = 0 := fun k E h => match k, h with
  | 0, h => by cases h; exact ⟨rfl, by decide⟩
  | 1, h => by cases h; exact ⟨rfl, by decide⟩
  | q + 2, h => by simp at h
theorem lh_26 : ∀ (k E : Nat), ([1, 2] : List Nat)[k]? = some E → lx_hdF (lx_whs 26) 1 E = some (nI (k + 1)) ∧ ¬ nI (k + 1) = 0 := fun k E h => match k, h with
  | 0, h => by cases h; exact ⟨rfl, by decide⟩
  | 1, h => by cases h; exact ⟨rfl, by decide⟩
  | q + 2, h => by simp at h
theorem lh_27 : ∀ (k E : Nat), ([2] : List Nat)[k]? = some E → lx_hdF (lx_whs 27) 1 E = some (nI (k + 1)) ∧ ¬ nI (k + 1) = 0 := fun k E h => match k, h with
  | 0, h => by cases h; exact ⟨rfl, by decide⟩
  | q + 1, h => by simp at h
theorem lh_28 : ∀ (k E : Nat), ([2, 4] : List Nat)[k]? = some E → lx_hdF (lx_whs 28) 1 E = some (nI (k + 1)) ∧ ¬ nI (k + 1) = 0 := fun k E h => match k, h with
  | 0, h => by cases h; exact ⟨rfl, by decide⟩
  | 1, h => by cases h; exact ⟨rfl, by decide⟩
  | q + 2, h => by simp at h
theorem lh_29 : ∀ (k E : Nat), ([2] : List Nat)[k]? = some E → lx_hdF (lx_whs 29) 1 E = some (nI (k + 1)) ∧ ¬ nI (k + 1) = 0 := fun k E h => match k, h with
  | 0, h => by cases h; exact ⟨rfl, by decide⟩
  | q + 1, h => by simp at h
theorem lh_30 : ∀ (k E : Nat), ([5] : List Nat)[k]? = some E → lx_hdF (lx_whs 30) 1 E = some (nI (k + 1)) ∧ ¬ nI (k + 1) = 0 := fun k E h => match k, h with
  | 0, h => by cases h; exact ⟨rfl, by decide⟩
  | q + 1, h => by simp at h
theorem lh_31 : ∀ (k E : Nat), ([5] : List Nat)[k]? = some E → lx_hdF (lx_whs 31) 1 E = some (nI (k + 1)) ∧ ¬ nI (k + 1) = 0 := fun k E h => match k, h with
  | 0, h => by cases h; exact ⟨rfl, by decide⟩
  | q + 1, h => by simp at h
theorem lh_32 : ∀ (k E : Nat), ([2, 1] : List Nat)[k]? = some E → lx_hdF (lx_whs 32) 1 E = some (nI (k + 1)) ∧ ¬ nI (k + 1) = 0 := fun k E h => match k, h with
  | 0, h => by cases h; exact ⟨rfl, by decide⟩
  | 1, h => by cases h; exact ⟨rfl, by decide⟩
  | q + 2, h => by simp at h
theorem lh_33 : ∀ (k E : Nat), ([2] : List Nat)[k]? = some E → lx_hdF (lx_whs 33) 1 E = some (nI (k + 1)) ∧ ¬ nI (k + 1) = 0 := fun k E h => match k, h with
  | 0, h => by cases h; exact ⟨rfl, by decide⟩
  | q + 1, h => by simp at h
theorem lh_34 : ∀ (k E : Nat), ([2, 1, 0] : List Nat)[k]? = some E → lx_hdF (lx_whs 34) 1 E = some (nI (k + 1)) ∧ ¬ nI (k + 1) = 0 := fun k E h => match k, h with
  | 0, h => by cases h; exact ⟨rfl, by decide⟩
  | 1, h => by cases h; exact ⟨rfl, by decide⟩
  | 2, h => by cases h; exact ⟨rfl, by decide⟩
  | q + 3, h => by simp at h
theorem lh_35 : ∀ (k E : Nat), ([1, 2] : List Nat)[k]? = some E → lx_hdF (lx_whs 35) 1 E = some (nI (k + 1)) ∧ ¬ nI (k + 1) = 0 := fun k E h => match k, h with
  | 0, h => by cases h; exact ⟨rfl, by decide⟩
  | 1, h => by cases h; exact ⟨rfl, by decide⟩
  | q + 2, h => by simp at h
theorem lh_36 : ∀ (k E : Nat), ([1] : List Nat)[k]? = some E → lx_hdF (lx_whs 36) 1 E = some (nI (k + 1)) ∧ ¬ nI (k + 1) = 0 := fun k E h => match k, h with
  | 0, h => by cases h; exact ⟨rfl, by decide⟩
  | q + 1, h => by simp at h
theorem lh_38 : ∀ (k E : Nat), ([0] : List Nat)[k]? = some E → lx_hdF (lx_whs 38) 1 E = some (nI (k + 1)) ∧ ¬ nI (k + 1) = 0 := fun k E h => match k, h with
  | 0, h => by cases h; exact ⟨rfl, by decide⟩
  | q + 1, h => by simp at h
theorem lk_0 (I : INV d n) (hn : n ≤ 512) (a1 : ax_in (i + 1) L = true) (a2 : ax_in (i + 2) L = true) (a3 : ax_in (i + 3) L = true) (a4 : ax_in (i + 4) L = true) : IT L xs i d n e 216 := by
  cases hv : decide (xs (i + 1).toNatClampNeg = 0) with
  | true =>
    obtain ⟨d', e', k, d2, x, h1, h2, h3, h4, h5, h6⟩ := lz_jn (hs := lx_whs 0) (fun x => x.toInt64) (j_addRoom I 0) (by decide) (by decide) lh_0 (fun d1 x h => lw_i0 _ h) (fun d1 E k hk h => lw_x0 _ hk h)
    exact ⟨d2, n, e + e', h4, by omega, by omega, lg_0_0 a1 a2 a3 a4 hv h1 h3 h5 h6⟩
  | false =>
    obtain ⟨d', e', k, d2, x, h1, h2, h3, h4, h5, h6⟩ := lz_jn (hs := lx_whs 0) (fun x => x.toInt64) (j_addRoom I 1) (by decide) (by decide) lh_0 (fun d1 x h => lw_i0 _ h) (fun d1 E k hk h => lw_x0 _ hk h)
    exact ⟨d2, n, e + e', h4, by omega, by omega, lg_0_1 a1 a2 a3 a4 hv h1 h3 h5 h6⟩
theorem lk_1 (I : INV d n) (hn : n ≤ 512) (a1 : ax_in (i + 1) L = true) (a2 : ax_in (i + 2) L = true) (a3 : ax_in (i + 3) L = true) (a4 : ax_in (i + 4) L = true) : IT L xs i d n e 288 := by
  obtain ⟨d', e', k, d2, x, h1, h2, h3, h4, h5, h6⟩ := lz_jn (hs := lx_whs 1) (fun x => x.toInt64) (j_connect I (xs (i + 1).toNatClampNeg) (xs (i + 2).toNatClampNeg) (xs (i + 3).toNatClampNeg) (xs (i + 4).toNatClampNeg)) (by decide) (by decide) lh_1 (fun d1 x h => lw_i1 _ _ _ _ h) (fun d1 E k hk h => lw_x1 _ _ _ _ hk h)
  exact ⟨d2, n, e + e', h4, by omega, by omega, lg_1 a1 a2 a3 a4 h1 h3 h5 h6⟩
theorem lk_2 (I : INV d n) (hn : n ≤ 512) (a1 : ax_in (i + 1) L = true) (a2 : ax_in (i + 2) L = true) (a3 : ax_in (i + 3) L = true) (a4 : ax_in (i + 4) L = true) : IT L xs i d n e 380 := by
  obtain ⟨d', e', k, d2, x, h1, h2, h3, h4, h5, h6⟩ := lz_jn (hs := lx_whs 2) (fun x => x.toInt64) (j_addThing I (xs (i + 1).toNatClampNeg) (xs (i + 2).toNatClampNeg) (xs (i + 3).toNatClampNeg) (xs (i + 4).toNatClampNeg)) (by decide) (by decide) lh_2 (fun d1 x h => lw_i2 _ _ _ _ h) (fun d1 E k hk h => lw_x2 _ _ _ _ hk h)
  exact ⟨d2, n, e + e', h4, by omega, by omega, lg_2 a1 a2 a3 a4 h1 h3 h5 h6⟩
theorem lk_3 (I : INV d n) (hn : n ≤ 512) (a1 : ax_in (i + 1) L = true) (a2 : ax_in (i + 2) L = true) (a3 : ax_in (i + 3) L = true) (a4 : ax_in (i + 4) L = true) : IT L xs i d n e 472 := by
  obtain ⟨d', e', k, d2, x, h1, h2, h3, h4, h5, h6⟩ := lz_jn (hs := lx_whs 3) (fun x => x.toInt64) (j_setCap I (xs (i + 1).toNatClampNeg) (xs (i + 2).toNatClampNeg)) (by decide) (by decide) lh_3 (fun d1 x h => lw_i3 _ _ h) (fun d1 E k hk h => lw_x3 _ _ hk h)
  exact ⟨d2, n, e + e', h4, by omega, by omega, lg_3 a1 a2 a3 a4 h1 h3 h5 h6⟩
theorem lk_4 (I : INV d n) (hn : n ≤ 512) (a1 : ax_in (i + 1) L = true) (a2 : ax_in (i + 2) L = true) (a3 : ax_in (i + 3) L = true) (a4 : ax_in (i + 4) L = true) : IT L xs i d n e 540 := by
  cases hv : decide (xs (i + 3).toNatClampNeg = 0) with
  | true =>
    obtain ⟨d', e', k, d2, x, h1, h2, h3, h4, h5, h6⟩ := lz_jn (hs := lx_whs 4) (fun x => cond (decide (x = 0)) (Int64.ofNat 0) (Int64.ofNat 1)) (j_setFlag I (xs (i + 1).toNatClampNeg) (xs (i + 2).toNatClampNeg) 0) (by decide) (by decide) lh_4 (fun d1 x h => lw_i4 _ _ _ h) (fun d1 E k hk h => lw_x4 _ _ _ hk h)
    exact ⟨d2, n, e + e', h4, by omega, by omega, lg_4_0 a1 a2 a3 a4 hv h1 h3 h5 h6⟩
  | false =>
    obtain ⟨d', e', k, d2, x, h1, h2, h3, h4, h5, h6⟩ := lz_jn (hs := lx_whs 4) (fun x => cond (decide (x = 0)) (Int64.ofNat 0) (Int64.ofNat 1)) (j_setFlag I (xs (i + 1).toNatClampNeg) (xs (i + 2).toNatClampNeg) 1) (by decide) (by decide) lh_4 (fun d1 x h => lw_i4 _ _ _ h) (fun d1 E k hk h => lw_x4 _ _ _ hk h)
    exact ⟨d2, n, e + e', h4, by omega, by omega, lg_4_1 a1 a2 a3 a4 hv h1 h3 h5 h6⟩
theorem lk_5 (I : INV d n) (hn : n ≤ 512) (a1 : ax_in (i + 1) L = true) (a2 : ax_in (i + 2) L = true) (a3 : ax_in (i + 3) L = true) (a4 : ax_in (i + 4) L = true) : IT L xs i d n e 643 := by
  obtain ⟨d', e', k, d2, x, h1, h2, h3, h4, h5, h6⟩ := lz_jn (hs := lx_whs 5) (fun x => x.toInt64) (j_setKey I (xs (i + 1).toNatClampNeg) (xs (i + 2).toNatClampNeg)) (by decide) (by decide) lh_5 (fun d1 x h => lw_i5 _ _ h) (fun d1 E k hk h => lw_x5 _ _ hk h)
  exact ⟨d2, n, e + e', h4, by omega, by omega, lg_5 a1 a2 a3 a4 h1 h3 h5 h6⟩
theorem lk_6 (I : INV d n) (hn : n ≤ 512) (a1 : ax_in (i + 1) L = true) (a2 : ax_in (i + 2) L = true) (a3 : ax_in (i + 3) L = true) (a4 : ax_in (i + 4) L = true) : IT L xs i d n e 711 := by
  obtain ⟨d', e', k, d2, x, h1, h2, h3, h4, h5, h6⟩ := lz_jn (hs := lx_whs 6) (fun x => x.toInt64) (j_setFuel I (xs (i + 1).toNatClampNeg) (xs (i + 2).toNatClampNeg)) (by decide) (by decide) lh_6 (fun d1 x h => lw_i6 _ _ h) (fun d1 E k hk h => lw_x6 _ _ hk h)
  exact ⟨d2, n, e + e', h4, by omega, by omega, lg_6 a1 a2 a3 a4 h1 h3 h5 h6⟩
theorem lk_7 (I : INV d n) (hn : n ≤ 512) (a1 : ax_in (i + 1) L = true) (a2 : ax_in (i + 2) L = true) (a3 : ax_in (i + 3) L = true) (a4 : ax_in (i + 4) L = true) : IT L xs i d n e 779 := by
  obtain ⟨d', e', k, d2, x, h1, h2, h3, h4, h5, h6⟩ := lz_jn (hs := lx_whs 7) (fun x => x.toInt64) (j_setWorth I (xs (i + 1).toNatClampNeg) (xs (i + 2).toNatClampNeg)) (by decide) (by decide) lh_7 (fun d1 x h => lw_i7 _ _ h) (fun d1 E k hk h => lw_x7 _ _ hk h)
  exact ⟨d2, n, e + e', h4, by omega, by omega, lg_7 a1 a2 a3 a4 h1 h3 h5 h6⟩
theorem lk_8 (I : INV d n) (hn : n ≤ 512) (a1 : ax_in (i + 1) L = true) (a2 : ax_in (i + 2) L = true) (a3 : ax_in (i + 3) L = true) (a4 : ax_in (i + 4) L = true) : IT L xs i d n e 847 := by
  obtain ⟨d', e', k, d2, x, h1, h2, h3, h4, h5, h6⟩ := lz_jn (hs := lx_whs 8) (fun x => x.toInt64) (j_put I (xs (i + 1).toNatClampNeg) (xs (i + 2).toNatClampNeg) (xs (i + 3).toNatClampNeg)) (by decide) (by decide) lh_8 (fun d1 x h => lw_i8 _ _ _ h) (fun d1 E k hk h => lw_x8 _ _ _ hk h)
  exact ⟨d2, n, e + e', h4, by omega, by omega, lg_8 a1 a2 a3 a4 h1 h3 h5 h6⟩
theorem lk_9 (I : INV d n) (hn : n ≤ 512) (a1 : ax_in (i + 1) L = true) (a2 : ax_in (i + 2) L = true) (a3 : ax_in (i + 3) L = true) (a4 : ax_in (i + 4) L = true) : IT L xs i d n e 927 := by
  cases hv : decide (xs (i + 4).toNatClampNeg = 0) with
  | true =>
    obtain ⟨d', e', k, d2, x, h1, h2, h3, h4, h5, h6⟩ := lz_jn (hs := lx_whs 9) (fun x => x.toInt64) (j_addDaemon I (xs (i + 1).toNatClampNeg) (xs (i + 2).toNatClampNeg) (xs (i + 3).toNatClampNeg) 0) (by decide) (by decide) lh_9 (fun d1 x h => lw_i9 _ _ _ _ h) (fun d1 E k hk h => lw_x9 _ _ _ _ hk h)
    exact ⟨d2, n, e + e', h4, by omega, by omega, lg_9_0 a1 a2 a3 a4 hv h1 h3 h5 h6⟩
  | false =>
    obtain ⟨d', e', k, d2, x, h1, h2, h3, h4, h5, h6⟩ := lz_jn (hs := lx_whs 9) (fun x => x.toInt64) (j_addDaemon I (xs (i + 1).toNatClampNeg) (xs (i + 2).toNatClampNeg) (xs (i + 3).toNatClampNeg) 1) (by decide) (by decide) lh_9 (fun d1 x h => lw_i9 _ _ _ _ h) (fun d1 E k hk h => lw_x9 _ _ _ _ hk h)
    exact ⟨d2, n, e + e', h4, by omega, by omega, lg_9_1 a1 a2 a3 a4 hv h1 h3 h5 h6⟩
theorem lk_10 (I : INV d n) (hn : n ≤ 512) (a1 : ax_in (i + 1) L = true) (a2 : ax_in (i + 2) L = true) (a3 : ax_in (i + 3) L = true) (a4 : ax_in (i + 4) L = true) : IT L xs i d n e 1035 := by
  obtain ⟨d', e', k, d2, x, h1, h2, h3, h4, h5, h6⟩ := lz_jn (hs := lx_whs 10) (fun x => x.toInt64) (j_begin I (xs (i + 1).toNatClampNeg)) (by decide) (by decide) lh_10 (fun d1 x h => lw_i10 _ h) (fun d1 E k hk h => lw_x10 _ hk h)
  exact ⟨d2, n, e + e', h4, by omega, by omega, lg_10 a1 a2 a3 a4 h1 h3 h5 h6⟩
theorem lk_11 (I : INV d n) (hn : n ≤ 512) (a1 : ax_in (i + 1) L = true) (a2 : ax_in (i + 2) L = true) (a3 : ax_in (i + 3) L = true) (a4 : ax_in (i + 4) L = true) : IT L xs i d n e 1091 := by
  obtain ⟨d', e', k, d2, x, h1, h2, h3, h4, h5, h6⟩ := lz_jn (hs := lx_whs 11) (fun x => x.toInt64) (j_stop I ) (by decide) (by decide) lh_11 (fun d1 x h => lw_i11  h) (fun d1 E k hk h => lw_x11  hk h)
  exact ⟨d2, n, e + e', h4, by omega, by omega, lg_11 a1 a2 a3 a4 h1 h3 h5 h6⟩
theorem lk_12 (I : INV d n) (hn : n ≤ 512) (a1 : ax_in (i + 1) L = true) (a2 : ax_in (i + 2) L = true) (a3 : ax_in (i + 3) L = true) (a4 : ax_in (i + 4) L = true) : IT L xs i d n e 1135 := by
  obtain ⟨d', e', k, d2, x, h1, h2, h3, h4, h5, h6⟩ := lz_jn (hs := lx_whs 12) (fun x => x.toInt64) (j_append I (xs (i + 1).toNatClampNeg)) (by decide) (by decide) lh_12 (fun d1 x h => lw_i12 _ h) (fun d1 E k hk h => lw_x12 _ hk h)
  exact ⟨d2, n + 1, e + e', h4, by omega, by omega, lg_12 a1 a2 a3 a4 h1 h3 h5 h6⟩
theorem lk_13 (I : INV d n) (hn : n ≤ 512) (a1 : ax_in (i + 1) L = true) (a2 : ax_in (i + 2) L = true) (a3 : ax_in (i + 3) L = true) (a4 : ax_in (i + 4) L = true) : IT L xs i d n e 1191 := by
  obtain ⟨d', e', k, d2, x, h1, h2, h3, h4, h5, h6⟩ := lz_jn (hs := lx_whs 13) (fun x => x.toInt64) (j_command I  hn) (by decide) (by decide) lh_13 (fun d1 x h => lw_i13  h) (fun d1 E k hk h => lw_x13  hk h)
  exact ⟨d2, n, e + e', h4, by omega, by omega, lg_13 a1 a2 a3 a4 h1 h3 h5 h6⟩
theorem lk_14 (I : INV d n) (hn : n ≤ 512) (a1 : ax_in (i + 1) L = true) (a2 : ax_in (i + 2) L = true) (a3 : ax_in (i + 3) L = true) (a4 : ax_in (i + 4) L = true) : IT L xs i d n e 1235 := by
  obtain ⟨d', e', k, d2, x, h1, h2, h3, h4, h5, h6⟩ := lz_jn (hs := lx_whs 14) (fun x => x.toInt64) (j_foresee I ) (by decide) (by decide) lh_14 (fun d1 x h => lw_i14  h) (fun d1 E k hk h => lw_x14  hk h)
  exact ⟨d2, n, e + e', h4, by omega, by omega, lg_14 a1 a2 a3 a4 h1 h3 h5 h6⟩
theorem lk_15 (I : INV d n) (hn : n ≤ 512) (a1 : ax_in (i + 1) L = true) (a2 : ax_in (i + 2) L = true) (a3 : ax_in (i + 3) L = true) (a4 : ax_in (i + 4) L = true) : IT L xs i d n e 1279 := by
  obtain ⟨d', e', k, d2, x, h1, h2, h3, h4, h5, h6⟩ := lz_jn (hs := lx_whs 15) (fun x => x.toInt64) (j_matching I ) (by decide) (by decide) lh_15 (fun d1 x h => lw_i15  h) (fun d1 E k hk h => lw_x15  hk h)
  exact ⟨d2, n, e + e', h4, by omega, by omega, lg_15 a1 a2 a3 a4 h1 h3 h5 h6⟩
theorem lk_16 (I : INV d n) (hn : n ≤ 512) (a1 : ax_in (i + 1) L = true) (a2 : ax_in (i + 2) L = true) (a3 : ax_in (i + 3) L = true) (a4 : ax_in (i + 4) L = true) : IT L xs i d n e 1323 := by
  obtain ⟨d', x, d2, h1, h2, h3⟩ := lz_j0 (j_fault I) (by decide) (by decide)
  exact ⟨d2, n, e, h3, by omega, by omega, lg_16 h1 h2 (decide_eq_true rfl)⟩
theorem lk_17 (I : INV d n) (hn : n ≤ 512) (a1 : ax_in (i + 1) L = true) (a2 : ax_in (i + 2) L = true) (a3 : ax_in (i + 3) L = true) (a4 : ax_in (i + 4) L = true) : IT L xs i d n e 1336 := by
  obtain ⟨d', e', k, d2, x, h1, h2, h3, h4, h5, h6⟩ := lz_jn (hs := lx_whs 17) (fun x => x.toInt64) (j_refusal I (xs (i + 1).toNatClampNeg)) (by decide) (by decide) lh_17 (fun d1 x h => lw_i17 _ h) (fun d1 E k hk h => lw_x17 _ hk h)
  exact ⟨d2, n, e + e', h4, by omega, by omega, lg_17 a1 a2 a3 a4 h1 h3 h5 h6⟩
theorem lk_18 (I : INV d n) (hn : n ≤ 512) (a1 : ax_in (i + 1) L = true) (a2 : ax_in (i + 2) L = true) (a3 : ax_in (i + 3) L = true) (a4 : ax_in (i + 4) L = true) : IT L xs i d n e 1392 := by
  obtain ⟨d', e', k, d2, x, h1, h2, h3, h4, h5, h6⟩ := lz_jn (hs := lx_whs 18) (fun x => x.toInt64) (j_undo I ) (by decide) (by decide) lh_18 (fun d1 x h => lw_i18  h) (fun d1 E k hk h => lw_x18  hk h)
  exact ⟨d2, n, e + e', h4, by omega, by omega, lg_18 a1 a2 a3 a4 h1 h3 h5 h6⟩
theorem lk_19 (I : INV d n) (hn : n ≤ 512) (a1 : ax_in (i + 1) L = true) (a2 : ax_in (i + 2) L = true) (a3 : ax_in (i + 3) L = true) (a4 : ax_in (i + 4) L = true) : IT L xs i d n e 1436 := by
  obtain ⟨d', e', k, d2, x, h1, h2, h3, h4, h5, h6⟩ := lz_jn (hs := lx_whs 19) (fun x => cond (decide (x = 0)) (Int64.ofNat 0) (Int64.ofNat 1)) (j_replayed I  hn) (by decide) (by decide) lh_19 (fun d1 x h => lw_i19  h) (fun d1 E k hk h => lw_x19  hk h)
  exact ⟨d2, n, e + e', h4, by omega, by omega, lg_19 a1 a2 a3 a4 h1 h3 h5 h6⟩
theorem lk_20 (I : INV d n) (hn : n ≤ 512) (a1 : ax_in (i + 1) L = true) (a2 : ax_in (i + 2) L = true) (a3 : ax_in (i + 3) L = true) (a4 : ax_in (i + 4) L = true) : IT L xs i d n e 1487 := by
  obtain ⟨d', e', k, d2, x, h1, h2, h3, h4, h5, h6⟩ := lz_jn (hs := lx_whs 20) (fun x => x.toInt64) (j_thing I (xs (i + 1).toNatClampNeg) (xs (i + 2).toNatClampNeg)) (by decide) (by decide) lh_20 (fun d1 x h => lw_i20 _ _ h) (fun d1 E k hk h => lw_x20 _ _ hk h)
  exact ⟨d2, n, e + e', h4, by omega, by omega, lg_20 a1 a2 a3 a4 h1 h3 h5 h6⟩
theorem lk_21 (I : INV d n) (hn : n ≤ 512) (a1 : ax_in (i + 1) L = true) (a2 : ax_in (i + 2) L = true) (a3 : ax_in (i + 3) L = true) (a4 : ax_in (i + 4) L = true) : IT L xs i d n e 1555 := by
  obtain ⟨d', e', k, d2, x, h1, h2, h3, h4, h5, h6⟩ := lz_jn (hs := lx_whs 21) (fun x => x.toInt64) (j_exit I (xs (i + 1).toNatClampNeg) (xs (i + 2).toNatClampNeg)) (by decide) (by decide) lh_21 (fun d1 x h => lw_i21 _ _ h) (fun d1 E k hk h => lw_x21 _ _ hk h)
  exact ⟨d2, n, e + e', h4, by omega, by omega, lg_21 a1 a2 a3 a4 h1 h3 h5 h6⟩
theorem lk_22 (I : INV d n) (hn : n ≤ 512) (a1 : ax_in (i + 1) L = true) (a2 : ax_in (i + 2) L = true) (a3 : ax_in (i + 3) L = true) (a4 : ax_in (i + 4) L = true) : IT L xs i d n e 1623 := by
  obtain ⟨d', e', k, d2, x, h1, h2, h3, h4, h5, h6⟩ := lz_jn (hs := lx_whs 22) (fun x => x.toInt64) (j_door I (xs (i + 1).toNatClampNeg) (xs (i + 2).toNatClampNeg)) (by decide) (by decide) lh_22 (fun d1 x h => lw_i22 _ _ h) (fun d1 E k hk h => lw_x22 _ _ hk h)
  exact ⟨d2, n, e + e', h4, by omega, by omega, lg_22 a1 a2 a3 a4 h1 h3 h5 h6⟩
theorem lk_23 (I : INV d n) (hn : n ≤ 512) (a1 : ax_in (i + 1) L = true) (a2 : ax_in (i + 2) L = true) (a3 : ax_in (i + 3) L = true) (a4 : ax_in (i + 4) L = true) : IT L xs i d n e 1691 := by
  obtain ⟨d', e', k, d2, x, h1, h2, h3, h4, h5, h6⟩ := lz_jn (hs := lx_whs 23) (fun x => cond (decide (x = 0)) (Int64.ofNat 0) (Int64.ofNat 1)) (j_isLit I (xs (i + 1).toNatClampNeg)) (by decide) (by decide) lh_23 (fun d1 x h => lw_i23 _ h) (fun d1 E k hk h => lw_x23 _ hk h)
  exact ⟨d2, n, e + e', h4, by omega, by omega, lg_23 a1 a2 a3 a4 h1 h3 h5 h6⟩
theorem lk_24 (I : INV d n) (hn : n ≤ 512) (a1 : ax_in (i + 1) L = true) (a2 : ax_in (i + 2) L = true) (a3 : ax_in (i + 3) L = true) (a4 : ax_in (i + 4) L = true) : IT L xs i d n e 1754 := by
  obtain ⟨d', e', k, d2, x, h1, h2, h3, h4, h5, h6⟩ := lz_jn (hs := lx_whs 24) (fun x => cond (decide (x = 0)) (Int64.ofNat 0) (Int64.ofNat 1)) (j_isVisible I (xs (i + 1).toNatClampNeg)) (by decide) (by decide) lh_24 (fun d1 x h => lw_i24 _ h) (fun d1 E k hk h => lw_x24 _ hk h)
  exact ⟨d2, n, e + e', h4, by omega, by omega, lg_24 a1 a2 a3 a4 h1 h3 h5 h6⟩
theorem lk_25 (I : INV d n) (hn : n ≤ 512) (a1 : ax_in (i + 1) L = true) (a2 : ax_in (i + 2) L = true) (a3 : ax_in (i + 3) L = true) (a4 : ax_in (i + 4) L = true) : IT L xs i d n e 1817 := by
  obtain ⟨d', e', k, d2, x, h1, h2, h3, h4, h5, h6⟩ := lz_jn (hs := lx_whs 25) (fun x => cond (decide (x = 0)) (Int64.ofNat 0) (Int64.ofNat 1)) (j_isReachable I (xs (i + 1).toNatClampNeg)) (by decide) (by decide) lh_25 (fun d1 x h => lw_i25 _ h) (fun d1 E k hk h => lw_x25 _ hk h)
  exact ⟨d2, n, e + e', h4, by omega, by omega, lg_25 a1 a2 a3 a4 h1 h3 h5 h6⟩
theorem lk_26 (I : INV d n) (hn : n ≤ 512) (a1 : ax_in (i + 1) L = true) (a2 : ax_in (i + 2) L = true) (a3 : ax_in (i + 3) L = true) (a4 : ax_in (i + 4) L = true) : IT L xs i d n e 1880 := by
  obtain ⟨d', e', k, d2, x, h1, h2, h3, h4, h5, h6⟩ := lz_jn (hs := lx_whs 26) (fun x => x.toInt64) (j_content I (xs (i + 1).toNatClampNeg) (xs (i + 2).toNatClampNeg) (xs (i + 3).toNatClampNeg)) (by decide) (by decide) lh_26 (fun d1 x h => lw_i26 _ _ _ h) (fun d1 E k hk h => lw_x26 _ _ _ hk h)
  exact ⟨d2, n, e + e', h4, by omega, by omega, lg_26 a1 a2 a3 a4 h1 h3 h5 h6⟩
theorem lk_27 (I : INV d n) (hn : n ≤ 512) (a1 : ax_in (i + 1) L = true) (a2 : ax_in (i + 2) L = true) (a3 : ax_in (i + 3) L = true) (a4 : ax_in (i + 4) L = true) : IT L xs i d n e 1960 := by
  obtain ⟨d', e', k, d2, x, h1, h2, h3, h4, h5, h6⟩ := lz_jn (hs := lx_whs 27) (fun x => x.toInt64) (j_outer I (xs (i + 1).toNatClampNeg)) (by decide) (by decide) lh_27 (fun d1 x h => lw_i27 _ h) (fun d1 E k hk h => lw_x27 _ hk h)
  exact ⟨d2, n, e + e', h4, by omega, by omega, lg_27 a1 a2 a3 a4 h1 h3 h5 h6⟩
theorem lk_28 (I : INV d n) (hn : n ≤ 512) (a1 : ax_in (i + 1) L = true) (a2 : ax_in (i + 2) L = true) (a3 : ax_in (i + 3) L = true) (a4 : ax_in (i + 4) L = true) : IT L xs i d n e 2016 := by
  obtain ⟨d', e', k, d2, x, h1, h2, h3, h4, h5, h6⟩ := lz_jn (hs := lx_whs 28) (fun x => x.toInt64) (j_distance I (xs (i + 1).toNatClampNeg) (xs (i + 2).toNatClampNeg)) (by decide) (by decide) lh_28 (fun d1 x h => lw_i28 _ _ h) (fun d1 E k hk h => lw_x28 _ _ hk h)
  exact ⟨d2, n, e + e', h4, by omega, by omega, lg_28 a1 a2 a3 a4 h1 h3 h5 h6⟩
theorem lk_29 (I : INV d n) (hn : n ≤ 512) (a1 : ax_in (i + 1) L = true) (a2 : ax_in (i + 2) L = true) (a3 : ax_in (i + 3) L = true) (a4 : ax_in (i + 4) L = true) : IT L xs i d n e 2084 := by
  obtain ⟨d', e', k, d2, x, h1, h2, h3, h4, h5, h6⟩ := lz_jn (hs := lx_whs 29) (fun x => x.toInt64) (j_worth I (xs (i + 1).toNatClampNeg)) (by decide) (by decide) lh_29 (fun d1 x h => lw_i29 _ h) (fun d1 E k hk h => lw_x29 _ hk h)
  exact ⟨d2, n, e + e', h4, by omega, by omega, lg_29 a1 a2 a3 a4 h1 h3 h5 h6⟩
theorem lk_30 (I : INV d n) (hn : n ≤ 512) (a1 : ax_in (i + 1) L = true) (a2 : ax_in (i + 2) L = true) (a3 : ax_in (i + 3) L = true) (a4 : ax_in (i + 4) L = true) : IT L xs i d n e 2140 := by
  obtain ⟨d', e', k, d2, x, h1, h2, h3, h4, h5, h6⟩ := lz_jf (j_litShare I) (fun d1 x g h => lw_i30 (decide_eq_true g.1) h) (fun d1 h => lw_x30 (k := 1) rfl h)
  exact ⟨d2, n, e + e', h4, by omega, by omega, lg_30z a1 a2 a3 a4 h1 h3 h5 (fun hk => ⟨⟨(h6 hk).1, decide_eq_true (h6 hk).2.2⟩, decide_eq_true (h6 hk).2.1⟩)⟩
theorem lk_31 (I : INV d n) (hn : n ≤ 512) (a1 : ax_in (i + 1) L = true) (a2 : ax_in (i + 2) L = true) (a3 : ax_in (i + 3) L = true) (a4 : ax_in (i + 4) L = true) : IT L xs i d n e 2206 := by
  obtain ⟨d', e', k, d2, x, h1, h2, h3, h4, h5, h6⟩ := lz_jd (j_meanSize I) (fun d1 x h => lw_i31 h) (fun d1 h => lw_x31 (k := 1) rfl h)
  exact ⟨d2, n, e + e', h4, by omega, by omega, lg_31 a1 a2 a3 a4 h1 h3 h5 (fun hk => ⟨(h6 hk).1, decide_eq_true (h6 hk).2⟩)⟩
theorem lk_32 (I : INV d n) (hn : n ≤ 512) (a1 : ax_in (i + 1) L = true) (a2 : ax_in (i + 2) L = true) (a3 : ax_in (i + 3) L = true) (a4 : ax_in (i + 4) L = true) : IT L xs i d n e 2271 := by
  obtain ⟨d', e', k, d2, x, h1, h2, h3, h4, h5, h6⟩ := lz_jn (hs := lx_whs 32) (fun x => x.toInt64) (j_daemon I (xs (i + 1).toNatClampNeg) (xs (i + 2).toNatClampNeg)) (by decide) (by decide) lh_32 (fun d1 x h => lw_i32 _ _ h) (fun d1 E k hk h => lw_x32 _ _ hk h)
  exact ⟨d2, n, e + e', h4, by omega, by omega, lg_32 a1 a2 a3 a4 h1 h3 h5 h6⟩
theorem lk_33 (I : INV d n) (hn : n ≤ 512) (a1 : ax_in (i + 1) L = true) (a2 : ax_in (i + 2) L = true) (a3 : ax_in (i + 3) L = true) (a4 : ax_in (i + 4) L = true) : IT L xs i d n e 2339 := by
  obtain ⟨d', e', k, d2, x, h1, h2, h3, h4, h5, h6⟩ := lz_jn (hs := lx_whs 33) (fun x => x.toInt64) (j_event I (xs (i + 1).toNatClampNeg)) (by decide) (by decide) lh_33 (fun d1 x h => lw_i33 _ h) (fun d1 E k hk h => lw_x33 _ hk h)
  exact ⟨d2, n, e + e', h4, by omega, by omega, lg_33 a1 a2 a3 a4 h1 h3 h5 h6⟩
theorem lk_34 (I : INV d n) (hn : n ≤ 512) (a1 : ax_in (i + 1) L = true) (a2 : ax_in (i + 2) L = true) (a3 : ax_in (i + 3) L = true) (a4 : ax_in (i + 4) L = true) : IT L xs i d n e 2395 := by
  obtain ⟨d', e', k, d2, x, h1, h2, h3, h4, h5, h6⟩ := lz_jn (hs := lx_whs 34) (fun x => x.toInt64) (j_later I (xs (i + 1).toNatClampNeg) (xs (i + 2).toNatClampNeg)) (by decide) (by decide) lh_34 (fun d1 x h => lw_i34 _ _ h) (fun d1 E k hk h => lw_x34 _ _ hk h)
  exact ⟨d2, n, e + e', h4, by omega, by omega, lg_34 a1 a2 a3 a4 h1 h3 h5 h6⟩
theorem lk_35 (I : INV d n) (hn : n ≤ 512) (a1 : ax_in (i + 1) L = true) (a2 : ax_in (i + 2) L = true) (a3 : ax_in (i + 3) L = true) (a4 : ax_in (i + 4) L = true) : IT L xs i d n e 2463 := by
  obtain ⟨d', e', k, d2, x, h1, h2, h3, h4, h5, h6⟩ := lz_jn (hs := lx_whs 35) (fun x => x.toInt64) (j_letter I (xs (i + 1).toNatClampNeg) (xs (i + 2).toNatClampNeg)) (by decide) (by decide) lh_35 (fun d1 x h => lw_i35 _ _ h) (fun d1 E k hk h => lw_x35 _ _ hk h)
  exact ⟨d2, n, e + e', h4, by omega, by omega, lg_35 a1 a2 a3 a4 h1 h3 h5 h6⟩
theorem lk_36 (I : INV d n) (hn : n ≤ 512) (a1 : ax_in (i + 1) L = true) (a2 : ax_in (i + 2) L = true) (a3 : ax_in (i + 3) L = true) (a4 : ax_in (i + 4) L = true) : IT L xs i d n e 2531 := by
  obtain ⟨d', e', k, d2, x, h1, h2, h3, h4, h5, h6⟩ := lz_jn (hs := lx_whs 36) (fun x => x.toInt64) (j_count I (xs (i + 1).toNatClampNeg)) (by decide) (by decide) lh_36 (fun d1 x h => lw_i36 _ h) (fun d1 E k hk h => lw_x36 _ hk h)
  exact ⟨d2, n, e + e', h4, by omega, by omega, lg_36 a1 a2 a3 a4 h1 h3 h5 h6⟩
theorem lk_37 (I : INV d n) (hn : n ≤ 512) (a1 : ax_in (i + 1) L = true) (a2 : ax_in (i + 2) L = true) (a3 : ax_in (i + 3) L = true) (a4 : ax_in (i + 4) L = true) : IT L xs i d n e 2587 := by
  obtain ⟨d', x, d2, h1, h2, h3⟩ := lz_j0 (j_save I hn) (by decide) (by decide)
  exact ⟨d2, n, e, h3, by omega, by omega, lg_37 h1 h2 (decide_eq_true rfl)⟩
theorem lk_38 (I : INV d n) (hn : n ≤ 512) (a1 : ax_in (i + 1) L = true) (a2 : ax_in (i + 2) L = true) (a3 : ax_in (i + 3) L = true) (a4 : ax_in (i + 4) L = true) : IT L xs i d n e 2600 := by
  obtain ⟨d', e', k, d2, x, h1, h2, h3, h4, h5, h6⟩ := lz_jn (hs := lx_whs 38) (fun x => x.toInt64) (j_restore I  hn) (by decide) (by decide) lh_38 (fun d1 x h => lw_i38  h) (fun d1 E k hk h => lw_x38  hk h)
  exact ⟨d2, n, e + e', h4, by omega, by omega, lg_38 a1 a2 a3 a4 h1 h3 h5 h6⟩
theorem lt_dflt (I : INV d n) : IT L xs i d n e 2644 := ⟨d, n, e, I, by omega, by omega, go_s 2 (fun N => rfl)⟩
def ax_swt (x : Int32) (a : Nat) : List (Int32 × Nat) → Nat
  | [] => a
  | q :: r => cond (decide (x = q.1)) q.2 (ax_swt x a r)
theorem ax_sw_t (x : Int32) (a : Nat) (F : Nat → Option ax_Fin) (sw : List (Int32 × Nat)) : ax_sw x a F sw = F (ax_swt x a sw) := by
  induction sw with
  | nil => rfl
  | cons q r ih =>
    show cond (decide (x = q.1)) (F q.2) (ax_sw x a F r) = F (cond (decide (x = q.1)) q.2 (ax_swt x a r))
    rw [ih]
    cases decide (x = q.1) <;> rfl
theorem ax_swt_mem (x : Int32) (a : Nat) (sw : List (Int32 × Nat)) : ax_swt x a sw ∈ a :: sw.map (fun q => q.2) := by
  induction sw with
  | nil => exact List.mem_cons_self
  | cons q r ih =>
    show cond (decide (x = q.1)) q.2 (ax_swt x a r) ∈ _
    cases decide (x = q.1) with
    | true => exact List.mem_cons_of_mem _ List.mem_cons_self
    | false =>
      rcases List.mem_cons.mp ih with h | h
      · show ax_swt x a r ∈ _
        rw [h]; exact List.mem_cons_self
      · exact List.mem_cons_of_mem _ (List.mem_cons_of_mem _ h)
def lx_sw : List (Int32 × Nat) := [(0, 216), (1, 288), (2, 380), (3, 472), (4, 540), (5, 643), (6, 711), (7, 779), (8, 847), (9, 927), (10, 1035), (11, 1091), (12, 1135), (13, 1191), (14, 1235), (15, 1279), (16, 1323), (17, 1336), (18, 1392), (19, 1436), (20, 1487), (21, 1555), (22, 1623), (23, 1691), (24, 1754), (25, 1817), (26, 1880), (27, 1960), (28, 2016), (29, 2084), (30, 2140), (31, 2206), (32, 2271), (33, 2339), (34, 2395), (35, 2463), (36, 2531), (37, 2587), (38, 2600)]
theorem lt_head (hi : ax_in i L = true) (hle : decide (Int32.ofNat L - 5 < i) = false) : GO L xs 28 (L6 i) [] d e (ax_swt (xs i.toNatClampNeg &&& 63) 2644 lx_sw) (L6 i) [] d e := by
  refine go_cf (pc1 := 37) (lo1 := L6 i) (st1 := []) (d1 := d) (e1 := e) 6 hle (fun N => rfl) ?_
  refine go_ct (pc1 := 41) (lo1 := L6 i) (st1 := [Sum.inl (xs i.toNatClampNeg)]) (d1 := d) (e1 := e) 3 hi (fun N => rfl) ?_
  refine go_s 3 (fun N => ?_)
  have h : LR L xs (N + 3) 41 (L6 i) [Sum.inl (xs i.toNatClampNeg)] d e = ax_sw (xs i.toNatClampNeg &&& 63) 2644 (fun t => LR L xs N t (L6 i) [] d e) lx_sw := rfl
  rw [h, ax_sw_t]
theorem lt_end (hle : decide (Int32.ofNat L - 5 < i) = true) : LR L xs 8 28 (L6 i) [] d e = some (d, e, Sum.inl (some (Sum.inl 1))) := by
  have h : LR L xs 8 28 (L6 i) [] d e = cond (decide (Int32.ofNat L - 5 < i)) (LR L xs 2 2650 (L6 i) [] d e) (LR L xs 2 37 (L6 i) [] d e) := rfl
  rw [h, hle]
  rfl
theorem lt_it (I : INV d n) (hn : n ≤ 512) (a0 : ax_in i L = true) (a1 : ax_in (i + 1) L = true) (a2 : ax_in (i + 2) L = true) (a3 : ax_in (i + 3) L = true) (a4 : ax_in (i + 4) L = true) (hle : decide (Int32.ofNat L - 5 < i) = false) : IT L xs i d n e 28 := by
  have hg := lt_head (xs := xs) (d := d) (e := e) a0 hle
  have hm := ax_swt_mem (xs i.toNatClampNeg &&& 63) 2644 lx_sw
  generalize ax_swt (xs i.toNatClampNeg &&& 63) 2644 lx_sw = t at hg hm
  have key : IT L xs i d n e t := by
    simp only [lx_sw, List.map_cons, List.map_nil, List.mem_cons, List.not_mem_nil, or_false] at hm
    rcases hm with rfl | rfl | rfl | rfl | rfl | rfl | rfl | rfl | rfl | rfl | rfl | rfl | rfl | rfl | rfl | rfl | rfl | rfl | rfl | rfl | rfl | rfl | rfl | rfl | rfl | rfl | rfl | rfl | rfl | rfl | rfl | rfl | rfl | rfl | rfl | rfl | rfl | rfl | rfl | rfl
    · exact lt_dflt I
    · exact lk_0 I hn a1 a2 a3 a4
    · exact lk_1 I hn a1 a2 a3 a4
    · exact lk_2 I hn a1 a2 a3 a4
    · exact lk_3 I hn a1 a2 a3 a4
    · exact lk_4 I hn a1 a2 a3 a4
    · exact lk_5 I hn a1 a2 a3 a4
    · exact lk_6 I hn a1 a2 a3 a4
    · exact lk_7 I hn a1 a2 a3 a4
    · exact lk_8 I hn a1 a2 a3 a4
    · exact lk_9 I hn a1 a2 a3 a4
    · exact lk_10 I hn a1 a2 a3 a4
    · exact lk_11 I hn a1 a2 a3 a4
    · exact lk_12 I hn a1 a2 a3 a4
    · exact lk_13 I hn a1 a2 a3 a4
    · exact lk_14 I hn a1 a2 a3 a4
    · exact lk_15 I hn a1 a2 a3 a4
    · exact lk_16 I hn a1 a2 a3 a4
    · exact lk_17 I hn a1 a2 a3 a4
    · exact lk_18 I hn a1 a2 a3 a4
    · exact lk_19 I hn a1 a2 a3 a4
    · exact lk_20 I hn a1 a2 a3 a4
    · exact lk_21 I hn a1 a2 a3 a4
    · exact lk_22 I hn a1 a2 a3 a4
    · exact lk_23 I hn a1 a2 a3 a4
    · exact lk_24 I hn a1 a2 a3 a4
    · exact lk_25 I hn a1 a2 a3 a4
    · exact lk_26 I hn a1 a2 a3 a4
    · exact lk_27 I hn a1 a2 a3 a4
    · exact lk_28 I hn a1 a2 a3 a4
    · exact lk_29 I hn a1 a2 a3 a4
    · exact lk_30 I hn a1 a2 a3 a4
    · exact lk_31 I hn a1 a2 a3 a4
    · exact lk_32 I hn a1 a2 a3 a4
    · exact lk_33 I hn a1 a2 a3 a4
    · exact lk_34 I hn a1 a2 a3 a4
    · exact lk_35 I hn a1 a2 a3 a4
    · exact lk_36 I hn a1 a2 a3 a4
    · exact lk_37 I hn a1 a2 a3 a4
    · exact lk_38 I hn a1 a2 a3 a4
  obtain ⟨d', n', e', h1, h2, h3, h4⟩ := key
  exact ⟨d', n', e', h1, h2, h3, go_tr hg h4⟩
end LIT
theorem lt_cmp {L j : Nat} (hL : L ≤ 2560) (hj : 5 * j ≤ L) : decide (Int32.ofNat L - 5 < nI (5 * j)) = decide (L < 5 * j + 5) := by
  by_cases h5 : 5 ≤ L
  · have e1 : Int32.ofNat L - 5 = nI (L - 5) := by
      have e2 : nI (L - 5) + nI 5 = nI L := by rw [nI_add]; congr 1; omega
      rw [show Int32.ofNat L = nI L from rfl, ← e2]
      exact Int32.add_sub_cancel _ _
    rw [e1]
    by_cases h : L < 5 * j + 5
    · rw [decide_eq_true h, decide_eq_true (nI_lt (by omega) (by omega))]
    · rw [decide_eq_false h, decide_eq_false (fun z => absurd (nI_le (a := 5 * j) (b := L - 5) (by omega) (by omega)) (Int32.not_le.mpr z))]
  · have hj0 : j = 0 := by omega
    subst hj0
    rcases (show L = 0 ∨ L = 1 ∨ L = 2 ∨ L = 3 ∨ L = 4 by omega) with rfl | rfl | rfl | rfl | rfl <;> decide
theorem lt_loop {L : Nat} {xs : Nat → Int32} (hL : L ≤ 2560) : ∀ (r j n e : Nat) (d : ax_D), INV d n → n ≤ j → e ≤ j → 5 * j ≤ L → L < 5 * (j + r) + 5 → ∃ K d' e', e' ≤ 512 ∧ LR L xs K 28 (L6 (nI (5 * j))) [] d e = some (d', e', Sum.inl (some (Sum.inl 1))) := by
  intro r
  induction r with
  | zero =>
    intro j n e d I hn he hj hr
    exact ⟨8, d, e, by omega, lt_end (by rw [lt_cmp hL hj]; exact decide_eq_true (by omega))⟩
  | succ r ih =>
    intro j n e d I hn he hj hr
    by_cases h : L < 5 * j + 5
    · exact ⟨8, d, e, by omega, lt_end (by rw [lt_cmp hL hj]; exact decide_eq_true h)⟩
    · have ha : ∀ m : Nat, m < 5 → ax_in (nI (5 * j) + nI m) L = true := fun m hm => by rw [nI_add]; exact ax_in_nI (by omega) (by omega)
      obtain ⟨d', n', e', h1, h2, h3, K, h4⟩ := lt_it (xs := xs) (e := e) I (by omega) (ax_in_nI (by omega) (by omega)) (ha 1 (by omega)) (ha 2 (by omega)) (ha 3 (by omega)) (ha 4 (by omega)) (by rw [lt_cmp hL hj]; exact decide_eq_false h)
      obtain ⟨K', d9, e9, g1, g2⟩ := ih (j + 1) n' e' d' h1 (by omega) (by omega) (by omega) (by omega)
      refine ⟨K' + K, d9, e9, g1, ?_⟩
      rw [h4]
      have e5 : nI (5 * j) + 5 = nI (5 * (j + 1)) := by rw [show (5 : Int32) = nI 5 from rfl, nI_add]; exact congrArg nI (by omega)
      rw [e5]
      exact g2
