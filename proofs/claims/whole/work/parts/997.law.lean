/-! every entry of the law is what its code says -/
def lx_gC (j : Nat) (tb : Nat → Option ax_En) : Bool := (List.range 68).all (fun z => match tb (68 * j + z) with
  | none => true
  | some en => lx_gB 9 22 10936 "AdventureWorldLaw" lx_cl lx_wl lx_wn code (68 * j + z) en.1 en.2.1 en.2.2.1 en.2.2.2.1 en.2.2.2.2.1 en.2.2.2.2.2.1 en.2.2.2.2.2.2)
theorem lx_lc0 : lx_gC 0 lx_lt = true := by decide +kernel
theorem lx_lc1 : lx_gC 1 lx_lt = true := by decide +kernel
theorem lx_lc2 : lx_gC 2 lx_lt = true := by decide +kernel
theorem lx_lc3 : lx_gC 3 lx_lt = true := by decide +kernel
theorem lx_lc4 : lx_gC 4 lx_lt = true := by decide +kernel
theorem lx_lc5 : lx_gC 5 lx_lt = true := by decide +kernel
theorem lx_lc6 : lx_gC 6 lx_lt = true := by decide +kernel
theorem lx_lc7 : lx_gC 7 lx_lt = true := by decide +kernel
theorem lx_lc8 : lx_gC 8 lx_lt = true := by decide +kernel
theorem lx_lc9 : lx_gC 9 lx_lt = true := by decide +kernel
theorem lx_lc10 : lx_gC 10 lx_lt = true := by decide +kernel
theorem lx_lc11 : lx_gC 11 lx_lt = true := by decide +kernel
theorem lx_lc12 : lx_gC 12 lx_lt = true := by decide +kernel
theorem lx_lc13 : lx_gC 13 lx_lt = true := by decide +kernel
theorem lx_lc14 : lx_gC 14 lx_lt = true := by decide +kernel
theorem lx_lc15 : lx_gC 15 lx_lt = true := by decide +kernel
theorem lx_lc16 : lx_gC 16 lx_lt = true := by decide +kernel
theorem lx_lc17 : lx_gC 17 lx_lt = true := by decide +kernel
theorem lx_lc18 : lx_gC 18 lx_lt = true := by decide +kernel
theorem lx_lc19 : lx_gC 19 lx_lt = true := by decide +kernel
theorem lx_lc20 : lx_gC 20 lx_lt = true := by decide +kernel
theorem lx_lc21 : lx_gC 21 lx_lt = true := by decide +kernel
theorem lx_lc22 : lx_gC 22 lx_lt = true := by decide +kernel
theorem lx_lc23 : lx_gC 23 lx_lt = true := by decide +kernel
theorem lx_lc24 : lx_gC 24 lx_lt = true := by decide +kernel
theorem lx_lc25 : lx_gC 25 lx_lt = true := by decide +kernel
theorem lx_lc26 : lx_gC 26 lx_lt = true := by decide +kernel
theorem lx_lc27 : lx_gC 27 lx_lt = true := by decide +kernel
theorem lx_lc28 : lx_gC 28 lx_lt = true := by decide +kernel
theorem lx_lc29 : lx_gC 29 lx_lt = true := by decide +kernel
theorem lx_lc30 : lx_gC 30 lx_lt = true := by decide +kernel
theorem lx_lc31 : lx_gC 31 lx_lt = true := by decide +kernel
theorem lx_lc32 : lx_gC 32 lx_lt = true := by decide +kernel
theorem lx_lc33 : lx_gC 33 lx_lt = true := by decide +kernel
theorem lx_lc34 : lx_gC 34 lx_lt = true := by decide +kernel
theorem lx_lc35 : lx_gC 35 lx_lt = true := by decide +kernel
theorem lx_lc36 : lx_gC 36 lx_lt = true := by decide +kernel
theorem lx_lc37 : lx_gC 37 lx_lt = true := by decide +kernel
theorem lx_lc38 : lx_gC 38 lx_lt = true := by decide +kernel
theorem lx_lcs : ∀ j, j < 39 → lx_gC j lx_lt = true := by
  intro j h
  match j, h with
  | 0, _ => exact lx_lc0
  | 1, _ => exact lx_lc1
  | 2, _ => exact lx_lc2
  | 3, _ => exact lx_lc3
  | 4, _ => exact lx_lc4
  | 5, _ => exact lx_lc5
  | 6, _ => exact lx_lc6
  | 7, _ => exact lx_lc7
  | 8, _ => exact lx_lc8
  | 9, _ => exact lx_lc9
  | 10, _ => exact lx_lc10
  | 11, _ => exact lx_lc11
  | 12, _ => exact lx_lc12
  | 13, _ => exact lx_lc13
  | 14, _ => exact lx_lc14
  | 15, _ => exact lx_lc15
  | 16, _ => exact lx_lc16
  | 17, _ => exact lx_lc17
  | 18, _ => exact lx_lc18
  | 19, _ => exact lx_lc19
  | 20, _ => exact lx_lc20
  | 21, _ => exact lx_lc21
  | 22, _ => exact lx_lc22
  | 23, _ => exact lx_lc23
  | 24, _ => exact lx_lc24
  | 25, _ => exact lx_lc25
  | 26, _ => exact lx_lc26
  | 27, _ => exact lx_lc27
  | 28, _ => exact lx_lc28
  | 29, _ => exact lx_lc29
  | 30, _ => exact lx_lc30
  | 31, _ => exact lx_lc31
  | 32, _ => exact lx_lc32
  | 33, _ => exact lx_lc33
  | 34, _ => exact lx_lc34
  | 35, _ => exact lx_lc35
  | 36, _ => exact lx_lc36
  | 37, _ => exact lx_lc37
  | 38, _ => exact lx_lc38
  | n + 39, h => exact absurd h (by omega)
theorem lx_lc : lx_gA 9 22 10936 code 2652 lx_lt lx_wl lx_wn = true := by
  refine List.all_eq_true.mpr (fun pc hp => ?_)
  have hp := List.mem_range.mp hp
  have h := List.all_eq_true.mp (lx_lcs (pc / 68) (by omega)) (pc % 68) (List.mem_range.mpr (Nat.mod_lt _ (by decide)))
  have e : 68 * (pc / 68) + pc % 68 = pc := Nat.div_add_mod pc 68
  simp only [e] at h
  exact h
theorem lx_lg : lx_good 9 22 10936 "AdventureWorldLaw" lx_cl lx_wl lx_wn code lx_lt := lx_gOf lx_lc (fun pc h => by unfold lx_lt; rw [h]; rfl)

