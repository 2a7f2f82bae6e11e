/-! THE FIRST WORLD -/
def d0c (k _ j s : Nat) : Int32 := cond (Nat.beq j 0) (cond (Nat.beq k 7) (cond (Nat.beq s 11) (-1) 0) (cond (Nat.beq k 8) (cond (Nat.beq s 7 || (Nat.beq s 9 || Nat.beq s 10)) (-1) 0) 0)) 0
def d0m (j s : Nat) : Int32 := cond (Nat.beq j 0) (cond (Nat.beq s 11 || (Nat.beq s 13 || Nat.beq s 14)) (-1) 0) 0
def d00 : ax_D := (d0c, d0m, 0, 0)
abbrev z0 : Row := fun _ => 0
theorem z0_R : nR z0 = 0 := rfl
theorem z0_T : nT z0 = 0 := rfl
theorem z0_D : nD z0 = 0 := rfl
theorem z0_ok : Ok z0 := by
  refine ⟨⟨⟨rfl, by rw [z0_R]; omega, rfl, by rw [z0_T]; omega, rfl, by rw [z0_D]; omega⟩, fun r h => ?_, fun t h => ?_, fun d h => ?_, fun t _ _ => ⟨rfl, rfl⟩⟩, fun t h => ?_, ?_, fun t _ _ => ⟨rfl, rfl⟩, fun d h => ?_, Or.inl ⟨rfl, rfl, rfl⟩, fun k _ => rfl⟩
  · rw [z0_R] at h; omega
  · rw [z0_T] at h; omega
  · rw [z0_D] at h; omega
  · rw [z0_T] at h; omega
  · intro t h
    rw [z0_T] at h; omega
  · rw [z0_D] at h; omega
theorem z0_pl : plI z0 = -1 := by unfold plI; rw [if_neg (by decide)]
theorem z0_cw (w : Nat) : Cw d00 w z0 := ⟨fun t _ => ⟨rfl, rfl, rfl, rfl⟩, ⟨by rw [z0_pl]; rfl, rfl, rfl⟩, fun e _ => rfl, fun h => absurd h (by decide)⟩
theorem z0_bt (r : Nat) : bt 0 r = false := by
  unfold bt
  simp
theorem z0_cp (p : Nat) : Cp d00 p z0 := ⟨⟨rfl, rfl, rfl⟩, fun r _ => by show bt 0 r = _; rw [z0_bt]; rfl, fun k _ => by show (0 : Int32) = b2i (bt 0 k); rw [z0_bt]; rfl, fun e _ => ⟨rfl, rfl⟩, fun t _ => ⟨rfl, rfl, rfl, rfl, rfl, rfl, rfl⟩, fun k _ => ⟨rfl, rfl, rfl⟩⟩
theorem inv0 : INV d00 0 := by
  refine ⟨⟨z0_cp _, z0_cw 0, z0_ok⟩, ?_, ⟨rfl, rfl, rfl, rfl⟩, 0, 0, 0, [], 0, Nat.le_refl _, Nat.zero_le _, Nat.zero_le _, ⟨rfl, rfl, rfl⟩, ⟨⟨rfl, Nat.zero_le _, by omega, rfl, fun i s h => by simp at h⟩, ?_, fun _ => rfl⟩, fun h => absurd (show (0 : Int32) = 1 from h) (by decide), rfl, Or.inl rfl⟩
  · show load z0 ≤ 20
    unfold load
    rw [z0_T]
    exact Nat.zero_le _
  · exact ⟨rfl, Nat.zero_le _, fun i s h => by simp at h⟩
