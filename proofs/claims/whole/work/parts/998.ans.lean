/-! WHAT THE WRAPPERS ANSWER -/
theorem lw_i0 (p0 : Int32) {d d1 : ax_D} {x : Int32} (h : ax_sem ax_N 16 [ax_vR 8 0 0, Sum.inl p0] d = some (d1, Sum.inl (some (Sum.inl x)))) : lx_wor 0 [ax_vR 8 0 0, Sum.inl p0, ax_vR 10 0 1] d = some ((d1.1, d1.2.1, x.toInt64, d1.2.2.2), 0, 0) := by
  show lx_wfin (ax_callI (ax_sem ax_N 16 [ax_vR 8 0 0, Sum.inl p0] d) _ _) = _
  rw [h]
  rfl
theorem lw_x0 (p0 : Int32) {d d1 : ax_D} {E : Nat} {k : Int32} (hk : lx_hdF (lx_whs 0) 1 E = some k) (h : ax_sem ax_N 16 [ax_vR 8 0 0, Sum.inl p0] d = some (d1, Sum.inr E)) : lx_wor 0 [ax_vR 8 0 0, Sum.inl p0, ax_vR 10 0 1] d = some (d1, 1, k) := by
  show lx_wfin (ax_callI (ax_sem ax_N 16 [ax_vR 8 0 0, Sum.inl p0] d) _ _) = _
  rw [h]
  show lx_wfin (lx_kx (lx_hdF (lx_whs 0) 1) 0 E d1) = _
  unfold lx_kx
  rw [hk]
  rfl
theorem lw_i1 (p0 : Int32) (p1 : Int32) (p2 : Int32) (p3 : Int32) {d d1 : ax_D} {x : Int32} (h : ax_sem ax_N 113 [ax_vR 8 0 0, Sum.inl p0, Sum.inl p1, Sum.inl p2, Sum.inl p3] d = some (d1, Sum.inl (some (Sum.inl x)))) : lx_wor 1 [ax_vR 8 0 0, Sum.inl p0, Sum.inl p1, Sum.inl p2, Sum.inl p3, ax_vR 10 0 1] d = some ((d1.1, d1.2.1, x.toInt64, d1.2.2.2), 0, 0) := by
  show lx_wfin (ax_callI (ax_sem ax_N 113 [ax_vR 8 0 0, Sum.inl p0, Sum.inl p1, Sum.inl p2, Sum.inl p3] d) _ _) = _
  rw [h]
  rfl
theorem lw_x1 (p0 : Int32) (p1 : Int32) (p2 : Int32) (p3 : Int32) {d d1 : ax_D} {E : Nat} {k : Int32} (hk : lx_hdF (lx_whs 1) 1 E = some k) (h : ax_sem ax_N 113 [ax_vR 8 0 0, Sum.inl p0, Sum.inl p1, Sum.inl p2, Sum.inl p3] d = some (d1, Sum.inr E)) : lx_wor 1 [ax_vR 8 0 0, Sum.inl p0, Sum.inl p1, Sum.inl p2, Sum.inl p3, ax_vR 10 0 1] d = some (d1, 1, k) := by
  show lx_wfin (ax_callI (ax_sem ax_N 113 [ax_vR 8 0 0, Sum.inl p0, Sum.inl p1, Sum.inl p2, Sum.inl p3] d) _ _) = _
  rw [h]
  show lx_wfin (lx_kx (lx_hdF (lx_whs 1) 1) 0 E d1) = _
  unfold lx_kx
  rw [hk]
  rfl
theorem lw_i2 (p0 : Int32) (p1 : Int32) (p2 : Int32) (p3 : Int32) {d d1 : ax_D} {x : Int32} (h : ax_sem ax_N 19 [ax_vR 8 0 0, Sum.inl p0, Sum.inl p1, Sum.inl p2, Sum.inl p3] d = some (d1, Sum.inl (some (Sum.inl x)))) : lx_wor 2 [ax_vR 8 0 0, Sum.inl p0, Sum.inl p1, Sum.inl p2, Sum.inl p3, ax_vR 10 0 1] d = some ((d1.1, d1.2.1, x.toInt64, d1.2.2.2), 0, 0) := by
  show lx_wfin (ax_callI (ax_sem ax_N 19 [ax_vR 8 0 0, Sum.inl p0, Sum.inl p1, Sum.inl p2, Sum.inl p3] d) _ _) = _
  rw [h]
  rfl
theorem lw_x2 (p0 : Int32) (p1 : Int32) (p2 : Int32) (p3 : Int32) {d d1 : ax_D} {E : Nat} {k : Int32} (hk : lx_hdF (lx_whs 2) 1 E = some k) (h : ax_sem ax_N 19 [ax_vR 8 0 0, Sum.inl p0, Sum.inl p1, Sum.inl p2, Sum.inl p3] d = some (d1, Sum.inr E)) : lx_wor 2 [ax_vR 8 0 0, Sum.inl p0, Sum.inl p1, Sum.inl p2, Sum.inl p3, ax_vR 10 0 1] d = some (d1, 1, k) := by
  show lx_wfin (ax_callI (ax_sem ax_N 19 [ax_vR 8 0 0, Sum.inl p0, Sum.inl p1, Sum.inl p2, Sum.inl p3] d) _ _) = _
  rw [h]
  show lx_wfin (lx_kx (lx_hdF (lx_whs 2) 1) 0 E d1) = _
  unfold lx_kx
  rw [hk]
  rfl
theorem lw_i3 (p0 : Int32) (p1 : Int32) {d d1 : ax_D} {x : Int32} (h : ax_sem ax_N 149 [ax_vR 8 0 0, Sum.inl p0, Sum.inl p1] d = some (d1, Sum.inl (some (Sum.inl x)))) : lx_wor 3 [ax_vR 8 0 0, Sum.inl p0, Sum.inl p1, ax_vR 10 0 1] d = some ((d1.1, d1.2.1, x.toInt64, d1.2.2.2), 0, 0) := by
  show lx_wfin (ax_callI (ax_sem ax_N 149 [ax_vR 8 0 0, Sum.inl p0, Sum.inl p1] d) _ _) = _
  rw [h]
  rfl
theorem lw_x3 (p0 : Int32) (p1 : Int32) {d d1 : ax_D} {E : Nat} {k : Int32} (hk : lx_hdF (lx_whs 3) 1 E = some k) (h : ax_sem ax_N 149 [ax_vR 8 0 0, Sum.inl p0, Sum.inl p1] d = some (d1, Sum.inr E)) : lx_wor 3 [ax_vR 8 0 0, Sum.inl p0, Sum.inl p1, ax_vR 10 0 1] d = some (d1, 1, k) := by
  show lx_wfin (ax_callI (ax_sem ax_N 149 [ax_vR 8 0 0, Sum.inl p0, Sum.inl p1] d) _ _) = _
  rw [h]
  show lx_wfin (lx_kx (lx_hdF (lx_whs 3) 1) 0 E d1) = _
  unfold lx_kx
  rw [hk]
  rfl
theorem lw_i4 (p0 : Int32) (p1 : Int32) (p2 : Int32) {d d1 : ax_D} {x : Int32} (h : ax_sem ax_N 151 [ax_vR 8 0 0, Sum.inl p0, Sum.inl p1, Sum.inl p2] d = some (d1, Sum.inl (some (Sum.inl x)))) : lx_wor 4 [ax_vR 8 0 0, Sum.inl p0, Sum.inl p1, Sum.inl p2, ax_vR 10 0 1] d = some ((d1.1, d1.2.1, cond (decide (x = 0)) (Int64.ofNat 0) (Int64.ofNat 1), d1.2.2.2), 0, 0) := by
  show lx_wfin (ax_callI (ax_sem ax_N 151 [ax_vR 8 0 0, Sum.inl p0, Sum.inl p1, Sum.inl p2] d) _ _) = _
  rw [h]
  show lx_wfin (cond (decide (x = 0)) _ _) = _
  cases decide (x = 0) <;> rfl
theorem lw_x4 (p0 : Int32) (p1 : Int32) (p2 : Int32) {d d1 : ax_D} {E : Nat} {k : Int32} (hk : lx_hdF (lx_whs 4) 1 E = some k) (h : ax_sem ax_N 151 [ax_vR 8 0 0, Sum.inl p0, Sum.inl p1, Sum.inl p2] d = some (d1, Sum.inr E)) : lx_wor 4 [ax_vR 8 0 0, Sum.inl p0, Sum.inl p1, Sum.inl p2, ax_vR 10 0 1] d = some (d1, 1, k) := by
  show lx_wfin (ax_callI (ax_sem ax_N 151 [ax_vR 8 0 0, Sum.inl p0, Sum.inl p1, Sum.inl p2] d) _ _) = _
  rw [h]
  show lx_wfin (lx_kx (lx_hdF (lx_whs 4) 1) 0 E d1) = _
  unfold lx_kx
  rw [hk]
  rfl
theorem lw_i5 (p0 : Int32) (p1 : Int32) {d d1 : ax_D} {x : Int32} (h : ax_sem ax_N 153 [ax_vR 8 0 0, Sum.inl p0, Sum.inl p1] d = some (d1, Sum.inl (some (Sum.inl x)))) : lx_wor 5 [ax_vR 8 0 0, Sum.inl p0, Sum.inl p1, ax_vR 10 0 1] d = some ((d1.1, d1.2.1, x.toInt64, d1.2.2.2), 0, 0) := by
  show lx_wfin (ax_callI (ax_sem ax_N 153 [ax_vR 8 0 0, Sum.inl p0, Sum.inl p1] d) _ _) = _
  rw [h]
  rfl
theorem lw_x5 (p0 : Int32) (p1 : Int32) {d d1 : ax_D} {E : Nat} {k : Int32} (hk : lx_hdF (lx_whs 5) 1 E = some k) (h : ax_sem ax_N 153 [ax_vR 8 0 0, Sum.inl p0, Sum.inl p1] d = some (d1, Sum.inr E)) : lx_wor 5 [ax_vR 8 0 0, Sum.inl p0, Sum.inl p1, ax_vR 10 0 1] d = some (d1, 1, k) := by
  show lx_wfin (ax_callI (ax_sem ax_N 153 [ax_vR 8 0 0, Sum.inl p0, Sum.inl p1] d) _ _) = _
  rw [h]
  show lx_wfin (lx_kx (lx_hdF (lx_whs 5) 1) 0 E d1) = _
  unfold lx_kx
  rw [hk]
  rfl
theorem lw_i6 (p0 : Int32) (p1 : Int32) {d d1 : ax_D} {x : Int32} (h : ax_sem ax_N 152 [ax_vR 8 0 0, Sum.inl p0, Sum.inl p1] d = some (d1, Sum.inl (some (Sum.inl x)))) : lx_wor 6 [ax_vR 8 0 0, Sum.inl p0, Sum.inl p1, ax_vR 10 0 1] d = some ((d1.1, d1.2.1, x.toInt64, d1.2.2.2), 0, 0) := by
  show lx_wfin (ax_callI (ax_sem ax_N 152 [ax_vR 8 0 0, Sum.inl p0, Sum.inl p1] d) _ _) = _
  rw [h]
  rfl
theorem lw_x6 (p0 : Int32) (p1 : Int32) {d d1 : ax_D} {E : Nat} {k : Int32} (hk : lx_hdF (lx_whs 6) 1 E = some k) (h : ax_sem ax_N 152 [ax_vR 8 0 0, Sum.inl p0, Sum.inl p1] d = some (d1, Sum.inr E)) : lx_wor 6 [ax_vR 8 0 0, Sum.inl p0, Sum.inl p1, ax_vR 10 0 1] d = some (d1, 1, k) := by
  show lx_wfin (ax_callI (ax_sem ax_N 152 [ax_vR 8 0 0, Sum.inl p0, Sum.inl p1] d) _ _) = _
  rw [h]
  show lx_wfin (lx_kx (lx_hdF (lx_whs 6) 1) 0 E d1) = _
  unfold lx_kx
  rw [hk]
  rfl
theorem lw_i7 (p0 : Int32) (p1 : Int32) {d d1 : ax_D} {x : Int32} (h : ax_sem ax_N 154 [ax_vR 8 0 0, Sum.inl p0, Sum.inl p1] d = some (d1, Sum.inl (some (Sum.inl x)))) : lx_wor 7 [ax_vR 8 0 0, Sum.inl p0, Sum.inl p1, ax_vR 10 0 1] d = some ((d1.1, d1.2.1, x.toInt64, d1.2.2.2), 0, 0) := by
  show lx_wfin (ax_callI (ax_sem ax_N 154 [ax_vR 8 0 0, Sum.inl p0, Sum.inl p1] d) _ _) = _
  rw [h]
  rfl
theorem lw_x7 (p0 : Int32) (p1 : Int32) {d d1 : ax_D} {E : Nat} {k : Int32} (hk : lx_hdF (lx_whs 7) 1 E = some k) (h : ax_sem ax_N 154 [ax_vR 8 0 0, Sum.inl p0, Sum.inl p1] d = some (d1, Sum.inr E)) : lx_wor 7 [ax_vR 8 0 0, Sum.inl p0, Sum.inl p1, ax_vR 10 0 1] d = some (d1, 1, k) := by
  show lx_wfin (ax_callI (ax_sem ax_N 154 [ax_vR 8 0 0, Sum.inl p0, Sum.inl p1] d) _ _) = _
  rw [h]
  show lx_wfin (lx_kx (lx_hdF (lx_whs 7) 1) 0 E d1) = _
  unfold lx_kx
  rw [hk]
  rfl
theorem lw_i8 (p0 : Int32) (p1 : Int32) (p2 : Int32) {d d1 : ax_D} {x : Int32} (h : ax_sem ax_N 142 [ax_vR 8 0 0, Sum.inl p0, Sum.inl p1, Sum.inl p2] d = some (d1, Sum.inl (some (Sum.inl x)))) : lx_wor 8 [ax_vR 8 0 0, Sum.inl p0, Sum.inl p1, Sum.inl p2, ax_vR 10 0 1] d = some ((d1.1, d1.2.1, x.toInt64, d1.2.2.2), 0, 0) := by
  show lx_wfin (ax_callI (ax_sem ax_N 142 [ax_vR 8 0 0, Sum.inl p0, Sum.inl p1, Sum.inl p2] d) _ _) = _
  rw [h]
  rfl
theorem lw_x8 (p0 : Int32) (p1 : Int32) (p2 : Int32) {d d1 : ax_D} {E : Nat} {k : Int32} (hk : lx_hdF (lx_whs 8) 1 E = some k) (h : ax_sem ax_N 142 [ax_vR 8 0 0, Sum.inl p0, Sum.inl p1, Sum.inl p2] d = some (d1, Sum.inr E)) : lx_wor 8 [ax_vR 8 0 0, Sum.inl p0, Sum.inl p1, Sum.inl p2, ax_vR 10 0 1] d = some (d1, 1, k) := by
  show lx_wfin (ax_callI (ax_sem ax_N 142 [ax_vR 8 0 0, Sum.inl p0, Sum.inl p1, Sum.inl p2] d) _ _) = _
  rw [h]
  show lx_wfin (lx_kx (lx_hdF (lx_whs 8) 1) 0 E d1) = _
  unfold lx_kx
  rw [hk]
  rfl
theorem lw_i9 (p0 : Int32) (p1 : Int32) (p2 : Int32) (p3 : Int32) {d d1 : ax_D} {x : Int32} (h : ax_sem ax_N 12 [ax_vR 8 0 0, Sum.inl p0, Sum.inl p1, Sum.inl p2, Sum.inl p3] d = some (d1, Sum.inl (some (Sum.inl x)))) : lx_wor 9 [ax_vR 8 0 0, Sum.inl p0, Sum.inl p1, Sum.inl p2, Sum.inl p3, ax_vR 10 0 1] d = some ((d1.1, d1.2.1, x.toInt64, d1.2.2.2), 0, 0) := by
  show lx_wfin (ax_callI (ax_sem ax_N 12 [ax_vR 8 0 0, Sum.inl p0, Sum.inl p1, Sum.inl p2, Sum.inl p3] d) _ _) = _
  rw [h]
  rfl
theorem lw_x9 (p0 : Int32) (p1 : Int32) (p2 : Int32) (p3 : Int32) {d d1 : ax_D} {E : Nat} {k : Int32} (hk : lx_hdF (lx_whs 9) 1 E = some k) (h : ax_sem ax_N 12 [ax_vR 8 0 0, Sum.inl p0, Sum.inl p1, Sum.inl p2, Sum.inl p3] d = some (d1, Sum.inr E)) : lx_wor 9 [ax_vR 8 0 0, Sum.inl p0, Sum.inl p1, Sum.inl p2, Sum.inl p3, ax_vR 10 0 1] d = some (d1, 1, k) := by
  show lx_wfin (ax_callI (ax_sem ax_N 12 [ax_vR 8 0 0, Sum.inl p0, Sum.inl p1, Sum.inl p2, Sum.inl p3] d) _ _) = _
  rw [h]
  show lx_wfin (lx_kx (lx_hdF (lx_whs 9) 1) 0 E d1) = _
  unfold lx_kx
  rw [hk]
  rfl
theorem lw_i10 (p0 : Int32) {d d1 : ax_D} {x : Int32} (h : ax_sem ax_N 27 [ax_vR 8 0 0, Sum.inl p0] d = some (d1, Sum.inl (some (Sum.inl x)))) : lx_wor 10 [ax_vR 8 0 0, Sum.inl p0, ax_vR 10 0 1] d = some ((d1.1, d1.2.1, x.toInt64, d1.2.2.2), 0, 0) := by
  show lx_wfin (ax_callI (ax_sem ax_N 27 [ax_vR 8 0 0, Sum.inl p0] d) _ _) = _
  rw [h]
  rfl
theorem lw_x10 (p0 : Int32) {d d1 : ax_D} {E : Nat} {k : Int32} (hk : lx_hdF (lx_whs 10) 1 E = some k) (h : ax_sem ax_N 27 [ax_vR 8 0 0, Sum.inl p0] d = some (d1, Sum.inr E)) : lx_wor 10 [ax_vR 8 0 0, Sum.inl p0, ax_vR 10 0 1] d = some (d1, 1, k) := by
  show lx_wfin (ax_callI (ax_sem ax_N 27 [ax_vR 8 0 0, Sum.inl p0] d) _ _) = _
  rw [h]
  show lx_wfin (lx_kx (lx_hdF (lx_whs 10) 1) 0 E d1) = _
  unfold lx_kx
  rw [hk]
  rfl
theorem lw_i11  {d d1 : ax_D} {x : Int32} (h : ax_sem ax_N 156 [ax_vR 8 0 0] d = some (d1, Sum.inl (some (Sum.inl x)))) : lx_wor 11 [ax_vR 8 0 0, ax_vR 10 0 1] d = some ((d1.1, d1.2.1, x.toInt64, d1.2.2.2), 0, 0) := by
  show lx_wfin (ax_callI (ax_sem ax_N 156 [ax_vR 8 0 0] d) _ _) = _
  rw [h]
  rfl
theorem lw_x11  {d d1 : ax_D} {E : Nat} {k : Int32} (hk : lx_hdF (lx_whs 11) 1 E = some k) (h : ax_sem ax_N 156 [ax_vR 8 0 0] d = some (d1, Sum.inr E)) : lx_wor 11 [ax_vR 8 0 0, ax_vR 10 0 1] d = some (d1, 1, k) := by
  show lx_wfin (ax_callI (ax_sem ax_N 156 [ax_vR 8 0 0] d) _ _) = _
  rw [h]
  show lx_wfin (lx_kx (lx_hdF (lx_whs 11) 1) 0 E d1) = _
  unfold lx_kx
  rw [hk]
  rfl
theorem lw_i12 (p0 : Int32) {d d1 : ax_D} {x : Int32} (h : ax_sem ax_N 22 [ax_vR 8 0 0, Sum.inl p0] d = some (d1, Sum.inl (some (Sum.inl x)))) : lx_wor 12 [ax_vR 8 0 0, Sum.inl p0, ax_vR 10 0 1] d = some ((d1.1, d1.2.1, x.toInt64, d1.2.2.2), 0, 0) := by
  show lx_wfin (ax_callI (ax_sem ax_N 22 [ax_vR 8 0 0, Sum.inl p0] d) _ _) = _
  rw [h]
  rfl
theorem lw_x12 (p0 : Int32) {d d1 : ax_D} {E : Nat} {k : Int32} (hk : lx_hdF (lx_whs 12) 1 E = some k) (h : ax_sem ax_N 22 [ax_vR 8 0 0, Sum.inl p0] d = some (d1, Sum.inr E)) : lx_wor 12 [ax_vR 8 0 0, Sum.inl p0, ax_vR 10 0 1] d = some (d1, 1, k) := by
  show lx_wfin (ax_callI (ax_sem ax_N 22 [ax_vR 8 0 0, Sum.inl p0] d) _ _) = _
  rw [h]
  show lx_wfin (lx_kx (lx_hdF (lx_whs 12) 1) 0 E d1) = _
  unfold lx_kx
  rw [hk]
  rfl
theorem lw_i13  {d d1 : ax_D} {x : Int32} (h : ax_sem ax_N 112 [ax_vR 8 0 0] d = some (d1, Sum.inl (some (Sum.inl x)))) : lx_wor 13 [ax_vR 8 0 0, ax_vR 10 0 1] d = some ((d1.1, d1.2.1, x.toInt64, d1.2.2.2), 0, 0) := by
  show lx_wfin (ax_callI (ax_sem ax_N 112 [ax_vR 8 0 0] d) _ _) = _
  rw [h]
  rfl
theorem lw_x13  {d d1 : ax_D} {E : Nat} {k : Int32} (hk : lx_hdF (lx_whs 13) 1 E = some k) (h : ax_sem ax_N 112 [ax_vR 8 0 0] d = some (d1, Sum.inr E)) : lx_wor 13 [ax_vR 8 0 0, ax_vR 10 0 1] d = some (d1, 1, k) := by
  show lx_wfin (ax_callI (ax_sem ax_N 112 [ax_vR 8 0 0] d) _ _) = _
  rw [h]
  show lx_wfin (lx_kx (lx_hdF (lx_whs 13) 1) 0 E d1) = _
  unfold lx_kx
  rw [hk]
  rfl
theorem lw_i14  {d d1 : ax_D} {x : Int32} (h : ax_sem ax_N 127 [ax_vR 8 0 0] d = some (d1, Sum.inl (some (Sum.inl x)))) : lx_wor 14 [ax_vR 8 0 0, ax_vR 10 0 1] d = some ((d1.1, d1.2.1, x.toInt64, d1.2.2.2), 0, 0) := by
  show lx_wfin (ax_callI (ax_sem ax_N 127 [ax_vR 8 0 0] d) _ _) = _
  rw [h]
  rfl
theorem lw_x14  {d d1 : ax_D} {E : Nat} {k : Int32} (hk : lx_hdF (lx_whs 14) 1 E = some k) (h : ax_sem ax_N 127 [ax_vR 8 0 0] d = some (d1, Sum.inr E)) : lx_wor 14 [ax_vR 8 0 0, ax_vR 10 0 1] d = some (d1, 1, k) := by
  show lx_wfin (ax_callI (ax_sem ax_N 127 [ax_vR 8 0 0] d) _ _) = _
  rw [h]
  show lx_wfin (lx_kx (lx_hdF (lx_whs 14) 1) 0 E d1) = _
  unfold lx_kx
  rw [hk]
  rfl
theorem lw_i15  {d d1 : ax_D} {x : Int32} (h : ax_sem ax_N 137 [ax_vR 8 0 0] d = some (d1, Sum.inl (some (Sum.inl x)))) : lx_wor 15 [ax_vR 8 0 0, ax_vR 10 0 1] d = some ((d1.1, d1.2.1, x.toInt64, d1.2.2.2), 0, 0) := by
  show lx_wfin (ax_callI (ax_sem ax_N 137 [ax_vR 8 0 0] d) _ _) = _
  rw [h]
  rfl
theorem lw_x15  {d d1 : ax_D} {E : Nat} {k : Int32} (hk : lx_hdF (lx_whs 15) 1 E = some k) (h : ax_sem ax_N 137 [ax_vR 8 0 0] d = some (d1, Sum.inr E)) : lx_wor 15 [ax_vR 8 0 0, ax_vR 10 0 1] d = some (d1, 1, k) := by
  show lx_wfin (ax_callI (ax_sem ax_N 137 [ax_vR 8 0 0] d) _ _) = _
  rw [h]
  show lx_wfin (lx_kx (lx_hdF (lx_whs 15) 1) 0 E d1) = _
  unfold lx_kx
  rw [hk]
  rfl
theorem lw_i17 (p0 : Int32) {d d1 : ax_D} {x : Int32} (h : ax_sem ax_N 143 [ax_vR 8 0 0, Sum.inl p0] d = some (d1, Sum.inl (some (Sum.inl x)))) : lx_wor 17 [ax_vR 8 0 0, Sum.inl p0, ax_vR 10 0 1] d = some ((d1.1, d1.2.1, x.toInt64, d1.2.2.2), 0, 0) := by
  show lx_wfin (ax_callI (ax_sem ax_N 143 [ax_vR 8 0 0, Sum.inl p0] d) _ _) = _
  rw [h]
  rfl
theorem lw_x17 (p0 : Int32) {d d1 : ax_D} {E : Nat} {k : Int32} (hk : lx_hdF (lx_whs 17) 1 E = some k) (h : ax_sem ax_N 143 [ax_vR 8 0 0, Sum.inl p0] d = some (d1, Sum.inr E)) : lx_wor 17 [ax_vR 8 0 0, Sum.inl p0, ax_vR 10 0 1] d = some (d1, 1, k) := by
  show lx_wfin (ax_callI (ax_sem ax_N 143 [ax_vR 8 0 0, Sum.inl p0] d) _ _) = _
  rw [h]
  show lx_wfin (lx_kx (lx_hdF (lx_whs 17) 1) 0 E d1) = _
  unfold lx_kx
  rw [hk]
  rfl
theorem lw_i18  {d d1 : ax_D} {x : Int32} (h : ax_sem ax_N 161 [ax_vR 8 0 0] d = some (d1, Sum.inl (some (Sum.inl x)))) : lx_wor 18 [ax_vR 8 0 0, ax_vR 10 0 1] d = some ((d1.1, d1.2.1, x.toInt64, d1.2.2.2), 0, 0) := by
  show lx_wfin (ax_callI (ax_sem ax_N 161 [ax_vR 8 0 0] d) _ _) = _
  rw [h]
  rfl
theorem lw_x18  {d d1 : ax_D} {E : Nat} {k : Int32} (hk : lx_hdF (lx_whs 18) 1 E = some k) (h : ax_sem ax_N 161 [ax_vR 8 0 0] d = some (d1, Sum.inr E)) : lx_wor 18 [ax_vR 8 0 0, ax_vR 10 0 1] d = some (d1, 1, k) := by
  show lx_wfin (ax_callI (ax_sem ax_N 161 [ax_vR 8 0 0] d) _ _) = _
  rw [h]
  show lx_wfin (lx_kx (lx_hdF (lx_whs 18) 1) 0 E d1) = _
  unfold lx_kx
  rw [hk]
  rfl
theorem lw_i19  {d d1 : ax_D} {x : Int32} (h : ax_sem ax_N 132 [ax_vR 8 0 0] d = some (d1, Sum.inl (some (Sum.inl x)))) : lx_wor 19 [ax_vR 8 0 0, ax_vR 10 0 1] d = some ((d1.1, d1.2.1, cond (decide (x = 0)) (Int64.ofNat 0) (Int64.ofNat 1), d1.2.2.2), 0, 0) := by
  show lx_wfin (ax_callI (ax_sem ax_N 132 [ax_vR 8 0 0] d) _ _) = _
  rw [h]
  show lx_wfin (cond (decide (x = 0)) _ _) = _
  cases decide (x = 0) <;> rfl
theorem lw_x19  {d d1 : ax_D} {E : Nat} {k : Int32} (hk : lx_hdF (lx_whs 19) 1 E = some k) (h : ax_sem ax_N 132 [ax_vR 8 0 0] d = some (d1, Sum.inr E)) : lx_wor 19 [ax_vR 8 0 0, ax_vR 10 0 1] d = some (d1, 1, k) := by
  show lx_wfin (ax_callI (ax_sem ax_N 132 [ax_vR 8 0 0] d) _ _) = _
  rw [h]
  show lx_wfin (lx_kx (lx_hdF (lx_whs 19) 1) 0 E d1) = _
  unfold lx_kx
  rw [hk]
  rfl
theorem lw_i20 (p0 : Int32) (p1 : Int32) {d d1 : ax_D} {x : Int32} (h : ax_sem ax_N 159 [ax_vR 8 0 0, Sum.inl p0, Sum.inl p1] d = some (d1, Sum.inl (some (Sum.inl x)))) : lx_wor 20 [ax_vR 8 0 0, Sum.inl p0, Sum.inl p1, ax_vR 10 0 1] d = some ((d1.1, d1.2.1, x.toInt64, d1.2.2.2), 0, 0) := by
  show lx_wfin (ax_callI (ax_sem ax_N 159 [ax_vR 8 0 0, Sum.inl p0, Sum.inl p1] d) _ _) = _
  rw [h]
  rfl
theorem lw_x20 (p0 : Int32) (p1 : Int32) {d d1 : ax_D} {E : Nat} {k : Int32} (hk : lx_hdF (lx_whs 20) 1 E = some k) (h : ax_sem ax_N 159 [ax_vR 8 0 0, Sum.inl p0, Sum.inl p1] d = some (d1, Sum.inr E)) : lx_wor 20 [ax_vR 8 0 0, Sum.inl p0, Sum.inl p1, ax_vR 10 0 1] d = some (d1, 1, k) := by
  show lx_wfin (ax_callI (ax_sem ax_N 159 [ax_vR 8 0 0, Sum.inl p0, Sum.inl p1] d) _ _) = _
  rw [h]
  show lx_wfin (lx_kx (lx_hdF (lx_whs 20) 1) 0 E d1) = _
  unfold lx_kx
  rw [hk]
  rfl
theorem lw_i21 (p0 : Int32) (p1 : Int32) {d d1 : ax_D} {x : Int32} (h : ax_sem ax_N 125 [ax_vR 8 0 0, Sum.inl p0, Sum.inl p1] d = some (d1, Sum.inl (some (Sum.inl x)))) : lx_wor 21 [ax_vR 8 0 0, Sum.inl p0, Sum.inl p1, ax_vR 10 0 1] d = some ((d1.1, d1.2.1, x.toInt64, d1.2.2.2), 0, 0) := by
  show lx_wfin (ax_callI (ax_sem ax_N 125 [ax_vR 8 0 0, Sum.inl p0, Sum.inl p1] d) _ _) = _
  rw [h]
  rfl
theorem lw_x21 (p0 : Int32) (p1 : Int32) {d d1 : ax_D} {E : Nat} {k : Int32} (hk : lx_hdF (lx_whs 21) 1 E = some k) (h : ax_sem ax_N 125 [ax_vR 8 0 0, Sum.inl p0, Sum.inl p1] d = some (d1, Sum.inr E)) : lx_wor 21 [ax_vR 8 0 0, Sum.inl p0, Sum.inl p1, ax_vR 10 0 1] d = some (d1, 1, k) := by
  show lx_wfin (ax_callI (ax_sem ax_N 125 [ax_vR 8 0 0, Sum.inl p0, Sum.inl p1] d) _ _) = _
  rw [h]
  show lx_wfin (lx_kx (lx_hdF (lx_whs 21) 1) 0 E d1) = _
  unfold lx_kx
  rw [hk]
  rfl
theorem lw_i22 (p0 : Int32) (p1 : Int32) {d d1 : ax_D} {x : Int32} (h : ax_sem ax_N 123 [ax_vR 8 0 0, Sum.inl p0, Sum.inl p1] d = some (d1, Sum.inl (some (Sum.inl x)))) : lx_wor 22 [ax_vR 8 0 0, Sum.inl p0, Sum.inl p1, ax_vR 10 0 1] d = some ((d1.1, d1.2.1, x.toInt64, d1.2.2.2), 0, 0) := by
  show lx_wfin (ax_callI (ax_sem ax_N 123 [ax_vR 8 0 0, Sum.inl p0, Sum.inl p1] d) _ _) = _
  rw [h]
  rfl
theorem lw_x22 (p0 : Int32) (p1 : Int32) {d d1 : ax_D} {E : Nat} {k : Int32} (hk : lx_hdF (lx_whs 22) 1 E = some k) (h : ax_sem ax_N 123 [ax_vR 8 0 0, Sum.inl p0, Sum.inl p1] d = some (d1, Sum.inr E)) : lx_wor 22 [ax_vR 8 0 0, Sum.inl p0, Sum.inl p1, ax_vR 10 0 1] d = some (d1, 1, k) := by
  show lx_wfin (ax_callI (ax_sem ax_N 123 [ax_vR 8 0 0, Sum.inl p0, Sum.inl p1] d) _ _) = _
  rw [h]
  show lx_wfin (lx_kx (lx_hdF (lx_whs 22) 1) 0 E d1) = _
  unfold lx_kx
  rw [hk]
  rfl
theorem lw_i23 (p0 : Int32) {d d1 : ax_D} {x : Int32} (h : ax_sem ax_N 128 [ax_vR 8 0 0, Sum.inl p0] d = some (d1, Sum.inl (some (Sum.inl x)))) : lx_wor 23 [ax_vR 8 0 0, Sum.inl p0, ax_vR 10 0 1] d = some ((d1.1, d1.2.1, cond (decide (x = 0)) (Int64.ofNat 0) (Int64.ofNat 1), d1.2.2.2), 0, 0) := by
  show lx_wfin (ax_callI (ax_sem ax_N 128 [ax_vR 8 0 0, Sum.inl p0] d) _ _) = _
  rw [h]
  show lx_wfin (cond (decide (x = 0)) _ _) = _
  cases decide (x = 0) <;> rfl
theorem lw_x23 (p0 : Int32) {d d1 : ax_D} {E : Nat} {k : Int32} (hk : lx_hdF (lx_whs 23) 1 E = some k) (h : ax_sem ax_N 128 [ax_vR 8 0 0, Sum.inl p0] d = some (d1, Sum.inr E)) : lx_wor 23 [ax_vR 8 0 0, Sum.inl p0, ax_vR 10 0 1] d = some (d1, 1, k) := by
  show lx_wfin (ax_callI (ax_sem ax_N 128 [ax_vR 8 0 0, Sum.inl p0] d) _ _) = _
  rw [h]
  show lx_wfin (lx_kx (lx_hdF (lx_whs 23) 1) 0 E d1) = _
  unfold lx_kx
  rw [hk]
  rfl
theorem lw_i24 (p0 : Int32) {d d1 : ax_D} {x : Int32} (h : ax_sem ax_N 133 [ax_vR 8 0 0, Sum.inl p0] d = some (d1, Sum.inl (some (Sum.inl x)))) : lx_wor 24 [ax_vR 8 0 0, Sum.inl p0, ax_vR 10 0 1] d = some ((d1.1, d1.2.1, cond (decide (x = 0)) (Int64.ofNat 0) (Int64.ofNat 1), d1.2.2.2), 0, 0) := by
  show lx_wfin (ax_callI (ax_sem ax_N 133 [ax_vR 8 0 0, Sum.inl p0] d) _ _) = _
  rw [h]
  show lx_wfin (cond (decide (x = 0)) _ _) = _
  cases decide (x = 0) <;> rfl
theorem lw_x24 (p0 : Int32) {d d1 : ax_D} {E : Nat} {k : Int32} (hk : lx_hdF (lx_whs 24) 1 E = some k) (h : ax_sem ax_N 133 [ax_vR 8 0 0, Sum.inl p0] d = some (d1, Sum.inr E)) : lx_wor 24 [ax_vR 8 0 0, Sum.inl p0, ax_vR 10 0 1] d = some (d1, 1, k) := by
  show lx_wfin (ax_callI (ax_sem ax_N 133 [ax_vR 8 0 0, Sum.inl p0] d) _ _) = _
  rw [h]
  show lx_wfin (lx_kx (lx_hdF (lx_whs 24) 1) 0 E d1) = _
  unfold lx_kx
  rw [hk]
  rfl
theorem lw_i25 (p0 : Int32) {d d1 : ax_D} {x : Int32} (h : ax_sem ax_N 129 [ax_vR 8 0 0, Sum.inl p0] d = some (d1, Sum.inl (some (Sum.inl x)))) : lx_wor 25 [ax_vR 8 0 0, Sum.inl p0, ax_vR 10 0 1] d = some ((d1.1, d1.2.1, cond (decide (x = 0)) (Int64.ofNat 0) (Int64.ofNat 1), d1.2.2.2), 0, 0) := by
  show lx_wfin (ax_callI (ax_sem ax_N 129 [ax_vR 8 0 0, Sum.inl p0] d) _ _) = _
  rw [h]
  show lx_wfin (cond (decide (x = 0)) _ _) = _
  cases decide (x = 0) <;> rfl
theorem lw_x25 (p0 : Int32) {d d1 : ax_D} {E : Nat} {k : Int32} (hk : lx_hdF (lx_whs 25) 1 E = some k) (h : ax_sem ax_N 129 [ax_vR 8 0 0, Sum.inl p0] d = some (d1, Sum.inr E)) : lx_wor 25 [ax_vR 8 0 0, Sum.inl p0, ax_vR 10 0 1] d = some (d1, 1, k) := by
  show lx_wfin (ax_callI (ax_sem ax_N 129 [ax_vR 8 0 0, Sum.inl p0] d) _ _) = _
  rw [h]
  show lx_wfin (lx_kx (lx_hdF (lx_whs 25) 1) 0 E d1) = _
  unfold lx_kx
  rw [hk]
  rfl
theorem lw_i26 (p0 : Int32) (p1 : Int32) (p2 : Int32) {d d1 : ax_D} {x : Int32} (h : ax_sem ax_N 115 [ax_vR 8 0 0, Sum.inl p0, Sum.inl p1, Sum.inl p2] d = some (d1, Sum.inl (some (Sum.inl x)))) : lx_wor 26 [ax_vR 8 0 0, Sum.inl p0, Sum.inl p1, Sum.inl p2, ax_vR 10 0 1] d = some ((d1.1, d1.2.1, x.toInt64, d1.2.2.2), 0, 0) := by
  show lx_wfin (ax_callI (ax_sem ax_N 115 [ax_vR 8 0 0, Sum.inl p0, Sum.inl p1, Sum.inl p2] d) _ _) = _
  rw [h]
  rfl
theorem lw_x26 (p0 : Int32) (p1 : Int32) (p2 : Int32) {d d1 : ax_D} {E : Nat} {k : Int32} (hk : lx_hdF (lx_whs 26) 1 E = some k) (h : ax_sem ax_N 115 [ax_vR 8 0 0, Sum.inl p0, Sum.inl p1, Sum.inl p2] d = some (d1, Sum.inr E)) : lx_wor 26 [ax_vR 8 0 0, Sum.inl p0, Sum.inl p1, Sum.inl p2, ax_vR 10 0 1] d = some (d1, 1, k) := by
  show lx_wfin (ax_callI (ax_sem ax_N 115 [ax_vR 8 0 0, Sum.inl p0, Sum.inl p1, Sum.inl p2] d) _ _) = _
  rw [h]
  show lx_wfin (lx_kx (lx_hdF (lx_whs 26) 1) 0 E d1) = _
  unfold lx_kx
  rw [hk]
  rfl
theorem lw_i27 (p0 : Int32) {d d1 : ax_D} {x : Int32} (h : ax_sem ax_N 139 [ax_vR 8 0 0, Sum.inl p0] d = some (d1, Sum.inl (some (Sum.inl x)))) : lx_wor 27 [ax_vR 8 0 0, Sum.inl p0, ax_vR 10 0 1] d = some ((d1.1, d1.2.1, x.toInt64, d1.2.2.2), 0, 0) := by
  show lx_wfin (ax_callI (ax_sem ax_N 139 [ax_vR 8 0 0, Sum.inl p0] d) _ _) = _
  rw [h]
  rfl
theorem lw_x27 (p0 : Int32) {d d1 : ax_D} {E : Nat} {k : Int32} (hk : lx_hdF (lx_whs 27) 1 E = some k) (h : ax_sem ax_N 139 [ax_vR 8 0 0, Sum.inl p0] d = some (d1, Sum.inr E)) : lx_wor 27 [ax_vR 8 0 0, Sum.inl p0, ax_vR 10 0 1] d = some (d1, 1, k) := by
  show lx_wfin (ax_callI (ax_sem ax_N 139 [ax_vR 8 0 0, Sum.inl p0] d) _ _) = _
  rw [h]
  show lx_wfin (lx_kx (lx_hdF (lx_whs 27) 1) 0 E d1) = _
  unfold lx_kx
  rw [hk]
  rfl
theorem lw_i28 (p0 : Int32) (p1 : Int32) {d d1 : ax_D} {x : Int32} (h : ax_sem ax_N 122 [ax_vR 8 0 0, Sum.inl p0, Sum.inl p1] d = some (d1, Sum.inl (some (Sum.inl x)))) : lx_wor 28 [ax_vR 8 0 0, Sum.inl p0, Sum.inl p1, ax_vR 10 0 1] d = some ((d1.1, d1.2.1, x.toInt64, d1.2.2.2), 0, 0) := by
  show lx_wfin (ax_callI (ax_sem ax_N 122 [ax_vR 8 0 0, Sum.inl p0, Sum.inl p1] d) _ _) = _
  rw [h]
  rfl
theorem lw_x28 (p0 : Int32) (p1 : Int32) {d d1 : ax_D} {E : Nat} {k : Int32} (hk : lx_hdF (lx_whs 28) 1 E = some k) (h : ax_sem ax_N 122 [ax_vR 8 0 0, Sum.inl p0, Sum.inl p1] d = some (d1, Sum.inr E)) : lx_wor 28 [ax_vR 8 0 0, Sum.inl p0, Sum.inl p1, ax_vR 10 0 1] d = some (d1, 1, k) := by
  show lx_wfin (ax_callI (ax_sem ax_N 122 [ax_vR 8 0 0, Sum.inl p0, Sum.inl p1] d) _ _) = _
  rw [h]
  show lx_wfin (lx_kx (lx_hdF (lx_whs 28) 1) 0 E d1) = _
  unfold lx_kx
  rw [hk]
  rfl
theorem lw_i29 (p0 : Int32) {d d1 : ax_D} {x : Int32} (h : ax_sem ax_N 162 [ax_vR 8 0 0, Sum.inl p0] d = some (d1, Sum.inl (some (Sum.inl x)))) : lx_wor 29 [ax_vR 8 0 0, Sum.inl p0, ax_vR 10 0 1] d = some ((d1.1, d1.2.1, x.toInt64, d1.2.2.2), 0, 0) := by
  show lx_wfin (ax_callI (ax_sem ax_N 162 [ax_vR 8 0 0, Sum.inl p0] d) _ _) = _
  rw [h]
  rfl
theorem lw_x29 (p0 : Int32) {d d1 : ax_D} {E : Nat} {k : Int32} (hk : lx_hdF (lx_whs 29) 1 E = some k) (h : ax_sem ax_N 162 [ax_vR 8 0 0, Sum.inl p0] d = some (d1, Sum.inr E)) : lx_wor 29 [ax_vR 8 0 0, Sum.inl p0, ax_vR 10 0 1] d = some (d1, 1, k) := by
  show lx_wfin (ax_callI (ax_sem ax_N 162 [ax_vR 8 0 0, Sum.inl p0] d) _ _) = _
  rw [h]
  show lx_wfin (lx_kx (lx_hdF (lx_whs 29) 1) 0 E d1) = _
  unfold lx_kx
  rw [hk]
  rfl
theorem lw_i30  {d d1 : ax_D} {x : UInt32} (hx : decide (FP.f2d x &&& 0x7fffffffffffffff ≤ 0x7ff0000000000000) = true) (h : ax_sem ax_N 135 [ax_vR 8 0 0] d = some (d1, Sum.inl (some (Sum.inr (Sum.inr (Sum.inl x)))))) : lx_wor 30 [ax_vR 8 0 0, ax_vR 11 0 1] d = some ((d1.1, d1.2.1, d1.2.2.1, FP.f2d x), 0, 0) := by
  show lx_wfin (ax_callF (ax_sem ax_N 135 [ax_vR 8 0 0] d) _ _) = _
  rw [h]
  show lx_wfin (cond (decide (FP.f2d x &&& 0x7fffffffffffffff ≤ 0x7ff0000000000000)) _ none) = _
  rw [hx]
  rfl
theorem lw_x30  {d d1 : ax_D} {E : Nat} {k : Int32} (hk : lx_hdF (lx_whs 30) 1 E = some k) (h : ax_sem ax_N 135 [ax_vR 8 0 0] d = some (d1, Sum.inr E)) : lx_wor 30 [ax_vR 8 0 0, ax_vR 11 0 1] d = some (d1, 1, k) := by
  show lx_wfin (ax_callF (ax_sem ax_N 135 [ax_vR 8 0 0] d) _ _) = _
  rw [h]
  show lx_wfin (lx_kx (lx_hdF (lx_whs 30) 1) 0 E d1) = _
  unfold lx_kx
  rw [hk]
  rfl
theorem lw_i31  {d d1 : ax_D} {x : UInt64} (h : ax_sem ax_N 138 [ax_vR 8 0 0] d = some (d1, Sum.inl (some (Sum.inr (Sum.inr (Sum.inr (Sum.inl x))))))) : lx_wor 31 [ax_vR 8 0 0, ax_vR 11 0 1] d = some ((d1.1, d1.2.1, d1.2.2.1, x), 0, 0) := by
  show lx_wfin (ax_callD (ax_sem ax_N 138 [ax_vR 8 0 0] d) _ _) = _
  rw [h]
  rfl
theorem lw_x31  {d d1 : ax_D} {E : Nat} {k : Int32} (hk : lx_hdF (lx_whs 31) 1 E = some k) (h : ax_sem ax_N 138 [ax_vR 8 0 0] d = some (d1, Sum.inr E)) : lx_wor 31 [ax_vR 8 0 0, ax_vR 11 0 1] d = some (d1, 1, k) := by
  show lx_wfin (ax_callD (ax_sem ax_N 138 [ax_vR 8 0 0] d) _ _) = _
  rw [h]
  show lx_wfin (lx_kx (lx_hdF (lx_whs 31) 1) 0 E d1) = _
  unfold lx_kx
  rw [hk]
  rfl
theorem lw_i32 (p0 : Int32) (p1 : Int32) {d d1 : ax_D} {x : Int32} (h : ax_sem ax_N 119 [ax_vR 8 0 0, Sum.inl p0, Sum.inl p1] d = some (d1, Sum.inl (some (Sum.inl x)))) : lx_wor 32 [ax_vR 8 0 0, Sum.inl p0, Sum.inl p1, ax_vR 10 0 1] d = some ((d1.1, d1.2.1, x.toInt64, d1.2.2.2), 0, 0) := by
  show lx_wfin (ax_callI (ax_sem ax_N 119 [ax_vR 8 0 0, Sum.inl p0, Sum.inl p1] d) _ _) = _
  rw [h]
  rfl
theorem lw_x32 (p0 : Int32) (p1 : Int32) {d d1 : ax_D} {E : Nat} {k : Int32} (hk : lx_hdF (lx_whs 32) 1 E = some k) (h : ax_sem ax_N 119 [ax_vR 8 0 0, Sum.inl p0, Sum.inl p1] d = some (d1, Sum.inr E)) : lx_wor 32 [ax_vR 8 0 0, Sum.inl p0, Sum.inl p1, ax_vR 10 0 1] d = some (d1, 1, k) := by
  show lx_wfin (ax_callI (ax_sem ax_N 119 [ax_vR 8 0 0, Sum.inl p0, Sum.inl p1] d) _ _) = _
  rw [h]
  show lx_wfin (lx_kx (lx_hdF (lx_whs 32) 1) 0 E d1) = _
  unfold lx_kx
  rw [hk]
  rfl
theorem lw_i33 (p0 : Int32) {d d1 : ax_D} {x : Int32} (h : ax_sem ax_N 124 [ax_vR 8 0 0, Sum.inl p0] d = some (d1, Sum.inl (some (Sum.inl x)))) : lx_wor 33 [ax_vR 8 0 0, Sum.inl p0, ax_vR 10 0 1] d = some ((d1.1, d1.2.1, x.toInt64, d1.2.2.2), 0, 0) := by
  show lx_wfin (ax_callI (ax_sem ax_N 124 [ax_vR 8 0 0, Sum.inl p0] d) _ _) = _
  rw [h]
  rfl
theorem lw_x33 (p0 : Int32) {d d1 : ax_D} {E : Nat} {k : Int32} (hk : lx_hdF (lx_whs 33) 1 E = some k) (h : ax_sem ax_N 124 [ax_vR 8 0 0, Sum.inl p0] d = some (d1, Sum.inr E)) : lx_wor 33 [ax_vR 8 0 0, Sum.inl p0, ax_vR 10 0 1] d = some (d1, 1, k) := by
  show lx_wfin (ax_callI (ax_sem ax_N 124 [ax_vR 8 0 0, Sum.inl p0] d) _ _) = _
  rw [h]
  show lx_wfin (lx_kx (lx_hdF (lx_whs 33) 1) 0 E d1) = _
  unfold lx_kx
  rw [hk]
  rfl
theorem lw_i34 (p0 : Int32) (p1 : Int32) {d d1 : ax_D} {x : Int32} (h : ax_sem ax_N 140 [ax_vR 8 0 0, Sum.inl p0, Sum.inl p1] d = some (d1, Sum.inl (some (Sum.inl x)))) : lx_wor 34 [ax_vR 8 0 0, Sum.inl p0, Sum.inl p1, ax_vR 10 0 1] d = some ((d1.1, d1.2.1, x.toInt64, d1.2.2.2), 0, 0) := by
  show lx_wfin (ax_callI (ax_sem ax_N 140 [ax_vR 8 0 0, Sum.inl p0, Sum.inl p1] d) _ _) = _
  rw [h]
  rfl
theorem lw_x34 (p0 : Int32) (p1 : Int32) {d d1 : ax_D} {E : Nat} {k : Int32} (hk : lx_hdF (lx_whs 34) 1 E = some k) (h : ax_sem ax_N 140 [ax_vR 8 0 0, Sum.inl p0, Sum.inl p1] d = some (d1, Sum.inr E)) : lx_wor 34 [ax_vR 8 0 0, Sum.inl p0, Sum.inl p1, ax_vR 10 0 1] d = some (d1, 1, k) := by
  show lx_wfin (ax_callI (ax_sem ax_N 140 [ax_vR 8 0 0, Sum.inl p0, Sum.inl p1] d) _ _) = _
  rw [h]
  show lx_wfin (lx_kx (lx_hdF (lx_whs 34) 1) 0 E d1) = _
  unfold lx_kx
  rw [hk]
  rfl
theorem lw_i35 (p0 : Int32) (p1 : Int32) {d d1 : ax_D} {x : Int32} (h : ax_sem ax_N 134 [ax_vR 8 0 0, Sum.inl p0, Sum.inl p1] d = some (d1, Sum.inl (some (Sum.inl x)))) : lx_wor 35 [ax_vR 8 0 0, Sum.inl p0, Sum.inl p1, ax_vR 10 0 1] d = some ((d1.1, d1.2.1, x.toInt64, d1.2.2.2), 0, 0) := by
  show lx_wfin (ax_callI (ax_sem ax_N 134 [ax_vR 8 0 0, Sum.inl p0, Sum.inl p1] d) _ _) = _
  rw [h]
  rfl
theorem lw_x35 (p0 : Int32) (p1 : Int32) {d d1 : ax_D} {E : Nat} {k : Int32} (hk : lx_hdF (lx_whs 35) 1 E = some k) (h : ax_sem ax_N 134 [ax_vR 8 0 0, Sum.inl p0, Sum.inl p1] d = some (d1, Sum.inr E)) : lx_wor 35 [ax_vR 8 0 0, Sum.inl p0, Sum.inl p1, ax_vR 10 0 1] d = some (d1, 1, k) := by
  show lx_wfin (ax_callI (ax_sem ax_N 134 [ax_vR 8 0 0, Sum.inl p0, Sum.inl p1] d) _ _) = _
  rw [h]
  show lx_wfin (lx_kx (lx_hdF (lx_whs 35) 1) 0 E d1) = _
  unfold lx_kx
  rw [hk]
  rfl
theorem lw_i36 (p0 : Int32) {d d1 : ax_D} {x : Int32} (h : ax_sem ax_N 117 [ax_vR 8 0 0, Sum.inl p0] d = some (d1, Sum.inl (some (Sum.inl x)))) : lx_wor 36 [ax_vR 8 0 0, Sum.inl p0, ax_vR 10 0 1] d = some ((d1.1, d1.2.1, x.toInt64, d1.2.2.2), 0, 0) := by
  show lx_wfin (ax_callI (ax_sem ax_N 117 [ax_vR 8 0 0, Sum.inl p0] d) _ _) = _
  rw [h]
  rfl
theorem lw_x36 (p0 : Int32) {d d1 : ax_D} {E : Nat} {k : Int32} (hk : lx_hdF (lx_whs 36) 1 E = some k) (h : ax_sem ax_N 117 [ax_vR 8 0 0, Sum.inl p0] d = some (d1, Sum.inr E)) : lx_wor 36 [ax_vR 8 0 0, Sum.inl p0, ax_vR 10 0 1] d = some (d1, 1, k) := by
  show lx_wfin (ax_callI (ax_sem ax_N 117 [ax_vR 8 0 0, Sum.inl p0] d) _ _) = _
  rw [h]
  show lx_wfin (lx_kx (lx_hdF (lx_whs 36) 1) 0 E d1) = _
  unfold lx_kx
  rw [hk]
  rfl
theorem lw_i38  {d d1 : ax_D} {x : Int32} (h : ax_sem ax_N 146 [ax_vR 8 0 0] d = some (d1, Sum.inl (some (Sum.inl x)))) : lx_wor 38 [ax_vR 8 0 0, ax_vR 10 0 1] d = some ((d1.1, d1.2.1, x.toInt64, d1.2.2.2), 0, 0) := by
  show lx_wfin (ax_callI (ax_sem ax_N 146 [ax_vR 8 0 0] d) _ _) = _
  rw [h]
  rfl
theorem lw_x38  {d d1 : ax_D} {E : Nat} {k : Int32} (hk : lx_hdF (lx_whs 38) 1 E = some k) (h : ax_sem ax_N 146 [ax_vR 8 0 0] d = some (d1, Sum.inr E)) : lx_wor 38 [ax_vR 8 0 0, ax_vR 10 0 1] d = some (d1, 1, k) := by
  show lx_wfin (ax_callI (ax_sem ax_N 146 [ax_vR 8 0 0] d) _ _) = _
  rw [h]
  show lx_wfin (lx_kx (lx_hdF (lx_whs 38) 1) 0 E d1) = _
  unfold lx_kx
  rw [hk]
  rfl
