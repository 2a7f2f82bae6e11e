theorem ax_sys : Cond.native arraycopyName ∈ ax_gw ∧ Cond.static arraycopyName ∈ ax_gw ∧ Cond.initialized "java/lang/System" ∈ ax_gw ∧ Cond.static Lib.Math.max.name ∈ ax_gw ∧ Cond.initialized "java/lang/Math" ∈ ax_gw ∧ Cond.code Lib.Math.max.name Lib.Math.max.code 2 (some .int) ∈ ax_gw := ⟨ax_at (i := 474) (by decide +kernel), ax_at (i := 473) (by decide +kernel), ax_at (i := 121) (by decide +kernel), ax_at (i := 1002) (by decide +kernel), ax_at (i := 126) (by decide +kernel), ax_at (i := 1003) (by decide +kernel)⟩
theorem ax_csts : ∀ q ∈ ax_cst, Cond.constant q.1 q.2.1 q.2.2 ∈ ax_gw := by
  intro q hq
  simp only [ax_cst, List.mem_cons, List.not_mem_nil, or_false] at hq
  rcases hq with rfl | rfl | rfl
  · exact ax_at (i := 1409) (by decide +kernel)
  · exact ax_at (i := 1410) (by decide +kernel)
  · exact ax_at (i := 1411) (by decide +kernel)
theorem ax_gwT (L : List Cond) (h : L.all (fun w => decide (w ∈ lw_tbl)) = true) (hg : L.all goodWord = true) : ∀ w ∈ L, w ∈ ax_gw := fun w hw => ax_gw_mem (of_decide_eq_true (List.all_eq_true.mp h w hw)) (List.all_eq_true.mp hg w hw)
theorem ax_fg (L : List Cond) : (L.filter goodWord).all goodWord = true := by
  rw [List.all_eq_true]
  intro w hw
  exact (List.mem_filter.mp hw).2
theorem ax_th0 : ax_Th ax_nest "AdventureWorld" 103 107 1 := ⟨ax_at (i := 643) (by decide +kernel), ax_at (i := 119) (by decide +kernel), by decide +kernel, Or.inl ⟨ax_gwT _ (by decide +kernel) (ax_fg _), by decide +kernel, by decide +kernel⟩⟩
theorem ax_th1 : ax_Th ax_nest "AdventureWorld" 90 94 2 := ⟨ax_at (i := 625) (by decide +kernel), ax_at (i := 116) (by decide +kernel), by decide +kernel, Or.inl ⟨ax_gwT _ (by decide +kernel) (ax_fg _), by decide +kernel, by decide +kernel⟩⟩
theorem ax_th2 : ax_Th ax_nest "AdventureWorld" 76 80 0 := ⟨ax_at (i := 497) (by decide +kernel), ax_at (i := 115) (by decide +kernel), by decide +kernel, Or.inl ⟨ax_gwT _ (by decide +kernel) (ax_fg _), by decide +kernel, by decide +kernel⟩⟩
theorem ax_th3 : ax_Th ax_nest "AdventureWorld" 142 146 3 := ⟨ax_at (i := 704) (by decide +kernel), ax_at (i := 120) (by decide +kernel), by decide +kernel, Or.inl ⟨ax_gwT _ (by decide +kernel) (ax_fg _), by decide +kernel, by decide +kernel⟩⟩
theorem ax_th4 : ax_Th ax_nest "AdventureWorld" 377 381 4 := ⟨ax_at (i := 1351) (by decide +kernel), ax_at (i := 128) (by decide +kernel), by decide +kernel, Or.inr ⟨13, prog_34_method_4_code, ⟨by decide +kernel, by decide +kernel, by decide +kernel, by decide +kernel⟩, ax_gwT _ (by decide +kernel) (ax_fg _), by decide +kernel, by decide +kernel⟩⟩
theorem ax_th5 : ax_Th ax_nest "AdventureWorld" 385 389 5 := ⟨ax_at (i := 1468) (by decide +kernel), ax_at (i := 130) (by decide +kernel), by decide +kernel, Or.inl ⟨ax_gwT _ (by decide +kernel) (ax_fg _), by decide +kernel, by decide +kernel⟩⟩
theorem ax_ths : ∀ q ∈ ax_thl, ax_Th ax_nest q.1 q.2.1 q.2.2.1 q.2.2.2 := by
  intro q hq
  simp only [ax_thl, List.mem_cons, List.not_mem_nil, or_false] at hq
  rcases hq with rfl | rfl | rfl | rfl | rfl | rfl
  · exact ax_th0
  · exact ax_th1
  · exact ax_th2
  · exact ax_th3
  · exact ax_th4
  · exact ax_th5
theorem ax_stab : ax_stable ax_nest := by
  intro w hw
  simp only [ax_nest, List.mem_cons, List.not_mem_nil, or_false] at hw
  rcases hw with rfl | rfl | rfl | rfl | rfl | rfl | rfl | rfl | rfl | rfl | rfl | rfl | rfl | rfl | rfl | rfl | rfl | rfl | rfl | rfl
  · exact ⟨rfl, fun s U hW h => va_Nw.warmM hW h⟩
  · exact ⟨rfl, fun s U hW h => va_Nw.warmM hW h⟩
  · exact ⟨rfl, fun s U hW h => va_Nw.warmM hW h⟩
  · exact ⟨rfl, fun s U hW h => va_Nw.warmM hW h⟩
  · exact ⟨rfl, fun s U hW h => va_Nw.warmM hW h⟩
  · exact ⟨rfl, fun s U hW h => va_Nw.warmM hW h⟩
  · exact ⟨rfl, fun s U hW h => va_Nw.warmM hW h⟩
  · exact ⟨rfl, fun s U hW h => va_Nw.warmM hW h⟩
  · exact ⟨rfl, fun s U hW h => va_Nw.warmM hW h⟩
  · exact ⟨rfl, fun s U hW h => va_Nw.warmM hW h⟩
  · exact ⟨rfl, fun s U hW h => va_Nw.warmM hW h⟩
  · exact ⟨rfl, fun s U hW h => va_Nw.warmC hW h⟩
  · exact ⟨rfl, fun s U hW h => va_Nw.warmC hW h⟩
  · exact ⟨rfl, fun s U hW h => va_Nw.warmC hW h⟩
  · exact ⟨rfl, fun s U hW h => va_Nw.warmC hW h⟩
  · exact ⟨rfl, fun s U hW h => va_Nw.warmC hW h⟩
  · exact ⟨rfl, fun s U hW h => va_Nw.warmC hW h⟩
  · exact ⟨rfl, fun s U hW h => va_Nw.warmD hW h⟩
  · exact ⟨rfl, fun s U hW h => va_Nw.warmD hW h⟩
  · exact ⟨rfl, fun s U hW h => va_Nw.warmD hW h⟩
