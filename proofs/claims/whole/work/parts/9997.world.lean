/-! THE FIRST WORLD'S CELLS, AND WHAT IS KNOWN OF THE CLASSES -/
section SK
variable {args : Array Value} {s : State}
theorem st_cl (hts : ∀ w ∈ lw_tbl, w.before args s = true) {C : String} {T : u_T} {N i : Nat} {n : Nat} (h1 : (u_ws C T N).all (fun w => decide (w ∈ lw_tbl)) = true) (h2 : lw_tbl[i]? = some (.instantiable C n)) : ∃ p : ClassId × (Nat → Nat), u_Kn s C T N p.1 p.2 := by
  obtain ⟨a, b, h⟩ := u_known (ws := lw_tbl) hts (fun w hw => of_decide_eq_true (List.all_eq_true.mp h1 w hw)) (hts _ (List.mem_of_getElem? h2))
  exact ⟨(a, b), h⟩
theorem st_cls (hts : ∀ w ∈ lw_tbl, w.before args s = true) : ∀ c : Nat, ∃ p : ClassId × (Nat → Nat), ∀ q : vw_C, vwCl[c]? = some q → u_Kn s q.1 q.2.1 q.2.2 p.1 p.2 := by
  intro c
  match c with
  | 0 =>
    obtain ⟨p, h⟩ := st_cl (C := RJ0) (T := TJ0) (N := 2) hts (by decide +kernel) (show lw_tbl[610]? = some (.instantiable "java/lang/String" 4) from by decide +kernel)
    exact ⟨p, fun q hq => by cases hq; exact h⟩
  | 1 =>
    obtain ⟨p, h⟩ := st_cl (C := RJx00060) (T := TJx00060) (N := 6) hts (by decide +kernel) (show lw_tbl[592]? = some (.instantiable "java/lang/ArrayIndexOutOfBoundsException" 6) from by decide +kernel)
    exact ⟨p, fun q hq => by cases hq; exact h⟩
  | 2 =>
    obtain ⟨p, h⟩ := st_cl (C := RX0) (T := TX0) (N := 6) hts (by decide +kernel) (show lw_tbl[367]? = some (.instantiable "AdventureWorld$Actor" 6) from by decide +kernel)
    exact ⟨p, fun q hq => by cases hq; exact h⟩
  | 3 =>
    obtain ⟨p, h⟩ := st_cl (C := RX1) (T := TX1) (N := 2) hts (by decide +kernel) (show lw_tbl[386]? = some (.instantiable "AdventureWorld$Clockwork" 2) from by decide +kernel)
    exact ⟨p, fun q hq => by cases hq; exact h⟩
  | 4 =>
    obtain ⟨p, h⟩ := st_cl (C := RX3) (T := TX3) (N := 3) hts (by decide +kernel) (show lw_tbl[314]? = some (.instantiable "AdventureWorld$Past" 3) from by decide +kernel)
    exact ⟨p, fun q hq => by cases hq; exact h⟩
  | 5 =>
    obtain ⟨p, h⟩ := st_cl (C := RX4) (T := TX4) (N := 17) hts (by decide +kernel) (show lw_tbl[140]? = some (.instantiable "AdventureWorld$Plan" 17) from by decide +kernel)
    exact ⟨p, fun q hq => by cases hq; exact h⟩
  | 6 =>
    obtain ⟨p, h⟩ := st_cl (C := RX5) (T := TX5) (N := 7) hts (by decide +kernel) (show lw_tbl[334]? = some (.instantiable "AdventureWorld$Reader" 7) from by decide +kernel)
    exact ⟨p, fun q hq => by cases hq; exact h⟩
  | 7 =>
    obtain ⟨p, h⟩ := st_cl (C := RX6) (T := TX6) (N := 2) hts (by decide +kernel) (show lw_tbl[373]? = some (.instantiable "AdventureWorld$Sight" 2) from by decide +kernel)
    exact ⟨p, fun q hq => by cases hq; exact h⟩
  | 8 =>
    obtain ⟨p, h⟩ := st_cl (C := RX7) (T := TX7) (N := 4) hts (by decide +kernel) (show lw_tbl[291]? = some (.instantiable "AdventureWorld$Story" 4) from by decide +kernel)
    exact ⟨p, fun q hq => by cases hq; exact h⟩
  | 9 =>
    obtain ⟨p, h⟩ := st_cl (C := RX9) (T := TX9) (N := 12) hts (by decide +kernel) (show lw_tbl[223]? = some (.instantiable "AdventureWorld$World" 12) from by decide +kernel)
    exact ⟨p, fun q hq => by cases hq; exact h⟩
  | 10 =>
    obtain ⟨p, h⟩ := st_cl (C := RX10) (T := TX10) (N := 11) hts (by decide +kernel) (show lw_tbl[132]? = some (.instantiable "AdventureWorld" 11) from by decide +kernel)
    exact ⟨p, fun q hq => by cases hq; exact h⟩
  | 11 =>
    obtain ⟨p, h⟩ := st_cl (C := RX11) (T := TX11) (N := 30) hts (by decide +kernel) (show lw_tbl[1539]? = some (.instantiable "AdventureWorldModel" 30) from by decide +kernel)
    exact ⟨p, fun q hq => by cases hq; exact h⟩
  | n + 12 => exact ⟨(0, fun _ => 0), fun q hq => by simp at hq⟩
theorem st_ac (hts : ∀ w ∈ lw_tbl, w.before args s = true) {ty : FieldType} {i : Nat} (h : lw_tbl[i]? = some (.arrayClass ty)) : ∃ cA, ArrOfT s cA ty ∧ s.vm.findClass ("[" ++ ty.toString) = some cA := by
  obtain ⟨cA, kA, comp, h1, h2, h3⟩ := Cond.arrayClass_spec (hts _ (List.mem_of_getElem? h))
  exact ⟨cA, fun n z => ⟨fun k h => (by cases h), kA, h2, comp, h3⟩, h1⟩
theorem st_ao (hts : ∀ w ∈ lw_tbl, w.before args s = true) : va_AO RX9 s := va_AO.of (hts _ (List.mem_of_getElem? (i := 320) (by decide +kernel)))
theorem st_K (hts : ∀ w ∈ lw_tbl, w.before args s = true) : ∃ (D : va_G) (ar : Nat → ClassId), va_K D vwCl (kT ar) s := by
  obtain ⟨D, hD⟩ := Classical.axiomOfChoice (st_cls hts)
  obtain ⟨aI, i1, i2⟩ := st_ac hts (show lw_tbl[221]? = some (.arrayClass .int) from by decide +kernel)
  obtain ⟨aC, c1, c2⟩ := st_ac hts (show lw_tbl[365]? = some (.arrayClass .char) from by decide +kernel)
  obtain ⟨aJ, j1, j2⟩ := st_ac hts (show lw_tbl[2100]? = some (.arrayClass .long) from by decide +kernel)
  obtain ⟨aD, d1, d2⟩ := st_ac hts (show lw_tbl[2101]? = some (.arrayClass .double) from by decide +kernel)
  obtain ⟨comp, aW, kW, w1, w2, w3, w4, w5⟩ := Cond.arrayOver_spec (st_ao hts)
  refine ⟨(fun c => (D c).1, fun c => (D c).2), fun n => [aI, aC, aW, aJ, aD].getD n 0, fun c q hq => hD c q hq, fun k q hq => ?_⟩
  match k, hq with
  | 0, hq => cases hq; exact ⟨i1, i2⟩
  | 1, hq => cases hq; exact ⟨c1, c2⟩
  | 2, hq => cases hq; exact ⟨fun n z => ⟨fun k h => (by cases h), kW, w3, comp, w4⟩, kW, comp, w3, w4, w1, w5⟩
  | 3, hq => cases hq; exact ⟨j1, j2⟩
  | 4, hq => cases hq; exact ⟨d1, d2⟩
  | n + 5, hq => simp at hq
end SK
theorem st_X {args : Array Value} {s : State} (hts : ∀ w ∈ lw_tbl, w.before args s = true) : kX s := ⟨st_ao hts, va_Nw.of (A := args) rfl (hts _ (List.mem_of_getElem? (i := 141) (by decide +kernel))), va_Nw.of (A := args) rfl (hts _ (List.mem_of_getElem? (i := 335) (by decide +kernel)))⟩
/-- where each key lies -/
def lwad (b qJ qD q1 q2 : Nat) (v : Nat → Nat) (g : Nat → Nat → Nat) (P1 : Nat → Nat) (P2 : Nat → Nat → Nat) (u2 adK adV : Nat → Nat) (k i j : Nat) : Nat := match k with
  | 0 => v (6 + i)
  | 1 => g (6 + i) 1
  | 2 => cond (Nat.beq j 0) (v 4) (P1 0)
  | 3 => cond (Nat.beq j 0) (v i) (g i j)
  | 4 => cond (Nat.beq j 0) (v 5) (g 5 j)
  | 5 => g (6 + i) 0
  | 6 => cond (Nat.beq j 0) (v (2 + i)) (g (2 + i) 4)
  | 7 => cond (Nat.blt i 4 || Nat.beq i 15) (cond (Nat.beq j 0) (v (10 + i)) (g (10 + i) j)) (cond (Nat.beq j 0) (P1 (i - 3)) (P2 (i - 4) j))
  | 8 => q1
  | 9 => cond (Nat.beq j 0) q2 (u2 j)
  | 10 => qJ
  | 11 => qD
  | 12 => b
  | _ => cond (Nat.beq j 0) (adK i) (adV i)
def kyA : List (Nat × Nat × Nat) := [(11, 0, 1), (10, 0, 1), (9, 0, 0), (9, 0, 30), (9, 0, 29), (9, 0, 25), (9, 0, 24), (9, 0, 23), (9, 0, 22), (9, 0, 21), (9, 0, 10), (9, 0, 7), (9, 0, 6), (9, 0, 5), (9, 0, 4), (9, 0, 3), (9, 0, 2), (8, 0, 0), (0, 1, 0), (1, 1, 0), (5, 1, 0), (7, 15, 0), (7, 15, 9), (7, 15, 8), (7, 15, 7), (7, 15, 6), (7, 15, 5), (7, 15, 4), (7, 15, 3), (7, 15, 2), (0, 0, 0), (1, 0, 0), (5, 0, 0), (4, 0, 0), (4, 0, 3), (4, 0, 1), (2, 0, 0)]
def kyB : List (Nat × Nat × Nat) := [(7, 14, 0), (7, 14, 9), (7, 14, 8), (7, 14, 7), (7, 14, 6), (7, 14, 5), (7, 14, 4), (7, 14, 3), (7, 14, 2), (7, 13, 0), (7, 13, 9), (7, 13, 8), (7, 13, 7), (7, 13, 6), (7, 13, 5), (7, 13, 4), (7, 13, 3), (7, 13, 2), (7, 12, 0), (7, 12, 9), (7, 12, 8), (7, 12, 7), (7, 12, 6), (7, 12, 5), (7, 12, 4), (7, 12, 3), (7, 12, 2), (7, 11, 0), (7, 11, 9), (7, 11, 8), (7, 11, 7), (7, 11, 6), (7, 11, 5), (7, 11, 4), (7, 11, 3), (7, 11, 2), (7, 10, 0), (7, 10, 9), (7, 10, 8), (7, 10, 7), (7, 10, 6), (7, 10, 5), (7, 10, 4), (7, 10, 3), (7, 10, 2), (7, 9, 0), (7, 9, 9), (7, 9, 8), (7, 9, 7), (7, 9, 6), (7, 9, 5), (7, 9, 4), (7, 9, 3), (7, 9, 2), (7, 8, 0), (7, 8, 9), (7, 8, 8), (7, 8, 7), (7, 8, 6), (7, 8, 5), (7, 8, 4), (7, 8, 3), (7, 8, 2), (7, 7, 0), (7, 7, 9), (7, 7, 8), (7, 7, 7), (7, 7, 6), (7, 7, 5), (7, 7, 4), (7, 7, 3), (7, 7, 2), (7, 6, 0), (7, 6, 9), (7, 6, 8), (7, 6, 7), (7, 6, 6), (7, 6, 5), (7, 6, 4), (7, 6, 3), (7, 6, 2), (7, 5, 0), (7, 5, 9), (7, 5, 8), (7, 5, 7), (7, 5, 6), (7, 5, 5), (7, 5, 4), (7, 5, 3), (7, 5, 2), (7, 4, 0), (7, 4, 9), (7, 4, 8), (7, 4, 7), (7, 4, 6), (7, 4, 5), (7, 4, 4), (7, 4, 3), (7, 4, 2), (6, 1, 0), (6, 1, 4), (7, 3, 0), (7, 3, 9), (7, 3, 8), (7, 3, 7), (7, 3, 6), (7, 3, 5), (7, 3, 4), (7, 3, 3), (7, 3, 2), (7, 2, 0), (7, 2, 9), (7, 2, 8), (7, 2, 7), (7, 2, 6), (7, 2, 5), (7, 2, 4), (7, 2, 3), (7, 2, 2), (6, 0, 0), (6, 0, 4), (7, 1, 0), (7, 1, 9), (7, 1, 8), (7, 1, 7), (7, 1, 6), (7, 1, 5), (7, 1, 4), (7, 1, 3), (7, 1, 2), (3, 1, 0), (3, 1, 17), (3, 1, 16), (3, 1, 15), (3, 1, 14), (3, 1, 13), (3, 1, 12), (3, 1, 11), (3, 1, 10), (3, 1, 9), (3, 1, 8), (3, 1, 7), (3, 1, 6), (7, 0, 0), (7, 0, 9), (7, 0, 8), (7, 0, 7), (7, 0, 6), (7, 0, 5), (7, 0, 4), (7, 0, 3), (7, 0, 2), (3, 0, 0), (3, 0, 17), (3, 0, 16), (3, 0, 15), (3, 0, 14), (3, 0, 13), (3, 0, 12), (3, 0, 11), (3, 0, 10), (3, 0, 9), (3, 0, 8), (3, 0, 7), (3, 0, 6)]
theorem ky_perm : ((kyA ++ (2, 0, 1) :: kyB).isPerm ax_keys) = true := by decide +kernel
def lwW (ar : Nat → ClassId) (qJ qD q1 q2 : Nat) (v : Nat → Nat) (g : Nat → Nat → Nat) (P1 : Nat → Nat) (P2 : Nat → Nat → Nat) (u2 : Nat → Nat) : va_W := (qD, .inl (ar 4, (1, .inr (.inr (.inr (.inl (fun z => if z = 0 then (0 : UInt64) else 0))))))) :: (qJ, .inl (ar 3, (1, .inr (.inl (fun z => if z = 0 then (0 : Int64) else 0))))) :: (kl_model ar q2 u2 ++ (kl_adv ar q1 (v, (g, (P1, P2))) ++ []))
section LA
variable {D : va_G} {ar : Nat → ClassId} {b qJ qD q1 q2 : Nat} {v : Nat → Nat} {g : Nat → Nat → Nat} {P1 : Nat → Nat} {P2 : Nat → Nat → Nat} {u2 adK adV : Nat → Nat}
abbrev lwG (D : va_G) (ar : Nat → ClassId) (b qJ qD q1 q2 : Nat) (v : Nat → Nat) (g : Nat → Nat → Nat) (P1 : Nat → Nat) (P2 : Nat → Nat → Nat) (u2 adK adV : Nat → Nat) : ax_G := (D, ar, lwad b qJ qD q1 q2 v g P1 P2 u2 adK adV, fun _ => 0)
set_option maxRecDepth 100000 in
set_option maxHeartbeats 4000000 in
theorem lwW_eq : lwW ar qJ qD q1 q2 v g P1 P2 u2 = kyA.map (fun q => ((lwG D ar b qJ qD q1 q2 v g P1 P2 u2 adK adV).2.2.1 q.1 q.2.1 q.2.2, ax_ent (lwG D ar b qJ qD q1 q2 v g P1 P2 u2 adK adV) d00 q.1 q.2.1 q.2.2)) ++ (P1 0, .inl (ar 2, kq 11 (fun x => some (P1 (1 + x))))) :: kyB.map (fun q => ((lwG D ar b qJ qD q1 q2 v g P1 P2 u2 adK adV).2.2.1 q.1 q.2.1 q.2.2, ax_ent (lwG D ar b qJ qD q1 q2 v g P1 P2 u2 adK adV) d00 q.1 q.2.1 q.2.2)) := rfl
theorem lw_cells {A : Nat → Prop} {H : Heap} (hP : kP D (lwW ar qJ qD q1 q2 v g P1 P2 u2) H) (hN : kN A (lwW ar qJ qD q1 q2 v g P1 P2 u2)) :
    va_P D vwCl (ax_cells (lwG D ar b qJ qD q1 q2 v g P1 P2 u2 adK adV) d00) H ∧ va_D A (ax_cells (lwG D ar b qJ qD q1 q2 v g P1 P2 u2 adK adV) d00) := by
  have hp : (kyA ++ (2, 0, 1) :: kyB).Perm ax_keys := List.isPerm_iff.mp ky_perm
  rw [lwW_eq (D := D) (b := b) (adK := adK) (adV := adV)] at hP hN
  generalize hG : lwG D ar b qJ qD q1 q2 v g P1 P2 u2 adK adV = G at hP hN ⊢
  have hf : ax_ent G d00 2 0 1 = .inl (ar 2, kq 11 (fun x => some (lwad b qJ qD q1 q2 v g P1 P2 u2 adK adV 7 (4 + x) 0))) := by subst hG; rfl
  have ha : G.2.2.1 2 0 1 = P1 0 := by subst hG; rfl
  have hce : vp_cell (ar 2) (kq 11 (fun x => some (P1 (1 + x)))) = vp_cell (ar 2) (kq 11 (fun x => some (lwad b qJ qD q1 q2 v g P1 P2 u2 adK adV 7 (4 + x) 0))) := by
    rw [vp_cell_q, vp_cell_q]
    unfold arrV
    congr 2
    funext j
    show va_rf (some (P1 (1 + j.val))) = va_rf (some (lwad b qJ qD q1 q2 v g P1 P2 u2 adK adV 7 (4 + j.val) 0))
    have hj := j.isLt
    rcases (show j.val = 0 ∨ j.val = 1 ∨ j.val = 2 ∨ j.val = 3 ∨ j.val = 4 ∨ j.val = 5 ∨ j.val = 6 ∨ j.val = 7 ∨ j.val = 8 ∨ j.val = 9 ∨ j.val = 10 by omega) with e | e | e | e | e | e | e | e | e | e | e <;> rw [e] <;> rfl
  have h1 : kP D ((kyA ++ (2, 0, 1) :: kyB).map (fun q => (G.2.2.1 q.1 q.2.1 q.2.2, ax_ent G d00 q.1 q.2.1 q.2.2))) H := by
    intro q hq
    rw [List.map_append, List.map_cons] at hq
    rcases List.mem_append.mp hq with h | h
    · exact hP q (List.mem_append_left _ h)
    · rcases List.mem_cons.mp h with h | h
      · have h9 := hP (P1 0, .inl (ar 2, kq 11 (fun x => some (P1 (1 + x))))) (List.mem_append_right _ List.mem_cons_self)
        have h9 : H[P1 0]? = some (vp_cell (ar 2) (kq 11 (fun x => some (P1 (1 + x))))) := h9
        rw [h, hf, ha]
        show H[P1 0]? = some (vp_cell (ar 2) _)
        rw [h9, hce]
      · exact hP q (List.mem_append_right _ (List.mem_cons_of_mem _ h))
  have h2 : ((kyA ++ (2, 0, 1) :: kyB).map (fun q => (G.2.2.1 q.1 q.2.1 q.2.2, ax_ent G d00 q.1 q.2.1 q.2.2))).map (fun q => q.1) = (kyA.map (fun q => (G.2.2.1 q.1 q.2.1 q.2.2, ax_ent G d00 q.1 q.2.1 q.2.2)) ++ (P1 0, .inl (ar 2, kq 11 (fun x => some (P1 (1 + x))))) :: kyB.map (fun q => (G.2.2.1 q.1 q.2.1 q.2.2, ax_ent G d00 q.1 q.2.1 q.2.2))).map (fun q => q.1) := by
    rw [List.map_append, List.map_append, List.map_append, List.map_cons, List.map_cons, List.map_cons, ha]
  have h3 : kN A ((kyA ++ (2, 0, 1) :: kyB).map (fun q => (G.2.2.1 q.1 q.2.1 q.2.2, ax_ent G d00 q.1 q.2.1 q.2.2))) := by
    refine ⟨by rw [h2]; exact hN.1, fun q hq => ?_⟩
    have hm : q.1 ∈ ((kyA ++ (2, 0, 1) :: kyB).map (fun q => (G.2.2.1 q.1 q.2.1 q.2.2, ax_ent G d00 q.1 q.2.1 q.2.2))).map (fun q => q.1) := List.mem_map.mpr ⟨q, hq, rfl⟩
    rw [h2] at hm
    obtain ⟨z, hz, e⟩ := List.mem_map.mp hm
    rw [← e]
    exact hN.2 z hz
  have h4 : ((kyA ++ (2, 0, 1) :: kyB).map (fun q => (G.2.2.1 q.1 q.2.1 q.2.2, ax_ent G d00 q.1 q.2.1 q.2.2))).Perm (ax_cells G d00) := hp.map _
  have hD : D = G.1 := by subst hG; rfl
  exact ⟨kP_iff.mpr (kP_p h4 h1), kN_iff.mpr (kN_p h4 h3)⟩
end LA
