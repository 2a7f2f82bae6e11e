/-! fields and rows over the abstract machine -/
def ax_R (a : Nat) : String := match a with
  | 0 => RX0
  | 1 => RX1
  | 2 => RX3
  | 3 => RX4
  | 4 => RX5
  | 5 => RX6
  | 6 => RX7
  | 7 => RX9
  | 8 => RX10
  | _ => RX11
def ax_T (a : Nat) : u_T := match a with
  | 0 => TX0
  | 1 => TX1
  | 2 => TX3
  | 3 => TX4
  | 4 => TX5
  | 5 => TX6
  | 6 => TX7
  | 7 => TX9
  | 8 => TX10
  | _ => TX11
def ax_ty (a : Nat) : Nat → FieldType := match a with
  | 0 => tyX0
  | 1 => tyX1
  | 2 => tyX3
  | 3 => tyX4
  | 4 => tyX5
  | 5 => tyX6
  | 6 => tyX7
  | 7 => tyX9
  | 8 => tyX10
  | _ => tyX11
theorem ax_cl_at : ∀ a, a < 10 → vwCl[a + 2]? = some (ax_R a, ax_T a, ax_nf a)
  | 0, _ => rfl
  | 1, _ => rfl
  | 2, _ => rfl
  | 3, _ => rfl
  | 4, _ => rfl
  | 5, _ => rfl
  | 6, _ => rfl
  | 7, _ => rfl
  | 8, _ => rfl
  | 9, _ => rfl
  | n + 10, h => absurd h (by omega)
theorem ax_nm : ∀ a, a < 10 → ∀ x, x < ax_nf a → ∀ y, y < ax_nf a → x ≠ y → (ax_T a x).2.1 ≠ (ax_T a y).2.1
  | 0, _ => nmX0
  | 1, _ => nmX1
  | 2, _ => nmX3
  | 3, _ => nmX4
  | 4, _ => nmX5
  | 5, _ => nmX6
  | 6, _ => nmX7
  | 7, _ => nmX9
  | 8, _ => nmX10
  | 9, _ => nmX11
  | n + 10, h => absurd h (by omega)
theorem ax_ty_ok : ∀ a, a < 10 → ∀ k, k < ax_nf a → parseFieldDescriptor (ax_T a k).2.2.1 = some (ax_ty a k)
  | 0, _ => tyX0_ok
  | 1, _ => tyX1_ok
  | 2, _ => tyX3_ok
  | 3, _ => tyX4_ok
  | 4, _ => tyX5_ok
  | 5, _ => tyX6_ok
  | 6, _ => tyX7_ok
  | 7, _ => tyX9_ok
  | 8, _ => tyX10_ok
  | 9, _ => tyX11_ok
  | n + 10, h => absurd h (by omega)
theorem ax_u0 : ∀ w ∈ u_ws RX0 TX0 6, w ∈ lw_tbl ∧ goodWord w = true := by decide +kernel
theorem ax_u1 : ∀ w ∈ u_ws RX1 TX1 2, w ∈ lw_tbl ∧ goodWord w = true := by decide +kernel
theorem ax_u2 : ∀ w ∈ u_ws RX3 TX3 3, w ∈ lw_tbl ∧ goodWord w = true := by decide +kernel
theorem ax_u3 : ∀ w ∈ u_ws RX4 TX4 17, w ∈ lw_tbl ∧ goodWord w = true := by decide +kernel
theorem ax_u4 : ∀ w ∈ u_ws RX5 TX5 7, w ∈ lw_tbl ∧ goodWord w = true := by decide +kernel
theorem ax_u5 : ∀ w ∈ u_ws RX6 TX6 2, w ∈ lw_tbl ∧ goodWord w = true := by decide +kernel
theorem ax_u6 : ∀ w ∈ u_ws RX7 TX7 4, w ∈ lw_tbl ∧ goodWord w = true := by decide +kernel
theorem ax_u7 : ∀ w ∈ u_ws RX9 TX9 12, w ∈ lw_tbl ∧ goodWord w = true := by decide +kernel
theorem ax_u8 : ∀ w ∈ u_ws RX10 TX10 11, w ∈ lw_tbl ∧ goodWord w = true := by decide +kernel
theorem ax_u9 : ∀ w ∈ u_ws RX11 TX11 30, w ∈ lw_tbl ∧ goodWord w = true := by decide +kernel
theorem ax_uw : ∀ a, a < 10 → ∀ w ∈ u_ws (ax_R a) (ax_T a) (ax_nf a), w ∈ lw_tbl ∧ goodWord w = true
  | 0, _ => ax_u0
  | 1, _ => ax_u1
  | 2, _ => ax_u2
  | 3, _ => ax_u3
  | 4, _ => ax_u4
  | 5, _ => ax_u5
  | 6, _ => ax_u6
  | 7, _ => ax_u7
  | 8, _ => ax_u8
  | 9, _ => ax_u9
  | n + 10, h => absurd h (by omega)
theorem ax_in_vp {x : Int32} {n : Nat} (h : ax_in x n = true) : vp_in x n := by
  unfold ax_in at h
  rw [Bool.and_eq_true] at h
  have h1 : ¬ x < 0 := by simpa using h.1
  have h2 : x.toNatClampNeg < n := by simpa using h.2
  exact fun q => q.elim h1 (fun z => Nat.not_le.mpr h2 z)
theorem ax_A_lt {k j : Nat} (h : ax_isA k j = true) : k < 10 ∧ Nat.beq j 0 = false := by
  unfold ax_isA at h
  split at h <;> first | (refine ⟨by decide, ?_⟩; cases hb : Nat.beq j 0 with | false => rfl | true => (rw [Nat.eq_of_beq_eq_true hb] at h; simp at h)) | simp at h
theorem ax_key_of {k i j : Nat} (h : ax_vok (ax_vR k i j)) (hk : k < 12) : (k, i, j) ∈ ax_keys := by
  rcases h with h | h | h
  · exact h
  · have : k = 12 := congrArg Prod.fst h
    omega
  · have : k = 13 := h.1
    omega
section AXF
variable {p : Program} {l : Launch} {e : Env} {R : Room} {s : State} {m : MethodId} {args : Array Value} {below : List Frame} {meth : Method} {c : Code} {Q : State → Prop} {cc : ByteArray} {G : ax_G} {A : Nat → Prop} {nL c0 s0 : Nat}
variable {pc : Nat} {lo : List (Nat × ax_V)} {r : List ax_V} {d : ax_D} {ee : Nat} {own : String} {a b ii jj kk idx : Nat}
theorem ax_t_getI (hx : p.tables.exec = Jvm.exec) (hb : c.code = cc) (hown : s.vm.findClass own = some m.cls) (hW : ∀ w ∈ lw_tbl, goodWord w = true → w.before args s = true) (hK : va_K G.1 vwCl (ax_tys G) s) (ha : a < 10) (hbn : b < ax_nf a) (hl : (Cond.fieldLink own idx (ax_T a b).1 (ax_T a b).2.1 (ax_T a b).2.2.1).before args s = true) (hg : ax_ga a ii b = none) (hd : decode cc pc = .ok (.getfield idx, 3))
    (k : ax_Tr p l e R s m args below meth c Q G A nL c0 s0 (pc + 3) lo (Sum.inl (ax_row d a ii 0 b) :: r) d ee) : ax_Tr p l e R s m args below meth c Q G A nL c0 s0 pc lo (ax_vR a ii 0 :: r) d ee := by
  intro H locs ls hlv ho hv hP hD hS
  obtain ⟨n, hn, -⟩ := ax_cells_get G d (ax_key_of (ax_okH hv) (by omega))
  refine va_get hx hb (Ts := u_ws (ax_R a) (ax_T a) (ax_nf a)) (fun w hw => hW w (ax_uw a ha w hw).1 (ax_uw a ha w hw).2) (fun w hw => hw) hown hK hP n hn (ax_cl_at a ha) b hbn hl (fun x h => h) (v := .int (ax_row d a ii 0 b)) ?_ hd (k H locs ls hlv ho (ax_okI (ax_okT hv)) hP hD hS)
  rw [List.getElem?_map, List.getElem?_range hbn, Option.map_some]
  unfold ax_fv
  rw [hg]
theorem ax_t_getR (hx : p.tables.exec = Jvm.exec) (hb : c.code = cc) (hown : s.vm.findClass own = some m.cls) (hW : ∀ w ∈ lw_tbl, goodWord w = true → w.before args s = true) (hK : va_K G.1 vwCl (ax_tys G) s) {q : Nat × Nat × Nat} (ha : a < 10) (hbn : b < ax_nf a) (hl : (Cond.fieldLink own idx (ax_T a b).1 (ax_T a b).2.1 (ax_T a b).2.2.1).before args s = true) (hg : ax_ga a ii b = some q) (hd : decode cc pc = .ok (.getfield idx, 3))
    (k : ax_Tr p l e R s m args below meth c Q G A nL c0 s0 (pc + 3) lo (Sum.inr (Sum.inr (Sum.inr (Sum.inr q))) :: r) d ee) : ax_Tr p l e R s m args below meth c Q G A nL c0 s0 pc lo (ax_vR a ii 0 :: r) d ee := by
  intro H locs ls hlv ho hv hP hD hS
  have hkey := ax_key_of (ax_okH hv) (by omega)
  obtain ⟨n, hn, -⟩ := ax_cells_get G d hkey
  have hnf : ax_nf a ≤ 30 := by
    unfold ax_nf
    split <;> decide
  have hq : q ∈ ax_keys := ax_keys_ga _ hkey rfl b (by omega) q (by show q ∈ (ax_ga a ii b).toList; rw [hg]; simp)
  refine va_get hx hb (Ts := u_ws (ax_R a) (ax_T a) (ax_nf a)) (fun w hw => hW w (ax_uw a ha w hw).1 (ax_uw a ha w hw).2) (fun w hw => hw) hown hK hP n hn (ax_cl_at a ha) b hbn hl (fun x h => h) (v := .ref (G.2.2.1 q.1 q.2.1 q.2.2)) ?_ hd (k H locs ls hlv ho (ax_okC (Or.inl hq) (ax_okT hv)) hP hD hS)
  rw [List.getElem?_map, List.getElem?_range hbn, Option.map_some]
  unfold ax_fv
  rw [hg]
theorem ax_t_put (hx : p.tables.exec = Jvm.exec) (hb : c.code = cc) (hown : s.vm.findClass own = some m.cls) (hW : ∀ w ∈ lw_tbl, goodWord w = true → w.before args s = true) (hK : va_K G.1 vwCl (ax_tys G) s) {x : Int32} (ha : a < 10) (hbn : b < ax_nf a) (hl : (Cond.fieldLink own idx (ax_T a b).1 (ax_T a b).2.1 (ax_T a b).2.2.1).before args s = true) (hg : ax_ga a ii b = none) (hfin : (ax_T a b).2.2.2 = false) (hty : (ax_T a b).2.2.1 = "I" ∨ ((ax_T a b).2.2.1 = "Z" ∧ (x = 0 ∨ x = 1))) (hd : decode cc pc = .ok (.putfield idx, 3))
    (k : ax_Tr p l e R s m args below meth c Q G A nL c0 s0 (pc + 3) lo r (ax_set d a ii 0 (upd (ax_row d a ii 0) b x)) ee) : ax_Tr p l e R s m args below meth c Q G A nL c0 s0 pc lo (Sum.inl x :: ax_vR a ii 0 :: r) d ee := by
  intro H locs ls hlv ho hv hP hD hS
  have hkey := ax_key_of (ax_okH (ax_okT hv)) (by omega)
  obtain ⟨n, hn, hn2⟩ := ax_cells_get G d hkey
  have hset : (ax_cells G d).set n (G.2.2.1 a ii 0, .inr (a + 2, ((List.range (ax_nf a)).map (ax_fv G d a ii)).set b (.int x))) = ax_cells G (ax_set d a ii 0 (upd (ax_row d a ii 0) b x)) :=
    ax_cells_set hn2 (by rw [ax_ent_O, ax_fv_set hbn hg]) (ax_ent_set_ne hkey)
  obtain ⟨ty, h1, h2, h3⟩ : ∃ ty, parseFieldDescriptor (ax_T a b).2.2.1 = some ty ∧ narrow ty (.int x) = .int x ∧ fits ty (.int x) = true := by
    rcases hty with h | ⟨h, rfl | rfl⟩
    · exact ⟨.int, by rw [h]; rfl, rfl, rfl⟩
    · exact ⟨.boolean, by rw [h]; rfl, by decide, by decide⟩
    · exact ⟨.boolean, by rw [h]; rfl, by decide, by decide⟩
  refine va_put hx hb (Ts := u_ws (ax_R a) (ax_T a) (ax_nf a)) (fun w hw => hW w (ax_uw a ha w hw).1 (ax_uw a ha w hw).2) (fun w hw => hw) (ax_ty a) (ax_ty_ok a ha) (ax_nm a ha) hown hK hP hD hS n hn (ax_cl_at a ha) b hbn hl (fun x h => h) hfin h1 h2 h3 (by simpa using hbn) hd (fun H1 locs1 hP1 hD1 hS1 => ?_)
  exact k H1 locs1 ls hlv ho (ax_okT (ax_okT hv)) (Eq.mp (congrArg (fun w => va_P G.1 vwCl w H1) hset) hP1) (Eq.mp (congrArg (fun w => va_D A w) hset) hD1) hS1
theorem ax_t_iald (hx : p.tables.exec = Jvm.exec) (hb : c.code = cc) (hK : va_K G.1 vwCl (ax_tys G) s) {x : Int32} (hA : ax_isA kk jj = true) (hc : (Nat.beq kk 4 && Nat.beq jj 1) = false) (hi : ax_in x (ax_len kk jj) = true) (hd : decode cc pc = .ok (.iaload, 1))
    (k : ax_Tr p l e R s m args below meth c Q G A nL c0 s0 (pc + 1) lo (Sum.inl (ax_row d kk ii jj x.toNatClampNeg) :: r) d ee) : ax_Tr p l e R s m args below meth c Q G A nL c0 s0 pc lo (Sum.inl x :: ax_vR kk ii jj :: r) d ee := by
  intro H locs ls hlv ho hv hP hD hS
  have hlt := (ax_A_lt hA).1
  obtain ⟨n, hn, -⟩ := ax_cells_get G d (ax_key_of (ax_okH (ax_okT hv)) (by omega))
  rw [ax_ent_A hA, hc] at hn
  exact va_iald hx hb hK hP n 0 hn rfl (ax_in_vp hi) hd (k H locs ls hlv ho (ax_okI (ax_okT (ax_okT hv))) hP hD hS)
theorem ax_t_cald (hx : p.tables.exec = Jvm.exec) (hb : c.code = cc) (hK : va_K G.1 vwCl (ax_tys G) s) {x : Int32} (hi : ax_in x 80 = true) (hd : decode cc pc = .ok (.caload, 1))
    (k : ax_Tr p l e R s m args below meth c Q G A nL c0 s0 (pc + 1) lo (Sum.inl (ax_row d 4 ii 1 x.toNatClampNeg) :: r) d ee) : ax_Tr p l e R s m args below meth c Q G A nL c0 s0 pc lo (Sum.inl x :: ax_vR 4 ii 1 :: r) d ee := by
  intro H locs ls hlv ho hv hP hD hS
  obtain ⟨n, hn, -⟩ := ax_cells_get G d (ax_key_of (ax_okH (ax_okT hv)) (by omega))
  exact va_cald hx hb hK hP n 1 hn rfl (ax_in_vp hi) hd (k H locs ls hlv ho (ax_okI (ax_okT (ax_okT hv))) hP hD hS)
theorem ax_t_iast (hx : p.tables.exec = Jvm.exec) (hb : c.code = cc) (hK : va_K G.1 vwCl (ax_tys G) s) {x y : Int32} (hA : ax_isA kk jj = true) (hc : (Nat.beq kk 4 && Nat.beq jj 1) = false) (hi : ax_in x (ax_len kk jj) = true) (hd : decode cc pc = .ok (.iastore, 1))
    (k : ax_Tr p l e R s m args below meth c Q G A nL c0 s0 (pc + 1) lo r (ax_set d kk ii jj (upd (ax_row d kk ii jj) x.toNatClampNeg y)) ee) : ax_Tr p l e R s m args below meth c Q G A nL c0 s0 pc lo (Sum.inl y :: Sum.inl x :: ax_vR kk ii jj :: r) d ee := by
  intro H locs ls hlv ho hv hP hD hS
  have hlt := (ax_A_lt hA).1
  have hkey := ax_key_of (ax_okH (ax_okT (ax_okT hv))) (by omega)
  obtain ⟨n, hn, hn2⟩ := ax_cells_get G d hkey
  rw [ax_ent_A hA, hc] at hn
  have hset : (ax_cells G d).set n (G.2.2.1 kk ii jj, .inl (cond false (G.2.1 1) (G.2.1 0), (ax_len kk jj, .inl (upd (ax_row d kk ii jj) x.toNatClampNeg y)))) = ax_cells G (ax_set d kk ii jj (upd (ax_row d kk ii jj) x.toNatClampNeg y)) :=
    ax_cells_set hn2 (by rw [ax_ent_A hA, hc, ax_row_same]) (ax_ent_set_ne hkey)
  refine va_iast hx hb hK hP hD hS n 0 hn rfl (ax_in_vp hi) hd (fun H1 locs1 hP1 hD1 hS1 => ?_)
  exact k H1 locs1 ls hlv ho (ax_okT (ax_okT (ax_okT hv))) (Eq.mp (congrArg (fun w => va_P G.1 vwCl w H1) hset) hP1) (Eq.mp (congrArg (fun w => va_D A w) hset) hD1) hS1
theorem ax_t_cast (hx : p.tables.exec = Jvm.exec) (hb : c.code = cc) (hK : va_K G.1 vwCl (ax_tys G) s) {x y : Int32} (hi : ax_in x 80 = true) (hd : decode cc pc = .ok (.castore, 1))
    (k : ax_Tr p l e R s m args below meth c Q G A nL c0 s0 (pc + 1) lo r (ax_set d 4 ii 1 (upd (ax_row d 4 ii 1) x.toNatClampNeg (vp_nar .char y))) ee) : ax_Tr p l e R s m args below meth c Q G A nL c0 s0 pc lo (Sum.inl y :: Sum.inl x :: ax_vR 4 ii 1 :: r) d ee := by
  intro H locs ls hlv ho hv hP hD hS
  have hkey := ax_key_of (ax_okH (ax_okT (ax_okT hv))) (by omega)
  obtain ⟨n, hn, hn2⟩ := ax_cells_get G d hkey
  have hset : (ax_cells G d).set n (G.2.2.1 4 ii 1, .inl (G.2.1 1, (80, .inl (upd (ax_row d 4 ii 1) x.toNatClampNeg (vp_nar .char y))))) = ax_cells G (ax_set d 4 ii 1 (upd (ax_row d 4 ii 1) x.toNatClampNeg (vp_nar .char y))) :=
    ax_cells_set hn2 (by rw [ax_ent_A rfl, ax_row_same]; rfl) (ax_ent_set_ne hkey)
  refine va_cast hx hb hK hP hD hS n 1 hn rfl (ax_in_vp hi) hd (fun H1 locs1 hP1 hD1 hS1 => ?_)
  exact k H1 locs1 ls hlv ho (ax_okT (ax_okT (ax_okT hv))) (Eq.mp (congrArg (fun w => va_P G.1 vwCl w H1) hset) hP1) (Eq.mp (congrArg (fun w => va_D A w) hset) hD1) hS1
theorem ax_t_aald (hx : p.tables.exec = Jvm.exec) (hb : c.code = cc) (hK : va_K G.1 vwCl (ax_tys G) s) {x : Int32} (hi : ax_in x 11 = true) (hd : decode cc pc = .ok (.aaload, 1))
    (k : ax_Tr p l e R s m args below meth c Q G A nL c0 s0 (pc + 1) lo (ax_vR 7 (4 + x.toNatClampNeg) 0 :: r) d ee) : ax_Tr p l e R s m args below meth c Q G A nL c0 s0 pc lo (Sum.inl x :: ax_vR 2 0 1 :: r) d ee := by
  intro H locs ls hlv ho hv hP hD hS
  obtain ⟨n, hn, -⟩ := ax_cells_get G d (ax_key_of (ax_okH (ax_okT hv)) (by omega))
  have hw : ax_vok (ax_vR 7 (4 + x.toNatClampNeg) 0) := Or.inl (ax_keys_w _ (Nat.not_le.mp fun q => ax_in_vp hi (Or.inr q)))
  exact va_aldq hx hb hK hP n 2 hn rfl (ax_in_vp hi) hd (k H locs ls hlv ho (ax_okC hw (ax_okT (ax_okT hv))) hP hD hS)
theorem ax_t_lald (hx : p.tables.exec = Jvm.exec) (hb : c.code = cc) (hK : va_K G.1 vwCl (ax_tys G) s) (hd : decode cc pc = .ok (.laload, 1))
    (k : ax_Tr p l e R s m args below meth c Q G A nL c0 s0 (pc + 1) lo (Sum.inr (Sum.inl d.2.2.1) :: r) d ee) : ax_Tr p l e R s m args below meth c Q G A nL c0 s0 pc lo (Sum.inl 0 :: ax_vR 10 0 1 :: r) d ee := by
  intro H locs ls hlv ho hv hP hD hS
  obtain ⟨n, hn, -⟩ := ax_cells_get G d (ax_key_of (ax_okH (ax_okT hv)) (by omega))
  exact va_lald hx hb hK hP n 3 hn rfl (ax_in_vp (by decide)) hd (k H locs ls hlv ho (ax_okC trivial (ax_okT (ax_okT hv))) hP hD hS)
theorem ax_t_dald (hx : p.tables.exec = Jvm.exec) (hb : c.code = cc) (hK : va_K G.1 vwCl (ax_tys G) s) (hd : decode cc pc = .ok (.daload, 1))
    (k : ax_Tr p l e R s m args below meth c Q G A nL c0 s0 (pc + 1) lo (Sum.inr (Sum.inr (Sum.inr (Sum.inl d.2.2.2))) :: r) d ee) : ax_Tr p l e R s m args below meth c Q G A nL c0 s0 pc lo (Sum.inl 0 :: ax_vR 11 0 1 :: r) d ee := by
  intro H locs ls hlv ho hv hP hD hS
  obtain ⟨n, hn, -⟩ := ax_cells_get G d (ax_key_of (ax_okH (ax_okT hv)) (by omega))
  exact va_dald hx hb hK hP n 4 hn rfl (ax_in_vp (by decide)) hd (k H locs ls hlv ho (ax_okC trivial (ax_okT (ax_okT hv))) hP hD hS)
theorem ax_ent_out {G : ax_G} {d d' : ax_D} {k0 : Nat} (h1 : d'.1 = d.1) (h2 : d'.2.1 = d.2.1) (h3 : k0 = 10 → d'.2.2.2 = d.2.2.2) (h4 : k0 = 11 → d'.2.2.1 = d.2.2.1) (h5 : k0 = 10 ∨ k0 = 11) : ∀ q ∈ ax_keys, q ≠ (k0, 0, 1) → ax_ent G d' q.1 q.2.1 q.2.2 = ax_ent G d q.1 q.2.1 q.2.2 := by
  intro q hq hne
  obtain ⟨k', i', j'⟩ := q
  have hr : ∀ i j, ax_row d' k' i j = ax_row d k' i j := by
    intro i j
    unfold ax_row
    rw [h1, h2]
  have hf : ax_fv G d' k' i' = ax_fv G d k' i' := by
    funext z
    unfold ax_fv
    rw [hr]
  have h10 : k' = 10 → (k', i', j') = (10, 0, 1) := by
    intro h
    have : ∀ q ∈ ax_keys, q.1 = 10 → q = (10, 0, 1) := by decide +kernel
    exact this _ hq h
  have h11 : k' = 11 → (k', i', j') = (11, 0, 1) := by
    intro h
    have : ∀ q ∈ ax_keys, q.1 = 11 → q = (11, 0, 1) := by decide +kernel
    exact this _ hq h
  show ax_ent G d' k' i' j' = ax_ent G d k' i' j'
  unfold ax_ent
  rw [hf, hr]
  rcases h5 with rfl | rfl
  · have e10 : Nat.beq k' 10 = false := by
      cases hb : Nat.beq k' 10 with
      | false => rfl
      | true => exact absurd (h10 (Nat.eq_of_beq_eq_true hb)) hne
    rw [e10, h3 rfl]
    rfl
  · have e11 : Nat.beq k' 11 = false := by
      cases hb : Nat.beq k' 11 with
      | false => rfl
      | true => exact absurd (h11 (Nat.eq_of_beq_eq_true hb)) hne
    rw [e11, h4 rfl]
    rfl
theorem ax_t_last (hx : p.tables.exec = Jvm.exec) (hb : c.code = cc) (hK : va_K G.1 vwCl (ax_tys G) s) {y : Int64} (hd : decode cc pc = .ok (.lastore, 1))
    (k : ax_Tr p l e R s m args below meth c Q G A nL c0 s0 (pc + 1) lo r (d.1, d.2.1, y, d.2.2.2) ee) : ax_Tr p l e R s m args below meth c Q G A nL c0 s0 pc lo (Sum.inr (Sum.inl y) :: Sum.inl 0 :: ax_vR 10 0 1 :: r) d ee := by
  intro H locs ls hlv ho hv hP hD hS
  have hkey : (10, 0, 1) ∈ ax_keys := ax_key_of (ax_okH (ax_okT (ax_okT hv))) (by omega)
  obtain ⟨n, hn, hn2⟩ := ax_cells_get G d hkey
  have hset : (ax_cells G d).set n (G.2.2.1 10 0 1, .inl (G.2.1 3, (1, .inr (.inl (vp_updL (fun z => if z = 0 then d.2.2.1 else 0) 0 y))))) = ax_cells G (d.1, d.2.1, y, d.2.2.2) := by
    refine ax_cells_set hn2 ?_ (ax_ent_out rfl rfl (fun _ => rfl) (fun h => by cases h) (Or.inl rfl))
    have hf : (fun z : Nat => if z = 0 then y else 0) = vp_updL (fun z => if z = 0 then d.2.2.1 else 0) 0 y := by
      funext z
      unfold vp_updL
      by_cases hz : z = 0 <;> simp [hz]
    rw [← hf]
    rfl
  refine va_last hx hb hK hP hD hS n 3 hn rfl (ax_in_vp (by decide)) hd (fun H1 locs1 hP1 hD1 hS1 => ?_)
  exact k H1 locs1 ls hlv ho (ax_okT (ax_okT (ax_okT hv))) (Eq.mp (congrArg (fun w => va_P G.1 vwCl w H1) hset) hP1) (Eq.mp (congrArg (fun w => va_D A w) hset) hD1) hS1
theorem ax_t_dast (hx : p.tables.exec = Jvm.exec) (hb : c.code = cc) (hK : va_K G.1 vwCl (ax_tys G) s) {y : UInt64} (hd : decode cc pc = .ok (.dastore, 1))
    (k : ax_Tr p l e R s m args below meth c Q G A nL c0 s0 (pc + 1) lo r (d.1, d.2.1, d.2.2.1, y) ee) : ax_Tr p l e R s m args below meth c Q G A nL c0 s0 pc lo (Sum.inr (Sum.inr (Sum.inr (Sum.inl y))) :: Sum.inl 0 :: ax_vR 11 0 1 :: r) d ee := by
  intro H locs ls hlv ho hv hP hD hS
  have hkey : (11, 0, 1) ∈ ax_keys := ax_key_of (ax_okH (ax_okT (ax_okT hv))) (by omega)
  obtain ⟨n, hn, hn2⟩ := ax_cells_get G d hkey
  have hset : (ax_cells G d).set n (G.2.2.1 11 0 1, .inl (G.2.1 4, (1, .inr (.inr (.inr (.inl (vf_upd (fun z => if z = 0 then d.2.2.2 else 0) 0 y))))))) = ax_cells G (d.1, d.2.1, d.2.2.1, y) := by
    refine ax_cells_set hn2 ?_ (ax_ent_out rfl rfl (fun h => by cases h) (fun _ => rfl) (Or.inr rfl))
    have hf : (fun z : Nat => if z = 0 then y else 0) = vf_upd (fun z => if z = 0 then d.2.2.2 else 0) 0 y := by
      funext z
      unfold vf_upd
      by_cases hz : z = 0 <;> simp [hz]
    rw [← hf]
    rfl
  refine va_dast hx hb hK hP hD hS n 4 hn rfl (ax_in_vp (by decide)) hd (fun H1 locs1 hP1 hD1 hS1 => ?_)
  exact k H1 locs1 ls hlv ho (ax_okT (ax_okT (ax_okT hv))) (Eq.mp (congrArg (fun w => va_P G.1 vwCl w H1) hset) hP1) (Eq.mp (congrArg (fun w => va_D A w) hset) hD1) hS1
end AXF
