/-! ends of bodies; copies; switches; texts; floats -/
section AXE
variable {ldc : List (String × Nat × String × Nat)} {nest : List Cond} {thr : List (String × Nat × String)}
variable {p : Program} {l : Launch} {e : Env} {R : Room} {s : State} {m : MethodId} {args : Array Value} {below : List Frame} {meth : Method} {c : Code} {Q : State → Prop} {cc : ByteArray} {G : ax_G} {A : Nat → Prop} {nL c0 s0 : Nat}
variable {pc : Nat} {lo : List (Nat × ax_V)} {r : List ax_V} {d : ax_D} {ee idx : Nat} {own : String} {ws : List Cond}
/-- what a body owes at its end -/
abbrev ax_MQ (below : List Frame) (G : ax_G) (args : Array Value) (s : State) (fin : ax_Fin) : State → Prop := vx_MQ below (ax_Qc G fin s.heap.size) (ax_XC G fin s.heap.size) args s fin.2.1 (6 * fin.2.1) (ax_A G s.heap.size)
theorem ax_qr {H : Heap} {locs : List Loc} {rv : Option ax_V} (hP : va_P G.1 vwCl (ax_cells G d) H) (hS : va_S (ax_A G s.heap.size) s.heap H locs) (hv : ∀ v ∈ rv.toList, ax_vok v) : ∀ t : State, t.heap = H → s.WarmedH t.vm → ax_Qc G (d, ee, Sum.inl rv) s.heap.size args s (.returned (rv.map (ax_conc G))) t := by
  intro t ht hW
  exact ⟨rv, rfl, rfl, hv, by rw [ht]; exact hP, hS.F ht⟩
theorem ax_e_i (hx : p.tables.exec = Jvm.exec) (hb : c.code = cc) (hlocks : meth.locks = false) {ty : FieldType} (hr : meth.sig.returnType = some ty) {x : Int32} (hn : narrow ty (.int x) = .int x) (hd : decode cc pc = .ok (.ireturn, 1)) :
    ax_Tr p l e R s m args below meth c (ax_MQ below G args s (d, ee, Sum.inl (some (Sum.inl x)))) G (ax_A G s.heap.size) nL 0 0 pc lo [Sum.inl x] d ee := by
  intro H locs ls hl ho hv hP hD hS
  refine W.widen (k := ee) (n := 6 * ee) (by omega) (by omega) (vx_ret ?_)
  exact W.zret hx hb hr hn (ax_qr (rv := some (Sum.inl x)) hP hS (fun v h => by simp at h; rw [h]; trivial)) hS.2.2 hd hlocks
theorem ax_e_v (hx : p.tables.exec = Jvm.exec) (hb : c.code = cc) (hlocks : meth.locks = false) (hr : meth.sig.returnType = none) (hd : decode cc pc = .ok (.return_, 1)) :
    ax_Tr p l e R s m args below meth c (ax_MQ below G args s (d, ee, Sum.inl none)) G (ax_A G s.heap.size) nL 0 0 pc lo [] d ee := by
  intro H locs ls hl ho hv hP hD hS
  refine W.widen (k := ee) (n := 6 * ee) (by omega) (by omega) (vx_ret ?_)
  exact W.vret hx hb hr (ax_qr (rv := none) hP hS (fun v h => by simp at h)) hS.2.2 hd hlocks
theorem ax_e_r (hx : p.tables.exec = Jvm.exec) (hb : c.code = cc) (hlocks : meth.locks = false) {nm : String} (hr : meth.sig.returnType = some (.object nm)) {q : Nat × Nat × Nat} (hd : decode cc pc = .ok (.areturn, 1)) :
    ax_Tr p l e R s m args below meth c (ax_MQ below G args s (d, ee, Sum.inl (some (Sum.inr (Sum.inr (Sum.inr (Sum.inr q))))))) G (ax_A G s.heap.size) nL 0 0 pc lo [Sum.inr (Sum.inr (Sum.inr (Sum.inr q)))] d ee := by
  intro H locs ls hl ho hv hP hD hS
  refine W.widen (k := ee) (n := 6 * ee) (by omega) (by omega) (vx_ret ?_)
  exact W.aret hx hb hr (Or.inl ⟨nm, rfl⟩) (Or.inr ⟨_, rfl⟩) (ax_qr (rv := some (Sum.inr (Sum.inr (Sum.inr (Sum.inr q))))) hP hS (fun v h => by simp at h; rw [h]; exact ax_okH hv)) hS.2.2 hd hlocks
theorem ax_e_f (hx : p.tables.exec = Jvm.exec) (hb : c.code = cc) (hlocks : meth.locks = false) (hr : meth.sig.returnType = some .float) {x : UInt32} (hd : decode cc pc = .ok (.freturn, 1)) :
    ax_Tr p l e R s m args below meth c (ax_MQ below G args s (d, ee, Sum.inl (some (Sum.inr (Sum.inr (Sum.inl x)))))) G (ax_A G s.heap.size) nL 0 0 pc lo [Sum.inr (Sum.inr (Sum.inl x))] d ee := by
  intro H locs ls hl ho hv hP hD hS
  refine W.widen (k := ee) (n := 6 * ee) (by omega) (by omega) (vx_ret ?_)
  exact W.fret hx hb hr (ax_qr (rv := some (Sum.inr (Sum.inr (Sum.inl x)))) hP hS (fun v h => by simp at h; rw [h]; trivial)) hS.2.2 hd hlocks
theorem ax_e_d (hx : p.tables.exec = Jvm.exec) (hb : c.code = cc) (hlocks : meth.locks = false) (hr : meth.sig.returnType = some .double) {x : UInt64} (hd : decode cc pc = .ok (.dreturn, 1)) :
    ax_Tr p l e R s m args below meth c (ax_MQ below G args s (d, ee, Sum.inl (some (Sum.inr (Sum.inr (Sum.inr (Sum.inl x))))))) G (ax_A G s.heap.size) nL 0 0 pc lo [Sum.inr (Sum.inr (Sum.inr (Sum.inl x)))] d ee := by
  intro H locs ls hl ho hv hP hD hS
  refine W.widen (k := ee) (n := 6 * ee) (by omega) (by omega) (vx_ret ?_)
  exact W.dret hx hb hr (ax_qr (rv := some (Sum.inr (Sum.inr (Sum.inr (Sum.inl x))))) hP hS (fun v h => by simp at h; rw [h]; trivial)) hS.2.2 hd hlocks
theorem ax_e_x {n : Nat} (hlocks : meth.locks = false) (ht : ∀ x ∈ c.exceptionTable.toList, False) :
    ax_TX p l e R s m args below meth c (ax_MQ below G args s (d, ee, Sum.inr n)) G (ax_A G s.heap.size) nL 0 0 pc lo r d ee n := by
  intro H locs ls ce q hl ho hv hP hD hS h1 h2 h3
  refine vx_widen (k := ee) (n := 6 * ee) (by omega) (by omega) ?_
  exact vx_out (fun x hx => (ht x hx).elim) hlocks h1 h2 h3 (fun t ht hA => ⟨⟨n, rfl, rfl⟩, by rw [ht]; exact hP, hS.F ht⟩) hS.2.2 (Nat.le_refl _) (Nat.le_refl _)
def ax_names : List String := ["java/lang/RuntimeException", "java/lang/Exception"]
def ax_ThS (nest : List Cond) (own : String) (ik ic a : Nat) : Prop :=
  (∀ w ∈ (vx_atS own ic (ax_exc a) ax_names).filter goodWord, w ∈ ax_gw) ∧ (∀ w ∈ (vx_atS own ic (ax_exc a) ax_names).filter (fun w => !goodWord w), w ∈ nest) ∧
  ∀ w ∈ Cond.classLink own ik (ax_exc a) :: Cond.initialized (ax_exc a) :: vx_atS own ic (ax_exc a) ax_names, vx_ot w = true
def ax_ThX (nest : List Cond) (own : String) (ik ic a ix : Nat) (rx : ByteArray) : Prop :=
  (decode rx 0 = .ok (.aload_n 0, 1) ∧ decode rx 1 = .ok (.aload_n 1, 1) ∧ decode rx 2 = .ok (.invokespecial ix, 3) ∧ decode rx 5 = .ok (.return_, 1)) ∧
  (∀ w ∈ (ax_atX own ic (ax_exc a) "java/lang/RuntimeException" ix rx ["java/lang/Exception"]).filter goodWord, w ∈ ax_gw) ∧ (∀ w ∈ (ax_atX own ic (ax_exc a) "java/lang/RuntimeException" ix rx ["java/lang/Exception"]).filter (fun w => !goodWord w), w ∈ nest) ∧
  ∀ w ∈ Cond.classLink own ik (ax_exc a) :: Cond.initialized (ax_exc a) :: ax_atX own ic (ax_exc a) "java/lang/RuntimeException" ix rx ["java/lang/Exception"], vx_ot w = true
/-- what the tables say of a throw -/
def ax_Th (nest : List Cond) (own : String) (ik ic a : Nat) : Prop :=
  Cond.classLink own ik (ax_exc a) ∈ ax_gw ∧ Cond.initialized (ax_exc a) ∈ ax_gw ∧ Bundle.fit (ax_exc a) = true ∧ (ax_ThS nest own ik ic a ∨ ∃ ix rx, ax_ThX nest own ik ic a ix rx)
theorem ax_kept {H H1 : Heap} (hP : va_P G.1 vwCl (ax_cells G d) H) (hq : ∀ q : Nat, q < H.size → H1[q]? = H[q]?) : va_P G.1 vwCl (ax_cells G d) H1 := fun k q hk => (hP k q hk).kept (hq _ (hP k q hk).lt)
theorem ax_e_t {a ik is ic : Nat} {text : String} (E : ax_Env ldc nest thr p s m args c cc G (ax_A G s.heap.size) nL own ws) (hl : l.stackTraces = false) (hth : ax_Th nest own ik ic a) (hthr : (own, is, text) ∈ thr) (hlocks : meth.locks = false) (ht : ∀ x ∈ c.exceptionTable.toList, False)
    (d0 : decode cc pc = .ok (.new ik, 3)) (d3 : decode cc (pc + 3) = .ok (.dup, 1)) (d4 : decode cc (pc + 4) = .ok (.ldc is, 2)) (d6 : decode cc (pc + 6) = .ok (.invokespecial ic, 3)) (d9 : decode cc (pc + 9) = .ok (.athrow, 1))
    (hRf : 5 < R.frames) (hRl : ax_cats r + 82 ≤ R.locals) (hRc : ee + 1 ≤ R.cells) (hRs : 6 * ee + 6 ≤ R.slots) :
    ax_Tr p l e R s m args below meth c (ax_MQ below G args s (d, ee + 1, Sum.inr a)) G (ax_A G s.heap.size) nL 0 0 pc lo r d ee := by
  intro H locs ls hlv ho hv hP hD hS
  obtain ⟨hx, hb, hml, hown, hgw, hts, hK, hE, hsta, hAk, hAs⟩ := E
  obtain ⟨t1, t2, t3, ⟨t4, t5, t6⟩ | ⟨ix, rx, ⟨x0, x1, x2, x5⟩, t4, t5, t6⟩⟩ := hth
  all_goals obtain ⟨sa, hsa⟩ := hE.2.2.2.2.2.2.1 _ hthr
  · refine vx_throwS (names := ax_names) hx hb hl hown t3 (by decide +kernel) (hts _ (hgw _ t1)) (hts _ (hgw _ t2)) hsa
      (vx_hat (B := nest) (fun w hw => hts _ (hgw _ (t4 w hw))) t5 (fun w hw => va_Nw.use (hsta w hw).1 (hE.2.2.2.2.2.1 w hw)))
      t6 hE.1 hE.2.1 hS (by rw [hlv.1, hml]) d0 d3 d4 d6 d9 (fun x hx => (ht x hx).elim) hRf (by rw [ax_cats_conc]; exact hRl) (by omega) (by omega) hlocks (fun t hA hz hq => ?_) hS.2.2 (by show 0 + ee + 1 ≤ ee + 1; omega) (by show 0 + 6 * ee + 6 ≤ 6 * (ee + 1); omega)
    refine ⟨⟨a, rfl, rfl⟩, ax_kept hP hq, ⟨Nat.le_trans hS.1 hz, fun q h1 h2 => ?_⟩⟩
    rw [hq q (Nat.lt_of_lt_of_le h1 hS.1)]
    exact hS.2.1 q h1 h2
  · refine ax_throwX (names := ["java/lang/Exception"]) (Y9 := "java/lang/RuntimeException") hx hb hl x0 x1 x2 x5 (by decide +kernel) hown t3 (by decide +kernel) (hts _ (hgw _ t1)) (hts _ (hgw _ t2)) hsa
      (vx_hat (B := nest) (fun w hw => hts _ (hgw _ (t4 w hw))) t5 (fun w hw => va_Nw.use (hsta w hw).1 (hE.2.2.2.2.2.1 w hw)))
      t6 hE.1 hE.2.1 hS (by rw [hlv.1, hml]) d0 d3 d4 d6 d9 (fun x hx => (ht x hx).elim) hRf (by rw [ax_cats_conc]; exact hRl) (by omega) (by omega) hlocks (fun t hA hz hq => ?_) hS.2.2 (by show 0 + ee + 1 ≤ ee + 1; omega) (by show 0 + 6 * ee + 6 ≤ 6 * (ee + 1); omega)
    refine ⟨⟨a, rfl, rfl⟩, ax_kept hP hq, ⟨Nat.le_trans hS.1 hz, fun q h1 h2 => ?_⟩⟩
    rw [hq q (Nat.lt_of_lt_of_le h1 hS.1)]
    exact hS.2.1 q h1 h2
/-- a copy from row to row -/
def ax_cpok (k1 j1 k2 j2 : Nat) (sp dp n : Int32) : Bool :=
  (ax_isA k1 j1 && (ax_isA k2 j2 && !(Nat.beq k1 4 && Nat.beq j1 1))) && (!(Nat.beq k2 4 && Nat.beq j2 1) && ((!(decide (sp < 0)) && !(decide (dp < 0))) && (!(decide (n < 0)) && (Nat.ble (sp.toNatClampNeg + n.toNatClampNeg) (ax_len k1 j1) && Nat.ble (dp.toNatClampNeg + n.toNatClampNeg) (ax_len k2 j2)))))
theorem ax_t_copy {k1 i1 j1 k2 i2 j2 : Nat} {sp dp n : Int32} (E : ax_Env ldc nest thr p s m args c cc G A nL own ws) (hl : Cond.methodLink own idx arraycopyName ∈ ax_gw) (h1 : Cond.native arraycopyName ∈ ax_gw) (h2 : Cond.static arraycopyName ∈ ax_gw) (h3 : Cond.initialized "java/lang/System" ∈ ax_gw)
    (hok : ax_cpok k1 j1 k2 j2 sp dp n = true) (hRf : 1 ≤ R.frames) (hRl : ax_cats r + 18 ≤ R.locals) (hd : decode cc pc = .ok (.invokestatic idx, 3))
    (k : ax_Tr p l e R s m args below meth c Q G A nL c0 s0 (pc + 3) lo r (ax_set d k2 i2 j2 (va_cpy (ax_row d k1 i1 j1) (ax_row d k2 i2 j2) sp.toNatClampNeg dp.toNatClampNeg n.toNatClampNeg)) ee) :
    ax_Tr p l e R s m args below meth c Q G A nL c0 s0 pc lo (Sum.inl n :: Sum.inl dp :: ax_vR k2 i2 j2 :: Sum.inl sp :: ax_vR k1 i1 j1 :: r) d ee := by
  intro H locs ls hlv ho hv hP hD hS
  obtain ⟨hx, hb, hml, hown, hgw, hts, hK, hE, hsta, hAk, hAs⟩ := E
  unfold ax_cpok at hok
  simp only [Bool.and_eq_true, Bool.not_eq_true', decide_eq_false_iff_not] at hok
  obtain ⟨⟨a1, a2, a3⟩, a4, ⟨a5, a6⟩, a7, a8, a9⟩ := hok
  have hv1 := ax_okT hv
  have hv2 := ax_okT hv1
  have hv3 := ax_okT (ax_okT hv2)
  have hkey2 := ax_key_of (ax_okH hv2) (by have := (ax_A_lt a2).1; omega)
  have hkey1 := ax_key_of (ax_okH hv3) (by have := (ax_A_lt a1).1; omega)
  obtain ⟨q1, hn1, -⟩ := ax_cells_get G d hkey1
  obtain ⟨q2, hn2, hq2⟩ := ax_cells_get G d hkey2
  rw [ax_ent_A a1, a3] at hn1
  rw [ax_ent_A a2, a4] at hn2
  have hset : (ax_cells G d).set q2 (G.2.2.1 k2 i2 j2, .inl (cond false (G.2.1 1) (G.2.1 0), (ax_len k2 j2, .inl (va_cpy (ax_row d k1 i1 j1) (ax_row d k2 i2 j2) sp.toNatClampNeg dp.toNatClampNeg n.toNatClampNeg)))) = ax_cells G (ax_set d k2 i2 j2 (va_cpy (ax_row d k1 i1 j1) (ax_row d k2 i2 j2) sp.toNatClampNeg dp.toNatClampNeg n.toNatClampNeg)) :=
    ax_cells_set hq2 (by rw [ax_ent_A a2, a4, ax_row_same]) (ax_ent_set_ne hkey2)
  refine va_copyi hx hb (by rw [hlv.1, hml]) hown (hts _ (hgw _ hl)) (hts _ (hgw _ h1)) (hts _ (hgw _ h2)) (hts _ (hgw _ h3)) hK hP hD hS q1 q2 0 0 hn1 hn2 rfl rfl rfl a5 a6 a7 (Nat.le_of_ble_eq_true a8) (Nat.le_of_ble_eq_true a9) (fun _ _ => rfl) hRf (by rw [ax_cats_conc]; show _ + (7 + 11) ≤ _; omega) hd (fun H1 locs1 hP1 hD1 hS1 => ?_)
  exact k H1 locs1 ls hlv ho (ax_okT hv3) (Eq.mp (congrArg (fun w => va_P G.1 vwCl w H1) hset) hP1) (Eq.mp (congrArg (fun w => va_D A w) hset) hD1) hS1
theorem ax_t_ldc {a : Nat} {tx : String} (E : ax_Env ldc nest thr p s m args c cc G A nL own ws) (hl : (own, idx, tx, a) ∈ ldc) (ha : a < ax_nstr) (hd : decode cc pc = .ok (.ldc idx, 2))
    (k : ax_Tr p l e R s m args below meth c Q G A nL c0 s0 (pc + 2) lo (ax_vR 13 a 0 :: r) d ee) : ax_Tr p l e R s m args below meth c Q G A nL c0 s0 pc lo r d ee := by
  intro H locs ls hlv ho hv hP hD hS
  obtain ⟨hx, hb, hml, hown, hgw, hts, hK, hE, hsta, hAk, hAs⟩ := E
  exact va_ldcS hx hb hown (hE.2.2.2.2.1 _ hl) hd (k H locs ls hlv ho (ax_okC (Or.inr (Or.inr ⟨rfl, ha, by show 0 < 2; decide⟩)) hv) hP hD hS)
theorem ax_t_lcmp (hx : p.tables.exec = Jvm.exec) (hb : c.code = cc) {x y : Int64} (hd : decode cc pc = .ok (.lcmp, 1))
    (k : ax_Tr p l e R s m args below meth c Q G A nL c0 s0 (pc + 1) lo (Sum.inl (lg_cmp x y) :: r) d ee) : ax_Tr p l e R s m args below meth c Q G A nL c0 s0 pc lo (Sum.inr (Sum.inl y) :: Sum.inr (Sum.inl x) :: r) d ee := by
  intro H locs ls hl ho hv hP hD hS
  exact W.lcmp hx hb hd (k H locs ls hl ho (ax_okI (ax_okT (ax_okT hv))) hP hD hS)
theorem ax_t_fdiv (hx : p.tables.exec = Jvm.exec) (hb : c.code = cc) {x y : UInt32} (hd : decode cc pc = .ok (.fdiv, 1)) (hn : vf_n32 (FP.fdiv x y))
    (k : ax_Tr p l e R s m args below meth c Q G A nL c0 s0 (pc + 1) lo (Sum.inr (Sum.inr (Sum.inl (FP.fdiv x y))) :: r) d ee) : ax_Tr p l e R s m args below meth c Q G A nL c0 s0 pc lo (Sum.inr (Sum.inr (Sum.inl y)) :: Sum.inr (Sum.inr (Sum.inl x)) :: r) d ee := by
  intro H locs ls hl ho hv hP hD hS
  exact lv_fdiv hx hb hd hn (k H locs ls hl ho (ax_okC trivial (ax_okT (ax_okT hv))) hP hD hS)
theorem ax_t_ddiv (hx : p.tables.exec = Jvm.exec) (hb : c.code = cc) {x y : UInt64} (hd : decode cc pc = .ok (.ddiv, 1)) (hn : vf_n64 (FP.ddiv x y))
    (k : ax_Tr p l e R s m args below meth c Q G A nL c0 s0 (pc + 1) lo (Sum.inr (Sum.inr (Sum.inr (Sum.inl (FP.ddiv x y)))) :: r) d ee) : ax_Tr p l e R s m args below meth c Q G A nL c0 s0 pc lo (Sum.inr (Sum.inr (Sum.inr (Sum.inl y))) :: Sum.inr (Sum.inr (Sum.inr (Sum.inl x))) :: r) d ee := by
  intro H locs ls hl ho hv hP hD hS
  exact lv_ddiv hx hb hd hn (k H locs ls hl ho (ax_okC trivial (ax_okT (ax_okT hv))) hP hD hS)
theorem ax_t_f2d (hx : p.tables.exec = Jvm.exec) (hb : c.code = cc) {x : UInt32} (hd : decode cc pc = .ok (.f2d, 1)) (hn : vf_n64 (FP.f2d x))
    (k : ax_Tr p l e R s m args below meth c Q G A nL c0 s0 (pc + 1) lo (Sum.inr (Sum.inr (Sum.inr (Sum.inl (FP.f2d x)))) :: r) d ee) : ax_Tr p l e R s m args below meth c Q G A nL c0 s0 pc lo (Sum.inr (Sum.inr (Sum.inl x)) :: r) d ee := by
  intro H locs ls hl ho hv hP hD hS
  exact lv_f2d hx hb hd hn (k H locs ls hl ho (ax_okC trivial (ax_okT hv)) hP hD hS)
theorem ax_text {i j : Nat} (h : ax_vok (ax_vR 13 i j)) : i < ax_nstr := by
  rcases h with z | z | z
  · have := (ax_keys_lt _ z).1
    simp at this
  · cases z
  · exact z.2.1
theorem ax_t_sv {i : Nat} (E : ax_Env ldc nest thr p s m args c cc G A nL own ws) (hl : Cond.fieldLink own idx "java/lang/String" "value" "[B" ∈ ax_gw) (hd : decode cc pc = .ok (.getfield idx, 3))
    (k : ax_Tr p l e R s m args below meth c Q G A nL c0 s0 (pc + 3) lo (ax_vR 13 i 1 :: r) d ee) : ax_Tr p l e R s m args below meth c Q G A nL c0 s0 pc lo (ax_vR 13 i 0 :: r) d ee := by
  intro H locs ls hlv ho hv hP hD hS
  obtain ⟨hx, hb, hml, hown, hgw, hts, hK, hE, hsta, hAk, hAs⟩ := E
  have hi := ax_text (ax_okH hv)
  obtain ⟨cf, kf, fi, f, cell, h1, h2, h3, h4, h5, h6⟩ := ((hE.2.2.1.kept (fun a h1 h2 => hS.2.1 a h1 h2)).1 i hi).2.2.1
  exact W.getf hx hb hown (hts _ (hgw _ hl)) h1 h2 h3 h4 (v := .ref (G.2.2.1 13 i 1)) h5 rfl rfl hd (k H locs ls hlv ho (ax_okC (Or.inr (Or.inr ⟨rfl, hi, by show 1 < 2; decide⟩)) (ax_okT hv)) hP hD hS)
theorem ax_t_sc {i : Nat} (E : ax_Env ldc nest thr p s m args c cc G A nL own ws) (hl : Cond.fieldLink own idx "java/lang/String" "coder" "B" ∈ ax_gw) (hd : decode cc pc = .ok (.getfield idx, 3))
    (k : ax_Tr p l e R s m args below meth c Q G A nL c0 s0 (pc + 3) lo (Sum.inl 0 :: r) d ee) : ax_Tr p l e R s m args below meth c Q G A nL c0 s0 pc lo (ax_vR 13 i 0 :: r) d ee := by
  intro H locs ls hlv ho hv hP hD hS
  obtain ⟨hx, hb, hml, hown, hgw, hts, hK, hE, hsta, hAk, hAs⟩ := E
  have hi := ax_text (ax_okH hv)
  obtain ⟨cf, kf, fi, f, cell, h1, h2, h3, h4, h5, h6⟩ := ((hE.2.2.1.kept (fun a h1 h2 => hS.2.1 a h1 h2)).1 i hi).2.1
  exact W.getf hx hb hown (hts _ (hgw _ hl)) h1 h2 h3 h4 (v := .int 0) h5 rfl rfl hd (k H locs ls hlv ho (ax_okI (ax_okT hv)) hP hD hS)
theorem ax_t_sl {i : Nat} (E : ax_Env ldc nest thr p s m args c cc G A nL own ws) (hd : decode cc pc = .ok (.arraylength, 1))
    (k : ax_Tr p l e R s m args below meth c Q G A nL c0 s0 (pc + 1) lo (Sum.inl (Int32.ofNat (ax_lenS.getD i 0)) :: r) d ee) : ax_Tr p l e R s m args below meth c Q G A nL c0 s0 pc lo (ax_vR 13 i 1 :: r) d ee := by
  intro H locs ls hlv ho hv hP hD hS
  obtain ⟨hx, hb, hml, hown, hgw, hts, hK, hE, hsta, hAk, hAs⟩ := E
  exact va_tlen hx hb (hE.2.2.1.1 i (ax_text (ax_okH hv))).2.2.2 hS rfl hd (k H locs ls hlv ho (ax_okI (ax_okT hv)) hP hD hS)
theorem ax_t_sb {i : Nat} {x : Int32} (E : ax_Env ldc nest thr p s m args c cc G A nL own ws) (hi : ax_in x (ax_lenS.getD i 0) = true) (hd : decode cc pc = .ok (.baload, 1))
    (k : ax_Tr p l e R s m args below meth c Q G A nL c0 s0 (pc + 1) lo (Sum.inl ((ax_bytS.getD i []).getD x.toNatClampNeg 0) :: r) d ee) : ax_Tr p l e R s m args below meth c Q G A nL c0 s0 pc lo (Sum.inl x :: ax_vR 13 i 1 :: r) d ee := by
  intro H locs ls hlv ho hv hP hD hS
  obtain ⟨hx, hb, hml, hown, hgw, hts, hK, hE, hsta, hAk, hAs⟩ := E
  exact va_tb hx hb (hE.2.2.1.1 i (ax_text (ax_okH (ax_okT hv)))).2.2.2 hS (ax_in_vp hi) rfl hd (k H locs ls hlv ho (ax_okI (ax_okT (ax_okT hv))) hP hD hS)
theorem ax_t_gs (E : ax_Env ldc nest thr p s m args c cc G A nL own ws) (hl : Cond.fieldLink own idx "java/lang/String" "COMPACT_STRINGS" "Z" ∈ ax_gw) (hd : decode cc pc = .ok (.getstatic idx, 3))
    (k : ax_Tr p l e R s m args below meth c Q G A nL c0 s0 (pc + 3) lo (Sum.inl 1 :: r) d ee) : ax_Tr p l e R s m args below meth c Q G A nL c0 s0 pc lo r d ee := by
  intro H locs ls hlv ho hv hP hD hS
  obtain ⟨hx, hb, hml, hown, hgw, hts, hK, hE, hsta, hAk, hAs⟩ := E
  exact va_gets hx hb hE.2.2.2.1 hS hown (hts _ (hgw _ hl)) (fun x h => h) hd (k H locs ls hlv ho (ax_okI hv) hP hD hS)
theorem ax_t_max {x y : Int32} (E : ax_Env ldc nest thr p s m args c cc G A nL own ws) (hl : Cond.methodLink own idx Lib.Math.max.name ∈ ax_gw) (h1 : Cond.static Lib.Math.max.name ∈ ax_gw) (h2 : Cond.initialized "java/lang/Math" ∈ ax_gw) (h3 : Cond.code Lib.Math.max.name Lib.Math.max.code 2 (some .int) ∈ ax_gw)
    (hRf : 1 ≤ R.frames) (hRl : ax_cats r + 13 ≤ R.locals) (hRc : c0 + ee ≤ R.cells) (hRs : s0 + 6 * ee ≤ R.slots) (hd : decode cc pc = .ok (.invokestatic idx, 3))
    (k : ax_Tr p l e R s m args below meth c Q G A nL c0 s0 (pc + 3) lo (Sum.inl (if x < y then y else x) :: r) d ee) : ax_Tr p l e R s m args below meth c Q G A nL c0 s0 pc lo (Sum.inl y :: Sum.inl x :: r) d ee := by
  intro H locs ls hlv ho hv hP hD hS
  obtain ⟨hx, hb, hml, hown, hgw, hts, hK, hE, hsta, hAk, hAs⟩ := E
  exact va_mmax hx hb (by rw [hlv.1, hml]) hown (hts _ (hgw _ hl)) (hts _ (hgw _ h1)) (hts _ (hgw _ h2)) (hts _ (hgw _ h3)) hRf (by rw [ax_cats_conc]; exact hRl) hRc hRs hd (k H locs ls hlv ho (ax_okI (ax_okT (ax_okT hv))) hP hD hS)
theorem ax_t_dcmp (hx : p.tables.exec = Jvm.exec) (hb : c.code = cc) {x y : UInt64} {op : Jvm.ClassFile.CmpOp} (hd : decode cc pc = .ok (.dcmp op, 1))
    (k : ax_Tr p l e R s m args below meth c Q G A nL c0 s0 (pc + 1) lo (Sum.inl (Op.cmpValue (FP.dcmp x y) op) :: r) d ee) : ax_Tr p l e R s m args below meth c Q G A nL c0 s0 pc lo (Sum.inr (Sum.inr (Sum.inr (Sum.inl y))) :: Sum.inr (Sum.inr (Sum.inr (Sum.inl x))) :: r) d ee := by
  intro H locs ls hl ho hv hP hD hS
  exact lv_dcmp hx hb hd (k H locs ls hl ho (ax_okI (ax_okT (ax_okT hv))) hP hD hS)
theorem ax_t_dstore (hx : p.tables.exec = Jvm.exec) (hb : c.code = cc) {a : Nat} {x : UInt64} (hd : decode cc pc = .ok (.dstore a, 2)) (ha : a + 1 < nL)
    (k : ax_Tr p l e R s m args below meth c Q G A nL c0 s0 (pc + 2) (ax_store2 lo a (Sum.inr (Sum.inr (Sum.inr (Sum.inl x))))) r d ee) : ax_Tr p l e R s m args below meth c Q G A nL c0 s0 pc lo (Sum.inr (Sum.inr (Sum.inr (Sum.inl x))) :: r) d ee := by
  intro H locs ls hl ho hv hP hD hS
  refine lv_dstore hx hb hd hl ha rfl (fun ls1 hl1 => k H locs ls1 ⟨hl1.1, hl1.2.1, fun q hq => hl1.2.2 q ?_⟩ (fun q hq => ?_) (ax_okT hv) hP hD hS)
  · obtain ⟨z, hz, rfl⟩ := List.mem_map.mp hq
    rcases ax_ins_mem hz with rfl | hz
    · exact List.mem_cons_self
    · obtain ⟨h1, h2⟩ := List.mem_filter.mp hz
      refine List.mem_cons_of_mem _ (List.mem_filter.mpr ⟨List.mem_map.mpr ⟨z, h1, rfl⟩, ?_⟩)
      simp only [ax_cat_conc]
      exact h2
  · rcases ax_ins_mem hq with rfl | hq
    · trivial
    · exact ho q (List.mem_filter.mp hq).1
end AXE
