/-! a whole body: calls, ends, the run -/
def ax_eo (r : Option ax_V ⊕ Nat) : Nat := match r with
  | Sum.inl _ => 0
  | Sum.inr _ => 1
def ax_yy (My : Nat → MethodName) (a : Nat) : MethodName := cond (Nat.beq a 999) arraycopyName (cond (Nat.beq a 998) Lib.Math.max.name (My a))
def ax_cls (k : Nat) : String := cond (Nat.beq k 13) "java/lang/String" (ax_R k)
/-- what the tables say of the methods that are called -/
def ax_MT (nest : List Cond) (id : Nat) (cl nl : List (String × Nat × Nat)) (thl : List (String × Nat × Nat × Nat)) (cst : List (String × Nat × Int32)) (orc : ax_O) (kd Mn Mm : Nat → Nat) (My : Nat → MethodName) (Mb : Nat → ByteArray) (Mr : Nat → Option FieldType) : Prop :=
  (∀ q ∈ cl, Cond.methodLink q.1 q.2.1 (ax_yy My q.2.2) ∈ ax_gw) ∧ (∀ q ∈ nl, (∃ host, Cond.methodLinkNest q.1 q.2.1 (My q.2.2) host ∈ nest) ∧ ∀ as d d' n, orc q.2.2 as d ≠ some (d', Sum.inr n)) ∧
  (∀ a, a < id → ax_Mk (My a) (Mb a) (Mm a) (Mr a) (Mn a)) ∧ (∀ a, a < id → kd a = 99 → Cond.static (My a) ∈ ax_gw) ∧ (∀ a, a < id → ¬ kd a = 99 → (kd a < 10 ∨ kd a = 13) ∧ Cond.instanceMethod (My a) ∈ ax_gw ∧ Cond.selects (ax_cls (kd a)) (My a) (My a) ∈ ax_gw) ∧
  (Cond.native arraycopyName ∈ ax_gw ∧ Cond.static arraycopyName ∈ ax_gw ∧ Cond.initialized "java/lang/System" ∈ ax_gw ∧ Cond.static Lib.Math.max.name ∈ ax_gw ∧ Cond.initialized "java/lang/Math" ∈ ax_gw ∧ Cond.code Lib.Math.max.name Lib.Math.max.code 2 (some .int) ∈ ax_gw) ∧ (∀ q ∈ thl, ax_Th nest q.1 q.2.1 q.2.2.1 q.2.2.2) ∧ (∀ q ∈ cst, Cond.constant q.1 q.2.1 q.2.2 ∈ ax_gw)
/-- the answer's type, by its number -/
def ax_RT (rt : Nat) (ret : Option FieldType) : Prop := (rt = 0 → ret = none) ∧ (rt = 1 → ret = some .int) ∧ (rt = 2 → ret = some .boolean) ∧ (rt = 3 → ret = some .char) ∧ (rt = 4 → ∃ nm, ret = some (.object nm)) ∧ (rt = 5 → ret = some .float) ∧ (rt = 6 → ret = some .double) ∧ (rt = 7 → ret = some .byte)
section AXB
variable {ldc : List (String × Nat × String × Nat)} {nest : List Cond} {thr : List (String × Nat × String)}
variable {p : Program} {l : Launch} {e : Env} {R : Room} {s : State} {m : MethodId} {args : Array Value} {below : List Frame} {meth : Method} {c : Code} {Q : State → Prop} {cc : ByteArray} {G : ax_G} {A : Nat → Prop} {nL c0 s0 : Nat}
variable {pc : Nat} {lo : List (Nat × ax_V)} {st r : List ax_V} {d : ax_D} {ee : Nat} {own : String} {ws : List Cond} {fin : ax_Fin}
variable {id fr lc : Nat} {fl : List (String × Nat × Nat × Nat × Nat)} {cl nl : List (String × Nat × Nat)} {thl : List (String × Nat × Nat × Nat)} {cst : List (String × Nat × Int32)} {orc : ax_O} {kd Mn Mf Ml Mm : Nat → Nat} {My : Nat → MethodName} {Mb : Nat → ByteArray} {Mr : Nat → Option FieldType}
/-- the oracle is right below id -/
def ax_OK (ldc : List (String × Nat × String × Nat)) (nest : List Cond) (thr : List (String × Nat × String)) (l : Launch) (G : ax_G) (id : Nat) (orc : ax_O) (Mf Ml Mm : Nat → Nat) (My : Nat → MethodName) (Mb : Nat → ByteArray) (Mr : Nat → Option FieldType) : Prop :=
  ∀ a, a < id → ∀ as d d' res, orc a as d = some (d', res) → ax_CT ldc nest thr l G (My a) (Cond.code (My a) (Mb a) (Mm a) (Mr a) :: ax_gw) (Mf a) (Ml a) as d (d', ax_eo res, res)
/-- a call of a String's own method -/
theorem ax_t_callT {y : MethodName} {bytes : ByteArray} {maxL n idx i : Nat} {ret : Option FieldType} {as : List ax_V} {f9 l9 : Nat} (E : ax_Env ldc nest thr p s m args c cc G A nL own ws) (hM : ax_CT ldc nest thr l G y (Cond.code y bytes maxL ret :: ax_gw) f9 l9 (ax_vR 13 i 0 :: as) d fin) (hk : ax_Mk y bytes maxL ret n) (hl : Cond.methodLink own idx y ∈ ax_gw) (hin : Cond.instanceMethod y ∈ ax_gw) (hse : Cond.selects "java/lang/String" y y ∈ ax_gw)
    (hn : as.length = n) (hr : ax_cats r ≤ 8) (hR : f9 + 1 ≤ R.frames ∧ 8 + (maxL + 11) + l9 ≤ R.locals) (hf : c0 + ee + fin.2.1 ≤ R.cells ∧ s0 + 6 * ee + 6 * fin.2.1 ≤ R.slots) (hd : decode cc pc = .ok (.invokevirtual idx, 3))
    (kx : ∀ n : Nat, fin.2.2 = Sum.inr n → ax_TX p l e R s m args below meth c Q G A nL c0 s0 pc lo r fin.1 (ee + fin.2.1) n)
    (kr : ∀ rv : Option ax_V, fin.2.2 = Sum.inl rv → ax_Tr p l e R s m args below meth c Q G A nL c0 s0 (pc + 3) lo (rv.toList ++ r) fin.1 (ee + fin.2.1)) :
    ax_Tr p l e R s m args below meth c Q G A nL c0 s0 pc lo (as.reverse ++ (ax_vR 13 i 0 :: r)) d ee := by
  intro H locs ls hlv ho hv hP hD hS
  have E' := E
  obtain ⟨hx, hb, hml, hown, hgw, hts, hK, hE, hsta, hAk, hAs⟩ := E
  have hvb : ax_vok (ax_vR 13 i 0) := hv _ (List.mem_append_right _ List.mem_cons_self)
  have hva : ∀ v ∈ ax_vR 13 i 0 :: as, ax_vok v := fun v h => (List.mem_cons.mp h).elim (fun e => by rw [e]; exact hvb) (fun h => hv v (List.mem_append_left _ (List.mem_reverse.mpr h)))
  have hvr : ∀ v ∈ r, ax_vok v := fun v h => hv v (List.mem_append_right _ (List.mem_cons_of_mem _ h))
  have hi : i < ax_nstr := by
    rcases hvb with z | z | z
    · have := (ax_keys_lt _ z).1
      simp at this
    · cases z
    · exact z.2.1
  have hrec : ∃ cellB : Cell, H[G.2.2.1 13 i 0]? = some cellB ∧ cellB.vm.isStatics = false ∧ s.vm.findClass "java/lang/String" = some cellB.cls := by
    obtain ⟨cell, q1, q2, q3, -⟩ := ((hE.2.2.1.kept (fun a h1 h2 => hS.2.1 a h1 h2)).1 i hi).1
    exact ⟨cell, q1, q2, q3⟩
  have hrun := vx_runV (e := e) (below := below) (meth := meth) (As := as.map (ax_conc G)) (rest := r.map (ax_conc G)) (g := F0 m pc ls ((as.reverse ++ (ax_vR 13 i 0 :: r)).map (ax_conc G))) (n := n) (cells := c0 + ee) (slots := s0 + 6 * ee) (locs := locs) (H := H) (C := "java/lang/String") (b := G.2.2.1 13 i 0) ⟨hx, hb, hml, hown, hts⟩ (hM H.size)
    (And.intro (callB_of (R := R) (own := own) (index := idx) (bytes := bytes) (maxL := maxL) (ret := ret) n hts (ax_goodIn hgw hk.1) rfl rfl rfl (hts _ (hgw _ hk.2.1)) (hts _ (hgw _ hl)) hk.2.2 hR) (And.intro (hts _ (hgw _ hin)) (hts _ (hgw _ hse))))
    ⟨ax_blind hsta G _ d H.size, hrec, ax_pre E' hva hP hD hS⟩ rfl (by rw [List.length_map]; exact hn) hlv.1 (by simp [List.map_append, List.map_reverse, ax_conc]) (lv_room (by rw [ax_cats_conc]; exact hr)) hd hf
  exact ax_t_run hrun hAk hAs hlv ho hvr hD hS kx kr
theorem ax_tk (b : Nat) (st : List ax_V) : st = (st.take b).reverse.reverse ++ st.drop b := by rw [List.reverse_reverse, List.take_append_drop]
section AXBI
variable {sc : Bool × Nat × (Nat → Int32)} {len b9 : Nat} {lit : Int32} {sw : List (Int32 × Nat)} {k : ax_K}
theorem ax_f_v {a ci : Nat} (h : ax_go kd orc sc .return_ len a b9 ci lit sw k pc lo st d ee = some fin) : st = [] ∧ (d, ee, Sum.inl none) = fin := by
  have h : (match (generalizing := false) st with
    | [] => some (d, ee, Sum.inl none)
    | _ => none) = some fin := h
  split at h
  · exact ⟨rfl, Option.some.inj h⟩
  · cases h
theorem ax_f_n {a ci ik : Nat} (h : ax_go kd orc sc (.new ik) len a b9 ci lit sw k pc lo st d ee = some fin) : st = [] ∧ (d, ee + 1, Sum.inr a) = fin := by
  have h : (match (generalizing := false) st with
    | [] => some (d, ee + 1, Sum.inr a)
    | _ => none) = some fin := h
  split at h
  · exact ⟨rfl, Option.some.inj h⟩
  · cases h
theorem ax_f_i {a ci : Nat} (h : ax_go kd orc sc .ireturn len a b9 ci lit sw k pc lo st d ee = some fin) : ∃ x, st = [Sum.inl x] ∧ (Nat.beq ci 1 || (Nat.beq ci 2 && (decide (x = 0) || decide (x = 1)) || (Nat.beq ci 3 && decide (vp_nar .char x = x) || Nat.beq ci 7 && decide (vp_nar .byte x = x)))) = true ∧ (d, ee, Sum.inl (some (Sum.inl x))) = fin := by
  have h : (match (generalizing := false) st with
    | [Sum.inl x] => cond (Nat.beq ci 1 || (Nat.beq ci 2 && (decide (x = 0) || decide (x = 1)) || (Nat.beq ci 3 && decide (vp_nar .char x = x) || Nat.beq ci 7 && decide (vp_nar .byte x = x)))) (some (d, ee, Sum.inl (some (Sum.inl x)))) none
    | _ => none) = some fin := h
  split at h
  · obtain ⟨h1, h2⟩ := ax_c1 h
    exact ⟨_, rfl, h1, Option.some.inj h2⟩
  · cases h
theorem ax_f_r {a ci : Nat} (h : ax_go kd orc sc .areturn len a b9 ci lit sw k pc lo st d ee = some fin) : ∃ q, st = [Sum.inr (Sum.inr (Sum.inr (Sum.inr q)))] ∧ (d, ee, Sum.inl (some (Sum.inr (Sum.inr (Sum.inr (Sum.inr q)))))) = fin := by
  have h : (match (generalizing := false) st with
    | [Sum.inr (Sum.inr (Sum.inr (Sum.inr q)))] => some (d, ee, Sum.inl (some (Sum.inr (Sum.inr (Sum.inr (Sum.inr q))))))
    | _ => none) = some fin := h
  split at h
  · exact ⟨_, rfl, Option.some.inj h⟩
  · cases h
theorem ax_f_f {a ci : Nat} (h : ax_go kd orc sc .freturn len a b9 ci lit sw k pc lo st d ee = some fin) : ∃ x, st = [Sum.inr (Sum.inr (Sum.inl x))] ∧ (d, ee, Sum.inl (some (Sum.inr (Sum.inr (Sum.inl x))))) = fin := by
  have h : (match (generalizing := false) st with
    | [Sum.inr (Sum.inr (Sum.inl x))] => some (d, ee, Sum.inl (some (Sum.inr (Sum.inr (Sum.inl x)))))
    | _ => none) = some fin := h
  split at h
  · exact ⟨_, rfl, Option.some.inj h⟩
  · cases h
theorem ax_f_d {a ci : Nat} (h : ax_go kd orc sc .dreturn len a b9 ci lit sw k pc lo st d ee = some fin) : ∃ x, st = [Sum.inr (Sum.inr (Sum.inr (Sum.inl x)))] ∧ (d, ee, Sum.inl (some (Sum.inr (Sum.inr (Sum.inr (Sum.inl x)))))) = fin := by
  have h : (match (generalizing := false) st with
    | [Sum.inr (Sum.inr (Sum.inr (Sum.inl x)))] => some (d, ee, Sum.inl (some (Sum.inr (Sum.inr (Sum.inr (Sum.inl x))))))
    | _ => none) = some fin := h
  split at h
  · exact ⟨_, rfl, Option.some.inj h⟩
  · cases h
end AXBI
theorem ax_e_tW {a ik is ic : Nat} {text : String} (E : ax_Env ldc nest thr p s m args c cc G (ax_A G s.heap.size) nL own ws) (hl : l.stackTraces = false) (hth : ax_Th nest own ik ic a) (hthr : (own, is, text) ∈ thr) (hlocks : meth.locks = false) (ht : ∀ x ∈ c.exceptionTable.toList, False)
    (d0 : decode cc pc = .ok (.new ik, 3)) (d3 : decode cc (pc + 3) = .ok (.dup, 1)) (d4 : decode cc (pc + 4) = .ok (.ldc_w is, 3)) (d6 : decode cc (pc + 7) = .ok (.invokespecial ic, 3)) (d9 : decode cc (pc + 10) = .ok (.athrow, 1))
    (hRf : 5 < R.frames) (hRl : ax_cats r + 82 ≤ R.locals) (hRc : ee + 1 ≤ R.cells) (hRs : 6 * ee + 6 ≤ R.slots) :
    ax_Tr p l e R s m args below meth c (ax_MQ below G args s (d, ee + 1, Sum.inr a)) G (ax_A G s.heap.size) nL 0 0 pc lo r d ee := by
  intro H locs ls hlv ho hv hP hD hS
  obtain ⟨hx, hb, hml, hown, hgw, hts, hK, hE, hsta, hAk, hAs⟩ := E
  obtain ⟨t1, t2, t3, ⟨t4, t5, t6⟩ | ⟨ix, rx, ⟨x0, x1, x2, x5⟩, t4, t5, t6⟩⟩ := hth
  all_goals obtain ⟨sa, hsa⟩ := hE.2.2.2.2.2.2.1 _ hthr
  · refine vx_throwSW (names := ax_names) hx hb hl hown t3 (by decide +kernel) (hts _ (hgw _ t1)) (hts _ (hgw _ t2)) hsa
      (vx_hat (B := nest) (fun w hw => hts _ (hgw _ (t4 w hw))) t5 (fun w hw => va_Nw.use (hsta w hw).1 (hE.2.2.2.2.2.1 w hw)))
      t6 hE.1 hE.2.1 hS (by rw [hlv.1, hml]) d0 d3 d4 d6 d9 (fun x hx => (ht x hx).elim) hRf (by rw [ax_cats_conc]; exact hRl) (by omega) (by omega) hlocks (fun t hA hz hq => ?_) hS.2.2 (by show 0 + ee + 1 ≤ ee + 1; omega) (by show 0 + 6 * ee + 6 ≤ 6 * (ee + 1); omega)
    refine ⟨⟨a, rfl, rfl⟩, ax_kept hP hq, ⟨Nat.le_trans hS.1 hz, fun q h1 h2 => ?_⟩⟩
    rw [hq q (Nat.lt_of_lt_of_le h1 hS.1)]
    exact hS.2.1 q h1 h2
  · refine ax_throwXW (names := ["java/lang/Exception"]) (Y9 := "java/lang/RuntimeException") hx hb hl x0 x1 x2 x5 (by decide +kernel) hown t3 (by decide +kernel) (hts _ (hgw _ t1)) (hts _ (hgw _ t2)) hsa
      (vx_hat (B := nest) (fun w hw => hts _ (hgw _ (t4 w hw))) t5 (fun w hw => va_Nw.use (hsta w hw).1 (hE.2.2.2.2.2.1 w hw)))
      t6 hE.1 hE.2.1 hS (by rw [hlv.1, hml]) d0 d3 d4 d6 d9 (fun x hx => (ht x hx).elim) hRf (by rw [ax_cats_conc]; exact hRl) (by omega) (by omega) hlocks (fun t hA hz hq => ?_) hS.2.2 (by show 0 + ee + 1 ≤ ee + 1; omega) (by show 0 + 6 * ee + 6 ≤ 6 * (ee + 1); omega)
    refine ⟨⟨a, rfl, rfl⟩, ax_kept hP hq, ⟨Nat.le_trans hS.1 hz, fun q h1 h2 => ?_⟩⟩
    rw [hq q (Nat.lt_of_lt_of_le h1 hS.1)]
    exact hS.2.1 q h1 h2
set_option maxHeartbeats 4000000 in
theorem ax_go_snd {rt : Nat} {sc : Bool × Nat × (Nat → Int32)} {i : Jvm.ClassFile.Instr} {len a b ci : Nat} {lit : Int32} {sw : List (Int32 × Nat)} {k : ax_K}
    (E : ax_Env ldc nest thr p s m args c cc G (ax_A G s.heap.size) nL own ws) (hlocks : meth.locks = false) (ht : ∀ x ∈ c.exceptionTable.toList, False) (hst : l.stackTraces = false) (hRT : ax_RT rt meth.sig.returnType) (hR : R = ax_rm fr lc fin) (hfl : ax_FL fl) (hT : ax_MT nest id cl nl thl cst orc kd Mn Mm My Mb Mr)
    (hO : ax_OK ldc nest thr l G id orc Mf Ml Mm My Mb Mr) (hX : sc.1 = false) (hid : id ≤ 998)
    (hg : ax_gB nL rt fr lc id own fl cl nl ldc kd Mn Mf Ml Mm thr thl cst cc pc i len a b ci lit sw = true) (h : ax_go kd orc sc i len a b ci lit sw k pc lo st d ee = some fin)
    (kk : ∀ pc lo st d e9, k pc lo st d e9 = some fin → e9 ≤ fin.2.1 ∧ ax_Tr p l e R s m args below meth c (ax_MQ below G args s fin) G (ax_A G s.heap.size) nL 0 0 pc lo st d e9) : ee ≤ fin.2.1 ∧ ax_Tr p l e R s m args below meth c (ax_MQ below G args s fin) G (ax_A G s.heap.size) nL 0 0 pc lo st d ee := by
  have hop : ∀ {i}, ax_gB nL rt fr lc id own fl cl nl ldc kd Mn Mf Ml Mm thr thl cst cc pc i len a b ci lit sw = true → ax_op sc i a b ci lit sw (pc + len) k lo st d ee = some fin → ee ≤ fin.2.1 ∧ ax_Tr p l e R s m args below meth c (ax_MQ below G args s fin) G (ax_A G s.heap.size) nL 0 0 pc lo st d ee :=
    fun hg h => ax_op_snd E hfl hT.2.2.2.2.2.2.2 (fun z => by rw [hX] at z; cases z) hg h kk
  have hg0 := hg
  cases i with
  | invokestatic idx =>
    obtain ⟨hd, hg⟩ := ax_an hg
    have hd := of_decide_eq_true hd
    obtain ⟨h1, h2⟩ := ax_an hg
    have hlen := Nat.eq_of_beq_eq_true h1
    subst hlen
    rcases ax_c2 (b := Nat.beq a 999) h with ⟨g1, g2⟩ | ⟨g1, g2⟩
    · rw [g1] at h2
      obtain ⟨h3, h4⟩ := ax_an h2
      obtain ⟨h4, h5⟩ := ax_an h4
      have ea : a = 999 := Nat.eq_of_beq_eq_true g1
      have hl := hT.1 _ (of_decide_eq_true h5)
      have hl : Cond.methodLink own idx arraycopyName ∈ ax_gw := by
        have e9 : ax_yy My a = arraycopyName := by unfold ax_yy; rw [g1]; rfl
        rw [← e9]
        exact hl
      have g3 : ∃ (n dp sp : Int32) (k2 i2 j2 k1 i1 j1 : Nat) (r : List ax_V), st = Sum.inl n :: Sum.inl dp :: ax_vR k2 i2 j2 :: Sum.inl sp :: ax_vR k1 i1 j1 :: r ∧ cond (ax_cpok k1 j1 k2 j2 sp dp n && Nat.ble (ax_cats r) 8) (k (pc + 3) lo r (ax_set d k2 i2 j2 (va_cpy (ax_row d k1 i1 j1) (ax_row d k2 i2 j2) sp.toNatClampNeg dp.toNatClampNeg n.toNatClampNeg)) ee) none = some fin := by
        unfold ax_cop at g2
        split at g2
        · exact ⟨_, _, _, _, _, _, _, _, _, _, rfl, g2⟩
        · cases g2
      obtain ⟨n, dp, sp, k2, i2, j2, k1, i1, j1, r, rfl, g4⟩ := g3
      obtain ⟨g5, g6⟩ := ax_c1 g4
      obtain ⟨g5, g7⟩ := ax_an g5
      have q1 := Nat.le_of_ble_eq_true h3
      have q2 := Nat.le_of_ble_eq_true h4
      have q3 := Nat.le_of_ble_eq_true g7
      exact (kk _ _ _ _ _ g6).imp (fun z => z) (ax_t_copy E hl hT.2.2.2.2.2.1.1 hT.2.2.2.2.2.1.2.1 hT.2.2.2.2.2.1.2.2.1 g5 (by rw [hR]; exact q2) (by rw [hR]; show ax_cats r + 18 ≤ lc; omega) hd)
    · rw [g1] at h2
      have h2 : cond (Nat.beq a 998) (Nat.ble 26 lc && (Nat.ble 1 fr && decide ((own, idx, a) ∈ cl))) (Nat.blt a id && (Nat.beq (kd a) 99 && (Nat.beq b (Mn a) && ((decide ((own, idx, a) ∈ cl) || decide ((own, idx, a) ∈ nl)) && (Nat.ble (Mf a + 1) fr && Nat.ble (8 + (Mm a + 11) + Ml a) lc))))) = true := h2
      rcases ax_c2 (b := Nat.beq a 998) g2 with ⟨g9, g2⟩ | ⟨g9, g2⟩
      · rw [g9] at h2
        obtain ⟨h3, h4⟩ := ax_an h2
        obtain ⟨h4, h5⟩ := ax_an h4
        have hl := hT.1 _ (of_decide_eq_true h5)
        have hl : Cond.methodLink own idx Lib.Math.max.name ∈ ax_gw := by
          have e9 : ax_yy My a = Lib.Math.max.name := by unfold ax_yy; rw [g1, g9]; rfl
          rw [← e9]
          exact hl
        have g3 : ∃ (y x : Int32) (r : List ax_V), st = Sum.inl y :: Sum.inl x :: r ∧ cond (Nat.ble (ax_cats r) 8) (k (pc + 3) lo (Sum.inl (if x < y then y else x) :: r) d ee) none = some fin := by
          unfold ax_mop at g2
          split at g2
          · exact ⟨_, _, _, rfl, g2⟩
          · cases g2
        obtain ⟨y, x, r, rfl, g4⟩ := g3
        obtain ⟨g5, g6⟩ := ax_c1 g4
        have q1 := Nat.le_of_ble_eq_true h3
        have q2 := Nat.le_of_ble_eq_true h4
        have q3 := Nat.le_of_ble_eq_true g5
        have hkk := kk _ _ _ _ _ g6
        exact hkk.imp (fun z => z) (ax_t_max E hl hT.2.2.2.2.2.1.2.2.2.1 hT.2.2.2.2.2.1.2.2.2.2.1 hT.2.2.2.2.2.1.2.2.2.2.2 (by rw [hR]; exact q2) (by rw [hR]; show ax_cats r + 13 ≤ lc; omega) (by rw [hR]; show 0 + ee ≤ fin.2.1; have := hkk.1; omega) (by rw [hR]; show 0 + 6 * ee ≤ 6 * fin.2.1; have := hkk.1; omega) hd)
      rw [g9] at h2
      obtain ⟨h3, h4⟩ := ax_an h2
      obtain ⟨h4, h5⟩ := ax_an h4
      obtain ⟨h5, h6⟩ := ax_an h5
      obtain ⟨h6, h7⟩ := ax_an h6
      obtain ⟨h7, h8⟩ := ax_an h7
      have ha : a < id := Nat.le_of_ble_eq_true h3
      have hkd := Nat.eq_of_beq_eq_true h4
      have hbn := Nat.eq_of_beq_eq_true h5
      have hyy : ax_yy My a = My a := by unfold ax_yy; rw [g1, g9]; rfl
      obtain ⟨g3, g4⟩ := ax_c1 g2
      obtain ⟨g5, g6⟩ := ax_c1 g4
      have hlt : b ≤ st.length := Nat.le_of_ble_eq_true g3
      have hcr := Nat.le_of_ble_eq_true g5
      have hln : (st.take b).reverse.length = Mn a := by rw [List.length_reverse, List.length_take, ← hbn]; omega
      rw [ax_tk b st]
      rcases ax_ret_inv g6 with ⟨d', rv, ho, hk⟩ | ⟨d', n, ho, hk⟩
      · have hkk := kk _ _ _ _ _ hk
        refine ⟨hkk.1, ?_⟩
        have hct := hO a ha _ _ _ _ ho
        have hfit : 0 + ee + ax_eo (Sum.inl rv : Option ax_V ⊕ Nat) ≤ R.cells ∧ 0 + 6 * ee + 6 * ax_eo (Sum.inl rv : Option ax_V ⊕ Nat) ≤ R.slots := by
          rw [hR]
          show 0 + ee + 0 ≤ fin.2.1 ∧ 0 + 6 * ee + 6 * 0 ≤ 6 * fin.2.1
          omega
        rcases (Bool.or_eq_true _ _).mp h6 with z | z
        · have hl := hT.1 _ (of_decide_eq_true z)
          rw [hyy] at hl
          exact ax_t_callS (fin := (d', ax_eo (Sum.inl rv : Option ax_V ⊕ Nat), Sum.inl rv)) E hct (hT.2.2.1 a ha) hl (hT.2.2.2.1 a ha hkd) hln hcr (by rw [hR]; exact ⟨Nat.le_of_ble_eq_true h7, Nat.le_of_ble_eq_true h8⟩) hfit hd (fun n q => by cases q) (fun rv2 q => by cases q; exact hkk.2)
        · obtain ⟨⟨host, hn1⟩, hn2⟩ := hT.2.1 _ (of_decide_eq_true z)
          exact ax_t_callN (fin := (d', ax_eo (Sum.inl rv : Option ax_V ⊕ Nat), Sum.inl rv)) E hct (hT.2.2.1 a ha) hn1 (hT.2.2.2.1 a ha hkd) (fun n q => by cases q) hln hcr (by rw [hR]; exact ⟨Nat.le_of_ble_eq_true h7, Nat.le_of_ble_eq_true h8⟩) hfit hd (fun rv2 q => by cases q; exact hkk.2)
      · cases hk
        refine ⟨Nat.le_succ ee, ?_⟩
        have hct := hO a ha _ _ _ _ ho
        have hfit : 0 + ee + ax_eo (Sum.inr n : Option ax_V ⊕ Nat) ≤ R.cells ∧ 0 + 6 * ee + 6 * ax_eo (Sum.inr n : Option ax_V ⊕ Nat) ≤ R.slots := by
          rw [hR]
          show 0 + ee + 1 ≤ ee + 1 ∧ 0 + 6 * ee + 6 * 1 ≤ 6 * (ee + 1)
          omega
        rcases (Bool.or_eq_true _ _).mp h6 with z | z
        · have hl := hT.1 _ (of_decide_eq_true z)
          rw [hyy] at hl
          exact ax_t_callS (fin := (d', ax_eo (Sum.inr n : Option ax_V ⊕ Nat), Sum.inr n)) E hct (hT.2.2.1 a ha) hl (hT.2.2.2.1 a ha hkd) hln hcr (by rw [hR]; exact ⟨Nat.le_of_ble_eq_true h7, Nat.le_of_ble_eq_true h8⟩) hfit hd (fun n2 q => by cases q; exact ax_e_x hlocks ht) (fun rv2 q => by cases q)
        · exact absurd ho ((hT.2.1 _ (of_decide_eq_true z)).2 _ _ _ _)
  | invokevirtual idx =>
    obtain ⟨hd, hg⟩ := ax_an hg
    have hd := of_decide_eq_true hd
    obtain ⟨h1, h2⟩ := ax_an hg
    have hlen := Nat.eq_of_beq_eq_true h1
    subst hlen
    obtain ⟨h3, h4⟩ := ax_an h2
    obtain ⟨h4, h5⟩ := ax_an h4
    obtain ⟨h5, h6⟩ := ax_an h5
    obtain ⟨h6, h7⟩ := ax_an h6
    obtain ⟨h7, h8⟩ := ax_an h7
    have ha : a < id := Nat.le_of_ble_eq_true h3
    have hkd : ¬ kd a = 99 := fun z => by rw [z] at h4; cases h4
    have hbn := Nat.eq_of_beq_eq_true h5
    have hne : Nat.beq a 999 = false ∨ ax_yy My a = My a ∨ True := Or.inr (Or.inr trivial)
    obtain ⟨g3, g4⟩ := ax_c1 (b := Nat.ble b st.length) h
    have hlt : b ≤ st.length := Nat.le_of_ble_eq_true g3
    have hln : (st.take b).reverse.length = Mn a := by rw [List.length_reverse, List.length_take, ← hbn]; omega
    have g5 : ∃ (kz ii jj : Nat) (r : List ax_V), st.drop b = ax_vR kz ii jj :: r ∧ cond (Nat.beq kz (kd a) && Nat.beq jj 0) (ax_inv orc a ci pc k lo (ax_vR (kd a) ii 0 :: (st.take b).reverse) r d ee) none = some fin := by
      unfold ax_ivr at g4
      split at g4
      · rename_i kz ii jj r heq
        exact ⟨kz, ii, jj, r, heq, g4⟩
      · cases g4
    obtain ⟨kz, ii, jj, r, hdr, g6⟩ := g5
    obtain ⟨g7, g8⟩ := ax_c1 g6
    obtain ⟨e1, e2⟩ := ax_an g7
    have e1 := Nat.eq_of_beq_eq_true e1
    have e2 := Nat.eq_of_beq_eq_true e2
    subst e1
    subst e2
    obtain ⟨g5, g6⟩ := ax_c1 g8
    have hcr := Nat.le_of_ble_eq_true g5
    rw [ax_tk b st, hdr]
    obtain ⟨v1, v2, v3⟩ := hT.2.2.2.2.1 a ha hkd
    have hl := hT.1 _ (of_decide_eq_true h6)
    have hyy : ax_yy My a = My a := by
      unfold ax_yy
      cases hb9 : Nat.beq a 999 with
      | false =>
        cases hb8 : Nat.beq a 998 with
        | false => rfl
        | true =>
          have := Nat.eq_of_beq_eq_true hb8
          omega
      | true =>
        have := Nat.eq_of_beq_eq_true hb9
        omega
    rw [hyy] at hl
    have key : ∀ fin9 : ax_Fin, ax_CT ldc nest thr l G (My a) (Cond.code (My a) (Mb a) (Mm a) (Mr a) :: ax_gw) (Mf a) (Ml a) (ax_vR (kd a) ii 0 :: (st.take b).reverse) d fin9 → (0 + ee + fin9.2.1 ≤ R.cells ∧ 0 + 6 * ee + 6 * fin9.2.1 ≤ R.slots) →
        (∀ n : Nat, fin9.2.2 = Sum.inr n → ax_TX p l e R s m args below meth c (ax_MQ below G args s fin) G (ax_A G s.heap.size) nL 0 0 pc lo r fin9.1 (ee + fin9.2.1) n) →
        (∀ rv : Option ax_V, fin9.2.2 = Sum.inl rv → ax_Tr p l e R s m args below meth c (ax_MQ below G args s fin) G (ax_A G s.heap.size) nL 0 0 (pc + 3) lo (rv.toList ++ r) fin9.1 (ee + fin9.2.1)) →
        ax_Tr p l e R s m args below meth c (ax_MQ below G args s fin) G (ax_A G s.heap.size) nL 0 0 pc lo ((st.take b).reverse.reverse ++ (ax_vR (kd a) ii 0 :: r)) d ee := by
      intro fin9 hct hfit kx kr
      have hRR : Mf a + 1 ≤ R.frames ∧ 8 + (Mm a + 11) + Ml a ≤ R.locals := by
        rw [hR]
        exact ⟨Nat.le_of_ble_eq_true h7, Nat.le_of_ble_eq_true h8⟩
      rcases v1 with hk10 | hk13
      · have hc9 : ax_cls (kd a) = ax_R (kd a) := by
          unfold ax_cls
          cases hb9 : Nat.beq (kd a) 13 with
          | false => rfl
          | true =>
            have := Nat.eq_of_beq_eq_true hb9
            omega
        rw [hc9] at v3
        exact ax_t_callV E hct (hT.2.2.1 a ha) hl v2 v3 hk10 hln hcr hRR hfit hd kx kr
      · rw [hk13] at hct v3 ⊢
        exact ax_t_callT E hct (hT.2.2.1 a ha) hl v2 v3 hln hcr hRR hfit hd kx kr
    rcases ax_ret_inv g6 with ⟨d', rv, ho, hk⟩ | ⟨d', n, ho, hk⟩
    · have hkk := kk _ _ _ _ _ hk
      refine ⟨hkk.1, key (d', ax_eo (Sum.inl rv : Option ax_V ⊕ Nat), Sum.inl rv) (hO a ha _ _ _ _ ho) ?_ (fun n q => by cases q) (fun rv2 q => by cases q; exact hkk.2)⟩
      rw [hR]
      show 0 + ee + 0 ≤ fin.2.1 ∧ 0 + 6 * ee + 6 * 0 ≤ 6 * fin.2.1
      omega
    · cases hk
      refine ⟨Nat.le_succ ee, key (d', ax_eo (Sum.inr n : Option ax_V ⊕ Nat), Sum.inr n) (hO a ha _ _ _ _ ho) ?_ (fun n2 q => by cases q; exact ax_e_x hlocks ht) (fun rv2 q => by cases q)⟩
      rw [hR]
      show 0 + ee + 1 ≤ ee + 1 ∧ 0 + 6 * ee + 6 * 1 ≤ 6 * (ee + 1)
      omega
  | return_ =>
    obtain ⟨hd, hg⟩ := ax_an hg
    have hd := of_decide_eq_true hd
    obtain ⟨h1, h2⟩ := ax_an hg
    have hlen := Nat.eq_of_beq_eq_true h1
    subst hlen
    obtain ⟨rfl, rfl⟩ := ax_f_v h
    exact ⟨Nat.le_refl _, ax_e_v E.1 E.2.1 hlocks (hRT.1 (Nat.eq_of_beq_eq_true h2)) hd⟩
  | ireturn =>
    obtain ⟨hd, hg⟩ := ax_an hg
    have hd := of_decide_eq_true hd
    obtain ⟨h1, h2⟩ := ax_an hg
    have hlen := Nat.eq_of_beq_eq_true h1
    subst hlen
    have hc := Nat.eq_of_beq_eq_true h2
    subst hc
    obtain ⟨x, rfl, hx9, rfl⟩ := ax_f_i h
    refine ⟨Nat.le_refl _, ?_⟩
    rcases (Bool.or_eq_true _ _).mp hx9 with z | z
    · exact ax_e_i E.1 E.2.1 hlocks (hRT.2.1 (Nat.eq_of_beq_eq_true z)) rfl hd
    · rcases (Bool.or_eq_true _ _).mp z with z | z
      · obtain ⟨z1, z2⟩ := ax_an z
        have hn : narrow .boolean (.int x) = .int x := by
          rcases (Bool.or_eq_true _ _).mp z2 with z3 | z3
          · rw [of_decide_eq_true z3]; decide
          · rw [of_decide_eq_true z3]; decide
        exact ax_e_i E.1 E.2.1 hlocks (hRT.2.2.1 (Nat.eq_of_beq_eq_true z1)) hn hd
      · rcases (Bool.or_eq_true _ _).mp z with z | z
        · obtain ⟨z1, z2⟩ := ax_an z
          have hn : narrow .char (.int x) = .int x := by
            have z3 : vp_nar .char x = x := of_decide_eq_true z2
            have z4 : narrow .char (.int x) = .int (vp_nar .char x) := rfl
            rw [z4, z3]
          exact ax_e_i E.1 E.2.1 hlocks (hRT.2.2.2.1 (Nat.eq_of_beq_eq_true z1)) hn hd
        · obtain ⟨z1, z2⟩ := ax_an z
          have hn : narrow .byte (.int x) = .int x := by
            have z3 : vp_nar .byte x = x := of_decide_eq_true z2
            have z4 : narrow .byte (.int x) = .int (vp_nar .byte x) := rfl
            rw [z4, z3]
          exact ax_e_i E.1 E.2.1 hlocks (hRT.2.2.2.2.2.2.2 (Nat.eq_of_beq_eq_true z1)) hn hd
  | areturn =>
    obtain ⟨hd, hg⟩ := ax_an hg
    have hd := of_decide_eq_true hd
    obtain ⟨h1, h2⟩ := ax_an hg
    have hlen := Nat.eq_of_beq_eq_true h1
    subst hlen
    obtain ⟨q, rfl, rfl⟩ := ax_f_r h
    obtain ⟨nm, hnm⟩ := hRT.2.2.2.2.1 (Nat.eq_of_beq_eq_true h2)
    exact ⟨Nat.le_refl _, ax_e_r E.1 E.2.1 hlocks hnm hd⟩
  | freturn =>
    obtain ⟨hd, hg⟩ := ax_an hg
    have hd := of_decide_eq_true hd
    obtain ⟨h1, h2⟩ := ax_an hg
    have hlen := Nat.eq_of_beq_eq_true h1
    subst hlen
    obtain ⟨x, rfl, rfl⟩ := ax_f_f h
    exact ⟨Nat.le_refl _, ax_e_f E.1 E.2.1 hlocks (hRT.2.2.2.2.2.1 (Nat.eq_of_beq_eq_true h2)) hd⟩
  | dreturn =>
    obtain ⟨hd, hg⟩ := ax_an hg
    have hd := of_decide_eq_true hd
    obtain ⟨h1, h2⟩ := ax_an hg
    have hlen := Nat.eq_of_beq_eq_true h1
    subst hlen
    obtain ⟨x, rfl, rfl⟩ := ax_f_d h
    exact ⟨Nat.le_refl _, ax_e_d E.1 E.2.1 hlocks (hRT.2.2.2.2.2.2.1 (Nat.eq_of_beq_eq_true h2)) hd⟩
  | new ik =>
    have hlen := of_decide_eq_true (ax_an (ax_an (ax_an (ax_an (ax_an (ax_an (ax_an hg).2).2).2).2).2).2).1
    subst hlen
    obtain ⟨hd, hg⟩ := ax_an hg
    have hd := of_decide_eq_true hd
    obtain ⟨u1, w9⟩ := ax_an hg
    obtain ⟨u2, w8⟩ := ax_an w9
    obtain ⟨u3, w7⟩ := ax_an w8
    obtain ⟨u4, w6⟩ := ax_an w7
    obtain ⟨u5, w5⟩ := ax_an w6
    obtain ⟨u6, u7⟩ := ax_an w5
    obtain ⟨rfl, rfl⟩ := ax_f_n h
    refine ⟨Nat.le_succ ee, ?_⟩
    have q1 := Nat.le_of_ble_eq_true u1
    have q2 := Nat.le_of_ble_eq_true u2
    have hth := hT.2.2.2.2.2.2.1 _ (of_decide_eq_true u4)
    obtain ⟨q, hq, z⟩ := List.any_eq_true.mp u5
    obtain ⟨z1, z2⟩ := ax_an z
    have hq2 : (own, ci, q.2.2) ∈ thr := by
      have e1 := of_decide_eq_true z1
      have e2 := Nat.eq_of_beq_eq_true z2
      rw [← e1, ← e2]
      exact hq
    have hf : 5 < R.frames := by rw [hR]; exact q1
    have hl : ax_cats [] + 82 ≤ R.locals := by rw [hR]; show 0 + 82 ≤ lc; omega
    have hc : ee + 1 ≤ R.cells := by rw [hR]; exact Nat.le_refl _
    have hs : 6 * ee + 6 ≤ R.slots := by rw [hR]; show 6 * ee + 6 ≤ 6 * (ee + 1); omega
    cases hsw : Nat.beq sw.length 0 with
    | true =>
      rw [hsw] at u7
      obtain ⟨w1, w2⟩ := ax_an u7
      obtain ⟨w2, w3⟩ := ax_an w2
      exact ax_e_t E hst hth hq2 hlocks ht hd (of_decide_eq_true u3) (of_decide_eq_true w1) (of_decide_eq_true w2) (of_decide_eq_true w3) hf hl hc hs
    | false =>
      rw [hsw] at u7
      obtain ⟨w1, w2⟩ := ax_an u7
      obtain ⟨w2, w3⟩ := ax_an w2
      exact ax_e_tW E hst hth hq2 hlocks ht hd (of_decide_eq_true u3) (of_decide_eq_true w1) (of_decide_eq_true w2) (of_decide_eq_true w3) hf hl hc hs
  | _ => exact hop hg0 h
/-- a method's table: every entry is what its code says -/
def ax_good (nL rt fr lc id : Nat) (own : String) (fl : List (String × Nat × Nat × Nat × Nat)) (cl nl : List (String × Nat × Nat)) (ldc : List (String × Nat × String × Nat)) (kd Mn Mf Ml Mm : Nat → Nat) (thr : List (String × Nat × String)) (thl : List (String × Nat × Nat × Nat)) (cst : List (String × Nat × Int32)) (cc : ByteArray) (tb : Nat → Option ax_En) : Prop :=
  ∀ pc en, tb pc = some en → ax_gB nL rt fr lc id own fl cl nl ldc kd Mn Mf Ml Mm thr thl cst cc pc en.1 en.2.1 en.2.2.1 en.2.2.2.1 en.2.2.2.2.1 en.2.2.2.2.2.1 en.2.2.2.2.2.2 = true
theorem ax_run_snd {rt : Nat} {sc : Bool × Nat × (Nat → Int32)} {tb : Nat → Option ax_En}
    (E : ax_Env ldc nest thr p s m args c cc G (ax_A G s.heap.size) nL own ws) (hlocks : meth.locks = false) (ht : ∀ x ∈ c.exceptionTable.toList, False) (hst : l.stackTraces = false) (hRT : ax_RT rt meth.sig.returnType) (hR : R = ax_rm fr lc fin) (hfl : ax_FL fl) (hT : ax_MT nest id cl nl thl cst orc kd Mn Mm My Mb Mr)
    (hO : ax_OK ldc nest thr l G id orc Mf Ml Mm My Mb Mr) (hX : sc.1 = false) (hid : id ≤ 998) (hg : ax_good nL rt fr lc id own fl cl nl ldc kd Mn Mf Ml Mm thr thl cst cc tb) :
    ∀ (n : Nat) (pc : Nat) (lo : List (Nat × ax_V)) (st : List ax_V) (d : ax_D) (ee : Nat), ax_run kd orc sc tb n pc lo st d ee = some fin → ee ≤ fin.2.1 ∧ ax_Tr p l e R s m args below meth c (ax_MQ below G args s fin) G (ax_A G s.heap.size) nL 0 0 pc lo st d ee := by
  intro n
  induction n with
  | zero => intro pc lo st d ee h; cases h
  | succ n ih =>
    intro pc lo st d ee h
    have h : ax_step kd orc sc tb (ax_run kd orc sc tb n) pc lo st d ee = some fin := h
    unfold ax_step at h
    split at h
    · cases h
    · rename_i en heq
      exact ax_go_snd E hlocks ht hst hRT hR hfl hT hO hX hid (hg pc en heq) h ih
def ax_args : Nat → List ax_V → List (Nat × ax_V)
  | _, [] => []
  | i, v :: r => (i, v) :: ax_args (cond (Nat.beq (ax_cat v) 2) (i + 2) (i + 1)) r
theorem ax_args_cl (G : ax_G) : ∀ (as : List ax_V) (i : Nat), lv_args i (as.map (ax_conc G)) = ax_cl G (ax_args i as) := by
  intro as
  induction as with
  | nil => intro i; rfl
  | cons v r ih =>
    intro i
    show (i, ax_conc G v) :: lv_args (if (ax_conc G v).category = 2 then i + 2 else i + 1) (r.map (ax_conc G)) = (i, ax_conc G v) :: ax_cl G (ax_args (cond (Nat.beq (ax_cat v) 2) (i + 2) (i + 1)) r)
    rw [ih, ax_cat_conc]
    by_cases h : ax_cat v = 2
    · rw [if_pos h, h]; rfl
    · have h2 : Nat.beq (ax_cat v) 2 = false := by
        cases hb : Nat.beq (ax_cat v) 2 with
        | false => rfl
        | true => exact absurd (Nat.eq_of_beq_eq_true hb) h
      rw [if_neg h, h2]; rfl
theorem ax_args_ok : ∀ (as : List ax_V) (i : Nat), (∀ v ∈ as, ax_vok v) → ∀ q ∈ ax_args i as, ax_vok q.2 := by
  intro as
  induction as with
  | nil => intro i _ q hq; cases hq
  | cons v r ih =>
    intro i h q hq
    rcases List.mem_cons.mp hq with rfl | hq
    · exact h v List.mem_cons_self
    · exact ih _ (fun w hw => h w (List.mem_cons_of_mem _ hw)) q hq
theorem ax_sl_len (G : ax_G) (as : List ax_V) : (lg_sl (as.map (ax_conc G))).length = ax_cats as := by
  induction as with
  | nil => rfl
  | cons v r ih =>
    have h1 : lg_sl ((v :: r).map (ax_conc G)) = (if (ax_conc G v).category = 2 then [.val (ax_conc G v), .second] else [.val (ax_conc G v)]) ++ lg_sl (r.map (ax_conc G)) := rfl
    rw [h1, List.length_append, ih]
    show _ = ax_cat v + ax_cats r
    rw [ax_cat_conc]
    rcases v with x | x | x | x | x <;> rfl
/-- the body's run gives the method's contract -/
theorem ax_met {rt : Nat} {tb : Nat → Option ax_En} {y : MethodName} {maxL n : Nat} {ret : Option FieldType} {as : List ax_V} (hy : plainName y.cls = true) (hown : y.cls = own)
    (hRT : ax_RT rt ret) (hsta : ax_stable nest) (hst : l.stackTraces = false) (hfl : ax_FL fl) (hT : ax_MT nest id cl nl thl cst orc kd Mn Mm My Mb Mr) (hO : ax_OK ldc nest thr l G id orc Mf Ml Mm My Mb Mr) (hid : id ≤ 998)
    (hg : ax_good maxL rt fr lc id own fl cl nl ldc kd Mn Mf Ml Mm thr thl cst cc tb) (hml : ax_cats as ≤ maxL) (h : ax_run kd orc (false, 0, fun _ => 0) tb n 0 (ax_args 0 as) [] d 0 = some fin) :
    ax_CT ldc nest thr l G y (Cond.code y cc maxL ret :: ax_gw) fr lc as d fin := by
  intro sz
  refine vx_ofW (cc := cc) (maxL := maxL) (ret := ret) hy rfl ?_
  intro p e s m args below meth c s₁ B hml2 ht hv
  obtain ⟨rfl, hsz, hvs, hP, hK, hD, hE⟩ := hv
  subst hsz
  have hE9 : ax_Env ldc nest thr p s m (as.map (ax_conc G)).toArray c cc G (ax_A G s.heap.size) maxL own (Cond.code y cc maxL ret :: ax_gw) :=
    ⟨B.exec, B.bytes, hml2, by rw [← hown]; exact findClass_of_methodNamed B.named, fun w hw => List.mem_cons_of_mem _ hw, atoms_spec (ws := Cond.code y cc maxL ret :: ax_gw) B.pre, hK, hE, hsta, fun r hr => Or.inl ⟨r, hr, rfl⟩, fun q hq => Or.inr hq⟩
  have hl := lv_entry (as.map (ax_conc G)) (n := maxL) (by rw [ax_sl_len]; exact hml)
  rw [lg_entry_eq]
  generalize (lg_sl (as.map (ax_conc G)) ++ List.replicate (maxL - (lg_sl (as.map (ax_conc G))).length) Slot.unset).toArray = ls at hl ⊢
  rw [ax_args_cl] at hl
  have hD9 : va_D (ax_A G s.heap.size) (ax_cells G d) := by
    refine ⟨hD.1, fun k q hk => Or.inl ?_⟩
    unfold ax_cells at hk
    rw [List.getElem?_map] at hk
    cases hkk : ax_keys[k]? with
    | none => rw [hkk] at hk; cases hk
    | some r =>
      rw [hkk] at hk
      refine ⟨r, List.mem_of_getElem? hkk, ?_⟩
      have := Option.some.inj hk
      rw [← this]
  have hw := (ax_run_snd (fin := fin) (R := (headSpec (Cond.code y cc maxL ret :: ax_gw) (ax_rm fr lc fin)).room) (below := below) (e := e) hE9 B.notSynchronized (fun x hx => ht x hx) hst (by rw [B.returns]; exact hRT) rfl hfl hT hO rfl hid hg n 0 (ax_args 0 as) [] d 0 h).2
  have hw2 := hw s.heap [] ls hl (ax_args_ok as 0 hvs) (fun v hv => by cases hv) hP hD9 va_S.rf
  exact hw2
end AXB
