/-! contracts of methods over the abstract machine, calls, ends -/
def ax_gw : List Cond := lw_tbl.filter goodWord
def ax_exc (n : Nat) : String := match n with
  | 0 => "java/lang/IllegalStateException"
  | 1 => "java/lang/IllegalArgumentException"
  | 2 => "java/lang/IndexOutOfBoundsException"
  | 3 => "java/lang/UnsupportedOperationException"
  | 4 => "java/util/NoSuchElementException"
  | _ => "java/lang/ArithmeticException"
/-- what of the start's heap and tables must be known besides: throwing, the texts, the nest -/
def ax_Ext (ldc : List (String × Nat × String × Nat)) (nest : List Cond) (thr : List (String × Nat × String)) (G : ax_G) (A : Nat → Prop) (U : State) (H : Heap) : Prop :=
  vx_Zq Bundle.tN "UNASSIGNED_STACK" Bundle.steD A U H ∧ vx_Zq Bundle.tN "SUPPRESSED_SENTINEL" Bundle.listD A U H ∧ vk_S ax_nstr ax_lenS ax_bytS (fun i => G.2.2.1 13 i 0) (fun i => G.2.2.1 13 i 1) A U H ∧ va_Z "java/lang/String" "COMPACT_STRINGS" "Z" (.int 1) A U H ∧
  (∀ q ∈ ldc, vk_R q.1 q.2.1 q.2.2.1 (G.2.2.1 13 q.2.2.2 0) U) ∧ (∀ w ∈ nest, va_Nw w U) ∧ (∀ q ∈ thr, ∃ a : Nat, vk_R q.1 q.2.1 q.2.2 a U) ∧ va_Zq "jdk/internal/util/Preconditions" "SIOOBE_FORMATTER" "Ljava/util/function/BiFunction;" A U H
section AXC
variable {ldc : List (String × Nat × String × Nat)} {nest : List Cond} {thr : List (String × Nat × String)}
def ax_stable (nest : List Cond) : Prop := ∀ w ∈ nest, w.onTables = true ∧ ∀ s U : State, s.WarmedH U.vm → va_Nw w s → va_Nw w U
theorem ax_Ext.on (hn : ax_stable nest) {G : ax_G} {A B : Nat → Prop} {s U : State} {H : Heap} (h : ax_Ext ldc nest thr G A s s.heap) (hW : s.WarmedH U.vm) (hq : ∀ a : Nat, a < s.heap.size → ¬ A a → H[a]? = s.heap[a]?) (hAB : ∀ q, B q → A q) : ax_Ext ldc nest thr G B U H := by
  obtain ⟨h1, h2, h3, h4, h5, h6, h7, h8⟩ := h
  refine ⟨((h1.moved hW.alike).kept hq).narrow hAB, ((h2.moved hW.alike).kept hq).narrow hAB, ((h3.moved hW.alike).kept hq).narrow hAB, ((h4.moved hW.alike).kept hq).narrow hAB, fun q hq' => (h5 q hq').warm hW, fun w hw => (hn w hw).2 s U hW (h6 w hw), fun q hq' => ?_, ((h8.moved hW.alike).kept hq).narrow hAB⟩
  obtain ⟨a, ha⟩ := h7 q hq'
  exact ⟨a, ha.warm hW⟩
/-- a method's start -/
def ax_Pc (ldc : List (String × Nat × String × Nat)) (nest : List Cond) (thr : List (String × Nat × String)) (G : ax_G) (as : List ax_V) (d : ax_D) (sz : Nat) : Array Value → State → Prop :=
  va_Pc (as.map (ax_conc G)) (fun U => U.heap.size = sz ∧ (∀ v ∈ as, ax_vok v) ∧ va_P G.1 vwCl (ax_cells G d) U.heap ∧ va_K G.1 vwCl (ax_tys G) U ∧ va_D (fun _ => True) (ax_cells G d) ∧ ax_Ext ldc nest thr G (ax_A G sz) U U.heap)
def ax_Qc (G : ax_G) (fin : ax_Fin) (sz : Nat) : Array Value → State → Outcome → State → Prop := fun _ st o t =>
  ∃ rv : Option ax_V, fin.2.2 = Sum.inl rv ∧ o = .returned (rv.map (ax_conc G)) ∧ (∀ v ∈ rv.toList, ax_vok v) ∧ va_P G.1 vwCl (ax_cells G fin.1) t.heap ∧ va_F (ax_A G sz) st t
def ax_XC (G : ax_G) (fin : ax_Fin) (sz : Nat) : String → State → State → Prop := fun E st t =>
  (∃ n : Nat, fin.2.2 = Sum.inr n ∧ E = ax_exc n) ∧ va_P G.1 vwCl (ax_cells G fin.1) t.heap ∧ va_F (ax_A G sz) st t
abbrev ax_rm (fr lc : Nat) (fin : ax_Fin) : Room := { frames := fr, cells := fin.2.1, slots := 6 * fin.2.1, locals := lc }
/-- a method's contract at one start: what it does there -/
def ax_CT (ldc : List (String × Nat × String × Nat)) (nest : List Cond) (thr : List (String × Nat × String)) (l : Launch) (G : ax_G) (y : MethodName) (ws : List Cond) (fr lc : Nat) (as : List ax_V) (d : ax_D) (fin : ax_Fin) : Prop :=
  ∀ sz : Nat, vx_Met l y ws (ax_rm fr lc fin) (ax_Pc ldc nest thr G as d sz) (ax_Qc G fin sz) (ax_XC G fin sz) fin.2.1 (6 * fin.2.1) (ax_A G sz)
theorem ax_blind (hn : ax_stable nest) (G : ax_G) (as : List ax_V) (d : ax_D) (sz : Nat) : FrameBlind (ax_Pc ldc nest thr G as d sz) := by
  intro a U g mk h
  obtain ⟨h0, h1, h2, h3, h4, h5, h6⟩ := h
  refine ⟨h0, h1, h2, h3, va_K.moved (u := U) (U := U.calling g mk a) (Vm.Alike.refl U.vm) h4, h5, ?_⟩
  obtain ⟨g1, g2, g3, g4, g5, g6, g7, g8⟩ := h6
  have hv : U.vm.Alike (U.calling g mk a).vm := Vm.Alike.refl U.vm
  refine ⟨g1.moved hv, g2.moved hv, g3.moved hv, g4.moved hv, fun q hq => (g5 q hq).same rfl, fun w hw => ?_, fun q hq => ?_, g8.moved hv⟩
  · exact va_Nw.same (u := U) (U := U.calling g mk a) (hn w hw).1 rfl (g6 w hw)
  · obtain ⟨x, hx⟩ := g7 q hq
    exact ⟨x, hx.same rfl⟩
theorem ax_D_any {G : ax_G} {A : Nat → Prop} {d d' : ax_D} (h : va_D A (ax_cells G d)) : va_D A (ax_cells G d') := by
  have key : ∀ (i : Nat) (q : Nat × va_E), (ax_cells G d')[i]? = some q → ∃ x : va_E, (ax_cells G d)[i]? = some (q.1, x) := by
    intro i q hq
    unfold ax_cells at hq ⊢
    rw [List.getElem?_map] at hq ⊢
    cases hk : ax_keys[i]? with
    | none => rw [hk] at hq; cases hq
    | some r =>
      rw [hk] at hq
      have e := Option.some.inj hq
      subst e
      exact ⟨_, rfl⟩
  refine ⟨fun i j x y hi hj hxy => ?_, fun i q hq => ?_⟩
  · obtain ⟨x', hx'⟩ := key i x hi
    obtain ⟨y', hy'⟩ := key j y hj
    exact h.1 i j _ _ hx' hy' hxy
  · obtain ⟨x', hx'⟩ := key i q hq
    exact h.2 i (q.1, x') hx'
theorem ax_A_of {G : ax_G} {A : Nat → Prop} {s : State} {H : Heap} {locs : List Loc} (hAk : ∀ r ∈ ax_keys, A (G.2.2.1 r.1 r.2.1 r.2.2)) (hAs : ∀ q : Nat, s.heap.size ≤ q → A q) (hS : va_S A s.heap H locs) : ∀ q, ax_A G H.size q → A q := by
  intro q h
  rcases h with ⟨r, hr, rfl⟩ | h
  · exact hAk r hr
  · exact hAs q (Nat.le_trans hS.1 h)
variable {p : Program} {l : Launch} {e : Env} {R : Room} {s : State} {m : MethodId} {args : Array Value} {below : List Frame} {meth : Method} {c : Code} {Q : State → Prop} {cc : ByteArray} {G : ax_G} {A : Nat → Prop} {nL c0 s0 : Nat}
variable {pc : Nat} {lo : List (Nat × ax_V)} {r : List ax_V} {d : ax_D} {ee : Nat} {own : String} {fin : ax_Fin}
/-- the method's frame at pc with an exception of the class n thrown over it -/
def ax_TX (p : Program) (l : Launch) (e : Env) (R : Room) (s : State) (m : MethodId) (args : Array Value) (below : List Frame) (meth : Method) (c : Code) (Q : State → Prop) (G : ax_G) (A : Nat → Prop) (nL c0 s0 : Nat) (pc : Nat) (lo : List (Nat × ax_V)) (st : List ax_V) (d : ax_D) (ee n : Nat) : Prop :=
  ∀ (H : Heap) (locs : List Loc) (ls : Array Slot) (ce : Cell) (q : Addr), lv_has ls nL (ax_cl G lo) → (∀ q ∈ lo, ax_vok q.2) → (∀ v ∈ st, ax_vok v) → va_P G.1 vwCl (ax_cells G d) H → va_D A (ax_cells G d) → va_S A s.heap H locs →
    H[q]? = some ce → ce.vm = .none → s.vm.findClass (ax_exc n) = some ce.cls → vx_W p l e R s m args below meth c H locs (c0 + ee) (s0 + 6 * ee) Q (F0 m pc ls (st.map (ax_conc G))) q
theorem ax_t_run {H : Heap} {locs : List Loc} {ls : Array Slot} {a : Array Value} {st0 : List Value}
    (hr : vx_Run p l e R s m args below meth c H locs (c0 + ee) (s0 + 6 * ee) fin.2.1 (6 * fin.2.1) (F0 m pc ls st0) (r.map (ax_conc G)) (ax_Qc G fin H.size a) (ax_XC G fin H.size) (ax_A G H.size))
    (hAk : ∀ r ∈ ax_keys, A (G.2.2.1 r.1 r.2.1 r.2.2)) (hAs : ∀ q : Nat, s.heap.size ≤ q → A q)
    (hlv : lv_has ls nL (ax_cl G lo)) (ho : ∀ q ∈ lo, ax_vok q.2) (hv : ∀ v ∈ r, ax_vok v) (hD : va_D A (ax_cells G d)) (hS : va_S A s.heap H locs)
    (kx : ∀ n : Nat, fin.2.2 = Sum.inr n → ax_TX p l e R s m args below meth c Q G A nL c0 s0 pc lo r fin.1 (ee + fin.2.1) n)
    (kr : ∀ rv : Option ax_V, fin.2.2 = Sum.inl rv → ax_Tr p l e R s m args below meth c Q G A nL c0 s0 (pc + 3) lo (rv.toList ++ r) fin.1 (ee + fin.2.1)) :
    W p l e R s m args below meth c H locs (c0 + ee) (s0 + 6 * ee) Q (F0 m pc ls st0) := by
  have hA := ax_A_of hAk hAs hS
  have e1 : c0 + (ee + fin.2.1) = c0 + ee + fin.2.1 := by omega
  have e2 : s0 + 6 * (ee + fin.2.1) = s0 + 6 * ee + 6 * fin.2.1 := by omega
  intro T hT X
  rcases hr T hT X with ⟨v, st₀, t, T', L, h0, X', hL, q1, q2, ⟨rv, hf, ho1, hvr, hP1, hF⟩, st⟩ | ⟨q, st₀, t, T', L, E, ce, h0, X', hL, q1, q2, ⟨⟨n, hf, hE⟩, hP1, hF⟩, hce, hcv, hcl, st⟩
  · obtain ⟨k1, k2, k3⟩ := vx_keep h0 q1 hS (fun q _ h => hA q h) hA hL hF
    have hvv : v = rv.map (ax_conc G) := by
      cases ho1
      rfl
    have hkk := kr rv hf T'.heap (locs ++ L) ls hlv ho (fun w hw => (List.mem_append.mp hw).elim (hvr w) (hv w)) (by rw [q1]; exact hP1) (ax_D_any hD) k3
    rw [e1, e2] at hkk
    obtain ⟨t2, a1, b1⟩ := hkk T' rfl X'
    refine ⟨t2, st t2 ?_, b1⟩
    have e3 : (rv.toList ++ r).map (ax_conc G) = v.toList ++ r.map (ax_conc G) := by
      rw [hvv]
      cases rv <;> rfl
    rw [e3] at a1
    exact a1
  · obtain ⟨k1, k2, k3⟩ := vx_keep h0 q1 hS (fun q _ h => hA q h) hA hL hF
    have hkk := kx n hf T'.heap (locs ++ L) ls ce q hlv ho hv (by rw [q1]; exact hP1) (ax_D_any hD) k3 (by rw [q1]; exact hce) hcv (by rw [← hE]; exact hcl)
    rw [e1, e2] at hkk
    obtain ⟨t2, a1, b1⟩ := hkk T' rfl X'
    exact ⟨t2, st.trans a1, b1⟩
/-- what is fixed through a body -/
abbrev ax_Env (ldc : List (String × Nat × String × Nat)) (nest : List Cond) (thr : List (String × Nat × String)) (p : Program) (s : State) (m : MethodId) (args : Array Value) (c : Code) (cc : ByteArray) (G : ax_G) (A : Nat → Prop) (nL : Nat) (own : String) (ws : List Cond) : Prop :=
  p.tables.exec = Jvm.exec ∧ c.code = cc ∧ c.maxLocals = nL ∧ s.vm.findClass own = some m.cls ∧ (∀ w ∈ ax_gw, w ∈ ws) ∧ (∀ w ∈ ws, w.before args s = true) ∧ va_K G.1 vwCl (ax_tys G) s ∧ ax_Ext ldc nest thr G A s s.heap ∧ ax_stable nest ∧
  (∀ r ∈ ax_keys, A (G.2.2.1 r.1 r.2.1 r.2.2)) ∧ (∀ q : Nat, s.heap.size ≤ q → A q)
theorem ax_gw_mem {w : Cond} (h : w ∈ lw_tbl) (hg : goodWord w = true) : w ∈ ax_gw := List.mem_filter.mpr ⟨h, hg⟩
theorem ax_pre {ws : List Cond} {as : List ax_V} (E : ax_Env ldc nest thr p s m args c cc G A nL own ws) {H : Heap} {locs : List Loc} (hv : ∀ v ∈ as, ax_vok v) (hP : va_P G.1 vwCl (ax_cells G d) H) (hD : va_D A (ax_cells G d)) (hS : va_S A s.heap H locs) :
    ∀ U : State, U.heap = H → s.WarmedH U.vm → ax_Pc ldc nest thr G as d H.size (as.map (ax_conc G)).toArray U := by
  obtain ⟨hx, hb, hml, hown, hgw, hts, hK, hE, hst, hAk, hAs⟩ := E
  intro U hU hW
  refine ⟨rfl, by rw [hU], hv, by rw [hU]; exact hP, va_K.moved hW.alike hK, hD.weaken (fun _ _ _ _ => trivial), ?_⟩
  rw [hU]
  exact ax_Ext.on hst hE hW (fun a h1 h2 => hS.2.1 a h1 h2) (ax_A_of hAk hAs hS)
theorem ax_goodIn {ws : List Cond} (hgw : ∀ w ∈ ax_gw, w ∈ ws) {w0 : Cond} (h0 : w0 ∈ ax_gw) : GoodIn ws (w0 :: ax_gw) := by
  intro w hw
  have h1 : w ∈ ax_gw := (List.mem_cons.mp hw).elim (fun e => by rw [e]; exact h0) id
  exact ⟨hgw w h1, good_of_word (List.mem_filter.mp h1).2⟩
theorem ax_cats_conc (G : ax_G) (r : List ax_V) : ((r.map (ax_conc G)).map fun v => v.category).sum = ax_cats r := by
  induction r with
  | nil => rfl
  | cons v r ih =>
    simp only [List.map_cons, List.sum_cons]
    rw [ih, ax_cat_conc]
    rfl
/-- what the tables say of a method that is called -/
def ax_Mk (y : MethodName) (bytes : ByteArray) (maxL : Nat) (ret : Option FieldType) (n : Nat) : Prop :=
  Cond.code y bytes maxL ret ∈ ax_gw ∧ Cond.initialized y.cls ∈ ax_gw ∧ y.cls ≠ "java/lang/invoke/MethodHandle" ∧ y.cls ≠ "java/lang/invoke/VarHandle" ∧ (parseMethodDescriptor y.desc).map (fun d => d.parameters.length) = some n
variable {ws : List Cond} {y : MethodName} {bytes : ByteArray} {maxL n idx fr lc : Nat} {ret : Option FieldType} {as : List ax_V}
theorem ax_t_callS (E : ax_Env ldc nest thr p s m args c cc G A nL own ws) (hM : ax_CT ldc nest thr l G y (Cond.code y bytes maxL ret :: ax_gw) fr lc as d fin) (hk : ax_Mk y bytes maxL ret n) (hl : Cond.methodLink own idx y ∈ ax_gw) (hst : Cond.static y ∈ ax_gw)
    (hn : as.length = n) (hr : ax_cats r ≤ 8) (hR : fr + 1 ≤ R.frames ∧ 8 + (maxL + 11) + lc ≤ R.locals) (hf : c0 + ee + fin.2.1 ≤ R.cells ∧ s0 + 6 * ee + 6 * fin.2.1 ≤ R.slots) (hd : decode cc pc = .ok (.invokestatic idx, 3))
    (kx : ∀ n : Nat, fin.2.2 = Sum.inr n → ax_TX p l e R s m args below meth c Q G A nL c0 s0 pc lo r fin.1 (ee + fin.2.1) n)
    (kr : ∀ rv : Option ax_V, fin.2.2 = Sum.inl rv → ax_Tr p l e R s m args below meth c Q G A nL c0 s0 (pc + 3) lo (rv.toList ++ r) fin.1 (ee + fin.2.1)) :
    ax_Tr p l e R s m args below meth c Q G A nL c0 s0 pc lo (as.reverse ++ r) d ee := by
  intro H locs ls hlv ho hv hP hD hS
  have E' := E
  obtain ⟨hx, hb, hml, hown, hgw, hts, hK, hE, hsta, hAk, hAs⟩ := E
  have hva : ∀ v ∈ as, ax_vok v := fun v h => hv v (List.mem_append_left _ (List.mem_reverse.mpr h))
  have hvr : ∀ v ∈ r, ax_vok v := fun v h => hv v (List.mem_append_right _ h)
  have hrun := vx_runS (e := e) (below := below) (meth := meth) (As := as.map (ax_conc G)) (rest := r.map (ax_conc G)) (g := F0 m pc ls ((as.reverse ++ r).map (ax_conc G))) (n := n) (cells := c0 + ee) (slots := s0 + 6 * ee) (locs := locs) (H := H) ⟨hx, hb, hml, hown, hts⟩ (hM H.size)
    (And.intro (callB_of (R := R) (own := own) (index := idx) (bytes := bytes) (maxL := maxL) (ret := ret) n hts (ax_goodIn hgw hk.1) rfl rfl rfl (hts _ (hgw _ hk.2.1)) (hts _ (hgw _ hl)) hk.2.2 hR) (hts _ (hgw _ hst)))
    ⟨ax_blind hsta G as d H.size, ax_pre E' hva hP hD hS⟩ rfl (by rw [List.length_map]; exact hn) hlv.1 (by simp [List.map_append, List.map_reverse]) (lv_room (by rw [ax_cats_conc]; exact hr)) hd hf
  exact ax_t_run hrun hAk hAs hlv ho hvr hD hS kx kr
theorem ax_recv {k i : Nat} (E : ax_Env ldc nest thr p s m args c cc G A nL own ws) (hk : k < 10) (hv : ax_vok (ax_vR k i 0)) {H : Heap} (hP : va_P G.1 vwCl (ax_cells G d) H) : ∃ cellB : Cell, H[G.2.2.1 k i 0]? = some cellB ∧ cellB.vm.isStatics = false ∧ s.vm.findClass (ax_R k) = some cellB.cls := by
  obtain ⟨hx, hb, hml, hown, hgw, hts, hK, hE, hsta, hAk, hAs⟩ := E
  obtain ⟨z, hz, -⟩ := ax_cells_get G d (ax_key_of hv (by omega))
  exact va_recv hK hP (ci := k + 2) (q0 := z) (ax_cl_at k hk) hz
theorem ax_t_callV {k i : Nat} (E : ax_Env ldc nest thr p s m args c cc G A nL own ws) (hM : ax_CT ldc nest thr l G y (Cond.code y bytes maxL ret :: ax_gw) fr lc (ax_vR k i 0 :: as) d fin) (hk : ax_Mk y bytes maxL ret n) (hl : Cond.methodLink own idx y ∈ ax_gw) (hin : Cond.instanceMethod y ∈ ax_gw) (hse : Cond.selects (ax_R k) y y ∈ ax_gw) (hk10 : k < 10)
    (hn : as.length = n) (hr : ax_cats r ≤ 8) (hR : fr + 1 ≤ R.frames ∧ 8 + (maxL + 11) + lc ≤ R.locals) (hf : c0 + ee + fin.2.1 ≤ R.cells ∧ s0 + 6 * ee + 6 * fin.2.1 ≤ R.slots) (hd : decode cc pc = .ok (.invokevirtual idx, 3))
    (kx : ∀ n : Nat, fin.2.2 = Sum.inr n → ax_TX p l e R s m args below meth c Q G A nL c0 s0 pc lo r fin.1 (ee + fin.2.1) n)
    (kr : ∀ rv : Option ax_V, fin.2.2 = Sum.inl rv → ax_Tr p l e R s m args below meth c Q G A nL c0 s0 (pc + 3) lo (rv.toList ++ r) fin.1 (ee + fin.2.1)) :
    ax_Tr p l e R s m args below meth c Q G A nL c0 s0 pc lo (as.reverse ++ (ax_vR k i 0 :: r)) d ee := by
  intro H locs ls hlv ho hv hP hD hS
  have E' := E
  obtain ⟨hx, hb, hml, hown, hgw, hts, hK, hE, hsta, hAk, hAs⟩ := E
  have hvb : ax_vok (ax_vR k i 0) := hv _ (List.mem_append_right _ List.mem_cons_self)
  have hva : ∀ v ∈ ax_vR k i 0 :: as, ax_vok v := fun v h => (List.mem_cons.mp h).elim (fun e => by rw [e]; exact hvb) (fun h => hv v (List.mem_append_left _ (List.mem_reverse.mpr h)))
  have hvr : ∀ v ∈ r, ax_vok v := fun v h => hv v (List.mem_append_right _ (List.mem_cons_of_mem _ h))
  have hrun := vx_runV (e := e) (below := below) (meth := meth) (As := as.map (ax_conc G)) (rest := r.map (ax_conc G)) (g := F0 m pc ls ((as.reverse ++ (ax_vR k i 0 :: r)).map (ax_conc G))) (n := n) (cells := c0 + ee) (slots := s0 + 6 * ee) (locs := locs) (H := H) (C := ax_R k) (b := G.2.2.1 k i 0) ⟨hx, hb, hml, hown, hts⟩ (hM H.size)
    (And.intro (callB_of (R := R) (own := own) (index := idx) (bytes := bytes) (maxL := maxL) (ret := ret) n hts (ax_goodIn hgw hk.1) rfl rfl rfl (hts _ (hgw _ hk.2.1)) (hts _ (hgw _ hl)) hk.2.2 hR) (And.intro (hts _ (hgw _ hin)) (hts _ (hgw _ hse))))
    ⟨ax_blind hsta G _ d H.size, ax_recv E' hk10 hvb hP, ax_pre E' hva hP hD hS⟩ rfl (by rw [List.length_map]; exact hn) hlv.1 (by simp [List.map_append, List.map_reverse, ax_conc]) (lv_room (by rw [ax_cats_conc]; exact hr)) hd hf
  exact ax_t_run hrun hAk hAs hlv ho hvr hD hS kx kr
/-- a contract that throws nothing, in the kit's other form -/
theorem ax_toMet {sz : Nat} {rm : Room} {Pc : Array Value → State → Prop} {mc ms : Nat} {free : Addr → Prop} (h : vx_Met l y ws rm Pc (ax_Qc G fin sz) (ax_XC G fin sz) mc ms free) (hn : ∀ n : Nat, fin.2.2 ≠ Sum.inr n) : Met l y ws rm Pc (ax_Qc G fin sz) mc ms free := by
  intro p e h1 h2 h3 s m args below h4 h5 h6 h7
  obtain ⟨k, o, g1, g2, g3, g4⟩ := h p e h1 h2 h3 s m args below h4 h5 h6 h7
  refine ⟨k, o, g1, g2, g3, ?_⟩
  rcases g4 with g4 | ⟨q, -, E, ce, L, ⟨⟨z, hz, -⟩, -⟩, -⟩
  · exact g4
  · exact absurd hz (hn z)
/-- a static method of a nest mate -/
theorem ax_t_callN {host : String} (E : ax_Env ldc nest thr p s m args c cc G A nL own ws) (hM : ax_CT ldc nest thr l G y (Cond.code y bytes maxL ret :: ax_gw) fr lc as d fin) (hk : ax_Mk y bytes maxL ret n) (hl : Cond.methodLinkNest own idx y host ∈ nest) (hst : Cond.static y ∈ ax_gw) (hnx : ∀ n : Nat, fin.2.2 ≠ Sum.inr n)
    (hn : as.length = n) (hr : ax_cats r ≤ 8) (hR : fr + 1 ≤ R.frames ∧ 8 + (maxL + 11) + lc ≤ R.locals) (hf : c0 + ee + fin.2.1 ≤ R.cells ∧ s0 + 6 * ee + 6 * fin.2.1 ≤ R.slots) (hd : decode cc pc = .ok (.invokestatic idx, 3))
    (kr : ∀ rv : Option ax_V, fin.2.2 = Sum.inl rv → ax_Tr p l e R s m args below meth c Q G A nL c0 s0 (pc + 3) lo (rv.toList ++ r) fin.1 (ee + fin.2.1)) :
    ax_Tr p l e R s m args below meth c Q G A nL c0 s0 pc lo (as.reverse ++ r) d ee := by
  intro H locs ls hlv ho hv hP hD hS
  have E' := E
  obtain ⟨hx, hb, hml, hown, hgw, hts, hK, hE, hsta, hAk, hAs⟩ := E
  have hva : ∀ v ∈ as, ax_vok v := fun v h => hv v (List.mem_append_left _ (List.mem_reverse.mpr h))
  have hvr : ∀ v ∈ r, ax_vok v := fun v h => hv v (List.mem_append_right _ h)
  have hnw : va_Nw (Cond.methodLinkNest own idx y host) s := hE.2.2.2.2.2.1 _ hl
  have hrun0 := va_runSN (e := e) (below := below) (meth := meth) (As := as.map (ax_conc G)) (rest := r.map (ax_conc G)) (g := F0 m pc ls ((as.reverse ++ r).map (ax_conc G))) (n := n) (cells := c0 + ee) (slots := s0 + 6 * ee) (locs := locs) (H := H) ⟨hx, hb, hml, hown, hts⟩ (ax_toMet (hM H.size) hnx)
    (And.intro (va_cnB (R := R) (own := own) (index := idx) (bytes := bytes) (maxL := maxL) (ret := ret) n hts (ax_goodIn hgw hk.1) rfl rfl rfl hnw (hts _ (hgw _ hk.2.1)) hk.2.2 hR) (And.intro (hts _ (hgw _ hst)) trivial))
    ⟨ax_blind hsta G as d H.size, ax_pre E' hva hP hD hS⟩ rfl (by rw [List.length_map]; exact hn) hlv.1 (by simp [List.map_append, List.map_reverse]) (lv_room (by rw [ax_cats_conc]; exact hr)) hd hf
  have hrun : vx_Run p l e R s m args below meth c H locs (c0 + ee) (s0 + 6 * ee) fin.2.1 (6 * fin.2.1) (F0 m pc ls ((as.reverse ++ r).map (ax_conc G))) (r.map (ax_conc G)) (ax_Qc G fin H.size (as.map (ax_conc G)).toArray) (ax_XC G fin H.size) (ax_A G H.size) := fun T hT X => Or.inl (hrun0 T hT X)
  exact ax_t_run hrun hAk hAs hlv ho hvr hD hS (fun z hz => absurd hz (hnx z)) kr
end AXC
