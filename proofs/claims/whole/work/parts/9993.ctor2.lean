/-! CONSTRUCTORS: contracts, calls, small steps -/
def kFree (h0 sz : Nat) : Nat → Prop := fun q => q = h0 ∨ sz ≤ q
def kQ {S : Type} (D : va_G) (h0 sz : Nat) (Wl : Nat → S → va_W) : Array Value → State → Outcome → State → Prop := va_Qv (fun _ : S => True) (fun u t => kP D (Wl h0 u) t.heap ∧ kN (kFree h0 sz) (Wl h0 u)) (kFree h0 sz)
def kC (l : Launch) (D : va_G) (ar : Nat → ClassId) (y : MethodName) (b : ByteArray) (maxL fr lc mc ms a : Nat) (as : List Value) {S : Type} (Wl : Nat → S → va_W) : Prop :=
  ∀ h0 sz : Nat, Met l y (Cond.code y b maxL none :: ax_gw) { frames := fr, cells := mc, slots := ms, locals := lc } (va_Pc (.ref h0 :: as) (fun U => U.heap.size = sz ∧ kP D [(h0, .inr (a + 2, kd a))] U.heap ∧ va_K D vwCl (kT ar) U ∧ kX U)) (kQ D h0 sz Wl) mc ms (kFree h0 sz)
theorem k_oi : Cond.instanceMethod objectInit ∈ ax_gw := ax_at (i := 137) (by decide +kernel)
theorem k_oc : Cond.code objectInit ⟨#[0xb1]⟩ 1 none ∈ ax_gw := ax_at (i := 138) (by decide +kernel)
section KC
variable {p : Program} {l : Launch} {e : Env} {R : Room} {s : State} {m : MethodId} {args : Array Value} {below : List Frame} {meth : Method} {c : Code} {Q : State → Prop} {cc : ByteArray} {D : va_G} {ar : Nat → ClassId} {A : Nat → Prop} {own : String}
variable {ws ws' : va_W} {pc cells slots nL : Nat} {ls : Array Slot} {st : List Value}
theorem k_met {y : MethodName} {maxL fr lc mc ms a : Nat} {as : List Value} {S : Type} {Wl : Nat → S → va_W} (hy : plainName y.cls = true) (hname : y.name = "<init>") (hml : (lg_sl (.ref 0 :: as)).length ≤ maxL)
    (body : ∀ p e s m args below meth c h0, kEnv p s m args c cc D ar (kFree h0 s.heap.size) y.cls → meth.name = "<init>" → meth.locks = false → meth.sig.returnType = none → c.maxLocals = maxL → ∀ ls, lv_has ls maxL (lv_args 0 (.ref h0 :: as)) →
      kW p l e { frames := fr, cells := mc, slots := ms, locals := lc } s m args below meth c (MQ below (kQ D h0 s.heap.size Wl) args s mc ms (kFree h0 s.heap.size)) D (kFree h0 s.heap.size) [(h0, .inr (a + 2, kd a))] 0 ls [] 0 0) :
    kC l D ar y cc maxL fr lc mc ms a as Wl := by
  intro h0 sz
  refine Met.ofW (cc := cc) (maxL := maxL) (ret := none) hy rfl ?_
  intro p e s m args below meth c s₁ B hml2 hv
  obtain ⟨rfl, hsz, hP, hK, hX⟩ := hv
  subst hsz
  have hts := atoms_spec (ws := Cond.code y cc maxL none :: ax_gw) B.pre
  have hl := lv_entry (.ref h0 :: as) (n := maxL) hml
  rw [lg_entry_eq]
  generalize (lg_sl (.ref h0 :: as) ++ List.replicate (maxL - (lg_sl (.ref h0 :: as)).length) Slot.unset).toArray = ls at hl ⊢
  exact body p e s m _ below meth c h0 ⟨B.exec, B.bytes, findClass_of_methodNamed B.named, fun w hw => hts w (List.mem_cons_of_mem _ hw), hK, fun q hq => Or.inr hq, hX⟩ (by rw [← hname]; exact (name_of_methodNamed B.named B.method).1) B.notSynchronized B.returns hml2 ls hl s.heap [] hP ⟨List.nodup_cons.mpr ⟨List.not_mem_nil, List.nodup_nil⟩, fun q hq => by rw [List.mem_singleton.mp hq]; exact Or.inl rfl⟩ va_S.rf
theorem k_end {S : Type} {h0 mc ms : Nat} {Wl : Nat → S → va_W} (u : S) (E : kEnv p s m args c cc D ar (kFree h0 s.heap.size) own) (hr : meth.sig.returnType = none) (hlocks : meth.locks = false) (hc : cells ≤ mc) (hs : slots ≤ ms) (hw : ws.Perm (Wl h0 u)) (hd : decode cc pc = .ok (.return_, 1)) :
    kW p l e R s m args below meth c (MQ below (kQ D h0 s.heap.size Wl) args s mc ms (kFree h0 s.heap.size)) D (kFree h0 s.heap.size) ws pc ls [] cells slots := by
  intro H locs hP hN hS
  obtain ⟨hx, hb, -⟩ := E
  refine W.widen (k := mc) (n := ms) hc hs ?_
  exact W.vret hx hb hr (fun t ht hW => ⟨⟨u, rfl, trivial, by rw [ht]; exact kP_p hw hP, kN_p hw hN⟩, hS.F ht⟩) hS.2.2 hd hlocks
theorem k_run {S : Type} {q mc ms : Nat} {ci : va_E} {Wl : Nat → S → va_W} {H : Heap} {locs : List Loc} {a : Array Value} {st0 rest : List Value} (hr : va_Run p l e R s m args below meth c H locs cells slots mc ms (F0 m pc ls st0) rest (kQ D q H.size Wl a) (kFree q H.size))
    (hA : ∀ z : Nat, s.heap.size ≤ z → A z) (hP : kP D ((q, ci) :: ws) H) (hN : kN A ((q, ci) :: ws)) (hS : va_S A s.heap H locs)
    (kk : ∀ u : S, kW p l e R s m args below meth c Q D A (Wl q u ++ ws) (pc + 3) ls rest (cells + mc) (slots + ms)) : W p l e R s m args below meth c H locs cells slots Q (F0 m pc ls st0) := by
  have hF : ∀ z, kFree q H.size z → A z := fun z hz => hz.elim (fun e => by rw [e]; exact hN.2 _ List.mem_cons_self) (fun h => hA z (Nat.le_trans hS.1 h))
  refine va_callv hr hS (fun z _ h => hF z h) hF (fun u t H1 locs1 ht _ _ hB hz hk hS1 => ?_)
  rw [ht] at hB
  have hap : ∀ x ∈ ws, x.1 < H.size ∧ ¬ kFree q H.size x.1 := by
    intro x hx
    have hlt := (hP x (List.mem_cons_of_mem _ hx)).lt
    refine ⟨hlt, fun h => ?_⟩
    rcases h with h | h
    · have h1 := (List.nodup_cons.mp hN.1).1
      exact h1 (List.mem_map.mpr ⟨x, hx, h⟩)
    · omega
  refine kk u H1 locs1 (fun x hx => ?_) ⟨?_, fun x hx => ?_⟩ hS1
  · rcases List.mem_append.mp hx with h | h
    · exact hB.1 x h
    · obtain ⟨g1, g2⟩ := hap x h
      exact (hP x (List.mem_cons_of_mem _ h)).kept (hk x.1 g1 g2)
  · rw [List.map_append, List.nodup_append]
    refine ⟨hB.2.1, (List.nodup_cons.mp hN.1).2, fun x hx y hy e => ?_⟩
    obtain ⟨x', hx', rfl⟩ := List.mem_map.mp hx
    obtain ⟨y', hy', rfl⟩ := List.mem_map.mp hy
    exact (hap y' hy').2 (by rw [← e]; exact hB.2.2 x' hx')
  · rcases List.mem_append.mp hx with h | h
    · exact hF _ (hB.2.2 x h)
    · exact hN.2 x (List.mem_cons_of_mem _ h)
theorem k_perm2 (w1 w0 pl : va_W) : (w1 ++ (w0 ++ pl)).Perm (w0 ++ (w1 ++ pl)) := by
  rw [← List.append_assoc, ← List.append_assoc]
  exact List.perm_append_comm.append_right pl
theorem k_pre {q a : Nat} {y : MethodName} {as : List Value} {ws : va_W} {H : Heap} {locs : List Loc} (hK : va_K D vwCl (kT ar) s) (hX : kX s) (hP : kP D ((q, .inr (a + 2, kd a)) :: ws) H) :
    PreS s H (va_Pc (.ref q :: as) (fun U => U.heap.size = H.size ∧ kP D [(q, .inr (a + 2, kd a))] U.heap ∧ va_K D vwCl (kT ar) U ∧ kX U)) (.ref q :: as) :=
  ⟨fun a U g mk h => ⟨h.1, h.2.1, h.2.2.1, va_K.moved (u := U) (U := U.calling g mk a) (Vm.Alike.refl U.vm) h.2.2.2.1, kX.call h.2.2.2.2⟩, fun U hU hW => ⟨rfl, by rw [hU], by rw [hU]; exact fun x hx => hP x (by rw [List.mem_singleton.mp hx]; exact List.mem_cons_self), va_K.moved hW.alike hK, kX.on hW hX⟩⟩
theorem k_call {S : Type} {q a idx n maxL fr lc mc ms : Nat} {y : MethodName} {b : ByteArray} {as rest : List Value} {Wl : Nat → S → va_W} (w0 pl : va_W) (E : kEnv p s m args c cc D ar A own) (hml : c.maxLocals = nL) (hz : ls.size = nL) (hM : kC l D ar y b maxL fr lc mc ms a as Wl) (hy : y.name = "<init>") (hk : ax_Mk y b maxL none n) (hl : Cond.methodLink own idx y ∈ ax_gw) (hin : Cond.instanceMethod y ∈ ax_gw)
    (hn : as.length = n) (hcat : (rest.map fun v => v.category).sum ≤ 8) (hR : fr + 1 ≤ R.frames ∧ 8 + (maxL + 11) + lc ≤ R.locals) (hf : cells + mc ≤ R.cells ∧ slots + ms ≤ R.slots) (hd : decode cc pc = .ok (.invokespecial idx, 3))
    (kk : ∀ u : S, kW p l e R s m args below meth c Q D A (w0 ++ (Wl q u ++ pl)) (pc + 3) ls rest (cells + mc) (slots + ms)) : kW p l e R s m args below meth c Q D A ((q, .inr (a + 2, kd a)) :: (w0 ++ pl)) pc ls (as.reverse ++ .ref q :: rest) cells slots := by
  intro H locs hP hN hS
  obtain ⟨hx, hb, hown, hts, hK, hA, hX⟩ := E
  refine k_run (va_runI (As := as) (rest := rest) (n := n) (R := R) ⟨hx, hb, hml, hown, hts⟩ (hM q H.size) (And.intro (callB_of (R := R) (own := own) (index := idx) (bytes := b) (maxL := maxL) (ret := none) n hts (ax_goodIn (fun w h => h) hk.1) rfl rfl rfl (hts _ hk.2.1) (hts _ hl) hk.2.2 hR) (And.intro hy (hts _ hin))) (k_pre (y := y) (locs := locs) hK hX hP) rfl hn hz rfl (lv_room hcat) hd hf) hA hP hN hS (fun u => ?_)
  exact kW_perm (k_perm2 _ _ _) (kk u)
theorem k_callN {S : Type} {q a idx n maxL fr lc mc ms : Nat} {y : MethodName} {b : ByteArray} {host : String} {as rest : List Value} {Wl : Nat → S → va_W} (w0 pl : va_W) (E : kEnv p s m args c cc D ar A own) (hml : c.maxLocals = nL) (hz : ls.size = nL) (hM : kC l D ar y b maxL fr lc mc ms a as Wl) (hy : y.name = "<init>") (hk : ax_Mk y b maxL none n) (hl : va_Nw (.methodLinkNest own idx y host) s) (hin : Cond.instanceMethod y ∈ ax_gw)
    (hn : as.length = n) (hcat : (rest.map fun v => v.category).sum ≤ 8) (hR : fr + 1 ≤ R.frames ∧ 8 + (maxL + 11) + lc ≤ R.locals) (hf : cells + mc ≤ R.cells ∧ slots + ms ≤ R.slots) (hd : decode cc pc = .ok (.invokespecial idx, 3))
    (kk : ∀ u : S, kW p l e R s m args below meth c Q D A (w0 ++ (Wl q u ++ pl)) (pc + 3) ls rest (cells + mc) (slots + ms)) : kW p l e R s m args below meth c Q D A ((q, .inr (a + 2, kd a)) :: (w0 ++ pl)) pc ls (as.reverse ++ .ref q :: rest) cells slots := by
  intro H locs hP hN hS
  obtain ⟨hx, hb, hown, hts, hK, hA, hX⟩ := E
  refine k_run (va_runIN (As := as) (rest := rest) (n := n) (R := R) ⟨hx, hb, hml, hown, hts⟩ (hM q H.size) (And.intro (va_cnB (R := R) (own := own) (index := idx) (bytes := b) (maxL := maxL) (ret := none) n hts (ax_goodIn (fun w h => h) hk.1) rfl rfl rfl hl (hts _ hk.2.1) hk.2.2 hR) (And.intro hy (hts _ hin))) (k_pre (y := y) (locs := locs) hK hX hP) rfl hn hz rfl (lv_room hcat) hd hf) hA hP hN hS (fun u => ?_)
  exact kW_perm (k_perm2 _ _ _) (kk u)
theorem k_al (E : kEnv p s m args c cc D ar A own) {k : Fin 4} (j x : Nat) (hd : decode cc pc = .ok (.aload_n k, 1)) (hj : (k : Nat) = j) (hl : ls[j]? = some (.val (.ref x))) (kk : kW p l e R s m args below meth c Q D A ws (pc + 1) ls (.ref x :: st) cells slots) : kW p l e R s m args below meth c Q D A ws pc ls st cells slots :=
  fun H locs hP hN hS => lv_aload_n E.1 E.2.1 hd hj hl (kk H locs hP hN hS)
theorem k_newa2 (E : kEnv p s m args c cc D ar A own) {x : Nat × va_E} {atype : ArrayType} (t : Nat) {ty : FieldType} (hat : newarray.typeOf atype = ty) (harr : Cond.arrayClass ty ∈ ax_gw) (ht : (kT ar)[t]? = some (ar t, ty)) {n : Int32} {N : Nat} (a0 : vp_A) (ha : ∀ cA : ClassId, vp_cell cA a0 = arrV cA N (fun _ => defaultValue ty)) (hn : ¬ n < 0) (hN : n.toNatClampNeg = N) (hbytes : N * componentBytes ty ≤ 536870912) (hcells : cells + 1 ≤ R.cells) (hslots : slots + N ≤ R.slots) (hd : decode cc pc = .ok (.newarray atype, 2))
    (kk : ∀ q : Nat, kW p l e R s m args below meth c Q D A (x :: (q, .inl (ar t, a0)) :: ws) (pc + 2) ls (.ref q :: st) (cells + 1) (slots + N)) : kW p l e R s m args below meth c Q D A (x :: ws) pc ls (.int n :: st) cells slots :=
  k_newa E t hat harr ht ha hn hN hbytes hcells hslots hd (fun q => kW_perm (List.Perm.swap _ _ _) (kk q))
theorem k_il (E : kEnv p s m args c cc D ar A own) {k : Fin 4} (j : Nat) (x : Int32) (hd : decode cc pc = .ok (.iload_n k, 1)) (hj : (k : Nat) = j) (hl : ls[j]? = some (.val (.int x))) (kk : kW p l e R s m args below meth c Q D A ws (pc + 1) ls (.int x :: st) cells slots) : kW p l e R s m args below meth c Q D A ws pc ls st cells slots :=
  fun H locs hP hN hS => lv_iload_n E.1 E.2.1 hd hj hl (kk H locs hP hN hS)
theorem k_ic (E : kEnv p s m args c cc D ar A own) {n : Int} (v : Int32) (hd : decode cc pc = .ok (.iconst n, 1)) (hv : Int32.ofInt n = v) (kk : kW p l e R s m args below meth c Q D A ws (pc + 1) ls (.int v :: st) cells slots) : kW p l e R s m args below meth c Q D A ws pc ls st cells slots :=
  fun H locs hP hN hS => lv_iconst E.1 E.2.1 hd hv (kk H locs hP hN hS)
theorem k_bi (E : kEnv p s m args c cc D ar A own) {n : Int} (v : Int32) (hd : decode cc pc = .ok (.bipush n, 2)) (hv : (Int8.ofInt n).toInt32 = v) (kk : kW p l e R s m args below meth c Q D A ws (pc + 2) ls (.int v :: st) cells slots) : kW p l e R s m args below meth c Q D A ws pc ls st cells slots :=
  fun H locs hP hN hS => lv_bipush E.1 E.2.1 hd hv (kk H locs hP hN hS)
theorem k_si (E : kEnv p s m args c cc D ar A own) {n : Int} (v : Int32) (hd : decode cc pc = .ok (.sipush n, 3)) (hv : (Int16.ofInt n).toInt32 = v) (kk : kW p l e R s m args below meth c Q D A ws (pc + 3) ls (.int v :: st) cells slots) : kW p l e R s m args below meth c Q D A ws pc ls st cells slots :=
  fun H locs hP hN hS => lv_sipush E.1 E.2.1 hd hv (kk H locs hP hN hS)
theorem k_dup (E : kEnv p s m args c cc D ar A own) {v : Value} (hd : decode cc pc = .ok (.dup, 1)) (hv : v.category = 1) (kk : kW p l e R s m args below meth c Q D A ws (pc + 1) ls (v :: v :: st) cells slots) : kW p l e R s m args below meth c Q D A ws pc ls (v :: st) cells slots :=
  fun H locs hP hN hS => lv_dup E.1 E.2.1 hd hv (kk H locs hP hN hS)
theorem k_as (E : kEnv p s m args c cc D ar A own) {k : Fin 4} {lv : List (Nat × Value)} (j : Nat) {x : Nat} (hd : decode cc pc = .ok (.astore_n k, 1)) (hj : (k : Nat) = j) (h : lv_has ls nL lv) (hn : j < nL) (kk : ∀ ls' : Array Slot, lv_has ls' nL ((j, Value.ref x) :: lv.filter (fun q => !(q.1 == j) && !(q.1 + 1 == j && q.2.category == 2))) → kW p l e R s m args below meth c Q D A ws (pc + 1) ls' st cells slots) : kW p l e R s m args below meth c Q D A ws pc ls (.ref x :: st) cells slots :=
  fun H locs hP hN hS => lv_astore_n E.1 E.2.1 hd hj h hn rfl (fun ls' h' => kk ls' h' H locs hP hN hS)
theorem k_obj (E : kEnv p s m args c cc D ar A own) {idx x : Nat} (hml : c.maxLocals = nL) (hz : ls.size = nL) (hl : Cond.methodLink own idx objectInit ∈ ax_gw) (hd : decode cc pc = .ok (.invokespecial idx, 3)) (hf : 1 ≤ R.frames) (hlo : 12 ≤ R.locals) (kk : kW p l e R s m args below meth c Q D A ws (pc + 3) ls [] cells slots) : kW p l e R s m args below meth c Q D A ws pc ls [.ref x] cells slots :=
  fun H locs hP hN hS => W.objInit E.1 E.2.1 E.2.2.1 (E.2.2.2.1 _ hl) (E.2.2.2.1 _ k_oi) (E.2.2.2.1 _ k_oc) rfl (by rw [hml]; exact hz) rfl hd hf hlo (kk H locs hP hN hS)
end KC
