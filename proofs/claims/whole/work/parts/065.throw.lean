/-! a throw of an exception with a text whose first constructor names its super by any entry: the chain of constructors, the new object's fields, the constructor's run, the throw; each step is one of the library's laws -/
def ax_atomsX (own : String) (ic : Nat) (X Y : String) (ix : Nat) (rx : ByteArray) (names : List String) : List Cond :=
  Bundle.throwableAtoms ++ Bundle.throwableSAtoms ++ (Bundle.passSAtoms X Y ix rx ++ Bundle.chainSAtoms Y names) ++
  [.methodLink own ic (Bundle.initS X), .instantiable X 6, .castable X X, .selects X Bundle.tFill0 Bundle.tFill0, .selects X Bundle.tFill Bundle.tFill,
   .lays X Bundle.tN "cause" "Ljava/lang/Throwable;", .lays X Bundle.tN "stackTrace" Bundle.steD, .lays X Bundle.tN "suppressedExceptions" Bundle.listD, .lays X Bundle.tN "detailMessage" "Ljava/lang/String;",
   .isRef (.static Bundle.tN "UNASSIGNED_STACK" Bundle.steD), .isRef (.static Bundle.tN "SUPPRESSED_SENTINEL" Bundle.listD),
   .fieldLink Bundle.tN 198 Bundle.tN "backtrace" "Ljava/lang/Object;", .lays Bundle.tN Bundle.tN "backtrace" "Ljava/lang/Object;", .lays X Bundle.tN "backtrace" "Ljava/lang/Object;"]
def ax_atX (own : String) (ic : Nat) (X Y : String) (ix : Nat) (rx : ByteArray) (names : List String) : List Cond := (ax_atomsX own ic X Y ix rx names).filter vx_no
section AXC
variable {s : State} {args : Array Value}
/-- which method a class selects, as the machine that runs sees it -/
theorem ax_pick {l : Launch} {e : Env} (hl : l.admits e) {cls : String} {t : MethodName} {C : ClassId} {q : MethodId} (hC : s.vm.findClass cls = some C) (hq : s.methodNamed? t = some q)
    (ht : t.cls ≠ "java/lang/invoke/MethodHandle" ∧ t.cls ≠ "java/lang/invoke/VarHandle") (h : (Cond.selects cls t t).before args s = true) : selectMethod e.platform s.vm C q = .method q := by
  have hh : (Cond.selects cls t t).holds args s none s [] = true := h
  obtain ⟨C', r, q', h1, h2, h3, h4, -⟩ := Cond.selects_spec hh
  have hr := h2.symm.trans (State.methodFound?_of_named hq ht)
  rw [hC] at h1; rw [hq] at h3
  injection h1 with h1; injection h3 with h3; injection hr with hr
  rw [Launch.admits_selectMethod hl, h1, ← hr, h4, ← h3, hr]
/-- a class keeps a field f in its objects -/
def ax_has (s : State) (C : ClassId) (K : Class) (f : Field) : Prop := K.instanceTypes[f.slot]? = some f.type ∧ ∃ d, Jmm.declares? s.vm f.slot (C + 1) C = some d ∧ d.2.name = f.name
theorem ax_has_of {cls O n d : String} {C c i : Nat} {K k : Class} {f : Field} (hC : s.vm.findClass cls = some C) (hK : s.vm.classes[C]? = some K) (hf : s.fieldFound? O n d = some (c, k, i, f)) (h : (Cond.lays cls O n d).before args s = true) : ax_has s C K f :=
  Cond.laysAt (args := args) (first := s) (o := none) (idx := []) hC hK hf h
theorem ax_has_ne {C : ClassId} {K : Class} {f g : Field} (hf : ax_has s C K f) (hg : ax_has s C K g) (hn : f.name ≠ g.name) : f.slot ≠ g.slot := by
  obtain ⟨-, d, hd, hd'⟩ := hf
  obtain ⟨-, d2, hg, hg'⟩ := hg
  exact Cond.laysApart hd hg hd' hg' hn
/-- a static of Throwable that holds a reference -/
theorem ax_static {n d : String} {C i A : Nat} {K : Class} {f : Field} {cell : Cell} (hf : s.fieldFound? Bundle.tN n d = some (C, K, i, f)) (hst : f.isStatic = true) (hA : K.statics = some A) (hcell : s.heap[A]? = some cell) (hv : cell.vm.isStatics = true)
    (h : (Cond.isRef (.static Bundle.tN n d)).before args s = true) : ∃ u : RefV, cell.slots[f.slot]? = some u.v :=
  Cond.staticRefV (args := args) (first := s) (o := none) (idx := []) hf hst hA hcell hv h
/-- the constructors from X up to Throwable's: X's own is rx, the others are as the library knows them -/
theorem ax_chainX {pl : Platform} (hpl : pl.magicAccessors = ({} : Platform).magicAccessors) {top : MethodId} (htop : s.methodNamed? (Bundle.initS Bundle.tN) = some top) {X Y : String} {ix : Nat} {rx : ByteArray} {names : List String}
    (x0 : decode rx 0 = .ok (.aload_n 0, 1)) (x1 : decode rx 1 = .ok (.aload_n 1, 1)) (x2 : decode rx 2 = .ok (.invokespecial ix, 3)) (x5 : decode rx 5 = .ok (.return_, 1))
    (hX : Bundle.fit X = true) (hY : Bundle.fit Y = true) (hn : ∀ n ∈ names, Bundle.fit n = true) (h1 : ∀ w ∈ Bundle.passSAtoms X Y ix rx, w.before args s = true) (h2 : ∀ w ∈ Bundle.chainSAtoms Y names, w.before args s = true) :
    ∃ (P : PassC) (Ps : List PassC), s.methodNamed? (Bundle.initS X) = some P.m ∧ (∀ Z, Z ∈ P :: Ps → Z.LinksS pl s) ∧ PassesOn top ((P :: Ps).map (·.toPassT)) ∧ Ps.length = names.length + 1 := by
  obtain ⟨P, hP, hm, hup⟩ := PassC.ofS_atoms hpl (Bundle.fit_spec hX).1 (Bundle.fit_spec hY).2 x0 x1 x2 x5 h1
  obtain ⟨Q, Qs, hlen, hQ, hQs, hmQ, hupQ, hon⟩ := Bundle.chainS hpl htop names Y hY hn h2
  refine ⟨P, Q :: Qs, hm, ?_, ⟨?_, hupQ, hon⟩, congrArg (· + 1) hlen⟩
  · intro Z hZ
    simp only [List.mem_cons] at hZ
    rcases hZ with h | h | h
    · exact h ▸ hP
    · exact h ▸ hQ
    · exact hQs Z h
  · rw [hmQ] at hup
    injection hup with hup
    exact hup.symm
end AXC
section AXW
variable {p : Program} {l : Launch} {e : Env} {R : Room} {s : State} {m : MethodId} {args : Array Value} {below : List Frame} {meth : Method} {c : Code} {W : State} {locs : List Loc} {cells slots : Nat}
/-- the run of X's constructor over the fresh object at a: it comes back behind the call, only a's fields are written -/
theorem ax_bareX (X : Stand p l e R s m args below meth c W locs cells slots) (hexec : p.tables.exec = Jvm.exec) (htr : e.platform.stackTraces = false) {own cls Y9 : String} {names : List String} {ic ix : Nat} {rx : ByteArray}
    (x0 : decode rx 0 = .ok (.aload_n 0, 1)) (x1 : decode rx 1 = .ok (.aload_n 1, 1)) (x2 : decode rx 2 = .ok (.invokespecial ix, 3)) (x5 : decode rx 5 = .ok (.return_, 1))
    (hown : s.vm.findClass own = some m.cls) (hcls : Bundle.fit cls = true) (hY9 : Bundle.fit Y9 = true) (hnames : ∀ n ∈ names, Bundle.fit n = true) (h : ∀ w ∈ ax_atomsX own ic cls Y9 ix rx names, w.before args s = true)
    (hlocs : ∀ x ∈ locs, ∀ cell, s.heap[x.base]? = some cell → cell.vm.isStatics = false)
    {a : Addr} {C : ClassId} {K : Class} (hC : s.vm.findClass cls = some C) (hK : s.vm.classes[C]? = some K) (hcell : W.heap[a]? = some (freshCell C K)) (hnew : s.heap.size ≤ a) {msg : Value} (hmsg : msg.isRef = true)
    {g : JFrame} (hg : g.method = m) (hsize : g.locals.size = c.maxLocals) {st : List Value} (hstack : g.stack = msg :: .ref a :: st) (hd : decode c.code g.pc = .ok (.invokespecial ic, 3))
    (hRframes : names.length + 4 < R.frames) (hRlocals : 2 * g.monitorRoom + (st.map fun v => v.category).sum + (13 * (names.length + 2) + 42) ≤ R.locals) :
    ∃ (V : State) (ce : Cell) (L : List Loc), Stand p l e R s m args below meth c V (locs ++ L) cells slots ∧ (∀ z ∈ L, z.base = a) ∧ V.heap[a]? = some ce ∧ ce.vm = .none ∧ ce.cls = C ∧
      ∀ target, Steps p.tables e below (V.setTop { g with stack := st, pc := g.pc + 3 }) target → Steps p.tables e below (W.setTop g) target := by
  have hplat := X.admits.platform
  have hpl : e.platform.magicAccessors = ({} : Platform).magicAccessors := by rw [hplat]
  simp only [ax_atomsX, List.mem_append] at h
  obtain ⟨T, Z0, L, -, Y⟩ := ThrowableC.of_atoms (args := args) (s := s) (pl := e.platform) (by rw [hplat]) (by rw [hplat]) hpl (fun w hw => h w (Or.inl (Or.inl (Or.inl hw))))
  obtain ⟨Z, M, LZ, LM, htop⟩ := Init0T.ofS_atoms (args := args) hpl L Y (fun w hw => h w (Or.inl (Or.inl (Or.inr hw))))
  obtain ⟨P, Ps, hm, hPs, hon, hlen⟩ := ax_chainX (args := args) hpl htop x0 x1 x2 x5 hcls hY9 hnames (fun w hw => h w (Or.inl (Or.inr (Or.inl hw)))) (fun w hw => h w (Or.inl (Or.inr (Or.inr hw))))
  have hend : ∀ w ∈ ([.methodLink own ic (Bundle.initS cls), .instantiable cls 6, .castable cls cls, .selects cls Bundle.tFill0 Bundle.tFill0, .selects cls Bundle.tFill Bundle.tFill,
      .lays cls Bundle.tN "cause" "Ljava/lang/Throwable;", .lays cls Bundle.tN "stackTrace" Bundle.steD, .lays cls Bundle.tN "suppressedExceptions" Bundle.listD, .lays cls Bundle.tN "detailMessage" "Ljava/lang/String;",
      .isRef (.static Bundle.tN "UNASSIGNED_STACK" Bundle.steD), .isRef (.static Bundle.tN "SUPPRESSED_SENTINEL" Bundle.listD),
      .fieldLink Bundle.tN 198 Bundle.tN "backtrace" "Ljava/lang/Object;", .lays Bundle.tN Bundle.tN "backtrace" "Ljava/lang/Object;", .lays cls Bundle.tN "backtrace" "Ljava/lang/Object;"] : List Cond), w.before args s = true := fun w hw => h w (Or.inr hw)
  simp only [List.forall_mem_cons] at hend
  obtain ⟨k1, k2, -, k4, k5, k6, k7, k8, k9, k10, k11, k12, k13, k14, -⟩ := hend
  have hmC : P.m.cls = C := by
    have := hC.symm.trans (findClass_of_methodNamed hm)
    injection this with this
    exact this.symm
  -- the class
  have hord : K.kind = .ordinary := by
    have k2' : (Cond.instantiable cls 6).holds args s none s [] = true := k2
    obtain ⟨C', K', q1, q2, q3, -⟩ := Cond.instantiable_spec k2'
    rw [hC] at q1; injection q1 with q1
    rw [← q1, hK] at q2; injection q2 with q2
    rw [q2]; exact q3
  obtain ⟨iM, hfM⟩ := Y.msg
  have fC := ax_has_of (args := args) hC hK Y.cause k6
  have fS := ax_has_of (args := args) hC hK Y.stack k7
  have fP := ax_has_of (args := args) hC hK Y.supp k8
  have fM := ax_has_of (args := args) hC hK hfM k9
  -- Throwable's statics, at the start and now
  obtain ⟨cs0, hcs0, hst⟩ := Y.statics
  obtain ⟨u0, hu0⟩ := ax_static (args := args) Y.unassigned L.unassignedStatic L.statics hcs0 hst k10
  obtain ⟨sen, hsen⟩ := ax_static (args := args) Y.sentinel L.sentinelStatic L.statics hcs0 hst k11
  obtain ⟨cs, hcs, hvm, -, hkeep⟩ := X.same.2.2.2.2.2 T.aS cs0 hcs0
  have hnot : ∀ i, (⟨T.aS, i⟩ : Loc) ∉ locs := by
    intro i hi
    have h0 := hlocs _ hi cs0 hcs0
    rw [hst] at h0
    exact Bool.noConfusion h0
  have hknown : cs.vm ≠ .unknown := by
    intro hu
    rw [hvm] at hu
    rw [show cs0.vm = .unknown from hu] at hst
    exact Bool.noConfusion hst
  have hold : T.aS < s.heap.size := (Array.getElem?_eq_some_iff.mp hcs0).1
  -- the field that stays null
  obtain ⟨ci, i, fB, b1, b2, b3, b4, -, b5, b6, b7⟩ := Cond.ownField (t := .object "java/lang/Object") (args := args) (first := s) (o := none) (idx := []) Y.found L.cls (by decide +kernel) k12 k13 e.platform hpl
  have fB' := ax_has_of (args := args) hC hK b7 k14
  have hback : SkipFacts T e.platform s (fun u => u) u0 ((preparedCellV T.toThrowableT (freshCell C K) a u0 sen).withEntry W.cur) := by
    refine ⟨⟨ci, i, fB⟩, ⟨b1, b2, b3, b4⟩, ?_, fun _ _ => rfl⟩
    have h0 := fresh_default (c := C) fB'.1
    rw [b6] at h0
    have n1 := ax_has_ne fB' fC (by rw [b5, Y.causeName]; decide)
    have n2 := ax_has_ne fB' fS (by rw [b5, Y.stackName]; decide)
    have n3 := ax_has_ne fB' fP (by rw [b5, Y.suppName]; decide)
    simpa [Cell.setSlot, Cell.withEntry, Array.getElem?_setIfInBounds, n1, n2, n3, n1.symm, n2.symm, n3.symm, defaultValue] using h0
  -- the constructor's name is looked up, then it runs
  obtain ⟨tm, -, -, -, vm1, hn1, -, -, -, -, -, -, -, hW1, hcall⟩ := Steps.initColdS (tb := p.tables) (e := e) (below := below) X.here hexec X.warmed hpl hown (t := Bundle.initS cls) rfl rfl (Bundle.fit_spec hcls).2 (args := args) k1
    (h _ (Or.inl (Or.inr (Or.inl (by simp [Bundle.passSAtoms]))))) (bytes := rx) (maxL := 2) (h _ (Or.inl (Or.inr (Or.inl (by simp [Bundle.passSAtoms]))))) hg hstack hd
  have htm : tm = P.m := by rw [hm] at hn1; injection hn1 with hn1; exact hn1.symm
  obtain ⟨vm2, hstand, hrun⟩ := (X.noted hW1).ctorMessageOffV hexec (g := { g with stack := st }) hg hsize T L Z LZ M LM (P :: Ps) hPs hon (u0 := u0) (sen := sen) (self := a) (msg := msg) hmsg
    (cell := freshCell C K) (cellS := cs) hcell (fun _ hk => by simp at hk) (by simp) rfl rfl
    (ax_pick X.admits hC Y.fill0 (by decide) k4) (ax_pick X.admits hC Y.fill (by decide) k5) hcs (Nat.ne_of_lt (Nat.lt_of_lt_of_le hold hnew)) hknown
    ((hkeep _ (hnot _)).trans hu0) ((hkeep _ (hnot _)).trans hsen)
    (Takes.of_laid hK hord fC.1 (by rw [Y.causeType]; rfl)) (Takes.of_laid hK hord fS.1 (by rw [Y.stackType]; exact fits_refV_array _ u0)) (Takes.of_laid hK hord fP.1 (by rw [Y.suppType]; exact fits_refV_object _ sen))
    (Takes.of_laid hK hord fM.1 (by rw [Y.msgType]; exact fits_refV_object _ ⟨msg, hmsg⟩)) Y.objLocals hback htr [] hd
    (by rw [List.length_cons, hlen]; omega) (by rw [List.length_cons, hlen]; exact hRlocals)
  refine ⟨_, _, _, hstand, ?_, heapAt_setCell_self (s := (W.setVm vm1).setVm vm2) (plainBareV T.toThrowableT (freshCell C K) a u0 sen msg) (Array.getElem?_eq_some_iff.mp hcell).1, rfl, rfl, fun target ht => hcall target fun acts => ?_⟩
  · simp
  · rw [doInvoke_state, htm]
    exact hrun target ht
/-- .. and then it is thrown, and leaves the method -/
theorem ax_ctorX (X : Stand p l e R s m args below meth c W locs cells slots) (hexec : p.tables.exec = Jvm.exec) (htr : e.platform.stackTraces = false) {own cls Y9 : String} {names : List String} {ic ix : Nat} {rx : ByteArray}
    (x0 : decode rx 0 = .ok (.aload_n 0, 1)) (x1 : decode rx 1 = .ok (.aload_n 1, 1)) (x2 : decode rx 2 = .ok (.invokespecial ix, 3)) (x5 : decode rx 5 = .ok (.return_, 1))
    (hown : s.vm.findClass own = some m.cls) (hcls : Bundle.fit cls = true) (hY9 : Bundle.fit Y9 = true) (hnames : ∀ n ∈ names, Bundle.fit n = true) (h : ∀ w ∈ ax_atomsX own ic cls Y9 ix rx names, w.before args s = true)
    (hlocs : ∀ x ∈ locs, ∀ cell, s.heap[x.base]? = some cell → cell.vm.isStatics = false)
    {a : Addr} {C : ClassId} {K : Class} (hC : s.vm.findClass cls = some C) (hK : s.vm.classes[C]? = some K) (hcell : W.heap[a]? = some (freshCell C K)) (hnew : s.heap.size ≤ a) {msg : Value} (hmsg : msg.isRef = true)
    {g : JFrame} (hg : g.method = m) (hsize : g.locals.size = c.maxLocals) (hlocked : g.locked = none) (hentered : g.entered = []) {rest : List Value} (hstack : g.stack = msg :: .ref a :: .ref a :: rest)
    (hd6 : decode c.code g.pc = .ok (.invokespecial ic, 3)) (hd9 : decode c.code (g.pc + 3) = .ok (.athrow, 1)) (hout : ∀ x ∈ c.exceptionTable.toList, covers x (g.pc + 3) = false)
    (hRframes : names.length + 4 < R.frames) (hRlocals : 2 * g.monitorRoom + ((Value.ref a :: rest).map fun v => v.category).sum + (13 * (names.length + 2) + 42) ≤ R.locals) (hlocks : meth.locks = false) :
    ∃ U : State, Steps p.tables e below (W.setTop g) U ∧ U.status = .running ∧ Ended U below (.threw a) ∧ s.WarmedH U.vm ∧ s.sameButNew ({ U with vm := s.vm } : State) locs cells slots ∧
      ∃ ce, U.heap[a]? = some ce ∧ ce.vm = .none ∧ s.vm.findClass cls = some ce.cls := by
  obtain ⟨V, ce, Lx, hV, hLx, hce, hce1, hce2, hrun⟩ := ax_bareX X hexec htr x0 x1 x2 x5 hown hcls hY9 hnames h hlocs hC hK hcell hnew hmsg hg hsize hstack hd6 hRframes hRlocals
  obtain ⟨hgo, hst, hen, hwm, hsame⟩ := hV.athrowLeaves hexec (g := { g with stack := .ref a :: rest, pc := g.pc + 3 }) hg hlocked hentered hout rfl hd9 hlocks
  refine ⟨_, hrun _ hgo, hst, hen, hwm, hsame.weaken ?_ (Nat.le_refl _) (Nat.le_refl _), ce, hce, hce1, by rw [hce2]; exact hC⟩
  intro z hz hlt
  rcases List.mem_append.mp hz with hz | hz
  · exact hz
  · rw [hLx z hz] at hlt
    exact absurd hlt (Nat.not_lt.mpr hnew)
end AXW
section AXWR
variable {p : Program} {l : Launch} {e : Env} {R : Room} {s : State} {m : MethodId} {args : Array Value} {below : List Frame} {meth : Method} {c : Code} {H : Heap} {locs : List Loc} {cells slots : Nat} {Q : State → Prop}
variable {mc ms : Nat} {free : Addr → Prop} {A0 A1 : Nat → Prop} {H0 : Heap} {a : Array Value} {ls : Array Slot} {st0 rest : List Value}
variable {Qc : Array Value → State → Outcome → State → Prop} {XC : String → State → State → Prop}
set_option maxHeartbeats 1000000 in
theorem ax_throwX {cc : ByteArray} {pc : Nat} (hexec : p.tables.exec = Jvm.exec) (hb : c.code = cc) (hl : l.stackTraces = false) {own cls Y9 text : String} {ix : Nat} {rx : ByteArray} (x0 : decode rx 0 = .ok (.aload_n 0, 1)) (x1 : decode rx 1 = .ok (.aload_n 1, 1)) (x2 : decode rx 2 = .ok (.invokespecial ix, 3)) (x5 : decode rx 5 = .ok (.return_, 1)) (hY9 : Bundle.fit Y9 = true) {names : List String} {ik is ic mc ms sa : Nat} {A : Nat → Prop}
    (hown : s.vm.findClass own = some m.cls) (hcls : Bundle.fit cls = true) (hnames : ∀ n ∈ names, Bundle.fit n = true)
    (hk : (Cond.classLink own ik cls).before args s = true) (hini : (Cond.initialized cls).before args s = true) (hstr : vk_R own is text sa s) (hat : ∀ w ∈ ax_atX own ic cls Y9 ix rx names, w.before args s = true)
    (hgood : ∀ w ∈ Cond.classLink own ik cls :: Cond.initialized cls :: ax_atX own ic cls Y9 ix rx names, vx_ot w = true)
    (hU : vx_Zq Bundle.tN "UNASSIGNED_STACK" Bundle.steD A s s.heap) (hN : vx_Zq Bundle.tN "SUPPRESSED_SENTINEL" Bundle.listD A s s.heap) (hS : va_S A s.heap H locs) (hsize : ls.size = c.maxLocals)
    (d0 : decode cc pc = .ok (.new ik, 3)) (d3 : decode cc (pc + 3) = .ok (.dup, 1)) (d4 : decode cc (pc + 4) = .ok (.ldc is, 2)) (d6 : decode cc (pc + 6) = .ok (.invokespecial ic, 3)) (d9 : decode cc (pc + 9) = .ok (.athrow, 1))
    (hout : ∀ x ∈ c.exceptionTable.toList, covers x (pc + 9) = false)
    (hRframes : names.length + 4 < R.frames) (hRlocals : (rest.map fun v => v.category).sum + (13 * (names.length + 2) + 43) ≤ R.locals) (hRcells : cells + 1 ≤ R.cells) (hRslots : slots + 6 ≤ R.slots) (hlocks : meth.locks = false)
    (hx : ∀ t : State, s.vm.Alike t.vm → H.size ≤ t.heap.size → (∀ q : Nat, q < H.size → t.heap[q]? = H[q]?) → XC cls s t)
    (hf : ∀ z ∈ locs, free z.base) (hc : cells + 1 ≤ mc) (hs : slots + 6 ≤ ms) :
    W p l e R s m args below meth c H locs cells slots (vx_MQ below Qc XC args s mc ms free) (F0 m pc ls rest) := by
  intro T hT X
  have htr : e.platform.stackTraces = false := (show e.platform.stackTraces = l.stackTraces by rw [X.admits.platform]).trans hl
  have Y := vx_rebase X (R' := { frames := R.frames, locals := R.locals, cells := 1, slots := 6 }) (Nat.le_refl _) (Nat.le_refl _) hRcells hRslots
  obtain ⟨s', hA⟩ : ∃ z, z = (T.setVm s.vm).setFrames (.invoking m args :: below) := ⟨_, rfl⟩
  rw [← hA] at Y
  have hvm : s'.vm = s.vm := by rw [hA]; rfl
  have hhp : s'.heap = H := by rw [hA]; exact hT
  have hW0 : s.WarmedH s'.vm := by rw [hvm]; exact State.WarmedH.refl s
  have hat' : ∀ w ∈ ax_atX own ic cls Y9 ix rx names, w.before args s' = true := fun w hw => vx_ot_at hW0 hvm.symm (hgood w (List.mem_cons_of_mem _ (List.mem_cons_of_mem _ hw))) (hat w hw)
  have hk' : (Cond.classLink own ik cls).before args s' = true := vx_ot_at hW0 hvm.symm (hgood _ List.mem_cons_self) hk
  have hini' : (Cond.initialized cls).before args s' = true := vx_ot_at hW0 hvm.symm (hgood _ (List.mem_cons_of_mem _ List.mem_cons_self)) hini
  have hU' : vx_Zq Bundle.tN "UNASSIGNED_STACK" Bundle.steD A s' s'.heap := by rw [hhp]; exact vx_Zq.moved hW0.alike (hU.kept hS.2.1)
  have hN' : vx_Zq Bundle.tN "SUPPRESSED_SENTINEL" Bundle.listD A s' s'.heap := by rw [hhp]; exact vx_Zq.moved hW0.alike (hN.kept hS.2.1)
  have h : ∀ w ∈ ax_atomsX own ic cls Y9 ix rx names, w.before args s' = true := vx_own hat' (vx_isRefq hU'.1) (vx_isRefq hN'.1) hU'.2.word hN'.2.word
  have hown' : s'.vm.findClass own = some m.cls := by rw [hvm]; exact hown
  have hins : (Cond.instantiable cls 6).before args s' = true := h _ (by simp [ax_atomsX])
  obtain ⟨vm₁, cX, kX, hfX, hkX, -, -, X₁, st1⟩ := Y.newCold hexec (own := own) (C := cls) (index := ik) (n := 6) hown' hk' hins hini'
    (g := F0 m pc ls rest) rfl (by rw [hb]; exact d0) (Nat.le_refl _) (Nat.le_refl _)
  generalize hT1 : (T.setVm vm₁).pushCell { cls := cX, slots := kX.instanceTypes.map defaultValue, vm := .none } = T1 at X₁ st1
  have hcat : (Value.ref T.heap.size).category = 1 := rfl
  have hcellA : T1.heap[T.heap.size]? = some (freshCell cX kX) := by rw [← hT1]; exact State.heap_pushCell_size _ _
  have d3' : decode c.code (pc + 3) = .ok (.dup, 1) := by rw [hb]; exact d3
  have d4' : decode c.code (pc + 4) = .ok (.ldc is, 2) := by rw [hb]; exact d4
  have hstr' : vk_R own is text sa s' := vk_R.warm hW0 hstr
  obtain ⟨U, hsteps, hrun, hend, hW, hsame, ce, hce, hO1, hO2⟩ := ax_ctorX X₁ hexec htr (own := own) (cls := cls) (names := names) (ic := ic) x0 x1 x2 x5 hown' hcls hY9 hnames h (fun x hx => nomatch hx) hfX hkX hcellA (by rw [hhp, hT]; exact Nat.le_refl _) (msg := .ref sa) rfl
    (g := { method := m, pc := pc + 6, locals := ls, stack := .ref sa :: .ref T.heap.size :: .ref T.heap.size :: rest, locked := none }) rfl hsize rfl rfl (rest := rest) rfl
    (by rw [hb]; exact d6) (by rw [hb]; exact d9) hout hRframes (by simp only [List.map_cons, List.sum_cons, hcat]; omega) hlocks
  obtain ⟨f1, f2⟩ := vx_frame hsame
  rw [hhp] at f1 f2
  have hWs : s.WarmedH U.vm := State.WarmedH.trans hW0 hW
  have hcl : s.vm.findClass cls = some ce.cls := by
    have h9 := hO2
    rw [hvm] at h9
    exact h9
  have hall : s.sameButNew ({ U with vm := s.vm } : State) locs mc ms := by
    subst hA
    obtain ⟨e1, e2⟩ := hsame
    rw [State.setFrames_setFrames] at e1
    have h2 : (T.setVm s.vm).sameButNew ({ U with vm := s.vm } : State) [] (0 + 1) (0 + 6) := ⟨e1, e2⟩
    have h3 := X.same.trans h2
    rw [List.append_nil] at h3
    exact h3.mono hc hs
  refine ⟨U, ?_, .threw T.heap.size, hrun, hend, Or.inr ⟨T.heap.size, rfl, cls, ce, locs, hx U hWs.alike f1 (fun q hq => f2 q hq (fun z hz => nomatch hz)), hce, hO1, hcl, hWs, hall, hf⟩⟩
  refine st1 _ ?_
  show Steps p.tables e below (T1.setTop { method := m, pc := pc + 3, locals := ls, stack := .ref T.heap.size :: rest, locked := none }) _
  jvm_step X₁.here [X₁.here.top, hexec, d3', Value.category]
  exact X₁.ldcString hexec (own := own) (text := text) (index := is) (a := sa) hown' hstr'.1 hstr'.2
    (g := { method := m, pc := pc + 4, locals := ls, stack := .ref T.heap.size :: .ref T.heap.size :: rest, locked := none }) rfl d4' _ hsteps
set_option maxHeartbeats 1000000 in
theorem ax_throwXW {cc : ByteArray} {pc : Nat} (hexec : p.tables.exec = Jvm.exec) (hb : c.code = cc) (hl : l.stackTraces = false) {own cls Y9 text : String} {ix : Nat} {rx : ByteArray} (x0 : decode rx 0 = .ok (.aload_n 0, 1)) (x1 : decode rx 1 = .ok (.aload_n 1, 1)) (x2 : decode rx 2 = .ok (.invokespecial ix, 3)) (x5 : decode rx 5 = .ok (.return_, 1)) (hY9 : Bundle.fit Y9 = true) {names : List String} {ik is ic mc ms sa : Nat} {A : Nat → Prop}
    (hown : s.vm.findClass own = some m.cls) (hcls : Bundle.fit cls = true) (hnames : ∀ n ∈ names, Bundle.fit n = true)
    (hk : (Cond.classLink own ik cls).before args s = true) (hini : (Cond.initialized cls).before args s = true) (hstr : vk_R own is text sa s) (hat : ∀ w ∈ ax_atX own ic cls Y9 ix rx names, w.before args s = true)
    (hgood : ∀ w ∈ Cond.classLink own ik cls :: Cond.initialized cls :: ax_atX own ic cls Y9 ix rx names, vx_ot w = true)
    (hU : vx_Zq Bundle.tN "UNASSIGNED_STACK" Bundle.steD A s s.heap) (hN : vx_Zq Bundle.tN "SUPPRESSED_SENTINEL" Bundle.listD A s s.heap) (hS : va_S A s.heap H locs) (hsize : ls.size = c.maxLocals)
    (d0 : decode cc pc = .ok (.new ik, 3)) (d3 : decode cc (pc + 3) = .ok (.dup, 1)) (d4 : decode cc (pc + 4) = .ok (.ldc_w is, 3)) (d7 : decode cc (pc + 7) = .ok (.invokespecial ic, 3)) (d10 : decode cc (pc + 10) = .ok (.athrow, 1))
    (hout : ∀ x ∈ c.exceptionTable.toList, covers x (pc + 10) = false)
    (hRframes : names.length + 4 < R.frames) (hRlocals : (rest.map fun v => v.category).sum + (13 * (names.length + 2) + 43) ≤ R.locals) (hRcells : cells + 1 ≤ R.cells) (hRslots : slots + 6 ≤ R.slots) (hlocks : meth.locks = false)
    (hx : ∀ t : State, s.vm.Alike t.vm → H.size ≤ t.heap.size → (∀ q : Nat, q < H.size → t.heap[q]? = H[q]?) → XC cls s t)
    (hf : ∀ z ∈ locs, free z.base) (hc : cells + 1 ≤ mc) (hs : slots + 6 ≤ ms) :
    W p l e R s m args below meth c H locs cells slots (vx_MQ below Qc XC args s mc ms free) (F0 m pc ls rest) := by
  intro T hT X
  have htr : e.platform.stackTraces = false := (show e.platform.stackTraces = l.stackTraces by rw [X.admits.platform]).trans hl
  have Y := vx_rebase X (R' := { frames := R.frames, locals := R.locals, cells := 1, slots := 6 }) (Nat.le_refl _) (Nat.le_refl _) hRcells hRslots
  obtain ⟨s', hA⟩ : ∃ z, z = (T.setVm s.vm).setFrames (.invoking m args :: below) := ⟨_, rfl⟩
  rw [← hA] at Y
  have hvm : s'.vm = s.vm := by rw [hA]; rfl
  have hhp : s'.heap = H := by rw [hA]; exact hT
  have hW0 : s.WarmedH s'.vm := by rw [hvm]; exact State.WarmedH.refl s
  have hat' : ∀ w ∈ ax_atX own ic cls Y9 ix rx names, w.before args s' = true := fun w hw => vx_ot_at hW0 hvm.symm (hgood w (List.mem_cons_of_mem _ (List.mem_cons_of_mem _ hw))) (hat w hw)
  have hk' : (Cond.classLink own ik cls).before args s' = true := vx_ot_at hW0 hvm.symm (hgood _ List.mem_cons_self) hk
  have hini' : (Cond.initialized cls).before args s' = true := vx_ot_at hW0 hvm.symm (hgood _ (List.mem_cons_of_mem _ List.mem_cons_self)) hini
  have hU' : vx_Zq Bundle.tN "UNASSIGNED_STACK" Bundle.steD A s' s'.heap := by rw [hhp]; exact vx_Zq.moved hW0.alike (hU.kept hS.2.1)
  have hN' : vx_Zq Bundle.tN "SUPPRESSED_SENTINEL" Bundle.listD A s' s'.heap := by rw [hhp]; exact vx_Zq.moved hW0.alike (hN.kept hS.2.1)
  have h : ∀ w ∈ ax_atomsX own ic cls Y9 ix rx names, w.before args s' = true := vx_own hat' (vx_isRefq hU'.1) (vx_isRefq hN'.1) hU'.2.word hN'.2.word
  have hown' : s'.vm.findClass own = some m.cls := by rw [hvm]; exact hown
  have hins : (Cond.instantiable cls 6).before args s' = true := h _ (by simp [ax_atomsX])
  obtain ⟨vm₁, cX, kX, hfX, hkX, -, -, X₁, st1⟩ := Y.newCold hexec (own := own) (C := cls) (index := ik) (n := 6) hown' hk' hins hini'
    (g := F0 m pc ls rest) rfl (by rw [hb]; exact d0) (Nat.le_refl _) (Nat.le_refl _)
  generalize hT1 : (T.setVm vm₁).pushCell { cls := cX, slots := kX.instanceTypes.map defaultValue, vm := .none } = T1 at X₁ st1
  have hcat : (Value.ref T.heap.size).category = 1 := rfl
  have hcellA : T1.heap[T.heap.size]? = some (freshCell cX kX) := by rw [← hT1]; exact State.heap_pushCell_size _ _
  have d3' : decode c.code (pc + 3) = .ok (.dup, 1) := by rw [hb]; exact d3
  have d4' : decode c.code (pc + 4) = .ok (.ldc_w is, 3) := by rw [hb]; exact d4
  have hstr' : vk_R own is text sa s' := vk_R.warm hW0 hstr
  obtain ⟨U, hsteps, hrun, hend, hW, hsame, ce, hce, hO1, hO2⟩ := ax_ctorX X₁ hexec htr (own := own) (cls := cls) (names := names) (ic := ic) x0 x1 x2 x5 hown' hcls hY9 hnames h (fun x hx => nomatch hx) hfX hkX hcellA (by rw [hhp, hT]; exact Nat.le_refl _) (msg := .ref sa) rfl
    (g := { method := m, pc := pc + 7, locals := ls, stack := .ref sa :: .ref T.heap.size :: .ref T.heap.size :: rest, locked := none }) rfl hsize rfl rfl (rest := rest) rfl
    (by rw [hb]; exact d7) (by rw [hb]; exact d10) hout hRframes (by simp only [List.map_cons, List.sum_cons, hcat]; omega) hlocks
  obtain ⟨f1, f2⟩ := vx_frame hsame
  rw [hhp] at f1 f2
  have hWs : s.WarmedH U.vm := State.WarmedH.trans hW0 hW
  have hcl : s.vm.findClass cls = some ce.cls := by
    have h9 := hO2
    rw [hvm] at h9
    exact h9
  have hall : s.sameButNew ({ U with vm := s.vm } : State) locs mc ms := by
    subst hA
    obtain ⟨e1, e2⟩ := hsame
    rw [State.setFrames_setFrames] at e1
    have h2 : (T.setVm s.vm).sameButNew ({ U with vm := s.vm } : State) [] (0 + 1) (0 + 6) := ⟨e1, e2⟩
    have h3 := X.same.trans h2
    rw [List.append_nil] at h3
    exact h3.mono hc hs
  refine ⟨U, ?_, .threw T.heap.size, hrun, hend, Or.inr ⟨T.heap.size, rfl, cls, ce, locs, hx U hWs.alike f1 (fun q hq => f2 q hq (fun z hz => nomatch hz)), hce, hO1, hcl, hWs, hall, hf⟩⟩
  refine st1 _ ?_
  show Steps p.tables e below (T1.setTop { method := m, pc := pc + 3, locals := ls, stack := .ref T.heap.size :: rest, locked := none }) _
  jvm_step X₁.here [X₁.here.top, hexec, d3', Value.category]
  exact X₁.ldcStringW hexec (own := own) (text := text) (index := is) (a := sa) hown' hstr'.1 hstr'.2
    (g := { method := m, pc := pc + 4, locals := ls, stack := .ref T.heap.size :: .ref T.heap.size :: rest, locked := none }) rfl d4' _ hsteps
end AXWR
