/-! CONSTRUCTORS: what a walk over new cells is told in -/
abbrev kT (ar : Nat → ClassId) : List (ClassId × FieldType) := [(ar 0, .int), (ar 1, .char), (ar 2, .object RX9), (ar 3, .long), (ar 4, .double)]
abbrev yPl : MethodName := ⟨"AdventureWorld$Plan", "<init>", "()V"⟩
abbrev yRd : MethodName := ⟨"AdventureWorld$Reader", "<init>", "()V"⟩
def kX (U : State) : Prop := va_AO RX9 U ∧ va_Nw (.methodLinkNest "AdventureWorld" 21 yPl "AdventureWorld") U ∧ va_Nw (.methodLinkNest "AdventureWorld" 48 yRd "AdventureWorld") U
theorem kX.on {s U : State} (hW : s.WarmedH U.vm) (h : kX s) : kX U := ⟨h.1.moved hW.alike, va_Nw.warmM hW h.2.1, va_Nw.warmM hW h.2.2⟩
theorem kX.call {U : State} {g : JFrame} {mk : MethodId} {a : Array Value} (h : kX U) : kX (U.calling g mk a) := ⟨va_AO.moved (u := U) (U := U.calling g mk a) (Vm.Alike.refl U.vm) h.1, va_Nw.same (u := U) (U := U.calling g mk a) rfl rfl h.2.1, va_Nw.same (u := U) (U := U.calling g mk a) rfl rfl h.2.2⟩
def kP (D : va_G) (ws : va_W) (H : Heap) : Prop := ∀ q ∈ ws, va_at D vwCl q H
def kN (A : Nat → Prop) (ws : va_W) : Prop := (ws.map (fun q => q.1)).Nodup ∧ ∀ q ∈ ws, A q.1
theorem kP_iff {D : va_G} {ws : va_W} {H : Heap} : va_P D vwCl ws H ↔ kP D ws H := by
  constructor
  · intro h q hq
    obtain ⟨k, hk⟩ := List.getElem?_of_mem hq
    exact h k q hk
  · intro h k q hk
    exact h q (List.mem_of_getElem? hk)
theorem kN_nd : ∀ {ws : va_W}, (∀ (i j : Nat) (p q : Nat × va_E), ws[i]? = some p → ws[j]? = some q → p.1 = q.1 → i = j) → (ws.map (fun q => q.1)).Nodup := by
  intro ws
  induction ws with
  | nil => intro _; exact List.nodup_nil
  | cons x t ih =>
    intro h
    refine List.nodup_cons.mpr ⟨fun hm => ?_, ih (fun i j p q hi hj e => ?_)⟩
    · obtain ⟨y, hy, e⟩ := List.mem_map.mp hm
      obtain ⟨k, hk⟩ := List.getElem?_of_mem hy
      have := h 0 (k + 1) x y rfl hk e.symm
      omega
    · have := h (i + 1) (j + 1) p q hi hj e
      omega
theorem kN_iff {A : Nat → Prop} {ws : va_W} : va_D A ws ↔ kN A ws := by
  constructor
  · intro h
    refine ⟨kN_nd h.1, fun q hq => ?_⟩
    obtain ⟨k, hk⟩ := List.getElem?_of_mem hq
    exact h.2 k q hk
  · intro h
    refine ⟨fun i j p q hi hj e => ?_, fun k q hk => h.2 q (List.mem_of_getElem? hk)⟩
    have hl : i < (ws.map (fun q => q.1)).length := by rw [List.length_map]; exact (List.getElem?_eq_some_iff.mp hi).1
    refine (List.getElem?_inj hl h.1).mp ?_
    rw [List.getElem?_map, List.getElem?_map, hi, hj]
    simp [e]
theorem va_RA_inj {U : State} {a b : ClassId} {ty : FieldType} (h1 : va_RA U a ty) (h2 : va_RA U b ty) : a = b := by
  cases ty with
  | object C =>
    obtain ⟨-, -, -, -, -, h3⟩ := h1
    obtain ⟨-, -, -, -, -, h4⟩ := h2
    exact Option.some.inj (h3.symm.trans h4)
  | _ => exact Option.some.inj ((show U.vm.findClass _ = some a from h1).symm.trans h2)
def kd (a : Nat) : List Value := (List.range (ax_nf a)).map (fun j => defaultValue (ax_ty a j))
def kEnv (p : Program) (s : State) (m : MethodId) (args : Array Value) (c : Code) (cc : ByteArray) (D : va_G) (ar : Nat → ClassId) (A : Nat → Prop) (own : String) : Prop :=
  p.tables.exec = Jvm.exec ∧ c.code = cc ∧ s.vm.findClass own = some m.cls ∧ (∀ w ∈ ax_gw, w.before args s = true) ∧ va_K D vwCl (kT ar) s ∧ (∀ q : Nat, s.heap.size ≤ q → A q) ∧ kX s
section KW
variable {p : Program} {l : Launch} {e : Env} {R : Room} {s : State} {m : MethodId} {args : Array Value} {below : List Frame} {meth : Method} {c : Code} {Q : State → Prop} {cc : ByteArray} {D : va_G} {ar : Nat → ClassId} {A : Nat → Prop} {own : String}
variable {ws ws' : va_W} {pc cells slots nL : Nat} {ls : Array Slot} {st : List Value}
def kW (p : Program) (l : Launch) (e : Env) (R : Room) (s : State) (m : MethodId) (args : Array Value) (below : List Frame) (meth : Method) (c : Code) (Q : State → Prop) (D : va_G) (A : Nat → Prop) (ws : va_W) (pc : Nat) (ls : Array Slot) (st : List Value) (cells slots : Nat) : Prop :=
  ∀ (H : Heap) (locs : List Loc), kP D ws H → kN A ws → va_S A s.heap H locs → W p l e R s m args below meth c H locs cells slots Q (F0 m pc ls st)
theorem kW_perm (h : ws.Perm ws') (k : kW p l e R s m args below meth c Q D A ws' pc ls st cells slots) : kW p l e R s m args below meth c Q D A ws pc ls st cells slots :=
  fun H locs hP hN hS => k H locs (fun q hq => hP q (h.mem_iff.mpr hq)) ⟨(h.map _).nodup_iff.mp hN.1, fun q hq => hN.2 q (h.mem_iff.mpr hq)⟩ hS
theorem k_perm1 {x : Nat × va_E} : (ws ++ [x]).Perm (x :: ws) := List.perm_append_comm
theorem kP_p (h : ws.Perm ws') {H : Heap} (hP : kP D ws H) : kP D ws' H := fun q hq => hP q (h.mem_iff.mpr hq)
theorem kN_p (h : ws.Perm ws') (hN : kN A ws) : kN A ws' := ⟨(h.map _).nodup_iff.mp hN.1, fun q hq => hN.2 q (h.mem_iff.mpr hq)⟩
theorem k_newa (E : kEnv p s m args c cc D ar A own) {atype : ArrayType} (t : Nat) {ty : FieldType} (hat : newarray.typeOf atype = ty) (harr : Cond.arrayClass ty ∈ ax_gw) (ht : (kT ar)[t]? = some (ar t, ty)) {n : Int32} {N : Nat} {a0 : vp_A} (ha : ∀ cA : ClassId, vp_cell cA a0 = arrV cA N (fun _ => defaultValue ty)) (hn : ¬ n < 0) (hN : n.toNatClampNeg = N) (hbytes : N * componentBytes ty ≤ 536870912) (hcells : cells + 1 ≤ R.cells) (hslots : slots + N ≤ R.slots) (hd : decode cc pc = .ok (.newarray atype, 2))
    (kk : ∀ q : Nat, kW p l e R s m args below meth c Q D A ((q, .inl (ar t, a0)) :: ws) (pc + 2) ls (.ref q :: st) (cells + 1) (slots + N)) : kW p l e R s m args below meth c Q D A ws pc ls (.int n :: st) cells slots := by
  intro H locs hP hNd hS
  obtain ⟨hx, hb, hown, hts, hK, hA, -⟩ := E
  refine va_newa hx hb (by rw [hat]; exact hts _ harr) hat hK (kP_iff.mpr hP) (kN_iff.mpr hNd) hS hA ha hn hN hbytes hcells hslots hd (fun q cA H1 hK1 hP1 hD1 hS1 => ?_)
  have e1 : cA = ar t := va_RA_inj (hK1.2 5 (cA, ty) rfl).2 (hK.2 t _ ht).2
  subst e1
  exact kk q H1 locs (kP_p k_perm1 (kP_iff.mp hP1)) (kN_p k_perm1 (kN_iff.mp hD1)) hS1
theorem k_new (E : kEnv p s m args c cc D ar A own) {a index : Nat} (ha : a < 10) (hcl : Cond.classLink own index (ax_R a) ∈ ax_gw) (hin : Cond.instantiable (ax_R a) (ax_nf a) ∈ ax_gw) (hini : Cond.initialized (ax_R a) ∈ ax_gw) (hcells : cells + 1 ≤ R.cells) (hslots : slots + ax_nf a ≤ R.slots) (hd : decode cc pc = .ok (.new index, 3))
    (kk : ∀ q : Nat, kW p l e R s m args below meth c Q D A ((q, .inr (a + 2, kd a)) :: ws) (pc + 3) ls (.ref q :: st) (cells + 1) (slots + ax_nf a)) : kW p l e R s m args below meth c Q D A ws pc ls st cells slots := by
  intro H locs hP hNd hS
  obtain ⟨hx, hb, hown, hts, hK, hA, -⟩ := E
  refine va_new hx hb (Ts := ax_gw) hts (fun w hw => ax_gw_mem (ax_uw a ha w hw).1 (ax_uw a ha w hw).2) (ax_ty a) (ax_ty_ok a ha) hown (hts _ hcl) (hts _ hin) (hts _ hini) hK (kP_iff.mpr hP) (kN_iff.mpr hNd) hS hA (ax_cl_at a ha) (fs := kd a) (fun j hj => ?_) hcells hslots hd (fun q H1 hP1 hD1 hS1 => ?_)
  · unfold kd vp_V
    simp [hj]
  · exact kk q H1 locs (kP_p k_perm1 (kP_iff.mp hP1)) (kN_p k_perm1 (kN_iff.mp hD1)) hS1
/-- a field of the first object -/
theorem k_put (E : kEnv p s m args c cc D ar A own) {a index h0 k : Nat} {fs : List Value} {v : Value} (ha : a < 10) (hk : k < ax_nf a) (hl : Cond.fieldLink own index (ax_T a k).1 (ax_T a k).2.1 (ax_T a k).2.2.1 ∈ ax_gw) (hini : meth.name = "<init>") (hdecl : (ax_T a k).1 = own) (hn : narrow (ax_ty a k) v = v) (hf : fits (ax_ty a k) v = true) (hln : k < fs.length) (hd : decode cc pc = .ok (.putfield index, 3))
    (kk : kW p l e R s m args below meth c Q D A ((h0, .inr (a + 2, fs.set k v)) :: ws) (pc + 3) ls st cells slots) : kW p l e R s m args below meth c Q D A ((h0, .inr (a + 2, fs)) :: ws) pc ls (v :: .ref h0 :: st) cells slots := by
  intro H locs hP hNd hS
  obtain ⟨hx, hb, hown, hts, hK, hA, -⟩ := E
  cases hfin : (ax_T a k).2.2.2 with
  | true =>
    refine va_putF hx hb (Ts := ax_gw) hts (fun w hw => ax_gw_mem (ax_uw a ha w hw).1 (ax_uw a ha w hw).2) (ax_ty a) (ax_ty_ok a ha) (ax_nm a ha) hown hK (kP_iff.mpr hP) (kN_iff.mpr hNd) hS 0 rfl (ax_cl_at a ha) k hk (hts _ hl) (fun x h => h) hfin hini hdecl (ax_ty_ok a ha k hk) hn hf hln hd (fun H1 locs1 hP1 hD1 hS1 => ?_)
    exact kk H1 locs1 (kP_iff.mp hP1) (kN_iff.mp hD1) hS1
  | false =>
    refine va_put hx hb (Ts := ax_gw) hts (fun w hw => ax_gw_mem (ax_uw a ha w hw).1 (ax_uw a ha w hw).2) (ax_ty a) (ax_ty_ok a ha) (ax_nm a ha) hown hK (kP_iff.mpr hP) (kN_iff.mpr hNd) hS 0 rfl (ax_cl_at a ha) k hk (hts _ hl) (fun x h => h) hfin (ax_ty_ok a ha k hk) hn hf hln hd (fun H1 locs1 hP1 hD1 hS1 => ?_)
    exact kk H1 locs1 (kP_iff.mp hP1) (kN_iff.mp hD1) hS1
end KW
