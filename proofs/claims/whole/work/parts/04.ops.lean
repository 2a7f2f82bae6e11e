/-! each operation's row, over the abstract machine's configurations -/
section AXT
variable {p : Program} {l : Launch} {e : Env} {R : Room} {s : State} {m : MethodId} {args : Array Value} {below : List Frame} {meth : Method} {c : Code} {Q : State → Prop} {cc : ByteArray} {G : ax_G} {A : Nat → Prop} {nL c0 s0 : Nat}
def ax_Tr (p : Program) (l : Launch) (e : Env) (R : Room) (s : State) (m : MethodId) (args : Array Value) (below : List Frame) (meth : Method) (c : Code) (Q : State → Prop) (G : ax_G) (A : Nat → Prop) (nL c0 s0 : Nat) (pc : Nat) (lo : List (Nat × ax_V)) (st : List ax_V) (d : ax_D) (ee : Nat) : Prop :=
  ∀ (H : Heap) (locs : List Loc) (ls : Array Slot), lv_has ls nL (ax_cl G lo) → (∀ q ∈ lo, ax_vok q.2) → (∀ v ∈ st, ax_vok v) → va_P G.1 vwCl (ax_cells G d) H → va_D A (ax_cells G d) → va_S A s.heap H locs →
    W p l e R s m args below meth c H locs (c0 + ee) (s0 + 6 * ee) Q (F0 m pc ls (st.map (ax_conc G)))
variable {pc : Nat} {lo : List (Nat × ax_V)} {r : List ax_V} {d : ax_D} {ee : Nat}
theorem ax_ins_mem {a : Nat} {v : ax_V} {q : Nat × ax_V} : ∀ {l : List (Nat × ax_V)}, q ∈ ax_ins a v l → q = (a, v) ∨ q ∈ l := by
  intro l
  induction l with
  | nil => intro h; exact Or.inl (List.mem_singleton.mp h)
  | cons z r ih =>
    intro h
    unfold ax_ins at h
    cases hb : Nat.blt a z.1 with
    | true =>
      rw [hb] at h
      exact List.mem_cons.mp h
    | false =>
      rw [hb] at h
      rcases List.mem_cons.mp h with h | h
      · exact Or.inr (by rw [h]; exact List.mem_cons_self)
      · exact (ih h).imp (fun z => z) (List.mem_cons_of_mem _)
theorem ax_st_has {G : ax_G} {lo : List (Nat × ax_V)} {a nL : Nat} {v : ax_V} {ls : Array Slot} (h : lv_has ls nL ((a, ax_conc G v) :: (ax_cl G lo).filter (fun q => !(q.1 == a) && !(q.1 + 1 == a && q.2.category == 2)))) : lv_has ls nL (ax_cl G (ax_store lo a v)) := by
  refine ⟨h.1, h.2.1, fun q hq => h.2.2 q ?_⟩
  obtain ⟨z, hz, rfl⟩ := List.mem_map.mp hq
  rcases ax_ins_mem hz with rfl | hz
  · exact List.mem_cons_self
  · obtain ⟨h1, h2⟩ := List.mem_filter.mp hz
    refine List.mem_cons_of_mem _ (List.mem_filter.mpr ⟨List.mem_map.mpr ⟨z, h1, rfl⟩, ?_⟩)
    simp only [ax_cat_conc]
    exact h2
theorem ax_store_ok {lo : List (Nat × ax_V)} {a : Nat} {v : ax_V} (h : ∀ q ∈ lo, ax_vok q.2) (hv : ax_vok v) : ∀ q ∈ ax_store lo a v, ax_vok q.2 := by
  intro q hq
  rcases ax_ins_mem hq with rfl | hq
  · exact hv
  · exact h q (List.mem_filter.mp hq).1
theorem ax_keep_mem {b : Nat} {lo : List (Nat × ax_V)} {q : Nat × ax_V} (h : q ∈ ax_keep b lo) : q ∈ lo := by
  unfold ax_keep at h
  cases hb : Nat.beq b 0 with
  | true => rw [hb] at h; exact h
  | false => rw [hb] at h; exact (List.mem_filter.mp h).1
theorem ax_keep_has {G : ax_G} {lo : List (Nat × ax_V)} {b nL : Nat} {ls : Array Slot} (h : lv_has ls nL (ax_cl G lo)) : lv_has ls nL (ax_cl G (ax_keep b lo)) := by
  refine ⟨h.1, h.2.1, fun q hq => h.2.2 q ?_⟩
  obtain ⟨z, hz, rfl⟩ := List.mem_map.mp hq
  exact List.mem_map.mpr ⟨z, ax_keep_mem hz, rfl⟩
theorem ax_okI {x : Int32} {r : List ax_V} (h : ∀ v ∈ r, ax_vok v) : ∀ v ∈ Sum.inl x :: r, ax_vok v := List.forall_mem_cons.mpr ⟨trivial, h⟩
theorem ax_okT {v : ax_V} {r : List ax_V} (h : ∀ w ∈ v :: r, ax_vok w) : ∀ w ∈ r, ax_vok w := (List.forall_mem_cons.mp h).2
theorem ax_okH {v : ax_V} {r : List ax_V} (h : ∀ w ∈ v :: r, ax_vok w) : ax_vok v := (List.forall_mem_cons.mp h).1
theorem ax_okC {v : ax_V} {r : List ax_V} (hv : ax_vok v) (h : ∀ w ∈ r, ax_vok w) : ∀ w ∈ v :: r, ax_vok w := List.forall_mem_cons.mpr ⟨hv, h⟩
theorem ax_t_iconst (hx : p.tables.exec = Jvm.exec) (hb : c.code = cc) {n : Int} {v : Int32} (hd : decode cc pc = .ok (.iconst n, 1)) (hn : Int32.ofInt n = v)
    (k : ax_Tr p l e R s m args below meth c Q G A nL c0 s0 (pc + 1) lo (Sum.inl v :: r) d ee) : ax_Tr p l e R s m args below meth c Q G A nL c0 s0 pc lo r d ee := by
  intro H locs ls hl ho hv hP hD hS
  exact lv_iconst hx hb hd hn (k H locs ls hl ho (ax_okI hv) hP hD hS)
theorem ax_t_bipush (hx : p.tables.exec = Jvm.exec) (hb : c.code = cc) {n : Int} {v : Int32} (hd : decode cc pc = .ok (.bipush n, 2)) (hn : (Int8.ofInt n).toInt32 = v)
    (k : ax_Tr p l e R s m args below meth c Q G A nL c0 s0 (pc + 2) lo (Sum.inl v :: r) d ee) : ax_Tr p l e R s m args below meth c Q G A nL c0 s0 pc lo r d ee := by
  intro H locs ls hl ho hv hP hD hS
  exact lv_bipush hx hb hd hn (k H locs ls hl ho (ax_okI hv) hP hD hS)
theorem ax_t_sipush (hx : p.tables.exec = Jvm.exec) (hb : c.code = cc) {n : Int} {v : Int32} (hd : decode cc pc = .ok (.sipush n, 3)) (hn : (Int16.ofInt n).toInt32 = v)
    (k : ax_Tr p l e R s m args below meth c Q G A nL c0 s0 (pc + 3) lo (Sum.inl v :: r) d ee) : ax_Tr p l e R s m args below meth c Q G A nL c0 s0 pc lo r d ee := by
  intro H locs ls hl ho hv hP hD hS
  exact lv_sipush hx hb hd hn (k H locs ls hl ho (ax_okI hv) hP hD hS)
theorem ax_t_lconst (hx : p.tables.exec = Jvm.exec) (hb : c.code = cc) {n : Fin 2} {a : Nat} (hd : decode cc pc = .ok (.lconst n, 1)) (hn : (n : Nat) = a)
    (k : ax_Tr p l e R s m args below meth c Q G A nL c0 s0 (pc + 1) lo (Sum.inr (Sum.inl (Int64.ofNat a)) :: r) d ee) : ax_Tr p l e R s m args below meth c Q G A nL c0 s0 pc lo r d ee := by
  intro H locs ls hl ho hv hP hD hS
  exact lv_lconst hx hb hd (by rw [hn]) (k H locs ls hl ho (ax_okC trivial hv) hP hD hS)
theorem ax_t_iload_n (hx : p.tables.exec = Jvm.exec) (hb : c.code = cc) {n : Fin 4} {a : Nat} {x : Int32} (hd : decode cc pc = .ok (.iload_n n, 1)) (hn : (n : Nat) = a) (hf : ax_find lo a = some (Sum.inl x))
    (k : ax_Tr p l e R s m args below meth c Q G A nL c0 s0 (pc + 1) lo ((Sum.inl x) :: r) d ee) : ax_Tr p l e R s m args below meth c Q G A nL c0 s0 pc lo r d ee := by
  intro H locs ls hl ho hv hP hD hS
  exact lv_iload_n hx hb hd hn (ax_find_at hf hl) (k H locs ls hl ho (ax_okC (ho _ (ax_find_mem hf)) hv) hP hD hS)
theorem ax_t_iload (hx : p.tables.exec = Jvm.exec) (hb : c.code = cc) {a : Nat} {x : Int32} (hd : decode cc pc = .ok (.iload a, 2)) (hf : ax_find lo a = some (Sum.inl x))
    (k : ax_Tr p l e R s m args below meth c Q G A nL c0 s0 (pc + 2) lo ((Sum.inl x) :: r) d ee) : ax_Tr p l e R s m args below meth c Q G A nL c0 s0 pc lo r d ee := by
  intro H locs ls hl ho hv hP hD hS
  exact lv_iload hx hb hd (ax_find_at hf hl) (k H locs ls hl ho (ax_okC (ho _ (ax_find_mem hf)) hv) hP hD hS)
theorem ax_t_aload_n (hx : p.tables.exec = Jvm.exec) (hb : c.code = cc) {n : Fin 4} {a : Nat} {q : Nat × Nat × Nat} (hd : decode cc pc = .ok (.aload_n n, 1)) (hn : (n : Nat) = a) (hf : ax_find lo a = some (Sum.inr (Sum.inr (Sum.inr (Sum.inr q)))))
    (k : ax_Tr p l e R s m args below meth c Q G A nL c0 s0 (pc + 1) lo ((Sum.inr (Sum.inr (Sum.inr (Sum.inr q)))) :: r) d ee) : ax_Tr p l e R s m args below meth c Q G A nL c0 s0 pc lo r d ee := by
  intro H locs ls hl ho hv hP hD hS
  exact lv_aload_n hx hb hd hn (ax_find_at hf hl) (k H locs ls hl ho (ax_okC (ho _ (ax_find_mem hf)) hv) hP hD hS)
theorem ax_t_aload (hx : p.tables.exec = Jvm.exec) (hb : c.code = cc) {a : Nat} {q : Nat × Nat × Nat} (hd : decode cc pc = .ok (.aload a, 2)) (hf : ax_find lo a = some (Sum.inr (Sum.inr (Sum.inr (Sum.inr q)))))
    (k : ax_Tr p l e R s m args below meth c Q G A nL c0 s0 (pc + 2) lo ((Sum.inr (Sum.inr (Sum.inr (Sum.inr q)))) :: r) d ee) : ax_Tr p l e R s m args below meth c Q G A nL c0 s0 pc lo r d ee := by
  intro H locs ls hl ho hv hP hD hS
  exact lv_aload hx hb hd (ax_find_at hf hl) (k H locs ls hl ho (ax_okC (ho _ (ax_find_mem hf)) hv) hP hD hS)
theorem ax_t_fload_n (hx : p.tables.exec = Jvm.exec) (hb : c.code = cc) {n : Fin 4} {a : Nat} {x : UInt32} (hd : decode cc pc = .ok (.fload_n n, 1)) (hn : (n : Nat) = a) (hf : ax_find lo a = some (Sum.inr (Sum.inr (Sum.inl x))))
    (k : ax_Tr p l e R s m args below meth c Q G A nL c0 s0 (pc + 1) lo ((Sum.inr (Sum.inr (Sum.inl x))) :: r) d ee) : ax_Tr p l e R s m args below meth c Q G A nL c0 s0 pc lo r d ee := by
  intro H locs ls hl ho hv hP hD hS
  exact lv_fload_n hx hb hd hn (ax_find_at hf hl) (k H locs ls hl ho (ax_okC (ho _ (ax_find_mem hf)) hv) hP hD hS)
theorem ax_t_fload (hx : p.tables.exec = Jvm.exec) (hb : c.code = cc) {a : Nat} {x : UInt32} (hd : decode cc pc = .ok (.fload a, 2)) (hf : ax_find lo a = some (Sum.inr (Sum.inr (Sum.inl x))))
    (k : ax_Tr p l e R s m args below meth c Q G A nL c0 s0 (pc + 2) lo ((Sum.inr (Sum.inr (Sum.inl x))) :: r) d ee) : ax_Tr p l e R s m args below meth c Q G A nL c0 s0 pc lo r d ee := by
  intro H locs ls hl ho hv hP hD hS
  exact lv_fload hx hb hd (ax_find_at hf hl) (k H locs ls hl ho (ax_okC (ho _ (ax_find_mem hf)) hv) hP hD hS)
theorem ax_t_dload_n (hx : p.tables.exec = Jvm.exec) (hb : c.code = cc) {n : Fin 4} {a : Nat} {x : UInt64} (hd : decode cc pc = .ok (.dload_n n, 1)) (hn : (n : Nat) = a) (hf : ax_find lo a = some (Sum.inr (Sum.inr (Sum.inr (Sum.inl x)))))
    (k : ax_Tr p l e R s m args below meth c Q G A nL c0 s0 (pc + 1) lo ((Sum.inr (Sum.inr (Sum.inr (Sum.inl x)))) :: r) d ee) : ax_Tr p l e R s m args below meth c Q G A nL c0 s0 pc lo r d ee := by
  intro H locs ls hl ho hv hP hD hS
  exact lv_dload_n hx hb hd hn (ax_find_at hf hl) (k H locs ls hl ho (ax_okC (ho _ (ax_find_mem hf)) hv) hP hD hS)
theorem ax_t_dload (hx : p.tables.exec = Jvm.exec) (hb : c.code = cc) {a : Nat} {x : UInt64} (hd : decode cc pc = .ok (.dload a, 2)) (hf : ax_find lo a = some (Sum.inr (Sum.inr (Sum.inr (Sum.inl x)))))
    (k : ax_Tr p l e R s m args below meth c Q G A nL c0 s0 (pc + 2) lo ((Sum.inr (Sum.inr (Sum.inr (Sum.inl x)))) :: r) d ee) : ax_Tr p l e R s m args below meth c Q G A nL c0 s0 pc lo r d ee := by
  intro H locs ls hl ho hv hP hD hS
  exact lv_dload hx hb hd (ax_find_at hf hl) (k H locs ls hl ho (ax_okC (ho _ (ax_find_mem hf)) hv) hP hD hS)
theorem ax_t_istore_n (hx : p.tables.exec = Jvm.exec) (hb : c.code = cc) {n : Fin 4} {a : Nat} {x : Int32} (hd : decode cc pc = .ok (.istore_n n, 1)) (hn : (n : Nat) = a) (ha : a < nL)
    (k : ax_Tr p l e R s m args below meth c Q G A nL c0 s0 (pc + 1) (ax_store lo a (Sum.inl x)) r d ee) : ax_Tr p l e R s m args below meth c Q G A nL c0 s0 pc lo ((Sum.inl x) :: r) d ee := by
  intro H locs ls hl ho hv hP hD hS
  exact lv_istore_n hx hb hd hn hl ha rfl (fun ls1 hl1 => k H locs ls1 (ax_st_has (v := Sum.inl x) hl1) (ax_store_ok ho (ax_okH hv)) (ax_okT hv) hP hD hS)
theorem ax_t_istore (hx : p.tables.exec = Jvm.exec) (hb : c.code = cc) {a : Nat} {x : Int32} (hd : decode cc pc = .ok (.istore a, 2)) (ha : a < nL)
    (k : ax_Tr p l e R s m args below meth c Q G A nL c0 s0 (pc + 2) (ax_store lo a (Sum.inl x)) r d ee) : ax_Tr p l e R s m args below meth c Q G A nL c0 s0 pc lo ((Sum.inl x) :: r) d ee := by
  intro H locs ls hl ho hv hP hD hS
  exact lv_istore hx hb hd hl ha rfl (fun ls1 hl1 => k H locs ls1 (ax_st_has (v := Sum.inl x) hl1) (ax_store_ok ho (ax_okH hv)) (ax_okT hv) hP hD hS)
theorem ax_t_astore_n (hx : p.tables.exec = Jvm.exec) (hb : c.code = cc) {n : Fin 4} {a : Nat} {q : Nat × Nat × Nat} (hd : decode cc pc = .ok (.astore_n n, 1)) (hn : (n : Nat) = a) (ha : a < nL)
    (k : ax_Tr p l e R s m args below meth c Q G A nL c0 s0 (pc + 1) (ax_store lo a (Sum.inr (Sum.inr (Sum.inr (Sum.inr q))))) r d ee) : ax_Tr p l e R s m args below meth c Q G A nL c0 s0 pc lo ((Sum.inr (Sum.inr (Sum.inr (Sum.inr q)))) :: r) d ee := by
  intro H locs ls hl ho hv hP hD hS
  exact lv_astore_n hx hb hd hn hl ha rfl (fun ls1 hl1 => k H locs ls1 (ax_st_has (v := Sum.inr (Sum.inr (Sum.inr (Sum.inr q)))) hl1) (ax_store_ok ho (ax_okH hv)) (ax_okT hv) hP hD hS)
theorem ax_t_astore (hx : p.tables.exec = Jvm.exec) (hb : c.code = cc) {a : Nat} {q : Nat × Nat × Nat} (hd : decode cc pc = .ok (.astore a, 2)) (ha : a < nL)
    (k : ax_Tr p l e R s m args below meth c Q G A nL c0 s0 (pc + 2) (ax_store lo a (Sum.inr (Sum.inr (Sum.inr (Sum.inr q))))) r d ee) : ax_Tr p l e R s m args below meth c Q G A nL c0 s0 pc lo ((Sum.inr (Sum.inr (Sum.inr (Sum.inr q)))) :: r) d ee := by
  intro H locs ls hl ho hv hP hD hS
  exact lv_astore hx hb hd hl ha rfl (fun ls1 hl1 => k H locs ls1 (ax_st_has (v := Sum.inr (Sum.inr (Sum.inr (Sum.inr q)))) hl1) (ax_store_ok ho (ax_okH hv)) (ax_okT hv) hP hD hS)
theorem ax_t_fstore_n (hx : p.tables.exec = Jvm.exec) (hb : c.code = cc) {n : Fin 4} {a : Nat} {x : UInt32} (hd : decode cc pc = .ok (.fstore_n n, 1)) (hn : (n : Nat) = a) (ha : a < nL)
    (k : ax_Tr p l e R s m args below meth c Q G A nL c0 s0 (pc + 1) (ax_store lo a (Sum.inr (Sum.inr (Sum.inl x)))) r d ee) : ax_Tr p l e R s m args below meth c Q G A nL c0 s0 pc lo ((Sum.inr (Sum.inr (Sum.inl x))) :: r) d ee := by
  intro H locs ls hl ho hv hP hD hS
  exact lv_fstore_n hx hb hd hn hl ha rfl (fun ls1 hl1 => k H locs ls1 (ax_st_has (v := Sum.inr (Sum.inr (Sum.inl x))) hl1) (ax_store_ok ho (ax_okH hv)) (ax_okT hv) hP hD hS)
theorem ax_t_fstore (hx : p.tables.exec = Jvm.exec) (hb : c.code = cc) {a : Nat} {x : UInt32} (hd : decode cc pc = .ok (.fstore a, 2)) (ha : a < nL)
    (k : ax_Tr p l e R s m args below meth c Q G A nL c0 s0 (pc + 2) (ax_store lo a (Sum.inr (Sum.inr (Sum.inl x)))) r d ee) : ax_Tr p l e R s m args below meth c Q G A nL c0 s0 pc lo ((Sum.inr (Sum.inr (Sum.inl x))) :: r) d ee := by
  intro H locs ls hl ho hv hP hD hS
  exact lv_fstore hx hb hd hl ha rfl (fun ls1 hl1 => k H locs ls1 (ax_st_has (v := Sum.inr (Sum.inr (Sum.inl x))) hl1) (ax_store_ok ho (ax_okH hv)) (ax_okT hv) hP hD hS)
theorem ax_t_iinc (hx : p.tables.exec = Jvm.exec) (hb : c.code = cc) {a : Nat} {n : Int} {x v : Int32} (hd : decode cc pc = .ok (.iinc a n, 3)) (hn : Int32.ofInt n = v) (ha : a < nL) (hf : ax_find lo a = some (Sum.inl x))
    (k : ax_Tr p l e R s m args below meth c Q G A nL c0 s0 (pc + 3) (ax_store lo a (Sum.inl (x + v))) r d ee) : ax_Tr p l e R s m args below meth c Q G A nL c0 s0 pc lo r d ee := by
  intro H locs ls hl ho hv hP hD hS
  obtain ⟨kk, hk⟩ := List.getElem?_of_mem (List.mem_map.mpr ⟨(a, Sum.inl x), ax_find_mem hf, rfl⟩ : (a, ax_conc G (Sum.inl x)) ∈ ax_cl G lo)
  exact lv_iinc hx hb hd hl hk (by rw [hn]) ha rfl (fun ls1 hl1 => k H locs ls1 (ax_st_has (v := Sum.inl (x + v)) hl1) (ax_store_ok ho trivial) hv hP hD hS)
theorem ax_t_iadd (hx : p.tables.exec = Jvm.exec) (hb : c.code = cc) {x y : Int32} (hd : decode cc pc = .ok (.iadd, 1))
    (k : ax_Tr p l e R s m args below meth c Q G A nL c0 s0 (pc + 1) lo (Sum.inl (x + y) :: r) d ee) : ax_Tr p l e R s m args below meth c Q G A nL c0 s0 pc lo (Sum.inl y :: Sum.inl x :: r) d ee := by
  intro H locs ls hl ho hv hP hD hS
  exact lv_iadd hx hb hd (k H locs ls hl ho (ax_okI (ax_okT (ax_okT hv))) hP hD hS)
theorem ax_t_isub (hx : p.tables.exec = Jvm.exec) (hb : c.code = cc) {x y : Int32} (hd : decode cc pc = .ok (.isub, 1))
    (k : ax_Tr p l e R s m args below meth c Q G A nL c0 s0 (pc + 1) lo (Sum.inl (x - y) :: r) d ee) : ax_Tr p l e R s m args below meth c Q G A nL c0 s0 pc lo (Sum.inl y :: Sum.inl x :: r) d ee := by
  intro H locs ls hl ho hv hP hD hS
  exact lv_isub hx hb hd (k H locs ls hl ho (ax_okI (ax_okT (ax_okT hv))) hP hD hS)
theorem ax_t_imul (hx : p.tables.exec = Jvm.exec) (hb : c.code = cc) {x y : Int32} (hd : decode cc pc = .ok (.imul, 1))
    (k : ax_Tr p l e R s m args below meth c Q G A nL c0 s0 (pc + 1) lo (Sum.inl (x * y) :: r) d ee) : ax_Tr p l e R s m args below meth c Q G A nL c0 s0 pc lo (Sum.inl y :: Sum.inl x :: r) d ee := by
  intro H locs ls hl ho hv hP hD hS
  exact lv_imul hx hb hd (k H locs ls hl ho (ax_okI (ax_okT (ax_okT hv))) hP hD hS)
theorem ax_t_iand (hx : p.tables.exec = Jvm.exec) (hb : c.code = cc) {x y : Int32} (hd : decode cc pc = .ok (.iand, 1))
    (k : ax_Tr p l e R s m args below meth c Q G A nL c0 s0 (pc + 1) lo (Sum.inl (x &&& y) :: r) d ee) : ax_Tr p l e R s m args below meth c Q G A nL c0 s0 pc lo (Sum.inl y :: Sum.inl x :: r) d ee := by
  intro H locs ls hl ho hv hP hD hS
  exact lv_iand hx hb hd (k H locs ls hl ho (ax_okI (ax_okT (ax_okT hv))) hP hD hS)
theorem ax_t_ior (hx : p.tables.exec = Jvm.exec) (hb : c.code = cc) {x y : Int32} (hd : decode cc pc = .ok (.ior, 1))
    (k : ax_Tr p l e R s m args below meth c Q G A nL c0 s0 (pc + 1) lo (Sum.inl (x ||| y) :: r) d ee) : ax_Tr p l e R s m args below meth c Q G A nL c0 s0 pc lo (Sum.inl y :: Sum.inl x :: r) d ee := by
  intro H locs ls hl ho hv hP hD hS
  exact lv_ior hx hb hd (k H locs ls hl ho (ax_okI (ax_okT (ax_okT hv))) hP hD hS)
theorem ax_t_ixor (hx : p.tables.exec = Jvm.exec) (hb : c.code = cc) {x y : Int32} (hd : decode cc pc = .ok (.ixor, 1))
    (k : ax_Tr p l e R s m args below meth c Q G A nL c0 s0 (pc + 1) lo (Sum.inl (x ^^^ y) :: r) d ee) : ax_Tr p l e R s m args below meth c Q G A nL c0 s0 pc lo (Sum.inl y :: Sum.inl x :: r) d ee := by
  intro H locs ls hl ho hv hP hD hS
  exact lv_ixor hx hb hd (k H locs ls hl ho (ax_okI (ax_okT (ax_okT hv))) hP hD hS)
theorem ax_t_ishl (hx : p.tables.exec = Jvm.exec) (hb : c.code = cc) {x y : Int32} (hd : decode cc pc = .ok (.ishl, 1))
    (k : ax_Tr p l e R s m args below meth c Q G A nL c0 s0 (pc + 1) lo (Sum.inl (x <<< (y &&& 31)) :: r) d ee) : ax_Tr p l e R s m args below meth c Q G A nL c0 s0 pc lo (Sum.inl y :: Sum.inl x :: r) d ee := by
  intro H locs ls hl ho hv hP hD hS
  exact lv_ishl hx hb hd (k H locs ls hl ho (ax_okI (ax_okT (ax_okT hv))) hP hD hS)
theorem ax_t_ishr (hx : p.tables.exec = Jvm.exec) (hb : c.code = cc) {x y : Int32} (hd : decode cc pc = .ok (.ishr, 1))
    (k : ax_Tr p l e R s m args below meth c Q G A nL c0 s0 (pc + 1) lo (Sum.inl (x >>> (y &&& 31)) :: r) d ee) : ax_Tr p l e R s m args below meth c Q G A nL c0 s0 pc lo (Sum.inl y :: Sum.inl x :: r) d ee := by
  intro H locs ls hl ho hv hP hD hS
  exact lv_ishr hx hb hd (k H locs ls hl ho (ax_okI (ax_okT (ax_okT hv))) hP hD hS)
theorem ax_t_iushr (hx : p.tables.exec = Jvm.exec) (hb : c.code = cc) {x y : Int32} (hd : decode cc pc = .ok (.iushr, 1))
    (k : ax_Tr p l e R s m args below meth c Q G A nL c0 s0 (pc + 1) lo (Sum.inl ((x.toUInt32 >>> (y.toUInt32 &&& Int32.toUInt32 31)).toInt32) :: r) d ee) : ax_Tr p l e R s m args below meth c Q G A nL c0 s0 pc lo (Sum.inl y :: Sum.inl x :: r) d ee := by
  intro H locs ls hl ho hv hP hD hS
  exact lv_iushr hx hb hd rfl (k H locs ls hl ho (ax_okI (ax_okT (ax_okT hv))) hP hD hS)
theorem ax_t_idiv (hx : p.tables.exec = Jvm.exec) (hb : c.code = cc) {x y : Int32} (hd : decode cc pc = .ok (.idiv, 1)) (hy : ¬ y = 0)
    (k : ax_Tr p l e R s m args below meth c Q G A nL c0 s0 (pc + 1) lo (Sum.inl (x / y) :: r) d ee) : ax_Tr p l e R s m args below meth c Q G A nL c0 s0 pc lo (Sum.inl y :: Sum.inl x :: r) d ee := by
  intro H locs ls hl ho hv hP hD hS
  exact lv_idiv hx hb hd hy (k H locs ls hl ho (ax_okI (ax_okT (ax_okT hv))) hP hD hS)
theorem ax_t_irem (hx : p.tables.exec = Jvm.exec) (hb : c.code = cc) {x y : Int32} (hd : decode cc pc = .ok (.irem, 1)) (hy : ¬ y = 0)
    (k : ax_Tr p l e R s m args below meth c Q G A nL c0 s0 (pc + 1) lo (Sum.inl (x - x / y * y) :: r) d ee) : ax_Tr p l e R s m args below meth c Q G A nL c0 s0 pc lo (Sum.inl y :: Sum.inl x :: r) d ee := by
  intro H locs ls hl ho hv hP hD hS
  exact lv_irem hx hb hd hy (k H locs ls hl ho (ax_okI (ax_okT (ax_okT hv))) hP hD hS)
theorem ax_t_ineg (hx : p.tables.exec = Jvm.exec) (hb : c.code = cc) {x : Int32} (hd : decode cc pc = .ok (.ineg, 1))
    (k : ax_Tr p l e R s m args below meth c Q G A nL c0 s0 (pc + 1) lo (Sum.inl (-x) :: r) d ee) : ax_Tr p l e R s m args below meth c Q G A nL c0 s0 pc lo (Sum.inl x :: r) d ee := by
  intro H locs ls hl ho hv hP hD hS
  exact lv_ineg hx hb hd (k H locs ls hl ho (ax_okI (ax_okT hv)) hP hD hS)
theorem ax_t_i2l (hx : p.tables.exec = Jvm.exec) (hb : c.code = cc) {x : Int32} (hd : decode cc pc = .ok (.i2l, 1))
    (k : ax_Tr p l e R s m args below meth c Q G A nL c0 s0 (pc + 1) lo (Sum.inr (Sum.inl x.toInt64) :: r) d ee) : ax_Tr p l e R s m args below meth c Q G A nL c0 s0 pc lo (Sum.inl x :: r) d ee := by
  intro H locs ls hl ho hv hP hD hS
  exact lv_i2l hx hb hd rfl (k H locs ls hl ho (ax_okC trivial (ax_okT hv)) hP hD hS)
theorem ax_t_i2c (hx : p.tables.exec = Jvm.exec) (hb : c.code = cc) {x : Int32} (hd : decode cc pc = .ok (.i2c, 1))
    (k : ax_Tr p l e R s m args below meth c Q G A nL c0 s0 (pc + 1) lo (Sum.inl (x.toUInt32 % 65536).toInt32 :: r) d ee) : ax_Tr p l e R s m args below meth c Q G A nL c0 s0 pc lo (Sum.inl x :: r) d ee := by
  intro H locs ls hl ho hv hP hD hS
  exact lv_i2c hx hb hd rfl (k H locs ls hl ho (ax_okI (ax_okT hv)) hP hD hS)
theorem ax_t_i2f (hx : p.tables.exec = Jvm.exec) (hb : c.code = cc) {x : Int32} (hd : decode cc pc = .ok (.i2f, 1))
    (k : ax_Tr p l e R s m args below meth c Q G A nL c0 s0 (pc + 1) lo (Sum.inr (Sum.inr (Sum.inl (FP.i2f x))) :: r) d ee) : ax_Tr p l e R s m args below meth c Q G A nL c0 s0 pc lo (Sum.inl x :: r) d ee := by
  intro H locs ls hl ho hv hP hD hS
  exact lv_i2f hx hb hd (k H locs ls hl ho (ax_okC trivial (ax_okT hv)) hP hD hS)
theorem ax_t_i2d (hx : p.tables.exec = Jvm.exec) (hb : c.code = cc) {x : Int32} (hd : decode cc pc = .ok (.i2d, 1))
    (k : ax_Tr p l e R s m args below meth c Q G A nL c0 s0 (pc + 1) lo (Sum.inr (Sum.inr (Sum.inr (Sum.inl (FP.i2d x)))) :: r) d ee) : ax_Tr p l e R s m args below meth c Q G A nL c0 s0 pc lo (Sum.inl x :: r) d ee := by
  intro H locs ls hl ho hv hP hD hS
  exact lv_i2d hx hb hd (k H locs ls hl ho (ax_okC trivial (ax_okT hv)) hP hD hS)
theorem ax_t_dup (hx : p.tables.exec = Jvm.exec) (hb : c.code = cc) {v : ax_V} (hd : decode cc pc = .ok (.dup, 1)) (h1 : ax_cat v = 1)
    (k : ax_Tr p l e R s m args below meth c Q G A nL c0 s0 (pc + 1) lo (v :: v :: r) d ee) : ax_Tr p l e R s m args below meth c Q G A nL c0 s0 pc lo (v :: r) d ee := by
  intro H locs ls hl ho hv hP hD hS
  exact lv_dup hx hb hd (by rw [ax_cat_conc]; exact h1) (k H locs ls hl ho (ax_okC (ax_okH hv) hv) hP hD hS)
theorem ax_t_dup2 (hx : p.tables.exec = Jvm.exec) (hb : c.code = cc) {v w : ax_V} (hd : decode cc pc = .ok (.dup2, 1)) (h1 : ax_cat v = 1) (h2 : ax_cat w = 1)
    (k : ax_Tr p l e R s m args below meth c Q G A nL c0 s0 (pc + 1) lo (v :: w :: v :: w :: r) d ee) : ax_Tr p l e R s m args below meth c Q G A nL c0 s0 pc lo (v :: w :: r) d ee := by
  intro H locs ls hl ho hv hP hD hS
  exact lv_dup2_11 hx hb hd (by rw [ax_cat_conc]; exact h1) (by rw [ax_cat_conc]; exact h2) (k H locs ls hl ho (ax_okC (ax_okH hv) (ax_okC (ax_okH (ax_okT hv)) hv)) hP hD hS)
theorem ax_t_pop (hx : p.tables.exec = Jvm.exec) (hb : c.code = cc) {v : ax_V} (hd : decode cc pc = .ok (.pop, 1)) (h1 : ax_cat v = 1)
    (k : ax_Tr p l e R s m args below meth c Q G A nL c0 s0 (pc + 1) lo r d ee) : ax_Tr p l e R s m args below meth c Q G A nL c0 s0 pc lo (v :: r) d ee := by
  intro H locs ls hl ho hv hP hD hS
  exact lv_pop hx hb hd (by rw [ax_cat_conc]; exact h1) (k H locs ls hl ho (ax_okT hv) hP hD hS)
theorem ax_t_goto (hx : p.tables.exec = Jvm.exec) (hb : c.code = cc) {off : Int} {a b9 : Nat} (hd : decode cc pc = .ok (.goto off, 3)) (ht : (pc : Int) + off = (a : Int))
    (k : ax_Tr p l e R s m args below meth c Q G A nL c0 s0 a (ax_keep b9 lo) r d ee) : ax_Tr p l e R s m args below meth c Q G A nL c0 s0 pc lo r d ee := by
  intro H locs ls hl ho hv hP hD hS
  exact lv_goto hx hb hd ht (k H locs ls (ax_keep_has hl) (fun q hq => ho q (ax_keep_mem hq)) hv hP hD hS)
theorem ax_t_if_eq (hx : p.tables.exec = Jvm.exec) (hb : c.code = cc) {x : Int32} {off : Int} {a : Nat} (hd : decode cc pc = .ok (.ifCond .eq off, 3)) (ht : (pc : Int) + off = (a : Int))
    (k1 : x = 0 → ax_Tr p l e R s m args below meth c Q G A nL c0 s0 a lo r d ee) (k2 : ¬ x = 0 → ax_Tr p l e R s m args below meth c Q G A nL c0 s0 (pc + 3) lo r d ee) : ax_Tr p l e R s m args below meth c Q G A nL c0 s0 pc lo (Sum.inl x :: r) d ee := by
  intro H locs ls hl ho hv hP hD hS
  exact lv_if_eq hx hb hd ht (fun q => k1 q H locs ls hl ho (ax_okT hv) hP hD hS) (fun q => k2 q H locs ls hl ho (ax_okT hv) hP hD hS)
theorem ax_t_icmp_eq (hx : p.tables.exec = Jvm.exec) (hb : c.code = cc) {x y : Int32} {off : Int} {a : Nat} (hd : decode cc pc = .ok (.if_icmp .eq off, 3)) (ht : (pc : Int) + off = (a : Int))
    (k1 : x = y → ax_Tr p l e R s m args below meth c Q G A nL c0 s0 a lo r d ee) (k2 : ¬ x = y → ax_Tr p l e R s m args below meth c Q G A nL c0 s0 (pc + 3) lo r d ee) : ax_Tr p l e R s m args below meth c Q G A nL c0 s0 pc lo (Sum.inl y :: Sum.inl x :: r) d ee := by
  intro H locs ls hl ho hv hP hD hS
  exact lv_icmp_eq hx hb hd ht (fun q => k1 q H locs ls hl ho (ax_okT (ax_okT hv)) hP hD hS) (fun q => k2 q H locs ls hl ho (ax_okT (ax_okT hv)) hP hD hS)
theorem ax_t_if_ne (hx : p.tables.exec = Jvm.exec) (hb : c.code = cc) {x : Int32} {off : Int} {a : Nat} (hd : decode cc pc = .ok (.ifCond .ne off, 3)) (ht : (pc : Int) + off = (a : Int))
    (k1 : ¬ x = 0 → ax_Tr p l e R s m args below meth c Q G A nL c0 s0 a lo r d ee) (k2 : x = 0 → ax_Tr p l e R s m args below meth c Q G A nL c0 s0 (pc + 3) lo r d ee) : ax_Tr p l e R s m args below meth c Q G A nL c0 s0 pc lo (Sum.inl x :: r) d ee := by
  intro H locs ls hl ho hv hP hD hS
  exact lv_if_ne hx hb hd ht (fun q => k1 q H locs ls hl ho (ax_okT hv) hP hD hS) (fun q => k2 q H locs ls hl ho (ax_okT hv) hP hD hS)
theorem ax_t_icmp_ne (hx : p.tables.exec = Jvm.exec) (hb : c.code = cc) {x y : Int32} {off : Int} {a : Nat} (hd : decode cc pc = .ok (.if_icmp .ne off, 3)) (ht : (pc : Int) + off = (a : Int))
    (k1 : ¬ x = y → ax_Tr p l e R s m args below meth c Q G A nL c0 s0 a lo r d ee) (k2 : x = y → ax_Tr p l e R s m args below meth c Q G A nL c0 s0 (pc + 3) lo r d ee) : ax_Tr p l e R s m args below meth c Q G A nL c0 s0 pc lo (Sum.inl y :: Sum.inl x :: r) d ee := by
  intro H locs ls hl ho hv hP hD hS
  exact lv_icmp_ne hx hb hd ht (fun q => k1 q H locs ls hl ho (ax_okT (ax_okT hv)) hP hD hS) (fun q => k2 q H locs ls hl ho (ax_okT (ax_okT hv)) hP hD hS)
theorem ax_t_if_lt (hx : p.tables.exec = Jvm.exec) (hb : c.code = cc) {x : Int32} {off : Int} {a : Nat} (hd : decode cc pc = .ok (.ifCond .lt off, 3)) (ht : (pc : Int) + off = (a : Int))
    (k1 : x < 0 → ax_Tr p l e R s m args below meth c Q G A nL c0 s0 a lo r d ee) (k2 : ¬ x < 0 → ax_Tr p l e R s m args below meth c Q G A nL c0 s0 (pc + 3) lo r d ee) : ax_Tr p l e R s m args below meth c Q G A nL c0 s0 pc lo (Sum.inl x :: r) d ee := by
  intro H locs ls hl ho hv hP hD hS
  exact lv_if_lt hx hb hd ht (fun q => k1 q H locs ls hl ho (ax_okT hv) hP hD hS) (fun q => k2 q H locs ls hl ho (ax_okT hv) hP hD hS)
theorem ax_t_icmp_lt (hx : p.tables.exec = Jvm.exec) (hb : c.code = cc) {x y : Int32} {off : Int} {a : Nat} (hd : decode cc pc = .ok (.if_icmp .lt off, 3)) (ht : (pc : Int) + off = (a : Int))
    (k1 : x < y → ax_Tr p l e R s m args below meth c Q G A nL c0 s0 a lo r d ee) (k2 : ¬ x < y → ax_Tr p l e R s m args below meth c Q G A nL c0 s0 (pc + 3) lo r d ee) : ax_Tr p l e R s m args below meth c Q G A nL c0 s0 pc lo (Sum.inl y :: Sum.inl x :: r) d ee := by
  intro H locs ls hl ho hv hP hD hS
  exact lv_icmp_lt hx hb hd ht (fun q => k1 q H locs ls hl ho (ax_okT (ax_okT hv)) hP hD hS) (fun q => k2 q H locs ls hl ho (ax_okT (ax_okT hv)) hP hD hS)
theorem ax_t_if_ge (hx : p.tables.exec = Jvm.exec) (hb : c.code = cc) {x : Int32} {off : Int} {a : Nat} (hd : decode cc pc = .ok (.ifCond .ge off, 3)) (ht : (pc : Int) + off = (a : Int))
    (k1 : 0 ≤ x → ax_Tr p l e R s m args below meth c Q G A nL c0 s0 a lo r d ee) (k2 : ¬ 0 ≤ x → ax_Tr p l e R s m args below meth c Q G A nL c0 s0 (pc + 3) lo r d ee) : ax_Tr p l e R s m args below meth c Q G A nL c0 s0 pc lo (Sum.inl x :: r) d ee := by
  intro H locs ls hl ho hv hP hD hS
  exact lv_if_ge hx hb hd ht (fun q => k1 q H locs ls hl ho (ax_okT hv) hP hD hS) (fun q => k2 q H locs ls hl ho (ax_okT hv) hP hD hS)
theorem ax_t_icmp_ge (hx : p.tables.exec = Jvm.exec) (hb : c.code = cc) {x y : Int32} {off : Int} {a : Nat} (hd : decode cc pc = .ok (.if_icmp .ge off, 3)) (ht : (pc : Int) + off = (a : Int))
    (k1 : y ≤ x → ax_Tr p l e R s m args below meth c Q G A nL c0 s0 a lo r d ee) (k2 : ¬ y ≤ x → ax_Tr p l e R s m args below meth c Q G A nL c0 s0 (pc + 3) lo r d ee) : ax_Tr p l e R s m args below meth c Q G A nL c0 s0 pc lo (Sum.inl y :: Sum.inl x :: r) d ee := by
  intro H locs ls hl ho hv hP hD hS
  exact lv_icmp_ge hx hb hd ht (fun q => k1 q H locs ls hl ho (ax_okT (ax_okT hv)) hP hD hS) (fun q => k2 q H locs ls hl ho (ax_okT (ax_okT hv)) hP hD hS)
theorem ax_t_if_gt (hx : p.tables.exec = Jvm.exec) (hb : c.code = cc) {x : Int32} {off : Int} {a : Nat} (hd : decode cc pc = .ok (.ifCond .gt off, 3)) (ht : (pc : Int) + off = (a : Int))
    (k1 : 0 < x → ax_Tr p l e R s m args below meth c Q G A nL c0 s0 a lo r d ee) (k2 : ¬ 0 < x → ax_Tr p l e R s m args below meth c Q G A nL c0 s0 (pc + 3) lo r d ee) : ax_Tr p l e R s m args below meth c Q G A nL c0 s0 pc lo (Sum.inl x :: r) d ee := by
  intro H locs ls hl ho hv hP hD hS
  exact lv_if_gt hx hb hd ht (fun q => k1 q H locs ls hl ho (ax_okT hv) hP hD hS) (fun q => k2 q H locs ls hl ho (ax_okT hv) hP hD hS)
theorem ax_t_icmp_gt (hx : p.tables.exec = Jvm.exec) (hb : c.code = cc) {x y : Int32} {off : Int} {a : Nat} (hd : decode cc pc = .ok (.if_icmp .gt off, 3)) (ht : (pc : Int) + off = (a : Int))
    (k1 : y < x → ax_Tr p l e R s m args below meth c Q G A nL c0 s0 a lo r d ee) (k2 : ¬ y < x → ax_Tr p l e R s m args below meth c Q G A nL c0 s0 (pc + 3) lo r d ee) : ax_Tr p l e R s m args below meth c Q G A nL c0 s0 pc lo (Sum.inl y :: Sum.inl x :: r) d ee := by
  intro H locs ls hl ho hv hP hD hS
  exact lv_icmp_gt hx hb hd ht (fun q => k1 q H locs ls hl ho (ax_okT (ax_okT hv)) hP hD hS) (fun q => k2 q H locs ls hl ho (ax_okT (ax_okT hv)) hP hD hS)
theorem ax_t_if_le (hx : p.tables.exec = Jvm.exec) (hb : c.code = cc) {x : Int32} {off : Int} {a : Nat} (hd : decode cc pc = .ok (.ifCond .le off, 3)) (ht : (pc : Int) + off = (a : Int))
    (k1 : x ≤ 0 → ax_Tr p l e R s m args below meth c Q G A nL c0 s0 a lo r d ee) (k2 : ¬ x ≤ 0 → ax_Tr p l e R s m args below meth c Q G A nL c0 s0 (pc + 3) lo r d ee) : ax_Tr p l e R s m args below meth c Q G A nL c0 s0 pc lo (Sum.inl x :: r) d ee := by
  intro H locs ls hl ho hv hP hD hS
  exact lv_if_le hx hb hd ht (fun q => k1 q H locs ls hl ho (ax_okT hv) hP hD hS) (fun q => k2 q H locs ls hl ho (ax_okT hv) hP hD hS)
theorem ax_t_icmp_le (hx : p.tables.exec = Jvm.exec) (hb : c.code = cc) {x y : Int32} {off : Int} {a : Nat} (hd : decode cc pc = .ok (.if_icmp .le off, 3)) (ht : (pc : Int) + off = (a : Int))
    (k1 : x ≤ y → ax_Tr p l e R s m args below meth c Q G A nL c0 s0 a lo r d ee) (k2 : ¬ x ≤ y → ax_Tr p l e R s m args below meth c Q G A nL c0 s0 (pc + 3) lo r d ee) : ax_Tr p l e R s m args below meth c Q G A nL c0 s0 pc lo (Sum.inl y :: Sum.inl x :: r) d ee := by
  intro H locs ls hl ho hv hP hD hS
  exact lv_icmp_le hx hb hd ht (fun q => k1 q H locs ls hl ho (ax_okT (ax_okT hv)) hP hD hS) (fun q => k2 q H locs ls hl ho (ax_okT (ax_okT hv)) hP hD hS)
end AXT
