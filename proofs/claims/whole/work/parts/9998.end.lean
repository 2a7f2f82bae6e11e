/-! THE CLAIM OUT OF ONE WALK OF THE LAW'S BODY. Your part is whole_start (and what it stands on); all else here is the same for every law, but numbers. -/
def R_law : String := "AdventureWorldLaw"
def lw_P (b : Addr) (xs : List Int32) (args : Array Value) (s : State) : Prop := args = #[.ref b] ∧ s.IntsAt b xs ∧ xs.length ≤ 2560 ∧ (Jvm.Cond.and given_1 narrow_1).before args s = true
/-- what a walk over the start with the record d0 says of its end, said of the start itself -/
theorem lw_closed {s t : State} {o : Outcome} {d0 : Drawn} {L : List Loc} {k n : Nat} (hd0 : s.drawn.sameBut d0 lw_cs) (hv : ∃ v, o = .returned v) (hW : (s.setDrawn d0).WarmedH t.vm) (hs : (s.setDrawn d0).sameButNew ({ t with vm := s.vm } : State) L k n) : State.butDraws s t lw_cs (fun t1 => Framed s o t1 L k n) := by
  have h2 : t.drawn = d0 := congrArg State.drawn hs.1
  refine ⟨⟨hv, hW, State.sameButNew.setDrawn hs s.drawn⟩, ?_, by decide⟩
  rw [h2]
  exact hd0
def lw_Q (_ : Array Value) (s : State) (o : Outcome) (t : State) : Prop := o = .returned (some (.int 1)) ∧ State.butDraws s t lw_cs (fun t1 => Framed s o t1 [] 603072 7190634)
def lw_Z (below : List Frame) (a : Array Value) (s : State) : State → Prop := fun t => ∃ o, t.status = .running ∧ Ended t below o ∧ lw_Q a s o t
/-- the law's own end, with 1 on the stack, nothing written that was there before, its room as the claim has it; d0: the record of draws at this point (at the entry s.drawn: begin with 'refine W.base ?_' and 'have hd0 := Drawn.sameBut.refl s.drawn lw_cs') -/
theorem lw_ret {p : Program} {l : Launch} {e : Env} {s : State} {m : MethodId} {below : List Frame} {meth : Method} {c : Code} {b : Nat} {d0 : Drawn} (hd0 : s.drawn.sameBut d0 lw_cs) (hx : p.tables.exec = Jvm.exec) (hb : c.code = code) (hr : meth.sig.returnType = ret) (hlocks : meth.locks = false) {pc : Nat} {H : Heap} {ls : Array Slot} (hdg : decode code pc = .ok (.ireturn, 1)) : W p l e room_1 (s.setDrawn d0) m #[Value.ref b] below meth c H [] 603072 7190634 (lw_Z below #[Value.ref b] s) (F0 m pc ls [.int 1]) := by
  intro T hT X
  obtain ⟨fs, hret, hrun, hended, hW, hframe⟩ := X.leave (v := some (.int 1)) (hlocks := hlocks) (fun h => by rw [hr] at h; cases h)
  have hmeth' : T.vm.method? m = some meth := X.method'
  refine ⟨T.setFrames fs, ?_, .returned (some (.int 1)), hrun, hended, rfl, lw_closed hd0 ⟨_, rfl⟩ hW hframe⟩
  jvm_step X.here [X.here.top, hx, hb, hdg, hmeth', hr, ret, narrow_b1]
  (try refine ⟨rfl, ?_⟩); (try refine ⟨rfl, ?_⟩)
  first | (intro acts; rw [hret _ acts rfl rfl rfl]) | rw [hret _ _ rfl rfl rfl]
  exact Steps.refl _
/-- what holds at the law's entry: the machine, the code, the tables' words (any of lw_tbl by 'hts w (by decide +kernel)'), the script of L ints xs at the cell b, what the Statement gives of the start (any of its parts by flat_of_before) -/
def lw_At (p : Program) (s : State) (m : MethodId) (meth : Method) (c : Code) (b L : Nat) (xs : Nat → Int32) : Prop :=
  p.tables.exec = Jvm.exec ∧ c.code = code ∧ meth.sig.returnType = ret ∧ c.maxLocals = 9 ∧ s.vm.findClass R_law = some m.cls ∧ (∀ w ∈ lw_tbl, w.before #[Value.ref b] s = true) ∧ va_X b L xs s s.heap ∧ b < s.heap.size ∧ meth.locks = false ∧ (Jvm.Cond.and given_1 narrow_1).before #[Value.ref b] s = true
-- ===== YOUR PART BEGINS =====

/-! the law's own walk: two objects, two rows, then the loop by the machine -/
theorem lw_stk {l : Launch} (h : l.flags = flags0) : l.stackTraces = false := by
  unfold Launch.stackTraces
  rw [h]
  decide
theorem lw_zl (cA : ClassId) : vp_cell cA (1, .inr (.inl (fun z => if z = 0 then (0 : Int64) else 0))) = arrV cA 1 (fun _ => defaultValue .long) := by
  rw [vp_cell_l]
  unfold arrV
  congr 2
  funext j
  show Value.long (if j.val = 0 then (0 : Int64) else 0) = .long 0
  split <;> rfl
theorem lw_zd (cA : ClassId) : vp_cell cA (1, .inr (.inr (.inr (.inl (fun z => if z = 0 then (0 : UInt64) else 0))))) = arrV cA 1 (fun _ => defaultValue .double) := by
  rw [vp_cell_d]
  unfold arrV
  congr 2
  funext j
  show Value.double (if j.val = 0 then (0 : UInt64) else 0) = .double 0
  split <;> rfl
section LWF
variable {p : Program} {e : Env} {s : State} {m : MethodId} {below : List Frame} {meth : Method} {c : Code}
theorem k_as2 {l : Launch} {R : Room} {args : Array Value} {Q : State → Prop} {cc : ByteArray} {D : va_G} {ar : Nat → ClassId} {A : Nat → Prop} {own : String} {ws : va_W} {pc cells slots nL : Nat} {ls : Array Slot} {st : List Value} (E : kEnv p s m args c cc D ar A own) {lv : List (Nat × Value)} (j : Nat) {x : Nat} (hd : decode cc pc = .ok (.astore j, 2)) (h : lv_has ls nL lv) (hn : j < nL) (kk : ∀ ls' : Array Slot, lv_has ls' nL ((j, Value.ref x) :: lv.filter (fun q => !(q.1 == j) && !(q.1 + 1 == j && q.2.category == 2))) → kW p l e R s m args below meth c Q D A ws (pc + 2) ls' st cells slots) : kW p l e R s m args below meth c Q D A ws pc ls (.ref x :: st) cells slots :=
  fun H locs hP hN hS => lv_astore E.1 E.2.1 hd h hn rfl (fun ls' h' => kk ls' h' H locs hP hN hS)
theorem k_is2 {l : Launch} {R : Room} {args : Array Value} {Q : State → Prop} {cc : ByteArray} {D : va_G} {ar : Nat → ClassId} {A : Nat → Prop} {own : String} {ws : va_W} {pc cells slots nL : Nat} {ls : Array Slot} {st : List Value} (E : kEnv p s m args c cc D ar A own) {lv : List (Nat × Value)} (j : Nat) {x : Int32} (hd : decode cc pc = .ok (.istore j, 2)) (h : lv_has ls nL lv) (hn : j < nL) (kk : ∀ ls' : Array Slot, lv_has ls' nL ((j, Value.int x) :: lv.filter (fun q => !(q.1 == j) && !(q.1 + 1 == j && q.2.category == 2))) → kW p l e R s m args below meth c Q D A ws (pc + 2) ls' st cells slots) : kW p l e R s m args below meth c Q D A ws pc ls (.int x :: st) cells slots :=
  fun H locs hP hN hS => lv_istore E.1 E.2.1 hd h hn rfl (fun ls' h' => kk ls' h' H locs hP hN hS)
set_option maxHeartbeats 4000000 in
theorem lw_from (l : Launch) (hst : l.stackTraces = false) {b L : Nat} {xs : Nat → Int32} (hL : L ≤ 2560) (C0 : lw_At p s m meth c b L xs) {D : va_G} {ar : Nat → ClassId} (hK : va_K D vwCl (kT ar) s) {adK adV : Nat → Nat} (hSt : vk_S ax_nstr ax_lenS ax_bytS adK adV (fun q => s.heap.size ≤ q) s s.heap) (hEv : ∀ i : Nat, i < 34 → (tzT i).eval #[Value.ref b] s none [] s = some (.ref (adK i)))
    {qJ qD q1 q2 : Nat} {v : Nat → Nat} {g : Nat → Nat → Nat} {P1 : Nat → Nat} {P2 : Nat → Nat → Nat} {u2 : Nat → Nat} {cells slots : Nat} (hc : cells + 512 ≤ 603072) (hs : slots + 3072 ≤ 7190634) {ls : Array Slot} (hl : lv_has ls 9 [(5, .int 0), (4, .ref qD), (3, .ref qJ), (2, .ref q2), (1, .ref q1), (0, .ref b)]) :
    kW p l e room_1 s m #[Value.ref b] below meth c (lw_Z below #[Value.ref b] s) D (fun q => s.heap.size ≤ q) (lwW ar qJ qD q1 q2 v g P1 P2 u2) 28 ls [] cells slots := by
  obtain ⟨hx, hb, hr, hml, hown, hts, hX, hbl, hlk, hg⟩ := C0
  intro H locs hP hN hS
  obtain ⟨hPc, hDc⟩ := lw_cells (b := b) (adK := adK) (adV := adV) hP hN
  obtain ⟨K, d', e', he, hrun⟩ := lt_loop (xs := xs) hL 513 0 0 0 d00 inv0 (Nat.le_refl _) (Nat.le_refl _) (by omega) (by omega)
  have hA0 : ∀ a : Nat, a < s.heap.size → ¬ (fun q => s.heap.size ≤ q) a := fun a h1 h2 => Nat.not_le.mpr h1 h2
  have hE9 : ax_Env ax_ldc ax_nest ax_thr p s m #[Value.ref b] c code (lwG D ar b qJ qD q1 q2 v g P1 P2 u2 adK adV) (fun q => s.heap.size ≤ q) 9 "AdventureWorldLaw" lw_tbl :=
    ⟨hx, hb, hml, hown, fun w hw => (List.mem_filter.mp hw).1, hts, hK, st_ext hg hts hA0 hSt hEv, ax_stab, fun r hr => by
      obtain ⟨k, hk⟩ := List.getElem?_of_mem (List.mem_map.mpr ⟨r, hr, rfl⟩ : (_, _) ∈ ax_cells (lwG D ar b qJ qD q1 q2 v g P1 P2 u2 adK adV) d00)
      exact hDc.2 k _ hk, fun q h => h⟩
  have hNC := st_nc hg
  have hw := (lx_run_snd (l := l) (fin := (d', e', Sum.inl (some (Sum.inl 1)))) (R := room_1) (below := below) (meth := meth) (e := e) (c0 := cells) (s0 := slots) (Q := lw_Z below #[Value.ref b] s) (hd := fun _ => none) (wor := lx_wor) (sc := (true, L, xs)) (tb := lx_lt) hE9 hst lx_clok (fun _ => ⟨hX, hbl, Nat.not_le.mpr hbl⟩) ⟨Nat.le_refl _, Nat.le_refl _⟩ ⟨by show cells + e' ≤ 603072; omega, by show slots + 6 * e' ≤ 7190634; omega⟩
    (fun pc lo x d ee hd hf => by
      cases hf
      intro H locs ls hl ho hv hP hD hS
      refine va_forget hS.2.2 ?_
      refine W.widen (k := 603072) (n := 7190634) (by omega) (by omega) ?_
      exact lw_ret (d0 := s.drawn) (Drawn.sameBut.refl s.drawn lw_cs) hx hb hr hlk hd)
    (fun pc lo r d ee n x idx _ _ h _ => by cases h)
    (fun pc idx a as r d d9 e9 x lo ee hd hm hn hcr hwo hle kr => by
      obtain ⟨h1, h2, h3, h4⟩ := lx_wlok _ hm
      obtain ⟨-, c2⟩ := ax_an (lx_wcs a h2 h3 h4)
      obtain ⟨-, c3⟩ := ax_an c2
      obtain ⟨-, c4⟩ := ax_an c3
      obtain ⟨c4, c5⟩ := ax_an c4
      obtain ⟨c5, c6⟩ := ax_an c5
      obtain ⟨c6, c7⟩ := ax_an c6
      obtain ⟨c7, c8⟩ := ax_an c7
      have hy : (lx_wy a).cls = "AdventureWorldLaw" := of_decide_eq_true c6
      have h8 : lx_wm a ≤ 8 := Nat.le_of_ble_eq_true c8
      exact lx_t_callW hE9 hNC (lx_worOK hst h2 h3 h4 hwo) ⟨ax_at c4, by rw [hy]; exact lx_ini, by rw [hy]; exact ⟨by decide, by decide⟩, of_decide_eq_true c7⟩ h1 (ax_at c5) hn hcr ⟨by decide, by show 8 + (lx_wm a + 11) + 10900 ≤ 10936; omega⟩ ⟨by show cells + ee + e9 ≤ 603072; have hle : ee + e9 ≤ e' := hle; omega, by show slots + 6 * ee + 6 * e9 ≤ 7190634; have hle : ee + e9 ≤ e' := hle; omega⟩ hd rfl kr)
    lx_lg K 28 (L6 (nI (5 * 0))) [] d00 0 hrun).2
  exact hw H locs ls (lv_sub hl [5, 4, 3, 2, 1, 0] rfl) (fun q hq => by
    simp only [List.mem_cons, List.not_mem_nil, or_false] at hq
    rcases hq with rfl | rfl | rfl | rfl | rfl | rfl
    · exact Or.inr (Or.inl rfl)
    · exact Or.inl (by decide +kernel)
    · exact Or.inl (by decide +kernel)
    · exact Or.inl (by decide +kernel)
    · exact Or.inl (by decide +kernel)
    · exact trivial) (fun v hv => by cases hv) hPc hDc hS
end LWF
set_option maxHeartbeats 4000000 in
theorem whole_start {p : Program} {e : Env} {s : State} {m : MethodId} {below : List Frame} {meth : Method} {c : Code} (l : Launch) (hflags : l.flags = flags0) {b L : Nat} {xs : Nat → Int32} (hL : L ≤ 2560) (C0 : lw_At p s m meth c b L xs) : W p l e room_1 s m #[Value.ref b] below meth c s.heap [] 0 0 (lw_Z below #[Value.ref b] s) (entryFrame m ([Value.ref b] : List Value).toArray 9) := by
  have C1 := C0
  obtain ⟨hx, hb, hr, hml, hown, hts, hX, hbl, hlk, hg⟩ := C0
  have hst := lw_stk hflags
  obtain ⟨D, ar, hK⟩ := st_K hts
  have hA0 : ∀ a : Nat, a < s.heap.size → ¬ (fun q => s.heap.size ≤ q) a := fun a h1 h2 => Nat.not_le.mpr h1 h2
  obtain ⟨adK, adV, hSt, hEv⟩ := st_txt (A := fun q => s.heap.size ≤ q) hg hA0
  have E : kEnv p s m #[Value.ref b] c code D ar (fun q => s.heap.size ≤ q) "AdventureWorldLaw" := ⟨hx, hb, hown, fun w hw => hts w (List.mem_filter.mp hw).1, hK, fun q h => h, st_X hts⟩
  have hl := lv_entry ([Value.ref b]) (n := 9) (Nat.le_of_ble_eq_true rfl)
  rw [lg_entry_eq]
  generalize (lg_sl ([Value.ref b]) ++ List.replicate (9 - (lg_sl ([Value.ref b])).length) Slot.unset).toArray = ls at hl ⊢
  have hl : lv_has ls 9 [(0, .ref b)] := hl
  suffices hk : kW p l e room_1 s m #[Value.ref b] below meth c (lw_Z below #[Value.ref b] s) D (fun q => s.heap.size ≤ q) [] 0 ls [] 0 0 from hk s.heap [] (fun q h => by cases h) ⟨List.nodup_nil, fun q h => by cases h⟩ va_S.rf
  refine k_new E (a := 8) (by decide) (ax_at (i := 131) (by decide +kernel)) (ax_at (i := 132) (by decide +kernel)) (ax_at (i := 102) (by decide +kernel)) (Nat.le_of_ble_eq_true rfl) (Nat.le_of_ble_eq_true rfl) (show decode code 0 = .ok (.new 8, 3) from by decide +kernel) (fun q1 => ?_)
  refine k_dup E (show decode code 3 = .ok (.dup, 1) from by decide +kernel) rfl ?_
  refine k_call (n := 0) [] [] E hml hl.1 (kc_adv l D ar) rfl ⟨(ax_at (i := 135) (by decide +kernel)), (ax_at (i := 102) (by decide +kernel)), by decide, by decide, by decide +kernel⟩ (ax_at (i := 133) (by decide +kernel)) (ax_at (i := 134) (by decide +kernel)) rfl (Nat.le_of_ble_eq_true rfl) (And.intro (Nat.le_of_ble_eq_true rfl) (Nat.le_of_ble_eq_true rfl)) (And.intro (Nat.le_of_ble_eq_true rfl) (Nat.le_of_ble_eq_true rfl)) (show decode code 4 = .ok (.invokespecial 145, 3) from by decide +kernel) (fun u1 => ?_)
  obtain ⟨v, g, P1, P2⟩ := u1
  refine k_as E 1 (show decode code 7 = .ok (.astore_n 1, 1) from by decide +kernel) rfl hl (by decide) (fun ls hl => ?_)
  have hl : lv_has ls 9 [(1, .ref q1), (0, .ref b)] := hl
  refine k_new E (a := 9) (by decide) (ax_at (i := 1538) (by decide +kernel)) (ax_at (i := 1539) (by decide +kernel)) (ax_at (i := 111) (by decide +kernel)) (Nat.le_of_ble_eq_true rfl) (Nat.le_of_ble_eq_true rfl) (show decode code 8 = .ok (.new 146, 3) from by decide +kernel) (fun q2 => ?_)
  refine k_dup E (show decode code 11 = .ok (.dup, 1) from by decide +kernel) rfl ?_
  refine k_call (n := 0) [] _ E hml hl.1 (kc_model l D ar) rfl ⟨(ax_at (i := 1542) (by decide +kernel)), (ax_at (i := 111) (by decide +kernel)), by decide, by decide, by decide +kernel⟩ (ax_at (i := 1540) (by decide +kernel)) (ax_at (i := 1541) (by decide +kernel)) rfl (Nat.le_of_ble_eq_true rfl) (And.intro (Nat.le_of_ble_eq_true rfl) (Nat.le_of_ble_eq_true rfl)) (And.intro (Nat.le_of_ble_eq_true rfl) (Nat.le_of_ble_eq_true rfl)) (show decode code 12 = .ok (.invokespecial 148, 3) from by decide +kernel) (fun u2 => ?_)
  refine k_as E 2 (show decode code 15 = .ok (.astore_n 2, 1) from by decide +kernel) rfl hl (by decide) (fun ls hl => ?_)
  have hl : lv_has ls 9 [(2, .ref q2), (1, .ref q1), (0, .ref b)] := hl
  refine k_ic E 1 (show decode code 16 = .ok (.iconst 1, 1) from by decide +kernel) (by decide) ?_
  refine k_newa (atype := .long) (ty := .long) E 3 rfl (ax_at (i := 2100) (by decide +kernel)) rfl (N := 1) (a0 := (1, .inr (.inl (fun z => if z = 0 then (0 : Int64) else 0)))) lw_zl (by decide) (by decide) (by decide) (Nat.le_of_ble_eq_true rfl) (Nat.le_of_ble_eq_true rfl) (show decode code 17 = .ok (.newarray .long, 2) from by decide +kernel) (fun qJ => ?_)
  refine k_as E 3 (show decode code 19 = .ok (.astore_n 3, 1) from by decide +kernel) rfl hl (by decide) (fun ls hl => ?_)
  have hl : lv_has ls 9 [(3, .ref qJ), (2, .ref q2), (1, .ref q1), (0, .ref b)] := hl
  refine k_ic E 1 (show decode code 20 = .ok (.iconst 1, 1) from by decide +kernel) (by decide) ?_
  refine k_newa (atype := .double) (ty := .double) E 4 rfl (ax_at (i := 2101) (by decide +kernel)) rfl (N := 1) (a0 := (1, .inr (.inr (.inr (.inl (fun z => if z = 0 then (0 : UInt64) else 0)))))) lw_zd (by decide) (by decide) (by decide) (Nat.le_of_ble_eq_true rfl) (Nat.le_of_ble_eq_true rfl) (show decode code 21 = .ok (.newarray .double, 2) from by decide +kernel) (fun qD => ?_)
  refine k_as2 E 4 (show decode code 23 = .ok (.astore 4, 2) from by decide +kernel) hl (by decide) (fun ls hl => ?_)
  have hl : lv_has ls 9 [(4, .ref qD), (3, .ref qJ), (2, .ref q2), (1, .ref q1), (0, .ref b)] := hl
  refine k_ic E 0 (show decode code 25 = .ok (.iconst 0, 1) from by decide +kernel) (by decide) ?_
  refine k_is2 E 5 (show decode code 26 = .ok (.istore 5, 2) from by decide +kernel) hl (by decide) (fun ls hl => ?_)
  have hl : lv_has ls 9 [(5, .int 0), (4, .ref qD), (3, .ref qJ), (2, .ref q2), (1, .ref q1), (0, .ref b)] := hl
  exact lw_from l hst hL C1 hK hSt hEv (by decide) (by decide) hl
-- ===== YOUR PART ENDS =====
set_option maxHeartbeats 4000000 in
theorem lw_walk (l : Launch) (hflags : l.flags = flags0) (b : Addr) (xs : List Int32) : MetFree l x (headSpec (Jvm.Cond.code x code maxLocals ret :: tables_1) room_1) (lw_P b xs) (fun _ _ _ _ _ => True) lw_Q := by
  refine MetFree.of_bodyS (code := code) (maxLocals := maxLocals) (ret := ret) (by decide) ?_ ?_
  · intro args s m h hn
    obtain ⟨meth, c, h1, h2, h3, h4, h5, h6, -, -⟩ := Cond.code_spec hn (atoms_spec (ws := Jvm.Cond.code x code maxLocals ret :: tables_1) h _ List.mem_cons_self)
    exact ⟨meth, c, h1, h2, h3, h4, h5, h6⟩
  · intro p e s m args below meth c s₁ B hml0 hP _
    obtain ⟨rfl, hx, hbd, hgv⟩ := hP
    obtain ⟨scr, harrAt, hlist, hof, hsmall⟩ := hx
    obtain ⟨hcb, hkn, -, -⟩ := State.arrayAt?_spec harrAt
    have hown : s.vm.findClass R_law = some m.cls := findClass_of_methodNamed B.named
    have hts0 : ∀ c ∈ (Jvm.Cond.code x code maxLocals ret :: tables_1), c.before #[Value.ref b] s = true := atoms_spec (ws := Jvm.Cond.code x code maxLocals ret :: tables_1) B.pre
    have hts : ∀ w ∈ lw_tbl, w.before #[Value.ref b] s = true := k2_hts_sels lw_privs (fun w hw => hts0 w (List.mem_cons_of_mem _ hw)) lw_privs_ok
    have hml : c.maxLocals = 9 := B.maxLocals_eq (hts0 _ List.mem_cons_self)
    have X₀ : Stand p l e room_1 s m #[Value.ref b] below meth c s₁ [] 0 0 := Stand.of_body B
    have hh0 : s₁.heap = s.heap := by rw [B.state]; rfl
    have hsz : scr.slots.size = xs.length := by rw [← Array.length_toList, hlist, List.length_map]
    have hval : ∀ j : Nat, j < xs.length → scr.slots[j]? = some (.int (xs.getD j 0)) := fun j hj => by
      rw [← Array.getElem?_toList, hlist]
      simp [hj]
    have hbl : b < s.heap.size := (Array.getElem?_eq_some_iff.mp hcb).1
    have hX : va_X b xs.length (fun j => xs.getD j 0) s s.heap := ⟨scr, hcb, hof, hkn, hsz, hval⟩
    have K : W p l e room_1 s m #[Value.ref b] below meth c s₁.heap [] 0 0 (lw_Z below #[Value.ref b] s) (entryFrame m ([Value.ref b] : List Value).toArray 9) := by
      rw [hh0]
      exact whole_start l hflags hbd ⟨B.exec, B.bytes, B.returns, hml, hown, hts, hX, hbl, B.notSynchronized, hgv⟩
    obtain ⟨t, a1, o, b1, b2, b3⟩ := K s₁ rfl X₀
    exact ⟨t, o, a1, b1, b2, b3⟩
theorem lw_pre_spec {args : Array Value} {s : State} (h : (Jvm.Cond.and given_1 narrow_1).before args s = true) (hr : rest_1_c.before args s = true) : ∃ (b : Addr) (xs : List Int32), lw_P b xs args s := by
  have hs := flat_of_before _ h
  have hq := flat_of_before _ hr
  have hc : (Cond.count 1).before args s = true := hs _ (by decide +kernel)
  have harr : (Cond.arrayOf (.arg 0) .int).before args s = true := hs _ (by decide +kernel)
  have hle : (Cond.le (.length (.arg 0)) (.int 2560)).before args s = true := hs _ (by decide +kernel)
  have hlen : (Cond.isInt (.length (.arg 0))).before args s = true := hq _ (by decide +kernel)
  have hall : (Cond.all (.arg 0) (.isInt (.elem (.arg 0) (.index 0)))).before args s = true := hq _ (by decide +kernel)
  obtain ⟨b, xs, hb, hx⟩ := State.ints_of_pre rfl harr hlen hall
  have hsm : xs.length < 2 ^ 31 := hx.choose_spec.2.2.2
  have hev : (Term.length (.arg 0)).eval args s none [] s = some (.int xs.length.toInt32) := hx.length_eval hb
  have hv := Cond.le_ints hev (show (Term.int 2560).eval args s none [] s = some (.int 2560) from rfl)
  have hd : xs.length.toInt32 ≤ 2560 := by
    simpa [Cond.before, Cond.holds, hv] using hle
  have hN : xs.length ≤ 2560 := (Int32.ofNat_le_ofNat hsm (by decide)).mp (show Int32.ofNat xs.length ≤ Int32.ofNat 2560 from hd)
  exact ⟨b, xs, Cond.one_arg hc (show args[0]? = some (.ref b) from hb), hx, hN, h⟩
theorem lw_comes (l : Launch) (hflags : l.flags = flags0) : Comes l x (Jvm.Cond.code x code maxLocals ret :: tables_1) room_1 (fun tb e args s => Calls_1 tb e args s ∧ rest_1 tb e args s ∧ Pre_1 tb e args s)
    (fun _ _ args s o t => lw_Q args s o t) := by
  intro p e ha hc hk s m args below hf hfit hheap happ hpre
  obtain ⟨b, xs, hP⟩ := lw_pre_spec hpre.2.2 hpre.2.1
  obtain ⟨k, o, h1, h2, h3, hQ⟩ := lw_walk l hflags b xs p e ha hc hk s m args below hf ((Spec.applies_iff_loose hf).mp happ).1 hP trivial
  exact ⟨k, o, h1, h2, h3, hQ⟩
theorem lw_frame {s t : State} {o : Outcome} {args : Array Value} (h : State.butDraws s t lw_cs (fun t1 => Framed s o t1 [] 603072 7190634)) :
    State.butDraws s t [Jvm.Choice.named "NaN.bits"] (fun t1 => Framed s o t1 (fieldLocs frame_1_writes args s ++ arrayLocs frame_1_arrays args s ++ staticLocs frame_1_statics s) 603072 7190634) := h
theorem lw_limb (L : Cond) (hL : ∀ (args : Array Value) (s t : State), L.after args s (.returned (some (.int 1))) t = true) :
    ArmFor flags0 classFile x code maxLocals ret World_1 tables_1 room_1 Calls_1 rest_1 Pre_1
      (fun tb e a s o t => postC L tb e a s o t ∧ State.butDraws s t [Jvm.Choice.named "NaN.bits"] (fun t1 => Framed s o t1 (fieldLocs frame_1_writes a s ++ arrayLocs frame_1_arrays a s ++ staticLocs frame_1_statics s) 603072 7190634)) := by
  intro l hflags _ _ p e ha hc hk s m args below hf hfit hheap happ hpre
  obtain ⟨k, o, h1, h2, h3, rfl, hF⟩ := lw_comes l hflags p e ha hc hk s m args below hf hfit hheap happ hpre
  exact ⟨k, _, h1, h2, h3, hL args s _, lw_frame hF⟩
theorem i_vc : Claimed_1_1 ∧ Claimed_1_2 := ⟨lw_limb limb_1_1 (fun args s t => by simp [limb_1_1, Cond.after, Cond.holds, Cond.value]), lw_limb limb_1_2 (fun args s t => Cond.after_iff.mpr (by
  first | (rw [show limb_1_2 = Cond.eq .result (.int 1) from rfl, Cond.eq_ints (x := 1) (y := 1) rfl rfl]; simp; done) | (simp [limb_1_2, Cond.value, Term.eval]; done)))⟩

