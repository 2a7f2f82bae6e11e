/-! A WRAPPER: it catches what its call throws -/
def lx_NC (U : State) : Prop := ∀ i j, i < 6 → j < 6 → ¬ i = j → va_Nc (ax_exc i) (ax_exc j) U
def lx_ci (n : Nat) : Nat := match n with
  | 0 => 13
  | 1 => 21
  | 2 => 19
  | 3 => 30
  | 4 => 89
  | _ => 120
theorem lx_cil : ∀ n, n < 6 → Cond.classLink "AdventureWorldLaw" (lx_ci n) (ax_exc n) ∈ lw_tbl := by decide +kernel
theorem lx_cig : ∀ n, n < 6 → goodWord (Cond.classLink "AdventureWorldLaw" (lx_ci n) (ax_exc n)) = true := by decide +kernel
theorem lx_ci0 : ∀ n, n < 6 → lx_ci n ≠ 0 := by decide +kernel
theorem lx_cas : ∀ n, n < 6 → Cond.castable (ax_exc n) (ax_exc n) ∈ ax_nest := by decide +kernel
def lx_hdF : List (Nat × Nat) → Nat → Nat → Option Int32
  | [], _, _ => none
  | q :: r, k, n => cond (Nat.beq q.1 n) (some (Int32.ofInt (k : Int))) (lx_hdF r (k + 1) n)
def lx_f4 (n : Nat) : Fin 4 := match n with
  | 0 => 0
  | 1 => 1
  | 2 => 2
  | _ => 3
def lx_hB (cc : ByteArray) (nL : Nat) (q : Nat × Nat) (k : Nat) : Bool := (Nat.blt q.1 6 && Nat.blt 0 nL) && cond (Nat.blt nL 5)
  (decide (decode cc q.2 = .ok (.astore_n (lx_f4 (nL - 1)), 1)) && (decide ((lx_f4 (nL - 1)).val = nL - 1) && (decide (decode cc (q.2 + 1) = .ok (.iconst (k : Int), 1)) && decide (decode cc (q.2 + 2) = .ok (.ireturn, 1)))))
  (decide (decode cc q.2 = .ok (.astore (nL - 1), 2)) && (decide (decode cc (q.2 + 2) = .ok (.iconst (k : Int), 1)) && decide (decode cc (q.2 + 3) = .ok (.ireturn, 1))))
theorem ax_c2b {b x y : Bool} (h : cond b x y = true) : (b = true ∧ x = true) ∨ (b = false ∧ y = true) := by
  cases b with
  | true => exact Or.inl ⟨rfl, h⟩
  | false => exact Or.inr ⟨rfl, h⟩
def lx_hall (cc : ByteArray) (nL : Nat) : List (Nat × Nat) → Nat → Bool
  | [], _ => true
  | q :: r, k => lx_hB cc nL q k && lx_hall cc nL r (k + 1)
theorem lx_split {cc : ByteArray} {nL n : Nat} {x : Int32} : ∀ {hs : List (Nat × Nat)} {k : Nat}, lx_hall cc nL hs k = true → lx_hdF hs k n = some x →
    ∃ (pre : List (Nat × Nat)) (q : Nat × Nat) (suf : List (Nat × Nat)) (k' : Nat), hs = pre ++ q :: suf ∧ q.1 = n ∧ (∀ z ∈ pre, z.1 < 6 ∧ ¬ z.1 = n) ∧ x = Int32.ofInt (k' : Int) ∧ lx_hB cc nL q k' = true := by
  intro hs
  induction hs with
  | nil => intro k _ h; cases h
  | cons q r ih =>
    intro k h0 h
    obtain ⟨h1, h2⟩ := ax_an (show (lx_hB cc nL q k && lx_hall cc nL r (k + 1)) = true from h0)
    have h : cond (Nat.beq q.1 n) (some (Int32.ofInt (k : Int))) (lx_hdF r (k + 1) n) = some x := h
    cases hb : Nat.beq q.1 n with
    | true =>
      rw [hb] at h
      exact ⟨[], q, r, k, rfl, Nat.eq_of_beq_eq_true hb, fun z hz => (List.not_mem_nil hz).elim, (Option.some.inj h).symm, h1⟩
    | false =>
      rw [hb] at h
      obtain ⟨pre, q', suf, k', g1, g2, g3, g4, g5⟩ := ih h2 h
      refine ⟨q :: pre, q', suf, k', by rw [g1]; rfl, g2, fun z hz => ?_, g4, g5⟩
      rcases List.mem_cons.mp hz with rfl | hz
      · have h3 := (ax_an (ax_an h1).1).1
        exact ⟨Nat.le_of_ble_eq_true h3, fun e => by rw [e, Nat.beq_refl] at hb; cases hb⟩
      · exact g3 z hz
abbrev lx_hh (to : Nat) (hs : List (Nat × Nat)) : List (Nat × Nat × Nat × Nat) := hs.map (fun q => (0, to, q.2, lx_ci q.1))
section LXW
variable {p : Program} {l : Launch} {e : Env} {R : Room} {s : State} {m : MethodId} {args : Array Value} {below : List Frame} {meth : Method} {c : Code} {Q : State → Prop} {cc : ByteArray} {G : ax_G} {A : Nat → Prop} {nL c0 s0 : Nat}
variable {pc : Nat} {lo : List (Nat × ax_V)} {st r : List ax_V} {d : ax_D} {ee : Nat} {own : String} {ws : List Cond} {fin : ax_Fin}
abbrev lx_MQ (below : List Frame) (G : ax_G) (args : Array Value) (s : State) (fin : ax_Fin) : State → Prop := MQ below (ax_Qc G fin s.heap.size) args s fin.2.1 (6 * fin.2.1) (ax_A G s.heap.size)
theorem lx_catch {hs : List (Nat × Nat)} {to n : Nat} {x : Int32} (E : ax_Env ax_ldc ax_nest ax_thr p s m args c cc G (ax_A G s.heap.size) nL "AdventureWorldLaw" ws) (hNC : lx_NC s) (htab : c.exceptionTable.toList = tableOf (lx_hh to hs)) (hlocks : meth.locks = false) (hr : meth.sig.returnType = some .int)
    (hh : lx_hall cc nL hs 1 = true) (hpc : pc < to) (hx : lx_hdF hs 1 n = some x) :
    ax_TX p l e R s m args below meth c (lx_MQ below G args s (d, ee, Sum.inl (some (Sum.inl x)))) G (ax_A G s.heap.size) nL 0 0 pc lo r d ee n := by
  intro H locs ls ce q hl ho hv hP hD hS h1 h2 h3
  obtain ⟨pre, z, suf, k, g1, g2, g3, g4, g5⟩ := lx_split hh hx
  subst g2
  obtain ⟨g6, g7⟩ := ax_an g5
  obtain ⟨g6, g8⟩ := ax_an g6
  have hz6 : z.1 < 6 := Nat.le_of_ble_eq_true g6
  have hn0 : 0 < nL := Nat.le_of_ble_eq_true g8
  obtain ⟨hex, hb, hml, hown, hgw, hts, hK, hE, hsta, hAk, hAs⟩ := E
  refine vx_widen (k := ee) (n := 6 * ee) (by omega) (by omega) ?_
  refine vx_catch hown (tableOf (lx_hh to pre)) ⟨0, to, z.2, lx_ci z.1⟩ (tableOf (lx_hh to suf)) (by rw [htab, g1]; simp [tableOf]) ?_ (by simp [covers, hpc]) (lx_ci0 _ hz6) (hts _ (hgw _ (ax_gw_mem (lx_cil _ hz6) (lx_cig _ hz6)))) (va_Nw.use rfl (hE.2.2.2.2.2.1 _ (lx_cas _ hz6))) h1 h2 h3 ?_
  · intro y hy
    simp only [tableOf, List.mem_map] at hy
    obtain ⟨u, ⟨w, hw, rfl⟩, rfl⟩ := hy
    obtain ⟨w6, wn⟩ := g3 w hw
    exact Or.inr ⟨lx_ci0 _ w6, ax_exc w.1, hts _ (hgw _ (ax_gw_mem (lx_cil _ w6) (lx_cig _ w6))), hNC _ _ hz6 w6 (fun e => wn e.symm)⟩
  · show W p l e R s m args below meth c H locs ee (6 * ee) _ (F0 m z.2 ls [.ref q])
    rcases ax_c2b g7 with ⟨g9, g7⟩ | ⟨g9, g7⟩
    · obtain ⟨d1, g7⟩ := ax_an g7
      obtain ⟨d2, g7⟩ := ax_an g7
      obtain ⟨d3, d4⟩ := ax_an g7
      refine lv_astore_n hex hb (of_decide_eq_true d1) (of_decide_eq_true d2) hl (by omega) rfl (fun ls1 hl1 => ?_)
      refine lv_iconst hex hb (of_decide_eq_true d3) g4.symm ?_
      exact W.iret hex hb hr (ax_qr (rv := some (Sum.inl x)) hP hS (fun v h => by simp at h; rw [h]; trivial)) hS.2.2 (of_decide_eq_true d4) hlocks
    · obtain ⟨d1, g7⟩ := ax_an g7
      obtain ⟨d3, d4⟩ := ax_an g7
      refine lv_astore hex hb (of_decide_eq_true d1) hl (by omega) rfl (fun ls1 hl1 => ?_)
      refine lv_iconst hex hb (of_decide_eq_true d3) g4.symm ?_
      exact W.iret hex hb hr (ax_qr (rv := some (Sum.inl x)) hP hS (fun v h => by simp at h; rw [h]; trivial)) hS.2.2 (of_decide_eq_true d4) hlocks
end LXW
section LXM
variable {p : Program} {l : Launch} {e : Env} {R : Room} {s : State} {m : MethodId} {args : Array Value} {below : List Frame} {meth : Method} {c : Code} {Q : State → Prop} {cc : ByteArray} {G : ax_G} {A : Nat → Prop} {nL c0 s0 : Nat}
variable {pc : Nat} {lo : List (Nat × ax_V)} {st r : List ax_V} {d : ax_D} {ee : Nat} {own : String} {ws : List Cond} {fin : ax_Fin}
/-- a wrapper's contract at one start -/
def lx_CW (l : Launch) (G : ax_G) (y : MethodName) (ws : List Cond) (fr lc : Nat) (as : List ax_V) (d : ax_D) (fin : ax_Fin) : Prop :=
  ∀ sz : Nat, Met l y ws (ax_rm fr lc fin) (fun a U => ax_Pc ax_ldc ax_nest ax_thr G as d sz a U ∧ lx_NC U) (ax_Qc G fin sz) fin.2.1 (6 * fin.2.1) (ax_A G sz)
theorem lx_met {fr lc maxL n to : Nat} {tb : Nat → Option ax_En} {y : MethodName} {hs : List (Nat × Nat)} {as : List ax_V} {cl : List (String × Nat × Nat)} (hy : plainName y.cls = true) (hown : y.cls = "AdventureWorldLaw") (hst : l.stackTraces = false)
    (hcl : ∀ q ∈ cl, Cond.methodLink q.1 q.2.1 (ax_y q.2.2) ∈ ax_gw) (hg : lx_good maxL fr lc "AdventureWorldLaw" cl [] (fun _ => 0) cc tb)
    (hpcs : ∀ pc idx, (tb pc).isSome = true → decode cc pc = .ok (.invokevirtual idx, 3) → pc < to) (hh : lx_hall cc maxL hs 1 = true) (hml : ax_cats as ≤ maxL)
    (h : lx_run (lx_hdF hs 1) (fun _ _ _ => none) (false, 0, fun _ => 0) tb n 0 (ax_args 0 as) [] d 0 = some fin) :
    lx_CW l G y (Cond.codeWith y cc maxL (some .int) (lx_hh to hs) :: ax_gw) fr lc as d fin := by
  intro sz
  refine va_MetW (cc := cc) (maxL := maxL) (ret := some .int) (hh := lx_hh to hs) hy rfl ?_
  intro p e s m args below meth c s₁ B hml2 hv
  obtain ⟨⟨rfl, hsz, hvs, hP, hK, hD, hE⟩, hNC⟩ := hv
  subst hsz
  have hts := atoms_spec (ws := Cond.codeWith y cc maxL (some .int) (lx_hh to hs) :: ax_gw) B.pre
  have htab := vx_table (x := y) B (hts _ List.mem_cons_self)
  have hE9 : ax_Env ax_ldc ax_nest ax_thr p s m (as.map (ax_conc G)).toArray c cc G (ax_A G s.heap.size) maxL "AdventureWorldLaw" (Cond.codeWith y cc maxL (some .int) (lx_hh to hs) :: ax_gw) :=
    ⟨B.exec, B.bytes, hml2, by rw [← hown]; exact findClass_of_methodNamed B.named, fun w hw => List.mem_cons_of_mem _ hw, hts, hK, hE, ax_stab, fun r hr => Or.inl ⟨r, hr, rfl⟩, fun q hq => Or.inr hq⟩
  have hl := lv_entry (as.map (ax_conc G)) (n := maxL) (by rw [ax_sl_len]; exact hml)
  rw [lg_entry_eq]
  generalize (lg_sl (as.map (ax_conc G)) ++ List.replicate (maxL - (lg_sl (as.map (ax_conc G))).length) Slot.unset).toArray = ls at hl ⊢
  rw [ax_args_cl] at hl
  have hD9 : va_D (ax_A G s.heap.size) (ax_cells G d) := by
    refine ⟨hD.1, fun k q hk => Or.inl ?_⟩
    unfold ax_cells at hk
    rw [List.getElem?_map] at hk
    cases hkk : ax_keys[k]? with
    | none => rw [hkk] at hk; cases hk
    | some r =>
      rw [hkk] at hk
      refine ⟨r, List.mem_of_getElem? hkk, ?_⟩
      have := Option.some.inj hk
      rw [← this]
  have hw := (lx_run_snd (fin := fin) (c0 := 0) (s0 := 0) (Q := lx_MQ below G (as.map (ax_conc G)).toArray s fin) (R := (headSpec (Cond.codeWith y cc maxL (some .int) (lx_hh to hs) :: ax_gw) (ax_rm fr lc fin)).room) (below := below) (meth := meth) (e := e) hE9 hst hcl (fun z => by cases z) ⟨Nat.le_refl _, Nat.le_refl _⟩ ⟨by show 0 + fin.2.1 ≤ fin.2.1; omega, by show 0 + 6 * fin.2.1 ≤ 6 * fin.2.1; omega⟩
    (fun pc lo x d ee hd hf => by
      subst hf
      intro H locs ls hl ho hv hP hD hS
      refine W.widen (k := ee) (n := 6 * ee) (by omega) (by omega) ?_
      exact W.iret B.exec B.bytes B.returns (ax_qr (rv := some (Sum.inl x)) hP hS (fun v h => by simp at h; rw [h]; trivial)) hS.2.2 hd B.notSynchronized)
    (fun pc lo r d ee n x idx hp hd hx hf => by
      subst hf
      exact lx_catch hE9 hNC htab B.notSynchronized B.returns hh (hpcs pc idx hp hd) hx)
    (fun pc idx a as r d d' e' x lo ee _ hm => by cases hm) hg n 0 (ax_args 0 as) [] d 0 h).2
  exact hw s.heap [] ls hl (ax_args_ok as 0 hvs) (fun v hv => by cases hv) hP hD9 va_S.rf
/-- the call of a wrapper -/
theorem lx_t_callW {y : MethodName} {bytes : ByteArray} {maxL n idx fr lc : Nat} {hh : List (Nat × Nat × Nat × Nat)} {as : List ax_V} {x : Int32} (E : ax_Env ax_ldc ax_nest ax_thr p s m args c cc G A nL own ws) (hNC : lx_NC s) (hM : lx_CW l G y (Cond.codeWith y bytes maxL (some .int) hh :: ax_gw) fr lc as d fin)
    (hk : Cond.codeWith y bytes maxL (some .int) hh ∈ ax_gw ∧ Cond.initialized y.cls ∈ ax_gw ∧ (y.cls ≠ "java/lang/invoke/MethodHandle" ∧ y.cls ≠ "java/lang/invoke/VarHandle") ∧ (parseMethodDescriptor y.desc).map (fun d => d.parameters.length) = some n) (hl : Cond.methodLink own idx y ∈ ax_gw) (hst : Cond.static y ∈ ax_gw)
    (hn : as.length = n) (hr : ax_cats r ≤ 8) (hR : fr + 1 ≤ R.frames ∧ 8 + (maxL + 11) + lc ≤ R.locals) (hf : c0 + ee + fin.2.1 ≤ R.cells ∧ s0 + 6 * ee + 6 * fin.2.1 ≤ R.slots) (hd : decode cc pc = .ok (.invokestatic idx, 3))
    (hfx : fin.2.2 = Sum.inl (some (Sum.inl x)))
    (kr : ax_Tr p l e R s m args below meth c Q G A nL c0 s0 (pc + 3) lo (Sum.inl x :: r) fin.1 (ee + fin.2.1)) :
    ax_Tr p l e R s m args below meth c Q G A nL c0 s0 pc lo (as.reverse ++ r) d ee := by
  intro H locs ls hlv ho hv hP hD hS
  have E' := E
  obtain ⟨hx, hb, hml, hown, hgw, hts, hK, hE, hsta, hAk, hAs⟩ := E
  have hva : ∀ v ∈ as, ax_vok v := fun v h => hv v (List.mem_append_left _ (List.mem_reverse.mpr h))
  have hvr : ∀ v ∈ r, ax_vok v := fun v h => hv v (List.mem_append_right _ h)
  have hpre := ax_pre E' hva hP hD hS
  have hrun := vx_runSW (e := e) (below := below) (meth := meth) (As := as.map (ax_conc G)) (rest := r.map (ax_conc G)) (g := F0 m pc ls ((as.reverse ++ r).map (ax_conc G))) (n := n) (cells := c0 + ee) (slots := s0 + 6 * ee) (locs := locs) (H := H) (R := R) (hh := hh) (bytes := bytes) (maxL := maxL) (ret := some .int) (index := idx) ⟨hx, hb, hml, hown, hts⟩ (hM H.size)
    ⟨⟨rfl, rfl, hR.1, hR.2, pay_in hts (ax_goodIn hgw hk.1), List.mem_cons_self⟩, hts _ (hgw _ hk.1), hts _ (hgw _ hk.2.1), hk.2.2.1, fun sig h => by have h2 := hk.2.2.2; rw [h] at h2; exact (Option.some.inj h2).symm, hts _ (hgw _ hl), hts _ (hgw _ hst)⟩
    ⟨fun a U g mk q => ⟨ax_blind hsta G as d H.size a U g mk q.1, fun i j h1 h2 h3 => va_Nc.moved (u := U) (U := U.calling g mk a) (Vm.Alike.refl U.vm) (q.2 i j h1 h2 h3)⟩, fun U hU hW => ⟨hpre U hU hW, fun i j h1 h2 h3 => va_Nc.moved hW.alike (hNC i j h1 h2 h3)⟩⟩
    rfl (by rw [List.length_map]; exact hn) hlv.1 (by simp [List.map_append, List.map_reverse]) (lv_room (by rw [ax_cats_conc]; exact hr)) hd hf
  have hA := ax_A_of hAk hAs hS
  have e1 : c0 + (ee + fin.2.1) = c0 + ee + fin.2.1 := by omega
  have e2 : s0 + 6 * (ee + fin.2.1) = s0 + 6 * ee + 6 * fin.2.1 := by omega
  intro T hT X
  obtain ⟨v, st₀, t, T', L, h0, X', hL, q1, q2, ⟨rv, hf2, ho1, hvr2, hP1, hF⟩, st⟩ := hrun T hT X
  obtain ⟨k1, k2, k3⟩ := vx_keep h0 q1 hS (fun q _ h => hA q h) hA hL hF
  rw [hfx] at hf2
  cases hf2
  have hvv : v = some (.int x) := by cases ho1; rfl
  have hkk := kr T'.heap (locs ++ L) ls hlv ho (fun w hw => (List.mem_cons.mp hw).elim (fun e => by rw [e]; trivial) (hvr w)) (by rw [q1]; exact hP1) (ax_D_any hD) k3
  rw [e1, e2] at hkk
  obtain ⟨t2, a1, b1⟩ := hkk T' rfl X'
  refine ⟨t2, st t2 ?_, b1⟩
  rw [hvv]
  exact a1
end LXM
