/-! the constructors that call others -/
section KP
variable {p : Program} {l : Launch} {e : Env} {R : Room} {s : State} {m : MethodId} {args : Array Value} {below : List Frame} {meth : Method} {c : Code} {Q : State → Prop} {cc : ByteArray} {D : va_G} {ar : Nat → ClassId} {A : Nat → Prop} {own : String}
variable {ws ws' : va_W} {pc cells slots nL : Nat} {ls : Array Slot} {st : List Value}
abbrev kq (n : Nat) (f : Nat → Option Nat) : vp_A := (n, .inr (.inr (.inr (.inr f))))
theorem k_newq (E : kEnv p s m args c cc D ar A own) {x : Nat × va_E} {index : Nat} (hcl : Cond.classLink own index RX9 ∈ ax_gw) {n : Int32} {N : Nat} (hn : ¬ n < 0) (hN : n.toNatClampNeg = N) (hbytes : N * 4 ≤ 536870912) (hcells : cells + 1 ≤ R.cells) (hslots : slots + N ≤ R.slots) (hd : decode cc pc = .ok (.anewarray index, 3))
    (kk : ∀ q : Nat, kW p l e R s m args below meth c Q D A (x :: (q, .inl (ar 2, kq N (fun _ => none))) :: ws) (pc + 3) ls (.ref q :: st) (cells + 1) (slots + N)) : kW p l e R s m args below meth c Q D A (x :: ws) pc ls (.int n :: st) cells slots := by
  intro H locs hP hNd hS
  obtain ⟨hx, hb, hown, hts, hK, hA, hX⟩ := E
  refine va_newq hx hb hown (hts _ hcl) hX.1 hK (kP_iff.mpr hP) (kN_iff.mpr hNd) hS hA hn hN hbytes hcells hslots hd (fun q cA H1 hK1 hP1 hD1 hS1 => ?_)
  have e1 : cA = ar 2 := va_RA_inj (hK1.2 5 (cA, .object RX9) rfl).2 (hK.2 2 _ rfl).2
  subst e1
  have hp : (x :: ws ++ [(q, .inl (ar 2, kq N (fun _ => none)))] : va_W).Perm (x :: (q, .inl (ar 2, kq N (fun _ => none))) :: ws) := k_perm1.trans (List.Perm.swap _ _ _)
  exact kk q H1 locs (kP_p hp (kP_iff.mp hP1)) (kN_p hp (kN_iff.mp hD1)) hS1
theorem k_get (E : kEnv p s m args c cc D ar A own) {a index h0 k : Nat} {fs : List Value} (v : Value) (ha : a < 10) (hk : k < ax_nf a) (hl : Cond.fieldLink own index (ax_T a k).1 (ax_T a k).2.1 (ax_T a k).2.2.1 ∈ ax_gw) (hv : fs[k]? = some v) (hd : decode cc pc = .ok (.getfield index, 3))
    (kk : kW p l e R s m args below meth c Q D A ((h0, .inr (a + 2, fs)) :: ws) (pc + 3) ls (v :: st) cells slots) : kW p l e R s m args below meth c Q D A ((h0, .inr (a + 2, fs)) :: ws) pc ls (.ref h0 :: st) cells slots := by
  intro H locs hP hNd hS
  obtain ⟨hx, hb, hown, hts, hK, hA, -⟩ := E
  exact va_get hx hb (Ts := ax_gw) hts (fun w hw => ax_gw_mem (ax_uw a ha w hw).1 (ax_uw a ha w hw).2) hown hK (kP_iff.mpr hP) 0 rfl (ax_cl_at a ha) k hk (hts _ hl) (fun x h => h) hv hd (kk H locs hP hNd hS)
theorem k_aast (E : kEnv p s m args c cc D ar A own) {x : Nat × va_E} {qa v n : Nat} {f : Nat → Option Nat} {vs : List Value} {i : Int32} (hin : vp_in i n) (hd : decode cc pc = .ok (.aastore, 1))
    (kk : kW p l e R s m args below meth c Q D A (x :: (qa, .inl (ar 2, kq n (va_up f i.toNatClampNeg (some v)))) :: (v, .inr (9, vs)) :: ws) (pc + 1) ls st cells slots) : kW p l e R s m args below meth c Q D A (x :: (qa, .inl (ar 2, kq n f)) :: (v, .inr (9, vs)) :: ws) pc ls (.ref v :: .int i :: .ref qa :: st) cells slots := by
  intro H locs hP hNd hS
  obtain ⟨hx, hb, hown, hts, hK, hA, -⟩ := E
  refine va_astq hx hb hK (kP_iff.mpr hP) (kN_iff.mpr hNd) hS 1 2 2 9 rfl (r := (ax_R 7, ax_T 7, ax_nf 7)) rfl rfl (ax_cl_at 7 (by decide)) hin hd (fun H1 locs1 hP1 hD1 hS1 => ?_)
  exact kk H1 locs1 (kP_iff.mp hP1) (kN_iff.mp hD1) hS1
theorem k_arrx {x : Nat × va_E} {qa n : Nat} {cA : ClassId} {f f' : Nat → Option Nat} (hf : ∀ j, j < n → f j = f' j) (kk : kW p l e R s m args below meth c Q D A (x :: (qa, .inl (cA, kq n f')) :: ws) pc ls st cells slots) : kW p l e R s m args below meth c Q D A (x :: (qa, .inl (cA, kq n f)) :: ws) pc ls st cells slots := by
  intro H locs hP hNd hS
  have he : vp_cell cA (kq n f) = vp_cell cA (kq n f') := by
    rw [vp_cell_q, vp_cell_q]
    unfold arrV
    congr 2
    funext j
    show va_rf (f j.val) = va_rf (f' j.val)
    rw [hf j.val j.isLt]
  refine kk H locs (fun q hq => ?_) ⟨hNd.1, fun q hq => ?_⟩ hS
  · rcases List.mem_cons.mp hq with h | h
    · exact hP q (by rw [h]; exact List.mem_cons_self)
    · rcases List.mem_cons.mp h with h | h
      · have h1 := hP _ (List.mem_cons_of_mem _ (List.mem_cons_self (a := (qa, .inl (cA, kq n f))) (l := ws)))
        rw [h]
        show H[qa]? = some (vp_cell cA (kq n f'))
        rw [← he]
        exact h1
      · exact hP q (List.mem_cons_of_mem _ (List.mem_cons_of_mem _ h))
  · rcases List.mem_cons.mp hq with h | h
    · exact hNd.2 q (by rw [h]; exact List.mem_cons_self)
    · rcases List.mem_cons.mp h with h | h
      · have h1 := hNd.2 _ (List.mem_cons_of_mem _ (List.mem_cons_self (a := (qa, .inl (cA, kq n f))) (l := ws)))
        rw [h]
        exact h1
      · exact hNd.2 q (List.mem_cons_of_mem _ (List.mem_cons_of_mem _ h))
theorem k_is (E : kEnv p s m args c cc D ar A own) {k : Fin 4} {lv : List (Nat × Value)} (j : Nat) {x : Int32} (hd : decode cc pc = .ok (.istore_n k, 1)) (hj : (k : Nat) = j) (h : lv_has ls nL lv) (hn : j < nL) (kk : ∀ ls' : Array Slot, lv_has ls' nL ((j, Value.int x) :: lv.filter (fun q => !(q.1 == j) && !(q.1 + 1 == j && q.2.category == 2))) → kW p l e R s m args below meth c Q D A ws (pc + 1) ls' st cells slots) : kW p l e R s m args below meth c Q D A ws pc ls (.int x :: st) cells slots :=
  fun H locs hP hN hS => lv_istore_n E.1 E.2.1 hd hj h hn rfl (fun ls' h' => kk ls' h' H locs hP hN hS)
theorem k_ii (E : kEnv p s m args c cc D ar A own) {n : Int} {lv : List (Nat × Value)} (j k : Nat) {x : Int32} (v : Int32) (hd : decode cc pc = .ok (.iinc j n, 3)) (h : lv_has ls nL lv) (hk : lv[k]? = some (j, .int x)) (hv : x + Int32.ofInt n = v) (hn : j < nL) (kk : ∀ ls' : Array Slot, lv_has ls' nL ((j, Value.int v) :: lv.filter (fun q => !(q.1 == j) && !(q.1 + 1 == j && q.2.category == 2))) → kW p l e R s m args below meth c Q D A ws (pc + 3) ls' st cells slots) : kW p l e R s m args below meth c Q D A ws pc ls st cells slots :=
  fun H locs hP hN hS => lv_iinc E.1 E.2.1 hd h hk hv hn rfl (fun ls' h' => kk ls' h' H locs hP hN hS)
theorem k_geF (E : kEnv p s m args c cc D ar A own) {x y : Int32} {off : Int} (tgt : Nat) (hd : decode cc pc = .ok (.if_icmp .ge off, 3)) (ht : (pc : Int) + off = (tgt : Int)) (h : ¬ y ≤ x) (kk : kW p l e R s m args below meth c Q D A ws (pc + 3) ls st cells slots) : kW p l e R s m args below meth c Q D A ws pc ls (.int y :: .int x :: st) cells slots :=
  fun H locs hP hN hS => lv_icmp_ge E.1 E.2.1 hd ht (fun z => absurd z h) (fun _ => kk H locs hP hN hS)
theorem k_geT (E : kEnv p s m args c cc D ar A own) {x y : Int32} {off : Int} (tgt : Nat) (hd : decode cc pc = .ok (.if_icmp .ge off, 3)) (ht : (pc : Int) + off = (tgt : Int)) (h : y ≤ x) (kk : kW p l e R s m args below meth c Q D A ws tgt ls st cells slots) : kW p l e R s m args below meth c Q D A ws pc ls (.int y :: .int x :: st) cells slots :=
  fun H locs hP hN hS => lv_icmp_ge E.1 E.2.1 hd ht (fun _ => kk H locs hP hN hS) (fun z => absurd h z)
theorem k_go (E : kEnv p s m args c cc D ar A own) {off : Int} (tgt : Nat) (hd : decode cc pc = .ok (.goto off, 3)) (ht : (pc : Int) + off = (tgt : Int)) (kk : kW p l e R s m args below meth c Q D A ws tgt ls st cells slots) : kW p l e R s m args below meth c Q D A ws pc ls st cells slots :=
  fun H locs hP hN hS => lv_goto E.1 E.2.1 hd ht (kk H locs hP hN hS)
end KP
def kl_actor (ar : Nat → ClassId) (p0 w0 : Nat) (h : Nat) (f : Nat → Nat) : va_W := [(h, .inr (2, [.ref w0, .ref (f 0), .ref (f 1), .ref p0, .int 0, .int 0]))] ++ (kl_clock ar p0 w0 (f 1) (fun _ => 0) ++ (kl_sight ar p0 w0 (f 0) (fun _ => 0) ++ []))
set_option maxHeartbeats 4000000 in
set_option maxRecDepth 100000 in
theorem kc_actor (l : Launch) (D : va_G) (ar : Nat → ClassId) (p0 : Nat) (w0 : Nat) : kC l D ar ⟨"AdventureWorld$Actor", "<init>", "(LAdventureWorld$Plan;LAdventureWorld$World;)V"⟩ prog_2_method_1_code 3 2 34 2 4 0 [.ref p0, .ref w0] (kl_actor ar p0 w0) := by
  refine k_met (by decide) rfl (Nat.le_of_ble_eq_true rfl) ?_
  intro p e s m args below meth c h0 E hin hlk hr hml ls hl
  have hl : lv_has ls 3 [(0, .ref h0), (1, .ref p0), (2, .ref w0)] := hl
  refine k_al E 0 h0 (show decode prog_2_method_1_code 0 = .ok (.aload_n 0, 1) from by decide +kernel) rfl (lv_at hl 0 rfl) ?_
  refine k_obj E hml hl.1 (ax_at (i := 371) (by decide +kernel)) (show decode prog_2_method_1_code 1 = .ok (.invokespecial 3, 3) from by decide +kernel) (by decide) (by decide) ?_
  refine k_al E 0 h0 (show decode prog_2_method_1_code 4 = .ok (.aload_n 0, 1) from by decide +kernel) rfl (lv_at hl 0 rfl) ?_
  refine k_al E 1 p0 (show decode prog_2_method_1_code 5 = .ok (.aload_n 1, 1) from by decide +kernel) rfl (lv_at hl 1 rfl) ?_
  refine k_put E (a := 0) (k := 3) (by decide) (by decide) (ax_at (i := 404) (by decide +kernel)) hin rfl rfl rfl (Nat.le_of_ble_eq_true rfl) (show decode prog_2_method_1_code 6 = .ok (.putfield 9, 3) from by decide +kernel) ?_
  refine k_al E 0 h0 (show decode prog_2_method_1_code 9 = .ok (.aload_n 0, 1) from by decide +kernel) rfl (lv_at hl 0 rfl) ?_
  refine k_al E 2 w0 (show decode prog_2_method_1_code 10 = .ok (.aload_n 2, 1) from by decide +kernel) rfl (lv_at hl 2 rfl) ?_
  refine k_put E (a := 0) (k := 0) (by decide) (by decide) (ax_at (i := 398) (by decide +kernel)) hin rfl rfl rfl (Nat.le_of_ble_eq_true rfl) (show decode prog_2_method_1_code 11 = .ok (.putfield 15, 3) from by decide +kernel) ?_
  refine k_al E 0 h0 (show decode prog_2_method_1_code 14 = .ok (.aload_n 0, 1) from by decide +kernel) rfl (lv_at hl 0 rfl) ?_
  refine k_new E (a := 5) (by decide) (ax_at (i := 372) (by decide +kernel)) (ax_at (i := 373) (by decide +kernel)) (ax_at (i := 109) (by decide +kernel)) (Nat.le_of_ble_eq_true rfl) (Nat.le_of_ble_eq_true rfl) (show decode prog_2_method_1_code 15 = .ok (.new 19, 3) from by decide +kernel) (fun q1 => ?_)
  refine k_dup E (show decode prog_2_method_1_code 18 = .ok (.dup, 1) from by decide +kernel) rfl ?_
  refine k_al E 1 p0 (show decode prog_2_method_1_code 19 = .ok (.aload_n 1, 1) from by decide +kernel) rfl (lv_at hl 1 rfl) ?_
  refine k_al E 2 w0 (show decode prog_2_method_1_code 20 = .ok (.aload_n 2, 1) from by decide +kernel) rfl (lv_at hl 2 rfl) ?_
  refine k_call (n := 2) [_] _ E hml hl.1 (kc_sight l D ar p0 w0) rfl ⟨(ax_at (i := 376) (by decide +kernel)), (ax_at (i := 109) (by decide +kernel)), by decide, by decide, by decide +kernel⟩ (ax_at (i := 374) (by decide +kernel)) (ax_at (i := 375) (by decide +kernel)) rfl (Nat.le_of_ble_eq_true rfl) (And.intro (Nat.le_of_ble_eq_true rfl) (Nat.le_of_ble_eq_true rfl)) (And.intro (Nat.le_of_ble_eq_true rfl) (Nat.le_of_ble_eq_true rfl)) (show decode prog_2_method_1_code 21 = .ok (.invokespecial 21, 3) from by decide +kernel) (fun u1 => ?_)
  refine k_put E (a := 0) (k := 1) (by decide) (by decide) (ax_at (i := 400) (by decide +kernel)) hin rfl rfl rfl (Nat.le_of_ble_eq_true rfl) (show decode prog_2_method_1_code 24 = .ok (.putfield 24, 3) from by decide +kernel) ?_
  refine k_al E 0 h0 (show decode prog_2_method_1_code 27 = .ok (.aload_n 0, 1) from by decide +kernel) rfl (lv_at hl 0 rfl) ?_
  refine k_new E (a := 1) (by decide) (ax_at (i := 385) (by decide +kernel)) (ax_at (i := 386) (by decide +kernel)) (ax_at (i := 110) (by decide +kernel)) (Nat.le_of_ble_eq_true rfl) (Nat.le_of_ble_eq_true rfl) (show decode prog_2_method_1_code 28 = .ok (.new 28, 3) from by decide +kernel) (fun q2 => ?_)
  refine k_dup E (show decode prog_2_method_1_code 31 = .ok (.dup, 1) from by decide +kernel) rfl ?_
  refine k_al E 1 p0 (show decode prog_2_method_1_code 32 = .ok (.aload_n 1, 1) from by decide +kernel) rfl (lv_at hl 1 rfl) ?_
  refine k_al E 2 w0 (show decode prog_2_method_1_code 33 = .ok (.aload_n 2, 1) from by decide +kernel) rfl (lv_at hl 2 rfl) ?_
  refine k_call (n := 2) [_] _ E hml hl.1 (kc_clock l D ar p0 w0) rfl ⟨(ax_at (i := 389) (by decide +kernel)), (ax_at (i := 110) (by decide +kernel)), by decide, by decide, by decide +kernel⟩ (ax_at (i := 387) (by decide +kernel)) (ax_at (i := 388) (by decide +kernel)) rfl (Nat.le_of_ble_eq_true rfl) (And.intro (Nat.le_of_ble_eq_true rfl) (Nat.le_of_ble_eq_true rfl)) (And.intro (Nat.le_of_ble_eq_true rfl) (Nat.le_of_ble_eq_true rfl)) (show decode prog_2_method_1_code 34 = .ok (.invokespecial 30, 3) from by decide +kernel) (fun u2 => ?_)
  refine k_put E (a := 0) (k := 2) (by decide) (by decide) (ax_at (i := 402) (by decide +kernel)) hin rfl rfl rfl (Nat.le_of_ble_eq_true rfl) (show decode prog_2_method_1_code 37 = .ok (.putfield 31, 3) from by decide +kernel) ?_
  exact k_end (fun z => [q1, q2].getD z 0) E hr hlk (Nat.le_of_ble_eq_true rfl) (Nat.le_of_ble_eq_true rfl) (.of_eq rfl) (show decode prog_2_method_1_code 40 = .ok (.return_, 1) from by decide +kernel)
def kl_past (ar : Nat → ClassId) (p0 : Nat) (h : Nat) (u : (Nat → Nat) × (Nat → Nat → Nat)) : va_W := [(h, .inr (4, [.ref (u.1 0), .int 0, .int 0])), (u.1 0, .inl (ar 2, kq 11 (fun x => some (u.1 (1 + x)))))] ++ (kl_world ar p0 (u.1 11) (u.2 10) ++ (kl_world ar p0 (u.1 10) (u.2 9) ++ (kl_world ar p0 (u.1 9) (u.2 8) ++ (kl_world ar p0 (u.1 8) (u.2 7) ++ (kl_world ar p0 (u.1 7) (u.2 6) ++ (kl_world ar p0 (u.1 6) (u.2 5) ++ (kl_world ar p0 (u.1 5) (u.2 4) ++ (kl_world ar p0 (u.1 4) (u.2 3) ++ (kl_world ar p0 (u.1 3) (u.2 2) ++ (kl_world ar p0 (u.1 2) (u.2 1) ++ (kl_world ar p0 (u.1 1) (u.2 0) ++ [])))))))))))
set_option maxHeartbeats 4000000 in
set_option maxRecDepth 100000 in
theorem kc_past (l : Launch) (D : va_G) (ar : Nat → ClassId) (p0 : Nat) : kC l D ar ⟨"AdventureWorld$Past", "<init>", "(LAdventureWorld$Plan;)V"⟩ prog_5_method_1_code 3 2 33 100 1485 2 [.ref p0] (kl_past ar p0) := by
  refine k_met (by decide) rfl (Nat.le_of_ble_eq_true rfl) ?_
  intro p e s m args below meth c h0 E hin hlk hr hml ls hl
  have hl : lv_has ls 3 [(0, .ref h0), (1, .ref p0)] := hl
  refine k_al E 0 h0 (show decode prog_5_method_1_code 0 = .ok (.aload_n 0, 1) from by decide +kernel) rfl (lv_at hl 0 rfl) ?_
  refine k_obj E hml hl.1 (ax_at (i := 318) (by decide +kernel)) (show decode prog_5_method_1_code 1 = .ok (.invokespecial 3, 3) from by decide +kernel) (by decide) (by decide) ?_
  refine k_al E 0 h0 (show decode prog_5_method_1_code 4 = .ok (.aload_n 0, 1) from by decide +kernel) rfl (lv_at hl 0 rfl) ?_
  refine k_bi E 11 (show decode prog_5_method_1_code 5 = .ok (.bipush 11, 2) from by decide +kernel) (by decide) ?_
  refine k_newq (N := 11) E (ax_at (i := 319) (by decide +kernel)) (by decide) (by decide) (by decide) (Nat.le_of_ble_eq_true rfl) (Nat.le_of_ble_eq_true rfl) (show decode prog_5_method_1_code 7 = .ok (.anewarray 11, 3) from by decide +kernel) (fun qa => ?_)
  refine k_put E (a := 2) (k := 0) (by decide) (by decide) (ax_at (i := 322) (by decide +kernel)) hin rfl rfl rfl (Nat.le_of_ble_eq_true rfl) (show decode prog_5_method_1_code 10 = .ok (.putfield 13, 3) from by decide +kernel) ?_
  refine k_ic E 0 (show decode prog_5_method_1_code 13 = .ok (.iconst 0, 1) from by decide +kernel) (by decide) ?_
  refine k_is E 2 (show decode prog_5_method_1_code 14 = .ok (.istore_n 2, 1) from by decide +kernel) rfl hl (by decide) (fun ls hl => ?_)
  have hl : lv_has ls 3 [(2, .int 0), (0, .ref h0), (1, .ref p0)] := hl
  refine k_il E 2 0 (show decode prog_5_method_1_code 15 = .ok (.iload_n 2, 1) from by decide +kernel) rfl (lv_at hl 0 rfl) ?_
  refine k_bi E 11 (show decode prog_5_method_1_code 16 = .ok (.bipush 11, 2) from by decide +kernel) (by decide) ?_
  refine k_geF E 41 (show decode prog_5_method_1_code 18 = .ok (.if_icmp .ge 23, 3) from by decide +kernel) (by decide) (by decide) ?_
  refine k_al E 0 h0 (show decode prog_5_method_1_code 21 = .ok (.aload_n 0, 1) from by decide +kernel) rfl (lv_at hl 1 rfl) ?_
  refine k_get E (a := 2) (k := 0) (.ref qa) (by decide) (by decide) (ax_at (i := 322) (by decide +kernel)) rfl (show decode prog_5_method_1_code 22 = .ok (.getfield 13, 3) from by decide +kernel) ?_
  refine k_il E 2 0 (show decode prog_5_method_1_code 25 = .ok (.iload_n 2, 1) from by decide +kernel) rfl (lv_at hl 0 rfl) ?_
  refine k_new E (a := 7) (by decide) (ax_at (i := 319) (by decide +kernel)) (ax_at (i := 223) (by decide +kernel)) (ax_at (i := 104) (by decide +kernel)) (Nat.le_of_ble_eq_true rfl) (Nat.le_of_ble_eq_true rfl) (show decode prog_5_method_1_code 26 = .ok (.new 11, 3) from by decide +kernel) (fun w0 => ?_)
  refine k_dup E (show decode prog_5_method_1_code 29 = .ok (.dup, 1) from by decide +kernel) rfl ?_
  refine k_al E 1 p0 (show decode prog_5_method_1_code 30 = .ok (.aload_n 1, 1) from by decide +kernel) rfl (lv_at hl 2 rfl) ?_
  refine k_call (n := 1) [_, _] _ E hml hl.1 (kc_world l D ar p0) rfl ⟨(ax_at (i := 226) (by decide +kernel)), (ax_at (i := 104) (by decide +kernel)), by decide, by decide, by decide +kernel⟩ (ax_at (i := 321) (by decide +kernel)) (ax_at (i := 225) (by decide +kernel)) rfl (Nat.le_of_ble_eq_true rfl) (And.intro (Nat.le_of_ble_eq_true rfl) (Nat.le_of_ble_eq_true rfl)) (And.intro (Nat.le_of_ble_eq_true rfl) (Nat.le_of_ble_eq_true rfl)) (show decode prog_5_method_1_code 31 = .ok (.invokespecial 17, 3) from by decide +kernel) (fun u0 => ?_)
  refine k_aast E (ax_in_vp (by decide)) (show decode prog_5_method_1_code 34 = .ok (.aastore, 1) from by decide +kernel) ?_
  refine k_ii E 2 0 1 (show decode prog_5_method_1_code 35 = .ok (.iinc 2 1, 3) from by decide +kernel) hl rfl (by decide) (by decide) (fun ls hl => ?_)
  refine k_go E 15 (show decode prog_5_method_1_code 38 = .ok (.goto (-23), 3) from by decide +kernel) (by decide) ?_
  have hl : lv_has ls 3 [(2, .int 1), (0, .ref h0), (1, .ref p0)] := hl
  refine k_il E 2 1 (show decode prog_5_method_1_code 15 = .ok (.iload_n 2, 1) from by decide +kernel) rfl (lv_at hl 0 rfl) ?_
  refine k_bi E 11 (show decode prog_5_method_1_code 16 = .ok (.bipush 11, 2) from by decide +kernel) (by decide) ?_
  refine k_geF E 41 (show decode prog_5_method_1_code 18 = .ok (.if_icmp .ge 23, 3) from by decide +kernel) (by decide) (by decide) ?_
  refine k_al E 0 h0 (show decode prog_5_method_1_code 21 = .ok (.aload_n 0, 1) from by decide +kernel) rfl (lv_at hl 1 rfl) ?_
  refine k_get E (a := 2) (k := 0) (.ref qa) (by decide) (by decide) (ax_at (i := 322) (by decide +kernel)) rfl (show decode prog_5_method_1_code 22 = .ok (.getfield 13, 3) from by decide +kernel) ?_
  refine k_il E 2 1 (show decode prog_5_method_1_code 25 = .ok (.iload_n 2, 1) from by decide +kernel) rfl (lv_at hl 0 rfl) ?_
  refine k_new E (a := 7) (by decide) (ax_at (i := 319) (by decide +kernel)) (ax_at (i := 223) (by decide +kernel)) (ax_at (i := 104) (by decide +kernel)) (Nat.le_of_ble_eq_true rfl) (Nat.le_of_ble_eq_true rfl) (show decode prog_5_method_1_code 26 = .ok (.new 11, 3) from by decide +kernel) (fun w1 => ?_)
  refine k_dup E (show decode prog_5_method_1_code 29 = .ok (.dup, 1) from by decide +kernel) rfl ?_
  refine k_al E 1 p0 (show decode prog_5_method_1_code 30 = .ok (.aload_n 1, 1) from by decide +kernel) rfl (lv_at hl 2 rfl) ?_
  refine k_call (n := 1) [_, _] _ E hml hl.1 (kc_world l D ar p0) rfl ⟨(ax_at (i := 226) (by decide +kernel)), (ax_at (i := 104) (by decide +kernel)), by decide, by decide, by decide +kernel⟩ (ax_at (i := 321) (by decide +kernel)) (ax_at (i := 225) (by decide +kernel)) rfl (Nat.le_of_ble_eq_true rfl) (And.intro (Nat.le_of_ble_eq_true rfl) (Nat.le_of_ble_eq_true rfl)) (And.intro (Nat.le_of_ble_eq_true rfl) (Nat.le_of_ble_eq_true rfl)) (show decode prog_5_method_1_code 31 = .ok (.invokespecial 17, 3) from by decide +kernel) (fun u1 => ?_)
  refine k_aast E (ax_in_vp (by decide)) (show decode prog_5_method_1_code 34 = .ok (.aastore, 1) from by decide +kernel) ?_
  refine k_ii E 2 0 2 (show decode prog_5_method_1_code 35 = .ok (.iinc 2 1, 3) from by decide +kernel) hl rfl (by decide) (by decide) (fun ls hl => ?_)
  refine k_go E 15 (show decode prog_5_method_1_code 38 = .ok (.goto (-23), 3) from by decide +kernel) (by decide) ?_
  have hl : lv_has ls 3 [(2, .int 2), (0, .ref h0), (1, .ref p0)] := hl
  refine k_il E 2 2 (show decode prog_5_method_1_code 15 = .ok (.iload_n 2, 1) from by decide +kernel) rfl (lv_at hl 0 rfl) ?_
  refine k_bi E 11 (show decode prog_5_method_1_code 16 = .ok (.bipush 11, 2) from by decide +kernel) (by decide) ?_
  refine k_geF E 41 (show decode prog_5_method_1_code 18 = .ok (.if_icmp .ge 23, 3) from by decide +kernel) (by decide) (by decide) ?_
  refine k_al E 0 h0 (show decode prog_5_method_1_code 21 = .ok (.aload_n 0, 1) from by decide +kernel) rfl (lv_at hl 1 rfl) ?_
  refine k_get E (a := 2) (k := 0) (.ref qa) (by decide) (by decide) (ax_at (i := 322) (by decide +kernel)) rfl (show decode prog_5_method_1_code 22 = .ok (.getfield 13, 3) from by decide +kernel) ?_
  refine k_il E 2 2 (show decode prog_5_method_1_code 25 = .ok (.iload_n 2, 1) from by decide +kernel) rfl (lv_at hl 0 rfl) ?_
  refine k_new E (a := 7) (by decide) (ax_at (i := 319) (by decide +kernel)) (ax_at (i := 223) (by decide +kernel)) (ax_at (i := 104) (by decide +kernel)) (Nat.le_of_ble_eq_true rfl) (Nat.le_of_ble_eq_true rfl) (show decode prog_5_method_1_code 26 = .ok (.new 11, 3) from by decide +kernel) (fun w2 => ?_)
  refine k_dup E (show decode prog_5_method_1_code 29 = .ok (.dup, 1) from by decide +kernel) rfl ?_
  refine k_al E 1 p0 (show decode prog_5_method_1_code 30 = .ok (.aload_n 1, 1) from by decide +kernel) rfl (lv_at hl 2 rfl) ?_
  refine k_call (n := 1) [_, _] _ E hml hl.1 (kc_world l D ar p0) rfl ⟨(ax_at (i := 226) (by decide +kernel)), (ax_at (i := 104) (by decide +kernel)), by decide, by decide, by decide +kernel⟩ (ax_at (i := 321) (by decide +kernel)) (ax_at (i := 225) (by decide +kernel)) rfl (Nat.le_of_ble_eq_true rfl) (And.intro (Nat.le_of_ble_eq_true rfl) (Nat.le_of_ble_eq_true rfl)) (And.intro (Nat.le_of_ble_eq_true rfl) (Nat.le_of_ble_eq_true rfl)) (show decode prog_5_method_1_code 31 = .ok (.invokespecial 17, 3) from by decide +kernel) (fun u2 => ?_)
  refine k_aast E (ax_in_vp (by decide)) (show decode prog_5_method_1_code 34 = .ok (.aastore, 1) from by decide +kernel) ?_
  refine k_ii E 2 0 3 (show decode prog_5_method_1_code 35 = .ok (.iinc 2 1, 3) from by decide +kernel) hl rfl (by decide) (by decide) (fun ls hl => ?_)
  refine k_go E 15 (show decode prog_5_method_1_code 38 = .ok (.goto (-23), 3) from by decide +kernel) (by decide) ?_
  have hl : lv_has ls 3 [(2, .int 3), (0, .ref h0), (1, .ref p0)] := hl
  refine k_il E 2 3 (show decode prog_5_method_1_code 15 = .ok (.iload_n 2, 1) from by decide +kernel) rfl (lv_at hl 0 rfl) ?_
  refine k_bi E 11 (show decode prog_5_method_1_code 16 = .ok (.bipush 11, 2) from by decide +kernel) (by decide) ?_
  refine k_geF E 41 (show decode prog_5_method_1_code 18 = .ok (.if_icmp .ge 23, 3) from by decide +kernel) (by decide) (by decide) ?_
  refine k_al E 0 h0 (show decode prog_5_method_1_code 21 = .ok (.aload_n 0, 1) from by decide +kernel) rfl (lv_at hl 1 rfl) ?_
  refine k_get E (a := 2) (k := 0) (.ref qa) (by decide) (by decide) (ax_at (i := 322) (by decide +kernel)) rfl (show decode prog_5_method_1_code 22 = .ok (.getfield 13, 3) from by decide +kernel) ?_
  refine k_il E 2 3 (show decode prog_5_method_1_code 25 = .ok (.iload_n 2, 1) from by decide +kernel) rfl (lv_at hl 0 rfl) ?_
  refine k_new E (a := 7) (by decide) (ax_at (i := 319) (by decide +kernel)) (ax_at (i := 223) (by decide +kernel)) (ax_at (i := 104) (by decide +kernel)) (Nat.le_of_ble_eq_true rfl) (Nat.le_of_ble_eq_true rfl) (show decode prog_5_method_1_code 26 = .ok (.new 11, 3) from by decide +kernel) (fun w3 => ?_)
  refine k_dup E (show decode prog_5_method_1_code 29 = .ok (.dup, 1) from by decide +kernel) rfl ?_
  refine k_al E 1 p0 (show decode prog_5_method_1_code 30 = .ok (.aload_n 1, 1) from by decide +kernel) rfl (lv_at hl 2 rfl) ?_
  refine k_call (n := 1) [_, _] _ E hml hl.1 (kc_world l D ar p0) rfl ⟨(ax_at (i := 226) (by decide +kernel)), (ax_at (i := 104) (by decide +kernel)), by decide, by decide, by decide +kernel⟩ (ax_at (i := 321) (by decide +kernel)) (ax_at (i := 225) (by decide +kernel)) rfl (Nat.le_of_ble_eq_true rfl) (And.intro (Nat.le_of_ble_eq_true rfl) (Nat.le_of_ble_eq_true rfl)) (And.intro (Nat.le_of_ble_eq_true rfl) (Nat.le_of_ble_eq_true rfl)) (show decode prog_5_method_1_code 31 = .ok (.invokespecial 17, 3) from by decide +kernel) (fun u3 => ?_)
  refine k_aast E (ax_in_vp (by decide)) (show decode prog_5_method_1_code 34 = .ok (.aastore, 1) from by decide +kernel) ?_
  refine k_ii E 2 0 4 (show decode prog_5_method_1_code 35 = .ok (.iinc 2 1, 3) from by decide +kernel) hl rfl (by decide) (by decide) (fun ls hl => ?_)
  refine k_go E 15 (show decode prog_5_method_1_code 38 = .ok (.goto (-23), 3) from by decide +kernel) (by decide) ?_
  have hl : lv_has ls 3 [(2, .int 4), (0, .ref h0), (1, .ref p0)] := hl
  refine k_il E 2 4 (show decode prog_5_method_1_code 15 = .ok (.iload_n 2, 1) from by decide +kernel) rfl (lv_at hl 0 rfl) ?_
  refine k_bi E 11 (show decode prog_5_method_1_code 16 = .ok (.bipush 11, 2) from by decide +kernel) (by decide) ?_
  refine k_geF E 41 (show decode prog_5_method_1_code 18 = .ok (.if_icmp .ge 23, 3) from by decide +kernel) (by decide) (by decide) ?_
  refine k_al E 0 h0 (show decode prog_5_method_1_code 21 = .ok (.aload_n 0, 1) from by decide +kernel) rfl (lv_at hl 1 rfl) ?_
  refine k_get E (a := 2) (k := 0) (.ref qa) (by decide) (by decide) (ax_at (i := 322) (by decide +kernel)) rfl (show decode prog_5_method_1_code 22 = .ok (.getfield 13, 3) from by decide +kernel) ?_
  refine k_il E 2 4 (show decode prog_5_method_1_code 25 = .ok (.iload_n 2, 1) from by decide +kernel) rfl (lv_at hl 0 rfl) ?_
  refine k_new E (a := 7) (by decide) (ax_at (i := 319) (by decide +kernel)) (ax_at (i := 223) (by decide +kernel)) (ax_at (i := 104) (by decide +kernel)) (Nat.le_of_ble_eq_true rfl) (Nat.le_of_ble_eq_true rfl) (show decode prog_5_method_1_code 26 = .ok (.new 11, 3) from by decide +kernel) (fun w4 => ?_)
  refine k_dup E (show decode prog_5_method_1_code 29 = .ok (.dup, 1) from by decide +kernel) rfl ?_
  refine k_al E 1 p0 (show decode prog_5_method_1_code 30 = .ok (.aload_n 1, 1) from by decide +kernel) rfl (lv_at hl 2 rfl) ?_
  refine k_call (n := 1) [_, _] _ E hml hl.1 (kc_world l D ar p0) rfl ⟨(ax_at (i := 226) (by decide +kernel)), (ax_at (i := 104) (by decide +kernel)), by decide, by decide, by decide +kernel⟩ (ax_at (i := 321) (by decide +kernel)) (ax_at (i := 225) (by decide +kernel)) rfl (Nat.le_of_ble_eq_true rfl) (And.intro (Nat.le_of_ble_eq_true rfl) (Nat.le_of_ble_eq_true rfl)) (And.intro (Nat.le_of_ble_eq_true rfl) (Nat.le_of_ble_eq_true rfl)) (show decode prog_5_method_1_code 31 = .ok (.invokespecial 17, 3) from by decide +kernel) (fun u4 => ?_)
  refine k_aast E (ax_in_vp (by decide)) (show decode prog_5_method_1_code 34 = .ok (.aastore, 1) from by decide +kernel) ?_
  refine k_ii E 2 0 5 (show decode prog_5_method_1_code 35 = .ok (.iinc 2 1, 3) from by decide +kernel) hl rfl (by decide) (by decide) (fun ls hl => ?_)
  refine k_go E 15 (show decode prog_5_method_1_code 38 = .ok (.goto (-23), 3) from by decide +kernel) (by decide) ?_
  have hl : lv_has ls 3 [(2, .int 5), (0, .ref h0), (1, .ref p0)] := hl
  refine k_il E 2 5 (show decode prog_5_method_1_code 15 = .ok (.iload_n 2, 1) from by decide +kernel) rfl (lv_at hl 0 rfl) ?_
  refine k_bi E 11 (show decode prog_5_method_1_code 16 = .ok (.bipush 11, 2) from by decide +kernel) (by decide) ?_
  refine k_geF E 41 (show decode prog_5_method_1_code 18 = .ok (.if_icmp .ge 23, 3) from by decide +kernel) (by decide) (by decide) ?_
  refine k_al E 0 h0 (show decode prog_5_method_1_code 21 = .ok (.aload_n 0, 1) from by decide +kernel) rfl (lv_at hl 1 rfl) ?_
  refine k_get E (a := 2) (k := 0) (.ref qa) (by decide) (by decide) (ax_at (i := 322) (by decide +kernel)) rfl (show decode prog_5_method_1_code 22 = .ok (.getfield 13, 3) from by decide +kernel) ?_
  refine k_il E 2 5 (show decode prog_5_method_1_code 25 = .ok (.iload_n 2, 1) from by decide +kernel) rfl (lv_at hl 0 rfl) ?_
  refine k_new E (a := 7) (by decide) (ax_at (i := 319) (by decide +kernel)) (ax_at (i := 223) (by decide +kernel)) (ax_at (i := 104) (by decide +kernel)) (Nat.le_of_ble_eq_true rfl) (Nat.le_of_ble_eq_true rfl) (show decode prog_5_method_1_code 26 = .ok (.new 11, 3) from by decide +kernel) (fun w5 => ?_)
  refine k_dup E (show decode prog_5_method_1_code 29 = .ok (.dup, 1) from by decide +kernel) rfl ?_
  refine k_al E 1 p0 (show decode prog_5_method_1_code 30 = .ok (.aload_n 1, 1) from by decide +kernel) rfl (lv_at hl 2 rfl) ?_
  refine k_call (n := 1) [_, _] _ E hml hl.1 (kc_world l D ar p0) rfl ⟨(ax_at (i := 226) (by decide +kernel)), (ax_at (i := 104) (by decide +kernel)), by decide, by decide, by decide +kernel⟩ (ax_at (i := 321) (by decide +kernel)) (ax_at (i := 225) (by decide +kernel)) rfl (Nat.le_of_ble_eq_true rfl) (And.intro (Nat.le_of_ble_eq_true rfl) (Nat.le_of_ble_eq_true rfl)) (And.intro (Nat.le_of_ble_eq_true rfl) (Nat.le_of_ble_eq_true rfl)) (show decode prog_5_method_1_code 31 = .ok (.invokespecial 17, 3) from by decide +kernel) (fun u5 => ?_)
  refine k_aast E (ax_in_vp (by decide)) (show decode prog_5_method_1_code 34 = .ok (.aastore, 1) from by decide +kernel) ?_
  refine k_ii E 2 0 6 (show decode prog_5_method_1_code 35 = .ok (.iinc 2 1, 3) from by decide +kernel) hl rfl (by decide) (by decide) (fun ls hl => ?_)
  refine k_go E 15 (show decode prog_5_method_1_code 38 = .ok (.goto (-23), 3) from by decide +kernel) (by decide) ?_
  have hl : lv_has ls 3 [(2, .int 6), (0, .ref h0), (1, .ref p0)] := hl
  refine k_il E 2 6 (show decode prog_5_method_1_code 15 = .ok (.iload_n 2, 1) from by decide +kernel) rfl (lv_at hl 0 rfl) ?_
  refine k_bi E 11 (show decode prog_5_method_1_code 16 = .ok (.bipush 11, 2) from by decide +kernel) (by decide) ?_
  refine k_geF E 41 (show decode prog_5_method_1_code 18 = .ok (.if_icmp .ge 23, 3) from by decide +kernel) (by decide) (by decide) ?_
  refine k_al E 0 h0 (show decode prog_5_method_1_code 21 = .ok (.aload_n 0, 1) from by decide +kernel) rfl (lv_at hl 1 rfl) ?_
  refine k_get E (a := 2) (k := 0) (.ref qa) (by decide) (by decide) (ax_at (i := 322) (by decide +kernel)) rfl (show decode prog_5_method_1_code 22 = .ok (.getfield 13, 3) from by decide +kernel) ?_
  refine k_il E 2 6 (show decode prog_5_method_1_code 25 = .ok (.iload_n 2, 1) from by decide +kernel) rfl (lv_at hl 0 rfl) ?_
  refine k_new E (a := 7) (by decide) (ax_at (i := 319) (by decide +kernel)) (ax_at (i := 223) (by decide +kernel)) (ax_at (i := 104) (by decide +kernel)) (Nat.le_of_ble_eq_true rfl) (Nat.le_of_ble_eq_true rfl) (show decode prog_5_method_1_code 26 = .ok (.new 11, 3) from by decide +kernel) (fun w6 => ?_)
  refine k_dup E (show decode prog_5_method_1_code 29 = .ok (.dup, 1) from by decide +kernel) rfl ?_
  refine k_al E 1 p0 (show decode prog_5_method_1_code 30 = .ok (.aload_n 1, 1) from by decide +kernel) rfl (lv_at hl 2 rfl) ?_
  refine k_call (n := 1) [_, _] _ E hml hl.1 (kc_world l D ar p0) rfl ⟨(ax_at (i := 226) (by decide +kernel)), (ax_at (i := 104) (by decide +kernel)), by decide, by decide, by decide +kernel⟩ (ax_at (i := 321) (by decide +kernel)) (ax_at (i := 225) (by decide +kernel)) rfl (Nat.le_of_ble_eq_true rfl) (And.intro (Nat.le_of_ble_eq_true rfl) (Nat.le_of_ble_eq_true rfl)) (And.intro (Nat.le_of_ble_eq_true rfl) (Nat.le_of_ble_eq_true rfl)) (show decode prog_5_method_1_code 31 = .ok (.invokespecial 17, 3) from by decide +kernel) (fun u6 => ?_)
  refine k_aast E (ax_in_vp (by decide)) (show decode prog_5_method_1_code 34 = .ok (.aastore, 1) from by decide +kernel) ?_
  refine k_ii E 2 0 7 (show decode prog_5_method_1_code 35 = .ok (.iinc 2 1, 3) from by decide +kernel) hl rfl (by decide) (by decide) (fun ls hl => ?_)
  refine k_go E 15 (show decode prog_5_method_1_code 38 = .ok (.goto (-23), 3) from by decide +kernel) (by decide) ?_
  have hl : lv_has ls 3 [(2, .int 7), (0, .ref h0), (1, .ref p0)] := hl
  refine k_il E 2 7 (show decode prog_5_method_1_code 15 = .ok (.iload_n 2, 1) from by decide +kernel) rfl (lv_at hl 0 rfl) ?_
  refine k_bi E 11 (show decode prog_5_method_1_code 16 = .ok (.bipush 11, 2) from by decide +kernel) (by decide) ?_
  refine k_geF E 41 (show decode prog_5_method_1_code 18 = .ok (.if_icmp .ge 23, 3) from by decide +kernel) (by decide) (by decide) ?_
  refine k_al E 0 h0 (show decode prog_5_method_1_code 21 = .ok (.aload_n 0, 1) from by decide +kernel) rfl (lv_at hl 1 rfl) ?_
  refine k_get E (a := 2) (k := 0) (.ref qa) (by decide) (by decide) (ax_at (i := 322) (by decide +kernel)) rfl (show decode prog_5_method_1_code 22 = .ok (.getfield 13, 3) from by decide +kernel) ?_
  refine k_il E 2 7 (show decode prog_5_method_1_code 25 = .ok (.iload_n 2, 1) from by decide +kernel) rfl (lv_at hl 0 rfl) ?_
  refine k_new E (a := 7) (by decide) (ax_at (i := 319) (by decide +kernel)) (ax_at (i := 223) (by decide +kernel)) (ax_at (i := 104) (by decide +kernel)) (Nat.le_of_ble_eq_true rfl) (Nat.le_of_ble_eq_true rfl) (show decode prog_5_method_1_code 26 = .ok (.new 11, 3) from by decide +kernel) (fun w7 => ?_)
  refine k_dup E (show decode prog_5_method_1_code 29 = .ok (.dup, 1) from by decide +kernel) rfl ?_
  refine k_al E 1 p0 (show decode prog_5_method_1_code 30 = .ok (.aload_n 1, 1) from by decide +kernel) rfl (lv_at hl 2 rfl) ?_
  refine k_call (n := 1) [_, _] _ E hml hl.1 (kc_world l D ar p0) rfl ⟨(ax_at (i := 226) (by decide +kernel)), (ax_at (i := 104) (by decide +kernel)), by decide, by decide, by decide +kernel⟩ (ax_at (i := 321) (by decide +kernel)) (ax_at (i := 225) (by decide +kernel)) rfl (Nat.le_of_ble_eq_true rfl) (And.intro (Nat.le_of_ble_eq_true rfl) (Nat.le_of_ble_eq_true rfl)) (And.intro (Nat.le_of_ble_eq_true rfl) (Nat.le_of_ble_eq_true rfl)) (show decode prog_5_method_1_code 31 = .ok (.invokespecial 17, 3) from by decide +kernel) (fun u7 => ?_)
  refine k_aast E (ax_in_vp (by decide)) (show decode prog_5_method_1_code 34 = .ok (.aastore, 1) from by decide +kernel) ?_
  refine k_ii E 2 0 8 (show decode prog_5_method_1_code 35 = .ok (.iinc 2 1, 3) from by decide +kernel) hl rfl (by decide) (by decide) (fun ls hl => ?_)
  refine k_go E 15 (show decode prog_5_method_1_code 38 = .ok (.goto (-23), 3) from by decide +kernel) (by decide) ?_
  have hl : lv_has ls 3 [(2, .int 8), (0, .ref h0), (1, .ref p0)] := hl
  refine k_il E 2 8 (show decode prog_5_method_1_code 15 = .ok (.iload_n 2, 1) from by decide +kernel) rfl (lv_at hl 0 rfl) ?_
  refine k_bi E 11 (show decode prog_5_method_1_code 16 = .ok (.bipush 11, 2) from by decide +kernel) (by decide) ?_
  refine k_geF E 41 (show decode prog_5_method_1_code 18 = .ok (.if_icmp .ge 23, 3) from by decide +kernel) (by decide) (by decide) ?_
  refine k_al E 0 h0 (show decode prog_5_method_1_code 21 = .ok (.aload_n 0, 1) from by decide +kernel) rfl (lv_at hl 1 rfl) ?_
  refine k_get E (a := 2) (k := 0) (.ref qa) (by decide) (by decide) (ax_at (i := 322) (by decide +kernel)) rfl (show decode prog_5_method_1_code 22 = .ok (.getfield 13, 3) from by decide +kernel) ?_
  refine k_il E 2 8 (show decode prog_5_method_1_code 25 = .ok (.iload_n 2, 1) from by decide +kernel) rfl (lv_at hl 0 rfl) ?_
  refine k_new E (a := 7) (by decide) (ax_at (i := 319) (by decide +kernel)) (ax_at (i := 223) (by decide +kernel)) (ax_at (i := 104) (by decide +kernel)) (Nat.le_of_ble_eq_true rfl) (Nat.le_of_ble_eq_true rfl) (show decode prog_5_method_1_code 26 = .ok (.new 11, 3) from by decide +kernel) (fun w8 => ?_)
  refine k_dup E (show decode prog_5_method_1_code 29 = .ok (.dup, 1) from by decide +kernel) rfl ?_
  refine k_al E 1 p0 (show decode prog_5_method_1_code 30 = .ok (.aload_n 1, 1) from by decide +kernel) rfl (lv_at hl 2 rfl) ?_
  refine k_call (n := 1) [_, _] _ E hml hl.1 (kc_world l D ar p0) rfl ⟨(ax_at (i := 226) (by decide +kernel)), (ax_at (i := 104) (by decide +kernel)), by decide, by decide, by decide +kernel⟩ (ax_at (i := 321) (by decide +kernel)) (ax_at (i := 225) (by decide +kernel)) rfl (Nat.le_of_ble_eq_true rfl) (And.intro (Nat.le_of_ble_eq_true rfl) (Nat.le_of_ble_eq_true rfl)) (And.intro (Nat.le_of_ble_eq_true rfl) (Nat.le_of_ble_eq_true rfl)) (show decode prog_5_method_1_code 31 = .ok (.invokespecial 17, 3) from by decide +kernel) (fun u8 => ?_)
  refine k_aast E (ax_in_vp (by decide)) (show decode prog_5_method_1_code 34 = .ok (.aastore, 1) from by decide +kernel) ?_
  refine k_ii E 2 0 9 (show decode prog_5_method_1_code 35 = .ok (.iinc 2 1, 3) from by decide +kernel) hl rfl (by decide) (by decide) (fun ls hl => ?_)
  refine k_go E 15 (show decode prog_5_method_1_code 38 = .ok (.goto (-23), 3) from by decide +kernel) (by decide) ?_
  have hl : lv_has ls 3 [(2, .int 9), (0, .ref h0), (1, .ref p0)] := hl
  refine k_il E 2 9 (show decode prog_5_method_1_code 15 = .ok (.iload_n 2, 1) from by decide +kernel) rfl (lv_at hl 0 rfl) ?_
  refine k_bi E 11 (show decode prog_5_method_1_code 16 = .ok (.bipush 11, 2) from by decide +kernel) (by decide) ?_
  refine k_geF E 41 (show decode prog_5_method_1_code 18 = .ok (.if_icmp .ge 23, 3) from by decide +kernel) (by decide) (by decide) ?_
  refine k_al E 0 h0 (show decode prog_5_method_1_code 21 = .ok (.aload_n 0, 1) from by decide +kernel) rfl (lv_at hl 1 rfl) ?_
  refine k_get E (a := 2) (k := 0) (.ref qa) (by decide) (by decide) (ax_at (i := 322) (by decide +kernel)) rfl (show decode prog_5_method_1_code 22 = .ok (.getfield 13, 3) from by decide +kernel) ?_
  refine k_il E 2 9 (show decode prog_5_method_1_code 25 = .ok (.iload_n 2, 1) from by decide +kernel) rfl (lv_at hl 0 rfl) ?_
  refine k_new E (a := 7) (by decide) (ax_at (i := 319) (by decide +kernel)) (ax_at (i := 223) (by decide +kernel)) (ax_at (i := 104) (by decide +kernel)) (Nat.le_of_ble_eq_true rfl) (Nat.le_of_ble_eq_true rfl) (show decode prog_5_method_1_code 26 = .ok (.new 11, 3) from by decide +kernel) (fun w9 => ?_)
  refine k_dup E (show decode prog_5_method_1_code 29 = .ok (.dup, 1) from by decide +kernel) rfl ?_
  refine k_al E 1 p0 (show decode prog_5_method_1_code 30 = .ok (.aload_n 1, 1) from by decide +kernel) rfl (lv_at hl 2 rfl) ?_
  refine k_call (n := 1) [_, _] _ E hml hl.1 (kc_world l D ar p0) rfl ⟨(ax_at (i := 226) (by decide +kernel)), (ax_at (i := 104) (by decide +kernel)), by decide, by decide, by decide +kernel⟩ (ax_at (i := 321) (by decide +kernel)) (ax_at (i := 225) (by decide +kernel)) rfl (Nat.le_of_ble_eq_true rfl) (And.intro (Nat.le_of_ble_eq_true rfl) (Nat.le_of_ble_eq_true rfl)) (And.intro (Nat.le_of_ble_eq_true rfl) (Nat.le_of_ble_eq_true rfl)) (show decode prog_5_method_1_code 31 = .ok (.invokespecial 17, 3) from by decide +kernel) (fun u9 => ?_)
  refine k_aast E (ax_in_vp (by decide)) (show decode prog_5_method_1_code 34 = .ok (.aastore, 1) from by decide +kernel) ?_
  refine k_ii E 2 0 10 (show decode prog_5_method_1_code 35 = .ok (.iinc 2 1, 3) from by decide +kernel) hl rfl (by decide) (by decide) (fun ls hl => ?_)
  refine k_go E 15 (show decode prog_5_method_1_code 38 = .ok (.goto (-23), 3) from by decide +kernel) (by decide) ?_
  have hl : lv_has ls 3 [(2, .int 10), (0, .ref h0), (1, .ref p0)] := hl
  refine k_il E 2 10 (show decode prog_5_method_1_code 15 = .ok (.iload_n 2, 1) from by decide +kernel) rfl (lv_at hl 0 rfl) ?_
  refine k_bi E 11 (show decode prog_5_method_1_code 16 = .ok (.bipush 11, 2) from by decide +kernel) (by decide) ?_
  refine k_geF E 41 (show decode prog_5_method_1_code 18 = .ok (.if_icmp .ge 23, 3) from by decide +kernel) (by decide) (by decide) ?_
  refine k_al E 0 h0 (show decode prog_5_method_1_code 21 = .ok (.aload_n 0, 1) from by decide +kernel) rfl (lv_at hl 1 rfl) ?_
  refine k_get E (a := 2) (k := 0) (.ref qa) (by decide) (by decide) (ax_at (i := 322) (by decide +kernel)) rfl (show decode prog_5_method_1_code 22 = .ok (.getfield 13, 3) from by decide +kernel) ?_
  refine k_il E 2 10 (show decode prog_5_method_1_code 25 = .ok (.iload_n 2, 1) from by decide +kernel) rfl (lv_at hl 0 rfl) ?_
  refine k_new E (a := 7) (by decide) (ax_at (i := 319) (by decide +kernel)) (ax_at (i := 223) (by decide +kernel)) (ax_at (i := 104) (by decide +kernel)) (Nat.le_of_ble_eq_true rfl) (Nat.le_of_ble_eq_true rfl) (show decode prog_5_method_1_code 26 = .ok (.new 11, 3) from by decide +kernel) (fun w10 => ?_)
  refine k_dup E (show decode prog_5_method_1_code 29 = .ok (.dup, 1) from by decide +kernel) rfl ?_
  refine k_al E 1 p0 (show decode prog_5_method_1_code 30 = .ok (.aload_n 1, 1) from by decide +kernel) rfl (lv_at hl 2 rfl) ?_
  refine k_call (n := 1) [_, _] _ E hml hl.1 (kc_world l D ar p0) rfl ⟨(ax_at (i := 226) (by decide +kernel)), (ax_at (i := 104) (by decide +kernel)), by decide, by decide, by decide +kernel⟩ (ax_at (i := 321) (by decide +kernel)) (ax_at (i := 225) (by decide +kernel)) rfl (Nat.le_of_ble_eq_true rfl) (And.intro (Nat.le_of_ble_eq_true rfl) (Nat.le_of_ble_eq_true rfl)) (And.intro (Nat.le_of_ble_eq_true rfl) (Nat.le_of_ble_eq_true rfl)) (show decode prog_5_method_1_code 31 = .ok (.invokespecial 17, 3) from by decide +kernel) (fun u10 => ?_)
  refine k_aast E (ax_in_vp (by decide)) (show decode prog_5_method_1_code 34 = .ok (.aastore, 1) from by decide +kernel) ?_
  refine k_ii E 2 0 11 (show decode prog_5_method_1_code 35 = .ok (.iinc 2 1, 3) from by decide +kernel) hl rfl (by decide) (by decide) (fun ls hl => ?_)
  refine k_go E 15 (show decode prog_5_method_1_code 38 = .ok (.goto (-23), 3) from by decide +kernel) (by decide) ?_
  have hl : lv_has ls 3 [(2, .int 11), (0, .ref h0), (1, .ref p0)] := hl
  refine k_il E 2 11 (show decode prog_5_method_1_code 15 = .ok (.iload_n 2, 1) from by decide +kernel) rfl (lv_at hl 0 rfl) ?_
  refine k_bi E 11 (show decode prog_5_method_1_code 16 = .ok (.bipush 11, 2) from by decide +kernel) (by decide) ?_
  refine k_geT E 41 (show decode prog_5_method_1_code 18 = .ok (.if_icmp .ge 23, 3) from by decide +kernel) (by decide) (by decide) ?_
  refine k_arrx (f' := fun x => some ((fun z => (qa :: [w0, w1, w2, w3, w4, w5, w6, w7, w8, w9, w10]).getD z 0) (1 + x))) (fun j hj => ?_) ?_
  · rcases (show j = 0 ∨ j = 1 ∨ j = 2 ∨ j = 3 ∨ j = 4 ∨ j = 5 ∨ j = 6 ∨ j = 7 ∨ j = 8 ∨ j = 9 ∨ j = 10 by omega) with rfl | rfl | rfl | rfl | rfl | rfl | rfl | rfl | rfl | rfl | rfl <;> rfl
  exact k_end (fun z => (qa :: [w0, w1, w2, w3, w4, w5, w6, w7, w8, w9, w10]).getD z 0, fun z => [u0, u1, u2, u3, u4, u5, u6, u7, u8, u9, u10].getD z (fun _ => 0)) E hr hlk (Nat.le_of_ble_eq_true rfl) (Nat.le_of_ble_eq_true rfl) (.of_eq rfl) (show decode prog_5_method_1_code 41 = .ok (.return_, 1) from by decide +kernel)
def kl_adv (ar : Nat → ClassId) (h : Nat) (u : (Nat → Nat) × ((Nat → Nat → Nat) × ((Nat → Nat) × (Nat → Nat → Nat)))) : va_W := match u with
  | (v, g, P) => [(h, .inr (10, [.ref (v 2), .ref (v 3), .int 0, .ref (v 4), .ref (v 5), .ref (v 6), .ref (v 7), .int (-1), .int 0, .int (-1), .int (-1)]))] ++ (kl_actor ar (v 0) (v 25) (v 7) (g 7) ++ (kl_world ar (v 0) (v 25) (g 25) ++ (kl_actor ar (v 0) (v 10) (v 6) (g 6) ++ (kl_reader ar  (v 5) (g 5) ++ (kl_past ar (v 0) (v 4) P ++ (kl_story ar (v 1) (v 12) (v 13) (v 3) (g 3) ++ (kl_world ar (v 1) (v 13) (g 13) ++ (kl_world ar (v 1) (v 12) (g 12) ++ (kl_story ar (v 0) (v 10) (v 11) (v 2) (g 2) ++ (kl_world ar (v 0) (v 11) (g 11) ++ (kl_plan ar  (v 1) (g 1) ++ (kl_world ar (v 0) (v 10) (g 10) ++ (kl_plan ar  (v 0) (g 0) ++ [])))))))))))))
set_option maxHeartbeats 4000000 in
set_option maxRecDepth 100000 in
theorem kc_adv (l : Launch) (D : va_G) (ar : Nat → ClassId)  : kC l D ar ⟨"AdventureWorld", "<init>", "()V"⟩ prog_1_method_1_code 4 3 57 185 3803 8 [] (kl_adv ar) := by
  refine k_met (by decide) rfl (Nat.le_of_ble_eq_true rfl) ?_
  intro p e s m args below meth c h0 E hin hlk hr hml ls hl
  have hl : lv_has ls 4 [(0, .ref h0)] := hl
  refine k_al E 0 h0 (show decode prog_1_method_1_code 0 = .ok (.aload_n 0, 1) from by decide +kernel) rfl (lv_at hl 0 rfl) ?_
  refine k_obj E hml hl.1 (ax_at (i := 136) (by decide +kernel)) (show decode prog_1_method_1_code 1 = .ok (.invokespecial 3, 3) from by decide +kernel) (by decide) (by decide) ?_
  refine k_al E 0 h0 (show decode prog_1_method_1_code 4 = .ok (.aload_n 0, 1) from by decide +kernel) rfl (lv_at hl 0 rfl) ?_
  refine k_ic E (-1) (show decode prog_1_method_1_code 5 = .ok (.iconst (-1), 1) from by decide +kernel) (by decide) ?_
  refine k_put E (a := 8) (k := 7) (by decide) (by decide) (ax_at (i := 429) (by decide +kernel)) hin rfl rfl rfl (Nat.le_of_ble_eq_true rfl) (show decode prog_1_method_1_code 6 = .ok (.putfield 9, 3) from by decide +kernel) ?_
  refine k_al E 0 h0 (show decode prog_1_method_1_code 9 = .ok (.aload_n 0, 1) from by decide +kernel) rfl (lv_at hl 0 rfl) ?_
  refine k_ic E (-1) (show decode prog_1_method_1_code 10 = .ok (.iconst (-1), 1) from by decide +kernel) (by decide) ?_
  refine k_put E (a := 8) (k := 9) (by decide) (by decide) (ax_at (i := 431) (by decide +kernel)) hin rfl rfl rfl (Nat.le_of_ble_eq_true rfl) (show decode prog_1_method_1_code 11 = .ok (.putfield 13, 3) from by decide +kernel) ?_
  refine k_al E 0 h0 (show decode prog_1_method_1_code 14 = .ok (.aload_n 0, 1) from by decide +kernel) rfl (lv_at hl 0 rfl) ?_
  refine k_ic E (-1) (show decode prog_1_method_1_code 15 = .ok (.iconst (-1), 1) from by decide +kernel) (by decide) ?_
  refine k_put E (a := 8) (k := 10) (by decide) (by decide) (ax_at (i := 432) (by decide +kernel)) hin rfl rfl rfl (Nat.le_of_ble_eq_true rfl) (show decode prog_1_method_1_code 16 = .ok (.putfield 16, 3) from by decide +kernel) ?_
  refine k_new E (a := 3) (by decide) (ax_at (i := 139) (by decide +kernel)) (ax_at (i := 140) (by decide +kernel)) (ax_at (i := 103) (by decide +kernel)) (Nat.le_of_ble_eq_true rfl) (Nat.le_of_ble_eq_true rfl) (show decode prog_1_method_1_code 19 = .ok (.new 19, 3) from by decide +kernel) (fun q1 => ?_)
  refine k_dup E (show decode prog_1_method_1_code 22 = .ok (.dup, 1) from by decide +kernel) rfl ?_
  refine k_callN (n := 0) [_] _ E hml hl.1 (kc_plan l D ar) rfl ⟨(ax_at (i := 143) (by decide +kernel)), (ax_at (i := 103) (by decide +kernel)), by decide, by decide, by decide +kernel⟩ E.2.2.2.2.2.2.2.1 (ax_at (i := 142) (by decide +kernel)) rfl (Nat.le_of_ble_eq_true rfl) (And.intro (Nat.le_of_ble_eq_true rfl) (Nat.le_of_ble_eq_true rfl)) (And.intro (Nat.le_of_ble_eq_true rfl) (Nat.le_of_ble_eq_true rfl)) (show decode prog_1_method_1_code 23 = .ok (.invokespecial 21, 3) from by decide +kernel) (fun u1 => ?_)
  refine k_as E 1 (show decode prog_1_method_1_code 26 = .ok (.astore_n 1, 1) from by decide +kernel) rfl hl (by decide) (fun ls hl => ?_)
  have hl : lv_has ls 4 [(1, .ref q1), (0, .ref h0)] := hl
  refine k_new E (a := 7) (by decide) (ax_at (i := 222) (by decide +kernel)) (ax_at (i := 223) (by decide +kernel)) (ax_at (i := 104) (by decide +kernel)) (Nat.le_of_ble_eq_true rfl) (Nat.le_of_ble_eq_true rfl) (show decode prog_1_method_1_code 27 = .ok (.new 22, 3) from by decide +kernel) (fun q2 => ?_)
  refine k_dup E (show decode prog_1_method_1_code 30 = .ok (.dup, 1) from by decide +kernel) rfl ?_
  refine k_al E 1 q1 (show decode prog_1_method_1_code 31 = .ok (.aload_n 1, 1) from by decide +kernel) rfl (lv_at hl 0 rfl) ?_
  refine k_call (n := 1) [_] _ E hml hl.1 (kc_world l D ar q1) rfl ⟨(ax_at (i := 226) (by decide +kernel)), (ax_at (i := 104) (by decide +kernel)), by decide, by decide, by decide +kernel⟩ (ax_at (i := 224) (by decide +kernel)) (ax_at (i := 225) (by decide +kernel)) rfl (Nat.le_of_ble_eq_true rfl) (And.intro (Nat.le_of_ble_eq_true rfl) (Nat.le_of_ble_eq_true rfl)) (And.intro (Nat.le_of_ble_eq_true rfl) (Nat.le_of_ble_eq_true rfl)) (show decode prog_1_method_1_code 32 = .ok (.invokespecial 24, 3) from by decide +kernel) (fun u2 => ?_)
  refine k_as E 2 (show decode prog_1_method_1_code 35 = .ok (.astore_n 2, 1) from by decide +kernel) rfl hl (by decide) (fun ls hl => ?_)
  have hl : lv_has ls 4 [(2, .ref q2), (1, .ref q1), (0, .ref h0)] := hl
  refine k_new E (a := 3) (by decide) (ax_at (i := 139) (by decide +kernel)) (ax_at (i := 140) (by decide +kernel)) (ax_at (i := 103) (by decide +kernel)) (Nat.le_of_ble_eq_true rfl) (Nat.le_of_ble_eq_true rfl) (show decode prog_1_method_1_code 36 = .ok (.new 19, 3) from by decide +kernel) (fun q3 => ?_)
  refine k_dup E (show decode prog_1_method_1_code 39 = .ok (.dup, 1) from by decide +kernel) rfl ?_
  refine k_callN (n := 0) [_] _ E hml hl.1 (kc_plan l D ar) rfl ⟨(ax_at (i := 143) (by decide +kernel)), (ax_at (i := 103) (by decide +kernel)), by decide, by decide, by decide +kernel⟩ E.2.2.2.2.2.2.2.1 (ax_at (i := 142) (by decide +kernel)) rfl (Nat.le_of_ble_eq_true rfl) (And.intro (Nat.le_of_ble_eq_true rfl) (Nat.le_of_ble_eq_true rfl)) (And.intro (Nat.le_of_ble_eq_true rfl) (Nat.le_of_ble_eq_true rfl)) (show decode prog_1_method_1_code 40 = .ok (.invokespecial 21, 3) from by decide +kernel) (fun u3 => ?_)
  refine k_as E 3 (show decode prog_1_method_1_code 43 = .ok (.astore_n 3, 1) from by decide +kernel) rfl hl (by decide) (fun ls hl => ?_)
  have hl : lv_has ls 4 [(3, .ref q3), (2, .ref q2), (1, .ref q1), (0, .ref h0)] := hl
  refine k_al E 0 h0 (show decode prog_1_method_1_code 44 = .ok (.aload_n 0, 1) from by decide +kernel) rfl (lv_at hl 3 rfl) ?_
  refine k_new E (a := 6) (by decide) (ax_at (i := 290) (by decide +kernel)) (ax_at (i := 291) (by decide +kernel)) (ax_at (i := 105) (by decide +kernel)) (Nat.le_of_ble_eq_true rfl) (Nat.le_of_ble_eq_true rfl) (show decode prog_1_method_1_code 45 = .ok (.new 27, 3) from by decide +kernel) (fun q4 => ?_)
  refine k_dup E (show decode prog_1_method_1_code 48 = .ok (.dup, 1) from by decide +kernel) rfl ?_
  refine k_al E 1 q1 (show decode prog_1_method_1_code 49 = .ok (.aload_n 1, 1) from by decide +kernel) rfl (lv_at hl 2 rfl) ?_
  refine k_al E 2 q2 (show decode prog_1_method_1_code 50 = .ok (.aload_n 2, 1) from by decide +kernel) rfl (lv_at hl 1 rfl) ?_
  refine k_new E (a := 7) (by decide) (ax_at (i := 222) (by decide +kernel)) (ax_at (i := 223) (by decide +kernel)) (ax_at (i := 104) (by decide +kernel)) (Nat.le_of_ble_eq_true rfl) (Nat.le_of_ble_eq_true rfl) (show decode prog_1_method_1_code 51 = .ok (.new 22, 3) from by decide +kernel) (fun q5 => ?_)
  refine k_dup E (show decode prog_1_method_1_code 54 = .ok (.dup, 1) from by decide +kernel) rfl ?_
  refine k_al E 1 q1 (show decode prog_1_method_1_code 55 = .ok (.aload_n 1, 1) from by decide +kernel) rfl (lv_at hl 2 rfl) ?_
  refine k_call (n := 1) [_, _] _ E hml hl.1 (kc_world l D ar q1) rfl ⟨(ax_at (i := 226) (by decide +kernel)), (ax_at (i := 104) (by decide +kernel)), by decide, by decide, by decide +kernel⟩ (ax_at (i := 224) (by decide +kernel)) (ax_at (i := 225) (by decide +kernel)) rfl (Nat.le_of_ble_eq_true rfl) (And.intro (Nat.le_of_ble_eq_true rfl) (Nat.le_of_ble_eq_true rfl)) (And.intro (Nat.le_of_ble_eq_true rfl) (Nat.le_of_ble_eq_true rfl)) (show decode prog_1_method_1_code 56 = .ok (.invokespecial 24, 3) from by decide +kernel) (fun u4 => ?_)
  refine k_call (n := 3) [_] _ E hml hl.1 (kc_story l D ar q1 q2 q5) rfl ⟨(ax_at (i := 294) (by decide +kernel)), (ax_at (i := 105) (by decide +kernel)), by decide, by decide, by decide +kernel⟩ (ax_at (i := 292) (by decide +kernel)) (ax_at (i := 293) (by decide +kernel)) rfl (Nat.le_of_ble_eq_true rfl) (And.intro (Nat.le_of_ble_eq_true rfl) (Nat.le_of_ble_eq_true rfl)) (And.intro (Nat.le_of_ble_eq_true rfl) (Nat.le_of_ble_eq_true rfl)) (show decode prog_1_method_1_code 59 = .ok (.invokespecial 29, 3) from by decide +kernel) (fun u5 => ?_)
  refine k_put E (a := 8) (k := 0) (by decide) (by decide) (ax_at (i := 422) (by decide +kernel)) hin rfl rfl rfl (Nat.le_of_ble_eq_true rfl) (show decode prog_1_method_1_code 62 = .ok (.putfield 32, 3) from by decide +kernel) ?_
  refine k_al E 0 h0 (show decode prog_1_method_1_code 65 = .ok (.aload_n 0, 1) from by decide +kernel) rfl (lv_at hl 3 rfl) ?_
  refine k_new E (a := 6) (by decide) (ax_at (i := 290) (by decide +kernel)) (ax_at (i := 291) (by decide +kernel)) (ax_at (i := 105) (by decide +kernel)) (Nat.le_of_ble_eq_true rfl) (Nat.le_of_ble_eq_true rfl) (show decode prog_1_method_1_code 66 = .ok (.new 27, 3) from by decide +kernel) (fun q6 => ?_)
  refine k_dup E (show decode prog_1_method_1_code 69 = .ok (.dup, 1) from by decide +kernel) rfl ?_
  refine k_al E 3 q3 (show decode prog_1_method_1_code 70 = .ok (.aload_n 3, 1) from by decide +kernel) rfl (lv_at hl 0 rfl) ?_
  refine k_new E (a := 7) (by decide) (ax_at (i := 222) (by decide +kernel)) (ax_at (i := 223) (by decide +kernel)) (ax_at (i := 104) (by decide +kernel)) (Nat.le_of_ble_eq_true rfl) (Nat.le_of_ble_eq_true rfl) (show decode prog_1_method_1_code 71 = .ok (.new 22, 3) from by decide +kernel) (fun q7 => ?_)
  refine k_dup E (show decode prog_1_method_1_code 74 = .ok (.dup, 1) from by decide +kernel) rfl ?_
  refine k_al E 3 q3 (show decode prog_1_method_1_code 75 = .ok (.aload_n 3, 1) from by decide +kernel) rfl (lv_at hl 0 rfl) ?_
  refine k_call (n := 1) [_, _] _ E hml hl.1 (kc_world l D ar q3) rfl ⟨(ax_at (i := 226) (by decide +kernel)), (ax_at (i := 104) (by decide +kernel)), by decide, by decide, by decide +kernel⟩ (ax_at (i := 224) (by decide +kernel)) (ax_at (i := 225) (by decide +kernel)) rfl (Nat.le_of_ble_eq_true rfl) (And.intro (Nat.le_of_ble_eq_true rfl) (Nat.le_of_ble_eq_true rfl)) (And.intro (Nat.le_of_ble_eq_true rfl) (Nat.le_of_ble_eq_true rfl)) (show decode prog_1_method_1_code 76 = .ok (.invokespecial 24, 3) from by decide +kernel) (fun u6 => ?_)
  refine k_new E (a := 7) (by decide) (ax_at (i := 222) (by decide +kernel)) (ax_at (i := 223) (by decide +kernel)) (ax_at (i := 104) (by decide +kernel)) (Nat.le_of_ble_eq_true rfl) (Nat.le_of_ble_eq_true rfl) (show decode prog_1_method_1_code 79 = .ok (.new 22, 3) from by decide +kernel) (fun q8 => ?_)
  refine k_dup E (show decode prog_1_method_1_code 82 = .ok (.dup, 1) from by decide +kernel) rfl ?_
  refine k_al E 3 q3 (show decode prog_1_method_1_code 83 = .ok (.aload_n 3, 1) from by decide +kernel) rfl (lv_at hl 0 rfl) ?_
  refine k_call (n := 1) [_, _] _ E hml hl.1 (kc_world l D ar q3) rfl ⟨(ax_at (i := 226) (by decide +kernel)), (ax_at (i := 104) (by decide +kernel)), by decide, by decide, by decide +kernel⟩ (ax_at (i := 224) (by decide +kernel)) (ax_at (i := 225) (by decide +kernel)) rfl (Nat.le_of_ble_eq_true rfl) (And.intro (Nat.le_of_ble_eq_true rfl) (Nat.le_of_ble_eq_true rfl)) (And.intro (Nat.le_of_ble_eq_true rfl) (Nat.le_of_ble_eq_true rfl)) (show decode prog_1_method_1_code 84 = .ok (.invokespecial 24, 3) from by decide +kernel) (fun u7 => ?_)
  refine k_call (n := 3) [_] _ E hml hl.1 (kc_story l D ar q3 q7 q8) rfl ⟨(ax_at (i := 294) (by decide +kernel)), (ax_at (i := 105) (by decide +kernel)), by decide, by decide, by decide +kernel⟩ (ax_at (i := 292) (by decide +kernel)) (ax_at (i := 293) (by decide +kernel)) rfl (Nat.le_of_ble_eq_true rfl) (And.intro (Nat.le_of_ble_eq_true rfl) (Nat.le_of_ble_eq_true rfl)) (And.intro (Nat.le_of_ble_eq_true rfl) (Nat.le_of_ble_eq_true rfl)) (show decode prog_1_method_1_code 87 = .ok (.invokespecial 29, 3) from by decide +kernel) (fun u8 => ?_)
  refine k_put E (a := 8) (k := 1) (by decide) (by decide) (ax_at (i := 423) (by decide +kernel)) hin rfl rfl rfl (Nat.le_of_ble_eq_true rfl) (show decode prog_1_method_1_code 90 = .ok (.putfield 36, 3) from by decide +kernel) ?_
  refine k_al E 0 h0 (show decode prog_1_method_1_code 93 = .ok (.aload_n 0, 1) from by decide +kernel) rfl (lv_at hl 3 rfl) ?_
  refine k_new E (a := 2) (by decide) (ax_at (i := 313) (by decide +kernel)) (ax_at (i := 314) (by decide +kernel)) (ax_at (i := 106) (by decide +kernel)) (Nat.le_of_ble_eq_true rfl) (Nat.le_of_ble_eq_true rfl) (show decode prog_1_method_1_code 94 = .ok (.new 39, 3) from by decide +kernel) (fun q9 => ?_)
  refine k_dup E (show decode prog_1_method_1_code 97 = .ok (.dup, 1) from by decide +kernel) rfl ?_
  refine k_al E 1 q1 (show decode prog_1_method_1_code 98 = .ok (.aload_n 1, 1) from by decide +kernel) rfl (lv_at hl 2 rfl) ?_
  refine k_call (n := 1) [_] _ E hml hl.1 (kc_past l D ar q1) rfl ⟨(ax_at (i := 317) (by decide +kernel)), (ax_at (i := 106) (by decide +kernel)), by decide, by decide, by decide +kernel⟩ (ax_at (i := 315) (by decide +kernel)) (ax_at (i := 316) (by decide +kernel)) rfl (Nat.le_of_ble_eq_true rfl) (And.intro (Nat.le_of_ble_eq_true rfl) (Nat.le_of_ble_eq_true rfl)) (And.intro (Nat.le_of_ble_eq_true rfl) (Nat.le_of_ble_eq_true rfl)) (show decode prog_1_method_1_code 99 = .ok (.invokespecial 41, 3) from by decide +kernel) (fun u9 => ?_)
  refine k_put E (a := 8) (k := 3) (by decide) (by decide) (ax_at (i := 425) (by decide +kernel)) hin rfl rfl rfl (Nat.le_of_ble_eq_true rfl) (show decode prog_1_method_1_code 102 = .ok (.putfield 42, 3) from by decide +kernel) ?_
  refine k_al E 0 h0 (show decode prog_1_method_1_code 105 = .ok (.aload_n 0, 1) from by decide +kernel) rfl (lv_at hl 3 rfl) ?_
  refine k_new E (a := 4) (by decide) (ax_at (i := 333) (by decide +kernel)) (ax_at (i := 334) (by decide +kernel)) (ax_at (i := 107) (by decide +kernel)) (Nat.le_of_ble_eq_true rfl) (Nat.le_of_ble_eq_true rfl) (show decode prog_1_method_1_code 106 = .ok (.new 46, 3) from by decide +kernel) (fun q10 => ?_)
  refine k_dup E (show decode prog_1_method_1_code 109 = .ok (.dup, 1) from by decide +kernel) rfl ?_
  refine k_callN (n := 0) [_] _ E hml hl.1 (kc_reader l D ar) rfl ⟨(ax_at (i := 337) (by decide +kernel)), (ax_at (i := 107) (by decide +kernel)), by decide, by decide, by decide +kernel⟩ E.2.2.2.2.2.2.2.2 (ax_at (i := 336) (by decide +kernel)) rfl (Nat.le_of_ble_eq_true rfl) (And.intro (Nat.le_of_ble_eq_true rfl) (Nat.le_of_ble_eq_true rfl)) (And.intro (Nat.le_of_ble_eq_true rfl) (Nat.le_of_ble_eq_true rfl)) (show decode prog_1_method_1_code 110 = .ok (.invokespecial 48, 3) from by decide +kernel) (fun u10 => ?_)
  refine k_put E (a := 8) (k := 4) (by decide) (by decide) (ax_at (i := 426) (by decide +kernel)) hin rfl rfl rfl (Nat.le_of_ble_eq_true rfl) (show decode prog_1_method_1_code 113 = .ok (.putfield 49, 3) from by decide +kernel) ?_
  refine k_al E 0 h0 (show decode prog_1_method_1_code 116 = .ok (.aload_n 0, 1) from by decide +kernel) rfl (lv_at hl 3 rfl) ?_
  refine k_new E (a := 0) (by decide) (ax_at (i := 366) (by decide +kernel)) (ax_at (i := 367) (by decide +kernel)) (ax_at (i := 108) (by decide +kernel)) (Nat.le_of_ble_eq_true rfl) (Nat.le_of_ble_eq_true rfl) (show decode prog_1_method_1_code 117 = .ok (.new 53, 3) from by decide +kernel) (fun q11 => ?_)
  refine k_dup E (show decode prog_1_method_1_code 120 = .ok (.dup, 1) from by decide +kernel) rfl ?_
  refine k_al E 1 q1 (show decode prog_1_method_1_code 121 = .ok (.aload_n 1, 1) from by decide +kernel) rfl (lv_at hl 2 rfl) ?_
  refine k_al E 2 q2 (show decode prog_1_method_1_code 122 = .ok (.aload_n 2, 1) from by decide +kernel) rfl (lv_at hl 1 rfl) ?_
  refine k_call (n := 2) [_] _ E hml hl.1 (kc_actor l D ar q1 q2) rfl ⟨(ax_at (i := 370) (by decide +kernel)), (ax_at (i := 108) (by decide +kernel)), by decide, by decide, by decide +kernel⟩ (ax_at (i := 368) (by decide +kernel)) (ax_at (i := 369) (by decide +kernel)) rfl (Nat.le_of_ble_eq_true rfl) (And.intro (Nat.le_of_ble_eq_true rfl) (Nat.le_of_ble_eq_true rfl)) (And.intro (Nat.le_of_ble_eq_true rfl) (Nat.le_of_ble_eq_true rfl)) (show decode prog_1_method_1_code 123 = .ok (.invokespecial 55, 3) from by decide +kernel) (fun u11 => ?_)
  refine k_put E (a := 8) (k := 5) (by decide) (by decide) (ax_at (i := 427) (by decide +kernel)) hin rfl rfl rfl (Nat.le_of_ble_eq_true rfl) (show decode prog_1_method_1_code 126 = .ok (.putfield 58, 3) from by decide +kernel) ?_
  refine k_al E 0 h0 (show decode prog_1_method_1_code 129 = .ok (.aload_n 0, 1) from by decide +kernel) rfl (lv_at hl 3 rfl) ?_
  refine k_new E (a := 0) (by decide) (ax_at (i := 366) (by decide +kernel)) (ax_at (i := 367) (by decide +kernel)) (ax_at (i := 108) (by decide +kernel)) (Nat.le_of_ble_eq_true rfl) (Nat.le_of_ble_eq_true rfl) (show decode prog_1_method_1_code 130 = .ok (.new 53, 3) from by decide +kernel) (fun q12 => ?_)
  refine k_dup E (show decode prog_1_method_1_code 133 = .ok (.dup, 1) from by decide +kernel) rfl ?_
  refine k_al E 1 q1 (show decode prog_1_method_1_code 134 = .ok (.aload_n 1, 1) from by decide +kernel) rfl (lv_at hl 2 rfl) ?_
  refine k_new E (a := 7) (by decide) (ax_at (i := 222) (by decide +kernel)) (ax_at (i := 223) (by decide +kernel)) (ax_at (i := 104) (by decide +kernel)) (Nat.le_of_ble_eq_true rfl) (Nat.le_of_ble_eq_true rfl) (show decode prog_1_method_1_code 135 = .ok (.new 22, 3) from by decide +kernel) (fun q13 => ?_)
  refine k_dup E (show decode prog_1_method_1_code 138 = .ok (.dup, 1) from by decide +kernel) rfl ?_
  refine k_al E 1 q1 (show decode prog_1_method_1_code 139 = .ok (.aload_n 1, 1) from by decide +kernel) rfl (lv_at hl 2 rfl) ?_
  refine k_call (n := 1) [_, _] _ E hml hl.1 (kc_world l D ar q1) rfl ⟨(ax_at (i := 226) (by decide +kernel)), (ax_at (i := 104) (by decide +kernel)), by decide, by decide, by decide +kernel⟩ (ax_at (i := 224) (by decide +kernel)) (ax_at (i := 225) (by decide +kernel)) rfl (Nat.le_of_ble_eq_true rfl) (And.intro (Nat.le_of_ble_eq_true rfl) (Nat.le_of_ble_eq_true rfl)) (And.intro (Nat.le_of_ble_eq_true rfl) (Nat.le_of_ble_eq_true rfl)) (show decode prog_1_method_1_code 140 = .ok (.invokespecial 24, 3) from by decide +kernel) (fun u12 => ?_)
  refine k_call (n := 2) [_] _ E hml hl.1 (kc_actor l D ar q1 q13) rfl ⟨(ax_at (i := 370) (by decide +kernel)), (ax_at (i := 108) (by decide +kernel)), by decide, by decide, by decide +kernel⟩ (ax_at (i := 368) (by decide +kernel)) (ax_at (i := 369) (by decide +kernel)) rfl (Nat.le_of_ble_eq_true rfl) (And.intro (Nat.le_of_ble_eq_true rfl) (Nat.le_of_ble_eq_true rfl)) (And.intro (Nat.le_of_ble_eq_true rfl) (Nat.le_of_ble_eq_true rfl)) (show decode prog_1_method_1_code 143 = .ok (.invokespecial 55, 3) from by decide +kernel) (fun u13 => ?_)
  refine k_put E (a := 8) (k := 6) (by decide) (by decide) (ax_at (i := 428) (by decide +kernel)) hin rfl rfl rfl (Nat.le_of_ble_eq_true rfl) (show decode prog_1_method_1_code 146 = .ok (.putfield 62, 3) from by decide +kernel) ?_
  exact k_end (fun z => [q1, q3, q4, q6, q9, q10, q11, q12, 0, 0, q2, q5, q7, q8, 0, 0, 0, 0, 0, 0, 0, 0, 0, 0, 0, q13].getD z 0, fun z => [u1, u3, u5, u8, (fun _ => 0), u10, u11, u13, (fun _ => 0), (fun _ => 0), u2, u4, u6, u7, (fun _ => 0), (fun _ => 0), (fun _ => 0), (fun _ => 0), (fun _ => 0), (fun _ => 0), (fun _ => 0), (fun _ => 0), (fun _ => 0), (fun _ => 0), (fun _ => 0), u12].getD z (fun _ => 0), u9) E hr hlk (Nat.le_of_ble_eq_true rfl) (Nat.le_of_ble_eq_true rfl) (.of_eq rfl) (show decode prog_1_method_1_code 149 = .ok (.return_, 1) from by decide +kernel)
