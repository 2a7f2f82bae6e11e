/-! the operations, all together -/
theorem ax_an {a b : Bool} (h : (a && b) = true) : a = true ∧ b = true := (Bool.and_eq_true a b ▸ h : a = true ∧ b = true)
theorem ax_no {a : Bool} (h : (!a) = true) : a = false := by
  cases a with
  | true => cases h
  | false => rfl
/-- what the tables say of the fields and constants that the entries name -/
def ax_FL (fl : List (String × Nat × Nat × Nat × Nat)) : Prop := ∀ q ∈ fl, (q.2.2.1 = 13 → (q.2.2.2.1 = 0 → Cond.fieldLink q.1 q.2.1 "java/lang/String" "value" "[B" ∈ ax_gw) ∧ (¬ q.2.2.2.1 = 0 → Cond.fieldLink q.1 q.2.1 "java/lang/String" "coder" "B" ∈ ax_gw)) ∧ (q.2.2.1 = 14 → Cond.fieldLink q.1 q.2.1 "java/lang/String" "COMPACT_STRINGS" "Z" ∈ ax_gw) ∧ (¬ q.2.2.1 = 13 → ¬ q.2.2.1 = 14 → q.2.2.1 < 10 ∧ q.2.2.2.1 < ax_nf q.2.2.1 ∧ Cond.fieldLink q.1 q.2.1 (ax_T q.2.2.1 q.2.2.2.1).1 (ax_T q.2.2.1 q.2.2.2.1).2.1 (ax_T q.2.2.1 q.2.2.2.1).2.2.1 ∈ ax_gw ∧
  (¬ q.2.2.2.2 = 4 → (∀ ii : Nat, ax_ga q.2.2.1 ii q.2.2.2.1 = none) ∧ (q.2.2.2.2 = 1 → (ax_T q.2.2.1 q.2.2.2.1).2.2.1 = "I") ∧ (¬ q.2.2.2.2 = 1 → (ax_T q.2.2.1 q.2.2.2.1).2.2.1 = "Z")))
section AXS
variable {ldc : List (String × Nat × String × Nat)} {nest : List Cond} {thr : List (String × Nat × String)}
variable {p : Program} {l : Launch} {e : Env} {R : Room} {s : State} {m : MethodId} {args : Array Value} {below : List Frame} {meth : Method} {c : Code} {Q : State → Prop} {cc : ByteArray} {G : ax_G} {A : Nat → Prop} {nL c0 s0 : Nat}
variable {pc : Nat} {lo : List (Nat × ax_V)} {st : List ax_V} {d : ax_D} {ee : Nat} {own : String} {ws : List Cond} {fin : ax_Fin}
theorem ax_ldcWS (hx : p.tables.exec = Jvm.exec) (hb : c.code = cc) {tx : String} {index q : Nat} {H : Heap} {locs : List Loc} {cells slots : Nat} {ls : Array Slot} {rest : List Value} (hown : s.vm.findClass own = some m.cls) (hZ : vk_R own index tx q s) (hdg : decode cc pc = .ok (.ldc_w index, 3))
    (kq : W p l e R s m args below meth c H locs cells slots Q (F0 m (pc + 3) ls (.ref q :: rest))) : W p l e R s m args below meth c H locs cells slots Q (F0 m pc ls rest) := by
  intro T hT X
  obtain ⟨t, a1, b1⟩ := kq T hT X
  refine ⟨t, X.ldcStringW hx hown hZ.1 hZ.2 (g := F0 m pc ls rest) rfl ?_ t a1, b1⟩
  exact hb ▸ hdg
theorem ax_t_ldcw {a idx : Nat} {tx : String} (E : ax_Env ldc nest thr p s m args c cc G A nL own ws) (hl : (own, idx, tx, a) ∈ ldc) (ha : a < ax_nstr) (hd : decode cc pc = .ok (.ldc_w idx, 3))
    (k : ax_Tr p l e R s m args below meth c Q G A nL c0 s0 (pc + 3) lo (ax_vR 13 a 0 :: st) d ee) : ax_Tr p l e R s m args below meth c Q G A nL c0 s0 pc lo st d ee := by
  intro H locs ls hlv ho hv hP hD hS
  obtain ⟨hx, hb, hml, hown, hgw, hts, hK, hE, hsta, hAk, hAs⟩ := E
  exact ax_ldcWS hx hb hown (hE.2.2.2.2.1 _ hl) hd (k H locs ls hlv ho (ax_okC (Or.inr (Or.inr ⟨rfl, ha, by show 0 < 2; decide⟩)) hv) hP hD hS)
theorem ax_t_ldcwI {idx : Nat} {v : Int32} (E : ax_Env ldc nest thr p s m args c cc G A nL own ws) (hl : Cond.constant own idx v ∈ ax_gw) (hd : decode cc pc = .ok (.ldc_w idx, 3))
    (k : ax_Tr p l e R s m args below meth c Q G A nL c0 s0 (pc + 3) lo (Sum.inl v :: st) d ee) : ax_Tr p l e R s m args below meth c Q G A nL c0 s0 pc lo st d ee := by
  intro H locs ls hlv ho hv hP hD hS
  obtain ⟨hx, hb, hml, hown, hgw, hts, hK, hE, hsta, hAk, hAs⟩ := E
  exact lv_ldcw hx hb hown (hts _ (hgw _ hl)) hd (k H locs ls hlv ho (ax_okI hv) hP hD hS)
theorem ax_t_fc (hx : p.tables.exec = Jvm.exec) (hb : c.code = cc) (hd : decode cc pc = .ok (.fconst 0, 1))
    (k : ax_Tr p l e R s m args below meth c Q G A nL c0 s0 (pc + 1) lo (Sum.inr (Sum.inr (Sum.inl FP.fconst0)) :: st) d ee) : ax_Tr p l e R s m args below meth c Q G A nL c0 s0 pc lo st d ee := by
  intro H locs ls hlv ho hv hP hD hS
  exact lv_fconst0 hx hb hd (k H locs ls hlv ho (ax_okC trivial hv) hP hD hS)
theorem ax_t_dc (hx : p.tables.exec = Jvm.exec) (hb : c.code = cc) (hd : decode cc pc = .ok (.dconst 0, 1))
    (k : ax_Tr p l e R s m args below meth c Q G A nL c0 s0 (pc + 1) lo (Sum.inr (Sum.inr (Sum.inr (Sum.inl FP.dconst0))) :: st) d ee) : ax_Tr p l e R s m args below meth c Q G A nL c0 s0 pc lo st d ee := by
  intro H locs ls hlv ho hv hP hD hS
  exact lv_dconst0 hx hb hd (k H locs ls hlv ho (ax_okC trivial hv) hP hD hS)
theorem ax_t_tsw (hx : p.tables.exec = Jvm.exec) (hb : c.code = cc) {dflt lw hi : Int} {offs : Array Int} {len a : Nat} {x : Int32} {sw : List (Int32 × Nat)} {kf : Nat → Option ax_Fin} (hd : decode cc pc = .ok (.tableswitch dflt lw hi offs, len)) (ha : (pc : Int) + dflt = (a : Int))
    (h1 : ∀ q ∈ sw, ¬ q.1.toInt < lw ∧ ¬ hi < q.1.toInt ∧ (offs[(q.1.toInt - lw).toNat]?).map (fun o => (pc : Int) + o) = some (q.2 : Int)) (h2 : ∀ j : Nat, j < (hi - lw + 1).toNat → ∃ q ∈ sw, q.1.toInt = lw + (j : Int)) (h : ax_sw x a kf sw = some fin) :
    ∃ tgt : Nat, kf tgt = some fin ∧ (ax_Tr p l e R s m args below meth c Q G A nL c0 s0 tgt lo st d ee → ax_Tr p l e R s m args below meth c Q G A nL c0 s0 pc lo (Sum.inl x :: st) d ee) := by
  rcases ax_sw_inv h with ⟨q, hq, rfl, hk⟩ | ⟨hn, hk⟩
  · obtain ⟨g1, g2, g3⟩ := h1 q hq
    cases ho : offs[(q.1.toInt - lw).toNat]? with
    | none => rw [ho] at g3; cases g3
    | some off =>
      rw [ho] at g3
      exact ⟨q.2, hk, fun t H locs ls hl hoo hv hP hD hS => lv_tableIn hx hb hd g1 g2 ho (Option.some.inj g3) (t H locs ls hl hoo (ax_okT hv) hP hD hS)⟩
  · refine ⟨a, hk, fun t H locs ls hl hoo hv hP hD hS => lv_tableOut hx hb hd ?_ ha (t H locs ls hl hoo (ax_okT hv) hP hD hS)⟩
    by_cases c1 : x.toInt < lw
    · exact Or.inl c1
    · by_cases c2 : hi < x.toInt
      · exact Or.inr c2
      · obtain ⟨q, hq, e1⟩ := h2 (x.toInt - lw).toNat (by omega)
        exact absurd (Int32.toInt_inj.mp (by rw [e1]; omega)) (hn q hq)
theorem ax_t_lsw (hx : p.tables.exec = Jvm.exec) (hb : c.code = cc) {dflt : Int} {ps : Array (Int × Int)} {len a : Nat} {x : Int32} {sw : List (Int32 × Nat)} {kf : Nat → Option ax_Fin} (hd : decode cc pc = .ok (.lookupswitch dflt ps, len)) (ha : (pc : Int) + dflt = (a : Int))
    (h1 : (ps.toList.zip (ps.toList.drop 1)).all (fun (a, next) => a.1 < next.1) = true) (h2 : ps.toList.map (fun q => (q.1, (pc : Int) + q.2)) = sw.map (fun q => (q.1.toInt, (q.2 : Int)))) (h : ax_sw x a kf sw = some fin) :
    ∃ tgt : Nat, kf tgt = some fin ∧ (ax_Tr p l e R s m args below meth c Q G A nL c0 s0 tgt lo st d ee → ax_Tr p l e R s m args below meth c Q G A nL c0 s0 pc lo (Sum.inl x :: st) d ee) := by
  obtain ⟨tgt, e1, e2⟩ := ax_lsw_inv ha h2 h
  exact ⟨tgt, e2, fun t H locs ls hl hoo hv hP hD hS => lv_lookup hx hb hd h1 rfl e1 (t H locs ls hl hoo (ax_okT hv) hP hD hS)⟩
set_option maxHeartbeats 4000000 in
theorem ax_op_snd {rt fr lc id : Nat} {fl : List (String × Nat × Nat × Nat × Nat)} {cl nl : List (String × Nat × Nat)} {kd Mn Mf Ml Mm : Nat → Nat} {thl : List (String × Nat × Nat × Nat)} {cst : List (String × Nat × Int32)} {sc : Bool × Nat × (Nat → Int32)} {i : Jvm.ClassFile.Instr} {len a b ci : Nat} {lit : Int32} {sw : List (Int32 × Nat)} {k : ax_K}
    (E : ax_Env ldc nest thr p s m args c cc G A nL own ws) (hfl : ax_FL fl) (hcst : ∀ q ∈ cst, Cond.constant q.1 q.2.1 q.2.2 ∈ ax_gw)
    (hX : sc.1 = true → va_X (G.2.2.1 12 0 0) sc.2.1 sc.2.2 s s.heap ∧ G.2.2.1 12 0 0 < s.heap.size ∧ ¬ A (G.2.2.1 12 0 0))
    (hg : ax_gB nL rt fr lc id own fl cl nl ldc kd Mn Mf Ml Mm thr thl cst cc pc i len a b ci lit sw = true) (h : ax_op sc i a b ci lit sw (pc + len) k lo st d ee = some fin)
    (kk : ∀ pc lo st d e9, k pc lo st d e9 = some fin → e9 ≤ fin.2.1 ∧ ax_Tr p l e R s m args below meth c Q G A nL c0 s0 pc lo st d e9) : ee ≤ fin.2.1 ∧ ax_Tr p l e R s m args below meth c Q G A nL c0 s0 pc lo st d ee := by
  obtain ⟨hd, hg⟩ := ax_an hg
  have hd := of_decide_eq_true hd
  have hx := E.1
  have hb := E.2.1
  have hW : ∀ w ∈ lw_tbl, goodWord w = true → w.before args s = true := fun w h1 h2 => E.2.2.2.2.2.1 _ (E.2.2.2.2.1 _ (ax_gw_mem h1 h2))
  have hK := E.2.2.2.2.2.2.1
  have hown := E.2.2.2.1
  cases i with
  | iconst n =>
    obtain ⟨h1, h2⟩ := ax_an hg
    have hlen := Nat.eq_of_beq_eq_true h1
    subst hlen
    exact (kk _ _ _ _ _ h).imp (fun z => z) (ax_t_iconst hx hb hd (of_decide_eq_true h2))
  | bipush n =>
    obtain ⟨h1, h2⟩ := ax_an hg
    have hlen := Nat.eq_of_beq_eq_true h1
    subst hlen
    exact (kk _ _ _ _ _ h).imp (fun z => z) (ax_t_bipush hx hb hd (of_decide_eq_true h2))
  | sipush n =>
    obtain ⟨h1, h2⟩ := ax_an hg
    have hlen := Nat.eq_of_beq_eq_true h1
    subst hlen
    exact (kk _ _ _ _ _ h).imp (fun z => z) (ax_t_sipush hx hb hd (of_decide_eq_true h2))
  | lconst n =>
    obtain ⟨h1, h2⟩ := ax_an hg
    have hlen := Nat.eq_of_beq_eq_true h1
    subst hlen
    exact (kk _ _ _ _ _ h).imp (fun z => z) (ax_t_lconst hx hb hd (Nat.eq_of_beq_eq_true h2))
  | iload_n n =>
    obtain ⟨h1, h2⟩ := ax_an hg
    have hlen := Nat.eq_of_beq_eq_true h1
    subst hlen
    obtain ⟨x, hf, hq9⟩ := ax_fI (f := fun x => k (pc + 1) lo ((Sum.inl x) :: st) d ee) h
    clear h
    have h := hq9
    clear hq9
    exact (kk _ _ _ _ _ h).imp (fun z => z) (ax_t_iload_n hx hb hd (Nat.eq_of_beq_eq_true h2) hf)
  | iload n =>
    obtain ⟨h1, h2⟩ := ax_an hg
    have hlen := Nat.eq_of_beq_eq_true h1
    subst hlen
    have hn := Nat.eq_of_beq_eq_true h2
    subst hn
    obtain ⟨x, hf, hq9⟩ := ax_fI (f := fun x => k (pc + 2) lo ((Sum.inl x) :: st) d ee) h
    clear h
    have h := hq9
    clear hq9
    exact (kk _ _ _ _ _ h).imp (fun z => z) (ax_t_iload hx hb hd hf)
  | aload_n n =>
    obtain ⟨h1, h2⟩ := ax_an hg
    have hlen := Nat.eq_of_beq_eq_true h1
    subst hlen
    obtain ⟨q, hf, hq9⟩ := ax_fR (f := fun q => k (pc + 1) lo ((Sum.inr (Sum.inr (Sum.inr (Sum.inr q)))) :: st) d ee) h
    clear h
    have h := hq9
    clear hq9
    exact (kk _ _ _ _ _ h).imp (fun z => z) (ax_t_aload_n hx hb hd (Nat.eq_of_beq_eq_true h2) hf)
  | aload n =>
    obtain ⟨h1, h2⟩ := ax_an hg
    have hlen := Nat.eq_of_beq_eq_true h1
    subst hlen
    have hn := Nat.eq_of_beq_eq_true h2
    subst hn
    obtain ⟨q, hf, hq9⟩ := ax_fR (f := fun q => k (pc + 2) lo ((Sum.inr (Sum.inr (Sum.inr (Sum.inr q)))) :: st) d ee) h
    clear h
    have h := hq9
    clear hq9
    exact (kk _ _ _ _ _ h).imp (fun z => z) (ax_t_aload hx hb hd hf)
  | fload_n n =>
    obtain ⟨h1, h2⟩ := ax_an hg
    have hlen := Nat.eq_of_beq_eq_true h1
    subst hlen
    obtain ⟨x, hf, hq9⟩ := ax_fF (f := fun x => k (pc + 1) lo ((Sum.inr (Sum.inr (Sum.inl x))) :: st) d ee) h
    clear h
    have h := hq9
    clear hq9
    exact (kk _ _ _ _ _ h).imp (fun z => z) (ax_t_fload_n hx hb hd (Nat.eq_of_beq_eq_true h2) hf)
  | fload n =>
    obtain ⟨h1, h2⟩ := ax_an hg
    have hlen := Nat.eq_of_beq_eq_true h1
    subst hlen
    have hn := Nat.eq_of_beq_eq_true h2
    subst hn
    obtain ⟨x, hf, hq9⟩ := ax_fF (f := fun x => k (pc + 2) lo ((Sum.inr (Sum.inr (Sum.inl x))) :: st) d ee) h
    clear h
    have h := hq9
    clear hq9
    exact (kk _ _ _ _ _ h).imp (fun z => z) (ax_t_fload hx hb hd hf)
  | dload_n n =>
    obtain ⟨h1, h2⟩ := ax_an hg
    have hlen := Nat.eq_of_beq_eq_true h1
    subst hlen
    obtain ⟨x, hf, hq9⟩ := ax_fD (f := fun x => k (pc + 1) lo ((Sum.inr (Sum.inr (Sum.inr (Sum.inl x)))) :: st) d ee) h
    clear h
    have h := hq9
    clear hq9
    exact (kk _ _ _ _ _ h).imp (fun z => z) (ax_t_dload_n hx hb hd (Nat.eq_of_beq_eq_true h2) hf)
  | dload n =>
    obtain ⟨h1, h2⟩ := ax_an hg
    have hlen := Nat.eq_of_beq_eq_true h1
    subst hlen
    have hn := Nat.eq_of_beq_eq_true h2
    subst hn
    obtain ⟨x, hf, hq9⟩ := ax_fD (f := fun x => k (pc + 2) lo ((Sum.inr (Sum.inr (Sum.inr (Sum.inl x)))) :: st) d ee) h
    clear h
    have h := hq9
    clear hq9
    exact (kk _ _ _ _ _ h).imp (fun z => z) (ax_t_dload hx hb hd hf)
  | istore_n n =>
    obtain ⟨h1, h2⟩ := ax_an hg
    have hlen := Nat.eq_of_beq_eq_true h1
    subst hlen
    obtain ⟨h2, h3⟩ := ax_an h2
    have ha : a < nL := Nat.le_of_ble_eq_true h3
    obtain ⟨x, r, rfl, hq9⟩ := ax_mI (f := fun x r => k (pc + 1) (ax_store lo a (Sum.inl x)) r d ee) h
    clear h
    have h := hq9
    clear hq9
    exact (kk _ _ _ _ _ h).imp (fun z => z) (ax_t_istore_n hx hb hd (Nat.eq_of_beq_eq_true h2) ha)
  | istore n =>
    obtain ⟨h1, h2⟩ := ax_an hg
    have hlen := Nat.eq_of_beq_eq_true h1
    subst hlen
    obtain ⟨h2, h3⟩ := ax_an h2
    have ha : a < nL := Nat.le_of_ble_eq_true h3
    obtain ⟨x, r, rfl, hq9⟩ := ax_mI (f := fun x r => k (pc + 2) (ax_store lo a (Sum.inl x)) r d ee) h
    clear h
    have h := hq9
    clear hq9
    have hn := Nat.eq_of_beq_eq_true h2
    subst hn
    exact (kk _ _ _ _ _ h).imp (fun z => z) (ax_t_istore hx hb hd ha)
  | astore_n n =>
    obtain ⟨h1, h2⟩ := ax_an hg
    have hlen := Nat.eq_of_beq_eq_true h1
    subst hlen
    obtain ⟨h2, h3⟩ := ax_an h2
    have ha : a < nL := Nat.le_of_ble_eq_true h3
    obtain ⟨q, r, rfl, hq9⟩ := ax_mR (f := fun q r => k (pc + 1) (ax_store lo a (Sum.inr (Sum.inr (Sum.inr (Sum.inr q))))) r d ee) h
    clear h
    have h := hq9
    clear hq9
    exact (kk _ _ _ _ _ h).imp (fun z => z) (ax_t_astore_n hx hb hd (Nat.eq_of_beq_eq_true h2) ha)
  | astore n =>
    obtain ⟨h1, h2⟩ := ax_an hg
    have hlen := Nat.eq_of_beq_eq_true h1
    subst hlen
    obtain ⟨h2, h3⟩ := ax_an h2
    have ha : a < nL := Nat.le_of_ble_eq_true h3
    obtain ⟨q, r, rfl, hq9⟩ := ax_mR (f := fun q r => k (pc + 2) (ax_store lo a (Sum.inr (Sum.inr (Sum.inr (Sum.inr q))))) r d ee) h
    clear h
    have h := hq9
    clear hq9
    have hn := Nat.eq_of_beq_eq_true h2
    subst hn
    exact (kk _ _ _ _ _ h).imp (fun z => z) (ax_t_astore hx hb hd ha)
  | fstore_n n =>
    obtain ⟨h1, h2⟩ := ax_an hg
    have hlen := Nat.eq_of_beq_eq_true h1
    subst hlen
    obtain ⟨h2, h3⟩ := ax_an h2
    have ha : a < nL := Nat.le_of_ble_eq_true h3
    obtain ⟨x, r, rfl, hq9⟩ := ax_mF (f := fun x r => k (pc + 1) (ax_store lo a (Sum.inr (Sum.inr (Sum.inl x)))) r d ee) h
    clear h
    have h := hq9
    clear hq9
    exact (kk _ _ _ _ _ h).imp (fun z => z) (ax_t_fstore_n hx hb hd (Nat.eq_of_beq_eq_true h2) ha)
  | fstore n =>
    obtain ⟨h1, h2⟩ := ax_an hg
    have hlen := Nat.eq_of_beq_eq_true h1
    subst hlen
    obtain ⟨h2, h3⟩ := ax_an h2
    have ha : a < nL := Nat.le_of_ble_eq_true h3
    obtain ⟨x, r, rfl, hq9⟩ := ax_mF (f := fun x r => k (pc + 2) (ax_store lo a (Sum.inr (Sum.inr (Sum.inl x)))) r d ee) h
    clear h
    have h := hq9
    clear hq9
    have hn := Nat.eq_of_beq_eq_true h2
    subst hn
    exact (kk _ _ _ _ _ h).imp (fun z => z) (ax_t_fstore hx hb hd ha)
  | iinc n v =>
    obtain ⟨h1, h2⟩ := ax_an hg
    have hlen := Nat.eq_of_beq_eq_true h1
    subst hlen
    obtain ⟨h2, h3⟩ := ax_an h2
    obtain ⟨h3, h4⟩ := ax_an h3
    have hn := Nat.eq_of_beq_eq_true h2
    subst hn
    obtain ⟨x, hf, hq9⟩ := ax_fI (f := fun x => k (pc + 3) (ax_store lo n (Sum.inl (x + lit))) st d ee) h
    clear h
    have h := hq9
    clear hq9
    exact (kk _ _ _ _ _ h).imp (fun z => z) (ax_t_iinc hx hb hd (of_decide_eq_true h4) (Nat.le_of_ble_eq_true h3) hf)
  | iadd =>
    have hlen := Nat.eq_of_beq_eq_true hg
    subst hlen
    obtain ⟨y, x, r, rfl, hq9⟩ := ax_mII (f := fun y x r => k (pc + 1) lo (Sum.inl (x + y) :: r) d ee) h
    clear h
    have h := hq9
    clear hq9
    exact (kk _ _ _ _ _ h).imp (fun z => z) (ax_t_iadd hx hb hd)
  | isub =>
    have hlen := Nat.eq_of_beq_eq_true hg
    subst hlen
    obtain ⟨y, x, r, rfl, hq9⟩ := ax_mII (f := fun y x r => k (pc + 1) lo (Sum.inl (x - y) :: r) d ee) h
    clear h
    have h := hq9
    clear hq9
    exact (kk _ _ _ _ _ h).imp (fun z => z) (ax_t_isub hx hb hd)
  | imul =>
    have hlen := Nat.eq_of_beq_eq_true hg
    subst hlen
    obtain ⟨y, x, r, rfl, hq9⟩ := ax_mII (f := fun y x r => k (pc + 1) lo (Sum.inl (x * y) :: r) d ee) h
    clear h
    have h := hq9
    clear hq9
    exact (kk _ _ _ _ _ h).imp (fun z => z) (ax_t_imul hx hb hd)
  | iand =>
    have hlen := Nat.eq_of_beq_eq_true hg
    subst hlen
    obtain ⟨y, x, r, rfl, hq9⟩ := ax_mII (f := fun y x r => k (pc + 1) lo (Sum.inl (x &&& y) :: r) d ee) h
    clear h
    have h := hq9
    clear hq9
    exact (kk _ _ _ _ _ h).imp (fun z => z) (ax_t_iand hx hb hd)
  | ior =>
    have hlen := Nat.eq_of_beq_eq_true hg
    subst hlen
    obtain ⟨y, x, r, rfl, hq9⟩ := ax_mII (f := fun y x r => k (pc + 1) lo (Sum.inl (x ||| y) :: r) d ee) h
    clear h
    have h := hq9
    clear hq9
    exact (kk _ _ _ _ _ h).imp (fun z => z) (ax_t_ior hx hb hd)
  | ixor =>
    have hlen := Nat.eq_of_beq_eq_true hg
    subst hlen
    obtain ⟨y, x, r, rfl, hq9⟩ := ax_mII (f := fun y x r => k (pc + 1) lo (Sum.inl (x ^^^ y) :: r) d ee) h
    clear h
    have h := hq9
    clear hq9
    exact (kk _ _ _ _ _ h).imp (fun z => z) (ax_t_ixor hx hb hd)
  | ishl =>
    have hlen := Nat.eq_of_beq_eq_true hg
    subst hlen
    obtain ⟨y, x, r, rfl, hq9⟩ := ax_mII (f := fun y x r => k (pc + 1) lo (Sum.inl (x <<< (y &&& 31)) :: r) d ee) h
    clear h
    have h := hq9
    clear hq9
    exact (kk _ _ _ _ _ h).imp (fun z => z) (ax_t_ishl hx hb hd)
  | ishr =>
    have hlen := Nat.eq_of_beq_eq_true hg
    subst hlen
    obtain ⟨y, x, r, rfl, hq9⟩ := ax_mII (f := fun y x r => k (pc + 1) lo (Sum.inl (x >>> (y &&& 31)) :: r) d ee) h
    clear h
    have h := hq9
    clear hq9
    exact (kk _ _ _ _ _ h).imp (fun z => z) (ax_t_ishr hx hb hd)
  | iushr =>
    have hlen := Nat.eq_of_beq_eq_true hg
    subst hlen
    obtain ⟨y, x, r, rfl, hq9⟩ := ax_mII (f := fun y x r => k (pc + 1) lo (Sum.inl ((x.toUInt32 >>> (y.toUInt32 &&& Int32.toUInt32 31)).toInt32) :: r) d ee) h
    clear h
    have h := hq9
    clear hq9
    exact (kk _ _ _ _ _ h).imp (fun z => z) (ax_t_iushr hx hb hd)
  | idiv =>
    have hlen := Nat.eq_of_beq_eq_true hg
    subst hlen
    obtain ⟨y, x, r, rfl, hq9⟩ := ax_mII (f := fun y x r => cond (decide (y = 0)) none (k (pc + 1) lo (Sum.inl (x / y) :: r) d ee)) h
    clear h
    have h := hq9
    clear hq9
    obtain ⟨hy, hq9⟩ := ax_c0 h
    clear h
    have h := hq9
    clear hq9
    exact (kk _ _ _ _ _ h).imp (fun z => z) (ax_t_idiv hx hb hd (of_decide_eq_false hy))
  | irem =>
    have hlen := Nat.eq_of_beq_eq_true hg
    subst hlen
    obtain ⟨y, x, r, rfl, hq9⟩ := ax_mII (f := fun y x r => cond (decide (y = 0)) none (k (pc + 1) lo (Sum.inl (x - x / y * y) :: r) d ee)) h
    clear h
    have h := hq9
    clear hq9
    obtain ⟨hy, hq9⟩ := ax_c0 h
    clear h
    have h := hq9
    clear hq9
    exact (kk _ _ _ _ _ h).imp (fun z => z) (ax_t_irem hx hb hd (of_decide_eq_false hy))
  | ineg =>
    have hlen := Nat.eq_of_beq_eq_true hg
    subst hlen
    obtain ⟨x, r, rfl, hq9⟩ := ax_mI (f := fun x r => k (pc + 1) lo (Sum.inl (-x) :: r) d ee) h
    clear h
    have h := hq9
    clear hq9
    exact (kk _ _ _ _ _ h).imp (fun z => z) (ax_t_ineg hx hb hd)
  | i2l =>
    have hlen := Nat.eq_of_beq_eq_true hg
    subst hlen
    obtain ⟨x, r, rfl, hq9⟩ := ax_mI (f := fun x r => k (pc + 1) lo (Sum.inr (Sum.inl x.toInt64) :: r) d ee) h
    clear h
    have h := hq9
    clear hq9
    exact (kk _ _ _ _ _ h).imp (fun z => z) (ax_t_i2l hx hb hd)
  | i2c =>
    have hlen := Nat.eq_of_beq_eq_true hg
    subst hlen
    obtain ⟨x, r, rfl, hq9⟩ := ax_mI (f := fun x r => k (pc + 1) lo (Sum.inl (x.toUInt32 % 65536).toInt32 :: r) d ee) h
    clear h
    have h := hq9
    clear hq9
    exact (kk _ _ _ _ _ h).imp (fun z => z) (ax_t_i2c hx hb hd)
  | i2f =>
    have hlen := Nat.eq_of_beq_eq_true hg
    subst hlen
    obtain ⟨x, r, rfl, hq9⟩ := ax_mI (f := fun x r => k (pc + 1) lo (Sum.inr (Sum.inr (Sum.inl (FP.i2f x))) :: r) d ee) h
    clear h
    have h := hq9
    clear hq9
    exact (kk _ _ _ _ _ h).imp (fun z => z) (ax_t_i2f hx hb hd)
  | i2d =>
    have hlen := Nat.eq_of_beq_eq_true hg
    subst hlen
    obtain ⟨x, r, rfl, hq9⟩ := ax_mI (f := fun x r => k (pc + 1) lo (Sum.inr (Sum.inr (Sum.inr (Sum.inl (FP.i2d x)))) :: r) d ee) h
    clear h
    have h := hq9
    clear hq9
    exact (kk _ _ _ _ _ h).imp (fun z => z) (ax_t_i2d hx hb hd)
  | lcmp =>
    have hlen := Nat.eq_of_beq_eq_true hg
    subst hlen
    obtain ⟨y, x, r, rfl, hq9⟩ := ax_mJJ (f := fun y x r => k (pc + 1) lo (Sum.inl (lg_cmp x y) :: r) d ee) h
    clear h
    have h := hq9
    clear hq9
    exact (kk _ _ _ _ _ h).imp (fun z => z) (ax_t_lcmp hx hb hd)
  | fdiv =>
    have hlen := Nat.eq_of_beq_eq_true hg
    subst hlen
    obtain ⟨y, x, r, rfl, hq9⟩ := ax_mFF (f := fun y x r => cond (decide (FP.fdiv x y &&& 0x7fffffff ≤ 0x7f800000)) (k (pc + 1) lo (Sum.inr (Sum.inr (Sum.inl (FP.fdiv x y))) :: r) d ee) none) h
    clear h
    have h := hq9
    clear hq9
    obtain ⟨hn, hq9⟩ := ax_c1 h
    clear h
    have h := hq9
    clear hq9
    have hn := of_decide_eq_true hn
    exact (kk _ _ _ _ _ h).imp (fun z => z) (ax_t_fdiv hx hb hd hn)
  | ddiv =>
    have hlen := Nat.eq_of_beq_eq_true hg
    subst hlen
    obtain ⟨y, x, r, rfl, hq9⟩ := ax_mDD (f := fun y x r => cond (decide (FP.ddiv x y &&& 0x7fffffffffffffff ≤ 0x7ff0000000000000)) (k (pc + 1) lo (Sum.inr (Sum.inr (Sum.inr (Sum.inl (FP.ddiv x y)))) :: r) d ee) none) h
    clear h
    have h := hq9
    clear hq9
    obtain ⟨hn, hq9⟩ := ax_c1 h
    clear h
    have h := hq9
    clear hq9
    have hn := of_decide_eq_true hn
    exact (kk _ _ _ _ _ h).imp (fun z => z) (ax_t_ddiv hx hb hd hn)
  | f2d =>
    have hlen := Nat.eq_of_beq_eq_true hg
    subst hlen
    obtain ⟨x, r, rfl, hq9⟩ := ax_mF (f := fun x r => cond (decide (FP.f2d x &&& 0x7fffffffffffffff ≤ 0x7ff0000000000000)) (k (pc + 1) lo (Sum.inr (Sum.inr (Sum.inr (Sum.inl (FP.f2d x)))) :: r) d ee) none) h
    clear h
    have h := hq9
    clear hq9
    obtain ⟨hn, hq9⟩ := ax_c1 h
    clear h
    have h := hq9
    clear hq9
    have hn := of_decide_eq_true hn
    exact (kk _ _ _ _ _ h).imp (fun z => z) (ax_t_f2d hx hb hd hn)
  | fconst n =>
    obtain ⟨h1, h2⟩ := ax_an hg
    have hlen := Nat.eq_of_beq_eq_true h1
    subst hlen
    have e0 : n = 0 := Fin.ext ((Nat.eq_of_beq_eq_true h2).trans (Nat.eq_of_beq_eq_true (ax_c1 h).1))
    subst e0
    have hh := (ax_c1 h).2
    exact (kk _ _ _ _ _ hh).imp (fun z => z) (ax_t_fc hx hb hd)
  | dconst n =>
    obtain ⟨h1, h2⟩ := ax_an hg
    have hlen := Nat.eq_of_beq_eq_true h1
    subst hlen
    have e0 : n = 0 := Fin.ext ((Nat.eq_of_beq_eq_true h2).trans (Nat.eq_of_beq_eq_true (ax_c1 h).1))
    subst e0
    have hh := (ax_c1 h).2
    exact (kk _ _ _ _ _ hh).imp (fun z => z) (ax_t_dc hx hb hd)
  | dup =>
    have hlen := Nat.eq_of_beq_eq_true hg
    subst hlen
    obtain ⟨v, r, rfl, hq9⟩ := ax_m1 (f := fun v r => cond (Nat.beq (ax_cat v) 1) (k (pc + 1) lo (v :: v :: r) d ee) none) h
    clear h
    have h := hq9
    clear hq9
    obtain ⟨hn, hq9⟩ := ax_c1 h
    clear h
    have h := hq9
    clear hq9
    exact (kk _ _ _ _ _ h).imp (fun z => z) (ax_t_dup hx hb hd (Nat.eq_of_beq_eq_true hn))
  | dup2 =>
    have hlen := Nat.eq_of_beq_eq_true hg
    subst hlen
    obtain ⟨v, w, r, rfl, hq9⟩ := ax_m2 (f := fun v w r => cond (Nat.beq (ax_cat v) 1 && Nat.beq (ax_cat w) 1) (k (pc + 1) lo (v :: w :: v :: w :: r) d ee) none) h
    clear h
    have h := hq9
    clear hq9
    obtain ⟨hn, hq9⟩ := ax_c1 h
    clear h
    have h := hq9
    clear hq9
    obtain ⟨hn, hn2⟩ := ax_an hn
    exact (kk _ _ _ _ _ h).imp (fun z => z) (ax_t_dup2 hx hb hd (Nat.eq_of_beq_eq_true hn) (Nat.eq_of_beq_eq_true hn2))
  | pop =>
    have hlen := Nat.eq_of_beq_eq_true hg
    subst hlen
    obtain ⟨v, r, rfl, hq9⟩ := ax_m1 (f := fun v r => cond (Nat.beq (ax_cat v) 1) (k (pc + 1) lo r d ee) none) h
    clear h
    have h := hq9
    clear hq9
    obtain ⟨hn, hq9⟩ := ax_c1 h
    clear h
    have h := hq9
    clear hq9
    exact (kk _ _ _ _ _ h).imp (fun z => z) (ax_t_pop hx hb hd (Nat.eq_of_beq_eq_true hn))
  | goto off =>
    obtain ⟨h1, h2⟩ := ax_an hg
    have hlen := Nat.eq_of_beq_eq_true h1
    subst hlen
    exact (kk _ _ _ _ _ h).imp (fun z => z) (ax_t_goto hx hb hd (of_decide_eq_true h2))
  | ifCond op off =>
    obtain ⟨h1, h2⟩ := ax_an hg
    have hlen := Nat.eq_of_beq_eq_true h1
    subst hlen
    cases op with
    | eq =>
      obtain ⟨x, r, rfl, hq9⟩ := ax_mI (f := fun x r => cond (decide (x = 0)) (k a lo r d ee) (k (pc + 3) lo r d ee)) h
      clear h
      have h := hq9
      clear hq9
      rcases ax_c2 h with ⟨g1, g2⟩ | ⟨g1, g2⟩
      · exact (kk _ _ _ _ _ g2).imp (fun z => z) (fun t => ax_t_if_eq hx hb hd (of_decide_eq_true h2) (fun _ => t) (fun z => absurd (of_decide_eq_true g1) z))
      · exact (kk _ _ _ _ _ g2).imp (fun z => z) (fun t => ax_t_if_eq hx hb hd (of_decide_eq_true h2) (fun z => absurd z (of_decide_eq_false g1)) (fun _ => t))
    | ne =>
      obtain ⟨x, r, rfl, hq9⟩ := ax_mI (f := fun x r => cond (!(decide (x = 0))) (k a lo r d ee) (k (pc + 3) lo r d ee)) h
      clear h
      have h := hq9
      clear hq9
      rcases ax_c2 h with ⟨g1, g2⟩ | ⟨g1, g2⟩
      · exact (kk _ _ _ _ _ g2).imp (fun z => z) (fun t => ax_t_if_ne hx hb hd (of_decide_eq_true h2) (fun _ => t) (fun z => absurd z (of_decide_eq_false (ax_no g1))))
      · exact (kk _ _ _ _ _ g2).imp (fun z => z) (fun t => ax_t_if_ne hx hb hd (of_decide_eq_true h2) (fun z => absurd (show (!(decide (x = 0))) = true by rw [decide_eq_false z]; rfl) (by rw [g1]; exact Bool.false_ne_true)) (fun _ => t))
    | lt =>
      obtain ⟨x, r, rfl, hq9⟩ := ax_mI (f := fun x r => cond (decide (x < 0)) (k a lo r d ee) (k (pc + 3) lo r d ee)) h
      clear h
      have h := hq9
      clear hq9
      rcases ax_c2 h with ⟨g1, g2⟩ | ⟨g1, g2⟩
      · exact (kk _ _ _ _ _ g2).imp (fun z => z) (fun t => ax_t_if_lt hx hb hd (of_decide_eq_true h2) (fun _ => t) (fun z => absurd (of_decide_eq_true g1) z))
      · exact (kk _ _ _ _ _ g2).imp (fun z => z) (fun t => ax_t_if_lt hx hb hd (of_decide_eq_true h2) (fun z => absurd z (of_decide_eq_false g1)) (fun _ => t))
    | ge =>
      obtain ⟨x, r, rfl, hq9⟩ := ax_mI (f := fun x r => cond (decide (0 ≤ x)) (k a lo r d ee) (k (pc + 3) lo r d ee)) h
      clear h
      have h := hq9
      clear hq9
      rcases ax_c2 h with ⟨g1, g2⟩ | ⟨g1, g2⟩
      · exact (kk _ _ _ _ _ g2).imp (fun z => z) (fun t => ax_t_if_ge hx hb hd (of_decide_eq_true h2) (fun _ => t) (fun z => absurd (of_decide_eq_true g1) z))
      · exact (kk _ _ _ _ _ g2).imp (fun z => z) (fun t => ax_t_if_ge hx hb hd (of_decide_eq_true h2) (fun z => absurd z (of_decide_eq_false g1)) (fun _ => t))
    | gt =>
      obtain ⟨x, r, rfl, hq9⟩ := ax_mI (f := fun x r => cond (decide (0 < x)) (k a lo r d ee) (k (pc + 3) lo r d ee)) h
      clear h
      have h := hq9
      clear hq9
      rcases ax_c2 h with ⟨g1, g2⟩ | ⟨g1, g2⟩
      · exact (kk _ _ _ _ _ g2).imp (fun z => z) (fun t => ax_t_if_gt hx hb hd (of_decide_eq_true h2) (fun _ => t) (fun z => absurd (of_decide_eq_true g1) z))
      · exact (kk _ _ _ _ _ g2).imp (fun z => z) (fun t => ax_t_if_gt hx hb hd (of_decide_eq_true h2) (fun z => absurd z (of_decide_eq_false g1)) (fun _ => t))
    | le =>
      obtain ⟨x, r, rfl, hq9⟩ := ax_mI (f := fun x r => cond (decide (x ≤ 0)) (k a lo r d ee) (k (pc + 3) lo r d ee)) h
      clear h
      have h := hq9
      clear hq9
      rcases ax_c2 h with ⟨g1, g2⟩ | ⟨g1, g2⟩
      · exact (kk _ _ _ _ _ g2).imp (fun z => z) (fun t => ax_t_if_le hx hb hd (of_decide_eq_true h2) (fun _ => t) (fun z => absurd (of_decide_eq_true g1) z))
      · exact (kk _ _ _ _ _ g2).imp (fun z => z) (fun t => ax_t_if_le hx hb hd (of_decide_eq_true h2) (fun z => absurd z (of_decide_eq_false g1)) (fun _ => t))
  | if_icmp op off =>
    obtain ⟨h1, h2⟩ := ax_an hg
    have hlen := Nat.eq_of_beq_eq_true h1
    subst hlen
    cases op with
    | eq =>
      obtain ⟨y, x, r, rfl, hq9⟩ := ax_mII (f := fun y x r => cond (decide (x = y)) (k a lo r d ee) (k (pc + 3) lo r d ee)) h
      clear h
      have h := hq9
      clear hq9
      rcases ax_c2 h with ⟨g1, g2⟩ | ⟨g1, g2⟩
      · exact (kk _ _ _ _ _ g2).imp (fun z => z) (fun t => ax_t_icmp_eq hx hb hd (of_decide_eq_true h2) (fun _ => t) (fun z => absurd (of_decide_eq_true g1) z))
      · exact (kk _ _ _ _ _ g2).imp (fun z => z) (fun t => ax_t_icmp_eq hx hb hd (of_decide_eq_true h2) (fun z => absurd z (of_decide_eq_false g1)) (fun _ => t))
    | ne =>
      obtain ⟨y, x, r, rfl, hq9⟩ := ax_mII (f := fun y x r => cond (!(decide (x = y))) (k a lo r d ee) (k (pc + 3) lo r d ee)) h
      clear h
      have h := hq9
      clear hq9
      rcases ax_c2 h with ⟨g1, g2⟩ | ⟨g1, g2⟩
      · exact (kk _ _ _ _ _ g2).imp (fun z => z) (fun t => ax_t_icmp_ne hx hb hd (of_decide_eq_true h2) (fun _ => t) (fun z => absurd z (of_decide_eq_false (ax_no g1))))
      · exact (kk _ _ _ _ _ g2).imp (fun z => z) (fun t => ax_t_icmp_ne hx hb hd (of_decide_eq_true h2) (fun z => absurd (show (!(decide (x = y))) = true by rw [decide_eq_false z]; rfl) (by rw [g1]; exact Bool.false_ne_true)) (fun _ => t))
    | lt =>
      obtain ⟨y, x, r, rfl, hq9⟩ := ax_mII (f := fun y x r => cond (decide (x < y)) (k a lo r d ee) (k (pc + 3) lo r d ee)) h
      clear h
      have h := hq9
      clear hq9
      rcases ax_c2 h with ⟨g1, g2⟩ | ⟨g1, g2⟩
      · exact (kk _ _ _ _ _ g2).imp (fun z => z) (fun t => ax_t_icmp_lt hx hb hd (of_decide_eq_true h2) (fun _ => t) (fun z => absurd (of_decide_eq_true g1) z))
      · exact (kk _ _ _ _ _ g2).imp (fun z => z) (fun t => ax_t_icmp_lt hx hb hd (of_decide_eq_true h2) (fun z => absurd z (of_decide_eq_false g1)) (fun _ => t))
    | ge =>
      obtain ⟨y, x, r, rfl, hq9⟩ := ax_mII (f := fun y x r => cond (decide (y ≤ x)) (k a lo r d ee) (k (pc + 3) lo r d ee)) h
      clear h
      have h := hq9
      clear hq9
      rcases ax_c2 h with ⟨g1, g2⟩ | ⟨g1, g2⟩
      · exact (kk _ _ _ _ _ g2).imp (fun z => z) (fun t => ax_t_icmp_ge hx hb hd (of_decide_eq_true h2) (fun _ => t) (fun z => absurd (of_decide_eq_true g1) z))
      · exact (kk _ _ _ _ _ g2).imp (fun z => z) (fun t => ax_t_icmp_ge hx hb hd (of_decide_eq_true h2) (fun z => absurd z (of_decide_eq_false g1)) (fun _ => t))
    | gt =>
      obtain ⟨y, x, r, rfl, hq9⟩ := ax_mII (f := fun y x r => cond (decide (y < x)) (k a lo r d ee) (k (pc + 3) lo r d ee)) h
      clear h
      have h := hq9
      clear hq9
      rcases ax_c2 h with ⟨g1, g2⟩ | ⟨g1, g2⟩
      · exact (kk _ _ _ _ _ g2).imp (fun z => z) (fun t => ax_t_icmp_gt hx hb hd (of_decide_eq_true h2) (fun _ => t) (fun z => absurd (of_decide_eq_true g1) z))
      · exact (kk _ _ _ _ _ g2).imp (fun z => z) (fun t => ax_t_icmp_gt hx hb hd (of_decide_eq_true h2) (fun z => absurd z (of_decide_eq_false g1)) (fun _ => t))
    | le =>
      obtain ⟨y, x, r, rfl, hq9⟩ := ax_mII (f := fun y x r => cond (decide (x ≤ y)) (k a lo r d ee) (k (pc + 3) lo r d ee)) h
      clear h
      have h := hq9
      clear hq9
      rcases ax_c2 h with ⟨g1, g2⟩ | ⟨g1, g2⟩
      · exact (kk _ _ _ _ _ g2).imp (fun z => z) (fun t => ax_t_icmp_le hx hb hd (of_decide_eq_true h2) (fun _ => t) (fun z => absurd (of_decide_eq_true g1) z))
      · exact (kk _ _ _ _ _ g2).imp (fun z => z) (fun t => ax_t_icmp_le hx hb hd (of_decide_eq_true h2) (fun z => absurd z (of_decide_eq_false g1)) (fun _ => t))
  | tableswitch dflt lw hi offs =>
    obtain ⟨h1, h2⟩ := ax_an hg
    obtain ⟨h2, h3⟩ := ax_an h2
    obtain ⟨x, r, rfl, hq9⟩ := ax_mI (f := fun x r => ax_sw x a (fun t => k t lo r d ee) sw) h
    clear h
    have h := hq9
    clear hq9
    obtain ⟨tgt, g1, g2⟩ := ax_t_tsw (p := p) (l := l) (e := e) (R := R) (s := s) (m := m) (args := args) (below := below) (meth := meth) (c := c) (Q := Q) (G := G) (A := A) (nL := nL) (c0 := c0) (s0 := s0) (lo := lo) (st := r) (d := d) (ee := ee) hx hb hd (of_decide_eq_true h1) (fun q hq => by
      have z := List.all_eq_true.mp h2 q hq
      obtain ⟨z1, z2⟩ := ax_an z
      obtain ⟨z2, z3⟩ := ax_an z2
      exact ⟨of_decide_eq_false (ax_no z1), of_decide_eq_false (ax_no z2), of_decide_eq_true z3⟩) (fun j hj => by
      have z := List.all_eq_true.mp h3 j (List.mem_range.mpr hj)
      obtain ⟨q, hq, z2⟩ := List.any_eq_true.mp z
      exact ⟨q, hq, of_decide_eq_true z2⟩) h
    exact (kk _ _ _ _ _ g1).imp (fun z => z) g2
  | lookupswitch dflt ps =>
    obtain ⟨h1, h2⟩ := ax_an hg
    obtain ⟨h2, h3⟩ := ax_an h2
    obtain ⟨x, r, rfl, hq9⟩ := ax_mI (f := fun x r => ax_sw x a (fun t => k t lo r d ee) sw) h
    clear h
    have h := hq9
    clear hq9
    obtain ⟨tgt, g1, g2⟩ := ax_t_lsw (p := p) (l := l) (e := e) (R := R) (s := s) (m := m) (args := args) (below := below) (meth := meth) (c := c) (Q := Q) (G := G) (A := A) (nL := nL) (c0 := c0) (s0 := s0) (lo := lo) (st := r) (d := d) (ee := ee) hx hb hd (of_decide_eq_true h1) h2 (of_decide_eq_true h3) h
    exact (kk _ _ _ _ _ g1).imp (fun z => z) g2
  | getfield idx =>
    obtain ⟨h1, h2⟩ := ax_an hg
    have hlen := Nat.eq_of_beq_eq_true h1
    subst hlen
    obtain ⟨h0, h2⟩ := ax_an h2
    have hf9 := hfl _ (of_decide_eq_true h2)
    rcases ax_c2 h with ⟨s1, s2⟩ | ⟨s1, s2⟩
    · have ea := Nat.eq_of_beq_eq_true s1
      obtain ⟨kz, ii, jj, r, rfl, s3⟩ := ax_mK (f := fun kz ii jj r => cond (Nat.beq kz 13 && Nat.beq jj 0) (cond (Nat.beq b 0) (k (pc + 3) lo (ax_vR 13 ii 1 :: r) d ee) (k (pc + 3) lo (Sum.inl 0 :: r) d ee)) none) s2
      obtain ⟨s4, s5⟩ := ax_c1 s3
      obtain ⟨e1, e2⟩ := ax_an s4
      have e1 := Nat.eq_of_beq_eq_true e1
      have e2 := Nat.eq_of_beq_eq_true e2
      rw [e1, e2]
      rcases ax_c2 s5 with ⟨s6, s7⟩ | ⟨s6, s7⟩
      · exact (kk _ _ _ _ _ s7).imp (fun z => z) (ax_t_sv E ((hf9.1 ea).1 (Nat.eq_of_beq_eq_true s6)) hd)
      · exact (kk _ _ _ _ _ s7).imp (fun z => z) (ax_t_sc E ((hf9.1 ea).2 (fun z => by rw [show b = 0 from z] at s6; cases s6)) hd)
    clear h
    have h := s2
    clear s2
    have hz13 : ¬ a = 13 := fun z => by rw [z] at s1; cases s1
    have hz14 : ¬ a = 14 := fun z => by rw [z] at h0; cases h0
    obtain ⟨f1, f2, f3, f4⟩ := hf9.2.2 hz13 hz14
    obtain ⟨kz, ii, jj, r, rfl, hq9⟩ := ax_mK (f := fun kz ii jj r => cond (Nat.beq kz a && Nat.beq jj 0) (cond (Nat.beq ci 4) (match ax_ga a ii b with | some q => k (pc + 3) lo (Sum.inr (Sum.inr (Sum.inr (Sum.inr q))) :: r) d ee | none => none) (k (pc + 3) lo (Sum.inl (ax_row d a ii 0 b) :: r) d ee)) none) h
    clear h
    have h := hq9
    clear hq9
    obtain ⟨hn, hq9⟩ := ax_c1 h
    clear h
    have h := hq9
    clear hq9
    obtain ⟨e1, e2⟩ := ax_an hn
    have e1 := Nat.eq_of_beq_eq_true e1
    have e2 := Nat.eq_of_beq_eq_true e2
    subst e1
    subst e2
    rcases ax_c2 h with ⟨g1, g2⟩ | ⟨g1, g2⟩
    · cases hga : ax_ga kz ii b with
      | none => rw [hga] at g2; cases g2
      | some q =>
        rw [hga] at g2
        exact (kk _ _ _ _ _ g2).imp (fun z => z) (ax_t_getR hx hb hown hW hK f1 f2 (E.2.2.2.2.2.1 _ (E.2.2.2.2.1 _ f3)) hga hd)
    · exact (kk _ _ _ _ _ g2).imp (fun z => z) (ax_t_getI hx hb hown hW hK f1 f2 (E.2.2.2.2.2.1 _ (E.2.2.2.2.1 _ f3)) ((f4 (fun z => by rw [show ci = 4 from z] at g1; cases g1)).1 ii) hd)
  | putfield idx =>
    obtain ⟨h1, h2⟩ := ax_an hg
    have hlen := Nat.eq_of_beq_eq_true h1
    subst hlen
    obtain ⟨h2, h3⟩ := ax_an h2
    obtain ⟨h3, h4⟩ := ax_an h3
    obtain ⟨h4, h5⟩ := ax_an h4
    obtain ⟨h5, h6⟩ := ax_an h5
    obtain ⟨f1, f2, f3, f4⟩ := (hfl _ (of_decide_eq_true h2)).2.2 (fun z => by rw [show a = 13 from z] at h5; cases h5) (fun z => by rw [show a = 14 from z] at h6; cases h6)
    have hc4 : ¬ ci = 4 := fun z => by rw [z] at h3; cases h3
    obtain ⟨x, kz, ii, jj, r, rfl, hq9⟩ := ax_mIK (f := fun x kz ii jj r => cond (Nat.beq kz a && (Nat.beq jj 0 && (Nat.beq ci 1 || (decide (x = 0) || decide (x = 1))))) (k (pc + 3) lo r (ax_set d a ii 0 (upd (ax_row d a ii 0) b x)) ee) none) h
    clear h
    have h := hq9
    clear hq9
    obtain ⟨hn, hq9⟩ := ax_c1 h
    clear h
    have h := hq9
    clear hq9
    obtain ⟨e1, e2⟩ := ax_an hn
    obtain ⟨e2, e3⟩ := ax_an e2
    have e1 := Nat.eq_of_beq_eq_true e1
    have e2 := Nat.eq_of_beq_eq_true e2
    subst e1
    subst e2
    have hty : (ax_T kz b).2.2.1 = "I" ∨ ((ax_T kz b).2.2.1 = "Z" ∧ (x = 0 ∨ x = 1)) := by
      by_cases q1 : ci = 1
      · exact Or.inl ((f4 hc4).2.1 q1)
      · refine Or.inr ⟨(f4 hc4).2.2 q1, ?_⟩
        rcases (Bool.or_eq_true _ _).mp e3 with z | z
        · exact absurd (Nat.eq_of_beq_eq_true z) q1
        · exact ((Bool.or_eq_true _ _).mp z).imp of_decide_eq_true of_decide_eq_true
    exact (kk _ _ _ _ _ h).imp (fun z => z) (ax_t_put hx hb hown hW hK f1 f2 (E.2.2.2.2.2.1 _ (E.2.2.2.2.1 _ f3)) ((f4 hc4).1 ii) (ax_no h4) hty hd)
  | iaload =>
    have hlen := Nat.eq_of_beq_eq_true hg
    subst hlen
    obtain ⟨x, kz, ii, jj, r, rfl, hq9⟩ := ax_mIK (f := fun x kz ii jj r => cond (Nat.beq kz 12 && sc.1) (cond (ax_in x sc.2.1) (k (pc + 1) lo (Sum.inl (sc.2.2 x.toNatClampNeg) :: r) d ee) none) (cond (ax_isA kz jj && !(Nat.beq kz 4 && Nat.beq jj 1)) (cond (ax_in x (ax_len kz jj)) (k (pc + 1) lo (Sum.inl (ax_row d kz ii jj x.toNatClampNeg) :: r) d ee) none) none)) h
    clear h
    have h := hq9
    clear hq9
    rcases ax_c2 h with ⟨g1, g2⟩ | ⟨g1, g2⟩
    · obtain ⟨e1, e2⟩ := ax_an g1
      have e1 := Nat.eq_of_beq_eq_true e1
      subst e1
      obtain ⟨X1, X2, X3⟩ := hX e2
      obtain ⟨hi, h⟩ := ax_c1 g2
      refine (kk _ _ _ _ _ h).imp (fun z => z) (fun t H locs ls hl ho hv hP hD hS => ?_)
      have hq : (12, ii, jj) = (12, 0, 0) := by
        rcases ax_okH (ax_okT hv) with z | z | z
        · have := (ax_keys_lt _ z).1; simp at this
        · exact z
        · have := z.1; simp at this
      cases hq
      exact va_sld hx hb X1 X2 X3 hS (ax_in_vp hi) hd (t H locs ls hl ho (ax_okI (ax_okT (ax_okT hv))) hP hD hS)
    · obtain ⟨hA, h⟩ := ax_c1 g2
      obtain ⟨hA, hc⟩ := ax_an hA
      obtain ⟨hi, hq9⟩ := ax_c1 h
      clear h
      have h := hq9
      clear hq9
      exact (kk _ _ _ _ _ h).imp (fun z => z) (ax_t_iald hx hb hK hA (ax_no hc) hi hd)
  | caload =>
    have hlen := Nat.eq_of_beq_eq_true hg
    subst hlen
    obtain ⟨x, kz, ii, jj, r, rfl, hq9⟩ := ax_mIK (f := fun x kz ii jj r => cond (Nat.beq kz 4 && Nat.beq jj 1) (cond (ax_in x 80) (k (pc + 1) lo (Sum.inl (ax_row d 4 ii 1 x.toNatClampNeg) :: r) d ee) none) none) h
    clear h
    have h := hq9
    clear hq9
    obtain ⟨hn, hq9⟩ := ax_c1 h
    clear h
    have h := hq9
    clear hq9
    obtain ⟨e1, e2⟩ := ax_an hn
    have e1 := Nat.eq_of_beq_eq_true e1
    have e2 := Nat.eq_of_beq_eq_true e2
    subst e1
    subst e2
    obtain ⟨hi, hq9⟩ := ax_c1 h
    clear h
    have h := hq9
    clear hq9
    exact (kk _ _ _ _ _ h).imp (fun z => z) (ax_t_cald hx hb hK hi hd)
  | iastore =>
    have hlen := Nat.eq_of_beq_eq_true hg
    subst hlen
    obtain ⟨y, x, kz, ii, jj, r, rfl, hq9⟩ := ax_mIIK (f := fun y x kz ii jj r => cond (ax_isA kz jj && !(Nat.beq kz 4 && Nat.beq jj 1)) (cond (ax_in x (ax_len kz jj)) (k (pc + 1) lo r (ax_set d kz ii jj (upd (ax_row d kz ii jj) x.toNatClampNeg y)) ee) none) none) h
    clear h
    have h := hq9
    clear hq9
    obtain ⟨hA, hq9⟩ := ax_c1 h
    clear h
    have h := hq9
    clear hq9
    obtain ⟨hA, hc⟩ := ax_an hA
    obtain ⟨hi, hq9⟩ := ax_c1 h
    clear h
    have h := hq9
    clear hq9
    exact (kk _ _ _ _ _ h).imp (fun z => z) (ax_t_iast hx hb hK hA (ax_no hc) hi hd)
  | castore =>
    have hlen := Nat.eq_of_beq_eq_true hg
    subst hlen
    obtain ⟨y, x, kz, ii, jj, r, rfl, hq9⟩ := ax_mIIK (f := fun y x kz ii jj r => cond (Nat.beq kz 4 && Nat.beq jj 1) (cond (ax_in x 80) (k (pc + 1) lo r (ax_set d 4 ii 1 (upd (ax_row d 4 ii 1) x.toNatClampNeg (vp_nar .char y))) ee) none) none) h
    clear h
    have h := hq9
    clear hq9
    obtain ⟨hn, hq9⟩ := ax_c1 h
    clear h
    have h := hq9
    clear hq9
    obtain ⟨e1, e2⟩ := ax_an hn
    have e1 := Nat.eq_of_beq_eq_true e1
    have e2 := Nat.eq_of_beq_eq_true e2
    subst e1
    subst e2
    obtain ⟨hi, hq9⟩ := ax_c1 h
    clear h
    have h := hq9
    clear hq9
    exact (kk _ _ _ _ _ h).imp (fun z => z) (ax_t_cast hx hb hK hi hd)
  | aaload =>
    have hlen := Nat.eq_of_beq_eq_true hg
    subst hlen
    obtain ⟨x, kz, ii, jj, r, rfl, hq9⟩ := ax_mIK (f := fun x kz ii jj r => cond (Nat.beq kz 2 && (Nat.beq ii 0 && Nat.beq jj 1)) (cond (ax_in x 11) (k (pc + 1) lo (ax_vR 7 (4 + x.toNatClampNeg) 0 :: r) d ee) none) none) h
    clear h
    have h := hq9
    clear hq9
    obtain ⟨hn, hq9⟩ := ax_c1 h
    clear h
    have h := hq9
    clear hq9
    obtain ⟨e1, e2⟩ := ax_an hn
    obtain ⟨e2, e3⟩ := ax_an e2
    have e1 := Nat.eq_of_beq_eq_true e1
    have e2 := Nat.eq_of_beq_eq_true e2
    have e3 := Nat.eq_of_beq_eq_true e3
    subst e1
    subst e2
    subst e3
    obtain ⟨hi, hq9⟩ := ax_c1 h
    clear h
    have h := hq9
    clear hq9
    exact (kk _ _ _ _ _ h).imp (fun z => z) (ax_t_aald hx hb hK hi hd)
  | arraylength =>
    have hlen := Nat.eq_of_beq_eq_true hg
    subst hlen
    obtain ⟨kz, ii, jj, r, rfl, hq9⟩ := ax_mK (f := fun kz ii jj r => cond (Nat.beq kz 12 && sc.1) (k (pc + 1) lo (Sum.inl (Int32.ofNat sc.2.1) :: r) d ee) (cond (Nat.beq kz 13 && Nat.beq jj 1) (k (pc + 1) lo (Sum.inl (Int32.ofNat (ax_lenS.getD ii 0)) :: r) d ee) none)) h
    clear h
    have h := hq9
    clear hq9
    rcases ax_c2 h with ⟨g1, g2⟩ | ⟨g1, g2⟩
    · obtain ⟨e1, e2⟩ := ax_an g1
      have e1 := Nat.eq_of_beq_eq_true e1
      subst e1
      obtain ⟨X1, X2, X3⟩ := hX e2
      refine (kk _ _ _ _ _ g2).imp (fun z => z) (fun t H locs ls hl ho hv hP hD hS => ?_)
      have hq : (12, ii, jj) = (12, 0, 0) := by
        rcases ax_okH hv with z | z | z
        · have := (ax_keys_lt _ z).1; simp at this
        · exact z
        · have := z.1; simp at this
      cases hq
      exact va_slen hx hb X1 X2 X3 hS hd (t H locs ls hl ho (ax_okI (ax_okT hv)) hP hD hS)
    · obtain ⟨hn, h9⟩ := ax_c1 g2
      obtain ⟨e1, e2⟩ := ax_an hn
      have e1 := Nat.eq_of_beq_eq_true e1
      have e2 := Nat.eq_of_beq_eq_true e2
      rw [e1, e2]
      exact (kk _ _ _ _ _ h9).imp (fun z => z) (ax_t_sl E hd)
  | baload =>
    have hlen := Nat.eq_of_beq_eq_true hg
    subst hlen
    obtain ⟨x, kz, ii, jj, r, rfl, hq9⟩ := ax_mIK (f := fun x kz ii jj r => cond (Nat.beq kz 13 && Nat.beq jj 1) (cond (ax_in x (ax_lenS.getD ii 0)) (k (pc + 1) lo (Sum.inl ((ax_bytS.getD ii []).getD x.toNatClampNeg 0) :: r) d ee) none) none) h
    clear h
    have h := hq9
    clear hq9
    obtain ⟨hn, hq9⟩ := ax_c1 h
    clear h
    have h := hq9
    clear hq9
    obtain ⟨e1, e2⟩ := ax_an hn
    have e1 := Nat.eq_of_beq_eq_true e1
    have e2 := Nat.eq_of_beq_eq_true e2
    rw [e1, e2]
    obtain ⟨hi, hq9⟩ := ax_c1 h
    clear h
    have h := hq9
    clear hq9
    exact (kk _ _ _ _ _ h).imp (fun z => z) (ax_t_sb E hi hd)
  | getstatic idx =>
    obtain ⟨h1, h2⟩ := ax_an hg
    have hlen := Nat.eq_of_beq_eq_true h1
    subst hlen
    obtain ⟨hn, hq9⟩ := ax_c1 h
    clear h
    have h := hq9
    clear hq9
    exact (kk _ _ _ _ _ h).imp (fun z => z) (ax_t_gs E ((hfl _ (of_decide_eq_true h2)).2.1 rfl) hd)
  | dcmp op =>
    have hlen := Nat.eq_of_beq_eq_true hg
    subst hlen
    obtain ⟨y, x, r, rfl, hq9⟩ := ax_mDD (f := fun y x r => k (pc + 1) lo (Sum.inl (Op.cmpValue (FP.dcmp x y) op) :: r) d ee) h
    clear h
    have h := hq9
    clear hq9
    exact (kk _ _ _ _ _ h).imp (fun z => z) (ax_t_dcmp hx hb hd)
  | dstore n =>
    obtain ⟨h1, h2⟩ := ax_an hg
    have hlen := Nat.eq_of_beq_eq_true h1
    subst hlen
    obtain ⟨h2, h3⟩ := ax_an h2
    have hn := Nat.eq_of_beq_eq_true h2
    subst hn
    obtain ⟨x, r, rfl, hq9⟩ := ax_mD (f := fun x r => k (pc + 2) (ax_store2 lo n (Sum.inr (Sum.inr (Sum.inr (Sum.inl x))))) r d ee) h
    clear h
    have h := hq9
    clear hq9
    exact (kk _ _ _ _ _ h).imp (fun z => z) (ax_t_dstore hx hb hd (Nat.le_of_ble_eq_true h3))
  | laload =>
    have hlen := Nat.eq_of_beq_eq_true hg
    subst hlen
    obtain ⟨x, kz, ii, jj, r, rfl, hq9⟩ := ax_mIK (f := fun x kz ii jj r => cond (Nat.beq kz 10 && (Nat.beq ii 0 && (Nat.beq jj 1 && decide (x = 0)))) (k (pc + 1) lo (Sum.inr (Sum.inl d.2.2.1) :: r) d ee) none) h
    clear h
    have h := hq9
    clear hq9
    obtain ⟨hn, hq9⟩ := ax_c1 h
    clear h
    have h := hq9
    clear hq9
    obtain ⟨e1, e2⟩ := ax_an hn
    obtain ⟨e2, e3⟩ := ax_an e2
    obtain ⟨e3, e4⟩ := ax_an e3
    have e1 := Nat.eq_of_beq_eq_true e1
    have e2 := Nat.eq_of_beq_eq_true e2
    have e3 := Nat.eq_of_beq_eq_true e3
    have e4 := of_decide_eq_true e4
    subst e1
    subst e2
    subst e3
    subst e4
    exact (kk _ _ _ _ _ h).imp (fun z => z) (ax_t_lald hx hb hK hd)
  | daload =>
    have hlen := Nat.eq_of_beq_eq_true hg
    subst hlen
    obtain ⟨x, kz, ii, jj, r, rfl, hq9⟩ := ax_mIK (f := fun x kz ii jj r => cond (Nat.beq kz 11 && (Nat.beq ii 0 && (Nat.beq jj 1 && decide (x = 0)))) (k (pc + 1) lo (Sum.inr (Sum.inr (Sum.inr (Sum.inl d.2.2.2))) :: r) d ee) none) h
    clear h
    have h := hq9
    clear hq9
    obtain ⟨hn, hq9⟩ := ax_c1 h
    clear h
    have h := hq9
    clear hq9
    obtain ⟨e1, e2⟩ := ax_an hn
    obtain ⟨e2, e3⟩ := ax_an e2
    obtain ⟨e3, e4⟩ := ax_an e3
    have e1 := Nat.eq_of_beq_eq_true e1
    have e2 := Nat.eq_of_beq_eq_true e2
    have e3 := Nat.eq_of_beq_eq_true e3
    have e4 := of_decide_eq_true e4
    subst e1
    subst e2
    subst e3
    subst e4
    exact (kk _ _ _ _ _ h).imp (fun z => z) (ax_t_dald hx hb hK hd)
  | lastore =>
    have hlen := Nat.eq_of_beq_eq_true hg
    subst hlen
    obtain ⟨y, x, kz, ii, jj, r, rfl, hq9⟩ := ax_mJIK (f := fun y x kz ii jj r => cond (Nat.beq kz 10 && (Nat.beq ii 0 && (Nat.beq jj 1 && decide (x = 0)))) (k (pc + 1) lo r (d.1, d.2.1, y, d.2.2.2) ee) none) h
    clear h
    have h := hq9
    clear hq9
    obtain ⟨hn, hq9⟩ := ax_c1 h
    clear h
    have h := hq9
    clear hq9
    obtain ⟨e1, e2⟩ := ax_an hn
    obtain ⟨e2, e3⟩ := ax_an e2
    obtain ⟨e3, e4⟩ := ax_an e3
    have e1 := Nat.eq_of_beq_eq_true e1
    have e2 := Nat.eq_of_beq_eq_true e2
    have e3 := Nat.eq_of_beq_eq_true e3
    have e4 := of_decide_eq_true e4
    subst e1
    subst e2
    subst e3
    subst e4
    exact (kk _ _ _ _ _ h).imp (fun z => z) (ax_t_last hx hb hK hd)
  | dastore =>
    have hlen := Nat.eq_of_beq_eq_true hg
    subst hlen
    obtain ⟨y, x, kz, ii, jj, r, rfl, hq9⟩ := ax_mDIK (f := fun y x kz ii jj r => cond (Nat.beq kz 11 && (Nat.beq ii 0 && (Nat.beq jj 1 && decide (x = 0)))) (k (pc + 1) lo r (d.1, d.2.1, d.2.2.1, y) ee) none) h
    clear h
    have h := hq9
    clear hq9
    obtain ⟨hn, hq9⟩ := ax_c1 h
    clear h
    have h := hq9
    clear hq9
    obtain ⟨e1, e2⟩ := ax_an hn
    obtain ⟨e2, e3⟩ := ax_an e2
    obtain ⟨e3, e4⟩ := ax_an e3
    have e1 := Nat.eq_of_beq_eq_true e1
    have e2 := Nat.eq_of_beq_eq_true e2
    have e3 := Nat.eq_of_beq_eq_true e3
    have e4 := of_decide_eq_true e4
    subst e1
    subst e2
    subst e3
    subst e4
    exact (kk _ _ _ _ _ h).imp (fun z => z) (ax_t_dast hx hb hK hd)
  | ldc idx =>
    obtain ⟨h1, h2⟩ := ax_an hg
    have hlen := Nat.eq_of_beq_eq_true h1
    subst hlen
    obtain ⟨h2, h3⟩ := ax_an h2
    obtain ⟨q, hq, z⟩ := List.any_eq_true.mp h3
    obtain ⟨z1, z2⟩ := ax_an z
    obtain ⟨z2, z3⟩ := ax_an z2
    have hq2 : (own, idx, q.2.2.1, a) ∈ ldc := by
      have e1 := of_decide_eq_true z1
      have e2 := Nat.eq_of_beq_eq_true z2
      have e3 := Nat.eq_of_beq_eq_true z3
      rw [← e1, ← e2, ← e3]
      exact hq
    exact (kk _ _ _ _ _ h).imp (fun z => z) (ax_t_ldc E hq2 (Nat.le_of_ble_eq_true h2) hd)
  | ldc_w idx =>
    obtain ⟨h1, h2⟩ := ax_an hg
    have hlen := Nat.eq_of_beq_eq_true h1
    subst hlen
    rcases ax_c2 h with ⟨g1, g2⟩ | ⟨g1, g2⟩
    · rw [g1] at h2
      exact (kk _ _ _ _ _ g2).imp (fun z => z) (ax_t_ldcwI E (hcst _ (of_decide_eq_true h2)) hd)
    · rw [g1] at h2
      obtain ⟨h2, h3⟩ := ax_an h2
      obtain ⟨q, hq, z⟩ := List.any_eq_true.mp h3
      obtain ⟨z1, z2⟩ := ax_an z
      obtain ⟨z2, z3⟩ := ax_an z2
      have hq2 : (own, idx, q.2.2.1, a) ∈ ldc := by
        have e1 := of_decide_eq_true z1
        have e2 := Nat.eq_of_beq_eq_true z2
        have e3 := Nat.eq_of_beq_eq_true z3
        rw [← e1, ← e2, ← e3]
        exact hq
      exact (kk _ _ _ _ _ g2).imp (fun z => z) (ax_t_ldcw E hq2 (Nat.le_of_ble_eq_true h2) hd)
  | _ =>
    have h' : (none : Option ax_Fin) = some fin := h
    cases h'
end AXS
