/-! the machine's step, and its soundness -/
def ax_ret (c : Nat) (o : Option (ax_D × (Option ax_V ⊕ Nat))) (k : List ax_V → ax_D → Option ax_Fin) (kx : Nat → ax_D → Option ax_Fin) : Option ax_Fin := match c with
  | 0 => ax_callV o (fun d => k [] d) kx
  | 1 => ax_callI o (fun x d => k [Sum.inl x] d) kx
  | 2 => ax_callR o (fun i d => k [ax_vR 13 i 0] d) kx
  | 3 => ax_callF o (fun x d => k [Sum.inr (Sum.inr (Sum.inl x))] d) kx
  | _ => ax_callD o (fun x d => k [Sum.inr (Sum.inr (Sum.inr (Sum.inl x)))] d) kx
theorem ax_ret_inv {c : Nat} {o : Option (ax_D × (Option ax_V ⊕ Nat))} {k : List ax_V → ax_D → Option ax_Fin} {kx : Nat → ax_D → Option ax_Fin} {fin : ax_Fin} (h : ax_ret c o k kx = some fin) :
    (∃ d rv, o = some (d, Sum.inl rv) ∧ k rv.toList d = some fin) ∨ ∃ d n, o = some (d, Sum.inr n) ∧ kx n d = some fin := by
  unfold ax_ret at h
  split at h
  · unfold ax_callV at h
    split at h
    · exact Or.inl ⟨_, none, rfl, h⟩
    · exact Or.inr ⟨_, _, rfl, h⟩
    · cases h
  · unfold ax_callI at h
    split at h
    · exact Or.inl ⟨_, some (Sum.inl _), rfl, h⟩
    · exact Or.inr ⟨_, _, rfl, h⟩
    · cases h
  · unfold ax_callR at h
    split at h
    · exact Or.inl ⟨_, some (ax_vR 13 _ 0), rfl, h⟩
    · exact Or.inr ⟨_, _, rfl, h⟩
    · cases h
  · unfold ax_callF at h
    split at h
    · exact Or.inl ⟨_, some (Sum.inr (Sum.inr (Sum.inl _))), rfl, h⟩
    · exact Or.inr ⟨_, _, rfl, h⟩
    · cases h
  · unfold ax_callD at h
    split at h
    · exact Or.inl ⟨_, some (Sum.inr (Sum.inr (Sum.inr (Sum.inl _)))), rfl, h⟩
    · exact Or.inr ⟨_, _, rfl, h⟩
    · cases h
def ax_inv (orc : ax_O) (a c pc : Nat) (k : ax_K) (lo : List (Nat × ax_V)) (as r : List ax_V) (d : ax_D) (e : Nat) : Option ax_Fin :=
  cond (Nat.ble (ax_cats r) 8) (ax_ret c (orc a as d) (fun res d' => k (pc + 3) lo (res ++ r) d' e) (fun n d' => some (d', e + 1, Sum.inr n))) none
def ax_cop (pc : Nat) (k : ax_K) (lo : List (Nat × ax_V)) (st : List ax_V) (d : ax_D) (e : Nat) : Option ax_Fin := match st with
  | Sum.inl n :: Sum.inl dp :: Sum.inr (Sum.inr (Sum.inr (Sum.inr (k2, i2, j2)))) :: Sum.inl sp :: Sum.inr (Sum.inr (Sum.inr (Sum.inr (k1, i1, j1)))) :: r =>
    cond (ax_cpok k1 j1 k2 j2 sp dp n && Nat.ble (ax_cats r) 8) (k (pc + 3) lo r (ax_set d k2 i2 j2 (va_cpy (ax_row d k1 i1 j1) (ax_row d k2 i2 j2) sp.toNatClampNeg dp.toNatClampNeg n.toNatClampNeg)) e) none
  | _ => none
def ax_mop (pc : Nat) (k : ax_K) (lo : List (Nat × ax_V)) (st : List ax_V) (d : ax_D) (e : Nat) : Option ax_Fin := match st with
  | Sum.inl y :: Sum.inl x :: r => cond (Nat.ble (ax_cats r) 8) (k (pc + 3) lo (Sum.inl (if x < y then y else x) :: r) d e) none
  | _ => none
def ax_ivr (kd : Nat → Nat) (orc : ax_O) (a c pc : Nat) (k : ax_K) (lo : List (Nat × ax_V)) (as st : List ax_V) (d : ax_D) (e : Nat) : Option ax_Fin := match st with
  | Sum.inr (Sum.inr (Sum.inr (Sum.inr (kk, ii, jj)))) :: r => cond (Nat.beq kk (kd a) && Nat.beq jj 0) (ax_inv orc a c pc k lo (ax_vR (kd a) ii 0 :: as) r d e) none
  | _ => none
def ax_go (kd : Nat → Nat) (orc : ax_O) (sc : Bool × Nat × (Nat → Int32)) (i : Jvm.ClassFile.Instr) (len a b c : Nat) (lit : Int32) (sw : List (Int32 × Nat)) (k : ax_K) (pc : Nat) (lo : List (Nat × ax_V)) (st : List ax_V) (d : ax_D) (e : Nat) : Option ax_Fin := match i with
  | .invokestatic _ => cond (Nat.beq a 999) (ax_cop pc k lo st d e) (cond (Nat.beq a 998) (ax_mop pc k lo st d e) (cond (Nat.ble b st.length) (ax_inv orc a c pc k lo (st.take b).reverse (st.drop b) d e) none))
  | .invokevirtual _ => cond (Nat.ble b st.length) (ax_ivr kd orc a c pc k lo (st.take b).reverse (st.drop b) d e) none
  | .return_ => ax_fin i a c st d e
  | .ireturn => ax_fin i a c st d e
  | .areturn => ax_fin i a c st d e
  | .freturn => ax_fin i a c st d e
  | .dreturn => ax_fin i a c st d e
  | .new _ => ax_fin i a c st d e
  | _ => ax_op sc i a b c lit sw (pc + len) k lo st d e
def ax_step (kd : Nat → Nat) (orc : ax_O) (sc : Bool × Nat × (Nat → Int32)) (tb : Nat → Option ax_En) (k : ax_K) : ax_K := fun pc lo st d e => match tb pc with
  | none => none
  | some en => ax_go kd orc sc en.1 en.2.1 en.2.2.1 en.2.2.2.1 en.2.2.2.2.1 en.2.2.2.2.2.1 en.2.2.2.2.2.2 k pc lo st d e
def ax_run (kd : Nat → Nat) (orc : ax_O) (sc : Bool × Nat × (Nat → Int32)) (tb : Nat → Option ax_En) (n : Nat) : ax_K :=
  Nat.rec (motive := fun _ => ax_K) (fun _ _ _ _ _ => none) (fun _ ih => ax_step kd orc sc tb ih) n
/-- the entry is what the code says at pc -/
def ax_gB (nL rt fr lc id : Nat) (own : String) (fl : List (String × Nat × Nat × Nat × Nat)) (cl nl : List (String × Nat × Nat)) (ldc : List (String × Nat × String × Nat)) (kd Mn Mf Ml Mm : Nat → Nat) (thr : List (String × Nat × String)) (thl : List (String × Nat × Nat × Nat)) (cst : List (String × Nat × Int32)) (cc : ByteArray) (pc : Nat) (i : Jvm.ClassFile.Instr) (len a b c : Nat) (lit : Int32) (sw : List (Int32 × Nat)) : Bool :=
  decide (decode cc pc = .ok (i, len)) && (match i with
  | .iconst n => Nat.beq len 1 && decide (Int32.ofInt n = lit)
  | .bipush n => Nat.beq len 2 && decide ((Int8.ofInt n).toInt32 = lit)
  | .sipush n => Nat.beq len 3 && decide ((Int16.ofInt n).toInt32 = lit)
  | .lconst n => Nat.beq len 1 && Nat.beq n.val a
  | .iload_n n => Nat.beq len 1 && Nat.beq n.val a
  | .iload n => Nat.beq len 2 && Nat.beq n a
  | .aload_n n => Nat.beq len 1 && Nat.beq n.val a
  | .aload n => Nat.beq len 2 && Nat.beq n a
  | .fload_n n => Nat.beq len 1 && Nat.beq n.val a
  | .fload n => Nat.beq len 2 && Nat.beq n a
  | .dload_n n => Nat.beq len 1 && Nat.beq n.val a
  | .dload n => Nat.beq len 2 && Nat.beq n a
  | .istore_n n => Nat.beq len 1 && (Nat.beq n.val a && Nat.blt a nL)
  | .istore n => Nat.beq len 2 && (Nat.beq n a && Nat.blt a nL)
  | .astore_n n => Nat.beq len 1 && (Nat.beq n.val a && Nat.blt a nL)
  | .astore n => Nat.beq len 2 && (Nat.beq n a && Nat.blt a nL)
  | .fstore_n n => Nat.beq len 1 && (Nat.beq n.val a && Nat.blt a nL)
  | .fstore n => Nat.beq len 2 && (Nat.beq n a && Nat.blt a nL)
  | .iinc n v => Nat.beq len 3 && (Nat.beq n a && (Nat.blt a nL && decide (Int32.ofInt v = lit)))
  | .iadd => Nat.beq len 1
  | .isub => Nat.beq len 1
  | .imul => Nat.beq len 1
  | .iand => Nat.beq len 1
  | .ior => Nat.beq len 1
  | .ixor => Nat.beq len 1
  | .ishl => Nat.beq len 1
  | .ishr => Nat.beq len 1
  | .iushr => Nat.beq len 1
  | .idiv => Nat.beq len 1
  | .irem => Nat.beq len 1
  | .ineg => Nat.beq len 1
  | .i2l => Nat.beq len 1
  | .i2c => Nat.beq len 1
  | .i2f => Nat.beq len 1
  | .i2d => Nat.beq len 1
  | .f2d => Nat.beq len 1
  | .fdiv => Nat.beq len 1
  | .ddiv => Nat.beq len 1
  | .lcmp => Nat.beq len 1
  | .dup => Nat.beq len 1
  | .dup2 => Nat.beq len 1
  | .pop => Nat.beq len 1
  | .iaload => Nat.beq len 1
  | .caload => Nat.beq len 1
  | .iastore => Nat.beq len 1
  | .castore => Nat.beq len 1
  | .aaload => Nat.beq len 1
  | .arraylength => Nat.beq len 1
  | .laload => Nat.beq len 1
  | .daload => Nat.beq len 1
  | .lastore => Nat.beq len 1
  | .dastore => Nat.beq len 1
  | .baload => Nat.beq len 1
  | .dcmp _ => Nat.beq len 1
  | .fconst n => Nat.beq len 1 && Nat.beq n.val a
  | .dconst n => Nat.beq len 1 && Nat.beq n.val a
  | .goto off => Nat.beq len 3 && decide ((pc : Int) + off = (a : Int))
  | .ifCond _ off => Nat.beq len 3 && decide ((pc : Int) + off = (a : Int))
  | .if_icmp _ off => Nat.beq len 3 && decide ((pc : Int) + off = (a : Int))
  | .tableswitch dflt lo hi offs => decide ((pc : Int) + dflt = (a : Int)) && (sw.all (fun q => !(decide (q.1.toInt < lo)) && (!(decide (hi < q.1.toInt)) && decide ((offs[(q.1.toInt - lo).toNat]?).map (fun o => (pc : Int) + o) = some (q.2 : Int)))) &&
      (List.range (hi - lo + 1).toNat).all (fun j => sw.any (fun q => decide (q.1.toInt = lo + (j : Int)))))
  | .lookupswitch dflt ps => decide ((pc : Int) + dflt = (a : Int)) && ((ps.toList.zip (ps.toList.drop 1)).all (fun (a, next) => a.1 < next.1) && decide (ps.toList.map (fun q => (q.1, (pc : Int) + q.2)) = sw.map (fun q => (q.1.toInt, (q.2 : Int)))))
  | .getfield idx => Nat.beq len 3 && (!(Nat.beq a 14) && decide ((own, idx, a, b, c) ∈ fl))
  | .getstatic idx => Nat.beq len 3 && decide ((own, idx, 14, 0, 0) ∈ fl)
  | .dstore n => Nat.beq len 2 && (Nat.beq n a && Nat.blt (a + 1) nL)
  | .putfield idx => Nat.beq len 3 && (decide ((own, idx, a, b, c) ∈ fl) && (!(Nat.beq c 4) && (!(ax_T a b).2.2.2 && (!(Nat.beq a 13) && !(Nat.beq a 14)))))
  | .ldc idx => Nat.beq len 2 && (Nat.blt a ax_nstr && ldc.any (fun q => decide (q.1 = own) && (Nat.beq q.2.1 idx && Nat.beq q.2.2.2 a)))
  | .ldc_w idx => Nat.beq len 3 && cond (Nat.beq c 1) (decide ((own, idx, lit) ∈ cst)) (Nat.blt a ax_nstr && ldc.any (fun q => decide (q.1 = own) && (Nat.beq q.2.1 idx && Nat.beq q.2.2.2 a)))
  | .invokestatic idx => Nat.beq len 3 && cond (Nat.beq a 999) (Nat.ble 26 lc && (Nat.ble 1 fr && decide ((own, idx, a) ∈ cl))) (cond (Nat.beq a 998) (Nat.ble 26 lc && (Nat.ble 1 fr && decide ((own, idx, a) ∈ cl)))
      (Nat.blt a id && (Nat.beq (kd a) 99 && (Nat.beq b (Mn a) && ((decide ((own, idx, a) ∈ cl) || decide ((own, idx, a) ∈ nl)) && (Nat.ble (Mf a + 1) fr && Nat.ble (8 + (Mm a + 11) + Ml a) lc))))))
  | .invokevirtual idx => Nat.beq len 3 && (Nat.blt a id && (!(Nat.beq (kd a) 99) && (Nat.beq b (Mn a) && (decide ((own, idx, a) ∈ cl) && (Nat.ble (Mf a + 1) fr && Nat.ble (8 + (Mm a + 11) + Ml a) lc)))))
  | .return_ => Nat.beq len 1 && Nat.beq rt 0
  | .ireturn => Nat.beq len 1 && Nat.beq c rt
  | .areturn => Nat.beq len 1 && Nat.beq rt 4
  | .freturn => Nat.beq len 1 && Nat.beq rt 5
  | .dreturn => Nat.beq len 1 && Nat.beq rt 6
  | .new ik => Nat.ble 6 fr && (Nat.ble 90 lc && (decide (decode cc (pc + 3) = .ok (.dup, 1)) && (decide ((own, ik, b, a) ∈ thl) &&
      (thr.any (fun q => decide (q.1 = own) && Nat.beq q.2.1 c) && (decide (len = 3) && cond (Nat.beq sw.length 0)
        (decide (decode cc (pc + 4) = .ok (.ldc c, 2)) && (decide (decode cc (pc + 6) = .ok (.invokespecial b, 3)) && decide (decode cc (pc + 9) = .ok (.athrow, 1))))
        (decide (decode cc (pc + 4) = .ok (.ldc_w c, 3)) && (decide (decode cc (pc + 7) = .ok (.invokespecial b, 3)) && decide (decode cc (pc + 10) = .ok (.athrow, 1)))))))))
  | _ => false)
theorem ax_c1 {b : Bool} {x : Option ax_Fin} {fin : ax_Fin} (h : cond b x none = some fin) : b = true ∧ x = some fin := by
  cases b with
  | true => exact ⟨rfl, h⟩
  | false => cases h
theorem ax_c0 {b : Bool} {x : Option ax_Fin} {fin : ax_Fin} (h : cond b none x = some fin) : b = false ∧ x = some fin := by
  cases b with
  | false => exact ⟨rfl, h⟩
  | true => cases h
theorem ax_c2 {b : Bool} {x y : Option ax_Fin} {fin : ax_Fin} (h : cond b x y = some fin) : (b = true ∧ x = some fin) ∨ (b = false ∧ y = some fin) := by
  cases b with
  | true => exact Or.inl ⟨rfl, h⟩
  | false => exact Or.inr ⟨rfl, h⟩
theorem ax_sw_inv {x : Int32} {a : Nat} {k : Nat → Option ax_Fin} {fin : ax_Fin} {sw : List (Int32 × Nat)} (h : ax_sw x a k sw = some fin) : (∃ q ∈ sw, x = q.1 ∧ k q.2 = some fin) ∨ ((∀ q ∈ sw, ¬ x = q.1) ∧ k a = some fin) := by
  induction sw with
  | nil => exact Or.inr ⟨fun q hq => (List.not_mem_nil hq).elim, h⟩
  | cons q r ih =>
    unfold ax_sw at h
    rcases ax_c2 h with ⟨h1, h2⟩ | ⟨h1, h2⟩
    · exact Or.inl ⟨q, List.mem_cons_self, of_decide_eq_true h1, h2⟩
    · rcases ih h2 with ⟨z, hz, e1, e2⟩ | ⟨e1, e2⟩
      · exact Or.inl ⟨z, List.mem_cons_of_mem _ hz, e1, e2⟩
      · exact Or.inr ⟨fun z hz => (List.mem_cons.mp hz).elim (fun e => by rw [e]; exact of_decide_eq_false h1) (e1 z), e2⟩
theorem ax_lsw_inv {x : Int32} {a pc : Nat} {dflt : Int} {k : Nat → Option ax_Fin} {fin : ax_Fin} (hd : (pc : Int) + dflt = (a : Int)) : ∀ {sw : List (Int32 × Nat)} {ps : List (Int × Int)}, ps.map (fun q => (q.1, (pc : Int) + q.2)) = sw.map (fun q => (q.1.toInt, (q.2 : Int))) → ax_sw x a k sw = some fin → ∃ tgt : Nat, (pc : Int) + Op.lookupswitch.offset ps dflt x.toInt = (tgt : Int) ∧ k tgt = some fin := by
  intro sw
  induction sw with
  | nil =>
    intro ps hp h
    cases ps with
    | nil => exact ⟨a, hd, h⟩
    | cons p ps => cases hp
  | cons q r ih =>
    intro ps hp h
    cases ps with
    | nil => cases hp
    | cons p ps =>
      simp only [List.map_cons, List.cons.injEq, Prod.mk.injEq] at hp
      obtain ⟨⟨h1, h2⟩, h3⟩ := hp
      unfold ax_sw at h
      obtain ⟨pa, po⟩ := p
      rw [Op.lookupswitch.offset_cons]
      rcases ax_c2 h with ⟨g1, g2⟩ | ⟨g1, g2⟩
      · have e : x = q.1 := of_decide_eq_true g1
        rw [if_pos (by rw [e]; exact h1)]
        exact ⟨q.2, h2, g2⟩
      · have e : ¬ x = q.1 := of_decide_eq_false g1
        rw [if_neg (fun z => e (Int32.toInt_inj.mp (by rw [← z]; exact h1)))]
        exact ih h3 g2
theorem ax_mI {f : Int32 → List ax_V → Option ax_Fin} {st : List ax_V} {fin : ax_Fin} (h : (match st with
    | Sum.inl x :: r => f x r
    | _ => none) = some fin) : ∃ (x : Int32) (r : List ax_V), st = Sum.inl x :: r ∧ f x r = some fin := by
  split at h
  · exact ⟨_, _, rfl, h⟩
  · cases h
theorem ax_mII {f : Int32 → Int32 → List ax_V → Option ax_Fin} {st : List ax_V} {fin : ax_Fin} (h : (match st with
    | Sum.inl y :: Sum.inl x :: r => f y x r
    | _ => none) = some fin) : ∃ (y : Int32) (x : Int32) (r : List ax_V), st = Sum.inl y :: Sum.inl x :: r ∧ f y x r = some fin := by
  split at h
  · exact ⟨_, _, _, rfl, h⟩
  · cases h
theorem ax_mJJ {f : Int64 → Int64 → List ax_V → Option ax_Fin} {st : List ax_V} {fin : ax_Fin} (h : (match st with
    | Sum.inr (Sum.inl y) :: Sum.inr (Sum.inl x) :: r => f y x r
    | _ => none) = some fin) : ∃ (y : Int64) (x : Int64) (r : List ax_V), st = Sum.inr (Sum.inl y) :: Sum.inr (Sum.inl x) :: r ∧ f y x r = some fin := by
  split at h
  · exact ⟨_, _, _, rfl, h⟩
  · cases h
theorem ax_mR {f : (Nat × Nat × Nat) → List ax_V → Option ax_Fin} {st : List ax_V} {fin : ax_Fin} (h : (match st with
    | Sum.inr (Sum.inr (Sum.inr (Sum.inr q))) :: r => f q r
    | _ => none) = some fin) : ∃ (q : Nat × Nat × Nat) (r : List ax_V), st = Sum.inr (Sum.inr (Sum.inr (Sum.inr q))) :: r ∧ f q r = some fin := by
  split at h
  · exact ⟨_, _, rfl, h⟩
  · cases h
theorem ax_mD {f : UInt64 → List ax_V → Option ax_Fin} {st : List ax_V} {fin : ax_Fin} (h : (match st with
    | Sum.inr (Sum.inr (Sum.inr (Sum.inl x))) :: r => f x r
    | _ => none) = some fin) : ∃ (x : UInt64) (r : List ax_V), st = Sum.inr (Sum.inr (Sum.inr (Sum.inl x))) :: r ∧ f x r = some fin := by
  split at h
  · exact ⟨_, _, rfl, h⟩
  · cases h
theorem ax_mF {f : UInt32 → List ax_V → Option ax_Fin} {st : List ax_V} {fin : ax_Fin} (h : (match st with
    | Sum.inr (Sum.inr (Sum.inl x)) :: r => f x r
    | _ => none) = some fin) : ∃ (x : UInt32) (r : List ax_V), st = Sum.inr (Sum.inr (Sum.inl x)) :: r ∧ f x r = some fin := by
  split at h
  · exact ⟨_, _, rfl, h⟩
  · cases h
theorem ax_mFF {f : UInt32 → UInt32 → List ax_V → Option ax_Fin} {st : List ax_V} {fin : ax_Fin} (h : (match st with
    | Sum.inr (Sum.inr (Sum.inl y)) :: Sum.inr (Sum.inr (Sum.inl x)) :: r => f y x r
    | _ => none) = some fin) : ∃ (y : UInt32) (x : UInt32) (r : List ax_V), st = Sum.inr (Sum.inr (Sum.inl y)) :: Sum.inr (Sum.inr (Sum.inl x)) :: r ∧ f y x r = some fin := by
  split at h
  · exact ⟨_, _, _, rfl, h⟩
  · cases h
theorem ax_mDD {f : UInt64 → UInt64 → List ax_V → Option ax_Fin} {st : List ax_V} {fin : ax_Fin} (h : (match st with
    | Sum.inr (Sum.inr (Sum.inr (Sum.inl y))) :: Sum.inr (Sum.inr (Sum.inr (Sum.inl x))) :: r => f y x r
    | _ => none) = some fin) : ∃ (y : UInt64) (x : UInt64) (r : List ax_V), st = Sum.inr (Sum.inr (Sum.inr (Sum.inl y))) :: Sum.inr (Sum.inr (Sum.inr (Sum.inl x))) :: r ∧ f y x r = some fin := by
  split at h
  · exact ⟨_, _, _, rfl, h⟩
  · cases h
theorem ax_mK {f : Nat → Nat → Nat → List ax_V → Option ax_Fin} {st : List ax_V} {fin : ax_Fin} (h : (match st with
    | Sum.inr (Sum.inr (Sum.inr (Sum.inr (kk, ii, jj)))) :: r => f kk ii jj r
    | _ => none) = some fin) : ∃ (kk : Nat) (ii : Nat) (jj : Nat) (r : List ax_V), st = Sum.inr (Sum.inr (Sum.inr (Sum.inr (kk, ii, jj)))) :: r ∧ f kk ii jj r = some fin := by
  split at h
  · exact ⟨_, _, _, _, rfl, h⟩
  · cases h
theorem ax_mIK {f : Int32 → Nat → Nat → Nat → List ax_V → Option ax_Fin} {st : List ax_V} {fin : ax_Fin} (h : (match st with
    | Sum.inl x :: Sum.inr (Sum.inr (Sum.inr (Sum.inr (kk, ii, jj)))) :: r => f x kk ii jj r
    | _ => none) = some fin) : ∃ (x : Int32) (kk : Nat) (ii : Nat) (jj : Nat) (r : List ax_V), st = Sum.inl x :: Sum.inr (Sum.inr (Sum.inr (Sum.inr (kk, ii, jj)))) :: r ∧ f x kk ii jj r = some fin := by
  split at h
  · exact ⟨_, _, _, _, _, rfl, h⟩
  · cases h
theorem ax_mIIK {f : Int32 → Int32 → Nat → Nat → Nat → List ax_V → Option ax_Fin} {st : List ax_V} {fin : ax_Fin} (h : (match st with
    | Sum.inl y :: Sum.inl x :: Sum.inr (Sum.inr (Sum.inr (Sum.inr (kk, ii, jj)))) :: r => f y x kk ii jj r
    | _ => none) = some fin) : ∃ (y : Int32) (x : Int32) (kk : Nat) (ii : Nat) (jj : Nat) (r : List ax_V), st = Sum.inl y :: Sum.inl x :: Sum.inr (Sum.inr (Sum.inr (Sum.inr (kk, ii, jj)))) :: r ∧ f y x kk ii jj r = some fin := by
  split at h
  · exact ⟨_, _, _, _, _, _, rfl, h⟩
  · cases h
theorem ax_mJIK {f : Int64 → Int32 → Nat → Nat → Nat → List ax_V → Option ax_Fin} {st : List ax_V} {fin : ax_Fin} (h : (match st with
    | Sum.inr (Sum.inl y) :: Sum.inl x :: Sum.inr (Sum.inr (Sum.inr (Sum.inr (kk, ii, jj)))) :: r => f y x kk ii jj r
    | _ => none) = some fin) : ∃ (y : Int64) (x : Int32) (kk : Nat) (ii : Nat) (jj : Nat) (r : List ax_V), st = Sum.inr (Sum.inl y) :: Sum.inl x :: Sum.inr (Sum.inr (Sum.inr (Sum.inr (kk, ii, jj)))) :: r ∧ f y x kk ii jj r = some fin := by
  split at h
  · exact ⟨_, _, _, _, _, _, rfl, h⟩
  · cases h
theorem ax_mDIK {f : UInt64 → Int32 → Nat → Nat → Nat → List ax_V → Option ax_Fin} {st : List ax_V} {fin : ax_Fin} (h : (match st with
    | Sum.inr (Sum.inr (Sum.inr (Sum.inl y))) :: Sum.inl x :: Sum.inr (Sum.inr (Sum.inr (Sum.inr (kk, ii, jj)))) :: r => f y x kk ii jj r
    | _ => none) = some fin) : ∃ (y : UInt64) (x : Int32) (kk : Nat) (ii : Nat) (jj : Nat) (r : List ax_V), st = Sum.inr (Sum.inr (Sum.inr (Sum.inl y))) :: Sum.inl x :: Sum.inr (Sum.inr (Sum.inr (Sum.inr (kk, ii, jj)))) :: r ∧ f y x kk ii jj r = some fin := by
  split at h
  · exact ⟨_, _, _, _, _, _, rfl, h⟩
  · cases h
theorem ax_m1 {f : ax_V → List ax_V → Option ax_Fin} {st : List ax_V} {fin : ax_Fin} (h : (match st with
    | v :: r => f v r
    | _ => none) = some fin) : ∃ (v : ax_V) (r : List ax_V), st = v :: r ∧ f v r = some fin := by
  split at h
  · exact ⟨_, _, rfl, h⟩
  · cases h
theorem ax_m2 {f : ax_V → ax_V → List ax_V → Option ax_Fin} {st : List ax_V} {fin : ax_Fin} (h : (match st with
    | v :: w :: r => f v w r
    | _ => none) = some fin) : ∃ (v : ax_V) (w : ax_V) (r : List ax_V), st = v :: w :: r ∧ f v w r = some fin := by
  split at h
  · exact ⟨_, _, _, rfl, h⟩
  · cases h
theorem ax_fI {f : Int32 → Option ax_Fin} {o : Option ax_V} {fin : ax_Fin} (h : (match o with
    | some (Sum.inl x) => f x
    | _ => none) = some fin) : ∃ x : Int32, o = some (Sum.inl x) ∧ f x = some fin := by
  split at h
  · exact ⟨_, rfl, h⟩
  · cases h
theorem ax_fR {f : (Nat × Nat × Nat) → Option ax_Fin} {o : Option ax_V} {fin : ax_Fin} (h : (match o with
    | some (Sum.inr (Sum.inr (Sum.inr (Sum.inr q)))) => f q
    | _ => none) = some fin) : ∃ q : Nat × Nat × Nat, o = some (Sum.inr (Sum.inr (Sum.inr (Sum.inr q)))) ∧ f q = some fin := by
  split at h
  · exact ⟨_, rfl, h⟩
  · cases h
theorem ax_fF {f : UInt32 → Option ax_Fin} {o : Option ax_V} {fin : ax_Fin} (h : (match o with
    | some (Sum.inr (Sum.inr (Sum.inl x))) => f x
    | _ => none) = some fin) : ∃ x : UInt32, o = some (Sum.inr (Sum.inr (Sum.inl x))) ∧ f x = some fin := by
  split at h
  · exact ⟨_, rfl, h⟩
  · cases h
theorem ax_fD {f : UInt64 → Option ax_Fin} {o : Option ax_V} {fin : ax_Fin} (h : (match o with
    | some (Sum.inr (Sum.inr (Sum.inr (Sum.inl x)))) => f x
    | _ => none) = some fin) : ∃ x : UInt64, o = some (Sum.inr (Sum.inr (Sum.inr (Sum.inl x)))) ∧ f x = some fin := by
  split at h
  · exact ⟨_, rfl, h⟩
  · cases h
