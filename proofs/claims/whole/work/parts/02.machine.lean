/-! THE ABSTRACT MACHINE: a method's bytecode run over pure worlds. A value is an int, a long, a float, a double or a key (kind, index, part); a world is what the rows of numbers hold: the class's rows (kind, index, part), the check's rows (part), the two out cells. -/
abbrev ax_V : Type := Int32 ⊕ (Int64 ⊕ (UInt32 ⊕ (UInt64 ⊕ (Nat × Nat × Nat))))
abbrev ax_C : Type := Nat → Nat → Nat → Nat → Int32
abbrev ax_M : Type := Nat → Nat → Int32
abbrev ax_D : Type := ax_C × ax_M × Int64 × UInt64
abbrev ax_Fin : Type := ax_D × Nat × (Option ax_V ⊕ Nat)
abbrev ax_K : Type := Nat → List (Nat × ax_V) → List ax_V → ax_D → Nat → Option ax_Fin
abbrev ax_En : Type := Jvm.ClassFile.Instr × Nat × Nat × Nat × Nat × Int32 × List (Int32 × Nat)
abbrev ax_O : Type := Nat → List ax_V → ax_D → Option (ax_D × (Option ax_V ⊕ Nat))
abbrev ax_G : Type := va_G × (Nat → ClassId) × (Nat → Nat → Nat → Nat) × (Nat → Nat)
abbrev ax_vI (x : Int32) : ax_V := Sum.inl x
abbrev ax_vJ (x : Int64) : ax_V := Sum.inr (Sum.inl x)
abbrev ax_vF (x : UInt32) : ax_V := Sum.inr (Sum.inr (Sum.inl x))
abbrev ax_vD (x : UInt64) : ax_V := Sum.inr (Sum.inr (Sum.inr (Sum.inl x)))
abbrev ax_vR (k i j : Nat) : ax_V := Sum.inr (Sum.inr (Sum.inr (Sum.inr (k, i, j))))
def ax_row (d : ax_D) (k i j : Nat) : Nat → Int32 := cond (Nat.beq k 9) (d.2.1 j) (d.1 k i j)
def ax_setC (c : ax_C) (k i j : Nat) (f : Nat → Int32) : ax_C := fun k' i' j' => cond (Nat.beq k' k && (Nat.beq i' i && Nat.beq j' j)) f (c k' i' j')
def ax_setM (m : ax_M) (j : Nat) (f : Nat → Int32) : ax_M := fun j' => cond (Nat.beq j' j) f (m j')
def ax_set (d : ax_D) (k i j : Nat) (f : Nat → Int32) : ax_D := cond (Nat.beq k 9) (d.1, ax_setM d.2.1 j f, d.2.2) (ax_setC d.1 k i j f, d.2)
def ax_wA (i : Nat) : Nat := match i with
  | 0 => 0
  | _ => 15
def ax_pW (w : Nat) : Nat := cond (Nat.beq w 2) 1 (cond (Nat.beq w 3) 1 0)
/-- the fields that hold keys -/
def ax_ga (k i s : Nat) : Option (Nat × Nat × Nat) := match k with
  | 0 => (match s with
    | 0 => some (7, ax_wA i, 0)
    | 1 => some (5, i, 0)
    | 2 => some (1, i, 0)
    | 3 => some (3, 0, 0)
    | _ => none)
  | 1 => (match s with
    | 0 => some (3, 0, 0)
    | 1 => some (7, ax_wA i, 0)
    | _ => none)
  | 2 => (match s with
    | 0 => some (2, 0, 1)
    | _ => none)
  | 3 => cond (Nat.ble 5 s && Nat.ble s 16) (some (3, i, s + 1)) none
  | 4 => (match s with
    | 0 => some (4, 0, 1)
    | 2 => some (4, 0, 3)
    | _ => none)
  | 5 => (match s with
    | 0 => some (3, 0, 0)
    | 1 => some (7, ax_wA i, 0)
    | _ => none)
  | 6 => (match s with
    | 0 => some (3, i, 0)
    | 1 => some (7, 2 * i, 0)
    | 2 => some (7, 2 * i + 1, 0)
    | 3 => some (6, i, 4)
    | _ => none)
  | 7 => cond (Nat.beq s 0) (some (3, ax_pW i, 0)) (cond (Nat.ble s 8) (some (7, i, s + 1)) none)
  | 8 => (match s with
    | 0 => some (6, 0, 0)
    | 1 => some (6, 1, 0)
    | 3 => some (2, 0, 0)
    | 4 => some (4, 0, 0)
    | 5 => some (0, 0, 0)
    | 6 => some (0, 1, 0)
    | _ => none)
  | 9 => cond (Nat.ble 1 s && Nat.ble s 6 || (Nat.beq s 9 || (Nat.ble 20 s && Nat.ble s 24 || Nat.ble 28 s && Nat.ble s 29))) (some (9, 0, s + 1)) none
  | _ => none
def ax_nf (k : Nat) : Nat := match k with
  | 0 => 6
  | 1 => 2
  | 2 => 3
  | 3 => 17
  | 4 => 7
  | 5 => 2
  | 6 => 4
  | 7 => 12
  | 8 => 11
  | _ => 30
/-- the rows of ints (and of chars): how long they are -/
def ax_len (k j : Nat) : Nat := match k with
  | 3 => cond (Nat.ble j 7) 48 (cond (Nat.ble j 14) 16 6)
  | 4 => cond (Nat.beq j 1) 80 20
  | 6 => 512
  | 7 => cond (Nat.ble j 5) 16 (cond (Nat.ble j 8) 6 40)
  | _ => cond (Nat.ble j 6) 369 (cond (Nat.beq j 7) 3690 (cond (Nat.beq j 10) 80 (cond (Nat.ble j 25) 30 (cond (Nat.beq j 29) 369 8))))
/-- the keys of rows of ints (chars: (4, 0, 1) alone) -/
def ax_isA (k j : Nat) : Bool := match k with
  | 3 => Nat.ble 6 j && Nat.ble j 17
  | 4 => Nat.beq j 1 || Nat.beq j 3
  | 6 => Nat.beq j 4
  | 7 => Nat.ble 2 j && Nat.ble j 9
  | 9 => Nat.ble 2 j && Nat.ble j 7 || (Nat.beq j 10 || (Nat.ble 21 j && Nat.ble j 25 || Nat.ble 29 j && Nat.ble j 30))
  | _ => false
def ax_keys : List (Nat × Nat × Nat) := [(0, 0, 0), (0, 1, 0), (1, 0, 0), (1, 1, 0), (2, 0, 0), (2, 0, 1), (4, 0, 0), (4, 0, 1), (4, 0, 3), (5, 0, 0), (5, 1, 0), (6, 0, 0), (6, 0, 4), (6, 1, 0), (6, 1, 4), (8, 0, 0), (10, 0, 1), (11, 0, 1), (9, 0, 0)] ++ [2, 3, 4, 5, 6, 7, 10, 21, 22, 23, 24, 25, 29, 30].map (fun j => (9, 0, j)) ++ [0, 6, 7, 8, 9, 10, 11, 12, 13, 14, 15, 16, 17].map (fun j => (3, 0, j)) ++ [0, 6, 7, 8, 9, 10, 11, 12, 13, 14, 15, 16, 17].map (fun j => (3, 1, j)) ++ (List.range 16).flatMap (fun w => [0, 2, 3, 4, 5, 6, 7, 8, 9].map (fun j => (7, w, j)))
def ax_conc (G : ax_G) : ax_V → Value
  | Sum.inl x => .int x
  | Sum.inr (Sum.inl x) => .long x
  | Sum.inr (Sum.inr (Sum.inl x)) => .float x
  | Sum.inr (Sum.inr (Sum.inr (Sum.inl x))) => .double x
  | Sum.inr (Sum.inr (Sum.inr (Sum.inr (k, i, j)))) => .ref (G.2.2.1 k i j)
def ax_nstr : Nat := 34
def ax_lenS : List Nat := [5, 4, 5, 4, 2, 4, 4, 4, 3, 5, 5, 5, 6, 6, 7, 4, 5, 7, 3, 4, 3, 4, 4, 4, 4, 4, 4, 4, 4, 3, 4, 4, 6, 2]
def ax_bytS : List (List Int32) := [[110, 111, 114, 116, 104], [101, 97, 115, 116], [115, 111, 117, 116, 104], [119, 101, 115, 116], [117, 112], [100, 111, 119, 110], [108, 111, 111, 107], [119, 97, 105, 116], [103, 111, 32], [116, 97, 107, 101, 32], [100, 114, 111, 112, 32], [111, 112, 101, 110, 32], [99, 108, 111, 115, 101, 32], [108, 105, 103, 104, 116, 32], [113, 117, 101, 110, 99, 104, 32], [112, 117, 116, 32], [108, 111, 99, 107, 32], [117, 110, 108, 111, 99, 107, 32], [98, 111, 120], [108, 97, 109, 112], [107, 101, 121], [100, 111, 111, 114], [99, 111, 105, 110], [114, 111, 112, 101], [98, 111, 111, 107], [98, 101, 108, 108], [114, 101, 100, 32], [111, 108, 100, 32], [98, 105, 103, 32], [97, 108, 108], [32, 105, 110, 32], [32, 111, 110, 32], [32, 119, 105, 116, 104, 32], [46, 32]]
def ax_vok : ax_V → Prop
  | Sum.inr (Sum.inr (Sum.inr (Sum.inr q))) => q ∈ ax_keys ∨ q = (12, 0, 0) ∨ (q.1 = 13 ∧ q.2.1 < ax_nstr ∧ q.2.2 < 2)
  | _ => True
def ax_cat : ax_V → Nat
  | Sum.inr (Sum.inl _) => 2
  | Sum.inr (Sum.inr (Sum.inr (Sum.inl _))) => 2
  | _ => 1
def ax_cats : List ax_V → Nat
  | [] => 0
  | v :: r => ax_cat v + ax_cats r
/-- what a field of an object holds -/
def ax_fv (G : ax_G) (d : ax_D) (k i s : Nat) : Value := match ax_ga k i s with
  | some q => .ref (G.2.2.1 q.1 q.2.1 q.2.2)
  | none => .int (ax_row d k i 0 s)
/-- what a cell of the world is -/
def ax_ent (G : ax_G) (d : ax_D) (k i j : Nat) : va_E :=
  cond (Nat.beq j 0) (.inr (k + 2, (List.range (ax_nf k)).map (ax_fv G d k i)))
    (cond (Nat.beq k 2) (.inl (G.2.1 2, (11, .inr (.inr (.inr (.inr (fun x => some (G.2.2.1 7 (4 + x) 0))))))))
    (cond (Nat.beq k 10) (.inl (G.2.1 3, (1, .inr (.inl (fun z => if z = 0 then d.2.2.1 else 0)))))
    (cond (Nat.beq k 11) (.inl (G.2.1 4, (1, .inr (.inr (.inr (.inl (fun z => if z = 0 then d.2.2.2 else 0)))))))
      (.inl (cond (Nat.beq k 4 && Nat.beq j 1) (G.2.1 1) (G.2.1 0), (ax_len k j, .inl (ax_row d k i j)))))))
def ax_cells (G : ax_G) (d : ax_D) : va_W := ax_keys.map (fun q => (G.2.2.1 q.1 q.2.1 q.2.2, ax_ent G d q.1 q.2.1 q.2.2))
def ax_tys (G : ax_G) : List (ClassId × FieldType) := [(G.2.1 0, .int), (G.2.1 1, .char), (G.2.1 2, .object RX9), (G.2.1 3, .long), (G.2.1 4, .double)]
/-- what a method may change: the world's cells and those that are made after its start -/
def ax_A (G : ax_G) (sz : Nat) : Nat → Prop := fun q => (∃ r ∈ ax_keys, q = G.2.2.1 r.1 r.2.1 r.2.2) ∨ sz ≤ q
def ax_find (lo : List (Nat × ax_V)) (a : Nat) : Option ax_V := match lo with
  | [] => none
  | q :: r => cond (Nat.beq q.1 a) (some q.2) (ax_find r a)
/-- the locals stand in the order of their numbers -/
def ax_ins (a : Nat) (v : ax_V) : List (Nat × ax_V) → List (Nat × ax_V)
  | [] => [(a, v)]
  | q :: r => cond (Nat.blt a q.1) ((a, v) :: q :: r) (q :: ax_ins a v r)
def ax_store (lo : List (Nat × ax_V)) (a : Nat) (v : ax_V) : List (Nat × ax_V) := ax_ins a v (lo.filter (fun q => !(q.1 == a) && !(q.1 + 1 == a && ax_cat q.2 == 2)))
def ax_store2 (lo : List (Nat × ax_V)) (a : Nat) (v : ax_V) : List (Nat × ax_V) := ax_ins a v (lo.filter (fun q => !(q.1 == a) && (!(q.1 == a + 1) && !(q.1 + 1 == a && ax_cat q.2 == 2))))
/-- those below b alone (0: all) -/
def ax_keep (b : Nat) (lo : List (Nat × ax_V)) : List (Nat × ax_V) := cond (Nat.beq b 0) lo (lo.filter (fun q => Nat.blt q.1 b))
def ax_in (x : Int32) (n : Nat) : Bool := !(decide (x < 0)) && decide (x.toNatClampNeg < n)
/-- where a call ends: its answer goes on, its exception leaves -/
def ax_callV (o : Option (ax_D × (Option ax_V ⊕ Nat))) (kr : ax_D → Option ax_Fin) (kx : Nat → ax_D → Option ax_Fin) : Option ax_Fin := match o with
  | some (d, Sum.inl none) => kr d
  | some (d, Sum.inr E) => kx E d
  | _ => none
def ax_callI (o : Option (ax_D × (Option ax_V ⊕ Nat))) (kr : Int32 → ax_D → Option ax_Fin) (kx : Nat → ax_D → Option ax_Fin) : Option ax_Fin := match o with
  | some (d, Sum.inl (some (Sum.inl x))) => kr x d
  | some (d, Sum.inr E) => kx E d
  | _ => none
def ax_callR (o : Option (ax_D × (Option ax_V ⊕ Nat))) (kr : Nat → ax_D → Option ax_Fin) (kx : Nat → ax_D → Option ax_Fin) : Option ax_Fin := match o with
  | some (d, Sum.inl (some (Sum.inr (Sum.inr (Sum.inr (Sum.inr (13, i, 0))))))) => kr i d
  | some (d, Sum.inr E) => kx E d
  | _ => none
def ax_callF (o : Option (ax_D × (Option ax_V ⊕ Nat))) (kr : UInt32 → ax_D → Option ax_Fin) (kx : Nat → ax_D → Option ax_Fin) : Option ax_Fin := match o with
  | some (d, Sum.inl (some (Sum.inr (Sum.inr (Sum.inl x))))) => kr x d
  | some (d, Sum.inr E) => kx E d
  | _ => none
def ax_callD (o : Option (ax_D × (Option ax_V ⊕ Nat))) (kr : UInt64 → ax_D → Option ax_Fin) (kx : Nat → ax_D → Option ax_Fin) : Option ax_Fin := match o with
  | some (d, Sum.inl (some (Sum.inr (Sum.inr (Sum.inr (Sum.inl x)))))) => kr x d
  | some (d, Sum.inr E) => kx E d
  | _ => none
def ax_sw (x : Int32) (dflt : Nat) (k : Nat → Option ax_Fin) : List (Int32 × Nat) → Option ax_Fin
  | [] => k dflt
  | q :: r => cond (decide (x = q.1)) (k q.2) (ax_sw x dflt k r)
/-- the ends of a body: a return, or 'throw new E(..)'; c: the answer's type (0 none, 1 int, 2 boolean, 3 char, 4 reference, 5 float, 6 double, 7 byte) -/
def ax_fin (i : Jvm.ClassFile.Instr) (a c : Nat) (st : List ax_V) (d : ax_D) (e : Nat) : Option ax_Fin := match i with
  | .return_ => (match st with
    | [] => some (d, e, Sum.inl none)
    | _ => none)
  | .ireturn => (match st with
    | [Sum.inl x] => cond (Nat.beq c 1 || (Nat.beq c 2 && (decide (x = 0) || decide (x = 1)) || (Nat.beq c 3 && decide (vp_nar .char x = x) || Nat.beq c 7 && decide (vp_nar .byte x = x)))) (some (d, e, Sum.inl (some (Sum.inl x)))) none
    | _ => none)
  | .areturn => (match st with
    | [Sum.inr (Sum.inr (Sum.inr (Sum.inr q)))] => some (d, e, Sum.inl (some (Sum.inr (Sum.inr (Sum.inr (Sum.inr q))))))
    | _ => none)
  | .freturn => (match st with
    | [Sum.inr (Sum.inr (Sum.inl x))] => some (d, e, Sum.inl (some (Sum.inr (Sum.inr (Sum.inl x)))))
    | _ => none)
  | .dreturn => (match st with
    | [Sum.inr (Sum.inr (Sum.inr (Sum.inl x)))] => some (d, e, Sum.inl (some (Sum.inr (Sum.inr (Sum.inr (Sum.inl x))))))
    | _ => none)
  | .new _ => (match st with
    | [] => some (d, e + 1, Sum.inr a)
    | _ => none)
  | _ => none

/-- the operations but calls and ends -/
def ax_op (sc : Bool × Nat × (Nat → Int32)) (i : Jvm.ClassFile.Instr) (a b c : Nat) (lit : Int32) (sw : List (Int32 × Nat)) (pn : Nat) (k : ax_K) (lo : List (Nat × ax_V)) (st : List ax_V) (d : ax_D) (e : Nat) : Option ax_Fin := match i with
  | .iconst _ => k pn lo (Sum.inl lit :: st) d e
  | .bipush _ => k pn lo (Sum.inl lit :: st) d e
  | .sipush _ => k pn lo (Sum.inl lit :: st) d e
  | .lconst _ => k pn lo (Sum.inr (Sum.inl (Int64.ofNat a)) :: st) d e
  | .iload_n _ => (match ax_find lo a with
    | some (Sum.inl x) => k pn lo ((Sum.inl x) :: st) d e
    | _ => none)
  | .iload _ => (match ax_find lo a with
    | some (Sum.inl x) => k pn lo ((Sum.inl x) :: st) d e
    | _ => none)
  | .aload_n _ => (match ax_find lo a with
    | some (Sum.inr (Sum.inr (Sum.inr (Sum.inr q)))) => k pn lo ((Sum.inr (Sum.inr (Sum.inr (Sum.inr q)))) :: st) d e
    | _ => none)
  | .aload _ => (match ax_find lo a with
    | some (Sum.inr (Sum.inr (Sum.inr (Sum.inr q)))) => k pn lo ((Sum.inr (Sum.inr (Sum.inr (Sum.inr q)))) :: st) d e
    | _ => none)
  | .fload_n _ => (match ax_find lo a with
    | some (Sum.inr (Sum.inr (Sum.inl x))) => k pn lo ((Sum.inr (Sum.inr (Sum.inl x))) :: st) d e
    | _ => none)
  | .fload _ => (match ax_find lo a with
    | some (Sum.inr (Sum.inr (Sum.inl x))) => k pn lo ((Sum.inr (Sum.inr (Sum.inl x))) :: st) d e
    | _ => none)
  | .dload_n _ => (match ax_find lo a with
    | some (Sum.inr (Sum.inr (Sum.inr (Sum.inl x)))) => k pn lo ((Sum.inr (Sum.inr (Sum.inr (Sum.inl x)))) :: st) d e
    | _ => none)
  | .dload _ => (match ax_find lo a with
    | some (Sum.inr (Sum.inr (Sum.inr (Sum.inl x)))) => k pn lo ((Sum.inr (Sum.inr (Sum.inr (Sum.inl x)))) :: st) d e
    | _ => none)
  | .istore_n _ => (match st with
    | (Sum.inl x) :: r => k pn (ax_store lo a (Sum.inl x)) r d e
    | _ => none)
  | .istore _ => (match st with
    | (Sum.inl x) :: r => k pn (ax_store lo a (Sum.inl x)) r d e
    | _ => none)
  | .fstore_n _ => (match st with
    | (Sum.inr (Sum.inr (Sum.inl x))) :: r => k pn (ax_store lo a (Sum.inr (Sum.inr (Sum.inl x)))) r d e
    | _ => none)
  | .fstore _ => (match st with
    | (Sum.inr (Sum.inr (Sum.inl x))) :: r => k pn (ax_store lo a (Sum.inr (Sum.inr (Sum.inl x)))) r d e
    | _ => none)
  | .astore_n _ => (match st with
    | (Sum.inr (Sum.inr (Sum.inr (Sum.inr q)))) :: r => k pn (ax_store lo a (Sum.inr (Sum.inr (Sum.inr (Sum.inr q))))) r d e
    | _ => none)
  | .astore _ => (match st with
    | (Sum.inr (Sum.inr (Sum.inr (Sum.inr q)))) :: r => k pn (ax_store lo a (Sum.inr (Sum.inr (Sum.inr (Sum.inr q))))) r d e
    | _ => none)
  | .iinc _ _ => (match ax_find lo a with
    | some (Sum.inl x) => k pn (ax_store lo a (Sum.inl (x + lit))) st d e
    | _ => none)
  | .iadd => (match st with
    | Sum.inl y :: Sum.inl x :: r => k pn lo (Sum.inl (x + y) :: r) d e
    | _ => none)
  | .isub => (match st with
    | Sum.inl y :: Sum.inl x :: r => k pn lo (Sum.inl (x - y) :: r) d e
    | _ => none)
  | .imul => (match st with
    | Sum.inl y :: Sum.inl x :: r => k pn lo (Sum.inl (x * y) :: r) d e
    | _ => none)
  | .iand => (match st with
    | Sum.inl y :: Sum.inl x :: r => k pn lo (Sum.inl (x &&& y) :: r) d e
    | _ => none)
  | .ior => (match st with
    | Sum.inl y :: Sum.inl x :: r => k pn lo (Sum.inl (x ||| y) :: r) d e
    | _ => none)
  | .ixor => (match st with
    | Sum.inl y :: Sum.inl x :: r => k pn lo (Sum.inl (x ^^^ y) :: r) d e
    | _ => none)
  | .ishl => (match st with
    | Sum.inl y :: Sum.inl x :: r => k pn lo (Sum.inl (x <<< (y &&& 31)) :: r) d e
    | _ => none)
  | .ishr => (match st with
    | Sum.inl y :: Sum.inl x :: r => k pn lo (Sum.inl (x >>> (y &&& 31)) :: r) d e
    | _ => none)
  | .iushr => (match st with
    | Sum.inl y :: Sum.inl x :: r => k pn lo (Sum.inl ((x.toUInt32 >>> (y.toUInt32 &&& Int32.toUInt32 31)).toInt32) :: r) d e
    | _ => none)
  | .idiv => (match st with
    | Sum.inl y :: Sum.inl x :: r => cond (decide (y = 0)) none (k pn lo (Sum.inl (x / y) :: r) d e)
    | _ => none)
  | .irem => (match st with
    | Sum.inl y :: Sum.inl x :: r => cond (decide (y = 0)) none (k pn lo (Sum.inl (x - x / y * y) :: r) d e)
    | _ => none)
  | .ineg => (match st with
    | Sum.inl x :: r => k pn lo (Sum.inl (-x) :: r) d e
    | _ => none)
  | .i2l => (match st with
    | Sum.inl x :: r => k pn lo (Sum.inr (Sum.inl x.toInt64) :: r) d e
    | _ => none)
  | .i2c => (match st with
    | Sum.inl x :: r => k pn lo (Sum.inl (x.toUInt32 % 65536).toInt32 :: r) d e
    | _ => none)
  | .lcmp => (match st with
    | Sum.inr (Sum.inl y) :: Sum.inr (Sum.inl x) :: r => k pn lo (Sum.inl (lg_cmp x y) :: r) d e
    | _ => none)
  | .i2f => (match st with
    | Sum.inl x :: r => k pn lo (Sum.inr (Sum.inr (Sum.inl (FP.i2f x))) :: r) d e
    | _ => none)
  | .i2d => (match st with
    | Sum.inl x :: r => k pn lo (Sum.inr (Sum.inr (Sum.inr (Sum.inl (FP.i2d x)))) :: r) d e
    | _ => none)
  | .dup => (match st with
    | v :: r => cond (Nat.beq (ax_cat v) 1) (k pn lo (v :: v :: r) d e) none
    | _ => none)
  | .dup2 => (match st with
    | v :: w :: r => cond (Nat.beq (ax_cat v) 1 && Nat.beq (ax_cat w) 1) (k pn lo (v :: w :: v :: w :: r) d e) none
    | _ => none)
  | .pop => (match st with
    | v :: r => cond (Nat.beq (ax_cat v) 1) (k pn lo r d e) none
    | _ => none)
  | .goto _ => k a (ax_keep b lo) st d e
  | .ifCond op _ => (match st with
    | Sum.inl x :: r => (match op with
      | .eq => cond (decide (x = 0)) (k a lo r d e) (k pn lo r d e)
      | .ne => cond (!(decide (x = 0))) (k a lo r d e) (k pn lo r d e)
      | .lt => cond (decide (x < 0)) (k a lo r d e) (k pn lo r d e)
      | .ge => cond (decide (0 ≤ x)) (k a lo r d e) (k pn lo r d e)
      | .gt => cond (decide (0 < x)) (k a lo r d e) (k pn lo r d e)
      | .le => cond (decide (x ≤ 0)) (k a lo r d e) (k pn lo r d e))
    | _ => none)
  | .if_icmp op _ => (match st with
    | Sum.inl y :: Sum.inl x :: r => (match op with
      | .eq => cond (decide (x = y)) (k a lo r d e) (k pn lo r d e)
      | .ne => cond (!(decide (x = y))) (k a lo r d e) (k pn lo r d e)
      | .lt => cond (decide (x < y)) (k a lo r d e) (k pn lo r d e)
      | .ge => cond (decide (y ≤ x)) (k a lo r d e) (k pn lo r d e)
      | .gt => cond (decide (y < x)) (k a lo r d e) (k pn lo r d e)
      | .le => cond (decide (x ≤ y)) (k a lo r d e) (k pn lo r d e))
    | _ => none)
  | .tableswitch _ _ _ _ => (match st with
    | Sum.inl x :: r => ax_sw x a (fun t => k t lo r d e) sw
    | _ => none)
  | .lookupswitch _ _ => (match st with
    | Sum.inl x :: r => ax_sw x a (fun t => k t lo r d e) sw
    | _ => none)
  | .getfield _ => cond (Nat.beq a 13) (match st with
    | Sum.inr (Sum.inr (Sum.inr (Sum.inr (kk, ii, jj)))) :: r => cond (Nat.beq kk 13 && Nat.beq jj 0) (cond (Nat.beq b 0) (k pn lo (ax_vR 13 ii 1 :: r) d e) (k pn lo (Sum.inl 0 :: r) d e)) none
    | _ => none) (match st with
    | Sum.inr (Sum.inr (Sum.inr (Sum.inr (kk, ii, jj)))) :: r => cond (Nat.beq kk a && Nat.beq jj 0) (cond (Nat.beq c 4) (match ax_ga a ii b with
        | some q => k pn lo (Sum.inr (Sum.inr (Sum.inr (Sum.inr q))) :: r) d e
        | none => none) (k pn lo (Sum.inl (ax_row d a ii 0 b) :: r) d e)) none
    | _ => none)
  | .putfield _ => (match st with
    | Sum.inl x :: Sum.inr (Sum.inr (Sum.inr (Sum.inr (kk, ii, jj)))) :: r => cond (Nat.beq kk a && (Nat.beq jj 0 && (Nat.beq c 1 || (decide (x = 0) || decide (x = 1))))) (k pn lo r (ax_set d a ii 0 (upd (ax_row d a ii 0) b x)) e) none
    | _ => none)
  | .iaload => (match st with
    | Sum.inl x :: Sum.inr (Sum.inr (Sum.inr (Sum.inr (kk, ii, jj)))) :: r => cond (Nat.beq kk 12 && sc.1) (cond (ax_in x sc.2.1) (k pn lo (Sum.inl (sc.2.2 x.toNatClampNeg) :: r) d e) none)
        (cond (ax_isA kk jj && !(Nat.beq kk 4 && Nat.beq jj 1)) (cond (ax_in x (ax_len kk jj)) (k pn lo (Sum.inl (ax_row d kk ii jj x.toNatClampNeg) :: r) d e) none) none)
    | _ => none)
  | .caload => (match st with
    | Sum.inl x :: Sum.inr (Sum.inr (Sum.inr (Sum.inr (kk, ii, jj)))) :: r => cond (Nat.beq kk 4 && Nat.beq jj 1) (cond (ax_in x 80) (k pn lo (Sum.inl (ax_row d 4 ii 1 x.toNatClampNeg) :: r) d e) none) none
    | _ => none)
  | .iastore => (match st with
    | Sum.inl y :: Sum.inl x :: Sum.inr (Sum.inr (Sum.inr (Sum.inr (kk, ii, jj)))) :: r => cond (ax_isA kk jj && !(Nat.beq kk 4 && Nat.beq jj 1)) (cond (ax_in x (ax_len kk jj)) (k pn lo r (ax_set d kk ii jj (upd (ax_row d kk ii jj) x.toNatClampNeg y)) e) none) none
    | _ => none)
  | .castore => (match st with
    | Sum.inl y :: Sum.inl x :: Sum.inr (Sum.inr (Sum.inr (Sum.inr (kk, ii, jj)))) :: r => cond (Nat.beq kk 4 && Nat.beq jj 1) (cond (ax_in x 80) (k pn lo r (ax_set d 4 ii 1 (upd (ax_row d 4 ii 1) x.toNatClampNeg (vp_nar .char y))) e) none) none
    | _ => none)
  | .aaload => (match st with
    | Sum.inl x :: Sum.inr (Sum.inr (Sum.inr (Sum.inr (kk, ii, jj)))) :: r => cond (Nat.beq kk 2 && (Nat.beq ii 0 && Nat.beq jj 1)) (cond (ax_in x 11) (k pn lo (ax_vR 7 (4 + x.toNatClampNeg) 0 :: r) d e) none) none
    | _ => none)
  | .arraylength => (match st with
    | Sum.inr (Sum.inr (Sum.inr (Sum.inr (kk, ii, jj)))) :: r => cond (Nat.beq kk 12 && sc.1) (k pn lo (Sum.inl (Int32.ofNat sc.2.1) :: r) d e) (cond (Nat.beq kk 13 && Nat.beq jj 1) (k pn lo (Sum.inl (Int32.ofNat (ax_lenS.getD ii 0)) :: r) d e) none)
    | _ => none)
  | .laload => (match st with
    | Sum.inl x :: Sum.inr (Sum.inr (Sum.inr (Sum.inr (kk, ii, jj)))) :: r => cond (Nat.beq kk 10 && (Nat.beq ii 0 && (Nat.beq jj 1 && decide (x = 0)))) (k pn lo (Sum.inr (Sum.inl d.2.2.1) :: r) d e) none
    | _ => none)
  | .daload => (match st with
    | Sum.inl x :: Sum.inr (Sum.inr (Sum.inr (Sum.inr (kk, ii, jj)))) :: r => cond (Nat.beq kk 11 && (Nat.beq ii 0 && (Nat.beq jj 1 && decide (x = 0)))) (k pn lo (Sum.inr (Sum.inr (Sum.inr (Sum.inl d.2.2.2))) :: r) d e) none
    | _ => none)
  | .lastore => (match st with
    | Sum.inr (Sum.inl y) :: Sum.inl x :: Sum.inr (Sum.inr (Sum.inr (Sum.inr (kk, ii, jj)))) :: r => cond (Nat.beq kk 10 && (Nat.beq ii 0 && (Nat.beq jj 1 && decide (x = 0)))) (k pn lo r (d.1, d.2.1, y, d.2.2.2) e) none
    | _ => none)
  | .dastore => (match st with
    | Sum.inr (Sum.inr (Sum.inr (Sum.inl y))) :: Sum.inl x :: Sum.inr (Sum.inr (Sum.inr (Sum.inr (kk, ii, jj)))) :: r => cond (Nat.beq kk 11 && (Nat.beq ii 0 && (Nat.beq jj 1 && decide (x = 0)))) (k pn lo r (d.1, d.2.1, d.2.2.1, y) e) none
    | _ => none)
  | .baload => (match st with
    | Sum.inl x :: Sum.inr (Sum.inr (Sum.inr (Sum.inr (kk, ii, jj)))) :: r => cond (Nat.beq kk 13 && Nat.beq jj 1) (cond (ax_in x (ax_lenS.getD ii 0)) (k pn lo (Sum.inl ((ax_bytS.getD ii []).getD x.toNatClampNeg 0) :: r) d e) none) none
    | _ => none)
  | .getstatic _ => cond (Nat.beq a 0) (k pn lo (Sum.inl 1 :: st) d e) none
  | .dcmp op => (match st with
    | Sum.inr (Sum.inr (Sum.inr (Sum.inl y))) :: Sum.inr (Sum.inr (Sum.inr (Sum.inl x))) :: r => k pn lo (Sum.inl (Op.cmpValue (FP.dcmp x y) op) :: r) d e
    | _ => none)
  | .dstore _ => (match st with
    | Sum.inr (Sum.inr (Sum.inr (Sum.inl x))) :: r => k pn (ax_store2 lo a (Sum.inr (Sum.inr (Sum.inr (Sum.inl x))))) r d e
    | _ => none)
  | .ldc _ => k pn lo (ax_vR 13 a 0 :: st) d e
  | .ldc_w _ => cond (Nat.beq c 1) (k pn lo (Sum.inl lit :: st) d e) (k pn lo (ax_vR 13 a 0 :: st) d e)
  | .fconst _ => cond (Nat.beq a 0) (k pn lo (Sum.inr (Sum.inr (Sum.inl FP.fconst0)) :: st) d e) none
  | .dconst _ => cond (Nat.beq a 0) (k pn lo (Sum.inr (Sum.inr (Sum.inr (Sum.inl FP.dconst0))) :: st) d e) none
  | .fdiv => (match st with
    | Sum.inr (Sum.inr (Sum.inl y)) :: Sum.inr (Sum.inr (Sum.inl x)) :: r => cond (decide (FP.fdiv x y &&& 0x7fffffff ≤ 0x7f800000)) (k pn lo (Sum.inr (Sum.inr (Sum.inl (FP.fdiv x y))) :: r) d e) none
    | _ => none)
  | .ddiv => (match st with
    | Sum.inr (Sum.inr (Sum.inr (Sum.inl y))) :: Sum.inr (Sum.inr (Sum.inr (Sum.inl x))) :: r => cond (decide (FP.ddiv x y &&& 0x7fffffffffffffff ≤ 0x7ff0000000000000)) (k pn lo (Sum.inr (Sum.inr (Sum.inr (Sum.inl (FP.ddiv x y)))) :: r) d e) none
    | _ => none)
  | .f2d => (match st with
    | Sum.inr (Sum.inr (Sum.inl x)) :: r => cond (decide (FP.f2d x &&& 0x7fffffffffffffff ≤ 0x7ff0000000000000)) (k pn lo (Sum.inr (Sum.inr (Sum.inr (Sum.inl (FP.f2d x)))) :: r) d e) none
    | _ => none)
  | _ => none
