/-! WHAT THE STATEMENT GIVES OF THE START -/
def nfl : List Cond := flatC (Cond.and given_1 narrow_1)
abbrev sVF (t : Term) : Term := .field t "java/lang/String" "value" "[B"

def tzl : List (String × Nat × Nat × Nat × Nat × Nat × Nat) := [("AdventureWorld$Words", 47, 750, 751, 752, 753, 754), ("AdventureWorld$Words", 49, 759, 760, 761, 762, 763), ("AdventureWorld$Words", 51, 767, 768, 769, 770, 771), ("AdventureWorld$Words", 53, 776, 777, 778, 779, 780), ("AdventureWorld$Words", 55, 784, 785, 786, 787, 788), ("AdventureWorld$Words", 57, 790, 791, 792, 793, 794), ("AdventureWorld$Words", 59, 798, 799, 800, 801, 802), ("AdventureWorld$Words", 61, 806, 807, 808, 809, 810), ("AdventureWorld$Words", 63, 814, 815, 816, 817, 818), ("AdventureWorld$Words", 65, 821, 822, 823, 824, 825), ("AdventureWorld$Words", 67, 830, 831, 832, 833, 834), ("AdventureWorld$Words", 69, 839, 840, 841, 842, 843), ("AdventureWorld$Words", 71, 848, 849, 850, 851, 852), ("AdventureWorld$Words", 73, 858, 859, 860, 861, 862), ("AdventureWorld$Words", 75, 868, 869, 870, 871, 872), ("AdventureWorld$Words", 77, 879, 880, 881, 882, 883), ("AdventureWorld$Words", 79, 887, 888, 889, 890, 891), ("AdventureWorld$Words", 81, 896, 897, 898, 899, 900), ("AdventureWorld$Words", 15, 907, 908, 909, 910, 911), ("AdventureWorld$Words", 17, 914, 915, 916, 917, 918), ("AdventureWorld$Words", 19, 922, 923, 924, 925, 926), ("AdventureWorld$Words", 21, 929, 930, 931, 932, 933), ("AdventureWorld$Words", 23, 937, 938, 939, 940, 941), ("AdventureWorld$Words", 25, 945, 946, 947, 948, 949), ("AdventureWorld$Words", 27, 953, 954, 955, 956, 957), ("AdventureWorld$Words", 29, 961, 962, 963, 964, 965), ("AdventureWorld$Words", 31, 969, 970, 971, 972, 973), ("AdventureWorld$Words", 33, 977, 978, 979, 980, 981), ("AdventureWorld$Words", 35, 985, 986, 987, 988, 989), ("AdventureWorld$Words", 37, 993, 994, 995, 996, 997), ("AdventureWorld$Words", 39, 1000, 1001, 1002, 1003, 1004), ("AdventureWorld$Words", 41, 1008, 1009, 1010, 1011, 1012), ("AdventureWorld$Words", 43, 1016, 1017, 1018, 1019, 1020), ("AdventureWorld$Words", 45, 1026, 1027, 1028, 1029, 1030)]
def tzi (i : Nat) : String × Nat × Nat × Nat × Nat × Nat × Nat := tzl.getD i ("", 0, 0, 0, 0, 0, 0)
def ldz : List ((String × Nat × String × Nat) × Nat × Nat × Nat) := [(("AdventureWorld$Words", 47, "north", 0), 0, 0, 915), (("AdventureWorld$Words", 49, "east", 1), 0, 0, 916), (("AdventureWorld$Words", 51, "south", 2), 0, 0, 917), (("AdventureWorld$Words", 53, "west", 3), 0, 0, 918), (("AdventureWorld$Words", 55, "up", 4), 0, 0, 919), (("AdventureWorld$Words", 57, "down", 5), 0, 0, 920), (("AdventureWorld$Words", 59, "look", 6), 0, 0, 921), (("AdventureWorld$Words", 61, "wait", 7), 0, 0, 922), (("AdventureWorld$Words", 63, "go ", 8), 0, 0, 923), (("AdventureWorld$Words", 65, "take ", 9), 0, 0, 924), (("AdventureWorld$Words", 67, "drop ", 10), 0, 0, 925), (("AdventureWorld$Words", 69, "open ", 11), 0, 0, 926), (("AdventureWorld$Words", 71, "close ", 12), 0, 0, 927), (("AdventureWorld$Words", 73, "light ", 13), 0, 0, 928), (("AdventureWorld$Words", 75, "quench ", 14), 0, 0, 929), (("AdventureWorld$Words", 77, "put ", 15), 0, 0, 930), (("AdventureWorld$Words", 79, "lock ", 16), 0, 0, 931), (("AdventureWorld$Words", 81, "unlock ", 17), 0, 0, 932), (("AdventureWorld$Words", 15, "box", 18), 0, 0, 933), (("AdventureWorld$Words", 17, "lamp", 19), 0, 0, 934), (("AdventureWorld$Words", 19, "key", 20), 0, 0, 935), (("AdventureWorld$Words", 21, "door", 21), 0, 0, 936), (("AdventureWorld$Words", 23, "coin", 22), 0, 0, 937), (("AdventureWorld$Words", 25, "rope", 23), 0, 0, 938), (("AdventureWorld$Words", 27, "book", 24), 0, 0, 939), (("AdventureWorld$Words", 29, "bell", 25), 0, 0, 940), (("AdventureWorld$Words", 31, "red ", 26), 0, 0, 941), (("AdventureWorld$Words", 33, "old ", 27), 0, 0, 942), (("AdventureWorld$Words", 35, "big ", 28), 0, 0, 943), (("AdventureWorld$Words", 37, "all", 29), 0, 0, 944), (("AdventureWorld$Words", 39, " in ", 30), 0, 0, 945), (("AdventureWorld$Words", 41, " on ", 31), 0, 0, 946), (("AdventureWorld$Words", 43, " with ", 32), 0, 0, 947), (("AdventureWorld$Words", 45, ". ", 33), 0, 0, 948), (("AdventureWorldModel", 174, "red ", 26), 1, 1417, 1831), (("AdventureWorldModel", 176, "old ", 27), 1, 1426, 1832), (("AdventureWorldModel", 178, "big ", 28), 1, 1435, 1833), (("AdventureWorldModel", 158, "box", 18), 1, 1443, 1837), (("AdventureWorldModel", 160, "lamp", 19), 1, 1452, 1838), (("AdventureWorldModel", 162, "key", 20), 1, 1460, 1839), (("AdventureWorldModel", 164, "door", 21), 1, 1469, 1840), (("AdventureWorldModel", 166, "coin", 22), 1, 1478, 1841), (("AdventureWorldModel", 168, "rope", 23), 1, 1487, 1842), (("AdventureWorldModel", 170, "book", 24), 1, 1496, 1843), (("AdventureWorldModel", 172, "bell", 25), 1, 1505, 1844), (("AdventureWorldModel", 240, "all", 29), 1, 1408, 1827), (("AdventureWorldModel", 288, " in ", 30), 1, 1514, 1849), (("AdventureWorldModel", 290, " on ", 31), 1, 1523, 1850), (("AdventureWorldModel", 180, "north", 0), 1, 1356, 1809), (("AdventureWorldModel", 182, "east", 1), 1, 1365, 1810), (("AdventureWorldModel", 184, "south", 2), 1, 1375, 1811), (("AdventureWorldModel", 186, "west", 3), 1, 1384, 1812), (("AdventureWorldModel", 188, "up", 4), 1, 1391, 1813), (("AdventureWorldModel", 190, "down", 5), 1, 1400, 1814), (("AdventureWorldModel", 192, "look", 6), 1, 1234, 1784), (("AdventureWorldModel", 194, "wait", 7), 1, 1243, 1785), (("AdventureWorldModel", 196, "go ", 8), 1, 1251, 1786), (("AdventureWorldModel", 198, "take ", 9), 1, 1261, 1787), (("AdventureWorldModel", 200, "drop ", 10), 1, 1271, 1788), (("AdventureWorldModel", 202, "open ", 11), 1, 1281, 1789), (("AdventureWorldModel", 204, "close ", 12), 1, 1292, 1790), (("AdventureWorldModel", 206, "light ", 13), 1, 1303, 1791), (("AdventureWorldModel", 208, "quench ", 14), 1, 1315, 1792), (("AdventureWorldModel", 210, "put ", 15), 1, 1324, 1793), (("AdventureWorldModel", 212, "lock ", 16), 1, 1334, 1794), (("AdventureWorldModel", 214, "unlock ", 17), 1, 1346, 1795), (("AdventureWorldModel", 280, " with ", 32), 1, 1534, 1855), (("AdventureWorldModel", 295, ". ", 33), 1, 1541, 1860)]
def thz : List ((String × Nat × String) × Nat × Nat) := [(("AdventureWorld", 470, "out of range"), 293, 698), (("AdventureWorld", 466, "no such thing"), 276, 694), (("AdventureWorld", 458, "the world is played"), 106, 542), (("AdventureWorld", 209, "not a thing for this daemon"), 596, 830), (("AdventureWorld", 215, "there are 6 daemons"), 627, 835), (("AdventureWorld", 78, "there are 8 rooms"), 129, 587), (("AdventureWorld", 116, "an argument is out of range"), 222, 671), (("AdventureWorld", 122, "there are 16 things"), 253, 676), (("AdventureWorld", 241, "not from 1 to 4 characters"), 693, 884), (("AdventureWorld", 246, "more than 80 characters"), 723, 885), (("AdventureWorld", 464, "no such room"), 650, 847), (("AdventureWorld", 468, "no exit"), 1075, 1360), (("AdventureWorld", 92, "no such room or thing"), 150, 634), (("AdventureWorld", 462, "the text has a fault"), 1032, 1021), (("AdventureWorld", 460, "the world is not played"), 666, 867), (("AdventureWorld", 105, "no such direction, or not a door of an exit"), 175, 652), (("AdventureWorld", 369, "no such thing there"), 1086, 1413), (("AdventureWorld", 398, "no such daemon"), 1158, 1490), (("AdventureWorld", 379, "no such way"), 1109, 1439), (("AdventureWorld", 416, "no such event"), 1176, 1503), (("AdventureWorld", 440, "no such letter"), 1193, 1521), (("AdventureWorld", 387, "no rooms"), 1124, 1469), (("AdventureWorld", 390, "nothing is carried"), 1136, 1478), (("AdventureWorld", 193, "a door, or no container or supporter"), 523, 788), (("AdventureWorld", 198, "in or on itself, or too great"), 563, 814), (("AdventureWorld", 456, "no snapshot"), 1211, 1537), (("AdventureWorld", 144, "neither a container nor a supporter"), 309, 713), (("AdventureWorld", 150, "what is in or on it needs more"), 348, 724), (("AdventureWorld", 160, "its kind cannot have this flag"), 382, 741), (("AdventureWorld", 168, "open and locked, or lit without fuel"), 416, 746), (("AdventureWorld", 182, "not a lamp"), 490, 768), (("AdventureWorld", 184, "the lamp is lit"), 504, 769), (("AdventureWorld", 177, "neither a container nor a door"), 456, 760), (("AdventureWorld", 321, "no turn is kept"), 1056, 1304)]
def ncz (i j : Nat) : Nat := ([0, 52, 37, 68, 84, 100, 23, 0, 38, 71, 87, 103, 22, 54, 0, 70, 86, 102, 24, 55, 39, 0, 88, 104, 25, 56, 40, 72, 0, 105, 26, 57, 41, 73, 89, 0] : List Nat).getD (6 * i + j) 0
def nB (i : Nat) (w : Cond) : Bool := decide (nfl[i]? = some w)
def tzT (i : Nat) : Term := .string (tzi i).1 (tzi i).2.1
def tzB (i : Nat) : Bool := nB (tzi i).2.2.1 (.exactly (tzT i) "java/lang/String") && (nB (tzi i).2.2.2.1 (.eq (.field (tzT i) "java/lang/String" "coder" "B") (.int 0)) && (nB (tzi i).2.2.2.2.1 (.arrayOf (sVF (tzT i)) .byte) && (nB (tzi i).2.2.2.2.2.1 (.eq (.length (sVF (tzT i))) (.int (Int32.ofNat (ax_lenS.getD i 0)))) &&
  ((List.range (ax_lenS.getD i 0)).all (fun j => nB ((tzi i).2.2.2.2.2.2 + j) (.eq (.elem (sVF (tzT i)) (.int (Int32.ofNat j))) (.int ((ax_bytS.getD i []).getD j 0)))) && Nat.blt (ax_lenS.getD i 0) 1000))))
theorem tz_ok : (List.range 34).all tzB = true := by decide +kernel
def ldB (z : (String × Nat × String × Nat) × Nat × Nat × Nat) : Bool := decide (lw_tbl[z.2.2.2]? = some (.stringRef z.1.1 z.1.2.1 z.1.2.2.1)) && (Nat.blt z.1.2.2.2 34 && cond (Nat.beq z.2.1 0) (decide ((tzi z.1.2.2.2).1 = z.1.1) && decide ((tzi z.1.2.2.2).2.1 = z.1.2.1)) (nB z.2.2.1 (.eq (tzT z.1.2.2.2) (.string z.1.1 z.1.2.1))))
theorem ld_ok : ldz.all ldB = true := by decide +kernel
theorem ld_ldc : ldz.map (fun z => z.1) = ax_ldc := by decide +kernel
def stzB (z : (String × Nat × String) × Nat × Nat) : Bool := decide (lw_tbl[z.2.2]? = some (.stringRef z.1.1 z.1.2.1 z.1.2.2)) && nB z.2.1 (.exactly (.string z.1.1 z.1.2.1) "java/lang/String")
theorem th_ok : thz.all stzB = true := by decide +kernel
theorem th_thr : thz.map (fun z => z.1) = ax_thr := by decide +kernel
theorem nc_ok : (List.range 6).all (fun i => (List.range 6).all (fun j => Nat.beq i j || nB (ncz i j) (.not (.castable (ax_exc i) (ax_exc j))))) = true := by decide +kernel
theorem nest_ok : ax_nest.all (fun w => decide (w ∈ lw_tbl)) = true := by decide +kernel
theorem tx_apart : (List.range 34).all (fun i => (List.range 34).all (fun j => Nat.beq i j || !(Nat.beq (ax_lenS.getD i 0) (ax_lenS.getD j 0)) || (List.range (ax_lenS.getD i 0)).any (fun k => !(decide ((ax_bytS.getD i []).getD k 0 = (ax_bytS.getD j []).getD k 0))))) = true := by decide +kernel
theorem sw_us : lw_tbl[524]? = some (.laysStatic "java/lang/Throwable" "UNASSIGNED_STACK" "[Ljava/lang/StackTraceElement;") ∧ lw_tbl[112]? = some (.initialized "java/lang/Throwable") ∧ nfl[4]? = some (.isRef (.static "java/lang/Throwable" "UNASSIGNED_STACK" "[Ljava/lang/StackTraceElement;")) := by decide +kernel
theorem sw_ss : lw_tbl[526]? = some (.laysStatic "java/lang/Throwable" "SUPPRESSED_SENTINEL" "Ljava/util/List;") ∧ lw_tbl[112]? = some (.initialized "java/lang/Throwable") ∧ nfl[5]? = some (.isRef (.static "java/lang/Throwable" "SUPPRESSED_SENTINEL" "Ljava/util/List;")) := by decide +kernel
theorem sw_cs : lw_tbl[962]? = some (.laysStatic "java/lang/String" "COMPACT_STRINGS" "Z") ∧ lw_tbl[118]? = some (.initialized "java/lang/String") ∧ nfl[6]? = some (.eq (.static "java/lang/String" "COMPACT_STRINGS" "Z") (.int 1)) := by decide +kernel
theorem sw_sf : lw_tbl[978]? = some (.laysStatic "jdk/internal/util/Preconditions" "SIOOBE_FORMATTER" "Ljava/util/function/BiFunction;") ∧ lw_tbl[124]? = some (.initialized "jdk/internal/util/Preconditions") ∧ nfl[7]? = some (.isRef (.static "jdk/internal/util/Preconditions" "SIOOBE_FORMATTER" "Ljava/util/function/BiFunction;")) := by decide +kernel
theorem tz_sizes : ax_nstr = 34 := rfl
section ST
variable {args : Array Value} {s : State} {A : Nat → Prop}
theorem n_at (h : (Cond.and given_1 narrow_1).before args s = true) {i : Nat} {w : Cond} (hb : nB i w = true) : w.before args s = true := flat_of_before _ h w (List.mem_of_getElem? (of_decide_eq_true hb))
theorem st_txt1 (h : (Cond.and given_1 narrow_1).before args s = true) (hA : ∀ a : Nat, a < s.heap.size → ¬ A a) (i : Nat) (hi : i < 34) : ∃ q : Nat × Nat, (tzT i).eval args s none [] s = some (.ref q.1) ∧ va_O "java/lang/String" q.1 A s s.heap ∧ va_OF "java/lang/String" "coder" "B" (.int 0) q.1 A s s.heap ∧ va_OF "java/lang/String" "value" "[B" (.ref q.2) q.1 A s s.heap ∧ va_T .byte q.2 (ax_lenS.getD i 0) (fun j => .int ((ax_bytS.getD i []).getD j 0)) A s s.heap := by
  obtain ⟨h1, h2⟩ := ax_an (List.all_eq_true.mp tz_ok i (List.mem_range.mpr hi))
  obtain ⟨h2, h3⟩ := ax_an h2
  obtain ⟨h3, h4⟩ := ax_an h3
  obtain ⟨h4, h5⟩ := ax_an h4
  obtain ⟨h5, h6⟩ := ax_an h5
  have hl : ax_lenS.getD i 0 < 1000 := Nat.le_of_ble_eq_true h6
  have q1 : ∀ j : Nat, j < 1 → [ax_lenS.getD i 0].getD j 0 < 2 ^ 31 := by
    intro j hj
    have : j = 0 := by omega
    subst this
    show ax_lenS.getD i 0 < 2 ^ 31
    omega
  have q2 : ∀ j : Nat, j < 1 → (Cond.eq (.length (sVF (tzT i))) (.int (Int32.ofNat ([ax_lenS.getD i 0].getD j 0)))).before args s = true := by
    intro j hj
    have : j = 0 := by omega
    subst this
    exact n_at h h4
  have q3 : ∀ j : Nat, j < 1 → ∀ k : Nat, k < [ax_lenS.getD i 0].getD j 0 → (Cond.eq (.elem (sVF (tzT i)) (.int (Int32.ofNat k))) (.int (([ax_bytS.getD i []].getD j []).getD k 0))).before args s = true := by
    intro j hj
    have : j = 0 := by omega
    subst this
    intro k hk
    exact n_at h (List.all_eq_true.mp h5 k (List.mem_range.mpr hk))
  obtain ⟨a, v, hv, he⟩ := vk_Sof (args := args) (s := s) (N := 1) (tm := fun _ => tzT i) (len := [ax_lenS.getD i 0]) (byt := [ax_bytS.getD i []]) (A := A) q1 (fun j hj => n_at h h1) (fun j hj => n_at h h2) (fun j hj => n_at h h3) q2 q3 (fun j k hj hk hne => absurd (show j = k by omega) hne) hA
  exact ⟨(a 0, v 0), he 0 (by omega), hv.1 0 (by omega)⟩
theorem va_OF_inj {C n d : String} {u v : Value} {a : Nat} {H : Heap} (h1 : va_OF C n d u a A s H) (h2 : va_OF C n d v a A s H) : u = v := by
  obtain ⟨cf, k, fi, f, cell, g1, g2, g3, g4, g5, g6⟩ := h1
  obtain ⟨cf', k', fi', f', cell', e1, e2, e3, e4, e5, e6⟩ := h2
  cases g1.symm.trans e1
  cases g3.symm.trans e3
  exact Option.some.inj (g5.symm.trans e5)
theorem va_T_inj {ty : FieldType} {t n k : Nat} {f g : Nat → Value} {H : Heap} (hn : n < 1000) (hk : k < 1000) (h1 : va_T ty t n f A s H) (h2 : va_T ty t k g A s H) : n = k ∧ ∀ j, j < n → f j = g j := by
  obtain ⟨cell, g1, -, -, -, g5, g6, -⟩ := h1
  obtain ⟨cell', e1, -, -, -, e5, e6, -⟩ := h2
  cases g1.symm.trans e1
  have e : nI n = nI k := g5.symm.trans e5
  have e9 := congrArg Int32.toNatClampNeg e
  rw [nI_clamp (by omega), nI_clamp (by omega)] at e9
  subst e9
  exact ⟨rfl, fun j hj => Option.some.inj ((g6 j hj).symm.trans (e6 j hj))⟩
theorem st_txt (h : (Cond.and given_1 narrow_1).before args s = true) (hA : ∀ a : Nat, a < s.heap.size → ¬ A a) : ∃ adK adV : Nat → Nat, vk_S ax_nstr ax_lenS ax_bytS adK adV A s s.heap ∧ ∀ i : Nat, i < 34 → (tzT i).eval args s none [] s = some (.ref (adK i)) := by
  have key : ∀ i : Nat, i < 34 → ∃ x y : Nat, (tzT i).eval args s none [] s = some (.ref x) ∧ va_O "java/lang/String" x A s s.heap ∧ va_OF "java/lang/String" "coder" "B" (.int 0) x A s s.heap ∧ va_OF "java/lang/String" "value" "[B" (.ref y) x A s s.heap ∧ va_T .byte y (ax_lenS.getD i 0) (fun j => .int ((ax_bytS.getD i []).getD j 0)) A s s.heap := fun i hi =>
    let ⟨q, hq⟩ := st_txt1 h hA i hi
    ⟨q.1, q.2, hq⟩
  let obj : Nat → Nat := fun i => if z : i < 34 then (key i z).choose else 0
  let row : Nat → Nat := fun i => if z : i < 34 then (key i z).choose_spec.choose else 0
  have sob : ∀ (i : Nat) (z : i < 34), obj i = (key i z).choose := fun i z => dif_pos z
  have sro : ∀ (i : Nat) (z : i < 34), row i = (key i z).choose_spec.choose := fun i z => dif_pos z
  have all5 : ∀ (i : Nat) (z : i < 34), (tzT i).eval args s none [] s = some (.ref (obj i)) ∧ va_O "java/lang/String" (obj i) A s s.heap ∧ va_OF "java/lang/String" "coder" "B" (.int 0) (obj i) A s s.heap ∧ va_OF "java/lang/String" "value" "[B" (.ref (row i)) (obj i) A s s.heap ∧ va_T .byte (row i) (ax_lenS.getD i 0) (fun j => .int ((ax_bytS.getD i []).getD j 0)) A s s.heap := by
    intro i z
    rw [sob i z, sro i z]
    exact (key i z).choose_spec.choose_spec
  refine Exists.intro obj (Exists.intro row (And.intro (And.intro (fun i z => (all5 i z).2) ?_) (fun i z => (all5 i z).1)))
  intro i j hi hj e
  have e1 : obj i = obj j := e
  have f1 := (all5 i hi).2.2.2.1
  have f2 := (all5 j hj).2.2.2.1
  rw [e1] at f1
  have e2 : row i = row j := Value.ref.inj (va_OF_inj f1 f2)
  have t1 := (all5 i hi).2.2.2.2
  have t2 := (all5 j hj).2.2.2.2
  rw [e2] at t1
  have hl : ∀ z, z < 34 → ax_lenS.getD z 0 < 1000 := fun z hz => Nat.le_of_ble_eq_true (ax_an (ax_an (ax_an (ax_an (ax_an (List.all_eq_true.mp tz_ok z (List.mem_range.mpr hz))).2).2).2).2).2
  obtain ⟨g1, g2⟩ := va_T_inj (hl i hi) (hl j hj) t1 t2
  have hb := List.all_eq_true.mp (List.all_eq_true.mp tx_apart i (List.mem_range.mpr hi)) j (List.mem_range.mpr hj)
  rcases (Bool.or_eq_true _ _).mp hb with hb | hb
  · rcases (Bool.or_eq_true _ _).mp hb with hb | hb
    · exact Nat.eq_of_beq_eq_true hb
    · rw [g1, Nat.beq_refl] at hb
      cases hb
  · obtain ⟨k, hk, hb⟩ := List.any_eq_true.mp hb
    have hk := List.mem_range.mp hk
    have e3 := g2 k hk
    have e4 : (ax_bytS.getD i []).getD k 0 = (ax_bytS.getD j []).getD k 0 := Value.int.inj e3
    rw [decide_eq_true e4] at hb
    cases hb
theorem st_ext {G : ax_G} (h : (Cond.and given_1 narrow_1).before args s = true) (hts : ∀ w ∈ lw_tbl, w.before args s = true) (hA : ∀ a : Nat, a < s.heap.size → ¬ A a)
    (hS : vk_S ax_nstr ax_lenS ax_bytS (fun i => G.2.2.1 13 i 0) (fun i => G.2.2.1 13 i 1) A s s.heap) (hE : ∀ i : Nat, i < 34 → (tzT i).eval args s none [] s = some (.ref (G.2.2.1 13 i 0))) : ax_Ext ax_ldc ax_nest ax_thr G A s s.heap := by
  have at' : ∀ {w : Cond} {i : Nat}, lw_tbl[i]? = some w → w.before args s = true := fun hw => hts _ (List.mem_of_getElem? hw)
  have n' : ∀ {w : Cond} {i : Nat}, nfl[i]? = some w → w.before args s = true := fun hw => flat_of_before _ h _ (List.mem_of_getElem? hw)
  refine ⟨vx_Zqof (at' sw_us.1) (at' sw_us.2.1) (n' sw_us.2.2) hA, vx_Zqof (at' sw_ss.1) (at' sw_ss.2.1) (n' sw_ss.2.2) hA, hS, va_Zof (at' sw_cs.1) (at' sw_cs.2.1) (va_eqt (n' sw_cs.2.2)) hA, fun q hq => ?_, fun w hw => ?_, fun q hq => ?_, va_Zqof (at' sw_sf.1) (at' sw_sf.2.1) (n' sw_sf.2.2) hA⟩
  · rw [← ld_ldc] at hq
    obtain ⟨z, hz, rfl⟩ := List.mem_map.mp hq
    obtain ⟨h1, h2⟩ := ax_an (List.all_eq_true.mp ld_ok z hz)
    obtain ⟨h2, h3⟩ := ax_an h2
    have hi : z.1.2.2.2 < 34 := Nat.le_of_ble_eq_true h2
    refine vk_R.of (A := args) (at' (of_decide_eq_true h1)) ?_
    rcases ax_c2b h3 with ⟨g1, g2⟩ | ⟨g1, g2⟩
    · obtain ⟨e1, e2⟩ := ax_an g2
      have e1 := of_decide_eq_true e1
      have e2 := of_decide_eq_true e2
      have := hE z.1.2.2.2 hi
      unfold tzT at this
      rw [e1, e2] at this
      exact this
    · exact va_eqR (n_at h g2) (hE z.1.2.2.2 hi)
  · have hw2 : w ∈ lw_tbl := of_decide_eq_true (List.all_eq_true.mp nest_ok w hw)
    exact va_Nw.of (ax_stab w hw).1 (hts w hw2)
  · rw [← th_thr] at hq
    obtain ⟨z, hz, rfl⟩ := List.mem_map.mp hq
    obtain ⟨h1, h2⟩ := ax_an (List.all_eq_true.mp th_ok z hz)
    obtain ⟨a, c, cA, kA, q1, -⟩ := Cond.exactly_spec (args := args) (first := s) (o := none) (s := s) (idx := []) (t := .string z.1.1 z.1.2.1) (cls := "java/lang/String") (n_at h h2)
    exact ⟨a, vk_R.of (A := args) (at' (of_decide_eq_true h1)) q1⟩
theorem st_nc (h : (Cond.and given_1 narrow_1).before args s = true) : lx_NC s := by
  intro i j hi hj hne
  have hb := List.all_eq_true.mp (List.all_eq_true.mp nc_ok i (List.mem_range.mpr hi)) j (List.mem_range.mpr hj)
  rcases (Bool.or_eq_true _ _).mp hb with hb | hb
  · exact absurd (Nat.eq_of_beq_eq_true hb) hne
  · exact va_Nc.of (n_at h hb)
end ST
