/-! every entry of the tables is what the code says -/
def ax_gA (id : Nat) (own : String) (tb : Nat → Option ax_En) (n : Nat) : Bool := (List.range n).all (fun pc => match tb pc with
  | none => true
  | some en => ax_gB (ax_m id) (ax_rt id) (ax_f id) (ax_l id) id own ax_fl ax_cl9 ax_nl ax_ldc ax_k ax_n ax_f ax_l ax_m ax_thr ax_thl ax_cst (ax_b id) pc en.1 en.2.1 en.2.2.1 en.2.2.2.1 en.2.2.2.2.1 en.2.2.2.2.2.1 en.2.2.2.2.2.2)
theorem ax_gOf {id : Nat} {own : String} {tb : Nat → Option ax_En} {n : Nat} (h : ax_gA id own tb n = true) (hn : ∀ pc, Nat.blt pc n = false → tb pc = none) : ax_good (ax_m id) (ax_rt id) (ax_f id) (ax_l id) id own ax_fl ax_cl9 ax_nl ax_ldc ax_k ax_n ax_f ax_l ax_m ax_thr ax_thl ax_cst (ax_b id) tb := by
  intro pc en hp
  cases hb : Nat.blt pc n with
  | false => rw [hn pc hb] at hp; cases hp
  | true =>
    have h1 := List.all_eq_true.mp h pc (List.mem_range.mpr (Nat.le_of_ble_eq_true hb))
    rw [hp] at h1
    exact h1
theorem ax_gc2 : ax_gA 2 "AdventureWorld" ax_t2 16 = true := by decide +kernel
theorem ax_gd2 : ax_good (ax_m 2) (ax_rt 2) (ax_f 2) (ax_l 2) 2 "AdventureWorld" ax_fl ax_cl9 ax_nl ax_ldc ax_k ax_n ax_f ax_l ax_m ax_thr ax_thl ax_cst (ax_b 2) ax_t2 := ax_gOf ax_gc2 (fun pc h => by unfold ax_t2; rw [h]; rfl)
theorem ax_gc3 : ax_gA 3 "AdventureWorld" ax_t3 21 = true := by decide +kernel
theorem ax_gd3 : ax_good (ax_m 3) (ax_rt 3) (ax_f 3) (ax_l 3) 3 "AdventureWorld" ax_fl ax_cl9 ax_nl ax_ldc ax_k ax_n ax_f ax_l ax_m ax_thr ax_thl ax_cst (ax_b 3) ax_t3 := ax_gOf ax_gc3 (fun pc h => by unfold ax_t3; rw [h]; rfl)
theorem ax_gc4 : ax_gA 4 "AdventureWorld$Plan" ax_t4 18 = true := by decide +kernel
theorem ax_gd4 : ax_good (ax_m 4) (ax_rt 4) (ax_f 4) (ax_l 4) 4 "AdventureWorld$Plan" ax_fl ax_cl9 ax_nl ax_ldc ax_k ax_n ax_f ax_l ax_m ax_thr ax_thl ax_cst (ax_b 4) ax_t4 := ax_gOf ax_gc4 (fun pc h => by unfold ax_t4; rw [h]; rfl)
theorem ax_gc5 : ax_gA 5 "AdventureWorld" ax_t5 26 = true := by decide +kernel
theorem ax_gd5 : ax_good (ax_m 5) (ax_rt 5) (ax_f 5) (ax_l 5) 5 "AdventureWorld" ax_fl ax_cl9 ax_nl ax_ldc ax_k ax_n ax_f ax_l ax_m ax_thr ax_thl ax_cst (ax_b 5) ax_t5 := ax_gOf ax_gc5 (fun pc h => by unfold ax_t5; rw [h]; rfl)
theorem ax_gc6 : ax_gA 6 "AdventureWorld$World" ax_t6 14 = true := by decide +kernel
theorem ax_gd6 : ax_good (ax_m 6) (ax_rt 6) (ax_f 6) (ax_l 6) 6 "AdventureWorld$World" ax_fl ax_cl9 ax_nl ax_ldc ax_k ax_n ax_f ax_l ax_m ax_thr ax_thl ax_cst (ax_b 6) ax_t6 := ax_gOf ax_gc6 (fun pc h => by unfold ax_t6; rw [h]; rfl)
theorem ax_gc7 : ax_gA 7 "AdventureWorld" ax_t7 25 = true := by decide +kernel
theorem ax_gd7 : ax_good (ax_m 7) (ax_rt 7) (ax_f 7) (ax_l 7) 7 "AdventureWorld" ax_fl ax_cl9 ax_nl ax_ldc ax_k ax_n ax_f ax_l ax_m ax_thr ax_thl ax_cst (ax_b 7) ax_t7 := ax_gOf ax_gc7 (fun pc h => by unfold ax_t7; rw [h]; rfl)
theorem ax_gc8 : ax_gA 8 "AdventureWorld$Plan" ax_t8 23 = true := by decide +kernel
theorem ax_gd8 : ax_good (ax_m 8) (ax_rt 8) (ax_f 8) (ax_l 8) 8 "AdventureWorld$Plan" ax_fl ax_cl9 ax_nl ax_ldc ax_k ax_n ax_f ax_l ax_m ax_thr ax_thl ax_cst (ax_b 8) ax_t8 := ax_gOf ax_gc8 (fun pc h => by unfold ax_t8; rw [h]; rfl)
theorem ax_gc9 : ax_gA 9 "AdventureWorld$Plan" ax_t9 24 = true := by decide +kernel
theorem ax_gd9 : ax_good (ax_m 9) (ax_rt 9) (ax_f 9) (ax_l 9) 9 "AdventureWorld$Plan" ax_fl ax_cl9 ax_nl ax_ldc ax_k ax_n ax_f ax_l ax_m ax_thr ax_thl ax_cst (ax_b 9) ax_t9 := ax_gOf ax_gc9 (fun pc h => by unfold ax_t9; rw [h]; rfl)
theorem ax_gc10 : ax_gA 10 "AdventureWorld$Plan" ax_t10 79 = true := by decide +kernel
theorem ax_gd10 : ax_good (ax_m 10) (ax_rt 10) (ax_f 10) (ax_l 10) 10 "AdventureWorld$Plan" ax_fl ax_cl9 ax_nl ax_ldc ax_k ax_n ax_f ax_l ax_m ax_thr ax_thl ax_cst (ax_b 10) ax_t10 := ax_gOf ax_gc10 (fun pc h => by unfold ax_t10; rw [h]; rfl)
theorem ax_gc11 : ax_gA 11 "AdventureWorld" ax_t11 20 = true := by decide +kernel
theorem ax_gd11 : ax_good (ax_m 11) (ax_rt 11) (ax_f 11) (ax_l 11) 11 "AdventureWorld" ax_fl ax_cl9 ax_nl ax_ldc ax_k ax_n ax_f ax_l ax_m ax_thr ax_thl ax_cst (ax_b 11) ax_t11 := ax_gOf ax_gc11 (fun pc h => by unfold ax_t11; rw [h]; rfl)
theorem ax_gc12 : ax_gA 12 "AdventureWorld$Plan" ax_t12 69 = true := by decide +kernel
theorem ax_gd12 : ax_good (ax_m 12) (ax_rt 12) (ax_f 12) (ax_l 12) 12 "AdventureWorld$Plan" ax_fl ax_cl9 ax_nl ax_ldc ax_k ax_n ax_f ax_l ax_m ax_thr ax_thl ax_cst (ax_b 12) ax_t12 := ax_gOf ax_gc12 (fun pc h => by unfold ax_t12; rw [h]; rfl)
theorem ax_gc13 : ax_gA 13 "AdventureWorld" ax_t13 82 = true := by decide +kernel
theorem ax_gd13 : ax_good (ax_m 13) (ax_rt 13) (ax_f 13) (ax_l 13) 13 "AdventureWorld" ax_fl ax_cl9 ax_nl ax_ldc ax_k ax_n ax_f ax_l ax_m ax_thr ax_thl ax_cst (ax_b 13) ax_t13 := ax_gOf ax_gc13 (fun pc h => by unfold ax_t13; rw [h]; rfl)
theorem ax_gc14 : ax_gA 14 "AdventureWorld$Plan" ax_t14 18 = true := by decide +kernel
theorem ax_gd14 : ax_good (ax_m 14) (ax_rt 14) (ax_f 14) (ax_l 14) 14 "AdventureWorld$Plan" ax_fl ax_cl9 ax_nl ax_ldc ax_k ax_n ax_f ax_l ax_m ax_thr ax_thl ax_cst (ax_b 14) ax_t14 := ax_gOf ax_gc14 (fun pc h => by unfold ax_t14; rw [h]; rfl)
theorem ax_gc15 : ax_gA 15 "AdventureWorld$Plan" ax_t15 43 = true := by decide +kernel
theorem ax_gd15 : ax_good (ax_m 15) (ax_rt 15) (ax_f 15) (ax_l 15) 15 "AdventureWorld$Plan" ax_fl ax_cl9 ax_nl ax_ldc ax_k ax_n ax_f ax_l ax_m ax_thr ax_thl ax_cst (ax_b 15) ax_t15 := ax_gOf ax_gc15 (fun pc h => by unfold ax_t15; rw [h]; rfl)
theorem ax_gc16 : ax_gA 16 "AdventureWorld$Plan" ax_t16 63 = true := by decide +kernel
theorem ax_gd16 : ax_good (ax_m 16) (ax_rt 16) (ax_f 16) (ax_l 16) 16 "AdventureWorld$Plan" ax_fl ax_cl9 ax_nl ax_ldc ax_k ax_n ax_f ax_l ax_m ax_thr ax_thl ax_cst (ax_b 16) ax_t16 := ax_gOf ax_gc16 (fun pc h => by unfold ax_t16; rw [h]; rfl)
theorem ax_gc17 : ax_gA 17 "AdventureWorld" ax_t17 33 = true := by decide +kernel
theorem ax_gd17 : ax_good (ax_m 17) (ax_rt 17) (ax_f 17) (ax_l 17) 17 "AdventureWorld" ax_fl ax_cl9 ax_nl ax_ldc ax_k ax_n ax_f ax_l ax_m ax_thr ax_thl ax_cst (ax_b 17) ax_t17 := ax_gOf ax_gc17 (fun pc h => by unfold ax_t17; rw [h]; rfl)
theorem ax_gc18 : ax_gA 18 "AdventureWorld$Plan" ax_t18 87 = true := by decide +kernel
theorem ax_gd18 : ax_good (ax_m 18) (ax_rt 18) (ax_f 18) (ax_l 18) 18 "AdventureWorld$Plan" ax_fl ax_cl9 ax_nl ax_ldc ax_k ax_n ax_f ax_l ax_m ax_thr ax_thl ax_cst (ax_b 18) ax_t18 := ax_gOf ax_gc18 (fun pc h => by unfold ax_t18; rw [h]; rfl)
theorem ax_gc19 : ax_gA 19 "AdventureWorld$World" ax_t19 40 = true := by decide +kernel
theorem ax_gd19 : ax_good (ax_m 19) (ax_rt 19) (ax_f 19) (ax_l 19) 19 "AdventureWorld$World" ax_fl ax_cl9 ax_nl ax_ldc ax_k ax_n ax_f ax_l ax_m ax_thr ax_thl ax_cst (ax_b 19) ax_t19 := ax_gOf ax_gc19 (fun pc h => by unfold ax_t19; rw [h]; rfl)
theorem ax_gc20 : ax_gA 20 "AdventureWorld" ax_t20 113 = true := by decide +kernel
theorem ax_gd20 : ax_good (ax_m 20) (ax_rt 20) (ax_f 20) (ax_l 20) 20 "AdventureWorld" ax_fl ax_cl9 ax_nl ax_ldc ax_k ax_n ax_f ax_l ax_m ax_thr ax_thl ax_cst (ax_b 20) ax_t20 := ax_gOf ax_gc20 (fun pc h => by unfold ax_t20; rw [h]; rfl)
theorem ax_gc21 : ax_gA 21 "AdventureWorld$Reader" ax_t21 56 = true := by decide +kernel
theorem ax_gd21 : ax_good (ax_m 21) (ax_rt 21) (ax_f 21) (ax_l 21) 21 "AdventureWorld$Reader" ax_fl ax_cl9 ax_nl ax_ldc ax_k ax_n ax_f ax_l ax_m ax_thr ax_thl ax_cst (ax_b 21) ax_t21 := ax_gOf ax_gc21 (fun pc h => by unfold ax_t21; rw [h]; rfl)
theorem ax_gc22 : ax_gA 22 "AdventureWorld$Reader" ax_t22 58 = true := by decide +kernel
theorem ax_gd22 : ax_good (ax_m 22) (ax_rt 22) (ax_f 22) (ax_l 22) 22 "AdventureWorld$Reader" ax_fl ax_cl9 ax_nl ax_ldc ax_k ax_n ax_f ax_l ax_m ax_thr ax_thl ax_cst (ax_b 22) ax_t22 := ax_gOf ax_gc22 (fun pc h => by unfold ax_t22; rw [h]; rfl)
theorem ax_gc23 : ax_gA 23 "AdventureWorld" ax_t23 63 = true := by decide +kernel
theorem ax_gd23 : ax_good (ax_m 23) (ax_rt 23) (ax_f 23) (ax_l 23) 23 "AdventureWorld" ax_fl ax_cl9 ax_nl ax_ldc ax_k ax_n ax_f ax_l ax_m ax_thr ax_thl ax_cst (ax_b 23) ax_t23 := ax_gOf ax_gc23 (fun pc h => by unfold ax_t23; rw [h]; rfl)
theorem ax_gc24 : ax_gA 24 "AdventureWorld" ax_t24 26 = true := by decide +kernel
theorem ax_gd24 : ax_good (ax_m 24) (ax_rt 24) (ax_f 24) (ax_l 24) 24 "AdventureWorld" ax_fl ax_cl9 ax_nl ax_ldc ax_k ax_n ax_f ax_l ax_m ax_thr ax_thl ax_cst (ax_b 24) ax_t24 := ax_gOf ax_gc24 (fun pc h => by unfold ax_t24; rw [h]; rfl)
theorem ax_gc25 : ax_gA 25 "AdventureWorld$Past" ax_t25 6 = true := by decide +kernel
theorem ax_gd25 : ax_good (ax_m 25) (ax_rt 25) (ax_f 25) (ax_l 25) 25 "AdventureWorld$Past" ax_fl ax_cl9 ax_nl ax_ldc ax_k ax_n ax_f ax_l ax_m ax_thr ax_thl ax_cst (ax_b 25) ax_t25 := ax_gOf ax_gc25 (fun pc h => by unfold ax_t25; rw [h]; rfl)
theorem ax_gc26 : ax_gA 26 "AdventureWorld$World" ax_t26 145 = true := by decide +kernel
theorem ax_gd26 : ax_good (ax_m 26) (ax_rt 26) (ax_f 26) (ax_l 26) 26 "AdventureWorld$World" ax_fl ax_cl9 ax_nl ax_ldc ax_k ax_n ax_f ax_l ax_m ax_thr ax_thl ax_cst (ax_b 26) ax_t26 := ax_gOf ax_gc26 (fun pc h => by unfold ax_t26; rw [h]; rfl)
