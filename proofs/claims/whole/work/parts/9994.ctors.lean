/-! THE CONSTRUCTORS -/
def kl_plan (ar : Nat → ClassId)  (h : Nat) (f : Nat → Nat) : va_W := [(h, .inr (5, [.int 0, .int 0, .int 0, .int 0, .int 0, .ref (f 6), .ref (f 7), .ref (f 8), .ref (f 9), .ref (f 10), .ref (f 11), .ref (f 12), .ref (f 13), .ref (f 14), .ref (f 15), .ref (f 16), .ref (f 17)])), (f 17, .inl (ar 0, (6, .inl (fun _ => 0)))), (f 16, .inl (ar 0, (6, .inl (fun _ => 0)))), (f 15, .inl (ar 0, (6, .inl (fun _ => 0)))), (f 14, .inl (ar 0, (16, .inl (fun _ => 0)))), (f 13, .inl (ar 0, (16, .inl (fun _ => 0)))), (f 12, .inl (ar 0, (16, .inl (fun _ => 0)))), (f 11, .inl (ar 0, (16, .inl (fun _ => 0)))), (f 10, .inl (ar 0, (16, .inl (fun _ => 0)))), (f 9, .inl (ar 0, (16, .inl (fun _ => 0)))), (f 8, .inl (ar 0, (16, .inl (fun _ => 0)))), (f 7, .inl (ar 0, (48, .inl (fun _ => 0)))), (f 6, .inl (ar 0, (48, .inl (fun _ => 0))))]
set_option maxHeartbeats 4000000 in
set_option maxRecDepth 100000 in
theorem kc_plan (l : Launch) (D : va_G) (ar : Nat → ClassId)  : kC l D ar ⟨"AdventureWorld$Plan", "<init>", "()V"⟩ prog_6_method_1_code 1 1 12 12 226 3 [] (kl_plan ar ) := by
  refine k_met (by decide) rfl (Nat.le_of_ble_eq_true rfl) ?_
  intro p e s m args below meth c h0 E hin hlk hr hml ls hl
  have hl : lv_has ls 1 [(0, .ref h0)] := hl
  refine k_al E 0 h0 (show decode prog_6_method_1_code 0 = .ok (.aload_n 0, 1) from by decide +kernel) rfl (lv_at hl 0 rfl) ?_
  refine k_obj E hml hl.1 (ax_at (i := 144) (by decide +kernel)) (show decode prog_6_method_1_code 1 = .ok (.invokespecial 3, 3) from by decide +kernel) (by decide) (by decide) ?_
  refine k_al E 0 h0 (show decode prog_6_method_1_code 4 = .ok (.aload_n 0, 1) from by decide +kernel) rfl (lv_at hl 0 rfl) ?_
  refine k_bi E 48 (show decode prog_6_method_1_code 5 = .ok (.bipush 48, 2) from by decide +kernel) (by decide) ?_
  refine k_newa2 E 0 rfl (ax_at (i := 221) (by decide +kernel)) rfl (48, .inl (fun _ => 0)) (fun _ => rfl) (by decide) (by decide) (by decide) (Nat.le_of_ble_eq_true rfl) (Nat.le_of_ble_eq_true rfl) (show decode prog_6_method_1_code 7 = .ok (.newarray .int, 2) from by decide +kernel) (fun q1 => ?_)
  refine k_put E (a := 3) (k := 5) (by decide) (by decide) (ax_at (i := 163) (by decide +kernel)) hin rfl rfl rfl (Nat.le_of_ble_eq_true rfl) (show decode prog_6_method_1_code 9 = .ok (.putfield 9, 3) from by decide +kernel) ?_
  refine k_al E 0 h0 (show decode prog_6_method_1_code 12 = .ok (.aload_n 0, 1) from by decide +kernel) rfl (lv_at hl 0 rfl) ?_
  refine k_bi E 48 (show decode prog_6_method_1_code 13 = .ok (.bipush 48, 2) from by decide +kernel) (by decide) ?_
  refine k_newa2 E 0 rfl (ax_at (i := 221) (by decide +kernel)) rfl (48, .inl (fun _ => 0)) (fun _ => rfl) (by decide) (by decide) (by decide) (Nat.le_of_ble_eq_true rfl) (Nat.le_of_ble_eq_true rfl) (show decode prog_6_method_1_code 15 = .ok (.newarray .int, 2) from by decide +kernel) (fun q2 => ?_)
  refine k_put E (a := 3) (k := 6) (by decide) (by decide) (ax_at (i := 164) (by decide +kernel)) hin rfl rfl rfl (Nat.le_of_ble_eq_true rfl) (show decode prog_6_method_1_code 17 = .ok (.putfield 15, 3) from by decide +kernel) ?_
  refine k_al E 0 h0 (show decode prog_6_method_1_code 20 = .ok (.aload_n 0, 1) from by decide +kernel) rfl (lv_at hl 0 rfl) ?_
  refine k_bi E 16 (show decode prog_6_method_1_code 21 = .ok (.bipush 16, 2) from by decide +kernel) (by decide) ?_
  refine k_newa2 E 0 rfl (ax_at (i := 221) (by decide +kernel)) rfl (16, .inl (fun _ => 0)) (fun _ => rfl) (by decide) (by decide) (by decide) (Nat.le_of_ble_eq_true rfl) (Nat.le_of_ble_eq_true rfl) (show decode prog_6_method_1_code 23 = .ok (.newarray .int, 2) from by decide +kernel) (fun q3 => ?_)
  refine k_put E (a := 3) (k := 7) (by decide) (by decide) (ax_at (i := 165) (by decide +kernel)) hin rfl rfl rfl (Nat.le_of_ble_eq_true rfl) (show decode prog_6_method_1_code 25 = .ok (.putfield 18, 3) from by decide +kernel) ?_
  refine k_al E 0 h0 (show decode prog_6_method_1_code 28 = .ok (.aload_n 0, 1) from by decide +kernel) rfl (lv_at hl 0 rfl) ?_
  refine k_bi E 16 (show decode prog_6_method_1_code 29 = .ok (.bipush 16, 2) from by decide +kernel) (by decide) ?_
  refine k_newa2 E 0 rfl (ax_at (i := 221) (by decide +kernel)) rfl (16, .inl (fun _ => 0)) (fun _ => rfl) (by decide) (by decide) (by decide) (Nat.le_of_ble_eq_true rfl) (Nat.le_of_ble_eq_true rfl) (show decode prog_6_method_1_code 31 = .ok (.newarray .int, 2) from by decide +kernel) (fun q4 => ?_)
  refine k_put E (a := 3) (k := 8) (by decide) (by decide) (ax_at (i := 167) (by decide +kernel)) hin rfl rfl rfl (Nat.le_of_ble_eq_true rfl) (show decode prog_6_method_1_code 33 = .ok (.putfield 21, 3) from by decide +kernel) ?_
  refine k_al E 0 h0 (show decode prog_6_method_1_code 36 = .ok (.aload_n 0, 1) from by decide +kernel) rfl (lv_at hl 0 rfl) ?_
  refine k_bi E 16 (show decode prog_6_method_1_code 37 = .ok (.bipush 16, 2) from by decide +kernel) (by decide) ?_
  refine k_newa2 E 0 rfl (ax_at (i := 221) (by decide +kernel)) rfl (16, .inl (fun _ => 0)) (fun _ => rfl) (by decide) (by decide) (by decide) (Nat.le_of_ble_eq_true rfl) (Nat.le_of_ble_eq_true rfl) (show decode prog_6_method_1_code 39 = .ok (.newarray .int, 2) from by decide +kernel) (fun q5 => ?_)
  refine k_put E (a := 3) (k := 9) (by decide) (by decide) (ax_at (i := 168) (by decide +kernel)) hin rfl rfl rfl (Nat.le_of_ble_eq_true rfl) (show decode prog_6_method_1_code 41 = .ok (.putfield 24, 3) from by decide +kernel) ?_
  refine k_al E 0 h0 (show decode prog_6_method_1_code 44 = .ok (.aload_n 0, 1) from by decide +kernel) rfl (lv_at hl 0 rfl) ?_
  refine k_bi E 16 (show decode prog_6_method_1_code 45 = .ok (.bipush 16, 2) from by decide +kernel) (by decide) ?_
  refine k_newa2 E 0 rfl (ax_at (i := 221) (by decide +kernel)) rfl (16, .inl (fun _ => 0)) (fun _ => rfl) (by decide) (by decide) (by decide) (Nat.le_of_ble_eq_true rfl) (Nat.le_of_ble_eq_true rfl) (show decode prog_6_method_1_code 47 = .ok (.newarray .int, 2) from by decide +kernel) (fun q6 => ?_)
  refine k_put E (a := 3) (k := 10) (by decide) (by decide) (ax_at (i := 169) (by decide +kernel)) hin rfl rfl rfl (Nat.le_of_ble_eq_true rfl) (show decode prog_6_method_1_code 49 = .ok (.putfield 27, 3) from by decide +kernel) ?_
  refine k_al E 0 h0 (show decode prog_6_method_1_code 52 = .ok (.aload_n 0, 1) from by decide +kernel) rfl (lv_at hl 0 rfl) ?_
  refine k_bi E 16 (show decode prog_6_method_1_code 53 = .ok (.bipush 16, 2) from by decide +kernel) (by decide) ?_
  refine k_newa2 E 0 rfl (ax_at (i := 221) (by decide +kernel)) rfl (16, .inl (fun _ => 0)) (fun _ => rfl) (by decide) (by decide) (by decide) (Nat.le_of_ble_eq_true rfl) (Nat.le_of_ble_eq_true rfl) (show decode prog_6_method_1_code 55 = .ok (.newarray .int, 2) from by decide +kernel) (fun q7 => ?_)
  refine k_put E (a := 3) (k := 11) (by decide) (by decide) (ax_at (i := 171) (by decide +kernel)) hin rfl rfl rfl (Nat.le_of_ble_eq_true rfl) (show decode prog_6_method_1_code 57 = .ok (.putfield 30, 3) from by decide +kernel) ?_
  refine k_al E 0 h0 (show decode prog_6_method_1_code 60 = .ok (.aload_n 0, 1) from by decide +kernel) rfl (lv_at hl 0 rfl) ?_
  refine k_bi E 16 (show decode prog_6_method_1_code 61 = .ok (.bipush 16, 2) from by decide +kernel) (by decide) ?_
  refine k_newa2 E 0 rfl (ax_at (i := 221) (by decide +kernel)) rfl (16, .inl (fun _ => 0)) (fun _ => rfl) (by decide) (by decide) (by decide) (Nat.le_of_ble_eq_true rfl) (Nat.le_of_ble_eq_true rfl) (show decode prog_6_method_1_code 63 = .ok (.newarray .int, 2) from by decide +kernel) (fun q8 => ?_)
  refine k_put E (a := 3) (k := 12) (by decide) (by decide) (ax_at (i := 174) (by decide +kernel)) hin rfl rfl rfl (Nat.le_of_ble_eq_true rfl) (show decode prog_6_method_1_code 65 = .ok (.putfield 33, 3) from by decide +kernel) ?_
  refine k_al E 0 h0 (show decode prog_6_method_1_code 68 = .ok (.aload_n 0, 1) from by decide +kernel) rfl (lv_at hl 0 rfl) ?_
  refine k_bi E 16 (show decode prog_6_method_1_code 69 = .ok (.bipush 16, 2) from by decide +kernel) (by decide) ?_
  refine k_newa2 E 0 rfl (ax_at (i := 221) (by decide +kernel)) rfl (16, .inl (fun _ => 0)) (fun _ => rfl) (by decide) (by decide) (by decide) (Nat.le_of_ble_eq_true rfl) (Nat.le_of_ble_eq_true rfl) (show decode prog_6_method_1_code 71 = .ok (.newarray .int, 2) from by decide +kernel) (fun q9 => ?_)
  refine k_put E (a := 3) (k := 13) (by decide) (by decide) (ax_at (i := 176) (by decide +kernel)) hin rfl rfl rfl (Nat.le_of_ble_eq_true rfl) (show decode prog_6_method_1_code 73 = .ok (.putfield 36, 3) from by decide +kernel) ?_
  refine k_al E 0 h0 (show decode prog_6_method_1_code 76 = .ok (.aload_n 0, 1) from by decide +kernel) rfl (lv_at hl 0 rfl) ?_
  refine k_bi E 6 (show decode prog_6_method_1_code 77 = .ok (.bipush 6, 2) from by decide +kernel) (by decide) ?_
  refine k_newa2 E 0 rfl (ax_at (i := 221) (by decide +kernel)) rfl (6, .inl (fun _ => 0)) (fun _ => rfl) (by decide) (by decide) (by decide) (Nat.le_of_ble_eq_true rfl) (Nat.le_of_ble_eq_true rfl) (show decode prog_6_method_1_code 79 = .ok (.newarray .int, 2) from by decide +kernel) (fun q10 => ?_)
  refine k_put E (a := 3) (k := 14) (by decide) (by decide) (ax_at (i := 179) (by decide +kernel)) hin rfl rfl rfl (Nat.le_of_ble_eq_true rfl) (show decode prog_6_method_1_code 81 = .ok (.putfield 39, 3) from by decide +kernel) ?_
  refine k_al E 0 h0 (show decode prog_6_method_1_code 84 = .ok (.aload_n 0, 1) from by decide +kernel) rfl (lv_at hl 0 rfl) ?_
  refine k_bi E 6 (show decode prog_6_method_1_code 85 = .ok (.bipush 6, 2) from by decide +kernel) (by decide) ?_
  refine k_newa2 E 0 rfl (ax_at (i := 221) (by decide +kernel)) rfl (6, .inl (fun _ => 0)) (fun _ => rfl) (by decide) (by decide) (by decide) (Nat.le_of_ble_eq_true rfl) (Nat.le_of_ble_eq_true rfl) (show decode prog_6_method_1_code 87 = .ok (.newarray .int, 2) from by decide +kernel) (fun q11 => ?_)
  refine k_put E (a := 3) (k := 15) (by decide) (by decide) (ax_at (i := 181) (by decide +kernel)) hin rfl rfl rfl (Nat.le_of_ble_eq_true rfl) (show decode prog_6_method_1_code 89 = .ok (.putfield 42, 3) from by decide +kernel) ?_
  refine k_al E 0 h0 (show decode prog_6_method_1_code 92 = .ok (.aload_n 0, 1) from by decide +kernel) rfl (lv_at hl 0 rfl) ?_
  refine k_bi E 6 (show decode prog_6_method_1_code 93 = .ok (.bipush 6, 2) from by decide +kernel) (by decide) ?_
  refine k_newa2 E 0 rfl (ax_at (i := 221) (by decide +kernel)) rfl (6, .inl (fun _ => 0)) (fun _ => rfl) (by decide) (by decide) (by decide) (Nat.le_of_ble_eq_true rfl) (Nat.le_of_ble_eq_true rfl) (show decode prog_6_method_1_code 95 = .ok (.newarray .int, 2) from by decide +kernel) (fun q12 => ?_)
  refine k_put E (a := 3) (k := 16) (by decide) (by decide) (ax_at (i := 183) (by decide +kernel)) hin rfl rfl rfl (Nat.le_of_ble_eq_true rfl) (show decode prog_6_method_1_code 97 = .ok (.putfield 45, 3) from by decide +kernel) ?_
  exact k_end (fun z => [0, 0, 0, 0, 0, 0, q1, q2, q3, q4, q5, q6, q7, q8, q9, q10, q11, q12].getD z 0) E hr hlk (Nat.le_of_ble_eq_true rfl) (Nat.le_of_ble_eq_true rfl) (.of_eq rfl) (show decode prog_6_method_1_code 100 = .ok (.return_, 1) from by decide +kernel)
def kl_world (ar : Nat → ClassId) (p0 : Nat) (h : Nat) (f : Nat → Nat) : va_W := [(h, .inr (9, [.ref p0, .ref (f 2), .ref (f 3), .ref (f 4), .ref (f 5), .ref (f 6), .ref (f 7), .ref (f 8), .ref (f 9), .int 0, .int 0, .int (-1)])), (f 9, .inl (ar 0, (40, .inl (fun _ => 0)))), (f 8, .inl (ar 0, (6, .inl (fun _ => 0)))), (f 7, .inl (ar 0, (6, .inl (fun _ => 0)))), (f 6, .inl (ar 0, (6, .inl (fun _ => 0)))), (f 5, .inl (ar 0, (16, .inl (fun _ => 0)))), (f 4, .inl (ar 0, (16, .inl (fun _ => 0)))), (f 3, .inl (ar 0, (16, .inl (fun _ => 0)))), (f 2, .inl (ar 0, (16, .inl (fun _ => 0))))]
set_option maxHeartbeats 4000000 in
set_option maxRecDepth 100000 in
theorem kc_world (l : Launch) (D : va_G) (ar : Nat → ClassId) (p0 : Nat) : kC l D ar ⟨"AdventureWorld$World", "<init>", "(LAdventureWorld$Plan;)V"⟩ prog_11_method_1_code 2 1 12 8 122 7 [.ref p0] (kl_world ar p0) := by
  refine k_met (by decide) rfl (Nat.le_of_ble_eq_true rfl) ?_
  intro p e s m args below meth c h0 E hin hlk hr hml ls hl
  have hl : lv_has ls 2 [(0, .ref h0), (1, .ref p0)] := hl
  refine k_al E 0 h0 (show decode prog_11_method_1_code 0 = .ok (.aload_n 0, 1) from by decide +kernel) rfl (lv_at hl 0 rfl) ?_
  refine k_obj E hml hl.1 (ax_at (i := 227) (by decide +kernel)) (show decode prog_11_method_1_code 1 = .ok (.invokespecial 3, 3) from by decide +kernel) (by decide) (by decide) ?_
  refine k_al E 0 h0 (show decode prog_11_method_1_code 4 = .ok (.aload_n 0, 1) from by decide +kernel) rfl (lv_at hl 0 rfl) ?_
  refine k_bi E 16 (show decode prog_11_method_1_code 5 = .ok (.bipush 16, 2) from by decide +kernel) (by decide) ?_
  refine k_newa2 E 0 rfl (ax_at (i := 221) (by decide +kernel)) rfl (16, .inl (fun _ => 0)) (fun _ => rfl) (by decide) (by decide) (by decide) (Nat.le_of_ble_eq_true rfl) (Nat.le_of_ble_eq_true rfl) (show decode prog_11_method_1_code 7 = .ok (.newarray .int, 2) from by decide +kernel) (fun q1 => ?_)
  refine k_put E (a := 7) (k := 1) (by decide) (by decide) (ax_at (i := 229) (by decide +kernel)) hin rfl rfl rfl (Nat.le_of_ble_eq_true rfl) (show decode prog_11_method_1_code 9 = .ok (.putfield 9, 3) from by decide +kernel) ?_
  refine k_al E 0 h0 (show decode prog_11_method_1_code 12 = .ok (.aload_n 0, 1) from by decide +kernel) rfl (lv_at hl 0 rfl) ?_
  refine k_bi E 16 (show decode prog_11_method_1_code 13 = .ok (.bipush 16, 2) from by decide +kernel) (by decide) ?_
  refine k_newa2 E 0 rfl (ax_at (i := 221) (by decide +kernel)) rfl (16, .inl (fun _ => 0)) (fun _ => rfl) (by decide) (by decide) (by decide) (Nat.le_of_ble_eq_true rfl) (Nat.le_of_ble_eq_true rfl) (show decode prog_11_method_1_code 15 = .ok (.newarray .int, 2) from by decide +kernel) (fun q2 => ?_)
  refine k_put E (a := 7) (k := 2) (by decide) (by decide) (ax_at (i := 232) (by decide +kernel)) hin rfl rfl rfl (Nat.le_of_ble_eq_true rfl) (show decode prog_11_method_1_code 17 = .ok (.putfield 15, 3) from by decide +kernel) ?_
  refine k_al E 0 h0 (show decode prog_11_method_1_code 20 = .ok (.aload_n 0, 1) from by decide +kernel) rfl (lv_at hl 0 rfl) ?_
  refine k_bi E 16 (show decode prog_11_method_1_code 21 = .ok (.bipush 16, 2) from by decide +kernel) (by decide) ?_
  refine k_newa2 E 0 rfl (ax_at (i := 221) (by decide +kernel)) rfl (16, .inl (fun _ => 0)) (fun _ => rfl) (by decide) (by decide) (by decide) (Nat.le_of_ble_eq_true rfl) (Nat.le_of_ble_eq_true rfl) (show decode prog_11_method_1_code 23 = .ok (.newarray .int, 2) from by decide +kernel) (fun q3 => ?_)
  refine k_put E (a := 7) (k := 3) (by decide) (by decide) (ax_at (i := 235) (by decide +kernel)) hin rfl rfl rfl (Nat.le_of_ble_eq_true rfl) (show decode prog_11_method_1_code 25 = .ok (.putfield 18, 3) from by decide +kernel) ?_
  refine k_al E 0 h0 (show decode prog_11_method_1_code 28 = .ok (.aload_n 0, 1) from by decide +kernel) rfl (lv_at hl 0 rfl) ?_
  refine k_bi E 16 (show decode prog_11_method_1_code 29 = .ok (.bipush 16, 2) from by decide +kernel) (by decide) ?_
  refine k_newa2 E 0 rfl (ax_at (i := 221) (by decide +kernel)) rfl (16, .inl (fun _ => 0)) (fun _ => rfl) (by decide) (by decide) (by decide) (Nat.le_of_ble_eq_true rfl) (Nat.le_of_ble_eq_true rfl) (show decode prog_11_method_1_code 31 = .ok (.newarray .int, 2) from by decide +kernel) (fun q4 => ?_)
  refine k_put E (a := 7) (k := 4) (by decide) (by decide) (ax_at (i := 236) (by decide +kernel)) hin rfl rfl rfl (Nat.le_of_ble_eq_true rfl) (show decode prog_11_method_1_code 33 = .ok (.putfield 21, 3) from by decide +kernel) ?_
  refine k_al E 0 h0 (show decode prog_11_method_1_code 36 = .ok (.aload_n 0, 1) from by decide +kernel) rfl (lv_at hl 0 rfl) ?_
  refine k_bi E 6 (show decode prog_11_method_1_code 37 = .ok (.bipush 6, 2) from by decide +kernel) (by decide) ?_
  refine k_newa2 E 0 rfl (ax_at (i := 221) (by decide +kernel)) rfl (6, .inl (fun _ => 0)) (fun _ => rfl) (by decide) (by decide) (by decide) (Nat.le_of_ble_eq_true rfl) (Nat.le_of_ble_eq_true rfl) (show decode prog_11_method_1_code 39 = .ok (.newarray .int, 2) from by decide +kernel) (fun q5 => ?_)
  refine k_put E (a := 7) (k := 5) (by decide) (by decide) (ax_at (i := 240) (by decide +kernel)) hin rfl rfl rfl (Nat.le_of_ble_eq_true rfl) (show decode prog_11_method_1_code 41 = .ok (.putfield 24, 3) from by decide +kernel) ?_
  refine k_al E 0 h0 (show decode prog_11_method_1_code 44 = .ok (.aload_n 0, 1) from by decide +kernel) rfl (lv_at hl 0 rfl) ?_
  refine k_bi E 6 (show decode prog_11_method_1_code 45 = .ok (.bipush 6, 2) from by decide +kernel) (by decide) ?_
  refine k_newa2 E 0 rfl (ax_at (i := 221) (by decide +kernel)) rfl (6, .inl (fun _ => 0)) (fun _ => rfl) (by decide) (by decide) (by decide) (Nat.le_of_ble_eq_true rfl) (Nat.le_of_ble_eq_true rfl) (show decode prog_11_method_1_code 47 = .ok (.newarray .int, 2) from by decide +kernel) (fun q6 => ?_)
  refine k_put E (a := 7) (k := 6) (by decide) (by decide) (ax_at (i := 244) (by decide +kernel)) hin rfl rfl rfl (Nat.le_of_ble_eq_true rfl) (show decode prog_11_method_1_code 49 = .ok (.putfield 27, 3) from by decide +kernel) ?_
  refine k_al E 0 h0 (show decode prog_11_method_1_code 52 = .ok (.aload_n 0, 1) from by decide +kernel) rfl (lv_at hl 0 rfl) ?_
  refine k_bi E 6 (show decode prog_11_method_1_code 53 = .ok (.bipush 6, 2) from by decide +kernel) (by decide) ?_
  refine k_newa2 E 0 rfl (ax_at (i := 221) (by decide +kernel)) rfl (6, .inl (fun _ => 0)) (fun _ => rfl) (by decide) (by decide) (by decide) (Nat.le_of_ble_eq_true rfl) (Nat.le_of_ble_eq_true rfl) (show decode prog_11_method_1_code 55 = .ok (.newarray .int, 2) from by decide +kernel) (fun q7 => ?_)
  refine k_put E (a := 7) (k := 7) (by decide) (by decide) (ax_at (i := 248) (by decide +kernel)) hin rfl rfl rfl (Nat.le_of_ble_eq_true rfl) (show decode prog_11_method_1_code 57 = .ok (.putfield 30, 3) from by decide +kernel) ?_
  refine k_al E 0 h0 (show decode prog_11_method_1_code 60 = .ok (.aload_n 0, 1) from by decide +kernel) rfl (lv_at hl 0 rfl) ?_
  refine k_bi E 40 (show decode prog_11_method_1_code 61 = .ok (.bipush 40, 2) from by decide +kernel) (by decide) ?_
  refine k_newa2 E 0 rfl (ax_at (i := 221) (by decide +kernel)) rfl (40, .inl (fun _ => 0)) (fun _ => rfl) (by decide) (by decide) (by decide) (Nat.le_of_ble_eq_true rfl) (Nat.le_of_ble_eq_true rfl) (show decode prog_11_method_1_code 63 = .ok (.newarray .int, 2) from by decide +kernel) (fun q8 => ?_)
  refine k_put E (a := 7) (k := 8) (by decide) (by decide) (ax_at (i := 251) (by decide +kernel)) hin rfl rfl rfl (Nat.le_of_ble_eq_true rfl) (show decode prog_11_method_1_code 65 = .ok (.putfield 33, 3) from by decide +kernel) ?_
  refine k_al E 0 h0 (show decode prog_11_method_1_code 68 = .ok (.aload_n 0, 1) from by decide +kernel) rfl (lv_at hl 0 rfl) ?_
  refine k_ic E (-1) (show decode prog_11_method_1_code 69 = .ok (.iconst (-1), 1) from by decide +kernel) (by decide) ?_
  refine k_put E (a := 7) (k := 11) (by decide) (by decide) (ax_at (i := 260) (by decide +kernel)) hin rfl rfl rfl (Nat.le_of_ble_eq_true rfl) (show decode prog_11_method_1_code 70 = .ok (.putfield 36, 3) from by decide +kernel) ?_
  refine k_al E 0 h0 (show decode prog_11_method_1_code 73 = .ok (.aload_n 0, 1) from by decide +kernel) rfl (lv_at hl 0 rfl) ?_
  refine k_al E 1 p0 (show decode prog_11_method_1_code 74 = .ok (.aload_n 1, 1) from by decide +kernel) rfl (lv_at hl 1 rfl) ?_
  refine k_put E (a := 7) (k := 0) (by decide) (by decide) (ax_at (i := 228) (by decide +kernel)) hin rfl rfl rfl (Nat.le_of_ble_eq_true rfl) (show decode prog_11_method_1_code 75 = .ok (.putfield 40, 3) from by decide +kernel) ?_
  exact k_end (fun z => [0, 0, q1, q2, q3, q4, q5, q6, q7, q8].getD z 0) E hr hlk (Nat.le_of_ble_eq_true rfl) (Nat.le_of_ble_eq_true rfl) (.of_eq rfl) (show decode prog_11_method_1_code 78 = .ok (.return_, 1) from by decide +kernel)
def kl_story (ar : Nat → ClassId) (p0 : Nat) (w0 : Nat) (w1 : Nat) (h : Nat) (f : Nat → Nat) : va_W := [(h, .inr (8, [.ref p0, .ref w0, .ref w1, .ref (f 4)])), (f 4, .inl (ar 0, (512, .inl (fun _ => 0))))]
set_option maxHeartbeats 4000000 in
set_option maxRecDepth 100000 in
theorem kc_story (l : Launch) (D : va_G) (ar : Nat → ClassId) (p0 : Nat) (w0 : Nat) (w1 : Nat) : kC l D ar ⟨"AdventureWorld$Story", "<init>", "(LAdventureWorld$Plan;LAdventureWorld$World;LAdventureWorld$World;)V"⟩ prog_9_method_1_code 4 1 12 1 512 6 [.ref p0, .ref w0, .ref w1] (kl_story ar p0 w0 w1) := by
  refine k_met (by decide) rfl (Nat.le_of_ble_eq_true rfl) ?_
  intro p e s m args below meth c h0 E hin hlk hr hml ls hl
  have hl : lv_has ls 4 [(0, .ref h0), (1, .ref p0), (2, .ref w0), (3, .ref w1)] := hl
  refine k_al E 0 h0 (show decode prog_9_method_1_code 0 = .ok (.aload_n 0, 1) from by decide +kernel) rfl (lv_at hl 0 rfl) ?_
  refine k_obj E hml hl.1 (ax_at (i := 295) (by decide +kernel)) (show decode prog_9_method_1_code 1 = .ok (.invokespecial 3, 3) from by decide +kernel) (by decide) (by decide) ?_
  refine k_al E 0 h0 (show decode prog_9_method_1_code 4 = .ok (.aload_n 0, 1) from by decide +kernel) rfl (lv_at hl 0 rfl) ?_
  refine k_si E 512 (show decode prog_9_method_1_code 5 = .ok (.sipush 512, 3) from by decide +kernel) (by decide) ?_
  refine k_newa2 E 0 rfl (ax_at (i := 221) (by decide +kernel)) rfl (512, .inl (fun _ => 0)) (fun _ => rfl) (by decide) (by decide) (by decide) (Nat.le_of_ble_eq_true rfl) (Nat.le_of_ble_eq_true rfl) (show decode prog_9_method_1_code 8 = .ok (.newarray .int, 2) from by decide +kernel) (fun q1 => ?_)
  refine k_put E (a := 6) (k := 3) (by decide) (by decide) (ax_at (i := 302) (by decide +kernel)) hin rfl rfl rfl (Nat.le_of_ble_eq_true rfl) (show decode prog_9_method_1_code 10 = .ok (.putfield 9, 3) from by decide +kernel) ?_
  refine k_al E 0 h0 (show decode prog_9_method_1_code 13 = .ok (.aload_n 0, 1) from by decide +kernel) rfl (lv_at hl 0 rfl) ?_
  refine k_al E 1 p0 (show decode prog_9_method_1_code 14 = .ok (.aload_n 1, 1) from by decide +kernel) rfl (lv_at hl 1 rfl) ?_
  refine k_put E (a := 6) (k := 0) (by decide) (by decide) (ax_at (i := 296) (by decide +kernel)) hin rfl rfl rfl (Nat.le_of_ble_eq_true rfl) (show decode prog_9_method_1_code 15 = .ok (.putfield 15, 3) from by decide +kernel) ?_
  refine k_al E 0 h0 (show decode prog_9_method_1_code 18 = .ok (.aload_n 0, 1) from by decide +kernel) rfl (lv_at hl 0 rfl) ?_
  refine k_al E 2 w0 (show decode prog_9_method_1_code 19 = .ok (.aload_n 2, 1) from by decide +kernel) rfl (lv_at hl 2 rfl) ?_
  refine k_put E (a := 6) (k := 1) (by decide) (by decide) (ax_at (i := 298) (by decide +kernel)) hin rfl rfl rfl (Nat.le_of_ble_eq_true rfl) (show decode prog_9_method_1_code 20 = .ok (.putfield 19, 3) from by decide +kernel) ?_
  refine k_al E 0 h0 (show decode prog_9_method_1_code 23 = .ok (.aload_n 0, 1) from by decide +kernel) rfl (lv_at hl 0 rfl) ?_
  refine k_al E 3 w1 (show decode prog_9_method_1_code 24 = .ok (.aload_n 3, 1) from by decide +kernel) rfl (lv_at hl 3 rfl) ?_
  refine k_put E (a := 6) (k := 2) (by decide) (by decide) (ax_at (i := 300) (by decide +kernel)) hin rfl rfl rfl (Nat.le_of_ble_eq_true rfl) (show decode prog_9_method_1_code 25 = .ok (.putfield 23, 3) from by decide +kernel) ?_
  exact k_end (fun z => [0, 0, 0, 0, q1].getD z 0) E hr hlk (Nat.le_of_ble_eq_true rfl) (Nat.le_of_ble_eq_true rfl) (.of_eq rfl) (show decode prog_9_method_1_code 28 = .ok (.return_, 1) from by decide +kernel)
def kl_reader (ar : Nat → ClassId)  (h : Nat) (f : Nat → Nat) : va_W := [(h, .inr (6, [.ref (f 1), .int 0, .ref (f 3), .int 0, .int 0, .int 0, .int 0])), (f 3, .inl (ar 0, (20, .inl (fun _ => 0)))), (f 1, .inl (ar 1, (80, .inl (fun _ => 0))))]
set_option maxHeartbeats 4000000 in
set_option maxRecDepth 100000 in
theorem kc_reader (l : Launch) (D : va_G) (ar : Nat → ClassId)  : kC l D ar ⟨"AdventureWorld$Reader", "<init>", "()V"⟩ prog_7_method_1_code 1 1 12 2 100 4 [] (kl_reader ar ) := by
  refine k_met (by decide) rfl (Nat.le_of_ble_eq_true rfl) ?_
  intro p e s m args below meth c h0 E hin hlk hr hml ls hl
  have hl : lv_has ls 1 [(0, .ref h0)] := hl
  refine k_al E 0 h0 (show decode prog_7_method_1_code 0 = .ok (.aload_n 0, 1) from by decide +kernel) rfl (lv_at hl 0 rfl) ?_
  refine k_obj E hml hl.1 (ax_at (i := 338) (by decide +kernel)) (show decode prog_7_method_1_code 1 = .ok (.invokespecial 3, 3) from by decide +kernel) (by decide) (by decide) ?_
  refine k_al E 0 h0 (show decode prog_7_method_1_code 4 = .ok (.aload_n 0, 1) from by decide +kernel) rfl (lv_at hl 0 rfl) ?_
  refine k_bi E 80 (show decode prog_7_method_1_code 5 = .ok (.bipush 80, 2) from by decide +kernel) (by decide) ?_
  refine k_newa2 E 1 rfl (ax_at (i := 365) (by decide +kernel)) rfl (80, .inl (fun _ => 0)) (fun _ => rfl) (by decide) (by decide) (by decide) (Nat.le_of_ble_eq_true rfl) (Nat.le_of_ble_eq_true rfl) (show decode prog_7_method_1_code 7 = .ok (.newarray .char, 2) from by decide +kernel) (fun q1 => ?_)
  refine k_put E (a := 4) (k := 0) (by decide) (by decide) (ax_at (i := 339) (by decide +kernel)) hin rfl rfl rfl (Nat.le_of_ble_eq_true rfl) (show decode prog_7_method_1_code 9 = .ok (.putfield 9, 3) from by decide +kernel) ?_
  refine k_al E 0 h0 (show decode prog_7_method_1_code 12 = .ok (.aload_n 0, 1) from by decide +kernel) rfl (lv_at hl 0 rfl) ?_
  refine k_bi E 20 (show decode prog_7_method_1_code 13 = .ok (.bipush 20, 2) from by decide +kernel) (by decide) ?_
  refine k_newa2 E 0 rfl (ax_at (i := 221) (by decide +kernel)) rfl (20, .inl (fun _ => 0)) (fun _ => rfl) (by decide) (by decide) (by decide) (Nat.le_of_ble_eq_true rfl) (Nat.le_of_ble_eq_true rfl) (show decode prog_7_method_1_code 15 = .ok (.newarray .int, 2) from by decide +kernel) (fun q2 => ?_)
  refine k_put E (a := 4) (k := 2) (by decide) (by decide) (ax_at (i := 342) (by decide +kernel)) hin rfl rfl rfl (Nat.le_of_ble_eq_true rfl) (show decode prog_7_method_1_code 17 = .ok (.putfield 15, 3) from by decide +kernel) ?_
  exact k_end (fun z => [0, q1, 0, q2].getD z 0) E hr hlk (Nat.le_of_ble_eq_true rfl) (Nat.le_of_ble_eq_true rfl) (.of_eq rfl) (show decode prog_7_method_1_code 20 = .ok (.return_, 1) from by decide +kernel)
def kl_sight (ar : Nat → ClassId) (p0 : Nat) (w0 : Nat) (h : Nat) (f : Nat → Nat) : va_W := [(h, .inr (7, [.ref p0, .ref w0]))]
set_option maxHeartbeats 4000000 in
set_option maxRecDepth 100000 in
theorem kc_sight (l : Launch) (D : va_G) (ar : Nat → ClassId) (p0 : Nat) (w0 : Nat) : kC l D ar ⟨"AdventureWorld$Sight", "<init>", "(LAdventureWorld$Plan;LAdventureWorld$World;)V"⟩ prog_8_method_1_code 3 1 12 0 0 5 [.ref p0, .ref w0] (kl_sight ar p0 w0) := by
  refine k_met (by decide) rfl (Nat.le_of_ble_eq_true rfl) ?_
  intro p e s m args below meth c h0 E hin hlk hr hml ls hl
  have hl : lv_has ls 3 [(0, .ref h0), (1, .ref p0), (2, .ref w0)] := hl
  refine k_al E 0 h0 (show decode prog_8_method_1_code 0 = .ok (.aload_n 0, 1) from by decide +kernel) rfl (lv_at hl 0 rfl) ?_
  refine k_obj E hml hl.1 (ax_at (i := 377) (by decide +kernel)) (show decode prog_8_method_1_code 1 = .ok (.invokespecial 3, 3) from by decide +kernel) (by decide) (by decide) ?_
  refine k_al E 0 h0 (show decode prog_8_method_1_code 4 = .ok (.aload_n 0, 1) from by decide +kernel) rfl (lv_at hl 0 rfl) ?_
  refine k_al E 1 p0 (show decode prog_8_method_1_code 5 = .ok (.aload_n 1, 1) from by decide +kernel) rfl (lv_at hl 1 rfl) ?_
  refine k_put E (a := 5) (k := 0) (by decide) (by decide) (ax_at (i := 378) (by decide +kernel)) hin rfl rfl rfl (Nat.le_of_ble_eq_true rfl) (show decode prog_8_method_1_code 6 = .ok (.putfield 9, 3) from by decide +kernel) ?_
  refine k_al E 0 h0 (show decode prog_8_method_1_code 9 = .ok (.aload_n 0, 1) from by decide +kernel) rfl (lv_at hl 0 rfl) ?_
  refine k_al E 2 w0 (show decode prog_8_method_1_code 10 = .ok (.aload_n 2, 1) from by decide +kernel) rfl (lv_at hl 2 rfl) ?_
  refine k_put E (a := 5) (k := 1) (by decide) (by decide) (ax_at (i := 379) (by decide +kernel)) hin rfl rfl rfl (Nat.le_of_ble_eq_true rfl) (show decode prog_8_method_1_code 11 = .ok (.putfield 15, 3) from by decide +kernel) ?_
  exact k_end (fun _ => 0) E hr hlk (Nat.le_of_ble_eq_true rfl) (Nat.le_of_ble_eq_true rfl) (.of_eq rfl) (show decode prog_8_method_1_code 14 = .ok (.return_, 1) from by decide +kernel)
def kl_clock (ar : Nat → ClassId) (p0 : Nat) (w0 : Nat) (h : Nat) (f : Nat → Nat) : va_W := [(h, .inr (3, [.ref p0, .ref w0]))]
set_option maxHeartbeats 4000000 in
set_option maxRecDepth 100000 in
theorem kc_clock (l : Launch) (D : va_G) (ar : Nat → ClassId) (p0 : Nat) (w0 : Nat) : kC l D ar ⟨"AdventureWorld$Clockwork", "<init>", "(LAdventureWorld$Plan;LAdventureWorld$World;)V"⟩ prog_3_method_1_code 3 1 12 0 0 1 [.ref p0, .ref w0] (kl_clock ar p0 w0) := by
  refine k_met (by decide) rfl (Nat.le_of_ble_eq_true rfl) ?_
  intro p e s m args below meth c h0 E hin hlk hr hml ls hl
  have hl : lv_has ls 3 [(0, .ref h0), (1, .ref p0), (2, .ref w0)] := hl
  refine k_al E 0 h0 (show decode prog_3_method_1_code 0 = .ok (.aload_n 0, 1) from by decide +kernel) rfl (lv_at hl 0 rfl) ?_
  refine k_obj E hml hl.1 (ax_at (i := 390) (by decide +kernel)) (show decode prog_3_method_1_code 1 = .ok (.invokespecial 3, 3) from by decide +kernel) (by decide) (by decide) ?_
  refine k_al E 0 h0 (show decode prog_3_method_1_code 4 = .ok (.aload_n 0, 1) from by decide +kernel) rfl (lv_at hl 0 rfl) ?_
  refine k_al E 1 p0 (show decode prog_3_method_1_code 5 = .ok (.aload_n 1, 1) from by decide +kernel) rfl (lv_at hl 1 rfl) ?_
  refine k_put E (a := 1) (k := 0) (by decide) (by decide) (ax_at (i := 391) (by decide +kernel)) hin rfl rfl rfl (Nat.le_of_ble_eq_true rfl) (show decode prog_3_method_1_code 6 = .ok (.putfield 9, 3) from by decide +kernel) ?_
  refine k_al E 0 h0 (show decode prog_3_method_1_code 9 = .ok (.aload_n 0, 1) from by decide +kernel) rfl (lv_at hl 0 rfl) ?_
  refine k_al E 2 w0 (show decode prog_3_method_1_code 10 = .ok (.aload_n 2, 1) from by decide +kernel) rfl (lv_at hl 2 rfl) ?_
  refine k_put E (a := 1) (k := 1) (by decide) (by decide) (ax_at (i := 392) (by decide +kernel)) hin rfl rfl rfl (Nat.le_of_ble_eq_true rfl) (show decode prog_3_method_1_code 11 = .ok (.putfield 15, 3) from by decide +kernel) ?_
  exact k_end (fun _ => 0) E hr hlk (Nat.le_of_ble_eq_true rfl) (Nat.le_of_ble_eq_true rfl) (.of_eq rfl) (show decode prog_3_method_1_code 14 = .ok (.return_, 1) from by decide +kernel)
def kl_model (ar : Nat → ClassId)  (h : Nat) (f : Nat → Nat) : va_W := [(h, .inr (11, [.int 0, .ref (f 2), .ref (f 3), .ref (f 4), .ref (f 5), .ref (f 6), .ref (f 7), .int 0, .int 0, .ref (f 10), .int 0, .int (-1), .int 0, .int (-1), .int (-1), .int 0, .int 0, .int 0, .int 0, .int 0, .ref (f 21), .ref (f 22), .ref (f 23), .ref (f 24), .ref (f 25), .int 0, .int 0, .int 0, .ref (f 29), .ref (f 30)])), (f 30, .inl (ar 0, (8, .inl (fun _ => 0)))), (f 29, .inl (ar 0, (369, .inl (fun _ => 0)))), (f 25, .inl (ar 0, (30, .inl (fun _ => 0)))), (f 24, .inl (ar 0, (30, .inl (fun _ => 0)))), (f 23, .inl (ar 0, (30, .inl (fun _ => 0)))), (f 22, .inl (ar 0, (30, .inl (fun _ => 0)))), (f 21, .inl (ar 0, (30, .inl (fun _ => 0)))), (f 10, .inl (ar 0, (80, .inl (fun _ => 0)))), (f 7, .inl (ar 0, (3690, .inl (fun _ => 0)))), (f 6, .inl (ar 0, (369, .inl (fun _ => 0)))), (f 5, .inl (ar 0, (369, .inl (fun _ => 0)))), (f 4, .inl (ar 0, (369, .inl (fun _ => 0)))), (f 3, .inl (ar 0, (369, .inl (fun _ => 0)))), (f 2, .inl (ar 0, (369, .inl (fun _ => 0))))]
set_option maxHeartbeats 4000000 in
set_option maxRecDepth 100000 in
theorem kc_model (l : Launch) (D : va_G) (ar : Nat → ClassId)  : kC l D ar ⟨"AdventureWorldModel", "<init>", "()V"⟩ prog_13_method_1_code 1 1 12 14 6142 9 [] (kl_model ar ) := by
  refine k_met (by decide) rfl (Nat.le_of_ble_eq_true rfl) ?_
  intro p e s m args below meth c h0 E hin hlk hr hml ls hl
  have hl : lv_has ls 1 [(0, .ref h0)] := hl
  refine k_al E 0 h0 (show decode prog_13_method_1_code 0 = .ok (.aload_n 0, 1) from by decide +kernel) rfl (lv_at hl 0 rfl) ?_
  refine k_obj E hml hl.1 (ax_at (i := 1543) (by decide +kernel)) (show decode prog_13_method_1_code 1 = .ok (.invokespecial 1, 3) from by decide +kernel) (by decide) (by decide) ?_
  refine k_al E 0 h0 (show decode prog_13_method_1_code 4 = .ok (.aload_n 0, 1) from by decide +kernel) rfl (lv_at hl 0 rfl) ?_
  refine k_si E 369 (show decode prog_13_method_1_code 5 = .ok (.sipush 369, 3) from by decide +kernel) (by decide) ?_
  refine k_newa2 E 0 rfl (ax_at (i := 221) (by decide +kernel)) rfl (369, .inl (fun _ => 0)) (fun _ => rfl) (by decide) (by decide) (by decide) (Nat.le_of_ble_eq_true rfl) (Nat.le_of_ble_eq_true rfl) (show decode prog_13_method_1_code 8 = .ok (.newarray .int, 2) from by decide +kernel) (fun q1 => ?_)
  refine k_put E (a := 9) (k := 1) (by decide) (by decide) (ax_at (i := 1545) (by decide +kernel)) hin rfl rfl rfl (Nat.le_of_ble_eq_true rfl) (show decode prog_13_method_1_code 10 = .ok (.putfield 7, 3) from by decide +kernel) ?_
  refine k_al E 0 h0 (show decode prog_13_method_1_code 13 = .ok (.aload_n 0, 1) from by decide +kernel) rfl (lv_at hl 0 rfl) ?_
  refine k_si E 369 (show decode prog_13_method_1_code 14 = .ok (.sipush 369, 3) from by decide +kernel) (by decide) ?_
  refine k_newa2 E 0 rfl (ax_at (i := 221) (by decide +kernel)) rfl (369, .inl (fun _ => 0)) (fun _ => rfl) (by decide) (by decide) (by decide) (Nat.le_of_ble_eq_true rfl) (Nat.le_of_ble_eq_true rfl) (show decode prog_13_method_1_code 17 = .ok (.newarray .int, 2) from by decide +kernel) (fun q2 => ?_)
  refine k_put E (a := 9) (k := 2) (by decide) (by decide) (ax_at (i := 1546) (by decide +kernel)) hin rfl rfl rfl (Nat.le_of_ble_eq_true rfl) (show decode prog_13_method_1_code 19 = .ok (.putfield 13, 3) from by decide +kernel) ?_
  refine k_al E 0 h0 (show decode prog_13_method_1_code 22 = .ok (.aload_n 0, 1) from by decide +kernel) rfl (lv_at hl 0 rfl) ?_
  refine k_si E 369 (show decode prog_13_method_1_code 23 = .ok (.sipush 369, 3) from by decide +kernel) (by decide) ?_
  refine k_newa2 E 0 rfl (ax_at (i := 221) (by decide +kernel)) rfl (369, .inl (fun _ => 0)) (fun _ => rfl) (by decide) (by decide) (by decide) (Nat.le_of_ble_eq_true rfl) (Nat.le_of_ble_eq_true rfl) (show decode prog_13_method_1_code 26 = .ok (.newarray .int, 2) from by decide +kernel) (fun q3 => ?_)
  refine k_put E (a := 9) (k := 3) (by decide) (by decide) (ax_at (i := 1547) (by decide +kernel)) hin rfl rfl rfl (Nat.le_of_ble_eq_true rfl) (show decode prog_13_method_1_code 28 = .ok (.putfield 16, 3) from by decide +kernel) ?_
  refine k_al E 0 h0 (show decode prog_13_method_1_code 31 = .ok (.aload_n 0, 1) from by decide +kernel) rfl (lv_at hl 0 rfl) ?_
  refine k_si E 369 (show decode prog_13_method_1_code 32 = .ok (.sipush 369, 3) from by decide +kernel) (by decide) ?_
  refine k_newa2 E 0 rfl (ax_at (i := 221) (by decide +kernel)) rfl (369, .inl (fun _ => 0)) (fun _ => rfl) (by decide) (by decide) (by decide) (Nat.le_of_ble_eq_true rfl) (Nat.le_of_ble_eq_true rfl) (show decode prog_13_method_1_code 35 = .ok (.newarray .int, 2) from by decide +kernel) (fun q4 => ?_)
  refine k_put E (a := 9) (k := 4) (by decide) (by decide) (ax_at (i := 1548) (by decide +kernel)) hin rfl rfl rfl (Nat.le_of_ble_eq_true rfl) (show decode prog_13_method_1_code 37 = .ok (.putfield 19, 3) from by decide +kernel) ?_
  refine k_al E 0 h0 (show decode prog_13_method_1_code 40 = .ok (.aload_n 0, 1) from by decide +kernel) rfl (lv_at hl 0 rfl) ?_
  refine k_si E 369 (show decode prog_13_method_1_code 41 = .ok (.sipush 369, 3) from by decide +kernel) (by decide) ?_
  refine k_newa2 E 0 rfl (ax_at (i := 221) (by decide +kernel)) rfl (369, .inl (fun _ => 0)) (fun _ => rfl) (by decide) (by decide) (by decide) (Nat.le_of_ble_eq_true rfl) (Nat.le_of_ble_eq_true rfl) (show decode prog_13_method_1_code 44 = .ok (.newarray .int, 2) from by decide +kernel) (fun q5 => ?_)
  refine k_put E (a := 9) (k := 5) (by decide) (by decide) (ax_at (i := 1549) (by decide +kernel)) hin rfl rfl rfl (Nat.le_of_ble_eq_true rfl) (show decode prog_13_method_1_code 46 = .ok (.putfield 22, 3) from by decide +kernel) ?_
  refine k_al E 0 h0 (show decode prog_13_method_1_code 49 = .ok (.aload_n 0, 1) from by decide +kernel) rfl (lv_at hl 0 rfl) ?_
  refine k_si E 3690 (show decode prog_13_method_1_code 50 = .ok (.sipush 3690, 3) from by decide +kernel) (by decide) ?_
  refine k_newa2 E 0 rfl (ax_at (i := 221) (by decide +kernel)) rfl (3690, .inl (fun _ => 0)) (fun _ => rfl) (by decide) (by decide) (by decide) (Nat.le_of_ble_eq_true rfl) (Nat.le_of_ble_eq_true rfl) (show decode prog_13_method_1_code 53 = .ok (.newarray .int, 2) from by decide +kernel) (fun q6 => ?_)
  refine k_put E (a := 9) (k := 6) (by decide) (by decide) (ax_at (i := 1550) (by decide +kernel)) hin rfl rfl rfl (Nat.le_of_ble_eq_true rfl) (show decode prog_13_method_1_code 55 = .ok (.putfield 25, 3) from by decide +kernel) ?_
  refine k_al E 0 h0 (show decode prog_13_method_1_code 58 = .ok (.aload_n 0, 1) from by decide +kernel) rfl (lv_at hl 0 rfl) ?_
  refine k_bi E 80 (show decode prog_13_method_1_code 59 = .ok (.bipush 80, 2) from by decide +kernel) (by decide) ?_
  refine k_newa2 E 0 rfl (ax_at (i := 221) (by decide +kernel)) rfl (80, .inl (fun _ => 0)) (fun _ => rfl) (by decide) (by decide) (by decide) (Nat.le_of_ble_eq_true rfl) (Nat.le_of_ble_eq_true rfl) (show decode prog_13_method_1_code 61 = .ok (.newarray .int, 2) from by decide +kernel) (fun q7 => ?_)
  refine k_put E (a := 9) (k := 9) (by decide) (by decide) (ax_at (i := 1553) (by decide +kernel)) hin rfl rfl rfl (Nat.le_of_ble_eq_true rfl) (show decode prog_13_method_1_code 63 = .ok (.putfield 28, 3) from by decide +kernel) ?_
  refine k_al E 0 h0 (show decode prog_13_method_1_code 66 = .ok (.aload_n 0, 1) from by decide +kernel) rfl (lv_at hl 0 rfl) ?_
  refine k_ic E (-1) (show decode prog_13_method_1_code 67 = .ok (.iconst (-1), 1) from by decide +kernel) (by decide) ?_
  refine k_put E (a := 9) (k := 11) (by decide) (by decide) (ax_at (i := 1555) (by decide +kernel)) hin rfl rfl rfl (Nat.le_of_ble_eq_true rfl) (show decode prog_13_method_1_code 68 = .ok (.putfield 31, 3) from by decide +kernel) ?_
  refine k_al E 0 h0 (show decode prog_13_method_1_code 71 = .ok (.aload_n 0, 1) from by decide +kernel) rfl (lv_at hl 0 rfl) ?_
  refine k_ic E (-1) (show decode prog_13_method_1_code 72 = .ok (.iconst (-1), 1) from by decide +kernel) (by decide) ?_
  refine k_put E (a := 9) (k := 13) (by decide) (by decide) (ax_at (i := 1557) (by decide +kernel)) hin rfl rfl rfl (Nat.le_of_ble_eq_true rfl) (show decode prog_13_method_1_code 73 = .ok (.putfield 35, 3) from by decide +kernel) ?_
  refine k_al E 0 h0 (show decode prog_13_method_1_code 76 = .ok (.aload_n 0, 1) from by decide +kernel) rfl (lv_at hl 0 rfl) ?_
  refine k_ic E (-1) (show decode prog_13_method_1_code 77 = .ok (.iconst (-1), 1) from by decide +kernel) (by decide) ?_
  refine k_put E (a := 9) (k := 14) (by decide) (by decide) (ax_at (i := 1558) (by decide +kernel)) hin rfl rfl rfl (Nat.le_of_ble_eq_true rfl) (show decode prog_13_method_1_code 78 = .ok (.putfield 38, 3) from by decide +kernel) ?_
  refine k_al E 0 h0 (show decode prog_13_method_1_code 81 = .ok (.aload_n 0, 1) from by decide +kernel) rfl (lv_at hl 0 rfl) ?_
  refine k_bi E 30 (show decode prog_13_method_1_code 82 = .ok (.bipush 30, 2) from by decide +kernel) (by decide) ?_
  refine k_newa2 E 0 rfl (ax_at (i := 221) (by decide +kernel)) rfl (30, .inl (fun _ => 0)) (fun _ => rfl) (by decide) (by decide) (by decide) (Nat.le_of_ble_eq_true rfl) (Nat.le_of_ble_eq_true rfl) (show decode prog_13_method_1_code 84 = .ok (.newarray .int, 2) from by decide +kernel) (fun q8 => ?_)
  refine k_put E (a := 9) (k := 20) (by decide) (by decide) (ax_at (i := 1564) (by decide +kernel)) hin rfl rfl rfl (Nat.le_of_ble_eq_true rfl) (show decode prog_13_method_1_code 86 = .ok (.putfield 41, 3) from by decide +kernel) ?_
  refine k_al E 0 h0 (show decode prog_13_method_1_code 89 = .ok (.aload_n 0, 1) from by decide +kernel) rfl (lv_at hl 0 rfl) ?_
  refine k_bi E 30 (show decode prog_13_method_1_code 90 = .ok (.bipush 30, 2) from by decide +kernel) (by decide) ?_
  refine k_newa2 E 0 rfl (ax_at (i := 221) (by decide +kernel)) rfl (30, .inl (fun _ => 0)) (fun _ => rfl) (by decide) (by decide) (by decide) (Nat.le_of_ble_eq_true rfl) (Nat.le_of_ble_eq_true rfl) (show decode prog_13_method_1_code 92 = .ok (.newarray .int, 2) from by decide +kernel) (fun q9 => ?_)
  refine k_put E (a := 9) (k := 21) (by decide) (by decide) (ax_at (i := 1565) (by decide +kernel)) hin rfl rfl rfl (Nat.le_of_ble_eq_true rfl) (show decode prog_13_method_1_code 94 = .ok (.putfield 44, 3) from by decide +kernel) ?_
  refine k_al E 0 h0 (show decode prog_13_method_1_code 97 = .ok (.aload_n 0, 1) from by decide +kernel) rfl (lv_at hl 0 rfl) ?_
  refine k_bi E 30 (show decode prog_13_method_1_code 98 = .ok (.bipush 30, 2) from by decide +kernel) (by decide) ?_
  refine k_newa2 E 0 rfl (ax_at (i := 221) (by decide +kernel)) rfl (30, .inl (fun _ => 0)) (fun _ => rfl) (by decide) (by decide) (by decide) (Nat.le_of_ble_eq_true rfl) (Nat.le_of_ble_eq_true rfl) (show decode prog_13_method_1_code 100 = .ok (.newarray .int, 2) from by decide +kernel) (fun q10 => ?_)
  refine k_put E (a := 9) (k := 22) (by decide) (by decide) (ax_at (i := 1566) (by decide +kernel)) hin rfl rfl rfl (Nat.le_of_ble_eq_true rfl) (show decode prog_13_method_1_code 102 = .ok (.putfield 47, 3) from by decide +kernel) ?_
  refine k_al E 0 h0 (show decode prog_13_method_1_code 105 = .ok (.aload_n 0, 1) from by decide +kernel) rfl (lv_at hl 0 rfl) ?_
  refine k_bi E 30 (show decode prog_13_method_1_code 106 = .ok (.bipush 30, 2) from by decide +kernel) (by decide) ?_
  refine k_newa2 E 0 rfl (ax_at (i := 221) (by decide +kernel)) rfl (30, .inl (fun _ => 0)) (fun _ => rfl) (by decide) (by decide) (by decide) (Nat.le_of_ble_eq_true rfl) (Nat.le_of_ble_eq_true rfl) (show decode prog_13_method_1_code 108 = .ok (.newarray .int, 2) from by decide +kernel) (fun q11 => ?_)
  refine k_put E (a := 9) (k := 23) (by decide) (by decide) (ax_at (i := 1567) (by decide +kernel)) hin rfl rfl rfl (Nat.le_of_ble_eq_true rfl) (show decode prog_13_method_1_code 110 = .ok (.putfield 50, 3) from by decide +kernel) ?_
  refine k_al E 0 h0 (show decode prog_13_method_1_code 113 = .ok (.aload_n 0, 1) from by decide +kernel) rfl (lv_at hl 0 rfl) ?_
  refine k_bi E 30 (show decode prog_13_method_1_code 114 = .ok (.bipush 30, 2) from by decide +kernel) (by decide) ?_
  refine k_newa2 E 0 rfl (ax_at (i := 221) (by decide +kernel)) rfl (30, .inl (fun _ => 0)) (fun _ => rfl) (by decide) (by decide) (by decide) (Nat.le_of_ble_eq_true rfl) (Nat.le_of_ble_eq_true rfl) (show decode prog_13_method_1_code 116 = .ok (.newarray .int, 2) from by decide +kernel) (fun q12 => ?_)
  refine k_put E (a := 9) (k := 24) (by decide) (by decide) (ax_at (i := 1568) (by decide +kernel)) hin rfl rfl rfl (Nat.le_of_ble_eq_true rfl) (show decode prog_13_method_1_code 118 = .ok (.putfield 53, 3) from by decide +kernel) ?_
  refine k_al E 0 h0 (show decode prog_13_method_1_code 121 = .ok (.aload_n 0, 1) from by decide +kernel) rfl (lv_at hl 0 rfl) ?_
  refine k_si E 369 (show decode prog_13_method_1_code 122 = .ok (.sipush 369, 3) from by decide +kernel) (by decide) ?_
  refine k_newa2 E 0 rfl (ax_at (i := 221) (by decide +kernel)) rfl (369, .inl (fun _ => 0)) (fun _ => rfl) (by decide) (by decide) (by decide) (Nat.le_of_ble_eq_true rfl) (Nat.le_of_ble_eq_true rfl) (show decode prog_13_method_1_code 125 = .ok (.newarray .int, 2) from by decide +kernel) (fun q13 => ?_)
  refine k_put E (a := 9) (k := 28) (by decide) (by decide) (ax_at (i := 1572) (by decide +kernel)) hin rfl rfl rfl (Nat.le_of_ble_eq_true rfl) (show decode prog_13_method_1_code 127 = .ok (.putfield 56, 3) from by decide +kernel) ?_
  refine k_al E 0 h0 (show decode prog_13_method_1_code 130 = .ok (.aload_n 0, 1) from by decide +kernel) rfl (lv_at hl 0 rfl) ?_
  refine k_bi E 8 (show decode prog_13_method_1_code 131 = .ok (.bipush 8, 2) from by decide +kernel) (by decide) ?_
  refine k_newa2 E 0 rfl (ax_at (i := 221) (by decide +kernel)) rfl (8, .inl (fun _ => 0)) (fun _ => rfl) (by decide) (by decide) (by decide) (Nat.le_of_ble_eq_true rfl) (Nat.le_of_ble_eq_true rfl) (show decode prog_13_method_1_code 133 = .ok (.newarray .int, 2) from by decide +kernel) (fun q14 => ?_)
  refine k_put E (a := 9) (k := 29) (by decide) (by decide) (ax_at (i := 1573) (by decide +kernel)) hin rfl rfl rfl (Nat.le_of_ble_eq_true rfl) (show decode prog_13_method_1_code 135 = .ok (.putfield 59, 3) from by decide +kernel) ?_
  exact k_end (fun z => [0, 0, q1, q2, q3, q4, q5, q6, 0, 0, q7, 0, 0, 0, 0, 0, 0, 0, 0, 0, 0, q8, q9, q10, q11, q12, 0, 0, 0, q13, q14].getD z 0) E hr hlk (Nat.le_of_ble_eq_true rfl) (Nat.le_of_ble_eq_true rfl) (.of_eq rfl) (show decode prog_13_method_1_code 138 = .ok (.return_, 1) from by decide +kernel)
