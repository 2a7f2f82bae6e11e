def ax_mB (a : Nat) : Bool := (decide (lw_tbl[(ax_ps a).1]? = some (Cond.code (ax_y a) (ax_b a) (ax_m a) (ax_r a))) && goodWord (Cond.code (ax_y a) (ax_b a) (ax_m a) (ax_r a))) && ((decide (lw_tbl[(ax_ps a).2.1]? = some (Cond.initialized (ax_y a).cls)) && goodWord (Cond.initialized (ax_y a).cls)) &&
  ((!(decide ((ax_y a).cls = "java/lang/invoke/MethodHandle")) && (!(decide ((ax_y a).cls = "java/lang/invoke/VarHandle")) && decide ((parseMethodDescriptor (ax_y a).desc).map (fun d => d.parameters.length) = some (ax_n a)))) &&
  cond (Nat.beq (ax_k a) 99) (decide (lw_tbl[(ax_ps a).2.2.1]? = some (Cond.static (ax_y a))) && goodWord (Cond.static (ax_y a)))
    ((Nat.blt (ax_k a) 10 || Nat.beq (ax_k a) 13) && ((decide (lw_tbl[(ax_ps a).2.2.1]? = some (Cond.instanceMethod (ax_y a))) && goodWord (Cond.instanceMethod (ax_y a))) && (decide (lw_tbl[(ax_ps a).2.2.2]? = some (Cond.selects (ax_cls (ax_k a)) (ax_y a) (ax_y a))) && goodWord (Cond.selects (ax_cls (ax_k a)) (ax_y a) (ax_y a)))))))
theorem ax_mc0 : (List.range 10).all (fun j => ax_mB (0 + j)) = true := by decide +kernel
theorem ax_mc10 : (List.range 10).all (fun j => ax_mB (10 + j)) = true := by decide +kernel
theorem ax_mc20 : (List.range 10).all (fun j => ax_mB (20 + j)) = true := by decide +kernel
theorem ax_mc30 : (List.range 10).all (fun j => ax_mB (30 + j)) = true := by decide +kernel
theorem ax_mc40 : (List.range 10).all (fun j => ax_mB (40 + j)) = true := by decide +kernel
theorem ax_mc50 : (List.range 10).all (fun j => ax_mB (50 + j)) = true := by decide +kernel
theorem ax_mc60 : (List.range 10).all (fun j => ax_mB (60 + j)) = true := by decide +kernel
theorem ax_mc70 : (List.range 10).all (fun j => ax_mB (70 + j)) = true := by decide +kernel
theorem ax_mc80 : (List.range 10).all (fun j => ax_mB (80 + j)) = true := by decide +kernel
theorem ax_mc90 : (List.range 10).all (fun j => ax_mB (90 + j)) = true := by decide +kernel
theorem ax_mc100 : (List.range 10).all (fun j => ax_mB (100 + j)) = true := by decide +kernel
theorem ax_mc110 : (List.range 10).all (fun j => ax_mB (110 + j)) = true := by decide +kernel
theorem ax_mc120 : (List.range 10).all (fun j => ax_mB (120 + j)) = true := by decide +kernel
theorem ax_mc130 : (List.range 10).all (fun j => ax_mB (130 + j)) = true := by decide +kernel
theorem ax_mc140 : (List.range 10).all (fun j => ax_mB (140 + j)) = true := by decide +kernel
theorem ax_mc150 : (List.range 10).all (fun j => ax_mB (150 + j)) = true := by decide +kernel
theorem ax_mc160 : (List.range 10).all (fun j => ax_mB (160 + j)) = true := by decide +kernel
theorem ax_mc170 : (List.range 10).all (fun j => ax_mB (170 + j)) = true := by decide +kernel
theorem ax_mc180 : (List.range 10).all (fun j => ax_mB (180 + j)) = true := by decide +kernel
theorem ax_mc190 : (List.range 10).all (fun j => ax_mB (190 + j)) = true := by decide +kernel
theorem ax_mc200 : (List.range 10).all (fun j => ax_mB (200 + j)) = true := by decide +kernel
theorem ax_mc210 : (List.range 10).all (fun j => ax_mB (210 + j)) = true := by decide +kernel
theorem ax_mc220 : (List.range 10).all (fun j => ax_mB (220 + j)) = true := by decide +kernel
theorem ax_mc230 : (List.range 10).all (fun j => ax_mB (230 + j)) = true := by decide +kernel
theorem ax_mc240 : (List.range 10).all (fun j => ax_mB (240 + j)) = true := by decide +kernel
theorem ax_mc250 : (List.range 10).all (fun j => ax_mB (250 + j)) = true := by decide +kernel
theorem ax_mc260 : (List.range 10).all (fun j => ax_mB (260 + j)) = true := by decide +kernel
theorem ax_mc270 : (List.range 2).all (fun j => ax_mB (270 + j)) = true := by decide +kernel
theorem ax_mc : ∀ a, a < ax_N → ax_mB a = true := by
  intro a ha
  have ha : a < 272 := ha
  by_cases c0 : a < 10
  · have h := List.all_eq_true.mp ax_mc0 (a - 0) (List.mem_range.mpr (by omega))
    rwa [show 0 + (a - 0) = a by omega] at h
  by_cases c10 : a < 20
  · have h := List.all_eq_true.mp ax_mc10 (a - 10) (List.mem_range.mpr (by omega))
    rwa [show 10 + (a - 10) = a by omega] at h
  by_cases c20 : a < 30
  · have h := List.all_eq_true.mp ax_mc20 (a - 20) (List.mem_range.mpr (by omega))
    rwa [show 20 + (a - 20) = a by omega] at h
  by_cases c30 : a < 40
  · have h := List.all_eq_true.mp ax_mc30 (a - 30) (List.mem_range.mpr (by omega))
    rwa [show 30 + (a - 30) = a by omega] at h
  by_cases c40 : a < 50
  · have h := List.all_eq_true.mp ax_mc40 (a - 40) (List.mem_range.mpr (by omega))
    rwa [show 40 + (a - 40) = a by omega] at h
  by_cases c50 : a < 60
  · have h := List.all_eq_true.mp ax_mc50 (a - 50) (List.mem_range.mpr (by omega))
    rwa [show 50 + (a - 50) = a by omega] at h
  by_cases c60 : a < 70
  · have h := List.all_eq_true.mp ax_mc60 (a - 60) (List.mem_range.mpr (by omega))
    rwa [show 60 + (a - 60) = a by omega] at h
  by_cases c70 : a < 80
  · have h := List.all_eq_true.mp ax_mc70 (a - 70) (List.mem_range.mpr (by omega))
    rwa [show 70 + (a - 70) = a by omega] at h
  by_cases c80 : a < 90
  · have h := List.all_eq_true.mp ax_mc80 (a - 80) (List.mem_range.mpr (by omega))
    rwa [show 80 + (a - 80) = a by omega] at h
  by_cases c90 : a < 100
  · have h := List.all_eq_true.mp ax_mc90 (a - 90) (List.mem_range.mpr (by omega))
    rwa [show 90 + (a - 90) = a by omega] at h
  by_cases c100 : a < 110
  · have h := List.all_eq_true.mp ax_mc100 (a - 100) (List.mem_range.mpr (by omega))
    rwa [show 100 + (a - 100) = a by omega] at h
  by_cases c110 : a < 120
  · have h := List.all_eq_true.mp ax_mc110 (a - 110) (List.mem_range.mpr (by omega))
    rwa [show 110 + (a - 110) = a by omega] at h
  by_cases c120 : a < 130
  · have h := List.all_eq_true.mp ax_mc120 (a - 120) (List.mem_range.mpr (by omega))
    rwa [show 120 + (a - 120) = a by omega] at h
  by_cases c130 : a < 140
  · have h := List.all_eq_true.mp ax_mc130 (a - 130) (List.mem_range.mpr (by omega))
    rwa [show 130 + (a - 130) = a by omega] at h
  by_cases c140 : a < 150
  · have h := List.all_eq_true.mp ax_mc140 (a - 140) (List.mem_range.mpr (by omega))
    rwa [show 140 + (a - 140) = a by omega] at h
  by_cases c150 : a < 160
  · have h := List.all_eq_true.mp ax_mc150 (a - 150) (List.mem_range.mpr (by omega))
    rwa [show 150 + (a - 150) = a by omega] at h
  by_cases c160 : a < 170
  · have h := List.all_eq_true.mp ax_mc160 (a - 160) (List.mem_range.mpr (by omega))
    rwa [show 160 + (a - 160) = a by omega] at h
  by_cases c170 : a < 180
  · have h := List.all_eq_true.mp ax_mc170 (a - 170) (List.mem_range.mpr (by omega))
    rwa [show 170 + (a - 170) = a by omega] at h
  by_cases c180 : a < 190
  · have h := List.all_eq_true.mp ax_mc180 (a - 180) (List.mem_range.mpr (by omega))
    rwa [show 180 + (a - 180) = a by omega] at h
  by_cases c190 : a < 200
  · have h := List.all_eq_true.mp ax_mc190 (a - 190) (List.mem_range.mpr (by omega))
    rwa [show 190 + (a - 190) = a by omega] at h
  by_cases c200 : a < 210
  · have h := List.all_eq_true.mp ax_mc200 (a - 200) (List.mem_range.mpr (by omega))
    rwa [show 200 + (a - 200) = a by omega] at h
  by_cases c210 : a < 220
  · have h := List.all_eq_true.mp ax_mc210 (a - 210) (List.mem_range.mpr (by omega))
    rwa [show 210 + (a - 210) = a by omega] at h
  by_cases c220 : a < 230
  · have h := List.all_eq_true.mp ax_mc220 (a - 220) (List.mem_range.mpr (by omega))
    rwa [show 220 + (a - 220) = a by omega] at h
  by_cases c230 : a < 240
  · have h := List.all_eq_true.mp ax_mc230 (a - 230) (List.mem_range.mpr (by omega))
    rwa [show 230 + (a - 230) = a by omega] at h
  by_cases c240 : a < 250
  · have h := List.all_eq_true.mp ax_mc240 (a - 240) (List.mem_range.mpr (by omega))
    rwa [show 240 + (a - 240) = a by omega] at h
  by_cases c250 : a < 260
  · have h := List.all_eq_true.mp ax_mc250 (a - 250) (List.mem_range.mpr (by omega))
    rwa [show 250 + (a - 250) = a by omega] at h
  by_cases c260 : a < 270
  · have h := List.all_eq_true.mp ax_mc260 (a - 260) (List.mem_range.mpr (by omega))
    rwa [show 260 + (a - 260) = a by omega] at h
  by_cases c270 : a < 272
  · have h := List.all_eq_true.mp ax_mc270 (a - 270) (List.mem_range.mpr (by omega))
    rwa [show 270 + (a - 270) = a by omega] at h
  omega
theorem ax_Mks : ∀ a, a < ax_N → ax_Mk (ax_y a) (ax_b a) (ax_m a) (ax_r a) (ax_n a) := by
  intro a ha
  obtain ⟨h1, h2⟩ := ax_an (ax_mc a ha)
  obtain ⟨h2, h3⟩ := ax_an h2
  obtain ⟨h3, h4⟩ := ax_an h3
  obtain ⟨h3, h5⟩ := ax_an h3
  obtain ⟨h5, h6⟩ := ax_an h5
  exact ⟨ax_at h1, ax_at h2, of_decide_eq_false (ax_no h3), of_decide_eq_false (ax_no h5), of_decide_eq_true h6⟩
theorem ax_Sts : ∀ a, a < ax_N → ax_k a = 99 → Cond.static (ax_y a) ∈ ax_gw := by
  intro a ha hk
  have h := (ax_an (ax_an (ax_an (ax_mc a ha)).2).2).2
  rw [hk] at h
  exact ax_at h
theorem ax_Ins : ∀ a, a < ax_N → ¬ ax_k a = 99 → (ax_k a < 10 ∨ ax_k a = 13) ∧ Cond.instanceMethod (ax_y a) ∈ ax_gw ∧ Cond.selects (ax_cls (ax_k a)) (ax_y a) (ax_y a) ∈ ax_gw := by
  intro a ha hk
  have h := (ax_an (ax_an (ax_an (ax_mc a ha)).2).2).2
  have e : Nat.beq (ax_k a) 99 = false := by
    cases hb : Nat.beq (ax_k a) 99 with
    | false => rfl
    | true => exact absurd (Nat.eq_of_beq_eq_true hb) hk
  rw [e] at h
  obtain ⟨h1, h2⟩ := ax_an h
  obtain ⟨h2, h3⟩ := ax_an h2
  exact ⟨((Bool.or_eq_true _ _).mp h1).imp Nat.le_of_ble_eq_true Nat.eq_of_beq_eq_true, ax_at h2, ax_at h3⟩
