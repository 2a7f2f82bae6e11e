/-! String's own look at an index: within the text it does nothing -/
def ax_yP : MethodName := ⟨"jdk/internal/util/Preconditions", "checkIndex", "(IILjava/util/function/BiFunction;)I"⟩
abbrev ax_bP : ByteArray := prog_35_method_11_code
abbrev ax_wP : List Cond := Cond.code ax_yP ax_bP 3 (some .int) :: ax_gw
theorem ax_pP0 : decode ax_bP 0 = .ok (.iload_n 0, 1) := by decide +kernel
theorem ax_pP1 : decode ax_bP 1 = .ok (.ifCond .lt 8, 3) := by decide +kernel
theorem ax_pP4 : decode ax_bP 4 = .ok (.iload_n 0, 1) := by decide +kernel
theorem ax_pP5 : decode ax_bP 5 = .ok (.iload_n 1, 1) := by decide +kernel
theorem ax_pP6 : decode ax_bP 6 = .ok (.if_icmp .lt 10, 3) := by decide +kernel
theorem ax_pP16 : decode ax_bP 16 = .ok (.iload_n 0, 1) := by decide +kernel
theorem ax_pP17 : decode ax_bP 17 = .ok (.ireturn, 1) := by decide +kernel
theorem ax_preM (l : Launch) (x n : Int32) (r : Option Nat) (sz : Nat) (h0 : ¬ x < 0) (h1 : x < n) : Met l ax_yP ax_wP ({ frames := 1, cells := 0, slots := 0, locals := 20 }) (va_Pc [.int x, .int n, va_rf r] (fun U => U.heap.size = sz)) (va_Qi (fun (_ : Int32) (_ : Unit) => True) (fun _ _ => True) (fun q => sz ≤ q)) 0 0 (fun q => sz ≤ q) := by
  refine Met.ofW (cc := ax_bP) (maxL := 3) (ret := some .int) (by decide) rfl ?_
  intro p e s m args below meth c s₁ B hml hv
  obtain ⟨rfl, hsz⟩ := hv
  subst hsz
  have hx := B.exec
  have hb := B.bytes
  have hl := lv_entry ([.int x, .int n, va_rf r]) (n := 3) (by cases r <;> exact Nat.le_of_ble_eq_true rfl)
  rw [lg_entry_eq]
  generalize (lg_sl ([.int x, .int n, va_rf r]) ++ List.replicate (3 - (lg_sl ([.int x, .int n, va_rf r])).length) Slot.unset).toArray = ls at hl ⊢
  have hl : lv_has ls 3 [(0, .int x), (1, .int n)] := lv_sub hl [0, 1] (by cases r <;> rfl)
  refine lv_iload_n hx hb ax_pP0 rfl (lv_at hl 0 rfl) ?_
  refine lv_if_lt (tgt := 9) hx hb ax_pP1 (by decide) (fun q => absurd q h0) (fun _ => ?_)
  refine lv_iload_n hx hb ax_pP4 rfl (lv_at hl 0 rfl) ?_
  refine lv_iload_n hx hb ax_pP5 rfl (lv_at hl 1 rfl) ?_
  refine lv_icmp_lt (tgt := 16) hx hb ax_pP6 (by decide) (fun _ => ?_) (fun q => absurd h1 q)
  refine lv_iload_n hx hb ax_pP16 rfl (lv_at hl 0 rfl) ?_
  have hS : va_S (fun q => s.heap.size ≤ q) s.heap s.heap [] := va_S.rf
  exact W.iret hx hb B.returns (fun t ht hW => ⟨⟨x, (), rfl, trivial, trivial⟩, hS.F ht⟩) (fun q h => by cases h) ax_pP17 B.notSynchronized
theorem ax_MkP : ax_Mk ax_yP ax_bP 3 (some .int) 3 := ⟨ax_at (i := 981) (by decide +kernel), ax_at (i := 124) (by decide +kernel), by decide, by decide, by decide +kernel⟩
theorem ax_q0 : decode (ax_b 0) 0 = .ok (.iload_n 0, 1) := by decide +kernel
theorem ax_q1 : decode (ax_b 0) 1 = .ok (.iload_n 1, 1) := by decide +kernel
theorem ax_q2 : decode (ax_b 0) 2 = .ok (.getstatic 1053, 3) := by decide +kernel
theorem ax_q5 : decode (ax_b 0) 5 = .ok (.invokestatic 1059, 3) := by decide +kernel
theorem ax_q8 : decode (ax_b 0) 8 = .ok (.pop, 1) := by decide +kernel
theorem ax_q9 : decode (ax_b 0) 9 = .ok (.return_, 1) := by decide +kernel
theorem ax_lkP : Cond.methodLink "java/lang/String" 1059 ax_yP ∈ ax_gw := ax_at (i := 979) (by decide +kernel)
theorem ax_stP : Cond.static ax_yP ∈ ax_gw := ax_at (i := 980) (by decide +kernel)
theorem ax_fkP : Cond.fieldLink "java/lang/String" 1053 "jdk/internal/util/Preconditions" "SIOOBE_FORMATTER" "Ljava/util/function/BiFunction;" ∈ ax_gw := ax_at (i := 977) (by decide +kernel)
theorem ax_chk (l : Launch) (G : ax_G) : ∀ as d d' res, ax_jchk as d = some (d', res) → ax_CT ax_ldc ax_nest ax_thr l G (ax_y 0) (Cond.code (ax_y 0) (ax_b 0) (ax_m 0) (ax_r 0) :: ax_gw) (ax_f 0) (ax_l 0) as d (d', ax_eo res, res) := by
  intro as d d' res h
  obtain ⟨x, n, rfl, h0, h1, rfl, rfl⟩ : ∃ x n, as = [Sum.inl x, Sum.inl n] ∧ ¬ x < 0 ∧ x < n ∧ d' = d ∧ res = Sum.inl none := by
    unfold ax_jchk at h
    split at h
    · rename_i x n
      obtain ⟨a1, a2⟩ : (!(decide (x < 0)) && decide (x < n)) = true ∧ some (d, Sum.inl none) = some (d', res) := by
        cases hb : (!(decide (x < 0)) && decide (x < n)) with
        | false => rw [hb] at h; cases h
        | true => rw [hb] at h; exact ⟨rfl, h⟩
      obtain ⟨a3, a4⟩ := ax_an a1
      cases a2
      exact ⟨x, n, rfl, of_decide_eq_false (ax_no a3), of_decide_eq_true a4, rfl, rfl⟩
    · cases h
  intro sz
  refine vx_ofW (cc := ax_b 0) (maxL := ax_m 0) (ret := ax_r 0) (by decide +kernel) rfl ?_
  intro p e s m args below meth c s₁ B hml2 ht hv
  obtain ⟨rfl, hsz, hvs, hP, hK, hD, hE⟩ := hv
  subst hsz
  have hx := B.exec
  have hb := B.bytes
  have hts := atoms_spec (ws := Cond.code (ax_y 0) (ax_b 0) (ax_m 0) (ax_r 0) :: ax_gw) B.pre
  have hown : s.vm.findClass "java/lang/String" = some m.cls := findClass_of_methodNamed B.named
  have hgw : ∀ w ∈ ax_gw, w ∈ Cond.code (ax_y 0) (ax_b 0) (ax_m 0) (ax_r 0) :: ax_gw := fun w hw => List.mem_cons_of_mem _ hw
  have hl := lv_entry (([Sum.inl x, Sum.inl n] : List ax_V).map (ax_conc G)) (n := ax_m 0) (by rw [ax_sl_len]; exact Nat.le_of_ble_eq_true rfl)
  rw [lg_entry_eq]
  generalize (lg_sl (([Sum.inl x, Sum.inl n] : List ax_V).map (ax_conc G)) ++ List.replicate (ax_m 0 - (lg_sl (([Sum.inl x, Sum.inl n] : List ax_V).map (ax_conc G))).length) Slot.unset).toArray = ls at hl ⊢
  have hl : lv_has ls (ax_m 0) [(0, .int x), (1, .int n)] := hl
  have hS : va_S (ax_A G s.heap.size) s.heap s.heap [] := va_S.rf
  obtain ⟨r, hZ⟩ : ∃ r : Option Nat, va_Z "jdk/internal/util/Preconditions" "SIOOBE_FORMATTER" "Ljava/util/function/BiFunction;" (va_rf r) (ax_A G s.heap.size) s s.heap := by
    rcases hE.2.2.2.2.2.2.2 with h | ⟨t, h⟩
    · exact ⟨none, h⟩
    · exact ⟨some t, h⟩
  refine lv_iload_n hx hb ax_q0 rfl (lv_at hl 0 rfl) ?_
  refine lv_iload_n hx hb ax_q1 rfl (lv_at hl 1 rfl) ?_
  refine va_gets hx hb hZ hS hown (hts _ (hgw _ ax_fkP)) (fun x h => h) ax_q2 ?_
  refine va_calli (va_runS (As := [.int x, .int n, va_rf r]) (rest := []) (n := 3) ⟨hx, hb, hml2, hown, hts⟩ (ax_preM l x n r s.heap.size h0 h1)
    (And.intro (callB_of (bytes := ax_bP) (maxL := 3) (ret := some .int) 3 hts (ax_goodIn hgw ax_MkP.1) rfl rfl rfl (hts _ (hgw _ ax_MkP.2.1)) (hts _ (hgw _ ax_lkP)) ax_MkP.2.2 (And.intro (Nat.le_of_ble_eq_true rfl) (Nat.le_of_ble_eq_true rfl))) (hts _ (hgw _ ax_stP)))
    (And.intro (fun a U g mk q => And.intro q.1 q.2) (fun U hU hW => And.intro rfl (by show U.heap.size = s.heap.size; rw [hU]))) rfl rfl hl.1 rfl (lv_room (Nat.le_of_ble_eq_true rfl)) ax_q5 (And.intro (Nat.le_of_ble_eq_true rfl) (Nat.le_of_ble_eq_true rfl))) hS (fun q h1 h2 => Or.inr h2) (fun q h => Or.inr h) (fun z u t H1 locs1 hh hvm _ _ hz hk hS1 => ?_)
  refine lv_pop hx hb ax_q8 rfl ?_
  refine W.widen (k := 0) (n := 6 * 0) (by omega) (by omega) (vx_ret ?_)
  exact W.vret hx hb B.returns (ax_qr (rv := none) (ax_kept hP (fun q hq => hk q hq (Nat.not_le.mpr hq))) hS1 (fun v h => by simp at h)) hS1.2.2 ax_q9 B.notSynchronized
section AXY
variable {l : Launch} {G : ax_G}
/-- EVERY METHOD DOES WHAT ITS RUN SAYS: from here on all is pure -/
theorem ax_sem_ok (hst : l.stackTraces = false) : ax_OK ax_ldc ax_nest ax_thr l G ax_N (ax_sem ax_N) ax_f ax_l ax_m ax_y ax_b ax_r := ax_all hst (ax_chk l G) ax_N (Nat.le_refl _)
end AXY
