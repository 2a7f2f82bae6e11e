/-! content: how many are in a set, and which one -/
def bcN (m : Nat) : Nat :=
  let a := m - (m >>> 1 &&& 1431655765)
  let b := (a &&& 858993459) + (a >>> 2 &&& 858993459)
  let c := (b + b >>> 4) &&& 252645135
  let e := c + c >>> 8
  (e + e >>> 16) &&& 63
def pcN (n : Nat) : Nat := fb_ct (fun i => n.testBit i) 8
theorem bc_all : ∀ a, a < 256 → ∀ b, b < 256 → bcN (256 * a + b) = pcN a + pcN b := by decide +kernel
theorem bc_ct {m : Nat} (hm : m < 65536) : bcN m = fb_ct (fun i => m.testBit i) 16 := by
  have e : 256 * (m / 256) + m % 256 = m := Nat.div_add_mod m 256
  have h := bc_all (m / 256) (by omega) (m % 256) (by omega)
  rw [e] at h
  rw [h, show (16 : Nat) = 8 + 8 from rfl, fb_ct_split, Nat.add_comm]
  unfold pcN
  congr 1
  · exact fb_ct_cong (fun k hk => by rw [show (256 : Nat) = 2 ^ 8 from rfl, Nat.testBit_mod_two_pow, decide_eq_true hk, Bool.true_and])
  · exact fb_ct_cong (fun k hk => by rw [show (256 : Nat) = 2 ^ 8 from rfl, Nat.testBit_div_two_pow, Nat.add_comm])
theorem bc_ushr {m k : Nat} (hk : k < 32) : (((nI m).toUInt32 >>> ((nI k).toUInt32 &&& Int32.toUInt32 31)).toInt32) = nI ((m % 2 ^ 32) >>> k) := by
  refine b_ext (fun i hi => ?_)
  rw [b_ushr k hk, bt_nI hi, Nat.testBit_shiftRight, Nat.testBit_mod_two_pow]
  by_cases h : k + i < 32
  · rw [bt_nI h, decide_eq_true h, Bool.true_and]
  · rw [b_big (by omega), decide_eq_false h, Bool.false_and]
theorem pk_land (m k : Nat) : nI m &&& nI k = nI (m &&& k) := by
  refine b_ext (fun i hi => ?_)
  rw [b_and, bt_nI hi, bt_nI hi, bt_nI hi, Nat.testBit_and]
theorem bc_us {m : Nat} (k : Nat) (hk : k < 32) (hm : m < 2 ^ 32) : (((nI m).toUInt32 >>> ((nI k).toUInt32 &&& Int32.toUInt32 31)).toInt32) = nI (m >>> k) := by
  rw [bc_ushr hk, Nat.mod_eq_of_lt hm]
theorem shr_le (m k : Nat) : m >>> k ≤ m := by rw [Nat.shiftRight_eq_div_pow]; exact Nat.div_le_self _ _
theorem t_bc {m : Nat} (hm : m < 65536) (d : ax_D) (Q : ax_P) (hQ : Q d (Sum.inl (some (Sum.inl (nI (bcN m)))))) : CT 114 [Sum.inl (nI m)] d Q := by
  refine w114 _ ?_
  have h1 : m >>> 1 &&& 1431655765 ≤ m := Nat.le_trans Nat.and_le_left (shr_le m 1)
  have ha : m - (m >>> 1 &&& 1431655765) ≤ m := Nat.sub_le _ _
  have E1 : (nI m - ((((nI m : Int32).toUInt32 >>> ((1 : Int32).toUInt32 &&& Int32.toUInt32 31)).toInt32) &&& (1431655765 : Int32))) = nI (m - (m >>> 1 &&& 1431655765)) := by
    rw [show (1 : Int32) = nI 1 from rfl, bc_us 1 (by decide) (by omega), show (1431655765 : Int32) = nI 1431655765 from rfl, pk_land, pk_sub h1]
  rw [E1]
  generalize hA : m - (m >>> 1 &&& 1431655765) = a at *
  have b1 : a &&& 858993459 ≤ a := Nat.and_le_left
  have b2 : a >>> 2 &&& 858993459 ≤ a := Nat.le_trans Nat.and_le_left (shr_le a 2)
  have E2 : ((nI a &&& (858993459 : Int32)) + ((((nI a : Int32).toUInt32 >>> ((2 : Int32).toUInt32 &&& Int32.toUInt32 31)).toInt32) &&& (858993459 : Int32))) = nI ((a &&& 858993459) + (a >>> 2 &&& 858993459)) := by
    rw [show (2 : Int32) = nI 2 from rfl, bc_us 2 (by decide) (by omega), show (858993459 : Int32) = nI 858993459 from rfl, pk_land, pk_land, nI_add]
  rw [E2]
  generalize hB : (a &&& 858993459) + (a >>> 2 &&& 858993459) = b at *
  have c1 : b >>> 4 ≤ b := shr_le b 4
  have E3 : ((nI b + (((nI b : Int32).toUInt32 >>> ((4 : Int32).toUInt32 &&& Int32.toUInt32 31)).toInt32)) &&& (252645135 : Int32)) = nI ((b + b >>> 4) &&& 252645135) := by
    rw [show (4 : Int32) = nI 4 from rfl, bc_us 4 (by decide) (by omega), show (252645135 : Int32) = nI 252645135 from rfl, nI_add, pk_land]
  rw [E3]
  have c2 : (b + b >>> 4) &&& 252645135 ≤ b + b >>> 4 := Nat.and_le_left
  generalize hC : (b + b >>> 4) &&& 252645135 = c at *
  have e1 : c >>> 8 ≤ c := shr_le c 8
  have E4 : (nI c + (((nI c : Int32).toUInt32 >>> ((8 : Int32).toUInt32 &&& Int32.toUInt32 31)).toInt32)) = nI (c + c >>> 8) := by
    rw [show (8 : Int32) = nI 8 from rfl, bc_us 8 (by decide) (by omega), nI_add]
  rw [E4]
  generalize hE : c + c >>> 8 = e at *
  have E5 : ((nI e + (((nI e : Int32).toUInt32 >>> ((16 : Int32).toUInt32 &&& Int32.toUInt32 31)).toInt32)) &&& (63 : Int32)) = nI ((e + e >>> 16) &&& 63) := by
    rw [show (16 : Int32) = nI 16 from rfl, bc_us 16 (by decide) (by omega), show (63 : Int32) = nI 63 from rfl, nI_add, pk_land]
  rw [E5]
  have : bcN m = (e + e >>> 16) &&& 63 := by
    unfold bcN
    simp only [hA, hB, hC, hE]
  rw [← this]
  exact hQ
theorem t_bits {p : Nat → Bool} {n : Nat} (hn : n ≤ 16) (d : ax_D) (Q : ax_P) (hQ : Q d (Sum.inl (some (Sum.inl (nI (fb_ct p n)))))) : CT 114 [Sum.inl (setI p n)] d Q := by
  obtain ⟨N, hN, eN⟩ : ∃ N, N < 2 ^ 32 ∧ setI p n = nI N := ⟨(setI p n).toBitVec.toNat, (setI p n).toBitVec.isLt, Int32.toBitVec_inj.mp (by
    show _ = BitVec.ofNat 32 _
    rw [BitVec.ofNat_toNat]
    simp)⟩
  have bits : ∀ j, j < 32 → N.testBit j = (decide (j < n) && p j) := fun j hj => by rw [← bt_nI hj, ← eN, bt_setI (by omega) hj]
  have hN16 : N < 65536 := by
    refine Nat.lt_pow_two_of_testBit N (n := 16) (fun i hi => ?_)
    rcases Nat.lt_or_ge i 32 with q | q
    · rw [bits i q, decide_eq_false (by omega)]; rfl
    · exact Nat.testBit_lt_two_pow (Nat.lt_of_lt_of_le hN (Nat.pow_le_pow_right (by decide) q))
  rw [eN]
  refine t_bc hN16 d Q ?_
  rw [bc_ct hN16]
  have e : fb_ct (fun i => N.testBit i) 16 = fb_ct p n := by
    have h1 : fb_ct (fun i => N.testBit i) 16 = fb_ct (fun i => decide (i < n) && p i) 16 := fb_ct_cong (fun k hk => bits k (by omega))
    have h2 := fb_ct_split (fun i => decide (i < n) && p i) n (16 - n)
    rw [show n + (16 - n) = 16 by omega] at h2
    have h3 : fb_ct (fun k => decide (n + k < n) && p (n + k)) (16 - n) = 0 := fb_ct_zero.mpr (fun k hk => by rw [decide_eq_false (by omega), Bool.false_and])
    rw [h1, h2, h3, Nat.add_zero]
    exact fb_ct_cong (fun k hk => by rw [decide_eq_true hk, Bool.true_and])
  rw [e]
  exact hQ
theorem findN_add {p : Nat → Bool} : ∀ (k i : Nat), findN p (k + 1) i = (match findN p k i with
    | some j => some j
    | none => cond (p (i + k)) (some (i + k)) none) := by
  intro k
  induction k with
  | zero => intro i; rfl
  | succ k ih =>
    intro i
    show cond (p i) (some i) (findN p (k + 1) (i + 1)) = (match cond (p i) (some i) (findN p k (i + 1)) with
    | some j => some j
    | none => cond (p (i + (k + 1))) (some (i + (k + 1))) none)
    cases hp : p i with
    | true => rfl
    | false =>
      rw [cond_false, cond_false, ih, show i + 1 + k = i + (k + 1) by omega]
/-- the member of a set, found going up -/
theorem memV_succ {p : Nat → Bool} {n : Nat} (hn : n < 2 ^ 30) {x : Int32} : memV p (n + 1) x = cond (p n && decide (nI (fb_ct p n) = x)) (nI n) (memV p n x) := by
  unfold memV mem first
  rw [findN_add, Nat.zero_add]
  have hxx : decide (x = nI (fb_ct p n)) = decide (nI (fb_ct p n) = x) := decide_eq_decide.mpr ⟨fun e => e.symm, fun e => e.symm⟩
  rw [hxx]
  cases hf : findN (fun i => p i && decide (x = nI (fb_ct p i))) n 0 with
  | none => cases (p n && decide (nI (fb_ct p n) = x)) <;> rfl
  | some j =>
    obtain ⟨-, hj, hpj, -⟩ := findN_spec hf
    have hpj : (p j && decide (x = nI (fb_ct p j))) = true := hpj
    rw [Bool.and_eq_true] at hpj
    have hxj : x = nI (fb_ct p j) := of_decide_eq_true hpj.2
    have hlt : fb_ct p j < fb_ct p n := by
      have h1 := fb_ct_mono p (show j + 1 ≤ n by omega)
      rw [fb_ct_succ, hpj.1] at h1
      simp at h1
      omega
    have hb := fb_ct_le p n
    have : decide (nI (fb_ct p n) = x) = false := by
      rw [hxj]
      exact decide_eq_false (fun e => by have := (nI_eq (by omega) (by omega)).mp e; omega)
    rw [this, Bool.and_false]
    rfl
section JC
variable {d : ax_D} {n : Nat}
theorem j_content (I : INV d n) (x y z : Int32) : JN [1, 2] 115 236 [x, y, z] d n := by
  have hC := I.1
  have hk := hC.2.2
  have hT16 := (Ok_T hk).2
  cases hT : isPl (mr d 2) x y with
  | false => exact jq_x I 0 rfl (fun Q hQ => w115 _ _ _ (by simp only [c_chkPl hC, hT, kV_r, kV_x, kI_r, kI_x, kR_r, kF_r, kD_r, forall_eq, not_true_eq_false, not_false_eq_true, false_implies, true_implies, true_and, and_true, b2i_0, b2i_1, b2i_01, b2i_t, b2i_f, decide_true, decide_false, Bool.not_true, Bool.not_false, i1_0, eq_self, reduceCtorEq, eLits, cond_false]; exact hQ)) (fun d' Q e _ hQ => w236 _ _ _ (by simp only [f_mv, f_sV, f_sV', f_s2, f_s3, f_s29, f_s30, f_mr, mr_sR, mv_sV, sV_sV, sR_sR, m2, kV_r, kV_x, kI_r, kI_x, kR_r, kF_r, kD_r, forall_eq, not_true_eq_false, not_false_eq_true, false_implies, true_implies, true_and, and_true, b2i_0, b2i_1, b2i_01, b2i_t, b2i_f, decide_true, decide_false, Bool.not_true, Bool.not_false, i1_0, eq_self, reduceCtorEq, eLits, m2, m_isPl, e, hT, m_fails]; exact hQ _))
  | true =>
    have hP : ∀ i, i ≤ nT (mr d 2) → fb_ct (fun t => isAtS (mr d 2) t x y) i ≤ 16 := fun i hi => Nat.le_trans (fb_ct_le _ i) (by omega)
    have chk : ∀ (d' : ax_D) (Q : ax_P), mr d' 2 = mr d 2 → h236_29 x y z (nI (fb_ct (fun t => isAtS (mr d 2) t x y) (nT (mr d 2)))) (memV (fun t => isAtS (mr d 2) t x y) (nT (mr d 2)) z) (nI (nT (mr d 2))) d' Q → h236_29 x y z 0 (-1) 0 d' Q := fun d' Q e hQ => by
      have key := lp_up (fun i => h236_29 x y z (nI (fb_ct (fun t => isAtS (mr d 2) t x y) i)) (memV (fun t => isAtS (mr d 2) t x y) i z) (nI i) d' Q) (nT (mr d 2)) ?_ ?_ 0 (Nat.zero_le _)
      · exact key
      · exact hQ
      · intro i hi ih
        have hl := Ok_lt hk hi
        have hb := hP i (by omega)
        refine w236_29 _ _ _ _ _ _ ?_
        rw [memV_succ (by omega), fb_ct_succ] at ih
        cases hp : isAtS (mr d 2) i x y with
        | false =>
          simp only [f_mv, f_sV, f_sV', f_s2, f_s3, f_s29, f_s30, f_mr, mr_sR, mv_sV, sV_sV, sR_sR, m2, e, (Ok_T hk).1, le_no hi (show nT (mr d 2) < 2 ^ 31 by omega), m_isAt hl, kV_r, kV_x, kI_r, kI_x, kR_r, kF_r, kD_r, forall_eq, not_true_eq_false, not_false_eq_true, false_implies, true_implies, true_and, and_true, b2i_0, b2i_1, b2i_01, b2i_t, b2i_f, decide_true, decide_false, Bool.not_true, Bool.not_false, i1_0, eq_self, reduceCtorEq, eLits, nI_1, hp]
          rw [hp] at ih
          simpa using ih
        | true =>
          simp only [f_mv, f_sV, f_sV', f_s2, f_s3, f_s29, f_s30, f_mr, mr_sR, mv_sV, sV_sV, sR_sR, m2, e, (Ok_T hk).1, le_no hi (show nT (mr d 2) < 2 ^ 31 by omega), m_isAt hl, kV_r, kV_x, kI_r, kI_x, kR_r, kF_r, kD_r, forall_eq, not_true_eq_false, not_false_eq_true, false_implies, true_implies, true_and, and_true, b2i_0, b2i_1, b2i_01, b2i_t, b2i_f, decide_true, decide_false, Bool.not_true, Bool.not_false, i1_0, eq_self, reduceCtorEq, eLits, nI_1, hp]
          rw [hp] at ih
          refine ⟨fun g => ?_, fun g => ?_⟩
          · rw [decide_eq_true g] at ih; simpa using ih
          · rw [decide_eq_false g] at ih; simpa using ih
    by_cases hz : z = -1
    · subst hz
      refine jq_v I (nI (fb_ct (fun t => isAtS (mr d 2) t x y) (nT (mr d 2)))) (fun Q hQ => w115 _ _ _ ?_) (fun d' Q e _ hQ => w236 _ _ _ ?_)
      · simp only [c_chkPl hC, hT, kV_r, kV_x, kI_r, kI_x, kR_r, kF_r, kD_r, forall_eq, not_true_eq_false, not_false_eq_true, false_implies, true_implies, true_and, and_true, b2i_0, b2i_1, b2i_01, b2i_t, b2i_f, decide_true, decide_false, Bool.not_true, Bool.not_false, i1_0, eq_self, reduceCtorEq, eLits, cond_true, c_at hC]
        exact t_bits hT16 d _ hQ
      · simp only [f_mv, f_sV, f_sV', f_s2, f_s3, f_s29, f_s30, f_mr, mr_sR, mv_sV, sV_sV, sR_sR, m2, kV_r, kV_x, kI_r, kI_x, kR_r, kF_r, kD_r, forall_eq, not_true_eq_false, not_false_eq_true, false_implies, true_implies, true_and, and_true, b2i_0, b2i_1, b2i_01, b2i_t, b2i_f, decide_true, decide_false, Bool.not_true, Bool.not_false, i1_0, eq_self, reduceCtorEq, eLits, m2, m_isPl, e, hT]
        refine chk _ Q ((m2 d' 0 0).trans e) (w236_29 _ _ _ _ _ _ ?_)
        simp only [f_mv, f_sV, f_sV', f_s2, f_s3, f_s29, f_s30, f_mr, mr_sR, mv_sV, sV_sV, sR_sR, m2, m2, e, (Ok_T hk).1, le_yes (Nat.le_refl _) (show nT (mr d 2) < 2 ^ 31 by omega), kV_r, kV_x, kI_r, kI_x, kR_r, kF_r, kD_r, forall_eq, not_true_eq_false, not_false_eq_true, false_implies, true_implies, true_and, and_true, b2i_0, b2i_1, b2i_01, b2i_t, b2i_f, decide_true, decide_false, Bool.not_true, Bool.not_false, i1_0, eq_self, reduceCtorEq, eLits]
        exact hQ
    · by_cases hm : memV (fun t => isAtS (mr d 2) t x y) (nT (mr d 2)) z = -1
      · refine jq_x I 1 rfl (fun Q hQ => w115 _ _ _ ?_) (fun d' Q e _ hQ => w236 _ _ _ ?_)
        · simp only [c_chkPl hC, hT, kV_r, kV_x, kI_r, kI_x, kR_r, kF_r, kD_r, forall_eq, not_true_eq_false, not_false_eq_true, false_implies, true_implies, true_and, and_true, b2i_0, b2i_1, b2i_01, b2i_t, b2i_f, decide_true, decide_false, Bool.not_true, Bool.not_false, i1_0, eq_self, reduceCtorEq, eLits, cond_true, c_at hC, c_member hT16, hm]
          exact ⟨fun g => absurd g hz, fun _ => hQ⟩
        · simp only [f_mv, f_sV, f_sV', f_s2, f_s3, f_s29, f_s30, f_mr, mr_sR, mv_sV, sV_sV, sR_sR, m2, kV_r, kV_x, kI_r, kI_x, kR_r, kF_r, kD_r, forall_eq, not_true_eq_false, not_false_eq_true, false_implies, true_implies, true_and, and_true, b2i_0, b2i_1, b2i_01, b2i_t, b2i_f, decide_true, decide_false, Bool.not_true, Bool.not_false, i1_0, eq_self, reduceCtorEq, eLits, m2, m_isPl, e, hT]
          refine chk _ Q ((m2 d' 0 0).trans e) (w236_29 _ _ _ _ _ _ ?_)
          simp only [f_mv, f_sV, f_sV', f_s2, f_s3, f_s29, f_s30, f_mr, mr_sR, mv_sV, sV_sV, sR_sR, m2, m2, e, (Ok_T hk).1, le_yes (Nat.le_refl _) (show nT (mr d 2) < 2 ^ 31 by omega), kV_r, kV_x, kI_r, kI_x, kR_r, kF_r, kD_r, forall_eq, not_true_eq_false, not_false_eq_true, false_implies, true_implies, true_and, and_true, b2i_0, b2i_1, b2i_01, b2i_t, b2i_f, decide_true, decide_false, Bool.not_true, Bool.not_false, i1_0, eq_self, reduceCtorEq, eLits, hm, hz, m_fails]
          exact hQ _
      · refine jq_v I (memV (fun t => isAtS (mr d 2) t x y) (nT (mr d 2)) z) (fun Q hQ => w115 _ _ _ ?_) (fun d' Q e _ hQ => w236 _ _ _ ?_)
        · simp only [c_chkPl hC, hT, kV_r, kV_x, kI_r, kI_x, kR_r, kF_r, kD_r, forall_eq, not_true_eq_false, not_false_eq_true, false_implies, true_implies, true_and, and_true, b2i_0, b2i_1, b2i_01, b2i_t, b2i_f, decide_true, decide_false, Bool.not_true, Bool.not_false, i1_0, eq_self, reduceCtorEq, eLits, cond_true, c_at hC, c_member hT16]
          exact ⟨fun g => absurd g hz, fun _ => ⟨fun g => absurd g hm, fun _ => hQ⟩⟩
        · simp only [f_mv, f_sV, f_sV', f_s2, f_s3, f_s29, f_s30, f_mr, mr_sR, mv_sV, sV_sV, sR_sR, m2, kV_r, kV_x, kI_r, kI_x, kR_r, kF_r, kD_r, forall_eq, not_true_eq_false, not_false_eq_true, false_implies, true_implies, true_and, and_true, b2i_0, b2i_1, b2i_01, b2i_t, b2i_f, decide_true, decide_false, Bool.not_true, Bool.not_false, i1_0, eq_self, reduceCtorEq, eLits, m2, m_isPl, e, hT]
          refine chk _ Q ((m2 d' 0 0).trans e) (w236_29 _ _ _ _ _ _ ?_)
          simp only [f_mv, f_sV, f_sV', f_s2, f_s3, f_s29, f_s30, f_mr, mr_sR, mv_sV, sV_sV, sR_sR, m2, m2, e, (Ok_T hk).1, le_yes (Nat.le_refl _) (show nT (mr d 2) < 2 ^ 31 by omega), kV_r, kV_x, kI_r, kI_x, kR_r, kF_r, kD_r, forall_eq, not_true_eq_false, not_false_eq_true, false_implies, true_implies, true_and, and_true, b2i_0, b2i_1, b2i_01, b2i_t, b2i_f, decide_true, decide_false, Bool.not_true, Bool.not_false, i1_0, eq_self, reduceCtorEq, eLits, hm, hz]
          exact hQ
end JC
