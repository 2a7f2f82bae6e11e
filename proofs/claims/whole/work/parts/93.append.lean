/-! append -/
def byt (p s : Int32) : Int32 := (p >>> (s &&& 31)) &&& 255
def cB (b : Int32) : Nat := if b = 0 then 0 else 1
def okB (b : Int32) : Bool := decide (b = 0) || inB b 32 126
def apB (b : Int32) (t : Row × Nat) : Row × Nat := if b = 0 then t else (upd t.1 t.2 b, t.2 + 1)
theorem char_ok : ∀ k, k < 127 → vp_nar .char (((nI k).toUInt32 % 65536).toInt32) = nI k := by decide +kernel
theorem okB_nz {b : Int32} (h : okB b = true) (hb : ¬ b = 0) : vp_nar .char ((b.toUInt32 % 65536).toInt32) = b := by
  unfold okB at h
  rw [decide_eq_false hb, Bool.false_or] at h
  obtain ⟨k, -, hk, e⟩ := inB_ex (a := 32) (b := 126) h (by omega) (by omega)
  rw [e]
  exact char_ok k (by omega)
section AP
variable {d : ax_D}
theorem st21 (p s : Int32) (c : Nat) (hs : ¬ s < 0) (Q : ax_P) (h0 : okB (byt p s) = false → Q d (Sum.inl (some (Sum.inl (-1))))) (h1 : okB (byt p s) = true → h21_5 p (nI (c + cB (byt p s))) (s + (-8)) d Q) : h21_5 p (nI c) s d Q := by
  refine w21_5 _ _ _ ⟨fun z => absurd z hs, fun _ => ⟨fun z => w21_37 _ _ _ _ ?_, fun z => ?_⟩⟩
  · have hz : byt p s = 0 := z
    have ok : okB (byt p s) = true := by unfold okB; rw [decide_eq_true hz]; rfl
    have := h1 ok
    unfold cB at this
    rw [if_pos hz] at this
    refine ⟨fun _ => ?_, fun g => absurd z g⟩
    rw [Int32.add_zero]
    exact this
  · have hz : ¬ byt p s = 0 := z
    refine (c_within _ _ _ d _).mpr ?_
    cases hb : inB (byt p s) 32 126 with
    | false =>
      have hb : inB ((p >>> (s &&& 31)) &&& 255) 32 126 = false := hb
      rw [hb]
      exact ⟨fun _ => h0 (by unfold okB; rw [decide_eq_false hz]; exact hb), fun g => absurd rfl g⟩
    | true =>
      have ok : okB (byt p s) = true := by unfold okB; rw [hb, Bool.or_true]
      have hb : inB ((p >>> (s &&& 31)) &&& 255) 32 126 = true := hb
      rw [hb]
      have := h1 ok
      unfold cB at this
      rw [if_neg hz] at this
      refine ⟨fun g => absurd g (by decide), fun _ => w21_37 _ _ _ _ ⟨fun g => absurd g z, fun _ => ?_⟩⟩
      rw [show nI c + 1 = nI (c + 1) from nI_add c 1]
      exact this
theorem st20 (p s : Int32) {tx : Row} {ln : Nat} (hs : ¬ s < 0) (hl : ln + cB (byt p s) ≤ 80) (ht : ax_row d 4 0 1 = tx) (h1 : ax_row d 4 0 0 1 = nI ln) (ok : okB (byt p s) = true) (Q : ax_P) (hQ : ∀ d', Fr (fun k i => k = 4 ∧ i = 0) d d' → ax_row d' 4 0 1 = (apB (byt p s) (tx, ln)).1 → ax_row d' 4 0 0 1 = nI (apB (byt p s) (tx, ln)).2 → h20_3 p (s + (-8)) d' Q) : h20_3 p s d Q := by
  refine w20_3 _ _ ⟨fun z => absurd z hs, fun _ => ⟨fun z => ?_, fun z => ?_⟩⟩
  · have hz : byt p s = 0 := z
    unfold apB at hQ
    rw [if_pos hz] at hQ
    exact hQ d (Fr_refl d) ht h1
  · have hz : ¬ byt p s = 0 := z
    unfold cB at hl
    rw [if_neg hz] at hl
    rw [h1]
    refine ⟨fun g => absurd g (nI_ge (b := 80) (by omega) (by omega)), fun _ => ⟨ax_in_nI (by omega) (by omega), fun d1 e1 d2 e2 => ?_⟩⟩
    rw [nI_clamp (by omega), ht, show vp_nar .char ((((p >>> (s &&& 31)) &&& 255).toUInt32 % 65536).toInt32) = byt p s from okB_nz ok hz] at e1
    have e1 : d1 = ax_set d 4 0 1 (upd tx ln (byt p s)) := e1
    have e2 : d2 = ax_set d1 4 0 0 (upd (ax_row d1 4 0 0) 1 (ax_row d1 4 0 0 1 + 1)) := e2
    unfold apB at hQ
    rw [if_neg hz] at hQ
    have x1 : ax_row d1 4 0 0 1 = nI ln := by rw [e1, row_j (by decide)]; exact h1
    refine hQ d2 (Fr_trans (b := d1) (by rw [e1]; exact Fr_set (by decide) ⟨rfl, rfl⟩ d 1 _) (by rw [e2]; exact Fr_set (by decide) ⟨rfl, rfl⟩ d1 0 _)) ?_ ?_
    · rw [e2, row_j (by decide), e1, row_s]
    · rw [e2, row_s, upd_s, x1]; exact nI_add ln 1
theorem st12 (p : Int32) (c k : Nat) (f : Bool) (hk : k < 4) (Q : ax_P) (h : h208_12 p (nI (c + cB (byt p (nI (8 * k))))) (b2i (f && okB (byt p (nI (8 * k))))) (nI k + (-1)) d Q) : h208_12 p (nI c) (b2i f) (nI k) d Q := by
  have e8 : (8 : Int32) * nI k = nI (8 * k) := pk_mul 8 k
  have key : ∀ v, v = nI (cB (byt p (nI (8 * k)))) → h208_41 p (nI c) (b2i f) (nI k) (byt p (nI (8 * k))) v (nI c) d Q := by
    intro v hv
    subst hv
    refine w208_41 _ _ _ _ _ _ _ ?_
    rw [nI_add]
    cases f with
    | false =>
      exact ⟨fun _ => h, fun g => absurd rfl g⟩
    | true =>
      refine ⟨fun g => absurd g (by decide), fun _ => ⟨fun g => ?_, fun g => (m_in _ _ _ d _).mpr ?_⟩⟩
      · have ok : okB (byt p (nI (8 * k))) = true := by unfold okB; rw [decide_eq_true g]; rfl
        rw [ok] at h
        exact h
      · cases hb : inB (byt p (nI (8 * k))) 32 126 with
        | false =>
          have ok : okB (byt p (nI (8 * k))) = false := by unfold okB; rw [decide_eq_false g, hb]; rfl
          rw [ok] at h
          exact ⟨fun _ => h, fun g => absurd rfl g⟩
        | true =>
          have ok : okB (byt p (nI (8 * k))) = true := by unfold okB; rw [hb, Bool.or_true]
          rw [ok] at h
          exact ⟨fun g => absurd g (by decide), fun _ => h⟩
  refine w208_12 _ _ _ _ ⟨fun z => absurd z (nI_pos (by omega)), fun _ => ?_⟩
  rw [e8]
  refine ⟨fun z => ?_, fun z => ?_⟩
  · exact key 0 (by unfold cB; rw [if_pos (show byt p (nI (8 * k)) = 0 from z)]; rfl)
  · exact key 1 (by unfold cB; rw [if_neg (show ¬ byt p (nI (8 * k)) = 0 from z)]; rfl)
theorem st110 (p v2 v3 : Int32) {tx : Row} {ln k : Nat} (hk : k < 4) (hl : ln + cB (byt p (nI (8 * k))) ≤ 80) (ht : mr d 10 = tx) (h1 : mv d 10 = nI ln) (Q : ax_P) (hQ : ∀ d', FrM (fun j => j = 10) (fun j => j = 10) d d' → mr d' 10 = (apB (byt p (nI (8 * k))) (tx, ln)).1 → mv d' 10 = nI (apB (byt p (nI (8 * k))) (tx, ln)).2 → h208_110 p v2 v3 (nI k + (-1)) d' Q) : h208_110 p v2 v3 (nI k) d Q := by
  have e8 : (8 : Int32) * nI k = nI (8 * k) := pk_mul 8 k
  refine w208_110 _ _ _ _ ⟨fun z => absurd z (nI_pos (by omega)), fun _ => ?_⟩
  rw [e8, show ax_row d 9 0 0 10 = nI ln from h1]
  refine ⟨fun z => ?_, fun z => ?_⟩
  · have hz : byt p (nI (8 * k)) = 0 := z
    unfold apB at hQ
    rw [if_pos hz] at hQ
    exact hQ d (FrM_id _ _ d) ht h1
  · have hz : ¬ byt p (nI (8 * k)) = 0 := z
    unfold cB at hl
    rw [if_neg hz] at hl
    refine ⟨ax_in_nI (by omega) (by omega), fun d1 e1 d2 e2 => ?_⟩
    rw [nI_clamp (by omega), show ax_row d 9 0 10 = tx from ht] at e1
    have q1 : d1 = sR d 10 (upd tx ln (byt p (nI (8 * k)))) := e1
    have q2 : d2 = sV d1 10 (ax_row d1 9 0 0 10 + 1) := e2
    have x1 : ax_row d1 9 0 0 10 = nI ln := by rw [q1]; exact (mv_sR (by decide) d 10 _).trans h1
    rw [x1, show nI ln + 1 = nI (ln + 1) from nI_add ln 1] at q2
    unfold apB at hQ
    rw [if_neg hz] at hQ
    refine hQ d2 ?_ ?_ ?_
    · rw [q2, q1]
      exact FrM_trans (FrM_R (R := fun j => j = 10) d (by decide) rfl _) (FrM_sV (K := fun j => j = 10) _ rfl _)
    · rw [q2, mr_sV (by decide), q1, mr_sR]
    · rw [q2]; exact mv_sV _ _ _
end AP
theorem apB_n (b : Int32) (t : Row × Nat) : (apB b t).2 = t.2 + cB b := by
  unfold apB cB
  by_cases h : b = 0
  · rw [if_pos h, if_pos h]; rfl
  · rw [if_neg h, if_neg h]
def ap4 (p : Int32) (t : Row × Nat) : Row × Nat := apB (byt p 0) (apB (byt p 8) (apB (byt p 16) (apB (byt p 24) t)))
def c4 (p : Int32) : Nat := 0 + cB (byt p 24) + cB (byt p 16) + cB (byt p 8) + cB (byt p 0)
def ok4 (p : Int32) : Bool := true && okB (byt p 24) && okB (byt p 16) && okB (byt p 8) && okB (byt p 0)
theorem ap4_n (p : Int32) (t : Row × Nat) : (ap4 p t).2 = t.2 + c4 p := by
  unfold ap4 c4
  rw [apB_n, apB_n, apB_n, apB_n]
  omega
theorem c4_le (p : Int32) : c4 p ≤ 4 := by
  have h : ∀ b, cB b ≤ 1 := fun b => by unfold cB; split <;> omega
  have h1 := h (byt p 24)
  have h2 := h (byt p 16)
  have h3 := h (byt p 8)
  have h4 := h (byt p 0)
  unfold c4
  omega
section AP2
variable {d : ax_D} {n : Nat}
theorem c_chars (p : Int32) (Q : ax_P) (h0 : ok4 p = false → Q d (Sum.inl (some (Sum.inl (-1))))) (h1 : ok4 p = true → Q d (Sum.inl (some (Sum.inl (nI (c4 p)))))) : CT 21 [ax_vR 4 0 0, Sum.inl p] d Q := by
  unfold ok4 at h0 h1
  refine w21 _ (st21 p 24 0 (by decide) Q (fun k3 => h0 (by rw [k3]; simp)) (fun k3 => ?_))
  refine st21 p 16 _ (by decide) Q (fun k2 => h0 (by rw [k2]; simp)) (fun k2 => ?_)
  refine st21 p 8 _ (by decide) Q (fun k1 => h0 (by rw [k1]; simp)) (fun k1 => ?_)
  refine st21 p 0 _ (by decide) Q (fun k0 => h0 (by rw [k0]; simp)) (fun k0 => ?_)
  refine w21_5 _ _ _ ⟨fun _ => ?_, fun z => absurd (by decide) z⟩
  exact h1 (by rw [k3, k2, k1, k0]; rfl)
theorem ok4_b {p : Int32} (h : ok4 p = true) : okB (byt p 24) = true ∧ okB (byt p 16) = true ∧ okB (byt p 8) = true ∧ okB (byt p 0) = true := by
  unfold ok4 at h
  simp only [Bool.and_eq_true] at h
  exact ⟨h.1.1.1.2, h.1.1.2, h.1.2, h.2⟩
theorem c_add (p : Int32) {tx : Row} {ln : Nat} (ok : ok4 p = true) (hl : ln + c4 p ≤ 80) (ht : ax_row d 4 0 1 = tx) (h1 : ax_row d 4 0 0 1 = nI ln) (Q : ax_P) (hQ : ∀ d', Fr (fun k i => k = 4 ∧ i = 0) d d' → ax_row d' 4 0 1 = (ap4 p (tx, ln)).1 → ax_row d' 4 0 0 1 = nI (ap4 p (tx, ln)).2 → Q d' (Sum.inl none)) : CT 20 [ax_vR 4 0 0, Sum.inl p] d Q := by
  obtain ⟨k3, k2, k1, k0⟩ := ok4_b ok
  unfold c4 at hl
  refine w20 _ (st20 p 24 (by decide) (by omega) ht h1 k3 Q (fun d1 f1 t1 l1 => ?_))
  refine st20 p 16 (by decide) (by rw [apB_n]; omega) t1 l1 k2 Q (fun d2 f2 t2 l2 => ?_)
  refine st20 p 8 (by decide) (by rw [apB_n, apB_n]; omega) t2 l2 k1 Q (fun d3 f3 t3 l3 => ?_)
  refine st20 p 0 (by decide) (by rw [apB_n, apB_n, apB_n]; omega) t3 l3 k0 Q (fun d4 f4 t4 l4 => ?_)
  exact w20_3 _ _ ⟨fun _ => hQ d4 (Fr_trans f1 (Fr_trans f2 (Fr_trans f3 f4))) t4 l4, fun z => absurd (by decide) z⟩
theorem JN_mono {xs : List Nat} {ci mi : Nat} {as : List Int32} {n' : Nat} (h : JN xs ci mi as d n) (hn : n ≤ n') : JN xs ci mi as d n' := ct_mono h (fun d1 r1 q => ⟨q.1, fun o => ct_mono (q.2 o) (fun d2 r2 z => ⟨INV_mono z.1 hn, z.2⟩)⟩)
theorem j_append (I : INV d n) (p : Int32) : JN [1, 0] 22 208 [p] d (n + 1) := by
  have chk : ∀ (d' : ax_D) (Q : ax_P), h208_12 p (nI (c4 p)) (b2i (ok4 p)) (-1) (sV d' 0 0) Q → CT 208 [ax_vR 9 0 0, Sum.inl p] d' Q := fun d' Q h => w208 _ (fun d1 e1 => by
    have q1 : d1 = sV d' 0 0 := e1
    rw [q1]
    exact st12 p 0 3 true (by decide) Q (st12 p _ 2 _ (by decide) Q (st12 p _ 1 _ (by decide) Q (st12 p _ 0 _ (by decide) Q h))))
  cases ok : ok4 p with
  | false => exact JN_mono (jq_x I 0 rfl (fun Q hQ => w22 _ (c_chars p _ (fun _ => ⟨fun z => absurd z (by decide), fun _ => hQ⟩) (fun z => by rw [ok] at z; cases z))) (fun d' Q e _ hQ => chk d' Q (by
      rw [ok]
      refine w208_12 _ _ _ _ ⟨fun _ => ⟨fun _ => (m_fails _ _ _).mpr ?_, fun z => absurd rfl z⟩, fun z => absurd (by decide) z⟩
      rw [sV_sV]
      exact hQ _))) (Nat.le_succ n)
  | true =>
    have hc4 := c4_le p
    by_cases hz : c4 p = 0
    · exact JN_mono (jq_x I 0 rfl (fun Q hQ => w22 _ (c_chars p _ (fun z => by rw [ok] at z; cases z) (fun _ => by
        rw [hz]
        exact ⟨fun z => absurd z (by decide), fun _ => hQ⟩))) (fun d' Q e _ hQ => chk d' Q (by
        rw [ok, hz]
        refine w208_12 _ _ _ _ ⟨fun _ => ⟨fun z => absurd z (by decide), fun _ => ⟨fun _ => (m_fails _ _ _).mpr ?_, fun z => absurd rfl z⟩⟩, fun z => absurd (by decide) z⟩
        rw [sV_sV]
        exact hQ _))) (Nat.le_succ n)
    · have I2 := I
      obtain ⟨h1, h2, h3, ln, a, m, H, f, h4, h5, h6, ⟨x1, x2, x3⟩, y, h9, h10⟩ := I2
      have hpos : 0 < nI (c4 p) := nI_lt (a := 0) (by omega) (by omega)
      have hne : ¬ nI (c4 p) = 0 := fun z => hz ((nI_eq (by omega) (by omega)).mp (show nI (c4 p) = nI 0 from z))
      by_cases hl : ln + c4 p ≤ 80
      · have hle : (nI ln + nI (c4 p)) ≤ 80 := by rw [nI_add]; exact nI_le (b := 80) hl (by omega)
        refine jn_of (r1 := Sum.inl (some (Sum.inl (nI (ln + c4 p))))) (S := fun k i => k = 4 ∧ i = 0) (P := fun d1 => ax_row d1 4 0 1 = (ap4 p (mr d 10, ln)).1 ∧ ax_row d1 4 0 0 1 = nI (ln + c4 p)) (fun Q hQ => w22 _ (c_chars p _ (fun z => by rw [ok] at z; cases z) (fun _ => ⟨fun _ => ?_, fun z => absurd hpos z⟩))) (fun d1 o f1 p1 => chk _ _ ?_)
        · rw [x2]
          refine ⟨fun _ => c_add p ok hl x1 x2 _ (fun d' f' t' l' => ?_), fun z => absurd hle z⟩
          rw [ap4_n] at l'
          show Q d' (Sum.inl (some (Sum.inl (ax_row d' 4 0 0 1))))
          rw [l']
          exact hQ d' f' ⟨t', l'⟩
        · rw [ok]
          have e10 : mv (sV (oD d1 o) 0 0) 10 = nI ln := by rw [mv_sVn (by decide), oD_mv, show mv d1 10 = mv d 10 from congrFun (Fr_mr f1 0) 10]; exact x3
          have t10 : mr (sV (oD d1 o) 0 0) 10 = mr d 10 := by rw [mr_sV (by decide), oD_mr, Fr_mr f1]
          refine w208_12 _ _ _ _ ⟨fun _ => ⟨fun z => absurd z (by decide), fun _ => ⟨fun z => absurd z hne, fun _ => ?_⟩⟩, fun z => absurd (by decide) z⟩
          rw [show ax_row (sV (oD d1 o) 0 0) 9 0 0 10 = nI ln from e10]
          refine ⟨fun _ => ?_, fun z => absurd hle z⟩
          unfold c4 at hl
          refine st110 p _ _ (k := 3) (by decide) (show ln + cB (byt p 24) ≤ 80 by omega) t10 e10 _ (fun y1 g1 u1 l1 => ?_)
          refine st110 p _ _ (k := 2) (by decide) (show _ + cB (byt p 16) ≤ 80 by rw [apB_n]; show ln + cB (byt p 24) + cB (byt p 16) ≤ 80; omega) u1 l1 _ (fun y2 g2 u2 l2 => ?_)
          refine st110 p _ _ (k := 1) (by decide) (show _ + cB (byt p 8) ≤ 80 by rw [apB_n, apB_n]; show ln + cB (byt p 24) + cB (byt p 16) + cB (byt p 8) ≤ 80; omega) u2 l2 _ (fun y3 g3 u3 l3 => ?_)
          refine st110 p _ _ (k := 0) (by decide) (show _ + cB (byt p 0) ≤ 80 by rw [apB_n, apB_n, apB_n]; show ln + cB (byt p 24) + cB (byt p 16) + cB (byt p 8) + cB (byt p 0) ≤ 80; omega) u3 l3 _ (fun y4 g4 u4 l4 => ?_)
          have u4 : mr y4 10 = (ap4 p (mr d 10, ln)).1 := u4
          have l4 : mv y4 10 = nI (ap4 p (mr d 10, ln)).2 := l4
          rw [ap4_n] at l4
          refine w208_110 _ _ _ _ ⟨fun _ => ?_, fun z => absurd (by decide) z⟩
          rw [show ax_row y4 9 0 0 10 = nI (ln + c4 p) from l4]
          have gg : FrM (fun j => j = 10) (fun j => j = 0 ∨ j = 10) (oD d1 o) y4 := FrM_trans (FrM_sV (oD d1 o) (Or.inl rfl) 0) (FrM_mono (FrM_trans g1 (FrM_trans g2 (FrM_trans g3 g4))) (fun _ z => z) (fun _ z => Or.inr z))
          have v0 : mv y4 0 = 0 := ((FrM_trans g1 (FrM_trans g2 (FrM_trans g3 g4))).2.2.2 0 (by decide)).trans (mv_sV _ _ _)
          have fq := FQ_of f1 gg
          have s2 : mr y4 2 = mr d 2 := fq.2.1 2 (by decide) (by decide)
          have s3 : mr y4 3 = mr d 3 := fq.2.1 3 (by decide) (by decide)
          have nS : ∀ k i, k ≠ 4 → ¬ (k = 4 ∧ i = 0) := fun k i h z => h z.1
          refine ⟨⟨?_, ?_, FQ_FLT fq (nS 8 0 (by decide)) (fun k a b => by omega) h3, ln + c4 p, a + 1, m, H, f, by omega, by omega, hl, ⟨?_, ?_, l4⟩, ⟨?_, ?_, ?_⟩, ?_, ?_⟩, gg.2.1, Or.inr ⟨_, rfl, v0, rfl⟩⟩
          · rw [s2]; exact FQ_CC fq (nS 7 0 (by decide)) (nS 3 _ (by decide)) h1
          · rw [s2]; exact h2
          · rw [FrM_row gg (by decide), p1.1, u4]
          · rw [FrM_row gg (by decide)]; exact p1.2
          · exact FQ_cHist fq (nS 2 0 (by decide)) (fun i _ => nS 7 _ (by decide)) y.1
          · exact FQ_mHist fq (by decide) (by decide) y.2.1
          · rw [s2]; exact y.2.2
          · rw [s2, s3]; exact FQ_BEG fq (nS 7 _ (by decide)) (nS 6 0 (by decide)) h9
          · exact FQ_SAV fq (congrFun (fq.1 8 0 0 (by decide) (nS 8 0 (by decide))) 2) (by decide) (by decide) (by decide) (nS 7 2 (by decide)) (nS 7 3 (by decide)) (nS 3 1 (by decide)) (nS 6 1 (by decide)) h10
      · have hgt : ¬ (nI ln + nI (c4 p)) ≤ 80 := by rw [nI_add]; exact nI_ge (a := 80) (by omega) (by omega)
        refine JN_mono (jq_x I 1 rfl (fun Q hQ => w22 _ (c_chars p _ (fun z => by rw [ok] at z; cases z) (fun _ => ⟨fun _ => ?_, fun z => absurd hpos z⟩))) (fun d' Q e e' hQ => chk d' Q ?_)) (Nat.le_succ n)
        · rw [x2]
          exact ⟨fun z => absurd z hgt, fun _ => hQ⟩
        · rw [ok]
          have e10 : ax_row (sV d' 0 0) 9 0 0 10 = nI ln := (mv_sVn (k := 0) (k' := 10) (by decide) d' 0).trans ((e' 10).trans x3)
          refine w208_12 _ _ _ _ ⟨fun _ => ⟨fun z => absurd z (by decide), fun _ => ⟨fun z => absurd z hne, fun _ => ?_⟩⟩, fun z => absurd (by decide) z⟩
          rw [e10]
          refine ⟨fun z => absurd z hgt, fun _ => (m_fails _ _ _).mpr ?_⟩
          rw [sV_sV]
          exact hQ _
end AP2
