/-! the plan changed while the world isn't played -/
def ixP (j t : Nat) : Nat := (if j = 6 then 15 else if j = 7 then 63 else if j = 8 then 111 else if j = 9 then 127 else if j = 10 then 143 else if j = 11 then 159 else if j = 12 then 175 else if j = 13 then 191 else if j = 14 then 223 else if j = 15 then 287 else if j = 16 then 293 else 299) + t
def lnP (j : Nat) : Nat := if j ≤ 7 then 48 else if j ≤ 14 then 16 else 6
theorem j12 {j : Nat} (h1 : 6 ≤ j) (h2 : j ≤ 17) : j = 6 ∨ j = 7 ∨ j = 8 ∨ j = 9 ∨ j = 10 ∨ j = 11 ∨ j = 12 ∨ j = 13 ∨ j = 14 ∨ j = 15 ∨ j = 16 ∨ j = 17 := by omega
def blk (j : Nat) : Nat × Nat := (ixP j 0, ixP j 0 + lnP j)
theorem blk_ok : ∀ j, j < 12 → ∀ i, i < 12 → i = j ∨ (blk (6 + i)).2 ≤ (blk (6 + j)).1 ∨ (blk (6 + j)).2 ≤ (blk (6 + i)).1 := by decide +kernel
theorem blk_in : ∀ j, j < 18 → 6 ≤ j → 15 ≤ (blk j).1 ∧ (blk j).2 ≤ 305 ∧ ((blk j).2 ≤ 207 ∨ (223 ≤ (blk j).1 ∧ (blk j).2 ≤ 239) ∨ 287 ≤ (blk j).1) := by decide +kernel
theorem ixP_0 (j t : Nat) : ixP j t = ixP j 0 + t := by unfold ixP; omega
theorem ixP_lt {j t : Nat} (h1 : 6 ≤ j) (h2 : j ≤ 17) (ht : t < lnP j) : 15 ≤ ixP j t ∧ ixP j t < 305 ∧ (ixP j t < 207 ∨ (223 ≤ ixP j t ∧ ixP j t < 239) ∨ 287 ≤ ixP j t) := by
  have := blk_in j (by omega) h1
  have e := ixP_0 j t
  unfold blk at this
  simp only at this
  omega
theorem ixP_inj {j t i u : Nat} (h1 : 6 ≤ j) (h2 : j ≤ 17) (ht : t < lnP j) (h3 : 6 ≤ i) (h4 : i ≤ 17) (hu : u < lnP i) (h : ixP j t = ixP i u) : j = i ∧ t = u := by
  have e1 := ixP_0 j t
  have e2 := ixP_0 i u
  by_cases hij : i = j
  · subst hij
    exact ⟨rfl, by omega⟩
  · have := blk_ok (j - 6) (by omega) (i - 6) (by omega)
    rw [show 6 + (i - 6) = i by omega, show 6 + (j - 6) = j by omega] at this
    unfold blk at this
    simp only at this
    omega
section CPA
variable {d : ax_D} {p : Nat} {s : Row}
theorem Cp_arr (h : Cp d p s) {j t : Nat} (h1 : 6 ≤ j) (h2 : j ≤ 17) (ht : t < lnP j) : ax_row d 3 p j t = s (ixP j t) := by
  obtain ⟨-, -, -, c1, c2, c3⟩ := h
  rcases j12 h1 h2 with e | e | e | e | e | e | e | e | e | e | e | e <;> subst e
  · exact (c1 t ht).1
  · exact (c1 t ht).2
  · exact (c2 t ht).1
  · exact (c2 t ht).2.1
  · exact (c2 t ht).2.2.1
  · exact (c2 t ht).2.2.2.1
  · exact (c2 t ht).2.2.2.2.1
  · exact (c2 t ht).2.2.2.2.2.1
  · exact (c2 t ht).2.2.2.2.2.2
  · exact (c3 t ht).1
  · exact (c3 t ht).2.1
  · exact (c3 t ht).2.2
theorem Cp_mk (h0 : ax_row d 3 p 0 0 = s 0 ∧ ax_row d 3 p 0 1 = s 1 ∧ ax_row d 3 p 0 2 = s 2) (h3 : ∀ r, r < 8 → bt (ax_row d 3 p 0 3) r = decide (s (7 + r) = 1)) (h4 : ∀ k, k < 6 → s (305 + k) = b2i (bt (ax_row d 3 p 0 4) k)) (ha : ∀ j t, 6 ≤ j → j ≤ 17 → t < lnP j → ax_row d 3 p j t = s (ixP j t)) : Cp d p s :=
  ⟨h0, h3, h4, fun e he => ⟨ha 6 e (by decide) (by decide) he, ha 7 e (by decide) (by decide) he⟩, fun t ht => ⟨ha 8 t (by decide) (by decide) ht, ha 9 t (by decide) (by decide) ht, ha 10 t (by decide) (by decide) ht, ha 11 t (by decide) (by decide) ht, ha 12 t (by decide) (by decide) ht, ha 13 t (by decide) (by decide) ht, ha 14 t (by decide) (by decide) ht⟩, fun k hk => ⟨ha 15 k (by decide) (by decide) hk, ha 16 k (by decide) (by decide) hk, ha 17 k (by decide) (by decide) hk⟩⟩
theorem Cp_set (h : Cp d p s) {j t : Nat} (h1 : 6 ≤ j) (h2 : j ≤ 17) (ht : t < lnP j) (x : Int32) {d1 : ax_D} (e : d1 = ax_set d 3 p j (upd (ax_row d 3 p j) t x)) : Cp d1 p (upd s (ixP j t) x) := by
  have hb := ixP_lt h1 h2 ht
  have k0 : ax_row d1 3 p 0 = ax_row d 3 p 0 := by rw [e, row_j (by omega)]
  refine Cp_mk ?_ (fun r hr => ?_) (fun k hk => ?_) (fun i u h3 h4 hu => ?_)
  · rw [k0, upd_n (by omega), upd_n (by omega), upd_n (by omega)]; exact h.1
  · rw [k0, upd_n (by omega)]; exact h.2.1 r hr
  · rw [k0, upd_n (by omega)]; exact h.2.2.1 k hk
  · by_cases hij : i = j
    · subst hij
      rw [e, row_s]
      by_cases hut : u = t
      · rw [hut, upd_s, upd_s]
      · rw [upd_n hut, upd_n (fun z => hut (ixP_inj h1 h2 hu h1 h2 ht z).2)]
        exact Cp_arr h h1 h2 hu
    · rw [e, row_j hij, upd_n (fun z => hij (ixP_inj h3 h4 hu h1 h2 ht z).1)]
      exact Cp_arr h h3 h4 hu
/-- a count of the plan -/
theorem Cp_num (h : Cp d p s) {k : Nat} (hk : k < 3) (x : Int32) {d1 : ax_D} (e : d1 = ax_set d 3 p 0 (upd (ax_row d 3 p 0) k x)) : Cp d1 p (upd s k x) := by
  have ka : ∀ j, j ≠ 0 → ax_row d1 3 p j = ax_row d 3 p j := fun j hj => by rw [e, row_j hj]
  have k0 : ax_row d1 3 p 0 = upd (ax_row d 3 p 0) k x := by rw [e, row_s]
  refine Cp_mk ?_ (fun r hr => ?_) (fun i hi => ?_) (fun i u h3 h4 hu => ?_)
  · rw [k0]
    have q : ∀ i, i < 3 → ax_row d 3 p 0 i = s i := fun i hi => by
      rcases (by omega : i = 0 ∨ i = 1 ∨ i = 2) with z | z | z <;> subst z
      · exact h.1.1
      · exact h.1.2.1
      · exact h.1.2.2
    have q2 : ∀ i, i < 3 → upd (ax_row d 3 p 0) k x i = upd s k x i := fun i hi => by
      by_cases z : i = k
      · rw [z, upd_s, upd_s]
      · rw [upd_n z, upd_n z]; exact q i hi
    exact ⟨q2 0 (by decide), q2 1 (by decide), q2 2 (by decide)⟩
  · rw [k0, upd_n (by omega), upd_n (by omega)]; exact h.2.1 r hr
  · rw [k0, upd_n (by omega), upd_n (by omega)]; exact h.2.2.1 i hi
  · have := ixP_lt h3 h4 hu
    rw [ka i (by omega), upd_n (by omega)]; exact Cp_arr h h3 h4 hu
theorem Cp_light (h : Cp d p s) {r : Nat} (hr : r < 8) (on : Bool) {d1 : ax_D} (e : d1 = ax_set d 3 p 0 (upd (ax_row d 3 p 0) 3 (wF (ax_row d 3 p 0 3) (nI r) on))) : Cp d1 p (upd s (7 + r) (b2i on)) := by
  have ka : ∀ j, j ≠ 0 → ax_row d1 3 p j = ax_row d 3 p j := fun j hj => by rw [e, row_j hj]
  have k0 : ax_row d1 3 p 0 = upd (ax_row d 3 p 0) 3 (wF (ax_row d 3 p 0 3) (nI r) on) := by rw [e, row_s]
  refine Cp_mk ?_ (fun q hq => ?_) (fun i hi => ?_) (fun i u h3 h4 hu => ?_)
  · rw [k0, upd_n (show (0 : Nat) ≠ _ by omega), upd_n (show (1 : Nat) ≠ _ by omega), upd_n (show (2 : Nat) ≠ _ by omega), upd_n (show (0 : Nat) ≠ _ by omega), upd_n (show (1 : Nat) ≠ _ by omega), upd_n (show (2 : Nat) ≠ _ by omega)]; exact h.1
  · rw [k0, upd_s, wF_bt (by omega) (by omega)]
    by_cases z : q = r
    · rw [if_pos z, z, upd_s]; cases on <;> decide
    · rw [if_neg z, upd_n (by omega)]; exact h.2.1 q hq
  · rw [k0, upd_n (by omega), upd_n (by omega)]; exact h.2.2.1 i hi
  · have := ixP_lt h3 h4 hu
    rw [ka i (by omega), upd_n (by omega)]; exact Cp_arr h h3 h4 hu
theorem Cp_once (h : Cp d p s) {r : Nat} (hr : r < 6) (on : Bool) {d1 : ax_D} (e : d1 = ax_set d 3 p 0 (upd (ax_row d 3 p 0) 4 (wF (ax_row d 3 p 0 4) (nI r) on))) : Cp d1 p (upd s (305 + r) (b2i on)) := by
  have ka : ∀ j, j ≠ 0 → ax_row d1 3 p j = ax_row d 3 p j := fun j hj => by rw [e, row_j hj]
  have k0 : ax_row d1 3 p 0 = upd (ax_row d 3 p 0) 4 (wF (ax_row d 3 p 0 4) (nI r) on) := by rw [e, row_s]
  refine Cp_mk ?_ (fun q hq => ?_) (fun i hi => ?_) (fun i u h3 h4 hu => ?_)
  · rw [k0, upd_n (show (0 : Nat) ≠ _ by omega), upd_n (show (1 : Nat) ≠ _ by omega), upd_n (show (2 : Nat) ≠ _ by omega), upd_n (show (0 : Nat) ≠ _ by omega), upd_n (show (1 : Nat) ≠ _ by omega), upd_n (show (2 : Nat) ≠ _ by omega)]; exact h.1
  · rw [k0, upd_n (by decide), upd_n (by omega)]; exact h.2.1 q hq
  · rw [k0, upd_s, wF_bt (by omega) (by omega)]
    by_cases z : i = r
    · rw [if_pos z, z, upd_s]
    · rw [if_neg z, upd_n (by omega)]; exact h.2.2.1 i hi
  · have := ixP_lt h3 h4 hu
    rw [ka i (by omega), upd_n (by omega)]; exact Cp_arr h h3 h4 hu
end CPA
/-- a world's row when the plan has changed, unplayed -/
theorem Cw_pl {d : ax_D} {w : Nat} {s s' : Row} (h : Cw d w s) (hp : ¬ s 3 = 1) (hp' : ¬ s' 3 = 1) (e : ∀ k, k = 4 ∨ k = 6 ∨ (207 ≤ k ∧ k < 223) ∨ (239 ≤ k ∧ k < 287) ∨ (329 ≤ k ∧ k < 369) → s' k = s k) : Cw d w s' := by
  obtain ⟨a1, ⟨b1, b2, b3⟩, c1, -⟩ := h
  refine ⟨fun t ht => ?_, ⟨?_, ?_, ?_⟩, fun x hx => ?_, fun z => absurd z hp'⟩
  · rw [e (255 + t) (by omega), e (271 + t) (by omega), e (239 + t) (by omega), e (207 + t) (by omega)]; exact a1 t ht
  · rw [b1]; unfold plI; rw [if_neg hp, if_neg hp']
  · rw [b2, e 6 (by omega)]
  · rw [b3, e 4 (by omega)]
  · rw [c1 x hx, e (329 + x) (by omega)]
theorem top_pl {s s' : Row} (h : Ok s) (h' : Ok s') (eT : nT s' = nT s) (pl : SPl s s') {t : Nat} (ht : t < nT s) : top s' t = top s t := by
  refine climbs h (fun t => top s' t = top s t) (fun t ht hh => ?_) (fun t ht hh h1 h2 ih => ?_) ht
  · rw [top_0 hh, top_0 ((SPl_held pl (Ok_lt h ht)).trans hh)]
  · rw [top_1 h ht hh, top_1 h' (by rw [eT]; exact ht) ((SPl_held pl (Ok_lt h ht)).trans hh), SPl_par pl (Ok_lt h ht)]
    exact ih
theorem load_pl {s s' : Row} (h : Ok s) (h' : Ok s') (eT : nT s' = nT s) (pl : SPl s s') (es : ∀ t, t < 16 → s' (159 + t) = s (159 + t)) : load s' = load s := by
  unfold load
  rw [eT]
  refine fb_sm_cong (fun t ht => ?_)
  have hl := Ok_lt h (top_root h ht).1
  have eo : outer s' t = outer s t := by
    unfold outer
    rw [top_pl h h' eT pl ht]
    unfold outS
    rw [pl (255 + top s t) (by omega) (by omega), pl (271 + top s t) (by omega) (by omega)]
  rw [eo]
  unfold sz
  rw [es t (Ok_lt h ht)]
/-- a good row with another plan -/
theorem Ok_pl {s s' : Row} (h : Ok s) (e : ∀ k, (k < 7 ∧ k ≠ 0 ∧ k ≠ 2) ∨ (111 ≤ k ∧ k < 127) ∨ (159 ≤ k ∧ k < 175) ∨ (207 ≤ k ∧ k < 223) ∨ (239 ≤ k ∧ k < 287) ∨ 311 ≤ k → s' k = s k) (hp : ¬ s 3 = 1)
    (hR : s' 0 = nI (nR s') ∧ nR s' ≤ 8 ∧ nR s ≤ nR s') (hD : s' 2 = nI (nD s') ∧ nD s' ≤ 6)
    (hx : ∀ r, r < nR s' → ∀ k, k < 6 → (s' (15 + (6 * r + k)) = -1 ∨ ∃ q, q < nR s' ∧ s' (15 + (6 * r + k)) = nI q) ∧ (s' (63 + (6 * r + k)) = -1 ∨ ∃ t, t < nT s ∧ s' (63 + (6 * r + k)) = nI t))
    (hd : ∀ d, d < nD s' → (∃ k, k < 4 ∧ s' (287 + d) = nI k) ∧ ∃ t, t < nT s ∧ s' (293 + d) = nI t ∧ (s' (287 + d) = 2 → s (111 + t) = 1) ∧ (s' (287 + d) = 3 → s (111 + t) = 3))
    (hz : ∀ t, nT s ≤ t → t < 16 → s' (175 + t) = 0 ∧ s' (191 + t) = 0) : Ok s' ∧ load s' = load s := by
  have hT := Ok_T h
  have eT : nT s' = nT s := by unfold nT; rw [e 1 (by omega)]
  have pl : SPl s s' := fun k h1 h2 => e k (by omega)
  have ek : ∀ t, t < 16 → s' (111 + t) = s (111 + t) := fun t ht => e _ (by omega)
  have ok : Ok s' := by
    refine ⟨⟨⟨hR.1, hR.2.1, by rw [eT, e 1 (by omega)]; exact hT.1, by rw [eT]; exact hT.2, hD⟩, ?_, fun t ht => ?_, fun d hdd => ?_, ?_⟩, fun t ht => ?_, fun t ht => ?_, fun t h1 h2 => ?_, fun d hdd h3 => ?_, ?_, fun k hk => ?_⟩
    · rw [eT]; exact hx
    · rw [eT] at ht
      rw [ek t (by omega), e (159 + t) (by omega)]
      exact h.1.2.2.1 t ht
    · obtain ⟨a, t, b1, b2, b3, b4⟩ := hd d hdd
      exact ⟨a, t, by rw [eT]; exact b1, b2, by rw [ek t (by omega)]; exact b3, by rw [ek t (by omega)]; exact b4⟩
    · rw [eT]; exact hz
    · rw [eT] at ht
      obtain ⟨tp, tf⟩ := h.2.1 t ht
      refine ⟨?_, Tflag_of (e _ (by omega)) (e _ (by omega)) (ek t (by omega)) tf⟩
      unfold Tplace at tp ⊢
      rw [pl (255 + t) (by omega) (by omega), pl (271 + t) (by omega) (by omega), eT]
      rcases tp with ⟨q, r, q1, q2⟩ | ⟨q, w, q1, q2, q3⟩ | ⟨q, w, q1, q2, q3⟩ | q | q
      · exact Or.inl ⟨q, r, by omega, q2⟩
      · exact Or.inr (Or.inl ⟨q, w, q1, q2, by rw [ek w (by omega)]; exact q3⟩)
      · exact Or.inr (Or.inr (Or.inl ⟨q, w, q1, q2, by rw [ek w (by omega)]; exact q3⟩))
      · exact Or.inr (Or.inr (Or.inr (Or.inl q)))
      · exact Or.inr (Or.inr (Or.inr (Or.inr q)))
    · rw [eT] at ht
      obtain ⟨n, hn, hr⟩ := h.2.2.1 t ht
      exact ⟨n, hn, Rt_SP pl hT.2 (fun t ht => (h.2.1 t ht).1) n t ht hr⟩
    · rw [eT] at h1
      rw [e (207 + t) (by omega), e (239 + t) (by omega)]
      exact h.2.2.2.1 t h1 h2
    · exact absurd (by rw [← e 3 (by omega)]; exact h3) hp
    · rw [e 3 (by omega), e 4 (by omega), e 6 (by omega)]
      rcases h.2.2.2.2.2.1 with q | q
      · exact Or.inl q
      · exact absurd q.1 hp
    · rw [e k (by omega)]; exact h.2.2.2.2.2.2 k hk
  exact ⟨ok, load_pl h ok eT pl (fun t ht => e _ (by omega))⟩
/-- the plan's exits and daemons as they were -/
theorem Ok_pl0 {s s' : Row} (h : Ok s) (e : ∀ k, k < 111 ∨ (111 ≤ k ∧ k < 127) ∨ (159 ≤ k ∧ k < 175) ∨ (207 ≤ k ∧ k < 223) ∨ 239 ≤ k → s' k = s k) (hp : ¬ s 3 = 1) (hz : ∀ t, nT s ≤ t → t < 16 → s' (175 + t) = 0 ∧ s' (191 + t) = 0) : Ok s' ∧ load s' = load s := by
  have eR : nR s' = nR s := by unfold nR; rw [e 0 (by omega)]
  have eD : nD s' = nD s := by unfold nD; rw [e 2 (by omega)]
  have hR := Pk_R h.1
  have hD := Pk_D h.1
  refine Ok_pl h (fun k hk => e k (by omega)) hp ?_ ?_ ?_ ?_ hz
  · rw [eR, e 0 (by omega)]; exact ⟨hR.1, hR.2, Nat.le_refl _⟩
  · rw [eD, e 2 (by omega)]; exact hD
  · rw [eR]
    intro r hr k hk
    rw [e (15 + (6 * r + k)) (by omega), e (63 + (6 * r + k)) (by omega)]
    exact h.1.2.1 r hr k hk
  · rw [eD]
    intro d hd
    rw [e (287 + d) (by omega), e (293 + d) (by omega)]
    exact h.1.2.2.2.1 d hd
def SM : Nat → Nat → Prop := fun k i => (k = 3 ∧ i = 0) ∨ (k = 7 ∧ i = 0)
theorem jq_s {xs : List Nat} {ci mi : Nat} {as : List Int32} {d : ax_D} {n : Nat} (I : INV d n) (hp : ¬ mr d 2 3 = 1) {s' : Row} (h3 : ¬ s' 3 = 1) (hL : load s' ≤ 20) (v : Int32)
    (hc : ∀ Q : ax_P, (∀ d1, Fr SM d d1 → CC d1 0 s' → Q d1 (Sum.inl (some (Sum.inl v)))) → CT ci (ax_vR 8 0 0 :: as.map Sum.inl) d Q)
    (hm : ∀ (d' : ax_D) (Q : ax_P), mr d' 2 = mr d 2 → Q (sR (sV d' 0 0) 2 s') (Sum.inl (some (Sum.inl v))) → CT mi (ax_vR 9 0 0 :: as.map Sum.inl) d' Q) : JN xs ci mi as d n := by
  refine jn_of (r1 := Sum.inl (some (Sum.inl v))) (S := SM) (P := fun d1 => CC d1 0 s') (fun Q hQ => hc Q hQ) (fun d1 o f1 p1 => hm (oD d1 o) _ (Fr_mr f1 2) ?_)
  have f2 : FrM (fun j => j = 2) (fun k => k = 0) (oD d1 o) (sR (sV (oD d1 o) 0 0) 2 s') := FrM_trans (FrM_sV (K := fun k => k = 0) (oD d1 o) rfl 0) (FrM_R (R := fun j => j = 2) (j := 2) (sV (oD d1 o) 0 0) (by decide) rfl s')
  have fq := FQ_of f1 f2
  have s2 : mr (sR (sV (oD d1 o) 0 0) 2 s') 2 = s' := mr_sR _ _ _
  refine ⟨INV_fin I fq (fun k i z => by unfold SM at z; omega) (fun j z => by omega) (fun k z => by omega) (by rw [s2]; exact CC_o f2 p1) (by rw [s2]; exact hL) (fun m H f hm hh _ => ⟨[], f, ?_, fun z => absurd z (by rw [s2]; exact h3)⟩), rfl, Or.inr ⟨_, rfl, by rw [mv_sR (by decide)]; exact mv_sV _ _ _, rfl⟩⟩
  have e : H = [] := hh.2.2 hp
  subst e
  exact ⟨FQ_cHist fq (by unfold SM; omega) (fun i hi => absurd hi (Nat.not_lt_zero i)) hh.1, FQ_mHist fq (by decide) (by decide) hh.2.1, fun _ => rfl⟩
theorem Fr3 (d : ax_D) {j : Nat} {f : Row} {d1 : ax_D} (e : d1 = ax_set d 3 0 j f) : Fr SM d d1 := by rw [e]; exact Fr_set (by decide) (Or.inl ⟨rfl, rfl⟩) d j f
theorem Fr7 (d : ax_D) {j : Nat} {f : Row} {d1 : ax_D} (e : d1 = ax_set d 7 0 j f) : Fr SM d d1 := by rw [e]; exact Fr_set (by decide) (Or.inr ⟨rfl, rfl⟩) d j f
section SO
variable {d : ax_D} {n : Nat}
theorem j_setWorth (I : INV d n) (x w : Int32) : JN [2, 1, 0] 154 266 [x, w] d n := by
  have hC := I.1
  have hL := I.2.1
  have hk := hC.2.2
  have hcp : Cp d 0 (mr d 2) := hC.1
  cases hT : isTh (mr d 2) x with
  | false => exact jq_x I 0 rfl (fun Q hQ => w154 _ _ (by simp only [c_chkT hC, hT, kV_r, kV_x, kI_r, kI_x, kR_r, kF_r, kD_r, forall_eq, not_true_eq_false, not_false_eq_true, false_implies, true_implies, true_and, and_true, b2i_0, b2i_1, b2i_01, b2i_t, b2i_f, decide_true, decide_false, Bool.not_true, Bool.not_false, i1_0, eq_self, reduceCtorEq, eLits, cond_false]; exact hQ)) (fun d' Q e _ hQ => w266 _ _ (by simp only [f_mv, f_sV, f_sV', f_s2, f_s3, f_s29, f_s30, f_mr, mr_sR, mv_sV, sV_sV, sR_sR, m2, kV_r, kV_x, kI_r, kI_x, kR_r, kF_r, kD_r, forall_eq, not_true_eq_false, not_false_eq_true, false_implies, true_implies, true_and, and_true, b2i_0, b2i_1, b2i_01, b2i_t, b2i_f, decide_true, decide_false, Bool.not_true, Bool.not_false, i1_0, eq_self, reduceCtorEq, eLits, m_isTh, e, hT, m_fails]; exact hQ _))
  | true =>
    cases hb : inB w 0 9 with
    | false => exact jq_x I 1 rfl (fun Q hQ => w154 _ _ (by simp only [c_chkT hC, c_range, hT, hb, kV_r, kV_x, kI_r, kI_x, kR_r, kF_r, kD_r, forall_eq, not_true_eq_false, not_false_eq_true, false_implies, true_implies, true_and, and_true, b2i_0, b2i_1, b2i_01, b2i_t, b2i_f, decide_true, decide_false, Bool.not_true, Bool.not_false, i1_0, eq_self, reduceCtorEq, eLits, cond_true, cond_false]; exact hQ)) (fun d' Q e _ hQ => w266 _ _ (by simp only [f_mv, f_sV, f_sV', f_s2, f_s3, f_s29, f_s30, f_mr, mr_sR, mv_sV, sV_sV, sR_sR, m2, kV_r, kV_x, kI_r, kI_x, kR_r, kF_r, kD_r, forall_eq, not_true_eq_false, not_false_eq_true, false_implies, true_implies, true_and, and_true, b2i_0, b2i_1, b2i_01, b2i_t, b2i_f, decide_true, decide_false, Bool.not_true, Bool.not_false, i1_0, eq_self, reduceCtorEq, eLits, m_isTh, m_in, e, hT, hb, m_fails]; exact hQ _))
    | true =>
      cases hp : plays (mr d 2) with
      | true => exact jq_x I 2 rfl (fun Q hQ => w154 _ _ (by simp only [c_chkT hC, c_range, c_refP hC, hT, hb, hp, kV_r, kV_x, kI_r, kI_x, kR_r, kF_r, kD_r, forall_eq, not_true_eq_false, not_false_eq_true, false_implies, true_implies, true_and, and_true, b2i_0, b2i_1, b2i_01, b2i_t, b2i_f, decide_true, decide_false, Bool.not_true, Bool.not_false, i1_0, eq_self, reduceCtorEq, eLits, cond_true]; exact hQ)) (fun d' Q e _ hQ => w266 _ _ (by simp only [f_mv, f_sV, f_sV', f_s2, f_s3, f_s29, f_s30, f_mr, mr_sR, mv_sV, sV_sV, sR_sR, m2, kV_r, kV_x, kI_r, kI_x, kR_r, kF_r, kD_r, forall_eq, not_true_eq_false, not_false_eq_true, false_implies, true_implies, true_and, and_true, b2i_0, b2i_1, b2i_01, b2i_t, b2i_f, decide_true, decide_false, Bool.not_true, Bool.not_false, i1_0, eq_self, reduceCtorEq, eLits, m_isTh, m_in, m_played, e, hT, hb, hp, m_fails]; exact hQ _))
      | false =>
        obtain ⟨t, ht, rfl⟩ := isTh_ex hk hT
        have hl := Ok_lt hk ht
        have hnp : ¬ mr d 2 3 = 1 := of_decide_eq_false hp
        have ci : ax_in (nI t) 16 = true := ax_in_nI hl (by omega)
        have cl : (nI t).toNatClampNeg = t := nI_clamp (by omega)
        obtain ⟨ok, ld⟩ := Ok_pl0 (s' := upd (mr d 2) (191 + t) w) hk (fun k hk => upd_n (by omega) _ _) hnp (fun u h1 h2 => by rw [upd_n (by omega), upd_n (by omega)]; exact hk.1.2.2.2.2 u h1 h2)
        refine jq_s I hnp (s' := upd (mr d 2) (191 + t) w) (by rw [upd_n (by omega)]; exact hnp) (by rw [ld]; exact hL) (mr d 2 (191 + t)) (fun Q hQ => w154 _ _ ?_) (fun d' Q e hQ => w266 _ _ ?_)
        · simp only [c_chkT hC, c_range, c_refP hC, hT, hb, hp, kV_r, kV_x, kI_r, kI_x, kR_r, kF_r, kD_r, forall_eq, not_true_eq_false, not_false_eq_true, false_implies, true_implies, true_and, and_true, b2i_0, b2i_1, b2i_01, b2i_t, b2i_f, decide_true, decide_false, Bool.not_true, Bool.not_false, i1_0, eq_self, reduceCtorEq, eLits, cond_true, cond_false, ci, cl]
          rw [show ax_row d 3 0 13 t = mr d 2 (191 + t) from Cp_arr hcp (j := 13) (by decide) (by decide) hl]
          exact hQ _ (Fr3 d rfl) ⟨Cp_set hcp (j := 13) (by decide) (by decide) hl w rfl, Cw_Fr (Fr3 d rfl (f := upd (ax_row d 3 0 13) t w) (j := 13) |> fun z => (Fr_set (S := fun k i => k = 3 ∧ i = 0) (by decide) ⟨rfl, rfl⟩ d 13 (upd (ax_row d 3 0 13) t w))) (fun z => by cases z.1) (Cw_pl hC.2.1 hnp (by rw [upd_n (by omega)]; exact hnp) (fun k hk => upd_n (by omega) _ _)), ok⟩
        · simp only [f_mv, f_sV, f_sV', f_s2, f_s3, f_s29, f_s30, f_mr, mr_sR, mv_sV, sV_sV, sR_sR, m2, kV_r, kV_x, kI_r, kI_x, kR_r, kF_r, kD_r, forall_eq, not_true_eq_false, not_false_eq_true, false_implies, true_implies, true_and, and_true, b2i_0, b2i_1, b2i_01, b2i_t, b2i_f, decide_true, decide_false, Bool.not_true, Bool.not_false, i1_0, eq_self, reduceCtorEq, eLits, m_isTh, m_in, m_played, e, hT, hb, hp, in_191 hl, cl_191 hl]
          exact hQ
end SO
