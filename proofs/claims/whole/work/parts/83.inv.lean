/-! THE INVARIANT between two calls, and what an operation is asked -/
def eqR (f s : Row) : Prop := ∀ k, k < 369 → f k = s k
theorem eqR_back {a f s : Row} (ha : Ok a) (hs : Ok s) (h : eqR f s) : frS a f 369 = s := by
  funext k
  unfold frS
  by_cases c : k < 369
  · rw [if_pos c]; exact h k c
  · rw [if_neg c, ha.2.2.2.2.2.2 k (by omega), hs.2.2.2.2.2.2 k (by omega)]
theorem eqR_frS (f s : Row) : eqR (frS f s 369) s := fun k hk => by unfold frS; rw [if_pos hk]
/-- what begin makes of a row -/
def bgS (st : Row) (r : Nat) : Row := fun k => if k = 3 then 1 else if k = 4 then 0 else if k = 5 then nI r else if k = 6 then 0 else if 311 ≤ k ∧ k < 311 + nD st then st (k - 12) else if 317 ≤ k ∧ k < 317 + nD st then -1 else if 323 ≤ k ∧ k < 323 + nD st then 0 else st k
/-- turns taken one after the other -/
def runL : List Cd → Row → Option Row
  | [], b => some b
  | c :: l, b => match actS b (cmT c) with
    | Sum.inl _ => none
    | Sum.inr s' => runL l (passS s')
def RL (T b s : Row) (c : Nat) : Prop := ∃ L : List Cd, L.length = c ∧ s 4 = nI c ∧ (∀ (i : Nat) (x : Cd), L[i]? = some x → T i = cdT x ∧ VOkT x ∧ x.1 ≠ 6) ∧ runL L b = some s
def HK (s h : Row) : Prop := Ok h ∧ SP s h ∧ h 3 = 1 ∧ load h ≤ 20
def BEG (d : ax_D) (i : Nat) (s : Row) (H : List Row) (f : Row) (m : Nat) : Prop := s 3 = 1 → ∃ st r c, eqR f st ∧ Ok st ∧ (¬ st 3 = 1) ∧ load st ≤ 20 ∧ SP s st ∧ r < nR st ∧ Cw d (2 * i + 1) (bgS st r) ∧ c ≤ m ∧ RL (ax_row d 6 i 4) (bgS st r) s c ∧ H.length ≤ c ∧ ∀ (j : Nat) (h : Row), H[j]? = some h → HK s h ∧ RL (ax_row d 6 i 4) (bgS st r) h (c + j - H.length)
def FLT (d : ax_D) : Prop := ax_row d 8 0 0 7 = mv d 11 ∧ ax_row d 8 0 0 8 = mv d 12 ∧ ax_row d 8 0 0 9 = mv d 13 ∧ ax_row d 8 0 0 10 = mv d 14
def TXT (d : ax_D) (ln : Nat) : Prop := ax_row d 4 0 1 = mr d 10 ∧ ax_row d 4 0 0 1 = nI ln ∧ mv d 10 = nI ln
def HIS (d : ax_D) (H : List Row) (f : Nat) : Prop := cHist d f H ∧ mHist d H ∧ (¬ mr d 2 3 = 1 → H = [])
def SAV (d : ax_D) (m : Nat) : Prop := ax_row d 8 0 0 2 = mv d 8 ∧ (mv d 8 = 0 ∨ (mv d 8 = 1 ∧ ∃ sv, eqR (mr d 4) sv ∧ CC d 2 sv ∧ load sv ≤ 20 ∧ BEG d 1 sv [] (mr d 5) m))
def INV (d : ax_D) (n : Nat) : Prop := CC d 0 (mr d 2) ∧ load (mr d 2) ≤ 20 ∧ FLT d ∧ ∃ ln a m H f, a + m ≤ n ∧ ln ≤ 4 * a ∧ ln ≤ 80 ∧ TXT d ln ∧ HIS d H f ∧ BEG d 0 (mr d 2) H (mr d 3) m ∧ SAV d m
theorem BEG_mono {d : ax_D} {i : Nat} {s : Row} {H : List Row} {f : Row} {m m' : Nat} (h : BEG d i s H f m) (hm : m ≤ m') : BEG d i s H f m' := fun hp => by
  obtain ⟨st, r, c, h1, h2, h3, h4, h5, h6, h7, h8, h9⟩ := h hp
  exact ⟨st, r, c, h1, h2, h3, h4, h5, h6, h7, by omega, h9⟩
theorem SAV_mono {d : ax_D} {m m' : Nat} (h : SAV d m) (hm : m ≤ m') : SAV d m' := by
  obtain ⟨h1, h2⟩ := h
  refine ⟨h1, ?_⟩
  rcases h2 with h2 | ⟨h2, sv, h3, h4, h5, h6⟩
  · exact Or.inl h2
  · exact Or.inr ⟨h2, sv, h3, h4, h5, BEG_mono h6 hm⟩
theorem INV_mono {d : ax_D} {n n' : Nat} (h : INV d n) (hn : n ≤ n') : INV d n' := by
  obtain ⟨h1, h2, h3, ln, a, m, H, f, h4, h5⟩ := h
  exact ⟨h1, h2, h3, ln, a, m, H, f, by omega, h5⟩
/-- the frame over both calls -/
def FQ (S : Nat → Nat → Prop) (R K : Nat → Prop) (d d' : ax_D) : Prop := (∀ k i j, k ≠ 9 → ¬ S k i → ax_row d' k i j = ax_row d k i j) ∧ (∀ j, j ≠ 0 → ¬ R j → mr d' j = mr d j) ∧ ∀ k, ¬ K k → mv d' k = mv d k
def oD (d : ax_D) (o : Int64 × UInt64) : ax_D := (d.1, d.2.1, o)
theorem oD_row (d : ax_D) (o : Int64 × UInt64) (k i j : Nat) : ax_row (oD d o) k i j = ax_row d k i j := rfl
theorem oD_mr (d : ax_D) (o : Int64 × UInt64) (j : Nat) : mr (oD d o) j = mr d j := rfl
theorem oD_mv (d : ax_D) (o : Int64 × UInt64) (j : Nat) : mv (oD d o) j = mv d j := rfl
theorem FQ_of {S : Nat → Nat → Prop} {R K : Nat → Prop} {d d1 d2 : ax_D} {o : Int64 × UInt64} (h1 : Fr S d d1) (h2 : FrM R K (oD d1 o) d2) : FQ S R K d d2 := by
  refine ⟨fun k i j h9 hS => ?_, fun j h0 hR => ?_, fun k hK => ?_⟩
  · rw [← Fr_row h1 hS j]
    unfold ax_row
    rw [ax_beq_ne h9, h2.1]
    rfl
  · rw [h2.2.2.1 j h0 hR, oD_mr, Fr_mr h1]
  · rw [h2.2.2.2 k hK, oD_mv]
    exact congrFun (Fr_mr h1 0) k
theorem Cw_row {d d' : ax_D} {w w' : Nat} {s : Row} (h : ∀ j, ax_row d' 7 w' j = ax_row d 7 w j) (hc : Cw d w s) : Cw d' w' s := by
  unfold Cw
  simp only [h]
  exact hc
theorem Cp_row {d d' : ax_D} {p p' : Nat} {s : Row} (h : ∀ j, ax_row d' 3 p' j = ax_row d 3 p j) (hc : Cp d p s) : Cp d' p' s := by
  unfold Cp
  simp only [h]
  exact hc
section FQS
variable {S : Nat → Nat → Prop} {R K : Nat → Prop} {d d' : ax_D}
theorem FQ_Cw (h : FQ S R K d d') {w : Nat} {s : Row} (hn : ¬ S 7 w) (hc : Cw d w s) : Cw d' w s := Cw_row (fun j => h.1 7 w j (by decide) hn) hc
theorem FQ_CC (h : FQ S R K d d') {w : Nat} {s : Row} (hn : ¬ S 7 w) (h3 : ¬ S 3 (ax_pW w)) (hc : CC d w s) : CC d' w s := ⟨Cp_row (fun j => h.1 3 _ j (by decide) h3) hc.1, FQ_Cw h hn hc.2.1, hc.2.2⟩
theorem FQ_cHist (h : FQ S R K d d') {f : Nat} {H : List Row} (h2 : ¬ S 2 0) (h7 : ∀ i, i < H.length → ¬ S 7 (4 + (f + i) % 11)) (hc : cHist d f H) : cHist d' f H := by
  obtain ⟨k1, k2, k3, k4, k5⟩ := hc
  refine ⟨by rw [h.1 2 0 0 (by decide) h2]; exact k1, k2, k3, by rw [h.1 2 0 0 (by decide) h2]; exact k4, fun i s hi => ?_⟩
  have hl : i < H.length := by
    rcases Nat.lt_or_ge i H.length with q | q
    · exact q
    · rw [List.getElem?_eq_none q] at hi; cases hi
  exact FQ_Cw h (h7 i hl) (k5 i s hi)
theorem FQ_mHist (h : FQ S R K d d') {H : List Row} (h7 : ¬ R 7) (k7 : ¬ K 7) (hc : mHist d H) : mHist d' H := by
  obtain ⟨k1, k2, k3⟩ := hc
  exact ⟨by rw [h.2.2 7 k7]; exact k1, k2, fun i s hi k hk => by rw [h.2.1 7 (by decide) h7]; exact k3 i s hi k hk⟩
theorem FQ_BEG (h : FQ S R K d d') {i : Nat} {s : Row} {H : List Row} {f : Row} {m : Nat} (h7 : ¬ S 7 (2 * i + 1)) (h6 : ¬ S 6 i) (hb : BEG d i s H f m) : BEG d' i s H f m := fun hp => by
  obtain ⟨st, r, c, b1, b2, b3, b4, b5, b6, b7, b8, b9⟩ := hb hp
  exact ⟨st, r, c, b1, b2, b3, b4, b5, b6, FQ_Cw h h7 b7, b8, by rw [h.1 6 i 4 (by decide) h6]; exact b9⟩
theorem FQ_SAV (h : FQ S R K d d') {m : Nat} (h8 : ax_row d' 8 0 0 2 = ax_row d 8 0 0 2) (k8 : ¬ K 8) (r4 : ¬ R 4) (r5 : ¬ R 5) (h2 : ¬ S 7 2) (h3 : ¬ S 7 3) (hp : ¬ S 3 1) (h6 : ¬ S 6 1) (hs : SAV d m) : SAV d' m := by
  unfold SAV
  rw [h8, h.2.2 8 k8, h.2.1 4 (by decide) r4, h.2.1 5 (by decide) r5]
  refine ⟨hs.1, ?_⟩
  rcases hs.2 with q | ⟨q, sv, q1, q2, q3, q4⟩
  · exact Or.inl q
  · exact Or.inr ⟨q, sv, q1, FQ_CC h h2 (by exact hp) q2, q3, FQ_BEG h h3 h6 q4⟩
theorem FQ_FLT (h : FQ S R K d d') (h8 : ¬ S 8 0) (hk : ∀ k, 11 ≤ k → k ≤ 14 → ¬ K k) (hf : FLT d) : FLT d' := by
  unfold FLT
  rw [h.1 8 0 0 (by decide) h8, h.2.2 11 (hk 11 (by decide) (by decide)), h.2.2 12 (hk 12 (by decide) (by decide)), h.2.2 13 (hk 13 (by decide) (by decide)), h.2.2 14 (hk 14 (by decide) (by decide))]
  exact hf
end FQS
/-- what a question may change: the reader, the dreamer and its world; the check's own notes -/
def SQ : Nat → Nat → Prop := fun k i => (k = 4 ∧ i = 0) ∨ (k = 7 ∧ i = 15) ∨ (k = 0 ∧ i = 1)
def RQ (j : Nat) : Prop := j = 6 ∨ 20 < j
def KQ' (k : Nat) : Prop := k = 0 ∨ 14 < k
theorem INV_keep {d d' : ax_D} {n : Nat} (I : INV d n) (h : FQ SQ RQ KQ' d d') (t1 : ax_row d' 4 0 1 = ax_row d 4 0 1) (t2 : ax_row d' 4 0 0 1 = ax_row d 4 0 0 1) : INV d' n := by
  obtain ⟨h1, h2, h3, ln, a, m, H, f, h4, h5, h6, ⟨x1, x2, x3⟩, ⟨y1, y2, y3⟩, h9, h10⟩ := I
  have nS : ∀ k i, k ≠ 4 → (k = 7 → i < 15) → k ≠ 0 → ¬ SQ k i := fun k i q4 q7 q0 z => by
    rcases z with z | z | z
    · exact q4 z.1
    · have := q7 z.1
      omega
    · exact q0 z.1
  have nR : ∀ j, j ≠ 6 → j ≤ 20 → ¬ RQ j := fun j q1 q2 z => by unfold RQ at z; omega
  have nK : ∀ j, j ≠ 0 → j ≤ 14 → ¬ KQ' j := fun j q1 q2 z => by unfold KQ' at z; omega
  have e2 : mr d' 2 = mr d 2 := h.2.1 2 (by decide) (nR 2 (by decide) (by decide))
  have e3 : mr d' 3 = mr d 3 := h.2.1 3 (by decide) (nR 3 (by decide) (by decide))
  have n3 : ∀ i, ¬ SQ 3 i := fun i => nS 3 i (by decide) (fun z => by cases z) (by decide)
  have n6 : ∀ i, ¬ SQ 6 i := fun i => nS 6 i (by decide) (fun z => by cases z) (by decide)
  have n7 : ∀ i, i < 15 → ¬ SQ 7 i := fun i hi => nS 7 i (by decide) (fun _ => hi) (by decide)
  have n8 : ¬ SQ 8 0 := nS 8 0 (by decide) (fun z => by cases z) (by decide)
  refine ⟨?_, ?_, FQ_FLT h n8 (fun k a b => nK k (by omega) (by omega)) h3, ln, a, m, H, f, h4, h5, h6, ⟨?_, ?_, ?_⟩, ⟨?_, ?_, ?_⟩, ?_, ?_⟩
  · rw [e2]; exact FQ_CC h (n7 0 (by decide)) (n3 _) h1
  · rw [e2]; exact h2
  · rw [t1, h.2.1 10 (by decide) (nR 10 (by decide) (by decide))]; exact x1
  · rw [t2]; exact x2
  · rw [h.2.2 10 (nK 10 (by decide) (by decide))]; exact x3
  · exact FQ_cHist h (nS 2 0 (by decide) (fun z => by cases z) (by decide)) (fun i _ => n7 _ (by have := Nat.mod_lt (f + i) (show 0 < 11 by decide); omega)) y1
  · exact FQ_mHist h (nR 7 (by decide) (by decide)) (nK 7 (by decide) (by decide)) y2
  · rw [e2]; exact y3
  · rw [e2, e3]; exact FQ_BEG h (n7 1 (by decide)) (n6 0) h9
  · exact FQ_SAV h (congrFun (h.1 8 0 0 (by decide) n8) 2) (nK 8 (by decide) (by decide)) (nR 4 (by decide) (by decide)) (nR 5 (by decide) (by decide)) (n7 2 (by decide)) (n7 3 (by decide)) (n3 1) (n6 1) h10
/-- the two answers agree: th is the code of what was thrown -/
def AG (xs : List Nat) (r1 r2 : Option ax_V ⊕ Nat) (th : Int32) : Prop := (∃ k E x, r1 = Sum.inr E ∧ xs[k]? = some E ∧ th = nI (k + 1) ∧ r2 = Sum.inl (some (Sum.inl x))) ∨ ∃ x, r1 = Sum.inl (some (Sum.inl x)) ∧ th = 0 ∧ r2 = Sum.inl (some (Sum.inl x))
/-- the call of the class, then the check's -/
def JN (xs : List Nat) (ci mi : Nat) (as : List Int32) (d : ax_D) (n : Nat) : Prop := CT ci (ax_vR 8 0 0 :: as.map Sum.inl) d (fun d1 r1 => d1.2.2 = d.2.2 ∧ ∀ o, CT mi (ax_vR 9 0 0 :: as.map Sum.inl) (oD d1 o) (fun d2 r2 => INV d2 n ∧ d2.2.2 = o ∧ AG xs r1 r2 (mv d2 0)))
section JQ
variable {xs : List Nat} {ci mi : Nat} {as : List Int32} {d : ax_D} {n : Nat}
theorem jn_of {r1 : Option ax_V ⊕ Nat} {S : Nat → Nat → Prop} {P : ax_D → Prop} (hc : ∀ Q : ax_P, (∀ d1, Fr S d d1 → P d1 → Q d1 r1) → CT ci (ax_vR 8 0 0 :: as.map Sum.inl) d Q)
    (hm : ∀ d1 o, Fr S d d1 → P d1 → CT mi (ax_vR 9 0 0 :: as.map Sum.inl) (oD d1 o) (fun d2 r2 => INV d2 n ∧ d2.2.2 = o ∧ AG xs r1 r2 (mv d2 0))) : JN xs ci mi as d n :=
  hc _ (fun d1 f1 p1 => ⟨by rw [f1.1], fun o => hm d1 o f1 p1⟩)
theorem FrM_id (R K : Nat → Prop) (d : ax_D) : FrM R K d d := ⟨rfl, rfl, fun _ _ _ => rfl, fun _ _ => rfl⟩
theorem FrM_mono {R K R' K' : Nat → Prop} {d d' : ax_D} (h : FrM R K d d') (hR : ∀ j, R j → R' j) (hK : ∀ k, K k → K' k) : FrM R' K' d d' := ⟨h.1, h.2.1, fun j h0 hr => h.2.2.1 j h0 (fun z => hr (hR j z)), fun k hk => h.2.2.2 k (fun z => hk (hK k z))⟩
theorem FrM_R {R K : Nat → Prop} (d : ax_D) {j : Nat} (h0 : j ≠ 0) (hj : R j) (f : Row) : FrM R K d (sR d j f) := ⟨rfl, rfl, fun i _ hi => mr_sRn (fun e => hi (by rw [e]; exact hj)) d f, fun k _ => mv_sR h0 d k f⟩
/-- a question: the class leaves its rows as they are, but for what nobody reads -/
theorem jq_gen (I : INV d n) {r1 : Option ax_V ⊕ Nat} (hc : ∀ Q : ax_P, (∀ d1, Fr SQ d d1 → ax_row d1 4 0 1 = ax_row d 4 0 1 → ax_row d1 4 0 0 1 = ax_row d 4 0 0 1 → Q d1 r1) → CT ci (ax_vR 8 0 0 :: as.map Sum.inl) d Q)
    (hm : ∀ (d' : ax_D) (Q : ax_P), d'.2.1 = d.2.1 → (∀ d2 r2, FrM RQ KQ' d' d2 → AG xs r1 r2 (mv d2 0) → Q d2 r2) → CT mi (ax_vR 9 0 0 :: as.map Sum.inl) d' Q) : JN xs ci mi as d n :=
  jn_of (P := fun d1 => ax_row d1 4 0 1 = ax_row d 4 0 1 ∧ ax_row d1 4 0 0 1 = ax_row d 4 0 0 1) (fun Q hQ => hc Q (fun d1 f1 t1 t2 => hQ d1 f1 ⟨t1, t2⟩)) (fun d1 o f1 p1 => hm (oD d1 o) _ (by show d1.2.1 = _; rw [f1.1]) (fun d2 r2 f2 ag => by
    have fq := FQ_of f1 f2
    refine ⟨INV_keep I fq ?_ ?_, f2.2.1, ag⟩
    · rw [← p1.1]
      unfold ax_row
      rw [f2.1]; rfl
    · rw [← p1.2]
      unfold ax_row
      rw [f2.1]; rfl))
/-- a question that the class answers with v -/
theorem jq_v (I : INV d n) (v : Int32) (hc : ∀ Q : ax_P, Q d (Sum.inl (some (Sum.inl v))) → CT ci (ax_vR 8 0 0 :: as.map Sum.inl) d Q) (hm : ∀ (d' : ax_D) (Q : ax_P), mr d' 2 = mr d 2 → (∀ k, mv d' k = mv d k) → Q (sV d' 0 0) (Sum.inl (some (Sum.inl v))) → CT mi (ax_vR 9 0 0 :: as.map Sum.inl) d' Q) : JN xs ci mi as d n :=
  jq_gen I (fun Q hQ => hc Q (hQ d (Fr_refl d) rfl rfl)) (fun d' Q e hQ => hm d' Q (congrFun e 2) (fun k => congrFun (congrFun e 0) k) (hQ _ _ (FrM_sV d' (Or.inl rfl) 0) (Or.inr ⟨v, rfl, mv_sV _ _ _, rfl⟩)))
/-- a question or a change that is refused -/
theorem jq_x (I : INV d n) (k : Nat) {E : Nat} (hk : xs[k]? = some E) (hc : ∀ Q : ax_P, Q d (Sum.inr E) → CT ci (ax_vR 8 0 0 :: as.map Sum.inl) d Q) (hm : ∀ (d' : ax_D) (Q : ax_P), mr d' 2 = mr d 2 → (∀ k, mv d' k = mv d k) → (∀ x, Q (sV d' 0 (nI (k + 1))) (Sum.inl (some (Sum.inl x)))) → CT mi (ax_vR 9 0 0 :: as.map Sum.inl) d' Q) : JN xs ci mi as d n :=
  jq_gen I (fun Q hQ => hc Q (hQ d (Fr_refl d) rfl rfl)) (fun d' Q e hQ => hm d' Q (congrFun e 2) (fun k => congrFun (congrFun e 0) k) (fun x => hQ _ _ (FrM_sV d' (Or.inl rfl) _) (Or.inl ⟨k, E, x, rfl, hk, mv_sV _ _ _, rfl⟩)))
end JQ
