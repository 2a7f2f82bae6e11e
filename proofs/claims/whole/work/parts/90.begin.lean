/-! begin, stop, save, restore: copies -/
def PEq (d' : ax_D) (w : Nat) (d : ax_D) (p : Nat) : Prop := (∀ t, t < 5 → ax_row d' 3 w 0 t = ax_row d 3 p 0 t) ∧ (∀ j e, 6 ≤ j → j ≤ 7 → e < 48 → ax_row d' 3 w j e = ax_row d 3 p j e) ∧ (∀ j t, 8 ≤ j → j ≤ 14 → t < 16 → ax_row d' 3 w j t = ax_row d 3 p j t) ∧ ∀ j k, 15 ≤ j → j ≤ 17 → k < 6 → ax_row d' 3 w j k = ax_row d 3 p j k
theorem PEq_Cp {d d' : ax_D} {w p : Nat} (h : PEq d' w d p) {s : Row} (hc : Cp d p s) : Cp d' w s := by
  obtain ⟨h0, h1, h2, h3⟩ := h
  obtain ⟨⟨c0, c1, c2⟩, c3, c4, c5, c6, c7⟩ := hc
  refine ⟨⟨(h0 0 (by decide)).trans c0, (h0 1 (by decide)).trans c1, (h0 2 (by decide)).trans c2⟩, fun r hr => ?_, fun k hk => ?_, fun e he => ⟨(h1 6 e (by decide) (by decide) he).trans (c5 e he).1, (h1 7 e (by decide) (by decide) he).trans (c5 e he).2⟩, fun t ht => ?_, fun k hk => ?_⟩
  · rw [h0 3 (by decide)]; exact c3 r hr
  · rw [h0 4 (by decide)]; exact c4 k hk
  · obtain ⟨a1, a2, a3, a4, a5, a6, a7⟩ := c6 t ht
    exact ⟨(h2 8 t (by decide) (by decide) ht).trans a1, (h2 9 t (by decide) (by decide) ht).trans a2, (h2 10 t (by decide) (by decide) ht).trans a3, (h2 11 t (by decide) (by decide) ht).trans a4, (h2 12 t (by decide) (by decide) ht).trans a5, (h2 13 t (by decide) (by decide) ht).trans a6, (h2 14 t (by decide) (by decide) ht).trans a7⟩
  · obtain ⟨a1, a2, a3⟩ := c7 k hk
    exact ⟨(h3 15 k (by decide) (by decide) hk).trans a1, (h3 16 k (by decide) (by decide) hk).trans a2, (h3 17 k (by decide) (by decide) hk).trans a3⟩
def sP (p : Nat) : Nat → Nat → Prop := fun k i => k = 3 ∧ i = p
theorem c_plan {w p : Nat} (hwp : p ≠ w) (d : ax_D) (Q : ax_P) (hQ : ∀ d', Fr (sP w) d d' → PEq d' w d p → Q d' (Sum.inl none)) : CT 144 [ax_vR 3 w 0, ax_vR 3 p 0] d Q := by
  refine w144 _ _ (fun d1 e1 d2 e2 d3 e3 d4 e4 d5 e5 d6 e6 d7 e7 d8 e8 d9 e9 d10 e10 d11 e11 d12 e12 d13 e13 d14 e14 d15 e15 d16 e16 d17 e17 => ?_)
  have st : ∀ (a b : ax_D) (j : Nat) (f : Row), b = ax_set a 3 w j f → Fr (sP w) a b ∧ (∀ i, ax_row b 3 p i = ax_row a 3 p i) := by
    intro a b j f e
    refine ⟨by rw [e]; exact Fr_set (by decide) ⟨rfl, rfl⟩ a j f, fun i => ?_⟩
    rw [e]
    exact row_i hwp (by decide) a 3 j i f (by decide)
  obtain ⟨f1, p1⟩ := st _ _ _ _ e1
  obtain ⟨f2, p2⟩ := st _ _ _ _ e2
  obtain ⟨f3, p3⟩ := st _ _ _ _ e3
  obtain ⟨f4, p4⟩ := st _ _ _ _ e4
  obtain ⟨f5, p5⟩ := st _ _ _ _ e5
  obtain ⟨f6, p6⟩ := st _ _ _ _ e6
  obtain ⟨f7, p7⟩ := st _ _ _ _ e7
  obtain ⟨f8, p8⟩ := st _ _ _ _ e8
  obtain ⟨f9, p9⟩ := st _ _ _ _ e9
  obtain ⟨f10, p10⟩ := st _ _ _ _ e10
  obtain ⟨f11, p11⟩ := st _ _ _ _ e11
  obtain ⟨f12, p12⟩ := st _ _ _ _ e12
  obtain ⟨f13, p13⟩ := st _ _ _ _ e13
  obtain ⟨f14, p14⟩ := st _ _ _ _ e14
  obtain ⟨f15, p15⟩ := st _ _ _ _ e15
  obtain ⟨f16, p16⟩ := st _ _ _ _ e16
  obtain ⟨f17, p17⟩ := st _ _ _ _ e17
  have P1 : ∀ i, ax_row d1 3 p i = ax_row d 3 p i := p1
  have P2 : ∀ i, ax_row d2 3 p i = ax_row d 3 p i := fun i => (p2 i).trans (P1 i)
  have P3 : ∀ i, ax_row d3 3 p i = ax_row d 3 p i := fun i => (p3 i).trans (P2 i)
  have P4 : ∀ i, ax_row d4 3 p i = ax_row d 3 p i := fun i => (p4 i).trans (P3 i)
  have P5 : ∀ i, ax_row d5 3 p i = ax_row d 3 p i := fun i => (p5 i).trans (P4 i)
  have P6 : ∀ i, ax_row d6 3 p i = ax_row d 3 p i := fun i => (p6 i).trans (P5 i)
  have P7 : ∀ i, ax_row d7 3 p i = ax_row d 3 p i := fun i => (p7 i).trans (P6 i)
  have P8 : ∀ i, ax_row d8 3 p i = ax_row d 3 p i := fun i => (p8 i).trans (P7 i)
  have P9 : ∀ i, ax_row d9 3 p i = ax_row d 3 p i := fun i => (p9 i).trans (P8 i)
  have P10 : ∀ i, ax_row d10 3 p i = ax_row d 3 p i := fun i => (p10 i).trans (P9 i)
  have P11 : ∀ i, ax_row d11 3 p i = ax_row d 3 p i := fun i => (p11 i).trans (P10 i)
  have P12 : ∀ i, ax_row d12 3 p i = ax_row d 3 p i := fun i => (p12 i).trans (P11 i)
  have P13 : ∀ i, ax_row d13 3 p i = ax_row d 3 p i := fun i => (p13 i).trans (P12 i)
  have P14 : ∀ i, ax_row d14 3 p i = ax_row d 3 p i := fun i => (p14 i).trans (P13 i)
  have P15 : ∀ i, ax_row d15 3 p i = ax_row d 3 p i := fun i => (p15 i).trans (P14 i)
  have P16 : ∀ i, ax_row d16 3 p i = ax_row d 3 p i := fun i => (p16 i).trans (P15 i)
  have r6 : ∀ t, t < 48 → ax_row d17 3 w 6 t = ax_row d 3 p 6 t := fun t ht => by rw [e17, row_j (by decide), e16, row_j (by decide), e15, row_j (by decide), e14, row_j (by decide), e13, row_j (by decide), e12, row_j (by decide), e11, row_j (by decide), e10, row_j (by decide), e9, row_j (by decide), e8, row_j (by decide), e7, row_j (by decide), e6, row_s, cpy0 ht, P5]
  have r7 : ∀ t, t < 48 → ax_row d17 3 w 7 t = ax_row d 3 p 7 t := fun t ht => by rw [e17, row_j (by decide), e16, row_j (by decide), e15, row_j (by decide), e14, row_j (by decide), e13, row_j (by decide), e12, row_j (by decide), e11, row_j (by decide), e10, row_j (by decide), e9, row_j (by decide), e8, row_j (by decide), e7, row_s, cpy0 ht, P6]
  have r8 : ∀ t, t < 16 → ax_row d17 3 w 8 t = ax_row d 3 p 8 t := fun t ht => by rw [e17, row_j (by decide), e16, row_j (by decide), e15, row_j (by decide), e14, row_j (by decide), e13, row_j (by decide), e12, row_j (by decide), e11, row_j (by decide), e10, row_j (by decide), e9, row_j (by decide), e8, row_s, cpy0 ht, P7]
  have r9 : ∀ t, t < 16 → ax_row d17 3 w 9 t = ax_row d 3 p 9 t := fun t ht => by rw [e17, row_j (by decide), e16, row_j (by decide), e15, row_j (by decide), e14, row_j (by decide), e13, row_j (by decide), e12, row_j (by decide), e11, row_j (by decide), e10, row_j (by decide), e9, row_s, cpy0 ht, P8]
  have r10 : ∀ t, t < 16 → ax_row d17 3 w 10 t = ax_row d 3 p 10 t := fun t ht => by rw [e17, row_j (by decide), e16, row_j (by decide), e15, row_j (by decide), e14, row_j (by decide), e13, row_j (by decide), e12, row_j (by decide), e11, row_j (by decide), e10, row_s, cpy0 ht, P9]
  have r11 : ∀ t, t < 16 → ax_row d17 3 w 11 t = ax_row d 3 p 11 t := fun t ht => by rw [e17, row_j (by decide), e16, row_j (by decide), e15, row_j (by decide), e14, row_j (by decide), e13, row_j (by decide), e12, row_j (by decide), e11, row_s, cpy0 ht, P10]
  have r12 : ∀ t, t < 16 → ax_row d17 3 w 12 t = ax_row d 3 p 12 t := fun t ht => by rw [e17, row_j (by decide), e16, row_j (by decide), e15, row_j (by decide), e14, row_j (by decide), e13, row_j (by decide), e12, row_s, cpy0 ht, P11]
  have r13 : ∀ t, t < 16 → ax_row d17 3 w 13 t = ax_row d 3 p 13 t := fun t ht => by rw [e17, row_j (by decide), e16, row_j (by decide), e15, row_j (by decide), e14, row_j (by decide), e13, row_s, cpy0 ht, P12]
  have r14 : ∀ t, t < 16 → ax_row d17 3 w 14 t = ax_row d 3 p 14 t := fun t ht => by rw [e17, row_j (by decide), e16, row_j (by decide), e15, row_j (by decide), e14, row_s, cpy0 ht, P13]
  have r15 : ∀ t, t < 6 → ax_row d17 3 w 15 t = ax_row d 3 p 15 t := fun t ht => by rw [e17, row_j (by decide), e16, row_j (by decide), e15, row_s, cpy0 ht, P14]
  have r16 : ∀ t, t < 6 → ax_row d17 3 w 16 t = ax_row d 3 p 16 t := fun t ht => by rw [e17, row_j (by decide), e16, row_s, cpy0 ht, P15]
  have r17 : ∀ t, t < 6 → ax_row d17 3 w 17 t = ax_row d 3 p 17 t := fun t ht => by rw [e17, row_s, cpy0 ht, P16]
  have k0 : ax_row d17 3 w 0 = ax_row d5 3 w 0 := by rw [e17, row_j (by decide), e16, row_j (by decide), e15, row_j (by decide), e14, row_j (by decide), e13, row_j (by decide), e12, row_j (by decide), e11, row_j (by decide), e10, row_j (by decide), e9, row_j (by decide), e8, row_j (by decide), e7, row_j (by decide), e6, row_j (by decide)]
  refine hQ d17 (Fr_trans f1 (Fr_trans f2 (Fr_trans f3 (Fr_trans f4 (Fr_trans f5 (Fr_trans f6 (Fr_trans f7 (Fr_trans f8 (Fr_trans f9 (Fr_trans f10 (Fr_trans f11 (Fr_trans f12 (Fr_trans f13 (Fr_trans f14 (Fr_trans f15 (Fr_trans f16 (f17))))))))))))))))) ⟨fun t ht => ?_, fun j e h1 h2 he => ?_, fun j t h1 h2 ht => ?_, fun j k h1 h2 hk => ?_⟩
  · rw [k0]
    rcases (by omega : t = 0 ∨ t = 1 ∨ t = 2 ∨ t = 3 ∨ t = 4) with e | e | e | e | e <;> subst e
    · rw [e5, row_s, upd_n (by decide), e4, row_s, upd_n (by decide), e3, row_s, upd_n (by decide), e2, row_s, upd_n (by decide), e1, row_s, upd_s]
    · rw [e5, row_s, upd_n (by decide), e4, row_s, upd_n (by decide), e3, row_s, upd_n (by decide), e2, row_s, upd_s, P1]
    · rw [e5, row_s, upd_n (by decide), e4, row_s, upd_n (by decide), e3, row_s, upd_s, P2]
    · rw [e5, row_s, upd_n (by decide), e4, row_s, upd_s, P3]
    · rw [e5, row_s, upd_s, P4]
  · rcases (by omega : j = 6 ∨ j = 7) with e | e <;> subst e
    · exact r6 _ he
    · exact r7 _ he
  · rcases (by omega : j = 8 ∨ j = 9 ∨ j = 10 ∨ j = 11 ∨ j = 12 ∨ j = 13 ∨ j = 14) with e | e | e | e | e | e | e <;> subst e
    · exact r8 _ ht
    · exact r9 _ ht
    · exact r10 _ ht
    · exact r11 _ ht
    · exact r12 _ ht
    · exact r13 _ ht
    · exact r14 _ ht
  · rcases (by omega : j = 15 ∨ j = 16 ∨ j = 17) with e | e | e <;> subst e
    · exact r15 _ hk
    · exact r16 _ hk
    · exact r17 _ hk
/-- a story copied -/
def sS (w : Nat) : Nat → Nat → Prop := fun k i => (k = 3 ∧ i = w) ∨ (k = 7 ∧ (i = 2 * w ∨ i = 2 * w + 1)) ∨ (k = 6 ∧ i = w)
theorem c_story {w p : Nat} (hwp : p ≠ w) (d : ax_D) (Q : ax_P) (hQ : ∀ d', Fr (sS w) d d' → PEq d' w d p → WEq d' (2 * w) d (2 * p) → WEq d' (2 * w + 1) d (2 * p + 1) → (∀ i, i < 512 → ax_row d' 6 w 4 i = ax_row d 6 p 4 i) → Q d' (Sum.inl none)) : CT 145 [ax_vR 6 w 0, ax_vR 6 p 0] d Q := by
  refine w145 _ _ (c_plan hwp d _ (fun d1 f1 g1 => c_copy (by omega) d1 _ (fun d2 f2 g2 => c_copy (by omega) d2 _ (fun d3 f3 g3 d4 e4 => ?_))))
  have f4 : Fr (fun k i => k = 6 ∧ i = w) d3 d4 := by rw [e4]; exact Fr_set (by decide) ⟨rfl, rfl⟩ _ _ _
  have n3 : ∀ {x y : ax_D} {u : Nat}, Fr (sW u) x y → ∀ i j, ax_row y 3 i j = ax_row x 3 i j := fun f i j => Fr_row f (fun z => by cases z.1) j
  have n6 : ∀ {x y : ax_D} {u : Nat}, Fr (sW u) x y → ∀ i j, ax_row y 6 i j = ax_row x 6 i j := fun f i j => Fr_row f (fun z => by cases z.1) j
  have x3 : ∀ i j, ax_row d4 3 i j = ax_row d1 3 i j := fun i j => by rw [Fr_row f4 (fun z => by cases z.1) j, n3 f3, n3 f2]
  have x7 : ∀ i j, ax_row d4 7 i j = ax_row d3 7 i j := fun i j => Fr_row f4 (fun z => by cases z.1) j
  have y7 : ∀ i j, i ≠ 2 * w + 1 → ax_row d3 7 i j = ax_row d2 7 i j := fun i j h => Fr_row f3 (fun z => h z.2) j
  have z7 : ∀ i j, i ≠ 2 * w → ax_row d2 7 i j = ax_row d1 7 i j := fun i j h => Fr_row f2 (fun z => h z.2) j
  have u7 : ∀ i j, ax_row d1 7 i j = ax_row d 7 i j := fun i j => Fr_row f1 (fun z => by cases z.1) j
  refine hQ d4 (Fr_trans (Fr_mono f1 (fun k i z => Or.inl z)) (Fr_trans (Fr_mono f2 (fun k i z => Or.inr (Or.inl ⟨z.1, Or.inl z.2⟩))) (Fr_trans (Fr_mono f3 (fun k i z => Or.inr (Or.inl ⟨z.1, Or.inr z.2⟩))) (Fr_mono f4 (fun k i z => Or.inr (Or.inr z)))))) ?_ ?_ ?_ (fun i hi => ?_)
  · obtain ⟨a, b, c, e⟩ := g1
    exact ⟨fun t ht => by rw [x3]; exact a t ht, fun j t h1 h2 ht => by rw [x3]; exact b j t h1 h2 ht, fun j t h1 h2 ht => by rw [x3]; exact c j t h1 h2 ht, fun j t h1 h2 ht => by rw [x3]; exact e j t h1 h2 ht⟩
  · have k : ∀ j, ax_row d4 7 (2 * w) j = ax_row d2 7 (2 * w) j := fun j => by rw [x7, y7 _ _ (by omega)]
    obtain ⟨a, b, c, e⟩ := g2
    exact ⟨fun j t h1 h2 ht => by rw [k, ← u7]; exact a j t h1 h2 ht, fun j t h1 h2 ht => by rw [k, ← u7]; exact b j t h1 h2 ht, fun t ht => by rw [k, ← u7]; exact c t ht, fun t h1 h2 => by rw [k, ← u7]; exact e t h1 h2⟩
  · have q : ∀ j, ax_row d2 7 (2 * p + 1) j = ax_row d 7 (2 * p + 1) j := fun j => by rw [z7 _ _ (by omega), u7]
    obtain ⟨a, b, c, e⟩ := g3
    exact ⟨fun j t h1 h2 ht => by rw [x7, ← q]; exact a j t h1 h2 ht, fun j t h1 h2 ht => by rw [x7, ← q]; exact b j t h1 h2 ht, fun t ht => by rw [x7, ← q]; exact c t ht, fun t h1 h2 => by rw [x7, ← q]; exact e t h1 h2⟩
  · rw [e4, row_s, cpy0 hi, n6 f3, n6 f2, Fr_row f1 (fun z => by cases z.1) 4]
/-- what begin makes of a row, daemon by daemon -/
def bgK (st : Row) (r n : Nat) : Row := fun k => if k = 3 then 1 else if k = 4 then 0 else if k = 5 then nI r else if k = 6 then 0 else if 311 ≤ k ∧ k < 311 + n then st (k - 12) else if 317 ≤ k ∧ k < 317 + n then -1 else if 323 ≤ k ∧ k < 323 + n then 0 else st k
theorem bgS_K (st : Row) (r : Nat) : bgS st r = bgK st r (nD st) := rfl
theorem bgK_n {st : Row} {r n k : Nat} (hn : n ≤ 6) (h : k < 3 ∨ (6 < k ∧ k < 311) ∨ 329 ≤ k) : bgK st r n k = st k := by
  unfold bgK
  rw [if_neg (by omega), if_neg (by omega), if_neg (by omega), if_neg (by omega), if_neg (by omega), if_neg (by omega), if_neg (by omega)]
theorem bgK_0 (st : Row) (r : Nat) : bgK st r 0 = upd (upd (upd (upd st 3 1) 4 0) 5 (nI r)) 6 0 := by
  funext k
  unfold bgK
  by_cases h3 : k = 3
  · rw [if_pos h3, h3, upd_n (by decide), upd_n (by decide), upd_n (by decide), upd_s]
  rw [if_neg h3]
  by_cases h4 : k = 4
  · rw [if_pos h4, h4, upd_n (by decide), upd_n (by decide), upd_s]
  rw [if_neg h4]
  by_cases h5 : k = 5
  · rw [if_pos h5, h5, upd_n (by decide), upd_s]
  rw [if_neg h5]
  by_cases h6 : k = 6
  · rw [if_pos h6, h6, upd_s]
  rw [if_neg h6, if_neg (by omega), if_neg (by omega), if_neg (by omega), upd_n h6, upd_n h5, upd_n h4, upd_n h3]
theorem bgK_succ {st : Row} {r i : Nat} (hi : i < 6) : upd (upd (upd (bgK st r i) (311 + i) (st (299 + i))) (317 + i) (-1)) (323 + i) 0 = bgK st r (i + 1) := by
  funext k
  by_cases a3 : k = 323 + i
  · rw [a3, upd_s]
    unfold bgK
    rw [if_neg (by omega), if_neg (by omega), if_neg (by omega), if_neg (by omega), if_neg (by omega), if_neg (by omega), if_pos (by omega)]
  rw [upd_n a3]
  by_cases a2 : k = 317 + i
  · rw [a2, upd_s]
    unfold bgK
    rw [if_neg (by omega), if_neg (by omega), if_neg (by omega), if_neg (by omega), if_neg (by omega), if_pos (by omega)]
  rw [upd_n a2]
  by_cases a1 : k = 311 + i
  · rw [a1, upd_s]
    unfold bgK
    rw [if_neg (by omega), if_neg (by omega), if_neg (by omega), if_neg (by omega), if_pos (by omega), show 311 + i - 12 = 299 + i by omega]
  rw [upd_n a1]
  unfold bgK
  by_cases c1 : 311 ≤ k ∧ k < 311 + i
  · rw [if_pos c1, if_pos (show 311 ≤ k ∧ k < 311 + (i + 1) by omega)]
  · rw [if_neg c1, if_neg (show ¬ (311 ≤ k ∧ k < 311 + (i + 1)) by omega)]
    by_cases c2 : 317 ≤ k ∧ k < 317 + i
    · rw [if_pos c2, if_pos (show 317 ≤ k ∧ k < 317 + (i + 1) by omega)]
    · rw [if_neg c2, if_neg (show ¬ (317 ≤ k ∧ k < 317 + (i + 1)) by omega)]
      by_cases c3 : 323 ≤ k ∧ k < 323 + i
      · rw [if_pos c3, if_pos (show 323 ≤ k ∧ k < 323 + (i + 1) by omega)]
      · rw [if_neg c3, if_neg (show ¬ (323 ≤ k ∧ k < 323 + (i + 1)) by omega)]
theorem bg_3 (st : Row) (r : Nat) : bgS st r 3 = 1 := rfl
theorem bg_4 (st : Row) (r : Nat) : bgS st r 4 = 0 := rfl
theorem bg_5 (st : Row) (r : Nat) : bgS st r 5 = nI r := rfl
theorem bg_6 (st : Row) (r : Nat) : bgS st r 6 = 0 := rfl
theorem bg_n {st : Row} {r k : Nat} (hn : nD st ≤ 6) (h : k < 3 ∨ (6 < k ∧ k < 311) ∨ 329 ≤ k) : bgS st r k = st k := bgK_n hn h
theorem bg_w {st : Row} {r k : Nat} (hn : nD st ≤ 6) (hk : k < nD st) : bgS st r (317 + k) = -1 := by
  unfold bgS
  rw [if_neg (by omega), if_neg (by omega), if_neg (by omega), if_neg (by omega), if_neg (by omega), if_pos (by omega)]
theorem bg_t {st : Row} {r k : Nat} (hk : k < nD st) : bgS st r (311 + k) = st (299 + k) := by
  unfold bgS
  rw [if_neg (by omega), if_neg (by omega), if_neg (by omega), if_neg (by omega), if_pos (by omega), show 311 + k - 12 = 299 + k by omega]
theorem bg_c {st : Row} {r k : Nat} (hn : nD st ≤ 6) (hk : k < nD st) : bgS st r (323 + k) = 0 := by
  unfold bgS
  rw [if_neg (by omega), if_neg (by omega), if_neg (by omega), if_neg (by omega), if_neg (by omega), if_neg (by omega), if_pos (by omega)]
theorem Ok_bg {st : Row} (h : Ok st) {r : Nat} (hr : r < nR st) : Ok (bgS st r) ∧ SP st (bgS st r) ∧ SPl st (bgS st r) := by
  have hD := (Pk_D h.1).2
  have sp : SP st (bgS st r) := fun k hk => bg_n hD (by unfold Pix at hk; omega)
  have pl : SPl st (bgS st r) := fun k h1 h2 => bg_n hD (by omega)
  have hT := (Ok_T h).2
  refine ⟨Ok_mk h sp pl (fun t ht => ?_) (fun t h1 h2 => ?_) (fun k hk _ => Or.inl (bg_w hD hk)) (Or.inr ⟨bg_3 st r, ⟨r, hr, bg_5 st r⟩, 0, by omega, bg_6 st r⟩) (fun k hk => ?_), sp, pl⟩
  · have := Ok_lt h ht
    exact Tflag_of (bg_n hD (by omega)) (bg_n hD (by omega)) (bg_n hD (by omega)) (h.2.1 t ht).2
  · rw [bg_n hD (by omega), bg_n hD (by omega)]
    exact h.2.2.2.1 t h1 h2
  · rw [bg_n hD (by omega)]
    exact h.2.2.2.2.2.2 k hk
theorem SP_sym {s s' : Row} (h : SP s s') : SP s' s := fun k hk => (h k hk).symm
section JB
variable {d : ax_D} {n : Nat}
/-- the class opens a story -/
theorem c_open26 {s : Row} (hC : CC d 0 s) (hp : ¬ s 3 = 1) {r : Nat} (hr : r < nR s) (Q : ax_P) (hQ : ∀ d', Fr (fun k i => k = 7 ∧ (i = 0 ∨ i = 1)) d d' → CC d' 0 (bgS s r) → Cw d' 1 (bgS s r) → Q d' (Sum.inl none)) : CT 26 [ax_vR 6 0 0, Sum.inl (nI r)] d Q := by
  have hk := hC.2.2
  have hD := Pk_D hk.1
  have h2 : ax_row d 3 0 0 2 = nI (nD s) := hC.1.1.2.2.trans hD.1
  obtain ⟨ob, spb, -⟩ := Ok_bg hk hr
  refine w26 _ _ (fun d1 e1 d2 e2 d3 e3 => ?_)
  have e1 : d1 = ax_set d 7 0 0 (upd (ax_row d 7 0 0) 11 (nI r)) := e1
  have e2 : d2 = ax_set d1 7 0 0 (upd (ax_row d1 7 0 0) 10 0) := e2
  have e3 : d3 = ax_set d2 7 0 0 (upd (ax_row d2 7 0 0) 9 0) := e3
  have s7 : ∀ (a b : ax_D) (j : Nat) (f : Row), b = ax_set a 7 0 j f → Fr (sW 0) a b := fun a b j f e => by rw [e]; exact Fr_set (by decide) ⟨rfl, rfl⟩ a j f
  have f3 : Fr (sW 0) d d3 := Fr_trans (s7 _ _ _ _ e1) (Fr_trans (s7 _ _ _ _ e2) (s7 _ _ _ _ e3))
  have k3 : ∀ j, j ≠ 0 → ax_row d3 7 0 j = ax_row d 7 0 j := fun j hj => by rw [e3, row_j hj, e2, row_j hj, e1, row_j hj]
  have q9 : ax_row d3 7 0 0 9 = 0 := by rw [e3, row_s, upd_s]
  have q10 : ax_row d3 7 0 0 10 = 0 := by rw [e3, row_s, upd_n (by decide), e2, row_s, upd_s]
  have q11 : ax_row d3 7 0 0 11 = nI r := by rw [e3, row_s, upd_n (by decide), e2, row_s, upd_n (by decide), e1, row_s, upd_s]
  have r3 : ∀ {x : ax_D}, Fr (sW 0) d x → ∀ j, ax_row x 3 0 j = ax_row d 3 0 j := fun f j => Fr_row f (fun z => by cases z.1) j
  have key := lp_up (fun i => ∀ x : ax_D, Fr (sW 0) d x → ax_row x 7 0 0 = ax_row d3 7 0 0 → (∀ j, j ≠ 0 → j < 6 ∨ 8 < j → ax_row x 7 0 j = ax_row d 7 0 j) → (∀ k, k < i → ax_row x 7 0 6 k = s (299 + k) ∧ ax_row x 7 0 7 k = 0 ∧ ax_row x 7 0 8 k = 0) → h26_26 0 (nI r) (nI i) x Q) (nD s) ?_ ?_ 0 (Nat.zero_le _)
  · exact key d3 f3 rfl (fun j hj _ => k3 j hj) (fun k hk => absurd hk (Nat.not_lt_zero k))
  · intro x fx x0 xj xk
    refine w26_26 _ _ _ ?_
    rw [r3 fx, h2]
    refine ⟨fun _ => c_copy (w := 1) (p := 0) (by omega) x _ (fun d4 f4 g4 => ?_), fun z => absurd (nI_le (Nat.le_refl _) (by omega)) z⟩
    obtain ⟨a1, -, a3, -⟩ := hC.2.1
    have cw0 : Cw x 0 (bgS s r) := by
      refine ⟨fun t ht => ?_, ⟨?_, ?_, ?_⟩, fun e he => ?_, fun _ k hk => ?_⟩
      · rw [xj 2 (by decide) (by omega), xj 3 (by decide) (by omega), xj 4 (by decide) (by omega), xj 5 (by decide) (by omega), bg_n hD.2 (by omega), bg_n hD.2 (by omega), bg_n hD.2 (by omega), bg_n hD.2 (by omega)]
        exact a1 t ht
      · rw [x0, q11]; unfold plI; rw [if_pos (bg_3 s r), bg_5]
      · rw [x0, q9, bg_6]
      · rw [x0, q10, bg_4]
      · rw [xj 9 (by decide) (by omega), bg_n hD.2 (by omega)]
        exact a3 e he
      · have hk : k < nD s := by rw [SP_D spb] at hk; exact hk
        obtain ⟨b1, b2, b3⟩ := xk k hk
        rw [b1, b2, b3, bg_t hk, bg_c hD.2 hk]
        refine ⟨rfl, rfl, ?_⟩
        unfold dW
        rw [bg_w hD.2 hk]
        rfl
    have f4 : Fr (sW 1) x d4 := f4
    have c4 : Cw d4 0 (bgS s r) := Cw_Fr f4 (fun z => by cases z.2) cw0
    refine hQ d4 (Fr_trans (Fr_mono fx (fun k i z => ⟨z.1, Or.inl z.2⟩)) (Fr_mono f4 (fun k i z => ⟨z.1, Or.inr z.2⟩))) ⟨?_, c4, ob⟩ (WEq_Cw g4 ob cw0)
    exact Cp_SP (Cp_Fr f4 (fun z => by cases z.1) (Cp_Fr fx (fun z => by cases z.1) hC.1)) spb
  · intro i hi ih x fx x0 xj xk
    have ci : ax_in (nI i) 6 = true := ax_in_nI (by omega) (by omega)
    have cl : (nI i).toNatClampNeg = i := nI_clamp (by omega)
    refine w26_26 _ _ _ ?_
    rw [r3 fx, h2]
    refine ⟨fun z => absurd z (nI_ge hi (by omega)), fun _ => ⟨ci, ci, fun y1 g1 => ⟨ci, fun y2 g2 => ⟨ci, fun y3 g3 => ?_⟩⟩⟩⟩
    rw [cl] at g1 g2 g3
    have g1 : y1 = ax_set x 7 0 6 (upd (ax_row x 7 0 6) i (ax_row x 3 0 17 i)) := g1
    have g2 : y2 = ax_set y1 7 0 7 (upd (ax_row y1 7 0 7) i 0) := g2
    have g3 : y3 = ax_set y2 7 0 8 (upd (ax_row y2 7 0 8) i 0) := g3
    rw [show nI i + 1 = nI (i + 1) from nI_add i 1]
    have h17 : ax_row x 3 0 17 i = s (299 + i) := by rw [r3 fx]; exact (hC.1.2.2.2.2.2 i (by omega)).2.2
    refine ih y3 (Fr_trans fx (Fr_trans (s7 _ _ _ _ g1) (Fr_trans (s7 _ _ _ _ g2) (s7 _ _ _ _ g3)))) ?_ (fun j h0 hj => ?_) (fun k hk => ?_)
    · rw [g3, row_j (by decide), g2, row_j (by decide), g1, row_j (by decide)]; exact x0
    · rw [g3, row_j (by omega), g2, row_j (by omega), g1, row_j (by omega)]; exact xj j h0 hj
    · have z6 : ax_row y3 7 0 6 = upd (ax_row x 7 0 6) i (s (299 + i)) := by rw [g3, row_j (by decide), g2, row_j (by decide), g1, row_s, h17]
      have z7 : ax_row y3 7 0 7 = upd (ax_row x 7 0 7) i 0 := by rw [g3, row_j (by decide), g2, row_s, g1, row_j (by decide)]
      have z8 : ax_row y3 7 0 8 = upd (ax_row x 7 0 8) i 0 := by rw [g3, row_s, g2, row_j (by decide), g1, row_j (by decide)]
      rw [z6, z7, z8]
      by_cases e : k = i
      · rw [e, upd_s, upd_s, upd_s]; exact ⟨rfl, rfl, rfl⟩
      · rw [upd_n e, upd_n e, upd_n e]; exact xk k (by omega)
end JB
