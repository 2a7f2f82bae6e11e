/-! worlds copied; frames and what is kept -/
/-- world w of d' is as world p of d -/
def WEq (d' : ax_D) (w : Nat) (d : ax_D) (p : Nat) : Prop :=
  (∀ j t, 2 ≤ j → j ≤ 5 → t < 16 → ax_row d' 7 w j t = ax_row d 7 p j t) ∧ (∀ j k, 6 ≤ j → j ≤ 8 → k < 6 → ax_row d' 7 w j k = ax_row d 7 p j k) ∧
  (∀ e, e < 40 → ax_row d' 7 w 9 e = ax_row d 7 p 9 e) ∧ ∀ t, 9 ≤ t → t ≤ 11 → ax_row d' 7 w 0 t = ax_row d 7 p 0 t
theorem WEq_Cw {d d' : ax_D} {w p : Nat} (h : WEq d' w d p) {s : Row} (hs : Ok s) (hc : Cw d p s) : Cw d' w s := by
  obtain ⟨h1, h2, h3, h4⟩ := h
  obtain ⟨c1, ⟨c2, c3, c4⟩, c5, c6⟩ := hc
  have hD := (Pk_D hs.1).2
  refine ⟨fun t ht => ?_, ⟨?_, ?_, ?_⟩, fun e he => ?_, fun hp k hk => ?_⟩
  · rw [h1 2 t (by omega) (by omega) ht, h1 3 t (by omega) (by omega) ht, h1 4 t (by omega) (by omega) ht, h1 5 t (by omega) (by omega) ht]
    exact c1 t ht
  · rw [h4 11 (by omega) (by omega)]; exact c2
  · rw [h4 9 (by omega) (by omega)]; exact c3
  · rw [h4 10 (by omega) (by omega)]; exact c4
  · rw [h3 e he]; exact c5 e he
  · rw [h2 6 k (by omega) (by omega) (by omega), h2 7 k (by omega) (by omega) (by omega), h2 8 k (by omega) (by omega) (by omega)]
    exact c6 hp k hk
theorem cpy0 {f g : Row} {n t : Nat} (h : t < n) : va_cpy f g 0 0 n t = f t := by
  unfold va_cpy
  rw [if_pos ⟨by omega, by omega⟩]
  congr 1
  omega
theorem c_copy {w p : Nat} (hwp : p ≠ w) (d : ax_D) (Q : ax_P) (hQ : ∀ d', Fr (sW w) d d' → WEq d' w d p → Q d' (Sum.inl none)) : CT 25 [ax_vR 7 w 0, ax_vR 7 p 0] d Q := by
  refine w25 _ _ (fun d1 e1 d2 e2 d3 e3 d4 e4 d5 e5 d6 e6 d7 e7 d8 e8 d9 e9 d10 e10 d11 e11 => ?_)
  have st : ∀ (a b : ax_D) (j : Nat) (f : Row), b = ax_set a 7 w j f → Fr (sW w) a b ∧ (∀ i, ax_row b 7 p i = ax_row a 7 p i) := by
    intro a b j f e
    refine ⟨by rw [e]; exact Fr_set (by decide) ⟨rfl, rfl⟩ a j f, fun i => ?_⟩
    rw [e]
    exact row_i hwp (by decide) a 7 j i f (by decide)
  obtain ⟨f1, p1⟩ := st _ _ _ _ e1
  obtain ⟨f2, p2⟩ := st _ _ _ _ e2
  obtain ⟨f3, p3⟩ := st _ _ _ _ e3
  obtain ⟨f4, p4⟩ := st _ _ _ _ e4
  obtain ⟨f5, p5⟩ := st _ _ _ _ e5
  obtain ⟨f6, p6⟩ := st _ _ _ _ e6
  obtain ⟨f7, p7⟩ := st _ _ _ _ e7
  obtain ⟨f8, p8⟩ := st _ _ _ _ e8
  obtain ⟨f9, p9⟩ := st _ _ _ _ e9
  obtain ⟨f10, p10⟩ := st _ _ _ _ e10
  obtain ⟨f11, p11⟩ := st _ _ _ _ e11
  have P1 : ∀ i, ax_row d1 7 p i = ax_row d 7 p i := p1
  have P2 : ∀ i, ax_row d2 7 p i = ax_row d 7 p i := fun i => (p2 i).trans (P1 i)
  have P3 : ∀ i, ax_row d3 7 p i = ax_row d 7 p i := fun i => (p3 i).trans (P2 i)
  have P4 : ∀ i, ax_row d4 7 p i = ax_row d 7 p i := fun i => (p4 i).trans (P3 i)
  have P5 : ∀ i, ax_row d5 7 p i = ax_row d 7 p i := fun i => (p5 i).trans (P4 i)
  have P6 : ∀ i, ax_row d6 7 p i = ax_row d 7 p i := fun i => (p6 i).trans (P5 i)
  have P7 : ∀ i, ax_row d7 7 p i = ax_row d 7 p i := fun i => (p7 i).trans (P6 i)
  have P8 : ∀ i, ax_row d8 7 p i = ax_row d 7 p i := fun i => (p8 i).trans (P7 i)
  have P9 : ∀ i, ax_row d9 7 p i = ax_row d 7 p i := fun i => (p9 i).trans (P8 i)
  have P10 : ∀ i, ax_row d10 7 p i = ax_row d 7 p i := fun i => (p10 i).trans (P9 i)
  have keep0 : ∀ j, j ≠ 0 → ax_row d11 7 w j = ax_row d8 7 w j := fun j hj => by rw [e11, row_j hj, e10, row_j hj, e9, row_j hj]
  have r2 : ∀ t, t < 16 → ax_row d11 7 w 2 t = ax_row d 7 p 2 t := fun t ht => by
    rw [keep0 2 (by decide), e8, row_j (by decide), e7, row_j (by decide), e6, row_j (by decide), e5, row_j (by decide), e4, row_j (by decide), e3, row_j (by decide), e2, row_j (by decide), e1, row_s, cpy0 ht]
  have r3 : ∀ t, t < 16 → ax_row d11 7 w 3 t = ax_row d 7 p 3 t := fun t ht => by
    rw [keep0 3 (by decide), e8, row_j (by decide), e7, row_j (by decide), e6, row_j (by decide), e5, row_j (by decide), e4, row_j (by decide), e3, row_j (by decide), e2, row_s, cpy0 ht, P1]
  have r4 : ∀ t, t < 16 → ax_row d11 7 w 4 t = ax_row d 7 p 4 t := fun t ht => by
    rw [keep0 4 (by decide), e8, row_j (by decide), e7, row_j (by decide), e6, row_j (by decide), e5, row_j (by decide), e4, row_j (by decide), e3, row_s, cpy0 ht, P2]
  have r5 : ∀ t, t < 16 → ax_row d11 7 w 5 t = ax_row d 7 p 5 t := fun t ht => by
    rw [keep0 5 (by decide), e8, row_j (by decide), e7, row_j (by decide), e6, row_j (by decide), e5, row_j (by decide), e4, row_s, cpy0 ht, P3]
  have r6 : ∀ t, t < 6 → ax_row d11 7 w 6 t = ax_row d 7 p 6 t := fun t ht => by
    rw [keep0 6 (by decide), e8, row_j (by decide), e7, row_j (by decide), e6, row_j (by decide), e5, row_s, cpy0 ht, P4]
  have r7 : ∀ t, t < 6 → ax_row d11 7 w 7 t = ax_row d 7 p 7 t := fun t ht => by
    rw [keep0 7 (by decide), e8, row_j (by decide), e7, row_j (by decide), e6, row_s, cpy0 ht, P5]
  have r8 : ∀ t, t < 6 → ax_row d11 7 w 8 t = ax_row d 7 p 8 t := fun t ht => by
    rw [keep0 8 (by decide), e8, row_j (by decide), e7, row_s, cpy0 ht, P6]
  have r9 : ∀ t, t < 40 → ax_row d11 7 w 9 t = ax_row d 7 p 9 t := fun t ht => by
    rw [keep0 9 (by decide), e8, row_s, cpy0 ht, P7]
  refine hQ d11 (Fr_trans f1 (Fr_trans f2 (Fr_trans f3 (Fr_trans f4 (Fr_trans f5 (Fr_trans f6 (Fr_trans f7 (Fr_trans f8 (Fr_trans f9 (Fr_trans f10 f11)))))))))) ⟨fun j t h1 h2 ht => ?_, fun j k h1 h2 hk => ?_, r9, fun t h1 h2 => ?_⟩
  · rcases (by omega : j = 2 ∨ j = 3 ∨ j = 4 ∨ j = 5) with e | e | e | e <;> subst e
    · exact r2 t ht
    · exact r3 t ht
    · exact r4 t ht
    · exact r5 t ht
  · rcases (by omega : j = 6 ∨ j = 7 ∨ j = 8) with e | e | e <;> subst e
    · exact r6 k hk
    · exact r7 k hk
    · exact r8 k hk
  · rcases (by omega : t = 9 ∨ t = 10 ∨ t = 11) with e | e | e <;> subst e
    · rw [e11, row_s, upd_n (by decide), e10, row_s, upd_n (by decide), e9, row_s, upd_s, P8]
    · rw [e11, row_s, upd_n (by decide), e10, row_s, upd_s, P9]
    · rw [e11, row_s, upd_s, P10]
/-- the check's frame -/
def frS (f s : Row) (n : Nat) : Row := fun k => if k < n then s k else f k
theorem frS_succ (f s : Row) (n : Nat) : upd (frS f s n) n (s n) = frS f s (n + 1) := by
  funext k
  unfold frS
  by_cases e : k = n
  · rw [e, upd_s, if_pos (by omega)]
  · rw [upd_n e]
    by_cases c : k < n
    · rw [if_pos c, if_pos (by omega)]
    · rw [if_neg c, if_neg (by omega)]
theorem frS_0 (f s : Row) : frS f s 0 = f := by
  funext k
  unfold frS
  rw [if_neg (by omega)]
theorem m_frames (d : ax_D) (Q : ax_P) (hQ : Q (sR d 6 (frS (mr d 6) (mr d 2) 369)) (Sum.inl none)) : CT 211 [ax_vR 9 0 0] d Q := by
  refine w211 ?_
  have key := lp_up (fun i => h211_2 (nI i) (sR d 6 (frS (mr d 6) (mr d 2) i)) Q) 369 ?_ ?_ 0 (Nat.zero_le _)
  · have key : h211_2 (nI 0) (sR d 6 (frS (mr d 6) (mr d 2) 0)) Q := key
    rw [frS_0, sR_id d 6 rfl] at key
    exact key
  · exact w211_2 _ ⟨fun _ => hQ, fun g => absurd (by decide) g⟩
  · intro i hi ih
    have ci : ax_in (nI i) 369 = true := ax_in_nI hi (by omega)
    refine w211_2 _ ⟨fun g => absurd g (by rw [Int32.not_le]; exact nI_lt (b := 369) hi (by omega)), fun _ => ⟨ci, ci, fun d1 e1 => ?_⟩⟩
    have q1 : d1 = sR (sR d 6 (frS (mr d 6) (mr d 2) i)) 6 (upd (mr (sR d 6 (frS (mr d 6) (mr d 2) i)) 6) (nI i).toNatClampNeg (mr (sR d 6 (frS (mr d 6) (mr d 2) i)) 2 (nI i).toNatClampNeg)) := e1
    rw [mr_sR, mr_sRn (by decide), sR_sR, nI_clamp (by omega), frS_succ] at q1
    rw [q1, show nI i + 1 = nI (i + 1) from nI_add i 1]
    exact ih
/-- the check's history -/
def shH (h : Row) (n : Nat) : Row := fun k => if k < n then h (k + 369) else h k
theorem shH_succ (h : Row) (n : Nat) : upd (shH h n) n (shH h n (n + 369)) = shH h (n + 1) := by
  funext k
  by_cases e : k = n
  · rw [e, upd_s]
    unfold shH
    rw [if_neg (by omega), if_pos (by omega)]
  · rw [upd_n e]
    unfold shH
    by_cases c : k < n
    · rw [if_pos c, if_pos (by omega)]
    · rw [if_neg c, if_neg (by omega)]
theorem shH_0 (h : Row) : shH h 0 = h := by
  funext k
  unfold shH
  rw [if_neg (by omega)]
def puH (h f : Row) (b n : Nat) : Row := fun k => if b ≤ k ∧ k < b + n then f (k - b) else h k
theorem puH_succ (h f : Row) (b n : Nat) : upd (puH h f b n) (b + n) (f n) = puH h f b (n + 1) := by
  funext k
  by_cases e : k = b + n
  · rw [e, upd_s]
    unfold puH
    rw [if_pos (by omega)]
    congr 1
    omega
  · rw [upd_n e]
    unfold puH
    by_cases c : b ≤ k ∧ k < b + n
    · rw [if_pos c, if_pos (by omega)]
    · rw [if_neg c, if_neg (by omega)]
theorem puH_0 (h f : Row) (b : Nat) : puH h f b 0 = h := by
  funext k
  unfold puH
  rw [if_neg (by omega)]
theorem m_k55 {d : ax_D} {n : Nat} (hn : n < 10) (h7 : mv d 7 = nI (n + 1)) (Q : ax_P) (hQ : Q (sR d 7 (puH (mr d 7) (mr d 6) (369 * n) 369)) (Sum.inl none)) : h212_55 0 d Q := by
  have key := lp_up (fun i => h212_55 (nI i) (sR d 7 (puH (mr d 7) (mr d 6) (369 * n) i)) Q) 369 ?_ ?_ 0 (Nat.zero_le _)
  · have key : h212_55 (nI 0) (sR d 7 (puH (mr d 7) (mr d 6) (369 * n) 0)) Q := key
    rw [puH_0, sR_id d 7 rfl] at key
    exact key
  · exact w212_55 _ ⟨fun _ => hQ, fun g => absurd (by decide) g⟩
  · intro i hi ih
    have ci : ax_in (nI i) 369 = true := ax_in_nI hi (by omega)
    have e7 : ax_row (sR d 7 (puH (mr d 7) (mr d 6) (369 * n) i)) 9 0 0 7 = nI (n + 1) := (mv_sR (by decide) d 7 _).trans h7
    have ea : (369 : Int32) * (nI (n + 1) - 1) + nI i = nI (369 * n + i) := by
      rw [show nI (n + 1) - 1 = nI n from pk_sub (a := n + 1) (b := 1) (by omega), show (369 : Int32) * nI n = nI (369 * n) from pk_mul 369 n, nI_add]
    refine w212_55 _ ⟨fun g => absurd g (by rw [Int32.not_le]; exact nI_lt (b := 369) hi (by omega)), fun _ => ?_⟩
    rw [e7, ea]
    refine ⟨ci, ax_in_nI (by omega) (by omega), fun d1 e1 => ?_⟩
    have q1 : d1 = sR (sR d 7 (puH (mr d 7) (mr d 6) (369 * n) i)) 7 (upd (mr (sR d 7 (puH (mr d 7) (mr d 6) (369 * n) i)) 7) (nI (369 * n + i)).toNatClampNeg (mr (sR d 7 (puH (mr d 7) (mr d 6) (369 * n) i)) 6 (nI i).toNatClampNeg)) := e1
    rw [mr_sR, mr_sRn (by decide), sR_sR, nI_clamp (by omega), nI_clamp (by omega), puH_succ] at q1
    rw [q1, show nI i + 1 = nI (i + 1) from nI_add i 1]
    exact ih
theorem m_keeps (d : ax_D) {n : Nat} (hn : n ≤ 10) (h7 : mv d 7 = nI n) (Q : ax_P) (hQ : Q (cond (decide (n = 10)) (sR d 7 (puH (shH (mr d 7) 3321) (mr d 6) 3321 369)) (sR (sV d 7 (nI (n + 1))) 7 (puH (mr d 7) (mr d 6) (369 * n) 369))) (Sum.inl none)) : CT 212 [ax_vR 9 0 0] d Q := by
  refine w212 ?_
  rw [show ax_row d 9 0 0 7 = nI n from h7]
  refine ⟨fun g => ?_, fun g d1 e1 => ?_⟩
  · have g : n = 10 := (nI_eq (by omega) (by omega)).mp (show nI n = nI 10 from g)
    rw [decide_eq_true g] at hQ
    have key := lp_up (fun i => h212_11 (nI i) (sR d 7 (shH (mr d 7) i)) Q) 3321 ?_ ?_ 0 (Nat.zero_le _)
    · have key : h212_11 (nI 0) (sR d 7 (shH (mr d 7) 0)) Q := key
      rw [shH_0, sR_id d 7 rfl] at key
      exact key
    · refine w212_11 _ ⟨fun _ => ?_, fun g => absurd (by decide) g⟩
      refine m_k55 (n := 9) (by omega) ((mv_sR (by decide) d 7 _).trans (by rw [h7, g])) Q ?_
      rw [mr_sR, mr_sRn (by decide), sR_sR]
      exact hQ
    · intro i hi ih
      refine w212_11 _ ⟨fun g => absurd g (by rw [Int32.not_le]; exact nI_lt (b := 3321) hi (by omega)), fun _ => ?_⟩
      rw [show nI i + 369 = nI (i + 369) from nI_add i 369]
      refine ⟨ax_in_nI (by omega) (by omega), ax_in_nI (by omega) (by omega), fun d1 e1 => ?_⟩
      have q1 : d1 = sR (sR d 7 (shH (mr d 7) i)) 7 (upd (mr (sR d 7 (shH (mr d 7) i)) 7) (nI i).toNatClampNeg (mr (sR d 7 (shH (mr d 7) i)) 7 (nI (i + 369)).toNatClampNeg)) := e1
      rw [mr_sR, sR_sR, nI_clamp (by omega), nI_clamp (by omega), shH_succ] at q1
      rw [q1, show nI i + 1 = nI (i + 1) from nI_add i 1]
      exact ih
  · have g : n ≠ 10 := fun z => g (by rw [z]; rfl)
    rw [decide_eq_false g] at hQ
    have q1 : d1 = sV d 7 (nI (n + 1)) := by rw [e1, show nI n + 1 = nI (n + 1) from nI_add n 1]; rfl
    rw [q1]
    refine m_k55 (n := n) (by omega) (mv_sV d 7 _) Q ?_
    rw [mr_sV (by decide), mr_sV (by decide)]
    exact hQ
