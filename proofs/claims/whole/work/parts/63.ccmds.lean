/-! the class's reader: commands -/
abbrev Cd : Type := Nat × Nat × Nat × Nat
def cdT (c : Cd) : Int32 := cd c.1 c.2.1 c.2.2.1 c.2.2.2
def VOkT (c : Cd) : Prop := VOk c.1 c.2.1 c.2.2.1 c.2.2.2
section CC3
variable {d : ax_D} {tx : Row} {ln a : Nat}
theorem CM_b {c : Cd} {b : Nat} (ha : a ≤ ln) (h : CM tx ln a = Sum.inr (c, b)) : a + 2 ≤ b ∧ b ≤ ln ∧ VOkT c := by
  unfold CM at h
  cases hr : RW tx ln 0 18 a with
  | inl f => rw [hr] at h; cases h
  | inr w =>
    simp only [hr] at h
    obtain ⟨-, k2, k3⟩ := RW_lt hr
    have hb := full_ln ha k3
    have h2 := wl_2 w (by omega)
    by_cases e8 : w = 8
    · rw [if_pos e8] at h
      have hb : a + 3 ≤ ln := by rw [e8] at hb; exact hb
      cases hk : RW tx ln 0 6 (a + 3) with
      | inl f => simp only [hk] at h; cases h
      | inr k =>
        simp only [hk] at h
        cases h
        obtain ⟨-, m2, m3⟩ := RW_lt hk
        have := full_ln hb m3
        exact ⟨by omega, this, by show k < 18; omega, by show k ≠ 8; omega, Or.inl (by show 0 < 32; omega), by show 0 < 32; omega, by show 0 < 3; omega, fun e => absurd (show k = 15 from e) (by omega)⟩
    · rw [if_neg e8] at h
      by_cases e7 : w ≤ 7
      · rw [if_pos e7] at h
        cases h
        exact ⟨by omega, hb, by show w < 18; omega, e8, Or.inl (by show 0 < 32; omega), by show 0 < 32; omega, by show 0 < 3; omega, fun e => absurd (show w = 15 from e) (by omega)⟩
      · rw [if_neg e7] at h
        cases hp : PH tx ln (decide (w = 9) || decide (w = 10)) (a + wl w) with
        | inl f => simp only [hp] at h; cases h
        | inr xb =>
          obtain ⟨x, a2⟩ := xb
          simp only [hp] at h
          obtain ⟨p1, p2, p3⟩ := PH_b hb hp
          have hx : x < 32 ∨ (x = 63 ∧ (w = 9 ∨ w = 10)) := by
            rcases p3 with q | ⟨q, r⟩
            · exact Or.inl q
            · refine Or.inr ⟨q, ?_⟩
              rcases (Bool.or_eq_true _ _).mp r with r | r
              · exact Or.inl (of_decide_eq_true r)
              · exact Or.inr (of_decide_eq_true r)
          by_cases e15 : w < 15
          · rw [if_pos e15] at h
            cases h
            exact ⟨by omega, p2, by show w < 18; omega, e8, hx, by show 0 < 32; omega, by show 0 < 3; omega, fun e => absurd (show w = 15 from e) (by omega)⟩
          · rw [if_neg e15] at h
            cases hl : RW tx ln (if w = 15 then 30 else 32) (if w = 15 then 2 else 1) a2 with
            | inl f => simp only [hl] at h; cases h
            | inr l =>
              simp only [hl] at h
              obtain ⟨-, -, m3⟩ := RW_lt hl
              have hb2 := full_ln p2 m3
              cases hq : PH tx ln false (a2 + wl l) with
              | inl f => simp only [hq] at h; cases h
              | inr yb =>
                obtain ⟨y, a4⟩ := yb
                simp only [hq] at h
                cases h
                obtain ⟨q1, q2, q3⟩ := PH_b hb2 hq
                have hy : y < 32 := by
                  rcases q3 with q | ⟨-, r⟩
                  · exact q
                  · cases r
                refine ⟨by omega, q2, by show w < 18; omega, e8, hx, hy, ?_, fun _ => ?_⟩
                · show (if l = 30 then 1 else 2) < 3
                  by_cases e : l = 30
                  · rw [if_pos e]; omega
                  · rw [if_neg e]; omega
                · show (if l = 30 then 1 else 2) = 1 ∨ (if l = 30 then 1 else 2) = 2
                  by_cases e : l = 30
                  · rw [if_pos e]; exact Or.inl rfl
                  · rw [if_neg e]; exact Or.inr rfl
def CQ (d : ax_D) (tx : Row) (ln : Nat) (r : Nat ⊕ (Cd × Nat)) (Q : ax_P) : Prop := match r with
  | Sum.inl f => ∀ d' z a', FrR d d' → Rc d' tx ln a' → ax_row d' 4 0 0 6 = nI f → Q d' (Sum.inl (some (Sum.inl z)))
  | Sum.inr (c, b) => ∀ d', FrR d d' → Rc d' tx ln b → ax_row d' 4 0 0 6 = -1 → Q d' (Sum.inl (some (Sum.inl (cdT c))))
theorem CQ_Fr {d1 : ax_D} {r : Nat ⊕ (Cd × Nat)} {Q : ax_P} (f : FrR d d1) (h : CQ d tx ln r Q) : CQ d1 tx ln r Q := by
  cases r with
  | inl x => exact fun d' z a' f2 => h d' z a' (FrR_trans f f2)
  | inr cb =>
    obtain ⟨c, b⟩ := cb
    exact fun d' f2 => h d' (FrR_trans f f2)
theorem fl_nm {f : Nat} {x : Int32} (h : x = nI f) (hf : f ≤ 80) : ¬ x = -1 := fun e => nI_nm (n := f) (by omega) (h.symm.trans e)
theorem RW_fb {lo n f : Nat} (ha : a ≤ ln) (h : RW tx ln lo n a = Sum.inl f) : f ≤ ln := by
  rw [(RW_f h).1]
  exact mxA_b ha lo n
theorem PH_fb {all : Bool} {f : Nat} (ha : a ≤ ln) (h : PH tx ln all a = Sum.inl f) : f ≤ ln := by
  unfold PH at h
  cases hr : RW tx ln 18 (cond all 12 11) a with
  | inl g => simp only [hr] at h; cases h; exact RW_fb ha hr
  | inr w =>
    simp only [hr] at h
    by_cases e : w = 29
    · rw [if_pos e] at h; cases h
    · rw [if_neg e] at h
      by_cases e2 : w < 26
      · rw [if_pos e2] at h; cases h
      · rw [if_neg e2] at h
        obtain ⟨k1, k2, k3⟩ := RW_lt hr
        have hb := full_ln ha k3
        have k2 : w < 30 := Nat.lt_of_lt_of_le k2 (by cases all <;> decide)
        have e4 : wl w = 4 := by
          rcases (by omega : w = 26 ∨ w = 27 ∨ w = 28) with q | q | q <;> rw [q] <;> rfl
        rw [e4] at hb
        cases hu : RW tx ln 18 8 (a + 4) with
        | inl g => simp only [hu] at h; cases h; exact RW_fb hb hu
        | inr u => simp only [hu] at h; cases h
theorem c_h61 (h : Rc d tx ln a) (hl : ln ≤ 80) (ha : a ≤ ln) (h6 : ax_row d 4 0 0 6 = -1) {w : Nat} (hw : 9 ≤ w ∧ w < 18) (Q : ax_P)
    (hQ : CQ d tx ln (match PH tx ln (decide (w = 9) || decide (w = 10)) a with
      | Sum.inl f => Sum.inl f
      | Sum.inr (x, a2) => if w < 15 then Sum.inr ((w, x, 0, 0), a2)
        else (match RW tx ln (if w = 15 then 30 else 32) (if w = 15 then 2 else 1) a2 with
          | Sum.inl f => Sum.inl f
          | Sum.inr l => (match PH tx ln false (a2 + wl l) with
            | Sum.inl f => Sum.inl f
            | Sum.inr (y, a4) => Sum.inr ((w, x, y, if l = 30 then 1 else 2), a4)))) Q) : h109_61 (nI w) (b2i (decide (w = 9) || decide (w = 10))) d Q := by
  refine w109_61 _ _ (c_phr h hl ha _ _ ?_)
  cases hp : PH tx ln (decide (w = 9) || decide (w = 10)) a with
  | inl f =>
    simp only [hp] at hQ
    intro d' z a' f1 r1 e6
    have hne := fl_nm e6 (Nat.le_trans (PH_fb ha hp) hl)
    exact ⟨fun g => absurd g hne, fun _ => code_any _ _ _ _ _ _ (fun z => hQ d' z a' f1 r1 e6)⟩
  | inr xb =>
    obtain ⟨x, a2⟩ := xb
    simp only [hp] at hQ
    obtain ⟨p1, p2, p3⟩ := PH_b ha hp
    have hx : x < 256 := by rcases p3 with q | ⟨q, -⟩ <;> omega
    intro d' f1 r1 e6
    have e6 := e6.trans h6
    refine ⟨fun _ => ⟨fun g => ?_, fun g => ?_⟩, fun g => absurd e6 g⟩
    · have g : 15 ≤ w := by
        rcases Nat.lt_or_ge w 15 with c | c
        · exact absurd g (by rw [Int32.not_le]; exact nI_lt (b := 15) c (by omega))
        · exact c
      rw [if_neg (by omega)] at hQ
      -- the second phrase
      have rest : ∀ d2 l a3, FrR d' d2 → Rc d2 tx ln a3 → a3 ≤ ln → ax_row d2 4 0 0 6 = -1 → ∀ p, (p = 1 ∨ p = 2) → CQ d tx ln (match PH tx ln false a3 with
            | Sum.inl f => Sum.inl f
            | Sum.inr (y, a4) => Sum.inr ((w, x, y, p), a4)) Q → h109_124 (nI w) (nI x) l (nI p) d2 Q := by
        intro d2 l a3 f2 r2 ha3 q6 p hpp hQ
        refine w109_124 _ _ _ _ ⟨fun _ => c_phr r2 hl ha3 false _ ?_, fun g => absurd q6 g⟩
        cases hq : PH tx ln false a3 with
        | inl f =>
          simp only [hq] at hQ
          intro d3 z a' f3 r3 e3
          exact code_any _ _ _ _ _ _ (fun z => hQ d3 z a' (FrR_trans f1 (FrR_trans f2 f3)) r3 e3)
        | inr yb =>
          obtain ⟨y, a4⟩ := yb
          simp only [hq] at hQ
          obtain ⟨q1, q2, q3⟩ := PH_b ha3 hq
          have hy : y < 256 := by rcases q3 with q | ⟨q, -⟩ <;> omega
          intro d3 f3 r3 e3
          exact code_of (by omega) hx hy (by omega) _ _ (hQ d3 (FrR_trans f1 (FrR_trans f2 f3)) r3 (e3.trans q6))
      refine ⟨fun g15 => ?_, fun g15 => ?_⟩
      · have g15 : w = 15 := (nI_eq (by omega) (by omega)).mp (show nI w = nI 15 from g15)
        rw [if_pos g15, if_pos g15] at hQ
        refine c_word (lo := 30) (n := 2) (hi := 31) r1 hl p2 rfl (by decide) _ ?_
        cases hr : RW tx ln 30 2 a2 with
        | inl f =>
          simp only [hr] at hQ
          intro d2 f2 r2 q6
          have hne := fl_nm q6 (Nat.le_trans (RW_fb p2 hr) hl)
          refine ⟨fun e => absurd e (by decide), fun _ => w109_124 _ _ _ _ ⟨fun g => absurd g hne, fun _ => code_any _ _ _ _ _ _ (fun z => hQ d2 z _ (FrR_trans f1 f2) r2 q6)⟩⟩
        | inr l =>
          simp only [hr] at hQ
          obtain ⟨m1, m2, m3⟩ := RW_lt hr
          have hb := full_ln p2 m3
          intro d2 f2 r2 q6
          have q6 := q6.trans e6
          refine ⟨fun e => ?_, fun e => ?_⟩
          · have e : l = 30 := (nI_eq (by omega) (by omega)).mp (show nI l = nI 30 from e)
            rw [if_pos e] at hQ
            exact rest d2 _ _ f2 r2 hb q6 1 (Or.inl rfl) hQ
          · have e : l ≠ 30 := fun z => e (by rw [z]; rfl)
            rw [if_neg e] at hQ
            exact rest d2 _ _ f2 r2 hb q6 2 (Or.inr rfl) hQ
      · have g15 : w ≠ 15 := fun z => g15 (by rw [z]; rfl)
        rw [if_neg g15, if_neg g15] at hQ
        refine c_word (lo := 32) (n := 1) (hi := 32) r1 hl p2 rfl (by decide) _ ?_
        cases hr : RW tx ln 32 1 a2 with
        | inl f =>
          simp only [hr] at hQ
          intro d2 f2 r2 q6
          have hne := fl_nm q6 (Nat.le_trans (RW_fb p2 hr) hl)
          refine ⟨fun e => absurd e (by decide), fun _ => w109_124 _ _ _ _ ⟨fun g => absurd g hne, fun _ => code_any _ _ _ _ _ _ (fun z => hQ d2 z _ (FrR_trans f1 f2) r2 q6)⟩⟩
        | inr l =>
          simp only [hr] at hQ
          obtain ⟨m1, m2, m3⟩ := RW_lt hr
          have hb := full_ln p2 m3
          intro d2 f2 r2 q6
          have q6 := q6.trans e6
          have e : l ≠ 30 := by omega
          rw [if_neg e] at hQ
          exact ⟨fun z => absurd ((nI_eq (by omega) (by omega)).mp (show nI l = nI 30 from z)) e, fun _ => rest d2 _ _ f2 r2 hb q6 2 (Or.inr rfl) hQ⟩
    · have g : w < 15 := by
        rcases Nat.lt_or_ge w 15 with c | c
        · exact c
        · exact absurd (nI_le (a := 15) c (by omega)) g
      rw [if_pos g] at hQ
      exact code_of (y := 0) (p := 0) (by omega) hx (by omega) (by omega) _ _ (hQ d' f1 r1 e6)
theorem c_cmd (h : Rc d tx ln a) (hl : ln ≤ 80) (ha : a ≤ ln) (h6 : ax_row d 4 0 0 6 = -1) (Q : ax_P) (hQ : CQ d tx ln (CM tx ln a) Q) : CT 109 [ax_vR 4 0 0] d Q := by
  refine w109 (c_word (lo := 0) (n := 18) (hi := 17) h hl ha rfl (by decide) _ ?_)
  unfold CM at hQ
  cases hr : RW tx ln 0 18 a with
  | inl f =>
    simp only [hr] at hQ
    intro d' f1 r1 e6
    have hne := fl_nm e6 (Nat.le_trans (RW_fb ha hr) hl)
    exact ⟨fun g => absurd g (by decide), fun _ => w109_21 _ ⟨fun g => absurd g hne, fun _ => code_any _ _ _ _ _ _ (fun z => hQ d' z _ f1 r1 e6)⟩⟩
  | inr w =>
    simp only [hr] at hQ
    obtain ⟨-, k2, k3⟩ := RW_lt hr
    have hb := full_ln ha k3
    intro d' f1 r1 e6
    have e6 := e6.trans h6
    have small : ∀ d2 k b, k ≤ 7 → FrR d' d2 → Rc d2 tx ln b → ax_row d2 4 0 0 6 = -1 → CQ d tx ln (Sum.inr ((k, 0, 0, 0), b)) Q → h109_21 (nI k) d2 Q := by
      intro d2 k b hk f2 r2 q6 hQ
      refine w109_21 _ ⟨fun _ => ⟨fun g => absurd g (by rw [Int32.not_lt]; exact nI_le (b := 7) hk (by omega)), fun _ => code_of (x := 0) (y := 0) (p := 0) (by omega) (by omega) (by omega) (by omega) _ _ (hQ d2 (FrR_trans f1 f2) r2 q6)⟩, fun g => absurd q6 g⟩
    refine ⟨fun g => ?_, fun g => ?_⟩
    · have g : w = 8 := (nI_eq (by omega) (by omega)).mp (show nI w = nI 8 from g)
      rw [if_pos g] at hQ
      rw [g] at r1 hb
      have hb : a + 3 ≤ ln := hb
      have r1 : Rc d' tx ln (a + 3) := r1
      refine c_word (lo := 0) (n := 6) (hi := 5) r1 hl hb rfl (by decide) _ ?_
      cases hk : RW tx ln 0 6 (a + 3) with
      | inl f =>
        simp only [hk] at hQ
        intro d2 f2 r2 q6
        have hne := fl_nm q6 (Nat.le_trans (RW_fb hb hk) hl)
        exact w109_21 _ ⟨fun g => absurd g hne, fun _ => code_any _ _ _ _ _ _ (fun z => hQ d2 z _ (FrR_trans f1 f2) r2 q6)⟩
      | inr k =>
        simp only [hk] at hQ
        obtain ⟨-, m2, m3⟩ := RW_lt hk
        intro d2 f2 r2 q6
        exact small d2 k _ (by omega) f2 r2 (q6.trans e6) hQ
    · have g : w ≠ 8 := fun z => g (by rw [z]; rfl)
      rw [if_neg g] at hQ
      by_cases e7 : w ≤ 7
      · rw [if_pos e7] at hQ
        exact small d' w _ e7 (FrR_refl d') r1 e6 hQ
      · rw [if_neg e7] at hQ
        have H := c_h61 r1 hl hb e6 (w := w) ⟨by omega, by omega⟩ Q (CQ_Fr f1 hQ)
        refine w109_21 _ ⟨fun _ => ⟨fun _ => ⟨fun g9 => ?_, fun g9 => ⟨fun g10 => ?_, fun g10 => ?_⟩⟩, fun z => absurd (nI_lt (a := 7) (b := w) (by omega) (by omega)) z⟩, fun z => absurd e6 z⟩
        · rw [decide_eq_true ((nI_eq (by omega) (by omega)).mp (show nI w = nI 9 from g9))] at H
          exact H
        · rw [decide_eq_true ((nI_eq (by omega) (by omega)).mp (show nI w = nI 10 from g10)), Bool.or_true] at H
          exact H
        · rw [decide_eq_false (fun z => g9 (by rw [z]; rfl)), decide_eq_false (fun z => g10 (by rw [z]; rfl))] at H
          exact H
end CC3
