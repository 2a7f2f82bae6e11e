/-! commands carried out, on the check's side -/
def keepH (H : List Row) (s : Row) : List Row := if H.length = 10 then H.drop 1 ++ [s] else H ++ [s]
/-- what a list of commands does: the world, what is kept, how many were carried out, the reason -/
def CO : List Cd → Row → List Row → Nat → (Row × List Row × Nat × (Int32 × Int32))
  | [], s, H, i => (s, H, i, (0, -1))
  | c :: l, s, H, i => match actS s (cmT c) with
    | Sum.inl w => (s, H, i, w)
    | Sum.inr s' => if c.1 = 6 then CO l s' H (i + 1) else CO l (passS s') (keepH H s) (i + 1)
def mHist (d : ax_D) (H : List Row) : Prop := mv d 7 = nI H.length ∧ H.length ≤ 10 ∧ ∀ i s, H[i]? = some s → ∀ k, k < 369 → mr d 7 (369 * i + k) = s k
def FrK (d d' : ax_D) : Prop := d'.1 = d.1 ∧ d'.2.2 = d.2.2 ∧ (∀ j, j ≠ 0 → j ≠ 2 → j ≠ 6 → j ≠ 7 → mr d' j = mr d j) ∧ ∀ k, k ≠ 7 → k ≠ 26 → k ≠ 27 → mv d' k = mv d k
theorem FrK_refl (d : ax_D) : FrK d d := ⟨rfl, rfl, fun _ _ _ _ _ => rfl, fun _ _ _ _ => rfl⟩
theorem FrK_trans {a b c : ax_D} (h1 : FrK a b) (h2 : FrK b c) : FrK a c := ⟨h2.1.trans h1.1, h2.2.1.trans h1.2.1, fun j h0 h22 h6 h7 => (h2.2.2.1 j h0 h22 h6 h7).trans (h1.2.2.1 j h0 h22 h6 h7), fun k h7 h26 h27 => (h2.2.2.2 k h7 h26 h27).trans (h1.2.2.2 k h7 h26 h27)⟩
theorem FrK_sR (d : ax_D) {j : Nat} (hj : j = 2 ∨ j = 6 ∨ j = 7) (f : Row) : FrK d (sR d j f) := ⟨rfl, rfl, fun i _ h2 h6 h7 => mr_sRn (by omega) d f, fun k _ _ _ => mv_sR (by omega) d k f⟩
theorem FrK_sV (d : ax_D) {k : Nat} (hk : k = 7 ∨ k = 26 ∨ k = 27) (x : Int32) : FrK d (sV d k x) := ⟨rfl, rfl, fun i h0 _ _ _ => mr_sV h0 d k x, fun m h7 h26 h27 => mv_sVn (by omega) d x⟩
theorem keepH_len {H : List Row} (s : Row) (h : H.length ≤ 10) : (keepH H s).length ≤ 10 := by
  unfold keepH
  by_cases e : H.length = 10
  · rw [if_pos e, List.length_append, List.length_drop, List.length_singleton]; omega
  · rw [if_neg e, List.length_append, List.length_singleton]; omega
theorem hist_keep {d : ax_D} {H : List Row} {s : Row} (h : mHist d H) (hf : ∀ k, k < 369 → mr d 6 k = s k) : mHist (cond (decide (H.length = 10)) (sR d 7 (puH (shH (mr d 7) 3321) (mr d 6) 3321 369)) (sR (sV d 7 (nI (H.length + 1))) 7 (puH (mr d 7) (mr d 6) (369 * H.length) 369))) (keepH H s) := by
  obtain ⟨h1, h2, h3⟩ := h
  refine ⟨?_, keepH_len s h2, fun i r hi k hk => ?_⟩
  · unfold keepH
    by_cases e : H.length = 10
    · rw [if_pos e, decide_eq_true e, cond_true, mv_sR (by decide), h1, List.length_append, List.length_drop, List.length_singleton, e]
    · rw [if_neg e, decide_eq_false e, cond_false, mv_sR (by decide), mv_sV, List.length_append, List.length_singleton]
  · unfold keepH at hi
    by_cases e : H.length = 10
    · rw [if_pos e] at hi
      rw [decide_eq_true e, cond_true, mr_sR]
      unfold puH
      rcases Nat.lt_or_ge i 9 with q | q
      · rw [List.getElem?_append_left (by rw [List.length_drop]; omega), List.getElem?_drop] at hi
        rw [if_neg (by omega)]
        unfold shH
        rw [if_pos (by omega), show 369 * i + k + 369 = 369 * (1 + i) + k by omega]
        exact h3 (1 + i) r hi k hk
      · rw [List.getElem?_append_right (by rw [List.length_drop]; omega), List.length_drop, e] at hi
        have hi9 : i = 9 := by
          rcases Nat.lt_or_ge (i - (10 - 1)) 1 with z | z
          · omega
          · rw [List.getElem?_eq_none (by rw [List.length_singleton]; omega)] at hi
            cases hi
        rw [hi9] at hi ⊢
        have hi : s = r := Option.some.inj hi
        rw [if_pos (by omega), show 369 * 9 + k - 3321 = k by omega, ← hi]
        exact hf k hk
    · rw [if_neg e] at hi
      rw [decide_eq_false e, cond_false, mr_sR]
      unfold puH
      rcases Nat.lt_or_ge i H.length with q | q
      · rw [List.getElem?_append_left q] at hi
        rw [if_neg (by omega)]
        exact h3 i r hi k hk
      · rw [List.getElem?_append_right q] at hi
        have hin : i = H.length := by
          rcases Nat.lt_or_ge (i - H.length) 1 with z | z
          · omega
          · rw [List.getElem?_eq_none (by rw [List.length_singleton]; omega)] at hi
            cases hi
        rw [hin, Nat.sub_self] at hi
        have hi : s = r := Option.some.inj hi
        rw [hin, if_pos (by omega), show 369 * H.length + k - 369 * H.length = k by omega, ← hi]
        exact hf k hk
theorem cm_le {c : Cd} (h : VOkT c) : (c.1 = 6 → (cmT c).1 = 0) ∧ (c.1 ≠ 6 → ¬ (cmT c).1 ≤ 0) := by
  obtain ⟨v, x, y, p⟩ := c
  obtain ⟨h1, h2, h3, h4, h5, h6⟩ := h
  have h1 : v < 18 := h1
  have h2 : v ≠ 8 := h2
  have h5 : p < 3 := h5
  have pos : ∀ n, 0 < n → n < 100 → ¬ nI n ≤ 0 := fun n g1 g2 => nI_ge (a := 0) g1 (by omega)
  unfold cmT cmdC
  refine ⟨fun e => ?_, fun e => ?_⟩
  · have e : v = 6 := e
    simp only [if_neg (show ¬ v < 6 by omega), if_pos e]
  · have e : v ≠ 6 := e
    by_cases c1 : v < 6
    · simp only [if_pos c1]
      exact pos 2 (by omega) (by omega)
    · simp only [if_neg c1, if_neg e]
      by_cases c2 : v = 7
      · simp only [if_pos c2]
        exact pos 1 (by omega) (by omega)
      · simp only [if_neg c2]
        by_cases c3 : x = 63
        · simp only [if_pos c3]
          by_cases c4 : v = 9
          · simp only [if_pos c4]
            exact pos 13 (by omega) (by omega)
          · simp only [if_neg c4]
            exact pos 14 (by omega) (by omega)
        · simp only [if_neg c3]
          by_cases c4 : v < 15
          · simp only [if_pos c4]
            exact pos (v - 6) (by omega) (by omega)
          · simp only [if_neg c4]
            by_cases c5 : v = 15
            · simp only [if_pos c5]
              exact pos (8 + p) (by omega) (by omega)
            · simp only [if_neg c5]
              exact pos (v - 5) (by omega) (by omega)
def CyQ (d : ax_D) (tr : Bool) (H : List Row) (r : Row × List Row × Nat × (Int32 × Int32)) (Q : ax_P) : Prop :=
  ∀ d', FrK d d' → mr d' 2 = r.1 → mv d' 26 = r.2.2.2.1 → mv d' 27 = r.2.2.2.2 → mHist d' (cond tr r.2.1 H) → Q d' (Sum.inl (some (Sum.inl (nI r.2.2.1))))
theorem m_carry {tr : Bool} : ∀ (l : List Cd) (i : Nat) (d : ax_D) (s : Row) (H H0 : List Row) (Q : ax_P), mr d 2 = s → Ok s → s 3 = 1 → load s ≤ 20 → mv d 25 = nI (i + l.length) → i + l.length ≤ 20 → (∀ j c, l[j]? = some c → Ent d (i + j) (cmT c) ∧ VOkT c) → mv d 26 = 0 → mv d 27 = -1 → mHist d (cond tr H H0) → CyQ d tr H0 (CO l s H i) Q → h219_12 (b2i tr) (nI i) d Q := by
  intro l
  induction l with
  | nil =>
    intro i d s H H0 Q hs hk hp hL h25 h20 he h26 h27 hh hQ
    refine w219_12 _ _ ⟨fun _ => hQ d (FrK_refl d) hs h26 h27 hh, fun g => absurd (show ax_row d 9 0 0 25 ≤ nI i by rw [show ax_row d 9 0 0 25 = nI (i + 0) from h25]; exact nI_le (Nat.le_refl _) (by omega)) g⟩
  | cons c l ih =>
    intro i d s H H0 Q hs hk hp hL h25 h20 he h26 h27 hh hQ
    rw [List.length_cons] at h25 h20
    obtain ⟨hent, hv⟩ := he 0 c rfl
    rw [Nat.add_zero] at hent
    have n25 : ∀ d', mv d' 25 = mv d 25 → ¬ ax_row d' 9 0 0 25 ≤ nI i := fun d' e => by
      rw [show ax_row d' 9 0 0 25 = nI (i + (l.length + 1)) from e.trans h25]
      exact nI_ge (by omega) (by omega)
    have hcmd := cmd_ok hv
    have hga := GA_act hk hp hL hcmd.2
    -- behind the frame
    have body : ∀ d1, FrK d d1 → mr d1 2 = s → mv d1 26 = 0 → mv d1 27 = -1 → mHist d1 (cond tr H H0) → (tr = true → ∀ k, k < 369 → mr d1 6 k = s k) → h219_35 (b2i tr) (nI i) d1 Q := by
      intro d1 f1 hs1 g26 g27 hh1 hfr
      have r21 : ∀ j, 21 ≤ j → mr d1 j = mr d j := fun j hj => f1.2.2.1 j (by omega) (by omega) (by omega) (by omega)
      have hent1 : Ent d1 i (cmT c) := by
        unfold Ent at hent ⊢
        rw [r21 21 (by omega), r21 22 (by omega), r21 23 (by omega), r21 24 (by omega), r21 25 (by omega)]
        exact hent
      obtain ⟨ea, hcmd1⟩ := ent_act hent1 hcmd s
      refine w219_35 _ _ ((m_acts hs1 hk hp g26 (c := i) (by omega) hcmd1 rfl rfl rfl rfl rfl _).mpr ?_)
      rw [ea]
      unfold CO at hQ
      have hQ : CyQ d tr H0 (match actS s (cmT c) with
        | Sum.inl w => (s, H, i, w)
        | Sum.inr s' => if c.1 = 6 then CO l s' H (i + 1) else CO l (passS s') (keepH H s) (i + 1)) Q := hQ
      have hga : GA s (actS s (cmT c)) := hga
      cases hr : actS s (cmT c) with
      | inl w =>
        obtain ⟨w, x⟩ := w
        rw [hr] at hQ hga
        have hw : ¬ w = 0 := hga
        have hQ : CyQ d tr H0 (s, H, i, (w, x)) Q := hQ
        rw [show apA d1 (Sum.inl (w, x)) = sV (sV d1 26 w) 27 x from rfl]
        have q26 : mv (sV (sV d1 26 w) 27 x) 26 = w := rf26 d1 w x
        have f2 : FrK d (sV (sV d1 26 w) 27 x) := FrK_trans f1 (FrK_trans (FrK_sV d1 (by omega) w) (FrK_sV _ (by omega) x))
        show ((ax_row (sV (sV d1 26 w) 27 x) 9 0 0 26 = 0) → _) ∧ (¬ (ax_row (sV (sV d1 26 w) 27 x) 9 0 0 26 = 0) → _)
        refine ⟨fun g => absurd (q26.symm.trans g) hw, fun _ => ?_⟩
        refine w219_12 _ _ ⟨fun g => absurd g (n25 _ (f2.2.2.2 25 (by decide) (by decide) (by decide))), fun _ => ⟨fun g => absurd (q26.symm.trans g) hw, fun _ => ?_⟩⟩
        refine hQ _ f2 ?_ q26 (mv_sV _ _ _) ?_
        · rw [mr_sV (by decide), mr_sV (by decide)]; exact hs1
        · refine ⟨?_, hh1.2.1, fun j r hj k hk => ?_⟩
          · rw [mv_sVn (by decide), mv_sVn (by decide)]; exact hh1.1
          · rw [mr_sV (by decide), mr_sV (by decide)]; exact hh1.2.2 j r hj k hk
      | inr s' =>
        rw [hr] at hQ hga
        have hQ : CyQ d tr H0 (if c.1 = 6 then CO l s' H (i + 1) else CO l (passS s') (keepH H s) (i + 1)) Q := hQ
        have hga : Gd s s' ∧ load s' ≤ 20 := hga
        rw [show apA d1 (Sum.inr s') = sR d1 2 s' from rfl]
        show ((ax_row (sR d1 2 s') 9 0 0 26 = 0) → _) ∧ (¬ (ax_row (sR d1 2 s') 9 0 0 26 = 0) → _)
        have q26 : ax_row (sR d1 2 s') 9 0 0 26 = 0 := (mv_sR (by decide) d1 26 s').trans g26
        have ci : ax_in (nI i) 30 = true := ax_in_nI (by omega) (by omega)
        have cl : (nI i).toNatClampNeg = i := nI_clamp (by omega)
        have f2 : FrK d (sR d1 2 s') := FrK_trans f1 (FrK_sR d1 (by omega) s')
        have e21 : ax_row (sR d1 2 s') 9 0 21 i = (cmT c).1 := by
          have : mr (sR d1 2 s') 21 = mr d1 21 := mr_sRn (by decide) d1 s'
          exact (congrFun this i).trans hent1.1
        refine ⟨fun _ => ⟨ci, ?_⟩, fun g => absurd q26 g⟩
        rw [cl, e21]
        have hi1 : nI i + 1 = nI (i + 1) := nI_add i 1
        -- the rest of the list
        have rest : ∀ d4 s4 H4, FrK d d4 → mr d4 2 = s4 → Ok s4 → s4 3 = 1 → load s4 ≤ 20 → mv d4 26 = 0 → mv d4 27 = -1 → mHist d4 (cond tr H4 H0) → CyQ d tr H0 (CO l s4 H4 (i + 1)) Q → h219_12 (b2i tr) (nI i + 1) d4 Q := by
          intro d4 s4 H4 f4 k1 k2 k3 k4 k5 k6 k7 k8
          rw [hi1]
          have r21 : ∀ j, 21 ≤ j → mr d4 j = mr d j := fun j hj => f4.2.2.1 j (by omega) (by omega) (by omega) (by omega)
          refine ih (i + 1) d4 s4 H4 H0 Q k1 k2 k3 k4 ?_ (by omega) (fun j c' hj => ?_) k5 k6 k7 (fun d' f' => k8 d' (FrK_trans f4 f'))
          · rw [f4.2.2.2 25 (by decide) (by decide) (by decide), h25, show i + 1 + l.length = i + (l.length + 1) by omega]
          · obtain ⟨m1, m2⟩ := he (j + 1) c' hj
            refine ⟨?_, m2⟩
            rw [show i + 1 + j = i + (j + 1) by omega]
            unfold Ent at m1 ⊢
            rw [r21 21 (by omega), r21 22 (by omega), r21 23 (by omega), r21 24 (by omega), r21 25 (by omega)]
            exact m1
        have gp := GL_pass hga.1.1 hga.1.2.2
        have hist2 : mHist (sR d1 2 s') (cond tr H H0) := ⟨(mv_sR (by decide) d1 7 s').trans hh1.1, hh1.2.1, fun j r hj k hk => by rw [mr_sRn (by decide)]; exact hh1.2.2 j r hj k hk⟩
        have q27 : mv (sR d1 2 s') 27 = -1 := (mv_sR (by decide) d1 27 s').trans g27
        refine ⟨fun g => ?_, fun g => ?_⟩
        · have e6 : c.1 = 6 := by
            by_cases e6 : c.1 = 6
            · exact e6
            · exact absurd g ((cm_le hv).2 e6)
          rw [if_pos e6] at hQ
          exact rest _ s' H f2 (mr_sR d1 2 s') hga.1.1 hga.1.2.2 hga.2 q26 q27 hist2 hQ
        · have e6 : c.1 ≠ 6 := fun e6 => g (by rw [(cm_le hv).1 e6]; decide)
          rw [if_neg e6] at hQ
          cases tr with
          | false =>
            refine ⟨fun _ => (m_pass (mr_sR d1 2 s') hga.1.1 hga.1.2.2 _).mpr ?_, fun g => absurd rfl g⟩
            show h219_12 (b2i false) (nI i + 1) (sR (sR d1 2 s') 2 (passS s')) Q
            rw [sR_sR]
            refine rest _ (passS s') (keepH H s) (FrK_trans f1 (FrK_sR d1 (by omega) _)) (mr_sR _ _ _) gp.1.1 gp.1.2.2 (Nat.le_trans gp.2 hga.2) ((mv_sR (by decide) d1 26 _).trans g26) ((mv_sR (by decide) d1 27 _).trans g27) ?_ hQ
            exact ⟨(mv_sR (by decide) d1 7 _).trans hh1.1, hh1.2.1, fun j r hj k hk => by rw [mr_sRn (by decide)]; exact hh1.2.2 j r hj k hk⟩
          | true =>
            have hist2 : mHist (sR d1 2 s') H := hist2
            refine ⟨fun g => absurd g (by decide), fun _ => m_keeps _ hist2.2.1 hist2.1 _ ?_⟩
            have hk2 := hist_keep (s := s) hist2 (fun k hk => by rw [mr_sRn (by decide)]; exact hfr rfl k hk)
            have fr3 : FrK (sR d1 2 s') (cond (decide (H.length = 10)) (sR (sR d1 2 s') 7 (puH (shH (mr (sR d1 2 s') 7) 3321) (mr (sR d1 2 s') 6) 3321 369)) (sR (sV (sR d1 2 s') 7 (nI (H.length + 1))) 7 (puH (mr (sR d1 2 s') 7) (mr (sR d1 2 s') 6) (369 * H.length) 369))) ∧ mr (cond (decide (H.length = 10)) (sR (sR d1 2 s') 7 (puH (shH (mr (sR d1 2 s') 7) 3321) (mr (sR d1 2 s') 6) 3321 369)) (sR (sV (sR d1 2 s') 7 (nI (H.length + 1))) 7 (puH (mr (sR d1 2 s') 7) (mr (sR d1 2 s') 6) (369 * H.length) 369))) 2 = s' ∧ mv (cond (decide (H.length = 10)) (sR (sR d1 2 s') 7 (puH (shH (mr (sR d1 2 s') 7) 3321) (mr (sR d1 2 s') 6) 3321 369)) (sR (sV (sR d1 2 s') 7 (nI (H.length + 1))) 7 (puH (mr (sR d1 2 s') 7) (mr (sR d1 2 s') 6) (369 * H.length) 369))) 26 = 0 ∧ mv (cond (decide (H.length = 10)) (sR (sR d1 2 s') 7 (puH (shH (mr (sR d1 2 s') 7) 3321) (mr (sR d1 2 s') 6) 3321 369)) (sR (sV (sR d1 2 s') 7 (nI (H.length + 1))) 7 (puH (mr (sR d1 2 s') 7) (mr (sR d1 2 s') 6) (369 * H.length) 369))) 27 = -1 := by
              cases decide (H.length = 10) with
              | true =>
                refine ⟨FrK_sR _ (by omega) _, ?_, ?_, ?_⟩
                · rw [cond_true, mr_sRn (by decide), mr_sR]
                · rw [cond_true, mv_sR (by decide)]; exact q26
                · rw [cond_true, mv_sR (by decide)]; exact q27
              | false =>
                refine ⟨FrK_trans (FrK_sV _ (by omega) _) (FrK_sR _ (by omega) _), ?_, ?_, ?_⟩
                · rw [cond_false, mr_sRn (by decide), mr_sV (by decide), mr_sR]
                · rw [cond_false, mv_sR (by decide), mv_sVn (by decide)]; exact q26
                · rw [cond_false, mv_sR (by decide), mv_sVn (by decide)]; exact q27
            revert hk2 fr3
            generalize (cond (decide (H.length = 10)) (sR (sR d1 2 s') 7 (puH (shH (mr (sR d1 2 s') 7) 3321) (mr (sR d1 2 s') 6) 3321 369)) (sR (sV (sR d1 2 s') 7 (nI (H.length + 1))) 7 (puH (mr (sR d1 2 s') 7) (mr (sR d1 2 s') 6) (369 * H.length) 369))) = d3
            intro hk2 fr3
            obtain ⟨fr3, x2, x26, x27⟩ := fr3
            refine (m_pass x2 hga.1.1 hga.1.2.2 _).mpr ?_
            refine rest _ (passS s') (keepH H s) (FrK_trans f2 (FrK_trans fr3 (FrK_sR d3 (by omega) _))) (mr_sR _ _ _) gp.1.1 gp.1.2.2 (Nat.le_trans gp.2 hga.2) ((mv_sR (by decide) d3 26 _).trans x26) ((mv_sR (by decide) d3 27 _).trans x27) ?_ hQ
            exact ⟨(mv_sR (by decide) d3 7 _).trans hk2.1, hk2.2.1, fun j r hj k hk => by rw [mr_sRn (by decide)]; exact hk2.2.2 j r hj k hk⟩
    refine w219_12 _ _ ⟨fun g => absurd g (n25 d rfl), fun _ => ⟨fun _ => ⟨fun g => ?_, fun g => ?_⟩, fun g => absurd h26 g⟩⟩
    · have e : tr = false := by
        cases tr with
        | false => rfl
        | true => exact absurd g (by decide)
      exact body d (FrK_refl d) hs h26 h27 hh (fun z => by rw [e] at z; cases z)
    · refine m_frames d _ ?_
      refine body _ (FrK_sR d (by omega) _) ((mr_sRn (by decide) d _).trans hs) ((mv_sR (by decide) d 26 _).trans h26) ((mv_sR (by decide) d 27 _).trans h27) ?_ (fun _ k hk => ?_)
      · exact ⟨(mv_sR (by decide) d 7 _).trans hh.1, hh.2.1, fun j r hj k hk => by rw [mr_sRn (by decide)]; exact hh.2.2 j r hj k hk⟩
      · rw [mr_sR]
        unfold frS
        rw [if_pos hk, hs]
