/-! the check's reader: phrases -/
def PhV (d : ax_D) (x : Nat) : Prop := (x = 63 → mv d 18 = -1 ∧ mv d 19 = 0) ∧ (x < 32 → mv d 18 = nI (x % 8) ∧ mv d 19 = nI (x / 8))
def MPQ (d : ax_D) (tx : Row) (ln : Nat) (r : Nat ⊕ (Nat × Nat)) (Q : ax_P) : Prop := match r with
  | Sum.inl g => ∀ d', FrN d d' → Rm d' tx ln g → mv d' 16 = 0 → Q d' (Sum.inl none)
  | Sum.inr (x, b) => ∀ d', FrN d d' → Rm d' tx ln b → mv d' 16 = 1 → PhV d' x → Q d' (Sum.inl none)
section MP
variable {d : ax_D} {tx : Row} {ln a : Nat}
theorem MPQ_Fr {d1 : ax_D} {r : Nat ⊕ (Nat × Nat)} {Q : ax_P} (f : FrN d d1) (h : MPQ d tx ln r Q) : MPQ d1 tx ln r Q := by
  cases r with
  | inl x => exact fun d' f2 => h d' (FrN_trans f f2)
  | inr cb =>
    obtain ⟨c, b⟩ := cb
    exact fun d' f2 => h d' (FrN_trans f f2)
theorem m_adjs (h : Rm d tx ln a) (hl : ln ≤ 80) (ha : a ≤ ln) {f : Nat} (hf : mv d 17 = nI f) (hf8 : a ≤ f ∧ f ≤ 80) (h19 : mv d 19 = 0) (v1 : Int32) (Q : ax_P) (hQ : match RW tx ln 26 3 a with
    | Sum.inl _ => h225_106 v1 0 (sV d 17 (nI (max f (a + mxA tx ln a 26 3)))) Q
    | Sum.inr w => ∀ d', FrN d d' → Rm d' tx ln (a + wl w) → mv d' 17 = nI (a + wl w) → mv d' 16 = mv d 16 → mv d' 18 = mv d 18 → mv d' 19 = nI (w - 25) → h225_106 v1 0 d' Q) : h225_48 v1 1 d Q := by
  have key := lp_up (fun i => (∀ z, z < i → full tx ln (26 + z) a = false) → h225_48 v1 (nI (1 + i)) (sV d 17 (nI (max f (a + mxA tx ln a 26 i)))) Q) 3 ?_ ?_ 0 (Nat.zero_le _)
  · have key := key (fun z hz => by omega)
    rw [show max f (a + mxA tx ln a 26 0) = f from Nat.max_eq_left hf8.1, sV_id d 17 hf] at key
    exact key
  · intro h0
    rw [RW_no h0] at hQ
    have e19 : ax_row (sV d 17 (nI (max f (a + mxA tx ln a 26 3)))) 9 0 0 19 = 0 := (mv_sVn (by decide) d _).trans h19
    refine w225_48 _ _ ⟨fun _ => ⟨fun _ => hQ, fun g => absurd (by rw [e19]; decide) g⟩, fun g => absurd (by decide) g⟩
  · intro i hi ih h0
    have m8 := mxA_b (tx := tx) ha 26 i
    have e19 : ∀ x, ax_row (sV d 17 x) 9 0 0 19 = 0 := fun x => (mv_sVn (by decide) d x).trans h19
    refine w225_48 _ _ ⟨fun g => absurd g (by rw [Int32.not_lt]; exact nI_le (b := 3) (by omega) (by omega)), fun _ => ⟨fun _ => (m_adjOf (k := 1 + i) ⟨by omega, by omega⟩ _ _).mpr ?_, fun g => absurd (e19 _) g⟩⟩
    rw [show 25 + (1 + i) = 26 + i by omega]
    refine (m_stands (sc17 h _) hl ha (mv_sV d 17 _) (by omega) (by omega) _).mpr ?_
    rw [sV_sV, show max (max f (a + mxA tx ln a 26 i)) (a + agr tx ln (26 + i) a) = max f (a + mxA tx ln a 26 (i + 1)) by show _ = max f (a + max (mxA tx ln a 26 i) (agr tx ln (26 + i) a)); omega]
    cases hc : full tx ln (26 + i) a with
    | false =>
      refine ⟨fun _ d8 e8 => ?_, fun g => absurd rfl g⟩
      have q8 : d8 = sV d 17 (nI (max f (a + mxA tx ln a 26 (i + 1)))) := e8.trans (sV_id (sV d 17 (nI (max f (a + mxA tx ln a 26 (i + 1))))) 19 (e19 _))
      rw [q8, show nI (1 + i) + 1 = nI (1 + (i + 1)) from nI_add (1 + i) 1]
      refine ih (fun z hz => ?_)
      by_cases e : z = i
      · rw [e]; exact hc
      · exact h0 z (by omega)
    | true =>
      rw [RW_first hi h0 hc] at hQ
      have hQ : ∀ d', FrN d d' → Rm d' tx ln (a + wl (26 + i)) → mv d' 17 = nI (a + wl (26 + i)) → mv d' 16 = mv d 16 → mv d' 18 = mv d 18 → mv d' 19 = nI (26 + i - 25) → h225_106 v1 0 d' Q := hQ
      refine ⟨fun g => absurd g (by decide), fun _ d9 e9 => ?_⟩
      have q9 : d9 = sV (sV d 17 (nI (max f (a + mxA tx ln a 26 (i + 1))))) 19 (nI (1 + i)) := e9
      have F : FrN d d9 := by rw [q9]; exact FrN_trans (FrN_sV d (by omega) _) (FrN_sV _ (by omega) _)
      have R : Rm d9 tx ln a := by rw [q9]; exact Rm_sV (sc17 h _) (by decide) (by decide) _
      have x19 : ax_row d9 9 0 0 19 = nI (1 + i) := by rw [q9]; exact mv_sV _ _ _
      have x16 : mv d9 16 = mv d 16 := by rw [q9, mv_sVn (by decide), mv_sVn (by decide)]
      have x18 : mv d9 18 = mv d 18 := by rw [q9, mv_sVn (by decide), mv_sVn (by decide)]
      have last : CT 207 [Sum.inl (ax_row d9 9 0 0 19)] d9 (kR (fun x2 d1 => CT 220 [ax_vR 9 0 0, ax_vR 13 x2 0] d1 (kV (fun d3 => h225_106 v1 0 d3 Q) (fun E d => Q d (Sum.inr E)))) (fun E d => Q d (Sum.inr E))) := by
        rw [x19]
        refine (m_adjOf (k := 1 + i) ⟨by omega, by omega⟩ _ _).mpr ?_
        rw [show 25 + (1 + i) = 26 + i by omega]
        refine m_goes R (by omega) _ (fun d' f' r' y17 y16 y18 y19 => ?_)
        exact hQ d' (FrN_trans F f') r' y17 (y16.trans x16) (y18.trans x18) (y19.trans (by rw [show 26 + i - 25 = 1 + i by omega]; exact x19))
      have ne : ¬ ax_row d9 9 0 0 19 = 0 := by rw [x19]; exact fun z => absurd ((nI_eq (by omega) (by omega)).mp (show nI (1 + i) = nI 0 from z)) (by omega)
      have nl : ¬ ax_row d9 9 0 0 19 ≤ 0 := by rw [x19]; exact nI_ge (a := 0) (by omega) (by omega)
      exact w225_48 _ _ ⟨fun _ => ⟨fun g => absurd g nl, fun _ => last⟩, fun _ => ⟨fun g => absurd g ne, fun _ => ⟨fun g => absurd g nl, fun _ => last⟩⟩⟩
theorem m_phE (h : Rm d tx ln a) (hl : ln ≤ 80) (ha : a ≤ ln) {f : Nat} (hf : mv d 17 = nI f) (hf8 : a ≤ f ∧ f ≤ 80) (h16 : mv d 16 = 1) (h18 : mv d 18 = -1) (h19 : mv d 19 = 0) (all : Bool) (v1 : Int32) (h29 : all = true → full tx ln 29 a = false)
    (hm : max f (a + mxA tx ln a 18 11) = a + mxA tx ln a 18 (cond all 12 11)) (Q : ax_P) (hQ : MPQ d tx ln (PH tx ln all a) Q) : h225_48 v1 1 d Q := by
  refine m_adjs h hl ha hf hf8 h19 v1 Q ?_
  have e11 : mxA tx ln a 18 11 = max (mxA tx ln a 18 8) (mxA tx ln a 26 3) := mxA_add a 18 8 3
  unfold PH at hQ
  cases hr : RW tx ln 18 (cond all 12 11) a with
  | inl g =>
    simp only [hr] at hQ
    obtain ⟨eg, h0⟩ := RW_f hr
    have n12 : 11 ≤ cond all 12 11 := by cases all <;> decide
    rw [RW_no (lo := 26) (n := 3) (fun i hi => by have := h0 (8 + i) (by omega); rw [show 18 + (8 + i) = 26 + i by omega] at this; exact this)]
    have m8 := mxA_b (tx := tx) ha 26 3
    refine m_nouns (sc17 h _) hl ha (mv_sV d 17 _) (by omega) ((mv_sVn (by decide) d _).trans h18) v1 Q ?_
    rw [RW_no (lo := 18) (n := 8) (fun i hi => h0 i (by omega))]
    intro d' f' r' y16
    refine hQ d' (FrN_trans (FrN_sV d (by omega) _) f') ?_ y16
    rw [show max (max f (a + mxA tx ln a 26 3)) (a + mxA tx ln a 18 8) = g by rw [eg, ← hm, e11]; omega] at r'
    exact r'
  | inr w =>
    simp only [hr] at hQ
    obtain ⟨k1, k2, k3⟩ := RW_lt hr
    have hb := full_ln ha k3
    have k2 : w < 30 := Nat.lt_of_lt_of_le k2 (by cases all <;> decide)
    have e29 : w ≠ 29 := by
      intro e
      cases all with
      | true => rw [e, h29 rfl] at k3; cases k3
      | false =>
        have := (RW_lt hr).2.1
        rw [e] at this
        exact absurd this (by decide)
    rw [if_neg e29] at hQ
    by_cases e26 : w < 26
    · rw [if_pos e26] at hQ
      rw [RW_no (lo := 26) (n := 3) (fun i hi => by
        cases hc : full tx ln (26 + i) a with
        | false => rfl
        | true => exact absurd (full_1n ⟨by omega, by omega⟩ ⟨by omega, by omega⟩ k3 hc) (by omega))]
      have m8 := mxA_b (tx := tx) ha 26 3
      refine m_nouns (sc17 h _) hl ha (mv_sV d 17 _) (by omega) ((mv_sVn (by decide) d _).trans h18) v1 Q ?_
      rw [RW_yes (lo := 18) (n := 8) (w := w) ⟨by omega, by omega⟩ k3 (fun i hi hc => full_1n ⟨by omega, by omega⟩ ⟨by omega, by omega⟩ hc k3)]
      intro d' f' r' y16 y18 y19
      refine hQ d' (FrN_trans (FrN_sV d (by omega) _) f') r' (y16.trans ((mv_sVn (by decide) d _).trans h16)) ⟨fun e => by omega, fun _ => ⟨?_, ?_⟩⟩
      · rw [y18, show (w - 18) % 8 = w - 18 by omega]
      · rw [y19, mv_sVn (by decide), h19, show (w - 18) / 8 = 0 by omega]
        rfl
    · rw [if_neg e26] at hQ
      have e4 : wl w = 4 := by
        rcases (by omega : w = 26 ∨ w = 27 ∨ w = 28) with q | q | q <;> rw [q] <;> rfl
      rw [RW_yes (lo := 26) (n := 3) (w := w) ⟨by omega, by omega⟩ k3 (fun i hi hc => full_1n ⟨by omega, by omega⟩ ⟨by omega, by omega⟩ hc k3)]
      intro d1 f1 r1 y17 y16 y18 y19
      rw [e4] at r1 y17 hb
      refine m_nouns r1 hl hb y17 ⟨Nat.le_refl _, by omega⟩ (y18.trans h18) v1 Q ?_
      cases hu : RW tx ln 18 8 (a + 4) with
      | inl g =>
        simp only [hu] at hQ
        intro d2 f2 r2 z16
        refine hQ d2 (FrN_trans f1 f2) ?_ z16
        rw [(RW_f hu).1]
        rw [show max (a + 4) (a + 4 + mxA tx ln (a + 4) 18 8) = a + 4 + mxA tx ln (a + 4) 18 8 by omega] at r2
        exact r2
      | inr u =>
        simp only [hu] at hQ
        obtain ⟨m1, m2, -⟩ := RW_lt hu
        intro d2 f2 r2 z16 z18 z19
        refine hQ d2 (FrN_trans f1 f2) r2 (z16.trans (y16.trans h16)) ⟨fun e => by omega, fun _ => ⟨?_, ?_⟩⟩
        · rw [z18, show (8 * (w - 25) + (u - 18)) % 8 = u - 18 by omega]
        · rw [z19, y19, show (8 * (w - 25) + (u - 18)) / 8 = w - 25 by omega]
theorem m_phrase (h : Rm d tx ln a) (hl : ln ≤ 80) (ha : a ≤ ln) (h16 : mv d 16 = 1) (all : Bool) (Q : ax_P) (hQ : MPQ d tx ln (PH tx ln all a) Q) : CT 225 [ax_vR 9 0 0, Sum.inl (b2i all)] d Q := by
  refine w225 _ (fun d1 e1 d2 e2 => ?_)
  have q2 : d2 = sV (sV d 18 (-1)) 19 0 := by rw [e2, e1]; rfl
  have R2 : Rm d2 tx ln a := by rw [q2]; exact Rm_sV (Rm_sV h (by decide) (by decide) _) (by decide) (by decide) _
  have F2 : FrN d d2 := by rw [q2]; exact FrN_trans (FrN_sV d (by omega) _) (FrN_sV _ (by omega) _)
  have x16 : ax_row d2 9 0 0 16 = 1 := by rw [q2]; exact (mv_sVn (by decide) _ _).trans ((mv_sVn (by decide) _ _).trans h16)
  refine ⟨fun g => absurd (x16.symm.trans g) (by decide), fun _ d3 e3 => ?_⟩
  have q3 : d3 = sV d2 17 (nI a) := by rw [e3, show ax_row d2 9 0 0 15 = nI a from R2.2.2]; rfl
  have R3 : Rm d3 tx ln a := by rw [q3]; exact sc17 R2 _
  have F3 : FrN d d3 := FrN_trans F2 (by rw [q3]; exact FrN_sV d2 (by omega) _)
  have y16 : mv d3 16 = 1 := by rw [q3]; exact (mv_sVn (by decide) _ _).trans x16
  have y17 : mv d3 17 = nI a := by rw [q3]; exact mv_sV _ _ _
  have y18 : mv d3 18 = -1 := by rw [q3, mv_sVn (by decide), q2, mv_sVn (by decide), mv_sV]
  have y19 : mv d3 19 = 0 := by rw [q3, mv_sVn (by decide), q2, mv_sV]
  cases all with
  | false =>
    refine ⟨fun _ => ?_, fun g => absurd rfl g⟩
    exact m_phE R3 hl ha y17 ⟨Nat.le_refl _, by omega⟩ y16 y18 y19 false _ (fun e => by cases e) (by show max a (a + mxA tx ln a 18 11) = a + mxA tx ln a 18 11; omega) Q (MPQ_Fr F3 hQ)
  | true =>
    refine ⟨fun g => absurd g (by decide), fun _ => ?_⟩
    refine (m_stands R3 hl ha y17 (by omega) (by omega) _).mpr ?_
    have m8 := (agr_b (tx := tx) (w := 29) ha).2
    cases hc : full tx ln 29 a with
    | false =>
      refine ⟨fun _ => ?_, fun g => absurd rfl g⟩
      refine m_phE (sc17 R3 _) hl ha (mv_sV _ _ _) (by omega) ((mv_sVn (by decide) _ _).trans y16) ((mv_sVn (by decide) _ _).trans y18) ((mv_sVn (by decide) _ _).trans y19) true _ (fun _ => hc) ?_ Q (MPQ_Fr (FrN_trans F3 (FrN_sV d3 (by omega) _)) hQ)
      show max (max a (a + agr tx ln 29 a)) (a + mxA tx ln a 18 11) = a + max (mxA tx ln a 18 11) (agr tx ln 29 a)
      omega
    | true =>
      refine ⟨fun g => absurd g (by decide), fun _ => ?_⟩
      refine m_goes (sc17 R3 _) (by omega) _ (fun d' f' r' _ z16 z18 z19 => ?_)
      unfold PH at hQ
      rw [RW_yes (lo := 18) (n := cond true 12 11) (w := 29) ⟨by omega, by decide⟩ hc (fun i hi hd => full_1n ⟨by omega, by have : i < 12 := hi; omega⟩ ⟨by omega, by omega⟩ hd hc)] at hQ
      have hQ : ∀ d', FrN d d' → Rm d' tx ln (a + 3) → mv d' 16 = 1 → PhV d' 63 → Q d' (Sum.inl none) := hQ
      refine hQ d' (FrN_trans F3 (FrN_trans (FrN_sV d3 (by omega) _) f')) r' (z16.trans ((mv_sVn (by decide) _ _).trans y16)) ⟨fun _ => ⟨z18.trans ((mv_sVn (by decide) _ _).trans y18), z19.trans ((mv_sVn (by decide) _ _).trans y19)⟩, fun e => absurd e (by decide)⟩
/-- behind a fault nothing more is read -/
theorem m_phrase0 (h : Rm d tx ln a) (h16 : mv d 16 = 0) (p : Int32) (Q : ax_P) (hQ : ∀ d', FrN d d' → Rm d' tx ln a → mv d' 16 = 0 → Q d' (Sum.inl none)) : CT 225 [ax_vR 9 0 0, Sum.inl p] d Q := by
  refine w225 _ (fun d1 e1 d2 e2 => ?_)
  have q2 : d2 = sV (sV d 18 (-1)) 19 0 := by rw [e2, e1]; rfl
  have x16 : ax_row d2 9 0 0 16 = 0 := by rw [q2]; exact (mv_sVn (by decide) _ _).trans ((mv_sVn (by decide) _ _).trans h16)
  refine ⟨fun _ => hQ d2 ?_ ?_ x16, fun g => absurd x16 g⟩
  · rw [q2]; exact FrN_trans (FrN_sV d (by omega) _) (FrN_sV _ (by omega) _)
  · rw [q2]; exact Rm_sV (Rm_sV h (by decide) (by decide) _) (by decide) (by decide) _
theorem RW1 (w : Nat) : RW tx ln w 1 a = cond (full tx ln w a) (Sum.inr w) (Sum.inl (a + agr tx ln w a)) := by
  cases hc : full tx ln w a with
  | true => exact RW_yes (lo := w) (n := 1) ⟨by omega, by omega⟩ hc (fun i hi _ => by omega)
  | false =>
    rw [RW_no (fun i hi => by rw [show i = 0 by omega]; exact hc)]
    show Sum.inl (a + max 0 (agr tx ln w a)) = Sum.inl (a + agr tx ln w a)
    rw [Nat.max_eq_right (Nat.zero_le _)]
theorem m_must (h : Rm d tx ln a) (hl : ln ≤ 80) (ha : a ≤ ln) (h16 : mv d 16 = 1) {w : Nat} (hw : w < 34) (Q : ax_P) (hQ : match RW tx ln w 1 a with
    | Sum.inl g => ∀ d', FrN d d' → Rm d' tx ln g → mv d' 16 = 0 → Q d' (Sum.inl none)
    | Sum.inr _ => ∀ d', FrN d d' → Rm d' tx ln (a + wl w) → mv d' 16 = 1 → Q d' (Sum.inl none)) : CT 223 [ax_vR 9 0 0, ax_vR 13 w 0] d Q := by
  refine w223 _ ⟨fun g => absurd (h16.symm.trans g) (by decide), fun _ d1 e1 => ?_⟩
  have q1 : d1 = sV d 17 (nI a) := by rw [e1, show ax_row d 9 0 0 15 = nI a from h.2.2]; rfl
  rw [q1]
  refine (m_stands (sc17 h _) hl ha (mv_sV _ _ _) (by omega) hw _).mpr ?_
  rw [sV_sV, show max a (a + agr tx ln w a) = a + agr tx ln w a by omega]
  rw [RW1] at hQ
  cases hc : full tx ln w a with
  | false =>
    rw [hc] at hQ
    refine ⟨fun _ => ?_, fun g => absurd rfl g⟩
    exact m_lacks (sc17 h _) (mv_sV _ _ _) _ (fun d' f' r' y16 _ _ => hQ d' (FrN_trans (FrN_sV d (by omega) _) f') r' y16)
  | true =>
    rw [hc] at hQ
    refine ⟨fun g => absurd g (by decide), fun _ => ?_⟩
    exact m_goes (sc17 h _) hw _ (fun d' f' r' _ y16 _ _ => hQ d' (FrN_trans (FrN_sV d (by omega) _) f') r' (y16.trans ((mv_sVn (by decide) _ _).trans h16)))
theorem m_must0 (h16 : mv d 16 = 0) (w : Nat) (Q : ax_P) (hQ : Q d (Sum.inl none)) : CT 223 [ax_vR 9 0 0, ax_vR 13 w 0] d Q := w223 _ ⟨fun _ => hQ, fun g => absurd h16 g⟩
end MP
