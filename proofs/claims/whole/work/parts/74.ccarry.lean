/-! commands carried out, on the class's side -/
/-- the record of turns -/
def TO : List Cd → Row → Row → Row
  | [], _, T => T
  | c :: l, s, T => match actS s (cmT c) with
    | Sum.inl _ => T
    | Sum.inr s' => if c.1 = 6 then TO l s' T else TO l (passS s') (recT T (passS s' 4) (cdT c))
def SX : Nat → Nat → Prop := fun k i => (k = 7 ∧ (i = 0 ∨ (4 ≤ i ∧ i ≤ 14))) ∨ (k = 0 ∧ i = 0) ∨ (k = 2 ∧ i = 0) ∨ (k = 6 ∧ i = 0) ∨ (k = 8 ∧ i = 0)
def refR (R : Row) (w x : Int32) (n : Nat) : Row := if w = 0 then R else upd (upd (upd R 8 w) 9 x) 10 (nI n)
def KQ (d : ax_D) (r : Row × List Row × Nat × (Int32 × Int32)) (T : Row) (Q : ax_P) : Prop := ∀ d' f', Fr SX d d' → CC d' 0 r.1 → cHist d' f' r.2.1 → ax_row d' 6 0 4 = T → ax_row d' 8 0 0 = refR (ax_row d 8 0 0) r.2.2.2.1 r.2.2.2.2 r.2.2.1 → Q d' (Sum.inl (some (Sum.inl (nI r.2.2.1))))
section KC
theorem hist_Fr {d d' : ax_D} {f : Nat} {H : List Row} {S : Nat → Nat → Prop} (h : cHist d f H) (fr : Fr S d d') (h2 : ¬ S 2 0) (h7 : ∀ i, i < H.length → ¬ S 7 (4 + (f + i) % 11)) : cHist d' f H := by
  obtain ⟨k1, k2, k3, k4, k5⟩ := h
  refine ⟨by rw [Fr_row fr h2 0]; exact k1, k2, k3, by rw [Fr_row fr h2 0]; exact k4, fun i s hi => ?_⟩
  have hl : i < H.length := by
    rcases Nat.lt_or_ge i H.length with q | q
    · exact q
    · rw [List.getElem?_eq_none q] at hi; cases hi
  exact Cw_Fr fr (h7 i hl) (k5 i s hi)
theorem c_carry : ∀ (l : List Cd) (i f : Nat) (d : ax_D) (s : Row) (H : List Row) (Q : ax_P), CC d 0 s → s 3 = 1 → load s ≤ 20 → ax_row d 4 0 0 3 = nI (i + l.length) → i + l.length ≤ 20 → (∀ j c, l[j]? = some c → ax_row d 4 0 3 (i + j) = cdT c ∧ VOkT c) → cHist d f H → KQ d (CO l s H i) (TO l s (ax_row d 6 0 4)) Q → h112_46 (nI i) d Q := by
  intro l
  induction l with
  | nil =>
    intro i f d s H Q hC hp hL h3 h20 he hh hQ
    have h3 : ax_row d 4 0 0 3 = nI i := h3
    refine w112_46 _ ⟨fun _ => ?_, fun g => absurd (by rw [h3]; exact nI_le (Nat.le_refl _) (by have : i + 0 ≤ 20 := h20; omega)) g⟩
    rw [h3]
    exact hQ d f (Fr_refl d) hC hh rfl rfl
  | cons c l ih =>
    intro i f d s H Q hC hp hL h3 h20 he hh hQ
    rw [List.length_cons] at h3 h20
    obtain ⟨hcode, hv⟩ := he 0 c rfl
    rw [Nat.add_zero] at hcode
    have hx2 := hh.2.1
    refine w112_46 _ ⟨fun g => absurd g (by rw [h3]; exact nI_ge (by omega) (by omega)), fun _ => ⟨ax_in_nI (by omega) (by omega), ?_⟩⟩
    rw [nI_clamp (by omega), hcode]
    refine c_prep hh hC.2.2 hC.2.1 _ (fun d1 f1 x1 => ?_)
    have hmod := Nat.mod_lt (f + H.length) (show 0 < 11 by decide)
    have fx1 : Fr SX d d1 := Fr_mono f1 (fun k j z => Or.inl ⟨z.1, Or.inr ⟨by rw [z.2]; omega, by rw [z.2]; omega⟩⟩)
    have c1 : CC d1 0 s := ⟨Cp_Fr f1 (fun z => by cases z.1) hC.1, Cw_Fr f1 (fun z => by have := z.2; omega) hC.2.1, hC.2.2⟩
    have hh1 : cHist d1 f H := hist_Fr hh f1 (fun z => by cases z.1) (fun j hj z => by have := z.2; omega)
    have hga := GA_act hC.2.2 hp hL (cmd_ok hv).2
    refine c_act (a := 0) c1 hp hL hv _ ?_
    have hQ : KQ d (match actS s (cmT c) with
      | Sum.inl w => (s, H, i, w)
      | Sum.inr s' => if c.1 = 6 then CO l s' H (i + 1) else CO l (passS s') (keepH H s) (i + 1)) (match actS s (cmT c) with
      | Sum.inl _ => ax_row d 6 0 4
      | Sum.inr s' => if c.1 = 6 then TO l s' (ax_row d 6 0 4) else TO l (passS s') (recT (ax_row d 6 0 4) (passS s' 4) (cdT c))) Q := hQ
    have hga : GA s (actS s (cmT c)) := hga
    show ActQ 0 d1 s c.1 (actS s (cmT c)) _
    have nA : ∀ j, ¬ sA 0 7 (4 + (f + j) % 11) := fun j z => by
      rcases z with z | z
      · have : 4 + (f + j) % 11 = 0 := z.2
        omega
      · cases z.1
    have A_X : ∀ k j, sA 0 k j → SX k j := fun k j z => by
      rcases z with z | z
      · exact Or.inl ⟨z.1, Or.inl z.2⟩
      · exact Or.inr (Or.inl z)
    have n2A : ¬ sA 0 2 0 := fun z => by rcases z with z | z <;> cases z.1
    cases hr : actS s (cmT c) with
    | inl w =>
      obtain ⟨w, x⟩ := w
      rw [hr] at hQ hga
      have hQ : KQ d (s, H, i, (w, x)) (ax_row d 6 0 4) Q := hQ
      have hw : ¬ w = 0 := hga
      intro d2 f2 cc2 g4 g5
      refine ⟨fun _ d4 e4 d5 e5 d6 e6 => ?_, fun g => absurd rfl g⟩
      have s8 : ∀ (a b : ax_D) (R : Row), b = ax_set a 8 0 0 R → Fr (fun k i => k = 8 ∧ i = 0) a b := fun a b R e => by rw [e]; exact Fr_set (by decide) ⟨rfl, rfl⟩ a 0 R
      have k4 := s8 _ _ _ e4
      have k5 := s8 _ _ _ e5
      have k6 := s8 _ _ _ e6
      have k26 : Fr (fun k i => k = 8 ∧ i = 0) d2 d6 := Fr_trans k4 (Fr_trans k5 k6)
      have a5 : ax_row d4 0 0 0 5 = x := by rw [Fr_row k4 (fun z => by cases z.1) 0]; exact g5
      have f12 := Fr_mono f2 A_X
      have F : Fr SX d d6 := Fr_trans fx1 (Fr_trans f12 (Fr_mono k26 (fun k j z => Or.inr (Or.inr (Or.inr (Or.inr z))))))
      have r8 : ax_row d2 8 0 0 = ax_row d 8 0 0 := by rw [Fr_row f2 (fun z => by rcases z with z | z <;> cases z.1) 0, Fr_row f1 (fun z => by cases z.1) 0]
      refine hQ d6 f F ⟨Cp_Fr k26 (fun z => by cases z.1) cc2.1, Cw_Fr k26 (fun z => by cases z.1) cc2.2.1, cc2.2.2⟩ ?_ ?_ ?_
      · exact hist_Fr (hist_Fr hh1 f2 n2A (fun j _ => nA j)) k26 (fun z => by cases z.1) (fun _ _ z => by cases z.1)
      · rw [Fr_row k26 (fun z => by cases z.1) 4, Fr_row f2 (fun z => by rcases z with z | z <;> cases z.1) 4, Fr_row f1 (fun z => by cases z.1) 4]
      · show _ = refR (ax_row d 8 0 0) w x i
        unfold refR
        rw [if_neg hw, e6, row_s, e5, row_s, e4, row_s, ← r8]
        rw [e4] at a5
        rw [a5, g4]
    | inr s' =>
      rw [hr] at hQ hga
      have hga : Gd s s' ∧ load s' ≤ 20 := hga
      have hQ : KQ d (if c.1 = 6 then CO l s' H (i + 1) else CO l (passS s') (keepH H s) (i + 1)) (if c.1 = 6 then TO l s' (ax_row d 6 0 4) else TO l (passS s') (recT (ax_row d 6 0 4) (passS s' 4) (cdT c))) Q := hQ
      intro d2 f2 cc2 _ _
      have hi1 : nI i + 1 = nI (i + 1) := nI_add i 1
      have f12 : Fr SX d d2 := Fr_trans fx1 (Fr_mono f2 A_X)
      have hh2 : cHist d2 f H := hist_Fr hh1 f2 n2A (fun j _ => nA j)
      have gp := GL_pass hga.1.1 hga.1.2.2
      have cc2 : CC d2 0 (cond (decide (c.1 = 6)) s' (passS s')) := cc2
      have r6 : ax_row d2 6 0 4 = ax_row d 6 0 4 := by rw [Fr_row f2 (fun z => by rcases z with z | z <;> cases z.1) 4, Fr_row f1 (fun z => by cases z.1) 4]
      have r8 : ax_row d2 8 0 0 = ax_row d 8 0 0 := by rw [Fr_row f2 (fun z => by rcases z with z | z <;> cases z.1) 0, Fr_row f1 (fun z => by cases z.1) 0]
      -- the rest of the list
      have rest : ∀ d4 f4 s4 H4 T4, Fr SX d d4 → ax_row d4 8 0 0 = ax_row d 8 0 0 → ax_row d4 6 0 4 = T4 → CC d4 0 s4 → s4 3 = 1 → load s4 ≤ 20 → cHist d4 f4 H4 → KQ d (CO l s4 H4 (i + 1)) (TO l s4 T4) Q → h112_46 (nI i + 1) d4 Q := by
        intro d4 f4 s4 H4 T4 k1 k2 k3 k4 k5 k6 k7 k8
        rw [hi1]
        have r4 : ∀ j, ax_row d4 4 0 j = ax_row d 4 0 j := fun j => Fr_row k1 (fun z => by
          rcases z with z | z | z | z | z <;> cases z.1) j
        refine ih (i + 1) f4 d4 s4 H4 Q k4 k5 k6 ?_ (by omega) (fun j c' hj => ?_) k7 ?_
        · rw [r4 0, h3, show i + 1 + l.length = i + (l.length + 1) by omega]
        · have := he (j + 1) c' hj
          rw [show i + 1 + j = i + (j + 1) by omega, r4 3]
          exact this
        · rw [k3]
          intro d' f' g1 g2 g3 g4 g5
          exact k8 d' f' (Fr_trans k1 g1) g2 g3 g4 (by rw [g5, k2])
      refine ⟨fun g => absurd g (by decide), fun _ => ?_⟩
      have hvv := hv
      obtain ⟨v1, v2, v3, v4, v5, v6⟩ := hvv
      refine c_isTurn (by omega) (by omega) (by omega) v5 d2 _ ⟨fun g => ?_, fun g => ?_⟩
      · have e6 : c.1 = 6 := by
          by_cases e6 : c.1 = 6
          · exact e6
          · rw [decide_eq_false e6] at g; cases g
        rw [if_pos e6, if_pos e6] at hQ
        rw [decide_eq_true e6] at cc2
        exact rest d2 f s' H _ f12 r8 r6 cc2 hga.1.2.2 hga.2 hh2 hQ
      · have e6 : ¬ c.1 = 6 := fun e6 => by rw [decide_eq_true e6] at g; exact g rfl
        rw [if_neg e6, if_neg e6] at hQ
        rw [decide_eq_false e6] at cc2
        have cc2 : CC d2 0 (passS s') := cc2
        refine c_keep (s := s) hh2 (Cw_Fr f2 (nA H.length) x1) _ (fun d9 f9 k9 hh9 => ?_)
        have cc9 : CC d9 0 (passS s') := ⟨Cp_Fr k9 (fun z => by cases z.1) cc2.1, Cw_Fr k9 (fun z => by cases z.1) cc2.2.1, cc2.2.2⟩
        refine c_recd cc9.2.1.2.1.2.2 (cdT c) _ (fun d10 k10 t10 => ?_)
        refine rest d10 f9 (passS s') (keepH H s) _ (Fr_trans f12 (Fr_trans (Fr_mono k9 (fun k j z => Or.inr (Or.inr (Or.inl z)))) (Fr_mono k10 (fun k j z => Or.inr (Or.inr (Or.inr (Or.inl z))))))) ?_ t10 ⟨Cp_Fr k10 (fun z => by cases z.1) cc9.1, Cw_Fr k10 (fun z => by cases z.1) cc9.2.1, cc9.2.2⟩ gp.1.2.2 (Nat.le_trans gp.2 hga.2) (hist_Fr hh9 k10 (fun z => by cases z.1) (fun _ _ z => by cases z.1)) ?_
        · rw [Fr_row k10 (fun z => by cases z.1) 0, Fr_row k9 (fun z => by cases z.1) 0, r8]
        · rw [Fr_row k9 (fun z => by cases z.1) 4, r6]
          exact hQ
end KC
