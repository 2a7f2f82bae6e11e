/-! the check's reader: the parts of a command -/
/-- what the check's lists hold at c of a command -/
def Ent (d : ax_D) (c : Nat) (k : Cmd) : Prop := mr d 21 c = k.1 ∧ (k.1 = 2 → mr d 22 c = k.2.1) ∧ (inB k.1 3 12 = true → mr d 22 c = k.2.1 ∧ mr d 23 c = k.2.2.1) ∧ (inB k.1 9 12 = true → mr d 24 c = k.2.2.2.1 ∧ mr d 25 c = k.2.2.2.2)
def cmT (c : Cd) : Cmd := cmdC c.1 c.2.1 c.2.2.1 c.2.2.2
section EN
variable {d : ax_D} {c : Nat}
theorem ent_dir {v x y p : Nat} (hv : v < 6) (h1 : mr d 21 c = 2) (h2 : mr d 22 c = nI v) : Ent d c (cmT (v, x, y, p)) := by
  unfold cmT cmdC
  simp only [if_pos hv]
  exact ⟨h1, fun _ => h2, fun e => absurd (show inB 2 3 12 = true from e) (by decide), fun e => absurd (show inB 2 9 12 = true from e) (by decide)⟩
theorem ent_lo {k : Cmd} {v : Int32} (hk : k.1 = v) (h1 : mr d 21 c = v) (hv : v = 0 ∨ v = 1 ∨ v = 13 ∨ v = 14) : Ent d c k := by
  refine ⟨h1.trans hk.symm, fun e => ?_, fun e => ?_, fun e => ?_⟩ <;> (rw [hk] at e; rcases hv with q | q | q | q <;> rw [q] at e <;> exact absurd e (by decide))
theorem ent_0 {x y p : Nat} (h1 : mr d 21 c = 0) : Ent d c (cmT (6, x, y, p)) := ent_lo rfl h1 (Or.inl rfl)
theorem ent_1 {x y p : Nat} (h1 : mr d 21 c = 1) : Ent d c (cmT (7, x, y, p)) := ent_lo rfl h1 (Or.inr (Or.inl rfl))
theorem ent_all {w y p : Nat} (hw : w = 9 ∨ w = 10) (h1 : mr d 21 c = nI (w + 4)) : Ent d c (cmT (w, 63, y, p)) := by
  rcases hw with e | e <;> subst e
  · exact ent_lo (v := 13) rfl h1 (Or.inr (Or.inr (Or.inl rfl)))
  · exact ent_lo (v := 14) rfl h1 (Or.inr (Or.inr (Or.inr rfl)))
theorem ent_one {w x y p : Nat} (hw : 9 ≤ w ∧ w < 15) (hx : x < 32) (h1 : mr d 21 c = nI (w - 6)) (h2 : mr d 22 c = nI (x % 8)) (h3 : mr d 23 c = nI (x / 8)) : Ent d c (cmT (w, x, y, p)) := by
  have e : cmT (w, x, y, p) = (nI (w - 6), nI (x % 8), nI (x / 8), 0, 0) := by
    unfold cmT cmdC
    simp only [if_neg (show ¬ w < 6 by omega), if_neg (show ¬ w = 6 by omega), if_neg (show ¬ w = 7 by omega), if_neg (show ¬ x = 63 by omega), if_pos hw.2]
  rw [e]
  refine ⟨h1, fun q => ?_, fun _ => ⟨h2, h3⟩, fun q => ?_⟩
  · have := (nI_eq (by omega) (by omega)).mp (show nI (w - 6) = nI 2 from q)
    omega
  · have q : inB (nI (w - 6)) 9 12 = true := q
    clear h1 e
    rcases (by omega : w = 9 ∨ w = 10 ∨ w = 11 ∨ w = 12 ∨ w = 13 ∨ w = 14) with e | e | e | e | e | e <;> subst e <;> exact absurd q (by decide)
theorem ent_two {w x y p : Nat} (hw : 15 ≤ w ∧ w < 18) (hx : x < 32) (hp : p = 1 ∨ p = 2) (h1 : mr d 21 c = nI (if w = 15 then 8 + p else w - 5)) (h2 : mr d 22 c = nI (x % 8)) (h3 : mr d 23 c = nI (x / 8)) (h4 : mr d 24 c = nI (y % 8)) (h5 : mr d 25 c = nI (y / 8)) : Ent d c (cmT (w, x, y, p)) := by
  have e : cmT (w, x, y, p) = (nI (if w = 15 then 8 + p else w - 5), nI (x % 8), nI (x / 8), nI (y % 8), nI (y / 8)) := by
    unfold cmT cmdC
    simp only [if_neg (show ¬ w < 6 by omega), if_neg (show ¬ w = 6 by omega), if_neg (show ¬ w = 7 by omega), if_neg (show ¬ x = 63 by omega), if_neg (show ¬ w < 15 by omega)]
    by_cases e : w = 15
    · rw [if_pos e, if_pos e]
    · rw [if_neg e, if_neg e]
  rw [e]
  have hb : 9 ≤ (if w = 15 then 8 + p else w - 5) ∧ (if w = 15 then 8 + p else w - 5) ≤ 12 := by
    by_cases e : w = 15
    · rw [if_pos e]; omega
    · rw [if_neg e]; omega
  refine ⟨h1, fun q => ?_, fun _ => ⟨h2, h3⟩, fun _ => ⟨h4, h5⟩⟩
  have := (nI_eq (by omega) (by omega)).mp (show nI (if w = 15 then 8 + p else w - 5) = nI 2 from q)
  omega
end EN
section M2
variable {d : ax_D} {tx : Row} {ln a : Nat}
theorem FrJ_s {S : Nat → Prop} {c : Nat} {e g : ax_D} (h : FrJ S c e g) {j : Nat} (hj : j ≠ 0) (hs : ¬ S j) : mr g j c = mr e j c := congrFun (h.2.2.1 j hj hs) c
theorem m_236f (h : Rm d tx ln a) (h16 : mv d 16 = 0) {c : Nat} (hc : c < 30) (v2 v3 : Int32) (Q : ax_P) (hQ : ∀ d', FrJ S124 c d d' → Rm d' tx ln a → mv d' 16 = 0 → Q d' (Sum.inl none)) : h231_236 (nI c) v2 v3 d Q := by
  have ci : ax_in (nI c) 30 = true := ax_in_nI hc (by omega)
  have cl : (nI c).toNatClampNeg = c := nI_clamp (by omega)
  have now := hQ d (FrJ_N (FrN_refl d)) h h16
  refine w231_236 _ _ _ ⟨fun _ => w227 _ ⟨fun _ => now, fun g => absurd h16 g⟩, fun _ => ⟨fun _ => now, fun _ => m_must0 h16 32 _ ?_⟩⟩
  rw [cl]
  refine ⟨ci, fun d3 e3 => ?_⟩
  have q3 : d3 = pu d 21 c (v2 + 1) := e3
  rw [q3]
  exact m_second0 (Rm_pu h (by decide) (by decide) c _) ((pu_v (by decide) d c _ 16).trans h16) hc _ (fun d' f' r' z16 => hQ d' (FrJ_trans (FrJ_pu (by decide) (Or.inl rfl) d c _) (FrJ_mono f' S24_124)) r' z16)
/-- what stands behind the first phrase -/
def TL (tx : Row) (ln w x a2 : Nat) : Nat ⊕ (Cd × Nat) := if w < 15 then Sum.inr ((w, x, 0, 0), a2)
        else (match RW tx ln (if w = 15 then 30 else 32) (if w = 15 then 2 else 1) a2 with
          | Sum.inl f => Sum.inl f
          | Sum.inr l => (match PH tx ln false (a2 + wl l) with
            | Sum.inl f => Sum.inl f
            | Sum.inr (y, a4) => Sum.inr ((w, x, y, if l = 30 then 1 else 2), a4)))
def MJ (S : Nat → Prop) (c : Nat) (d : ax_D) (tx : Row) (ln : Nat) (r : Nat ⊕ (Cd × Nat)) (Q : ax_P) : Prop := match r with
  | Sum.inl g => ∀ d', FrJ S c d d' → Rm d' tx ln g → mv d' 16 = 0 → Q d' (Sum.inl none)
  | Sum.inr (cm, b) => ∀ d', FrJ S c d d' → Rm d' tx ln b → mv d' 16 = 1 → Ent d' c (cmT cm) → Q d' (Sum.inl none)
theorem MJ_Fr {S : Nat → Prop} {c : Nat} {e : ax_D} {r : Nat ⊕ (Cd × Nat)} {Q : ax_P} (f : FrJ S c d e) (h : MJ S c d tx ln r Q) {S' : Nat → Prop} (hs : ∀ j, S' j → S j) : MJ S' c e tx ln r Q := by
  cases r with
  | inl x => exact fun d' f2 => h d' (FrJ_trans f (FrJ_mono f2 hs))
  | inr cb =>
    obtain ⟨c, b⟩ := cb
    exact fun d' f2 => h d' (FrJ_trans f (FrJ_mono f2 hs))
theorem m_236 (h : Rm d tx ln a) (hl : ln ≤ 80) (ha : a ≤ ln) (h16 : mv d 16 = 1) {c : Nat} (hc : c < 30) {w x : Nat} (hw : 9 ≤ w ∧ w < 18) (hx : x < 32) (h21 : mr d 21 c = nI (w - 6)) (h22 : mr d 22 c = nI (x % 8)) (h23 : mr d 23 c = nI (x / 8)) (v3 : Int32) (Q : ax_P) (hQ : MJ S124 c d tx ln (TL tx ln w x a) Q) : h231_236 (nI c) (nI (w - 6)) v3 d Q := by
  have ci : ax_in (nI c) 30 = true := ax_in_nI hc (by omega)
  have cl : (nI c).toNatClampNeg = c := nI_clamp (by omega)
  unfold TL at hQ
  have n22 : ¬ S124 22 := by unfold S124; omega
  have n23 : ¬ S124 23 := by unfold S124; omega
  refine w231_236 _ _ _ ⟨fun g => ?_, fun g => ⟨fun g2 => ?_, fun g2 => ?_⟩⟩
  · have g : w = 15 := by
      have := (nI_eq (by omega) (by omega)).mp (show nI (w - 6) = nI 9 from g)
      omega
    rw [if_neg (by omega), if_pos g, if_pos g] at hQ
    refine m_prep h hl ha h16 hc (by rw [h21, g]; rfl) _ ?_
    cases hr : RW tx ln 30 2 a with
    | inl f => simp only [hr] at hQ ⊢; exact hQ
    | inr l =>
      simp only [hr] at hQ ⊢
      cases hp : PH tx ln false (a + wl l) with
      | inl f => simp only [hp] at hQ ⊢; exact hQ
      | inr yb =>
        obtain ⟨y, b⟩ := yb
        simp only [hp] at hQ ⊢
        intro d' f' r' y16 y21 y24 y25
        refine hQ d' f' r' y16 (ent_two ⟨by omega, by omega⟩ hx ?_ ?_ ((FrJ_s f' (by decide) n22).trans h22) ((FrJ_s f' (by decide) n23).trans h23) y24 y25)
        · by_cases e : l = 30
          · rw [if_pos e]; exact Or.inl rfl
          · rw [if_neg e]; exact Or.inr rfl
        · rw [if_pos g]; exact y21
  · have g : w ≠ 15 := fun e => g (by rw [e]; rfl)
    have g2 : w < 15 := by
      rcases Nat.lt_or_ge 9 (w - 6) with q | q
      · exact absurd g2 (nI_ge (a := 9) q (by omega))
      · omega
    rw [if_pos g2] at hQ
    exact hQ d (FrJ_N (FrN_refl d)) h h16 (ent_one ⟨hw.1, g2⟩ hx h21 h22 h23)
  · have g2 : 16 ≤ w := by
      rcases Nat.lt_or_ge 9 (w - 6) with q | q
      · omega
      · exact absurd (nI_le (b := 9) q (by omega)) g2
    rw [if_neg (by omega), if_neg (by omega), if_neg (by omega)] at hQ
    refine m_must h hl ha h16 (w := 32) (by omega) _ ?_
    cases hr : RW tx ln 32 1 a with
    | inl f =>
      simp only [hr] at hQ ⊢
      intro d1 f1 r1 z16
      rw [cl]
      refine ⟨ci, fun d3 e3 => ?_⟩
      have q3 : d3 = pu d1 21 c (nI (w - 6) + 1) := e3
      rw [q3]
      exact m_second0 (Rm_pu r1 (by decide) (by decide) c _) ((pu_v (by decide) d1 c _ 16).trans z16) hc _ (fun d' f' r' y16 => hQ d' (FrJ_trans (FrJ_N f1) (FrJ_trans (FrJ_pu (by decide) (Or.inl rfl) d1 c _) (FrJ_mono f' S24_124))) r' y16)
    | inr l =>
      simp only [hr] at hQ ⊢
      obtain ⟨m1, m2, m3⟩ := RW_lt hr
      have el : l = 32 := by omega
      rw [el] at hQ m3
      have hb := full_ln ha m3
      intro d1 f1 r1 z16
      rw [cl]
      refine ⟨ci, fun d3 e3 => ?_⟩
      have q3 : d3 = pu d1 21 c (nI (w - 6) + 1) := e3
      rw [q3]
      have F3 : FrJ S124 c d (pu d1 21 c (nI (w - 6) + 1)) := FrJ_trans (FrJ_N f1) (FrJ_pu (by decide) (Or.inl rfl) d1 c _)
      refine m_second (Rm_pu r1 (by decide) (by decide) c _) hl hb ((pu_v (by decide) d1 c _ 16).trans z16) hc _ ?_
      cases hp : PH tx ln false (a + wl 32) with
      | inl f => simp only [hp] at hQ ⊢; exact fun d' f' r' y16 => hQ d' (FrJ_trans F3 (FrJ_mono f' S24_124)) r' y16
      | inr yb =>
        obtain ⟨y, b⟩ := yb
        simp only [hp] at hQ ⊢
        intro d' f' r' y16 y24 y25
        have F := FrJ_trans F3 (FrJ_mono f' S24_124)
        refine hQ d' F r' y16 (ent_two ⟨by omega, by omega⟩ hx (by rw [if_neg (by decide)]; exact Or.inr rfl) ?_ ((FrJ_s F (by decide) n22).trans h22) ((FrJ_s F (by decide) n23).trans h23) y24 y25)
        rw [FrJ_s f' (by decide) (by unfold S24; omega), pu_s, if_neg (by omega), show nI (w - 6) + 1 = nI (w - 6 + 1) from nI_add (w - 6) 1, show w - 6 + 1 = w - 5 by omega]
theorem m_190 (h : Rm d tx ln a) (hl : ln ≤ 80) (ha : a ≤ ln) (h16 : mv d 16 = 1) {c : Nat} (hc : c < 30) {w : Nat} (hw : 9 ≤ w ∧ w < 18) (h21 : mr d 21 c = nI (w - 6)) (v3 : Int32) (Q : ax_P) (hQ : MJ S21 c d tx ln (match PH tx ln (decide (w = 9) || decide (w = 10)) a with
      | Sum.inl f => Sum.inl f
      | Sum.inr (x, a2) => TL tx ln w x a2) Q) : h231_190 (nI c) (nI (w - 6)) v3 (b2i (decide (w = 9) || decide (w = 10))) d Q := by
  have ci : ax_in (nI c) 30 = true := ax_in_nI hc (by omega)
  have cl : (nI c).toNatClampNeg = c := nI_clamp (by omega)
  have s22 : S21 22 := by unfold S21; omega
  have s23 : S21 23 := by unfold S21; omega
  have s21 : S21 21 := by unfold S21; omega
  refine w231_190 _ _ _ _ (m_phrase h hl ha h16 _ _ ?_)
  rw [cl]
  cases hp : PH tx ln (decide (w = 9) || decide (w = 10)) a with
  | inl g =>
    simp only [hp] at hQ
    intro d1 f1 r1 z16
    refine ⟨ci, fun d2 e2 => ⟨ci, fun d3 e3 => ?_⟩⟩
    have q2 : d2 = pu d1 22 c (mv d1 18) := e2
    have q3 : d3 = pu d2 23 c (mv d2 19) := e3
    have F3 : FrJ S21 c d d3 := FrJ_trans (FrJ_N f1) (FrJ_trans (e := d2) (by rw [q2]; exact FrJ_pu (by decide) s22 d1 c _) (by rw [q3]; exact FrJ_pu (by decide) s23 d2 c _))
    have R3 : Rm d3 tx ln g := by rw [q3, q2]; exact Rm_pu (Rm_pu r1 (by decide) (by decide) c _) (by decide) (by decide) c _
    have y16 : mv d3 16 = 0 := by rw [q3, q2, pu_v (by decide), pu_v (by decide)]; exact z16
    have go : h231_236 (nI c) (nI (w - 6)) v3 d3 Q := m_236f R3 y16 hc _ _ Q (fun d' f' r' k16 => hQ d' (FrJ_trans F3 (FrJ_mono f' S124_21)) r' k16)
    refine ⟨fun _ => go, fun _ => ⟨fun _ => ⟨ci, fun d4 e4 => ?_⟩, fun _ => go⟩⟩
    have q4 : d4 = pu d3 21 c (nI (w - 6) + 10) := e4
    rw [q4]
    exact m_236f (Rm_pu R3 (by decide) (by decide) c _) ((pu_v (by decide) d3 c _ 16).trans y16) hc _ _ Q (fun d' f' r' k16 => hQ d' (FrJ_trans F3 (FrJ_trans (FrJ_pu (by decide) s21 d3 c _) (FrJ_mono f' S124_21))) r' k16)
  | inr xb =>
    obtain ⟨x, b⟩ := xb
    simp only [hp] at hQ
    obtain ⟨-, b2, hx⟩ := PH_b ha hp
    intro d1 f1 r1 z16 hv
    refine ⟨ci, fun d2 e2 => ⟨ci, fun d3 e3 => ?_⟩⟩
    have q2 : d2 = pu d1 22 c (mv d1 18) := e2
    have q3 : d3 = pu d2 23 c (mv d2 19) := e3
    have F3 : FrJ S21 c d d3 := FrJ_trans (FrJ_N f1) (FrJ_trans (e := d2) (by rw [q2]; exact FrJ_pu (by decide) s22 d1 c _) (by rw [q3]; exact FrJ_pu (by decide) s23 d2 c _))
    have R3 : Rm d3 tx ln b := by rw [q3, q2]; exact Rm_pu (Rm_pu r1 (by decide) (by decide) c _) (by decide) (by decide) c _
    have y16 : mv d3 16 = 1 := by rw [q3, q2, pu_v (by decide), pu_v (by decide)]; exact z16
    have y18 : mv d3 18 = mv d1 18 := by rw [q3, q2, pu_v (by decide), pu_v (by decide)]
    have t22 : mr d3 22 c = mv d1 18 := by rw [q3, pu_n (by decide), q2, pu_s]
    have t23 : mr d3 23 c = mv d1 19 := by rw [q3, pu_s, q2, pu_v (by decide)]
    have t21 : mr d3 21 c = nI (w - 6) := by rw [q3, pu_n (by decide), q2, pu_n (by decide), f1.2.2.1 21 (by decide)]; exact h21
    rcases hx with hx | ⟨hx, hall⟩
    · obtain ⟨v1, v2⟩ := hv.2 hx
      have go : h231_236 (nI c) (nI (w - 6)) v3 d3 Q := m_236 R3 hl b2 y16 hc hw hx t21 (t22.trans v1) (t23.trans v2) v3 Q (MJ_Fr F3 hQ S124_21)
      exact ⟨fun _ => go, fun _ => ⟨fun g => absurd ((y18.trans v1).symm.trans g) (nI_nm (by omega)), fun _ => go⟩⟩
    · have hw9 : w = 9 ∨ w = 10 := by
        rcases (Bool.or_eq_true _ _).mp hall with r | r
        · exact Or.inl (of_decide_eq_true r)
        · exact Or.inr (of_decide_eq_true r)
      have e18 : ax_row d3 9 0 0 18 = -1 := y18.trans (hv.1 hx).1
      refine ⟨fun g => absurd (show nI 5 ≤ nI (w - 6) from g) (nI_ge (by omega) (by omega)), fun _ => ⟨fun _ => ⟨ci, fun d4 e4 => ?_⟩, fun g => absurd e18 g⟩⟩
      have q4 : d4 = pu d3 21 c (nI (w - 6) + 10) := e4
      rw [q4]
      rw [hx, show TL tx ln w 63 b = Sum.inr ((w, 63, 0, 0), b) by unfold TL; rw [if_pos (by omega)]] at hQ
      refine w231_236 _ _ _ ⟨fun g => ?_, fun _ => ⟨fun _ => ?_, fun g => absurd (nI_le (a := w - 6) (b := 9) (by omega) (by omega)) g⟩⟩
      · have := (nI_eq (by omega) (by omega)).mp (show nI (w - 6) = nI 9 from g)
        omega
      · refine hQ _ (FrJ_trans F3 (FrJ_pu (by decide) s21 d3 c _)) (Rm_pu R3 (by decide) (by decide) c _) ((pu_v (by decide) d3 c _ 16).trans y16) (ent_all hw9 ?_)
        rw [pu_s, show nI (w - 6) + 10 = nI (w - 6 + 10) from nI_add (w - 6) 10, show w - 6 + 10 = w + 4 by omega]
end M2
