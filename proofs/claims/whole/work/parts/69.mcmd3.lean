/-! the check's reader: a whole command -/
def FrC (c : Nat) (d d' : ax_D) : Prop := d'.1 = d.1 ∧ d'.2.2 = d.2.2 ∧ (∀ j, j ≠ 0 → ¬ S21 j → mr d' j = mr d j) ∧ (∀ j k, j ≠ 0 → k ≠ c → mr d' j k = mr d j k) ∧ ∀ k, ¬ (15 ≤ k ∧ k ≤ 19) → k ≠ 25 → mv d' k = mv d k
theorem FrC_J {c : Nat} {d e g : ax_D} (h1 : FrC c d e) (h2 : FrJ S21 c e g) : FrC c d g := ⟨h2.1.trans h1.1, h2.2.1.trans h1.2.1, fun j hj hs => (h2.2.2.1 j hj hs).trans (h1.2.2.1 j hj hs), fun j k hj hk => (h2.2.2.2.1 j k hj hk).trans (h1.2.2.2.1 j k hj hk), fun k hk h25 => (h2.2.2.2.2 k hk).trans (h1.2.2.2.2 k hk h25)⟩
theorem FrC_refl (c : Nat) (d : ax_D) : FrC c d d := ⟨rfl, rfl, fun _ _ _ => rfl, fun _ _ _ _ => rfl, fun _ _ _ => rfl⟩
theorem FrC_N {c : Nat} {d e : ax_D} (h : FrN d e) : FrC c d e := FrC_J (FrC_refl c d) (FrJ_N h)
theorem FrC_25 {c : Nat} {d e : ax_D} (h : FrC c d e) (x : Int32) : FrC c d (sV e 25 x) := ⟨h.1, h.2.1, fun j hj hs => (mr_sV hj e 25 x).trans (h.2.2.1 j hj hs), fun j k hj hk => by rw [mr_sV hj e 25 x]; exact h.2.2.2.1 j k hj hk, fun k hk h25 => (mv_sVn h25 e x).trans (h.2.2.2.2 k hk h25)⟩
def MK (c : Nat) (d : ax_D) (tx : Row) (ln : Nat) (r : Nat ⊕ (Cd × Nat)) (Q : ax_P) : Prop := match r with
  | Sum.inl g => ∀ d', FrC c d d' → Rm d' tx ln g → mv d' 16 = 0 → Q d' (Sum.inl none)
  | Sum.inr (cm, b) => ∀ d', FrC c d d' → Rm d' tx ln b → mv d' 16 = 1 → mv d' 25 = nI (c + 1) → Ent d' c (cmT cm) → Q d' (Sum.inl none)
section M3
variable {d : ax_D} {tx : Row} {ln a : Nat}
theorem MJ_of_MK {c : Nat} {e : ax_D} {r : Nat ⊕ (Cd × Nat)} {Q : ax_P} (f : FrC c d e) (h25 : mv e 25 = nI (c + 1)) (h : MK c d tx ln r Q) : MJ S21 c e tx ln r Q := by
  cases r with
  | inl x => exact fun d' f2 => h d' (FrC_J f f2)
  | inr cb =>
    obtain ⟨cm, b⟩ := cb
    exact fun d' f2 r' h16 => h d' (FrC_J f f2) r' h16 ((f2.2.2.2.2 25 (by omega)).trans h25)
theorem m_130s {c : Nat} {e : ax_D} {b : Nat} (fe : FrC c d e) (r : Rm e tx ln b) (h25 : mv e 25 = nI c) (hc : c < 30) {v2 v3 vb : Int32} (hv : ((v2 = -1 ∨ v2 = 2) ∧ vb = 2) ∨ (v2 = vb ∧ (vb = 0 ∨ vb = 1))) (Q : ax_P)
    (hQ : ∀ d', FrC c d d' → Rm d' tx ln b → mv d' 16 = mv e 16 → mv d' 25 = nI (c + 1) → mr d' 21 c = vb → mr d' 22 c = v3 → Q d' (Sum.inl none)) : h231_130 (nI c) v2 v3 e Q := by
  have ci : ax_in (nI c) 30 = true := ax_in_nI hc (by omega)
  have cl : (nI c).toNatClampNeg = c := nI_clamp (by omega)
  have s22 : S21 22 := by unfold S21; omega
  have s21 : S21 21 := by unfold S21; omega
  refine w231_130 _ _ _ (fun d1 e1 => ?_)
  have q1 : d1 = sV e 25 (nI (c + 1)) := by rw [e1, show ax_row e 9 0 0 25 = nI c from h25, show nI c + 1 = nI (c + 1) from nI_add c 1]; rfl
  have vl : ¬ (3 : Int32) ≤ vb := by
    rcases hv with ⟨-, q⟩ | ⟨-, q | q⟩ <;> rw [q] <;> decide
  have go : h231_160 (nI c) v2 v3 vb (nI c) d1 Q := by
    refine w231_160 _ _ _ _ _ ⟨ci, fun d2 e2 => ⟨ci, fun d3 e3 => ?_⟩⟩
    rw [cl] at e2 e3 ⊢
    have q2 : d2 = pu d1 21 c vb := e2
    have q3 : d3 = pu d2 22 c v3 := e3
    have t21 : mr d3 21 c = vb := by rw [q3, pu_n (by decide), q2, pu_s]
    have t22 : mr d3 22 c = v3 := by rw [q3, pu_s]
    refine ⟨ci, fun g => absurd (show (3 : Int32) ≤ vb by rw [← t21]; exact g) vl, fun _ => ?_⟩
    refine hQ d3 (FrC_J (FrC_25 fe (nI (c + 1))) (FrJ_trans (e := d2) (by rw [q2, q1]; exact FrJ_pu (by decide) s21 _ c _) (by rw [q3]; exact FrJ_pu (by decide) s22 d2 c _))) ?_ ?_ ?_ t21 t22
    · rw [q3, q2, q1]; exact Rm_pu (Rm_pu (Rm_sV r (by decide) (by decide) _) (by decide) (by decide) c _) (by decide) (by decide) c _
    · rw [q3, q2, q1, pu_v (by decide), pu_v (by decide), mv_sVn (by decide)]
    · rw [q3, q2, q1, pu_v (by decide), pu_v (by decide), mv_sV]
  rcases hv with ⟨q | q, q2⟩ | ⟨q, q2⟩
  · rw [q2] at go
    exact ⟨fun _ => go, fun g => absurd q g⟩
  · rw [q2] at go
    exact ⟨fun _ => go, fun _ => ⟨fun _ => go, fun g => absurd q g⟩⟩
  · rw [← q] at go
    have n1 : ¬ v2 = -1 := by rw [q]; rcases q2 with z | z <;> rw [z] <;> decide
    have n2 : ¬ v2 = 2 := by rw [q]; rcases q2 with z | z <;> rw [z] <;> decide
    exact ⟨fun g => absurd g n1, fun _ => ⟨fun g => absurd g n2, fun _ => go⟩⟩
theorem m_130b {c : Nat} {e : ax_D} {b : Nat} (fe : FrC c d e) (r : Rm e tx ln b) (hl : ln ≤ 80) (hb : b ≤ ln) (h16 : mv e 16 = 1) (h25 : mv e 25 = nI c) (hc : c < 30) {w : Nat} (hw : 9 ≤ w ∧ w < 18) (v3 : Int32) (Q : ax_P) (hQ : MK c d tx ln (match PH tx ln (decide (w = 9) || decide (w = 10)) b with
      | Sum.inl f => Sum.inl f
      | Sum.inr (x, a2) => TL tx ln w x a2) Q) : h231_130 (nI c) (nI (w - 6)) v3 e Q := by
  have ci : ax_in (nI c) 30 = true := ax_in_nI hc (by omega)
  have cl : (nI c).toNatClampNeg = c := nI_clamp (by omega)
  have s22 : S21 22 := by unfold S21; omega
  have s21 : S21 21 := by unfold S21; omega
  have n1 : ¬ nI (w - 6) = -1 := nI_nm (by omega)
  have n2 : ¬ nI (w - 6) = 2 := fun z => by
    have := (nI_eq (by omega) (by omega)).mp (show nI (w - 6) = nI 2 from z)
    omega
  refine w231_130 _ _ _ (fun d1 e1 => ⟨fun g => absurd g n1, fun _ => ⟨fun g => absurd g n2, fun _ => ?_⟩⟩)
  have q1 : d1 = sV e 25 (nI (c + 1)) := by rw [e1, show ax_row e 9 0 0 25 = nI c from h25, show nI c + 1 = nI (c + 1) from nI_add c 1]; rfl
  refine w231_160 _ _ _ _ _ ⟨ci, fun d2 e2 => ⟨ci, fun d3 e3 => ?_⟩⟩
  rw [cl] at e2 e3 ⊢
  have q2 : d2 = pu d1 21 c (nI (w - 6)) := e2
  have q3 : d3 = pu d2 22 c v3 := e3
  have t21 : mr d3 21 c = nI (w - 6) := by rw [q3, pu_n (by decide), q2, pu_s]
  have F : FrC c d d3 := FrC_J (FrC_25 fe (nI (c + 1))) (FrJ_trans (e := d2) (by rw [q2, q1]; exact FrJ_pu (by decide) s21 _ c _) (by rw [q3]; exact FrJ_pu (by decide) s22 d2 c _))
  have R : Rm d3 tx ln b := by rw [q3, q2, q1]; exact Rm_pu (Rm_pu (Rm_sV r (by decide) (by decide) _) (by decide) (by decide) c _) (by decide) (by decide) c _
  have y16 : mv d3 16 = 1 := by rw [q3, q2, q1, pu_v (by decide), pu_v (by decide), mv_sVn (by decide)]; exact h16
  have y25 : mv d3 25 = nI (c + 1) := by rw [q3, q2, q1, pu_v (by decide), pu_v (by decide), mv_sV]
  have go := m_190 R hl hb y16 hc hw t21 v3 Q (MJ_of_MK F y25 hQ)
  refine ⟨ci, fun _ => ⟨fun g => ?_, fun g => ?_⟩, fun g => absurd (show (3 : Int32) ≤ mr d3 21 c by rw [t21]; exact nI_le (a := 3) (by omega) (by omega)) g⟩
  · have : 5 ≤ w - 6 := by
      rcases Nat.lt_or_ge (w - 6) 5 with q | q
      · exact absurd (show nI 5 ≤ nI (w - 6) from g) (nI_ge (a := w - 6) (b := 5) q (by omega))
      · exact q
    rw [decide_eq_false (show ¬ w = 9 by omega), decide_eq_false (show ¬ w = 10 by omega)] at go
    exact go
  · have : w - 6 < 5 := by
      rcases Nat.lt_or_ge (w - 6) 5 with q | q
      · exact q
      · exact absurd (nI_le (a := 5) q (by omega)) g
    rw [show (decide (w = 9) || decide (w = 10)) = true by
      rcases (by omega : w = 9 ∨ w = 10) with q | q <;> subst q <;> rfl] at go
    exact go
/-- behind the verb's word -/
theorem m_97 {c : Nat} {e : ax_D} (fe : FrC c d e) (h : Rm e tx ln a) (hl : ln ≤ 80) (ha : a ≤ ln) (h16 : mv e 16 = 1) (h25 : mv e 25 = nI c) (hc : c < 30) {w : Nat} (hw : w < 18) (hfull : full tx ln w a = true) {v2 v3 : Int32} (hv : (w < 6 ∧ v2 = -1 ∧ v3 = nI w) ∨ (6 ≤ w ∧ v2 = nI (w - 6))) (Q : ax_P) (hQ : MK c d tx ln (CM tx ln a) Q) : h231_97 (nI c) v2 v3 w e Q := by
  have hb := full_ln ha hfull
  unfold CM at hQ
  rw [RW_yes (lo := 0) (n := 18) (w := w) ⟨by omega, by omega⟩ hfull (fun i hi hf => full_1v (by omega) hw hf hfull)] at hQ
  refine w231_97 _ _ _ _ (m_goes h (by omega) _ (fun d1 f1 r1 y17 y16 _ _ => ?_))
  have F1 : FrC c d d1 := FrC_J fe (FrJ_N f1)
  have x16 := y16.trans h16
  have x25 : mv d1 25 = nI c := (f1.2.2.2 25 (by omega)).trans h25
  rcases hv with ⟨h6, q2, q3⟩ | ⟨h6, q2⟩
  · refine ⟨fun g => absurd (q2.symm.trans g) (by decide), fun _ => ?_⟩
    have hQ : MK c d tx ln (if w = 8 then (match RW tx ln 0 6 (a + 3) with
      | Sum.inl f => Sum.inl f
      | Sum.inr k => Sum.inr ((k, 0, 0, 0), a + 3 + wl k)) else if w ≤ 7 then Sum.inr ((w, 0, 0, 0), a + wl w) else _) Q := hQ
    rw [if_neg (by omega), if_pos (by omega)] at hQ
    refine m_130s F1 r1 x25 hc (Or.inl ⟨Or.inl q2, rfl⟩) Q (fun d' f' r' z16 z25 t21 t22 => ?_)
    exact hQ d' f' r' (z16.trans x16) z25 (ent_dir h6 t21 (t22.trans q3))
  · by_cases e8 : w = 8
    · have q2 : v2 = 2 := by rw [q2, e8]; rfl
      have hQ : MK c d tx ln (if w = 8 then (match RW tx ln 0 6 (a + 3) with
        | Sum.inl f => Sum.inl f
        | Sum.inr k => Sum.inr ((k, 0, 0, 0), a + 3 + wl k)) else if w ≤ 7 then Sum.inr ((w, 0, 0, 0), a + wl w) else _) Q := hQ
      rw [if_pos e8] at hQ
      rw [e8] at r1 y17 hb
      have r1 : Rm d1 tx ln (a + 3) := r1
      have y17 : mv d1 17 = nI (a + 3) := y17
      have hb : a + 3 ≤ ln := hb
      refine ⟨fun _ => m_way r1 hl hb y17 ⟨Nat.le_refl _, by omega⟩ _ ?_, fun g => absurd q2 g⟩
      cases hr : RW tx ln 0 6 (a + 3) with
      | inl f =>
        simp only [hr] at hQ
        refine ⟨fun _ => ?_, fun g => absurd rfl g⟩
        refine m_lacks (sc17 r1 _) (mv_sV _ _ _) _ (fun d2 f2 r2 z16 _ _ => ?_)
        rw [show max (a + 3) (a + 3 + mxA tx ln (a + 3) 0 6) = f by rw [(RW_f hr).1]; omega] at r2
        have F2 := FrN_trans (FrN_sV d1 (k := 17) (by omega) (nI (max (a + 3) (a + 3 + mxA tx ln (a + 3) 0 6)))) f2
        refine m_130s (FrC_J F1 (FrJ_N F2)) r2 ((F2.2.2.2 25 (by omega)).trans x25) hc (Or.inl ⟨Or.inr q2, rfl⟩) Q (fun d' f' r' k16 _ _ _ => ?_)
        exact hQ d' f' r' (k16.trans z16)
      | inr k =>
        simp only [hr] at hQ
        obtain ⟨-, k6, kf⟩ := RW_lt hr
        intro x
        refine ⟨fun g => absurd g (nI_nm (by omega)), fun _ => (m_wayOf (by omega) _ _).mpr ?_⟩
        rw [Nat.zero_add]
        refine m_goes (sc17 r1 x) (by omega) _ (fun d2 f2 r2 _ z16 _ _ => ?_)
        have F2 := FrN_trans (FrN_sV d1 (k := 17) (by omega) x) f2
        refine m_130s (FrC_J F1 (FrJ_N F2)) r2 ((F2.2.2.2 25 (by omega)).trans x25) hc (Or.inl ⟨Or.inr q2, rfl⟩) Q (fun d' f' r' k16 k25 t21 t22 => ?_)
        exact hQ d' f' r' (k16.trans (z16.trans ((mv_sVn (by decide) _ _).trans x16))) k25 (ent_dir (by omega) t21 t22)
    · have n2 : ¬ v2 = 2 := fun z => by
        have := (nI_eq (by omega) (by omega)).mp (q2.symm.trans (show v2 = nI 2 from z))
        omega
      refine ⟨fun g => absurd g n2, fun _ => ?_⟩
      simp only at hQ
      rw [if_neg e8] at hQ
      by_cases e7 : w ≤ 7
      · rw [if_pos e7] at hQ
        rcases (by omega : w = 6 ∨ w = 7) with q | q
        · refine m_130s (vb := 0) F1 r1 x25 hc (Or.inr ⟨by rw [q2, q]; rfl, Or.inl rfl⟩) Q (fun d' f' r' z16 z25 t21 t22 => ?_)
          rw [q] at hQ r'
          exact hQ d' f' r' (z16.trans x16) z25 (ent_0 t21)
        · refine m_130s (vb := 1) F1 r1 x25 hc (Or.inr ⟨by rw [q2, q]; rfl, Or.inr rfl⟩) Q (fun d' f' r' z16 z25 t21 t22 => ?_)
          rw [q] at hQ r'
          exact hQ d' f' r' (z16.trans x16) z25 (ent_1 t21)
      · rw [if_neg e7] at hQ
        rw [q2]
        exact m_130b F1 r1 hl hb x16 x25 hc ⟨by omega, hw⟩ v3 Q hQ
theorem m_cmd (h : Rm d tx ln a) (hl : ln ≤ 80) (ha : a ≤ ln) (h16 : mv d 16 = 1) {c : Nat} (h25 : mv d 25 = nI c) (hc : c < 30) (Q : ax_P) (hQ : MK c d tx ln (CM tx ln a) Q) : CT 231 [ax_vR 9 0 0] d Q := by
  refine w231 (fun d1 e1 => ?_)
  have q1 : d1 = sV d 17 (nI a) := by rw [e1, show ax_row d 9 0 0 15 = nI a from h.2.2]; rfl
  rw [show ax_row d1 9 0 0 25 = nI c by rw [q1]; exact (mv_sVn (by decide) d _).trans h25, q1]
  have F : ∀ x, FrC c d (sV d 17 x) := fun x => FrC_N (FrN_sV d (by omega) x)
  have z16 : ∀ x, mv (sV d 17 x) 16 = 1 := fun x => (mv_sVn (by decide) d x).trans h16
  have z25 : ∀ x, mv (sV d 17 x) 25 = nI c := fun x => (mv_sVn (by decide) d x).trans h25
  -- a word is found
  have found : ∀ x v3 s0 w, 6 ≤ w → w < 18 → full tx ln w a = true → h231_64 (nI c) (nI (w - 6)) v3 s0 (sV d 17 x) Q := by
    intro x v3 s0 w w6 w18 hf
    have n1 : ¬ nI (w - 6) = -1 := nI_nm (by omega)
    refine w231_64 _ _ _ _ ⟨fun g => absurd g n1, fun _ => ⟨fun g => absurd g n1, fun _ => (m_wordOf (by omega) _ _).mpr ?_⟩⟩
    rw [show 6 + (w - 6) = w by omega]
    exact m_97 (F x) (sc17 h x) hl ha (z16 x) (z25 x) hc w18 hf (Or.inr ⟨w6, rfl⟩) Q hQ
  -- none is: the ways
  have none_ : (∀ z, z < 12 → full tx ln (6 + z) a = false) → h231_17 (nI c) (-1) 12 (sV d 17 (nI (max a (a + mxA tx ln a 6 12)))) Q := by
    intro h0
    have m8 := mxA_b (tx := tx) ha 6 12
    refine w231_17 _ _ _ ⟨fun _ => ⟨fun _ => m_way (sc17 h _) hl ha (mv_sV _ _ _) (by omega) _ ?_, fun g => absurd rfl g⟩, fun g => absurd (by decide) g⟩
    cases hr : RW tx ln 0 6 a with
    | inl f =>
      obtain ⟨ef, h6⟩ := RW_f hr
      have hall : ∀ i, i < 18 → full tx ln (0 + i) a = false := fun i hi => by
        rcases Nat.lt_or_ge i 6 with q | q
        · exact h6 i q
        · have := h0 (i - 6) (by omega)
          rw [show 6 + (i - 6) = 0 + i by omega] at this
          exact this
      unfold CM at hQ
      rw [RW_no hall] at hQ
      have hQ : ∀ d', FrC c d d' → Rm d' tx ln (a + mxA tx ln a 0 18) → mv d' 16 = 0 → Q d' (Sum.inl none) := hQ
      show h231_64 (nI c) (-1) 12 (-1) (sV (sV d 17 (nI (max a (a + mxA tx ln a 6 12)))) 17 (nI (max (max a (a + mxA tx ln a 6 12)) (a + mxA tx ln a 0 6)))) Q
      rw [sV_sV]
      refine w231_64 _ _ _ _ ⟨fun _ => ⟨fun _ => ?_, fun g => absurd rfl g⟩, fun g => absurd rfl g⟩
      refine m_lacks (sc17 h _) (mv_sV _ _ _) _ (fun d' f' r' k16 _ _ => ?_)
      have e18 : mxA tx ln a 0 18 = max (mxA tx ln a 0 6) (mxA tx ln a 6 12) := mxA_add a 0 6 12
      rw [show max (max a (a + mxA tx ln a 6 12)) (a + mxA tx ln a 0 6) = a + mxA tx ln a 0 18 by rw [e18]; omega] at r'
      exact hQ d' (FrC_N (FrN_trans (FrN_sV d (by omega) _) f')) r' k16
    | inr k =>
      obtain ⟨-, k6, kf⟩ := RW_lt hr
      intro x
      show h231_64 (nI c) (-1) 12 (nI k) (sV (sV d 17 (nI (max a (a + mxA tx ln a 6 12)))) 17 x) Q
      rw [sV_sV]
      have n1 : ¬ nI k = -1 := nI_nm (by omega)
      refine w231_64 _ _ _ _ ⟨fun _ => ⟨fun g => absurd g n1, fun _ => ⟨fun _ => (m_wayOf (by omega) _ _).mpr ?_, fun g => absurd rfl g⟩⟩, fun g => absurd rfl g⟩
      rw [Nat.zero_add]
      exact m_97 (F x) (sc17 h x) hl ha (z16 x) (z25 x) hc (by omega) kf (Or.inl ⟨by omega, rfl, rfl⟩) Q hQ
  have key := lp_up (fun i => (∀ z, z < i → full tx ln (6 + z) a = false) → h231_17 (nI c) (-1) (nI i) (sV d 17 (nI (max a (a + mxA tx ln a 6 i)))) Q) 12 none_ ?_ 0 (Nat.zero_le _)
  · have key := key (fun z hz => by omega)
    rw [show max a (a + mxA tx ln a 6 0) = a from Nat.max_eq_left (Nat.le_refl _)] at key
    exact key
  · intro i hi ih h0
    have m8 := mxA_b (tx := tx) ha 6 i
    refine w231_17 _ _ _ ⟨fun g => absurd g (by rw [Int32.not_le]; exact nI_lt (b := 12) hi (by omega)), fun _ => ⟨fun _ => (m_wordOf hi _ _).mpr ?_, fun g => absurd rfl g⟩⟩
    refine (m_stands (sc17 h _) hl ha (mv_sV d 17 _) (by omega) (by omega) _).mpr ?_
    rw [sV_sV, show max (max a (a + mxA tx ln a 6 i)) (a + agr tx ln (6 + i) a) = max a (a + mxA tx ln a 6 (i + 1)) by show _ = max a (a + max (mxA tx ln a 6 i) (agr tx ln (6 + i) a)); omega]
    cases hcf : full tx ln (6 + i) a with
    | false =>
      refine ⟨fun _ => ?_, fun g => absurd rfl g⟩
      rw [show nI i + 1 = nI (i + 1) from nI_add i 1]
      refine ih (fun z hz => ?_)
      by_cases e : z = i
      · rw [e]; exact hcf
      · exact h0 z (by omega)
    | true =>
      refine ⟨fun g => absurd g (by decide), fun _ => ?_⟩
      have n1 : ¬ nI i = -1 := nI_nm (by omega)
      have go : ∀ v3, h231_64 (nI c) (nI i) v3 (-1) (sV d 17 (nI (max a (a + mxA tx ln a 6 (i + 1))))) Q := fun v3 => by
        have := found (nI (max a (a + mxA tx ln a 6 (i + 1)))) v3 (-1) (6 + i) (by omega) (by omega) hcf
        rw [show 6 + i - 6 = i by omega] at this
        exact this
      exact w231_17 _ _ _ ⟨fun _ => ⟨fun g => absurd g n1, fun _ => go _⟩, fun _ => ⟨fun g => absurd g n1, fun _ => ⟨fun g => absurd g n1, fun _ => go _⟩⟩⟩
end M3
