/-! the check's reader: a command -/
/-- rows of S may have changed at c, and what the reader keeps -/
def FrJ (S : Nat → Prop) (c : Nat) (d d' : ax_D) : Prop := d'.1 = d.1 ∧ d'.2.2 = d.2.2 ∧ (∀ j, j ≠ 0 → ¬ S j → mr d' j = mr d j) ∧ (∀ j k, j ≠ 0 → k ≠ c → mr d' j k = mr d j k) ∧ ∀ k, ¬ (15 ≤ k ∧ k ≤ 19) → mv d' k = mv d k
theorem FrJ_N {S : Nat → Prop} {c : Nat} {d d' : ax_D} (h : FrN d d') : FrJ S c d d' := ⟨h.1, h.2.1, fun j hj _ => h.2.2.1 j hj, fun j k hj _ => by rw [h.2.2.1 j hj], h.2.2.2⟩
theorem FrJ_trans {S : Nat → Prop} {c : Nat} {d e g : ax_D} (h1 : FrJ S c d e) (h2 : FrJ S c e g) : FrJ S c d g := ⟨h2.1.trans h1.1, h2.2.1.trans h1.2.1, fun j hj hs => (h2.2.2.1 j hj hs).trans (h1.2.2.1 j hj hs), fun j k hj hk => (h2.2.2.2.1 j k hj hk).trans (h1.2.2.2.1 j k hj hk), fun k hk => (h2.2.2.2.2 k hk).trans (h1.2.2.2.2 k hk)⟩
theorem FrJ_mono {S S' : Nat → Prop} {c : Nat} {d e : ax_D} (h : FrJ S c d e) (hs : ∀ j, S j → S' j) : FrJ S' c d e := ⟨h.1, h.2.1, fun j hj hn => h.2.2.1 j hj (fun x => hn (hs j x)), h.2.2.2.1, h.2.2.2.2⟩
def pu (d : ax_D) (j c : Nat) (x : Int32) : ax_D := sR d j (upd (mr d j) c x)
theorem FrJ_pu {S : Nat → Prop} {j : Nat} (hj : j ≠ 0) (hS : S j) (d : ax_D) (c : Nat) (x : Int32) : FrJ S c d (pu d j c x) := by
  refine ⟨rfl, rfl, fun i _ hs => ?_, fun i k _ hk => ?_, fun k _ => mv_sR hj d k _⟩
  · have : i ≠ j := fun e => hs (by rw [e]; exact hS)
    exact mr_sRn this d _
  · unfold pu
    by_cases e : i = j
    · rw [e, mr_sR, upd_n hk]
    · rw [mr_sRn e]
theorem pu_s (d : ax_D) (j c : Nat) (x : Int32) : mr (pu d j c x) j c = x := by unfold pu; rw [mr_sR, upd_s]
theorem pu_n {i j : Nat} (h : i ≠ j) (d : ax_D) (c : Nat) (x : Int32) : mr (pu d j c x) i = mr d i := mr_sRn h d _
theorem pu_v {j : Nat} (hj : j ≠ 0) (d : ax_D) (c : Nat) (x : Int32) (k : Nat) : mv (pu d j c x) k = mv d k := mv_sR hj d k _
def S24 (j : Nat) : Prop := j = 24 ∨ j = 25
def S21 (j : Nat) : Prop := 21 ≤ j ∧ j ≤ 25
theorem S24_21 (j : Nat) (h : S24 j) : S21 j := by unfold S24 at h; unfold S21; omega
def S124 (j : Nat) : Prop := j = 21 ∨ j = 24 ∨ j = 25
theorem S24_124 (j : Nat) (h : S24 j) : S124 j := Or.inr h
theorem S124_21 (j : Nat) (h : S124 j) : S21 j := by unfold S124 at h; unfold S21; omega
section MC
variable {d : ax_D} {tx : Row} {ln a : Nat}
theorem Rm_pu (h : Rm d tx ln a) {j : Nat} (h0 : j ≠ 0) (h10 : j ≠ 10) (c : Nat) (x : Int32) : Rm (pu d j c x) tx ln a := ⟨(pu_n (fun e => h10 e.symm) d c x).trans h.1, (pu_v h0 d c x 10).trans h.2.1, (pu_v h0 d c x 15).trans h.2.2⟩
theorem m_second (h : Rm d tx ln a) (hl : ln ≤ 80) (ha : a ≤ ln) (h16 : mv d 16 = 1) {c : Nat} (hc : c < 30) (Q : ax_P) (hQ : match PH tx ln false a with
    | Sum.inl g => ∀ d', FrJ S24 c d d' → Rm d' tx ln g → mv d' 16 = 0 → Q d' (Sum.inl none)
    | Sum.inr (y, b) => ∀ d', FrJ S24 c d d' → Rm d' tx ln b → mv d' 16 = 1 → mr d' 24 c = nI (y % 8) → mr d' 25 c = nI (y / 8) → Q d' (Sum.inl none)) : CT 226 [ax_vR 9 0 0, Sum.inl (nI c)] d Q := by
  have ci : ax_in (nI c) 30 = true := ax_in_nI hc (by omega)
  have cl : (nI c).toNatClampNeg = c := nI_clamp (by omega)
  refine w226 _ (m_phrase h hl ha h16 false _ ?_)
  have two : ∀ d1 d2 d3, FrN d d1 → d2 = pu d1 24 c (mv d1 18) → d3 = pu d2 25 c (mv d2 19) → FrJ S24 c d d3 ∧ (∀ b, Rm d1 tx ln b → Rm d3 tx ln b) ∧ mv d3 16 = mv d1 16 ∧ mr d3 24 c = mv d1 18 ∧ mr d3 25 c = mv d1 19 := by
    intro d1 d2 d3 f1 q2 q3
    refine ⟨FrJ_trans (FrJ_N f1) (FrJ_trans (e := d2) (by rw [q2]; exact FrJ_pu (by decide) (Or.inl rfl) d1 c _) (by rw [q3]; exact FrJ_pu (by decide) (Or.inr rfl) d2 c _)), fun b r => ?_, ?_, ?_, ?_⟩
    · rw [q3, q2]; exact Rm_pu (Rm_pu r (by decide) (by decide) c _) (by decide) (by decide) c _
    · rw [q3, q2, pu_v (by decide), pu_v (by decide)]
    · rw [q3, pu_n (by decide), q2, pu_s]
    · rw [q3, pu_s, q2, pu_v (by decide)]
  cases hp : PH tx ln false a with
  | inl g =>
    simp only [hp] at hQ
    intro d1 f1 r1 z16
    rw [cl]
    refine ⟨ci, fun d2 e2 => ⟨ci, fun d3 e3 => ?_⟩⟩
    obtain ⟨k1, k2, k3, -, -⟩ := two d1 d2 d3 f1 e2 e3
    exact hQ d3 k1 (k2 g r1) (k3.trans z16)
  | inr yb =>
    obtain ⟨y, b⟩ := yb
    simp only [hp] at hQ
    obtain ⟨-, -, hy⟩ := PH_b ha hp
    have hy : y < 32 := by
      rcases hy with q | ⟨-, q⟩
      · exact q
      · cases q
    intro d1 f1 r1 z16 hv
    rw [cl]
    refine ⟨ci, fun d2 e2 => ⟨ci, fun d3 e3 => ?_⟩⟩
    obtain ⟨k1, k2, k3, k4, k5⟩ := two d1 d2 d3 f1 e2 e3
    obtain ⟨v1, v2⟩ := hv.2 hy
    exact hQ d3 k1 (k2 b r1) (k3.trans z16) (k4.trans v1) (k5.trans v2)
theorem m_second0 (h : Rm d tx ln a) (h16 : mv d 16 = 0) {c : Nat} (hc : c < 30) (Q : ax_P) (hQ : ∀ d', FrJ S24 c d d' → Rm d' tx ln a → mv d' 16 = 0 → Q d' (Sum.inl none)) : CT 226 [ax_vR 9 0 0, Sum.inl (nI c)] d Q := by
  have ci : ax_in (nI c) 30 = true := ax_in_nI hc (by omega)
  have cl : (nI c).toNatClampNeg = c := nI_clamp (by omega)
  refine w226 _ (m_phrase0 h h16 _ _ (fun d1 f1 r1 z16 => ?_))
  rw [cl]
  refine ⟨ci, fun d2 e2 => ⟨ci, fun d3 e3 => ?_⟩⟩
  have q2 : d2 = pu d1 24 c (mv d1 18) := e2
  have q3 : d3 = pu d2 25 c (mv d2 19) := e3
  refine hQ d3 (FrJ_trans (FrJ_N f1) (FrJ_trans (e := d2) (by rw [q2]; exact FrJ_pu (by decide) (Or.inl rfl) d1 c _) (by rw [q3]; exact FrJ_pu (by decide) (Or.inr rfl) d2 c _))) ?_ ?_
  · rw [q3, q2]; exact Rm_pu (Rm_pu r1 (by decide) (by decide) c _) (by decide) (by decide) c _
  · rw [q3, q2, pu_v (by decide), pu_v (by decide)]; exact z16
/-- behind a preposition, or a fault -/
theorem m_prep (h : Rm d tx ln a) (hl : ln ≤ 80) (ha : a ≤ ln) (h16 : mv d 16 = 1) {c : Nat} (hc : c < 30) (h21 : mr d 21 c = 9) (Q : ax_P) (hQ : match RW tx ln 30 2 a with
    | Sum.inl g => ∀ d', FrJ S124 c d d' → Rm d' tx ln g → mv d' 16 = 0 → Q d' (Sum.inl none)
    | Sum.inr l => (match PH tx ln false (a + wl l) with
      | Sum.inl g => ∀ d', FrJ S124 c d d' → Rm d' tx ln g → mv d' 16 = 0 → Q d' (Sum.inl none)
      | Sum.inr (y, b) => ∀ d', FrJ S124 c d d' → Rm d' tx ln b → mv d' 16 = 1 → mr d' 21 c = nI (8 + if l = 30 then 1 else 2) → mr d' 24 c = nI (y % 8) → mr d' 25 c = nI (y / 8) → Q d' (Sum.inl none))) : CT 227 [ax_vR 9 0 0, Sum.inl (nI c)] d Q := by
  have ci : ax_in (nI c) 30 = true := ax_in_nI hc (by omega)
  have cl : (nI c).toNatClampNeg = c := nI_clamp (by omega)
  refine w227 _ ⟨fun g => absurd (h16.symm.trans g) (by decide), fun _ d1 e1 => ?_⟩
  have q1 : d1 = sV d 17 (nI a) := by rw [e1, show ax_row d 9 0 0 15 = nI a from h.2.2]; rfl
  rw [q1]
  have R1 := sc17 h (nI a)
  have F1 : FrN d (sV d 17 (nI a)) := FrN_sV d (by omega) _
  have b0 := (agr_b (tx := tx) (w := 30) ha).2
  have b1 := (agr_b (tx := tx) (w := 31) ha).2
  refine (m_stands R1 hl ha (mv_sV _ _ _) (by omega) (by omega) _).mpr ?_
  rw [sV_sV, show max a (a + agr tx ln 30 a) = a + agr tx ln 30 a by omega]
  -- the second phrase
  have sec : ∀ d2 l, FrJ S124 c d d2 → Rm d2 tx ln (a + wl l) → a + wl l ≤ ln → mv d2 16 = 1 → mr d2 21 c = nI (8 + if l = 30 then 1 else 2) → (match PH tx ln false (a + wl l) with
      | Sum.inl g => ∀ d', FrJ S124 c d d' → Rm d' tx ln g → mv d' 16 = 0 → Q d' (Sum.inl none)
      | Sum.inr (y, b) => ∀ d', FrJ S124 c d d' → Rm d' tx ln b → mv d' 16 = 1 → mr d' 21 c = nI (8 + if l = 30 then 1 else 2) → mr d' 24 c = nI (y % 8) → mr d' 25 c = nI (y / 8) → Q d' (Sum.inl none)) → CT 226 [ax_vR 9 0 0, Sum.inl (nI c)] d2 (kV (fun d' => Q d' (Sum.inl none)) (fun E d => Q d (Sum.inr E))) := by
    intro d2 l f2 r2 hb z16 z21 hQ
    refine m_second r2 hl hb z16 hc _ ?_
    cases hp : PH tx ln false (a + wl l) with
    | inl g =>
      simp only [hp] at hQ
      exact fun d' f' r' y16 => hQ d' (FrJ_trans f2 (FrJ_mono f' S24_124)) r' y16
    | inr yb =>
      obtain ⟨y, b⟩ := yb
      simp only [hp] at hQ
      exact fun d' f' r' y16 y24 y25 => hQ d' (FrJ_trans f2 (FrJ_mono f' S24_124)) r' y16 ((congrFun (f'.2.2.1 21 (by decide) (by unfold S24; omega)) c).trans z21) y24 y25
  cases hc0 : full tx ln 30 a with
  | true =>
    rw [RW_first (lo := 30) (n := 2) (i := 0) (by omega) (fun z hz => by omega) hc0] at hQ
    refine ⟨fun g => absurd g (by decide), fun _ => ?_⟩
    refine m_goes (sc17 h _) (by omega) _ (fun d' f' r' _ y16 _ _ => ?_)
    have F := FrN_trans (FrN_sV d (k := 17) (by omega) (nI (a + agr tx ln 30 a))) f'
    exact sec d' 30 (FrJ_N F) r' (full_ln ha hc0) (y16.trans ((mv_sVn (by decide) _ _).trans h16)) ((congrFun (F.2.2.1 21 (by decide)) c).trans h21) hQ
  | false =>
    refine ⟨fun _ => ?_, fun g => absurd rfl g⟩
    refine (m_stands (sc17 h _) hl ha (mv_sV _ _ _) (by omega) (by omega) _).mpr ?_
    rw [sV_sV]
    cases hc1 : full tx ln 31 a with
    | true =>
      rw [RW_first (lo := 30) (n := 2) (i := 1) (by omega) (fun z hz => by rw [show z = 0 by omega]; exact hc0) hc1] at hQ
      refine ⟨fun g => absurd g (by decide), fun _ => ?_⟩
      refine m_goes (sc17 h _) (by omega) _ (fun d' f' r' _ y16 _ _ => ?_)
      have F := FrN_trans (FrN_sV d (k := 17) (by omega) (nI (max (a + agr tx ln 30 a) (a + agr tx ln 31 a)))) f'
      rw [cl]
      refine ⟨ci, fun d9 e9 => ?_⟩
      have q9 : d9 = pu d' 21 c 10 := e9
      rw [q9]
      exact sec _ 31 (FrJ_trans (FrJ_N F) (FrJ_pu (by decide) (Or.inl rfl) d' c _)) (Rm_pu r' (by decide) (by decide) c _) (full_ln ha hc1) ((pu_v (by decide) d' c _ 16).trans (y16.trans ((mv_sVn (by decide) _ _).trans h16))) (pu_s d' 21 c 10) hQ
    | false =>
      rw [RW_no (lo := 30) (n := 2) (fun i hi => by
        rcases (by omega : i = 0 ∨ i = 1) with e | e
        · rw [e]; exact hc0
        · rw [e]; exact hc1)] at hQ
      refine ⟨fun _ => ?_, fun g => absurd rfl g⟩
      refine m_lacks (sc17 h _) (mv_sV _ _ _) _ (fun d' f' r' y16 _ _ => ?_)
      have F := FrN_trans (FrN_sV d (k := 17) (by omega) (nI (max (a + agr tx ln 30 a) (a + agr tx ln 31 a)))) f'
      rw [show max (a + agr tx ln 30 a) (a + agr tx ln 31 a) = a + mxA tx ln a 30 2 by show _ = a + max (max 0 (agr tx ln 30 a)) (agr tx ln 31 a); omega] at r'
      exact m_second0 r' y16 hc _ (fun d2 f2 r2 z16 => hQ d2 (FrJ_trans (FrJ_N F) (FrJ_mono f2 S24_124)) r2 z16)
end MC
