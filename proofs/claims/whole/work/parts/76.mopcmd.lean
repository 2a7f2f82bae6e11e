/-! command, on the check's side -/
/-- every reason is positive -/
def GP (r : AR) : Prop := match r with
  | Sum.inl w => 0 < w.1
  | Sum.inr _ => True
section GP
variable {s : Row}
theorem GP_c {b : Bool} {x y : AR} (h1 : GP x) (h2 : GP y) : GP (cond b x y) := by
  cases b with
  | true => exact h1
  | false => exact h2
theorem GP_r {w z : Int32} (h : 0 < w) : GP (rf w z) := h
theorem GP_o (s : Row) : GP (ok s) := trivial
theorem GP_take (t : Nat) : GP (takS s t) := GP_c (GP_r (by decide)) (GP_c (GP_r (by decide)) (GP_c (GP_o _) (GP_r (by decide))))
theorem GP_drop (t : Nat) : GP (drpS s t) := GP_c (GP_o _) (GP_r (by decide))
theorem GP_opn (t : Nat) (on : Bool) : GP (opnS s t on) := GP_c (GP_c (GP_r (by decide)) (GP_c (GP_r (by decide)) (GP_o _))) (GP_r (by decide))
theorem GP_lok (t q : Nat) (on : Bool) : GP (lokS s t q on) := GP_c (GP_c (GP_r (by decide)) (GP_c (GP_r (by decide)) (GP_c (GP_o _) (GP_r (by decide))))) (GP_r (by decide))
theorem GP_lit (t : Nat) (on : Bool) : GP (litS s t on) := GP_c (GP_c (GP_r (by decide)) (GP_c (GP_r (by decide)) (GP_o _))) (GP_r (by decide))
theorem GP_put (t q : Nat) (p : Int32) : GP (putS s t q p) := GP_c (GP_r (by decide)) (GP_c (GP_c (GP_r (by decide)) (GP_c (GP_r (by decide)) (GP_c (GP_r (by decide)) (GP_c (GP_r (by decide)) (GP_o _))))) (GP_r (by decide)))
theorem GP_mov (k : Nat) : GP (movS s k) := GP_c (GP_r (by decide)) (GP_c (GP_r (by decide)) (GP_o _))
theorem GP_any (a : Bool × Row) : GP (anyS a) := GP_c (GP_o _) (GP_r (by decide))
theorem GP_does (v : Int32) (t q : Nat) : GP (doesS s v t q) := GP_c (GP_take t) (GP_c (GP_drop t) (GP_c (GP_opn t true) (GP_c (GP_opn t false) (GP_c (GP_lit t true) (GP_c (GP_lit t false) (GP_c (GP_put t q 1) (GP_c (GP_put t q 2) (GP_c (GP_lok t q true) (GP_lok t q false)))))))))
theorem mtp {n a p w : Int32} (h : meantS s n a p = Sum.inl w) : 0 < w := by
  unfold meantS at h
  cases hc : decide (fb_ct (meantP s n a p) (nT s) = 1) with
  | true =>
    rw [hc] at h
    have h : (match first (meantP s n a p) (nT s) with
      | some t => Sum.inr t
      | none => Sum.inl 1 : Int32 ⊕ Nat) = Sum.inl w := h
    cases hf : first (meantP s n a p) (nT s) with
    | none => rw [hf] at h; cases h; decide
    | some t => rw [hf] at h; cases h
  | false =>
    rw [hc] at h
    have h : (Sum.inl (cond (decide (fb_ct (meantP s n a p) (nT s) = 0)) 1 2) : Int32 ⊕ Nat) = Sum.inl w := h
    cases h
    cases decide (fb_ct (meantP s n a p) (nT s) = 0) <;> decide
theorem GP_one (c : Cmd) : GP (oneS s c) := by
  unfold oneS
  cases hm : meantS s c.2.1 c.2.2.1 (prefV c.1) with
  | inl w => exact mtp hm
  | inr t => exact GP_c (GP_does _ _ _) (GP_r (by decide))
theorem GP_two (c : Cmd) : GP (twoS s c) := by
  unfold twoS
  cases hm : meantS s c.2.1 c.2.2.1 (prefV c.1) with
  | inl w => exact mtp hm
  | inr t =>
    cases hm2 : meantS s c.2.2.2.1 c.2.2.2.2 0 with
    | inl w =>
      simp only [hm2]
      exact mtp hm2
    | inr q =>
      simp only [hm2]
      exact GP_c (GP_c (GP_does _ _ _) (GP_r (by decide))) (GP_r (by decide))
theorem GP_act (c : Cmd) : GP (actS s c) := GP_c (GP_c (GP_o _) (GP_r (by decide))) (GP_c (GP_o _) (GP_c (GP_mov _) (GP_c (GP_any _) (GP_c (GP_any _) (GP_c (GP_two c) (GP_one c))))))
theorem CO_pos : ∀ (l : List Cd) (s : Row) (H : List Row) (i : Nat), (CO l s H i).2.2.2.1 = 0 ∨ 0 < (CO l s H i).2.2.2.1 := by
  intro l
  induction l with
  | nil => intro s H i; exact Or.inl rfl
  | cons c l ih =>
    intro s H i
    have hp := GP_act (s := s) (cmT c)
    unfold CO
    cases hr : actS s (cmT c) with
    | inl w =>
      rw [hr] at hp
      exact Or.inr hp
    | inr s' =>
      show (if c.1 = 6 then CO l s' H (i + 1) else CO l (passS s') (keepH H s) (i + 1) : Row × List Row × Nat × (Int32 × Int32)).2.2.2.1 = 0 ∨ 0 < (if c.1 = 6 then CO l s' H (i + 1) else CO l (passS s') (keepH H s) (i + 1) : Row × List Row × Nat × (Int32 × Int32)).2.2.2.1
      by_cases e : c.1 = 6
      · rw [if_pos e]; exact ih s' H (i + 1)
      · rw [if_neg e]; exact ih (passS s') (keepH H s) (i + 1)
end GP
/-- of the check's rows those of R, of its numbers those of K may have changed -/
def FrM (R K : Nat → Prop) (d d' : ax_D) : Prop := d'.1 = d.1 ∧ d'.2.2 = d.2.2 ∧ (∀ j, j ≠ 0 → ¬ R j → mr d' j = mr d j) ∧ ∀ k, ¬ K k → mv d' k = mv d k
theorem FrM_trans {R K : Nat → Prop} {a b c : ax_D} (h1 : FrM R K a b) (h2 : FrM R K b c) : FrM R K a c := ⟨h2.1.trans h1.1, h2.2.1.trans h1.2.1, fun j h0 hr => (h2.2.2.1 j h0 hr).trans (h1.2.2.1 j h0 hr), fun k hk => (h2.2.2.2 k hk).trans (h1.2.2.2 k hk)⟩
theorem FrM_sV {R K : Nat → Prop} (d : ax_D) {k : Nat} (hk : K k) (x : Int32) : FrM R K d (sV d k x) := ⟨rfl, rfl, fun j h0 _ => mr_sV h0 d k x, fun m hm => mv_sVn (fun e => hm (by rw [e]; exact hk)) d x⟩
theorem FrM_L {R K : Nat → Prop} {d d' : ax_D} (h : FrL d d') (hR : ∀ j, S21 j → R j) (hK : ∀ k, (15 ≤ k ∧ k ≤ 19) ∨ k = 25 → K k) : FrM R K d d' := ⟨h.1, h.2.1, fun j h0 hr => h.2.2.1 j h0 (fun z => hr (hR j z)), fun k hk => h.2.2.2 k (fun z => hk (hK k (Or.inl z))) (fun z => hk (hK k (Or.inr z)))⟩
theorem FrM_K {R K : Nat → Prop} {d d' : ax_D} (h : FrK d d') (hR : R 2 ∧ R 6 ∧ R 7) (hK : K 7 ∧ K 26 ∧ K 27) : FrM R K d d' := ⟨h.1, h.2.1, fun j h0 hr => h.2.2.1 j h0 (fun z => hr (by rw [z]; exact hR.1)) (fun z => hr (by rw [z]; exact hR.2.1)) (fun z => hr (by rw [z]; exact hR.2.2)), fun k hk => h.2.2.2 k (fun z => hk (by rw [z]; exact hK.1)) (fun z => hk (by rw [z]; exact hK.2.1)) (fun z => hk (by rw [z]; exact hK.2.2))⟩
def RC (j : Nat) : Prop := S21 j ∨ j = 2 ∨ j = 6 ∨ j = 7
def KC (k : Nat) : Prop := k = 0 ∨ k = 7 ∨ (10 ≤ k ∧ k ≤ 19) ∨ (25 ≤ k ∧ k ≤ 27)
section OM
variable {d : ax_D} {s tx : Row} {ln : Nat}
theorem m_opCmd {H : List Row} (hs : mr d 2 = s) (hk : Ok s) (hL : load s ≤ 20) (ht : mr d 10 = tx) (h10 : mv d 10 = nI ln) (hl : ln ≤ 80) (hh : s 3 = 1 → mHist d H) (hlen : ∀ l : List Cd, CS tx ln = Sum.inr l → l.length ≤ 20 ∧ ∀ (j : Nat) (c : Cd), l[j]? = some c → VOkT c) (Q : ax_P)
    (h0 : ¬ s 3 = 1 → ∀ d', FrM (fun _ => False) (fun k => k = 0) d d' → mv d' 0 = 1 → Q d' (Sum.inl (some (Sum.inl 0))))
    (hF : s 3 = 1 → ∀ g, CS tx ln = Sum.inl g → ∀ d', FrM RC KC d d' → mv d' 0 = 2 → mr d' 2 = s → mv d' 7 = mv d 7 → mr d' 7 = mr d 7 → mv d' 10 = 0 → mv d' 11 = nI g → mv d' 12 = mv d 12 → mv d' 13 = mv d 13 → mv d' 14 = mv d 14 → Q d' (Sum.inl (some (Sum.inl 0))))
    (hG : s 3 = 1 → ∀ l, CS tx ln = Sum.inr l → ∀ d', FrM RC KC d d' → mv d' 0 = 0 → mr d' 2 = (CO l s H 0).1 → mHist d' (CO l s H 0).2.1 → mv d' 10 = 0 → mv d' 11 = -1 → mv d' 12 = (CO l s H 0).2.2.2.1 → mv d' 13 = (CO l s H 0).2.2.2.2 → mv d' 14 = (if (CO l s H 0).2.2.2.1 = 0 then -1 else nI (CO l s H 0).2.2.1) → Q d' (Sum.inl (some (Sum.inl (nI (CO l s H 0).2.2.1))))) : CT 233 [ax_vR 9 0 0] d Q := by
  refine w233 (fun d1 e1 => (m_played _ _).mpr ?_)
  have q1 : d1 = sV d 0 0 := e1
  have s1 : mr d1 2 = s := by rw [q1, mr_sV (by decide)]; exact hs
  rw [s1]
  by_cases hp : s 3 = 1
  case neg =>
    rw [show plays s = false from decide_eq_false hp]
    refine ⟨fun _ => (m_fails _ _ _).mpr ?_, fun g => absurd rfl g⟩
    rw [q1]
    exact h0 hp _ (FrM_trans (FrM_sV d (k := 0) (K := fun k => k = 0) rfl 0) (FrM_sV (sV d 0 0) (k := 0) (K := fun k => k = 0) rfl 1)) (mv_sV _ _ _)
  rw [show plays s = true from decide_eq_true hp]
  refine ⟨fun g => absurd g (by decide), fun _ => ?_⟩
  have F1 : FrM RC KC d d1 := by rw [q1]; exact FrM_sV d (Or.inl rfl) 0
  have hR : ∀ j, S21 j → RC j := fun j z => Or.inl z
  have hK : ∀ k, (15 ≤ k ∧ k ≤ 19) ∨ k = 25 → KC k := fun k z => by unfold KC; omega
  refine m_read (tx := tx) (ln := ln) hl (by rw [q1, mr_sV (by decide)]; exact ht) (by rw [q1, mv_sVn (by decide)]; exact h10) _ ?_
  have n21 : ∀ j, j < 21 → ¬ S21 j := fun j hj z => by unfold S21 at z; omega
  cases hc : CS tx ln with
  | inl g =>
    intro d2 f2 hg d8 e8 d9 e9
    have q8 : d8 = sV d2 11 (nI g) := e8
    have q9 : d9 = sV d8 10 0 := e9
    have F9 : FrM RC KC d d9 := by
      rw [q9, q8]
      exact FrM_trans F1 (FrM_trans (FrM_L f2 hR hK) (FrM_trans (FrM_sV _ (by unfold KC; omega) _) (FrM_sV _ (by unfold KC; omega) _)))
    have e11 : ax_row d9 9 0 0 11 = nI g := by rw [q9, q8]; exact (mv_sVn (by decide) _ _).trans (mv_sV _ _ _)
    rw [e11]
    refine ⟨fun z => absurd z (nI_nm (by omega)), fun _ => (m_fails _ _ _).mpr ?_⟩
    have v9 : ∀ k, k ≠ 10 → k ≠ 11 → k ≠ 0 → ¬ (15 ≤ k ∧ k ≤ 19) → k ≠ 25 → mv (sV d9 0 2) k = mv d k := fun k a b c e h => by
      rw [mv_sVn c, q9, mv_sVn a, q8, mv_sVn b, f2.2.2.2 k e h, q1, mv_sVn c]
    have r9 : ∀ j, j ≠ 0 → j < 21 → mr (sV d9 0 2) j = mr d j := fun j a b => by
      rw [mr_sV a, q9, mr_sV a, q8, mr_sV a, f2.2.2.1 j a (n21 j b), q1, mr_sV a]
    exact hF hp g hc _ (FrM_trans F9 (FrM_sV _ (Or.inl rfl) _)) (mv_sV _ _ _) ((r9 2 (by decide) (by decide)).trans hs) (v9 7 (by decide) (by decide) (by decide) (by decide) (by decide)) (r9 7 (by decide) (by decide)) (by rw [mv_sVn (by decide), q9]; exact mv_sV _ _ _) (by rw [mv_sVn (by decide)]; exact e11) (v9 12 (by decide) (by decide) (by decide) (by decide) (by decide)) (v9 13 (by decide) (by decide) (by decide) (by decide) (by decide)) (v9 14 (by decide) (by decide) (by decide) (by decide) (by decide))
  | inr l =>
    obtain ⟨hl20, hv⟩ := hlen l hc
    intro d2 f2 g25 ge d8 e8 d9 e9
    have q8 : d8 = sV d2 11 (-1) := e8
    have q9 : d9 = sV d8 10 0 := e9
    have F9 : FrM RC KC d d9 := by
      rw [q9, q8]
      exact FrM_trans F1 (FrM_trans (FrM_L f2 hR hK) (FrM_trans (FrM_sV _ (by unfold KC; omega) _) (FrM_sV _ (by unfold KC; omega) _)))
    have e11 : ax_row d9 9 0 0 11 = -1 := by rw [q9, q8]; exact (mv_sVn (by decide) _ _).trans (mv_sV _ _ _)
    rw [e11]
    refine ⟨fun _ => ?_, fun z => absurd rfl z⟩
    refine w219 _ (fun d3 e3 d4 e4 => ?_)
    have q3 : d3 = sV d9 26 0 := e3
    have q4 : d4 = sV d3 27 (-1) := e4
    have F4 : FrM RC KC d d4 := by rw [q4, q3]; exact FrM_trans F9 (FrM_trans (FrM_sV _ (by unfold KC; omega) _) (FrM_sV _ (by unfold KC; omega) _))
    have r4 : ∀ j, j ≠ 0 → mr d4 j = mr d2 j := fun j a => by rw [q4, mr_sV a, q3, mr_sV a, q9, mr_sV a, q8, mr_sV a]
    have v4 : ∀ k, k ≠ 26 → k ≠ 27 → k ≠ 10 → k ≠ 11 → mv d4 k = mv d2 k := fun k a b c e => by rw [q4, mv_sVn b, q3, mv_sVn a, q9, mv_sVn c, q8, mv_sVn e]
    have r2 : ∀ j, j ≠ 0 → j < 21 → mr d2 j = mr d j := fun j a b => by rw [f2.2.2.1 j a (n21 j b), q1, mr_sV a]
    have hh := hh hp
    have hh4 : mHist d4 (cond true H H) := by
      refine ⟨?_, hh.2.1, fun j r hj k hk => ?_⟩
      · rw [v4 7 (by decide) (by decide) (by decide) (by decide), f2.2.2.2 7 (by decide) (by decide), q1, mv_sVn (by decide)]; exact hh.1
      · rw [r4 7 (by decide), r2 7 (by decide) (by decide)]; exact hh.2.2 j r hj k hk
    refine m_carry (tr := true) l 0 d4 s H H _ ((r4 2 (by decide)).trans ((r2 2 (by decide) (by decide)).trans hs)) hk hp hL ?_ (by omega) (fun j c hj => ⟨?_, hv j c hj⟩) ?_ (by rw [q4]; exact mv_sV _ _ _) hh4 ?_
    · rw [v4 25 (by decide) (by decide) (by decide) (by decide), g25, Nat.zero_add]
    · rw [Nat.zero_add]
      exact Ent_k (ge j c hj) (fun i hi => by rw [r4 i hi])
    · rw [q4, mv_sVn (by decide), q3]; exact mv_sV _ _ _
    · intro d' f' g2 g26 g27 gh
      have pos := CO_pos l s H 0
      revert g2 g26 g27 gh pos
      have hG := hG hp l hc
      revert hG
      generalize CO l s H 0 = r
      intro hG g2 g26 g27 gh pos d12 e12 d13 e13
      have q12 : d12 = sV d' 12 r.2.2.2.1 := by rw [e12, show ax_row d' 9 0 0 26 = r.2.2.2.1 from g26]; rfl
      have q13 : d13 = sV d12 13 r.2.2.2.2 := by
        rw [e13, show ax_row d12 9 0 0 27 = r.2.2.2.2 by rw [q12]; exact (mv_sVn (by decide) _ _).trans g27]; rfl
      have x26 : ax_row d13 9 0 0 26 = r.2.2.2.1 := by rw [q13, q12]; exact (mv_sVn (by decide) _ _).trans ((mv_sVn (by decide) _ _).trans g26)
      have fin : ∀ z, (if r.2.2.2.1 = 0 then -1 else nI r.2.2.1) = z → Q (sV d13 14 z) (Sum.inl (some (Sum.inl (nI r.2.2.1)))) := by
        intro z hz
        have F' : FrM RC KC d (sV d13 14 z) := by
          rw [q13, q12]
          exact FrM_trans F4 (FrM_trans (FrM_K f' ⟨Or.inr (Or.inl rfl), Or.inr (Or.inr (Or.inl rfl)), Or.inr (Or.inr (Or.inr rfl))⟩ ⟨by unfold KC; omega, by unfold KC; omega, by unfold KC; omega⟩) (FrM_trans (FrM_sV _ (by unfold KC; omega) _) (FrM_trans (FrM_sV _ (by unfold KC; omega) _) (FrM_sV _ (by unfold KC; omega) _))))
        have vv : ∀ k, k ≠ 14 → k ≠ 13 → k ≠ 12 → mv (sV d13 14 z) k = mv d' k := fun k a b c => by rw [mv_sVn a, q13, mv_sVn b, q12, mv_sVn c]
        have rr : ∀ j, j ≠ 0 → mr (sV d13 14 z) j = mr d' j := fun j a => by rw [mr_sV a, q13, mr_sV a, q12, mr_sV a]
        have v' : ∀ k, k ≠ 7 → k ≠ 26 → k ≠ 27 → mv d' k = mv d4 k := fun k a b c => f'.2.2.2 k a b c
        refine hG _ F' ?_ ((rr 2 (by decide)).trans g2) ?_ ?_ ?_ ?_ ?_ ?_
        · rw [vv 0 (by decide) (by decide) (by decide), v' 0 (by decide) (by decide) (by decide), v4 0 (by decide) (by decide) (by decide) (by decide), f2.2.2.2 0 (by decide) (by decide), q1]; exact mv_sV _ _ _
        · exact ⟨(vv 7 (by decide) (by decide) (by decide)).trans gh.1, gh.2.1, fun j r hj k hk => by rw [rr 7 (by decide)]; exact gh.2.2 j r hj k hk⟩
        · rw [vv 10 (by decide) (by decide) (by decide), v' 10 (by decide) (by decide) (by decide), q4, mv_sVn (by decide), q3, mv_sVn (by decide), q9]; exact mv_sV _ _ _
        · rw [vv 11 (by decide) (by decide) (by decide), v' 11 (by decide) (by decide) (by decide), q4, mv_sVn (by decide), q3, mv_sVn (by decide)]; exact e11
        · rw [mv_sVn (by decide), q13, mv_sVn (by decide), q12]; exact mv_sV _ _ _
        · rw [mv_sVn (by decide), q13]; exact mv_sV _ _ _
        · rw [mv_sV]; exact hz.symm
      rw [x26]
      refine ⟨fun g d14 e14 => ?_, fun g d15 e15 => ?_⟩
      · have hw : r.2.2.2.1 = 0 := by
          rcases pos with q | q
          · exact q
          · exact absurd g (by rw [Int32.not_le]; exact q)
        rw [e14]
        exact fin (-1) (if_pos hw)
      · have hw : ¬ r.2.2.2.1 = 0 := fun z => g (by rw [z]; decide)
        rw [e15]
        exact fin _ (if_neg hw)
end OM
