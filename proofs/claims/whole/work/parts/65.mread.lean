/-! the check's reader: words and phrases -/
def Rm (d : ax_D) (tx : Row) (ln a : Nat) : Prop := mr d 10 = tx ∧ mv d 10 = nI ln ∧ mv d 15 = nI a
/-- of the check only spot, isRight, furthest and what was read have changed -/
def FrN (d d' : ax_D) : Prop := d'.1 = d.1 ∧ d'.2.2 = d.2.2 ∧ (∀ j, j ≠ 0 → mr d' j = mr d j) ∧ ∀ k, ¬ (15 ≤ k ∧ k ≤ 19) → mv d' k = mv d k
theorem FrN_refl (d : ax_D) : FrN d d := ⟨rfl, rfl, fun _ _ => rfl, fun _ _ => rfl⟩
theorem FrN_trans {a b c : ax_D} (h1 : FrN a b) (h2 : FrN b c) : FrN a c := ⟨h2.1.trans h1.1, h2.2.1.trans h1.2.1, fun j hj => (h2.2.2.1 j hj).trans (h1.2.2.1 j hj), fun k hk => (h2.2.2.2 k hk).trans (h1.2.2.2 k hk)⟩
theorem FrN_sV (d : ax_D) {k : Nat} (hk : 15 ≤ k ∧ k ≤ 19) (x : Int32) : FrN d (sV d k x) := ⟨rfl, rfl, fun j hj => mr_sV hj d k x, fun m hm => mv_sVn (by omega) d x⟩
section MR
variable {d : ax_D} {tx : Row} {ln a : Nat}
theorem Rm_sV (h : Rm d tx ln a) {k : Nat} (h1 : k ≠ 10) (h2 : k ≠ 15) (x : Int32) : Rm (sV d k x) tx ln a := ⟨(mr_sV (by decide) d k x).trans h.1, (mv_sVn (fun e => h1 e.symm) d x).trans h.2.1, (mv_sVn (fun e => h2 e.symm) d x).trans h.2.2⟩
theorem Rm_at (h : Rm d tx ln a) {b : Nat} {x : Int32} (hx : x = nI b) : Rm (sV d 15 x) tx ln b := ⟨(mr_sV (by decide) d 15 x).trans h.1, (mv_sVn (by decide) d x).trans h.2.1, (mv_sV d 15 x).trans hx⟩
theorem m_stands (h : Rm d tx ln a) (hl : ln ≤ 80) (ha : a ≤ ln) {f : Nat} (hf : mv d 17 = nI f) (hf8 : f ≤ 80) {w : Nat} (hw : w < 34) (Q : ax_P) : CT 222 [ax_vR 9 0 0, ax_vR 13 w 0] d Q ↔ Q (sV d 17 (nI (max f (a + agr tx ln w a)))) (Sum.inl (some (Sum.inl (b2i (full tx ln w a))))) := by
  refine ct_of (fun Q hQ => w222 _ ?_) Q
  have h7 := wl_7 w hw
  obtain ⟨r1, r2, r3⟩ := h
  have r1 : ax_row d 9 0 10 = tx := r1
  have r2 : ax_row d 9 0 0 10 = nI ln := r2
  have r3 : ax_row d 9 0 0 15 = nI a := r3
  have hf : ax_row d 9 0 0 17 = nI f := hf
  have fin : ∀ i, i ≤ wl w → Q (sV d 17 (nI (max f (a + i)))) (Sum.inl (some (Sum.inl (b2i (decide (i = wl w)))))) → h222_48 w (nI i) d Q := by
    intro i hi hQ
    have last : ∀ d1, Q d1 (Sum.inl (some (Sum.inl (b2i (decide (i = wl w)))))) → CT 103 [ax_vR 13 w 0] d1 (kI (fun x3 d2 => ((nI i = x3) → Q d2 (Sum.inl (some (Sum.inl 1)))) ∧ (¬ (nI i = x3) → Q d2 (Sum.inl (some (Sum.inl 0))))) (fun E d => Q d (Sum.inr E))) := by
      intro d1 hq
      refine (t_len hw d1 _).mpr ?_
      show ((nI i = nI (wl w)) → _) ∧ (¬ (nI i = nI (wl w)) → _)
      refine ⟨fun g => ?_, fun g => ?_⟩
      · rw [decide_eq_true ((nI_eq (by omega) (by omega)).mp g)] at hq; exact hq
      · rw [decide_eq_false (fun z => g (by rw [z]))] at hq; exact hq
    refine w222_48 _ _ ?_
    rw [r3, hf, nI_add]
    refine ⟨fun g d1 e1 => last d1 ?_, fun g d1 e1 => last d1 ?_⟩
    · have g : a + i ≤ f := by
        rcases Nat.lt_or_ge f (a + i) with c | c
        · exact absurd g (nI_ge c (by omega))
        · exact c
      rw [Nat.max_eq_left g] at hQ
      rw [e1]
      exact hQ
    · have g : f ≤ a + i := by
        rcases Nat.lt_or_ge f (a + i) with c | c
        · omega
        · exact absurd (nI_le c (by omega)) g
      rw [Nat.max_eq_right g] at hQ
      rw [e1]
      exact hQ
  have key : ∀ n i, n + i = 8 → i ≤ wl w → a + i ≤ ln → Q (sV d 17 (nI (max f (a + agN tx ln w a n i)))) (Sum.inl (some (Sum.inl (b2i (decide (agN tx ln w a n i = wl w)))))) → h222_2 w (nI i) d Q := by
    intro n
    induction n with
    | zero => intro i h1 h2; omega
    | succ n ih =>
      intro i h1 h2 h3 hQ
      refine w222_2 _ _ ((t_len hw d _).mpr ?_)
      rw [show agN tx ln w a (n + 1) i = cond (decide (i < wl w) && (decide (a + i < ln) && decide (tx (a + i) = wc w i))) (agN tx ln w a n (i + 1)) i from rfl] at hQ
      show ((nI (wl w) ≤ nI i) → _) ∧ (¬ (nI (wl w) ≤ nI i) → _)
      refine ⟨fun g => ?_, fun g => ?_⟩
      · have : ¬ i < wl w := fun c => nI_ge c (by omega) g
        rw [decide_eq_false this] at hQ
        exact fin i h2 hQ
      · have c1 : i < wl w := by
          rcases Nat.lt_or_ge i (wl w) with c | c
          · exact c
          · exact absurd (nI_le c (by omega)) g
        rw [r2, r3, nI_add]
        refine ⟨fun g2 => ?_, fun g2 => ?_⟩
        · have : ¬ a + i < ln := fun c => nI_ge c (by omega) g2
          rw [decide_eq_false this, decide_eq_true c1] at hQ
          exact fin i h2 hQ
        · have c2 : a + i < ln := by
            rcases Nat.lt_or_ge (a + i) ln with c | c
            · exact c
            · exact absurd (nI_le c (by omega)) g2
          refine ⟨ax_in_nI (by omega) (by decide), (t_char hw c1 d _).mpr ?_⟩
          show ((ax_row d 9 0 10 (nI (a + i)).toNatClampNeg = wc w i) → _) ∧ (¬ (ax_row d 9 0 10 (nI (a + i)).toNatClampNeg = wc w i) → _)
          rw [r1, nI_clamp (by omega)]
          refine ⟨fun g3 => ?_, fun g3 => ?_⟩
          · rw [decide_eq_true c1, decide_eq_true c2, decide_eq_true g3] at hQ
            rw [show nI i + 1 = nI (i + 1) from nI_add i 1]
            exact ih (i + 1) (by omega) (by omega) (by omega) hQ
          · rw [decide_eq_true c1, decide_eq_true c2, decide_eq_false g3] at hQ
            exact fin i h2 hQ
  exact key 8 0 rfl (Nat.zero_le _) ha hQ
theorem m_goes (h : Rm d tx ln a) {w : Nat} (hw : w < 34) (Q : ax_P) (hQ : ∀ d', FrN d d' → Rm d' tx ln (a + wl w) → mv d' 17 = nI (a + wl w) → mv d' 16 = mv d 16 → mv d' 18 = mv d 18 → mv d' 19 = mv d 19 → Q d' (Sum.inl none)) : CT 220 [ax_vR 9 0 0, ax_vR 13 w 0] d Q := by
  refine w220 _ ((t_len hw d _).mpr ?_)
  intro d3 e3 d4 e4
  have q3 : d3 = sV d 15 (nI (a + wl w)) := by
    rw [e3, show ax_row d 9 0 0 15 = nI a from h.2.2, nI_add]; rfl
  have q4 : d4 = sV d3 17 (nI (a + wl w)) := by
    rw [e4, show ax_row d3 9 0 0 15 = nI (a + wl w) by rw [q3]; exact mv_sV d 15 _]; rfl
  rw [q4, q3]
  refine hQ _ (FrN_trans (FrN_sV d (by omega) _) (FrN_sV _ (by omega) _)) (Rm_sV (Rm_at h rfl) (by decide) (by decide) _) (mv_sV _ _ _) ?_ ?_ ?_ <;> rw [mv_sVn (by decide), mv_sVn (by decide)]
theorem m_lacks (h : Rm d tx ln a) {f : Nat} (hf : mv d 17 = nI f) (Q : ax_P) (hQ : ∀ d', FrN d d' → Rm d' tx ln f → mv d' 16 = 0 → mv d' 18 = mv d 18 → mv d' 19 = mv d 19 → Q d' (Sum.inl none)) : CT 221 [ax_vR 9 0 0] d Q := by
  refine w221 (fun d1 e1 d2 e2 => ?_)
  have q1 : d1 = sV d 16 0 := e1
  have q2 : d2 = sV d1 15 (nI f) := by
    rw [e2, show ax_row d1 9 0 0 17 = nI f by rw [q1]; exact (mv_sVn (by decide) d 0).trans hf]; rfl
  rw [q2, q1]
  refine hQ _ (FrN_trans (FrN_sV d (by omega) _) (FrN_sV _ (by omega) _)) (Rm_at (Rm_sV h (by decide) (by decide) _) rfl) ?_ ?_ ?_
  · rw [mv_sVn (by decide), mv_sV]
  · rw [mv_sVn (by decide), mv_sVn (by decide)]
  · rw [mv_sVn (by decide), mv_sVn (by decide)]
theorem m_wayOf {k : Nat} (hk : k < 6) (d : ax_D) (Q : ax_P) : CT 228 [Sum.inl (nI k)] d Q ↔ Q d (Sum.inl (some (ax_vR 13 (0 + k) 0))) := by
  refine ct_of (fun Q hQ => w228 _ ?_) Q
  rcases (by omega : k = 0 ∨ k = 1 ∨ k = 2 ∨ k = 3 ∨ k = 4 ∨ k = 5) with e | e | e | e | e | e <;> subst e
  · exact ⟨fun _ => hQ, fun e => absurd rfl e⟩
  · exact ⟨fun e => absurd e (by decide), fun _ => ⟨fun _ => hQ, fun e => absurd rfl e⟩⟩
  · exact ⟨fun e => absurd e (by decide), fun _ => ⟨fun e => absurd e (by decide), fun _ => ⟨fun _ => hQ, fun e => absurd rfl e⟩⟩⟩
  · exact ⟨fun e => absurd e (by decide), fun _ => ⟨fun e => absurd e (by decide), fun _ => ⟨fun e => absurd e (by decide), fun _ => ⟨fun _ => hQ, fun e => absurd rfl e⟩⟩⟩⟩
  · exact ⟨fun e => absurd e (by decide), fun _ => ⟨fun e => absurd e (by decide), fun _ => ⟨fun e => absurd e (by decide), fun _ => ⟨fun e => absurd e (by decide), fun _ => ⟨fun _ => hQ, fun e => absurd rfl e⟩⟩⟩⟩⟩
  · exact ⟨fun e => absurd e (by decide), fun _ => ⟨fun e => absurd e (by decide), fun _ => ⟨fun e => absurd e (by decide), fun _ => ⟨fun e => absurd e (by decide), fun _ => ⟨fun e => absurd e (by decide), fun _ => hQ⟩⟩⟩⟩⟩
theorem m_wordOf {k : Nat} (hk : k < 12) (d : ax_D) (Q : ax_P) : CT 230 [Sum.inl (nI k)] d Q ↔ Q d (Sum.inl (some (ax_vR 13 (6 + k) 0))) := by
  refine ct_of (fun Q hQ => w230 _ ?_) Q
  rcases (by omega : k = 0 ∨ k = 1 ∨ k = 2 ∨ k = 3 ∨ k = 4 ∨ k = 5 ∨ k = 6 ∨ k = 7 ∨ k = 8 ∨ k = 9 ∨ k = 10 ∨ k = 11) with e | e | e | e | e | e | e | e | e | e | e | e <;> subst e
  · exact ⟨fun _ => hQ, fun e => absurd rfl e⟩
  · exact ⟨fun e => absurd e (by decide), fun _ => ⟨fun _ => hQ, fun e => absurd rfl e⟩⟩
  · exact ⟨fun e => absurd e (by decide), fun _ => ⟨fun e => absurd e (by decide), fun _ => ⟨fun _ => hQ, fun e => absurd rfl e⟩⟩⟩
  · exact ⟨fun e => absurd e (by decide), fun _ => ⟨fun e => absurd e (by decide), fun _ => ⟨fun e => absurd e (by decide), fun _ => ⟨fun _ => hQ, fun e => absurd rfl e⟩⟩⟩⟩
  · exact ⟨fun e => absurd e (by decide), fun _ => ⟨fun e => absurd e (by decide), fun _ => ⟨fun e => absurd e (by decide), fun _ => ⟨fun e => absurd e (by decide), fun _ => ⟨fun _ => hQ, fun e => absurd rfl e⟩⟩⟩⟩⟩
  · exact ⟨fun e => absurd e (by decide), fun _ => ⟨fun e => absurd e (by decide), fun _ => ⟨fun e => absurd e (by decide), fun _ => ⟨fun e => absurd e (by decide), fun _ => ⟨fun e => absurd e (by decide), fun _ => ⟨fun _ => hQ, fun e => absurd rfl e⟩⟩⟩⟩⟩⟩
  · exact ⟨fun e => absurd e (by decide), fun _ => ⟨fun e => absurd e (by decide), fun _ => ⟨fun e => absurd e (by decide), fun _ => ⟨fun e => absurd e (by decide), fun _ => ⟨fun e => absurd e (by decide), fun _ => ⟨fun e => absurd e (by decide), fun _ => ⟨fun _ => hQ, fun e => absurd rfl e⟩⟩⟩⟩⟩⟩⟩
  · exact ⟨fun e => absurd e (by decide), fun _ => ⟨fun e => absurd e (by decide), fun _ => ⟨fun e => absurd e (by decide), fun _ => ⟨fun e => absurd e (by decide), fun _ => ⟨fun e => absurd e (by decide), fun _ => ⟨fun e => absurd e (by decide), fun _ => ⟨fun e => absurd e (by decide), fun _ => ⟨fun _ => hQ, fun e => absurd rfl e⟩⟩⟩⟩⟩⟩⟩⟩
  · exact ⟨fun e => absurd e (by decide), fun _ => ⟨fun e => absurd e (by decide), fun _ => ⟨fun e => absurd e (by decide), fun _ => ⟨fun e => absurd e (by decide), fun _ => ⟨fun e => absurd e (by decide), fun _ => ⟨fun e => absurd e (by decide), fun _ => ⟨fun e => absurd e (by decide), fun _ => ⟨fun e => absurd e (by decide), fun _ => ⟨fun _ => hQ, fun e => absurd rfl e⟩⟩⟩⟩⟩⟩⟩⟩⟩
  · exact ⟨fun e => absurd e (by decide), fun _ => ⟨fun e => absurd e (by decide), fun _ => ⟨fun e => absurd e (by decide), fun _ => ⟨fun e => absurd e (by decide), fun _ => ⟨fun e => absurd e (by decide), fun _ => ⟨fun e => absurd e (by decide), fun _ => ⟨fun e => absurd e (by decide), fun _ => ⟨fun e => absurd e (by decide), fun _ => ⟨fun e => absurd e (by decide), fun _ => ⟨fun _ => hQ, fun e => absurd rfl e⟩⟩⟩⟩⟩⟩⟩⟩⟩⟩
  · exact ⟨fun e => absurd e (by decide), fun _ => ⟨fun e => absurd e (by decide), fun _ => ⟨fun e => absurd e (by decide), fun _ => ⟨fun e => absurd e (by decide), fun _ => ⟨fun e => absurd e (by decide), fun _ => ⟨fun e => absurd e (by decide), fun _ => ⟨fun e => absurd e (by decide), fun _ => ⟨fun e => absurd e (by decide), fun _ => ⟨fun e => absurd e (by decide), fun _ => ⟨fun e => absurd e (by decide), fun _ => ⟨fun _ => hQ, fun e => absurd rfl e⟩⟩⟩⟩⟩⟩⟩⟩⟩⟩⟩
  · exact ⟨fun e => absurd e (by decide), fun _ => ⟨fun e => absurd e (by decide), fun _ => ⟨fun e => absurd e (by decide), fun _ => ⟨fun e => absurd e (by decide), fun _ => ⟨fun e => absurd e (by decide), fun _ => ⟨fun e => absurd e (by decide), fun _ => ⟨fun e => absurd e (by decide), fun _ => ⟨fun e => absurd e (by decide), fun _ => ⟨fun e => absurd e (by decide), fun _ => ⟨fun e => absurd e (by decide), fun _ => ⟨fun e => absurd e (by decide), fun _ => hQ⟩⟩⟩⟩⟩⟩⟩⟩⟩⟩⟩
theorem m_nounOf {k : Nat} (hk : k < 8) (d : ax_D) (Q : ax_P) : CT 224 [Sum.inl (nI k)] d Q ↔ Q d (Sum.inl (some (ax_vR 13 (18 + k) 0))) := by
  refine ct_of (fun Q hQ => w224 _ ?_) Q
  rcases (by omega : k = 0 ∨ k = 1 ∨ k = 2 ∨ k = 3 ∨ k = 4 ∨ k = 5 ∨ k = 6 ∨ k = 7) with e | e | e | e | e | e | e | e <;> subst e
  · exact ⟨fun _ => hQ, fun e => absurd rfl e⟩
  · exact ⟨fun e => absurd e (by decide), fun _ => ⟨fun _ => hQ, fun e => absurd rfl e⟩⟩
  · exact ⟨fun e => absurd e (by decide), fun _ => ⟨fun e => absurd e (by decide), fun _ => ⟨fun _ => hQ, fun e => absurd rfl e⟩⟩⟩
  · exact ⟨fun e => absurd e (by decide), fun _ => ⟨fun e => absurd e (by decide), fun _ => ⟨fun e => absurd e (by decide), fun _ => ⟨fun _ => hQ, fun e => absurd rfl e⟩⟩⟩⟩
  · exact ⟨fun e => absurd e (by decide), fun _ => ⟨fun e => absurd e (by decide), fun _ => ⟨fun e => absurd e (by decide), fun _ => ⟨fun e => absurd e (by decide), fun _ => ⟨fun _ => hQ, fun e => absurd rfl e⟩⟩⟩⟩⟩
  · exact ⟨fun e => absurd e (by decide), fun _ => ⟨fun e => absurd e (by decide), fun _ => ⟨fun e => absurd e (by decide), fun _ => ⟨fun e => absurd e (by decide), fun _ => ⟨fun e => absurd e (by decide), fun _ => ⟨fun _ => hQ, fun e => absurd rfl e⟩⟩⟩⟩⟩⟩
  · exact ⟨fun e => absurd e (by decide), fun _ => ⟨fun e => absurd e (by decide), fun _ => ⟨fun e => absurd e (by decide), fun _ => ⟨fun e => absurd e (by decide), fun _ => ⟨fun e => absurd e (by decide), fun _ => ⟨fun e => absurd e (by decide), fun _ => ⟨fun _ => hQ, fun e => absurd rfl e⟩⟩⟩⟩⟩⟩⟩
  · exact ⟨fun e => absurd e (by decide), fun _ => ⟨fun e => absurd e (by decide), fun _ => ⟨fun e => absurd e (by decide), fun _ => ⟨fun e => absurd e (by decide), fun _ => ⟨fun e => absurd e (by decide), fun _ => ⟨fun e => absurd e (by decide), fun _ => ⟨fun e => absurd e (by decide), fun _ => hQ⟩⟩⟩⟩⟩⟩⟩
theorem m_adjOf {k : Nat} (hk : 1 ≤ k ∧ k < 4) (d : ax_D) (Q : ax_P) : CT 207 [Sum.inl (nI k)] d Q ↔ Q d (Sum.inl (some (ax_vR 13 (25 + k) 0))) := by
  refine ct_of (fun Q hQ => w207 _ ?_) Q
  rcases (by omega : k = 1 ∨ k = 2 ∨ k = 3) with e | e | e <;> subst e
  · exact ⟨fun _ => hQ, fun e => absurd rfl e⟩
  · exact ⟨fun e => absurd e (by decide), fun _ => ⟨fun _ => hQ, fun e => absurd rfl e⟩⟩
  · exact ⟨fun e => absurd e (by decide), fun _ => ⟨fun e => absurd e (by decide), fun _ => hQ⟩⟩
/-- a state of the scan: furthest alone has changed -/
theorem sc17 (h : Rm d tx ln a) (x : Int32) : Rm (sV d 17 x) tx ln a := Rm_sV h (by decide) (by decide) x
theorem m_way (h : Rm d tx ln a) (hl : ln ≤ 80) (ha : a ≤ ln) {f : Nat} (hf : mv d 17 = nI f) (hf8 : a ≤ f ∧ f ≤ 80) (Q : ax_P) (hQ : match RW tx ln 0 6 a with
    | Sum.inl _ => Q (sV d 17 (nI (max f (a + mxA tx ln a 0 6)))) (Sum.inl (some (Sum.inl (-1))))
    | Sum.inr k => ∀ x, Q (sV d 17 x) (Sum.inl (some (Sum.inl (nI k))))) : CT 229 [ax_vR 9 0 0] d Q := by
  refine w229 ?_
  have key := lp_up (fun i => (∀ z, z < i → full tx ln (0 + z) a = false) → h229_4 (-1) (nI i) (sV d 17 (nI (max f (a + mxA tx ln a 0 i)))) Q) 6 ?_ ?_ 0 (Nat.zero_le _)
  · have key := key (fun z hz => by omega)
    rw [show max f (a + mxA tx ln a 0 0) = f from Nat.max_eq_left hf8.1, sV_id d 17 hf] at key
    exact key
  · intro h0
    rw [RW_no h0] at hQ
    exact w229_4 _ _ ⟨fun _ => hQ, fun g => absurd (by decide) g⟩
  · intro i hi ih h0
    have m8 := mxA_b (tx := tx) ha 0 i
    refine w229_4 _ _ ⟨fun g => absurd g (by rw [Int32.not_le]; exact nI_lt (b := 6) hi (by omega)), fun _ => ⟨fun _ => (m_wayOf hi _ _).mpr ?_, fun g => absurd rfl g⟩⟩
    refine (m_stands (sc17 h _) hl ha (mv_sV d 17 _) (by omega) (by omega) _).mpr ?_
    rw [sV_sV, show max (max f (a + mxA tx ln a 0 i)) (a + agr tx ln (0 + i) a) = max f (a + mxA tx ln a 0 (i + 1)) by show _ = max f (a + max (mxA tx ln a 0 i) (agr tx ln (0 + i) a)); omega]
    cases hc : full tx ln (0 + i) a with
    | false =>
      refine ⟨fun _ => ?_, fun g => absurd rfl g⟩
      rw [show nI i + 1 = nI (i + 1) from nI_add i 1]
      refine ih (fun z hz => ?_)
      by_cases e : z = i
      · rw [e]; exact hc
      · exact h0 z (by omega)
    | true =>
      rw [RW_first hi h0 hc] at hQ
      refine ⟨fun g => absurd g (by decide), fun _ => ?_⟩
      have hQ : ∀ x, Q (sV d 17 x) (Sum.inl (some (Sum.inl (nI (0 + i))))) := hQ
      rw [Nat.zero_add] at hQ
      exact w229_4 _ _ ⟨fun _ => hQ _, fun _ => ⟨fun g => absurd g (nI_nm (by omega)), fun _ => hQ _⟩⟩
theorem m_nouns (h : Rm d tx ln a) (hl : ln ≤ 80) (ha : a ≤ ln) {f : Nat} (hf : mv d 17 = nI f) (hf8 : a ≤ f ∧ f ≤ 80) (h18 : mv d 18 = -1) (v1 : Int32) (Q : ax_P) (hQ : match RW tx ln 18 8 a with
    | Sum.inl _ => ∀ d', FrN d d' → Rm d' tx ln (max f (a + mxA tx ln a 18 8)) → mv d' 16 = 0 → Q d' (Sum.inl none)
    | Sum.inr u => ∀ d', FrN d d' → Rm d' tx ln (a + wl u) → mv d' 16 = mv d 16 → mv d' 18 = nI (u - 18) → mv d' 19 = mv d 19 → Q d' (Sum.inl none)) : h225_106 v1 0 d Q := by
  have key := lp_up (fun i => (∀ z, z < i → full tx ln (18 + z) a = false) → h225_106 v1 (nI i) (sV d 17 (nI (max f (a + mxA tx ln a 18 i)))) Q) 8 ?_ ?_ 0 (Nat.zero_le _)
  · have key := key (fun z hz => by omega)
    rw [show max f (a + mxA tx ln a 18 0) = f from Nat.max_eq_left hf8.1, sV_id d 17 hf] at key
    exact key
  · intro h0
    rw [RW_no h0] at hQ
    have e18 : ax_row (sV d 17 (nI (max f (a + mxA tx ln a 18 8)))) 9 0 0 18 = -1 := (mv_sVn (by decide) d _).trans h18
    refine w225_106 _ _ ⟨fun _ => ⟨fun _ => ?_, fun g => absurd e18 g⟩, fun g => absurd (by decide) g⟩
    exact m_lacks (sc17 h _) (mv_sV d 17 _) _ (fun d' f' r' e16 _ _ => hQ d' (FrN_trans (FrN_sV d (by omega) _) f') r' e16)
  · intro i hi ih h0
    have m8 := mxA_b (tx := tx) ha 18 i
    have e18 : ∀ x, ax_row (sV d 17 x) 9 0 0 18 = -1 := fun x => (mv_sVn (by decide) d x).trans h18
    refine w225_106 _ _ ⟨fun g => absurd g (by rw [Int32.not_le]; exact nI_lt (b := 8) hi (by omega)), fun _ => ⟨fun _ => (m_nounOf hi _ _).mpr ?_, fun g => absurd (e18 _) g⟩⟩
    refine (m_stands (sc17 h _) hl ha (mv_sV d 17 _) (by omega) (by omega) _).mpr ?_
    rw [sV_sV, show max (max f (a + mxA tx ln a 18 i)) (a + agr tx ln (18 + i) a) = max f (a + mxA tx ln a 18 (i + 1)) by show _ = max f (a + max (mxA tx ln a 18 i) (agr tx ln (18 + i) a)); omega]
    cases hc : full tx ln (18 + i) a with
    | false =>
      refine ⟨fun _ d9 e9 => ?_, fun g => absurd rfl g⟩
      have q9 : d9 = sV d 17 (nI (max f (a + mxA tx ln a 18 (i + 1)))) := e9.trans (sV_id (sV d 17 (nI (max f (a + mxA tx ln a 18 (i + 1))))) 18 (e18 _))
      rw [q9, show nI i + 1 = nI (i + 1) from nI_add i 1]
      refine ih (fun z hz => ?_)
      by_cases e : z = i
      · rw [e]; exact hc
      · exact h0 z (by omega)
    | true =>
      rw [RW_first hi h0 hc] at hQ
      refine ⟨fun g => absurd g (by decide), fun _ d10 e10 => ?_⟩
      have q10 : d10 = sV (sV d 17 (nI (max f (a + mxA tx ln a 18 (i + 1))))) 18 (nI i) := e10
      have F : FrN d d10 := by rw [q10]; exact FrN_trans (FrN_sV d (by omega) _) (FrN_sV _ (by omega) _)
      have R : Rm d10 tx ln a := by rw [q10]; exact Rm_sV (sc17 h _) (by decide) (by decide) _
      have x18 : ax_row d10 9 0 0 18 = nI i := by rw [q10]; exact mv_sV _ _ _
      have x16 : mv d10 16 = mv d 16 := by rw [q10, mv_sVn (by decide), mv_sVn (by decide)]
      have x19 : mv d10 19 = mv d 19 := by rw [q10, mv_sVn (by decide), mv_sVn (by decide)]
      have last : CT 224 [Sum.inl (ax_row d10 9 0 0 18)] d10 (kR (fun x3 d2 => CT 220 [ax_vR 9 0 0, ax_vR 13 x3 0] d2 (kV (fun d4 => Q d4 (Sum.inl none)) (fun E d => Q d (Sum.inr E)))) (fun E d => Q d (Sum.inr E))) := by
        rw [x18]
        refine (m_nounOf hi _ _).mpr (m_goes R (by omega) _ (fun d' f' r' _ y16 y18 y19 => ?_))
        exact hQ d' (FrN_trans F f') r' (y16.trans x16) (y18.trans (by rw [show 18 + i - 18 = i by omega]; exact x18)) (y19.trans x19)
      have ne : ¬ ax_row d10 9 0 0 18 = -1 := by rw [x18]; exact nI_nm (by omega)
      exact w225_106 _ _ ⟨fun _ => ⟨fun g => absurd g ne, fun _ => last⟩, fun _ => ⟨fun g => absurd g ne, fun _ => ⟨fun g => absurd g ne, fun _ => last⟩⟩⟩
end MR
