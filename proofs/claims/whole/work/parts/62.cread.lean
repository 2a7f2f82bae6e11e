/-! the class's reader -/
def Rc (d : ax_D) (tx : Row) (ln a : Nat) : Prop := ax_row d 4 0 1 = tx ∧ ax_row d 4 0 0 1 = nI ln ∧ ax_row d 4 0 0 5 = nI a
/-- only the place and the fault have changed -/
def FrR (d d' : ax_D) : Prop := Fr (fun k i => k = 4 ∧ i = 0) d d' ∧ (∀ j, j ≠ 0 → ax_row d' 4 0 j = ax_row d 4 0 j) ∧ ∀ t, t ≠ 5 → t ≠ 6 → ax_row d' 4 0 0 t = ax_row d 4 0 0 t
theorem FrR_refl (d : ax_D) : FrR d d := ⟨Fr_refl d, fun _ _ => rfl, fun _ _ _ => rfl⟩
theorem FrR_trans {a b c : ax_D} (h1 : FrR a b) (h2 : FrR b c) : FrR a c := ⟨Fr_trans h1.1 h2.1, fun j hj => (h2.2.1 j hj).trans (h1.2.1 j hj), fun t h5 h6 => (h2.2.2 t h5 h6).trans (h1.2.2 t h5 h6)⟩
theorem FrR_set (d : ax_D) {t : Nat} (ht : t = 5 ∨ t = 6) (x : Int32) : FrR d (ax_set d 4 0 0 (upd (ax_row d 4 0 0) t x)) :=
  ⟨Fr_set (by decide) ⟨rfl, rfl⟩ d 0 _, fun j hj => row_j hj d 4 0 _, fun u h5 h6 => by rw [row_s, upd_n (by omega)]⟩
section CR
variable {d : ax_D} {tx : Row} {ln a : Nat}
theorem Rc_at (h : Rc d tx ln a) {b : Nat} {x : Int32} (hx : x = nI b) : Rc (ax_set d 4 0 0 (upd (ax_row d 4 0 0) 5 x)) tx ln b := by
  refine ⟨(row_j (by decide) d 4 0 _).trans h.1, ?_, ?_⟩
  · rw [row_s, upd_n (by decide)]; exact h.2.1
  · rw [row_s, upd_s]; exact hx
theorem Rc_fl (h : Rc d tx ln a) (x : Int32) : Rc (ax_set d 4 0 0 (upd (ax_row d 4 0 0) 6 x)) tx ln a := by
  refine ⟨(row_j (by decide) d 4 0 _).trans h.1, ?_, ?_⟩
  · rw [row_s, upd_n (by decide)]; exact h.2.1
  · rw [row_s, upd_n (by decide)]; exact h.2.2
theorem c_agr (h : Rc d tx ln a) (hl : ln ≤ 80) (ha : a ≤ ln) {w : Nat} (hw : w < 34) (Q : ax_P) : CT 104 [ax_vR 4 0 0, ax_vR 13 w 0] d Q ↔ Q d (Sum.inl (some (Sum.inl (nI (agr tx ln w a))))) := by
  refine ct_of (fun Q hQ => w104 _ ?_) Q
  have h7 := wl_7 w hw
  obtain ⟨r1, r2, r3⟩ := h
  have key : ∀ n i, n + i = 8 → i ≤ wl w → a + i ≤ ln → Q d (Sum.inl (some (Sum.inl (nI (agN tx ln w a n i))))) → h104_2 w (nI i) d Q := by
    intro n
    induction n with
    | zero => intro i h1 h2; omega
    | succ n ih =>
      intro i h1 h2 h3 hQ
      refine w104_2 _ _ ((t_len hw d _).mpr ?_)
      rw [show agN tx ln w a (n + 1) i = cond (decide (i < wl w) && (decide (a + i < ln) && decide (tx (a + i) = wc w i))) (agN tx ln w a n (i + 1)) i from rfl] at hQ
      show ((nI (wl w) ≤ nI i) → _) ∧ (¬ (nI (wl w) ≤ nI i) → _)
      refine ⟨fun g => ?_, fun g => ?_⟩
      · have : ¬ i < wl w := fun c => nI_ge c (by omega) g
        rw [decide_eq_false this] at hQ
        exact hQ
      · have c1 : i < wl w := by
          rcases Nat.lt_or_ge i (wl w) with c | c
          · exact c
          · exact absurd (nI_le c (by omega)) g
        rw [r2, r3, nI_add]
        refine ⟨fun g2 => ?_, fun g2 => ?_⟩
        · have : ¬ a + i < ln := fun c => nI_ge c (by omega) g2
          rw [decide_eq_false this, decide_eq_true c1] at hQ
          exact hQ
        · have c2 : a + i < ln := by
            rcases Nat.lt_or_ge (a + i) ln with c | c
            · exact c
            · exact absurd (nI_le c (by omega)) g2
          refine ⟨ax_in_nI (by omega) (by decide), (t_char hw c1 d _).mpr ?_⟩
          show ((ax_row d 4 0 1 (nI (a + i)).toNatClampNeg = wc w i) → _) ∧ (¬ (ax_row d 4 0 1 (nI (a + i)).toNatClampNeg = wc w i) → _)
          rw [r1, nI_clamp (by omega)]
          refine ⟨fun g3 => ?_, fun g3 => ?_⟩
          · rw [decide_eq_true c1, decide_eq_true c2, decide_eq_true g3] at hQ
            rw [show nI i + 1 = nI (i + 1) from nI_add i 1]
            exact ih (i + 1) (by omega) (by omega) (by omega) hQ
          · rw [decide_eq_true c1, decide_eq_true c2, decide_eq_false g3] at hQ
            exact hQ
  exact key 8 0 rfl (Nat.zero_le _) ha hQ
theorem c_text {w : Nat} (hw : w < 34) (d : ax_D) (Q : ax_P) : CT 106 [Sum.inl (nI w)] d Q ↔ Q d (Sum.inl (some (ax_vR 13 w 0))) := by
  refine ct_of (fun Q hQ => w106 _ ?_) Q
  rcases (by omega : w = 0 ∨ w = 1 ∨ w = 2 ∨ w = 3 ∨ w = 4 ∨ w = 5 ∨ w = 6 ∨ w = 7 ∨ w = 8 ∨ w = 9 ∨ w = 10 ∨ w = 11 ∨ w = 12 ∨ w = 13 ∨ w = 14 ∨ w = 15 ∨ w = 16 ∨ w = 17 ∨ w = 18 ∨ w = 19 ∨ w = 20 ∨ w = 21 ∨ w = 22 ∨ w = 23 ∨ w = 24 ∨ w = 25 ∨ w = 26 ∨ w = 27 ∨ w = 28 ∨ w = 29 ∨ w = 30 ∨ w = 31 ∨ w = 32 ∨ w = 33) with e | e | e | e | e | e | e | e | e | e | e | e | e | e | e | e | e | e | e | e | e | e | e | e | e | e | e | e | e | e | e | e | e | e <;> subst e
  · refine ⟨fun e => absurd e (by decide), fun _ => w105 _ ?_⟩
    exact ⟨fun _ => hQ, fun e => absurd rfl e⟩
  · refine ⟨fun e => absurd e (by decide), fun _ => w105 _ ?_⟩
    exact ⟨fun e => absurd e (by decide), fun _ => ⟨fun _ => hQ, fun e => absurd rfl e⟩⟩
  · refine ⟨fun e => absurd e (by decide), fun _ => w105 _ ?_⟩
    exact ⟨fun e => absurd e (by decide), fun _ => ⟨fun e => absurd e (by decide), fun _ => ⟨fun _ => hQ, fun e => absurd rfl e⟩⟩⟩
  · refine ⟨fun e => absurd e (by decide), fun _ => w105 _ ?_⟩
    exact ⟨fun e => absurd e (by decide), fun _ => ⟨fun e => absurd e (by decide), fun _ => ⟨fun e => absurd e (by decide), fun _ => ⟨fun _ => hQ, fun e => absurd rfl e⟩⟩⟩⟩
  · refine ⟨fun e => absurd e (by decide), fun _ => w105 _ ?_⟩
    exact ⟨fun e => absurd e (by decide), fun _ => ⟨fun e => absurd e (by decide), fun _ => ⟨fun e => absurd e (by decide), fun _ => ⟨fun e => absurd e (by decide), fun _ => ⟨fun _ => hQ, fun e => absurd rfl e⟩⟩⟩⟩⟩
  · refine ⟨fun e => absurd e (by decide), fun _ => w105 _ ?_⟩
    exact ⟨fun e => absurd e (by decide), fun _ => ⟨fun e => absurd e (by decide), fun _ => ⟨fun e => absurd e (by decide), fun _ => ⟨fun e => absurd e (by decide), fun _ => ⟨fun e => absurd e (by decide), fun _ => ⟨fun _ => hQ, fun e => absurd rfl e⟩⟩⟩⟩⟩⟩
  · refine ⟨fun e => absurd e (by decide), fun _ => w105 _ ?_⟩
    exact ⟨fun e => absurd e (by decide), fun _ => ⟨fun e => absurd e (by decide), fun _ => ⟨fun e => absurd e (by decide), fun _ => ⟨fun e => absurd e (by decide), fun _ => ⟨fun e => absurd e (by decide), fun _ => ⟨fun e => absurd e (by decide), fun _ => ⟨fun _ => hQ, fun e => absurd rfl e⟩⟩⟩⟩⟩⟩⟩
  · refine ⟨fun e => absurd e (by decide), fun _ => w105 _ ?_⟩
    exact ⟨fun e => absurd e (by decide), fun _ => ⟨fun e => absurd e (by decide), fun _ => ⟨fun e => absurd e (by decide), fun _ => ⟨fun e => absurd e (by decide), fun _ => ⟨fun e => absurd e (by decide), fun _ => ⟨fun e => absurd e (by decide), fun _ => ⟨fun e => absurd e (by decide), fun _ => ⟨fun _ => hQ, fun e => absurd rfl e⟩⟩⟩⟩⟩⟩⟩⟩
  · refine ⟨fun e => absurd e (by decide), fun _ => w105 _ ?_⟩
    exact ⟨fun e => absurd e (by decide), fun _ => ⟨fun e => absurd e (by decide), fun _ => ⟨fun e => absurd e (by decide), fun _ => ⟨fun e => absurd e (by decide), fun _ => ⟨fun e => absurd e (by decide), fun _ => ⟨fun e => absurd e (by decide), fun _ => ⟨fun e => absurd e (by decide), fun _ => ⟨fun e => absurd e (by decide), fun _ => ⟨fun _ => hQ, fun e => absurd rfl e⟩⟩⟩⟩⟩⟩⟩⟩⟩
  · refine ⟨fun e => absurd e (by decide), fun _ => w105 _ ?_⟩
    exact ⟨fun e => absurd e (by decide), fun _ => ⟨fun e => absurd e (by decide), fun _ => ⟨fun e => absurd e (by decide), fun _ => ⟨fun e => absurd e (by decide), fun _ => ⟨fun e => absurd e (by decide), fun _ => ⟨fun e => absurd e (by decide), fun _ => ⟨fun e => absurd e (by decide), fun _ => ⟨fun e => absurd e (by decide), fun _ => ⟨fun e => absurd e (by decide), fun _ => ⟨fun _ => hQ, fun e => absurd rfl e⟩⟩⟩⟩⟩⟩⟩⟩⟩⟩
  · refine ⟨fun e => absurd e (by decide), fun _ => w105 _ ?_⟩
    exact ⟨fun e => absurd e (by decide), fun _ => ⟨fun e => absurd e (by decide), fun _ => ⟨fun e => absurd e (by decide), fun _ => ⟨fun e => absurd e (by decide), fun _ => ⟨fun e => absurd e (by decide), fun _ => ⟨fun e => absurd e (by decide), fun _ => ⟨fun e => absurd e (by decide), fun _ => ⟨fun e => absurd e (by decide), fun _ => ⟨fun e => absurd e (by decide), fun _ => ⟨fun e => absurd e (by decide), fun _ => ⟨fun _ => hQ, fun e => absurd rfl e⟩⟩⟩⟩⟩⟩⟩⟩⟩⟩⟩
  · refine ⟨fun e => absurd e (by decide), fun _ => w105 _ ?_⟩
    exact ⟨fun e => absurd e (by decide), fun _ => ⟨fun e => absurd e (by decide), fun _ => ⟨fun e => absurd e (by decide), fun _ => ⟨fun e => absurd e (by decide), fun _ => ⟨fun e => absurd e (by decide), fun _ => ⟨fun e => absurd e (by decide), fun _ => ⟨fun e => absurd e (by decide), fun _ => ⟨fun e => absurd e (by decide), fun _ => ⟨fun e => absurd e (by decide), fun _ => ⟨fun e => absurd e (by decide), fun _ => ⟨fun e => absurd e (by decide), fun _ => ⟨fun _ => hQ, fun e => absurd rfl e⟩⟩⟩⟩⟩⟩⟩⟩⟩⟩⟩⟩
  · refine ⟨fun e => absurd e (by decide), fun _ => w105 _ ?_⟩
    exact ⟨fun e => absurd e (by decide), fun _ => ⟨fun e => absurd e (by decide), fun _ => ⟨fun e => absurd e (by decide), fun _ => ⟨fun e => absurd e (by decide), fun _ => ⟨fun e => absurd e (by decide), fun _ => ⟨fun e => absurd e (by decide), fun _ => ⟨fun e => absurd e (by decide), fun _ => ⟨fun e => absurd e (by decide), fun _ => ⟨fun e => absurd e (by decide), fun _ => ⟨fun e => absurd e (by decide), fun _ => ⟨fun e => absurd e (by decide), fun _ => ⟨fun e => absurd e (by decide), fun _ => ⟨fun _ => hQ, fun e => absurd rfl e⟩⟩⟩⟩⟩⟩⟩⟩⟩⟩⟩⟩⟩
  · refine ⟨fun e => absurd e (by decide), fun _ => w105 _ ?_⟩
    exact ⟨fun e => absurd e (by decide), fun _ => ⟨fun e => absurd e (by decide), fun _ => ⟨fun e => absurd e (by decide), fun _ => ⟨fun e => absurd e (by decide), fun _ => ⟨fun e => absurd e (by decide), fun _ => ⟨fun e => absurd e (by decide), fun _ => ⟨fun e => absurd e (by decide), fun _ => ⟨fun e => absurd e (by decide), fun _ => ⟨fun e => absurd e (by decide), fun _ => ⟨fun e => absurd e (by decide), fun _ => ⟨fun e => absurd e (by decide), fun _ => ⟨fun e => absurd e (by decide), fun _ => ⟨fun e => absurd e (by decide), fun _ => ⟨fun _ => hQ, fun e => absurd rfl e⟩⟩⟩⟩⟩⟩⟩⟩⟩⟩⟩⟩⟩⟩
  · refine ⟨fun e => absurd e (by decide), fun _ => w105 _ ?_⟩
    exact ⟨fun e => absurd e (by decide), fun _ => ⟨fun e => absurd e (by decide), fun _ => ⟨fun e => absurd e (by decide), fun _ => ⟨fun e => absurd e (by decide), fun _ => ⟨fun e => absurd e (by decide), fun _ => ⟨fun e => absurd e (by decide), fun _ => ⟨fun e => absurd e (by decide), fun _ => ⟨fun e => absurd e (by decide), fun _ => ⟨fun e => absurd e (by decide), fun _ => ⟨fun e => absurd e (by decide), fun _ => ⟨fun e => absurd e (by decide), fun _ => ⟨fun e => absurd e (by decide), fun _ => ⟨fun e => absurd e (by decide), fun _ => ⟨fun e => absurd e (by decide), fun _ => ⟨fun _ => hQ, fun e => absurd rfl e⟩⟩⟩⟩⟩⟩⟩⟩⟩⟩⟩⟩⟩⟩⟩
  · refine ⟨fun e => absurd e (by decide), fun _ => w105 _ ?_⟩
    exact ⟨fun e => absurd e (by decide), fun _ => ⟨fun e => absurd e (by decide), fun _ => ⟨fun e => absurd e (by decide), fun _ => ⟨fun e => absurd e (by decide), fun _ => ⟨fun e => absurd e (by decide), fun _ => ⟨fun e => absurd e (by decide), fun _ => ⟨fun e => absurd e (by decide), fun _ => ⟨fun e => absurd e (by decide), fun _ => ⟨fun e => absurd e (by decide), fun _ => ⟨fun e => absurd e (by decide), fun _ => ⟨fun e => absurd e (by decide), fun _ => ⟨fun e => absurd e (by decide), fun _ => ⟨fun e => absurd e (by decide), fun _ => ⟨fun e => absurd e (by decide), fun _ => ⟨fun e => absurd e (by decide), fun _ => ⟨fun _ => hQ, fun e => absurd rfl e⟩⟩⟩⟩⟩⟩⟩⟩⟩⟩⟩⟩⟩⟩⟩⟩
  · refine ⟨fun e => absurd e (by decide), fun _ => w105 _ ?_⟩
    exact ⟨fun e => absurd e (by decide), fun _ => ⟨fun e => absurd e (by decide), fun _ => ⟨fun e => absurd e (by decide), fun _ => ⟨fun e => absurd e (by decide), fun _ => ⟨fun e => absurd e (by decide), fun _ => ⟨fun e => absurd e (by decide), fun _ => ⟨fun e => absurd e (by decide), fun _ => ⟨fun e => absurd e (by decide), fun _ => ⟨fun e => absurd e (by decide), fun _ => ⟨fun e => absurd e (by decide), fun _ => ⟨fun e => absurd e (by decide), fun _ => ⟨fun e => absurd e (by decide), fun _ => ⟨fun e => absurd e (by decide), fun _ => ⟨fun e => absurd e (by decide), fun _ => ⟨fun e => absurd e (by decide), fun _ => ⟨fun e => absurd e (by decide), fun _ => ⟨fun _ => hQ, fun e => absurd rfl e⟩⟩⟩⟩⟩⟩⟩⟩⟩⟩⟩⟩⟩⟩⟩⟩⟩
  · refine ⟨fun e => absurd e (by decide), fun _ => w105 _ ?_⟩
    exact ⟨fun e => absurd e (by decide), fun _ => ⟨fun e => absurd e (by decide), fun _ => ⟨fun e => absurd e (by decide), fun _ => ⟨fun e => absurd e (by decide), fun _ => ⟨fun e => absurd e (by decide), fun _ => ⟨fun e => absurd e (by decide), fun _ => ⟨fun e => absurd e (by decide), fun _ => ⟨fun e => absurd e (by decide), fun _ => ⟨fun e => absurd e (by decide), fun _ => ⟨fun e => absurd e (by decide), fun _ => ⟨fun e => absurd e (by decide), fun _ => ⟨fun e => absurd e (by decide), fun _ => ⟨fun e => absurd e (by decide), fun _ => ⟨fun e => absurd e (by decide), fun _ => ⟨fun e => absurd e (by decide), fun _ => ⟨fun e => absurd e (by decide), fun _ => ⟨fun e => absurd e (by decide), fun _ => hQ⟩⟩⟩⟩⟩⟩⟩⟩⟩⟩⟩⟩⟩⟩⟩⟩⟩
  · refine ⟨fun _ => ?_, fun e => absurd (by decide) e⟩
    exact ⟨fun _ => hQ, fun e => absurd rfl e⟩
  · refine ⟨fun _ => ?_, fun e => absurd (by decide) e⟩
    exact ⟨fun e => absurd e (by decide), fun _ => ⟨fun _ => hQ, fun e => absurd rfl e⟩⟩
  · refine ⟨fun _ => ?_, fun e => absurd (by decide) e⟩
    exact ⟨fun e => absurd e (by decide), fun _ => ⟨fun e => absurd e (by decide), fun _ => ⟨fun _ => hQ, fun e => absurd rfl e⟩⟩⟩
  · refine ⟨fun _ => ?_, fun e => absurd (by decide) e⟩
    exact ⟨fun e => absurd e (by decide), fun _ => ⟨fun e => absurd e (by decide), fun _ => ⟨fun e => absurd e (by decide), fun _ => ⟨fun _ => hQ, fun e => absurd rfl e⟩⟩⟩⟩
  · refine ⟨fun _ => ?_, fun e => absurd (by decide) e⟩
    exact ⟨fun e => absurd e (by decide), fun _ => ⟨fun e => absurd e (by decide), fun _ => ⟨fun e => absurd e (by decide), fun _ => ⟨fun e => absurd e (by decide), fun _ => ⟨fun _ => hQ, fun e => absurd rfl e⟩⟩⟩⟩⟩
  · refine ⟨fun _ => ?_, fun e => absurd (by decide) e⟩
    exact ⟨fun e => absurd e (by decide), fun _ => ⟨fun e => absurd e (by decide), fun _ => ⟨fun e => absurd e (by decide), fun _ => ⟨fun e => absurd e (by decide), fun _ => ⟨fun e => absurd e (by decide), fun _ => ⟨fun _ => hQ, fun e => absurd rfl e⟩⟩⟩⟩⟩⟩
  · refine ⟨fun _ => ?_, fun e => absurd (by decide) e⟩
    exact ⟨fun e => absurd e (by decide), fun _ => ⟨fun e => absurd e (by decide), fun _ => ⟨fun e => absurd e (by decide), fun _ => ⟨fun e => absurd e (by decide), fun _ => ⟨fun e => absurd e (by decide), fun _ => ⟨fun e => absurd e (by decide), fun _ => ⟨fun _ => hQ, fun e => absurd rfl e⟩⟩⟩⟩⟩⟩⟩
  · refine ⟨fun _ => ?_, fun e => absurd (by decide) e⟩
    exact ⟨fun e => absurd e (by decide), fun _ => ⟨fun e => absurd e (by decide), fun _ => ⟨fun e => absurd e (by decide), fun _ => ⟨fun e => absurd e (by decide), fun _ => ⟨fun e => absurd e (by decide), fun _ => ⟨fun e => absurd e (by decide), fun _ => ⟨fun e => absurd e (by decide), fun _ => ⟨fun _ => hQ, fun e => absurd rfl e⟩⟩⟩⟩⟩⟩⟩⟩
  · refine ⟨fun _ => ?_, fun e => absurd (by decide) e⟩
    exact ⟨fun e => absurd e (by decide), fun _ => ⟨fun e => absurd e (by decide), fun _ => ⟨fun e => absurd e (by decide), fun _ => ⟨fun e => absurd e (by decide), fun _ => ⟨fun e => absurd e (by decide), fun _ => ⟨fun e => absurd e (by decide), fun _ => ⟨fun e => absurd e (by decide), fun _ => ⟨fun e => absurd e (by decide), fun _ => ⟨fun _ => hQ, fun e => absurd rfl e⟩⟩⟩⟩⟩⟩⟩⟩⟩
  · refine ⟨fun _ => ?_, fun e => absurd (by decide) e⟩
    exact ⟨fun e => absurd e (by decide), fun _ => ⟨fun e => absurd e (by decide), fun _ => ⟨fun e => absurd e (by decide), fun _ => ⟨fun e => absurd e (by decide), fun _ => ⟨fun e => absurd e (by decide), fun _ => ⟨fun e => absurd e (by decide), fun _ => ⟨fun e => absurd e (by decide), fun _ => ⟨fun e => absurd e (by decide), fun _ => ⟨fun e => absurd e (by decide), fun _ => ⟨fun _ => hQ, fun e => absurd rfl e⟩⟩⟩⟩⟩⟩⟩⟩⟩⟩
  · refine ⟨fun _ => ?_, fun e => absurd (by decide) e⟩
    exact ⟨fun e => absurd e (by decide), fun _ => ⟨fun e => absurd e (by decide), fun _ => ⟨fun e => absurd e (by decide), fun _ => ⟨fun e => absurd e (by decide), fun _ => ⟨fun e => absurd e (by decide), fun _ => ⟨fun e => absurd e (by decide), fun _ => ⟨fun e => absurd e (by decide), fun _ => ⟨fun e => absurd e (by decide), fun _ => ⟨fun e => absurd e (by decide), fun _ => ⟨fun e => absurd e (by decide), fun _ => ⟨fun _ => hQ, fun e => absurd rfl e⟩⟩⟩⟩⟩⟩⟩⟩⟩⟩⟩
  · refine ⟨fun _ => ?_, fun e => absurd (by decide) e⟩
    exact ⟨fun e => absurd e (by decide), fun _ => ⟨fun e => absurd e (by decide), fun _ => ⟨fun e => absurd e (by decide), fun _ => ⟨fun e => absurd e (by decide), fun _ => ⟨fun e => absurd e (by decide), fun _ => ⟨fun e => absurd e (by decide), fun _ => ⟨fun e => absurd e (by decide), fun _ => ⟨fun e => absurd e (by decide), fun _ => ⟨fun e => absurd e (by decide), fun _ => ⟨fun e => absurd e (by decide), fun _ => ⟨fun e => absurd e (by decide), fun _ => ⟨fun _ => hQ, fun e => absurd rfl e⟩⟩⟩⟩⟩⟩⟩⟩⟩⟩⟩⟩
  · refine ⟨fun _ => ?_, fun e => absurd (by decide) e⟩
    exact ⟨fun e => absurd e (by decide), fun _ => ⟨fun e => absurd e (by decide), fun _ => ⟨fun e => absurd e (by decide), fun _ => ⟨fun e => absurd e (by decide), fun _ => ⟨fun e => absurd e (by decide), fun _ => ⟨fun e => absurd e (by decide), fun _ => ⟨fun e => absurd e (by decide), fun _ => ⟨fun e => absurd e (by decide), fun _ => ⟨fun e => absurd e (by decide), fun _ => ⟨fun e => absurd e (by decide), fun _ => ⟨fun e => absurd e (by decide), fun _ => ⟨fun e => absurd e (by decide), fun _ => ⟨fun _ => hQ, fun e => absurd rfl e⟩⟩⟩⟩⟩⟩⟩⟩⟩⟩⟩⟩⟩
  · refine ⟨fun _ => ?_, fun e => absurd (by decide) e⟩
    exact ⟨fun e => absurd e (by decide), fun _ => ⟨fun e => absurd e (by decide), fun _ => ⟨fun e => absurd e (by decide), fun _ => ⟨fun e => absurd e (by decide), fun _ => ⟨fun e => absurd e (by decide), fun _ => ⟨fun e => absurd e (by decide), fun _ => ⟨fun e => absurd e (by decide), fun _ => ⟨fun e => absurd e (by decide), fun _ => ⟨fun e => absurd e (by decide), fun _ => ⟨fun e => absurd e (by decide), fun _ => ⟨fun e => absurd e (by decide), fun _ => ⟨fun e => absurd e (by decide), fun _ => ⟨fun e => absurd e (by decide), fun _ => ⟨fun _ => hQ, fun e => absurd rfl e⟩⟩⟩⟩⟩⟩⟩⟩⟩⟩⟩⟩⟩⟩
  · refine ⟨fun _ => ?_, fun e => absurd (by decide) e⟩
    exact ⟨fun e => absurd e (by decide), fun _ => ⟨fun e => absurd e (by decide), fun _ => ⟨fun e => absurd e (by decide), fun _ => ⟨fun e => absurd e (by decide), fun _ => ⟨fun e => absurd e (by decide), fun _ => ⟨fun e => absurd e (by decide), fun _ => ⟨fun e => absurd e (by decide), fun _ => ⟨fun e => absurd e (by decide), fun _ => ⟨fun e => absurd e (by decide), fun _ => ⟨fun e => absurd e (by decide), fun _ => ⟨fun e => absurd e (by decide), fun _ => ⟨fun e => absurd e (by decide), fun _ => ⟨fun e => absurd e (by decide), fun _ => ⟨fun e => absurd e (by decide), fun _ => ⟨fun _ => hQ, fun e => absurd rfl e⟩⟩⟩⟩⟩⟩⟩⟩⟩⟩⟩⟩⟩⟩⟩
  · refine ⟨fun _ => ?_, fun e => absurd (by decide) e⟩
    exact ⟨fun e => absurd e (by decide), fun _ => ⟨fun e => absurd e (by decide), fun _ => ⟨fun e => absurd e (by decide), fun _ => ⟨fun e => absurd e (by decide), fun _ => ⟨fun e => absurd e (by decide), fun _ => ⟨fun e => absurd e (by decide), fun _ => ⟨fun e => absurd e (by decide), fun _ => ⟨fun e => absurd e (by decide), fun _ => ⟨fun e => absurd e (by decide), fun _ => ⟨fun e => absurd e (by decide), fun _ => ⟨fun e => absurd e (by decide), fun _ => ⟨fun e => absurd e (by decide), fun _ => ⟨fun e => absurd e (by decide), fun _ => ⟨fun e => absurd e (by decide), fun _ => ⟨fun e => absurd e (by decide), fun _ => hQ⟩⟩⟩⟩⟩⟩⟩⟩⟩⟩⟩⟩⟩⟩⟩
def WQ (d : ax_D) (tx : Row) (ln a : Nat) (r : Nat ⊕ Nat) (Q : ax_P) : Prop := match r with
  | Sum.inl f => ∀ d', FrR d d' → Rc d' tx ln a → ax_row d' 4 0 0 6 = nI f → Q d' (Sum.inl (some (Sum.inl (-1))))
  | Sum.inr w => ∀ d', FrR d d' → Rc d' tx ln (a + wl w) → ax_row d' 4 0 0 6 = ax_row d 4 0 0 6 → Q d' (Sum.inl (some (Sum.inl (nI w))))
theorem if_mx {m g : Nat} (hm : m < 100) (hg : g < 100) : (if nI m < nI g then nI g else nI m) = nI (max m g) := by
  rcases Nat.lt_or_ge m g with c | c
  · rw [if_pos (nI_lt c (by omega)), Nat.max_eq_right (by omega)]
  · rw [if_neg (by rw [Int32.not_lt]; exact nI_le c (by omega)), Nat.max_eq_left c]
theorem c_word (h : Rc d tx ln a) (hl : ln ≤ 80) (ha : a ≤ ln) {lo n hi : Nat} (hn : hi + 1 = lo + n) (hr : lo + n ≤ 34) (Q : ax_P) (hQ : WQ d tx ln a (RW tx ln lo n a) Q) : CT 107 [ax_vR 4 0 0, Sum.inl (nI lo), Sum.inl (nI hi)] d Q := by
  refine w107 _ _ ?_
  have key := lp_up (fun i => (∀ z, z < i → full tx ln (lo + z) a = false) → h107_5 (nI lo) (nI hi) (nI (mxA tx ln a lo i)) (nI (lo + i)) d Q) n ?_ ?_ 0 (Nat.zero_le _)
  · exact key (fun z hz => by omega)
  · intro h0
    rw [RW_no h0] at hQ
    refine w107_5 _ _ _ _ ⟨fun _ d1 e1 => ?_, fun g => absurd (nI_lt (show hi < lo + n by omega) (by omega)) g⟩
    have e2 : ax_row d 4 0 0 5 + nI (mxA tx ln a lo n) = nI (a + mxA tx ln a lo n) := by rw [h.2.2, nI_add]
    rw [e1]
    exact hQ _ (FrR_set d (Or.inr rfl) _) (Rc_fl h _) (by rw [row_s, upd_s]; exact e2)
  · intro i hi2 ih h0
    have hw : lo + i < 34 := by omega
    refine w107_5 _ _ _ _ ⟨fun g => ?_, fun _ => (c_text hw d _).mpr ((c_agr h hl ha hw _).mpr ((t_len hw d _).mpr ?_))⟩
    · exact absurd g (by rw [Int32.not_lt]; exact nI_le (by omega) (by omega))
    have h7 := wl_7 (lo + i) hw
    have hb := (agr_b (tx := tx) (w := lo + i) ha).1
    show ((nI (agr tx ln (lo + i) a) = nI (wl (lo + i))) → _) ∧ (¬ (nI (agr tx ln (lo + i) a) = nI (wl (lo + i))) → _)
    refine ⟨fun g d8 e8 => ?_, fun g => ?_⟩
    · have ge := (nI_eq (by omega) (by omega)).mp g
      have hf : full tx ln (lo + i) a = true := decide_eq_true ge
      rw [RW_first hi2 h0 hf] at hQ
      rw [e8]
      exact hQ _ (FrR_set d (Or.inl rfl) _) (Rc_at h (by rw [h.2.2, nI_add, ge])) (by rw [row_s, upd_n (by decide)])
    · have hf : full tx ln (lo + i) a = false := decide_eq_false (fun z => g (by rw [z]))
      have m7 := mxA_7 (tx := tx) ha lo i (by omega)
      rw [if_mx (by omega) (by omega), show nI (lo + i) + 1 = nI (lo + (i + 1)) from nI_add (lo + i) 1]
      refine ih (fun z hz => ?_)
      by_cases e : z = i
      · rw [e]; exact hf
      · exact h0 z (by omega)
def PQ (d : ax_D) (tx : Row) (ln : Nat) (r : Nat ⊕ (Nat × Nat)) (Q : ax_P) : Prop := match r with
  | Sum.inl f => ∀ d' z a', FrR d d' → Rc d' tx ln a' → ax_row d' 4 0 0 6 = nI f → Q d' (Sum.inl (some (Sum.inl z)))
  | Sum.inr (x, b) => ∀ d', FrR d d' → Rc d' tx ln b → ax_row d' 4 0 0 6 = ax_row d 4 0 0 6 → Q d' (Sum.inl (some (Sum.inl (nI x))))
theorem c_phr (h : Rc d tx ln a) (hl : ln ≤ 80) (ha : a ≤ ln) (all : Bool) (Q : ax_P) (hQ : PQ d tx ln (PH tx ln all a) Q) : CT 108 [ax_vR 4 0 0, Sum.inl (b2i all)] d Q := by
  have body : ∀ hi, hi + 1 = 18 + cond all 12 11 → h108_14 (b2i all) (nI hi) 18 d Q := by
    intro hi hh
    refine w108_14 _ _ _ (c_word (lo := 18) h hl ha hh (by cases all <;> decide) _ ?_)
    unfold PH at hQ
    cases hr : RW tx ln 18 (cond all 12 11) a with
    | inl f =>
      rw [hr] at hQ
      intro d' f1 r1 e6
      refine ⟨fun g => absurd g (by decide), fun _ => ⟨fun _ => w98 _ _ (hQ d' _ a f1 r1 e6), fun g => absurd (by decide) g⟩⟩
    | inr w =>
      rw [hr] at hQ
      obtain ⟨k1, k2, k3⟩ := RW_lt hr
      have hb := full_ln ha k3
      have k2 : w < 30 := Nat.lt_of_lt_of_le k2 (by cases all <;> decide)
      have hQ : PQ d tx ln (if w = 29 then Sum.inr (63, a + 3) else if w < 26 then Sum.inr (w - 18, a + wl w) else (match RW tx ln 18 8 (a + 4) with
        | Sum.inl f => Sum.inl f
        | Sum.inr u => Sum.inr (8 * (w - 25) + (u - 18), a + 4 + wl u))) Q := hQ
      intro d' f1 r1 e6
      show ((nI w = 29) → _) ∧ (¬ (nI w = 29) → ((nI w < 26) → _) ∧ (¬ (nI w < 26) → _))
      refine ⟨fun g => ?_, fun g => ?_⟩
      · have g : w = 29 := (nI_eq (by omega) (by omega)).mp (show nI w = nI 29 from g)
        rw [if_pos g] at hQ
        rw [g] at r1
        exact hQ d' f1 r1 e6
      · have g : w ≠ 29 := fun z => g (by rw [z]; rfl)
        rw [if_neg g] at hQ
        refine ⟨fun g2 => ?_, fun g2 => ?_⟩
        · have g2 : w < 26 := by
            rcases Nat.lt_or_ge w 26 with c | c
            · exact c
            · exact absurd g2 (by rw [Int32.not_lt]; exact nI_le (a := 26) c (by omega))
          rw [if_pos g2] at hQ
          refine w98 _ _ ?_
          have e : (0 : Int32) * 8 + (nI w - 18) = nI (w - 18) := by
            rw [show (0 : Int32) * 8 = 0 by decide, show nI w - 18 = nI (w - 18) from pk_sub (a := w) (b := 18) (by omega), Int32.zero_add]
          show Q d' (Sum.inl (some (Sum.inl ((0 : Int32) * 8 + (nI w - 18)))))
          rw [e]
          exact hQ d' f1 r1 e6
        · have g2 : 26 ≤ w := by
            rcases Nat.lt_or_ge w 26 with c | c
            · exact absurd (nI_lt (b := 26) c (by omega)) g2
            · exact c
          rw [if_neg (by omega)] at hQ
          have e4 : wl w = 4 := by
            rcases (by omega : w = 26 ∨ w = 27 ∨ w = 28) with q | q | q <;> rw [q] <;> rfl
          rw [e4] at hb r1
          refine c_word (lo := 18) (n := 8) r1 hl hb (hi := 25) rfl (by decide) _ ?_
          cases hu : RW tx ln 18 8 (a + 4) with
          | inl f =>
            rw [hu] at hQ
            intro d2 f2 r2 q6
            exact w98 _ _ (hQ d2 _ _ (FrR_trans f1 f2) r2 q6)
          | inr u =>
            rw [hu] at hQ
            obtain ⟨m1, m2, -⟩ := RW_lt hu
            intro d2 f2 r2 q6
            refine w98 _ _ ?_
            have e : (nI w - 26 + 1) * 8 + (nI u - 18) = nI (8 * (w - 25) + (u - 18)) := by
              rw [show nI w - 26 = nI (w - 26) from pk_sub (a := w) (b := 26) (by omega), show nI u - 18 = nI (u - 18) from pk_sub (a := u) (b := 18) (by omega), show nI (w - 26) + 1 = nI (w - 26 + 1) from nI_add (w - 26) 1, show nI (w - 26 + 1) * 8 = nI ((w - 26 + 1) * 8) from pk_mul (w - 26 + 1) 8, nI_add, show (w - 26 + 1) * 8 = 8 * (w - 25) by omega]
            show Q d2 (Sum.inl (some (Sum.inl ((nI w - 26 + 1) * 8 + (nI u - 18)))))
            rw [e]
            exact hQ d2 (FrR_trans f1 f2) r2 (q6.trans e6)
  refine w108 _ ?_
  cases all with
  | true => exact ⟨fun g => absurd g (by decide), fun _ => body 29 rfl⟩
  | false => exact ⟨fun _ => body 28 rfl, fun g => absurd rfl g⟩
/-- a code's numbers side by side -/
theorem or_add {m n : Nat} (k : Nat) (hm : m < 2 ^ k) (h : m + n * 2 ^ k < 2 ^ 31) : nI m ||| nI (n * 2 ^ k) = nI (m + n * 2 ^ k) := by
  apply Int32.toBitVec_inj.mp
  rw [Int32.toBitVec_or]
  show BitVec.ofNat 32 m ||| BitVec.ofNat 32 (n * 2 ^ k) = BitVec.ofNat 32 (m + n * 2 ^ k)
  rw [Nat.add_comm, Nat.mul_comm n, Nat.two_pow_add_eq_or_of_lt hm, BitVec.or_comm]
  apply BitVec.eq_of_toNat_eq
  have h1 : 2 ^ k * n < 2 ^ 32 := by rw [Nat.mul_comm]; omega
  have h2 : m < 2 ^ 32 := by omega
  have h3 : 2 ^ k * n ||| m < 2 ^ 32 := Nat.or_lt_two_pow h1 h2
  rw [BitVec.toNat_or, BitVec.toNat_ofNat, BitVec.toNat_ofNat, BitVec.toNat_ofNat, Nat.mod_eq_of_lt h1, Nat.mod_eq_of_lt h2, Nat.mod_eq_of_lt h3]
theorem code_of {v x y p : Nat} (hv : v < 256) (hx : x < 256) (hy : y < 256) (hp : p < 3) (d : ax_D) (Q : ax_P) (hQ : Q d (Sum.inl (some (Sum.inl (cd v x y p))))) : CT 97 [Sum.inl (nI v), Sum.inl (nI x), Sum.inl (nI y), Sum.inl (nI p)] d Q := by
  refine w97 _ _ _ _ ?_
  have e : ((nI v ||| (nI x <<< (8 &&& 31))) ||| (nI y <<< (16 &&& 31))) ||| (nI p <<< (24 &&& 31)) = cd v x y p := by
    rw [pk_shlN (8 &&& 31) 8 (by decide) (by omega), pk_shlN (16 &&& 31) 16 (by decide) (by omega), pk_shlN (24 &&& 31) 24 (by decide) (by omega), or_add 8 (by omega) (by omega), or_add 16 (by omega) (by omega), or_add 24 (by omega) (by omega)]
    unfold cd
    congr 1
    omega
  rw [e]
  exact hQ
theorem code_any (v x y p : Int32) (d : ax_D) (Q : ax_P) (hQ : ∀ z, Q d (Sum.inl (some (Sum.inl z)))) : CT 97 [Sum.inl v, Sum.inl x, Sum.inl y, Sum.inl p] d Q := w97 _ _ _ _ (hQ _)
end CR
