/-! the class's reader: all commands, one phrase -/
/-- of the reader, only what it found has changed -/
def FrS (d d' : ax_D) : Prop := Fr (fun k i => k = 4 ∧ i = 0) d d' ∧ ax_row d' 4 0 1 = ax_row d 4 0 1 ∧ ∀ t, t ≠ 3 → t ≠ 5 → t ≠ 6 → ax_row d' 4 0 0 t = ax_row d 4 0 0 t
theorem FrS_refl (d : ax_D) : FrS d d := ⟨Fr_refl d, rfl, fun _ _ _ _ => rfl⟩
theorem FrS_trans {a b c : ax_D} (h1 : FrS a b) (h2 : FrS b c) : FrS a c := ⟨Fr_trans h1.1 h2.1, h2.2.1.trans h1.2.1, fun t h3 h5 h6 => (h2.2.2 t h3 h5 h6).trans (h1.2.2 t h3 h5 h6)⟩
theorem FrS_R {d d' : ax_D} (h : FrR d d') : FrS d d' := ⟨h.1, h.2.1 1 (by decide), fun t _ h5 h6 => h.2.2 t h5 h6⟩
section CL
variable {tx : Row} {ln : Nat}
theorem CM_fb {a f : Nat} (ha : a ≤ ln) (h : CM tx ln a = Sum.inl f) : f ≤ ln := by
  unfold CM at h
  cases hr : RW tx ln 0 18 a with
  | inl g => simp only [hr] at h; cases h; exact RW_fb ha hr
  | inr w =>
    simp only [hr] at h
    obtain ⟨-, k2, k3⟩ := RW_lt hr
    have hb := full_ln ha k3
    by_cases e8 : w = 8
    · rw [if_pos e8] at h
      have hb : a + 3 ≤ ln := by rw [e8] at hb; exact hb
      cases hk : RW tx ln 0 6 (a + 3) with
      | inl g => simp only [hk] at h; cases h; exact RW_fb hb hk
      | inr k => simp only [hk] at h; cases h
    · rw [if_neg e8] at h
      by_cases e7 : w ≤ 7
      · rw [if_pos e7] at h; cases h
      · rw [if_neg e7] at h
        cases hp : PH tx ln (decide (w = 9) || decide (w = 10)) (a + wl w) with
        | inl g => simp only [hp] at h; cases h; exact PH_fb hb hp
        | inr xb =>
          obtain ⟨x, a2⟩ := xb
          simp only [hp] at h
          obtain ⟨p1, p2, p3⟩ := PH_b hb hp
          by_cases e15 : w < 15
          · rw [if_pos e15] at h; cases h
          · rw [if_neg e15] at h
            cases hl : RW tx ln (if w = 15 then 30 else 32) (if w = 15 then 2 else 1) a2 with
            | inl g => simp only [hl] at h; cases h; exact RW_fb p2 hl
            | inr l =>
              simp only [hl] at h
              obtain ⟨-, -, m3⟩ := RW_lt hl
              have hb2 := full_ln p2 m3
              cases hq : PH tx ln false (a2 + wl l) with
              | inl g => simp only [hq] at h; cases h; exact PH_fb hb2 hq
              | inr yb =>
                obtain ⟨y, a4⟩ := yb
                simp only [hq] at h
                cases h
def CsQ (d : ax_D) (i : Nat) (r : Nat ⊕ List Cd) (Q : ax_P) : Prop := match r with
  | Sum.inl f => ∀ d', FrS d d' → f ≤ 80 → Q d' (Sum.inl (some (Sum.inl (nI f))))
  | Sum.inr l => ∀ d', FrS d d' → ax_row d' 4 0 0 3 = nI (i + l.length) → i + l.length ≤ 20 → (∀ j, j < i → ax_row d' 4 0 3 j = ax_row d 4 0 3 j) → (∀ j c, l[j]? = some c → ax_row d' 4 0 3 (i + j) = cdT c ∧ VOkT c) → Q d' (Sum.inl (some (Sum.inl (-1))))
theorem h110_f {d : ax_D} {Q : ax_P} (v : Int32) {f : Nat} (h : ax_row d 4 0 0 6 = nI f) (hf : f ≤ 80) (hQ : Q d (Sum.inl (some (Sum.inl (nI f))))) : h110_17 v d Q := by
  have hne := fl_nm h hf
  refine w110_17 _ ⟨fun _ => ?_, fun _ => ⟨fun g => absurd g hne, fun _ => ?_⟩⟩ <;> (rw [h]; exact hQ)
theorem c_all (hl : ln ≤ 80) : ∀ n i (d : ax_D) (a : Nat), n + i = 22 → 4 * i ≤ a → a ≤ ln → Rc d tx ln a → ax_row d 4 0 0 6 = -1 → ax_row d 4 0 0 3 = nI i → ∀ Q : ax_P, CsQ d i (CSN tx ln n a) Q → h110_17 (nI i) d Q := by
  intro n
  induction n with
  | zero => intro i d a h1 h2 h3; omega
  | succ n ih =>
    intro i d a h1 h2 ha hr h6 h3 Q hQ
    refine w110_17 _ ⟨fun g => absurd g (by rw [Int32.not_lt]; exact nI_le (b := 20) (by omega) (by omega)), fun _ => ⟨fun _ => c_cmd hr hl ha h6 _ ?_, fun g => absurd h6 g⟩⟩
    unfold CSN at hQ
    cases hc : CM tx ln a with
    | inl f =>
      simp only [hc] at hQ
      have hf := Nat.le_trans (CM_fb ha hc) hl
      intro d' z a' f1 r1 e6
      have hne := fl_nm e6 hf
      refine ⟨fun g => absurd g hne, fun _ => ⟨fun g => absurd g hne, fun _ => w110_94 _ _ ⟨fun g => absurd g hne, fun _ => h110_f _ e6 hf (hQ d' (FrS_R f1) hf)⟩⟩⟩
    | inr cb =>
      obtain ⟨c, b⟩ := cb
      simp only [hc] at hQ
      obtain ⟨b1, b2, hv⟩ := CM_b ha hc
      intro d' f1 r1 e6
      have hi : i < 20 := by omega
      have e3 : ax_row d' 4 0 0 3 = nI i := (f1.2.2 3 (by decide) (by decide)).trans h3
      have ec : ∀ j, j ≠ 0 → ax_row d' 4 0 j = ax_row d 4 0 j := f1.2.1
      refine ⟨fun _ => ?_, fun g => absurd e6 g⟩
      rw [e3]
      refine ⟨fun g => absurd g (by rw [Int32.not_le]; exact nI_lt (b := 20) hi (by omega)), fun _ => ⟨ax_in_nI hi (by decide), fun d3 q3 d4 q4 => ?_⟩⟩
      rw [nI_clamp (by omega)] at q3
      have fs3 : Fr (fun k i => k = 4 ∧ i = 0) d' d3 := by rw [q3]; exact Fr_set (by decide) ⟨rfl, rfl⟩ d' 3 _
      have fs4 : Fr (fun k i => k = 4 ∧ i = 0) d' d4 := Fr_trans fs3 (by rw [q4]; exact Fr_set (by decide) ⟨rfl, rfl⟩ d3 0 _)
      have s0 : ax_row d3 4 0 0 = ax_row d' 4 0 0 := by rw [q3]; exact row_j (by decide) d' 4 0 _
      have t1 : ax_row d4 4 0 1 = ax_row d' 4 0 1 := by rw [q4, row_j (by decide), q3, row_j (by decide)]
      have t3 : ax_row d4 4 0 3 = upd (ax_row d' 4 0 3) i (cdT c) := by rw [q4, row_j (by decide), q3, row_s]
      have t0 : ax_row d4 4 0 0 = upd (ax_row d' 4 0 0) 3 (nI (i + 1)) := by rw [q4, row_s, s0, e3, show nI i + 1 = nI (i + 1) from nI_add i 1]
      have u6 : ax_row d4 4 0 0 6 = -1 := by rw [t0, upd_n (by decide)]; exact e6
      have u3 : ax_row d4 4 0 0 3 = nI (i + 1) := by rw [t0, upd_s]
      have r4 : Rc d4 tx ln b := ⟨t1.trans r1.1, by rw [t0, upd_n (by decide)]; exact r1.2.1, by rw [t0, upd_n (by decide)]; exact r1.2.2⟩
      have F4 : FrS d d4 := FrS_trans (FrS_R f1) ⟨fs4, t1, fun t g3 _ _ => by rw [t0, upd_n g3]⟩
      have old : ∀ j, j < i → ax_row d4 4 0 3 j = ax_row d 4 0 3 j := fun j hj => by rw [t3, upd_n (by omega), ec 3 (by decide)]
      have now : ax_row d4 4 0 3 i = cdT c := by rw [t3, upd_s]
      refine ⟨fun _ => ⟨fun g => ?_, fun g => ?_⟩, fun g => absurd u6 g⟩
      · rw [r4.2.2, r4.2.1] at g
        have g : b = ln := (nI_eq (by omega) (by omega)).mp g
        rw [if_pos g] at hQ
        refine hQ d4 F4 u3 (by show i + 1 ≤ 20; omega) old (fun j c' hj => ?_)
        cases j with
        | zero =>
          have : c = c' := Option.some.inj hj
          rw [← this]
          exact ⟨now, hv⟩
        | succ j => cases hj
      · rw [r4.2.2, r4.2.1] at g
        have g : ¬ b = ln := fun z => g (by rw [z])
        rw [if_neg g] at hQ
        refine w110_94 _ _ ⟨fun _ => c_word (lo := 33) (n := 1) (hi := 33) r4 hl b2 rfl (by decide) _ ?_, fun g => absurd u6 g⟩
        cases hw : RW tx ln 33 1 b with
        | inl f =>
          simp only [hw] at hQ
          have hf := Nat.le_trans (RW_fb b2 hw) hl
          intro d5 f5 r5 e5
          exact h110_f _ e5 hf (hQ d5 (FrS_trans F4 (FrS_R f5)) hf)
        | inr w =>
          simp only [hw] at hQ
          obtain ⟨m1, m2, m3⟩ := RW_lt hw
          have ew : w = 33 := by omega
          rw [ew] at m3
          have hb2 : b + 2 ≤ ln := full_ln b2 m3
          intro d5 f5 r5 e5
          rw [ew] at r5
          have r5 : Rc d5 tx ln (b + 2) := r5
          rw [show nI i + 1 = nI (i + 1) from nI_add i 1]
          have u35 : ax_row d5 4 0 0 3 = nI (i + 1) := (f5.2.2 3 (by decide) (by decide)).trans u3
          have u33 : ax_row d5 4 0 3 = ax_row d4 4 0 3 := f5.2.1 3 (by decide)
          refine ih (i + 1) d5 (b + 2) (by omega) (by omega) hb2 r5 (e5.trans u6) u35 Q ?_
          cases hs : CSN tx ln n (b + 2) with
          | inl f =>
            simp only [hs] at hQ
            exact fun d6 f6 hf => hQ d6 (FrS_trans F4 (FrS_trans (FrS_R f5) f6)) hf
          | inr l =>
            simp only [hs] at hQ
            intro d6 f6 g3 g20 gold gnew
            have elen : i + (c :: l).length = i + 1 + l.length := by rw [List.length_cons]; omega
            refine hQ d6 (FrS_trans F4 (FrS_trans (FrS_R f5) f6)) (by rw [elen]; exact g3) (by rw [elen]; exact g20) (fun j hj => ?_) (fun j c' hj => ?_)
            · rw [gold j (by omega), u33]
              exact old j hj
            · cases j with
              | zero =>
                have : c = c' := Option.some.inj hj
                rw [← this]
                refine ⟨?_, hv⟩
                show ax_row d6 4 0 3 i = cdT c
                rw [gold i (by omega), u33]
                exact now
              | succ j =>
                have := gnew j c' hj
                rw [show i + 1 + j = i + (j + 1) by omega] at this
                exact this
/-- what a text is read as -/
def CS (tx : Row) (ln : Nat) : Nat ⊕ List Cd := CSN tx ln 22 0
theorem c_read {d : ax_D} (hl : ln ≤ 80) (ht : ax_row d 4 0 1 = tx) (h1 : ax_row d 4 0 0 1 = nI ln) (Q : ax_P) (hQ : match CS tx ln with
    | Sum.inl f => ∀ d', FrS d d' → f ≤ 80 → Q d' (Sum.inl (some (Sum.inl (nI f))))
    | Sum.inr l => ∀ d', FrS d d' → ax_row d' 4 0 0 3 = nI l.length → l.length ≤ 20 → (∀ j c, l[j]? = some c → ax_row d' 4 0 3 j = cdT c ∧ VOkT c) → Q d' (Sum.inl (some (Sum.inl (-1))))) : CT 110 [ax_vR 4 0 0] d Q := by
  refine w110 (fun d1 e1 d2 e2 d3 e3 => ?_)
  have t0 : ax_row d3 4 0 0 = upd (upd (upd (ax_row d 4 0 0) 5 0) 6 (-1)) 3 0 := by rw [e3, row_s, e2, row_s, e1, row_s]
  have tj : ∀ j, j ≠ 0 → ax_row d3 4 0 j = ax_row d 4 0 j := fun j hj => by rw [e3, row_j hj, e2, row_j hj, e1, row_j hj]
  have f3 : Fr (fun k i => k = 4 ∧ i = 0) d d3 := Fr_trans (b := d1) (by rw [e1]; exact Fr_set (by decide) ⟨rfl, rfl⟩ d 0 _) (Fr_trans (b := d2) (by rw [e2]; exact Fr_set (by decide) ⟨rfl, rfl⟩ d1 0 _) (by rw [e3]; exact Fr_set (by decide) ⟨rfl, rfl⟩ d2 0 _))
  have F3 : FrS d d3 := ⟨f3, tj 1 (by decide), fun t g3 g5 g6 => by rw [t0, upd_n g3, upd_n g6, upd_n g5]⟩
  refine c_all (tx := tx) hl 22 0 d3 0 rfl (Nat.zero_le _) (Nat.zero_le _) ⟨(tj 1 (by decide)).trans ht, ?_, ?_⟩ ?_ ?_ Q ?_
  · rw [t0, upd_n (by decide), upd_n (by decide), upd_n (by decide)]; exact h1
  · rw [t0, upd_n (by decide), upd_n (by decide), upd_s]; rfl
  · rw [t0, upd_n (by decide), upd_s]
  · rw [t0, upd_s]; rfl
  · cases hc : CSN tx ln 22 0 with
    | inl f =>
      rw [show CS tx ln = Sum.inl f from hc] at hQ
      exact fun d' f hf => hQ d' (FrS_trans F3 f) hf
    | inr l =>
      rw [show CS tx ln = Sum.inr l from hc] at hQ
      intro d' f g3 g20 _ gnew
      exact hQ d' (FrS_trans F3 f) (by rw [g3, Nat.zero_add]) (by omega) (fun j c hj => by have := gnew j c hj; rw [Nat.zero_add] at this; exact this)
/-- one phrase: where it is at fault, or the phrase -/
def OP (tx : Row) (ln : Nat) : Nat ⊕ Nat := match PH tx ln false 0 with
  | Sum.inl f => Sum.inl f
  | Sum.inr (x, b) => if b < ln then Sum.inl b else Sum.inr x
def FrP (d d' : ax_D) : Prop := Fr (fun k i => k = 4 ∧ i = 0) d d' ∧ ax_row d' 4 0 1 = ax_row d 4 0 1 ∧ ∀ t, t ≠ 4 → t ≠ 5 → t ≠ 6 → ax_row d' 4 0 0 t = ax_row d 4 0 0 t
theorem c_onePh {d : ax_D} (hl : ln ≤ 80) (ht : ax_row d 4 0 1 = tx) (h1 : ax_row d 4 0 0 1 = nI ln) (Q : ax_P) (hQ : match OP tx ln with
    | Sum.inl f => ∀ d', FrP d d' → f ≤ 80 → Q d' (Sum.inl (some (Sum.inl (nI f))))
    | Sum.inr x => ∀ d', FrP d d' → ax_row d' 4 0 0 4 = nI x → x < 32 → Q d' (Sum.inl (some (Sum.inl (-1))))) : CT 136 [ax_vR 4 0 0] d Q := by
  refine w136 (fun d1 e1 d2 e2 => ?_)
  have t0 : ax_row d2 4 0 0 = upd (upd (ax_row d 4 0 0) 5 0) 6 (-1) := by rw [e2, row_s, e1, row_s]
  have tj : ∀ j, j ≠ 0 → ax_row d2 4 0 j = ax_row d 4 0 j := fun j hj => by rw [e2, row_j hj, e1, row_j hj]
  have f2 : Fr (fun k i => k = 4 ∧ i = 0) d d2 := Fr_trans (b := d1) (by rw [e1]; exact Fr_set (by decide) ⟨rfl, rfl⟩ d 0 _) (by rw [e2]; exact Fr_set (by decide) ⟨rfl, rfl⟩ d1 0 _)
  have r2 : Rc d2 tx ln 0 := ⟨(tj 1 (by decide)).trans ht, by rw [t0, upd_n (by decide), upd_n (by decide)]; exact h1, by rw [t0, upd_n (by decide), upd_s]; rfl⟩
  have m6 : ax_row d2 4 0 0 6 = -1 := by rw [t0, upd_s]
  -- behind the phrase
  have fr : ∀ d3 z, FrR d2 d3 → FrP d (ax_set d3 4 0 0 (upd (ax_row d3 4 0 0) 4 z)) := fun d3 z f => ⟨Fr_trans f2 (Fr_trans f.1 (Fr_set (by decide) ⟨rfl, rfl⟩ d3 0 _)), by rw [row_j (by decide), f.2.1 1 (by decide)]; exact tj 1 (by decide), fun t g4 g5 g6 => by rw [row_s, upd_n g4, f.2.2 t g5 g6, t0, upd_n g6, upd_n g5]⟩
  refine c_phr r2 hl (Nat.zero_le _) false _ ?_
  unfold OP at hQ
  cases hp : PH tx ln false 0 with
  | inl f =>
    simp only [hp] at hQ
    have hf := Nat.le_trans (PH_fb (Nat.zero_le _) hp) hl
    intro d3 z a' f3 r3 e3 d5 e5
    have q6 : ax_row d5 4 0 0 6 = nI f := by rw [e5, row_s, upd_n (by decide)]; exact e3
    refine ⟨fun g => absurd g (fl_nm q6 hf), fun _ => ?_⟩
    rw [q6]
    exact hQ d5 (by rw [e5]; exact fr d3 z f3) hf
  | inr xb =>
    obtain ⟨x, b⟩ := xb
    simp only [hp] at hQ
    obtain ⟨-, b2, b3⟩ := PH_b (Nat.zero_le _) hp
    have hx : x < 32 := by
      rcases b3 with q | ⟨-, q⟩
      · exact q
      · cases q
    intro d3 f3 r3 e3 d5 e5
    have q6 : ax_row d5 4 0 0 6 = -1 := by rw [e5, row_s, upd_n (by decide)]; exact e3.trans m6
    have q5 : ax_row d5 4 0 0 5 = nI b := by rw [e5, row_s, upd_n (by decide)]; exact r3.2.2
    have q1 : ax_row d5 4 0 0 1 = nI ln := by rw [e5, row_s, upd_n (by decide)]; exact r3.2.1
    have q4 : ax_row d5 4 0 0 4 = nI x := by rw [e5, row_s, upd_s]
    have F5 : FrP d d5 := by rw [e5]; exact fr d3 _ f3
    refine ⟨fun _ => ?_, fun g => absurd q6 g⟩
    rw [q5, q1]
    refine ⟨fun g => ?_, fun g d6 e6 => ?_⟩
    · have g : ¬ b < ln := fun c => nI_ge c (by omega) g
      rw [if_neg g] at hQ
      rw [q6]
      exact hQ d5 F5 q4 hx
    · have g : b < ln := by
        rcases Nat.lt_or_ge b ln with c | c
        · exact c
        · exact absurd (nI_le c (by omega)) g
      rw [if_pos g] at hQ
      rw [show ax_row d6 4 0 0 6 = nI b by rw [e6, row_s, upd_s]]
      refine hQ d6 ⟨Fr_trans F5.1 (by rw [e6]; exact Fr_set (by decide) ⟨rfl, rfl⟩ d5 0 _), by rw [e6, row_j (by decide)]; exact F5.2.1, fun t g4 g5 g6 => by rw [e6, row_s, upd_n g6]; exact F5.2.2 t g4 g5 g6⟩ (by omega)
end CL
