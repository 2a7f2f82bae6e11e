/-! commands carried out, on the class's side: foresee's loop, the ring of worlds, the record of turns -/
def cHist (d : ax_D) (f : Nat) (H : List Row) : Prop := ax_row d 2 0 0 2 = nI H.length ∧ H.length ≤ 10 ∧ f < 11 ∧ ax_row d 2 0 0 1 = nI f ∧ ∀ i s, H[i]? = some s → Cw d (4 + (f + i) % 11) s
def recT (T : Row) (clock c : Int32) : Row := cond (inB (clock - 1) 0 511) (upd T (clock - 1).toNatClampNeg c) T
section RG
variable {d : ax_D} {s : Row}
theorem c_fore : ∀ (l : List Cd) (i : Nat) (d : ax_D) (s : Row) (H : List Row) (Q : ax_P), CC d 15 s → s 3 = 1 → load s ≤ 20 → ax_row d 4 0 0 3 = nI (i + l.length) → i + l.length ≤ 20 → (∀ j c, l[j]? = some c → ax_row d 4 0 3 (i + j) = cdT c ∧ VOkT c) → (∀ d', Fr (sA 1) d d' → Q d' (Sum.inl (some (Sum.inl (nI (CO l s H i).2.2.1))))) → h127_33 (nI i) d Q := by
  intro l
  induction l with
  | nil =>
    intro i d s H Q hC hp hL h3 h20 he hQ
    have h3 : ax_row d 4 0 0 3 = nI i := h3
    refine w127_33 _ ⟨fun _ => ?_, fun g => absurd (by rw [h3]; exact nI_le (Nat.le_refl _) (by have : i + 0 ≤ 20 := h20; omega)) g⟩
    rw [h3]
    exact hQ d (Fr_refl d)
  | cons c l ih =>
    intro i d s H Q hC hp hL h3 h20 he hQ
    rw [List.length_cons] at h3 h20
    obtain ⟨hcode, hv⟩ := he 0 c rfl
    rw [Nat.add_zero] at hcode
    refine w127_33 _ ⟨fun g => absurd g (by rw [h3]; exact nI_ge (by omega) (by omega)), fun _ => ⟨ax_in_nI (by omega) (by omega), ?_⟩⟩
    rw [nI_clamp (by omega), hcode]
    have hga := GA_act hC.2.2 hp hL (cmd_ok hv).2
    refine c_act (a := 1) hC hp hL hv _ ?_
    have hQ : ∀ d', Fr (sA 1) d d' → Q d' (Sum.inl (some (Sum.inl (nI ((match actS s (cmT c) with
      | Sum.inl w => (s, H, i, w)
      | Sum.inr s' => if c.1 = 6 then CO l s' H (i + 1) else CO l (passS s') (keepH H s) (i + 1)) : Row × List Row × Nat × (Int32 × Int32)).2.2.1)))) := hQ
    have hga : GA s (actS s (cmT c)) := hga
    show ActQ 1 d s c.1 (actS s (cmT c)) _
    cases hr : actS s (cmT c) with
    | inl w =>
      obtain ⟨w, x⟩ := w
      rw [hr] at hQ
      intro d' f' _ _ _
      exact ⟨fun _ => hQ d' f', fun g => absurd rfl g⟩
    | inr s' =>
      rw [hr] at hQ hga
      have hga : Gd s s' ∧ load s' ≤ 20 := hga
      have hQ : ∀ d', Fr (sA 1) d d' → Q d' (Sum.inl (some (Sum.inl (nI (if c.1 = 6 then CO l s' H (i + 1) else CO l (passS s') (keepH H s) (i + 1) : Row × List Row × Nat × (Int32 × Int32)).2.2.1)))) := hQ
      intro d' f' hc' _ _
      refine ⟨fun g => absurd g (by decide), fun _ => ?_⟩
      rw [show nI i + 1 = nI (i + 1) from nI_add i 1]
      have r4 : ∀ j, ax_row d' 4 0 j = ax_row d 4 0 j := fun j => Fr_row f' (fun z => by rcases z with z | z <;> cases z.1) j
      have e3 : ax_row d' 4 0 0 3 = nI (i + 1 + l.length) := by rw [r4 0, h3, show i + 1 + l.length = i + (l.length + 1) by omega]
      have ec : ∀ j c', l[j]? = some c' → ax_row d' 4 0 3 (i + 1 + j) = cdT c' ∧ VOkT c' := fun j c' hj => by
        have := he (j + 1) c' hj
        rw [show i + 1 + j = i + (j + 1) by omega, r4 3]
        exact this
      have gp := GL_pass hga.1.1 hga.1.2.2
      by_cases e6 : c.1 = 6
      · rw [if_pos e6] at hQ
        have hc' : CC d' 15 (cond (decide (c.1 = 6)) s' (passS s')) := hc'
        rw [decide_eq_true e6] at hc'
        exact ih (i + 1) d' s' H Q hc' hga.1.2.2 hga.2 e3 (by omega) ec (fun d2 f2 => hQ d2 (Fr_trans f' f2))
      · rw [if_neg e6] at hQ
        have hc' : CC d' 15 (cond (decide (c.1 = 6)) s' (passS s')) := hc'
        rw [decide_eq_false e6] at hc'
        exact ih (i + 1) d' (passS s') (keepH H s) Q hc' gp.1.2.2 (Nat.le_trans gp.2 hga.2) e3 (by omega) ec (fun d2 f2 => hQ d2 (Fr_trans f' f2))
theorem rem11 {f n : Nat} (hf : f < 11) (hn : n ≤ 11) : (nI f + nI n) - (nI f + nI n) / 11 * 11 = nI ((f + n) % 11) := by
  rw [nI_add]
  exact pk_rem (d := 11) (by omega) (by decide) (by decide)
theorem c_prep {f : Nat} {H : List Row} (hC : cHist d f H) (hk : Ok s) (hc : Cw d 0 s) (Q : ax_P) (hQ : ∀ d', Fr (sW (4 + (f + H.length) % 11)) d d' → Cw d' (4 + (f + H.length) % 11) s → Q d' (Sum.inl none)) : CT 95 [ax_vR 2 0 0, ax_vR 7 0 0] d Q := by
  obtain ⟨h1, h2, h3, h4, -⟩ := hC
  refine w95 _ ?_
  rw [h1, h4, rem11 h3 (by omega), nI_clamp (by omega)]
  exact ⟨ax_in_nI (by omega) (by omega), c_copy (by omega) d _ (fun d' f' e' => hQ d' f' (WEq_Cw e' hk hc))⟩
theorem c_keep {f : Nat} {H : List Row} (hC : cHist d f H) (hx : Cw d (4 + (f + H.length) % 11) s) (Q : ax_P) (hQ : ∀ d' f', Fr (fun k i => k = 2 ∧ i = 0) d d' → cHist d' f' (keepH H s) → Q d' (Sum.inl none)) : CT 94 [ax_vR 2 0 0] d Q := by
  obtain ⟨h1, h2, h3, h4, h5⟩ := hC
  have cw : ∀ (d' : ax_D) w r, Fr (fun k i => k = 2 ∧ i = 0) d d' → Cw d w r → Cw d' w r := fun d' w r f' h => Cw_Fr f' (fun z => by cases z.1) h
  refine w94 ?_
  rw [h1, h4]
  refine ⟨fun g d1 e1 => ?_, fun g d2 e2 => ?_⟩
  · have e10 : H.length = 10 := by
      rcases Nat.lt_or_ge H.length 10 with q | q
      · exact absurd g (nI_ge (b := 10) q (by omega))
      · omega
    have f1 : Fr (fun k i => k = 2 ∧ i = 0) d d1 := by rw [e1]; exact Fr_set (by decide) ⟨rfl, rfl⟩ d 0 _
    have er : (nI f + 1) - (nI f + 1) / 11 * 11 = nI ((f + 1) % 11) := rem11 (n := 1) h3 (by omega)
    rw [er] at e1
    unfold keepH at hQ
    rw [if_pos e10] at hQ
    refine hQ d1 ((f + 1) % 11) f1 ⟨?_, ?_, Nat.mod_lt _ (by decide), ?_, fun i r hi => ?_⟩
    · rw [e1, row_s, upd_n (by decide), h1, List.length_append, List.length_drop, List.length_singleton, e10]
    · rw [List.length_append, List.length_drop, List.length_singleton]; omega
    · rw [e1, row_s, upd_s]
    · rcases Nat.lt_or_ge i 9 with q | q
      · rw [List.getElem?_append_left (by rw [List.length_drop]; omega), List.getElem?_drop] at hi
        have := h5 (1 + i) r hi
        rw [show (f + 1) % 11 + i = ((f + 1) % 11 + i) from rfl, show ((f + 1) % 11 + i) % 11 = (f + (1 + i)) % 11 by omega]
        exact cw d1 _ r f1 this
      · rw [List.getElem?_append_right (by rw [List.length_drop]; omega), List.length_drop, e10] at hi
        have hi9 : i = 9 := by
          rcases Nat.lt_or_ge (i - (10 - 1)) 1 with z | z
          · omega
          · rw [List.getElem?_eq_none (by rw [List.length_singleton]; omega)] at hi
            cases hi
        rw [hi9] at hi ⊢
        have hi : s = r := Option.some.inj hi
        rw [e10] at hx
        rw [← hi, show ((f + 1) % 11 + 9) % 11 = (f + 10) % 11 by omega]
        exact cw d1 _ s f1 hx
  · have n10 : H.length ≠ 10 := fun z => g (by rw [z]; decide)
    have f2 : Fr (fun k i => k = 2 ∧ i = 0) d d2 := by rw [e2]; exact Fr_set (by decide) ⟨rfl, rfl⟩ d 0 _
    unfold keepH at hQ
    rw [if_neg n10] at hQ
    refine hQ d2 f f2 ⟨?_, ?_, h3, ?_, fun i r hi => ?_⟩
    · rw [e2, row_s, upd_s, List.length_append, List.length_singleton]
      exact nI_add H.length 1
    · rw [List.length_append, List.length_singleton]; omega
    · rw [e2, row_s, upd_n (by decide)]; exact h4
    · rcases Nat.lt_or_ge i H.length with q | q
      · rw [List.getElem?_append_left q] at hi
        exact cw d2 _ r f2 (h5 i r hi)
      · rw [List.getElem?_append_right q] at hi
        have hin : i = H.length := by
          rcases Nat.lt_or_ge (i - H.length) 1 with z | z
          · omega
          · rw [List.getElem?_eq_none (by rw [List.length_singleton]; omega)] at hi
            cases hi
        rw [hin, Nat.sub_self] at hi
        have hi : s = r := Option.some.inj hi
        rw [hin, ← hi]
        exact cw d2 _ s f2 hx
theorem c_recd {x : Int32} (hx : ax_row d 7 0 0 10 = x) (c : Int32) (Q : ax_P) (hQ : ∀ d', Fr (fun k i => k = 6 ∧ i = 0) d d' → ax_row d' 6 0 4 = recT (ax_row d 6 0 4) x c → Q d' (Sum.inl none)) : CT 111 [ax_vR 6 0 0, Sum.inl c] d Q := by
  refine w111 _ _ ?_
  rw [show ax_row d 7 (2 * 0) 0 10 = x from hx]
  refine (c_within _ _ _ d _).mpr ?_
  unfold recT at hQ
  cases hb : inB (x - 1) 0 511 with
  | false =>
    rw [hb] at hQ
    exact ⟨fun _ => hQ d (Fr_refl d) rfl, fun g => absurd rfl g⟩
  | true =>
    rw [hb] at hQ
    obtain ⟨n, -, hn, e⟩ := inB_ex (a := 0) (b := 511) hb (by omega) (by omega)
    refine ⟨fun g => absurd g (by decide), fun _ => ⟨by rw [e]; exact ax_in_nI (by omega) (by omega), fun d3 e3 => ?_⟩⟩
    exact hQ d3 (by rw [e3]; exact Fr_set (by decide) ⟨rfl, rfl⟩ d 4 _) (by rw [e3, row_s]; rfl)
end RG
