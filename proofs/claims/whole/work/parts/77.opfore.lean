/-! foresee, on the class's side; how many commands a text holds -/
section OF
variable {d : ax_D} {s tx : Row} {ln : Nat}
theorem CSN_ok : ∀ (n a : Nat) (l : List Cd), a ≤ ln → CSN tx ln n a = Sum.inr l → 4 * l.length ≤ ln - a + 2 ∧ ∀ (j : Nat) (c : Cd), l[j]? = some c → VOkT c := by
  intro n
  induction n with
  | zero =>
    intro a l ha h
    have : ([] : List Cd) = l := Sum.inr.inj h
    rw [← this]
    exact ⟨by rw [List.length_nil]; omega, fun j c hj => by cases hj⟩
  | succ n ih =>
    intro a l ha h
    unfold CSN at h
    cases hc : CM tx ln a with
    | inl f => simp only [hc] at h; cases h
    | inr cb =>
      obtain ⟨c, b⟩ := cb
      simp only [hc] at h
      obtain ⟨b1, b2, hv⟩ := CM_b ha hc
      by_cases e : b = ln
      · rw [if_pos e] at h
        have : [c] = l := Sum.inr.inj h
        rw [← this]
        refine ⟨by rw [List.length_singleton]; omega, fun j c' hj => ?_⟩
        cases j with
        | zero =>
          have : c = c' := Option.some.inj hj
          rw [← this]; exact hv
        | succ j => cases hj
      · rw [if_neg e] at h
        cases hw : RW tx ln 33 1 b with
        | inl f => simp only [hw] at h; cases h
        | inr w =>
          simp only [hw] at h
          obtain ⟨m1, m2, m3⟩ := RW_lt hw
          have ew : w = 33 := by omega
          rw [ew] at m3
          have hb2 : b + 2 ≤ ln := full_ln b2 m3
          cases hs : CSN tx ln n (b + 2) with
          | inl f => simp only [hs] at h; cases h
          | inr l' =>
            simp only [hs] at h
            have : c :: l' = l := Sum.inr.inj h
            rw [← this]
            obtain ⟨i1, i2⟩ := ih (b + 2) l' hb2 hs
            refine ⟨by rw [List.length_cons]; omega, fun j c' hj => ?_⟩
            cases j with
            | zero =>
              have : c = c' := Option.some.inj hj
              rw [← this]; exact hv
            | succ j => exact i2 j c' hj
theorem CS_ok (hl : ln ≤ 80) (l : List Cd) (h : CS tx ln = Sum.inr l) : l.length ≤ 20 ∧ ∀ (j : Nat) (c : Cd), l[j]? = some c → VOkT c := by
  obtain ⟨h1, h2⟩ := CSN_ok 22 0 l (Nat.zero_le _) h
  exact ⟨by omega, h2⟩
theorem c_opFore (hC : CC d 0 s) (hL : load s ≤ 20) (ht : ax_row d 4 0 1 = tx) (h1 : ax_row d 4 0 0 1 = nI ln) (hl : ln ≤ 80) (H : List Row) (Q : ax_P)
    (h0 : ¬ s 3 = 1 → Q d (Sum.inr 0))
    (hF : s 3 = 1 → ∀ g, CS tx ln = Sum.inl g → ∀ d', FrS d d' → Q d' (Sum.inr 1))
    (hG : s 3 = 1 → ∀ l, CS tx ln = Sum.inr l → ∀ d', Fr (fun k i => (k = 4 ∧ i = 0) ∨ (k = 7 ∧ i = 15) ∨ (k = 0 ∧ i = 1)) d d' → ax_row d' 4 0 1 = tx → ax_row d' 4 0 0 1 = nI ln → Q d' (Sum.inl (some (Sum.inl (nI (CO l s H 0).2.2.1))))) : CT 127 [ax_vR 8 0 0] d Q := by
  refine w127 (w32 ((c_played hC.2.1 hC.2.2 _).mpr ?_))
  by_cases hp : s 3 = 1
  case neg =>
    rw [show plays s = false from decide_eq_false hp]
    exact ⟨fun _ => h0 hp, fun g => absurd rfl g⟩
  rw [show plays s = true from decide_eq_true hp]
  refine ⟨fun g => absurd g (by decide), fun _ => ?_⟩
  refine c_read hl ht h1 _ ?_
  cases hc : CS tx ln with
  | inl g =>
    intro d2 f2 hg
    refine w31 _ ?_
    exact ⟨fun z => absurd z (nI_nm (by omega)), fun _ => hF hp g hc d2 f2⟩
  | inr l =>
    intro d2 f2 g3 g20 gc
    refine w31 _ ?_
    refine ⟨fun _ => ?_, fun z => absurd rfl z⟩
    refine c_copy (w := 15) (p := 0) (by omega) d2 _ (fun d3 f3 e3 => ?_)
    have c2 : CC d2 0 s := Cx_Fr hC f2.1 (fun z => by cases z.1) (fun z => by cases z.1)
    have c3 : CC d3 15 s := ⟨Cp_Fr f3 (fun z => by cases z.1) c2.1, WEq_Cw e3 c2.2.2 c2.2.1, c2.2.2⟩
    have r4 : ∀ j, ax_row d3 4 0 j = ax_row d2 4 0 j := fun j => Fr_row f3 (fun z => by cases z.1) j
    refine c_fore l 0 d3 s H Q c3 hp hL ?_ (by omega) (fun j c hj => ?_) (fun d' f' => ?_)
    · rw [r4 0, g3, Nat.zero_add]
    · rw [r4 3, Nat.zero_add]
      exact gc j c hj
    · have r4' : ∀ j, ax_row d' 4 0 j = ax_row d3 4 0 j := fun j => Fr_row f' (fun z => by rcases z with z | z <;> cases z.1) j
      refine hG hp l hc d' (Fr_trans (Fr_mono f2.1 (fun k i z => Or.inl z)) (Fr_trans (Fr_mono f3 (fun k i z => Or.inr (Or.inl z))) (Fr_mono f' (fun k i z => Or.inr z)))) ?_ ?_
      · rw [r4' 1, r4 1, f2.2.1]; exact ht
      · rw [r4' 0, r4 0, f2.2.2 1 (by decide) (by decide) (by decide)]; exact h1
end OF
