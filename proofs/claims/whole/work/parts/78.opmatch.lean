/-! matching, on the class's side -/
section OP
variable {d : ax_D} {s tx : Row} {ln : Nat}
theorem c_opMatch (hC : CC d 0 s) (ht : ax_row d 4 0 1 = tx) (h1 : ax_row d 4 0 0 1 = nI ln) (hl : ln ≤ 80) (Q : ax_P)
    (h0 : ¬ s 3 = 1 → Q d (Sum.inr 0))
    (hF : s 3 = 1 → ∀ g, OP tx ln = Sum.inl g → ∀ d', Fr (fun k i => (k = 4 ∧ i = 0) ∨ (k = 8 ∧ i = 0)) d d' → ax_row d' 4 0 1 = tx → ax_row d' 4 0 0 1 = 0 → ax_row d' 8 0 0 = upd (ax_row d 8 0 0) 7 (nI g) → Q d' (Sum.inr 1))
    (hG : s 3 = 1 → ∀ x, OP tx ln = Sum.inr x → x < 32 → ∀ d', Fr (fun k i => (k = 4 ∧ i = 0) ∨ (k = 8 ∧ i = 0)) d d' → ax_row d' 4 0 1 = tx → ax_row d' 4 0 0 1 = 0 → ax_row d' 8 0 0 = upd (ax_row d 8 0 0) 7 (-1) → Q d' (Sum.inl (some (Sum.inl (setI (namedP s (nI (x % 8)) (nI (x / 8))) (nT s) &&& setI (seen s) (nT s)))))) : CT 137 [ax_vR 8 0 0] d Q := by
  refine w137 (w32 ((c_played hC.2.1 hC.2.2 _).mpr ?_))
  by_cases hp : s 3 = 1
  case neg =>
    rw [show plays s = false from decide_eq_false hp]
    exact ⟨fun _ => h0 hp, fun g => absurd rfl g⟩
  rw [show plays s = true from decide_eq_true hp]
  refine ⟨fun g => absurd g (by decide), fun _ => ?_⟩
  refine c_onePh hl ht h1 _ ?_
  have aft : ∀ d2 d4 d5 x, FrP d d2 → d4 = ax_set d2 8 0 0 (upd (ax_row d2 8 0 0) 7 x) → d5 = ax_set d4 4 0 0 (upd (ax_row d4 4 0 0) 1 0) → Fr (fun k i => (k = 4 ∧ i = 0) ∨ (k = 8 ∧ i = 0)) d d5 ∧ ax_row d5 4 0 1 = tx ∧ ax_row d5 4 0 0 1 = 0 ∧ ax_row d5 8 0 0 = upd (ax_row d 8 0 0) 7 x ∧ ax_row d5 4 0 0 4 = ax_row d2 4 0 0 4 := by
    intro d2 d4 d5 x f2 e4 e5
    have g4 : Fr (fun k i => k = 8 ∧ i = 0) d2 d4 := by rw [e4]; exact Fr_set (by decide) ⟨rfl, rfl⟩ d2 0 _
    have g5 : Fr (fun k i => k = 4 ∧ i = 0) d4 d5 := by rw [e5]; exact Fr_set (by decide) ⟨rfl, rfl⟩ d4 0 _
    have r4 : ∀ j, ax_row d4 4 0 j = ax_row d2 4 0 j := fun j => Fr_row g4 (fun z => by cases z.1) j
    have r8 : ax_row d2 8 0 0 = ax_row d 8 0 0 := Fr_row f2.1 (fun z => by cases z.1) 0
    refine ⟨Fr_trans (Fr_mono f2.1 (fun k i z => Or.inl z)) (Fr_trans (Fr_mono g4 (fun k i z => Or.inr z)) (Fr_mono g5 (fun k i z => Or.inl z))), ?_, ?_, ?_, ?_⟩
    · rw [e5, row_j (by decide), r4 1, f2.2.1]; exact ht
    · rw [e5, row_s, upd_s]
    · rw [Fr_row g5 (fun z => by cases z.1) 0, e4, row_s, r8]
    · rw [e5, row_s, upd_n (by decide), r4 0]
  cases hc : OP tx ln with
  | inl g =>
    intro d2 f2 hg d4 e4
    refine w96 (fun d5 e5 => ?_)
    obtain ⟨k1, k2, k3, k4, -⟩ := aft d2 d4 d5 _ f2 e4 e5
    refine w31 _ ?_
    rw [show ax_row d5 8 0 0 7 = nI g by rw [k4, upd_s]]
    exact ⟨fun z => absurd z (nI_nm (by omega)), fun _ => hF hp g hc d5 k1 k2 k3 k4⟩
  | inr x =>
    intro d2 f2 g4 hx d4 e4
    refine w96 (fun d5 e5 => ?_)
    obtain ⟨k1, k2, k3, k4, k5⟩ := aft d2 d4 d5 _ f2 e4 e5
    refine w31 _ ?_
    rw [show ax_row d5 8 0 0 7 = -1 by rw [k4, upd_s]]
    refine ⟨fun _ => ?_, fun z => absurd rfl z⟩
    have c5 : CC d5 0 s := Cx_Fr hC k1 (fun z => by rcases z with z | z <;> cases z.1) (fun z => by rcases z with z | z <;> cases z.1)
    show CT 45 [ax_vR 3 0 0, Sum.inl (ax_row d5 4 0 0 4)] d5 _
    rw [k5, g4]
    refine (c_named (p := 0) c5.1 c5.2.2 hx _).mpr ((c_visible (a := 0) c5 (decide_eq_true hp) _).mpr ?_)
    exact hG hp x hc hx d5 k1 k2 k3 k4
end OP
