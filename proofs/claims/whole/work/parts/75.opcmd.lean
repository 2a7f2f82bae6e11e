/-! command, on both sides -/
def SY : Nat → Nat → Prop := fun k i => SX k i ∨ (k = 4 ∧ i = 0)
def cmd0 (R : Row) : Row := upd (upd (upd (upd R 7 (-1)) 8 0) 9 (-1)) 10 (-1)
section OC
variable {d : ax_D} {s tx : Row} {ln : Nat}
theorem Cx_Fr {S : Nat → Nat → Prop} {d' : ax_D} (h : CC d 0 s) (f : Fr S d d') (h3 : ¬ S 3 0) (h7 : ¬ S 7 0) : CC d' 0 s := ⟨Cp_Fr f h3 h.1, Cw_Fr f h7 h.2.1, h.2.2⟩
theorem c_opCmd {f : Nat} {H : List Row} (hC : CC d 0 s) (hL : load s ≤ 20) (ht : ax_row d 4 0 1 = tx) (h1 : ax_row d 4 0 0 1 = nI ln) (hl : ln ≤ 80) (hh : s 3 = 1 → cHist d f H) (Q : ax_P)
    (h0 : ¬ s 3 = 1 → Q d (Sum.inr 0))
    (hF : s 3 = 1 → ∀ g, CS tx ln = Sum.inl g → g ≤ 80 → ∀ d', Fr (fun k i => (k = 4 ∧ i = 0) ∨ (k = 8 ∧ i = 0)) d d' → ax_row d' 4 0 1 = tx → ax_row d' 4 0 0 1 = 0 → ax_row d' 8 0 0 = upd (ax_row d 8 0 0) 7 (nI g) → Q d' (Sum.inr 1))
    (hG : s 3 = 1 → ∀ l, CS tx ln = Sum.inr l → ∀ d' f', Fr SY d d' → CC d' 0 (CO l s H 0).1 → cHist d' f' (CO l s H 0).2.1 → ax_row d' 6 0 4 = TO l s (ax_row d 6 0 4) → ax_row d' 8 0 0 = refR (cmd0 (ax_row d 8 0 0)) (CO l s H 0).2.2.2.1 (CO l s H 0).2.2.2.2 (CO l s H 0).2.2.1 → ax_row d' 4 0 1 = tx → ax_row d' 4 0 0 1 = 0 → Q d' (Sum.inl (some (Sum.inl (nI (CO l s H 0).2.2.1))))) : CT 112 [ax_vR 8 0 0] d Q := by
  refine w112 (w32 ((c_played hC.2.1 hC.2.2 _).mpr ?_))
  by_cases hp : s 3 = 1
  case neg =>
    rw [show plays s = false from decide_eq_false hp]
    exact ⟨fun _ => h0 hp, fun g => absurd rfl g⟩
  rw [show plays s = true from decide_eq_true hp]
  refine ⟨fun g => absurd g (by decide), fun _ => ?_⟩
  have hh := hh hp
  refine c_read hl ht h1 _ ?_
  -- behind the reading
  have aft : ∀ d2 d4 d5 x, FrS d d2 → d4 = ax_set d2 8 0 0 (upd (ax_row d2 8 0 0) 7 x) → d5 = ax_set d4 4 0 0 (upd (ax_row d4 4 0 0) 1 0) → Fr (fun k i => (k = 4 ∧ i = 0) ∨ (k = 8 ∧ i = 0)) d d5 ∧ ax_row d5 4 0 1 = tx ∧ ax_row d5 4 0 0 1 = 0 ∧ ax_row d5 8 0 0 = upd (ax_row d 8 0 0) 7 x ∧ (∀ t, t ≠ 1 → ax_row d5 4 0 0 t = ax_row d2 4 0 0 t) ∧ ax_row d5 4 0 3 = ax_row d2 4 0 3 := by
    intro d2 d4 d5 x f2 e4 e5
    have g4 : Fr (fun k i => k = 8 ∧ i = 0) d2 d4 := by rw [e4]; exact Fr_set (by decide) ⟨rfl, rfl⟩ d2 0 _
    have g5 : Fr (fun k i => k = 4 ∧ i = 0) d4 d5 := by rw [e5]; exact Fr_set (by decide) ⟨rfl, rfl⟩ d4 0 _
    have r4 : ∀ j, ax_row d4 4 0 j = ax_row d2 4 0 j := fun j => Fr_row g4 (fun z => by cases z.1) j
    have r8 : ax_row d2 8 0 0 = ax_row d 8 0 0 := Fr_row f2.1 (fun z => by cases z.1) 0
    refine ⟨Fr_trans (Fr_mono f2.1 (fun k i z => Or.inl z)) (Fr_trans (Fr_mono g4 (fun k i z => Or.inr z)) (Fr_mono g5 (fun k i z => Or.inl z))), ?_, ?_, ?_, fun t ht => ?_, ?_⟩
    · rw [e5, row_j (by decide), r4 1, f2.2.1]; exact ht
    · rw [e5, row_s, upd_s]
    · rw [Fr_row g5 (fun z => by cases z.1) 0, e4, row_s, r8]
    · rw [e5, row_s, upd_n ht, r4 0]
    · rw [e5, row_j (by decide), r4 3]
  cases hc : CS tx ln with
  | inl g =>
    intro d2 f2 hg d4 e4
    refine w96 (fun d5 e5 => ?_)
    obtain ⟨k1, k2, k3, k4, -, -⟩ := aft d2 d4 d5 _ f2 e4 e5
    refine w31 _ ?_
    have e7 : ax_row d5 8 0 0 7 = nI g := by rw [k4, upd_s]
    rw [e7]
    exact ⟨fun z => absurd z (nI_nm (by omega)), fun _ => hF hp g hc hg d5 k1 k2 k3 k4⟩
  | inr l =>
    intro d2 f2 g3 g20 gc d4 e4
    refine w96 (fun d5 e5 => ?_)
    obtain ⟨k1, k2, k3, k4, k5, k6⟩ := aft d2 d4 d5 _ f2 e4 e5
    refine w31 _ ?_
    have e7 : ax_row d5 8 0 0 7 = -1 := by rw [k4, upd_s]
    rw [e7]
    refine ⟨fun _ d7 q7 d8 q8 d9 q9 => ?_, fun z => absurd rfl z⟩
    have s8 : ∀ (a b : ax_D) (R : Row), b = ax_set a 8 0 0 R → Fr (fun k i => k = 8 ∧ i = 0) a b := fun a b R e => by rw [e]; exact Fr_set (by decide) ⟨rfl, rfl⟩ a 0 R
    have f59 : Fr (fun k i => k = 8 ∧ i = 0) d5 d9 := Fr_trans (s8 _ _ _ q7) (Fr_trans (s8 _ _ _ q8) (s8 _ _ _ q9))
    have F9 : Fr (fun k i => (k = 4 ∧ i = 0) ∨ (k = 8 ∧ i = 0)) d d9 := Fr_trans k1 (Fr_mono f59 (fun k i z => Or.inr z))
    have r8 : ax_row d9 8 0 0 = cmd0 (ax_row d 8 0 0) := by rw [q9, row_s, q8, row_s, q7, row_s, k4]; rfl
    have r4 : ∀ j, ax_row d9 4 0 j = ax_row d5 4 0 j := fun j => Fr_row f59 (fun z => by cases z.1) j
    have n2 : ∀ (k i : Nat), k ≠ 4 → k ≠ 8 → ¬ ((k = 4 ∧ i = 0) ∨ (k = 8 ∧ i = 0)) := fun k i h4 h8 z => by
      rcases z with z | z
      · exact h4 z.1
      · exact h8 z.1
    have c9 : CC d9 0 s := Cx_Fr hC F9 (n2 3 0 (by decide) (by decide)) (n2 7 0 (by decide) (by decide))
    have h9 : cHist d9 f H := hist_Fr hh F9 (n2 2 0 (by decide) (by decide)) (fun j _ => n2 7 _ (by decide) (by decide))
    refine c_carry l 0 f d9 s H Q c9 hp hL ?_ (by omega) (fun j c hj => ?_) h9 ?_
    · rw [r4 0, k5 3 (by decide), g3, Nat.zero_add]
    · rw [r4 3, k6, Nat.zero_add]
      exact gc j c hj
    · intro d' f' m1 m2 m3 m4 m5
      have m6 : ∀ j, ax_row d' 4 0 j = ax_row d9 4 0 j := fun j => Fr_row m1 (fun z => by
        rcases z with z | z | z | z | z <;> cases z.1) j
      refine hG hp l hc d' f' (Fr_trans (Fr_mono F9 (fun k i z => ?_)) (Fr_mono m1 (fun k i z => Or.inl z))) m2 m3 ?_ ?_ ?_ ?_
      · rcases z with z | z
        · exact Or.inr z
        · exact Or.inl (Or.inr (Or.inr (Or.inr (Or.inr z))))
      · rw [m4, Fr_row F9 (n2 6 0 (by decide) (by decide)) 4]
      · rw [m5, r8]
      · rw [m6 1, r4 1]; exact k2
      · rw [m6 0, r4 0]; exact k3
end OC
