/-! undo, on the class's side -/
section OUC
variable {d : ax_D} {s : Row}
theorem c_opUndo {f : Nat} {H : List Row} (hk : ∀ (i : Nat) (r : Row), H[i]? = some r → Ok r ∧ SP s r) (hC : CC d 0 s) (hh : cHist d f H) (Q : ax_P)
    (h0 : H.length = 0 → Q d (Sum.inr 0))
    (hG : ∀ n r, H.length = n + 1 → H[n]? = some r → ∀ d', Fr (fun k i => (k = 2 ∧ i = 0) ∨ (k = 7 ∧ i = 0)) d d' → CC d' 0 r → cHist d' f (H.take n) → Q d' (Sum.inl (some (Sum.inl (nI n))))) : CT 161 [ax_vR 8 0 0] d Q := by
  obtain ⟨h1, h2, h3, h4, h5⟩ := hh
  refine w161 ?_
  rw [h1]
  refine ⟨fun g => h0 ((nI_eq (by omega) (by omega)).mp (show nI H.length = nI 0 from g)), fun g => ?_⟩
  obtain ⟨n, hn⟩ : ∃ n, H.length = n + 1 := ⟨H.length - 1, by
    have : H.length ≠ 0 := fun z => g (by rw [z]; rfl)
    omega⟩
  obtain ⟨r, hr⟩ : ∃ r, H[n]? = some r := ⟨H[n]'(by omega), List.getElem?_eq_getElem (by omega)⟩
  refine w160 _ ?_
  rw [h1]
  refine ⟨fun z => absurd z (by rw [hn]; exact nI_ge (a := 0) (by omega) (by omega)), fun _ d1 e1 => ?_⟩
  rw [hn, show nI (n + 1) - 1 = nI n from pk_sub (a := n + 1) (b := 1) (by omega)] at e1
  have f1 : Fr (fun k i => k = 2 ∧ i = 0) d d1 := by rw [e1]; exact Fr_set (by decide) ⟨rfl, rfl⟩ d 0 _
  have x1 : ax_row d1 2 0 0 1 = nI f := by rw [e1, row_s, upd_n (by decide)]; exact h4
  have x2 : ax_row d1 2 0 0 2 = nI n := by rw [e1, row_s, upd_s]
  rw [x1, x2, rem11 h3 (by omega), nI_clamp (by have := Nat.mod_lt (f + n) (show 0 < 11 by decide); omega)]
  have hm := Nat.mod_lt (f + n) (show 0 < 11 by decide)
  refine ⟨ax_in_nI hm (by omega), c_copy (by omega) d1 _ (fun d2 f2 e2 => ?_)⟩
  have y2 : ax_row d2 2 0 0 2 = nI n := by rw [Fr_row f2 (fun z => by cases z.1) 0]; exact x2
  have cw : Cw d1 (4 + (f + n) % 11) r := Cw_Fr f1 (fun z => by cases z.1) (h5 n r hr)
  show Q d2 (Sum.inl (some (Sum.inl (ax_row d2 2 0 0 2))))
  rw [y2]
  refine hG n r hn hr d2 (Fr_trans (Fr_mono f1 (fun k i z => Or.inl z)) (Fr_mono f2 (fun k i z => Or.inr z))) ⟨?_, WEq_Cw e2 (hk n r hr).1 cw, (hk n r hr).1⟩ ⟨?_, ?_, h3, ?_, fun i x hi => ?_⟩
  · exact Cp_SP (Cp_Fr f2 (fun z => by cases z.1) (Cp_Fr f1 (fun z => by cases z.1) hC.1)) (hk n r hr).2
  · rw [y2, List.length_take, Nat.min_eq_left (by omega)]
  · rw [List.length_take]; omega
  · rw [Fr_row f2 (fun z => by cases z.1) 0]; exact x1
  · rw [List.getElem?_take] at hi
    by_cases h : i < n
    · rw [if_pos h] at hi
      exact Cw_Fr f2 (fun z => by have := z.2; omega) (Cw_Fr f1 (fun z => by cases z.1) (h5 i x hi))
    · rw [if_neg h] at hi; cases hi
end OUC
