/-! undo, on both sides -/
section OU
variable {d : ax_D} {s : Row}
theorem m_opUndo {H : List Row} (hk : ∀ (i : Nat) (r : Row), H[i]? = some r → Ok r) (hs : mr d 2 = s) (hks : Ok s) (hh : mHist d H) (Q : ax_P)
    (h0 : H.length = 0 → ∀ d', FrM (fun _ => False) (fun k => k = 0) d d' → mv d' 0 = 1 → Q d' (Sum.inl (some (Sum.inl 0))))
    (hG : ∀ n r, H.length = n + 1 → H[n]? = some r → ∀ d', FrM (fun j => j = 2) (fun k => k = 0 ∨ k = 7) d d' → mv d' 0 = 0 → mr d' 2 = r → mHist d' (H.take n) → Q d' (Sum.inl (some (Sum.inl (nI n))))) : CT 270 [ax_vR 9 0 0] d Q := by
  refine w270 (fun d1 e1 => ?_)
  have q1 : d1 = sV d 0 0 := e1
  have e7 : ax_row d1 9 0 0 7 = nI H.length := by rw [q1]; exact (mv_sVn (by decide) _ _).trans hh.1
  have hl := hh.2.1
  rw [e7]
  refine ⟨fun g => (m_fails _ _ _).mpr ?_, fun g d4 e4 => ?_⟩
  · rw [q1]
    exact h0 ((nI_eq (by omega) (by omega)).mp (show nI H.length = nI 0 from g)) _ (FrM_trans (FrM_sV d (k := 0) (K := fun k => k = 0) rfl 0) (FrM_sV (sV d 0 0) (k := 0) (K := fun k => k = 0) rfl 1)) (mv_sV _ _ _)
  · obtain ⟨n, hn⟩ : ∃ n, H.length = n + 1 := ⟨H.length - 1, by
      have : H.length ≠ 0 := fun z => g (by rw [z]; rfl)
      omega⟩
    obtain ⟨r, hr⟩ : ∃ r, H[n]? = some r := ⟨H[n]'(by omega), List.getElem?_eq_getElem (by omega)⟩
    have q4 : d4 = sV d1 7 (nI n) := by
      rw [e4, hn, show nI (n + 1) - 1 = nI n from pk_sub (a := n + 1) (b := 1) (by omega)]; rfl
    have s4 : mr d4 2 = s := by rw [q4, mr_sV (by decide), q1, mr_sV (by decide)]; exact hs
    have m7 : mr d4 7 = mr d 7 := by rw [q4, mr_sV (by decide), q1, mr_sV (by decide)]
    have f4 : mv d4 7 = nI n := by rw [q4]; exact mv_sV _ _ _
    have key := lp_up (fun i => h270_30 (nI i) (sR d4 2 (frS s r i)) Q) 369 ?_ ?_ 0 (Nat.zero_le _)
    · have key : h270_30 (nI 0) (sR d4 2 (frS s r 0)) Q := key
      rw [frS_0, sR_id d4 2 s4] at key
      exact key
    · have e : ax_row (sR d4 2 (frS s r 369)) 9 0 0 7 = nI n := (mv_sR (by decide) d4 7 _).trans f4
      refine w270_30 _ ⟨fun _ => ?_, fun g => absurd (by decide) g⟩
      rw [e]
      have er : frS s r 369 = r := by
        funext k
        unfold frS
        by_cases h : k < 369
        · rw [if_pos h]
        · rw [if_neg h, hks.2.2.2.2.2.2 k (by omega), (hk n r hr).2.2.2.2.2.2 k (by omega)]
      rw [er]
      refine hG n r hn hr _ ?_ ?_ (mr_sR _ _ _) ?_
      · rw [q4, q1]
        exact FrM_trans (FrM_sV d (k := 0) (K := fun k => k = 0 ∨ k = 7) (Or.inl rfl) 0) (FrM_trans (FrM_sV _ (k := 7) (K := fun k => k = 0 ∨ k = 7) (Or.inr rfl) _) ⟨rfl, rfl, fun j _ b => mr_sRn b _ r, fun k _ => mv_sR (by decide) _ k r⟩)
      · rw [mv_sR (by decide), q4, mv_sVn (by decide), q1]; exact mv_sV _ _ _
      · refine ⟨?_, ?_, fun j x hj k hk2 => ?_⟩
        · rw [mv_sR (by decide), f4, List.length_take, Nat.min_eq_left (by omega)]
        · rw [List.length_take]; omega
        · rw [mr_sRn (by decide), m7]
          refine hh.2.2 j x ?_ k hk2
          rw [List.getElem?_take] at hj
          by_cases h : j < n
          · rw [if_pos h] at hj; exact hj
          · rw [if_neg h] at hj; cases hj
    · intro i hi ih
      have e : ax_row (sR d4 2 (frS s r i)) 9 0 0 7 = nI n := (mv_sR (by decide) d4 7 _).trans f4
      refine w270_30 _ ⟨fun g => absurd g (by rw [Int32.not_le]; exact nI_lt (b := 369) hi (by omega)), fun _ => ?_⟩
      rw [e, show (369 : Int32) * nI n = nI (369 * n) from pk_mul 369 n, nI_add]
      refine ⟨ax_in_nI (by omega) (by omega), ax_in_nI hi (by omega), fun d5 e5 => ?_⟩
      have q5 : d5 = sR (sR d4 2 (frS s r i)) 2 (upd (mr (sR d4 2 (frS s r i)) 2) (nI i).toNatClampNeg (mr (sR d4 2 (frS s r i)) 7 (nI (369 * n + i)).toNatClampNeg)) := e5
      rw [mr_sR, mr_sRn (by decide), sR_sR, nI_clamp (by omega), nI_clamp (by omega), m7, hh.2.2 n r hr i hi, frS_succ] at q5
      rw [q5, show nI i + 1 = nI (i + 1) from nI_add i 1]
      exact ih
end OU
