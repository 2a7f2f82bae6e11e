/-! foresee, on the check's side -/
theorem CO_gd : ∀ (l : List Cd) (s : Row) (H : List Row) (i : Nat), Ok s → s 3 = 1 → load s ≤ 20 → (∀ (j : Nat) (c : Cd), l[j]? = some c → VOkT c) → Gd s (CO l s H i).1 ∧ load (CO l s H i).1 ≤ 20 := by
  intro l
  induction l with
  | nil => intro s H i hk hp hL _; exact ⟨⟨hk, SP_refl s, hp⟩, hL⟩
  | cons c l ih =>
    intro s H i hk hp hL hv
    have hga := GA_act hk hp hL (cmd_ok (hv 0 c rfl)).2
    have hga : GA s (actS s (cmT c)) := hga
    have hv' : ∀ (j : Nat) (c : Cd), l[j]? = some c → VOkT c := fun j c' hj => hv (j + 1) c' hj
    unfold CO
    cases hr : actS s (cmT c) with
    | inl w => exact ⟨⟨hk, SP_refl s, hp⟩, hL⟩
    | inr s' =>
      rw [hr] at hga
      have hga : Gd s s' ∧ load s' ≤ 20 := hga
      show Gd s (if c.1 = 6 then CO l s' H (i + 1) else CO l (passS s') (keepH H s) (i + 1) : Row × List Row × Nat × (Int32 × Int32)).1 ∧ load (if c.1 = 6 then CO l s' H (i + 1) else CO l (passS s') (keepH H s) (i + 1) : Row × List Row × Nat × (Int32 × Int32)).1 ≤ 20
      by_cases e : c.1 = 6
      · rw [if_pos e]
        have := ih s' H (i + 1) hga.1.1 hga.1.2.2 hga.2 hv'
        exact ⟨Gd_trans hga.1 this.1, this.2⟩
      · rw [if_neg e]
        have gp := GL_pass hga.1.1 hga.1.2.2
        have := ih (passS s') (keepH H s) (i + 1) gp.1.1 gp.1.2.2 (Nat.le_trans gp.2 hga.2) hv'
        exact ⟨Gd_trans hga.1 (Gd_trans gp.1 this.1), this.2⟩
theorem m_copyTo {d : ax_D} (Q : ax_P) (hQ : CT 219 [ax_vR 9 0 0, Sum.inl 0] (sR d 29 (frS (mr d 29) (mr d 2) 369)) (kI (fun x2 d1 => h244_67 x2 0 d1 Q) (fun E d => Q d (Sum.inr E)))) : h244_34 0 d Q := by
  have key := lp_up (fun i => h244_34 (nI i) (sR d 29 (frS (mr d 29) (mr d 2) i)) Q) 369 ?_ ?_ 0 (Nat.zero_le _)
  · have key : h244_34 (nI 0) (sR d 29 (frS (mr d 29) (mr d 2) 0)) Q := key
    rw [frS_0, sR_id d 29 rfl] at key
    exact key
  · exact w244_34 _ ⟨fun _ => hQ, fun g => absurd (by decide) g⟩
  · intro i hi ih
    have ci : ax_in (nI i) 369 = true := ax_in_nI hi (by omega)
    refine w244_34 _ ⟨fun g => absurd g (by rw [Int32.not_le]; exact nI_lt (b := 369) hi (by omega)), fun _ => ⟨ci, ci, fun d1 e1 => ?_⟩⟩
    have q1 : d1 = sR (sR d 29 (frS (mr d 29) (mr d 2) i)) 29 (upd (mr (sR d 29 (frS (mr d 29) (mr d 2) i)) 29) (nI i).toNatClampNeg (mr (sR d 29 (frS (mr d 29) (mr d 2) i)) 2 (nI i).toNatClampNeg)) := e1
    rw [mr_sR, mr_sRn (by decide), sR_sR, nI_clamp (by omega), frS_succ] at q1
    rw [q1, show nI i + 1 = nI (i + 1) from nI_add i 1]
    exact ih
theorem m_copyBack {d : ax_D} (v : Int32) (Q : ax_P) (hQ : Q (sR d 2 (frS (mr d 2) (mr d 29) 369)) (Sum.inl (some (Sum.inl v)))) : h244_67 v 0 d Q := by
  have key := lp_up (fun i => h244_67 v (nI i) (sR d 2 (frS (mr d 2) (mr d 29) i)) Q) 369 ?_ ?_ 0 (Nat.zero_le _)
  · have key : h244_67 v (nI 0) (sR d 2 (frS (mr d 2) (mr d 29) 0)) Q := key
    rw [frS_0, sR_id d 2 rfl] at key
    exact key
  · exact w244_67 _ _ ⟨fun _ => hQ, fun g => absurd (by decide) g⟩
  · intro i hi ih
    have ci : ax_in (nI i) 369 = true := ax_in_nI hi (by omega)
    refine w244_67 _ _ ⟨fun g => absurd g (by rw [Int32.not_le]; exact nI_lt (b := 369) hi (by omega)), fun _ => ⟨ci, ci, fun d1 e1 => ?_⟩⟩
    have q1 : d1 = sR (sR d 2 (frS (mr d 2) (mr d 29) i)) 2 (upd (mr (sR d 2 (frS (mr d 2) (mr d 29) i)) 2) (nI i).toNatClampNeg (mr (sR d 2 (frS (mr d 2) (mr d 29) i)) 29 (nI i).toNatClampNeg)) := e1
    rw [mr_sR, mr_sRn (by decide), sR_sR, nI_clamp (by omega), frS_succ] at q1
    rw [q1, show nI i + 1 = nI (i + 1) from nI_add i 1]
    exact ih
theorem frS_back {a f s : Row} (ha : Ok a) (hs : Ok s) : frS a (frS f s 369) 369 = s := by
  funext k
  unfold frS
  by_cases h : k < 369
  · rw [if_pos h, if_pos h]
  · rw [if_neg h, ha.2.2.2.2.2.2 k (by omega), hs.2.2.2.2.2.2 k (by omega)]
