/-! put -/
section PT
variable {d : ax_D} {n : Nat}
/-- the target is wrong -/
def wrP (s : Row) (p g : Int32) : Bool := inB p 1 2 && !decide (s (111 + g.toNatClampNeg) = p)
def putB (s : Row) (t : Nat) (p g : Int32) : Bool := cond (inB p 1 2) (!inside s g.toNatClampNeg t && (!decide (s (175 + g.toNatClampNeg) < nI (filled s g (nI t) + sz s t)) && bear s t p g)) (bear s t p g)
theorem bear_0 {s : Row} (h : Ok s) (hL : load s ≤ 20) {t r : Nat} (ht : t < nT s) (hr : r < nR s) : bear s t 0 (nI r) = true := by
  have hm : MvOk s t 0 (nI r) := ⟨ht, Or.inl ⟨rfl, r, hr, rfl⟩⟩
  have ho : outer (moves s t 0 (nI r)) t ≠ -1 := by
    rw [mo_out_f (by decide) (by decide), if_pos rfl]
    have := (Pk_R h.1).2
    exact nI_nm (by omega)
  exact decide_eq_true (Nat.le_trans (load_le h hm ho) hL)
theorem bear_4 {s : Row} (h : Ok s) (hL : load s ≤ 20) {t : Nat} (ht : t < nT s) (g : Int32) : bear s t 4 g = true := by
  have hm : MvOk s t 4 g := ⟨ht, Or.inr (Or.inr (Or.inr (Or.inr rfl)))⟩
  have ho : outer (moves s t 4 g) t ≠ -1 := by
    rw [mo_out_f (by decide) (by decide), if_neg (by decide), if_neg (by decide)]
    decide
  exact decide_eq_true (Nat.le_trans (load_le h hm ho) hL)
theorem pl_cases {s : Row} {p g : Int32} (h : isPl s p g = true) : (p = 0 ∧ isRm s g = true) ∨ ((p = 1 ∨ p = 2) ∧ isTh s g = true) ∨ p = 3 ∨ p = 4 := by
  have hb : inB p 0 4 = true := by
    unfold isPl at h
    rw [Bool.and_eq_true] at h
    exact h.1
  rcases in5 hb with e | e | e | e | e <;> subst e
  · rw [isPl_0] at h; exact Or.inl ⟨rfl, h⟩
  · rw [isPl_1] at h; exact Or.inr (Or.inl ⟨Or.inl rfl, h⟩)
  · rw [isPl_2] at h; exact Or.inr (Or.inl ⟨Or.inr rfl, h⟩)
  · exact Or.inr (Or.inr (Or.inl rfl))
  · exact Or.inr (Or.inr (Or.inr rfl))
theorem f_t {b : Bool} (h : ¬ b = false) : b = true := by
  cases b with
  | true => rfl
  | false => exact absurd rfl h
theorem wrP_kind {s : Row} {p : Int32} {q : Nat} (hp : p = 1 ∨ p = 2) (hq : q < 16) (hw : wrP s p (nI q) = false) : s (111 + q) = p := by
  have hb : inB p 1 2 = true := by rcases hp with e | e <;> rw [e] <;> decide
  unfold wrP at hw
  rw [hb, Bool.true_and, nI_clamp (by omega)] at hw
  cases hd : decide (s (111 + q) = p) with
  | true => exact of_decide_eq_true hd
  | false => rw [hd] at hw; cases hw
theorem putB_hold {s : Row} {t q : Nat} {p : Int32} (hp : p = 1 ∨ p = 2) (hq : q < 16) : putB s t p (nI q) = (!inside s q t && (!decide (s (175 + q) < nI (filled s (nI q) (nI t) + sz s t)) && bear s t p (nI q))) := by
  have hb : inB p 1 2 = true := by rcases hp with e | e <;> rw [e] <;> decide
  unfold putB
  rw [hb, nI_clamp (by omega)]; rfl
/-- the class's answer to whether a thing may be put there -/
theorem c_allows {s : Row} (hC : CC d 0 s) (hL : load s ≤ 20) {t : Nat} (ht : t < nT s) {p g : Int32} (hpl : isPl s p g = true) (hw : wrP s p g = false) (Q : ax_P) : CT 141 [ax_vR 7 0 0, Sum.inl (nI t), Sum.inl p, Sum.inl g] d Q ↔ Q d (Sum.inl (some (Sum.inl (b2i (putB s t p g))))) := by
  have hk := hC.2.2
  have hl := Ok_lt hk ht
  have hle : (nI (loadW s t) ≤ 20) = (loadW s t ≤ 20) := propext (nI_leI (b := 20) (by have := loadW_lt hk t; omega) (by omega))
  have hgt : (20 < nI (loadW s t)) = ¬ (loadW s t ≤ 20) := by rw [← hle, Int32.not_le]
  refine ct_iff (w141 _ _ _ _ ?_) Q
  rcases pl_cases hpl with ⟨e, hg⟩ | ⟨hp, hg⟩ | e | e
  · subst e
    obtain ⟨r, hr, rfl⟩ := isRm_ex hk hg
    have e : putB s t 0 (nI r) = true := (show putB s t 0 (nI r) = bear s t 0 (nI r) from rfl).trans (bear_0 hk hL ht hr)
    rw [e]
    exact ⟨fun z => absurd z (by decide), fun _ => ⟨fun z => absurd z (by decide), fun _ => ⟨fun z => absurd z (by decide), fun _ => ⟨rfl, rfl⟩⟩⟩⟩
  · obtain ⟨q, hq, rfl⟩ := isTh_ex hk hg
    have hq16 := Ok_lt hk hq
    have hkq := wrP_kind hp hq16 hw
    have eP := putB_hold (s := s) (t := t) hp hq16
    have tail : ∀ s0 : Int32, (inside s q t = false → (s0 = 0 ↔ bear s t p (nI q) = true)) → h141_57 0 (nI t) p (nI q) s0 d (fun d' r => d' = d ∧ r = Sum.inl (some (Sum.inl (b2i (putB s t p (nI q)))))) := by
      intro s0 h0
      refine w141_57 _ _ _ _ _ ((c_inside hC hq hl _).mpr ⟨fun z => ?_, fun z => ?_⟩)
      · have hi := b2i_z.mp z
        refine (c_fits (a := 0) hC ht hq _).mpr ⟨fun y => ?_, fun y => ⟨fun w => ?_, fun w => ?_⟩⟩
        · rw [eP, hi, b2i_z.mp y]; exact ⟨rfl, rfl⟩
        · rw [eP, hi, f_t (fun x => y (b2i_z.mpr x)), (h0 hi).mp w]; exact ⟨rfl, rfl⟩
        · have nb : bear s t p (nI q) = false := by
            cases hb : bear s t p (nI q) with
            | false => rfl
            | true => exact absurd ((h0 hi).mpr hb) w
          rw [eP, nb, Bool.and_false, Bool.and_false]; exact ⟨rfl, rfl⟩
      · rw [eP, f_t (fun x => z (b2i_z.mpr x))]; exact ⟨rfl, rfl⟩
    have h33 : h141_33 0 (nI t) p (nI q) d (fun d' r => d' = d ∧ r = Sum.inl (some (Sum.inl (b2i (putB s t p (nI q)))))) := by
      refine w141_33 _ _ _ _ ((c_outer hC hq _).mpr ⟨fun z => (c_loadW hC hl _).mpr ?_, fun z => tail 0 (fun hi => ?_)⟩)
      · show ((nI (loadW s t) ≤ 20) → _) ∧ (¬ (nI (loadW s t) ≤ 20) → _)
        rw [hle]
        refine ⟨fun y => tail 0 (fun hi => ?_), fun y => tail 1 (fun hi => ?_)⟩
        · rw [bear_hold hk hL ht hq hp hkq hi, decide_eq_true z, decide_eq_true y]
          exact ⟨fun _ => rfl, fun _ => rfl⟩
        · rw [bear_hold hk hL ht hq hp hkq hi, decide_eq_true z, decide_eq_false y]
          exact ⟨fun x => absurd x (by decide), fun x => by cases x⟩
      · rw [bear_hold hk hL ht hq hp hkq hi, decide_eq_false z]
        exact ⟨fun _ => rfl, fun _ => rfl⟩
    rcases hp with e | e <;> subst e
    · exact ⟨fun z => absurd z (by decide), fun _ => ⟨fun _ => h33, fun z => absurd rfl z⟩⟩
    · exact ⟨fun z => absurd z (by decide), fun _ => ⟨fun z => absurd z (by decide), fun _ => ⟨fun _ => h33, fun z => absurd rfl z⟩⟩⟩
  · subst e
    have eb : putB s t 3 g = bear s t 3 g := rfl
    rw [eb, ← loadW_bear hC ht g]
    refine ⟨fun _ => (c_loadW hC hl _).mpr ?_, fun z => absurd rfl z⟩
    show ((20 < nI (loadW s t)) → _) ∧ (¬ (20 < nI (loadW s t)) → _)
    rw [hgt]
    refine ⟨fun z => ?_, fun z => ?_⟩
    · rw [decide_eq_false z]; exact ⟨rfl, rfl⟩
    · rw [decide_eq_true (Classical.not_not.mp z)]; exact ⟨rfl, rfl⟩
  · subst e
    have e : putB s t 4 g = true := (show putB s t 4 g = bear s t 4 g from rfl).trans (bear_4 hk hL ht g)
    rw [e]
    exact ⟨fun z => absurd z (by decide), fun _ => ⟨fun z => absurd z (by decide), fun _ => ⟨fun z => absurd z (by decide), fun _ => ⟨rfl, rfl⟩⟩⟩⟩
theorem put_ok {s : Row} (h : Ok s) {t : Nat} (ht : t < nT s) {p g : Int32} (hpl : isPl s p g = true) (hw : wrP s p g = false) (hi : inB p 1 2 = true → inside s g.toNatClampNeg t = false) : MvOk s t p g := by
  refine ⟨ht, ?_⟩
  rcases pl_cases hpl with ⟨e, hg⟩ | ⟨hp, hg⟩ | e | e
  · obtain ⟨r, hr, e2⟩ := isRm_ex h hg
    exact Or.inl ⟨e, r, hr, e2⟩
  · obtain ⟨q, hq, rfl⟩ := isTh_ex h hg
    have hq16 := Ok_lt h hq
    have hkq := wrP_kind hp hq16 hw
    have hb : inB p 1 2 = true := by rcases hp with e | e <;> rw [e] <;> decide
    have hin := hi hb
    rw [nI_clamp (by omega)] at hin
    rcases hp with e | e
    · exact Or.inr (Or.inl ⟨e, q, hq, rfl, by rw [hkq, e], hin⟩)
    · exact Or.inr (Or.inr (Or.inl ⟨e, q, hq, rfl, by rw [hkq, e], hin⟩))
  · exact Or.inr (Or.inr (Or.inr (Or.inl e)))
  · exact Or.inr (Or.inr (Or.inr (Or.inr e)))
theorem j_put (I : INV d n) (x p g : Int32) : JN [2, 1, 3, 0] 142 258 [x, p, g] d n := by
  have hC := I.1
  have hL := I.2.1
  have hk := hC.2.2
  have hcp : Cp d 0 (mr d 2) := hC.1
  cases hT : isTh (mr d 2) x with
  | false => exact jq_x I 0 rfl (fun Q hQ => w142 _ _ _ (by simp only [c_chkT hC, hT, kV_r, kV_x, kI_r, kI_x, kR_r, kF_r, kD_r, forall_eq, not_true_eq_false, not_false_eq_true, false_implies, true_implies, true_and, and_true, b2i_0, b2i_1, b2i_01, b2i_t, b2i_f, decide_true, decide_false, Bool.not_true, Bool.not_false, i1_0, eq_self, reduceCtorEq, eLits, cond_false]; exact hQ)) (fun d' Q e _ hQ => w258 _ _ _ (by simp only [f_mv, f_sV, f_sV', f_s2, f_s3, f_s29, f_s30, f_mr, mr_sR, mv_sV, sV_sV, sR_sR, m2, kV_r, kV_x, kI_r, kI_x, kR_r, kF_r, kD_r, forall_eq, not_true_eq_false, not_false_eq_true, false_implies, true_implies, true_and, and_true, b2i_0, b2i_1, b2i_01, b2i_t, b2i_f, decide_true, decide_false, Bool.not_true, Bool.not_false, i1_0, eq_self, reduceCtorEq, eLits, m_isTh, e, hT, m_fails]; exact hQ _))
  | true =>
    cases hb : isPl (mr d 2) p g with
    | false => exact jq_x I 1 rfl (fun Q hQ => w142 _ _ _ (by simp only [c_chkT hC, c_chkPl hC, hT, hb, kV_r, kV_x, kI_r, kI_x, kR_r, kF_r, kD_r, forall_eq, not_true_eq_false, not_false_eq_true, false_implies, true_implies, true_and, and_true, b2i_0, b2i_1, b2i_01, b2i_t, b2i_f, decide_true, decide_false, Bool.not_true, Bool.not_false, i1_0, eq_self, reduceCtorEq, eLits, cond_true, cond_false]; exact hQ)) (fun d' Q e _ hQ => w258 _ _ _ (by simp only [f_mv, f_sV, f_sV', f_s2, f_s3, f_s29, f_s30, f_mr, mr_sR, mv_sV, sV_sV, sR_sR, m2, kV_r, kV_x, kI_r, kI_x, kR_r, kF_r, kD_r, forall_eq, not_true_eq_false, not_false_eq_true, false_implies, true_implies, true_and, and_true, b2i_0, b2i_1, b2i_01, b2i_t, b2i_f, decide_true, decide_false, Bool.not_true, Bool.not_false, i1_0, eq_self, reduceCtorEq, eLits, m_isTh, m_isPl, e, hT, hb, m_fails]; exact hQ _))
    | true =>
      obtain ⟨t, ht, rfl⟩ := isTh_ex hk hT
      have hl := Ok_lt hk ht
      have gidx : inB p 1 2 = true → ∃ q, q < nT (mr d 2) ∧ q < 16 ∧ g = nI q := fun h12 => by
        rcases pl_cases hb with ⟨e, _⟩ | ⟨_, hg⟩ | e | e
        · rw [e] at h12; exact absurd h12 (by decide)
        · obtain ⟨q, hq, e⟩ := isTh_ex hk hg
          exact ⟨q, hq, Ok_lt hk hq, e⟩
        · rw [e] at h12; exact absurd h12 (by decide)
        · rw [e] at h12; exact absurd h12 (by decide)
      -- the class comes to 55 with what wrP says
      have g55 : ∀ Q : ax_P, h142_55 (nI t) p g (b2i (wrP (mr d 2) p g)) d Q → CT 142 [ax_vR 8 0 0, Sum.inl (nI t), Sum.inl p, Sum.inl g] d Q := fun Q h => w142 _ _ _ (by
        simp only [c_chkT hC, c_chkPl hC, hT, hb, kV_r, cond_true]
        by_cases h12 : inB p 1 2 = true
        · obtain ⟨q, hq, hq16, rfl⟩ := gidx h12
          have ew : wrP (mr d 2) p (nI q) = !decide (mr d 2 (111 + q) = p) := by unfold wrP; rw [h12, nI_clamp (by omega)]; rfl
          rw [ew] at h
          by_cases p1 : p = 1
          · subst p1
            refine ⟨fun _ => (c_kind hcp hk hq _).mpr ⟨fun y => w142_35 _ _ _ ⟨fun z => absurd z (by decide), fun _ => ?_⟩, fun y => ?_⟩, fun z => absurd rfl z⟩
            · rw [decide_eq_true y] at h; exact h
            · rw [decide_eq_false y] at h; exact h
          · have p2 : p = 2 := by
              rcases pl_cases hb with ⟨e, _⟩ | ⟨e, _⟩ | e | e
              · rw [e] at h12; exact absurd h12 (by decide)
              · exact e.resolve_left p1
              · rw [e] at h12; exact absurd h12 (by decide)
              · rw [e] at h12; exact absurd h12 (by decide)
            subst p2
            refine ⟨fun z => absurd z p1, fun _ => w142_35 _ _ _ ⟨fun _ => (c_kind hcp hk hq _).mpr ⟨fun y => ?_, fun y => ?_⟩, fun z => absurd rfl z⟩⟩
            · rw [decide_eq_true y] at h; exact h
            · rw [decide_eq_false y] at h; exact h
        · have hf : inB p 1 2 = false := by
            cases hx : inB p 1 2 with
            | false => rfl
            | true => exact absurd hx h12
          have ew : wrP (mr d 2) p g = false := by unfold wrP; rw [hf]; rfl
          rw [ew] at h
          have p1 : ¬ p = 1 := fun z => h12 (by rw [z]; decide)
          have p2 : ¬ p = 2 := fun z => h12 (by rw [z]; decide)
          exact ⟨fun z => absurd z p1, fun _ => w142_35 _ _ _ ⟨fun z => absurd z p2, fun _ => h⟩⟩)
      -- the check comes to 75 if the kinds are right
      have gm : ∀ (d' : ax_D) (Q : ax_P), mr d' 2 = mr d 2 → (mr d 2 (111 + t) = 4 ∨ wrP (mr d 2) p g = true → ∀ x, Q (sV d' 0 3) (Sum.inl (some (Sum.inl x)))) → (¬ mr d 2 (111 + t) = 4 → wrP (mr d 2) p g = false → h258_75 (nI t) p g (sV d' 0 0) Q) → CT 258 [ax_vR 9 0 0, Sum.inl (nI t), Sum.inl p, Sum.inl g] d' Q := fun d' Q e hbad hgo => w258 _ _ _ (by
        simp only [f_mv, f_sV, f_sV', f_s2, f_s3, f_s29, f_s30, f_mr, mr_sR, mv_sV, sV_sV, sR_sR, m2, kV_r, kV_x, kI_r, kI_x, kR_r, kF_r, kD_r, forall_eq, not_true_eq_false, not_false_eq_true, false_implies, true_implies, true_and, and_true, b2i_0, b2i_1, b2i_01, b2i_t, b2i_f, decide_true, decide_false, Bool.not_true, Bool.not_false, i1_0, eq_self, reduceCtorEq, eLits, m_isTh, m_isPl, m_in, e, hT, hb, in_111 hl, cl_111 hl, m_fails]
        refine ⟨fun z => hbad (Or.inl z) 0, fun z4 => ⟨fun z => hgo z4 (by unfold wrP; rw [z]; rfl), fun z => ?_⟩⟩
        have h12 := f_t z
        obtain ⟨q, hq, hq16, rfl⟩ := gidx h12
        have ew : wrP (mr d 2) p (nI q) = !decide (mr d 2 (111 + q) = p) := by unfold wrP; rw [h12, nI_clamp (by omega)]; rfl
        rw [cl_111 hq16]
        refine ⟨in_111 hq16, fun y => hgo z4 (by rw [ew, decide_eq_true y]; rfl), fun y => hbad (Or.inr (by rw [ew, decide_eq_false y]; rfl)) 0⟩)
      by_cases hbad : mr d 2 (111 + t) = 4 ∨ wrP (mr d 2) p g = true
      · refine jq_x I 2 rfl (fun Q hQ => g55 Q (w142_55 _ _ _ _ ((c_kind hcp hk ht _).mpr ⟨fun _ => hQ, fun z4 => ⟨fun z => ?_, fun _ => hQ⟩⟩))) (fun d' Q e _ hQ => gm d' Q e (fun _ x => hQ x) (fun z4 hw => ?_))
        · rcases hbad with h | h
          · exact absurd h z4
          · rw [h] at z; exact absurd z (by decide)
        · rcases hbad with h | h
          · exact absurd h z4
          · rw [h] at hw; cases hw
      · have n4 : ¬ mr d 2 (111 + t) = 4 := fun z => hbad (Or.inl z)
        have hw : wrP (mr d 2) p g = false := by
          cases hx : wrP (mr d 2) p g with
          | false => rfl
          | true => exact absurd (Or.inr hx) hbad
        have g55' : ∀ Q : ax_P, CT 6 [ax_vR 8 0 0] d (kV (fun d3 => CT 141 [ax_vR 7 0 0, Sum.inl (nI t), Sum.inl p, Sum.inl g] d3 (kI (fun x5 d4 => ((x5 = 0) → Q d4 (Sum.inr 0)) ∧ (¬ (x5 = 0) → (ax_in (nI t) 16 = true) ∧ (CT 38 [ax_vR 7 0 0, Sum.inl (nI t), Sum.inl p, Sum.inl g] d4 (kV (fun d6 => Q d6 (Sum.inl (some (Sum.inl (ax_row d4 7 0 2 (nI t).toNatClampNeg))))) (fun E d => Q d (Sum.inr E)))))) (fun E d => Q d (Sum.inr E)))) (fun E d => Q d (Sum.inr E))) → CT 142 [ax_vR 8 0 0, Sum.inl (nI t), Sum.inl p, Sum.inl g] d Q := fun Q h => g55 Q (w142_55 _ _ _ _ ((c_kind hcp hk ht _).mpr ⟨fun z => absurd z n4, fun _ => ⟨fun _ => h, fun z => absurd (by rw [hw]; rfl) z⟩⟩))
        have gm' : ∀ (d' : ax_D) (Q : ax_P), mr d' 2 = mr d 2 → h258_75 (nI t) p g (sV d' 0 0) Q → CT 258 [ax_vR 9 0 0, Sum.inl (nI t), Sum.inl p, Sum.inl g] d' Q := fun d' Q e h => gm d' Q e (fun z => absurd z hbad) (fun _ _ => h)
        cases hp : plays (mr d 2) with
        | true => exact jq_x I 3 rfl (fun Q hQ => g55' Q (by simp only [c_refP hC, hp, kV_r, kV_x, kI_r, kI_x, kR_r, kF_r, kD_r, forall_eq, not_true_eq_false, not_false_eq_true, false_implies, true_implies, true_and, and_true, b2i_0, b2i_1, b2i_01, b2i_t, b2i_f, decide_true, decide_false, Bool.not_true, Bool.not_false, i1_0, eq_self, reduceCtorEq, eLits, cond_true]; exact hQ)) (fun d' Q e _ hQ => gm' d' Q e (w258_75 _ _ _ (by simp only [f_mv, f_sV, f_sV', f_s2, f_s3, f_s29, f_s30, f_mr, mr_sR, mv_sV, sV_sV, sR_sR, m2, kV_r, kV_x, kI_r, kI_x, kR_r, kF_r, kD_r, forall_eq, not_true_eq_false, not_false_eq_true, false_implies, true_implies, true_and, and_true, b2i_0, b2i_1, b2i_01, b2i_t, b2i_f, decide_true, decide_false, Bool.not_true, Bool.not_false, i1_0, eq_self, reduceCtorEq, eLits, m_in, m_played, e, hp, m_fails]; exact hQ _)))
        | false =>
          have hnp : ¬ mr d 2 3 = 1 := of_decide_eq_false hp
          -- the check's last looks
          have g145 : ∀ (d' : ax_D) (Q : ax_P), mr d' 2 = mr d 2 → (putB (mr d 2) t p g = false → ∀ x, Q (sV d' 0 4) (Sum.inl (some (Sum.inl x)))) → (putB (mr d 2) t p g = true → Q (sR (sV d' 0 0) 2 (moves (mr d 2) t p g)) (Sum.inl (some (Sum.inl (mr d 2 (255 + t)))))) → h258_75 (nI t) p g (sV d' 0 0) Q := by
            intro d' Q e hno hyes
            have e0 : mr (sV d' 0 0) 2 = mr d 2 := (m2 d' 0 0).trans e
            have last : ∀ v : Int32, (inB p 1 2 = true → inside (mr d 2) g.toNatClampNeg t = false) → putB (mr d 2) t p g = bear (mr d 2) t p g → h258_145 (nI t) p g v (sV d' 0 0) Q := by
              intro v hin hpb
              have om := Ok_moves hk (put_ok hk ht hb hw hin)
              refine w258_145 _ _ _ _ ((m_bear e0 hk ht p g om _).mpr ?_)
              rw [← hpb]
              cases hx : putB (mr d 2) t p g with
              | false => exact ⟨fun _ => (m_fails _ _ _).mpr (by rw [sV_sV]; exact hno hx 0), fun z => absurd rfl z⟩
              | true =>
                refine ⟨fun z => absurd z (by decide), fun _ => ⟨in_255 hl, (m_moves hl p g _ _).mpr ?_⟩⟩
                rw [cl_255 hl, show ax_row (sV d' 0 0) 9 0 2 (255 + t) = mr d 2 (255 + t) from congrFun e0 _, e0]
                exact hyes hx
            refine w258_75 _ _ _ ((m_in _ _ _ _ _).mpr ((m_played _ _).mpr ?_))
            rw [e0, hp]
            refine ⟨fun _ => ⟨fun z => ?_, fun z => ?_⟩, fun z => absurd rfl z⟩
            · have h12 := b2i_z.mp z
              refine w258_110 _ _ _ _ ⟨fun _ => last _ (fun y => by rw [h12] at y; cases y) (by unfold putB; rw [h12]; rfl), fun y => absurd z y⟩
            · have h12 := f_t (fun y => z (b2i_z.mpr y))
              obtain ⟨q, hq, hq16, rfl⟩ := gidx h12
              have hp12 : p = 1 ∨ p = 2 := by
                rcases pl_cases hb with ⟨e, _⟩ | ⟨e, _⟩ | e | e
                · rw [e] at h12; exact absurd h12 (by decide)
                · exact e
                · rw [e] at h12; exact absurd h12 (by decide)
                · rw [e] at h12; exact absurd h12 (by decide)
              have eP := putB_hold (s := mr d 2) (t := t) hp12 hq16
              refine (m_inside e0 hk hq hl _).mpr ⟨fun y => ?_, fun y => ?_⟩
              · have hi := b2i_z.mp y
                rw [hi, Bool.not_false, Bool.true_and] at eP
                refine w258_110 _ _ _ _ ⟨fun w => absurd w z, fun _ => (m_filled e0 hk _ _ _).mpr ?_⟩
                have esz : ax_row (sV d' 0 0) 9 0 2 (159 + t) = nI (sz (mr d 2) t) := (congrFun e0 _).trans (sz_of hk ht).1
                have eca : ax_row (sV d' 0 0) 9 0 2 (175 + q) = mr d 2 (175 + q) := congrFun e0 _
                refine ⟨in_159 hl, in_175 hq16, ?_⟩
                rw [cl_159 hl, cl_175 hq16, esz, eca, nI_add]
                refine ⟨fun w => (m_fails _ _ _).mpr ?_, fun w => last _ (fun _ => by rw [nI_clamp (by omega)]; exact hi) (by rw [eP, decide_eq_false w]; rfl)⟩
                rw [sV_sV]
                exact hno (by rw [eP, decide_eq_true w]; rfl) 0
              · have hi := f_t (fun x => y (b2i_z.mpr x))
                refine (m_fails _ _ _).mpr ?_
                rw [sV_sV]
                exact hno (by rw [eP, hi]; rfl) 0
          cases hx : putB (mr d 2) t p g with
          | false => exact jq_x I 3 rfl (fun Q hQ => g55' Q (by simp only [c_refP hC, c_allows hC hL ht hb hw, hp, hx, kV_r, kV_x, kI_r, kI_x, kR_r, kF_r, kD_r, forall_eq, not_true_eq_false, not_false_eq_true, false_implies, true_implies, true_and, and_true, b2i_0, b2i_1, b2i_01, b2i_t, b2i_f, decide_true, decide_false, Bool.not_true, Bool.not_false, i1_0, eq_self, reduceCtorEq, eLits, cond_false]; exact hQ)) (fun d' Q e _ hQ => gm' d' Q e (g145 d' Q e (fun _ x => hQ x) (fun z => by rw [hx] at z; cases z)))
          | true =>
            have hin : inB p 1 2 = true → inside (mr d 2) g.toNatClampNeg t = false := fun h12 => by
              have := hx
              unfold putB at this
              rw [h12, cond_true] at this
              cases hi : inside (mr d 2) g.toNatClampNeg t with
              | false => rfl
              | true => rw [hi] at this; cases this
            have hbr : bear (mr d 2) t p g = true := by
              have := hx
              unfold putB at this
              cases h12 : inB p 1 2 with
              | true =>
                rw [h12, cond_true, Bool.and_eq_true, Bool.and_eq_true] at this
                exact this.2.2
              | false => rw [h12, cond_false] at this; exact this
            have hm := put_ok hk ht hb hw hin
            have w2 : ax_row d 7 0 2 t = mr d 2 (255 + t) := (hC.2.1.1 t hl).1
            refine jq_s I hnp (s' := moves (mr d 2) t p g) (by rw [mo_n (by omega) (by omega)]; exact hnp) (of_decide_eq_true hbr) (mr d 2 (255 + t)) (fun Q hQ => g55' Q ?_) (fun d' Q e hQ => gm' d' Q e (g145 d' Q e (fun z => by rw [hx] at z; cases z) (fun _ => hQ)))
            simp only [c_refP hC, c_allows hC hL ht hb hw, hp, hx, kV_r, kV_x, kI_r, kI_x, kR_r, kF_r, kD_r, forall_eq, not_true_eq_false, not_false_eq_true, false_implies, true_implies, true_and, and_true, b2i_0, b2i_1, b2i_01, b2i_t, b2i_f, decide_true, decide_false, Bool.not_true, Bool.not_false, i1_0, eq_self, reduceCtorEq, eLits, cond_false, ax_in_nI hl (show 16 ≤ 2 ^ 31 by omega), nI_clamp (show t < 2 ^ 31 by omega), w2]
            exact c_move hC hm _ (fun d1 f1 c1 => hQ d1 (Fr_mono f1 (fun k i z => Or.inr z)) c1)
end PT
