/-! addThing, put -/
def thB (s : Row) (n : Nat) (k m a z : Int32) : Row := upd (upd (upd (upd (upd s 1 (nI (n + 1))) (111 + n) k) (127 + n) m) (143 + n) a) (159 + n) z
def thS (s : Row) (n : Nat) (k m a z : Int32) : Row := upd (upd (upd (thB s n k m a z) (223 + n) (-1)) (255 + n) 4) (271 + n) (-1)
theorem thS_out {s : Row} {n : Nat} {k m a z : Int32} {j : Nat} (h : j ≠ 1 ∧ j ≠ 111 + n ∧ j ≠ 127 + n ∧ j ≠ 143 + n ∧ j ≠ 159 + n ∧ j ≠ 223 + n ∧ j ≠ 255 + n ∧ j ≠ 271 + n) : thS s n k m a z j = s j := by
  obtain ⟨h1, h2, h3, h4, h5, h6, h7, h8⟩ := h
  unfold thS thB
  rw [upd_n h8, upd_n h7, upd_n h6, upd_n h5, upd_n h4, upd_n h3, upd_n h2, upd_n h1]
section TH
variable {d : ax_D} {n : Nat}
theorem bit_zero {t : Nat} {s : Row} (h : s (239 + t) = 0) : hasF s t 0 = false ∧ hasF s t 1 = false ∧ hasF s t 3 = false ∧ hasF s t 4 = false := by
  unfold hasF
  rw [h]
  exact ⟨by decide, by decide, by decide, by decide⟩
theorem Ok_th {s : Row} (h : Ok s) (hnp : ¬ s 3 = 1) {N : Nat} (hN : nT s = N) (h16 : N < 16) {k m a z : Int32} (hk : ∃ c, c < 5 ∧ k = nI c) (hz : ∃ c, 1 ≤ c ∧ c < 10 ∧ z = nI c) : Ok (thS s N k m a z) ∧ load (thS s N k m a z) = load s := by
  have hT := (Ok_T h).2
  have nTs : nT (thS s N k m a z) = N + 1 := by
    unfold nT thS thB
    rw [upd_n (by omega), upd_n (by omega), upd_n (by omega), upd_n (by omega), upd_n (by omega), upd_n (by omega), upd_n (by omega), upd_s, nI_clamp (by omega)]
  have e1 : thS s N k m a z 1 = nI (N + 1) := by
    unfold thS thB
    rw [upd_n (by omega), upd_n (by omega), upd_n (by omega), upd_n (by omega), upd_n (by omega), upd_n (by omega), upd_n (by omega), upd_s]
  have ek : thS s N k m a z (111 + N) = k := by
    unfold thS thB
    rw [upd_n (by omega), upd_n (by omega), upd_n (by omega), upd_n (by omega), upd_n (by omega), upd_n (by omega), upd_s]
  have ez : thS s N k m a z (159 + N) = z := by
    unfold thS thB
    rw [upd_n (by omega), upd_n (by omega), upd_n (by omega), upd_s]
  have ep : thS s N k m a z (255 + N) = 4 := by
    unfold thS
    rw [upd_n (by omega), upd_s]
  have eg : thS s N k m a z (271 + N) = -1 := by
    unfold thS
    rw [upd_s]
  have nRs : nR (thS s N k m a z) = nR s := by unfold nR; rw [thS_out (by omega)]
  have nDs : nD (thS s N k m a z) = nD s := by unfold nD; rw [thS_out (by omega)]
  have z239 : s (239 + N) = 0 ∧ s (207 + N) = 0 := by
    have := h.2.2.2.1 N (by omega) h16
    exact ⟨this.2, this.1⟩
  have hh : ∀ u, u < N → held (thS s N k m a z) u = held s u := fun u hu => by unfold held; rw [thS_out (by omega)]
  have hp : ∀ u, u < N → par (thS s N k m a z) u = par s u := fun u hu => by unfold par; rw [thS_out (by omega)]
  have hN0 : held (thS s N k m a z) N = false := held_f (by rw [ep]; decide) (by rw [ep]; decide)
  have rt : ∀ q t, t < N → Rt s q t → Rt (thS s N k m a z) q t := by
    intro q
    induction q with
    | zero => intro t ht hr; exact (hh t ht).trans hr
    | succ q ih =>
      intro t ht hr
      refine ⟨(hh t ht).trans hr.1, ?_⟩
      rw [hp t ht]
      have := (Tp_held hT (h.2.1 t (by omega)).1 hr.1).1
      exact ih _ (by omega) hr.2
  have ok : Ok (thS s N k m a z) := by
    refine ⟨⟨?_, ?_, ?_, ?_, ?_⟩, ?_, ?_, ?_, ?_, ?_, ?_⟩
    · rw [nRs, nTs, nDs, thS_out (j := 0) (by omega), thS_out (j := 2) (by omega), e1]
      have := h.1.1
      exact ⟨this.1, this.2.1, rfl, by omega, this.2.2.2.2⟩
    · rw [nRs, nTs]
      intro r hr c hc
      have hR := (Pk_R h.1).2
      rw [thS_out (by omega), thS_out (by omega)]
      obtain ⟨u1, u2⟩ := h.1.2.1 r hr c hc
      exact ⟨u1, u2.imp (fun y => y) (fun ⟨t, t1, t2⟩ => ⟨t, by omega, t2⟩)⟩
    · rw [nTs]
      intro t ht
      by_cases e : t = N
      · rw [e, ek, ez]; exact ⟨hk, hz⟩
      · rw [thS_out (by omega), thS_out (by omega)]; exact h.1.2.2.1 t (by omega)
    · rw [nDs, nTs]
      intro i hi
      have hD := (Pk_D h.1).2
      obtain ⟨a1, t, b1, b2, b3, b4⟩ := h.1.2.2.2.1 i hi
      rw [thS_out (by omega), thS_out (by omega)]
      exact ⟨a1, t, by omega, b2, by rw [thS_out (by omega)]; exact b3, by rw [thS_out (by omega)]; exact b4⟩
    · rw [nTs]
      intro t h1 h2
      rw [thS_out (by omega), thS_out (by omega)]
      exact h.1.2.2.2.2 t (by omega) h2
    · rw [nTs]
      intro t ht
      by_cases e : t = N
      · subst e
        refine ⟨Or.inr (Or.inr (Or.inr (Or.inr ⟨ep, eg⟩))), ?_⟩
        have e239 : thS s t k m a z (239 + t) = 0 := by rw [thS_out (by omega)]; exact z239.1
        have e207 : thS s t k m a z (207 + t) = 0 := by rw [thS_out (by omega)]; exact z239.2
        obtain ⟨q0, q1, q3, q4⟩ := bit_zero e239
        exact ⟨⟨0, by omega, e239⟩, ⟨0, by omega, e207⟩, (fun y => by rw [q0] at y; cases y), (fun y => by rw [q1] at y; cases y), (fun y => by rw [q3] at y; cases y), (fun y => by rw [q4] at y; cases y)⟩
      · obtain ⟨tp, tf⟩ := h.2.1 t (by omega)
        refine ⟨?_, Tflag_of (thS_out (by omega)) (thS_out (by omega)) (thS_out (by omega)) tf⟩
        unfold Tplace at tp ⊢
        rw [thS_out (j := 255 + t) (by omega), thS_out (j := 271 + t) (by omega), nRs, nTs]
        rcases tp with q | ⟨q, w, q1, q2, q3⟩ | ⟨q, w, q1, q2, q3⟩ | q | q
        · exact Or.inl q
        · exact Or.inr (Or.inl ⟨q, w, by omega, q2, by rw [thS_out (by omega)]; exact q3⟩)
        · exact Or.inr (Or.inr (Or.inl ⟨q, w, by omega, q2, by rw [thS_out (by omega)]; exact q3⟩))
        · exact Or.inr (Or.inr (Or.inr (Or.inl q)))
        · exact Or.inr (Or.inr (Or.inr (Or.inr q)))
    · intro t ht
      rw [nTs] at ht
      by_cases e : t = N
      · rw [e]; exact ⟨0, by omega, hN0⟩
      · obtain ⟨q, hq, hr⟩ := h.2.2.1 t (by omega)
        exact ⟨q, hq, rt q t (by omega) hr⟩
    · rw [nTs]
      intro t h1 h2
      rw [thS_out (by omega), thS_out (by omega)]
      exact h.2.2.2.1 t (by omega) h2
    · rw [nDs]
      intro i hi h3
      rw [thS_out (by omega)] at h3
      exact absurd h3 hnp
    · rw [thS_out (by omega), thS_out (by omega), thS_out (by omega)]
      rcases h.2.2.2.2.2.1 with q | q
      · exact Or.inl q
      · exact absurd q.1 hnp
    · intro j hj
      rw [thS_out (by omega)]
      exact h.2.2.2.2.2.2 j hj
  refine ⟨ok, ?_⟩
  have tp : ∀ t, t < nT s → top (thS s N k m a z) t = top s t := fun t ht => by
    refine climbs h (fun t => top (thS s N k m a z) t = top s t) (fun t ht g => ?_) (fun t ht g h1 h2 ih => ?_) ht
    · rw [top_0 g, top_0 ((hh t (by omega)).trans g)]
    · rw [top_1 h ht g, top_1 ok (by omega) ((hh t (by omega)).trans g), hp t (by omega)]
      exact ih
  unfold load
  rw [nTs, hN, fb_sm_succ]
  have z0 : outer (thS s N k m a z) N = -2 := by
    unfold outer
    rw [top_0 hN0]
    unfold outS
    rw [ep]; rfl
  rw [z0, show decide ((-2 : Int32) = -1) = false by decide, cond_false, Nat.add_zero]
  refine fb_sm_cong (fun t ht => ?_)
  have hr := (top_root h (t := t) (by omega)).1
  have eo : outer (thS s N k m a z) t = outer s t := by
    unfold outer
    rw [tp t (by omega)]
    unfold outS
    rw [thS_out (by omega), thS_out (by omega)]
  rw [eo]
  unfold sz
  rw [thS_out (by omega)]
theorem j_addThing (I : INV d n) (kd no ad zi : Int32) : JN [1, 0] 19 206 [kd, no, ad, zi] d n := by
  have hC := I.1
  have hL := I.2.1
  have hk := hC.2.2
  have hcp : Cp d 0 (mr d 2) := hC.1
  have hT := Ok_T hk
  have g24 : ∀ Q : ax_P, h19_24 kd no ad zi (b2i (inB no 0 7 && inB ad 0 3)) d Q → CT 19 [ax_vR 8 0 0, Sum.inl kd, Sum.inl no, Sum.inl ad, Sum.inl zi] d Q := fun Q h => w19 _ _ _ _ ((c_within _ _ _ d _).mpr ⟨fun z => by
    rw [b2i_z.mp z] at h; exact h, fun z => (c_within _ _ _ d _).mpr ⟨fun y => by
      rw [b2i_z.mp y, Bool.and_false] at h; exact h, fun y => by
      have e1 : inB no 0 7 = true := by
        cases hb : inB no 0 7 with
        | true => rfl
        | false => rw [hb] at z; exact absurd rfl z
      have e2 : inB ad 0 3 = true := by
        cases hb : inB ad 0 3 with
        | true => rfl
        | false => rw [hb] at y; exact absurd rfl y
      rw [e1, e2] at h
      exact h⟩⟩)
  by_cases hV : inB kd 0 4 = true ∧ inB no 0 7 = true ∧ inB ad 0 3 = true ∧ inB zi 1 9 = true
  case neg =>
    have f1 : ∀ {b : Bool}, ¬ b = false → b = true := fun {b} h => by
      cases b with
      | true => rfl
      | false => exact absurd rfl h
    have nz : ∀ {b : Bool}, ¬ b2i b = 0 → b = true := fun {b} h => f1 (fun y => h (b2i_z.mpr y))
    refine jq_x I 0 rfl (fun Q hQ => g24 Q (w19_24 _ _ _ _ _ ⟨fun _ => hQ, fun z1 => (c_within _ _ _ d _).mpr ⟨fun _ => hQ, fun z2 => (c_within _ _ _ d _).mpr ⟨fun _ => hQ, fun z3 => ?_⟩⟩⟩)) (fun d' Q e _ hQ => w206 _ _ _ _ ?_)
    · have := nz z1
      rw [Bool.and_eq_true] at this
      exact absurd ⟨nz z2, this.1, this.2, nz z3⟩ hV
    · simp only [f_mv, f_sV, f_sV', f_s2, f_s3, f_s29, f_s30, f_mr, mr_sR, mv_sV, sV_sV, sR_sR, m2, kV_r, kV_x, kI_r, kI_x, kR_r, kF_r, kD_r, forall_eq, not_true_eq_false, not_false_eq_true, false_implies, true_implies, true_and, and_true, b2i_0, b2i_1, b2i_01, b2i_t, b2i_f, decide_true, decide_false, Bool.not_true, Bool.not_false, i1_0, eq_self, reduceCtorEq, eLits, m_in, m_fails]
      exact ⟨fun _ => hQ _, fun z1 => ⟨fun _ => hQ _, fun z2 => ⟨fun _ => hQ _, fun z3 => ⟨fun _ => hQ _, fun z4 => absurd ⟨f1 z1, f1 z2, f1 z3, f1 z4⟩ hV⟩⟩⟩⟩
  obtain ⟨v1, v2, v3, v4⟩ := hV
  have g2 : ∀ Q : ax_P, CT 6 [ax_vR 8 0 0] d (kV (fun d5 => CT 17 [ax_vR 3 0 0, Sum.inl kd, Sum.inl no, Sum.inl ad, Sum.inl zi] d5 (kI (fun x7 d6 => ((x7 = (-1)) → Q d6 (Sum.inr 0)) ∧ (¬ (x7 = (-1)) → CT 18 [ax_vR 7 0 0, Sum.inl x7] d6 (kV (fun d8 => Q d8 (Sum.inl (some (Sum.inl x7)))) (fun E d => Q d (Sum.inr E))))) (fun E d => Q d (Sum.inr E)))) (fun E d => Q d (Sum.inr E))) → CT 19 [ax_vR 8 0 0, Sum.inl kd, Sum.inl no, Sum.inl ad, Sum.inl zi] d Q := fun Q h => g24 Q (by
    rw [v2, v3]
    refine w19_24 _ _ _ _ _ ⟨fun z => absurd z (by decide), fun _ => (c_within _ _ _ d _).mpr ?_⟩
    rw [v1]
    refine ⟨fun z => absurd z (by decide), fun _ => (c_within _ _ _ d _).mpr ?_⟩
    rw [v4]
    exact ⟨fun z => absurd z (by decide), fun _ => h⟩)
  cases hp : plays (mr d 2) with
  | true => exact jq_x I 1 rfl (fun Q hQ => g2 Q (by simp only [c_refP hC, hp, kV_r, kV_x, kI_r, kI_x, kR_r, kF_r, kD_r, forall_eq, not_true_eq_false, not_false_eq_true, false_implies, true_implies, true_and, and_true, b2i_0, b2i_1, b2i_01, b2i_t, b2i_f, decide_true, decide_false, Bool.not_true, Bool.not_false, i1_0, eq_self, reduceCtorEq, eLits, cond_true]; exact hQ)) (fun d' Q e _ hQ => w206 _ _ _ _ (by simp only [f_mv, f_sV, f_sV', f_s2, f_s3, f_s29, f_s30, f_mr, mr_sR, mv_sV, sV_sV, sR_sR, m2, kV_r, kV_x, kI_r, kI_x, kR_r, kF_r, kD_r, forall_eq, not_true_eq_false, not_false_eq_true, false_implies, true_implies, true_and, and_true, b2i_0, b2i_1, b2i_01, b2i_t, b2i_f, decide_true, decide_false, Bool.not_true, Bool.not_false, i1_0, eq_self, reduceCtorEq, eLits, m_in, m_played, e, v1, v2, v3, v4, hp, m_fails]; exact hQ _))
  | false =>
    have hnp : ¬ mr d 2 3 = 1 := of_decide_eq_false hp
    have r1 : ax_row d 3 0 0 1 = nI (nT (mr d 2)) := hcp.1.2.1.trans hT.1
    by_cases h16 : nT (mr d 2) = 16
    · exact jq_x I 1 rfl (fun Q hQ => g2 Q (by
        simp only [c_refP hC, hp, kV_r, kV_x, kI_r, kI_x, kR_r, kF_r, kD_r, forall_eq, not_true_eq_false, not_false_eq_true, false_implies, true_implies, true_and, and_true, b2i_0, b2i_1, b2i_01, b2i_t, b2i_f, decide_true, decide_false, Bool.not_true, Bool.not_false, i1_0, eq_self, reduceCtorEq, eLits, cond_false]
        refine w17 _ _ _ _ _ ?_
        rw [r1, h16]
        refine ⟨fun z => absurd z (by decide), fun _ => ?_⟩
        simp only [kV_r, kV_x, kI_r, kI_x, kR_r, kF_r, kD_r, forall_eq, not_true_eq_false, not_false_eq_true, false_implies, true_implies, true_and, and_true, b2i_0, b2i_1, b2i_01, b2i_t, b2i_f, decide_true, decide_false, Bool.not_true, Bool.not_false, i1_0, eq_self, reduceCtorEq, eLits]
        exact hQ)) (fun d' Q e _ hQ => w206 _ _ _ _ (by simp only [f_mv, f_sV, f_sV', f_s2, f_s3, f_s29, f_s30, f_mr, mr_sR, mv_sV, sV_sV, sR_sR, m2, kV_r, kV_x, kI_r, kI_x, kR_r, kF_r, kD_r, forall_eq, not_true_eq_false, not_false_eq_true, false_implies, true_implies, true_and, and_true, b2i_0, b2i_1, b2i_01, b2i_t, b2i_f, decide_true, decide_false, Bool.not_true, Bool.not_false, i1_0, eq_self, reduceCtorEq, eLits, m_in, m_played, e, v1, v2, v3, v4, hp, hT.1, h16, show (nI 16 = (16 : Int32)) = True from eq_true rfl, m_fails]; exact hQ _))
    · obtain ⟨N, hN⟩ : ∃ N, nT (mr d 2) = N := ⟨_, rfl⟩
      rw [hN] at r1 h16
      have hN16 : N < 16 := by have := hT.2; omega
      have s1 : mr d 2 1 = nI N := by rw [hT.1, hN]
      have lt16 : nI N < 16 := nI_lt (b := 16) hN16 (by omega)
      have ne16 : ¬ nI N = 16 := fun z => h16 ((nI_eq (by omega) (by omega)).mp (show nI N = nI 16 from z))
      have ci : ax_in (nI N) 16 = true := ax_in_nI hN16 (by omega)
      have cl : (nI N).toNatClampNeg = N := nI_clamp (by omega)
      obtain ⟨ck, -, hck, ekd⟩ := inB_ex (a := 0) (b := 4) v1 (by omega) (by omega)
      obtain ⟨cz, hz1, hz9, ezi⟩ := inB_ex (a := 1) (b := 9) v4 (by omega) (by omega)
      obtain ⟨ok, ld⟩ := Ok_th (m := no) (a := ad) hk hnp hN hN16 ⟨ck, by omega, ekd⟩ ⟨cz, hz1, by omega, ezi⟩
      have o3 : thS (mr d 2) N kd no ad zi 3 = mr d 2 3 := thS_out (by omega)
      have p0 := hk.1.2.2.2.2 N (by omega) hN16
      have w0 := hk.2.2.2.1 N (by omega) hN16
      refine jq_s I hnp (s' := thS (mr d 2) N kd no ad zi) (by rw [o3]; exact hnp) (by rw [ld]; exact hL) (nI N) (fun Q hQ => g2 Q ?_) (fun d' Q e hQ => w206 _ _ _ _ ?_)
      · simp only [c_refP hC, hp, kV_r, cond_false]
        refine w17 _ _ _ _ _ ?_
        rw [r1, cl]
        refine ⟨fun _ d1 e1 => ⟨ci, fun d2 e2 => ⟨ci, fun d3 e3 => ⟨ci, fun d4 e4 => ⟨ci, fun d5 e5 => ⟨ci, fun d6 e6 => ⟨ci, fun d7 e7 => ⟨ci, fun d8 e8 => ?_⟩⟩⟩⟩⟩⟩⟩, fun z => absurd lt16 z⟩
        rw [show nI N + 1 = nI (N + 1) from nI_add N 1] at e1
        have c1 : Cp d1 0 (upd (mr d 2) 1 (nI (N + 1))) := Cp_num hcp (by decide) _ e1
        have c2 := Cp_set c1 (j := 8) (by decide) (by decide) hN16 kd e2
        have c3 := Cp_set c2 (j := 9) (by decide) (by decide) hN16 no e3
        have c4 := Cp_set c3 (j := 10) (by decide) (by decide) hN16 ad e4
        have c5 : Cp d5 0 (thB (mr d 2) N kd no ad zi) := Cp_set c4 (j := 11) (by decide) (by decide) hN16 zi e5
        have c6 := Cp_set c5 (j := 12) (by decide) (by decide) hN16 0 e6
        have c7 := Cp_set c6 (j := 13) (by decide) (by decide) hN16 0 e7
        have c8 : Cp d8 0 (upd (upd (upd (thB (mr d 2) N kd no ad zi) (175 + N) 0) (191 + N) 0) (223 + N) (-1)) := Cp_set c7 (j := 14) (by decide) (by decide) hN16 (-1) e8
        have c9 : Cp d8 0 (thS (mr d 2) N kd no ad zi) := by
          refine Cp_SP c8 (fun j hj => ?_)
          have hb : ∀ i, i = 175 + N ∨ i = 191 + N → thB (mr d 2) N kd no ad zi i = mr d 2 i := fun i hi => by
            unfold thB
            rw [upd_n (by omega), upd_n (by omega), upd_n (by omega), upd_n (by omega), upd_n (by omega)]
          unfold thS
          unfold Pix at hj
          rw [upd_n (by omega), upd_n (by omega)]
          by_cases z3 : j = 223 + N
          · rw [z3, upd_s, upd_s]
          · rw [upd_n z3, upd_n z3]
            by_cases z2 : j = 191 + N
            · rw [z2, upd_s, hb _ (Or.inr rfl)]; exact p0.2
            · rw [upd_n z2]
              by_cases z1 : j = 175 + N
              · rw [z1, upd_s, hb _ (Or.inl rfl)]; exact p0.1
              · rw [upd_n z1]
        have st : ∀ {a b : ax_D} {j : Nat} {g : Row}, b = ax_set a 3 0 j g → Fr (fun k i => k = 3 ∧ i = 0) a b := fun {a b j g} e => by rw [e]; exact Fr_set (by decide) ⟨rfl, rfl⟩ a j g
        have f8 : Fr (fun k i => k = 3 ∧ i = 0) d d8 := Fr_trans (st e1) (Fr_trans (st e2) (Fr_trans (st e3) (Fr_trans (st e4) (Fr_trans (st e5) (Fr_trans (st e6) (Fr_trans (st e7) (st e8)))))))
        have w8 : Cw d8 0 (mr d 2) := Cw_Fr f8 (fun z => by cases z.1) hC.2.1
        have r81 : ax_row d8 3 0 0 1 = nI (N + 1) := (show ax_row d8 3 0 0 1 = thS (mr d 2) N kd no ad zi 1 from c9.1.2.1).trans (by
          unfold thS thB
          rw [upd_n (by omega), upd_n (by omega), upd_n (by omega), upd_n (by omega), upd_n (by omega), upd_n (by omega), upd_n (by omega), upd_s])
        refine ⟨fun z => absurd z (nI_nm (by omega)), fun _ => w18 _ _ (w3 _ _ ?_)⟩
        rw [show ax_row d8 3 (ax_pW 0) 0 1 = nI (N + 1) from r81]
        refine ⟨fun z => absurd z (nI_pos (by omega)), fun _ => ⟨fun z => absurd z (nI_ge (by omega) (by omega)), fun _ => ⟨fun z => absurd z (by decide), fun _ => ?_⟩⟩⟩
        rw [cl]
        refine ⟨ci, fun y3 g3 => ⟨ci, fun y4 g4 => ⟨ci, fun y5 g5 => ⟨ci, fun y6 g6 => ?_⟩⟩⟩⟩
        have D6 := (Pk_D hk.1).2
        have k3 : Cw y3 0 (upd (mr d 2) (255 + N) 4) := by rw [g3]; exact Cw_u2 w8 D6 hN16 4
        have k4 : Cw y4 0 (upd (upd (mr d 2) (255 + N) 4) (271 + N) (-1)) := by rw [g4]; exact Cw_u3 k3 (by unfold nD; rw [upd_n (by omega)]; exact D6) hN16 (-1)
        have k5 : Cw y5 0 (upd (upd (upd (mr d 2) (255 + N) 4) (271 + N) (-1)) (239 + N) 0) := by rw [g5]; exact Cw_u4 k4 (by unfold nD; rw [upd_n (by omega), upd_n (by omega)]; exact D6) hN16 0
        have k6 : Cw y6 0 (upd (upd (upd (upd (mr d 2) (255 + N) 4) (271 + N) (-1)) (239 + N) 0) (207 + N) 0) := by rw [g6]; exact Cw_u5 k5 (by unfold nD; rw [upd_n (by omega), upd_n (by omega), upd_n (by omega)]; exact D6) hN16 0
        have s7 : ∀ {a b : ax_D} {j : Nat} {g : Row}, b = ax_set a 7 0 j g → Fr (sW 0) a b := fun {a b j g} e => by rw [e]; exact Fr_set (by decide) ⟨rfl, rfl⟩ a j g
        have f9 : Fr (sW 0) d8 y6 := Fr_trans (s7 g3) (Fr_trans (s7 g4) (Fr_trans (s7 g5) (s7 g6)))
        refine hQ y6 (Fr_trans (Fr_mono f8 (fun k i z => Or.inl z)) (Fr_mono f9 (fun k i z => Or.inr z))) ⟨Cp_Fr f9 (fun z => by cases z.1) c9, ?_, ok⟩
        refine Cw_pl k6 (by rw [upd_n (by omega), upd_n (by omega), upd_n (by omega), upd_n (by omega)]; exact hnp) (by rw [o3]; exact hnp) (fun j hj => ?_)
        by_cases a1 : j = 207 + N
        · rw [a1, upd_s, thS_out (by omega)]; exact w0.1
        rw [upd_n a1]
        by_cases a2 : j = 239 + N
        · rw [a2, upd_s, thS_out (by omega)]; exact w0.2
        rw [upd_n a2]
        by_cases a3 : j = 271 + N
        · rw [a3, upd_s]; unfold thS; rw [upd_s]
        rw [upd_n a3]
        by_cases a4 : j = 255 + N
        · rw [a4, upd_s]; unfold thS; rw [upd_n (by omega), upd_s]
        rw [upd_n a4]
        exact thS_out (by omega)
      · simp only [f_mv, f_sV, f_sV', f_s2, f_s3, f_s29, f_s30, f_mr, mr_sR, mv_sV, sV_sV, sR_sR, m2, kV_r, kV_x, kI_r, kI_x, kR_r, kF_r, kD_r, forall_eq, not_true_eq_false, not_false_eq_true, false_implies, true_implies, true_and, and_true, b2i_0, b2i_1, b2i_01, b2i_t, b2i_f, decide_true, decide_false, Bool.not_true, Bool.not_false, i1_0, eq_self, reduceCtorEq, eLits, m_in, m_played, e, v1, v2, v3, v4, hp, s1, ne16, in_111 hN16, cl_111 hN16, in_127 hN16, cl_127 hN16, in_143 hN16, cl_143 hN16, in_159 hN16, cl_159 hN16, in_223 hN16, cl_223 hN16, in_255 hN16, cl_255 hN16, in_271 hN16, cl_271 hN16, nI_1]
        exact hQ
end TH
