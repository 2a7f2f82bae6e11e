/-! the clock; a command keeps the replay -/
section CK4
theorem log_4 (s : Row) (v : Int32) : logS s v 4 = s 4 := by
  unfold logS
  cases decide (s 6 = 40) with
  | true => rw [cond_true, upd_n (by decide)]; rfl
  | false => rw [cond_false, upd_n (by omega), upd_n (by decide)]
theorem cause_4 (s : Row) (k : Nat) (v : Int32) : causeS s k v 4 = s 4 := by unfold causeS; rw [log_4, upd_n (by omega)]
theorem sets_4 (s : Row) (t : Nat) (f : Int32) (on : Bool) : sets s t f on 4 = s 4 := by unfold sets; rw [upd_n (by omega)]
theorem moves_4 (s : Row) (t : Nat) (p g : Int32) : moves s t p g 4 = s 4 := by unfold moves; rw [upd_n (by omega), upd_n (by omega)]
theorem wand_4 (s : Row) (k : Nat) : wandS s k 4 = s 4 := by
  unfold wandS
  cases decide (s (255 + dT s k) = 0) with
  | false => rfl
  | true =>
    rw [cond_true]
    cases first (fun i => goes s (wandE s k (dT s k) i)) 6 with
    | none => rfl
    | some i =>
      show causeS _ k _ 4 = s 4
      rw [cause_4, upd_n (by omega), upd_n (by omega)]
theorem gath_4 (s : Row) (k : Nat) : gathS s k 4 = s 4 := by
  unfold gathS
  cases (decide (s (255 + dT s k) = 0) && hasF s (dT s k) 1) with
  | false => rfl
  | true =>
    rw [cond_true]
    cases first (gathP s (dT s k)) (nT s) with
    | none => rfl
    | some i =>
      show causeS _ k _ 4 = s 4
      rw [cause_4, moves_4]
theorem stirA_4 (s : Row) (k : Nat) : stirA s k 4 = s 4 := by
  unfold stirA shutS togS
  cases decide (s (287 + k) = 0) with
  | true =>
    rw [cond_true]
    cases hasF s (dT s k) 1 with
    | true => rw [cond_true, cause_4, sets_4]
    | false => rfl
  | false =>
    rw [cond_false]
    cases decide (s (287 + k) = 1) with
    | true => rw [cond_true, wand_4]
    | false =>
      rw [cond_false]
      cases decide (s (287 + k) = 2) with
      | true => rw [cond_true, gath_4]
      | false =>
        rw [cond_false]
        cases hasF s (dT s k) 4 with
        | true => rw [cond_true, cause_4, sets_4]
        | false =>
          rw [cond_false]
          cases decide (s (207 + dT s k) = 0) with
          | true => rfl
          | false => rw [cond_false, cause_4, sets_4]
theorem passD_4 (k : Nat) (s : Row) : passD k s 4 = s 4 := by
  unfold passD stirS stirE
  cases decide (s (311 + k) = s 4) with
  | false => rfl
  | true => rw [cond_true, upd_n (by omega), stirA_4]
theorem passL_4 (t : Nat) (s : Row) : passL t s 4 = s 4 := by
  unfold passL burnS
  cases (decide (s (111 + t) = 3) && hasF s t 4) with
  | false => rfl
  | true =>
    rw [cond_true]
    cases decide (s (207 + t) - 1 = 0) with
    | true => rw [cond_true, log_4, sets_4, upd_n (by omega)]
    | false => rw [cond_false, upd_n (by omega)]
theorem fold_4 (f : Nat → Row → Row) (hf : ∀ k s, f k s 4 = s 4) : ∀ n s, foldN f n s 4 = s 4 := by
  intro n
  induction n with
  | zero => intro s; rfl
  | succ n ih => intro s; rw [foldN_succ, hf, ih]
theorem pass_4 (s : Row) : passS s 4 = s 4 + 1 := by
  unfold passS tick
  rw [fold_4 _ passL_4, fold_4 _ passD_4, upd_s]
def A4 (s : Row) (r : AR) : Prop := match r with
  | Sum.inl _ => True
  | Sum.inr s' => s' 4 = s 4
variable {s : Row}
theorem A4_c {b : Bool} {x y : AR} (h1 : A4 s x) (h2 : A4 s y) : A4 s (cond b x y) := by
  cases b with
  | true => exact h1
  | false => exact h2
theorem A4_r {w z : Int32} : A4 s (rf w z) := trivial
theorem A4_o {s' : Row} (h : s' 4 = s 4) : A4 s (ok s') := h
theorem A4_take (t : Nat) : A4 s (takS s t) := A4_c A4_r (A4_c A4_r (A4_c (A4_o (moves_4 _ _ _ _)) A4_r))
theorem A4_drop (t : Nat) : A4 s (drpS s t) := A4_c (A4_o (moves_4 _ _ _ _)) A4_r
theorem A4_opn (t : Nat) (on : Bool) : A4 s (opnS s t on) := A4_c (A4_c A4_r (A4_c A4_r (A4_o (sets_4 _ _ _ _)))) A4_r
theorem A4_lok (t q : Nat) (on : Bool) : A4 s (lokS s t q on) := A4_c (A4_c A4_r (A4_c A4_r (A4_c (A4_o (sets_4 _ _ _ _)) A4_r))) A4_r
theorem A4_lit (t : Nat) (on : Bool) : A4 s (litS s t on) := A4_c (A4_c A4_r (A4_c A4_r (A4_o (sets_4 _ _ _ _)))) A4_r
theorem A4_put (t q : Nat) (p : Int32) : A4 s (putS s t q p) := A4_c A4_r (A4_c (A4_c A4_r (A4_c A4_r (A4_c A4_r (A4_c A4_r (A4_o (moves_4 _ _ _ _)))))) A4_r)
theorem A4_mov (k : Nat) : A4 s (movS s k) := A4_c A4_r (A4_c A4_r (A4_o (upd_n (by decide) _ _)))
theorem A4_any (a : Bool × Row) (h : a.2 4 = s 4) : A4 s (anyS a) := A4_c (A4_o h) A4_r
theorem fold2_4 (f : Nat → Bool × Row → Bool × Row) (hf : ∀ k a, (f k a).2 4 = a.2 4) : ∀ n a, (foldN f n a).2 4 = a.2 4 := by
  intro n
  induction n with
  | zero => intro a; rfl
  | succ n ih => intro a; rw [foldN_succ, hf, ih]
theorem A4_tal : A4 s (talS s) := A4_any _ (fold2_4 talF (fun k a => by
  unfold talF
  cases talP a.2 k with
  | true => exact moves_4 _ _ _ _
  | false => rfl) _ _)
theorem A4_dal : A4 s (dalS s) := A4_any _ (fold2_4 dalF (fun k a => by
  unfold dalF
  cases decide (a.2 (255 + k) = 3) with
  | true => exact moves_4 _ _ _ _
  | false => rfl) _ _)
theorem A4_does (v : Int32) (t q : Nat) : A4 s (doesS s v t q) := A4_c (A4_take t) (A4_c (A4_drop t) (A4_c (A4_opn t true) (A4_c (A4_opn t false) (A4_c (A4_lit t true) (A4_c (A4_lit t false) (A4_c (A4_put t q 1) (A4_c (A4_put t q 2) (A4_c (A4_lok t q true) (A4_lok t q false)))))))))
theorem A4_one (c : Cmd) : A4 s (oneS s c) := by
  unfold oneS
  cases meantS s c.2.1 c.2.2.1 (prefV c.1) with
  | inl w => exact A4_r
  | inr t => exact A4_c (A4_does _ _ _) A4_r
theorem A4_two (c : Cmd) : A4 s (twoS s c) := by
  unfold twoS
  cases meantS s c.2.1 c.2.2.1 (prefV c.1) with
  | inl w => exact A4_r
  | inr t =>
    show A4 s (match meantS s c.2.2.2.1 c.2.2.2.2 0 with
    | Sum.inl w => rf w (-1)
    | Sum.inr q => cond (reach s t) (cond (reach s q) (doesS s c.1 t q) (rf 3 (nI q))) (rf 3 (nI t)))
    cases meantS s c.2.2.2.1 c.2.2.2.2 0 with
    | inl w => exact A4_r
    | inr q => exact A4_c (A4_c (A4_does _ _ _) A4_r) A4_r
theorem A4_act (c : Cmd) : A4 s (actS s c) := A4_c (A4_c (A4_o rfl) A4_r) (A4_c (A4_o rfl) (A4_c (A4_mov _) (A4_c A4_tal (A4_c A4_dal (A4_c (A4_two c) (A4_one c))))))
theorem look_same {c : Cd} (h6 : c.1 = 6) {s' : Row} (h : actS s (cmT c) = Sum.inr s') : s' = s := by
  have e : cmT c = (0, 0, 0, 0, 0) := by unfold cmT cmdC; rw [if_neg (by omega), if_pos h6]
  rw [e] at h
  have h : cond (bright s (nP s)) (ok s) (rf 12 (-1)) = Sum.inr s' := h
  cases hb : bright s (nP s) with
  | true => rw [hb] at h; exact (Sum.inr.inj h).symm
  | false => rw [hb] at h; cases h
theorem runL_app {c : Cd} {s' : Row} : ∀ (L : List Cd) (b x : Row), runL L b = some x → actS x (cmT c) = Sum.inr s' → runL (L ++ [c]) b = some (passS s') := by
  intro L
  induction L with
  | nil =>
    intro b x h1 h2
    have : b = x := Option.some.inj h1
    subst this
    show (match actS b (cmT c) with
    | Sum.inl _ => none
    | Sum.inr s' => runL [] (passS s')) = _
    rw [h2]
    rfl
  | cons z L ih =>
    intro b x h1 h2
    unfold runL at h1
    show (match actS b (cmT z) with
    | Sum.inl _ => none
    | Sum.inr s' => runL (L ++ [c]) (passS s')) = _
    cases ha : actS b (cmT z) with
    | inl w => rw [ha] at h1; cases h1
    | inr b' =>
      rw [ha] at h1
      exact ih _ _ h1 h2
theorem RL_turn {T b : Row} {k : Nat} {c : Cd} {s' : Row} (h : RL T b s k) (hv : VOkT c) (h6 : c.1 ≠ 6) (ha : actS s (cmT c) = Sum.inr s') (hk : k < 512) : recT T (passS s' 4) (cdT c) = upd T k (cdT c) ∧ RL (upd T k (cdT c)) b (passS s') (k + 1) := by
  obtain ⟨L, l1, l2, l3, l4⟩ := h
  have h4 : s' 4 = s 4 := by
    have := A4_act (s := s) (cmT c)
    rw [ha] at this
    exact this
  have e4 : passS s' 4 = nI (k + 1) := by rw [pass_4, h4, l2]; exact nI_add k 1
  refine ⟨?_, L ++ [c], ?_, e4, fun i x hx => ?_, runL_app L b s l4 ha⟩
  · unfold recT
    rw [e4, show nI (k + 1) - 1 = nI k from pk_sub (a := k + 1) (b := 1) (by omega)]
    have hb : inB (nI k) 0 511 = true := by
      rw [inB_lt, show (511 : Int32) = nI 511 from rfl, decide_eq_false (nI_pos (by omega)), decide_eq_false (show ¬ nI 511 < nI k by rw [Int32.not_lt]; exact nI_le (by omega) (by omega))]; rfl
    rw [hb, nI_clamp (by omega)]
    rfl
  · rw [List.length_append, List.length_singleton, l1]
  · rcases Nat.lt_or_ge i L.length with q | q
    · rw [List.getElem?_append_left q] at hx
      rw [upd_n (by omega)]
      exact l3 i x hx
    · rw [List.getElem?_append_right q] at hx
      have hi : i = k := by
        rcases Nat.lt_or_ge (i - L.length) 1 with z | z
        · omega
        · rw [List.getElem?_eq_none (by rw [List.length_singleton]; omega)] at hx
          cases hx
      rw [hi, ← l1, Nat.sub_self] at hx
      have hx : c = x := Option.some.inj hx
      rw [← hx, hi, upd_s]
      exact ⟨rfl, hv, h6⟩
def HQ (T b s : Row) (H : List Row) (c : Nat) : Prop := H.length ≤ 10 ∧ H.length ≤ c ∧ ∀ (j : Nat) (h : Row), H[j]? = some h → HK s h ∧ RL T b h (c + j - H.length)
theorem HQ_turn {T b : Row} {H : List Row} {k : Nat} {x : Int32} {s' : Row} (hk : Ok s) (hp : s 3 = 1) (hL : load s ≤ 20) (sp : SP s s') (hrl : RL T b s k) (hq : HQ T b s H k) : HQ (upd T k x) b s' (keepH H s) (k + 1) := by
  obtain ⟨q1, q2, q3⟩ := hq
  have up : ∀ {h : Row} {c : Nat}, c ≤ k → RL T b h c → RL (upd T k x) b h c := fun hc hr => RL_cong hr (fun i hi => upd_n (by omega) T x)
  have hkk : ∀ {h : Row}, HK s h → HK s' h := fun z => ⟨z.1, SP_trans (SP_sym sp) z.2.1, z.2.2⟩
  refine ⟨keepH_len s q1, ?_, fun j h hj => ?_⟩
  · unfold keepH
    by_cases e : H.length = 10
    · rw [if_pos e, List.length_append, List.length_drop, List.length_singleton]; omega
    · rw [if_neg e, List.length_append, List.length_singleton]; omega
  · unfold keepH at hj ⊢
    by_cases e : H.length = 10
    · rw [if_pos e] at hj ⊢
      rw [List.length_append, List.length_drop, List.length_singleton]
      rcases Nat.lt_or_ge j 9 with z | z
      · rw [List.getElem?_append_left (by rw [List.length_drop]; omega), List.getElem?_drop] at hj
        obtain ⟨a1, a2⟩ := q3 (1 + j) h hj
        refine ⟨hkk a1, ?_⟩
        rw [show k + 1 + j - (H.length - 1 + 1) = k + (1 + j) - H.length by omega]
        exact up (by omega) a2
      · rw [List.getElem?_append_right (by rw [List.length_drop]; omega), List.length_drop] at hj
        have hj9 : j = 9 := by
          rcases Nat.lt_or_ge (j - (H.length - 1)) 1 with y | y
          · omega
          · rw [List.getElem?_eq_none (by rw [List.length_singleton]; omega)] at hj
            cases hj
        rw [hj9, e] at hj
        have hj : s = h := Option.some.inj hj
        rw [← hj, hj9, show k + 1 + 9 - (H.length - 1 + 1) = k by omega]
        exact ⟨hkk ⟨hk, SP_refl s, hp, hL⟩, up (Nat.le_refl k) hrl⟩
    · rw [if_neg e] at hj ⊢
      rw [List.length_append, List.length_singleton]
      rcases Nat.lt_or_ge j H.length with z | z
      · rw [List.getElem?_append_left z] at hj
        obtain ⟨a1, a2⟩ := q3 j h hj
        refine ⟨hkk a1, ?_⟩
        rw [show k + 1 + j - (H.length + 1) = k + j - H.length by omega]
        exact up (by omega) a2
      · rw [List.getElem?_append_right z] at hj
        have hjl : j = H.length := by
          rcases Nat.lt_or_ge (j - H.length) 1 with y | y
          · omega
          · rw [List.getElem?_eq_none (by rw [List.length_singleton]; omega)] at hj
            cases hj
        rw [hjl, Nat.sub_self] at hj
        have hj : s = h := Option.some.inj hj
        rw [← hj, hjl, show k + 1 + H.length - (H.length + 1) = k by omega]
        exact ⟨hkk ⟨hk, SP_refl s, hp, hL⟩, up (Nat.le_refl k) hrl⟩
theorem CO_RL {b : Row} : ∀ (l : List Cd) (s : Row) (H : List Row) (i : Nat) (T : Row) (k : Nat), Ok s → s 3 = 1 → load s ≤ 20 → (∀ (j : Nat) (c : Cd), l[j]? = some c → VOkT c) → RL T b s k → k + l.length ≤ 512 → HQ T b s H k → ∃ k', k' ≤ k + l.length ∧ RL (TO l s T) b (CO l s H i).1 k' ∧ HQ (TO l s T) b (CO l s H i).1 (CO l s H i).2.1 k' := by
  intro l
  induction l with
  | nil => intro s H i T k hk hp hL hv hr hl hq; exact ⟨k, Nat.le_refl _, hr, hq⟩
  | cons c l ih =>
    intro s H i T k hk hp hL hv hr hl hq
    rw [List.length_cons] at hl ⊢
    have hvc := hv 0 c rfl
    have hv' : ∀ (j : Nat) (c : Cd), l[j]? = some c → VOkT c := fun j c' hj => hv (j + 1) c' hj
    have hga : GA s (actS s (cmT c)) := GA_act hk hp hL (cmd_ok hvc).2
    unfold CO TO
    cases ha : actS s (cmT c) with
    | inl w => exact ⟨k, by omega, hr, hq⟩
    | inr s' =>
      rw [ha] at hga
      have hga : Gd s s' ∧ load s' ≤ 20 := hga
      show ∃ k', k' ≤ k + (l.length + 1) ∧ RL (if c.1 = 6 then TO l s' T else TO l (passS s') (recT T (passS s' 4) (cdT c))) b (if c.1 = 6 then CO l s' H (i + 1) else CO l (passS s') (keepH H s) (i + 1) : Row × List Row × Nat × (Int32 × Int32)).1 k' ∧ HQ (if c.1 = 6 then TO l s' T else TO l (passS s') (recT T (passS s' 4) (cdT c))) b (if c.1 = 6 then CO l s' H (i + 1) else CO l (passS s') (keepH H s) (i + 1) : Row × List Row × Nat × (Int32 × Int32)).1 (if c.1 = 6 then CO l s' H (i + 1) else CO l (passS s') (keepH H s) (i + 1) : Row × List Row × Nat × (Int32 × Int32)).2.1 k'
      by_cases h6 : c.1 = 6
      · rw [if_pos h6, if_pos h6]
        have e := look_same h6 ha
        rw [e]
        obtain ⟨k', q1, q2⟩ := ih s H (i + 1) T k hk hp hL hv' hr (by omega) hq
        exact ⟨k', by omega, q2⟩
      · rw [if_neg h6, if_neg h6]
        have gp := GL_pass hga.1.1 hga.1.2.2
        obtain ⟨r1, r2⟩ := RL_turn hr hvc h6 ha (by omega)
        rw [r1]
        obtain ⟨k', q1, q2⟩ := ih (passS s') (keepH H s) (i + 1) (upd T k (cdT c)) (k + 1) gp.1.1 gp.1.2.2 (Nat.le_trans gp.2 hga.2) hv' r2 (by omega) (HQ_turn hk hp hL (SP_trans hga.1.2.1 gp.1.2.1) hr hq)
        exact ⟨k', by omega, q2⟩
theorem CO_0 : ∀ (l : List Cd) (s : Row) (H : List Row) (i : Nat), (CO l s H i).2.2.2.1 = 0 → (CO l s H i).2.2.2.2 = -1 := by
  intro l
  induction l with
  | nil => intro s H i _; rfl
  | cons c l ih =>
    intro s H i
    have hg := GP_act (s := s) (cmT c)
    unfold CO
    cases ha : actS s (cmT c) with
    | inl w =>
      rw [ha] at hg
      have hg : 0 < w.1 := hg
      intro h
      have h : w.1 = 0 := h
      rw [h] at hg
      exact absurd hg (by decide)
    | inr s' =>
      show (if c.1 = 6 then CO l s' H (i + 1) else CO l (passS s') (keepH H s) (i + 1) : Row × List Row × Nat × (Int32 × Int32)).2.2.2.1 = 0 → (if c.1 = 6 then CO l s' H (i + 1) else CO l (passS s') (keepH H s) (i + 1) : Row × List Row × Nat × (Int32 × Int32)).2.2.2.2 = -1
      by_cases h6 : c.1 = 6
      · rw [if_pos h6]; exact ih _ _ _
      · rw [if_neg h6]; exact ih _ _ _
end CK4
