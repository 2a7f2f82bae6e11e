/-! what a command leaves: a good row, and not too much in hand -/
def GL (s s' : Row) : Prop := Gd s s' ∧ load s' ≤ load s
section LD
variable {s : Row}
theorem nI_nm {n : Nat} (h : n < 2 ^ 31) : ¬ nI n = -1 := fun e => by
  have := congrArg Int32.toInt e
  rw [nI_toInt h] at this
  have e2 : (-1 : Int32).toInt = -1 := by decide
  omega
theorem GL_refl (h : Ok s) (hp : s 3 = 1) : GL s s := ⟨⟨h, SP_refl s, hp⟩, Nat.le_refl _⟩
theorem GL_trans {a b c : Row} (h1 : GL a b) (h2 : GL b c) : GL a c := ⟨Gd_trans h1.1 h2.1, Nat.le_trans h2.2 h1.2⟩
theorem GL_pl {s' : Row} (h : Ok s) (g : Gd s s') (pl : SPl s s') : GL s s' := ⟨g, Nat.le_of_eq (SPl_load h g.1 g.2.1 pl)⟩
theorem GL_sets (h : Ok s) (hp : s 3 = 1) {t f : Nat} {on : Bool} (ht : t < nT s) (hf : FlOk s t f on) : GL s (sets s t (nI f) on) := GL_pl h (Gd_sets h hp ht hf) (Ok_sets h ht hf).2.2
theorem GL_upd (h : Ok s) {k : Nat} (x : Int32) (hk : k = 4 ∨ k = 5 ∨ (311 ≤ k ∧ k < 317) ∨ (317 ≤ k ∧ k < 323) ∨ (323 ≤ k ∧ k < 369)) (hp : s 3 = 1) (h5 : H5 s k x) (h7 : H7 k x) : GL s (upd s k x) := GL_pl h (Gd_upd h x hk hp h5 h7) (Ok_upd h x hk hp h5 h7).2.2
theorem GL_cause (h : Ok s) (hp : s 3 = 1) {k : Nat} (hk : k < 6) (v : Int32) : GL s (causeS s k v) := GL_pl h (Gd_cause h hp hk v) (Ok_cause h hp hk v).2.2
theorem GL_move (h : Ok s) (hp : s 3 = 1) {t : Nat} {p g : Int32} (hm : MvOk s t p g) (ho : outer (moves s t p g) t ≠ -1) : GL s (moves s t p g) := ⟨Gd_moves h hp hm, load_le h hm ho⟩
theorem GL_room (h : Ok s) (hp : s 3 = 1) {t r : Nat} (ht : t < nT s) (hr : r < nR s) : GL s (moves s t 0 (nI r)) := by
  refine GL_move h hp ⟨ht, Or.inl ⟨rfl, r, hr, rfl⟩⟩ ?_
  rw [mo_out_f (by decide) (by decide), if_pos rfl]
  exact nI_nm (by have := (Pk_R h.1).2; omega)
theorem GL_wand (h : Ok s) (hp : s 3 = 1) {k : Nat} (hk : k < nD s) : GL s (wandS s k) := by
  have hk6 : k < 6 := Nat.lt_of_lt_of_le hk (Pk_D h.1).2
  have hR := (Pk_R h.1).2
  obtain ⟨d1, d2, -⟩ := dk h hk
  unfold wandS
  by_cases e : s (255 + dT s k) = 0
  · rw [decide_eq_true e]
    obtain ⟨r1, r2⟩ := par_room h d2 e
    show GL s (match first (fun i => goes s (wandE s k (dT s k) i)) 6 with
      | none => s
      | some i => causeS (upd (upd s (271 + dT s k) (s (15 + wandE s k (dT s k) i))) (317 + k) (nI ((dW s k + i) % 6))) k (nI (200 + dT s k)))
    cases hf : first (fun i => goes s (wandE s k (dT s k) i)) 6 with
    | none => exact GL_refl h hp
    | some i =>
      obtain ⟨f1, f2, -⟩ := first_some hf
      have hl := Ok_lt h d2
      have hx := ((h.1.2.1 (par s (dT s k)) r1 ((dW s k + i) % 6) (Nat.mod_lt _ (by decide))).1)
      have hne : ¬ s (15 + wandE s k (dT s k) i) = -1 := by
        intro q
        unfold goes at f2
        rw [decide_eq_true q] at f2
        cases f2
      rcases hx with hx | ⟨q, q1, q2⟩
      · exact absurd hx hne
      · have e2 : upd s (271 + dT s k) (s (15 + wandE s k (dT s k) i)) = moves s (dT s k) 0 (nI q) := by
          unfold moves mvT
          rw [if_pos (by decide), show s (15 + wandE s k (dT s k) i) = nI q from q2]
          congr 1
          rw [← e, upd_id]
        show GL s (causeS (upd (upd s (271 + dT s k) (s (15 + wandE s k (dT s k) i))) (317 + k) (nI ((dW s k + i) % 6))) k (nI (200 + dT s k)))
        rw [e2]
        have g1 := GL_room h hp d2 q1
        have g2 := GL_upd g1.1.1 (k := 317 + k) (nI ((dW s k + i) % 6)) (by omega) g1.1.2.2 (fun x => by omega) (fun _ _ => Or.inr ⟨_, Nat.mod_lt _ (by decide), rfl⟩)
        exact GL_trans g1 (GL_trans g2 (GL_cause g2.1.1 g2.1.2.2 hk6 _))
  · rw [decide_eq_false e]
    exact GL_refl h hp
theorem GL_gath (h : Ok s) (hp : s 3 = 1) {k : Nat} (hk : k < nD s) (h2 : s (287 + k) = 2) : GL s (gathS s k) := by
  have hk6 : k < 6 := Nat.lt_of_lt_of_le hk (Pk_D h.1).2
  obtain ⟨d1, d2, d3, -⟩ := dk h hk
  unfold gathS
  cases hc : (decide (s (255 + dT s k) = 0) && hasF s (dT s k) 1) with
  | false => exact GL_refl h hp
  | true =>
    show GL s (match first (gathP s (dT s k)) (nT s) with
      | none => s
      | some t => causeS (moves s t 1 (nI (dT s k))) k (nI (300 + t)))
    cases hf : first (gathP s (dT s k)) (nT s) with
    | none => exact GL_refl h hp
    | some t =>
      obtain ⟨f1, f2, -⟩ := first_some hf
      have hc0 : s (255 + dT s k) = 0 := of_decide_eq_true ((Bool.and_eq_true _ _).mp hc).1
      have hne : dT s k ≠ t := fun e => by
        unfold gathP at f2
        rw [e, Nat.beq_refl] at f2
        cases f2
      have hh := held_f (s := s) (t := dT s k) (by rw [hc0]; decide) (by rw [hc0]; decide)
      have hi : inside s (dT s k) t = false := by
        rw [inside_0 hh]
        exact ax_beq_ne hne
      have hm : MvOk s t 1 (nI (dT s k)) := ⟨f1, Or.inr (Or.inl ⟨rfl, dT s k, d2, rfl, d3 h2, hi⟩)⟩
      have g1 := GL_move h hp hm (by
        rw [mo_out_h h hm (Or.inl rfl) d2 rfl hi]
        unfold outer
        rw [top_0 hh]
        unfold outS
        rw [if_pos hc0, (par_room h d2 hc0).2]
        exact nI_nm (by have := (Pk_R h.1).2; have := (par_room h d2 hc0).1; omega))
      exact GL_trans g1 (GL_cause g1.1.1 g1.1.2.2 hk6 _)
theorem GL_shut (h : Ok s) (hp : s 3 = 1) {k : Nat} (hk : k < nD s) : GL s (shutS s k) := by
  have hk6 : k < 6 := Nat.lt_of_lt_of_le hk (Pk_D h.1).2
  obtain ⟨d1, d2, -⟩ := dk h hk
  unfold shutS
  cases hasF s (dT s k) 1 with
  | false => exact GL_refl h hp
  | true =>
    have g1 := GL_sets h hp (f := 1) (on := false) d2 ⟨by omega, fun e => by cases e⟩
    exact GL_trans g1 (GL_cause g1.1.1 g1.1.2.2 hk6 _)
theorem GL_tog (h : Ok s) (hp : s 3 = 1) {k : Nat} (hk : k < nD s) (h3 : s (287 + k) = 3) : GL s (togS s k) := by
  have hk6 : k < 6 := Nat.lt_of_lt_of_le hk (Pk_D h.1).2
  obtain ⟨d1, d2, -, d4⟩ := dk h hk
  unfold togS
  cases hasF s (dT s k) 4 with
  | true =>
    have g1 := GL_sets h hp (f := 4) (on := false) d2 ⟨by omega, fun e => by cases e⟩
    exact GL_trans g1 (GL_cause g1.1.1 g1.1.2.2 hk6 _)
  | false =>
    by_cases e : s (207 + dT s k) = 0
    · rw [decide_eq_true e]
      exact GL_refl h hp
    · rw [decide_eq_false e]
      have g1 := GL_sets h hp (f := 4) (on := true) d2 ⟨by omega, fun _ => ⟨fun x => by omega, fun x => by omega, fun x => by omega, fun _ => ⟨d4 h3, e⟩⟩⟩
      exact GL_trans g1 (GL_cause g1.1.1 g1.1.2.2 hk6 _)
theorem GL_stir (h : Ok s) (hp : s 3 = 1) {k : Nat} (hk : k < nD s) : GL s (stirS s k) := by
  have hk6 : k < 6 := Nat.lt_of_lt_of_le hk (Pk_D h.1).2
  have g1 : GL s (stirA s k) := by
    obtain ⟨⟨q, hq, eq⟩, -⟩ := h.1.2.2.2.1 k hk
    unfold stirA
    by_cases e0 : s (287 + k) = 0
    · rw [decide_eq_true e0]
      exact GL_shut h hp hk
    · rw [decide_eq_false e0]
      by_cases e1 : s (287 + k) = 1
      · rw [decide_eq_true e1]
        exact GL_wand h hp hk
      · rw [decide_eq_false e1]
        by_cases e2 : s (287 + k) = 2
        · rw [decide_eq_true e2]
          exact GL_gath h hp hk e2
        · rw [decide_eq_false e2]
          refine GL_tog h hp hk ?_
          rw [eq] at e0 e1 e2 ⊢
          have : q ≠ 0 := fun x => e0 (by rw [x]; rfl)
          have : q ≠ 1 := fun x => e1 (by rw [x]; rfl)
          have : q ≠ 2 := fun x => e2 (by rw [x]; rfl)
          rw [show q = 3 by omega]
          rfl
  exact GL_trans g1 (GL_upd g1.1.1 (k := 311 + k) _ (by omega) g1.1.2.2 (fun x => by omega) (fun x => by omega))
theorem GL_passD (h : Ok s) (hp : s 3 = 1) {k : Nat} (hk : k < nD s) : GL s (passD k s) := by
  unfold passD
  cases decide (s (311 + k) = s 4) with
  | true => exact GL_stir h hp hk
  | false => exact GL_refl h hp
theorem GL_passL (h : Ok s) (hp : s 3 = 1) {t : Nat} (ht : t < nT s) : GL s (passL t s) := by
  unfold passL
  cases hc : (decide (s (111 + t) = 3) && hasF s t 4) with
  | true =>
    have hl4 := ((Bool.and_eq_true _ _).mp hc).2
    have hl := Ok_lt h ht
    show GL s (burnS s t)
    unfold burnS
    by_cases hz : s (207 + t) - 1 = 0
    · rw [decide_eq_true hz]
      have g1 : GL s (sets (upd s (207 + t) (s (207 + t) - 1)) t 4 false) := GL_pl h (Gd_burn0 h hp ht hl4 hz) (fun k h1 h2 => by rw [set_n (by omega), upd_n (by omega)])
      obtain ⟨a, b, c⟩ := Ok_log g1.1.1 g1.1.2.2 (nI (600 + t))
      exact GL_trans g1 (GL_pl g1.1.1 ⟨a, b, (log_3 _ _).trans g1.1.2.2⟩ c)
    · rw [decide_eq_false hz]
      exact GL_pl h (Gd_burn1 h hp ht hl4 hz) (fun k h1 h2 => upd_n (by omega) s _)
  | false => exact GL_refl h hp
theorem GL_fold (h : Ok s) (hp : s 3 = 1) (f : Nat → Row → Row) (N : Nat) (hf : ∀ a k, GL s a → k < N → GL a (f k a)) : ∀ n, n ≤ N → GL s (foldN f n s) := by
  intro n
  induction n with
  | zero => intro _; exact GL_refl h hp
  | succ n ih =>
    intro hn
    have g1 := ih (by omega)
    exact GL_trans g1 (hf _ n g1 (by omega))
theorem GL_pass (h : Ok s) (hp : s 3 = 1) : GL s (passS s) := by
  have g1 : GL s (tick s) := GL_upd h (k := 4) _ (by omega) hp (fun x => by omega) (fun x => by omega)
  have e := SP_D g1.1.2.1
  have g2 : GL s (foldN passD (nD s) (tick s)) := GL_trans g1 (GL_fold g1.1.1 g1.1.2.2 passD (nD s) (fun a k ga hk => GL_passD ga.1.1 ga.1.2.2 (by rw [SP_D ga.1.2.1, e]; exact hk)) _ (Nat.le_refl _))
  have e2 := SP_T g2.1.2.1
  exact GL_trans g2 (GL_fold g2.1.1 g2.1.2.2 passL (nT s) (fun a k ga hk => GL_passL ga.1.1 ga.1.2.2 (by rw [SP_T ga.1.2.1, e2]; exact hk)) _ (Nat.le_refl _))
/-- a command's answer: a reason, or a good row -/
def GA (s : Row) (r : AR) : Prop := match r with
  | Sum.inl w => ¬ w.1 = 0
  | Sum.inr s' => Gd s s' ∧ load s' ≤ 20
theorem GA_c {b : Bool} {x y : AR} (h1 : b = true → GA s x) (h2 : b = false → GA s y) : GA s (cond b x y) := by
  cases b with
  | true => exact h1 rfl
  | false => exact h2 rfl
theorem GA_r {w z : Int32} {P : Prop} (h : ¬ w = 0) : P → GA s (rf w z) := fun _ => h
theorem GA_take (h : Ok s) (hp : s 3 = 1) {t : Nat} (ht : t < nT s) : GA s (takS s t) :=
  GA_c (GA_r (by decide)) (fun _ => GA_c (GA_r (by decide)) (fun _ => GA_c (fun g => ⟨Gd_moves h hp (mv3 ht), of_decide_eq_true g⟩) (GA_r (by decide))))
theorem GA_drop (h : Ok s) (hp : s 3 = 1) (hL : load s ≤ 20) {t : Nat} (ht : t < nT s) : GA s (drpS s t) := by
  obtain ⟨h5, h6, h8⟩ := Ok_P h (decide_eq_true hp)
  refine GA_c (fun _ => ?_) (GA_r (by decide))
  rw [h5]
  have g := GL_room h hp ht h6
  exact ⟨g.1, Nat.le_trans g.2 hL⟩
theorem GA_sets (h : Ok s) (hp : s 3 = 1) (hL : load s ≤ 20) {t f : Nat} {on : Bool} (ht : t < nT s) (hf : FlOk s t f on) : GA s (ok (sets s t (nI f) on)) := by
  have g := GL_sets h hp ht hf
  exact ⟨g.1, Nat.le_trans g.2 hL⟩
theorem GA_opn (h : Ok s) (hp : s 3 = 1) (hL : load s ≤ 20) {t : Nat} (ht : t < nT s) (on : Bool) : GA s (opnS s t on) :=
  GA_c (fun gl => GA_c (GA_r (by decide)) (fun _ => GA_c (GA_r (by decide)) (fun _ => GA_sets h hp hL (f := 1) ht ⟨by omega, fun _ => ⟨fun e => by omega, fun _ => gl, fun e => by omega, fun e => by omega⟩⟩))) (GA_r (by decide))
theorem GA_lok (h : Ok s) (hp : s 3 = 1) (hL : load s ≤ 20) {t : Nat} (ht : t < nT s) (q : Nat) (on : Bool) : GA s (lokS s t q on) :=
  GA_c (fun gl => GA_c (GA_r (by decide)) (fun _ => GA_c (GA_r (by decide)) (fun _ => GA_c (fun _ => GA_sets h hp hL (f := 2) ht ⟨by omega, fun _ => ⟨fun e => by omega, fun e => by omega, fun e => by omega, fun e => by omega⟩⟩) (GA_r (by decide))))) (GA_r (by decide))
theorem GA_lit (h : Ok s) (hp : s 3 = 1) (hL : load s ≤ 20) {t : Nat} (ht : t < nT s) (on : Bool) : GA s (litS s t on) :=
  GA_c (fun gl => GA_c (GA_r (by decide)) (fun _ => GA_c (GA_r (by decide)) (fun g2 => GA_sets h hp hL (f := 4) ht ⟨by omega, fun e => ⟨fun e => by omega, fun e => by omega, fun e => by omega, fun _ => ⟨of_decide_eq_true gl, fun z => by rw [e, decide_eq_true z] at g2; cases g2⟩⟩⟩))) (GA_r (by decide))
theorem GA_put (h : Ok s) (hp : s 3 = 1) {t q : Nat} (ht : t < nT s) (hq : q < nT s) {p : Int32} (hpp : p = 1 ∨ p = 2) : GA s (putS s t q p) := by
  refine GA_c (GA_r (by decide)) (fun _ => GA_c (fun g1 => GA_c (GA_r (by decide)) (fun g2 => GA_c (GA_r (by decide)) (fun _ => GA_c (GA_r (by decide)) (fun _ => GA_c (GA_r (by decide)) (fun g5 => ?_))))) (GA_r (by decide)))
  have g1 : s (111 + q) = p := of_decide_eq_true g1
  have hm : MvOk s t p (nI q) := by
    rcases hpp with rfl | rfl
    · exact ⟨ht, Or.inr (Or.inl ⟨rfl, q, hq, rfl, g1, g2⟩)⟩
    · exact ⟨ht, Or.inr (Or.inr (Or.inl ⟨rfl, q, hq, rfl, g1, g2⟩))⟩
  refine ⟨Gd_moves h hp hm, ?_⟩
  have g6 := ((Bool.or_eq_false_iff).mp g5).2
  cases hb : bear s t p (nI q) with
  | true => exact of_decide_eq_true hb
  | false =>
    rw [hb] at g6
    cases g6
theorem GA_mov (h : Ok s) (hp : s 3 = 1) (hL : load s ≤ 20) {k : Nat} (hk : k < 6) : GA s (movS s k) := by
  obtain ⟨h5, h6, h8⟩ := Ok_P h (decide_eq_true hp)
  refine GA_c (GA_r (by decide)) (fun g => GA_c (GA_r (by decide)) (fun _ => ?_))
  have g : ¬ s (15 + (6 * nP s + k)) = -1 := of_decide_eq_false g
  rcases (h.1.2.1 (nP s) h6 k hk).1 with e | ⟨q, q1, q2⟩
  · exact absurd e g
  · have g := GL_upd h (k := 5) (s (15 + (6 * nP s + k))) (by omega) hp (fun _ => ⟨q, q1, q2⟩) (fun e => by omega)
    exact ⟨g.1, Nat.le_trans g.2 hL⟩
theorem ld_fold (h : Ok s) (hp : s 3 = 1) (hL : load s ≤ 20) (f : Nat → Bool × Row → Bool × Row) (N : Nat) (hf : ∀ a k, Gd s a.2 → load a.2 ≤ 20 → k < N → Gd a.2 (f k a).2 ∧ load (f k a).2 ≤ 20) : ∀ n, n ≤ N → Gd s (foldN f n (false, s)).2 ∧ load (foldN f n (false, s)).2 ≤ 20 := by
  intro n
  induction n with
  | zero => intro _; exact ⟨⟨h, SP_refl s, hp⟩, hL⟩
  | succ n ih =>
    intro hn
    have g1 := ih (by omega)
    have g2 := hf _ n g1.1 g1.2 (by omega)
    exact ⟨Gd_trans g1.1 g2.1, g2.2⟩
theorem GA_any {a : Bool × Row} (h : Gd s a.2 ∧ load a.2 ≤ 20) : GA s (anyS a) := GA_c (fun _ => h) (GA_r (by decide))
theorem GA_tal (h : Ok s) (hp : s 3 = 1) (hL : load s ≤ 20) : GA s (talS s) := by
  refine GA_any (ld_fold h hp hL talF (nT s) (fun a k ga hl hk => ⟨Gd_talF ga.1 ga.2.2 (by rw [SP_T ga.2.1]; exact hk), ?_⟩) _ (Nat.le_refl _))
  unfold talF
  cases hh : talP a.2 k with
  | false => exact hl
  | true =>
    unfold talP at hh
    have := ((Bool.and_eq_true _ _).mp ((Bool.and_eq_true _ _).mp ((Bool.and_eq_true _ _).mp hh).2).2).2
    exact of_decide_eq_true this
theorem GA_dal (h : Ok s) (hp : s 3 = 1) (hL : load s ≤ 20) : GA s (dalS s) := by
  refine GA_any (ld_fold h hp hL dalF (nT s) (fun a k ga hl hk => ⟨Gd_dalF ga.1 ga.2.2 (by rw [SP_T ga.2.1]; exact hk), ?_⟩) _ (Nat.le_refl _))
  unfold dalF
  cases hh : decide (a.2 (255 + k) = 3) with
  | false => exact hl
  | true =>
    obtain ⟨h5, h6, h8⟩ := Ok_P ga.1 (decide_eq_true ga.2.2)
    show load (moves a.2 k 0 (a.2 5)) ≤ 20
    rw [h5]
    exact Nat.le_trans (GL_room ga.1 ga.2.2 (by rw [SP_T ga.2.1]; exact hk) h6).2 hl
theorem GA_does (h : Ok s) (hp : s 3 = 1) (hL : load s ≤ 20) (v : Int32) {t q : Nat} (ht : t < nT s) (hq : q < nT s) : GA s (doesS s v t q) :=
  GA_c (fun _ => GA_take h hp ht) (fun _ => GA_c (fun _ => GA_drop h hp hL ht) (fun _ => GA_c (fun _ => GA_opn h hp hL ht true) (fun _ => GA_c (fun _ => GA_opn h hp hL ht false) (fun _ => GA_c (fun _ => GA_lit h hp hL ht true) (fun _ => GA_c (fun _ => GA_lit h hp hL ht false) (fun _ => GA_c (fun _ => GA_put h hp ht hq (Or.inl rfl)) (fun _ => GA_c (fun _ => GA_put h hp ht hq (Or.inr rfl)) (fun _ => GA_c (fun _ => GA_lok h hp hL ht q true) (fun _ => GA_lok h hp hL ht q false)))))))))
theorem GA_one (h : Ok s) (hp : s 3 = 1) (hL : load s ≤ 20) (c : Cmd) : GA s (oneS s c) := by
  unfold oneS
  cases hm : meantS s c.2.1 c.2.2.1 (prefV c.1) with
  | inl w => exact mtw _ _ _ _ _ hm
  | inr t =>
    have ht := (meant_lt hm).1
    exact GA_c (fun _ => GA_does h hp hL _ ht (by omega)) (GA_r (by decide))
theorem GA_two (h : Ok s) (hp : s 3 = 1) (hL : load s ≤ 20) (c : Cmd) : GA s (twoS s c) := by
  unfold twoS
  cases hm : meantS s c.2.1 c.2.2.1 (prefV c.1) with
  | inl w => exact mtw _ _ _ _ _ hm
  | inr t =>
    have ht := (meant_lt hm).1
    cases hm2 : meantS s c.2.2.2.1 c.2.2.2.2 0 with
    | inl w =>
      simp only [hm2]
      exact mtw _ _ _ _ _ hm2
    | inr q =>
      simp only [hm2]
      have hq := (meant_lt hm2).1
      exact GA_c (fun _ => GA_c (fun _ => GA_does h hp hL _ ht hq) (GA_r (by decide))) (GA_r (by decide))
/-- whatever is ordered -/
theorem GA_act (h : Ok s) (hp : s 3 = 1) (hL : load s ≤ 20) {c : Cmd} (hc : c.1 = 2 → ∃ k, k < 6 ∧ c.2.1 = nI k) : GA s (actS s c) := by
  refine GA_c (fun _ => GA_c (fun _ => ⟨⟨h, SP_refl s, hp⟩, hL⟩) (GA_r (by decide))) (fun _ => GA_c (fun _ => ⟨⟨h, SP_refl s, hp⟩, hL⟩) (fun _ => GA_c (fun g => ?_) (fun _ => GA_c (fun _ => GA_tal h hp hL) (fun _ => GA_c (fun _ => GA_dal h hp hL) (fun _ => GA_c (fun _ => GA_two h hp hL c) (fun _ => GA_one h hp hL c))))))
  obtain ⟨k, hk, e⟩ := hc (of_decide_eq_true g)
  rw [e, nI_clamp (by omega)]
  exact GA_mov h hp hL hk
end LD
