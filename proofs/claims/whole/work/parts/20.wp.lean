/-! WHAT A RUN COMES TO: weakest preconditions -/
abbrev ax_P : Type := ax_D → (Option ax_V ⊕ Nat) → Prop
/-- the call of method a comes to an end, with Q -/
def CT (a : Nat) (as : List ax_V) (d : ax_D) (Q : ax_P) : Prop := ∃ d' r, Q d' r ∧ ax_one a (ax_sem a) as d = some (d', r)
def Ez (X : Nat → Option ax_Fin) (Q : ax_P) : Prop := ∃ d' r, Q d' r ∧ ax_evt X (d', ax_eo r, r)
noncomputable def RN (id : Nat) (tb : Nat → Option ax_En) (pc : Nat) (lo : List (Nat × ax_V)) (st : List ax_V) (d : ax_D) : Nat → Option ax_Fin := fun n => ax_run ax_k (ax_sem id) (false, 0, fun _ => 0) tb n pc lo st d 0
def kV (K : ax_D → Prop) (KX : Nat → ax_D → Prop) : ax_P := fun d r => match r with
  | Sum.inl none => K d
  | Sum.inr E => KX E d
  | _ => False
def kI (K : Int32 → ax_D → Prop) (KX : Nat → ax_D → Prop) : ax_P := fun d r => match r with
  | Sum.inl (some (Sum.inl x)) => K x d
  | Sum.inr E => KX E d
  | _ => False
def kR (K : Nat → ax_D → Prop) (KX : Nat → ax_D → Prop) : ax_P := fun d r => match r with
  | Sum.inl (some (Sum.inr (Sum.inr (Sum.inr (Sum.inr (13, i, 0)))))) => K i d
  | Sum.inr E => KX E d
  | _ => False
def kF (K : UInt32 → ax_D → Prop) (KX : Nat → ax_D → Prop) : ax_P := fun d r => match r with
  | Sum.inl (some (Sum.inr (Sum.inr (Sum.inl x)))) => K x d
  | Sum.inr E => KX E d
  | _ => False
def kD (K : UInt64 → ax_D → Prop) (KX : Nat → ax_D → Prop) : ax_P := fun d r => match r with
  | Sum.inl (some (Sum.inr (Sum.inr (Sum.inr (Sum.inl x))))) => K x d
  | Sum.inr E => KX E d
  | _ => False
theorem ct_mono {a : Nat} {as : List ax_V} {d : ax_D} {Q Q' : ax_P} (h : CT a as d Q) (hq : ∀ d r, Q d r → Q' d r) : CT a as d Q' := by
  obtain ⟨d', r, h1, h2⟩ := h
  exact ⟨d', r, hq _ _ h1, h2⟩
/-- an exact answer, as a rule to rewrite with -/
theorem ct_iff {a : Nat} {as : List ax_V} {d D : ax_D} {R : Option ax_V ⊕ Nat} (h : CT a as d (fun d' r => d' = D ∧ r = R)) (Q : ax_P) : CT a as d Q ↔ Q D R := by
  obtain ⟨d', r, ⟨rfl, rfl⟩, h2⟩ := h
  constructor
  · rintro ⟨d9, r9, h3, h4⟩
    rw [h2] at h4
    cases h4
    exact h3
  · exact fun h => ⟨_, _, h, h2⟩
theorem ct_at {a n : Nat} {as : List ax_V} {d : ax_D} {Q : ax_P} (h : CT a as d Q) (hn : a < n) : ∃ d' r, Q d' r ∧ ax_sem n a as d = some (d', r) := by
  obtain ⟨d', r, h1, h2⟩ := h
  exact ⟨d', r, h1, (ax_sem_at as d n hn).trans h2⟩
theorem ct_kV {a : Nat} {as : List ax_V} {d : ax_D} {K K' : ax_D → Prop} {KX : Nat → ax_D → Prop} (hk : ∀ d, K d → K' d) (h : CT a as d (kV K KX)) : CT a as d (kV K' KX) := ct_mono h (fun d r hr => by
  unfold kV at hr ⊢
  split at hr
  · exact hk _ hr
  · exact hr
  · exact hr)
theorem ct_kI {a : Nat} {as : List ax_V} {d : ax_D} {K K' : Int32 → ax_D → Prop} {KX : Nat → ax_D → Prop} (hk : ∀ x d, K x d → K' x d) (h : CT a as d (kI K KX)) : CT a as d (kI K' KX) := ct_mono h (fun d r hr => by
  unfold kI at hr ⊢
  split at hr
  · exact hk _ _ hr
  · exact hr
  · exact hr)
theorem ct_kR {a : Nat} {as : List ax_V} {d : ax_D} {K K' : Nat → ax_D → Prop} {KX : Nat → ax_D → Prop} (hk : ∀ x d, K x d → K' x d) (h : CT a as d (kR K KX)) : CT a as d (kR K' KX) := ct_mono h (fun d r hr => by
  unfold kR at hr ⊢
  split at hr
  · exact hk _ _ hr
  · exact hr
  · exact hr)
theorem ct_kF {a : Nat} {as : List ax_V} {d : ax_D} {K K' : UInt32 → ax_D → Prop} {KX : Nat → ax_D → Prop} (hk : ∀ x d, K x d → K' x d) (h : CT a as d (kF K KX)) : CT a as d (kF K' KX) := ct_mono h (fun d r hr => by
  unfold kF at hr ⊢
  split at hr
  · exact hk _ _ hr
  · exact hr
  · exact hr)
theorem ct_kD {a : Nat} {as : List ax_V} {d : ax_D} {K K' : UInt64 → ax_D → Prop} {KX : Nat → ax_D → Prop} (hk : ∀ x d, K x d → K' x d) (h : CT a as d (kD K KX)) : CT a as d (kD K' KX) := ct_mono h (fun d r hr => by
  unfold kD at hr ⊢
  split at hr
  · exact hk _ _ hr
  · exact hr
  · exact hr)
theorem ez_ret {d : ax_D} {v : Option ax_V} {Q : ax_P} (h : Q d (Sum.inl v)) : Ez (fun _ => some (d, 0, Sum.inl v)) Q := ⟨d, Sum.inl v, h, 0, fun _ _ => rfl⟩
theorem ez_retX {d : ax_D} {n : Nat} {Q : ax_P} (h : Q d (Sum.inr n)) : Ez (fun _ => some (d, 0 + 1, Sum.inr n)) Q := ⟨d, Sum.inr n, h, 0, fun _ _ => rfl⟩
theorem ez_co {b : Bool} {X Y : Nat → Option ax_Fin} {Q : ax_P} (h1 : b = true → Ez X Q) (h2 : b = false → Ez Y Q) : Ez (fun n => cond b (X n) (Y n)) Q := by
  cases b with
  | true => exact h1 rfl
  | false => exact h2 rfl
theorem ez_coD {P : Prop} [Decidable P] {X Y : Nat → Option ax_Fin} {Q : ax_P} (h1 : P → Ez X Q) (h2 : ¬ P → Ez Y Q) : Ez (fun n => cond (decide P) (X n) (Y n)) Q := ez_co (fun h => h1 (of_decide_eq_true h)) (fun h => h2 (of_decide_eq_false h))
theorem ez_coN {P : Prop} [Decidable P] {X Y : Nat → Option ax_Fin} {Q : ax_P} (h1 : P → Ez Y Q) (h2 : ¬ P → Ez X Q) : Ez (fun n => cond (!(decide P)) (X n) (Y n)) Q := ez_co (fun h => h2 (by simpa using h)) (fun h => h1 (by simpa using h))
theorem ez_guB {b : Bool} {X : Nat → Option ax_Fin} {Q : ax_P} (h : b = true) (h1 : Ez X Q) : Ez (fun n => cond b (X n) none) Q := ez_co (fun _ => h1) (fun h2 => by rw [h] at h2; cases h2)
theorem ez_guD {P : Prop} [Decidable P] {X : Nat → Option ax_Fin} {Q : ax_P} (h : P) (h1 : Ez X Q) : Ez (fun n => cond (decide P) (X n) none) Q := ez_guB (decide_eq_true h) h1
theorem ez_gnD {P : Prop} [Decidable P] {X : Nat → Option ax_Fin} {Q : ax_P} (h : ¬ P) (h1 : Ez X Q) : Ez (fun n => cond (decide P) none (X n)) Q := ez_co (fun h2 => absurd (of_decide_eq_true h2) h) (fun _ => h1)
theorem ez_guO {P R : Prop} [Decidable P] [Decidable R] {X : Nat → Option ax_Fin} {Q : ax_P} (h : P ∨ R) (h1 : Ez X Q) : Ez (fun n => cond ((decide P || decide R) || false) (X n) none) Q := ez_guB (by rcases h with h | h <;> simp [h]) h1
theorem ez_guH {P : Prop} [Decidable P] {X : Nat → Option ax_Fin} {Q : ax_P} (h : P) (h1 : Ez X Q) : Ez (fun n => cond (decide P || false) (X n) none) Q := ez_guB (by simp [h]) h1
theorem ez_callV {m a : Nat} {as : List ax_V} {d : ax_D} {K : ax_D → Nat → Option ax_Fin} {Q : ax_P} (hm : a < m) (h : CT a as d (kV (fun d' => Ez (K d') Q) (fun E d' => Q d' (Sum.inr E)))) : Ez (fun n => ax_callV (ax_sem m a as d) (fun d' => K d' n) (fun E d' => some (d', 0 + 1, Sum.inr E))) Q := by
  obtain ⟨d', r, h1, h2⟩ := ct_at h hm
  unfold kV at h1
  rw [h2]
  split at h1
  · exact h1
  · exact ez_retX h1
  · exact h1.elim
theorem ez_callI {m a : Nat} {as : List ax_V} {d : ax_D} {K : Int32 → ax_D → Nat → Option ax_Fin} {Q : ax_P} (hm : a < m) (h : CT a as d (kI (fun x d' => Ez (K x d') Q) (fun E d' => Q d' (Sum.inr E)))) : Ez (fun n => ax_callI (ax_sem m a as d) (fun x d' => K x d' n) (fun E d' => some (d', 0 + 1, Sum.inr E))) Q := by
  obtain ⟨d', r, h1, h2⟩ := ct_at h hm
  unfold kI at h1
  rw [h2]
  split at h1
  · exact h1
  · exact ez_retX h1
  · exact h1.elim
theorem ez_callR {m a : Nat} {as : List ax_V} {d : ax_D} {K : Nat → ax_D → Nat → Option ax_Fin} {Q : ax_P} (hm : a < m) (h : CT a as d (kR (fun x d' => Ez (K x d') Q) (fun E d' => Q d' (Sum.inr E)))) : Ez (fun n => ax_callR (ax_sem m a as d) (fun x d' => K x d' n) (fun E d' => some (d', 0 + 1, Sum.inr E))) Q := by
  obtain ⟨d', r, h1, h2⟩ := ct_at h hm
  unfold kR at h1
  rw [h2]
  split at h1
  · exact h1
  · exact ez_retX h1
  · exact h1.elim
theorem ez_callF {m a : Nat} {as : List ax_V} {d : ax_D} {K : UInt32 → ax_D → Nat → Option ax_Fin} {Q : ax_P} (hm : a < m) (h : CT a as d (kF (fun x d' => Ez (K x d') Q) (fun E d' => Q d' (Sum.inr E)))) : Ez (fun n => ax_callF (ax_sem m a as d) (fun x d' => K x d' n) (fun E d' => some (d', 0 + 1, Sum.inr E))) Q := by
  obtain ⟨d', r, h1, h2⟩ := ct_at h hm
  unfold kF at h1
  rw [h2]
  split at h1
  · exact h1
  · exact ez_retX h1
  · exact h1.elim
theorem ez_callD {m a : Nat} {as : List ax_V} {d : ax_D} {K : UInt64 → ax_D → Nat → Option ax_Fin} {Q : ax_P} (hm : a < m) (h : CT a as d (kD (fun x d' => Ez (K x d') Q) (fun E d' => Q d' (Sum.inr E)))) : Ez (fun n => ax_callD (ax_sem m a as d) (fun x d' => K x d' n) (fun E d' => some (d', 0 + 1, Sum.inr E))) Q := by
  obtain ⟨d', r, h1, h2⟩ := ct_at h hm
  unfold kD at h1
  rw [h2]
  split at h1
  · exact h1
  · exact ez_retX h1
  · exact h1.elim
theorem ez_let {F : ax_D → Nat → Option ax_Fin} {E : ax_D} {Q : ax_P} (h : ∀ d, d = E → Ez (F d) Q) : Ez (F E) Q := h E rfl
theorem ez_step {X T : Nat → Option ax_Fin} {Q : ax_P} (K : Nat) (hT : ∀ n, X (n + K) = T n) (h : Ez T Q) : Ez X Q := by
  obtain ⟨d', r, h1, n0, h2⟩ := h
  refine ⟨d', r, h1, n0 + K, fun n hn => ?_⟩
  have e := hT (n - K)
  rw [show n - K + K = n by omega] at e
  rw [e]
  exact h2 (n - K) (by omega)
theorem ez_iinc {id : Nat} {tb : Nat → Option ax_En} {pc a : Nat} {i : Nat} {v : Int} {lit x : Int32} {lo lo2 : List (Nat × ax_V)} {st : List ax_V} {d : ax_D} {Q : ax_P} {X : Nat → Option ax_Fin} (h : tb pc = some (.iinc i v, 3, a, 0, 0, lit, [])) (hX : X = RN id tb pc lo st d) (hf : ax_find lo a = some (Sum.inl x)) (hs : ax_store lo a (Sum.inl (x + lit)) = lo2) (hq : Ez (RN id tb (pc + 3) lo2 st d) Q) : Ez X Q := by
  refine ez_step 1 (fun n => ?_) hq
  rw [hX, ← hs]
  show ax_step ax_k (ax_sem id) (false, 0, fun _ => 0) tb (ax_run ax_k (ax_sem id) (false, 0, fun _ => 0) tb n) pc lo st d 0 = _
  unfold ax_step
  rw [h]
  show (match ax_find lo a with
    | some (Sum.inl x) => ax_run ax_k (ax_sem id) (false, 0, fun _ => 0) tb n (pc + 3) (ax_store lo a (Sum.inl (x + lit))) st d 0
    | _ => none) = _
  rw [hf]
  rfl
theorem ax_enter {id : Nat} {tb : Nat → Option ax_En} {as : List ax_V} {d : ax_D} {Q : ax_P} (h0 : id ≠ 0) (ht : ax_tb id = tb) (hn : ax_nst id = false) (hc : ax_cats as ≤ ax_m id) (h : Ez (RN id tb 0 (ax_args 0 as) [] d) Q) : CT id as d Q := by
  obtain ⟨d', r, h1, h2⟩ := h
  refine ⟨d', r, h1, ?_⟩
  unfold ax_one ax_own
  rw [ax_beq_ne h0, hn, ht, Nat.ble_eq_true_of_le hc]
  simp only [cond_false, cond_true]
  rw [show ax_lim (fun f => ax_run ax_k (ax_sem id) (false, 0, fun _ => 0) tb f 0 (ax_args 0 as) [] d 0) = some (d', ax_eo r, r) from ax_lim_evt h2]
  unfold ax_drop ax_flt
  simp
theorem ax_enterN {id : Nat} {tb : Nat → Option ax_En} {as : List ax_V} {d : ax_D} {Q : ax_P} (h0 : id ≠ 0) (ht : ax_tb id = tb) (hc : ax_cats as ≤ ax_m id) (hQ : ∀ d E, ¬ Q d (Sum.inr E)) (h : Ez (RN id tb 0 (ax_args 0 as) [] d) Q) : CT id as d Q := by
  obtain ⟨d', r, h1, h2⟩ := h
  refine ⟨d', r, h1, ?_⟩
  unfold ax_one ax_own
  rw [ax_beq_ne h0, ht, Nat.ble_eq_true_of_le hc]
  simp only [cond_false, cond_true]
  rw [show ax_lim (fun f => ax_run ax_k (ax_sem id) (false, 0, fun _ => 0) tb f 0 (ax_args 0 as) [] d 0) = some (d', ax_eo r, r) from ax_lim_evt h2]
  rcases r with v | E
  · unfold ax_drop ax_flt
    cases ax_nst id <;> simp
  · exact absurd h1 (hQ _ _)
