/-! BODIES WITH HANDLERS, AND THE LAW'S OWN: calls that end for good; an exception n of a call is answered by hd n -/
abbrev lx_W : Type := Nat → List ax_V → ax_D → Option (ax_D × Nat × Int32)
def lx_kx (hd : Nat → Option Int32) (e n : Nat) (d : ax_D) : Option ax_Fin := match hd n with
  | some x => some (d, e + 1, Sum.inl (some (Sum.inl x)))
  | none => none
noncomputable def lx_inv (hd : Nat → Option Int32) (a c pc : Nat) (k : ax_K) (lo : List (Nat × ax_V)) (as st : List ax_V) (d : ax_D) (e : Nat) : Option ax_Fin := match st with
  | Sum.inr (Sum.inr (Sum.inr (Sum.inr (kk, ii, jj)))) :: r => cond (Nat.beq kk (ax_k a) && (Nat.beq jj 0 && (Nat.blt (ax_k a) 10 && Nat.ble (ax_cats r) 8))) (ax_ret c (ax_sem ax_N a (ax_vR (ax_k a) ii 0 :: as) d) (fun res d' => k (pc + 3) lo (res ++ r) d' e) (fun n d' => lx_kx hd e n d')) none
  | _ => none
def lx_wop (o : Option (ax_D × Nat × Int32)) (kr : ax_D → Nat → Int32 → Option ax_Fin) : Option ax_Fin := match o with
  | some (d, e, x) => kr d e x
  | none => none
noncomputable def lx_go (hd : Nat → Option Int32) (wor : lx_W) (sc : Bool × Nat × (Nat → Int32)) (i : Jvm.ClassFile.Instr) (len a b c : Nat) (lit : Int32) (sw : List (Int32 × Nat)) (k : ax_K) (pc : Nat) (lo : List (Nat × ax_V)) (st : List ax_V) (d : ax_D) (e : Nat) : Option ax_Fin := match i with
  | .invokestatic _ => cond (Nat.ble b st.length && Nat.ble (ax_cats (st.drop b)) 8) (lx_wop (wor a (st.take b).reverse d) (fun d' e' x => k (pc + 3) lo (Sum.inl x :: st.drop b) d' (e + e'))) none
  | .invokevirtual _ => cond (Nat.ble b st.length) (lx_inv hd a c pc k lo (st.take b).reverse (st.drop b) d e) none
  | .ireturn => (match st with
    | [Sum.inl x] => some (d, e, Sum.inl (some (Sum.inl x)))
    | _ => none)
  | _ => ax_op sc i a b c lit sw (pc + len) k lo st d e
noncomputable def lx_step (hd : Nat → Option Int32) (wor : lx_W) (sc : Bool × Nat × (Nat → Int32)) (tb : Nat → Option ax_En) (k : ax_K) : ax_K := fun pc lo st d e => match tb pc with
  | none => none
  | some en => lx_go hd wor sc en.1 en.2.1 en.2.2.1 en.2.2.2.1 en.2.2.2.2.1 en.2.2.2.2.2.1 en.2.2.2.2.2.2 k pc lo st d e
noncomputable def lx_run (hd : Nat → Option Int32) (wor : lx_W) (sc : Bool × Nat × (Nat → Int32)) (tb : Nat → Option ax_En) (n : Nat) : ax_K :=
  Nat.rec (motive := fun _ => ax_K) (fun _ _ _ _ _ => none) (fun _ ih => lx_step hd wor sc tb ih) n
/-- the entry is what the code says at pc -/
def lx_gB (nL fr lc : Nat) (own : String) (cl wl : List (String × Nat × Nat)) (Wn : Nat → Nat) (cc : ByteArray) (pc : Nat) (i : Jvm.ClassFile.Instr) (len a b c : Nat) (lit : Int32) (sw : List (Int32 × Nat)) : Bool := match i with
  | .invokestatic idx => decide (decode cc pc = .ok (.invokestatic idx, len)) && (Nat.beq len 3 && (Nat.beq b (Wn a) && decide ((own, idx, a) ∈ wl)))
  | i => ax_gB nL 1 fr lc ax_N own ax_fl cl [] ax_ldc ax_k ax_n ax_f ax_l ax_m ax_thr ax_thl ax_cst cc pc i len a b c lit sw
section LXA
variable {p : Program} {l : Launch} {e : Env} {R : Room} {s : State} {m : MethodId} {args : Array Value} {below : List Frame} {meth : Method} {c : Code} {Q : State → Prop} {cc : ByteArray} {G : ax_G} {A : Nat → Prop} {nL c0 s0 : Nat}
variable {pc : Nat} {lo : List (Nat × ax_V)} {st r : List ax_V} {d : ax_D} {ee : Nat} {own : String} {ws : List Cond} {fin : ax_Fin}
set_option maxHeartbeats 4000000 in
theorem lx_go_snd {PC : Nat → Prop} {fr lc : Nat} {cl wl : List (String × Nat × Nat)} {Wn : Nat → Nat} {hd : Nat → Option Int32} {wor : lx_W} {sc : Bool × Nat × (Nat → Int32)} {i : Jvm.ClassFile.Instr} {len a b ci : Nat} {lit : Int32} {sw : List (Int32 × Nat)} {k : ax_K}
    (E : ax_Env ax_ldc ax_nest ax_thr p s m args c cc G A nL own ws) (hst : l.stackTraces = false) (hcl : ∀ q ∈ cl, Cond.methodLink q.1 q.2.1 (ax_y q.2.2) ∈ ax_gw)
    (hX : sc.1 = true → va_X (G.2.2.1 12 0 0) sc.2.1 sc.2.2 s s.heap ∧ G.2.2.1 12 0 0 < s.heap.size ∧ ¬ A (G.2.2.1 12 0 0))
    (hR : fr ≤ R.frames ∧ lc ≤ R.locals) (hRc : c0 + fin.2.1 ≤ R.cells ∧ s0 + 6 * fin.2.1 ≤ R.slots)
    (hend : ∀ pc lo x d ee, decode cc pc = .ok (.ireturn, 1) → (d, ee, Sum.inl (some (Sum.inl x))) = fin → ax_Tr p l e R s m args below meth c Q G A nL c0 s0 pc lo [Sum.inl x] d ee)
    (hx : ∀ pc lo r d ee n x idx, PC pc → decode cc pc = .ok (.invokevirtual idx, 3) → hd n = some x → (d, ee, Sum.inl (some (Sum.inl x))) = fin → ax_TX p l e R s m args below meth c Q G A nL c0 s0 pc lo r d ee n)
    (hw : ∀ pc idx a as r d d' e' x lo ee, decode cc pc = .ok (.invokestatic idx, 3) → (own, idx, a) ∈ wl → as.length = Wn a → ax_cats r ≤ 8 → wor a as d = some (d', e', x) → ee + e' ≤ fin.2.1 → ax_Tr p l e R s m args below meth c Q G A nL c0 s0 (pc + 3) lo (Sum.inl x :: r) d' (ee + e') → ax_Tr p l e R s m args below meth c Q G A nL c0 s0 pc lo (as.reverse ++ r) d ee)
    (hpc : PC pc) (hg : lx_gB nL fr lc own cl wl Wn cc pc i len a b ci lit sw = true) (h : lx_go hd wor sc i len a b ci lit sw k pc lo st d ee = some fin)
    (kk : ∀ pc lo st d e9, k pc lo st d e9 = some fin → e9 ≤ fin.2.1 ∧ ax_Tr p l e R s m args below meth c Q G A nL c0 s0 pc lo st d e9) : ee ≤ fin.2.1 ∧ ax_Tr p l e R s m args below meth c Q G A nL c0 s0 pc lo st d ee := by
  have hop : ∀ {i}, ax_gB nL 1 fr lc ax_N own ax_fl cl [] ax_ldc ax_k ax_n ax_f ax_l ax_m ax_thr ax_thl ax_cst cc pc i len a b ci lit sw = true → ax_op sc i a b ci lit sw (pc + len) k lo st d ee = some fin → ee ≤ fin.2.1 ∧ ax_Tr p l e R s m args below meth c Q G A nL c0 s0 pc lo st d ee :=
    fun hg h => ax_op_snd E ax_FLok ax_csts hX hg h kk
  cases i with
  | invokestatic idx =>
    obtain ⟨hd, hg⟩ := ax_an hg
    have hd := of_decide_eq_true hd
    obtain ⟨h1, h2⟩ := ax_an hg
    have hlen := Nat.eq_of_beq_eq_true h1
    subst hlen
    obtain ⟨h3, h4⟩ := ax_an h2
    have hbn := Nat.eq_of_beq_eq_true h3
    obtain ⟨g1, g2⟩ := ax_c1 (b := Nat.ble b st.length && Nat.ble (ax_cats (st.drop b)) 8) h
    obtain ⟨g3, g4⟩ := ax_an g1
    have hlt : b ≤ st.length := Nat.le_of_ble_eq_true g3
    have hln : (st.take b).reverse.length = Wn a := by rw [List.length_reverse, List.length_take, ← hbn]; omega
    cases hwo : wor a (st.take b).reverse d with
    | none => rw [hwo] at g2; cases g2
    | some q =>
      obtain ⟨d', e', x⟩ := q
      rw [hwo] at g2
      have hkk := kk _ _ _ _ _ g2
      refine ⟨by omega, ?_⟩
      have := hw pc idx a (st.take b).reverse (st.drop b) d d' e' x lo ee hd (of_decide_eq_true h4) hln (Nat.le_of_ble_eq_true g4) hwo hkk.1 hkk.2
      rw [← ax_tk] at this
      exact this
  | invokevirtual idx =>
    obtain ⟨hdc, hg⟩ := ax_an hg
    have hdc := of_decide_eq_true hdc
    obtain ⟨h1, h2⟩ := ax_an hg
    have hlen := Nat.eq_of_beq_eq_true h1
    subst hlen
    obtain ⟨h3, h4⟩ := ax_an h2
    obtain ⟨h4, h5⟩ := ax_an h4
    obtain ⟨h5, h6⟩ := ax_an h5
    obtain ⟨h6, h7⟩ := ax_an h6
    obtain ⟨h7, h8⟩ := ax_an h7
    have ha : a < ax_N := Nat.le_of_ble_eq_true h3
    have hkd : ¬ ax_k a = 99 := fun z => by rw [z] at h4; cases h4
    have hbn := Nat.eq_of_beq_eq_true h5
    obtain ⟨g3, g4⟩ := ax_c1 (b := Nat.ble b st.length) h
    have hlt : b ≤ st.length := Nat.le_of_ble_eq_true g3
    have hln : (st.take b).reverse.length = ax_n a := by rw [List.length_reverse, List.length_take, ← hbn]; omega
    have g5 : ∃ (kz ii jj : Nat) (r : List ax_V), st.drop b = ax_vR kz ii jj :: r ∧ cond (Nat.beq kz (ax_k a) && (Nat.beq jj 0 && (Nat.blt (ax_k a) 10 && Nat.ble (ax_cats r) 8))) (ax_ret ci (ax_sem ax_N a (ax_vR (ax_k a) ii 0 :: (st.take b).reverse) d) (fun res d' => k (pc + 3) lo (res ++ r) d' ee) (fun n d' => lx_kx hd ee n d')) none = some fin := by
      unfold lx_inv at g4
      split at g4
      · rename_i kz ii jj r heq
        exact ⟨kz, ii, jj, r, heq, g4⟩
      · cases g4
    obtain ⟨kz, ii, jj, r, hdr, g6⟩ := g5
    obtain ⟨g7, g8⟩ := ax_c1 g6
    obtain ⟨e1, e2⟩ := ax_an g7
    obtain ⟨e2, e3⟩ := ax_an e2
    obtain ⟨e3, e4⟩ := ax_an e3
    have e1 := Nat.eq_of_beq_eq_true e1
    have e2 := Nat.eq_of_beq_eq_true e2
    have hk10 : ax_k a < 10 := Nat.le_of_ble_eq_true e3
    have hcr := Nat.le_of_ble_eq_true e4
    subst e1
    subst e2
    rw [ax_tk b st, hdr]
    have hT := ax_MTs (Nat.le_refl ax_N)
    obtain ⟨v1, v2, v3⟩ := hT.2.2.2.2.1 a ha hkd
    have hl := hcl _ (of_decide_eq_true h6)
    have hc9 : ax_cls (ax_k a) = ax_R (ax_k a) := by
      unfold ax_cls
      cases hb9 : Nat.beq (ax_k a) 13 with
      | false => rfl
      | true =>
        have := Nat.eq_of_beq_eq_true hb9
        omega
    rw [hc9] at v3
    have hRR : ax_f a + 1 ≤ R.frames ∧ 8 + (ax_m a + 11) + ax_l a ≤ R.locals := ⟨Nat.le_trans (Nat.le_of_ble_eq_true h7) hR.1, Nat.le_trans (Nat.le_of_ble_eq_true h8) hR.2⟩
    have hO := ax_sem_ok (l := l) (G := G) hst
    rcases ax_ret_inv g8 with ⟨d', rv, ho, hk⟩ | ⟨d', n, ho, hk⟩
    · have hkk := kk _ _ _ _ _ hk
      refine ⟨hkk.1, ax_t_callV E (hO a ha _ _ _ _ ho) (hT.2.2.1 a ha) hl v2 v3 hk10 hln hcr hRR ?_ hdc (fun n q => by cases q) (fun rv2 q => by cases q; exact hkk.2)⟩
      show c0 + ee + 0 ≤ R.cells ∧ s0 + 6 * ee + 6 * 0 ≤ R.slots
      omega
    · unfold lx_kx at hk
      split at hk
      · rename_i x hx9
        have hk := Option.some.inj hk
        have hfe : fin.2.1 = ee + 1 := by rw [← hk]
        refine ⟨by omega, ax_t_callV E (hO a ha _ _ _ _ ho) (hT.2.2.1 a ha) hl v2 v3 hk10 hln hcr hRR ?_ hdc (fun n2 q => by cases q; exact hx _ _ _ _ _ _ _ _ hpc hdc hx9 hk) (fun rv2 q => by cases q)⟩
        show c0 + ee + 1 ≤ R.cells ∧ s0 + 6 * ee + 6 * 1 ≤ R.slots
        omega
      · cases hk
  | ireturn =>
    obtain ⟨hd, hg⟩ := ax_an hg
    have hd := of_decide_eq_true hd
    obtain ⟨h1, h2⟩ := ax_an hg
    have hlen := Nat.eq_of_beq_eq_true h1
    subst hlen
    have h : (match (generalizing := false) st with
      | [Sum.inl x] => some (d, ee, Sum.inl (some (Sum.inl x)))
      | _ => none) = some fin := h
    split at h
    · have h := Option.some.inj h
      refine ⟨by rw [← h]; exact Nat.le_refl ee, hend _ _ _ _ _ hd h⟩
    · cases h
  | _ => exact hop hg h
/-- a table: every entry is what the code says -/
def lx_good (nL fr lc : Nat) (own : String) (cl wl : List (String × Nat × Nat)) (Wn : Nat → Nat) (cc : ByteArray) (tb : Nat → Option ax_En) : Prop :=
  ∀ pc en, tb pc = some en → lx_gB nL fr lc own cl wl Wn cc pc en.1 en.2.1 en.2.2.1 en.2.2.2.1 en.2.2.2.2.1 en.2.2.2.2.2.1 en.2.2.2.2.2.2 = true
theorem lx_run_snd {fr lc : Nat} {cl wl : List (String × Nat × Nat)} {Wn : Nat → Nat} {hd : Nat → Option Int32} {wor : lx_W} {sc : Bool × Nat × (Nat → Int32)} {tb : Nat → Option ax_En}
    (E : ax_Env ax_ldc ax_nest ax_thr p s m args c cc G A nL own ws) (hst : l.stackTraces = false) (hcl : ∀ q ∈ cl, Cond.methodLink q.1 q.2.1 (ax_y q.2.2) ∈ ax_gw)
    (hX : sc.1 = true → va_X (G.2.2.1 12 0 0) sc.2.1 sc.2.2 s s.heap ∧ G.2.2.1 12 0 0 < s.heap.size ∧ ¬ A (G.2.2.1 12 0 0))
    (hR : fr ≤ R.frames ∧ lc ≤ R.locals) (hRc : c0 + fin.2.1 ≤ R.cells ∧ s0 + 6 * fin.2.1 ≤ R.slots)
    (hend : ∀ pc lo x d ee, decode cc pc = .ok (.ireturn, 1) → (d, ee, Sum.inl (some (Sum.inl x))) = fin → ax_Tr p l e R s m args below meth c Q G A nL c0 s0 pc lo [Sum.inl x] d ee)
    (hx : ∀ pc lo r d ee n x idx, (tb pc).isSome = true → decode cc pc = .ok (.invokevirtual idx, 3) → hd n = some x → (d, ee, Sum.inl (some (Sum.inl x))) = fin → ax_TX p l e R s m args below meth c Q G A nL c0 s0 pc lo r d ee n)
    (hw : ∀ pc idx a as r d d' e' x lo ee, decode cc pc = .ok (.invokestatic idx, 3) → (own, idx, a) ∈ wl → as.length = Wn a → ax_cats r ≤ 8 → wor a as d = some (d', e', x) → ee + e' ≤ fin.2.1 → ax_Tr p l e R s m args below meth c Q G A nL c0 s0 (pc + 3) lo (Sum.inl x :: r) d' (ee + e') → ax_Tr p l e R s m args below meth c Q G A nL c0 s0 pc lo (as.reverse ++ r) d ee)
    (hg : lx_good nL fr lc own cl wl Wn cc tb) :
    ∀ (n : Nat) (pc : Nat) (lo : List (Nat × ax_V)) (st : List ax_V) (d : ax_D) (ee : Nat), lx_run hd wor sc tb n pc lo st d ee = some fin → ee ≤ fin.2.1 ∧ ax_Tr p l e R s m args below meth c Q G A nL c0 s0 pc lo st d ee := by
  intro n
  induction n with
  | zero => intro pc lo st d ee h; cases h
  | succ n ih =>
    intro pc lo st d ee h
    have h : lx_step hd wor sc tb (lx_run hd wor sc tb n) pc lo st d ee = some fin := h
    unfold lx_step at h
    split at h
    · cases h
    · rename_i en heq
      exact lx_go_snd (PC := fun pc => (tb pc).isSome = true) E hst hcl hX hR hRc hend hx hw (by rw [heq]; rfl) (hg pc en heq) h ih
end LXA
