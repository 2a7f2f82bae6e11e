/-! the class's actor: a whole command -/
def cd (v x y p : Nat) : Int32 := nI (v + 256 * x + 65536 * y + 16777216 * p)
/-- a command as the class has it: verb, two phrases, place -/
def VOk (v x y p : Nat) : Prop := v < 18 ∧ v ≠ 8 ∧ (x < 32 ∨ (x = 63 ∧ (v = 9 ∨ v = 10))) ∧ y < 32 ∧ p < 3 ∧ (v = 15 → p = 1 ∨ p = 2)
/-- the same, as the check has it -/
def cmdC (v x y p : Nat) : Cmd := if v < 6 then (2, nI v, 0, 0, 0) else if v = 6 then (0, 0, 0, 0, 0) else if v = 7 then (1, 0, 0, 0, 0) else if x = 63 then (if v = 9 then (13, 0, 0, 0, 0) else (14, 0, 0, 0, 0)) else if v < 15 then (nI (v - 6), nI (x % 8), nI (x / 8), 0, 0) else if v = 15 then (nI (8 + p), nI (x % 8), nI (x / 8), nI (y % 8), nI (y / 8)) else (nI (v - 5), nI (x % 8), nI (x / 8), nI (y % 8), nI (y / 8))
section CD
variable {v x y p : Nat}
theorem cd_lt (hv : v < 256) (hx : x < 256) (hy : y < 256) (hp : p < 3) : v + 256 * x + 65536 * y + 16777216 * p < 2 ^ 31 := by omega
theorem cd_v (hv : v < 256) (hx : x < 256) (hy : y < 256) (hp : p < 3) : cd v x y p &&& 255 = nI v := by
  unfold cd
  rw [pk_andN (by omega) 8 (by decide), show (v + 256 * x + 65536 * y + 16777216 * p) % 2 ^ 8 = v by omega]
theorem cd_x (hv : v < 256) (hx : x < 256) (hy : y < 256) (hp : p < 3) : (cd v x y p >>> (8 &&& 31)) &&& 255 = nI x := by
  unfold cd
  rw [pk_shrN (cd_lt hv hx hy hp) (8 &&& 31) 8 (by decide), pk_andN (by omega) 8 (by decide), show (v + 256 * x + 65536 * y + 16777216 * p) / 2 ^ 8 % 2 ^ 8 = x by omega]
theorem cd_y (hv : v < 256) (hx : x < 256) (hy : y < 256) (hp : p < 3) : (cd v x y p >>> (16 &&& 31)) &&& 255 = nI y := by
  unfold cd
  rw [pk_shrN (cd_lt hv hx hy hp) (16 &&& 31) 16 (by decide), pk_andN (by omega) 8 (by decide), show (v + 256 * x + 65536 * y + 16777216 * p) / 2 ^ 16 % 2 ^ 8 = y by omega]
theorem cd_p (hv : v < 256) (hx : x < 256) (hy : y < 256) (hp : p < 3) : (cd v x y p >>> (24 &&& 31)) &&& 255 = nI p := by
  unfold cd
  rw [pk_shrN (cd_lt hv hx hy hp) (24 &&& 31) 24 (by decide), pk_andN (by omega) 8 (by decide), show (v + 256 * x + 65536 * y + 16777216 * p) / 2 ^ 24 % 2 ^ 8 = p by omega]
end CD
section CA3
variable {d : ax_D} {a : Nat} {s : Row}
theorem nI_ne {m n : Nat} (hm : m < 2 ^ 31) (hn : n < 2 ^ 31) (h : m ≠ n) : ¬ nI m = nI n := fun e => h ((nI_eq hm hn).mp e)
theorem reach_seen {t : Nat} (h : seen s t = true) : reach s t = opened s t := by unfold reach; rw [h]; rfl
theorem c_one (h : CC d (ax_wA a) s) (hp : s 3 = 1) (hr : ax_row d 0 a 0 4 = 0) {v x : Nat} (hv : 9 ≤ v ∧ v ≤ 14) (hx : x < 32) (Q : ax_P) (hK : AQ a d s (oneS s (nI (v - 6), nI (x % 8), nI (x / 8), 0, 0)) (fun d' => Q d' (Sum.inl none))) : CT 66 [ax_vR 0 a 0, Sum.inl (nI v), Sum.inl (nI x)] d Q := by
  have hpp : plays s = true := decide_eq_true hp
  have ne : ∀ m n : Nat, m ≠ n → m < 100 → n < 100 → ¬ nI m = nI n := fun m n h1 h2 h3 => nI_ne (by omega) (by omega) h1
  have done : ∀ d' v1 v2 v3 v4, ¬ ax_row d' 0 a 0 4 = 0 → Q d' (Sum.inl none) → h66_30 a v1 v2 v3 v4 d' Q := fun d' v1 v2 v3 v4 h1 h2 => w66_30 _ _ _ _ _ ⟨fun e => absurd e h1, fun _ => h2⟩
  have hpref : prefV (nI (v - 6)) = prefN (nI v) := by
    rcases (by omega : v = 9 ∨ v = 10 ∨ v = 11 ∨ v = 12 ∨ v = 13 ∨ v = 14) with e | e | e | e | e | e <;> subst e <;> decide
  unfold oneS at hK
  simp only [hpref] at hK
  refine w66 _ _ _ ((c_visible h hpp _).mpr (c_mean h hx (nI v) _ ?_))
  cases hm : meantS s (nI (x % 8)) (nI (x / 8)) (prefN (nI v)) with
  | inl w =>
    rw [hm] at hK
    intro d' f c e4 e5
    have hw : ¬ ax_row d' 0 a 0 4 = 0 := by rw [e4]; exact mtw _ _ _ _ _ hm
    exact ⟨fun e => absurd e hw, fun _ => done _ _ _ _ _ hw (hK d' f c e4 e5)⟩
  | inr t =>
    rw [hm] at hK
    obtain ⟨ht, hse⟩ := meant_lt hm
    have hK : AQ a d s (cond (reach s t) (doesS s (nI (v - 6)) t 0) (rf 3 (nI t))) (fun d' => Q d' (Sum.inl none)) := hK
    rw [reach_seen hse] at hK
    refine ⟨fun _ => c_reach h ht _ (fun ho => ?_) (fun ho => ?_), fun e => absurd hr e⟩
    · rw [ho] at hK
      have hK : AQ a d s (doesS s (nI (v - 6)) t 0) (fun d' => Q d' (Sum.inl none)) := hK
      refine w66_30 _ _ _ _ _ ⟨fun _ => ?_, fun e => absurd hr e⟩
      rcases (by omega : v = 9 ∨ v = 10 ∨ v = 11 ∨ v = 12 ∨ v = 13 ∨ v = 14) with e | e | e | e | e | e <;> subst e
      · exact ⟨fun _ => c_take h ht _ hK, fun e => absurd rfl e⟩
      · exact ⟨fun e => absurd e (by decide), fun _ => ⟨fun _ => c_drop h hpp ht _ hK, fun e => absurd rfl e⟩⟩
      · exact ⟨fun e => absurd e (by decide), fun _ => ⟨fun e => absurd e (by decide), fun _ => ⟨fun _ => c_open h ht _ hK, fun e => absurd rfl e⟩⟩⟩
      · exact ⟨fun e => absurd e (by decide), fun _ => ⟨fun e => absurd e (by decide), fun _ => ⟨fun e => absurd e (by decide), fun _ => ⟨fun _ => c_close h ht _ hK, fun e => absurd rfl e⟩⟩⟩⟩
      · exact ⟨fun e => absurd e (by decide), fun _ => ⟨fun e => absurd e (by decide), fun _ => ⟨fun e => absurd e (by decide), fun _ => ⟨fun e => absurd e (by decide), fun _ => ⟨fun _ => c_light h ht _ hK, fun e => absurd rfl e⟩⟩⟩⟩⟩
      · exact ⟨fun e => absurd e (by decide), fun _ => ⟨fun e => absurd e (by decide), fun _ => ⟨fun e => absurd e (by decide), fun _ => ⟨fun e => absurd e (by decide), fun _ => ⟨fun e => absurd e (by decide), fun _ => c_quench h ht _ hK⟩⟩⟩⟩⟩
    · rw [ho] at hK
      intro d' f c e4 e5
      exact done _ _ _ _ _ (by rw [e4]; decide) (hK d' f c e4 e5)
theorem c_two (h : CC d (ax_wA a) s) (hp : s 3 = 1) (hL : load s ≤ 20) (hr : ax_row d 0 a 0 4 = 0) {v x y p : Nat} (hv : 15 ≤ v ∧ v ≤ 17) (hx : x < 32) (hy : y < 32) (hp3 : p < 3) (hpv : v = 15 → p = 1 ∨ p = 2) (Q : ax_P) (hK : AQ a d s (twoS s (cmdC v x y p)) (fun d' => Q d' (Sum.inl none))) : CT 76 [ax_vR 0 a 0, Sum.inl (cd v x y p)] d Q := by
  have hpp : plays s = true := decide_eq_true hp
  obtain ⟨nv, hnv⟩ : ∃ nv, cmdC v x y p = (nv, nI (x % 8), nI (x / 8), nI (y % 8), nI (y / 8)) ∧ (v = 15 → nv = nI (8 + p)) ∧ (v = 16 → nv = 11) ∧ (v = 17 → nv = 12) := by
    unfold cmdC
    rw [if_neg (by omega), if_neg (by omega), if_neg (by omega), if_neg (by omega), if_neg (by omega)]
    by_cases e : v = 15
    · rw [if_pos e]
      exact ⟨_, rfl, fun _ => rfl, fun e2 => by omega, fun e2 => by omega⟩
    · rw [if_neg e]
      exact ⟨_, rfl, fun e2 => absurd e2 e, fun e2 => by rw [e2]; rfl, fun e2 => by rw [e2]; rfl⟩
  obtain ⟨hcmd, hv15, hv16, hv17⟩ := hnv
  rw [hcmd] at hK
  have hpref : prefV nv = prefN (nI v) := by
    rcases (by omega : v = 15 ∨ v = 16 ∨ v = 17) with e | e | e
    · rw [hv15 e, e]
      rcases hpv e with e2 | e2 <;> rw [e2] <;> decide
    · rw [hv16 e, e]; decide
    · rw [hv17 e, e]; decide
  have done73 : ∀ d' v1 v2 v3 v4 v5, ¬ ax_row d' 0 a 0 4 = 0 → Q d' (Sum.inl none) → h76_73 a v1 v2 v3 v4 v5 d' Q := fun d' v1 v2 v3 v4 v5 h1 h2 => w76_73 _ _ _ _ _ _ ⟨fun e => absurd e h1, fun _ => h2⟩
  have done47 : ∀ d' v1 v2 v3 v4 v5, ¬ ax_row d' 0 a 0 4 = 0 → Q d' (Sum.inl none) → h76_47 a v1 v2 v3 v4 v5 d' Q := fun d' v1 v2 v3 v4 v5 h1 h2 => w76_47 _ _ _ _ _ _ ⟨fun e => absurd e h1, fun _ => ⟨fun e => absurd e h1, fun _ => done73 _ _ _ _ _ _ h1 h2⟩⟩
  have dv := cd_v (v := v) (x := x) (y := y) (p := p) (by omega) (by omega) (by omega) hp3
  have dx := cd_x (v := v) (x := x) (y := y) (p := p) (by omega) (by omega) (by omega) hp3
  have dy := cd_y (v := v) (x := x) (y := y) (p := p) (by omega) (by omega) (by omega) hp3
  have dp := cd_p (v := v) (x := x) (y := y) (p := p) (by omega) (by omega) (by omega) hp3
  unfold twoS at hK
  simp only [hpref] at hK
  refine w76 _ _ (w75 _ ?_)
  rw [dv]
  refine (c_visible h hpp _).mpr (w72 _ ?_)
  rw [dx]
  refine c_mean h hx (nI v) _ ?_
  cases hm : meantS s (nI (x % 8)) (nI (x / 8)) (prefN (nI v)) with
  | inl w =>
    rw [hm] at hK
    intro d' f c e4 e5
    have hw : ¬ ax_row d' 0 a 0 4 = 0 := by rw [e4]; exact mtw _ _ _ _ _ hm
    exact ⟨fun e => absurd e hw, fun _ => done47 _ _ _ _ _ _ hw (hK d' f c e4 e5)⟩
  | inr t =>
    rw [hm] at hK
    obtain ⟨ht, hse⟩ := meant_lt hm
    refine ⟨fun _ => w74 _ ?_, fun e => absurd hr e⟩
    rw [dy]
    refine c_mean h hy (-1) _ ?_
    rw [show prefN (-1) = 0 by decide]
    cases hm2 : meantS s (nI (y % 8)) (nI (y / 8)) 0 with
    | inl w =>
      simp only [hm2] at hK
      intro d' f c e4 e5
      have hw : ¬ ax_row d' 0 a 0 4 = 0 := by rw [e4]; exact mtw _ _ _ _ _ hm2
      exact done47 _ _ _ _ _ _ hw (hK d' f c e4 e5)
    | inr q =>
      simp only [hm2] at hK
      obtain ⟨hq, hse2⟩ := meant_lt hm2
      rw [reach_seen hse, reach_seen hse2] at hK
      refine w76_47 _ _ _ _ _ _ ⟨fun _ => c_reach h ht _ (fun ho => ⟨fun _ => c_reach h hq _ (fun ho2 => ?_) (fun ho2 => ?_), fun e => absurd hr e⟩) (fun ho => ?_), fun e => absurd hr e⟩
      · rw [ho, ho2] at hK
        have hK : AQ a d s (doesS s nv t q) (fun d' => Q d' (Sum.inl none)) := hK
        refine w76_73 _ _ _ _ _ _ ⟨fun _ => ?_, fun e => absurd hr e⟩
        rcases (by omega : v = 15 ∨ v = 16 ∨ v = 17) with e | e | e
        · refine ⟨fun _ => w73 _ ?_, fun e2 => absurd (by rw [e]; rfl) e2⟩
          rw [dp]
          have hk2 : doesS s nv t q = putS s t q (nI p) := by
            rw [hv15 e]
            rcases hpv e with e2 | e2 <;> rw [e2] <;> rfl
          rw [hk2] at hK
          exact c_insert h hL ht hq (by rcases hpv e with e2 | e2 <;> rw [e2]; exact Or.inl rfl; exact Or.inr rfl) _ hK
        · rw [hv16 e] at hK
          exact ⟨fun e2 => absurd (by rw [e] at e2; exact e2) (show ¬ nI 16 = 15 by decide), fun _ => ⟨fun _ => c_lockA h ht _ hK, fun e2 => absurd (by rw [e]; rfl) e2⟩⟩
        · rw [hv17 e] at hK
          exact ⟨fun e2 => absurd (by rw [e] at e2; exact e2) (show ¬ nI 17 = 15 by decide), fun _ => ⟨fun e2 => absurd (by rw [e] at e2; exact e2) (show ¬ nI 17 = 16 by decide), fun _ => c_unlockA h ht _ hK⟩⟩
      · rw [ho, ho2] at hK
        intro d' f c e4 e5
        exact done73 _ _ _ _ _ _ (by rw [e4]; decide) (hK d' f c e4 e5)
      · rw [ho] at hK
        intro d' f c e4 e5
        have hw : ¬ ax_row d' 0 a 0 4 = 0 := by rw [e4]; decide
        exact ⟨fun e => absurd e hw, fun _ => done73 _ _ _ _ _ _ hw (hK d' f c e4 e5)⟩
end CA3
