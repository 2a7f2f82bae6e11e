/-! the class's actor: act -/
section CA4
variable {d : ax_D} {a : Nat} {s : Row}
theorem c_isTurn {v x y p : Nat} (hv : v < 256) (hx : x < 256) (hy : y < 256) (hp : p < 3) (d : ax_D) (Q : ax_P) (hQ : Q d (Sum.inl (some (Sum.inl (b2i (!decide (v = 6))))))) : CT 92 [Sum.inl (cd v x y p)] d Q := by
  refine w92 _ (w75 _ ?_)
  rw [cd_v hv hx hy hp]
  refine ⟨fun e => ?_, fun e => ?_⟩
  · rw [decide_eq_true ((nI_eq (by omega) (by omega)).mp (show nI v = nI 6 from e))] at hQ
    exact hQ
  · rw [decide_eq_false (fun z => e (by rw [z]; rfl))] at hQ
    exact hQ
/-- what act leaves behind: refused, or done -/
def ActQ (a : Nat) (d : ax_D) (s : Row) (v : Nat) (r : AR) (Q : ax_P) : Prop := match r with
  | Sum.inl (w, z) => ∀ d', Fr (sA a) d d' → CC d' (ax_wA a) s → ax_row d' 0 a 0 4 = w → ax_row d' 0 a 0 5 = z → Q d' (Sum.inl (some (Sum.inl 0)))
  | Sum.inr s' => ∀ d', Fr (sA a) d d' → CC d' (ax_wA a) (cond (decide (v = 6)) s' (passS s')) → ax_row d' 0 a 0 4 = 0 → ax_row d' 0 a 0 5 = -1 → Q d' (Sum.inl (some (Sum.inl 1)))
theorem cmd_ok {v x y p : Nat} (hV : VOk v x y p) : CmdOk (cmdC v x y p) := by
  obtain ⟨h1, h2, h3, h4, h5, h6⟩ := hV
  unfold cmdC
  by_cases e : v < 6
  · rw [if_pos e]
    exact ⟨⟨2, by omega, rfl⟩, fun _ => ⟨v, e, rfl⟩⟩
  · rw [if_neg e]
    by_cases e2 : v = 6
    · rw [if_pos e2]
      exact ⟨⟨0, by omega, rfl⟩, fun z => absurd z (by decide)⟩
    · rw [if_neg e2]
      by_cases e3 : v = 7
      · rw [if_pos e3]
        exact ⟨⟨1, by omega, rfl⟩, fun z => absurd z (by decide)⟩
      · rw [if_neg e3]
        by_cases e4 : x = 63
        · rw [if_pos e4]
          by_cases e5 : v = 9
          · rw [if_pos e5]
            exact ⟨⟨13, by omega, rfl⟩, fun z => absurd z (by decide)⟩
          · rw [if_neg e5]
            exact ⟨⟨14, by omega, rfl⟩, fun z => absurd z (by decide)⟩
        · rw [if_neg e4]
          have hv9 : 9 ≤ v := by omega
          have two : ∀ n, 3 ≤ n → n < 15 → ¬ nI n = 2 := fun n g1 g2 z => by have := (nI_eq (by omega) (by omega)).mp (show nI n = nI 2 from z); omega
          by_cases e5 : v < 15
          · rw [if_pos e5]
            exact ⟨⟨v - 6, by omega, rfl⟩, fun z => absurd z (two _ (by omega) (by omega))⟩
          · rw [if_neg e5]
            by_cases e6 : v = 15
            · rw [if_pos e6]
              exact ⟨⟨8 + p, by omega, rfl⟩, fun z => absurd z (two _ (by omega) (by omega))⟩
            · rw [if_neg e6]
              exact ⟨⟨v - 5, by omega, rfl⟩, fun z => absurd z (two _ (by omega) (by omega))⟩
theorem c_act (h : CC d (ax_wA a) s) (hp : s 3 = 1) (hL : load s ≤ 20) {v x y p : Nat} (hV : VOk v x y p) (Q : ax_P) (hK : ActQ a d s v (actS s (cmdC v x y p)) Q) : CT 93 [ax_vR 0 a 0, Sum.inl (cd v x y p)] d Q := by
  have hck := cmd_ok hV
  have hga := GA_act h.2.2 hp hL hck.2
  obtain ⟨h1, h2, h3, h4, h5, h6⟩ := hV
  have hx : x < 256 := by omega
  refine w93 _ _ (w75 _ ?_)
  rw [cd_v (by omega) hx (by omega) h5]
  intro d3 e3 d4 e4
  have f1 : Fr (fun k i => k = 0 ∧ i = a) d d3 := by rw [e3]; exact Fr_set (by decide) ⟨rfl, rfl⟩ _ _ _
  have f2 : Fr (fun k i => k = 0 ∧ i = a) d d4 := Fr_trans f1 (by rw [e4]; exact Fr_set (by decide) ⟨rfl, rfl⟩ _ _ _)
  have c4 : CC d4 (ax_wA a) s := CC_Fr0 h f2
  have r4 : ax_row d4 0 a 0 4 = 0 := by rw [e4, row_s, upd_n (by decide), e3, row_s, upd_s]
  have r5 : ax_row d4 0 a 0 5 = -1 := by rw [e4, row_s, upd_s]
  have fA : Fr (sA a) d d4 := Fr_mono f2 (fun k i z => Or.inr z)
  -- what stands behind the verb
  have fin : ∀ x2, AQ a d4 s (actS s (cmdC v x y p)) (fun d' => h93_104 a (cd v x y p) x2 d' Q) := by
    intro x2
    cases hr : actS s (cmdC v x y p) with
    | inl w =>
      obtain ⟨w, z⟩ := w
      rw [hr] at hK hga
      intro d' f c g4 g5
      refine w93_104 _ _ _ ⟨fun e => absurd (g4.symm.trans e) hga, fun _ => ?_⟩
      exact hK d' (Fr_trans fA f) c g4 g5
    | inr s' =>
      rw [hr] at hK hga
      intro d' f c g4 g5
      have hK : ∀ d', Fr (sA a) d d' → CC d' (ax_wA a) (cond (decide (v = 6)) s' (passS s')) → ax_row d' 0 a 0 4 = 0 → ax_row d' 0 a 0 5 = -1 → Q d' (Sum.inl (some (Sum.inl 1))) := hK
      have hga : Gd s s' ∧ load s' ≤ 20 := hga
      refine w93_104 _ _ _ ⟨fun _ => ?_, fun e => absurd (g4.trans r4) e⟩
      refine c_isTurn (by omega) hx (by omega) h5 d' _ ⟨fun e => ?_, fun e => ?_⟩
      · have e6 : v = 6 := by
          by_cases e6 : v = 6
          · exact e6
          · rw [decide_eq_false e6] at e; cases e
        refine hK d' (Fr_trans fA f) ?_ (g4.trans r4) (g5.trans r5)
        rw [decide_eq_true e6]
        exact c
      · have e6 : ¬ v = 6 := fun e6 => by rw [decide_eq_true e6] at e; exact e rfl
        refine c_endTurn c hga.1.2.2 _ (fun d2 f2 c2 => ?_)
        refine hK d2 (Fr_trans (Fr_trans fA f) (Fr_mono f2 (fun k i z => Or.inl z))) ?_ ?_ ?_
        · rw [decide_eq_false e6]
          exact c2
        · rw [congrFun (Fr_row f2 (fun z => by cases z.1) 0) 4]
          exact g4.trans r4
        · rw [congrFun (Fr_row f2 (fun z => by cases z.1) 0) 5]
          exact g5.trans r5
  have nv : ∀ m, m < 100 → (nI v = nI m ↔ v = m) := fun m hm => nI_eq (by omega) (by omega)
  -- an answer of none or some
  have any : ∀ (r : Bool × Row) (x2 : Int32), actS s (cmdC v x y p) = anyS r → (r.1 = false → r.2 = s) → ∀ d' c, c ≤ nT s → (c = 0 ↔ r.1 = false) → Fr (sW (ax_wA a)) d4 d' → CC d' (ax_wA a) r.2 → CT 80 [ax_vR 0 a 0, Sum.inl (nI c)] d' (kV (fun d10 => h93_104 a (cd v x y p) x2 d10 Q) (fun E d => Q d (Sum.inr E))) := by
    intro r x2 er hno d' c hc hc0 f cc
    have F := fin x2
    rw [er] at F
    unfold anyS at F
    have g4 := congrFun (Fr_row f (i := a) (k := 0) (fun z => by cases z.1) 0) 4
    have g5 := congrFun (Fr_row f (i := a) (k := 0) (fun z => by cases z.1) 0) 5
    have fA2 : Fr (sA a) d4 d' := Fr_mono f (fun k i z => Or.inl z)
    refine w80 _ _ ⟨fun e => ?_, fun e => ?_⟩
    · have hT := (Ok_T h.2.2).2
      have hr1 := hc0.mp ((nI_eq (by omega) (by omega)).mp (show nI c = nI 0 from e))
      rw [hr1] at F
      rw [hno hr1] at cc
      have F : ∀ d', Fr (sA a) d4 d' → CC d' (ax_wA a) s → ax_row d' 0 a 0 4 = 5 → ax_row d' 0 a 0 5 = -1 → h93_104 a (cd v x y p) x2 d' Q := F
      exact c_refuse cc 5 (-1) _ (fun d2 k1 k2 k3 k4 => F d2 (Fr_trans fA2 k1) k2 k3 k4)
    · have hr1 : r.1 = true := by
        cases hb : r.1 with
        | true => rfl
        | false => exact absurd (show nI c = 0 by rw [hc0.mpr hb]; rfl) e
      rw [hr1] at F
      have F : ∀ d', Fr (sA a) d4 d' → CC d' (ax_wA a) r.2 → ax_row d' 0 a 0 4 = ax_row d4 0 a 0 4 → ax_row d' 0 a 0 5 = ax_row d4 0 a 0 5 → h93_104 a (cd v x y p) x2 d' Q := F
      exact F d' fA2 cc g4 g5
  refine ⟨fun ge => ?_, fun ge => ?_⟩
  · have ge : 6 ≤ v := by
      rcases Nat.lt_or_ge v 6 with g | g
      · exact absurd ge (by rw [Int32.not_le]; exact nI_lt (a := v) (b := 6) g (by omega))
      · exact g
    refine ⟨fun e => ?_, fun e => ?_⟩
    · have e : v = 6 := (nv 6 (by omega)).mp e
      have F := fin (nI v)
      rw [show actS s (cmdC v x y p) = cond (bright s (nP s)) (ok s) (rf 12 (-1)) by unfold cmdC; rw [if_neg (by omega), if_pos e]; rfl] at F
      exact c_look c4 hp _ F
    · have e : v ≠ 6 := fun z => e (by rw [z]; rfl)
      refine w72 _ ?_
      rw [cd_x (by omega) hx (by omega) h5]
      refine ⟨fun e63 => ?_, fun e63 => ?_⟩
      · have e63 : x = 63 := (nI_eq (by omega) (by omega)).mp (show nI x = nI 63 from e63)
        by_cases e7 : v = 7
        · omega
        · refine ⟨fun e9 => ?_, fun e9 => ?_⟩
          · have e9 : v = 9 := (nv 9 (by omega)).mp e9
            have er : actS s (cmdC v x y p) = anyS (foldN talF (nT s) (false, s)) := by
              unfold cmdC
              rw [if_neg (by omega), if_neg e, if_neg e7, if_pos e63, if_pos e9]; rfl
            exact c_takeAll c4 hp _ (any _ (nI v) er (fun hb => by rw [fold2_no talF talF_no _ hb]))
          · have e9 : v ≠ 9 := fun z => e9 (by rw [z]; rfl)
            have er : actS s (cmdC v x y p) = anyS (foldN dalF (nT s) (false, s)) := by
              unfold cmdC
              rw [if_neg (by omega), if_neg e, if_neg e7, if_pos e63, if_neg e9]; rfl
            exact c_dropAll c4 hp _ (any _ (nI v) er (fun hb => by rw [fold2_no dalF dalF_no _ hb]))
      · have e63 : x ≠ 63 := fun z => e63 (by rw [z]; rfl)
        have hx32 : x < 32 := by omega
        refine ⟨fun l15 => ?_, fun l15 => ?_⟩
        · have l15 : v < 15 := by
            rcases Nat.lt_or_ge v 15 with g | g
            · exact g
            · exact absurd l15 (by rw [Int32.not_lt]; exact nI_le (a := 15) g (by omega))
          refine ⟨fun e7 => ?_, fun e7 => ?_⟩
          · have e7 : v = 7 := (nv 7 (by omega)).mp e7
            have F := fin (nI v)
            rw [show actS s (cmdC v x y p) = ok s by unfold cmdC; rw [if_neg (by omega), if_neg (by omega), if_pos e7]; rfl] at F
            exact F d4 (Fr_refl d4) c4 rfl rfl
          · have e7 : v ≠ 7 := fun z => e7 (by rw [z]; rfl)
            have F := fin (nI v)
            refine w72 _ ?_
            rw [cd_x (by omega) hx (by omega) h5]
            refine c_one c4 hp r4 ⟨by omega, by omega⟩ hx32 _ ?_
            rw [show actS s (cmdC v x y p) = oneS s (nI (v - 6), nI (x % 8), nI (x / 8), 0, 0) by
              unfold cmdC
              rw [if_neg (by omega), if_neg e, if_neg e7, if_neg e63, if_pos l15]
              rcases (by omega : v = 9 ∨ v = 10 ∨ v = 11 ∨ v = 12 ∨ v = 13 ∨ v = 14) with e | e | e | e | e | e <;> subst e <;> rfl] at F
            exact F
        · have l15 : 15 ≤ v := by
            rcases Nat.lt_or_ge v 15 with g | g
            · exact absurd (nI_lt (a := v) (b := 15) g (by omega)) l15
            · exact g
          have F := fin (nI v)
          refine c_two c4 hp hL r4 ⟨l15, by omega⟩ hx32 h4 h5 h6 _ ?_
          rw [show actS s (cmdC v x y p) = twoS s (cmdC v x y p) by
            unfold cmdC
            rw [if_neg (by omega), if_neg e, if_neg (by omega), if_neg e63, if_neg (by omega)]
            rcases (by omega : v = 15 ∨ v = 16 ∨ v = 17) with e | e | e
            · rw [if_pos e]
              rcases h6 e with e2 | e2 <;> subst e2 <;> rfl
            · rw [if_neg (by omega)]
              subst e; rfl
            · rw [if_neg (by omega)]
              subst e; rfl] at F
          exact F
  · have ge : v < 6 := by
      rcases Nat.lt_or_ge v 6 with g | g
      · exact g
      · exact absurd (nI_le (a := 6) g (by omega)) ge
    have F := fin (nI v)
    rw [show actS s (cmdC v x y p) = movS s v by
      unfold cmdC
      rw [if_pos ge]
      show movS s (nI v).toNatClampNeg = _
      rw [nI_clamp (by omega)]] at F
    exact c_walk c4 hp ge _ F
end CA4
