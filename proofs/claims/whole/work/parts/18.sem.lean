/-! what each method does, by its own run; and that it does so -/
def ax_tb (a : Nat) : Nat → Option ax_En := cond (Nat.blt a 136) (cond (Nat.blt a 68) (cond (Nat.blt a 34) (cond (Nat.blt a 17) (cond (Nat.blt a 8) (cond (Nat.blt a 4) (cond (Nat.blt a 2) (cond (Nat.blt a 1) ((fun _ => none)) (ax_t1)) (cond (Nat.blt a 3) (ax_t2) (ax_t3))) (cond (Nat.blt a 6) (cond (Nat.blt a 5) (ax_t4) (ax_t5)) (cond (Nat.blt a 7) (ax_t6) (ax_t7)))) (cond (Nat.blt a 12) (cond (Nat.blt a 10) (cond (Nat.blt a 9) (ax_t8) (ax_t9)) (cond (Nat.blt a 11) (ax_t10) (ax_t11))) (cond (Nat.blt a 14) (cond (Nat.blt a 13) (ax_t12) (ax_t13)) (cond (Nat.blt a 15) (ax_t14) (cond (Nat.blt a 16) (ax_t15) (ax_t16)))))) (cond (Nat.blt a 25) (cond (Nat.blt a 21) (cond (Nat.blt a 19) (cond (Nat.blt a 18) (ax_t17) (ax_t18)) (cond (Nat.blt a 20) (ax_t19) (ax_t20))) (cond (Nat.blt a 23) (cond (Nat.blt a 22) (ax_t21) (ax_t22)) (cond (Nat.blt a 24) (ax_t23) (ax_t24)))) (cond (Nat.blt a 29) (cond (Nat.blt a 27) (cond (Nat.blt a 26) (ax_t25) (ax_t26)) (cond (Nat.blt a 28) (ax_t27) (ax_t28))) (cond (Nat.blt a 31) (cond (Nat.blt a 30) (ax_t29) (ax_t30)) (cond (Nat.blt a 32) (ax_t31) (cond (Nat.blt a 33) (ax_t32) (ax_t33))))))) (cond (Nat.blt a 51) (cond (Nat.blt a 42) (cond (Nat.blt a 38) (cond (Nat.blt a 36) (cond (Nat.blt a 35) (ax_t34) (ax_t35)) (cond (Nat.blt a 37) (ax_t36) (ax_t37))) (cond (Nat.blt a 40) (cond (Nat.blt a 39) (ax_t38) (ax_t39)) (cond (Nat.blt a 41) (ax_t40) (ax_t41)))) (cond (Nat.blt a 46) (cond (Nat.blt a 44) (cond (Nat.blt a 43) (ax_t42) (ax_t43)) (cond (Nat.blt a 45) (ax_t44) (ax_t45))) (cond (Nat.blt a 48) (cond (Nat.blt a 47) (ax_t46) (ax_t47)) (cond (Nat.blt a 49) (ax_t48) (cond (Nat.blt a 50) (ax_t49) (ax_t50)))))) (cond (Nat.blt a 59) (cond (Nat.blt a 55) (cond (Nat.blt a 53) (cond (Nat.blt a 52) (ax_t51) (ax_t52)) (cond (Nat.blt a 54) (ax_t53) (ax_t54))) (cond (Nat.blt a 57) (cond (Nat.blt a 56) (ax_t55) (ax_t56)) (cond (Nat.blt a 58) (ax_t57) (ax_t58)))) (cond (Nat.blt a 63) (cond (Nat.blt a 61) (cond (Nat.blt a 60) (ax_t59) (ax_t60)) (cond (Nat.blt a 62) (ax_t61) (ax_t62))) (cond (Nat.blt a 65) (cond (Nat.blt a 64) (ax_t63) (ax_t64)) (cond (Nat.blt a 66) (ax_t65) (cond (Nat.blt a 67) (ax_t66) (ax_t67)))))))) (cond (Nat.blt a 102) (cond (Nat.blt a 85) (cond (Nat.blt a 76) (cond (Nat.blt a 72) (cond (Nat.blt a 70) (cond (Nat.blt a 69) (ax_t68) (ax_t69)) (cond (Nat.blt a 71) (ax_t70) (ax_t71))) (cond (Nat.blt a 74) (cond (Nat.blt a 73) (ax_t72) (ax_t73)) (cond (Nat.blt a 75) (ax_t74) (ax_t75)))) (cond (Nat.blt a 80) (cond (Nat.blt a 78) (cond (Nat.blt a 77) (ax_t76) (ax_t77)) (cond (Nat.blt a 79) (ax_t78) (ax_t79))) (cond (Nat.blt a 82) (cond (Nat.blt a 81) (ax_t80) (ax_t81)) (cond (Nat.blt a 83) (ax_t82) (cond (Nat.blt a 84) (ax_t83) (ax_t84)))))) (cond (Nat.blt a 93) (cond (Nat.blt a 89) (cond (Nat.blt a 87) (cond (Nat.blt a 86) (ax_t85) (ax_t86)) (cond (Nat.blt a 88) (ax_t87) (ax_t88))) (cond (Nat.blt a 91) (cond (Nat.blt a 90) (ax_t89) (ax_t90)) (cond (Nat.blt a 92) (ax_t91) (ax_t92)))) (cond (Nat.blt a 97) (cond (Nat.blt a 95) (cond (Nat.blt a 94) (ax_t93) (ax_t94)) (cond (Nat.blt a 96) (ax_t95) (ax_t96))) (cond (Nat.blt a 99) (cond (Nat.blt a 98) (ax_t97) (ax_t98)) (cond (Nat.blt a 100) (ax_t99) (cond (Nat.blt a 101) (ax_t100) (ax_t101))))))) (cond (Nat.blt a 119) (cond (Nat.blt a 110) (cond (Nat.blt a 106) (cond (Nat.blt a 104) (cond (Nat.blt a 103) (ax_t102) (ax_t103)) (cond (Nat.blt a 105) (ax_t104) (ax_t105))) (cond (Nat.blt a 108) (cond (Nat.blt a 107) (ax_t106) (ax_t107)) (cond (Nat.blt a 109) (ax_t108) (ax_t109)))) (cond (Nat.blt a 114) (cond (Nat.blt a 112) (cond (Nat.blt a 111) (ax_t110) (ax_t111)) (cond (Nat.blt a 113) (ax_t112) (ax_t113))) (cond (Nat.blt a 116) (cond (Nat.blt a 115) (ax_t114) (ax_t115)) (cond (Nat.blt a 117) (ax_t116) (cond (Nat.blt a 118) (ax_t117) (ax_t118)))))) (cond (Nat.blt a 127) (cond (Nat.blt a 123) (cond (Nat.blt a 121) (cond (Nat.blt a 120) (ax_t119) (ax_t120)) (cond (Nat.blt a 122) (ax_t121) (ax_t122))) (cond (Nat.blt a 125) (cond (Nat.blt a 124) (ax_t123) (ax_t124)) (cond (Nat.blt a 126) (ax_t125) (ax_t126)))) (cond (Nat.blt a 131) (cond (Nat.blt a 129) (cond (Nat.blt a 128) (ax_t127) (ax_t128)) (cond (Nat.blt a 130) (ax_t129) (ax_t130))) (cond (Nat.blt a 133) (cond (Nat.blt a 132) (ax_t131) (ax_t132)) (cond (Nat.blt a 134) (ax_t133) (cond (Nat.blt a 135) (ax_t134) (ax_t135))))))))) (cond (Nat.blt a 204) (cond (Nat.blt a 170) (cond (Nat.blt a 153) (cond (Nat.blt a 144) (cond (Nat.blt a 140) (cond (Nat.blt a 138) (cond (Nat.blt a 137) (ax_t136) (ax_t137)) (cond (Nat.blt a 139) (ax_t138) (ax_t139))) (cond (Nat.blt a 142) (cond (Nat.blt a 141) (ax_t140) (ax_t141)) (cond (Nat.blt a 143) (ax_t142) (ax_t143)))) (cond (Nat.blt a 148) (cond (Nat.blt a 146) (cond (Nat.blt a 145) (ax_t144) (ax_t145)) (cond (Nat.blt a 147) (ax_t146) (ax_t147))) (cond (Nat.blt a 150) (cond (Nat.blt a 149) (ax_t148) (ax_t149)) (cond (Nat.blt a 151) (ax_t150) (cond (Nat.blt a 152) (ax_t151) (ax_t152)))))) (cond (Nat.blt a 161) (cond (Nat.blt a 157) (cond (Nat.blt a 155) (cond (Nat.blt a 154) (ax_t153) (ax_t154)) (cond (Nat.blt a 156) (ax_t155) (ax_t156))) (cond (Nat.blt a 159) (cond (Nat.blt a 158) (ax_t157) (ax_t158)) (cond (Nat.blt a 160) (ax_t159) (ax_t160)))) (cond (Nat.blt a 165) (cond (Nat.blt a 163) (cond (Nat.blt a 162) (ax_t161) (ax_t162)) (cond (Nat.blt a 164) (ax_t163) (ax_t164))) (cond (Nat.blt a 167) (cond (Nat.blt a 166) (ax_t165) (ax_t166)) (cond (Nat.blt a 168) (ax_t167) (cond (Nat.blt a 169) (ax_t168) (ax_t169))))))) (cond (Nat.blt a 187) (cond (Nat.blt a 178) (cond (Nat.blt a 174) (cond (Nat.blt a 172) (cond (Nat.blt a 171) (ax_t170) (ax_t171)) (cond (Nat.blt a 173) (ax_t172) (ax_t173))) (cond (Nat.blt a 176) (cond (Nat.blt a 175) (ax_t174) (ax_t175)) (cond (Nat.blt a 177) (ax_t176) (ax_t177)))) (cond (Nat.blt a 182) (cond (Nat.blt a 180) (cond (Nat.blt a 179) (ax_t178) (ax_t179)) (cond (Nat.blt a 181) (ax_t180) (ax_t181))) (cond (Nat.blt a 184) (cond (Nat.blt a 183) (ax_t182) (ax_t183)) (cond (Nat.blt a 185) (ax_t184) (cond (Nat.blt a 186) (ax_t185) (ax_t186)))))) (cond (Nat.blt a 195) (cond (Nat.blt a 191) (cond (Nat.blt a 189) (cond (Nat.blt a 188) (ax_t187) (ax_t188)) (cond (Nat.blt a 190) (ax_t189) (ax_t190))) (cond (Nat.blt a 193) (cond (Nat.blt a 192) (ax_t191) (ax_t192)) (cond (Nat.blt a 194) (ax_t193) (ax_t194)))) (cond (Nat.blt a 199) (cond (Nat.blt a 197) (cond (Nat.blt a 196) (ax_t195) (ax_t196)) (cond (Nat.blt a 198) (ax_t197) (ax_t198))) (cond (Nat.blt a 201) (cond (Nat.blt a 200) (ax_t199) (ax_t200)) (cond (Nat.blt a 202) (ax_t201) (cond (Nat.blt a 203) (ax_t202) (ax_t203)))))))) (cond (Nat.blt a 238) (cond (Nat.blt a 221) (cond (Nat.blt a 212) (cond (Nat.blt a 208) (cond (Nat.blt a 206) (cond (Nat.blt a 205) (ax_t204) (ax_t205)) (cond (Nat.blt a 207) (ax_t206) (ax_t207))) (cond (Nat.blt a 210) (cond (Nat.blt a 209) (ax_t208) (ax_t209)) (cond (Nat.blt a 211) (ax_t210) (ax_t211)))) (cond (Nat.blt a 216) (cond (Nat.blt a 214) (cond (Nat.blt a 213) (ax_t212) (ax_t213)) (cond (Nat.blt a 215) (ax_t214) (ax_t215))) (cond (Nat.blt a 218) (cond (Nat.blt a 217) (ax_t216) (ax_t217)) (cond (Nat.blt a 219) (ax_t218) (cond (Nat.blt a 220) (ax_t219) (ax_t220)))))) (cond (Nat.blt a 229) (cond (Nat.blt a 225) (cond (Nat.blt a 223) (cond (Nat.blt a 222) (ax_t221) (ax_t222)) (cond (Nat.blt a 224) (ax_t223) (ax_t224))) (cond (Nat.blt a 227) (cond (Nat.blt a 226) (ax_t225) (ax_t226)) (cond (Nat.blt a 228) (ax_t227) (ax_t228)))) (cond (Nat.blt a 233) (cond (Nat.blt a 231) (cond (Nat.blt a 230) (ax_t229) (ax_t230)) (cond (Nat.blt a 232) (ax_t231) (ax_t232))) (cond (Nat.blt a 235) (cond (Nat.blt a 234) (ax_t233) (ax_t234)) (cond (Nat.blt a 236) (ax_t235) (cond (Nat.blt a 237) (ax_t236) (ax_t237))))))) (cond (Nat.blt a 255) (cond (Nat.blt a 246) (cond (Nat.blt a 242) (cond (Nat.blt a 240) (cond (Nat.blt a 239) (ax_t238) (ax_t239)) (cond (Nat.blt a 241) (ax_t240) (ax_t241))) (cond (Nat.blt a 244) (cond (Nat.blt a 243) (ax_t242) (ax_t243)) (cond (Nat.blt a 245) (ax_t244) (ax_t245)))) (cond (Nat.blt a 250) (cond (Nat.blt a 248) (cond (Nat.blt a 247) (ax_t246) (ax_t247)) (cond (Nat.blt a 249) (ax_t248) (ax_t249))) (cond (Nat.blt a 252) (cond (Nat.blt a 251) (ax_t250) (ax_t251)) (cond (Nat.blt a 253) (ax_t252) (cond (Nat.blt a 254) (ax_t253) (ax_t254)))))) (cond (Nat.blt a 263) (cond (Nat.blt a 259) (cond (Nat.blt a 257) (cond (Nat.blt a 256) (ax_t255) (ax_t256)) (cond (Nat.blt a 258) (ax_t257) (ax_t258))) (cond (Nat.blt a 261) (cond (Nat.blt a 260) (ax_t259) (ax_t260)) (cond (Nat.blt a 262) (ax_t261) (ax_t262)))) (cond (Nat.blt a 267) (cond (Nat.blt a 265) (cond (Nat.blt a 264) (ax_t263) (ax_t264)) (cond (Nat.blt a 266) (ax_t265) (ax_t266))) (cond (Nat.blt a 269) (cond (Nat.blt a 268) (ax_t267) (ax_t268)) (cond (Nat.blt a 270) (ax_t269) (cond (Nat.blt a 271) (ax_t270) (ax_t271)))))))))
def ax_nst (a : Nat) : Bool := Nat.beq a 1 || Nat.beq a 10 || Nat.beq a 41 || Nat.beq a 42
def ax_drop (o : Option ax_Fin) : Option (ax_D × (Option ax_V ⊕ Nat)) := match o with
  | some (d, e, r) => cond (Nat.beq e (ax_eo r)) (some (d, r)) none
  | none => none
def ax_flt (b : Bool) (o : Option (ax_D × (Option ax_V ⊕ Nat))) : Option (ax_D × (Option ax_V ⊕ Nat)) := cond b (match o with
  | some (d, Sum.inl r) => some (d, Sum.inl r)
  | _ => none) o
/-- String's own look at an index -/
def ax_jchk (as : List ax_V) (d : ax_D) : Option (ax_D × (Option ax_V ⊕ Nat)) := match as with
  | [Sum.inl x, Sum.inl n] => cond (!(decide (x < 0)) && decide (x < n)) (some (d, Sum.inl none)) none
  | _ => none
/-- what a run comes to in the end, when it has enough steps -/
def ax_evt (g : Nat → Option ax_Fin) (r : ax_Fin) : Prop := ∃ n0, ∀ n, n0 ≤ n → g n = some r
noncomputable def ax_lim (g : Nat → Option ax_Fin) : Option ax_Fin := @dite _ (∃ r, ax_evt g r) (Classical.propDecidable _) (fun h => some (Classical.choose h)) (fun _ => none)
theorem ax_evt_one {g : Nat → Option ax_Fin} {r r' : ax_Fin} (h : ax_evt g r) (h' : ax_evt g r') : r = r' := by
  obtain ⟨a, ha⟩ := h
  obtain ⟨b, hb⟩ := h'
  have e := ha (a + b) (by omega)
  rw [hb (a + b) (by omega)] at e
  exact (Option.some.inj e).symm
theorem ax_lim_evt {g : Nat → Option ax_Fin} {r : ax_Fin} (h : ax_evt g r) : ax_lim g = some r := by
  have hx : ∃ r, ax_evt g r := ⟨r, h⟩
  unfold ax_lim
  rw [dif_pos hx, ax_evt_one h (Classical.choose_spec hx)]
theorem ax_lim_run {g : Nat → Option ax_Fin} {r : ax_Fin} (h : ax_lim g = some r) : ∃ n, g n = some r := by
  unfold ax_lim at h
  by_cases hx : ∃ r, ax_evt g r
  · rw [dif_pos hx] at h
    obtain ⟨n, hn⟩ := Classical.choose_spec hx
    rw [← h]
    exact ⟨n, hn n (Nat.le_refl _)⟩
  · rw [dif_neg hx] at h
    cases h
noncomputable def ax_own (n : Nat) (orc : ax_O) (as : List ax_V) (d : ax_D) : Option (ax_D × (Option ax_V ⊕ Nat)) :=
  ax_flt (ax_nst n) (ax_drop (cond (Nat.ble (ax_cats as) (ax_m n)) (ax_lim (fun f => ax_run ax_k orc (false, 0, fun _ => 0) (ax_tb n) f 0 (ax_args 0 as) [] d 0)) none))
noncomputable def ax_one (n : Nat) (orc : ax_O) (as : List ax_V) (d : ax_D) : Option (ax_D × (Option ax_V ⊕ Nat)) :=
  cond (Nat.beq n 0) (ax_jchk as d) (ax_own n orc as d)
noncomputable def ax_sem (n : Nat) : ax_O := Nat.rec (motive := fun _ => ax_O) (fun _ _ _ => none) (fun n ih a as d => cond (Nat.beq a n) (ax_one n ih as d) (ih a as d)) n
theorem ax_sem_succ (n a : Nat) (as : List ax_V) (d : ax_D) : ax_sem (n + 1) a as d = cond (Nat.beq a n) (ax_one n (ax_sem n) as d) (ax_sem n a as d) := rfl
theorem ax_beq_ne {a n : Nat} (h : a ≠ n) : Nat.beq a n = false := by
  cases hb : Nat.beq a n with
  | false => rfl
  | true => exact absurd (Nat.eq_of_beq_eq_true hb) h
theorem ax_sem_at {a : Nat} (as : List ax_V) (d : ax_D) : ∀ n, a < n → ax_sem n a as d = ax_one a (ax_sem a) as d := by
  intro n
  induction n with
  | zero => intro h; omega
  | succ n ih =>
    intro h
    rw [ax_sem_succ]
    by_cases e : a = n
    · subst e
      rw [Nat.beq_refl]
      rfl
    · rw [ax_beq_ne e]
      exact ih (by omega)
theorem ax_flt_some {b : Bool} {o : Option (ax_D × (Option ax_V ⊕ Nat))} {x : ax_D × (Option ax_V ⊕ Nat)} (h : ax_flt b o = some x) : o = some x ∧ (b = true → ∃ r, x.2 = Sum.inl r) := by
  unfold ax_flt at h
  cases b with
  | false => exact ⟨h, fun z => by cases z⟩
  | true =>
    simp only [cond_true] at h
    split at h
    · cases h
      exact ⟨rfl, fun _ => ⟨_, rfl⟩⟩
    · cases h
theorem ax_drop_some {o : Option ax_Fin} {d : ax_D} {r : Option ax_V ⊕ Nat} (h : ax_drop o = some (d, r)) : o = some (d, ax_eo r, r) := by
  unfold ax_drop at h
  split at h
  · rename_i d' e' r'
    cases hb : Nat.beq e' (ax_eo r') with
    | false => rw [hb] at h; cases h
    | true =>
      rw [hb] at h
      cases h
      rw [Nat.eq_of_beq_eq_true hb]
  · cases h
theorem ax_sem_nst {a : Nat} (h : ax_nst a = true) (h0 : 1 ≤ a) (n : Nat) (as : List ax_V) (d d' : ax_D) (z : Nat) : ax_sem n a as d ≠ some (d', Sum.inr z) := by
  intro hs
  by_cases ha : a < n
  · rw [ax_sem_at as d n ha] at hs
    unfold ax_one at hs
    rw [ax_beq_ne (show a ≠ 0 by omega)] at hs
    obtain ⟨r, hr⟩ := (ax_flt_some hs).2 h
    cases hr
  · have hn : ∀ n, ¬ a < n → ax_sem n a as d = none := by
      intro n
      induction n with
      | zero => intro _; rfl
      | succ n ih =>
        intro h9
        rw [ax_sem_succ, ax_beq_ne (show a ≠ n by omega)]
        exact ih (by omega)
    rw [hn n ha] at hs
    cases hs
def ax_rtB (a : Nat) : Bool := match ax_rt a, ax_r a with
  | 0, none => true
  | 1, some .int => true
  | 2, some .boolean => true
  | 3, some .char => true
  | 4, some (.object _) => true
  | 5, some .float => true
  | 6, some .double => true
  | 7, some .byte => true
  | _, _ => false
theorem ax_rtc : (List.range ax_N).all (fun a => Nat.beq a 0 || (ax_rtB a && plainName (ax_y a).cls)) = true := by decide +kernel
theorem ax_RTs (a : Nat) (h : ax_rtB a = true) : ax_RT (ax_rt a) (ax_r a) := by
  unfold ax_rtB at h
  split at h <;> first | cases h | skip
  all_goals (rename_i e1 e2; rw [e1, e2]; refine ⟨?_, ?_, ?_, ?_, ?_, ?_, ?_, ?_⟩ <;> intro z <;> first | rfl | exact ⟨_, rfl⟩ | cases z)
theorem ax_nsts : ∀ q ∈ ax_nl, ax_nst q.2.2 = true ∧ 1 ≤ q.2.2 := by decide +kernel
theorem ax_gds (a : Nat) (h0 : 1 ≤ a) (h : a < ax_N) : ax_good (ax_m a) (ax_rt a) (ax_f a) (ax_l a) a (ax_y a).cls ax_fl ax_cl9 ax_nl ax_ldc ax_k ax_n ax_f ax_l ax_m ax_thr ax_thl ax_cst (ax_b a) (ax_tb a) := by
  have h : a < 272 := h
  by_cases c136 : a < 136
  · by_cases c68 : a < 68
    · by_cases c34 : a < 34
      · by_cases c17 : a < 17
        · by_cases c9 : a < 9
          · by_cases c5 : a < 5
            · by_cases c3 : a < 3
              · by_cases c2 : a < 2
                · have e : a = 1 := by omega
                  subst e
                  exact ax_gd1
                · have e : a = 2 := by omega
                  subst e
                  exact ax_gd2
              · by_cases c4 : a < 4
                · have e : a = 3 := by omega
                  subst e
                  exact ax_gd3
                · have e : a = 4 := by omega
                  subst e
                  exact ax_gd4
            · by_cases c7 : a < 7
              · by_cases c6 : a < 6
                · have e : a = 5 := by omega
                  subst e
                  exact ax_gd5
                · have e : a = 6 := by omega
                  subst e
                  exact ax_gd6
              · by_cases c8 : a < 8
                · have e : a = 7 := by omega
                  subst e
                  exact ax_gd7
                · have e : a = 8 := by omega
                  subst e
                  exact ax_gd8
          · by_cases c13 : a < 13
            · by_cases c11 : a < 11
              · by_cases c10 : a < 10
                · have e : a = 9 := by omega
                  subst e
                  exact ax_gd9
                · have e : a = 10 := by omega
                  subst e
                  exact ax_gd10
              · by_cases c12 : a < 12
                · have e : a = 11 := by omega
                  subst e
                  exact ax_gd11
                · have e : a = 12 := by omega
                  subst e
                  exact ax_gd12
            · by_cases c15 : a < 15
              · by_cases c14 : a < 14
                · have e : a = 13 := by omega
                  subst e
                  exact ax_gd13
                · have e : a = 14 := by omega
                  subst e
                  exact ax_gd14
              · by_cases c16 : a < 16
                · have e : a = 15 := by omega
                  subst e
                  exact ax_gd15
                · have e : a = 16 := by omega
                  subst e
                  exact ax_gd16
        · by_cases c25 : a < 25
          · by_cases c21 : a < 21
            · by_cases c19 : a < 19
              · by_cases c18 : a < 18
                · have e : a = 17 := by omega
                  subst e
                  exact ax_gd17
                · have e : a = 18 := by omega
                  subst e
                  exact ax_gd18
              · by_cases c20 : a < 20
                · have e : a = 19 := by omega
                  subst e
                  exact ax_gd19
                · have e : a = 20 := by omega
                  subst e
                  exact ax_gd20
            · by_cases c23 : a < 23
              · by_cases c22 : a < 22
                · have e : a = 21 := by omega
                  subst e
                  exact ax_gd21
                · have e : a = 22 := by omega
                  subst e
                  exact ax_gd22
              · by_cases c24 : a < 24
                · have e : a = 23 := by omega
                  subst e
                  exact ax_gd23
                · have e : a = 24 := by omega
                  subst e
                  exact ax_gd24
          · by_cases c29 : a < 29
            · by_cases c27 : a < 27
              · by_cases c26 : a < 26
                · have e : a = 25 := by omega
                  subst e
                  exact ax_gd25
                · have e : a = 26 := by omega
                  subst e
                  exact ax_gd26
              · by_cases c28 : a < 28
                · have e : a = 27 := by omega
                  subst e
                  exact ax_gd27
                · have e : a = 28 := by omega
                  subst e
                  exact ax_gd28
            · by_cases c31 : a < 31
              · by_cases c30 : a < 30
                · have e : a = 29 := by omega
                  subst e
                  exact ax_gd29
                · have e : a = 30 := by omega
                  subst e
                  exact ax_gd30
              · by_cases c32 : a < 32
                · have e : a = 31 := by omega
                  subst e
                  exact ax_gd31
                · by_cases c33 : a < 33
                  · have e : a = 32 := by omega
                    subst e
                    exact ax_gd32
                  · have e : a = 33 := by omega
                    subst e
                    exact ax_gd33
      · by_cases c51 : a < 51
        · by_cases c42 : a < 42
          · by_cases c38 : a < 38
            · by_cases c36 : a < 36
              · by_cases c35 : a < 35
                · have e : a = 34 := by omega
                  subst e
                  exact ax_gd34
                · have e : a = 35 := by omega
                  subst e
                  exact ax_gd35
              · by_cases c37 : a < 37
                · have e : a = 36 := by omega
                  subst e
                  exact ax_gd36
                · have e : a = 37 := by omega
                  subst e
                  exact ax_gd37
            · by_cases c40 : a < 40
              · by_cases c39 : a < 39
                · have e : a = 38 := by omega
                  subst e
                  exact ax_gd38
                · have e : a = 39 := by omega
                  subst e
                  exact ax_gd39
              · by_cases c41 : a < 41
                · have e : a = 40 := by omega
                  subst e
                  exact ax_gd40
                · have e : a = 41 := by omega
                  subst e
                  exact ax_gd41
          · by_cases c46 : a < 46
            · by_cases c44 : a < 44
              · by_cases c43 : a < 43
                · have e : a = 42 := by omega
                  subst e
                  exact ax_gd42
                · have e : a = 43 := by omega
                  subst e
                  exact ax_gd43
              · by_cases c45 : a < 45
                · have e : a = 44 := by omega
                  subst e
                  exact ax_gd44
                · have e : a = 45 := by omega
                  subst e
                  exact ax_gd45
            · by_cases c48 : a < 48
              · by_cases c47 : a < 47
                · have e : a = 46 := by omega
                  subst e
                  exact ax_gd46
                · have e : a = 47 := by omega
                  subst e
                  exact ax_gd47
              · by_cases c49 : a < 49
                · have e : a = 48 := by omega
                  subst e
                  exact ax_gd48
                · by_cases c50 : a < 50
                  · have e : a = 49 := by omega
                    subst e
                    exact ax_gd49
                  · have e : a = 50 := by omega
                    subst e
                    exact ax_gd50
        · by_cases c59 : a < 59
          · by_cases c55 : a < 55
            · by_cases c53 : a < 53
              · by_cases c52 : a < 52
                · have e : a = 51 := by omega
                  subst e
                  exact ax_gd51
                · have e : a = 52 := by omega
                  subst e
                  exact ax_gd52
              · by_cases c54 : a < 54
                · have e : a = 53 := by omega
                  subst e
                  exact ax_gd53
                · have e : a = 54 := by omega
                  subst e
                  exact ax_gd54
            · by_cases c57 : a < 57
              · by_cases c56 : a < 56
                · have e : a = 55 := by omega
                  subst e
                  exact ax_gd55
                · have e : a = 56 := by omega
                  subst e
                  exact ax_gd56
              · by_cases c58 : a < 58
                · have e : a = 57 := by omega
                  subst e
                  exact ax_gd57
                · have e : a = 58 := by omega
                  subst e
                  exact ax_gd58
          · by_cases c63 : a < 63
            · by_cases c61 : a < 61
              · by_cases c60 : a < 60
                · have e : a = 59 := by omega
                  subst e
                  exact ax_gd59
                · have e : a = 60 := by omega
                  subst e
                  exact ax_gd60
              · by_cases c62 : a < 62
                · have e : a = 61 := by omega
                  subst e
                  exact ax_gd61
                · have e : a = 62 := by omega
                  subst e
                  exact ax_gd62
            · by_cases c65 : a < 65
              · by_cases c64 : a < 64
                · have e : a = 63 := by omega
                  subst e
                  exact ax_gd63
                · have e : a = 64 := by omega
                  subst e
                  exact ax_gd64
              · by_cases c66 : a < 66
                · have e : a = 65 := by omega
                  subst e
                  exact ax_gd65
                · by_cases c67 : a < 67
                  · have e : a = 66 := by omega
                    subst e
                    exact ax_gd66
                  · have e : a = 67 := by omega
                    subst e
                    exact ax_gd67
    · by_cases c102 : a < 102
      · by_cases c85 : a < 85
        · by_cases c76 : a < 76
          · by_cases c72 : a < 72
            · by_cases c70 : a < 70
              · by_cases c69 : a < 69
                · have e : a = 68 := by omega
                  subst e
                  exact ax_gd68
                · have e : a = 69 := by omega
                  subst e
                  exact ax_gd69
              · by_cases c71 : a < 71
                · have e : a = 70 := by omega
                  subst e
                  exact ax_gd70
                · have e : a = 71 := by omega
                  subst e
                  exact ax_gd71
            · by_cases c74 : a < 74
              · by_cases c73 : a < 73
                · have e : a = 72 := by omega
                  subst e
                  exact ax_gd72
                · have e : a = 73 := by omega
                  subst e
                  exact ax_gd73
              · by_cases c75 : a < 75
                · have e : a = 74 := by omega
                  subst e
                  exact ax_gd74
                · have e : a = 75 := by omega
                  subst e
                  exact ax_gd75
          · by_cases c80 : a < 80
            · by_cases c78 : a < 78
              · by_cases c77 : a < 77
                · have e : a = 76 := by omega
                  subst e
                  exact ax_gd76
                · have e : a = 77 := by omega
                  subst e
                  exact ax_gd77
              · by_cases c79 : a < 79
                · have e : a = 78 := by omega
                  subst e
                  exact ax_gd78
                · have e : a = 79 := by omega
                  subst e
                  exact ax_gd79
            · by_cases c82 : a < 82
              · by_cases c81 : a < 81
                · have e : a = 80 := by omega
                  subst e
                  exact ax_gd80
                · have e : a = 81 := by omega
                  subst e
                  exact ax_gd81
              · by_cases c83 : a < 83
                · have e : a = 82 := by omega
                  subst e
                  exact ax_gd82
                · by_cases c84 : a < 84
                  · have e : a = 83 := by omega
                    subst e
                    exact ax_gd83
                  · have e : a = 84 := by omega
                    subst e
                    exact ax_gd84
        · by_cases c93 : a < 93
          · by_cases c89 : a < 89
            · by_cases c87 : a < 87
              · by_cases c86 : a < 86
                · have e : a = 85 := by omega
                  subst e
                  exact ax_gd85
                · have e : a = 86 := by omega
                  subst e
                  exact ax_gd86
              · by_cases c88 : a < 88
                · have e : a = 87 := by omega
                  subst e
                  exact ax_gd87
                · have e : a = 88 := by omega
                  subst e
                  exact ax_gd88
            · by_cases c91 : a < 91
              · by_cases c90 : a < 90
                · have e : a = 89 := by omega
                  subst e
                  exact ax_gd89
                · have e : a = 90 := by omega
                  subst e
                  exact ax_gd90
              · by_cases c92 : a < 92
                · have e : a = 91 := by omega
                  subst e
                  exact ax_gd91
                · have e : a = 92 := by omega
                  subst e
                  exact ax_gd92
          · by_cases c97 : a < 97
            · by_cases c95 : a < 95
              · by_cases c94 : a < 94
                · have e : a = 93 := by omega
                  subst e
                  exact ax_gd93
                · have e : a = 94 := by omega
                  subst e
                  exact ax_gd94
              · by_cases c96 : a < 96
                · have e : a = 95 := by omega
                  subst e
                  exact ax_gd95
                · have e : a = 96 := by omega
                  subst e
                  exact ax_gd96
            · by_cases c99 : a < 99
              · by_cases c98 : a < 98
                · have e : a = 97 := by omega
                  subst e
                  exact ax_gd97
                · have e : a = 98 := by omega
                  subst e
                  exact ax_gd98
              · by_cases c100 : a < 100
                · have e : a = 99 := by omega
                  subst e
                  exact ax_gd99
                · by_cases c101 : a < 101
                  · have e : a = 100 := by omega
                    subst e
                    exact ax_gd100
                  · have e : a = 101 := by omega
                    subst e
                    exact ax_gd101
      · by_cases c119 : a < 119
        · by_cases c110 : a < 110
          · by_cases c106 : a < 106
            · by_cases c104 : a < 104
              · by_cases c103 : a < 103
                · have e : a = 102 := by omega
                  subst e
                  exact ax_gd102
                · have e : a = 103 := by omega
                  subst e
                  exact ax_gd103
              · by_cases c105 : a < 105
                · have e : a = 104 := by omega
                  subst e
                  exact ax_gd104
                · have e : a = 105 := by omega
                  subst e
                  exact ax_gd105
            · by_cases c108 : a < 108
              · by_cases c107 : a < 107
                · have e : a = 106 := by omega
                  subst e
                  exact ax_gd106
                · have e : a = 107 := by omega
                  subst e
                  exact ax_gd107
              · by_cases c109 : a < 109
                · have e : a = 108 := by omega
                  subst e
                  exact ax_gd108
                · have e : a = 109 := by omega
                  subst e
                  exact ax_gd109
          · by_cases c114 : a < 114
            · by_cases c112 : a < 112
              · by_cases c111 : a < 111
                · have e : a = 110 := by omega
                  subst e
                  exact ax_gd110
                · have e : a = 111 := by omega
                  subst e
                  exact ax_gd111
              · by_cases c113 : a < 113
                · have e : a = 112 := by omega
                  subst e
                  exact ax_gd112
                · have e : a = 113 := by omega
                  subst e
                  exact ax_gd113
            · by_cases c116 : a < 116
              · by_cases c115 : a < 115
                · have e : a = 114 := by omega
                  subst e
                  exact ax_gd114
                · have e : a = 115 := by omega
                  subst e
                  exact ax_gd115
              · by_cases c117 : a < 117
                · have e : a = 116 := by omega
                  subst e
                  exact ax_gd116
                · by_cases c118 : a < 118
                  · have e : a = 117 := by omega
                    subst e
                    exact ax_gd117
                  · have e : a = 118 := by omega
                    subst e
                    exact ax_gd118
        · by_cases c127 : a < 127
          · by_cases c123 : a < 123
            · by_cases c121 : a < 121
              · by_cases c120 : a < 120
                · have e : a = 119 := by omega
                  subst e
                  exact ax_gd119
                · have e : a = 120 := by omega
                  subst e
                  exact ax_gd120
              · by_cases c122 : a < 122
                · have e : a = 121 := by omega
                  subst e
                  exact ax_gd121
                · have e : a = 122 := by omega
                  subst e
                  exact ax_gd122
            · by_cases c125 : a < 125
              · by_cases c124 : a < 124
                · have e : a = 123 := by omega
                  subst e
                  exact ax_gd123
                · have e : a = 124 := by omega
                  subst e
                  exact ax_gd124
              · by_cases c126 : a < 126
                · have e : a = 125 := by omega
                  subst e
                  exact ax_gd125
                · have e : a = 126 := by omega
                  subst e
                  exact ax_gd126
          · by_cases c131 : a < 131
            · by_cases c129 : a < 129
              · by_cases c128 : a < 128
                · have e : a = 127 := by omega
                  subst e
                  exact ax_gd127
                · have e : a = 128 := by omega
                  subst e
                  exact ax_gd128
              · by_cases c130 : a < 130
                · have e : a = 129 := by omega
                  subst e
                  exact ax_gd129
                · have e : a = 130 := by omega
                  subst e
                  exact ax_gd130
            · by_cases c133 : a < 133
              · by_cases c132 : a < 132
                · have e : a = 131 := by omega
                  subst e
                  exact ax_gd131
                · have e : a = 132 := by omega
                  subst e
                  exact ax_gd132
              · by_cases c134 : a < 134
                · have e : a = 133 := by omega
                  subst e
                  exact ax_gd133
                · by_cases c135 : a < 135
                  · have e : a = 134 := by omega
                    subst e
                    exact ax_gd134
                  · have e : a = 135 := by omega
                    subst e
                    exact ax_gd135
  · by_cases c204 : a < 204
    · by_cases c170 : a < 170
      · by_cases c153 : a < 153
        · by_cases c144 : a < 144
          · by_cases c140 : a < 140
            · by_cases c138 : a < 138
              · by_cases c137 : a < 137
                · have e : a = 136 := by omega
                  subst e
                  exact ax_gd136
                · have e : a = 137 := by omega
                  subst e
                  exact ax_gd137
              · by_cases c139 : a < 139
                · have e : a = 138 := by omega
                  subst e
                  exact ax_gd138
                · have e : a = 139 := by omega
                  subst e
                  exact ax_gd139
            · by_cases c142 : a < 142
              · by_cases c141 : a < 141
                · have e : a = 140 := by omega
                  subst e
                  exact ax_gd140
                · have e : a = 141 := by omega
                  subst e
                  exact ax_gd141
              · by_cases c143 : a < 143
                · have e : a = 142 := by omega
                  subst e
                  exact ax_gd142
                · have e : a = 143 := by omega
                  subst e
                  exact ax_gd143
          · by_cases c148 : a < 148
            · by_cases c146 : a < 146
              · by_cases c145 : a < 145
                · have e : a = 144 := by omega
                  subst e
                  exact ax_gd144
                · have e : a = 145 := by omega
                  subst e
                  exact ax_gd145
              · by_cases c147 : a < 147
                · have e : a = 146 := by omega
                  subst e
                  exact ax_gd146
                · have e : a = 147 := by omega
                  subst e
                  exact ax_gd147
            · by_cases c150 : a < 150
              · by_cases c149 : a < 149
                · have e : a = 148 := by omega
                  subst e
                  exact ax_gd148
                · have e : a = 149 := by omega
                  subst e
                  exact ax_gd149
              · by_cases c151 : a < 151
                · have e : a = 150 := by omega
                  subst e
                  exact ax_gd150
                · by_cases c152 : a < 152
                  · have e : a = 151 := by omega
                    subst e
                    exact ax_gd151
                  · have e : a = 152 := by omega
                    subst e
                    exact ax_gd152
        · by_cases c161 : a < 161
          · by_cases c157 : a < 157
            · by_cases c155 : a < 155
              · by_cases c154 : a < 154
                · have e : a = 153 := by omega
                  subst e
                  exact ax_gd153
                · have e : a = 154 := by omega
                  subst e
                  exact ax_gd154
              · by_cases c156 : a < 156
                · have e : a = 155 := by omega
                  subst e
                  exact ax_gd155
                · have e : a = 156 := by omega
                  subst e
                  exact ax_gd156
            · by_cases c159 : a < 159
              · by_cases c158 : a < 158
                · have e : a = 157 := by omega
                  subst e
                  exact ax_gd157
                · have e : a = 158 := by omega
                  subst e
                  exact ax_gd158
              · by_cases c160 : a < 160
                · have e : a = 159 := by omega
                  subst e
                  exact ax_gd159
                · have e : a = 160 := by omega
                  subst e
                  exact ax_gd160
          · by_cases c165 : a < 165
            · by_cases c163 : a < 163
              · by_cases c162 : a < 162
                · have e : a = 161 := by omega
                  subst e
                  exact ax_gd161
                · have e : a = 162 := by omega
                  subst e
                  exact ax_gd162
              · by_cases c164 : a < 164
                · have e : a = 163 := by omega
                  subst e
                  exact ax_gd163
                · have e : a = 164 := by omega
                  subst e
                  exact ax_gd164
            · by_cases c167 : a < 167
              · by_cases c166 : a < 166
                · have e : a = 165 := by omega
                  subst e
                  exact ax_gd165
                · have e : a = 166 := by omega
                  subst e
                  exact ax_gd166
              · by_cases c168 : a < 168
                · have e : a = 167 := by omega
                  subst e
                  exact ax_gd167
                · by_cases c169 : a < 169
                  · have e : a = 168 := by omega
                    subst e
                    exact ax_gd168
                  · have e : a = 169 := by omega
                    subst e
                    exact ax_gd169
      · by_cases c187 : a < 187
        · by_cases c178 : a < 178
          · by_cases c174 : a < 174
            · by_cases c172 : a < 172
              · by_cases c171 : a < 171
                · have e : a = 170 := by omega
                  subst e
                  exact ax_gd170
                · have e : a = 171 := by omega
                  subst e
                  exact ax_gd171
              · by_cases c173 : a < 173
                · have e : a = 172 := by omega
                  subst e
                  exact ax_gd172
                · have e : a = 173 := by omega
                  subst e
                  exact ax_gd173
            · by_cases c176 : a < 176
              · by_cases c175 : a < 175
                · have e : a = 174 := by omega
                  subst e
                  exact ax_gd174
                · have e : a = 175 := by omega
                  subst e
                  exact ax_gd175
              · by_cases c177 : a < 177
                · have e : a = 176 := by omega
                  subst e
                  exact ax_gd176
                · have e : a = 177 := by omega
                  subst e
                  exact ax_gd177
          · by_cases c182 : a < 182
            · by_cases c180 : a < 180
              · by_cases c179 : a < 179
                · have e : a = 178 := by omega
                  subst e
                  exact ax_gd178
                · have e : a = 179 := by omega
                  subst e
                  exact ax_gd179
              · by_cases c181 : a < 181
                · have e : a = 180 := by omega
                  subst e
                  exact ax_gd180
                · have e : a = 181 := by omega
                  subst e
                  exact ax_gd181
            · by_cases c184 : a < 184
              · by_cases c183 : a < 183
                · have e : a = 182 := by omega
                  subst e
                  exact ax_gd182
                · have e : a = 183 := by omega
                  subst e
                  exact ax_gd183
              · by_cases c185 : a < 185
                · have e : a = 184 := by omega
                  subst e
                  exact ax_gd184
                · by_cases c186 : a < 186
                  · have e : a = 185 := by omega
                    subst e
                    exact ax_gd185
                  · have e : a = 186 := by omega
                    subst e
                    exact ax_gd186
        · by_cases c195 : a < 195
          · by_cases c191 : a < 191
            · by_cases c189 : a < 189
              · by_cases c188 : a < 188
                · have e : a = 187 := by omega
                  subst e
                  exact ax_gd187
                · have e : a = 188 := by omega
                  subst e
                  exact ax_gd188
              · by_cases c190 : a < 190
                · have e : a = 189 := by omega
                  subst e
                  exact ax_gd189
                · have e : a = 190 := by omega
                  subst e
                  exact ax_gd190
            · by_cases c193 : a < 193
              · by_cases c192 : a < 192
                · have e : a = 191 := by omega
                  subst e
                  exact ax_gd191
                · have e : a = 192 := by omega
                  subst e
                  exact ax_gd192
              · by_cases c194 : a < 194
                · have e : a = 193 := by omega
                  subst e
                  exact ax_gd193
                · have e : a = 194 := by omega
                  subst e
                  exact ax_gd194
          · by_cases c199 : a < 199
            · by_cases c197 : a < 197
              · by_cases c196 : a < 196
                · have e : a = 195 := by omega
                  subst e
                  exact ax_gd195
                · have e : a = 196 := by omega
                  subst e
                  exact ax_gd196
              · by_cases c198 : a < 198
                · have e : a = 197 := by omega
                  subst e
                  exact ax_gd197
                · have e : a = 198 := by omega
                  subst e
                  exact ax_gd198
            · by_cases c201 : a < 201
              · by_cases c200 : a < 200
                · have e : a = 199 := by omega
                  subst e
                  exact ax_gd199
                · have e : a = 200 := by omega
                  subst e
                  exact ax_gd200
              · by_cases c202 : a < 202
                · have e : a = 201 := by omega
                  subst e
                  exact ax_gd201
                · by_cases c203 : a < 203
                  · have e : a = 202 := by omega
                    subst e
                    exact ax_gd202
                  · have e : a = 203 := by omega
                    subst e
                    exact ax_gd203
    · by_cases c238 : a < 238
      · by_cases c221 : a < 221
        · by_cases c212 : a < 212
          · by_cases c208 : a < 208
            · by_cases c206 : a < 206
              · by_cases c205 : a < 205
                · have e : a = 204 := by omega
                  subst e
                  exact ax_gd204
                · have e : a = 205 := by omega
                  subst e
                  exact ax_gd205
              · by_cases c207 : a < 207
                · have e : a = 206 := by omega
                  subst e
                  exact ax_gd206
                · have e : a = 207 := by omega
                  subst e
                  exact ax_gd207
            · by_cases c210 : a < 210
              · by_cases c209 : a < 209
                · have e : a = 208 := by omega
                  subst e
                  exact ax_gd208
                · have e : a = 209 := by omega
                  subst e
                  exact ax_gd209
              · by_cases c211 : a < 211
                · have e : a = 210 := by omega
                  subst e
                  exact ax_gd210
                · have e : a = 211 := by omega
                  subst e
                  exact ax_gd211
          · by_cases c216 : a < 216
            · by_cases c214 : a < 214
              · by_cases c213 : a < 213
                · have e : a = 212 := by omega
                  subst e
                  exact ax_gd212
                · have e : a = 213 := by omega
                  subst e
                  exact ax_gd213
              · by_cases c215 : a < 215
                · have e : a = 214 := by omega
                  subst e
                  exact ax_gd214
                · have e : a = 215 := by omega
                  subst e
                  exact ax_gd215
            · by_cases c218 : a < 218
              · by_cases c217 : a < 217
                · have e : a = 216 := by omega
                  subst e
                  exact ax_gd216
                · have e : a = 217 := by omega
                  subst e
                  exact ax_gd217
              · by_cases c219 : a < 219
                · have e : a = 218 := by omega
                  subst e
                  exact ax_gd218
                · by_cases c220 : a < 220
                  · have e : a = 219 := by omega
                    subst e
                    exact ax_gd219
                  · have e : a = 220 := by omega
                    subst e
                    exact ax_gd220
        · by_cases c229 : a < 229
          · by_cases c225 : a < 225
            · by_cases c223 : a < 223
              · by_cases c222 : a < 222
                · have e : a = 221 := by omega
                  subst e
                  exact ax_gd221
                · have e : a = 222 := by omega
                  subst e
                  exact ax_gd222
              · by_cases c224 : a < 224
                · have e : a = 223 := by omega
                  subst e
                  exact ax_gd223
                · have e : a = 224 := by omega
                  subst e
                  exact ax_gd224
            · by_cases c227 : a < 227
              · by_cases c226 : a < 226
                · have e : a = 225 := by omega
                  subst e
                  exact ax_gd225
                · have e : a = 226 := by omega
                  subst e
                  exact ax_gd226
              · by_cases c228 : a < 228
                · have e : a = 227 := by omega
                  subst e
                  exact ax_gd227
                · have e : a = 228 := by omega
                  subst e
                  exact ax_gd228
          · by_cases c233 : a < 233
            · by_cases c231 : a < 231
              · by_cases c230 : a < 230
                · have e : a = 229 := by omega
                  subst e
                  exact ax_gd229
                · have e : a = 230 := by omega
                  subst e
                  exact ax_gd230
              · by_cases c232 : a < 232
                · have e : a = 231 := by omega
                  subst e
                  exact ax_gd231
                · have e : a = 232 := by omega
                  subst e
                  exact ax_gd232
            · by_cases c235 : a < 235
              · by_cases c234 : a < 234
                · have e : a = 233 := by omega
                  subst e
                  exact ax_gd233
                · have e : a = 234 := by omega
                  subst e
                  exact ax_gd234
              · by_cases c236 : a < 236
                · have e : a = 235 := by omega
                  subst e
                  exact ax_gd235
                · by_cases c237 : a < 237
                  · have e : a = 236 := by omega
                    subst e
                    exact ax_gd236
                  · have e : a = 237 := by omega
                    subst e
                    exact ax_gd237
      · by_cases c255 : a < 255
        · by_cases c246 : a < 246
          · by_cases c242 : a < 242
            · by_cases c240 : a < 240
              · by_cases c239 : a < 239
                · have e : a = 238 := by omega
                  subst e
                  exact ax_gd238
                · have e : a = 239 := by omega
                  subst e
                  exact ax_gd239
              · by_cases c241 : a < 241
                · have e : a = 240 := by omega
                  subst e
                  exact ax_gd240
                · have e : a = 241 := by omega
                  subst e
                  exact ax_gd241
            · by_cases c244 : a < 244
              · by_cases c243 : a < 243
                · have e : a = 242 := by omega
                  subst e
                  exact ax_gd242
                · have e : a = 243 := by omega
                  subst e
                  exact ax_gd243
              · by_cases c245 : a < 245
                · have e : a = 244 := by omega
                  subst e
                  exact ax_gd244
                · have e : a = 245 := by omega
                  subst e
                  exact ax_gd245
          · by_cases c250 : a < 250
            · by_cases c248 : a < 248
              · by_cases c247 : a < 247
                · have e : a = 246 := by omega
                  subst e
                  exact ax_gd246
                · have e : a = 247 := by omega
                  subst e
                  exact ax_gd247
              · by_cases c249 : a < 249
                · have e : a = 248 := by omega
                  subst e
                  exact ax_gd248
                · have e : a = 249 := by omega
                  subst e
                  exact ax_gd249
            · by_cases c252 : a < 252
              · by_cases c251 : a < 251
                · have e : a = 250 := by omega
                  subst e
                  exact ax_gd250
                · have e : a = 251 := by omega
                  subst e
                  exact ax_gd251
              · by_cases c253 : a < 253
                · have e : a = 252 := by omega
                  subst e
                  exact ax_gd252
                · by_cases c254 : a < 254
                  · have e : a = 253 := by omega
                    subst e
                    exact ax_gd253
                  · have e : a = 254 := by omega
                    subst e
                    exact ax_gd254
        · by_cases c263 : a < 263
          · by_cases c259 : a < 259
            · by_cases c257 : a < 257
              · by_cases c256 : a < 256
                · have e : a = 255 := by omega
                  subst e
                  exact ax_gd255
                · have e : a = 256 := by omega
                  subst e
                  exact ax_gd256
              · by_cases c258 : a < 258
                · have e : a = 257 := by omega
                  subst e
                  exact ax_gd257
                · have e : a = 258 := by omega
                  subst e
                  exact ax_gd258
            · by_cases c261 : a < 261
              · by_cases c260 : a < 260
                · have e : a = 259 := by omega
                  subst e
                  exact ax_gd259
                · have e : a = 260 := by omega
                  subst e
                  exact ax_gd260
              · by_cases c262 : a < 262
                · have e : a = 261 := by omega
                  subst e
                  exact ax_gd261
                · have e : a = 262 := by omega
                  subst e
                  exact ax_gd262
          · by_cases c267 : a < 267
            · by_cases c265 : a < 265
              · by_cases c264 : a < 264
                · have e : a = 263 := by omega
                  subst e
                  exact ax_gd263
                · have e : a = 264 := by omega
                  subst e
                  exact ax_gd264
              · by_cases c266 : a < 266
                · have e : a = 265 := by omega
                  subst e
                  exact ax_gd265
                · have e : a = 266 := by omega
                  subst e
                  exact ax_gd266
            · by_cases c269 : a < 269
              · by_cases c268 : a < 268
                · have e : a = 267 := by omega
                  subst e
                  exact ax_gd267
                · have e : a = 268 := by omega
                  subst e
                  exact ax_gd268
              · by_cases c270 : a < 270
                · have e : a = 269 := by omega
                  subst e
                  exact ax_gd269
                · by_cases c271 : a < 271
                  · have e : a = 270 := by omega
                    subst e
                    exact ax_gd270
                  · have e : a = 271 := by omega
                    subst e
                    exact ax_gd271
section AXZ
variable {l : Launch} {G : ax_G}
theorem ax_MTs {n : Nat} (hn : n ≤ ax_N) : ax_MT ax_nest n ax_cl9 ax_nl ax_thl ax_cst (ax_sem n) ax_k ax_n ax_m ax_y ax_b ax_r :=
  ⟨ax_CLok, fun q hq => ⟨⟨_, ax_nlc q hq⟩, fun as d d' z => ax_sem_nst (ax_nsts q hq).1 (ax_nsts q hq).2 n as d d' z⟩, fun a h => ax_Mks a (by omega), fun a h => ax_Sts a (by omega), fun a h => ax_Ins a (by omega), ax_sys, ax_ths, ax_csts⟩
/-- every method does what its run says; String's look at an index is still owed -/
theorem ax_all (hst : l.stackTraces = false) (hj0 : ∀ as d d' res, ax_jchk as d = some (d', res) → ax_CT ax_ldc ax_nest ax_thr l G (ax_y 0) (Cond.code (ax_y 0) (ax_b 0) (ax_m 0) (ax_r 0) :: ax_gw) (ax_f 0) (ax_l 0) as d (d', ax_eo res, res)) :
    ∀ n, n ≤ ax_N → ax_OK ax_ldc ax_nest ax_thr l G n (ax_sem n) ax_f ax_l ax_m ax_y ax_b ax_r := by
  intro n
  induction n with
  | zero => intro _ a ha; omega
  | succ n ih =>
    intro hn a ha as d d' res h
    have ih := ih (by omega)
    rw [ax_sem_succ] at h
    by_cases e : a = n
    · subst e
      rw [Nat.beq_refl] at h
      have h : ax_one a (ax_sem a) as d = some (d', res) := h
      unfold ax_one at h
      by_cases e0 : a = 0
      · subst e0
        exact hj0 as d d' res h
      · rw [ax_beq_ne e0] at h
        have h2 := (ax_flt_some h).1
        have h3 := ax_drop_some h2
        obtain ⟨h4, h5⟩ := ax_c1 h3
        obtain ⟨f, h5⟩ := ax_lim_run h5
        have hr0 := List.all_eq_true.mp ax_rtc a (List.mem_range.mpr (by omega))
        have hr := ax_an (((Bool.or_eq_true _ _).mp hr0).resolve_left (by rw [ax_beq_ne e0]; exact Bool.false_ne_true))
        have hN : ax_N ≤ 998 := by decide
        exact ax_met hr.2 rfl (ax_RTs a hr.1) ax_stab hst ax_FLok (ax_MTs (by omega)) ih (by omega) (ax_gds a (by omega) (by omega)) (Nat.le_of_ble_eq_true h4) h5
    · rw [ax_beq_ne e] at h
      exact ih a (by omega) as d d' res h
end AXZ
