/-! rows: reading and writing, written numbers -/
abbrev Row : Type := Nat → Int32
def b2i (b : Bool) : Int32 := cond b 1 0
theorem i1_0 : ((1 : Int32) = 0) = False := eq_false (by decide)
theorem b2i_t : b2i true = 1 := rfl
theorem b2i_f : b2i false = 0 := rfl
theorem b2i_0 (b : Bool) : (b2i b = 0) = (b = false) := by cases b <;> simp [b2i]
theorem b2i_1 (b : Bool) : (b2i b = 1) = (b = true) := by cases b <;> simp [b2i]
theorem b2i_01 (b : Bool) : (b2i b = 0 ∨ b2i b = 1) = True := by cases b <;> simp [b2i]
theorem b2i_of {P : Prop} [Decidable P] {x : Int32} (h1 : P → x = 1) (h0 : ¬ P → x = 0) : x = b2i (decide P) := by
  by_cases h : P
  · simp [h1 h, h, b2i]
  · simp [h0 h, h, b2i]
section KK
variable {d : ax_D} {E : Nat} {KX : Nat → ax_D → Prop}
theorem kV_r {K : ax_D → Prop} : kV K KX d (Sum.inl none) = K d := rfl
theorem kV_x {K : ax_D → Prop} : kV K KX d (Sum.inr E) = KX E d := rfl
theorem kI_r {K : Int32 → ax_D → Prop} {x : Int32} : kI K KX d (Sum.inl (some (Sum.inl x))) = K x d := rfl
theorem kI_x {K : Int32 → ax_D → Prop} : kI K KX d (Sum.inr E) = KX E d := rfl
theorem kR_r {K : Nat → ax_D → Prop} {i : Nat} : kR K KX d (Sum.inl (some (ax_vR 13 i 0))) = K i d := rfl
theorem kF_r {K : UInt32 → ax_D → Prop} {x : UInt32} : kF K KX d (Sum.inl (some (Sum.inr (Sum.inr (Sum.inl x))))) = K x d := rfl
theorem kD_r {K : UInt64 → ax_D → Prop} {x : UInt64} : kD K KX d (Sum.inl (some (Sum.inr (Sum.inr (Sum.inr (Sum.inl x)))))) = K x d := rfl
end KK
theorem ct_ty (b : Bool) : (b2i b = 0 ∨ b2i b = 1) := by cases b <;> simp [b2i]
/-- counting loops -/
theorem lp_up (W : Nat → Prop) (T : Nat) (hx : W T) (hs : ∀ i, i < T → W (i + 1) → W i) : ∀ i, i ≤ T → W i := by
  have key : ∀ k i, i + k = T → W i := by
    intro k
    induction k with
    | zero => intro i h; rw [show i = T by omega]; exact hx
    | succ k ih => intro i h; exact hs i (by omega) (ih (i + 1) (by omega))
  exact fun i h => key (T - i) i (by omega)
theorem ax_in_nI {n N : Nat} (h : n < N) (hN : N ≤ 2 ^ 31) : ax_in (nI n) N = true := by
  have h1 : ¬ nI n < 0 := nI_pos (by omega)
  unfold ax_in
  rw [nI_clamp (by omega)]
  simp [h1, h]
theorem ax_in_iff {n : Nat} (N : Nat) (h : n < 2 ^ 31) : ax_in (nI n) N = decide (n < N) := by
  have h1 : ¬ nI n < 0 := nI_pos h
  unfold ax_in
  rw [nI_clamp h]
  simp [h1]
theorem le_no {a b : Nat} (h : a < b) (hb : b < 2 ^ 31) : (nI b ≤ nI a) = False := eq_false (nI_ge h hb)
theorem le_yes {a b : Nat} (h : a ≤ b) (hb : b < 2 ^ 31) : (nI a ≤ nI b) = True := eq_true (nI_le h hb)
theorem nI_k (n : Nat) : nI n = Int32.ofNat n := rfl
theorem nI_neg {n : Nat} (h : n < 2 ^ 31) : (nI n = -1) = False := eq_false (fun e => by
  have h2 := nI_toInt h
  rw [e] at h2
  have : (-1 : Int32).toInt = -1 := by decide
  omega)
theorem nI_neg' {n : Nat} (h : n < 2 ^ 31) : (-1 = nI n) = False := eq_false (fun e => (nI_neg h).mp e.symm)
theorem upd_s (f : Nat → Int32) (k : Nat) (x : Int32) : upd f k x k = x := by simp [upd]
theorem upd_n {k j : Nat} (h : j ≠ k) (f : Nat → Int32) (x : Int32) : upd f k x j = f j := by simp [upd, h]
theorem upd_u (f : Nat → Int32) (k : Nat) (x y : Int32) : upd (upd f k x) k y = upd f k y := by
  funext j
  by_cases h : j = k <;> simp [upd, h]
theorem upd_c {k j : Nat} (h : k ≠ j) (f : Nat → Int32) (x y : Int32) : upd (upd f k x) j y = upd (upd f j y) k x := by
  funext z
  by_cases h1 : z = k
  · subst h1
    simp [upd, h]
  · by_cases h2 : z = j
    · subst h2
      simp [upd, h1]
    · simp [upd, h1, h2]
theorem upd_id (f : Nat → Int32) (k : Nat) : upd f k (f k) = f := by
  funext j
  by_cases h : j = k <;> simp [upd, h]
/-- the worlds' rows -/
theorem row_s (d : ax_D) (k i j : Nat) (f : Row) : ax_row (ax_set d k i j f) k i j = f := ax_row_same d k i j f
theorem row_j {j j' : Nat} (h : j' ≠ j) (d : ax_D) (k i : Nat) (f : Row) : ax_row (ax_set d k i j f) k i j' = ax_row d k i j' := by
  unfold ax_row ax_set ax_setC ax_setM
  have hj : Nat.beq j' j = false := ax_beq_ne h
  cases hk : Nat.beq k 9 <;> simp [hj]
theorem row_k {k k' : Nat} (h : k' ≠ k) (d : ax_D) (i i' j j' : Nat) (f : Row) : ax_row (ax_set d k i j f) k' i' j' = ax_row d k' i' j' := by
  unfold ax_row ax_set ax_setC ax_setM
  cases hk : Nat.beq k 9 with
  | true =>
    have e : k = 9 := Nat.eq_of_beq_eq_true hk
    have hk' : Nat.beq k' 9 = false := ax_beq_ne (fun e' => h (by omega))
    rw [hk']
    rfl
  | false =>
    have hkk : Nat.beq k' k = false := ax_beq_ne h
    cases hk' : Nat.beq k' 9 <;> simp [hkk]
theorem row_i {k i i' : Nat} (h : i' ≠ i) (h9 : k ≠ 9) (d : ax_D) (k' j j' : Nat) (f : Row) (hk' : k' ≠ 9) : ax_row (ax_set d k i j f) k' i' j' = ax_row d k' i' j' := by
  unfold ax_row ax_set ax_setC ax_setM
  have h1 : Nat.beq k 9 = false := ax_beq_ne h9
  have h2 : Nat.beq k' 9 = false := ax_beq_ne hk'
  have h3 : Nat.beq i' i = false := ax_beq_ne h
  rw [h1, h2]
  simp [h3]
theorem set_set (d : ax_D) (k i j : Nat) (f g : Row) : ax_set (ax_set d k i j f) k i j g = ax_set d k i j g := by
  unfold ax_set
  cases Nat.beq k 9 with
  | true =>
    show (_, ax_setM (ax_setM d.2.1 j f) j g, _) = (_, ax_setM d.2.1 j g, _)
    have : ax_setM (ax_setM d.2.1 j f) j g = ax_setM d.2.1 j g := by
      funext z
      unfold ax_setM
      cases Nat.beq z j <;> rfl
    rw [this]
    rfl
  | false =>
    show (ax_setC (ax_setC d.1 k i j f) k i j g, _) = (ax_setC d.1 k i j g, _)
    have : ax_setC (ax_setC d.1 k i j f) k i j g = ax_setC d.1 k i j g := by
      funext a b c
      unfold ax_setC
      cases (Nat.beq a k && (Nat.beq b i && Nat.beq c j)) <;> rfl
    rw [this]
    rfl
/-- the check's rows: mr d j is its row j, mv d k its number k -/
def mr (d : ax_D) (j : Nat) : Row := ax_row d 9 0 j
def mv (d : ax_D) (k : Nat) : Int32 := ax_row d 9 0 0 k
def sR (d : ax_D) (j : Nat) (f : Row) : ax_D := ax_set d 9 0 j f
def sV (d : ax_D) (k : Nat) (x : Int32) : ax_D := ax_set d 9 0 0 (upd (ax_row d 9 0 0) k x)
theorem f_mv (d : ax_D) (k : Nat) : ax_row d 9 0 0 k = mv d k := rfl
theorem f_mr (d : ax_D) (j : Nat) : ax_row d 9 0 j = mr d j := rfl
theorem f_sV (d : ax_D) (k : Nat) (x : Int32) : ax_set d 9 0 0 (upd (ax_row d 9 0 0) k x) = sV d k x := rfl
theorem f_sV' (d : ax_D) (k : Nat) (x : Int32) : ax_set d 9 0 0 (upd (mr d 0) k x) = sV d k x := rfl
theorem f_sR (d : ax_D) (j : Nat) (f : Row) : ax_set d 9 0 j f = sR d j f := rfl
theorem mr_sR (d : ax_D) (j : Nat) (f : Row) : mr (sR d j f) j = f := row_s d 9 0 j f
theorem mr_sRn {j j' : Nat} (h : j' ≠ j) (d : ax_D) (f : Row) : mr (sR d j f) j' = mr d j' := row_j h d 9 0 f
theorem mr_sV {j : Nat} (h : j ≠ 0) (d : ax_D) (k : Nat) (x : Int32) : mr (sV d k x) j = mr d j := row_j h d 9 0 _
theorem mv_sV (d : ax_D) (k : Nat) (x : Int32) : mv (sV d k x) k = x := by unfold mv sV; rw [row_s, upd_s]
theorem mv_sVn {k k' : Nat} (h : k' ≠ k) (d : ax_D) (x : Int32) : mv (sV d k x) k' = mv d k' := by unfold mv sV; rw [row_s, upd_n h]
theorem mv_sR {j : Nat} (h : j ≠ 0) (d : ax_D) (k : Nat) (f : Row) : mv (sR d j f) k = mv d k := by unfold mv sR; rw [row_j (fun e => h e.symm)]
theorem sR_sR (d : ax_D) (j : Nat) (f g : Row) : sR (sR d j f) j g = sR d j g := set_set d 9 0 j f g
theorem sV_sV (d : ax_D) (k : Nat) (x y : Int32) : sV (sV d k x) k y = sV d k y := by unfold sV; rw [row_s, set_set, upd_u]
theorem sM_c {j j' : Nat} (h : j ≠ j') (d : ax_D) (f g : Row) : sR (sR d j f) j' g = sR (sR d j' g) j f := by
  unfold sR ax_set
  show (d.1, ax_setM (ax_setM d.2.1 j f) j' g, d.2.2) = (d.1, ax_setM (ax_setM d.2.1 j' g) j f, d.2.2)
  have : ax_setM (ax_setM d.2.1 j f) j' g = ax_setM (ax_setM d.2.1 j' g) j f := by
    funext z
    unfold ax_setM
    by_cases h1 : z = j
    · subst h1
      rw [ax_beq_ne h, Nat.beq_refl]
      rfl
    · rw [ax_beq_ne h1]
      rfl
  rw [this]
theorem sR_sV {j : Nat} (h : j ≠ 0) (d : ax_D) (k : Nat) (x : Int32) (f : Row) : sR (sV d k x) j f = sV (sR d j f) k x := by
  show sR (sR d 0 (upd (ax_row d 9 0 0) k x)) j f = sR (sR d j f) 0 (upd (ax_row (sR d j f) 9 0 0) k x)
  have : ax_row (sR d j f) 9 0 0 = ax_row d 9 0 0 := row_j (fun e => h e.symm) d 9 0 f
  rw [this, sM_c (fun e => h e.symm)]
theorem sV_c {k k' : Nat} (h : k ≠ k') (d : ax_D) (x y : Int32) : sV (sV d k x) k' y = sV (sV d k' y) k x := by
  unfold sV
  rw [row_s, row_s, set_set, set_set, upd_c h]
theorem sV_id (d : ax_D) (k : Nat) {x : Int32} (h : mv d k = x) : sV d k x = d := by
  subst h
  show (d.1, ax_setM d.2.1 0 (upd (d.2.1 0) k (d.2.1 0 k)), d.2.2) = d
  have : ax_setM d.2.1 0 (upd (d.2.1 0) k (d.2.1 0 k)) = d.2.1 := by
    funext z
    unfold ax_setM
    rw [upd_id]
    by_cases h : z = 0
    · subst h
      rfl
    · rw [ax_beq_ne h]
      rfl
  rw [this]
theorem sR_id (d : ax_D) (j : Nat) {f : Row} (h : mr d j = f) : sR d j f = d := by
  subst h
  show (d.1, ax_setM d.2.1 j (d.2.1 j), d.2.2) = d
  have : ax_setM d.2.1 j (d.2.1 j) = d.2.1 := by
    funext z
    unfold ax_setM
    by_cases h : z = j
    · subst h
      rw [Nat.beq_refl]
      rfl
    · rw [ax_beq_ne h]
      rfl
  rw [this]

theorem ad_111 (i : Nat) : (111 : Int32) + nI i = nI (111 + i) := nI_add 111 i
theorem in_111 {i : Nat} (h : i < 16) : ax_in ((111 : Int32) + nI i) 369 = true := by rw [ad_111]; exact ax_in_nI (by omega) (by decide)
theorem cl_111 {i : Nat} (h : i < 16) : ((111 : Int32) + nI i).toNatClampNeg = 111 + i := by rw [ad_111]; exact nI_clamp (by omega)
theorem ad_127 (i : Nat) : (127 : Int32) + nI i = nI (127 + i) := nI_add 127 i
theorem in_127 {i : Nat} (h : i < 16) : ax_in ((127 : Int32) + nI i) 369 = true := by rw [ad_127]; exact ax_in_nI (by omega) (by decide)
theorem cl_127 {i : Nat} (h : i < 16) : ((127 : Int32) + nI i).toNatClampNeg = 127 + i := by rw [ad_127]; exact nI_clamp (by omega)
theorem ad_143 (i : Nat) : (143 : Int32) + nI i = nI (143 + i) := nI_add 143 i
theorem in_143 {i : Nat} (h : i < 16) : ax_in ((143 : Int32) + nI i) 369 = true := by rw [ad_143]; exact ax_in_nI (by omega) (by decide)
theorem cl_143 {i : Nat} (h : i < 16) : ((143 : Int32) + nI i).toNatClampNeg = 143 + i := by rw [ad_143]; exact nI_clamp (by omega)
theorem ad_159 (i : Nat) : (159 : Int32) + nI i = nI (159 + i) := nI_add 159 i
theorem in_159 {i : Nat} (h : i < 16) : ax_in ((159 : Int32) + nI i) 369 = true := by rw [ad_159]; exact ax_in_nI (by omega) (by decide)
theorem cl_159 {i : Nat} (h : i < 16) : ((159 : Int32) + nI i).toNatClampNeg = 159 + i := by rw [ad_159]; exact nI_clamp (by omega)
theorem ad_175 (i : Nat) : (175 : Int32) + nI i = nI (175 + i) := nI_add 175 i
theorem in_175 {i : Nat} (h : i < 16) : ax_in ((175 : Int32) + nI i) 369 = true := by rw [ad_175]; exact ax_in_nI (by omega) (by decide)
theorem cl_175 {i : Nat} (h : i < 16) : ((175 : Int32) + nI i).toNatClampNeg = 175 + i := by rw [ad_175]; exact nI_clamp (by omega)
theorem ad_191 (i : Nat) : (191 : Int32) + nI i = nI (191 + i) := nI_add 191 i
theorem in_191 {i : Nat} (h : i < 16) : ax_in ((191 : Int32) + nI i) 369 = true := by rw [ad_191]; exact ax_in_nI (by omega) (by decide)
theorem cl_191 {i : Nat} (h : i < 16) : ((191 : Int32) + nI i).toNatClampNeg = 191 + i := by rw [ad_191]; exact nI_clamp (by omega)
theorem ad_207 (i : Nat) : (207 : Int32) + nI i = nI (207 + i) := nI_add 207 i
theorem in_207 {i : Nat} (h : i < 16) : ax_in ((207 : Int32) + nI i) 369 = true := by rw [ad_207]; exact ax_in_nI (by omega) (by decide)
theorem cl_207 {i : Nat} (h : i < 16) : ((207 : Int32) + nI i).toNatClampNeg = 207 + i := by rw [ad_207]; exact nI_clamp (by omega)
theorem ad_223 (i : Nat) : (223 : Int32) + nI i = nI (223 + i) := nI_add 223 i
theorem in_223 {i : Nat} (h : i < 16) : ax_in ((223 : Int32) + nI i) 369 = true := by rw [ad_223]; exact ax_in_nI (by omega) (by decide)
theorem cl_223 {i : Nat} (h : i < 16) : ((223 : Int32) + nI i).toNatClampNeg = 223 + i := by rw [ad_223]; exact nI_clamp (by omega)
theorem ad_239 (i : Nat) : (239 : Int32) + nI i = nI (239 + i) := nI_add 239 i
theorem in_239 {i : Nat} (h : i < 16) : ax_in ((239 : Int32) + nI i) 369 = true := by rw [ad_239]; exact ax_in_nI (by omega) (by decide)
theorem cl_239 {i : Nat} (h : i < 16) : ((239 : Int32) + nI i).toNatClampNeg = 239 + i := by rw [ad_239]; exact nI_clamp (by omega)
theorem ad_255 (i : Nat) : (255 : Int32) + nI i = nI (255 + i) := nI_add 255 i
theorem in_255 {i : Nat} (h : i < 16) : ax_in ((255 : Int32) + nI i) 369 = true := by rw [ad_255]; exact ax_in_nI (by omega) (by decide)
theorem cl_255 {i : Nat} (h : i < 16) : ((255 : Int32) + nI i).toNatClampNeg = 255 + i := by rw [ad_255]; exact nI_clamp (by omega)
theorem ad_271 (i : Nat) : (271 : Int32) + nI i = nI (271 + i) := nI_add 271 i
theorem in_271 {i : Nat} (h : i < 16) : ax_in ((271 : Int32) + nI i) 369 = true := by rw [ad_271]; exact ax_in_nI (by omega) (by decide)
theorem cl_271 {i : Nat} (h : i < 16) : ((271 : Int32) + nI i).toNatClampNeg = 271 + i := by rw [ad_271]; exact nI_clamp (by omega)
theorem ad_287 (i : Nat) : (287 : Int32) + nI i = nI (287 + i) := nI_add 287 i
theorem in_287 {i : Nat} (h : i < 6) : ax_in ((287 : Int32) + nI i) 369 = true := by rw [ad_287]; exact ax_in_nI (by omega) (by decide)
theorem cl_287 {i : Nat} (h : i < 6) : ((287 : Int32) + nI i).toNatClampNeg = 287 + i := by rw [ad_287]; exact nI_clamp (by omega)
theorem ad_293 (i : Nat) : (293 : Int32) + nI i = nI (293 + i) := nI_add 293 i
theorem in_293 {i : Nat} (h : i < 6) : ax_in ((293 : Int32) + nI i) 369 = true := by rw [ad_293]; exact ax_in_nI (by omega) (by decide)
theorem cl_293 {i : Nat} (h : i < 6) : ((293 : Int32) + nI i).toNatClampNeg = 293 + i := by rw [ad_293]; exact nI_clamp (by omega)
theorem ad_299 (i : Nat) : (299 : Int32) + nI i = nI (299 + i) := nI_add 299 i
theorem in_299 {i : Nat} (h : i < 6) : ax_in ((299 : Int32) + nI i) 369 = true := by rw [ad_299]; exact ax_in_nI (by omega) (by decide)
theorem cl_299 {i : Nat} (h : i < 6) : ((299 : Int32) + nI i).toNatClampNeg = 299 + i := by rw [ad_299]; exact nI_clamp (by omega)
theorem ad_305 (i : Nat) : (305 : Int32) + nI i = nI (305 + i) := nI_add 305 i
theorem in_305 {i : Nat} (h : i < 6) : ax_in ((305 : Int32) + nI i) 369 = true := by rw [ad_305]; exact ax_in_nI (by omega) (by decide)
theorem cl_305 {i : Nat} (h : i < 6) : ((305 : Int32) + nI i).toNatClampNeg = 305 + i := by rw [ad_305]; exact nI_clamp (by omega)
theorem ad_311 (i : Nat) : (311 : Int32) + nI i = nI (311 + i) := nI_add 311 i
theorem in_311 {i : Nat} (h : i < 6) : ax_in ((311 : Int32) + nI i) 369 = true := by rw [ad_311]; exact ax_in_nI (by omega) (by decide)
theorem cl_311 {i : Nat} (h : i < 6) : ((311 : Int32) + nI i).toNatClampNeg = 311 + i := by rw [ad_311]; exact nI_clamp (by omega)
theorem ad_317 (i : Nat) : (317 : Int32) + nI i = nI (317 + i) := nI_add 317 i
theorem in_317 {i : Nat} (h : i < 6) : ax_in ((317 : Int32) + nI i) 369 = true := by rw [ad_317]; exact ax_in_nI (by omega) (by decide)
theorem cl_317 {i : Nat} (h : i < 6) : ((317 : Int32) + nI i).toNatClampNeg = 317 + i := by rw [ad_317]; exact nI_clamp (by omega)
theorem ad_323 (i : Nat) : (323 : Int32) + nI i = nI (323 + i) := nI_add 323 i
theorem in_323 {i : Nat} (h : i < 6) : ax_in ((323 : Int32) + nI i) 369 = true := by rw [ad_323]; exact ax_in_nI (by omega) (by decide)
theorem cl_323 {i : Nat} (h : i < 6) : ((323 : Int32) + nI i).toNatClampNeg = 323 + i := by rw [ad_323]; exact nI_clamp (by omega)
theorem ad_15 (i : Nat) : (15 : Int32) + nI i = nI (15 + i) := nI_add 15 i
theorem in_15 {i : Nat} (h : i < 48) : ax_in ((15 : Int32) + nI i) 369 = true := by rw [ad_15]; exact ax_in_nI (by omega) (by decide)
theorem cl_15 {i : Nat} (h : i < 48) : ((15 : Int32) + nI i).toNatClampNeg = 15 + i := by rw [ad_15]; exact nI_clamp (by omega)
theorem ad_63 (i : Nat) : (63 : Int32) + nI i = nI (63 + i) := nI_add 63 i
theorem in_63 {i : Nat} (h : i < 48) : ax_in ((63 : Int32) + nI i) 369 = true := by rw [ad_63]; exact ax_in_nI (by omega) (by decide)
theorem cl_63 {i : Nat} (h : i < 48) : ((63 : Int32) + nI i).toNatClampNeg = 63 + i := by rw [ad_63]; exact nI_clamp (by omega)
theorem ad_7 (i : Nat) : (7 : Int32) + nI i = nI (7 + i) := nI_add 7 i
theorem in_7 {i : Nat} (h : i < 8) : ax_in ((7 : Int32) + nI i) 369 = true := by rw [ad_7]; exact ax_in_nI (by omega) (by decide)
theorem cl_7 {i : Nat} (h : i < 8) : ((7 : Int32) + nI i).toNatClampNeg = 7 + i := by rw [ad_7]; exact nI_clamp (by omega)
theorem ad_329 (i : Nat) : (329 : Int32) + nI i = nI (329 + i) := nI_add 329 i
theorem in_329 {i : Nat} (h : i < 40) : ax_in ((329 : Int32) + nI i) 369 = true := by rw [ad_329]; exact ax_in_nI (by omega) (by decide)
theorem cl_329 {i : Nat} (h : i < 40) : ((329 : Int32) + nI i).toNatClampNeg = 329 + i := by rw [ad_329]; exact nI_clamp (by omega)
