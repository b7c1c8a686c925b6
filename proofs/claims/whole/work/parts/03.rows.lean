theorem InL0 : InL 0 := ⟨by omega, by omega⟩
theorem ofL_inj {x y : Int} (hx : InL x) (hy : InL y) : Int64.ofInt x = Int64.ofInt y ↔ x = y := by
  constructor
  · intro h
    have := congrArg Int64.toInt h
    rwa [ofL_toInt hx, ofL_toInt hy] at this
  · intro h; rw [h]
theorem ofL_lt {x y : Int} (hx : InL x) (hy : InL y) : Int64.ofInt x < Int64.ofInt y ↔ x < y := by
  rw [Int64.lt_iff_toInt_lt, ofL_toInt hx, ofL_toInt hy]
theorem tdiv_in {a b lo : Int} (hlo : lo ≤ 0) (h1 : lo ≤ a) (h2 : a < -lo) (hb : 0 < b) : lo ≤ a.tdiv b ∧ a.tdiv b < -lo := by
  rcases Int.le_total 0 a with h0 | h0
  · rw [Int.tdiv_eq_ediv_of_nonneg h0]
    have h3 := Int.ediv_nonneg h0 (Int.le_of_lt hb)
    have h4 := Int.ediv_le_self b h0
    omega
  · have e : a.tdiv b = -((-a).tdiv b) := by rw [Int.neg_tdiv, Int.neg_neg]
    rw [e, Int.tdiv_eq_ediv_of_nonneg (by omega)]
    have h3 := Int.ediv_nonneg (a := -a) (by omega) (Int.le_of_lt hb)
    have h4 := Int.ediv_le_self b (a := -a) (by omega)
    omega
theorem divI {a b : Int} (ha : InR a) (hb : InR b) (h : 0 < b) : Int32.ofInt (a.tdiv b) = Int32.ofInt a / Int32.ofInt b := by
  rw [← Int32.toInt_inj, Int32.toInt_div_of_ne_right _ _ (fun q => absurd ((ofI_inj hb (y := -1) ⟨by omega, by omega⟩).mp q) (by omega)), ofI_toInt ha, ofI_toInt hb]
  have h1 := tdiv_in (lo := -2147483648) (by omega) ha.1 (by have := ha.2; omega) h
  exact ofI_toInt ⟨h1.1, by have := h1.2; omega⟩
theorem remI {a b : Int} (ha : InR a) (hb : InR b) (h : 0 < b) : Int32.ofInt (a.tmod b) = Int32.ofInt a - Int32.ofInt a / Int32.ofInt b * Int32.ofInt b := by
  rw [← divI ha hb h, ← Int32.ofInt_mul, ← Int32.ofInt_sub, Int.tmod_def, Int.mul_comm b]
theorem divL {a b : Int} (ha : InL a) (hb : InL b) (h : 0 < b) : Int64.ofInt (a.tdiv b) = Int64.ofInt a / Int64.ofInt b := by
  rw [← Int64.toInt_inj, Int64.toInt_div_of_ne_right _ _ (fun q => absurd ((ofL_inj hb (y := -1) ⟨by omega, by omega⟩).mp q) (by omega)), ofL_toInt ha, ofL_toInt hb]
  have h1 := tdiv_in (lo := -9223372036854775808) (by omega) ha.1 (by have := ha.2; omega) h
  exact ofL_toInt ⟨h1.1, by have := h1.2; omega⟩
theorem remL {a b : Int} (ha : InL a) (hb : InL b) (h : 0 < b) : Int64.ofInt (a.tmod b) = Int64.ofInt a - Int64.ofInt a / Int64.ofInt b * Int64.ofInt b := by
  rw [← divL ha hb h, ← Int64.ofInt_mul, ← Int64.ofInt_sub, Int.tmod_def, Int.mul_comm b]
theorem i2c_id {a : Int} (ha : 0 ≤ a ∧ a < 65536) : ((Int32.ofInt a).toUInt32 % 65536).toInt32 = Int32.ofInt a := by
  obtain ⟨n, rfl⟩ := Int.eq_ofNat_of_zero_le ha.1
  have hn : n < 65536 := by omega
  have e : (Int32.ofInt (n : Int)).toUInt32 = UInt32.ofNat n := by
    rw [Int32.ofInt_eq_ofNat]; rfl
  rw [e]
  have e2 : UInt32.ofNat n % 65536 = UInt32.ofNat n := by
    apply UInt32.toNat_inj.mp
    simp only [UInt32.toNat_mod, UInt32.toNat_ofNat']
    have : n % 2 ^ 32 = n := Nat.mod_eq_of_lt (by omega)
    rw [this]
    exact Nat.mod_eq_of_lt hn
  rw [e2, Int32.ofInt_eq_ofNat]; rfl
theorem cmpL_cases (x y : Int64) : (x < y ∧ lg_cmp x y = -1) ∨ (x = y ∧ lg_cmp x y = 0) ∨ (y < x ∧ lg_cmp x y = 1) := by
  unfold lg_cmp
  simp only [gt_iff_lt, Int64.lt_iff_toInt_lt, ← Int64.toInt_inj]
  rcases Int.lt_trichotomy x.toInt y.toInt with h | h | h
  · rw [if_neg (by omega), if_neg (by omega)]; exact Or.inl ⟨h, rfl⟩
  · rw [if_neg (by omega), if_pos h]; exact Or.inr (Or.inl ⟨h, rfl⟩)
  · rw [if_pos h]; exact Or.inr (Or.inr ⟨h, rfl⟩)
theorem lcmp_eq {a b : Int} (ha : InL a) (hb : InL b) : lg_cmp (Int64.ofInt a) (Int64.ofInt b) = 0 ↔ a = b := by
  rcases cmpL_cases (Int64.ofInt a) (Int64.ofInt b) with ⟨h, e⟩ | ⟨h, e⟩ | ⟨h, e⟩ <;> rw [e]
  · rw [ofL_lt ha hb] at h
    constructor
    · first | (intro q; exact absurd q (by decide)) | (intro q; omega)
    · first | (intro q; decide) | (intro q; omega)
  · rw [ofL_inj ha hb] at h
    constructor
    · first | (intro q; exact absurd q (by decide)) | (intro q; omega)
    · first | (intro q; decide) | (intro q; omega)
  · rw [ofL_lt hb ha] at h
    constructor
    · first | (intro q; exact absurd q (by decide)) | (intro q; omega)
    · first | (intro q; decide) | (intro q; omega)
theorem lcmp_ne {a b : Int} (ha : InL a) (hb : InL b) : ¬ lg_cmp (Int64.ofInt a) (Int64.ofInt b) = 0 ↔ a ≠ b := by
  rcases cmpL_cases (Int64.ofInt a) (Int64.ofInt b) with ⟨h, e⟩ | ⟨h, e⟩ | ⟨h, e⟩ <;> rw [e]
  · rw [ofL_lt ha hb] at h
    constructor
    · first | (intro q; exact absurd q (by decide)) | (intro q; omega)
    · first | (intro q; decide) | (intro q; omega)
  · rw [ofL_inj ha hb] at h
    constructor
    · first | (intro q; exact absurd q (by decide)) | (intro q; omega)
    · first | (intro q; decide) | (intro q; omega)
  · rw [ofL_lt hb ha] at h
    constructor
    · first | (intro q; exact absurd q (by decide)) | (intro q; omega)
    · first | (intro q; decide) | (intro q; omega)
theorem lcmp_lt {a b : Int} (ha : InL a) (hb : InL b) : lg_cmp (Int64.ofInt a) (Int64.ofInt b) < 0 ↔ a < b := by
  rcases cmpL_cases (Int64.ofInt a) (Int64.ofInt b) with ⟨h, e⟩ | ⟨h, e⟩ | ⟨h, e⟩ <;> rw [e]
  · rw [ofL_lt ha hb] at h
    constructor
    · first | (intro q; exact absurd q (by decide)) | (intro q; omega)
    · first | (intro q; decide) | (intro q; omega)
  · rw [ofL_inj ha hb] at h
    constructor
    · first | (intro q; exact absurd q (by decide)) | (intro q; omega)
    · first | (intro q; decide) | (intro q; omega)
  · rw [ofL_lt hb ha] at h
    constructor
    · first | (intro q; exact absurd q (by decide)) | (intro q; omega)
    · first | (intro q; decide) | (intro q; omega)
theorem lcmp_ge {a b : Int} (ha : InL a) (hb : InL b) : 0 ≤ lg_cmp (Int64.ofInt a) (Int64.ofInt b) ↔ b ≤ a := by
  rcases cmpL_cases (Int64.ofInt a) (Int64.ofInt b) with ⟨h, e⟩ | ⟨h, e⟩ | ⟨h, e⟩ <;> rw [e]
  · rw [ofL_lt ha hb] at h
    constructor
    · first | (intro q; exact absurd q (by decide)) | (intro q; omega)
    · first | (intro q; decide) | (intro q; omega)
  · rw [ofL_inj ha hb] at h
    constructor
    · first | (intro q; exact absurd q (by decide)) | (intro q; omega)
    · first | (intro q; decide) | (intro q; omega)
  · rw [ofL_lt hb ha] at h
    constructor
    · first | (intro q; exact absurd q (by decide)) | (intro q; omega)
    · first | (intro q; decide) | (intro q; omega)
theorem lcmp_gt {a b : Int} (ha : InL a) (hb : InL b) : 0 < lg_cmp (Int64.ofInt a) (Int64.ofInt b) ↔ b < a := by
  rcases cmpL_cases (Int64.ofInt a) (Int64.ofInt b) with ⟨h, e⟩ | ⟨h, e⟩ | ⟨h, e⟩ <;> rw [e]
  · rw [ofL_lt ha hb] at h
    constructor
    · first | (intro q; exact absurd q (by decide)) | (intro q; omega)
    · first | (intro q; decide) | (intro q; omega)
  · rw [ofL_inj ha hb] at h
    constructor
    · first | (intro q; exact absurd q (by decide)) | (intro q; omega)
    · first | (intro q; decide) | (intro q; omega)
  · rw [ofL_lt hb ha] at h
    constructor
    · first | (intro q; exact absurd q (by decide)) | (intro q; omega)
    · first | (intro q; decide) | (intro q; omega)
theorem lcmp_le {a b : Int} (ha : InL a) (hb : InL b) : lg_cmp (Int64.ofInt a) (Int64.ofInt b) ≤ 0 ↔ a ≤ b := by
  rcases cmpL_cases (Int64.ofInt a) (Int64.ofInt b) with ⟨h, e⟩ | ⟨h, e⟩ | ⟨h, e⟩ <;> rw [e]
  · rw [ofL_lt ha hb] at h
    constructor
    · first | (intro q; exact absurd q (by decide)) | (intro q; omega)
    · first | (intro q; decide) | (intro q; omega)
  · rw [ofL_inj ha hb] at h
    constructor
    · first | (intro q; exact absurd q (by decide)) | (intro q; omega)
    · first | (intro q; decide) | (intro q; omega)
  · rw [ofL_lt hb ha] at h
    constructor
    · first | (intro q; exact absurd q (by decide)) | (intro q; omega)
    · first | (intro q; decide) | (intro q; omega)
section RROWS
variable {d : Nat} {M : Mth} {z : Zt} {pc : Nat} {ls : List (Nat × AV)} {sk : List AV} {G : Mem} {Q : Int → Mem → Prop}
theorem r_iconst {n : Int} (hd : decode M.2.1 pc = .ok (.iconst n, 1)) (h : Rn d M z (pc + 1) ls ((0, n) :: sk) G Q) : Rn d M z pc ls sk G Q := by
  intro p l e s m args below meth c D E cA hc H locs lc hw hs hl
  exact lv_iconst hc.1 hc.2.1 hd rfl (h p l e s m args below meth c D E cA hc H locs lc hw hs hl)
theorem r_bipush {n : Int} (hd : decode M.2.1 pc = .ok (.bipush n, 2)) (hn : (Int8.ofInt n).toInt32 = Int32.ofInt n) (h : Rn d M z (pc + 2) ls ((0, n) :: sk) G Q) : Rn d M z pc ls sk G Q := by
  intro p l e s m args below meth c D E cA hc H locs lc hw hs hl
  exact lv_bipush hc.1 hc.2.1 hd hn (h p l e s m args below meth c D E cA hc H locs lc hw hs hl)
theorem r_sipush {n : Int} (hd : decode M.2.1 pc = .ok (.sipush n, 3)) (hn : (Int16.ofInt n).toInt32 = Int32.ofInt n) (h : Rn d M z (pc + 3) ls ((0, n) :: sk) G Q) : Rn d M z pc ls sk G Q := by
  intro p l e s m args below meth c D E cA hc H locs lc hw hs hl
  exact lv_sipush hc.1 hc.2.1 hd hn (h p l e s m args below meth c D E cA hc H locs lc hw hs hl)
theorem r_lconst {n : Fin 2} {x : Int} (hd : decode M.2.1 pc = .ok (.lconst n, 1)) (hn : Int64.ofNat (n : Nat) = Int64.ofInt x) (h : Rn d M z (pc + 1) ls ((1, x) :: sk) G Q) : Rn d M z pc ls sk G Q := by
  intro p l e s m args below meth c D E cA hc H locs lc hw hs hl
  exact lv_lconst hc.1 hc.2.1 hd hn (h p l e s m args below meth c D E cA hc H locs lc hw hs hl)
theorem r_ldc {idx : Nat} {x : Int} (hd : decode M.2.1 pc = .ok (.ldc idx, 2)) (hm : Cond.constant M.1.cls idx (Int32.ofInt x) ∈ lw_tbl.filter goodWord) (h : Rn d M z (pc + 2) ls ((0, x) :: sk) G Q) : Rn d M z pc ls sk G Q := by
  intro p l e s m args below meth c D E cA hc H locs lc hw hs hl
  exact lv_ldc hc.1 hc.2.1 hc.2.2.2.1 (hc.2.2.2.2.1 _ hm) hd (h p l e s m args below meth c D E cA hc H locs lc hw hs hl)
theorem r_ldcw {idx : Nat} {x : Int} (hd : decode M.2.1 pc = .ok (.ldc_w idx, 3)) (hm : Cond.constant M.1.cls idx (Int32.ofInt x) ∈ lw_tbl.filter goodWord) (h : Rn d M z (pc + 3) ls ((0, x) :: sk) G Q) : Rn d M z pc ls sk G Q := by
  intro p l e s m args below meth c D E cA hc H locs lc hw hs hl
  exact lv_ldcw hc.1 hc.2.1 hc.2.2.2.1 (hc.2.2.2.2.1 _ hm) hd (h p l e s m args below meth c D E cA hc H locs lc hw hs hl)
theorem r_ldc2 {idx : Nat} {x : Int} (hd : decode M.2.1 pc = .ok (.ldc2_w idx, 3)) (hm : Cond.constantLong M.1.cls idx (Int64.ofInt x) ∈ lw_tbl.filter goodWord) (h : Rn d M z (pc + 3) ls ((1, x) :: sk) G Q) : Rn d M z pc ls sk G Q := by
  intro p l e s m args below meth c D E cA hc H locs lc hw hs hl
  exact lv_ldc2 hc.1 hc.2.1 hc.2.2.2.1 (hc.2.2.2.2.1 _ hm) hd (h p l e s m args below meth c D E cA hc H locs lc hw hs hl)
theorem r_iload_n {j : Fin 4} {i : Nat} {x : Int} (hd : decode M.2.1 pc = .ok (.iload_n j, 1)) (k : Nat) (hi : (j : Nat) = i) (hk : ls[k]? = some (i, (0, x))) (h : Rn d M z (pc + 1) ls ((0, x) :: sk) G Q) : Rn d M z pc ls sk G Q := by
  intro p l e s m args below meth c D E cA hc H locs lc hw hs hl
  exact lv_iload_n hc.1 hc.2.1 hd hi (ls_at E hl hk) (h p l e s m args below meth c D E cA hc H locs lc hw hs hl)
theorem r_iload {i : Nat} {x : Int} (hd : decode M.2.1 pc = .ok (.iload i, 2)) (k : Nat) (hk : ls[k]? = some (i, (0, x))) (h : Rn d M z (pc + 2) ls ((0, x) :: sk) G Q) : Rn d M z pc ls sk G Q := by
  intro p l e s m args below meth c D E cA hc H locs lc hw hs hl
  exact lv_iload hc.1 hc.2.1 hd (ls_at E hl hk) (h p l e s m args below meth c D E cA hc H locs lc hw hs hl)
theorem r_lload_n {j : Fin 4} {i : Nat} {x : Int} (hd : decode M.2.1 pc = .ok (.lload_n j, 1)) (k : Nat) (hi : (j : Nat) = i) (hk : ls[k]? = some (i, (1, x))) (h : Rn d M z (pc + 1) ls ((1, x) :: sk) G Q) : Rn d M z pc ls sk G Q := by
  intro p l e s m args below meth c D E cA hc H locs lc hw hs hl
  exact lv_lload_n hc.1 hc.2.1 hd hi (ls_at E hl hk) (h p l e s m args below meth c D E cA hc H locs lc hw hs hl)
theorem r_lload {i : Nat} {x : Int} (hd : decode M.2.1 pc = .ok (.lload i, 2)) (k : Nat) (hk : ls[k]? = some (i, (1, x))) (h : Rn d M z (pc + 2) ls ((1, x) :: sk) G Q) : Rn d M z pc ls sk G Q := by
  intro p l e s m args below meth c D E cA hc H locs lc hw hs hl
  exact lv_lload hc.1 hc.2.1 hd (ls_at E hl hk) (h p l e s m args below meth c D E cA hc H locs lc hw hs hl)
theorem r_aload_n {j : Fin 4} {i : Nat} {x : Int} (hd : decode M.2.1 pc = .ok (.aload_n j, 1)) (k : Nat) (hi : (j : Nat) = i) (hk : ls[k]? = some (i, (2, x))) (h : Rn d M z (pc + 1) ls ((2, x) :: sk) G Q) : Rn d M z pc ls sk G Q := by
  intro p l e s m args below meth c D E cA hc H locs lc hw hs hl
  exact lv_aload_n hc.1 hc.2.1 hd hi (ls_at E hl hk) (h p l e s m args below meth c D E cA hc H locs lc hw hs hl)
theorem r_aload_nT {j : Fin 4} {i : Nat} {x : Int} (hd : decode M.2.1 pc = .ok (.aload_n j, 1)) (k : Nat) (hi : (j : Nat) = i) (hk : ls[k]? = some (i, (3, x))) (h : Rn d M z (pc + 1) ls ((3, x) :: sk) G Q) : Rn d M z pc ls sk G Q := by
  intro p l e s m args below meth c D E cA hc H locs lc hw hs hl
  exact lv_aload_n hc.1 hc.2.1 hd hi (ls_at E hl hk) (h p l e s m args below meth c D E cA hc H locs lc hw hs hl)
theorem r_aload_nS {j : Fin 4} {i : Nat} {x : Int} (hd : decode M.2.1 pc = .ok (.aload_n j, 1)) (k : Nat) (hi : (j : Nat) = i) (hk : ls[k]? = some (i, (4, x))) (h : Rn d M z (pc + 1) ls ((4, x) :: sk) G Q) : Rn d M z pc ls sk G Q := by
  intro p l e s m args below meth c D E cA hc H locs lc hw hs hl
  exact lv_aload_n hc.1 hc.2.1 hd hi (ls_at E hl hk) (h p l e s m args below meth c D E cA hc H locs lc hw hs hl)
theorem r_aload_nB {j : Fin 4} {i : Nat} {x : Int} (hd : decode M.2.1 pc = .ok (.aload_n j, 1)) (k : Nat) (hi : (j : Nat) = i) (hk : ls[k]? = some (i, (5, x))) (h : Rn d M z (pc + 1) ls ((5, x) :: sk) G Q) : Rn d M z pc ls sk G Q := by
  intro p l e s m args below meth c D E cA hc H locs lc hw hs hl
  exact lv_aload_n hc.1 hc.2.1 hd hi (ls_at E hl hk) (h p l e s m args below meth c D E cA hc H locs lc hw hs hl)
theorem r_aload {i : Nat} {x : Int} (hd : decode M.2.1 pc = .ok (.aload i, 2)) (k : Nat) (hk : ls[k]? = some (i, (2, x))) (h : Rn d M z (pc + 2) ls ((2, x) :: sk) G Q) : Rn d M z pc ls sk G Q := by
  intro p l e s m args below meth c D E cA hc H locs lc hw hs hl
  exact lv_aload hc.1 hc.2.1 hd (ls_at E hl hk) (h p l e s m args below meth c D E cA hc H locs lc hw hs hl)
theorem r_istore_n {j : Fin 4} {i : Nat} {x : Int} {ls1 : List (Nat × AV)} (hd : decode M.2.1 pc = .ok (.istore_n j, 1)) (hi : (j : Nat) = i) (hn : i < M.2.2.1) (he : sto1 ls i (0, x) = ls1) (h : Rn d M z (pc + 1) ls1 sk G Q) : Rn d M z pc ls ((0, x) :: sk) G Q := by
  intro p l e s m args below meth c D E cA hc H locs lc hw hs hl
  subst he
  exact lv_istore_n hc.1 hc.2.1 hd hi hl hn (sto1_map E ls i (0, x)) (fun lc' hl' => h p l e s m args below meth c D E cA hc H locs lc' hw hs hl')
theorem r_istore {i : Nat} {x : Int} {ls1 : List (Nat × AV)} (hd : decode M.2.1 pc = .ok (.istore i, 2)) (hn : i < M.2.2.1) (he : sto1 ls i (0, x) = ls1) (h : Rn d M z (pc + 2) ls1 sk G Q) : Rn d M z pc ls ((0, x) :: sk) G Q := by
  intro p l e s m args below meth c D E cA hc H locs lc hw hs hl
  subst he
  exact lv_istore hc.1 hc.2.1 hd hl hn (sto1_map E ls i (0, x)) (fun lc' hl' => h p l e s m args below meth c D E cA hc H locs lc' hw hs hl')
theorem r_astore_n {j : Fin 4} {i : Nat} {x : Int} {ls1 : List (Nat × AV)} (hd : decode M.2.1 pc = .ok (.astore_n j, 1)) (hi : (j : Nat) = i) (hn : i < M.2.2.1) (he : sto1 ls i (2, x) = ls1) (h : Rn d M z (pc + 1) ls1 sk G Q) : Rn d M z pc ls ((2, x) :: sk) G Q := by
  intro p l e s m args below meth c D E cA hc H locs lc hw hs hl
  subst he
  exact lv_astore_n hc.1 hc.2.1 hd hi hl hn (sto1_map E ls i (2, x)) (fun lc' hl' => h p l e s m args below meth c D E cA hc H locs lc' hw hs hl')
theorem r_astore {i : Nat} {x : Int} {ls1 : List (Nat × AV)} (hd : decode M.2.1 pc = .ok (.astore i, 2)) (hn : i < M.2.2.1) (he : sto1 ls i (2, x) = ls1) (h : Rn d M z (pc + 2) ls1 sk G Q) : Rn d M z pc ls ((2, x) :: sk) G Q := by
  intro p l e s m args below meth c D E cA hc H locs lc hw hs hl
  subst he
  exact lv_astore hc.1 hc.2.1 hd hl hn (sto1_map E ls i (2, x)) (fun lc' hl' => h p l e s m args below meth c D E cA hc H locs lc' hw hs hl')
theorem r_lstore_n {j : Fin 4} {i : Nat} {x : Int} {ls1 : List (Nat × AV)} (hd : decode M.2.1 pc = .ok (.lstore_n j, 1)) (hi : (j : Nat) = i) (hn : i + 1 < M.2.2.1) (he : sto2 ls i (1, x) = ls1) (h : Rn d M z (pc + 1) ls1 sk G Q) : Rn d M z pc ls ((1, x) :: sk) G Q := by
  intro p l e s m args below meth c D E cA hc H locs lc hw hs hl
  subst he
  exact lv_lstore_n hc.1 hc.2.1 hd hi hl hn (sto2_map E ls i (1, x)) (fun lc' hl' => h p l e s m args below meth c D E cA hc H locs lc' hw hs hl')
theorem r_lstore {i : Nat} {x : Int} {ls1 : List (Nat × AV)} (hd : decode M.2.1 pc = .ok (.lstore i, 2)) (hn : i + 1 < M.2.2.1) (he : sto2 ls i (1, x) = ls1) (h : Rn d M z (pc + 2) ls1 sk G Q) : Rn d M z pc ls ((1, x) :: sk) G Q := by
  intro p l e s m args below meth c D E cA hc H locs lc hw hs hl
  subst he
  exact lv_lstore hc.1 hc.2.1 hd hl hn (sto2_map E ls i (1, x)) (fun lc' hl' => h p l e s m args below meth c D E cA hc H locs lc' hw hs hl')
theorem r_iinc {i : Nat} {n x : Int} {ls1 : List (Nat × AV)} (hd : decode M.2.1 pc = .ok (.iinc i n, 3)) (k : Nat) (hk : ls[k]? = some (i, (0, x))) (hn : i < M.2.2.1) (he : sto1 ls i (0, x + n) = ls1) (h : Rn d M z (pc + 3) ls1 sk G Q) : Rn d M z pc ls sk G Q := by
  intro p l e s m args below meth c D E cA hc H locs lc hw hs hl
  subst he
  exact lv_iinc (k := k) (x := Int32.ofInt x) (v := Int32.ofInt (x + n)) hc.1 hc.2.1 hd hl (by rw [List.getElem?_map, hk]; rfl) (Int32.ofInt_add x n).symm hn (sto1_map E ls i (0, x + n)) (fun lc' hl' => h p l e s m args below meth c D E cA hc H locs lc' hw hs hl')
theorem r_iadd {a b : Int} (hd : decode M.2.1 pc = .ok (.iadd, 1)) (h : Rn d M z (pc + 1) ls ((0, a + b) :: sk) G Q) : Rn d M z pc ls ((0, b) :: (0, a) :: sk) G Q := by
  intro p l e s m args below meth c D E cA hc H locs lc hw hs hl
  have h1 := h p l e s m args below meth c D E cA hc H locs lc hw hs hl
  simp only [List.map_cons, cv0, Int32.ofInt_add] at h1
  exact lv_iadd hc.1 hc.2.1 hd h1
theorem r_isub {a b : Int} (hd : decode M.2.1 pc = .ok (.isub, 1)) (h : Rn d M z (pc + 1) ls ((0, a - b) :: sk) G Q) : Rn d M z pc ls ((0, b) :: (0, a) :: sk) G Q := by
  intro p l e s m args below meth c D E cA hc H locs lc hw hs hl
  have h1 := h p l e s m args below meth c D E cA hc H locs lc hw hs hl
  simp only [List.map_cons, cv0, Int32.ofInt_sub] at h1
  exact lv_isub hc.1 hc.2.1 hd h1
theorem r_imul {a b : Int} (hd : decode M.2.1 pc = .ok (.imul, 1)) (h : Rn d M z (pc + 1) ls ((0, a * b) :: sk) G Q) : Rn d M z pc ls ((0, b) :: (0, a) :: sk) G Q := by
  intro p l e s m args below meth c D E cA hc H locs lc hw hs hl
  have h1 := h p l e s m args below meth c D E cA hc H locs lc hw hs hl
  simp only [List.map_cons, cv0, Int32.ofInt_mul] at h1
  exact lv_imul hc.1 hc.2.1 hd h1
theorem r_ladd {a b : Int} (hd : decode M.2.1 pc = .ok (.ladd, 1)) (h : Rn d M z (pc + 1) ls ((1, a + b) :: sk) G Q) : Rn d M z pc ls ((1, b) :: (1, a) :: sk) G Q := by
  intro p l e s m args below meth c D E cA hc H locs lc hw hs hl
  have h1 := h p l e s m args below meth c D E cA hc H locs lc hw hs hl
  simp only [List.map_cons, cv1, Int64.ofInt_add] at h1
  exact lv_ladd hc.1 hc.2.1 hd h1
theorem r_lsub {a b : Int} (hd : decode M.2.1 pc = .ok (.lsub, 1)) (h : Rn d M z (pc + 1) ls ((1, a - b) :: sk) G Q) : Rn d M z pc ls ((1, b) :: (1, a) :: sk) G Q := by
  intro p l e s m args below meth c D E cA hc H locs lc hw hs hl
  have h1 := h p l e s m args below meth c D E cA hc H locs lc hw hs hl
  simp only [List.map_cons, cv1, Int64.ofInt_sub] at h1
  exact lv_lsub hc.1 hc.2.1 hd h1
theorem r_lmul {a b : Int} (hd : decode M.2.1 pc = .ok (.lmul, 1)) (h : Rn d M z (pc + 1) ls ((1, a * b) :: sk) G Q) : Rn d M z pc ls ((1, b) :: (1, a) :: sk) G Q := by
  intro p l e s m args below meth c D E cA hc H locs lc hw hs hl
  have h1 := h p l e s m args below meth c D E cA hc H locs lc hw hs hl
  simp only [List.map_cons, cv1, Int64.ofInt_mul] at h1
  exact lv_lmul hc.1 hc.2.1 hd h1
theorem r_idiv {a b : Int} (hd : decode M.2.1 pc = .ok (.idiv, 1)) (ha : InR a) (hb : 0 < b ∧ InR b) (h : Rn d M z (pc + 1) ls ((0, a.tdiv b) :: sk) G Q) : Rn d M z pc ls ((0, b) :: (0, a) :: sk) G Q := by
  intro p l e s m args below meth c D E cA hc H locs lc hw hs hl
  have h1 := h p l e s m args below meth c D E cA hc H locs lc hw hs hl
  have e1 : Int32.ofInt (a.tdiv b) = Int32.ofInt a / Int32.ofInt b := divI ha hb.2 hb.1
  simp only [List.map_cons, cv0, e1] at h1
  exact lv_idiv hc.1 hc.2.1 hd (fun q => absurd ((ofI_inj hb.2 InR0).mp q) (by omega)) h1
theorem r_irem {a b : Int} (hd : decode M.2.1 pc = .ok (.irem, 1)) (ha : InR a) (hb : 0 < b ∧ InR b) (h : Rn d M z (pc + 1) ls ((0, a.tmod b) :: sk) G Q) : Rn d M z pc ls ((0, b) :: (0, a) :: sk) G Q := by
  intro p l e s m args below meth c D E cA hc H locs lc hw hs hl
  have h1 := h p l e s m args below meth c D E cA hc H locs lc hw hs hl
  have e1 : Int32.ofInt (a.tmod b) = Int32.ofInt a - Int32.ofInt a / Int32.ofInt b * Int32.ofInt b := remI ha hb.2 hb.1
  simp only [List.map_cons, cv0, e1] at h1
  exact lv_irem hc.1 hc.2.1 hd (fun q => absurd ((ofI_inj hb.2 InR0).mp q) (by omega)) h1
theorem r_ldiv {a b : Int} (hd : decode M.2.1 pc = .ok (.ldiv, 1)) (ha : InL a) (hb : 0 < b ∧ InL b) (h : Rn d M z (pc + 1) ls ((1, a.tdiv b) :: sk) G Q) : Rn d M z pc ls ((1, b) :: (1, a) :: sk) G Q := by
  intro p l e s m args below meth c D E cA hc H locs lc hw hs hl
  have h1 := h p l e s m args below meth c D E cA hc H locs lc hw hs hl
  have e1 : Int64.ofInt (a.tdiv b) = Int64.ofInt a / Int64.ofInt b := divL ha hb.2 hb.1
  simp only [List.map_cons, cv1, e1] at h1
  exact lv_ldiv hc.1 hc.2.1 hd (fun q => absurd ((ofL_inj hb.2 InL0).mp q) (by omega)) h1
theorem r_lrem {a b : Int} (hd : decode M.2.1 pc = .ok (.lrem, 1)) (ha : InL a) (hb : 0 < b ∧ InL b) (h : Rn d M z (pc + 1) ls ((1, a.tmod b) :: sk) G Q) : Rn d M z pc ls ((1, b) :: (1, a) :: sk) G Q := by
  intro p l e s m args below meth c D E cA hc H locs lc hw hs hl
  have h1 := h p l e s m args below meth c D E cA hc H locs lc hw hs hl
  have e1 : Int64.ofInt (a.tmod b) = Int64.ofInt a - Int64.ofInt a / Int64.ofInt b * Int64.ofInt b := remL ha hb.2 hb.1
  simp only [List.map_cons, cv1, e1] at h1
  exact lv_lrem hc.1 hc.2.1 hd (fun q => absurd ((ofL_inj hb.2 InL0).mp q) (by omega)) h1
theorem r_ishl {a b : Int} (hd : decode M.2.1 pc = .ok (.ishl, 1)) (h : Rn d M z (pc + 1) ls ((0, shlI a b) :: sk) G Q) : Rn d M z pc ls ((0, b) :: (0, a) :: sk) G Q := by
  intro p l e s m args below meth c D E cA hc H locs lc hw hs hl
  have h1 := h p l e s m args below meth c D E cA hc H locs lc hw hs hl
  simp only [List.map_cons, cv0, shlI, Int32.ofInt_toInt] at h1
  exact lv_ishl hc.1 hc.2.1 hd h1
theorem r_ishr {a b : Int} (hd : decode M.2.1 pc = .ok (.ishr, 1)) (h : Rn d M z (pc + 1) ls ((0, shrI a b) :: sk) G Q) : Rn d M z pc ls ((0, b) :: (0, a) :: sk) G Q := by
  intro p l e s m args below meth c D E cA hc H locs lc hw hs hl
  have h1 := h p l e s m args below meth c D E cA hc H locs lc hw hs hl
  simp only [List.map_cons, cv0, shrI, Int32.ofInt_toInt] at h1
  exact lv_ishr hc.1 hc.2.1 hd h1
theorem r_iand {a b : Int} (hd : decode M.2.1 pc = .ok (.iand, 1)) (h : Rn d M z (pc + 1) ls ((0, andI a b) :: sk) G Q) : Rn d M z pc ls ((0, b) :: (0, a) :: sk) G Q := by
  intro p l e s m args below meth c D E cA hc H locs lc hw hs hl
  have h1 := h p l e s m args below meth c D E cA hc H locs lc hw hs hl
  simp only [List.map_cons, cv0, andI, Int32.ofInt_toInt] at h1
  exact lv_iand hc.1 hc.2.1 hd h1
theorem r_ior {a b : Int} (hd : decode M.2.1 pc = .ok (.ior, 1)) (h : Rn d M z (pc + 1) ls ((0, orI a b) :: sk) G Q) : Rn d M z pc ls ((0, b) :: (0, a) :: sk) G Q := by
  intro p l e s m args below meth c D E cA hc H locs lc hw hs hl
  have h1 := h p l e s m args below meth c D E cA hc H locs lc hw hs hl
  simp only [List.map_cons, cv0, orI, Int32.ofInt_toInt] at h1
  exact lv_ior hc.1 hc.2.1 hd h1
theorem r_land {a b : Int} (hd : decode M.2.1 pc = .ok (.land, 1)) (h : Rn d M z (pc + 1) ls ((1, andL a b) :: sk) G Q) : Rn d M z pc ls ((1, b) :: (1, a) :: sk) G Q := by
  intro p l e s m args below meth c D E cA hc H locs lc hw hs hl
  have h1 := h p l e s m args below meth c D E cA hc H locs lc hw hs hl
  simp only [List.map_cons, cv1, andL, Int64.ofInt_toInt] at h1
  exact lv_land hc.1 hc.2.1 hd h1
theorem r_lor {a b : Int} (hd : decode M.2.1 pc = .ok (.lor, 1)) (h : Rn d M z (pc + 1) ls ((1, orL a b) :: sk) G Q) : Rn d M z pc ls ((1, b) :: (1, a) :: sk) G Q := by
  intro p l e s m args below meth c D E cA hc H locs lc hw hs hl
  have h1 := h p l e s m args below meth c D E cA hc H locs lc hw hs hl
  simp only [List.map_cons, cv1, orL, Int64.ofInt_toInt] at h1
  exact lv_lor hc.1 hc.2.1 hd h1
theorem r_iushr {a b : Int} (hd : decode M.2.1 pc = .ok (.iushr, 1)) (h : Rn d M z (pc + 1) ls ((0, ushrI a b) :: sk) G Q) : Rn d M z pc ls ((0, b) :: (0, a) :: sk) G Q := by
  intro p l e s m args below meth c D E cA hc H locs lc hw hs hl
  have h1 := h p l e s m args below meth c D E cA hc H locs lc hw hs hl
  simp only [List.map_cons, cv0, ushrI, Int32.ofInt_toInt] at h1
  exact lv_iushr hc.1 hc.2.1 hd rfl h1
theorem r_lushr {a b : Int} (hd : decode M.2.1 pc = .ok (.lushr, 1)) (h : Rn d M z (pc + 1) ls ((1, ushrL a b) :: sk) G Q) : Rn d M z pc ls ((0, b) :: (1, a) :: sk) G Q := by
  intro p l e s m args below meth c D E cA hc H locs lc hw hs hl
  have h1 := h p l e s m args below meth c D E cA hc H locs lc hw hs hl
  simp only [List.map_cons, cv1, ushrL, Int64.ofInt_toInt] at h1
  exact lv_lushr hc.1 hc.2.1 hd rfl h1
theorem r_lshl {a b : Int} (hd : decode M.2.1 pc = .ok (.lshl, 1)) (h : Rn d M z (pc + 1) ls ((1, shlL a b) :: sk) G Q) : Rn d M z pc ls ((0, b) :: (1, a) :: sk) G Q := by
  intro p l e s m args below meth c D E cA hc H locs lc hw hs hl
  have h1 := h p l e s m args below meth c D E cA hc H locs lc hw hs hl
  simp only [List.map_cons, cv1, shlL, Int64.ofInt_toInt] at h1
  exact lv_lshl hc.1 hc.2.1 hd rfl h1
theorem r_i2l {a : Int} (hd : decode M.2.1 pc = .ok (.i2l, 1)) (ha : InR a) (h : Rn d M z (pc + 1) ls ((1, a) :: sk) G Q) : Rn d M z pc ls ((0, a) :: sk) G Q := by
  intro p l e s m args below meth c D E cA hc H locs lc hw hs hl
  exact lv_i2l hc.1 hc.2.1 hd (by rw [← Int64.toInt_inj, Int32.toInt_toInt64, ofI_toInt ha, ofL_toInt ⟨by have := ha.1; omega, by have := ha.2; omega⟩]) (h p l e s m args below meth c D E cA hc H locs lc hw hs hl)
theorem r_l2i {a : Int} (hd : decode M.2.1 pc = .ok (.l2i, 1)) (h : Rn d M z (pc + 1) ls ((0, a) :: sk) G Q) : Rn d M z pc ls ((1, a) :: sk) G Q := by
  intro p l e s m args below meth c D E cA hc H locs lc hw hs hl
  exact lv_l2i hc.1 hc.2.1 hd (by simp) (h p l e s m args below meth c D E cA hc H locs lc hw hs hl)
theorem r_i2c {a : Int} (hd : decode M.2.1 pc = .ok (.i2c, 1)) (ha : 0 ≤ a ∧ a < 65536) (h : Rn d M z (pc + 1) ls ((0, a) :: sk) G Q) : Rn d M z pc ls ((0, a) :: sk) G Q := by
  intro p l e s m args below meth c D E cA hc H locs lc hw hs hl
  exact lv_i2c hc.1 hc.2.1 hd (i2c_id ha) (h p l e s m args below meth c D E cA hc H locs lc hw hs hl)
theorem r_dup {v : AV} (kd : Nat) (hk : v.1 = kd) (hv0 : kd ≠ 1) (hd : decode M.2.1 pc = .ok (.dup, 1)) (h : Rn d M z (pc + 1) ls (v :: v :: sk) G Q) : Rn d M z pc ls (v :: sk) G Q := by
  intro p l e s m args below meth c D E cA hc H locs lc hw hs hl
  exact lv_dup hc.1 hc.2.1 hd (by rw [cv_cat, if_neg (by rw [hk]; exact hv0)]) (h p l e s m args below meth c D E cA hc H locs lc hw hs hl)
theorem r_pop {v : AV} (kd : Nat) (hk : v.1 = kd) (hv0 : kd ≠ 1) (hd : decode M.2.1 pc = .ok (.pop, 1)) (h : Rn d M z (pc + 1) ls sk G Q) : Rn d M z pc ls (v :: sk) G Q := by
  intro p l e s m args below meth c D E cA hc H locs lc hw hs hl
  exact lv_pop hc.1 hc.2.1 hd (by rw [cv_cat, if_neg (by rw [hk]; exact hv0)]) (h p l e s m args below meth c D E cA hc H locs lc hw hs hl)
theorem r_dup2 {v w : AV} (kd ke : Nat) (hk : v.1 = kd) (hk2 : w.1 = ke) (hv0 : kd ≠ 1) (hx0 : ke ≠ 1) (hd : decode M.2.1 pc = .ok (.dup2, 1)) (h : Rn d M z (pc + 1) ls (v :: w :: v :: w :: sk) G Q) : Rn d M z pc ls (v :: w :: sk) G Q := by
  intro p l e s m args below meth c D E cA hc H locs lc hw hs hl
  exact lv_dup2_11 hc.1 hc.2.1 hd (by rw [cv_cat, if_neg (by rw [hk]; exact hv0)]) (by rw [cv_cat, if_neg (by rw [hk2]; exact hx0)]) (h p l e s m args below meth c D E cA hc H locs lc hw hs hl)
theorem r_goto {off : Int} {tgt : Nat} (hd : decode M.2.1 pc = .ok (.goto off, 3)) (ht : (pc : Int) + off = (tgt : Int)) (h : Rn d M z tgt ls sk G Q) : Rn d M z pc ls sk G Q := by
  intro p l e s m args below meth c D E cA hc H locs lc hw hs hl
  exact lv_goto hc.1 hc.2.1 hd ht (h p l e s m args below meth c D E cA hc H locs lc hw hs hl)
theorem r_if_eq {a off : Int} {tgt : Nat} (hd : decode M.2.1 pc = .ok (.ifCond .eq off, 3)) (ht : (pc : Int) + off = (tgt : Int)) (ha : InR a) (h1 : a = 0 → Rn d M z tgt ls sk G Q) (h2 : ¬ (a = 0) → Rn d M z (pc + 3) ls sk G Q) : Rn d M z pc ls ((0, a) :: sk) G Q := by
  intro p l e s m args below meth c D E cA hc H locs lc hw hs hl
  exact lv_if_eq hc.1 hc.2.1 hd ht (fun q => h1 ((ofI_inj ha InR0).mp q) p l e s m args below meth c D E cA hc H locs lc hw hs hl) (fun q => h2 (fun r => q ((ofI_inj ha InR0).mpr r)) p l e s m args below meth c D E cA hc H locs lc hw hs hl)
theorem r_if_ne {a off : Int} {tgt : Nat} (hd : decode M.2.1 pc = .ok (.ifCond .ne off, 3)) (ht : (pc : Int) + off = (tgt : Int)) (ha : InR a) (h1 : a ≠ 0 → Rn d M z tgt ls sk G Q) (h2 : ¬ (a ≠ 0) → Rn d M z (pc + 3) ls sk G Q) : Rn d M z pc ls ((0, a) :: sk) G Q := by
  intro p l e s m args below meth c D E cA hc H locs lc hw hs hl
  exact lv_if_ne hc.1 hc.2.1 hd ht (fun q => h1 (fun r => q ((ofI_inj ha InR0).mpr r)) p l e s m args below meth c D E cA hc H locs lc hw hs hl) (fun q => h2 (fun r => r ((ofI_inj ha InR0).mp q)) p l e s m args below meth c D E cA hc H locs lc hw hs hl)
theorem r_if_lt {a off : Int} {tgt : Nat} (hd : decode M.2.1 pc = .ok (.ifCond .lt off, 3)) (ht : (pc : Int) + off = (tgt : Int)) (ha : InR a) (h1 : a < 0 → Rn d M z tgt ls sk G Q) (h2 : ¬ (a < 0) → Rn d M z (pc + 3) ls sk G Q) : Rn d M z pc ls ((0, a) :: sk) G Q := by
  intro p l e s m args below meth c D E cA hc H locs lc hw hs hl
  exact lv_if_lt hc.1 hc.2.1 hd ht (fun q => h1 ((ofI_lt ha InR0).mp q) p l e s m args below meth c D E cA hc H locs lc hw hs hl) (fun q => h2 (fun r => q ((ofI_lt ha InR0).mpr r)) p l e s m args below meth c D E cA hc H locs lc hw hs hl)
theorem r_if_ge {a off : Int} {tgt : Nat} (hd : decode M.2.1 pc = .ok (.ifCond .ge off, 3)) (ht : (pc : Int) + off = (tgt : Int)) (ha : InR a) (h1 : 0 ≤ a → Rn d M z tgt ls sk G Q) (h2 : ¬ (0 ≤ a) → Rn d M z (pc + 3) ls sk G Q) : Rn d M z pc ls ((0, a) :: sk) G Q := by
  intro p l e s m args below meth c D E cA hc H locs lc hw hs hl
  exact lv_if_ge hc.1 hc.2.1 hd ht (fun q => h1 ((ofI_le InR0 ha).mp q) p l e s m args below meth c D E cA hc H locs lc hw hs hl) (fun q => h2 (fun r => q ((ofI_le InR0 ha).mpr r)) p l e s m args below meth c D E cA hc H locs lc hw hs hl)
theorem r_if_gt {a off : Int} {tgt : Nat} (hd : decode M.2.1 pc = .ok (.ifCond .gt off, 3)) (ht : (pc : Int) + off = (tgt : Int)) (ha : InR a) (h1 : 0 < a → Rn d M z tgt ls sk G Q) (h2 : ¬ (0 < a) → Rn d M z (pc + 3) ls sk G Q) : Rn d M z pc ls ((0, a) :: sk) G Q := by
  intro p l e s m args below meth c D E cA hc H locs lc hw hs hl
  exact lv_if_gt hc.1 hc.2.1 hd ht (fun q => h1 ((ofI_lt InR0 ha).mp q) p l e s m args below meth c D E cA hc H locs lc hw hs hl) (fun q => h2 (fun r => q ((ofI_lt InR0 ha).mpr r)) p l e s m args below meth c D E cA hc H locs lc hw hs hl)
theorem r_if_le {a off : Int} {tgt : Nat} (hd : decode M.2.1 pc = .ok (.ifCond .le off, 3)) (ht : (pc : Int) + off = (tgt : Int)) (ha : InR a) (h1 : a ≤ 0 → Rn d M z tgt ls sk G Q) (h2 : ¬ (a ≤ 0) → Rn d M z (pc + 3) ls sk G Q) : Rn d M z pc ls ((0, a) :: sk) G Q := by
  intro p l e s m args below meth c D E cA hc H locs lc hw hs hl
  exact lv_if_le hc.1 hc.2.1 hd ht (fun q => h1 ((ofI_le ha InR0).mp q) p l e s m args below meth c D E cA hc H locs lc hw hs hl) (fun q => h2 (fun r => q ((ofI_le ha InR0).mpr r)) p l e s m args below meth c D E cA hc H locs lc hw hs hl)
theorem r_icmp_eq {a b off : Int} {tgt : Nat} (hd : decode M.2.1 pc = .ok (.if_icmp .eq off, 3)) (ht : (pc : Int) + off = (tgt : Int)) (ha : InR a) (hb : InR b) (h1 : a = b → Rn d M z tgt ls sk G Q) (h2 : ¬ (a = b) → Rn d M z (pc + 3) ls sk G Q) : Rn d M z pc ls ((0, b) :: (0, a) :: sk) G Q := by
  intro p l e s m args below meth c D E cA hc H locs lc hw hs hl
  exact lv_icmp_eq hc.1 hc.2.1 hd ht (fun q => h1 ((ofI_inj ha hb).mp q) p l e s m args below meth c D E cA hc H locs lc hw hs hl) (fun q => h2 (fun r => q ((ofI_inj ha hb).mpr r)) p l e s m args below meth c D E cA hc H locs lc hw hs hl)
theorem r_icmp_ne {a b off : Int} {tgt : Nat} (hd : decode M.2.1 pc = .ok (.if_icmp .ne off, 3)) (ht : (pc : Int) + off = (tgt : Int)) (ha : InR a) (hb : InR b) (h1 : a ≠ b → Rn d M z tgt ls sk G Q) (h2 : ¬ (a ≠ b) → Rn d M z (pc + 3) ls sk G Q) : Rn d M z pc ls ((0, b) :: (0, a) :: sk) G Q := by
  intro p l e s m args below meth c D E cA hc H locs lc hw hs hl
  exact lv_icmp_ne hc.1 hc.2.1 hd ht (fun q => h1 (fun r => q ((ofI_inj ha hb).mpr r)) p l e s m args below meth c D E cA hc H locs lc hw hs hl) (fun q => h2 (fun r => r ((ofI_inj ha hb).mp q)) p l e s m args below meth c D E cA hc H locs lc hw hs hl)
theorem r_icmp_lt {a b off : Int} {tgt : Nat} (hd : decode M.2.1 pc = .ok (.if_icmp .lt off, 3)) (ht : (pc : Int) + off = (tgt : Int)) (ha : InR a) (hb : InR b) (h1 : a < b → Rn d M z tgt ls sk G Q) (h2 : ¬ (a < b) → Rn d M z (pc + 3) ls sk G Q) : Rn d M z pc ls ((0, b) :: (0, a) :: sk) G Q := by
  intro p l e s m args below meth c D E cA hc H locs lc hw hs hl
  exact lv_icmp_lt hc.1 hc.2.1 hd ht (fun q => h1 ((ofI_lt ha hb).mp q) p l e s m args below meth c D E cA hc H locs lc hw hs hl) (fun q => h2 (fun r => q ((ofI_lt ha hb).mpr r)) p l e s m args below meth c D E cA hc H locs lc hw hs hl)
theorem r_icmp_ge {a b off : Int} {tgt : Nat} (hd : decode M.2.1 pc = .ok (.if_icmp .ge off, 3)) (ht : (pc : Int) + off = (tgt : Int)) (ha : InR a) (hb : InR b) (h1 : b ≤ a → Rn d M z tgt ls sk G Q) (h2 : ¬ (b ≤ a) → Rn d M z (pc + 3) ls sk G Q) : Rn d M z pc ls ((0, b) :: (0, a) :: sk) G Q := by
  intro p l e s m args below meth c D E cA hc H locs lc hw hs hl
  exact lv_icmp_ge hc.1 hc.2.1 hd ht (fun q => h1 ((ofI_le hb ha).mp q) p l e s m args below meth c D E cA hc H locs lc hw hs hl) (fun q => h2 (fun r => q ((ofI_le hb ha).mpr r)) p l e s m args below meth c D E cA hc H locs lc hw hs hl)
theorem r_icmp_gt {a b off : Int} {tgt : Nat} (hd : decode M.2.1 pc = .ok (.if_icmp .gt off, 3)) (ht : (pc : Int) + off = (tgt : Int)) (ha : InR a) (hb : InR b) (h1 : b < a → Rn d M z tgt ls sk G Q) (h2 : ¬ (b < a) → Rn d M z (pc + 3) ls sk G Q) : Rn d M z pc ls ((0, b) :: (0, a) :: sk) G Q := by
  intro p l e s m args below meth c D E cA hc H locs lc hw hs hl
  exact lv_icmp_gt hc.1 hc.2.1 hd ht (fun q => h1 ((ofI_lt hb ha).mp q) p l e s m args below meth c D E cA hc H locs lc hw hs hl) (fun q => h2 (fun r => q ((ofI_lt hb ha).mpr r)) p l e s m args below meth c D E cA hc H locs lc hw hs hl)
theorem r_icmp_le {a b off : Int} {tgt : Nat} (hd : decode M.2.1 pc = .ok (.if_icmp .le off, 3)) (ht : (pc : Int) + off = (tgt : Int)) (ha : InR a) (hb : InR b) (h1 : a ≤ b → Rn d M z tgt ls sk G Q) (h2 : ¬ (a ≤ b) → Rn d M z (pc + 3) ls sk G Q) : Rn d M z pc ls ((0, b) :: (0, a) :: sk) G Q := by
  intro p l e s m args below meth c D E cA hc H locs lc hw hs hl
  exact lv_icmp_le hc.1 hc.2.1 hd ht (fun q => h1 ((ofI_le ha hb).mp q) p l e s m args below meth c D E cA hc H locs lc hw hs hl) (fun q => h2 (fun r => q ((ofI_le ha hb).mpr r)) p l e s m args below meth c D E cA hc H locs lc hw hs hl)
theorem r_lcmp_eq {a b off : Int} {tgt : Nat} (hd : decode M.2.1 pc = .ok (.lcmp, 1)) (hd2 : decode M.2.1 (pc + 1) = .ok (.ifCond .eq off, 3)) (ht : ((pc + 1 : Nat) : Int) + off = (tgt : Int)) (ha : InL a) (hb : InL b) (h1 : a = b → Rn d M z tgt ls sk G Q) (h2 : ¬ (a = b) → Rn d M z (pc + 4) ls sk G Q) : Rn d M z pc ls ((1, b) :: (1, a) :: sk) G Q := by
  intro p l e s m args below meth c D E cA hc H locs lc hw hs hl
  refine W.lcmp hc.1 hc.2.1 hd (lv_if_eq hc.1 hc.2.1 hd2 ht (fun q => h1 ?_ p l e s m args below meth c D E cA hc H locs lc hw hs hl) (fun q => h2 ?_ p l e s m args below meth c D E cA hc H locs lc hw hs hl))
  · exact (lcmp_eq ha hb).mp q
  · exact fun r => q ((lcmp_eq ha hb).mpr r)
theorem r_lcmp_ne {a b off : Int} {tgt : Nat} (hd : decode M.2.1 pc = .ok (.lcmp, 1)) (hd2 : decode M.2.1 (pc + 1) = .ok (.ifCond .ne off, 3)) (ht : ((pc + 1 : Nat) : Int) + off = (tgt : Int)) (ha : InL a) (hb : InL b) (h1 : a ≠ b → Rn d M z tgt ls sk G Q) (h2 : ¬ (a ≠ b) → Rn d M z (pc + 4) ls sk G Q) : Rn d M z pc ls ((1, b) :: (1, a) :: sk) G Q := by
  intro p l e s m args below meth c D E cA hc H locs lc hw hs hl
  refine W.lcmp hc.1 hc.2.1 hd (lv_if_ne hc.1 hc.2.1 hd2 ht (fun q => h1 ?_ p l e s m args below meth c D E cA hc H locs lc hw hs hl) (fun q => h2 ?_ p l e s m args below meth c D E cA hc H locs lc hw hs hl))
  · exact (lcmp_ne ha hb).mp q
  · exact fun r => r ((lcmp_eq ha hb).mp q)
theorem r_lcmp_lt {a b off : Int} {tgt : Nat} (hd : decode M.2.1 pc = .ok (.lcmp, 1)) (hd2 : decode M.2.1 (pc + 1) = .ok (.ifCond .lt off, 3)) (ht : ((pc + 1 : Nat) : Int) + off = (tgt : Int)) (ha : InL a) (hb : InL b) (h1 : a < b → Rn d M z tgt ls sk G Q) (h2 : ¬ (a < b) → Rn d M z (pc + 4) ls sk G Q) : Rn d M z pc ls ((1, b) :: (1, a) :: sk) G Q := by
  intro p l e s m args below meth c D E cA hc H locs lc hw hs hl
  refine W.lcmp hc.1 hc.2.1 hd (lv_if_lt hc.1 hc.2.1 hd2 ht (fun q => h1 ?_ p l e s m args below meth c D E cA hc H locs lc hw hs hl) (fun q => h2 ?_ p l e s m args below meth c D E cA hc H locs lc hw hs hl))
  · exact (lcmp_lt ha hb).mp q
  · exact fun r => q ((lcmp_lt ha hb).mpr r)
theorem r_lcmp_ge {a b off : Int} {tgt : Nat} (hd : decode M.2.1 pc = .ok (.lcmp, 1)) (hd2 : decode M.2.1 (pc + 1) = .ok (.ifCond .ge off, 3)) (ht : ((pc + 1 : Nat) : Int) + off = (tgt : Int)) (ha : InL a) (hb : InL b) (h1 : b ≤ a → Rn d M z tgt ls sk G Q) (h2 : ¬ (b ≤ a) → Rn d M z (pc + 4) ls sk G Q) : Rn d M z pc ls ((1, b) :: (1, a) :: sk) G Q := by
  intro p l e s m args below meth c D E cA hc H locs lc hw hs hl
  refine W.lcmp hc.1 hc.2.1 hd (lv_if_ge hc.1 hc.2.1 hd2 ht (fun q => h1 ?_ p l e s m args below meth c D E cA hc H locs lc hw hs hl) (fun q => h2 ?_ p l e s m args below meth c D E cA hc H locs lc hw hs hl))
  · exact (lcmp_ge ha hb).mp q
  · exact fun r => q ((lcmp_ge ha hb).mpr r)
theorem r_lcmp_gt {a b off : Int} {tgt : Nat} (hd : decode M.2.1 pc = .ok (.lcmp, 1)) (hd2 : decode M.2.1 (pc + 1) = .ok (.ifCond .gt off, 3)) (ht : ((pc + 1 : Nat) : Int) + off = (tgt : Int)) (ha : InL a) (hb : InL b) (h1 : b < a → Rn d M z tgt ls sk G Q) (h2 : ¬ (b < a) → Rn d M z (pc + 4) ls sk G Q) : Rn d M z pc ls ((1, b) :: (1, a) :: sk) G Q := by
  intro p l e s m args below meth c D E cA hc H locs lc hw hs hl
  refine W.lcmp hc.1 hc.2.1 hd (lv_if_gt hc.1 hc.2.1 hd2 ht (fun q => h1 ?_ p l e s m args below meth c D E cA hc H locs lc hw hs hl) (fun q => h2 ?_ p l e s m args below meth c D E cA hc H locs lc hw hs hl))
  · exact (lcmp_gt ha hb).mp q
  · exact fun r => q ((lcmp_gt ha hb).mpr r)
theorem r_lcmp_le {a b off : Int} {tgt : Nat} (hd : decode M.2.1 pc = .ok (.lcmp, 1)) (hd2 : decode M.2.1 (pc + 1) = .ok (.ifCond .le off, 3)) (ht : ((pc + 1 : Nat) : Int) + off = (tgt : Int)) (ha : InL a) (hb : InL b) (h1 : a ≤ b → Rn d M z tgt ls sk G Q) (h2 : ¬ (a ≤ b) → Rn d M z (pc + 4) ls sk G Q) : Rn d M z pc ls ((1, b) :: (1, a) :: sk) G Q := by
  intro p l e s m args below meth c D E cA hc H locs lc hw hs hl
  refine W.lcmp hc.1 hc.2.1 hd (lv_if_le hc.1 hc.2.1 hd2 ht (fun q => h1 ?_ p l e s m args below meth c D E cA hc H locs lc hw hs hl) (fun q => h2 ?_ p l e s m args below meth c D E cA hc H locs lc hw hs hl))
  · exact (lcmp_le ha hb).mp q
  · exact fun r => q ((lcmp_le ha hb).mpr r)
end RROWS
