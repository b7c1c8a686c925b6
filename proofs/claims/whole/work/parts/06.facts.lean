/-- the bases of a class -/
def basL : List (List Int) := [[6], [37, 55, 187, 218, 249, 280], [19], [43, 61, 193, 224, 255, 286], [12], [3], [33], [50, 51, 52, 53, 54, 68, 69, 70, 71, 72, 200, 201, 202, 203, 204, 231, 232, 233, 234, 235, 262, 263, 264, 265, 266, 293, 294, 295, 296, 297], [73, 20, 87, 95, 103, 111, 119, 127, 135, 143, 151, 159, 167, 175, 205, 236, 267, 298], [81, 213, 244, 275, 306], [1], [0], [311]]
def Bs (ci : Nat) (b : Int) : Prop := b ∈ basL.getD ci []
abbrev zN : Zt := (NT, 0, 0, 0, 0, some lay)
theorem bsob_0 : ∀ b ∈ basL.getD 0 [], 0 ≤ b ∧ b.toNat < NT ∧ shp b.toNat = (20 + 0, nf 0) := by decide +kernel
theorem bsob_1 : ∀ b ∈ basL.getD 1 [], 0 ≤ b ∧ b.toNat < NT ∧ shp b.toNat = (20 + 1, nf 1) := by decide +kernel
theorem bsob_2 : ∀ b ∈ basL.getD 2 [], 0 ≤ b ∧ b.toNat < NT ∧ shp b.toNat = (20 + 2, nf 2) := by decide +kernel
theorem bsob_3 : ∀ b ∈ basL.getD 3 [], 0 ≤ b ∧ b.toNat < NT ∧ shp b.toNat = (20 + 3, nf 3) := by decide +kernel
theorem bsob_4 : ∀ b ∈ basL.getD 4 [], 0 ≤ b ∧ b.toNat < NT ∧ shp b.toNat = (20 + 4, nf 4) := by decide +kernel
theorem bsob_5 : ∀ b ∈ basL.getD 5 [], 0 ≤ b ∧ b.toNat < NT ∧ shp b.toNat = (20 + 5, nf 5) := by decide +kernel
theorem bsob_6 : ∀ b ∈ basL.getD 6 [], 0 ≤ b ∧ b.toNat < NT ∧ shp b.toNat = (20 + 6, nf 6) := by decide +kernel
theorem bsob_7 : ∀ b ∈ basL.getD 7 [], 0 ≤ b ∧ b.toNat < NT ∧ shp b.toNat = (20 + 7, nf 7) := by decide +kernel
theorem bsob_8 : ∀ b ∈ basL.getD 8 [], 0 ≤ b ∧ b.toNat < NT ∧ shp b.toNat = (20 + 8, nf 8) := by decide +kernel
theorem bsob_9 : ∀ b ∈ basL.getD 9 [], 0 ≤ b ∧ b.toNat < NT ∧ shp b.toNat = (20 + 9, nf 9) := by decide +kernel
theorem bsob_10 : ∀ b ∈ basL.getD 10 [], 0 ≤ b ∧ b.toNat < NT ∧ shp b.toNat = (20 + 10, nf 10) := by decide +kernel
theorem bsob_11 : ∀ b ∈ basL.getD 11 [], 0 ≤ b ∧ b.toNat < NT ∧ shp b.toNat = (20 + 11, nf 11) := by decide +kernel
theorem bsob_12 : ∀ b ∈ basL.getD 12 [], 0 ≤ b ∧ b.toNat < NT ∧ shp b.toNat = (20 + 12, nf 12) := by decide +kernel
theorem bs_ob {ci : Nat} {b : Int} (h : Bs ci b) : Ob NT b ci := by
  match ci, h with
  | 0, h => exact bsob_0 b h
  | 1, h => exact bsob_1 b h
  | 2, h => exact bsob_2 b h
  | 3, h => exact bsob_3 b h
  | 4, h => exact bsob_4 b h
  | 5, h => exact bsob_5 b h
  | 6, h => exact bsob_6 b h
  | 7, h => exact bsob_7 b h
  | 8, h => exact bsob_8 b h
  | 9, h => exact bsob_9 b h
  | 10, h => exact bsob_10 b h
  | 11, h => exact bsob_11 b h
  | 12, h => exact bsob_12 b h
  | _ + 13, h => exact absurd h (by intro q; simp [Bs, basL] at q)
theorem bs_nn {ci : Nat} {b : Int} (h : Bs ci b) : 0 ≤ b := (bs_ob h).1
theorem bs_0 : Bs 0 6 := by unfold Bs; decide +kernel
theorem bs_2 : Bs 2 19 := by unfold Bs; decide +kernel
theorem bs_4 : Bs 4 12 := by unfold Bs; decide +kernel
theorem bs_5 : Bs 5 3 := by unfold Bs; decide +kernel
theorem bs_6 : Bs 6 33 := by unfold Bs; decide +kernel
theorem bs_10 : Bs 10 1 := by unfold Bs; decide +kernel
theorem bs_11 : Bs 11 0 := by unfold Bs; decide +kernel
theorem bs_12 : Bs 12 311 := by unfold Bs; decide +kernel
theorem ly_0_0 (_ : Bs 0 6) : lay 6 0 = 7 ∧ (0 : Int) ≤ 7 ∧ Ar NT (7) 0 5 := ⟨by decide +kernel, by decide, by unfold Ar; decide +kernel⟩
theorem ly_0_1 (_ : Bs 0 6) : lay 6 1 = 8 ∧ (0 : Int) ≤ 8 ∧ Ar NT (8) 0 5 := ⟨by decide +kernel, by decide, by unfold Ar; decide +kernel⟩
theorem ly_0_2 (_ : Bs 0 6) : lay 6 2 = 9 ∧ (0 : Int) ≤ 9 ∧ Ar NT (9) 0 10 := ⟨by decide +kernel, by decide, by unfold Ar; decide +kernel⟩
theorem ly_0_3 (_ : Bs 0 6) : lay 6 3 = 10 ∧ (0 : Int) ≤ 10 ∧ Ar NT (10) 0 5 := ⟨by decide +kernel, by decide, by unfold Ar; decide +kernel⟩
theorem ly_0_4 (_ : Bs 0 6) : lay 6 4 = 11 ∧ (0 : Int) ≤ 11 ∧ Ar NT (11) 0 4 := ⟨by decide +kernel, by decide, by unfold Ar; decide +kernel⟩
theorem ly0_1_0 : ∀ b ∈ basL.getD 1 [], lay b 0 = b + 1 ∧ 0 ≤ b + 1 ∧ (0 ≤ b + 1 ∧ (b + 1 : Int).toNat < NT ∧ shp (b + 1 : Int).toNat = (7, 5) ∧ 7 < 8 ∧ 5 < 2147483648) := by decide +kernel
theorem ly_1_0 {b : Int} (h : Bs 1 b) : lay b 0 = (b + 1) ∧ 0 ≤ (b + 1) ∧ Ar NT (b + 1) 7 5 := ly0_1_0 b h
theorem ly0_1_1 : ∀ b ∈ basL.getD 1 [], lay b 1 = b + 2 ∧ 0 ≤ b + 2 ∧ (0 ≤ b + 2 ∧ (b + 2 : Int).toNat < NT ∧ shp (b + 2 : Int).toNat = (0, 5) ∧ 0 < 8 ∧ 5 < 2147483648) := by decide +kernel
theorem ly_1_1 {b : Int} (h : Bs 1 b) : lay b 1 = (b + 2) ∧ 0 ≤ (b + 2) ∧ Ar NT (b + 2) 0 5 := ly0_1_1 b h
theorem ly0_1_2 : ∀ b ∈ basL.getD 1 [], lay b 2 = b + 3 ∧ 0 ≤ b + 3 ∧ (0 ≤ b + 3 ∧ (b + 3 : Int).toNat < NT ∧ shp (b + 3 : Int).toNat = (0, 5) ∧ 0 < 8 ∧ 5 < 2147483648) := by decide +kernel
theorem ly_1_2 {b : Int} (h : Bs 1 b) : lay b 2 = (b + 3) ∧ 0 ≤ (b + 3) ∧ Ar NT (b + 3) 0 5 := ly0_1_2 b h
theorem ly0_1_3 : ∀ b ∈ basL.getD 1 [], lay b 3 = b + 4 ∧ 0 ≤ b + 4 ∧ (0 ≤ b + 4 ∧ (b + 4 : Int).toNat < NT ∧ shp (b + 4 : Int).toNat = (0, 72) ∧ 0 < 8 ∧ 72 < 2147483648) := by decide +kernel
theorem ly_1_3 {b : Int} (h : Bs 1 b) : lay b 3 = (b + 4) ∧ 0 ≤ (b + 4) ∧ Ar NT (b + 4) 0 72 := ly0_1_3 b h
theorem ly0_1_4 : ∀ b ∈ basL.getD 1 [], lay b 4 = b + 5 ∧ 0 ≤ b + 5 ∧ (0 ≤ b + 5 ∧ (b + 5 : Int).toNat < NT ∧ shp (b + 5 : Int).toNat = (0, 4) ∧ 0 < 8 ∧ 4 < 2147483648) := by decide +kernel
theorem ly_1_4 {b : Int} (h : Bs 1 b) : lay b 4 = (b + 5) ∧ 0 ≤ (b + 5) ∧ Ar NT (b + 5) 0 4 := ly0_1_4 b h
theorem ly0_1_5 : ∀ b ∈ basL.getD 1 [], lay b 5 = b + 6 ∧ 0 ≤ b + 6 ∧ (b + 6) ∈ basL.getD 3 [] := by decide +kernel
theorem ly_1_5 {b : Int} (h : Bs 1 b) : lay b 5 = (b + 6) ∧ 0 ≤ (b + 6) ∧ Bs 3 (b + 6) := ly0_1_5 b h
theorem ly_2_0 (_ : Bs 2 19) : lay 19 0 = 20 ∧ (0 : Int) ≤ 20 ∧ Bs 8 (20) := ⟨by decide +kernel, by decide, by unfold Bs; decide +kernel⟩
theorem ly_2_1 (_ : Bs 2 19) : lay 19 1 = 28 ∧ (0 : Int) ≤ 28 ∧ Ar NT (28) 0 5 := ⟨by decide +kernel, by decide, by unfold Ar; decide +kernel⟩
theorem ly_2_2 (_ : Bs 2 19) : lay 19 2 = 29 ∧ (0 : Int) ≤ 29 ∧ Ar NT (29) 0 5 := ⟨by decide +kernel, by decide, by unfold Ar; decide +kernel⟩
theorem ly_2_3 (_ : Bs 2 19) : lay 19 3 = 30 ∧ (0 : Int) ≤ 30 ∧ Ar NT (30) 0 5 := ⟨by decide +kernel, by decide, by unfold Ar; decide +kernel⟩
theorem ly_2_8 (_ : Bs 2 19) : lay 19 8 = 31 ∧ (0 : Int) ≤ 31 ∧ Ar NT (31) 0 5 := ⟨by decide +kernel, by decide, by unfold Ar; decide +kernel⟩
theorem ly_2_9 (_ : Bs 2 19) : lay 19 9 = 32 ∧ (0 : Int) ≤ 32 ∧ Ar NT (32) 0 5 := ⟨by decide +kernel, by decide, by unfold Ar; decide +kernel⟩
theorem ly0_3_0 : ∀ b ∈ basL.getD 3 [], lay b 0 = b + 1 ∧ 0 ≤ b + 1 ∧ (0 ≤ b + 1 ∧ (b + 1 : Int).toNat < NT ∧ shp (b + 1 : Int).toNat = (0, 8) ∧ 0 < 8 ∧ 8 < 2147483648) := by decide +kernel
theorem ly_3_0 {b : Int} (h : Bs 3 b) : lay b 0 = (b + 1) ∧ 0 ≤ (b + 1) ∧ Ar NT (b + 1) 0 8 := ly0_3_0 b h
theorem ly0_3_1 : ∀ b ∈ basL.getD 3 [], lay b 1 = b + 2 ∧ 0 ≤ b + 2 ∧ (0 ≤ b + 2 ∧ (b + 2 : Int).toNat < NT ∧ shp (b + 2 : Int).toNat = (0, 3) ∧ 0 < 8 ∧ 3 < 2147483648) := by decide +kernel
theorem ly_3_1 {b : Int} (h : Bs 3 b) : lay b 1 = (b + 2) ∧ 0 ≤ (b + 2) ∧ Ar NT (b + 2) 0 3 := ly0_3_1 b h
theorem ly0_3_2 : ∀ b ∈ basL.getD 3 [], lay b 2 = b + 3 ∧ 0 ≤ b + 3 ∧ (0 ≤ b + 3 ∧ (b + 3 : Int).toNat < NT ∧ shp (b + 3 : Int).toNat = (0, 3) ∧ 0 < 8 ∧ 3 < 2147483648) := by decide +kernel
theorem ly_3_2 {b : Int} (h : Bs 3 b) : lay b 2 = (b + 3) ∧ 0 ≤ (b + 3) ∧ Ar NT (b + 3) 0 3 := ly0_3_2 b h
theorem ly0_3_3 : ∀ b ∈ basL.getD 3 [], lay b 3 = b + 4 ∧ 0 ≤ b + 4 ∧ (0 ≤ b + 4 ∧ (b + 4 : Int).toNat < NT ∧ shp (b + 4 : Int).toNat = (0, 3) ∧ 0 < 8 ∧ 3 < 2147483648) := by decide +kernel
theorem ly_3_3 {b : Int} (h : Bs 3 b) : lay b 3 = (b + 4) ∧ 0 ≤ (b + 4) ∧ Ar NT (b + 4) 0 3 := ly0_3_3 b h
theorem ly0_3_4 : ∀ b ∈ basL.getD 3 [], lay b 4 = b + 5 ∧ 0 ≤ b + 5 ∧ (0 ≤ b + 5 ∧ (b + 5 : Int).toNat < NT ∧ shp (b + 5 : Int).toNat = (0, 1000) ∧ 0 < 8 ∧ 1000 < 2147483648) := by decide +kernel
theorem ly_3_4 {b : Int} (h : Bs 3 b) : lay b 4 = (b + 5) ∧ 0 ≤ (b + 5) ∧ Ar NT (b + 5) 0 1000 := ly0_3_4 b h
theorem ly0_3_5 : ∀ b ∈ basL.getD 3 [], lay b 5 = b + 6 ∧ 0 ≤ b + 6 ∧ (0 ≤ b + 6 ∧ (b + 6 : Int).toNat < NT ∧ shp (b + 6 : Int).toNat = (0, 40) ∧ 0 < 8 ∧ 40 < 2147483648) := by decide +kernel
theorem ly_3_5 {b : Int} (h : Bs 3 b) : lay b 5 = (b + 6) ∧ 0 ≤ (b + 6) ∧ Ar NT (b + 6) 0 40 := ly0_3_5 b h
theorem ly_4_2 (_ : Bs 4 12) : lay 12 2 = 13 ∧ (0 : Int) ≤ 13 ∧ Ar NT (13) 1 73 := ⟨by decide +kernel, by decide, by unfold Ar; decide +kernel⟩
theorem ly_4_3 (_ : Bs 4 12) : lay 12 3 = 14 ∧ (0 : Int) ≤ 14 ∧ Ar NT (14) 0 73 := ⟨by decide +kernel, by decide, by unfold Ar; decide +kernel⟩
theorem ly_4_4 (_ : Bs 4 12) : lay 12 4 = 15 ∧ (0 : Int) ≤ 15 ∧ Ar NT (15) 0 73 := ⟨by decide +kernel, by decide, by unfold Ar; decide +kernel⟩
theorem ly_4_5 (_ : Bs 4 12) : lay 12 5 = 16 ∧ (0 : Int) ≤ 16 ∧ Ar NT (16) 0 73 := ⟨by decide +kernel, by decide, by unfold Ar; decide +kernel⟩
theorem ly_4_6 (_ : Bs 4 12) : lay 12 6 = 17 ∧ (0 : Int) ≤ 17 ∧ Ar NT (17) 0 73 := ⟨by decide +kernel, by decide, by unfold Ar; decide +kernel⟩
theorem ly_4_7 (_ : Bs 4 12) : lay 12 7 = 18 ∧ (0 : Int) ≤ 18 ∧ Ar NT (18) 0 74 := ⟨by decide +kernel, by decide, by unfold Ar; decide +kernel⟩
theorem ly_5_0 (_ : Bs 5 3) : lay 3 0 = 4 ∧ (0 : Int) ≤ 4 ∧ Ar NT (4) 3 5 := ⟨by decide +kernel, by decide, by unfold Ar; decide +kernel⟩
theorem ly_5_1 (_ : Bs 5 3) : lay 3 1 = 5 ∧ (0 : Int) ≤ 5 ∧ Ar NT (5) 0 32 := ⟨by decide +kernel, by decide, by unfold Ar; decide +kernel⟩
theorem ly_6_0 (_ : Bs 6 33) : lay 33 0 = 34 ∧ (0 : Int) ≤ 34 ∧ Ar NT (34) 0 3 := ⟨by decide +kernel, by decide, by unfold Ar; decide +kernel⟩
theorem ly_6_1 (_ : Bs 6 33) : lay 33 1 = 35 ∧ (0 : Int) ≤ 35 ∧ Ar NT (35) 0 36 := ⟨by decide +kernel, by decide, by unfold Ar; decide +kernel⟩
theorem ly_6_2 (_ : Bs 6 33) : lay 33 2 = 36 ∧ (0 : Int) ≤ 36 ∧ Ar NT (36) 0 3 := ⟨by decide +kernel, by decide, by unfold Ar; decide +kernel⟩
theorem ly0_8_0 : ∀ b ∈ basL.getD 8 [], lay b 0 = b + 1 ∧ 0 ≤ b + 1 ∧ (0 ≤ b + 1 ∧ (b + 1 : Int).toNat < NT ∧ shp (b + 1 : Int).toNat = (0, 5) ∧ 0 < 8 ∧ 5 < 2147483648) := by decide +kernel
theorem ly_8_0 {b : Int} (h : Bs 8 b) : lay b 0 = (b + 1) ∧ 0 ≤ (b + 1) ∧ Ar NT (b + 1) 0 5 := ly0_8_0 b h
theorem ly0_8_1 : ∀ b ∈ basL.getD 8 [], lay b 1 = b + 2 ∧ 0 ≤ b + 2 ∧ (0 ≤ b + 2 ∧ (b + 2 : Int).toNat < NT ∧ shp (b + 2 : Int).toNat = (0, 5) ∧ 0 < 8 ∧ 5 < 2147483648) := by decide +kernel
theorem ly_8_1 {b : Int} (h : Bs 8 b) : lay b 1 = (b + 2) ∧ 0 ≤ (b + 2) ∧ Ar NT (b + 2) 0 5 := ly0_8_1 b h
theorem ly0_8_2 : ∀ b ∈ basL.getD 8 [], lay b 2 = b + 3 ∧ 0 ≤ b + 3 ∧ (0 ≤ b + 3 ∧ (b + 3 : Int).toNat < NT ∧ shp (b + 3 : Int).toNat = (0, 5) ∧ 0 < 8 ∧ 5 < 2147483648) := by decide +kernel
theorem ly_8_2 {b : Int} (h : Bs 8 b) : lay b 2 = (b + 3) ∧ 0 ≤ (b + 3) ∧ Ar NT (b + 3) 0 5 := ly0_8_2 b h
theorem ly0_8_3 : ∀ b ∈ basL.getD 8 [], lay b 3 = b + 4 ∧ 0 ≤ b + 4 ∧ (0 ≤ b + 4 ∧ (b + 4 : Int).toNat < NT ∧ shp (b + 4 : Int).toNat = (0, 5) ∧ 0 < 8 ∧ 5 < 2147483648) := by decide +kernel
theorem ly_8_3 {b : Int} (h : Bs 8 b) : lay b 3 = (b + 4) ∧ 0 ≤ (b + 4) ∧ Ar NT (b + 4) 0 5 := ly0_8_3 b h
theorem ly0_8_4 : ∀ b ∈ basL.getD 8 [], lay b 4 = b + 5 ∧ 0 ≤ b + 5 ∧ (0 ≤ b + 5 ∧ (b + 5 : Int).toNat < NT ∧ shp (b + 5 : Int).toNat = (0, 5) ∧ 0 < 8 ∧ 5 < 2147483648) := by decide +kernel
theorem ly_8_4 {b : Int} (h : Bs 8 b) : lay b 4 = (b + 5) ∧ 0 ≤ (b + 5) ∧ Ar NT (b + 5) 0 5 := ly0_8_4 b h
theorem ly0_8_5 : ∀ b ∈ basL.getD 8 [], lay b 5 = b + 6 ∧ 0 ≤ b + 6 ∧ (0 ≤ b + 6 ∧ (b + 6 : Int).toNat < NT ∧ shp (b + 6 : Int).toNat = (0, 5) ∧ 0 < 8 ∧ 5 < 2147483648) := by decide +kernel
theorem ly_8_5 {b : Int} (h : Bs 8 b) : lay b 5 = (b + 6) ∧ 0 ≤ (b + 6) ∧ Ar NT (b + 6) 0 5 := ly0_8_5 b h
theorem ly0_8_6 : ∀ b ∈ basL.getD 8 [], lay b 6 = b + 7 ∧ 0 ≤ b + 7 ∧ (0 ≤ b + 7 ∧ (b + 7 : Int).toNat < NT ∧ shp (b + 7 : Int).toNat = (0, 5) ∧ 0 < 8 ∧ 5 < 2147483648) := by decide +kernel
theorem ly_8_6 {b : Int} (h : Bs 8 b) : lay b 6 = (b + 7) ∧ 0 ≤ (b + 7) ∧ Ar NT (b + 7) 0 5 := ly0_8_6 b h
theorem ly0_9_0 : ∀ b ∈ basL.getD 9 [], lay b 0 = b + 1 ∧ 0 ≤ b + 1 ∧ (0 ≤ b + 1 ∧ (b + 1 : Int).toNat < NT ∧ shp (b + 1 : Int).toNat = (0, 5) ∧ 0 < 8 ∧ 5 < 2147483648) := by decide +kernel
theorem ly_9_0 {b : Int} (h : Bs 9 b) : lay b 0 = (b + 1) ∧ 0 ≤ (b + 1) ∧ Ar NT (b + 1) 0 5 := ly0_9_0 b h
theorem ly0_9_1 : ∀ b ∈ basL.getD 9 [], lay b 1 = b + 2 ∧ 0 ≤ b + 2 ∧ (0 ≤ b + 2 ∧ (b + 2 : Int).toNat < NT ∧ shp (b + 2 : Int).toNat = (0, 5) ∧ 0 < 8 ∧ 5 < 2147483648) := by decide +kernel
theorem ly_9_1 {b : Int} (h : Bs 9 b) : lay b 1 = (b + 2) ∧ 0 ≤ (b + 2) ∧ Ar NT (b + 2) 0 5 := ly0_9_1 b h
theorem ly0_9_2 : ∀ b ∈ basL.getD 9 [], lay b 2 = b + 3 ∧ 0 ≤ b + 3 ∧ (0 ≤ b + 3 ∧ (b + 3 : Int).toNat < NT ∧ shp (b + 3 : Int).toNat = (0, 5) ∧ 0 < 8 ∧ 5 < 2147483648) := by decide +kernel
theorem ly_9_2 {b : Int} (h : Bs 9 b) : lay b 2 = (b + 3) ∧ 0 ≤ (b + 3) ∧ Ar NT (b + 3) 0 5 := ly0_9_2 b h
theorem ly0_9_3 : ∀ b ∈ basL.getD 9 [], lay b 3 = b + 4 ∧ 0 ≤ b + 4 ∧ (0 ≤ b + 4 ∧ (b + 4 : Int).toNat < NT ∧ shp (b + 4 : Int).toNat = (0, 60) ∧ 0 < 8 ∧ 60 < 2147483648) := by decide +kernel
theorem ly_9_3 {b : Int} (h : Bs 9 b) : lay b 3 = (b + 4) ∧ 0 ≤ (b + 4) ∧ Ar NT (b + 4) 0 60 := ly0_9_3 b h
theorem ly_10_0 (_ : Bs 10 1) : lay 1 0 = 2 ∧ (0 : Int) ≤ 2 ∧ Ar NT (2) 2 1000 := ⟨by decide +kernel, by decide, by unfold Ar; decide +kernel⟩
theorem ly_11_0 (_ : Bs 11 0) : lay 0 0 = 1 ∧ (0 : Int) ≤ 1 ∧ Bs 10 (1) := ⟨by decide +kernel, by decide, by unfold Bs; decide +kernel⟩
theorem ly_11_1 (_ : Bs 11 0) : lay 0 1 = 3 ∧ (0 : Int) ≤ 3 ∧ Bs 5 (3) := ⟨by decide +kernel, by decide, by unfold Bs; decide +kernel⟩
theorem ly_11_2 (_ : Bs 11 0) : lay 0 2 = 6 ∧ (0 : Int) ≤ 6 ∧ Bs 0 (6) := ⟨by decide +kernel, by decide, by unfold Bs; decide +kernel⟩
theorem ly_11_3 (_ : Bs 11 0) : lay 0 3 = 12 ∧ (0 : Int) ≤ 12 ∧ Bs 4 (12) := ⟨by decide +kernel, by decide, by unfold Bs; decide +kernel⟩
theorem ly_11_4 (_ : Bs 11 0) : lay 0 4 = 19 ∧ (0 : Int) ≤ 19 ∧ Bs 2 (19) := ⟨by decide +kernel, by decide, by unfold Bs; decide +kernel⟩
theorem ly_11_5 (_ : Bs 11 0) : lay 0 5 = 33 ∧ (0 : Int) ≤ 33 ∧ Bs 6 (33) := ⟨by decide +kernel, by decide, by unfold Bs; decide +kernel⟩
theorem ly_11_6 (_ : Bs 11 0) : lay 0 6 = 86 ∧ (0 : Int) ≤ 86 ∧ Ar NT (86) 4 12 := ⟨by decide +kernel, by decide, by unfold Ar; decide +kernel⟩
theorem ly_11_7 (_ : Bs 11 0) : lay 0 7 = 184 ∧ (0 : Int) ≤ 184 ∧ Ar NT (184) 5 4 := ⟨by decide +kernel, by decide, by unfold Ar; decide +kernel⟩
theorem ly_11_8 (_ : Bs 11 0) : lay 0 8 = 185 ∧ (0 : Int) ≤ 185 ∧ Ar NT (185) 4 4 := ⟨by decide +kernel, by decide, by unfold Ar; decide +kernel⟩
theorem ly_11_9 (_ : Bs 11 0) : lay 0 9 = 186 ∧ (0 : Int) ≤ 186 ∧ Ar NT (186) 6 4 := ⟨by decide +kernel, by decide, by unfold Ar; decide +kernel⟩
theorem ly_11_10 (_ : Bs 11 0) : lay 0 10 = 183 ∧ (0 : Int) ≤ 183 ∧ Ar NT (183) 1 4 := ⟨by decide +kernel, by decide, by unfold Ar; decide +kernel⟩
theorem ly_11_11 (_ : Bs 11 0) : lay 0 11 = 73 ∧ (0 : Int) ≤ 73 ∧ Bs 8 (73) := ⟨by decide +kernel, by decide, by unfold Bs; decide +kernel⟩
theorem ly_11_12 (_ : Bs 11 0) : lay 0 12 = 81 ∧ (0 : Int) ≤ 81 ∧ Bs 9 (81) := ⟨by decide +kernel, by decide, by unfold Bs; decide +kernel⟩
theorem ly_12_2 (_ : Bs 12 311) : lay 311 2 = 312 ∧ (0 : Int) ≤ 312 ∧ Ar NT (312) 0 1000 := ⟨by decide +kernel, by decide, by unfold Ar; decide +kernel⟩
theorem ly_12_10 (_ : Bs 12 311) : lay 311 10 = 313 ∧ (0 : Int) ≤ 313 ∧ Ar NT (313) 0 72 := ⟨by decide +kernel, by decide, by unfold Ar; decide +kernel⟩
theorem ly_12_11 (_ : Bs 12 311) : lay 311 11 = 314 ∧ (0 : Int) ≤ 314 ∧ Ar NT (314) 3 5 := ⟨by decide +kernel, by decide, by unfold Ar; decide +kernel⟩
theorem ly_12_12 (_ : Bs 12 311) : lay 311 12 = 315 ∧ (0 : Int) ≤ 315 ∧ Ar NT (315) 0 30 := ⟨by decide +kernel, by decide, by unfold Ar; decide +kernel⟩
theorem ly_12_13 (_ : Bs 12 311) : lay 311 13 = 316 ∧ (0 : Int) ≤ 316 ∧ Ar NT (316) 0 30 := ⟨by decide +kernel, by decide, by unfold Ar; decide +kernel⟩
theorem ly_12_14 (_ : Bs 12 311) : lay 311 14 = 317 ∧ (0 : Int) ≤ 317 ∧ Ar NT (317) 0 30 := ⟨by decide +kernel, by decide, by unfold Ar; decide +kernel⟩
theorem ly_12_15 (_ : Bs 12 311) : lay 311 15 = 318 ∧ (0 : Int) ≤ 318 ∧ Ar NT (318) 0 30 := ⟨by decide +kernel, by decide, by unfold Ar; decide +kernel⟩
theorem ly_12_16 (_ : Bs 12 311) : lay 311 16 = 319 ∧ (0 : Int) ≤ 319 ∧ Ar NT (319) 0 30 := ⟨by decide +kernel, by decide, by unfold Ar; decide +kernel⟩
theorem ly_12_17 (_ : Bs 12 311) : lay 311 17 = 320 ∧ (0 : Int) ≤ 320 ∧ Ar NT (320) 0 30 := ⟨by decide +kernel, by decide, by unfold Ar; decide +kernel⟩
theorem ly_12_18 (_ : Bs 12 311) : lay 311 18 = 321 ∧ (0 : Int) ≤ 321 ∧ Ar NT (321) 0 30 := ⟨by decide +kernel, by decide, by unfold Ar; decide +kernel⟩
theorem ly_12_19 (_ : Bs 12 311) : lay 311 19 = 322 ∧ (0 : Int) ≤ 322 ∧ Ar NT (322) 0 30 := ⟨by decide +kernel, by decide, by unfold Ar; decide +kernel⟩
theorem ly_12_20 (_ : Bs 12 311) : lay 311 20 = 323 ∧ (0 : Int) ≤ 323 ∧ Ar NT (323) 0 30 := ⟨by decide +kernel, by decide, by unfold Ar; decide +kernel⟩
theorem ly_12_21 (_ : Bs 12 311) : lay 311 21 = 324 ∧ (0 : Int) ≤ 324 ∧ Ar NT (324) 0 30 := ⟨by decide +kernel, by decide, by unfold Ar; decide +kernel⟩
theorem ly_12_22 (_ : Bs 12 311) : lay 311 22 = 325 ∧ (0 : Int) ≤ 325 ∧ Ar NT (325) 0 48 := ⟨by decide +kernel, by decide, by unfold Ar; decide +kernel⟩
theorem ly_12_23 (_ : Bs 12 311) : lay 311 23 = 326 ∧ (0 : Int) ≤ 326 ∧ Ar NT (326) 0 48 := ⟨by decide +kernel, by decide, by unfold Ar; decide +kernel⟩
theorem ly_12_24 (_ : Bs 12 311) : lay 311 24 = 327 ∧ (0 : Int) ≤ 327 ∧ Ar NT (327) 0 18 := ⟨by decide +kernel, by decide, by unfold Ar; decide +kernel⟩
theorem ly_12_25 (_ : Bs 12 311) : lay 311 25 = 328 ∧ (0 : Int) ≤ 328 ∧ Ar NT (328) 0 18 := ⟨by decide +kernel, by decide, by unfold Ar; decide +kernel⟩
theorem ly_12_26 (_ : Bs 12 311) : lay 311 26 = 329 ∧ (0 : Int) ≤ 329 ∧ Ar NT (329) 0 6000 := ⟨by decide +kernel, by decide, by unfold Ar; decide +kernel⟩
theorem ly_12_30 (_ : Bs 12 311) : lay 311 30 = 330 ∧ (0 : Int) ≤ 330 ∧ Ar NT (330) 0 7 := ⟨by decide +kernel, by decide, by unfold Ar; decide +kernel⟩
theorem ly_12_31 (_ : Bs 12 311) : lay 311 31 = 331 ∧ (0 : Int) ≤ 331 ∧ Ar NT (331) 1 7 := ⟨by decide +kernel, by decide, by unfold Ar; decide +kernel⟩
theorem ly_12_32 (_ : Bs 12 311) : lay 311 32 = 332 ∧ (0 : Int) ≤ 332 ∧ Ar NT (332) 0 7 := ⟨by decide +kernel, by decide, by unfold Ar; decide +kernel⟩
theorem ly_12_33 (_ : Bs 12 311) : lay 311 33 = 333 ∧ (0 : Int) ≤ 333 ∧ Ar NT (333) 0 7 := ⟨by decide +kernel, by decide, by unfold Ar; decide +kernel⟩
theorem ly_12_34 (_ : Bs 12 311) : lay 311 34 = 334 ∧ (0 : Int) ≤ 334 ∧ Ar NT (334) 0 7 := ⟨by decide +kernel, by decide, by unfold Ar; decide +kernel⟩
theorem ly_12_35 (_ : Bs 12 311) : lay 311 35 = 335 ∧ (0 : Int) ≤ 335 ∧ Ar NT (335) 0 7 := ⟨by decide +kernel, by decide, by unfold Ar; decide +kernel⟩
theorem ly_12_36 (_ : Bs 12 311) : lay 311 36 = 336 ∧ (0 : Int) ≤ 336 ∧ Ar NT (336) 0 7 := ⟨by decide +kernel, by decide, by unfold Ar; decide +kernel⟩
theorem ly_12_37 (_ : Bs 12 311) : lay 311 37 = 337 ∧ (0 : Int) ≤ 337 ∧ Ar NT (337) 0 7 := ⟨by decide +kernel, by decide, by unfold Ar; decide +kernel⟩
theorem ly_12_38 (_ : Bs 12 311) : lay 311 38 = 338 ∧ (0 : Int) ≤ 338 ∧ Ar NT (338) 0 7 := ⟨by decide +kernel, by decide, by unfold Ar; decide +kernel⟩
theorem ly_12_39 (_ : Bs 12 311) : lay 311 39 = 339 ∧ (0 : Int) ≤ 339 ∧ Ar NT (339) 0 7 := ⟨by decide +kernel, by decide, by unfold Ar; decide +kernel⟩
theorem ly_12_40 (_ : Bs 12 311) : lay 311 40 = 340 ∧ (0 : Int) ≤ 340 ∧ Ar NT (340) 0 7 := ⟨by decide +kernel, by decide, by unfold Ar; decide +kernel⟩
theorem ly_12_41 (_ : Bs 12 311) : lay 311 41 = 341 ∧ (0 : Int) ≤ 341 ∧ Ar NT (341) 0 20 := ⟨by decide +kernel, by decide, by unfold Ar; decide +kernel⟩
theorem ly_12_43 (_ : Bs 12 311) : lay 311 43 = 342 ∧ (0 : Int) ≤ 342 ∧ Ar NT (342) 0 116 := ⟨by decide +kernel, by decide, by unfold Ar; decide +kernel⟩
theorem ly_12_44 (_ : Bs 12 311) : lay 311 44 = 343 ∧ (0 : Int) ≤ 343 ∧ Ar NT (343) 0 464 := ⟨by decide +kernel, by decide, by unfold Ar; decide +kernel⟩
theorem ly_12_45 (_ : Bs 12 311) : lay 311 45 = 344 ∧ (0 : Int) ≤ 344 ∧ Ar NT (344) 0 1392 := ⟨by decide +kernel, by decide, by unfold Ar; decide +kernel⟩
theorem ly_12_50 (_ : Bs 12 311) : lay 311 50 = 345 ∧ (0 : Int) ≤ 345 ∧ Ar NT (345) 0 14600 := ⟨by decide +kernel, by decide, by unfold Ar; decide +kernel⟩
theorem ly_12_51 (_ : Bs 12 311) : lay 311 51 = 346 ∧ (0 : Int) ≤ 346 ∧ Ar NT (346) 1 14600 := ⟨by decide +kernel, by decide, by unfold Ar; decide +kernel⟩
theorem ly_12_52 (_ : Bs 12 311) : lay 311 52 = 347 ∧ (0 : Int) ≤ 347 ∧ Ar NT (347) 0 73 := ⟨by decide +kernel, by decide, by unfold Ar; decide +kernel⟩
theorem ly_12_53 (_ : Bs 12 311) : lay 311 53 = 348 ∧ (0 : Int) ≤ 348 ∧ Ar NT (348) 0 73 := ⟨by decide +kernel, by decide, by unfold Ar; decide +kernel⟩
theorem ly_12_54 (_ : Bs 12 311) : lay 311 54 = 349 ∧ (0 : Int) ≤ 349 ∧ Ar NT (349) 0 5 := ⟨by decide +kernel, by decide, by unfold Ar; decide +kernel⟩
theorem ly_12_55 (_ : Bs 12 311) : lay 311 55 = 350 ∧ (0 : Int) ≤ 350 ∧ Ar NT (350) 0 5 := ⟨by decide +kernel, by decide, by unfold Ar; decide +kernel⟩
theorem ly_12_56 (_ : Bs 12 311) : lay 311 56 = 351 ∧ (0 : Int) ≤ 351 ∧ Ar NT (351) 0 5 := ⟨by decide +kernel, by decide, by unfold Ar; decide +kernel⟩
theorem ly_12_57 (_ : Bs 12 311) : lay 311 57 = 352 ∧ (0 : Int) ≤ 352 ∧ Ar NT (352) 0 5 := ⟨by decide +kernel, by decide, by unfold Ar; decide +kernel⟩
theorem ly_12_58 (_ : Bs 12 311) : lay 311 58 = 353 ∧ (0 : Int) ≤ 353 ∧ Ar NT (353) 0 5 := ⟨by decide +kernel, by decide, by unfold Ar; decide +kernel⟩
theorem ly_12_59 (_ : Bs 12 311) : lay 311 59 = 354 ∧ (0 : Int) ≤ 354 ∧ Ar NT (354) 0 5 := ⟨by decide +kernel, by decide, by unfold Ar; decide +kernel⟩
theorem ly_12_60 (_ : Bs 12 311) : lay 311 60 = 355 ∧ (0 : Int) ≤ 355 ∧ Ar NT (355) 0 5 := ⟨by decide +kernel, by decide, by unfold Ar; decide +kernel⟩
theorem ly_12_61 (_ : Bs 12 311) : lay 311 61 = 356 ∧ (0 : Int) ≤ 356 ∧ Ar NT (356) 0 5 := ⟨by decide +kernel, by decide, by unfold Ar; decide +kernel⟩
theorem ly_12_62 (_ : Bs 12 311) : lay 311 62 = 357 ∧ (0 : Int) ≤ 357 ∧ Ar NT (357) 0 5 := ⟨by decide +kernel, by decide, by unfold Ar; decide +kernel⟩
theorem ly_12_69 (_ : Bs 12 311) : lay 311 69 = 358 ∧ (0 : Int) ≤ 358 ∧ Ar NT (358) 0 5 := ⟨by decide +kernel, by decide, by unfold Ar; decide +kernel⟩
theorem ly_12_70 (_ : Bs 12 311) : lay 311 70 = 359 ∧ (0 : Int) ≤ 359 ∧ Ar NT (359) 0 5 := ⟨by decide +kernel, by decide, by unfold Ar; decide +kernel⟩
theorem ly_12_72 (_ : Bs 12 311) : lay 311 72 = 360 ∧ (0 : Int) ≤ 360 ∧ Ar NT (360) 0 3 := ⟨by decide +kernel, by decide, by unfold Ar; decide +kernel⟩
theorem ly_12_73 (_ : Bs 12 311) : lay 311 73 = 361 ∧ (0 : Int) ≤ 361 ∧ Ar NT (361) 0 3 := ⟨by decide +kernel, by decide, by unfold Ar; decide +kernel⟩
theorem ly_12_75 (_ : Bs 12 311) : lay 311 75 = 362 ∧ (0 : Int) ≤ 362 ∧ Ar NT (362) 1 4 := ⟨by decide +kernel, by decide, by unfold Ar; decide +kernel⟩
theorem el0_1_0 : ∀ b ∈ basL.getD 1 [], ∀ j ∈ List.range 5, lay (b + 1) (j : Int) = b + 13 + (j : Int) ∧ 0 ≤ b + 13 + (j : Int) ∧ (b + 13 + (j : Int)) ∈ basL.getD 7 [] := by decide +kernel
theorem el_1_0 {b : Int} (h : Bs 1 b) {i : Int} (h0 : 0 ≤ i) (h1 : i < 5) : lay (b + 1) i = b + 13 + i ∧ 0 ≤ b + 13 + i ∧ Bs 7 (b + 13 + i) := by
  obtain ⟨j, rfl⟩ := Int.eq_ofNat_of_zero_le h0
  exact el0_1_0 b h j (List.mem_range.mpr (by omega))
theorem el0_11_6 : ∀ b ∈ basL.getD 11 [], ∀ j ∈ List.range 12, lay 86 (j : Int) = 87 + 8 * (j : Int) ∧ 0 ≤ 87 + 8 * (j : Int) ∧ (87 + 8 * (j : Int)) ∈ basL.getD 8 [] := by decide +kernel
theorem el_11_6 (h : Bs 11 0) {i : Int} (h0 : 0 ≤ i) (h1 : i < 12) : lay 86 i = 87 + 8 * i ∧ 0 ≤ 87 + 8 * i ∧ Bs 8 (87 + 8 * i) := by
  obtain ⟨j, rfl⟩ := Int.eq_ofNat_of_zero_le h0
  exact el0_11_6 0 h j (List.mem_range.mpr (by omega))
theorem el0_11_7 : ∀ b ∈ basL.getD 11 [], ∀ j ∈ List.range 4, lay 184 (j : Int) = 187 + 31 * (j : Int) ∧ 0 ≤ 187 + 31 * (j : Int) ∧ (187 + 31 * (j : Int)) ∈ basL.getD 1 [] := by decide +kernel
theorem el_11_7 (h : Bs 11 0) {i : Int} (h0 : 0 ≤ i) (h1 : i < 4) : lay 184 i = 187 + 31 * i ∧ 0 ≤ 187 + 31 * i ∧ Bs 1 (187 + 31 * i) := by
  obtain ⟨j, rfl⟩ := Int.eq_ofNat_of_zero_le h0
  exact el0_11_7 0 h j (List.mem_range.mpr (by omega))
theorem el0_11_8 : ∀ b ∈ basL.getD 11 [], ∀ j ∈ List.range 4, lay 185 (j : Int) = 205 + 31 * (j : Int) ∧ 0 ≤ 205 + 31 * (j : Int) ∧ (205 + 31 * (j : Int)) ∈ basL.getD 8 [] := by decide +kernel
theorem el_11_8 (h : Bs 11 0) {i : Int} (h0 : 0 ≤ i) (h1 : i < 4) : lay 185 i = 205 + 31 * i ∧ 0 ≤ 205 + 31 * i ∧ Bs 8 (205 + 31 * i) := by
  obtain ⟨j, rfl⟩ := Int.eq_ofNat_of_zero_le h0
  exact el0_11_8 0 h j (List.mem_range.mpr (by omega))
theorem el0_11_9 : ∀ b ∈ basL.getD 11 [], ∀ j ∈ List.range 4, lay 186 (j : Int) = 213 + 31 * (j : Int) ∧ 0 ≤ 213 + 31 * (j : Int) ∧ (213 + 31 * (j : Int)) ∈ basL.getD 9 [] := by decide +kernel
theorem el_11_9 (h : Bs 11 0) {i : Int} (h0 : 0 ≤ i) (h1 : i < 4) : lay 186 i = 213 + 31 * i ∧ 0 ≤ 213 + 31 * i ∧ Bs 9 (213 + 31 * i) := by
  obtain ⟨j, rfl⟩ := Int.eq_ofNat_of_zero_le h0
  exact el0_11_9 0 h j (List.mem_range.mpr (by omega))
def M_X0_init : Mth := (yX0_init, cX0_init, 1, none)
def M_X0_look : Mth := (yX0_look, cX0_look, 7, none)
def M_X0_addSleeper : Mth := (yX0_addSleeper, cX0_addSleeper, 4, none)
def M_X0_wayAt : Mth := (yX0_wayAt, cX0_wayAt, 2, (some .int))
def M_X0_through : Mth := (yX0_through, cX0_through, 6, (some .int))
def M_X0_paid : Mth := (yX0_paid, cX0_paid, 5, (some .int))
def M_X0_whole : Mth := (yX0_whole, cX0_whole, 2, (some .int))
def M_X0_cheapest : Mth := (yX0_cheapest, cX0_cheapest, 6, (some .int))
def M_X0_waysPast : Mth := (yX0_waysPast, cX0_waysPast, 4, (some .int))
def M_X1_init : Mth := (yX1_init, cX1_init, 2, none)
def M_X1_clear : Mth := (yX1_clear, cX1_clear, 1, none)
def M_X1_take : Mth := (yX1_take, cX1_take, 3, none)
def M_X1_closed : Mth := (yX1_closed, cX1_closed, 2, (some .boolean))
def M_X1_waking : Mth := (yX1_waking, cX1_waking, 5, (some .int))
def M_X1_spilling : Mth := (yX1_spilling, cX1_spilling, 5, (some .int))
def M_X1_away : Mth := (yX1_away, cX1_away, 3, (some .int))
def M_X1_setSleeper : Mth := (yX1_setSleeper, cX1_setSleeper, 5, none)
def M_X1_bounded : Mth := (yX1_bounded, cX1_bounded, 2, (some .int))
def M_X2_init : Mth := (yX2_init, cX2_init, 1, none)
def M_X2_seatAsTold : Mth := (yX2_seatAsTold, cX2_seatAsTold, 2, none)
def M_X2_fly : Mth := (yX2_fly, cX2_fly, 5, none)
def M_X2_comeBack : Mth := (yX2_comeBack, cX2_comeBack, 5, none)
def M_X2_goOut : Mth := (yX2_goOut, cX2_goOut, 5, none)
def M_X2_rouse : Mth := (yX2_rouse, cX2_rouse, 4, (some .boolean))
def M_X2_drawBelow : Mth := (yX2_drawBelow, cX2_drawBelow, 2, (some .int))
def M_X2_pence : Mth := (yX2_pence, cX2_pence, 2, (some .int))
def M_X2_penceOf : Mth := (yX2_penceOf, cX2_penceOf, 3, (some .int))
def M_X2_saved : Mth := (yX2_saved, cX2_saved, 5, (some .int))
def M_X2_draw : Mth := (yX2_draw, cX2_draw, 5, none)
def M_X2_forget : Mth := (yX2_forget, cX2_forget, 1, none)
def M_X2_rank : Mth := (yX2_rank, cX2_rank, 5, none)
def M_X2_seatAsTried : Mth := (yX2_seatAsTried, cX2_seatAsTried, 4, none)
def M_X2_nextTrial : Mth := (yX2_nextTrial, cX2_nextTrial, 6, (some .boolean))
def M_X2_swapTrials : Mth := (yX2_swapTrials, cX2_swapTrials, 4, none)
def M_X3_init : Mth := (yX3_init, cX3_init, 1, none)
def M_X3_clear : Mth := (yX3_clear, cX3_clear, 1, none)
def M_X3_take : Mth := (yX3_take, cX3_take, 2, none)
def M_X3_begin : Mth := (yX3_begin, cX3_begin, 2, none)
def M_X3_end : Mth := (yX3_end, cX3_end, 2, none)
def M_X3_isTold : Mth := (yX3_isTold, cX3_isTold, 2, (some .boolean))
def M_X3_add : Mth := (yX3_add, cX3_add, 2, none)
def M_X3_setFact : Mth := (yX3_setFact, cX3_setFact, 3, none)
def M_X3_result : Mth := (yX3_result, cX3_result, 5, (some .int))
def M_X3_factOf : Mth := (yX3_factOf, cX3_factOf, 3, (some .int))
def M_X3_joined : Mth := (yX3_joined, cX3_joined, 3, (some .int))
def M_X4_init : Mth := (yX4_init, cX4_init, 1, none)
def M_X4_byCost : Mth := (yX4_byCost, cX4_byCost, 7, none)
def M_X4_byWakings : Mth := (yX4_byWakings, cX4_byWakings, 6, none)
def M_X4_plan : Mth := (yX4_plan, cX4_plan, 11, none)
def M_X4_lesser : Mth := (yX4_lesser, cX4_lesser, 6, (some .int))
def M_X5_init : Mth := (yX5_init, cX5_init, 1, none)
def M_X5_read : Mth := (yX5_read, cX5_read, 5, (some .int))
def M_X5_wrong : Mth := (yX5_wrong, cX5_wrong, 2, none)
def M_X5_stands : Mth := (yX5_stands, cX5_stands, 3, (some .boolean))
def M_X5_readWord : Mth := (yX5_readWord, cX5_readWord, 2, none)
def M_X5_readSign : Mth := (yX5_readSign, cX5_readSign, 2, none)
def M_X5_readNumber : Mth := (yX5_readNumber, cX5_readNumber, 4, (some .int))
def M_X5_readRow : Mth := (yX5_readRow, cX5_readRow, 1, none)
def M_X5_checkTimes : Mth := (yX5_checkTimes, cX5_checkTimes, 4, none)
def M_X5_readSitter : Mth := (yX5_readSitter, cX5_readSitter, 2, none)
def M_X5_readName : Mth := (yX5_readName, cX5_readName, 2, none)
def M_X5_readKind : Mth := (yX5_readKind, cX5_readKind, 2, none)
def M_X5_readSeat : Mth := (yX5_readSeat, cX5_readSeat, 3, (some .int))
def M_X5_readCup : Mth := (yX5_readCup, cX5_readCup, 2, none)
def M_X5_readShut : Mth := (yX5_readShut, cX5_readShut, 5, none)
def M_X5_readPrices : Mth := (yX5_readPrices, cX5_readPrices, 2, none)
def M_X5_readLaw : Mth := (yX5_readLaw, cX5_readLaw, 2, none)
def M_X5_readJoined : Mth := (yX5_readJoined, cX5_readJoined, 7, none)
def M_X5_joinOf : Mth := (yX5_joinOf, cX5_joinOf, 2, (some .int))
def M_X5_readPart : Mth := (yX5_readPart, cX5_readPart, 8, none)
def M_X6_init : Mth := (yX6_init, cX6_init, 1, none)
def M_X6_choose : Mth := (yX6_choose, cX6_choose, 6, (some .boolean))
def M_X6_addChooser : Mth := (yX6_addChooser, cX6_addChooser, 7, none)
def M_X6_choices : Mth := (yX6_choices, cX6_choices, 1, (some .int))
def M_X6_howMany : Mth := (yX6_howMany, cX6_howMany, 3, (some .int))
def M_X6_find : Mth := (yX6_find, cX6_find, 4, (some .int))
def M_X6_rest : Mth := (yX6_rest, cX6_rest, 6, (some .boolean))
def M_X6_pays : Mth := (yX6_pays, cX6_pays, 5, (some .int))
def M_X7_init : Mth := (yX7_init, cX7_init, 1, none)
def M_X7_take : Mth := (yX7_take, cX7_take, 2, none)
def M_X7_growth : Mth := (yX7_growth, cX7_growth, 2, (some .int))
def M_X7_deep : Mth := (yX7_deep, cX7_deep, 1, (some .int))
def M_X7_legsLong : Mth := (yX7_legsLong, cX7_legsLong, 1, (some .int))
def M_X8_init : Mth := (yX8_init, cX8_init, 1, none)
def M_X8_begin : Mth := (yX8_begin, cX8_begin, 2, none)
def M_X8_take : Mth := (yX8_take, cX8_take, 2, none)
def M_X8_asleep : Mth := (yX8_asleep, cX8_asleep, 5, (some .boolean))
def M_X8_ask : Mth := (yX8_ask, cX8_ask, 3, (some .boolean))
def M_X8_wake : Mth := (yX8_wake, cX8_wake, 2, none)
def M_X8_spillOn : Mth := (yX8_spillOn, cX8_spillOn, 3, none)
def M_X8_leave : Mth := (yX8_leave, cX8_leave, 3, none)
def M_X8_outside : Mth := (yX8_outside, cX8_outside, 4, (some .int))
def M_X8_cups : Mth := (yX8_cups, cX8_cups, 3, (some .int))
def M_X8_needIn : Mth := (yX8_needIn, cX8_needIn, 5, (some .int))
def M_X8_pass : Mth := (yX8_pass, cX8_pass, 5, none)
def M_X9_init : Mth := (yX9_init, cX9_init, 1, none)
def M_X9_clear : Mth := (yX9_clear, cX9_clear, 1, none)
def M_X9_take : Mth := (yX9_take, cX9_take, 2, none)
def M_X9_addTouch : Mth := (yX9_addTouch, cX9_addTouch, 3, (some .boolean))
def M_X9_likely : Mth := (yX9_likely, cX9_likely, 6, (some .long))
def M_X9_addWent : Mth := (yX9_addWent, cX9_addWent, 5, (some .boolean))
def M_X9_fitting : Mth := (yX9_fitting, cX9_fitting, 8, (some .boolean))
def M_X10_init : Mth := (yX10_init, cX10_init, 1, none)
def M_X10_put : Mth := (yX10_put, cX10_put, 5, none)
def M_X10_begin : Mth := (yX10_begin, cX10_begin, 1, none)
def M_X10_step : Mth := (yX10_step, cX10_step, 2, none)
def M_X10_readWord : Mth := (yX10_readWord, cX10_readWord, 1, none)
def M_X10_readNumber : Mth := (yX10_readNumber, cX10_readNumber, 1, none)
def M_X10_indexOf : Mth := (yX10_indexOf, cX10_indexOf, 8, (some .int))
def M_X10_reserved : Mth := (yX10_reserved, cX10_reserved, 1, (some .boolean))
def M_X10_isFactOf : Mth := (yX10_isFactOf, cX10_isFactOf, 2, (some .boolean))
def M_X10_isLetter : Mth := (yX10_isLetter, cX10_isLetter, 1, (some .boolean))
def M_X10_isDigit : Mth := (yX10_isDigit, cX10_isDigit, 1, (some .boolean))
def M_X10_isSign : Mth := (yX10_isSign, cX10_isSign, 1, (some .boolean))
def M_X11_init : Mth := (yX11_init, cX11_init, 2, none)
def M_X11_feed : Mth := (yX11_feed, cX11_feed, 7, (some .int))
def M_X11_cabin : Mth := (yX11_cabin, cX11_cabin, 3, (some .int))
def M_X11_sitter : Mth := (yX11_sitter, cX11_sitter, 4, (some .int))
def M_X11_seat : Mth := (yX11_seat, cX11_seat, 4, (some .int))
def M_X11_shut : Mth := (yX11_shut, cX11_shut, 2, (some .int))
def M_X11_go : Mth := (yX11_go, cX11_go, 4, (some .int))
def M_X11_back : Mth := (yX11_back, cX11_back, 4, (some .int))
def M_X11_undo : Mth := (yX11_undo, cX11_undo, 1, (some .boolean))
def M_X11_ticks : Mth := (yX11_ticks, cX11_ticks, 3, (some .int))
def M_X11_length : Mth := (yX11_length, cX11_length, 3, (some .int))
def M_X11_sleep : Mth := (yX11_sleep, cX11_sleep, 2, (some .int))
def M_X11_odds : Mth := (yX11_odds, cX11_odds, 3, (some .int))
def M_X11_chance : Mth := (yX11_chance, cX11_chance, 4, (some .int))
def M_X11_cost : Mth := (yX11_cost, cX11_cost, 3, (some .int))
def M_X11_best : Mth := (yX11_best, cX11_best, 2, (some .int))
def M_X11_side : Mth := (yX11_side, cX11_side, 4, (some .int))
def M_X11_regime : Mth := (yX11_regime, cX11_regime, 3, (some .int))
def M_X11_fewest : Mth := (yX11_fewest, cX11_fewest, 3, (some .int))
def M_X11_before : Mth := (yX11_before, cX11_before, 3, (some .int))
def M_X11_standing : Mth := (yX11_standing, cX11_standing, 7, (some .int))
def M_X11_habits : Mth := (yX11_habits, cX11_habits, 3, (some .int))
def M_X11_seated : Mth := (yX11_seated, cX11_seated, 2, (some .int))
def M_X11_aisle : Mth := (yX11_aisle, cX11_aisle, 2, (some .int))
def M_X11_beer : Mth := (yX11_beer, cX11_beer, 3, (some .int))
def M_X11_rests : Mth := (yX11_rests, cX11_rests, 3, (some .int))
def M_X11_touch : Mth := (yX11_touch, cX11_touch, 3, (some .boolean))
def M_X11_truly : Mth := (yX11_truly, cX11_truly, 8, (some .long))
def M_X11_went : Mth := (yX11_went, cX11_went, 3, (some .boolean))
def M_X11_fits : Mth := (yX11_fits, cX11_fits, 7, (some .int))
def M_X11_flights : Mth := (yX11_flights, cX11_flights, 4, (some .int))
def M_X11_mark : Mth := (yX11_mark, cX11_mark, 3, (some .boolean))
def M_X11_count : Mth := (yX11_count, cX11_count, 2, (some .int))
def M_X11_known : Mth := (yX11_known, cX11_known, 2, (some .boolean))
def M_X11_movable : Mth := (yX11_movable, cX11_movable, 2, (some .boolean))
def M_X11_rightWays : Mth := (yX11_rightWays, cX11_rightWays, 2, (some .boolean))
def M_X11_rightLuck : Mth := (yX11_rightLuck, cX11_rightLuck, 2, (some .boolean))
def M_X11_keepPast : Mth := (yX11_keepPast, cX11_keepPast, 1, none)
def M_X11_forgetPast : Mth := (yX11_forgetPast, cX11_forgetPast, 1, none)
def M_X11_passOut : Mth := (yX11_passOut, cX11_passOut, 5, (some .boolean))
def M_X11_passIn : Mth := (yX11_passIn, cX11_passIn, 5, (some .boolean))
def M_X11_passSeat : Mth := (yX11_passSeat, cX11_passSeat, 6, (some .boolean))
def M_X11_commonDivisor : Mth := (yX11_commonDivisor, cX11_commonDivisor, 11, (some .long))
def M_X12_init : Mth := (yX12_init, cX12_init, 1, none)
def M_X12_thrown : Mth := (yX12_thrown, cX12_thrown, 1, (some .int))
def M_X12_within : Mth := (yX12_within, cX12_within, 3, (some .boolean))
def M_X12_between : Mth := (yX12_between, cX12_between, 3, (some .int))
def M_X12_gcd : Mth := (yX12_gcd, cX12_gcd, 10, (some .long))
def M_X12_feed : Mth := (yX12_feed, cX12_feed, 11, (some .int))
def M_X12_signAt : Mth := (yX12_signAt, cX12_signAt, 2, (some .int))
def M_X12_nextToken : Mth := (yX12_nextToken, cX12_nextToken, 2, none)
def M_X12_isWord : Mth := (yX12_isWord, cX12_isWord, 3, (some .boolean))
def M_X12_isSign : Mth := (yX12_isSign, cX12_isSign, 2, (some .boolean))
def M_X12_fails : Mth := (yX12_fails, cX12_fails, 2, (some .boolean))
def M_X12_plain : Mth := (yX12_plain, cX12_plain, 3, none)
def M_X12_puts : Mth := (yX12_puts, cX12_puts, 2, none)
def M_X12_fact : Mth := (yX12_fact, cX12_fact, 1, (some .int))
def M_X12_reads : Mth := (yX12_reads, cX12_reads, 6, (some .boolean))
def M_X12_opens : Mth := (yX12_opens, cX12_opens, 2, none)
def M_X12_sums : Mth := (yX12_sums, cX12_sums, 2, none)
def M_X12_tests : Mth := (yX12_tests, cX12_tests, 3, none)
def M_X12_worked : Mth := (yX12_worked, cX12_worked, 6, (some .int))
def M_X12_isKept : Mth := (yX12_isKept, cX12_isKept, 1, (some .boolean))
def M_X12_needsNumber : Mth := (yX12_needsNumber, cX12_needsNumber, 3, (some .boolean))
def M_X12_needsWord : Mth := (yX12_needsWord, cX12_needsWord, 3, (some .boolean))
def M_X12_needsBoth : Mth := (yX12_needsBoth, cX12_needsBoth, 5, (some .boolean))
def M_X12_ends : Mth := (yX12_ends, cX12_ends, 1, (some .boolean))
def M_X12_kindAt : Mth := (yX12_kindAt, cX12_kindAt, 1, (some .int))
def M_X12_isTaken : Mth := (yX12_isTaken, cX12_isTaken, 3, (some .boolean))
def M_X12_readsSitter : Mth := (yX12_readsSitter, cX12_readsSitter, 5, (some .boolean))
def M_X12_readsCup : Mth := (yX12_readsCup, cX12_readsCup, 1, (some .boolean))
def M_X12_readsShut : Mth := (yX12_readsShut, cX12_readsShut, 4, (some .boolean))
def M_X12_isTwice : Mth := (yX12_isTwice, cX12_isTwice, 2, (some .boolean))
def M_X12_readsOne : Mth := (yX12_readsOne, cX12_readsOne, 4, (some .boolean))
def M_X12_readsPrice : Mth := (yX12_readsPrice, cX12_readsPrice, 2, (some .boolean))
def M_X12_readsLaw : Mth := (yX12_readsLaw, cX12_readsLaw, 2, (some .boolean))
def M_X12_readsAll : Mth := (yX12_readsAll, cX12_readsAll, 2, (some .boolean))
def M_X12_moves : Mth := (yX12_moves, cX12_moves, 5, none)
def M_X12_lays : Mth := (yX12_lays, cX12_lays, 4, none)
def M_X12_copies : Mth := (yX12_copies, cX12_copies, 5, none)
def M_X12_cabin : Mth := (yX12_cabin, cX12_cabin, 2, (some .int))
def M_X12_isSitter : Mth := (yX12_isSitter, cX12_isSitter, 2, (some .boolean))
def M_X12_growth : Mth := (yX12_growth, cX12_growth, 2, (some .int))
def M_X12_depthOf : Mth := (yX12_depthOf, cX12_depthOf, 2, (some .int))
def M_X12_legsOf : Mth := (yX12_legsOf, cX12_legsOf, 2, (some .int))
def M_X12_isAsleepAt : Mth := (yX12_isAsleepAt, cX12_isAsleepAt, 3, (some .boolean))
def M_X12_isAsleep : Mth := (yX12_isAsleep, cX12_isAsleep, 2, (some .boolean))
def M_X12_isShut : Mth := (yX12_isShut, cX12_isShut, 4, (some .boolean))
def M_X12_facts : Mth := (yX12_facts, cX12_facts, 5, none)
def M_X12_wakingBy : Mth := (yX12_wakingBy, cX12_wakingBy, 5, (some .int))
def M_X12_waking : Mth := (yX12_waking, cX12_waking, 3, (some .int))
def M_X12_spilling : Mth := (yX12_spilling, cX12_spilling, 4, (some .int))
def M_X12_queueAt : Mth := (yX12_queueAt, cX12_queueAt, 3, (some .int))
def M_X12_sitter : Mth := (yX12_sitter, cX12_sitter, 3, (some .int))
def M_X12_sitterOf : Mth := (yX12_sitterOf, cX12_sitterOf, 3, (some .int))
def M_X12_inSeat : Mth := (yX12_inSeat, cX12_inSeat, 3, (some .int))
def M_X12_seat : Mth := (yX12_seat, cX12_seat, 3, (some .int))
def M_X12_shut : Mth := (yX12_shut, cX12_shut, 2, (some .int))
def M_X12_keeps : Mth := (yX12_keeps, cX12_keeps, 2, none)
def M_X12_power : Mth := (yX12_power, cX12_power, 4, (some .int))
def M_X12_digit : Mth := (yX12_digit, cX12_digit, 2, (some .int))
def M_X12_areWays : Mth := (yX12_areWays, cX12_areWays, 3, (some .boolean))
def M_X12_wakes : Mth := (yX12_wakes, cX12_wakes, 2, none)
def M_X12_comesBy : Mth := (yX12_comesBy, cX12_comesBy, 4, (some .boolean))
def M_X12_passesBy : Mth := (yX12_passesBy, cX12_passesBy, 10, (some .boolean))
def M_X12_outNow : Mth := (yX12_outNow, cX12_outNow, 3, (some .int))
def M_X12_go : Mth := (yX12_go, cX12_go, 4, (some .int))
def M_X12_back : Mth := (yX12_back, cX12_back, 4, (some .int))
def M_X12_undo : Mth := (yX12_undo, cX12_undo, 2, (some .boolean))
def M_X12_passes : Mth := (yX12_passes, cX12_passes, 2, none)
def M_X12_ticks : Mth := (yX12_ticks, cX12_ticks, 3, (some .int))
def M_X12_needBehind : Mth := (yX12_needBehind, cX12_needBehind, 6, (some .int))
def M_X12_length : Mth := (yX12_length, cX12_length, 4, (some .int))
def M_X12_sleep : Mth := (yX12_sleep, cX12_sleep, 2, (some .int))
def M_X12_odds : Mth := (yX12_odds, cX12_odds, 3, (some .int))
def M_X12_weighs : Mth := (yX12_weighs, cX12_weighs, 8, none)
def M_X12_costOf : Mth := (yX12_costOf, cX12_costOf, 4, (some .int))
def M_X12_isAble : Mth := (yX12_isAble, cX12_isAble, 2, (some .boolean))
def M_X12_chance : Mth := (yX12_chance, cX12_chance, 4, (some .int))
def M_X12_cost : Mth := (yX12_cost, cX12_cost, 3, (some .int))
def M_X12_bestWays : Mth := (yX12_bestWays, cX12_bestWays, 9, (some .int))
def M_X12_best : Mth := (yX12_best, cX12_best, 2, (some .int))
def M_X12_side : Mth := (yX12_side, cX12_side, 2, (some .int))
def M_X12_regimes : Mth := (yX12_regimes, cX12_regimes, 13, none)
def M_X12_regime : Mth := (yX12_regime, cX12_regime, 4, (some .int))
def M_X12_asleepAhead : Mth := (yX12_asleepAhead, cX12_asleepAhead, 6, (some .int))
def M_X12_fewests : Mth := (yX12_fewests, cX12_fewests, 10, none)
def M_X12_fewest : Mth := (yX12_fewest, cX12_fewest, 5, (some .int))
def M_X12_before : Mth := (yX12_before, cX12_before, 4, (some .int))
def M_X12_standing : Mth := (yX12_standing, cX12_standing, 6, (some .int))
def M_X12_draws : Mth := (yX12_draws, cX12_draws, 2, (some .int))
def M_X12_seatsAll : Mth := (yX12_seatsAll, cX12_seatsAll, 2, none)
def M_X12_sleepsAt : Mth := (yX12_sleepsAt, cX12_sleepsAt, 3, (some .boolean))
def M_X12_rouses : Mth := (yX12_rouses, cX12_rouses, 4, (some .boolean))
def M_X12_rousesAll : Mth := (yX12_rousesAll, cX12_rousesAll, 7, (some .boolean))
def M_X12_outsNow : Mth := (yX12_outsNow, cX12_outsNow, 3, (some .int))
def M_X12_livesTick : Mth := (yX12_livesTick, cX12_livesTick, 4, none)
def M_X12_livesFlight : Mth := (yX12_livesFlight, cX12_livesFlight, 2, none)
def M_X12_pence : Mth := (yX12_pence, cX12_pence, 1, (some .int))
def M_X12_habits : Mth := (yX12_habits, cX12_habits, 4, (some .int))
def M_X12_orders : Mth := (yX12_orders, cX12_orders, 5, none)
def M_X12_seated : Mth := (yX12_seated, cX12_seated, 4, (some .int))
def M_X12_ownPence : Mth := (yX12_ownPence, cX12_ownPence, 2, (some .int))
def M_X12_aisle : Mth := (yX12_aisle, cX12_aisle, 5, (some .int))
def M_X12_beer : Mth := (yX12_beer, cX12_beer, 3, (some .int))
def M_X12_paysBy : Mth := (yX12_paysBy, cX12_paysBy, 5, (some .int))
def M_X12_isRest : Mth := (yX12_isRest, cX12_isRest, 6, (some .boolean))
def M_X12_rests : Mth := (yX12_rests, cX12_rests, 7, (some .int))
def M_X12_touch : Mth := (yX12_touch, cX12_touch, 3, (some .boolean))
def M_X12_likely : Mth := (yX12_likely, cX12_likely, 6, (some .long))
def M_X12_truly : Mth := (yX12_truly, cX12_truly, 7, (some .long))
def M_X12_went : Mth := (yX12_went, cX12_went, 4, (some .boolean))
def M_X12_isFit : Mth := (yX12_isFit, cX12_isFit, 9, (some .boolean))
def M_X12_fits : Mth := (yX12_fits, cX12_fits, 7, (some .int))
def M_X12_flights : Mth := (yX12_flights, cX12_flights, 5, (some .int))
def M_X12_mark : Mth := (yX12_mark, cX12_mark, 3, (some .boolean))
def M_X12_count : Mth := (yX12_count, cX12_count, 4, (some .int))
def M_J6_bitCount_0f7a4 : Mth := (yJ6_bitCount_0f7a4, cJ6_bitCount_0f7a4, 1, (some .int))
def M_J7_fill_53178 : Mth := (yJ7_fill_53178, cJ7_fill_53178, 4, none)
theorem gj {w : Cond} (i : Nat) (h : lw_tbl[i]? = some w) (hg : goodWord w = true) : w ∈ lw_tbl.filter goodWord := gm (List.mem_of_getElem? h) hg
section GROWS
variable {d : Nat} {M : Mth} {pc : Nat} {ls : List (Nat × AV)} {sk : List AV} {G : Mem} {Q : Int → Mem → Prop}
theorem r_getL {idx : Nat} {q v : Int} (ci k : Nat) (kI : Int) (hkI : (k : Int) = kI) (hd : decode M.2.1 pc = .ok (.getfield idx, 3)) (hf : flok M.1.cls idx ci k) (hk9 : fk ci k = 5) (hq : Ob NT q ci) (hl : lay q kI = v) (h9 : 0 ≤ v) (h : Rn d M zN (pc + 3) ls ((2, v) :: sk) G Q) : Rn d M zN pc ls ((2, q) :: sk) G Q := by
  subst hl
  exact r_getF ci k kI hkI hd hf hk9 hq h9 h
theorem r_getM {idx : Nat} {q v : Int} (ci k : Nat) (kI : Int) (hkI : (k : Int) = kI) (hd : decode M.2.1 pc = .ok (.getfield idx, 3)) (hf : flok M.1.cls idx ci k) (hk9 : fk ci k = 2) (hq : Ob NT q ci) (hl : G q kI = v) (h9 : 0 ≤ v) (h : Rn d M zN (pc + 3) ls ((2, v) :: sk) G Q) : Rn d M zN pc ls ((2, q) :: sk) G Q := by
  subst hl
  exact r_getR ci k kI hkI hd hf hk9 hq h9 h
theorem r_aaloadL {q i v : Int} {t len : Nat} {C : String} (hd : decode M.2.1 pc = .ok (.aaload, 1)) (ha : Ar NT q t len) (ht : 4 ≤ t) (hC : tyA t = .object C) (hi : 0 ≤ i ∧ i < len) (hl : lay q i = v) (h9 : 0 ≤ v) (h : Rn d M zN (pc + 1) ls ((2, v) :: sk) G Q) : Rn d M zN pc ls ((0, i) :: (2, q) :: sk) G Q := by
  subst hl
  exact r_aaload hd ha ht hC hi h9 h
theorem r_callS0 {n : Nat} {Ly : Option Mem} {M' : Mth} {idx na : Nat} (as : List AV) (hd : decode M.2.1 pc = .ok (.invokestatic idx, 3)) (hcl : clS M.1.cls idx M' na) (hna : as.length = na) (hroom : csum sk ≤ 8)
    (h : Ct d M' n 0 0 Ly as G (fun r G1 => Rn (d + 1) M (n, 0, 0, 0, 0, Ly) (pc + 3) ls (rvs M'.2.2.2 r ++ sk) G1 Q)) : Rn (d + 1) M (n, 0, 0, 0, 0, Ly) pc ls (as.reverse ++ sk) G Q :=
  r_callS as hd hcl hna hroom ⟨Nat.le_refl _, Nat.le_refl _⟩ h
theorem r_callV0 {n : Nat} {Ly : Option Mem} {M' : Mth} {idx na ci : Nat} {q : Int} (as : List AV) (hd : decode M.2.1 pc = .ok (.invokevirtual idx, 3)) (hcl : clV M.1.cls idx M' na) (hna : as.length = na) (hroom : csum sk ≤ 8) (hci : ci < 13) (hcn : (vwCl[ci]?).map (·.1) = some M'.1.cls) (hq : Ob n q ci)
    (h : Ct d M' n 0 0 Ly ((2, q) :: as) G (fun r G1 => Rn (d + 1) M (n, 0, 0, 0, 0, Ly) (pc + 3) ls (rvs M'.2.2.2 r ++ sk) G1 Q)) : Rn (d + 1) M (n, 0, 0, 0, 0, Ly) pc ls (as.reverse ++ (2, q) :: sk) G Q :=
  r_callV as hd hcl hna hroom ⟨Nat.le_refl _, Nat.le_refl _⟩ hci hcn hq h
theorem r_tsOut {dflt lo hi x : Int} {offs : Array Int} {len tgt : Nat} {z : Zt} (hd : decode M.2.1 pc = .ok (.tableswitch dflt lo hi offs, len)) (hx : InR x) (h0 : x < lo ∨ hi < x) (ht : (pc : Int) + dflt = (tgt : Int)) (h : Rn d M z tgt ls sk G Q) : Rn d M z pc ls ((0, x) :: sk) G Q := by
  intro p l e s m args below meth c D E cA hc H locs lc hw hs hl
  exact lv_tableOut hc.1 hc.2.1 hd (by rw [ofI_toInt hx]; exact h0) ht (h p l e s m args below meth c D E cA hc H locs lc hw hs hl)
theorem r_tsIn {dflt lo hi x off j : Int} {offs : Array Int} {len tgt : Nat} {z : Zt} (hd : decode M.2.1 pc = .ok (.tableswitch dflt lo hi offs, len)) (hx : x = j) (h1 : InR j) (h2 : ¬ j < lo ∧ ¬ hi < j) (ho : offs[(j - lo).toNat]? = some off) (ht : (pc : Int) + off = (tgt : Int)) (h : Rn d M z tgt ls sk G Q) : Rn d M z pc ls ((0, x) :: sk) G Q := by
  subst hx
  intro p l e s m args below meth c D E cA hc H locs lc hw hs hl
  have e1 := ofI_toInt h1
  exact lv_tableIn (off := off) hc.1 hc.2.1 hd (by rw [e1]; exact h2.1) (by rw [e1]; exact h2.2) (by rw [e1]; exact ho) ht (h p l e s m args below meth c D E cA hc H locs lc hw hs hl)
theorem r_thrN {z : Zt} {idx : Nat} (hd : decode M.2.1 pc = .ok (.getstatic idx, 3)) (hm : M.1.cls = RX0 ∧ idx = 73) (h : Rn d M z (pc + 3) ls ((3, 0) :: sk) G Q) : Rn d M z pc ls sk G Q := by
  intro p l e s m args below meth c D E cA hc H locs lc hw hs hl
  obtain ⟨hm, rfl⟩ := hm
  exact va_getsN (host := "PastSleep") (ref := "PastSleep") hc.1 hc.2.1 hc.2.2.2.2.2.2.2.2.2.1.1 hs hc.2.2.2.1 (by rw [hm]; exact va_Nw.use rfl hc.2.2.2.2.2.2.2.2.2.1.2.2.2.2.2.1) (fun _ h => h) hd (h p l e s m args below meth c D E cA hc H locs lc hw hs hl)
theorem r_mmax {idx : Nat} {a b : Int} (hd : decode M.2.1 pc = .ok (.invokestatic idx, 3)) (hm : Cond.methodLink M.1.cls idx Lib.Math.max.name ∈ lw_tbl.filter goodWord) (ha : InR a) (hb : InR b) (hroom : csum sk ≤ 8) (h : Rn (d + 1) M zN (pc + 3) ls ((0, max a b) :: sk) G Q) : Rn (d + 1) M zN pc ls ((0, b) :: (0, a) :: sk) G Q := by
  intro p l e s m args below meth c D E cA hc H locs lc hw hs hl
  have hts := hc.2.2.2.2.1
  have h1 := h p l e s m args below meth c D E cA hc H locs lc hw hs hl
  refine va_mmax (x := Int32.ofInt a) (y := Int32.ofInt b) hc.1 hc.2.1 (by rw [hc.2.2.1]; exact hl.1.symm) hc.2.2.2.1 (hts _ hm) (hts _ (gm (by decide +kernel) rfl)) (hts _ (gm (by decide +kernel) rfl)) (hts _ (gm (by decide +kernel) rfl)) (by show 1 ≤ d + 1; omega) ?_ (Nat.le_refl _) (Nat.le_refl _) hd ?_
  · rw [csum_cat]
    show csum sk + _ ≤ 64 * (d + 1)
    omega
  · have e9 : (if Int32.ofInt a < Int32.ofInt b then Int32.ofInt b else Int32.ofInt a) = Int32.ofInt (max a b) := by
      by_cases hab : a < b
      · rw [if_pos ((ofI_lt ha hb).mpr hab), Int.max_eq_right (by omega)]
      · rw [if_neg (fun q => hab ((ofI_lt ha hb).mp q)), Int.max_eq_left (by omega)]
    rw [e9]
    exact h1
theorem r_mmin {idx : Nat} {a b : Int} (hd : decode M.2.1 pc = .ok (.invokestatic idx, 3)) (hm : Cond.methodLink M.1.cls idx Lib.Math.min.name ∈ lw_tbl.filter goodWord) (ha : InR a) (hb : InR b) (hroom : csum sk ≤ 8) (h : Rn (d + 1) M zN (pc + 3) ls ((0, min a b) :: sk) G Q) : Rn (d + 1) M zN pc ls ((0, b) :: (0, a) :: sk) G Q := by
  intro p l e s m args below meth c D E cA hc H locs lc hw hs hl
  have hts := hc.2.2.2.2.1
  have h1 := h p l e s m args below meth c D E cA hc H locs lc hw hs hl
  refine va_mmin (x := Int32.ofInt a) (y := Int32.ofInt b) hc.1 hc.2.1 (by rw [hc.2.2.1]; exact hl.1.symm) hc.2.2.2.1 (hts _ hm) (hts _ (gm (by decide +kernel) rfl)) (hts _ (gm (by decide +kernel) rfl)) (hts _ (gm (by decide +kernel) rfl)) (by show 1 ≤ d + 1; omega) ?_ (Nat.le_refl _) (Nat.le_refl _) hd ?_
  · rw [csum_cat]
    show csum sk + _ ≤ 64 * (d + 1)
    omega
  · have e9 : (if Int32.ofInt b < Int32.ofInt a then Int32.ofInt b else Int32.ofInt a) = Int32.ofInt (min a b) := by
      by_cases hab : b < a
      · rw [if_pos ((ofI_lt hb ha).mpr hab), Int.min_eq_right (by omega)]
      · rw [if_neg (fun q => hab ((ofI_lt hb ha).mp q)), Int.min_eq_left (by omega)]
    rw [e9]
    exact h1
theorem r_mminL {idx : Nat} {a b : Int} (hd : decode M.2.1 pc = .ok (.invokestatic idx, 3)) (hm : Cond.methodLink M.1.cls idx Lib.MathLoose.min_long.x ∈ lw_tbl.filter goodWord) (ha : InL a) (hb : InL b) (hroom : csum sk ≤ 8) (h : Rn (d + 1) M zN (pc + 3) ls ((1, min a b) :: sk) G Q) : Rn (d + 1) M zN pc ls ((1, b) :: (1, a) :: sk) G Q := by
  intro p l e s m args below meth c D E cA hc H locs lc hw hs hl
  have hts := hc.2.2.2.2.1
  have h1 := h p l e s m args below meth c D E cA hc H locs lc hw hs hl
  refine va_mmin_long (x := Int64.ofInt a) (y := Int64.ofInt b) hc.1 hc.2.1 (by rw [hc.2.2.1]; exact hl.1.symm) hc.2.2.2.1 (hts _ hm) (hts _ (gm (by decide +kernel) rfl)) (hts _ (gm (by decide +kernel) rfl)) (hts _ (gm (by decide +kernel) rfl)) (by show 1 ≤ d + 1; omega) ?_ (Nat.le_refl _) (Nat.le_refl _) hd ?_
  · rw [csum_cat]
    show csum sk + _ ≤ 64 * (d + 1)
    omega
  · have e9 : (if Int64.ofInt b < Int64.ofInt a then Int64.ofInt b else Int64.ofInt a) = Int64.ofInt (min a b) := by
      by_cases hab : b < a
      · rw [if_pos ((ofL_lt hb ha).mpr hab), Int.min_eq_right (by omega)]
      · rw [if_neg (fun q => hab ((ofL_lt hb ha).mp q)), Int.min_eq_left (by omega)]
    rw [e9]
    exact h1
/-- what an int is of a number -/
def wr (x : Int) : Int := (Int32.ofInt x).toInt
theorem wr_in (x : Int) : InR (wr x) := ⟨(Int32.ofInt x).le_toInt, (Int32.ofInt x).toInt_lt⟩
theorem wr_id {x : Int} (h : InR x) : wr x = x := ofI_toInt h
theorem ofI_wr (x : Int) : Int32.ofInt (wr x) = Int32.ofInt x := Int32.ofInt_toInt _
theorem r_iastoreW {z : Zt} {q i v : Int} {len : Nat} (hd : decode M.2.1 pc = .ok (.iastore, 1)) (ha : Ar z.1 q 0 len) (hi : 0 ≤ i ∧ i < len) (h : Rn d M z (pc + 1) ls sk (st G q i (wr v)) Q) : Rn d M z pc ls ((0, v) :: (0, i) :: (2, q) :: sk) G Q := by
  have h1 := r_iastore hd ha hi h
  intro p l e s m args below meth c D E cA hc H locs lc hw hs hl
  have h2 := h1 p l e s m args below meth c D E cA hc H locs lc hw hs hl
  simp only [List.map_cons, cv0, ofI_wr] at h2 ⊢
  exact h2
/-- a call's numbers may be put for others that are the same ints -/
theorem Ct.args {M' : Mth} {n mc ms : Nat} {Ly : Option Mem} {as as' : List AV} (h : Ct d M' n mc ms Ly as' G Q) (he : ∀ E : En, as.map (cv E) = as'.map (cv E)) : Ct d M' n mc ms Ly as G Q := by
  intro l D E cA
  have h1 := h l D E cA
  unfold PcM at h1 ⊢
  rw [he E]
  exact h1
/-- a copy of a stretch of an array -/
def cpy (G : Mem) (src sp dst dp n : Int) : Mem := fun a b => if a = dst ∧ dp ≤ b ∧ b < dp + n then G src (sp + (b - dp)) else G a b
def CpOk (sp dp n : Int) (L1 L2 : Nat) : Prop := 0 ≤ sp ∧ 0 ≤ dp ∧ 0 ≤ n ∧ sp + n ≤ L1 ∧ dp + n ≤ L2
theorem r_acopy {idx : Nat} {src sp dst dp n : Int} {L1 L2 : Nat} (hd : decode M.2.1 pc = .ok (.invokestatic idx, 3)) (hm : Cond.methodLink M.1.cls idx arraycopyName ∈ lw_tbl.filter goodWord) (h1 : Ar NT src 0 L1) (h2 : Ar NT dst 0 L2) (hok : CpOk sp dp n L1 L2) (hroom : csum sk ≤ 8)
    (h : Rn (d + 1) M zN (pc + 3) ls sk (cpy G src sp dst dp n) Q) : Rn (d + 1) M zN pc ls ((0, n) :: (0, dp) :: (2, dst) :: (0, sp) :: (2, src) :: sk) G Q := by
  intro p l e s m args below meth c D E cA hc H locs lc hw hs hl
  obtain ⟨k1, k2, k3, k4, k5⟩ := hok
  have b1 := h1.2.2.2.2
  have b2 := h2.2.2.2.2
  have hts := hc.2.2.2.2.1
  have cl : ∀ {i : Int}, 0 ≤ i → i < 2147483648 → (Int32.ofInt i).toNatClampNeg = i.toNat := fun a b => by rw [Int32.toNatClampNeg_ofInt_of_le (by omega) (by omega)]
  have nn : ∀ {i : Int}, 0 ≤ i → i < 2147483648 → ¬ Int32.ofInt i < 0 := fun a b q => by
    rw [← ofI_0, ofI_lt ⟨by omega, by omega⟩ InR0] at q
    omega
  have c1 := cl k1 (by omega)
  have c2 := cl k2 (by omega)
  have c3 := cl k3 (by omega)
  refine va_copyi (ty := .int) hc.1 hc.2.1 (by rw [hc.2.2.1]; exact hl.1.symm) hc.2.2.2.1 (hts _ hm) (hts _ (gm (by decide +kernel) rfl)) (hts _ (gm (by decide +kernel) rfl)) (hts _ (gm (by decide +kernel) rfl)) hc.2.2.2.2.2.2.2.2.1 hw.1 (wsl_D E cA (some lay) G NT) hs src.toNat dst.toNat 0 0 (ar_get h1) (ar_get h2) (tysA_get cA (by decide)) (tysA_get cA (by decide)) rfl (nn k1 (by omega)) (nn k2 (by omega)) (nn k3 (by omega)) (by rw [c1, c3]; omega) (by rw [c2, c3]; omega) (fun _ _ => rfl) (by show 1 ≤ d + 1; omega) ?_ hd (fun H1 locs1 hP1 hD1 hS1 => ?_)
  · rw [csum_cat]
    show csum sk + _ ≤ 64 * (d + 1)
    have : nativeFrameWords "java/lang/System" "arraycopy" 5 + 11 ≤ 56 := by decide +kernel
    omega
  · rw [c1, c2, c3] at hP1
    have he0 : (va_cpy (fun (j : Nat) => Int32.ofInt (G src j)) (fun (j : Nat) => Int32.ofInt (G dst j)) sp.toNat dp.toNat n.toNat) = fun (j : Nat) => Int32.ofInt (cpy G src sp dst dp n dst j) := by
      funext j
      unfold va_cpy cpy
      by_cases hj : dp.toNat ≤ j ∧ j < dp.toNat + n.toNat
      · have e9 : ((sp.toNat + (j - dp.toNat) : Nat) : Int) = sp + ((j : Int) - dp) := by omega
        rw [if_pos hj, if_pos ⟨rfl, by omega, by omega⟩, ← e9]
      · rw [if_neg hj, if_neg (fun q => hj ⟨by omega, by omega⟩)]
    have he : (.inl (cA 0, L2, .inl (va_cpy (fun (j : Nat) => Int32.ofInt (G src j)) (fun (j : Nat) => Int32.ofInt (G dst j)) sp.toNat dp.toNat n.toNat)) : va_E) = mcell E cA (some lay) (cpy G src sp dst dp n) dst.toNat := by
      rw [mcell_ar h2]
      show _ = (.inl (cA 0, L2, .inl (fun (j : Nat) => Int32.ofInt (cpy G src sp dst dp n dst j))) : va_E)
      rw [he0]
    have hP2 : va_P D vwCl (wsl E cA (some lay) (cpy G src sp dst dp n) NT) H1 := by
      rw [← wsl_set (G := G) (q := dst.toNat) he (fun k hk hne => ?_)]
      · exact hP1
      · have h0 := h2.1
        have e1 : cpy G src sp dst dp n (k : Int) = G (k : Int) := by
          funext b
          unfold cpy
          rw [if_neg (fun q => hne (by omega))]
        unfold mcell
        rw [e1]
        rfl
    have hsz : E.1 + NT ≤ H1.size := by
      have := (hP2 (NT - 1) _ (wsl_get (by decide))).lt
      have h3 : E.1 + (NT - 1) < H1.size := this
      omega
    exact h p l e s m args below meth c D E cA hc H1 locs1 lc ⟨hP2, hsz, fun q => absurd q (Nat.lt_irrefl _)⟩ hS1 hl
end GROWS

theorem nofin_0_5 : ∀ r : vw_C, vwCl[0]? = some r → (r.2.1 5).2.2.2 = false := by
  intro r hr
  cases hr
  rfl
theorem nofin_1_6 : ∀ r : vw_C, vwCl[1]? = some r → (r.2.1 6).2.2.2 = false := by
  intro r hr
  cases hr
  rfl
theorem nofin_1_7 : ∀ r : vw_C, vwCl[1]? = some r → (r.2.1 7).2.2.2 = false := by
  intro r hr
  cases hr
  rfl
theorem nofin_1_8 : ∀ r : vw_C, vwCl[1]? = some r → (r.2.1 8).2.2.2 = false := by
  intro r hr
  cases hr
  rfl
theorem nofin_1_9 : ∀ r : vw_C, vwCl[1]? = some r → (r.2.1 9).2.2.2 = false := by
  intro r hr
  cases hr
  rfl
theorem nofin_1_10 : ∀ r : vw_C, vwCl[1]? = some r → (r.2.1 10).2.2.2 = false := by
  intro r hr
  cases hr
  rfl
theorem nofin_2_4 : ∀ r : vw_C, vwCl[2]? = some r → (r.2.1 4).2.2.2 = false := by
  intro r hr
  cases hr
  rfl
theorem nofin_2_5 : ∀ r : vw_C, vwCl[2]? = some r → (r.2.1 5).2.2.2 = false := by
  intro r hr
  cases hr
  rfl
theorem nofin_2_6 : ∀ r : vw_C, vwCl[2]? = some r → (r.2.1 6).2.2.2 = false := by
  intro r hr
  cases hr
  rfl
theorem nofin_2_7 : ∀ r : vw_C, vwCl[2]? = some r → (r.2.1 7).2.2.2 = false := by
  intro r hr
  cases hr
  rfl
theorem nofin_2_10 : ∀ r : vw_C, vwCl[2]? = some r → (r.2.1 10).2.2.2 = false := by
  intro r hr
  cases hr
  rfl
theorem nofin_2_11 : ∀ r : vw_C, vwCl[2]? = some r → (r.2.1 11).2.2.2 = false := by
  intro r hr
  cases hr
  rfl
theorem nofin_2_12 : ∀ r : vw_C, vwCl[2]? = some r → (r.2.1 12).2.2.2 = false := by
  intro r hr
  cases hr
  rfl
theorem nofin_3_6 : ∀ r : vw_C, vwCl[3]? = some r → (r.2.1 6).2.2.2 = false := by
  intro r hr
  cases hr
  rfl
theorem nofin_4_0 : ∀ r : vw_C, vwCl[4]? = some r → (r.2.1 0).2.2.2 = false := by
  intro r hr
  cases hr
  rfl
theorem nofin_4_1 : ∀ r : vw_C, vwCl[4]? = some r → (r.2.1 1).2.2.2 = false := by
  intro r hr
  cases hr
  rfl
theorem nofin_5_2 : ∀ r : vw_C, vwCl[5]? = some r → (r.2.1 2).2.2.2 = false := by
  intro r hr
  cases hr
  rfl
theorem nofin_5_3 : ∀ r : vw_C, vwCl[5]? = some r → (r.2.1 3).2.2.2 = false := by
  intro r hr
  cases hr
  rfl
theorem nofin_5_4 : ∀ r : vw_C, vwCl[5]? = some r → (r.2.1 4).2.2.2 = false := by
  intro r hr
  cases hr
  rfl
theorem nofin_6_3 : ∀ r : vw_C, vwCl[6]? = some r → (r.2.1 3).2.2.2 = false := by
  intro r hr
  cases hr
  rfl
theorem nofin_7_0 : ∀ r : vw_C, vwCl[7]? = some r → (r.2.1 0).2.2.2 = false := by
  intro r hr
  cases hr
  rfl
theorem nofin_7_1 : ∀ r : vw_C, vwCl[7]? = some r → (r.2.1 1).2.2.2 = false := by
  intro r hr
  cases hr
  rfl
theorem nofin_7_2 : ∀ r : vw_C, vwCl[7]? = some r → (r.2.1 2).2.2.2 = false := by
  intro r hr
  cases hr
  rfl
theorem nofin_7_3 : ∀ r : vw_C, vwCl[7]? = some r → (r.2.1 3).2.2.2 = false := by
  intro r hr
  cases hr
  rfl
theorem nofin_7_4 : ∀ r : vw_C, vwCl[7]? = some r → (r.2.1 4).2.2.2 = false := by
  intro r hr
  cases hr
  rfl
theorem nofin_7_5 : ∀ r : vw_C, vwCl[7]? = some r → (r.2.1 5).2.2.2 = false := by
  intro r hr
  cases hr
  rfl
theorem nofin_7_6 : ∀ r : vw_C, vwCl[7]? = some r → (r.2.1 6).2.2.2 = false := by
  intro r hr
  cases hr
  rfl
theorem nofin_7_7 : ∀ r : vw_C, vwCl[7]? = some r → (r.2.1 7).2.2.2 = false := by
  intro r hr
  cases hr
  rfl
theorem nofin_7_8 : ∀ r : vw_C, vwCl[7]? = some r → (r.2.1 8).2.2.2 = false := by
  intro r hr
  cases hr
  rfl
theorem nofin_8_7 : ∀ r : vw_C, vwCl[8]? = some r → (r.2.1 7).2.2.2 = false := by
  intro r hr
  cases hr
  rfl
theorem nofin_8_8 : ∀ r : vw_C, vwCl[8]? = some r → (r.2.1 8).2.2.2 = false := by
  intro r hr
  cases hr
  rfl
theorem nofin_8_9 : ∀ r : vw_C, vwCl[8]? = some r → (r.2.1 9).2.2.2 = false := by
  intro r hr
  cases hr
  rfl
theorem nofin_8_10 : ∀ r : vw_C, vwCl[8]? = some r → (r.2.1 10).2.2.2 = false := by
  intro r hr
  cases hr
  rfl
theorem nofin_8_11 : ∀ r : vw_C, vwCl[8]? = some r → (r.2.1 11).2.2.2 = false := by
  intro r hr
  cases hr
  rfl
theorem nofin_10_1 : ∀ r : vw_C, vwCl[10]? = some r → (r.2.1 1).2.2.2 = false := by
  intro r hr
  cases hr
  rfl
theorem nofin_10_2 : ∀ r : vw_C, vwCl[10]? = some r → (r.2.1 2).2.2.2 = false := by
  intro r hr
  cases hr
  rfl
theorem nofin_10_3 : ∀ r : vw_C, vwCl[10]? = some r → (r.2.1 3).2.2.2 = false := by
  intro r hr
  cases hr
  rfl
theorem nofin_10_4 : ∀ r : vw_C, vwCl[10]? = some r → (r.2.1 4).2.2.2 = false := by
  intro r hr
  cases hr
  rfl
theorem nofin_10_5 : ∀ r : vw_C, vwCl[10]? = some r → (r.2.1 5).2.2.2 = false := by
  intro r hr
  cases hr
  rfl
theorem nofin_10_6 : ∀ r : vw_C, vwCl[10]? = some r → (r.2.1 6).2.2.2 = false := by
  intro r hr
  cases hr
  rfl
theorem nofin_11_13 : ∀ r : vw_C, vwCl[11]? = some r → (r.2.1 13).2.2.2 = false := by
  intro r hr
  cases hr
  rfl
theorem nofin_11_14 : ∀ r : vw_C, vwCl[11]? = some r → (r.2.1 14).2.2.2 = false := by
  intro r hr
  cases hr
  rfl
theorem nofin_11_15 : ∀ r : vw_C, vwCl[11]? = some r → (r.2.1 15).2.2.2 = false := by
  intro r hr
  cases hr
  rfl
theorem nofin_11_16 : ∀ r : vw_C, vwCl[11]? = some r → (r.2.1 16).2.2.2 = false := by
  intro r hr
  cases hr
  rfl
theorem nofin_12_0 : ∀ r : vw_C, vwCl[12]? = some r → (r.2.1 0).2.2.2 = false := by
  intro r hr
  cases hr
  rfl
theorem nofin_12_1 : ∀ r : vw_C, vwCl[12]? = some r → (r.2.1 1).2.2.2 = false := by
  intro r hr
  cases hr
  rfl
theorem nofin_12_3 : ∀ r : vw_C, vwCl[12]? = some r → (r.2.1 3).2.2.2 = false := by
  intro r hr
  cases hr
  rfl
theorem nofin_12_4 : ∀ r : vw_C, vwCl[12]? = some r → (r.2.1 4).2.2.2 = false := by
  intro r hr
  cases hr
  rfl
theorem nofin_12_5 : ∀ r : vw_C, vwCl[12]? = some r → (r.2.1 5).2.2.2 = false := by
  intro r hr
  cases hr
  rfl
theorem nofin_12_6 : ∀ r : vw_C, vwCl[12]? = some r → (r.2.1 6).2.2.2 = false := by
  intro r hr
  cases hr
  rfl
theorem nofin_12_7 : ∀ r : vw_C, vwCl[12]? = some r → (r.2.1 7).2.2.2 = false := by
  intro r hr
  cases hr
  rfl
theorem nofin_12_8 : ∀ r : vw_C, vwCl[12]? = some r → (r.2.1 8).2.2.2 = false := by
  intro r hr
  cases hr
  rfl
theorem nofin_12_9 : ∀ r : vw_C, vwCl[12]? = some r → (r.2.1 9).2.2.2 = false := by
  intro r hr
  cases hr
  rfl
theorem nofin_12_27 : ∀ r : vw_C, vwCl[12]? = some r → (r.2.1 27).2.2.2 = false := by
  intro r hr
  cases hr
  rfl
theorem nofin_12_28 : ∀ r : vw_C, vwCl[12]? = some r → (r.2.1 28).2.2.2 = false := by
  intro r hr
  cases hr
  rfl
theorem nofin_12_29 : ∀ r : vw_C, vwCl[12]? = some r → (r.2.1 29).2.2.2 = false := by
  intro r hr
  cases hr
  rfl
theorem nofin_12_42 : ∀ r : vw_C, vwCl[12]? = some r → (r.2.1 42).2.2.2 = false := by
  intro r hr
  cases hr
  rfl
theorem nofin_12_46 : ∀ r : vw_C, vwCl[12]? = some r → (r.2.1 46).2.2.2 = false := by
  intro r hr
  cases hr
  rfl
theorem nofin_12_47 : ∀ r : vw_C, vwCl[12]? = some r → (r.2.1 47).2.2.2 = false := by
  intro r hr
  cases hr
  rfl
theorem nofin_12_48 : ∀ r : vw_C, vwCl[12]? = some r → (r.2.1 48).2.2.2 = false := by
  intro r hr
  cases hr
  rfl
theorem nofin_12_49 : ∀ r : vw_C, vwCl[12]? = some r → (r.2.1 49).2.2.2 = false := by
  intro r hr
  cases hr
  rfl
theorem nofin_12_63 : ∀ r : vw_C, vwCl[12]? = some r → (r.2.1 63).2.2.2 = false := by
  intro r hr
  cases hr
  rfl
theorem nofin_12_64 : ∀ r : vw_C, vwCl[12]? = some r → (r.2.1 64).2.2.2 = false := by
  intro r hr
  cases hr
  rfl
theorem nofin_12_65 : ∀ r : vw_C, vwCl[12]? = some r → (r.2.1 65).2.2.2 = false := by
  intro r hr
  cases hr
  rfl
theorem nofin_12_66 : ∀ r : vw_C, vwCl[12]? = some r → (r.2.1 66).2.2.2 = false := by
  intro r hr
  cases hr
  rfl
theorem nofin_12_67 : ∀ r : vw_C, vwCl[12]? = some r → (r.2.1 67).2.2.2 = false := by
  intro r hr
  cases hr
  rfl
theorem nofin_12_68 : ∀ r : vw_C, vwCl[12]? = some r → (r.2.1 68).2.2.2 = false := by
  intro r hr
  cases hr
  rfl
theorem nofin_12_71 : ∀ r : vw_C, vwCl[12]? = some r → (r.2.1 71).2.2.2 = false := by
  intro r hr
  cases hr
  rfl
theorem nofin_12_74 : ∀ r : vw_C, vwCl[12]? = some r → (r.2.1 74).2.2.2 = false := by
  intro r hr
  cases hr
  rfl
