/-! THE WORD MACHINE: memory as a function of numbers (cell, place), cells by the order of their making (cell q lies at h0 + q); a judgement over it, its rows from the kit's. -/
abbrev AV : Type := Nat × Int
abbrev Mem : Type := Int → Int → Int
/-- base of our cells; where the static row of threes lies; where the string constants and their bytes lie -/
abbrev En : Type := Nat × Nat × (Nat → Nat) × (Nat → Nat)
/-- kinds: 0 int, 1 long, 2 a cell of ours, 3 the row of threes, 4 a string constant, 5 its bytes, 6 null, 7 a cell of another's -/
def cv (E : En) (v : AV) : Value := match v.1 with
  | 0 => .int (Int32.ofInt v.2)
  | 1 => .long (Int64.ofInt v.2)
  | 2 => .ref (E.1 + v.2.toNat)
  | 3 => .ref E.2.1
  | 4 => .ref (E.2.2.1 v.2.toNat)
  | 5 => .ref (E.2.2.2 v.2.toNat)
  | 6 => .null
  | _ => .ref v.2.toNat
theorem cv0 (E : En) (x : Int) : cv E (0, x) = .int (Int32.ofInt x) := rfl
theorem cv1 (E : En) (x : Int) : cv E (1, x) = .long (Int64.ofInt x) := rfl
theorem cv2 (E : En) (x : Int) : cv E (2, x) = .ref (E.1 + x.toNat) := rfl
theorem cv_cat (E : En) (v : AV) : (cv E v).category = if v.1 = 1 then 2 else 1 := by
  obtain ⟨k, x⟩ := v
  match k with
  | 0 => rfl
  | 1 => rfl
  | 2 => rfl
  | 3 => rfl
  | 4 => rfl
  | 5 => rfl
  | 6 => rfl
  | k + 7 => simp [cv, Value.category]
/-- what a field of a kind holds: 0 int, 1 long, 2 reference, 3 boolean, 5 reference that stays -/
def fv (E : En) (kd : Nat) (x : Int) : Value := match kd with
  | 1 => .long (Int64.ofInt x)
  | 2 => if x < 0 then .null else .ref (E.1 + x.toNat)
  | 5 => if x < 0 then .null else .ref (E.1 + x.toNat)
  | _ => .int (Int32.ofInt x)
/-- what an array of a type holds: 0 int, 1 boolean, 2 char, 3 long, else references -/
def arrC (E : En) (t : Nat) (f : Int → Int) : (Nat → Int32) ⊕ (Nat → Int64) ⊕ (Nat → UInt32) ⊕ (Nat → UInt64) ⊕ (Nat → Option Nat) :=
  if t = 3 then .inr (.inl fun j => Int64.ofInt (f j)) else if t < 3 then .inl (fun j => Int32.ofInt (f j)) else .inr (.inr (.inr (.inr fun j => if f j < 0 then none else some (E.1 + (f j).toNat))))
/-- the kinds of the fields of a class -/
def fkO (ty : FieldType) (fin : Bool) : Nat := match ty with
  | .int => 0
  | .long => 1
  | .boolean => 3
  | .object _ => if fin then 5 else 2
  | .array _ => if fin then 5 else 2
  | _ => 9
def fk (ci k : Nat) : Nat := match ci with
  | 0 => fkO (tyX0 k) (TX0 k).2.2.2
  | 1 => fkO (tyX1 k) (TX1 k).2.2.2
  | 2 => fkO (tyX2 k) (TX2 k).2.2.2
  | 3 => fkO (tyX3 k) (TX3 k).2.2.2
  | 4 => fkO (tyX4 k) (TX4 k).2.2.2
  | 5 => fkO (tyX5 k) (TX5 k).2.2.2
  | 6 => fkO (tyX6 k) (TX6 k).2.2.2
  | 7 => fkO (tyX7 k) (TX7 k).2.2.2
  | 8 => fkO (tyX8 k) (TX8 k).2.2.2
  | 9 => fkO (tyX9 k) (TX9 k).2.2.2
  | 10 => fkO (tyX10 k) (TX10 k).2.2.2
  | 11 => fkO (tyX11 k) (TX11 k).2.2.2
  | _ => fkO (tyX12 k) (TX12 k).2.2.2
def tyX (ci : Nat) : Nat → FieldType := match ci with
  | 0 => tyX0
  | 1 => tyX1
  | 2 => tyX2
  | 3 => tyX3
  | 4 => tyX4
  | 5 => tyX5
  | 6 => tyX6
  | 7 => tyX7
  | 8 => tyX8
  | 9 => tyX9
  | 10 => tyX10
  | 11 => tyX11
  | _ => tyX12
def nf (ci : Nat) : Nat := ([6, 11, 13, 7, 8, 5, 4, 9, 12, 4, 7, 17, 76] : List Nat).getD ci 0
theorem vwCl_ty : ∀ ci, ci < 13 → ∀ r, vwCl[ci]? = some r → r.2.2 = nf ci ∧ (∀ k, k < r.2.2 → parseFieldDescriptor (r.2.1 k).2.2.1 = some (tyX ci k)) ∧ (∀ a, a < r.2.2 → ∀ b, b < r.2.2 → a ≠ b → (r.2.1 a).2.1 ≠ (r.2.1 b).2.1) ∧ (∀ k, k < r.2.2 → fk ci k = fkO (tyX ci k) (r.2.1 k).2.2.2) := by
  intro ci hci r hr
  match ci, hr with
  | 0, hr => cases hr; exact ⟨rfl, tyX0_ok, nmX0, fun _ _ => rfl⟩
  | 1, hr => cases hr; exact ⟨rfl, tyX1_ok, nmX1, fun _ _ => rfl⟩
  | 2, hr => cases hr; exact ⟨rfl, tyX2_ok, nmX2, fun _ _ => rfl⟩
  | 3, hr => cases hr; exact ⟨rfl, tyX3_ok, nmX3, fun _ _ => rfl⟩
  | 4, hr => cases hr; exact ⟨rfl, tyX4_ok, nmX4, fun _ _ => rfl⟩
  | 5, hr => cases hr; exact ⟨rfl, tyX5_ok, nmX5, fun _ _ => rfl⟩
  | 6, hr => cases hr; exact ⟨rfl, tyX6_ok, nmX6, fun _ _ => rfl⟩
  | 7, hr => cases hr; exact ⟨rfl, tyX7_ok, nmX7, fun _ _ => rfl⟩
  | 8, hr => cases hr; exact ⟨rfl, tyX8_ok, nmX8, fun _ _ => rfl⟩
  | 9, hr => cases hr; exact ⟨rfl, tyX9_ok, nmX9, fun _ _ => rfl⟩
  | 10, hr => cases hr; exact ⟨rfl, tyX10_ok, nmX10, fun _ _ => rfl⟩
  | 11, hr => cases hr; exact ⟨rfl, tyX11_ok, nmX11, fun _ _ => rfl⟩
  | 12, hr => cases hr; exact ⟨rfl, tyX12_ok, nmX12, fun _ _ => rfl⟩
theorem vwIn_a : ∀ r ∈ vwCl.take 4, ∀ w ∈ u_ws r.1 r.2.1 r.2.2, w ∈ lw_tbl.filter goodWord := by decide +kernel
theorem vwIn_b : ∀ r ∈ (vwCl.drop 4).take 4, ∀ w ∈ u_ws r.1 r.2.1 r.2.2, w ∈ lw_tbl.filter goodWord := by decide +kernel
theorem vwIn_c : ∀ r ∈ ((vwCl.drop 4).drop 4).take 4, ∀ w ∈ u_ws r.1 r.2.1 r.2.2, w ∈ lw_tbl.filter goodWord := by decide +kernel
theorem vwIn_d : ∀ r ∈ ((vwCl.drop 4).drop 4).drop 4, ∀ w ∈ (u_ws r.1 r.2.1 r.2.2).take 40, w ∈ lw_tbl.filter goodWord := by decide +kernel
theorem vwIn_e : ∀ r ∈ ((vwCl.drop 4).drop 4).drop 4, ∀ w ∈ ((u_ws r.1 r.2.1 r.2.2).drop 40).take 40, w ∈ lw_tbl.filter goodWord := by decide +kernel
theorem vwIn_f : ∀ r ∈ ((vwCl.drop 4).drop 4).drop 4, ∀ w ∈ ((u_ws r.1 r.2.1 r.2.2).drop 40).drop 40, w ∈ lw_tbl.filter goodWord := by decide +kernel
theorem mem_td {α : Type} {l : List α} {x : α} (n : Nat) (h : x ∈ l) : x ∈ l.take n ∨ x ∈ l.drop n := by
  rw [← List.mem_append, List.take_append_drop]
  exact h
theorem vwCl_in : ∀ r ∈ vwCl, ∀ w ∈ u_ws r.1 r.2.1 r.2.2, w ∈ lw_tbl.filter goodWord := by
  intro r hr w hw
  rcases mem_td 4 hr with h | h
  · exact vwIn_a r h w hw
  · rcases mem_td 4 h with h | h
    · exact vwIn_b r h w hw
    · rcases mem_td 4 h with h | h
      · exact vwIn_c r h w hw
      · rcases mem_td 40 hw with g | g
        · exact vwIn_d r h w g
        · rcases mem_td 40 g with g | g
          · exact vwIn_e r h w g
          · exact vwIn_f r h w g
theorem gm {w : Cond} (h : w ∈ lw_tbl) (hg : goodWord w = true) : w ∈ lw_tbl.filter goodWord := List.mem_filter.mpr ⟨h, hg⟩
/-- the types of arrays -/
def tyA (t : Nat) : FieldType := match t with
  | 0 => .int
  | 1 => .boolean
  | 2 => .char
  | 3 => .long
  | 4 => .object RX8
  | 5 => .object RX1
  | 6 => .object RX9
  | _ => .object RX7
/-- the cells: kind (arrays: the type below 20; objects: 20 + the class), size -/
def shpL : List (Nat × Nat) := [(31, 17), (30, 7), (2, 1000), (25, 5), (3, 5), (0, 32), (20, 6), (0, 5), (0, 5), (0, 10), (0, 5), (0, 4), (24, 8), (1, 73), (0, 73), (0, 73), (0, 73), (0, 73), (0, 74), (22, 13), (28, 12), (0, 5), (0, 5), (0, 5), (0, 5), (0, 5), (0, 5), (0, 5), (0, 5), (0, 5), (0, 5), (0, 5), (0, 5), (26, 4), (0, 3), (0, 36), (0, 3), (21, 11), (7, 5), (0, 5), (0, 5), (0, 72), (0, 4), (23, 7), (0, 8), (0, 3), (0, 3), (0, 3), (0, 1000), (0, 40), (27, 9), (27, 9), (27, 9), (27, 9), (27, 9), (21, 11), (7, 5), (0, 5), (0, 5), (0, 72), (0, 4), (23, 7), (0, 8), (0, 3), (0, 3), (0, 3), (0, 1000), (0, 40), (27, 9), (27, 9), (27, 9), (27, 9), (27, 9), (28, 12), (0, 5), (0, 5), (0, 5), (0, 5), (0, 5), (0, 5), (0, 5), (29, 4), (0, 5), (0, 5), (0, 5), (0, 60), (4, 12), (28, 12), (0, 5), (0, 5), (0, 5), (0, 5), (0, 5), (0, 5), (0, 5), (28, 12), (0, 5), (0, 5), (0, 5), (0, 5), (0, 5), (0, 5), (0, 5), (28, 12), (0, 5), (0, 5), (0, 5), (0, 5), (0, 5), (0, 5), (0, 5), (28, 12), (0, 5), (0, 5), (0, 5), (0, 5), (0, 5), (0, 5), (0, 5), (28, 12), (0, 5), (0, 5), (0, 5), (0, 5), (0, 5), (0, 5), (0, 5), (28, 12), (0, 5), (0, 5), (0, 5), (0, 5), (0, 5), (0, 5), (0, 5), (28, 12), (0, 5), (0, 5), (0, 5), (0, 5), (0, 5), (0, 5), (0, 5), (28, 12), (0, 5), (0, 5), (0, 5), (0, 5), (0, 5), (0, 5), (0, 5), (28, 12), (0, 5), (0, 5), (0, 5), (0, 5), (0, 5), (0, 5), (0, 5), (28, 12), (0, 5), (0, 5), (0, 5), (0, 5), (0, 5), (0, 5), (0, 5), (28, 12), (0, 5), (0, 5), (0, 5), (0, 5), (0, 5), (0, 5), (0, 5), (28, 12), (0, 5), (0, 5), (0, 5), (0, 5), (0, 5), (0, 5), (0, 5), (1, 4), (5, 4), (4, 4), (6, 4), (21, 11), (7, 5), (0, 5), (0, 5), (0, 72), (0, 4), (23, 7), (0, 8), (0, 3), (0, 3), (0, 3), (0, 1000), (0, 40), (27, 9), (27, 9), (27, 9), (27, 9), (27, 9), (28, 12), (0, 5), (0, 5), (0, 5), (0, 5), (0, 5), (0, 5), (0, 5), (29, 4), (0, 5), (0, 5), (0, 5), (0, 60), (21, 11), (7, 5), (0, 5), (0, 5), (0, 72), (0, 4), (23, 7), (0, 8), (0, 3), (0, 3), (0, 3), (0, 1000), (0, 40), (27, 9), (27, 9), (27, 9), (27, 9), (27, 9), (28, 12), (0, 5), (0, 5), (0, 5), (0, 5), (0, 5), (0, 5), (0, 5), (29, 4), (0, 5), (0, 5), (0, 5), (0, 60), (21, 11), (7, 5), (0, 5), (0, 5), (0, 72), (0, 4), (23, 7), (0, 8), (0, 3), (0, 3), (0, 3), (0, 1000), (0, 40), (27, 9), (27, 9), (27, 9), (27, 9), (27, 9), (28, 12), (0, 5), (0, 5), (0, 5), (0, 5), (0, 5), (0, 5), (0, 5), (29, 4), (0, 5), (0, 5), (0, 5), (0, 60), (21, 11), (7, 5), (0, 5), (0, 5), (0, 72), (0, 4), (23, 7), (0, 8), (0, 3), (0, 3), (0, 3), (0, 1000), (0, 40), (27, 9), (27, 9), (27, 9), (27, 9), (27, 9), (28, 12), (0, 5), (0, 5), (0, 5), (0, 5), (0, 5), (0, 5), (0, 5), (29, 4), (0, 5), (0, 5), (0, 5), (0, 60), (32, 76), (0, 1000), (0, 72), (3, 5), (0, 30), (0, 30), (0, 30), (0, 30), (0, 30), (0, 30), (0, 30), (0, 30), (0, 30), (0, 30), (0, 48), (0, 48), (0, 18), (0, 18), (0, 6000), (0, 7), (1, 7), (0, 7), (0, 7), (0, 7), (0, 7), (0, 7), (0, 7), (0, 7), (0, 7), (0, 7), (0, 20), (0, 116), (0, 464), (0, 1392), (0, 14600), (1, 14600), (0, 73), (0, 73), (0, 5), (0, 5), (0, 5), (0, 5), (0, 5), (0, 5), (0, 5), (0, 5), (0, 5), (0, 5), (0, 5), (0, 3), (0, 3), (1, 4), (3, 1)]
def shp (q : Nat) : Nat × Nat := shpL.getD q (99, 0)
/-- the references that stay -/
def layL : List (List Int) := [[1, 3, 6, 12, 19, 33, 86, 184, 185, 186, 183, 73, 81, -1, -1, -1, -1], [2, -1, -1, -1, -1, -1, -1], [], [4, 5, -1, -1, -1], [], [], [7, 8, 9, 10, 11, -1], [], [], [], [], [], [-1, -1, 13, 14, 15, 16, 17, 18], [], [], [], [], [], [], [20, 28, 29, 30, -1, -1, -1, -1, 31, 32, -1, -1, -1], [21, 22, 23, 24, 25, 26, 27, -1, -1, -1, -1, -1], [], [], [], [], [], [], [], [], [], [], [], [], [34, 35, 36, -1], [], [], [], [38, 39, 40, 41, 42, 43, -1, -1, -1, -1, -1], [50, 51, 52, 53, 54], [], [], [], [], [44, 45, 46, 47, 48, 49, -1], [], [], [], [], [], [], [-1, -1, -1, -1, -1, -1, -1, -1, -1], [-1, -1, -1, -1, -1, -1, -1, -1, -1], [-1, -1, -1, -1, -1, -1, -1, -1, -1], [-1, -1, -1, -1, -1, -1, -1, -1, -1], [-1, -1, -1, -1, -1, -1, -1, -1, -1], [56, 57, 58, 59, 60, 61, -1, -1, -1, -1, -1], [68, 69, 70, 71, 72], [], [], [], [], [62, 63, 64, 65, 66, 67, -1], [], [], [], [], [], [], [-1, -1, -1, -1, -1, -1, -1, -1, -1], [-1, -1, -1, -1, -1, -1, -1, -1, -1], [-1, -1, -1, -1, -1, -1, -1, -1, -1], [-1, -1, -1, -1, -1, -1, -1, -1, -1], [-1, -1, -1, -1, -1, -1, -1, -1, -1], [74, 75, 76, 77, 78, 79, 80, -1, -1, -1, -1, -1], [], [], [], [], [], [], [], [82, 83, 84, 85], [], [], [], [], [87, 95, 103, 111, 119, 127, 135, 143, 151, 159, 167, 175], [88, 89, 90, 91, 92, 93, 94, -1, -1, -1, -1, -1], [], [], [], [], [], [], [], [96, 97, 98, 99, 100, 101, 102, -1, -1, -1, -1, -1], [], [], [], [], [], [], [], [104, 105, 106, 107, 108, 109, 110, -1, -1, -1, -1, -1], [], [], [], [], [], [], [], [112, 113, 114, 115, 116, 117, 118, -1, -1, -1, -1, -1], [], [], [], [], [], [], [], [120, 121, 122, 123, 124, 125, 126, -1, -1, -1, -1, -1], [], [], [], [], [], [], [], [128, 129, 130, 131, 132, 133, 134, -1, -1, -1, -1, -1], [], [], [], [], [], [], [], [136, 137, 138, 139, 140, 141, 142, -1, -1, -1, -1, -1], [], [], [], [], [], [], [], [144, 145, 146, 147, 148, 149, 150, -1, -1, -1, -1, -1], [], [], [], [], [], [], [], [152, 153, 154, 155, 156, 157, 158, -1, -1, -1, -1, -1], [], [], [], [], [], [], [], [160, 161, 162, 163, 164, 165, 166, -1, -1, -1, -1, -1], [], [], [], [], [], [], [], [168, 169, 170, 171, 172, 173, 174, -1, -1, -1, -1, -1], [], [], [], [], [], [], [], [176, 177, 178, 179, 180, 181, 182, -1, -1, -1, -1, -1], [], [], [], [], [], [], [], [], [187, 218, 249, 280], [205, 236, 267, 298], [213, 244, 275, 306], [188, 189, 190, 191, 192, 193, -1, -1, -1, -1, -1], [200, 201, 202, 203, 204], [], [], [], [], [194, 195, 196, 197, 198, 199, -1], [], [], [], [], [], [], [-1, -1, -1, -1, -1, -1, -1, -1, -1], [-1, -1, -1, -1, -1, -1, -1, -1, -1], [-1, -1, -1, -1, -1, -1, -1, -1, -1], [-1, -1, -1, -1, -1, -1, -1, -1, -1], [-1, -1, -1, -1, -1, -1, -1, -1, -1], [206, 207, 208, 209, 210, 211, 212, -1, -1, -1, -1, -1], [], [], [], [], [], [], [], [214, 215, 216, 217], [], [], [], [], [219, 220, 221, 222, 223, 224, -1, -1, -1, -1, -1], [231, 232, 233, 234, 235], [], [], [], [], [225, 226, 227, 228, 229, 230, -1], [], [], [], [], [], [], [-1, -1, -1, -1, -1, -1, -1, -1, -1], [-1, -1, -1, -1, -1, -1, -1, -1, -1], [-1, -1, -1, -1, -1, -1, -1, -1, -1], [-1, -1, -1, -1, -1, -1, -1, -1, -1], [-1, -1, -1, -1, -1, -1, -1, -1, -1], [237, 238, 239, 240, 241, 242, 243, -1, -1, -1, -1, -1], [], [], [], [], [], [], [], [245, 246, 247, 248], [], [], [], [], [250, 251, 252, 253, 254, 255, -1, -1, -1, -1, -1], [262, 263, 264, 265, 266], [], [], [], [], [256, 257, 258, 259, 260, 261, -1], [], [], [], [], [], [], [-1, -1, -1, -1, -1, -1, -1, -1, -1], [-1, -1, -1, -1, -1, -1, -1, -1, -1], [-1, -1, -1, -1, -1, -1, -1, -1, -1], [-1, -1, -1, -1, -1, -1, -1, -1, -1], [-1, -1, -1, -1, -1, -1, -1, -1, -1], [268, 269, 270, 271, 272, 273, 274, -1, -1, -1, -1, -1], [], [], [], [], [], [], [], [276, 277, 278, 279], [], [], [], [], [281, 282, 283, 284, 285, 286, -1, -1, -1, -1, -1], [293, 294, 295, 296, 297], [], [], [], [], [287, 288, 289, 290, 291, 292, -1], [], [], [], [], [], [], [-1, -1, -1, -1, -1, -1, -1, -1, -1], [-1, -1, -1, -1, -1, -1, -1, -1, -1], [-1, -1, -1, -1, -1, -1, -1, -1, -1], [-1, -1, -1, -1, -1, -1, -1, -1, -1], [-1, -1, -1, -1, -1, -1, -1, -1, -1], [299, 300, 301, 302, 303, 304, 305, -1, -1, -1, -1, -1], [], [], [], [], [], [], [], [307, 308, 309, 310], [], [], [], [], [-1, -1, 312, -1, -1, -1, -1, -1, -1, -1, 313, 314, 315, 316, 317, 318, 319, 320, 321, 322, 323, 324, 325, 326, 327, 328, 329, -1, -1, -1, 330, 331, 332, 333, 334, 335, 336, 337, 338, 339, 340, 341, -1, 342, 343, 344, -1, -1, -1, -1, 345, 346, 347, 348, 349, 350, 351, 352, 353, 354, 355, 356, 357, -1, -1, -1, -1, -1, -1, 358, 359, -1, 360, 361, -1, 362], [], [], [], [], [], [], [], [], [], [], [], [], [], [], [], [], [], [], [], [], [], [], [], [], [], [], [], [], [], [], [], [], [], [], [], [], [], [], [], [], [], [], [], [], [], [], [], [], [], [], [], []]
def lay : Mem := fun q k => (layL.getD q.toNat []).getD k.toNat (-1)
def StB : List Int := [73, 20, 87, 95, 103, 111, 119, 127, 135, 143, 151, 159, 167, 175, 205, 236, 267, 298]
def CbB : List Int := [37, 55, 187, 218, 249, 280]
def TlB : List Int := [81, 213, 244, 275, 306]
abbrev NT : Nat := 364
/-- a cell as the memory G has it; Ly: where the references that stay are read (none: in G itself) -/
abbrev Zt : Type := Nat × Nat × Nat × Nat × Nat × Option Mem
def rl (Ly : Option Mem) (G : Mem) : Mem := match Ly with
  | none => G
  | some L => L
def mcell (E : En) (cA : Nat → ClassId) (Ly : Option Mem) (G : Mem) (q : Nat) : va_E :=
  if (shp q).1 < 20 then .inl (cA (shp q).1, (shp q).2, arrC E (shp q).1 (if (shp q).1 < 4 then G q else rl Ly G q))
  else .inr ((shp q).1 - 20, (List.range (shp q).2).map fun k => fv E (fk ((shp q).1 - 20) k) (if fk ((shp q).1 - 20) k = 5 then rl Ly G q k else G q k))
def wsl (E : En) (cA : Nat → ClassId) (Ly : Option Mem) (G : Mem) (n : Nat) : va_W := (List.range n).map fun q => (E.1 + q, mcell E cA Ly G q)
theorem wsl_get {E : En} {cA : Nat → ClassId} {Ly : Option Mem} {G : Mem} {n q : Nat} (h : q < n) : (wsl E cA Ly G n)[q]? = some (E.1 + q, mcell E cA Ly G q) := by
  simp [wsl, h]
theorem wsl_inv {E : En} {cA : Nat → ClassId} {Ly : Option Mem} {G : Mem} {n k : Nat} {p : Nat × va_E} (h : (wsl E cA Ly G n)[k]? = some p) : k < n ∧ p = (E.1 + k, mcell E cA Ly G k) := by
  have hk : k < n := by
    have := (List.getElem?_eq_some_iff.mp h).1
    simpa [wsl] using this
  rw [wsl_get hk] at h
  exact ⟨hk, (Option.some.inj h).symm⟩
theorem wsl_set {E : En} {cA : Nat → ClassId} {Ly : Option Mem} {G G' : Mem} {n q : Nat} {e : va_E} (he : e = mcell E cA Ly G' q) (ho : ∀ k, k < n → k ≠ q → mcell E cA Ly G k = mcell E cA Ly G' k) : (wsl E cA Ly G n).set q (E.1 + q, e) = wsl E cA Ly G' n := by
  apply List.ext_getElem?
  intro k
  by_cases hk : k < n
  · by_cases hq : k = q
    · subst hq
      rw [List.getElem?_set_self (by simpa [wsl] using hk), wsl_get hk, he]
    · rw [List.getElem?_set_ne (Ne.symm hq), wsl_get hk, wsl_get hk, ho k hk hq]
  · rw [List.getElem?_eq_none (by simp [wsl]; omega), List.getElem?_eq_none (by simp [wsl]; omega)]
theorem wsl_push {E : En} {cA : Nat → ClassId} {Ly : Option Mem} {G : Mem} {n : Nat} : wsl E cA Ly G n ++ [(E.1 + n, mcell E cA Ly G n)] = wsl E cA Ly G (n + 1) := by
  simp [wsl, List.range_succ]
def Ow (E : En) : Nat → Prop := fun a => E.1 ≤ a
theorem wsl_D (E : En) (cA : Nat → ClassId) (Ly : Option Mem) (G : Mem) (n : Nat) : va_D (Ow E) (wsl E cA Ly G n) := by
  refine ⟨fun i j p q hi hj h => ?_, fun k q hk => ?_⟩
  · obtain ⟨-, rfl⟩ := wsl_inv hi
    obtain ⟨-, rfl⟩ := wsl_inv hj
    have h' : E.1 + i = E.1 + j := h
    omega
  · obtain ⟨-, rfl⟩ := wsl_inv hk
    exact Nat.le_add_right _ _
/-- the memory with one place changed -/
def st (G : Mem) (q i v : Int) : Mem := fun a b => if a = q ∧ b = i then v else G a b
theorem st_same (G : Mem) (q i v : Int) : st G q i v q i = v := by simp [st]
theorem st_ne (G : Mem) {q i a b : Int} (v : Int) (h : ¬ (a = q ∧ b = i)) : st G q i v a b = G a b := by simp [st, h]
theorem st_nq (G : Mem) {q a : Int} (i v b : Int) (h : a ≠ q) : st G q i v a b = G a b := by simp [st, h]
/-- the static row of threes -/
def thr : List Int := [1, 3, 9, 27, 81, 243]
/-- the string constants -/
def sLen : List Nat := [173]
def sByt : List (List Int32) := [[114, 111, 119, 32, 102, 108, 105, 103, 104, 116, 32, 115, 105, 116, 116, 101, 114, 32, 97, 116, 32, 110, 101, 101, 100, 115, 32, 108, 105, 109, 105, 116, 32, 103, 111, 101, 115, 32, 115, 108, 101, 101, 112, 115, 32, 116, 111, 32, 98, 101, 108, 116, 32, 116, 114, 111, 108, 108, 101, 121, 32, 112, 114, 105, 99, 101, 32, 102, 101, 105, 103, 110, 32, 119, 97, 107, 101, 32, 115, 112, 105, 108, 108, 32, 113, 117, 101, 117, 101, 32, 112, 108, 97, 105, 110, 32, 100, 114, 105, 110, 107, 101, 114, 32, 108, 105, 103, 104, 116, 32, 116, 97, 108, 108, 32, 102, 101, 105, 103, 110, 101, 114, 32, 110, 111, 116, 32, 97, 110, 100, 32, 111, 114, 32, 100, 101, 112, 116, 104, 32, 108, 101, 103, 115, 32, 99, 117, 112, 32, 103, 97, 112, 32, 116, 105, 99, 107, 32, 97, 115, 107, 101, 100, 32, 115, 105, 100, 101, 32, 111, 117, 116, 32]]
/-- what stands fixed outside our cells -/
def nestsM : List (String × Nat × MethodName × String) := [("PastSleep", 9, ⟨"PastSleep$Tokens", "<init>", "()V"⟩, "PastSleep"), ("PastSleep", 18, ⟨"PastSleep$Reader", "<init>", "()V"⟩, "PastSleep"), ("PastSleep", 25, ⟨"PastSleep$Ahead", "<init>", "()V"⟩, "PastSleep"), ("PastSleep", 32, ⟨"PastSleep$Plans", "<init>", "()V"⟩, "PastSleep"), ("PastSleep", 39, ⟨"PastSleep$Habits", "<init>", "()V"⟩, "PastSleep"), ("PastSleep$Habits", 11, ⟨"PastSleep$State", "<init>", "()V"⟩, "PastSleep"), ("PastSleep", 46, ⟨"PastSleep$Rests", "<init>", "()V"⟩, "PastSleep"), ("PastSleep$Cabin", 32, ⟨"PastSleep$Laws", "<init>", "()V"⟩, "PastSleep"), ("PastSleep$Cabin", 37, ⟨"PastSleep$Sitter", "<init>", "()V"⟩, "PastSleep"), ("PastSleep", 63, ⟨"PastSleep$State", "<init>", "()V"⟩, "PastSleep"), ("PastSleep", 70, ⟨"PastSleep$Tells", "<init>", "()V"⟩, "PastSleep")]
def aoC : List String := [RX1, RX7, RX8, RX9]
/-- a throw's words that a caller's list doesn't carry -/
def xDecl : List MethodName := [⟨"java/lang/RuntimeException", "<init>", "(Ljava/lang/String;)V"⟩, ⟨"java/lang/Exception", "<init>", "(Ljava/lang/String;)V"⟩, ⟨"java/lang/Throwable", "<init>", "(Ljava/lang/String;)V"⟩]
def xCast (U : State) : Prop := va_Nw (.castable "java/util/NoSuchElementException" "java/util/NoSuchElementException") U ∧ ∀ x ∈ xDecl, va_Nw (.declares x) U
theorem xCast.warm {s U : State} (hW : s.WarmedH U.vm) (h : xCast s) : xCast U := ⟨va_Nw.warmC hW h.1, fun x hx => va_Nw.warmD hW (h.2 x hx)⟩
theorem xCast.same {s U : State} (hv : U.vm = s.vm) (h : xCast s) : xCast U := ⟨va_Nw.same rfl hv.symm h.1, fun x hx => va_Nw.same rfl hv.symm (h.2 x hx)⟩
/-- of the JDK's: what the strings' methods and a throw read -/
def Sj (E : En) (U : State) (H : Heap) : Prop :=
  va_Z "java/lang/String" "COMPACT_STRINGS" "Z" (.int 1) (Ow E) U H ∧ va_Zq "jdk/internal/util/Preconditions" "SIOOBE_FORMATTER" "Ljava/util/function/BiFunction;" (Ow E) U H ∧ vx_Zq Bundle.tN "UNASSIGNED_STACK" Bundle.steD (Ow E) U H ∧ vx_Zq Bundle.tN "SUPPRESSED_SENTINEL" Bundle.listD (Ow E) U H ∧
  (∃ a, vk_R RX11 304 "no such sitter" a U) ∧ (∃ a, vk_R RX11 316 "no such sitter, or needs are 9" a U) ∧ xCast U
theorem Sj.moved {E : En} {s U : State} {H : Heap} (hW : s.WarmedH U.vm) (h : Sj E s H) : Sj E U H :=
  ⟨va_Z.moved hW.alike h.1, va_Zq.moved hW.alike h.2.1, vx_Zq.moved hW.alike h.2.2.1, vx_Zq.moved hW.alike h.2.2.2.1, h.2.2.2.2.1.elim fun a q => ⟨a, vk_R.warm hW q⟩, h.2.2.2.2.2.1.elim fun a q => ⟨a, vk_R.warm hW q⟩, xCast.warm hW h.2.2.2.2.2.2⟩
theorem Sj.kept {E : En} {U : State} {H H1 : Heap} (h : Sj E U H) (hq : ∀ a : Nat, a < H.size → ¬ Ow E a → H1[a]? = H[a]?) : Sj E U H1 :=
  ⟨va_Z.kept h.1 hq, va_Zq.kept h.2.1 hq, vx_Zq.kept h.2.2.1 hq, vx_Zq.kept h.2.2.2.1 hq, h.2.2.2.2⟩
theorem Sj.same {E : En} {s U : State} {H : Heap} (hv : U.vm = s.vm) (h : Sj E s H) : Sj E U H :=
  ⟨va_Z.moved (by rw [hv]; exact Vm.Alike.refl _) h.1, va_Zq.moved (by rw [hv]; exact Vm.Alike.refl _) h.2.1, vx_Zq.moved (by rw [hv]; exact Vm.Alike.refl _) h.2.2.1, vx_Zq.moved (by rw [hv]; exact Vm.Alike.refl _) h.2.2.2.1, h.2.2.2.2.1.elim fun a q => ⟨a, vk_R.same hv q⟩, h.2.2.2.2.2.1.elim fun a q => ⟨a, vk_R.same hv q⟩, xCast.same hv h.2.2.2.2.2.2⟩
def Sw (E : En) (U : State) (H : Heap) : Prop :=
  va_Z "PastSleep" "THREES" "[I" (.ref E.2.1) (Ow E) U H ∧ va_T .int E.2.1 6 (fun j => .int (Int32.ofInt (thr.getD j 0))) (Ow E) U H ∧
  vk_S 1 sLen sByt E.2.2.1 E.2.2.2 (Ow E) U H ∧ vk_R RX10 64 "row flight sitter at needs limit goes sleeps to belt trolley price feign wake spill queue plain drinker light tall feigner not and or depth legs cup gap tick asked side out " (E.2.2.1 0) U ∧ Sj E U H ∧
  va_Nw (.fieldLinkNest RX0 73 "PastSleep" "THREES" "[I" "PastSleep") U ∧ (∀ q ∈ nestsM, va_Nw (.methodLinkNest q.1 q.2.1 q.2.2.1 q.2.2.2) U) ∧ (∀ C ∈ aoC, va_AO C U)
theorem Sw.moved {E : En} {s U : State} {H : Heap} (hW : s.WarmedH U.vm) (h : Sw E s H) : Sw E U H :=
  ⟨va_Z.moved hW.alike h.1, va_T.moved hW.alike h.2.1, vk_S.moved hW.alike h.2.2.1, vk_R.warm hW h.2.2.2.1, Sj.moved hW h.2.2.2.2.1, va_Nw.warmF hW h.2.2.2.2.2.1, fun q hq => va_Nw.warmM hW (h.2.2.2.2.2.2.1 q hq), fun C hC => va_AO.moved hW.alike (h.2.2.2.2.2.2.2 C hC)⟩
theorem Sw.kept {E : En} {U : State} {H H1 : Heap} (h : Sw E U H) (hq : ∀ a : Nat, a < H.size → ¬ Ow E a → H1[a]? = H[a]?) : Sw E U H1 :=
  ⟨va_Z.kept h.1 hq, va_T.kept h.2.1 hq, vk_S.kept h.2.2.1 hq, h.2.2.2.1, Sj.kept h.2.2.2.2.1 hq, h.2.2.2.2.2⟩
abbrev tysA (cA : Nat → ClassId) : List (ClassId × FieldType) := (List.range 8).map fun t => (cA t, tyA t)
/-- the world in a state: n cells of ours as G has them -/
def Wd (D : va_G) (E : En) (cA : Nat → ClassId) (Ly : Option Mem) (n : Nat) (G : Mem) (H : Heap) : Prop :=
  va_P D vwCl (wsl E cA Ly G n) H ∧ E.1 + n ≤ H.size ∧ (n < NT → H.size = E.1 + n)
/-- a method: its name, code, locals, answer -/
abbrev Mth : Type := MethodName × ByteArray × Nat × Option FieldType
def wsM (M : Mth) : List Cond := .code M.1 M.2.1 M.2.2.1 M.2.2.2 :: lw_tbl.filter goodWord
def rmD (d mc ms : Nat) : Room := { frames := d, cells := mc, slots := ms, locals := 64 * d }
def rv (E : En) (ret : Option FieldType) (r : Int) : Option Value := match ret with
  | none => none
  | some .long => some (.long (Int64.ofInt r))
  | some _ => some (.int (Int32.ofInt r))
/-- the start and the end of a method -/
def PcM (D : va_G) (E : En) (cA : Nat → ClassId) (Ly : Option Mem) (n : Nat) (args : List AV) (G : Mem) : Array Value → State → Prop := fun v U =>
  v = (args.map (cv E)).toArray ∧ Wd D E cA Ly n G U.heap ∧ va_K D vwCl (tysA cA) U ∧ Sw E U U.heap
def QcM (D : va_G) (E : En) (cA : Nat → ClassId) (Ly : Option Mem) (n : Nat) (ret : Option FieldType) (Q : Int → Mem → Prop) : Array Value → State → Outcome → State → Prop := fun _ s o t =>
  (∃ (r : Int) (G : Mem), o = .returned (rv E ret r) ∧ Q r G ∧ Wd D E cA Ly n G t.heap) ∧ va_F (Ow E) s t
/-- the contract of a method at arguments and a memory: what it answers and leaves is in Q -/
def Ct (d : Nat) (M : Mth) (n mc ms : Nat) (Ly : Option Mem) (args : List AV) (G : Mem) (Q : Int → Mem → Prop) : Prop :=
  ∀ (l : Launch) (D : va_G) (E : En) (cA : Nat → ClassId), Met l M.1 (wsM M) (rmD d mc ms) (PcM D E cA Ly n args G) (QcM D E cA Ly (n + mc) M.2.2.2 Q) mc ms (Ow E)
/-- the machine behind a walk -/
def Cx (d : Nat) (M : Mth) (mc ms : Nat) (p : Program) (s : State) (m : MethodId) (args : Array Value) (meth : Method) (c : Code) (D : va_G) (E : En) (cA : Nat → ClassId) : Prop :=
  p.tables.exec = Jvm.exec ∧ c.code = M.2.1 ∧ c.maxLocals = M.2.2.1 ∧ s.vm.findClass M.1.cls = some m.cls ∧ (∀ w ∈ lw_tbl.filter goodWord, w.before args s = true) ∧ meth.sig.returnType = M.2.2.2 ∧ meth.locks = false ∧ meth.name = M.1.name ∧ va_K D vwCl (tysA cA) s ∧ Sw E s s.heap ∧ E.1 ≤ s.heap.size
/-- z = (cells, made so far, slots so far, makes in all, slots in all, fixed references) -/
def Rn (d : Nat) (M : Mth) (z : Zt) (pc : Nat) (ls : List (Nat × AV)) (sk : List AV) (G : Mem) (Q : Int → Mem → Prop) : Prop :=
  ∀ (p : Program) (l : Launch) (e : Env) (s : State) (m : MethodId) (args : Array Value) (below : List Frame) (meth : Method) (c : Code) (D : va_G) (E : En) (cA : Nat → ClassId),
    Cx d M z.2.2.2.1 z.2.2.2.2.1 p s m args meth c D E cA → ∀ (H : Heap) (locs : List Loc) (lc : Array Slot), Wd D E cA z.2.2.2.2.2 z.1 G H → va_S (Ow E) s.heap H locs → lv_has lc M.2.2.1 (ls.map fun q => (q.1, cv E q.2)) →
      W p l e (rmD d z.2.2.2.1 z.2.2.2.2.1) s m args below meth c H locs z.2.1 z.2.2.1 (MQ below (QcM D E cA z.2.2.2.2.2 (z.1 - z.2.1 + z.2.2.2.1) M.2.2.2 Q) args s z.2.2.2.1 z.2.2.2.2.1 (Ow E)) (F0 m pc lc (sk.map (cv E)))
theorem Sw.same {E : En} {s U : State} {H : Heap} (hv : U.vm = s.vm) (h : Sw E s H) : Sw E U H :=
  ⟨va_Z.moved (by rw [hv]; exact Vm.Alike.refl _) h.1, va_T.moved (by rw [hv]; exact Vm.Alike.refl _) h.2.1, vk_S.moved (by rw [hv]; exact Vm.Alike.refl _) h.2.2.1, vk_R.same hv h.2.2.2.1, Sj.same hv h.2.2.2.2.1, va_Nw.same rfl hv.symm h.2.2.2.2.2.1, fun q hq => va_Nw.same rfl hv.symm (h.2.2.2.2.2.2.1 q hq), fun C hC => va_AO.moved (by rw [hv]; exact Vm.Alike.refl _) (h.2.2.2.2.2.2.2 C hC)⟩
theorem PcM_blind (D : va_G) (E : En) (cA : Nat → ClassId) (Ly : Option Mem) (n : Nat) (as : List AV) (G : Mem) : FrameBlind (PcM D E cA Ly n as G) := by
  intro a U g mk h
  exact ⟨h.1, h.2.1, va_K.moved (u := U) (U := U.calling g mk a) (Vm.Alike.refl U.vm) h.2.2.1, Sw.same (s := U) (U := U.calling g mk a) rfl h.2.2.2⟩
theorem PcM_at {D : va_G} {E : En} {cA : Nat → ClassId} {Ly : Option Mem} {n : Nat} {as : List AV} {G : Mem} {s : State} {H : Heap} {locs : List Loc} (hw : Wd D E cA Ly n G H) (hs : va_S (Ow E) s.heap H locs) (hK : va_K D vwCl (tysA cA) s) (hS : Sw E s s.heap) :
    ∀ U : State, U.heap = H → s.WarmedH U.vm → PcM D E cA Ly n as G (as.map (cv E)).toArray U := by
  intro U hU hW
  refine ⟨rfl, by rw [hU]; exact hw, va_K.moved hW.alike hK, ?_⟩
  rw [hU]
  exact Sw.moved hW (Sw.kept hS fun a h1 h2 => hs.2.1 a h1 h2)
/-! locals -/
def lvA : Nat → List AV → List (Nat × AV)
  | _, [] => []
  | i, v :: vs => (i, v) :: lvA (if v.1 = 1 then i + 2 else i + 1) vs
abbrev cl2 (E : En) : Nat × AV → Nat × Value := fun q => (q.1, cv E q.2)
theorem lvA_map (E : En) (vs : List AV) : ∀ i, lv_args i (vs.map (cv E)) = (lvA i vs).map (cl2 E) := by
  induction vs with
  | nil => intro i; rfl
  | cons v vs ih =>
    intro i
    simp only [List.map_cons, lv_args, lvA, cv_cat]
    by_cases h : v.1 = 1
    · simp [h, ih]
    · simp [h, ih]
def csum (vs : List AV) : Nat := (vs.map fun v => if v.1 = 1 then 2 else 1).sum
theorem csum_cat (E : En) (vs : List AV) : ((vs.map (cv E)).map fun v => v.category).sum = csum vs := by
  induction vs with
  | nil => rfl
  | cons v vs ih =>
    simp only [csum, List.map_cons, List.sum_cons, cv_cat] at ih ⊢
    rw [ih]
theorem lg_len (E : En) (vs : List AV) : (lg_sl (vs.map (cv E))).length = csum vs := by
  induction vs with
  | nil => rfl
  | cons v vs ih =>
    simp only [csum, lg_sl, List.map_cons, List.sum_cons, List.flatMap_cons, List.length_append, cv_cat] at ih ⊢
    rw [ih]
    by_cases h : v.1 = 1 <;> simp [h]
theorem cat_beq (E : En) (v : AV) : ((cv E v).category == 2) = (v.1 == 1) := by
  rw [cv_cat]
  by_cases h : v.1 = 1 <;> simp [h]
def sto1 (ls : List (Nat × AV)) (i : Nat) (v : AV) : List (Nat × AV) := (i, v) :: ls.filter (fun q => !(q.1 == i) && !(q.1 + 1 == i && q.2.1 == 1))
def sto2 (ls : List (Nat × AV)) (i : Nat) (v : AV) : List (Nat × AV) := (i, v) :: ls.filter (fun q => !(q.1 == i) && (!(q.1 == i + 1) && !(q.1 + 1 == i && q.2.1 == 1)))
theorem sto1_map (E : En) (ls : List (Nat × AV)) (i : Nat) (v : AV) : (i, cv E v) :: (ls.map (cl2 E)).filter (fun q => !(q.1 == i) && !(q.1 + 1 == i && q.2.category == 2)) = (sto1 ls i v).map (cl2 E) := by
  simp only [sto1, List.map_cons, List.filter_map]
  congr 3
  funext q
  simp [Function.comp, cat_beq]
theorem sto2_map (E : En) (ls : List (Nat × AV)) (i : Nat) (v : AV) : (i, cv E v) :: (ls.map (cl2 E)).filter (fun q => !(q.1 == i) && (!(q.1 == i + 1) && !(q.1 + 1 == i && q.2.category == 2))) = (sto2 ls i v).map (cl2 E) := by
  simp only [sto2, List.map_cons, List.filter_map]
  congr 3
  funext q
  simp [Function.comp, cat_beq]
theorem ls_at (E : En) {ls : List (Nat × AV)} {lc : Array Slot} {n k i : Nat} {v : AV} (hl : lv_has lc n (ls.map (cl2 E))) (h : ls[k]? = some (i, v)) : lc[i]? = some (.val (cv E v)) :=
  lv_at hl k (by rw [List.getElem?_map, h]; rfl)
/-- the entry -/
theorem Ct.of {d : Nat} {M : Mth} {n mc ms : Nat} {Ly : Option Mem} {as : List AV} {G : Mem} {Q : Int → Mem → Prop} (hp : plainName M.1.cls = true) (hlen : csum as ≤ M.2.2.1)
    (h : Rn d M (n, 0, 0, mc, ms, Ly) 0 (lvA 0 as) [] G Q) : Ct d M n mc ms Ly as G Q := by
  intro l D E cA
  refine Met.ofW (cc := M.2.1) (maxL := M.2.2.1) (ret := M.2.2.2) hp rfl ?_
  intro p e s m args below meth c s₁ B hml hv
  obtain ⟨rfl, hW, hK, hS⟩ := hv
  have hts := atoms_spec (ws := wsM M) B.pre
  have hl := lv_entry (as.map (cv E)) (n := M.2.2.1) (by rw [lg_len]; exact hlen)
  rw [lvA_map] at hl
  rw [lg_entry_eq]
  have hc : Cx d M mc ms p s m (as.map (cv E)).toArray meth c D E cA := ⟨B.exec, B.bytes, hml, findClass_of_methodNamed B.named, fun w hw => hts w (List.mem_cons_of_mem _ hw), B.returns, B.notSynchronized, (name_of_methodNamed B.named B.method).1, hK, hS, Nat.le_trans (Nat.le_add_right _ n) hW.2.1⟩
  exact h p l e s m _ below meth c D E cA hc s.heap [] _ hW va_S.rf hl
/-! rows -/
abbrev InR (x : Int) : Prop := -2147483648 ≤ x ∧ x < 2147483648
abbrev InL (x : Int) : Prop := -9223372036854775808 ≤ x ∧ x < 9223372036854775808
theorem ofI_toInt {x : Int} (h : InR x) : (Int32.ofInt x).toInt = x := Int32.toInt_ofInt_of_le (by have := h.1; omega) (by have := h.2; omega)
theorem ofL_toInt {x : Int} (h : InL x) : (Int64.ofInt x).toInt = x := Int64.toInt_ofInt_of_le (by have := h.1; omega) (by have := h.2; omega)
theorem ofI_inj {x y : Int} (hx : InR x) (hy : InR y) : Int32.ofInt x = Int32.ofInt y ↔ x = y := by
  constructor
  · intro h
    have := congrArg Int32.toInt h
    rwa [ofI_toInt hx, ofI_toInt hy] at this
  · intro h; rw [h]
theorem ofI_lt {x y : Int} (hx : InR x) (hy : InR y) : Int32.ofInt x < Int32.ofInt y ↔ x < y := by
  rw [Int32.lt_iff_toInt_lt, ofI_toInt hx, ofI_toInt hy]
theorem ofI_le {x y : Int} (hx : InR x) (hy : InR y) : Int32.ofInt x ≤ Int32.ofInt y ↔ x ≤ y := by
  rw [Int32.le_iff_toInt_le, ofI_toInt hx, ofI_toInt hy]
theorem InR0 : InR 0 := ⟨by omega, by omega⟩
theorem ofI_0 : Int32.ofInt 0 = 0 := rfl
def shlI (a b : Int) : Int := (Int32.ofInt a <<< (Int32.ofInt b &&& 31)).toInt
def shrI (a b : Int) : Int := (Int32.ofInt a >>> (Int32.ofInt b &&& 31)).toInt
def ushrI (a b : Int) : Int := ((Int32.ofInt a).toUInt32 >>> ((Int32.ofInt b).toUInt32 &&& Int32.toUInt32 31)).toInt32.toInt
def andI (a b : Int) : Int := (Int32.ofInt a &&& Int32.ofInt b).toInt
def orI (a b : Int) : Int := (Int32.ofInt a ||| Int32.ofInt b).toInt
def shlL (a b : Int) : Int := (Int64.ofInt a <<< ((Int32.ofInt b).toInt64 &&& 63)).toInt
def ushrL (a b : Int) : Int := ((Int64.ofInt a).toUInt64 >>> ((Int32.ofInt b).toInt64.toUInt64 &&& Int64.toUInt64 63)).toInt64.toInt
def andL (a b : Int) : Int := (Int64.ofInt a &&& Int64.ofInt b).toInt
def orL (a b : Int) : Int := (Int64.ofInt a ||| Int64.ofInt b).toInt
theorem tcl {i : Int} {n : Nat} (h0 : 0 ≤ i) (hn : i < n) (hb : n < 2147483648) : (Int32.ofInt i).toNatClampNeg = i.toNat := by
  rw [Int32.toNatClampNeg_ofInt_of_le (by omega) (by omega)]
theorem vpin {i : Int} {n : Nat} (h0 : 0 ≤ i) (hn : i < n) (hb : n < 2147483648) : vp_in (Int32.ofInt i) n := by
  intro h
  rcases h with h | h
  · rw [← ofI_0, ofI_lt ⟨by omega, by omega⟩ InR0] at h
    omega
  · rw [tcl h0 hn hb] at h
    omega
