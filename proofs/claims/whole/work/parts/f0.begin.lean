/-! the world at the law's entry -/
theorem str_sl : ((flatC (Jvm.Cond.and given_1 narrow_1)).drop 97).take 173 = (List.range 173).map fun j => Cond.eq (.elem (.field (.string "PastSleep$Tokens" 64) "java/lang/String" "value" "[B") (.int (Int32.ofNat j))) (.int ((sByt.getD 0 []).getD j 0)) := by decide +kernel
theorem str_el : ∀ j ∈ List.range (sLen.getD 0 0), Cond.eq (.elem (.field (.string "PastSleep$Tokens" 64) "java/lang/String" "value" "[B") (.int (Int32.ofNat j))) (.int ((sByt.getD 0 []).getD j 0)) ∈ flatC (Jvm.Cond.and given_1 narrow_1) := by
  intro j hj
  have h : Cond.eq (.elem (.field (.string "PastSleep$Tokens" 64) "java/lang/String" "value" "[B") (.int (Int32.ofNat j))) (.int ((sByt.getD 0 []).getD j 0)) ∈ ((flatC (Jvm.Cond.and given_1 narrow_1)).drop 97).take 173 := by
    rw [str_sl]
    exact List.mem_map.mpr ⟨j, hj, rfl⟩
  exact List.mem_of_mem_drop (List.mem_of_mem_take h)
theorem decl_in : ∀ x ∈ xDecl, Cond.declares x ∈ lw_tbl := by decide +kernel
theorem nest_in : ∀ q ∈ nestsM, Cond.methodLinkNest q.1 q.2.1 q.2.2.1 q.2.2.2 ∈ lw_tbl := by decide +kernel
theorem ao_in : ∀ C ∈ aoC, Cond.arrayOver (.object C) ∈ lw_tbl := by decide +kernel
section BEGIN
variable {s : State} {args : Array Value}
theorem k_class (hts : ∀ w ∈ lw_tbl.filter goodWord, w.before args s = true) (c : Nat) : ∃ x : ClassId × (Nat → Nat), ∀ q : vw_C, vwCl[c]? = some q → u_Kn s q.1 q.2.1 q.2.2 x.1 x.2 := by
  have one : ∀ (q : vw_C) (n : Nat), q ∈ vwCl → Cond.instantiable q.1 n ∈ lw_tbl.filter goodWord → ∃ x : ClassId × (Nat → Nat), u_Kn s q.1 q.2.1 q.2.2 x.1 x.2 := fun q n hq hi => by
    obtain ⟨cC, iS, h⟩ := u_known (C := q.1) (T := q.2.1) (N := q.2.2) (n := n) hts (vwCl_in q hq) (hts _ hi)
    exact ⟨(cC, iS), h⟩
  match c with
  | 0 =>
    obtain ⟨x, hx⟩ := one _ 6 (List.mem_of_getElem? (i := 0) rfl) (gk1 93 rfl rfl)
    exact ⟨x, fun q hq => by cases hq; exact hx⟩
  | 1 =>
    obtain ⟨x, hx⟩ := one _ 11 (List.mem_of_getElem? (i := 1) rfl) (gk2 51 rfl rfl)
    exact ⟨x, fun q hq => by cases hq; exact hx⟩
  | 2 =>
    obtain ⟨x, hx⟩ := one _ 13 (List.mem_of_getElem? (i := 2) rfl) (gk1 153 rfl rfl)
    exact ⟨x, fun q hq => by cases hq; exact hx⟩
  | 3 =>
    obtain ⟨x, hx⟩ := one _ 7 (List.mem_of_getElem? (i := 3) rfl) (gk2 59 rfl rfl)
    exact ⟨x, fun q hq => by cases hq; exact hx⟩
  | 4 =>
    obtain ⟨x, hx⟩ := one _ 8 (List.mem_of_getElem? (i := 4) rfl) (gk1 119 rfl rfl)
    exact ⟨x, fun q hq => by cases hq; exact hx⟩
  | 5 =>
    obtain ⟨x, hx⟩ := one _ 5 (List.mem_of_getElem? (i := 5) rfl) (gk1 69 rfl rfl)
    exact ⟨x, fun q hq => by cases hq; exact hx⟩
  | 6 =>
    obtain ⟨x, hx⟩ := one _ 4 (List.mem_of_getElem? (i := 6) rfl) (gk2 32 rfl rfl)
    exact ⟨x, fun q hq => by cases hq; exact hx⟩
  | 7 =>
    obtain ⟨x, hx⟩ := one _ 9 (List.mem_of_getElem? (i := 7) rfl) (gk2 86 rfl rfl)
    exact ⟨x, fun q hq => by cases hq; exact hx⟩
  | 8 =>
    obtain ⟨x, hx⟩ := one _ 12 (List.mem_of_getElem? (i := 8) rfl) (gk1 159 rfl rfl)
    exact ⟨x, fun q hq => by cases hq; exact hx⟩
  | 9 =>
    obtain ⟨x, hx⟩ := one _ 4 (List.mem_of_getElem? (i := 9) rfl) (gk2 231 rfl rfl)
    exact ⟨x, fun q hq => by cases hq; exact hx⟩
  | 10 =>
    obtain ⟨x, hx⟩ := one _ 7 (List.mem_of_getElem? (i := 10) rfl) (gk1 35 rfl rfl)
    exact ⟨x, fun q hq => by cases hq; exact hx⟩
  | 11 =>
    obtain ⟨x, hx⟩ := one _ 17 (List.mem_of_getElem? (i := 11) rfl) (gk1 27 rfl rfl)
    exact ⟨x, fun q hq => by cases hq; exact hx⟩
  | 12 =>
    obtain ⟨x, hx⟩ := one _ 76 (List.mem_of_getElem? (i := 12) rfl) (gk6 106 rfl rfl)
    exact ⟨x, fun q hq => by cases hq; exact hx⟩
  | c + 13 => exact ⟨(0, fun _ => 0), fun q hq => by simp [vwCl] at hq⟩
theorem k_prim {ty : FieldType} (h : (Cond.arrayClass ty).before args s = true) (hno : ∀ C, ty ≠ .object C) : ∃ cA : ClassId, ArrOfT s cA ty ∧ va_RA s cA ty := by
  obtain ⟨c, k, comp, h1, h2, h3⟩ := Cond.arrayClass_spec h
  refine ⟨c, fun n z => ⟨fun k h => (by cases h), k, h2, comp, h3⟩, ?_⟩
  cases ty <;> first | exact h1 | exact absurd rfl (hno _)
theorem k_obj {C : String} (h : (Cond.arrayOver (.object C)).before args s = true) : ∃ cA : ClassId, ArrOfT s cA (.object C) ∧ va_RA s cA (.object C) := by
  obtain ⟨comp, c, k, h1, h2, h3, h4, h5⟩ := Cond.arrayOver_spec h
  exact ⟨c, fun n z => ⟨fun k h => (by cases h), k, h3, comp, h4⟩, k, comp, h3, h4, h1, h5⟩
theorem k_arr (hts : ∀ w ∈ lw_tbl, w.before args s = true) (t : Nat) : ∃ cA : ClassId, t < 8 → ArrOfT s cA (tyA t) ∧ va_RA s cA (tyA t) := by
  have g : ∀ w ∈ lw_tbl.filter goodWord, w.before args s = true := fun w hw => hts w (List.mem_filter.mp hw).1
  match t with
  | 0 =>
    obtain ⟨c, h⟩ := k_prim (g _ (gk1 91 rfl rfl)) (fun C e => by cases e)
    exact ⟨c, fun _ => h⟩
  | 1 =>
    obtain ⟨c, h⟩ := k_prim (g _ (gk1 151 rfl rfl)) (fun C e => by cases e)
    exact ⟨c, fun _ => h⟩
  | 2 =>
    obtain ⟨c, h⟩ := k_prim (g _ (gk1 67 rfl rfl)) (fun C e => by cases e)
    exact ⟨c, fun _ => h⟩
  | 3 =>
    obtain ⟨c, h⟩ := k_prim (g _ (gk1 90 rfl rfl)) (fun C e => by cases e)
    exact ⟨c, fun _ => h⟩
  | 4 =>
    obtain ⟨c, h⟩ := k_obj (hts (.arrayOver (.object "PastSleep$State")) (by decide +kernel))
    exact ⟨c, fun _ => h⟩
  | 5 =>
    obtain ⟨c, h⟩ := k_obj (hts (.arrayOver (.object "PastSleep$Cabin")) (by decide +kernel))
    exact ⟨c, fun _ => h⟩
  | 6 =>
    obtain ⟨c, h⟩ := k_obj (hts (.arrayOver (.object "PastSleep$Tells")) (by decide +kernel))
    exact ⟨c, fun _ => h⟩
  | 7 =>
    obtain ⟨c, h⟩ := k_obj (hts (.arrayOver (.object "PastSleep$Sitter")) (by decide +kernel))
    exact ⟨c, fun _ => h⟩
  | t + 8 => exact ⟨0, fun h => by omega⟩
theorem k_start (hts : ∀ w ∈ lw_tbl, w.before args s = true) : ∃ (D : va_G) (cA : Nat → ClassId), va_K D vwCl (tysA cA) s := by
  have g : ∀ w ∈ lw_tbl.filter goodWord, w.before args s = true := fun w hw => hts w (List.mem_filter.mp hw).1
  refine ⟨(fun c => (Classical.choose (k_class g c)).1, fun c => (Classical.choose (k_class g c)).2), fun t => Classical.choose (k_arr hts t), fun c q hq => Classical.choose_spec (k_class g c) q hq, fun k q hq => ?_⟩
  have hk : k < 8 := by
    have := (List.getElem?_eq_some_iff.mp hq).1
    simpa [tysA] using this
  rw [tysA_get _ hk] at hq
  cases hq
  exact Classical.choose_spec (k_arr hts k) hk
theorem str_at {own tx : String} {k : Nat} (h1 : (Cond.stringRef own k tx).before args s = true) (h2 : (Cond.exactly (.string own k) "java/lang/String").before args s = true) : ∃ a, vk_R own k tx a s := by
  obtain ⟨a, c, cA, kA, q1, -⟩ := Cond.exactly_spec (args := args) (first := s) (o := none) (s := s) (idx := []) (t := .string own k) (cls := "java/lang/String") h2
  exact ⟨a, vk_R.of h1 q1⟩
theorem sw_start (hts : ∀ w ∈ lw_tbl, w.before args s = true) (hg : ∀ w ∈ flatC (Jvm.Cond.and given_1 narrow_1), w.before args s = true) : ∃ E : En, E.1 = s.heap.size ∧ Sw E s s.heap := by
  have hA : ∀ a : Nat, a < s.heap.size → ¬ (fun q : Nat => s.heap.size ≤ q) a := fun a h => Nat.not_le.mpr h
  obtain ⟨t3, ht3, hT3⟩ := va_Tof (args := args) (tm := .static "PastSleep" "THREES" "[I") (ty := .int) (N := 6) (f := fun j => .int (Int32.ofInt (thr.getD j 0))) (A := fun q : Nat => s.heap.size ≤ q) (by decide) (hg _ (by decide +kernel)) (va_eqt (hg _ (by decide +kernel))) (fun j hj => by
    have w : j = 0 ∨ j = 1 ∨ j = 2 ∨ j = 3 ∨ j = 4 ∨ j = 5 := by omega
    rcases w with e | e | e | e | e | e <;> subst e <;> exact va_eqt (hg _ (by decide +kernel))) hA
  obtain ⟨adK, adV, hS, hSe⟩ := vk_Sof (args := args) (s := s) (N := 1) (tm := fun _ => .string "PastSleep$Tokens" 64) (len := sLen) (byt := sByt) (A := fun q : Nat => s.heap.size ≤ q) (fun i hi => by rw [show i = 0 by omega]; decide) (fun i hi => hg _ (by decide +kernel)) (fun i hi => hg _ (by decide +kernel)) (fun i hi => hg _ (by decide +kernel)) (fun i hi => by rw [show i = 0 by omega]; exact hg _ (by decide +kernel)) (fun i hi j hj => by
    rw [show i = 0 by omega] at hj ⊢
    exact hg _ (str_el j (List.mem_range.mpr hj))) (fun i j hi hj hij => absurd (by omega) hij) hA
  have hSa := hSe 0 (by decide)
  obtain ⟨a304, h304⟩ := str_at (hts (.stringRef "PastSleep" 304 "no such sitter") (by decide +kernel)) (hg _ (by decide +kernel))
  obtain ⟨a316, h316⟩ := str_at (hts (.stringRef "PastSleep" 316 "no such sitter, or needs are 9") (by decide +kernel)) (hg _ (by decide +kernel))
  refine ⟨(s.heap.size, t3, adK, adV), rfl, va_Zref (hts _ (by decide +kernel)) (hts _ (by decide +kernel)) ht3 hA, hT3, hS, vk_R.of (hts _ (by decide +kernel)) hSa, ?_, va_Nw.of rfl (hts _ (by decide +kernel)), ?_, ?_⟩
  · refine ⟨va_Zof (hts _ (by decide +kernel)) (hts _ (by decide +kernel)) (va_eqt (hg _ (by decide +kernel))) hA, va_Zqof (hts _ (by decide +kernel)) (hts _ (by decide +kernel)) (hg _ (by decide +kernel)) hA, vx_Zqof (hts _ (by decide +kernel)) (hts _ (by decide +kernel)) (hg _ (by decide +kernel)) hA, vx_Zqof (hts _ (by decide +kernel)) (hts _ (by decide +kernel)) (hg _ (by decide +kernel)) hA, ⟨a304, h304⟩, ⟨a316, h316⟩, va_Nw.of rfl (hts _ (by decide +kernel)), fun x hx => va_Nw.of rfl (hts _ (decl_in x hx))⟩
  · exact fun q hq => va_Nw.of rfl (hts _ (nest_in q hq))
  · exact fun C hC => va_AO.of (hts _ (ao_in C hC))
end BEGIN
