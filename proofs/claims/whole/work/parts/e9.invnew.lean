/-! what stands behind the two constructors -/
theorem fr_z {q : Int} (h : layL.getD q.toNat [] = []) (hx : exq q = 0) (h0 : q ≠ 0) (h3 : q ≠ 3) (k : Int) : fr q k = 0 := by
  have l : lay q k = -1 := by unfold lay; rw [h]; rfl
  rw [fr_Fz h0 hx]
  unfold Fz
  rw [l, if_neg (by decide), if_neg (fun z => h3 z.1)]
section INVNEW
variable {G M : Mem}
theorem inv_new (A : Fr fr G 0 311) (B : Fr Fz M 311 363) (C : PnF 0 313 324 327 328 M G) : Inv0 G G 37 (fun _ _ => 0) ∧ RkC G 37 (fun _ _ => 0) := by
  obtain ⟨p1, p2, p3, p4⟩ := C
  have one : ∀ (q k v : Int), 0 ≤ q → q < 311 → 0 ≤ k → k < (shp q.toNat).2 → fr q k = v → G q k = v := fun q k v q0 q1 k0 k1 e => (A q k q0 q1 k0 k1).trans e
  have rowz : ∀ (q : Int) (L : Nat), 0 ≤ q → q < 311 → (shp q.toNat).2 = L → layL.getD q.toNat [] = [] → exq q = 0 → q ≠ 0 → q ≠ 3 → ∀ k : Int, 0 ≤ k → k < L → G q k = 0 := fun q L q0 q1 hs hl hx h0 h3 k k0 k1 => one q k 0 q0 q1 k0 (by rw [hs]; exact k1) (fr_z hl hx h0 h3 k)
  have mz : ∀ (q : Int) (t L : Nat), 311 ≤ q → q < 363 → q ≠ 313 → q ≠ 324 → q ≠ 327 → q ≠ 328 → Ar NT q t L → t < 4 → ∀ k : Int, 0 ≤ k → k < L → G q k = 0 := fun q t L q0 q1 n1 n2 n3 n4 ha ht k k0 k1 => by
    rw [p4 q k (by omega) (by omega) (by omega), B q k q0 q1 k0 (by rw [ha.2.2.1]; exact k1)]
    exact Fz_arr ha ht k
  have mo : ∀ k : Int, 0 ≤ k → k < 76 → Fz 311 k = 0 → G 311 k = 0 := fun k k0 k1 e => by
    rw [p4 311 k (by omega) (by omega) (by omega), B 311 k (by decide) (by decide) k0 (by rw [show (shp (311 : Int).toNat).2 = 76 by decide +kernel]; exact k1)]
    exact e
  -- the class
  have g13 : G 0 13 = 37 := one _ _ _ (by decide) (by decide) (by decide) (by decide +kernel) (by decide +kernel)
  have g14 : G 0 14 = 55 := one _ _ _ (by decide) (by decide) (by decide) (by decide +kernel) (by decide +kernel)
  have g15 : G 0 15 = 0 := one _ _ _ (by decide) (by decide) (by decide) (by decide +kernel) (by decide +kernel)
  have g16 : G 0 16 = 0 := one _ _ _ (by decide) (by decide) (by decide) (by decide +kernel) (by decide +kernel)
  have g19a : G 19 10 = 0 := one _ _ _ (by decide) (by decide) (by decide) (by decide +kernel) (by decide +kernel)
  have g19b : G 19 11 = 0 := one _ _ _ (by decide) (by decide) (by decide) (by decide +kernel) (by decide +kernel)
  have g11 : G 1 1 = 0 := one _ _ _ (by decide) (by decide) (by decide) (by decide +kernel) (by decide +kernel)
  have c6 : G 37 6 = 2 := one _ _ _ (by decide) (by decide) (by decide) (by decide +kernel) (by decide +kernel)
  have c7 : G 37 7 = 1 := one _ _ _ (by decide) (by decide) (by decide) (by decide +kernel) (by decide +kernel)
  have c8 : G 37 8 = 0 := one _ _ _ (by decide) (by decide) (by decide) (by decide +kernel) (by decide +kernel)
  have c9 : G 37 9 = 11 := one _ _ _ (by decide) (by decide) (by decide) (by decide +kernel) (by decide +kernel)
  have c10 : G 37 10 = 9 := one _ _ _ (by decide) (by decide) (by decide) (by decide +kernel) (by decide +kernel)
  have s7 : G 73 7 = 0 := one _ _ _ (by decide) (by decide) (by decide) (by decide +kernel) (by decide +kernel)
  have s8 : G 73 8 = 0 := one _ _ _ (by decide) (by decide) (by decide) (by decide +kernel) (by decide +kernel)
  have s9 : G 73 9 = 0 := one _ _ _ (by decide) (by decide) (by decide) (by decide +kernel) (by decide +kernel)
  have s10 : G 73 10 = 0 := one _ _ _ (by decide) (by decide) (by decide) (by decide +kernel) (by decide +kernel)
  have s11 : G 73 11 = 0 := one _ _ _ (by decide) (by decide) (by decide) (by decide +kernel) (by decide +kernel)
  have l6 : G 43 6 = 0 := one _ _ _ (by decide) (by decide) (by decide) (by decide +kernel) (by decide +kernel)
  have c39 : ∀ s : Int, 0 ≤ s → s < 5 → G 39 s = -1 := fun s h0 h1 => one _ _ _ (by decide) (by decide) h0 (by rw [show (shp (39 : Int).toNat).2 = 5 by decide +kernel]; exact h1) (by
    have w : s = 0 ∨ s = 1 ∨ s = 2 ∨ s = 3 ∨ s = 4 := by omega
    rcases w with e | e | e | e | e <;> subst e <;> decide +kernel)
  have c42 : ∀ s : Int, 0 ≤ s → s < 4 → G 42 s = 1 := fun s h0 h1 => one _ _ _ (by decide) (by decide) h0 (by rw [show (shp (42 : Int).toNat).2 = 4 by decide +kernel]; exact h1) (by
    have w : s = 0 ∨ s = 1 ∨ s = 2 ∨ s = 3 := by omega
    rcases w with e | e | e | e <;> subst e <;> decide +kernel)
  have c40 := rowz 40 5 (by decide) (by decide) (by decide +kernel) (by decide +kernel) (by decide +kernel) (by decide) (by decide)
  have c41 := rowz 41 72 (by decide) (by decide) (by decide +kernel) (by decide +kernel) (by decide +kernel) (by decide) (by decide)
  have c45 := rowz 45 3 (by decide) (by decide) (by decide +kernel) (by decide +kernel) (by decide +kernel) (by decide) (by decide)
  have r74 := rowz 74 5 (by decide) (by decide) (by decide +kernel) (by decide +kernel) (by decide +kernel) (by decide) (by decide)
  have r75 := rowz 75 5 (by decide) (by decide) (by decide +kernel) (by decide +kernel) (by decide +kernel) (by decide) (by decide)
  have r76 := rowz 76 5 (by decide) (by decide) (by decide +kernel) (by decide +kernel) (by decide +kernel) (by decide) (by decide)
  have r80 := rowz 80 5 (by decide) (by decide) (by decide +kernel) (by decide +kernel) (by decide +kernel) (by decide) (by decide)
  have r82 := rowz 82 5 (by decide) (by decide) (by decide +kernel) (by decide +kernel) (by decide +kernel) (by decide) (by decide)
  have r83 := rowz 83 5 (by decide) (by decide) (by decide +kernel) (by decide +kernel) (by decide +kernel) (by decide) (by decide)
  have r84 := rowz 84 5 (by decide) (by decide) (by decide +kernel) (by decide +kernel) (by decide +kernel) (by decide) (by decide)
  have r183 := rowz 183 4 (by decide) (by decide) (by decide +kernel) (by decide +kernel) (by decide +kernel) (by decide) (by decide)
  -- the model
  have m1 : G 311 1 = 0 := mo 1 (by decide) (by decide) (by decide +kernel)
  have m46 : G 311 46 = 0 := mo 46 (by decide) (by decide) (by decide +kernel)
  have m342 := mz 342 0 116 (by decide) (by decide) (by decide) (by decide) (by decide) (by decide) (by unfold Ar; decide +kernel) (by decide)
  have m362 := mz 362 1 4 (by decide) (by decide) (by decide) (by decide) (by decide) (by decide) (by unfold Ar; decide +kernel) (by decide)
  have q1 : ∀ j : Int, 0 ≤ j → j < 12 → G 313 j = plv j := fun j j0 j1 => by have := p1 j j0 j1; rwa [show 12 * (0 : Int) + j = j by omega] at this
  have q2 : ∀ j : Int, 0 ≤ j → j < 5 → G 324 j = 0 := fun j j0 j1 => by have := p2 j j0 j1; rwa [show 5 * (0 : Int) + j = j by omega] at this
  have q3 : ∀ j : Int, 0 ≤ j → j < 3 → G 327 j = 0 ∧ G 328 j = 0 := fun j j0 j1 => by have := p3 j j0 j1; rwa [show 3 * (0 : Int) + j = j by omega] at this
  have d9 : G 313 9 = 0 := q1 9 (by decide) (by decide)
  have d10 : G 313 10 = 0 := q1 10 (by decide) (by decide)
  have nt : ∀ k : Int, 0 ≤ k → ¬ TldK G 0 k := fun k k0 h => by
    unfold TldK at h
    simp only [Int.mul_zero, Int.zero_add] at h
    omega
  have hC : CbOk G 37 := by
    refine ⟨by omega, by omega, by omega, by omega, by omega, fun i i0 i1 => by omega, fun s s0 s1 => Or.inl (c39 s s0 s1), fun s s0 s1 => ?_, fun t t0 t1 => ?_, fun k k0 k1 => ?_⟩
    · have := c40 s s0 s1
      simp only [Int.reduceAdd]
      omega
    · have := c41 t t0 t1
      simp only [Int.reduceAdd]
      omega
    · have := c42 k k0 k1
      simp only [Int.reduceAdd]
      omega
  have hS : StOk G 73 := by
    refine ⟨by omega, fun i i0 i1 => ?_⟩
    have a := r74 i i0 i1
    have b := r75 i i0 i1
    have c := r76 i i0 i1
    have e := r80 i i0 i1
    unfold RwOk
    simp only [Int.reduceAdd]
    omega
  have hR : CabR G G 37 0 := by
    refine ⟨⟨?_, ?_, ?_, ?_, ?_⟩, fun k k0 k1 => ?_, fun i i0 i1 => by omega, fun i i0 i1 => ?_, ?_, fun k k0 _ h => absurd h (nt k k0), fun t t0 t1 => ⟨fun z => ?_, fun ⟨k, k0, _, h, _⟩ => absurd h (nt k k0)⟩⟩
    · exact (q1 0 (by decide) (by decide)).trans c6.symm
    · exact (q1 1 (by decide) (by decide)).trans c7.symm
    · exact (q1 2 (by decide) (by decide)).trans c9.symm
    · exact (q1 7 (by decide) (by decide)).trans c10.symm
    · exact (q1 8 (by decide) (by decide)).trans c8.symm
    · have a := q1 (3 + k) (by omega) (by omega)
      rw [show 12 * (0 : Int) + 3 + k = 3 + k by omega, a, show (37 : Int) + 5 = 42 by decide, c42 k k0 k1]
      unfold plv
      rw [if_neg (by omega), if_neg (by omega), if_neg (by omega), if_pos (by omega)]
    · rw [show 5 * (0 : Int) + i = i by omega, q2 i i0 i1, show (37 : Int) + 3 = 40 by decide, c40 i i0 i1]
    · show (0 ≤ G 313 9 ∧ G 313 9 ≤ 4) ∧ 0 ≤ G 313 10 ∧ G 313 10 ≤ 4
      omega
    · exact absurd (c41 t t0 t1) z
  have hX : StX G G 73 342 0 (G 37 8) := by
    refine ⟨fun i i0 i1 => by omega, fun i i0 i1 => ?_, ?_, ?_, ?_, ?_, ?_⟩
    · rw [show (0 : Int) + 30 + i = 30 + i by omega, m342 (30 + i) (by omega) (by omega), show (73 : Int) + 7 = 80 by decide, r80 i i0 i1]
    · exact (m342 110 (by decide) (by decide)).trans s7.symm
    · exact (m342 111 (by decide) (by decide)).trans s8.symm
    · exact (m342 112 (by decide) (by decide)).trans s9.symm
    · exact (m342 113 (by decide) (by decide)).trans s10.symm
    · exact (m342 114 (by decide) (by decide)).trans s11.symm
  refine ⟨⟨⟨g13, by omega, Or.inl rfl, g19b⟩, ⟨by unfold Bs; decide +kernel, hC, hS, by omega, hR, hX⟩, ⟨by simp only [Int.reduceAdd]; omega, fun l l0 l3 => Or.inl ?_⟩, ⟨by omega, by omega, by omega, fun j j0 j1 => by omega⟩, fun i i0 i5 => ?_, fun i i0 i4 => ?_, ⟨by omega, by omega, fun k k0 k1 => by omega⟩⟩, Or.inl g19a⟩
  · have a := q3 l l0 l3
    have b := c45 l l0 l3
    rw [show 3 * (0 : Int) + l = l by omega]
    simp only [Int.reduceAdd]
    omega
  · have a := r82 i i0 i5
    have b := r83 i i0 i5
    have c := r84 i i0 i5
    simp only [Int.reduceAdd, Int.zero_add]
    rw [m342 (35 + i) (by omega) (by omega), m342 (40 + i) (by omega) (by omega), m342 (45 + i) (by omega) (by omega), a, b, c]
    exact ⟨rfl, rfl, rfl, by decide, by decide, fun j j0 j1 => by omega⟩
  · have a := r183 i i0 i4
    have b := m362 i i0 i4
    rw [a, b]
    exact ⟨rfl, Or.inl rfl, fun z => absurd z (by decide)⟩
end INVNEW
