section CABINS
variable {d : Nat} {G M' M2 D' : Mem} {c : Int} {fs fs' : Int → Law}
theorem inv_read (hI : Inv0 G G c fs) (cab : CabR D' M2 0 1) (cok : CbOk D' 0) (hLs : LawsR D' M2 0 1 fs') (hC3 : ∀ i, 0 ≤ i → i < 5 → M2 324 (5 + i) = D' 3 i)
    (gM : ∀ q k : Int, 0 ≤ q → q < 18 → M' (92 - c + q) k = D' q k) (rw6 : RwEq M2 M' 1 0) (ln6 : LnEq M2 M' 1 0) (z342 : ∀ k, 0 ≤ k → k < 116 → ¬ (30 ≤ k ∧ k < 35) → M' 342 k = 0) (z30 : ∀ k, 0 ≤ k → k < 5 → M' 342 (30 + k) = M2 324 (5 + k))
    (st7 : ∀ k, 7 ≤ k → k ≤ 11 → M' 73 k = 0) (st1 : ∀ j, 1 ≤ j → j ≤ 6 → ∀ i, 0 ≤ i → i < 5 → M' (73 + j) i = if j = 3 then -100 else 0) (st80 : ∀ i, 0 ≤ i → i < 5 → M' 80 i = D' 3 i) (tl : ∀ j, 1 ≤ j → j ≤ 3 → ∀ i, 0 ≤ i → i < 5 → M' (81 + j) i = 0)
    (c15 : M' 0 15 = G 0 15) (c11 : M' 19 11 = G 19 11) (cU : ∀ q k : Int, 87 ≤ q → q < 311 → M' q k = G q k) (s13 : M' 0 13 = 92 - c) (s14 : M' 0 14 = c) (z16 : M' 0 16 = 0) (z46 : M' 311 46 = 0) (z10 : M' 19 10 = 0) (t11 : M' 1 1 = 0) (u1 : M' 311 1 = 0)
    (hi : ∀ q k : Int, 312 ≤ q → ¬ MvC q k → q ≠ 342 → ¬ Rw0 q k → M' q k = G q k) : OkX 0 0 M' := by
  obtain ⟨⟨i13, i14, hc, i11⟩, hCu, hLw, hUn, hTl, hMk, hTp⟩ := id hI
  have hbc : Bs 1 (92 - c) := by rcases hc with rfl | rfl <;> (unfold Bs; decide +kernel)
  have gM0 : ∀ k : Int, M' (92 - c) k = D' 0 k := fun k => by have := gM 0 k (by decide) (by decide); rwa [Int.add_zero] at this
  have cbe : CbEq D' M' 0 (92 - c) := ⟨fun k _ _ => gM0 k, fun i _ _ => ⟨by rw [Int.zero_add]; exact gM 2 i (by decide) (by decide), by rw [Int.zero_add]; exact gM 3 i (by decide) (by decide)⟩, fun i _ _ => by rw [Int.zero_add]; exact gM 4 i (by decide) (by decide), fun i _ _ => by rw [Int.zero_add]; exact gM 5 i (by decide) (by decide), fun i k i0 i1 _ _ => by rw [Int.zero_add, Int.add_assoc]; exact gM (13 + i) k (by omega) (by omega)⟩
  have lwe : LwEq D' M' 0 (92 - c) := ⟨by rw [Int.zero_add]; exact gM 6 6 (by decide) (by decide), fun j j0 j1 i _ _ => by rw [Int.zero_add]; exact gM j i (by omega) (by omega), fun i _ _ => by rw [Int.zero_add]; exact gM 11 i (by decide) (by decide)⟩
  have cab' : CabR M' M' (92 - c) 0 := cab.cp cok.2.2.1 cbe rw6
  have cok' : CbOk M' (92 - c) := cok.cp cbe
  have laws' : LawsR M' M' (92 - c) 0 fs' := hLs.mv lwe ln6
  have a74 : ∀ i, 0 ≤ i → i < 5 → M' 74 i = 0 := fun i i0 i1 => by have := st1 1 (by decide) (by decide) i i0 i1; simpa using this
  have a75 : ∀ i, 0 ≤ i → i < 5 → M' 75 i = 0 := fun i i0 i1 => by have := st1 2 (by decide) (by decide) i i0 i1; simpa using this
  have a76 : ∀ i, 0 ≤ i → i < 5 → M' 76 i = -100 := fun i i0 i1 => by have := st1 3 (by decide) (by decide) i i0 i1; simpa using this
  have a77 : ∀ i, 0 ≤ i → i < 5 → M' 77 i = 0 := fun i i0 i1 => by have := st1 4 (by decide) (by decide) i i0 i1; simpa using this
  have a78 : ∀ i, 0 ≤ i → i < 5 → M' 78 i = 0 := fun i i0 i1 => by have := st1 5 (by decide) (by decide) i i0 i1; simpa using this
  have a79 : ∀ i, 0 ≤ i → i < 5 → M' 79 i = 0 := fun i i0 i1 => by have := st1 6 (by decide) (by decide) i i0 i1; simpa using this
  have D3 : ∀ i, 0 ≤ i → i < 5 → 0 ≤ D' 3 i ∧ D' 3 i ≤ 1 := fun i i0 i1 => by have := cok.2.2.2.2.2.2.2.1 i i0 i1; rwa [Int.zero_add] at this
  have stok : StOk M' 73 := by
    refine ⟨by rw [st7 7 (by decide) (by decide)]; omega, fun i i0 i1 => ?_⟩
    unfold RwOk
    rw [show (73 : Int) + 1 = 74 by decide, show (73 : Int) + 2 = 75 by decide, show (73 : Int) + 3 = 76 by decide, show (73 : Int) + 7 = 80 by decide, a74 i i0 i1, a75 i i0 i1, a76 i i0 i1, st80 i i0 i1]
    have := D3 i i0 i1
    omega
  have c7 := cok'.2.1
  have c8 := cok'.2.2.1
  have stx : StX M' M' 73 342 0 (M' (92 - c) 8) := by
    have z : ∀ k, 0 ≤ k → k < 30 ∨ 35 ≤ k → k < 116 → M' 342 k = 0 := fun k k0 k1 k2 => z342 k k0 k2 (by omega)
    refine ⟨fun i i0 i1 => ?_, fun i i0 i1 => ?_, ?_, ?_, ?_, ?_, ?_⟩
    · rw [show (73 : Int) + 1 = 74 by decide, show (73 : Int) + 2 = 75 by decide, show (73 : Int) + 3 = 76 by decide, show (73 : Int) + 4 = 77 by decide, show (73 : Int) + 5 = 78 by decide, show (73 : Int) + 6 = 79 by decide, a74 i i0 (by omega), a75 i i0 (by omega), a76 i i0 (by omega), a77 i i0 (by omega), a78 i i0 (by omega), a79 i i0 (by omega), show (0 : Int) + i = i by omega, show (0 : Int) + 5 + i = 5 + i by omega, show (0 : Int) + 10 + i = 10 + i by omega, show (0 : Int) + 15 + i = 15 + i by omega, show (0 : Int) + 20 + i = 20 + i by omega, show (0 : Int) + 25 + i = 25 + i by omega, z i i0 (by omega) (by omega), z (5 + i) (by omega) (by omega) (by omega), z (10 + i) (by omega) (by omega) (by omega), z (15 + i) (by omega) (by omega) (by omega), z (20 + i) (by omega) (by omega) (by omega), z (25 + i) (by omega) (by omega) (by omega)]
      exact ⟨rfl, rfl, Or.inl ⟨rfl, rfl⟩, rfl, rfl, rfl⟩
    · rw [show (73 : Int) + 7 = 80 by decide, show (0 : Int) + 30 + i = 30 + i by omega, st80 i i0 i1, z30 i i0 i1]
      exact hC3 i i0 i1
    · rw [show (0 : Int) + 110 = 110 by decide, z 110 (by decide) (by decide) (by decide), st7 7 (by decide) (by decide)]
    · rw [show (0 : Int) + 111 = 111 by decide, z 111 (by decide) (by decide) (by decide), st7 8 (by decide) (by decide)]
    · rw [show (0 : Int) + 112 = 112 by decide, z 112 (by decide) (by decide) (by decide), st7 9 (by decide) (by decide)]
    · rw [show (0 : Int) + 113 = 113 by decide, z 113 (by decide) (by decide) (by decide), st7 10 (by decide) (by decide)]
    · rw [show (0 : Int) + 114 = 114 by decide, z 114 (by decide) (by decide) (by decide), st7 11 (by decide) (by decide)]
  have tlx : TlX M' M' 81 342 0 := fun i i0 i1 => by
    have y1 := tl 1 (by decide) (by decide) i i0 i1
    have y2 := tl 2 (by decide) (by decide) i i0 i1
    have y3 := tl 3 (by decide) (by decide) i i0 i1
    rw [y1, y2, y3, Int.zero_add, Int.zero_add, Int.zero_add, z342 (35 + i) (by omega) (by omega) (by omega), z342 (40 + i) (by omega) (by omega) (by omega), z342 (45 + i) (by omega) (by omega) (by omega)]
    exact ⟨rfl, rfl, rfl, by decide, by decide, fun j j0 j1 => absurd j1 (by omega)⟩
  have hU : ∀ q k : Int, 331 < q → q ≠ 342 → M' q k = G q k := fun q k a e => hi q k (by omega) (mvc_hi a) e (rw0_o (by omega))
  have lyG : ∀ r, 2 ≤ r → RwEq G M' r r ∧ LnEq G M' r r := fun r r0 => row_keep (by omega) (by omega) (fun q k q0 q1 a b => by
    rcases b with b | b
    · omega
    · exact hi q k (by omega) a (by omega) b)
  have mk : MkR M' M' := by
    intro i i0 i4
    obtain ⟨q1, q2, q3⟩ := hMk.at i0 i4
    rw [cU 183 i (by decide) (by decide), hU 362 i (by decide) (by decide)]
    refine ⟨q1, q2, fun z => ?_⟩
    obtain ⟨fi, hfi⟩ := q3 z
    have y := lyG (2 + i) (by omega)
    exact ⟨fi, hfi.same (fun q k a e => cU q k (by omega) (by omega)) (fun q k a e => cU q k (by omega) (by omega)) (fun q k a e => cU q k (by omega) (by omega)) y.1 y.2 (fun k k0 k1 => hU _ _ (by decide) (by decide))⟩
  have h73 : M' 73 7 = 0 := st7 7 (by decide) (by decide)
  have hUn1 := hUn.1
  exact ⟨rfl, 92 - c, fs', ⟨⟨s13, by omega, by omega, by rw [c11]; exact i11⟩, ⟨hbc, cok', stok, by omega, cab', stx⟩, laws', ⟨by omega, by omega, by omega, fun j j0 j1 => absurd j1 (by omega)⟩, tlx, mk, ⟨by omega, by rw [u1, t11], fun k k0 k1 => by omega⟩⟩, Or.inl z10⟩
end CABINS
