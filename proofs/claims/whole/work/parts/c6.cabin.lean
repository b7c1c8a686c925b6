section TCABIN
variable {d : Nat} {G : Mem} {c : Int} {fs : Int → Law}
theorem t_cabin (hI : Inv0 G G c fs) (hK : RkC G c fs) : Ct (d + 47) M_X11_cabin NT 0 0 (some lay) [(2, 0)] G (fun v G1 => Ct (d + 7) M_X12_cabin NT 0 0 (some lay) [(2, 311)] G1 (OkX v)) := by
  have b8_73 : Bs 8 73 := by unfold Bs; decide +kernel
  have b9_81 : Bs 9 81 := by unfold Bs; decide +kernel
  obtain ⟨⟨i13, i14, hc, i11⟩, hCu, hLw, hUn, hTl, hMk, hTp⟩ := id hI
  obtain ⟨⟨tp0, tp1⟩, tp2, tp3⟩ := hTp
  obtain ⟨cc, hcc⟩ : ∃ cc, cc = 92 - c := ⟨_, rfl⟩
  have hbc : Bs 1 cc := by rw [hcc]; rcases hc with rfl | rfl <;> (unfold Bs; decide +kernel)
  have hcc1 : 37 ≤ cc ∧ cc ≤ 55 := by omega
  have hO : TpO (fun k => G 2 k) (G 1 1) := ⟨⟨tp0, tp1⟩, fun k k0 k1 => by have z := (tp3 k k0 k1).2; show 10 ≤ G 2 k ∧ G 2 k ≤ 126; omega⟩
  refine ctof (s_X11_cabin_0 (fun b1 eb1 => ?_))
  rw [i14, ← hcc] at eb1
  subst eb1
  clear hc
  refine ⟨hbc, c_readX (d := d) hbc hO (t := fun k => G 2 k) (n := G 1 1) ⟨rfl, fun _ _ _ => rfl⟩ (fun D0 K G4 hD hX G6 e6 => ?_)⟩
  have fr4 := hX.1.2.2.2.2.2.2
  have f6 : ∀ q k : Int, ¬ (q = 1 ∧ 1 ≤ k ∧ k ≤ 6) → ¬ (3 ≤ q ∧ q ≤ 5) → ¬ (b1 ≤ q ∧ q < b1 + 18) → G6 q k = G q k := fun q k a1 a2 a3 => by rw [e6, st_ne _ _ (by omega)]; exact fr4 q k (by omega) a2 a3
  have f6h : ∀ q k : Int, 311 ≤ q → G6 q k = G q k := fun q k a => f6 q k (by omega) (by omega) (by omega)
  have g6 : ∀ q k : Int, q ≠ 1 → G6 q k = G4 q k := fun q k a => by rw [e6, st_nq _ _ _ _ a]
  refine ⟨hX.f34, fun hz => ?_, fun hz => ?_⟩
  · -- it is read
    rcases pr_cases (pRd (fun k => G 2 k) (G 1 1) D0) with ⟨e, he⟩ | ⟨bb, D', he⟩
    · rw [he] at hX
      exact absurd (hX.inl.1.symm.trans hz) hX.inl.2.1
    rw [he] at hX
    obtain ⟨x1, x2, x3, x4, x5⟩ := hX.inr
    intro b9 eb9
    rw [f6 0 14 (by decide) (by decide) (by omega), i14, ← hcc] at eb9
    subst eb9
    refine ⟨hbc, fun b12 eb12 => ?_⟩
    rw [f6 0 13 (by decide) (by decide) (by omega), i13] at eb12
    subst eb12
    refine ⟨hCu.1, fun G15 e15 G16 e16 b17 eb17 => ?_⟩
    have f16 : ∀ q k : Int, ¬ (q = 0 ∧ (k = 13 ∨ k = 14)) → G16 q k = G6 q k := fun q k a => by rw [e16, st_ne _ _ (by omega), e15, st_ne _ _ (by omega)]
    have h13 : G16 0 13 = b9 := by rw [e16, st_same]
    have h14 : G16 0 14 = b12 := by rw [e16, st_nk _ _ _ (by decide), e15, st_same]
    rw [h13] at eb17
    subst eb17
    refine ⟨hbc, c_X8_begin b8_73 hbc (fun G20 s1 s2 s3 s4 => c_X9_clear b9_81 (fun G22 t1 t2 => ctof (s_X2_forget_0 (fun G24 e24 => ctof (s_X11_forgetPast_0 (fun G26 e26 => ?_))))))⟩
    have f26 : ∀ q k : Int, ¬ (q = 0 ∧ k = 16) → ¬ (q = 19 ∧ k = 10) → G26 q k = G22 q k := fun q k a1 a2 => by rw [e26, st_ne _ _ a1, e24, st_ne _ _ a2]
    have z16 : G26 0 16 = 0 := by rw [e26, st_same]
    have z10 : G26 19 10 = 0 := by rw [e26, st_nq _ _ _ _ (by decide), e24, st_same]
    have fs8 : ∀ q k : Int, 1 ≤ q → q ≠ 19 → ¬ (81 ≤ q ∧ q < 85) → G26 q k = G20 q k := fun q k a1 a2 a3 => by rw [f26 _ _ (by omega) (by omega), t2 _ _ a3]
    have fall : ∀ q k : Int, ¬ (q = 0 ∧ (k = 13 ∨ k = 14 ∨ k = 16)) → ¬ (q = 19 ∧ k = 10) → ¬ (73 ≤ q ∧ q < 85) → G26 q k = G6 q k := fun q k a1 a2 a3 => by rw [f26 _ _ (by omega) a2, t2 _ _ (by omega), s4 _ _ (by omega), f16 _ _ (by omega)]
    have fhi : ∀ q k : Int, 311 ≤ q → G26 q k = G q k := fun q k a => by rw [fall q k (by omega) (by omega) (by omega), f6h q k a]
    have gD : ∀ q k : Int, 0 ≤ q → q < 18 → G26 (b17 + q) k = D' q k := fun q k q0 q1 => by rw [fall _ _ (by omega) (by omega) (by omega), g6 _ _ (by omega)]; exact x4.1 q k q0 q1
    have y13 : G26 0 13 = b17 := by rw [f26 _ _ (by decide) (by decide), t2 _ _ (by decide), s4 _ _ (by decide)]; exact h13
    have y14 : G26 0 14 = b12 := by rw [f26 _ _ (by decide) (by decide), t2 _ _ (by decide), s4 _ _ (by decide)]; exact h14
    have y11 : G26 1 1 = 0 := by rw [fall _ _ (by decide) (by decide) (by decide), e6, st_same]
    have y80 : ∀ i, 0 ≤ i → i < 5 → G26 80 i = D' 3 i := fun i i0 i1 => by
      have := s3 i i0 i1
      rw [show (73 : Int) + 7 = 80 by decide] at this
      rw [fs8 80 i (by decide) (by decide) (by decide), this, f16 _ _ (by omega), g6 _ _ (by omega)]
      exact x4.1 3 i (by decide) (by decide)
    have y15 : G26 0 15 = G 0 15 := by rw [fall _ _ (by decide) (by decide) (by decide), f6 _ _ (by decide) (by decide) (by omega)]
    have y19 : G26 19 11 = G 19 11 := by rw [fall _ _ (by decide) (by decide) (by decide), f6 _ _ (by decide) (by decide) (by omega)]
    have y87 : ∀ q k : Int, 87 ≤ q → q < 311 → G26 q k = G q k := fun q k a1 a2 => by rw [fall q k (by omega) (by omega) (by omega), f6 q k (by omega) (by omega) (by omega)]
    refine c_cabinM hO hD (by rw [fhi _ _ (by decide)]; exact tp2) (fun k k0 k1 => by rw [fhi _ _ (by decide)]; exact (tp3 k k0 k1).1) (fun e he2 => by rw [he] at he2; cases he2) (fun b2 D2 M2 M' he2 hM u1 u46 rw6 ln6 z342 z30 mF => ?_)
    rw [he] at he2
    cases he2
    obtain ⟨G0, hM⟩ := hM
    obtain ⟨cab, cok⟩ := hM.2.2.2.2.cab
    obtain ⟨fs', hLs⟩ := hM.laws hO.1.2
    have low : ∀ q k : Int, q < 311 → M' q k = G26 q k := fun q k a => mF q k (mvc_lo a) (by omega) (by omega) (rw0_o (by omega))
    refine inv_read hI cab cok hLs (fun i i0 i1 => (hM.2.2.2.2.2.2.2.1 i i0 i1).1) (fun q k q0 q1 => ?_) rw6 ln6 z342 z30 (fun k k0 k1 => ?_) (fun j j0 j1 i i0 i1 => ?_) (fun i i0 i1 => ?_) (fun j j0 j1 i i0 i1 => ?_) ?_ ?_ (fun q k a1 a2 => ?_) ?_ ?_ ?_ u46 ?_ ?_ u1 (fun q k a1 a2 a3 a4 => ?_)
    · rw [← hcc, low _ _ (by omega)]; exact gD q k q0 q1
    · rw [low _ _ (by decide), fs8 _ _ (by decide) (by decide) (by decide)]; exact s1 k k0 k1
    · rw [low _ _ (by omega), fs8 _ _ (by omega) (by omega) (by omega)]; exact s2 j j0 j1 i i0 i1
    · rw [low _ _ (by decide)]; exact y80 i i0 i1
    · rw [low _ _ (by omega), f26 _ _ (by omega) (by omega)]; exact t1 j j0 j1 i i0 i1
    · rw [low _ _ (by decide)]; exact y15
    · rw [low _ _ (by decide)]; exact y19
    · rw [low q k a2]; exact y87 q k a1 a2
    · rw [low _ _ (by decide), y13]; exact hcc
    · rw [low _ _ (by decide), y14]
    · rw [low _ _ (by decide)]; exact z16
    · rw [low _ _ (by decide)]; exact z10
    · rw [low _ _ (by decide)]; exact y11
    · rw [mF q k a2 (by omega) a3 a4]; exact fhi q k (by omega)
  · -- a fault
    rcases pr_cases (pRd (fun k => G 2 k) (G 1 1) D0) with ⟨e, he⟩ | ⟨bb, D', he⟩
    · rw [he] at hX
      obtain ⟨x1, -, -⟩ := hX.inl
      rw [x1]
      refine c_cabinM hO hD (by rw [f6h _ _ (by decide)]; exact tp2) (fun k k0 k1 => by rw [f6h _ _ (by decide)]; exact (tp3 k k0 k1).1) (fun e2 he2 M' u1 mF => ?_) (fun b2 D2 M2 M' he2 => by rw [he] at he2; cases he2)
      rw [he] at he2
      cases he2
      have low : ∀ q k : Int, q < 311 → M' q k = G6 q k := fun q k a => mF q k (mvc_lo a) (by omega)
      refine inv_fault hI hK (fun q k a0 a1 a2 a3 => by rw [low q k a0]; exact f6 q k a1 a2 (by omega)) (fun q k a0 a1 a2 => by rw [mF q k a1 a2]; exact f6h q k a0) ?_ u1
      rw [low _ _ (by decide), e6, st_same]
    · rw [he] at hX
      exact absurd hX.inr.1 hz
end TCABIN
