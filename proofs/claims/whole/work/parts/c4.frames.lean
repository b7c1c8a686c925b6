section MVROWS
variable {G G' S S' M' : Mem} {q k r c : Int}
theorem mvc_lo (h : q < 311) : ¬ MvC q k := by unfold MvC; omega
theorem mvc_hi (h : 331 < q) : ¬ MvC q k := by unfold MvC; omega
theorem mvc_11 (h : k < 3 ∨ (9 < k ∧ k < 27) ∨ (29 < k ∧ k ≠ 42)) : ¬ MvC 311 k := by unfold MvC; omega
theorem mvc_313 (h : k < 12 ∨ 24 ≤ k) : ¬ MvC 313 k := by unfold MvC; omega
theorem mvc_5 (q0 : 315 ≤ q) (q1 : q ≤ 324) (h : k < 5 ∨ 10 ≤ k) : ¬ MvC q k := by unfold MvC; omega
theorem mvc_8 (q0 : 325 ≤ q) (q1 : q ≤ 326) (h : k < 8 ∨ 16 ≤ k) : ¬ MvC q k := by unfold MvC; omega
theorem mvc_3 (q0 : 327 ≤ q) (q1 : q ≤ 328) (h : k < 3 ∨ 6 ≤ k) : ¬ MvC q k := by unfold MvC; omega
theorem mvc_29 (h : k < 1000 ∨ 2000 ≤ k) : ¬ MvC 329 k := by unfold MvC; omega
theorem rw0_o (h : q < 313 ∨ 329 < q) : ¬ Rw0 q k := by unfold Rw0; omega
theorem rw0_313 (h : 12 ≤ k) : ¬ Rw0 313 k := by unfold Rw0; omega
theorem rw0_5 (q0 : 315 ≤ q) (q1 : q ≤ 324) (h : 5 ≤ k) : ¬ Rw0 q k := by unfold Rw0; omega
theorem rw0_8 (q0 : 325 ≤ q) (q1 : q ≤ 326) (h : 8 ≤ k) : ¬ Rw0 q k := by unfold Rw0; omega
theorem rw0_3 (q0 : 327 ≤ q) (q1 : q ≤ 328) (h : 3 ≤ k) : ¬ Rw0 q k := by unfold Rw0; omega
theorem rw0_29 (h : 1000 ≤ k) : ¬ Rw0 329 k := by unfold Rw0; omega
/-- the rows of the model that reading leaves -/
theorem row_keep (hr : 0 ≤ r) (hr1 : r ≠ 1) (h : ∀ q k : Int, 313 ≤ q → q ≤ 329 → ¬ MvC q k → (r = 0 ∨ ¬ Rw0 q k) → G' q k = G q k) : RwEq G G' r r ∧ LnEq G G' r r := by
  have a12 : ∀ k, 0 ≤ k → k < 12 → G' 313 (12 * r + k) = G 313 (12 * r + k) := fun k k0 k1 => by
    refine h _ _ (by decide) (by decide) (mvc_313 (by omega)) ?_
    by_cases c : r = 0
    · exact Or.inl c
    · exact Or.inr (rw0_313 (by omega))
  have a5 : ∀ q i, 315 ≤ q → q ≤ 324 → 0 ≤ i → i < 5 → G' q (5 * r + i) = G q (5 * r + i) := fun q i q0 q1 i0 i1 => by
    refine h _ _ (by omega) (by omega) (mvc_5 q0 q1 (by omega)) ?_
    by_cases c : r = 0
    · exact Or.inl c
    · exact Or.inr (rw0_5 q0 q1 (by omega))
  have a8 : ∀ q i, 325 ≤ q → q ≤ 326 → 0 ≤ i → i < 8 → G' q (8 * r + i) = G q (8 * r + i) := fun q i q0 q1 i0 i1 => by
    refine h _ _ (by omega) (by omega) (mvc_8 q0 q1 (by omega)) ?_
    by_cases c : r = 0
    · exact Or.inl c
    · exact Or.inr (rw0_8 q0 q1 (by omega))
  have a3 : ∀ q i, 327 ≤ q → q ≤ 328 → 0 ≤ i → i < 3 → G' q (3 * r + i) = G q (3 * r + i) := fun q i q0 q1 i0 i1 => by
    refine h _ _ (by omega) (by omega) (mvc_3 q0 q1 (by omega)) ?_
    by_cases c : r = 0
    · exact Or.inl c
    · exact Or.inr (rw0_3 q0 q1 (by omega))
  have a29 : ∀ k, 0 ≤ k → k < 1000 → G' 329 (1000 * r + k) = G 329 (1000 * r + k) := fun k k0 k1 => by
    refine h _ _ (by decide) (by decide) (mvc_29 (by omega)) ?_
    by_cases c : r = 0
    · exact Or.inl c
    · exact Or.inr (rw0_29 (by omega))
  exact ⟨⟨a12, a5, a8⟩, ⟨fun l l0 l3 => by rw [a3 327 l (by decide) (by decide) l0 l3, a3 328 l (by decide) (by decide) l0 l3]; omega, a29⟩⟩
end MVROWS
section FAULTY
variable {G M' : Mem} {c : Int} {fs : Int → Law}
theorem inv_fault {e : Int} (hI : Inv0 G G c fs) (hK : RkC G c fs) (cF : ∀ q k : Int, q < 311 → ¬ (q = 1 ∧ 1 ≤ k ∧ k ≤ 6) → ¬ (3 ≤ q ∧ q ≤ 5) → ¬ (92 - c ≤ q ∧ q < 92 - c + 18) → M' q k = G q k) (hi : ∀ q k : Int, 311 ≤ q → ¬ MvC q k → ¬ (q = 311 ∧ (k = 0 ∨ k = 1)) → M' q k = G q k) (t11 : M' 1 1 = 0) (u1 : M' 311 1 = 0) : OkX e e M' := by
  obtain ⟨⟨i13, i14, hc, i11⟩, hCu, hLw, hUn, hTl, hMk, hTp⟩ := id hI
  have cC : ∀ q k : Int, c ≤ q → q < c + 18 → M' q k = G q k := fun q k a0 a1 => cF q k (by omega) (by omega) (by omega) (by omega)
  have cU : ∀ q k : Int, 73 ≤ q → q < 311 → M' q k = G q k := fun q k a0 a1 => cF q k (by omega) (by omega) (by omega) (by omega)
  have cD : ∀ q k : Int, (q = 0 ∨ (6 ≤ q ∧ q < 37)) → M' q k = G q k := fun q k a => cF q k (by omega) (by omega) (by omega) (by omega)
  have hU : ∀ q k : Int, 331 < q → M' q k = G q k := fun q k a => hi q k (by omega) (mvc_hi a) (by omega)
  have lyG : ∀ r, 0 ≤ r → r ≠ 1 → RwEq G M' r r ∧ LnEq G M' r r := fun r r0 r1 => row_keep r0 r1 (fun q k q0 q1 a _ => hi q k (by omega) a (by omega))
  have cur := hI.sl.same (S' := M') (G' := M') (fun q k a e => cC q k a e) (fun q k a e => cU q k a (by omega)) (fun q k a e => cU q k (by omega) (by omega)) (lyG 0 (by decide) (by decide)).1 (lyG 0 (by decide) (by decide)).2 (fun k k0 k1 => hU _ _ (by decide))
  have mk : MkR M' M' := by
    intro i i0 i4
    obtain ⟨q1, q2, q3⟩ := hMk.at i0 i4
    rw [cU 183 i (by decide) (by decide), hU 362 i (by decide)]
    refine ⟨q1, q2, fun z => ?_⟩
    obtain ⟨fi, hfi⟩ := q3 z
    have y := lyG (2 + i) (by omega) (by omega)
    exact ⟨fi, hfi.same (fun q k a e => cU q k (by omega) (by omega)) (fun q k a e => cU q k (by omega) (by omega)) (fun q k a e => cU q k (by omega) (by omega)) y.1 y.2 (fun k k0 k1 => hU _ _ (by decide))⟩
  refine ⟨rfl, c, fs, ⟨⟨by rw [cD 0 13 (by decide)]; exact i13, by rw [cD 0 14 (by decide)]; exact i14, hc, by rw [cD 19 11 (by decide)]; exact i11⟩, ⟨hCu.1, cur.1, cur.2.2.2.1, cur.2.2.2.2.1, cur.2.1, cur.2.2.2.2.2.1⟩, cur.2.2.1, ?_, cur.2.2.2.2.2.2, mk, ⟨by omega, by rw [u1, t11], fun k k0 k1 => by omega⟩⟩, hK.ext hCu.2.1 ⟨fun q k a1 a2 a3 a4 => cC q k a1 a2, cD _ _ (by decide), cD _ _ (by decide), fun k => cD _ _ (by decide)⟩⟩
  refine hUn.ext hCu.2.1.2.2.1.2 (fun q k hq => ?_) (fun q k hq => ?_)
  · rcases hq with ⟨hq, -⟩ | hq | ⟨hq, -⟩
    · exact cD q k (Or.inl hq)
    · exact cU q k (by omega) (by omega)
    · exact cC q k (by omega) (by omega)
  · rcases hq with hq | ⟨hq, hk⟩
    · exact hU q k (by omega)
    · rw [hq, hk]; exact hi _ _ (by decide) (mvc_11 (by decide)) (by decide)
end FAULTY
