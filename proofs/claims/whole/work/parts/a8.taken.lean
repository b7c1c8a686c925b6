section TAKEN
variable {d : Nat} {G : Mem} {Q : Int → Mem → Prop} {m x : Int}
/-- a seat that one of those read so far has -/
theorem c_isTaken (hm : G 313 20 = m) (m5 : 0 ≤ m ∧ m ≤ 5) (ix : InR x) (ih : ∀ i, 0 ≤ i → i < m → InR (G 316 (5 + i))) (h1 : (∃ i, 0 ≤ i ∧ i < m ∧ G 316 (5 + i) = x) → Q 1 G) (h0 : ¬ (∃ i, 0 ≤ i ∧ i < m ∧ G 316 (5 + i) = x) → Q 0 G) : Ct d M_X12_isTaken NT 0 0 (some lay) [(2, 311), (0, x)] G Q := by
  have key : ∀ (k : Nat) (i : Int), 0 ≤ i → i + k = m → (∀ j, 0 ≤ j → j < i → G 316 (5 + j) ≠ x) → Rn d M_X12_isTaken zN 2 [(0, (2, 311)), (1, (0, x)), (2, (0, 5 + i))] [] G Q := by
    intro k
    induction k with
    | zero =>
      intro i i0 hi hn
      refine s_X12_isTaken_2 ⟨by omega, by rw [hm]; omega, fun _ => h0 (fun z => ?_), fun y => absurd (by rw [hm]; omega) y⟩
      obtain ⟨j, j0, j1, j2⟩ := z
      exact hn j j0 (by omega) j2
    | succ k kih =>
      intro i i0 hi hn
      refine s_X12_isTaken_2 ⟨by omega, by rw [hm]; omega, fun y => absurd y (by rw [hm]; omega), fun _ => ⟨by omega, ih i i0 (by omega), ix, fun y => ?_, fun y => h1 ⟨i, i0, by omega, Decidable.not_not.mp y⟩⟩⟩
      rw [show 5 + i + 1 = 5 + (i + 1) by omega]
      refine kih (i + 1) (by omega) (by omega) (fun j j0 j1 => ?_)
      by_cases hj : j = i
      · rw [hj]; exact y
      · exact hn j j0 (by omega)
  have z := key m.toNat 0 (by omega) (by omega) (fun j a b => absurd b (by omega))
  exact ctof (s_X12_isTaken_0 z)
end TAKEN
