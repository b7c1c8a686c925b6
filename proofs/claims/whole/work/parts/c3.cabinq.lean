section CABINQ
variable {d : Nat} {D D0 D' M M' G G0 : Mem} {Q : Int → Mem → Prop} {t : Int → Int} {n b b' c : Int} {fs : Int → Law}
def Rw0 (q k : Int) : Prop := (q = 313 ∧ 0 ≤ k ∧ k < 12) ∨ (315 ≤ q ∧ q ≤ 324 ∧ 0 ≤ k ∧ k < 5) ∨ (325 ≤ q ∧ q ≤ 326 ∧ 0 ≤ k ∧ k < 8) ∨ (327 ≤ q ∧ q ≤ 328 ∧ 0 ≤ k ∧ k < 3) ∨ (q = 329 ∧ 0 ≤ k ∧ k < 1000)
theorem c_cabinM (hO : TpO t n) (hD : ClrD D0) (hn : G 311 1 = n) (ht : ∀ k, 0 ≤ k → k < n → G 312 k = t k)
    (h0 : ∀ e, pRd t n D0 = .inl e → ∀ M', M' 311 1 = 0 → (∀ q k : Int, ¬ MvC q k → ¬ (q = 311 ∧ (k = 0 ∨ k = 1)) → M' q k = G q k) → Q e M')
    (h1 : ∀ b' D' M2 M', pRd t n D0 = .inr (b', D') → (∃ G0, RM G0 t n b' D' M2) → M' 311 1 = 0 → M' 311 46 = 0 → RwEq M2 M' 1 0 → LnEq M2 M' 1 0 → (∀ k, 0 ≤ k → k < 116 → ¬ (30 ≤ k ∧ k < 35) → M' 342 k = 0) → (∀ k, 0 ≤ k → k < 5 → M' 342 (30 + k) = M2 324 (5 + k)) → (∀ q k : Int, ¬ MvC q k → ¬ (q = 311 ∧ (k = 0 ∨ k = 1 ∨ k = 46)) → q ≠ 342 → ¬ Rw0 q k → M' q k = G q k) → Q 0 M') : Ct (d + 7) M_X12_cabin NT 0 0 (some lay) [(2, 311)] G Q := by
  refine ctof (s_X12_cabin_0 (fun G1 e1 => ?_))
  have f1 : ∀ q k : Int, ¬ (q = 311 ∧ k = 0) → G1 q k = G q k := fun q k a => by rw [e1, st_ne _ _ a]
  refine c_readsAll (M := G1) hO hD (by rw [f1 _ _ (by omega)]; exact hn) (fun k k0 k1 => by rw [f1 _ _ (by omega)]; exact ht k k0 k1) (fun e he M' m1 mF m9 => ⟨by decide, fun z => absurd rfl z, fun _ => ?_⟩) (fun b' D' M2 he m1 mF hM => ⟨by decide, fun _ => ?_, fun z => absurd (by decide) z⟩)
  · rw [m9]
    exact h0 e he M' m1 (fun q k a b => by rw [mF q k a (by omega), f1 _ _ (by omega)])
  refine c_lays (by omega) (by omega) (by omega) (fun G6 rw6 ln6 ly6 G8 e8 => ?_)
  have f8 : ∀ q k : Int, ¬ (q = 311 ∧ k = 46) → G8 q k = G6 q k := fun q k a => by rw [e8, st_ne _ _ a]
  have o6 : ∀ q k : Int, ¬ Rw0 q k → G6 q k = M2 q k := fun q k a => ly6 q k (fun z => a (by unfold Rw0; omega)) (fun z => a (by unfold Rw0; omega)) (fun z => a (by unfold Rw0; omega)) (fun z => a (by unfold Rw0; omega)) (fun z => a (by unfold Rw0; omega))
  have K2 : ∀ (k i : Nat) (G1 : Mem), i + k = 5 → (∀ j, 0 ≤ j → j < 116 → ¬ (30 ≤ j ∧ j < 35) → G1 342 j = 0) → (∀ j, 0 ≤ j → j < (i : Int) → G1 342 (30 + j) = G8 324 j) → (∀ q k : Int, q ≠ 342 → G1 q k = G8 q k) → Rn (d + 7) M_X12_cabin zN 51 [(0, (2, 311)), (1, (0, (i : Int)))] [] G1 Q := by
    intro k
    induction k with
    | zero =>
      intro i M5 hi p1 p2 p3
      refine s_X12_cabin_51 ⟨by omega, fun _ => h1 b' D' M2 M5 he hM ?_ ?_ ?_ ?_ p1 (fun k k0 k1 => ?_) (fun q k a1 a2 a3 a4 => ?_), fun z => absurd (by omega) z⟩
      · rw [p3 _ _ (by decide), f8 _ _ (by decide), o6 _ _ (by unfold Rw0; omega)]; exact m1
      · rw [p3 _ _ (by decide), e8, st_same]
      · exact ⟨fun k k0 k1 => by rw [p3 _ _ (by decide), f8 _ _ (by omega)]; exact rw6.1 k k0 k1, fun q i q0 q1 i0 i1 => by rw [p3 _ _ (by omega), f8 _ _ (by omega)]; exact rw6.2.1 q i q0 q1 i0 i1, fun q i q0 q1 i0 i1 => by rw [p3 _ _ (by omega), f8 _ _ (by omega)]; exact rw6.2.2 q i q0 q1 i0 i1⟩
      · exact ⟨fun l l0 l3 => by rw [p3 _ _ (by decide), p3 _ _ (by decide), f8 _ _ (by omega), f8 _ _ (by omega)]; exact ln6.1 l l0 l3, fun k k0 k1 => by rw [p3 _ _ (by decide), f8 _ _ (by omega)]; exact ln6.2 k k0 k1⟩
      · rw [p2 k k0 (by omega), f8 _ _ (by omega)]
        have := rw6.2.1 324 k (by decide) (by decide) k0 k1
        rwa [show (5 : Int) * 0 + k = k by omega, show (5 : Int) * 1 + k = 5 + k by omega] at this
      · rw [p3 _ _ a3, f8 _ _ (by omega), o6 _ _ a4, mF q k a1 (by omega), f1 _ _ (by omega)]
    | succ k ih =>
      intro i M5 hi p1 p2 p3
      refine s_X12_cabin_51 ⟨by omega, fun z => absurd z (by omega), fun _ => ⟨by omega, by omega, fun G5 e5 => ?_⟩⟩
      have z := ih (i + 1) G5 (by omega) (fun j j0 j1 j2 => by rw [e5, st_nk _ _ _ (by omega)]; exact p1 j j0 j1 j2) (fun j j0 j1 => by
        by_cases hj : j = (i : Int)
        · rw [hj, e5, st_same, p3 _ _ (by decide)]
        · rw [e5, st_nk _ _ _ (by omega)]; exact p2 j j0 (by omega)) (fun q k a => by rw [e5, st_nq _ _ _ _ a]; exact p3 q k a)
      rwa [show ((i + 1 : Nat) : Int) = (i : Int) + 1 by omega] at z
  have K1 : ∀ (k i : Nat) (G1 : Mem), i + k = 116 → (∀ j, 0 ≤ j → j < (i : Int) → G1 342 j = 0) → (∀ q k : Int, q ≠ 342 → G1 q k = G8 q k) → Rn (d + 7) M_X12_cabin zN 30 [(0, (2, 311)), (1, (0, (i : Int)))] [] G1 Q := by
    intro k
    induction k with
    | zero =>
      intro i M5 hi p1 p3
      exact s_X12_cabin_30 ⟨by omega, fun _ => K2 5 0 M5 rfl (fun j j0 j1 _ => p1 j j0 (by omega)) (fun j j0 j1 => absurd j1 (by omega)) p3, fun z => absurd (by omega) z⟩
    | succ k ih =>
      intro i M5 hi p1 p3
      refine s_X12_cabin_30 ⟨by omega, fun z => absurd z (by omega), fun _ => ⟨by omega, fun G4 e4 => ?_⟩⟩
      have z := ih (i + 1) G4 (by omega) (fun j j0 j1 => by
        by_cases hj : j = (i : Int)
        · rw [hj, e4, st_same]
        · rw [e4, st_nk _ _ _ (by omega)]; exact p1 j j0 (by omega)) (fun q k a => by rw [e4, st_nq _ _ _ _ a]; exact p3 q k a)
      rwa [show ((i + 1 : Nat) : Int) = (i : Int) + 1 by omega] at z
  exact K1 116 0 G8 rfl (fun j j0 j1 => absurd j1 (by omega)) (fun _ _ _ => rfl)
end CABINQ
