section PASSES
variable {d : Nat} {S S' G G' H : Mem} {Q : Int → Mem → Prop} {c : Int} {fs : Int → Law}
/-- the model's row behind the passing of the first i -/
def PasM (S G G1 : Mem) (c : Int) (i : Nat) : Prop := (∀ q k : Int, q ≠ 342 → G1 q k = G q k) ∧ (∀ j, 0 ≤ j → j < (i : Int) → G1 342 j = nneed S 73 c (-1) j ∧ G1 342 (5 + j) = nout S 73 j ∧ G1 342 (25 + j) = S 79 j + nlate S 73 c (-1) j) ∧ G1 342 114 = S 73 11 + lateN S 73 c (-1) i ∧ ∀ k, ¬ (0 ≤ k ∧ k < (i : Int)) → ¬ (5 ≤ k ∧ k < 5 + (i : Int)) → ¬ (25 ≤ k ∧ k < 25 + (i : Int)) → k ≠ 114 → G1 342 k = G 342 k
theorem c_passes {n : Nat} (hR : Cu S G c) (hn : S c 8 = n) (h : ∀ G1, PasM S G G1 c n → Q 0 (st G1 342 110 (G 342 110 + 1))) : Ct (d + 1) M_X12_passes NT 0 0 (some lay) [(2, 311)] G Q := by
  have r := hR.rng
  have se := hR.seats
  refine ctof (s_X12_passes_0 ?_)
  have key : ∀ (k i : Nat) (G1 : Mem), i + k = n → PasM S G G1 c i → Rn (d + 1) M_X12_passes zN 2 [(0, (2, 311)), (1, (0, (i : Int)))] [] G1 Q := by
    intro k
    induction k with
    | zero =>
      intro i G1 hi hp
      obtain rfl : i = n := by omega
      have a : G1 313 8 = i := by rw [hp.1 _ _ (by decide), se.2.2.2.2]; exact hn
      refine s_X12_passes_2 ⟨by omega, by omega, fun _ G4 e4 => ?_, fun x => absurd (by omega) x⟩
      rw [hp.2.2.2 110 (by omega) (by omega) (by omega) (by omega)] at e4
      rw [e4]
      exact h G1 hp
    | succ k ih =>
      intro i G1 hi hp
      obtain ⟨p1, p2, p3, p4⟩ := hp
      have a : G1 313 8 = n := by rw [p1 _ _ (by decide), se.2.2.2.2]; exact hn
      have row := hR.row (i := (i : Int)) (by omega) (by omega)
      have rok := hR.rok (i := (i : Int)) (by omega) (by omega)
      have sok := hR.sok (i := (i : Int)) (by omega) (by omega)
      have sit := (hR.sit (i := (i : Int)) (by omega) (by omega)).2.2.2.1
      have k3 := sok.2.2.2.1
      have gb := grow_bd sok (m := 0) (by omega)
      have gk : grow S (c + 13 + (i : Int)) (if (i : Int) = -1 then 1 else 0) = grow S (c + 13 + (i : Int)) 0 := by rw [if_neg (by omega)]
      have x5 : G1 342 (5 + (i : Int)) = S 75 i := by rw [p4 _ (by omega) (by omega) (by omega) (by omega)]; exact row.2.1
      have x0 : G1 342 (i : Int) = S 74 i := by rw [p4 _ (by omega) (by omega) (by omega) (by omega)]; exact row.1
      have x25 : G1 342 (25 + (i : Int)) = S 79 i := by rw [p4 _ (by omega) (by omega) (by omega) (by omega)]; exact row.2.2.2.2.2
      have nn : nneed S 73 c (-1) i = if S 75 i ≤ 0 then min 199 (S 74 i + grow S (c + 13 + (i : Int)) 0) else S 74 i := by unfold nneed; rw [gk]; rfl
      have no : nout S 73 i = if S 75 i ≤ 0 then S 75 i else if S 75 i = 1 then -1 else S 75 i - 1 := rfl
      have nl : nlate S 73 c (-1) i = if S (c + 13 + (i : Int)) 3 < nneed S 73 c (-1) i then 1 else 0 := rfl
      have ln : lateN S 73 c (-1) (i + 1) = lateN S 73 c (-1) i + nlate S 73 c (-1) i := rfl
      -- whatever is written at i, the rest stands
      have nxt : ∀ G2 : Mem, (∀ q k : Int, q ≠ 342 → G2 q k = G1 q k) → G2 342 (i : Int) = nneed S 73 c (-1) i → G2 342 (5 + (i : Int)) = nout S 73 i → G2 342 (25 + (i : Int)) = S 79 i + nlate S 73 c (-1) i → G2 342 114 = S 73 11 + lateN S 73 c (-1) (i + 1) → (∀ k, k ≠ (i : Int) → k ≠ 5 + (i : Int) → k ≠ 25 + (i : Int) → k ≠ 114 → G2 342 k = G1 342 k) → Rn (d + 1) M_X12_passes zN 2 [(0, (2, 311)), (1, (0, (i : Int) + 1))] [] G2 Q := by
        intro G2 z1 z2 z3 z4 z5 z6
        refine ih (i + 1) G2 (by omega) ⟨fun q k hq => (z1 q k hq).trans (p1 q k hq), fun j j0 j1 => ?_, z5, fun k a b e f => ?_⟩
        · by_cases hj : j = (i : Int)
          · subst hj; exact ⟨z2, z3, z4⟩
          · have y := p2 j j0 (by omega)
            rw [z6 j (by omega) (by omega) (by omega) (by omega), z6 (5 + j) (by omega) (by omega) (by omega) (by omega), z6 (25 + j) (by omega) (by omega) (by omega) (by omega)]
            exact y
        · rw [z6 k (by omega) (by omega) (by omega) f]
          exact p4 k (by omega) (by omega) (by omega) f
      have hR1 : ∀ (K : Int → Mem → Prop), K (grow S (c + 13 + (i : Int)) 0) G1 → Ct d M_X12_growth NT 0 0 (some lay) [(2, 311), (0, (i : Int))] G1 K := by
        intro K hK
        have e := (hR.sit (i := (i : Int)) (by omega) (by omega))
        have k0 := sok.1
        unfold grow at hK
        refine ctof (s_X12_growth_0 ⟨by omega, by rw [p1 _ _ (by decide)]; omega, fun c1 => ?_, fun c1 => ?_⟩)
        · rw [p1 _ _ (by decide)] at c1
          rw [if_neg (by omega)] at hK
          rw [p1 _ _ (by decide), e.2.2.1, show S (c + 13 + (i : Int)) 2 = (S (c + 13 + (i : Int)) 2 + 0) * 1 from by omega]
          exact hK
        · rw [p1 _ _ (by decide)] at c1
          rw [if_pos (by omega)] at hK
          rw [p1 _ _ (by decide), e.2.2.1, show 2 * S (c + 13 + (i : Int)) 2 = (S (c + 13 + (i : Int)) 2 + 0) * 2 from by omega]
          exact hK
      refine s_X12_passes_2 ⟨by omega, by omega, fun x => by omega, fun _ => ⟨by omega, by omega, fun o => ⟨by omega, hR1 _ ⟨by omega, fun G12 e12 => ⟨by omega, ?_⟩⟩⟩, fun o => ⟨fun o1 G21 e21 => ?_, fun o1 G22 e22 => ?_⟩⟩⟩
      · rw [x5] at o
        rw [if_pos o] at nn
        rw [if_pos o] at no
        rw [x0, ← nn] at e12
        have b0 : G12 342 (i : Int) = nneed S 73 c (-1) i := by rw [e12, st_same]
        have bl : G12 318 (i : Int) = S (c + 13 + (i : Int)) 3 := by rw [e12, st_nq _ _ _ _ (by decide), p1 _ _ (by decide)]; exact sit
        have bo : ∀ k, k ≠ (i : Int) → G12 342 k = G1 342 k := fun k hk => by rw [e12, st_nk _ _ _ hk]
        have bq : ∀ q k : Int, q ≠ 342 → G12 q k = G1 q k := fun q k hq => by rw [e12, st_nq _ _ _ _ hq]
        rw [b0, bl]
        refine ⟨by omega, by omega, fun l => ⟨by omega, fun G18 e18 G19 e19 => ?_⟩, fun l => ?_⟩
        · rw [if_pos l] at nl
          have e114 : G18 342 114 = S 73 11 + lateN S 73 c (-1) i := by rw [e18, st_nk _ _ _ (by omega), bo _ (by omega)]; exact p3
          rw [e114] at e19
          rw [bo _ (by omega), x25] at e18
          refine nxt G19 (fun q k hq => ?_) ?_ ?_ ?_ ?_ (fun k k1 k2 k3 k4 => ?_)
          · rw [e19, st_nq _ _ _ _ hq, e18, st_nq _ _ _ _ hq]; exact bq q k hq
          · rw [e19, st_nk _ _ _ (by omega), e18, st_nk _ _ _ (by omega)]; exact b0
          · rw [e19, st_nk _ _ _ (by omega), e18, st_nk _ _ _ (by omega), bo _ (by omega), x5, no]
          · rw [e19, st_nk _ _ _ (by omega), e18, st_same, nl]
          · rw [e19, st_same, ln, nl]; omega
          · rw [e19, st_nk _ _ _ (by omega), e18, st_nk _ _ _ (by omega)]; exact bo k k1
        · rw [if_neg l] at nl
          refine nxt G12 bq b0 (by rw [bo _ (by omega), x5, no]) (by rw [bo _ (by omega), x25, nl]; omega) (by rw [bo _ (by omega), p3, ln, nl]; omega) (fun k k1 _ _ _ => bo k k1)
      · rw [x5] at o o1 e21
        rw [if_neg o] at nn
        rw [if_neg o, if_neg o1] at no
        have nl0 : nlate S 73 c (-1) i = 0 := by rw [nl, nn, if_neg (by omega)]
        refine nxt G21 (fun q k hq => by rw [e21, st_nq _ _ _ _ hq]) (by rw [e21, st_nk _ _ _ (by omega), x0, nn]) (by rw [e21, st_same, no]) (by rw [e21, st_nk _ _ _ (by omega), x25, nl0]; omega) (by rw [e21, st_nk _ _ _ (by omega), p3, ln, nl0]; omega) (fun k _ k2 _ _ => by rw [e21, st_nk _ _ _ k2])
      · rw [x5] at o o1
        have o1 := Decidable.not_not.mp o1
        rw [if_neg o] at nn
        rw [if_neg o, if_pos o1] at no
        have nl0 : nlate S 73 c (-1) i = 0 := by rw [nl, nn, if_neg (by omega)]
        refine nxt G22 (fun q k hq => by rw [e22, st_nq _ _ _ _ hq]) (by rw [e22, st_nk _ _ _ (by omega), x0, nn]) (by rw [e22, st_same, no]) (by rw [e22, st_nk _ _ _ (by omega), x25, nl0]; omega) (by rw [e22, st_nk _ _ _ (by omega), p3, ln, nl0]; omega) (fun k _ k2 _ _ => by rw [e22, st_nk _ _ _ k2])
  exact key n 0 G (by omega) ⟨fun _ _ _ => rfl, fun j j0 j1 => by omega, by rw [hR.nums.2.2.2.2]; simp [lateN], fun _ _ _ _ _ => rfl⟩
end PASSES
