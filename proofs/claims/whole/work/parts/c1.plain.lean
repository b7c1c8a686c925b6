section PLAIN
variable {d : Nat} {G G' : Mem} {Q : Int → Mem → Prop} {n : Nat} {Ly : Option Mem} {x0 r a c e f : Int}
def plv (j : Int) : Int := if j = 0 then 2 else if j = 1 then 1 else if j = 2 then 11 else if j < 7 then 1 else if j = 7 then 9 else 0
def PnF (r a c e f : Int) (G G' : Mem) : Prop := (∀ j, 0 ≤ j → j < 12 → G' a (12 * r + j) = plv j) ∧ (∀ j, 0 ≤ j → j < 5 → G' c (5 * r + j) = 0) ∧ (∀ j, 0 ≤ j → j < 3 → G' e (3 * r + j) = 1000 * r ∧ G' f (3 * r + j) = 1000 * r) ∧ ∀ q k : Int, ¬ (q = a ∧ 12 * r ≤ k ∧ k < 12 * r + 12) → ¬ (q = c ∧ 5 * r ≤ k ∧ k < 5 * r + 5) → ¬ ((q = e ∨ q = f) ∧ 3 * r ≤ k ∧ k < 3 * r + 3) → G' q k = G q k
/-- a plain cabin in row r of the model -/
theorem c_plain (bx : Ob n x0 12) (hr : 0 ≤ r ∧ r < 6) (H : ∀ G' : Mem, (∀ k, G' x0 k = G x0 k) → rl Ly G' x0 10 = a ∧ rl Ly G' x0 21 = c ∧ rl Ly G' x0 24 = e ∧ rl Ly G' x0 25 = f) (za : 0 ≤ a ∧ 0 ≤ c ∧ 0 ≤ e ∧ 0 ≤ f) (Aa : Ar n a 0 72) (Ac : Ar n c 0 30) (Ae : Ar n e 0 18) (Af : Ar n f 0 18) (ne : x0 < a ∧ a < c ∧ c < e ∧ e < f) (h : ∀ G', PnF r a c e f G G' → Q 0 G') : Ct d M_X12_plain n 0 0 Ly [(2, x0), (0, r)] G Q := by
  refine Ct.of (by decide +kernel) (Nat.le_of_ble_eq_true rfl) (s_X12_plain_0 bx ?_)
  have X0 : ∀ G1 : Mem, (∀ q k : Int, q < a → G1 q k = G q k) → rl Ly G1 x0 10 = a ∧ rl Ly G1 x0 21 = c ∧ rl Ly G1 x0 24 = e ∧ rl Ly G1 x0 25 = f := fun G1 h1 => H G1 (fun k => h1 x0 k (by omega))
  -- the lines
  have K4 : ∀ (k i : Nat) (G1 : Mem), i + k = 3 → (∀ j, 0 ≤ j → j < 12 → G1 a (12 * r + j) = plv j) → (∀ j, 0 ≤ j → j < 5 → G1 c (5 * r + j) = 0) → (∀ j, 0 ≤ j → j < (i : Int) → G1 e (3 * r + j) = 1000 * r ∧ G1 f (3 * r + j) = 1000 * r) → (∀ q k : Int, ¬ (q = a ∧ 12 * r ≤ k ∧ k < 12 * r + 12) → ¬ (q = c ∧ 5 * r ≤ k ∧ k < 5 * r + 5) → ¬ ((q = e ∨ q = f) ∧ 3 * r ≤ k ∧ k < 3 * r + 3) → G1 q k = G q k) → Rn d M_X12_plain (n, 0, 0, 0, 0, Ly) 130 [(0, (2, x0)), (1, (0, r)), (2, (0, (i : Int)))] [] G1 Q := by
    intro k
    induction k with
    | zero => intro i G1 hi p1 p2 p3 p4; exact s_X12_plain_130 bx ⟨by omega, fun _ => h G1 ⟨p1, p2, fun j j0 j1 => p3 j j0 (by omega), p4⟩, fun z => absurd (by omega) z⟩
    | succ k ih =>
      intro i G1 hi p1 p2 p3 p4
      have x1 := X0 G1 (fun q k hq => p4 q k (by omega) (by omega) (by omega))
      refine s_X12_plain_130 bx ⟨by omega, fun z => absurd z (by omega), fun _ => ?_⟩
      rw [x1.2.2.1]
      refine ⟨za.2.2.1, Ae, by omega, fun G6 e6 => ?_⟩
      have x6 := X0 G6 (fun q k hq => by rw [e6, st_nq _ _ _ _ (by omega)]; exact p4 q k (by omega) (by omega) (by omega))
      rw [x6.2.2.2]
      refine ⟨za.2.2.2, Af, fun G9 e9 => ?_⟩
      have z := ih (i + 1) G9 (by omega) (fun j j0 j1 => by rw [e9, st_nq _ _ _ _ (by omega), e6, st_nq _ _ _ _ (by omega)]; exact p1 j j0 j1) (fun j j0 j1 => by rw [e9, st_nq _ _ _ _ (by omega), e6, st_nq _ _ _ _ (by omega)]; exact p2 j j0 j1) (fun j j0 j1 => by
        by_cases hj : j = (i : Int)
        · rw [hj]
          exact ⟨by rw [e9, st_nq _ _ _ _ (by omega), e6, st_same], by rw [e9, st_same]⟩
        · rw [e9, st_nq _ _ _ _ (by omega), st_nk _ _ _ (by omega), e6, st_nk _ _ _ (by omega), st_nq _ _ _ _ (by omega)]
          exact p3 j j0 (by omega)) (fun q k a1 a2 a3 => by rw [e9, st_ne _ _ (by omega), e6, st_ne _ _ (by omega)]; exact p4 q k a1 a2 a3)
      rwa [show ((i + 1 : Nat) : Int) = (i : Int) + 1 by omega] at z
  -- the cups
  have K3 : ∀ (k i : Nat) (G1 : Mem), i + k = 5 → (∀ j, 0 ≤ j → j < 12 → G1 a (12 * r + j) = plv j) → (∀ j, 0 ≤ j → j < (i : Int) → G1 c (5 * r + j) = 0) → (∀ q k : Int, ¬ (q = a ∧ 12 * r ≤ k ∧ k < 12 * r + 12) → ¬ (q = c ∧ 5 * r ≤ k ∧ k < 5 * r + 5) → G1 q k = G q k) → Rn d M_X12_plain (n, 0, 0, 0, 0, Ly) 106 [(0, (2, x0)), (1, (0, r)), (2, (0, (i : Int)))] [] G1 Q := by
    intro k
    induction k with
    | zero => intro i G1 hi p1 p2 p4; exact s_X12_plain_106 bx ⟨by omega, fun _ => K4 3 0 G1 rfl p1 (fun j j0 j1 => p2 j j0 (by omega)) (fun j j0 j1 => absurd j1 (by omega)) (fun q k a1 a2 _ => p4 q k a1 a2), fun z => absurd (by omega) z⟩
    | succ k ih =>
      intro i G1 hi p1 p2 p4
      have x1 := X0 G1 (fun q k hq => p4 q k (by omega) (by omega))
      refine s_X12_plain_106 bx ⟨by omega, fun z => absurd z (by omega), fun _ => ?_⟩
      rw [x1.2.1]
      refine ⟨za.2.1, Ac, by omega, fun G6 e6 => ?_⟩
      have z := ih (i + 1) G6 (by omega) (fun j j0 j1 => by rw [e6, st_nq _ _ _ _ (by omega)]; exact p1 j j0 j1) (fun j j0 j1 => by
        by_cases hj : j = (i : Int)
        · rw [hj, e6, st_same]
        · rw [e6, st_nk _ _ _ (by omega)]; exact p2 j j0 (by omega)) (fun q k a1 a2 => by rw [e6, st_ne _ _ (by omega)]; exact p4 q k a1 a2)
      rwa [show ((i + 1 : Nat) : Int) = (i : Int) + 1 by omega] at z
  -- the prices
  have K2 : ∀ (k i : Nat) (G1 : Mem), i + k = 4 → (∀ j, 0 ≤ j → j < 12 → G1 a (12 * r + j) = if j = 0 then 2 else if j = 1 then 1 else if j = 2 then 11 else if j < 3 + (i : Int) then 1 else 0) → (∀ q k : Int, ¬ (q = a ∧ 12 * r ≤ k ∧ k < 12 * r + 12) → G1 q k = G q k) → Rn d M_X12_plain (n, 0, 0, 0, 0, Ly) 65 [(0, (2, x0)), (1, (0, r)), (2, (0, (i : Int)))] [] G1 Q := by
    intro k
    induction k with
    | zero =>
      intro i G1 hi p1 p4
      have x1 := X0 G1 (fun q k hq => p4 q k (by omega))
      refine s_X12_plain_65 bx ⟨by omega, fun _ => ?_, fun z => absurd (by omega) z⟩
      rw [x1.1]
      refine ⟨za.1, Aa, by omega, fun G6 e6 => ?_⟩
      refine K3 5 0 G6 rfl (fun j j0 j1 => ?_) (fun j j0 j1 => absurd j1 (by omega)) (fun q k a1 _ => by rw [e6, st_ne _ _ (by omega)]; exact p4 q k a1)
      unfold plv
      by_cases hj : j = 7
      · subst hj; rw [e6, st_same]; decide
      · rw [e6, st_nk _ _ _ (by omega), p1 j j0 j1]
        by_cases h1 : j = 0
        · rw [if_pos h1, if_pos h1]
        rw [if_neg h1, if_neg h1]
        by_cases h2 : j = 1
        · rw [if_pos h2, if_pos h2]
        rw [if_neg h2, if_neg h2]
        by_cases h3 : j = 2
        · rw [if_pos h3, if_pos h3]
        rw [if_neg h3, if_neg h3]
        by_cases h4 : j < 7
        · rw [if_pos h4, if_pos (by omega)]
        · rw [if_neg h4, if_neg (by omega), if_neg hj]
    | succ k ih =>
      intro i G1 hi p1 p4
      have x1 := X0 G1 (fun q k hq => p4 q k (by omega))
      refine s_X12_plain_65 bx ⟨by omega, fun z => absurd z (by omega), fun _ => ?_⟩
      rw [x1.1]
      refine ⟨za.1, Aa, by omega, fun G6 e6 => ?_⟩
      have z := ih (i + 1) G6 (by omega) (fun j j0 j1 => by
        by_cases hj : j = 3 + (i : Int)
        · rw [e6, show 12 * r + j = 12 * r + 3 + (i : Int) by omega, st_same, if_neg (by omega), if_neg (by omega), if_neg (by omega), if_pos (by omega)]
        · rw [e6, st_nk _ _ _ (by omega), p1 j j0 j1]
          by_cases h4 : j < 3 + (i : Int)
          · rw [if_pos h4, if_pos (show j < 3 + ((i + 1 : Nat) : Int) by omega)]
          · rw [if_neg h4, if_neg (show ¬ j < 3 + ((i + 1 : Nat) : Int) by omega)]) (fun q k a1 => by rw [e6, st_ne _ _ (by omega)]; exact p4 q k a1)
      rwa [show ((i + 1 : Nat) : Int) = (i : Int) + 1 by omega] at z
  have K1 : ∀ (k i : Nat) (G1 : Mem), i + k = 12 → (∀ j, 0 ≤ j → j < (i : Int) → G1 a (12 * r + j) = 0) → (∀ q k : Int, ¬ (q = a ∧ 12 * r ≤ k ∧ k < 12 * r + 12) → G1 q k = G q k) → Rn d M_X12_plain (n, 0, 0, 0, 0, Ly) 2 [(0, (2, x0)), (1, (0, r)), (2, (0, (i : Int)))] [] G1 Q := by
    intro k
    induction k with
    | zero =>
      intro i G1 hi p1 p4
      have x1 := X0 G1 (fun q k hq => p4 q k (by omega))
      refine s_X12_plain_2 bx ⟨by omega, fun _ => ?_, fun z => absurd (by omega) z⟩
      rw [x1.1]
      refine ⟨za.1, Aa, by omega, fun G6 e6 => ?_⟩
      have x6 := X0 G6 (fun q k hq => by rw [e6, st_nq _ _ _ _ (by omega)]; exact p4 q k (by omega))
      rw [x6.1]
      refine ⟨za.1, Aa, by omega, fun G10 e10 => ?_⟩
      have x10 := X0 G10 (fun q k hq => by rw [e10, st_nq _ _ _ _ (by omega), e6, st_nq _ _ _ _ (by omega)]; exact p4 q k (by omega))
      rw [x10.1]
      refine ⟨za.1, Aa, by omega, fun G14 e14 => ?_⟩
      refine K2 4 0 G14 rfl (fun j j0 j1 => ?_) (fun q k a1 => by rw [e14, st_ne _ _ (by omega), e10, st_ne _ _ (by omega), e6, st_ne _ _ (by omega)]; exact p4 q k a1)
      by_cases h1 : j = 0
      · rw [h1, if_pos rfl, e14, st_nk _ _ _ (by omega), e10, st_nk _ _ _ (by omega), e6, st_same]
      rw [if_neg h1]
      by_cases h2 : j = 1
      · rw [h2, if_pos rfl, e14, st_nk _ _ _ (by omega), e10, st_same]
      rw [if_neg h2]
      by_cases h3 : j = 2
      · rw [h3, if_pos rfl, e14, st_same]
      rw [if_neg h3, if_neg (by omega), e14, st_nk _ _ _ (by omega), e10, st_nk _ _ _ (by omega), e6, st_nk _ _ _ (by omega)]
      exact p1 j j0 (by omega)
    | succ k ih =>
      intro i G1 hi p1 p4
      have x1 := X0 G1 (fun q k hq => p4 q k (by omega))
      refine s_X12_plain_2 bx ⟨by omega, fun z => absurd z (by omega), fun _ => ?_⟩
      rw [x1.1]
      refine ⟨za.1, Aa, by omega, fun G6 e6 => ?_⟩
      have z := ih (i + 1) G6 (by omega) (fun j j0 j1 => by
        by_cases hj : j = (i : Int)
        · rw [hj, e6, st_same]
        · rw [e6, st_nk _ _ _ (by omega)]; exact p1 j j0 (by omega)) (fun q k a1 => by rw [e6, st_ne _ _ (by omega)]; exact p4 q k a1)
      rwa [show ((i + 1 : Nat) : Int) = (i : Int) + 1 by omega] at z
  exact K1 12 0 G rfl (fun j j0 j1 => absurd j1 (by omega)) (fun _ _ _ => rfl)
end PLAIN
