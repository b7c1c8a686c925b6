section ORDERS
variable {d : Nat} {S S' T T' G G' H : Mem} {Q : Int → Mem → Prop} {c : Int} {fs : Int → Law} {th : Int}
/-! orders of sitters, in the dictionary's order -/
def lsi (L : List Int) (i : Int) : Int := L.getD i.toNat 0
def lvJ (f : Nat → List (List Int)) (n u : Nat) : Nat → List (List Int)
  | 0 => []
  | j + 1 => (if u / 2 ^ (n - (j + 1)) % 2 = 1 then [] else f (n - (j + 1))) ++ lvJ f n u j
def lvs (n : Nat) : Nat → Nat → List Int → List (List Int)
  | 0, _, cur => [cur]
  | m + 1, u, cur => lvJ (fun p => lvs n m (u ||| 2 ^ p) (cur ++ [(p : Int)])) n u n
def atF (t : Int → Int) : Nat → Int
  | 0 => -1
  | k + 1 => if t k ≤ t (k + 1) then k else atF t k
def wiF (t : Int → Int) (a : Int) : Nat → Int
  | 0 => a
  | j + 1 => if t a ≤ t (a + (j + 1)) then a + (j + 1) else wiF t a j
def swF (t : Int → Int) (a b : Int) : Int → Int := fun i => if i = b then t a else if i = a then t b else t i
def rvF : Nat → (Int → Int) → Int → Int → Int → Int
  | 0, t, _, _ => t
  | k + 1, t, a, b => if b ≤ a then t else rvF k (swF t a b) (a + 1) (b - 1)
def ntF (t : Int → Int) (n : Nat) : Int → Int := rvF 5 (swF t (atF t (n - 1)) (wiF t (atF t (n - 1)) ((n : Int) - 1 - atF t (n - 1)).toNat)) (atF t (n - 1) + 1) ((n : Int) - 1)
def chkP (n : Nat) : List (List Int) → Bool
  | [] => true
  | [L] => decide (atF (lsi L) (n - 1) < 0)
  | L :: L' :: r => (decide (0 ≤ atF (lsi L) (n - 1)) && (List.range n).all (fun i => decide (ntF (lsi L) n i = lsi L' i))) && chkP n (L' :: r)
def okP (n : Nat) (Ls : List (List Int)) : Bool := (Ls.all fun L => decide (L.length = n) && L.all fun x => decide (0 ≤ x) && decide (x < n)) && (decide (Ls.length ≤ 120) && decide (Ls.head? = some ((List.range n).map Int.ofNat)))
theorem prm1 : chkP 1 (lvs 1 1 0 []) = true ∧ okP 1 (lvs 1 1 0 []) = true := by decide +kernel
theorem prm2 : chkP 2 (lvs 2 2 0 []) = true ∧ okP 2 (lvs 2 2 0 []) = true := by decide +kernel
theorem prm3 : chkP 3 (lvs 3 3 0 []) = true ∧ okP 3 (lvs 3 3 0 []) = true := by decide +kernel
theorem prm4 : chkP 4 (lvs 4 4 0 []) = true ∧ okP 4 (lvs 4 4 0 []) = true := by decide +kernel
theorem prm5 : chkP 5 (lvs 5 5 0 []) = true ∧ okP 5 (lvs 5 5 0 []) = true := by decide +kernel
theorem prm {n : Nat} (h : 1 ≤ n ∧ n ≤ 5) : chkP n (lvs n n 0 []) = true ∧ okP n (lvs n n 0 []) = true := by
  match n, h with
  | 1, _ => exact prm1
  | 2, _ => exact prm2
  | 3, _ => exact prm3
  | 4, _ => exact prm4
  | 5, _ => exact prm5
theorem atF_in (t : Int → Int) : ∀ k : Nat, -1 ≤ atF t k ∧ atF t k < k := by
  intro k
  induction k with
  | zero => unfold atF; omega
  | succ k ih => unfold atF; split <;> omega
theorem wiF_in (t : Int → Int) (a : Int) : ∀ j : Nat, a ≤ wiF t a j ∧ wiF t a j ≤ a + j := by
  intro j
  induction j with
  | zero => unfold wiF; omega
  | succ j ih => unfold wiF; split <;> omega
/-- row 32 alone has changed -/
def TrF (G G' : Mem) : Prop := ∀ q k : Int, q ≠ 32 → G' q k = G q k
theorem c_swap {a b : Int} (ha : 0 ≤ a ∧ a < 5) (hb : 0 ≤ b ∧ b < 5) (h : Q 0 (st (st G 32 a (G 32 b)) 32 b (G 32 a))) : Ct d M_X2_swapTrials NT 0 0 (some lay) [(2, 19), (0, a), (0, b)] G Q :=
  ctof (s_X2_swapTrials_0 ⟨ha, hb, fun G3 e3 G4 e4 => by rw [e4, e3]; exact h⟩)
theorem sw_at {t : Int → Int} {n a b : Int} (ht : ∀ i, 0 ≤ i → i < n → G 32 i = t i) (ha : 0 ≤ a ∧ a < n) (hb : 0 ≤ b ∧ b < n) : ∀ i, 0 ≤ i → i < n → st (st G 32 a (G 32 b)) 32 b (G 32 a) 32 i = swF t a b i := by
  intro i i0 i1
  unfold swF
  by_cases h1 : i = b
  · rw [if_pos h1, h1, st_same]; exact ht a ha.1 ha.2
  · rw [if_neg h1, st_nk _ _ _ h1]
    by_cases h2 : i = a
    · rw [if_pos h2, h2, st_same]; exact ht b hb.1 hb.2
    · rw [if_neg h2, st_nk _ _ _ h2]; exact ht i i0 i1
theorem c_next {n : Nat} {t : Int → Int} (hn : 1 ≤ n ∧ n ≤ 5) (ht : ∀ i, 0 ≤ i → i < (n : Int) → G 32 i = t i ∧ 0 ≤ t i ∧ t i < 5) (h0 : atF t (n - 1) < 0 → Q 0 G) (h1 : 0 ≤ atF t (n - 1) → ∀ G', TrF G G' → (∀ i, 0 ≤ i → i < (n : Int) → G' 32 i = ntF t n i) → Q 1 G') : Ct (d + 1) M_X2_nextTrial NT 0 0 (some lay) [(2, 19), (0, (n : Int))] G Q := by
  -- the rest turned round
  have L83 : ∀ (k : Nat) (t1 : Int → Int) (a b : Int) (G1 : Mem), 0 ≤ a → b < n → b - a < 2 * (k : Int) → TrF G G1 → (∀ i, 0 ≤ i → i < (n : Int) → G1 32 i = t1 i) → (∀ G', TrF G G' → (∀ i, 0 ≤ i → i < (n : Int) → G' 32 i = rvF k t1 a b i) → Q 1 G') → InR a → InR b → Rn (d + 1) M_X2_nextTrial zN 83 [(0, (2, 19)), (4, (0, a)), (5, (0, b))] [] G1 Q := by
    intro k
    induction k with
    | zero =>
      intro t1 a b G1 ha hb hk f1 e1 hq ia ib
      exact s_X2_nextTrial_83 ⟨ia, ib, fun _ => hq G1 f1 e1, fun x => absurd (by omega) x⟩
    | succ k ih =>
      intro t1 a b G1 ha hb hk f1 e1 hq ia ib
      unfold rvF at hq
      refine s_X2_nextTrial_83 ⟨ia, ib, fun x => hq G1 f1 (fun i i0 i1 => by rw [if_pos x]; exact e1 i i0 i1), fun x => c_swap (by omega) (by omega) ?_⟩
      refine ih (swF t1 a b) (a + 1) (b + (-1)) _ (by omega) (by omega) (by omega) (fun q k hq => by rw [st_nq _ _ _ _ hq, st_nq _ _ _ _ hq]; exact f1 q k hq) (sw_at e1 (by omega) (by omega)) (fun G' f' e' => hq G' f' (fun i i0 i1 => by rw [if_neg x]; exact e' i i0 i1)) (by omega) (by omega)
  have ai := atF_in t (n - 1)
  have L31 : ∀ a, a = atF t (n - 1) → Rn (d + 1) M_X2_nextTrial zN 31 [(0, (2, 19)), (1, (0, (n : Int))), (2, (0, a))] [] G Q := by
    intro a ea
    refine s_X2_nextTrial_31 ⟨by omega, fun x => ?_, fun x => h0 (by omega)⟩
    have h1 := h1 (by omega)
    unfold ntF at h1
    rw [← ea] at h1
    have wi := wiF_in t a ((n : Int) - 1 - a).toNat
    have L67 : ∀ w, w = wiF t a ((n : Int) - 1 - a).toNat → Rn (d + 1) M_X2_nextTrial zN 67 [(0, (2, 19)), (1, (0, (n : Int))), (2, (0, a)), (3, (0, w))] [] G Q := by
      intro w ew
      refine s_X2_nextTrial_67 (c_swap (by omega) (by omega) ?_)
      rw [← ew] at h1
      exact L83 5 (swF t a w) (a + 1) ((n : Int) - 1) _ (by omega) (by omega) (by omega) (fun q k hq => by rw [st_nq _ _ _ _ hq, st_nq _ _ _ _ hq]) (sw_at (fun i i0 i1 => (ht i i0 i1).1) (by omega) (by omega)) h1 (by omega) (by omega)
    have key : ∀ j : Nat, a + j ≤ (n : Int) - 1 → wiF t a ((n : Int) - 1 - a).toNat = wiF t a j → Rn (d + 1) M_X2_nextTrial zN 41 [(0, (2, 19)), (1, (0, (n : Int))), (2, (0, a)), (3, (0, a + (j : Int)))] [] G Q := by
      intro j
      induction j with
      | zero =>
        intro hj e
        have e : wiF t a ((n : Int) - 1 - a).toNat = a := e
        refine s_X2_nextTrial_41 ⟨by omega, by omega, fun _ => L67 _ (by rw [e]; omega), fun x => absurd (by omega) x⟩
      | succ j ih =>
        intro hj e
        have e : wiF t a ((n : Int) - 1 - a).toNat = if t a ≤ t (a + ((j : Int) + 1)) then a + ((j : Int) + 1) else wiF t a j := e
        have ta := ht a (by omega) (by omega)
        have tj := ht (a + ((j : Int) + 1)) (by omega) (by omega)
        rw [show ((j + 1 : Nat) : Int) = (j : Int) + 1 by omega]
        refine s_X2_nextTrial_41 ⟨by omega, by omega, fun x => absurd x (by omega), fun _ => ⟨by omega, by omega, ?_⟩⟩
        rw [ta.1, tj.1]
        refine ⟨by omega, by omega, fun x => L67 _ ?_, fun x => ?_⟩
        · rw [e, if_pos x]
        · rw [if_neg x] at e
          have y := ih (by omega) e
          rw [show a + ((j : Int) + 1) + (-1) = a + (j : Int) by omega]
          exact y
    have y := key ((n : Int) - 1 - a).toNat (by omega) rfl
    rw [show a + (((n : Int) - 1 - a).toNat : Int) = (n : Int) - 1 by omega] at y
    exact y
  have L4 : ∀ k : Nat, k ≤ n - 1 → atF t (n - 1) = atF t k → Rn (d + 1) M_X2_nextTrial zN 4 [(0, (2, 19)), (1, (0, (n : Int))), (2, (0, (k : Int) - 1))] [] G Q := by
    intro k
    induction k with
    | zero =>
      intro hk e
      have e : atF t (n - 1) = -1 := e
      exact s_X2_nextTrial_4 ⟨by omega, fun _ => L31 _ (by omega), fun x => absurd (by omega) x⟩
    | succ k ih =>
      intro hk e
      have e : atF t (n - 1) = if t (k : Int) ≤ t ((k : Int) + 1) then (k : Int) else atF t k := e
      have t0 := ht (k : Int) (by omega) (by omega)
      have t1 := ht ((k : Int) + 1) (by omega) (by omega)
      rw [show ((k + 1 : Nat) : Int) - 1 = (k : Int) by omega]
      refine s_X2_nextTrial_4 ⟨by omega, fun x => absurd x (by omega), fun _ => ⟨by omega, by omega, ?_⟩⟩
      rw [t0.1, t1.1]
      refine ⟨by omega, by omega, fun x => L31 _ (by rw [e, if_pos x]), fun x => ?_⟩
      rw [if_neg x] at e
      have y := ih (by omega) e
      rw [show (k : Int) + (-1) = (k : Int) - 1 by omega]
      exact y
  refine ctof (s_X2_nextTrial_0 ?_)
  have y := L4 (n - 1) (by omega) rfl
  rw [show (((n - 1 : Nat) : Int)) - 1 = (n : Int) - 2 by omega] at y
  exact y
/-! the seats that are taken, from the window -/
def idxF (S : Mem) (c : Int) : Nat → Int
  | 0 => 0
  | k + 1 => idxF S c k + (if S (c + 2) k = -1 then 0 else 1)
def seatT (S : Mem) (c : Int) (L : List Int) : Mem := fun q k => if q = 31 then (if S (c + 2) k = -1 then -1 else lsi L (idxF S c k.toNat)) else 0
theorem idx_mono (S : Mem) (c : Int) : ∀ (k j : Nat), idxF S c k ≤ idxF S c (k + j) ∧ 0 ≤ idxF S c k := by
  have nn : ∀ k, 0 ≤ idxF S c k := by
    intro k
    induction k with
    | zero => exact Int.le_refl _
    | succ k ih => unfold idxF; split <;> omega
  intro k j
  refine ⟨?_, nn k⟩
  induction j with
  | zero => exact Int.le_refl _
  | succ j ih =>
    show idxF S c k ≤ idxF S c (k + j) + _
    split <;> omega
/-- as many seats are taken as there are sitters -/
theorem idx_all (hC : CbOk S c) : idxF S c 5 = S c 8 := by
  have h8 := hC.2.2.1
  have sit := hC.2.2.2.2.2.1
  have on := hC.2.2.2.2.2.2.1
  have key : ∀ n : Nat, (n : Int) ≤ S c 8 → (if 0 ≤ S (c + 2) 0 ∧ S (c + 2) 0 < (n : Int) then (1 : Int) else 0) + (if 0 ≤ S (c + 2) 1 ∧ S (c + 2) 1 < (n : Int) then 1 else 0) + (if 0 ≤ S (c + 2) 2 ∧ S (c + 2) 2 < (n : Int) then 1 else 0) + (if 0 ≤ S (c + 2) 3 ∧ S (c + 2) 3 < (n : Int) then 1 else 0) + (if 0 ≤ S (c + 2) 4 ∧ S (c + 2) 4 < (n : Int) then 1 else 0) = n := by
    intro n
    induction n with
    | zero =>
      intro _
      rw [if_neg (by omega), if_neg (by omega), if_neg (by omega), if_neg (by omega), if_neg (by omega)]
      rfl
    | succ n ih =>
      intro hn
      have ih := ih (by omega)
      obtain ⟨s1, s2, s3⟩ := sit (n : Int) (by omega) (by omega)
      have b := s1.2.1
      have one : ∀ s : Int, (if 0 ≤ S (c + 2) s ∧ S (c + 2) s < ((n + 1 : Nat) : Int) then (1 : Int) else 0) = (if 0 ≤ S (c + 2) s ∧ S (c + 2) s < (n : Int) then 1 else 0) + (if S (c + 2) s = (n : Int) then 1 else 0) := by
        intro s
        repeat' split
        all_goals omega
      have eq : ∀ s : Int, 0 ≤ s → s < 5 → ((if S (c + 2) s = (n : Int) then (1 : Int) else 0) = if s = S (c + 13 + (n : Int)) 1 then 1 else 0) := by
        intro s s0 s5
        by_cases h : s = S (c + 13 + (n : Int)) 1
        · rw [if_pos h, h, if_pos s3]
        · rw [if_neg h, if_neg]
          intro y
          rcases on s s0 s5 with o | ⟨o1, o2, o3⟩
          · omega
          · rw [y] at o3; exact h o3.symm
      rw [one 0, one 1, one 2, one 3, one 4, eq 0 (by omega) (by omega), eq 1 (by omega) (by omega), eq 2 (by omega) (by omega), eq 3 (by omega) (by omega), eq 4 (by omega) (by omega)]
      generalize S (c + 13 + (n : Int)) 1 = a at *
      have sm : (if (0 : Int) = a then (1 : Int) else 0) + (if (1 : Int) = a then 1 else 0) + (if (2 : Int) = a then 1 else 0) + (if (3 : Int) = a then 1 else 0) + (if (4 : Int) = a then 1 else 0) = 1 := by
        rcases (by omega : a = 0 ∨ a = 1 ∨ a = 2 ∨ a = 3 ∨ a = 4) with rfl | rfl | rfl | rfl | rfl <;> decide
      omega
  have k := key (S c 8).toNat (by omega)
  have e : ∀ s : Int, 0 ≤ s → s < 5 → (if 0 ≤ S (c + 2) s ∧ S (c + 2) s < ((S c 8).toNat : Int) then (1 : Int) else 0) = if S (c + 2) s = -1 then 0 else 1 := by
    intro s s0 s5
    have := on s s0 s5
    repeat' split
    all_goals omega
  rw [e 0 (by omega) (by omega), e 1 (by omega) (by omega), e 2 (by omega) (by omega), e 3 (by omega) (by omega), e 4 (by omega) (by omega)] at k
  simp only [idxF]
  have z0 : ((0 : Nat) : Int) = 0 := rfl
  have z1 : ((0 + 1 : Nat) : Int) = 1 := rfl
  have z2 : ((0 + 1 + 1 : Nat) : Int) = 2 := rfl
  have z3 : ((0 + 1 + 1 + 1 : Nat) : Int) = 3 := rfl
  have z4 : ((0 + 1 + 1 + 1 + 1 : Nat) : Int) = 4 := rfl
  simp only [Int.natCast_zero, Int.natCast_one, Int.cast_ofNat_Int] at *
  omega
/-- of the taken seats each has a number of its own -/
theorem idx_lt (hC : CbOk S c) {s : Int} (h0 : 0 ≤ s) (h5 : s < 5) (ht : S (c + 2) s ≠ -1) : 0 ≤ idxF S c s.toNat ∧ idxF S c s.toNat < S c 8 := by
  have a := idx_all hC
  have m := idx_mono S c (s.toNat + 1) (4 - s.toNat)
  rw [show s.toNat + 1 + (4 - s.toNat) = 5 by omega] at m
  have e : idxF S c (s.toNat + 1) = idxF S c s.toNat + 1 := by
    show idxF S c s.toNat + (if S (c + 2) (s.toNat : Int) = -1 then 0 else 1) = _
    rw [show ((s.toNat : Nat) : Int) = s by omega, if_neg ht]
  have n := (idx_mono S c s.toNat 0).2
  omega
end ORDERS
