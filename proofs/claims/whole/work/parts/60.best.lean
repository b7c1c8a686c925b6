section BEST
/-! the best ways, in numbers alone: sl q: one sleeps on q; wk, s0, s1: the odds to wake, to spill on either side; A, B, C: the prices -/
def spd (s0 s1 : Int → Int) (q y : Int) : Int := if y = 1 then s0 q else s1 q
def pdF (sl : Int → Bool) (s0 s1 : Int → Int) (A B : Int) (e : Int → Int) : Nat → Int → Int
  | 0, _ => 0
  | n + 1, p => (if sl p = true then (if e p = 0 then A * 10000 else B * spd s0 s1 p (e p) * 1000) else 0) + pdF sl s0 s1 A B e n (p + 1)
def thF (sl : Int → Bool) (wk s0 s1 : Int → Int) (cl : Int) (e : Int → Int) : Nat → Int → Int → Int
  | 0, _, a => a
  | n + 1, p, a => thF sl wk s0 s1 cl e n (p + 1) (if sl p = true then (if e p = 0 then Int.tdiv (a * wk p) 10 else if cl = 0 then a else Int.tdiv (a * (10 - spd s0 s1 p (e p))) 10) else a)
def clF (s0 s1 : Int → Int) (B : Int) (q : Int) : Int := if B * s1 q < B * s0 q then 2 else 1
def cntF (sl : Int → Bool) : Nat → Int → Int
  | 0, _ => 0
  | n + 1, p => (if sl p = true then 1 else 0) + cntF sl n (p + 1)
/-- the ways by which those of the bits of k are climbed past -/
def WP (sl : Int → Bool) (cl : Int → Int) : Nat → Int → Int → Int
  | 0, _, _ => 0
  | n + 1, p, k => if sl p = true then (k % 2) * cl p * p3 p + WP sl cl n (p + 1) (k / 2) else WP sl cl n (p + 1) k
def PW (sl : Int → Bool) : Nat → Int → Int
  | 0, _ => 1
  | n + 1, p => if sl p = true then 2 * PW sl n (p + 1) else PW sl n (p + 1)
def KX (sl : Int → Bool) (e : Int → Int) : Nat → Int → Int
  | 0, _ => 0
  | n + 1, p => if sl p = true then (if e p = 0 then 0 else 1) + 2 * KX sl e n (p + 1) else KX sl e n (p + 1)
def SM (sl : Int → Bool) (e : Int → Int) : Nat → Int → Int
  | 0, _ => 0
  | n + 1, p => (if sl p = true then e p * p3 p else 0) + SM sl e n (p + 1)
def csF (sl : Int → Bool) (wk s0 s1 : Int → Int) (A B C : Int) (n : Nat) (p w : Int) : Int := pdF sl s0 s1 A B (fun q => dg w q) n p + C * (10000 - thF sl wk s0 s1 0 (fun q => dg w q) n p 10000)
def Vld (sl : Int → Bool) (n : Nat) (p w : Int) : Prop := (0 ≤ w ∧ w < p3 (p + n)) ∧ ∀ q, 0 ≤ q → q < p + n → dg w q ≠ 0 → p ≤ q ∧ sl q = true
def Bst (sl : Int → Bool) (wk s0 s1 : Int → Int) (A B C : Int) (n : Nat) (p w : Int) : Prop := Vld sl n p w ∧ ∀ v, Vld sl n p v → csF sl wk s0 s1 A B C n p w ≤ csF sl wk s0 s1 A B C n p v ∧ (csF sl wk s0 s1 A B C n p v = csF sl wk s0 s1 A B C n p w → w ≤ v)
variable {sl : Int → Bool} {wk s0 s1 cl e e' : Int → Int} {A B C : Int}
theorem Bst.one {n : Nat} {p w v : Int} (h : Bst sl wk s0 s1 A B C n p w) (h' : Bst sl wk s0 s1 A B C n p v) : w = v := by
  have a := h.2 v h'.1
  have b := h'.2 w h.1
  have x : csF sl wk s0 s1 A B C n p w = csF sl wk s0 s1 A B C n p v := by omega
  have y := a.2 x.symm
  have z := b.2 x
  omega
theorem p3_5 {p : Int} (h : 0 ≤ p ∧ p ≤ 4) : p3 (p + 1) = 3 * p3 p := by
  obtain ⟨e0, e1, e2, e3, e4, e5⟩ := p3_s
  rcases (by omega : p = 0 ∨ p = 1 ∨ p = 2 ∨ p = 3 ∨ p = 4) with rfl | rfl | rfl | rfl | rfl <;> simp only [Int.reduceAdd, Int.zero_add] <;> omega
theorem pdF_ext (h : ∀ q, sl q = true → e q = e' q) : ∀ (n : Nat) (p : Int), pdF sl s0 s1 A B e n p = pdF sl s0 s1 A B e' n p := by
  intro n
  induction n with
  | zero => intro p; rfl
  | succ n ih =>
    intro p
    unfold pdF
    rw [ih]
    by_cases hs : sl p = true
    · rw [if_pos hs, if_pos hs, h p hs]
    · rw [if_neg hs, if_neg hs]
theorem pdF_exr : ∀ (n : Nat) (p : Int), (∀ q, p ≤ q → q < p + n → sl q = true → e q = e' q) → pdF sl s0 s1 A B e n p = pdF sl s0 s1 A B e' n p := by
  intro n
  induction n with
  | zero => intro p _; rfl
  | succ n ih =>
    intro p h
    unfold pdF
    rw [ih (p + 1) (fun q a b c => h q (by omega) (by omega) c)]
    by_cases hs : sl p = true
    · rw [if_pos hs, if_pos hs, h p (by omega) (by omega) hs]
    · rw [if_neg hs, if_neg hs]
theorem thF_exr {s0' s1' : Int → Int} : ∀ (n : Nat) (p a : Int), (∀ q, p ≤ q → q < p + n → sl q = true → (e q = 0 ↔ e' q = 0)) → thF sl wk s0 s1 0 e n p a = thF sl wk s0' s1' 0 e' n p a := by
  intro n
  induction n with
  | zero => intro p a _; rfl
  | succ n ih =>
    intro p a h
    unfold thF
    have x := fun a => ih (p + 1) a (fun q a b c => h q (by omega) (by omega) c)
    rw [x]
    by_cases hs : sl p = true
    · have y := h p (by omega) (by omega) hs
      rw [if_pos hs, if_pos hs, if_pos rfl, if_pos rfl]
      by_cases z : e p = 0
      · rw [if_pos z, if_pos (y.mp z)]
      · rw [if_neg z, if_neg (fun u => z (y.mpr u))]
    · rw [if_neg hs, if_neg hs]
/-! the number of ways, its digits -/
theorem WP_mul (hc : ∀ q, 1 ≤ cl q ∧ cl q ≤ 2) : ∀ (n : Nat) (p k : Int), 0 ≤ p → p + n ≤ 5 → 0 ≤ k → (∃ M, 0 ≤ M ∧ WP sl cl n p k = p3 p * M) ∧ WP sl cl n p k ≤ p3 (p + n) - p3 p := by
  intro n
  induction n with
  | zero =>
    intro p k hp hn hk
    unfold WP
    rw [show p + ((0 : Nat) : Int) = p by omega]
    exact ⟨⟨0, by omega, by omega⟩, by omega⟩
  | succ n ih =>
    intro p k hp hn hk
    have h3 := p3_5 (p := p) (by omega)
    have hp3 := p3_in (n := p) (by omega)
    unfold WP
    rw [show p + ((n + 1 : Nat) : Int) = p + 1 + n by omega]
    split
    · obtain ⟨⟨M, m0, m1⟩, m2⟩ := ih (p + 1) (k / 2) (by omega) (by omega) (by omega)
      have c1 := hc p
      have c0 : 0 ≤ (k % 2) * cl p ∧ (k % 2) * cl p ≤ 2 := by rcases (by omega : k % 2 = 0 ∨ k % 2 = 1) with z | z <;> rw [z] <;> omega
      generalize hu : (k % 2) * cl p = u at *
      have b := mul_bd (a := u) (b := p3 p) (A := 2) (B := p3 p) c0 (by omega)
      refine ⟨⟨u + 3 * M, by omega, ?_⟩, by omega⟩
      rw [m1, h3, Int.mul_add, Int.mul_comm u (p3 p), ← Int.mul_assoc, Int.mul_comm 3 (p3 p)]
    · obtain ⟨⟨M, m0, m1⟩, m2⟩ := ih (p + 1) k (by omega) (by omega) (by omega)
      refine ⟨⟨3 * M, by omega, ?_⟩, by omega⟩
      rw [m1, h3, ← Int.mul_assoc, Int.mul_comm 3 (p3 p)]
theorem dg_hd {p u M : Int} (hp : 0 ≤ p ∧ p ≤ 4) (hu : 0 ≤ u ∧ u ≤ 2) (hM : 0 ≤ M) : dg (u * p3 p + p3 (p + 1) * M) p = u := by
  obtain ⟨e0, e1, e2, e3, e4, e5⟩ := p3_s
  unfold dg
  rcases (by omega : p = 0 ∨ p = 1 ∨ p = 2 ∨ p = 3 ∨ p = 4) with rfl | rfl | rfl | rfl | rfl <;> simp only [Int.reduceAdd, e0, e1, e2, e3, e4, e5]
  all_goals
    rw [Int.tdiv_eq_ediv_of_nonneg (by omega), Int.tmod_eq_emod_of_nonneg (by omega)]
    omega
theorem dg_tl {p q u M : Int} (hp : 0 ≤ p) (hq : p < q ∧ q ≤ 4) (hu : 0 ≤ u ∧ u ≤ 2) (hM : 0 ≤ M) : dg (u * p3 p + p3 (p + 1) * M) q = dg (p3 (p + 1) * M) q := by
  obtain ⟨e0, e1, e2, e3, e4, e5⟩ := p3_s
  unfold dg
  rcases (by omega : p = 0 ∨ p = 1 ∨ p = 2 ∨ p = 3) with rfl | rfl | rfl | rfl <;> rcases (by omega : q = 1 ∨ q = 2 ∨ q = 3 ∨ q = 4) with rfl | rfl | rfl | rfl <;> first | omega | skip
  all_goals
    simp only [Int.reduceAdd, e0, e1, e2, e3, e4, e5]
    rw [Int.tdiv_eq_ediv_of_nonneg (by omega), Int.tdiv_eq_ediv_of_nonneg (by omega), Int.tmod_eq_emod_of_nonneg (by omega), Int.tmod_eq_emod_of_nonneg (by omega)]
    omega
theorem dg_lo {p q M : Int} (hp : p ≤ 5) (hq : 0 ≤ q ∧ q < p) (hM : 0 ≤ M) : dg (p3 p * M) q = 0 := by
  obtain ⟨e0, e1, e2, e3, e4, e5⟩ := p3_s
  unfold dg
  rcases (by omega : p = 1 ∨ p = 2 ∨ p = 3 ∨ p = 4 ∨ p = 5) with rfl | rfl | rfl | rfl | rfl <;> rcases (by omega : q = 0 ∨ q = 1 ∨ q = 2 ∨ q = 3 ∨ q = 4) with rfl | rfl | rfl | rfl | rfl <;> first | omega | skip
  all_goals
    simp only [e0, e1, e2, e3, e4, e5]
    rw [Int.tdiv_eq_ediv_of_nonneg (by omega), Int.tmod_eq_emod_of_nonneg (by omega)]
    omega
theorem dg_hi {p q w : Int} (hp : 0 ≤ p ∧ p ≤ 5) (hq : p ≤ q ∧ q ≤ 5) (hw : 0 ≤ w ∧ w < p3 p) : dg w q = 0 := by
  obtain ⟨e0, e1, e2, e3, e4, e5⟩ := p3_s
  unfold dg
  rcases (by omega : p = 0 ∨ p = 1 ∨ p = 2 ∨ p = 3 ∨ p = 4 ∨ p = 5) with rfl | rfl | rfl | rfl | rfl | rfl <;> rcases (by omega : q = 0 ∨ q = 1 ∨ q = 2 ∨ q = 3 ∨ q = 4 ∨ q = 5) with rfl | rfl | rfl | rfl | rfl | rfl <;> first | omega | skip
  all_goals
    simp only [e0, e1, e2, e3, e4, e5] at hw ⊢
    rw [Int.tdiv_eq_ediv_of_nonneg (by omega), Int.tmod_eq_emod_of_nonneg (by omega)]
    omega
/-- the digits of WP at the chosen k -/
theorem WP_dg (hc : ∀ q, 1 ≤ cl q ∧ cl q ≤ 2) : ∀ (n : Nat) (p k : Int), 0 ≤ p → p + n ≤ 5 → 0 ≤ k → ∀ q, 0 ≤ q → q ≤ 4 → dg (WP sl cl n p k) q ≠ 0 → (p ≤ q ∧ q < p + n) ∧ sl q = true := by
  intro n
  induction n with
  | zero =>
    intro p k hp hn hk q q0 q4 h
    unfold WP at h
    exact absurd (by simp [dg]) h
  | succ n ih =>
    intro p k hp hn hk q q0 q4 h
    have hp3 := p3_in (n := p) (by omega)
    unfold WP at h
    by_cases hs : sl p = true
    · rw [if_pos hs] at h
      have c1 := hc p
      have c0 : 0 ≤ (k % 2) * cl p ∧ (k % 2) * cl p ≤ 2 := by rcases (by omega : k % 2 = 0 ∨ k % 2 = 1) with z | z <;> rw [z] <;> omega
      have ih' := ih (p + 1) (k / 2) (by omega) (by omega) (by omega) q q0 q4
      obtain ⟨⟨M, m0, m1⟩, m2⟩ := WP_mul (sl := sl) hc n (p + 1) (k / 2) (by omega) (by omega) (by omega)
      by_cases hq : q < p
      · rw [m1, p3_5 (p := p) (by omega)] at h
        rw [show (k % 2) * cl p * p3 p + 3 * p3 p * M = p3 p * ((k % 2) * cl p + 3 * M) by rw [Int.mul_add, Int.mul_comm (p3 p), ← Int.mul_assoc, Int.mul_comm (p3 p) 3], dg_lo (by omega) ⟨q0, hq⟩ (by omega)] at h
        exact absurd rfl h
      · by_cases hq2 : q = p
        · subst hq2
          exact ⟨by omega, hs⟩
        · rw [m1, dg_tl hp (by omega) c0 m0, ← m1] at h
          have := ih' h
          exact ⟨by omega, this.2⟩
    · rw [if_neg hs] at h
      have := ih (p + 1) k (by omega) (by omega) (by omega) q q0 q4 h
      exact ⟨by omega, this.2⟩
theorem WP_kx (hc : ∀ q, 1 ≤ cl q ∧ cl q ≤ 2) : ∀ (n : Nat) (p : Int), 0 ≤ p → p + n ≤ 5 → (0 ≤ KX sl e n p ∧ KX sl e n p < PW sl n p) ∧ ∀ q, p ≤ q → q < p + n → sl q = true → dg (WP sl cl n p (KX sl e n p)) q = if e q = 0 then 0 else cl q := by
  intro n
  induction n with
  | zero => intro p hp hn; exact ⟨⟨Int.le_refl 0, show (0 : Int) < 1 by decide⟩, fun q a b => by omega⟩
  | succ n ih =>
    intro p hp hn
    obtain ⟨k1, k2⟩ := ih (p + 1) (by omega) (by omega)
    have hp3 := p3_in (n := p) (by omega)
    unfold KX PW WP
    by_cases hs : sl p = true
    · simp only [if_pos hs]
      have b01 : (if e p = 0 then (0 : Int) else 1) = 0 ∨ (if e p = 0 then (0 : Int) else 1) = 1 := by split <;> omega
      have bm : ((if e p = 0 then (0 : Int) else 1) + 2 * KX sl e n (p + 1)) % 2 = if e p = 0 then 0 else 1 := by omega
      have bd : ((if e p = 0 then (0 : Int) else 1) + 2 * KX sl e n (p + 1)) / 2 = KX sl e n (p + 1) := by omega
      refine ⟨by omega, fun q a b c => ?_⟩
      rw [bm, bd]
      obtain ⟨⟨M, m0, m1⟩, m2⟩ := WP_mul (sl := sl) hc n (p + 1) (KX sl e n (p + 1)) (by omega) (by omega) (by omega)
      have c1 := hc p
      have cu : (if e p = 0 then (0 : Int) else 1) * cl p = if e p = 0 then 0 else cl p := by split <;> omega
      have c0 : 0 ≤ (if e p = 0 then (0 : Int) else cl p) ∧ (if e p = 0 then (0 : Int) else cl p) ≤ 2 := by split <;> omega
      rw [cu]
      by_cases hq : q = p
      · subst hq
        rw [m1]
        exact dg_hd (by omega) c0 m0
      · rw [m1, dg_tl hp (by omega) c0 m0, ← m1]
        exact k2 q (by omega) (by omega) c
    · simp only [if_neg hs]
      refine ⟨k1, fun q a b c => ?_⟩
      by_cases hq : q = p
      · subst hq; exact absurd c hs
      · exact k2 q (by omega) (by omega) c
theorem WP_mono (hc : ∀ q, 1 ≤ cl q ∧ cl q ≤ 2) : ∀ (n : Nat) (p k k' : Int), 0 ≤ p → p + n ≤ 5 → 0 ≤ k → k < k' → k' < PW sl n p → WP sl cl n p k < WP sl cl n p k' := by
  intro n
  induction n with
  | zero => intro p k k' _ _ h0 h1 h2; unfold PW at h2; omega
  | succ n ih =>
    intro p k k' hp hn h0 h1 h2
    have hp3 := p3_in (n := p) (by omega)
    have h3 := p3_5 (p := p) (by omega)
    unfold PW at h2
    unfold WP
    by_cases hs : sl p = true
    · rw [if_pos hs] at h2
      rw [if_pos hs, if_pos hs]
      have c1 := hc p
      have c0 : ∀ j : Int, 0 ≤ (j % 2) * cl p ∧ (j % 2) * cl p ≤ 2 := fun j => by rcases (by omega : j % 2 = 0 ∨ j % 2 = 1) with z | z <;> rw [z] <;> omega
      have b := mul_bd (b := p3 p) (A := 2) (B := p3 p) (c0 k) (by omega)
      have b' := mul_bd (b := p3 p) (A := 2) (B := p3 p) (c0 k') (by omega)
      obtain ⟨⟨M, m0, m1⟩, m2⟩ := WP_mul (sl := sl) hc n (p + 1) (k / 2) (by omega) (by omega) (by omega)
      obtain ⟨⟨M', m0', m1'⟩, m2'⟩ := WP_mul (sl := sl) hc n (p + 1) (k' / 2) (by omega) (by omega) (by omega)
      by_cases hk : k / 2 < k' / 2
      · have x := ih (p + 1) (k / 2) (k' / 2) (by omega) (by omega) (by omega) hk (by omega)
        rw [m1, m1'] at x
        have y : M < M' := Int.lt_of_mul_lt_mul_left x (by omega)
        have z : p3 (p + 1) * (M + 1) ≤ p3 (p + 1) * M' := Int.mul_le_mul_of_nonneg_left (by omega) (by omega)
        rw [Int.mul_add, Int.mul_one] at z
        omega
      · have ek : k / 2 = k' / 2 := by omega
        rw [ek, show k % 2 = 0 by omega, show k' % 2 = 1 by omega, Int.zero_mul, Int.zero_mul, Int.one_mul]
        have := mul_bd (a := cl p - 1) (b := p3 p) (A := 1) (B := p3 p) (by omega) (by omega)
        have e : cl p * p3 p = (cl p - 1) * p3 p + p3 p := by rw [Int.sub_mul, Int.one_mul]; omega
        omega
    · rw [if_neg hs] at h2
      rw [if_neg hs, if_neg hs]
      exact ih (p + 1) k k' (by omega) (by omega) h0 h1 h2
/-- climbing on the better side is no dearer -/
theorem pdF_le (h : ∀ q, 0 ≤ q → q ≤ 4 → 0 ≤ e q ∧ e q ≤ 2) : ∀ (n : Nat) (p : Int), 0 ≤ p → p + n ≤ 5 → pdF sl s0 s1 A B (fun q => if e q = 0 then 0 else clF s0 s1 B q) n p ≤ pdF sl s0 s1 A B e n p ∧
    (pdF sl s0 s1 A B (fun q => if e q = 0 then 0 else clF s0 s1 B q) n p = pdF sl s0 s1 A B e n p → WP sl (clF s0 s1 B) n p (KX sl e n p) ≤ SM sl e n p) := by
  intro n
  induction n with
  | zero => intro p _ _; exact ⟨Int.le_refl _, fun _ => Int.le_refl _⟩
  | succ n ih =>
    intro p hp hn
    obtain ⟨i1, i2⟩ := ih (p + 1) (by omega) (by omega)
    have hp3 := p3_in (n := p) (by omega)
    have h2 := h p (by omega) (by omega)
    unfold pdF KX WP SM
    by_cases hs : sl p = true
    · simp only [if_pos hs]
      by_cases h0 : e p = 0
      · simp only [if_pos h0]
        rw [show ((0 : Int) + 2 * KX sl e n (p + 1)) % 2 = 0 by omega, show ((0 : Int) + 2 * KX sl e n (p + 1)) / 2 = KX sl e n (p + 1) by omega, h0, Int.zero_mul, Int.zero_mul]
        simp only [if_true]
        exact ⟨by omega, fun x => by have := i2 (by omega); omega⟩
      · simp only [if_neg h0]
        rw [show ((1 : Int) + 2 * KX sl e n (p + 1)) % 2 = 1 by omega, show ((1 : Int) + 2 * KX sl e n (p + 1)) / 2 = KX sl e n (p + 1) by omega, Int.one_mul]
        have hcl : clF s0 s1 B p ≠ 0 := by unfold clF; split <;> omega
        rw [if_neg hcl]
        have key : B * spd s0 s1 p (clF s0 s1 B p) ≤ B * spd s0 s1 p (e p) ∧ (B * spd s0 s1 p (clF s0 s1 B p) = B * spd s0 s1 p (e p) → clF s0 s1 B p ≤ e p) := by
          unfold spd clF
          rcases (by omega : e p = 1 ∨ e p = 2) with z | z <;> rw [z] <;> by_cases y : B * s1 p < B * s0 p
          · simp only [if_pos y]; simp; omega
          · simp only [if_neg y]; simp
          · simp only [if_pos y]; simp
          · simp only [if_neg y]; simp; omega
        refine ⟨by omega, fun x => ?_⟩
        have y := i2 (by omega)
        have z := key.2 (by omega)
        have w := Int.mul_le_mul_of_nonneg_right z (show 0 ≤ p3 p by omega)
        omega
    · simp only [if_neg hs]
      exact ⟨by omega, fun x => by have := i2 (by omega); omega⟩
theorem SM_w {n : Nat} {p w : Int} (hp : 0 ≤ p) (hn : p + n ≤ 5) (hv : Vld sl n p w) : SM sl (fun q => dg w q) n p = w := by
  obtain ⟨⟨w0, w1⟩, hz⟩ := hv
  have full : ∀ (n : Nat) (p : Int), (∀ q, p ≤ q → q < p + n → dg w q ≠ 0 → sl q = true) → 0 ≤ p → p + n ≤ 5 → SM sl (fun q => dg w q) n p = SM (fun _ => true) (fun q => dg w q) n p := by
    intro n
    induction n with
    | zero => intro p _ _ _; rfl
    | succ n ih =>
      intro p h hp hn
      unfold SM
      rw [ih (p + 1) (fun q a b c => h q (by omega) (by omega) c) (by omega) (by omega)]
      by_cases hs : sl p = true
      · rw [if_pos hs, if_pos rfl]
      · have : dg w p = 0 := by
          by_cases x : dg w p = 0
          · exact x
          · exact absurd (h p (by omega) (by omega) x) hs
        rw [if_neg hs, if_pos rfl]
        simp only [this, Int.zero_mul]
  rw [full n p (fun q a b c => (hz q (by omega) (by omega) c).2) hp hn]
  have pi := p3_in (n := p + n) (by omega)
  have hi : ∀ q, 0 ≤ q → q ≤ 4 → ¬ (p ≤ q ∧ q < p + n) → dg w q = 0 := fun q q0 q4 h => by
    by_cases a : p + n ≤ q
    · exact dg_hi ⟨by omega, hn⟩ ⟨a, by omega⟩ ⟨w0, w1⟩
    · by_cases x : dg w q = 0
      · exact x
      · exact absurd (hz q q0 (by omega) x).1 (by omega)
  have all : w = dg w 0 + 3 * dg w 1 + 9 * dg w 2 + 27 * dg w 3 + 81 * dg w 4 := by
    obtain ⟨e0, e1, e2, e3, e4, e5⟩ := p3_s
    unfold dg
    rw [e0, e1, e2, e3, e4]
    simp only [Int.tdiv_eq_ediv_of_nonneg w0]
    rw [Int.tmod_eq_emod_of_nonneg (by omega), Int.tmod_eq_emod_of_nonneg (by omega), Int.tmod_eq_emod_of_nonneg (by omega), Int.tmod_eq_emod_of_nonneg (by omega), Int.tmod_eq_emod_of_nonneg (by omega)]
    omega
  have h0 := hi 0 (by omega) (by omega)
  have h1 := hi 1 (by omega) (by omega)
  have h2 := hi 2 (by omega) (by omega)
  have h3 := hi 3 (by omega) (by omega)
  have h4 := hi 4 (by omega) (by omega)
  obtain ⟨e0, e1, e2, e3, e4, e5⟩ := p3_s
  rcases (by omega : n = 0 ∨ n = 1 ∨ n = 2 ∨ n = 3 ∨ n = 4 ∨ n = 5) with rfl | rfl | rfl | rfl | rfl | rfl <;> rcases (by omega : p = 0 ∨ p = 1 ∨ p = 2 ∨ p = 3 ∨ p = 4 ∨ p = 5) with rfl | rfl | rfl | rfl | rfl | rfl <;> first | (exfalso; omega) | skip
  all_goals
    simp only [SM, if_true, Int.reduceAdd, e0, e1, e2, e3, e4]
    omega
theorem dg_02 {w q : Int} (hq : 0 ≤ q ∧ q ≤ 4) (hw : 0 ≤ w) : 0 ≤ dg w q ∧ dg w q ≤ 2 := by
  unfold dg
  have h1 : 0 ≤ Int.tdiv w (p3 q) := Int.tdiv_nonneg hw (by have := p3_in (n := q) (by omega); omega)
  rw [Int.tmod_eq_emod_of_nonneg h1]
  omega
theorem clF_12 (q : Int) : 1 ≤ clF s0 s1 B q ∧ clF s0 s1 B q ≤ 2 := by unfold clF; split <;> omega
theorem Bst.ofWP {n : Nat} {p w : Int} (hp : 0 ≤ p) (hn : p + n ≤ 5) (hw : ∃ k, 0 ≤ k ∧ k < PW sl n p ∧ w = WP sl (clF s0 s1 B) n p k) (hm : ∀ k, 0 ≤ k → k < PW sl n p → csF sl wk s0 s1 A B C n p w ≤ csF sl wk s0 s1 A B C n p (WP sl (clF s0 s1 B) n p k) ∧ (csF sl wk s0 s1 A B C n p (WP sl (clF s0 s1 B) n p k) = csF sl wk s0 s1 A B C n p w → w ≤ WP sl (clF s0 s1 B) n p k)) : Bst sl wk s0 s1 A B C n p w := by
  have hc := fun q => clF_12 (s0 := s0) (s1 := s1) (B := B) q
  have hp3 := p3_in (n := p) (by omega)
  refine ⟨?_, fun v hv => ?_⟩
  · obtain ⟨k, k0, k1, rfl⟩ := hw
    obtain ⟨⟨M, m0, m1⟩, m2⟩ := WP_mul (sl := sl) hc n p k hp hn k0
    have := Int.mul_nonneg (show 0 ≤ p3 p by omega) m0
    exact ⟨by omega, fun q q0 q1 h => by have := WP_dg (sl := sl) hc n p k hp hn k0 q q0 (by omega) h; exact ⟨this.1.1, this.2⟩⟩
  · obtain ⟨⟨k0, k1⟩, kd⟩ := WP_kx (sl := sl) (e := fun q => dg v q) hc n p hp hn
    obtain ⟨l1, l2⟩ := pdF_le (sl := sl) (s0 := s0) (s1 := s1) (A := A) (B := B) (e := fun q => dg v q) (fun q a b => dg_02 ⟨a, b⟩ hv.1.1) n p hp hn
    have sm := SM_w hp hn hv
    have hm := hm _ k0 k1
    have e1 : pdF sl s0 s1 A B (fun q => dg (WP sl (clF s0 s1 B) n p (KX sl (fun q => dg v q) n p)) q) n p = pdF sl s0 s1 A B (fun q => if dg v q = 0 then 0 else clF s0 s1 B q) n p := pdF_exr n p (fun q a b s => kd q a b s)
    have e2 : thF sl wk s0 s1 0 (fun q => dg (WP sl (clF s0 s1 B) n p (KX sl (fun q => dg v q) n p)) q) n p 10000 = thF sl wk s0 s1 0 (fun q => dg v q) n p 10000 := thF_exr n p 10000 (fun q a b s => by
      have x := kd q a b s
      have y := hc q
      show dg _ q = 0 ↔ dg v q = 0
      rw [x]
      split <;> omega)
    have e3 : csF sl wk s0 s1 A B C n p (WP sl (clF s0 s1 B) n p (KX sl (fun q => dg v q) n p)) = pdF sl s0 s1 A B (fun q => if dg v q = 0 then 0 else clF s0 s1 B q) n p + C * (10000 - thF sl wk s0 s1 0 (fun q => dg v q) n p 10000) := by
      unfold csF
      rw [e1, e2]
    have e4 : csF sl wk s0 s1 A B C n p v = pdF sl s0 s1 A B (fun q => dg v q) n p + C * (10000 - thF sl wk s0 s1 0 (fun q => dg v q) n p 10000) := rfl
    rw [sm] at l2
    refine ⟨by omega, fun x => ?_⟩
    have := hm.2 (by omega)
    have := l2 (by omega)
    omega
end BEST
