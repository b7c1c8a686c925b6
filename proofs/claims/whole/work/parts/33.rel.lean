/-! a cabin of the class and a place of the model; a state and a row of the model -/
def TldK (G : Mem) (r k : Int) : Prop := (k < 4 ∧ k < G 313 (12 * r + 9)) ∨ (4 ≤ k ∧ k - 4 < G 313 (12 * r + 10))
def CabR (S G : Mem) (c r : Int) : Prop :=
  (G 313 (12 * r) = S c 6 ∧ G 313 (12 * r + 1) = S c 7 ∧ G 313 (12 * r + 2) = S c 9 ∧ G 313 (12 * r + 7) = S c 10 ∧ G 313 (12 * r + 8) = S c 8) ∧
  (∀ k, 0 ≤ k → k < 4 → G 313 (12 * r + 3 + k) = S (c + 5) k) ∧
  (∀ i, 0 ≤ i → i < S c 8 → G 315 (5 * r + i) = S (c + 13 + i) 0 ∧ G 316 (5 * r + i) = S (c + 13 + i) 1 ∧ G 317 (5 * r + i) = S (c + 13 + i) 2 ∧ G 318 (5 * r + i) = S (c + 13 + i) 3 ∧ G 319 (5 * r + i) = S (c + 13 + i) 4 ∧ G 320 (5 * r + i) = S (c + 13 + i) 5 ∧ G 321 (5 * r + i) = S (c + 13 + i) 6 ∧ G 322 (5 * r + i) = S (c + 13 + i) 7 ∧ G 323 (5 * r + i) = S (c + 13 + i) 8) ∧
  (∀ i, 0 ≤ i → i < 5 → G 324 (5 * r + i) = S (c + 3) i) ∧
  ((0 ≤ G 313 (12 * r + 9) ∧ G 313 (12 * r + 9) ≤ 4) ∧ (0 ≤ G 313 (12 * r + 10) ∧ G 313 (12 * r + 10) ≤ 4)) ∧
  (∀ k, 0 ≤ k → k < 8 → TldK G r k → (0 ≤ G 325 (8 * r + k) ∧ G 325 (8 * r + k) ≤ 72) ∧ (0 ≤ G 326 (8 * r + k) ∧ G 326 (8 * r + k) ≤ 72)) ∧
  (∀ t, 0 ≤ t → t < 72 → (S (c + 4) t ≠ 0 ↔ ∃ k, 0 ≤ k ∧ k < 8 ∧ TldK G r k ∧ G 325 (8 * r + k) ≤ t ∧ t ≤ G 326 (8 * r + k)))
def CbOk (S : Mem) (c : Int) : Prop :=
  (2 ≤ S c 6 ∧ S c 6 ≤ 5) ∧ (1 ≤ S c 7 ∧ S c 7 ≤ 72) ∧ (0 ≤ S c 8 ∧ S c 8 ≤ 5) ∧ (5 ≤ S c 9 ∧ S c 9 ≤ 20) ∧ (0 ≤ S c 10 ∧ S c 10 ≤ 10) ∧
  (∀ i, 0 ≤ i → i < S c 8 → SitOk S (c + 13 + i) ∧ S (c + 13 + i) 1 < S c 6 ∧ S (c + 2) (S (c + 13 + i) 1) = i) ∧
  (∀ s, 0 ≤ s → s < 5 → S (c + 2) s = -1 ∨ (0 ≤ S (c + 2) s ∧ S (c + 2) s < S c 8 ∧ S (c + 13 + S (c + 2) s) 1 = s)) ∧
  (∀ s, 0 ≤ s → s < 5 → 0 ≤ S (c + 3) s ∧ S (c + 3) s ≤ 1) ∧ (∀ t, 0 ≤ t → t < 72 → 0 ≤ S (c + 4) t ∧ S (c + 4) t ≤ 1) ∧ (∀ k, 0 ≤ k → k < 4 → 0 ≤ S (c + 5) k ∧ S (c + 5) k ≤ 99)
def StX (S G : Mem) (b A o n : Int) : Prop :=
  (∀ i, 0 ≤ i → i < n → G A (o + i) = S (b + 1) i ∧ G A (o + 5 + i) = S (b + 2) i ∧ ((G A (o + 10 + i) = 0 ∧ S (b + 3) i = -100) ∨ (1 ≤ G A (o + 10 + i) ∧ G A (o + 10 + i) = S (b + 3) i + 1)) ∧ G A (o + 15 + i) = S (b + 4) i ∧ G A (o + 20 + i) = S (b + 5) i ∧ G A (o + 25 + i) = S (b + 6) i) ∧
  (∀ i, 0 ≤ i → i < 5 → G A (o + 30 + i) = S (b + 7) i) ∧ G A (o + 110) = S b 7 ∧ G A (o + 111) = S b 8 ∧ G A (o + 112) = S b 9 ∧ G A (o + 113) = S b 10 ∧ G A (o + 114) = S b 11
/-- the cabin at hand c and the state at hand -/
def Cu (S G : Mem) (c : Int) : Prop := Bs 1 c ∧ CbOk S c ∧ StOk S 73 ∧ S 73 7 ≤ S c 7 ∧ CabR S G c 0 ∧ StX S G 73 342 0 (S c 8)
abbrev Cur (G : Mem) (c : Int) : Prop := Cu G G c
section REL
variable {d : Nat} {S G : Mem} {Q : Int → Mem → Prop} {c : Int}
theorem Cu.seats (h : Cu S G c) : G 313 0 = S c 6 ∧ G 313 1 = S c 7 ∧ G 313 2 = S c 9 ∧ G 313 7 = S c 10 ∧ G 313 8 = S c 8 := h.2.2.2.2.1.1
theorem Cu.rng (h : Cu S G c) : (2 ≤ S c 6 ∧ S c 6 ≤ 5) ∧ (1 ≤ S c 7 ∧ S c 7 ≤ 72) ∧ (0 ≤ S c 8 ∧ S c 8 ≤ 5) ∧ (5 ≤ S c 9 ∧ S c 9 ≤ 20) ∧ (0 ≤ S c 10 ∧ S c 10 ≤ 10) := ⟨h.2.1.1, h.2.1.2.1, h.2.1.2.2.1, h.2.1.2.2.2.1, h.2.1.2.2.2.2.1⟩
theorem Cu.sit (h : Cu S G c) {i : Int} (h0 : 0 ≤ i) (h1 : i < S c 8) : G 315 i = S (c + 13 + i) 0 ∧ G 316 i = S (c + 13 + i) 1 ∧ G 317 i = S (c + 13 + i) 2 ∧ G 318 i = S (c + 13 + i) 3 ∧ G 319 i = S (c + 13 + i) 4 ∧ G 320 i = S (c + 13 + i) 5 ∧ G 321 i = S (c + 13 + i) 6 ∧ G 322 i = S (c + 13 + i) 7 ∧ G 323 i = S (c + 13 + i) 8 := by
  have := h.2.2.2.2.1.2.2.1 i h0 h1
  simpa using this
theorem Cu.sok (h : Cu S G c) {i : Int} (h0 : 0 ≤ i) (h1 : i < S c 8) : SitOk S (c + 13 + i) := (h.2.1.2.2.2.2.2.1 i h0 h1).1
theorem Cu.seat (h : Cu S G c) {i : Int} (h0 : 0 ≤ i) (h1 : i < S c 8) : S (c + 13 + i) 1 < S c 6 ∧ S (c + 2) (S (c + 13 + i) 1) = i := (h.2.1.2.2.2.2.2.1 i h0 h1).2
theorem Cu.on (h : Cu S G c) {s : Int} (h0 : 0 ≤ s) (h1 : s < 5) : S (c + 2) s = -1 ∨ (0 ≤ S (c + 2) s ∧ S (c + 2) s < S c 8 ∧ S (c + 13 + S (c + 2) s) 1 = s) := h.2.1.2.2.2.2.2.2.1 s h0 h1
theorem Cu.price (h : Cu S G c) {k : Int} (h0 : 0 ≤ k) (h1 : k < 4) : G 313 (3 + k) = S (c + 5) k ∧ 0 ≤ S (c + 5) k ∧ S (c + 5) k ≤ 99 := by
  refine ⟨?_, h.2.1.2.2.2.2.2.2.2.2.2 k h0 h1⟩
  have := h.2.2.2.2.1.2.1 k h0 h1
  simpa using this
theorem Cu.row (h : Cu S G c) {i : Int} (h0 : 0 ≤ i) (h1 : i < S c 8) : G 342 i = S 74 i ∧ G 342 (5 + i) = S 75 i ∧ ((G 342 (10 + i) = 0 ∧ S 76 i = -100) ∨ (1 ≤ G 342 (10 + i) ∧ G 342 (10 + i) = S 76 i + 1)) ∧ G 342 (15 + i) = S 77 i ∧ G 342 (20 + i) = S 78 i ∧ G 342 (25 + i) = S 79 i := by
  have := h.2.2.2.2.2.1 i h0 h1
  simpa using this
theorem Cu.cup (h : Cu S G c) {i : Int} (h0 : 0 ≤ i) (h1 : i < 5) : G 342 (30 + i) = S 80 i := by
  have := h.2.2.2.2.2.2.1 i h0 h1
  simpa using this
theorem Cu.nums (h : Cu S G c) : G 342 110 = S 73 7 ∧ G 342 111 = S 73 8 ∧ G 342 112 = S 73 9 ∧ G 342 113 = S 73 10 ∧ G 342 114 = S 73 11 := h.2.2.2.2.2.2.2
theorem Cu.rok (h : Cu S G c) {i : Int} (h0 : 0 ≤ i) (h1 : i < 5) : (0 ≤ S 74 i ∧ S 74 i ≤ 199) ∧ (-1 ≤ S 75 i ∧ S 75 i ≤ 10) ∧ (-100 ≤ S 76 i ∧ S 76 i ≤ 72) ∧ (0 ≤ S 80 i ∧ S 80 i ≤ 1) ∧ (0 < S 75 i → S 74 i = 0) := h.2.2.1.2 i h0 h1
theorem Cu.tick (h : Cu S G c) : (0 ≤ S 73 7 ∧ S 73 7 ≤ 72) ∧ S 73 7 ≤ S c 7 := ⟨h.2.2.1.1, h.2.2.2.1⟩
/-! the model's small methods -/
theorem c_within {a b e : Int} (ha : InR a) (hb : InR b) (he : InR e) (h1 : b ≤ a ∧ a ≤ e → Q 1 G) (h0 : ¬ (b ≤ a ∧ a ≤ e) → Q 0 G) : Ct d M_X12_within NT 0 0 (some lay) [(0, a), (0, b), (0, e)] G Q :=
  ctof (s_X12_within_0 ⟨ha, hb, fun c1 => h0 (by omega), fun c1 => ⟨he, fun c2 => h0 (by omega), fun c2 => h1 (by omega)⟩⟩)
theorem c_between {a b e : Int} (ha : InR a) (hb : InR b) (he : InR e) (hbe : b ≤ e) (h : Q (max b (min e a)) G) : Ct d M_X12_between NT 0 0 (some lay) [(0, a), (0, b), (0, e)] G Q := by
  refine ctof (s_X12_between_0 ⟨ha, hb, fun c1 => ⟨he, fun c2 => ?_, fun c2 => ?_⟩, fun c1 => ?_⟩)
  · rwa [Int.min_eq_right c2, Int.max_eq_right c1] at h
  · rwa [Int.min_eq_left (by omega), Int.max_eq_right hbe] at h
  · rwa [Int.min_eq_right (by omega), Int.max_eq_left (by omega)] at h
theorem c_isSitter {p : Int} (hR : Cu S G c) (hp : InR p) (h1 : 0 ≤ p ∧ p < S c 8 → Q 1 G) (h0 : ¬ (0 ≤ p ∧ p < S c 8) → Q 0 G) : Ct d M_X12_isSitter NT 0 0 (some lay) [(2, 311), (0, p)] G Q := by
  have e := hR.seats
  have r := hR.rng
  exact ctof (s_X12_isSitter_0 ⟨hp, fun c1 => h0 (by omega), fun c1 => ⟨by omega, fun c2 => h0 (by omega), fun c2 => h1 (by omega)⟩⟩)
theorem c_growth {p : Int} (hR : Cu S G c) (hp : 0 ≤ p ∧ p < S c 8) (h : Q (grow S (c + 13 + p) 0) G) : Ct d M_X12_growth NT 0 0 (some lay) [(2, 311), (0, p)] G Q := by
  have r := hR.rng
  have e := hR.sit hp.1 hp.2
  have k := (hR.sok hp.1 hp.2).1
  unfold grow at h
  refine ctof (s_X12_growth_0 ⟨by omega, by omega, fun c1 => ?_, fun c1 => ?_⟩)
  · rw [if_neg (by omega)] at h
    rw [e.2.2.1, show S (c + 13 + p) 2 = (S (c + 13 + p) 2 + 0) * 1 from by omega]
    exact h
  · rw [if_pos (by omega)] at h
    rw [e.2.2.1, show 2 * S (c + 13 + p) 2 = (S (c + 13 + p) 2 + 0) * 2 from by omega]
    exact h
theorem c_depthOf {p : Int} (hR : Cu S G c) (hp : 0 ≤ p ∧ p < S c 8) (h : Q (deepf S (c + 13 + p)) G) : Ct d M_X12_depthOf NT 0 0 (some lay) [(2, 311), (0, p)] G Q := by
  have r := hR.rng
  have e := hR.sit hp.1 hp.2
  have k := hR.sok hp.1 hp.2
  have k0 := k.1
  have k5 := k.2.2.2.2.2.1
  unfold deepf at h
  refine ctof (s_X12_depthOf_0 ⟨by omega, by omega, fun c1 => ⟨fun c2 => ?_, fun c2 => ?_⟩, fun c1 => ⟨by omega, ?_⟩⟩)
  · rw [if_neg (by omega), if_neg (by omega)] at h
    rw [e.2.2.2.2.2.1]; exact h
  · rw [if_pos (by omega)] at h
    exact h
  · rw [if_neg (by omega), if_pos (by omega)] at h
    rw [e.2.2.2.2.2.1]; exact h
theorem c_legsOf {p : Int} (hR : Cu S G c) (hp : 0 ≤ p ∧ p < S c 8) (h : Q (legsf S (c + 13 + p)) G) : Ct d M_X12_legsOf NT 0 0 (some lay) [(2, 311), (0, p)] G Q := by
  have r := hR.rng
  have e := hR.sit hp.1 hp.2
  have k := (hR.sok hp.1 hp.2).1
  unfold legsf at h
  refine ctof (s_X12_legsOf_0 ⟨by omega, by omega, fun c1 => ?_, fun c1 => ?_⟩)
  · rw [if_neg (by omega)] at h
    rw [e.2.2.2.2.2.2.1]; exact h
  · rw [if_pos (by omega)] at h
    rw [e.2.2.2.2.2.2.1]; exact h
theorem c_isAsleepAt {p t : Int} (hR : Cu S G c) (hp : 0 ≤ p ∧ p < S c 8) (ht : 0 ≤ t ∧ t ≤ 1000) (h1 : aslp S 73 c p t → Q 1 G) (h0 : ¬ aslp S 73 c p t → Q 0 G) : Ct d M_X12_isAsleepAt NT 0 0 (some lay) [(2, 311), (0, p), (0, t)] G Q := by
  have r := hR.rng
  obtain ⟨-, -, -, -, -, -, -, e7, e8⟩ := hR.sit hp.1 hp.2
  obtain ⟨-, -, -, -, -, -, -, k7, k8⟩ := hR.sok hp.1 hp.2
  obtain ⟨-, w2, w3, -, -, -⟩ := hR.row hp.1 hp.2
  obtain ⟨-, q2, q3, -, -⟩ := hR.rok hp.1 (by omega : p < 5)
  unfold aslp at h1 h0
  have f1 : (73 : Int) + 2 = 75 := rfl
  have f2 : (73 : Int) + 3 = 76 := rfl
  rw [f1, f2] at h1 h0
  refine ctof (s_X12_isAsleepAt_0 ⟨by omega, by omega, fun c1 => h0 (by omega), fun c1 => ⟨by omega, by omega, by omega, fun c2 => h0 (by omega), fun c2 => ⟨by omega, fun c3 => ⟨by omega, by omega, fun c4 => h1 (by omega), fun c4 => ⟨by omega, fun c5 => h0 (by omega), fun c5 => h1 (by omega)⟩⟩, fun c3 => h0 (by omega)⟩⟩⟩)
theorem c_isAsleep {p : Int} (hR : Cu S G c) (hp : 0 ≤ p ∧ p < S c 8) (h1 : aslp S 73 c p (S 73 7) → Q 1 G) (h0 : ¬ aslp S 73 c p (S 73 7) → Q 0 G) : Ct (d + 1) M_X12_isAsleep NT 0 0 (some lay) [(2, 311), (0, p)] G Q := by
  refine ctof (s_X12_isAsleep_0 ?_)
  have t := hR.tick
  rw [hR.nums.1]
  exact c_isAsleepAt hR hp (by omega) (fun q => ⟨Or.inr rfl, h1 q⟩) (fun q => ⟨Or.inl rfl, h0 q⟩)
theorem c_isShut {t : Int} (hR : Cu S G c) (ht : 0 ≤ t ∧ t ≤ 1000) (h1 : clsd S c t → Q 1 G) (h0 : ¬ clsd S c t → Q 0 G) : Ct (d + 1) M_X12_isShut NT 0 0 (some lay) [(2, 311), (0, t)] G Q := by
  have r := hR.rng
  have e := hR.seats
  obtain ⟨-, -, -, -, s1, s2, s3⟩ := hR.2.2.2.2.1
  unfold clsd at h1 h0
  refine ctof (s_X12_isShut_0 ⟨by omega, by omega, fun c1 => ?_, fun c1 => h1 (by omega)⟩)
  have s3 := s3 t ht.1 (by omega)
  have key : ∀ (k i : Nat), i + k = 8 → (∀ j, 0 ≤ j → j < (i : Int) → ¬ (TldK G 0 j ∧ G 325 (8 * 0 + j) ≤ t ∧ t ≤ G 326 (8 * 0 + j))) → Rn (d + 1) M_X12_isShut zN 14 [(0, (2, 311)), (1, (0, t)), (2, (0, (i : Int)))] [] G Q := by
    intro k
    induction k with
    | zero =>
      intro i hi hn
      refine s_X12_isShut_14 ⟨by omega, fun _ => h0 ?_, fun c2 => absurd (by omega) c2⟩
      have : ¬ S (c + 4) t ≠ 0 := fun q => by
        obtain ⟨j, j0, j8, j1, j2⟩ := s3.mp q
        exact hn j j0 (by omega) ⟨j1, j2⟩
      omega
    | succ k ih =>
      intro i hi hn
      have nxt : ¬ (TldK G 0 (i : Int) ∧ G 325 (8 * 0 + (i : Int)) ≤ t ∧ t ≤ G 326 (8 * 0 + (i : Int))) → Rn (d + 1) M_X12_isShut zN 14 [(0, (2, 311)), (1, (0, t)), (2, (0, ((i : Int) + 1)))] [] G Q := fun q => ih (i + 1) (by omega) (fun j j0 j1 => by
        by_cases hj : j = (i : Int)
        · subst hj; exact q
        · exact hn j j0 (by omega))
      have L62 : ∀ s : Int, (s = 0 ∧ ¬ TldK G 0 (i : Int)) ∨ (s = 1 ∧ TldK G 0 (i : Int)) → Rn (d + 1) M_X12_isShut zN 62 [(0, (2, 311)), (1, (0, t)), (2, (0, (i : Int)))] [(0, s)] G Q := by
        intro s hs
        refine s_X12_isShut_62 ⟨by omega, fun c2 => nxt (fun q => by rcases hs with ⟨_, x⟩ | ⟨x, _⟩; exact x q.1; omega), fun c2 => ⟨by omega, ?_⟩⟩
        have hT : TldK G 0 (i : Int) := by rcases hs with ⟨x, _⟩ | ⟨_, x⟩; omega; exact x
        have b := s2 i (by omega) (by omega) hT
        have z : (8 : Int) * 0 + (i : Int) = i := by omega
        rw [z] at b nxt
        refine c_within (by omega) (by omega) (by omega) (fun q => ⟨by omega, fun c3 => by omega, fun _ => h1 ?_⟩) (fun q => ⟨by omega, fun _ => nxt (fun x => q ⟨x.2.1, x.2.2⟩), fun c3 => by omega⟩)
        exact Or.inr (Or.inr (Or.inr (s3.mpr ⟨i, by omega, by omega, hT, by rw [z]; exact q⟩)))
      have tk : TldK G 0 (i : Int) ↔ ((i : Int) < 4 ∧ (i : Int) < G 313 9) ∨ (4 ≤ (i : Int) ∧ (i : Int) - 4 < G 313 10) := by
        unfold TldK
        simp
      simp only [Int.mul_zero, Int.zero_add] at s1
      refine s_X12_isShut_14 ⟨by omega, fun c2 => by omega, fun c2 => ⟨fun c3 => ⟨by omega, by omega, fun c4 => L62 0 (Or.inl ⟨rfl, fun q => by have := tk.mp q; omega⟩), fun c4 => L62 1 (Or.inr ⟨rfl, tk.mpr (by omega)⟩)⟩, fun c3 => ⟨by omega, fun c4 => L62 0 (Or.inl ⟨rfl, fun q => by have := tk.mp q; omega⟩), fun c4 => L62 1 (Or.inr ⟨rfl, tk.mpr (by omega)⟩)⟩⟩⟩
  exact key 8 0 rfl (fun j j0 j1 => by omega)
theorem c_sitterOf {s : Int} (hR : Cu S G c) (hs : 0 ≤ s ∧ s < 5) (h : Q (S (c + 2) s) G) : Ct d M_X12_sitterOf NT 0 0 (some lay) [(2, 311), (0, s)] G Q := by
  have r := hR.rng
  have e := hR.seats
  have o := hR.on hs.1 hs.2
  refine ctof (s_X12_sitterOf_0 ?_)
  obtain ⟨n, hn⟩ := Int.eq_ofNat_of_zero_le r.2.2.1.1
  have key : ∀ (k i : Nat), i + k = n → (∀ j, 0 ≤ j → j < (i : Int) → S (c + 13 + j) 1 ≠ s) → Rn d M_X12_sitterOf zN 2 [(0, (2, 311)), (1, (0, s)), (2, (0, (i : Int)))] [] G Q := by
    intro k
    induction k with
    | zero =>
      intro i hi hno
      refine s_X12_sitterOf_2 ⟨by omega, by omega, fun _ => ?_, fun c2 => absurd (by omega) c2⟩
      rcases o with o | ⟨o1, o2, o3⟩
      · rw [o] at h; exact h
      · exact absurd o3 (hno _ o1 (by omega))
    | succ k ih =>
      intro i hi hno
      have e1 := (hR.sit (i := (i : Int)) (by omega) (by omega)).2.1
      have k1 := (hR.sok (i := (i : Int)) (by omega) (by omega)).2.1
      have st1 := hR.seat (i := (i : Int)) (by omega) (by omega)
      refine s_X12_sitterOf_2 ⟨by omega, by omega, fun c2 => by omega, fun c2 => ⟨by omega, by omega, by omega, fun c3 => ?_, fun c3 => ?_⟩⟩
      · refine ih (i + 1) (by omega) (fun j j0 j1 => ?_)
        by_cases hj : j = (i : Int)
        · subst hj; omega
        · exact hno j j0 (by omega)
      · have e3 : S (c + 13 + (i : Int)) 1 = s := by omega
        rw [e3] at st1
        rw [st1.2] at h
        exact h
  exact key n 0 (by omega) (fun j j0 j1 => by omega)
/-- who is in a seat, -1: nobody -/
def inSt (S : Mem) (c s : Int) : Int := if S (c + 2) s < 0 then -1 else if S 75 (S (c + 2) s) = 0 then S (c + 2) s else -1
theorem c_inSeat {s : Int} (hR : Cu S G c) (hs : 0 ≤ s ∧ s < 5) (h : Q (inSt S c s) G) : Ct (d + 1) M_X12_inSeat NT 0 0 (some lay) [(2, 311), (0, s)] G Q := by
  have r := hR.rng
  have o := hR.on hs.1 hs.2
  unfold inSt at h
  refine ctof (s_X12_inSeat_0 (c_sitterOf hR hs ⟨by omega, fun c1 => ?_, fun c1 => ?_⟩))
  · rw [if_pos c1] at h
    exact h
  · rw [if_neg c1] at h
    have w := (hR.row (i := S (c + 2) s) (by omega) (by omega)).2.1
    have q := (hR.rok (i := S (c + 2) s) (by omega) (by omega)).2.1
    refine ⟨by omega, by omega, fun c2 => ?_, fun c2 => ?_⟩
    · rw [if_neg (by omega)] at h
      exact h
    · rw [if_pos (by omega)] at h
      exact h
theorem c_outNow {n : Nat} (hR : Cu S G c) (hn : S c 8 = n) (h : Q (outsf S 73 n) G) : Ct d M_X12_outNow NT 0 0 (some lay) [(2, 311)] G Q := by
  have r := hR.rng
  have e := hR.seats
  refine ctof (s_X12_outNow_0 ?_)
  have key : ∀ (k i : Nat), i + k = n → Rn d M_X12_outNow zN 4 [(0, (2, 311)), (1, (0, outsf S 73 i)), (2, (0, (i : Int)))] [] G Q := by
    intro k
    induction k with
    | zero =>
      intro i hi
      refine s_X12_outNow_4 ⟨by omega, by omega, fun _ => ?_, fun c1 => absurd (by omega) c1⟩
      rw [show i = n by omega]
      exact h
    | succ k ih =>
      intro i hi
      have w := (hR.row (i := (i : Int)) (by omega) (by omega)).2.1
      have q := (hR.rok (i := (i : Int)) (by omega) (by omega)).2.1
      have h2 := ih (i + 1) (by omega)
      simp only [outsf, show (73 : Int) + 2 = 75 from rfl] at h2
      refine s_X12_outNow_4 ⟨by omega, by omega, fun c1 => by omega, fun c1 => ⟨by omega, by omega, fun c2 => ?_, fun c2 => ?_⟩⟩
      · rw [if_pos (by omega)] at h2
        exact h2
      · rw [if_neg (by omega)] at h2
        exact h2
  exact key n 0 (by omega)
end REL
