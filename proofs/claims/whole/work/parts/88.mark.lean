section MARK
variable {d : Nat} {S S' G G' H : Mem} {Q : Int → Mem → Prop} {c : Int} {fs : Int → Law}
/-- the answer, and all stands, whatever cabin there is now -/
def OkX (v : Int) : Int → Mem → Prop := fun v2 G2 => v = v2 ∧ ∃ c fs, Inv0 G2 G2 c fs ∧ RkC G2 c fs
theorem Ok2.okx {v v2 : Int} {G2 : Mem} (hI : Inv0 G G c fs) (hK : RkC G c fs) (h : Ok2 c fs G v v2 G2) : OkX v v2 G2 := ⟨h.1, c, fs, h.2.1, hK.ext hI.2.1.2.1 h.2.2⟩
theorem Ok3.okx {v v2 : Int} {G2 : Mem} (h : Ok3 c fs v v2 G2) : OkX v v2 G2 := ⟨h.1, c, fs, h.2⟩
/-! a place that holds a cabin, a state and what was told of it -/
def LwEq (S S' : Mem) (c c' : Int) : Prop := S' (c' + 6) 6 = S (c + 6) 6 ∧ (∀ j, 8 ≤ j → j ≤ 10 → ∀ i, 0 ≤ i → i < 3 → S' (c' + j) i = S (c + j) i) ∧ ∀ i, 0 ≤ i → i < S (c + 6) 6 → S' (c' + 11) i = S (c + 11) i
def LnEq (G G' : Mem) (r r' : Int) : Prop := (∀ l, 0 ≤ l → l < 3 → G' 327 (3 * r' + l) = G 327 (3 * r + l) + 1000 * (r' - r) ∧ G' 328 (3 * r' + l) = G 328 (3 * r + l) + 1000 * (r' - r)) ∧ ∀ k, 0 ≤ k → k < 1000 → G' 329 (1000 * r' + k) = G 329 (1000 * r + k)
theorem LawsR.mv {c' r r' : Int} (h : LawsR S G c r fs) (e : LwEq S S' c c') (f : LnEq G G' r r') : LawsR S' G' c' r' fs := by
  obtain ⟨e6, ej, e11⟩ := e
  obtain ⟨f1, f2⟩ := f
  refine ⟨by rw [e6]; exact h.1, fun l l0 l3 => ?_⟩
  have x := h.2 l l0 l3
  unfold LawR at x ⊢
  rw [e6, ej 8 (by omega) (by omega) l l0 l3, ej 9 (by omega) (by omega) l l0 l3, ej 10 (by omega) (by omega) l l0 l3, (f1 l l0 l3).1, (f1 l l0 l3).2]
  rcases x with ⟨x1, x2, x3⟩ | ⟨x1, ts, ps, x2, x3, x4, x5, x6, x7, x8, x9, x10⟩
  · exact Or.inl ⟨x1, by omega, by omega⟩
  · refine Or.inr ⟨x1, ts, ps, x2, x3, x4, x5, At_ext ps _ (fun k k0 k1 => (e11 k (by omega) (by omega)).symm) x6, by omega, by omega, by omega, ?_⟩
    refine At_shift ts _ (fun k k0 k1 => ?_) x10
    have y := f2 (k - 1000 * r) (by omega) (by omega)
    rw [show 1000 * r + (k - 1000 * r) = k by omega, show 1000 * r' + (k - 1000 * r) = k + 1000 * (r' - r) by omega] at y
    exact y.symm
def SlR (S G : Mem) (fs : Int → Law) (c r b A o t : Int) : Prop := CbOk S c ∧ CabR S G c r ∧ LawsR S G c r fs ∧ StOk S b ∧ S b 7 ≤ S c 7 ∧ StX S G b A o (S c 8) ∧ TlX S G t A o
def TlEq (S S' : Mem) (t t' : Int) : Prop := ∀ j k : Int, 1 ≤ j → j ≤ 4 → 0 ≤ k → k < 60 → (j ≤ 3 → k < 5) → S' (t' + j) k = S (t + j) k
theorem SlR.cp {c' r r' b b' A A' o o' t t' : Int} (h : SlR S G fs c r b A o t) (e1 : CbEq S S' c c') (e2 : LwEq S S' c c') (e3 : StEq S S' b b') (e4 : TlEq S S' t t') (f1 : RwEq G G' r r') (f2 : LnEq G G' r r') (f3 : ∀ k, 0 ≤ k → k < 116 → G' A' (o' + k) = G A (o + k)) : SlR S' G' fs c' r' b' A' o' t' := by
  obtain ⟨h1, h2, h3, h4, h5, h6, h7⟩ := h
  have m := h1.2.2.1
  have a7 := e1.1 7 (by omega) (by omega)
  have a8 := e1.1 8 (by omega) (by omega)
  have b7 := e3.1 7 (by omega) (by omega)
  refine ⟨h1.cp e1, h2.cp m e1 f1, h3.mv e2 f2, h4.cp e3, by omega, ?_, h7.cp e4 (fun k k0 k1 => f3 k (by omega) (by omega))⟩
  rw [a8]
  exact h6.cp m.2 e3 ⟨fun k k0 k1 => f3 k k0 (by omega), fun k k0 k1 => f3 k (by omega) (by omega)⟩
theorem MkR.at {i : Int} (h : MkR S G) (i0 : 0 ≤ i) (i4 : i < 4) : S 183 i = G 362 i ∧ (G 362 i = 0 ∨ G 362 i = 1) ∧ (G 362 i = 1 → ∃ fs, SlR S G fs (187 + 31 * i) (2 + i) (205 + 31 * i) 343 (116 * i) (213 + 31 * i)) := h i i0 i4
theorem Inv0.sl (h : Inv0 S G c fs) : SlR S G fs c 0 73 342 0 81 := ⟨h.2.1.2.1, h.2.1.2.2.2.2.1, h.2.2.1, h.2.1.2.2.1, h.2.1.2.2.2.1, h.2.1.2.2.2.2.2, h.2.2.2.2.1⟩
/-! the class takes over -/
theorem cls3 {Ga Gb Gc : Mem} {t p t1 p1 t2 p2 : Int} (h1 : CbCp G Ga t p) (h2 : StCp Ga Gb t1 p1) (h3 : TlCp Gb Gc t2 p2) (a1 : t + 18 ≤ t1) (a2 : t1 + 8 ≤ t2) (b1 : p1 + 8 ≤ t ∨ t + 18 ≤ p1) (b2 : p2 + 5 ≤ t ∨ t + 18 ≤ p2) (b3 : p2 + 5 ≤ t1 ∨ t1 + 8 ≤ p2) (hm : G (p + 6) 6 ≤ 1000) :
    CbEq G Gc p t ∧ LwEq G Gc p t ∧ StEq G Gc p1 t1 ∧ TlEq G Gc p2 t2 ∧ ∀ q k : Int, ¬ (t ≤ q ∧ q < t + 18) → ¬ (t1 ≤ q ∧ q < t1 + 8) → ¬ (t2 ≤ q ∧ q < t2 + 5) → Gc q k = G q k := by
  obtain ⟨x1, x2, x3, x4, x5, x6, x7, x8, x9⟩ := h1
  obtain ⟨y1, y2, y3⟩ := h2
  obtain ⟨z1, z2, z3⟩ := h3
  have up : ∀ q k : Int, t ≤ q → q < t + 18 → Gc q k = Ga q k := fun q k q0 q1 => (z3 q k (by omega)).trans (y3 q k (by omega))
  refine ⟨⟨fun k k0 k1 => (up _ _ (by omega) (by omega)).trans (x1 k k0 k1), fun i i0 i5 => ⟨(up _ _ (by omega) (by omega)).trans (x2 2 (by omega) (by omega) i i0 i5), (up _ _ (by omega) (by omega)).trans (x2 3 (by omega) (by omega) i i0 i5)⟩, fun i i0 i1 => (up _ _ (by omega) (by omega)).trans (x3 i i0 i1), fun i i0 i1 => (up _ _ (by omega) (by omega)).trans (x4 i i0 i1), fun i k i0 i5 k0 k8 => (up _ _ (by omega) (by omega)).trans (x5 i i0 i5 k k0 k8)⟩,
    ⟨(up _ _ (by omega) (by omega)).trans x6, fun j j0 j1 i i0 i3 => (up _ _ (by omega) (by omega)).trans (x7 j j0 j1 i i0 i3), fun i i0 i1 => (up _ _ (by omega) (by omega)).trans (x8 i i0 i1)⟩,
    ⟨fun k k0 k1 => (z3 _ _ (by omega)).trans ((y1 k k0 k1).trans (x9 _ _ (by omega))), fun j j0 j1 i i0 i5 => (z3 _ _ (by omega)).trans ((y2 j j0 j1 i i0 i5).trans (x9 _ _ (by omega)))⟩, fun j k j0 j1 k0 k1 j3 => ?_, fun q k n1 n2 n3 => (z3 q k n3).trans ((y3 q k n2).trans (x9 q k n1))⟩
  have dn : ∀ k, Gb (p2 + j) k = G (p2 + j) k := fun k => (y3 _ _ (by omega)).trans (x9 _ _ (by omega))
  by_cases hj : j ≤ 3
  · exact (z1 j j0 hj k k0 (j3 hj)).trans (dn k)
  · obtain rfl : j = 4 := by omega
    exact (z2 k k0 k1).trans (dn k)
/-! the model lays a cabin elsewhere -/
def lysz (q : Int) : Int := if q = 313 then 12 else if q = 329 then 1000 else if q < 315 ∨ 326 < q then 0 else if q < 325 then 5 else 8
def lyT (a b t : Int) (G : Mem) : Mem := fun q k => if q < t ∧ lysz q * b ≤ k ∧ k < lysz q * b + lysz q then G q (k - lysz q * b + lysz q * a) else G q k
theorem c_mv {a b t n : Int} {L : Nat} (ht : Ar NT t 0 L) (hn : lysz t = n) (n0 : 0 ≤ n ∧ n ≤ 1000) (ha : 0 ≤ n * a ∧ n * a + n ≤ L) (hb : 0 ≤ n * b ∧ n * b + n ≤ L) (hd : n * a + n ≤ n * b ∨ n * b + n ≤ n * a) (h : Q 0 (lyT a b (t + 1) G)) : Ct d M_X12_moves NT 0 0 (some lay) [(2, t), (0, n), (0, a), (0, b)] (lyT a b t G) Q := by
  obtain ⟨N, rfl⟩ := Int.eq_ofNat_of_zero_le n0.1
  refine ctof (s_X12_moves_0 ht ?_)
  have key : ∀ (k i : Nat) (G1 : Mem), i + k = N → G1 = cpy (lyT a b t G) t ((N : Int) * a) t ((N : Int) * b) i → Rn d M_X12_moves zN 3 [(0, (2, t)), (1, (0, (N : Int))), (2, (0, a)), (3, (0, b)), (4, (0, (i : Int)))] [] G1 Q := by
    intro k
    induction k with
    | zero =>
      intro i G1 hi e
      refine s_X12_moves_3 ht ⟨by omega, by omega, fun _ => ?_, fun x => absurd (by omega) x⟩
      have e2 : G1 = lyT a b (t + 1) G := by
        rw [e, show i = N by omega]
        funext q k
        unfold cpy lyT
        by_cases hq : q = t
        · subst hq
          rw [hn]
          by_cases hk : (N : Int) * b ≤ k ∧ k < (N : Int) * b + N
          · rw [if_pos ⟨rfl, hk⟩, if_neg (by omega), if_pos ⟨by omega, hk⟩]
            congr 1
            omega
          · rw [if_neg (fun z => hk z.2), if_neg (by omega), if_neg (fun z => hk z.2)]
        · rw [if_neg (fun z => hq z.1)]
          by_cases hk : q < t ∧ lysz q * b ≤ k ∧ k < lysz q * b + lysz q
          · rw [if_pos hk, if_pos ⟨by omega, hk.2⟩]
          · rw [if_neg hk, if_neg (fun z => hk ⟨by omega, z.2⟩)]
      rw [e2]; exact h
    | succ k ih =>
      intro i G1 hi e
      refine s_X12_moves_3 ht ⟨by omega, by omega, fun x => absurd x (by omega), fun _ => ⟨by omega, by omega, fun G5 e5 => ih (i + 1) G5 (by omega) ?_⟩⟩
      have rd : cpy (lyT a b t G) t ((N : Int) * a) t ((N : Int) * b) i t ((N : Int) * a + (i : Int)) = lyT a b t G t ((N : Int) * a + (i : Int)) := cpy_out _ _ _ (by omega)
      rw [e5, e, rd]
      funext x y
      simp only [st, cpy]
      by_cases hx : x = t
      · by_cases hy : y = (N : Int) * b + (i : Int)
        · rw [if_pos ⟨hx, hy⟩, if_pos ⟨hx, by omega, by omega⟩, show (N : Int) * a + (y - (N : Int) * b) = (N : Int) * a + (i : Int) by omega]
        · rw [if_neg (fun z => hy z.2)]
          by_cases hz : (N : Int) * b ≤ y ∧ y < (N : Int) * b + (i : Int)
          · rw [if_pos ⟨hx, hz.1, hz.2⟩, if_pos ⟨hx, by omega, by omega⟩]
          · rw [if_neg (fun z => hz z.2), if_neg (fun z => hz ⟨z.2.1, by omega⟩)]
      · rw [if_neg (fun z => hx z.1), if_neg (fun z => hx z.1), if_neg (fun z => hx z.1)]
  refine key N 0 _ (by omega) ?_
  funext x y
  unfold cpy
  rw [if_neg (by omega)]
theorem lyT_skip {a b t : Int} (h : lysz t = 0) : lyT a b (t + 1) G = lyT a b t G := by
  funext q k
  unfold lyT
  by_cases hq : q = t
  · subst hq
    rw [h, if_neg (by omega), if_neg (by omega)]
  · by_cases hk : q < t ∧ lysz q * b ≤ k ∧ k < lysz q * b + lysz q
    · rw [if_pos hk, if_pos ⟨by omega, hk.2⟩]
    · rw [if_neg hk, if_neg (fun z => hk ⟨by omega, z.2⟩)]
/-- outside the row laid nothing changes -/
def LyF (b : Int) (G G' : Mem) : Prop := ∀ q k : Int, ¬ (q = 313 ∧ 12 * b ≤ k ∧ k < 12 * b + 12) → ¬ (315 ≤ q ∧ q ≤ 324 ∧ 5 * b ≤ k ∧ k < 5 * b + 5) → ¬ (325 ≤ q ∧ q ≤ 326 ∧ 8 * b ≤ k ∧ k < 8 * b + 8) → ¬ (327 ≤ q ∧ q ≤ 328 ∧ 3 * b ≤ k ∧ k < 3 * b + 3) → ¬ (q = 329 ∧ 1000 * b ≤ k ∧ k < 1000 * b + 1000) → G' q k = G q k
theorem c_lays {a b : Int} (ha : 0 ≤ a ∧ a ≤ 5) (hb : 0 ≤ b ∧ b ≤ 5) (hd : a ≠ b) (h : ∀ G', RwEq G G' a b → LnEq G G' a b → LyF b G G' → Q 0 G') : Ct (d + 2) M_X12_lays NT 0 0 (some lay) [(2, 311), (0, a), (0, b)] G Q := by
  have i0 : lyT a b 313 G = G := by
    funext q k
    unfold lyT
    by_cases hq : q < 313
    · have z : lysz q = 0 := by unfold lysz; rw [if_neg (by omega), if_neg (by omega), if_pos (by omega)]
      rw [z, if_neg (by omega)]
    · rw [if_neg (by omega)]
  have s5 : ∀ q : Int, 315 ≤ q → q ≤ 324 → lysz q = 5 := fun q q0 q1 => by unfold lysz; rw [if_neg (by omega), if_neg (by omega), if_neg (by omega), if_pos (by omega)]
  have s8 : ∀ q : Int, 325 ≤ q → q ≤ 326 → lysz q = 8 := fun q q0 q1 => by unfold lysz; rw [if_neg (by omega), if_neg (by omega), if_neg (by omega), if_neg (by omega)]
  have L147 : ∀ G27, G27 = lyT a b 330 G → Rn (d + 2) M_X12_lays zN 147 [(0, (2, 311)), (1, (0, a)), (2, (0, b)), (3, (0, 0))] [] G27 Q := by
    intro G27 e27
    have key : ∀ (n i : Nat) (G1 : Mem), i + n = 3 → (∀ l, 0 ≤ l → l < (i : Int) → G1 327 (3 * b + l) = G 327 (3 * a + l) + 1000 * (b - a) ∧ G1 328 (3 * b + l) = G 328 (3 * a + l) + 1000 * (b - a)) → (∀ q k : Int, ¬ (327 ≤ q ∧ q ≤ 328 ∧ 3 * b ≤ k ∧ k < 3 * b + 3) → G1 q k = G27 q k) → Rn (d + 2) M_X12_lays zN 147 [(0, (2, 311)), (1, (0, a)), (2, (0, b)), (3, (0, (i : Int)))] [] G1 Q := by
      intro n
      induction n with
      | zero =>
        intro i G1 hi h1 h2
        refine s_X12_lays_147 ⟨by omega, fun _ => h G1 ⟨fun k k0 k1 => ?_, fun q i q0 q1 i0 i1 => ?_, fun q i q0 q1 i0 i1 => ?_⟩ ⟨fun l l0 l3 => h1 l l0 (by omega), fun k k0 k1 => ?_⟩ (fun q k n1 n2 n3 n4 n5 => ?_), fun x => absurd (by omega) x⟩
        · rw [h2 _ _ (by omega), e27]; unfold lyT
          rw [show lysz 313 = 12 from rfl, if_pos (by omega)]; congr 1; omega
        · rw [h2 _ _ (by omega), e27]; unfold lyT
          rw [s5 q q0 q1, if_pos (by omega)]; congr 1; omega
        · rw [h2 _ _ (by omega), e27]; unfold lyT
          rw [s8 q q0 q1, if_pos (by omega)]; congr 1; omega
        · rw [h2 _ _ (by omega), e27]; unfold lyT
          rw [show lysz 329 = 1000 from rfl, if_pos (by omega)]; congr 1; omega
        · rw [h2 _ _ n4, e27]; unfold lyT
          refine if_neg (fun z => ?_)
          obtain ⟨z0, z1, z2⟩ := z
          unfold lysz at z1 z2
          by_cases c1 : q = 313
          · rw [if_pos c1] at z1 z2; omega
          · rw [if_neg c1] at z1 z2
            by_cases c2 : q = 329
            · rw [if_pos c2] at z1 z2; omega
            · rw [if_neg c2] at z1 z2
              by_cases c3 : q < 315 ∨ 326 < q
              · rw [if_pos c3] at z1 z2; omega
              · rw [if_neg c3] at z1 z2
                by_cases c4 : q < 325
                · rw [if_pos c4] at z1 z2; omega
                · rw [if_neg c4] at z1 z2; omega
      | succ n ih =>
        intro i G1 hi h1 h2
        refine s_X12_lays_147 ⟨by omega, fun x => absurd x (by omega), fun _ => ⟨by omega, by omega, fun G5 e5 G6 e6 => ?_⟩⟩
        have g27 : ∀ q k : Int, 327 ≤ q → q ≤ 328 → G27 q k = G q k := fun q k q0 q1 => by
          rw [e27]; unfold lyT
          have z : lysz q = 0 := by unfold lysz; rw [if_neg (by omega), if_neg (by omega), if_pos (by omega)]
          rw [z, if_neg (by omega)]
        have r7 : G1 327 (3 * a + (i : Int)) = G 327 (3 * a + (i : Int)) := by rw [h2 _ _ (by omega), g27 _ _ (by omega) (by omega)]
        have r8 : G5 328 (3 * a + (i : Int)) = G 328 (3 * a + (i : Int)) := by rw [e5, st_nq _ _ _ _ (by decide), h2 _ _ (by omega), g27 _ _ (by omega) (by omega)]
        rw [r7] at e5
        rw [r8] at e6
        refine ih (i + 1) G6 (by omega) (fun l l0 l1 => ?_) (fun q k hq => by rw [e6, st_ne _ _ (by omega), e5, st_ne _ _ (by omega)]; exact h2 q k hq)
        by_cases hl : l = (i : Int)
        · subst hl
          rw [e6, st_same, st_nq _ _ _ _ (by decide), e5, st_same]
          exact ⟨rfl, rfl⟩
        · have y := h1 l l0 (by omega)
          rw [← y.1, ← y.2]
          exact ⟨by rw [e6, st_nq _ _ _ _ (by decide), e5, st_nk _ _ _ (by omega)], by rw [e6, st_nk _ _ _ (by omega), e5, st_nq _ _ _ _ (by decide)]⟩
    exact key 3 0 G27 (by omega) (fun l a b => absurd b (by omega)) (fun _ _ _ => rfl)
  have A : ∀ q : Nat, 315 ≤ q → q ≤ 324 → Ar NT (q : Int) 0 30 := by
    intro q q0 q1
    have : ∀ j : Nat, j < 10 → Ar NT ((315 + j : Nat) : Int) 0 30 := by unfold Ar; decide +kernel
    have := this (q - 315) (by omega)
    rwa [show 315 + (q - 315) = q by omega] at this
  have a313 : Ar NT 313 0 72 := by unfold Ar; decide +kernel
  have a325 : Ar NT 325 0 48 := by unfold Ar; decide +kernel
  have a326 : Ar NT 326 0 48 := by unfold Ar; decide +kernel
  have a329 : Ar NT 329 0 6000 := by unfold Ar; decide +kernel
  have e314 : lyT a b (313 + 1) G = lyT a b 315 G := (lyT_skip (t := 314) (by decide)).symm
  have e327 : lyT a b (326 + 1) G = lyT a b 329 G := ((lyT_skip (t := 328) (by decide)).trans (lyT_skip (t := 327) (by decide))).symm
  have five : ∀ {t : Nat} {Q : Int → Mem → Prop}, 315 ≤ t → t ≤ 324 → Q 0 (lyT a b ((t : Int) + 1) G) → Ct (d + 1) M_X12_moves NT 0 0 (some lay) [(2, (t : Int)), (0, 5), (0, a), (0, b)] (lyT a b t G) Q := fun {t} {Q} t0 t1 hh => c_mv (A t t0 t1) (s5 _ (by omega) (by omega)) (by omega) (by omega) (by omega) (by omega) hh
  have go : Ct (d + 1) M_X12_moves NT 0 0 (some lay) [(2, 313), (0, 12), (0, a), (0, b)] (lyT a b 313 G) (fun r2 G1 => Ct (d + 1) M_X12_moves NT 0 0 (some lay) [(2, 315), (0, 5), (0, a), (0, b)] G1 (fun r4 G3 => Ct (d + 1) M_X12_moves NT 0 0 (some lay) [(2, 316), (0, 5), (0, a), (0, b)] G3 (fun r6 G5 => Ct (d + 1) M_X12_moves NT 0 0 (some lay) [(2, 317), (0, 5), (0, a), (0, b)] G5 (fun r8 G7 => Ct (d + 1) M_X12_moves NT 0 0 (some lay) [(2, 318), (0, 5), (0, a), (0, b)] G7 (fun r10 G9 => Ct (d + 1) M_X12_moves NT 0 0 (some lay) [(2, 319), (0, 5), (0, a), (0, b)] G9 (fun r12 G11 => Ct (d + 1) M_X12_moves NT 0 0 (some lay) [(2, 320), (0, 5), (0, a), (0, b)] G11 (fun r14 G13 => Ct (d + 1) M_X12_moves NT 0 0 (some lay) [(2, 321), (0, 5), (0, a), (0, b)] G13 (fun r16 G15 => Ct (d + 1) M_X12_moves NT 0 0 (some lay) [(2, 322), (0, 5), (0, a), (0, b)] G15 (fun r18 G17 => Ct (d + 1) M_X12_moves NT 0 0 (some lay) [(2, 323), (0, 5), (0, a), (0, b)] G17 (fun r20 G19 => Ct (d + 1) M_X12_moves NT 0 0 (some lay) [(2, 324), (0, 5), (0, a), (0, b)] G19 (fun r22 G21 => Ct (d + 1) M_X12_moves NT 0 0 (some lay) [(2, 325), (0, 8), (0, a), (0, b)] G21 (fun r24 G23 => Ct (d + 1) M_X12_moves NT 0 0 (some lay) [(2, 326), (0, 8), (0, a), (0, b)] G23 (fun r26 G25 => Ct (d + 1) M_X12_moves NT 0 0 (some lay) [(2, 329), (0, 1000), (0, a), (0, b)] G25 (fun r28 G27 => Rn (d + 2) M_X12_lays zN 147 [(0, (2, 311)), (1, (0, a)), (2, (0, b)), (3, (0, 0))] [] G27 Q)))))))))))))) := by
    refine c_mv a313 rfl (by omega) (by omega) (by omega) (by omega) ?_
    rw [e314]
    refine five (t := 315) (by omega) (by omega) (five (t := 316) (by omega) (by omega) (five (t := 317) (by omega) (by omega) (five (t := 318) (by omega) (by omega) (five (t := 319) (by omega) (by omega) (five (t := 320) (by omega) (by omega) (five (t := 321) (by omega) (by omega) (five (t := 322) (by omega) (by omega) (five (t := 323) (by omega) (by omega) (five (t := 324) (by omega) (by omega) ?_)))))))))
    refine c_mv (t := 325) a325 rfl (by omega) (by omega) (by omega) (by omega) ?_
    refine c_mv (t := 326) a326 rfl (by omega) (by omega) (by omega) (by omega) ?_
    rw [e327]
    refine c_mv (t := 329) a329 rfl (by omega) (by omega) (by omega) (by omega) ?_
    exact L147 _ rfl
  rw [i0] at go
  exact ctof (s_X12_lays_0 go)
end MARK
