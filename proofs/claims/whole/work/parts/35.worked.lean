section WORKED
variable {d : Nat} {G : Mem} {Q : Int → Mem → Prop}
def sumV (b s t : Int) : Int := if b = 21 then wr (s - t) else wr (s + t)
def testV (a h s : Int) : Int := if a = 24 then (if h < s then 1 else 0) else if a = 25 then (if h = s then 1 else 0) else s
def keptV (b k v : Int) : Int := if b = 26 then (if k ≠ 0 ∧ v ≠ 0 then 1 else 0) else if b = 27 then (if k ≠ 0 ∨ v ≠ 0 then 1 else 0) else v
theorem sumV_in (b s t : Int) : InR (sumV b s t) := by
  unfold sumV
  split <;> exact wr_in _
theorem testV_in {a h s : Int} (hs : InR s) : InR (testV a h s) := by
  unfold testV
  split
  · split <;> omega
  · split
    · split <;> omega
    · exact hs
theorem keptV_in {b k v : Int} (hv : InR v) : InR (keptV b k v) := by
  unfold keptV
  split
  · split <;> omega
  · split
    · split <;> omega
    · exact hv
theorem c_opens {x : Int} (hx : 0 ≤ x ∧ x < 7) (h : ∀ G', G' 333 x = 0 → G' 335 x = 0 → G' 336 x = 0 → G' 337 x = 20 → G' 339 x = 0 → (∀ q k : Int, ¬ (k = x ∧ 333 ≤ q ∧ q ≤ 339) → G' q k = G q k) → Q 0 G') : Ct d M_X12_opens NT 0 0 (some lay) [(2, 311), (0, x)] G Q := by
  refine ctof (s_X12_opens_0 ⟨hx, fun G2 e2 G3 e3 G4 e4 G5 e5 G6 e6 => ?_⟩)
  subst e6 e5 e4 e3 e2
  refine h _ ?_ ?_ ?_ ?_ ?_ (fun q k hq => ?_)
  · simp (disch := omega) only [st_nq, st_same]
  · simp (disch := omega) only [st_nq, st_same]
  · simp (disch := omega) only [st_nq, st_same]
  · simp (disch := omega) only [st_nq, st_same]
  · simp (disch := omega) only [st_nq, st_same]
  · rw [st_ne _ _ (by omega), st_ne _ _ (by omega), st_ne _ _ (by omega), st_ne _ _ (by omega), st_ne _ _ (by omega)]
theorem c_sums {x : Int} (hx : 0 ≤ x ∧ x < 7) (hi : InR (G 337 x)) (h : Q 0 (st (st G 336 x (sumV (G 337 x) (G 336 x) (G 338 x))) 339 x 0)) : Ct d M_X12_sums NT 0 0 (some lay) [(2, 311), (0, x)] G Q := by
  unfold sumV at h
  refine ctof (s_X12_sums_0 ⟨hx, hi, fun c G4 e4 G5 e5 => ?_, fun c G4 e4 G5 e5 => ?_⟩)
  · rw [if_neg c] at h
    rw [e5, e4]; exact h
  · rw [if_pos (Decidable.not_not.mp c)] at h
    rw [e5, e4]; exact h
def tstV (G : Mem) (x : Int) : Int := testV (G 335 x) (G 334 x) (sumV (G 337 x) (G 336 x) (G 338 x))
theorem c_tests {x : Int} (hx : 0 ≤ x ∧ x < 7) (i1 : InR (G 337 x)) (i2 : InR (G 335 x)) (i3 : G 335 x ≠ 0 → InR (G 334 x)) (i4 : InR (G 333 x)) (i5 : G 333 x ≠ 0 → InR (G 332 x)) (h : ∀ G', G' 332 x = keptV (G 333 x) (G 332 x) (tstV G x) → G' 335 x = 0 → G' 336 x = 0 → G' 337 x = 20 → G' 339 x = 0 → (∀ q k : Int, ¬ (k = x ∧ (q = 332 ∨ q = 335 ∨ q = 336 ∨ q = 337 ∨ q = 339)) → G' q k = G q k) → Q 0 G') : Ct (d + 1) M_X12_tests NT 0 0 (some lay) [(2, 311), (0, x)] G Q := by
  refine ctof (s_X12_tests_0 (c_sums hx i1 ?_))
  generalize hG1 : st (st G 336 x (sumV (G 337 x) (G 336 x) (G 338 x))) 339 x 0 = G1
  have g : ∀ q k : Int, ¬ (k = x ∧ (q = 336 ∨ q = 339)) → G1 q k = G q k := fun q k hq => by rw [← hG1, st_ne _ _ (by omega), st_ne _ _ (by omega)]
  have gs : G1 336 x = sumV (G 337 x) (G 336 x) (G 338 x) := by rw [← hG1, st_nq _ _ _ _ (by omega), st_same]
  have gt : G1 339 x = 0 := by rw [← hG1, st_same]
  have g5 : G1 335 x = G 335 x := g _ _ (by omega)
  have g4 : G1 334 x = G 334 x := g _ _ (by omega)
  have g3 : G1 333 x = G 333 x := g _ _ (by omega)
  have g2 : G1 332 x = G 332 x := g _ _ (by omega)
  have is := sumV_in (G 337 x) (G 336 x) (G 338 x)
  have it : InR (tstV G x) := testV_in is
  have L136 : ∀ v, v = keptV (G 333 x) (G 332 x) (tstV G x) → Rn (d + 1) M_X12_tests zN 136 [(0, (2, 311)), (1, (0, x)), (2, (0, v))] [] G1 Q := by
    intro v hv
    refine s_X12_tests_136 ⟨hx, fun G2 e2 G3 e3 G4 e4 G5 e5 => ?_⟩
    have iv : InR v := by rw [hv]; exact keptV_in it
    rw [wr_id iv, hv] at e2
    subst e5 e4 e3 e2
    refine h _ ?_ ?_ ?_ ?_ ?_ (fun q k hq => ?_)
    · simp (disch := omega) only [st_nq, st_same]
    · simp (disch := omega) only [st_nq, st_same]
    · simp (disch := omega) only [st_nq, st_same]
    · simp (disch := omega) only [st_nq, st_same]
    · simp (disch := omega) only [st_nq]; exact gt
    · rw [st_ne _ _ (by omega), st_ne _ _ (by omega), st_ne _ _ (by omega), st_ne _ _ (by omega)]; exact g _ _ (by omega)
  have L106 : ∀ v, (G 333 x = 27 → v = tstV G x) → (G 333 x ≠ 27 → v = keptV (G 333 x) (G 332 x) (tstV G x)) → Rn (d + 1) M_X12_tests zN 106 [(0, (2, 311)), (1, (0, x)), (2, (0, v))] [] G1 Q := by
    intro v h1 h2
    refine s_X12_tests_106 ⟨hx, by omega, fun c => L136 v (h2 (by omega)), fun c => ⟨by rw [g2]; exact i5 (by omega), fun c2 => L136 1 ?_, fun c2 => ⟨by rw [h1 (by omega)]; exact it, fun c3 => L136 0 ?_, fun c3 => L136 1 ?_⟩⟩⟩
    · unfold keptV
      rw [if_neg (by omega), if_pos (by omega), if_pos (by omega)]
    · have := h1 (by omega)
      unfold keptV
      rw [if_neg (by omega), if_pos (by omega), if_neg (by omega)]
    · have := h1 (by omega)
      unfold keptV
      rw [if_neg (by omega), if_pos (by omega), if_pos (by omega)]
  have L76 : ∀ v, v = tstV G x → Rn (d + 1) M_X12_tests zN 76 [(0, (2, 311)), (1, (0, x)), (2, (0, v))] [] G1 Q := by
    intro v h1
    refine s_X12_tests_76 ⟨hx, by omega, fun c => L106 v (fun _ => h1) (fun c2 => ?_), fun c => ⟨by rw [g2]; exact i5 (by omega), fun c2 => L106 0 (fun c3 => by omega) (fun _ => ?_), fun c2 => ⟨by rw [h1]; exact it, fun c3 => L106 0 (fun c4 => by omega) (fun _ => ?_), fun c3 => L106 1 (fun c4 => by omega) (fun _ => ?_)⟩⟩⟩
    · unfold keptV
      rw [if_neg (by omega), if_neg c2, h1]
    · unfold keptV
      rw [if_pos (by omega), if_neg (by omega)]
    · unfold keptV
      rw [if_pos (by omega), if_neg (by omega)]
    · unfold keptV
      rw [if_pos (by omega), if_pos (by omega)]
  have L44 : ∀ v, (G 335 x ≠ 25 → v = tstV G x) → Rn (d + 1) M_X12_tests zN 44 [(0, (2, 311)), (1, (0, x)), (2, (0, v))] [] G1 Q := by
    intro v h1
    refine s_X12_tests_44 ⟨hx, by omega, fun c => L76 v (h1 (by omega)), fun c => ⟨by rw [g4]; exact i3 (by omega), by rw [gs]; exact is, fun c2 => L76 0 ?_, fun c2 => L76 1 ?_⟩⟩
    · unfold tstV testV
      rw [if_neg (by omega), if_pos (by omega), if_neg (by rw [← g4, ← gs]; exact c2)]
    · unfold tstV testV
      rw [if_neg (by omega), if_pos (by omega), if_pos (by rw [← g4, ← gs]; exact Decidable.not_not.mp c2)]
  refine ⟨hx, by omega, fun c => L44 _ (fun c2 => ?_), fun c => ⟨by rw [g4]; exact i3 (by omega), by rw [gs]; exact is, fun c2 => L44 0 (fun _ => ?_), fun c2 => L44 1 (fun _ => ?_)⟩⟩
  · unfold tstV testV
    rw [if_neg (by omega), if_neg c2, gs]
  · unfold tstV testV
    rw [if_pos (by omega), if_neg (by rw [← g4, ← gs]; omega)]
  · unfold tstV testV
    rw [if_pos (by omega), if_pos (by rw [← g4, ← gs]; omega)]
end WORKED
