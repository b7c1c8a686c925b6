section PASSBY
variable {d : Nat} {S G H : Mem} {Q : Int → Mem → Prop} {c : Int}
theorem StX.mk0 {n : Int} (h : ∀ i, 0 ≤ i → i < n → G 342 i = S 74 i ∧ G 342 (5 + i) = S 75 i ∧ ((G 342 (10 + i) = 0 ∧ S 76 i = -100) ∨ (1 ≤ G 342 (10 + i) ∧ G 342 (10 + i) = S 76 i + 1)) ∧ G 342 (15 + i) = S 77 i ∧ G 342 (20 + i) = S 78 i ∧ G 342 (25 + i) = S 79 i) (h2 : ∀ i, 0 ≤ i → i < 5 → G 342 (30 + i) = S 80 i) (h3 : G 342 110 = S 73 7 ∧ G 342 111 = S 73 8 ∧ G 342 112 = S 73 9 ∧ G 342 113 = S 73 10 ∧ G 342 114 = S 73 11) : StX S G 73 342 0 n := by
  unfold StX
  simp only [Int.zero_add, Int.reduceAdd]
  exact ⟨h, h2, h3⟩
theorem c_wakes {p : Int} (hp : 0 ≤ p ∧ p < 5) (h : Q 0 (st (st G 342 (10 + p) (G 342 110 + 1)) 342 111 (G 342 111 + 1))) : Ct d M_X12_wakes NT 0 0 (some lay) [(2, 311), (0, p)] G Q := by
  refine ctof (s_X12_wakes_0 ⟨by omega, fun G2 e2 G3 e3 => ?_⟩)
  have e : G2 342 111 = G 342 111 := by rw [e2, st_nk _ _ _ (by omega)]
  rw [e3, e, e2]
  exact h
/-- only the model's row is written, not where the tells stand -/
def RowF (G G' : Mem) : Prop := (∀ q k : Int, q ≠ 342 → G' q k = G q k) ∧ ∀ k, 35 ≤ k → k < 110 → G' 342 k = G 342 k
theorem RowF.rfl' : RowF G G := ⟨fun _ _ _ => rfl, fun _ _ _ => rfl⟩
theorem RowF.tr {G1 G2 : Mem} (h : RowF G G1) (h' : RowF G1 G2) : RowF G G2 := ⟨fun q k a => (h'.1 q k a).trans (h.1 q k a), fun k a b => (h'.2 k a b).trans (h.2 k a b)⟩
theorem Cu.row_to {S' G' : Mem} (h : Cu S G c) (e : ∀ q k : Int, ¬ (73 ≤ q ∧ q < 81) → S' q k = S q k) (hs : StOk S' 73) (ht : S' 73 7 = S 73 7) (hm : RowF G G') (hw : StX S' G' 73 342 0 (S c 8)) : Cu S' G' c :=
  h.st (CorC.of_st h.1 e) hs (by rw [ht]; exact h.2.2.2.1) (fun q k hq => hm.1 q k (by omega)) hw
theorem c_comesBy {w p y l : Int} (hR : Cu S G c) (hw : 0 ≤ w ∧ w < S c 8) (hp : S (c + 13 + w) 1 = p) (hy : InR y) (hl : l = 0 ∨ l = 1) (h : ∀ G', Cu (cbM S c w p y l) G' c → RowF G G' → Q (cbA S c w y l) G') : Ct (d + 2) M_X12_comesBy NT 0 0 (some lay) [(2, 311), (0, w), (0, y), (0, l)] G Q := by
  have r := hR.rng
  have sit := (hR.sit hw.1 hw.2).2.1
  have sok := (hR.sok hw.1 hw.2).2.1
  have nums := hR.nums
  have row := fun (i : Int) (i0 : 0 ≤ i) (i1 : i < S c 8) => hR.row i0 i1
  have rok := fun (i : Int) (i0 : 0 ≤ i) (i1 : i < 5) => hR.rok i0 i1
  have cup := fun (i : Int) (i0 : 0 ≤ i) (i1 : i < 5) => hR.cup i0 i1
  have tk := hR.tick
  unfold cbM cbA at h
  refine ctof (s_X12_comesBy_0 (c_isAsleep hR hw (fun ha => ⟨by omega, fun _ => ⟨hy, fun cy => ⟨by omega, fun cl => ⟨by omega, fun G10 e10 G11 e11 => ⟨by omega, ?_⟩⟩, fun cl => ?_⟩, fun cy => ⟨by omega, fun G18 e18 => ⟨by omega, fun cl G21 e21 => ⟨hl, ?_⟩, fun cl => ?_⟩⟩⟩, fun x => absurd (show (1 : Int) ≠ 0 by decide) x⟩) (fun ha => ⟨by omega, fun x => absurd rfl x, fun _ => ?_⟩)))
  · rw [if_pos ha, if_neg cy, if_neg (show ¬ (aslp S 73 c w (S 73 7) ∧ y = 0) from fun x => cy x.2), if_pos cl] at h
    have x6 : G11 316 w = p := by rw [e11, st_nq _ _ _ _ (by omega), e10, st_nq _ _ _ _ (by omega)]; omega
    rw [x6]
    refine ⟨by omega, fun G14 e14 => c_wakes (by omega) (h _ ?_ ?_)⟩
    · have ok := spillG_ok (w := w) (p := p) hR.2.2.1
      have g : ∀ k, st (st G14 342 (10 + w) (G14 342 110 + 1)) 342 111 (G14 342 111 + 1) 342 k = if k = 111 then G 342 111 + 1 else if k = 10 + w then G 342 110 + 1 else if k = 30 + p then 0 else if k = 113 then G 342 113 + 1 else if k = 20 + w then G 342 (20 + w) + 1 else G 342 k := by
        intro k
        have a1 : G14 342 110 = G 342 110 := by rw [e14, st_nk _ _ _ (by omega), e11, st_nk _ _ _ (by omega), e10, st_nk _ _ _ (by omega)]
        have a2 : G14 342 111 = G 342 111 := by rw [e14, st_nk _ _ _ (by omega), e11, st_nk _ _ _ (by omega), e10, st_nk _ _ _ (by omega)]
        have a3 : G10 342 113 = G 342 113 := by rw [e10, st_nk _ _ _ (by omega)]
        rw [a1, a2, e14, e11, a3, e10]
        simp only [st, true_and]
      refine hR.row_to (fun q k hq => spillG_fr (by omega)) ok.1 ok.2 ⟨fun q k hq => ?_, fun k k0 k1 => ?_⟩ (StX.mk0 (fun i i0 i1 => ?_) (fun i i0 i5 => ?_) ?_)
      · rw [st_nq _ _ _ _ hq, st_nq _ _ _ _ hq, e14, st_nq _ _ _ _ hq, e11, st_nq _ _ _ _ hq, e10, st_nq _ _ _ _ hq]
      · rw [g]; repeat' split
        all_goals first | rfl | omega
      · have x := row i i0 i1
        have y := row w hw.1 hw.2
        simp only [g, spillG_at, Int.reduceEq, true_and, false_and, and_true, and_false, reduceIte]
        refine ⟨?_, ?_, ?_, ?_, ?_, ?_⟩ <;> (repeat' split) <;> first | omega | (subst_vars; omega)
      · have x := cup i i0 i5
        simp only [g, spillG_at, Int.reduceEq, true_and, false_and, and_true, and_false, reduceIte]
        repeat' split
        all_goals omega
      · simp only [g, spillG_at, Int.reduceEq, true_and, false_and, and_true, and_false, reduceIte]
        refine ⟨?_, ?_, ?_, ?_, ?_⟩ <;> (repeat' split) <;> omega
    · refine ⟨fun q k hq => ?_, fun k k0 k1 => ?_⟩
      · rw [st_nq _ _ _ _ hq, st_nq _ _ _ _ hq, e14, st_nq _ _ _ _ hq, e11, st_nq _ _ _ _ hq, e10, st_nq _ _ _ _ hq]
      · rw [st_nk _ _ _ (by omega), st_nk _ _ _ (by omega), e14, st_nk _ _ _ (by omega), e11, st_nk _ _ _ (by omega), e10, st_nk _ _ _ (by omega)]
  · rw [if_pos ha, if_neg cy, if_neg (show ¬ (aslp S 73 c w (S 73 7) ∧ y = 0) from fun x => cy x.2), if_neg cl] at h
    exact h G hR RowF.rfl'
  · rw [if_pos ha, if_pos (by omega), if_pos ⟨ha, by omega⟩] at h
    have ok := askG_ok (w := w) (l := l) hR.2.2.1
    have g : ∀ k, G21 342 k = if k = 112 then G 342 112 + 1 else if k = 15 + w then G 342 (15 + w) + 1 else G 342 k := by
      intro k
      have a3 : G18 342 112 = G 342 112 := by rw [e18, st_nk _ _ _ (by omega)]
      rw [e21, a3, e18]
      simp only [st, true_and]
    have rf : RowF G G21 := ⟨fun q k hq => by rw [e21, st_nq _ _ _ _ hq, e18, st_nq _ _ _ _ hq], fun k k0 k1 => by rw [e21, st_nk _ _ _ (by omega), e18, st_nk _ _ _ (by omega)]⟩
    refine h G21 (hR.row_to (fun q k hq => askG_fr (by omega)) ok.1 ok.2 rf (StX.mk0 (fun i i0 i1 => ?_) (fun i i0 i5 => ?_) ?_)) rf
    · have x := row i i0 i1
      have y := row w hw.1 hw.2
      simp only [g, askG_at, cl, Int.reduceEq, true_and, false_and, and_true, and_false, reduceIte]
      refine ⟨?_, ?_, ?_, ?_, ?_, ?_⟩ <;> (repeat' split) <;> first | omega | (subst_vars; omega)
    · have x := cup i i0 i5
      simp only [g, askG_at, cl, Int.reduceEq, true_and, false_and, and_true, and_false, reduceIte]
      repeat' split
      all_goals omega
    · simp only [g, askG_at, cl, Int.reduceEq, true_and, false_and, and_true, and_false, reduceIte]
      refine ⟨?_, ?_, ?_, ?_, ?_⟩ <;> (repeat' split) <;> omega
  · rw [if_pos ha, if_pos (by omega), if_pos ⟨ha, by omega⟩] at h
    have ok := askG_ok (w := w) (l := l) hR.2.2.1
    refine c_wakes (by omega) ⟨hl, ?_⟩
    have g : ∀ k, st (st G18 342 (10 + w) (G18 342 110 + 1)) 342 111 (G18 342 111 + 1) 342 k = if k = 111 then G 342 111 + 1 else if k = 10 + w then G 342 110 + 1 else if k = 15 + w then G 342 (15 + w) + 1 else G 342 k := by
      intro k
      have a1 : G18 342 110 = G 342 110 := by rw [e18, st_nk _ _ _ (by omega)]
      have a2 : G18 342 111 = G 342 111 := by rw [e18, st_nk _ _ _ (by omega)]
      rw [a1, a2, e18]
      simp only [st, true_and]
    have rf : RowF G (st (st G18 342 (10 + w) (G18 342 110 + 1)) 342 111 (G18 342 111 + 1)) := ⟨fun q k hq => by rw [st_nq _ _ _ _ hq, st_nq _ _ _ _ hq, e18, st_nq _ _ _ _ hq], fun k k0 k1 => by rw [st_nk _ _ _ (by omega), st_nk _ _ _ (by omega), e18, st_nk _ _ _ (by omega)]⟩
    refine h _ (hR.row_to (fun q k hq => askG_fr (by omega)) ok.1 ok.2 rf (StX.mk0 (fun i i0 i1 => ?_) (fun i i0 i5 => ?_) ?_)) rf
    · have x := row i i0 i1
      have y := row w hw.1 hw.2
      simp only [g, askG_at, cl, Int.reduceEq, true_and, false_and, and_true, and_false, reduceIte]
      refine ⟨?_, ?_, ?_, ?_, ?_, ?_⟩ <;> (repeat' split) <;> first | omega | (subst_vars; omega)
    · have x := cup i i0 i5
      simp only [g, askG_at, cl, Int.reduceEq, true_and, false_and, and_true, and_false, reduceIte]
      repeat' split
      all_goals omega
    · simp only [g, askG_at, cl, Int.reduceEq, true_and, false_and, and_true, and_false, reduceIte]
      refine ⟨?_, ?_, ?_, ?_, ?_⟩ <;> (repeat' split) <;> omega
  · rw [if_neg ha, if_neg (fun x => ha x.1)] at h
    exact h G hR RowF.rfl'
end PASSBY
