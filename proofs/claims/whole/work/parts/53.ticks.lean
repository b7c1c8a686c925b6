section TICKS
variable {d : Nat} {S S' G G' H : Mem} {Q : Int → Mem → Prop} {c : Int} {fs : Int → Law}
def PassT (c : Int) (n : Nat) (S S1 : Mem) : Prop := ∃ G', PassR S G' 73 c (-1) n ∧ S1 = st G' 73 7 (S 73 7 + 1)
theorem PassT.at {n : Nat} {S1 : Mem} (h : PassT c n S S1) : S1 73 7 = S 73 7 + 1 ∧ S1 73 11 = S 73 11 + lateN S 73 c (-1) n ∧ (∀ j, 0 ≤ j → j < (n : Int) → S1 74 j = nneed S 73 c (-1) j ∧ S1 75 j = nout S 73 j ∧ S1 79 j = S 79 j + nlate S 73 c (-1) j) ∧ ∀ q k : Int, (q ≠ 74 ∧ q ≠ 75 ∧ q ≠ 79 ∨ k < 0 ∨ (n : Int) ≤ k) → (q ≠ 73 ∨ (k ≠ 7 ∧ k ≠ 11)) → S1 q k = S q k := by
  obtain ⟨G', ⟨p1, p2, p3⟩, e⟩ := h
  refine ⟨by rw [e, st_same], by rw [e, st_nk _ _ _ (by decide)]; exact p1, fun j j0 j1 => ?_, fun q k a b => ?_⟩
  · have x := p2 j j0 j1
    rw [e, st_nq _ _ _ _ (by decide), st_nq _ _ _ _ (by decide), st_nq _ _ _ _ (by decide)]
    exact x
  · rw [e, st_ne _ _ (by omega)]
    exact p3 q k a (by omega)
theorem PassT.cu {n : Nat} {S1 G1 : Mem} (hR : Cu S G c) (hn : S c 8 = n) (ht : S 73 7 < S c 7) (h : PassT c n S S1) (hm : PasM S G G1 c n) : Cu S1 (st G1 342 110 (G 342 110 + 1)) c ∧ RowF G (st G1 342 110 (G 342 110 + 1)) := by
  obtain ⟨t1, t2, t3, t4⟩ := h.at
  obtain ⟨m1, m2, m3, m4⟩ := hm
  have r := hR.rng
  have ap := st_cb_apart 73 (by decide) c hR.1.cb
  have cc : CorC c S S1 := fun q k q0 q1 _ _ => t4 q k (by omega) (by omega)
  have rf : RowF G (st G1 342 110 (G 342 110 + 1)) := ⟨fun q k hq => by rw [st_nq _ _ _ _ hq]; exact m1 q k hq, fun k a b => by rw [st_nk _ _ _ (by omega)]; exact m4 k (by omega) (by omega) (by omega) (by omega)⟩
  have nums := hR.nums
  refine ⟨hR.st cc ⟨by have := hR.tick; omega, fun i i0 i5 => ?_⟩ (by omega) (fun q k hq => rf.1 q k (by omega)) (StX.mk0 (fun i i0 i1 => ?_) (fun i i0 i5 => ?_) ?_), rf⟩
  · have x := hR.rok i0 i5
    unfold RwOk
    simp only [Int.reduceAdd]
    rw [t4 76 i (by omega) (by omega), t4 80 i (by omega) (by omega)]
    by_cases hi : i < (n : Int)
    · have sok := hR.sok i0 (by omega : i < S c 8)
      have gb := grow_bd sok (m := 0) (by omega)
      obtain ⟨y1, y2, -⟩ := t3 i i0 hi
      have nn : nneed S 73 c (-1) i = if S 75 i ≤ 0 then min 199 (S 74 i + grow S (c + 13 + i) 0) else S 74 i := by unfold nneed; rw [if_neg (show ¬ i = -1 by omega)]; rfl
      have no : nout S 73 i = if S 75 i ≤ 0 then S 75 i else if S 75 i = 1 then -1 else S 75 i - 1 := rfl
      rw [y1, y2, nn, no]
      refine ⟨?_, ?_, by omega, by omega, ?_⟩ <;> (repeat' split) <;> omega
    · rw [t4 74 i (by omega) (by omega), t4 75 i (by omega) (by omega)]
      exact x
  · have x := hR.row i0 i1
    rw [hn] at i1
    obtain ⟨y1, y2, y3⟩ := t3 i i0 i1
    obtain ⟨z1, z2, z3⟩ := m2 i i0 i1
    rw [st_nk _ _ _ (by omega), st_nk _ _ _ (by omega), st_nk _ _ _ (by omega), st_nk _ _ _ (by omega), st_nk _ _ _ (by omega), st_nk _ _ _ (by omega), z1, z2, z3, y1, y2, y3, t4 76 i (by omega) (by omega), t4 77 i (by omega) (by omega), t4 78 i (by omega) (by omega), m4 (10 + i) (by omega) (by omega) (by omega) (by omega), m4 (15 + i) (by omega) (by omega) (by omega) (by omega), m4 (20 + i) (by omega) (by omega) (by omega) (by omega)]
    exact ⟨rfl, rfl, x.2.2.1, x.2.2.2.1, x.2.2.2.2.1, rfl⟩
  · rw [st_nk _ _ _ (by omega), m4 (30 + i) (by omega) (by omega) (by omega) (by omega), t4 80 i (by omega) (by omega)]
    exact hR.cup i0 i5
  · rw [st_same, st_nk _ _ _ (by omega), st_nk _ _ _ (by omega), st_nk _ _ _ (by omega), st_nk _ _ _ (by omega), m3, t1, t2, m4 111 (by omega) (by omega) (by omega) (by omega), m4 112 (by omega) (by omega) (by omega) (by omega), m4 113 (by omega) (by omega) (by omega) (by omega), t4 73 8 (by omega) (by omega), t4 73 9 (by omega) (by omega), t4 73 10 (by omega) (by omega)]
    omega
end TICKS
