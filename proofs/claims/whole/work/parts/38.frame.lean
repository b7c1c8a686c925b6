section FRAME
/-! what the relations read -/
def CbEq (G G' : Mem) (c c' : Int) : Prop := (∀ k, 6 ≤ k → k ≤ 10 → G' c' k = G c k) ∧ (∀ i, 0 ≤ i → i < 5 → G' (c' + 2) i = G (c + 2) i ∧ G' (c' + 3) i = G (c + 3) i) ∧ (∀ i, 0 ≤ i → i < 72 → G' (c' + 4) i = G (c + 4) i) ∧ (∀ i, 0 ≤ i → i < 4 → G' (c' + 5) i = G (c + 5) i) ∧ (∀ i k, 0 ≤ i → i < 5 → 0 ≤ k → k ≤ 8 → G' (c' + 13 + i) k = G (c + 13 + i) k)
def RwEq (G G' : Mem) (r r' : Int) : Prop := (∀ k, 0 ≤ k → k < 12 → G' 313 (12 * r' + k) = G 313 (12 * r + k)) ∧ (∀ q i, 315 ≤ q → q ≤ 324 → 0 ≤ i → i < 5 → G' q (5 * r' + i) = G q (5 * r + i)) ∧ (∀ q i, 325 ≤ q → q ≤ 326 → 0 ≤ i → i < 8 → G' q (8 * r' + i) = G q (8 * r + i))
def StEq (G G' : Mem) (b b' : Int) : Prop := (∀ k, 7 ≤ k → k ≤ 11 → G' b' k = G b k) ∧ ∀ j, 1 ≤ j → j ≤ 7 → ∀ i, 0 ≤ i → i < 5 → G' (b' + j) i = G (b + j) i
def SrEq (G G' : Mem) (A o A' o' : Int) : Prop := (∀ k, 0 ≤ k → k < 35 → G' A' (o' + k) = G A (o + k)) ∧ ∀ k, 110 ≤ k → k ≤ 114 → G' A' (o' + k) = G A (o + k)
variable {S S' G G' : Mem} {c c' r r' b b' A A' o o' n : Int}
theorem SitOk.cp {q q' : Int} (h : SitOk G q) (e : ∀ k, 0 ≤ k → k ≤ 8 → G' q' k = G q k) : SitOk G' q' := by
  unfold SitOk at h ⊢
  rw [e 0 (by omega) (by omega), e 1 (by omega) (by omega), e 2 (by omega) (by omega), e 3 (by omega) (by omega), e 4 (by omega) (by omega), e 5 (by omega) (by omega), e 6 (by omega) (by omega), e 7 (by omega) (by omega), e 8 (by omega) (by omega)]
  exact h
theorem CbOk.cp (h : CbOk G c) (e : CbEq G G' c c') : CbOk G' c' := by
  obtain ⟨e1, e2, e4, e5, e6⟩ := e
  obtain ⟨h6, h7, h8, h9, h10, hs, ho, hc, ht, hp⟩ := h
  have a6 := e1 6 (by omega) (by omega)
  have a7 := e1 7 (by omega) (by omega)
  have a8 := e1 8 (by omega) (by omega)
  have a9 := e1 9 (by omega) (by omega)
  have a10 := e1 10 (by omega) (by omega)
  refine ⟨by omega, by omega, by omega, by omega, by omega, fun i i0 i1 => ?_, fun s s0 s5 => ?_, fun s s0 s5 => ?_, fun t t0 t1 => ?_, fun k k0 k4 => ?_⟩
  · rw [a8] at i1
    obtain ⟨s1, s2, s3⟩ := hs i i0 i1
    have q1 := e6 i 1 i0 (by omega) (by omega) (by omega)
    have q2 := s1.2.1
    refine ⟨s1.cp (fun k k0 k8 => e6 i k i0 (by omega) k0 k8), by omega, ?_⟩
    rw [q1, (e2 _ q2.1 q2.2).1]
    exact s3
  · rw [(e2 s s0 s5).1, a8]
    rcases ho s s0 s5 with x | ⟨x1, x2, x3⟩
    · exact Or.inl x
    · exact Or.inr ⟨x1, x2, by rw [e6 _ 1 x1 (by omega) (by omega) (by omega)]; exact x3⟩
  · rw [(e2 s s0 s5).2]; exact hc s s0 s5
  · rw [e4 t t0 t1]; exact ht t t0 t1
  · rw [e5 k k0 k4]; exact hp k k0 k4
theorem TldK.cp {k : Int} (e : RwEq G G' r r') : TldK G' r' k ↔ TldK G r k := by
  unfold TldK
  rw [e.1 9 (by omega) (by omega), e.1 10 (by omega) (by omega)]
theorem CabR.cp (h : CabR S G c r) (hm : 0 ≤ S c 8 ∧ S c 8 ≤ 5) (e : CbEq S S' c c') (f : RwEq G G' r r') : CabR S' G' c' r' := by
  have hT : ∀ k, TldK G' r' k ↔ TldK G r k := fun k => TldK.cp f
  obtain ⟨e1, e2, e4, e5, e6⟩ := e
  obtain ⟨f1, f2, f3⟩ := f
  obtain ⟨⟨h0, h1, h2, h7, h8⟩, hp, hs, hc, hn, hb, ht⟩ := h
  have a6 := e1 6 (by omega) (by omega)
  have a7 := e1 7 (by omega) (by omega)
  have a8 := e1 8 (by omega) (by omega)
  have a9 := e1 9 (by omega) (by omega)
  have a10 := e1 10 (by omega) (by omega)
  have b0 := f1 0 (by omega) (by omega)
  rw [Int.add_zero, Int.add_zero] at b0
  have b1 := f1 1 (by omega) (by omega)
  have b2 := f1 2 (by omega) (by omega)
  have b7 := f1 7 (by omega) (by omega)
  have b8 := f1 8 (by omega) (by omega)
  have b9 := f1 9 (by omega) (by omega)
  have b10 := f1 10 (by omega) (by omega)
  refine ⟨⟨by omega, by omega, by omega, by omega, by omega⟩, fun k k0 k4 => ?_, fun i i0 i1 => ?_, fun i i0 i5 => ?_, by omega, fun k k0 k8 hk => ?_, fun t t0 t1 => ?_⟩
  · have x := f1 (3 + k) (by omega) (by omega)
    rw [← Int.add_assoc, ← Int.add_assoc] at x
    rw [x, e5 k k0 k4]; exact hp k k0 k4
  · rw [a8] at i1
    have x := hs i i0 i1
    have y : ∀ k, 0 ≤ k → k ≤ 8 → S' (c' + 13 + i) k = S (c + 13 + i) k := fun k k0 k8 => e6 i k i0 (by omega) k0 k8
    have w : ∀ q, 315 ≤ q → q ≤ 324 → G' q (5 * r' + i) = G q (5 * r + i) := fun q q0 q1 => f2 q i q0 q1 i0 (by omega)
    simp (disch := omega) only [y, w]
    exact x
  · rw [f2 324 i (by omega) (by omega) i0 i5, (e2 i i0 i5).2]; exact hc i i0 i5
  · rw [f3 325 k (by omega) (by omega) k0 k8, f3 326 k (by omega) (by omega) k0 k8]
    exact hb k k0 k8 ((hT k).mp hk)
  · rw [e4 t t0 t1, ht t t0 t1]
    refine ⟨fun ⟨k, k0, k8, k1, k2⟩ => ⟨k, k0, k8, (hT k).mpr k1, ?_⟩, fun ⟨k, k0, k8, k1, k2⟩ => ⟨k, k0, k8, (hT k).mp k1, ?_⟩⟩
    · rw [f3 325 k (by omega) (by omega) k0 k8, f3 326 k (by omega) (by omega) k0 k8]; exact k2
    · rw [f3 325 k (by omega) (by omega) k0 k8, f3 326 k (by omega) (by omega) k0 k8] at k2; exact k2
theorem StOk.cp (h : StOk G b) (e : StEq G G' b b') : StOk G' b' := by
  obtain ⟨h7, hr⟩ := h
  have a7 := e.1 7 (by omega) (by omega)
  refine ⟨by omega, fun i i0 i5 => ?_⟩
  have x := hr i i0 i5
  unfold RwOk at x ⊢
  rw [e.2 1 (by omega) (by omega) i i0 i5, e.2 2 (by omega) (by omega) i i0 i5, e.2 3 (by omega) (by omega) i i0 i5, e.2 7 (by omega) (by omega) i i0 i5]
  exact x
theorem StX.cp {S S' : Mem} (h : StX S G b A o n) (hn : n ≤ 5) (e : StEq S S' b b') (f : SrEq G G' A o A' o') : StX S' G' b' A' o' n := by
  obtain ⟨h1, h2, h3, h4, h5, h6, h7⟩ := h
  have w : ∀ k i : Int, 0 ≤ k + i → k + i < 35 → G' A' (o' + k + i) = G A (o + k + i) := fun k i a b => by
    have := f.1 (k + i) a b
    rwa [← Int.add_assoc, ← Int.add_assoc] at this
  refine ⟨fun i i0 i1 => ?_, fun i i0 i1 => ?_, ?_, ?_, ?_, ?_, ?_⟩
  · have x := h1 i i0 i1
    rw [f.1 i i0 (by omega), w 5 i (by omega) (by omega), w 10 i (by omega) (by omega), w 15 i (by omega) (by omega), w 20 i (by omega) (by omega), w 25 i (by omega) (by omega), e.2 1 (by omega) (by omega) i i0 (by omega), e.2 2 (by omega) (by omega) i i0 (by omega), e.2 3 (by omega) (by omega) i i0 (by omega), e.2 4 (by omega) (by omega) i i0 (by omega), e.2 5 (by omega) (by omega) i i0 (by omega), e.2 6 (by omega) (by omega) i i0 (by omega)]
    exact x
  · rw [w 30 i (by omega) (by omega), e.2 7 (by omega) (by omega) i i0 (by omega)]; exact h2 i i0 i1
  · rw [f.2 110 (by omega) (by omega), e.1 7 (by omega) (by omega)]; exact h3
  · rw [f.2 111 (by omega) (by omega), e.1 8 (by omega) (by omega)]; exact h4
  · rw [f.2 112 (by omega) (by omega), e.1 9 (by omega) (by omega)]; exact h5
  · rw [f.2 113 (by omega) (by omega), e.1 10 (by omega) (by omega)]; exact h6
  · rw [f.2 114 (by omega) (by omega), e.1 11 (by omega) (by omega)]; exact h7
/-- the model's cells of the cabin at hand, the state and the laws told -/
def CorM (G G' : Mem) : Prop := ∀ q k : Int, q = 313 ∨ (315 ≤ q ∧ q ≤ 329) ∨ q = 342 → G' q k = G q k
theorem Cu.ext (h : Cu S G c) (e : CorM G G') : Cu S G' c := by
  obtain ⟨hb, hc, hs, ht, hr, hw⟩ := h
  have m := hc.2.2.1
  have e1 : CbEq S S c c := ⟨fun k _ _ => rfl, fun i _ _ => ⟨rfl, rfl⟩, fun i _ _ => rfl, fun i _ _ => rfl, fun i k _ _ _ _ => rfl⟩
  have e2 : RwEq G G' 0 0 := ⟨fun k _ _ => e _ _ (by omega), fun q i _ _ _ _ => e _ _ (by omega), fun q i _ _ _ _ => e _ _ (by omega)⟩
  have e3 : StEq S S 73 73 := ⟨fun k _ _ => rfl, fun j _ _ i _ _ => rfl⟩
  have e4 : SrEq G G' 342 0 342 0 := ⟨fun k _ _ => e _ _ (by omega), fun k _ _ => e _ _ (by omega)⟩
  exact ⟨hb, hc, hs, ht, hr.cp m e1 e2, hw.cp m.2 e3 e4⟩
theorem LawsR.ext {fs : Int → Law} (h : LawsR S G c r fs) (e : CorM G G') : LawsR S G' c r fs := by
  refine ⟨h.1, fun l l0 l3 => ?_⟩
  have x := h.2 l l0 l3
  unfold LawR at x ⊢
  have z : (fun k => G' 329 k) = fun k => G 329 k := funext fun k => e _ _ (by omega)
  rw [z, e 327 (3 * r + l) (by omega), e 328 (3 * r + l) (by omega)]
  exact x
/-- the class's cells of the cabin at hand -/
def CorC (c : Int) (S S' : Mem) : Prop := ∀ q k : Int, c ≤ q → q < c + 18 → q ≠ c + 7 → q ≠ c + 12 → S' q k = S q k
theorem CorC.eq (h : CorC c S S') : CbEq S S' c c := ⟨fun k _ _ => h _ _ (by omega) (by omega) (by omega) (by omega), fun i _ _ => ⟨h _ _ (by omega) (by omega) (by omega) (by omega), h _ _ (by omega) (by omega) (by omega) (by omega)⟩, fun i _ _ => h _ _ (by omega) (by omega) (by omega) (by omega), fun i _ _ => h _ _ (by omega) (by omega) (by omega) (by omega), fun i k _ _ _ _ => h _ _ (by omega) (by omega) (by omega) (by omega)⟩
theorem LawsR.extC {fs : Int → Law} (h : LawsR S G c r fs) (e : CorC c S S') : LawsR S' G c r fs := by
  have e : ∀ q k : Int, (c ≤ q ∧ q < c + 18 ∧ q ≠ c + 7 ∧ q ≠ c + 12) → S' q k = S q k := fun q k hq => e q k hq.1 hq.2.1 hq.2.2.1 hq.2.2.2
  refine ⟨by rw [e (c + 6) 6 (by omega)]; exact h.1, fun l l0 l3 => ?_⟩
  have x := h.2 l l0 l3
  unfold LawR at x ⊢
  have y : (fun k => S' (c + 11) k) = fun k => S (c + 11) k := funext fun k => e _ _ (by omega)
  rw [y, e (c + 8) l (by omega), e (c + 9) l (by omega), e (c + 10) l (by omega), e (c + 6) 6 (by omega)]
  exact x
/-- another state with the same cabin -/
theorem Cu.st (h : Cu S G c) (e : CorC c S S') (hs : StOk S' 73) (ht : S' 73 7 ≤ S c 7) (hm : ∀ q k : Int, q = 313 ∨ (315 ≤ q ∧ q ≤ 329) → G' q k = G q k) (hw : StX S' G' 73 342 0 (S c 8)) : Cu S' G' c := by
  have e2 : RwEq G G' 0 0 := ⟨fun k _ _ => hm _ _ (by omega), fun q i _ _ _ _ => hm _ _ (by omega), fun q i _ _ _ _ => hm _ _ (by omega)⟩
  have e7 : S' c 7 = S c 7 := e _ _ (by omega) (by omega) (by omega) (by omega)
  have e8 : S' c 8 = S c 8 := e _ _ (by omega) (by omega) (by omega) (by omega)
  exact ⟨h.1, h.2.1.cp e.eq, hs, by omega, h.2.2.2.2.1.cp h.2.1.2.2.1 e.eq e2, by rw [e8]; exact hw⟩
theorem cb_lt (hb : Bs 1 c) : 13 < c ∧ c + 18 ≤ 311 := by
  have : ∀ p ∈ CbB, 13 < p ∧ p + 18 ≤ 311 := by decide
  exact this c hb.cb
theorem EvC.cor (h : EvC c G G') (hb : Bs 1 c) : CorM G G' ∧ CorC c G G' := by
  have hn := cb_lt hb
  exact ⟨fun q k hq => h q k (by omega) (by omega), fun q k _ _ h7 h12 => h q k h7 h12⟩
theorem EvM.cor (h : EvM G G') : CorM G G' := fun q k hq => h q k (by omega)
end FRAME
