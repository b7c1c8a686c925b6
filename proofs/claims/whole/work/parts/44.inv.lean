section INV
variable {S S' G G' : Mem} {c : Int} {fs : Int → Law}
/-! the one invariant: S is where the class's cells are read, G where the model's are -/
def UnR (S G : Mem) (c : Int) : Prop := (0 ≤ S 0 15 ∧ S 0 15 < 12) ∧ (0 ≤ S 0 16 ∧ S 0 16 ≤ 12) ∧ G 311 46 = S 0 16 ∧ ∀ j, 0 ≤ j → j < S 0 16 → StOk S (87 + 8 * ((S 0 15 - 1 - j) % 12)) ∧ S (87 + 8 * ((S 0 15 - 1 - j) % 12)) 7 ≤ S c 7 ∧ StX S G (87 + 8 * ((S 0 15 - 1 - j) % 12)) 344 (116 * (S 0 16 - 1 - j)) (S c 8)
def TlX (S G : Mem) (t A o : Int) : Prop := ∀ i, 0 ≤ i → i < 5 → G A (o + (35 + i)) = S (t + 1) i ∧ G A (o + (40 + i)) = S (t + 2) i ∧ G A (o + (45 + i)) = S (t + 3) i ∧ (0 ≤ S (t + 1) i ∧ 0 ≤ S (t + 2) i ∧ S (t + 1) i + S (t + 2) i ≤ 15) ∧ (0 ≤ S (t + 3) i ∧ S (t + 3) i ≤ 12) ∧ ∀ j, 0 ≤ j → j < S (t + 3) i → G A (o + (50 + 12 * i + j)) = S (t + 4) (12 * i + j) ∧ (0 ≤ S (t + 4) (12 * i + j) ∧ S (t + 4) (12 * i + j) ≤ 71) ∧ (0 < j → S (t + 4) (12 * i + j - 1) < S (t + 4) (12 * i + j))
def MkR (S G : Mem) : Prop := ∀ i, 0 ≤ i → i < 4 → S 183 i = G 362 i ∧ (G 362 i = 0 ∨ G 362 i = 1) ∧ (G 362 i = 1 → ∃ fs, CbOk S (187 + 31 * i) ∧ CabR S G (187 + 31 * i) (2 + i) ∧ LawsR S G (187 + 31 * i) (2 + i) fs ∧ StOk S (205 + 31 * i) ∧ S (205 + 31 * i) 7 ≤ S (187 + 31 * i) 7 ∧ StX S G (205 + 31 * i) 343 (116 * i) (S (187 + 31 * i) 8) ∧ TlX S G (213 + 31 * i) 343 (116 * i))
def TpR (S G : Mem) : Prop := (0 ≤ S 1 1 ∧ S 1 1 ≤ 1000) ∧ G 311 1 = S 1 1 ∧ ∀ k, 0 ≤ k → k < S 1 1 → G 312 k = S 2 k ∧ (S 2 k = 10 ∨ (32 ≤ S 2 k ∧ S 2 k ≤ 126))
def Inv0 (S G : Mem) (c : Int) (fs : Int → Law) : Prop := (S 0 13 = c ∧ S 0 14 = 92 - c ∧ (c = 37 ∨ c = 55) ∧ S 19 11 = 0) ∧ Cu S G c ∧ LawsR S G c 0 fs ∧ UnR S G c ∧ TlX S G 81 342 0 ∧ MkR S G ∧ TpR S G
theorem UnR.ext (h : UnR S G c) (hn : S c 8 ≤ 5) (eS : ∀ q k : Int, (q = 0 ∧ (k = 15 ∨ k = 16)) ∨ (87 ≤ q ∧ q < 183) ∨ (q = c ∧ (k = 7 ∨ k = 8)) → S' q k = S q k) (eG : ∀ q k : Int, q = 344 ∨ (q = 311 ∧ k = 46) → G' q k = G q k) : UnR S' G' c := by
  obtain ⟨h1, h2, h3, h4⟩ := h
  have a := eS 0 15 (by omega)
  have b := eS 0 16 (by omega)
  refine ⟨by omega, by omega, by rw [eG 311 46 (by omega), h3, b], fun j j0 j1 => ?_⟩
  rw [b] at j1
  obtain ⟨x1, x2, x3⟩ := h4 j j0 j1
  rw [a, b, eS c 7 (by omega), eS c 8 (by omega)]
  have m0 := Int.emod_nonneg (S 0 15 - 1 - j) (show (12 : Int) ≠ 0 by decide)
  have m1 := Int.emod_lt_of_pos (S 0 15 - 1 - j) (show (0 : Int) < 12 by decide)
  generalize hm : (S 0 15 - 1 - j) % 12 = m at *
  have es : StEq S S' (87 + 8 * m) (87 + 8 * m) := ⟨fun k _ _ => eS _ _ (by omega), fun j _ _ i _ _ => eS _ _ (by omega)⟩
  exact ⟨x1.cp es, by rw [eS _ _ (by omega)]; exact x2, x3.cp hn es ⟨fun k _ _ => eG _ _ (by omega), fun k _ _ => eG _ _ (by omega)⟩⟩
theorem TlX.cp {t A o t' A' o' : Int} (h : TlX S G t A o) (eS : ∀ j k : Int, 1 ≤ j → j ≤ 4 → 0 ≤ k → k < 60 → (j ≤ 3 → k < 5) → S' (t' + j) k = S (t + j) k) (eG : ∀ k : Int, 35 ≤ k → k < 110 → G' A' (o' + k) = G A (o + k)) : TlX S' G' t' A' o' := by
  intro i i0 i5
  obtain ⟨h1, h2, h3, h4, h5, h6⟩ := h i i0 i5
  rw [eS 1 i (by omega) (by omega) i0 (by omega) (by omega), eS 2 i (by omega) (by omega) i0 (by omega) (by omega), eS 3 i (by omega) (by omega) i0 (by omega) (by omega), eG _ (by omega) (by omega), eG _ (by omega) (by omega), eG _ (by omega) (by omega)]
  refine ⟨h1, h2, h3, h4, h5, fun j j0 j1 => ?_⟩
  rw [eG _ (by omega) (by omega), eS 4 (12 * i + j) (by omega) (by omega) (by omega) (by omega) (by omega)]
  obtain ⟨x1, x2, x3⟩ := h6 j j0 j1
  refine ⟨x1, x2, fun q => ?_⟩
  rw [eS 4 (12 * i + j - 1) (by omega) (by omega) (by omega) (by omega) (by omega)]
  exact x3 q
theorem MkR.ext (h : MkR S G) (eS : ∀ q k : Int, 183 ≤ q → q < 311 → S' q k = S q k) (eG : ∀ q k : Int, q = 362 ∨ q = 343 ∨ q = 313 ∨ (315 ≤ q ∧ q ≤ 329) → G' q k = G q k) : MkR S' G' := by
  intro i i0 i4
  obtain ⟨h1, h2, h3⟩ := h i i0 i4
  rw [eS 183 i (by omega) (by omega), eG 362 i (by omega)]
  refine ⟨h1, h2, fun q => ?_⟩
  obtain ⟨fs, x1, x2, x3, x4, x5, x6, x7⟩ := h3 q
  have m := x1.2.2.1
  have e1 : CbEq S S' (187 + 31 * i) (187 + 31 * i) := ⟨fun k _ _ => eS _ _ (by omega) (by omega), fun i _ _ => ⟨eS _ _ (by omega) (by omega), eS _ _ (by omega) (by omega)⟩, fun i _ _ => eS _ _ (by omega) (by omega), fun i _ _ => eS _ _ (by omega) (by omega), fun i k _ _ _ _ => eS _ _ (by omega) (by omega)⟩
  have e2 : RwEq G G' (2 + i) (2 + i) := ⟨fun k _ _ => eG _ _ (by omega), fun q i _ _ _ _ => eG _ _ (by omega), fun q i _ _ _ _ => eG _ _ (by omega)⟩
  have e3 : StEq S S' (205 + 31 * i) (205 + 31 * i) := ⟨fun k _ _ => eS _ _ (by omega) (by omega), fun j _ _ i _ _ => eS _ _ (by omega) (by omega)⟩
  have e4 : CorM G G' ∨ True := Or.inr trivial
  refine ⟨fs, x1.cp e1, x2.cp m e1 e2, ?_, x4.cp e3, by rw [eS _ _ (by omega) (by omega), eS _ _ (by omega) (by omega)]; exact x5, ?_, ?_⟩
  · have y := x3.extC (S' := S') (fun q k q0 q1 _ _ => eS q k (by omega) (by omega))
    refine ⟨y.1, fun l l0 l3 => ?_⟩
    have w := y.2 l l0 l3
    unfold LawR at w ⊢
    have z : (fun k => G' 329 k) = fun k => G 329 k := funext fun k => eG _ _ (by omega)
    rw [z, eG 327 _ (by omega), eG 328 _ (by omega)]
    exact w
  · rw [eS (187 + 31 * i) 8 (by omega) (by omega)]
    exact x6.cp m.2 e3 ⟨fun k _ _ => eG _ _ (by omega), fun k _ _ => eG _ _ (by omega)⟩
  · exact x7.cp (fun j k _ _ _ _ _ => eS _ _ (by omega) (by omega)) (fun k _ _ => eG _ _ (by omega))
theorem TpR.ext (h : TpR S G) (eS : ∀ q k : Int, (q = 1 ∧ k = 1) ∨ q = 2 → S' q k = S q k) (eG : ∀ q k : Int, q = 312 ∨ (q = 311 ∧ k = 1) → G' q k = G q k) : TpR S' G' := by
  obtain ⟨h1, h2, h3⟩ := h
  have a := eS 1 1 (by omega)
  refine ⟨by omega, by rw [eG 311 1 (by omega), a]; exact h2, fun k k0 k1 => ?_⟩
  rw [eG 312 k (by omega), eS 2 k (by omega)]
  exact h3 k k0 (by omega)
/-- what a question may write -/
def QtC (c : Int) (S S' : Mem) : Prop := ∀ q k : Int, q < 311 → ¬ (q = c + 7 ∨ q = c + 12 ∨ (6 ≤ q ∧ q ≤ 18) ∨ (q = 19 ∧ k ≠ 4 ∧ k ≠ 10 ∧ k ≠ 11) ∨ (20 ≤ q ∧ q ≤ 29) ∨ (31 ≤ q ∧ q ≤ 36)) → S' q k = S q k
def QtM (G G' : Mem) : Prop := ∀ q k : Int, 311 ≤ q → ¬ (q = 314 ∨ (330 ≤ q ∧ q ≤ 341) ∨ (345 ≤ q ∧ q ≤ 361) ∨ (q = 311 ∧ k ≠ 1 ∧ k ≠ 46)) → G' q k = G q k
theorem Inv0.ext (h : Inv0 S G c fs) (eS : QtC c S S') (eG : QtM G G') : Inv0 S' G' c fs := by
  obtain ⟨⟨a1, a2, a3, a4⟩, hC, hL, hU, hT, hM, hP⟩ := h
  have cc : CorC c S S' := fun q k q0 q1 q7 q12 => eS q k (by omega) (by omega)
  have cm : CorM G G' := fun q k hq => eG q k (by omega) (by omega)
  have e3 : StEq S S' 73 73 := ⟨fun k _ _ => eS _ _ (by omega) (by omega), fun j _ _ i _ _ => eS _ _ (by omega) (by omega)⟩
  have e4 : SrEq G G' 342 0 342 0 := ⟨fun k _ _ => eG _ _ (by omega) (by omega), fun k _ _ => eG _ _ (by omega) (by omega)⟩
  refine ⟨⟨by rw [eS 0 13 (by omega) (by omega)]; exact a1, by rw [eS 0 14 (by omega) (by omega)]; exact a2, a3, by rw [eS 19 11 (by omega) (by omega)]; exact a4⟩, ?_, (hL.ext cm).extC cc, ?_, ?_, ?_, ?_⟩
  · exact hC.st cc (hC.2.2.1.cp e3) (by rw [eS 73 7 (by omega) (by omega)]; exact hC.2.2.2.1) (fun q k hq => eG q k (by omega) (by omega)) (hC.2.2.2.2.2.cp hC.2.1.2.2.1.2 e3 e4)
  · exact hU.ext hC.2.1.2.2.1.2 (fun q k hq => eS q k (by omega) (by omega)) (fun q k hq => eG q k (by omega) (by omega))
  · exact hT.cp (fun j k _ _ _ _ _ => eS _ _ (by omega) (by omega)) (fun k _ _ => eG _ _ (by omega) (by omega))
  · exact hM.ext (fun q k _ _ => eS q k (by omega) (by omega)) (fun q k hq => eG q k (by omega) (by omega))
  · exact hP.ext (fun q k hq => eS q k (by omega) (by omega)) (fun q k hq => eG q k (by omega) (by omega))
/-- the cells that the order kept (the habits) is read in -/
def RkF (c : Int) (S S' : Mem) : Prop := CorC c S S' ∧ S' 19 4 = S 19 4 ∧ S' 19 10 = S 19 10 ∧ ∀ k, S' 30 k = S 30 k
theorem RkF.of (hc : c = 37 ∨ c = 55) (h : QtC c S S') : RkF c S S' := ⟨fun q k _ _ _ _ => h q k (by omega) (by omega), h _ _ (by omega) (by omega), h _ _ (by omega) (by omega), fun k => h _ _ (by omega) (by omega)⟩
theorem RkF.tr {S2 : Mem} (h : RkF c S S') (h' : RkF c S' S2) : RkF c S S2 := ⟨fun q k a b d e => (h'.1 q k a b d e).trans (h.1 q k a b d e), h'.2.1.trans h.2.1, h'.2.2.1.trans h.2.2.1, fun k => (h'.2.2.2 k).trans (h.2.2.2 k)⟩
theorem QtC.tr {S2 : Mem} (h : QtC c S S') (h' : QtC c S' S2) : QtC c S S2 := fun q k a b => (h' q k a b).trans (h q k a b)
theorem QtM.tr {G2 : Mem} (h : QtM G G') (h' : QtM G' G2) : QtM G G2 := fun q k a b => (h' q k a b).trans (h q k a b)
theorem QtC.rfl' : QtC c S S := fun _ _ _ _ => rfl
theorem QtM.rfl' : QtM G G := fun _ _ _ _ => rfl
/-- a question: the class from G to G1, the model from G1 to G2 -/
theorem Inv0.quiet {G1 G2 : Mem} (h : Inv0 G G c fs) (hc : QtC c G G1) (hm1 : ∀ q k : Int, 311 ≤ q → G1 q k = G q k) (hm : QtM G1 G2) (hc2 : ∀ q k : Int, q < 311 → G2 q k = G1 q k) : Inv0 G2 G2 c fs ∧ RkF c G G2 := by
  have e : QtC c G G2 := hc.tr (fun q k a _ => hc2 q k a)
  exact ⟨h.ext e (fun q k a b => (hm q k a b).trans (hm1 q k a)), RkF.of h.1.2.2.1 e⟩
theorem Inv0.cls (h : Inv0 G G c fs) : Cls G c := Cls.of h.1.1 h.2.1
end INV
