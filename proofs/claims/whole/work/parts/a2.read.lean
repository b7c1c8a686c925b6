def pBeg (l : Int) (r : PR) : PR := bnd r (fun b D => .inr (b, st D 9 l (D 6 6)))
def pFin (l : Int) (r : PR) : PR := bnd r (fun b D => .inr (b, st (st D 10 l (D 6 6)) 8 l 1))
noncomputable def pLaw (t : Int → Int) (n l : Int) (r : PR) : PR := pFin l (pJr t n (pP t n l 5) 4 (pBeg l (pW t n (13 + l) r)))
section READ
variable {d : Nat} {G G' G0 : Mem} {Q : Int → Mem → Prop} {t : Int → Int} {n b K cc l : Int} {D : Mem} {r : PR}
theorem c_lawX (hO : TpO t n) (hl : 0 ≤ l ∧ l < 3) (hX : RdX K cc t n G0 r G) (h : ∀ G2, RdX K cc t n G0 (pLaw t n l r) G2 → Q 0 G2) : Ct (d + 45) M_X5_readLaw NT 0 0 (some lay) [(2, 3), (0, l)] G Q := by
  have ccI := cc_in hX.1.1
  have b3 := (ly_1_5 hX.1.1).2.2
  have J := ((c_partAll (K := K) (cc := cc) (G0 := G0) hO hl 5 (Nat.le_refl 5)).2 4 (Nat.le_refl 4))
  refine ctof (s_X5_readLaw_0 (c_rdWord (d := d + 38) hO hX (by omega) (fun G1 h1 b e => ?_)))
  rw [h1.1.2.2.2.1] at e
  subst e
  refine ⟨h1.1.1, ctof (s_X3_begin_0 b3 ⟨hl, fun G2 e2 => ?_⟩)⟩
  have h2 : RdX K b t n G0 (pBeg l (pW t n (13 + l) r)) G2 := by
    rw [e2, show b + 6 + 3 = b + 9 by omega]
    rcases pr_cases (pW t n (13 + l) r) with ⟨x, hx⟩ | ⟨b2, D2, hx⟩
    · rw [hx] at h1 ⊢
      exact RdX.junk h1 (Or.inr (by omega)) (by omega) (by omega)
    · rw [hx] at h1 ⊢
      have s6 := h1.inr.2.2.2.1.1 6 6 (by omega) (by omega)
      rw [s6]
      exact RdX.put h1 (by omega) (by omega) (by omega) (dok_st h1.inr.2.2.2.2 (by decide))
  have jj := J (d + 44) _ G2 (fun r9 G8 => ∀ b10 : Int, b10 = G8 3 3 → (Bs 1 b10 ∧ Ct (d + 44) M_X3_end NT 0 0 (some lay) [(2, b10 + 6), (0, l)] G8 (fun _ G13 => Q 0 G13))) (by omega) h2 (fun G8 h8 b10 e10 => ?_)
  · exact jj
  · rw [h8.1.2.2.2.1] at e10
    subst e10
    refine ⟨h8.1.1, ctof (s_X3_end_0 b3 ⟨hl, fun G9 e9 G10 e11 => h G10 ?_⟩)⟩
    have eL : pLaw t n l r = pFin l (pJr t n (pP t n l 5) 4 (pBeg l (pW t n (13 + l) r))) := rfl
    rw [eL]
    rw [show b10 + 6 + 4 = b10 + 10 by omega] at e9
    rw [show b10 + 6 + 2 = b10 + 8 by omega] at e11
    rcases pr_cases (pJr t n (pP t n l 5) 4 (pBeg l (pW t n (13 + l) r))) with ⟨x, hx⟩ | ⟨b2, D2, hx⟩
    · rw [hx] at h8 ⊢
      have h9 : RdX K b10 t n G0 (.inl x) G9 := by rw [e9]; exact RdX.junk h8 (Or.inr (by omega)) (by omega) (by omega)
      rw [e11]
      exact RdX.junk h9 (Or.inr (by omega)) (by omega) (by omega)
    · rw [hx] at h8 ⊢
      have s6 := h8.inr.2.2.2.1.1 6 6 (by omega) (by omega)
      have h9 : RdX K b10 t n G0 (.inr (b2, st D2 10 l (D2 6 6))) G9 := by
        rw [e9, s6]
        exact RdX.put h8 (by omega) (by omega) (by omega) (dok_st h8.inr.2.2.2.2 (by decide))
      rw [e11]
      exact RdX.put h9 (by omega) (by omega) (by omega) (dok_st h9.inr.2.2.2.2 (by decide))
/-- the cabin that a reading begins with -/
def ClrF (cc : Int) (G G' : Mem) : Prop := (G' cc 6 = 2 ∧ G' cc 7 = 1 ∧ G' cc 8 = 0 ∧ G' cc 9 = 11 ∧ G' cc 10 = 9) ∧ (∀ i, 0 ≤ i → i < 5 → G' (cc + 2) i = -1 ∧ G' (cc + 3) i = 0) ∧ (∀ i, 0 ≤ i → i < 72 → G' (cc + 4) i = 0) ∧ (∀ i, 0 ≤ i → i < 4 → G' (cc + 5) i = 1) ∧ G' (cc + 6) 6 = 0 ∧ (∀ i, 0 ≤ i → i < 3 → G' (cc + 8) i = 0) ∧ ∀ q k : Int, ¬ (cc ≤ q ∧ q < cc + 18) → G' q k = G q k
theorem c_X1_clear (hc : Bs 1 cc) (h : ∀ G', ClrF cc G G' → Q 0 G') : Ct (d + 2) M_X1_clear NT 0 0 (some lay) [(2, cc)] G Q := by
  have b3 := (ly_1_5 hc).2.2
  refine ctof (s_X1_clear_0 (bs_ob hc) (fun G1 e1 G2 e2 G3 e3 G4 e4 G5 e5 => ?_))
  have r1 : ∀ G : Mem, rl (some lay) G cc 1 = cc + 2 := fun _ => (ly_1_1 hc).1
  have r2 : ∀ G : Mem, rl (some lay) G cc 2 = cc + 3 := fun _ => (ly_1_2 hc).1
  have r3 : ∀ G : Mem, rl (some lay) G cc 3 = cc + 4 := fun _ => (ly_1_3 hc).1
  have r4 : ∀ G : Mem, rl (some lay) G cc 4 = cc + 5 := fun _ => (ly_1_4 hc).1
  have r5 : ∀ G : Mem, rl (some lay) G cc 5 = cc + 6 := fun _ => (ly_1_5 hc).1
  rw [r1]
  refine ⟨(ly_1_1 hc).2.1, (ly_1_1 hc).2.2, c_fill (ly_1_1 hc).2.2 ?_⟩
  rw [r2]
  refine ⟨(ly_1_2 hc).2.1, (ly_1_2 hc).2.2, c_fill (ly_1_2 hc).2.2 ?_⟩
  rw [r3]
  refine ⟨(ly_1_3 hc).2.1, (ly_1_3 hc).2.2, c_fill (ly_1_3 hc).2.2 ?_⟩
  rw [r4]
  refine ⟨(ly_1_4 hc).2.1, (ly_1_4 hc).2.2, c_fill (ly_1_4 hc).2.2 ?_⟩
  rw [r5]
  refine ⟨(ly_1_5 hc).2.1, bs_ob b3, ctof (s_X3_clear_0 (bs_ob b3) (fun G6 e6 => ?_))⟩
  rw [show rl (some lay) G6 (cc + 6) 1 = cc + 6 + 2 from (ly_3_1 b3).1]
  refine ⟨(ly_3_1 b3).2.1, (ly_3_1 b3).2.2, c_fill (ly_3_1 b3).2.2 (h _ ?_)⟩
  rw [e6, e5, e4, e3, e2, e1]
  refine ⟨⟨?_, ?_, ?_, ?_, ?_⟩, fun i i0 i5 => ⟨?_, ?_⟩, fun i i0 i1 => ?_, fun i i0 i1 => ?_, ?_, fun i i0 i1 => ?_, fun q k hq => ?_⟩
  · simp (disch := omega) only [upA_nq, st_nq, st_nk, st_same]
  · simp (disch := omega) only [upA_nq, st_nq, st_nk, st_same]
  · simp (disch := omega) only [upA_nq, st_nq, st_nk, st_same]
  · simp (disch := omega) only [upA_nq, st_nq, st_nk, st_same]
  · simp (disch := omega) only [upA_nq, st_nq, st_nk, st_same]
  · simp (disch := omega) only [upA_nq, st_nq]
    exact upA_in _ _ _ i0 i5
  · simp (disch := omega) only [upA_nq, st_nq]
    exact upA_in _ _ _ i0 i5
  · simp (disch := omega) only [upA_nq, st_nq]
    exact upA_in _ _ _ i0 i1
  · simp (disch := omega) only [upA_nq, st_nq]
    exact upA_in _ _ _ i0 i1
  · simp (disch := omega) only [upA_nq, st_same]
  · rw [show cc + 6 + 2 = cc + 8 by omega]
    exact upA_in _ _ _ i0 i1
  · simp (disch := omega) only [upA_nq, st_nq]
end READ
