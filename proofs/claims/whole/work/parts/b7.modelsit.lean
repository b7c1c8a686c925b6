section MSIT
variable {d : Nat} {D D' M M' G0 : Mem} {Q : Int → Mem → Prop} {t : Int → Int} {n b b' l i0 : Int}
/-- all of a sitter that is being told -/
def DsF (i0 : Int) (D D' : Mem) : Prop := ∀ q k : Int, q ≠ 30 → ¬ (q = 20 ∧ k = i0) → q ≠ 13 + i0 → D' q k = D q k
theorem RC.ds (h : RC D M) (h8 : D 0 8 = i0) (e : DsF i0 D D') : RC D' M := by
  obtain ⟨hS, hP, hI, hC, hB, hT, hL⟩ := h
  have r := hS.2.2.2.1
  exact ⟨hS.ext (fun k _ _ => e _ _ (by omega) (by omega) (by omega)) (fun _ _ => rfl), hP.ext (fun k _ _ => e _ _ (by omega) (by omega) (by omega)) (fun _ _ _ => rfl), hI.ext (e _ _ (by omega) (by omega) (by omega)) (e _ _ (by omega) (by omega) (by omega)) (fun k => e _ _ (by omega) (by omega) (by omega)) (fun i k _ _ => e _ _ (by omega) (by omega) (by omega)) (fun i _ _ => e _ _ (by omega) (by omega) (by omega)) (fun _ _ _ _ _ _ => rfl) (fun _ _ _ => rfl), hC.ext (fun k _ _ => e _ _ (by omega) (by omega) (by omega)) (fun _ _ _ => rfl), hB.ext (e _ _ (by omega) (by omega) (by omega)) (e _ _ (by omega) (by omega) (by omega)) (fun k _ _ => e _ _ (by omega) (by omega) (by omega)) rfl rfl (fun _ _ _ _ _ => rfl), hT.ext (fun k _ => e _ _ (by omega) (by omega) (by omega)) rfl, hL.ext (fun k _ _ => e _ _ (by omega) (by omega) (by omega)) (fun q k _ => e _ _ (by omega) (by omega) (by omega)) (Int.le_of_eq (e _ _ (by omega) (by omega) (by omega)).symm) (fun k _ => e _ _ (by omega) (by omega) (by omega)) (fun _ _ _ _ _ => rfl) (Int.le_refl _) (fun _ _ => rfl)⟩
def MsF (i0 : Int) (M M' : Mem) : Prop := ∀ q k : Int, ¬ (q = 311 ∧ ((4 ≤ k ∧ k ≤ 9) ∨ k = 42)) → ¬ (q = 314 ∧ k = i0) → ¬ (315 ≤ q ∧ q ≤ 323 ∧ k = 5 + i0) → M' q k = M q k
theorem MdF.ms (h : MdF M M') : MsF i0 M M' := fun q k a _ _ => h q k a
theorem MsF.tr {M2 : Mem} (h : MsF i0 M M') (h' : MsF i0 M' M2) : MsF i0 M M2 := fun q k a e f => (h' q k a e f).trans (h q k a e f)
theorem MsF.st {q k v : Int} (hq : (q = 314 ∧ k = i0) ∨ (315 ≤ q ∧ q ≤ 323 ∧ k = 5 + i0)) : MsF i0 M (st M q k v) := fun q' k' _ e f => st_ne _ _ (fun z => by omega)
theorem MsF.mv (hi : 0 ≤ i0 ∧ i0 < 5) (h : MsF i0 M M') : MvF M M' := fun q k a => h q k (fun z => a (by unfold MvC; omega)) (fun z => a (by unfold MvC; omega)) (fun z => a (by unfold MvC; omega))
theorem RC.ms (h : RC D M) (h8 : D 0 8 = i0) (f : MsF i0 M M') : RC D M' := by
  obtain ⟨hS, hP, hI, hC, hB, hT, hL⟩ := h
  exact ⟨hS.ext (fun _ _ _ => rfl) (fun k _ => f _ _ (by omega) (by omega) (by omega)), hP.ext (fun _ _ _ => rfl) (fun k _ _ => f _ _ (by omega) (by omega) (by omega)), hI.ext rfl rfl (fun _ => rfl) (fun _ _ _ _ => rfl) (fun _ _ _ => rfl) (fun q i _ _ _ _ => f _ _ (by omega) (by omega) (by omega)) (fun i _ _ => f _ _ (by omega) (by omega) (by omega)), hC.ext (fun _ _ _ => rfl) (fun k _ _ => f _ _ (by omega) (by omega) (by omega)), hB.ext rfl rfl (fun _ _ _ => rfl) (f _ _ (by omega) (by omega) (by omega)) (f _ _ (by omega) (by omega) (by omega)) (fun q k _ _ _ => f _ _ (by omega) (by omega) (by omega)), hT.ext (fun _ _ => rfl) (f _ _ (by omega) (by omega) (by omega)), hL.ext (fun _ _ _ => rfl) (fun _ _ _ => rfl) (Int.le_refl _) (fun _ _ => rfl) (fun q k _ _ _ => f _ _ (by omega) (by omega) (by omega)) (Int.le_of_eq (f _ _ (by omega) (by omega) (by omega)).symm) (fun k _ => f _ _ (by omega) (by omega) (by omega))⟩
theorem RM.ps (h : RM G0 t n b D M) (hi : 0 ≤ i0 ∧ i0 < 5) (h8 : D 0 8 = i0) (f : MsF i0 M M') (m : MdX t n b' M') (hb : b ≤ b') (e : DsF i0 D D') : RM G0 t n b' D' M' := by
  obtain ⟨h1, h2, h3, h4, h5⟩ := h
  have a := f 311 27 (by omega) (by omega) (by omega)
  have c := e 6 6 (by omega) (by omega) (by omega)
  have e8 := e 0 8 (by omega) (by omega) (by omega)
  exact ⟨h1.tr (f.mv hi), m, by omega, by omega, (h5.ds h8 e).ms (by omega) f⟩
def rgl (g : Int → Int) (k : Int) : Int := if k = 3 ∨ k = 4 then 1 else if k = 6 then 20 else if k = 8 then g 7 else 0
def rgh (k : Int) : Int := if k = 0 ∨ k = 1 then 4 else if k = 2 ∨ k = 5 then 9 else if k = 3 ∨ k = 4 then 99 else if k = 6 then 40 else 72
/-- a sitter told up to field j -/
def SS (G0 : Mem) (t : Int → Int) (n i0 j b : Int) (D M : Mem) : Prop := RM G0 t n b D M ∧ D 0 8 = i0 ∧ (0 ≤ i0 ∧ i0 < 5) ∧ (∀ k, 0 ≤ k → k < j → M (315 + k) (5 + i0) = D (13 + i0) k ∧ rgl (fun k => D (13 + i0) k) k ≤ D (13 + i0) k ∧ D (13 + i0) k ≤ rgh k) ∧ NmR D M i0 ∧ D (13 + i0) 1 < D 0 6 ∧ D 2 (D (13 + i0) 1) = -1
theorem SS.next {j v : Int} (h : SS G0 t n i0 j b D M) (hj : 2 ≤ j ∧ j ≤ 8) (hv : rgl (fun k => D (13 + i0) k) j ≤ v ∧ v ≤ rgh j) (f : MdF M M') (m : MdX t n b' M') (hb : b ≤ b') (h42 : M' 311 42 = v) : ∀ M3, M3 = st M' (315 + j) (5 + i0) (M' 311 42) → SS G0 t n i0 (j + 1) b' (st (st D 30 0 v) (13 + i0) j v) M3 := by
  intro M3 e3
  rw [h42] at e3
  obtain ⟨hR, h8, hi, hF, ⟨L, l1, l2, l3⟩, hs, hs2⟩ := h
  have f3 : ∀ q k : Int, ¬ (q = 315 + j ∧ k = 5 + i0) → M3 q k = M' q k := fun q k a => by rw [e3, st_ne _ _ a]
  have fD : ∀ q k : Int, q ≠ 30 → ¬ (q = 13 + i0 ∧ k = j) → st (st D 30 0 v) (13 + i0) j v q k = D q k := fun q k a1 a2 => by rw [st_ne _ _ a2, st_nq _ _ _ _ a1]
  have m3 : MdX t n b' M3 := m.fr (fun k _ _ => f3 _ _ (by omega)) (fun k => f3 _ _ (by omega))
  refine ⟨hR.ps hi h8 (f.ms.tr (by rw [e3]; exact MsF.st (Or.inr (by omega)))) m3 hb (fun q k a1 a2 a3 => fD q k a1 (by omega)), by rw [fD _ _ (by omega) (by omega)]; exact h8, hi, fun k k0 k1 => ?_, ⟨L, l1, by rw [fD _ _ (by omega) (by omega)]; exact l2, by rw [f3 _ _ (by omega), f _ _ (by omega)]; exact l3⟩, by rw [fD _ _ (by omega) (by omega), fD _ _ (by omega) (by omega)]; exact hs, by rw [fD _ _ (by omega) (by omega), fD _ _ (by omega) (by omega)]; exact hs2⟩
  have r7 : ∀ k, k ≤ 8 → rgl (fun k => st (st D 30 0 v) (13 + i0) j v (13 + i0) k) k = rgl (fun k => D (13 + i0) k) k ∨ j = 7 := fun k hk => by
    by_cases c : j = 7
    · exact Or.inr c
    · left
      unfold rgl
      show (if k = 3 ∨ k = 4 then (1 : Int) else if k = 6 then 20 else if k = 8 then st (st D 30 0 v) (13 + i0) j v (13 + i0) 7 else 0) = if k = 3 ∨ k = 4 then (1 : Int) else if k = 6 then 20 else if k = 8 then D (13 + i0) 7 else 0
      rw [fD _ 7 (by omega) (by omega)]
  have r7' : ∀ k, k ≤ 7 → rgl (fun k => st (st D 30 0 v) (13 + i0) j v (13 + i0) k) k = rgl (fun k => D (13 + i0) k) k := fun k hk => by
    unfold rgl
    have c : ¬ k = 8 := by omega
    simp only [c, if_false]
  have rr : rgl (fun k => st (st D 30 0 v) (13 + i0) j v (13 + i0) k) k = rgl (fun k => D (13 + i0) k) k := by
    by_cases c : k ≤ 7
    · exact r7' k c
    · rcases r7 k (by omega) with x | x
      · exact x
      · omega
  rw [rr]
  by_cases c : k = j
  · rw [c, e3, st_same, st_same]
    exact ⟨rfl, hv⟩
  · rw [f3 _ _ (by omega), f _ _ (by omega), fD _ _ (by omega) (by omega)]
    exact hF k k0 (by omega)
theorem m_fld {w : Nat} {c j lm hm' : Int} {lo hi : Mem → Int} (hO : TpO t n) (hS : SS G0 t n i0 j b D M) (hj : 2 ≤ j ∧ j ≤ 8) (hw : w < 32) (hc : fR 27 ((vocF.getD w []).reverse) = c) (ic : InL c) (el : lo D = lm) (eh : hi D = hm') (rl' : rgl (fun k => D (13 + i0) k) j = lm) (rh' : rgh j = hm') (il : InR lm) (ih : InR hm')
    (h1 : ∀ b' D' M2, pNf t n i0 j lo hi (pW t n (w : Int) (.inr (b, D))) = .inr (b', D') → b ≤ b' → (∀ M3, M3 = st M2 (315 + j) (5 + i0) (M2 311 42) → SS G0 t n i0 (j + 1) b' D' M3) → Q 1 M2)
    (h0 : ∀ e, pNf t n i0 j lo hi (pW t n (w : Int) (.inr (b, D))) = .inl e → ∀ M2, MvF G0 M2 → M2 311 9 = e → Q 0 M2) : Ct (d + 3) M_X12_needsBoth NT 0 0 (some lay) [(2, 311), (1, c), (0, lm), (0, hm')] M Q := by
  have m := hS.1.2.1
  have mm := m.2.1
  have n1 := nxt_in (t := t) m.2.1
  have n2 := nxt_in (t := t) (n := n) (b := nxt t n b) (by omega)
  refine c_nBoth (D := D) (lo := lo) (hi := hi) hO m hw hc ic el eh il ih (fun v ev v0 v1 M2 f2 m2 g2 => h1 _ (st (st D 30 0 v) (13 + i0) j v) M2 ?_ (by omega) (hS.next hj (by rw [rl', rh']; exact ⟨v0, v1⟩) f2 m2 (by omega) g2)) (fun e ee M2 f2 g2 => h0 e ?_ M2 (hS.1.1.tr f2.mv) g2)
  · unfold pNf pN; rw [ev, bnd_r, st_same]
  · unfold pNf pN; rw [ee]; rfl
noncomputable def kSit2 (t : Int → Int) (n i0 : Int) (r : PR) : PR := pS t n 59 (pEnd i0 (pSit3 t n i0 (pSit2 t n i0 r)))
/-- the numbers of a sitter behind his seat -/
theorem m_sit9 (hO : TpO t n) (hS : SS G0 t n i0 9 b D M) (h0 : ∀ e, pS t n 59 (pEnd i0 (.inr (b, D))) = .inl e → ∀ M', MvF G0 M' → M' 311 9 = e → Q 0 M') (h1 : ∀ b' D' M', pS t n 59 (pEnd i0 (.inr (b, D))) = .inr (b', D') → b ≤ b' → RM G0 t n b' D' M' → Q 1 M') : ∀ M6, M6 = st M 313 20 (M 313 20 + 1) → Ct (d + 2) M_X12_ends NT 0 0 (some lay) [(2, 311)] M6 (fun r M' => (r = 0 ∨ r = 1) ∧ Q r M') := by
  intro M6 e6
  obtain ⟨⟨q1, q2, q3, q4, hS', hP, hI, hC, hB, hT, hL⟩, h8, hi, hF, hN, hs, hs2⟩ := hS
  have s20 := hS'.1.2.2.2.2
  have eE : pEnd i0 (.inr (b, D)) = .inr (b, st (st D 2 (D (13 + i0) 1) (D 0 8)) 0 8 (D 0 8 + 1)) := by
    unfold pEnd; rw [bnd_r, if_neg (by omega)]
  rw [eE, h8] at h0 h1
  have f0 := hF 0 (by omega) (by omega)
  have f1 := hF 1 (by omega) (by omega)
  have f2 := hF 2 (by omega) (by omega)
  have f3 := hF 3 (by omega) (by omega)
  have f4 := hF 4 (by omega) (by omega)
  have f5 := hF 5 (by omega) (by omega)
  have f6 := hF 6 (by omega) (by omega)
  have f7 := hF 7 (by omega) (by omega)
  have f8 := hF 8 (by omega) (by omega)
  simp only [rgl, rgh, Int.reduceEq, or_self, or_true, true_or, or_false, false_or, reduceIte] at f0 f1 f2 f3 f4 f5 f6 f7 f8
  have so : SitOk D (13 + i0) := ⟨by omega, by omega, by omega, by omega, by omega, by omega, by omega, by omega, by omega⟩
  have fM : ∀ q k : Int, ¬ (q = 313 ∧ k = 20) → M6 q k = M q k := fun q k a => by rw [e6, st_ne _ _ a]
  obtain ⟨D6, hD6⟩ : ∃ D6, D6 = st (st D 2 (D (13 + i0) 1) i0) 0 8 (i0 + 1) := ⟨_, rfl⟩
  rw [← hD6] at h0 h1
  have fD : ∀ q k : Int, ¬ (q = 2 ∧ k = D (13 + i0) 1) → ¬ (q = 0 ∧ k = 8) → D6 q k = D q k := fun q k a1 a2 => by rw [hD6, st_ne _ _ a2, st_ne _ _ a1]
  have d2 : D6 2 (D (13 + i0) 1) = i0 := by rw [hD6, st_nq _ _ _ _ (by decide), st_same]
  have d8 : D6 0 8 = i0 + 1 := by rw [hD6, st_same]
  refine rm_ends hO (b := b) (D := D6) ⟨q1.tr (by rw [e6]; exact MvF.st (by unfold MvC; omega)), q2.fr (fun k _ _ => fM _ _ (by omega)) (fun k => fM _ _ (by omega)), by rw [fD _ _ (by omega) (by omega)]; exact q3, by rw [fM _ _ (by omega)]; exact q4, ?_, hP.ext (fun k _ _ => fD _ _ (by omega) (by omega)) (fun k _ _ => fM _ _ (by omega)), ⟨fun i j0 j1 => ?_, fun s u0 u5 => ?_⟩, hC.ext (fun k _ _ => fD _ _ (by omega) (by omega)) (fun k _ _ => fM _ _ (by omega)), hB.ext (fD _ _ (by omega) (by omega)) (fD _ _ (by omega) (by omega)) (fun k _ _ => fD _ _ (by omega) (by omega)) (fM _ _ (by omega)) (fM _ _ (by omega)) (fun q k _ _ _ => fM _ _ (by omega)), hT.ext (fun k _ => fD _ _ (by omega) (by omega)) (fM _ _ (by omega)), hL.ext (fun k _ _ => fD _ _ (by omega) (by omega)) (fun q k _ => fD _ _ (by omega) (by omega)) (Int.le_of_eq (fD _ _ (by omega) (by omega)).symm) (fun k _ => fD _ _ (by omega) (by omega)) (fun q k _ _ _ => fM _ _ (by omega)) (Int.le_of_eq (fM _ _ (by omega)).symm) (fun k _ => fM _ _ (by omega))⟩ h0 (fun b' e bb' M' hM => h1 b' _ M' e (by omega) hM)
  · obtain ⟨⟨s1, s2, s3, s4, s5⟩, s6, s7, s8, s9, s10⟩ := hS'
    refine ⟨⟨?_, ?_, ?_, ?_, ?_⟩, ?_, ?_, ?_, ?_, ?_⟩
    · rw [fM _ _ (by decide), fD _ _ (by omega) (by decide)]; exact s1
    · rw [fM _ _ (by decide), fD _ _ (by omega) (by decide)]; exact s2
    · rw [fM _ _ (by decide), fD _ _ (by omega) (by decide)]; exact s3
    · rw [fM _ _ (by decide), fD _ _ (by omega) (by decide)]; exact s4
    · rw [e6, st_same, d8, s5, h8]
    · rw [fD _ _ (by omega) (by decide)]; exact s6
    · rw [fD _ _ (by omega) (by decide)]; exact s7
    · omega
    · rw [fD _ _ (by omega) (by decide)]; exact s9
    · rw [fD _ _ (by omega) (by decide)]; exact s10
  · by_cases c : i = i0
    · subst c
      obtain ⟨L, l1, l2, l3⟩ := hN
      have g : ∀ k, D6 (13 + i) k = D (13 + i) k := fun k => fD _ _ (by omega) (by omega)
      refine ⟨fun j _ _ => by rw [fM _ _ (by omega), g]; exact (hF j (by omega) (by omega)).1, so.cp (fun k _ _ => g k), by rw [g, fD _ _ (by omega) (by omega)]; exact hs, by rw [g]; exact d2, L, l1, by rw [fD _ _ (by omega) (by omega)]; exact l2, by rw [fM _ _ (by omega)]; exact l3⟩
    · refine (hI.1 i j0 (by omega)).ext (fD _ _ (by omega) (by omega)) (fun k k1 k2 => fD _ _ (fun z => ?_) (by omega)) (fun k _ _ => fD _ _ (by omega) (by omega)) (fD _ _ (by omega) (by omega)) (fun q _ _ => fM _ _ (by omega)) (fM _ _ (by omega))
      rw [z.2, hs2] at k2
      omega
  · by_cases c : s = D (13 + i0) 1
    · rw [c, d2]
      exact Or.inr ⟨by omega, by omega, fD _ _ (by omega) (by omega)⟩
    · rw [fD 2 s (by omega) (by omega), d8]
      rcases hI.2 s u0 u5 with x | ⟨x1, x2, x3⟩
      · exact Or.inl x
      · exact Or.inr ⟨x1, by omega, by rw [fD _ _ (by omega) (by omega)]; exact x3⟩
end MSIT
