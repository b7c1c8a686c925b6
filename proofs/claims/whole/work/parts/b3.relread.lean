/-! THE CABIN AS IT IS READ: D of the parser, row 1 of the model -/
section RELREAD
variable {d : Nat} {D D' M M' G0 : Mem} {Q : Int → Mem → Prop} {t : Int → Int} {n b l w : Int}
def MvC (q k : Int) : Prop := (q = 311 ∧ ((3 ≤ k ∧ k ≤ 9) ∨ (27 ≤ k ∧ k ≤ 29) ∨ k = 42)) ∨ (q = 313 ∧ 12 ≤ k ∧ k < 24) ∨ q = 314 ∨ q = 330 ∨ q = 331 ∨ (315 ≤ q ∧ q ≤ 324 ∧ 5 ≤ k ∧ k < 10) ∨ ((q = 325 ∨ q = 326) ∧ 8 ≤ k ∧ k < 16) ∨ ((q = 327 ∨ q = 328) ∧ 3 ≤ k ∧ k < 6) ∨ (q = 329 ∧ 1000 ≤ k ∧ k < 2000)
def MvF (M M' : Mem) : Prop := ∀ q k : Int, ¬ MvC q k → M' q k = M q k
theorem MvF.tr {M2 : Mem} (h : MvF M M') (h' : MvF M' M2) : MvF M M2 := fun q k a => (h' q k a).trans (h q k a)
theorem MvF.rfl' : MvF M M := fun _ _ _ => rfl
theorem MvF.st {q k v : Int} (hc : MvC q k) : MvF M (st M q k v) := fun q' k' a => st_ne _ _ (fun z => a (by rw [z.1, z.2]; exact hc))
theorem MdF.mv (h : MdF M M') : MvF M M' := fun q k a => h q k (fun z => a (by unfold MvC; omega))
theorem EF.mv {x c : Int} (hx : 0 ≤ x) (hc : 1000 ≤ c) (h : EF x c M M') : MvF M M' := fun q k a => h q k (fun z => a (by unfold MvC; omega)) (fun z => a (by unfold MvC; omega)) (fun z => a (by unfold MvC; omega)) (fun z => a (by unfold MvC; omega))
def NmR (D M : Mem) (i : Int) : Prop := ∃ L, (WdOk L ∧ L.length ≤ 8) ∧ D 20 i = fR 32 L ∧ M 314 i = fR 27 L
def RcS (D M : Mem) : Prop := (M 313 12 = D 0 6 ∧ M 313 13 = D 0 7 ∧ M 313 14 = D 0 9 ∧ M 313 19 = D 0 10 ∧ M 313 20 = D 0 8) ∧ (2 ≤ D 0 6 ∧ D 0 6 ≤ 5) ∧ (1 ≤ D 0 7 ∧ D 0 7 ≤ 72) ∧ (0 ≤ D 0 8 ∧ D 0 8 ≤ 5) ∧ (5 ≤ D 0 9 ∧ D 0 9 ≤ 20) ∧ (0 ≤ D 0 10 ∧ D 0 10 ≤ 10)
def RcP (D M : Mem) : Prop := ∀ k, 0 ≤ k → k < 4 → M 313 (15 + k) = D 5 k ∧ 0 ≤ D 5 k ∧ D 5 k ≤ 99
def SiR (D M : Mem) (i : Int) : Prop := (∀ j, 0 ≤ j → j ≤ 8 → M (315 + j) (5 + i) = D (13 + i) j) ∧ SitOk D (13 + i) ∧ D (13 + i) 1 < D 0 6 ∧ D 2 (D (13 + i) 1) = i ∧ NmR D M i
def RcI (D M : Mem) : Prop := (∀ i, 0 ≤ i → i < D 0 8 → SiR D M i) ∧ ∀ s, 0 ≤ s → s < 5 → D 2 s = -1 ∨ (0 ≤ D 2 s ∧ D 2 s < D 0 8 ∧ D (13 + D 2 s) 1 = s)
def RcC (D M : Mem) : Prop := ∀ s, 0 ≤ s → s < 5 → M 324 (5 + s) = D 3 s ∧ 0 ≤ D 3 s ∧ D 3 s ≤ 1
def TdK (D : Mem) (k : Int) : Prop := (k < 4 ∧ k < D 21 9) ∨ (4 ≤ k ∧ k - 4 < D 21 10)
def RcB (D M : Mem) : Prop := (M 313 21 = D 21 9 ∧ M 313 22 = D 21 10) ∧ (0 ≤ D 21 9 ∧ D 21 9 ≤ 4) ∧ (0 ≤ D 21 10 ∧ D 21 10 ≤ 4) ∧ (∀ k, 0 ≤ k → k < 8 → TdK D k → (0 ≤ M 325 (8 + k) ∧ M 325 (8 + k) ≤ 72) ∧ (0 ≤ M 326 (8 + k) ∧ M 326 (8 + k) ≤ 72)) ∧ ∀ u, 0 ≤ u → u < 72 → (0 ≤ D 4 u ∧ D 4 u ≤ 1) ∧ (D 4 u ≠ 0 ↔ ∃ k, 0 ≤ k ∧ k < 8 ∧ TdK D k ∧ M 325 (8 + k) ≤ u ∧ u ≤ M 326 (8 + k))
def RcT (D M : Mem) : Prop := M 311 28 = (if 1 ≤ D 21 27 then 4 else 0) + (if 1 ≤ D 21 11 then 8 else 0) + (if 1 ≤ D 21 12 then 128 else 0) ∧ 0 ≤ D 21 27 ∧ 0 ≤ D 21 11 ∧ 0 ≤ D 21 12
def LwR (D M : Mem) (l : Int) : Prop := (D 21 (13 + l) = 0 ∧ D 8 l = 0 ∧ M 327 (3 + l) = 1000 ∧ M 328 (3 + l) = 1000) ∨ (1 ≤ D 21 (13 + l) ∧ D 8 l = 1 ∧ ∃ ts ps f, Den l 0 0 ts ps f ∧ 0 ≤ D 9 l ∧ D 10 l = D 9 l + (ps.length : Int) ∧ D 10 l ≤ D 6 6 ∧ At (fun k => D 11 k) (D 9 l) ps ∧ 1000 ≤ M 327 (3 + l) ∧ M 328 (3 + l) = M 327 (3 + l) + (ts.length : Int) ∧ M 328 (3 + l) ≤ M 311 27 ∧ At (fun k => M 329 k) (M 327 (3 + l)) ts)
def RcL (D M : Mem) : Prop := ∀ l, 0 ≤ l → l < 3 → LwR D M l
theorem RcS.ext (h : RcS D M) (e : ∀ k, 6 ≤ k → k ≤ 10 → D' 0 k = D 0 k) (f : ∀ k, k = 12 ∨ k = 13 ∨ k = 14 ∨ k = 19 ∨ k = 20 → M' 313 k = M 313 k) : RcS D' M' := by
  unfold RcS at *
  rw [e 6 (by omega) (by omega), e 7 (by omega) (by omega), e 8 (by omega) (by omega), e 9 (by omega) (by omega), e 10 (by omega) (by omega), f 12 (by omega), f 13 (by omega), f 14 (by omega), f 19 (by omega), f 20 (by omega)]
  exact h
theorem RcP.ext (h : RcP D M) (e : ∀ k, 0 ≤ k → k < 4 → D' 5 k = D 5 k) (f : ∀ k, 15 ≤ k → k < 19 → M' 313 k = M 313 k) : RcP D' M' := fun k k0 k1 => by
  rw [e k k0 k1, f _ (by omega) (by omega)]
  exact h k k0 k1
theorem SiR.ext {i : Int} (h : SiR D M i) (e6 : D' 0 6 = D 0 6) (e2 : ∀ k, k ≠ -1 → D 2 k = i → D' 2 k = D 2 k) (e : ∀ k, 0 ≤ k → k ≤ 8 → D' (13 + i) k = D (13 + i) k) (e20 : D' 20 i = D 20 i) (f : ∀ q, 315 ≤ q → q ≤ 323 → M' q (5 + i) = M q (5 + i)) (f14 : M' 314 i = M 314 i) : SiR D' M' i := by
  obtain ⟨h1, h2, h3, h4, L, l1, l2, l3⟩ := h
  have b1 := h2.2.1
  refine ⟨fun j j0 j1 => by rw [f _ (by omega) (by omega), e j j0 j1]; exact h1 j j0 j1, h2.cp e, by rw [e 1 (by omega) (by omega), e6]; exact h3, ?_, L, l1, by rw [e20]; exact l2, by rw [f14]; exact l3⟩
  rw [e 1 (by omega) (by omega), e2 _ (by omega) h4]
  exact h4
theorem RcI.ext (h : RcI D M) (e6 : D' 0 6 = D 0 6) (e8 : D' 0 8 = D 0 8) (e2 : ∀ k, D' 2 k = D 2 k) (e : ∀ i k, 0 ≤ i → i < D 0 8 → D' (13 + i) k = D (13 + i) k) (e20 : ∀ i, 0 ≤ i → i < D 0 8 → D' 20 i = D 20 i) (f : ∀ q i, 315 ≤ q → q ≤ 323 → 0 ≤ i → i < D 0 8 → M' q (5 + i) = M q (5 + i)) (f14 : ∀ i, 0 ≤ i → i < D 0 8 → M' 314 i = M 314 i) : RcI D' M' := by
  refine ⟨fun i i0 i1 => ?_, fun s s0 s5 => ?_⟩
  · rw [e8] at i1
    exact (h.1 i i0 i1).ext e6 (fun k _ _ => e2 k) (fun k _ _ => e i k i0 i1) (e20 i i0 i1) (fun q q0 q1 => f q i q0 q1 i0 i1) (f14 i i0 i1)
  · rw [e2, e8]
    rcases h.2 s s0 s5 with x | ⟨x1, x2, x3⟩
    · exact Or.inl x
    · exact Or.inr ⟨x1, x2, by rw [e _ _ x1 x2]; exact x3⟩
theorem RcC.ext (h : RcC D M) (e : ∀ k, 0 ≤ k → k < 5 → D' 3 k = D 3 k) (f : ∀ k, 5 ≤ k → k < 10 → M' 324 k = M 324 k) : RcC D' M' := fun k k0 k1 => by
  rw [e k k0 k1, f _ (by omega) (by omega)]
  exact h k k0 k1
theorem RcB.ext (h : RcB D M) (e9 : D' 21 9 = D 21 9) (e10 : D' 21 10 = D 21 10) (e : ∀ k, 0 ≤ k → k < 72 → D' 4 k = D 4 k) (f21 : M' 313 21 = M 313 21) (f22 : M' 313 22 = M 313 22) (f : ∀ q k, q = 325 ∨ q = 326 → 8 ≤ k → k < 16 → M' q k = M q k) : RcB D' M' := by
  obtain ⟨h1, h2, h3, h4, h5⟩ := h
  have tk : ∀ k, TdK D' k ↔ TdK D k := fun k => by unfold TdK; rw [e9, e10]
  refine ⟨by rw [e9, e10, f21, f22]; exact h1, by rw [e9]; exact h2, by rw [e10]; exact h3, fun k k0 k1 hk => ?_, fun u u0 u1 => ?_⟩
  · rw [f 325 _ (by omega) (by omega) (by omega), f 326 _ (by omega) (by omega) (by omega)]
    exact h4 k k0 k1 ((tk k).mp hk)
  · rw [e u u0 u1]
    refine ⟨(h5 u u0 u1).1, (h5 u u0 u1).2.trans ⟨fun ⟨k, k0, k1, k2, k3⟩ => ⟨k, k0, k1, (tk k).mpr k2, ?_⟩, fun ⟨k, k0, k1, k2, k3⟩ => ⟨k, k0, k1, (tk k).mp k2, ?_⟩⟩⟩
    · rw [f 325 _ (by omega) (by omega) (by omega), f 326 _ (by omega) (by omega) (by omega)]; exact k3
    · rw [f 325 _ (by omega) (by omega) (by omega), f 326 _ (by omega) (by omega) (by omega)] at k3; exact k3
theorem RcT.ext (h : RcT D M) (e : ∀ k, k = 27 ∨ k = 11 ∨ k = 12 → D' 21 k = D 21 k) (f : M' 311 28 = M 311 28) : RcT D' M' := by
  unfold RcT at *
  rw [e 27 (by omega), e 11 (by omega), e 12 (by omega), f]
  exact h
theorem LwR.ext (hl : 0 ≤ l ∧ l < 3) (h : LwR D M l) (e21 : D' 21 (13 + l) = D 21 (13 + l)) (e : ∀ q, q = 8 ∨ q = 9 ∨ q = 10 → D' q l = D q l) (e66 : D 6 6 ≤ D' 6 6) (e11 : ∀ k, k < D 6 6 → D' 11 k = D 11 k) (f : ∀ q, q = 327 ∨ q = 328 → M' q (3 + l) = M q (3 + l)) (f27 : M 311 27 ≤ M' 311 27) (f29 : ∀ k, k < M 311 27 → M' 329 k = M 329 k) : LwR D' M' l := by
  unfold LwR at *
  rw [e21, e 8 (by omega), e 9 (by omega), e 10 (by omega), f 327 (by omega), f 328 (by omega)]
  rcases h with h | ⟨h1, h2, ts, ps, g, a1, a2, a3, a4, a5, a6, a7, a8, a9⟩
  · exact Or.inl h
  · exact Or.inr ⟨h1, h2, ts, ps, g, a1, a2, a3, by omega, At_ext _ _ (fun k _ _ => (e11 k (by omega)).symm) a5, a6, a7, by omega, At_ext _ _ (fun k _ _ => (f29 k (by omega)).symm) a9⟩
theorem RcL.ext (h : RcL D M) (e21 : ∀ k, 13 ≤ k → k < 16 → D' 21 k = D 21 k) (e : ∀ q k, q = 8 ∨ q = 9 ∨ q = 10 → D' q k = D q k) (e66 : D 6 6 ≤ D' 6 6) (e11 : ∀ k, k < D 6 6 → D' 11 k = D 11 k) (f : ∀ q k, q = 327 ∨ q = 328 → 3 ≤ k → k < 6 → M' q k = M q k) (f27 : M 311 27 ≤ M' 311 27) (f29 : ∀ k, k < M 311 27 → M' 329 k = M 329 k) : RcL D' M' := fun l l0 l3 =>
  (h l l0 l3).ext ⟨l0, l3⟩ (e21 _ (by omega) (by omega)) (fun q hq => e q l hq) e66 e11 (fun q hq => f q _ hq (by omega) (by omega)) f27 f29
def RC (D M : Mem) : Prop := RcS D M ∧ RcP D M ∧ RcI D M ∧ RcC D M ∧ RcB D M ∧ RcT D M ∧ RcL D M
def RM (G0 : Mem) (t : Int → Int) (n b : Int) (D M : Mem) : Prop := MvF G0 M ∧ MdX t n b M ∧ (0 ≤ D 6 6 ∧ D 6 6 ≤ b) ∧ (1000 ≤ M 311 27 ∧ M 311 27 ≤ 1000 + b) ∧ RC D M
/-- what the class and the model have of a cabin that is read -/
theorem RC.cab (h : RC D M) : CabR D M 0 1 ∧ CbOk D 0 := by
  obtain ⟨⟨⟨s1, s2, s3, s4, s5⟩, s6, s7, s8, s9, s10⟩, hP, hI, hC, hB, hT, hL⟩ := h
  obtain ⟨⟨b1, b2⟩, b3, b4, b5, b6⟩ := hB
  have tk : ∀ k, TldK M 1 k ↔ TdK D k := fun k => by
    unfold TldK TdK
    rw [show (12 : Int) * 1 + 9 = 21 by decide, show (12 : Int) * 1 + 10 = 22 by decide, b1, b2]
  refine ⟨⟨⟨s1, s2, s3, s4, s5⟩, fun k k0 k1 => (hP k k0 k1).1, fun i i0 i1 => ?_, fun i i0 i1 => (hC i i0 i1).1, ?_, fun k k0 k1 hk => b5 k k0 k1 ((tk k).mp hk), fun u u0 u1 => ?_⟩, s6, s7, s8, s9, s10, fun i i0 i1 => ?_, fun s s0 s1 => ?_, fun s s0 s1 => (hC s s0 s1).2, fun u u0 u1 => (b6 u u0 u1).1, fun k k0 k1 => (hP k k0 k1).2⟩
  · have a := (hI.1 i i0 i1).1
    rw [show (0 : Int) + 13 + i = 13 + i by omega, show (5 : Int) * 1 + i = 5 + i by omega]
    exact ⟨a 0 (by omega) (by omega), a 1 (by omega) (by omega), a 2 (by omega) (by omega), a 3 (by omega) (by omega), a 4 (by omega) (by omega), a 5 (by omega) (by omega), a 6 (by omega) (by omega), a 7 (by omega) (by omega), a 8 (by omega) (by omega)⟩
  · show (0 ≤ M 313 21 ∧ M 313 21 ≤ 4) ∧ 0 ≤ M 313 22 ∧ M 313 22 ≤ 4
    omega
  · rw [show (0 : Int) + 4 = 4 by decide]
    refine (b6 u u0 u1).2.trans ⟨fun ⟨k, k0, k1, k2, k3⟩ => ⟨k, k0, k1, (tk k).mpr k2, k3⟩, fun ⟨k, k0, k1, k2, k3⟩ => ⟨k, k0, k1, (tk k).mp k2, k3⟩⟩
  · have a := hI.1 i i0 i1
    rw [show (0 : Int) + 13 + i = 13 + i by omega]
    exact ⟨a.2.1, a.2.2.1, a.2.2.2.1⟩
  · have a := hI.2 s s0 s1
    rw [show (0 : Int) + 2 = 2 by decide, show (0 : Int) + 13 + D 2 s = 13 + D 2 s by omega]
    exact a
/-- and of its laws -/
theorem RM.laws (h : RM G0 t n b D M) (hn : n ≤ 1000) : ∃ fs, LawsR D M 0 1 fs := by
  have hL := h.2.2.2.2.2.2.2.2.2.2
  have h6 := h.2.2.1
  have h27 := h.2.2.2.1
  have hb := h.2.1.2.1
  have one : ∀ l, 0 ≤ l → l < 3 → ∃ f, LawR D M 0 1 l f := fun l l0 l3 => by
    rcases hL l l0 l3 with ⟨a1, a2, a3, a4⟩ | ⟨a1, a2, ts, ps, f, x1, x2, x3, x4, x5, x6, x7, x8, x9⟩
    · refine ⟨fun _ => 0, Or.inl ⟨?_, ?_, ?_⟩⟩
      · rw [show (0 : Int) + 8 = 8 by decide]; exact a2
      · rw [show (3 : Int) * 1 + l = 3 + l by omega, a3, a4]
      · rw [show (3 : Int) * 1 + l = 3 + l by omega, a3]; omega
    · refine ⟨f, Or.inr ⟨?_, ts, ps, x1, ?_⟩⟩
      · rw [show (0 : Int) + 8 = 8 by decide]; exact a2
      · rw [show (3 : Int) * 1 + l = 3 + l by omega, show (0 : Int) + 9 = 9 by decide, show (0 : Int) + 10 = 10 by decide, show (0 : Int) + 6 = 6 by decide, show (0 : Int) + 11 = 11 by decide]
        exact ⟨x2, x3, x4, x5, by omega, x7, by omega, x9⟩
  obtain ⟨f0, h0⟩ := one 0 (by omega) (by omega)
  obtain ⟨f1, h1⟩ := one 1 (by omega) (by omega)
  obtain ⟨f2, h2⟩ := one 2 (by omega) (by omega)
  refine ⟨fun l => if l = 0 then f0 else if l = 1 then f1 else f2, ⟨?_, fun l l0 l3 => ?_⟩⟩
  · rw [show (0 : Int) + 6 = 6 by decide]; omega
  · have c : l = 0 ∨ l = 1 ∨ l = 2 := by omega
    rcases c with rfl | rfl | rfl
    · exact h0
    · exact h1
    · exact h2
theorem pT_in {w : Int} (hw : 0 ≤ w ∧ w < 32) : pT w (.inr (b, D)) = if (w = 9 ∨ w = 10) ∧ 4 ≤ D 21 w then fl 5 b else if (w = 27 ∨ (11 ≤ w ∧ w ≤ 15)) ∧ 1 ≤ D 21 w then fl 3 b else .inr (b, st D 21 w (D 21 w + 1)) := by
  unfold pT
  rw [if_neg (by omega)]
  have e1 : pT1 w (.inr (b, D)) = if (w = 9 ∨ w = 10) ∧ 4 ≤ D 21 w then fl 5 b else .inr (b, D) := rfl
  have e2 : pT2 w (.inr (b, D)) = if (w = 27 ∨ (11 ≤ w ∧ w ≤ 15)) ∧ 1 ≤ D 21 w then fl 3 b else .inr (b, D) := rfl
  rw [e1]
  by_cases c1 : (w = 9 ∨ w = 10) ∧ 4 ≤ D 21 w
  · rw [if_pos c1, if_pos c1]; rfl
  · rw [if_neg c1, if_neg c1, e2]
    by_cases c2 : (w = 27 ∨ (11 ≤ w ∧ w ≤ 15)) ∧ 1 ≤ D 21 w
    · rw [if_pos c2, if_pos c2]; rfl
    · rw [if_neg c2, if_neg c2]; rfl
theorem pW_t {w : Int} (h : isW t n w b) : pW t n w (.inr (b, D)) = .inr (nxt t n b, D) := by unfold pW; rw [bnd_r, if_pos h]
end RELREAD
