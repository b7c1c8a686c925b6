section MONES
variable {d : Nat} {D D' M M' G0 : Mem} {Q : Int → Mem → Prop} {t : Int → Int} {n b b' l w : Int}
def tb3 (x y z : Bool) : Int := (if x = true then 4 else 0) + (if y = true then 8 else 0) + (if z = true then 128 else 0)
theorem tb3_bits : ∀ x y z : Bool, (InR (tb3 x y z) ∧ andI (shrI (tb3 x y z) 2) 1 = (if x = true then 1 else 0) ∧ andI (shrI (tb3 x y z) 3) 1 = (if y = true then 1 else 0) ∧ andI (shrI (tb3 x y z) 7) 1 = (if z = true then 1 else 0)) ∧ (x = false → orI (tb3 x y z) (shlI 1 2) = tb3 true y z) ∧ (y = false → orI (tb3 x y z) (shlI 1 3) = tb3 x true z) ∧ (z = false → orI (tb3 x y z) (shlI 1 7) = tb3 x y true) := by
  unfold andI shrI orI shlI tb3
  decide +kernel
theorem RcT.tb (h : RcT D M) : M 311 28 = tb3 (decide (1 ≤ D 21 27)) (decide (1 ≤ D 21 11)) (decide (1 ≤ D 21 12)) := by
  rw [h.1]
  unfold tb3
  simp only [decide_eq_true_eq]
theorem RcT.of (h : M 311 28 = tb3 (decide (1 ≤ D 21 27)) (decide (1 ≤ D 21 11)) (decide (1 ≤ D 21 12))) (h0 : 0 ≤ D 21 27 ∧ 0 ≤ D 21 11 ∧ 0 ≤ D 21 12) : RcT D M := by
  refine ⟨?_, h0⟩
  rw [h]
  unfold tb3
  simp only [decide_eq_true_eq]
/-- the words that are told once: 27 gap, 11 price, 12 feign, at the bits 2, 3, 7 -/
def onceB (w p : Int) : Prop := (w = 27 ∧ p = 2) ∨ (w = 11 ∧ p = 3) ∨ (w = 12 ∧ p = 7)
theorem c_isTwice {p : Int} (h : RcT D M) (hw : onceB w p) (h1 : 1 ≤ D 21 w → Q 1 M) (h0 : D 21 w = 0 → ∀ v, RcT (st D 21 w (D 21 w + 1)) (st M 311 28 v) → Q 0 (st M 311 28 v)) : Ct d M_X12_isTwice NT 0 0 (some lay) [(2, 311), (0, p)] M Q := by
  have e := h.tb
  obtain ⟨-, z27, z11, z12⟩ := h
  obtain ⟨⟨b0, b2, b3, b7⟩, o2, o3, o7⟩ := tb3_bits (decide (1 ≤ D 21 27)) (decide (1 ≤ D 21 11)) (decide (1 ≤ D 21 12))
  rw [← e] at b2 b3 b7 o2 o3 o7
  have key : ∀ B : Bool, B = decide (1 ≤ D 21 w) → andI (shrI (M 311 28) p) 1 = (if B = true then 1 else 0) → (B = false → RcT (st D 21 w (D 21 w + 1)) (st M 311 28 (orI (M 311 28) (shlI 1 p)))) → 0 ≤ D 21 w → Ct d M_X12_isTwice NT 0 0 (some lay) [(2, 311), (0, p)] M Q := fun B eB ea eo z => by
    refine ctof (s_X12_isTwice_0 ?_)
    rw [ea]
    by_cases c : 1 ≤ D 21 w
    · rw [if_pos (by rw [eB]; exact decide_eq_true c)]
      exact ⟨by decide, fun x => absurd rfl x, fun _ => h1 c⟩
    · have bf : B = false := by rw [eB]; exact decide_eq_false c
      rw [if_neg (by rw [bf]; decide)]
      exact ⟨by decide, fun _ G3 e3 => by rw [e3]; exact h0 (by omega) _ (eo bf), fun x => absurd (by decide) x⟩
  have s21 : ∀ k v : Int, st D 21 w v 21 k = if k = w then v else D 21 k := fun k v => by
    by_cases c : k = w
    · rw [c, st_same, if_pos rfl]
    · rw [st_nk _ _ _ c, if_neg c]
  rcases hw with ⟨rfl, rfl⟩ | ⟨rfl, rfl⟩ | ⟨rfl, rfl⟩
  · refine key _ rfl b2 (fun f => RcT.of ?_ ?_) z27
    · rw [st_same, o2 f, s21, s21, s21, if_pos rfl, if_neg (by decide), if_neg (by decide), show decide (1 ≤ D 21 27 + 1) = true by exact decide_eq_true (by omega)]
    · rw [s21, s21, s21, if_pos rfl, if_neg (by decide), if_neg (by decide)]; omega
  · refine key _ rfl b3 (fun f => RcT.of ?_ ?_) z11
    · rw [st_same, o3 f, s21, s21, s21, if_pos rfl, if_neg (by decide), if_neg (by decide), show decide (1 ≤ D 21 11 + 1) = true by exact decide_eq_true (by omega)]
    · rw [s21, s21, s21, if_pos rfl, if_neg (by decide), if_neg (by decide)]; omega
  · refine key _ rfl b7 (fun f => RcT.of ?_ ?_) z12
    · rw [st_same, o7 f, s21, s21, s21, if_pos rfl, if_neg (by decide), if_neg (by decide), show decide (1 ≤ D 21 12 + 1) = true by exact decide_eq_true (by omega)]
    · rw [s21, s21, s21, if_pos rfl, if_neg (by decide), if_neg (by decide)]; omega
/-- the word of a line told once: what is told behind it -/
theorem RM.once {p v : Int} (hR : RM G0 t n b D M) (hw : onceB w p) (hT : RcT (st D 21 w (D 21 w + 1)) (st M 311 28 v)) : RM G0 t n b (st D 21 w (D 21 w + 1)) (st M 311 28 v) := by
  obtain ⟨q1, q2, q3, q4, hS, hP, hI, hC, hB, -, hL⟩ := hR
  have r := hS.2.2.2.1
  have hw' : w = 27 ∨ w = 11 ∨ w = 12 := by unfold onceB at hw; omega
  have fM : ∀ q k : Int, ¬ (q = 311 ∧ k = 28) → st M 311 28 v q k = M q k := fun q k a => st_ne _ _ a
  have fD : ∀ q k : Int, ¬ (q = 21 ∧ k = w) → st D 21 w (D 21 w + 1) q k = D q k := fun q k a => st_ne _ _ a
  exact ⟨q1.tr (MvF.st (by unfold MvC; omega)), q2.fr (fun k _ _ => fM _ _ (by omega)) (fun k => fM _ _ (by omega)), by rw [fD _ _ (by omega)]; exact q3, by rw [fM _ _ (by omega)]; exact q4, hS.ext (fun k _ _ => fD _ _ (by omega)) (fun k _ => fM _ _ (by omega)), hP.ext (fun k _ _ => fD _ _ (by omega)) (fun k _ _ => fM _ _ (by omega)), hI.ext (fD _ _ (by omega)) (fD _ _ (by omega)) (fun k => fD _ _ (by omega)) (fun i k _ _ => fD _ _ (by omega)) (fun i _ _ => fD _ _ (by omega)) (fun q i _ _ _ _ => fM _ _ (by omega)) (fun i _ _ => fM _ _ (by omega)), hC.ext (fun k _ _ => fD _ _ (by omega)) (fun k _ _ => fM _ _ (by omega)), hB.ext (fD _ _ (by omega)) (fD _ _ (by omega)) (fun k _ _ => fD _ _ (by omega)) (fM _ _ (by omega)) (fM _ _ (by omega)) (fun q k _ _ _ => fM _ _ (by omega)), hT, hL.ext (fun k _ _ => fD _ _ (by omega)) (fun q k _ => fD _ _ (by omega)) (Int.le_of_eq (fD _ _ (by omega)).symm) (fun k _ => fD _ _ (by omega)) (fun q k _ _ _ => fM _ _ (by omega)) (Int.le_of_eq (fM _ _ (by omega)).symm) (fun k _ => fM _ _ (by omega))⟩
/-- gap, feign -/
theorem m_one {p k0 lo hi : Int} (hO : TpO t n) (hR : RM G0 t n b D M) (hw : isW t n w b) (hp : (w = 27 ∧ p = 2 ∧ k0 = 9 ∧ lo = 5 ∧ hi = 20) ∨ (w = 12 ∧ p = 7 ∧ k0 = 10 ∧ lo = 0 ∧ hi = 10)) (h0 : ∀ e, pS t n 59 (pItem t n w (pT w (.inr (b, D)))) = .inl e → ∀ M', MvF G0 M' → M' 311 9 = e → Q 0 M') (h1 : ∀ b' D' M', pS t n 59 (pItem t n w (pT w (.inr (b, D)))) = .inr (b', D') → b < b' → RM G0 t n b' D' M' → Q 1 M') : Ct (d + 4) M_X12_readsOne NT 0 0 (some lay) [(2, 311), (0, p), (0, lo), (0, hi)] M Q := by
  have oo := hO.1
  have bb := hR.2.1.2.1
  have hb : onceB w p := by unfold onceB; omega
  have b1 := nxt_1 bb (show tkd t n b ≠ 0 by have := hw.1; omega)
  have eI : ∀ r, pItem t n w r = pN t n (fun _ => lo) (fun _ => hi) (fun _ => 0) (fun _ => k0) (pW t n w r) := fun r => by
    rcases hp with ⟨rfl, rfl, rfl, rfl, rfl⟩ | ⟨rfl, rfl, rfl, rfl, rfl⟩ <;> rfl
  rw [eI, pT_in (by omega), if_neg (by omega)] at h0 h1
  refine ctof (s_X12_readsOne_0 (c_isTwice hR.2.2.2.2.2.2.2.2.2.1 hb (fun c => ⟨by decide, fun z => absurd z (by decide), fun _ => c_failsX hR.2.1 (fun M2 f2 g2 => ⟨Or.inl rfl, h0 (3 + 16 * b) (by rw [if_pos ⟨by omega, c⟩]; rfl) M2 (hR.1.tr f2.mv) g2⟩)⟩) (fun c v hT => ⟨by decide, fun _ => ?_, fun z => absurd rfl z⟩)))
  rw [if_neg (by omega), pW_t hw] at h0 h1
  have R0 := hR.once hb hT
  generalize st M 311 28 v = M0 at *
  generalize st D 21 w (D 21 w + 1) = D1 at *
  refine c_nextX hO R0.2.1 (fun M1 f1 m1 => ?_)
  have R1 : RM G0 t n (nxt t n b) D1 M1 := R0.go f1.md m1 (by omega) DmF.rfl'
  generalize nxt t n b = p1 at *
  have n1 := (nxt_in (t := t) m1.2.1).1
  refine c_nNum (D := D1) (lo := fun _ => lo) (hi := fun _ => hi) hO m1 rfl rfl (by omega) (by omega) (fun v ev v0 v1 M2 f2 m2 g2 => ⟨by decide, fun _ => ⟨by omega, fun M6 e6 => ?_⟩, fun z => absurd (by decide) z⟩) (fun e ee M2 f2 g2 => ⟨by decide, fun z => absurd rfl z, fun _ => h0 e (by unfold pN; rw [ee]; rfl) M2 (R1.1.tr f2.mv) g2⟩)
  have eN : pN t n (fun _ => lo) (fun _ => hi) (fun _ => 0) (fun _ => k0) (.inr (p1, D1)) = .inr (nxt t n p1, st (st D1 30 0 v) 0 k0 v) := by unfold pN; rw [ev, bnd_r, st_same]
  rw [eN] at h0 h1
  rw [g2] at e6
  have R2 : RM G0 t n (nxt t n p1) (st D1 30 0 v) M2 := R1.go f2 m2 n1 (fun q k a _ => st_nq _ _ _ _ a)
  generalize st D1 30 0 v = D2 at *
  obtain ⟨q1, q2, q3, q4, hS, hP, hI, hC, hB, hT, hL⟩ := R2
  have fM : ∀ q k : Int, ¬ (q = 313 ∧ k = 12 + p) → M6 q k = M2 q k := fun q k a => by rw [e6, st_ne _ _ a]
  have fD : ∀ q k : Int, ¬ (q = 0 ∧ k = k0) → st D2 0 k0 v q k = D2 q k := fun q k a => st_ne _ _ a
  refine rm_ends hO (b := nxt t n p1) (D := st D2 0 k0 v) ⟨q1.tr (by rw [e6]; exact MvF.st (by unfold MvC; omega)), q2.fr (fun k _ _ => fM _ _ (by omega)) (fun k => fM _ _ (by omega)), by rw [fD _ _ (by omega)]; exact q3, by rw [fM _ _ (by omega)]; exact q4, ?_, hP.ext (fun k _ _ => fD _ _ (by omega)) (fun k _ _ => fM _ _ (by omega)), hI.ext (fD _ _ (by omega)) (fD _ _ (by omega)) (fun k => fD _ _ (by omega)) (fun i k _ _ => fD _ _ (by omega)) (fun i _ _ => fD _ _ (by omega)) (fun q i _ _ _ _ => fM _ _ (by omega)) (fun i _ _ => fM _ _ (by omega)), hC.ext (fun k _ _ => fD _ _ (by omega)) (fun k _ _ => fM _ _ (by omega)), hB.ext (fD _ _ (by omega)) (fD _ _ (by omega)) (fun k _ _ => fD _ _ (by omega)) (fM _ _ (by omega)) (fM _ _ (by omega)) (fun q k _ _ _ => fM _ _ (by omega)), hT.ext (fun k _ => fD _ _ (by omega)) (fM _ _ (by omega)), hL.ext (fun k _ _ => fD _ _ (by omega)) (fun q k _ => fD _ _ (by omega)) (Int.le_of_eq (fD _ _ (by omega)).symm) (fun k _ => fD _ _ (by omega)) (fun q k _ _ _ => fM _ _ (by omega)) (Int.le_of_eq (fM _ _ (by omega)).symm) (fun k _ => fM _ _ (by omega))⟩ h0 (fun b' e bb' M' hM => h1 b' _ M' e (by omega) hM)
  obtain ⟨⟨s1, s2, s3, s4, s5⟩, s6, s7, s8, s9, s10⟩ := hS
  rcases hp with ⟨rfl, rfl, rfl, rfl, rfl⟩ | ⟨rfl, rfl, rfl, rfl, rfl⟩
  · refine ⟨⟨?_, ?_, ?_, ?_, ?_⟩, ?_, ?_, ?_, ?_, ?_⟩
    · rw [fM _ _ (by decide), fD _ _ (by decide)]; exact s1
    · rw [fM _ _ (by decide), fD _ _ (by decide)]; exact s2
    · rw [e6, show (14 : Int) = 12 + 2 by decide, st_same, st_same]
    · rw [fM _ _ (by decide), fD _ _ (by decide)]; exact s4
    · rw [fM _ _ (by decide), fD _ _ (by decide)]; exact s5
    · rw [fD _ _ (by decide)]; exact s6
    · rw [fD _ _ (by decide)]; exact s7
    · rw [fD _ _ (by decide)]; exact s8
    · rw [st_same]; exact ⟨v0, v1⟩
    · rw [fD _ _ (by decide)]; exact s10
  · refine ⟨⟨?_, ?_, ?_, ?_, ?_⟩, ?_, ?_, ?_, ?_, ?_⟩
    · rw [fM _ _ (by decide), fD _ _ (by decide)]; exact s1
    · rw [fM _ _ (by decide), fD _ _ (by decide)]; exact s2
    · rw [fM _ _ (by decide), fD _ _ (by decide)]; exact s3
    · rw [e6, show (19 : Int) = 12 + 7 by decide, st_same, st_same]
    · rw [fM _ _ (by decide), fD _ _ (by decide)]; exact s5
    · rw [fD _ _ (by decide)]; exact s6
    · rw [fD _ _ (by decide)]; exact s7
    · rw [fD _ _ (by decide)]; exact s8
    · rw [fD _ _ (by decide)]; exact s9
    · rw [st_same]; exact ⟨v0, v1⟩
/-- the prices -/
theorem m_price (hO : TpO t n) (hR : RM G0 t n b D M) (hw : isW t n 11 b) (h0 : ∀ e, pS t n 59 (pItem t n 11 (pT 11 (.inr (b, D)))) = .inl e → ∀ M', MvF G0 M' → M' 311 9 = e → Q 0 M') (h1 : ∀ b' D' M', pS t n 59 (pItem t n 11 (pT 11 (.inr (b, D)))) = .inr (b', D') → b < b' → RM G0 t n b' D' M' → Q 1 M') : Ct (d + 4) M_X12_readsPrice NT 0 0 (some lay) [(2, 311)] M Q := by
  have oo := hO.1
  have bb := hR.2.1.2.1
  have hb : onceB 11 3 := by unfold onceB; omega
  have b1 := nxt_1 bb (show tkd t n b ≠ 0 by have := hw.1; omega)
  have eI : ∀ r, pItem t n 11 r = pPr t n 4 (pW t n 11 r) := fun _ => rfl
  rw [eI, pT_in (by omega), if_neg (by omega)] at h0 h1
  have ePl : ∀ (k : Nat) (e : Int), pPr t n k (.inl e) = .inl e := fun k e => by
    induction k with
    | zero => rfl
    | succ k ih => exact ih
  refine ctof (s_X12_readsPrice_0 (c_isTwice hR.2.2.2.2.2.2.2.2.2.1 hb (fun c => ⟨by decide, fun z => absurd z (by decide), fun _ => c_failsX hR.2.1 (fun M2 f2 g2 => ⟨Or.inl rfl, h0 (3 + 16 * b) (by rw [if_pos ⟨by omega, c⟩]; rfl) M2 (hR.1.tr f2.mv) g2⟩)⟩) (fun c v hT => ⟨by decide, fun _ => ?_, fun z => absurd rfl z⟩)))
  rw [if_neg (by omega), pW_t hw] at h0 h1
  have R0 := hR.once hb hT
  generalize st M 311 28 v = M0 at *
  generalize st D 21 11 (D 21 11 + 1) = D1 at *
  refine c_nextX hO R0.2.1 (fun M1 f1 m1 => ?_)
  have R1 : RM G0 t n (nxt t n b) D1 M1 := R0.go f1.md m1 (by omega) DmF.rfl'
  generalize nxt t n b = p1 at *
  have key : ∀ (k i : Nat) (p : Int) (D M : Mem), i + k = 4 → b < p → RM G0 t n p D M → (∀ e, pS t n 59 (pPr t n k (.inr (p, D))) = .inl e → ∀ M', MvF G0 M' → M' 311 9 = e → Q 0 M') → (∀ b' D' M', pS t n 59 (pPr t n k (.inr (p, D))) = .inr (b', D') → b < b' → RM G0 t n b' D' M' → Q 1 M') → Rn (d + 4) M_X12_readsPrice zN 20 [(0, (2, 311)), (1, (0, (i : Int)))] [] M Q := by
    intro k
    induction k with
    | zero =>
      intro i p D M hi hp R h0 h1
      exact s_X12_readsPrice_20 ⟨by omega, fun _ => rm_ends hO R h0 (fun b' e bb' M' hM => h1 b' _ M' e (by omega) hM), fun z => absurd (by omega) z⟩
    | succ k ih =>
      intro i p D M hi hp R h0 h1
      have n1 := (nxt_in (t := t) R.2.1.2.1).1
      have eP : pPr t n (k + 1) (.inr (p, D)) = pPr t n k (pN t n (fun _ => 0) (fun _ => 99) (fun _ => 5) (fun _ => 3 - (k : Int)) (.inr (p, D))) := rfl
      rw [eP] at h0 h1
      refine s_X12_readsPrice_20 ⟨by omega, fun z => absurd z (by omega), fun _ => c_nNum (D := D) (lo := fun _ => 0) (hi := fun _ => 99) hO R.2.1 rfl rfl (by decide) (by decide) (fun v ev v0 v1 M2 f2 m2 g2 => ⟨by decide, fun _ => ⟨by omega, fun M6 e6 => ?_⟩, fun z => absurd (by decide) z⟩) (fun e ee M2 f2 g2 => ⟨by decide, fun z => absurd rfl z, fun _ => h0 e (by unfold pN; rw [ee, bnd_l, ePl]; rfl) M2 (R.1.tr f2.mv) g2⟩)⟩
      have eN : pN t n (fun _ => 0) (fun _ => 99) (fun _ => 5) (fun _ => 3 - (k : Int)) (.inr (p, D)) = .inr (nxt t n p, st (st D 30 0 v) 5 (i : Int) v) := by unfold pN; rw [ev, bnd_r, st_same, show 3 - (k : Int) = (i : Int) by omega]
      rw [eN] at h0 h1
      rw [g2] at e6
      have R2 : RM G0 t n (nxt t n p) (st D 30 0 v) M2 := R.go f2 m2 n1 (fun q k a _ => st_nq _ _ _ _ a)
      generalize st D 30 0 v = D2 at *
      obtain ⟨q1, q2, q3, q4, hS, hP, hI, hC, hB, hT, hL⟩ := R2
      have fM : ∀ q k : Int, ¬ (q = 313 ∧ k = 15 + (i : Int)) → M6 q k = M2 q k := fun q k a => by rw [e6, st_ne _ _ a]
      have fD : ∀ q k : Int, ¬ (q = 5 ∧ k = (i : Int)) → st D2 5 (i : Int) v q k = D2 q k := fun q k a => st_ne _ _ a
      have z := ih (i + 1) (nxt t n p) (st D2 5 (i : Int) v) M6 (by omega) (by omega) ⟨q1.tr (by rw [e6]; exact MvF.st (by unfold MvC; omega)), q2.fr (fun k _ _ => fM _ _ (by omega)) (fun k => fM _ _ (by omega)), by rw [fD _ _ (by omega)]; exact q3, by rw [fM _ _ (by omega)]; exact q4, hS.ext (fun k _ _ => fD _ _ (by omega)) (fun k _ => fM _ _ (by omega)), fun j j0 j1 => by
        by_cases c : j = (i : Int)
        · rw [c, e6, st_same, st_same]; omega
        · rw [fM _ _ (by omega), fD _ _ (by omega)]; exact hP j j0 j1, hI.ext (fD _ _ (by omega)) (fD _ _ (by omega)) (fun k => fD _ _ (by omega)) (fun i k _ _ => fD _ _ (by omega)) (fun i _ _ => fD _ _ (by omega)) (fun q i _ _ _ _ => fM _ _ (by omega)) (fun i _ _ => fM _ _ (by omega)), hC.ext (fun k _ _ => fD _ _ (by omega)) (fun k _ _ => fM _ _ (by omega)), hB.ext (fD _ _ (by omega)) (fD _ _ (by omega)) (fun k _ _ => fD _ _ (by omega)) (fM _ _ (by omega)) (fM _ _ (by omega)) (fun q k _ _ _ => fM _ _ (by omega)), hT.ext (fun k _ => fD _ _ (by omega)) (fM _ _ (by omega)), hL.ext (fun k _ _ => fD _ _ (by omega)) (fun q k _ => fD _ _ (by omega)) (Int.le_of_eq (fD _ _ (by omega)).symm) (fun k _ => fD _ _ (by omega)) (fun q k _ _ _ => fM _ _ (by omega)) (Int.le_of_eq (fM _ _ (by omega)).symm) (fun k _ => fM _ _ (by omega))⟩ h0 h1
      rwa [show ((i + 1 : Nat) : Int) = (i : Int) + 1 by omega] at z
  exact key 4 0 p1 D1 M1 rfl (by omega) R1 h0 h1
end MONES
