section STEP
variable {d : Nat} {S S' G G' H : Mem} {Q : Int → Mem → Prop} {t : Int → Int} {n b p : Int}
/-- the class's tape and token at hand -/
def TpY (t : Int → Int) (n : Int) (G : Mem) : Prop := G 1 1 = n ∧ ∀ k, 0 ≤ k → k < n → G 2 k = t k
def TkC (t : Int → Int) (n b : Int) (G : Mem) : Prop := G 1 2 = b ∧ G 1 6 = tnx t n b ∧ G 1 3 = tkd t n b ∧ (tkd t n b = 2 → G 1 4 = widx (twd t n b) ∧ G 1 5 = fR 32 (twd t n b)) ∧ (tkd t n b = 3 → G 1 4 = tnm t n b) ∧ (tkd t n b = 4 → G 1 4 = t b)
def StF1 (G G' : Mem) : Prop := ∀ q k : Int, ¬ (q = 1 ∧ 2 ≤ k ∧ k ≤ 6) → G' q k = G q k
theorem StF1.rfl' : StF1 G G := fun _ _ _ => rfl
theorem StF1.tr {G2 : Mem} (h : StF1 G G') (h' : StF1 G' G2) : StF1 G G2 := fun q k a => (h' q k a).trans (h q k a)
theorem StF1.st {k v : Int} (hk : 2 ≤ k ∧ k ≤ 6) : StF1 G (st G 1 k v) := fun q i a => st_ne _ _ (by omega)
theorem TpY.nt (h : TpY t n G) (f : StF1 G G') : TpY t n G' := ⟨by rw [f 1 1 (by omega)]; exact h.1, fun k k0 k1 => by rw [f 2 k (by omega)]; exact h.2 k k0 k1⟩
theorem c_isLetter {x : Int} (ix : InR x) (h1 : ltB x = true → Q 1 G) (h0 : ltB x = false → Q 0 G) : Ct d M_X10_isLetter NT 0 0 (some lay) [(0, x)] G Q :=
  ctof (s_X10_isLetter_0 ⟨ix, fun y => h0 (nB (fun w => by have := lt_iff.mp w; omega)), fun y => ⟨fun z => h0 (nB (fun w => by have := lt_iff.mp w; omega)), fun z => h1 (lt_iff.mpr (by omega))⟩⟩)
theorem c_isDigit {x : Int} (ix : InR x) (h1 : dgB x = true → Q 1 G) (h0 : dgB x = false → Q 0 G) : Ct d M_X10_isDigit NT 0 0 (some lay) [(0, x)] G Q :=
  ctof (s_X10_isDigit_0 ⟨ix, fun y => h0 (nB (fun w => by have := dg_iff.mp w; omega)), fun y => ⟨fun z => h0 (nB (fun w => by have := dg_iff.mp w; omega)), fun z => h1 (dg_iff.mpr (by omega))⟩⟩)
theorem c_isSignC {x : Int} (ix : InR x) (h1 : sgB x = true → Q 1 G) (h0 : sgB x = false → Q 0 G) : Ct d M_X10_isSign NT 0 0 (some lay) [(0, x)] G Q :=
  ctof (s_X10_isSign_0 ⟨ix, fun _ => h1 (sg_iff.mpr (by omega)), fun _ => ⟨fun _ => h1 (sg_iff.mpr (by omega)), fun _ => ⟨fun _ => h1 (sg_iff.mpr (by omega)), fun _ => ⟨fun _ => h1 (sg_iff.mpr (by omega)), fun _ => ⟨fun _ => h1 (sg_iff.mpr (by omega)), fun _ => ⟨fun _ => h1 (sg_iff.mpr (by omega)), fun _ => ⟨fun _ => h1 (sg_iff.mpr (by omega)), fun _ => ⟨fun _ => h0 (nB (fun w => by have := sg_iff.mp w; omega)), fun _ => h1 (sg_iff.mpr (by omega))⟩⟩⟩⟩⟩⟩⟩⟩)
theorem c_readWord (hO : TpO t n) (hT : TpY t n G) (hb : 0 ≤ b ∧ b < n) (h2 : G 1 2 = b) (h6 : G 1 6 = b) (h : ∀ G2, StF1 G G2 → G2 1 2 = b → G2 1 6 = twe t n b → G2 1 5 = fR 32 (twd t n b) → G2 1 3 = (if twe t n b - b ≤ 8 then 2 else 1) → Q 0 G2) : Ct (d + 1) M_X10_readWord NT 0 0 (some lay) [(2, 1)] G Q := by
  have o := hO.1
  have key : ∀ (k : Nat) (q : Int) (G1 : Mem), (n - q).toNat = k → b ≤ q → q ≤ n → twe t n b = spE ltB t n q → StF1 G G1 → G1 1 2 = b → G1 1 6 = q → G1 1 5 = fR 32 (rwl t b (q - b).toNat) → Rn (d + 1) M_X10_readWord zN 5 [(0, (2, 1))] [] G1 Q := by
    intro k
    induction k with
    | zero =>
      intro q G1 hk q0 q1 we f1 a2 a6 a5
      have t1 := hT.nt f1
      have e : twe t n b = q := we.trans (spE_f (Or.inl (by omega)))
      refine s_X10_readWord_5 ⟨by omega, by rw [t1.1]; omega, fun _ => s_X10_readWord_73 ⟨by omega, fun x G3 e3 => h G3 (f1.tr (by rw [e3]; exact StF1.st (by omega))) ?_ ?_ ?_ ?_, fun x G3 e3 => h G3 (f1.tr (by rw [e3]; exact StF1.st (by omega))) ?_ ?_ ?_ ?_⟩, fun x => absurd (by rw [t1.1]; omega) x⟩
      · rw [e3, st_nk _ _ _ (by decide)]; exact a2
      · rw [e3, st_nk _ _ _ (by decide), e]; exact a6
      · rw [e3, st_nk _ _ _ (by decide), a5]; unfold twd; rw [e]
      · rw [e3, st_same, if_neg (by omega)]
      · rw [e3, st_nk _ _ _ (by decide)]; exact a2
      · rw [e3, st_nk _ _ _ (by decide), e]; exact a6
      · rw [e3, st_nk _ _ _ (by decide), a5]; unfold twd; rw [e]
      · rw [e3, st_same, if_pos (by omega)]
    | succ k ih =>
      intro q G1 hk q0 q1 we f1 a2 a6 a5
      have t1 := hT.nt f1
      have tq := hO.2 q (by omega) (by omega)
      refine s_X10_readWord_5 ?_
      rw [a6, t1.1, t1.2 q (by omega) (by omega)]
      refine ⟨by omega, by omega, fun x => absurd x (by omega), fun _ => ⟨by omega, c_isLetter (by omega) (fun l => ⟨by omega, fun x => absurd x (by decide), fun _ => ?_⟩) (fun l => ⟨by omega, fun _ => ?_, fun x => absurd rfl x⟩)⟩⟩
      · rw [a6, t1.2 q (by omega) (by omega)]
        refine ⟨by omega, by omega, fun G11 e11 G12 e12 => ?_⟩
        have b6 : G11 1 6 = q := by rw [e11, st_nk _ _ _ (by decide)]; exact a6
        rw [b6] at e12
        refine ih (q + 1) G12 (by omega) (by omega) (by omega) (we.trans (spE_t (by omega) l)) (f1.tr ((show StF1 G1 G11 by rw [e11]; exact StF1.st (by omega)).tr (show StF1 G11 G12 by rw [e12]; exact StF1.st (by omega)))) ?_ ?_ ?_
        · rw [e12, st_nk _ _ _ (by decide), e11, st_nk _ _ _ (by decide)]; exact a2
        · rw [e12, st_same]
        · rw [e12, st_nk _ _ _ (by decide), e11, st_same, a5]
          obtain ⟨j, hj⟩ : ∃ j : Nat, (q - b).toNat = j := ⟨_, rfl⟩
          rw [hj, show (q + 1 - b).toNat = j + 1 by omega]
          show _ = fR 32 (rwl t b j) * 32 + (t (b + j) - 96)
          rw [show b + (j : Int) = q by omega]
          omega
      · have e : twe t n b = q := we.trans (spE_f (Or.inr l))
        refine s_X10_readWord_73 ⟨by omega, fun x G3 e3 => h G3 (f1.tr (by rw [e3]; exact StF1.st (by omega))) ?_ ?_ ?_ ?_, fun x G3 e3 => h G3 (f1.tr (by rw [e3]; exact StF1.st (by omega))) ?_ ?_ ?_ ?_⟩
        · rw [e3, st_nk _ _ _ (by decide)]; exact a2
        · rw [e3, st_nk _ _ _ (by decide), e]; exact a6
        · rw [e3, st_nk _ _ _ (by decide), a5]; unfold twd; rw [e]
        · rw [e3, st_same, if_neg (by omega)]
        · rw [e3, st_nk _ _ _ (by decide)]; exact a2
        · rw [e3, st_nk _ _ _ (by decide), e]; exact a6
        · rw [e3, st_nk _ _ _ (by decide), a5]; unfold twd; rw [e]
        · rw [e3, st_same, if_pos (by omega)]
  refine ctof (s_X10_readWord_0 (fun G1 e1 => ?_))
  refine key _ b G1 rfl (by omega) (by omega) rfl (by rw [e1]; exact StF1.st (by omega)) (by rw [e1, st_nk _ _ _ (by decide)]; exact h2) (by rw [e1, st_nk _ _ _ (by decide)]; exact h6) ?_
  rw [e1, st_same, show (b - b).toNat = 0 by omega]
  rfl
theorem c_readNumber (hO : TpO t n) (hT : TpY t n G) (hb : 0 ≤ b ∧ b < n) (h2 : G 1 2 = b) (h6 : G 1 6 = b) (h4 : G 1 4 = 0) (h : ∀ G2, StF1 G G2 → G2 1 2 = b → G2 1 6 = tne t n b → G2 1 4 = tnm t n b → G2 1 3 = (if tne t n b - b ≤ 4 then 3 else 1) → Q 0 G2) : Ct (d + 1) M_X10_readNumber NT 0 0 (some lay) [(2, 1)] G Q := by
  have o := hO.1
  have key : ∀ (k : Nat) (q : Int) (G1 : Mem), (n - q).toNat = k → b ≤ q → q ≤ n → tne t n b = spE dgB t n q → StF1 G G1 → G1 1 2 = b → G1 1 6 = q → G1 1 4 = fD (rwl t b (q - b).toNat) → Rn (d + 1) M_X10_readNumber zN 0 [(0, (2, 1))] [] G1 Q := by
    intro k
    induction k with
    | zero =>
      intro q G1 hk q0 q1 we f1 a2 a6 a5
      have t1 := hT.nt f1
      have e : tne t n b = q := we.trans (spE_f (Or.inl (by omega)))
      refine s_X10_readNumber_0 ⟨by omega, by rw [t1.1]; omega, fun _ => s_X10_readNumber_63 ⟨by omega, fun x G3 e3 => h G3 (f1.tr (by rw [e3]; exact StF1.st (by omega))) ?_ ?_ ?_ ?_, fun x G3 e3 => h G3 (f1.tr (by rw [e3]; exact StF1.st (by omega))) ?_ ?_ ?_ ?_⟩, fun x => absurd (by rw [t1.1]; omega) x⟩
      · rw [e3, st_nk _ _ _ (by decide)]; exact a2
      · rw [e3, st_nk _ _ _ (by decide), e]; exact a6
      · rw [e3, st_nk _ _ _ (by decide), a5]; unfold tnm; rw [e]
      · rw [e3, st_same, if_neg (by omega)]
      · rw [e3, st_nk _ _ _ (by decide)]; exact a2
      · rw [e3, st_nk _ _ _ (by decide), e]; exact a6
      · rw [e3, st_nk _ _ _ (by decide), a5]; unfold tnm; rw [e]
      · rw [e3, st_same, if_pos (by omega)]
    | succ k ih =>
      intro q G1 hk q0 q1 we f1 a2 a6 a5
      have t1 := hT.nt f1
      have tq := hO.2 q (by omega) (by omega)
      refine s_X10_readNumber_0 ?_
      rw [a6, t1.1, t1.2 q (by omega) (by omega)]
      refine ⟨by omega, by omega, fun x => absurd x (by omega), fun _ => ⟨by omega, c_isDigit (by omega) (fun l => ⟨by omega, fun x => absurd x (by decide), fun _ => ?_⟩) (fun l => ⟨by omega, fun _ => ?_, fun x => absurd rfl x⟩)⟩⟩
      · rw [a6, t1.2 q (by omega) (by omega)]
        refine ⟨by omega, fun G11 e11 G12 e12 => ?_⟩
        have b6 : G11 1 6 = q := by rw [e11, st_nk _ _ _ (by decide)]; exact a6
        rw [b6] at e12
        refine ih (q + 1) G12 (by omega) (by omega) (by omega) (we.trans (spE_t (by omega) l)) (f1.tr ((show StF1 G1 G11 by rw [e11]; exact StF1.st (by omega)).tr (show StF1 G11 G12 by rw [e12]; exact StF1.st (by omega)))) ?_ ?_ ?_
        · rw [e12, st_nk _ _ _ (by decide), e11, st_nk _ _ _ (by decide)]; exact a2
        · rw [e12, st_same]
        · rw [e12, st_nk _ _ _ (by decide), e11, st_same, a5]
          obtain ⟨j, hj⟩ : ∃ j : Nat, (q - b).toNat = j := ⟨_, rfl⟩
          rw [hj, show (q + 1 - b).toNat = j + 1 by omega]
          show _ = fD (rwl t b j) * 10 + (t (b + j) - 48)
          rw [show b + (j : Int) = q by omega]
          omega
      · have e : tne t n b = q := we.trans (spE_f (Or.inr l))
        refine s_X10_readNumber_63 ⟨by omega, fun x G3 e3 => h G3 (f1.tr (by rw [e3]; exact StF1.st (by omega))) ?_ ?_ ?_ ?_, fun x G3 e3 => h G3 (f1.tr (by rw [e3]; exact StF1.st (by omega))) ?_ ?_ ?_ ?_⟩
        · rw [e3, st_nk _ _ _ (by decide)]; exact a2
        · rw [e3, st_nk _ _ _ (by decide), e]; exact a6
        · rw [e3, st_nk _ _ _ (by decide), a5]; unfold tnm; rw [e]
        · rw [e3, st_same, if_neg (by omega)]
        · rw [e3, st_nk _ _ _ (by decide)]; exact a2
        · rw [e3, st_nk _ _ _ (by decide), e]; exact a6
        · rw [e3, st_nk _ _ _ (by decide), a5]; unfold tnm; rw [e]
        · rw [e3, st_same, if_pos (by omega)]
  refine ctof (key _ b G rfl (by omega) (by omega) rfl StF1.rfl' h2 h6 ?_)
  rw [h4, show (b - b).toNat = 0 by omega]
  rfl
theorem c_step (hO : TpO t n) (hT : TpY t n G) (hp : 0 ≤ p ∧ p ≤ n) (h6 : G 1 6 = p) (h : ∀ G', StF1 G G' → TkC t n (tbg t n p) G' → Q 0 G') : Ct (d + 5) M_X10_step NT 0 0 (some lay) [(2, 1)] G Q := by
  have o := hO.1
  obtain ⟨b, hb⟩ : ∃ b, b = tbg t n p := ⟨_, rfl⟩
  rw [← hb] at h
  have bI := tbg_in (t := t) hp
  rw [← hb] at bI
  have L52 : ∀ G1, StF1 G G1 → G1 1 6 = b → Rn (d + 5) M_X10_step zN 52 [(0, (2, 1))] [] G1 Q := by
    intro G1 f1 a6
    refine s_X10_step_52 (fun G2 e2 G3 e3 => ?_)
    rw [a6] at e2
    have f3 : StF1 G1 G3 := (show StF1 G1 G2 by rw [e2]; exact StF1.st (by omega)).tr (show StF1 G2 G3 by rw [e3]; exact StF1.st (by omega))
    have c2 : G3 1 2 = b := by rw [e3, st_nk _ _ _ (by decide), e2, st_same]
    have c4 : G3 1 4 = 0 := by rw [e3, st_same]
    have c6 : G3 1 6 = b := by rw [e3, st_nk _ _ _ (by decide), e2, st_nk _ _ _ (by decide)]; exact a6
    have t3 := hT.nt (f1.tr f3)
    have fG := f1.tr f3
    rw [c6, t3.1]
    refine ⟨by omega, by omega, fun x => ?_, fun x => ⟨by omega, ?_⟩⟩
    · have kd : tkd t n b = 0 := tkd_0.mpr (by omega)
      have nx : tnx t n b = b := by unfold tnx; rw [if_pos (by omega)]
      refine s_X10_step_89 ⟨by omega, fun z => absurd rfl z, fun _ G5 e5 => h G5 (fG.tr (by rw [e5]; exact StF1.st (by omega))) ?_⟩
      exact ⟨by rw [e5, st_nk _ _ _ (by decide)]; exact c2, by rw [e5, st_nk _ _ _ (by decide), nx]; exact c6, by rw [e5, st_same, kd], fun z => absurd z (by omega), fun z => absurd z (by omega), fun z => absurd z (by omega)⟩
    · rw [t3.2 b (by omega) (by omega)]
      have tb := hO.2 b (by omega) (by omega)
      refine s_X10_step_89 ⟨by omega, fun _ => c_isLetter (by omega) (fun l => ⟨by omega, fun z => absurd z (by decide), fun _ => ?_⟩) (fun l => ⟨by omega, fun _ => c_isDigit (by omega) (fun g => ⟨by omega, fun z => absurd z (by decide), fun _ => ?_⟩) (fun g => ⟨by omega, fun _ => c_isSignC (by omega) (fun s => ⟨by omega, fun z => absurd z (by decide), fun _ => ?_⟩) (fun s => ⟨by omega, fun _ => ?_, fun z => absurd rfl z⟩), fun z => absurd rfl z⟩), fun z => absurd rfl z⟩), fun z => absurd (by omega) z⟩
      · have kd : tkd t n b = if twe t n b - b ≤ 8 then 2 else 1 := by unfold tkd; rw [if_neg (by omega), if_pos l]
        have nx : tnx t n b = twe t n b := by unfold tnx; rw [if_neg (by omega), if_pos l]
        have ti := twe_in (t := t) (n := n) (b := b) (by omega)
        refine c_readWord hO t3 (by omega) c2 c6 (fun G4 f4 d2 d6 d5 d3 => ?_)
        have t4 := t3.nt f4
        rw [d2, d6]
        refine c_indexOf (fun k k0 k1 => ⟨t4.2 k k0 k1, by have := hO.2 k k0 k1; omega⟩) o.2 (by omega) ti.2.1 (fun G5 e5 => h G5 ((fG.tr f4).tr (by rw [e5]; exact StF1.st (by omega))) ?_)
        refine ⟨by rw [e5, st_nk _ _ _ (by decide)]; exact d2, by rw [e5, st_nk _ _ _ (by decide), nx]; exact d6, by rw [e5, st_nk _ _ _ (by decide), kd]; exact d3, fun _ => ⟨by rw [e5, st_same]; rfl, by rw [e5, st_nk _ _ _ (by decide)]; exact d5⟩, fun z => ?_, fun z => ?_⟩
        · rw [kd] at z; split at z <;> omega
        · rw [kd] at z; split at z <;> omega
      · have l' : ¬ ltB (t b) = true := by rw [l]; decide
        have kd : tkd t n b = if tne t n b - b ≤ 4 then 3 else 1 := by unfold tkd; rw [if_neg (by omega), if_neg l', if_pos g]
        have nx : tnx t n b = tne t n b := by unfold tnx; rw [if_neg (by omega), if_neg l', if_pos g]
        refine c_readNumber hO t3 (by omega) c2 c6 c4 (fun G4 f4 d2 d6 d4 d3 => h G4 (fG.tr f4) ?_)
        refine ⟨d2, by rw [nx]; exact d6, by rw [kd]; exact d3, fun z => ?_, fun _ => d4, fun z => ?_⟩
        · rw [kd] at z; split at z <;> omega
        · rw [kd] at z; split at z <;> omega
      · have l' : ¬ ltB (t b) = true := by rw [l]; decide
        have g' : ¬ dgB (t b) = true := by rw [g]; decide
        have kd : tkd t n b = 4 := by unfold tkd; rw [if_neg (by omega), if_neg l', if_neg g', if_pos s]
        have nx : tnx t n b = b + 1 := by unfold tnx; rw [if_neg (by omega), if_neg l', if_neg g']
        refine s_X10_step_162 (fun G4 e4 G5 e5 G6 e6 => ?_)
        have d6 : G5 1 6 = b := by rw [e5, st_nk _ _ _ (by decide), e4, st_nk _ _ _ (by decide)]; exact c6
        rw [d6] at e6
        refine h G6 (fG.tr (((show StF1 G3 G4 by rw [e4]; exact StF1.st (by omega)).tr (show StF1 G4 G5 by rw [e5]; exact StF1.st (by omega))).tr (show StF1 G5 G6 by rw [e6]; exact StF1.st (by omega)))) ?_
        exact ⟨by rw [e6, st_nk _ _ _ (by decide), e5, st_nk _ _ _ (by decide), e4, st_nk _ _ _ (by decide)]; exact c2, by rw [e6, st_same, nx], by rw [e6, st_nk _ _ _ (by decide), e5, st_nk _ _ _ (by decide), e4, st_same, kd], fun z => absurd z (by omega), fun z => absurd z (by omega), fun _ => by rw [e6, st_nk _ _ _ (by decide), e5, st_same]⟩
      · have l' : ¬ ltB (t b) = true := by rw [l]; decide
        have g' : ¬ dgB (t b) = true := by rw [g]; decide
        have s' : ¬ sgB (t b) = true := by rw [s]; decide
        have kd : tkd t n b = 1 := by unfold tkd; rw [if_neg (by omega), if_neg l', if_neg g', if_neg s']
        have nx : tnx t n b = b + 1 := by unfold tnx; rw [if_neg (by omega), if_neg l', if_neg g']
        refine s_X10_step_162 (fun G4 e4 G5 e5 G6 e6 => ?_)
        have d6 : G5 1 6 = b := by rw [e5, st_nk _ _ _ (by decide), e4, st_nk _ _ _ (by decide)]; exact c6
        rw [d6] at e6
        refine h G6 (fG.tr (((show StF1 G3 G4 by rw [e4]; exact StF1.st (by omega)).tr (show StF1 G4 G5 by rw [e5]; exact StF1.st (by omega))).tr (show StF1 G5 G6 by rw [e6]; exact StF1.st (by omega)))) ?_
        exact ⟨by rw [e6, st_nk _ _ _ (by decide), e5, st_nk _ _ _ (by decide), e4, st_nk _ _ _ (by decide)]; exact c2, by rw [e6, st_same, nx], by rw [e6, st_nk _ _ _ (by decide), e5, st_nk _ _ _ (by decide), e4, st_same, kd], fun z => absurd z (by omega), fun z => absurd z (by omega), fun z => absurd z (by omega)⟩
  have L0 : ∀ (k : Nat) (q : Int) (G1 : Mem), (n - q).toNat = k → p ≤ q → q ≤ n → b = spE bkB t n q → StF1 G G1 → G1 1 6 = q → Rn (d + 5) M_X10_step zN 0 [(0, (2, 1))] [] G1 Q := by
    intro k
    induction k with
    | zero =>
      intro q G1 hk q0 q1 hbq f1 a6
      have t1 := hT.nt f1
      have e : b = q := hbq.trans (spE_f (Or.inl (by omega)))
      exact s_X10_step_0 ⟨by omega, by rw [t1.1]; omega, fun _ => L52 G1 f1 (by rw [a6, e]), fun x => absurd (by rw [t1.1, a6]; omega) x⟩
    | succ k ih =>
      intro q G1 hk q0 q1 hbq f1 a6
      have t1 := hT.nt f1
      have tq := hO.2 q (by omega) (by omega)
      refine s_X10_step_0 ?_
      rw [a6, t1.1, t1.2 q (by omega) (by omega)]
      have on : bkB (t q) = true → Rn (d + 5) M_X10_step zN 39 [(0, (2, 1))] [] G1 Q := fun w => by
        refine s_X10_step_39 (fun G2 e2 => ?_)
        rw [a6] at e2
        exact ih (q + 1) G2 (by omega) (by omega) (by omega) (hbq.trans (spE_t (by omega) w)) (f1.tr (by rw [e2]; exact StF1.st (by omega))) (by rw [e2, st_same])
      refine ⟨by omega, by omega, fun x => absurd x (by omega), fun _ => ⟨by omega, by omega, fun x => on (bk_iff.mpr (by omega)), fun x => ⟨fun y => ?_, fun y => on (bk_iff.mpr (by omega))⟩⟩⟩
      have w : ¬ bkB (t q) = true := fun w => by have := bk_iff.mp w; omega
      have e : b = q := hbq.trans (spE_f (Or.inr (nB w)))
      exact L52 G1 f1 (by rw [a6, e])
  exact ctof (L0 _ p G rfl (by omega) (by omega) hb StF1.rfl' h6)
end STEP
