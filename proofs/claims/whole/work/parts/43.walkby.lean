section WALKBY
variable {d : Nat} {S G H : Mem} {Q : Int → Mem → Prop} {c : Int}
def psM (S : Mem) (c w l p : Int) : Mem := if 0 ≤ S (c + 2) p then cbM S c (S (c + 2) p) p (dg w p) (bitL l p) else S
def psA (S : Mem) (c w l p : Int) : Int := if 0 ≤ S (c + 2) p then cbA S c (S (c + 2) p) (dg w p) (bitL l p) else 1
def goL (c w l : Int) (f : Int → Int) : Nat → Int → Mem → Mem
  | 0, _, S => S
  | n + 1, i, S => if psA S c w l (f i) = 0 then psM S c w l (f i) else goL c w l f n (i + 1) (psM S c w l (f i))
def goA (c w l : Int) (f : Int → Int) : Nat → Int → Mem → Int
  | 0, _, _ => 1
  | n + 1, i, S => if psA S c w l (f i) = 0 then 0 else goA c w l f n (i + 1) (psM S c w l (f i))
theorem psA_01 {w l p : Int} : psA S c w l p = 0 ∨ psA S c w l p = 1 := by
  unfold psA
  split
  · exact cbA_01 (bitL_01 _ _)
  · exact Or.inr rfl
theorem psM_fr {w l p q k : Int} (h : ¬ (73 ≤ q ∧ q < 81)) : psM S c w l p q k = S q k := by
  unfold psM
  split
  · exact cbM_fr h
  · rfl
theorem psM_ok {w l p : Int} (h : StOk S 73) : StOk (psM S c w l p) 73 ∧ psM S c w l p 73 7 = S 73 7 := by
  unfold psM
  split
  · exact cbM_ok h
  · exact ⟨h, rfl⟩
theorem goL_fr {w l q k : Int} {f : Int → Int} (h : ¬ (73 ≤ q ∧ q < 81)) : ∀ (n : Nat) (i : Int) (S : Mem), goL c w l f n i S q k = S q k := by
  intro n
  induction n with
  | zero => intro i S; rfl
  | succ n ih =>
    intro i S
    unfold goL
    split
    · exact psM_fr h
    · rw [ih, psM_fr h]
theorem goL_ok {w l : Int} {f : Int → Int} : ∀ (n : Nat) (i : Int) (S : Mem), StOk S 73 → StOk (goL c w l f n i S) 73 ∧ goL c w l f n i S 73 7 = S 73 7 := by
  intro n
  induction n with
  | zero => intro i S h; exact ⟨h, rfl⟩
  | succ n ih =>
    intro i S h
    unfold goL
    split
    · exact psM_ok h
    · have a := psM_ok (c := c) (w := w) (l := l) (p := f i) h
      have b := ih (i + 1) _ a.1
      exact ⟨b.1, b.2.trans a.2⟩
theorem goA_01 {w l : Int} {f : Int → Int} : ∀ (n : Nat) (i : Int) (S : Mem), goA c w l f n i S = 0 ∨ goA c w l f n i S = 1 := by
  intro n
  induction n with
  | zero => intro i S; exact Or.inr rfl
  | succ n ih =>
    intro i S
    unfold goA
    split
    · exact Or.inl rfl
    · exact ih _ _
theorem Cls.st {S' : Mem} (h : Cls S c) (e : ∀ q k : Int, ¬ (73 ≤ q ∧ q < 81) → S' q k = S q k) (hs : StOk S' 73) (ht : S' 73 7 = S 73 7) : Cls S' c := by
  have cc := CorC.of_st h.2.1 e
  have e7 : S' c 7 = S c 7 := cc c 7 (by omega) (by omega) (by omega) (by omega)
  exact ⟨by rw [e 0 13 (by omega)]; exact h.1, h.2.1, h.2.2.1.cp cc.eq, hs, by rw [ht, e7]; exact h.2.2.2.2⟩
theorem Cls.ps {w l p : Int} (h : Cls S c) : Cls (psM S c w l p) c := h.st (fun _ _ hq => psM_fr hq) (psM_ok h.2.2.2.1).1 (psM_ok h.2.2.2.1).2
/-! the class goes from seat to seat -/
theorem c_ps {p w l : Int} (hC : Cls G c) (hp : 0 ≤ p ∧ p < 5) (hw : 0 ≤ w ∧ w ≤ 2147483647) (h : Q (psA G c w l p) (psM G c w l p)) : Ct (d + 2) M_X11_passSeat NT 0 0 (some lay) [(2, 0), (0, p), (0, w), (0, l)] G Q := by
  unfold psA psM at h
  refine c_passSeat hC hp hw (fun q => ?_) (fun q => ?_)
  · rw [if_neg (by omega), if_neg (by omega)] at h
    exact h
  · rw [if_pos q, if_pos q] at h
    exact h
theorem c_passOut {s w l : Int} (hC : Cls G c) (hs : 0 ≤ s ∧ s < G c 8) (hw : 0 ≤ w ∧ w ≤ 2147483647) {m : Nat} (hm : (m : Int) = G c 6 - 1 - G (c + 13 + s) 1) (h : Q (goA c w l (fun i => G (c + 13 + s) 1 + 1 + i) m 0 G) (goL c w l (fun i => G (c + 13 + s) 1 + 1 + i) m 0 G)) : Ct (d + 3) M_X11_passOut NT 0 0 (some lay) [(2, 0), (0, s), (0, w), (0, l)] G Q := by
  have hc := hC.1
  have r := hC.rng
  have so := (hC.sok hs.1 hs.2).2.1
  refine ctof (s_X11_passOut_0 (fun b hb => ?_))
  rw [hc] at hb
  subst hb
  refine ⟨hC.2.1, by omega, ?_⟩
  generalize hk : G (b + 13 + s) 1 = k at *
  have key : ∀ (n i : Nat) (G1 : Mem), i + n = m → Cls G1 b → G1 b 6 = G b 6 → Q (goA b w l (fun i => k + 1 + i) n i G1) (goL b w l (fun i => k + 1 + i) n i G1) → Rn (d + 3) M_X11_passOut zN 16 [(0, (2, 0)), (2, (0, w)), (3, (0, l)), (4, (0, k + 1 + (i : Int)))] [] G1 Q := by
    intro n
    induction n with
    | zero =>
      intro i G1 hi hC1 h6 hq
      refine s_X11_passOut_16 (fun b1 hb1 => ?_)
      rw [hC1.1] at hb1
      subst hb1
      exact ⟨hC1.2.1, by omega, by omega, fun _ => hq, fun c2 => absurd (by omega) c2⟩
    | succ n ih =>
      intro i G1 hi hC1 h6 hq
      refine s_X11_passOut_16 (fun b1 hb1 => ?_)
      rw [hC1.1] at hb1
      subst hb1
      refine ⟨hC1.2.1, by omega, by omega, fun c2 => by omega, fun _ => c_ps hC1 (by omega) hw ?_⟩
      have a := psA_01 (S := G1) (c := b1) (w := w) (l := l) (p := k + 1 + (i : Int))
      unfold goA goL at hq
      refine ⟨by omega, fun c2 => ?_, fun c2 => ?_⟩
      · rw [if_neg c2, if_neg c2] at hq
        have x := ih (i + 1) (psM G1 b1 w l (k + 1 + (i : Int))) (by omega) hC1.ps (by rw [psM_fr (by have := st_cb_apart 73 (by decide) b1 hC1.2.1.cb; omega)]; exact h6) (by rw [show ((i + 1 : Nat) : Int) = (i : Int) + 1 from by omega]; exact hq)
        rw [show k + 1 + ((i + 1 : Nat) : Int) = k + 1 + (i : Int) + 1 from by omega] at x
        exact x
      · have c2 := Decidable.not_not.mp c2
        rw [if_pos c2, if_pos c2] at hq
        exact hq
  have x := key m 0 G (by omega) hC rfl h
  rw [show k + 1 + ((0 : Nat) : Int) = k + 1 from by omega] at x
  exact x
theorem c_passIn {s w l : Int} (hC : Cls G c) (hs : 0 ≤ s ∧ s < G c 8) (hw : 0 ≤ w ∧ w ≤ 2147483647) {m : Nat} (hm : (m : Int) = G c 6 - 1 - G (c + 13 + s) 1) (h : Q (goA c w l (fun i => G c 6 - 1 - i) m 0 G) (goL c w l (fun i => G c 6 - 1 - i) m 0 G)) : Ct (d + 3) M_X11_passIn NT 0 0 (some lay) [(2, 0), (0, s), (0, w), (0, l)] G Q := by
  have hc := hC.1
  have r := hC.rng
  have so := (hC.sok hs.1 hs.2).2.1
  refine ctof (s_X11_passIn_0 (fun b hb => ?_))
  rw [hc] at hb
  subst hb
  refine ⟨hC.2.1, ?_⟩
  generalize hk : G (b + 13 + s) 1 = k at *
  generalize h6 : G b 6 = u at *
  have key : ∀ (n i : Nat) (G1 : Mem), i + n = m → Cls G1 b → G1 (b + 13 + s) 1 = k → Q (goA b w l (fun i => u - 1 - i) n i G1) (goL b w l (fun i => u - 1 - i) n i G1) → Rn (d + 3) M_X11_passIn zN 11 [(0, (2, 0)), (1, (0, s)), (2, (0, w)), (3, (0, l)), (4, (0, u - 1 - (i : Int)))] [] G1 Q := by
    intro n
    induction n with
    | zero =>
      intro i G1 hi hC1 h1 hq
      refine s_X11_passIn_11 (fun b1 hb1 => ?_)
      rw [hC1.1] at hb1
      subst hb1
      exact ⟨hC1.2.1, by omega, by omega, by omega, fun _ => hq, fun c2 => absurd (by omega) c2⟩
    | succ n ih =>
      intro i G1 hi hC1 h1 hq
      refine s_X11_passIn_11 (fun b1 hb1 => ?_)
      rw [hC1.1] at hb1
      subst hb1
      refine ⟨hC1.2.1, by omega, by omega, by omega, fun c2 => by omega, fun _ => c_ps hC1 (by omega) hw ?_⟩
      have a := psA_01 (S := G1) (c := b1) (w := w) (l := l) (p := u - 1 - (i : Int))
      unfold goA goL at hq
      refine ⟨by omega, fun c2 => ?_, fun c2 => ?_⟩
      · rw [if_neg c2, if_neg c2] at hq
        have x := ih (i + 1) (psM G1 b1 w l (u - 1 - (i : Int))) (by omega) hC1.ps (by rw [psM_fr (by have := st_cb_apart 73 (by decide) b1 hC1.2.1.cb; omega)]; exact h1) (by rw [show ((i + 1 : Nat) : Int) = (i : Int) + 1 from by omega]; exact hq)
        rw [show u - 1 - ((i + 1 : Nat) : Int) = u - 1 - (i : Int) + (-1) from by omega] at x
        exact x
      · have c2 := Decidable.not_not.mp c2
        rw [if_pos c2, if_pos c2] at hq
        exact hq
  have x := key m 0 G (by omega) hC hk h
  rw [show u - 1 - ((0 : Nat) : Int) = u - 1 from by omega] at x
  exact x
/-! the model does -/
theorem c_passesBy {s w l z : Int} (hR : Cu S G c) (hs : 0 ≤ s ∧ s < S c 8) (hw : 0 ≤ w ∧ w ≤ 2147483647) (hz : z = 0 ∨ z = 1) {m : Nat} (hm : (m : Int) = S c 6 - 1 - S (c + 13 + s) 1) {f : Int → Int} (hf : f = fun i => if z = 0 then S (c + 13 + s) 1 + 1 + i else S c 6 - 1 - i) (h : ∀ G', Cu (goL c w l f m 0 S) G' c → RowF G G' → Q (goA c w l f m 0 S) G') : Ct (d + 3) M_X12_passesBy NT 0 0 (some lay) [(2, 311), (0, s), (0, w), (0, l), (0, z)] G Q := by
  have r := hR.rng
  have se := hR.seats.1
  have sit := (hR.sit hs.1 hs.2).2.1
  have so := (hR.sok hs.1 hs.2).2.1
  refine ctof (s_X12_passesBy_0 ⟨by omega, ?_⟩)
  rw [se, sit]
  generalize hk : S (c + 13 + s) 1 = k at *
  generalize h6 : S c 6 = u at *
  have key : ∀ (n i : Nat) (S1 G1 : Mem), i + n = m → Cu S1 G1 c → S1 c 6 = u → RowF G G1 → (∀ G', Cu (goL c w l f n i S1) G' c → RowF G G' → Q (goA c w l f n i S1) G') → Rn (d + 3) M_X12_passesBy zN 22 [(0, (2, 311)), (2, (0, w)), (3, (0, l)), (4, (0, z)), (5, (0, u)), (6, (0, k)), (7, (0, k + 1 + (i : Int)))] [] G1 Q := by
    intro n
    induction n with
    | zero =>
      intro i S1 G1 hi hR1 h61 hF hq
      exact s_X12_passesBy_22 ⟨by omega, by omega, fun _ => hq G1 hR1 hF, fun c2 => absurd (by omega) c2⟩
    | succ n ih =>
      intro i S1 G1 hi hR1 h61 hF hq
      have L47 : ∀ p, p = f i → 0 ≤ p ∧ p < 5 → Rn (d + 3) M_X12_passesBy zN 47 [(0, (2, 311)), (2, (0, w)), (3, (0, l)), (4, (0, z)), (5, (0, u)), (6, (0, k)), (7, (0, k + 1 + (i : Int)))] [(0, p)] G1 Q := by
        intro p hp p5
        have nxt : ∀ G2, Cu (psM S1 c w l p) G2 c → RowF G1 G2 → psA S1 c w l p ≠ 0 → Rn (d + 3) M_X12_passesBy zN 22 [(0, (2, 311)), (2, (0, w)), (3, (0, l)), (4, (0, z)), (5, (0, u)), (6, (0, k)), (7, (0, k + 1 + (i : Int) + 1))] [] G2 Q := by
          intro G2 hR2 hF2 ha
          unfold goA goL at hq
          rw [← hp, if_neg ha, if_neg ha] at hq
          have x := ih (i + 1) (psM S1 c w l p) G2 (by omega) hR2 (by rw [psM_fr (by have := st_cb_apart 73 (by decide) c hR1.1.cb; omega)]; exact h61) (hF.tr hF2) (by rw [show ((i + 1 : Nat) : Int) = (i : Int) + 1 from by omega]; exact hq)
          rw [show k + 1 + ((i + 1 : Nat) : Int) = k + 1 + (i : Int) + 1 from by omega] at x
          exact x
        have on := hR1.on p5.1 p5.2
        have rr := hR1.rng
        have id : 0 ≤ S1 (c + 2) p → S1 75 (S1 (c + 2) p) ≠ 0 ∨ ¬ aslp S1 73 c (S1 (c + 2) p) (S1 73 7) → psM S1 c w l p = S1 ∧ psA S1 c w l p = 1 := by
          intro q1 q2
          unfold psM psA cbM cbA
          have na : ¬ aslp S1 73 c (S1 (c + 2) p) (S1 73 7) := by
            rcases q2 with q2 | q2
            · exact fun x => q2 x.1
            · exact q2
          rw [if_pos q1, if_pos q1, if_neg na, if_neg (fun x => na x.1)]
          exact ⟨rfl, rfl⟩
        refine s_X12_passesBy_47 (c_inSeat hR1 p5 ?_)
        unfold inSt
        by_cases q1 : S1 (c + 2) p < 0
        · rw [if_pos q1]
          have e : psM S1 c w l p = S1 ∧ psA S1 c w l p = 1 := by
            unfold psM psA
            rw [if_neg (by omega), if_neg (by omega)]
            exact ⟨rfl, rfl⟩
          exact ⟨by omega, fun _ => nxt G1 (by rw [e.1]; exact hR1) RowF.rfl' (by omega), fun x => absurd (by decide) x⟩
        · rw [if_neg q1]
          by_cases q2 : S1 75 (S1 (c + 2) p) = 0
          · rw [if_pos q2]
            refine ⟨by omega, fun x => absurd x q1, fun _ => c_digit (by omega) hw ?_⟩
            have fin : ∀ b, b = bitL l p → Rn (d + 3) M_X12_passesBy zN 86 [(0, (2, 311)), (2, (0, w)), (3, (0, l)), (4, (0, z)), (5, (0, u)), (6, (0, k)), (7, (0, k + 1 + (i : Int)))] [(0, b), (0, dg w p), (0, S1 (c + 2) p), (2, 311)] G1 Q := by
              intro b hb
              have b01 := bitL_01 l p
              have dq := dg_q (p := p) (by omega) hw
              refine s_X12_passesBy_86 (c_comesBy hR1 (p := p) (by omega) (by omega) (by omega) (by omega) (fun G' hR' hF' => ?_))
              have e1 : cbM S1 c (S1 (c + 2) p) p (dg w p) b = psM S1 c w l p := by unfold psM; rw [if_pos (by omega), hb]
              have e2 : cbA S1 c (S1 (c + 2) p) (dg w p) b = psA S1 c w l p := by unfold psA; rw [if_pos (by omega), hb]
              rw [e1] at hR'
              rw [e2]
              have a := psA_01 (S := S1) (c := c) (w := w) (l := l) (p := p)
              refine ⟨by omega, fun c2 => nxt G' hR' hF' c2, fun c2 => ?_⟩
              have c2 := Decidable.not_not.mp c2
              unfold goA goL at hq
              rw [← hp, if_pos c2, if_pos c2] at hq
              exact hq G' hR' (hF.tr hF')
            refine ⟨andI_in _ _, fun x => fin 0 ?_, fun x => fin 1 ?_⟩
            · unfold bitL; rw [if_neg x]
            · unfold bitL; rw [if_pos (Decidable.not_not.mp x)]
          · rw [if_neg q2]
            have e := id (by omega) (Or.inl q2)
            exact ⟨by omega, fun _ => nxt G1 (by rw [e.1]; exact hR1) RowF.rfl' (by omega), fun x => absurd (by decide) x⟩
      refine s_X12_passesBy_22 ⟨by omega, by omega, fun c2 => by omega, fun _ => ⟨by omega, fun c3 => L47 _ ?_ (by omega), fun c3 => L47 _ ?_ (by omega)⟩⟩
      · rw [hf]; simp only; rw [if_pos c3]
      · rw [hf]; simp only; rw [if_neg c3]; omega
  have x := key m 0 S G (by omega) hR h6 RowF.rfl' h
  rw [show k + 1 + ((0 : Nat) : Int) = k + 1 from by omega] at x
  exact x
end WALKBY
