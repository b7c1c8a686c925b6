section WENT
variable {d : Nat} {S S' G G' H : Mem} {Q : Int → Mem → Prop} {c : Int} {fs : Int → Law}
def wenOk (S : Mem) (c s t : Int) : Prop := (0 ≤ s ∧ s < S c 8) ∧ (0 ≤ t ∧ t ≤ 71) ∧ S 84 s < 12 ∧ (S 84 s ≠ 0 → S 85 (12 * s + S 84 s - 1) < t)
theorem t_went {s t : Int} (hI : Inv0 G G c fs) (is : InR s) (it : InR t) : Ct (d + 1) M_X11_went NT 0 0 (some lay) [(2, 0), (0, s), (0, t)] G (fun v G1 => Ct (d + 1) M_X12_went NT 0 0 (some lay) [(2, 311), (0, s), (0, t)] G1 (Ok2 c fs G v)) := by
  have hC := hI.cls
  have r := hC.rng
  have h37 := hI.1.2.2.1
  have hTl := hI.2.2.2.2.1
  have mN : ¬ wenOk G c s t → Ct (d + 1) M_X12_went NT 0 0 (some lay) [(2, 311), (0, s), (0, t)] G (Ok2 c fs G 0) := by
    intro hno
    refine ctof (s_X12_went_0 (fun G1 e1 => ?_))
    have f1 : ThF G G1 := by rw [e1]; exact ThF.st
    have hR := f1.cu hI.2.1
    have ok : Ok2 c fs G 0 0 G1 := hI.ok ClF.rfl' f1.ml
    refine c_isSitter hR is (fun q => ⟨by omega, fun x => absurd x (by decide), fun _ => c_within it (by omega) (by omega) (fun q2 => ⟨by omega, fun x => absurd x (by decide), fun _ => ⟨by omega, ?_⟩⟩) (fun q2 => ⟨by omega, fun _ => ok, fun x => absurd rfl x⟩)⟩) (fun q => ⟨by omega, fun _ => ok, fun x => absurd rfl x⟩)
    obtain ⟨x1, x2, x3, x4, x5, x6⟩ := hTl s (by omega) (by omega)
    simp only [Int.zero_add, Int.reduceAdd] at x3 x5 x6
    have y3 : G1 342 (45 + s) = G 84 s := by rw [f1 _ _ (by omega)]; exact x3
    rw [y3]
    refine ⟨by omega, fun z => ⟨fun z0 => absurd ⟨q, q2, by omega, fun y => by omega⟩ hno, fun z0 => ⟨by omega, ?_⟩⟩, fun _ => ok⟩
    have w := x6 (G 84 s - 1) (by omega) (by omega)
    rw [show 50 + 12 * s + (G 84 s - 1) = 50 + 12 * s + G 84 s - 1 by omega, show 12 * s + (G 84 s - 1) = 12 * s + G 84 s - 1 by omega] at w
    have y : G1 342 (50 + 12 * s + G 84 s - 1) = G 85 (12 * s + G 84 s - 1) := by rw [f1 _ _ (by omega)]; exact w.1
    rw [y]
    exact ⟨by omega, it, fun z1 => absurd ⟨q, q2, by omega, fun _ => z1⟩ hno, fun _ => ok⟩
  have mY : wenOk G c s t → ∀ G1, G1 = st (st G 85 (12 * s + G 84 s) t) 84 s (G 84 s + 1) → Ct (d + 1) M_X12_went NT 0 0 (some lay) [(2, 311), (0, s), (0, t)] G1 (Ok2 c fs G 1) := by
    intro ⟨q, q2, q3, q4⟩ G1 e1
    have o1 : ∀ q k : Int, ¬ (q = 84 ∧ k = s) → ¬ (q = 85 ∧ k = 12 * s + G 84 s) → G1 q k = G q k := fun q k h1 h2 => by rw [e1, st_ne _ _ h1, st_ne _ _ h2]
    refine ctof (s_X12_went_0 (fun G2 e2 => ?_))
    have f2 : ThF G1 G2 := by rw [e2]; exact ThF.st
    have g2 : ∀ q k : Int, 311 ≤ q → ¬ (q = 311 ∧ k = 0) → G2 q k = G q k := fun q k a b => by rw [f2 q k b, o1 q k (by omega) (by omega)]
    have hR : Cu G G2 c := hI.2.1.ext (fun q k hq => g2 q k (by omega) (by omega))
    refine c_isSitter hR is (fun _ => ⟨by omega, fun x => absurd x (by decide), fun _ => c_within it (by omega) (by omega) (fun _ => ⟨by omega, fun x => absurd x (by decide), fun _ => ⟨by omega, ?_⟩⟩) (fun x => absurd q2 x)⟩) (fun x => absurd q x)
    obtain ⟨x1, x2, x3, x4, x5, x6⟩ := hTl s (by omega) (by omega)
    simp only [Int.zero_add, Int.reduceAdd] at x3 x5 x6
    have y3 : G2 342 (45 + s) = G 84 s := by rw [g2 _ _ (by omega) (by omega)]; exact x3
    have L83 : Rn (d + 1) M_X12_went zN 83 [(0, (2, 311)), (1, (0, s)), (2, (0, t)), (3, (0, 50 + 12 * s + G 84 s))] [] G2 (Ok2 c fs G 1) := by
      refine s_X12_went_83 ⟨by omega, fun G3 e3 => ⟨by omega, fun G4 e4 => ?_⟩⟩
      have y4 : G3 342 (45 + s) = G 84 s := by rw [e3, st_nk _ _ _ (by omega)]; exact y3
      rw [y4] at e4
      have o4 : ∀ q k : Int, ¬ (q = 342 ∧ (k = 45 + s ∨ k = 50 + 12 * s + G 84 s)) → G4 q k = G2 q k := fun q k h => by rw [e4, st_ne _ _ (by omega), e3, st_ne _ _ (by omega)]
      have n45 : G4 342 (0 + (45 + s)) = G 84 s + 1 := by rw [e4, Int.zero_add, st_same]
      have n84 : G1 84 s = G 84 s + 1 := by rw [e1, st_same]
      have nt : G4 342 (50 + 12 * s + G 84 s) = t := by rw [e4, st_nk _ _ _ (by omega), e3, st_same]
      have n85 : G1 85 (12 * s + G 84 s) = t := by rw [e1, st_nq _ _ _ _ (by decide), st_same]
      have hT : TlX G1 G4 81 342 0 := by
        intro i i0 i5
        obtain ⟨w1, w2, w3, w4, w5, w6⟩ := hTl i i0 i5
        have b : ∀ k, k ≠ 45 + s → k ≠ 50 + 12 * s + G 84 s → G4 342 (0 + k) = G 342 (0 + k) := fun k h1 h2 => by rw [o4 _ _ (by omega), g2 _ _ (by omega) (by omega)]
        rw [o1 (81 + 1) i (by omega) (by omega), o1 (81 + 2) i (by omega) (by omega), b (35 + i) (by omega) (by omega), b (40 + i) (by omega) (by omega)]
        simp only [Int.reduceAdd] at w1 w2 w3 w4 w5 w6 ⊢
        by_cases hi : i = s
        · subst hi
          rw [n84]
          refine ⟨w1, w2, n45, w4, by omega, fun k k0 k1 => ?_⟩
          by_cases hk : k = G 84 i
          · subst hk
            rw [show (0 : Int) + (50 + 12 * i + G 84 i) = 50 + 12 * i + G 84 i by omega, nt, n85]
            refine ⟨rfl, by omega, fun kp => ?_⟩
            rw [o1 85 _ (by omega) (by omega)]
            exact q4 (by omega)
          · rw [b (50 + 12 * i + k) (by omega) (by omega), o1 85 _ (by omega) (by omega), o1 85 _ (by omega) (by omega)]
            exact w6 k k0 (by omega)
        · rw [o1 84 i (by omega) (by omega), b (45 + i) (by omega) (by omega)]
          refine ⟨w1, w2, w3, w4, w5, fun k k0 k1 => ?_⟩
          rw [b (50 + 12 * i + k) (by omega) (by omega), o1 85 (12 * i + k) (by omega) (by omega)]
          obtain ⟨v1, v2, v3⟩ := w6 k k0 k1
          exact ⟨v1, v2, fun kp => by rw [o1 85 (12 * i + k - 1) (by omega) (by omega)]; exact v3 kp⟩
      have fin := hI.tells (S' := G1) (G' := G4) (fun q k a b => o1 q k (by omega) (by omega)) (fun q k a b => by rw [o4 q k (by omega)]; exact g2 q k a (by omega)) hT
      have low : ∀ q k : Int, q < 311 → G4 q k = G1 q k := fun q k a => by rw [o4 q k (by omega), f2 q k (by omega)]
      exact ⟨rfl, fin.1.ext (fun q k a _ => low q k a) QtM.rfl', fin.2.tr (RkF.of h37 (fun q k a _ => low q k a))⟩
    rw [y3]
    refine ⟨by omega, fun z => ⟨fun z0 => L83, fun z0 => ⟨by omega, ?_⟩⟩, fun z => absurd (by omega) z⟩
    have w := x6 (G 84 s - 1) (by omega) (by omega)
    rw [show 50 + 12 * s + (G 84 s - 1) = 50 + 12 * s + G 84 s - 1 by omega, show 12 * s + (G 84 s - 1) = 12 * s + G 84 s - 1 by omega] at w
    have y : G2 342 (50 + 12 * s + G 84 s - 1) = G 85 (12 * s + G 84 s - 1) := by rw [g2 _ _ (by omega) (by omega)]; exact w.1
    rw [y]
    exact ⟨by omega, it, fun _ => L83, fun z1 => absurd (q4 (by omega)) z1⟩
  refine ctof (s_X11_went_0 (c_X11_known hC is (fun q => ⟨by omega, fun x => absurd x (by decide), fun _ => ?_⟩) (fun q => ⟨by omega, fun _ => mN (fun x => q x.1), fun x => absurd rfl x⟩)))
  obtain ⟨x1, x2, x3, x4, x5, x6⟩ := hTl s (by omega) (by omega)
  simp only [Int.reduceAdd] at x5 x6
  have L28 : ∀ u, (G 84 s = 0 → u = -1) → (G 84 s ≠ 0 → u = G 85 (12 * s + G 84 s - 1)) → Rn d M_X9_addWent zN 28 [(0, (2, 81)), (1, (0, s)), (2, (0, t)), (3, (0, G 84 s))] [(0, u)] G (fun r6 G5 => InR r6 ∧ (r6 = 0 → Ct (d + 1) M_X12_went NT 0 0 (some lay) [(2, 311), (0, s), (0, t)] G5 (Ok2 c fs G 0)) ∧ (¬ r6 = 0 → Ct (d + 1) M_X12_went NT 0 0 (some lay) [(2, 311), (0, s), (0, t)] G5 (Ok2 c fs G 1))) := by
    intro u u0 u1
    have iu : InR u := by
      by_cases h : G 84 s = 0
      · have := u0 h; omega
      · have w := x6 (G 84 s - 1) (by omega) (by omega)
        rw [show 12 * s + (G 84 s - 1) = 12 * s + G 84 s - 1 by omega] at w
        have := u1 h
        omega
    have no : ¬ wenOk G c s t → (fun (r6 : Int) (G5 : Mem) => InR r6 ∧ (r6 = 0 → Ct (d + 1) M_X12_went NT 0 0 (some lay) [(2, 311), (0, s), (0, t)] G5 (Ok2 c fs G 0)) ∧ (¬ r6 = 0 → Ct (d + 1) M_X12_went NT 0 0 (some lay) [(2, 311), (0, s), (0, t)] G5 (Ok2 c fs G 1))) 0 G := fun h => ⟨by omega, fun _ => mN h, fun x => absurd rfl x⟩
    refine s_X9_addWent_28 b9_81 ⟨by omega, fun z => no (fun x => by have := x.2.2.1; omega), fun z => ⟨it, fun z2 => no (fun x => by have := x.2.1; omega), fun z2 => ⟨fun z3 => no (fun x => by have := x.2.1; omega), fun z3 => ⟨iu, fun z4 => ⟨by omega, fun G9 e9 => ⟨by omega, fun G11 e11 => ⟨by omega, fun x => absurd x (by decide), fun _ => mY ⟨q, by omega, by omega, fun h => ?_⟩ G11 ?_⟩⟩⟩, fun z4 => no (fun x => ?_)⟩⟩⟩⟩
    · rw [← u1 h]; exact z4
    · have a : G9 84 s = G 84 s := by rw [e9, st_nq _ _ _ _ (by decide)]
      have e11 : G11 = st G9 84 s (G9 84 s + 1) := e11
      have e9 : G9 = st G 85 (s * 12 + G 84 s) t := e9
      rw [e11, a, e9, show s * 12 = 12 * s by omega]
    · by_cases h : G 84 s = 0
      · have := u0 h
        have := x.2.1
        omega
      · exact z4 (by rw [u1 h]; exact x.2.2.2 h)
  refine ctof (s_X9_addWent_0 b9_81 ⟨by omega, show InR (G 84 s) by omega, fun z => ⟨?_, L28 _ (fun h => absurd h z) (fun _ => ?_)⟩, fun z => L28 _ (fun _ => rfl) (fun h => absurd h z)⟩)
  · have z : G 84 s ≠ 0 := z
    show 0 ≤ s * 12 + G 84 s - 1 ∧ s * 12 + G 84 s - 1 < 60
    omega
  · show G 85 (s * 12 + G 84 s - 1) = _
    rw [show s * 12 = 12 * s by omega]
end WENT
