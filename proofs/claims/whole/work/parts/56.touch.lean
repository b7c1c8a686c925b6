section TOUCH
variable {d : Nat} {S S' G G' H : Mem} {Q : Int → Mem → Prop} {c : Int} {fs : Int → Law}
theorem b9_81 : Bs 9 81 := by unfold Bs; decide +kernel
/-- only the tells have changed -/
theorem Inv0.tells (hI : Inv0 S G c fs) (eS : ∀ q k : Int, q < 311 → ¬ (81 ≤ q ∧ q < 86) → S' q k = S q k) (eG : ∀ q k : Int, 311 ≤ q → ¬ ((q = 342 ∧ 35 ≤ k ∧ k < 110) ∨ (q = 311 ∧ k = 0)) → G' q k = G q k) (hT : TlX S' G' 81 342 0) : Inv0 S' G' c fs ∧ RkF c S S' := by
  obtain ⟨⟨a1, a2, a3, a4⟩, hC, hL, hU, -, hM, hP⟩ := hI
  have ap := tl_apart
  have e37 : CorC c S S' := fun q k q0 q1 _ _ => eS q k (by omega) (by omega)
  have e3 : StEq S S' 73 73 := ⟨fun k _ _ => eS _ _ (by omega) (by omega), fun j _ _ i _ _ => eS _ _ (by omega) (by omega)⟩
  have e4 : SrEq G G' 342 0 342 0 := ⟨fun k _ _ => eG _ _ (by omega) (by omega), fun k _ _ => eG _ _ (by omega) (by omega)⟩
  refine ⟨⟨⟨by rw [eS 0 13 (by omega) (by omega)]; exact a1, by rw [eS 0 14 (by omega) (by omega)]; exact a2, a3, by rw [eS 19 11 (by omega) (by omega)]; exact a4⟩, ?_, (hL.ext2 (fun q k a b => eG q k (by omega) (by omega))).extC e37, ?_, hT, ?_, ?_⟩, e37, eS _ _ (by omega) (by omega), eS _ _ (by omega) (by omega), fun k => eS _ _ (by omega) (by omega)⟩
  · exact hC.st e37 (hC.2.2.1.cp e3) (by rw [eS 73 7 (by omega) (by omega)]; exact hC.2.2.2.1) (fun q k hq => eG q k (by omega) (by omega)) (hC.2.2.2.2.2.cp hC.2.1.2.2.1.2 e3 e4)
  · exact hU.ext hC.2.1.2.2.1.2 (fun q k hq => eS q k (by omega) (by omega)) (fun q k hq => eG q k (by omega) (by omega))
  · exact hM.ext (fun q k _ _ => eS q k (by omega) (by omega)) (fun q k hq => eG q k (by omega) (by omega))
  · exact hP.ext (fun q k hq => eS q k (by omega) (by omega)) (fun q k hq => eG q k (by omega) (by omega))
theorem t_touch {s y : Int} (hI : Inv0 G G c fs) (is : InR s) (iy : InR y) : Ct (d + 1) M_X11_touch NT 0 0 (some lay) [(2, 0), (0, s), (0, y)] G (fun v G1 => Ct (d + 1) M_X12_touch NT 0 0 (some lay) [(2, 311), (0, s), (0, y)] G1 (Ok2 c fs G v)) := by
  have hC := hI.cls
  have r := hC.rng
  have h37 := hI.1.2.2.1
  have hTl := hI.2.2.2.2.1
  -- the model refuses
  have mN : ¬ ((0 ≤ s ∧ s < G c 8) ∧ G 82 s + G 83 s < 15) → Ct (d + 1) M_X12_touch NT 0 0 (some lay) [(2, 311), (0, s), (0, y)] G (Ok2 c fs G 0) := by
    intro hno
    refine ctof (s_X12_touch_0 (fun G1 e1 => ?_))
    have f1 : ThF G G1 := by rw [e1]; exact ThF.st
    have hR := f1.cu hI.2.1
    have ok : Ok2 c fs G 0 0 G1 := hI.ok ClF.rfl' f1.ml
    refine c_isSitter hR is (fun q => ⟨by omega, fun x => absurd x (by decide), fun _ => ⟨by omega, by omega, ?_⟩⟩) (fun q => ⟨by omega, fun _ => ok, fun x => absurd rfl x⟩)
    obtain ⟨x1, x2, -, x4, -⟩ := hTl s (by omega) (by omega)
    simp only [Int.zero_add, Int.reduceAdd] at x1 x2 x4
    have y1 : G1 342 (35 + s) = G 82 s := by rw [f1 _ _ (by omega)]; exact x1
    have y2 : G1 342 (40 + s) = G 83 s := by rw [f1 _ _ (by omega)]; exact x2
    rw [y1, y2]
    exact ⟨by omega, fun z => absurd (by omega) hno, fun _ => ok⟩
  -- it takes the touch
  have mY : (0 ≤ s ∧ s < G c 8) → G 82 s + G 83 s < 15 → ∀ j, (j = if y = 0 then 2 else 1) → ∀ G1, G1 = st G (81 + j) s (G (81 + j) s + 1) → Ct (d + 1) M_X12_touch NT 0 0 (some lay) [(2, 311), (0, s), (0, y)] G1 (Ok2 c fs G 1) := by
    intro q hlt j hj G1 e1
    have j12 : j = 1 ∨ j = 2 := by split at hj <;> omega
    have o1 : ∀ q k : Int, ¬ (q = 81 + j ∧ k = s) → G1 q k = G q k := fun q k hq => by rw [e1, st_ne _ _ hq]
    refine ctof (s_X12_touch_0 (fun G2 e2 => ?_))
    have f2 : ThF G1 G2 := by rw [e2]; exact ThF.st
    have g2 : ∀ q k : Int, 311 ≤ q → ¬ (q = 311 ∧ k = 0) → G2 q k = G q k := fun q k a b => by rw [f2 q k b, o1 q k (by omega)]
    have hR : Cu G G2 c := hI.2.1.ext (fun q k hq => g2 q k (by omega) (by omega))
    refine c_isSitter hR is (fun _ => ⟨by omega, fun x => absurd x (by decide), fun _ => ⟨by omega, by omega, ?_⟩⟩) (fun x => absurd q x)
    obtain ⟨x1, x2, x3, x4, x5, x6⟩ := hTl s (by omega) (by omega)
    simp only [Int.zero_add, Int.reduceAdd] at x1 x2 x4
    have y1 : G2 342 (35 + s) = G 82 s := by rw [g2 _ _ (by omega) (by omega)]; exact x1
    have y2 : G2 342 (40 + s) = G 83 s := by rw [g2 _ _ (by omega) (by omega)]; exact x2
    rw [y1, y2]
    have fin : ∀ G3, G3 = st G2 342 (30 + 5 * j + s) (G (81 + j) s + 1) → Ok2 c fs G 1 1 G3 := by
      intro G3 e3
      have o3 : ∀ q k : Int, ¬ (q = 342 ∧ k = 30 + 5 * j + s) → G3 q k = G2 q k := fun q k hq => by rw [e3, st_ne _ _ hq]
      have hT : TlX G1 G3 81 342 0 := by
        intro i i0 i5
        obtain ⟨w1, w2, w3, w4, w5, w6⟩ := hTl i i0 i5
        have a85 : ∀ k, G1 (81 + 4) k = G (81 + 4) k := fun k => o1 _ _ (by omega)
        have a84 : G1 (81 + 3) i = G (81 + 3) i := o1 _ _ (by omega)
        have b : ∀ k, k ≠ 30 + 5 * j + s → k ≠ 0 → G3 342 (0 + k) = G 342 (0 + k) := fun k hk _ => by rw [o3 _ _ (by omega), g2 _ _ (by omega) (by omega)]
        simp only [a85, a84]
        by_cases hi : i = s
        · subst hi
          rcases j12 with rfl | rfl
          · have c1 : G1 (81 + 1) i = G (81 + 1) i + 1 := by rw [e1, st_same]
            have c2 : G1 (81 + 2) i = G (81 + 2) i := o1 _ _ (by omega)
            have c3 : G3 342 (0 + (35 + i)) = G (81 + 1) i + 1 := by rw [e3, show (0 : Int) + (35 + i) = 30 + 5 * 1 + i by omega, st_same]
            rw [c1, c2, c3, b (40 + i) (by omega) (by omega), b (45 + i) (by omega) (by omega)]
            refine ⟨rfl, w2, w3, by simp only [Int.reduceAdd] at w4 ⊢; omega, w5, fun k k0 k1 => ?_⟩
            rw [b (50 + 12 * i + k) (by omega) (by omega)]
            exact w6 k k0 k1
          · have c1 : G1 (81 + 1) i = G (81 + 1) i := o1 _ _ (by omega)
            have c2 : G1 (81 + 2) i = G (81 + 2) i + 1 := by rw [e1, st_same]
            have c3 : G3 342 (0 + (40 + i)) = G (81 + 2) i + 1 := by rw [e3, show (0 : Int) + (40 + i) = 30 + 5 * 2 + i by omega, st_same]
            rw [c1, c2, c3, b (35 + i) (by omega) (by omega), b (45 + i) (by omega) (by omega)]
            refine ⟨w1, rfl, w3, by simp only [Int.reduceAdd] at w4 ⊢; omega, w5, fun k k0 k1 => ?_⟩
            rw [b (50 + 12 * i + k) (by omega) (by omega)]
            exact w6 k k0 k1
        · rw [o1 (81 + 1) i (by omega), o1 (81 + 2) i (by omega), b (35 + i) (by omega) (by omega), b (40 + i) (by omega) (by omega), b (45 + i) (by omega) (by omega)]
          refine ⟨w1, w2, w3, w4, w5, fun k k0 k1 => ?_⟩
          rw [b (50 + 12 * i + k) (by omega) (by omega)]
          exact w6 k k0 k1
      have fin := hI.tells (S' := G1) (G' := G3) (fun q k a b => o1 q k (by omega)) (fun q k a b => by rw [o3 q k (by omega)]; exact g2 q k a (by omega)) hT
      have low : ∀ q k : Int, q < 311 → G3 q k = G1 q k := fun q k a => by rw [o3 q k (by omega), f2 q k (by omega)]
      exact ⟨rfl, fin.1.ext (fun q k a _ => low q k a) QtM.rfl', fin.2.tr (RkF.of h37 (fun q k a _ => low q k a))⟩
    refine ⟨by omega, fun _ => ⟨iy, fun z G12 e12 => fin G12 ?_, fun z G13 e13 => fin G13 ?_⟩, fun z => absurd (by omega) z⟩
    · rw [if_pos z] at hj
      subst hj
      exact e12
    · rw [if_neg z] at hj
      subst hj
      exact e13
  refine ctof (s_X11_touch_0 (c_X11_known hC is (fun q => ⟨by omega, fun x => absurd x (by decide), fun _ => ?_⟩) (fun q => ⟨by omega, fun _ => mN (fun x => q x.1), fun x => absurd rfl x⟩)))
  obtain ⟨x1, x2, x3, x4, x5, x6⟩ := hTl s (by omega) (by omega)
  simp only [Int.reduceAdd] at x4
  refine ctof (s_X9_addTouch_0 b9_81 ⟨by omega, show InR (G 82 s + G 83 s) by omega, fun z => ⟨iy, fun z0 G6 e6 => ⟨by omega, fun x => absurd x (by decide), fun _ => mY q z 2 (by rw [if_pos z0]) G6 e6⟩, fun z0 G7 e7 => ⟨by omega, fun x => absurd x (by decide), fun _ => mY q z 1 (by rw [if_neg z0]) G7 e7⟩⟩, fun z => ⟨by omega, fun _ => mN (fun x => z x.2), fun x => absurd rfl x⟩⟩)
end TOUCH
