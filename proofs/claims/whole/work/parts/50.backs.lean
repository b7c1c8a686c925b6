section BACKS
variable {d : Nat} {S S' G G' H : Mem} {Q : Int → Mem → Prop} {c : Int} {fs : Int → Law}
def backOk (S : Mem) (c s w l : Int) : Prop := (0 ≤ s ∧ s < S c 8) ∧ (0 ≤ w ∧ w < p3 (S c 6)) ∧ (0 ≤ l ∧ l < shlI 1 (S c 6)) ∧ S 75 s = -1 ∧ ¬ clsd S c (S 73 7)
theorem t_back {s w l : Int} (hI : Inv0 G G c fs) (is : InR s) (iw : InR w) (il : InR l) : Ct (d + 4) M_X11_back NT 0 0 (some lay) [(2, 0), (0, s), (0, w), (0, l)] G (fun v G1 => Ct (d + 4) M_X12_back NT 0 0 (some lay) [(2, 311), (0, s), (0, w), (0, l)] G1 (Ok2 c fs G v)) := by
  have hC := hI.cls
  have r := hC.rng
  have hc := hC.1
  have tk := hC.tick
  have h37 := hI.1.2.2.1
  have hU := hI.2.2.2.1
  obtain ⟨m, hm⟩ := Int.eq_ofNat_of_zero_le r.2.2.1.1
  -- refused
  have mN : ¬ backOk G c s w l → Ct (d + 4) M_X12_back NT 0 0 (some lay) [(2, 311), (0, s), (0, w), (0, l)] G (Ok2 c fs G (-1)) := by
    intro hno
    refine ctof (s_X12_back_0 (fun G1 e1 => ?_))
    have f1 : ThF G G1 := by rw [e1]; exact ThF.st
    have hR := f1.cu hI.2.1
    have ok : Ok2 c fs G (-1) (-1) G1 := hI.ok ClF.rfl' f1.ml
    refine c_isSitter hR is (fun q => ⟨by omega, fun _ => ok, fun _ => c_areWays hR iw il (fun q2 => ⟨by omega, fun _ => ok, fun _ => ?_⟩) (fun q2 => ⟨by omega, fun _ => ok, fun x => absurd rfl x⟩)⟩) (fun q => ⟨by omega, fun _ => ok, fun x => absurd rfl x⟩)
    have row := (hR.row q.1 q.2).2.1
    have ro := (hR.rok (i := s) (by omega) (by omega)).2.1
    refine ⟨by omega, by omega, fun _ => ok, fun q3 => ?_⟩
    rw [hR.nums.1]
    exact c_isShut hR (by omega) (fun b => ⟨by omega, fun x => absurd x (by decide), fun _ => ok⟩) (fun b => absurd ⟨q, q2.1, q2.2, by omega, b⟩ hno)
  -- the class's walk: Gk behind the keeping, then the seats
  have mY : backOk G c s w l → ∀ (Gk : Mem), KpR G Gk → ∀ (mm : Nat), (mm : Int) = G c 6 - 1 - G (c + 13 + s) 1 → ∀ (v : Int) (G1 : Mem), (∀ q k : Int, 311 ≤ q → G1 q k = G q k) →
      v = goA c w l (fun i => Gk c 6 - 1 - i) mm 0 Gk →
      (v = 0 → G1 = goL c w l (fun i => Gk c 6 - 1 - i) mm 0 Gk) →
      (v ≠ 0 → G1 = st (goL c w l (fun i => Gk c 6 - 1 - i) mm 0 Gk) 75 s 0) →
      Ct (d + 4) M_X12_back NT 0 0 (some lay) [(2, 311), (0, s), (0, w), (0, l)] G1 (Ok2 c fs G v) := by
    intro hgo Gk hk mm hmm v G1 hm1 hv hv0 hv1
    obtain ⟨q, q2, q3, q4, q6⟩ := hgo
    obtain ⟨hCk, ek⟩ := hk.cls hC hU.1
    have c0 := cb_lt hC.2.1
    have ap := st_cb_apart 73 (by decide) c hC.2.1.cb
    refine ctof (s_X12_back_0 (fun G2 e2 => ?_))
    have f2 : ThF G1 G2 := by rw [e2]; exact ThF.st
    have g2 : ∀ q k : Int, 311 ≤ q → ¬ (q = 311 ∧ k = 0) → G2 q k = G q k := fun q k a b => by rw [f2 q k b, hm1 q k a]
    have hR : Cu G G2 c := hI.2.1.ext (fun q k hq => g2 q k (by omega) (by omega))
    refine c_isSitter hR is (fun _ => ⟨by omega, fun x => absurd x (by decide), fun _ => c_areWays hR iw il (fun _ => ⟨by omega, fun x => absurd x (by decide), fun _ => ?_⟩) (fun x => absurd ⟨q2, q3⟩ x)⟩) (fun x => absurd q x)
    have row := (hR.row q.1 q.2).2.1
    refine ⟨by omega, by omega, fun x => by omega, fun _ => ?_⟩
    rw [hR.nums.1]
    refine c_isShut hR (by omega) (fun b => absurd b q6) (fun b => ⟨by omega, fun _ => ?_, fun x => absurd rfl x⟩)
    have d46 : G2 311 46 = G 0 16 := by rw [g2 _ _ (by omega) (by omega)]; exact hU.2.2.1
    refine c_keeps (by have := hU.2.1; omega) (fun G3 hk3 => ?_)
    have hUk : UnR Gk G3 c := UnR.keep (S := G) (G := G2) (hU.ext r.2.2.1.2 (fun _ _ _ => rfl) (fun q k hq => g2 q k (by omega) (by omega))) hC.2.1 hC.2.2.2.1 tk.2 r.2.2.1.2 hR.2.2.2.2.2 hk hk3
    have m4 := hk3.2.2.2
    have cck : CorC c G Gk := fun q k q0 q1 _ _ => ek q k (by omega)
    have hRk : Cu Gk G3 c := by
      have e3 : StEq G Gk 73 73 := ⟨fun k _ _ => ek _ _ (by omega), fun j _ _ i _ _ => ek _ _ (by omega)⟩
      refine hR.st cck (hR.2.2.1.cp e3) (by rw [ek 73 7 (by omega)]; exact tk.2) (fun q k hq => m4 q k (by omega) (by omega)) ?_
      exact hR.2.2.2.2.2.cp r.2.2.1.2 e3 ⟨fun k _ _ => m4 _ _ (by omega) (by omega), fun k _ _ => m4 _ _ (by omega) (by omega)⟩
    have s8 : Gk c 8 = G c 8 := ek _ _ (by omega)
    have s6 : Gk c 6 = G c 6 := ek _ _ (by omega)
    have s1 : Gk (c + 13 + s) 1 = G (c + 13 + s) 1 := ek _ _ (by omega)
    have pw := p3_in (n := G c 6) (by omega)
    refine c_passesBy (m := mm) hRk (by omega) (by omega) (Or.inr rfl) (by omega) (f := fun i => Gk c 6 - 1 - i) (by funext i; rw [if_neg (by decide)]) (fun G4 hR4 hF4 => ?_)
    generalize hGp : goL c w l (fun i => Gk c 6 - 1 - i) mm 0 Gk = Gp at *
    have pfr : ∀ q k : Int, ¬ (73 ≤ q ∧ q < 81) → Gp q k = Gk q k := fun q k hq => by rw [← hGp]; exact goL_fr hq _ _ _
    have g4 : ∀ q k : Int, q ≠ 344 → q ≠ 342 → ¬ (q = 311) → G4 q k = G2 q k := fun q k a b e => by rw [hF4.1 q k b, m4 q k a (by omega)]
    have a01 := goA_01 (c := c) (w := w) (l := l) (f := fun i => Gk c 6 - 1 - i) mm 0 Gk
    rw [← hv] at a01 ⊢
    have ccp : CorC c G Gp := fun q k q0 q1 a b => by rw [pfr q k (by omega)]; exact cck q k q0 q1 a b
    have hUp : UnR Gp G4 c := hUk.ext (by omega) (fun q k hq => pfr q k (by omega)) (fun q k hq => hF4.1 q k (by omega))
    have mdl : SmF G G4 := fun q k a b => by
      by_cases e : q = 342
      · subst e
        rw [hF4.2 k (by omega) (by omega), m4 _ _ (by omega) (by omega), g2 _ _ (by omega) (by omega)]
      · by_cases e2 : q = 311
        · subst e2
          obtain rfl : k = 1 := by omega
          rw [hF4.1 _ _ (by omega), m4 _ _ (by omega) (by omega), g2 _ _ (by omega) (by omega)]
        · rw [g4 q k (by omega) e e2, g2 q k a (by omega)]
    have clsE : StF c G Gp := fun q k a b => by rw [pfr q k (by omega)]; exact hk.2.2.2 q k (by have := hU.1; omega) (by omega)
    refine ⟨by omega, fun x => ?_, fun x => ?_⟩
    · -- out he goes
      have ea := hv1 x
      have p8 : Gp c 8 = m := by rw [ccp c 8 (by omega) (by omega) (by omega) (by omega)]; exact hm
      refine fun G7 e7 => ?_
      have st4 := hR4.2.2.1
      have n4 := hR4.nums
      have av : v = 1 := by omega
      have g7 : ∀ k, G7 342 k = if k = 5 + s then 0 else G4 342 k := by
        intro k
        rw [e7]
        simp only [st, true_and]
      have g7o : ∀ q k : Int, q ≠ 342 → ¬ (332 ≤ q ∧ q ≤ 341) → G7 q k = G4 q k := fun q k a b => by rw [e7, st_nq _ _ _ _ a]
      have s7 : ∀ q k : Int, 73 ≤ q ∧ q < 81 → G1 q k = if q = 75 ∧ k = s then 0 else Gp q k := by
        intro q k hq
        rw [ea]
        simp only [st]
      have s7o : ∀ q k : Int, ¬ (73 ≤ q ∧ q < 81) → q ≠ c + 7 → q ≠ c + 12 → G1 q k = Gp q k := fun q k a b e => by rw [ea, st_nq _ _ _ _ (by omega)]
      have cc1 : CorC c Gp G1 := fun q k q0 q1 a b => s7o q k (by omega) a b
      have t7 : G1 73 7 = Gp 73 7 := by rw [s7 73 7 (by omega)]; simp
      have hC7 : Cu G1 G7 c := by
        refine hR4.st cc1 ⟨by rw [t7]; exact st4.1, fun i i0 i5 => ?_⟩ (by rw [t7]; exact hR4.2.2.2.1) (fun q k hq => g7o q k (by omega) (by omega)) (StX.mk0 (fun i i0 i1 => ?_) (fun i i0 i5 => ?_) ?_)
        · have x := hR4.rok i0 i5
          unfold RwOk
          simp only [Int.reduceAdd]
          rw [s7 74 i (by omega), s7 75 i (by omega), s7 76 i (by omega), s7 80 i (by omega)]
          simp only [Int.reduceEq, true_and, false_and, reduceIte]
          refine ⟨?_, ?_, by omega, by omega, ?_⟩ <;> (repeat' split) <;> omega
        · have x := hR4.row i0 i1
          rw [s7 74 i (by omega), s7 75 i (by omega), s7 76 i (by omega), s7 77 i (by omega), s7 78 i (by omega), s7 79 i (by omega)]
          simp only [g7, Int.reduceEq, true_and, false_and, reduceIte]
          refine ⟨?_, ?_, ?_, ?_, ?_, ?_⟩ <;> (repeat' split) <;> omega
        · have x := hR4.cup i0 i5
          rw [s7 80 i (by omega)]
          simp only [g7, Int.reduceEq, true_and, false_and, reduceIte]
          repeat' split
          all_goals omega
        · rw [s7 73 7 (by omega), s7 73 8 (by omega), s7 73 9 (by omega), s7 73 10 (by omega), s7 73 11 (by omega)]
          simp only [g7, Int.reduceEq, true_and, false_and, reduceIte]
          refine ⟨?_, ?_, ?_, ?_, ?_⟩ <;> (repeat' split) <;> omega
      have hU7 : UnR G1 G7 c := hUp.ext (by omega) (fun q k hq => s7o q k (by omega) (by omega) (by omega)) (fun q k hq => g7o q k (by omega) (by omega))
      have fin := hI.state (S' := G1) (G' := G7) (fun q k a b => by rw [s7o q k (by omega) (by omega) (by omega)]; exact clsE q k a b) (fun q k a b => by
        by_cases e : q = 342
        · subst e
          rw [g7, if_neg (by omega)]; exact mdl _ _ a b
        · rw [g7o q k e (by omega)]; exact mdl q k a b) hC7 hU7
      have low : ∀ q k : Int, q < 311 → G7 q k = G1 q k := fun q k a => by rw [g7o q k (by omega) (by omega), g4 q k (by omega) (by omega) (by omega), f2 q k (by omega)]
      exact ⟨av, fin.1.ext (fun q k a _ => low q k a) QtM.rfl', fin.2.tr (RkF.of h37 (fun q k a _ => low q k a))⟩
    · have x := Decidable.not_not.mp x
      have e1 := hv0 x
      have fin := hI.state (S' := Gp) (G' := G4) clsE mdl hR4 hUp
      have low : ∀ q k : Int, q < 311 → G4 q k = Gp q k := fun q k a => by rw [g4 q k (by omega) (by omega) (by omega), f2 q k (by omega), e1]
      exact ⟨x, fin.1.ext (fun q k a _ => low q k a) QtM.rfl', fin.2.tr (RkF.of h37 (fun q k a _ => low q k a))⟩
  -- the class
  have no : ∀ P : Prop, ¬ P → (backOk G c s w l → P) → Ct (d + 4) M_X12_back NT 0 0 (some lay) [(2, 311), (0, s), (0, w), (0, l)] G (Ok2 c fs G (-1)) := fun P h1 h2 => mN (fun x => h1 (h2 x))
  refine ctof (s_X11_back_0 (c_X11_known hC is (fun q => ⟨by omega, fun x => absurd x (by decide), fun _ => c_X11_rightWays hC iw (fun q2 => ⟨by omega, fun x => absurd x (by decide), fun _ => c_X11_rightLuck hC il (fun q3 => ⟨by omega, fun x => absurd x (by decide), fun _ => ?_⟩) (fun q3 => ⟨by omega, fun _ => no _ q3 (fun x => x.2.2.1), fun x => absurd rfl x⟩)⟩) (fun q2 => ⟨by omega, fun _ => no _ q2 (fun x => x.2.1), fun x => absurd rfl x⟩)⟩) (fun q => ⟨by omega, fun _ => no _ q (fun x => x.1), fun x => absurd rfl x⟩)))
  have ro := (hC.rok (i := s) (by omega) (by omega)).2.1
  refine ⟨by omega, by omega, fun x => no _ x (fun y => y.2.2.2.1), fun q4 b2 h2 => ?_⟩
  rw [hc] at h2
  subst h2
  refine ⟨hC.2.1, c_clo hC (by omega) (fun z => ⟨by omega, fun x => absurd x (by decide), fun _ => no _ (not_not_intro z) (fun y => y.2.2.2.2)⟩) (fun z => ⟨by omega, fun _ => ?_, fun x => absurd rfl x⟩)⟩
  have gok : backOk G b2 s w l := ⟨q, q2, q3, by omega, z⟩
  refine c_keepPast hU.1 hU.2.1 (fun Gk hk => ?_)
  obtain ⟨hCk, ek⟩ := hk.cls hC hU.1
  have s8 : Gk b2 8 = G b2 8 := ek _ _ (by omega)
  have s6 : Gk b2 6 = G b2 6 := ek _ _ (by omega)
  have s1 : Gk (b2 + 13 + s) 1 = G (b2 + 13 + s) 1 := ek _ _ (by omega)
  have seat := hC.seat q.1 q.2
  have pw := p3_in (n := G b2 6) (by omega)
  obtain ⟨mm, hmm⟩ := Int.eq_ofNat_of_zero_le (show 0 ≤ G b2 6 - 1 - G (b2 + 13 + s) 1 by omega)
  have a01 := goA_01 (c := b2) (w := w) (l := l) (f := fun i => Gk b2 6 - 1 - i) mm 0 Gk
  have ap := st_cb_apart 73 (by decide) b2 hC.2.1.cb
  have c0 := cb_lt hC.2.1
  have up : ∀ q k : Int, 311 ≤ q → goL b2 w l (fun i => Gk b2 6 - 1 - i) mm 0 Gk q k = G q k := fun q k a => by rw [goL_fr (by omega), ek q k (by omega)]
  refine c_passIn (m := mm) hCk (by omega) (by omega) (by omega) ⟨by omega, fun x G29 e29 => ?_, fun x => ?_⟩
  · have v1 : goA b2 w l (fun i => Gk b2 6 - 1 - i) mm 0 Gk = 1 := by omega
    refine mY gok Gk hk mm (by omega) 1 _ (fun q k a => ?_) v1.symm (fun y => absurd y (by decide)) (fun _ => e29)
    rw [e29, st_nq _ _ _ _ (by omega)]
    exact up q k a
  · have v0 : goA b2 w l (fun i => Gk b2 6 - 1 - i) mm 0 Gk = 0 := Decidable.not_not.mp x
    exact mY gok Gk hk mm (by omega) 0 _ up v0.symm (fun _ => rfl) (fun y => absurd rfl y)
end BACKS
