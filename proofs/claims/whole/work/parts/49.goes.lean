section GOES
variable {d : Nat} {S S' G G' H : Mem} {Q : Int → Mem → Prop} {c : Int} {fs : Int → Law}
theorem LawsR.ext2 {r : Int} (h : LawsR S G c r fs) (e : ∀ q k : Int, 327 ≤ q → q ≤ 329 → G' q k = G q k) : LawsR S G' c r fs := by
  refine ⟨h.1, fun l l0 l3 => ?_⟩
  have x := h.2 l l0 l3
  unfold LawR at x ⊢
  have z : (fun k => G' 329 k) = fun k => G 329 k := funext fun k => e _ _ (by omega) (by omega)
  rw [z, e 327 (3 * r + l) (by omega) (by omega), e 328 (3 * r + l) (by omega) (by omega)]
  exact x
/-- the class's leave -/
theorem c_leave {w n : Int} (hC : Cls G c) (hw : 0 ≤ w ∧ w < G c 8) (hL : LawsR G H c 0 fs) {m : Nat} (hm : G c 8 = m) (h : ∀ G1, EvC c G G1 → Q 0 (st (st G1 75 w (1 + queV G c fs (G 73 7) (outsf G 73 m))) 74 w 0)) : Ct (d + 3) M_X8_leave NT 0 0 (some lay) [(2, 73), (2, c), (0, w)] G Q := by
  have r := hC.rng
  have rok := fun (i : Int) (i0 : 0 ≤ i) (i1 : i < 5) => (hC.rok i0 i1).2.1
  refine ctof (s_X8_leave_0 b8_73 hC.2.1 (c_X8_outside b8_73 hC.2.1 hm (by omega) (fun i i0 i5 => by have := rok i i0 i5; show InR (G 75 i); omega) (c_X1_away hC.2.1 hL (fun G1 f1 => ⟨by omega, fun G6 e6 G7 e7 => ?_⟩))))
  rw [e7, e6]
  exact h G1 f1
def goOk (S : Mem) (c s w l : Int) : Prop := (0 ≤ s ∧ s < S c 8) ∧ (0 ≤ w ∧ w < p3 (S c 6)) ∧ (0 ≤ l ∧ l < shlI 1 (S c 6)) ∧ S 75 s = 0 ∧ ¬ aslp S 73 c s (S 73 7) ∧ ¬ clsd S c (S 73 7)
theorem KpR.cls {S' : Mem} (h : Cls S c) (hn : 0 ≤ S 0 15 ∧ S 0 15 < 12) (k : KpR S S') : Cls S' c ∧ (∀ q j : Int, (73 ≤ q ∧ q < 81) ∨ (c ≤ q ∧ q < c + 18) ∨ (q = 0 ∧ j ≠ 15 ∧ j ≠ 16) ∨ (1 ≤ q ∧ q < 87) ∨ (183 ≤ q) → S' q j = S q j) := by
  have ap := st_cb_apart _ (pastB hn).st c h.2.1.cb
  have c0 := cb_lt h.2.1
  have e : ∀ q j : Int, (73 ≤ q ∧ q < 81) ∨ (c ≤ q ∧ q < c + 18) ∨ (q = 0 ∧ j ≠ 15 ∧ j ≠ 16) ∨ (1 ≤ q ∧ q < 87) ∨ (183 ≤ q) → S' q j = S q j := fun q j hq => k.2.2.2 q j (by omega) (by omega)
  have cc : CorC c S S' := fun q k q0 q1 _ _ => e q k (by omega)
  have e3 : StEq S S' 73 73 := ⟨fun k _ _ => e _ _ (by omega), fun j _ _ i _ _ => e _ _ (by omega)⟩
  exact ⟨⟨by rw [e 0 13 (by omega)]; exact h.1, h.2.1, h.2.2.1.cp cc.eq, h.2.2.2.1.cp e3, by rw [e 73 7 (by omega), e c 7 (by omega)]; exact h.2.2.2.2⟩, e⟩
theorem t_go {s w l : Int} (hI : Inv0 G G c fs) (is : InR s) (iw : InR w) (il : InR l) : Ct (d + 4) M_X11_go NT 0 0 (some lay) [(2, 0), (0, s), (0, w), (0, l)] G (fun v G1 => Ct (d + 4) M_X12_go NT 0 0 (some lay) [(2, 311), (0, s), (0, w), (0, l)] G1 (Ok2 c fs G v)) := by
  have hC := hI.cls
  have r := hC.rng
  have hc := hC.1
  have tk := hC.tick
  have h37 := hI.1.2.2.1
  have hU := hI.2.2.2.1
  obtain ⟨m, hm⟩ := Int.eq_ofNat_of_zero_le r.2.2.1.1
  -- refused
  have mN : ¬ goOk G c s w l → Ct (d + 4) M_X12_go NT 0 0 (some lay) [(2, 311), (0, s), (0, w), (0, l)] G (Ok2 c fs G (-1)) := by
    intro hno
    refine ctof (s_X12_go_0 (fun G1 e1 => ?_))
    have f1 : ThF G G1 := by rw [e1]; exact ThF.st
    have hR := f1.cu hI.2.1
    have ok : Ok2 c fs G (-1) (-1) G1 := hI.ok ClF.rfl' f1.ml
    refine c_isSitter hR is (fun q => ⟨by omega, fun _ => ok, fun _ => c_areWays hR iw il (fun q2 => ⟨by omega, fun _ => ok, fun _ => ?_⟩) (fun q2 => ⟨by omega, fun _ => ok, fun x => absurd rfl x⟩)⟩) (fun q => ⟨by omega, fun _ => ok, fun x => absurd rfl x⟩)
    have row := (hR.row q.1 q.2).2.1
    have ro := (hR.rok (i := s) (by omega) (by omega)).2.1
    refine ⟨by omega, by omega, fun _ => ok, fun q3 => c_isAsleep hR q (fun a => ⟨by omega, fun _ => ok, fun x => absurd (show (1 : Int) ≠ 0 by decide) x⟩) (fun a => ⟨by omega, fun x => absurd rfl x, fun _ => ?_⟩)⟩
    rw [hR.nums.1]
    exact c_isShut hR (by omega) (fun b => ⟨by omega, fun x => absurd x (by decide), fun _ => ok⟩) (fun b => absurd ⟨q, q2.1, q2.2, by omega, a, b⟩ hno)
  -- the class's walk: Gk behind the keeping, then the seats
  have mY : goOk G c s w l → ∀ (Gk : Mem), KpR G Gk → ∀ (mm : Nat), (mm : Int) = G c 6 - 1 - G (c + 13 + s) 1 → ∀ (v : Int) (G1 : Mem), (∀ q k : Int, 311 ≤ q → G1 q k = G q k) →
      v = goA c w l (fun i => Gk (c + 13 + s) 1 + 1 + i) mm 0 Gk →
      (v = 0 → G1 = goL c w l (fun i => Gk (c + 13 + s) 1 + 1 + i) mm 0 Gk) →
      (v ≠ 0 → ∃ Ga, EvC c (goL c w l (fun i => Gk (c + 13 + s) 1 + 1 + i) mm 0 Gk) Ga ∧ G1 = st (st Ga 75 s (1 + queV (goL c w l (fun i => Gk (c + 13 + s) 1 + 1 + i) mm 0 Gk) c fs ((goL c w l (fun i => Gk (c + 13 + s) 1 + 1 + i) mm 0 Gk) 73 7) (outsf (goL c w l (fun i => Gk (c + 13 + s) 1 + 1 + i) mm 0 Gk) 73 m))) 74 s 0) →
      Ct (d + 4) M_X12_go NT 0 0 (some lay) [(2, 311), (0, s), (0, w), (0, l)] G1 (Ok2 c fs G v) := by
    intro hgo Gk hk mm hmm v G1 hm1 hv hv0 hv1
    obtain ⟨q, q2, q3, q4, q5, q6⟩ := hgo
    obtain ⟨hCk, ek⟩ := hk.cls hC hU.1
    have c0 := cb_lt hC.2.1
    have ap := st_cb_apart 73 (by decide) c hC.2.1.cb
    refine ctof (s_X12_go_0 (fun G2 e2 => ?_))
    have f2 : ThF G1 G2 := by rw [e2]; exact ThF.st
    have g2 : ∀ q k : Int, 311 ≤ q → ¬ (q = 311 ∧ k = 0) → G2 q k = G q k := fun q k a b => by rw [f2 q k b, hm1 q k a]
    have hR : Cu G G2 c := hI.2.1.ext (fun q k hq => g2 q k (by omega) (by omega))
    refine c_isSitter hR is (fun _ => ⟨by omega, fun x => absurd x (by decide), fun _ => c_areWays hR iw il (fun _ => ⟨by omega, fun x => absurd x (by decide), fun _ => ?_⟩) (fun x => absurd ⟨q2, q3⟩ x)⟩) (fun x => absurd q x)
    have row := (hR.row q.1 q.2).2.1
    refine ⟨by omega, by omega, fun x => by omega, fun _ => c_isAsleep hR q (fun a => absurd a q5) (fun a => ⟨by omega, fun x => absurd rfl x, fun _ => ?_⟩)⟩
    rw [hR.nums.1]
    refine c_isShut hR (by omega) (fun b => absurd b q6) (fun b => ⟨by omega, fun _ => ?_, fun x => absurd rfl x⟩)
    have d46 : G2 311 46 = G 0 16 := by rw [g2 _ _ (by omega) (by omega)]; exact hU.2.2.1
    refine c_keeps (by have := hU.2.1; omega) (fun G3 hk3 => ?_)
    have hUk : UnR Gk G3 c := UnR.keep (S := G) (G := G2) (hU.ext r.2.2.1.2 (fun _ _ _ => rfl) (fun q k hq => g2 q k (by omega) (by omega))) hC.2.1 hC.2.2.2.1 tk.2 r.2.2.1.2 hR.2.2.2.2.2 hk hk3
    have m4 := hk3.2.2.2
    have cck : CorC c G Gk := fun q k q0 q1 _ _ => ek q k (by omega)
    have hRk : Cu Gk G3 c := by
      have e3 : StEq G Gk 73 73 := ⟨fun k _ _ => ek _ _ (by omega), fun j _ _ i _ _ => ek _ _ (by omega)⟩
      refine hR.st cck (hR.2.2.1.cp e3) (by rw [ek 73 7 (by omega)]; exact tk.2) (fun q k hq => m4 q k (by omega) (by omega)) ?_
      exact hR.2.2.2.2.2.cp r.2.2.1.2 e3 ⟨fun k _ _ => m4 _ _ (by omega) (by omega), fun k _ _ => m4 _ _ (by omega) (by omega)⟩
    have s8 : Gk c 8 = G c 8 := ek _ _ (by omega)
    have s6 : Gk c 6 = G c 6 := ek _ _ (by omega)
    have s1 : Gk (c + 13 + s) 1 = G (c + 13 + s) 1 := ek _ _ (by omega)
    have pw := p3_in (n := G c 6) (by omega)
    refine c_passesBy (m := mm) hRk (by omega) (by omega) (Or.inl rfl) (by omega) (f := fun i => Gk (c + 13 + s) 1 + 1 + i) (by funext i; rw [if_pos rfl]) (fun G4 hR4 hF4 => ?_)
    generalize hGp : goL c w l (fun i => Gk (c + 13 + s) 1 + 1 + i) mm 0 Gk = Gp at *
    have pfr : ∀ q k : Int, ¬ (73 ≤ q ∧ q < 81) → Gp q k = Gk q k := fun q k hq => by rw [← hGp]; exact goL_fr hq _ _ _
    have g4 : ∀ q k : Int, q ≠ 344 → q ≠ 342 → ¬ (q = 311) → G4 q k = G2 q k := fun q k a b e => by rw [hF4.1 q k b, m4 q k a (by omega)]
    have a01 := goA_01 (c := c) (w := w) (l := l) (f := fun i => Gk (c + 13 + s) 1 + 1 + i) mm 0 Gk
    rw [← hv] at a01 ⊢
    have ccp : CorC c G Gp := fun q k q0 q1 a b => by rw [pfr q k (by omega)]; exact cck q k q0 q1 a b
    have hUp : UnR Gp G4 c := hUk.ext (by omega) (fun q k hq => pfr q k (by omega)) (fun q k hq => hF4.1 q k (by omega))
    have mdl : SmF G G4 := fun q k a b => by
      by_cases e : q = 342
      · subst e
        rw [hF4.2 k (by omega) (by omega), m4 _ _ (by omega) (by omega), g2 _ _ (by omega) (by omega)]
      · by_cases e2 : q = 311
        · subst e2
          obtain rfl : k = 1 := by omega
          rw [hF4.1 _ _ (by omega), m4 _ _ (by omega) (by omega), g2 _ _ (by omega) (by omega)]
        · rw [g4 q k (by omega) e e2, g2 q k a (by omega)]
    have clsE : StF c G Gp := fun q k a b => by rw [pfr q k (by omega)]; exact hk.2.2.2 q k (by have := hU.1; omega) (by omega)
    refine ⟨by omega, fun x => ?_, fun x => ?_⟩
    · -- out he goes
      obtain ⟨Ga, fa, ea⟩ := hv1 x
      have hL4 : LawsR Gp G4 c 0 fs := (hI.2.2.1.ext2 (fun q k a b => (g4 q k (by omega) (by omega) (by omega)).trans (g2 q k (by omega) (by omega)))).extC ccp
      have p8 : Gp c 8 = m := by rw [ccp c 8 (by omega) (by omega) (by omega) (by omega)]; exact hm
      refine c_outNow hR4 p8 ?_
      rw [hR4.nums.1]
      refine c_queueAt hL4 (fun G5 f5 G6 e6 => ⟨by omega, fun G7 e7 => ?_⟩)
      have qv := queV_in (S := Gp) (c := c) (fs := fs) (t := Gp 73 7) (ou := outsf Gp 73 m)
      generalize hqv : queV Gp c fs (Gp 73 7) (outsf Gp 73 m) = qq at *
      have st4 := hR4.2.2.1
      have n4 := hR4.nums
      have av : v = 1 := by omega
      have g7 : ∀ k, G7 342 k = if k = s then 0 else if k = 5 + s then 1 + qq else G4 342 k := by
        intro k
        rw [e7, e6]
        simp only [st, true_and]
        repeat' split
        all_goals first | rfl | exact f5 342 k (by omega)
      have g7o : ∀ q k : Int, q ≠ 342 → ¬ (332 ≤ q ∧ q ≤ 341) → G7 q k = G4 q k := fun q k a b => by rw [e7, st_nq _ _ _ _ a, e6, st_nq _ _ _ _ a]; exact f5 q k b
      have s7 : ∀ q k : Int, 73 ≤ q ∧ q < 81 → G1 q k = if q = 74 ∧ k = s then 0 else if q = 75 ∧ k = s then 1 + qq else Gp q k := by
        intro q k hq
        rw [ea]
        simp only [st]
        repeat' split
        all_goals first | rfl | exact fa q k (by omega) (by omega)
      have s7o : ∀ q k : Int, ¬ (73 ≤ q ∧ q < 81) → q ≠ c + 7 → q ≠ c + 12 → G1 q k = Gp q k := fun q k a b e => by rw [ea, st_nq _ _ _ _ (by omega), st_nq _ _ _ _ (by omega)]; exact fa q k b e
      have cc1 : CorC c Gp G1 := fun q k q0 q1 a b => s7o q k (by omega) a b
      have t7 : G1 73 7 = Gp 73 7 := by rw [s7 73 7 (by omega)]; simp
      have hC7 : Cu G1 G7 c := by
        refine hR4.st cc1 ⟨by rw [t7]; exact st4.1, fun i i0 i5 => ?_⟩ (by rw [t7]; exact hR4.2.2.2.1) (fun q k hq => g7o q k (by omega) (by omega)) (StX.mk0 (fun i i0 i1 => ?_) (fun i i0 i5 => ?_) ?_)
        · have x := hR4.rok i0 i5
          unfold RwOk
          simp only [Int.reduceAdd]
          rw [s7 74 i (by omega), s7 75 i (by omega), s7 76 i (by omega), s7 80 i (by omega)]
          simp only [Int.reduceEq, true_and, false_and, reduceIte]
          refine ⟨?_, ?_, by omega, by omega, ?_⟩ <;> (repeat' split) <;> omega
        · have x := hR4.row i0 i1
          rw [s7 74 i (by omega), s7 75 i (by omega), s7 76 i (by omega), s7 77 i (by omega), s7 78 i (by omega), s7 79 i (by omega)]
          simp only [g7, Int.reduceEq, true_and, false_and, reduceIte]
          refine ⟨?_, ?_, ?_, ?_, ?_, ?_⟩ <;> (repeat' split) <;> omega
        · have x := hR4.cup i0 i5
          rw [s7 80 i (by omega)]
          simp only [g7, Int.reduceEq, true_and, false_and, reduceIte]
          repeat' split
          all_goals omega
        · rw [s7 73 7 (by omega), s7 73 8 (by omega), s7 73 9 (by omega), s7 73 10 (by omega), s7 73 11 (by omega)]
          simp only [g7, Int.reduceEq, true_and, false_and, reduceIte]
          refine ⟨?_, ?_, ?_, ?_, ?_⟩ <;> (repeat' split) <;> omega
      have hU7 : UnR G1 G7 c := hUp.ext (by omega) (fun q k hq => s7o q k (by omega) (by omega) (by omega)) (fun q k hq => g7o q k (by omega) (by omega))
      have fin := hI.state (S' := G1) (G' := G7) (fun q k a b => by rw [s7o q k (by omega) (by omega) (by omega)]; exact clsE q k a b) (fun q k a b => by
        by_cases e : q = 342
        · subst e
          rw [g7, if_neg (by omega), if_neg (by omega)]; exact mdl _ _ a b
        · rw [g7o q k e (by omega)]; exact mdl q k a b) hC7 hU7
      have low : ∀ q k : Int, q < 311 → G7 q k = G1 q k := fun q k a => by rw [g7o q k (by omega) (by omega), g4 q k (by omega) (by omega) (by omega), f2 q k (by omega)]
      exact ⟨av, fin.1.ext (fun q k a _ => low q k a) QtM.rfl', fin.2.tr (RkF.of h37 (fun q k a _ => low q k a))⟩
    · have x := Decidable.not_not.mp x
      have e1 := hv0 x
      have fin := hI.state (S' := Gp) (G' := G4) clsE mdl hR4 hUp
      have low : ∀ q k : Int, q < 311 → G4 q k = Gp q k := fun q k a => by rw [g4 q k (by omega) (by omega) (by omega), f2 q k (by omega), e1]
      exact ⟨x, fin.1.ext (fun q k a _ => low q k a) QtM.rfl', fin.2.tr (RkF.of h37 (fun q k a _ => low q k a))⟩
  -- the class
  have no : ∀ P : Prop, ¬ P → (goOk G c s w l → P) → Ct (d + 4) M_X12_go NT 0 0 (some lay) [(2, 311), (0, s), (0, w), (0, l)] G (Ok2 c fs G (-1)) := fun P h1 h2 => mN (fun x => h1 (h2 x))
  refine ctof (s_X11_go_0 (c_X11_known hC is (fun q => ⟨by omega, fun x => absurd x (by decide), fun _ => c_X11_rightWays hC iw (fun q2 => ⟨by omega, fun x => absurd x (by decide), fun _ => c_X11_rightLuck hC il (fun q3 => ⟨by omega, fun x => absurd x (by decide), fun _ => ?_⟩) (fun q3 => ⟨by omega, fun _ => no _ q3 (fun x => x.2.2.1), fun x => absurd rfl x⟩)⟩) (fun q2 => ⟨by omega, fun _ => no _ q2 (fun x => x.2.1), fun x => absurd rfl x⟩)⟩) (fun q => ⟨by omega, fun _ => no _ q (fun x => x.1), fun x => absurd rfl x⟩)))
  have ro := (hC.rok (i := s) (by omega) (by omega)).2.1
  refine ⟨by omega, by omega, fun x => no _ x (fun y => y.2.2.2.1), fun q4 b hb => ?_⟩
  rw [hc] at hb
  subst hb
  refine ⟨hC.2.1, c_asl hC q (by omega) (fun a => ⟨by omega, fun _ => no _ (not_not_intro a) (fun y => y.2.2.2.2.1), fun x => absurd (show (1 : Int) ≠ 0 by decide) x⟩) (fun a => ⟨by omega, fun x => absurd rfl x, fun _ b2 h2 => ?_⟩)⟩
  rw [hc] at h2
  subst h2
  refine ⟨hC.2.1, c_clo hC (by omega) (fun z => ⟨by omega, fun x => absurd x (by decide), fun _ => no _ (not_not_intro z) (fun y => y.2.2.2.2.2)⟩) (fun z => ⟨by omega, fun _ => ?_, fun x => absurd rfl x⟩)⟩
  have gok : goOk G b2 s w l := ⟨q, q2, q3, by omega, a, z⟩
  refine c_keepPast hU.1 hU.2.1 (fun Gk hk => ?_)
  obtain ⟨hCk, ek⟩ := hk.cls hC hU.1
  have s8 : Gk b2 8 = G b2 8 := ek _ _ (by omega)
  have s6 : Gk b2 6 = G b2 6 := ek _ _ (by omega)
  have s1 : Gk (b2 + 13 + s) 1 = G (b2 + 13 + s) 1 := ek _ _ (by omega)
  have seat := hC.seat q.1 q.2
  have pw := p3_in (n := G b2 6) (by omega)
  obtain ⟨mm, hmm⟩ := Int.eq_ofNat_of_zero_le (show 0 ≤ G b2 6 - 1 - G (b2 + 13 + s) 1 by omega)
  have a01 := goA_01 (c := b2) (w := w) (l := l) (f := fun i => Gk (b2 + 13 + s) 1 + 1 + i) mm 0 Gk
  have ap := st_cb_apart 73 (by decide) b2 hC.2.1.cb
  have c0 := cb_lt hC.2.1
  have up : ∀ q k : Int, 311 ≤ q → goL b2 w l (fun i => Gk (b2 + 13 + s) 1 + 1 + i) mm 0 Gk q k = G q k := fun q k a => by rw [goL_fr (by omega), ek q k (by omega)]
  refine c_passOut (m := mm) hCk (by omega) (by omega) (by omega) ⟨by omega, fun x b3 h3 => ?_, fun x => ?_⟩
  · have okp := goL_ok (c := b2) (w := w) (l := l) (f := fun i => Gk (b2 + 13 + s) 1 + 1 + i) mm 0 Gk hCk.2.2.2.1
    have hCp : Cls (goL b2 w l (fun i => Gk (b2 + 13 + s) 1 + 1 + i) mm 0 Gk) b2 := hCk.st (fun _ _ hq => goL_fr hq _ _ _) okp.1 okp.2
    rw [hCp.1] at h3
    subst h3
    have p8 : goL b3 w l (fun i => Gk (b3 + 13 + s) 1 + 1 + i) mm 0 Gk b3 8 = G b3 8 := by rw [goL_fr (by omega), s8]
    have ccp : CorC b3 G (goL b3 w l (fun i => Gk (b3 + 13 + s) 1 + 1 + i) mm 0 Gk) := fun q k q0 q1 _ _ => by rw [goL_fr (by omega), ek q k (by omega)]
    refine ⟨hC.2.1, c_leave (n := 0) hCp (by omega) (hI.2.2.1.extC ccp) (m := m) (by rw [p8]; exact hm) (fun Ga fa => ?_)⟩
    have v1 : goA b3 w l (fun i => Gk (b3 + 13 + s) 1 + 1 + i) mm 0 Gk = 1 := by omega
    refine mY gok Gk hk mm (by omega) 1 _ (fun q k a => ?_) v1.symm (fun y => absurd y (by decide)) (fun _ => ⟨Ga, fa, rfl⟩)
    rw [st_nq _ _ _ _ (by omega), st_nq _ _ _ _ (by omega), fa q k (by omega) (by omega)]
    exact up q k a
  · have v0 : goA b2 w l (fun i => Gk (b2 + 13 + s) 1 + 1 + i) mm 0 Gk = 0 := Decidable.not_not.mp x
    exact mY gok Gk hk mm (by omega) 0 _ up v0.symm (fun _ => rfl) (fun y => absurd rfl y)
end GOES
