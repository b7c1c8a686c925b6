section DRAWN
variable {d : Nat} {S S' T T' G G' H : Mem} {Q : Int → Mem → Prop} {c : Int} {fs : Int → Law} {th : Int}
/-- what flights drawn one behind another come to -/
noncomputable def drF (S : Mem) (c : Int) (fs : Int → Law) : Nat → Mem → Int × Int × Int → Int × Int × Int
  | 0, _, a => a
  | k + 1, T, a => drF S c fs k (flyT S c fs (-1) T) (a.1 + flyT S c fs (-1) T 20 8, a.2.1 + flyT S c fs (-1) T 20 9, a.2.2 + flyT S c fs (-1) T 20 11)
/-- what a drawing writes in the class -/
def DrF (c : Int) (G G' : Mem) : Prop := ∀ q k : Int, q ≠ c + 7 → q ≠ c + 12 → ¬ (q = 19 ∧ (k = 5 ∨ k = 6 ∨ k = 7 ∨ k = 11 ∨ k = 12)) → ¬ (20 ≤ q ∧ q ≤ 29) → q ≠ 31 → G' q k = G q k
theorem DrF.tr {G2 : Mem} (h : DrF c G G') (h' : DrF c G' G2) : DrF c G G2 := fun q k a b e f g => (h' q k a b e f g).trans (h q k a b e f g)
theorem HbF.dr (h : HbF c G G') : DrF c G G' := fun q k a b e f _ => h q k a b (by omega) f
theorem OnF.dr (h : OnF G G') : DrF c G G' := fun q k _ _ _ _ g => h q k g
theorem DrF.put {k v : Int} (hk : k = 5 ∨ k = 6 ∨ k = 7 ∨ k = 11 ∨ k = 12) : DrF c G (st G 19 k v) := fun a b _ _ h _ _ => st_ne _ _ (by omega)
theorem DrF.cl (hc : c = 37 ∨ c = 55) (h : DrF c G G') (e : G' 19 11 = G 19 11) : ClF c G G' := by
  refine ⟨fun q k a b => ?_, fun q k a => h q k (by omega) (by omega) (by omega) (by omega) (by omega)⟩
  by_cases x : q = 19 ∧ k = 11
  · rw [x.1, x.2]; exact e
  · exact h q k (by omega) (by omega) (by omega) (by omega) (by omega)
theorem HSx.dr (h : HSx S c fs G) (f : DrF c G G') : HSx S c fs G' := by
  obtain ⟨hC, ⟨H, hL⟩, cc, h37⟩ := h
  have fc : CorC c G G' := fun q k a b e g => f q k e g (by omega) (by omega) (by omega)
  have e3 : StEq G G' 73 73 := ⟨fun k _ _ => f _ _ (by omega) (by omega) (by omega) (by omega) (by omega), fun j _ _ i _ _ => f _ _ (by omega) (by omega) (by omega) (by omega) (by omega)⟩
  refine ⟨⟨by rw [f 0 13 (by omega) (by omega) (by omega) (by omega) (by omega)]; exact hC.1, hC.2.1, hC.2.2.1.cp fc.eq, hC.2.2.2.1.cp e3, by rw [f 73 7 (by omega) (by omega) (by omega) (by omega) (by omega), f c 7 (by omega) (by omega) (by omega) (by omega) (by omega)]; exact hC.2.2.2.2⟩, ⟨H, hL.extC fc⟩, fun q k a b e g => (fc q k a b e g).trans (cc q k a b e g), h37⟩
theorem FlOk.fly (hR : Cu S G c) (h : FlOk S c T) : FlOk S c (flyT S c fs th T) := by
  obtain ⟨k1, -, k3, k4⟩ := flyT_ok (fs := fs) (th := th) hR h
  exact ⟨fun s s0 s5 => by rw [k3 s]; exact h.1 s s0 s5, k1.2.2.2.1, by rw [k4]; exact h.2.2⟩
theorem c_draw {seed : Int} {many : Nat} (hI : Inv0 G G c fs) (hsd : 0 ≤ seed ∧ seed ≤ 9999) (hm : many ≤ 20) (h : ∀ (T G2 : Mem), FlOk G c T → T 19 11 = 1 → T 19 12 = seed → (∀ s, 0 ≤ s → s < 5 → T 31 s = G (c + 2) s) → ClF c G G2 → G2 19 5 = (drF G c fs many T (0, 0, 0)).1 → G2 19 6 = (drF G c fs many T (0, 0, 0)).2.1 → G2 19 7 = (drF G c fs many T (0, 0, 0)).2.2 → Q 0 G2) : Ct (d + 6) M_X2_draw NT 0 0 (some lay) [(2, 19), (2, c), (0, seed), (0, (many : Int))] G Q := by
  have hC := hI.cls
  have r := hC.rng
  have h37 := hI.1.2.2.1
  have hS := hI.hsx
  refine ctof (s_X2_draw_0 hC.2.1 (fun G1 e1 G2 e2 G3 e3 G4 e4 G5 e5 => c_seatAsTold hC.2.1 ?_))
  have f5 : DrF c G G5 := by
    rw [e5, e4, e3, e2, e1]
    exact ((((DrF.put (by omega)).tr (DrF.put (by omega))).tr (DrF.put (by omega))).tr (DrF.put (by omega))).tr (DrF.put (by omega))
  have f6 : OnF G5 (cpy G5 (c + 2) 0 31 0 5) := OnF.cpy
  obtain ⟨T, hT⟩ : ∃ T, T = cpy G5 (c + 2) 0 31 0 5 := ⟨_, rfl⟩
  rw [← hT] at f6 ⊢
  have on : ∀ s, 0 ≤ s → s < 5 → T 31 s = G (c + 2) s := fun s s0 s5 => by rw [hT, cpy0_in _ _ _ s0 s5, f5 _ _ (by omega) (by omega) (by omega) (by omega) (by omega)]
  have t11 : T 19 11 = 1 := by rw [f6 _ _ (by decide), e5, st_same]
  have t12 : T 19 12 = seed := by rw [f6 _ _ (by decide), e5, st_nk _ _ _ (by decide), e4, st_same]
  have t5 : T 19 5 = 0 := by rw [f6 _ _ (by decide), e5, st_nk _ _ _ (by decide), e4, st_nk _ _ _ (by decide), e3, st_nk _ _ _ (by decide), e2, st_nk _ _ _ (by decide), e1, st_same]
  have t6 : T 19 6 = 0 := by rw [f6 _ _ (by decide), e5, st_nk _ _ _ (by decide), e4, st_nk _ _ _ (by decide), e3, st_nk _ _ _ (by decide), e2, st_same]
  have t7 : T 19 7 = 0 := by rw [f6 _ _ (by decide), e5, st_nk _ _ _ (by decide), e4, st_nk _ _ _ (by decide), e3, st_same]
  have fl : FlOk G c T := ⟨fun s s0 s5 => by rw [on s s0 (by omega)]; have := hC.onw (q := s) ⟨s0, by omega⟩; omega, fun _ => by omega, Or.inr t11⟩
  have key : ∀ (m i : Nat) (T1 G6 : Mem) (a : Int × Int × Int), i + m = many → DrF c G G6 → HE (G c 6) T1 G6 → FlOk G c T1 → T1 19 11 = 1 → G6 19 5 = a.1 → G6 19 6 = a.2.1 → G6 19 7 = a.2.2 → drF G c fs many T (0, 0, 0) = drF G c fs m T1 a → Rn (d + 6) M_X2_draw zN 33 [(0, (2, 19)), (1, (2, c)), (3, (0, (many : Int))), (4, (0, (i : Int)))] [] G6 Q := by
    intro m
    induction m with
    | zero =>
      intro i T1 G6 a hi f6 e6 fl1 x11 x5 x6 x7 e
      have e : drF G c fs many T (0, 0, 0) = a := e
      refine s_X2_draw_33 hC.2.1 ⟨by omega, by omega, fun _ G8 e8 => ?_, fun x => absurd (by omega) x⟩
      refine h T G8 fl t11 t12 on (DrF.cl h37 (f6.tr (by rw [e8]; exact DrF.put (by omega))) ?_) ?_ ?_ ?_
      · rw [e8, st_same]; exact hI.1.2.2.2.symm
      · rw [e8, st_nk _ _ _ (by decide), e]; exact x5
      · rw [e8, st_nk _ _ _ (by decide), e]; exact x6
      · rw [e8, st_nk _ _ _ (by decide), e]; exact x7
    | succ m ih =>
      intro i T1 G6 a hi f6 e6 fl1 x11 x5 x6 x7 e
      refine s_X2_draw_33 hC.2.1 ⟨by omega, by omega, fun x => absurd x (by omega), fun _ => c_fly (hS.dr f6) e6.hb fl1.1 fl1.2.1 fl1.2.2 (by omega) (fun G7 f7 h7 G8 e8 G9 e9 G10 e10 => ?_)⟩
      obtain ⟨k1, k2, k3, k4⟩ := flyT_ok (fs := fs) (th := -1) hI.2.1 fl1
      have a5 : G7 19 5 = a.1 := by rw [f7 _ _ (by omega) (by omega) (by omega) (by omega)]; exact x5
      have a6 : G8 19 6 = a.2.1 := by rw [e8, st_nk _ _ _ (by decide), f7 _ _ (by omega) (by omega) (by omega) (by omega)]; exact x6
      have a7 : G9 19 7 = a.2.2 := by rw [e9, st_nk _ _ _ (by decide), e8, st_nk _ _ _ (by decide), f7 _ _ (by omega) (by omega) (by omega) (by omega)]; exact x7
      have b9 : G8 20 9 = flyT G c fs (-1) T1 20 9 := by rw [e8, st_nq _ _ _ _ (by decide)]; exact h7.c20 (by omega)
      have b11 : G9 20 11 = flyT G c fs (-1) T1 20 11 := by rw [e9, st_nq _ _ _ _ (by decide), e8, st_nq _ _ _ _ (by decide)]; exact h7.c20 (by omega)
      rw [a5, h7.c20 (k := 8) (by omega)] at e8
      rw [a6, b9] at e9
      rw [a7, b11] at e10
      refine ih (i + 1) (flyT G c fs (-1) T1) G10 (a.1 + flyT G c fs (-1) T1 20 8, a.2.1 + flyT G c fs (-1) T1 20 9, a.2.2 + flyT G c fs (-1) T1 20 11) (by omega) ((f6.tr f7.dr).tr ?_) ⟨fun q k hq => ?_, fun x => by rw [e10, st_nk _ _ _ (by decide), e9, st_nk _ _ _ (by decide), e8, st_nk _ _ _ (by decide)]; exact h7.2 x⟩ (FlOk.fly hI.2.1 fl1) (by rw [k4]; exact x11) ?_ ?_ ?_ e
      · rw [e10, e9, e8]
        exact ((DrF.put (by omega)).tr (DrF.put (by omega))).tr (DrF.put (by omega))
      · have hq' := hq
        unfold HC at hq'
        rw [e10, st_ne _ _ (by omega), e9, st_ne _ _ (by omega), e8, st_ne _ _ (by omega)]
        exact h7.1 q k hq
      · rw [e10, st_nk _ _ _ (by decide), e9, st_nk _ _ _ (by decide), e8, st_same]
      · rw [e10, st_nk _ _ _ (by decide), e9, st_same]
      · rw [e10, st_same]
  exact key many 0 T T (0, 0, 0) (by omega) (f5.tr f6.dr) HE.rf fl t11 t5 t6 t7 rfl
theorem t_flights {sd m w : Int} (hI : Inv0 G G c fs) (isd : InR sd) (im : InR m) (iw : InR w) : Ct (d + 7) M_X11_flights NT 0 0 (some lay) [(2, 0), (0, sd), (0, m), (0, w)] G (fun v G1 => Ct (d + 8) M_X12_flights NT 0 0 (some lay) [(2, 311), (0, sd), (0, m), (0, w)] G1 (Ok2 c fs G v)) := by
  have hC := hI.cls
  have r := hC.rng
  have hc := hC.1
  have mN : ¬ ((0 ≤ sd ∧ sd ≤ 9999) ∧ (1 ≤ m ∧ m ≤ 20) ∧ 0 ≤ w ∧ w ≤ 2) → Ct (d + 8) M_X12_flights NT 0 0 (some lay) [(2, 311), (0, sd), (0, m), (0, w)] G (Ok2 c fs G (-1)) := by
    intro hno
    refine ctof (s_X12_flights_0 (fun G1 e1 => ?_))
    have f1 : ThF G G1 := by rw [e1]; exact ThF.st
    have ok : Ok2 c fs G (-1) (-1) G1 := hI.ok ClF.rfl' f1.ml
    exact c_within isd (by omega) (by omega) (fun q => ⟨by omega, fun x => absurd x (by decide), fun _ => c_within im (by omega) (by omega) (fun q2 => ⟨by omega, fun x => absurd x (by decide), fun _ => c_within iw (by omega) (by omega) (fun q3 => absurd ⟨q, q2, q3⟩ hno) (fun _ => ⟨by omega, fun x => absurd rfl x, fun _ => ok⟩)⟩) (fun _ => ⟨by omega, fun _ => ok, fun x => absurd rfl x⟩)⟩) (fun _ => ⟨by omega, fun _ => ok, fun x => absurd rfl x⟩)
  refine ctof (s_X11_flights_0 ⟨isd, fun x => mN (by omega), fun x => ⟨fun x2 => mN (by omega), fun x2 => ⟨im, fun x3 => mN (by omega), fun x3 => ⟨fun x4 => mN (by omega), fun x4 => ⟨iw, fun x5 => mN (by omega), fun x5 => ⟨fun x6 b hb => ?_, fun x6 => mN (by omega)⟩⟩⟩⟩⟩⟩)
  rw [hc] at hb
  subst hb
  obtain ⟨mm, hmm⟩ := Int.eq_ofNat_of_zero_le (show 0 ≤ m by omega)
  subst hmm
  refine ⟨hC.2.1, c_draw hI (by omega) (by omega) (fun T G2 fl t11 t12 on cl a5 a6 a7 => ?_)⟩
  have mY : ∀ v, (w = 0 → v = (drF G b fs mm T (0, 0, 0)).1) → (w = 1 → v = (drF G b fs mm T (0, 0, 0)).2.1) → (w = 2 → v = (drF G b fs mm T (0, 0, 0)).2.2) → Ct (d + 8) M_X12_flights NT 0 0 (some lay) [(2, 311), (0, sd), (0, (mm : Int)), (0, w)] G2 (Ok2 b fs G v) := by
    intro v v0 v1 v2
    refine ctof (s_X12_flights_0 (fun G3 e3 => ?_))
    have f3 : ThF G2 G3 := by rw [e3]; exact ThF.st
    refine c_within isd (by omega) (by omega) (fun _ => ⟨by omega, fun x => absurd x (by decide), fun _ => c_within im (by omega) (by omega) (fun _ => ⟨by omega, fun x => absurd x (by decide), fun _ => c_within iw (by omega) (by omega) (fun _ => ⟨by omega, fun _ => ⟨isd, fun G15 e15 => ?_⟩, fun z => absurd (show (1 : Int) ≠ 0 by decide) z⟩) (fun z => absurd (by omega) z)⟩) (fun z => absurd (by omega) z)⟩) (fun z => absurd (by omega) z)
    have hR := f3.cu (hI.cu1 cl)
    have hL := f3.lw (hI.lw1 cl)
    have hm15 : HmF G3 G15 := by rw [e15]; exact HmF.put11 (by omega)
    refine c_seatsAll (hR.ext hm15.cor) (fun G16 f16 a16 b16 m16 d16 G18 e18 G19 e19 G20 e20 G21 e21 => ?_)
    have o21 : ∀ q k : Int, ¬ (q = 311 ∧ (k = 63 ∨ k = 64 ∨ k = 65 ∨ k = 67)) → G21 q k = G16 q k := fun q k a => by rw [e21, st_ne _ _ (by omega), e20, st_ne _ _ (by omega), e19, st_ne _ _ (by omega), e18, st_ne _ _ (by omega)]
    have g68 : G21 311 68 = sd := by rw [o21 _ _ (by omega), f16 _ _ (by decide) (by decide) (by omega), e15, st_same]
    have g67 : G21 311 67 = 1 := by rw [e21, st_nk _ _ _ (by decide), e20, st_nk _ _ _ (by decide), e19, st_nk _ _ _ (by decide), e18, st_same]
    have g66 : G21 311 66 = -1 := by rw [o21 _ _ (by omega)]; exact m16
    have g63 : G21 311 63 = 0 := by rw [e21, st_nk _ _ _ (by decide), e20, st_nk _ _ _ (by decide), e19, st_same]
    have g64 : G21 311 64 = 0 := by rw [e21, st_nk _ _ _ (by decide), e20, st_same]
    have g65 : G21 311 65 = 0 := by rw [e21, st_same]
    have ml : MlF G2 G21 := by
      refine (f3.ml.tr hm15.ml).tr (f16.ml.tr ⟨fun q k a b => o21 q k (by omega), fun q k a => o21 q k (by omega)⟩)
    have hR21 : Cu G G21 b := (hR.ext hm15.cor).ext (fun q k hq => by rw [o21 q k (by omega)]; exact f16.cor q k hq)
    have hL21 : LawsR G G21 b 0 fs := (hL.ext hm15.cor).ext (fun q k hq => by rw [o21 q k (by omega)]; exact f16.cor q k hq)
    have hms : HMs G b T G21 := hmsTold hI (fun s s0 s5 => by rw [o21 _ _ (by omega)]; exact a16 s s0 s5) (fun p p0 p1 => by rw [o21 _ _ (by omega)]; exact b16 p p0 p1) on
    have key : ∀ (k i : Nat) (T1 G4 : Mem) (a : Int × Int × Int), i + k = mm → HmF G21 G4 → FlOk G b T1 → T1 19 11 = 1 → HMs G b T1 G4 → G4 311 68 = T1 19 12 → (G4 311 63 = a.1 ∧ G4 311 64 = a.2.1 ∧ G4 311 65 = a.2.2) → drF G b fs mm T (0, 0, 0) = drF G b fs k T1 a → Rn (d + 8) M_X12_flights zN 70 [(0, (2, 311)), (2, (0, (mm : Int))), (3, (0, w)), (4, (0, (i : Int)))] [] G4 (Ok2 b fs G v) := by
      intro k
      induction k with
      | zero =>
        intro i T1 G4 a hi f4 fl1 x11 hs1 x68 xs e
        have e : drF G b fs mm T (0, 0, 0) = a := e
        have fin : ∀ u, u = v → Ok2 b fs G v u G4 := fun u hu => by rw [hu]; exact hI.ok cl (ml.tr f4.ml)
        refine s_X12_flights_70 ⟨by omega, by omega, fun _ => ⟨iw, fun y => ⟨fun z => fin _ ?_, fun z => fin _ ?_⟩, fun y => fin _ ?_⟩, fun x => absurd (by omega) x⟩
        · rw [v2 (by omega), e]; exact xs.2.2
        · rw [v1 (by omega), e]; exact xs.2.1
        · rw [v0 (by omega), e]; exact xs.1
      | succ k ih =>
        intro i T1 G4 a hi f4 fl1 x11 hs1 x68 xs e
        refine s_X12_flights_70 ⟨by omega, by omega, fun x => absurd x (by omega), fun _ => c_livesFlight (th := -1) (hR21.ext f4.cor) (hL21.ext f4.cor) fl1 (by omega) hs1 xs ⟨by rw [f4 311 67 (by omega) (by omega) (by omega), g67, x11], fun _ => x68, by rw [f4 311 66 (by omega) (by omega) (by omega)]; exact g66⟩ (fun G5 f5 h5 => ?_)⟩
        obtain ⟨k1, k2, k3, k4⟩ := flyT_ok (fs := fs) (th := -1) hI.2.1 fl1
        exact ih (i + 1) (flyT G b fs (-1) T1) G5 (a.1 + flyT G b fs (-1) T1 20 8, a.2.1 + flyT G b fs (-1) T1 20 9, a.2.2 + flyT G b fs (-1) T1 20 11) (by omega) (f4.tr f5) (FlOk.fly hI.2.1 fl1) (by rw [k4]; exact x11) h5.2.2.2 (h5.2.2.1.2.1 (by rw [k4]; exact x11)) h5.2.1 e
    exact key mm 0 T G21 (0, 0, 0) (by omega) HmF.rfl' fl t11 hms (by rw [g68, t12]) ⟨g63, g64, g65⟩ rfl
  exact ⟨fun y => ⟨fun z => mY _ (fun u => absurd u y) (fun u => absurd u z) (fun _ => a7), fun z => mY _ (fun u => absurd u y) (fun _ => a6) (fun u => absurd (Decidable.not_not.mp z) (by omega))⟩, fun y => mY _ (fun _ => a5) (fun u => absurd (Decidable.not_not.mp y) (by omega)) (fun u => absurd (Decidable.not_not.mp y) (by omega))⟩
end DRAWN
