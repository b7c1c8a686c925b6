section HABITSQ
variable {d : Nat} {S S' T T' G G' H : Mem} {Q : Int → Mem → Prop} {c : Int} {fs : Int → Law} {th : Int}
theorem Inv0.hsx (hI : Inv0 G G c fs) : HSx G c fs G := ⟨hI.cls, ⟨G, hI.2.2.1⟩, fun _ _ _ _ _ _ => rfl, hI.1.2.2.1⟩
/-- seats told, in the class -/
theorem c_seatAsTold (hc : Bs 1 c) (h : Q 0 (cpy G (c + 2) 0 31 0 5)) : Ct (d + 1) M_X2_seatAsTold NT 0 0 (some lay) [(2, 19), (2, c)] G Q := by
  have ok : CpOk 0 0 5 5 5 := by unfold CpOk; omega
  exact ctof (s_X2_seatAsTold_0 hc ⟨ok, fun G2 e2 => by rw [e2]; exact h⟩)
/-- cell 31 alone has changed -/
def OnF (G G' : Mem) : Prop := ∀ q k : Int, q ≠ 31 → G' q k = G q k
theorem OnF.cl (h : OnF G G') : ClF c G G' := ⟨fun q k a b => h q k (by omega), fun q k a => h q k (by omega)⟩
theorem OnF.cpy : OnF G (cpy G (c + 2) 0 31 0 5) := fun q k a => cpy_nq _ _ _ _ _ _ a
theorem HSx.on (h : HSx S c fs G) (f : OnF G G') : HSx S c fs G' := by
  obtain ⟨hC, ⟨H, hL⟩, cc, h37⟩ := h
  have fc : CorC c G G' := fun q k a b e g => f q k (by omega)
  exact ⟨hC.qt h37 f.cl, ⟨H, hL.extC fc⟩, fun q k a b e g => (fc q k a b e g).trans (cc q k a b e g), h37⟩
theorem onTold (hI : Inv0 G G c fs) : (∀ s, 0 ≤ s → s < 5 → cpy G (c + 2) 0 31 0 5 31 s = G (c + 2) s) ∧ FlOk G c (cpy G (c + 2) 0 31 0 5) := by
  have e : ∀ s, 0 ≤ s → s < 5 → cpy G (c + 2) 0 31 0 5 31 s = G (c + 2) s := fun s s0 s5 => cpy0_in _ _ _ s0 s5
  have d0 : cpy G (c + 2) 0 31 0 5 19 11 = 0 := by rw [cpy_nq _ _ _ _ _ _ (by decide)]; exact hI.1.2.2.2
  refine ⟨e, fun s s0 s5 => ?_, fun x => by omega, Or.inl d0⟩
  have r := hI.cls.rng
  rw [e s s0 (by omega)]
  have := hI.cls.onw (q := s) ⟨s0, by omega⟩
  omega
/-- the model sits as told -/
theorem hmsTold {M : Mem} (hI : Inv0 G G c fs) (h1 : ∀ s, 0 ≤ s → s < 5 → M 350 s = G (c + 2) s) (h2 : ∀ p, 0 ≤ p → p < G c 8 → M 349 p = G (c + 13 + p) 1) (h3 : ∀ s, 0 ≤ s → s < 5 → T 31 s = G (c + 2) s) : HMs G c T M := by
  have r := hI.cls.rng
  refine ⟨fun s s0 s1 => ?_, fun _ p p0 p1 => h2 p p0 p1⟩
  have on := hI.cls.on s0 (show s < 5 by omega)
  rw [h3 s s0 (by omega)]
  refine ⟨h1 s s0 (by omega), fun x => ?_⟩
  rw [h2 _ x (by omega)]
  omega
theorem c_pence_C {T1 : Mem} (hS : HSx S c fs G) {n : Int} (hE : HE n T1 G) (h : Q (penT S c T1) G) : Ct d M_X2_pence NT 0 0 (some lay) [(2, 19), (2, c)] G Q := by
  have c0 := cb_lt hS.1.2.1
  refine ctof (s_X2_pence_0 hS.1.2.1 ?_)
  rw [HSx.cab hS (q := c + 5) (by omega), HSx.cab hS (q := c + 5) (by omega), hE.c20 (by omega), hE.c20 (by omega)]
  exact h
theorem penT_in (hR : Cu S G c) (h : Cnt T 2880 360) : 0 ≤ penT S c T ∧ penT S c T ≤ 320760 := by
  have p0 := (hR.price (k := 0) (by omega) (by omega)).2
  have p2 := (hR.price (k := 2) (by omega) (by omega)).2
  have a := mul_bd p0 h.1
  have b := mul_bd p2 h.2.1
  unfold penT
  omega
def habV (S : Mem) (c s w : Int) (T : Mem) : Int := if s = -1 then (if w = 0 then T 20 8 else if w = 1 then T 20 11 else penT S c T) else if w = 0 then T 28 s else if w = 1 then T 29 s else T 26 s
theorem t_habits {s w : Int} (hI : Inv0 G G c fs) (is : InR s) (iw : InR w) : Ct (d + 6) M_X11_habits NT 0 0 (some lay) [(2, 0), (0, s), (0, w)] G (fun v G1 => Ct (d + 9) M_X12_habits NT 0 0 (some lay) [(2, 311), (0, s), (0, w)] G1 (Ok2 c fs G v)) := by
  have hC := hI.cls
  have r := hC.rng
  have hc := hC.1
  have h37 := hI.1.2.2.1
  have mN : ¬ ((s = -1 ∨ (0 ≤ s ∧ s < G c 8)) ∧ 0 ≤ w ∧ w ≤ 2) → Ct (d + 9) M_X12_habits NT 0 0 (some lay) [(2, 311), (0, s), (0, w)] G (Ok2 c fs G (-1)) := by
    intro hno
    refine ctof (s_X12_habits_0 (fun G1 e1 => ?_))
    have f1 : ThF G G1 := by rw [e1]; exact ThF.st
    have hR := f1.cu hI.2.1
    have ok : Ok2 c fs G (-1) (-1) G1 := hI.ok ClF.rfl' f1.ml
    have L18 : (s = -1 ∨ (0 ≤ s ∧ s < G c 8)) → Rn (d + 9) M_X12_habits zN 18 [(0, (2, 311)), (1, (0, s)), (2, (0, w))] [] G1 (Ok2 c fs G (-1)) := fun q => s_X12_habits_18 (c_within iw (by omega) (by omega) (fun q2 => absurd ⟨q, q2⟩ hno) (fun q2 => ⟨by omega, fun x => absurd rfl x, fun _ => ok⟩))
    exact ⟨is, fun x => L18 (Or.inl x), fun x => c_isSitter hR is (fun q => ⟨by omega, fun y => absurd y (by decide), fun _ => L18 (Or.inr q)⟩) (fun q => ⟨by omega, fun _ => ok, fun y => absurd rfl y⟩)⟩
  -- both fly
  have both : (s = -1 ∨ (0 ≤ s ∧ s < G c 8)) → 0 ≤ w ∧ w ≤ 2 → Rn (d + 6) M_X11_habits zN 24 [(0, (2, 0)), (1, (0, s)), (2, (0, w))] [] G (fun v G1 => Ct (d + 9) M_X12_habits NT 0 0 (some lay) [(2, 311), (0, s), (0, w)] G1 (Ok2 c fs G v)) := by
    intro q qw
    refine s_X11_habits_24 (fun b hb => ?_)
    rw [hc] at hb
    subst hb
    obtain ⟨on, fl⟩ := onTold hI
    have f1 : OnF G (cpy G (b + 2) 0 31 0 5) := OnF.cpy
    refine ⟨hC.2.1, c_seatAsTold hC.2.1 (fun b6 h6 => ?_)⟩
    rw [f1 0 13 (by decide), hc] at h6
    subst h6
    have hS1 := hI.hsx.on f1
    have T0 : ∃ T, T = cpy G (b6 + 2) 0 31 0 5 := ⟨_, rfl⟩
    obtain ⟨T, hT⟩ := T0
    rw [← hT] at on fl f1 hS1 ⊢
    refine ⟨hC.2.1, c_fly hS1 HE.rf.hb fl.1 fl.2.1 fl.2.2 (by omega) (fun G2 f2 h2 => ?_)⟩
    have cl : ClF b6 G G2 := f1.cl.tr (f2.cl h37)
    obtain ⟨k1, k2, k3, k4⟩ := flyT_ok (fs := fs) (th := -1) hI.2.1 fl
    have m : ∀ v, v = habV G b6 s w (flyT G b6 fs (-1) T) → Ct (d + 9) M_X12_habits NT 0 0 (some lay) [(2, 311), (0, s), (0, w)] G2 (Ok2 b6 fs G v) := by
      intro v hv
      refine ctof (s_X12_habits_0 (fun G3 e3 => ?_))
      have f3 : ThF G2 G3 := by rw [e3]; exact ThF.st
      have hR := f3.cu (hI.cu1 cl)
      have hL := f3.lw (hI.lw1 cl)
      have L18 : Rn (d + 9) M_X12_habits zN 18 [(0, (2, 311)), (1, (0, s)), (2, (0, w))] [] G3 (Ok2 b6 fs G v) := by
        refine s_X12_habits_18 (c_within iw (by omega) (by omega) (fun _ => ⟨by omega, fun _ => c_seatsAll hR (fun G4 f4 a4 b4 m4 d4 => ?_), fun z => absurd (show (1 : Int) ≠ 0 by decide) z⟩) (fun z => absurd qw z))
        have d0 : T 19 11 = 0 := by rcases fl.2.2 with x | x; exact x; rw [hT, cpy_nq _ _ _ _ _ _ (by decide), hI.1.2.2.2] at x; exact absurd x (by decide)
        refine c_pence_M (hR.ext f4.cor) (hL.ext f4.cor) fl d0 (th := -1) (by omega) (hmsTold hI a4 b4 on) ⟨d4, m4⟩ (fun G5 f5 h5 => ?_)
        have fin : ∀ u, u = v → Ok2 b6 fs G v u G5 := fun u hu => by rw [hu]; exact hI.ok cl ((f3.ml.tr f4.ml).tr f5.ml)
        unfold habV at hv
        refine ⟨is, fun x => ⟨iw, fun y => ⟨fun z => ⟨by omega, fin _ ?_⟩, fun z => ⟨by omega, fin _ ?_⟩⟩, fun y => ⟨by omega, fin _ ?_⟩⟩, fun x => ⟨iw, fun y => ⟨fun z => fin _ ?_, fun z => fin _ ?_⟩, fun y => fin _ ?_⟩⟩
        · rw [if_neg x, if_neg y, if_neg z] at hv
          rw [hv]; exact (h5.1 s (by omega) (by omega)).2.2.2.2.2.2
        · rw [if_neg x, if_neg y, if_pos (Decidable.not_not.mp z)] at hv
          rw [hv]; exact (h5.1 s (by omega) (by omega)).2.2.2.2.2.1
        · rw [if_neg x, if_pos (Decidable.not_not.mp y)] at hv
          rw [hv]; exact (h5.1 s (by omega) (by omega)).2.2.2.2.1
        · rw [if_pos (Decidable.not_not.mp x), if_neg y, if_neg z] at hv
          exact hv.symm
        · rw [if_pos (Decidable.not_not.mp x), if_neg y, if_pos (Decidable.not_not.mp z)] at hv
          rw [hv, h5.2.1.2.2]; omega
        · rw [if_pos (Decidable.not_not.mp x), if_pos (Decidable.not_not.mp y)] at hv
          rw [hv, h5.2.1.1]; omega
      exact ⟨is, fun _ => L18, fun x => c_isSitter hR is (fun _ => ⟨by omega, fun y => absurd y (by decide), fun _ => L18⟩) (fun z => absurd (by omega) z)⟩
    unfold habV at m
    refine ⟨is, fun x => ⟨iw, fun y => ⟨fun z => ⟨by omega, m _ ?_⟩, fun z => ⟨by omega, m _ ?_⟩⟩, fun y => ⟨by omega, m _ ?_⟩⟩, fun x => ⟨iw, fun y => ⟨fun z b2 hb2 => ?_, fun z => m _ ?_⟩, fun y => m _ ?_⟩⟩
    · rw [if_neg x, if_neg y, if_neg z]; exact h2.row (by omega) (by omega)
    · rw [if_neg x, if_neg y, if_pos (Decidable.not_not.mp z)]; exact h2.row (by omega) (by omega)
    · rw [if_neg x, if_pos (Decidable.not_not.mp y)]; exact h2.row (by omega) (by omega)
    · have hS2 := hS1.mv f2
      rw [hS2.1.1] at hb2
      subst hb2
      exact ⟨hC.2.1, c_pence_C hS2 h2 (m _ (by rw [if_pos (Decidable.not_not.mp x), if_neg y, if_neg z]))⟩
    · rw [if_pos (Decidable.not_not.mp x), if_neg y, if_pos (Decidable.not_not.mp z)]; exact h2.c20 (by omega)
    · rw [if_pos (Decidable.not_not.mp x), if_pos (Decidable.not_not.mp y)]; exact h2.c20 (by omega)
  exact ctof (s_X11_habits_0 ⟨iw, fun x => mN (fun y => by have := y.2.1; omega), fun x => ⟨fun x2 => mN (fun y => by have := y.2.2; omega), fun x2 => ⟨is, fun y => both (Or.inl y) (by omega), fun y => c_X11_known hC is (fun q => ⟨by omega, fun _ => both (Or.inr q) (by omega), fun z => absurd (show (1 : Int) ≠ 0 by decide) z⟩) (fun q => ⟨by omega, fun z => absurd rfl z, fun _ => mN (fun z => by rcases z.1 with z | z; exact y z; exact q z)⟩)⟩⟩⟩)
end HABITSQ
