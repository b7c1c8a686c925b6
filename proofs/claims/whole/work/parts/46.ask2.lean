section ASKB
variable {d : Nat} {S G H : Mem} {Q : Int → Mem → Prop} {c : Int} {fs : Int → Law}
/-! odds -/
def oddV (S : Mem) (c : Int) (fs : Int → Law) (s w : Int) : Int := if ¬ (0 ≤ s ∧ s < S c 8) then -1 else if w < 0 ∨ 2 < w then -1 else if w = 0 then wakV S c fs s (S 73 7) (S 80 (S (c + 13 + s) 1)) (S 77 s) else spiV S c fs s (S 73 7) (w - 1) (S 80 (S (c + 13 + s) 1)) (S 77 s)
theorem t_odds {s w : Int} (hI : Inv0 G G c fs) (is : InR s) (iw : InR w) : Ct (d + 3) M_X11_odds NT 0 0 (some lay) [(2, 0), (0, s), (0, w)] G (fun v G1 => Ct (d + 5) M_X12_odds NT 0 0 (some lay) [(2, 311), (0, s), (0, w)] G1 (Ok2 c fs G v)) := by
  have hC := hI.cls
  have r := hC.rng
  have hc := hC.1
  have m : ∀ v G1, ClF c G G1 → v = oddV G c fs s w → Ct (d + 5) M_X12_odds NT 0 0 (some lay) [(2, 311), (0, s), (0, w)] G1 (Ok2 c fs G v) := by
    intro v G1 f1 hv
    refine ctof (s_X12_odds_0 (fun G2 e2 => ?_))
    have f2 : ThF G1 G2 := by rw [e2]; exact ThF.st
    have hR := f2.cu (hI.cu1 f1)
    have hL := f2.lw (hI.lw1 f1)
    unfold oddV at hv
    refine c_isSitter hR is (fun q => ⟨by omega, fun x => absurd x (by decide), fun _ => ?_⟩) (fun q => ⟨by omega, fun _ => ?_, fun x => absurd rfl x⟩)
    · rw [if_neg (fun x => x q)] at hv
      refine c_within iw (by omega) (by omega) (fun q2 => ⟨by omega, fun _ => ⟨iw, fun w0 => ?_, fun w0 => ?_⟩, fun x => absurd (show (1 : Int) ≠ 0 by decide) x⟩) (fun q2 => ⟨by omega, fun x => absurd rfl x, fun _ => ?_⟩)
      · rw [if_neg (by omega), if_neg w0] at hv
        rw [hR.nums.1]
        refine c_spilling hR q hL (fun G3 f3 => ?_)
        rw [hv]; exact hI.ok f1 (f2.ml.tr f3.ml)
      · rw [if_neg (by omega), if_pos (by omega)] at hv
        rw [hR.nums.1]
        refine c_waking hR q hL (fun G3 f3 => ?_)
        rw [hv]; exact hI.ok f1 (f2.ml.tr f3.ml)
      · rw [if_pos (by omega)] at hv
        rw [hv]; exact hI.ok f1 f2.ml
    · rw [if_pos q] at hv
      rw [hv]; exact hI.ok f1 f2.ml
  unfold oddV at m
  refine ctof (s_X11_odds_0 (c_X11_known hC is (fun q => ⟨by omega, fun x => absurd x (by decide), fun _ => ⟨iw, fun x => m _ _ ClF.rfl' (by rw [if_neg (fun x => x q), if_pos (by omega)]), fun x => ⟨fun x2 => ⟨fun w0 b hb => ?_, fun w0 b hb => ?_⟩, fun x2 => m _ _ ClF.rfl' (by rw [if_neg (fun x => x q), if_pos (by omega)])⟩⟩⟩) (fun q => ⟨by omega, fun _ => m _ _ ClF.rfl' (by rw [if_pos q]), fun x => absurd rfl x⟩)))
  · rw [hc] at hb
    subst hb
    refine ⟨hC.2.1, c_X1_spilling hC.2.1 b8_73 (by omega) (hC.sok q.1 q.2) hI.2.2.1 (fun G1 f1 => m _ _ (f1.cl hI.1.2.2.1) ?_)⟩
    rw [if_neg (fun x => x q), if_neg (by omega), if_neg w0]
    rfl
  · rw [hc] at hb
    subst hb
    refine ⟨hC.2.1, c_X1_waking hC.2.1 b8_73 (by omega) (hC.sok q.1 q.2) hI.2.2.1 (fun G1 f1 => m _ _ (f1.cl hI.1.2.2.1) ?_)⟩
    rw [if_neg (fun x => x q), if_neg (by omega), if_pos (by omega)]
    rfl
/-! sleep -/
def sleV (S : Mem) (c s : Int) : Int := if ¬ (0 ≤ s ∧ s < S c 8) then -1 else if aslp S 73 c s (S 73 7) then S (c + 13 + s) 8 - S 73 7 else 0
theorem t_sleep {s : Int} (hI : Inv0 G G c fs) (is : InR s) : Ct (d + 1) M_X11_sleep NT 0 0 (some lay) [(2, 0), (0, s)] G (fun v G1 => Ct (d + 2) M_X12_sleep NT 0 0 (some lay) [(2, 311), (0, s)] G1 (Ok2 c fs G v)) := by
  have hC := hI.cls
  have r := hC.rng
  have hc := hC.1
  have tk := hC.tick
  have m : ∀ v, v = sleV G c s → Ct (d + 2) M_X12_sleep NT 0 0 (some lay) [(2, 311), (0, s)] G (Ok2 c fs G v) := by
    intro v hv
    refine ctof (s_X12_sleep_0 (fun G1 e1 => ?_))
    have f1 : ThF G G1 := by rw [e1]; exact ThF.st
    have hR := f1.cu hI.2.1
    unfold sleV at hv
    refine c_isSitter hR is (fun q => ⟨by omega, fun _ => ?_, fun x => absurd (show (1 : Int) ≠ 0 by decide) x⟩) (fun q => ⟨by omega, fun x => absurd rfl x, fun _ => ?_⟩)
    · rw [if_neg (fun x => x q)] at hv
      have e := (hR.sit q.1 q.2).2.2.2.2.2.2.2.2
      refine c_isAsleep hR q (fun a => ⟨by omega, fun x => absurd x (by decide), fun _ => ⟨by omega, ?_⟩⟩) (fun a => ⟨by omega, fun _ => ?_, fun x => absurd rfl x⟩)
      · rw [if_pos a] at hv
        rw [hR.nums.1, e, hv]; exact hI.ok ClF.rfl' f1.ml
      · rw [if_neg a] at hv
        rw [hv]; exact hI.ok ClF.rfl' f1.ml
    · rw [if_pos q] at hv
      rw [hv]; exact hI.ok ClF.rfl' f1.ml
  unfold sleV at m
  refine ctof (s_X11_sleep_0 (c_X11_known hC is (fun q => ⟨by omega, fun _ b hb => ?_, fun x => absurd (show (1 : Int) ≠ 0 by decide) x⟩) (fun q => ⟨by omega, fun x => absurd rfl x, fun _ => m _ (by rw [if_pos q])⟩)))
  rw [hc] at hb
  subst hb
  refine ⟨hC.2.1, c_asl hC q (by omega) (fun a => ⟨by omega, fun x => absurd x (by decide), fun _ b2 h2 => ?_⟩) (fun a => ⟨by omega, fun _ => m _ (by rw [if_neg (fun x => x q), if_neg a]), fun x => absurd rfl x⟩)⟩
  rw [hc] at h2
  subst h2
  exact ⟨hC.2.1, by omega, m _ (by rw [if_neg (fun x => x q), if_pos a])⟩
/-! side -/
def sidV (S : Mem) (c : Int) (fs : Int → Law) (s : Int) : Int := if ¬ (0 ≤ s ∧ s < S c 8) then -1 else if aslp S 73 c s (S 73 7) then (if spiV S c fs s (S 73 7) 1 (S 80 (S (c + 13 + s) 1)) (S 77 s) < spiV S c fs s (S 73 7) 0 (S 80 (S (c + 13 + s) 1)) (S 77 s) then 1 else 0) else -1
theorem spiV_ext {S S' : Mem} {w t sd cp ak : Int} (hw : 0 ≤ w ∧ w < 5) (e : CorC c S S') : spiV S' c fs w t sd cp ak = spiV S c fs w t sd cp ak := by
  have e : ∀ q k : Int, c ≤ q ∧ q < c + 18 ∧ q ≠ c + 7 ∧ q ≠ c + 12 → S' q k = S q k := fun q k h => e q k h.1 h.2.1 h.2.2.1 h.2.2.2
  unfold spiV deepf legsf
  rw [e (c + 8) 1 (by omega), e (c + 13 + w) 0 (by omega), e (c + 13 + w) 5 (by omega), e (c + 13 + w) 6 (by omega), e c 9 (by omega)]
theorem Cls.qt {G' : Mem} (hC : Cls G c) (hc : c = 37 ∨ c = 55) (h : ClF c G G') : Cls G' c := by
  have cc : CorC c G G' := fun q k q0 q1 q7 q12 => h.1 q k (by omega) (by omega)
  have e3 : StEq G G' 73 73 := ⟨fun k _ _ => h.1 _ _ (by omega) (by omega), fun j _ _ i _ _ => h.1 _ _ (by omega) (by omega)⟩
  exact ⟨by rw [h.1 0 13 (by omega) (by omega)]; exact hC.1, hC.2.1, hC.2.2.1.cp cc.eq, hC.2.2.2.1.cp e3, by rw [h.1 73 7 (by omega) (by omega), h.1 c 7 (by omega) (by omega)]; exact hC.2.2.2.2⟩
theorem t_side {s : Int} (hI : Inv0 G G c fs) (is : InR s) : Ct (d + 3) M_X11_side NT 0 0 (some lay) [(2, 0), (0, s)] G (fun v G1 => Ct (d + 4) M_X12_side NT 0 0 (some lay) [(2, 311), (0, s)] G1 (Ok2 c fs G v)) := by
  have hC := hI.cls
  have r := hC.rng
  have hc := hC.1
  have tk := hC.tick
  have h37 := hI.1.2.2.1
  have m : ∀ v G1, ClF c G G1 → v = sidV G c fs s → Ct (d + 4) M_X12_side NT 0 0 (some lay) [(2, 311), (0, s)] G1 (Ok2 c fs G v) := by
    intro v G1 f1 hv
    refine ctof (s_X12_side_0 (fun G2 e2 => ?_))
    have f2 : ThF G1 G2 := by rw [e2]; exact ThF.st
    have hR := f2.cu (hI.cu1 f1)
    have hL := f2.lw (hI.lw1 f1)
    unfold sidV at hv
    refine c_isSitter hR is (fun q => ⟨by omega, fun x => absurd x (by decide), fun _ => ?_⟩) (fun q => ⟨by omega, fun _ => ?_, fun x => absurd rfl x⟩)
    · rw [if_neg (fun x => x q)] at hv
      refine c_isAsleep hR q (fun a => ⟨by omega, fun _ => ?_, fun x => absurd (show (1 : Int) ≠ 0 by decide) x⟩) (fun a => ⟨by omega, fun x => absurd rfl x, fun _ => ?_⟩)
      · rw [if_pos a] at hv
        rw [hR.nums.1]
        refine c_spilling hR q hL (fun G3 f3 => ?_)
        have hR3 := hR.ext f3.cor
        rw [hR3.nums.1]
        refine c_spilling hR3 q (hL.ext f3.cor) (fun G4 f4 => ?_)
        have i1 := spiV_in (S := G) (c := c) (fs := fs) (w := s) (t := G 73 7) (sd := 1) (cp := G 80 (G (c + 13 + s) 1)) (ak := G 77 s) (by omega)
        have i0 := spiV_in (S := G) (c := c) (fs := fs) (w := s) (t := G 73 7) (sd := 0) (cp := G 80 (G (c + 13 + s) 1)) (ak := G 77 s) (by omega)
        have ok : Ok2 c fs G v v G4 := hI.ok f1 (f2.ml.tr (f3.ml.tr f4.ml))
        refine ⟨by omega, by omega, fun y => ?_, fun y => ?_⟩
        · rw [if_neg (by omega)] at hv
          rw [hv] at ok ⊢; exact ok
        · rw [if_pos (by omega)] at hv
          rw [hv] at ok ⊢; exact ok
      · rw [if_neg a] at hv
        rw [hv]; exact hI.ok f1 f2.ml
    · rw [if_pos q] at hv
      rw [hv]; exact hI.ok f1 f2.ml
  unfold sidV at m
  refine ctof (s_X11_side_0 (c_X11_known hC is (fun q => ⟨by omega, fun x => absurd x (by decide), fun _ b hb => ?_⟩) (fun q => ⟨by omega, fun _ => m _ _ ClF.rfl' (by rw [if_pos q]), fun x => absurd rfl x⟩)))
  rw [hc] at hb
  subst hb
  refine ⟨hC.2.1, c_asl hC q (by omega) (fun a => ⟨by omega, fun _ b2 h2 => ?_, fun x => absurd (show (1 : Int) ≠ 0 by decide) x⟩) (fun a => ⟨by omega, fun x => absurd rfl x, fun _ => m _ _ ClF.rfl' (by rw [if_neg (fun x => x q), if_neg a])⟩)⟩
  rw [hc] at h2
  subst h2
  refine ⟨hC.2.1, c_X1_spilling hC.2.1 b8_73 (by omega) (hC.sok q.1 q.2) hI.2.2.1 (fun G1 f1 b3 h3 => ?_)⟩
  have f1c := f1.cl h37
  have hC1 := hC.qt h37 f1c
  rw [hC1.1] at h3
  subst h3
  have cc := (f1.cor hC.2.1).2
  have e : ∀ q k : Int, q ≠ b3 + 7 → q ≠ b3 + 12 → G1 q k = G q k := f1
  refine ⟨hC.2.1, c_X1_spilling hC.2.1 b8_73 (by omega) (hC1.sok q.1 (by rw [e _ _ (by omega) (by omega)]; exact q.2)) (hI.2.2.1.extC cc) (fun G2 f2 => ?_)⟩
  have i1 := spiV_in (S := G1) (c := b3) (fs := fs) (w := s) (t := G1 73 7) (sd := 1) (cp := G1 (73 + 7) (G1 (b3 + 13 + s) 1)) (ak := G1 (73 + 4) s) (by omega)
  have i0 := spiV_in (S := G) (c := b3) (fs := fs) (w := s) (t := G 73 7) (sd := 0) (cp := G (73 + 7) (G (b3 + 13 + s) 1)) (ak := G (73 + 4) s) (by omega)
  have ex : spiV G1 b3 fs s (G1 73 7) 1 (G1 (73 + 7) (G1 (b3 + 13 + s) 1)) (G1 (73 + 4) s) = spiV G b3 fs s (G 73 7) 1 (G 80 (G (b3 + 13 + s) 1)) (G 77 s) := by
    rw [spiV_ext (by omega) cc]
    simp only [Int.reduceAdd]
    rw [e 73 7 (by omega) (by omega), e (b3 + 13 + s) 1 (by omega) (by omega), e 80 _ (by omega) (by omega), e 77 s (by omega) (by omega)]
  have ey : spiV G b3 fs s (G 73 7) 0 (G (73 + 7) (G (b3 + 13 + s) 1)) (G (73 + 4) s) = spiV G b3 fs s (G 73 7) 0 (G 80 (G (b3 + 13 + s) 1)) (G 77 s) := rfl
  refine ⟨by omega, by omega, fun y => m _ _ (f1c.tr (f2.cl h37)) ?_, fun y => m _ _ (f1c.tr (f2.cl h37)) ?_⟩
  · rw [if_neg (fun x => x q), if_pos a, if_neg (by omega)]
  · rw [if_neg (fun x => x q), if_pos a, if_pos (by omega)]
end ASKB
