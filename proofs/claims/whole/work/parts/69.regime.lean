section REGIME
variable {d : Nat} {S S' G G' H : Mem} {Q : Int → Mem → Prop} {c : Int} {fs : Int → Law}
def rgOk (S : Mem) (c s w : Int) : Prop := (0 ≤ s ∧ s < S c 8) ∧ S 75 s = 0 ∧ 0 ≤ w ∧ w ≤ 1
theorem t_regime {s w : Int} (hI : Inv0 G G c fs) (is : InR s) (iw : InR w) : Ct (d + 5) M_X11_regime NT 0 0 (some lay) [(2, 0), (0, s), (0, w)] G (fun v G1 => Ct (d + 9) M_X12_regime NT 0 0 (some lay) [(2, 311), (0, s), (0, w)] G1 (Ok2 c fs G v)) := by
  have hC := hI.cls
  have r := hC.rng
  have hc := hC.1
  have tk := hC.tick
  have h37 := hI.1.2.2.1
  have mN : ¬ rgOk G c s w → Ct (d + 9) M_X12_regime NT 0 0 (some lay) [(2, 311), (0, s), (0, w)] G (Ok2 c fs G (-1)) := by
    intro hno
    refine ctof (s_X12_regime_0 (fun G1 e1 => ?_))
    have f1 : ThF G G1 := by rw [e1]; exact ThF.st
    have hR := f1.cu hI.2.1
    have ok : Ok2 c fs G (-1) (-1) G1 := hI.ok ClF.rfl' f1.ml
    refine c_isSitter hR is (fun q => ⟨by omega, fun x => absurd x (by decide), fun _ => ⟨by omega, ?_⟩⟩) (fun q => ⟨by omega, fun _ => ok, fun x => absurd rfl x⟩)
    have row := (hR.row q.1 q.2).2.1
    have ro := (hR.rok (i := s) (by omega) (by omega)).2.1
    exact ⟨by omega, fun _ => ok, fun x => c_within iw (by omega) (by omega) (fun q2 => absurd ⟨q, by omega, q2⟩ hno) (fun q2 => ⟨by omega, fun y => absurd rfl y, fun _ => ok⟩)⟩
  refine ctof (s_X11_regime_0 (c_X11_known hC is (fun q => ⟨by omega, fun x => absurd x (by decide), fun _ => ⟨by omega, ?_⟩⟩) (fun q => ⟨by omega, fun _ => mN (fun x => q x.1), fun x => absurd rfl x⟩)))
  have ro := (hC.rok (i := s) (by omega) (by omega))
  refine ⟨by omega, fun x => mN (fun y => x y.2.1), fun x => ⟨iw, fun y => mN (fun z => by have := z.2.2.1; omega), fun y => ⟨fun y2 b hb => ?_, fun y2 => mN (fun z => y2 z.2.2.2)⟩⟩⟩
  have x := Decidable.not_not.mp x
  rw [hc] at hb
  subst hb
  have seat := hC.seat q.1 q.2
  have so := hC.sok q.1 q.2
  have so1 := so.2.1
  have k3 : 1 ≤ G (b + 13 + s) 3 ∧ G (b + 13 + s) 3 ≤ 99 := so.2.2.2.1
  have gb := grow_bd so (m := 0) (by omega)
  have pr2 := hC.price (k := 2) (by omega) (by omega)
  obtain ⟨n, hn⟩ := Int.eq_ofNat_of_zero_le (show 0 ≤ G b 6 - 1 - G (b + 13 + s) 1 by omega)
  obtain ⟨m0, hm0⟩ := Int.eq_ofNat_of_zero_le (show 0 ≤ G b 7 - G 73 7 by omega)
  have ok : VOk (pdC G b fs n (G (b + 13 + s) 1 + 1)) (odR G b fs n (G (b + 13 + s) 1 + 1)) (thR G b fs) (grow G (b + 13 + s) 0) (G (b + 13 + s) 3) (1000 * G (b + 5) 2) (G b 7) (G 73 7) := ⟨fun t a e => ⟨pdC_in hC (by omega), odR_in hC, by have := queV_in (S := G) (c := b) (fs := fs) (t := t) (ou := 0); unfold thR; omega⟩, gb, k3.2, by omega, by omega⟩
  have vb := VF_b (fr := frB G b s) ok (t := G 73 7) (n := G 74 s) (by omega)
  -- the model, told the least and whether he goes
  have mY : ∀ v G1, ClF b G G1 → (w = 0 → v = VF (frB G b s) (pdC G b fs n (G (b + 13 + s) 1 + 1)) (odR G b fs n (G (b + 13 + s) 1 + 1)) (thR G b fs) (grow G (b + 13 + s) 0) (G (b + 13 + s) 3) (1000 * G (b + 5) 2) (G b 7) (G 73 7) (G 74 s)) →
      (w ≠ 0 → v = if G 73 7 < G b 7 ∧ VF (frB G b s) (pdC G b fs n (G (b + 13 + s) 1 + 1)) (odR G b fs n (G (b + 13 + s) 1 + 1)) (thR G b fs) (grow G (b + 13 + s) 0) (G (b + 13 + s) 3) (1000 * G (b + 5) 2) (G b 7) (G 73 7) (G 74 s) < wtF (frB G b s) (pdC G b fs n (G (b + 13 + s) 1 + 1)) (odR G b fs n (G (b + 13 + s) 1 + 1)) (thR G b fs) (grow G (b + 13 + s) 0) (G (b + 13 + s) 3) (1000 * G (b + 5) 2) (G b 7) (G 73 7) (G 74 s) then 1 else 0) →
      Ct (d + 9) M_X12_regime NT 0 0 (some lay) [(2, 311), (0, s), (0, w)] G1 (Ok2 b fs G v) := by
    intro v G1 f1 hv0 hv1
    refine ctof (s_X12_regime_0 (fun G2 e2 => ?_))
    have f2 : ThF G1 G2 := by rw [e2]; exact ThF.st
    have hR := f2.cu (hI.cu1 f1)
    have hL := f2.lw (hI.lw1 f1)
    refine c_isSitter hR is (fun _ => ⟨by omega, fun x => absurd x (by decide), fun _ => ⟨by omega, ?_⟩⟩) (fun x => absurd q x)
    have row := hR.row q.1 q.2
    refine ⟨by omega, fun z => absurd (by omega) z, fun _ => c_within iw (by omega) (by omega) (fun _ => ⟨by omega, fun _ => ?_, fun z => absurd (show (1 : Int) ≠ 0 by decide) z⟩) (fun z => absurd (by omega) z)⟩
    refine c_regimes hR q hL hn.symm (fun G3 f3 h5 h6 => ?_)
    have hR3 := hR.ext f3.cor
    have row3 := hR3.row q.1 q.2
    rw [row3.1, hR3.nums.1, hR3.seats.2.1]
    have v5 := h5 (G 73 7) (G 74 s) (by omega) (by omega) (by omega) (by omega)
    have fin : ∀ u, u = v → Ok2 b fs G v u G3 := fun u hu => by rw [hu]; exact hI.ok f1 (f2.ml.tr f3.ml)
    refine ⟨by omega, iw, fun z => ⟨by omega, by omega, fun z2 => fin _ ?_, fun z2 => ⟨by omega, ?_⟩⟩, fun z => ⟨by omega, ?_⟩⟩
    · rw [hv1 z, if_neg (fun y => by omega)]
    · have v6 := h6 (G 73 7) (G 74 s) (by omega) (by omega) (by omega) (by omega)
      rw [v6]
      have hv1 := hv1 z
      refine ⟨by split <;> omega, fun y => fin _ ?_, fun y => fin _ ?_⟩
      · rw [hv1, if_neg (fun u => by rw [if_pos u.2] at y; omega)]
      · have u : VF (frB G b s) (pdC G b fs n (G (b + 13 + s) 1 + 1)) (odR G b fs n (G (b + 13 + s) 1 + 1)) (thR G b fs) (grow G (b + 13 + s) 0) (G (b + 13 + s) 3) (1000 * G (b + 5) 2) (G b 7) (G 73 7) (G 74 s) < wtF (frB G b s) (pdC G b fs n (G (b + 13 + s) 1 + 1)) (odR G b fs n (G (b + 13 + s) 1 + 1)) (thR G b fs) (grow G (b + 13 + s) 0) (G (b + 13 + s) 3) (1000 * G (b + 5) 2) (G b 7) (G 73 7) (G 74 s) := by
          apply Decidable.byContradiction
          intro u
          rw [if_neg u] at y
          exact y rfl
        rw [hv1, if_pos ⟨by omega, u⟩]
    · rw [v5]
      exact fin _ (hv0 (Decidable.not_not.mp z)).symm
  refine ⟨hC.2.1, c_byCost hC h37 q hI.2.2.1 hn.symm hm0.symm (fun G1 f1 h0 h1 => ?_)⟩
  have fi := FSF_in (fr := frB G b s) (pd := pdC G b fs n (G (b + 13 + s) 1 + 1)) (od := odR G b fs n (G (b + 13 + s) 1 + 1)) (th := thR G b fs) (g := grow G (b + 13 + s) 0) (lm := G (b + 13 + s) 3) (lt := 1000 * G (b + 5) 2) (fl := G b 7) (now := G 73 7) (n0 := G 74 s) m0
  have e7 : G1 73 7 = G 73 7 := f1 _ _ (by omega) (by omega) (by omega)
  rw [h0, h1, e7]
  have fst : FSF (frB G b s) (pdC G b fs n (G (b + 13 + s) 1 + 1)) (odR G b fs n (G (b + 13 + s) 1 + 1)) (thR G b fs) (grow G (b + 13 + s) 0) (G (b + 13 + s) 3) (1000 * G (b + 5) 2) (G b 7) (G 74 s) (G 73 7) m0 = G 73 7 ↔ (G 73 7 < G b 7 ∧ VF (frB G b s) (pdC G b fs n (G (b + 13 + s) 1 + 1)) (odR G b fs n (G (b + 13 + s) 1 + 1)) (thR G b fs) (grow G (b + 13 + s) 0) (G (b + 13 + s) 3) (1000 * G (b + 5) 2) (G b 7) (G 73 7) (G 74 s) < wtF (frB G b s) (pdC G b fs n (G (b + 13 + s) 1 + 1)) (odR G b fs n (G (b + 13 + s) 1 + 1)) (thR G b fs) (grow G (b + 13 + s) 0) (G (b + 13 + s) 3) (1000 * G (b + 5) 2) (G b 7) (G 73 7) (G 74 s)) := by
    match m0, hm0 with
    | 0, hm0 =>
      have e : FSF (frB G b s) (pdC G b fs n (G (b + 13 + s) 1 + 1)) (odR G b fs n (G (b + 13 + s) 1 + 1)) (thR G b fs) (grow G (b + 13 + s) 0) (G (b + 13 + s) 3) (1000 * G (b + 5) 2) (G b 7) (G 74 s) (G 73 7) 0 = -1 := rfl
      rw [e]
      constructor
      · intro z; omega
      · intro z; omega
    | j + 1, hm0 =>
      have fj := FSF_in (fr := frB G b s) (pd := pdC G b fs n (G (b + 13 + s) 1 + 1)) (od := odR G b fs n (G (b + 13 + s) 1 + 1)) (th := thR G b fs) (g := grow G (b + 13 + s) 0) (lm := G (b + 13 + s) 3) (lt := 1000 * G (b + 5) 2) (fl := G b 7) (now := G 73 7) (n0 := G 74 s) j
      unfold FSF
      rw [show G b 7 - ((j + 1 : Nat) : Int) = G 73 7 by omega, Int.sub_self, Int.mul_zero, Int.add_zero]
      constructor
      · intro z
        refine ⟨by omega, ?_⟩
        apply Decidable.byContradiction
        intro u
        rw [if_neg u] at z
        omega
      · intro z
        rw [if_pos z.2]
  refine ⟨fun z => ⟨by omega, by omega, fun y => mY 0 G1 (f1.cl h37) (fun u => absurd u z) (fun _ => ?_), fun y => mY 1 G1 (f1.cl h37) (fun u => absurd u z) (fun _ => ?_)⟩, fun z => mY _ G1 (f1.cl h37) (fun _ => rfl) (fun u => absurd u z)⟩
  · rw [if_neg (fun u => y (fst.mpr u))]
  · rw [if_pos (fst.mp (Decidable.not_not.mp y))]
end REGIME
