section FEWEST
variable {d : Nat} {S S' G G' H : Mem} {Q : Int → Mem → Prop} {c : Int} {fs : Int → Law}
theorem t_fewest {s w : Int} (hI : Inv0 G G c fs) (is : InR s) (iw : InR w) : Ct (d + 5) M_X11_fewest NT 0 0 (some lay) [(2, 0), (0, s), (0, w)] G (fun v G1 => Ct (d + 5) M_X12_fewest NT 0 0 (some lay) [(2, 311), (0, s), (0, w)] G1 (Ok2 c fs G v)) := by
  have hC := hI.cls
  have r := hC.rng
  have hc := hC.1
  have tk := hC.tick
  have h37 := hI.1.2.2.1
  have mN : ¬ rgOk G c s w → Ct (d + 5) M_X12_fewest NT 0 0 (some lay) [(2, 311), (0, s), (0, w)] G (Ok2 c fs G (-1)) := by
    intro hno
    refine ctof (s_X12_fewest_0 (fun G1 e1 => ?_))
    have f1 : ThF G G1 := by rw [e1]; exact ThF.st
    have hR := f1.cu hI.2.1
    have ok : Ok2 c fs G (-1) (-1) G1 := hI.ok ClF.rfl' f1.ml
    refine c_isSitter hR is (fun q => ⟨by omega, fun x => absurd x (by decide), fun _ => ⟨by omega, ?_⟩⟩) (fun q => ⟨by omega, fun _ => ok, fun x => absurd rfl x⟩)
    have row := (hR.row q.1 q.2).2.1
    have ro := (hR.rok (i := s) (by omega) (by omega)).2.1
    exact ⟨by omega, fun _ => ok, fun x => c_within iw (by omega) (by omega) (fun q2 => absurd ⟨q, by omega, q2⟩ hno) (fun q2 => ⟨by omega, fun y => absurd rfl y, fun _ => ok⟩)⟩
  refine ctof (s_X11_fewest_0 (c_X11_known hC is (fun q => ⟨by omega, fun x => absurd x (by decide), fun _ => ⟨by omega, ?_⟩⟩) (fun q => ⟨by omega, fun _ => mN (fun x => q x.1), fun x => absurd rfl x⟩)))
  have ro := (hC.rok (i := s) (by omega) (by omega))
  refine ⟨by omega, fun x => mN (fun y => x y.2.1), fun x => ⟨iw, fun y => mN (fun z => by have := z.2.2.1; omega), fun y => ⟨fun y2 b hb => ?_, fun y2 => mN (fun z => y2 z.2.2.2)⟩⟩⟩
  have x := Decidable.not_not.mp x
  rw [hc] at hb
  subst hb
  have seat := hC.seat q.1 q.2
  have so := hC.sok q.1 q.2
  have so1 := so.2.1
  have k3 : 1 ≤ G (b + 13 + s) 3 ∧ G (b + 13 + s) 3 ≤ 99 := so.2.2.2.1
  have gb := grow_bd so (m := 0) (by omega)
  obtain ⟨n, hn⟩ := Int.eq_ofNat_of_zero_le (show 0 ≤ G b 6 - 1 - G (b + 13 + s) 1 by omega)
  obtain ⟨m0, hm0⟩ := Int.eq_ofNat_of_zero_le (show 0 ≤ G b 7 - G 73 7 by omega)
  obtain ⟨pd, hpd⟩ : ∃ pd : Int → Int, pd = fun t => cntF (slB G b t) n (G (b + 13 + s) 1 + 1) := ⟨_, rfl⟩
  have pdb : ∀ t, 0 ≤ pd t ∧ pd t ≤ 4 := fun t => by
    have := cnt_in (slB G b t) n (G (b + 13 + s) 1 + 1)
    rw [hpd]
    show 0 ≤ cntF (slB G b t) n (G (b + 13 + s) 1 + 1) ∧ cntF (slB G b t) n (G (b + 13 + s) 1 + 1) ≤ 4
    omega
  have thl : ∀ t, G 73 7 ≤ t → t < thR G b fs t := fun t _ => by
    have := queV_in (S := G) (c := b) (fs := fs) (t := t) (ou := 0)
    unfold thR
    omega
  have ok : VOk pd (fun _ => 10000) (thR G b fs) (grow G (b + 13 + s) 0) (G (b + 13 + s) 3) 1000000 (G b 7) (G 73 7) := ⟨fun t a e => ⟨by have := pdb t; omega, ⟨by show (0 : Int) ≤ 10000; omega, by show (10000 : Int) ≤ 10000; omega⟩, thl t a⟩, gb, k3.2, ⟨by decide, Int.le_refl _⟩, by omega⟩
  have fw := fun t n (h : G 73 7 ≤ t) (h2 : t ≤ G b 7) => VF_few (fr := frB G b s) (lm := G (b + 13 + s) 3) (fl := G b 7) (now := G 73 7) pdb thl gb.1 (G b 7 - t).toNat t n h (by omega)
  have by' : ∀ K : Int → Mem → Prop, (∀ G', PlF b G G' → G' 12 0 = VF (frB G b s) pd (fun _ => 10000) (thR G b fs) (grow G (b + 13 + s) 0) (G (b + 13 + s) 3) 1000000 (G b 7) (G 73 7) (G 74 s) → G' 12 1 = FSF (frB G b s) pd (fun _ => 10000) (thR G b fs) (grow G (b + 13 + s) 0) (G (b + 13 + s) 3) 1000000 (G b 7) (G 74 s) (G 73 7) m0 → K 0 G') → Ct (d + 4) M_X4_byWakings NT 0 0 (some lay) [(2, 12), (2, b), (2, 73), (0, s), (2, 6)] G K := by
    intro K hK
    rw [hpd] at hK
    exact c_byWakings hC h37 q hI.2.2.1 hn.symm hm0.symm hK
  have fm : ∀ (G2 : Mem) (K : Int → Mem → Prop), Cu G G2 b → LawsR G G2 b 0 fs → _ → Ct (d + 4) M_X12_fewests NT 0 0 (some lay) [(2, 311), (0, s)] G2 K := fun G2 K hR hL hK => c_fewests (Q := K) hR q hL hn.symm hpd hK
  generalize hfr : frB G b s = fr at *
  generalize hth : thR G b fs = th at *
  generalize hg : grow G (b + 13 + s) 0 = g at *
  generalize hlm : G (b + 13 + s) 3 = lm at *
  have fi := FSF_in (fr := fr) (pd := pd) (od := fun _ => 10000) (th := th) (g := g) (lm := lm) (lt := 1000000) (fl := G b 7) (now := G 73 7) (n0 := G 74 s) m0
  have v0 := fw (G 73 7) (G 74 s) (by omega) (by omega)
  have mY : ∀ v G1, ClF b G G1 → v = (if VF fr pd (fun _ => 10000) th g lm 1000000 (G b 7) (G 73 7) (G 74 s) < 1000000 then (if w = 0 then VF fr pd (fun _ => 10000) th g lm 1000000 (G b 7) (G 73 7) (G 74 s) else FSF fr pd (fun _ => 10000) th g lm 1000000 (G b 7) (G 74 s) (G 73 7) m0) else -1) → Ct (d + 5) M_X12_fewest NT 0 0 (some lay) [(2, 311), (0, s), (0, w)] G1 (Ok2 b fs G v) := by
    intro v G1 f1 hv
    refine ctof (s_X12_fewest_0 (fun G2 e2 => ?_))
    have f2 : ThF G1 G2 := by rw [e2]; exact ThF.st
    have hR := f2.cu (hI.cu1 f1)
    have hL := f2.lw (hI.lw1 f1)
    refine c_isSitter hR is (fun _ => ⟨by omega, fun x => absurd x (by decide), fun _ => ⟨by omega, ?_⟩⟩) (fun x => absurd q x)
    have row := hR.row q.1 q.2
    refine ⟨by omega, fun z => absurd (by omega) z, fun _ => c_within iw (by omega) (by omega) (fun _ => ⟨by omega, fun _ => ?_, fun z => absurd (show (1 : Int) ≠ 0 by decide) z⟩) (fun z => absurd (by omega) z)⟩
    refine fm G2 _ hR hL (fun G3 f3 h5 h6 => ?_)
    have hR3 := hR.ext f3.cor
    have row3 := hR3.row q.1 q.2
    rw [row3.1, hR3.nums.1]
    have v5 := h5 (G 73 7) (G 74 s) (by omega) (by omega) (by omega) (by omega)
    have fin : ∀ u, u = v → Ok2 b fs G v u G3 := fun u hu => by rw [hu]; exact hI.ok f1 (f2.ml.tr f3.ml)
    rw [v5]
    have rn : RN (VF fr pd (fun _ => 10000) th g lm 1000000 (G b 7) (G 73 7) (G 74 s)) = if VF fr pd (fun _ => 10000) th g lm 1000000 (G b 7) (G 73 7) (G 74 s) < 1000000 then VF fr pd (fun _ => 10000) th g lm 1000000 (G b 7) (G 73 7) (G 74 s) else 100000 := rfl
    refine ⟨by omega, by omega, by split at rn <;> omega, fun z => ⟨iw, fun z2 => ?_, fun z2 => fin _ ?_⟩, fun z => fin _ ?_⟩
    · -- the first tick
      have ft : VF fr pd (fun _ => 10000) th g lm 1000000 (G b 7) (G 73 7) (G 74 s) < 1000000 := by split at rn <;> omega
      rw [if_pos ft, if_neg z2] at hv
      have key : ∀ (j : Nat) (t : Int), t + j = G b 7 → G 73 7 ≤ t → v = FSF fr pd (fun _ => 10000) th g lm 1000000 (G b 7) (G 74 s) (G 73 7) j → VF fr pd (fun _ => 10000) th g lm 1000000 (G b 7) t (G 74 s + g * (t - G 73 7)) < 1000000 → Rn (d + 5) M_X12_fewest zN 105 [(0, (2, 311)), (1, (0, s)), (3, (0, min 199 (G 74 s + g * (t - G 73 7)))), (4, (0, t))] [] G3 (Ok2 b fs G v) := by
        intro j
        induction j with
        | zero =>
          intro t ht h1 hf hlt
          have e7 : G3 313 1 = G b 7 := hR3.seats.2.1
          have hf : v = -1 := hf
          exact s_X12_fewest_105 ⟨by omega, by omega, fun _ => fin _ hf.symm, fun z => absurd (by omega) z⟩
        | succ j ih =>
          intro t ht h1 hf hlt
          have e7 : G3 313 1 = G b 7 := hR3.seats.2.1
          have gg := mul_bd gb (b := t - G 73 7) (B := 72) (by omega)
          have hh := h6 t (min 199 (G 74 s + g * (t - G 73 7))) h1 (by omega) (by omega) (by omega)
          rw [VF_min ok h1, wtF_min ok h1] at hh
          have hiff := hh.2 hlt
          unfold FSF at hf
          rw [show G b 7 - ((j + 1 : Nat) : Int) = t by omega] at hf
          refine s_X12_fewest_105 ⟨by omega, by omega, fun z => absurd z (by omega), fun _ => ⟨by omega, by omega, fun z => ?_, fun z => fin _ ?_⟩⟩
          · have ng : ¬ VF fr pd (fun _ => 10000) th g lm 1000000 (G b 7) t (G 74 s + g * (t - G 73 7)) < wtF fr pd (fun _ => 10000) th g lm 1000000 (G b 7) t (G 74 s + g * (t - G 73 7)) := fun y => by
              have := hiff.mpr y
              omega
            rw [if_neg ng] at hf
            have le := VF_le (fr := fr) (pd := pd) (od := fun _ => 10000) (th := th) (g := g) (lm := lm) (lt := 1000000) (fl := G b 7) (n := G 74 s + g * (t - G 73 7)) (show t < G b 7 by omega) (thl t h1)
            have nx : G 74 s + g * (t + 1 - G 73 7) = G 74 s + g * (t - G 73 7) + g := by rw [show t + 1 - G 73 7 = t - G 73 7 + 1 by omega, Int.mul_add, Int.mul_one]; omega
            have nxt := ih (t + 1) (by omega) (by omega) hf (by
              rw [nx]
              have i1 := (fw (t + 1) (G 74 s + g * (t - G 73 7) + g) (by omega) (by omega)).1
              have wt : wtF fr pd (fun _ => 10000) th g lm 1000000 (G b 7) t (G 74 s + g * (t - G 73 7)) = VF fr pd (fun _ => 10000) th g lm 1000000 (G b 7) (t + 1) (G 74 s + g * (t - G 73 7) + g) + (if lm < G 74 s + g * (t - G 73 7) + g then 1000000 else 0) := rfl
              split at wt <;> omega)
            refine c_growth hR3 q ?_
            rw [hg]
            refine ⟨by omega, ?_⟩
            rw [nx] at nxt
            rw [show min 199 (min 199 (G 74 s + g * (t - G 73 7)) + g) = min 199 (G 74 s + g * (t - G 73 7) + g) by omega]
            exact nxt
          · have yg : VF fr pd (fun _ => 10000) th g lm 1000000 (G b 7) t (G 74 s + g * (t - G 73 7)) < wtF fr pd (fun _ => 10000) th g lm 1000000 (G b 7) t (G 74 s + g * (t - G 73 7)) := hiff.mp (by omega)
            rw [if_pos yg] at hf
            exact hf.symm
      have k0 := key m0 (G 73 7) (by omega) (by omega) hv (by rw [Int.sub_self, Int.mul_zero, Int.add_zero]; exact ft)
      rw [Int.sub_self, Int.mul_zero, Int.add_zero, show min 199 (G 74 s) = G 74 s by omega] at k0
      exact k0
    · have ft : VF fr pd (fun _ => 10000) th g lm 1000000 (G b 7) (G 73 7) (G 74 s) < 1000000 := by split at rn <;> omega
      rw [hv, if_pos ft, if_pos (Decidable.not_not.mp z2), rn, if_pos ft]
    · have ft : ¬ VF fr pd (fun _ => 10000) th g lm 1000000 (G b 7) (G 73 7) (G 74 s) < 1000000 := by split at rn <;> omega
      rw [hv, if_neg ft]
  refine ⟨hC.2.1, by' _ (fun G1 f1 h0 h1 => ?_)⟩
  have vb := VF_b (fr := fr) ok (t := G 73 7) (n := G 74 s) (by omega)
  rw [h0, h1]
  refine ⟨by omega, fun z => ⟨fun z2 => mY _ G1 (f1.cl h37) (by rw [if_pos z, if_neg z2]), fun z2 => mY _ G1 (f1.cl h37) (by rw [if_pos z, if_pos (Decidable.not_not.mp z2)])⟩, fun z => mY _ G1 (f1.cl h37) (by rw [if_neg z])⟩
end FEWEST
