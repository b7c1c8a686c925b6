section SEATEDQ
variable {d : Nat} {S S' T T' G G' H : Mem} {Q : Int → Mem → Prop} {c : Int} {fs : Int → Law} {th : Int}
theorem rkF_ne {pen : List Int → Int} : ∀ (Ls : List (List Int)) (a : Int × List Int), (∀ L ∈ Ls, 0 ≤ pen L) → (a.1 = -1 ∨ 0 ≤ a.1) → (a.1 ≠ -1 ∨ Ls ≠ []) → (rkF pen Ls a).1 ≠ -1 := by
  intro Ls
  induction Ls with
  | nil => intro a _ _ h; rcases h with h | h; exact h; exact absurd rfl h
  | cons L Ls ih =>
    intro a hp ha _
    have p0 := hp L (List.mem_cons_self ..)
    unfold rkF
    refine ih _ (fun X hX => hp X (List.mem_cons_of_mem _ hX)) ?_ (Or.inl ?_)
    · split
      · exact Or.inr p0
      · exact ha
    · split
      · show pen L ≠ -1; omega
      · rename_i hh; exact fun z => hh (Or.inl z)
theorem t_seated {w : Int} (hI : Inv0 G G c fs) (hK : RkC G c fs) (iw : InR w) : Ct (d + 7) M_X11_seated NT 0 0 (some lay) [(2, 0), (0, w)] G (fun v G1 => Ct (d + 16) M_X12_seated NT 0 0 (some lay) [(2, 311), (0, w)] G1 (Ok3 c fs v)) := by
  have hC := hI.cls
  have r := hC.rng
  have hc := hC.1
  have h37 := hI.1.2.2.1
  have mN : ¬ (G c 8 ≠ 0 ∧ -1 ≤ w ∧ w < G c 8) → Ct (d + 16) M_X12_seated NT 0 0 (some lay) [(2, 311), (0, w)] G (Ok3 c fs (-2)) := by
    intro hno
    refine ctof (s_X12_seated_0 (fun G1 e1 => ?_))
    have f1 : ThF G G1 := by rw [e1]; exact ThF.st
    have hR := f1.cu hI.2.1
    have ok : Ok3 c fs (-2) (-2) G1 := (hI.ok (v := -2) ClF.rfl' f1.ml).ok3 hI hK
    have e8 : G1 313 8 = G c 8 := hR.seats.2.2.2.2
    rw [e8]
    refine c_within iw (by omega) (by omega) (fun q => ⟨by omega, fun x => absurd x (by decide), fun _ => ?_⟩) (fun q => ⟨by omega, fun _ => ok, fun x => absurd rfl x⟩)
    rw [e8]
    exact ⟨by omega, fun x => absurd ⟨x, by omega, by omega⟩ hno, fun _ => ok⟩
  refine ctof (s_X11_seated_0 (fun b hb => ?_))
  rw [hc] at hb
  subst hb
  refine ⟨hC.2.1, by omega, fun x => mN (fun y => y.1 x), fun x => ⟨iw, fun x2 => mN (fun y => by have := y.2.1; omega), fun x2 b8 h8 => ?_⟩⟩
  rw [hc] at h8
  subst h8
  refine ⟨hC.2.1, by omega, fun x3 b13 h13 => ?_, fun x3 => mN (fun y => x3 y.2.2)⟩
  rw [hc] at h13
  subst h13
  obtain ⟨n, hn⟩ := Int.eq_ofNat_of_zero_le r.2.2.1.1
  have hn1 : 1 ≤ n ∧ n ≤ 5 := by omega
  refine ⟨hC.2.1, c_rank hI.hsx hn hn1 hI.1.2.2.2 ?_ (fun G1 f1 k10 kv => ?_)⟩
  · rcases hK with hK | ⟨k1, k2, k3⟩
    · exact Or.inl hK
    · rw [hn, Int.toNat_natCast] at k3
      exact Or.inr ⟨k1, k3⟩
  have up : ∀ q k : Int, 311 ≤ q → G1 q k = G q k := fun q k a => f1 q k (by omega) (by omega) (by omega) (by omega)
  have hI1 := hI.rn f1
  have cc1 : CorC b13 G G1 := fun q k a b e g => f1 q k e g (by omega) (by omega)
  obtain ⟨pc, po⟩ := prm hn1
  obtain ⟨po1, po2, po3⟩ := okP_at po
  have pin : ∀ L ∈ lvs n n 0 [], 0 ≤ penO G b13 fs L := fun L hL => (penO_in (fs := fs) hI.2.1 hn (po1 L hL)).1
  have ne : (rkF (penO G b13 fs) (lvs n n 0 []) (-1, [])).1 ≠ -1 := rkF_ne _ _ pin (Or.inl rfl) (Or.inr (fun z => by rw [z] at po3; exact absurd po3 (by simp)))
  have hK1 : RkC G1 b13 fs := by
    have e8 := cor_at cc1 (q := b13) (k := 8) (by omega)
    refine Or.inr ⟨k10, by rw [e8]; omega, ?_⟩
    unfold RkV at kv ⊢
    rw [e8, hn, Int.toNat_natCast, rkF_cg (p := penO G b13 fs) (p' := penO G1 b13 fs) _ _ (fun L hL => penO_cg hI.2.1.2.1 cc1 hn (po1 L hL))]
    exact kv
  have mY : ∀ v, (w = -1 → v = (rkF (penO G b13 fs) (lvs n n 0 []) (-1, [])).1) → (w ≠ -1 → v = lsi (rkF (penO G b13 fs) (lvs n n 0 []) (-1, [])).2 w) → Ct (d + 16) M_X12_seated NT 0 0 (some lay) [(2, 311), (0, w)] G1 (Ok3 b13 fs v) := by
    intro v v0 v1
    refine ctof (s_X12_seated_0 (fun G2 e2 => ?_))
    have f2 : ThF G1 G2 := by rw [e2]; exact ThF.st
    have cm2 : CorM G G2 := fun q k hq => by rw [f2 q k (by omega)]; exact up q k (by omega)
    have hR := hI.2.1.ext cm2
    have hL := hI.2.2.1.ext cm2
    have e8 : G2 313 8 = G b13 8 := hR.seats.2.2.2.2
    rw [e8]
    refine c_within iw (by omega) (by omega) (fun _ => ⟨by omega, fun z => absurd z (by decide), fun _ => ?_⟩) (fun z => absurd (by omega) z)
    rw [e8]
    refine ⟨by omega, fun _ => c_seatsAll hR (fun G3 f3 a3 b3 m3 d3 => ?_), fun z => absurd x z⟩
    have hR3 := hR.ext f3.cor
    have hL3 := hL.ext f3.cor
    have se3 := hR3.seats
    have key : ∀ (m p : Nat) (G4 : Mem), (p : Int) + m = G b13 6 → (∀ q k : Int, q ≠ 358 → G4 q k = G3 q k) → (∀ k, 0 ≤ k → k < idxF G b13 p → (0 ≤ G4 358 k ∧ G4 358 k < (p : Int)) ∧ G (b13 + 2) (G4 358 k) ≠ -1 ∧ idxF G b13 (G4 358 k).toNat = k) → (∀ s, 0 ≤ s → s < (p : Int) → G (b13 + 2) s ≠ -1 → G4 358 (idxF G b13 s.toNat) = s) → Rn (d + 16) M_X12_seated zN 43 [(0, (2, 311)), (1, (0, w)), (2, (0, idxF G b13 p)), (3, (0, (p : Int)))] [] G4 (Ok3 b13 fs v) := by
      intro m
      induction m with
      | zero =>
        intro p G4 hp o4 k4 s4
        have y0 : G4 313 0 = G b13 6 := by rw [o4 _ _ (by decide)]; exact se3.1
        have ixn : idxF G b13 p = n := by
          have a := idx_all hI.2.1.2.1
          have m1 : ∀ j : Nat, p + j ≤ 5 → idxF G b13 (p + j) = idxF G b13 p := by
            intro j
            induction j with
            | zero => intro _; rfl
            | succ j ih =>
              intro hj
              show idxF G b13 (p + j) + (if G (b13 + 2) ((p + j : Nat) : Int) = -1 then 0 else 1) = _
              rw [ih (by omega)]
              have o := hC.on (s := ((p + j : Nat) : Int)) (by omega) (by omega)
              have tk : G (b13 + 2) ((p + j : Nat) : Int) = -1 := by
                rcases o with o | ⟨o1, o2, o3⟩
                · exact o
                · have := (hC.seat o1 o2).1
                  omega
              rw [if_pos tk, Int.add_zero]
          have m2 := m1 (5 - p) (by omega)
          rw [show p + (5 - p) = 5 by omega, a] at m2
          omega
        refine s_X12_seated_43 ⟨by omega, by omega, fun _ G5 e5 => ?_, fun z => absurd (by omega) z⟩
        have o5 : ∀ q k : Int, q ≠ 358 → ¬ (q = 311 ∧ k = 71) → G5 q k = G3 q k := fun q k a b => by rw [e5, st_ne _ _ b]; exact o4 q k a
        have z58 : ∀ k, G5 358 k = G4 358 k := fun k => by rw [e5, st_nq _ _ _ _ (by decide)]
        have cm5 : CorM G3 G5 := fun q k hq => o5 q k (by omega) (by omega)
        have ts : TsP G b13 G5 n := by
          refine ⟨fun k k0 k1 => ?_, fun s s0 s1 hs _ => ?_⟩
          · have y := k4 k k0 (by omega)
            rw [z58]
            exact ⟨by omega, y.2⟩
          · rw [z58]
            exact s4 s s0 (by omega) hs
        have or5 : OrR G b13 G5 [] := by
          refine ⟨fun k k0 k1 => absurd k1 (by simp; omega), fun s s0 s1 hs => ?_⟩
          rw [o5 350 _ (by decide) (by omega), a3 s s0 (by omega)]
          exact hs
        have h66 : G5 311 66 = -1 := by rw [o5 _ _ (by decide) (by omega)]; exact m3
        have h67 : G5 311 67 = 0 := by rw [o5 _ _ (by decide) (by omega)]; exact d3
        have oo := c_orders (d := d + (6 - n)) (hR3.ext cm5) (hL3.ext cm5) hn ts h66 h67 n 0 [] (-1, []) G5 (fun r6 G6 => InR w ∧ (w ≠ -1 → (0 ≤ w ∧ w < 5) ∧ Ok3 b13 fs v (G6 359 w) G6) ∧ (¬ w ≠ -1 → Ok3 b13 fs v (G6 311 71) G6)) (by simp) (by omega) (fun k k0 k1 => absurd k1 (by simp; omega)) OdF.rfl' or5 (by rw [e5, st_same]) (fun z => absurd rfl z) (Or.inl rfl) (fun G6 f6 or6 y71 y59 bb => ?_)
        · have de : d + (6 - n) + 9 + n = d + 15 := by omega
          rw [de] at oo
          exact oo
        · have ml : MlF G1 G6 := by
            refine ((f2.ml.tr f3.ml).tr ⟨fun q k a b => o5 q k (by omega) (by omega), fun q k a => o5 q k (by omega) (by omega)⟩).tr f6.ml
          have fin : ∀ u, u = v → Ok3 b13 fs v u G6 := fun u hu => by
            refine ⟨hu.symm, hI1.ext (fun q k a _ => ml.2 q k a) (fun q k a b => (ml.1 q k a b).trans (up q k a)), hK1.ext ?_ ⟨fun q k q0 q1 _ _ => ml.2 q k (by omega), ml.2 _ _ (by omega), ml.2 _ _ (by omega), fun k => ml.2 _ _ (by omega)⟩⟩
            exact hI1.2.1.2.1
          refine ⟨iw, fun z => ⟨by omega, fin _ ?_⟩, fun z => fin _ ?_⟩
          · rw [v1 z]
            exact y59 ne w (by omega) (by omega)
          · rw [v0 (Decidable.not_not.mp z)]
            exact y71
      | succ m ih =>
        intro p G4 hp o4 k4 s4
        have y0 : G4 313 0 = G b13 6 := by rw [o4 _ _ (by decide)]; exact se3.1
        have a50 : G4 350 (p : Int) = G (b13 + 2) (p : Int) := by rw [o4 _ _ (by decide)]; exact a3 (p : Int) (by omega) (by omega)
        have o := hC.on (s := (p : Int)) (by omega) (by omega)
        have ix : idxF G b13 (p + 1) = idxF G b13 p + (if G (b13 + 2) (p : Int) = -1 then 0 else 1) := rfl
        refine s_X12_seated_43 ⟨by omega, by omega, fun z => absurd z (by omega), fun _ => ⟨by omega, ?_⟩⟩
        rw [a50]
        refine ⟨by omega, fun z => ?_, fun z => ?_⟩
        · have tk : G (b13 + 2) (p : Int) ≠ -1 := by omega
          rw [if_neg tk] at ix
          have il := idx_lt hI.2.1.2.1 (s := (p : Int)) (by omega) (by omega) tk
          rw [Int.toNat_natCast] at il
          refine ⟨by omega, fun G14 e14 => ?_⟩
          have y := ih (p + 1) G14 (by omega) (fun q k a => by rw [e14, st_nq _ _ _ _ a]; exact o4 q k a) (fun k k0 k1 => by
            rw [ix] at k1
            by_cases hk : k = idxF G b13 p
            · rw [hk, e14, st_same, Int.toNat_natCast]
              exact ⟨by omega, tk, rfl⟩
            · rw [e14, st_nk _ _ _ hk]
              have w := k4 k k0 (by omega)
              exact ⟨by omega, w.2⟩) (fun s s0 s1 hs => by
            by_cases hsp : s = (p : Int)
            · subst hsp; rw [Int.toNat_natCast, e14, st_same]
            · have w := s4 s s0 (by omega) hs
              have mo := idx_mono G b13 (s.toNat + 1) (p - (s.toNat + 1))
              rw [show s.toNat + 1 + (p - (s.toNat + 1)) = p by omega] at mo
              have ie : idxF G b13 (s.toNat + 1) = idxF G b13 s.toNat + 1 := by
                show idxF G b13 s.toNat + (if G (b13 + 2) (s.toNat : Int) = -1 then 0 else 1) = _
                rw [show ((s.toNat : Nat) : Int) = s by omega, if_neg hs]
              rw [e14, st_nk _ _ _ (by omega)]
              exact w)
          rw [ix] at y
          exact y
        · have tk : G (b13 + 2) (p : Int) = -1 := by omega
          rw [if_pos tk] at ix
          have y := ih (p + 1) G4 (by omega) o4 (fun k k0 k1 => by
            rw [ix, Int.add_zero] at k1
            have w := k4 k k0 k1
            exact ⟨by omega, w.2⟩) (fun s s0 s1 hs => by
            by_cases hsp : s = (p : Int)
            · subst hsp; exact absurd tk hs
            · exact s4 s s0 (by omega) hs)
          rw [ix, Int.add_zero] at y
          exact y
    exact key (G b13 6).toNat 0 G3 (by omega) (fun _ _ _ => rfl) (fun k a b => absurd b (by show ¬ k < 0; omega)) (fun s a b => by omega)
  exact ⟨fun y => ⟨by omega, mY _ (fun z => absurd z y) (fun _ => kv.2 w (by omega) (by omega))⟩, fun y => mY _ (fun _ => kv.1) (fun z => absurd z y)⟩
end SEATEDQ
