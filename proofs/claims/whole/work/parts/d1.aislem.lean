section AISLEM
variable {d : Nat} {S T T1 T2 G G' M : Mem} {Q : Int → Mem → Prop} {c : Int} {fs : Int → Law} {s r : Int}
theorem c_ownPence (hR : Cu S G c) (hL : LawsR S G c 0 fs) (hT : FlOk S c T) (hd : T 19 11 = 0) (hs : 0 ≤ s ∧ s < S c 8) (hs' : HMs S c T G) (hg : G 311 67 = 0 ∧ G 311 66 = -1) (h : ∀ G2, HmF G G2 → HM S c 0 (G 311 64) 0 (-1) (flyT S c fs (-1) T) G2 → Q (pAs S c s (flyT S c fs (-1) T)) G2) : Ct (d + 9) M_X12_ownPence NT 0 0 (some lay) [(2, 311), (0, s)] G Q := by
  have r := hR.rng
  refine ctof (s_X12_ownPence_0 (c_pence_M hR hL hT hd (by decide) hs' hg (fun G5 f5 h5 => ⟨by omega, ?_⟩)))
  have p0 := (hR.price (k := 0) (by omega) (by omega)).1
  have p2 := (hR.price (k := 2) (by omega) (by omega)).1
  simp only [Int.add_zero, Int.reduceAdd] at p0 p2
  have a := h5.1 s hs.1 hs.2
  rw [f5 313 3 (by decide) (by decide) (by decide), f5 313 5 (by decide) (by decide) (by decide), p0, p2, a.2.2.2.2.2.1, a.2.2.2.2.2.2]
  exact h G5 f5 h5
theorem m_aisle (hR : Cu S G c) (hL : LawsR S G c 0 fs) (is : InR s) (h1 : 0 ≤ s ∧ s < S c 8 → AisR S c fs s r ∧ ∀ G2, MlF G G2 → G2 311 0 = 0 → Q r G2) (h0 : ¬ (0 ≤ s ∧ s < S c 8) → ∀ G2, MlF G G2 → G2 311 0 = 1 → Q 0 G2) : Ct (d + 10) M_X12_aisle NT 0 0 (some lay) [(2, 311), (0, s)] G Q := by
  have rg := hR.rng
  have se := hR.seats
  have put0 : ∀ v, MlF G (st G 311 0 v) := fun v => ⟨fun q k _ b => st_ne _ _ (by omega), fun q k a => st_ne _ _ (by omega)⟩
  refine ctof (s_X12_aisle_0 (c_isSitter hR is (fun q => ⟨by decide, fun z => absurd z (by decide), fun _ => s_X12_aisle_14 (fun G1 e1 => ⟨by rw [e1, st_same]; decide, fun _ => ?_, fun z => absurd (by rw [e1, st_same]; decide) z⟩)⟩) (fun q => ⟨by decide, fun _ => s_X12_aisle_14 (fun G1 e1 => ⟨by rw [e1, st_same]; decide, fun z => absurd (by rw [e1, st_same]) z, fun _ => h0 q G1 (by rw [e1]; exact put0 1) (by rw [e1, st_same])⟩), fun z => absurd rfl z⟩)))
  obtain ⟨⟨T1, T2, e, ⟨fl1, d1, on1⟩, ⟨fl2, d2, ⟨e0, e1'⟩, eo, en, on2⟩, hr⟩, h1⟩ := h1 q
  have m1 : MlF G G1 := by rw [e1]; exact put0 0
  have o1 : ∀ q k : Int, ¬ (q = 311 ∧ k = 0) → G1 q k = G q k := fun q k a => by rw [e1, st_ne _ _ a]
  have z1 : G1 311 0 = 0 := by rw [e1, st_same]
  have hR1 := hR.ext (G' := G1) (fun q k hq => o1 q k (by omega))
  have hL1 := hL.ext (G' := G1) (fun q k hq => o1 q k (by omega))
  refine c_seatsAll hR1 (fun G4 f4 a4 b4 m4 n4 => ?_)
  have hR4 := hR1.ext f4.cor
  have hL4 := hL1.ext f4.cor
  obtain ⟨k1, k2, k3, k4⟩ := flyT_ok (fs := fs) (th := -1) hR fl1
  have seat : ∀ p, 0 ≤ p → p < S c 8 → S (c + 13 + p) 1 < S c 6 ∧ 0 ≤ S (c + 13 + p) 1 ∧ S (c + 2) (S (c + 13 + p) 1) = p := fun p p0 p1 => by
    have a := hR.seat p0 p1
    have b := (hR.sok p0 p1).2.1
    exact ⟨a.1, b.1, a.2⟩
  have hms4 : HMs S c T1 G4 := by
    refine ⟨fun k k0 k1 => ⟨by rw [a4 k k0 (by omega), on1 k k0 (by omega)], fun z => ?_⟩, fun z => by omega⟩
    rw [on1 k k0 (by omega)] at z ⊢
    have on := hR.on k0 (show k < 5 by omega)
    rw [b4 _ z (by omega)]
    omega
  refine c_ownPence (d := d) hR4 hL4 fl1 d1 q hms4 ⟨n4, m4⟩ (fun G6 f6 h6 => ?_)
  have hR6 := hR4.ext f6.cor
  have hL6 := hL4.ext f6.cor
  have c0 : G6 313 0 = S c 6 := hR6.seats.1
  have s350 : ∀ k, 0 ≤ k → k < S c 6 → G6 350 k = T1 31 k := fun k k0 k1 => by rw [(h6.2.2.2.1 k k0 k1).1]; exact k3 k
  have s349 : ∀ k, 0 ≤ k → k < S c 6 → 0 ≤ T1 31 k → G6 349 (T1 31 k) = k := fun k k0 k1 z => by
    have := (h6.2.2.2.1 k k0 k1).2
    rw [k3 k] at this
    exact this z
  have ss := seat s q.1 q.2
  have ts : T1 31 (S (c + 13 + s) 1) = s := by rw [on1 _ ss.2.1 (by omega)]; exact ss.2.2
  have sa : G6 349 s = S (c + 13 + s) 1 := by
    have := s349 (S (c + 13 + s) 1) ss.2.1 ss.1 (by omega)
    rwa [ts] at this
  have to := fl1.1 e e0 e1'
  have o6 := s349 e e0 e1' eo
  rw [c0]
  have key : ∀ (k : Nat) (x : Int), x = e + (k : Int) → x < S c 6 → Rn (d + 10) M_X12_aisle zN 46 [(0, (2, 311)), (1, (0, s)), (2, (0, pAs S c s (flyT S c fs (-1) T1))), (3, (0, x))] [] G6 Q := by
    intro k
    induction k with
    | zero =>
      intro x hx x1
      obtain rfl : x = e := by omega
      refine s_X12_aisle_46 ⟨by omega, by rw [s350 x e0 e1']; omega, fun _ => ⟨by omega, by rw [sa]; omega, fun G7 e7 => ⟨by rw [s350 x e0 e1']; omega, fun G8 e8 G9 e9 G10 e10 => ?_⟩⟩, fun z => absurd (by rw [s350 x e0 e1']; exact eo) z⟩
      rw [sa, s350 x e0 e1'] at e7
      rw [e7, st_nq _ _ _ _ (by decide), sa, ← e7, s350 x e0 e1'] at e8
      have f10 : ∀ q k : Int, q ≠ 349 → q ≠ 350 → G10 q k = G6 q k := fun q k a b => by rw [e10, st_nq _ _ _ _ a, e9, st_nq _ _ _ _ b, e8, st_nq _ _ _ _ a, e7, st_nq _ _ _ _ b]
      have g350 : ∀ k, G10 350 k = if k = x then s else if k = S (c + 13 + s) 1 then T1 31 x else G6 350 k := fun k => by
        rw [e10, st_nq _ _ _ _ (by decide), e9]
        by_cases q1 : k = x
        · rw [q1, st_same, if_pos rfl]
        · rw [st_nk _ _ _ q1, if_neg q1, e8, st_nq _ _ _ _ (by decide), e7]
          by_cases q2 : k = S (c + 13 + s) 1
          · rw [q2, st_same, if_pos rfl]
          · rw [st_nk _ _ _ q2, if_neg q2]
      have g349 : ∀ p, G10 349 p = if p = s then x else if p = T1 31 x then S (c + 13 + s) 1 else G6 349 p := fun p => by
        rw [e10]
        by_cases q1 : p = s
        · rw [q1, st_same, if_pos rfl]
        · rw [st_nk _ _ _ q1, if_neg q1, e9, st_nq _ _ _ _ (by decide), e8]
          by_cases q2 : p = T1 31 x
          · rw [q2, st_same, if_pos rfl]
          · rw [st_nk _ _ _ q2, if_neg q2, e7, st_nq _ _ _ _ (by decide)]
      have hms : HMs S c T2 G10 := by
        refine ⟨fun k k0 k1 => ?_, fun z => by omega⟩
        rw [g350, on2 k k0 (by omega)]
        by_cases q1 : k = x
        · rw [if_pos q1, if_pos q1]
          exact ⟨rfl, fun _ => by rw [g349, if_pos rfl, q1]⟩
        · rw [if_neg q1, if_neg q1]
          by_cases q2 : k = S (c + 13 + s) 1
          · rw [if_pos q2, if_pos q2]
            refine ⟨rfl, fun _ => ?_⟩
            rw [g349, if_neg (fun z => q1 (by rw [z, sa] at o6; omega)), if_pos rfl, q2]
          · rw [if_neg q2, if_neg q2, s350 k k0 k1]
            refine ⟨rfl, fun z => ?_⟩
            have a := s349 k k0 k1 z
            rw [g349, if_neg (fun y => q2 (by rw [y, sa] at a; omega)), if_neg (fun y => q1 (by rw [y, o6] at a; omega))]
            exact a
      have hR10 := hR6.ext (G' := G10) (fun q k hq => f10 q k (by omega) (by omega))
      have hL10 := hL6.ext (G' := G10) (fun q k hq => f10 q k (by omega) (by omega))
      refine c_ownPence (d := d) hR10 hL10 fl2 d2 q hms ⟨by rw [f10 _ _ (by decide) (by decide), h6.2.2.1.1, k4]; exact d1, by rw [f10 _ _ (by decide) (by decide)]; exact h6.2.2.1.2.2⟩ (fun G12 f12 _ => ?_)
      rw [← hr]
      have m10 : MlF G6 G10 := ⟨fun q k _ b => f10 q k (by omega) (by omega), fun q k a => f10 q k (by omega) (by omega)⟩
      refine h1 G12 ((((m1.tr f4.ml).tr f6.ml).tr m10).tr f12.ml) ?_
      rw [f12 311 0 (by decide) (by decide) (by decide), f10 311 0 (by decide) (by decide), f6 311 0 (by decide) (by decide) (by decide), f4 311 0 (by decide) (by decide) (by decide)]
      exact z1
    | succ k ih =>
      intro x hx x1
      have t := en x (by omega) x1
      have g := s350 x (by omega) x1
      refine s_X12_aisle_46 ⟨by omega, by omega, fun z => absurd z (by omega), fun _ => ?_⟩
      exact ih (x + -1) (by omega) (by omega)
  exact key (S c 6 - 1 - e).toNat (S c 6 - 1) (by omega) (by omega)
theorem m_beer (hR : Cu S G c) (hL : LawsR S G c 0 fs) (is : InR s) (h1 : (0 ≤ s ∧ s < S c 8) ∧ S (c + 13 + s) 2 < 9 → BeeR S c fs s r ∧ ∀ G2, MlF G G2 → G2 311 0 = 0 → Q r G2) (h0 : ¬ ((0 ≤ s ∧ s < S c 8) ∧ S (c + 13 + s) 2 < 9) → ∀ G2, MlF G G2 → G2 311 0 = 1 → Q 0 G2) : Ct (d + 10) M_X12_beer NT 0 0 (some lay) [(2, 311), (0, s)] G Q := by
  have rg := hR.rng
  have put0 : ∀ v, MlF G (st G 311 0 v) := fun v => ⟨fun q k _ b => st_ne _ _ (by omega), fun q k a => st_ne _ _ (by omega)⟩
  have bad : ¬ ((0 ≤ s ∧ s < S c 8) ∧ S (c + 13 + s) 2 < 9) → Rn (d + 10) M_X12_beer zN 25 [(0, (2, 311)), (1, (0, s))] [(0, 1), (2, 311)] G Q := fun q => s_X12_beer_25 (fun G1 e1 => ⟨by rw [e1, st_same]; decide, fun z => absurd (by rw [e1, st_same]) z, fun _ => h0 q G1 (by rw [e1]; exact put0 1) (by rw [e1, st_same])⟩)
  refine ctof (s_X12_beer_0 (c_isSitter hR is (fun q => ⟨by decide, fun z => absurd z (by decide), fun _ => ?_⟩) (fun q => ⟨by decide, fun _ => bad (fun z => q z.1), fun z => absurd rfl z⟩)))
  have n2 := (hR.sit q.1 q.2).2.2.1
  have so := (hR.sok q.1 q.2).2.2.1
  refine ⟨by omega, by omega, fun z => bad (fun y => by omega), fun z => s_X12_beer_25 (fun G1 e1 => ⟨by rw [e1, st_same]; decide, fun _ => ?_, fun z => absurd (by rw [e1, st_same]; decide) z⟩)⟩
  obtain ⟨⟨T1, T2, ⟨fl1, d1, on1⟩, ⟨fl2, d2, on2⟩, hr⟩, h1⟩ := h1 ⟨q, by omega⟩
  have m1 : MlF G G1 := by rw [e1]; exact put0 0
  have o1 : ∀ q k : Int, ¬ (q = 311 ∧ k = 0) → G1 q k = G q k := fun q k a => by rw [e1, st_ne _ _ a]
  have z1 : G1 311 0 = 0 := by rw [e1, st_same]
  have hR1 := hR.ext (G' := G1) (fun q k hq => o1 q k (by omega))
  have hL1 := hL.ext (G' := G1) (fun q k hq => o1 q k (by omega))
  refine c_seatsAll hR1 (fun G4 f4 a4 b4 m4 n4 => ?_)
  have hR4 := hR1.ext f4.cor
  have hL4 := hL1.ext f4.cor
  obtain ⟨k1, k2, k3, k4⟩ := flyT_ok (fs := fs) (th := -1) hR fl1
  have hms : ∀ T, (∀ k, 0 ≤ k → k < 5 → T 31 k = S (c + 2) k) → T 19 11 = 0 → HMs S c T G4 := fun T on d11 => by
    refine ⟨fun k k0 k1 => ⟨by rw [a4 k k0 (by omega), on k k0 (by omega)], fun z => ?_⟩, fun z => by omega⟩
    rw [on k k0 (by omega)] at z ⊢
    have on := hR.on k0 (show k < 5 by omega)
    rw [b4 _ z (by omega)]
    omega
  refine c_pence_M hR4 hL4 fl1 d1 (by decide) (hms T1 on1 d1) ⟨n4, m4⟩ (fun G6 f6 h6 G8 e8 => ?_)
  have f8 : ∀ q k : Int, ¬ (q = 311 ∧ k = 66) → G8 q k = G6 q k := fun q k a => by rw [e8, st_ne _ _ a]
  have hR8 := (hR4.ext f6.cor).ext (G' := G8) (fun q k hq => f8 q k (by omega))
  have hL8 := (hL4.ext f6.cor).ext (G' := G8) (fun q k hq => f8 q k (by omega))
  have h4 := hms T2 on2 d2
  have hms8 : HMs S c T2 G8 := by
    refine ⟨fun k k0 k1 => ?_, fun z => by omega⟩
    rw [f8 350 _ (by omega), f8 349 _ (by omega), f6 350 _ (by omega) (by omega) (by omega), f6 349 _ (by omega) (by omega) (by omega)]
    exact h4.1 k k0 k1
  refine c_pence_M hR8 hL8 fl2 d2 is hms8 ⟨by rw [f8 _ _ (by decide), h6.2.2.1.1, k4]; exact d1, by rw [e8, st_same]⟩ (fun G12 f12 _ => ?_)
  rw [← hr]
  have m8 : MlF G6 G8 := ⟨fun q k _ b => f8 q k (by omega), fun q k a => f8 q k (by omega)⟩
  refine h1 G12 ((((m1.tr f4.ml).tr f6.ml).tr m8).tr f12.ml) ?_
  rw [f12 311 0 (by decide) (by decide) (by decide), f8 311 0 (by decide), f6 311 0 (by decide) (by decide) (by decide), f4 311 0 (by decide) (by decide) (by decide)]
  exact z1
end AISLEM
