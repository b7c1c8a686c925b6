noncomputable def pCup (t : Int → Int) (n : Int) (r : PR) : PR := bnd (pV t n (fun _ => 0) (fun D => D 0 6 - 1) (pSeat t n 1 (pW t n 26 r))) (fun b D => .inr (b, st D 3 (D 30 0) 1))
/-- the number read last is kept -/
def pK1 (r : PR) : PR := bnd r (fun b D => .inr (b, st D 30 1 (D 30 0)))
def shD (D : Mem) (a z : Int) : Mem := fun q k => if q = 4 ∧ a ≤ k ∧ k ≤ z then 1 else D q k
noncomputable def pShut (t : Int → Int) (n w : Int) (r : PR) : PR := bnd (pV t n (fun D => D 30 1) (fun _ => 71) (pW t n 8 (pK1 (pV t n (fun _ => 0) (fun _ => 71) (pW t n w r))))) (fun b D => .inr (b, shD D (D 30 1) (D 30 0)))
noncomputable def pPr (t : Int → Int) (n : Int) : Nat → PR → PR
  | 0, r => r
  | k + 1, r => pPr t n k (pN t n (fun _ => 0) (fun _ => 99) (fun _ => 5) (fun _ => 3 - (k : Int)) r)
section LINES
variable {d : Nat} {G G' G0 : Mem} {Q : Int → Mem → Prop} {X : Mem → Prop} {t : Int → Int} {n b K cc : Int} {D : Mem} {r : PR}
theorem c_cup (hO : TpO t n) (hX : RdX K cc t n G0 r G) (h : ∀ G2, RdX K cc t n G0 (pCup t n r) G2 → Q 0 G2) : Ct (d + 8) M_X5_readCup NT 0 0 (some lay) [(2, 3)] G Q := by
  refine ctof (s_X5_readCup_0 (c_rdWord hO hX (by omega) (fun G1 h1 => c_seat hO h1 (Or.inr rfl) (fun v G3 h3 hv => ?_))))
  have eC : pCup t n r = bnd (pV t n (fun _ => 0) (fun D => D 0 6 - 1) (pSeat t n 1 (pW t n 26 r))) (fun b D => .inr (b, st D 3 (D 30 0) 1)) := rfl
  rw [eC] at h
  generalize pV t n (fun _ => 0) (fun D => D 0 6 - 1) (pSeat t n 1 (pW t n 26 r)) = r' at *
  rcases pr_cases r' with ⟨e, rfl⟩ | ⟨b, D, rfl⟩
  · have i := h3.inl
    exact ⟨h3.f34, fun _ => h G3 h3, fun x => absurd (show G3 3 4 ≠ 0 by rw [i.1]; exact i.2.1) x⟩
  · obtain ⟨a, a0, ak, ac, ad⟩ := h3.inr
    obtain ⟨v1, v2, v3⟩ := hv b D rfl
    refine ⟨h3.f34, fun x => absurd a x, fun _ b7 e7 => ?_⟩
    rw [h3.1.2.2.2.1] at e7
    subst e7
    refine ⟨h3.1.1, by omega, fun G11 e11 => h G11 ?_⟩
    rw [e11, bnd_r, ← v1]
    exact RdX.put h3 (by omega) (by omega) (by omega) (dok_3 ad (by omega))
theorem RdX.k1 (h : RdX K cc t n G0 r G) : RdX K cc t n G0 (pK1 r) G := by
  rcases pr_cases r with ⟨e, rfl⟩ | ⟨b, D, rfl⟩
  · exact h
  · obtain ⟨a, a0, ak, ac, ad⟩ := h.inr
    have e : ∀ q k : Int, q ≠ 30 → st D 30 1 (D 30 0) q k = D q k := fun q k z => st_nq _ _ _ _ z
    exact RdX.mk h.1 a a0 ak ⟨fun q k q0 q1 => (ac.1 q k q0 q1).trans (e _ _ (by omega)).symm, fun k => (ac.2.1 k).trans (e _ _ (by omega)).symm, fun k => (ac.2.2 k).trans (e _ _ (by omega)).symm⟩ (dok_st ad (by decide))
theorem c_shut {w : Int} (hO : TpO t n) (hw : 0 ≤ w ∧ w < 32) (hX : RdX K cc t n G0 r G) (h : ∀ G2, RdX K cc t n G0 (pShut t n w r) G2 → Q 0 G2) : Ct (d + 7) M_X5_readShut NT 0 0 (some lay) [(2, 3), (0, w)] G Q := by
  refine ctof (s_X5_readShut_0 (c_rdWord hO hX hw (fun G1 h1 => c_rdNum (lo := fun _ => 0) (hi := fun _ => 71) hO h1 (fun _ _ _ => ⟨rfl, rfl, by decide, by decide⟩) (fun v G3 h3 hv hv2 _ => c_rdWord hO h3.k1 (by omega) (fun G5 h5 => ?_)))))
  have eS : pShut t n w r = bnd (pV t n (fun D => D 30 1) (fun _ => 71) (pW t n 8 (pK1 (pV t n (fun _ => 0) (fun _ => 71) (pW t n w r))))) (fun b D => .inr (b, shD D (D 30 1) (D 30 0))) := rfl
  rw [eS] at h
  have pk : PI (pW t n 8 (pK1 (pV t n (fun _ => 0) (fun _ => 71) (pW t n w r)))) (fun D => D 30 1 = v ∧ 0 ≤ v ∧ v ≤ 71) := by
    refine PI_W (fun b D e => ?_)
    rcases pr_cases (pV t n (fun _ => 0) (fun _ => 71) (pW t n w r)) with ⟨x, hx⟩ | ⟨b2, D2, hx⟩
    · rw [hx] at e; cases e
    · obtain ⟨y1, y2, y3⟩ := hv b2 D2 hx
      rw [hx] at e
      cases e
      exact ⟨by rw [st_same]; exact y1.symm, y2, y3⟩
  generalize pW t n 8 (pK1 (pV t n (fun _ => 0) (fun _ => 71) (pW t n w r))) = r1 at *
  have vr : 0 ≤ v ∧ v ≤ 71 := by
    rcases pr_cases (pV t n (fun _ => 0) (fun _ => 71) (pW t n w r)) with ⟨x, hx⟩ | ⟨b2, D2, hx⟩
    · have := hv2 x hx; omega
    · obtain ⟨y1, y2, y3⟩ := hv b2 D2 hx; omega
  refine c_rdNum (lo := fun D => D 30 1) (hi := fun _ => 71) hO h5 (fun b D e => ⟨(pk b D e).1, rfl, by omega, by decide⟩) (fun z G7 h7 hz hz2 _ => ?_)
  have zr : -2147483648 ≤ z ∧ z ≤ 71 := by
    rcases pr_cases (pV t n (fun D => D 30 1) (fun _ => 71) r1) with ⟨x, hx⟩ | ⟨b2, D2, hx⟩
    · have := hz2 x hx; omega
    · obtain ⟨y1, y2, y3⟩ := hz b2 D2 hx; omega
  rcases pr_cases (pV t n (fun D => D 30 1) (fun _ => 71) r1) with ⟨e, he⟩ | ⟨b, D, he⟩
  · rw [he] at h7 h
    have i := h7.inl
    exact s_X5_readShut_30 ⟨by omega, by omega, fun _ => h G7 h7, fun _ => ⟨h7.f34, fun _ => h G7 h7, fun y => absurd (show G7 3 4 ≠ 0 by rw [i.1]; exact i.2.1) y⟩⟩
  · obtain ⟨z1, z2, z3⟩ := hz b D he
    have d1 : D 30 1 = v := by
      rcases pr_cases r1 with ⟨x, rfl⟩ | ⟨b3, D3, rfl⟩
      · cases he
      · obtain ⟨u, -, -, e2, -, -, -⟩ := pV_inr he
        rw [e2, st_nk _ _ _ (by decide)]
        exact (pk b3 D3 rfl).1
    rw [he, bnd_r, d1, ← z1] at h
    rw [he] at h7
    have key : ∀ (k : Nat) (x : Int) (G9 : Mem), (z + 1 - x).toNat = k → v ≤ x → x ≤ z + 1 → RdX K cc t n G0 (.inr (b, shD D v (x - 1))) G9 → Rn (d + 7) M_X5_readShut zN 30 [(0, (2, 3)), (3, (0, z)), (4, (0, x))] [] G9 Q := by
      intro k
      induction k with
      | zero =>
        intro x G9 hk x0 x1 h9
        obtain rfl : x = z + 1 := by omega
        refine s_X5_readShut_30 ⟨by omega, by omega, fun _ => h G9 ?_, fun y => absurd (by omega) y⟩
        rwa [show z + 1 - 1 = z by omega] at h9
      | succ k ih =>
        intro x G9 hk x0 x1 h9
        have i := h9.inr
        refine s_X5_readShut_30 ⟨by omega, by omega, fun y => absurd y (by omega), fun _ => ⟨h9.f34, fun y => absurd i.1 y, fun _ b6 e6 => ?_⟩⟩
        rw [h9.1.2.2.2.1] at e6
        subst e6
        refine ⟨h9.1.1, by omega, fun G10 e10 => ih (x + 1) G10 (by omega) (by omega) (by omega) ?_⟩
        have e : shD D v (x + 1 - 1) = st (shD D v (x - 1)) 4 x 1 := by
          funext q j
          unfold shD st
          by_cases hj : q = 4 ∧ j = x
          · rw [if_pos (by omega), if_pos hj]
          · rw [if_neg hj]
            show (if q = 4 ∧ v ≤ j ∧ j ≤ x + 1 - 1 then 1 else D q j) = if q = 4 ∧ v ≤ j ∧ j ≤ x - 1 then 1 else D q j
            by_cases hc : q = 4 ∧ v ≤ j ∧ j ≤ x - 1
            · rw [if_pos hc, if_pos (show q = 4 ∧ v ≤ j ∧ j ≤ x + 1 - 1 by omega)]
            · rw [if_neg hc, if_neg (show ¬ (q = 4 ∧ v ≤ j ∧ j ≤ x + 1 - 1) by omega)]
        rw [e10, e]
        exact RdX.put h9 (by omega) (by omega) (by omega) (dok_st i.2.2.2.2 (by decide))
    refine key _ v G7 rfl (by omega) (by omega) ?_
    have e : shD D v (v - 1) = D := by
      funext q j
      unfold shD
      rw [if_neg (by omega)]
    rw [e]
    exact h7
theorem c_prices (hO : TpO t n) (hX : RdX K cc t n G0 r G) (h : ∀ G2, RdX K cc t n G0 (pPr t n 4 (pW t n 11 r)) G2 → Q 0 G2) : Ct (d + 7) M_X5_readPrices NT 0 0 (some lay) [(2, 3)] G Q := by
  refine ctof (s_X5_readPrices_0 (c_rdWord hO hX (by omega) (fun G1 h1 => ?_)))
  have key : ∀ (k i : Nat) (r : PR) (G1 : Mem), i + k = 4 → RdX K cc t n G0 r G1 → (∀ G2, RdX K cc t n G0 (pPr t n k r) G2 → Q 0 G2) → Rn (d + 7) M_X5_readPrices zN 8 [(0, (2, 3)), (1, (0, (i : Int)))] [] G1 Q := by
    intro k
    induction k with
    | zero =>
      intro i r G1 hi h1 h
      refine s_X5_readPrices_8 (fun b1 e1 => ?_)
      rw [h1.1.2.2.2.1] at e1
      subst e1
      exact ⟨h1.1.1, by omega, fun _ => h G1 h1, fun x => absurd (by omega) x⟩
    | succ k ih =>
      intro i r G1 hi h1 h
      refine s_X5_readPrices_8 (fun b1 e1 => ?_)
      rw [h1.1.2.2.2.1] at e1
      subst e1
      refine ⟨h1.1.1, by omega, fun x => absurd x (by omega), fun _ b6 e6 => ?_⟩
      rw [h1.1.2.2.2.1] at e6
      subst e6
      have nx := c_num (d := d) (lo := fun _ => 0) (hi := fun _ => 99) (q := fun _ => 5) (k := fun _ => 3 - (k : Int)) (l := 0) (m := 99) (c0 := b6 + 5) (q0 := 5) (k0 := (i : Int)) (X := fun G8 => Rn (d + 7) M_X5_readPrices zN 8 [(0, (2, 3)), (1, (0, (i : Int) + 1))] [] G8 Q) hO h1 rfl (by omega) (by omega) (by omega) (fun _ _ _ => ⟨rfl, rfl, by decide, by decide⟩) (fun _ _ _ _ => ⟨rfl, by show 3 - (k : Int) = (i : Int); omega⟩) (fun _ _ v _ _ _ hd => dok_st (dok_st hd (by decide)) (by decide)) (fun G8 h8 => by
        have y := ih (i + 1) _ G8 (by omega) h8 h
        rwa [show ((i + 1 : Nat) : Int) = (i : Int) + 1 by omega] at y)
      exact ⟨h1.1.1, nx.mono (fun v G9 hh => ⟨by omega, fun G12 e12 => hh G12 e12⟩)⟩
  exact key 4 0 _ G1 rfl h1 h
end LINES
