noncomputable def pName (t : Int → Int) (n : Int) (r : PR) : PR := bnd r (fun b D => if tkd t n b ≠ 2 ∨ (0 ≤ widx (twd t n b) ∧ widx (twd t n b) < 28) then fl 1 b else @ite PR (∃ i, 0 ≤ i ∧ i < D 0 8 ∧ D 20 i = fR 32 (twd t n b)) (Classical.propDecidable _) (fl 3 b) (.inr (nxt t n b, if D 0 8 < 5 then st D 20 (D 0 8) (fR 32 (twd t n b)) else D)))
def pKind (t : Int → Int) (n i0 : Int) (r : PR) : PR := bnd r (fun b D => if tkd t n b ≠ 2 ∨ widx (twd t n b) < 16 ∨ 20 < widx (twd t n b) then fl 1 b else .inr (nxt t n b, st D (13 + i0) 0 (widx (twd t n b) - 16)))
def pSeat (t : Int → Int) (n f : Int) (r : PR) : PR := bnd r (fun b D => if tkd t n b = 3 ∧ tnm t n b < D 0 6 ∧ (if f = 0 then D 2 (tnm t n b) ≠ -1 else D 3 (tnm t n b) ≠ 0) then fl 3 b else .inr (b, D))
def pEnd (i0 : Int) (r : PR) : PR := bnd r (fun b D => if 5 ≤ D 0 8 then .inr (b, D) else .inr (b, st (st D 2 (D (13 + i0) 1) (D 0 8)) 0 8 (D 0 8 + 1)))
def pNf (t : Int → Int) (n i0 k : Int) (lo hi : Mem → Int) (r : PR) : PR := pN t n lo hi (fun _ => 13 + i0) (fun _ => k) r
noncomputable def pSit1 (t : Int → Int) (n i0 : Int) (r : PR) : PR := pNf t n i0 1 (fun _ => 0) (fun D => D 0 6 - 1) (pSeat t n 0 (pW t n 3 (pKind t n i0 (pName t n (pW t n 2 r)))))
noncomputable def pSit2 (t : Int → Int) (n i0 : Int) (r : PR) : PR := pNf t n i0 4 (fun _ => 1) (fun _ => 99) (pW t n 6 (pNf t n i0 3 (fun _ => 1) (fun _ => 99) (pW t n 5 (pNf t n i0 2 (fun _ => 0) (fun _ => 9) (pW t n 4 r)))))
noncomputable def pSit3 (t : Int → Int) (n i0 : Int) (r : PR) : PR := pNf t n i0 8 (fun D => D (13 + i0) 7) (fun _ => 72) (pW t n 8 (pNf t n i0 7 (fun _ => 0) (fun _ => 72) (pW t n 7 (pNf t n i0 6 (fun _ => 20) (fun _ => 40) (pW t n 25 (pNf t n i0 5 (fun _ => 0) (fun _ => 9) (pW t n 24 r)))))))
noncomputable def pSitI (t : Int → Int) (n i0 : Int) (r : PR) : PR := pEnd i0 (pSit3 t n i0 (pSit2 t n i0 (pSit1 t n i0 r)))
section SITTER
variable {d : Nat} {G G' G0 : Mem} {Q : Int → Mem → Prop} {X : Mem → Prop} {t : Int → Int} {n b K cc : Int} {D : Mem} {r : PR}
theorem pow32 {k : Nat} (h : k ≤ 8) : (32 : Int) ^ k ≤ 1099511627776 := by
  match k, h with
  | 0, _ => decide
  | 1, _ => decide
  | 2, _ => decide
  | 3, _ => decide
  | 4, _ => decide
  | 5, _ => decide
  | 6, _ => decide
  | 7, _ => decide
  | 8, _ => decide
theorem f32_in (h : tkd t n b = 2) : InL (fR 32 (twd t n b)) := by
  have ok := twd_ok h
  have b1 := fR_in (B := 32) (by decide) _ ok.1
  have b2 := pow32 ok.2
  omega
def PI (r : PR) (P : Mem → Prop) : Prop := ∀ b D, r = .inr (b, D) → P D
theorem PI_W {P : Mem → Prop} {w : Int} (h : PI r P) : PI (pW t n w r) P := by
  intro b' D' e
  rcases pr_cases r with ⟨x, rfl⟩ | ⟨b, D, rfl⟩
  · cases e
  · unfold pW at e
    rw [bnd_r] at e
    by_cases c : isW t n w b
    · rw [if_pos c] at e; cases e; exact h b _ rfl
    · rw [if_neg c] at e; cases e
theorem pV_inr {lo hi : Mem → Int} {b' : Int} {D' : Mem} (e : pV t n lo hi (.inr (b, D)) = .inr (b', D')) : ∃ v, lo D ≤ v ∧ v ≤ hi D ∧ D' = st D 30 0 v ∧ v = tnm t n b ∧ tkd t n b = 3 ∧ b' = nxt t n b := by
  unfold pV at e
  rw [bnd_r] at e
  by_cases c1 : tkd t n b ≠ 3
  · rw [if_pos c1] at e; cases e
  · rw [if_neg c1] at e
    by_cases c2 : tnm t n b < lo D ∨ hi D < tnm t n b
    · rw [if_pos c2] at e; cases e
    · rw [if_neg c2] at e
      cases e
      exact ⟨_, by omega, by omega, rfl, rfl, by omega, rfl⟩
theorem PI_N {P P' : Mem → Prop} {lo hi q k : Mem → Int} (h : PI r P) (hp : ∀ D v, P D → lo D ≤ v → v ≤ hi D → P' (st (st D 30 0 v) (q (st D 30 0 v)) (k (st D 30 0 v)) v)) : PI (pN t n lo hi q k r) P' := by
  intro b' D' e
  rcases pr_cases r with ⟨x, rfl⟩ | ⟨b, D, rfl⟩
  · cases e
  · unfold pN at e
    rcases pr_cases (pV t n lo hi (.inr (b, D))) with ⟨x, hx⟩ | ⟨b2, D2, hx⟩
    · rw [hx] at e; cases e
    · rw [hx, bnd_r] at e
      obtain ⟨v, v0, v1, e2, -, -, -⟩ := pV_inr hx
      cases e
      subst e2
      rw [st_same]
      exact hp D v (h b D rfl) v0 v1
theorem RdX.num {lo hi q k : Mem → Int} {v q0 k0 : Int} {G2 : Mem} (h2 : RdX K cc t n G0 (pV t n lo hi r) G2) (hv : ∀ b D, pV t n lo hi r = .inr (b, D) → v = D 30 0) (hq0 : 0 ≤ q0 ∧ q0 < 18) (hq6 : q0 ≠ 6) (hk8 : ¬ (q0 = 0 ∧ k0 = 8)) (hqk : ∀ b D, pV t n lo hi r = .inr (b, D) → q D = q0 ∧ k D = k0) (hd : ∀ b D, pV t n lo hi r = .inr (b, D) → DOk K D → DOk K (st D q0 k0 v)) : RdX K cc t n G0 (pN t n lo hi q k r) (st G2 (cc + q0) k0 v) := by
  unfold pN
  rcases pr_cases (pV t n lo hi r) with ⟨e, he⟩ | ⟨b', D', he⟩
  · rw [he] at h2 ⊢
    exact RdX.junk h2 (Or.inr (by omega)) (by omega) (by omega)
  · rw [he] at h2 ⊢
    rw [bnd_r, (hqk b' D' he).1, (hqk b' D' he).2, ← hv b' D' he]
    exact RdX.put h2 hq0 (by omega) (by omega) (hd b' D' he h2.inr.2.2.2.2)
/-- a name is put away -/
theorem RdX.put4 {v k : Int} (hX : RdX K cc t n G0 (.inr (b, D)) G) (hk : D 0 8 ≤ k) : RdX K cc t n G0 (.inr (b, st D 20 k v)) (st G 4 k v) := by
  have ccI := cc_in hX.1.1
  obtain ⟨a, a0, ak, ac, ad⟩ := hX.inr
  obtain ⟨B1, B2, B3, B4, B5, B6, B7⟩ := hX.1
  have e : ∀ x y : Int, x ≠ 4 → st G 4 k v x y = G x y := fun x y z => st_nq _ _ _ _ z
  refine RdX.mk ⟨B1, ⟨by rw [e 1 1 (by omega)]; exact B2.1, fun j j0 j1 => by rw [e 2 j (by omega)]; exact B2.2 j j0 j1⟩, by rw [e 3 2 (by omega)]; exact B3, by rw [e 3 3 (by omega)]; exact B4, by rw [e _ _ (by omega)]; exact B5, by rw [e _ _ (by omega)]; exact B6, fun x y z1 z2 z3 => (e x y (by omega)).trans (B7 x y z1 z2 z3)⟩ (by rw [e 3 4 (by omega)]; exact a) a0 ?_ ⟨fun x y x0 x1 => ?_, fun y => ?_, fun y => ?_⟩ ?_
  · obtain ⟨k1, k2, k3, k4, k5, k6⟩ := ak
    exact ⟨by rw [e 1 2 (by omega)]; exact k1, by rw [e 1 6 (by omega)]; exact k2, by rw [e 1 3 (by omega)]; exact k3, fun z => by rw [e 1 4 (by omega), e 1 5 (by omega)]; exact k4 z, fun z => by rw [e 1 4 (by omega)]; exact k5 z, fun z => by rw [e 1 4 (by omega)]; exact k6 z⟩
  · rw [e _ _ (by omega)]; exact (ac.1 x y x0 x1).trans (st_nq _ _ _ _ (by omega)).symm
  · by_cases hy : y = k
    · subst hy; rw [st_same, st_same]
    · rw [st_nk _ _ _ hy, st_nk _ _ _ hy]; exact ac.2.1 y
  · rw [e _ _ (by omega)]; exact (ac.2.2 y).trans (st_nq _ _ _ _ (by omega)).symm
  · obtain ⟨h6, h7, h8, h9, h10, h2, h3, h66, h20, h21⟩ := ad
    have s : ∀ x y : Int, x ≠ 20 → st D 20 k v x y = D x y := fun x y z => st_nq _ _ _ _ z
    refine ⟨by rw [s 0 6 (by omega)]; exact h6, by rw [s 0 7 (by omega)]; exact h7, by rw [s 0 8 (by omega)]; exact h8, by rw [s 0 9 (by omega)]; exact h9, by rw [s 0 10 (by omega)]; exact h10, fun i i0 i1 => by rw [s 2 i (by omega)]; exact h2 i i0 i1, fun i i0 i1 => by rw [s 3 i (by omega)]; exact h3 i i0 i1, by rw [s 6 6 (by omega)]; exact h66, fun i i0 i1 => ?_, fun y y0 y1 => by rw [s 21 y (by omega)]; exact h21 y y0 y1⟩
    rw [s 0 8 (by omega)] at i1
    rw [st_nk _ _ _ (by omega)]; exact h20 i i0 i1
theorem c_name (hO : TpO t n) (hX : RdX K cc t n G0 r G) (h : ∀ G2, RdX K cc t n G0 (pName t n r) G2 → Q 0 G2) : Ct (d + 6) M_X5_readName NT 0 0 (some lay) [(2, 3)] G Q := by
  rcases pr_cases r with ⟨e, rfl⟩ | ⟨b, D, rfl⟩
  · obtain ⟨a, a0, a1⟩ := hX.inl
    exact ctof (s_X5_readName_0 ⟨hX.f34, fun x => absurd x (by omega), fun _ => h G hX⟩)
  · obtain ⟨a, a0, ak, ac, ad⟩ := hX.inr
    have ccI := cc_in hX.1.1
    have kr := tkd_r (t := t) (n := n) (b := b)
    have wi := widx_in (twd t n b)
    have e0 : pName t n (.inr (b, D)) = if tkd t n b ≠ 2 ∨ (0 ≤ widx (twd t n b) ∧ widx (twd t n b) < 28) then fl 1 b else @ite PR (∃ i, 0 ≤ i ∧ i < D 0 8 ∧ D 20 i = fR 32 (twd t n b)) (Classical.propDecidable _) (fl 3 b) (.inr (nxt t n b, if D 0 8 < 5 then st D 20 (D 0 8) (fR 32 (twd t n b)) else D)) := rfl
    rw [e0] at h
    have L32 : (tkd t n b ≠ 2 ∨ (0 ≤ widx (twd t n b) ∧ widx (twd t n b) < 28)) → Rn (d + 6) M_X5_readName zN 32 [(0, (2, 3))] [] G Q := fun z => by
      rw [if_pos z] at h
      exact s_X5_readName_32 (c_wrongX hX hO.1.2 (by omega) (fun G2 h2 => h G2 h2))
    refine ctof (s_X5_readName_0 ⟨by omega, fun _ => ⟨hX.1.2.2.1, ?_⟩, fun x => absurd a x⟩)
    rw [ak.2.2.1]
    refine ⟨by omega, fun x => L32 (Or.inl x), fun x => ?_⟩
    have k2 : tkd t n b = 2 := by omega
    have fi := f32_in k2
    obtain ⟨x4, x5⟩ := ak.2.2.2.1 k2
    have m8 : G cc 8 = D 0 8 := by have := ac.1 0 8 (by omega) (by omega); rwa [Int.add_zero] at this
    have m5 := ad.2.2.1
    have g3 := hX.1.2.2.2.1
    have key : ¬ (0 ≤ widx (twd t n b) ∧ widx (twd t n b) < 28) → ∀ (k i : Nat), i + k = (D 0 8).toNat → (∀ j, 0 ≤ j → j < (i : Int) → D 20 j ≠ fR 32 (twd t n b)) → Rn (d + 6) M_X5_readName zN 40 [(0, (2, 3)), (1, (0, (i : Int)))] [] G Q := by
      intro nr k
      rw [if_neg (by omega)] at h
      have toS : ∀ G1 D1, RdX K cc t n G0 (.inr (b, D1)) G1 → (∀ G2, RdX K cc t n G0 (.inr (nxt t n b, D1)) G2 → Q 0 G2) → Rn (d + 6) M_X5_readName zN 110 [(0, (2, 3))] [] G1 Q := fun G1 D1 h1 hh => by
        obtain ⟨b1, b2, b3, b4, b5⟩ := h1.inr
        exact s_X5_readName_110 ⟨h1.1.2.2.1, c_stepX hO h1.1 b2 b1 b3 b4 b5 (fun G2 h2 _ => hh G2 h2)⟩
      induction k with
      | zero =>
        intro i hi hn
        refine s_X5_readName_40 (fun b1 e1 => ?_)
        rw [g3] at e1
        subst e1
        rw [m8]
        refine ⟨hX.1.1, by omega, by omega, fun _ b7 e7 => ?_, fun x => absurd (by omega) x⟩
        rw [g3] at e7
        subst e7
        rw [m8]
        rw [if_neg (fun z => by obtain ⟨j, j0, j1, j2⟩ := z; exact hn j j0 (by omega) j2)] at h
        refine ⟨hX.1.1, by omega, fun y => ?_, fun y b12 e12 => ?_⟩
        · rw [if_neg (by omega)] at h
          exact toS G D hX h
        · rw [g3] at e12
          subst e12
          rw [m8, x5]
          rw [if_pos (by omega)] at h
          refine ⟨hX.1.1, hX.1.2.2.1, by omega, fun G17 e17 => toS G17 _ ?_ h⟩
          rw [e17]
          exact RdX.put4 hX (by omega)
      | succ k ih =>
        intro i hi hn
        refine s_X5_readName_40 (fun b1 e1 => ?_)
        rw [g3] at e1
        subst e1
        have g4 : G 4 (i : Int) = D 20 (i : Int) := ac.2.1 _
        have il := ad.2.2.2.2.2.2.2.2.1 (i : Int) (by omega) (by omega)
        rw [m8, g4, x5]
        refine ⟨hX.1.1, by omega, by omega, fun x => absurd x (by omega), fun _ => ⟨by omega, hX.1.2.2.1, il, fi, fun y => ?_, fun y => ?_⟩⟩
        · refine ih (i + 1) (by omega) (fun j j0 j1 => ?_)
          by_cases hj : j = (i : Int)
          · rw [hj]; exact y
          · exact hn j j0 (by omega)
        · rw [if_pos ⟨(i : Int), by omega, by omega, Decidable.not_not.mp y⟩] at h
          exact c_wrongX hX hO.1.2 (by omega) (fun G2 h2 => h G2 h2)
    rw [x4]
    exact ctof (s_X10_reserved_0 ⟨by omega, fun y => ⟨by omega, fun _ => key (by omega) (D 0 8).toNat 0 (by omega) (fun j a b => absurd b (by omega)), fun z => absurd rfl z⟩, fun y => ⟨fun z => ⟨by omega, fun _ => key (by omega) (D 0 8).toNat 0 (by omega) (fun j a b => absurd b (by omega)), fun z => absurd rfl z⟩, fun z => ⟨by omega, fun u => absurd u (by decide), fun _ => L32 (Or.inr (by omega))⟩⟩⟩)
theorem c_kind {i0 p0 : Int} (hO : TpO t n) (hX : RdX K cc t n G0 r G) (hi : 0 ≤ i0 ∧ i0 < 5) (hp : p0 = cc + 13 + i0) (h : ∀ G2, RdX K cc t n G0 (pKind t n i0 r) G2 → Q 0 G2) : Ct (d + 6) M_X5_readKind NT 0 0 (some lay) [(2, 3), (2, p0)] G Q := by
  have bp : Bs 7 p0 := by rw [hp]; exact (el_1_0 hX.1.1 hi.1 (by omega)).2.2
  rcases pr_cases r with ⟨e, rfl⟩ | ⟨b, D, rfl⟩
  · obtain ⟨a, a0, a1⟩ := hX.inl
    exact ctof (s_X5_readKind_0 bp ⟨hX.f34, fun x => absurd x (by omega), fun _ => h G hX⟩)
  · obtain ⟨a, a0, ak, ac, ad⟩ := hX.inr
    have ccI := cc_in hX.1.1
    have kr := tkd_r (t := t) (n := n) (b := b)
    have wi := widx_in (twd t n b)
    have e0 : pKind t n i0 (.inr (b, D)) = if tkd t n b ≠ 2 ∨ widx (twd t n b) < 16 ∨ 20 < widx (twd t n b) then fl 1 b else .inr (nxt t n b, st D (13 + i0) 0 (widx (twd t n b) - 16)) := rfl
    rw [e0] at h
    have L43 : (tkd t n b ≠ 2 ∨ widx (twd t n b) < 16 ∨ 20 < widx (twd t n b)) → Rn (d + 6) M_X5_readKind zN 43 [(0, (2, 3))] [] G Q := fun z => by
      rw [if_pos z] at h
      exact s_X5_readKind_43 (c_wrongX hX hO.1.2 (by omega) (fun G2 h2 => h G2 h2))
    refine ctof (s_X5_readKind_0 bp ⟨by omega, fun _ => ⟨hX.1.2.2.1, ?_⟩, fun x => absurd a x⟩)
    rw [ak.2.2.1]
    refine ⟨by omega, fun x => L43 (Or.inl x), fun x => ?_⟩
    have k2 : tkd t n b = 2 := by omega
    rw [(ak.2.2.2.1 k2).1]
    refine ⟨by omega, fun y => L43 (Or.inr (Or.inl y)), fun y => ⟨fun z G9 e9 => ?_, fun z => L43 (Or.inr (Or.inr (by omega)))⟩⟩
    rw [if_neg (by omega)] at h
    have h9 : RdX K cc t n G0 (.inr (b, st D (13 + i0) 0 (widx (twd t n b) - 16))) G9 := by
      rw [e9, hp, show cc + 13 + i0 = cc + (13 + i0) by omega]
      exact RdX.put hX (by omega) (by omega) (by omega) (dok_st ad (by omega))
    obtain ⟨b1, b2, b3, b4, b5⟩ := h9.inr
    exact ⟨h9.1.2.2.1, c_stepX hO h9.1 b2 b1 b3 b4 b5 (fun G2 h2 _ => h G2 h2)⟩
theorem c_seat {f : Int} (hO : TpO t n) (hX : RdX K cc t n G0 r G) (hf : f = 0 ∨ f = 1) (h : ∀ v G2, RdX K cc t n G0 (pV t n (fun _ => 0) (fun D => D 0 6 - 1) (pSeat t n f r)) G2 → (∀ b D, pV t n (fun _ => 0) (fun D => D 0 6 - 1) (pSeat t n f r) = .inr (b, D) → v = D 30 0 ∧ 0 ≤ v ∧ v ≤ 4) → Q v G2) : Ct (d + 7) M_X5_readSeat NT 0 0 (some lay) [(2, 3), (0, f)] G Q := by
  have ccI := cc_in hX.1.1
  have L99 : ∀ r' G1, RdX K cc t n G0 r' G1 → r' = pSeat t n f r → Rn (d + 7) M_X5_readSeat zN 99 [(0, (2, 3))] [] G1 Q := fun r' G1 h1 er => by
    refine s_X5_readSeat_99 (fun b1 e1 => ?_)
    rw [h1.1.2.2.2.1] at e1
    subst e1
    rw [← er] at h
    refine ⟨h1.1.1, c_rdNum (lo := fun _ => 0) (hi := fun D => D 0 6 - 1) hO h1 (fun b D e => ?_) (fun v G2 h2 hv _ _ => h v G2 h2 (fun b D e => ?_))⟩
    · subst e
      have i := h1.inr
      have s6 := i.2.2.2.1.1 0 6 (by omega) (by omega)
      rw [Int.add_zero] at s6
      have := i.2.2.2.2.1
      exact ⟨rfl, by rw [s6], by decide, by rw [s6]; omega⟩
    · obtain ⟨x1, x2, x3⟩ := hv b D e
      refine ⟨x1, x2, ?_⟩
      rcases pr_cases r' with ⟨e', rfl⟩ | ⟨b', D', rfl⟩
      · cases e
      · have i := h1.inr
        have s6 := i.2.2.2.1.1 0 6 (by omega) (by omega)
        rw [Int.add_zero] at s6
        have := i.2.2.2.2.1
        rw [s6] at x3
        omega
  rcases pr_cases r with ⟨e, rfl⟩ | ⟨b, D, rfl⟩
  · obtain ⟨a, a0, a1⟩ := hX.inl
    exact ctof (s_X5_readSeat_0 ⟨hX.f34, fun _ => L99 _ G hX rfl, fun x => absurd (by omega) x⟩)
  · obtain ⟨a, a0, ak, ac, ad⟩ := hX.inr
    have kr := tkd_r (t := t) (n := n) (b := b)
    have e0 : pSeat t n f (.inr (b, D)) = if tkd t n b = 3 ∧ tnm t n b < D 0 6 ∧ (if f = 0 then D 2 (tnm t n b) ≠ -1 else D 3 (tnm t n b) ≠ 0) then fl 3 b else .inr (b, D) := rfl
    have g3 := hX.1.2.2.2.1
    have s6 := ac.1 0 6 (by omega) (by omega)
    rw [Int.add_zero] at s6
    have d6 := ad.1
    have no : ¬ (tkd t n b = 3 ∧ tnm t n b < D 0 6 ∧ (if f = 0 then D 2 (tnm t n b) ≠ -1 else D 3 (tnm t n b) ≠ 0)) → Rn (d + 7) M_X5_readSeat zN 99 [(0, (2, 3))] [] G Q := fun z => L99 _ G hX (by rw [e0, if_neg z])
    have yes : (tkd t n b = 3 ∧ tnm t n b < D 0 6 ∧ (if f = 0 then D 2 (tnm t n b) ≠ -1 else D 3 (tnm t n b) ≠ 0)) → Rn (d + 7) M_X5_readSeat zN 89 [(0, (2, 3))] [(0, 1)] G Q := fun z =>
      s_X5_readSeat_89 ⟨by omega, fun x => absurd x (by decide), fun _ => c_wrongX hX hO.1.2 (by omega) (fun G3 h3 => L99 _ G3 h3 (by rw [e0, if_pos z]; rfl))⟩
    have no89 : ¬ (tkd t n b = 3 ∧ tnm t n b < D 0 6 ∧ (if f = 0 then D 2 (tnm t n b) ≠ -1 else D 3 (tnm t n b) ≠ 0)) → Rn (d + 7) M_X5_readSeat zN 89 [(0, (2, 3))] [(0, 0)] G Q := fun z => s_X5_readSeat_89 ⟨by omega, fun _ => no z, fun x => absurd rfl x⟩
    refine ctof (s_X5_readSeat_0 ⟨by omega, fun x => absurd a x, fun _ => ⟨hX.1.2.2.1, ?_⟩⟩)
    rw [ak.2.2.1]
    refine ⟨by omega, fun x => no (fun z => x z.1), fun x b6 e6 => ?_⟩
    have k3 : tkd t n b = 3 := by omega
    have tm := tnm_in k3
    rw [g3] at e6
    subst e6
    rw [ak.2.2.2.2.1 k3, s6]
    refine ⟨hX.1.1, by omega, by omega, fun y => no (fun z => by omega), fun y => ⟨by omega, fun f0 b14 e14 => ?_, fun f0 b20 e20 => ?_⟩⟩
    · rw [g3] at e14
      subst e14
      have s2 := ac.1 2 (tnm t n b) (by omega) (by omega)
      have d2 := ad.2.2.2.2.2.1 (tnm t n b) (by omega) (by omega)
      rw [s2]
      exact ⟨hX.1.1, by omega, by omega, fun u => no89 (fun z => by rw [if_pos f0] at z; exact z.2.2 u), fun u => yes ⟨k3, by omega, by rw [if_pos f0]; exact u⟩⟩
    · rw [g3] at e20
      subst e20
      have s2 := ac.1 3 (tnm t n b) (by omega) (by omega)
      have d2 := ad.2.2.2.2.2.2.1 (tnm t n b) (by omega) (by omega)
      rw [s2]
      exact ⟨hX.1.1, by omega, by omega, fun u => no89 (fun z => by rw [if_neg f0] at z; exact z.2.2 u), fun u => yes ⟨k3, by omega, by rw [if_neg f0]; exact u⟩⟩
end SITTER
