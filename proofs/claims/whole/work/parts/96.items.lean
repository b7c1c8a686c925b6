/-! what a line of the tape tells, one step after another -/
def pT1 (w : Int) (r : PR) : PR := bnd r (fun b D => if (w = 9 ∨ w = 10) ∧ 4 ≤ D 21 w then fl 5 b else .inr (b, D))
def pT2 (w : Int) (r : PR) : PR := bnd r (fun b D => if (w = 27 ∨ (11 ≤ w ∧ w ≤ 15)) ∧ 1 ≤ D 21 w then fl 3 b else .inr (b, D))
def pT3 (w : Int) (r : PR) : PR := bnd r (fun b D => .inr (b, st D 21 w (D 21 w + 1)))
def pT (w : Int) (r : PR) : PR := if w < 0 ∨ 32 ≤ w then r else pT3 w (pT2 w (pT1 w r))
section ITEMS
variable {d : Nat} {G G' G0 : Mem} {Q : Int → Mem → Prop} {X : Mem → Prop} {t : Int → Int} {n b K cc : Int} {D : Mem} {r : PR}
theorem dok_st {q k v : Int} (h : DOk K D) (hq : q ≠ 0 ∧ q ≠ 2 ∧ q ≠ 3 ∧ q ≠ 6 ∧ q ≠ 20 ∧ q ≠ 21) : DOk K (st D q k v) := by
  unfold DOk at h ⊢
  simp (disch := omega) only [st_nq]
  exact h
theorem dok_0 {k v : Int} (h : DOk K D) (hk : (k = 6 ∧ 2 ≤ v ∧ v ≤ 5) ∨ (k = 7 ∧ 1 ≤ v ∧ v ≤ 72) ∨ (k = 9 ∧ 5 ≤ v ∧ v ≤ 20) ∨ (k = 10 ∧ 0 ≤ v ∧ v ≤ 10)) : DOk K (st D 0 k v) := by
  obtain ⟨h6, h7, h8, h9, h10, h2, h3, h66, h20, h21⟩ := h
  have e : ∀ q j : Int, ¬ (q = 0 ∧ j = k) → st D 0 k v q j = D q j := fun q j z => st_ne _ _ z
  have g : ∀ j : Int, st D 0 k v 0 j = if j = k then v else D 0 j := fun j => by
    by_cases hj : j = k
    · rw [if_pos hj, hj, st_same]
    · rw [if_neg hj, e 0 j (by omega)]
  refine ⟨?_, ?_, ?_, ?_, ?_, fun s s0 s5 => by rw [e 2 s (by omega)]; exact h2 s s0 s5, fun s s0 s5 => by rw [e 3 s (by omega)]; exact h3 s s0 s5, by rw [e 6 6 (by omega)]; exact h66, fun i i0 i1 => ?_, fun w w0 w1 => by rw [e 21 w (by omega)]; exact h21 w w0 w1⟩
  · rw [g]; split <;> omega
  · rw [g]; split <;> omega
  · rw [g]; split <;> omega
  · rw [g]; split <;> omega
  · rw [g]; split <;> omega
  · rw [g, if_neg (by omega)] at i1
    rw [e 20 i (by omega)]; exact h20 i i0 i1
theorem DOk.mono {K' : Int} (h : DOk K D) (hk : K ≤ K') : DOk K' D := by
  obtain ⟨h6, h7, h8, h9, h10, h2, h3, h66, h20, h21⟩ := h
  exact ⟨h6, h7, h8, h9, h10, h2, h3, h66, h20, fun w w0 w1 => by have := h21 w w0 w1; omega⟩
theorem RdX.mk (hB : RdB cc t n G0 G) (a : G 3 4 = 0) (a0 : 0 ≤ b ∧ b ≤ n) (ak : TkC t n b G) (ac : CD cc D G) (ad : DOk K D) : RdX K cc t n G0 (.inr (b, D)) G := ⟨hB, a, a0, ak, ac, ad⟩
theorem RdX.mono {K' : Int} (h : RdX K cc t n G0 r G) (hk : K ≤ K') : RdX K' cc t n G0 r G := by
  rcases pr_cases r with ⟨e, rfl⟩ | ⟨b, D, rfl⟩
  · exact h
  · obtain ⟨a, a0, ak, ac, ad⟩ := h.inr
    exact RdX.mk h.1 a a0 ak ac (ad.mono hk)
/-- a cell of the cabin is written -/
theorem RdX.put {q k v : Int} (hX : RdX K cc t n G0 (.inr (b, D)) G) (hq : 0 ≤ q ∧ q < 18) (hB1 : ¬ (q = 0 ∧ k = 8 ∧ ¬ (0 ≤ v ∧ v ≤ 5))) (hB2 : ¬ (q = 6 ∧ k = 6 ∧ ¬ (0 ≤ v ∧ v ≤ 1000))) (hd : DOk K (st D q k v)) : RdX K cc t n G0 (.inr (b, st D q k v)) (st G (cc + q) k v) := by
  have ccI := cc_in hX.1.1
  obtain ⟨a, a0, ak, ac, ad⟩ := hX.inr
  obtain ⟨B1, B2, B3, B4, B5, B6, B7⟩ := hX.1
  have e : ∀ x y : Int, x ≠ cc + q → st G (cc + q) k v x y = G x y := fun x y z => st_nq _ _ _ _ z
  refine RdX.mk ⟨B1, ⟨by rw [e 1 1 (by omega)]; exact B2.1, fun j j0 j1 => by rw [e 2 j (by omega)]; exact B2.2 j j0 j1⟩, by rw [e 3 2 (by omega)]; exact B3, by rw [e 3 3 (by omega)]; exact B4, ?_, ?_, fun x y h1 h2 h3 => (e x y (by omega)).trans (B7 x y h1 h2 h3)⟩ (by rw [e 3 4 (by omega)]; exact a) a0 ?_ ⟨fun x y x0 x1 => ?_, fun y => ?_, fun y => ?_⟩ hd
  · by_cases hc : cc = cc + q ∧ (8 : Int) = k
    · rw [show st G (cc + q) k v cc 8 = v from by unfold st; rw [if_pos hc]]; omega
    · rw [st_ne _ _ hc]; exact B5
  · by_cases hc : cc + 6 = cc + q ∧ (6 : Int) = k
    · rw [show st G (cc + q) k v (cc + 6) 6 = v from by unfold st; rw [if_pos hc]]; omega
    · rw [st_ne _ _ hc]; exact B6
  · obtain ⟨k1, k2, k3, k4, k5, k6⟩ := ak
    exact ⟨by rw [e 1 2 (by omega)]; exact k1, by rw [e 1 6 (by omega)]; exact k2, by rw [e 1 3 (by omega)]; exact k3, fun z => by rw [e 1 4 (by omega), e 1 5 (by omega)]; exact k4 z, fun z => by rw [e 1 4 (by omega)]; exact k5 z, fun z => by rw [e 1 4 (by omega)]; exact k6 z⟩
  · by_cases hc : x = q ∧ y = k
    · rw [hc.1, hc.2, st_same, st_same]
    · rw [st_ne _ _ (by omega), st_ne _ _ hc]; exact ac.1 x y x0 x1
  · rw [e 4 y (by omega), st_nq _ _ _ _ (by omega)]; exact ac.2.1 y
  · rw [e 5 y (by omega), st_nq _ _ _ _ (by omega)]; exact ac.2.2 y
/-- behind a fault anything may be written -/
theorem RdX.junk {x k v e : Int} (hX : RdX K cc t n G0 (.inl e) G) (hx : (4 ≤ x ∧ x ≤ 5) ∨ (cc ≤ x ∧ x < cc + 18)) (hB1 : ¬ (x = cc ∧ k = 8 ∧ ¬ (0 ≤ v ∧ v ≤ 5))) (hB2 : ¬ (x = cc + 6 ∧ k = 6 ∧ ¬ (0 ≤ v ∧ v ≤ 1000))) : RdX K cc t n G0 (.inl e) (st G x k v) := by
  have ccI := cc_in hX.1.1
  obtain ⟨⟨B1, B2, B3, B4, B5, B6, B7⟩, a, a0, a1⟩ := hX
  have ee : ∀ q y : Int, q ≠ x → st G x k v q y = G q y := fun q y z => st_nq _ _ _ _ z
  refine ⟨⟨B1, ⟨by rw [ee 1 1 (by omega)]; exact B2.1, fun j j0 j1 => by rw [ee 2 j (by omega)]; exact B2.2 j j0 j1⟩, by rw [ee 3 2 (by omega)]; exact B3, by rw [ee 3 3 (by omega)]; exact B4, ?_, ?_, fun q y h1 h2 h3 => (ee q y (by omega)).trans (B7 q y h1 h2 h3)⟩, by rw [ee 3 4 (by omega)]; exact a, a0, a1⟩
  · by_cases hc : cc = x ∧ (8 : Int) = k
    · rw [show st G x k v cc 8 = v from by unfold st; rw [if_pos hc]]; omega
    · rw [st_ne _ _ hc]; exact B5
  · by_cases hc : cc + 6 = x ∧ (6 : Int) = k
    · rw [show st G x k v (cc + 6) 6 = v from by unfold st; rw [if_pos hc]]; omega
    · rw [st_ne _ _ hc]; exact B6
/-- a number put away -/
theorem c_num {lo hi q k : Mem → Int} {l m c0 q0 k0 : Int} (hO : TpO t n) (hX : RdX K cc t n G0 r G) (hc : c0 = cc + q0) (hq0 : 0 ≤ q0 ∧ q0 < 18) (hq6 : q0 ≠ 6) (hk8 : ¬ (q0 = 0 ∧ k0 = 8)) (hl : ∀ b D, r = .inr (b, D) → lo D = l ∧ hi D = m ∧ InR l ∧ InR m) (hqk : ∀ b D v, r = .inr (b, D) → q (st D 30 0 v) = q0 ∧ k (st D 30 0 v) = k0) (hd : ∀ b D v, r = .inr (b, D) → l ≤ v → v ≤ m → DOk K D → DOk K (st (st D 30 0 v) q0 k0 v))
    (h : ∀ G8, RdX K cc t n G0 (pN t n lo hi q k r) G8 → X G8) : Ct (d + 6) M_X5_readNumber NT 0 0 (some lay) [(2, 3), (0, l), (0, m)] G (fun v G6 => ∀ G8, G8 = st G6 c0 k0 v → X G8) := by
  refine c_rdNum hO hX hl (fun v G2 h2 hv hv2 f2 G8 e8 => h G8 ?_)
  subst hc
  rw [e8]
  rcases pr_cases r with ⟨e, rfl⟩ | ⟨b, D, rfl⟩
  · exact RdX.junk h2 (Or.inr (by omega)) (by omega) (by omega)
  · rcases pr_cases (pV t n lo hi (.inr (b, D))) with ⟨e, he⟩ | ⟨b', D', he⟩
    · unfold pN
      rw [he] at h2 ⊢
      exact RdX.junk h2 (Or.inr (by omega)) (by omega) (by omega)
    · unfold pN
      rw [he] at h2 ⊢
      obtain ⟨hv1, hv3, hv4⟩ := hv b' D' he
      have e2 : D' = st D 30 0 v := by
        unfold pV at he
        rw [bnd_r] at he
        by_cases c1 : tkd t n b ≠ 3
        · rw [if_pos c1] at he; cases he
        · rw [if_neg c1] at he
          by_cases c2 : tnm t n b < lo D ∨ hi D < tnm t n b
          · rw [if_pos c2] at he; cases he
          · rw [if_neg c2] at he
            cases he
            rw [st_same] at hv1
            rw [hv1]
      obtain ⟨eq, ek⟩ := hqk b D v rfl
      rw [← e2] at eq ek
      rw [bnd_r, eq, ek, ← hv1]
      refine RdX.put h2 hq0 (by omega) (by omega) ?_
      rw [e2]
      exact hd b D v rfl hv3 hv4 hX.inr.2.2.2.2
noncomputable def pRow (t : Int → Int) (n : Int) (r : PR) : PR := pS t n 59 (pN t n (fun _ => 1) (fun _ => 72) (fun _ => 0) (fun _ => 7) (pW t n 1 (pN t n (fun _ => 2) (fun _ => 5) (fun _ => 0) (fun _ => 6) (pW t n 0 r))))
theorem c_row (hO : TpO t n) (hX : RdX K cc t n G0 r G) (h : ∀ G2, RdX K cc t n G0 (pRow t n r) G2 → Q 0 G2) : Ct (d + 7) M_X5_readRow NT 0 0 (some lay) [(2, 3)] G Q := by
  refine ctof (s_X5_readRow_0 (c_rdWord hO hX (by omega) (fun G1 h1 b3 e3 => ?_)))
  rw [h1.1.2.2.2.1] at e3
  rw [e3]
  refine ⟨h1.1.1, c_num (lo := fun _ => 2) (hi := fun _ => 5) (q := fun _ => 0) (k := fun _ => 6) (q0 := 0) hO h1 (by omega) (by omega) (by omega) (by omega) (fun _ _ _ => ⟨rfl, rfl, by decide, by decide⟩) (fun _ _ _ _ => ⟨rfl, rfl⟩) (fun _ _ v _ v0 v1 hd => dok_0 (dok_st hd (by decide)) (Or.inl ⟨rfl, v0, v1⟩)) (fun G8 h8 => c_rdWord hO h8 (by omega) (fun G9 h9 b11 e11 => ?_))⟩
  rw [h9.1.2.2.2.1] at e11
  rw [e11]
  exact ⟨h9.1.1, c_num (lo := fun _ => 1) (hi := fun _ => 72) (q := fun _ => 0) (k := fun _ => 7) (q0 := 0) hO h9 (by omega) (by omega) (by omega) (by omega) (fun _ _ _ => ⟨rfl, rfl, by decide, by decide⟩) (fun _ _ _ _ => ⟨rfl, rfl⟩) (fun _ _ v _ v0 v1 hd => dok_0 (dok_st hd (by decide)) (Or.inr (Or.inl ⟨rfl, v0, v1⟩))) (fun G16 h16 => c_rdSign hO h16 (by decide) (fun G17 h17 => h G17 h17))⟩
theorem c_times {w : Int} (hO : TpO t n) (hK : 0 ≤ K ∧ K ≤ 2000) (hX : RdX K cc t n G0 (.inr (b, D)) G) (iw : InR w) (h : ∀ G2, RdX (K + 1) cc t n G0 (pT w (.inr (b, D))) G2 → Q 0 G2) : Ct (d + 1) M_X5_checkTimes NT 0 0 (some lay) [(2, 3), (0, w)] G Q := by
  by_cases hw : 0 ≤ w ∧ w < 32
  · have eT : pT w (.inr (b, D)) = pT3 w (pT2 w (pT1 w (.inr (b, D)))) := if_neg (by omega)
    rw [eT] at h
    have ccI := cc_in hX.1.1
    have d21 := hX.inr.2.2.2.2.2.2.2.2.2.2.2.2.2 w hw.1 hw.2
    have g5 := hX.inr.2.2.2.1.2.2 w
    have L91 : ∀ r' G1, RdX K cc t n G0 r' G1 → (∀ b' D', r' = .inr (b', D') → D' = D) → (∀ G2, RdX (K + 1) cc t n G0 (pT3 w r') G2 → Q 0 G2) → Rn (d + 1) M_X5_checkTimes zN 91 [(0, (2, 3)), (1, (0, w))] [] G1 Q := fun r' G1 h1 hD h => by
      refine s_X5_checkTimes_91 ⟨hw, fun G2 e2 => h G2 ?_⟩
      rw [e2]
      rcases pr_cases r' with ⟨e, rfl⟩ | ⟨b', D', rfl⟩
      · exact (RdX.junk h1 (Or.inl (by omega)) (by omega) (by omega)).mono (by omega)
      · have hD := hD b' D' rfl
        subst hD
        have e3 : pT3 w (.inr (b', D')) = .inr (b', st D' 21 w (D' 21 w + 1)) := rfl
        rw [e3]
        obtain ⟨a, a0, ak, ac, ad⟩ := h1.inr
        obtain ⟨B1, B2, B3, B4, B5, B6, B7⟩ := h1.1
        have e : ∀ x y : Int, x ≠ 5 → st G1 5 w (G1 5 w + 1) x y = G1 x y := fun x y z => st_nq _ _ _ _ z
        refine RdX.mk ⟨B1, ⟨by rw [e 1 1 (by omega)]; exact B2.1, fun j j0 j1 => by rw [e 2 j (by omega)]; exact B2.2 j j0 j1⟩, by rw [e 3 2 (by omega)]; exact B3, by rw [e 3 3 (by omega)]; exact B4, by rw [e _ _ (by omega)]; exact B5, by rw [e _ _ (by omega)]; exact B6, fun x y z1 z2 z3 => (e x y (by omega)).trans (B7 x y z1 z2 z3)⟩ (by rw [e 3 4 (by omega)]; exact a) a0 ?_ ⟨fun x y x0 x1 => ?_, fun y => ?_, fun y => ?_⟩ ?_
        · obtain ⟨k1, k2, k3, k4, k5, k6⟩ := ak
          exact ⟨by rw [e 1 2 (by omega)]; exact k1, by rw [e 1 6 (by omega)]; exact k2, by rw [e 1 3 (by omega)]; exact k3, fun z => by rw [e 1 4 (by omega), e 1 5 (by omega)]; exact k4 z, fun z => by rw [e 1 4 (by omega)]; exact k5 z, fun z => by rw [e 1 4 (by omega)]; exact k6 z⟩
        · rw [e _ _ (by omega)]; exact (ac.1 x y x0 x1).trans (st_nq _ _ _ _ (by omega)).symm
        · rw [e _ _ (by omega)]; exact (ac.2.1 y).trans (st_nq _ _ _ _ (by omega)).symm
        · show st G1 5 w (G1 5 w + 1) 5 y = st D' 21 w (D' 21 w + 1) 21 y
          by_cases hy : y = w
          · subst hy; rw [st_same, st_same, ac.2.2]
          · rw [st_nk _ _ _ hy, st_nk _ _ _ hy]; exact ac.2.2 y
        · obtain ⟨h6, h7, h8, h9, h10, h2, h3, h66, h20, h21⟩ := ad
          have s : ∀ x y : Int, x ≠ 21 → st D' 21 w (D' 21 w + 1) x y = D' x y := fun x y z => st_nq _ _ _ _ z
          refine ⟨by rw [s 0 6 (by omega)]; exact h6, by rw [s 0 7 (by omega)]; exact h7, by rw [s 0 8 (by omega)]; exact h8, by rw [s 0 9 (by omega)]; exact h9, by rw [s 0 10 (by omega)]; exact h10, fun i i0 i1 => by rw [s 2 i (by omega)]; exact h2 i i0 i1, fun i i0 i1 => by rw [s 3 i (by omega)]; exact h3 i i0 i1, by rw [s 6 6 (by omega)]; exact h66, fun i i0 i1 => by rw [s 0 8 (by omega)] at i1; rw [s 20 i (by omega)]; exact h20 i i0 i1, fun y y0 y1 => ?_⟩
          by_cases hy : y = w
          · subst hy; rw [st_same]; have := h21 y y0 y1; omega
          · rw [st_nk _ _ _ hy]; have := h21 y y0 y1; omega
    have L72 : ∀ (x3 : Int) r' G1, (x3 = 0 ∨ x3 = 1) → (x3 = 1 ↔ (w = 27 ∨ (11 ≤ w ∧ w ≤ 15))) → RdX K cc t n G0 r' G1 → (∀ b' D', r' = .inr (b', D') → D' = D) → (x3 = 1 → ∃ b', r' = .inr (b', D)) → (∀ G2, RdX (K + 1) cc t n G0 (pT3 w (pT2 w r')) G2 → Q 0 G2) → Rn (d + 1) M_X5_checkTimes zN 72 [(0, (2, 3)), (1, (0, w)), (3, (0, x3))] [] G1 Q := fun x3 r' G1 hx hi h1 hD hr h => by
      have same : ¬ ((w = 27 ∨ (11 ≤ w ∧ w ≤ 15)) ∧ 1 ≤ D 21 w) → pT2 w r' = r' := fun z => by
        rcases pr_cases r' with ⟨e, rfl⟩ | ⟨b', D', rfl⟩
        · rfl
        · have hD := hD b' D' rfl
          subst hD
          exact if_neg z
      refine s_X5_checkTimes_72 ⟨by omega, fun x => L91 r' G1 h1 hD (by rw [same (fun z => by have := hi.mpr z.1; omega)] at h; exact h), fun x => ?_⟩
      obtain ⟨b', rfl⟩ := hr (by omega)
      have gg := h1.inr.2.2.2.1.2.2 w
      refine ⟨hw, by rw [gg]; omega, fun y => L91 _ G1 h1 hD (by rw [same (fun z => by rw [gg] at y; omega)] at h; exact h), fun y => ?_⟩
      have yes : pT2 w (.inr (b', D)) = pF 3 (.inr (b', D)) := by
        unfold pT2 pF
        rw [gg] at y
        rw [bnd_r, bnd_r, if_pos ⟨hi.mp (by omega), by omega⟩]
      rw [yes] at h
      exact c_wrongX h1 hO.1.2 (by omega) (fun G2 h2 => L91 _ G2 h2 (fun b' D' z => by cases z) h)
    have L52 : ∀ x2 s0 : Int, (x2 = 0 ∨ x2 = 1) → (s0 = 0 ∨ s0 = 1) → (x2 = 1 ↔ (w = 9 ∨ w = 10)) → (s0 = 1 ↔ (w = 27 ∨ (11 ≤ w ∧ w ≤ 15))) → Rn (d + 1) M_X5_checkTimes zN 52 [(0, (2, 3)), (1, (0, w)), (2, (0, x2))] [(0, s0)] G Q := fun x2 s0 hx hs ix is => by
      have same : ¬ ((w = 9 ∨ w = 10) ∧ 4 ≤ D 21 w) → pT1 w (.inr (b, D)) = .inr (b, D) := fun z => if_neg z
      refine s_X5_checkTimes_52 ⟨by omega, fun x => L72 s0 _ G hs is hX (fun b' D' z => by cases z; rfl) (fun _ => ⟨b, rfl⟩) (by rw [same (fun z => by have := ix.mpr z.1; omega)] at h; exact h), fun x => ⟨hw, by rw [g5]; omega, fun y => L72 s0 _ G hs is hX (fun b' D' z => by cases z; rfl) (fun _ => ⟨b, rfl⟩) (by rw [same (fun z => by rw [g5] at y; omega)] at h; exact h), fun y => ?_⟩⟩
      have yes : pT1 w (.inr (b, D)) = pF 5 (.inr (b, D)) := by
        unfold pT1 pF
        rw [g5] at y
        rw [bnd_r, bnd_r, if_pos ⟨ix.mp (by omega), by omega⟩]
      rw [yes] at h
      exact c_wrongX hX hO.1.2 (by omega) (fun G2 h2 => L72 s0 _ G2 hs is h2 (fun b' D' z => by cases z) (fun z => by have := ix.mp (by omega); have := is.mp z; omega) h)
    have L28 : ∀ x2 : Int, (x2 = 0 ∨ x2 = 1) → (x2 = 1 ↔ (w = 9 ∨ w = 10)) → Rn (d + 1) M_X5_checkTimes zN 28 [(0, (2, 3)), (1, (0, w))] [(0, x2)] G Q := fun x2 hx ix =>
      s_X5_checkTimes_28 ⟨iw, fun y => L52 x2 1 hx (Or.inr rfl) ix (by omega), fun y => ⟨fun z => L52 x2 0 hx (Or.inl rfl) ix (by omega), fun z => ⟨fun u => L52 x2 0 hx (Or.inl rfl) ix (by omega), fun u => L52 x2 1 hx (Or.inr rfl) ix (by omega)⟩⟩⟩
    exact ctof (s_X5_checkTimes_0 ⟨iw, fun x => absurd hw.1 (by omega), fun _ => ⟨fun _ => ⟨fun y => L28 1 (Or.inr rfl) (by omega), fun y => ⟨fun z => L28 0 (Or.inl rfl) (by omega), fun z => L28 1 (Or.inr rfl) (by omega)⟩⟩, fun x => absurd hw.2 (by omega)⟩⟩)
  · have eT : pT w (.inr (b, D)) = .inr (b, D) := if_pos (by omega)
    rw [eT] at h
    exact ctof (s_X5_checkTimes_0 ⟨iw, fun _ => h G (hX.mono (by omega)), fun x => ⟨fun y => absurd hw (by omega), fun _ => h G (hX.mono (by omega))⟩⟩)
end ITEMS
