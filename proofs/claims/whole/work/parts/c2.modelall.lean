section MALL
variable {d : Nat} {D D0 D' M M' G0 : Mem} {Q : Int → Mem → Prop} {t : Int → Int} {n b b' : Int}
theorem wdO_w {w : Int} (h : isW t n w b) : wdO t n b = w := by unfold wdO; rw [if_pos h.1]; exact h.2
theorem wdO_n {w : Int} (h : ¬ isW t n w b) (hw : 0 ≤ w) : wdO t n b ≠ w := by
  unfold wdO
  by_cases c : tkd t n b = 2
  · rw [if_pos c]; exact fun z => h ⟨c, z⟩
  · rw [if_neg c]; omega
theorem m_main (hO : TpO t n) : ∀ (k : Nat) (b : Int) (D M : Mem), n - b < (k : Int) → RM G0 t n b D M → (∀ e, pMain t n k (.inr (b, D)) = .inl e → ∀ M', MvF G0 M' → M' 311 9 = e → Q 0 M') → (∀ b' D' M', pMain t n k (.inr (b, D)) = .inr (b', D') → RM G0 t n b' D' M' → Q 1 M') → Rn (d + 5) M_X12_readsAll zN 99 [(0, (2, 311))] [] M Q := by
  intro k
  induction k with
  | zero => intro b D M hb hR _ _; have := hR.2.1.2.1; omega
  | succ k ih =>
    intro b D M hb hR h0 h1
    have hm := hR.2.1
    have r := mkd_iff (tkd_r (t := t) (n := n) (b := b))
    have e6 := hm.2.2.2.2.1
    have eM : pMain t n (k + 1) (.inr (b, D)) = if tkd t n b = 0 then .inr (b, D) else pMain t n k (pS t n 59 (pItem t n (wdO t n b) (pT (wdO t n b) (.inr (b, D))))) := rfl
    refine s_X12_readsAll_99 ⟨by omega, fun c => h1 b D M (by rw [eM, if_pos (by omega)]) hR, fun c => ?_⟩
    rw [if_neg (by omega)] at eM
    rw [eM] at h0 h1
    have P0 : ∀ w : Int, isW t n w b → ∀ e, pS t n 59 (pItem t n w (pT w (.inr (b, D)))) = .inl e → ∀ M', MvF G0 M' → M' 311 9 = e → InR 0 ∧ ((0 : Int) ≠ 0 → Rn (d + 5) M_X12_readsAll zN 99 [(0, (2, 311))] [] M' Q) ∧ (¬ ((0 : Int) ≠ 0) → Q 0 M') := fun w hw e he M' f' e' => ⟨by decide, fun z => absurd rfl z, fun _ => h0 e (by rw [wdO_w hw, he]; exact pMain_l) M' f' e'⟩
    have P1 : ∀ w : Int, isW t n w b → ∀ b' D' M', pS t n 59 (pItem t n w (pT w (.inr (b, D)))) = .inr (b', D') → b < b' → RM G0 t n b' D' M' → InR 1 ∧ ((1 : Int) ≠ 0 → Rn (d + 5) M_X12_readsAll zN 99 [(0, (2, 311))] [] M' Q) ∧ (¬ ((1 : Int) ≠ 0) → Q 0 M') := fun w hw b' D' M' he hb' hM => by
      rw [wdO_w hw, he] at h0 h1
      exact ⟨by decide, fun _ => ih b' D' M' (by omega) hM h0 h1, fun z => absurd (by decide) z⟩
    by_cases w2 : isW t n 2 b
    · exact c_wdT 2 hm (by decide) (by decide) (by decide) w2 ⟨by decide, fun z => absurd z (by decide), fun _ => m_sitter hO hR w2 (P0 2 w2) (P1 2 w2)⟩
    refine c_wdF 2 hm (by decide) (by decide) (by decide) w2 ⟨by decide, fun _ => ?_, fun z => absurd rfl z⟩
    by_cases w26 : isW t n 26 b
    · exact c_wdT 26 hm (by decide) (by decide) (by decide) w26 ⟨by decide, fun z => absurd z (by decide), fun _ => m_cup hO hR w26 (P0 26 w26) (P1 26 w26)⟩
    refine c_wdF 26 hm (by decide) (by decide) (by decide) w26 ⟨by decide, fun _ => ?_, fun z => absurd rfl z⟩
    by_cases w9 : isW t n 9 b
    · exact c_wdT 9 hm (by decide) (by decide) (by decide) w9 ⟨by decide, fun z => absurd z (by decide), fun _ => m_shut hO hR w9 (Or.inl rfl) (P0 9 w9) (P1 9 w9)⟩
    refine c_wdF 9 hm (by decide) (by decide) (by decide) w9 ⟨by decide, fun _ => ?_, fun z => absurd rfl z⟩
    by_cases w10 : isW t n 10 b
    · exact c_wdT 10 hm (by decide) (by decide) (by decide) w10 ⟨by decide, fun z => absurd z (by decide), fun _ => m_shut hO hR w10 (Or.inr rfl) (P0 10 w10) (P1 10 w10)⟩
    refine c_wdF 10 hm (by decide) (by decide) (by decide) w10 ⟨by decide, fun _ => ?_, fun z => absurd rfl z⟩
    by_cases w27 : isW t n 27 b
    · exact c_wdT 27 hm (by decide) (by decide) (by decide) w27 ⟨by decide, fun z => absurd z (by decide), fun _ => m_one hO hR w27 (Or.inl ⟨rfl, rfl, rfl, rfl, rfl⟩) (P0 27 w27) (P1 27 w27)⟩
    refine c_wdF 27 hm (by decide) (by decide) (by decide) w27 ⟨by decide, fun _ => ?_, fun z => absurd rfl z⟩
    by_cases w11 : isW t n 11 b
    · exact c_wdT 11 hm (by decide) (by decide) (by decide) w11 ⟨by decide, fun z => absurd z (by decide), fun _ => m_price hO hR w11 (P0 11 w11) (P1 11 w11)⟩
    refine c_wdF 11 hm (by decide) (by decide) (by decide) w11 ⟨by decide, fun _ => ?_, fun z => absurd rfl z⟩
    by_cases w12 : isW t n 12 b
    · exact c_wdT 12 hm (by decide) (by decide) (by decide) w12 ⟨by decide, fun z => absurd z (by decide), fun _ => m_one hO hR w12 (Or.inr ⟨rfl, rfl, rfl, rfl, rfl⟩) (P0 12 w12) (P1 12 w12)⟩
    refine c_wdF 12 hm (by decide) (by decide) (by decide) w12 ⟨by decide, fun _ => ?_, fun z => absurd rfl z⟩
    by_cases w13 : isW t n 13 b
    · exact c_wdT 13 hm (by decide) (by decide) (by decide) w13 ⟨by decide, fun z => absurd z (by decide), fun _ => m_law (l := 0) hO hR (by omega) w13 (P0 13 w13) (P1 13 w13)⟩
    refine c_wdF 13 hm (by decide) (by decide) (by decide) w13 ⟨by decide, fun _ => ?_, fun z => absurd rfl z⟩
    by_cases w14 : isW t n 14 b
    · exact c_wdT 14 hm (by decide) (by decide) (by decide) w14 ⟨by decide, fun z => absurd z (by decide), fun _ => m_law (l := 1) hO hR (by omega) w14 (P0 14 w14) (P1 14 w14)⟩
    refine c_wdF 14 hm (by decide) (by decide) (by decide) w14 ⟨by decide, fun _ => ?_, fun z => absurd rfl z⟩
    by_cases w15 : isW t n 15 b
    · exact c_wdT 15 hm (by decide) (by decide) (by decide) w15 ⟨by decide, fun z => absurd z (by decide), fun _ => m_law (l := 2) hO hR (by omega) w15 (P0 15 w15) (P1 15 w15)⟩
    refine c_wdF 15 hm (by decide) (by decide) (by decide) w15 ⟨by decide, fun _ => ?_, fun z => absurd rfl z⟩
    refine c_failsX hm (fun M2 f2 g2 => ⟨by decide, fun z => absurd rfl z, fun _ => h0 (1 + 16 * b) ?_ M2 (hR.1.tr f2.mv) g2⟩)
    have n2 := wdO_n w2 (by decide)
    have n26 := wdO_n w26 (by decide)
    have n9 := wdO_n w9 (by decide)
    have n10 := wdO_n w10 (by decide)
    have n27 := wdO_n w27 (by decide)
    have n11 := wdO_n w11 (by decide)
    have n12 := wdO_n w12 (by decide)
    have n13 := wdO_n w13 (by decide)
    have n14 := wdO_n w14 (by decide)
    have n15 := wdO_n w15 (by decide)
    generalize wdO t n b = w at *
    have eT : ∃ D', pT w (.inr (b, D)) = .inr (b, D') := by
      by_cases c : w < 0 ∨ 32 ≤ w
      · exact ⟨D, by unfold pT; rw [if_pos c]⟩
      · exact ⟨_, by rw [pT_in (by omega), if_neg (by omega), if_neg (by omega)]⟩
    obtain ⟨D', eT⟩ := eT
    have eI : pItem t n w (.inr (b, D')) = fl 1 b := by
      unfold pItem
      rw [if_neg n2, if_neg n26, if_neg (by omega), if_neg n27, if_neg n11, if_neg n12, if_neg n13, if_neg n14, if_neg n15]
      rfl
    rw [eT, eI]
    exact pMain_l
theorem c_readsAll (hO : TpO t n) (hD : ClrD D0) (hn : M 311 1 = n) (ht : ∀ k, 0 ≤ k → k < n → M 312 k = t k)
    (h0 : ∀ e, pRd t n D0 = .inl e → ∀ M', M' 311 1 = 0 → (∀ q k : Int, ¬ MvC q k → ¬ (q = 311 ∧ k = 1) → M' q k = M q k) → M' 311 9 = e → Q 0 M')
    (h1 : ∀ b' D' M', pRd t n D0 = .inr (b', D') → M' 311 1 = 0 → (∀ q k : Int, ¬ MvC q k → ¬ (q = 311 ∧ k = 1) → M' q k = M q k) → (∃ G0, RM G0 t n b' D' M') → Q 1 M') : Ct (d + 6) M_X12_readsAll NT 0 0 (some lay) [(2, 311)] M Q := by
  have oo := hO.1
  refine ctof (s_X12_readsAll_0 (c_plain (a := 313) (c := 324) (e := 327) (f := 328) (bs_ob bs_12) (by omega) (fun G' _ => ⟨(ly_12_10 bs_12).1, (ly_12_21 bs_12).1, (ly_12_24 bs_12).1, (ly_12_25 bs_12).1⟩) (by omega) (ly_12_10 bs_12).2.2 (ly_12_21 bs_12).2.2 (ly_12_24 bs_12).2.2 (ly_12_25 bs_12).2.2 (by omega) (fun M1 hp M3 e3 M4 e4 M5 e5 M6 e6 M7 e7 => ?_)))
  obtain ⟨p1, p2, p3, p4⟩ := hp
  have f7 : ∀ q k : Int, ¬ (q = 311 ∧ (k = 1 ∨ k = 3 ∨ k = 4 ∨ k = 27 ∨ k = 28)) → M7 q k = M1 q k := fun q k a => by
    rw [e7, st_ne _ _ (by omega), e6, st_ne _ _ (by omega), e5, st_ne _ _ (by omega), e4, st_ne _ _ (by omega), e3, st_ne _ _ (by omega)]
  have a1 : M7 311 1 = 0 := by rw [e7, st_nk _ _ _ (by decide), e6, st_same]
  have a3 : M7 311 3 = n := by
    rw [e7, st_nk _ _ _ (by decide), e6, st_nk _ _ _ (by decide), e5, st_same, e4, st_nk _ _ _ (by decide), e3, st_nk _ _ _ (by decide), p4 _ _ (by omega) (by omega) (by omega), hn]
  have a4 : M7 311 4 = 0 := by rw [e7, st_same]
  have a27 : M7 311 27 = 1000 := by rw [e7, st_nk _ _ _ (by decide), e6, st_nk _ _ _ (by decide), e5, st_nk _ _ _ (by decide), e4, st_same]
  have a28 : M7 311 28 = 0 := by rw [e7, st_nk _ _ _ (by decide), e6, st_nk _ _ _ (by decide), e5, st_nk _ _ _ (by decide), e4, st_nk _ _ _ (by decide), e3, st_same]
  have g7 : ∀ q k : Int, ¬ MvC q k → ¬ (q = 311 ∧ k = 1) → M7 q k = M q k := fun q k a e => by
    unfold MvC at a
    rw [f7 q k (by omega), p4 q k (by omega) (by omega) (by omega)]
  have tx : TpX t n M7 := ⟨a3, fun k k0 k1 => by rw [f7 _ _ (by omega), p4 _ _ (by omega) (by omega) (by omega)]; exact ht k k0 k1⟩
  have c313 : ∀ j, 0 ≤ j → j < 12 → M7 313 (12 + j) = plv j := fun j j0 j1 => by rw [f7 _ _ (by omega)]; exact p1 j j0 j1
  have c324 : ∀ j, 0 ≤ j → j < 5 → M7 324 (5 + j) = 0 := fun j j0 j1 => by rw [f7 _ _ (by omega)]; exact p2 j j0 j1
  have c327 : ∀ j, 0 ≤ j → j < 3 → M7 327 (3 + j) = 1000 ∧ M7 328 (3 + j) = 1000 := fun j j0 j1 => by rw [f7 _ _ (by omega), f7 _ _ (by omega)]; exact p3 j j0 j1
  have R : ∀ M', MvF M7 M' → M' 311 1 = 0 ∧ ∀ q k : Int, ¬ MvC q k → ¬ (q = 311 ∧ k = 1) → M' q k = M q k := fun M' f => ⟨by rw [f 311 1 (by unfold MvC; omega)]; exact a1, fun q k a e => by rw [f q k a]; exact g7 q k a e⟩
  have h0 : ∀ e, pRd t n D0 = .inl e → ∀ M', MvF M7 M' → M' 311 9 = e → Q 0 M' := fun e he M' f' e' => h0 e he M' (R M' f').1 (R M' f').2 e'
  have h1 : ∀ b' D' M', pRd t n D0 = .inr (b', D') → RM M7 t n b' D' M' → Q 1 M' := fun b' D' M' he hM => h1 b' D' M' he (R M' hM.1).1 (R M' hM.1).2 ⟨M7, hM⟩
  obtain ⟨⟨d6, d7, d8, d9, d10⟩, dd2, dd4, dd5, d66, dd8, dd21⟩ := hD
  have bI := tbg_in (t := t) (n := n) (p := 0) ⟨by omega, oo.1⟩
  have eR : pRd t n D0 = pMain t n 1000 (pRow t n (.inr (tbg t n 0, D0))) := rfl
  rw [eR] at h0 h1
  refine c_nextToken hO tx (p := 0) ⟨by omega, oo.1⟩ a4 (fun M8 f8 k8 => ?_)
  have m8 : MdX t n (tbg t n 0) M8 := ⟨tx.nt f8, bI, k8⟩
  have mv8 : MvF M7 M8 := f8.md.mv
  generalize tbg t n 0 = p0 at *
  have eRow : ∀ r, pRow t n r = pS t n 59 (pN t n (fun _ => 1) (fun _ => 72) (fun _ => 0) (fun _ => 7) (pW t n 1 (pN t n (fun _ => 2) (fun _ => 5) (fun _ => 0) (fun _ => 6) (pW t n 0 r)))) := fun _ => rfl
  rw [eRow] at h0 h1
  have q1 := nxt_in (t := t) (n := n) (b := p0) bI
  have q2 := nxt_in (t := t) (n := n) (b := nxt t n p0) (by omega)
  refine c_nBoth (w := 0) (D := D0) (lo := fun _ => 2) (hi := fun _ => 5) hO m8 (by decide) (by decide) (by decide) rfl rfl (by decide) (by decide) (fun v ev v0 v1 M10 f10 m10 g10 => ⟨by decide, fun _ M14 e14 => ?_, fun z => absurd (by decide) z⟩) (fun e ee M10 f10 g10 => ⟨by decide, fun z => absurd rfl z, fun _ => h0 e (by unfold pN; rw [show pV t n (fun _ => 2) (fun _ => 5) (pW t n 0 (.inr (p0, D0))) = .inl e from ee]; exact pMain_l) M10 (mv8.tr f10.mv) g10⟩)
  have ev : pV t n (fun _ => 2) (fun _ => 5) (pW t n 0 (.inr (p0, D0))) = .inr (nxt t n (nxt t n p0), st D0 30 0 v) := ev
  have strict : p0 + 1 ≤ nxt t n p0 := by
    by_cases c : isW t n 0 p0
    · exact nxt_1 bI (by have := c.1; omega)
    · exfalso
      have : pW t n 0 (.inr (p0, D0)) = fl 1 p0 := by unfold pW; rw [bnd_r, if_neg c]
      rw [this] at ev
      cases ev
  have eN : pN t n (fun _ => 2) (fun _ => 5) (fun _ => 0) (fun _ => 6) (pW t n 0 (.inr (p0, D0))) = .inr (nxt t n (nxt t n p0), st (st D0 30 0 v) 0 6 v) := by unfold pN; rw [ev, bnd_r, st_same]
  rw [eN] at h0 h1
  rw [g10] at e14
  have m14 : MdX t n (nxt t n (nxt t n p0)) M14 := m10.fr (fun k _ _ => by rw [e14, st_nq _ _ _ _ (by decide)]) (fun k => by rw [e14, st_nq _ _ _ _ (by decide)])
  have mv14 : MvF M7 M14 := (mv8.tr f10.mv).tr (by rw [e14]; exact MvF.st (by unfold MvC; omega))
  obtain ⟨D1, hD1⟩ : ∃ D1, D1 = st (st D0 30 0 v) 0 6 v := ⟨_, rfl⟩
  rw [← hD1] at h0 h1
  have p2b : 0 ≤ nxt t n (nxt t n p0) := by omega
  have p2c : 1 ≤ nxt t n (nxt t n p0) := by omega
  generalize nxt t n (nxt t n p0) = p2 at *
  have q3 := nxt_in (t := t) (n := n) (b := p2) m14.2.1
  have q4 := nxt_in (t := t) (n := n) (b := nxt t n p2) (by omega)
  refine c_nBoth (w := 1) (D := D1) (lo := fun _ => 1) (hi := fun _ => 72) hO m14 (by decide) (by decide) (by decide) rfl rfl (by decide) (by decide) (fun u eu u0 u1 M15 f15 m15 g15 => ⟨by decide, fun _ M19 e19 => ?_, fun z => absurd (by decide) z⟩) (fun e ee M15 f15 g15 => ⟨by decide, fun z => absurd rfl z, fun _ => h0 e (by unfold pN; rw [show pV t n (fun _ => 1) (fun _ => 72) (pW t n 1 (.inr (p2, D1))) = .inl e from ee]; exact pMain_l) M15 (mv14.tr f15.mv) g15⟩)
  have eu : pV t n (fun _ => 1) (fun _ => 72) (pW t n 1 (.inr (p2, D1))) = .inr (nxt t n (nxt t n p2), st D1 30 0 u) := eu
  have eN : pN t n (fun _ => 1) (fun _ => 72) (fun _ => 0) (fun _ => 7) (pW t n 1 (.inr (p2, D1))) = .inr (nxt t n (nxt t n p2), st (st D1 30 0 u) 0 7 u) := by unfold pN; rw [eu, bnd_r, st_same]
  rw [eN] at h0 h1
  rw [g15] at e19
  have m19 : MdX t n (nxt t n (nxt t n p2)) M19 := m15.fr (fun k _ _ => by rw [e19, st_nq _ _ _ _ (by decide)]) (fun k => by rw [e19, st_nq _ _ _ _ (by decide)])
  have mv19 : MvF M7 M19 := (mv14.tr f15.mv).tr (by rw [e19]; exact MvF.st (by unfold MvC; omega))
  obtain ⟨D2, hD2⟩ : ∃ D2, D2 = st (st D1 30 0 u) 0 7 u := ⟨_, rfl⟩
  rw [← hD2] at h0 h1
  have p4c : 1 ≤ nxt t n (nxt t n p2) := by omega
  generalize nxt t n (nxt t n p2) = p4 at *
  have fD : ∀ q k : Int, q ≠ 30 → ¬ (q = 0 ∧ (k = 6 ∨ k = 7)) → D2 q k = D0 q k := fun q k a e => by
    rw [hD2, st_ne _ _ (by omega), st_nq _ _ _ _ a, hD1, st_ne _ _ (by omega), st_nq _ _ _ _ a]
  have y6 : D2 0 6 = v := by rw [hD2, st_nk _ _ _ (by decide), st_nq _ _ _ _ (by decide), hD1, st_same]
  have y7 : D2 0 7 = u := by rw [hD2, st_same]
  have fM : ∀ q k : Int, ¬ (q = 311 ∧ ((4 ≤ k ∧ k ≤ 9) ∨ k = 42)) → ¬ (q = 313 ∧ (k = 12 ∨ k = 13)) → M19 q k = M7 q k := fun q k a e => by
    rw [e19, st_ne _ _ (by omega), f15 q k a, e14, st_ne _ _ (by omega), f10 q k a, f8 q k (by omega)]
  have z12 : M19 313 12 = v := by rw [e19, st_nk _ _ _ (by decide), f15 _ _ (by omega), e14, st_same]
  have z13 : M19 313 13 = u := by rw [e19, st_same]
  have x : ∀ k, 14 ≤ k → k < 24 → M19 313 k = plv (k - 12) := fun k k0 k1 => by
    have := c313 (k - 12) (by omega) (by omega)
    rw [show 12 + (k - 12) = k by omega] at this
    rw [fM _ _ (by omega) (by omega), this]
  have x14 := x 14 (by omega) (by omega)
  have x19 := x 19 (by omega) (by omega)
  have x20 := x 20 (by omega) (by omega)
  have x21 := x 21 (by omega) (by omega)
  have x22 := x 22 (by omega) (by omega)
  have e14' : plv (14 - 12) = 11 := by decide
  have e19' : plv (19 - 12) = 9 := by decide
  have e20' : plv (20 - 12) = 0 := by decide
  have e21' : plv (21 - 12) = 0 := by decide
  have e22' : plv (22 - 12) = 0 := by decide
  have y8 : D2 0 8 = 0 := by rw [fD _ _ (by decide) (by decide)]; exact d8
  have y9 : D2 0 9 = 11 := by rw [fD _ _ (by decide) (by decide)]; exact d9
  have y10 : D2 0 10 = 9 := by rw [fD _ _ (by decide) (by decide)]; exact d10
  have t21 : ∀ w, 0 ≤ w → w < 32 → D2 21 w = 0 := fun w w0 w1 => by rw [fD _ _ (by decide) (by omega)]; exact dd21 w w0 w1
  have nt : ∀ k, 0 ≤ k → ¬ TdK D2 k := fun k k0 z => by
    unfold TdK at z
    rw [t21 9 (by omega) (by omega), t21 10 (by omega) (by omega)] at z
    omega
  have R19 : RM M7 t n p4 D2 M19 := by
    refine ⟨mv19, m19, by rw [fD _ _ (by decide) (by decide), d66]; omega, by rw [fM _ _ (by omega) (by omega), a27]; omega, ⟨⟨by omega, by omega, by omega, by omega, by omega⟩, by omega, by omega, by omega, by omega, by omega⟩, fun j j0 j1 => ?_, ⟨fun i i0 i1 => by omega, fun s s0 s1 => Or.inl (by rw [fD _ _ (by decide) (by omega)]; exact (dd2 s s0 s1).1)⟩, fun s s0 s1 => ?_, ⟨?_, ?_, ?_, fun j j0 _ hj => absurd hj (nt j j0), fun w w0 w1 => ⟨?_, ?_⟩⟩, ⟨?_, ?_, ?_, ?_⟩, fun l l0 l3 => Or.inl ⟨t21 _ (by omega) (by omega), ?_, ?_, ?_⟩⟩
    · have h5 : D2 5 j = 1 := by rw [fD _ _ (by decide) (by omega)]; exact dd5 j j0 j1
      have hx := x (15 + j) (by omega) (by omega)
      have : plv (15 + j - 12) = 1 := by unfold plv; rw [if_neg (by omega), if_neg (by omega), if_neg (by omega), if_pos (by omega)]
      omega
    · rw [fM _ _ (by omega) (by omega), c324 s s0 s1, fD _ _ (by decide) (by omega), (dd2 s s0 s1).2]; omega
    · rw [t21 9 (by omega) (by omega), t21 10 (by omega) (by omega)]; omega
    · rw [t21 9 (by omega) (by omega)]; omega
    · rw [t21 10 (by omega) (by omega)]; omega
    · rw [fD _ _ (by decide) (by omega), dd4 w w0 w1]; omega
    · rw [fD _ _ (by decide) (by omega), dd4 w w0 w1]
      exact ⟨fun z => absurd rfl z, fun ⟨j, j0, j1, j2, j3⟩ => absurd j2 (nt j j0)⟩
    · rw [t21 27 (by omega) (by omega), t21 11 (by omega) (by omega), t21 12 (by omega) (by omega), fM _ _ (by omega) (by omega), a28]; decide
    · rw [t21 27 (by omega) (by omega)]; omega
    · rw [t21 11 (by omega) (by omega)]; omega
    · rw [t21 12 (by omega) (by omega)]; omega
    · rw [fD _ _ (by decide) (by omega)]; exact dd8 l l0 l3
    · rw [fM _ _ (by omega) (by omega)]; exact (c327 l l0 l3).1
    · rw [fM _ _ (by omega) (by omega)]; exact (c327 l l0 l3).2
  refine c_nEnds (D := D2) hO m19 (fun e M20 f20 m20 => ⟨by decide, fun _ => ?_, fun z => absurd (by decide) z⟩) (fun e ee M20 f20 g20 => ⟨by decide, fun z => absurd rfl z, fun _ => h0 e (by rw [ee]; exact pMain_l) M20 (mv19.tr f20.mv) g20⟩)
  rw [e] at h0 h1
  have q5 := nxt_in (t := t) (n := n) (b := p4) m19.2.1
  exact m_main hO 1000 (nxt t n p4) D2 M20 (by omega) (R19.go f20.md m20 q5.1 DmF.rfl') h0 h1
end MALL
