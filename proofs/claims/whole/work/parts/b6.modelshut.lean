section MSHUT
variable {d : Nat} {D D' M M' G0 : Mem} {Q : Int → Mem → Prop} {t : Int → Int} {n b b' l w : Int}
/-- belt, trolley -/
theorem m_shut (hO : TpO t n) (hR : RM G0 t n b D M) (hw : isW t n w b) (hw9 : w = 9 ∨ w = 10) (h0 : ∀ e, pS t n 59 (pItem t n w (pT w (.inr (b, D)))) = .inl e → ∀ M', MvF G0 M' → M' 311 9 = e → Q 0 M') (h1 : ∀ b' D' M', pS t n 59 (pItem t n w (pT w (.inr (b, D)))) = .inr (b', D') → b < b' → RM G0 t n b' D' M' → Q 1 M') : Ct (d + 4) M_X12_readsShut NT 0 0 (some lay) [(2, 311), (0, w)] M Q := by
  have oo := hO.1
  have bb := hR.2.1.2.1
  have b1 := nxt_1 bb (show tkd t n b ≠ 0 by have := hw.1; omega)
  have hB := hR.2.2.2.2.2.2.2.2.1
  obtain ⟨⟨B1, B2⟩, B3, B4, B5, B6⟩ := hB
  have n0 : M 313 (12 + w) = D 21 w ∧ 0 ≤ D 21 w ∧ D 21 w ≤ 4 := by
    rcases hw9 with rfl | rfl
    · exact ⟨B1, B3⟩
    · exact ⟨B2, B4⟩
  have eI : ∀ r, pItem t n w r = pShut t n w r := fun r => by rcases hw9 with rfl | rfl <;> rfl
  rw [eI, pT_in (by omega)] at h0 h1
  refine ctof (s_X12_readsShut_0 ⟨by omega, by omega, fun c4 => ?_, fun c4 => c_failsX hR.2.1 (fun M2 f2 g2 => ⟨Or.inl rfl, h0 (5 + 16 * b) (by rw [if_pos ⟨by omega, by omega⟩]; rfl) M2 (hR.1.tr f2.mv) g2⟩)⟩)
  rw [if_neg (by omega), if_neg (by omega)] at h0 h1
  have e1 : pShut t n w (.inr (b, st D 21 w (D 21 w + 1))) = bnd (pV t n (fun D => D 30 1) (fun _ => 71) (pW t n 8 (pK1 (pV t n (fun _ => 0) (fun _ => 71) (.inr (nxt t n b, st D 21 w (D 21 w + 1))))))) (fun b D => .inr (b, shD D (D 30 1) (D 30 0))) := by
    unfold pShut; rw [pW_t hw]
  rw [e1] at h0 h1
  have go : ∀ s0 : Int, (w = 9 → s0 = 0) → (w = 10 → s0 = 4) → Rn (d + 4) M_X12_readsShut zN 36 [(0, (2, 311)), (1, (0, w))] [(0, s0), (0, 8 + M 313 (12 + w))] M Q := fun s0 s9 s10 => by
    obtain ⟨at0, hat⟩ : ∃ at0, at0 = D 21 w + s0 := ⟨_, rfl⟩
    have a0 : 0 ≤ at0 ∧ at0 < 8 := by omega
    refine s_X12_readsShut_36 (c_nextX hO hR.2.1 (fun M1 f1 m1 => ?_))
    have n1 := (nxt_in (t := t) m1.2.1).1
    have mv1 : MvF G0 M1 := hR.1.tr f1.md.mv
    generalize hD1 : st D 21 w (D 21 w + 1) = D1 at *
    generalize nxt t n b = p at *
    refine c_nNum (D := D1) (lo := fun _ => 0) (hi := fun _ => 71) hO m1 rfl rfl (by decide) (by decide) (fun v1 ev1 v10 v11 M2 f2 m2 g2 => ⟨by decide, fun _ => ⟨by omega, fun M3 e3 => ?_⟩, fun z => absurd (by decide) z⟩) (fun e ee M2 f2 g2 => ⟨by decide, fun z => absurd rfl z, fun _ => h0 e (by rw [ee]; rfl) M2 (mv1.tr f2.mv) g2⟩)
    rw [g2, show 8 + M 313 (12 + w) + s0 = 8 + at0 by omega] at e3
    have f3 : ∀ q k : Int, ¬ (q = 325 ∧ k = 8 + at0) → M3 q k = M2 q k := fun q k a => by rw [e3, st_ne _ _ a]
    have m3 : MdX t n (nxt t n p) M3 := m2.fr (fun k _ _ => f3 _ _ (by omega)) (fun k => f3 _ _ (by omega))
    have mv3 : MvF G0 M3 := (mv1.tr f2.mv).tr (by rw [e3]; exact MvF.st (by unfold MvC; omega))
    have e42 : M3 311 42 = v1 := by rw [f3 _ _ (by omega), g2]
    have eK : pK1 (.inr (nxt t n p, st D1 30 0 v1)) = .inr (nxt t n p, st (st D1 30 0 v1) 30 1 v1) := by
      have : pK1 (.inr (nxt t n p, st D1 30 0 v1)) = .inr (nxt t n p, st (st D1 30 0 v1) 30 1 (st D1 30 0 v1 30 0)) := rfl
      rw [this, st_same]
    rw [ev1, eK] at h0 h1
    have n3 := (nxt_in (t := t) m3.2.1)
    have n4 := (nxt_in (t := t) (n := n) (b := nxt t n (nxt t n p)) (by have := m3.2.1; omega)).1
    generalize hD2 : st (st D1 30 0 v1) 30 1 v1 = D2 at *
    have d31 : D2 30 1 = v1 := by rw [← hD2, st_same]
    generalize nxt t n p = p2 at *
    refine c_nBoth (w := 8) (D := D2) (lo := fun D => D 30 1) (hi := fun _ => 71) hO m3 (by decide) (by decide) (by decide) (show D2 30 1 = M3 311 42 by rw [d31, e42]) rfl (by omega) (by decide) (fun v2 ev2 v20 v21 M4 f4 m4 g4 => ⟨by decide, fun _ M5 e5 => ⟨by omega, fun M6 e6 => ?_⟩, fun z => absurd (by decide) z⟩) (fun e ee M4 f4 g4 => ⟨by decide, fun z => absurd rfl z, fun _ => h0 e (by rw [show ((8 : Nat) : Int) = 8 by decide] at ee; rw [ee]; rfl) M4 (mv3.tr f4.mv) g4⟩)
    rw [show ((8 : Nat) : Int) = 8 by decide] at ev2
    have eD : bnd (.inr (nxt t n (nxt t n p2), st D2 30 0 v2)) (fun b D => .inr (b, shD D (D 30 1) (D 30 0))) = .inr (nxt t n (nxt t n p2), shD (st D2 30 0 v2) v1 v2) := by
      rw [bnd_r, st_same, st_nk _ _ _ (by decide), d31]
    rw [ev2, eD] at h0 h1
    rw [g4, show 8 + M 313 (12 + w) + s0 = 8 + at0 by omega] at e5
    have fM : ∀ q k : Int, ¬ (q = 311 ∧ ((4 ≤ k ∧ k ≤ 9) ∨ k = 42)) → ¬ (q = 325 ∧ k = 8 + at0) → ¬ (q = 326 ∧ k = 8 + at0) → ¬ (q = 313 ∧ k = 12 + w) → M6 q k = M q k := fun q k a1 a2 a3 a4 => by
      rw [e6, st_ne _ _ a4, e5, st_ne _ _ a3, f4 q k a1, f3 q k a2, f2 q k a1, f1 q k (by omega)]
    have fD : ∀ q k : Int, q ≠ 30 → ¬ (q = 21 ∧ k = w) → ¬ (q = 4 ∧ v1 ≤ k ∧ k ≤ v2) → shD (st D2 30 0 v2) v1 v2 q k = D q k := fun q k a1 a2 a3 => by
      unfold shD
      rw [if_neg a3, st_nq _ _ _ _ a1, ← hD2, st_nq _ _ _ _ a1, st_nq _ _ _ _ a1, ← hD1, st_ne _ _ a2]
    have D21 : shD (st D2 30 0 v2) v1 v2 21 w = D 21 w + 1 := by
      unfold shD
      rw [if_neg (by omega), st_nq _ _ _ _ (by decide), ← hD2, st_nq _ _ _ _ (by decide), st_nq _ _ _ _ (by decide), ← hD1, st_same]
    have D4i : ∀ u, v1 ≤ u → u ≤ v2 → shD (st D2 30 0 v2) v1 v2 4 u = 1 := fun u u0 u1 => by
      unfold shD; rw [if_pos ⟨rfl, u0, u1⟩]
    have M325 : M6 325 (8 + at0) = v1 := by
      rw [e6, st_nq _ _ _ _ (by decide), e5, st_nq _ _ _ _ (by decide), f4 _ _ (by omega), e3, st_same]
    have M326 : M6 326 (8 + at0) = v2 := by
      rw [e6, st_nq _ _ _ _ (by decide), e5, st_same]
    have M313 : M6 313 (12 + w) = D 21 w + 1 := by
      rw [e6, st_same, e5, st_nq _ _ _ _ (by decide), f4 _ _ (by omega), f3 _ _ (by omega), f2 _ _ (by omega), f1 _ _ (by omega), n0.1]
    generalize shD (st D2 30 0 v2) v1 v2 = D4 at *
    have m6 : MdX t n (nxt t n (nxt t n p2)) M6 := m4.fr (fun k _ _ => by rw [e6, st_nq _ _ _ _ (by decide), e5, st_nq _ _ _ _ (by decide)]) (fun k => by rw [e6, st_nq _ _ _ _ (by decide), e5, st_nq _ _ _ _ (by decide)])
    obtain ⟨q1, q2, q3, q4, hS, hP, hI, hC, -, hT, hL⟩ := hR
    have r := hS.2.2.2.1
    refine rm_ends hO (b := nxt t n (nxt t n p2)) (D := D4) ⟨q1.tr (fun q k a => fM q k (fun z => a (by unfold MvC; omega)) (fun z => a (by unfold MvC; omega)) (fun z => a (by unfold MvC; omega)) (fun z => a (by unfold MvC; omega))), m6, by rw [fD _ _ (by omega) (by omega) (by omega)]; omega, by rw [fM _ _ (by omega) (by omega) (by omega) (by omega)]; omega, hS.ext (fun k _ _ => fD _ _ (by omega) (by omega) (by omega)) (fun k _ => fM _ _ (by omega) (by omega) (by omega) (by omega)), hP.ext (fun k _ _ => fD _ _ (by omega) (by omega) (by omega)) (fun k _ _ => fM _ _ (by omega) (by omega) (by omega) (by omega)), hI.ext (fD _ _ (by omega) (by omega) (by omega)) (fD _ _ (by omega) (by omega) (by omega)) (fun k => fD _ _ (by omega) (by omega) (by omega)) (fun i k _ _ => fD _ _ (by omega) (by omega) (by omega)) (fun i _ _ => fD _ _ (by omega) (by omega) (by omega)) (fun q i _ _ _ _ => fM _ _ (by omega) (by omega) (by omega) (by omega)) (fun i _ _ => fM _ _ (by omega) (by omega) (by omega) (by omega)), hC.ext (fun k _ _ => fD _ _ (by omega) (by omega) (by omega)) (fun k _ _ => fM _ _ (by omega) (by omega) (by omega) (by omega)), ?_, hT.ext (fun k _ => fD _ _ (by omega) (by omega) (by omega)) (fM _ _ (by omega) (by omega) (by omega) (by omega)), hL.ext (fun k _ _ => fD _ _ (by omega) (by omega) (by omega)) (fun q k _ => fD _ _ (by omega) (by omega) (by omega)) (Int.le_of_eq (fD _ _ (by omega) (by omega) (by omega)).symm) (fun k _ => fD _ _ (by omega) (by omega) (by omega)) (fun q k _ _ _ => fM _ _ (by omega) (by omega) (by omega) (by omega)) (Int.le_of_eq (fM _ _ (by omega) (by omega) (by omega) (by omega)).symm) (fun k _ => fM _ _ (by omega) (by omega) (by omega) (by omega))⟩ h0 (fun b' e bb' M' hM => h1 b' _ M' e (by omega) hM)
    have tk : ∀ k, 0 ≤ k → k < 8 → (TdK D4 k ↔ TdK D k ∨ k = at0) ∧ ¬ (TdK D k ∧ k = at0) := fun k k0 k1 => by
      unfold TdK
      rcases hw9 with rfl | rfl
      · rw [D21, fD 21 10 (by decide) (by decide) (by omega)]
        have := s9 rfl
        omega
      · rw [D21, fD 21 9 (by decide) (by decide) (by omega)]
        have := s10 rfl
        omega
    have o325 : ∀ k, 0 ≤ k → k < 8 → TdK D k → M6 325 (8 + k) = M 325 (8 + k) ∧ M6 326 (8 + k) = M 326 (8 + k) := fun k k0 k1 hk => by
      have : k ≠ at0 := fun z => (tk k k0 k1).2 ⟨hk, z⟩
      exact ⟨fM _ _ (by omega) (by omega) (by omega) (by omega), fM _ _ (by omega) (by omega) (by omega) (by omega)⟩
    have v11' : v1 ≤ 71 := v11
    have v21' : v2 ≤ 71 := v21
    rw [e42] at v20
    refine ⟨?_, ?_, ?_, fun k k0 k1 hk => ?_, fun u u0 u1 => ⟨?_, ?_⟩⟩
    · rcases hw9 with rfl | rfl
      · rw [D21, fD 21 10 (by decide) (by decide) (by omega), fM 313 22 (by decide) (by omega) (by omega) (by decide)]
        exact ⟨M313, B2⟩
      · rw [D21, fD 21 9 (by decide) (by decide) (by omega), fM 313 21 (by decide) (by omega) (by omega) (by decide)]
        exact ⟨B1, M313⟩
    · rcases hw9 with rfl | rfl
      · rw [D21]; omega
      · rw [fD 21 9 (by decide) (by decide) (by omega)]; exact B3
    · rcases hw9 with rfl | rfl
      · rw [fD 21 10 (by decide) (by decide) (by omega)]; exact B4
      · rw [D21]; omega
    · rcases (tk k k0 k1).1.mp hk with hk | rfl
      · rw [(o325 k k0 k1 hk).1, (o325 k k0 k1 hk).2]; exact B5 k k0 k1 hk
      · rw [M325, M326]; omega
    · by_cases c : v1 ≤ u ∧ u ≤ v2
      · rw [D4i u c.1 c.2]; omega
      · rw [fD _ _ (by decide) (by omega) (by omega)]; exact (B6 u u0 u1).1
    · by_cases c : v1 ≤ u ∧ u ≤ v2
      · rw [D4i u c.1 c.2]
        exact ⟨fun _ => ⟨at0, a0.1, a0.2, (tk at0 a0.1 a0.2).1.mpr (Or.inr rfl), by rw [M325, M326]; exact c⟩, fun _ => by decide⟩
      · rw [fD _ _ (by decide) (by omega) (by omega)]
        refine (B6 u u0 u1).2.trans ⟨fun ⟨k, k0, k1, k2, k3⟩ => ⟨k, k0, k1, (tk k k0 k1).1.mpr (Or.inl k2), by rw [(o325 k k0 k1 k2).1, (o325 k k0 k1 k2).2]; exact k3⟩, fun ⟨k, k0, k1, k2, k3⟩ => ?_⟩
        rcases (tk k k0 k1).1.mp k2 with hk | rfl
        · exact ⟨k, k0, k1, hk, by rw [(o325 k k0 k1 hk).1, (o325 k k0 k1 hk).2] at k3; exact k3⟩
        · rw [M325, M326] at k3; exact absurd k3 c
  refine ⟨by omega, fun c => go 0 (fun _ => rfl) (fun z => absurd z c), fun c => go 4 (fun z => by omega) (fun _ => rfl)⟩
/-- a law -/
theorem m_law (hO : TpO t n) (hR : RM G0 t n b D M) (hl : 0 ≤ l ∧ l < 3) (hw : isW t n (13 + l) b) (h0 : ∀ e, pS t n 59 (pItem t n (13 + l) (pT (13 + l) (.inr (b, D)))) = .inl e → ∀ M', MvF G0 M' → M' 311 9 = e → Q 0 M') (h1 : ∀ b' D' M', pS t n 59 (pItem t n (13 + l) (pT (13 + l) (.inr (b, D)))) = .inr (b', D') → b < b' → RM G0 t n b' D' M' → Q 1 M') : Ct (d + 4) M_X12_readsLaw NT 0 0 (some lay) [(2, 311), (0, l)] M Q := by
  have oo := hO.1
  have bb := hR.2.1.2.1
  have b1 := nxt_1 bb (show tkd t n b ≠ 0 by have := hw.1; omega)
  have h27 := hR.2.2.2.1
  have hL := hR.2.2.2.2.2.2.2.2.2.2
  have eI : ∀ r, pItem t n (13 + l) r = pLaw t n l r := fun r => by
    have c : l = 0 ∨ l = 1 ∨ l = 2 := by omega
    rcases c with rfl | rfl | rfl <;> rfl
  rw [eI, pT_in (by omega), if_neg (by omega)] at h0 h1
  have li : InR (M 328 (3 + l)) ∧ InR (M 327 (3 + l)) ∧ (M 328 (3 + l) ≤ M 327 (3 + l) ↔ D 21 (13 + l) = 0) ∧ 0 ≤ D 21 (13 + l) := by
    rcases hL l hl.1 hl.2 with ⟨a1, a2, a3, a4⟩ | ⟨a1, a2, ts, ps, f, x1, x2, x3, x4, x5, x6, x7, x8, x9⟩
    · rw [a3, a4]; omega
    · have ne := x1.ne
      omega
  refine ctof (s_X12_readsLaw_0 ⟨by omega, li.1, li.2.1, fun c M5 e5 => ?_, fun c => c_failsX hR.2.1 (fun M2 f2 g2 => ⟨Or.inl rfl, h0 (3 + 16 * b) (by rw [if_pos ⟨by omega, by omega⟩]; rfl) M2 (hR.1.tr f2.mv) g2⟩)⟩)
  have z21 : D 21 (13 + l) = 0 := li.2.2.1.mp c
  rw [if_neg (by omega)] at h0 h1
  have e1 : ∀ D1, pLaw t n l (.inr (b, D1)) = pFin l (pJr t n (pP t n l 5) 4 (.inr (nxt t n b, st D1 9 l (D1 6 6)))) := fun D1 => by
    unfold pLaw; rw [pW_t hw]; rfl
  rw [e1] at h0 h1
  have f5 : ∀ q k : Int, ¬ (q = 311 ∧ k = 29) → M5 q k = M q k := fun q k a => by rw [e5, st_ne _ _ a]
  refine c_nextX hO (hR.2.1.fr (M' := M5) (fun k _ _ => f5 _ _ (by omega)) (fun k => f5 _ _ (by omega))) (fun M6 f6 m6 M8 e8 => ?_)
  have c27 : M6 311 27 = M 311 27 := by rw [f6 _ _ (by omega), f5 _ _ (by omega)]
  rw [c27] at e8
  have f8 : ∀ q k : Int, ¬ (q = 311 ∧ ((4 ≤ k ∧ k ≤ 8) ∨ k = 29)) → ¬ (q = 327 ∧ k = 3 + l) → M8 q k = M q k := fun q k a1 a2 => by rw [e8, st_ne _ _ a2, f6 _ _ (by omega), f5 _ _ (by omega)]
  have m8 : MdX t n (nxt t n b) M8 := m6.fr (fun k _ _ => by rw [e8, st_nq _ _ _ _ (by decide)]) (fun k => by rw [e8, st_nq _ _ _ _ (by decide)])
  have h66 := hR.2.2.1
  generalize hD2 : st (st D 21 (13 + l) (D 21 (13 + l) + 1)) 9 l (st D 21 (13 + l) (D 21 (13 + l) + 1) 6 6) = D2 at *
  have g66 : st D 21 (13 + l) (D 21 (13 + l) + 1) 6 6 = D 6 6 := st_nq _ _ _ _ (by decide)
  rw [g66] at hD2
  have fD2 : ∀ q k : Int, ¬ (q = 21 ∧ k = 13 + l) → ¬ (q = 9 ∧ k = l) → D2 q k = D q k := fun q k a1 a2 => by rw [← hD2, st_ne _ _ a2, st_ne _ _ a1]
  have d66 : D2 6 6 = D 6 6 := fD2 _ _ (by omega) (by omega)
  have d9 : D2 9 l = D 6 6 := by rw [← hD2, st_same]
  have d21 : D2 21 (13 + l) = 1 := by rw [← hD2, st_nq _ _ _ _ (by decide), st_same, z21]; rfl
  have c8 : M8 311 27 = M 311 27 := f8 _ _ (by omega) (by omega)
  have hE : EI t n l (nxt t n b) D2 M8 := ⟨m8, by rw [e8, st_nq _ _ _ _ (by decide), f6 _ _ (by omega), e5, st_same], by omega, by omega⟩
  have mv8 : MvF G0 M8 := hR.1.tr (fun q k a => f8 q k (fun z => a (by unfold MvC; omega)) (fun z => a (by unfold MvC; omega)))
  generalize nxt t n b = p at *
  refine c_reads (D := D2) hO hl hE (fun e he M' f' e' => ⟨by decide, fun z => absurd rfl z, fun _ => h0 e (by rw [he]; rfl) M' (mv8.tr (EF.mv (by omega) (by omega) f')) e'⟩) (fun b' D' he ns M' f' e' => ⟨by decide, fun z => absurd rfl z, fun _ => h0 (1 + 16 * b') ?_ M' (mv8.tr (EF.mv (by omega) (by omega) f')) e'⟩) (fun b' D' he hs M' m' hg => ⟨by decide, fun _ M13 e13 => ?_, fun z => absurd (by decide) z⟩)
  · rw [he]
    show (@ite PR (isS t n 59 b') (Classical.propDecidable _) (.inr (nxt t n b', _)) (fl 1 b')) = .inl (1 + 16 * b')
    rw [if_neg ns]
    rfl
  obtain ⟨ts, ps, f, hden, hg⟩ := hg
  obtain ⟨g1, g2, g3, g4, g5, g6, g7⟩ := hg
  have ln := hden.len
  have h66E := hE.2.2.2
  have bb' : 0 ≤ b' ∧ b' ≤ n := by
    have x1 : ¬ n ≤ b' := fun y => by have x2 := (tkd_0 (t := t)).mpr y; have x3 := hs.1; omega
    have x4 := hE.1.2.1
    omega
  have nb := (nxt_in (t := t) bb').1
  have eF : pS t n 59 (pFin l (.inr (b', D'))) = .inr (nxt t n b', st (st D' 10 l (D' 6 6)) 8 l 1) := by
    show (@ite PR (isS t n 59 b') (Classical.propDecidable _) (.inr (nxt t n b', st (st D' 10 l (D' 6 6)) 8 l 1)) (fl 1 b')) = _
    rw [if_pos hs]
  rw [he, eF] at h1
  have fM : ∀ q k : Int, ¬ (q = 311 ∧ ((4 ≤ k ∧ k ≤ 9) ∨ k = 27 ∨ k = 29 ∨ k = 42)) → ¬ (q = 329 ∧ M 311 27 ≤ k ∧ k < 2000) → q ≠ 330 → q ≠ 331 → ¬ ((q = 327 ∨ q = 328) ∧ k = 3 + l) → M13 q k = M q k := fun q k a1 a2 a3 a4 a5 => by
    rw [e13, st_ne _ _ (by omega), g1 q k (by omega) (by omega) (by omega) (by omega), f8 q k (by omega) (by omega)]
  have fD : ∀ q k : Int, ¬ (q = 21 ∧ k = 13 + l) → ¬ ((q = 8 ∨ q = 9 ∨ q = 10) ∧ k = l) → ¬ (q = 11 ∧ D 6 6 ≤ k) → ¬ (q = 6 ∧ k = 6) → st (st D' 10 l (D' 6 6)) 8 l 1 q k = D q k := fun q k a1 a2 a3 a4 => by
    rw [st_ne _ _ (by omega), st_ne _ _ (by omega), g2 q k (by omega) a4, fD2 q k a1 (by omega)]
  have x66 : st (st D' 10 l (D' 6 6)) 8 l 1 6 6 = D' 6 6 := by rw [st_nq _ _ _ _ (by decide), st_nq _ _ _ _ (by decide)]
  have x10 : st (st D' 10 l (D' 6 6)) 8 l 1 10 l = D' 6 6 := by rw [st_nq _ _ _ _ (by decide), st_same]
  have x8 : st (st D' 10 l (D' 6 6)) 8 l 1 8 l = 1 := st_same _ _ _ _
  have x9 : st (st D' 10 l (D' 6 6)) 8 l 1 9 l = D 6 6 := by rw [st_nq _ _ _ _ (by decide), st_nq _ _ _ _ (by decide), g2 _ _ (by omega) (by omega), d9]
  have x21 : st (st D' 10 l (D' 6 6)) 8 l 1 21 (13 + l) = 1 := by rw [st_nq _ _ _ _ (by decide), st_nq _ _ _ _ (by decide), g2 _ _ (by omega) (by omega), d21]
  have x11 : ∀ k : Int, st (st D' 10 l (D' 6 6)) 8 l 1 11 k = D' 11 k := fun k => by rw [st_nq _ _ _ _ (by decide), st_nq _ _ _ _ (by decide)]
  generalize st (st D' 10 l (D' 6 6)) 8 l 1 = D5 at *
  have y27 : M13 311 27 = M' 311 27 := by rw [e13, st_nq _ _ _ _ (by decide)]
  have m13 : MdX t n (nxt t n b') M13 := m'.fr (fun k _ _ => by rw [e13, st_nq _ _ _ _ (by decide)]) (fun k => by rw [e13, st_nq _ _ _ _ (by decide)])
  obtain ⟨q1, q2, q3, q4, hS, hP, hI, hC, hB, hT, -⟩ := hR
  have r := hS.2.2.2.1
  refine h1 _ D5 M13 rfl (by omega) ⟨q1.tr (fun q k a => fM q k (fun z => a (by unfold MvC; omega)) (fun z => a (by unfold MvC; omega)) (fun z => a (by unfold MvC; omega)) (fun z => a (by unfold MvC; omega)) (fun z => a (by unfold MvC; omega))), m13, by omega, by omega, hS.ext (fun k _ _ => fD _ _ (by omega) (by omega) (by omega) (by omega)) (fun k _ => fM _ _ (by omega) (by omega) (by omega) (by omega) (by omega)), hP.ext (fun k _ _ => fD _ _ (by omega) (by omega) (by omega) (by omega)) (fun k _ _ => fM _ _ (by omega) (by omega) (by omega) (by omega) (by omega)), hI.ext (fD _ _ (by omega) (by omega) (by omega) (by omega)) (fD _ _ (by omega) (by omega) (by omega) (by omega)) (fun k => fD _ _ (by omega) (by omega) (by omega) (by omega)) (fun i k _ _ => fD _ _ (by omega) (by omega) (by omega) (by omega)) (fun i _ _ => fD _ _ (by omega) (by omega) (by omega) (by omega)) (fun q i _ _ _ _ => fM _ _ (by omega) (by omega) (by omega) (by omega) (by omega)) (fun i _ _ => fM _ _ (by omega) (by omega) (by omega) (by omega) (by omega)), hC.ext (fun k _ _ => fD _ _ (by omega) (by omega) (by omega) (by omega)) (fun k _ _ => fM _ _ (by omega) (by omega) (by omega) (by omega) (by omega)), hB.ext (fD _ _ (by omega) (by omega) (by omega) (by omega)) (fD _ _ (by omega) (by omega) (by omega) (by omega)) (fun k _ _ => fD _ _ (by omega) (by omega) (by omega) (by omega)) (fM _ _ (by omega) (by omega) (by omega) (by omega) (by omega)) (fM _ _ (by omega) (by omega) (by omega) (by omega) (by omega)) (fun q k _ _ _ => fM _ _ (by omega) (by omega) (by omega) (by omega) (by omega)), hT.ext (fun k _ => fD _ _ (by omega) (by omega) (by omega) (by omega)) (fM _ _ (by omega) (by omega) (by omega) (by omega) (by omega)), fun l' l0 l3 => ?_⟩
  by_cases cl : l' = l
  · subst cl
    refine Or.inr ⟨by omega, x8, ts, ps, f, ?_⟩
    rw [x9, x10, x66, funext x11]
    have z327 : M13 327 (3 + l') = M 311 27 := by rw [e13, st_nq _ _ _ _ (by decide), g1 _ _ (by omega) (by omega) (by omega) (by omega), e8, st_same]
    have z328 : M13 328 (3 + l') = M' 311 27 := by rw [e13, st_same]
    have z329 : (fun k => M13 329 k) = fun k => M' 329 k := funext fun k => by rw [e13, st_nq _ _ _ _ (by decide)]
    rw [z327, z328, z329, y27]
    refine ⟨?_, by omega, by omega, by omega, ?_, by omega, by omega, by omega, ?_⟩
    · have c : l' = 0 ∨ l' = 1 ∨ l' = 2 := by omega
      exact hden
    · rw [← d66]; exact g6
    · rw [← c8]; exact g4
  · exact (hL l' l0 l3).ext ⟨l0, l3⟩ (fD _ _ (by omega) (by omega) (by omega) (by omega)) (fun q _ => fD _ _ (by omega) (by omega) (by omega) (by omega)) (by omega) (fun k _ => fD _ _ (by omega) (by omega) (by omega) (by omega)) (fun q _ => fM _ _ (by omega) (by omega) (by omega) (by omega) (by omega)) (by omega) (fun k _ => fM _ _ (by omega) (by omega) (by omega) (by omega) (by omega))
end MSHUT
