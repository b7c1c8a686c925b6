section MSITTER
variable {d : Nat} {D D' M M' G0 : Mem} {Q : Int → Mem → Prop} {t : Int → Int} {n b b' l i0 : Int}
noncomputable def kSit (t : Int → Int) (n i0 : Int) (r : PR) : PR := pS t n 59 (pEnd i0 (pSit3 t n i0 (pSit2 t n i0 (pNf t n i0 1 (fun _ => 0) (fun D => D 0 6 - 1) r))))
/-- from the seat's number on -/
theorem m_sit149 {k0 nm : Int} (hO : TpO t n) (hR : RM G0 t n b D M) (h8 : D 0 8 = i0) (hi : 0 ≤ i0 ∧ i0 < 5) (hk : D (13 + i0) 0 = k0) (k04 : 0 ≤ k0 ∧ k0 ≤ 4) (hN : ∃ L, (WdOk L ∧ L.length ≤ 8) ∧ D 20 i0 = fR 32 L ∧ nm = fR 27 L) (hf : tkd t n b = 3 → tnm t n b < D 0 6 → D 2 (tnm t n b) = -1) (h0 : ∀ e, kSit t n i0 (.inr (b, D)) = .inl e → ∀ M', MvF G0 M' → M' 311 9 = e → Q 0 M') (h1 : ∀ b' D' M', kSit t n i0 (.inr (b, D)) = .inr (b', D') → b ≤ b' → RM G0 t n b' D' M' → Q 1 M') : Rn (d + 4) M_X12_readsSitter zN 149 [(0, (2, 311)), (1, (0, 5 + i0)), (2, (1, nm)), (4, (0, k0))] [] M Q := by
  have oo := hO.1
  have hS := hR.2.2.2.2.1
  have s6 := hS.2.1
  have s12 := hS.1.1
  unfold kSit at h0 h1
  refine s_X12_readsSitter_149 (c_needsNumber hO hR.2.1 (by decide) (by omega) (fun k3 v0 v1 M1 f1 m1 g1 => ⟨by decide, fun _ => ⟨by omega, fun M6 e6 => ⟨by omega, fun M8 e8 M9 e9 => ?_⟩⟩, fun z => absurd (by decide) z⟩) (fun k3 M1 f1 g1 => ⟨by decide, fun z => absurd rfl z, fun _ => h0 (1 + 16 * b) ?_ M1 (hR.1.tr f1.mv) g1⟩) (fun k3 kv M1 f1 g1 => ⟨by decide, fun z => absurd rfl z, fun _ => h0 (4 + 16 * b) ?_ M1 (hR.1.tr f1.mv) g1⟩))
  · obtain ⟨v, hv⟩ : ∃ v, v = tnm t n b := ⟨_, rfl⟩
    rw [← hv] at v0 v1 g1
    have fr := hf k3 (by omega)
    rw [← hv] at fr
    have eP : pNf t n i0 1 (fun _ => 0) (fun D => D 0 6 - 1) (.inr (b, D)) = .inr (nxt t n b, st (st D 30 0 v) (13 + i0) 1 v) := by
      have : pV t n (fun _ => 0) (fun D => D 0 6 - 1) (.inr (b, D)) = .inr (nxt t n b, st D 30 0 v) := by
        unfold pV; rw [bnd_r, if_neg (by omega), if_neg (show ¬ (tnm t n b < 0 ∨ D 0 6 - 1 < tnm t n b) by omega), ← hv]
      unfold pNf pN; rw [this, bnd_r, st_same]
    rw [eP] at h0 h1
    have n1 := (nxt_in (t := t) hR.2.1.2.1).1
    have z85 : M8 311 42 = v := by rw [e8, st_nq _ _ _ _ (by decide), e6, st_nq _ _ _ _ (by decide), g1]
    rw [z85] at e9
    rw [show 5 + i0 - 5 = i0 by omega] at e6
    have f9 : ∀ q k : Int, ¬ (q = 314 ∧ k = i0) → ¬ ((q = 315 ∨ q = 316) ∧ k = 5 + i0) → M9 q k = M1 q k := fun q k a1 a2 => by
      rw [e9, st_ne _ _ (by omega), e8, st_ne _ _ (by omega), e6, st_ne _ _ a1]
    have m9 : MdX t n (nxt t n b) M9 := m1.fr (fun k _ _ => f9 _ _ (by omega) (by omega)) (fun k => f9 _ _ (by omega) (by omega))
    have fs : MsF i0 M M9 := fun q k a1 a2 a3 => by rw [f9 _ _ a2 (by omega)]; exact f1 q k a1
    obtain ⟨L, l1, l2, l3⟩ := hN
    obtain ⟨D2, hD2⟩ : ∃ D2, D2 = st (st D 30 0 v) (13 + i0) 1 v := ⟨_, rfl⟩
    rw [← hD2] at h0 h1
    have fD : ∀ q k : Int, q ≠ 30 → ¬ (q = 13 + i0 ∧ k = 1) → D2 q k = D q k := fun q k a1 a2 => by rw [hD2, st_ne _ _ a2, st_nq _ _ _ _ a1]
    have d1 : D2 (13 + i0) 1 = v := by rw [hD2, st_same]
    have S2 : SS G0 t n i0 2 (nxt t n b) D2 M9 := by
      refine ⟨hR.ps hi h8 fs m9 n1 (fun q k a1 a2 a3 => fD q k a1 (by omega)), by rw [fD _ _ (by decide) (by omega)]; exact h8, hi, fun k k0' k1 => ?_, ⟨L, l1, by rw [fD _ _ (by decide) (by omega)]; exact l2, ?_⟩, by rw [d1, fD _ _ (by decide) (by omega)]; omega, by rw [d1, fD _ _ (by decide) (by omega)]; exact fr⟩
      · have c : k = 0 ∨ k = 1 := by omega
        rcases c with rfl | rfl
        · refine ⟨?_, ?_, ?_⟩
          · rw [show (315 : Int) + 0 = 315 by decide, fD _ _ (by omega) (by omega), hk, e9, st_nq _ _ _ _ (by decide), e8, st_same]
          · show rgl _ 0 ≤ D2 (13 + i0) 0
            rw [fD _ _ (by omega) (by omega), hk]
            simp only [rgl, Int.reduceEq, or_self, reduceIte]; omega
          · rw [fD _ _ (by omega) (by omega), hk]
            simp only [rgh, Int.reduceEq, true_or, or_true, reduceIte]; omega
        · refine ⟨?_, ?_, ?_⟩
          · rw [show (315 : Int) + 1 = 316 by decide, d1, e9, st_same]
          · show rgl _ 1 ≤ D2 (13 + i0) 1
            rw [d1]
            simp only [rgl, Int.reduceEq, or_self, reduceIte]; omega
          · rw [d1]
            simp only [rgh, Int.reduceEq, true_or, or_true, reduceIte]; omega
      · rw [e9, st_nq _ _ _ _ (by decide), e8, st_nq _ _ _ _ (by decide), e6, st_same]; exact l3
    generalize nxt t n b = p at *
    have e2 : ∀ r, pSit2 t n i0 r = pNf t n i0 4 (fun _ => 1) (fun _ => 99) (pW t n 6 (pNf t n i0 3 (fun _ => 1) (fun _ => 99) (pW t n 5 (pNf t n i0 2 (fun _ => 0) (fun _ => 9) (pW t n 4 r))))) := fun _ => rfl
    have e3 : ∀ r, pSit3 t n i0 r = pNf t n i0 8 (fun D => D (13 + i0) 7) (fun _ => 72) (pW t n 8 (pNf t n i0 7 (fun _ => 0) (fun _ => 72) (pW t n 7 (pNf t n i0 6 (fun _ => 20) (fun _ => 40) (pW t n 25 (pNf t n i0 5 (fun _ => 0) (fun _ => 9) (pW t n 24 r))))))) := fun _ => rfl
    rw [e2, e3] at h0 h1
    refine m_fld (w := 4) (j := 2) (lo := fun _ => 0) (hi := fun _ => 9) hO S2 (by omega) (by decide) (by decide) (by decide) rfl rfl rfl rfl (by decide) (by decide) (fun b3 D3 M10 x3 y3 T3 => ⟨by decide, fun _ M14 z3 => ?_, fun z => absurd (by decide) z⟩) (fun e ee M2 f2 g2 => ⟨by decide, fun z => absurd rfl z, fun _ => h0 e (by rw [show pNf t n i0 2 (fun _ => 0) (fun _ => 9) (pW t n 4 (.inr (p, D2))) = .inl e from ee]; rfl) M2 f2 g2⟩)
    rw [show pNf t n i0 2 (fun _ => 0) (fun _ => 9) (pW t n 4 (.inr (p, D2))) = .inr (b3, D3) from x3] at h0 h1
    have S3 := T3 M14 z3
    clear T3 z3 x3
    refine m_fld (w := 5) (j := 3) (lo := fun _ => 1) (hi := fun _ => 99) hO S3 (by omega) (by decide) (by decide) (by decide) rfl rfl rfl rfl (by decide) (by decide) (fun b4 D4 M10 x3 y4 T3 => ⟨by decide, fun _ M14 z3 => ?_, fun z => absurd (by decide) z⟩) (fun e ee M2 f2 g2 => ⟨by decide, fun z => absurd rfl z, fun _ => h0 e (by rw [show pNf t n i0 3 (fun _ => 1) (fun _ => 99) (pW t n 5 (.inr (b3, D3))) = .inl e from ee]; rfl) M2 f2 g2⟩)
    rw [show pNf t n i0 3 (fun _ => 1) (fun _ => 99) (pW t n 5 (.inr (b3, D3))) = .inr (b4, D4) from x3] at h0 h1
    have S4 := T3 M14 z3
    clear T3 z3 x3 S3
    refine m_fld (w := 6) (j := 4) (lo := fun _ => 1) (hi := fun _ => 99) hO S4 (by omega) (by decide) (by decide) (by decide) rfl rfl rfl rfl (by decide) (by decide) (fun b5 D5 M10 x3 y5 T3 => ⟨by decide, fun _ M14 z3 => ?_, fun z => absurd (by decide) z⟩) (fun e ee M2 f2 g2 => ⟨by decide, fun z => absurd rfl z, fun _ => h0 e (by rw [show pNf t n i0 4 (fun _ => 1) (fun _ => 99) (pW t n 6 (.inr (b4, D4))) = .inl e from ee]; rfl) M2 f2 g2⟩)
    rw [show pNf t n i0 4 (fun _ => 1) (fun _ => 99) (pW t n 6 (.inr (b4, D4))) = .inr (b5, D5) from x3] at h0 h1
    have S5 := T3 M14 z3
    clear T3 z3 x3 S4
    refine m_fld (w := 24) (j := 5) (lo := fun _ => 0) (hi := fun _ => 9) hO S5 (by omega) (by decide) (by decide) (by decide) rfl rfl rfl rfl (by decide) (by decide) (fun b6 D6 M10 x3 y6 T3 => ⟨by decide, fun _ M14 z3 => ?_, fun z => absurd (by decide) z⟩) (fun e ee M2 f2 g2 => ⟨by decide, fun z => absurd rfl z, fun _ => h0 e (by rw [show pNf t n i0 5 (fun _ => 0) (fun _ => 9) (pW t n 24 (.inr (b5, D5))) = .inl e from ee]; rfl) M2 f2 g2⟩)
    rw [show pNf t n i0 5 (fun _ => 0) (fun _ => 9) (pW t n 24 (.inr (b5, D5))) = .inr (b6, D6) from x3] at h0 h1
    have S6 := T3 M14 z3
    clear T3 z3 x3 S5
    refine m_fld (w := 25) (j := 6) (lo := fun _ => 20) (hi := fun _ => 40) hO S6 (by omega) (by decide) (by decide) (by decide) rfl rfl rfl rfl (by decide) (by decide) (fun b7 D7 M10 x3 y7 T3 => ⟨by decide, fun _ M14 z3 => ?_, fun z => absurd (by decide) z⟩) (fun e ee M2 f2 g2 => ⟨by decide, fun z => absurd rfl z, fun _ => h0 e (by rw [show pNf t n i0 6 (fun _ => 20) (fun _ => 40) (pW t n 25 (.inr (b6, D6))) = .inl e from ee]; rfl) M2 f2 g2⟩)
    rw [show pNf t n i0 6 (fun _ => 20) (fun _ => 40) (pW t n 25 (.inr (b6, D6))) = .inr (b7, D7) from x3] at h0 h1
    have S7 := T3 M14 z3
    clear T3 z3 x3 S6
    refine m_fld (w := 7) (j := 7) (lo := fun _ => 0) (hi := fun _ => 72) hO S7 (by omega) (by decide) (by decide) (by decide) rfl rfl rfl rfl (by decide) (by decide) (fun b8 D8 M10 x3 y8 T3 => ⟨by decide, fun _ M14 z3 => ?_, fun z => absurd (by decide) z⟩) (fun e ee M2 f2 g2 => ⟨by decide, fun z => absurd rfl z, fun _ => h0 e (by rw [show pNf t n i0 7 (fun _ => 0) (fun _ => 72) (pW t n 7 (.inr (b7, D7))) = .inl e from ee]; rfl) M2 f2 g2⟩)
    rw [show pNf t n i0 7 (fun _ => 0) (fun _ => 72) (pW t n 7 (.inr (b7, D7))) = .inr (b8, D8) from x3] at h0 h1
    have S8 := T3 M14 z3
    clear T3 z3 x3 S7
    have q7 := (S8.2.2.2.1 7 (by omega) (by omega))
    simp only [rgl, rgh, Int.reduceEq, Int.reduceAdd, or_self, or_true, true_or, or_false, false_or, reduceIte] at q7
    refine m_fld (w := 8) (j := 8) (lo := fun D => D (13 + i0) 7) (hi := fun _ => 72) hO S8 (by omega) (by decide) (by decide) (by decide) q7.1.symm rfl q7.1.symm rfl (by omega) (by decide) (fun b9 D9 M10 x3 y9 T3 => ⟨by decide, fun _ M14 z3 => ?_, fun z => absurd (by decide) z⟩) (fun e ee M2 f2 g2 => ⟨by decide, fun z => absurd rfl z, fun _ => h0 e (by rw [show pNf t n i0 8 (fun D => D (13 + i0) 7) (fun _ => 72) (pW t n 8 (.inr (b8, D8))) = .inl e from ee]; rfl) M2 f2 g2⟩)
    rw [show pNf t n i0 8 (fun D => D (13 + i0) 7) (fun _ => 72) (pW t n 8 (.inr (b8, D8))) = .inr (b9, D9) from x3] at h0 h1
    have S9 := T3 M14 z3
    exact m_sit9 hO S9 h0 (fun b' D' M' e hb hM => h1 b' D' M' e (by omega) hM)
  · have eP : pNf t n i0 1 (fun _ => 0) (fun D => D 0 6 - 1) (.inr (b, D)) = .inl (1 + 16 * b) := by
      have : pV t n (fun _ => 0) (fun D => D 0 6 - 1) (.inr (b, D)) = .inl (1 + 16 * b) := by
        unfold pV; rw [bnd_r, if_pos k3]; rfl
      unfold pNf pN; rw [this]; rfl
    rw [eP]; rfl
  · have eP : pNf t n i0 1 (fun _ => 0) (fun D => D 0 6 - 1) (.inr (b, D)) = .inl (4 + 16 * b) := by
      have : pV t n (fun _ => 0) (fun D => D 0 6 - 1) (.inr (b, D)) = .inl (4 + 16 * b) := by
        unfold pV; rw [bnd_r, if_neg (by omega), if_pos (show tnm t n b < 0 ∨ D 0 6 - 1 < tnm t n b by omega)]; rfl
      unfold pNf pN; rw [this]; rfl
    rw [eP]; rfl
end MSITTER
