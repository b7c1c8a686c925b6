section MSITTERS
variable {d : Nat} {D D' M M' G0 : Mem} {Q : Int → Mem → Prop} {t : Int → Int} {n b b' l i0 : Int}
/-- five sitters have all the seats -/
theorem all5 (hS : RcS D M) (hI : RcI D M) (h5 : D 0 8 = 5) {s : Int} (s0 : 0 ≤ s) (s1 : s < D 0 6) : D 2 s ≠ -1 := by
  intro hs
  have s6 := hS.2.1
  have one : ∀ i, 0 ≤ i → i < 5 → D 2 0 = i ∨ D 2 1 = i ∨ D 2 2 = i ∨ D 2 3 = i ∨ D 2 4 = i := fun i i0 i1 => by
    have h := hI.1 i i0 (by omega)
    have a := h.2.1.2.1
    have e := h.2.2.2.1
    have c : D (13 + i) 1 = 0 ∨ D (13 + i) 1 = 1 ∨ D (13 + i) 1 = 2 ∨ D (13 + i) 1 = 3 ∨ D (13 + i) 1 = 4 := by omega
    rcases c with c | c | c | c | c <;> rw [c] at e <;> omega
  have a0 := one 0 (by omega) (by omega)
  have a1 := one 1 (by omega) (by omega)
  have a2 := one 2 (by omega) (by omega)
  have a3 := one 3 (by omega) (by omega)
  have a4 := one 4 (by omega) (by omega)
  have c : s = 0 ∨ s = 1 ∨ s = 2 ∨ s = 3 ∨ s = 4 := by omega
  rcases c with rfl | rfl | rfl | rfl | rfl <;> omega
theorem m_sitter (hO : TpO t n) (hR : RM G0 t n b D M) (hw : isW t n 2 b) (h0 : ∀ e, pS t n 59 (pItem t n 2 (pT 2 (.inr (b, D)))) = .inl e → ∀ M', MvF G0 M' → M' 311 9 = e → Q 0 M') (h1 : ∀ b' D' M', pS t n 59 (pItem t n 2 (pT 2 (.inr (b, D)))) = .inr (b', D') → b < b' → RM G0 t n b' D' M' → Q 1 M') : Ct (d + 4) M_X12_readsSitter NT 0 0 (some lay) [(2, 311)] M Q := by
  have oo := hO.1
  have bb := hR.2.1.2.1
  have b1 := nxt_1 bb (show tkd t n b ≠ 0 by have := hw.1; omega)
  obtain ⟨D1, hD1⟩ : ∃ D1, D1 = st D 21 2 (D 21 2 + 1) := ⟨_, rfl⟩
  have e1 : pT 2 (.inr (b, D)) = .inr (b, D1) := by rw [pT_in (by omega), if_neg (by omega), if_neg (by omega), hD1]
  have d1 : DmF D D1 := fun q k a e => by rw [hD1, st_ne _ _ (fun z => e ⟨z.1, Or.inr z.2⟩)]
  obtain ⟨i0, hi0⟩ : ∃ i0, i0 = min (D1 0 8) 4 := ⟨_, rfl⟩
  have eI : pS t n 59 (pItem t n 2 (pT 2 (.inr (b, D)))) = kSit t n i0 (pSeat t n 0 (pW t n 3 (pKind t n i0 (pName t n (.inr (nxt t n b, D1)))))) := by
    rw [e1, ← pW_t hw, hi0]; rfl
  rw [eI] at h0 h1
  refine ctof (s_X12_readsSitter_0 (c_nextX hO hR.2.1 (fun M1 f1 m1 => ?_)))
  have R1 : RM G0 t n (nxt t n b) D1 M1 := hR.go f1.md m1 (by omega) d1
  generalize nxt t n b = p at *
  have eNm : pName t n (.inr (p, D1)) = if tkd t n p ≠ 2 ∨ (0 ≤ widx (twd t n p) ∧ widx (twd t n p) < 28) then fl 1 p else @ite PR (∃ i, 0 ≤ i ∧ i < D1 0 8 ∧ D1 20 i = fR 32 (twd t n p)) (Classical.propDecidable _) (fl 3 p) (.inr (nxt t n p, if D1 0 8 < 5 then st D1 20 (D1 0 8) (fR 32 (twd t n p)) else D1)) := rfl
  refine c_isKept m1 (fun hk => ⟨by decide, fun z => absurd z (by decide), fun _ => c_failsX m1 (fun M2 f2 g2 => ⟨Or.inl rfl, h0 (1 + 16 * p) ?_ M2 (R1.1.tr f2.mv) g2⟩)⟩) (fun hk => ⟨by decide, fun _ => ?_, fun z => absurd rfl z⟩)
  · rw [eNm, if_pos hk]; rfl
  rw [if_neg hk] at eNm
  have k2 : tkd t n p = 2 := by omega
  have ok := twd_ok k2
  have w7 := m1.2.2.2.2.2.1 k2
  have hS := R1.2.2.2.2.1
  have hI := R1.2.2.2.2.2.2.1
  have s20 := hS.1.2.2.2.2
  have s6 := hS.2.1
  have s8 := hS.2.2.2.1
  have lw := fR_in (B := 27) (by decide) _ ok.1
  have lp := pow8 ok.2
  -- behind the names
  have B : (∀ j, 0 ≤ j → j < D1 0 8 → D1 20 j ≠ fR 32 (twd t n p)) → Rn (d + 4) M_X12_readsSitter zN 29 [(0, (2, 311)), (1, (0, 5 + M1 313 20)), (2, (0, 5 + D1 0 8))] [] M1 Q := fun hno => by
    rw [if_neg (fun ⟨i, j0, j1, z⟩ => hno i j0 j1 z)] at eNm
    rw [eNm] at h0 h1
    obtain ⟨Dn, hDn⟩ : ∃ Dn, Dn = (if D1 0 8 < 5 then st D1 20 (D1 0 8) (fR 32 (twd t n p)) else D1) := ⟨_, rfl⟩
    rw [← hDn] at h0 h1
    have n1 := nxt_in (t := t) m1.2.1
    refine s_X12_readsSitter_29 ⟨by omega, by omega, fun _ => c_nextX hO m1 (fun M2 f2 m2 => ?_), fun z => absurd (by omega) z⟩
    have R2 : RM G0 t n (nxt t n p) D1 M2 := R1.go f2.md m2 n1.1 DmF.rfl'
    generalize nxt t n p = p2 at *
    have eKd : pKind t n i0 (.inr (p2, Dn)) = if tkd t n p2 ≠ 2 ∨ widx (twd t n p2) < 16 ∨ 20 < widx (twd t n p2) then fl 1 p2 else .inr (nxt t n p2, st Dn (13 + i0) 0 (widx (twd t n p2) - 16)) := rfl
    refine c_kindAt m2 (fun k2' u0 u1 => ⟨by omega, fun _ => c_nextX hO m2 (fun M3 f3 m3 => ?_), fun z => absurd (by omega) z⟩) (fun hk' => ⟨by decide, fun z => absurd z (by decide), fun _ => c_failsX m2 (fun M3 f3 g3 => ⟨Or.inl rfl, h0 (1 + 16 * p2) (by rw [eKd, if_pos hk']; rfl) M3 (R2.1.tr f3.mv) g3⟩)⟩)
    rw [if_neg (by omega)] at eKd
    obtain ⟨k0, hk0⟩ : ∃ k0, k0 = widx (twd t n p2) - 16 := ⟨_, rfl⟩
    rw [← hk0] at eKd
    rw [← hk0]
    rw [eKd] at h0 h1
    obtain ⟨Dk, hDk⟩ : ∃ Dk, Dk = st Dn (13 + i0) 0 k0 := ⟨_, rfl⟩
    rw [← hDk] at h0 h1
    have n2 := nxt_in (t := t) m2.2.1
    have R3 : RM G0 t n (nxt t n p2) D1 M3 := R2.go f3.md m3 n2.1 DmF.rfl'
    have n3 := nxt_in (t := t) m3.2.1
    generalize nxt t n p2 = p3 at *
    refine c_nWord (w := 3) (D := Dk) hO m3 (by decide) (by decide) (by decide) (fun ew M4 f4 m4 => ⟨by decide, fun _ => ?_, fun z => absurd (by decide) z⟩) (fun e ee M4 f4 g4 => ⟨by decide, fun z => absurd rfl z, fun _ => h0 e (by rw [show pW t n 3 (.inr (p3, Dk)) = .inl e from ee]; rfl) M4 (R3.1.tr f4.mv) g4⟩)
    rw [show pW t n 3 (.inr (p3, Dk)) = .inr (nxt t n p3, Dk) from ew] at h0 h1
    have R4 : RM G0 t n (nxt t n p3) D1 M4 := R3.go f4.md m4 n3.1 DmF.rfl'
    generalize nxt t n p3 = p4 at *
    have hS4 := R4.2.2.2.2.1
    have hI4 := R4.2.2.2.2.2.2.1
    have s20' := hS4.1.2.2.2.2
    have s12' := hS4.1.1
    have fDn : ∀ q k : Int, ¬ (q = 20 ∧ k = i0) → Dn q k = D1 q k := fun q k a => by
      rw [hDn]
      by_cases c : D1 0 8 < 5
      · rw [if_pos c, st_ne _ _ (fun z => a ⟨z.1, by omega⟩)]
      · rw [if_neg c]
    have fDk : ∀ q k : Int, ¬ (q = 20 ∧ k = i0) → ¬ (q = 13 + i0 ∧ k = 0) → Dk q k = D1 q k := fun q k a e => by rw [hDk, st_ne _ _ e, fDn q k a]
    have i04 : 0 ≤ i0 ∧ i0 ≤ 4 := by omega
    have dk6 : Dk 0 6 = D1 0 6 := fDk _ _ (by omega) (by omega)
    have dk2 : ∀ k, Dk 2 k = D1 2 k := fun k => fDk _ _ (by omega) (by omega)
    have go : ¬ (tkd t n p4 = 3 ∧ tnm t n p4 < D1 0 6 ∧ D1 2 (tnm t n p4) ≠ -1) → Rn (d + 4) M_X12_readsSitter zN 149 [(0, (2, 311)), (1, (0, 5 + M1 313 20)), (2, (1, M1 311 7)), (4, (0, k0))] [] M4 Q := fun nt => by
      rw [pSeat_f0 (by rw [dk6, dk2]; exact nt)] at h0 h1
      by_cases c : D1 0 8 < 5
      · have ei : i0 = D1 0 8 := by omega
        have Rk : RM G0 t n p4 Dk M4 := R4.ps (i0 := i0) (by omega) ei.symm (fun _ _ _ _ _ => rfl) m4 (Int.le_refl _) (fun q k a1 a2 a3 => fDk q k a2 (by omega))
        rw [s20, ← ei]
        refine m_sit149 hO Rk (by rw [fDk _ _ (by omega) (by omega)]; exact ei.symm) (by omega) (by rw [hDk, st_same]) (by omega) ⟨twd t n p, ok, ?_, w7⟩ (fun k3 k4 => ?_) h0 (fun b' D' M' e hb hM => h1 b' D' M' e (by omega) hM)
        · rw [hDk, st_nq _ _ _ _ (by omega), hDn, if_pos c, ei, st_same]
        · rw [dk6] at k4
          rw [dk2]
          exact Decidable.not_not.mp (fun z => nt ⟨k3, k4, z⟩)
      · have e5 : D1 0 8 = 5 := by omega
        have full := fun k3 k4 => nt ⟨k3, k4, all5 hS4 hI4 e5 (tnm_in k3).1 k4⟩
        unfold kSit at h0
        refine s_X12_readsSitter_149 (c_needsNumber hO m4 (by decide) (by omega) (fun k3 v0 v1 M5 f5 m5 g5 => (full k3 (by omega)).elim) (fun k3 M5 f5 g5 => ⟨by decide, fun z => absurd rfl z, fun _ => h0 (1 + 16 * p4) ?_ M5 (R4.1.tr f5.mv) g5⟩) (fun k3 kv M5 f5 g5 => ⟨by decide, fun z => absurd rfl z, fun _ => h0 (4 + 16 * p4) ?_ M5 (R4.1.tr f5.mv) g5⟩))
        · have eP : pNf t n i0 1 (fun _ => 0) (fun D => D 0 6 - 1) (.inr (p4, Dk)) = .inl (1 + 16 * p4) := by
            have : pV t n (fun _ => 0) (fun D => D 0 6 - 1) (.inr (p4, Dk)) = .inl (1 + 16 * p4) := by
              unfold pV; rw [bnd_r, if_pos k3]; rfl
            unfold pNf pN; rw [this]; rfl
          rw [eP]; rfl
        · have eP : pNf t n i0 1 (fun _ => 0) (fun D => D 0 6 - 1) (.inr (p4, Dk)) = .inl (4 + 16 * p4) := by
            have : pV t n (fun _ => 0) (fun D => D 0 6 - 1) (.inr (p4, Dk)) = .inl (4 + 16 * p4) := by
              unfold pV; rw [bnd_r, if_neg (by omega), if_pos (show tnm t n p4 < 0 ∨ Dk 0 6 - 1 < tnm t n p4 by omega)]; rfl
            unfold pNf pN; rw [this]; rfl
          rw [eP]; rfl
    have r4 := mkd_iff (tkd_r (t := t) (n := n) (b := p4))
    have e6 := m4.2.2.2.2.1
    refine ⟨by omega, fun c => go (fun z => by omega), fun c => ?_⟩
    have k3 : tkd t n p4 = 3 := by omega
    have tm := tnm_in k3
    have e8 := m4.2.2.2.2.2.2 k3
    rw [e8]
    refine c_within (by omega) (by decide) (by omega) (fun y => ⟨by decide, fun z => absurd z (by decide), fun _ => ?_⟩) (fun y => ⟨by decide, fun _ => go (fun z => by omega), fun z => absurd rfl z⟩)
    rw [e8]
    refine c_isTaken (m := D1 0 8) s20' (by omega) (by omega) (fun i j0 j1 => ?_) (fun ht => ⟨by decide, fun z => absurd z (by decide), fun _ => c_failsX m4 (fun M5 f5 g5 => ⟨Or.inl rfl, h0 (3 + 16 * p4) ?_ M5 (R4.1.tr f5.mv) g5⟩)⟩) (fun ht => ⟨by decide, fun _ => go (fun z => ht ?_), fun z => absurd rfl z⟩)
    · have a := hI4.1 i j0 j1
      have a1 := a.1 1 (by omega) (by omega)
      have a2 := a.2.1.2.1
      rw [show (315 : Int) + 1 = 316 by decide] at a1
      omega
    · obtain ⟨i, j0, j1, j2⟩ := ht
      have a := hI4.1 i j0 j1
      have a1 := a.1 1 (by omega) (by omega)
      rw [show (315 : Int) + 1 = 316 by decide] at a1
      have a3 := a.2.2.2.1
      have : D1 (13 + i) 1 = tnm t n p4 := by omega
      rw [this] at a3
      rw [pSeat_t0 k3 (by omega) (by rw [dk2]; omega)]
      rfl
    · rcases hI4.2 (tnm t n p4) (by omega) (by omega) with x | ⟨x1, x2, x3⟩
      · exact absurd x z.2.2
      · refine ⟨D1 2 (tnm t n p4), x1, x2, ?_⟩
        have a1 := (hI4.1 _ x1 x2).1 1 (by omega) (by omega)
        rw [show (315 : Int) + 1 = 316 by decide] at a1
        omega
  have key : ∀ k i : Nat, (i : Int) + (k : Int) = D1 0 8 → (∀ j, 0 ≤ j → j < (i : Int) → D1 20 j ≠ fR 32 (twd t n p)) → Rn (d + 4) M_X12_readsSitter zN 29 [(0, (2, 311)), (1, (0, 5 + M1 313 20)), (2, (0, 5 + (i : Int)))] [] M1 Q := by
    intro k
    induction k with
    | zero =>
      intro i hi hno
      rw [show (i : Int) = D1 0 8 by omega] at hno ⊢
      exact B hno
    | succ k ih =>
      intro i hi hno
      obtain ⟨L, l1, l2, l3⟩ := (hI.1 (i : Int) (by omega) (by omega)).2.2.2.2
      have li := fR_in (B := 27) (by decide) _ l1.1
      have lq := pow8 l1.2
      refine s_X12_readsSitter_29 ⟨by omega, by omega, fun z => absurd z (by omega), fun _ => ⟨by omega, ?_⟩⟩
      rw [show 5 + (i : Int) - 5 = (i : Int) by omega, l3, w7]
      refine ⟨by omega, by omega, fun c => ?_, fun c => c_failsX m1 (fun M2 f2 g2 => ⟨Or.inl rfl, h0 (3 + 16 * p) ?_ M2 (R1.1.tr f2.mv) g2⟩)⟩
      · rw [show 5 + (i : Int) + 1 = 5 + ((i + 1 : Nat) : Int) by omega]
        refine ih (i + 1) (by omega) (fun j j0 j1 => ?_)
        by_cases hj : j = (i : Int)
        · rw [hj, l2]
          exact fun z => c (by rw [fR_inj (B := 32) (by decide) _ _ l1.1 ok.1 z])
        · exact hno j j0 (by omega)
      · have e := fR_inj (B := 27) (by decide) _ _ l1.1 ok.1 (Decidable.not_not.mp c)
        rw [eNm, if_pos ⟨(i : Int), by omega, by omega, by rw [l2, e]⟩]
        rfl
  have z := key (D1 0 8).toNat 0 (by omega) (fun j j0 j1 => absurd j1 (by omega))
  exact z
end MSITTERS
