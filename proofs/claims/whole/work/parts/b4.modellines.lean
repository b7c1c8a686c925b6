section MLINES
variable {d : Nat} {D D' M M' G0 : Mem} {Q : Int → Mem → Prop} {t : Int → Int} {n b b' l w : Int}
def DmF (D D' : Mem) : Prop := ∀ q k : Int, q ≠ 30 → ¬ (q = 21 ∧ (k = 26 ∨ k = 2)) → D' q k = D q k
theorem DmF.rfl' : DmF D D := fun _ _ _ _ => rfl
theorem RC.dm (h : RC D M) (e : DmF D D') : RC D' M := by
  obtain ⟨hS, hP, hI, hC, hB, hT, hL⟩ := h
  have r := hS.2.2.2.1
  exact ⟨hS.ext (fun k _ _ => e _ _ (by omega) (by omega)) (fun _ _ => rfl), hP.ext (fun k _ _ => e _ _ (by omega) (by omega)) (fun _ _ _ => rfl), hI.ext (e _ _ (by omega) (by omega)) (e _ _ (by omega) (by omega)) (fun k => e _ _ (by omega) (by omega)) (fun i k _ _ => e _ _ (by omega) (by omega)) (fun i _ _ => e _ _ (by omega) (by omega)) (fun _ _ _ _ _ _ => rfl) (fun _ _ _ => rfl), hC.ext (fun k _ _ => e _ _ (by omega) (by omega)) (fun _ _ _ => rfl), hB.ext (e _ _ (by omega) (by omega)) (e _ _ (by omega) (by omega)) (fun k _ _ => e _ _ (by omega) (by omega)) rfl rfl (fun _ _ _ _ _ => rfl), hT.ext (fun k _ => e _ _ (by omega) (by omega)) rfl, hL.ext (fun k _ _ => e _ _ (by omega) (by omega)) (fun q k _ => e _ _ (by omega) (by omega)) (Int.le_of_eq (e _ _ (by omega) (by omega)).symm) (fun k _ => e _ _ (by omega) (by omega)) (fun _ _ _ _ _ => rfl) (Int.le_refl _) (fun _ _ => rfl)⟩
theorem RC.m (h : RC D M) (f : ∀ q k : Int, ¬ (q = 311 ∧ ((3 ≤ k ∧ k ≤ 9) ∨ k = 42 ∨ k = 29)) → q ≠ 330 → q ≠ 331 → M' q k = M q k) : RC D M' := by
  obtain ⟨hS, hP, hI, hC, hB, hT, hL⟩ := h
  exact ⟨hS.ext (fun _ _ _ => rfl) (fun k _ => f _ _ (by omega) (by omega) (by omega)), hP.ext (fun _ _ _ => rfl) (fun k _ _ => f _ _ (by omega) (by omega) (by omega)), hI.ext rfl rfl (fun _ => rfl) (fun _ _ _ _ => rfl) (fun _ _ _ => rfl) (fun q i _ _ _ _ => f _ _ (by omega) (by omega) (by omega)) (fun i _ _ => f _ _ (by omega) (by omega) (by omega)), hC.ext (fun _ _ _ => rfl) (fun k _ _ => f _ _ (by omega) (by omega) (by omega)), hB.ext rfl rfl (fun _ _ _ => rfl) (f _ _ (by omega) (by omega) (by omega)) (f _ _ (by omega) (by omega) (by omega)) (fun q k _ _ _ => f _ _ (by omega) (by omega) (by omega)), hT.ext (fun _ _ => rfl) (f _ _ (by omega) (by omega) (by omega)), hL.ext (fun _ _ _ => rfl) (fun _ _ _ => rfl) (Int.le_refl _) (fun _ _ => rfl) (fun q k _ _ _ => f _ _ (by omega) (by omega) (by omega)) (Int.le_of_eq (f _ _ (by omega) (by omega) (by omega)).symm) (fun k _ => f _ _ (by omega) (by omega) (by omega))⟩
theorem RC.md (h : RC D M) (f : MdF M M') : RC D M' := h.m (fun q k a _ _ => f q k (by omega))
/-- another token, nothing told -/
theorem RM.go (h : RM G0 t n b D M) (f : MdF M M') (m : MdX t n b' M') (hb : b ≤ b') (e : DmF D D') : RM G0 t n b' D' M' := by
  obtain ⟨h1, h2, h3, h4, h5⟩ := h
  have a := f 311 27 (by omega)
  have c := e 6 6 (by omega) (by omega)
  exact ⟨h1.tr f.mv, m, by omega, by omega, (h5.dm e).md f⟩
theorem rm_ends (hO : TpO t n) (hR : RM G0 t n b D M) (h0 : ∀ e, pS t n 59 (.inr (b, D)) = .inl e → ∀ M', MvF G0 M' → M' 311 9 = e → Q 0 M') (h1 : ∀ b', pS t n 59 (.inr (b, D)) = .inr (b', D) → b ≤ b' → ∀ M', RM G0 t n b' D M' → Q 1 M') : Ct (d + 2) M_X12_ends NT 0 0 (some lay) [(2, 311)] M (fun r M' => (r = 0 ∨ r = 1) ∧ Q r M') :=
  c_nEnds (D := D) hO hR.2.1 (fun e M2 f2 m2 => ⟨Or.inr rfl, h1 _ e (nxt_in hR.2.1.2.1).1 M2 (hR.go f2.md m2 (nxt_in hR.2.1.2.1).1 DmF.rfl')⟩) (fun e ee M2 f2 g2 => ⟨Or.inl rfl, h0 e ee M2 (hR.1.tr f2.mv) g2⟩)
theorem pSeat_t0 (h1 : tkd t n b = 3) (h2 : tnm t n b < D 0 6) (h3 : D 2 (tnm t n b) ≠ -1) : pSeat t n 0 (.inr (b, D)) = fl 3 b := by unfold pSeat; rw [bnd_r]; exact if_pos ⟨h1, h2, by rw [if_pos rfl]; exact h3⟩
theorem pSeat_f0 (h : ¬ (tkd t n b = 3 ∧ tnm t n b < D 0 6 ∧ D 2 (tnm t n b) ≠ -1)) : pSeat t n 0 (.inr (b, D)) = .inr (b, D) := by unfold pSeat; rw [bnd_r]; exact if_neg (fun z => h ⟨z.1, z.2.1, by have := z.2.2; rw [if_pos rfl] at this; exact this⟩)
theorem pSeat_t1 (h1 : tkd t n b = 3) (h2 : tnm t n b < D 0 6) (h3 : D 3 (tnm t n b) ≠ 0) : pSeat t n 1 (.inr (b, D)) = fl 3 b := by unfold pSeat; rw [bnd_r]; exact if_pos ⟨h1, h2, by rw [if_neg (by decide)]; exact h3⟩
theorem pSeat_f1 (h : ¬ (tkd t n b = 3 ∧ tnm t n b < D 0 6 ∧ D 3 (tnm t n b) ≠ 0)) : pSeat t n 1 (.inr (b, D)) = .inr (b, D) := by unfold pSeat; rw [bnd_r]; exact if_neg (fun z => h ⟨z.1, z.2.1, by have := z.2.2; rw [if_neg (by decide)] at this; exact this⟩)
theorem m_cup (hO : TpO t n) (hR : RM G0 t n b D M) (hw : isW t n 26 b) (h0 : ∀ e, pS t n 59 (pItem t n 26 (pT 26 (.inr (b, D)))) = .inl e → ∀ M', MvF G0 M' → M' 311 9 = e → Q 0 M') (h1 : ∀ b' D' M', pS t n 59 (pItem t n 26 (pT 26 (.inr (b, D)))) = .inr (b', D') → b < b' → RM G0 t n b' D' M' → Q 1 M') : Ct (d + 4) M_X12_readsCup NT 0 0 (some lay) [(2, 311)] M Q := by
  have oo := hO.1
  have bb := hR.2.1.2.1
  obtain ⟨D1, hD1⟩ : ∃ D1, D1 = st D 21 26 (D 21 26 + 1) := ⟨_, rfl⟩
  have e1 : pT 26 (.inr (b, D)) = .inr (b, D1) := by rw [pT_in (by omega), if_neg (by omega), if_neg (by omega), hD1]
  have eI : pItem t n 26 (pT 26 (.inr (b, D))) = bnd (pV t n (fun _ => 0) (fun D => D 0 6 - 1) (pSeat t n 1 (.inr (nxt t n b, D1)))) (fun b D => .inr (b, st D 3 (D 30 0) 1)) := by
    rw [e1, ← pW_t hw]; rfl
  rw [eI] at h0 h1
  have d1 : DmF D D1 := fun q k a e => by rw [hD1, st_ne _ _ (fun z => e ⟨z.1, Or.inl z.2⟩)]
  have b1 := nxt_1 bb (show tkd t n b ≠ 0 by have := hw.1; omega)
  refine ctof (s_X12_readsCup_0 (c_nextX hO hR.2.1 (fun M1 f1 m1 => ?_)))
  have R1 : RM G0 t n (nxt t n b) D1 M1 := hR.go f1.md m1 (by omega) d1
  generalize nxt t n b = p at *
  have hS := R1.2.2.2.2.1
  have hC := R1.2.2.2.2.2.2.2.1
  have r := mkd_iff (tkd_r (t := t) (n := n) (b := p))
  have s6 := hS.2.1
  have s12 := hS.1.1
  have go : pSeat t n 1 (.inr (p, D1)) = .inr (p, D1) → Rn (d + 4) M_X12_readsCup zN 53 [(0, (2, 311))] [] M1 Q := fun es => by
    rw [es] at h0 h1
    refine s_X12_readsCup_53 (c_nNum (D := D1) (lo := fun _ => 0) (hi := fun D => D 0 6 - 1) hO m1 rfl (show D1 0 6 - 1 = M1 313 12 - 1 by rw [hS.1.1]) (by decide) (by omega) (fun v ev v0 v1 M2 f2 m2 g2 => ⟨by decide, fun _ => ⟨by omega, fun M6 e6 => ?_⟩, fun z => absurd (by decide) z⟩) (fun e ee M2 f2 g2 => ⟨by decide, fun z => absurd rfl z, fun _ => h0 e (by rw [ee]; rfl) M2 (R1.1.tr f2.mv) g2⟩))
    rw [ev] at h0 h1
    rw [g2] at e6
    have R2 : RM G0 t n (nxt t n p) (st D1 30 0 v) M2 := R1.go f2 m2 (nxt_in m1.2.1).1 (fun q k a _ => st_nq _ _ _ _ a)
    have n1 := (nxt_in (t := t) m1.2.1).1
    have eD : bnd (.inr (nxt t n p, st D1 30 0 v)) (fun b D => .inr (b, st D 3 (D 30 0) 1)) = .inr (nxt t n p, st (st D1 30 0 v) 3 v 1) := by rw [bnd_r, st_same]
    rw [eD] at h0 h1
    obtain ⟨q1, q2, q3, q4, hS2, hP, hI, hC2, hB, hT, hL⟩ := R2
    have v5 : v < 5 := by omega
    have fM : ∀ q k : Int, ¬ (q = 324 ∧ k = 5 + v) → M6 q k = M2 q k := fun q k a => by rw [e6, st_ne _ _ a]
    have fD : ∀ q k : Int, ¬ (q = 3 ∧ k = v) → st (st D1 30 0 v) 3 v 1 q k = st D1 30 0 v q k := fun q k a => st_ne _ _ a
    refine rm_ends hO (b := nxt t n p) (D := st (st D1 30 0 v) 3 v 1) ⟨q1.tr (by rw [e6]; exact MvF.st (by unfold MvC; omega)), q2.fr (fun k _ _ => fM _ _ (by omega)) (fun k => fM _ _ (by omega)), by rw [fD _ _ (by omega)]; exact q3, by rw [fM _ _ (by omega)]; exact q4, hS2.ext (fun k _ _ => fD _ _ (by omega)) (fun k _ => fM _ _ (by omega)), hP.ext (fun k _ _ => fD _ _ (by omega)) (fun k _ _ => fM _ _ (by omega)), hI.ext (fD _ _ (by omega)) (fD _ _ (by omega)) (fun k => fD _ _ (by omega)) (fun i k _ _ => fD _ _ (by omega)) (fun i _ _ => fD _ _ (by omega)) (fun q i _ _ _ _ => fM _ _ (by omega)) (fun i _ _ => fM _ _ (by omega)), fun s s0 s5 => ?_, hB.ext (fD _ _ (by omega)) (fD _ _ (by omega)) (fun k _ _ => fD _ _ (by omega)) (fM _ _ (by omega)) (fM _ _ (by omega)) (fun q k _ _ _ => fM _ _ (by omega)), hT.ext (fun k _ => fD _ _ (by omega)) (fM _ _ (by omega)), hL.ext (fun k _ _ => fD _ _ (by omega)) (fun q k _ => fD _ _ (by omega)) (Int.le_of_eq (fD _ _ (by omega)).symm) (fun k _ => fD _ _ (by omega)) (fun q k _ _ _ => fM _ _ (by omega)) (Int.le_of_eq (fM _ _ (by omega)).symm) (fun k _ => fM _ _ (by omega))⟩ h0 (fun b' e bb' M' hM => h1 b' _ M' e (by omega) hM)
    by_cases c : s = v
    · rw [c, e6, st_same, st_same]; omega
    · rw [fM _ _ (by omega), fD _ _ (by omega)]; exact hC2 s s0 s5
  have e6 := m1.2.2.2.2.1
  refine ⟨by omega, fun c => go (pSeat_f1 (fun z => by omega)), fun c => ?_⟩
  have k3 : tkd t n p = 3 := by omega
  have tm := tnm_in k3
  have e8 := m1.2.2.2.2.2.2 k3
  rw [e8]
  refine c_within (by omega) (by decide) (by omega) (fun y => ⟨by decide, fun z => absurd z (by decide), fun _ => ⟨by omega, ?_⟩⟩) (fun y => ⟨by decide, fun _ => go (pSeat_f1 (fun z => by omega)), fun z => absurd rfl z⟩)
  have hc := hC (tnm t n p) (by omega) (by omega)
  rw [e8, hc.1]
  refine ⟨by omega, fun c => go (pSeat_f1 (fun z => by omega)), fun c => c_failsX m1 (fun M2 f2 g2 => ⟨Or.inl rfl, h0 (3 + 16 * p) ?_ M2 (R1.1.tr f2.mv) g2⟩)⟩
  rw [pSeat_t1 k3 (by omega) (by omega)]
  rfl
end MLINES
