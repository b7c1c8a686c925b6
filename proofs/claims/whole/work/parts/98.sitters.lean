section SITS
variable {d : Nat} {G G' G0 : Mem} {Q : Int → Mem → Prop} {X : Mem → Prop} {t : Int → Int} {n b K cc i0 : Int} {D : Mem} {r : PR}
def P1 (D : Mem) : Prop := D 0 6 ≤ 5 ∧ (D 0 8 < 5 → InL (D 20 (D 0 8)))
def P2 (i0 : Int) (D : Mem) : Prop := P1 D ∧ 0 ≤ D (13 + i0) 1 ∧ D (13 + i0) 1 ≤ 4
theorem P1.st {q k v : Int} (h : P1 D) (hq : q ≠ 0 ∧ q ≠ 20) : P1 (st D q k v) := by
  unfold P1 at h ⊢
  simp (disch := omega) only [st_nq]
  exact h
theorem PI_name (h : PI r (fun D => D 0 6 ≤ 5)) : PI (pName t n r) P1 := by
  intro b' D' e
  rcases pr_cases r with ⟨x, rfl⟩ | ⟨b, D, rfl⟩
  · cases e
  · have h6 := h b D rfl
    have e0 : pName t n (.inr (b, D)) = if tkd t n b ≠ 2 ∨ (0 ≤ widx (twd t n b) ∧ widx (twd t n b) < 28) then fl 1 b else @ite PR (∃ i, 0 ≤ i ∧ i < D 0 8 ∧ D 20 i = fR 32 (twd t n b)) (Classical.propDecidable _) (fl 3 b) (.inr (nxt t n b, if D 0 8 < 5 then st D 20 (D 0 8) (fR 32 (twd t n b)) else D)) := rfl
    rw [e0] at e
    by_cases c1 : tkd t n b ≠ 2 ∨ (0 ≤ widx (twd t n b) ∧ widx (twd t n b) < 28)
    · rw [if_pos c1] at e; cases e
    · rw [if_neg c1] at e
      have f := f32_in (t := t) (n := n) (b := b) (by omega)
      by_cases c2 : ∃ i, 0 ≤ i ∧ i < D 0 8 ∧ D 20 i = fR 32 (twd t n b)
      · rw [if_pos c2] at e; cases e
      · rw [if_neg c2] at e
        cases e
        by_cases c3 : D 0 8 < 5
        · rw [if_pos c3]
          refine ⟨by rw [st_nq _ _ _ _ (by decide)]; exact h6, fun _ => ?_⟩
          rw [st_nq D (D 0 8) (fR 32 (twd t n b)) 8 (by decide : (0 : Int) ≠ 20), st_same]; exact f
        · rw [if_neg c3]
          exact ⟨h6, fun z => absurd z c3⟩
theorem PI_kind (hi : 0 ≤ i0 ∧ i0 < 5) (h : PI r P1) : PI (pKind t n i0 r) P1 := by
  intro b' D' e
  rcases pr_cases r with ⟨x, rfl⟩ | ⟨b, D, rfl⟩
  · cases e
  · have e0 : pKind t n i0 (.inr (b, D)) = if tkd t n b ≠ 2 ∨ widx (twd t n b) < 16 ∨ 20 < widx (twd t n b) then fl 1 b else .inr (nxt t n b, st D (13 + i0) 0 (widx (twd t n b) - 16)) := rfl
    rw [e0] at e
    by_cases c1 : tkd t n b ≠ 2 ∨ widx (twd t n b) < 16 ∨ 20 < widx (twd t n b)
    · rw [if_pos c1] at e; cases e
    · rw [if_neg c1] at e
      cases e
      exact (h b D rfl).st (by omega)
theorem PI_seat {P : Mem → Prop} {f : Int} (h : PI r P) : PI (pSeat t n f r) P := by
  intro b' D' e
  rcases pr_cases r with ⟨x, rfl⟩ | ⟨b, D, rfl⟩
  · cases e
  · have e0 : pSeat t n f (.inr (b, D)) = if tkd t n b = 3 ∧ tnm t n b < D 0 6 ∧ (if f = 0 then D 2 (tnm t n b) ≠ -1 else D 3 (tnm t n b) ≠ 0) then fl 3 b else .inr (b, D) := rfl
    rw [e0] at e
    by_cases c1 : tkd t n b = 3 ∧ tnm t n b < D 0 6 ∧ (if f = 0 then D 2 (tnm t n b) ≠ -1 else D 3 (tnm t n b) ≠ 0)
    · rw [if_pos c1] at e; cases e
    · rw [if_neg c1] at e
      cases e
      exact h _ _ rfl
theorem PI_sit1 (hi : 0 ≤ i0 ∧ i0 < 5) (h : PI r (fun D => D 0 6 ≤ 5)) : PI (pSit1 t n i0 r) (P2 i0) := by
  unfold pSit1 pNf
  refine PI_N (PI_seat (PI_W (PI_kind hi (PI_name (PI_W h))))) (fun D v hp v0 v1 => ⟨(hp.st (by decide)).st (by omega), ?_⟩)
  have v1 : v ≤ D 0 6 - 1 := v1
  have := hp.1
  rw [st_same]
  exact ⟨v0, by omega⟩
theorem PI_f {k : Int} {lo hi : Mem → Int} (hi0 : 0 ≤ i0 ∧ i0 < 5) (hk : k ≠ 1) (h : PI r (P2 i0)) : PI (pNf t n i0 k lo hi r) (P2 i0) :=
  PI_N h (fun D v hp _ _ => ⟨(hp.1.st (by decide)).st (by omega), by rw [st_nk _ _ _ (Ne.symm hk), st_nq _ _ _ _ (by omega)]; exact hp.2⟩)
theorem PI_sit2 (hi0 : 0 ≤ i0 ∧ i0 < 5) (h : PI r (P2 i0)) : PI (pSit2 t n i0 r) (P2 i0) :=
  PI_f hi0 (by decide) (PI_W (PI_f hi0 (by decide) (PI_W (PI_f hi0 (by decide) (PI_W h)))))
theorem PI_sit3 (hi0 : 0 ≤ i0 ∧ i0 < 5) (h : PI r (P2 i0)) : PI (pSit3 t n i0 r) (P2 i0) :=
  PI_f hi0 (by decide) (PI_W (PI_f hi0 (by decide) (PI_W (PI_f hi0 (by decide) (PI_W (PI_f hi0 (by decide) (PI_W h)))))))
theorem dok_2 {k v : Int} (h : DOk K D) (hv : -1 ≤ v ∧ v ≤ 4) : DOk K (st D 2 k v) := by
  obtain ⟨h6, h7, h8, h9, h10, h2, h3, h66, h20, h21⟩ := h
  have e : ∀ q j : Int, q ≠ 2 → st D 2 k v q j = D q j := fun q j z => st_nq _ _ _ _ z
  refine ⟨by rw [e 0 6 (by decide)]; exact h6, by rw [e 0 7 (by decide)]; exact h7, by rw [e 0 8 (by decide)]; exact h8, by rw [e 0 9 (by decide)]; exact h9, by rw [e 0 10 (by decide)]; exact h10, fun s s0 s5 => ?_, fun s s0 s5 => by rw [e 3 s (by decide)]; exact h3 s s0 s5, by rw [e 6 6 (by decide)]; exact h66, fun i i0 i1 => by rw [e 0 8 (by decide)] at i1; rw [e 20 i (by decide)]; exact h20 i i0 i1, fun w w0 w1 => by rw [e 21 w (by decide)]; exact h21 w w0 w1⟩
  by_cases hs : s = k
  · rw [hs, st_same]; exact hv
  · rw [st_nk _ _ _ hs]; exact h2 s s0 s5
theorem dok_3 {k v : Int} (h : DOk K D) (hv : 0 ≤ v ∧ v ≤ 1) : DOk K (st D 3 k v) := by
  obtain ⟨h6, h7, h8, h9, h10, h2, h3, h66, h20, h21⟩ := h
  have e : ∀ q j : Int, q ≠ 3 → st D 3 k v q j = D q j := fun q j z => st_nq _ _ _ _ z
  refine ⟨by rw [e 0 6 (by decide)]; exact h6, by rw [e 0 7 (by decide)]; exact h7, by rw [e 0 8 (by decide)]; exact h8, by rw [e 0 9 (by decide)]; exact h9, by rw [e 0 10 (by decide)]; exact h10, fun s s0 s5 => by rw [e 2 s (by decide)]; exact h2 s s0 s5, fun s s0 s5 => ?_, by rw [e 6 6 (by decide)]; exact h66, fun i i0 i1 => by rw [e 0 8 (by decide)] at i1; rw [e 20 i (by decide)]; exact h20 i i0 i1, fun w w0 w1 => by rw [e 21 w (by decide)]; exact h21 w w0 w1⟩
  by_cases hs : s = k
  · rw [hs, st_same]; exact hv
  · rw [st_nk _ _ _ hs]; exact h3 s s0 s5
theorem dok_8 (h : DOk K D) (h5 : D 0 8 < 5) (hn : InL (D 20 (D 0 8))) : DOk K (st D 0 8 (D 0 8 + 1)) := by
  obtain ⟨h6, h7, h8, h9, h10, h2, h3, h66, h20, h21⟩ := h
  have e : ∀ q j : Int, ¬ (q = 0 ∧ j = 8) → st D 0 8 (D 0 8 + 1) q j = D q j := fun q j z => st_ne _ _ z
  refine ⟨by rw [e 0 6 (by decide)]; exact h6, by rw [e 0 7 (by decide)]; exact h7, by rw [st_same]; omega, by rw [e 0 9 (by decide)]; exact h9, by rw [e 0 10 (by decide)]; exact h10, fun s s0 s5 => by rw [e 2 s (by omega)]; exact h2 s s0 s5, fun s s0 s5 => by rw [e 3 s (by omega)]; exact h3 s s0 s5, by rw [e 6 6 (by decide)]; exact h66, fun i i0 i1 => ?_, fun w w0 w1 => by rw [e 21 w (by omega)]; exact h21 w w0 w1⟩
  rw [st_same] at i1
  rw [e 20 i (by omega)]
  by_cases hi : i = D 0 8
  · rw [hi]; exact hn
  · exact h20 i i0 (by omega)
theorem c_sitter (hO : TpO t n) (hX : RdX K cc t n G0 r G) (h : ∀ G2, RdX K cc t n G0 (pSitI t n (min (G cc 8) 4) r) G2 → Q 0 G2) : Ct (d + 8) M_X5_readSitter NT 0 0 (some lay) [(2, 3)] G Q := by
  have m8 := hX.1.2.2.2.2.1
  have g3 := hX.1.2.2.2.1
  obtain ⟨i0, hi0⟩ : ∃ i0, i0 = min (G cc 8) 4 := ⟨_, rfl⟩
  have ir : 0 ≤ i0 ∧ i0 < 5 := by omega
  refine ctof (s_X5_readSitter_0 (fun b1 e1 => ?_))
  rw [g3] at e1
  subst e1
  refine ⟨hX.1.1, fun b4 e4 => ?_⟩
  rw [g3] at e4
  subst e4
  rw [← hi0] at h ⊢
  have pi0 : PI r (fun D => D 0 6 ≤ 5) := fun b D e => by subst e; exact hX.inr.2.2.2.2.1.2
  have p1 := PI_sit1 (t := t) (n := n) ir pi0
  have p2 := PI_sit2 (t := t) (n := n) ir p1
  have p3 := PI_sit3 (t := t) (n := n) ir p2
  have cF : ∀ {k lo hi : Int} {r : PR} {G1 : Mem} {X : Mem → Prop}, InR lo → InR hi → RdX K b4 t n G0 r G1 → (∀ G8, RdX K b4 t n G0 (pNf t n i0 k (fun _ => lo) (fun _ => hi) r) G8 → X G8) → Ct (d + 7) M_X5_readNumber NT 0 0 (some lay) [(2, 3), (0, lo), (0, hi)] G1 (fun v G6 => ∀ G8, G8 = st G6 (b4 + 13 + i0) k v → X G8) := fun {k lo hi r G1 X} il ih h1 hh =>
    c_num (lo := fun _ => lo) (hi := fun _ => hi) (q := fun _ => 13 + i0) (k := fun _ => k) (q0 := 13 + i0) (k0 := k) hO h1 (by omega) (by omega) (by omega) (by omega) (fun _ _ _ => ⟨rfl, rfl, il, ih⟩) (fun _ _ _ _ => ⟨rfl, rfl⟩) (fun _ _ v _ _ _ hd => dok_st (dok_st hd (by decide)) (by omega)) hh
  refine ⟨hX.1.1, by omega, by omega, c_rdWord hO hX (by omega) (fun G1 h1 => c_name hO h1 (fun G2 h2 => c_kind hO h2 ir (by omega) (fun G3 h3 => c_rdWord hO h3 (by omega) (fun G4 h4 => c_seat hO h4 (Or.inl rfl) (fun v G5 h5 hv G19 e19 => ?_)))))⟩
  have h19 : RdX K b4 t n G0 (pSit1 t n i0 r) G19 := by
    rw [e19, show b4 + 13 + i0 = b4 + (13 + i0) by omega]
    exact RdX.num h5 (fun b D e => (hv b D e).1) (by omega) (by omega) (by omega) (fun _ _ _ => ⟨rfl, rfl⟩) (fun _ _ _ hd => dok_st hd (by omega))
  refine c_rdWord hO h19 (by omega) (fun G20 h20 => cF (by decide) (by decide) h20 (fun G24 h24 => c_rdWord hO h24 (by omega) (fun G25 h25 => cF (by decide) (by decide) h25 (fun G29 h29 => c_rdWord hO h29 (by omega) (fun G30 h30 => cF (by decide) (by decide) h30 (fun G34 h34 => ?_))))))
  have h34 : RdX K b4 t n G0 (pSit2 t n i0 (pSit1 t n i0 r)) G34 := h34
  refine c_rdWord hO h34 (by omega) (fun G35 h35 => cF (by decide) (by decide) h35 (fun G39 h39 => c_rdWord hO h39 (by omega) (fun G40 h40 => cF (by decide) (by decide) h40 (fun G44 h44 => c_rdWord hO h44 (by omega) (fun G45 h45 => cF (by decide) (by decide) h45 (fun G49 h49 => c_rdWord hO h49 (by omega) (fun G50 h50 => ?_)))))))
  refine c_num (lo := fun D => D (13 + i0) 7) (hi := fun _ => 72) (q := fun _ => 13 + i0) (k := fun _ => 8) (q0 := 13 + i0) (k0 := 8) hO h50 (by omega) (by omega) (by omega) (by omega) (fun b D e => ?_) (fun _ _ _ _ => ⟨rfl, rfl⟩) (fun _ _ v _ _ _ hd => dok_st (dok_st hd (by decide)) (by omega)) (fun G54 h54 => ?_)
  · have p7 : PI (pW t n 8 (pNf t n i0 7 (fun _ => 0) (fun _ => 72) (pW t n 7 (pNf t n i0 6 (fun _ => 20) (fun _ => 40) (pW t n 25 (pNf t n i0 5 (fun _ => 0) (fun _ => 9) (pW t n 24 (pSit2 t n i0 (pSit1 t n i0 r))))))))) (fun D => 0 ≤ D (13 + i0) 7 ∧ D (13 + i0) 7 ≤ 72) := PI_W (PI_N (P := fun _ => True) (fun _ _ _ => trivial) (fun D v _ v0 v1 => by rw [st_same]; exact ⟨v0, v1⟩))
    have q := p7 b D e
    rw [e] at h50
    have g := h50.inr.2.2.2.1.1 (13 + i0) 7 (by omega) (by omega)
    rw [show b4 + 13 + i0 = b4 + (13 + i0) by omega, g]
    exact ⟨rfl, rfl, by omega, by decide⟩
  have h54 : RdX K b4 t n G0 (pSit3 t n i0 (pSit2 t n i0 (pSit1 t n i0 r))) G54 := h54
  have eE : pSitI t n i0 r = pEnd i0 (pSit3 t n i0 (pSit2 t n i0 (pSit1 t n i0 r))) := rfl
  rw [eE] at h
  generalize hr' : pSit3 t n i0 (pSit2 t n i0 (pSit1 t n i0 r)) = r' at *
  refine ⟨h54.f34, fun x => ?_, fun x b57 e57 => ?_⟩
  · rcases pr_cases r' with ⟨e, rfl⟩ | ⟨b, D, rfl⟩
    · exact h G54 h54
    · exact absurd h54.inr.1 x
  · rcases pr_cases r' with ⟨e, rfl⟩ | ⟨b, D, rfl⟩
    · exact absurd (show G54 3 4 ≠ 0 by rw [h54.inl.1]; exact h54.inl.2.1) x
    · obtain ⟨a, a0, ak, ac, ad⟩ := h54.inr
      have g3' := h54.1.2.2.2.1
      have e0 : pEnd i0 (.inr (b, D)) = if 5 ≤ D 0 8 then .inr (b, D) else .inr (b, st (st D 2 (D (13 + i0) 1) (D 0 8)) 0 8 (D 0 8 + 1)) := rfl
      rw [e0] at h
      rw [g3'] at e57
      subst e57
      have s8 := ac.1 0 8 (by omega) (by omega)
      rw [Int.add_zero] at s8
      have d8 := ad.2.2.1
      have pp := p3 b D rfl
      rw [s8]
      refine ⟨h54.1.1, by omega, fun y => by rw [if_pos y] at h; exact h G54 h54, fun y b62 e62 => ?_⟩
      rw [if_neg y] at h
      rw [g3'] at e62
      subst e62
      refine ⟨h54.1.1, fun b65 e65 => ?_⟩
      rw [g3'] at e65
      subst e65
      have s1 := ac.1 (13 + i0) 1 (by omega) (by omega)
      rw [s8, show b65 + 13 + i0 = b65 + (13 + i0) by omega, s1]
      refine ⟨h54.1.1, by have := pp.2; omega, fun G69 e69 b70 e70 => ?_⟩
      have h69 : RdX K b65 t n G0 (.inr (b, st D 2 (D (13 + i0) 1) (D 0 8))) G69 := by
        rw [e69]
        exact RdX.put h54 (by omega) (by omega) (by omega) (dok_2 ad (by omega))
      rw [h69.1.2.2.2.1] at e70
      subst e70
      refine ⟨h54.1.1, fun G73 e73 => h G73 ?_⟩
      have s8' := h69.inr.2.2.2.1.1 0 8 (by omega) (by omega)
      rw [Int.add_zero, st_nq D (D (13 + i0) 1) (D 0 8) 8 (by decide : (0 : Int) ≠ 2)] at s8'
      rw [e73, s8']
      have pt := RdX.put (q := 0) (k := 8) (v := D 0 8 + 1) h69 (by omega) (by omega) (by omega) (by
        have dk := dok_8 (D := st D 2 (D (13 + i0) 1) (D 0 8)) (K := K) h69.inr.2.2.2.2
        simp (disch := decide) only [st_nq] at dk
        exact dk (by omega) (pp.1.2 (by omega)))
      rw [Int.add_zero] at pt
      exact pt
end SITS
