section RECUR
variable {d : Nat} {G G' G0 : Mem} {Q : Int → Mem → Prop} {t : Int → Int} {n b K cc l : Int} {D : Mem} {r : PR}
def PartC (K cc : Int) (t : Int → Int) (n l : Int) (G0 : Mem) (m : Nat) : Prop := ∀ (e : Nat) (r : PR) (G : Mem) (Q : Int → Mem → Prop), 6 * m + 9 ≤ e → RdX K cc t n G0 r G → (∀ G2, RdX K cc t n G0 (pP t n l m r) G2 → Q 0 G2) → Ct e M_X5_readPart NT 0 0 (some lay) [(2, 3), (0, l), (0, 5 - (m : Int))] G Q
def JoinC (K cc : Int) (t : Int → Int) (n l : Int) (G0 : Mem) (m j : Nat) : Prop := ∀ (e : Nat) (r : PR) (G : Mem) (Q : Int → Mem → Prop), 6 * m + 10 + j ≤ e → RdX K cc t n G0 r G → (∀ G2, RdX K cc t n G0 (pJr t n (pP t n l m) j r) G2 → Q 0 G2) → Ct e M_X5_readJoined NT 0 0 (some lay) [(2, 3), (0, l), (0, 4 - (j : Int)), (0, 5 - (m : Int))] G Q
theorem pLo_l {k : Int} {sub : PR → PR} {i : Nat} {e : Int} : pLo t n k sub i (.inl e) = .inl e := by
  cases i with
  | zero => rfl
  | succ i => rfl
theorem c_joinX (hO : TpO t n) {m : Nat} (hm : m ≤ 5) (hP : PartC K cc t n l G0 m) : ∀ j : Nat, j ≤ 4 → JoinC K cc t n l G0 m j := by
  intro j
  induction j with
  | zero =>
    intro _ e r G Q he hX h
    obtain ⟨e', rfl⟩ : ∃ e', e = e' + 1 := ⟨e - 1, by omega⟩
    exact ctof (s_X5_readJoined_0 ⟨by omega, fun x => absurd x (by omega), fun _ => hP e' r G _ (by omega) hX (fun G2 h2 => h G2 h2)⟩)
  | succ j ih =>
    intro hj e r G Q he hX h
    have ih := ih (by omega)
    obtain ⟨e', rfl⟩ : ∃ e', e = e' + 8 := ⟨e - 8, by omega⟩
    have eR : (4 : Int) - ((j + 1 : Nat) : Int) = 3 - (j : Int) := by omega
    rw [eR]
    have eJ : pJr t n (pP t n l m) (j + 1) r = pLo t n (3 - (j : Int)) (pJr t n (pP t n l m) j) (if j = 2 then 1 else 1000) (pJr t n (pP t n l m) j r) := rfl
    rw [eJ] at h
    have key : ∀ (most : Nat) (k i : Nat) (r : PR) (G1 : Mem), most ≤ 1000 → i + k = most → RdX K cc t n G0 r G1 → (∀ G2, RdX K cc t n G0 (pLo t n (3 - (j : Int)) (pJr t n (pP t n l m) j) k r) G2 → Q 0 G2) → Rn (e' + 8) M_X5_readJoined zN 38 [(0, (2, 3)), (1, (0, l)), (2, (0, 3 - (j : Int))), (3, (0, 5 - (m : Int))), (4, (0, (most : Int))), (5, (0, (i : Int)))] [] G1 Q := by
      intro most k
      induction k with
      | zero =>
        intro i r G1 hmo hi h1 h
        exact s_X5_readJoined_38 ⟨by omega, by omega, fun _ => h G1 h1, fun x => absurd (by omega) x⟩
      | succ k ihk =>
        intro i r G1 hmo hi h1 h
        refine s_X5_readJoined_38 ⟨by omega, by omega, fun x => absurd x (by omega), fun _ => ⟨h1.f34, fun x => ?_, fun x => ?_⟩⟩
        · rcases pr_cases r with ⟨e, rfl⟩ | ⟨b, D, rfl⟩
          · exact h G1 h1
          · exact absurd h1.inr.1 x
        · rcases pr_cases r with ⟨e, rfl⟩ | ⟨b, D, rfl⟩
          · exact absurd (show G1 3 4 ≠ 0 by rw [h1.inl.1]; exact h1.inl.2.1) x
          · have ji := jnO_in (t := t) (n := n) (b := b) (k := 3 - (j : Int))
            have eL : pLo t n (3 - (j : Int)) (pJr t n (pP t n l m) j) (k + 1) (.inr (b, D)) = if jnO t n (3 - (j : Int)) b = 0 then .inr (b, D) else pLo t n (3 - (j : Int)) (pJr t n (pP t n l m) j) k (pAdd (jnO t n (3 - (j : Int)) b) (pJr t n (pP t n l m) j (.inr (nxt t n b, D)))) := rfl
            rw [eL] at h
            refine c_joinOf (d := e' + 6) hO h1 (by omega) ⟨by omega, fun y => ?_, fun y => ?_⟩
            · rw [if_neg y] at h
              obtain ⟨b1, b2, b3, b4, b5⟩ := h1.inr
              refine ⟨h1.1.2.2.1, c_stepX (d := e' + 2) hO h1.1 b2 b1 b3 b4 b5 (fun G11 h11 _ => ?_)⟩
              rw [show 3 - (j : Int) + 1 = 4 - (j : Int) by omega]
              refine ih (e' + 7) _ G11 _ (by omega) h11 (fun G13 h13 b15 e15 => ?_)
              rw [h13.1.2.2.2.1] at e15
              subst e15
              refine ⟨h13.1.1, c_addX h13 rfl (fun G18 h18 => ?_)⟩
              have z := ihk (i + 1) _ G18 hmo (by omega) h18 h
              rwa [show ((i + 1 : Nat) : Int) = (i : Int) + 1 by omega] at z
            · rw [if_pos (by omega)] at h
              exact h G1 h1
    refine ctof (s_X5_readJoined_0 ⟨by omega, fun _ => ?_, fun x => absurd (by omega) x⟩)
    rw [show 3 - (j : Int) + 1 = 4 - (j : Int) by omega]
    refine ih (e' + 7) r G _ (by omega) hX (fun G3 h3 => ⟨fun x => ?_, fun x => ?_⟩)
    · rw [if_neg (by omega)] at h
      exact key 1000 1000 0 _ G3 (by omega) (by omega) h3 h
    · rw [if_pos (by omega)] at h
      exact key 1 1 0 _ G3 (by omega) (by omega) h3 h
theorem c_partX (hO : TpO t n) (hl : 0 ≤ l ∧ l < 3) {m : Nat} (hm : m ≤ 5) (ihP : ∀ m', m = m' + 1 → PartC K cc t n l G0 m') (ihJ : ∀ m', m = m' + 1 → JoinC K cc t n l G0 m' 4) : PartC K cc t n l G0 m := by
  intro e r G Q he hX h
  obtain ⟨e', rfl⟩ : ∃ e', e = e' + 8 := ⟨e - 8, by omega⟩
  rcases pr_cases r with ⟨x, rfl⟩ | ⟨b, D, rfl⟩
  · have i := hX.inl
    have ne : G 3 4 ≠ 0 := by rw [i.1]; exact i.2.1
    have h : RdX K cc t n G0 (.inl x) G → Q 0 G := by
      intro hh
      cases m with
      | zero => exact h G hh
      | succ m => exact h G hh
    refine ctof (s_X5_readPart_0 ⟨hX.f34, fun _ => s_X5_readPart_23 ⟨hX.f34, fun _ => ?_, fun y => absurd ne y⟩, fun y => absurd ne y⟩)
    refine s_X5_readPart_61 (c_standsW hX (by omega) (fun b D z => by cases z) (fun _ => c_standsS hO hX (by decide) (fun b D z => by cases z) (fun _ => ⟨by decide, fun z => absurd rfl z, fun _ => ⟨by decide, fun z => absurd rfl z, fun _ => ⟨by decide, fun z => absurd rfl z, fun _ => ⟨by decide, fun z => absurd rfl z, fun _ => ?_⟩⟩⟩⟩)))
    exact ctof (s_X5_wrong_0 ⟨hX.f34, fun _ => h hX, fun y => absurd ne y⟩)
  · obtain ⟨a, a0, ak, ac, ad⟩ := hX.inr
    have inj : ∀ {b' : Int} {D' : Mem}, (.inr (b, D) : PR) = .inr (b', D') → b' = b := fun e => by cases e; rfl
    have kr := tkd_r (t := t) (n := n) (b := b)
    have g3 := hX.1.2.2.2.1
    have none1 : tkd t n b ≠ 3 → ¬ isF t n l b → ¬ isW t n 21 b → ¬ isS t n 40 b → pP t n l m (.inr (b, D)) = fl 1 b := fun z1 z2 z3 z4 => by
      cases m with
      | zero => exact citeR_f (fun z => z.elim z1 (fun z => z.elim z2 (fun z => z.elim z3 z4)))
      | succ m =>
        have e0 : pP t n l (m + 1) (.inr (b, D)) = citeR (tkd t n b = 3) (pAdd (tnm t n b) (.inr (nxt t n b, D))) (citeR (isF t n l b) (pAdd (-9 - (widx (twd t n b) - 24)) (.inr (nxt t n b, D))) (citeR (isW t n 21 b) (pAdd (-1) (pP t n l m (.inr (nxt t n b, D)))) (citeR (isS t n 40 b) (pS t n 41 (pJr t n (pP t n l m) 4 (.inr (nxt t n b, D)))) (fl 1 b)))) := rfl
        rw [e0, citeR_f z1, citeR_f z2, citeR_f z3, citeR_f z4]
    have L106 : ∀ x3 x4 x5 : Int, (x3 = 0 ∨ x3 = 1) → (x4 = 0 ∨ x4 = 1) → (x5 = 0 ∨ x5 = 1) → (x3 = 1 ↔ tkd t n b = 3) → (x4 = 1 ↔ isF t n l b) → (x5 = 1 ↔ isW t n 21 b) → (tkd t n b = 3 ∨ isF t n l b ∨ isW t n 21 b ∨ isS t n 40 b) → Rn (e' + 8) M_X5_readPart zN 106 [(0, (2, 3)), (1, (0, l)), (2, (0, 5 - (m : Int))), (3, (0, x3)), (4, (0, x4)), (5, (0, x5))] [] G Q := by
      intro x3 x4 x5 c3 c4 c5 i3 i4 i5 some
      cases m with
      | zero =>
        have e0 : pP t n l 0 (.inr (b, D)) = fl 5 b := citeR_t some
        rw [e0] at h
        exact s_X5_readPart_106 ⟨by omega, fun x => absurd x (by omega), fun _ => c_wrongX hX hO.1.2 (by omega) (fun G2 h2 => h G2 h2)⟩
      | succ m =>
        have e0 : pP t n l (m + 1) (.inr (b, D)) = citeR (tkd t n b = 3) (pAdd (tnm t n b) (.inr (nxt t n b, D))) (citeR (isF t n l b) (pAdd (-9 - (widx (twd t n b) - 24)) (.inr (nxt t n b, D))) (citeR (isW t n 21 b) (pAdd (-1) (pP t n l m (.inr (nxt t n b, D)))) (citeR (isS t n 40 b) (pS t n 41 (pJr t n (pP t n l m) 4 (.inr (nxt t n b, D)))) (fl 1 b)))) := rfl
        rw [e0] at h
        refine s_X5_readPart_106 ⟨by omega, fun _ => ⟨hX.1.2.2.1, c_stepX (d := e' + 2) hO hX.1 a0 a ak ac ad (fun G4 h4 _ => ⟨by omega, fun y3 => ⟨by omega, fun y4 => ⟨by omega, fun y5 => ?_, fun y5 => ?_⟩, fun y4 b23 e23 => ?_⟩, fun y3 b28 e28 => ?_⟩)⟩, fun x => absurd (by omega) x⟩
        · rw [citeR_f (fun z => by have := i3.mpr z; omega), citeR_f (fun z => by have := i4.mpr z; omega), citeR_f (fun z => by have := i5.mpr z; omega)] at h
          have s40 : isS t n 40 b := by
            rcases some with z | z | z | z
            · have := i3.mpr z; omega
            · have := i4.mpr z; omega
            · have := i5.mpr z; omega
            · exact z
          rw [citeR_t s40] at h
          rw [show 5 - ((m + 1 : Nat) : Int) + 1 = 5 - (m : Int) by omega]
          refine ihJ m rfl (e' + 7) _ G4 _ (by omega) h4 (fun G12 h12 => c_rdSign (d := e' + 1) hO h12 (by decide) (fun G14 h14 => h G14 h14))
        · rw [citeR_f (fun z => by have := i3.mpr z; omega), citeR_f (fun z => by have := i4.mpr z; omega), citeR_t (i5.mp (by omega))] at h
          rw [show 5 - ((m + 1 : Nat) : Int) + 1 = 5 - (m : Int) by omega]
          refine ihP m rfl (e' + 7) _ G4 _ (by omega) h4 (fun G16 h16 b18 e18 => ?_)
          rw [h16.1.2.2.2.1] at e18
          subst e18
          exact ⟨h16.1.1, c_addX h16 rfl (fun G21 h21 => h G21 h21)⟩
        · have isf := i4.mp (by omega)
          rw [citeR_f (fun z => by have := i3.mpr z; omega), citeR_t isf] at h
          rw [h4.1.2.2.2.1] at e23
          subst e23
          rw [(ak.2.2.2.1 isf.1).1]
          exact ⟨h4.1.1, c_addX h4 rfl (fun G26 h26 => h G26 h26)⟩
        · have k3 := i3.mp (by omega)
          rw [citeR_t k3] at h
          rw [h4.1.2.2.2.1] at e28
          subst e28
          rw [ak.2.2.2.2.1 k3]
          exact ⟨h4.1.1, c_addX h4 rfl (fun G31 h31 => h G31 h31)⟩
    have L61 : ∀ x3 s0 : Int, (x3 = 0 ∨ x3 = 1) → (s0 = 0 ∨ s0 = 1) → (x3 = 1 ↔ tkd t n b = 3) → (s0 = 1 ↔ isF t n l b) → Rn (e' + 8) M_X5_readPart zN 61 [(0, (2, 3)), (1, (0, l)), (2, (0, 5 - (m : Int))), (3, (0, x3))] [(0, s0)] G Q := by
      intro x3 s0 c3 c4 i3 i4
      have fin : ∀ r2 r4 : Int, (r2 = 0 ∨ r2 = 1) → (r4 = 0 ∨ r4 = 1) → (r2 = 1 ↔ isW t n 21 b) → (r4 = 1 ↔ isS t n 40 b) → (InR x3) ∧ ((x3 ≠ 0) → Rn (e' + 8) M_X5_readPart zN 106 [(0, (2, 3)), (1, (0, l)), (2, (0, 5 - (m : Int))), (3, (0, x3)), (4, (0, s0)), (5, (0, r2))] [] G Q) ∧ (¬ (x3 ≠ 0) → (InR s0) ∧ ((s0 ≠ 0) → Rn (e' + 8) M_X5_readPart zN 106 [(0, (2, 3)), (1, (0, l)), (2, (0, 5 - (m : Int))), (3, (0, x3)), (4, (0, s0)), (5, (0, r2))] [] G Q) ∧ (¬ (s0 ≠ 0) → (InR r2) ∧ ((r2 ≠ 0) → Rn (e' + 8) M_X5_readPart zN 106 [(0, (2, 3)), (1, (0, l)), (2, (0, 5 - (m : Int))), (3, (0, x3)), (4, (0, s0)), (5, (0, r2))] [] G Q) ∧ (¬ (r2 ≠ 0) → (InR r4) ∧ ((r4 ≠ 0) → Rn (e' + 8) M_X5_readPart zN 106 [(0, (2, 3)), (1, (0, l)), (2, (0, 5 - (m : Int))), (3, (0, x3)), (4, (0, s0)), (5, (0, r2))] [] G Q) ∧ (¬ (r4 ≠ 0) → Ct (e' + 7) M_X5_wrong NT 0 0 (some lay) [(2, 3), (0, 1)] G (fun _ G13 => Q 0 G13))))) := by
        intro r2 r4 d2 d4 j2 j4
        have on := L106 x3 s0 r2 c3 c4 d2 i3 i4 j2
        refine ⟨by omega, fun x => on (Or.inl (i3.mp (by omega))), fun x => ⟨by omega, fun y => on (Or.inr (Or.inl (i4.mp (by omega)))), fun y => ⟨by omega, fun z => on (Or.inr (Or.inr (Or.inl (j2.mp (by omega))))), fun z => ⟨by omega, fun w => on (Or.inr (Or.inr (Or.inr (j4.mp (by omega))))), fun w => ?_⟩⟩⟩⟩
        rw [none1 (fun u => by have := i3.mpr u; omega) (fun u => by have := i4.mpr u; omega) (fun u => by have := j2.mpr u; omega) (fun u => by have := j4.mpr u; omega)] at h
        exact c_wrongX hX hO.1.2 (by omega) (fun G2 h2 => h G2 h2)
      refine s_X5_readPart_61 (c_standsW hX (by omega) (fun b' D' e2 w => c_standsS hO hX (by decide) (fun b'' D'' e3 s => ?_) (fun s => ?_)) (fun w => c_standsS hO hX (by decide) (fun b'' D'' e3 s => ?_) (fun s => ?_)))
      · rw [inj e2] at w; rw [inj e3] at s
        exact fin 1 1 (Or.inr rfl) (Or.inr rfl) ⟨fun _ => w, fun _ => rfl⟩ ⟨fun _ => s, fun _ => rfl⟩
      · rw [inj e2] at w
        exact fin 1 0 (Or.inr rfl) (Or.inl rfl) ⟨fun _ => w, fun _ => rfl⟩ ⟨fun z => absurd z (by decide), fun z => absurd z (s b D rfl)⟩
      · rw [inj e3] at s
        exact fin 0 1 (Or.inl rfl) (Or.inr rfl) ⟨fun z => absurd z (by decide), fun z => absurd z (w b D rfl)⟩ ⟨fun _ => s, fun _ => rfl⟩
      · exact fin 0 0 (Or.inl rfl) (Or.inl rfl) ⟨fun z => absurd z (by decide), fun z => absurd z (w b D rfl)⟩ ⟨fun z => absurd z (by decide), fun z => absurd z (s b D rfl)⟩
    have L23 : ∀ x3 : Int, (x3 = 0 ∨ x3 = 1) → (x3 = 1 ↔ tkd t n b = 3) → Rn (e' + 8) M_X5_readPart zN 23 [(0, (2, 3)), (1, (0, l)), (2, (0, 5 - (m : Int)))] [(0, x3)] G Q := by
      intro x3 c3 i3
      refine s_X5_readPart_23 ⟨hX.f34, fun x => absurd a x, fun _ => ⟨hX.1.2.2.1, ?_⟩⟩
      rw [ak.2.2.1]
      refine ⟨by omega, fun x => L61 x3 0 c3 (Or.inl rfl) i3 ⟨fun z => absurd z (by decide), fun z => absurd z.1 x⟩, fun x => ?_⟩
      have k2 : tkd t n b = 2 := by omega
      have wi := widx_in (twd t n b)
      rw [(ak.2.2.2.1 k2).1]
      exact c_isFact hl (by omega) (fun w => ⟨by omega, fun z => absurd z (by decide), fun _ => L61 x3 1 c3 (Or.inr rfl) i3 ⟨fun _ => ⟨k2, w⟩, fun _ => rfl⟩⟩) (fun w => ⟨by omega, fun _ => L61 x3 0 c3 (Or.inl rfl) i3 ⟨fun z => absurd z (by decide), fun z => absurd z.2 w⟩, fun z => absurd rfl z⟩)
    refine ctof (s_X5_readPart_0 ⟨hX.f34, fun x => absurd a x, fun _ => ⟨hX.1.2.2.1, ?_⟩⟩)
    rw [ak.2.2.1]
    exact ⟨by omega, fun x => L23 0 (Or.inl rfl) ⟨fun z => absurd z (by decide), fun z => absurd z x⟩, fun x => L23 1 (Or.inr rfl) ⟨fun _ => by omega, fun _ => rfl⟩⟩
theorem c_partAll (hO : TpO t n) (hl : 0 ≤ l ∧ l < 3) : ∀ m : Nat, m ≤ 5 → PartC K cc t n l G0 m ∧ ∀ j, j ≤ 4 → JoinC K cc t n l G0 m j := by
  intro m
  induction m with
  | zero =>
    intro hm
    have p := c_partX (G0 := G0) (K := K) (cc := cc) hO hl (m := 0) hm (fun m' e => by omega) (fun m' e => by omega)
    exact ⟨p, c_joinX hO hm p⟩
  | succ m ih =>
    intro hm
    obtain ⟨ip, ij⟩ := ih (by omega)
    have p := c_partX (G0 := G0) (K := K) (cc := cc) hO hl (m := m + 1) hm (fun m' e => (Nat.succ.inj e) ▸ ip) (fun m' e => (Nat.succ.inj e) ▸ ij 4 (by omega))
    exact ⟨p, c_joinX hO hm p⟩
end RECUR
