def pAdd (x : Int) (r : PR) : PR := bnd r (fun b D => .inr (b, if D 6 6 < 1000 then st (st D 11 (D 6 6) x) 6 6 (D 6 6 + 1) else D))
def isF (t : Int → Int) (n l b : Int) : Prop := tkd t n b = 2 ∧ allw l (widx (twd t n b) - 24)
noncomputable def cite (c : Prop) (a b : Int) : Int := @ite Int c (Classical.propDecidable c) a b
noncomputable def citeR (c : Prop) (a b : PR) : PR := @ite PR c (Classical.propDecidable c) a b
noncomputable def jnO (t : Int → Int) (n k b : Int) : Int := cite (k = 0 ∧ isW t n 22 b) (-2) (cite (k = 0 ∧ isW t n 23 b) (-3) (cite (k = 1 ∧ isS t n 60 b) (-4) (cite (k = 1 ∧ isS t n 61 b) (-5) (cite (k = 2 ∧ isS t n 43 b) (-6) (cite (k = 2 ∧ isS t n 45 b) (-7) (cite (k = 3 ∧ isS t n 42 b) (-8) 0))))))
noncomputable def pLo (t : Int → Int) (n k : Int) (sub : PR → PR) : Nat → PR → PR
  | 0, r => r
  | i + 1, r => bnd r (fun b D => cite3 (jnO t n k b) (.inr (b, D)) (pLo t n k sub i (pAdd (jnO t n k b) (sub (.inr (nxt t n b, D))))))
where cite3 (j : Int) (a c : PR) : PR := if j = 0 then a else c
/-- joined by all of rank 4 - j and above -/
noncomputable def pJr (t : Int → Int) (n : Int) (sub : PR → PR) : Nat → PR → PR
  | 0, r => sub r
  | j + 1, r => pLo t n (3 - (j : Int)) (pJr t n sub j) (if j = 2 then 1 else 1000) (pJr t n sub j r)
noncomputable def pP (t : Int → Int) (n l : Int) : Nat → PR → PR
  | 0, r => bnd r (fun b _ => citeR (tkd t n b = 3 ∨ isF t n l b ∨ isW t n 21 b ∨ isS t n 40 b) (fl 5 b) (fl 1 b))
  | m + 1, r => bnd r (fun b D => citeR (tkd t n b = 3) (pAdd (tnm t n b) (.inr (nxt t n b, D))) (citeR (isF t n l b) (pAdd (-9 - (widx (twd t n b) - 24)) (.inr (nxt t n b, D))) (citeR (isW t n 21 b) (pAdd (-1) (pP t n l m (.inr (nxt t n b, D)))) (citeR (isS t n 40 b) (pS t n 41 (pJr t n (pP t n l m) 4 (.inr (nxt t n b, D)))) (fl 1 b)))))
section JOINED
variable {d : Nat} {G G' G0 : Mem} {Q : Int → Mem → Prop} {X : Mem → Prop} {t : Int → Int} {n b K cc l : Int} {D : Mem} {r : PR}
theorem cite_t {c : Prop} {a b : Int} (h : c) : cite c a b = a := if_pos h
theorem cite_f {c : Prop} {a b : Int} (h : ¬ c) : cite c a b = b := if_neg h
theorem citeR_t {c : Prop} {a b : PR} (h : c) : citeR c a b = a := if_pos h
theorem citeR_f {c : Prop} {a b : PR} (h : ¬ c) : citeR c a b = b := if_neg h
theorem dok_6 {v : Int} (h : DOk K D) (hv : 0 ≤ v ∧ v ≤ 1000) : DOk K (st D 6 6 v) := by
  obtain ⟨h6, h7, h8, h9, h10, h2, h3, h66, h20, h21⟩ := h
  have e : ∀ q j : Int, q ≠ 6 → st D 6 6 v q j = D q j := fun q j z => st_nq _ _ _ _ z
  exact ⟨by rw [e 0 6 (by decide)]; exact h6, by rw [e 0 7 (by decide)]; exact h7, by rw [e 0 8 (by decide)]; exact h8, by rw [e 0 9 (by decide)]; exact h9, by rw [e 0 10 (by decide)]; exact h10, fun s s0 s5 => by rw [e 2 s (by decide)]; exact h2 s s0 s5, fun s s0 s5 => by rw [e 3 s (by decide)]; exact h3 s s0 s5, by rw [st_same]; exact hv, fun i i0 i1 => by rw [e 0 8 (by decide)] at i1; rw [e 20 i (by decide)]; exact h20 i i0 i1, fun w w0 w1 => by rw [e 21 w (by decide)]; exact h21 w w0 w1⟩
theorem c_addX {x c0 : Int} (hX : RdX K cc t n G0 r G) (hc : c0 = cc + 6) (h : ∀ G2, RdX K cc t n G0 (pAdd x r) G2 → Q 0 G2) : Ct d M_X3_add NT 0 0 (some lay) [(2, c0), (0, x)] G Q := by
  subst hc
  have ccI := cc_in hX.1.1
  have m6 := hX.1.2.2.2.2.2.1
  refine ctof (s_X3_add_0 (ly_1_5 hX.1.1).2.2 ⟨by omega, fun y => ?_, fun y => ⟨by omega, fun G4 e4 G5 e5 => h G5 ?_⟩⟩)
  · rcases pr_cases r with ⟨e, rfl⟩ | ⟨b, D, rfl⟩
    · exact h G hX
    · have s6 := hX.inr.2.2.2.1.1 6 6 (by omega) (by omega)
      have e0 : pAdd x (.inr (b, D)) = .inr (b, if D 6 6 < 1000 then st (st D 11 (D 6 6) x) 6 6 (D 6 6 + 1) else D) := rfl
      rw [e0, if_neg (by omega)] at h
      exact h G hX
  · have a6 : G4 (cc + 6) 6 = G (cc + 6) 6 := by rw [e4, st_nq _ _ _ _ (by omega)]
    rw [a6] at e5
    rcases pr_cases r with ⟨e, rfl⟩ | ⟨b, D, rfl⟩
    · have h4 : RdX K cc t n G0 (.inl e) G4 := by rw [e4]; exact RdX.junk hX (Or.inr (by omega)) (by omega) (by omega)
      rw [e5]
      exact RdX.junk h4 (Or.inr (by omega)) (by omega) (by omega)
    · have s6 := hX.inr.2.2.2.1.1 6 6 (by omega) (by omega)
      have e0 : pAdd x (.inr (b, D)) = .inr (b, if D 6 6 < 1000 then st (st D 11 (D 6 6) x) 6 6 (D 6 6 + 1) else D) := rfl
      rw [e0, if_pos (by omega)]
      have h4 : RdX K cc t n G0 (.inr (b, st D 11 (D 6 6) x)) G4 := by
        rw [e4, s6, show cc + 6 + 5 = cc + 11 by omega]
        exact RdX.put hX (by omega) (by omega) (by omega) (dok_st hX.inr.2.2.2.2 (by decide))
      rw [e5, s6]
      exact RdX.put h4 (by omega) (by omega) (by omega) (dok_6 h4.inr.2.2.2.2 (by omega))
theorem c_isFact {p : Int} (hl : 0 ≤ l ∧ l < 3) (ip : InR p) (h1 : allw l (p - 24) → Q 1 G) (h0 : ¬ allw l (p - 24) → Q 0 G) : Ct d M_X10_isFactOf NT 0 0 (some lay) [(0, p), (0, l)] G Q := by
  unfold allw at h1 h0
  exact ctof (s_X10_isFactOf_0 ⟨ip, fun x => h0 (by omega), fun x => ⟨by omega, fun y => h0 (by omega), fun y => h1 (by omega)⟩, fun x => ⟨by omega, fun y => h0 (by omega), fun y => h1 (by omega)⟩, fun x => ⟨by omega, fun y => h0 (by omega), fun y => h1 (by omega)⟩, fun x => ⟨by omega, fun y => h0 (by omega), fun y => h1 (by omega)⟩, fun x => h1 (by omega), fun x => ⟨by omega, fun y => h0 (by omega), fun y => h1 (by omega)⟩, fun x => ⟨by omega, fun y => h0 (by omega), fun y => h1 (by omega)⟩, fun x => ⟨by omega, fun y => h0 (by omega), fun y => h1 (by omega)⟩⟩)
theorem c_joinOf {k : Int} (hO : TpO t n) (hX : RdX K cc t n G0 (.inr (b, D)) G) (hk : 0 ≤ k ∧ k < 4) (h : Q (jnO t n k b) G) : Ct (d + 1) M_X5_joinOf NT 0 0 (some lay) [(2, 3), (0, k)] G Q := by
  have inj : ∀ {b' : Int} {D' : Mem}, (.inr (b, D) : PR) = .inr (b', D') → b' = b := fun e => by cases e; rfl
  unfold jnO at h
  refine ctof (s_X5_joinOf_0 ⟨by omega, fun k0 => ⟨fun k1 => ⟨fun k2 => ?_, fun k2 => ?_⟩, fun k1 => ?_⟩, fun k0 => ?_⟩)
  · obtain rfl : k = 3 := by omega
    rw [cite_f (fun z => by omega), cite_f (fun z => by omega), cite_f (fun z => by omega), cite_f (fun z => by omega), cite_f (fun z => by omega), cite_f (fun z => by omega)] at h
    refine c_standsS hO hX (by decide) (fun b' D' e hs => ⟨by omega, fun x => absurd x (by decide), fun _ => ?_⟩) (fun hs => ⟨by omega, fun _ => ?_, fun x => absurd rfl x⟩)
    · rw [inj e] at hs; rw [cite_t ⟨rfl, hs⟩] at h; exact h
    · rw [cite_f (fun z => hs b D rfl z.2)] at h; exact h
  · obtain rfl : k = 2 := by omega
    rw [cite_f (fun z => by omega), cite_f (fun z => by omega), cite_f (fun z => by omega), cite_f (fun z => by omega)] at h
    refine c_standsS hO hX (by decide) (fun b' D' e hs => ⟨by omega, fun x => absurd x (by decide), fun _ => ?_⟩) (fun hs => ⟨by omega, fun _ => c_standsS hO hX (by decide) (fun b' D' e hs2 => ⟨by omega, fun x => absurd x (by decide), fun _ => ?_⟩) (fun hs2 => ⟨by omega, fun _ => ?_, fun x => absurd rfl x⟩), fun x => absurd rfl x⟩)
    · rw [inj e] at hs; rw [cite_t ⟨rfl, hs⟩] at h; exact h
    · rw [inj e] at hs2; rw [cite_f (fun z => hs b D rfl z.2), cite_t ⟨rfl, hs2⟩] at h; exact h
    · rw [cite_f (fun z => hs b D rfl z.2), cite_f (fun z => hs2 b D rfl z.2), cite_f (fun z => by omega)] at h; exact h
  · obtain rfl : k = 1 := by omega
    rw [cite_f (fun z => by omega), cite_f (fun z => by omega)] at h
    refine c_standsS hO hX (by decide) (fun b' D' e hs => ⟨by omega, fun x => absurd x (by decide), fun _ => ?_⟩) (fun hs => ⟨by omega, fun _ => c_standsS hO hX (by decide) (fun b' D' e hs2 => ⟨by omega, fun x => absurd x (by decide), fun _ => ?_⟩) (fun hs2 => ⟨by omega, fun _ => ?_, fun x => absurd rfl x⟩), fun x => absurd rfl x⟩)
    · rw [inj e] at hs; rw [cite_t ⟨rfl, hs⟩] at h; exact h
    · rw [inj e] at hs2; rw [cite_f (fun z => hs b D rfl z.2), cite_t ⟨rfl, hs2⟩] at h; exact h
    · rw [cite_f (fun z => hs b D rfl z.2), cite_f (fun z => hs2 b D rfl z.2), cite_f (fun z => by omega), cite_f (fun z => by omega), cite_f (fun z => by omega)] at h; exact h
  · obtain rfl : k = 0 := by omega
    refine c_standsW hX (by omega) (fun b' D' e hs => ⟨by omega, fun x => absurd x (by decide), fun _ => ?_⟩) (fun hs => ⟨by omega, fun _ => c_standsW hX (by omega) (fun b' D' e hs2 => ⟨by omega, fun x => absurd x (by decide), fun _ => ?_⟩) (fun hs2 => ⟨by omega, fun _ => ?_, fun x => absurd rfl x⟩), fun x => absurd rfl x⟩)
    · rw [inj e] at hs; rw [cite_t ⟨rfl, hs⟩] at h; exact h
    · rw [inj e] at hs2; rw [cite_f (fun z => hs b D rfl z.2), cite_t ⟨rfl, hs2⟩] at h; exact h
    · rw [cite_f (fun z => hs b D rfl z.2), cite_f (fun z => hs2 b D rfl z.2), cite_f (fun z => by omega), cite_f (fun z => by omega), cite_f (fun z => by omega), cite_f (fun z => by omega), cite_f (fun z => by omega)] at h; exact h
theorem jnO_in {k : Int} : -8 ≤ jnO t n k b ∧ jnO t n k b ≤ 0 := by
  unfold jnO cite
  repeat' split
  all_goals omega
end JOINED
