section MREC
variable {d : Nat} {M M' : Mem} {Q : Int → Mem → Prop} {t : Int → Int} {n b l : Int} {D : Mem} {w m j : Nat}
def PartM (d : Nat) (Q : Int → Mem → Prop) (t : Int → Int) (n l : Int) (m : Nat) : Prop := ∀ (w : Nat) (b : Int) (D M : Mem), w + m = 5 → EI t n l b D M → OpO w M → (M 331 (w : Int) = 0 ∨ M 331 (w : Int) = 1) →
  (∀ e, pP t n l m (.inr (b, D)) = .inl e → ∀ M', EF (w : Int) (M 311 27) M M' → M' 311 9 = e → Q 0 M') →
  (∀ b' D' M', pP t n l m (.inr (b, D)) = .inr (b', D') → PO t n (w : Int) l 4 w b D M b' D' M' → M' 331 (w : Int) = M 331 (w : Int) → HD d Q (dpN (M 330) w) 0 M') → HD d Q w 1 M
def JoinM (d : Nat) (Q : Int → Mem → Prop) (t : Int → Int) (n l : Int) (m j : Nat) : Prop := ∀ (w : Nat) (b : Int) (D M : Mem), w + m = 5 → EI t n l b D M → OpO w M → (M 331 (w : Int) = 0 ∨ M 331 (w : Int) = 1) → dpN (M 330) w = w → (3 ≤ j → M 331 (w : Int) = 0) →
  (∀ e, pJr t n (pP t n l m) j (.inr (b, D)) = .inl e → ∀ M', EF (w : Int) (M 311 27) M M' → M' 311 9 = e → Q 0 M') →
  (∀ b' D' M', pJr t n (pP t n l m) j (.inr (b, D)) = .inr (b', D') → PO t n (w : Int) l (4 - j) w b D M b' D' M' → NJ t n j w b' M' → (j ≤ 2 → M' 331 (w : Int) = M 331 (w : Int)) → HD d Q w 0 M') → HD d Q w 1 M
theorem pA {v : Int} (h : D 6 6 < 1000) : pAdd v (.inr (b, D)) = .inr (b, adD v D) := by
  unfold pAdd
  rw [bnd_r, if_pos h]
  rfl
theorem den_join {k x : Int} {kk : Nat} {t1 p1 t2 p2 : List Int} {f1 f2 : Law} (hk : k = (kk : Int)) (hx : jnO t n k b = x) (x0 : x ≠ 0) (h1 : Den l (if kk = 1 then 2 else kk) w t1 p1 f1) (h2 : Den l (kk + 1) w t2 p2 f2) : ∃ f, Den l kk w (t1 ++ jcd x :: t2) (p1 ++ (p2 ++ [x])) f := by
  rcases jnO_all (t := t) (n := n) (b := b) (k := k) with ⟨e, hk', -⟩ | ⟨e, hk', -⟩ | ⟨e, hk', -⟩ | ⟨e, hk', -⟩ | ⟨e, hk', -⟩ | ⟨e, hk', -⟩ | ⟨e, hk', -⟩ | ⟨e, -⟩
  · obtain rfl : x = -2 := by omega
    obtain rfl : kk = 0 := by omega
    rw [show jcd (-2) = 26 by decide]
    exact ⟨_, (Den.cl l).2.2.2.2.2.2.2.2.2.2.1 w _ _ _ _ _ _ h1 h2⟩
  · obtain rfl : x = -3 := by omega
    obtain rfl : kk = 0 := by omega
    rw [show jcd (-3) = 27 by decide]
    exact ⟨_, (Den.cl l).2.2.2.2.2.2.2.2.2.2.2 w _ _ _ _ _ _ h1 h2⟩
  · obtain rfl : x = -4 := by omega
    obtain rfl : kk = 1 := by omega
    rw [show jcd (-4) = 24 by decide]
    exact ⟨_, (Den.cl l).2.2.2.2.2.2.2.2.1 w _ _ _ _ _ _ h1 h2⟩
  · obtain rfl : x = -5 := by omega
    obtain rfl : kk = 1 := by omega
    rw [show jcd (-5) = 25 by decide]
    exact ⟨_, (Den.cl l).2.2.2.2.2.2.2.2.2.1 w _ _ _ _ _ _ h1 h2⟩
  · obtain rfl : x = -6 := by omega
    obtain rfl : kk = 2 := by omega
    rw [show jcd (-6) = 20 by decide]
    exact ⟨_, (Den.cl l).2.2.2.2.2.2.1 w _ _ _ _ _ _ h1 h2⟩
  · obtain rfl : x = -7 := by omega
    obtain rfl : kk = 2 := by omega
    rw [show jcd (-7) = 21 by decide]
    exact ⟨_, (Den.cl l).2.2.2.2.2.2.2.1 w _ _ _ _ _ _ h1 h2⟩
  · obtain rfl : x = -8 := by omega
    obtain rfl : kk = 3 := by omega
    rw [show jcd (-8) = 22 by decide]
    exact ⟨_, (Den.cl l).2.2.2.2.2.1 w _ _ _ _ _ _ h1 h2⟩
  · omega
theorem jstep {x : Int} (hO : TpO t n) (hj : j ≤ 3) (IH : JoinM d Q t n l m j) (hw : w + m = 5) (hE : EI t n l b D M) (ho : OpO w M) (c01 : M 331 (w : Int) = 0 ∨ M 331 (w : Int) = 1) (hd : dpN (M 330) w = w) (hx : jnO t n (3 - (j : Int)) b = x) (x0 : x ≠ 0) (hc : j = 2 → M 331 (w : Int) = 0)
    (hF : ∀ e, pJr t n (pP t n l m) j (.inr (nxt t n b, D)) = .inl e → ∀ M', EF (w : Int) (M 311 27) M M' → M' 311 9 = e → Q 0 M')
    (hK : ∀ b' D' M', pJr t n (pP t n l m) j (.inr (nxt t n b, D)) = .inr (b', D') → MdX t n b' M' → (∃ t2 p2 f2, Den l (4 - j) w t2 p2 f2 ∧ GR (w : Int) (M 311 27) (D 6 6) (jcd x :: t2) p2 b D M b' D' M') → NJ t n j w b' M' → (j ≤ 1 → M' 331 (w : Int) = M 331 (w : Int)) → (j = 2 → M' 331 (w : Int) = 1) → HD d Q w 0 M') : HD d Q w 0 M := by
  refine hd_join (k := 3 - (j : Int)) hO hE c01 (by omega) hx x0 (fun z => hc (by omega)) (fun M1 m1 g1 q2 q1 q0 => ?_)
  have e1 : EI t n l (nxt t n b) D M1 := hE.gr m1 g1 (by simp)
  have o330 : ∀ i : Int, i ≤ (w : Int) → M1 330 i = M 330 i := fun i hi => g1.1 _ _ (by omega) (by omega) (by omega) (by omega)
  have e27 : M1 311 27 = M 311 27 + (([jcd x] : List Int).length : Int) := g1.2.2.1.2
  have e27' : M1 311 27 = M 311 27 + 1 := e27
  have k331 : M1 331 (w : Int) = 0 ∨ M1 331 (w : Int) = 1 := by
    by_cases c2 : j ≤ 1
    · rw [q2 (by omega)]; exact c01
    · by_cases c1 : j = 2
      · exact Or.inr (q1 (by omega))
      · exact Or.inl (q0 (by omega))
  refine IH w (nxt t n b) D M1 hw e1 (fun i i0 i1 => by rw [o330 i i1]; exact ho i i0 i1) k331 (by rw [dpN_ext w (fun i _ i1 => o330 i i1)]; exact hd) (fun z => q0 (by omega)) (fun e he M' f' e' => hF e he M' (g1.1.tr (f'.mono (Int.le_refl _) (by omega))) e') (fun b' D' M' he po nj kp => ?_)
  obtain ⟨m', t2, p2, f2, d2, g2⟩ := po
  refine hK b' D' M' he m' ⟨t2, p2, f2, d2, g1.comp (g2.eq e27.symm (by simp))⟩ nj (fun z => by rw [kp (by omega), q2 (by omega)]) (fun z => by rw [kp (by omega), q1 (by omega)])
theorem joinM_succ (hO : TpO t n) (hj : j ≤ 3) (IH : JoinM d Q t n l m j) : JoinM d Q t n l m (j + 1) := by
  intro w b D M hw hE ho c01 hd h0 hF hK
  have eJ : ∀ r, pJr t n (pP t n l m) (j + 1) r = pLo t n (3 - (j : Int)) (pJr t n (pP t n l m) j) (if j = 2 then 1 else 1000) (pJr t n (pP t n l m) j r) := fun _ => rfl
  have e43 : 4 - (j + 1) = 3 - j := by omega
  rw [eJ] at hF hK
  rw [e43] at hK
  have oo := hO.1
  have key : ∀ (i : Nat) (b1 : Int) (D1 M1 : Mem), (j ≠ 2 → n - b1 < (i : Int)) → (j = 2 → (i = 1 ∧ M1 331 (w : Int) = 0) ∨ (i = 0 ∧ M1 331 (w : Int) = 1)) → MdX t n b1 M1 → (∃ ts ps f, Den l (if j = 2 ∧ i = 1 then 2 else 3 - j) w ts ps f ∧ GR (w : Int) (M 311 27) (D 6 6) ts ps b D M b1 D1 M1) → NJ t n j w b1 M1 → (j ≤ 1 → M1 331 (w : Int) = M 331 (w : Int)) →
      (∀ e, pLo t n (3 - (j : Int)) (pJr t n (pP t n l m) j) i (.inr (b1, D1)) = .inl e → ∀ M', EF (w : Int) (M 311 27) M M' → M' 311 9 = e → Q 0 M') → (∀ b' D' M', pLo t n (3 - (j : Int)) (pJr t n (pP t n l m) j) i (.inr (b1, D1)) = .inr (b', D') → PO t n (w : Int) l (3 - j) w b D M b' D' M' → NJ t n (j + 1) w b' M' → (j + 1 ≤ 2 → M' 331 (w : Int) = M 331 (w : Int)) → HD d Q w 0 M') → HD d Q w 0 M1 := by
    intro i
    induction i with
    | zero =>
      intro b1 D1 M1 hb h2 m1 hg nj kp hF hK
      by_cases c2 : j = 2
      · obtain ⟨ts, ps, f, hden, hg⟩ := hg
        rw [if_neg (by omega)] at hden
        have m1c : M1 331 (w : Int) = 1 := by rcases h2 c2 with x | x; omega; exact x.2
        exact hK b1 D1 M1 rfl ⟨m1, ts, ps, f, hden, hg⟩ ⟨nj.1, fun _ => nj.2.1 (by omega), fun _ => nj.2.2.1 (by omega), fun _ _ => m1c, fun z => absurd z (by omega)⟩ (fun z => absurd z (by omega))
      · have := m1.2.1; have := hb c2; omega
    | succ i ihk =>
      intro b1 D1 M1 hb h2 m1 hg nj kp hF hK
      obtain ⟨ts, ps, f, hden, hg⟩ := hg
      by_cases jx : jnO t n (3 - (j : Int)) b1 = 0
      · have eL : pLo t n (3 - (j : Int)) (pJr t n (pP t n l m) j) (i + 1) (.inr (b1, D1)) = .inr (b1, D1) := if_pos jx
        have hden' : Den l (3 - j) w ts ps f := by
          by_cases c2 : j = 2 ∧ i + 1 = 1
          · rw [if_pos c2] at hden
            have : 3 - j = 1 := by omega
            rw [this]
            exact (Den.cl l).2.2.2.2.1 1 w _ _ _ (by decide) hden
          · rw [if_neg c2] at hden; exact hden
        rcases jnO_all (t := t) (n := n) (b := b1) (k := 3 - (j : Int)) with ⟨e, -⟩ | ⟨e, -⟩ | ⟨e, -⟩ | ⟨e, -⟩ | ⟨e, -⟩ | ⟨e, -⟩ | ⟨e, -⟩ | ⟨-, a0, a1, a2, a3⟩
        · omega
        · omega
        · omega
        · omega
        · omega
        · omega
        · omega
        refine hK b1 D1 M1 eL ⟨m1, ts, ps, f, hden', hg⟩ ⟨nj.1, fun _ => ?_, fun _ => ?_, fun _ q => ?_, fun _ => ?_⟩ (fun z => kp (by omega))
        · by_cases c : j = 0
          · exact a3 (by omega)
          · exact nj.2.1 (by omega)
        · by_cases c : j = 1
          · exact a2 (by omega)
          · exact nj.2.2.1 (by omega)
        · by_cases c : j = 2
          · have := a1 (by omega)
            rcases q with q | q
            · exact absurd q this.1
            · exact absurd q this.2
          · exact nj.2.2.2.1 (by omega) q
        · exact a0 (by omega)
      · have eL : pLo t n (3 - (j : Int)) (pJr t n (pP t n l m) j) (i + 1) (.inr (b1, D1)) = pLo t n (3 - (j : Int)) (pJr t n (pP t n l m) j) i (pAdd (jnO t n (3 - (j : Int)) b1) (pJr t n (pP t n l m) j (.inr (nxt t n b1, D1)))) := if_neg jx
        rw [eL] at hF hK
        have o330 : ∀ k : Int, k ≤ (w : Int) → M1 330 k = M 330 k := fun k hi => hg.1 _ _ (by omega) (by omega) (by omega) (by omega)
        have e27 := hg.2.2.1.2
        have e66 := hg.2.2.2.2.1.2
        refine jstep hO hj IH hw (hE.gr m1 hg hden.len) (fun k i0 i1 => by rw [o330 k i1]; exact ho k i0 i1) nj.1 (by rw [dpN_ext w (fun k _ i1 => o330 k i1)]; exact hd) rfl jx (fun z => by rcases h2 z with y | y; exact y.2; omega) (fun e he M' f' e' => hF e (by rw [he]; exact pLo_l) M' (hg.1.tr (f'.mono (Int.le_refl _) (by omega))) e') (fun b' D' M' he m' hd2 nj' kp' k2' => ?_)
        obtain ⟨t2, p2, f2, d2, g2⟩ := hd2
        have gg := hg.comp (g2.eq e27.symm e66.symm)
        have l1 := hden.len
        have l2 := d2.len
        have D66 := gg.2.2.2.2.1.2
        have bb := gg.2.2.2.2.2.2
        have b2 := g2.2.2.2.2.2.2
        rw [List.length_append] at D66
        rw [List.length_append, List.length_cons] at bb
        rw [List.length_cons] at b2
        have mb := m'.2.1
        have hE4 := hE.2.2.2
        have eA : pAdd (jnO t n (3 - (j : Int)) b1) (pJr t n (pP t n l m) j (.inr (nxt t n b1, D1))) = .inr (b', adD (jnO t n (3 - (j : Int)) b1) D') := by rw [he]; exact pA (by omega)
        rw [eA] at hF hK
        obtain ⟨f3, hd3⟩ := den_join (t := t) (n := n) (b := b1) (l := l) (w := w) (k := 3 - (j : Int)) (kk := 3 - j) (by omega) rfl jx (t1 := ts) (p1 := ps) (f1 := f) (t2 := t2) (p2 := p2) (f2 := f2) (by
          by_cases c2 : j = 2
          · rcases h2 c2 with y | y
            · rw [if_pos ⟨c2, y.1⟩] at hden
              rw [if_pos (by omega)]; exact hden
            · omega
          · rw [if_neg (fun z => c2 z.1)] at hden
            rw [if_neg (by omega)]; exact hden) (by rw [show 3 - j + 1 = 4 - j by omega]; exact d2)
        have g3 := gg.comp ((GR.add (x := (w : Int)) (b := b') (D := D') (M := M') (v := jnO t n (3 - (j : Int)) b1)).eq gg.2.2.1.2.symm gg.2.2.2.2.1.2.symm)
        rw [List.append_nil, List.append_assoc] at g3
        refine ihk b' (adD (jnO t n (3 - (j : Int)) b1) D') M' (fun z => by have := hb z; omega) (fun z => ?_) m' ⟨_, _, f3, ?_, g3⟩ nj' (fun z => by rw [kp' z, kp z]) hF hK
        · rcases h2 z with y | y
          · exact Or.inr ⟨by omega, k2' z⟩
          · omega
        · rw [if_neg (fun z => by rcases h2 z.1 with y | y <;> omega)]
          exact hd3
  refine IH w b D M hw hE ho c01 hd (fun z => h0 (by omega)) (fun e he M' f' e' => hF e (by rw [he]; exact pLo_l) M' f' e') (fun b1 D1 M1 he po nj kp => ?_)
  obtain ⟨m1, ts, ps, f, hden, hg⟩ := po
  rw [he] at hF hK
  have ne := hden.ne
  have bb := hg.2.2.2.2.2.2
  have mb := hE.1.2.1
  refine key (if j = 2 then 1 else 1000) b1 D1 M1 (fun z => ?_) (fun z => ?_) m1 ⟨ts, ps, f, ?_, hg⟩ nj (fun z => kp (by omega)) hF hK
  · rw [if_neg z]; omega
  · rw [if_pos z]
    exact Or.inl ⟨rfl, by rw [kp (by omega)]; exact h0 (by omega)⟩
  · by_cases c2 : j = 2
    · rw [if_pos c2, if_pos ⟨c2, rfl⟩]
      rw [show 4 - j = 2 by omega] at hden
      exact hden
    · rw [if_neg c2, if_neg (fun z => c2 z.1)]
      refine (Den.cl l).2.2.2.2.1 (3 - j) w _ _ _ (by omega) ?_
      rw [show 3 - j + 1 = 4 - j by omega]
      exact hden
theorem joinM_zero (h : PartM d Q t n l m) : JoinM d Q t n l m 0 := by
  intro w b D M hw hE ho c01 hd _ hF hK
  refine h w b D M hw hE ho c01 hF (fun b' D' M' he po k => ?_)
  rw [hd]
  exact hK b' D' M' he po ⟨by rw [k]; exact c01, fun z => absurd z (by decide), fun z => absurd z (by decide), fun z => absurd z (by decide), fun z => absurd z (by decide)⟩ (fun _ => k)
theorem joinM_4 (hO : TpO t n) (h : PartM d Q t n l m) : JoinM d Q t n l m 4 := joinM_succ hO (by decide) (joinM_succ hO (by decide) (joinM_succ hO (by decide) (joinM_succ hO (by decide) (joinM_zero h))))
theorem partM_zero (hO : TpO t n) (hl3 : 0 ≤ l ∧ l < 3) : PartM d Q t n l 0 := by
  intro w b D M hw hE ho c01 hF hK
  have eP : pP t n l 0 (.inr (b, D)) = citeR (tkd t n b = 3 ∨ isF t n l b ∨ isW t n 21 b ∨ isS t n 40 b) (fl 5 b) (fl 1 b) := rfl
  by_cases c : tkd t n b = 3 ∨ isF t n l b ∨ isW t n 21 b ∨ isS t n 40 b
  · rw [citeR_t c] at eP
    exact hd_deep hO hE.1 hE.2.1 hl3 c (by omega) (fun M' f' e' => hF _ eP M' f'.ef e')
  · rw [citeR_f c] at eP
    exact hd_bad hO hE.1 hE.2.1 hl3 (fun z => c (Or.inl z)) (fun z => c (Or.inr (Or.inl z))) (fun z => c (Or.inr (Or.inr (Or.inl z)))) (fun z => c (Or.inr (Or.inr (Or.inr z)))) (fun M' f' e' => hF _ eP M' f'.ef e')
theorem partM_succ (hO : TpO t n) (hl3 : 0 ≤ l ∧ l < 3) (IH : PartM d Q t n l m) : PartM d Q t n l (m + 1) := by
  intro w b D M hw hE ho c01 hF hK
  have IHJ := joinM_4 hO IH
  have oo := hO.1
  have mb := hE.1.2.1
  have h66 := hE.2.2.2
  have eP : pP t n l (m + 1) (.inr (b, D)) = citeR (tkd t n b = 3) (pAdd (tnm t n b) (.inr (nxt t n b, D))) (citeR (isF t n l b) (pAdd (-9 - (widx (twd t n b) - 24)) (.inr (nxt t n b, D))) (citeR (isW t n 21 b) (pAdd (-1) (pP t n l m (.inr (nxt t n b, D)))) (citeR (isS t n 40 b) (pS t n 41 (pJr t n (pP t n l m) 4 (.inr (nxt t n b, D)))) (fl 1 b)))) := rfl
  rw [eP] at hF hK
  have lt : tkd t n b ≠ 0 → D 6 6 < 1000 := fun z => by
    have : ¬ n ≤ b := fun y => z (tkd_0.mpr y)
    omega
  have o330 : ∀ {v : Int} {M1 : Mem}, GR (w : Int) (M 311 27) (D 6 6) [v] [] b D M (nxt t n b) D M1 → ∀ i : Int, i ≤ (w : Int) → M1 330 i = M 330 i := fun g i hi => g.1 _ _ (by omega) (by omega) (by omega) (by omega)
  have cw : ((w + 1 : Nat) : Int) = (w : Int) + 1 := by omega
  by_cases c3 : tkd t n b = 3
  · rw [citeR_t c3, pA (lt (by omega))] at hF hK
    have tm := tnm_in (t := t) c3
    exact hd_num hO hE hl3 c3 ho (by omega) (fun M' m' g k => hK _ _ M' rfl ⟨m', _, _, _, (Den.cl l).1 w (tnm t n b) (by omega) tm.1 tm.2, g.comp ((GR.add (x := (w : Int))).eq g.2.2.1.2.symm (by simp))⟩ k)
  rw [citeR_f c3] at hF hK
  by_cases cf : isF t n l b
  · have k0 : tkd t n b ≠ 0 := by have := cf.1; omega
    rw [citeR_t cf, pA (lt k0)] at hF hK
    exact hd_fac hO hE hl3 cf ho (by omega) (fun M' m' g k => hK _ _ M' rfl ⟨m', _, _, _, (Den.cl l).2.1 w (widx (twd t n b) - 24) (by omega) cf.2, g.comp ((GR.add (x := (w : Int))).eq g.2.2.1.2.symm (by simp))⟩ k)
  rw [citeR_f cf] at hF hK
  by_cases cn : isW t n 21 b
  · rw [citeR_t cn] at hF hK
    refine hd_not hO hE hl3 cn (by omega) (fun M1 m1 g1 q0 q1 k1 => ?_)
    have e27 := g1.2.2.1.2
    have e27' : M1 311 27 = M 311 27 + 1 := e27
    have op1 : OpO (w + 1) M1 := fun i i0 i1 => by
      by_cases hi : i = (w : Int) + 1
      · rw [hi]; exact Or.inl q0
      · rw [o330 g1 i (by omega)]; exact ho i i0 (by omega)
    refine IH (w + 1) (nxt t n b) D M1 (by omega) (hE.gr m1 g1 (by simp)) op1 (by rw [cw]; exact Or.inl q1) (fun e he M' f' e' => hF e (by rw [he]; rfl) M' (g1.1.tr (f'.mono (by omega) (by omega))) e') (fun b' D' M' he po k => ?_)
    obtain ⟨m', ts, ps, f, hden, g2⟩ := po
    have l1 := hden.len
    have gg := g1.comp ((g2.mono (x := (w : Int)) (by omega)).eq e27.symm (by simp))
    have D66 := gg.2.2.2.2.1.2
    have bb := gg.2.2.2.2.2.2
    rw [List.length_append, List.length_nil] at D66
    rw [List.length_append, List.length_cons, List.length_nil] at bb
    have mb' := m'.2.1
    rw [he, pA (by omega)] at hK
    rw [dpN_1 q0, dpN_ext w (fun i _ i1 => o330 g1 i i1)]
    refine hK _ _ M' rfl ⟨m', _, _, _, (Den.cl l).2.2.1 w ts ps f (by omega) hden, ?_⟩ (by rw [g2.1 _ _ (by omega) (by omega) (by omega) (by omega)]; exact k1)
    have g3 := gg.comp ((GR.add (x := (w : Int)) (b := b') (D := D') (M := M') (v := -1)).eq gg.2.2.1.2.symm gg.2.2.2.2.1.2.symm)
    rw [List.append_nil] at g3
    exact g3
  rw [citeR_f cn] at hF hK
  by_cases co : isS t n 40 b
  · rw [citeR_t co] at hF hK
    refine hd_opn hO hE hl3 co (by omega) (fun M1 m1 g1 q0 q1 k1 => ?_)
    have e27 := g1.2.2.1.2
    have e27' : M1 311 27 = M 311 27 + 1 := e27
    have op1 : OpO (w + 1) M1 := fun i i0 i1 => by
      by_cases hi : i = (w : Int) + 1
      · rw [hi]; exact Or.inr q0
      · rw [o330 g1 i (by omega)]; exact ho i i0 (by omega)
    have hE1 := hE.gr m1 g1 (by simp)
    refine IHJ (w + 1) (nxt t n b) D M1 (by omega) hE1 op1 (by rw [cw]; exact Or.inl q1) (dpN_2 (by rw [q0]; decide)) (fun _ => by rw [cw]; exact q1) (fun e he M' f' e' => hF e (by rw [he]; rfl) M' (g1.1.tr (f'.mono (by omega) (by omega))) e') (fun b' D' M' he po nj _ => ?_)
    have hE2 := hE1.po po
    obtain ⟨m', ts, ps, f, hden, g2⟩ := po
    have gg := g1.comp ((g2.mono (x := (w : Int)) (by omega)).eq e27.symm (by simp))
    have e27g := gg.2.2.1.2
    rw [he] at hF hK
    have eS : pS t n 41 (.inr (b', D')) = @ite PR (isS t n 41 b') (Classical.propDecidable _) (.inr (nxt t n b', D')) (fl 1 b') := rfl
    by_cases cc : isS t n 41 b'
    · rw [if_pos cc] at eS
      have o2 : ∀ i : Int, i ≤ (w : Int) → M' 330 i = M 330 i := fun i hi => gg.1 _ _ (by omega) (by omega) (by omega) (by omega)
      refine hd_close hO hE2 nj (by omega) (fun i i0 i1 => by rw [o2 i i1]; exact ho i i0 i1) cc (fun M'' m'' g3 k3 => ?_)
      rw [dpN_ext w (fun i _ i1 => o2 i i1)]
      refine hK _ _ M'' eS ⟨m'', _, _, _, (Den.cl l).2.2.2.1 w ts ps f (by omega) hden, ?_⟩ (by rw [k3, g2.1 _ _ (by omega) (by omega) (by omega) (by omega)]; exact k1)
      have g4 := gg.comp (g3.eq gg.2.2.1.2.symm gg.2.2.2.2.1.2.symm)
      rw [List.append_nil] at g4
      exact g4
    · rw [if_neg cc] at eS
      exact hd_noj hO m' nj (by omega) (Or.inl cc) (fun z => absurd z (by omega)) (fun M'' f' e' => hF _ eS M'' (gg.1.tr f'.ef) e')
  · rw [citeR_f co] at hF hK
    exact hd_bad hO hE.1 hE.2.1 hl3 c3 cf cn co (fun M' f' e' => hF _ rfl M' f'.ef e')
theorem partM_all (hO : TpO t n) (hl3 : 0 ≤ l ∧ l < 3) : ∀ m : Nat, PartM d Q t n l m := by
  intro m
  induction m with
  | zero => exact partM_zero hO hl3
  | succ m ih => exact partM_succ hO hl3 ih
/-- the model reads an E up to its semicolon -/
theorem c_reads (hO : TpO t n) (hl3 : 0 ≤ l ∧ l < 3) (hE : EI t n l b D M)
    (hF : ∀ e, pJr t n (pP t n l 5) 4 (.inr (b, D)) = .inl e → ∀ M', EF 0 (M 311 27) M M' → M' 311 9 = e → Q 0 M')
    (hN : ∀ b' D', pJr t n (pP t n l 5) 4 (.inr (b, D)) = .inr (b', D') → ¬ isS t n 59 b' → ∀ M', EF 0 (M 311 27) M M' → M' 311 9 = 1 + 16 * b' → Q 0 M')
    (hK : ∀ b' D', pJr t n (pP t n l 5) 4 (.inr (b, D)) = .inr (b', D') → isS t n 59 b' → ∀ M', MdX t n (nxt t n b') M' → (∃ ts ps f, Den l 0 0 ts ps f ∧ GR 0 (M 311 27) (D 6 6) ts ps b D M b' D' M') → Q 1 M') : Ct (d + 2) M_X12_reads NT 0 0 (some lay) [(2, 311)] M Q := by
  refine ctof (s_X12_reads_0 (fun G1 e1 => ?_))
  have f1 : ∀ q k : Int, ¬ (q = 331 ∧ k = 0) → G1 q k = M q k := fun q k a => by rw [e1, st_ne _ _ a]
  have c27 : G1 311 27 = M 311 27 := f1 _ _ (by omega)
  have ef : EF 0 (M 311 27) M G1 := fun q k _ _ _ a => f1 q k (by omega)
  have hE1 : EI t n l b D G1 := ⟨hE.1.fr (fun k _ _ => f1 _ _ (by omega)) (fun k => f1 _ _ (by omega)), by rw [f1 _ _ (by omega)]; exact hE.2.1, by rw [c27]; exact hE.2.2.1, hE.2.2.2⟩
  have J := joinM_4 (d := d) (Q := Q) hO (partM_all (d := d) (Q := Q) hO hl3 5)
  refine J 0 b D G1 rfl hE1 (fun i i0 i1 => absurd i1 (by omega)) (Or.inl (by rw [e1]; exact st_same _ _ _ _)) rfl (fun _ => by rw [e1]; exact st_same _ _ _ _) (fun e he M' f' e' => hF e he M' (ef.tr (by rw [c27] at f'; exact f')) e') (fun b' D' M' he po nj _ => ?_)
  obtain ⟨m', ts, ps, f, hden, g2⟩ := po
  rw [c27] at g2
  have g3 : GR 0 (M 311 27) (D 6 6) ts ps b D M b' D' M' := ⟨ef.tr g2.1, g2.2.1, ⟨rfl, g2.2.2.1.2⟩, g2.2.2.2⟩
  by_cases cs : isS t n 59 b'
  · refine hd_top hO m' nj cs (fun M'' f'' m'' => hK b' D' he cs M'' m'' ⟨ts, ps, f, hden, ⟨g3.1.tr f''.ef, g3.2.1, ⟨rfl, by rw [f'' _ _ (by omega)]; exact g3.2.2.1.2⟩, ?_, g3.2.2.2.2⟩⟩)
    exact At_ext _ _ (fun k _ _ => (f'' _ _ (by omega)).symm) g3.2.2.2.1
  · exact hd_noj hO m' nj (by omega) (Or.inr rfl) (fun _ => cs) (fun M'' f'' e'' => hN b' D' he cs M'' (g3.1.tr f''.ef) e'')
end MREC
