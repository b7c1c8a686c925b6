section REGIMES
variable {d : Nat} {S S' G G' H : Mem} {Q : Int → Mem → Prop} {c : Int} {fs : Int → Law}
/-- what the model's tables of waiting and going write -/
def RgF (G G' : Mem) : Prop := ∀ q k : Int, ¬ (332 ≤ q ∧ q ≤ 341) → ¬ (345 ≤ q ∧ q ≤ 348) → ¬ (q = 311 ∧ 47 ≤ k ∧ k ≤ 49) → G' q k = G q k
theorem RgF.rfl' : RgF G G := fun _ _ _ _ _ => rfl
theorem RgF.tr {G2 : Mem} (h : RgF G G') (h' : RgF G' G2) : RgF G G2 := fun q k a b e => (h' q k a b e).trans (h q k a b e)
theorem RgF.cor (h : RgF G G') : CorM G G' := fun q k hq => h q k (by omega) (by omega) (by omega)
theorem RgF.ml (h : RgF G G') : MlF G G' := ⟨fun q k a b => h q k (by omega) (by omega) (by omega), fun q k a => h q k (by omega) (by omega) (by omega)⟩
theorem WgF.rg (h : WgF G G') : RgF G G' := fun q k a _ e => h q k a e
theorem EvM.rg (h : EvM G G') : RgF G G' := h.wg.rg
theorem RgF.st {q i v : Int} (h : 345 ≤ q ∧ q ≤ 348) : RgF G (st G q i v) := fun a b _ hb _ => st_nq _ _ _ _ (by omega)
theorem pdR_M {n : Nat} {p t : Int} (hR : Cu S G c) (hn : n ≤ 5) : 0 ≤ pdR S c fs n p t ∧ pdR S c fs n p t ≤ 5000000 := by
  have a := (hR.price (k := 0) (by omega) (by omega)).2
  have b := (hR.price (k := 1) (by omega) (by omega)).2
  exact bst_pd (C := 0) (ahOkM hR) a b hn
theorem pdC_M {n : Nat} {p t : Int} (hR : Cu S G c) (hn : n ≤ 5) : 0 ≤ pdC S c fs n p t ∧ pdC S c fs n p t ≤ 1000000 := by
  have := pdR_M (fs := fs) (p := p) (t := t) hR hn
  unfold pdC
  rw [Int.tdiv_eq_ediv_of_nonneg this.1]
  omega
theorem odR_M {n : Nat} {p t : Int} (hR : Cu S G c) : 0 ≤ odR S c fs n p t ∧ odR S c fs n p t ≤ 10000 := thF_in (ahOkM hR) n p 10000 (by omega)
theorem zerosT {M : Mth} {ls : Int → List (Nat × AV)} {fl : Int} (step : ∀ (i : Int) (G1 : Mem), 0 ≤ i → i < 200 → (∀ G2, G2 = st G1 345 (200 * fl + i) 0 → Rn d M zN 9 (ls (i + 1)) [] G2 Q) → Rn d M zN 9 (ls i) [] G1 Q) (fin : ∀ G1 : Mem, (∀ q k : Int, q ≠ 345 → G1 q k = G q k) → (∀ n, 0 ≤ n → n < 200 → G1 345 (200 * fl + n) = 0) → Rn d M zN 9 (ls 200) [] G1 Q) : Rn d M zN 9 (ls 0) [] G Q := by
  have key : ∀ (k : Nat) (i : Int) (G1 : Mem), i + k = 200 → 0 ≤ i → (∀ q k : Int, q ≠ 345 → G1 q k = G q k) → (∀ n, 0 ≤ n → n < i → G1 345 (200 * fl + n) = 0) → Rn d M zN 9 (ls i) [] G1 Q := by
    intro k
    induction k with
    | zero =>
      intro i G1 hi h0 e z
      obtain rfl : i = 200 := by omega
      exact fin G1 e z
    | succ k ih =>
      intro i G1 hi h0 e z
      refine step i G1 h0 (by omega) (fun G2 e2 => ih (i + 1) G2 (by omega) (by omega) (fun q k hq => by rw [e2, st_nq _ _ _ _ hq]; exact e q k hq) (fun n n0 n1 => ?_))
      by_cases hn : n = i
      · subst hn; rw [e2, st_same]
      · rw [e2, st_nk _ _ _ (by omega)]; exact z n n0 (by omega)
  exact key 200 0 G (by omega) (by omega) (fun _ _ _ => rfl) (fun n a b => by omega)
theorem c_regimes {w : Int} (hR : Cu S G c) (hw : 0 ≤ w ∧ w < S c 8) (hL : LawsR S G c 0 fs) {n : Nat} (hn : (n : Int) = S c 6 - 1 - S (c + 13 + w) 1)
    (h : ∀ G', RgF G G' → (∀ t k, S 73 7 ≤ t → t ≤ S c 7 → 0 ≤ k → k < 200 → G' 345 (200 * t + k) = VF (frB S c w) (pdC S c fs n (S (c + 13 + w) 1 + 1)) (odR S c fs n (S (c + 13 + w) 1 + 1)) (thR S c fs) (grow S (c + 13 + w) 0) (S (c + 13 + w) 3) (1000 * S (c + 5) 2) (S c 7) t k) →
      (∀ t k, S 73 7 ≤ t → t < S c 7 → 0 ≤ k → k < 200 → G' 346 (200 * t + k) = if VF (frB S c w) (pdC S c fs n (S (c + 13 + w) 1 + 1)) (odR S c fs n (S (c + 13 + w) 1 + 1)) (thR S c fs) (grow S (c + 13 + w) 0) (S (c + 13 + w) 3) (1000 * S (c + 5) 2) (S c 7) t k < wtF (frB S c w) (pdC S c fs n (S (c + 13 + w) 1 + 1)) (odR S c fs n (S (c + 13 + w) 1 + 1)) (thR S c fs) (grow S (c + 13 + w) 0) (S (c + 13 + w) 3) (1000 * S (c + 5) 2) (S c 7) t k then 1 else 0) → Q 0 G') :
    Ct (d + 8) M_X12_regimes NT 0 0 (some lay) [(2, 311), (0, w)] G Q := by
  have r := hR.rng
  have tk := hR.tick
  have so := hR.sok hw.1 hw.2
  have so1 := so.2.1
  have k3 : 1 ≤ S (c + 13 + w) 3 ∧ S (c + 13 + w) 3 ≤ 99 := so.2.2.2.1
  have gb := grow_bd so (m := 0) (by omega)
  have se := hR.seats
  have nu := hR.nums.1
  have sit := (hR.sit hw.1 hw.2).2.2.2.1
  have pr2 := (hR.price (k := 2) (by omega) (by omega))
  simp only [Int.reduceAdd] at pr2
  have qb := fun t => queV_in (S := S) (c := c) (fs := fs) (t := t) (ou := 0)
  have pdb := fun t => pdC_M (fs := fs) (n := n) (p := S (c + 13 + w) 1 + 1) (t := t) hR (by omega)
  have odb := fun t => odR_M (fs := fs) (n := n) (p := S (c + 13 + w) 1 + 1) (t := t) hR
  have tht : ∀ t, thR S c fs t = t + (1 + queV S c fs t 0) := fun t => rfl
  have pde : ∀ t, Int.tdiv (pdR S c fs n (S (c + 13 + w) 1 + 1) t) 10 = pdC S c fs n (S (c + 13 + w) 1 + 1) t := fun t => rfl
  have pdr := fun t => pdR_M (fs := fs) (n := n) (p := S (c + 13 + w) 1 + 1) (t := t) hR (by omega)
  have bwe := fun t v (hv : Bst (slB S c t) (wkD S c fs t) (spD S c fs t 0) (spD S c fs t 1) (S (c + 5) 0) (S (c + 5) 1) (S (c + 5) 2) n (S (c + 13 + w) 1 + 1) v) => bwF_eq hv
  have frt : ∀ t, frB S c w t = true ↔ ¬ clsd S c t ∧ ¬ aslp S 73 c w t := fun t => frB_tr
  have ok : VOk (pdC S c fs n (S (c + 13 + w) 1 + 1)) (odR S c fs n (S (c + 13 + w) 1 + 1)) (thR S c fs) (grow S (c + 13 + w) 0) (S (c + 13 + w) 3) (1000 * S (c + 5) 2) (S c 7) (S 73 7) := ⟨fun t a b => ⟨pdb t, odb t, by have := tht t; have := qb t; omega⟩, gb, k3.2, by omega, by omega⟩
  have gr := fun {K : Int → Mem → Prop} (G1 : Mem) (f : RgF G G1) (hq : K (grow S (c + 13 + w) 0) G1) => c_growth (d := d + 7) (Q := K) (hR.ext f.cor) hw hq
  generalize hg : grow S (c + 13 + w) 0 = g at *
  generalize hpd : pdC S c fs n (S (c + 13 + w) 1 + 1) = pd at *
  generalize hpr : pdR S c fs n (S (c + 13 + w) 1 + 1) = pr at *
  generalize hod : odR S c fs n (S (c + 13 + w) 1 + 1) = od at *
  generalize hfr : frB S c w = fr at *
  generalize hth : thR S c fs = th at *
  generalize hlm : S (c + 13 + w) 3 = lm at *
  generalize hfl : S c 7 = fl at *
  generalize hnow : S 73 7 = now at *
  generalize hlt : 1000 * S (c + 5) 2 = lt at *
  have vb := fun (u k : Int) (hu : now ≤ u) => VF_b (fr := fr) ok (t := u) (n := k) hu
  -- the loop from the end
  have L85 : ∀ (m : Nat) (t : Int) (G1 : Mem), now + m = t + 1 → t < fl → RgF G G1 → (∀ u, now ≤ u → u < fl → G1 347 u = pr u ∧ G1 348 u = od u) → (∀ u k, t < u → u ≤ fl → 0 ≤ k → k < 200 → G1 345 (200 * u + k) = VF fr pd od th g lm lt fl u k) → (∀ u k, t < u → u < fl → 0 ≤ k → k < 200 → G1 346 (200 * u + k) = if VF fr pd od th g lm lt fl u k < wtF fr pd od th g lm lt fl u k then 1 else 0) →
      Rn (d + 8) M_X12_regimes zN 85 [(0, (2, 311)), (1, (0, w)), (2, (0, fl)), (3, (0, t))] [] G1 Q := by
    intro m
    induction m with
    | zero =>
      intro t G1 hm ht hf hp h5 h6
      have e : G1 342 110 = now := by rw [hf _ _ (by omega) (by omega) (by omega)]; exact nu
      exact s_X12_regimes_85 ⟨by omega, by omega, fun _ => h G1 hf (fun u k a b e f => h5 u k (by omega) b e f) (fun u k a b e f => h6 u k (by omega) b e f), fun x => absurd (by omega) x⟩
    | succ m ih =>
      intro t G1 hm ht hf hp h5 h6
      have e : G1 342 110 = now := by rw [hf _ _ (by omega) (by omega) (by omega)]; exact nu
      have hR1 := hR.ext hf.cor
      have hL1 := hL.ext hf.cor
      have tt := tht t
      have qt := qb t
      have pt := pdb t
      have prt := pdr t
      have ot := odb t
      have pet := pde t
      have bb := bhF_b (fr := fr) ok (t := t) (by omega) ht
      have wb := fun k => wtF_b (fr := fr) ok (t := t) (n := k) (by omega)
      have L118 : ∀ f : Int, f = (if fr t = true then 1 else 0) → Rn (d + 8) M_X12_regimes zN 118 [(0, (2, 311)), (1, (0, w)), (2, (0, fl)), (3, (0, t))] [(0, f)] G1 Q := by
        intro f hff
        refine s_X12_regimes_118 (c_queueAt hL1 (fun G2 f2 => ?_))
        have hf2 := hf.tr f2.rg
        have o2 : ∀ q k : Int, 345 ≤ q → G2 q k = G1 q k := fun q k a => f2 q k (by omega)
        have inner : ∀ (j : Nat) (k : Int) (G3 : Mem), k + j = 200 → 0 ≤ k → RgF G2 G3 → (∀ q i : Int, 347 ≤ q → G3 q i = G2 q i) → (∀ u i, t < u → u ≤ fl → 0 ≤ i → i < 200 → G3 345 (200 * u + i) = VF fr pd od th g lm lt fl u i) → (∀ u i, t < u → u < fl → 0 ≤ i → i < 200 → G3 346 (200 * u + i) = if VF fr pd od th g lm lt fl u i < wtF fr pd od th g lm lt fl u i then 1 else 0) → (∀ i, 0 ≤ i → i < k → G3 345 (200 * t + i) = VF fr pd od th g lm lt fl t i ∧ G3 346 (200 * t + i) = if VF fr pd od th g lm lt fl t i < wtF fr pd od th g lm lt fl t i then 1 else 0) →
            Rn (d + 8) M_X12_regimes zN 169 [(0, (2, 311)), (1, (0, w)), (2, (0, fl)), (3, (0, t)), (4, (0, f)), (6, (0, bhF fr pd od th g lm lt fl t)), (7, (0, k))] [] G3 Q := by
          intro j
          induction j with
          | zero =>
            intro k G3 hk k0 f3 o3 i5 i6 it
            refine s_X12_regimes_169 ⟨by omega, fun _ => ih (t + (-1)) G3 (by omega) (by omega) (hf2.tr f3) (fun u a b => ?_) (fun u i a b i0 i1 => ?_) (fun u i a b i0 i1 => ?_), fun x => absurd (by omega) x⟩
            · rw [o3 _ _ (by omega), o3 _ _ (by omega), o2 _ _ (by omega), o2 _ _ (by omega)]; exact hp u a b
            · by_cases hu : u = t
              · subst hu; exact (it i i0 (by omega)).1
              · exact i5 u i (by omega) b i0 i1
            · by_cases hu : u = t
              · subst hu; exact (it i i0 (by omega)).2
              · exact i6 u i (by omega) b i0 i1
          | succ j ihj =>
            intro k G3 hk k0 f3 o3 i5 i6 it
            have hf3 := hf2.tr f3
            have wbk := wb k
            have a3 : G3 318 w = lm := by rw [hf3 _ _ (by omega) (by omega) (by omega)]; exact sit
            have a5 : 1000 * G3 313 5 = lt := by rw [hf3 _ _ (by omega) (by omega) (by omega), pr2.1]; exact hlt
            have v1 := i5 (t + 1) (min 199 (k + g)) (by omega) (by omega) (by omega) (by omega)
            rw [VF_min ok (by omega)] at v1
            have a7 : G3 347 t = pr t ∧ G3 348 t = od t := by rw [o3 _ _ (by omega), o3 _ _ (by omega), o2 _ _ (by omega), o2 _ _ (by omega)]; exact hp t (by omega) ht
            have L218 : ∀ l : Int, l = (if lm < k + g then lt else 0) → Rn (d + 8) M_X12_regimes zN 218 [(0, (2, 311)), (1, (0, w)), (2, (0, fl)), (3, (0, t)), (4, (0, f)), (6, (0, bhF fr pd od th g lm lt fl t)), (7, (0, k)), (8, (0, min 199 (k + g)))] [(0, l)] G3 Q := by
              intro l hl
              refine s_X12_regimes_218 ⟨by omega, by omega, ?_⟩
              rw [v1, a7.1, a7.2, pet]
              have wt : l + VF fr pd od th g lm lt fl (t + 1) (k + g) = wtF fr pd od th g lm lt fl t k := by unfold wtF; rw [hl]; omega
              rw [wt]
              have z := lsF_in (fr := fr) (t := t) (w := wtF fr pd od th g lm lt fl t k) (b := bhF fr pd od th g lm lt fl t) (W := 200000000) pt ot (by omega) (by omega) (by omega)
              have V := VF_lt (fr := fr) (pd := pd) (od := od) (th := th) (g := g) (lm := lm) (lt := lt) (n := k) ht (by omega)
              unfold lsF at V z
              have fin : ∀ gv : Int, gv = (if VF fr pd od th g lm lt fl t k < wtF fr pd od th g lm lt fl t k then 1 else 0) → ∀ x12 : Int, (gv = 1 → x12 = VF fr pd od th g lm lt fl t k) → Rn (d + 8) M_X12_regimes zN 313 [(0, (2, 311)), (1, (0, w)), (2, (0, fl)), (3, (0, t)), (4, (0, f)), (6, (0, bhF fr pd od th g lm lt fl t)), (7, (0, k)), (9, (0, wtF fr pd od th g lm lt fl t k)), (12, (0, x12))] [(0, gv), (0, 200 * t + k), (2, 346)] G3 Q := by
                intro gv hgv x12 h12
                have g01 : gv = 0 ∨ gv = 1 := by split at hgv <;> omega
                have vle := VF_le (fr := fr) (pd := pd) (od := od) (th := th) (g := g) (lm := lm) (lt := lt) (n := k) ht (by omega)
                refine s_X12_regimes_313 ⟨by omega, g01, fun G4 e4 => ⟨by omega, ?_⟩⟩
                have c4 : G4 346 (200 * t + k) = gv := by rw [e4, st_same]
                have nxt : ∀ G5 : Mem, G5 = st G4 345 (200 * t + k) (VF fr pd od th g lm lt fl t k) → Rn (d + 8) M_X12_regimes zN 169 [(0, (2, 311)), (1, (0, w)), (2, (0, fl)), (3, (0, t)), (4, (0, f)), (6, (0, bhF fr pd od th g lm lt fl t)), (7, (0, k + 1))] [] G5 Q := by
                  intro G5 e5
                  refine ihj (k + 1) G5 (by omega) (by omega) (f3.tr ?_) (fun q i a => ?_) (fun u i a b i0 i1 => ?_) (fun u i a b i0 i1 => ?_) (fun i i0 i1 => ?_)
                  · rw [e5, e4]
                    exact (RgF.st (by omega)).tr (RgF.st (by omega))
                  · rw [e5, st_nq _ _ _ _ (by omega), e4, st_nq _ _ _ _ (by omega)]; exact o3 q i a
                  · rw [e5, st_nk _ _ _ (by omega), e4, st_nq _ _ _ _ (by decide)]; exact i5 u i a b i0 i1
                  · rw [e5, st_nq _ _ _ _ (by decide), e4, st_nk _ _ _ (by omega)]; exact i6 u i a b i0 i1
                  · by_cases hi : i = k
                    · subst hi
                      rw [e5, st_same, st_nq _ _ _ _ (by decide), c4]
                      exact ⟨rfl, hgv⟩
                    · rw [e5, st_nk _ _ _ (by omega), st_nq _ _ _ _ (by decide), e4, st_nq _ _ _ _ (by decide), st_nk _ _ _ (by omega)]
                      exact it i i0 (by omega)
                rw [c4]
                refine ⟨by omega, fun x G7 e7 => nxt G7 ?_, fun x G8 e8 => nxt G8 ?_⟩
                · have y : ¬ VF fr pd od th g lm lt fl t k < wtF fr pd od th g lm lt fl t k := fun y => by rw [if_pos y] at hgv; omega
                  rw [e7, show VF fr pd od th g lm lt fl t k = wtF fr pd od th g lm lt fl t k by omega]
                · rw [e8, h12 (by omega)]
              refine ⟨by omega, by omega, by omega, by omega, by omega, by omega, by split at hff <;> omega, fun x => fin 0 ?_ _ (fun y => absurd y (by decide)), fun x => ⟨by omega, fun y => fin 0 ?_ _ (fun y => absurd y (by decide)), fun y => fin 1 ?_ _ (fun _ => ?_)⟩⟩
              · have nf : ¬ fr t = true := fun z => by rw [if_pos z] at hff; omega
                rw [if_neg nf] at V
                rw [V, if_neg (by omega)]
              · have nf : fr t = true := by
                  by_cases z : fr t = true
                  · exact z
                  · rw [if_neg z] at hff; exact absurd hff x
                rw [if_pos nf] at V
                rw [if_neg (by omega)]
              · have nf : fr t = true := by
                  by_cases z : fr t = true
                  · exact z
                  · rw [if_neg z] at hff; exact absurd hff x
                rw [if_pos nf] at V
                rw [if_pos (by omega)]
              · have nf : fr t = true := by
                  by_cases z : fr t = true
                  · exact z
                  · rw [if_neg z] at hff; exact absurd hff x
                rw [if_pos nf] at V
                omega
            refine s_X12_regimes_169 ⟨by omega, fun x => absurd x (by omega), fun _ => gr G3 hf3 ⟨by omega, by omega, by omega, by omega, ?_⟩⟩
            rw [a3, a5]
            exact ⟨fun x => L218 0 (by rw [if_neg (by omega)]), fun x => L218 lt (by rw [if_pos (by omega)])⟩
        have start : ∀ G3, G3 = G2 → Rn (d + 8) M_X12_regimes zN 169 [(0, (2, 311)), (1, (0, w)), (2, (0, fl)), (3, (0, t)), (4, (0, f)), (6, (0, bhF fr pd od th g lm lt fl t)), (7, (0, 0))] [] G3 Q := fun G3 e3 => by
          subst e3
          exact inner 200 0 G3 (by omega) (by omega) RgF.rfl' (fun _ _ _ => rfl) (fun u i a b i0 i1 => by rw [o2 _ _ (by omega)]; exact h5 u i a b i0 i1) (fun u i a b i0 i1 => by rw [o2 _ _ (by omega)]; exact h6 u i a b i0 i1) (fun i a b => by omega)
        rw [show t + 1 + queV S c fs t 0 = th t by omega]
        have start' := start G2 rfl
        unfold bhF at start'
        refine ⟨by omega, by omega, fun x => ?_, fun x => ⟨by omega, ?_⟩⟩
        · rw [if_neg (by omega)] at start'
          exact start'
        · rw [if_pos (by omega)] at start'
          have hh := hp (th t) (by omega) (by omega)
          have prh := pdr (th t)
          rw [o2 _ _ (by omega), o2 _ _ (by omega), hh.1, pde]
          have v0 := h5 (th t) 0 (by omega) (by omega) (by omega) (by omega)
          rw [Int.add_zero] at v0
          rw [v0]
          exact ⟨by omega, by omega, start'⟩
      refine s_X12_regimes_85 ⟨by omega, by omega, fun x => absurd x (by omega), fun _ => c_isAsleepAt hR1 hw (by omega) (fun a => ⟨by omega, fun _ => L118 0 (by rw [if_neg (fun y => ((frt t).mp y).2 a)]), fun z => absurd (show (1 : Int) ≠ 0 by decide) z⟩) (fun a => ⟨by omega, fun z => absurd rfl z, fun _ => c_isShut hR1 (by omega) (fun x => ⟨by omega, fun _ => L118 0 (by rw [if_neg (fun y => ((frt t).mp y).1 x)]), fun z => absurd (show (1 : Int) ≠ 0 by decide) z⟩) (fun x => ⟨by omega, fun z => absurd rfl z, fun _ => L118 1 (by rw [if_pos ((frt t).mpr ⟨x, a⟩)])⟩)⟩)⟩
  -- the best ways of each tick
  have L43 : ∀ (m : Nat) (t : Int) (G1 : Mem), t + m = fl → now ≤ t → RgF G G1 → (∀ u, now ≤ u → u < t → G1 347 u = pr u ∧ G1 348 u = od u) → (∀ k, 0 ≤ k → k < 200 → G1 345 (200 * fl + k) = 0) → Rn (d + 8) M_X12_regimes zN 43 [(0, (2, 311)), (1, (0, w)), (2, (0, fl)), (3, (0, t))] [] G1 Q := by
    intro m
    induction m with
    | zero =>
      intro t G1 hm ht hf hp hz
      refine s_X12_regimes_43 ⟨by omega, by omega, fun _ => L85 (fl - now).toNat (fl - 1) G1 (by omega) (by omega) hf (fun u a b => hp u a (by omega)) (fun u k a b k0 k1 => ?_) (fun u k a b => by omega), fun x => absurd (by omega) x⟩
      obtain rfl : u = fl := by omega
      rw [VF_end (by omega)]
      exact hz k k0 k1
    | succ m ih =>
      intro t G1 hm ht hf hp hz
      refine s_X12_regimes_43 ⟨by omega, by omega, fun x => absurd x (by omega), fun _ => c_bestWays (hR.ext hf.cor) hw (hL.ext hf.cor) (by omega) hn (fun v G4 hv f4 k7 k9 => ⟨by omega, fun G7 e7 G8 e8 => ?_⟩)⟩
      have ev := bwe t v hv
      have h9 : G4 311 49 = pr t := by rw [k9, ev, ← hpr]; rfl
      have h7 : G7 311 47 = od t := by rw [e7, st_nq _ _ _ _ (by decide), k7, ev, ← hod]; rfl
      rw [h9] at e7
      rw [h7] at e8
      refine ih (t + 1) G8 (by omega) (by omega) (hf.tr (f4.rg.tr ?_)) (fun u a b => ?_) (fun k k0 k1 => ?_)
      · rw [e8, e7]
        exact (RgF.st (by omega)).tr (RgF.st (by omega))
      · by_cases hu : u = t
        · subst hu
          rw [e8, st_nq _ _ _ _ (by decide), st_same, e7, st_same]
          exact ⟨rfl, rfl⟩
        · rw [e8, st_nq _ _ _ _ (by decide), st_nk _ _ _ hu, e7, st_nk _ _ _ hu, st_nq _ _ _ _ (by decide), f4 _ _ (by omega) (by omega), f4 _ _ (by omega) (by omega)]
          exact hp u a (by omega)
      · rw [e8, st_nq _ _ _ _ (by decide), e7, st_nq _ _ _ _ (by decide), f4 _ _ (by omega) (by omega)]
        exact hz k k0 k1
  refine ctof (s_X12_regimes_0 ?_)
  rw [se.2.1]
  refine zerosT (fl := fl) (ls := fun i => [(0, (2, 311)), (1, (0, w)), (2, (0, fl)), (3, (0, i))]) (fun i G1 i0 i1 hs => s_X12_regimes_9 ⟨by omega, fun x => absurd x (by omega), fun _ => ⟨by omega, fun G2 e2 => hs G2 e2⟩⟩) (fun G1 e z => s_X12_regimes_9 ⟨by omega, fun _ => ?_, fun x => absurd (by omega) x⟩)
  have f1 : RgF G G1 := fun q k a b _ => e q k (by omega)
  have en : G1 342 110 = now := by rw [e _ _ (by decide)]; exact nu
  rw [en]
  exact L43 (fl - now).toNat now G1 (by omega) (by omega) f1 (fun u a b => by omega) z
end REGIMES
