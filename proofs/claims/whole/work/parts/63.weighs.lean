section WEIGHS
variable {d : Nat} {S S' G G' H : Mem} {Q : Int → Mem → Prop} {c : Int} {fs : Int → Law}
/-! the sleepers ahead, in the model -/
def WgF (G G' : Mem) : Prop := ∀ q k : Int, ¬ (332 ≤ q ∧ q ≤ 341) → ¬ (q = 311 ∧ 47 ≤ k ∧ k ≤ 49) → G' q k = G q k
theorem WgF.rfl' : WgF G G := fun _ _ _ _ => rfl
theorem WgF.tr {G2 : Mem} (h : WgF G G') (h' : WgF G' G2) : WgF G G2 := fun q k a b => (h' q k a b).trans (h q k a b)
theorem WgF.cor (h : WgF G G') : CorM G G' := fun q k hq => h q k (by omega) (by omega)
theorem WgF.ml (h : WgF G G') : MlF G G' := ⟨fun q k a b => h q k (by omega) (by omega), fun q k a => h q k (by omega) (by omega)⟩
theorem EvM.wg (h : EvM G G') : WgF G G' := fun q k a _ => h q k a
def T10 (n : Nat) (a : Int) : Prop := ∃ m, 0 ≤ m ∧ a = 10 ^ n * m
theorem T10.skip {n : Nat} {a : Int} (h : T10 (n + 1) a) : T10 n a := by
  obtain ⟨m, m0, e⟩ := h
  exact ⟨10 * m, by omega, by rw [e, Int.pow_succ, Int.mul_assoc]⟩
theorem T10.step {n : Nat} {a x : Int} (h : T10 (n + 1) a) (hx : 0 ≤ x) : Int.tdiv a 10 * x = Int.tdiv (a * x) 10 ∧ T10 n (Int.tdiv (a * x) 10) := by
  obtain ⟨m, m0, e⟩ := h
  have e2 : a = 10 * (10 ^ n * m) := by rw [e, Int.pow_succ, Int.mul_comm (10 ^ n) 10, Int.mul_assoc]
  have t1 : Int.tdiv a 10 = 10 ^ n * m := by rw [e2]; exact Int.mul_tdiv_cancel_left _ (by decide)
  have t2 : Int.tdiv (a * x) 10 = 10 ^ n * m * x := by rw [e2, Int.mul_assoc]; exact Int.mul_tdiv_cancel_left _ (by decide)
  rw [t1, t2]
  exact ⟨rfl, m * x, Int.mul_nonneg m0 hx, by rw [Int.mul_assoc]⟩
theorem Cu.onw (hR : Cu S G c) {q : Int} (hq : 0 ≤ q ∧ q < 5) : S (c + 2) q = -1 ∨ (0 ≤ S (c + 2) q ∧ S (c + 2) q < 5 ∧ S (c + 2) q < S c 8) := by
  have := hR.on hq.1 hq.2
  have := hR.rng
  omega
theorem ahOkM {t : Int} (hR : Cu S G c) : AhOk (slB S c t) (wkD S c fs t) (spD S c fs t 0) (spD S c fs t 1) := by
  intro q hs
  obtain ⟨hq, h0, -⟩ := slB_tr.mp hs
  have o := hR.onw hq
  exact ⟨by omega, wakV_in hR (by omega), spiV_in (by omega), spiV_in (by omega)⟩
theorem c_weighs {w y t : Int} (hR : Cu S G c) (hw : 0 ≤ w ∧ w < S c 8) (hL : LawsR S G c 0 fs) (ht : 0 ≤ t ∧ t ≤ 1000) (hy : 0 ≤ y ∧ y ≤ 2147483647) {n : Nat} (hn : (n : Int) = S c 6 - 1 - S (c + 13 + w) 1)
    (h : ∀ G', WgF G G' → G' 311 47 = thF (slB S c t) (wkD S c fs t) (spD S c fs t 0) (spD S c fs t 1) 0 (fun q => dg y q) n (S (c + 13 + w) 1 + 1) 10000 → G' 311 48 = thF (slB S c t) (wkD S c fs t) (spD S c fs t 0) (spD S c fs t 1) 1 (fun q => dg y q) n (S (c + 13 + w) 1 + 1) 10000 → G' 311 49 = pdF (slB S c t) (spD S c fs t 0) (spD S c fs t 1) (S (c + 5) 0) (S (c + 5) 1) (fun q => dg y q) n (S (c + 13 + w) 1 + 1) → Q 0 G') :
    Ct (d + 5) M_X12_weighs NT 0 0 (some lay) [(2, 311), (0, w), (0, y), (0, t)] G Q := by
  have r := hR.rng
  have so := (hR.sok hw.1 hw.2).2.1
  have sit := (hR.sit hw.1 hw.2).2.1
  have se := hR.seats.1
  have ao := ahOkM (fs := fs) (t := t) hR
  generalize hsl : slB S c t = sl at *
  generalize hwk : wkD S c fs t = wk at *
  generalize hs0 : spD S c fs t 0 = s0 at *
  generalize hs1 : spD S c fs t 1 = s1 at *
  have key : ∀ (m : Nat) (p a0 a1 b : Int) (G1 : Mem), WgF G G1 → p + m = S c 6 → 0 < p → G1 311 47 = a0 → G1 311 48 = a1 → G1 311 49 = b → (0 ≤ a0 ∧ a0 ≤ 10000) → (0 ≤ a1 ∧ a1 ≤ 10000) → T10 m a0 → T10 m a1 →
      (∀ G', WgF G G' → G' 311 47 = thF sl wk s0 s1 0 (fun q => dg y q) m p a0 → G' 311 48 = thF sl wk s0 s1 1 (fun q => dg y q) m p a1 → G' 311 49 = b + pdF sl s0 s1 (S (c + 5) 0) (S (c + 5) 1) (fun q => dg y q) m p → Q 0 G') → Rn (d + 5) M_X12_weighs zN 29 [(0, (2, 311)), (2, (0, y)), (3, (0, t)), (4, (0, p))] [] G1 Q := by
    intro m
    induction m with
    | zero =>
      intro p a0 a1 b G1 hf hp hp0 h7 h8 h9 r0 r1 d0 d1 hq
      have e : G1 313 0 = S c 6 := by rw [hf _ _ (by omega) (by omega)]; exact se
      exact s_X12_weighs_29 ⟨by omega, by omega, fun _ => hq G1 hf h7 h8 (by unfold pdF; rw [Int.add_zero]; exact h9), fun x => absurd (by omega) x⟩
    | succ m ih =>
      intro p a0 a1 b G1 hf hp hp0 h7 h8 h9 r0 r1 d0 d1 hq
      have e : G1 313 0 = S c 6 := by rw [hf _ _ (by omega) (by omega)]; exact se
      have hR1 := hR.ext hf.cor
      have hL1 := hL.ext hf.cor
      have on := hR.onw (q := p) (by omega)
      have no : ¬ sl p = true → Rn (d + 5) M_X12_weighs zN 29 [(0, (2, 311)), (2, (0, y)), (3, (0, t)), (4, (0, p + 1))] [] G1 Q := by
        intro hs
        unfold thF pdF at hq
        simp only [if_neg hs, Int.zero_add] at hq
        exact ih (p + 1) a0 a1 b G1 hf (by omega) (by omega) h7 h8 h9 r0 r1 d0.skip d1.skip hq
      refine s_X12_weighs_29 ⟨by omega, by omega, fun x => absurd x (by omega), fun _ => c_inSeat hR1 (by omega) ?_⟩
      have tr := slB_tr (S := S) (c := c) (t := t) (q := p)
      rw [hsl] at tr
      unfold inSt
      by_cases x1 : S (c + 2) p < 0
      · rw [if_pos x1]
        exact ⟨by omega, fun _ => no (fun z => by have := (tr.mp z).2.1; omega), fun x => absurd (by decide) x⟩
      · rw [if_neg x1]
        by_cases x2 : S 75 (S (c + 2) p) = 0
        · rw [if_pos x2]
          refine ⟨by omega, fun x => absurd x x1, fun _ => c_isAsleepAt hR1 (by omega) ht (fun a => ⟨by omega, fun _ => ?_, fun z => absurd (show (1 : Int) ≠ 0 by decide) z⟩) (fun a => ⟨by omega, fun z => absurd rfl z, fun _ => no (fun z => a (tr.mp z).2.2)⟩)⟩
          have hs : sl p = true := tr.mpr ⟨by omega, by omega, a⟩
          have dq := dg_02 (w := y) (q := p) (by omega) hy.1
          have ap := ao p hs
          have sp := spd_in ao (y := dg y p) hs
          unfold thF pdF at hq
          simp only [if_pos hs] at hq
          -- from 100 on
          have fin : ∀ (v : Int) (G2 : Mem), WgF G1 G2 → G2 311 47 = a0 → G2 311 48 = a1 → G2 311 49 = b → v = (if dg y p = 0 then wk p else spd s0 s1 p (dg y p)) → Rn (d + 5) M_X12_weighs zN 100 [(0, (2, 311)), (2, (0, y)), (3, (0, t)), (4, (0, p)), (6, (0, dg y p))] [(0, v)] G2 Q := by
            intro v G2 f2 k7 k8 k9 hv
            have hf2 := hf.tr f2
            have pr0 := (hR.price (k := 0) (by omega) (by omega)).1
            have pr1 := (hR.price (k := 1) (by omega) (by omega)).1
            simp only [Int.add_zero, Int.reduceAdd] at pr0 pr1
            have L121 : ∀ (n0 : Int) (G3 : Mem), WgF G2 G3 → G3 311 47 = n0 → G3 311 48 = a1 → G3 311 49 = b → n0 = (if dg y p = 0 then Int.tdiv (a0 * wk p) 10 else a0) → Rn (d + 5) M_X12_weighs zN 121 [(0, (2, 311)), (2, (0, y)), (3, (0, t)), (4, (0, p)), (6, (0, dg y p)), (7, (0, v))] [] G3 Q := by
              intro n0 G3 f3 j7 j8 j9 hn0
              have r3 : (0 ≤ n0 ∧ n0 ≤ 10000) ∧ T10 m n0 := by
                rw [hn0]
                split
                · have y1 := tdiv_in10 r0 ap.2.1
                  exact ⟨by omega, (d0.step ap.2.1.1).2⟩
                · exact ⟨r0, d0.skip⟩
              have L144 : ∀ n1 : Int, n1 = (if dg y p = 0 then Int.tdiv (a1 * wk p) 10 else Int.tdiv (a1 * (10 - spd s0 s1 p (dg y p))) 10) → ∀ G4, G4 = st G3 311 48 n1 → (dg y p ≠ 0 → ∀ G5, G5 = st G4 311 49 (G4 311 49 + 1000 * v * G4 313 4) → Rn (d + 5) M_X12_weighs zN 29 [(0, (2, 311)), (2, (0, y)), (3, (0, t)), (4, (0, p + 1))] [] G5 Q) ∧ (¬ dg y p ≠ 0 → ∀ G5, G5 = st G4 311 49 (G4 311 49 + 10000 * G4 313 3) → Rn (d + 5) M_X12_weighs zN 29 [(0, (2, 311)), (2, (0, y)), (3, (0, t)), (4, (0, p + 1))] [] G5 Q) := by
                intro n1 hn1 G4 e4
                have f4 : WgF G3 G4 := fun q k a b => by rw [e4, st_ne _ _ (by omega)]
                have i9 : G4 311 49 = b := by rw [e4, st_nk _ _ _ (by decide)]; exact j9
                have q3 : G4 313 3 = S (c + 5) 0 := by rw [f4 _ _ (by omega) (by omega), f3 _ _ (by omega) (by omega), hf2 _ _ (by omega) (by omega)]; exact pr0
                have q4 : G4 313 4 = S (c + 5) 1 := by rw [f4 _ _ (by omega) (by omega), f3 _ _ (by omega) (by omega), hf2 _ _ (by omega) (by omega)]; exact pr1
                have r4 : (0 ≤ n1 ∧ n1 ≤ 10000) ∧ T10 m n1 := by
                  rw [hn1]
                  split
                  · have y1 := tdiv_in10 r1 ap.2.1
                    exact ⟨by omega, (d1.step ap.2.1.1).2⟩
                  · have y1 := tdiv_in10 (x := 10 - spd s0 s1 p (dg y p)) r1 (by omega)
                    exact ⟨by omega, (d1.step (by omega)).2⟩
                have go : ∀ z, z = (if dg y p = 0 then S (c + 5) 0 * 10000 else S (c + 5) 1 * spd s0 s1 p (dg y p) * 1000) → ∀ G5, G5 = st G4 311 49 (b + z) → Rn (d + 5) M_X12_weighs zN 29 [(0, (2, 311)), (2, (0, y)), (3, (0, t)), (4, (0, p + 1))] [] G5 Q := by
                  intro z hz G5 e5
                  have f5 : WgF G4 G5 := fun q k a b => by rw [e5, st_ne _ _ (by omega)]
                  refine ih (p + 1) n0 n1 (b + z) G5 (((hf2.tr f3).tr f4).tr f5) (by omega) (by omega) ?_ ?_ ?_ r3.1 r4.1 r3.2 r4.2 (fun G' x1 x2 x3 x4 => hq G' x1 ?_ ?_ ?_)
                  · rw [e5, st_nk _ _ _ (by decide), e4, st_nk _ _ _ (by decide)]; exact j7
                  · rw [e5, st_nk _ _ _ (by decide), e4, st_same]
                  · rw [e5, st_same]
                  · rw [x2, hn0]; simp only [if_true]
                  · rw [x3, hn1]; simp only [show ¬ (1 : Int) = 0 by decide, if_false]
                  · rw [x4, hz, Int.add_assoc]
                refine ⟨fun x => ?_, fun x => ?_⟩
                · rw [i9, q4]
                  refine go _ ?_
                  rw [if_neg x, hv, if_neg x, Int.mul_comm 1000, Int.mul_comm (S (c + 5) 1), Int.mul_assoc, Int.mul_comm 1000, ← Int.mul_assoc]
                · have x := Decidable.not_not.mp x
                  rw [i9, q3]
                  refine go _ ?_
                  rw [if_pos x, Int.mul_comm]
              refine s_X12_weighs_121 ⟨by omega, by omega, fun x => s_X12_weighs_144 (fun G4 e4 => ⟨by omega, ?_⟩), fun x => s_X12_weighs_144 (fun G4 e4 => ⟨by omega, ?_⟩)⟩
              · rw [j8] at e4
                refine L144 _ ?_ G4 e4
                rw [if_neg x, hv, if_neg x]
                exact (d1.step (by omega)).1
              · have x := Decidable.not_not.mp x
                rw [j8] at e4
                refine L144 _ ?_ G4 e4
                rw [if_pos x, hv, if_pos x]
                exact (d1.step ap.2.1.1).1
            refine s_X12_weighs_100 ⟨by omega, fun x => L121 a0 G2 WgF.rfl' k7 k8 k9 (by rw [if_neg x]), fun x => ⟨by omega, fun G4 e4 => ?_⟩⟩
            have x := Decidable.not_not.mp x
            rw [k7] at e4
            refine L121 _ G4 (fun q k a b => by rw [e4, st_ne _ _ (by omega)]) (by rw [e4, st_same]) (by rw [e4, st_nk _ _ _ (by decide)]; exact k8) (by rw [e4, st_nk _ _ _ (by decide)]; exact k9) ?_
            rw [if_pos x, hv, if_pos x]
            exact (d0.step ap.2.1.1).1
          refine c_digit (by omega) hy ⟨by omega, fun x => c_spilling hR1 (by omega) hL1 (fun G2 f2 => ?_), fun x => c_waking hR1 (by omega) hL1 (fun G2 f2 => ?_)⟩
          · refine fin _ G2 f2.wg (by rw [f2 _ _ (by omega)]; exact h7) (by rw [f2 _ _ (by omega)]; exact h8) (by rw [f2 _ _ (by omega)]; exact h9) ?_
            rw [if_neg x]
            unfold spd
            rw [← hs0, ← hs1]
            rcases (by omega : dg y p = 1 ∨ dg y p = 2) with u | u
            · rw [u, if_pos rfl]; rfl
            · rw [u, if_neg (by decide)]; rfl
          · refine fin _ G2 f2.wg (by rw [f2 _ _ (by omega)]; exact h7) (by rw [f2 _ _ (by omega)]; exact h8) (by rw [f2 _ _ (by omega)]; exact h9) ?_
            rw [if_pos (Decidable.not_not.mp x), ← hwk]
            rfl
        · rw [if_neg x2]
          exact ⟨by omega, fun _ => no (fun z => x2 (tr.mp z).2.2.1), fun x => absurd (by decide) x⟩
  refine ctof (s_X12_weighs_0 (fun G1 e1 G2 e2 G3 e3 => ⟨by omega, ?_⟩))
  have f3 : WgF G G3 := fun q k a b => by rw [e3, st_ne _ _ (by omega), e2, st_ne _ _ (by omega), e1, st_ne _ _ (by omega)]
  rw [f3 _ _ (by omega) (by omega), sit]
  have n4 : n ≤ 4 := by omega
  have t4 : T10 n 10000 := by
    rcases (by omega : n = 0 ∨ n = 1 ∨ n = 2 ∨ n = 3 ∨ n = 4) with rfl | rfl | rfl | rfl | rfl
    · exact ⟨10000, by decide, by decide⟩
    · exact ⟨1000, by decide, by decide⟩
    · exact ⟨100, by decide, by decide⟩
    · exact ⟨10, by decide, by decide⟩
    · exact ⟨1, by decide, by decide⟩
  refine key n (S (c + 13 + w) 1 + 1) 10000 10000 0 G3 f3 (by omega) (by omega) ?_ ?_ ?_ (by omega) (by omega) t4 t4 (fun G' a b e f => h G' a b e (by rw [f, Int.zero_add]))
  · rw [e3, st_nk _ _ _ (by decide), e2, st_nk _ _ _ (by decide), e1, st_same]
  · rw [e3, st_nk _ _ _ (by decide), e2, st_same]
  · rw [e3, st_same]
theorem c_costOf {w y t : Int} (hR : Cu S G c) (hw : 0 ≤ w ∧ w < S c 8) (hL : LawsR S G c 0 fs) (ht : 0 ≤ t ∧ t ≤ 1000) (hy : 0 ≤ y ∧ y ≤ 2147483647) {n : Nat} (hn : (n : Int) = S c 6 - 1 - S (c + 13 + w) 1)
    (h : ∀ G', WgF G G' → Q (csF (slB S c t) (wkD S c fs t) (spD S c fs t 0) (spD S c fs t 1) (S (c + 5) 0) (S (c + 5) 1) (S (c + 5) 2) n (S (c + 13 + w) 1 + 1) y) G') : Ct (d + 6) M_X12_costOf NT 0 0 (some lay) [(2, 311), (0, w), (0, y), (0, t)] G Q := by
  refine ctof (s_X12_costOf_0 (c_weighs hR hw hL ht hy hn (fun G' f a b e => ?_)))
  have pr2 := (hR.price (k := 2) (by omega) (by omega)).1
  simp only [Int.reduceAdd] at pr2
  rw [a, e, f 313 5 (by omega) (by omega), pr2, Int.mul_comm]
  exact h G' f
theorem c_bestWays {w t : Int} (hR : Cu S G c) (hw : 0 ≤ w ∧ w < S c 8) (hL : LawsR S G c 0 fs) (ht : 0 ≤ t ∧ t ≤ 1000) {n : Nat} (hn : (n : Int) = S c 6 - 1 - S (c + 13 + w) 1)
    (h : ∀ v G', Bst (slB S c t) (wkD S c fs t) (spD S c fs t 0) (spD S c fs t 1) (S (c + 5) 0) (S (c + 5) 1) (S (c + 5) 2) n (S (c + 13 + w) 1 + 1) v → WgF G G' → G' 311 47 = thF (slB S c t) (wkD S c fs t) (spD S c fs t 0) (spD S c fs t 1) 0 (fun q => dg v q) n (S (c + 13 + w) 1 + 1) 10000 → G' 311 49 = pdF (slB S c t) (spD S c fs t 0) (spD S c fs t 1) (S (c + 5) 0) (S (c + 5) 1) (fun q => dg v q) n (S (c + 13 + w) 1 + 1) → Q v G') :
    Ct (d + 7) M_X12_bestWays NT 0 0 (some lay) [(2, 311), (0, w), (0, t)] G Q := by
  have r := hR.rng
  have so := (hR.sok hw.1 hw.2).2.1
  have sit := (hR.sit hw.1 hw.2).2.1
  have se := hR.seats.1
  have ao := ahOkM (fs := fs) (t := t) hR
  have pr := fun k (k0 : 0 ≤ k) (k4 : k < 4) => (hR.price k0 k4).2
  have ci := fun v => csF_in (p := S (c + 13 + w) 1 + 1) (n := n) (w := v) ao (pr 0 (by omega) (by omega)) (pr 1 (by omega) (by omega)) (pr 2 (by omega) (by omega)) (by omega)
  have pw := p3_in (n := S c 6) (by omega)
  have pn : S (c + 13 + w) 1 + 1 + n = S c 6 := by omega
  have cost := fun {Q : Int → Mem → Prop} (G1 : Mem) (hf : WgF G G1) (y : Int) (hy : 0 ≤ y ∧ y ≤ 2147483647) (hq : ∀ G', WgF G G' → Q (csF (slB S c t) (wkD S c fs t) (spD S c fs t 0) (spD S c fs t 1) (S (c + 5) 0) (S (c + 5) 1) (S (c + 5) 2) n (S (c + 13 + w) 1 + 1) y) G') => c_costOf (d := d) (hR.ext hf.cor) hw (hL.ext hf.cor) ht hy hn (fun G' f => hq G' (hf.tr f))
  have key : ∀ (m : Nat) (k f : Int) (G1 : Mem), WgF G G1 → k + m = p3 (S c 6) → 1 ≤ k → Vld (slB S c t) n (S (c + 13 + w) 1 + 1) f → f < k → (∀ v, Vld (slB S c t) n (S (c + 13 + w) 1 + 1) v → v < k → csF (slB S c t) (wkD S c fs t) (spD S c fs t 0) (spD S c fs t 1) (S (c + 5) 0) (S (c + 5) 1) (S (c + 5) 2) n (S (c + 13 + w) 1 + 1) f ≤ csF (slB S c t) (wkD S c fs t) (spD S c fs t 0) (spD S c fs t 1) (S (c + 5) 0) (S (c + 5) 1) (S (c + 5) 2) n (S (c + 13 + w) 1 + 1) v ∧ (csF (slB S c t) (wkD S c fs t) (spD S c fs t 0) (spD S c fs t 1) (S (c + 5) 0) (S (c + 5) 1) (S (c + 5) 2) n (S (c + 13 + w) 1 + 1) v = csF (slB S c t) (wkD S c fs t) (spD S c fs t 0) (spD S c fs t 1) (S (c + 5) 0) (S (c + 5) 1) (S (c + 5) 2) n (S (c + 13 + w) 1 + 1) f → f ≤ v)) →
      Rn (d + 7) M_X12_bestWays zN 14 [(0, (2, 311)), (1, (0, w)), (2, (0, t)), (3, (0, f)), (4, (0, csF (slB S c t) (wkD S c fs t) (spD S c fs t 0) (spD S c fs t 1) (S (c + 5) 0) (S (c + 5) 1) (S (c + 5) 2) n (S (c + 13 + w) 1 + 1) f)), (5, (0, k))] [] G1 Q := by
    intro m
    generalize hcs : csF (slB S c t) (wkD S c fs t) (spD S c fs t 0) (spD S c fs t 1) (S (c + 5) 0) (S (c + 5) 1) (S (c + 5) 2) n (S (c + 13 + w) 1 + 1) = cs at *
    induction m with
    | zero =>
      intro k f G1 hf hk k1 hv hfk hm
      refine s_X12_bestWays_14 ?_
      rw [hf 313 0 (by omega) (by omega), se]
      refine c_power3 (by omega) ⟨by omega, by omega, fun _ => c_weighs (hR.ext hf.cor) hw (hL.ext hf.cor) ht (by have := hv.1; omega) hn (fun G' g a b e => h f G' ⟨hv, fun v hv2 => ?_⟩ (hf.tr g) a e), fun x => absurd (by omega) x⟩
      rw [hcs]
      exact hm v hv2 (by have := hv2.1; rw [pn] at this; omega)
    | succ m ih =>
      intro k f G1 hf hk k1 hv hfk hm
      have cf := ci f
      have ck := ci k
      refine s_X12_bestWays_14 ?_
      rw [hf 313 0 (by omega) (by omega), se]
      refine c_power3 (by omega) ⟨by omega, by omega, fun x => absurd x (by omega), fun _ => ?_⟩
      -- not by k
      have skip : ∀ G2, WgF G G2 → (¬ Vld (slB S c t) n (S (c + 13 + w) 1 + 1) k ∨ cs f ≤ cs k) → Rn (d + 7) M_X12_bestWays zN 14 [(0, (2, 311)), (1, (0, w)), (2, (0, t)), (3, (0, f)), (4, (0, cs f)), (5, (0, k + 1))] [] G2 Q := by
        intro G2 f2 hx
        refine ih (k + 1) f G2 f2 (by omega) (by omega) hv (by omega) (fun v hv2 hlt => ?_)
        by_cases hvk : v = k
        · subst hvk
          rcases hx with hx | hx
          · exact absurd hv2 hx
          · exact ⟨hx, fun _ => by omega⟩
        · exact hm v hv2 (by omega)
      have inner : ∀ (j : Nat) (q z : Int), q + j = S c 6 → 0 ≤ q → ((z = 1 ∧ ∀ u, 0 ≤ u → u < q → dg k u ≠ 0 → S (c + 13 + w) 1 + 1 ≤ u ∧ slB S c t u = true) ∨ (z = 0 ∧ ∃ u, 0 ≤ u ∧ u < S c 6 ∧ dg k u ≠ 0 ∧ ¬ (S (c + 13 + w) 1 + 1 ≤ u ∧ slB S c t u = true))) → Rn (d + 7) M_X12_bestWays zN 35 [(0, (2, 311)), (1, (0, w)), (2, (0, t)), (3, (0, f)), (4, (0, cs f)), (5, (0, k)), (6, (0, z)), (7, (0, q))] [] G1 Q := by
        intro j
        induction j with
        | zero =>
          intro q z hq q0 hz
          refine s_X12_bestWays_35 ⟨by omega, by rw [hf 313 0 (by omega) (by omega), se]; omega, fun _ => ⟨by omega, fun x => ?_, fun x => ?_⟩, fun x => absurd (by rw [hf 313 0 (by omega) (by omega), se]; omega) x⟩
          · have vk : Vld (slB S c t) n (S (c + 13 + w) 1 + 1) k := by
              refine ⟨by rw [pn]; omega, fun u u0 u1 hu => ?_⟩
              rcases hz with hz | hz
              · exact hz.2 u u0 (by omega) hu
              · omega
            refine cost G1 hf k (by omega) (fun G2 f2 => ⟨by omega, by omega, fun lt => ?_, fun lt => skip G2 f2 (Or.inr (by omega))⟩)
            refine ih (k + 1) k G2 f2 (by omega) (by omega) vk (by omega) (fun v hv2 hlt => ?_)
            by_cases hvk : v = k
            · subst hvk
              exact ⟨Int.le_refl _, fun _ => Int.le_refl _⟩
            · have := (hm v hv2 (by omega)).1
              exact ⟨by omega, fun y => by omega⟩
          · refine skip G1 hf (Or.inl (fun vk => ?_))
            rcases hz with hz | ⟨_, u, u0, u1, u2, u3⟩
            · omega
            · exact u3 (vk.2 u u0 (by omega) u2)
        | succ j ihj =>
          intro q z hq q0 hz
          have L67 : ∀ v, (0 ≤ v → S (c + 13 + w) 1 + 1 ≤ q ∧ v = S (c + 2) q ∧ S 75 v = 0 ∧ v < S c 8) → (v < 0 → ¬ (S (c + 13 + w) 1 + 1 ≤ q ∧ slB S c t q = true)) → InR v → Rn (d + 7) M_X12_bestWays zN 67 [(0, (2, 311)), (1, (0, w)), (2, (0, t)), (3, (0, f)), (4, (0, cs f)), (5, (0, k)), (6, (0, z)), (7, (0, q))] [(0, v)] G1 Q := by
            intro v v1 v0 iv
            have bad : (¬ (S (c + 13 + w) 1 + 1 ≤ q ∧ slB S c t q = true) ∧ dg k q ≠ 0) ∨ z = 0 → Rn (d + 7) M_X12_bestWays zN 35 [(0, (2, 311)), (1, (0, w)), (2, (0, t)), (3, (0, f)), (4, (0, cs f)), (5, (0, k)), (6, (0, 0)), (7, (0, q + 1))] [] G1 Q := by
              intro hb
              refine ihj (q + 1) 0 (by omega) (by omega) (Or.inr ⟨rfl, ?_⟩)
              rcases hb with hb | hb
              · exact ⟨q, q0, by omega, hb.2, hb.1⟩
              · rcases hz with hz | hz
                · omega
                · exact hz.2
            have good : z ≠ 0 → (dg k q ≠ 0 → S (c + 13 + w) 1 + 1 ≤ q ∧ slB S c t q = true) → Rn (d + 7) M_X12_bestWays zN 35 [(0, (2, 311)), (1, (0, w)), (2, (0, t)), (3, (0, f)), (4, (0, cs f)), (5, (0, k)), (6, (0, 1)), (7, (0, q + 1))] [] G1 Q := by
              intro hz1 hd
              refine ihj (q + 1) 1 (by omega) (by omega) (Or.inl ⟨rfl, fun u u0 u1 hu => ?_⟩)
              rcases hz with hz | hz
              · by_cases huq : u = q
                · subst huq; exact hd hu
                · exact hz.2 u u0 (by omega) hu
              · omega
            have dq := dg_02 (w := k) (q := q) (by omega) (by omega)
            refine s_X12_bestWays_67 ⟨by omega, fun x => bad (Or.inr x), fun x => c_digit (by omega) (by omega) ⟨by omega, fun y => good x (fun u => absurd y u), fun y => ⟨iv, fun u => bad (Or.inl ⟨v0 u, y⟩), fun u => ?_⟩⟩⟩
            obtain ⟨w1, w2, w3, w4⟩ := v1 (by omega)
            refine c_isAsleepAt (hR.ext hf.cor) (by omega) ht (fun a => ⟨by omega, fun z => absurd z (by decide), fun _ => good x (fun _ => ⟨w1, slB_tr.mpr ⟨by omega, by omega, by rw [← w2]; exact a⟩⟩)⟩) (fun a => ⟨by omega, fun _ => bad (Or.inl ⟨fun z => a ?_, y⟩), fun z => absurd rfl z⟩)
            have := (slB_tr.mp z.2).2.2
            rw [← w2] at this
            exact this
          have on := hR.onw (q := q) (by omega)
          refine s_X12_bestWays_35 ⟨by omega, by rw [hf 313 0 (by omega) (by omega), se]; omega, fun x => absurd x (by rw [hf 313 0 (by omega) (by omega), se]; omega), fun _ => ⟨by omega, ?_⟩⟩
          rw [hf 316 w (by omega) (by omega), sit]
          refine ⟨by omega, fun x => L67 (-1) (fun y => absurd y (by decide)) (fun _ y => by omega) (by omega), fun x => c_inSeat (hR.ext hf.cor) (by omega) ?_⟩
          refine L67 _ (fun y => ?_) (fun y z => ?_) ?_
          · unfold inSt at y ⊢
            split at y
            · omega
            · split at y
              · rename_i z1 z2
                rw [if_neg z1, if_pos z2]
                exact ⟨by omega, rfl, z2, by omega⟩
              · omega
          · have zz := slB_tr.mp z.2
            unfold inSt at y
            have z75 : S 75 (S (c + 2) q) = 0 := zz.2.2.1
            rw [if_neg (by omega), if_pos z75] at y
            omega
          · unfold inSt
            repeat' split
            all_goals omega
      exact inner (S c 6).toNat 0 1 (by omega) (by omega) (Or.inl ⟨rfl, fun u u0 u1 => by omega⟩)
  refine ctof (s_X12_bestWays_0 (cost G WgF.rfl' 0 (by omega) (fun G1 f1 => ?_)))
  refine key (p3 (S c 6) - 1).toNat 1 0 G1 f1 (by omega) (by omega) ⟨by rw [pn]; omega, fun q q0 q1 hq => absurd ?_ hq⟩ (by omega) (fun v hv hlt => ?_)
  · unfold dg; simp
  · obtain rfl : v = 0 := by have := hv.1; omega
    exact ⟨Int.le_refl _, fun _ => Int.le_refl _⟩
end WEIGHS
