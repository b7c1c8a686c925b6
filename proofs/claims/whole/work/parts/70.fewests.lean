section FEWESTS
variable {d : Nat} {S S' G G' H : Mem} {Q : Int → Mem → Prop} {c : Int} {fs : Int → Law}
def RN (x : Int) : Int := if x < 1000000 then x else 100000
section NUM
variable {fr : Int → Bool} {pd th : Int → Int} {g lm fl now : Int}
theorem ls1 {t w b : Int} : lsF fr pd (fun _ => 10000) t w b = if fr t = true then min w (pd t + b) else w := by
  unfold lsF
  split
  · show min w (pd t + Int.tdiv (10000 * b + (10000 - 10000) * w) 10000) = min w (pd t + b)
    rw [show (10000 : Int) - 10000 = 0 by decide, Int.zero_mul, Int.add_zero, Int.mul_comm, Int.mul_tdiv_cancel _ (by decide)]
  · rfl
/-- where he need not be too late, few are woken -/
theorem VF_few (hp : ∀ t, 0 ≤ pd t ∧ pd t ≤ 4) (ht : ∀ t, now ≤ t → t < th t) (hg : 0 ≤ g) : ∀ (m : Nat) (t n : Int), now ≤ t → t + m = fl → 0 ≤ VF fr pd (fun _ => 10000) th g lm 1000000 fl t n ∧ (VF fr pd (fun _ => 10000) th g lm 1000000 fl t n < 1000000 → VF fr pd (fun _ => 10000) th g lm 1000000 fl t n ≤ 8 * m) := by
  intro m
  induction m using Nat.strongRecOn with
  | ind m ih =>
    intro t n hn hm
    by_cases h0 : t < fl
    · obtain ⟨k, rfl⟩ : ∃ k, m = k + 1 := ⟨m - 1, by omega⟩
      have tt := ht t hn
      rw [VF_lt h0 tt, ls1]
      have i1 := ih k (by omega) (t + 1) (n + g) (by omega) (by omega)
      have p1 := hp t
      have p2 := hp (th t)
      unfold wtF bhF
      by_cases x : th t < fl
      · have i2 := ih (fl - th t).toNat (by omega) (th t) 0 (by omega) (by omega)
        rw [if_pos x]
        repeat' split
        all_goals omega
      · rw [if_neg x]
        repeat' split
        all_goals omega
    · rw [VF_end (by omega)]
      omega
def goF (fr : Int → Bool) (pd th : Int → Int) (g lm fl t : Int) (V : Int) : Int := if fr t = true then pd t + (if th t < fl then pd (th t) + RN V else 0) else 100000
theorem few_eq (hp : ∀ t, 0 ≤ pd t ∧ pd t ≤ 4) (ht : ∀ t, now ≤ t → t < th t) (hg : 0 ≤ g) (hf : 0 ≤ now ∧ fl ≤ 72) {t n x : Int} (hn : now ≤ t) (h0 : t < fl) (hx : x = (if lm < n + g then 100000 else RN (VF fr pd (fun _ => 10000) th g lm 1000000 fl (t + 1) (n + g)))) :
    min 100000 (min (goF fr pd th g lm fl t (VF fr pd (fun _ => 10000) th g lm 1000000 fl (th t) 0)) x) = RN (VF fr pd (fun _ => 10000) th g lm 1000000 fl t n) ∧
    (VF fr pd (fun _ => 10000) th g lm 1000000 fl t n < 1000000 → (goF fr pd th g lm fl t (VF fr pd (fun _ => 10000) th g lm 1000000 fl (th t) 0) < x ↔ VF fr pd (fun _ => 10000) th g lm 1000000 fl t n < wtF fr pd (fun _ => 10000) th g lm 1000000 fl t n)) ∧
    (0 ≤ goF fr pd th g lm fl t (VF fr pd (fun _ => 10000) th g lm 1000000 fl (th t) 0) ∧ goF fr pd th g lm fl t (VF fr pd (fun _ => 10000) th g lm 1000000 fl (th t) 0) ≤ 200000) ∧ 0 ≤ x ∧ x ≤ 100000 := by
  have tt := ht t hn
  have i1 := VF_few (fr := fr) (lm := lm) (fl := fl) hp ht hg (fl - (t + 1)).toNat (t + 1) (n + g) (by omega) (by omega)
  have p1 := hp t
  have p2 := hp (th t)
  rw [VF_lt h0 tt, ls1]
  by_cases y : th t < fl
  · have i2 := VF_few (fr := fr) (lm := lm) (fl := fl) hp ht hg (fl - th t).toNat (th t) 0 (by omega) (by omega)
    unfold wtF bhF goF
    rw [if_pos y, if_pos y]
    generalize VF fr pd (fun _ => 10000) th g lm 1000000 fl (th t) 0 = V2 at *
    generalize VF fr pd (fun _ => 10000) th g lm 1000000 fl (t + 1) (n + g) = V1 at *
    unfold RN at hx ⊢
    refine ⟨?_, ?_, ?_, ?_⟩ <;> (repeat' split) <;> (repeat' split at hx) <;> omega
  · unfold wtF bhF goF
    rw [if_neg y, if_neg y]
    generalize VF fr pd (fun _ => 10000) th g lm 1000000 fl (t + 1) (n + g) = V1 at *
    unfold RN at hx ⊢
    refine ⟨?_, ?_, ?_, ?_⟩ <;> (repeat' split) <;> (repeat' split at hx) <;> omega
end NUM
theorem c_asleepAhead {w t : Int} (hR : Cu S G c) (hw : 0 ≤ w ∧ w < S c 8) (ht : 0 ≤ t ∧ t ≤ 1000) {n : Nat} (hn : (n : Int) = S c 6 - 1 - S (c + 13 + w) 1) (h : Q (cntF (slB S c t) n (S (c + 13 + w) 1 + 1)) G) : Ct (d + 2) M_X12_asleepAhead NT 0 0 (some lay) [(2, 311), (0, w), (0, t)] G Q := by
  have r := hR.rng
  have so := (hR.sok hw.1 hw.2).2.1
  have sit := (hR.sit hw.1 hw.2).2.1
  have se := hR.seats.1
  have key : ∀ (m : Nat) (p a : Int), p + m = S c 6 → 0 ≤ p → Q (a + cntF (slB S c t) m p) G → Rn (d + 2) M_X12_asleepAhead zN 12 [(0, (2, 311)), (2, (0, t)), (3, (0, a)), (4, (0, p))] [] G Q := by
    intro m
    induction m with
    | zero =>
      intro p a hp hp0 hq
      unfold cntF at hq
      rw [Int.add_zero] at hq
      exact s_X12_asleepAhead_12 ⟨by omega, by omega, fun _ => hq, fun x => absurd (by omega) x⟩
    | succ m ih =>
      intro p a hp hp0 hq
      unfold cntF at hq
      have on := hR.onw (q := p) (by omega)
      have no : ¬ slB S c t p = true → Rn (d + 2) M_X12_asleepAhead zN 12 [(0, (2, 311)), (2, (0, t)), (3, (0, a + 0)), (4, (0, p + 1))] [] G Q := by
        intro hs
        rw [if_neg hs, Int.zero_add] at hq
        rw [Int.add_zero]
        exact ih (p + 1) a (by omega) (by omega) hq
      refine s_X12_asleepAhead_12 ⟨by omega, by omega, fun x => absurd x (by omega), fun _ => c_inSeat hR (by omega) ?_⟩
      have tr := slB_tr (S := S) (c := c) (t := t) (q := p)
      unfold inSt
      by_cases x1 : S (c + 2) p < 0
      · rw [if_pos x1]
        exact ⟨by omega, fun _ => no (fun z => by have := (tr.mp z).2.1; omega), fun x => absurd (by decide) x⟩
      · rw [if_neg x1]
        by_cases x2 : S 75 (S (c + 2) p) = 0
        · rw [if_pos x2]
          refine ⟨by omega, fun x => absurd x x1, fun _ => c_isAsleepAt hR (by omega) ht (fun b => ⟨by omega, fun z => absurd z (by decide), fun _ => ?_⟩) (fun b => ⟨by omega, fun _ => no (fun z => b (tr.mp z).2.2), fun z => absurd rfl z⟩)⟩
          rw [if_pos (tr.mpr ⟨by omega, by omega, b⟩), ← Int.add_assoc] at hq
          exact ih (p + 1) (a + 1) (by omega) (by omega) hq
        · rw [if_neg x2]
          exact ⟨by omega, fun _ => no (fun z => x2 (tr.mp z).2.2.1), fun x => absurd (by decide) x⟩
  refine ctof (s_X12_asleepAhead_0 ⟨by omega, ?_⟩)
  rw [sit]
  exact key n _ 0 (by omega) (by omega) (by rw [Int.zero_add]; exact h)
theorem c_fewests {w : Int} (hR : Cu S G c) (hw : 0 ≤ w ∧ w < S c 8) (hL : LawsR S G c 0 fs) {n : Nat} (hn : (n : Int) = S c 6 - 1 - S (c + 13 + w) 1) {pd : Int → Int} (hpd : pd = fun t => cntF (slB S c t) n (S (c + 13 + w) 1 + 1))
    (h : ∀ G', RgF G G' → (∀ t k, S 73 7 ≤ t → t ≤ S c 7 → 0 ≤ k → k < 200 → G' 345 (200 * t + k) = RN (VF (frB S c w) pd (fun _ => 10000) (thR S c fs) (grow S (c + 13 + w) 0) (S (c + 13 + w) 3) 1000000 (S c 7) t k)) →
      (∀ t k, S 73 7 ≤ t → t < S c 7 → 0 ≤ k → k < 200 → (G' 346 (200 * t + k) = 0 ∨ G' 346 (200 * t + k) = 1) ∧ (VF (frB S c w) pd (fun _ => 10000) (thR S c fs) (grow S (c + 13 + w) 0) (S (c + 13 + w) 3) 1000000 (S c 7) t k < 1000000 → (G' 346 (200 * t + k) = 1 ↔ VF (frB S c w) pd (fun _ => 10000) (thR S c fs) (grow S (c + 13 + w) 0) (S (c + 13 + w) 3) 1000000 (S c 7) t k < wtF (frB S c w) pd (fun _ => 10000) (thR S c fs) (grow S (c + 13 + w) 0) (S (c + 13 + w) 3) 1000000 (S c 7) t k))) → Q 0 G') :
    Ct (d + 4) M_X12_fewests NT 0 0 (some lay) [(2, 311), (0, w)] G Q := by
  have r := hR.rng
  have tk := hR.tick
  have so := hR.sok hw.1 hw.2
  have so1 := so.2.1
  have k3 : 1 ≤ S (c + 13 + w) 3 ∧ S (c + 13 + w) 3 ≤ 99 := so.2.2.2.1
  have gb := grow_bd so (m := 0) (by omega)
  have se := hR.seats
  have nu := hR.nums.1
  have sit := (hR.sit hw.1 hw.2).2.2.2.1
  have seat := hR.seat hw.1 hw.2
  have qb := fun t => queV_in (S := S) (c := c) (fs := fs) (t := t) (ou := 0)
  have pdb : ∀ t, 0 ≤ pd t ∧ pd t ≤ 4 := fun t => by
    have := cnt_in (slB S c t) n (S (c + 13 + w) 1 + 1)
    rw [hpd]
    show 0 ≤ cntF (slB S c t) n (S (c + 13 + w) 1 + 1) ∧ cntF (slB S c t) n (S (c + 13 + w) 1 + 1) ≤ 4
    omega
  have tht : ∀ t, thR S c fs t = t + (1 + queV S c fs t 0) := fun t => rfl
  have frt : ∀ t, frB S c w t = true ↔ ¬ clsd S c t ∧ ¬ aslp S 73 c w t := fun t => frB_tr
  have thl : ∀ t, S 73 7 ≤ t → t < thR S c fs t := fun t _ => by have := tht t; have := qb t; omega
  have ok : VOk pd (fun _ => 10000) (thR S c fs) (grow S (c + 13 + w) 0) (S (c + 13 + w) 3) 1000000 (S c 7) (S 73 7) := ⟨fun t a b => ⟨by have := pdb t; omega, ⟨by show (0 : Int) ≤ 10000; omega, by show (10000 : Int) ≤ 10000; omega⟩, thl t a⟩, gb, k3.2, ⟨by decide, Int.le_refl _⟩, by omega⟩
  have gr := fun {K : Int → Mem → Prop} (G1 : Mem) (f : RgF G G1) (hq : K (grow S (c + 13 + w) 0) G1) => c_growth (d := d + 3) (Q := K) (hR.ext f.cor) hw hq
  have aa := fun {K : Int → Mem → Prop} (G1 : Mem) (f : RgF G G1) (t : Int) (ht : 0 ≤ t ∧ t ≤ 1000) (hq : K (pd t) G1) => c_asleepAhead (d := d + 1) (Q := K) (hR.ext f.cor) hw ht hn (by rw [hpd] at hq; exact hq)
  generalize hg : grow S (c + 13 + w) 0 = g at *
  generalize hfr : frB S c w = fr at *
  generalize hth : thR S c fs = th at *
  generalize hlm : S (c + 13 + w) 3 = lm at *
  generalize hfl : S c 7 = fl at *
  generalize hnow : S 73 7 = now at *
  have fe := fun (t k x : Int) (a : now ≤ t) (b : t < fl) (hx : x = (if lm < k + g then 100000 else RN (VF fr pd (fun _ => 10000) th g lm 1000000 fl (t + 1) (k + g)))) => few_eq (fr := fr) (lm := lm) (fl := fl) pdb thl gb.1 (by omega) a b hx
  have L39 : ∀ (m : Nat) (t : Int) (G1 : Mem), now + m = t + 1 → t < fl → RgF G G1 → (∀ u k, t < u → u ≤ fl → 0 ≤ k → k < 200 → G1 345 (200 * u + k) = RN (VF fr pd (fun _ => 10000) th g lm 1000000 fl u k)) → (∀ u k, t < u → u < fl → 0 ≤ k → k < 200 → (G1 346 (200 * u + k) = 0 ∨ G1 346 (200 * u + k) = 1) ∧ (VF fr pd (fun _ => 10000) th g lm 1000000 fl u k < 1000000 → (G1 346 (200 * u + k) = 1 ↔ VF fr pd (fun _ => 10000) th g lm 1000000 fl u k < wtF fr pd (fun _ => 10000) th g lm 1000000 fl u k))) →
      Rn (d + 4) M_X12_fewests zN 39 [(0, (2, 311)), (1, (0, w)), (2, (0, fl)), (3, (0, t))] [] G1 Q := by
    intro m
    induction m with
    | zero =>
      intro t G1 hm ht hf h5 h6
      have e : G1 342 110 = now := by rw [hf _ _ (by omega) (by omega) (by omega)]; exact nu
      exact s_X12_fewests_39 ⟨by omega, by omega, fun _ => h G1 hf (fun u k a b e f => h5 u k (by omega) b e f) (fun u k a b e f => h6 u k (by omega) b e f), fun x => absurd (by omega) x⟩
    | succ m ih =>
      intro t G1 hm ht hf h5 h6
      have e : G1 342 110 = now := by rw [hf _ _ (by omega) (by omega) (by omega)]; exact nu
      have hR1 := hR.ext hf.cor
      have hL1 := hL.ext hf.cor
      have tt := tht t
      have qt := qb t
      -- the needs of this tick
      have inner : ∀ (j : Nat) (k : Int) (G3 : Mem), k + j = 200 → 0 ≤ k → RgF G G3 → (∀ u i, t < u → u ≤ fl → 0 ≤ i → i < 200 → G3 345 (200 * u + i) = RN (VF fr pd (fun _ => 10000) th g lm 1000000 fl u i)) → (∀ u i, t < u → u < fl → 0 ≤ i → i < 200 → G3 346 (200 * u + i) = G1 346 (200 * u + i)) → (∀ i, 0 ≤ i → i < k → G3 345 (200 * t + i) = RN (VF fr pd (fun _ => 10000) th g lm 1000000 fl t i) ∧ (G3 346 (200 * t + i) = 0 ∨ G3 346 (200 * t + i) = 1) ∧ (VF fr pd (fun _ => 10000) th g lm 1000000 fl t i < 1000000 → (G3 346 (200 * t + i) = 1 ↔ VF fr pd (fun _ => 10000) th g lm 1000000 fl t i < wtF fr pd (fun _ => 10000) th g lm 1000000 fl t i))) →
          Rn (d + 4) M_X12_fewests zN 138 [(0, (2, 311)), (1, (0, w)), (2, (0, fl)), (3, (0, t)), (6, (0, goF fr pd th g lm fl t (VF fr pd (fun _ => 10000) th g lm 1000000 fl (th t) 0))), (7, (0, k))] [] G3 Q := by
        intro j
        induction j with
        | zero =>
          intro k G3 hk k0 f3 i5 i6 it
          refine s_X12_fewests_138 ⟨by omega, fun _ => ih (t + (-1)) G3 (by omega) (by omega) f3 (fun u i a b i0 i1 => ?_) (fun u i a b i0 i1 => ?_), fun x => absurd (by omega) x⟩
          · by_cases hu : u = t
            · subst hu; exact (it i i0 (by omega)).1
            · exact i5 u i (by omega) b i0 i1
          · by_cases hu : u = t
            · subst hu; exact (it i i0 (by omega)).2
            · rw [i6 u i (by omega) b i0 i1]; exact h6 u i (by omega) b i0 i1
        | succ j ihj =>
          intro k G3 hk k0 f3 i5 i6 it
          have a3 : G3 318 w = lm := by rw [f3 _ _ (by omega) (by omega) (by omega)]; exact sit
          have v1 := i5 (t + 1) (min 199 (k + g)) (by omega) (by omega) (by omega) (by omega)
          rw [VF_min ok (by omega)] at v1
          have L194 : ∀ x : Int, x = (if lm < k + g then 100000 else RN (VF fr pd (fun _ => 10000) th g lm 1000000 fl (t + 1) (k + g))) → Rn (d + 4) M_X12_fewests zN 194 [(0, (2, 311)), (1, (0, w)), (2, (0, fl)), (3, (0, t)), (6, (0, goF fr pd th g lm fl t (VF fr pd (fun _ => 10000) th g lm 1000000 fl (th t) 0))), (7, (0, k))] [(0, x)] G3 Q := by
            intro x hx
            obtain ⟨q1, q2, q3, q4⟩ := fe t k x (by omega) ht hx
            generalize goF fr pd th g lm fl t (VF fr pd (fun _ => 10000) th g lm 1000000 fl (th t) 0) = go at *
            have L220 : ∀ gv : Int, gv = (if go < x then 1 else 0) → Rn (d + 4) M_X12_fewests zN 220 [(0, (2, 311)), (1, (0, w)), (2, (0, fl)), (3, (0, t)), (6, (0, go)), (7, (0, k)), (9, (0, x))] [(0, gv), (0, 200 * t + k), (2, 346)] G3 Q := by
              intro gv hgv
              refine s_X12_fewests_220 ⟨by omega, by split at hgv <;> omega, fun G4 e4 => ⟨by omega, by omega, by omega, by omega, fun G5 e5 => ?_⟩⟩
              rw [q1] at e5
              refine ihj (k + 1) G5 (by omega) (by omega) (f3.tr ?_) (fun u i a b i0 i1 => ?_) (fun u i a b i0 i1 => ?_) (fun i i0 i1 => ?_)
              · rw [e5, e4]
                exact (RgF.st (by omega)).tr (RgF.st (by omega))
              · rw [e5, st_nk _ _ _ (by omega), e4, st_nq _ _ _ _ (by decide)]; exact i5 u i a b i0 i1
              · rw [e5, st_nq _ _ _ _ (by decide), e4, st_nk _ _ _ (by omega)]; exact i6 u i a b i0 i1
              · by_cases hi : i = k
                · subst hi
                  rw [e5, st_same, st_nq _ _ _ _ (by decide), e4, st_same]
                  refine ⟨rfl, by split at hgv <;> omega, fun y => ?_⟩
                  rw [← q2 y]
                  split at hgv <;> omega
                · rw [e5, st_nk _ _ _ (by omega), st_nq _ _ _ _ (by decide), e4, st_nq _ _ _ _ (by decide), st_nk _ _ _ (by omega)]
                  exact it i i0 (by omega)
            exact s_X12_fewests_194 ⟨by omega, by omega, fun y => L220 0 (by rw [if_neg (by omega)]), fun y => L220 1 (by rw [if_pos (by omega)])⟩
          refine s_X12_fewests_138 ⟨by omega, fun x => absurd x (by omega), fun _ => gr G3 f3 ⟨by omega, by omega, by omega, by omega, ?_⟩⟩
          rw [a3, v1]
          exact ⟨fun x => ⟨by omega, L194 _ (by rw [if_neg (by omega)])⟩, fun x => L194 _ (by rw [if_pos (by omega)])⟩
      have L72 : ∀ f : Int, f = (if fr t = true then 1 else 0) → Rn (d + 4) M_X12_fewests zN 72 [(0, (2, 311)), (1, (0, w)), (2, (0, fl)), (3, (0, t))] [(0, f)] G1 Q := by
        intro f hff
        refine s_X12_fewests_72 (c_queueAt hL1 (fun G2 f2 => ?_))
        have hf2 := hf.tr f2.rg
        have o2 : ∀ q k : Int, 345 ≤ q → G2 q k = G1 q k := fun q k a => f2 q k (by omega)
        have start : ∀ y, y = goF fr pd th g lm fl t (VF fr pd (fun _ => 10000) th g lm 1000000 fl (th t) 0) → Rn (d + 4) M_X12_fewests zN 138 [(0, (2, 311)), (1, (0, w)), (2, (0, fl)), (3, (0, t)), (6, (0, y)), (7, (0, 0))] [] G2 Q := fun y hy => by
          subst hy
          exact inner 200 0 G2 (by omega) (by omega) hf2 (fun u i a b i0 i1 => by rw [o2 _ _ (by omega)]; exact h5 u i a b i0 i1) (fun u i a b i0 i1 => o2 _ _ (by omega)) (fun i a b => by omega)
        rw [show t + 1 + queV S c fs t 0 = th t by omega]
        refine ⟨by split at hff <;> omega, fun x => start _ ?_, fun x => aa G2 hf2 t (by omega) ⟨by omega, by omega, fun y => start _ ?_, fun y => aa G2 hf2 (th t) (by omega) ⟨by omega, ?_⟩⟩⟩
        · have nf : ¬ fr t = true := fun z => by rw [if_pos z] at hff; omega
          unfold goF
          rw [if_neg nf]
        · have nf : fr t = true := by
            by_cases z : fr t = true
            · exact z
            · rw [if_neg z] at hff; exact absurd hff x
          unfold goF
          rw [if_pos nf, if_neg (by omega)]
        · have nf : fr t = true := by
            by_cases z : fr t = true
            · exact z
            · rw [if_neg z] at hff; exact absurd hff x
          have v0 := h5 (th t) 0 (by omega) (by omega) (by omega) (by omega)
          rw [Int.add_zero] at v0
          refine start _ ?_
          unfold goF
          rw [if_pos nf, if_pos (by omega), o2 _ _ (by omega), v0]
      refine s_X12_fewests_39 ⟨by omega, by omega, fun x => absurd x (by omega), fun _ => c_isAsleepAt hR1 hw (by omega) (fun a => ⟨by omega, fun _ => L72 0 (by rw [if_neg (fun y => ((frt t).mp y).2 a)]), fun z => absurd (show (1 : Int) ≠ 0 by decide) z⟩) (fun a => ⟨by omega, fun z => absurd rfl z, fun _ => c_isShut hR1 (by omega) (fun x => ⟨by omega, fun _ => L72 0 (by rw [if_neg (fun y => ((frt t).mp y).1 x)]), fun z => absurd (show (1 : Int) ≠ 0 by decide) z⟩) (fun x => ⟨by omega, fun z => absurd rfl z, fun _ => L72 1 (by rw [if_pos ((frt t).mpr ⟨x, a⟩)])⟩)⟩)⟩
  refine ctof (s_X12_fewests_0 ?_)
  rw [se.2.1]
  refine zerosT (fl := fl) (ls := fun i => [(0, (2, 311)), (1, (0, w)), (2, (0, fl)), (3, (0, i))]) (fun i G1 i0 i1 hs => s_X12_fewests_9 ⟨by omega, fun x => absurd x (by omega), fun _ => ⟨by omega, fun G2 e2 => hs G2 e2⟩⟩) (fun G1 e z => s_X12_fewests_9 ⟨by omega, fun _ => ?_, fun x => absurd (by omega) x⟩)
  have f1 : RgF G G1 := fun q k a b _ => e q k (by omega)
  refine L39 (fl - now).toNat (fl - 1) G1 (by omega) (by omega) f1 (fun u k a b k0 k1 => ?_) (fun u k a b => by omega)
  obtain rfl : u = fl := by omega
  rw [VF_end (by omega), z k k0 k1]
  rfl
end FEWESTS
