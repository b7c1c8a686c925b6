section PLAN
variable {d : Nat} {S S' G G' H : Mem} {Q : Int → Mem → Prop} {c : Int} {fs : Int → Law}
/-- what a plan writes -/
def PlF (c : Int) (S S' : Mem) : Prop := ∀ q k : Int, q ≠ c + 7 → q ≠ c + 12 → ¬ (6 ≤ q ∧ q ≤ 18) → S' q k = S q k
theorem PlF.cl (hc : c = 37 ∨ c = 55) (h : PlF c S S') : ClF c S S' := ⟨fun q k a b => h q k (by omega) (by omega) (by omega), fun q k a => h q k (by omega) (by omega) (by omega)⟩
theorem PlF.rfl' : PlF c S S := fun _ _ _ _ _ => rfl
theorem PlF.tr {S2 : Mem} (h : PlF c S S') (h' : PlF c S' S2) : PlF c S S2 := fun q k a b e => (h' q k a b e).trans (h q k a b e)
theorem PlF.cor (hc : c = 37 ∨ c = 55) (h : PlF c S S') : CorC c S S' := fun q k a b e f => h q k e f (by omega)
theorem PlF.rd (hc : c = 37 ∨ c = 55) (h : PlF c S S') : RdF c S S' := ⟨h.cor hc, fun q k a => h q k (by omega) (by omega) (by omega)⟩
theorem LkF.pl (h : LkF c S S') : PlF c S S' := fun q k a b e => h q k a b (by omega)
theorem Cls.pl (hC : Cls S c) (hc : c = 37 ∨ c = 55) (h : PlF c S S') : Cls S' c := hC.qt hc (h.cl hc)
theorem frB_tr {w t : Int} : frB S c w t = true ↔ ¬ clsd S c t ∧ ¬ aslp S 73 c w t := by
  unfold frB
  exact decide_eq_true_iff
theorem clsd_rd {t : Int} (h : RdF c S S') : clsd S' c t ↔ clsd S c t := by
  unfold clsd
  rw [h.1 c 7 (by omega) (by omega) (by omega) (by omega), h.1 (c + 4) t (by omega) (by omega) (by omega) (by omega)]
theorem b5_c (hb : Bs 1 c) {w : Int} (hw : 0 ≤ w ∧ w < 5) : Bs 7 (c + 13 + w) := (el_1_0 hb hw.1 hw.2).2.2
section PL
variable {pd od : Int → Int} {w lt : Int}
theorem c_lesser {t x b : Int} {fr : Int → Bool} {X : Int} (h3 : G 13 t = if fr t = true then 1 else 0) (h4 : G 14 t = pd t) (h5 : G 15 t = od t) (ht : 0 ≤ t ∧ t < 73) (hp : 0 ≤ pd t ∧ pd t ≤ 1000000) (ho : 0 ≤ od t ∧ od t ≤ 10000) (hx : 0 ≤ x ∧ x ≤ 200000000) (hb : 0 ≤ b ∧ b ≤ 200000000) (h : Q (lsF fr pd od t x b) G) : Ct (d + 1) M_X4_lesser NT 0 0 (some lay) [(2, 12), (0, t), (0, x), (0, b)] G Q := by
  have z := lsF_in (fr := fr) (t := t) (w := x) (b := b) (W := 200000000) hp ho hx hb (by omega)
  unfold lsF at h
  refine ctof (s_X4_lesser_0 ⟨ht, by split at h3 <;> omega, fun y => ?_, fun y => ?_⟩)
  · have f : fr t = true := by
      by_cases f : fr t = true
      · exact f
      · rw [if_neg f] at h3; exact absurd h3 y
    rw [if_pos f] at h
    rw [h4, h5]
    exact ⟨by omega, by omega, by omega, by omega, by omega, by omega, by omega, by omega, h⟩
  · have f : ¬ fr t = true := fun f => by rw [if_pos f] at h3; omega
    rw [if_neg f] at h
    exact h
theorem c_plan (hC : Cls G c) (h37 : c = 37 ∨ c = 55) (hw : 0 ≤ w ∧ w < G c 8) (hL : LawsR G H c 0 fs) (hlt : 0 ≤ lt ∧ lt ≤ 1000000) (hpo : ∀ t, G 73 7 ≤ t → t < G c 7 → (G 14 t = pd t ∧ 0 ≤ pd t ∧ pd t ≤ 1000000) ∧ (G 15 t = od t ∧ 0 ≤ od t ∧ od t ≤ 10000)) {m0 : Nat} (hm0 : (m0 : Int) = G c 7 - G 73 7)
    (h : ∀ G', PlF c G G' → G' 12 0 = VF (frB G c w) pd od (thR G c fs) (grow G (c + 13 + w) 0) (G (c + 13 + w) 3) lt (G c 7) (G 73 7) (G 74 w) → G' 12 1 = FSF (frB G c w) pd od (thR G c fs) (grow G (c + 13 + w) 0) (G (c + 13 + w) 3) lt (G c 7) (G 74 w) (G 73 7) m0 → Q 0 G') :
    Ct (d + 3) M_X4_plan NT 0 0 (some lay) [(2, 12), (2, c), (2, 73), (0, w), (0, lt)] G Q := by
  have r := hC.rng
  have tk := hC.tick
  have so := hC.sok hw.1 hw.2
  have k3 : 1 ≤ G (c + 13 + w) 3 ∧ G (c + 13 + w) 3 ≤ 99 := so.2.2.2.1
  have ro := hC.rok (i := w) (by omega) (by omega)
  have gb := grow_bd so (m := 0) (by omega)
  have b7 := b5_c hC.2.1 (w := w) (by omega)
  have k0 := so.1
  have qb := fun t => queV_in (S := G) (c := c) (fs := fs) (t := t) (ou := 0)
  generalize hg : grow G (c + 13 + w) 0 = g at *
  generalize hfr : frB G c w = fr at *
  generalize hth : thR G c fs = th at *
  have tht : ∀ t, th t = t + (1 + queV G c fs t 0) := fun t => by rw [← hth]; rfl
  have ok : VOk pd od th g (G (c + 13 + w) 3) lt (G c 7) (G 73 7) := ⟨fun t a b => ⟨(hpo t a b).1.2, (hpo t a b).2.2, by have := tht t; have := qb t; omega⟩, gb, k3.2, hlt, by omega⟩
  have frt : ∀ t, fr t = true ↔ ¬ clsd G c t ∧ ¬ aslp G 73 c w t := fun t => by rw [← hfr]; exact frB_tr
  generalize hlm : G (c + 13 + w) 3 = lm at *
  generalize hfl : G c 7 = fl at *
  generalize hnow : G 73 7 = now at *
  generalize hn0 : G 74 w = n0 at *
  -- the state of the loop over ticks: t is the next
  have key : ∀ (m : Nat) (t : Int) (G1 : Mem), now + m = t + 1 → t < fl → PlF c G G1 → (∀ u, now ≤ u → u < fl → G1 14 u = pd u ∧ G1 15 u = od u) → (∀ u, t < u → u < fl → G1 17 u = VF fr pd od th g lm lt fl u 0) → (∀ k, 0 ≤ k → k ≤ t + 1 → G1 18 k = VF fr pd od th g lm lt fl (t + 1) (g * k)) →
      G1 12 0 = VF fr pd od th g lm lt fl (t + 1) (n0 + g * (t + 1 - now)) → (∀ j : Nat, (j : Int) = fl - (t + 1) → G1 12 1 = FSF fr pd od th g lm lt fl n0 now j) → Rn (d + 3) M_X4_plan zN 42 [(0, (2, 12)), (1, (2, c)), (2, (2, 73)), (3, (0, w)), (4, (0, lt)), (5, (2, c + 13 + w)), (6, (0, g)), (7, (0, t))] [] G1 Q := by
    intro m
    induction m with
    | zero =>
      intro t G1 hm htf hf h45 h17 h18 h0 h1
      have e7 : G1 73 7 = now := by rw [hf _ _ (by omega) (by omega) (by omega)]; exact hnow
      refine s_X4_plan_42 hC.2.1 b8_73 b7 ⟨by omega, by omega, fun _ => h G1 hf ?_ (h1 m0 (by omega)), fun x => absurd (by omega) x⟩
      rw [h0, show t + 1 = now by omega, Int.sub_self, Int.mul_zero, Int.add_zero]
    | succ m ih =>
      intro t G1 hm htf hf h45 h17 h18 h0 h1
      have e7 : G1 73 7 = now := by rw [hf _ _ (by omega) (by omega) (by omega)]; exact hnow
      have hC1 := hC.pl h37 hf
      have rd := hf.rd h37
      have e8 : G1 c 8 = G c 8 := hf _ _ (by omega) (by omega) (by omega)
      obtain ⟨⟨p1, p2⟩, ⟨o1, o2⟩⟩ := hpo t (by omega) htf
      have tt := tht t
      have qt := qb t
      have vb := fun (u n : Int) (hu : now ≤ u) => VF_b (fr := fr) ok (t := u) (n := n) hu
      have bb := bhF_b (fr := fr) ok (t := t) (by omega) htf
      have wb := fun n => wtF_b (fr := fr) ok (t := t) (n := n) (by omega)
      refine s_X4_plan_42 hC.2.1 b8_73 b7 ⟨by omega, by omega, fun x => absurd x (by omega), fun _ => ?_⟩
      have L82 : ∀ f : Int, f = (if fr t = true then 1 else 0) → Rn (d + 3) M_X4_plan zN 82 [(0, (2, 12)), (1, (2, c)), (2, (2, 73)), (3, (0, w)), (4, (0, lt)), (5, (2, c + 13 + w)), (6, (0, g)), (7, (0, t))] [(0, f), (0, t), (2, 13)] G1 Q := by
        intro f hff
        refine s_X4_plan_82 hC.2.1 b8_73 b7 ⟨by omega, by split at hff <;> omega, fun G3 e3 => ?_⟩
        have f3 : PlF c G1 G3 := fun q k a b e => by rw [e3, st_nq _ _ _ _ (by omega)]
        refine c_X1_away hC.2.1 (hL.extC ((hf.tr f3).cor h37)) (fun G4 f4 => ⟨by omega, fun G7 e7' => ?_⟩)
        have f7 : PlF c G1 G7 := f3.tr (fun q k a b e => by rw [e7', st_nq _ _ _ _ (by omega)]; exact f4 q k a b)
        have hf7 := hf.tr f7
        have qe : queV G3 c fs t 0 = queV G c fs t 0 := queV_ext ((hf.tr f3).cor h37)
        have i16 : G7 16 t = th t := by rw [e7', st_same, qe, tt]
        have o7 : ∀ q k : Int, 12 ≤ q → q ≤ 18 → q ≠ 13 → q ≠ 16 → G7 q k = G1 q k := fun q k a b e x => by rw [e7', st_nq _ _ _ _ x, f4 _ _ (by omega) (by omega), e3, st_nq _ _ _ _ e]
        have i13 : G7 13 t = f := by rw [e7', st_nq _ _ _ _ (by decide), f4 _ _ (by omega) (by omega), e3, st_same]
        have cfl : G7 c 7 = fl := by rw [hf7 _ _ (by omega) (by omega) (by omega)]; exact hfl
        -- the inner loop
        have inner : ∀ (j : Nat) (k : Int) (G8 : Mem), k + j = t + 1 → 0 ≤ k → PlF c G7 G8 → (∀ q i : Int, 12 ≤ q → q ≤ 17 → G8 q i = G7 q i) → (∀ i, 0 ≤ i → i < k → G8 18 i = VF fr pd od th g lm lt fl t (g * i)) → (∀ i, k ≤ i → i ≤ t + 1 → G8 18 i = VF fr pd od th g lm lt fl (t + 1) (g * i)) →
            Rn (d + 3) M_X4_plan zN 148 [(0, (2, 12)), (1, (2, c)), (2, (2, 73)), (3, (0, w)), (4, (0, lt)), (5, (2, c + 13 + w)), (6, (0, g)), (7, (0, t)), (8, (0, bhF fr pd od th g lm lt fl t)), (9, (0, k))] [] G8 Q := by
          intro j
          induction j with
          | zero =>
            intro k G8 hk hk0 f8 o8 i1 i2
            have hf8 := hf7.tr f8
            refine s_X4_plan_148 hC.2.1 b8_73 b7 ⟨by omega, by omega, fun _ => ⟨by omega, fun G5 e5 => ⟨by omega, ?_⟩⟩, fun x => absurd (by omega) x⟩
            have hf5 : PlF c G8 G5 := fun q k a b e => by rw [e5, st_nq _ _ _ _ (by omega)]
            have a1 : G5 (73 + 1) w = n0 := by rw [hf5 _ _ (by omega) (by omega) (by omega), hf8 _ _ (by omega) (by omega) (by omega)]; exact hn0
            have a2 : G5 73 7 = now := by rw [hf5 _ _ (by omega) (by omega) (by omega), hf8 _ _ (by omega) (by omega) (by omega)]; exact hnow
            have a3 : G5 (c + 13 + w) 3 = lm := by rw [hf5 _ _ (by omega) (by omega) (by omega), hf8 _ _ (by omega) (by omega) (by omega)]; exact hlm
            have a4 : G5 12 0 = VF fr pd od th g lm lt fl (t + 1) (n0 + g * (t + 1 - now)) := by rw [e5, st_nq _ _ _ _ (by decide), o8 _ _ (by omega) (by omega), o7 _ _ (by omega) (by omega) (by omega) (by omega)]; exact h0
            have a5 : G5 12 1 = G1 12 1 := by rw [e5, st_nq _ _ _ _ (by decide), o8 _ _ (by omega) (by omega), o7 _ _ (by omega) (by omega) (by omega) (by omega)]
            have mg := mul_bd gb (b := t - now + 1) (B := 73) (by omega)
            rw [a1, a2, a3, a4]
            have nn : n0 + g * (t + 1 - now) = n0 + g * (t - now) + g := by rw [show t + 1 - now = t - now + 1 by omega, Int.mul_add, Int.mul_one]; omega
            have nn2 : n0 + g * (t - now + 1) = n0 + g * (t - now) + g := by rw [Int.mul_add, Int.mul_one]; omega
            -- the path's own
            have L265 : ∀ l : Int, l = (if lm < n0 + g * (t - now) + g then lt else 0) → Rn (d + 3) M_X4_plan zN 265 [(0, (2, 12)), (1, (2, c)), (2, (2, 73)), (3, (0, w)), (4, (0, lt)), (5, (2, c + 13 + w)), (6, (0, g)), (7, (0, t)), (8, (0, bhF fr pd od th g lm lt fl t))] [(0, l), (0, VF fr pd od th g lm lt fl (t + 1) (n0 + g * (t + 1 - now)))] G5 Q := by
              intro l hl
              have wt : VF fr pd od th g lm lt fl (t + 1) (n0 + g * (t + 1 - now)) + l = wtF fr pd od th g lm lt fl t (n0 + g * (t - now)) := by unfold wtF; rw [nn, hl]
              have wbn := wb (n0 + g * (t - now))
              have b13 : G5 13 t = if fr t = true then 1 else 0 := by rw [e5, st_nq _ _ _ _ (by decide), o8 _ _ (by omega) (by omega), i13, hff]
              have b14 : G5 14 t = pd t := by rw [e5, st_nq _ _ _ _ (by decide), o8 _ _ (by omega) (by omega), o7 _ _ (by omega) (by omega) (by omega) (by omega)]; exact (h45 t (by omega) htf).1
              have b15 : G5 15 t = od t := by rw [e5, st_nq _ _ _ _ (by decide), o8 _ _ (by omega) (by omega), o7 _ _ (by omega) (by omega) (by omega) (by omega)]; exact (h45 t (by omega) htf).2
              refine s_X4_plan_265 hC.2.1 b8_73 b7 ?_
              rw [wt]
              refine c_lesser (X := 0) b13 b14 b15 (by omega) p2 o2 (by omega) (by omega) (fun G9 e9 => ?_)
              have v9 : G9 12 0 = VF fr pd od th g lm lt fl t (n0 + g * (t - now)) := by rw [e9, st_same, VF_lt htf (by omega)]
              have v1 : G9 12 1 = G1 12 1 := by rw [e9, st_nk _ _ _ (by decide)]; exact a5
              have v9b := vb t (n0 + g * (t - now)) (by omega)
              have vle := VF_le (fr := fr) (pd := pd) (od := od) (th := th) (g := g) (lm := lm) (lt := lt) (n := n0 + g * (t - now)) htf (by omega)
              have nxt : ∀ (fv : Int) (Gz : Mem), Gz = st G9 12 1 fv → (∀ j : Nat, (j : Int) = fl - t → fv = FSF fr pd od th g lm lt fl n0 now j) → Rn (d + 3) M_X4_plan zN 42 [(0, (2, 12)), (1, (2, c)), (2, (2, 73)), (3, (0, w)), (4, (0, lt)), (5, (2, c + 13 + w)), (6, (0, g)), (7, (0, t + (-1)))] [] Gz Q := by
                intro fv Gz ez hfv
                have fz : PlF c G8 Gz := fun q k a b e => by rw [ez, st_nq _ _ _ _ (by omega), e9, st_nq _ _ _ _ (by omega), e5, st_nq _ _ _ _ (by omega)]
                have oz : ∀ q k : Int, 13 ≤ q → q ≤ 18 → ¬ (q = 17 ∧ k = t) → Gz q k = G8 q k := fun q k a b e => by rw [ez, st_nq _ _ _ _ (by omega), e9, st_nq _ _ _ _ (by omega), e5, st_ne _ _ e]
                refine ih (t + (-1)) Gz (by omega) (by omega) (hf8.tr fz) (fun u u0 u1 => ?_) (fun u u0 u1 => ?_) (fun k k0 k1 => ?_) ?_ (fun j hj => ?_)
                · rw [oz _ _ (by omega) (by omega) (by omega), oz _ _ (by omega) (by omega) (by omega), o8 _ _ (by omega) (by omega), o8 _ _ (by omega) (by omega), o7 _ _ (by omega) (by omega) (by omega) (by omega), o7 _ _ (by omega) (by omega) (by omega) (by omega)]
                  exact h45 u u0 u1
                · by_cases hu : u = t
                  · subst hu
                    rw [ez, st_nq _ _ _ _ (by decide), e9, st_nq _ _ _ _ (by decide), e5, st_same, i1 0 (by omega) (by omega), Int.mul_zero]
                  · rw [oz _ _ (by omega) (by omega) (by omega), o8 _ _ (by omega) (by omega), o7 _ _ (by omega) (by omega) (by omega) (by omega)]
                    exact h17 u (by omega) u1
                · rw [oz _ _ (by omega) (by omega) (by omega), i1 k k0 (by omega), show t + (-1) + 1 = t by omega]
                · rw [ez, st_nk _ _ _ (by decide), v9, show t + (-1) + 1 = t by omega]
                · rw [ez, st_same]
                  exact hfv j (by omega)
              have un : ∀ j : Nat, (j : Int) = fl - t → FSF fr pd od th g lm lt fl n0 now j = if VF fr pd od th g lm lt fl t (n0 + g * (t - now)) < wtF fr pd od th g lm lt fl t (n0 + g * (t - now)) then t else G1 12 1 := by
                intro j hj
                obtain ⟨i, rfl⟩ : ∃ i, j = i + 1 := ⟨j - 1, by omega⟩
                unfold FSF
                rw [show fl - ((i + 1 : Nat) : Int) = t by omega, h1 i (by omega)]
              refine ⟨by omega, by omega, fun x G10 e10 => nxt _ G10 e10 (fun j hj => ?_), fun x G10 e10 => nxt _ G10 e10 (fun j hj => ?_)⟩
              · rw [un j hj, if_neg (by omega), v1]
              · rw [un j hj, if_pos (by omega)]
            refine ⟨by omega, by omega, fun x => L265 0 (by rw [if_neg (by omega)]), fun x => L265 lt (by rw [if_pos (by omega)])⟩
          | succ j ihj =>
            intro k G8 hk hk0 f8 o8 i1 i2
            have hf8 := hf7.tr f8
            have a3 : G8 (c + 13 + w) 3 = lm := by rw [hf8 _ _ (by omega) (by omega) (by omega)]; exact hlm
            have gk : g * (k + 1) = g * k + g := by rw [Int.mul_add, Int.mul_one]
            have mg := mul_bd gb (b := k + 1) (B := 73) (by omega)
            refine s_X4_plan_148 hC.2.1 b8_73 b7 ⟨by omega, by omega, fun x => absurd x (by omega), fun _ => ⟨by omega, ?_⟩⟩
            rw [a3, i2 (k + 1) (by omega) (by omega)]
            have L185 : ∀ l : Int, l = (if lm < g * k + g then lt else 0) → Rn (d + 3) M_X4_plan zN 185 [(0, (2, 12)), (1, (2, c)), (2, (2, 73)), (3, (0, w)), (4, (0, lt)), (5, (2, c + 13 + w)), (6, (0, g)), (7, (0, t)), (8, (0, bhF fr pd od th g lm lt fl t)), (9, (0, k))] [(0, l), (0, VF fr pd od th g lm lt fl (t + 1) (g * (k + 1)))] G8 Q := by
              intro l hl
              have wt : VF fr pd od th g lm lt fl (t + 1) (g * (k + 1)) + l = wtF fr pd od th g lm lt fl t (g * k) := by unfold wtF; rw [gk, hl]
              have wbn := wb (g * k)
              have b13 : G8 13 t = if fr t = true then 1 else 0 := by rw [o8 _ _ (by omega) (by omega), i13, hff]
              have b14 : G8 14 t = pd t := by rw [o8 _ _ (by omega) (by omega), o7 _ _ (by omega) (by omega) (by omega) (by omega)]; exact (h45 t (by omega) htf).1
              have b15 : G8 15 t = od t := by rw [o8 _ _ (by omega) (by omega), o7 _ _ (by omega) (by omega) (by omega) (by omega)]; exact (h45 t (by omega) htf).2
              refine s_X4_plan_185 hC.2.1 b8_73 b7 ?_
              rw [wt]
              refine c_lesser (X := 0) b13 b14 b15 (by omega) p2 o2 (by omega) (by omega) ⟨by omega, fun G9 e9 => ?_⟩
              refine ihj (k + 1) G9 (by omega) (by omega) (f8.tr (fun q k a b e => by rw [e9, st_nq _ _ _ _ (by omega)])) (fun q i a b => by rw [e9, st_nq _ _ _ _ (by omega)]; exact o8 q i a b) (fun i i0 i1' => ?_) (fun i i0 i1' => ?_)
              · by_cases hi : i = k
                · subst hi
                  rw [e9, st_same, VF_lt htf (by omega)]
                · rw [e9, st_nk _ _ _ hi]; exact i1 i i0 (by omega)
              · rw [e9, st_nk _ _ _ (by omega)]; exact i2 i (by omega) i1'
            exact ⟨by omega, by omega, fun x => L185 0 (by rw [if_neg (by omega)]), fun x => L185 lt (by rw [if_pos (by omega)])⟩
        have start : ∀ G8, G8 = G7 → Rn (d + 3) M_X4_plan zN 148 [(0, (2, 12)), (1, (2, c)), (2, (2, 73)), (3, (0, w)), (4, (0, lt)), (5, (2, c + 13 + w)), (6, (0, g)), (7, (0, t)), (8, (0, bhF fr pd od th g lm lt fl t)), (9, (0, 0))] [] G8 Q := fun G8 e => by
          subst e
          exact inner (t + 1).toNat 0 G8 (by omega) (by omega) PlF.rfl' (fun _ _ _ _ => rfl) (fun i i0 i1 => by omega) (fun i i0 i1 => by rw [o7 _ _ (by omega) (by omega) (by omega) (by omega)]; exact h18 i i0 i1)
        rw [i16, cfl]
        refine ⟨by omega, by omega, fun x => ?_, fun x => ⟨by omega, ?_⟩⟩
        · have e : bhF fr pd od th g lm lt fl t = 0 := by unfold bhF; rw [if_neg (by omega)]
          have y := start G7 rfl
          rw [e] at y
          exact y
        · have e : bhF fr pd od th g lm lt fl t = pd (th t) + VF fr pd od th g lm lt fl (th t) 0 := by unfold bhF; rw [if_pos (by omega)]
          have y := start G7 rfl
          rw [e] at y
          rw [o7 _ _ (by omega) (by omega) (by omega) (by omega), o7 _ _ (by omega) (by omega) (by omega) (by omega), (h45 (th t) (by omega) (by omega)).1, h17 (th t) (by omega) (by omega)]
          exact y
      refine c_clo hC1 (by omega) (fun x => ⟨by omega, fun _ => L82 0 (by rw [if_neg (fun y => ((frt t).mp y).1 ((clsd_rd rd).mp x))]), fun z => absurd (show (1 : Int) ≠ 0 by decide) z⟩) (fun x => ⟨by omega, fun z => absurd rfl z, fun _ => c_asl hC1 (by omega) (by omega) (fun a => ⟨by omega, fun _ => L82 0 (by rw [if_neg (fun y => ((frt t).mp y).2 ((aslp_rd (by omega) rd).mp a))]), fun z => absurd (show (1 : Int) ≠ 0 by decide) z⟩) (fun a => ⟨by omega, fun z => absurd rfl z, fun _ => L82 1 (by rw [if_pos ((frt t).mpr ⟨fun y => x ((clsd_rd rd).mpr y), fun y => a ((aslp_rd (by omega) rd).mpr y)⟩)])⟩)⟩)
  refine ctof (s_X4_plan_0 hC.2.1 b8_73 ⟨by omega, c_X7_growth b7 (by omega) ?_⟩)
  rw [hg]
  have a18 : Ar NT 18 0 74 := by unfold Ar; decide +kernel
  refine c_fill a18 (fun G6 e6 G7 e7 => ?_)
  have f7 : PlF c G G7 := fun q k a b e => by rw [e7, st_nq _ _ _ _ (by omega), e6, st_nq _ _ _ _ (by omega), upA_nq _ _ _ _ (by omega)]
  have o7 : ∀ q k : Int, 13 ≤ q → q ≤ 17 → G7 q k = G q k := fun q k a b => by rw [e7, st_nq _ _ _ _ (by omega), e6, st_nq _ _ _ _ (by omega), upA_nq _ _ _ _ (by omega)]
  have cfl : G7 c 7 = fl := by rw [f7 _ _ (by omega) (by omega) (by omega)]; exact hfl
  rw [cfl]
  refine key m0 (fl - 1) G7 (by omega) (by omega) f7 (fun u u0 u1 => ?_) (fun u u0 u1 => by omega) (fun k k0 k1 => ?_) ?_ (fun j hj => ?_)
  · rw [o7 _ _ (by omega) (by omega), o7 _ _ (by omega) (by omega)]
    exact ⟨(hpo u u0 u1).1.1, (hpo u u0 u1).2.1⟩
  · rw [VF_end (by omega), e7, st_nq _ _ _ _ (by decide), e6, st_nq _ _ _ _ (by decide), upA_in _ _ _ k0 (by omega)]
  · rw [VF_end (by omega), e7, st_nk _ _ _ (by decide), e6, st_same]
  · obtain rfl : j = 0 := by omega
    rw [e7, st_same]
    rfl
end PL
end PLAN
