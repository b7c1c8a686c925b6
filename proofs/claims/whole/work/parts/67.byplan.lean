section BYPLAN
variable {d : Nat} {S S' G G' H : Mem} {Q : Int → Mem → Prop} {c : Int} {fs : Int → Law}
theorem HdP.mv {sl : Int → Bool} {wk s0 s1 : Int → Int} {A B C : Int} {n : Nat} {p : Int} (h : HdP G sl wk s0 s1 A B C n p) (e : ∀ q k : Int, 6 ≤ q → q ≤ 11 → G' q k = G q k) : HdP G' sl wk s0 s1 A B C n p := by
  obtain ⟨a, ⟨b0, b1, b2⟩, r⟩ := h
  exact ⟨Hd.mv (e 6 5 (by omega) (by omega)) (fun q k q0 q1 => e q k (by omega) (by omega)) n p 0 a, ⟨by rw [e 11 0 (by omega) (by omega)]; exact b0, by rw [e 11 1 (by omega) (by omega)]; exact b1, by rw [e 11 2 (by omega) (by omega)]; exact b2⟩, r⟩
theorem frB_rd {w : Int} (hw : 0 ≤ w ∧ w < 5) (h : RdF c S S') : frB S' c w = frB S c w := by
  funext t
  unfold frB
  simp only [decide_eq_decide]
  rw [clsd_rd h, aslp_rd hw h]
theorem thR_rd (h : RdF c S S') : thR S' c fs = thR S c fs := by
  funext t
  unfold thR
  rw [queV_ext h.1]
noncomputable def pdC (S : Mem) (c : Int) (fs : Int → Law) (n : Nat) (p t : Int) : Int := Int.tdiv (pdR S c fs n p t) 10
theorem pdR_in {n : Nat} {p t : Int} (hC : Cls S c) (hn : n ≤ 5) : 0 ≤ pdR S c fs n p t ∧ pdR S c fs n p t ≤ 5000000 := by
  have a := hC.price (k := 0) (by omega) (by omega)
  have b := hC.price (k := 1) (by omega) (by omega)
  exact bst_pd (C := 0) (ahOk hC) a b hn
theorem pdC_in {n : Nat} {p t : Int} (hC : Cls S c) (hn : n ≤ 5) : 0 ≤ pdC S c fs n p t ∧ pdC S c fs n p t ≤ 1000000 := by
  have := pdR_in (fs := fs) (p := p) (t := t) hC hn
  unfold pdC
  rw [Int.tdiv_eq_ediv_of_nonneg this.1]
  omega
theorem odR_in {n : Nat} {p t : Int} (hC : Cls S c) : 0 ≤ odR S c fs n p t ∧ odR S c fs n p t ≤ 10000 := thF_in (ahOk hC) n p 10000 (by omega)
theorem RdF.rfl' : RdF c S S := ⟨fun _ _ _ _ _ _ => rfl, fun _ _ _ => rfl⟩
/-- the class's plan, of a memory that a look or two has touched -/
theorem c_plan2 {pd od : Int → Int} {w lt : Int} {G1 : Mem} (hC : Cls G c) (h37 : c = 37 ∨ c = 55) (hf : PlF c G G1) (hw : 0 ≤ w ∧ w < G c 8) (hL : LawsR G H c 0 fs) (hlt : 0 ≤ lt ∧ lt ≤ 1000000) (hpo : ∀ t, G 73 7 ≤ t → t < G c 7 → (G1 14 t = pd t ∧ 0 ≤ pd t ∧ pd t ≤ 1000000) ∧ (G1 15 t = od t ∧ 0 ≤ od t ∧ od t ≤ 10000)) {m0 : Nat} (hm0 : (m0 : Int) = G c 7 - G 73 7)
    (h : ∀ G', PlF c G G' → G' 12 0 = VF (frB G c w) pd od (thR G c fs) (grow G (c + 13 + w) 0) (G (c + 13 + w) 3) lt (G c 7) (G 73 7) (G 74 w) → G' 12 1 = FSF (frB G c w) pd od (thR G c fs) (grow G (c + 13 + w) 0) (G (c + 13 + w) 3) lt (G c 7) (G 74 w) (G 73 7) m0 → Q 0 G') :
    Ct (d + 3) M_X4_plan NT 0 0 (some lay) [(2, 12), (2, c), (2, 73), (0, w), (0, lt)] G1 Q := by
  have r := hC.rng
  have e : ∀ q k : Int, q ≠ c + 7 → q ≠ c + 12 → ¬ (6 ≤ q ∧ q ≤ 18) → G1 q k = G q k := hf
  have rd := hf.rd h37
  have eg : grow G1 (c + 13 + w) 0 = grow G (c + 13 + w) 0 := by unfold grow; rw [e (c + 13 + w) 2 (by omega) (by omega) (by omega), e (c + 13 + w) 0 (by omega) (by omega) (by omega)]
  refine c_plan (pd := pd) (od := od) (m0 := m0) (hC.pl h37 hf) h37 (by rw [e c 8 (by omega) (by omega) (by omega)]; exact hw) (hL.extC (hf.cor h37)) hlt (fun t a b => ?_) ?_ (fun G' f a b => ?_)
  · rw [e 73 7 (by omega) (by omega) (by omega)] at a
    rw [e c 7 (by omega) (by omega) (by omega)] at b
    exact hpo t a b
  · rw [e 73 7 (by omega) (by omega) (by omega), e c 7 (by omega) (by omega) (by omega)]; exact hm0
  · rw [frB_rd (by omega) rd, thR_rd rd, eg, e (c + 13 + w) 3 (by omega) (by omega) (by omega), e c 7 (by omega) (by omega) (by omega), e 73 7 (by omega) (by omega) (by omega), e 74 w (by omega) (by omega) (by omega)] at a b
    exact h G' (hf.tr f) a b
theorem c_byCost {w : Int} (hC : Cls G c) (h37 : c = 37 ∨ c = 55) (hw : 0 ≤ w ∧ w < G c 8) (hL : LawsR G H c 0 fs) {n : Nat} (hn : (n : Int) = G c 6 - 1 - G (c + 13 + w) 1) {m0 : Nat} (hm0 : (m0 : Int) = G c 7 - G 73 7)
    (h : ∀ G', PlF c G G' → G' 12 0 = VF (frB G c w) (pdC G c fs n (G (c + 13 + w) 1 + 1)) (odR G c fs n (G (c + 13 + w) 1 + 1)) (thR G c fs) (grow G (c + 13 + w) 0) (G (c + 13 + w) 3) (1000 * G (c + 5) 2) (G c 7) (G 73 7) (G 74 w) → G' 12 1 = FSF (frB G c w) (pdC G c fs n (G (c + 13 + w) 1 + 1)) (odR G c fs n (G (c + 13 + w) 1 + 1)) (thR G c fs) (grow G (c + 13 + w) 0) (G (c + 13 + w) 3) (1000 * G (c + 5) 2) (G c 7) (G 74 w) (G 73 7) m0 → Q 0 G') :
    Ct (d + 4) M_X4_byCost NT 0 0 (some lay) [(2, 12), (2, c), (2, 73), (0, w), (2, 6)] G Q := by
  have r := hC.rng
  have tk := hC.tick
  have so := (hC.sok hw.1 hw.2).2.1
  have pr2 := hC.price (k := 2) (by omega) (by omega)
  have key : ∀ (m : Nat) (t : Int) (G1 : Mem), t + m = G c 7 → G 73 7 ≤ t → PlF c G G1 → (∀ u, G 73 7 ≤ u → u < t → G1 14 u = pdC G c fs n (G (c + 13 + w) 1 + 1) u ∧ G1 15 u = odR G c fs n (G (c + 13 + w) 1 + 1) u) → Rn (d + 4) M_X4_byCost zN 6 [(0, (2, 12)), (1, (2, c)), (2, (2, 73)), (3, (0, w)), (4, (2, 6)), (5, (0, t))] [] G1 Q := by
    intro m
    induction m with
    | zero =>
      intro t G1 hm ht hf hp
      have e7 : G1 c 7 = G c 7 := hf _ _ (by omega) (by omega) (by omega)
      have e2 : G1 (c + 5) 2 = G (c + 5) 2 := hf _ _ (by omega) (by omega) (by omega)
      refine s_X4_byCost_6 hC.2.1 b8_73 ⟨by omega, by omega, fun _ => ?_, fun x => absurd (by omega) x⟩
      rw [e2]
      exact c_plan2 hC h37 hf hw hL (by omega) (fun u a b => ⟨⟨(hp u a (by omega)).1, pdC_in hC (by omega)⟩, ⟨(hp u a (by omega)).2, odR_in hC⟩⟩) hm0 h
    | succ m ih =>
      intro t G1 hm ht hf hp
      have e7 : G1 c 7 = G c 7 := hf _ _ (by omega) (by omega) (by omega)
      have e6 : G1 c 6 = G c 6 := hf _ _ (by omega) (by omega) (by omega)
      have e8 : G1 c 8 = G c 8 := hf _ _ (by omega) (by omega) (by omega)
      have e1 : G1 (c + 13 + w) 1 = G (c + 13 + w) 1 := hf _ _ (by omega) (by omega) (by omega)
      have hC1 := hC.pl h37 hf
      refine s_X4_byCost_6 hC.2.1 b8_73 ⟨by omega, by omega, fun x => absurd x (by omega), fun _ => ?_⟩
      refine c_look hC1 h37 (by omega) (by omega) (hL.extC (hf.cor h37)) (n := n) (by rw [e1, e6]; exact hn) (fun G2 f2 hT => ?_)
      have hT' : HdT G2 G c fs t n (G (c + 13 + w) 1 + 1) := by
        have y := HdT.rd hC (hf.rd h37) hT
        rw [e1] at y
        exact y
      refine c_cheapest hT' (fun v hv => ?_)
      have ev := bwF_eq hv
      have vb : 0 ≤ v ∧ v ≤ 2147483647 := by have := hv.1.1; have := p3_in (n := G (c + 13 + w) 1 + 1 + n) (by omega); omega
      refine c_paid hT' vb ?_
      have pb := pdR_in (fs := fs) (n := n) (p := G (c + 13 + w) 1 + 1) (t := t) hC (by omega)
      rw [ev]
      refine ⟨show InR (pdR G c fs n (G (c + 13 + w) 1 + 1) t) by omega, by omega, fun G4 e4 => ?_⟩
      have hT4 := HdP.mv (G' := G4) hT' (fun q k a b => by rw [e4, st_nq _ _ _ _ (by omega)])
      refine c_thr hT4 (by rw [← ev]; exact vb) (by omega) (fun G5 e5 => ?_)
      refine ih (t + 1) G5 (by omega) (by omega) (hf.tr (fun q k a b e => by rw [e5, st_nq _ _ _ _ (by omega), e4, st_nq _ _ _ _ (by omega)]; exact f2 q k a b (by omega))) (fun u u0 u1 => ?_)
      by_cases hu : u = t
      · subst hu
        rw [e5, st_nq _ _ _ _ (by decide), e4, st_same, st_same]
        exact ⟨rfl, rfl⟩
      · rw [e5, st_nq _ _ _ _ (by decide), st_nk _ _ _ hu, e4, st_nk _ _ _ hu, st_nq _ _ _ _ (by decide), f2 14 u (by omega) (by omega) (by omega), f2 15 u (by omega) (by omega) (by omega)]
        exact hp u u0 (by omega)
  exact ctof (s_X4_byCost_0 hC.2.1 b8_73 (key m0 (G 73 7) G (by omega) (by omega) PlF.rfl' (fun u a b => by omega)))
theorem c_byWakings {w : Int} (hC : Cls G c) (h37 : c = 37 ∨ c = 55) (hw : 0 ≤ w ∧ w < G c 8) (hL : LawsR G H c 0 fs) {n : Nat} (hn : (n : Int) = G c 6 - 1 - G (c + 13 + w) 1) {m0 : Nat} (hm0 : (m0 : Int) = G c 7 - G 73 7)
    (h : ∀ G', PlF c G G' → G' 12 0 = VF (frB G c w) (fun t => cntF (slB G c t) n (G (c + 13 + w) 1 + 1)) (fun _ => 10000) (thR G c fs) (grow G (c + 13 + w) 0) (G (c + 13 + w) 3) 1000000 (G c 7) (G 73 7) (G 74 w) → G' 12 1 = FSF (frB G c w) (fun t => cntF (slB G c t) n (G (c + 13 + w) 1 + 1)) (fun _ => 10000) (thR G c fs) (grow G (c + 13 + w) 0) (G (c + 13 + w) 3) 1000000 (G c 7) (G 74 w) (G 73 7) m0 → Q 0 G') :
    Ct (d + 4) M_X4_byWakings NT 0 0 (some lay) [(2, 12), (2, c), (2, 73), (0, w), (2, 6)] G Q := by
  have r := hC.rng
  have tk := hC.tick
  have so := (hC.sok hw.1 hw.2).2.1
  have key : ∀ (m : Nat) (t : Int) (G1 : Mem), t + m = G c 7 → G 73 7 ≤ t → PlF c G G1 → (∀ u, G 73 7 ≤ u → u < t → G1 14 u = cntF (slB G c u) n (G (c + 13 + w) 1 + 1) ∧ G1 15 u = 10000) → Rn (d + 4) M_X4_byWakings zN 6 [(0, (2, 12)), (1, (2, c)), (2, (2, 73)), (3, (0, w)), (4, (2, 6)), (5, (0, t))] [] G1 Q := by
    intro m
    induction m with
    | zero =>
      intro t G1 hm ht hf hp
      have e7 : G1 c 7 = G c 7 := hf _ _ (by omega) (by omega) (by omega)
      refine s_X4_byWakings_6 hC.2.1 b8_73 ⟨by omega, by omega, fun _ => ?_, fun x => absurd (by omega) x⟩
      have big : ∀ x : Int, x = 1000000 → 0 ≤ x ∧ x ≤ 1000000 := fun x h => by omega
      exact c_plan2 (od := fun _ => 10000) hC h37 hf hw hL (big _ rfl) (fun u a b => ⟨⟨(hp u a (by omega)).1, by have := cnt_in (slB G c u) n (G (c + 13 + w) 1 + 1); omega⟩, ⟨(hp u a (by omega)).2, by show (0 : Int) ≤ 10000 ∧ (10000 : Int) ≤ 10000; omega⟩⟩) hm0 h
    | succ m ih =>
      intro t G1 hm ht hf hp
      have e7 : G1 c 7 = G c 7 := hf _ _ (by omega) (by omega) (by omega)
      have e6 : G1 c 6 = G c 6 := hf _ _ (by omega) (by omega) (by omega)
      have e8 : G1 c 8 = G c 8 := hf _ _ (by omega) (by omega) (by omega)
      have e1 : G1 (c + 13 + w) 1 = G (c + 13 + w) 1 := hf _ _ (by omega) (by omega) (by omega)
      have hC1 := hC.pl h37 hf
      refine s_X4_byWakings_6 hC.2.1 b8_73 ⟨by omega, by omega, fun x => absurd x (by omega), fun _ => ?_⟩
      refine c_look hC1 h37 (by omega) (by omega) (hL.extC (hf.cor h37)) (n := n) (by rw [e1, e6]; exact hn) (fun G2 f2 hT => ⟨by omega, fun G4 e4 G5 e5 => ?_⟩)
      have hT' : HdT G2 G c fs t n (G (c + 13 + w) 1 + 1) := by
        have y := HdT.rd hC (hf.rd h37) hT
        rw [e1] at y
        exact y
      have cn := Hd.cnt _ _ _ hT'.1
      rw [Int.zero_add] at cn
      rw [cn] at e4
      refine ih (t + 1) G5 (by omega) (by omega) (hf.tr (fun q k a b e => by rw [e5, st_nq _ _ _ _ (by omega), e4, st_nq _ _ _ _ (by omega)]; exact f2 q k a b (by omega))) (fun u u0 u1 => ?_)
      by_cases hu : u = t
      · subst hu
        rw [e5, st_nq _ _ _ _ (by decide), e4, st_same, st_same]
        exact ⟨rfl, rfl⟩
      · rw [e5, st_nq _ _ _ _ (by decide), st_nk _ _ _ hu, e4, st_nk _ _ _ hu, st_nq _ _ _ _ (by decide), f2 14 u (by omega) (by omega) (by omega), f2 15 u (by omega) (by omega) (by omega)]
        exact hp u u0 (by omega)
  exact ctof (s_X4_byWakings_0 hC.2.1 b8_73 (key m0 (G 73 7) G (by omega) (by omega) PlF.rfl' (fun u a b => by omega)))
end BYPLAN
