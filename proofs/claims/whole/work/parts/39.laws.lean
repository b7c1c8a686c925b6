section LAWVALS
variable {d : Nat} {S G H : Mem} {Q : Int → Mem → Prop} {c r : Int} {fs : Int → Law}
/-! the chance to wake, the chance to spill, the queue -/
def wakV (G : Mem) (c : Int) (fs : Int → Law) (w t cp ak : Int) : Int := if G (c + 13 + w) 0 = 4 then 10 else if G (c + 8) 0 = 0 then 10 - deepf G (c + 13 + w) else max 0 (min 10 (fs 0 (ev t (deepf G (c + 13 + w)) (legsf G (c + 13 + w)) cp ak 0 0 0)))
def spiV (G : Mem) (c : Int) (fs : Int → Law) (w t sd cp ak : Int) : Int := if G (c + 8) 1 = 0 then 3 + sd else max 0 (min 10 (fs 1 (ev t (deepf G (c + 13 + w)) (legsf G (c + 13 + w)) cp ak (G c 9) sd 0)))
def queV (G : Mem) (c : Int) (fs : Int → Law) (t ou : Int) : Int := if G (c + 8) 2 = 0 then 0 else max 0 (min 9 (fs 2 (ev t 0 0 0 0 0 0 ou)))
theorem ev_a {l t dp lg cp ak gp sd ou dp' lg' cp' ak' gp' sd' ou' : Int} (hl : 0 ≤ l ∧ l < 3) (h0 : l ≠ 2 → dp = dp' ∧ lg = lg' ∧ cp = cp' ∧ ak = ak') (h1 : l = 1 → gp = gp' ∧ sd = sd') (h2 : l = 2 → ou = ou') : ∀ j, allw l j → ev t dp lg cp ak gp sd ou j = ev t dp' lg' cp' ak' gp' sd' ou' j := by
  intro j hj
  unfold allw at hj
  unfold ev
  rcases (by omega : j = 0 ∨ j = 1 ∨ j = 2 ∨ j = 3 ∨ j = 4 ∨ j = 5 ∨ j = 6 ∨ j = 7) with rfl | rfl | rfl | rfl | rfl | rfl | rfl | rfl
  · simp [(h0 (by omega)).1]
  · simp [(h0 (by omega)).2.1]
  · simp [(h0 (by omega)).2.2.1]
  · simp [(h1 (by omega)).1]
  · simp
  · simp [(h0 (by omega)).2.2.2]
  · simp [(h1 (by omega)).2]
  · simp [h2 (by omega)]
/-- the class's law, its facts set -/
theorem c_law {l : Int} {E : Int → Int} (hc : Bs 1 c) (hl : 0 ≤ l ∧ l < 3) (hL : LawsR G H c r fs) (h1 : G (c + 8) l ≠ 0) {G1 : Mem} (g : ∀ q k : Int, q ≠ c + 7 → G1 q k = G q k) (hE : ∀ j, allw l j → G1 (c + 7) j = E j) (hi : ∀ j, InR (E j)) {m : Int} (hm : 0 ≤ m ∧ m ≤ 10) {K : Int → Mem → Prop} (h : ∀ G', EvC c G G' → K (max 0 (min m (fs l E))) G') :
    Ct (d + 1) M_X3_result NT 0 0 (some lay) [(2, c + 6), (0, l)] G1 (fun v G2 => Ct (d + 1) M_X1_bounded NT 0 0 (some lay) [(0, v), (0, m)] G2 K) := by
  have h3 := (ly_1_5 hc).2.2
  have hx := hL.1
  rcases hL.2 l hl.1 hl.2 with ⟨e0, -⟩ | ⟨e1, ts, ps, hD, p0, p1, p2, pA, -⟩
  · exact absurd e0 h1
  · have z3 : c + 6 + 3 = c + 9 := by omega
    have z4 : c + 6 + 4 = c + 10 := by omega
    have z5 : c + 6 + 5 = c + 11 := by omega
    have z1 : c + 6 + 1 = c + 7 := by omega
    refine c_result h3 hl (fun j hj => by rw [z1, hE j hj]; exact hi j) hD ?_ ?_ ?_ ?_ (fun G' g' => ?_)
    · rw [z3, g _ _ (by omega)]; exact p0
    · rw [z3, z4, g _ _ (by omega), g _ _ (by omega)]; exact p1
    · rw [z4, g _ _ (by omega)]; omega
    · rw [z3, z5, g _ _ (by omega), show (fun k => G1 (c + 11) k) = fun k => G (c + 11) k from funext fun k => g _ _ (by omega)]; exact pA
    · rw [z1, hD.ext (fb := E) (fun j hj => hE j hj)]
      exact c_X1_bounded (hD.inr (fun j _ => hi j)) hm (h G' (fun q k q1 q2 => by rw [g' _ _ (by omega), g _ _ q1]))
theorem c_X1_waking {b w t : Int} (hc : Bs 1 c) (hb : Bs 8 b) (hw : 0 ≤ w ∧ w < 5) (hk : SitOk G (c + 13 + w)) (hL : LawsR G H c r fs) (h : ∀ G', EvC c G G' → Q (wakV G c fs w t (G (b + 7) (G (c + 13 + w) 1)) (G (b + 4) w)) G') : Ct (d + 2) M_X1_waking NT 0 0 (some lay) [(2, c), (2, b), (0, w), (0, t)] G Q := by
  have h3 := (ly_1_5 hc).2.2
  have h7 := (el_1_0 hc hw.1 hw.2).2.2
  have k0 := hk.1
  have k5 := hk.2.2.2.2.2.1
  have z2 : c + 6 + 2 = c + 8 := by omega
  have hi : G (c + 8) 0 = 0 ∨ G (c + 8) 0 = 1 := by
    rcases hL.2 0 (by omega) (by omega) with x | x
    · exact Or.inl x.1
    · exact Or.inr x.1
  have rfl' : EvC c G G := fun _ _ _ _ => rfl
  refine ctof (s_X1_waking_0 hc hb ⟨hw, by omega, fun c1 => c_X3_isTold h3 (by omega) (by rw [z2]; omega) (fun q => ⟨by omega, fun _ => ?_, fun x => absurd (show (1 : Int) ≠ 0 by decide) x⟩) (fun q => ⟨by omega, fun x => absurd rfl x, fun _ => ?_⟩), fun c1 => ?_⟩)
  · rw [z2] at q
    unfold wakV at h
    rw [if_neg c1, if_neg q] at h
    exact c_X1_setSleeper hc hb hw hk (fun G1 g1 g2 => c_law hc (by omega) hL q g1 (fun j hj => g2 0 0 0 j (by unfold allw at hj; omega)) (ev_in _ _ _ _ _ _ _ _) (by omega) h)
  · rw [z2] at q
    unfold wakV at h
    rw [if_neg c1, if_pos q] at h
    exact c_X7_deep h7 (by omega) (by omega) (h G rfl')
  · unfold wakV at h
    rw [if_pos (Decidable.not_not.mp c1)] at h
    exact h G rfl'
theorem c_X1_spilling {b w t sd : Int} (hc : Bs 1 c) (hb : Bs 8 b) (hw : 0 ≤ w ∧ w < 5) (hk : SitOk G (c + 13 + w)) (hL : LawsR G H c r fs) (h : ∀ G', EvC c G G' → Q (spiV G c fs w t sd (G (b + 7) (G (c + 13 + w) 1)) (G (b + 4) w)) G') : Ct (d + 2) M_X1_spilling NT 0 0 (some lay) [(2, c), (2, b), (0, w), (0, t), (0, sd)] G Q := by
  have h3 := (ly_1_5 hc).2.2
  have z1 : c + 6 + 1 = c + 7 := by omega
  have z2 : c + 6 + 2 = c + 8 := by omega
  have hi : G (c + 8) 1 = 0 ∨ G (c + 8) 1 = 1 := by
    rcases hL.2 1 (by omega) (by omega) with x | x
    · exact Or.inl x.1
    · exact Or.inr x.1
  have rfl' : EvC c G G := fun _ _ _ _ => rfl
  refine ctof (s_X1_spilling_0 hc hb (c_X3_isTold h3 (by omega) (by rw [z2]; omega) (fun q => ⟨by omega, fun _ => ?_, fun x => absurd (show (1 : Int) ≠ 0 by decide) x⟩) (fun q => ⟨by omega, fun x => absurd rfl x, fun _ => ?_⟩)))
  · rw [z2] at q
    unfold spiV at h
    rw [if_neg q] at h
    refine c_X1_setSleeper hc hb hw hk (fun G1 g1 g2 => c_X3_setFact h3 (by omega) (c_X3_setFact h3 (by omega) (c_law hc (by omega) hL q (fun q k hq => ?_) (fun j hj => ?_) (ev_in _ _ _ _ _ _ _ _) (by omega) h)))
    · rw [z1, st_nq _ _ _ _ hq, st_nq _ _ _ _ hq, g1 _ _ hq]
    · have hj := allw_rng hj
      rw [z1, g1 c 9 (by omega)]
      simp only [Int.reduceSub]
      rcases (by omega : j = 3 ∨ j = 6 ∨ j = 0 ∨ j = 1 ∨ j = 2 ∨ j = 4 ∨ j = 5 ∨ j = 7) with rfl | rfl | x
      · rw [st_nk _ _ _ (by decide), st_same]; simp [ev]
      · rw [st_same]; simp [ev]
      · rw [st_nk _ _ _ (by omega), st_nk _ _ _ (by omega)]
        exact g2 _ _ _ j (by rename_i hj0; unfold allw at hj0; omega)
  · rw [z2] at q
    unfold spiV at h
    rw [if_pos q] at h
    exact h G rfl'
theorem c_X1_away {t ou : Int} (hc : Bs 1 c) (hL : LawsR G H c r fs) (h : ∀ G', EvC c G G' → Q (1 + queV G c fs t ou) G') : Ct (d + 2) M_X1_away NT 0 0 (some lay) [(2, c), (0, t), (0, ou)] G Q := by
  have h3 := (ly_1_5 hc).2.2
  have z1 : c + 6 + 1 = c + 7 := by omega
  have z2 : c + 6 + 2 = c + 8 := by omega
  have hi : G (c + 8) 2 = 0 ∨ G (c + 8) 2 = 1 := by
    rcases hL.2 2 (by omega) (by omega) with x | x
    · exact Or.inl x.1
    · exact Or.inr x.1
  have rfl' : EvC c G G := fun _ _ _ _ => rfl
  refine ctof (s_X1_away_0 hc (c_X3_isTold h3 (by omega) (by rw [z2]; omega) (fun q => ⟨by omega, fun _ => ?_, fun x => absurd (show (1 : Int) ≠ 0 by decide) x⟩) (fun q => ⟨by omega, fun x => absurd rfl x, fun _ => ?_⟩)))
  · rw [z2] at q
    unfold queV at h
    rw [if_neg q] at h
    refine c_X3_setFact h3 (by omega) (c_X3_setFact h3 (by omega) (c_law hc (by omega) hL q (fun q k hq => ?_) (fun j hj => ?_) (ev_in _ _ _ _ _ _ _ _) (by omega) h))
    · rw [z1, st_nq _ _ _ _ hq, st_nq _ _ _ _ hq]
    · rw [z1]
      simp only [Int.reduceSub]
      unfold allw at hj
      rcases (by omega : j = 4 ∨ j = 7) with rfl | rfl
      · rw [st_nk _ _ _ (by decide), st_same]; simp [ev]
      · rw [st_same]; simp [ev]
  · rw [z2] at q
    unfold queV at h
    rw [if_pos q] at h
    exact h G rfl'
/-! the model's -/
theorem fcode_s : fcode 0 = 2 ∧ fcode 1 = 3 ∧ fcode 2 = 4 ∧ fcode 3 = 6 ∧ fcode 4 = 1 ∧ fcode 5 = 5 ∧ fcode 6 = 7 ∧ fcode 7 = 8 := by decide
theorem c_mlaw {l : Int} {E : Int → Int} (hl : 0 ≤ l ∧ l < 3) (hL : LawsR S G c 0 fs) (h1 : S (c + 8) l ≠ 0) {G1 : Mem} (g : ∀ q k : Int, q ≠ 341 → G1 q k = G q k) (hE : ∀ j, allw l j → G1 341 (fcode j) = E j) (hi : ∀ j, InR (E j)) {m : Int} (hm : 0 ≤ m ∧ m ≤ 10) {K : Int → Mem → Prop} (h : ∀ G', EvM G G' → K (max 0 (min m (fs l E))) G') :
    Ct (d + 2) M_X12_worked NT 0 0 (some lay) [(2, 311), (0, l)] G1 (fun v G2 => Ct (d + 2) M_X12_between NT 0 0 (some lay) [(0, v), (0, 0), (0, m)] G2 K) := by
  rcases hL.2 l hl.1 hl.2 with ⟨e0, -⟩ | ⟨e1, ts, ps, hD, -, -, -, -, p0, p1, p2, pA⟩
  · exact absurd e0 h1
  · have z : 3 * 0 + l = l := by omega
    rw [z] at p0 p1 p2 pA
    refine c_worked (by omega) (fun j hj => by rw [hE j hj]; exact hi j) hD ?_ ?_ ?_ ?_ (fun G' g' => ?_)
    · rw [g _ _ (by omega)]; omega
    · rw [g _ _ (by omega), g _ _ (by omega)]; exact p1
    · rw [g _ _ (by omega)]; omega
    · rw [g _ _ (by omega), show (fun k => G1 329 k) = fun k => G 329 k from funext fun k => g _ _ (by omega)]; exact pA
    · rw [hD.ext (fb := E) (fun j hj => hE j hj)]
      have iv := hD.inr (fun j (_ : allw l j) => hi j)
      exact c_between iv (by omega) (by omega) (by omega) (h G' (fun q k hq => by rw [g' _ _ (by omega), g _ _ (by omega)]))
theorem c_facts {p t cp ak : Int} (hR : Cu S G c) (hp : 0 ≤ p ∧ p < S c 8) (h : ∀ G', (∀ q k : Int, q ≠ 341 → G' q k = G q k) → (∀ gp sd ou j, (j = 0 ∨ j = 1 ∨ j = 2 ∨ j = 4 ∨ j = 5) → G' 341 (fcode j) = ev t (deepf S (c + 13 + p)) (legsf S (c + 13 + p)) cp ak gp sd ou j) → Q 0 G') : Ct (d + 1) M_X12_facts NT 0 0 (some lay) [(2, 311), (0, p), (0, t), (0, cp), (0, ak)] G Q := by
  have cu : ∀ G1 : Mem, (∀ q k : Int, q ≠ 341 → G1 q k = G q k) → Cu S G1 c := fun G1 g => hR.ext (EvM.cor (fun q k hq => g q k (by omega)))
  refine ctof (s_X12_facts_0 (fun G1 e1 => ?_))
  have g1 : ∀ q k : Int, q ≠ 341 → G1 q k = G q k := fun q k hq => by rw [e1, st_nq _ _ _ _ hq]
  refine c_depthOf (cu G1 g1) hp (fun G4 e4 => ?_)
  have g4 : ∀ q k : Int, q ≠ 341 → G4 q k = G q k := fun q k hq => by rw [e4, st_nq _ _ _ _ hq]; exact g1 q k hq
  refine c_legsOf (cu G4 g4) hp (fun G7 e7 G8 e8 G9 e9 => h G9 (fun q k hq => ?_) (fun gp sd ou j hj => ?_))
  · rw [e9, st_nq _ _ _ _ hq, e8, st_nq _ _ _ _ hq, e7, st_nq _ _ _ _ hq]; exact g4 q k hq
  · obtain ⟨f0, f1, f2, -, f4, f5, -⟩ := fcode_s
    rcases hj with rfl | rfl | rfl | rfl | rfl
    · rw [f0, e9, st_nk _ _ _ (by decide), e8, st_nk _ _ _ (by decide), e7, st_nk _ _ _ (by decide), e4, st_same]; simp [ev]
    · rw [f1, e9, st_nk _ _ _ (by decide), e8, st_nk _ _ _ (by decide), e7, st_same]; simp [ev]
    · rw [f2, e9, st_nk _ _ _ (by decide), e8, st_same]; simp [ev]
    · rw [f4, e9, st_nk _ _ _ (by decide), e8, st_nk _ _ _ (by decide), e7, st_nk _ _ _ (by decide), e4, st_nk _ _ _ (by decide), e1, st_same]; simp [ev]
    · rw [f5, e9, st_same]; simp [ev]
theorem told_m {l : Int} (hl : 0 ≤ l ∧ l < 3) (hL : LawsR S G c 0 fs) : InR (G 327 l) ∧ InR (G 328 l) ∧ (G 328 l = G 327 l ↔ S (c + 8) l = 0) := by
  have z : 3 * 0 + l = l := by omega
  rcases hL.2 l hl.1 hl.2 with ⟨e0, e1, e2⟩ | ⟨e1, ts, ps, hD, -, -, -, -, p0, p1, p2, pA⟩
  · rw [z] at e1 e2
    omega
  · have := hD.ne
    rw [z] at p0 p1 p2
    omega
theorem c_wakingBy {w t cp ak : Int} (hR : Cu S G c) (hw : 0 ≤ w ∧ w < S c 8) (hL : LawsR S G c 0 fs) (h : ∀ G', EvM G G' → Q (wakV S c fs w t cp ak) G') : Ct (d + 3) M_X12_wakingBy NT 0 0 (some lay) [(2, 311), (0, w), (0, t), (0, cp), (0, ak)] G Q := by
  have e := (hR.sit hw.1 hw.2).1
  have k0 := (hR.sok hw.1 hw.2).1
  have r := hR.rng
  obtain ⟨i1, i2, i3⟩ := told_m (l := 0) (by omega) hL
  refine ctof (s_X12_wakingBy_0 ⟨by omega, by omega, fun c1 => ⟨i2, i1, fun c2 => ?_, fun c2 => ?_⟩, fun c1 => ?_⟩)
  · have q : S (c + 8) 0 ≠ 0 := fun x => c2 (i3.mpr x)
    unfold wakV at h
    rw [if_neg (by omega), if_neg q] at h
    exact c_facts hR hw (fun G1 g1 g2 => c_mlaw (by omega) hL q g1 (fun j hj => g2 0 0 0 j (by unfold allw at hj; omega)) (ev_in _ _ _ _ _ _ _ _) (by omega) h)
  · have q : S (c + 8) 0 = 0 := i3.mp (Decidable.not_not.mp c2)
    unfold wakV at h
    rw [if_neg (by omega), if_pos q] at h
    exact c_depthOf hR hw (h G (fun _ _ _ => rfl))
  · unfold wakV at h
    rw [if_pos (by omega)] at h
    exact h G (fun _ _ _ => rfl)
theorem c_waking {w t : Int} (hR : Cu S G c) (hw : 0 ≤ w ∧ w < S c 8) (hL : LawsR S G c 0 fs) (h : ∀ G', EvM G G' → Q (wakV S c fs w t (S 80 (S (c + 13 + w) 1)) (S 77 w)) G') : Ct (d + 4) M_X12_waking NT 0 0 (some lay) [(2, 311), (0, w), (0, t)] G Q := by
  have r := hR.rng
  have e := (hR.sit hw.1 hw.2).2.1
  have k1 := (hR.sok hw.1 hw.2).2.1
  have q := (hR.row hw.1 hw.2).2.2.2.1
  have cu := hR.cup (i := S (c + 13 + w) 1) k1.1 k1.2
  refine ctof (s_X12_waking_0 ⟨by omega, by omega, by omega, c_wakingBy hR hw hL ?_⟩)
  rw [q, e, cu]
  exact h
theorem c_spilling {w t sd : Int} (hR : Cu S G c) (hw : 0 ≤ w ∧ w < S c 8) (hL : LawsR S G c 0 fs) (h : ∀ G', EvM G G' → Q (spiV S c fs w t sd (S 80 (S (c + 13 + w) 1)) (S 77 w)) G') : Ct (d + 3) M_X12_spilling NT 0 0 (some lay) [(2, 311), (0, w), (0, sd), (0, t)] G Q := by
  have r := hR.rng
  have s := hR.seats
  have e := (hR.sit hw.1 hw.2).2.1
  have k1 := (hR.sok hw.1 hw.2).2.1
  have q := (hR.row hw.1 hw.2).2.2.2.1
  have cu := hR.cup (i := S (c + 13 + w) 1) k1.1 k1.2
  obtain ⟨i1, i2, i3⟩ := told_m (l := 1) (by omega) hL
  refine ctof (s_X12_spilling_0 ⟨i2, i1, fun c2 => ⟨by omega, by omega, by omega, c_facts hR hw (fun G1 g1 g2 G9 e9 G10 e10 => ?_)⟩, fun c2 => ?_⟩)
  · have x : S (c + 8) 1 ≠ 0 := fun x => c2 (i3.mpr x)
    unfold spiV at h
    rw [if_neg x] at h
    rw [g1 313 2 (by omega), s.2.2.1] at e9
    rw [q, e, cu] at g2
    refine c_mlaw (by omega) hL x (fun q k hq => ?_) (fun j hj => ?_) (ev_in _ _ _ _ _ _ _ _) (by omega) h
    · rw [e10, st_nq _ _ _ _ hq, e9, st_nq _ _ _ _ hq]; exact g1 q k hq
    · obtain ⟨f0, f1, f2, f3, f4, f5, f6, f7⟩ := fcode_s
      unfold allw at hj
      rcases (by omega : j = 3 ∨ j = 6 ∨ (j = 0 ∨ j = 1 ∨ j = 2 ∨ j = 4 ∨ j = 5)) with rfl | rfl | hj
      · rw [f3, e10, st_nk _ _ _ (by decide), e9, st_same]; simp [ev]
      · rw [f6, e10, st_same]; simp [ev]
      · rw [e10, st_nk _ _ _ (by rcases hj with rfl | rfl | rfl | rfl | rfl <;> decide), e9, st_nk _ _ _ (by rcases hj with rfl | rfl | rfl | rfl | rfl <;> decide)]
        exact g2 _ _ _ j hj
  · have x : S (c + 8) 1 = 0 := i3.mp (Decidable.not_not.mp c2)
    unfold spiV at h
    rw [if_pos x] at h
    exact h G (fun _ _ _ => rfl)
theorem c_queueAt {t ou : Int} (hL : LawsR S G c 0 fs) (h : ∀ G', EvM G G' → Q (queV S c fs t ou) G') : Ct (d + 3) M_X12_queueAt NT 0 0 (some lay) [(2, 311), (0, t), (0, ou)] G Q := by
  obtain ⟨i1, i2, i3⟩ := told_m (l := 2) (by omega) hL
  refine ctof (s_X12_queueAt_0 ⟨i2, i1, fun c2 G4 e4 G5 e5 => ?_, fun c2 => ?_⟩)
  · have x : S (c + 8) 2 ≠ 0 := fun x => c2 (i3.mpr x)
    unfold queV at h
    rw [if_neg x] at h
    refine c_mlaw (by omega) hL x (fun q k hq => ?_) (fun j hj => ?_) (ev_in _ _ _ _ _ _ _ _) (by omega) h
    · rw [e5, st_nq _ _ _ _ hq, e4, st_nq _ _ _ _ hq]
    · obtain ⟨f0, f1, f2, f3, f4, f5, f6, f7⟩ := fcode_s
      unfold allw at hj
      rcases (by omega : j = 4 ∨ j = 7) with rfl | rfl
      · rw [f4, e5, st_nk _ _ _ (by decide), e4, st_same]; simp [ev]
      · rw [f7, e5, st_same]; simp [ev]
  · have x : S (c + 8) 2 = 0 := i3.mp (Decidable.not_not.mp c2)
    unfold queV at h
    rw [if_pos x] at h
    exact h G (fun _ _ _ => rfl)
theorem wakV_in {w t cp ak : Int} (hR : Cu S G c) (hw : 0 ≤ w ∧ w < S c 8) : 0 ≤ wakV S c fs w t cp ak ∧ wakV S c fs w t cp ak ≤ 10 := by
  have k := hR.sok hw.1 hw.2
  have k5 := k.2.2.2.2.2.1
  unfold wakV deepf
  have : 0 ≤ (S (c + 13 + w) 5).tdiv 2 ∧ (S (c + 13 + w) 5).tdiv 2 ≤ 9 := by rw [Int.tdiv_eq_ediv_of_nonneg k5.1]; omega
  repeat' split
  all_goals omega
theorem spiV_in {w t sd cp ak : Int} (hs : 0 ≤ sd ∧ sd ≤ 1) : 0 ≤ spiV S c fs w t sd cp ak ∧ spiV S c fs w t sd cp ak ≤ 10 := by
  unfold spiV
  split <;> omega
theorem queV_in {t ou : Int} : 0 ≤ queV S c fs t ou ∧ queV S c fs t ou ≤ 9 := by
  unfold queV
  split <;> omega
end LAWVALS
