section FLIGHTS
variable {d : Nat} {S S' T T' G G' H : Mem} {Q : Int → Mem → Prop} {c : Int} {fs : Int → Law} {bw bv bl th : Int}
theorem tksT_ok (hC : ∀ i, 0 ≤ i → i < S c 8 → SitOk S (c + 13 + i)) : ∀ (m : Nat) (T : Mem), TOk S c T → T 20 7 + m ≤ 72 → TOk S c (tksT S c fs th m T) ∧ tksT S c fs th m T 20 7 = T 20 7 + m ∧ (∀ s, tksT S c fs th m T 31 s = T 31 s) ∧ tksT S c fs th m T 19 11 = T 19 11 := by
  intro m
  induction m with
  | zero => intro T h _; exact ⟨h, by show T 20 7 = _; omega, fun _ => rfl, rfl⟩
  | succ m ih =>
    intro T h ht
    have tk : ∀ X, TOk S c X → X 20 7 = T 20 7 → (∀ s, X 31 s = T 31 s) → X 19 11 = T 19 11 → tkT S c fs th T = psT S c th X → TOk S c (tksT S c fs th (m + 1) T) ∧ tksT S c fs th (m + 1) T 20 7 = T 20 7 + (m + 1 : Nat) ∧ (∀ s, tksT S c fs th (m + 1) T 31 s = T 31 s) ∧ tksT S c fs th (m + 1) T 19 11 = T 19 11 := by
      intro X okX x7 x31 x11 e
      obtain ⟨p1, p2, p3, p4⟩ := psT_ok (th := th) hC okX (by omega)
      obtain ⟨q1, q2, q3, q4⟩ := ih (psT S c th X) p1 (by omega)
      unfold tksT
      rw [e]
      exact ⟨q1, by omega, fun s => by rw [q3, p3, x31], by rw [q4, p4, x11]⟩
    obtain ⟨a1, a2, a3, a4⟩ := cbs_ok (fs := fs) (S c 6).toNat T h
    obtain ⟨b1, b2, b3, b4⟩ := gos_ok (fs := fs) (S c 6).toNat _ a1
    by_cases hc : clsd S c (T 20 7)
    · exact tk _ a1 a2 a3 a4 (by unfold tkT; rw [if_pos hc])
    · exact tk _ b1 (b2.trans a2) (fun s => (b3 s).trans (a3 s)) (b4.trans a4) (by unfold tkT; rw [if_neg hc])
theorem tksT_cnt (hs : S c 6 ≤ 5) (hm : 0 ≤ S c 8 ∧ S c 8 ≤ 5) : ∀ (m : Nat) (T : Mem) (a b : Int), Cnt T a b → Cnt (tksT S c fs th m T) (a + 40 * m) (b + 5 * m) := by
  intro m
  induction m with
  | zero => intro T a b h; exact h.le (by omega) (by omega)
  | succ m ih =>
    intro T a b h
    have x := cbs_cnt (fs := fs) hs (S c 6).toNat T a h
    have y := gos_cnt (fs := fs) hs (S c 6).toNat _ _ x
    have z : Cnt (tkT S c fs th T) (a + 40) (b + 5) := by
      unfold tkT
      split
      · exact (psT_cnt (th := th) hm x).le (by omega) (Int.le_refl _)
      · exact (psT_cnt (th := th) hm y).le (by omega) (Int.le_refl _)
    have w := ih _ _ _ z
    exact w.le (by omega) (by omega)
/-- what a flight by habits comes to -/
def FlOk (S : Mem) (c : Int) (T : Mem) : Prop := (∀ s, 0 ≤ s → s < S c 6 → T 31 s = -1 ∨ (0 ≤ T 31 s ∧ T 31 s < S c 8)) ∧ (T 19 11 = 1 → 0 ≤ T 19 12 ∧ T 19 12 < 2147483648) ∧ (T 19 11 = 0 ∨ T 19 11 = 1)
theorem flyT_ok (hR : Cu S G c) (h : FlOk S c T) : TOk S c (flyT S c fs th T) ∧ Cnt (flyT S c fs th T) 2880 360 ∧ (∀ s, flyT S c fs th T 31 s = T 31 s) ∧ flyT S c fs th T 19 11 = T 19 11 := by
  have r := hR.rng
  have cupS := hR.2.1.2.2.2.2.2.2.2.1
  obtain ⟨ok0, cn0, t0⟩ := bgT_ok (S := S) (c := c) (T := T) cupS h.1 h.2.1 h.2.2
  have b31 : ∀ s, bgT S c T 31 s = T 31 s := fun s => by unfold bgT; simp
  have b11 : bgT S c T 19 11 = T 19 11 := by unfold bgT; simp
  obtain ⟨k1, k2, k3, k4⟩ := tksT_ok (fs := fs) (th := th) (fun i i0 i1 => hR.sok i0 i1) (S c 7).toNat _ ok0 (by omega)
  have cn := tksT_cnt (fs := fs) (th := th) (by omega) r.2.2.1 (S c 7).toNat _ _ _ cn0
  unfold flyT
  exact ⟨k1, cn.le (by omega) (by omega), fun s => (k3 s).trans (b31 s), k4.trans b11⟩
theorem c_livesFlight (hR : Cu S G c) (hL : LawsR S G c 0 fs) (hT : FlOk S c T) (hth : InR th) (hs : HMs S c T G) (hw : G 311 63 = bw ∧ G 311 64 = bv ∧ G 311 65 = bl) (hg : G 311 67 = T 19 11 ∧ (T 19 11 = 1 → G 311 68 = T 19 12) ∧ G 311 66 = th) (h : ∀ G2, HmF G G2 → HM S c bw bv bl th (flyT S c fs th T) G2 → Q 0 G2) : Ct (d + 7) M_X12_livesFlight NT 0 0 (some lay) [(2, 311)] G Q := by
  have r := hR.rng
  have se := hR.seats
  have cupS := hR.2.1.2.2.2.2.2.2.2.1
  obtain ⟨ok0, cn0, t0⟩ := bgT_ok (S := S) (c := c) (T := T) cupS hT.1 hT.2.1 hT.2.2
  unfold flyT at h
  have L64 : ∀ (m : Nat) (T1 G1 : Mem), T1 20 7 + m = S c 7 → HmF G G1 → TOk S c T1 → HM S c bw bv bl th T1 G1 → (∀ G2, HmF G G2 → HM S c bw bv bl th (tksT S c fs th m T1) G2 → Q 0 G2) → Rn (d + 7) M_X12_livesFlight zN 64 [(0, (2, 311)), (1, (0, T1 20 7))] [] G1 Q := by
    intro m
    induction m with
    | zero =>
      intro T1 G1 hm f1 ok1 h1 hq
      have e7 : G1 313 1 = S c 7 := by rw [f1 _ _ (by omega) (by omega) (by omega)]; exact se.2.1
      exact s_X12_livesFlight_64 ⟨by have := ok1.1.1; omega, by omega, fun _ => hq G1 f1 h1, fun x => absurd (by omega) x⟩
    | succ m ih =>
      intro T1 G1 hm f1 ok1 h1 hq
      have e7 : G1 313 1 = S c 7 := by rw [f1 _ _ (by omega) (by omega) (by omega)]; exact se.2.1
      have tb := ok1.1.1
      unfold tksT at hq
      have t1 := (tksT_ok (fs := fs) (th := th) (fun i i0 i1 => hR.sok i0 i1) 1 T1 ok1 (by omega))
      have t1' : TOk S c (tkT S c fs th T1) ∧ tkT S c fs th T1 20 7 = T1 20 7 + 1 := ⟨t1.1, t1.2.1⟩
      refine s_X12_livesFlight_64 ⟨by omega, by omega, fun x => absurd x (by omega), fun _ => c_livesTick (hR.ext f1.cor) (hL.ext f1.cor) ok1 (by omega) hth h1 (fun G2 f2 h2 => ?_)⟩
      have y := ih (tkT S c fs th T1) G2 (by omega) (f1.tr f2) t1'.1 h2 hq
      rw [t1'.2] at y
      exact y
  have key : ∀ (m : Nat) (i : Int) (G1 : Mem), i + m = 5 → 0 ≤ i → HmF G G1 → (∀ q k : Int, ¬ (351 ≤ q ∧ q ≤ 357) → G1 q k = G q k) → (∀ p, 0 ≤ p → p < i → G1 351 p = 0 ∧ G1 352 p = -1 ∧ G1 353 p = -1 ∧ G1 354 p = 0 ∧ G1 355 p = 0 ∧ G1 356 p = 0 ∧ G1 357 p = 0) → Rn (d + 7) M_X12_livesFlight zN 2 [(0, (2, 311)), (1, (0, i))] [] G1 Q := by
    intro m
    induction m with
    | zero =>
      intro i G1 hi i0 f1 o1 z1
      refine s_X12_livesFlight_2 ⟨by omega, fun _ => ?_, fun x => absurd (by omega) x⟩
      have hM : HM S c bw bv bl th (bgT S c T) G1 := by
        have b31 : ∀ s, bgT S c T 31 s = T 31 s := fun s => by unfold bgT; simp
        have b11 : bgT S c T 19 11 = T 19 11 := by unfold bgT; simp
        have b12 : bgT S c T 19 12 = T 19 12 := by unfold bgT; simp
        refine ⟨fun p p0 p1 => ?_, ?_, ?_, fun s s0 s1 => ?_, fun x p p0 p1 => ?_⟩
        · obtain ⟨z1, z2, z3, z4, z5, z6, z7⟩ := z1 p p0 (by omega)
          rw [z1, z2, z3, z4, z5, z6, z7]
          unfold bgT
          simp
        · rw [o1 311 _ (by omega), o1 311 _ (by omega), o1 311 _ (by omega)]
          unfold bgT
          simp
          exact hw
        · rw [o1 311 _ (by omega), o1 311 _ (by omega), o1 311 _ (by omega), b11, b12]; exact hg
        · rw [o1 350 _ (by omega), o1 349 _ (by omega), b31]; exact hs.1 s s0 s1
        · rw [b11] at x
          rw [o1 349 _ (by omega)]; exact hs.2 x p p0 p1
      have y := L64 (S c 7).toNat (bgT S c T) G1 (by rw [t0]; omega) f1 ok0 hM h
      rw [t0] at y
      exact y
    | succ m ih =>
      intro i G1 hi i0 f1 o1 z1
      refine s_X12_livesFlight_2 ⟨by omega, fun x => absurd x (by omega), fun _ => ⟨by omega, fun G4 e4 G5 e5 G6 e6 G7 e7 G8 e8 G9 e9 G10 e10 => ih (i + 1) G10 (by omega) (by omega) (f1.tr ?_) (fun q k a => ?_) (fun p p0 p1 => ?_)⟩⟩
      · rw [e10, e9, e8, e7, e6, e5, e4]
        exact ((((((HmF.put (by omega)).tr (HmF.put (by omega))).tr (HmF.put (by omega))).tr (HmF.put (by omega))).tr (HmF.put (by omega))).tr (HmF.put (by omega))).tr (HmF.put (by omega))
      · rw [e10, st_nq _ _ _ _ (by omega), e9, st_nq _ _ _ _ (by omega), e8, st_nq _ _ _ _ (by omega), e7, st_nq _ _ _ _ (by omega), e6, st_nq _ _ _ _ (by omega), e5, st_nq _ _ _ _ (by omega), e4, st_nq _ _ _ _ (by omega)]
        exact o1 q k a
      · by_cases hp : p = i
        · subst hp
          subst e10 e9 e8 e7 e6 e5 e4
          refine ⟨?_, ?_, ?_, ?_, ?_, ?_, ?_⟩ <;> simp (disch := decide) only [st_nq, st_same]
        · subst e10 e9 e8 e7 e6 e5 e4
          simp only [st_nk _ _ _ hp]
          exact z1 p p0 (by omega)
  exact ctof (s_X12_livesFlight_0 (key 5 0 G (by omega) (by omega) HmF.rfl' (fun _ _ _ => rfl) (fun p a b => by omega)))
def penT (S : Mem) (c : Int) (T : Mem) : Int := S (c + 5) 0 * T 20 8 + S (c + 5) 2 * T 20 11
theorem c_pence_M (hR : Cu S G c) (hL : LawsR S G c 0 fs) (hT : FlOk S c T) (hd : T 19 11 = 0) (hth : InR th) (hs : HMs S c T G) (hg : G 311 67 = 0 ∧ G 311 66 = th) (h : ∀ G2, HmF G G2 → HM S c 0 (G 311 64) 0 th (flyT S c fs th T) G2 → Q (penT S c (flyT S c fs th T)) G2) : Ct (d + 8) M_X12_pence NT 0 0 (some lay) [(2, 311)] G Q := by
  have p0 := (hR.price (k := 0) (by omega) (by omega)).1
  have p2 := (hR.price (k := 2) (by omega) (by omega)).1
  simp only [Int.add_zero, Int.reduceAdd] at p0 p2
  refine ctof (s_X12_pence_0 (fun G1 e1 G2 e2 => ?_))
  have f2 : HmF G G2 := by rw [e2, e1]; exact (HmF.put11 (by omega)).tr (HmF.put11 (by omega))
  have o2 : ∀ q k : Int, ¬ (q = 311 ∧ (k = 63 ∨ k = 65)) → G2 q k = G q k := fun q k a => by rw [e2, st_ne _ _ (by omega), e1, st_ne _ _ (by omega)]
  refine c_livesFlight (bw := 0) (bv := G 311 64) (bl := 0) (hR.ext f2.cor) (hL.ext f2.cor) hT hth ⟨fun s s0 s1 => ?_, fun x => by omega⟩ ⟨?_, o2 _ _ (by omega), by rw [e2, st_same]⟩ ⟨by rw [o2 _ _ (by omega), hd]; exact hg.1, fun x => by omega, by rw [o2 _ _ (by omega)]; exact hg.2⟩ (fun G3 f3 h3 => ?_)
  · rw [o2 350 _ (by omega), o2 349 _ (by omega)]; exact hs.1 s s0 s1
  · rw [e2, st_nk _ _ _ (by decide), e1, st_same]
  · have f23 := f2.tr f3
    rw [h3.2.1.1, h3.2.1.2.2, f23 313 3 (by omega) (by omega) (by omega), f23 313 5 (by omega) (by omega) (by omega), p0, p2, Int.zero_add, Int.zero_add]
    exact h G3 f23 h3
/-- all on their seats as told -/
def SaF (G G' : Mem) : Prop := ∀ q k : Int, q ≠ 349 → q ≠ 350 → ¬ (q = 311 ∧ (k = 66 ∨ k = 67)) → G' q k = G q k
theorem SaF.cor (h : SaF G G') : CorM G G' := fun q k hq => h q k (by omega) (by omega) (by omega)
theorem SaF.ml (h : SaF G G') : MlF G G' := ⟨fun q k a b => h q k (by omega) (by omega) (by omega), fun q k a => h q k (by omega) (by omega) (by omega)⟩
theorem c_seatsAll (hR : Cu S G c) (h : ∀ G2, SaF G G2 → (∀ s, 0 ≤ s → s < 5 → G2 350 s = S (c + 2) s) → (∀ p, 0 ≤ p → p < S c 8 → G2 349 p = S (c + 13 + p) 1) → G2 311 66 = -1 → G2 311 67 = 0 → Q 0 G2) : Ct d M_X12_seatsAll NT 0 0 (some lay) [(2, 311)] G Q := by
  have r := hR.rng
  have se := hR.seats
  have L22 : ∀ (m i : Nat) (G1 : Mem), (i : Int) + m = S c 8 → (∀ q k : Int, q ≠ 349 → q ≠ 350 → G1 q k = G q k) → (∀ s, 0 ≤ s → s < 5 → G1 350 s = if 0 ≤ S (c + 2) s ∧ S (c + 2) s < (i : Int) then S (c + 2) s else -1) → (∀ p, 0 ≤ p → p < (i : Int) → G1 349 p = S (c + 13 + p) 1) → Rn d M_X12_seatsAll zN 22 [(0, (2, 311)), (1, (0, (i : Int)))] [] G1 Q := by
    intro m
    induction m with
    | zero =>
      intro i G1 hi o1 a1 b1
      have e8 : G1 313 8 = S c 8 := by rw [o1 _ _ (by omega) (by omega)]; exact se.2.2.2.2
      refine s_X12_seatsAll_22 ⟨by omega, by omega, fun _ G4 e4 G5 e5 => h G5 (fun q k a b e => ?_) (fun s s0 s5 => ?_) (fun p p0 p1 => ?_) ?_ ?_, fun x => absurd (by omega) x⟩
      · rw [e5, st_ne _ _ (by omega), e4, st_ne _ _ (by omega)]; exact o1 q k a b
      · have on := hR.onw (q := s) ⟨s0, s5⟩
        rw [e5, st_nq _ _ _ _ (by decide), e4, st_nq _ _ _ _ (by decide), a1 s s0 s5]
        split <;> omega
      · rw [e5, st_nq _ _ _ _ (by decide), e4, st_nq _ _ _ _ (by decide)]; exact b1 p p0 (by omega)
      · rw [e5, st_nk _ _ _ (by decide), e4, st_same]
      · rw [e5, st_same]
    | succ m ih =>
      intro i G1 hi o1 a1 b1
      have e8 : G1 313 8 = S c 8 := by rw [o1 _ _ (by omega) (by omega)]; exact se.2.2.2.2
      have sit := (hR.sit (i := (i : Int)) (by omega) (by omega)).2.1
      have so := (hR.sok (i := (i : Int)) (by omega) (by omega)).2.1
      have seat := hR.seat (i := (i : Int)) (by omega) (by omega)
      have e16 : G1 316 (i : Int) = S (c + 13 + (i : Int)) 1 := by rw [o1 _ _ (by omega) (by omega)]; exact sit
      refine s_X12_seatsAll_22 ⟨by omega, by omega, fun x => absurd x (by omega), fun _ => ⟨by omega, by omega, fun G8 e8' => ?_⟩⟩
      have g16 : G8 316 (i : Int) = S (c + 13 + (i : Int)) 1 := by rw [e8', st_nq _ _ _ _ (by decide)]; exact e16
      rw [g16]
      refine ⟨by omega, fun G10 e10 => ih (i + 1) G10 (by omega) (fun q k a b => by rw [e10, st_nq _ _ _ _ b, e8', st_nq _ _ _ _ a]; exact o1 q k a b) (fun s s0 s5 => ?_) (fun p p0 p1 => ?_)⟩
      · have on := hR.on s0 s5
        rw [e10]
        by_cases hsi : s = S (c + 13 + (i : Int)) 1
        · subst hsi
          rw [st_same, seat.2, if_pos (by omega)]
        · rw [st_nk _ _ _ hsi, e8', st_nq _ _ _ _ (by decide), a1 s s0 s5]
          have ne : S (c + 2) s ≠ (i : Int) := fun y => by
            rcases on with on | on
            · omega
            · rw [y] at on; exact hsi on.2.2.symm
          by_cases y : 0 ≤ S (c + 2) s ∧ S (c + 2) s < (i : Int)
          · rw [if_pos y, if_pos (by omega)]
          · rw [if_neg y, if_neg (by omega)]
      · rw [e10, st_nq _ _ _ _ (by decide), e8']
        by_cases hp : p = (i : Int)
        · subst hp; rw [st_same]; exact e16
        · rw [st_nk _ _ _ hp]; exact b1 p p0 (by omega)
  have L2 : ∀ (m : Nat) (i : Int) (G1 : Mem), i + m = 5 → 0 ≤ i → (∀ q k : Int, q ≠ 349 → q ≠ 350 → G1 q k = G q k) → (∀ s, 0 ≤ s → s < i → G1 350 s = -1) → Rn d M_X12_seatsAll zN 2 [(0, (2, 311)), (1, (0, i))] [] G1 Q := by
    intro m
    induction m with
    | zero =>
      intro i G1 hi i0 o1 z1
      exact s_X12_seatsAll_2 ⟨by omega, fun _ => L22 (S c 8).toNat 0 G1 (by omega) o1 (fun s s0 s5 => by rw [z1 s s0 (by omega), if_neg (by omega)]) (fun p a b => by omega), fun x => absurd (by omega) x⟩
    | succ m ih =>
      intro i G1 hi i0 o1 z1
      refine s_X12_seatsAll_2 ⟨by omega, fun x => absurd x (by omega), fun _ => ⟨by omega, fun G4 e4 => ih (i + 1) G4 (by omega) (by omega) (fun q k a b => by rw [e4, st_nq _ _ _ _ b]; exact o1 q k a b) (fun s s0 s1 => ?_)⟩⟩
      by_cases hs : s = i
      · subst hs; rw [e4, st_same]
      · rw [e4, st_nk _ _ _ hs]; exact z1 s s0 (by omega)
  exact ctof (s_X12_seatsAll_0 (L2 5 0 G (by omega) (by omega) (fun _ _ _ _ => rfl) (fun s a b => by omega)))
end FLIGHTS
