section LIVESB
variable {d : Nat} {S S' T T' G G' H : Mem} {Q : Int → Mem → Prop} {c : Int} {fs : Int → Law} {bw bv bl th : Int}
theorem HM.put22 {w : Int} (h : HM S c bw bv bl th T G) : HM S c bw bv bl th (st T 22 w 0) (st G 352 w (-1)) := by
  obtain ⟨h1, h2, h3, h4, h5⟩ := h
  have t : ∀ q k : Int, q ≠ 22 → st T 22 w 0 q k = T q k := fun q k a => st_nq _ _ _ _ a
  have m : ∀ q k : Int, q ≠ 352 → st G 352 w (-1) q k = G q k := fun q k a => st_nq _ _ _ _ a
  refine ⟨fun p p0 p1 => ?_, ?_, ?_, fun s s0 s1 => ?_, fun x p p0 p1 => ?_⟩
  · obtain ⟨r1, r2, r3, r4, r5, r6, r7⟩ := h1 p p0 p1
    rw [m 351 _ (by decide), m 353 _ (by decide), m 354 _ (by decide), m 355 _ (by decide), m 356 _ (by decide), m 357 _ (by decide), t 21 _ (by decide), t 20 _ (by decide), t 23 _ (by decide), t 24 _ (by decide), t 19 _ (by decide), t 28 _ (by decide), t 29 _ (by decide), t 26 _ (by decide)]
    refine ⟨r1, ?_, r3, r4, r5, r6, r7⟩
    by_cases hp : p = w
    · subst hp; rw [st_same, st_same]; exact Or.inl ⟨rfl, rfl⟩
    · rw [st_nk _ _ _ hp, st_nk _ _ _ hp]; exact r2
  · rw [m 311 _ (by decide), m 311 _ (by decide), m 311 _ (by decide), t 20 _ (by decide), t 20 _ (by decide), t 20 _ (by decide)]; exact h2
  · rw [m 311 _ (by decide), m 311 _ (by decide), m 311 _ (by decide), t 19 _ (by decide), t 19 _ (by decide)]; exact h3
  · rw [m 350 _ (by decide), m 349 _ (by decide), t 31 _ (by decide)]; exact h4 s s0 s1
  · rw [t 19 _ (by decide)] at x
    rw [m 349 _ (by decide)]
    exact h5 x p p0 p1
theorem HM.lv {w : Int} (hT : TOk S c T) (hw : 0 ≤ w ∧ w < S c 8) (h : HM S c bw bv bl th T G) : HM S c bw bv bl th (lvT S c fs T w) (st (st (st G 352 w (T 20 7 + 1 + queV S c fs (T 20 7) (outsf T 20 (S c 8).toNat))) 351 w 0) 355 w (G 355 w + 1)) := by
  have qv := queV_in (S := S) (c := c) (fs := fs) (t := T 20 7) (ou := outsf T 20 (S c 8).toNat)
  unfold lvT
  generalize queV S c fs (T 20 7) (outsf T 20 (S c 8).toNat) = qq at *
  obtain ⟨h1, h2, h3, h4, h5⟩ := h
  have t : ∀ q k : Int, q ≠ 22 → q ≠ 21 → q ≠ 28 → st (st (st T 22 w (1 + qq)) 21 w 0) 28 w (T 28 w + 1) q k = T q k := fun q k a b e => by rw [st_nq _ _ _ _ e, st_nq _ _ _ _ b, st_nq _ _ _ _ a]
  have m : ∀ q k : Int, q ≠ 352 → q ≠ 351 → q ≠ 355 → st (st (st G 352 w (T 20 7 + 1 + qq)) 351 w 0) 355 w (G 355 w + 1) q k = G q k := fun q k a b e => by rw [st_nq _ _ _ _ e, st_nq _ _ _ _ b, st_nq _ _ _ _ a]
  refine ⟨fun p p0 p1 => ?_, ?_, ?_, fun s s0 s1 => ?_, fun x p p0 p1 => ?_⟩
  · obtain ⟨r1, r2, r3, r4, r5, r6, r7⟩ := h1 p p0 p1
    rw [m 353 _ (by decide) (by decide) (by decide), m 354 _ (by decide) (by decide) (by decide), m 356 _ (by decide) (by decide) (by decide), m 357 _ (by decide) (by decide) (by decide), t 20 _ (by decide) (by decide) (by decide), t 23 _ (by decide) (by decide) (by decide), t 24 _ (by decide) (by decide) (by decide), t 19 _ (by decide) (by decide) (by decide), t 29 _ (by decide) (by decide) (by decide), t 26 _ (by decide) (by decide) (by decide)]
    by_cases hp : p = w
    · subst hp
      refine ⟨?_, Or.inr (Or.inr ⟨?_, ?_⟩), r3, r4, ?_, r6, r7⟩
      · rw [st_nq _ _ _ _ (by decide), st_same, st_nq _ _ _ _ (by decide), st_same]
      · rw [st_nq _ _ _ _ (by decide), st_nq _ _ _ _ (by decide), st_same]; omega
      · rw [st_nq _ _ _ _ (by decide), st_nq _ _ _ _ (by decide), st_same, st_nq _ _ _ _ (by decide), st_nq _ _ _ _ (by decide), st_same]; omega
      · rw [st_same, st_same, r5]
    · refine ⟨?_, ?_, r3, r4, ?_, r6, r7⟩
      · rw [st_nk _ _ _ hp, st_nk _ _ _ hp, st_nk _ _ _ hp, st_nk _ _ _ hp, st_nk _ _ _ hp, st_nk _ _ _ hp]; exact r1
      · rw [st_nk _ _ _ hp, st_nk _ _ _ hp, st_nk _ _ _ hp, st_nk _ _ _ hp, st_nk _ _ _ hp, st_nk _ _ _ hp]; exact r2
      · rw [st_nk _ _ _ hp, st_nk _ _ _ hp, st_nk _ _ _ hp, st_nk _ _ _ hp, st_nk _ _ _ hp, st_nk _ _ _ hp]; exact r5
  · rw [m 311 _ (by decide) (by decide) (by decide), m 311 _ (by decide) (by decide) (by decide), m 311 _ (by decide) (by decide) (by decide), t 20 _ (by decide) (by decide) (by decide), t 20 _ (by decide) (by decide) (by decide), t 20 _ (by decide) (by decide) (by decide)]; exact h2
  · rw [m 311 _ (by decide) (by decide) (by decide), m 311 _ (by decide) (by decide) (by decide), m 311 _ (by decide) (by decide) (by decide), t 19 _ (by decide) (by decide) (by decide), t 19 _ (by decide) (by decide) (by decide)]; exact h3
  · rw [m 350 _ (by decide) (by decide) (by decide), m 349 _ (by decide) (by decide) (by decide), t 31 _ (by decide) (by decide) (by decide)]; exact h4 s s0 s1
  · rw [t 19 _ (by decide) (by decide) (by decide)] at x
    rw [m 349 _ (by decide) (by decide) (by decide)]
    exact h5 x p p0 p1
theorem c_outsNow (hR : Cu S G c) (hT : TOk S c T) (hM : HM S c bw bv bl th T G) (h : Q (outsf T 20 (S c 8).toNat) G) : Ct d M_X12_outsNow NT 0 0 (some lay) [(2, 311)] G Q := by
  have r := hR.rng
  have se := hR.seats
  refine ctof (s_X12_outsNow_0 ?_)
  have key : ∀ (k i : Nat), (i : Int) + k = S c 8 → Rn d M_X12_outsNow zN 4 [(0, (2, 311)), (1, (0, outsf T 20 i)), (2, (0, (i : Int)))] [] G Q := by
    intro k
    induction k with
    | zero =>
      intro i hi
      refine s_X12_outsNow_4 ⟨by omega, by omega, fun _ => ?_, fun c1 => absurd (by omega) c1⟩
      rw [show i = (S c 8).toNat by omega]; exact h
    | succ k ih =>
      intro i hi
      have m2 := (hM.1 (i : Int) (by omega) (by omega)).2.1
      have ro := hT.rw' (i := (i : Int)) (by omega) (by omega)
      have tb := hT.1.1
      have h2 := ih (i + 1) (by omega)
      simp only [outsf, show (20 : Int) + 2 = 22 from rfl] at h2
      refine s_X12_outsNow_4 ⟨by omega, by omega, fun c1 => by omega, fun c1 => ⟨by omega, by omega, fun c2 => ?_, fun c2 => ?_⟩⟩
      · rw [if_pos (by omega)] at h2; exact h2
      · rw [if_neg (by omega)] at h2; exact h2
  exact key (S c 8).toNat 0 (by omega)
theorem c_livesTick (hR : Cu S G c) (hL : LawsR S G c 0 fs) (hT : TOk S c T) (ht : T 20 7 < S c 7) (hth : InR th) (hM : HM S c bw bv bl th T G) (h : ∀ G2, HmF G G2 → HM S c bw bv bl th (tkT S c fs th T) G2 → Q 0 G2) : Ct (d + 6) M_X12_livesTick NT 0 0 (some lay) [(2, 311), (0, T 20 7)] G Q := by
  have r := hR.rng
  have se := hR.seats
  have tb := hT.1.1
  have sok := fun i (i0 : 0 ≤ i) (i1 : i < S c 8) => hR.sok i0 i1
  -- the needs grow
  have L188 : ∀ (T2 G2 : Mem), HmF G G2 → TOk S c T2 → HM S c bw bv bl th T2 G2 → T2 20 7 = T 20 7 → tkT S c fs th T = psT S c th T2 → Rn (d + 6) M_X12_livesTick zN 188 [(0, (2, 311)), (1, (0, T 20 7)), (2, (0, 0))] [] G2 Q := by
    intro T2 G2 f2 ok2 h2 t2 e
    have key : ∀ (m i : Nat) (G3 : Mem), (i : Int) + m = S c 8 → HmF G2 G3 → (∀ q k : Int, ¬ (q = 351 ∨ q = 357) → ¬ (q = 311 ∧ k = 65) → G3 q k = G2 q k) → G3 311 65 = bl + T2 20 11 + lteT S T2 c th i → (∀ j, 0 ≤ j → j < (i : Int) → G3 351 j = nneT S T2 c th j ∧ G3 357 j = T2 26 j + nlaT S T2 c th j) → (∀ j, (i : Int) ≤ j → G3 351 j = G2 351 j ∧ G3 357 j = G2 357 j) → Rn (d + 6) M_X12_livesTick zN 188 [(0, (2, 311)), (1, (0, T 20 7)), (2, (0, (i : Int)))] [] G3 Q := by
      intro m
      induction m with
      | zero =>
        intro i G3 hi f3 o3 l3 n3 k3
        have e8 : G3 313 8 = S c 8 := by rw [o3 _ _ (by omega) (by omega), f2 _ _ (by omega) (by omega) (by omega)]; exact se.2.2.2.2
        refine s_X12_livesTick_188 ⟨by omega, by omega, fun _ => h G3 (f2.tr f3) ?_, fun x => absurd (by omega) x⟩
        rw [e]
        obtain ⟨h1, h2', h3, h4, h5⟩ := h2
        refine ⟨fun p p0 p1 => ?_, ?_, ?_, fun s s0 s1 => ?_, fun x p p0 p1 => ?_⟩
        · obtain ⟨r1, r2, r3, r4, r5, r6, r7⟩ := h1 p p0 p1
          obtain ⟨y1, y2⟩ := n3 p p0 (by omega)
          have t21 : psT S c th T2 21 p = nneT S T2 c th p := by rw [psT_at]; simp [p0, p1]
          have t22 : psT S c th T2 22 p = nouT T2 p := by rw [psT_at]; simp [p0, p1]
          have t26 : psT S c th T2 26 p = T2 26 p + nlaT S T2 c th p := by rw [psT_at]; simp [p0, p1]
          have t23 : psT S c th T2 23 p = T2 23 p := by rw [psT_at]; simp
          have t24 : psT S c th T2 24 p = T2 24 p := by rw [psT_at]; simp
          have t28 : psT S c th T2 28 p = T2 28 p := by rw [psT_at]; simp
          have t29 : psT S c th T2 29 p = T2 29 p := by rw [psT_at]; simp
          have t11 : psT S c th T2 19 11 = T2 19 11 := by rw [psT_at]; simp
          have t7 : psT S c th T2 20 7 = T2 20 7 + 1 := by rw [psT_at]; simp
          rw [t21, t22, t26, t23, t24, t28, t29, t11, t7, o3 352 _ (by omega) (by omega), o3 353 _ (by omega) (by omega), o3 354 _ (by omega) (by omega), o3 355 _ (by omega) (by omega), o3 356 _ (by omega) (by omega)]
          refine ⟨y1, ?_, r3, r4, r5, r6, y2⟩
          unfold nouT
          repeat' split
          all_goals omega
        · have t8 : psT S c th T2 20 8 = T2 20 8 := by rw [psT_at]; simp
          have t9 : psT S c th T2 20 9 = T2 20 9 := by rw [psT_at]; simp
          have t1 : psT S c th T2 20 11 = T2 20 11 + lteT S T2 c th (S c 8).toNat := by rw [psT_at]; simp
          rw [t8, t9, t1, o3 311 63 (by omega) (by omega), o3 311 64 (by omega) (by omega), l3, show i = (S c 8).toNat by omega]
          exact ⟨h2'.1, h2'.2.1, by omega⟩
        · have t11 : psT S c th T2 19 11 = T2 19 11 := by rw [psT_at]; simp
          have t12 : psT S c th T2 19 12 = T2 19 12 := by rw [psT_at]; simp
          rw [t11, t12, o3 311 67 (by omega) (by omega), o3 311 68 (by omega) (by omega), o3 311 66 (by omega) (by omega)]
          exact h3
        · have t31 : psT S c th T2 31 s = T2 31 s := by rw [psT_at]; simp
          rw [t31, o3 350 _ (by omega) (by omega), o3 349 _ (by omega) (by omega)]
          exact h4 s s0 s1
        · have t11 : psT S c th T2 19 11 = T2 19 11 := by rw [psT_at]; simp
          rw [t11] at x
          rw [o3 349 _ (by omega) (by omega)]
          exact h5 x p p0 p1
      | succ m ih =>
        intro i G3 hi f3 o3 l3 n3 k3
        have e8 : G3 313 8 = S c 8 := by rw [o3 _ _ (by omega) (by omega), f2 _ _ (by omega) (by omega) (by omega)]; exact se.2.2.2.2
        obtain ⟨r1, r2, r3, r4, r5, r6, r7⟩ := h2.1 (i : Int) (by omega) (by omega)
        have ro := ok2.rw' (i := (i : Int)) (by omega) (by omega)
        have s1 := sok (i : Int) (by omega) (by omega)
        have k3' : 1 ≤ S (c + 13 + (i : Int)) 3 ∧ S (c + 13 + (i : Int)) 3 ≤ 99 := s1.2.2.2.1
        have k2 := s1.2.2.1
        have k0 := s1.1
        have sit := hR.sit (i := (i : Int)) (by omega) (by omega)
        obtain ⟨b1, b2⟩ := k3 (i : Int) (by omega)
        have a52 : G3 352 (i : Int) = G2 352 (i : Int) := o3 _ _ (by omega) (by omega)
        have c15 : G3 315 (i : Int) = S (c + 13 + (i : Int)) 0 := by rw [o3 _ _ (by omega) (by omega), f2 _ _ (by omega) (by omega) (by omega)]; exact sit.1
        have c17 : G3 317 (i : Int) = S (c + 13 + (i : Int)) 2 := by rw [o3 _ _ (by omega) (by omega), f2 _ _ (by omega) (by omega) (by omega)]; exact sit.2.2.1
        have c18 : G3 318 (i : Int) = S (c + 13 + (i : Int)) 3 := by rw [o3 _ _ (by omega) (by omega), f2 _ _ (by omega) (by omega) (by omega)]; exact sit.2.2.2.1
        have c66 : G3 311 66 = th := by rw [o3 _ _ (by omega) (by omega)]; exact h2.2.2.1.2.2
        -- what is written at i, and no more
        have nxt : ∀ G4 : Mem, HmF G3 G4 → (∀ q k : Int, ¬ (q = 351 ∧ k = (i : Int)) → ¬ (q = 357 ∧ k = (i : Int)) → ¬ (q = 311 ∧ k = 65) → G4 q k = G3 q k) → G4 351 (i : Int) = nneT S T2 c th i → G4 357 (i : Int) = T2 26 (i : Int) + nlaT S T2 c th i → G4 311 65 = bl + T2 20 11 + lteT S T2 c th i + nlaT S T2 c th i → Rn (d + 6) M_X12_livesTick zN 188 [(0, (2, 311)), (1, (0, T 20 7)), (2, (0, (i : Int) + 1))] [] G4 Q := by
          intro G4 f4 o4 v1 v2 v3
          refine ih (i + 1) G4 (by omega) (f3.tr f4) (fun q k a b => ?_) (by rw [v3, show lteT S T2 c th (i + 1) = lteT S T2 c th i + nlaT S T2 c th i from rfl]; omega) (fun j j0 j1 => ?_) (fun j j0 => ?_)
          · rw [o4 q k (by omega) (by omega) b]; exact o3 q k a b
          · by_cases hj : j = (i : Int)
            · subst hj; exact ⟨v1, v2⟩
            · rw [o4 351 j (by omega) (by omega) (by omega), o4 357 j (by omega) (by omega) (by omega)]
              exact n3 j j0 (by omega)
          · rw [o4 351 j (by omega) (by omega) (by omega), o4 357 j (by omega) (by omega) (by omega)]
            exact k3 j (by omega)
        refine s_X12_livesTick_188 ⟨by omega, by omega, fun x => absurd x (by omega), fun _ => ⟨by omega, by omega, by omega, fun x => ⟨by omega, by rw [c66]; exact hth, ?_⟩, fun x => ?_⟩⟩
        · rw [a52] at x
          have out0 : T2 22 (i : Int) ≤ 0 := by omega
          rw [c66, c17]
          have L231 : ∀ y : Int, y = (if (i : Int) = th then 1 else 0) → Rn (d + 6) M_X12_livesTick zN 231 [(0, (2, 311)), (1, (0, T 20 7)), (2, (0, (i : Int)))] [(0, y), (0, S (c + 13 + (i : Int)) 2)] G3 Q := by
            intro y hy
            have y01 : 0 ≤ y ∧ y ≤ 1 := by rw [hy]; split <;> omega
            have gd := grow_bd s1 (m := y) y01
            have nn : nneT S T2 c th i = min 199 (T2 21 (i : Int) + grow S (c + 13 + (i : Int)) y) := by unfold nneT; rw [if_pos out0, hy]
            have L264 : ∀ u : Int, u = grow S (c + 13 + (i : Int)) y → Rn (d + 6) M_X12_livesTick zN 264 [(0, (2, 311)), (1, (0, T 20 7)), (2, (0, (i : Int)))] [(0, u), (0, T2 21 (i : Int)), (0, 199), (0, (i : Int)), (2, 351)] G3 Q := by
              intro u hu
              refine s_X12_livesTick_264 ⟨by omega, by omega, by omega, fun G4 e4 => ⟨by omega, by omega, ?_⟩⟩
              rw [hu, ← nn] at e4
              have v1 : G4 351 (i : Int) = nneT S T2 c th i := by rw [e4, st_same]
              have d18 : G4 318 (i : Int) = S (c + 13 + (i : Int)) 3 := by rw [e4, st_nq _ _ _ _ (by decide)]; exact c18
              have d57 : G4 357 (i : Int) = T2 26 (i : Int) := by rw [e4, st_nq _ _ _ _ (by decide), b2]; exact r7
              have nl : nlaT S T2 c th i = if S (c + 13 + (i : Int)) 3 < nneT S T2 c th i then 1 else 0 := rfl
              rw [v1, d18, d57]
              refine ⟨by omega, by omega, fun z G10 e10 G11 e11 => ?_, fun z => ?_⟩
              · rw [if_pos z] at nl
                have d65 : G10 311 65 = bl + T2 20 11 + lteT S T2 c th i := by rw [e10, st_nq _ _ _ _ (by decide), e4, st_nq _ _ _ _ (by decide)]; exact l3
                rw [d65] at e11
                refine nxt G11 ?_ (fun q k a b e => ?_) ?_ ?_ ?_
                · rw [e11, e10, e4]
                  exact ((HmF.put (by omega)).tr (HmF.put (by omega))).tr (HmF.put11 (by omega))
                · rw [e11, st_ne _ _ e, e10, st_ne _ _ b, e4, st_ne _ _ a]
                · rw [e11, st_nq _ _ _ _ (by decide), e10, st_nq _ _ _ _ (by decide)]; exact v1
                · rw [e11, st_nq _ _ _ _ (by decide), e10, st_same, nl]
                · rw [e11, st_same, nl]
              · rw [if_neg z] at nl
                refine nxt G4 (by rw [e4]; exact HmF.put (by omega)) (fun q k a b e => by rw [e4, st_ne _ _ a]) v1 (by rw [d57, nl]; omega) ?_
                rw [e4, st_nq _ _ _ _ (by decide), l3, nl]; omega
            refine s_X12_livesTick_231 ⟨by omega, by omega, by omega, fun z => ?_, fun z => ?_⟩
            · rw [b1, r1]
              refine L264 _ ?_
              unfold grow
              rw [if_neg (by omega), Int.mul_one]
            · rw [b1, r1]
              refine L264 _ ?_
              unfold grow
              rw [if_pos (by omega)]; omega
          exact ⟨fun y => L231 0 (by rw [if_neg y]), fun y => L231 1 (by rw [if_pos (Decidable.not_not.mp y)])⟩
        · rw [a52] at x
          have nn : nneT S T2 c th i = T2 21 (i : Int) := by unfold nneT; rw [if_neg (by omega)]
          have nl : nlaT S T2 c th i = 0 := by unfold nlaT; rw [nn, if_neg (by omega)]
          refine nxt G3 HmF.rfl' (fun _ _ _ _ _ => rfl) (by rw [nn, b1]; exact r1) (by rw [nl, b2, r7]; omega) (by rw [l3, nl]; omega)
    exact key (S c 8).toNat 0 G2 (by omega) HmF.rfl' (fun _ _ _ _ => rfl) (by rw [h2.2.1.2.2]; simp [lteT]) (fun j j0 j1 => by omega) (fun j _ => ⟨rfl, rfl⟩)
  -- the goings
  have L75 : ∀ (k : Nat) (T2 G2 : Mem), (k : Int) ≤ S c 6 → HmF G G2 → TOk S c T2 → HM S c bw bv bl th T2 G2 → T2 20 7 = T 20 7 → tkT S c fs th T = psT S c th (if clsd S c (T 20 7) then T2 else gos S c fs k T2) → Rn (d + 6) M_X12_livesTick zN 75 [(0, (2, 311)), (1, (0, T 20 7)), (2, (0, (k : Int) - 1))] [] G2 Q := by
    intro k
    induction k with
    | zero =>
      intro T2 G2 hk f2 ok2 h2 t2 e
      refine s_X12_livesTick_75 ⟨by omega, fun _ => L188 T2 G2 f2 ok2 h2 t2 ?_, fun x => absurd (by omega) x⟩
      rw [e]
      split <;> rfl
    | succ k ih =>
      intro T2 G2 hk f2 ok2 h2 t2 e
      have hR2 := hR.ext f2.cor
      have hL2 := hL.ext f2.cor
      have on := ok2.2.2.1 (k : Int) (by omega) (by omega)
      have a50 := (h2.2.2.2.1 (k : Int) (by omega) (by omega)).1
      have skip : (clsd S c (T 20 7) ∨ goT S c fs T2 k = T2) → Rn (d + 6) M_X12_livesTick zN 75 [(0, (2, 311)), (1, (0, T 20 7)), (2, (0, (k : Int) + (-1)))] [] G2 Q := by
        intro hx
        have y := ih T2 G2 (by omega) f2 ok2 h2 t2 (by
          rw [e]
          rcases hx with hx | hx
          · rw [if_pos hx, if_pos hx]
          · show psT S c th (if clsd S c (T 20 7) then T2 else gos S c fs k (goT S c fs T2 k)) = _
            rw [hx])
        rw [show (k : Int) + (-1) = (k : Int) - 1 by omega]
        exact y
      rw [show ((k + 1 : Nat) : Int) - 1 = (k : Int) by omega]
      refine s_X12_livesTick_75 ⟨by omega, fun x => absurd x (by omega), fun _ => ⟨by omega, ?_⟩⟩
      rw [a50]
      refine ⟨by omega, fun x => skip (Or.inr (by unfold goT; rw [if_pos (Or.inl (by omega))])), fun x => ⟨by omega, ?_⟩⟩
      have hw : 0 ≤ T2 31 (k : Int) ∧ T2 31 (k : Int) < S c 8 := by omega
      obtain ⟨r1, r2, r3, r4, r5, r6, r7⟩ := h2.1 _ hw.1 hw.2
      have ro := ok2.rw' (i := T2 31 (k : Int)) hw.1 (by omega)
      refine ⟨by omega, fun x2 => skip (Or.inr (by unfold goT; rw [if_pos (Or.inr (Or.inl (by omega)))])), fun x2 => ?_⟩
      rw [← t2]
      refine c_sleepsAt hR2 ok2 h2 hw (fun a => ?_) (fun a => ?_)
      · rw [t2]
        exact ⟨by omega, fun _ => skip (Or.inr (by unfold goT; rw [if_pos (Or.inr (Or.inr (Or.inr a)))])), fun z => absurd (show (1 : Int) ≠ 0 by decide) z⟩
      rw [t2]
      refine ⟨by omega, fun z => absurd rfl z, fun _ => ⟨by omega, ?_⟩⟩
      have g19 : G2 319 (T2 31 (k : Int)) = S (c + 13 + T2 31 (k : Int)) 4 := by rw [f2 _ _ (by omega) (by omega) (by omega)]; exact (hR.sit hw.1 hw.2).2.2.2.2.1
      have gk := (sok _ hw.1 hw.2).2.2.2.2.1
      rw [r1, g19]
      refine ⟨by omega, by omega, fun x3 => skip (Or.inr (by unfold goT; rw [if_pos (Or.inr (Or.inr (Or.inl x3)))])), fun x3 => c_isShut hR2 (by omega) (fun s => ⟨by omega, fun _ => skip (Or.inl s), fun z => absurd (show (1 : Int) ≠ 0 by decide) z⟩) (fun s => ⟨by omega, fun z => absurd rfl z, fun _ => ?_⟩)⟩
      have ng : ¬ (T2 31 (k : Int) = -1 ∨ T2 22 (T2 31 (k : Int)) ≠ 0 ∨ T2 21 (T2 31 (k : Int)) < S (c + 13 + T2 31 (k : Int)) 4 ∨ aslT S T2 c (T2 31 (k : Int))) := fun z => by
        rcases z with z | z | z | z
        · omega
        · omega
        · exact x3 z
        · exact a z
      obtain ⟨b1, b2, b3, b4, b5⟩ := hgL_ok (fs := fs) (f := fun i => (k : Int) + 1 + i) (S c 6 - 1 - (k : Int)).toNat 0 T2 ok2
      have a01 := hgA_01 (S := S) (c := c) (fs := fs) (f := fun i => (k : Int) + 1 + i) (S c 6 - 1 - (k : Int)).toNat 0 T2
      obtain ⟨gk1, gk2, gk3, gk4⟩ := goT_ok (fs := fs) (p := (k : Int)) ok2
      have gdef : goT S c fs T2 k = if hgA S c fs (fun i => (k : Int) + 1 + i) (S c 6 - 1 - (k : Int)).toNat 0 T2 = 0 then hgL S c fs (fun i => (k : Int) + 1 + i) (S c 6 - 1 - (k : Int)).toNat 0 T2 else lvT S c fs (hgL S c fs (fun i => (k : Int) + 1 + i) (S c 6 - 1 - (k : Int)).toNat 0 T2) (T2 31 (k : Int)) := by unfold goT; rw [if_neg ng]
      have go : ∀ G4, HmF G G4 → HM S c bw bv bl th (goT S c fs T2 k) G4 → Rn (d + 6) M_X12_livesTick zN 75 [(0, (2, 311)), (1, (0, T 20 7)), (2, (0, (k : Int) + (-1)))] [] G4 Q := by
        intro G4 f4 h4
        have y := ih (goT S c fs T2 k) G4 (by omega) f4 gk1 h4 (gk2.trans t2) (by rw [e, if_neg s, if_neg s]; rfl)
        rw [show (k : Int) + (-1) = (k : Int) - 1 by omega]
        exact y
      rw [← t2]
      refine c_rousesAll hR2 hL2 ok2 h2 (s := (k : Int)) (by omega) rfl hw.1 (Or.inl rfl) (f := fun i => (k : Int) + 1 + i) (by funext i; rw [if_pos rfl]) (fun G4 f4 h4 => ?_)
      generalize hX : hgL S c fs (fun i => (k : Int) + 1 + i) (S c 6 - 1 - (k : Int)).toNat 0 T2 = X at *
      have f24 := f2.tr f4
      rw [t2]
      refine ⟨by omega, fun z => ?_, fun z => ?_⟩
      · rw [if_neg z] at gdef
        refine c_outsNow (hR.ext f24.cor) b1 h4 (c_queueAt (hL.ext f24.cor) (fun G5 f5 G6 e6 G7 e7 G8 e8 => ?_))
        have w5 : G7 355 (T2 31 (k : Int)) = G4 355 (T2 31 (k : Int)) := by rw [e7, st_nq _ _ _ _ (by decide), e6, st_nq _ _ _ _ (by decide), f5 _ _ (by omega)]
        rw [w5] at e8
        have lv := HM.lv (fs := fs) b1 hw (h4.ev f5)
        rw [f5 355 _ (by omega), b2, t2] at lv
        refine go G8 (f24.tr (f5.hm.tr ?_)) ?_
        · rw [e8, e7, e6]
          exact ((HmF.put (by omega)).tr (HmF.put (by omega))).tr (HmF.put (by omega))
        · rw [gdef, e8, e7, e6]
          exact lv
      · rw [if_pos (Decidable.not_not.mp z)] at gdef
        exact go G4 f24 (by rw [gdef]; exact h4)
  -- the comings back
  have L9 : ∀ (k : Nat) (T2 G2 : Mem), (k : Int) ≤ S c 6 → HmF G G2 → TOk S c T2 → HM S c bw bv bl th T2 G2 → T2 20 7 = T 20 7 → cbs S c fs (S c 6).toNat T = cbs S c fs k T2 → Rn (d + 6) M_X12_livesTick zN 9 [(0, (2, 311)), (1, (0, T 20 7)), (2, (0, (k : Int) - 1))] [] G2 Q := by
    intro k
    induction k with
    | zero =>
      intro T2 G2 hk f2 ok2 h2 t2 e
      have e : cbs S c fs (S c 6).toNat T = T2 := e
      have q6 : G2 313 0 = S c 6 := by rw [f2 _ _ (by omega) (by omega) (by omega)]; exact se.1
      refine s_X12_livesTick_9 ⟨by omega, fun _ => ?_, fun x => absurd (by omega) x⟩
      rw [q6]
      have y := L75 (S c 6).toNat T2 G2 (by omega) f2 ok2 h2 t2 (by unfold tkT; rw [e])
      rw [show ((S c 6).toNat : Int) = S c 6 by omega] at y
      exact y
    | succ k ih =>
      intro T2 G2 hk f2 ok2 h2 t2 e
      have hR2 := hR.ext f2.cor
      have hL2 := hL.ext f2.cor
      have on := ok2.2.2.1 (k : Int) (by omega) (by omega)
      have a50 := (h2.2.2.2.1 (k : Int) (by omega) (by omega)).1
      obtain ⟨gk1, gk2, gk3, gk4⟩ := cbT_ok (fs := fs) (p := (k : Int)) ok2
      have go : ∀ G4, HmF G G4 → HM S c bw bv bl th (cbT S c fs T2 k) G4 → Rn (d + 6) M_X12_livesTick zN 9 [(0, (2, 311)), (1, (0, T 20 7)), (2, (0, (k : Int) + (-1)))] [] G4 Q := by
        intro G4 f4 h4
        have y := ih (cbT S c fs T2 k) G4 (by omega) f4 gk1 h4 (gk2.trans t2) (by rw [e]; rfl)
        rw [show (k : Int) + (-1) = (k : Int) - 1 by omega]
        exact y
      have skip : cbT S c fs T2 k = T2 → Rn (d + 6) M_X12_livesTick zN 9 [(0, (2, 311)), (1, (0, T 20 7)), (2, (0, (k : Int) + (-1)))] [] G2 Q := fun hx => go G2 f2 (by rw [hx]; exact h2)
      rw [show ((k + 1 : Nat) : Int) - 1 = (k : Int) by omega]
      refine s_X12_livesTick_9 ⟨by omega, fun x => absurd x (by omega), fun _ => ⟨by omega, ?_⟩⟩
      rw [a50]
      refine ⟨by omega, fun x => skip (by unfold cbT; rw [if_pos (Or.inl (by omega))]), fun x => ⟨by omega, ?_⟩⟩
      have hw : 0 ≤ T2 31 (k : Int) ∧ T2 31 (k : Int) < S c 8 := by omega
      obtain ⟨r1, r2, r3, r4, r5, r6, r7⟩ := h2.1 _ hw.1 hw.2
      have ro := ok2.rw' (i := T2 31 (k : Int)) hw.1 (by omega)
      refine ⟨by omega, fun x2 => skip (by unfold cbT; rw [if_pos (Or.inr (by omega))]), fun x2 => ⟨by omega, fun x3 => skip (by unfold cbT; rw [if_pos (Or.inr (by omega))]), fun x3 => ?_⟩⟩
      have ng : ¬ (T2 31 (k : Int) = -1 ∨ T2 22 (T2 31 (k : Int)) ≠ -1) := fun z => by
        rcases z with z | z
        · omega
        · omega
      have a01 := hgA_01 (S := S) (c := c) (fs := fs) (f := fun i => S c 6 - 1 - i) (S c 6 - 1 - (k : Int)).toNat 0 T2
      have gdef : cbT S c fs T2 k = if hgA S c fs (fun i => S c 6 - 1 - i) (S c 6 - 1 - (k : Int)).toNat 0 T2 = 0 then hgL S c fs (fun i => S c 6 - 1 - i) (S c 6 - 1 - (k : Int)).toNat 0 T2 else st (hgL S c fs (fun i => S c 6 - 1 - i) (S c 6 - 1 - (k : Int)).toNat 0 T2) 22 (T2 31 (k : Int)) 0 := by unfold cbT; rw [if_neg ng]
      rw [← t2]
      refine c_rousesAll hR2 hL2 ok2 h2 (s := (k : Int)) (by omega) rfl hw.1 (Or.inr rfl) (f := fun i => S c 6 - 1 - i) (by funext i; rw [if_neg (by decide)]) (fun G4 f4 h4 => ?_)
      rw [t2]
      refine ⟨by omega, fun z => ?_, fun z G15 e15 => ?_⟩
      · rw [if_pos z] at gdef
        exact go G4 (f2.tr f4) (by rw [gdef]; exact h4)
      · rw [if_neg z] at gdef
        exact go G15 ((f2.tr f4).tr (by rw [e15]; exact HmF.put (by omega))) (by rw [gdef, e15]; exact h4.put22)
  refine ctof (s_X12_livesTick_0 ?_)
  rw [se.1]
  have y := L9 (S c 6).toNat T G (by omega) HmF.rfl' hT hM rfl rfl
  rw [show ((S c 6).toNat : Int) = S c 6 by omega] at y
  exact y
end LIVESB
