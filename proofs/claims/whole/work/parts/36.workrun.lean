section WORKRUN
/-- the codes ts at level w come to v: as a part (at the end that pops nots), a product, a sum, a test, an E -/
def WFr (G0 G : Mem) : Prop := ∀ q k : Int, ¬ (332 ≤ q ∧ q ≤ 340) → G q k = G0 q k
def WLv (G G' : Mem) (w : Int) : Prop := ∀ q k : Int, 332 ≤ q → q ≤ 340 → k < w → G' q k = G q k
abbrev WRn (d : Nat) (Q : Int → Mem → Prop) (ln : Int) (G : Mem) (w k : Int) : Prop := Rn (d + 2) M_X12_worked zN 14 [(0, (2, 311)), (1, (0, ln)), (2, (0, w)), (3, (0, k))] [] G Q
def S4 (d : Nat) (Q : Int → Mem → Prop) (ln : Int) (G0 : Mem) (w : Nat) (ts : List Int) (v : Int) : Prop :=
  w ≤ 5 → ∀ (k : Int) (G : Mem), WFr G0 G → At (fun j => G0 329 j) k ts → 0 ≤ k → k + ts.length ≤ G0 328 ln → (∀ G' : Mem, WFr G0 G' → WLv G G' (w + 1) → Rn (d + 2) M_X12_worked zN 268 [(0, (2, 311)), (1, (0, ln)), (2, (0, (w : Int))), (3, (0, k + ts.length - 1)), (5, (0, v))] [] G' Q) → WRn d Q ln G w k
def S3 (d : Nat) (Q : Int → Mem → Prop) (ln : Int) (G0 : Mem) (w : Nat) (ts : List Int) (v : Int) : Prop :=
  w ≤ 5 → ∀ (k : Int) (G : Mem), WFr G0 G → At (fun j => G0 329 j) k ts → 0 ≤ k → k + ts.length ≤ G0 328 ln → (w = 0 ∨ G 340 w = 0) → G 339 w = 0 → (∀ G' : Mem, WFr G0 G' → WLv G G' w → (∀ q, 332 ≤ q → q ≤ 340 → q ≠ 338 → q ≠ 339 → G' q w = G q w) → G' 338 w = v → (G' 339 w = 0 ∨ G' 339 w = 22) → WRn d Q ln G' w (k + ts.length)) → WRn d Q ln G w k
def S2 (d : Nat) (Q : Int → Mem → Prop) (ln : Int) (G0 : Mem) (w : Nat) (ts : List Int) (v : Int) : Prop :=
  w ≤ 5 → ∀ (k : Int) (G : Mem), WFr G0 G → At (fun j => G0 329 j) k ts → 0 ≤ k → k + ts.length ≤ G0 328 ln → (w = 0 ∨ G 340 w = 0) → G 336 w = 0 → G 337 w = 20 → G 339 w = 0 → (∀ G' : Mem, WFr G0 G' → WLv G G' w → (∀ q, 332 ≤ q → q ≤ 340 → (q ≤ 335 ∨ q = 340) → G' q w = G q w) → (G' 337 w = 20 ∨ G' 337 w = 21) → sumV (G' 337 w) (G' 336 w) (G' 338 w) = v → WRn d Q ln G' w (k + ts.length)) → WRn d Q ln G w k
def S1 (d : Nat) (Q : Int → Mem → Prop) (ln : Int) (G0 : Mem) (w : Nat) (ts : List Int) (v : Int) : Prop :=
  w ≤ 5 → ∀ (k : Int) (G : Mem), WFr G0 G → At (fun j => G0 329 j) k ts → 0 ≤ k → k + ts.length ≤ G0 328 ln → (w = 0 ∨ G 340 w = 0) → G 335 w = 0 → G 336 w = 0 → G 337 w = 20 → G 339 w = 0 → (∀ G' : Mem, WFr G0 G' → WLv G G' w → (∀ q, (q = 332 ∨ q = 333 ∨ q = 340) → G' q w = G q w) → (G' 337 w = 20 ∨ G' 337 w = 21) → (G' 335 w = 0 ∨ G' 335 w = 24 ∨ G' 335 w = 25) → (G' 335 w ≠ 0 → InR (G' 334 w)) → tstV G' w = v → WRn d Q ln G' w (k + ts.length)) → WRn d Q ln G w k
def S0 (d : Nat) (Q : Int → Mem → Prop) (ln : Int) (G0 : Mem) (w : Nat) (ts : List Int) (v : Int) : Prop :=
  w ≤ 5 → ∀ (k : Int) (G : Mem), WFr G0 G → At (fun j => G0 329 j) k ts → 0 ≤ k → k + ts.length ≤ G0 328 ln → (w = 0 ∨ G 340 w = 0) → G 333 w = 0 → G 335 w = 0 → G 336 w = 0 → G 337 w = 20 → G 339 w = 0 → (∀ G' : Mem, WFr G0 G' → WLv G G' w → G' 340 w = G 340 w → (G' 337 w = 20 ∨ G' 337 w = 21) → (G' 335 w = 0 ∨ G' 335 w = 24 ∨ G' 335 w = 25) → (G' 335 w ≠ 0 → InR (G' 334 w)) → (G' 333 w = 0 ∨ G' 333 w = 26 ∨ G' 333 w = 27) → (G' 333 w ≠ 0 → InR (G' 332 w)) → keptV (G' 333 w) (G' 332 w) (tstV G' w) = v → WRn d Q ln G' w (k + ts.length)) → WRn d Q ln G w k
variable {d : Nat} {Q : Int → Mem → Prop}
theorem WLv.tr {G G1 G2 : Mem} {w : Int} (h1 : WLv G G1 w) (h2 : WLv G1 G2 w) : WLv G G2 w := fun q k a b c => (h2 q k a b c).trans (h1 q k a b c)
theorem WFr.st {G0 G : Mem} {q i v : Int} (h : WFr G0 G) (hq : 332 ≤ q ∧ q ≤ 340) : WFr G0 (st G q i v) := fun a b hab => by rw [st_nq _ _ _ _ (by omega)]; exact h a b hab
def WPD (d : Nat) (Q : Int → Mem → Prop) (ln : Int) (G0 : Mem) : DR := fun r w ts ps f => InR (f (fun j => G0 341 (fcode j))) ∧ (r = 4 → S4 d Q ln G0 w ts (f (fun j => G0 341 (fcode j)))) ∧ (r = 3 → S3 d Q ln G0 w ts (f (fun j => G0 341 (fcode j)))) ∧ (r = 2 → S2 d Q ln G0 w ts (f (fun j => G0 341 (fcode j)))) ∧ (r = 1 → S1 d Q ln G0 w ts (f (fun j => G0 341 (fcode j)))) ∧ (r = 0 → S0 d Q ln G0 w ts (f (fun j => G0 341 (fcode j))))
theorem worked_all {ln a : Int} {G0 : Mem} (hln : 0 ≤ ln ∧ ln < 18) (hT : G0 328 ln ≤ 6000) (hfa : ∀ j, allw a j → InR (G0 341 (fcode j))) {r w : Nat} {ts ps : List Int} {f : (Int → Int) → Int} (hD : Den a r w ts ps f) : WPD d Q ln G0 r w ts ps f := by
  -- the loop's head at a code
  have hd14 : ∀ (x : Int) (w k : Int) (G : Mem), WFr G0 G → 0 ≤ w → w < 7 → 0 ≤ k → k < G0 328 ln → G0 329 k = x → InR x →
      (x = 28 ∨ x = 30 → Rn (d + 2) M_X12_worked zN 46 [(0, (2, 311)), (1, (0, ln)), (2, (0, w)), (3, (0, k)), (4, (0, x))] [] G Q) →
      (x = 20 ∨ x = 21 → Rn (d + 2) M_X12_worked zN 89 [(0, (2, 311)), (1, (0, ln)), (2, (0, w)), (3, (0, k)), (4, (0, x))] [] G Q) →
      (x = 22 → WRn d Q ln (st G 339 w 22) w (k + 1)) →
      (x = 24 ∨ x = 25 → Rn (d + 2) M_X12_worked zN 137 [(0, (2, 311)), (1, (0, ln)), (2, (0, w)), (3, (0, k)), (4, (0, x))] [] G Q) →
      (x = 26 ∨ x = 27 → Rn (d + 2) M_X12_worked zN 194 [(0, (2, 311)), (1, (0, ln)), (2, (0, w)), (3, (0, k)), (4, (0, x))] [] G Q) →
      (x = 29 → Rn (d + 2) M_X12_worked zN 243 [(0, (2, 311)), (1, (0, ln)), (2, (0, w)), (3, (0, k)), (4, (0, x))] [(0, 0)] G Q) →
      (0 ≤ x ∧ x < 20 → Rn (d + 2) M_X12_worked zN 243 [(0, (2, 311)), (1, (0, ln)), (2, (0, w)), (3, (0, k)), (4, (0, x))] [(0, G0 341 x)] G Q) →
      (100 ≤ x → Rn (d + 2) M_X12_worked zN 243 [(0, (2, 311)), (1, (0, ln)), (2, (0, w)), (3, (0, k)), (4, (0, x))] [(0, x - 100)] G Q) → (x < 23 ∨ 24 ≤ x) → (x ≤ 30 ∨ 100 ≤ x) → 0 ≤ x → WRn d Q ln G w k := by
    intro x w k G hG w0 w7 k0 k1 hx ix b1 b2 b3 b4 b5 b6 b7 b8 z1 z2 z3
    have e8 : G 328 ln = G0 328 ln := hG _ _ (by omega)
    have e9 : G 329 k = x := by rw [hG _ _ (by omega)]; exact hx
    refine s_X12_worked_14 ⟨hln, by omega, by omega, fun c => by omega, fun _ => ⟨by omega, by rw [e9]; exact ix, ?_⟩⟩
    rw [e9]
    refine ⟨fun c => b1 (by omega), fun c1 => ⟨fun c2 => ⟨fun c => b2 (by omega), fun c3 => ⟨fun c4 => ⟨fun c5 => ⟨fun c => b4 (by omega), fun c6 => ⟨fun c7 => ⟨fun c => b5 (by omega), fun c8 => ⟨fun c9 => ⟨fun c10 => ⟨fun c11 => b6 (by omega), fun c11 => ⟨by omega, ?_⟩⟩, fun c10 => b8 (by omega)⟩, fun c => b5 (by omega)⟩⟩, fun c => b4 (by omega)⟩⟩, fun c => ⟨by omega, fun G22 e22 => ?_⟩⟩, fun c => b2 (by omega)⟩⟩, fun c => b1 (by omega)⟩⟩
    · rw [hG 341 x (by omega)]
      exact b7 (by omega)
    · have hx22 : x = 22 := by omega
      rw [e22, hx22, wr_id (by omega)]
      exact b3 hx22
  have i28 : InR 28 := by omega
  -- a level's end: the part's value goes into term
  have fin3 : ∀ (w : Nat) (k v : Int) (G : Mem), w ≤ 5 → WFr G0 G → (w = 0 ∨ G 340 w = 0) → (G 339 w = 0 ∨ G 339 w = 22) → InR k →
      (∀ G' : Mem, G' = st G 338 w (if G 339 w = 0 then wr v else wr (G 338 w * v)) → WRn d Q ln G' w (k + 1)) → Rn (d + 2) M_X12_worked zN 268 [(0, (2, 311)), (1, (0, ln)), (2, (0, (w : Int))), (3, (0, k)), (5, (0, v))] [] G Q := by
    intro w k v G hw hG hb ht ik hn
    have L300 : Rn (d + 2) M_X12_worked zN 300 [(0, (2, 311)), (1, (0, ln)), (2, (0, (w : Int))), (3, (0, k)), (5, (0, v))] [] G Q := by
      refine s_X12_worked_300 ⟨by omega, by omega, fun c G4 e4 => ?_, fun c G5 e5 => ?_⟩
      · rw [if_neg c] at hn
        exact hn _ e4
      · rw [if_pos (Decidable.not_not.mp c)] at hn
        exact hn _ e5
    refine s_X12_worked_268 ⟨by omega, fun _ => L300, fun c => ⟨by omega, ?_⟩⟩
    rcases hb with hb | hb
    · omega
    · rw [hb]
      exact ⟨by omega, fun _ => L300, fun c => absurd (show (0 : Int) ≠ 1 by decide) c⟩
  -- down a level
  have down : ∀ (x : Int) (w : Nat) (k : Int) (G : Mem), (x = 28 ∨ x = 30) → w < 5 → WFr G0 G → InR k →
      (∀ G' : Mem, WFr G0 G' → WLv G G' ((w : Int) + 1) → G' 340 ((w + 1 : Nat) : Int) = (if x = 30 then 1 else 0) → G' 333 ((w + 1 : Nat) : Int) = 0 → G' 335 ((w + 1 : Nat) : Int) = 0 → G' 336 ((w + 1 : Nat) : Int) = 0 → G' 337 ((w + 1 : Nat) : Int) = 20 → G' 339 ((w + 1 : Nat) : Int) = 0 → WRn d Q ln G' ((w + 1 : Nat) : Int) (k + 1)) → Rn (d + 2) M_X12_worked zN 46 [(0, (2, 311)), (1, (0, ln)), (2, (0, (w : Int))), (3, (0, k)), (4, (0, x))] [] G Q := by
    intro x w k G hx hw hG ik hn
    have L66 : ∀ s : Int, s = (if x = 30 then 1 else 0) → Rn (d + 2) M_X12_worked zN 66 [(0, (2, 311)), (1, (0, ln)), (2, (0, ((w : Int) + 1))), (3, (0, k))] [(0, s), (0, ((w : Int) + 1)), (2, 340)] G Q := by
      intro s hs
      refine s_X12_worked_66 ⟨by omega, fun G2 e2 => c_opens (by omega) (fun G' o3 o5 o6 o7 o9 of => ?_)⟩
      have is : InR s := by rw [hs]; split <;> omega
      rw [wr_id is] at e2
      have ez : ((w + 1 : Nat) : Int) = (w : Int) + 1 := by omega
      rw [ez] at hn
      refine hn G' (fun q j hq => ?_) (fun q j h1 h2 h3 => ?_) ?_ o3 o5 o6 o7 o9
      · rw [of _ _ (by omega), e2, st_nq _ _ _ _ (by omega)]
        exact hG q j hq
      · rw [of _ _ (by omega), e2, st_nk _ _ _ (by omega)]
      · rw [of _ _ (by omega), e2, st_same, hs]
    refine s_X12_worked_46 ⟨by omega, fun c => L66 0 (by rw [if_neg c]), fun c => L66 1 (by rw [if_pos (Decidable.not_not.mp c)])⟩
  have addsub : ∀ (x : Int) (g : Int → Int → Int), (x = 20 ∨ x = 21) → (∀ u v, sumV x u v = wr (g u v)) → ∀ (w : Nat) (t1 p1 : List Int) (f1 : (Int → Int) → Int) (t2 p2 : List Int) (f2 : (Int → Int) → Int), WPD d Q ln G0 2 w t1 p1 f1 → WPD d Q ln G0 3 w t2 p2 f2 → WPD d Q ln G0 2 w (t1 ++ x :: t2) (p1 ++ (p2 ++ [if x = 20 then -6 else -7])) (fun fa => wr (g (f1 fa) (f2 fa))) := by
    intro x g hx hg w t1 p1 f1 t2 p2 f2 H1 H2
    refine ⟨wr_in _, fun c => by omega, fun c => by omega, fun _ => ?_, fun c => by omega, fun c => by omega⟩
    intro hw k G hG hA k0 k1 hb h6 h7 h9 hn
    rw [At_app] at hA
    obtain ⟨a1, a2, a3⟩ := hA
    simp only [List.length_append, List.length_cons, Int.natCast_add, Int.natCast_one] at k1 hn
    refine H1.2.2.2.1 rfl hw k G hG a1 k0 (by omega) hb h6 h7 h9 (fun G1 g1 g2 g3 g4 g5 => ?_)
    refine hd14 x w _ G1 g1 (by omega) (by omega) (by omega) (by omega) a2 (by omega) (fun c => by omega) (fun _ => ?_) (fun c => by omega) (fun c => by omega) (fun c => by omega) (fun c => by omega) (fun c => by omega) (fun c => by omega) (by omega) (by omega) (by omega)
    refine s_X12_worked_89 (c_sums (by omega) (by omega) ⟨by omega, fun G4 e4 => ?_⟩)
    rw [g5, wr_id (by omega)] at e4
    have f4 : WFr G0 G4 := by rw [e4]; exact ((g1.st (by omega)).st (by omega)).st (by omega)
    have r4 : ∀ q j : Int, ¬ (j = (w : Int) ∧ (q = 336 ∨ q = 337 ∨ q = 339)) → G4 q j = G1 q j := fun q j hq => by rw [e4, st_ne _ _ (by omega), st_ne _ _ (by omega), st_ne _ _ (by omega)]
    have s7 : G4 337 w = x := by rw [e4, st_same]
    have s6 : G4 336 w = f1 fun j => G0 341 (fcode j) := by rw [e4, st_nq _ _ _ _ (by omega), st_nq _ _ _ _ (by omega), st_same]
    have s9 : G4 339 w = 0 := by rw [e4, st_nq _ _ _ _ (by omega), st_same]
    have b1 : w = 0 ∨ G4 340 w = 0 := by
      rcases hb with hb | hb
      · exact Or.inl hb
      · exact Or.inr (by rw [r4 _ _ (by omega), g3 _ (by omega) (by omega) (by omega)]; exact hb)
    refine H2.2.2.1 rfl hw _ G4 f4 a3 (by omega) (by omega) b1 s9 (fun G5 y1 y2 y3 y4 y5 => ?_)
    rw [show k + (t1.length : Int) + 1 + t2.length = k + (t1.length + (t2.length + 1)) from by omega]
    refine hn G5 y1 (fun q j h1 h2 h3 => ?_) (fun q h1 h2 h3 => ?_) ?_ ?_
    · rw [y2 q j h1 h2 h3, r4 _ _ (by omega)]; exact g2 q j h1 h2 h3
    · rw [y3 q h1 h2 (by omega) (by omega), r4 _ _ (by omega)]; exact g3 q h1 h2 h3
    · rw [y3 337 (by omega) (by omega) (by omega) (by omega), s7]; exact hx
    · rw [y3 337 (by omega) (by omega) (by omega) (by omega), y3 336 (by omega) (by omega) (by omega) (by omega), s7, s6, y4]
      exact hg _ _
  have cmp : ∀ (x : Int) (g : Int → Int → Int), (x = 24 ∨ x = 25) → (∀ u v, InR (g u v)) → (∀ u v, testV x u v = g u v) → ∀ (w : Nat) (t1 p1 : List Int) (f1 : (Int → Int) → Int) (t2 p2 : List Int) (f2 : (Int → Int) → Int), WPD d Q ln G0 2 w t1 p1 f1 → WPD d Q ln G0 2 w t2 p2 f2 → WPD d Q ln G0 1 w (t1 ++ x :: t2) (p1 ++ (p2 ++ [if x = 24 then -4 else -5])) (fun fa => g (f1 fa) (f2 fa)) := by
    intro x g hx hgi hg w t1 p1 f1 t2 p2 f2 H1 H2
    refine ⟨hgi _ _, fun c => by omega, fun c => by omega, fun c => by omega, fun _ => ?_, fun c => by omega⟩
    intro hw k G hG hA k0 k1 hb h5 h6 h7 h9 hn
    rw [At_app] at hA
    obtain ⟨a1, a2, a3⟩ := hA
    simp only [List.length_append, List.length_cons, Int.natCast_add, Int.natCast_one] at k1 hn
    refine H1.2.2.2.1 rfl hw k G hG a1 k0 (by omega) hb h6 h7 h9 (fun G1 g1 g2 g3 g4 g5 => ?_)
    refine hd14 x w _ G1 g1 (by omega) (by omega) (by omega) (by omega) a2 (by omega) (fun c => by omega) (fun c => by omega) (fun c => by omega) (fun _ => ?_) (fun c => by omega) (fun c => by omega) (fun c => by omega) (fun c => by omega) (by omega) (by omega) (by omega)
    refine s_X12_worked_137 (c_sums (by omega) (by omega) ⟨by omega, fun G4 e4 G5 e5 G6 e6 G7 e7 => ?_⟩)
    rw [g5] at e4
    have e40 : st (st G1 336 w (f1 fun j => G0 341 (fcode j))) 339 w 0 336 w = f1 fun j => G0 341 (fcode j) := by rw [st_nq _ _ _ _ (by omega), st_same]
    rw [e40, wr_id H1.1] at e4
    rw [wr_id (by omega)] at e5
    have f4 : WFr G0 G7 := by rw [e7, e6, e5, e4]; exact (((((g1.st (by omega)).st (by omega)).st (by omega)).st (by omega)).st (by omega)).st (by omega)
    have r4 : ∀ q j : Int, ¬ (j = (w : Int) ∧ (q = 334 ∨ q = 335 ∨ q = 336 ∨ q = 337 ∨ q = 339)) → G7 q j = G1 q j := fun q j hq => by rw [e7, st_ne _ _ (by omega), e6, st_ne _ _ (by omega), e5, st_ne _ _ (by omega), e4, st_ne _ _ (by omega), st_ne _ _ (by omega), st_ne _ _ (by omega)]
    have s7 : G7 337 w = 20 := by rw [e7, st_same]
    have s6 : G7 336 w = 0 := by rw [e7, st_nq _ _ _ _ (by omega), e6, st_same]
    have s5 : G7 335 w = x := by rw [e7, st_nq _ _ _ _ (by omega), e6, st_nq _ _ _ _ (by omega), e5, st_same]
    have s4 : G7 334 w = f1 fun j => G0 341 (fcode j) := by rw [e7, st_nq _ _ _ _ (by omega), e6, st_nq _ _ _ _ (by omega), e5, st_nq _ _ _ _ (by omega), e4, st_same]
    have s9 : G7 339 w = 0 := by rw [e7, st_nq _ _ _ _ (by omega), e6, st_nq _ _ _ _ (by omega), e5, st_nq _ _ _ _ (by omega), e4, st_nq _ _ _ _ (by omega), st_same]
    have b1 : w = 0 ∨ G7 340 w = 0 := by
      rcases hb with hb | hb
      · exact Or.inl hb
      · exact Or.inr (by rw [r4 _ _ (by omega), g3 _ (by omega) (by omega) (by omega)]; exact hb)
    refine H2.2.2.2.1 rfl hw _ G7 f4 a3 (by omega) (by omega) b1 s6 s7 s9 (fun G8 y1 y2 y3 y4 y5 => ?_)
    have z5 : G8 335 w = x := by rw [y3 335 (by omega) (by omega) (by omega)]; exact s5
    have z4 : G8 334 w = f1 fun j => G0 341 (fcode j) := by rw [y3 334 (by omega) (by omega) (by omega)]; exact s4
    rw [show k + (t1.length : Int) + 1 + t2.length = k + (t1.length + (t2.length + 1)) from by omega]
    refine hn G8 y1 (fun q j h1 h2 h3 => ?_) (fun q h1 => ?_) y4 (by omega) (fun _ => by rw [z4]; exact H1.1) ?_
    · rw [y2 q j h1 h2 h3, r4 _ _ (by omega)]; exact g2 q j h1 h2 h3
    · rw [y3 q (by omega) (by omega) (by omega), r4 _ _ (by omega)]; exact g3 q (by omega) (by omega) (by omega)
    · unfold tstV
      rw [z5, z4, y5]
      exact hg _ _
  have andor : ∀ (x : Int) (g : Int → Int → Int), (x = 26 ∨ x = 27) → (∀ u v, InR (g u v)) → (∀ u v, keptV x u v = g u v) → ∀ (w : Nat) (t1 p1 : List Int) (f1 : (Int → Int) → Int) (t2 p2 : List Int) (f2 : (Int → Int) → Int), WPD d Q ln G0 0 w t1 p1 f1 → WPD d Q ln G0 1 w t2 p2 f2 → WPD d Q ln G0 0 w (t1 ++ x :: t2) (p1 ++ (p2 ++ [if x = 26 then -2 else -3])) (fun fa => g (f1 fa) (f2 fa)) := by
    intro x g hx hgi hg w t1 p1 f1 t2 p2 f2 H1 H2
    refine ⟨hgi _ _, fun c => by omega, fun c => by omega, fun c => by omega, fun c => by omega, fun _ => ?_⟩
    intro hw k G hG hA k0 k1 hb h3 h5 h6 h7 h9 hn
    rw [At_app] at hA
    obtain ⟨a1, a2, a3⟩ := hA
    simp only [List.length_append, List.length_cons, Int.natCast_add, Int.natCast_one] at k1 hn
    refine H1.2.2.2.2.2 rfl hw k G hG a1 k0 (by omega) hb h3 h5 h6 h7 h9 (fun G1 g1 g2 g3 g4 g5 g6 g7 g8 g9 => ?_)
    refine hd14 x w _ G1 g1 (by omega) (by omega) (by omega) (by omega) a2 (by omega) (fun c => by omega) (fun c => by omega) (fun c => by omega) (fun c => by omega) (fun _ => ?_) (fun c => by omega) (fun c => by omega) (fun c => by omega) (by omega) (by omega) (by omega)
    refine s_X12_worked_194 (c_tests (by omega) (by omega) (by omega) g6 (by omega) g8 (fun G3 t1' t2' t3' t4' t5' t6' => ⟨by omega, fun G4 e4 => ?_⟩))
    rw [g9] at t1'
    rw [wr_id (by omega)] at e4
    have f4 : WFr G0 G4 := by
      rw [e4]
      exact WFr.st (fun q j hq => by rw [t6' _ _ (by omega)]; exact g1 q j hq) (by omega)
    have r4 : ∀ q j : Int, ¬ (j = (w : Int) ∧ (q = 332 ∨ q = 333 ∨ q = 335 ∨ q = 336 ∨ q = 337 ∨ q = 339)) → G4 q j = G1 q j := fun q j hq => by rw [e4, st_ne _ _ (by omega), t6' _ _ (by omega)]
    have s3 : G4 333 w = x := by rw [e4, st_same]
    have s2 : G4 332 w = f1 fun j => G0 341 (fcode j) := by rw [e4, st_nq _ _ _ _ (by omega)]; exact t1'
    have b1 : w = 0 ∨ G4 340 w = 0 := by
      rcases hb with hb | hb
      · exact Or.inl hb
      · exact Or.inr (by rw [r4 _ _ (by omega), g3]; exact hb)
    refine H2.2.2.2.2.1 rfl hw _ G4 f4 a3 (by omega) (by omega) b1 (by rw [e4, st_nq _ _ _ _ (by omega)]; exact t2') (by rw [e4, st_nq _ _ _ _ (by omega)]; exact t3') (by rw [e4, st_nq _ _ _ _ (by omega)]; exact t4') (by rw [e4, st_nq _ _ _ _ (by omega)]; exact t5') (fun G8 y1 y2 y3 y4 y5 y6 y7 => ?_)
    have z3 : G8 333 w = x := by rw [y3 333 (by omega)]; exact s3
    have z2 : G8 332 w = f1 fun j => G0 341 (fcode j) := by rw [y3 332 (by omega)]; exact s2
    rw [show k + (t1.length : Int) + 1 + t2.length = k + (t1.length + (t2.length + 1)) from by omega]
    refine hn G8 y1 (fun q j h1 h2 h3 => ?_) ?_ y4 y5 y6 (by omega) (fun _ => by rw [z2]; exact H1.1) ?_
    · rw [y2 q j h1 h2 h3, r4 _ _ (by omega)]; exact g2 q j h1 h2 h3
    · rw [y3 340 (by omega), r4 _ _ (by omega)]; exact g3
    · rw [z3, z2, y7]
      exact hg _ _
  refine hD (WPD d Q ln G0) ⟨?_, ?_, ?_, ?_, ?_, ?_, ?_, ?_, ?_, ?_, ?_, ?_⟩
  · -- a number
    intro w v hw v0 v1
    refine ⟨show InR v from ⟨by omega, by omega⟩, fun _ hw5 k G hG hA k0 k1 hn => ?_, fun c => by omega, fun c => by omega, fun c => by omega, fun c => by omega⟩
    simp only [List.length_cons, List.length_nil, Int.natCast_add, Int.natCast_one, Int.natCast_zero, Int.zero_add] at k1 hn
    rw [show k + 1 - 1 = k from by omega] at hn
    refine hd14 (100 + v) w k G hG (by omega) (by omega) k0 (by omega) hA.1 (by omega) (fun c => by omega) (fun c => by omega) (fun c => by omega) (fun c => by omega) (fun c => by omega) (fun c => by omega) (fun c => by omega) (fun _ => ?_) (by omega) (by omega) (by omega)
    rw [show 100 + v - 100 = v from by omega]
    exact s_X12_worked_243 ⟨by omega, fun _ => hn G hG (fun _ _ _ _ _ => rfl), fun c => by omega⟩
  · -- a fact
    intro w j hw hj
    refine ⟨hfa j hj, fun _ hw5 k G hG hA k0 k1 hn => ?_, fun c => by omega, fun c => by omega, fun c => by omega, fun c => by omega⟩
    simp only [List.length_cons, List.length_nil, Int.natCast_add, Int.natCast_one, Int.natCast_zero, Int.zero_add] at k1 hn
    rw [show k + 1 - 1 = k from by omega] at hn
    have hr := allw_rng hj
    have hc : 1 ≤ fcode j ∧ fcode j ≤ 8 := by
      rcases (by omega : j = 0 ∨ j = 1 ∨ j = 2 ∨ j = 3 ∨ j = 4 ∨ j = 5 ∨ j = 6 ∨ j = 7) with rfl | rfl | rfl | rfl | rfl | rfl | rfl | rfl <;> decide
    refine hd14 (fcode j) w k G hG (by omega) (by omega) k0 (by omega) hA.1 (by omega) (fun c => by omega) (fun c => by omega) (fun c => by omega) (fun c => by omega) (fun c => by omega) (fun c => by omega) (fun _ => ?_) (fun c => by omega) (by omega) (by omega) (by omega)
    exact s_X12_worked_243 ⟨by omega, fun _ => hn G hG (fun _ _ _ _ _ => rfl), fun c => by omega⟩
  · -- not
    intro w ts ps f hw H
    refine ⟨b01 _, fun _ hw5 k G hG hA k0 k1 hn => ?_, fun c => by omega, fun c => by omega, fun c => by omega, fun c => by omega⟩
    simp only [List.length_cons, Int.natCast_add, Int.natCast_one] at k1 hn
    refine hd14 30 w k G hG (by omega) (by omega) k0 (by omega) hA.1 (by omega) (fun _ => ?_) (fun c => by omega) (fun c => by omega) (fun c => by omega) (fun c => by omega) (fun c => by omega) (fun c => by omega) (fun c => by omega) (by omega) (by omega) (by omega)
    refine down 30 w k G (Or.inr rfl) hw hG (by omega) (fun G1 g1 g2 g3 _ _ _ _ _ => ?_)
    rw [if_pos rfl] at g3
    refine H.2.1 rfl (by omega) (k + 1) G1 g1 hA.2 (by omega) (by omega) (fun G2 q1 q2 => ?_)
    have e3 : G2 340 ((w + 1 : Nat) : Int) = 1 := by rw [q2 _ _ (by omega) (by omega) (by omega)]; exact g3
    have iv := H.1
    have back := fun v => s_X12_worked_268 (d := d + 2) (G := G2) (Q := Q) (x1 := ln) (x2 := ((w + 1 : Nat) : Int)) (x3 := k + 1 + ts.length - 1) (x5 := v)
    have hlv : WLv G G2 ((w : Int) + 1) := fun q j a b c => by rw [q2 q j a b (by omega), g2 q j a b c]
    have hn2 := hn G2 q1 hlv
    have ez : ((w + 1 : Nat) : Int) + (-1) = (w : Int) := by omega
    have ek : k + 1 + (ts.length : Int) - 1 = k + ((ts.length : Int) + 1) - 1 := by omega
    refine s_X12_worked_268 ⟨by omega, fun c => by omega, fun _ => ⟨by omega, by omega, fun c => absurd e3 c, fun _ => ⟨iv, fun c => ?_, fun c => ?_⟩⟩⟩
    · rw [ez, ek]
      rw [if_neg c] at hn2
      exact hn2
    · rw [ez, ek]
      rw [if_pos (Decidable.not_not.mp c)] at hn2
      exact hn2
  · -- ( E )
    intro w ts ps f hw H
    refine ⟨H.1, fun _ hw5 k G hG hA k0 k1 hn => ?_, fun c => by omega, fun c => by omega, fun c => by omega, fun c => by omega⟩
    obtain ⟨a0, hA⟩ := hA
    rw [At_app] at hA
    simp only [List.length_cons, List.length_append, List.length_nil, Int.natCast_add, Int.natCast_one, Int.natCast_zero] at k1 hn
    refine hd14 28 w k G hG (by omega) (by omega) k0 (by omega) a0 (by omega) (fun _ => ?_) (fun c => by omega) (fun c => by omega) (fun c => by omega) (fun c => by omega) (fun c => by omega) (fun c => by omega) (fun c => by omega) (by omega) (by omega) (by omega)
    refine down 28 w k G (Or.inl rfl) hw hG (by omega) (fun G1 g1 g2 g3 g4 g5 g6 g7 g8 => ?_)
    rw [if_neg (by decide)] at g3
    refine H.2.2.2.2.2 rfl (by omega) (k + 1) G1 g1 hA.1 (by omega) (by omega) (Or.inr g3) g4 g5 g6 g7 g8 (fun G2 q1 q2 q3 q4 q5 q6 q7 q8 q9 => ?_)
    have ez : ((w + 1 : Nat) : Int) + (-1) = (w : Int) := by omega
    have ek : k + 1 + (ts.length : Int) = k + ((ts.length : Int) + (0 + 1) + 1) - 1 := by omega
    have a9 : G0 329 (k + 1 + (ts.length : Int)) = 29 := hA.2.1
    refine hd14 29 ((w + 1 : Nat) : Int) (k + 1 + ts.length) G2 q1 (by omega) (by omega) (by omega) (by omega) a9 (by omega) (fun c => by omega) (fun c => by omega) (fun c => by omega) (fun c => by omega) (fun c => by omega) (fun _ => ?_) (fun c => by omega) (fun c => by omega) (by omega) (by omega) (by omega)
    refine s_X12_worked_243 ⟨by omega, fun c => absurd rfl c, fun _ => c_tests (by omega) (by omega) (by omega) q6 (by omega) q8 (fun G3 t1 t2 t3 t4 t5 t6 => ⟨by omega, ?_⟩)⟩
    rw [t1, q9, ez, ek]
    refine hn G3 (fun q j hq => by rw [t6 _ _ (by omega)]; exact q1 q j hq) (fun q j h1 h2 h3 => ?_)
    rw [t6 _ _ (by omega), q2 q j h1 h2 (by omega), g2 q j h1 h2 h3]
  · -- a rank up
    intro r w ts ps f hr H
    refine ⟨H.1, fun c => by omega, fun c => ?_, fun c => ?_, fun c => ?_, fun c => ?_⟩
    · -- a product of one part
      subst c
      intro hw k G hG hA k0 k1 hb h9 hn
      refine H.2.1 rfl hw k G hG hA k0 k1 (fun G1 g1 g2 => ?_)
      have b1 : w = 0 ∨ G1 340 w = 0 := by
        rcases hb with hb | hb
        · exact Or.inl hb
        · exact Or.inr (by rw [g2 _ _ (by omega) (by omega) (by omega)]; exact hb)
      have e9 : G1 339 w = 0 := by rw [g2 _ _ (by omega) (by omega) (by omega)]; exact h9
      refine fin3 w _ _ G1 hw g1 b1 (Or.inl e9) (by omega) (fun G2 e2 => ?_)
      rw [if_pos e9, wr_id H.1] at e2
      rw [show k + (ts.length : Int) - 1 + 1 = k + ts.length from by omega]
      subst e2
      refine hn _ (g1.st (by omega)) (fun q j h1 h2 h3 => ?_) (fun q h1 h2 h3 h4 => ?_) (st_same _ _ _ _) (Or.inl ?_)
      · rw [st_nk _ _ _ (by omega)]; exact g2 q j h1 h2 (by omega)
      · rw [st_nq _ _ _ _ (by omega)]; exact g2 q _ h1 h2 (by omega)
      · rw [st_nq _ _ _ _ (by omega)]; exact e9
    · subst c
      intro hw k G hG hA k0 k1 hb h6 h7 h9 hn
      refine H.2.2.1 rfl hw k G hG hA k0 k1 hb h9 (fun G1 g1 g2 g3 g4 g5 => ?_)
      refine hn G1 g1 g2 (fun q a b c => g3 q a b (by omega) (by omega)) (Or.inl ?_) ?_
      · rw [g3 _ (by omega) (by omega) (by omega) (by omega)]; exact h7
      · rw [g3 337 (by omega) (by omega) (by omega) (by omega), g3 336 (by omega) (by omega) (by omega) (by omega), h7, h6, g4]
        unfold sumV
        rw [if_neg (by decide), Int.zero_add, wr_id H.1]
    · subst c
      intro hw k G hG hA k0 k1 hb h5 h6 h7 h9 hn
      refine H.2.2.2.1 rfl hw k G hG hA k0 k1 hb h6 h7 h9 (fun G1 g1 g2 g3 g4 g5 => ?_)
      have e5 : G1 335 w = 0 := by rw [g3 _ (by omega) (by omega) (by omega)]; exact h5
      refine hn G1 g1 g2 (fun q a => g3 q (by omega) (by omega) (by omega)) g4 (Or.inl e5) (fun c => absurd e5 c) ?_
      unfold tstV testV
      rw [if_neg (by omega), if_neg (by omega)]
      exact g5
    · subst c
      intro hw k G hG hA k0 k1 hb h3 h5 h6 h7 h9 hn
      refine H.2.2.2.2.1 rfl hw k G hG hA k0 k1 hb h5 h6 h7 h9 (fun G1 g1 g2 g3 g4 g5 g6 g7 => ?_)
      have e3 : G1 333 w = 0 := by rw [g3 _ (by omega)]; exact h3
      refine hn G1 g1 g2 (g3 _ (by omega)) g4 g5 g6 (Or.inl e3) (fun c => absurd e3 c) ?_
      unfold keptV
      rw [if_neg (by omega), if_neg (by omega)]
      exact g7
  · -- *
    intro w t1 p1 f1 t2 p2 f2 H1 H2
    refine ⟨wr_in _, fun c => by omega, fun _ => ?_, fun c => by omega, fun c => by omega, fun c => by omega⟩
    intro hw k G hG hA k0 k1 hb h9 hn
    rw [At_app] at hA
    obtain ⟨a1, a2, a3⟩ := hA
    simp only [List.length_append, List.length_cons, Int.natCast_add, Int.natCast_one] at k1 hn
    refine H1.2.2.1 rfl hw k G hG a1 k0 (by omega) hb h9 (fun G1 g1 g2 g3 g4 g5 => ?_)
    have b1 : w = 0 ∨ G1 340 w = 0 := by
      rcases hb with hb | hb
      · exact Or.inl hb
      · exact Or.inr (by rw [g3 _ (by omega) (by omega) (by omega) (by omega)]; exact hb)
    refine hd14 22 w _ G1 g1 (by omega) (by omega) (by omega) (by omega) a2 (by omega) (fun c => by omega) (fun c => by omega) (fun _ => ?_) (fun c => by omega) (fun c => by omega) (fun c => by omega) (fun c => by omega) (fun c => by omega) (by omega) (by omega) (by omega)
    refine H2.2.1 rfl hw _ _ (g1.st (by omega)) a3 (by omega) (by omega) (fun G2 q1 q2 => ?_)
    have u : ∀ q, 332 ≤ q → q ≤ 340 → G2 q w = st G1 339 w 22 q w := fun q a b => q2 q _ a b (by omega)
    have e9 : G2 339 w = 22 := by rw [u _ (by omega) (by omega), st_same]
    have e8 : G2 338 w = f1 fun j => G0 341 (fcode j) := by rw [u _ (by omega) (by omega), st_nq _ _ _ _ (by omega)]; exact g4
    have b2 : w = 0 ∨ G2 340 w = 0 := by
      rcases b1 with b1 | b1
      · exact Or.inl b1
      · exact Or.inr (by rw [u _ (by omega) (by omega), st_nq _ _ _ _ (by omega)]; exact b1)
    refine fin3 w _ _ G2 hw q1 b2 (Or.inr e9) (by omega) (fun G3 e3 => ?_)
    rw [if_neg (by omega), e8] at e3
    subst e3
    rw [show k + (t1.length : Int) + 1 + t2.length - 1 + 1 = k + (t1.length + (t2.length + 1)) from by omega]
    refine hn _ (q1.st (by omega)) (fun q j h1 h2 h3 => ?_) (fun q h1 h2 h3 h4 => ?_) (st_same _ _ _ _) (Or.inr ?_)
    · rw [st_nk _ _ _ (by omega), q2 q j h1 h2 (by omega), st_nk _ _ _ (by omega)]; exact g2 q j h1 h2 h3
    · rw [st_nq _ _ _ _ (by omega), u q h1 h2, st_nq _ _ _ _ (by omega)]; exact g3 q h1 h2 h3 h4
    · rw [st_nq _ _ _ _ (by omega)]; exact e9
  · exact addsub 20 (fun x y => x + y) (Or.inl rfl) (fun x y => by unfold sumV; rw [if_neg (by decide)])
  · exact addsub 21 (fun x y => x - y) (Or.inr rfl) (fun x y => by unfold sumV; rw [if_pos rfl])
  · exact cmp 24 (fun x y => if x < y then 1 else 0) (Or.inl rfl) (fun x y => b01 _) (fun x y => by unfold testV; rw [if_pos rfl])
  · exact cmp 25 (fun x y => if x = y then 1 else 0) (Or.inr rfl) (fun x y => b01 _) (fun x y => by unfold testV; rw [if_neg (by decide), if_pos rfl])
  · exact andor 26 (fun x y => if x ≠ 0 ∧ y ≠ 0 then 1 else 0) (Or.inl rfl) (fun x y => b01 _) (fun x y => by unfold keptV; rw [if_pos rfl])
  · exact andor 27 (fun x y => if x ≠ 0 ∨ y ≠ 0 then 1 else 0) (Or.inr rfl) (fun x y => b01 _) (fun x y => by unfold keptV; rw [if_neg (by decide), if_pos rfl])
end WORKRUN
