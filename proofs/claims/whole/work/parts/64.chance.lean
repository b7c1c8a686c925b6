section CHANCE
variable {d : Nat} {S S' G G' H : Mem} {Q : Int → Mem → Prop} {c : Int} {fs : Int → Law}
theorem c_isAble {p : Int} (hR : Cu S G c) (hp : InR p) (h1 : (0 ≤ p ∧ p < S c 8) ∧ S 75 p ≤ 0 → Q 1 G) (h0 : ¬ ((0 ≤ p ∧ p < S c 8) ∧ S 75 p ≤ 0) → Q 0 G) : Ct (d + 1) M_X12_isAble NT 0 0 (some lay) [(2, 311), (0, p)] G Q := by
  have r := hR.rng
  refine ctof (s_X12_isAble_0 (c_isSitter hR hp (fun q => ⟨by omega, fun x => absurd x (by decide), fun _ => ⟨by omega, ?_⟩⟩) (fun q => ⟨by omega, fun _ => h0 (fun x => q x.1), fun x => absurd rfl x⟩)))
  have row := (hR.row q.1 q.2).2.1
  have ro := (hR.rok (i := p) (by omega) (by omega)).2.1
  exact ⟨by omega, fun x => h0 (by omega), fun x => h1 ⟨q, by omega⟩⟩
theorem thF_cl {sl : Int → Bool} {wk s0 s1 e : Int → Int} {a b : Int} (ha : a ≠ 0) (hb : b ≠ 0) : ∀ (n : Nat) (p x : Int), thF sl wk s0 s1 a e n p x = thF sl wk s0 s1 b e n p x := by
  intro n
  induction n with
  | zero => intro p x; rfl
  | succ n ih =>
    intro p x
    unfold thF
    rw [ih]
    simp only [if_neg ha, if_neg hb]
/-- the relation behind a look of the class's -/
theorem Inv0.look {G1 : Mem} (hI : Inv0 G G c fs) (h : LkF c G G1) : ClF c G G1 := h.cl hI.1.2.2.1
def okW (S : Mem) (c s : Int) : Prop := (0 ≤ s ∧ s < S c 8) ∧ S 75 s ≤ 0
theorem t_chance {s w y : Int} (hI : Inv0 G G c fs) (is : InR s) (iw : InR w) (iy : InR y) : Ct (d + 4) M_X11_chance NT 0 0 (some lay) [(2, 0), (0, s), (0, w), (0, y)] G (fun v G1 => Ct (d + 6) M_X12_chance NT 0 0 (some lay) [(2, 311), (0, s), (0, w), (0, y)] G1 (Ok2 c fs G v)) := by
  have hC := hI.cls
  have r := hC.rng
  have hc := hC.1
  have tk := hC.tick
  have h37 := hI.1.2.2.1
  have pw := p3_in (n := G c 6) (by omega)
  have l0 := shl_in (n := G c 6) (by omega)
  have mN : ¬ (okW G c s ∧ 0 ≤ w ∧ w < p3 (G c 6)) → Ct (d + 6) M_X12_chance NT 0 0 (some lay) [(2, 311), (0, s), (0, w), (0, y)] G (Ok2 c fs G (-1)) := by
    intro hno
    refine ctof (s_X12_chance_0 (fun G1 e1 => ?_))
    have f1 : ThF G G1 := by rw [e1]; exact ThF.st
    have hR := f1.cu hI.2.1
    have ok : Ok2 c fs G (-1) (-1) G1 := hI.ok ClF.rfl' f1.ml
    exact c_isAble hR is (fun q => ⟨by omega, fun _ => ok, fun _ => c_areWays hR iw (by omega) (fun q2 => absurd ⟨q, q2.1⟩ hno) (fun q2 => ⟨by omega, fun x => absurd rfl x, fun _ => ok⟩)⟩) (fun q => ⟨by omega, fun _ => ok, fun x => absurd rfl x⟩)
  refine ctof (s_X11_chance_0 (c_X11_movable hC is (fun q => ⟨by omega, fun x => absurd x (by decide), fun _ => c_X11_rightWays hC iw (fun q2 => ⟨by omega, fun _ b hb => ?_, fun x => absurd (show (1 : Int) ≠ 0 by decide) x⟩) (fun q2 => ⟨by omega, fun x => absurd rfl x, fun _ => mN (fun x => q2 x.2)⟩)⟩) (fun q => ⟨by omega, fun _ => mN (fun x => q x.1), fun x => absurd rfl x⟩)))
  rw [hc] at hb
  subst hb
  have seat := hC.seat q.1.1 q.1.2
  obtain ⟨n, hn⟩ := Int.eq_ofNat_of_zero_le (show 0 ≤ G b 6 - 1 - G (b + 13 + s) 1 by omega)
  refine ⟨hC.2.1, c_look hC h37 q.1 (by omega) hI.2.2.1 hn.symm (fun G1 f1 hT => c_thr hT (by omega) iy ?_)⟩
  refine ctof (s_X12_chance_0 (fun G2 e2 => ?_))
  have f2 : ThF G1 G2 := by rw [e2]; exact ThF.st
  have hR := f2.cu (hI.cu1 (hI.look f1))
  have hL := f2.lw (hI.lw1 (hI.look f1))
  refine c_isAble hR is (fun _ => ⟨by omega, fun x => absurd x (by decide), fun _ => c_areWays hR iw (by omega) (fun _ => ⟨by omega, fun _ => ?_, fun x => absurd (show (1 : Int) ≠ 0 by decide) x⟩) (fun x => absurd (by omega) x)⟩) (fun x => absurd q x)
  rw [hR.nums.1]
  refine c_weighs hR q.1 hL (by omega) (by omega) hn.symm (fun G3 f3 k7 k8 k9 => ⟨iy, fun z => ?_, fun z => ?_⟩)
  · rw [k7, z]
    exact hI.ok (hI.look f1) (f2.ml.tr f3.ml)
  · rw [k8, thF_cl z (show (1 : Int) ≠ 0 by decide)]
    exact hI.ok (hI.look f1) (f2.ml.tr f3.ml)
theorem t_cost {s w : Int} (hI : Inv0 G G c fs) (is : InR s) (iw : InR w) : Ct (d + 4) M_X11_cost NT 0 0 (some lay) [(2, 0), (0, s), (0, w)] G (fun v G1 => Ct (d + 7) M_X12_cost NT 0 0 (some lay) [(2, 311), (0, s), (0, w)] G1 (Ok2 c fs G v)) := by
  have hC := hI.cls
  have r := hC.rng
  have hc := hC.1
  have tk := hC.tick
  have h37 := hI.1.2.2.1
  have pw := p3_in (n := G c 6) (by omega)
  have l0 := shl_in (n := G c 6) (by omega)
  have mN : ¬ (okW G c s ∧ 0 ≤ w ∧ w < p3 (G c 6)) → Ct (d + 7) M_X12_cost NT 0 0 (some lay) [(2, 311), (0, s), (0, w)] G (Ok2 c fs G (-1)) := by
    intro hno
    refine ctof (s_X12_cost_0 (fun G1 e1 => ?_))
    have f1 : ThF G G1 := by rw [e1]; exact ThF.st
    have hR := f1.cu hI.2.1
    have ok : Ok2 c fs G (-1) (-1) G1 := hI.ok ClF.rfl' f1.ml
    exact c_isAble hR is (fun q => ⟨by omega, fun _ => ok, fun _ => c_areWays hR iw (by omega) (fun q2 => absurd ⟨q, q2.1⟩ hno) (fun q2 => ⟨by omega, fun _ => ok, fun x => absurd rfl x⟩)⟩) (fun q => ⟨by omega, fun _ => ok, fun x => absurd rfl x⟩)
  refine ctof (s_X11_cost_0 (c_X11_movable hC is (fun q => ⟨by omega, fun x => absurd x (by decide), fun _ => c_X11_rightWays hC iw (fun q2 => ⟨by omega, fun _ b hb => ?_, fun x => absurd (show (1 : Int) ≠ 0 by decide) x⟩) (fun q2 => ⟨by omega, fun x => absurd rfl x, fun _ => mN (fun x => q2 x.2)⟩)⟩) (fun q => ⟨by omega, fun _ => mN (fun x => q x.1), fun x => absurd rfl x⟩)))
  rw [hc] at hb
  subst hb
  have seat := hC.seat q.1.1 q.1.2
  obtain ⟨n, hn⟩ := Int.eq_ofNat_of_zero_le (show 0 ≤ G b 6 - 1 - G (b + 13 + s) 1 by omega)
  refine ⟨hC.2.1, c_look hC h37 q.1 (by omega) hI.2.2.1 hn.symm (fun G1 f1 hT => c_whole hT (by omega) ?_)⟩
  refine ctof (s_X12_cost_0 (fun G2 e2 => ?_))
  have f2 : ThF G1 G2 := by rw [e2]; exact ThF.st
  have hR := f2.cu (hI.cu1 (hI.look f1))
  have hL := f2.lw (hI.lw1 (hI.look f1))
  refine c_isAble hR is (fun _ => ⟨by omega, fun x => absurd x (by decide), fun _ => c_areWays hR iw (by omega) (fun _ => ⟨by omega, fun x => absurd x (by decide), fun _ => ?_⟩) (fun x => absurd (by omega) x)⟩) (fun x => absurd q x)
  rw [hR.nums.1]
  exact c_costOf hR q.1 hL (by omega) (by omega) hn.symm (fun G3 f3 => hI.ok (hI.look f1) (f2.ml.tr f3.ml))
theorem t_best {s : Int} (hI : Inv0 G G c fs) (is : InR s) : Ct (d + 4) M_X11_best NT 0 0 (some lay) [(2, 0), (0, s)] G (fun v G1 => Ct (d + 8) M_X12_best NT 0 0 (some lay) [(2, 311), (0, s)] G1 (Ok2 c fs G v)) := by
  have hC := hI.cls
  have r := hC.rng
  have hc := hC.1
  have tk := hC.tick
  have h37 := hI.1.2.2.1
  have mN : ¬ okW G c s → Ct (d + 8) M_X12_best NT 0 0 (some lay) [(2, 311), (0, s)] G (Ok2 c fs G (-1)) := by
    intro hno
    refine ctof (s_X12_best_0 (fun G1 e1 => ?_))
    have f1 : ThF G G1 := by rw [e1]; exact ThF.st
    have hR := f1.cu hI.2.1
    have ok : Ok2 c fs G (-1) (-1) G1 := hI.ok ClF.rfl' f1.ml
    exact c_isAble hR is (fun q => absurd q hno) (fun q => ⟨by omega, fun _ => ok, fun x => absurd rfl x⟩)
  refine ctof (s_X11_best_0 (c_X11_movable hC is (fun q => ⟨by omega, fun _ b hb => ?_, fun x => absurd (show (1 : Int) ≠ 0 by decide) x⟩) (fun q => ⟨by omega, fun x => absurd rfl x, fun _ => mN q⟩)))
  rw [hc] at hb
  subst hb
  have seat := hC.seat q.1.1 q.1.2
  obtain ⟨n, hn⟩ := Int.eq_ofNat_of_zero_le (show 0 ≤ G b 6 - 1 - G (b + 13 + s) 1 by omega)
  refine ⟨hC.2.1, c_look hC h37 q.1 (by omega) hI.2.2.1 hn.symm (fun G1 f1 hT => c_cheapest hT (fun v hv => ?_))⟩
  refine ctof (s_X12_best_0 (fun G2 e2 => ?_))
  have f2 : ThF G1 G2 := by rw [e2]; exact ThF.st
  have hR := f2.cu (hI.cu1 (hI.look f1))
  have hL := f2.lw (hI.lw1 (hI.look f1))
  refine c_isAble hR is (fun _ => ⟨by omega, fun x => absurd x (by decide), fun _ => ?_⟩) (fun x => absurd q x)
  rw [hR.nums.1]
  refine c_bestWays hR q.1 hL (by omega) hn.symm (fun v2 G3 hv2 f3 _ _ => ?_)
  rw [hv2.one hv]
  exact hI.ok (hI.look f1) (f2.ml.tr f3.ml)
/-! standing -/
/-- what standing so many ticks costs; of the rest how it is found -/
def staF (cst : Int → Int) (cl : Int → Prop) : Nat → Int → Int → Int → Int → Prop
  | 0, _, f, _, v => v = f
  | m + 1, k, f, l, v => (cl k → staF cst cl m (k + 1) f l v) ∧ (¬ cl k → (f = -1 ∨ cst k < l → staF cst cl m (k + 1) k (cst k) v) ∧ (¬ (f = -1 ∨ cst k < l) → staF cst cl m (k + 1) f l v))
theorem staF_one {cst : Int → Int} {cl : Int → Prop} : ∀ (m : Nat) (k f l v v' : Int), staF cst cl m k f l v → staF cst cl m k f l v' → v = v' := by
  intro m
  induction m with
  | zero => intro k f l v v' h h'; have h : v = f := h; have h' : v' = f := h'; omega
  | succ m ih =>
    intro k f l v v' h h'
    unfold staF at h h'
    by_cases x : cl k
    · exact ih _ _ _ _ _ (h.1 x) (h'.1 x)
    · by_cases y : f = -1 ∨ cst k < l
      · exact ih _ _ _ _ _ ((h.2 x).1 y) ((h'.2 x).1 y)
      · exact ih _ _ _ _ _ ((h.2 x).2 y) ((h'.2 x).2 y)
theorem bst_pd {sl : Int → Bool} {wk s0 s1 : Int → Int} {A B C : Int} {n : Nat} {p : Int} (ao : AhOk sl wk s0 s1) (hA : 0 ≤ A ∧ A ≤ 99) (hB : 0 ≤ B ∧ B ≤ 99) {v : Int} (hn : n ≤ 5) : 0 ≤ pdF sl s0 s1 A B (fun q => dg v q) n p ∧ pdF sl s0 s1 A B (fun q => dg v q) n p ≤ 5000000 := by
  have := pdF_in (e := fun q => dg v q) ao hA hB n p
  omega
theorem t_standing {s : Int} (hI : Inv0 G G c fs) (is : InR s) : Ct (d + 4) M_X11_standing NT 0 0 (some lay) [(2, 0), (0, s)] G (fun v G1 => Ct (d + 8) M_X12_standing NT 0 0 (some lay) [(2, 311), (0, s)] G1 (Ok2 c fs G v)) := by
  have hC := hI.cls
  have r := hC.rng
  have hc := hC.1
  have tk := hC.tick
  have h37 := hI.1.2.2.1
  have mN : ¬ ((0 ≤ s ∧ s < G c 8) ∧ G 75 s = -1) → Ct (d + 8) M_X12_standing NT 0 0 (some lay) [(2, 311), (0, s)] G (Ok2 c fs G (-1)) := by
    intro hno
    refine ctof (s_X12_standing_0 (fun G1 e1 => ?_))
    have f1 : ThF G G1 := by rw [e1]; exact ThF.st
    have hR := f1.cu hI.2.1
    have ok : Ok2 c fs G (-1) (-1) G1 := hI.ok ClF.rfl' f1.ml
    refine c_isSitter hR is (fun q => ⟨by omega, fun x => absurd x (by decide), fun _ => ⟨by omega, ?_⟩⟩) (fun q => ⟨by omega, fun _ => ok, fun x => absurd rfl x⟩)
    have row := (hR.row q.1 q.2).2.1
    have ro := (hR.rok (i := s) (by omega) (by omega)).2.1
    exact ⟨by omega, fun x => absurd ⟨q, by omega⟩ hno, fun _ => ok⟩
  refine ctof (s_X11_standing_0 (c_X11_known hC is (fun q => ⟨by omega, fun x => absurd x (by decide), fun _ => ⟨by omega, ?_⟩⟩) (fun q => ⟨by omega, fun _ => mN (fun x => q x.1), fun x => absurd rfl x⟩)))
  have ro := (hC.rok (i := s) (by omega) (by omega)).2.1
  refine ⟨by omega, fun st => ?_, fun x => mN (fun y => x y.2)⟩
  have seat := hC.seat q.1 q.2
  obtain ⟨n, hn⟩ := Int.eq_ofNat_of_zero_le (show 0 ≤ G c 6 - 1 - G (c + 13 + s) 1 by omega)
  have so := (hC.sok q.1 q.2).2.1
  have pr := fun k (k0 : 0 ≤ k) (k4 : k < 4) => hC.price k0 k4
  have big : ∀ x : Int, x = 0 → 0 ≤ x ∧ x ≤ 20000000 := fun x h => by omega
  -- the best of each tick, once and for all
  obtain ⟨bw, hbw⟩ : ∃ bw : Int → Int, ∀ t v, Bst (slB G c t) (wkD G c fs t) (spD G c fs t 0) (spD G c fs t 1) (G (c + 5) 0) (G (c + 5) 1) (G (c + 5) 2) n (G (c + 13 + s) 1 + 1) v → bw t = v := by
    refine ⟨fun t => Classical.epsilon (fun v => Bst (slB G c t) (wkD G c fs t) (spD G c fs t 0) (spD G c fs t 1) (G (c + 5) 0) (G (c + 5) 1) (G (c + 5) 2) n (G (c + 13 + s) 1 + 1) v), fun t v hv => ?_⟩
    exact (Classical.epsilon_spec ⟨v, hv⟩ : Bst _ _ _ _ _ _ _ _ _ _).one hv
  generalize hcs : (fun k : Int => k * G (c + 5) 3 * 10000 + pdF (slB G c (G 73 7 + k)) (spD G c fs (G 73 7 + k) 0) (spD G c fs (G 73 7 + k) 1) (G (c + 5) 0) (G (c + 5) 1) (fun q => dg (bw (G 73 7 + k)) q) n (G (c + 13 + s) 1 + 1)) = cst
  have hcs' : ∀ k v, Bst (slB G c (G 73 7 + k)) (wkD G c fs (G 73 7 + k)) (spD G c fs (G 73 7 + k) 0) (spD G c fs (G 73 7 + k) 1) (G (c + 5) 0) (G (c + 5) 1) (G (c + 5) 2) n (G (c + 13 + s) 1 + 1) v → k * G (c + 5) 3 * 10000 + pdF (slB G c (G 73 7 + k)) (spD G c fs (G 73 7 + k) 0) (spD G c fs (G 73 7 + k) 1) (G (c + 5) 0) (G (c + 5) 1) (fun q => dg v q) n (G (c + 13 + s) 1 + 1) = cst k := by
    intro k v hv
    rw [← hcs, ← hbw _ v hv]
  have csb : ∀ k v, 0 ≤ k ∧ k ≤ 12 → Bst (slB G c (G 73 7 + k)) (wkD G c fs (G 73 7 + k)) (spD G c fs (G 73 7 + k) 0) (spD G c fs (G 73 7 + k) 1) (G (c + 5) 0) (G (c + 5) 1) (G (c + 5) 2) n (G (c + 13 + s) 1 + 1) v → 0 ≤ cst k ∧ cst k ≤ 20000000 := by
    intro k v hk hv
    rw [← hcs' k v hv]
    have a := mul_bd (a := k) (A := 12) hk (pr 3 (by omega) (by omega))
    have b := bst_pd (C := 0) (p := G (c + 13 + s) 1 + 1) (v := v) (n := n) (ahOk (fs := fs) (t := G 73 7 + k) hC) (pr 0 (by omega) (by omega)) (pr 1 (by omega) (by omega)) (by omega)
    omega
  -- the model
  have mY : ∀ v G1, LkF c G G1 → staF cst (fun k => clsd G c (G 73 7 + k)) 13 0 (-1) 0 v → Ct (d + 8) M_X12_standing NT 0 0 (some lay) [(2, 311), (0, s)] G1 (Ok2 c fs G v) := by
    intro v G1 f1 hv
    refine ctof (s_X12_standing_0 (fun G2 e2 => ?_))
    have f2 : ThF G1 G2 := by rw [e2]; exact ThF.st
    have hR := f2.cu (hI.cu1 (hI.look f1))
    have hL := f2.lw (hI.lw1 (hI.look f1))
    refine c_isSitter hR is (fun _ => ⟨by omega, fun x => absurd x (by decide), fun _ => ⟨by omega, ?_⟩⟩) (fun x => absurd q x)
    have row := (hR.row q.1 q.2).2.1
    refine ⟨by omega, fun _ => ?_, fun x => absurd (by omega) x⟩
    have key : ∀ (m : Nat) (k f l : Int) (G3 : Mem), k + m = 13 → 0 ≤ k → WgF G2 G3 → (-1 ≤ f ∧ f ≤ 12) → (0 ≤ l ∧ l ≤ 20000000) → staF cst (fun k => clsd G c (G 73 7 + k)) m k f l v → Rn (d + 8) M_X12_standing zN 34 [(0, (2, 311)), (1, (0, s)), (2, (0, f)), (3, (0, l)), (4, (0, k))] [] G3 (Ok2 c fs G v) := by
      intro m
      induction m with
      | zero =>
        intro k f l G3 hk k0 f3 hf hl hs
        have hs : v = f := hs
        refine s_X12_standing_34 ⟨by omega, fun _ => ?_, fun x => absurd (by omega) x⟩
        rw [← hs]
        exact hI.ok (hI.look f1) (f2.ml.tr f3.ml)
      | succ m ih =>
        intro k f l G3 hk k0 f3 hf hl hs
        unfold staF at hs
        have hR3 := hR.ext f3.cor
        have hL3 := hL.ext f3.cor
        refine s_X12_standing_34 ⟨by omega, fun x => absurd x (by omega), fun _ => ?_⟩
        rw [hR3.nums.1]
        refine c_isShut hR3 (by omega) (fun x => ⟨by omega, fun z => absurd z (by decide), fun _ => ih (k + 1) f l G3 (by omega) (by omega) f3 hf hl (hs.1 x)⟩) (fun x => ⟨by omega, fun _ => ?_, fun z => absurd rfl z⟩)
        rw [hR3.nums.1]
        refine c_bestWays hR3 q hL3 (by omega) hn.symm (fun v2 G4 hv2 f4 _ k9 => ?_)
        have pr3 := (hR3.price (k := 3) (by omega) (by omega)).1
        simp only [Int.reduceAdd] at pr3
        have cb := csb k v2 (by omega) hv2
        have e : 10000 * k * G4 313 6 + G4 311 49 = cst k := by
          rw [k9, f4 313 6 (by omega) (by omega), pr3, ← hcs' k v2 hv2, Int.mul_comm 10000 k, Int.mul_assoc, Int.mul_comm 10000, ← Int.mul_assoc]
        rw [e]
        have hs := hs.2 x
        refine ⟨by omega, fun z => ih (k + 1) k (cst k) G4 (by omega) (by omega) (f3.tr f4) (by omega) cb (hs.1 (Or.inl (by omega))), fun z => ⟨by omega, by omega, fun z2 => ih (k + 1) k (cst k) G4 (by omega) (by omega) (f3.tr f4) (by omega) cb (hs.1 (Or.inr z2)), fun z2 => ih (k + 1) f l G4 (by omega) (by omega) (f3.tr f4) hf hl (hs.2 (by omega))⟩⟩
    exact key 13 0 (-1) 0 G2 (by omega) (by omega) WgF.rfl' (by omega) (big 0 rfl) hv
  obtain ⟨P, hP, mP⟩ : ∃ P : Int → Prop, (∀ v, staF cst (fun k => clsd G c (G 73 7 + k)) 13 0 (-1) 0 v → P v) ∧ (∀ v G1, LkF c G G1 → P v → Ct (d + 8) M_X12_standing NT 0 0 (some lay) [(2, 311), (0, s)] G1 (Ok2 c fs G v)) := ⟨_, fun v h => h, mY⟩
  -- the class
  have key : ∀ (m : Nat) (k f l : Int) (G1 : Mem), k + m = 13 → 0 ≤ k → LkF c G G1 → (-1 ≤ f ∧ f ≤ 12) → (0 ≤ l ∧ l ≤ 20000000) → (∀ v, staF cst (fun k => clsd G c (G 73 7 + k)) m k f l v → P v) → Rn (d + 4) M_X11_standing zN 30 [(0, (2, 0)), (1, (0, s)), (2, (0, f)), (3, (0, l)), (4, (0, k))] [] G1 (fun v G1 => Ct (d + 8) M_X12_standing NT 0 0 (some lay) [(2, 311), (0, s)] G1 (Ok2 c fs G v)) := by
    intro m
    induction m with
    | zero =>
      intro k f l G1 hk k0 f1 hf hl hs
      exact s_X11_standing_30 ⟨by omega, fun _ => mP f G1 f1 (hs f rfl), fun x => absurd (by omega) x⟩
    | succ m ih =>
      intro k f l G1 hk k0 f1 hf hl hs
      have hC1 := hC.lk h37 f1
      have o : ∀ q k : Int, q ≠ c + 7 → q ≠ c + 12 → ¬ (6 ≤ q ∧ q ≤ 11) → G1 q k = G q k := f1
      have cd : clsd G1 c (G 73 7 + k) ↔ clsd G c (G 73 7 + k) := by
        unfold clsd
        rw [o c 7 (by omega) (by omega) (by omega), o (c + 4) _ (by omega) (by omega) (by omega)]
      refine s_X11_standing_30 ⟨by omega, fun x => absurd x (by omega), fun _ b hb => ?_⟩
      rw [hC1.1] at hb
      subst hb
      rw [o 73 7 (by omega) (by omega) (by omega)]
      refine ⟨hC.2.1, c_clo hC1 (by omega) (fun x => ⟨by omega, fun _ => ih (k + 1) f l G1 (by omega) (by omega) f1 hf hl (fun v hv => hs v ⟨fun _ => hv, fun y => absurd (cd.mp x) y⟩), fun z => absurd (show (1 : Int) ≠ 0 by decide) z⟩) (fun x => ⟨by omega, fun z => absurd rfl z, fun _ b10 h10 => ?_⟩)⟩
      rw [hC1.1] at h10
      subst h10
      have x' : ¬ clsd G b10 (G 73 7 + k) := fun y => x (cd.mpr y)
      have e1 : G1 (b10 + 13 + s) 1 = G (b10 + 13 + s) 1 := o _ _ (by omega) (by omega) (by omega)
      have e6 : G1 b10 6 = G b10 6 := o _ _ (by omega) (by omega) (by omega)
      have e8 : G1 b10 8 = G b10 8 := o _ _ (by omega) (by omega) (by omega)
      have rd := f1.rd h37
      refine ⟨hC.2.1, c_look hC1 h37 (by omega) (by omega) (hI.2.2.1.extC (f1.cor h37)) (n := n) (by rw [e1, e6]; exact hn.symm) (fun G2 f2 hT b15 h15 => ?_)⟩
      have f2' := f1.tr f2
      have hC2 := hC.lk h37 f2'
      rw [hC2.1] at h15
      subst h15
      have hT' : HdT G2 G b15 fs (G 73 7 + k) n (G (b15 + 13 + s) 1 + 1) := by
        have y := HdT.rd hC rd hT
        rw [e1] at y
        exact y
      refine ⟨hC.2.1, c_cheapest hT' (fun v hv => c_paid hT' (by have := hv.1.1; have := p3_in (n := G (b15 + 13 + s) 1 + 1 + n) (by omega); omega) ?_)⟩
      have e3 : G2 (b15 + 5) 3 = G (b15 + 5) 3 := f2' _ _ (by omega) (by omega) (by omega)
      have cb := csb k v (by omega) hv
      rw [e3, hcs' k v hv]
      refine ⟨by omega, fun z => ih (k + 1) k (cst k) G2 (by omega) (by omega) f2' (by omega) cb (fun u hu => hs u ⟨fun y => absurd y x', fun _ => ⟨fun _ => hu, fun y => absurd (Or.inl z) y⟩⟩), fun z => ⟨by omega, by omega, fun z2 => ih (k + 1) f l G2 (by omega) (by omega) f2' hf hl (fun u hu => hs u ⟨fun y => absurd y x', fun _ => ⟨fun y => absurd y (by omega), fun _ => hu⟩⟩), fun z2 => ih (k + 1) k (cst k) G2 (by omega) (by omega) f2' (by omega) cb (fun u hu => hs u ⟨fun y => absurd y x', fun _ => ⟨fun _ => hu, fun y => absurd (Or.inr (by omega)) y⟩⟩)⟩⟩
  exact key 13 0 (-1) 0 G (by omega) (by omega) LkF.rfl' (by omega) (big 0 rfl) hP
end CHANCE
