section TRULY
variable {d : Nat} {S S' G G' H : Mem} {Q : Int → Mem → Prop} {c : Int} {fs : Int → Law}
/-! truly: weights, and the greatest common divisor -/
def lkF (a : Int) (m k : Nat) : Int := a ^ m * (10 - a) ^ k
theorem pow_bd {a : Int} (h : 0 ≤ a ∧ a ≤ 10) : ∀ n : Nat, 0 ≤ a ^ n ∧ a ^ n ≤ 10 ^ n := by
  intro n
  induction n with
  | zero => simp
  | succ n ih =>
    rw [Int.pow_succ, Int.pow_succ]
    have x := mul_bd ih h
    exact x
theorem lkF_bd {a : Int} {m k : Nat} (h : 0 ≤ a ∧ a ≤ 10) (hm : m + k ≤ 15) : 0 ≤ lkF a m k ∧ lkF a m k ≤ 1000000000000000 := by
  unfold lkF
  have x := mul_bd (pow_bd h m) (pow_bd (a := 10 - a) (by omega) k)
  rw [← Int.pow_add] at x
  refine ⟨x.1, Int.le_trans x.2 ?_⟩
  have y : (10 : Int) ^ (m + k) ≤ 10 ^ 15 := by
    have z := Nat.pow_le_pow_right (show 0 < 10 by decide) hm
    have w : ((10 ^ (m + k) : Nat) : Int) ≤ ((10 ^ 15 : Nat) : Int) := by exact_mod_cast z
    rw [Int.natCast_pow, Int.natCast_pow] at w
    exact w
  exact y
theorem c_likely_C {w a : Int} {m k : Nat} (hw : 0 ≤ w ∧ w < 5) (e1 : G 82 w = m) (e2 : G 83 w = k) (hm : m + k ≤ 15) (ha : 0 ≤ a ∧ a ≤ 10) (h : Q (lkF a m k) G) : Ct d M_X9_likely NT 0 0 (some lay) [(2, 81), (0, w), (0, a)] G Q := by
  have two : ∀ (j i : Nat), i + j = k → Rn d M_X9_likely zN 30 [(0, (2, 81)), (1, (0, w)), (2, (0, a)), (3, (1, a ^ m * (10 - a) ^ i)), (5, (0, (i : Int)))] [] G Q := by
    intro j
    induction j with
    | zero =>
      intro i hi
      refine s_X9_likely_30 b9_81 ⟨hw, by omega, show InR (G 83 w) by omega, fun _ => ?_, fun x => absurd (show G 83 w ≤ _ by omega) x⟩
      rw [show i = k by omega]; exact h
    | succ j ih =>
      intro i hi
      refine s_X9_likely_30 b9_81 ⟨hw, by omega, show InR (G 83 w) by omega, fun x => absurd (show G 83 w ≤ _ from x) (by omega), fun _ => ⟨by omega, ?_⟩⟩
      have x := ih (i + 1) (by omega)
      rw [Int.pow_succ, ← Int.mul_assoc] at x
      exact x
  have one : ∀ (j i : Nat), i + j = m → Rn d M_X9_likely zN 5 [(0, (2, 81)), (1, (0, w)), (2, (0, a)), (3, (1, a ^ i)), (5, (0, (i : Int)))] [] G Q := by
    intro j
    induction j with
    | zero =>
      intro i hi
      refine s_X9_likely_5 b9_81 ⟨hw, by omega, show InR (G 82 w) by omega, fun _ => ?_, fun x => absurd (show G 82 w ≤ _ by omega) x⟩
      have x := two k 0 (by omega)
      rw [Int.pow_zero, Int.mul_one] at x
      rw [show i = m by omega]; exact x
    | succ j ih =>
      intro i hi
      refine s_X9_likely_5 b9_81 ⟨hw, by omega, show InR (G 82 w) by omega, fun x => absurd (show G 82 w ≤ _ from x) (by omega), fun _ => ⟨by omega, ?_⟩⟩
      have x := ih (i + 1) (by omega)
      rw [Int.pow_succ] at x
      exact x
  refine ctof (s_X9_likely_0 b9_81 ?_)
  have x := one m 0 (by omega)
  rw [Int.pow_zero] at x
  exact x
theorem c_likely_M {w a : Int} {m k : Nat} (hw : 0 ≤ w ∧ w < 5) (e1 : G 342 (35 + w) = m) (e2 : G 342 (40 + w) = k) (hm : m + k ≤ 15) (ha : 0 ≤ a ∧ a ≤ 10) (h : Q (lkF a m k) G) : Ct d M_X12_likely NT 0 0 (some lay) [(2, 311), (0, w), (0, a)] G Q := by
  have two : ∀ (j i : Nat), i + j = k → Rn d M_X12_likely zN 33 [(0, (2, 311)), (1, (0, w)), (2, (0, a)), (3, (1, a ^ m * (10 - a) ^ i)), (5, (0, (i : Int)))] [] G Q := by
    intro j
    induction j with
    | zero =>
      intro i hi
      refine s_X12_likely_33 ⟨by omega, by omega, by omega, fun _ => ?_, fun x => absurd (by omega) x⟩
      rw [show i = k by omega]; exact h
    | succ j ih =>
      intro i hi
      refine s_X12_likely_33 ⟨by omega, by omega, by omega, fun x => by omega, fun _ => ⟨by omega, ?_⟩⟩
      have x := ih (i + 1) (by omega)
      rw [Int.pow_succ, ← Int.mul_assoc] at x
      exact x
  have one : ∀ (j i : Nat), i + j = m → Rn d M_X12_likely zN 5 [(0, (2, 311)), (1, (0, w)), (2, (0, a)), (3, (1, a ^ i)), (5, (0, (i : Int)))] [] G Q := by
    intro j
    induction j with
    | zero =>
      intro i hi
      refine s_X12_likely_5 ⟨by omega, by omega, by omega, fun _ => ?_, fun x => absurd (by omega) x⟩
      have x := two k 0 (by omega)
      rw [Int.pow_zero, Int.mul_one] at x
      rw [show i = m by omega]; exact x
    | succ j ih =>
      intro i hi
      refine s_X12_likely_5 ⟨by omega, by omega, by omega, fun x => by omega, fun _ => ⟨by omega, ?_⟩⟩
      have x := ih (i + 1) (by omega)
      rw [Int.pow_succ] at x
      exact x
  refine ctof (s_X12_likely_0 ?_)
  have x := one m 0 (by omega)
  rw [Int.pow_zero] at x
  exact x
theorem gcd_step (x y : Nat) : Nat.gcd y (x % y) = Nat.gcd x y := by
  rw [Nat.gcd_comm x y, Nat.gcd_rec y x, Nat.gcd_comm]
theorem gcd_half {x y : Nat} (h : y ≤ x) (h0 : 0 < y) : 2 * (x % y) ≤ x := by
  have h1 := Nat.mod_lt x h0
  have h2 := Nat.div_add_mod x y
  have h3 : 1 ≤ x / y := (Nat.one_le_div_iff h0).mpr h
  have h4 : y * 1 ≤ y * (x / y) := Nat.mul_le_mul_left y h3
  omega
theorem c_cd {x y : Nat} (h0 : 0 < x) (hyx : y ≤ x) (hb : x ≤ 2000000000000000) (h : Q ((Nat.gcd x y : Nat) : Int) G) : Ct d M_X11_commonDivisor NT 0 0 (some lay) [(1, (x : Int)), (1, (y : Int))] G Q := by
  refine ctof (s_X11_commonDivisor_0 ?_)
  have key : ∀ (n i x y : Nat), i + n ≤ 199 → 0 < x → y ≤ x → x ≤ 2000000000000000 → x * y < 2 ^ n → Q ((Nat.gcd x y : Nat) : Int) G → Rn d M_X11_commonDivisor zN 9 [(4, (1, (x : Int))), (6, (1, (y : Int))), (8, (0, (i : Int)))] [] G Q := by
    intro n
    induction n with
    | zero =>
      intro i x y hi hx hyx hb hp hq
      have hy : y = 0 := by
        rcases Nat.eq_zero_or_pos y with z | z
        · exact z
        · have := Nat.mul_pos hx z
          simp at hp
          omega
      subst hy
      rw [Nat.gcd_zero_right] at hq
      exact s_X11_commonDivisor_9 ⟨by omega, fun z => by omega, fun _ => ⟨by omega, fun _ => s_X11_commonDivisor_45 ⟨by omega, fun _ => hq, fun z => by omega⟩, fun z => absurd rfl z⟩⟩
    | succ n ih =>
      intro i x y hi hx hyx hb hp hq
      refine s_X11_commonDivisor_9 ⟨by omega, fun z => by omega, fun _ => ⟨by omega, fun z => s_X11_commonDivisor_45 ⟨by omega, fun _ => ?_, fun z => by omega⟩, fun z => ⟨by omega, by omega, ?_⟩⟩⟩
      · obtain rfl : y = 0 := by omega
        rw [Nat.gcd_zero_right] at hq; exact hq
      · rw [← Int.ofNat_tmod]
        have hy : 0 < y := by omega
        have lt := Nat.mod_lt x hy
        have hf := gcd_half hyx hy
        refine ih (i + 1) y (x % y) (by omega) hy (by omega) (by omega) ?_ (by rw [gcd_step]; exact hq)
        have m1 : y * (2 * (x % y)) ≤ y * x := Nat.mul_le_mul_left y hf
        rw [Nat.pow_succ] at hp
        have m2 : y * (2 * (x % y)) = 2 * (y * (x % y)) := by rw [Nat.mul_left_comm]
        have m3 : y * x = x * y := Nat.mul_comm y x
        omega
  refine key 110 0 x y (by omega) h0 hyx hb ?_ h
  have a1 : x * y ≤ 2000000000000000 * 2000000000000000 := Nat.mul_le_mul hb (by omega)
  exact Nat.lt_of_le_of_lt a1 (Nat.le_of_ble_eq_true rfl)
theorem c_gcd {x y : Nat} (hb : x ≤ 2000000000000000) (hyb : y ≤ 2000000000000000) (h : Q ((Nat.gcd x y : Nat) : Int) G) : Ct d M_X12_gcd NT 0 0 (some lay) [(1, (x : Int)), (1, (y : Int))] G Q := by
  refine ctof (s_X12_gcd_0 ?_)
  have key : ∀ (n x y : Nat), y ≤ n → x ≤ 2000000000000000 → y ≤ 2000000000000000 → Q ((Nat.gcd x y : Nat) : Int) G → Rn d M_X12_gcd zN 6 [(4, (1, (x : Int))), (6, (1, (y : Int)))] [] G Q := by
    intro n
    induction n with
    | zero =>
      intro x y hy hb hyb hq
      obtain rfl : y = 0 := by omega
      rw [Nat.gcd_zero_right] at hq
      exact s_X12_gcd_6 ⟨by omega, fun _ => hq, fun z => absurd rfl z⟩
    | succ n ih =>
      intro x y hy hb hyb hq
      refine s_X12_gcd_6 ⟨by omega, fun z => ?_, fun z => ⟨by omega, by omega, ?_⟩⟩
      · obtain rfl : y = 0 := by omega
        rw [Nat.gcd_zero_right] at hq; exact hq
      · rw [← Int.ofNat_tmod]
        have lt := Nat.mod_lt x (show 0 < y by omega)
        exact ih y (x % y) (by omega) hyb (by omega) (by rw [gcd_step]; exact hq)
  exact key y x y (Nat.le_refl _) hb hyb h
def truV (a b : Int) (m k : Nat) (w : Int) : Int := if lkF a m k + lkF b m k = 0 then -1 else Int.tdiv (if w = 0 then lkF a m k else lkF a m k + lkF b m k) ((Nat.gcd (lkF a m k + lkF b m k).toNat (lkF a m k).toNat : Nat) : Int)
theorem t_truly {s w : Int} (hI : Inv0 G G c fs) (is : InR s) (iw : InR w) : Ct (d + 2) M_X11_truly NT 0 0 (some lay) [(2, 0), (0, s), (0, w)] G (fun v G1 => Ct (d + 2) M_X12_truly NT 0 0 (some lay) [(2, 311), (0, s), (0, w)] G1 (Ok2 c fs G v)) := by
  have hC := hI.cls
  have r := hC.rng
  have hc := hC.1
  have hTl := hI.2.2.2.2.1
  have mN : ¬ ((0 ≤ s ∧ s < G c 8) ∧ 0 ≤ w ∧ w ≤ 1) → Ct (d + 2) M_X12_truly NT 0 0 (some lay) [(2, 311), (0, s), (0, w)] G (Ok2 c fs G (-1)) := by
    intro hno
    refine ctof (s_X12_truly_0 (fun G1 e1 => ?_))
    have f1 : ThF G G1 := by rw [e1]; exact ThF.st
    have hR := f1.cu hI.2.1
    have ok : Ok2 c fs G (-1) (-1) G1 := hI.ok ClF.rfl' f1.ml
    exact c_isSitter hR is (fun q => ⟨by omega, fun _ => ok, fun _ => c_within iw (by omega) (by omega) (fun q2 => absurd ⟨q, q2⟩ hno) (fun q2 => ⟨by omega, fun x => absurd rfl x, fun _ => ok⟩)⟩) (fun q => ⟨by omega, fun _ => ok, fun x => absurd rfl x⟩)
  refine ctof (s_X11_truly_0 (c_X11_known hC is (fun q => ⟨by omega, fun x => absurd x (by decide), fun _ => ⟨iw, fun x => mN (by omega), fun x => ⟨fun x2 b hb => ?_, fun x2 => mN (by omega)⟩⟩⟩) (fun q => ⟨by omega, fun _ => mN (fun x => q x.1), fun x => absurd rfl x⟩)))
  rw [hc] at hb
  subst hb
  refine ⟨hC.2.1, by omega, fun b2 h2 => ?_⟩
  rw [hc] at h2
  subst h2
  refine ⟨hC.2.1, ?_⟩
  obtain ⟨x1, x2', x3, x4, x5, x6⟩ := hTl s (by omega) (by omega)
  simp only [Int.zero_add, Int.reduceAdd] at x1 x2' x4
  obtain ⟨m, hm⟩ := Int.eq_ofNat_of_zero_le x4.1
  obtain ⟨k, hk⟩ := Int.eq_ofNat_of_zero_le x4.2.1
  have hmk : m + k ≤ 15 := by omega
  have so := (hC.sok q.1 q.2).2.2.2.2.2.1
  have f10 := r.2.2.2.2
  have ba := lkF_bd (a := G b2 10) (m := m) (k := k) (by omega) hmk
  have bb := lkF_bd (a := 10 - G (b2 + 13 + s) 5) (m := m) (k := k) (by omega) hmk
  have mY : ∀ v, v = truV (G b2 10) (10 - G (b2 + 13 + s) 5) m k w → Ct (d + 2) M_X12_truly NT 0 0 (some lay) [(2, 311), (0, s), (0, w)] G (Ok2 b2 fs G v) := by
    intro v hv
    refine ctof (s_X12_truly_0 (fun G1 e1 => ?_))
    have f1 : ThF G G1 := by rw [e1]; exact ThF.st
    have hR := f1.cu hI.2.1
    have ok : ∀ u, u = v → Ok2 b2 fs G v u G1 := fun u hu => by rw [hu]; exact hI.ok ClF.rfl' f1.ml
    have y1 : G1 342 (35 + s) = m := by rw [f1 _ _ (by omega), x1, hm]
    have y2 : G1 342 (40 + s) = k := by rw [f1 _ _ (by omega), x2', hk]
    have sit := (hR.sit q.1 q.2).2.2.2.2.2.1
    have se := hR.seats.2.2.2.1
    refine c_isSitter hR is (fun _ => ⟨by omega, fun x => absurd x (by decide), fun _ => c_within iw (by omega) (by omega) (fun _ => ⟨by omega, fun _ => ?_, fun x => absurd (show (1 : Int) ≠ 0 by decide) x⟩) (fun z => absurd (by omega) z)⟩) (fun z => absurd q z)
    rw [se]
    refine c_likely_M (m := m) (k := k) (by omega) y1 y2 hmk (by omega) ⟨by omega, ?_⟩
    rw [sit]
    refine c_likely_M (m := m) (k := k) (by omega) y1 y2 hmk (by omega) ?_
    unfold truV at hv
    generalize lkF (G b2 10) m k = A at *
    generalize lkF (10 - G (b2 + 13 + s) 5) m k = B at *
    have L78 : A + B ≠ 0 → ∀ u, u = (if w = 0 then A else A + B) → Rn (d + 2) M_X12_truly zN 78 [(3, (1, A)), (5, (1, A + B))] [(1, u)] G1 (Ok2 b2 fs G v) := by
      intro nz u hu
      obtain ⟨y, hy⟩ := Int.eq_ofNat_of_zero_le ba.1
      obtain ⟨x, hx⟩ := Int.eq_ofNat_of_zero_le (show 0 ≤ A + B by omega)
      rw [if_neg nz, ← hu, hy, show (y : Int) + B = x by omega, Int.toNat_natCast, Int.toNat_natCast] at hv
      have gp : 0 < Nat.gcd x y := Nat.gcd_pos_of_pos_left _ (by omega)
      have gl : Nat.gcd x y ≤ x := Nat.le_of_dvd (by omega) (Nat.gcd_dvd_left x y)
      refine s_X12_truly_78 ?_
      rw [hx, hy]
      exact c_gcd (by omega) (by omega) ⟨by split at hu <;> omega, by omega, ok _ hv.symm⟩
    refine ⟨by omega, fun nz => ⟨iw, fun z => L78 nz _ (by rw [if_neg z]), fun z => L78 nz _ (by rw [if_pos (Decidable.not_not.mp z)])⟩, fun z => ok _ ?_⟩
    rw [if_pos (Decidable.not_not.mp z)] at hv
    exact hv.symm
  unfold truV at mY
  refine c_likely_C (m := m) (k := k) (by omega) hm hk hmk (by omega) (c_likely_C (m := m) (k := k) (by omega) hm hk hmk (by omega) ?_)
  generalize lkF (G b2 10) m k = A at *
  generalize lkF (10 - G (b2 + 13 + s) 5) m k = B at *
  have L90 : A + B ≠ 0 → ∀ u, u = (if w = 0 then A else A + B) → Rn (d + 2) M_X11_truly zN 90 [(4, (1, A)), (6, (1, A + B))] [(1, u)] G (fun v G1 => Ct (d + 2) M_X12_truly NT 0 0 (some lay) [(2, 311), (0, s), (0, w)] G1 (Ok2 b2 fs G v)) := by
    intro nz u hu
    obtain ⟨y, hy⟩ := Int.eq_ofNat_of_zero_le ba.1
    obtain ⟨x, hx⟩ := Int.eq_ofNat_of_zero_le (show 0 ≤ A + B by omega)
    have gp : 0 < Nat.gcd x y := Nat.gcd_pos_of_pos_left _ (by omega)
    have gl : Nat.gcd x y ≤ x := Nat.le_of_dvd (by omega) (Nat.gcd_dvd_left x y)
    refine s_X11_truly_90 ?_
    rw [hx, hy]
    refine c_cd (by omega) (by omega) (by omega) ⟨by split at hu <;> omega, by omega, mY _ ?_⟩
    rw [if_neg nz, ← hu, hy, show (y : Int) + B = x by omega, Int.toNat_natCast, Int.toNat_natCast]
  exact ⟨by omega, fun nz => ⟨fun z => L90 nz _ (by rw [if_neg z]), fun z => L90 nz _ (by rw [if_pos (Decidable.not_not.mp z)])⟩, fun z => mY _ (by rw [if_pos (Decidable.not_not.mp z)])⟩
end TRULY
