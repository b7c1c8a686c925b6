section WAYS
variable {d : Nat} {S G H : Mem} {Q : Int → Mem → Prop} {c : Int}
/-! WAYS and LUCK -/
def p3 (n : Int) : Int := thr.getD (Int.toNat n) 0
def dg (w p : Int) : Int := Int.tmod (Int.tdiv w (p3 p)) 3
def bitL (l p : Int) : Int := if andI (shrI l p) 1 = 1 then 1 else 0
theorem bitL_01 (l p : Int) : bitL l p = 0 ∨ bitL l p = 1 := by unfold bitL; split <;> omega
theorem shl_s : shlI 1 0 = 1 ∧ shlI 1 1 = 2 ∧ shlI 1 2 = 4 ∧ shlI 1 3 = 8 ∧ shlI 1 4 = 16 ∧ shlI 1 5 = 32 := by unfold shlI; decide +kernel
theorem p3_s : p3 0 = 1 ∧ p3 1 = 3 ∧ p3 2 = 9 ∧ p3 3 = 27 ∧ p3 4 = 81 ∧ p3 5 = 243 := by unfold p3; decide
theorem p3_in {n : Int} (h : 0 ≤ n ∧ n ≤ 5) : 1 ≤ p3 n ∧ p3 n ≤ 243 := by
  obtain ⟨e0, e1, e2, e3, e4, e5⟩ := p3_s
  rcases (by omega : n = 0 ∨ n = 1 ∨ n = 2 ∨ n = 3 ∨ n = 4 ∨ n = 5) with rfl | rfl | rfl | rfl | rfl | rfl <;> omega
theorem shl_in {n : Int} (h : 0 ≤ n ∧ n ≤ 5) : 1 ≤ shlI 1 n ∧ shlI 1 n ≤ 32 := by
  obtain ⟨e0, e1, e2, e3, e4, e5⟩ := shl_s
  rcases (by omega : n = 0 ∨ n = 1 ∨ n = 2 ∨ n = 3 ∨ n = 4 ∨ n = 5) with rfl | rfl | rfl | rfl | rfl | rfl <;> omega
theorem dg_q {w p : Int} (hp : 0 ≤ p ∧ p ≤ 5) (hw : 0 ≤ w ∧ w ≤ 2147483647) : 0 ≤ Int.tdiv w (p3 p) ∧ Int.tdiv w (p3 p) ≤ w ∧ 0 ≤ dg w p ∧ dg w p ≤ 2 := by
  unfold dg
  have h1 : 0 ≤ Int.tdiv w (p3 p) := Int.tdiv_nonneg hw.1 (by have := p3_in hp; omega)
  have h2 : Int.tdiv w (p3 p) ≤ w := Int.tdiv_le_self _ hw.1
  refine ⟨h1, h2, ?_⟩
  rw [Int.tmod_eq_emod_of_nonneg h1]
  omega
theorem c_X0_wayAt {w p : Int} (hp : 0 ≤ p ∧ p ≤ 5) (hw : 0 ≤ w ∧ w ≤ 2147483647) (h : Q (dg w p) G) : Ct d M_X0_wayAt NT 0 0 (some lay) [(0, w), (0, p)] G Q := by
  have := dg_q hp hw
  have k := p3_in hp
  unfold p3 at this k
  exact ctof (s_X0_wayAt_0 ⟨by omega, by omega, by omega, by omega, h⟩)
theorem c_power {b : Int} {n : Nat} (hn : n ≤ 1000) (h : Q (b ^ n) G) : Ct d M_X12_power NT 0 0 (some lay) [(0, b), (0, (n : Int))] G Q := by
  refine ctof (s_X12_power_0 ?_)
  have key : ∀ (k i : Nat), i + k = n → Rn d M_X12_power zN 4 [(0, (0, b)), (1, (0, (n : Int))), (2, (0, b ^ i)), (3, (0, (i : Int)))] [] G Q := by
    intro k
    induction k with
    | zero =>
      intro i hi
      refine s_X12_power_4 ⟨by omega, by omega, fun _ => ?_, fun c => absurd (by omega) c⟩
      rw [show i = n by omega]; exact h
    | succ k ih =>
      intro i hi
      refine s_X12_power_4 ⟨by omega, by omega, fun c => by omega, fun _ => ?_⟩
      have := ih (i + 1) (by omega)
      rw [Int.pow_succ] at this
      exact this
  have := key n 0 (by omega)
  rw [Int.pow_zero] at this
  exact this
theorem p3_pow {n : Int} (h : 0 ≤ n ∧ n ≤ 5) : (3 : Int) ^ n.toNat = p3 n := by
  rcases (by omega : n = 0 ∨ n = 1 ∨ n = 2 ∨ n = 3 ∨ n = 4 ∨ n = 5) with rfl | rfl | rfl | rfl | rfl | rfl <;> decide
theorem c_power3 {n : Int} (hn : 0 ≤ n ∧ n ≤ 5) (h : Q (p3 n) G) : Ct d M_X12_power NT 0 0 (some lay) [(0, 3), (0, n)] G Q := by
  have e : n = ((n.toNat : Nat) : Int) := by omega
  rw [e]
  refine c_power (by omega) ?_
  rw [p3_pow hn]; exact h
theorem c_digit {w p : Int} (hp : 0 ≤ p ∧ p ≤ 5) (hw : 0 ≤ w ∧ w ≤ 2147483647) (h : Q (dg w p) G) : Ct (d + 1) M_X12_digit NT 0 0 (some lay) [(0, w), (0, p)] G Q := by
  have := dg_q hp hw
  have k := p3_in hp
  exact ctof (s_X12_digit_0 (c_power3 hp ⟨by omega, by omega, by omega, h⟩))
theorem c_areWays {w l : Int} (hR : Cu S G c) (hw : InR w) (hl : InR l) (h1 : (0 ≤ w ∧ w < p3 (S c 6)) ∧ (0 ≤ l ∧ l < shlI 1 (S c 6)) → Q 1 G) (h0 : ¬ ((0 ≤ w ∧ w < p3 (S c 6)) ∧ (0 ≤ l ∧ l < shlI 1 (S c 6))) → Q 0 G) : Ct (d + 1) M_X12_areWays NT 0 0 (some lay) [(2, 311), (0, w), (0, l)] G Q := by
  have r := hR.rng
  have e := hR.seats.1
  have k := p3_in (n := S c 6) (by omega)
  have k2 := shl_in (n := S c 6) (by omega)
  refine ctof (s_X12_areWays_0 ?_)
  rw [e]
  refine c_power3 (by omega) (c_within hw (by omega) (by omega) (fun q => ⟨by omega, fun x => absurd x (by decide), fun _ => by rw [e]; exact c_within hl (by omega) (by omega) (fun q2 => ⟨by omega, fun x => absurd x (by decide), fun _ => h1 (by omega)⟩) (fun q2 => ⟨by omega, fun _ => h0 (by omega), fun x => absurd rfl x⟩)⟩) (fun q => ⟨by omega, fun _ => h0 (by omega), fun x => absurd rfl x⟩))
/-! the class, as it stands -/
def Cls (G : Mem) (c : Int) : Prop := G 0 13 = c ∧ Bs 1 c ∧ CbOk G c ∧ StOk G 73 ∧ G 73 7 ≤ G c 7
theorem Cls.of (h0 : G 0 13 = c) (h : Cur G c) : Cls G c := ⟨h0, h.1, h.2.1, h.2.2.1, h.2.2.2.1⟩
theorem Cls.rng (h : Cls G c) : (2 ≤ G c 6 ∧ G c 6 ≤ 5) ∧ (1 ≤ G c 7 ∧ G c 7 ≤ 72) ∧ (0 ≤ G c 8 ∧ G c 8 ≤ 5) ∧ (5 ≤ G c 9 ∧ G c 9 ≤ 20) ∧ (0 ≤ G c 10 ∧ G c 10 ≤ 10) := ⟨h.2.2.1.1, h.2.2.1.2.1, h.2.2.1.2.2.1, h.2.2.1.2.2.2.1, h.2.2.1.2.2.2.2.1⟩
theorem Cls.sok (h : Cls G c) {i : Int} (h0 : 0 ≤ i) (h1 : i < G c 8) : SitOk G (c + 13 + i) := (h.2.2.1.2.2.2.2.2.1 i h0 h1).1
theorem Cls.seat (h : Cls G c) {i : Int} (h0 : 0 ≤ i) (h1 : i < G c 8) : G (c + 13 + i) 1 < G c 6 ∧ G (c + 2) (G (c + 13 + i) 1) = i := (h.2.2.1.2.2.2.2.2.1 i h0 h1).2
theorem Cls.on (h : Cls G c) {s : Int} (h0 : 0 ≤ s) (h1 : s < 5) : G (c + 2) s = -1 ∨ (0 ≤ G (c + 2) s ∧ G (c + 2) s < G c 8 ∧ G (c + 13 + G (c + 2) s) 1 = s) := h.2.2.1.2.2.2.2.2.2.1 s h0 h1
theorem Cls.rok (h : Cls G c) {i : Int} (h0 : 0 ≤ i) (h1 : i < 5) : (0 ≤ G 74 i ∧ G 74 i ≤ 199) ∧ (-1 ≤ G 75 i ∧ G 75 i ≤ 10) ∧ (-100 ≤ G 76 i ∧ G 76 i ≤ 72) ∧ (0 ≤ G 80 i ∧ G 80 i ≤ 1) ∧ (0 < G 75 i → G 74 i = 0) := h.2.2.2.1.2 i h0 h1
theorem Cls.tick (h : Cls G c) : (0 ≤ G 73 7 ∧ G 73 7 ≤ 72) ∧ G 73 7 ≤ G c 7 := ⟨h.2.2.2.1.1, h.2.2.2.2⟩
theorem c_X11_known {p : Int} (hC : Cls G c) (hp : InR p) (h1 : 0 ≤ p ∧ p < G c 8 → Q 1 G) (h0 : ¬ (0 ≤ p ∧ p < G c 8) → Q 0 G) : Ct d M_X11_known NT 0 0 (some lay) [(2, 0), (0, p)] G Q := by
  have r := hC.rng
  have hc := hC.1
  refine ctof (s_X11_known_0 ⟨hp, fun _ => h0 (by omega), fun _ b hb => ?_⟩)
  rw [hc] at hb
  subst hb
  exact ⟨hC.2.1, by omega, fun _ => h0 (by omega), fun _ => h1 (by omega)⟩
theorem c_X11_movable {p : Int} (hC : Cls G c) (hp : InR p) (h1 : (0 ≤ p ∧ p < G c 8) ∧ G 75 p ≤ 0 → Q 1 G) (h0 : ¬ ((0 ≤ p ∧ p < G c 8) ∧ G 75 p ≤ 0) → Q 0 G) : Ct (d + 1) M_X11_movable NT 0 0 (some lay) [(2, 0), (0, p)] G Q := by
  have r := hC.rng
  refine ctof (s_X11_movable_0 (c_X11_known hC hp (fun q => ⟨by omega, fun x => absurd x (by decide), fun _ => ⟨by omega, ?_⟩⟩) (fun q => ⟨by omega, fun _ => h0 (by omega), fun x => absurd rfl x⟩)))
  have o := (hC.rok (i := p) (by omega) (by omega)).2.1
  exact ⟨by omega, fun _ => h0 (by omega), fun _ => h1 (by omega)⟩
theorem c_X11_rightWays {w : Int} (hC : Cls G c) (hw : InR w) (h1 : 0 ≤ w ∧ w < p3 (G c 6) → Q 1 G) (h0 : ¬ (0 ≤ w ∧ w < p3 (G c 6)) → Q 0 G) : Ct d M_X11_rightWays NT 0 0 (some lay) [(2, 0), (0, w)] G Q := by
  have r := hC.rng
  have hc := hC.1
  refine ctof (s_X11_rightWays_0 ⟨hw, fun _ => h0 (by omega), fun _ b hb => ?_⟩)
  rw [hc] at hb
  subst hb
  have k := p3_in (n := G b 6) (by omega)
  unfold p3 at h1 h0 k
  exact ⟨hC.2.1, by omega, by omega, fun _ => h0 (by omega), fun _ => h1 (by omega)⟩
theorem c_X11_rightLuck {w : Int} (hC : Cls G c) (hw : InR w) (h1 : 0 ≤ w ∧ w < shlI 1 (G c 6) → Q 1 G) (h0 : ¬ (0 ≤ w ∧ w < shlI 1 (G c 6)) → Q 0 G) : Ct d M_X11_rightLuck NT 0 0 (some lay) [(2, 0), (0, w)] G Q := by
  have r := hC.rng
  have hc := hC.1
  refine ctof (s_X11_rightLuck_0 ⟨hw, fun _ => h0 (by omega), fun _ b hb => ?_⟩)
  rw [hc] at hb
  subst hb
  have k := shl_in (n := G b 6) (by omega)
  exact ⟨hC.2.1, by omega, fun _ => h0 (by omega), fun _ => h1 (by omega)⟩
end WAYS
