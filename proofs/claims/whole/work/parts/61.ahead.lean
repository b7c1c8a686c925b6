section AHEAD
variable {d : Nat} {S S' G G' H : Mem} {Q : Int → Mem → Prop} {c : Int} {fs : Int → Law}
/-! the sleepers ahead, in the class -/
def slB (S : Mem) (c t q : Int) : Bool := decide ((0 ≤ q ∧ q < 5) ∧ 0 ≤ S (c + 2) q ∧ aslp S 73 c (S (c + 2) q) t)
def wkD (S : Mem) (c : Int) (fs : Int → Law) (t q : Int) : Int := wakV S c fs (S (c + 2) q) t (S 80 (S (c + 13 + S (c + 2) q) 1)) (S 77 (S (c + 2) q))
def spD (S : Mem) (c : Int) (fs : Int → Law) (t sd q : Int) : Int := spiV S c fs (S (c + 2) q) t sd (S 80 (S (c + 13 + S (c + 2) q) 1)) (S 77 (S (c + 2) q))
def Hd (G : Mem) (sl : Int → Bool) (wk s0 s1 cl : Int → Int) : Nat → Int → Int → Prop
  | 0, _, i => G 6 5 = i
  | n + 1, p, i => if sl p = true then (G 7 i = p ∧ G 8 i = wk p ∧ G 9 (2 * i) = s0 p ∧ G 9 (2 * i + 1) = s1 p ∧ G 10 i = cl p) ∧ Hd G sl wk s0 s1 cl n (p + 1) (i + 1) else Hd G sl wk s0 s1 cl n (p + 1) i
theorem cnt_in (sl : Int → Bool) : ∀ (n : Nat) (p : Int), 0 ≤ cntF sl n p ∧ cntF sl n p ≤ n := by
  intro n
  induction n with
  | zero => intro p; unfold cntF; omega
  | succ n ih => intro p; have := ih (p + 1); unfold cntF; split <;> omega
theorem Hd.cnt {sl : Int → Bool} {wk s0 s1 cl : Int → Int} : ∀ (n : Nat) (p i : Int), Hd G sl wk s0 s1 cl n p i → G 6 5 = i + cntF sl n p := by
  intro n
  induction n with
  | zero => intro p i h; have h : G 6 5 = i := h; unfold cntF; omega
  | succ n ih =>
    intro p i h
    unfold Hd at h
    unfold cntF
    by_cases hs : sl p = true
    · rw [if_pos hs] at h
      rw [if_pos hs]
      have := ih _ _ h.2
      omega
    · rw [if_neg hs] at h
      rw [if_neg hs]
      have := ih _ _ h
      omega
def AhOk (sl : Int → Bool) (wk s0 s1 : Int → Int) : Prop := ∀ q, sl q = true → (0 ≤ q ∧ q ≤ 4) ∧ (0 ≤ wk q ∧ wk q ≤ 10) ∧ (0 ≤ s0 q ∧ s0 q ≤ 10) ∧ (0 ≤ s1 q ∧ s1 q ≤ 10)
def HdP (G : Mem) (sl : Int → Bool) (wk s0 s1 : Int → Int) (A B C : Int) (n : Nat) (p : Int) : Prop := Hd G sl wk s0 s1 (clF s0 s1 B) n p 0 ∧ (G 11 0 = A ∧ G 11 1 = B ∧ G 11 2 = C) ∧ AhOk sl wk s0 s1 ∧ (0 ≤ A ∧ A ≤ 99) ∧ (0 ≤ B ∧ B ≤ 99) ∧ (0 ≤ C ∧ C ≤ 99) ∧ 0 ≤ p ∧ p + n ≤ 5
section THR
variable {sl : Int → Bool} {wk s0 s1 e : Int → Int} {A B C : Int} {n : Nat} {p : Int}
theorem spd_in (h : AhOk sl wk s0 s1) {q y : Int} (hq : sl q = true) : 0 ≤ spd s0 s1 q y ∧ spd s0 s1 q y ≤ 10 := by
  have := h q hq
  unfold spd
  split <;> omega
theorem tdiv_in10 {a x : Int} (ha : 0 ≤ a ∧ a ≤ 10000) (hx : 0 ≤ x ∧ x ≤ 10) : (0 ≤ a * x ∧ a * x ≤ 100000) ∧ 0 ≤ Int.tdiv (a * x) 10 ∧ Int.tdiv (a * x) 10 ≤ a := by
  have b := mul_bd ha hx
  have b2 : a * x ≤ a * 10 := Int.mul_le_mul_of_nonneg_left hx.2 ha.1
  rw [Int.tdiv_eq_ediv_of_nonneg b.1]
  omega
theorem thF_in (h : AhOk sl wk s0 s1) {cl : Int} : ∀ (n : Nat) (p a : Int), 0 ≤ a ∧ a ≤ 10000 → 0 ≤ thF sl wk s0 s1 cl e n p a ∧ thF sl wk s0 s1 cl e n p a ≤ 10000 := by
  intro n
  induction n with
  | zero => intro p a ha; exact ha
  | succ n ih =>
    intro p a ha
    unfold thF
    apply ih
    by_cases hs : sl p = true
    · rw [if_pos hs]
      have x1 := (h p hs).2.1
      have x2 := spd_in h (y := e p) hs
      have y1 := tdiv_in10 ha x1
      have y2 := tdiv_in10 (x := 10 - spd s0 s1 p (e p)) ha (by omega)
      repeat' split
      all_goals omega
    · rw [if_neg hs]; exact ha
theorem pdF_in (h : AhOk sl wk s0 s1) (hA : 0 ≤ A ∧ A ≤ 99) (hB : 0 ≤ B ∧ B ≤ 99) : ∀ (n : Nat) (p : Int), 0 ≤ pdF sl s0 s1 A B e n p ∧ pdF sl s0 s1 A B e n p ≤ 990000 * n := by
  intro n
  induction n with
  | zero => intro p; unfold pdF; omega
  | succ n ih =>
    intro p
    have i := ih (p + 1)
    unfold pdF
    by_cases hs : sl p = true
    · rw [if_pos hs]
      have b := mul_bd hB (spd_in h (y := e p) hs)
      split <;> omega
    · rw [if_neg hs]; omega
theorem csF_in (h : AhOk sl wk s0 s1) (hA : 0 ≤ A ∧ A ≤ 99) (hB : 0 ≤ B ∧ B ≤ 99) (hC : 0 ≤ C ∧ C ≤ 99) (hn : n ≤ 5) {w : Int} : 0 ≤ csF sl wk s0 s1 A B C n p w ∧ csF sl wk s0 s1 A B C n p w ≤ 6000000 := by
  have x := pdF_in (e := fun q => dg w q) h hA hB n p
  have y := thF_in (e := fun q => dg w q) (cl := 0) h n p 10000 (by omega)
  have z := mul_bd (a := C) (b := 10000 - thF sl wk s0 s1 0 (fun q => dg w q) n p 10000) (A := 99) (B := 10000) hC (by omega)
  unfold csF
  omega
theorem c_thr {cl w : Int} (hP : HdP G sl wk s0 s1 A B C n p) (hw : 0 ≤ w ∧ w ≤ 2147483647) (hcl : InR cl) (h : Q (thF sl wk s0 s1 cl (fun q => dg w q) n p 10000) G) : Ct (d + 1) M_X0_through NT 0 0 (some lay) [(2, 6), (0, w), (0, cl)] G Q := by
  obtain ⟨hH, -, hA, -, -, -, hp, hn⟩ := hP
  have key : ∀ (n : Nat) (p i a : Int), Hd G sl wk s0 s1 (clF s0 s1 B) n p i → 0 ≤ i → i + n ≤ 5 → 0 ≤ a ∧ a ≤ 10000 → Q (thF sl wk s0 s1 cl (fun q => dg w q) n p a) G → Rn (d + 1) M_X0_through zN 7 [(0, (2, 6)), (1, (0, w)), (2, (0, cl)), (3, (0, a)), (4, (0, i))] [] G Q := by
    intro n
    induction n with
    | zero =>
      intro p i a hH hi hn ha hq
      have hH : G 6 5 = i := hH
      exact s_X0_through_7 ⟨by omega, by omega, fun _ => hq, fun x => absurd (by omega) x⟩
    | succ n ih =>
      intro p i a hH hi hn ha hq
      have hcn := Hd.cnt _ _ _ hH
      unfold Hd at hH
      unfold thF at hq
      by_cases hs : sl p = true
      · rw [if_pos hs] at hH hq
        obtain ⟨⟨h7, h8, h9, h9', h10⟩, hr⟩ := hH
        have ar := hA p hs
        have x2 := spd_in hA (y := dg w p) hs
        have y1 := tdiv_in10 ha ar.2.1
        have y2 := tdiv_in10 (x := 10 - spd s0 s1 p (dg w p)) ha (by omega)
        have hc2 := Hd.cnt _ _ _ hr
        have cn := cnt_in sl n (p + 1)
        refine s_X0_through_7 ⟨by omega, by omega, fun x => absurd x (by omega), fun _ => ⟨by omega, ?_⟩⟩
        rw [h7]
        have dq := dg_02 (w := w) (q := p) (by omega) hw.1
        refine c_X0_wayAt (by omega) hw ⟨by omega, fun x => ⟨hcl, fun z => ?_, fun z => ⟨by omega, ?_⟩⟩, fun x => ?_⟩
        · simp only [if_neg x, if_pos z] at hq
          exact ih (p + 1) (i + 1) a hr (by omega) (by omega) ha hq
        · have e9 : G 9 (i * 2 + dg w p - 1) = spd s0 s1 p (dg w p) := by
            unfold spd
            rcases (by omega : dg w p = 1 ∨ dg w p = 2) with u | u
            · rw [u, if_pos rfl, show i * 2 + 1 - 1 = 2 * i by omega]; exact h9
            · rw [u, if_neg (by decide), show i * 2 + 2 - 1 = 2 * i + 1 by omega]; exact h9'
          rw [e9]
          simp only [if_neg x, if_neg z] at hq
          exact ⟨by omega, ih (p + 1) (i + 1) _ hr (by omega) (by omega) (by omega) hq⟩
        · have x := Decidable.not_not.mp x
          rw [h8]
          simp only [if_pos x] at hq
          exact ⟨by omega, ih (p + 1) (i + 1) _ hr (by omega) (by omega) (by omega) hq⟩
      · rw [if_neg hs] at hH hq
        exact ih (p + 1) i a hH hi (by omega) ha hq
  exact ctof (s_X0_through_0 (key n p 0 10000 hH (by omega) (by omega) (by omega) h))
theorem c_paid {w : Int} (hP : HdP G sl wk s0 s1 A B C n p) (hw : 0 ≤ w ∧ w ≤ 2147483647) (h : Q (pdF sl s0 s1 A B (fun q => dg w q) n p) G) : Ct (d + 1) M_X0_paid NT 0 0 (some lay) [(2, 6), (0, w)] G Q := by
  obtain ⟨hH, ⟨e0, e1, e2⟩, hA, -, -, -, hp, hn⟩ := hP
  have key : ∀ (n : Nat) (p i a : Int), Hd G sl wk s0 s1 (clF s0 s1 B) n p i → 0 ≤ i → i + n ≤ 5 → Q (a + pdF sl s0 s1 A B (fun q => dg w q) n p) G → Rn (d + 1) M_X0_paid zN 4 [(0, (2, 6)), (1, (0, w)), (2, (0, a)), (3, (0, i))] [] G Q := by
    intro n
    induction n with
    | zero =>
      intro p i a hH hi hn hq
      have hH : G 6 5 = i := hH
      unfold pdF at hq
      rw [Int.add_zero] at hq
      exact s_X0_paid_4 ⟨by omega, by omega, fun _ => hq, fun x => absurd (by omega) x⟩
    | succ n ih =>
      intro p i a hH hi hn hq
      have hcn := Hd.cnt _ _ _ hH
      unfold Hd at hH
      unfold pdF at hq
      by_cases hs : sl p = true
      · rw [if_pos hs] at hH hq
        obtain ⟨⟨h7, h8, h9, h9', h10⟩, hr⟩ := hH
        have ar := hA p hs
        have hc2 := Hd.cnt _ _ _ hr
        have cn := cnt_in sl n (p + 1)
        refine s_X0_paid_4 ⟨by omega, by omega, fun x => absurd x (by omega), fun _ => ⟨by omega, ?_⟩⟩
        rw [h7]
        have dq := dg_02 (w := w) (q := p) (by omega) hw.1
        rw [← Int.add_assoc] at hq
        refine c_X0_wayAt (by omega) hw ⟨by omega, fun x => ⟨by omega, ?_⟩, fun x => ?_⟩
        · have e9 : G 9 (i * 2 + dg w p - 1) = spd s0 s1 p (dg w p) := by
            unfold spd
            rcases (by omega : dg w p = 1 ∨ dg w p = 2) with u | u
            · rw [u, if_pos rfl, show i * 2 + 1 - 1 = 2 * i by omega]; exact h9
            · rw [u, if_neg (by decide), show i * 2 + 2 - 1 = 2 * i + 1 by omega]; exact h9'
          rw [e9, e1]
          simp only [if_neg x] at hq
          exact ih (p + 1) (i + 1) _ hr (by omega) (by omega) hq
        · have x := Decidable.not_not.mp x
          rw [e0]
          simp only [if_pos x] at hq
          exact ih (p + 1) (i + 1) _ hr (by omega) (by omega) hq
      · rw [if_neg hs, Int.zero_add] at hq
        rw [if_neg hs] at hH
        exact ih (p + 1) i a hH hi (by omega) hq
  exact ctof (s_X0_paid_0 (key n p 0 0 hH (by omega) (by omega) (by rw [Int.zero_add]; exact h)))
theorem c_whole {w : Int} (hP : HdP G sl wk s0 s1 A B C n p) (hw : 0 ≤ w ∧ w ≤ 2147483647) (h : Q (csF sl wk s0 s1 A B C n p w) G) : Ct (d + 2) M_X0_whole NT 0 0 (some lay) [(2, 6), (0, w)] G Q := by
  refine ctof (s_X0_whole_0 (c_paid hP hw (c_thr hP hw (by omega) ?_)))
  rw [hP.2.1.2.2]
  exact h
theorem bitk : ∀ k : Nat, k < 32 → ∀ i : Nat, i < 5 → andI (shrI (k : Int) (i : Int)) 1 = ((k / 2 ^ i % 2 : Nat) : Int) := by
  unfold andI shrI
  decide +kernel
theorem c_waysPast {k : Nat} (hP : HdP G sl wk s0 s1 A B C n p) (hk : k < 32) (h : Q (WP sl (clF s0 s1 B) n p k) G) : Ct d M_X0_waysPast NT 0 0 (some lay) [(2, 6), (0, (k : Int))] G Q := by
  obtain ⟨hH, -, hA, -, -, -, hp, hn⟩ := hP
  have key : ∀ (n i : Nat) (p a : Int), Hd G sl wk s0 s1 (clF s0 s1 B) n p i → i + n ≤ 5 → Q (a + WP sl (clF s0 s1 B) n p ((k / 2 ^ i : Nat) : Int)) G → Rn d M_X0_waysPast zN 4 [(0, (2, 6)), (1, (0, (k : Int))), (2, (0, a)), (3, (0, (i : Int)))] [] G Q := by
    intro n
    induction n with
    | zero =>
      intro i p a hH hn hq
      have hH : G 6 5 = i := hH
      unfold WP at hq
      rw [Int.add_zero] at hq
      exact s_X0_waysPast_4 ⟨by omega, by omega, fun _ => hq, fun x => absurd (by omega) x⟩
    | succ n ih =>
      intro i p a hH hn hq
      have hcn := Hd.cnt _ _ _ hH
      unfold Hd at hH
      unfold WP at hq
      by_cases hs : sl p = true
      · rw [if_pos hs] at hH hq
        obtain ⟨⟨h7, h8, h9, h9', h10⟩, hr⟩ := hH
        have ar := hA p hs
        have hc2 := Hd.cnt _ _ _ hr
        have cn := cnt_in sl n (p + 1)
        refine s_X0_waysPast_4 ⟨by omega, by omega, fun x => absurd x (by omega), fun _ => ⟨by omega, by omega, ?_⟩⟩
        rw [h7, h10, bitk k hk i (by omega)]
        refine ih (i + 1) (p + 1) _ hr (by omega) ?_
        rw [Nat.pow_succ, ← Nat.div_div_eq_div_mul]
        rw [← Int.add_assoc] at hq
        have e1 : ((k / 2 ^ i : Nat) : Int) % 2 = ((k / 2 ^ i % 2 : Nat) : Int) := by omega
        have e2 : ((k / 2 ^ i : Nat) : Int) / 2 = ((k / 2 ^ i / 2 : Nat) : Int) := by omega
        rw [e1, e2] at hq
        exact hq
      · rw [if_neg hs] at hH hq
        exact ih i (p + 1) a hH (by omega) hq
  refine ctof (s_X0_waysPast_0 (key n 0 p 0 hH (by omega) ?_))
  rw [Int.zero_add, Nat.pow_zero, Nat.div_one]
  exact h
theorem PW_shl : ∀ (n : Nat) (p : Int), n ≤ 5 → shlI 1 (cntF sl n p) = PW sl n p := by
  obtain ⟨e0, e1, e2, e3, e4, e5⟩ := shl_s
  have dbl : ∀ j : Int, 0 ≤ j → j ≤ 4 → shlI 1 (1 + j) = 2 * shlI 1 j := by
    intro j j0 j4
    rcases (by omega : j = 0 ∨ j = 1 ∨ j = 2 ∨ j = 3 ∨ j = 4) with rfl | rfl | rfl | rfl | rfl <;> simp only [Int.reduceAdd, Int.add_zero] <;> omega
  intro n
  induction n with
  | zero => intro p _; exact e0
  | succ n ih =>
    intro p hn
    have c := cnt_in sl n (p + 1)
    unfold cntF PW
    by_cases hs : sl p = true
    · rw [if_pos hs, if_pos hs, dbl _ c.1 (by omega), ih _ (by omega)]
    · rw [if_neg hs, if_neg hs, Int.zero_add, ih _ (by omega)]
theorem c_cheapest (hP : HdP G sl wk s0 s1 A B C n p) (h : ∀ w, Bst sl wk s0 s1 A B C n p w → Q w G) : Ct (d + 3) M_X0_cheapest NT 0 0 (some lay) [(2, 6)] G Q := by
  have hP' := hP
  obtain ⟨hH, -, hA, hA9, hB9, hC9, hp, hn⟩ := hP'
  have hcn := Hd.cnt _ _ _ hH
  rw [Int.zero_add] at hcn
  have cn := cnt_in sl n p
  have pw : shlI 1 (G 6 5) = PW sl n p := by rw [hcn]; exact PW_shl n p (by omega)
  have pwb := shl_in (n := G 6 5) (by omega)
  have wp := fun k (hk : 0 ≤ k) => WP_mul (sl := sl) (fun q => clF_12 (s0 := s0) (s1 := s1) (B := B) q) n p k hp hn hk
  have wpr : ∀ k, 0 ≤ k → 0 ≤ WP sl (clF s0 s1 B) n p k ∧ WP sl (clF s0 s1 B) n p k ≤ 243 := fun k hk => by
    obtain ⟨⟨M, m0, m1⟩, m2⟩ := wp k hk
    have hp3 := p3_in (n := p) (by omega)
    have hp4 := p3_in (n := p + n) (by omega)
    have := Int.mul_nonneg (show 0 ≤ p3 p by omega) m0
    omega
  have ci := fun w => csF_in (p := p) (n := n) (w := w) hA hA9 hB9 hC9 (by omega)
  have w0 : WP sl (clF s0 s1 B) n p 0 = 0 := by
    have : ∀ (n : Nat) (p : Int), WP sl (clF s0 s1 B) n p 0 = 0 := by
      intro n
      induction n with
      | zero => intro p; rfl
      | succ n ih =>
        intro p
        unfold WP
        split
        · rw [show (0 : Int) % 2 = 0 by decide, show (0 : Int) / 2 = 0 by decide, Int.zero_mul, Int.zero_mul, ih]; rfl
        · exact ih _
    exact this n p
  have key : ∀ (m k : Nat) (f : Int), ((k + m : Nat) : Int) = PW sl n p → 1 ≤ k → (∃ j, 0 ≤ j ∧ j < (k : Int) ∧ f = WP sl (clF s0 s1 B) n p j) → (∀ j, 0 ≤ j → j < (k : Int) → csF sl wk s0 s1 A B C n p f ≤ csF sl wk s0 s1 A B C n p (WP sl (clF s0 s1 B) n p j) ∧ (csF sl wk s0 s1 A B C n p (WP sl (clF s0 s1 B) n p j) = csF sl wk s0 s1 A B C n p f → f ≤ WP sl (clF s0 s1 B) n p j)) →
      Rn (d + 3) M_X0_cheapest zN 10 [(0, (2, 6)), (1, (0, f)), (2, (0, csF sl wk s0 s1 A B C n p f)), (3, (0, (k : Int)))] [] G Q := by
    intro m
    induction m with
    | zero =>
      intro k f hk k1 hf hmn
      refine s_X0_cheapest_10 ⟨by omega, by omega, fun _ => h f (Bst.ofWP hp hn ?_ (fun j j0 j1 => hmn j j0 (by omega))), fun x => absurd (by omega) x⟩
      obtain ⟨j, j0, j1, j2⟩ := hf
      exact ⟨j, j0, by omega, j2⟩
    | succ m ih =>
      intro k f hk k1 hf hmn
      have r := wpr k (by omega)
      have cw := ci (WP sl (clF s0 s1 B) n p k)
      have cf := ci f
      refine s_X0_cheapest_10 ⟨by omega, by omega, fun x => absurd x (by omega), fun _ => c_waysPast hP (by omega) (c_whole hP (by omega) ⟨by omega, by omega, fun x => ?_, fun x => ?_⟩)⟩
      · refine ih (k + 1) f (by omega) (by omega) ?_ (fun j j0 j1 => ?_)
        · obtain ⟨j, j0, j1, j2⟩ := hf
          exact ⟨j, j0, by omega, j2⟩
        · by_cases hj : j = (k : Int)
          · subst hj
            refine ⟨x, fun _ => ?_⟩
            obtain ⟨j, j0, j1, j2⟩ := hf
            rw [j2]
            exact Int.le_of_lt (WP_mono (fun q => clF_12 q) n p j k hp hn j0 j1 (by omega))
          · exact hmn j j0 (by omega)
      · refine ih (k + 1) _ (by omega) (by omega) ⟨k, by omega, by omega, rfl⟩ (fun j j0 j1 => ?_)
        by_cases hj : j = (k : Int)
        · subst hj
          exact ⟨Int.le_refl _, fun _ => Int.le_refl _⟩
        · have := (hmn j j0 (by omega)).1
          exact ⟨by omega, fun y => by omega⟩
  refine ctof (s_X0_cheapest_0 (c_whole hP (by omega) ?_))
  exact key (PW sl n p - 1).toNat 1 0 (by omega) (by omega) ⟨0, by omega, by omega, w0.symm⟩ (fun j j0 j1 => by
    obtain rfl : j = 0 := by omega
    rw [w0]
    exact ⟨Int.le_refl _, fun _ => Int.le_refl _⟩)
end THR
end AHEAD
