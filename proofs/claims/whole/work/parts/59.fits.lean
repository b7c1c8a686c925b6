section FITS
variable {d : Nat} {S S' G G' H : Mem} {Q : Int → Mem → Prop} {c : Int} {fs : Int → Law}
/-! fits: each goes when his need is there for the first time -/
/-- k ticks told from the i-th on, each W behind the last -/
def fitF (S : Mem) (s W : Int) : Nat → Int → Int → Int
  | 0, _, _ => 1
  | k + 1, i, due => if S 85 (12 * s + i) = due then fitF S s W k (i + 1) (S 85 (12 * s + i) + 1 + W) else 0
def fitW (by' g : Int) : Int := if 0 < by' then Int.tdiv (g + by' - 1) by' else 1000
def fitP (S : Mem) (s : Int) (n : Nat) (b g : Int) : Int := if n = 0 then 0 else fitF S s (fitW b g) n 0 (fitW b g)
theorem fitF_01 {s W : Int} : ∀ (k : Nat) (i due : Int), fitF S s W k i due = 0 ∨ fitF S s W k i due = 1 := by
  intro k
  induction k with
  | zero => intro i due; exact Or.inr rfl
  | succ k ih =>
    intro i due
    unfold fitF
    split
    · exact ih _ _
    · exact Or.inl rfl
theorem fitP_01 {s : Int} {n : Nat} {b g : Int} : fitP S s n b g = 0 ∨ fitP S s n b g = 1 := by
  unfold fitP
  split
  · exact Or.inl rfl
  · exact fitF_01 _ _ _
theorem fitW_in {b g : Int} (hb : 0 ≤ b ∧ b ≤ 9) (hg : 1 ≤ g ∧ g ≤ 99) : 0 ≤ fitW b g ∧ fitW b g ≤ 1000 := by
  unfold fitW
  split
  · have h := Int.tdiv_le_self b (a := g + b - 1) (by omega)
    have h2 : 0 ≤ Int.tdiv (g + b - 1) b := Int.tdiv_nonneg (by omega) (by omega)
    omega
  · omega
theorem fitW_iff {b g k : Int} (hb : 0 ≤ b ∧ b ≤ 9) (hg : 1 ≤ g ∧ g ≤ 99) (hk : 0 ≤ k ∧ k ≤ 100) : g ≤ min 199 (b * k) ↔ fitW b g ≤ k := by
  unfold fitW
  rcases (by omega : b = 0 ∨ b = 1 ∨ b = 2 ∨ b = 3 ∨ b = 4 ∨ b = 5 ∨ b = 6 ∨ b = 7 ∨ b = 8 ∨ b = 9) with rfl | rfl | rfl | rfl | rfl | rfl | rfl | rfl | rfl | rfl
  · rw [if_neg (by decide)]; omega
  all_goals
    rw [if_pos (by decide), Int.tdiv_eq_ediv_of_nonneg (by omega)]
    omega
/-- the ticks told: not below 0, each later -/
def WtOk (S : Mem) (s : Int) (n : Nat) : Prop := ∀ j, 0 ≤ j → j < (n : Int) → (0 ≤ S 85 (12 * s + j) ∧ S 85 (12 * s + j) ≤ 71) ∧ (0 < j → S 85 (12 * s + j - 1) < S 85 (12 * s + j))
theorem c_fitting {s b g : Int} {n : Nat} (hs : 0 ≤ s ∧ s < 5) (hn : G 84 s = n) (hn12 : n ≤ 12) (hw : WtOk G s n) (hb : 0 ≤ b ∧ b ≤ 9) (hg : 1 ≤ g ∧ g ≤ 99) (h : Q (fitP G s n b g) G) : Ct d M_X9_fitting NT 0 0 (some lay) [(2, 81), (0, s), (0, b), (0, g)] G Q := by
  unfold fitP at h
  have wi := fitW_in hb hg
  refine ctof (s_X9_fitting_0 b9_81 ⟨hs, show InR (G 84 s) by omega, fun z => ?_, fun z => ⟨by omega, fun z2 => ⟨by omega, by omega, ?_⟩, fun z2 => ?_⟩⟩)
  · have z : G 84 s = 0 := z
    rw [if_pos (by omega)] at h; exact h
  · have z : ¬ G 84 s = 0 := z
    rw [if_neg (by omega)] at h
    have e : Int.tdiv (g + b - 1) b = fitW b g := by unfold fitW; rw [if_pos z2]
    rw [e]
    generalize fitW b g = W at *
    have key : ∀ (k i : Nat) (due : Int), i + k = n → InR due → Q (fitF G s W k i due) G → Rn d M_X9_fitting zN 31 [(0, (2, 81)), (1, (0, s)), (4, (0, W)), (5, (0, due)), (6, (0, (i : Int)))] [] G Q := by
      intro k
      induction k with
      | zero =>
        intro i due hi hd hq
        exact s_X9_fitting_31 b9_81 ⟨hs, by omega, show InR (G 84 s) by omega, fun _ => hq, fun x => absurd (show G 84 s ≤ _ by omega) x⟩
      | succ k ih =>
        intro i due hi hd hq
        have wo := (hw i (by omega) (by omega)).1
        unfold fitF at hq
        refine s_X9_fitting_31 b9_81 ⟨hs, by omega, show InR (G 84 s) by omega, fun x => absurd (show G 84 s ≤ _ from x) (by omega), fun _ => ⟨by omega, ?_⟩⟩
        rw [show s * 12 + (i : Int) = 12 * s + i by omega]
        refine ⟨show InR (G 85 _) by omega, hd, fun x => ?_, fun x => ?_⟩
        · have x : G 85 (12 * s + i) = due := x
          rw [if_pos x] at hq
          exact ih (i + 1) _ (by omega) (show InR (G 85 _ + 1 + W) by omega) hq
        · have x : ¬ G 85 (12 * s + i) = due := x
          rw [if_neg x] at hq
          exact hq
    exact key n 0 W (by omega) (by omega) h
  · have z : ¬ G 84 s = 0 := z
    rw [if_neg (by omega)] at h
    obtain ⟨k, rfl⟩ : ∃ k, n = k + 1 := ⟨n - 1, by omega⟩
    have wo := (hw 0 (by omega) (by omega)).1
    unfold fitF at h
    have e : fitW b g = 1000 := by unfold fitW; rw [if_neg z2]
    rw [e, if_neg (by omega)] at h
    exact h
theorem c_isFit {s b g : Int} {n : Nat} (hs : 0 ≤ s ∧ s < 5) (hn : G 342 (45 + s) = n) (hn0 : 0 < n) (hn12 : n ≤ 12) (hw : WtOk S s n) (e : ∀ j, 0 ≤ j → j < (n : Int) → G 342 (50 + 12 * s + j) = S 85 (12 * s + j)) (hb : 0 ≤ b ∧ b ≤ 9) (hg : 1 ≤ g ∧ g ≤ 99) (h : Q (fitP S s n b g) G) : Ct (d + 1) M_X12_isFit NT 0 0 (some lay) [(2, 311), (0, s), (0, b), (0, g)] G Q := by
  unfold fitP at h
  rw [if_neg (by omega)] at h
  have wi := fitW_in hb hg
  have iff := fun k (hk : 0 ≤ k ∧ k ≤ 100) => fitW_iff (k := k) hb hg hk
  generalize fitW b g = W at *
  have key : ∀ (k i : Nat) (base : Int), i + k = n → 0 ≤ base ∧ base ≤ 72 → (0 < k → base ≤ S 85 (12 * s + i)) → Q (fitF S s W k i (base + W)) G → ∀ (m : Nat) (t : Int), (0 < k → t + m = S 85 (12 * s + i)) → base ≤ t → t ≤ base + W → (k = 0 → t ≤ 72) →
      Rn (d + 1) M_X12_isFit zN 20 [(0, (2, 311)), (1, (0, s)), (2, (0, b)), (3, (0, g)), (4, (0, min 199 (b * (t - base)))), (5, (0, (i : Int))), (6, (0, (n : Int))), (7, (0, t))] [] G Q := by
    intro k
    induction k with
    | zero =>
      intro i base hi hbase _ hq m t _ _ _ ht
      exact s_X12_isFit_20 ⟨by omega, by omega, fun _ => hq, fun x => absurd (by omega) x⟩
    | succ k ih =>
      intro i base hi hbase hb1 hq m
      have wo := (hw i (by omega) (by omega)).1
      have ew := e i (by omega) (by omega)
      unfold fitF at hq
      have f1 : 0 < k + 1 := by omega
      induction m with
      | zero =>
        intro t ht h1 h2 _
        have ht := ht f1
        have mb := mul_bd (a := b) (b := t - base) (A := 9) (B := 100) hb (by omega)
        have ii := iff (t - base) (by omega)
        refine s_X12_isFit_20 ⟨by omega, by omega, fun x => absurd x (by omega), fun _ => ⟨by omega, ?_⟩⟩
        rw [ew]
        refine ⟨by omega, by omega, fun x => absurd (by omega) x, fun _ => s_X12_isFit_52 ⟨by omega, by omega, fun x => s_X12_isFit_65 ⟨by omega, by omega, fun y => absurd y (by decide), fun _ => ?_⟩, fun x => s_X12_isFit_65 ⟨by omega, by omega, fun _ => ⟨fun y => absurd y (by decide), fun _ => s_X12_isFit_84 ⟨by omega, fun y => absurd y (by decide), fun _ => ?_⟩⟩, fun y => absurd rfl y⟩⟩⟩
        · have : ¬ S 85 (12 * s + i) = base + W := fun y => by
            have := ii.mpr (by omega)
            omega
          rw [if_neg this] at hq
          exact hq
        · have z : W ≤ t - base := ii.mp (by omega)
          rw [if_pos (by omega)] at hq
          have x := ih (i + 1) (S 85 (12 * s + i) + 1) (by omega) (by omega) (fun hk => by
            have := (hw (i + 1) (by omega) (by omega)).2 (by omega)
            rw [show 12 * s + ((i : Int) + 1) - 1 = 12 * s + i by omega] at this
            rw [show ((i + 1 : Nat) : Int) = (i : Int) + 1 by omega]
            omega) hq (S 85 (12 * s + ((i : Int) + 1)) - (S 85 (12 * s + i) + 1)).toNat (S 85 (12 * s + i) + 1) (fun hk => by
            have := (hw (i + 1) (by omega) (by omega)).2 (by omega)
            rw [show 12 * s + ((i : Int) + 1) - 1 = 12 * s + i by omega] at this
            rw [show ((i + 1 : Nat) : Int) = (i : Int) + 1 by omega]
            omega) (by omega) (by omega) (by omega)
          rw [Int.sub_self, Int.mul_zero, show min (199 : Int) 0 = 0 by decide] at x
          rw [show t + 1 = S 85 (12 * s + i) + 1 by omega]
          exact x
      | succ m ihm =>
        intro t ht h1 h2 _
        have ht := ht f1
        have mb := mul_bd (a := b) (b := t - base) (A := 9) (B := 100) hb (by omega)
        have ii := iff (t - base) (by omega)
        refine s_X12_isFit_20 ⟨by omega, by omega, fun x => absurd x (by omega), fun _ => ⟨by omega, ?_⟩⟩
        rw [ew]
        refine ⟨by omega, by omega, fun _ => s_X12_isFit_52 ⟨by omega, by omega, fun x => s_X12_isFit_65 ⟨by omega, by omega, fun _ => ⟨fun _ => s_X12_isFit_84 ⟨by omega, fun _ => ⟨by omega, ?_⟩, fun y => absurd rfl y⟩, fun y => absurd rfl y⟩, fun y => absurd rfl y⟩, fun x => s_X12_isFit_65 ⟨by omega, by omega, fun y => absurd y (by decide), fun _ => ?_⟩⟩, fun x => absurd (by omega) x⟩
        · have nl : ¬ W ≤ t - base := fun y => by
            have := ii.mpr y
            omega
          have x := ihm (t + 1) (fun _ => by omega) (by omega) (by omega) (by omega)
          rw [show t + 1 - base = (t - base) + 1 by omega, Int.mul_add, Int.mul_one] at x
          rw [show min 199 (min 199 (b * (t - base)) + b) = min 199 (b * (t - base) + b) by omega, Int.add_zero]
          exact x
        · have z : W ≤ t - base := ii.mp (by omega)
          rw [if_neg (by omega)] at hq
          exact hq
  refine ctof (s_X12_isFit_0 ⟨by omega, ?_⟩)
  rw [hn]
  have w0 := hw 0 (by omega) (by omega)
  have x := key n 0 0 (by omega) (by omega) (fun _ => by have := w0.1.1; exact this) (by rw [Int.zero_add]; exact h) (S 85 (12 * s + 0)).toNat 0 (fun _ => by rw [show ((0 : Nat) : Int) = 0 from rfl]; omega) (by omega) (by omega) (by omega)
  rw [Int.sub_self, Int.mul_zero, show min (199 : Int) 0 = 0 by decide] at x
  exact x
/-! the pairs, one by one -/
def rowF (p : Int → Int → Int) (b : Int) : Nat → Int → Int × Int → Int × Int
  | 0, _, a => a
  | k + 1, g, a => rowF p b k (g + 1) (if p b g = 0 then a else (a.1 + 1, if a.1 = 0 then 100 * b + g else a.2))
def allF (p : Int → Int → Int) : Nat → Int → Int × Int → Int × Int
  | 0, _, a => a
  | k + 1, b, a => allF p k (b + 1) (rowF p b 99 1 a)
def FaOk (a : Int × Int) (m : Int) : Prop := (0 ≤ a.1 ∧ a.1 ≤ m) ∧ (a.1 = 0 ↔ a.2 = -1) ∧ (-1 ≤ a.2 ∧ a.2 ≤ 1000)
theorem FaOk.step {p : Int → Int → Int} {b g m : Int} {a : Int × Int} (h : FaOk a m) (hb : 0 ≤ b ∧ b ≤ 9) (hg : 1 ≤ g ∧ g ≤ 99) : FaOk (if p b g = 0 then a else (a.1 + 1, if a.1 = 0 then 100 * b + g else a.2)) (m + 1) := by
  unfold FaOk at h ⊢
  split
  · exact ⟨by omega, h.2.1, h.2.2⟩
  · simp only
    refine ⟨by omega, ⟨fun x => by omega, fun x => ?_⟩, ?_⟩
    · split at x <;> omega
    · split <;> omega
theorem rowF_ok {p : Int → Int → Int} {b : Int} (hb : 0 ≤ b ∧ b ≤ 9) : ∀ (k : Nat) (g m : Int) (a : Int × Int), FaOk a m → 1 ≤ g → g + k = 100 → FaOk (rowF p b k g a) (m + k) := by
  intro k
  induction k with
  | zero => intro g m a h _ _; unfold rowF; rw [show m + ((0 : Nat) : Int) = m by omega]; exact h
  | succ k ih =>
    intro g m a h h1 h2
    unfold rowF
    have x := ih (g + 1) (m + 1) _ (h.step (p := p) hb ⟨h1, by omega⟩) (by omega) (by omega)
    rw [show m + ((k + 1 : Nat) : Int) = m + 1 + k by omega]
    exact x
def fitR (p : Int → Int → Int) (w : Int) : Int := if (allF p 10 0 (0, -1)).1 = 0 then -1 else if w = 0 then (allF p 10 0 (0, -1)).1 else (allF p 10 0 (0, -1)).2
theorem fits_C {s w : Int} {p : Int → Int → Int} (iw : InR w) (h01 : ∀ b g, p b g = 0 ∨ p b g = 1) (hp : ∀ (b g : Int) (K : Int → Mem → Prop), 0 ≤ b ∧ b ≤ 9 → 1 ≤ g ∧ g ≤ 99 → K (p b g) G → Ct d M_X9_fitting NT 0 0 (some lay) [(2, 81), (0, s), (0, b), (0, g)] G K) (h : Q (fitR p w) G) :
    Rn (d + 1) M_X11_fits zN 27 [(0, (2, 0)), (1, (0, s)), (2, (0, w)), (3, (0, 0)), (4, (0, -1)), (5, (0, 0))] [] G Q := by
  unfold fitR at h
  have row : ∀ (b : Int), 0 ≤ b ∧ b ≤ 9 → ∀ (k : Nat) (g m : Int) (a : Int × Int), FaOk a m → m ≤ 100 * b + g → 1 ≤ g → g + k = 100 → Rn (d + 1) M_X11_fits zN 27 [(0, (2, 0)), (1, (0, s)), (2, (0, w)), (3, (0, (rowF p b k g a).1)), (4, (0, (rowF p b k g a).2)), (5, (0, b + 1))] [] G Q → Rn (d + 1) M_X11_fits zN 37 [(0, (2, 0)), (1, (0, s)), (2, (0, w)), (3, (0, a.1)), (4, (0, a.2)), (5, (0, b)), (6, (0, g))] [] G Q := by
    intro b hb k
    induction k with
    | zero =>
      intro g m a ha hm h1 h2 hr
      exact s_X11_fits_37 ⟨by omega, fun _ => hr, fun x => absurd (by omega) x⟩
    | succ k ih =>
      intro g m a ha hm h1 h2 hr
      have st := ha.step (p := p) hb ⟨h1, by omega⟩
      unfold rowF at hr
      have x := ih (g + 1) (m + 1) _ st (by omega) (by omega) (by omega) hr
      obtain ⟨a1, a2, a3⟩ := ha
      refine s_X11_fits_37 ⟨by omega, fun x => absurd x (by omega), fun _ => hp b g _ hb ⟨h1, by omega⟩ ⟨by have := h01 b g; omega, fun z => ?_, fun z => ⟨by omega, fun y => ?_, fun y => ?_⟩⟩⟩
      · rw [if_pos z] at x; exact x
      · rw [if_neg z, if_neg (fun u => y (a2.mp u))] at x; exact x
      · rw [if_neg z, if_pos (a2.mpr (Decidable.not_not.mp y))] at x; exact x
  have all : ∀ (k : Nat) (b : Int) (a : Int × Int), 0 ≤ b → b + k = 10 → FaOk a (99 * b) → allF p 10 0 (0, -1) = allF p k b a → Rn (d + 1) M_X11_fits zN 27 [(0, (2, 0)), (1, (0, s)), (2, (0, w)), (3, (0, a.1)), (4, (0, a.2)), (5, (0, b))] [] G Q := by
    intro k
    induction k with
    | zero =>
      intro b a h0 hb ha e
      have e : allF p 10 0 (0, -1) = a := e
      rw [e] at h
      obtain ⟨a1, a2, a3⟩ := ha
      refine s_X11_fits_27 ⟨by omega, fun _ => ⟨by omega, fun x => ⟨iw, fun y => ?_, fun y => ?_⟩, fun x => ?_⟩, fun x => absurd (by omega) x⟩
      · rw [if_neg x, if_neg y] at h; exact h
      · rw [if_neg x, if_pos (Decidable.not_not.mp y)] at h; exact h
      · rw [if_pos (Decidable.not_not.mp x)] at h; exact h
    | succ k ih =>
      intro b a h0 hb ha e
      refine s_X11_fits_27 ⟨by omega, fun x => absurd x (by omega), fun _ => row b (by omega) 99 1 (99 * b) a ha (by omega) (by omega) (by omega) (ih (b + 1) _ (by omega) (by omega) ?_ e)⟩
      have x := rowF_ok (p := p) (b := b) (by omega) 99 1 (99 * b) a ha (by omega) (by omega)
      rw [show 99 * b + ((99 : Nat) : Int) = 99 * (b + 1) by omega] at x
      exact x
  exact all 10 0 (0, -1) (by omega) (by omega) ⟨by decide, by decide, by decide⟩ rfl
theorem fits_M {s w : Int} {p : Int → Int → Int} (iw : InR w) (h01 : ∀ b g, p b g = 0 ∨ p b g = 1) (hp : ∀ (b g : Int) (K : Int → Mem → Prop), 0 ≤ b ∧ b ≤ 9 → 1 ≤ g ∧ g ≤ 99 → K (p b g) G → Ct d M_X12_isFit NT 0 0 (some lay) [(2, 311), (0, s), (0, b), (0, g)] G K) (h : Q (fitR p w) G) :
    Rn (d + 1) M_X12_fits zN 44 [(0, (2, 311)), (1, (0, s)), (2, (0, w)), (3, (0, 0)), (4, (0, -1)), (5, (0, 0))] [] G Q := by
  unfold fitR at h
  have row : ∀ (b : Int), 0 ≤ b ∧ b ≤ 9 → ∀ (k : Nat) (g m : Int) (a : Int × Int), FaOk a m → m ≤ 100 * b + g → 1 ≤ g → g + k = 100 → Rn (d + 1) M_X12_fits zN 44 [(0, (2, 311)), (1, (0, s)), (2, (0, w)), (3, (0, (rowF p b k g a).1)), (4, (0, (rowF p b k g a).2)), (5, (0, b + 1))] [] G Q → Rn (d + 1) M_X12_fits zN 54 [(0, (2, 311)), (1, (0, s)), (2, (0, w)), (3, (0, a.1)), (4, (0, a.2)), (5, (0, b)), (6, (0, g))] [] G Q := by
    intro b hb k
    induction k with
    | zero =>
      intro g m a ha hm h1 h2 hr
      exact s_X12_fits_54 ⟨by omega, fun _ => hr, fun x => absurd (by omega) x⟩
    | succ k ih =>
      intro g m a ha hm h1 h2 hr
      have st := ha.step (p := p) hb ⟨h1, by omega⟩
      unfold rowF at hr
      have x := ih (g + 1) (m + 1) _ st (by omega) (by omega) (by omega) hr
      obtain ⟨a1, a2, a3⟩ := ha
      refine s_X12_fits_54 ⟨by omega, fun x => absurd x (by omega), fun _ => hp b g _ hb ⟨h1, by omega⟩ ⟨by have := h01 b g; omega, fun z => ⟨by omega, fun y => ?_, fun y => ?_⟩, fun z => ?_⟩⟩
      · rw [if_neg z, if_neg y] at x; exact x
      · rw [if_neg z, if_pos (Decidable.not_not.mp y)] at x; exact x
      · rw [if_pos (Decidable.not_not.mp z)] at x; exact x
  have all : ∀ (k : Nat) (b : Int) (a : Int × Int), 0 ≤ b → b + k = 10 → FaOk a (99 * b) → allF p 10 0 (0, -1) = allF p k b a → Rn (d + 1) M_X12_fits zN 44 [(0, (2, 311)), (1, (0, s)), (2, (0, w)), (3, (0, a.1)), (4, (0, a.2)), (5, (0, b))] [] G Q := by
    intro k
    induction k with
    | zero =>
      intro b a h0 hb ha e
      have e : allF p 10 0 (0, -1) = a := e
      rw [e] at h
      obtain ⟨a1, a2, a3⟩ := ha
      refine s_X12_fits_44 ⟨by omega, fun _ => ⟨by omega, fun x => ⟨iw, fun y => ?_, fun y => ?_⟩, fun x => ?_⟩, fun x => absurd (by omega) x⟩
      · rw [if_neg x, if_neg y] at h; exact h
      · rw [if_neg x, if_pos (Decidable.not_not.mp y)] at h; exact h
      · rw [if_pos (Decidable.not_not.mp x)] at h; exact h
    | succ k ih =>
      intro b a h0 hb ha e
      refine s_X12_fits_44 ⟨by omega, fun x => absurd x (by omega), fun _ => row b (by omega) 99 1 (99 * b) a ha (by omega) (by omega) (by omega) (ih (b + 1) _ (by omega) (by omega) ?_ e)⟩
      have x := rowF_ok (p := p) (b := b) (by omega) 99 1 (99 * b) a ha (by omega) (by omega)
      rw [show 99 * b + ((99 : Nat) : Int) = 99 * (b + 1) by omega] at x
      exact x
  exact all 10 0 (0, -1) (by omega) (by omega) ⟨by decide, by decide, by decide⟩ rfl
theorem rowF0 {p : Int → Int → Int} {b : Int} (h : ∀ b g, p b g = 0) : ∀ (k : Nat) (g : Int) (a : Int × Int), rowF p b k g a = a := by
  intro k
  induction k with
  | zero => intro g a; rfl
  | succ k ih => intro g a; unfold rowF; rw [if_pos (h _ _), ih]
theorem allF0 {p : Int → Int → Int} (h : ∀ b g, p b g = 0) : ∀ (k : Nat) (b : Int) (a : Int × Int), allF p k b a = a := by
  intro k
  induction k with
  | zero => intro g a; rfl
  | succ k ih => intro b a; unfold allF; rw [rowF0 h, ih]
theorem t_fits {s w : Int} (hI : Inv0 G G c fs) (is : InR s) (iw : InR w) : Ct (d + 2) M_X11_fits NT 0 0 (some lay) [(2, 0), (0, s), (0, w)] G (fun v G1 => Ct (d + 2) M_X12_fits NT 0 0 (some lay) [(2, 311), (0, s), (0, w)] G1 (Ok2 c fs G v)) := by
  have hC := hI.cls
  have r := hC.rng
  have hTl := hI.2.2.2.2.1
  have mN : ¬ ((0 ≤ s ∧ s < G c 8) ∧ 0 ≤ w ∧ w ≤ 1) → Ct (d + 2) M_X12_fits NT 0 0 (some lay) [(2, 311), (0, s), (0, w)] G (Ok2 c fs G (-1)) := by
    intro hno
    refine ctof (s_X12_fits_0 (fun G1 e1 => ?_))
    have f1 : ThF G G1 := by rw [e1]; exact ThF.st
    have hR := f1.cu hI.2.1
    have ok : Ok2 c fs G (-1) (-1) G1 := hI.ok ClF.rfl' f1.ml
    exact c_isSitter hR is (fun q => ⟨by omega, fun _ => ok, fun _ => c_within iw (by omega) (by omega) (fun q2 => absurd ⟨q, q2⟩ hno) (fun q2 => ⟨by omega, fun _ => ok, fun x => absurd rfl x⟩)⟩) (fun q => ⟨by omega, fun _ => ok, fun x => absurd rfl x⟩)
  refine ctof (s_X11_fits_0 (c_X11_known hC is (fun q => ⟨by omega, fun x => absurd x (by decide), fun _ => ⟨iw, fun x => mN (by omega), fun x => ⟨fun x2 => ?_, fun x2 => mN (by omega)⟩⟩⟩) (fun q => ⟨by omega, fun _ => mN (fun x => q x.1), fun x => absurd rfl x⟩)))
  obtain ⟨x1, x2', x3, x4, x5, x6⟩ := hTl s (by omega) (by omega)
  simp only [Int.zero_add, Int.reduceAdd] at x3 x5 x6
  obtain ⟨n, hn⟩ := Int.eq_ofNat_of_zero_le x5.1
  have hw : WtOk G s n := fun j j0 j1 => (x6 j j0 (by omega)).2
  refine fits_C iw (p := fitP G s n) (fun _ _ => fitP_01) (fun b g K hb hg hK => c_fitting (by omega) hn (by omega) hw hb hg hK) ?_
  refine ctof (s_X12_fits_0 (fun G1 e1 => ?_))
  have f1 : ThF G G1 := by rw [e1]; exact ThF.st
  have hR := f1.cu hI.2.1
  have ok : Ok2 c fs G (fitR (fitP G s n) w) (fitR (fitP G s n) w) G1 := hI.ok ClF.rfl' f1.ml
  have y3 : G1 342 (45 + s) = n := by rw [f1 _ _ (by omega), x3, hn]
  refine c_isSitter hR is (fun _ => ⟨by omega, fun x => absurd x (by decide), fun _ => c_within iw (by omega) (by omega) (fun _ => ⟨by omega, fun x => absurd x (by decide), fun _ => ⟨by omega, ?_⟩⟩) (fun z => absurd (by omega) z)⟩) (fun z => absurd q z)
  rw [y3]
  refine ⟨by omega, fun z => fits_M iw (p := fitP G s n) (fun _ _ => fitP_01) (fun b g K hb hg hK => c_isFit (S := G) (by omega) y3 (by omega) (by omega) hw (fun j j0 j1 => by rw [f1 _ _ (by omega)]; exact (x6 j j0 (by omega)).1) hb hg hK) ok, fun z => ?_⟩
  have e : fitR (fitP G s n) w = -1 := by
    have z0 : ∀ b g, fitP G s n b g = 0 := fun b g => by unfold fitP; rw [if_pos (by omega)]
    unfold fitR
    rw [allF0 z0, if_pos rfl]
  rw [e] at ok ⊢
  exact ok
end FITS
