/-! contracts of the class's small methods -/
theorem ctof {d : Nat} {M : Mth} {as : List AV} {G : Mem} {Q : Int → Mem → Prop} (h : Rn d M zN 0 (lvA 0 as) [] G Q) (hp : plainName M.1.cls = true := by decide +kernel) (hc : csum as ≤ M.2.2.1 := by exact Nat.le_of_ble_eq_true rfl) : Ct d M NT 0 0 (some lay) as G Q :=
  Ct.of hp hc h
section BASICS
variable {d : Nat} {G : Mem} {Q : Int → Mem → Prop}
/-! a sitter as told -/
def grow (G : Mem) (t m : Int) : Int := (G t 2 + m) * (if G t 0 = 1 then 2 else 1)
def deepf (G : Mem) (t : Int) : Int := if G t 0 = 4 then 0 else if G t 0 = 2 then Int.tdiv (G t 5) 2 else G t 5
def legsf (G : Mem) (t : Int) : Int := if G t 0 = 3 then G t 6 + 4 else G t 6
theorem c_X7_growth {t m : Int} (ht : Bs 7 t) (hk : InR (G t 0)) (h : Q (grow G t m) G) : Ct d M_X7_growth NT 0 0 (some lay) [(2, t), (0, m)] G Q := by
  unfold grow at h
  refine ctof (s_X7_growth_0 ht ⟨hk, fun c => ?_, fun c => ?_⟩)
  · rwa [if_neg c] at h
  · rwa [if_pos (Decidable.not_not.mp c)] at h
theorem c_X7_deep {t : Int} (ht : Bs 7 t) (hk : InR (G t 0)) (h5 : InR (G t 5)) (h : Q (deepf G t) G) : Ct d M_X7_deep NT 0 0 (some lay) [(2, t)] G Q := by
  unfold deepf at h
  refine ctof (s_X7_deep_0 ht ⟨hk, fun c => ⟨fun c2 => ?_, fun c2 => ⟨h5, ?_⟩⟩, fun c => ?_⟩)
  · rwa [if_neg c, if_neg c2] at h
  · rwa [if_neg c, if_pos (Decidable.not_not.mp c2)] at h
  · rwa [if_pos (Decidable.not_not.mp c)] at h
theorem c_X7_legsLong {t : Int} (ht : Bs 7 t) (hk : InR (G t 0)) (h : Q (legsf G t) G) : Ct d M_X7_legsLong NT 0 0 (some lay) [(2, t)] G Q := by
  unfold legsf at h
  refine ctof (s_X7_legsLong_0 ht ⟨hk, fun c => ?_, fun c => ?_⟩)
  · rwa [if_neg c] at h
  · rwa [if_pos (Decidable.not_not.mp c)] at h
/-! how it stands -/
abbrev aslp (G : Mem) (b c w a : Int) : Prop := G (b + 2) w = 0 ∧ G (c + 13 + w) 7 ≤ a ∧ a < G (c + 13 + w) 8 ∧ 3 < a - G (b + 3) w
theorem c_X8_asleep {b c w a : Int} (hb : Bs 8 b) (hc : Bs 1 c) (hw : 0 ≤ w ∧ w < 5) (i1 : InR (G (b + 2) w)) (i2 : InR (G (c + 13 + w) 7)) (i3 : InR (G (c + 13 + w) 8)) (ia : InR a) (i4 : InR (a - G (b + 3) w)) (h1 : aslp G b c w a → Q 1 G) (h0 : ¬ aslp G b c w a → Q 0 G) : Ct d M_X8_asleep NT 0 0 (some lay) [(2, b), (2, c), (0, w), (0, a)] G Q := by
  unfold aslp at h1 h0
  refine ctof (s_X8_asleep_0 hb hc ⟨hw, i1, fun c1 => ?_, fun c1 => ⟨i2, ia, fun c2 => ?_, fun c2 => ⟨i3, fun c3 => ?_, fun c3 => ⟨i4, fun c4 => ?_, fun c4 => ?_⟩⟩⟩⟩)
  · exact h0 (by omega)
  · exact h0 (by omega)
  · exact h0 (by omega)
  · exact h0 (by omega)
  · exact h1 (by omega)
def wakeG (G : Mem) (b w : Int) : Mem := st (st G (b + 3) w (G b 7)) b 8 (G b 8 + 1)
theorem c_X8_wake {b w : Int} (hb : Bs 8 b) (hw : 0 ≤ w ∧ w < 5) (h : Q 0 (wakeG G b w)) : Ct d M_X8_wake NT 0 0 (some lay) [(2, b), (0, w)] G Q := by
  refine ctof (s_X8_wake_0 hb ⟨hw, fun G2 e2 G3 e3 => ?_⟩)
  have e : G2 b 8 = G b 8 := by rw [e2]; exact st_nq G w (G b 7) 8 (by omega)
  rw [e, e2] at e3
  rw [e3]
  exact h
def askG (G : Mem) (b w l : Int) : Mem := if l = 0 then st (st G (b + 4) w (G (b + 4) w + 1)) b 9 (G b 9 + 1) else wakeG (st G (b + 4) w (G (b + 4) w + 1)) b w
theorem c_X8_ask {b w l : Int} (hb : Bs 8 b) (hw : 0 ≤ w ∧ w < 5) (hl : l = 0 ∨ l = 1) (h : Q l (askG G b w l)) : Ct (d + 1) M_X8_ask NT 0 0 (some lay) [(2, b), (0, w), (0, l)] G Q := by
  unfold askG at h
  refine ctof (s_X8_ask_0 hb ⟨hw, fun G2 e2 => ⟨by omega, fun c => ?_, fun c => ?_⟩⟩)
  · rw [if_pos c] at h
    intro G5 e5
    have e : G2 b 9 = G b 9 := by rw [e2]; exact st_nq G w _ 9 (by omega)
    rw [e, e2] at e5
    rw [e5]
    exact ⟨hl, h⟩
  · rw [if_neg c] at h
    subst e2
    exact c_X8_wake hb hw ⟨hl, h⟩
/-! a cabin -/
abbrev clsd (G : Mem) (c t : Int) : Prop := t < 0 ∨ G c 7 ≤ t ∨ 72 ≤ t ∨ G (c + 4) t ≠ 0
theorem c_X1_closed {c t : Int} (hc : Bs 1 c) (ht : InR t) (i1 : InR (G c 7)) (i2 : 0 ≤ t ∧ t < 72 → InR (G (c + 4) t)) (h1 : clsd G c t → Q 1 G) (h0 : ¬ clsd G c t → Q 0 G) : Ct d M_X1_closed NT 0 0 (some lay) [(2, c), (0, t)] G Q := by
  unfold clsd at h1 h0
  refine ctof (s_X1_closed_0 hc ⟨ht, fun c1 => ?_, fun c1 => ⟨i1, fun c2 => ?_, fun c2 => ⟨fun c3 => ?_, fun c3 => ⟨by omega, i2 (by omega), fun c4 => ?_, fun c4 => ?_⟩⟩⟩⟩)
  · exact h1 (by omega)
  · exact h1 (by omega)
  · exact h1 (by omega)
  · exact h0 (by omega)
  · exact h1 (by omega)
def outsf (G : Mem) (b : Int) : Nat → Int
  | 0 => 0
  | n + 1 => outsf G b n + (if G (b + 2) n = 0 then 0 else 1)
theorem c_X8_outside {b c : Int} {n : Nat} (hb : Bs 8 b) (hc : Bs 1 c) (hn : G c 8 = n) (hn5 : n ≤ 5) (i1 : ∀ i, 0 ≤ i → i < 5 → InR (G (b + 2) i)) (h : Q (outsf G b n) G) : Ct d M_X8_outside NT 0 0 (some lay) [(2, b), (2, c)] G Q := by
  refine ctof (s_X8_outside_0 hb hc ?_)
  have key : ∀ (k i : Nat), i + k = n → Rn d M_X8_outside zN 4 [(0, (2, b)), (1, (2, c)), (2, (0, outsf G b i)), (3, (0, (i : Int)))] [] G Q := by
    intro k
    induction k with
    | zero =>
      intro i hi
      refine s_X8_outside_4 hb hc ⟨by omega, by omega, fun _ => ?_, fun c1 => absurd (by omega) c1⟩
      rw [show i = n by omega]
      exact h
    | succ k ih =>
      intro i hi
      refine s_X8_outside_4 hb hc ⟨by omega, by omega, fun c1 => by omega, fun c1 => ⟨by omega, i1 i (by omega) (by omega), fun c2 => ?_, fun c2 => ?_⟩⟩
      · have h2 := ih (i + 1) (by omega)
        simp only [outsf, if_pos c2, Int.add_zero] at h2
        exact h2
      · have h2 := ih (i + 1) (by omega)
        simp only [outsf, if_neg c2] at h2
        exact h2
  exact key n 0 (by omega)
def cupsf (G : Mem) (b : Int) : Int := G (b + 7) 0 + G (b + 7) 1 + G (b + 7) 2 + G (b + 7) 3 + G (b + 7) 4
theorem c_X8_cups {b : Int} (hb : Bs 8 b) (h : Q (cupsf G b) G) : Ct d M_X8_cups NT 0 0 (some lay) [(2, b)] G Q := by
  refine ctof (s_X8_cups_0 hb ?_)
  have step : ∀ (x i : Int), 0 ≤ i → i < 5 → Rn d M_X8_cups zN 4 [(0, (2, b)), (1, (0, x + G (b + 7) i)), (2, (0, i + 1))] [] G Q → Rn d M_X8_cups zN 4 [(0, (2, b)), (1, (0, x)), (2, (0, i))] [] G Q := fun x i h0 h5 hr =>
    s_X8_cups_4 hb ⟨by omega, fun c1 => by omega, fun _ => ⟨by omega, hr⟩⟩
  refine step 0 0 (by omega) (by omega) (step _ 1 (by omega) (by omega) (step _ 2 (by omega) (by omega) (step _ 3 (by omega) (by omega) (step _ 4 (by omega) (by omega) (s_X8_cups_4 hb ⟨by omega, fun _ => ?_, fun c1 => by omega⟩)))))
  rw [Int.zero_add]
  exact h
def needf (G : Mem) (b c w m : Int) : Int := min 199 (G (b + 1) w + max 0 (m - max 0 (G (b + 2) w)) * grow G (c + 13 + w) 0)
theorem c_X8_needIn {b c w m : Int} (hb : Bs 8 b) (hc : Bs 1 c) (hw : 0 ≤ w ∧ w < 5) (i1 : InR (G (b + 2) w)) (i2 : InR (m - max 0 (G (b + 2) w))) (i3 : InR (G (c + 13 + w) 0)) (i4 : InR (G (b + 1) w + max 0 (m - max 0 (G (b + 2) w)) * grow G (c + 13 + w) 0)) (h : Q (needf G b c w m) G) : Ct (d + 1) M_X8_needIn NT 0 0 (some lay) [(2, b), (2, c), (0, w), (0, m)] G Q := by
  exact ctof (s_X8_needIn_0 hb hc ⟨hw, i1, i2, c_X7_growth (el_1_0 hc hw.1 hw.2).2.2 i3 ⟨i4, h⟩⟩)
end BASICS
