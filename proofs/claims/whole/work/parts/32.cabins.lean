section CABINS
variable {d : Nat} {G : Mem} {Q : Int → Mem → Prop}
def CbCp (G G' : Mem) (t p : Int) : Prop := (∀ k, 6 ≤ k → k ≤ 10 → G' t k = G p k) ∧ (∀ j, 2 ≤ j → j ≤ 3 → ∀ i, 0 ≤ i → i < 5 → G' (t + j) i = G (p + j) i) ∧ (∀ i, 0 ≤ i → i < 72 → G' (t + 4) i = G (p + 4) i) ∧ (∀ i, 0 ≤ i → i < 4 → G' (t + 5) i = G (p + 5) i) ∧
  (∀ j, 0 ≤ j → j < 5 → ∀ k, 0 ≤ k → k ≤ 8 → G' (t + 13 + j) k = G (p + 13 + j) k) ∧ G' (t + 6) 6 = G (p + 6) 6 ∧ (∀ j, 8 ≤ j → j ≤ 10 → ∀ i, 0 ≤ i → i < 3 → G' (t + j) i = G (p + j) i) ∧ (∀ i, 0 ≤ i → i < G (p + 6) 6 → G' (t + 11) i = G (p + 11) i) ∧ ∀ q k : Int, ¬ (t ≤ q ∧ q < t + 18) → G' q k = G q k
theorem c_X1_take {t p : Int} (ht : Bs 1 t) (hp : Bs 1 p) (hne : t ≠ p) (hm : 0 ≤ G (p + 6) 6 ∧ G (p + 6) 6 ≤ 1000) (h : ∀ G', CbCp G G' t p → Q 0 G') : Ct (d + 2) M_X1_take NT 0 0 (some lay) [(2, t), (2, p)] G Q := by
  have ha := cb_apart t ht.cb p hp.cb
  have ok : CpOk 0 0 5 5 5 := by unfold CpOk; omega
  have ok7 : CpOk 0 0 72 72 72 := by unfold CpOk; omega
  have ok4 : CpOk 0 0 4 4 4 := by unfold CpOk; omega
  have key : ∀ (n i : Nat) (Gi : Mem), i + n = 5 → (∀ k, 6 ≤ k → k ≤ 10 → Gi t k = G p k) → (∀ j, 0 ≤ j → j < (i : Int) → ∀ k, 0 ≤ k → k ≤ 8 → Gi (t + 13 + j) k = G (p + 13 + j) k) → (∀ q k : Int, q ≠ t → ¬ (t + 13 ≤ q ∧ q < t + 13 + i) → Gi q k = G q k) →
      Rn (d + 2) M_X1_take zN 42 [(0, (2, t)), (1, (2, p)), (2, (0, (i : Int)))] [] Gi Q := by
    intro n
    induction n with
    | zero =>
      intro i Gi hi f1 f2 f3
      have hi5 : i = 5 := by omega
      subst hi5
      refine s_X1_take_42 ht hp ⟨by omega, fun _ => ⟨ok, fun G4 e4 => ⟨ok, fun G6 e6 => ⟨ok7, fun G8 e8 => ⟨ok4, fun G10 e10 => ?_⟩⟩⟩⟩, fun c => absurd (by omega) c⟩
      have g6 : G10 (p + 6) 6 = G (p + 6) 6 := by
        rw [e10, e8, e6, e4]
        simp (disch := omega) only [cpy_nq, f3]
      refine c_X3_take (ly_1_5 ht).2.2 (ly_1_5 hp).2.2 (by omega) (by rw [g6]; exact hm) (fun G' hL => h G' ?_)
      obtain ⟨l1, l2, l3, l4⟩ := hL
      subst e10 e8 e6 e4
      refine ⟨fun k h6 h10 => ?_, fun j h2 h3 x h0 h5 => ?_, fun x h0 h5 => ?_, fun x h0 h5 => ?_, fun j h0 h5 k k0 k8 => ?_, ?_, fun j h8 h10 x h0 h3 => ?_, fun x h0 h1 => ?_, fun q k hq => ?_⟩
      · simp (disch := omega) only [l4, cpy_nq, f1]
      · rcases (by omega : j = 2 ∨ j = 3) with rfl | rfl <;> simp (disch := omega) only [l4, cpy_nq, cpy0_in, f3]
      · simp (disch := omega) only [l4, cpy_nq, cpy0_in, f3]
      · simp (disch := omega) only [l4, cpy_nq, cpy0_in, f3]
      · simp (disch := omega) only [l4, cpy_nq, f2]
      · rw [l1, g6]
      · have e := l2 (j - 6) (by omega) (by omega) x h0 h3
        rw [show t + 6 + (j - 6) = t + j from by omega, show p + 6 + (j - 6) = p + j from by omega] at e
        rw [e]
        simp (disch := omega) only [cpy_nq, f3]
      · have e := l3 x h0 (by rw [g6]; exact h1)
        rw [show t + 6 + 5 = t + 11 from by omega, show p + 6 + 5 = p + 11 from by omega] at e
        rw [e]
        simp (disch := omega) only [cpy_nq, f3]
      · simp (disch := omega) only [l4, cpy_nq, f3]
    | succ n ih =>
      intro i Gi hi f1 f2 f3
      refine s_X1_take_42 ht hp ⟨by omega, fun c => by omega, fun _ => ⟨by omega, ?_⟩⟩
      refine c_X7_take (el_1_0 ht (by omega) (by omega)).2.2 (el_1_0 hp (by omega) (by omega)).2.2 (by omega) (fun G' g1 g2 => ih (i + 1) G' (by omega) (fun k k6 k10 => ?_) (fun j j0 j1 k k0 k8 => ?_) (fun q k hq hq2 => ?_))
      · rw [g2 _ _ (by omega)]; exact f1 k k6 k10
      · by_cases hj : j = (i : Int)
        · subst hj
          rw [g1 k k0 k8, f3 _ _ (by omega) (by omega)]
        · rw [g2 _ _ (by omega)]; exact f2 j j0 (by omega) k k0 k8
      · rw [g2 _ _ (by omega)]; exact f3 q k hq (by omega)
  refine ctof (s_X1_take_0 ht hp (fun G1 e1 G2 e2 G3 e3 G4 e4 G5 e5 => key 5 0 G5 rfl (fun k h6 h10 => ?_) (fun j j0 j1 => by omega) (fun q k hq _ => ?_)))
  · subst e5 e4 e3 e2 e1
    rcases (by omega : k = 6 ∨ k = 7 ∨ k = 8 ∨ k = 9 ∨ k = 10) with rfl | rfl | rfl | rfl | rfl <;> simp (disch := omega) only [st_nq, st_nk, st_same]
  · subst e5 e4 e3 e2 e1
    simp (disch := omega) only [st_nq]
/-! a tick passes -/
def nneed (G : Mem) (b c th i : Int) : Int := if G (b + 2) i ≤ 0 then min 199 (G (b + 1) i + grow G (c + 13 + i) (if i = th then 1 else 0)) else G (b + 1) i
def nout (G : Mem) (b i : Int) : Int := if G (b + 2) i ≤ 0 then G (b + 2) i else if G (b + 2) i = 1 then -1 else G (b + 2) i - 1
def nlate (G : Mem) (b c th i : Int) : Int := if G (c + 13 + i) 3 < nneed G b c th i then 1 else 0
def lateN (G : Mem) (b c th : Int) : Nat → Int
  | 0 => 0
  | n + 1 => lateN G b c th n + nlate G b c th n
/-- behind the passing of the first i -/
def PassR (G G' : Mem) (b c th : Int) (i : Nat) : Prop := G' b 11 = G b 11 + lateN G b c th i ∧ (∀ j, 0 ≤ j → j < (i : Int) → G' (b + 1) j = nneed G b c th j ∧ G' (b + 2) j = nout G b j ∧ G' (b + 6) j = G (b + 6) j + nlate G b c th j) ∧
  (∀ q k : Int, (q ≠ b + 1 ∧ q ≠ b + 2 ∧ q ≠ b + 6 ∨ k < 0 ∨ (i : Int) ≤ k) → (q ≠ b ∨ k ≠ 11) → G' q k = G q k)
theorem grow_in {G : Mem} {q m : Int} (h : SitOk G q) (hm : 0 ≤ m ∧ m ≤ 1) : 0 ≤ grow G q m ∧ grow G q m ≤ 20 := by
  obtain ⟨-, -, h2, -⟩ := h
  unfold grow
  split <;> omega
theorem c_X8_pass {b c th : Int} {n : Nat} (hb : Bs 8 b) (hc : Bs 1 c) (hn : G c 8 = n) (hn5 : n ≤ 5) (hth : InR th) (hS : StOk G b) (hC : ∀ i, 0 ≤ i → i < (n : Int) → SitOk G (c + 13 + i)) (h : ∀ G', PassR G G' b c th n → Q 0 (st G' b 7 (G b 7 + 1))) : Ct (d + 2) M_X8_pass NT 0 0 (some lay) [(2, b), (2, c), (0, th)] G Q := by
  have ha := st_cb_apart b hb.st c hc.cb
  refine ctof (s_X8_pass_0 hb hc ?_)
  have key : ∀ (k i : Nat) (Gi : Mem), i + k = n → PassR G Gi b c th i → Rn (d + 2) M_X8_pass zN 2 [(0, (2, b)), (1, (2, c)), (2, (0, th)), (3, (0, (i : Int)))] [] Gi Q := by
    intro k
    induction k with
    | zero =>
      intro i Gi hi hP
      have hin : i = n := by omega
      subst hin
      have e8 : Gi c 8 = G c 8 := hP.2.2 _ _ (by omega) (by omega)
      refine s_X8_pass_2 hb hc ⟨by omega, by omega, fun _ G4 e4 => ?_, fun c1 => absurd (by omega) c1⟩
      have e7 : Gi b 7 = G b 7 := hP.2.2 _ _ (by omega) (by omega)
      rw [e7] at e4
      rw [e4]
      exact h Gi hP
    | succ k ih =>
      intro i Gi hi hP
      have hr := hS.2 i (by omega) (by omega)
      have hs := hC i (by omega) (by omega)
      obtain ⟨p1, p2, p3⟩ := hP
      have e8 : Gi c 8 = G c 8 := p3 _ _ (by omega) (by omega)
      have eo : Gi (b + 2) i = G (b + 2) i := p3 _ _ (by omega) (by omega)
      have en : Gi (b + 1) i = G (b + 1) i := p3 _ _ (by omega) (by omega)
      have el : Gi (b + 6) i = G (b + 6) i := p3 _ _ (by omega) (by omega)
      have es : ∀ k, Gi (c + 13 + i) k = G (c + 13 + i) k := fun k => p3 _ _ (by omega) (by omega)
      obtain ⟨⟨r1, r2⟩, ⟨r3, r4⟩, -, -, r5⟩ := hr
      have hs3 := hs.2.2.2.1
      -- the end of the row: out
      have L95 : ∀ Gb : Mem, Gb b 11 = G b 11 + lateN G b c th (i + 1) → (∀ j, 0 ≤ j → j < (i : Int) → Gb (b + 1) j = nneed G b c th j ∧ Gb (b + 2) j = nout G b j ∧ Gb (b + 6) j = G (b + 6) j + nlate G b c th j) → Gb (b + 1) i = nneed G b c th i → Gb (b + 6) i = G (b + 6) i + nlate G b c th i →
          (∀ q k : Int, (q ≠ b + 1 ∧ q ≠ b + 6 ∨ k < 0 ∨ (i : Int) + 1 ≤ k) → (q ≠ b + 2 ∨ k < 0 ∨ (i : Int) ≤ k) → (q ≠ b ∨ k ≠ 11) → Gb q k = G q k) → Rn (d + 2) M_X8_pass zN 95 [(0, (2, b)), (1, (2, c)), (2, (0, th)), (3, (0, (i : Int)))] [] Gb Q := by
        intro Gb b1 b2 b3 b4 b5
        have eb : Gb (b + 2) i = G (b + 2) i := b5 _ _ (by omega) (by omega) (by omega)
        have fin : ∀ Gc : Mem, Gc (b + 2) i = nout G b i → (∀ q k : Int, (q ≠ b + 2 ∨ k ≠ i) → Gc q k = Gb q k) → Rn (d + 2) M_X8_pass zN 2 [(0, (2, b)), (1, (2, c)), (2, (0, th)), (3, (0, ((i : Int) + 1)))] [] Gc Q := by
          intro Gc c1 c2
          refine ih (i + 1) Gc (by omega) ⟨by rw [c2 _ _ (by omega)]; exact b1, fun j j0 j1 => ?_, fun q k h1 h2 => ?_⟩
          · by_cases hj : j = (i : Int)
            · subst hj
              refine ⟨by rw [c2 _ _ (by omega)]; exact b3, c1, by rw [c2 _ _ (by omega)]; exact b4⟩
            · obtain ⟨x1, x2, x3⟩ := b2 j j0 (by omega)
              exact ⟨by rw [c2 _ _ (by omega)]; exact x1, by rw [c2 _ _ (by omega)]; exact x2, by rw [c2 _ _ (by omega)]; exact x3⟩
          · rw [c2 _ _ (by omega)]
            exact b5 _ _ (by omega) (by omega) h2
        refine s_X8_pass_95 hb hc ⟨by omega, by omega, fun o1 => fin Gb (by unfold nout; rw [if_pos (by omega)]; exact eb) (fun _ _ _ => rfl), fun o1 => ⟨fun o2 G9 e9 => ?_, fun o2 G11 e11 => ?_⟩⟩
        · refine fin G9 ?_ (fun q k hq => by rw [e9]; exact st_ne _ _ (by omega))
          rw [e9, st_same, eb]
          unfold nout
          rw [if_neg (by omega), if_neg (by omega)]
        · refine fin G11 ?_ (fun q k hq => by rw [e11]; exact st_ne _ _ (by omega))
          rw [e11, st_same]
          unfold nout
          rw [if_neg (by omega), if_pos (by omega)]
      -- the need stands: too late?
      have L61 : ∀ Ga : Mem, Ga (b + 1) i = nneed G b c th i → (∀ q k : Int, (q ≠ b + 1 ∨ k ≠ i) → Ga q k = Gi q k) → Rn (d + 2) M_X8_pass zN 61 [(0, (2, b)), (1, (2, c)), (2, (0, th)), (3, (0, (i : Int))), (4, (2, (c + 13 + i)))] [] Ga Q := by
        intro Ga a1 a2
        have hnn : 0 ≤ nneed G b c th i ∧ nneed G b c th i ≤ 199 := by
          unfold nneed
          split
          · have hg := grow_in (m := if (i : Int) = th then 1 else 0) hs (by split <;> omega)
            omega
          · omega
        have e3 : Ga (c + 13 + i) 3 = G (c + 13 + i) 3 := by rw [a2 _ _ (by omega)]; exact es 3
        have eA : Ga b 11 = G b 11 + lateN G b c th i := by rw [a2 _ _ (by omega)]; exact p1
        refine s_X8_pass_61 hb hc (el_1_0 hc (by omega) (by omega)).2.2 ⟨by omega, by omega, by omega, fun o1 => ?_, fun o1 G7 e7 G8 e8 => ?_⟩
        · have hl0 : nlate G b c th i = 0 := by unfold nlate; rw [if_neg (by omega)]
          refine L95 Ga (by rw [eA]; simp only [lateN, hl0]; omega) (fun j j0 j1 => ?_) a1 (by rw [a2 _ _ (by omega), el, hl0]; omega) (fun q k h1 h2 h3 => ?_)
          · rw [a2 _ _ (by omega), a2 _ _ (by omega), a2 _ _ (by omega)]
            exact p2 j j0 j1
          · rw [a2 _ _ (by omega)]
            exact p3 _ _ (by omega) h3
        · have hl1 : nlate G b c th i = 1 := by unfold nlate; rw [if_pos (by omega)]
          have e70 : G7 b 11 = Ga b 11 := by rw [e7]; exact st_nq _ _ _ _ (by omega)
          have g8 : ∀ q k : Int, (q ≠ b + 6 ∨ k ≠ i) → (q ≠ b ∨ k ≠ 11) → G8 q k = Ga q k := fun q k h1 h2 => by
            rw [e8, st_ne _ _ (by omega), e7, st_ne _ _ (by omega)]
          have g6 : G8 (b + 6) i = G (b + 6) i + 1 := by
            rw [e8, st_ne _ _ (by omega), e7, st_same, a2 _ _ (by omega), el]
          have g11 : G8 b 11 = G b 11 + lateN G b c th i + 1 := by rw [e8, st_same, e70, eA]
          refine L95 G8 (by rw [g11]; simp only [lateN, hl1]; omega) (fun j j0 j1 => ?_) (by rw [g8 _ _ (by omega) (by omega)]; exact a1) (by rw [g6, hl1]) (fun q k h1 h2 h3 => ?_)
          · rw [g8 _ _ (by omega) (by omega), g8 _ _ (by omega) (by omega), g8 _ _ (by omega) (by omega), a2 _ _ (by omega), a2 _ _ (by omega), a2 _ _ (by omega)]
            exact p2 j j0 j1
          · rw [g8 _ _ (by omega) h3, a2 _ _ (by omega)]
            exact p3 _ _ (by omega) h3
      have L53 : ∀ m : Int, m = (if (i : Int) = th then 1 else 0) → G (b + 2) i ≤ 0 → Rn (d + 2) M_X8_pass zN 53 [(0, (2, b)), (1, (2, c)), (2, (0, th)), (3, (0, (i : Int))), (4, (2, (c + 13 + i)))] [(0, m), (2, (c + 13 + i)), (0, Gi (b + 1) i), (0, 199), (0, (i : Int)), (2, (b + 1))] Gi Q := by
        intro m hm ho
        have h7 := (el_1_0 hc (i := (i : Int)) (by omega) (by omega)).2.2
        have eg : grow Gi (c + 13 + i) m = grow G (c + 13 + i) m := by unfold grow; rw [es, es]
        have hg := grow_in (m := m) hs (by rw [hm]; split <;> omega)
        have h0 := hs.1
        refine s_X8_pass_53 hb hc h7 h7 (ly_8_0 hb).2.2 (c_X7_growth h7 (by rw [es]; omega) ⟨by omega, by rw [eg, en]; omega, by omega, fun G6 e6 => ?_⟩)
        refine L61 G6 ?_ (fun q k hq => by rw [e6]; exact st_ne _ _ (by omega))
        rw [e6, st_same, eg, en]
        unfold nneed
        rw [if_pos ho, hm]
      refine s_X8_pass_2 hb hc ⟨by omega, by omega, fun c1 => by omega, fun c1 => ⟨by omega, by omega, fun o1 => ?_, fun o1 => ⟨hth, fun o2 => ?_, fun o2 => ?_⟩⟩⟩
      · refine L61 Gi ?_ (fun _ _ _ => rfl)
        unfold nneed
        rw [if_neg (by omega), en]
      · exact L53 0 (by rw [if_neg o2]) (by omega)
      · exact L53 1 (by rw [if_pos (Decidable.not_not.mp o2)]) (by omega)
  exact key n 0 G (by omega) ⟨by simp [lateN], fun j j0 j1 => by omega, fun _ _ _ _ => rfl⟩
end CABINS
