section NEEDS
variable {d : Nat} {S G H : Mem} {Q : Int → Mem → Prop} {c : Int} {fs : Int → Law}
theorem mul_bd {a b A B : Int} (ha : 0 ≤ a ∧ a ≤ A) (hb : 0 ≤ b ∧ b ≤ B) : 0 ≤ a * b ∧ a * b ≤ A * B :=
  ⟨Int.mul_nonneg ha.1 hb.1, Int.mul_le_mul ha.2 hb.2 hb.1 (by omega)⟩
theorem grow_bd {t m : Int} (h : SitOk S t) (hm : 0 ≤ m ∧ m ≤ 1) : 0 ≤ grow S t m ∧ grow S t m ≤ 20 := by
  have k := h.2.2.1
  unfold grow
  split <;> omega
theorem c_needIn {w m : Int} (hC : Cls G c) (hw : 0 ≤ w ∧ w < G c 8) (hm : 0 ≤ m ∧ m ≤ 1000) (h : Q (needf G 73 c w m) G) : Ct (d + 1) M_X8_needIn NT 0 0 (some lay) [(2, 73), (2, c), (0, w), (0, m)] G Q := by
  have r := hC.rng
  have so := hC.sok hw.1 hw.2
  have ro := hC.rok (i := w) (by omega) (by omega)
  have k0 := so.1
  have g := grow_bd so (m := 0) (by omega)
  have b := mul_bd (a := max 0 (m - max 0 (G 75 w))) (A := 1000) (by omega) g
  exact c_X8_needIn b8_73 hC.2.1 (by omega) (show InR (G 75 w) by omega) (show InR (m - max 0 (G 75 w)) by omega) (by omega) (show InR (G 74 w + max 0 (m - max 0 (G 75 w)) * grow G (c + 13 + w) 0) by omega) h
theorem c_needBehind {w m : Int} (hR : Cu S G c) (hw : 0 ≤ w ∧ w < S c 8) (hm : 0 ≤ m ∧ m ≤ 1000) (h : Q (needf S 73 c w m) G) : Ct (d + 1) M_X12_needBehind NT 0 0 (some lay) [(2, 311), (0, w), (0, m)] G Q := by
  have r := hR.rng
  have so := hR.sok hw.1 hw.2
  have ro := hR.rok (i := w) (by omega) (by omega)
  have row := hR.row hw.1 hw.2
  have g := grow_bd so (m := 0) (by omega)
  have h : Q (min 199 (S 74 w + max 0 (m - max 0 (S 75 w)) * grow S (c + 13 + w) 0)) G := h
  generalize hgr : grow S (c + 13 + w) 0 = gr at *
  have L23 : ∀ o, o = max 0 (S 75 w) → Rn (d + 1) M_X12_needBehind zN 23 [(0, (2, 311)), (1, (0, w)), (2, (0, m))] [(0, o)] G Q := by
    intro o ho
    refine s_X12_needBehind_23 ⟨by omega, ?_⟩
    rw [row.1]
    rw [← ho] at h
    by_cases hmo : m ≤ o
    · refine s_X12_needBehind_35 ⟨by omega, by omega, fun _ => ?_, fun x => absurd hmo x⟩
      rw [show max 0 (m - o) = 0 by omega, Int.zero_mul, show min 199 (S 74 w + 0) = S 74 w by omega] at h
      exact h
    · obtain ⟨n, hn⟩ := Int.eq_ofNat_of_zero_le (show 0 ≤ m - o by omega)
      rw [show max 0 (m - o) = (n : Int) by omega] at h
      have key : ∀ (k i : Nat), i + k = n → Rn (d + 1) M_X12_needBehind zN 35 [(0, (2, 311)), (1, (0, w)), (2, (0, m)), (4, (0, min 199 (S 74 w + (i : Int) * gr))), (5, (0, o + (i : Int)))] [] G Q := by
        intro k
        induction k with
        | zero =>
          intro i hi
          refine s_X12_needBehind_35 ⟨by omega, by omega, fun _ => ?_, fun x => absurd (by omega) x⟩
          rw [show i = n by omega]; exact h
        | succ k ih =>
          intro i hi
          have nn := Int.mul_nonneg (show (0 : Int) ≤ i by omega) g.1
          refine s_X12_needBehind_35 ⟨by omega, by omega, fun x => by omega, fun _ => c_growth hR hw ?_⟩
          rw [hgr]
          have x := ih (i + 1) (by omega)
          rw [show ((i + 1 : Nat) : Int) = (i : Int) + 1 from by omega, Int.add_mul, Int.one_mul] at x
          rw [show min 199 (min 199 (S 74 w + (i : Int) * gr) + gr) = min 199 (S 74 w + ((i : Int) * gr + gr)) by omega, show o + (i : Int) + 1 = o + ((i : Int) + 1) by omega]
          exact ⟨by omega, x⟩
      have x := key n 0 (by omega)
      rw [show ((0 : Nat) : Int) = 0 from rfl, Int.zero_mul, show min 199 (S 74 w + 0) = S 74 w by omega, Int.add_zero] at x
      exact x
  refine ctof (s_X12_needBehind_0 ⟨by omega, by omega, fun x => L23 _ (by omega), fun x => L23 _ (by omega)⟩)
/-! length -/
def lenF (S : Mem) (c w : Int) : Nat → Int → Int
  | 0, _ => -1
  | n + 1, k => if S (c + 13 + w) 3 < needf S 73 c w k then k else lenF S c w n (k + 1)
theorem needf_bd {w m : Int} : needf S 73 c w m ≤ 199 := by unfold needf; omega
theorem needf_nn {w m : Int} (so : SitOk S (c + 13 + w)) (ro : 0 ≤ S 74 w) : 0 ≤ needf S 73 c w m := by
  have g := grow_bd so (m := 0) (by omega)
  have b := Int.mul_nonneg (show 0 ≤ max 0 (m - max 0 (S (73 + 2) w)) by omega) g.1
  unfold needf
  have : 0 ≤ S (73 + 1) w := ro
  omega
theorem t_length {s : Int} (hI : Inv0 G G c fs) (is : InR s) : Ct (d + 2) M_X11_length NT 0 0 (some lay) [(2, 0), (0, s)] G (fun v G1 => Ct (d + 2) M_X12_length NT 0 0 (some lay) [(2, 311), (0, s)] G1 (Ok2 c fs G v)) := by
  have hC := hI.cls
  have r := hC.rng
  have hc := hC.1
  have tk := hC.tick
  obtain ⟨n, hn⟩ := Int.eq_ofNat_of_zero_le (show 0 ≤ G c 7 - G 73 7 by omega)
  have m : ∀ v, (0 ≤ s ∧ s < G c 8 → v = lenF G c s n 1) → (¬ (0 ≤ s ∧ s < G c 8) → v = -1) → Ct (d + 2) M_X12_length NT 0 0 (some lay) [(2, 311), (0, s)] G (Ok2 c fs G v) := by
    intro v hv1 hv0
    refine ctof (s_X12_length_0 (fun G1 e1 => ?_))
    have f1 : ThF G G1 := by rw [e1]; exact ThF.st
    have hR := f1.cu hI.2.1
    have ok : Ok2 c fs G v v G1 := hI.ok ClF.rfl' f1.ml
    refine c_isSitter hR is (fun q => ⟨by omega, fun _ => ?_, fun x => absurd (show (1 : Int) ≠ 0 by decide) x⟩) (fun q => ⟨by omega, fun x => absurd rfl x, fun _ => ?_⟩)
    · have hv1 := hv1 q
      have so := hR.sok q.1 q.2
      have k3 : 1 ≤ G (c + 13 + s) 3 ∧ G (c + 13 + s) 3 ≤ 99 := so.2.2.2.1
      have ro := hR.rok (i := s) (by omega) (by omega)
      have row := hR.row q.1 q.2
      have sit := (hR.sit q.1 q.2).2.2.2.1
      have L41 : ∀ o, o = max 0 (G 75 s) → Rn (d + 2) M_X12_length zN 41 [(0, (2, 311)), (1, (0, s)), (2, (0, o)), (3, (0, 1))] [] G1 (Ok2 c fs G v) := by
        intro o ho
        have key : ∀ (k i : Nat), i + k = n → v = lenF G c s k (i + 1) → Rn (d + 2) M_X12_length zN 41 [(0, (2, 311)), (1, (0, s)), (2, (0, o)), (3, (0, (i : Int) + 1))] [] G1 (Ok2 c fs G v) := by
          intro k
          induction k with
          | zero =>
            intro i hi hv
            refine s_X12_length_41 ⟨by omega, ?_⟩
            rw [hR.seats.2.1, hR.nums.1]
            refine ⟨by omega, fun _ => ?_, fun x => absurd (by omega) x⟩
            have e : v = -1 := hv
            rw [e] at ok ⊢; exact ok
          | succ k ih =>
            intro i hi hv
            unfold lenF at hv
            refine s_X12_length_41 ⟨by omega, ?_⟩
            rw [hR.seats.2.1, hR.nums.1]
            refine ⟨by omega, fun x => by omega, fun _ => ⟨by omega, fun x => ?_, fun x => c_needBehind hR q (by omega) ⟨by omega, ?_⟩⟩⟩
            · have e0 : needf G 73 c s ((i : Int) + 1) = 0 := by
                have z1 : max 0 ((i : Int) + 1 - max 0 (G 75 s)) = 0 := by omega
                show min 199 (G 74 s + max 0 ((i : Int) + 1 - max 0 (G 75 s)) * _) = 0
                rw [z1, Int.zero_mul]
                omega
              rw [e0, if_neg (by omega)] at hv
              exact ih (i + 1) (by omega) hv
            · have b1 := needf_bd (S := G) (c := c) (w := s) (m := (i : Int) + 1)
              have b0 := needf_nn (m := (i : Int) + 1) so (by omega)
              rw [sit]
              refine ⟨by omega, by omega, fun y => ?_, fun y => ?_⟩
              · rw [if_neg (by omega)] at hv
                exact ih (i + 1) (by omega) hv
              · rw [if_pos (by omega)] at hv
                rw [hv] at ok ⊢; exact ok
        have x := key n 0 (by omega) (by rw [hv1]; rfl)
        exact x
      refine ⟨by omega, by omega, fun x => L41 _ (by omega), fun x => ?_⟩
      have := L41 (G1 342 (5 + s)) (by omega)
      exact this
    · have e := hv0 q
      rw [e] at ok ⊢; exact ok
  refine ctof (s_X11_length_0 (c_X11_known hC is (fun q => ⟨by omega, fun _ => ?_, fun x => absurd (show (1 : Int) ≠ 0 by decide) x⟩) (fun q => ⟨by omega, fun x => absurd rfl x, fun _ => m _ (fun x => absurd x q) (fun _ => rfl)⟩)))
  have so := hC.sok q.1 q.2
  have k3 := so.2.2.2.1
  have ro := hC.rok (i := s) (by omega) (by omega)
  have key : ∀ (k i : Nat), i + k = n → lenF G c s n 1 = lenF G c s k (i + 1) → Rn (d + 2) M_X11_length zN 12 [(0, (2, 0)), (1, (0, s)), (2, (0, (i : Int) + 1))] [] G (fun v G1 => Ct (d + 2) M_X12_length NT 0 0 (some lay) [(2, 311), (0, s)] G1 (Ok2 c fs G v)) := by
    intro k
    induction k with
    | zero =>
      intro i hi hv
      refine s_X11_length_12 (fun b hb => ?_)
      rw [hc] at hb
      subst hb
      exact ⟨hC.2.1, by omega, by omega, fun _ => m _ (fun _ => hv.symm) (fun x => absurd q x), fun x => absurd (by omega) x⟩
    | succ k ih =>
      intro i hi hv
      refine s_X11_length_12 (fun b hb => ?_)
      rw [hc] at hb
      subst hb
      refine ⟨hC.2.1, by omega, by omega, fun x => by omega, fun _ b7 h7 => ?_⟩
      rw [hc] at h7
      subst h7
      refine ⟨hC.2.1, c_needIn hC q (by omega) (fun b12 h12 => ?_)⟩
      rw [hc] at h12
      subst h12
      have b1 := needf_bd (S := G) (c := b12) (w := s) (m := (i : Int) + 1)
      have b0 := needf_nn (m := (i : Int) + 1) so (by omega)
      have uf : lenF G b12 s n 1 = if G (b12 + 13 + s) 3 < needf G 73 b12 s ((i : Int) + 1) then (i : Int) + 1 else lenF G b12 s k ((i : Int) + 1 + 1) := hv
      refine ⟨hC.2.1, by omega, by omega, by omega, fun y => ?_, fun y => m _ (fun _ => ?_) (fun x => absurd q x)⟩
      · rw [if_neg (by omega)] at uf
        exact ih (i + 1) (by omega) uf
      · rw [if_pos (by omega)] at uf
        exact uf.symm
  exact key n 0 (by omega) rfl
/-! before -/
abbrev befP (S : Mem) (c w t : Int) : Prop := ¬ clsd S c t ∧ needf S 73 c w (t - S 73 7) ≤ S (c + 13 + w) 3
def befD (S : Mem) (c w : Int) : Nat → Int
  | 0 => -1
  | n + 1 => if befP S c w (S 73 7 + n) then S 73 7 + n else befD S c w n
theorem befD_in {w : Int} (h : 0 ≤ S 73 7 ∧ S 73 7 ≤ 72) : ∀ n : Nat, n ≤ 72 → -1 ≤ befD S c w n ∧ befD S c w n ≤ 200 := by
  intro n
  induction n with
  | zero => intro _; unfold befD; omega
  | succ n ih =>
    intro hn
    have := ih (by omega)
    unfold befD
    split <;> omega
theorem t_before {s : Int} (hI : Inv0 G G c fs) (is : InR s) : Ct (d + 2) M_X11_before NT 0 0 (some lay) [(2, 0), (0, s)] G (fun v G1 => Ct (d + 2) M_X12_before NT 0 0 (some lay) [(2, 311), (0, s)] G1 (Ok2 c fs G v)) := by
  have hC := hI.cls
  have r := hC.rng
  have hc := hC.1
  have tk := hC.tick
  obtain ⟨n, hn⟩ := Int.eq_ofNat_of_zero_le (show 0 ≤ G c 7 - G 73 7 by omega)
  have m : ∀ v, (0 ≤ s ∧ s < G c 8 → v = befD G c s n) → (¬ (0 ≤ s ∧ s < G c 8) → v = -1) → Ct (d + 2) M_X12_before NT 0 0 (some lay) [(2, 311), (0, s)] G (Ok2 c fs G v) := by
    intro v hv1 hv0
    refine ctof (s_X12_before_0 (fun G1 e1 => ?_))
    have f1 : ThF G G1 := by rw [e1]; exact ThF.st
    have hR := f1.cu hI.2.1
    have ok : Ok2 c fs G v v G1 := hI.ok ClF.rfl' f1.ml
    refine c_isSitter hR is (fun q => ⟨by omega, fun _ => ?_, fun x => absurd (show (1 : Int) ≠ 0 by decide) x⟩) (fun q => ⟨by omega, fun x => absurd rfl x, fun _ => ?_⟩)
    · have hv1 := hv1 q
      have so := hR.sok q.1 q.2
      have k3 : 1 ≤ G (c + 13 + s) 3 ∧ G (c + 13 + s) 3 ≤ 99 := so.2.2.2.1
      have ro := hR.rok (i := s) (by omega) (by omega)
      have sit := (hR.sit q.1 q.2).2.2.2.1
      have nm := hR.nums.1
      have key : ∀ (k i : Nat), i + k = n → Rn (d + 2) M_X12_before zN 25 [(0, (2, 311)), (1, (0, s)), (2, (0, befD G c s i)), (3, (0, G 73 7 + (i : Int)))] [] G1 (Ok2 c fs G v) := by
        intro k
        induction k with
        | zero =>
          intro i hi
          refine s_X12_before_25 ⟨by omega, ?_⟩
          rw [hR.seats.2.1]
          refine ⟨by omega, fun _ => ?_, fun x => absurd (by omega) x⟩
          rw [show i = n by omega, ← hv1]; exact ok
        | succ k ih =>
          intro i hi
          have x := ih (i + 1) (by omega)
          have bi := befD_in (S := G) (c := c) (w := s) tk.1 i (by omega)
          unfold befD at x
          rw [show G 73 7 + ((i + 1 : Nat) : Int) = G 73 7 + (i : Int) + 1 by omega] at x
          refine s_X12_before_25 ⟨by omega, ?_⟩
          rw [hR.seats.2.1]
          refine ⟨by omega, fun x => by omega, fun _ => c_isShut hR (by omega) (fun y => ⟨by omega, fun _ => ?_, fun z => absurd (show (1 : Int) ≠ 0 by decide) z⟩) (fun y => ⟨by omega, fun z => absurd rfl z, fun _ => ?_⟩)⟩
          · rw [if_neg (fun z => z.1 y)] at x; exact x
          · rw [nm]
            refine c_needBehind hR q (by omega) ⟨by omega, ?_⟩
            have b1 := needf_bd (S := G) (c := c) (w := s) (m := G 73 7 + (i : Int) - G 73 7)
            have b0 := needf_nn (m := G 73 7 + (i : Int) - G 73 7) so (by omega)
            rw [sit]
            refine ⟨by omega, by omega, fun z => ?_, fun z => ?_⟩
            · rw [if_neg (fun z2 => by have := z2.2; omega)] at x; exact x
            · rw [if_pos ⟨y, by omega⟩] at x; exact x
      have x := key n 0 (by omega)
      rw [show G 73 7 + ((0 : Nat) : Int) = G1 342 110 by rw [nm]; omega] at x
      exact x
    · have e := hv0 q
      rw [e] at ok ⊢; exact ok
  refine ctof (s_X11_before_0 (c_X11_known hC is (fun q => ⟨by omega, fun _ b hb => ?_, fun x => absurd (show (1 : Int) ≠ 0 by decide) x⟩) (fun q => ⟨by omega, fun x => absurd rfl x, fun _ => m _ (fun x => absurd x q) (fun _ => rfl)⟩)))
  rw [hc] at hb
  subst hb
  refine ⟨hC.2.1, ?_⟩
  have so := hC.sok q.1 q.2
  have k3 := so.2.2.2.1
  have ro := hC.rok (i := s) (by omega) (by omega)
  have key : ∀ k : Nat, k ≤ n → befD G b s n = befD G b s k → Rn (d + 2) M_X11_before zN 20 [(0, (2, 0)), (1, (0, s)), (2, (0, G 73 7 + (k : Int) - 1))] [] G (fun v G1 => Ct (d + 2) M_X12_before NT 0 0 (some lay) [(2, 311), (0, s)] G1 (Ok2 b fs G v)) := by
    intro k
    induction k with
    | zero =>
      intro _ hv
      exact s_X11_before_20 ⟨by omega, by omega, fun _ => m _ (fun _ => hv.symm) (fun x => absurd q x), fun x => absurd (by omega) x⟩
    | succ k ih =>
      intro hk hv
      have uf : befD G b s n = if befP G b s (G 73 7 + (k : Int)) then G 73 7 + (k : Int) else befD G b s k := hv
      refine s_X11_before_20 ⟨by omega, by omega, fun x => by omega, fun _ b4 h4 => ?_⟩
      rw [hc] at h4
      subst h4
      rw [show G 73 7 + ((k + 1 : Nat) : Int) - 1 = G 73 7 + (k : Int) by omega]
      refine ⟨hC.2.1, c_clo hC (by omega) (fun y => ⟨by omega, fun _ => ?_, fun z => absurd (show (1 : Int) ≠ 0 by decide) z⟩) (fun y => ⟨by omega, fun z => absurd rfl z, fun _ b11 h11 => ?_⟩)⟩
      · rw [if_neg (fun z => z.1 y)] at uf
        exact ih (by omega) uf
      · rw [hc] at h11
        subst h11
        refine ⟨hC.2.1, c_needIn hC q (by omega) (fun b16 h16 => ?_)⟩
        rw [hc] at h16
        subst h16
        have b1 := needf_bd (S := G) (c := b16) (w := s) (m := G 73 7 + (k : Int) - G 73 7)
        have b0 := needf_nn (m := G 73 7 + (k : Int) - G 73 7) so (by omega)
        refine ⟨hC.2.1, by omega, by omega, by omega, fun z => ?_, fun z => m _ (fun _ => ?_) (fun x => absurd q x)⟩
        · rw [if_neg (fun z2 => by have := z2.2; omega)] at uf
          exact ih (by omega) uf
        · rw [if_pos ⟨y, by omega⟩] at uf
          exact uf.symm
  have x := key n (by omega) rfl
  rw [show G 73 7 + (n : Int) - 1 = G b 7 - 1 by omega] at x
  exact x
end NEEDS
