section TICKSB
variable {d : Nat} {S S' G G' H : Mem} {Q : Int → Mem → Prop} {c : Int} {fs : Int → Law}
theorem PassT.cls {n : Nat} {S1 : Mem} (hC : Cls S c) (hn : S c 8 = n) (ht : S 73 7 < S c 7) (h : PassT c n S S1) : Cls S1 c := by
  obtain ⟨t1, t2, t3, t4⟩ := h.at
  have r := hC.rng
  have ap := st_cb_apart 73 (by decide) c hC.2.1.cb
  have c0 := cb_lt hC.2.1
  have tk := hC.tick
  have cc : CorC c S S1 := fun q k q0 q1 _ _ => t4 q k (by omega) (by omega)
  refine ⟨by rw [t4 0 13 (by omega) (by omega)]; exact hC.1, hC.2.1, hC.2.2.1.cp cc.eq, ⟨by omega, fun i i0 i5 => ?_⟩, by rw [t1, t4 c 7 (by omega) (by omega)]; omega⟩
  have x := hC.rok i0 i5
  unfold RwOk
  simp only [Int.reduceAdd]
  rw [t4 76 i (by omega) (by omega), t4 80 i (by omega) (by omega)]
  by_cases hi : i < (n : Int)
  · have sok := hC.sok i0 (by omega : i < S c 8)
    have gb := grow_bd sok (m := 0) (by omega)
    obtain ⟨y1, y2, -⟩ := t3 i i0 hi
    have nn : nneed S 73 c (-1) i = if S 75 i ≤ 0 then min 199 (S 74 i + grow S (c + 13 + i) 0) else S 74 i := by unfold nneed; rw [if_neg (show ¬ i = -1 by omega)]; rfl
    have no : nout S 73 i = if S 75 i ≤ 0 then S 75 i else if S 75 i = 1 then -1 else S 75 i - 1 := rfl
    rw [y1, y2, nn, no]
    refine ⟨?_, ?_, by omega, by omega, ?_⟩ <;> (repeat' split) <;> omega
  · rw [t4 74 i (by omega) (by omega), t4 75 i (by omega) (by omega)]
    exact x
def TkR (c : Int) (n : Nat) : Nat → Mem → Mem → Prop
  | 0, S, S' => S' = S
  | k + 1, S, S' => (S c 7 ≤ S 73 7 ∧ TkR c n k S S') ∨ (S 73 7 < S c 7 ∧ ∃ S1, PassT c n S S1 ∧ TkR c n k S1 S')
theorem TkR.end {n : Nat} : ∀ (k : Nat) (S S' : Mem), S c 7 ≤ S 73 7 → TkR c n k S S' → S' = S := by
  intro k
  induction k with
  | zero => intro S S' _ h; exact h
  | succ k ih =>
    intro S S' hs h
    rcases h with h | h
    · exact ih S S' hs h.2
    · exact absurd h.1 (by omega)
theorem TkR.fr {n : Nat} : ∀ (k : Nat) (S S' : Mem), TkR c n k S S' → ∀ q j : Int, ¬ (73 ≤ q ∧ q < 81) → S' q j = S q j := by
  intro k
  induction k with
  | zero => intro S S' h q j _; rw [h]
  | succ k ih =>
    intro S S' h q j hq
    rcases h with h | ⟨_, S1, h1, h2⟩
    · exact ih S S' h.2 q j hq
    · rw [ih S1 S' h2 q j hq]
      exact h1.at.2.2.2 q j (by omega) (by omega)
theorem ticks_C {n m : Nat} : ∀ (k i : Nat) (S : Mem), i + k = m → m ≤ 72 → Cls S c → S c 8 = n → (∀ S', TkR c n k S S' → Q (S' 73 7) S') → Rn (d + 3) M_X11_ticks zN 19 [(0, (2, 0)), (1, (0, (m : Int))), (2, (0, (i : Int)))] [] S Q := by
  intro k
  induction k with
  | zero =>
    intro i S hi hm hC hn h
    exact s_X11_ticks_19 ⟨by omega, by omega, fun _ => h S rfl, fun x => absurd (by omega) x⟩
  | succ k ih =>
    intro i S hi hm hC hn h
    have r := hC.rng
    have tk := hC.tick
    refine s_X11_ticks_19 ⟨by omega, by omega, fun x => by omega, fun _ b hb => ?_⟩
    rw [hC.1] at hb
    subst hb
    refine ⟨hC.2.1, by omega, by omega, fun x => ih (i + 1) S (by omega) hm hC hn (fun S' hS' => h S' (Or.inl ⟨x, hS'⟩)), fun x b10 h10 => ?_⟩
    rw [hC.1] at h10
    subst h10
    refine ⟨hC.2.1, c_X8_pass b8_73 hC.2.1 hn (by omega) (by omega) hC.2.2.2.1 (fun i i0 i1 => hC.sok i0 (by omega)) (fun G' hp => ?_)⟩
    have hT : PassT b10 n S (st G' 73 7 (S 73 7 + 1)) := ⟨G', hp, rfl⟩
    have ap := st_cb_apart 73 (by decide) b10 hC.2.1.cb
    refine ih (i + 1) _ (by omega) hm (hT.cls hC hn (by omega)) ?_ (fun S' hS' => h S' (Or.inr ⟨by omega, _, hT, hS'⟩))
    rw [hT.at.2.2.2 b10 8 (by omega) (by omega)]; exact hn
theorem ticks_M {n m : Nat} {G0 : Mem} : ∀ (k i : Nat) (S S' G : Mem), i + k = m → m ≤ 72 → Cu S G c → S c 8 = n → RowF G0 G → TkR c n k S S' → (∀ G', Cu S' G' c → RowF G0 G' → Rn (d + 2) M_X12_ticks zN 50 [(0, (2, 311))] [] G' Q) → Rn (d + 2) M_X12_ticks zN 19 [(0, (2, 311)), (1, (0, (m : Int))), (2, (0, (i : Int)))] [] G Q := by
  intro k
  induction k with
  | zero =>
    intro i S S' G hi hm hR hn hF hT h
    have e : S' = S := hT
    subst e
    exact s_X12_ticks_19 ⟨by omega, by omega, fun _ => h G hR hF, fun x => absurd (by omega) x⟩
  | succ k ih =>
    intro i S S' G hi hm hR hn hF hT h
    have r := hR.rng
    have tk := hR.tick
    have e1 := hR.nums.1
    have e2 := hR.seats.2.1
    refine s_X12_ticks_19 ⟨by omega, by omega, fun x => by omega, fun _ => ⟨by omega, by omega, fun x => ?_, fun x => ?_⟩⟩
    · have e := TkR.end (k + 1) S S' (by omega) hT
      subst e
      exact h G hR hF
    · rcases hT with hT | ⟨ht, S1, hp, hT⟩
      · exact absurd hT.1 (by omega)
      · refine c_passes hR hn (fun G1 hm1 => ?_)
        obtain ⟨hR1, hF1⟩ := hp.cu hR hn ht hm1
        have ap := st_cb_apart 73 (by decide) c hR.1.cb
        exact ih (i + 1) S1 S' _ (by omega) hm hR1 (by rw [hp.at.2.2.2 c 8 (by omega) (by omega)]; exact hn) (hF.tr hF1) hT h
theorem t_ticks {m : Int} (hI : Inv0 G G c fs) (im : InR m) : Ct (d + 3) M_X11_ticks NT 0 0 (some lay) [(2, 0), (0, m)] G (fun v G1 => Ct (d + 2) M_X12_ticks NT 0 0 (some lay) [(2, 311), (0, m)] G1 (Ok2 c fs G v)) := by
  have hC := hI.cls
  have r := hC.rng
  have h37 := hI.1.2.2.1
  have hR := hI.2.1
  obtain ⟨n, hn⟩ := Int.eq_ofNat_of_zero_le r.2.2.1.1
  have mN : ¬ (1 ≤ m ∧ m ≤ 72) → Ct (d + 2) M_X12_ticks NT 0 0 (some lay) [(2, 311), (0, m)] G (Ok2 c fs G (-1)) := by
    intro hno
    refine ctof (s_X12_ticks_0 (fun G1 e1 => ?_))
    have f1 : ThF G G1 := by rw [e1]; exact ThF.st
    exact c_within im (by omega) (by omega) (fun q => absurd q hno) (fun q => ⟨by omega, fun x => absurd rfl x, fun _ => hI.ok ClF.rfl' f1.ml⟩)
  refine ctof (s_X11_ticks_0 ⟨im, fun x => mN (by omega), fun x => ⟨fun x2 => ?_, fun x2 => mN (by omega)⟩⟩)
  obtain ⟨mm, hmm⟩ := Int.eq_ofNat_of_zero_le (show 0 ≤ m by omega)
  subst hmm
  refine ctof (s_X11_forgetPast_0 (fun G4 e4 => ?_))
  have o4 : ∀ q k : Int, ¬ (q = 0 ∧ k = 16) → G4 q k = G q k := fun q k hq => by rw [e4, st_ne _ _ hq]
  have c0 := cb_lt hC.2.1
  have ap := st_cb_apart 73 (by decide) c hC.2.1.cb
  have cc4 : CorC c G G4 := fun q k _ _ _ _ => o4 q k (by omega)
  have s4 : StEq G G4 73 73 := ⟨fun k _ _ => o4 _ _ (by omega), fun j _ _ i _ _ => o4 _ _ (by omega)⟩
  have hC4 : Cls G4 c := ⟨by rw [o4 0 13 (by omega)]; exact hC.1, hC.2.1, hC.2.2.1.cp cc4.eq, hC.2.2.2.1.cp s4, by rw [o4 73 7 (by omega), o4 c 7 (by omega)]; exact hC.2.2.2.2⟩
  have n4 : G4 c 8 = n := by rw [o4 c 8 (by omega)]; exact hn
  refine ticks_C mm 0 G4 (by omega) (by omega) hC4 n4 (fun S' hT => ?_)
  have sfr := TkR.fr mm G4 S' hT
  refine ctof (s_X12_ticks_0 (fun G1 e1 => ?_))
  have f1 : ThF S' G1 := by rw [e1]; exact ThF.st
  have g1 : ∀ q k : Int, 311 ≤ q → ¬ (q = 311 ∧ k = 0) → G1 q k = G q k := fun q k a b => by rw [f1 q k b, sfr q k (by omega), o4 q k (by omega)]
  have hR4 : Cu G4 G1 c := hR.st cc4 (hR.2.2.1.cp s4) (by rw [o4 73 7 (by omega)]; exact hR.2.2.2.1) (fun q k hq => g1 q k (by omega) (by omega)) (hR.2.2.2.2.2.cp r.2.2.1.2 s4 ⟨fun k _ _ => g1 _ _ (by omega) (by omega), fun k _ _ => g1 _ _ (by omega) (by omega)⟩)
  refine c_within im (by omega) (by omega) (fun q => ⟨by omega, fun _ => ?_, fun x => absurd (show (1 : Int) ≠ 0 by decide) x⟩) (fun q => absurd (by omega) q)
  refine ticks_M mm 0 G4 S' G1 (by omega) (by omega) hR4 n4 RowF.rfl' hT (fun G2 hR2 hF2 => s_X12_ticks_50 (fun G3 e3 => ?_))
  have g3 : ∀ q k : Int, ¬ (q = 311 ∧ k = 46) → G3 q k = G2 q k := fun q k hq => by rw [e3, st_ne _ _ hq]
  have hR3 : Cu S' G3 c := hR2.ext (fun q k hq => g3 q k (by omega))
  have hU3 : UnR S' G3 c := by
    have a15 : S' 0 15 = G 0 15 := by rw [sfr _ _ (by omega), o4 _ _ (by omega)]
    have a16 : S' 0 16 = 0 := by rw [sfr _ _ (by omega), e4, st_same]
    have u := hI.2.2.2.1.1
    exact ⟨by omega, by omega, by rw [e3, st_same, a16], fun j j0 j1 => by omega⟩
  have fin := hI.state (S' := S') (G' := G3) (fun q k a b => by rw [sfr q k (by omega), o4 q k (by omega)]) (fun q k a b => by
    by_cases e : q = 342
    · subst e
      rw [g3 _ _ (by omega), hF2.2 k (by omega) (by omega), g1 _ _ (by omega) (by omega)]
    · rw [g3 q k (by omega), hF2.1 q k e, g1 q k a (by omega)]) hR3 hU3
  have low : ∀ q k : Int, q < 311 → G3 q k = S' q k := fun q k a => by rw [g3 q k (by omega), hF2.1 q k (by omega), f1 q k (by omega)]
  exact ⟨hR3.nums.1.symm, fin.1.ext (fun q k a _ => low q k a) QtM.rfl', fin.2.tr (RkF.of h37 (fun q k a _ => low q k a))⟩
end TICKSB
