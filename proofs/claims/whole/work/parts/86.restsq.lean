section RESTSQ
variable {d : Nat} {S S' T T' G G' H : Mem} {Q : Int → Mem → Prop} {c : Int} {fs : Int → Law}
/-- the choices of so many -/
def chN (m : Nat) : Nat := if m = 2 then 144 else 1728
theorem cnR_t {R : Int → Prop} {k : Nat} {x a : Int} (h : R x) : cnR R (k + 1) x a = cnR R k (x + 1) (a + 1) := by
  show cnR R k (x + 1) (@ite _ (R x) (Classical.propDecidable _) (a + 1) a) = _
  rw [if_pos h]
theorem cnR_f {R : Int → Prop} {k : Nat} {x a : Int} (h : ¬ R x) : cnR R (k + 1) x a = cnR R k (x + 1) a := by
  show cnR R k (x + 1) (@ite _ (R x) (Classical.propDecidable _) (a + 1) a) = _
  rw [if_neg h]
theorem fdR_t {R : Int → Prop} {w : Int} {k : Nat} {x a : Int} (h : R x) : fdR R w (k + 1) x a = if a = w then x else fdR R w k (x + 1) (a + 1) := by
  show (@ite _ (R x) (Classical.propDecidable _) (if a = w then x else fdR R w k (x + 1) (a + 1)) (fdR R w k (x + 1) a)) = _
  rw [if_pos h]
theorem fdR_f {R : Int → Prop} {w : Int} {k : Nat} {x a : Int} (h : ¬ R x) : fdR R w (k + 1) x a = fdR R w k (x + 1) a := by
  show (@ite _ (R x) (Classical.propDecidable _) (if a = w then x else fdR R w k (x + 1) (a + 1)) (fdR R w k (x + 1) a)) = _
  rw [if_neg h]
theorem bl_5 : ∀ u, u < 32 → (bl u 5).length ≤ 5 := by decide +kernel
section CHOB
variable {L : List Int}
theorem c_choices (hL : 2 ≤ L.length ∧ L.length ≤ 3) (h3 : G 33 3 = (L.length : Int)) (h : Q ((chN L.length : Nat) : Int) G) : Ct d M_X6_choices NT 0 0 (some lay) [(2, 33)] G Q := by
  unfold chN at h
  refine ctof (s_X6_choices_0 ⟨by omega, fun x => ?_, fun x => ?_⟩)
  · rw [if_neg (by omega)] at h; exact h
  · rw [if_pos (by omega)] at h; exact h
theorem chN_in (m : Nat) : chN m ≤ 1728 ∧ 144 ≤ chN m := by unfold chN; split <;> omega
theorem c_howMany {R : Int → Prop} (hRR : R = fun x => rsF S c (lsi L) (pkF (L.length : Int) x) L.length) (hC : Cls S c) (hf : RsF S G) (hL : 2 ≤ L.length ∧ L.length ≤ 3) (hin : ∀ k, 0 ≤ k → k < (L.length : Int) → 0 ≤ lsi L k ∧ lsi L k < S c 8) (hch : ChR S c G L) (h : ∀ G2, RsF S G2 → Q (cnR R (chN L.length) 0 0) G2) : Ct (d + 2) M_X6_howMany NT 0 0 (some lay) [(2, 33)] G Q := by
  have cb := chN_in L.length
  have rr : ∀ x, R x ↔ rsF S c (lsi L) (pkF (L.length : Int) x) L.length := fun x => by rw [hRR]
  have key : ∀ (k : Nat) (x a : Int) (G1 : Mem), x + k = (chN L.length : Nat) → 0 ≤ x → RsF S G1 → ChR S c G1 L → cnR R (chN L.length) 0 0 = cnR R k x a → Rn (d + 2) M_X6_howMany zN 4 [(0, (2, 33)), (1, (0, a)), (2, (0, x))] [] G1 Q := by
    intro k
    induction k with
    | zero =>
      intro x a G1 hx x0 f1 ch1 e
      have e : cnR R (chN L.length) 0 0 = a := e
      refine s_X6_howMany_4 (c_choices hL ch1.1 ⟨by omega, by omega, fun _ => ?_, fun z => absurd (by omega) z⟩)
      rw [← e]; exact h G1 f1
    | succ k ih =>
      intro x a G1 hx x0 f1 ch1 e
      exact s_X6_howMany_4 (c_choices hL ch1.1 ⟨by omega, by omega, fun z => absurd z (by omega), fun _ => c_rest hC f1 hL hin ch1 (by omega) (fun r G2 f2 ch2 => ⟨by omega, fun z => absurd z (by decide), fun _ => ih (x + 1) (a + 1) G2 (by omega) (by omega) f2 ch2 (by rw [e, cnR_t ((rr x).mpr r)])⟩) (fun r G2 f2 ch2 => ⟨by omega, fun _ => ih (x + 1) a G2 (by omega) (by omega) f2 ch2 (by rw [e, cnR_f (fun z => r ((rr x).mp z))]), fun z => absurd rfl z⟩)⟩)
  exact ctof (s_X6_howMany_0 (key (chN L.length) 0 0 G (by omega) (by omega) hf hch rfl))
theorem c_find {R : Int → Prop} {w : Int} (hRR : R = fun x => rsF S c (lsi L) (pkF (L.length : Int) x) L.length) (hC : Cls S c) (hf : RsF S G) (hL : 2 ≤ L.length ∧ L.length ≤ 3) (hin : ∀ k, 0 ≤ k → k < (L.length : Int) → 0 ≤ lsi L k ∧ lsi L k < S c 8) (hch : ChR S c G L) (iw : InR w) (h : ∀ G2, RsF S G2 → Q (fdR R w (chN L.length) 0 0) G2) : Ct (d + 2) M_X6_find NT 0 0 (some lay) [(2, 33), (0, w)] G Q := by
  have cb := chN_in L.length
  have rr : ∀ x, R x ↔ rsF S c (lsi L) (pkF (L.length : Int) x) L.length := fun x => by rw [hRR]
  have key : ∀ (k : Nat) (x a : Int) (G1 : Mem), x + k = (chN L.length : Nat) → 0 ≤ x → 0 ≤ a ∧ a ≤ x → RsF S G1 → ChR S c G1 L → fdR R w (chN L.length) 0 0 = fdR R w k x a → Rn (d + 2) M_X6_find zN 4 [(0, (2, 33)), (1, (0, w)), (2, (0, a)), (3, (0, x))] [] G1 Q := by
    intro k
    induction k with
    | zero =>
      intro x a G1 hx x0 a0 f1 ch1 e
      have e : fdR R w (chN L.length) 0 0 = -1 := e
      refine s_X6_find_4 (c_choices hL ch1.1 ⟨by omega, by omega, fun _ => ?_, fun z => absurd (by omega) z⟩)
      rw [e] at h; exact h G1 f1
    | succ k ih =>
      intro x a G1 hx x0 a0 f1 ch1 e
      refine s_X6_find_4 (c_choices hL ch1.1 ⟨by omega, by omega, fun z => absurd z (by omega), fun _ => c_rest hC f1 hL hin ch1 (by omega) (fun r G2 f2 ch2 => ⟨by omega, fun z => absurd z (by decide), fun _ => ⟨by omega, iw, fun y => ih (x + 1) (a + 1) G2 (by omega) (by omega) (by omega) f2 ch2 (by rw [e, fdR_t ((rr x).mpr r), if_neg y]), fun y => ?_⟩⟩) (fun r G2 f2 ch2 => ⟨by omega, fun _ => ih (x + 1) a G2 (by omega) (by omega) (by omega) f2 ch2 (by rw [e, fdR_f (fun z => r ((rr x).mp z))]), fun z => absurd rfl z⟩)⟩)
      rw [e, fdR_t ((rr x).mpr r), if_pos (Decidable.not_not.mp y)] at h
      exact h G2 f2
  exact ctof (s_X6_find_0 (key (chN L.length) 0 0 G (by omega) (by omega) (by omega) hf hch rfl))
theorem c_choose {u : Nat} (hC : Cls S c) (h37 : c = 37 ∨ c = 55) {n N : Nat} (hN : 2 ^ n = N) (hn : S c 8 = n) (h1 : u < N → 2 ≤ (bl u 5).length ∧ (bl u 5).length ≤ 3 → ∀ G2, RsF S G2 → ChR S c G2 (bl u 5) → Q 1 G2) (h0 : ¬ (u < N ∧ 2 ≤ (bl u 5).length ∧ (bl u 5).length ≤ 3) → Q 0 S) (hu : u < 2147483648) : Ct (d + 3) M_X6_choose NT 0 0 (some lay) [(2, 33), (2, c), (2, 73), (0, (u : Int))] S Q := by
  have r := hC.rng
  have n5 : n ≤ 5 := by omega
  have p2 : shlI 1 (S c 8) = (N : Int) ∧ N ≤ 32 := by
    obtain ⟨e0, e1, e2, e3, e4, e5⟩ := shl_s
    rw [hn, ← hN]
    match n, n5 with
    | 0, _ => exact ⟨e0, by decide⟩
    | 1, _ => exact ⟨e1, by decide⟩
    | 2, _ => exact ⟨e2, by decide⟩
    | 3, _ => exact ⟨e3, by decide⟩
    | 4, _ => exact ⟨e4, by decide⟩
    | 5, _ => exact ⟨e5, by decide⟩
  refine ctof (s_X6_choose_0 hC.2.1 b8_73 (ctof (s_J6_bitCount_0f7a4_0 ?_)))
  show InR (u : Int) ∧ _
  rw [p2.1]
  refine ⟨by omega, fun x => absurd x (by omega), fun _ => ⟨by omega, fun x => h0 (by omega), fun x => ?_⟩⟩
  have u2 : u < N := by omega
  have b5 := bl_5 u (by omega)
  have be : ∀ z, z = bcE (u : Int) → z = ((bl u 5).length : Int) := fun z hz => by rw [hz]; exact bcE_n u (by omega)
  have bl3 := bl_top n (by omega) u (by rw [hN]; exact u2)
  have hb := be _ rfl
  unfold bcE at hb
  rw [hb]
  refine ⟨by omega, fun y => h0 (by omega), fun y => ⟨fun y2 G10 e10 => ?_, fun y2 => h0 (by omega)⟩⟩
  have L42 : ∀ (k i : Nat) (G1 : Mem), i + k = n → RsF S G1 → ChR S c G1 (bl u i) → Rn (d + 3) M_X6_choose zN 42 [(0, (2, 33)), (1, (2, c)), (2, (2, 73)), (3, (0, (u : Int))), (5, (0, (i : Int)))] [] G1 Q := by
    intro k
    induction k with
    | zero =>
      intro i G1 hi f1 ch1
      refine s_X6_choose_42 hC.2.1 b8_73 ⟨by omega, by rw [f1 c 8 (by omega)]; omega, fun _ => h1 u2 (by omega) G1 f1 ?_, fun z => absurd (by rw [f1 c 8 (by omega)]; omega) z⟩
      rw [← bl3, show n = i by omega]; exact ch1
    | succ k ih =>
      intro i G1 hi f1 ch1
      have bk := bitk u (by omega) i (by omega)
      have le := bl_le u (by omega) (i + 1) (by omega)
      have bs : bl u (i + 1) = if u / 2 ^ i % 2 = 1 then bl u i ++ [(i : Int)] else bl u i := rfl
      refine s_X6_choose_42 hC.2.1 b8_73 ⟨by omega, by rw [f1 c 8 (by omega)]; omega, fun z => absurd z (by rw [f1 c 8 (by omega)]; omega), fun _ => ⟨by rw [bk]; omega, fun z => ?_, fun z => ?_⟩⟩
      · rw [bk] at z
        rw [if_neg (by omega)] at bs
        exact ih (i + 1) G1 (by omega) f1 (by rw [bs]; exact ch1)
      · rw [bk] at z
        rw [if_pos (by omega)] at bs
        have ll : (bl u i).length < 3 := by rw [bs] at le; simp at le; omega
        refine ⟨by rw [ch1.1]; omega, fun v => absurd v (by rw [ch1.1]; omega), fun _ => c_addChooser hC h37 f1 (by omega) ll ch1 (fun G2 f2 ch2 => ?_)⟩
        exact ih (i + 1) G2 (by omega) f2 (by rw [bs]; exact ch2)
  exact L42 n 0 G10 (by omega) (fun q k a => by rw [e10, st_nq _ _ _ _ (by omega)]) ⟨by rw [e10, st_same]; rfl, fun j a b => absurd b (by unfold bl; simp; omega)⟩
/-! the model -/
def RmF (G G' : Mem) : Prop := ∀ q k : Int, q ≠ 360 → q ≠ 361 → ¬ (q = 311 ∧ k = 74) → G' q k = G q k
theorem RmF.rfl' : RmF G G := fun _ _ _ _ _ => rfl
theorem RmF.tr {G2 : Mem} (h : RmF G G') (h' : RmF G' G2) : RmF G G2 := fun q k a b e => (h' q k a b e).trans (h q k a b e)
theorem RmF.cor (h : RmF G G') : CorM G G' := fun q k hq => h q k (by omega) (by omega) (by omega)
theorem RmF.ml (h : RmF G G') : MlF G G' := ⟨fun q k a b => h q k (by omega) (by omega) (by omega), fun q k a => h q k (by omega) (by omega) (by omega)⟩
def PlR (G : Mem) (L : List Int) : Prop := G 311 74 = (L.length : Int) ∧ ∀ j, 0 ≤ j → j < (L.length : Int) → G 360 j = lsi L j
theorem c_paysBy {k : Int} {pk : Int → Int} (hR : Cu S G c) (hL : 2 ≤ L.length ∧ L.length ≤ 3) (hin : ∀ k, 0 ≤ k → k < (L.length : Int) → 0 ≤ lsi L k ∧ lsi L k < S c 8) (hpl : PlR G L) (hpk : ∀ i, 0 ≤ i → i < (L.length : Int) → G 361 i = pk i ∧ 0 ≤ pk i ∧ pk i < 12) (hk : 0 ≤ k ∧ k < (L.length : Int)) (h : Q (pyF S c (lsi L) pk L.length k (pk k)) G) : Ct (d + 2) M_X12_paysBy NT 0 0 (some lay) [(2, 311), (0, k)] G Q := by
  have r := hR.rng
  have hp := hin k hk.1 hk.2
  have so := hR.sok hp.1 hp.2
  have k3 : 1 ≤ S (c + 13 + lsi L k) 3 ∧ S (c + 13 + lsi L k) 3 ≤ 99 := so.2.2.2.1
  have ro := hR.rok (i := lsi L k) hp.1 (by omega)
  have sit := hR.sit hp.1 hp.2
  have pkk := hpk k hk.1 hk.2
  unfold pyF at h
  have key : ∀ (n i : Nat), i + n = L.length → Rn (d + 2) M_X12_paysBy zN 12 [(0, (2, 311)), (1, (0, k)), (2, (0, lsi L k)), (3, (0, puF S c (lsi L) pk k (pk k) i)), (4, (0, (i : Int)))] [] G Q := by
    intro n
    induction n with
    | zero =>
      intro i hi
      refine s_X12_paysBy_12 ⟨by omega, by rw [hpl.1]; omega, fun _ => ⟨by omega, ?_⟩, fun x => absurd (by rw [hpl.1]; omega) x⟩
      rw [pkk.1]
      refine c_needBehind hR hp (by omega) ⟨by omega, ?_⟩
      have n0 := needf_nn (m := pk k) so (by omega)
      have n1 := needf_bd (S := S) (c := c) (w := lsi L k) (m := pk k)
      rw [sit.2.2.2.1]
      rw [show i = L.length by omega]
      unfold aloF at h
      refine ⟨by omega, by omega, fun x => ⟨by omega, ?_⟩, fun x => ?_⟩
      · rw [if_neg (by omega), Int.add_comm] at h; exact h
      · rw [if_pos (by omega), Int.add_comm] at h; exact h
    | succ n ih =>
      intro i hi
      have y := ih (i + 1) (by omega)
      unfold puF at y
      have q1 := hpl.2 (i : Int) (by omega) (by omega)
      have hi2 := hin (i : Int) (by omega) (by omega)
      have s1 := (hR.sok hi2.1 hi2.2).2.1
      have t1 := (hR.sit hi2.1 hi2.2).2.1
      have s2 := so.2.1
      have pi := hpk (i : Int) (by omega) (by omega)
      refine s_X12_paysBy_12 ⟨by omega, by rw [hpl.1]; omega, fun x => absurd x (by rw [hpl.1]; omega), fun _ => ⟨by omega, by rw [q1]; omega, by omega, ?_⟩⟩
      rw [q1, t1, sit.2.1, pi.1, pkk.1]
      refine ⟨by omega, by omega, fun x => ?_, fun x => ⟨by omega, by omega, by omega, fun z => ?_, fun z => ?_⟩⟩
      · rw [if_neg (by omega)] at y; exact y
      · rw [if_neg (fun w => w.2 z)] at y; exact y
      · rw [if_pos ⟨by omega, z⟩] at y; exact y
  refine ctof (s_X12_paysBy_0 ⟨by omega, ?_⟩)
  rw [hpl.2 k hk.1 hk.2]
  exact key L.length 0 (by omega)
theorem pyF_up {P pk : Int → Int} {m : Nat} {j t x : Int} : pyF S c P (fun i => if i = j then x else pk i) m j t = pyF S c P pk m j t := by
  have key : ∀ k : Nat, puF S c P (fun i => if i = j then x else pk i) j t k = puF S c P pk j t k := by
    intro k
    induction k with
    | zero => rfl
    | succ k ih =>
      unfold puF
      rw [ih]
      by_cases hk : (k : Int) = j
      · rw [hk, if_neg (fun z => by have := z.1; omega), if_neg (fun z => by have := z.1; omega)]
      · simp only [if_neg hk]
  unfold pyF
  rw [key]
theorem c_isRest {pk : Int → Int} (hC : Cls S c) (hR : Cu S G c) (hL : 2 ≤ L.length ∧ L.length ≤ 3) (hin : ∀ k, 0 ≤ k → k < (L.length : Int) → 0 ≤ lsi L k ∧ lsi L k < S c 8) (hpl : PlR G L) (hpk : ∀ i, 0 ≤ i → i < (L.length : Int) → G 361 i = pk i ∧ 0 ≤ pk i ∧ pk i < 12) (h1 : rsF S c (lsi L) pk L.length → ∀ G2, RmF G G2 → PlR G2 L → Q 1 G2) (h0 : ¬ rsF S c (lsi L) pk L.length → ∀ G2, RmF G G2 → PlR G2 L → Q 0 G2) : Ct (d + 3) M_X12_isRest NT 0 0 (some lay) [(2, 311)] G Q := by
  have outer : ∀ (n i : Nat) (G1 : Mem), i + n = L.length → RmF G G1 → PlR G1 L → (∀ i, 0 ≤ i → i < (L.length : Int) → G1 361 i = pk i) → (∀ j, 0 ≤ j → j < (i : Int) → ∀ t, 0 ≤ t → t < 12 → pyF S c (lsi L) pk L.length j (pk j) ≤ pyF S c (lsi L) pk L.length j t) → Rn (d + 3) M_X12_isRest zN 2 [(0, (2, 311)), (1, (0, (i : Int)))] [] G1 Q := by
    intro n
    induction n with
    | zero =>
      intro i G1 hi f1 pl1 p1 ha
      exact s_X12_isRest_2 ⟨by omega, by rw [pl1.1]; omega, fun _ => h1 (fun j j0 j1 => ha j j0 (by omega)) G1 f1 pl1, fun x => absurd (by rw [pl1.1]; omega) x⟩
    | succ n ih =>
      intro i G1 hi f1 pl1 p1 ha
      have hj : 0 ≤ (i : Int) ∧ (i : Int) < (L.length : Int) := by omega
      have pb := fun t => pyF_in (pk := pk) (t := t) hC hL.2 hin hj
      refine s_X12_isRest_2 ⟨by omega, by rw [pl1.1]; omega, fun x => absurd x (by rw [pl1.1]; omega), fun _ => ⟨by omega, c_paysBy (pk := pk) (hR.ext f1.cor) hL hin pl1 (fun j j0 j1 => ⟨p1 j j0 j1, (hpk j j0 j1).2⟩) hj ?_⟩⟩
      rw [p1 (i : Int) hj.1 hj.2]
      have inner : ∀ (k : Nat) (t z : Int) (G2 : Mem), t + k = 12 → 0 ≤ t → RmF G G2 → PlR G2 L → (∀ i', 0 ≤ i' → i' < (L.length : Int) → i' ≠ (i : Int) → G2 361 i' = pk i') → ((z = 0 ∧ ∀ t', 0 ≤ t' → t' < t → pyF S c (lsi L) pk L.length (i : Int) (pk (i : Int)) ≤ pyF S c (lsi L) pk L.length (i : Int) t') ∨ (z = 1 ∧ ¬ rsF S c (lsi L) pk L.length)) → Rn (d + 3) M_X12_isRest zN 29 [(0, (2, 311)), (1, (0, (i : Int))), (2, (0, pk (i : Int))), (3, (0, pyF S c (lsi L) pk L.length (i : Int) (pk (i : Int)))), (4, (0, z)), (5, (0, t))] [] G2 Q := by
        intro k
        induction k with
        | zero =>
          intro t z G2 ht t0 f2 pl2 p2 hz
          refine s_X12_isRest_29 ⟨by omega, fun _ => ⟨by omega, fun G4 e4 => ⟨by omega, fun y => ?_, fun y => ?_⟩⟩, fun x => absurd (by omega) x⟩
          · have f4 : RmF G G4 := f2.tr (fun q k a b e => by rw [e4, st_nq _ _ _ _ b])
            have yy := ih (i + 1) G4 (by omega) f4 ⟨by rw [e4, st_nq _ _ _ _ (by decide)]; exact pl2.1, fun j j0 j1 => by rw [e4, st_nq _ _ _ _ (by decide)]; exact pl2.2 j j0 j1⟩ (fun j j0 j1 => by
              by_cases hji : j = (i : Int)
              · subst hji; rw [e4, st_same]
              · rw [e4, st_nk _ _ _ hji]; exact p2 j j0 j1 hji) (fun j j0 j1 => by
              rcases hz with hz | hz
              · by_cases hji : j = (i : Int)
                · subst hji; exact fun t' a b => hz.2 t' a (by omega)
                · exact ha j j0 (by omega)
              · omega)
            rw [show ((i + 1 : Nat) : Int) = (i : Int) + 1 by omega] at yy
            exact yy
          · rcases hz with hz | hz
            · exact absurd hz.1 y
            · exact h0 hz.2 G4 (f2.tr (fun q k a b e => by rw [e4, st_nq _ _ _ _ b])) ⟨by rw [e4, st_nq _ _ _ _ (by decide)]; exact pl2.1, fun j j0 j1 => by rw [e4, st_nq _ _ _ _ (by decide)]; exact pl2.2 j j0 j1⟩
        | succ k ihk =>
          intro t z G2 ht t0 f2 pl2 p2 hz
          have b1 := pb t
          have b2 := pb (pk (i : Int))
          refine s_X12_isRest_29 ⟨by omega, fun x => absurd x (by omega), fun _ => ⟨by omega, fun G8 e8 => ⟨by omega, fun y => ?_, fun y => ?_⟩⟩⟩
          · have f8 : RmF G G8 := f2.tr (fun q k a b e => by rw [e8, st_nq _ _ _ _ b])
            refine ihk (t + 1) 1 G8 (by omega) (by omega) f8 ⟨by rw [e8, st_nq _ _ _ _ (by decide)]; exact pl2.1, fun j j0 j1 => by rw [e8, st_nq _ _ _ _ (by decide)]; exact pl2.2 j j0 j1⟩ (fun j j0 j1 hji => by rw [e8, st_nk _ _ _ hji]; exact p2 j j0 j1 hji) (Or.inr ⟨rfl, ?_⟩)
            rcases hz with hz | hz
            · exact absurd hz.1 y
            · exact hz.2
          · have f8 : RmF G G8 := f2.tr (fun q k a b e => by rw [e8, st_nq _ _ _ _ b])
            have pl8 : PlR G8 L := ⟨by rw [e8, st_nq _ _ _ _ (by decide)]; exact pl2.1, fun j j0 j1 => by rw [e8, st_nq _ _ _ _ (by decide)]; exact pl2.2 j j0 j1⟩
            have p8 : ∀ i', 0 ≤ i' → i' < (L.length : Int) → i' ≠ (i : Int) → G8 361 i' = pk i' := fun j j0 j1 hji => by rw [e8, st_nk _ _ _ hji]; exact p2 j j0 j1 hji
            refine c_paysBy (pk := fun i' => if i' = (i : Int) then t else pk i') (hR.ext f8.cor) hL hin pl8 (fun j j0 j1 => ?_) hj ?_
            · by_cases hji : j = (i : Int)
              · subst hji
                rw [e8, st_same, if_pos rfl]
                omega
              · rw [if_neg hji]
                exact ⟨p8 j j0 j1 hji, (hpk j j0 j1).2⟩
            · rw [if_pos rfl, pyF_up]
              refine ⟨by omega, by omega, fun v => ihk (t + 1) 0 G8 (by omega) (by omega) f8 pl8 p8 ?_, fun v => ihk (t + 1) 1 G8 (by omega) (by omega) f8 pl8 p8 (Or.inr ⟨rfl, fun w => v (w (i : Int) hj.1 hj.2 t (by omega) (by omega))⟩)⟩
              rcases hz with hz | hz
              · refine Or.inl ⟨rfl, fun t' a b => ?_⟩
                by_cases htt : t' = t
                · subst htt; exact v
                · exact hz.2 t' a (by omega)
              · omega
      exact inner 12 0 0 G1 (by omega) (by omega) f1 pl1 (fun j j0 j1 _ => p1 j j0 j1) (Or.inl ⟨rfl, fun t' a b => by omega⟩)
  exact ctof (s_X12_isRest_0 (outer L.length 0 G (by omega) RmF.rfl' hpl (fun i i0 i1 => (hpk i i0 i1).1) (fun j a b => by omega)))
end CHOB
theorem t_rests {s w : Int} (hI : Inv0 G G c fs) (is : InR s) (iw : InR w) : Ct (d + 4) M_X11_rests NT 0 0 (some lay) [(2, 0), (0, s), (0, w)] G (fun v G1 => Ct (d + 4) M_X12_rests NT 0 0 (some lay) [(2, 311), (0, s), (0, w)] G1 (Ok2 c fs G v)) := by
  have hC := hI.cls
  have r := hC.rng
  have hc := hC.1
  have h37 := hI.1.2.2.1
  obtain ⟨n, hn⟩ := Int.eq_ofNat_of_zero_le r.2.2.1.1
  have n5 : n ≤ 5 := by omega
  obtain ⟨N, hN⟩ : ∃ N : Nat, 2 ^ n = N := ⟨_, rfl⟩
  have p2 : shlI 1 (G c 8) = (N : Int) ∧ N ≤ 32 := by
    obtain ⟨e0, e1, e2, e3, e4, e5⟩ := shl_s
    rw [hn, ← hN]
    match n, n5 with
    | 0, _ => exact ⟨e0, by decide⟩
    | 1, _ => exact ⟨e1, by decide⟩
    | 2, _ => exact ⟨e2, by decide⟩
    | 3, _ => exact ⟨e3, by decide⟩
    | 4, _ => exact ⟨e4, by decide⟩
    | 5, _ => exact ⟨e5, by decide⟩
  -- the model's start, up to who chooses
  have m36 : ∀ (v : Int) (G1 : Mem), ClF c G G1 → (¬ (-1 ≤ w ∧ 0 ≤ s ∧ s < (N : Int)) → v = -1) → (∀ u : Nat, s = (u : Int) → -1 ≤ w → u < N → ∀ G2, MlF G1 G2 → Cu G G2 c → G2 311 74 = 0 → Rn (d + 4) M_X12_rests zN 36 [(0, (2, 311)), (1, (0, s)), (2, (0, w)), (3, (0, 0))] [] G2 (Ok2 c fs G v)) → Ct (d + 4) M_X12_rests NT 0 0 (some lay) [(2, 311), (0, s), (0, w)] G1 (Ok2 c fs G v) := by
    intro v G1 f1 hno hyes
    refine ctof (s_X12_rests_0 (fun G2 e2 G3 e3 => ?_))
    have ml : MlF G1 G3 := ⟨fun q k a b => by rw [e3, st_ne _ _ (by omega), e2, st_ne _ _ (by omega)], fun q k a => by rw [e3, st_ne _ _ (by omega), e2, st_ne _ _ (by omega)]⟩
    have hR : Cu G G3 c := (hI.cu1 f1).ext (fun q k hq => ml.1 q k (by omega) (by omega))
    have ok : v = -1 → Ok2 c fs G v (-1) G3 := fun hv => by rw [hv]; exact hI.ok f1 ml
    rw [hR.seats.2.2.2.2, p2.1]
    refine ⟨is, fun x => ok (hno (by omega)), fun x => ⟨by omega, fun y => ok (hno (by omega)), fun y => ⟨iw, fun z => ?_, fun z => ok (hno (by omega))⟩⟩⟩
    exact hyes s.toNat (by omega) z (by omega) G3 ml hR (by rw [e3, st_same])
  -- choosers of the model
  have cho : ∀ (v : Int) (u : Nat) (G1 G2 : Mem), s = (u : Int) → u < N → MlF G1 G2 → Cu G G2 c → G2 311 74 = 0 → ((bl u 5).length < 2 ∨ 3 < (bl u 5).length → ∀ G3, MlF G1 G3 → Ok2 c fs G v (-1) G3) → (2 ≤ (bl u 5).length ∧ (bl u 5).length ≤ 3 → ∀ G3, MlF G1 G3 → Cu G G3 c → PlR G3 (bl u 5) → Rn (d + 4) M_X12_rests zN 103 [(0, (2, 311)), (2, (0, w)), (3, (0, 0)), (4, (0, 0))] [] G3 (Ok2 c fs G v)) → Rn (d + 4) M_X12_rests zN 36 [(0, (2, 311)), (1, (0, s)), (2, (0, w)), (3, (0, 0))] [] G2 (Ok2 c fs G v) := by
    intro v u G1 G2 hu hu2 ml hR h74 hbad hgood
    subst hu
    have key : ∀ (k i : Nat) (G3 : Mem), i + k = 5 → MlF G1 G3 → Cu G G3 c → PlR G3 (bl u i) → (bl u i).length ≤ 3 → Rn (d + 4) M_X12_rests zN 36 [(0, (2, 311)), (1, (0, (u : Int))), (2, (0, w)), (3, (0, (i : Int)))] [] G3 (Ok2 c fs G v) := by
      intro k
      induction k with
      | zero =>
        intro i G3 hi ml3 hR3 pl3 le
        obtain rfl : i = 5 := by omega
        exact s_X12_rests_36 ⟨by omega, fun _ => ⟨by rw [pl3.1]; omega, fun x => hgood ⟨by rw [pl3.1] at x; omega, le⟩ G3 ml3 hR3 pl3, fun x => hbad (by rw [pl3.1] at x; omega) G3 ml3⟩, fun x => absurd (by omega) x⟩
      | succ k ih =>
        intro i G3 hi ml3 hR3 pl3 le
        have bk := bitk u (by omega) i (by omega)
        have le2 := bl_le u (by omega) (i + 1) (by omega)
        have bs : bl u (i + 1) = if u / 2 ^ i % 2 = 1 then bl u i ++ [(i : Int)] else bl u i := rfl
        refine s_X12_rests_36 ⟨by omega, fun x => absurd x (by omega), fun _ => ⟨by rw [bk]; omega, fun z => ⟨by rw [pl3.1]; omega, fun y => ⟨by rw [pl3.1] at *; omega, fun G10 e10 G11 e11 => ?_⟩, fun y => ?_⟩, fun z => ?_⟩⟩
        · rw [bk] at z
          rw [if_pos (by omega)] at bs
          have a74 : G10 311 74 = ((bl u i).length : Int) := by rw [e10, st_nq _ _ _ _ (by decide)]; exact pl3.1
          rw [a74] at e11
          rw [pl3.1] at e10 y
          have ml11 : MlF G3 G11 := ⟨fun q k a b => by rw [e11, st_ne _ _ (by omega), e10, st_nq _ _ _ _ (by omega)], fun q k a => by rw [e11, st_ne _ _ (by omega), e10, st_nq _ _ _ _ (by omega)]⟩
          have ln : ((bl u i ++ [(i : Int)]).length : Int) = ((bl u i).length : Int) + 1 := by simp
          refine ih (i + 1) G11 (by omega) (ml3.tr ml11) (hR3.ext (fun q k hq => ml11.1 q k (by omega) (by omega))) ⟨?_, fun j j0 j1 => ?_⟩ ?_
          · rw [bs, ln, e11, st_same]
          · rw [bs] at j1 ⊢
            rw [ln] at j1
            have la := lsi_app (cur := bl u i) (x := (i : Int)) j0
            rw [e11, st_nq _ _ _ _ (by decide), e10]
            by_cases hj : j = ((bl u i).length : Int)
            · rw [la.2 hj, hj, st_same]
            · rw [la.1 (by omega), st_nk _ _ _ hj]; exact pl3.2 j j0 (by omega)
          · rw [bs]; simp; omega
        · rw [bk] at z
          rw [if_pos (by omega)] at bs
          rw [pl3.1] at y
          refine hbad (Or.inr ?_) G3 ml3
          rw [bs] at le2
          simp at le2
          omega
        · rw [bk] at z
          rw [if_neg (by omega)] at bs
          exact ih (i + 1) G3 (by omega) ml3 hR3 (by rw [bs]; exact pl3) (by rw [bs]; exact le)
    exact key 5 0 G2 (by omega) ml hR ⟨by rw [h74]; rfl, fun j a b => absurd b (by unfold bl; simp; omega)⟩ (by unfold bl; simp)
  have mN : ∀ G1, ClF c G G1 → (∀ u : Nat, s = (u : Int) → -1 ≤ w → u < N → (bl u 5).length < 2 ∨ 3 < (bl u 5).length) → Ct (d + 4) M_X12_rests NT 0 0 (some lay) [(2, 311), (0, s), (0, w)] G1 (Ok2 c fs G (-1)) := fun G1 f1 hb => m36 (-1) G1 f1 (fun _ => rfl) (fun u hu hw hu2 G2 ml hR h74 => cho (-1) u G1 G2 hu hu2 ml hR h74 (fun _ G3 ml3 => hI.ok f1 ml3) (fun y => absurd (hb u hu hw hu2) (by omega)))
  refine ctof (s_X11_rests_0 ⟨iw, fun x => mN G ClF.rfl' (fun u hu hw => absurd hw (by omega)), fun x b hb => ?_⟩)
  rw [hc] at hb
  subst hb
  refine ⟨hC.2.1, ?_⟩
  by_cases s0 : s < 0
  · have p0 := hC.2.1
    refine ctof (s_X6_choose_0 hC.2.1 b8_73 (ctof (s_J6_bitCount_0f7a4_0 ⟨is, fun _ => ⟨by omega, fun z => absurd rfl z, fun _ => mN G ClF.rfl' (fun u hu => absurd hu (by omega))⟩, fun z => absurd s0 z⟩)))
  · obtain ⟨u, hu⟩ := Int.eq_ofNat_of_zero_le (show 0 ≤ s by omega)
    rw [hu]
    refine c_choose hC h37 hN hn (fun hu2 hlen G2 f2 ch2 => ⟨by omega, fun _ => ?_, fun z => absurd (show (1 : Int) ≠ 0 by decide) z⟩) (fun hno => ⟨by omega, fun z => absurd rfl z, fun _ => ?_⟩) (by omega)
    rotate_left
    · rw [← hu]
      refine mN G ClF.rfl' (fun u' hu' hw hu2 => ?_)
      obtain rfl : u' = u := by omega
      omega
    have hin : ∀ k, 0 ≤ k → k < ((bl u 5).length : Int) → 0 ≤ lsi (bl u 5) k ∧ lsi (bl u 5) k < G b 8 := fun k k0 k1 => by
      have bt := bl_top n (by omega) u (by rw [hN]; exact hu2)
      rw [← bt] at k1 ⊢
      have := bl_in u n k k0 k1
      omega
    obtain ⟨R, hRR⟩ : ∃ R : Int → Prop, R = fun x => rsF G b (lsi (bl u 5)) (pkF ((bl u 5).length : Int) x) (bl u 5).length := ⟨_, rfl⟩
    have rr : ∀ x, R x ↔ rsF G b (lsi (bl u 5)) (pkF ((bl u 5).length : Int) x) (bl u 5).length := fun x => by rw [hRR]
    have cb := chN_in (bl u 5).length
    have mY : ∀ (v : Int) (G3 : Mem), RsF G G3 → v = (if w = -1 then cnR R (chN (bl u 5).length) 0 0 else fdR R w (chN (bl u 5).length) 0 0) → Ct (d + 4) M_X12_rests NT 0 0 (some lay) [(2, 311), (0, (u : Int)), (0, w)] G3 (Ok2 b fs G v) := by
      intro v G3 f3 hv
      rw [← hu]
      refine m36 v G3 f3.cl (fun z => absurd (by omega) z) (fun u' hu' hw hu2' G4 ml hR h74 => ?_)
      obtain rfl : u' = u := by omega
      refine cho v u' G3 G4 hu hu2' ml hR h74 (fun z => absurd z (by omega)) (fun _ G5 ml5 hR5 pl5 => ?_)
      have pw : ((12 : Int) ^ (bl u' 5).length) = ((chN (bl u' 5).length : Nat) : Int) := by
        unfold chN
        rcases (by omega : (bl u' 5).length = 2 ∨ (bl u' 5).length = 3) with z | z <;> rw [z] <;> decide
      have key : ∀ (k : Nat) (x a : Int) (G6 : Mem), x + k = (chN (bl u' 5).length : Nat) → 0 ≤ x → 0 ≤ a ∧ a ≤ x → MlF G3 G6 → Cu G G6 b → PlR G6 (bl u' 5) → v = (if w = -1 then cnR R k x a else fdR R w k x a) → Rn (d + 4) M_X12_rests zN 103 [(0, (2, 311)), (2, (0, w)), (3, (0, a)), (4, (0, x))] [] G6 (Ok2 b fs G v) := by
        intro k
        induction k with
        | zero =>
          intro x a G6 hx x0 a0 ml6 hR6 pl6 e
          refine s_X12_rests_103 ?_
          rw [pl6.1]
          refine c_power (by omega) ?_
          rw [pw]
          have fin : ∀ z, z = v → Ok2 b fs G v z G6 := fun z hz => by rw [hz]; exact hI.ok f3.cl ml6
          refine ⟨by omega, by omega, fun _ => ⟨iw, fun z => fin _ ?_, fun z => fin _ ?_⟩, fun z => absurd (by omega) z⟩
          · rw [e, if_neg z]; rfl
          · rw [e, if_pos (Decidable.not_not.mp z)]; rfl
        | succ k ih =>
          intro x a G6 hx x0 a0 ml6 hR6 pl6 e
          refine s_X12_rests_103 ?_
          rw [pl6.1]
          refine c_power (by omega) ?_
          rw [pw]
          refine ⟨by omega, by omega, fun z => absurd z (by omega), fun _ => ?_⟩
          have pki := fun i => pkF_in (m := ((bl u' 5).length : Int)) (i := i) x0
          have dig : ∀ (j : Nat) (y : Int) (G7 : Mem), j ≤ (bl u' 5).length → y = x / 12 ^ ((bl u' 5).length - j) → RmF G6 G7 → PlR G7 (bl u' 5) → (∀ i, (j : Int) ≤ i → i < ((bl u' 5).length : Int) → G7 361 i = pkF ((bl u' 5).length : Int) x i) → Rn (d + 4) M_X12_rests zN 129 [(0, (2, 311)), (2, (0, w)), (3, (0, a)), (4, (0, x)), (5, (0, y)), (6, (0, (j : Int) - 1))] [] G7 (Ok2 b fs G v) := by
            intro j
            induction j with
            | zero =>
              intro y G7 hj hy f7 pl7 p7
              refine s_X12_rests_129 ⟨by omega, fun _ => c_isRest (pk := pkF ((bl u' 5).length : Int) x) hC (hR6.ext f7.cor) hlen hin pl7 (fun i i0 i1 => ⟨p7 i i0 i1, pki i⟩) (fun rs G8 f8 pl8 => ⟨by omega, fun _ => ⟨by omega, iw, fun z => ?_, fun z => ?_⟩, fun z => absurd (show (1 : Int) ≠ 0 by decide) z⟩) (fun rs G8 f8 pl8 => ⟨by omega, fun z => absurd rfl z, fun _ => ?_⟩), fun z => absurd (by omega) z⟩
              · have ml8 := ml6.tr (f7.tr f8).ml
                refine ih (x + 1) (a + 1) G8 (by omega) (by omega) (by omega) ml8 (hR6.ext (f7.tr f8).cor) pl8 ?_
                rw [e]
                by_cases hw1 : w = -1
                · rw [if_pos hw1, if_pos hw1, cnR_t ((rr x).mpr rs)]
                · rw [if_neg hw1, if_neg hw1, fdR_t ((rr x).mpr rs), if_neg z]
              · have z := Decidable.not_not.mp z
                have vx : v = x := by rw [e, if_neg (by omega), fdR_t ((rr x).mpr rs), if_pos z]
                rw [vx]
                exact hI.ok f3.cl (ml6.tr (f7.tr f8).ml)
              · have ml8 := ml6.tr (f7.tr f8).ml
                refine ih (x + 1) a G8 (by omega) (by omega) (by omega) ml8 (hR6.ext (f7.tr f8).cor) pl8 ?_
                rw [e]
                by_cases hw1 : w = -1
                · rw [if_pos hw1, if_pos hw1, cnR_f (fun z => rs ((rr x).mp z))]
                · rw [if_neg hw1, if_neg hw1, fdR_f (fun z => rs ((rr x).mp z))]
            | succ j ihj =>
              intro y G7 hj hy f7 pl7 p7
              have y0 : 0 ≤ y := by rw [hy]; exact Int.ediv_nonneg x0 (Int.pow_nonneg (by decide))
              have y1 : y ≤ x := by rw [hy]; exact Int.ediv_le_self _ x0
              rw [show ((j + 1 : Nat) : Int) - 1 = (j : Int) by omega]
              refine s_X12_rests_129 ⟨by omega, fun z => absurd z (by omega), fun _ => ⟨by omega, by omega, fun G12 e12 => ?_⟩⟩
              rw [Int.tmod_eq_emod_of_nonneg y0] at e12
              rw [Int.tdiv_eq_ediv_of_nonneg y0]
              have yy := ihj (y / 12) G12 (by omega) (by rw [hy, Int.ediv_ediv_of_nonneg (Int.pow_nonneg (by decide)), ← Int.pow_succ, show ((bl u' 5).length - (j + 1)).succ = (bl u' 5).length - j by omega]) (f7.tr (fun q i a b e => by rw [e12, st_nq _ _ _ _ b])) ⟨by rw [e12, st_nq _ _ _ _ (by decide)]; exact pl7.1, fun i i0 i1 => by rw [e12, st_nq _ _ _ _ (by decide)]; exact pl7.2 i i0 i1⟩ (fun i i0 i1 => ?_)
              · rw [show (j : Int) + (-1) = (j : Int) - 1 by omega]
                exact yy
              · by_cases hi : i = (j : Int)
                · subst hi
                  rw [e12, st_same, hy]
                  unfold pkF
                  rw [show (((bl u' 5).length : Int) - 1 - (j : Int)).toNat = (bl u' 5).length - (j + 1) by omega]
                · rw [e12, st_nk _ _ _ hi]; exact p7 i (by omega) i1
          rw [pl6.1]
          exact dig (bl u' 5).length x G6 (by omega) (by rw [Nat.sub_self, Int.pow_zero, Int.ediv_one]) RmF.rfl' pl6 (fun i a b => by omega)
      exact key (chN (bl u' 5).length) 0 0 G5 (by omega) (by omega) (by omega) ml5 hR5 pl5 hv
    exact ⟨fun z => c_find hRR hC f2 hlen hin ch2 iw (fun G3 f3 => mY _ G3 f3 (by rw [if_neg z])), fun z => c_howMany hRR hC f2 hlen hin ch2 (fun G3 f3 => mY _ G3 f3 (by rw [if_pos (Decidable.not_not.mp z)]))⟩
end RESTSQ
