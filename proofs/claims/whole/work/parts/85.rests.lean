section RESTS
variable {d : Nat} {S S' T T' G G' H : Mem} {Q : Int → Mem → Prop} {c : Int} {fs : Int → Law}
/-! who chooses, what he pays, where all rest -/
def bl (u : Nat) : Nat → List Int
  | 0 => []
  | i + 1 => if u / 2 ^ i % 2 = 1 then bl u i ++ [(i : Int)] else bl u i
def bcE (p : Int) : Int := andI (((andI (((andI (p - (andI (ushrI p 1) 1431655765)) 858993459) + (andI (ushrI (p - (andI (ushrI p 1) 1431655765)) 2) 858993459)) + (ushrI ((andI (p - (andI (ushrI p 1) 1431655765)) 858993459) + (andI (ushrI (p - (andI (ushrI p 1) 1431655765)) 2) 858993459)) 4)) 252645135) + (ushrI (andI (((andI (p - (andI (ushrI p 1) 1431655765)) 858993459) + (andI (ushrI (p - (andI (ushrI p 1) 1431655765)) 2) 858993459)) + (ushrI ((andI (p - (andI (ushrI p 1) 1431655765)) 858993459) + (andI (ushrI (p - (andI (ushrI p 1) 1431655765)) 2) 858993459)) 4)) 252645135) 8)) + (ushrI ((andI (((andI (p - (andI (ushrI p 1) 1431655765)) 858993459) + (andI (ushrI (p - (andI (ushrI p 1) 1431655765)) 2) 858993459)) + (ushrI ((andI (p - (andI (ushrI p 1) 1431655765)) 858993459) + (andI (ushrI (p - (andI (ushrI p 1) 1431655765)) 2) 858993459)) 4)) 252645135) + (ushrI (andI (((andI (p - (andI (ushrI p 1) 1431655765)) 858993459) + (andI (ushrI (p - (andI (ushrI p 1) 1431655765)) 2) 858993459)) + (ushrI ((andI (p - (andI (ushrI p 1) 1431655765)) 858993459) + (andI (ushrI (p - (andI (ushrI p 1) 1431655765)) 2) 858993459)) 4)) 252645135) 8)) 16)) 63
theorem bcE_n : ∀ u : Nat, u < 32 → bcE (u : Int) = ((bl u 5).length : Int) := by
  unfold bcE andI ushrI
  decide +kernel
theorem bl_top : ∀ n : Nat, n < 6 → ∀ u : Nat, u < 2 ^ n → bl u n = bl u 5 := by decide +kernel
theorem bl_le : ∀ u : Nat, u < 32 → ∀ i : Nat, i < 6 → (bl u i).length ≤ (bl u 5).length := by decide +kernel
theorem bl_in : ∀ (u i : Nat), ∀ k : Int, 0 ≤ k → k < ((bl u i).length : Int) → 0 ≤ lsi (bl u i) k ∧ lsi (bl u i) k < i := by
  intro u i
  induction i with
  | zero => intro k k0 k1; exact absurd k1 (by unfold bl; simp; omega)
  | succ i ih =>
    intro k k0 k1
    unfold bl at k1 ⊢
    split
    · rename_i h
      rw [if_pos h] at k1
      have k1' : k < ((bl u i).length : Int) + 1 := by simpa using k1
      have la := lsi_app (cur := bl u i) (x := (i : Int)) k0
      by_cases hk : k = ((bl u i).length : Int)
      · rw [la.2 hk]; omega
      · rw [la.1 (by omega)]
        have := ih k k0 (by omega)
        omega
    · rename_i h
      rw [if_neg h] at k1
      have := ih k k0 k1
      omega
def aloF (S : Mem) (c w t : Int) : Int := if S (c + 13 + w) 3 < needf S 73 c w t then 20 else Int.tdiv (S (c + 13 + w) 3 - needf S 73 c w t) 10
def puF (S : Mem) (c : Int) (P pk : Int → Int) (j t : Int) : Nat → Int
  | 0 => 0
  | k + 1 => puF S c P pk j t k + (if S (c + 13 + P j) 1 < S (c + 13 + P k) 1 ∧ pk k ≠ t then 3 else 0)
def pyF (S : Mem) (c : Int) (P pk : Int → Int) (m : Nat) (j t : Int) : Int := aloF S c (P j) t + puF S c P pk j t m
def rsF (S : Mem) (c : Int) (P pk : Int → Int) (m : Nat) : Prop := ∀ j, 0 ≤ j → j < (m : Int) → ∀ t, 0 ≤ t → t < 12 → pyF S c P pk m j (pk j) ≤ pyF S c P pk m j t
def pkF (m code i : Int) : Int := code / 12 ^ (m - 1 - i).toNat % 12
noncomputable def cnR (R : Int → Prop) : Nat → Int → Int → Int
  | 0, _, a => a
  | k + 1, x, a => cnR R k (x + 1) (@ite _ (R x) (Classical.propDecidable _) (a + 1) a)
noncomputable def fdR (R : Int → Prop) (w : Int) : Nat → Int → Int → Int
  | 0, _, _ => -1
  | k + 1, x, a => @ite _ (R x) (Classical.propDecidable _) (if a = w then x else fdR R w k (x + 1) (a + 1)) (fdR R w k (x + 1) a)
theorem puF_in {P pk : Int → Int} {j t : Int} : ∀ m : Nat, 0 ≤ puF S c P pk j t m ∧ puF S c P pk j t m ≤ 3 * m := by
  intro m
  induction m with
  | zero => unfold puF; omega
  | succ m ih => unfold puF; split <;> omega
theorem aloF_in {w t : Int} (so : SitOk S (c + 13 + w)) (ro : 0 ≤ S 74 w) : 0 ≤ aloF S c w t ∧ aloF S c w t ≤ 20 := by
  have k3 : 1 ≤ S (c + 13 + w) 3 ∧ S (c + 13 + w) 3 ≤ 99 := so.2.2.2.1
  have n0 := needf_nn (m := t) so ro
  unfold aloF
  split
  · omega
  · rw [Int.tdiv_eq_ediv_of_nonneg (by omega)]; omega
/-- rows of the class's choosers -/
def ChR (S : Mem) (c : Int) (G : Mem) (L : List Int) : Prop := G 33 3 = (L.length : Int) ∧ ∀ j, 0 ≤ j → j < (L.length : Int) → G 34 j = S (c + 13 + lsi L j) 1 ∧ ∀ t, 0 ≤ t → t < 12 → G 35 (12 * j + t) = aloF S c (lsi L j) t
def RsF (G G' : Mem) : Prop := ∀ q k : Int, ¬ (33 ≤ q ∧ q ≤ 36) → G' q k = G q k
theorem RsF.rfl' : RsF G G := fun _ _ _ => rfl
theorem RsF.tr {G2 : Mem} (h : RsF G G') (h' : RsF G' G2) : RsF G G2 := fun q k a => (h' q k a).trans (h q k a)
theorem RsF.cl (h : RsF G G') : ClF c G G' := ⟨fun q k a b => h q k (by omega), fun q k a => h q k (by omega)⟩
theorem c_addChooser {w : Int} {L : List Int} (hC : Cls S c) (h37 : c = 37 ∨ c = 55) (hf : RsF S G) (hw : 0 ≤ w ∧ w < S c 8) (hL : L.length < 3) (hch : ChR S c G L) (h : ∀ G2, RsF S G2 → ChR S c G2 (L ++ [w]) → Q 0 G2) : Ct (d + 2) M_X6_addChooser NT 0 0 (some lay) [(2, 33), (2, c), (2, 73), (0, w)] G Q := by
  have r := hC.rng
  have so := hC.sok hw.1 hw.2
  have k3 : 1 ≤ S (c + 13 + w) 3 ∧ S (c + 13 + w) 3 ≤ 99 := so.2.2.2.1
  have ro := hC.rok (i := w) (by omega) (by omega)
  obtain ⟨m, hm⟩ : ∃ m, L.length = m := ⟨_, rfl⟩
  obtain ⟨c1, c2⟩ := hch
  rw [hm] at c1 c2
  refine ctof (s_X6_addChooser_0 hC.2.1 b8_73 ⟨by omega, by omega, fun G3 e3 => ?_⟩)
  rw [c1] at e3
  rw [hf (c + 13 + w) 1 (by omega)] at e3
  rw [hf (c + 13 + w) 3 (by omega)]
  have key : ∀ (n : Nat) (i : Int) (G4 : Mem), i + n = 12 → 0 ≤ i → RsF S G4 → (∀ q k : Int, q ≠ 35 → G4 q k = G3 q k) → (∀ k : Int, k < 12 * (m : Int) → G4 35 k = G 35 k) → (∀ t, 0 ≤ t → t < i → G4 35 (12 * m + t) = aloF S c w t) → Rn (d + 2) M_X6_addChooser zN 32 [(0, (2, 33)), (1, (2, c)), (2, (2, 73)), (3, (0, w)), (4, (0, S (c + 13 + w) 3)), (5, (0, i))] [] G4 Q := by
    intro n
    induction n with
    | zero =>
      intro i G4 hi i0 f4 o4 l4 a4
      refine s_X6_addChooser_32 hC.2.1 b8_73 ⟨by omega, fun _ G5 e5 => ?_, fun x => absurd (by omega) x⟩
      have x3 : G4 33 3 = m := by rw [o4 _ _ (by decide), e3, st_nq _ _ _ _ (by decide)]; exact c1
      rw [x3] at e5
      have ln : ((L ++ [w]).length : Int) = (m : Int) + 1 := by simp [hm]
      refine h G5 (fun q k a => by rw [e5, st_nq _ _ _ _ (by omega)]; exact f4 q k a) ⟨by rw [e5, st_same, ln], fun j j0 j1 => ?_⟩
      rw [ln] at j1
      have la := lsi_app (cur := L) (x := w) j0
      rw [hm] at la
      by_cases hj : j = (m : Int)
      · rw [la.2 hj]
        refine ⟨?_, fun t t0 t1 => ?_⟩
        · rw [e5, st_nq _ _ _ _ (by decide), o4 _ _ (by decide), e3, hj, st_same]
        · rw [e5, st_nq _ _ _ _ (by decide), hj]; exact a4 t t0 (by omega)
      · rw [la.1 (by omega)]
        obtain ⟨y1, y2⟩ := c2 j j0 (by omega)
        refine ⟨?_, fun t t0 t1 => ?_⟩
        · rw [e5, st_nq _ _ _ _ (by decide), o4 _ _ (by decide), e3, st_nk _ _ _ hj]; exact y1
        · rw [e5, st_nq _ _ _ _ (by decide), l4 _ (by omega)]; exact y2 t t0 t1
    | succ n ih =>
      intro i G4 hi i0 f4 o4 l4 a4
      have hC4 : Cls G4 c := hC.qt h37 f4.cl
      have x3 : G4 33 3 = m := by rw [o4 _ _ (by decide), e3, st_nq _ _ _ _ (by decide)]; exact c1
      have nf : needf G4 73 c w i = needf S 73 c w i := by
        unfold needf grow
        rw [f4 (73 + 1) w (by omega), f4 (73 + 2) w (by omega), f4 (c + 13 + w) 2 (by omega), f4 (c + 13 + w) 0 (by omega)]
      have nb1 := needf_bd (S := S) (c := c) (w := w) (m := i)
      have nb0 := needf_nn (m := i) so (by omega)
      refine s_X6_addChooser_32 hC.2.1 b8_73 ⟨by omega, fun x => absurd x (by omega), fun _ => c_needIn hC4 (by rw [f4 c 8 (by omega)]; exact hw) (by omega) ?_⟩
      rw [nf, x3]
      have nxt : ∀ v, v = aloF S c w i → ∀ G5, G5 = st G4 35 (12 * m + i) v → Rn (d + 2) M_X6_addChooser zN 32 [(0, (2, 33)), (1, (2, c)), (2, (2, 73)), (3, (0, w)), (4, (0, S (c + 13 + w) 3)), (5, (0, i + 1))] [] G5 Q := fun v hv G5 e5 => ih (i + 1) G5 (by omega) (by omega) (fun q k a => by rw [e5, st_nq _ _ _ _ (by omega)]; exact f4 q k a) (fun q k a => by rw [e5, st_nq _ _ _ _ a]; exact o4 q k a) (fun k hk => by rw [e5, st_nk _ _ _ (by omega)]; exact l4 k hk) (fun t t0 t1 => by
        by_cases ht : t = i
        · subst ht; rw [e5, st_same, hv]
        · rw [e5, st_nk _ _ _ (by omega)]; exact a4 t t0 (by omega))
      rw [show (m : Int) * 12 + i = 12 * m + i by omega]
      refine ⟨by omega, by omega, fun x => ⟨by omega, by omega, nxt _ ?_⟩, fun x => ⟨by omega, nxt _ ?_⟩⟩
      · unfold aloF; rw [if_neg (by omega)]
      · unfold aloF; rw [if_pos (by omega)]
  have f3 : RsF S G3 := fun q k a => by rw [e3, st_nq _ _ _ _ (by omega)]; exact hf q k a
  exact key 12 0 G3 (by omega) (by omega) f3 (fun _ _ _ => rfl) (fun k _ => by rw [e3, st_nq _ _ _ _ (by decide)]) (fun t a b => by omega)
section CHO
variable {L : List Int} {pk : Int → Int}
theorem c_pays_C {j t : Int} (hC : Cls S c) (hf : RsF S G) (hL : 2 ≤ L.length ∧ L.length ≤ 3) (hin : ∀ k, 0 ≤ k → k < (L.length : Int) → 0 ≤ lsi L k ∧ lsi L k < S c 8) (hch : ChR S c G L) (hpk : ∀ i, 0 ≤ i → i < (L.length : Int) → G 36 i = pk i ∧ 0 ≤ pk i ∧ pk i < 12) (hj : 0 ≤ j ∧ j < (L.length : Int)) (ht : 0 ≤ t ∧ t < 12) (h : Q (pyF S c (lsi L) pk L.length j t) G) : Ct d M_X6_pays NT 0 0 (some lay) [(2, 33), (0, j), (0, t)] G Q := by
  obtain ⟨c1, c2⟩ := hch
  obtain ⟨p1, p2⟩ := c2 j hj.1 hj.2
  unfold pyF at h
  have key : ∀ (n i : Nat), i + n = L.length → Rn d M_X6_pays zN 15 [(0, (2, 33)), (1, (0, j)), (2, (0, t)), (3, (0, aloF S c (lsi L j) t + puF S c (lsi L) pk j t i)), (4, (0, (i : Int)))] [] G Q := by
    intro n
    induction n with
    | zero =>
      intro i hi
      refine s_X6_pays_15 ⟨by omega, by omega, fun _ => ?_, fun x => absurd (by omega) x⟩
      rw [show i = L.length by omega]; exact h
    | succ n ih =>
      intro i hi
      have y := ih (i + 1) (by omega)
      unfold puF at y
      have q1 := (c2 (i : Int) (by omega) (by omega)).1
      have s1 := (hC.sok (hin (i : Int) (by omega) (by omega)).1 (hin (i : Int) (by omega) (by omega)).2).2.1
      have s2 := (hC.sok (hin j hj.1 hj.2).1 (hin j hj.1 hj.2).2).2.1
      have pi := hpk (i : Int) (by omega) (by omega)
      refine s_X6_pays_15 ⟨by omega, by omega, fun x => absurd x (by omega), fun _ => ⟨by omega, by omega, ?_⟩⟩
      rw [q1, p1, pi.1]
      refine ⟨by omega, by omega, fun x => ?_, fun x => ⟨by omega, by omega, fun z => ?_, fun z => ?_⟩⟩
      · rw [if_neg (by omega), Int.add_zero] at y; exact y
      · rw [if_neg (fun w => w.2 z), Int.add_zero] at y; exact y
      · rw [if_pos ⟨by omega, z⟩, ← Int.add_assoc] at y; exact y
  refine ctof (s_X6_pays_0 ⟨by omega, ?_⟩)
  rw [show j * 12 + t = 12 * j + t by omega, p2 t ht.1 ht.2]
  have y := key L.length 0 (by omega)
  simp only [puF, Int.add_zero] at y
  exact y
theorem pyF_in {j t : Int} (hC : Cls S c) (hL : L.length ≤ 3) (hin : ∀ k, 0 ≤ k → k < (L.length : Int) → 0 ≤ lsi L k ∧ lsi L k < S c 8) (hj : 0 ≤ j ∧ j < (L.length : Int)) : 0 ≤ pyF S c (lsi L) pk L.length j t ∧ pyF S c (lsi L) pk L.length j t ≤ 100 := by
  have r := hC.rng
  have hi := hin j hj.1 hj.2
  have a := aloF_in (t := t) (hC.sok hi.1 hi.2) (hC.rok (i := lsi L j) hi.1 (by omega)).1.1
  have b := puF_in (S := S) (c := c) (P := lsi L) (pk := pk) (j := j) (t := t) L.length
  unfold pyF
  omega
theorem pkF_in {m code i : Int} (hc : 0 ≤ code) : 0 ≤ pkF m code i ∧ pkF m code i < 12 := by
  unfold pkF
  have : 0 ≤ code / 12 ^ (m - 1 - i).toNat := Int.ediv_nonneg hc (Int.pow_nonneg (by decide))
  omega
theorem c_rest {code : Int} (hC : Cls S c) (hf : RsF S G) (hL : 2 ≤ L.length ∧ L.length ≤ 3) (hin : ∀ k, 0 ≤ k → k < (L.length : Int) → 0 ≤ lsi L k ∧ lsi L k < S c 8) (hch : ChR S c G L) (hcode : 0 ≤ code ∧ code < 1728) (h1 : rsF S c (lsi L) (pkF (L.length : Int) code) L.length → ∀ G2, RsF S G2 → ChR S c G2 L → Q 1 G2) (h0 : ¬ rsF S c (lsi L) (pkF (L.length : Int) code) L.length → ∀ G2, RsF S G2 → ChR S c G2 L → Q 0 G2) : Ct (d + 1) M_X6_rest NT 0 0 (some lay) [(2, 33), (0, code)] G Q := by
  have pki := fun i => pkF_in (m := (L.length : Int)) (i := i) hcode.1
  -- all have chosen
  have L36 : ∀ G1 : Mem, RsF S G1 → ChR S c G1 L → (∀ i, 0 ≤ i → i < (L.length : Int) → G1 36 i = pkF (L.length : Int) code i) → Rn (d + 1) M_X6_rest zN 36 [(0, (2, 33)), (3, (0, 0))] [] G1 Q := by
    intro G1 f1 ch1 p1
    have hpk : ∀ i, 0 ≤ i → i < (L.length : Int) → G1 36 i = pkF (L.length : Int) code i ∧ 0 ≤ pkF (L.length : Int) code i ∧ pkF (L.length : Int) code i < 12 := fun i i0 i1 => ⟨p1 i i0 i1, pki i⟩
    have outer : ∀ (n i : Nat), i + n = L.length → (∀ j, 0 ≤ j → j < (i : Int) → ∀ t, 0 ≤ t → t < 12 → pyF S c (lsi L) (pkF (L.length : Int) code) L.length j (pkF (L.length : Int) code j) ≤ pyF S c (lsi L) (pkF (L.length : Int) code) L.length j t) → Rn (d + 1) M_X6_rest zN 36 [(0, (2, 33)), (3, (0, (i : Int)))] [] G1 Q := by
      intro n
      induction n with
      | zero =>
        intro i hi ha
        exact s_X6_rest_36 ⟨by omega, by rw [ch1.1]; omega, fun _ => h1 (fun j j0 j1 => ha j j0 (by omega)) G1 f1 ch1, fun x => absurd (by rw [ch1.1]; omega) x⟩
      | succ n ih =>
        intro i hi ha
        have hj : 0 ≤ (i : Int) ∧ (i : Int) < (L.length : Int) := by omega
        have pb := fun t => pyF_in (pk := pkF (L.length : Int) code) (t := t) hC hL.2 hin hj
        refine s_X6_rest_36 ⟨by omega, by rw [ch1.1]; omega, fun x => absurd x (by rw [ch1.1]; omega), fun _ => ⟨by omega, ?_⟩⟩
        rw [p1 (i : Int) (by omega) (by omega)]
        refine c_pays_C hC f1 hL hin ch1 hpk hj (pki _) ?_
        have inner : ∀ (k : Nat) (t : Int), t + k = 12 → 0 ≤ t → (∀ t', 0 ≤ t' → t' < t → pyF S c (lsi L) (pkF (L.length : Int) code) L.length (i : Int) (pkF (L.length : Int) code (i : Int)) ≤ pyF S c (lsi L) (pkF (L.length : Int) code) L.length (i : Int) t') → Rn (d + 1) M_X6_rest zN 60 [(0, (2, 33)), (3, (0, (i : Int))), (4, (0, pyF S c (lsi L) (pkF (L.length : Int) code) L.length (i : Int) (pkF (L.length : Int) code (i : Int)))), (5, (0, t))] [] G1 Q := by
          intro k
          induction k with
          | zero =>
            intro t ht t0 hb
            refine s_X6_rest_60 ⟨by omega, fun _ => ?_, fun x => absurd (by omega) x⟩
            have y := ih (i + 1) (by omega) (fun j j0 j1 => by
              by_cases hji : j = (i : Int)
              · subst hji; exact fun t' a b => hb t' a (by omega)
              · exact ha j j0 (by omega))
            rw [show ((i + 1 : Nat) : Int) = (i : Int) + 1 by omega] at y
            exact y
          | succ k ihk =>
            intro t ht t0 hb
            have b1 := pb t
            have b2 := pb (pkF (L.length : Int) code (i : Int))
            refine s_X6_rest_60 ⟨by omega, fun x => absurd x (by omega), fun _ => c_pays_C hC f1 hL hin ch1 hpk hj (by omega) ⟨by omega, by omega, fun x => ihk (t + 1) (by omega) (by omega) (fun t' a b => by
              by_cases htt : t' = t
              · subst htt; exact x
              · exact hb t' a (by omega)), fun x => h0 (fun z => x (z (i : Int) (by omega) (by omega) t (by omega) (by omega))) G1 f1 ch1⟩⟩
        exact inner 12 0 (by omega) (by omega) (fun t' a b => by omega)
    exact outer L.length 0 (by omega) (fun j a b => by omega)
  -- the digits
  have L9 : ∀ (k : Nat) (x : Int) (G1 : Mem), k ≤ L.length → x = code / 12 ^ (L.length - k) → RsF S G1 → ChR S c G1 L → (∀ i, (k : Int) ≤ i → i < (L.length : Int) → G1 36 i = pkF (L.length : Int) code i) → Rn (d + 1) M_X6_rest zN 9 [(0, (2, 33)), (2, (0, x)), (3, (0, (k : Int) - 1))] [] G1 Q := by
    intro k
    induction k with
    | zero =>
      intro x G1 hk hx f1 ch1 p1
      exact s_X6_rest_9 ⟨by omega, fun _ => L36 G1 f1 ch1 p1, fun z => absurd (by omega) z⟩
    | succ k ih =>
      intro x G1 hk hx f1 ch1 p1
      have x0 : 0 ≤ x := by rw [hx]; exact Int.ediv_nonneg hcode.1 (Int.pow_nonneg (by decide))
      have x1 : x ≤ code := by rw [hx]; exact Int.ediv_le_self _ hcode.1
      rw [show ((k + 1 : Nat) : Int) - 1 = (k : Int) by omega]
      refine s_X6_rest_9 ⟨by omega, fun z => absurd z (by omega), fun _ => ⟨by omega, by omega, fun G5 e5 => ?_⟩⟩
      rw [Int.tmod_eq_emod_of_nonneg x0] at e5
      rw [Int.tdiv_eq_ediv_of_nonneg x0]
      have y := ih (x / 12) G5 (by omega) (by rw [hx, Int.ediv_ediv_of_nonneg (Int.pow_nonneg (by decide)), ← Int.pow_succ, show (L.length - (k + 1)).succ = L.length - k by omega]) (fun q i a => by rw [e5, st_nq _ _ _ _ (by omega)]; exact f1 q i a) ⟨by rw [e5, st_nq _ _ _ _ (by decide)]; exact ch1.1, fun j j0 j1 => by rw [e5, st_nq _ _ _ _ (by decide)]; exact ⟨(ch1.2 j j0 j1).1, fun t t0 t1 => by rw [st_nq _ _ _ _ (by decide)]; exact (ch1.2 j j0 j1).2 t t0 t1⟩⟩ (fun i i0 i1 => ?_)
      · rw [show (k : Int) + (-1) = (k : Int) - 1 by omega]
        exact y
      · by_cases hi : i = (k : Int)
        · subst hi
          rw [e5, st_same, hx]
          unfold pkF
          rw [show ((L.length : Int) - 1 - (k : Int)).toNat = L.length - (k + 1) by omega]
        · rw [e5, st_nk _ _ _ hi]; exact p1 i (by omega) i1
  refine ctof (s_X6_rest_0 ?_)
  rw [hch.1]
  exact L9 L.length code G (by omega) (by rw [Nat.sub_self, Int.pow_zero, Int.ediv_one]) hf hch (fun i a b => by omega)
end CHO
end RESTS
