section NEXT
variable {d : Nat} {S S' G G' H : Mem} {Q : Int → Mem → Prop} {t : Int → Int} {n b p : Int}
def mkd (k : Int) : Int := if k = 0 then 0 else if k = 1 then 4 else k - 1
/-- the tape is one that can be fed -/
def TpO (t : Int → Int) (n : Int) : Prop := (0 ≤ n ∧ n ≤ 1000) ∧ ∀ k, 0 ≤ k → k < n → 10 ≤ t k ∧ t k ≤ 126
/-- the model's tape; its token at hand -/
def TpX (t : Int → Int) (n : Int) (G : Mem) : Prop := G 311 3 = n ∧ ∀ k, 0 ≤ k → k < n → G 312 k = t k
def TkM (t : Int → Int) (n b : Int) (G : Mem) : Prop := G 311 5 = b ∧ G 311 4 = tnx t n b ∧ G 311 6 = mkd (tkd t n b) ∧ (tkd t n b = 2 → G 311 7 = fR 27 (twd t n b)) ∧ (tkd t n b = 3 → G 311 8 = tnm t n b)
def NtF (G G' : Mem) : Prop := ∀ q k : Int, ¬ (q = 311 ∧ 4 ≤ k ∧ k ≤ 8) → G' q k = G q k
theorem NtF.rfl' : NtF G G := fun _ _ _ => rfl
theorem NtF.tr {G2 : Mem} (h : NtF G G') (h' : NtF G' G2) : NtF G G2 := fun q k a => (h' q k a).trans (h q k a)
theorem NtF.st {k v : Int} (hk : 4 ≤ k ∧ k ≤ 8) : NtF G (st G 311 k v) := fun q i a => st_ne _ _ (by omega)
theorem TpX.nt (h : TpX t n G) (f : NtF G G') : TpX t n G' := ⟨by rw [f 311 3 (by omega)]; exact h.1, fun k k0 k1 => by rw [f 312 k (by omega)]; exact h.2 k k0 k1⟩
def sgn (t : Int → Int) (n q : Int) : Int := if q < n then t q else 0
theorem sgn_in (hO : TpO t n) (hp : 0 ≤ p) : 0 ≤ sgn t n p ∧ sgn t n p ≤ 126 := by
  unfold sgn
  by_cases h : p < n
  · rw [if_pos h]; have := hO.2 p hp h; omega
  · rw [if_neg h]; omega
theorem c_signAt (hO : TpO t n) (hT : TpX t n G) (hp : 0 ≤ p ∧ p ≤ 1000) (h : Q (sgn t n p) G) : Ct d M_X12_signAt NT 0 0 (some lay) [(2, 311), (0, p)] G Q := by
  have o := hO.1
  unfold sgn at h
  refine ctof (s_X12_signAt_0 ⟨by omega, by rw [hT.1]; omega, fun x => ?_, fun x => ?_⟩)
  · rw [hT.1] at x; rw [if_neg (by omega)] at h; exact h
  · rw [hT.1] at x; rw [if_pos (by omega)] at h; rw [hT.2 p (by omega) (by omega)]; exact ⟨by omega, h⟩
theorem lt_iff {x : Int} : ltB x = true ↔ 97 ≤ x ∧ x ≤ 122 := by unfold ltB; exact decide_eq_true_iff
theorem dg_iff {x : Int} : dgB x = true ↔ 48 ≤ x ∧ x ≤ 57 := by unfold dgB; exact decide_eq_true_iff
theorem bk_iff {x : Int} : bkB x = true ↔ x = 10 ∨ x = 32 := by unfold bkB; exact decide_eq_true_iff
theorem sg_iff {x : Int} : sgB x = true ↔ (40 ≤ x ∧ x ≤ 43) ∨ x = 45 ∨ (59 ≤ x ∧ x ≤ 61) := by unfold sgB; exact decide_eq_true_iff
theorem nB {P : Int → Bool} {x : Int} (h : ¬ P x = true) : P x = false := by simpa using h
theorem sgn_lt {q : Int} (h0 : 97 ≤ sgn t n q) (h1 : sgn t n q ≤ 122) : q < n ∧ ltB (t q) = true ∧ sgn t n q = t q := by
  unfold sgn at *
  by_cases h : q < n
  · rw [if_pos h] at *; exact ⟨h, lt_iff.mpr ⟨h0, h1⟩, rfl⟩
  · rw [if_neg h] at *; omega
theorem sgn_nlt {q : Int} (h : ¬ (97 ≤ sgn t n q ∧ sgn t n q ≤ 122)) : n ≤ q ∨ ltB (t q) = false := by
  unfold sgn at h
  by_cases hq : q < n
  · rw [if_pos hq] at h; exact Or.inr (nB (fun z => h (lt_iff.mp z)))
  · exact Or.inl (by omega)
theorem sgn_dg {q : Int} (h0 : 48 ≤ sgn t n q) (h1 : sgn t n q ≤ 57) : q < n ∧ dgB (t q) = true ∧ sgn t n q = t q := by
  unfold sgn at *
  by_cases h : q < n
  · rw [if_pos h] at *; exact ⟨h, dg_iff.mpr ⟨h0, h1⟩, rfl⟩
  · rw [if_neg h] at *; omega
theorem sgn_ndg {q : Int} (h : ¬ (48 ≤ sgn t n q ∧ sgn t n q ≤ 57)) : n ≤ q ∨ dgB (t q) = false := by
  unfold sgn at h
  by_cases hq : q < n
  · rw [if_pos hq] at h; exact Or.inr (nB (fun z => h (dg_iff.mp z)))
  · exact Or.inl (by omega)
theorem c_nextToken (hO : TpO t n) (hT : TpX t n G) (hp : 0 ≤ p ∧ p ≤ n) (h4 : G 311 4 = p) (h : ∀ G', NtF G G' → TkM t n (tbg t n p) G' → Q 0 G') : Ct (d + 1) M_X12_nextToken NT 0 0 (some lay) [(2, 311)] G Q := by
  have o := hO.1
  obtain ⟨b, hb⟩ : ∃ b, b = tbg t n p := ⟨_, rfl⟩
  rw [← hb] at h
  have bI := tbg_in (t := t) hp
  rw [← hb] at bI
  -- words
  have W : ∀ (k : Nat) (q : Int) (G1 : Mem), (n - q).toNat = k → b ≤ q → q ≤ n → b < n → ltB (t b) = true → twe t n b = spE ltB t n q → NtF G G1 → TpX t n G1 → G1 311 4 = q → G1 311 5 = b → G1 311 7 = fR 27 (rwl t b (min (q - b) 8).toNat) → Rn (d + 1) M_X12_nextToken zN 109 [(0, (2, 311))] [] G1 Q := by
    intro k
    induction k with
    | zero =>
      intro q G1 hk q0 q1 bn lb we f1 t1 a4 a5 a7
      refine s_X12_nextToken_109 ?_
      rw [a4]
      have e : twe t n b = q := we.trans (spE_f (Or.inl (by omega)))
      have kd : tkd t n b = if twe t n b - b ≤ 8 then 2 else 1 := by unfold tkd; rw [if_neg (by omega), if_pos lb]
      have nx : tnx t n b = q := by unfold tnx; rw [if_neg (by omega), if_pos lb, e]
      refine c_signAt hO t1 (by omega) ?_
      have si : sgn t n q = 0 := by unfold sgn; rw [if_neg (by omega)]
      rw [si]
      refine ⟨by omega, fun _ => s_X12_nextToken_188 ⟨by omega, fun x G3 e3 => h G3 (f1.tr (by rw [e3]; exact NtF.st (by omega))) ?_, fun x G3 e3 => h G3 (f1.tr (by rw [e3]; exact NtF.st (by omega))) ?_⟩, fun x => absurd x (by decide)⟩
      · rw [a4, a5] at x
        rw [if_pos (by omega)] at kd
        refine ⟨by rw [e3, st_nk _ _ _ (by decide)]; exact a5, by rw [e3, st_nk _ _ _ (by decide), nx]; exact a4, by rw [e3, st_same, kd]; rfl, fun _ => ?_, fun z => absurd z (by omega)⟩
        rw [e3, st_nk _ _ _ (by decide), a7]
        unfold twd
        rw [e, Int.min_eq_left (by omega)]
      · rw [a4, a5] at x
        rw [if_neg (by omega)] at kd
        exact ⟨by rw [e3, st_nk _ _ _ (by decide)]; exact a5, by rw [e3, st_nk _ _ _ (by decide), nx]; exact a4, by rw [e3, st_same, kd]; rfl, fun z => absurd z (by omega), fun z => absurd z (by omega)⟩
    | succ k ih =>
      intro q G1 hk q0 q1 bn lb we f1 t1 a4 a5 a7
      refine s_X12_nextToken_109 ?_
      rw [a4]
      have si := sgn_in (p := q) hO (by omega)
      have fin : ¬ (97 ≤ sgn t n q ∧ sgn t n q ≤ 122) → Rn (d + 1) M_X12_nextToken zN 188 [(0, (2, 311))] [] G1 Q := fun ns => by
        have e : twe t n b = q := we.trans (spE_f (sgn_nlt ns))
        have kd : tkd t n b = if twe t n b - b ≤ 8 then 2 else 1 := by unfold tkd; rw [if_neg (by omega), if_pos lb]
        have nx : tnx t n b = q := by unfold tnx; rw [if_neg (by omega), if_pos lb, e]
        refine s_X12_nextToken_188 ⟨by omega, fun x G3 e3 => h G3 (f1.tr (by rw [e3]; exact NtF.st (by omega))) ?_, fun x G3 e3 => h G3 (f1.tr (by rw [e3]; exact NtF.st (by omega))) ?_⟩
        · rw [a4, a5] at x
          rw [if_pos (by omega)] at kd
          refine ⟨by rw [e3, st_nk _ _ _ (by decide)]; exact a5, by rw [e3, st_nk _ _ _ (by decide), nx]; exact a4, by rw [e3, st_same, kd]; rfl, fun _ => ?_, fun z => absurd z (by omega)⟩
          rw [e3, st_nk _ _ _ (by decide), a7]
          unfold twd
          rw [e, Int.min_eq_left (by omega)]
        · rw [a4, a5] at x
          rw [if_neg (by omega)] at kd
          exact ⟨by rw [e3, st_nk _ _ _ (by decide)]; exact a5, by rw [e3, st_nk _ _ _ (by decide), nx]; exact a4, by rw [e3, st_same, kd]; rfl, fun z => absurd z (by omega), fun z => absurd z (by omega)⟩
      refine c_signAt hO t1 (by omega) ⟨by omega, fun x => fin (by omega), fun x => ?_⟩
      rw [a4]
      refine c_signAt hO t1 (by omega) ⟨by omega, fun y => fin (by omega), fun y => ?_⟩
      obtain ⟨qn, ql, qs⟩ := sgn_lt (t := t) (n := n) (q := q) (by omega) (by omega)
      have we2 : twe t n b = spE ltB t n (q + 1) := we.trans (spE_t qn ql)
      have to175 : ∀ G2, NtF G1 G2 → G2 311 4 = q → G2 311 5 = b → G2 311 7 = fR 27 (rwl t b (min (q + 1 - b) 8).toNat) → Rn (d + 1) M_X12_nextToken zN 175 [(0, (2, 311))] [] G2 Q := fun G2 f2 c4 c5 c7 => by
        refine s_X12_nextToken_175 (fun G3 e3 => ?_)
        rw [c4] at e3
        have f3 : NtF G2 G3 := by rw [e3]; exact NtF.st (by omega)
        exact ih (q + 1) G3 (by omega) (by omega) (by omega) bn lb we2 ((f1.tr f2).tr f3) (t1.nt (f2.tr f3)) (by rw [e3, st_same]) (by rw [e3, st_nk _ _ _ (by decide)]; exact c5) (by rw [e3, st_nk _ _ _ (by decide)]; exact c7)
      rw [a4, a5]
      refine ⟨by omega, fun z => to175 G1 NtF.rfl' a4 a5 ?_, fun z => ?_⟩
      · rw [a7, Int.min_eq_right (by omega), Int.min_eq_right (by omega)]
      · refine c_signAt hO t1 (by omega) ⟨by omega, fun G4 e4 => to175 G4 (by rw [e4]; exact NtF.st (by omega)) (by rw [e4, st_nk _ _ _ (by decide)]; exact a4) (by rw [e4, st_nk _ _ _ (by decide)]; exact a5) ?_⟩
        rw [e4, st_same, a7, qs, Int.min_eq_left (by omega), Int.min_eq_left (by omega)]
        obtain ⟨j, hj⟩ : ∃ j : Nat, (q - b).toNat = j := ⟨_, rfl⟩
        rw [hj, show (q + 1 - b).toNat = j + 1 by omega]
        show _ = fR 27 (rwl t b j) * 27 + (t (b + j) - 96)
        rw [show b + (j : Int) = q by omega]
        omega
  -- numbers
  have N : ∀ (k : Nat) (q : Int) (G1 : Mem), (n - q).toNat = k → b ≤ q → q ≤ n → b < n → ltB (t b) = false → dgB (t b) = true → tne t n b = spE dgB t n q → NtF G G1 → TpX t n G1 → G1 311 4 = q → G1 311 5 = b → G1 311 8 = fD (rwl t b (min (q - b) 4).toNat) → Rn (d + 1) M_X12_nextToken zN 224 [(0, (2, 311))] [] G1 Q := by
    intro k
    induction k with
    | zero =>
      intro q G1 hk q0 q1 bn nb lb we f1 t1 a4 a5 a8
      refine s_X12_nextToken_224 ?_
      rw [a4]
      have e : tne t n b = q := we.trans (spE_f (Or.inl (by omega)))
      have nb' : ¬ ltB (t b) = true := by rw [nb]; decide
      have kd : tkd t n b = if tne t n b - b ≤ 4 then 3 else 1 := by unfold tkd; rw [if_neg (by omega), if_neg nb', if_pos lb]
      have nx : tnx t n b = q := by unfold tnx; rw [if_neg (by omega), if_neg nb', if_pos lb, e]
      refine c_signAt hO t1 (by omega) ?_
      have si : sgn t n q = 0 := by unfold sgn; rw [if_neg (by omega)]
      rw [si]
      refine ⟨by omega, fun _ => s_X12_nextToken_299 ⟨by omega, fun x G3 e3 => h G3 (f1.tr (by rw [e3]; exact NtF.st (by omega))) ?_, fun x G3 e3 => h G3 (f1.tr (by rw [e3]; exact NtF.st (by omega))) ?_⟩, fun x => absurd x (by decide)⟩
      · rw [a4, a5] at x
        rw [if_pos (by omega)] at kd
        refine ⟨by rw [e3, st_nk _ _ _ (by decide)]; exact a5, by rw [e3, st_nk _ _ _ (by decide), nx]; exact a4, by rw [e3, st_same, kd]; rfl, fun z => absurd z (by omega), fun _ => ?_⟩
        rw [e3, st_nk _ _ _ (by decide), a8]
        unfold tnm
        rw [e, Int.min_eq_left (by omega)]
      · rw [a4, a5] at x
        rw [if_neg (by omega)] at kd
        exact ⟨by rw [e3, st_nk _ _ _ (by decide)]; exact a5, by rw [e3, st_nk _ _ _ (by decide), nx]; exact a4, by rw [e3, st_same, kd]; rfl, fun z => absurd z (by omega), fun z => absurd z (by omega)⟩
    | succ k ih =>
      intro q G1 hk q0 q1 bn nb lb we f1 t1 a4 a5 a8
      refine s_X12_nextToken_224 ?_
      rw [a4]
      have nb' : ¬ ltB (t b) = true := by rw [nb]; decide
      have si := sgn_in (p := q) hO (by omega)
      have fin : ¬ (48 ≤ sgn t n q ∧ sgn t n q ≤ 57) → Rn (d + 1) M_X12_nextToken zN 299 [(0, (2, 311))] [] G1 Q := fun ns => by
        have e : tne t n b = q := we.trans (spE_f (sgn_ndg ns))
        have kd : tkd t n b = if tne t n b - b ≤ 4 then 3 else 1 := by unfold tkd; rw [if_neg (by omega), if_neg nb', if_pos lb]
        have nx : tnx t n b = q := by unfold tnx; rw [if_neg (by omega), if_neg nb', if_pos lb, e]
        refine s_X12_nextToken_299 ⟨by omega, fun x G3 e3 => h G3 (f1.tr (by rw [e3]; exact NtF.st (by omega))) ?_, fun x G3 e3 => h G3 (f1.tr (by rw [e3]; exact NtF.st (by omega))) ?_⟩
        · rw [a4, a5] at x
          rw [if_pos (by omega)] at kd
          refine ⟨by rw [e3, st_nk _ _ _ (by decide)]; exact a5, by rw [e3, st_nk _ _ _ (by decide), nx]; exact a4, by rw [e3, st_same, kd]; rfl, fun z => absurd z (by omega), fun _ => ?_⟩
          rw [e3, st_nk _ _ _ (by decide), a8]
          unfold tnm
          rw [e, Int.min_eq_left (by omega)]
        · rw [a4, a5] at x
          rw [if_neg (by omega)] at kd
          exact ⟨by rw [e3, st_nk _ _ _ (by decide)]; exact a5, by rw [e3, st_nk _ _ _ (by decide), nx]; exact a4, by rw [e3, st_same, kd]; rfl, fun z => absurd z (by omega), fun z => absurd z (by omega)⟩
      refine c_signAt hO t1 (by omega) ⟨by omega, fun x => fin (by omega), fun x => ?_⟩
      rw [a4]
      refine c_signAt hO t1 (by omega) ⟨by omega, fun y => fin (by omega), fun y => ?_⟩
      obtain ⟨qn, ql, qs⟩ := sgn_dg (t := t) (n := n) (q := q) (by omega) (by omega)
      have we2 : tne t n b = spE dgB t n (q + 1) := we.trans (spE_t qn ql)
      have to286 : ∀ G2, NtF G1 G2 → G2 311 4 = q → G2 311 5 = b → G2 311 8 = fD (rwl t b (min (q + 1 - b) 4).toNat) → Rn (d + 1) M_X12_nextToken zN 286 [(0, (2, 311))] [] G2 Q := fun G2 f2 c4 c5 c8 => by
        refine s_X12_nextToken_286 (fun G3 e3 => ?_)
        rw [c4] at e3
        have f3 : NtF G2 G3 := by rw [e3]; exact NtF.st (by omega)
        exact ih (q + 1) G3 (by omega) (by omega) (by omega) bn nb lb we2 ((f1.tr f2).tr f3) (t1.nt (f2.tr f3)) (by rw [e3, st_same]) (by rw [e3, st_nk _ _ _ (by decide)]; exact c5) (by rw [e3, st_nk _ _ _ (by decide)]; exact c8)
      rw [a4, a5]
      refine ⟨by omega, fun z => to286 G1 NtF.rfl' a4 a5 ?_, fun z => ?_⟩
      · rw [a8, Int.min_eq_right (by omega), Int.min_eq_right (by omega)]
      · refine c_signAt hO t1 (by omega) (fun G4 e4 => to286 G4 (by rw [e4]; exact NtF.st (by omega)) (by rw [e4, st_nk _ _ _ (by decide)]; exact a4) (by rw [e4, st_nk _ _ _ (by decide)]; exact a5) ?_)
        rw [e4, st_same, a8, qs, Int.min_eq_left (by omega), Int.min_eq_left (by omega)]
        obtain ⟨j, hj⟩ : ∃ j : Nat, (q - b).toNat = j := ⟨_, rfl⟩
        rw [hj, show (q + 1 - b).toNat = j + 1 by omega]
        show _ = fD (rwl t b j) * 10 + (t (b + j) - 48)
        rw [show b + (j : Int) = q by omega]
        omega
  -- signs
  have Sg : ∀ G1, NtF G G1 → G1 311 4 = b → G1 311 5 = b → b < n → ltB (t b) = false → dgB (t b) = false → Rn (d + 1) M_X12_nextToken zN 322 [(0, (2, 311)), (1, (0, t b))] [] G1 Q := fun G1 f1 a4 a5 bn nl nd => by
    have tb := hO.2 b (by omega) bn
    have nl' : ¬ ltB (t b) = true := by rw [nl]; decide
    have nd' : ¬ dgB (t b) = true := by rw [nd]; decide
    have nx : tnx t n b = b + 1 := by unfold tnx; rw [if_neg (by omega), if_neg nl', if_neg nd']
    refine s_X12_nextToken_322 (fun G2 e2 => ?_)
    rw [a4] at e2
    have f2 : NtF G1 G2 := by rw [e2]; exact NtF.st (by omega)
    have b4 : G2 311 4 = b + 1 := by rw [e2, st_same]
    have b5 : G2 311 5 = b := by rw [e2, st_nk _ _ _ (by decide)]; exact a5
    have yes : sgB (t b) = true → ∀ G3, G3 = st G2 311 6 3 → Q 0 G3 := fun s G3 e3 => by
      have kd : tkd t n b = 4 := by unfold tkd; rw [if_neg (by omega), if_neg nl', if_neg nd', if_pos s]
      exact h G3 ((f1.tr f2).tr (by rw [e3]; exact NtF.st (by omega))) ⟨by rw [e3, st_nk _ _ _ (by decide)]; exact b5, by rw [e3, st_nk _ _ _ (by decide), nx]; exact b4, by rw [e3, st_same, kd]; rfl, fun z => absurd z (by omega), fun z => absurd z (by omega)⟩
    have no : ¬ sgB (t b) = true → ∀ G3, G3 = st G2 311 6 4 → Q 0 G3 := fun s G3 e3 => by
      have kd : tkd t n b = 1 := by unfold tkd; rw [if_neg (by omega), if_neg nl', if_neg nd', if_neg s]
      exact h G3 ((f1.tr f2).tr (by rw [e3]; exact NtF.st (by omega))) ⟨by rw [e3, st_nk _ _ _ (by decide)]; exact b5, by rw [e3, st_nk _ _ _ (by decide), nx]; exact b4, by rw [e3, st_same, kd]; rfl, fun z => absurd z (by omega), fun z => absurd z (by omega)⟩
    have s345 : ¬ (40 ≤ t b ∧ t b ≤ 43) → Rn (d + 1) M_X12_nextToken zN 345 [(1, (0, t b))] [(2, 311)] G2 Q := fun z => s_X12_nextToken_345 ⟨by omega, fun x => yes (sg_iff.mpr (by omega)), fun x => ⟨fun y => no (fun w => by have := sg_iff.mp w; omega), fun y => ⟨fun u => no (fun w => by have := sg_iff.mp w; omega), fun u => yes (sg_iff.mpr (by omega))⟩⟩⟩
    exact ⟨by omega, fun x => s345 (by omega), fun x => ⟨fun y => yes (sg_iff.mpr (by omega)), fun y => s345 (by omega)⟩⟩
  have L52 : ∀ G1, NtF G G1 → TpX t n G1 → G1 311 4 = b → (b < n → ¬ bkB (t b) = true) → Rn (d + 1) M_X12_nextToken zN 52 [(0, (2, 311))] [] G1 Q := by
    intro G1 f1 t1 a4 nbk
    refine s_X12_nextToken_52 (fun G2 e2 G3 e3 G4 e4 => ?_)
    rw [a4] at e2
    have f2 : NtF G1 G4 := ((show NtF G1 G2 by rw [e2]; exact NtF.st (by omega)).tr (show NtF G2 G3 by rw [e3]; exact NtF.st (by omega))).tr (show NtF G3 G4 by rw [e4]; exact NtF.st (by omega))
    have c4 : G4 311 4 = b := by rw [e4, st_nk _ _ _ (by decide), e3, st_nk _ _ _ (by decide), e2, st_nk _ _ _ (by decide)]; exact a4
    have c5 : G4 311 5 = b := by rw [e4, st_nk _ _ _ (by decide), e3, st_nk _ _ _ (by decide), e2, st_same]
    have c7 : G4 311 7 = 0 := by rw [e4, st_nk _ _ _ (by decide), e3, st_same]
    have c8 : G4 311 8 = 0 := by rw [e4, st_same]
    have t4 := t1.nt f2
    rw [c4, t4.1]
    refine ⟨by omega, by omega, fun x => ?_, fun x G5 e5 => ?_⟩
    · have bn : b < n := by omega
      have tb := hO.2 b (by omega) bn
      rw [t4.2 b (by omega) bn]
      have s212 : ltB (t b) = false → Rn (d + 1) M_X12_nextToken zN 212 [(0, (2, 311)), (1, (0, t b))] [] G4 Q := fun nl => by
        have sg2 : dgB (t b) = false → Rn (d + 1) M_X12_nextToken zN 322 [(0, (2, 311)), (1, (0, t b))] [] G4 Q := fun nd => Sg G4 (f1.tr f2) c4 c5 bn nl nd
        refine s_X12_nextToken_212 ⟨by omega, fun y => sg2 (nB (fun w => by have := dg_iff.mp w; omega)), fun y => ⟨fun z => sg2 (nB (fun w => by have := dg_iff.mp w; omega)), fun z => ?_⟩⟩
        refine N _ b G4 rfl (by omega) (by omega) bn nl (dg_iff.mpr (by omega)) rfl (f1.tr f2) t4 c4 c5 ?_
        rw [c8, show (min (b - b) 4).toNat = 0 by omega]; rfl
      refine ⟨by omega, by omega, fun y => s212 (nB (fun w => by have := lt_iff.mp w; omega)), fun y => ⟨fun z => s212 (nB (fun w => by have := lt_iff.mp w; omega)), fun z => ?_⟩⟩
      refine W _ b G4 rfl (by omega) (by omega) bn (lt_iff.mpr (by omega)) rfl (f1.tr f2) t4 c4 c5 ?_
      rw [c7, show (min (b - b) 8).toNat = 0 by omega]; rfl
    · have bn : n ≤ b := by omega
      have kd : tkd t n b = 0 := tkd_0.mpr bn
      have nx : tnx t n b = b := by unfold tnx; rw [if_pos bn]
      exact h G5 ((f1.tr f2).tr (by rw [e5]; exact NtF.st (by omega))) ⟨by rw [e5, st_nk _ _ _ (by decide)]; exact c5, by rw [e5, st_nk _ _ _ (by decide), nx]; exact c4, by rw [e5, st_same, kd]; rfl, fun z => absurd z (by omega), fun z => absurd z (by omega)⟩
  have L0 : ∀ (k : Nat) (q : Int) (G1 : Mem), (n - q).toNat = k → p ≤ q → q ≤ n → b = spE bkB t n q → NtF G G1 → TpX t n G1 → G1 311 4 = q → Rn (d + 1) M_X12_nextToken zN 0 [(0, (2, 311))] [] G1 Q := by
    intro k
    induction k with
    | zero =>
      intro q G1 hk q0 q1 hbq f1 t1 a4
      have e : b = q := hbq.trans (spE_f (Or.inl (by omega)))
      exact s_X12_nextToken_0 ⟨by omega, by rw [t1.1]; omega, fun _ => L52 G1 f1 t1 (by rw [a4, e]) (fun z => absurd z (by omega)), fun x => absurd (by rw [t1.1, a4]; omega) x⟩
    | succ k ih =>
      intro q G1 hk q0 q1 hbq f1 t1 a4
      have tq := hO.2 q (by omega) (by omega)
      refine s_X12_nextToken_0 ?_
      rw [a4, t1.1, t1.2 q (by omega) (by omega)]
      have on : bkB (t q) = true → Rn (d + 1) M_X12_nextToken zN 39 [(0, (2, 311))] [] G1 Q := fun w => by
        refine s_X12_nextToken_39 (fun G2 e2 => ?_)
        rw [a4] at e2
        have f2 : NtF G1 G2 := by rw [e2]; exact NtF.st (by omega)
        exact ih (q + 1) G2 (by omega) (by omega) (by omega) (hbq.trans (spE_t (by omega) w)) (f1.tr f2) (t1.nt f2) (by rw [e2, st_same])
      refine ⟨by omega, by omega, fun x => absurd x (by omega), fun _ => ⟨by omega, by omega, fun x => on (bk_iff.mpr (by omega)), fun x => ⟨fun y => ?_, fun y => on (bk_iff.mpr (by omega))⟩⟩⟩
      have w : ¬ bkB (t q) = true := fun w => by have := bk_iff.mp w; omega
      have e : b = q := hbq.trans (spE_f (Or.inr (nB w)))
      exact L52 G1 f1 t1 (by rw [a4, e]) (fun _ => by rw [e]; exact w)
  exact ctof (L0 _ p G rfl (by omega) (by omega) hb NtF.rfl' hT h4)
/-! what the model asks of its token -/
theorem mkd_iff {k : Int} (hk : 0 ≤ k ∧ k ≤ 4) : (mkd k = 0 ↔ k = 0) ∧ (mkd k = 1 ↔ k = 2) ∧ (mkd k = 2 ↔ k = 3) ∧ (mkd k = 3 ↔ k = 4) ∧ 0 ≤ mkd k ∧ mkd k ≤ 4 := by
  unfold mkd
  by_cases h0 : k = 0
  · rw [if_pos h0]; omega
  · rw [if_neg h0]
    by_cases h1 : k = 1
    · rw [if_pos h1]; omega
    · rw [if_neg h1]; omega
theorem pow8 {k : Nat} (h : k ≤ 8) : (27 : Int) ^ k ≤ 282429536481 := by
  match k, h with
  | 0, _ => decide
  | 1, _ => decide
  | 2, _ => decide
  | 3, _ => decide
  | 4, _ => decide
  | 5, _ => decide
  | 6, _ => decide
  | 7, _ => decide
  | 8, _ => decide
theorem c_isWord {w : Int} (hk : TkM t n b G) (iw : InL w) (h1 : tkd t n b = 2 → fR 27 (twd t n b) = w → Q 1 G) (h0 : ¬ (tkd t n b = 2 ∧ fR 27 (twd t n b) = w) → Q 0 G) : Ct d M_X12_isWord NT 0 0 (some lay) [(2, 311), (1, w)] G Q := by
  have r := mkd_iff (tkd_r (t := t) (n := n) (b := b))
  refine ctof (s_X12_isWord_0 ?_)
  rw [hk.2.2.1]
  refine ⟨by omega, fun x => h0 (fun z => by omega), fun x => ?_⟩
  have k2 : tkd t n b = 2 := by omega
  have ok := twd_ok k2
  have b1 := fR_in (B := 27) (by decide) _ ok.1
  have b2 := pow8 ok.2
  rw [hk.2.2.2.1 k2]
  exact ⟨by omega, iw, fun y => h0 (fun z => y z.2), fun y => h1 k2 (by omega)⟩
theorem c_isSign {w : Int} (hO : TpO t n) (hT : TpX t n G) (hk : TkM t n b G) (hb : 0 ≤ b) (iw : InR w) (h1 : tkd t n b = 4 → t b = w → Q 1 G) (h0 : ¬ (tkd t n b = 4 ∧ t b = w) → Q 0 G) : Ct d M_X12_isSign NT 0 0 (some lay) [(2, 311), (0, w)] G Q := by
  have r := mkd_iff (tkd_r (t := t) (n := n) (b := b))
  have o := hO.1
  refine ctof (s_X12_isSign_0 ?_)
  rw [hk.2.2.1, hk.1]
  refine ⟨by omega, fun x => h0 (fun z => by omega), fun x => ?_⟩
  have k4 : tkd t n b = 4 := by omega
  have bn : b < n := by
    have : ¬ n ≤ b := fun z => by have := (tkd_0 (t := t)).mpr z; omega
    omega
  have tb := hO.2 b hb bn
  rw [hT.2 b hb bn]
  exact ⟨by omega, by omega, iw, fun y => h0 (fun z => y z.2), fun y => h1 k4 (by omega)⟩
end NEXT
