section LIVES
variable {d : Nat} {S S' T T' G G' H : Mem} {Q : Int → Mem → Prop} {c : Int} {fs : Int → Law}
/-! the model's flights by habits -/
def HmF (G G' : Mem) : Prop := ∀ q k : Int, ¬ (332 ≤ q ∧ q ≤ 341) → ¬ (351 ≤ q ∧ q ≤ 357) → ¬ (q = 311 ∧ 63 ≤ k ∧ k ≤ 68 ∧ k ≠ 66 ∧ k ≠ 67) → G' q k = G q k
theorem HmF.rfl' : HmF G G := fun _ _ _ _ _ => rfl
theorem HmF.tr {G2 : Mem} (h : HmF G G') (h' : HmF G' G2) : HmF G G2 := fun q k a b e => (h' q k a b e).trans (h q k a b e)
theorem HmF.cor (h : HmF G G') : CorM G G' := fun q k hq => h q k (by omega) (by omega) (by omega)
theorem HmF.ml (h : HmF G G') : MlF G G' := ⟨fun q k a b => h q k (by omega) (by omega) (by omega), fun q k a => h q k (by omega) (by omega) (by omega)⟩
theorem EvM.hm (h : EvM G G') : HmF G G' := fun q k a _ _ => h q k a
theorem HmF.put {q i v : Int} (h : 351 ≤ q ∧ q ≤ 357) : HmF G (st G q i v) := fun a b _ hb _ => st_nq _ _ _ _ (by omega)
theorem HmF.put11 {k v : Int} (h : k = 63 ∨ k = 64 ∨ k = 65 ∨ k = 68) : HmF G (st G 311 k v) := fun a b _ _ hb => st_ne _ _ (by omega)
def HMr (S : Mem) (c : Int) (T M : Mem) : Prop := ∀ p, 0 ≤ p → p < S c 8 → M 351 p = T 21 p ∧ ((T 22 p = 0 ∧ M 352 p = -1) ∨ (T 22 p = -1 ∧ 0 ≤ M 352 p ∧ M 352 p ≤ T 20 7) ∨ (0 < T 22 p ∧ M 352 p = T 20 7 + T 22 p)) ∧ ((T 23 p = -100 ∧ M 353 p = -1) ∨ (0 ≤ T 23 p ∧ M 353 p = T 23 p)) ∧ (T 19 11 = 1 → M 354 p = T 24 p) ∧ M 355 p = T 28 p ∧ M 356 p = T 29 p ∧ M 357 p = T 26 p
def HMs (S : Mem) (c : Int) (T M : Mem) : Prop := (∀ s, 0 ≤ s → s < S c 6 → M 350 s = T 31 s ∧ (0 ≤ T 31 s → M 349 (T 31 s) = s)) ∧ (T 19 11 = 1 → ∀ p, 0 ≤ p → p < S c 8 → M 349 p = S (c + 13 + p) 1)
def HM (S : Mem) (c bw bv bl th : Int) (T M : Mem) : Prop := HMr S c T M ∧ (M 311 63 = bw + T 20 8 ∧ M 311 64 = bv + T 20 9 ∧ M 311 65 = bl + T 20 11) ∧ (M 311 67 = T 19 11 ∧ (T 19 11 = 1 → M 311 68 = T 19 12) ∧ M 311 66 = th) ∧ HMs S c T M
section MOD
variable {bw bv bl th : Int}
theorem HM.ev (h : HM S c bw bv bl th T G) (e : EvM G G') : HM S c bw bv bl th T G' := by
  have e : ∀ q k : Int, ¬ (332 ≤ q ∧ q ≤ 341) → G' q k = G q k := e
  obtain ⟨h1, h2, h3, h4, h5⟩ := h
  refine ⟨fun p p0 p1 => ?_, ?_, ?_, fun s s0 s1 => ?_, fun x p p0 p1 => ?_⟩
  · rw [e 351 _ (by omega), e 352 _ (by omega), e 353 _ (by omega), e 354 _ (by omega), e 355 _ (by omega), e 356 _ (by omega), e 357 _ (by omega)]; exact h1 p p0 p1
  · rw [e 311 _ (by omega), e 311 _ (by omega), e 311 _ (by omega)]; exact h2
  · rw [e 311 _ (by omega), e 311 _ (by omega), e 311 _ (by omega)]; exact h3
  · rw [e 350 _ (by omega), e 349 _ (by omega)]; exact h4 s s0 s1
  · rw [e 349 _ (by omega)]; exact h5 x p p0 p1
theorem TOk.rw' (hT : TOk S c T) {i : Int} (i0 : 0 ≤ i) (i5 : i < 5) : (0 ≤ T 21 i ∧ T 21 i ≤ 199) ∧ (-1 ≤ T 22 i ∧ T 22 i ≤ 10) ∧ (-100 ≤ T 23 i ∧ T 23 i ≤ 72) ∧ (0 ≤ T 27 i ∧ T 27 i ≤ 1) ∧ (0 < T 22 i → T 21 i = 0) := by
  have x := hT.1.2 i i0 i5
  unfold RwOk at x
  simp only [Int.reduceAdd] at x
  exact x
theorem c_sleepsAt {p : Int} (hR : Cu S G c) (hT : TOk S c T) (hM : HM S c bw bv bl th T G) (hp : 0 ≤ p ∧ p < S c 8) (h1 : aslT S T c p → Q 1 G) (h0 : ¬ aslT S T c p → Q 0 G) : Ct d M_X12_sleepsAt NT 0 0 (some lay) [(2, 311), (0, p), (0, T 20 7)] G Q := by
  have r := hR.rng
  obtain ⟨-, -, -, -, -, -, -, e7, e8⟩ := hR.sit hp.1 hp.2
  obtain ⟨-, -, -, -, -, -, -, k7, k8⟩ := hR.sok hp.1 hp.2
  obtain ⟨-, m2, m3, -⟩ := hM.1 p hp.1 hp.2
  have ro := hT.rw' (i := p) hp.1 (by omega)
  have t7 := hT.1.1
  unfold aslT at h1 h0
  refine ctof (s_X12_sleepsAt_0 ⟨by omega, by omega, fun x => h0 (by omega), fun x => ⟨by omega, by omega, by omega, fun x2 => h0 (by omega), fun x2 => ⟨by omega, fun x3 => h0 (by omega), fun x3 => ⟨by omega, fun x4 => h1 (by omega), fun x4 => ⟨by omega, fun x5 => h0 (by omega), fun x5 => h1 (by omega)⟩⟩⟩⟩⟩)
theorem c_draws (hg : 0 ≤ G 311 68 ∧ G 311 68 < 2147483648) {g : Int} (eg : g = (G 311 68 * 1103515245 + 12345) % 2147483648) (h : Q (g / 65536 % 10) (st G 311 68 g)) : Ct d M_X12_draws NT 0 0 (some lay) [(2, 311), (0, 10)] G Q := by
  refine ctof (s_X12_draws_0 ⟨by omega, fun G2 e2 => ?_⟩)
  rw [Int.tmod_eq_emod_of_nonneg (by omega), ← eg] at e2
  have v : G2 311 68 = g := by rw [e2, st_same]
  rw [v, Int.tdiv_eq_ediv_of_nonneg (by omega), Int.tmod_eq_emod_of_nonneg (by omega)]
  rw [e2]
  exact ⟨by omega, by omega, by omega, by omega, h⟩
theorem c_rouses {p : Int} (hR : Cu S G c) (hL : LawsR S G c 0 fs) (hT : TOk S c T) (hM : HM S c bw bv bl th T G) (hp : 0 ≤ p ∧ p < S c 8) (h : ∀ G2, HmF G G2 → HM S c bw bv bl th (rsM S c fs T p) G2 → Q (rsA S c fs T p) G2) : Ct (d + 4) M_X12_rouses NT 0 0 (some lay) [(2, 311), (0, p), (0, T 20 7)] G Q := by
  have r := hR.rng
  have np : p ≠ -1 := by omega
  have dI := hT.2.2.2.2
  have gI := hT.2.2.2.1
  refine ctof (s_X12_rouses_0 (c_sleepsAt hR hT hM hp (fun a => ⟨by omega, fun _ => ?_, fun z => absurd (show (1 : Int) ≠ 0 by decide) z⟩) (fun a => ⟨by omega, fun z => absurd rfl z, fun _ => ?_⟩)))
  · have y : ¬ (p = -1 ∨ ¬ aslT S T c p) := fun z => by rcases z with z | z; exact np z; exact z a
    have at' := rsM_at (fs := fs) y
    unfold rsA at h
    rw [if_neg y] at h
    obtain ⟨hr, hw, hg, hs, hs2⟩ := hM
    -- he wakes: G1: behind what was drawn
    have wake : rsW S c fs T p = 1 → ∀ G1 : Mem, HmF G G1 → (∀ q k : Int, ¬ (332 ≤ q ∧ q ≤ 341) → ¬ (q = 354 ∧ k = p) → ¬ (q = 311 ∧ k = 68) → G1 q k = G q k) → (T 19 11 = 1 → G1 354 p = T 24 p + 1 ∧ G1 311 68 = dgn T) → Rn (d + 4) M_X12_rouses zN 74 [(0, (2, 311)), (1, (0, p)), (2, (0, T 20 7))] [] G1 Q := by
      intro w1 G1 f1 o1 g1
      refine s_X12_rouses_74 ⟨by omega, fun G2 e2 G3 e3 G4 e4 => ?_⟩
      have a3 : G2 356 p = T 29 p := by rw [e2, st_nq _ _ _ _ (by decide), o1 _ _ (by omega) (by omega) (by omega)]; exact (hr p hp.1 hp.2).2.2.2.2.2.1
      rw [a3] at e3
      have a4 : G3 311 63 = bw + T 20 8 := by rw [e3, st_nq _ _ _ _ (by decide), e2, st_nq _ _ _ _ (by decide), o1 _ _ (by omega) (by omega) (by omega)]; exact hw.1
      rw [a4] at e4
      have f4 : HmF G G4 := by
        rw [e4, e3, e2]
        exact ((f1.tr (HmF.put (by omega))).tr (HmF.put (by omega))).tr (HmF.put11 (by omega))
      have o4 : ∀ q k : Int, ¬ (332 ≤ q ∧ q ≤ 341) → ¬ (q = 353 ∧ k = p) → ¬ (q = 356 ∧ k = p) → ¬ (q = 311 ∧ k = 63) → ¬ (q = 354 ∧ k = p) → ¬ (q = 311 ∧ k = 68) → G4 q k = G q k := fun q k a b e f g i => by rw [e4, st_ne _ _ f, e3, st_ne _ _ e, e2, st_ne _ _ b]; exact o1 q k a g i
      rw [w1] at h
      have n0 : ¬ (1 : Int) = 0 := by decide
      simp only [w1, if_neg n0] at at'
      refine h G4 f4 ⟨fun i i0 i1 => ?_, ?_, ?_, fun s s0 s1 => ?_, fun x i i0 i1 => ?_⟩
      · obtain ⟨r1, r2, r3, r4, r5, r6, r7⟩ := hr i i0 i1
        have t11 : rsM S c fs T p 19 11 = T 19 11 := by rw [at']; simp
        have t7 : rsM S c fs T p 20 7 = T 20 7 := by rw [at']; simp
        have t21 : rsM S c fs T p 21 i = T 21 i := by rw [at']; simp
        have t22 : rsM S c fs T p 22 i = T 22 i := by rw [at']; simp
        have t26 : rsM S c fs T p 26 i = T 26 i := by rw [at']; simp
        have t28 : rsM S c fs T p 28 i = T 28 i := by rw [at']; simp
        have t23 : rsM S c fs T p 23 i = if i = p then T 20 7 else T 23 i := by rw [at']; simp
        have t24 : rsM S c fs T p 24 i = if i = p then T 24 p + 1 else T 24 i := by rw [at']; simp
        have t29 : rsM S c fs T p 29 i = if i = p then T 29 p + 1 else T 29 i := by rw [at']; simp
        rw [t11, t7, t21, t22, t26, t28, t23, t24, t29]
        have tb := hT.1.1
        refine ⟨by rw [o4 _ _ (by omega) (by omega) (by omega) (by omega) (by omega) (by omega)]; exact r1, by rw [o4 _ _ (by omega) (by omega) (by omega) (by omega) (by omega) (by omega)]; exact r2, ?_, fun x => ?_, by rw [o4 _ _ (by omega) (by omega) (by omega) (by omega) (by omega) (by omega)]; exact r5, ?_, by rw [o4 _ _ (by omega) (by omega) (by omega) (by omega) (by omega) (by omega)]; exact r7⟩
        · by_cases hi : i = p
          · subst hi
            rw [if_pos rfl]
            refine Or.inr ⟨tb.1, ?_⟩
            rw [e4, st_nq _ _ _ _ (by decide), e3, st_nq _ _ _ _ (by decide), e2, st_same]
          · rw [if_neg hi, o4 _ _ (by omega) (by omega) (by omega) (by omega) (by omega) (by omega)]; exact r3
        · by_cases hi : i = p
          · subst hi
            rw [if_pos rfl, e4, st_nq _ _ _ _ (by decide), e3, st_nq _ _ _ _ (by decide), e2, st_nq _ _ _ _ (by decide)]
            exact (g1 x).1
          · rw [if_neg hi, o4 _ _ (by omega) (by omega) (by omega) (by omega) (by omega) (by omega)]; exact r4 x
        · by_cases hi : i = p
          · subst hi
            rw [if_pos rfl, e4, st_nq _ _ _ _ (by decide), e3, st_same]
          · rw [if_neg hi, o4 _ _ (by omega) (by omega) (by omega) (by omega) (by omega) (by omega)]; exact r6
      · have t8 : rsM S c fs T p 20 8 = T 20 8 + 1 := by rw [at']; simp
        have t9 : rsM S c fs T p 20 9 = T 20 9 := by rw [at']; simp
        have t1 : rsM S c fs T p 20 11 = T 20 11 := by rw [at']; simp
        rw [t8, t9, t1, o4 311 64 (by omega) (by omega) (by omega) (by omega) (by omega) (by omega), o4 311 65 (by omega) (by omega) (by omega) (by omega) (by omega) (by omega), e4, st_same]
        exact ⟨by omega, hw.2.1, hw.2.2⟩
      · have t11 : rsM S c fs T p 19 11 = T 19 11 := by rw [at']; simp
        have t12 : rsM S c fs T p 19 12 = if T 19 11 = 0 then T 19 12 else dgn T := by rw [at']; simp
        rw [t11, t12, o4 311 67 (by omega) (by omega) (by omega) (by omega) (by omega) (by omega), o4 311 66 (by omega) (by omega) (by omega) (by omega) (by omega) (by omega)]
        refine ⟨hg.1, fun x => ?_, hg.2.2⟩
        rw [if_neg (by omega), e4, st_nk _ _ _ (by decide), e3, st_nq _ _ _ _ (by decide), e2, st_nq _ _ _ _ (by decide)]
        exact (g1 x).2
      · have t31 : ∀ s, rsM S c fs T p 31 s = T 31 s := fun s => by rw [at']; simp
        rw [t31, o4 350 _ (by omega) (by omega) (by omega) (by omega) (by omega) (by omega), o4 349 _ (by omega) (by omega) (by omega) (by omega) (by omega) (by omega)]
        exact hs s s0 s1
      · have t11 : rsM S c fs T p 19 11 = T 19 11 := by rw [at']; simp
        rw [t11] at x
        rw [o4 349 _ (by omega) (by omega) (by omega) (by omega) (by omega) (by omega)]
        exact hs2 x i i0 i1
    rw [hg.1]
    refine ⟨by omega, fun z => wake (by unfold rsW; rw [if_pos z]) G HmF.rfl' (fun _ _ _ _ _ => rfl) (fun x => by omega), fun z => ?_⟩
    have d1 : T 19 11 = 1 := by omega
    have sv := hs2 d1 p hp.1 hp.2
    have k1 := (hR.sok hp.1 hp.2).2.1
    have cu := hR.2.2.2.2.1.2.2.2.1 (S (c + 13 + p) 1) k1.1 k1.2
    simp only [Int.mul_zero, Int.zero_add] at cu
    have r4 := (hr p hp.1 hp.2).2.2.2.1 d1
    refine ⟨by omega, by omega, c_wakingBy hR hp hL (fun G9 f9 G11 e11 => ?_)⟩
    rw [sv, cu, r4]
    have cupT := hT.2.1 (S (c + 13 + p) 1) k1.1 k1.2
    rw [f9 354 p (by omega), r4] at e11
    have f11 : HmF G G11 := by rw [e11]; exact f9.hm.tr (HmF.put (by omega))
    have g68 : G11 311 68 = T 19 12 := by rw [e11, st_nq _ _ _ _ (by decide), f9 _ _ (by omega)]; exact hg.2.1 d1
    have wv : rsW S c fs T p = if dgn T / 65536 % 10 < wakV S c fs p (T 20 7) (S (c + 3) (S (c + 13 + p) 1)) (T 24 p) then 1 else 0 := by unfold rsW; rw [if_neg z, cupT]
    have wi := wakV_in (fs := fs) (w := p) (t := T 20 7) (cp := S (c + 3) (S (c + 13 + p) 1)) (ak := T 24 p) hR hp
    have dd := dgn_in (T := T)
    refine c_draws (g := dgn T) (by rw [g68]; exact gI d1) (by rw [g68]; rfl) ⟨by omega, by omega, fun lt => ?_, fun lt G17 e17 => ?_⟩
    · refine wake (by rw [wv, if_pos lt]) _ (f11.tr (HmF.put11 (by omega))) (fun q k a b e => ?_) (fun _ => ⟨?_, st_same _ _ _ _⟩)
      · rw [st_ne _ _ e, e11, st_ne _ _ b]; exact f9 q k a
      · rw [st_nq _ _ _ _ (by decide), e11, st_same]
    · have w0 : rsW S c fs T p = 0 := by rw [wv, if_neg lt]
      have a64 : st G11 311 68 (dgn T) 311 64 = bv + T 20 9 := by rw [st_nk _ _ _ (by decide), e11, st_nq _ _ _ _ (by decide), f9 _ _ (by omega)]; exact hw.2.1
      rw [a64] at e17
      have o17 : ∀ q k : Int, ¬ (332 ≤ q ∧ q ≤ 341) → ¬ (q = 354 ∧ k = p) → ¬ (q = 311 ∧ (k = 68 ∨ k = 64)) → G17 q k = G q k := fun q k a b e => by rw [e17, st_ne _ _ (by omega), st_ne _ _ (by omega), e11, st_ne _ _ b]; exact f9 q k a
      rw [w0] at h
      simp only [w0, if_true] at at'
      refine h G17 ((f11.tr (HmF.put11 (k := 68) (by omega))).tr (by rw [e17]; exact HmF.put11 (by omega))) ⟨fun i i0 i1 => ?_, ?_, ?_, fun s s0 s1 => ?_, fun x i i0 i1 => ?_⟩
      · obtain ⟨r1, r2, r3, r4', r5, r6, r7⟩ := hr i i0 i1
        have t11 : rsM S c fs T p 19 11 = T 19 11 := by rw [at']; simp
        have t7 : rsM S c fs T p 20 7 = T 20 7 := by rw [at']; simp
        have t21 : rsM S c fs T p 21 i = T 21 i := by rw [at']; simp
        have t22 : rsM S c fs T p 22 i = T 22 i := by rw [at']; simp
        have t26 : rsM S c fs T p 26 i = T 26 i := by rw [at']; simp
        have t28 : rsM S c fs T p 28 i = T 28 i := by rw [at']; simp
        have t23 : rsM S c fs T p 23 i = T 23 i := by rw [at']; simp
        have t29 : rsM S c fs T p 29 i = T 29 i := by rw [at']; simp
        have t24 : rsM S c fs T p 24 i = if i = p then T 24 p + 1 else T 24 i := by rw [at']; simp
        rw [t11, t7, t21, t22, t26, t28, t23, t24, t29]
        refine ⟨by rw [o17 _ _ (by omega) (by omega) (by omega)]; exact r1, by rw [o17 _ _ (by omega) (by omega) (by omega)]; exact r2, by rw [o17 _ _ (by omega) (by omega) (by omega)]; exact r3, fun x => ?_, by rw [o17 _ _ (by omega) (by omega) (by omega)]; exact r5, by rw [o17 _ _ (by omega) (by omega) (by omega)]; exact r6, by rw [o17 _ _ (by omega) (by omega) (by omega)]; exact r7⟩
        by_cases hi : i = p
        · subst hi
          rw [if_pos rfl, e17, st_nq _ _ _ _ (by decide), st_nq _ _ _ _ (by decide), e11, st_same]
        · rw [if_neg hi, o17 _ _ (by omega) (by omega) (by omega)]; exact r4' x
      · have t8 : rsM S c fs T p 20 8 = T 20 8 := by rw [at']; simp
        have t9 : rsM S c fs T p 20 9 = T 20 9 + 1 := by rw [at']; simp
        have t1 : rsM S c fs T p 20 11 = T 20 11 := by rw [at']; simp
        rw [t8, t9, t1, o17 311 63 (by omega) (by omega) (by omega), o17 311 65 (by omega) (by omega) (by omega), e17, st_same]
        exact ⟨hw.1, by omega, hw.2.2⟩
      · have t11 : rsM S c fs T p 19 11 = T 19 11 := by rw [at']; simp
        have t12 : rsM S c fs T p 19 12 = if T 19 11 = 0 then T 19 12 else dgn T := by rw [at']; simp
        rw [t11, t12, o17 311 67 (by omega) (by omega) (by omega), o17 311 66 (by omega) (by omega) (by omega)]
        refine ⟨hg.1, fun x => ?_, hg.2.2⟩
        rw [if_neg (by omega), e17, st_nk _ _ _ (by decide), st_same]
      · have t31 : ∀ s, rsM S c fs T p 31 s = T 31 s := fun s => by rw [at']; simp
        rw [t31, o17 350 _ (by omega) (by omega) (by omega), o17 349 _ (by omega) (by omega) (by omega)]
        exact hs s s0 s1
      · have t11 : rsM S c fs T p 19 11 = T 19 11 := by rw [at']; simp
        rw [t11] at x
        rw [o17 349 _ (by omega) (by omega) (by omega)]
        exact hs2 x i i0 i1
  · have y : p = -1 ∨ ¬ aslT S T c p := Or.inr a
    unfold rsA at h
    rw [rsM_id y, if_pos y] at h
    exact h G HmF.rfl' hM
theorem c_rousesAll {p s z : Int} (hR : Cu S G c) (hL : LawsR S G c 0 fs) (hT : TOk S c T) (hM : HM S c bw bv bl th T G) (hs : 0 ≤ s ∧ s < S c 6) (hp : T 31 s = p) (hp0 : 0 ≤ p) (hz : z = 0 ∨ z = 1) {f : Int → Int} (hf : f = fun i => if z = 0 then s + 1 + i else S c 6 - 1 - i) (h : ∀ G2, HmF G G2 → HM S c bw bv bl th (hgL S c fs f (S c 6 - 1 - s).toNat 0 T) G2 → Q (hgA S c fs f (S c 6 - 1 - s).toNat 0 T) G2) : Ct (d + 5) M_X12_rousesAll NT 0 0 (some lay) [(2, 311), (0, p), (0, T 20 7), (0, z)] G Q := by
  have r := hR.rng
  have se := hR.seats.1
  have on := hT.2.2.1 s hs.1 (by omega)
  have s9 : G 349 p = s := by have := (hM.2.2.2.1 s hs.1 hs.2).2 (by omega); rw [hp] at this; exact this
  have key : ∀ (n i : Nat) (T1 G1 : Mem), (i : Int) + n = S c 6 - 1 - s → HmF G G1 → TOk S c T1 → T1 20 7 = T 20 7 → (∀ s, T1 31 s = T 31 s) → HM S c bw bv bl th T1 G1 → (∀ G2, HmF G G2 → HM S c bw bv bl th (hgL S c fs f n i T1) G2 → Q (hgA S c fs f n i T1) G2) → Rn (d + 5) M_X12_rousesAll zN 18 [(0, (2, 311)), (1, (0, p)), (2, (0, T 20 7)), (3, (0, z)), (4, (0, S c 6)), (5, (0, s + 1 + (i : Int)))] [] G1 Q := by
    intro n
    induction n with
    | zero =>
      intro i T1 G1 hi f1 ok1 t1 o1 h1 hq
      exact s_X12_rousesAll_18 ⟨by omega, by omega, fun _ => hq G1 f1 h1, fun x => absurd (by omega) x⟩
    | succ n ih =>
      intro i T1 G1 hi f1 ok1 t1 o1 h1 hq
      unfold hgA hgL at hq
      have L50 : ∀ u, u = f i → 0 ≤ u ∧ u < S c 6 → Rn (d + 5) M_X12_rousesAll zN 50 [(0, (2, 311)), (1, (0, p)), (2, (0, T 20 7)), (3, (0, z)), (4, (0, S c 6)), (5, (0, s + 1 + (i : Int)))] [(0, u), (2, 350)] G1 Q := by
        intro u hu u5
        have on1 := ok1.2.2.1 u u5.1 (by omega)
        have a5 := (h1.2.2.2.1 u u5.1 u5.2).1
        have nxt : ∀ (G2 : Mem), HmF G1 G2 → HM S c bw bv bl th (rsM S c fs T1 (T1 31 u)) G2 → rsA S c fs T1 (T1 31 u) ≠ 0 → Rn (d + 5) M_X12_rousesAll zN 18 [(0, (2, 311)), (1, (0, p)), (2, (0, T 20 7)), (3, (0, z)), (4, (0, S c 6)), (5, (0, s + 1 + (i : Int) + 1))] [] G2 Q := by
          intro G2 f2 h2 ha
          rw [← hu, if_neg ha, if_neg ha] at hq
          obtain ⟨k1, k2, k3, -, -⟩ := rsM_ok (fs := fs) (w := T1 31 u) ok1
          have y := ih (i + 1) _ G2 (by omega) (f1.tr f2) k1 (k2.trans t1) (fun s => (k3 s).trans (o1 s)) h2 (by rw [show ((i + 1 : Nat) : Int) = (i : Int) + 1 by omega]; exact hq)
          rw [show s + 1 + ((i + 1 : Nat) : Int) = s + 1 + (i : Int) + 1 by omega] at y
          exact y
        refine s_X12_rousesAll_50 ⟨by omega, ?_⟩
        rw [a5]
        refine ⟨by omega, fun x => ?_, fun x => ?_⟩
        · have m1 : T1 31 u = -1 := by omega
          refine nxt G1 HmF.rfl' ?_ ?_
          · rw [rsM_id (Or.inl m1)]; exact h1
          · unfold rsA; rw [if_pos (Or.inl m1)]; decide
        · rw [← t1]
          refine c_rouses (hR.ext f1.cor) (hL.ext f1.cor) ok1 h1 (by omega) (fun G2 f2 h2 => ?_)
          rw [t1]
          have a := rsA_01 (S := S) (c := c) (fs := fs) (T := T1) (w := T1 31 u)
          refine ⟨by omega, fun y => nxt G2 f2 h2 y, fun y => ?_⟩
          have y := Decidable.not_not.mp y
          rw [← hu, if_pos y, if_pos y] at hq
          exact hq G2 (f1.tr f2) h2
      refine s_X12_rousesAll_18 ⟨by omega, by omega, fun x => absurd x (by omega), fun _ => ⟨by omega, fun x => L50 _ ?_ (by omega), fun x => ⟨by omega, ?_⟩⟩⟩
      · rw [hf]; simp only; rw [if_pos x]
      · rw [f1 349 p (by omega) (by omega) (by omega), s9]
        refine L50 _ ?_ (by omega)
        rw [hf]; simp only; rw [if_neg x]; omega
  refine ctof (s_X12_rousesAll_0 ⟨by omega, ?_⟩)
  rw [se, s9]
  have y := key (S c 6 - 1 - s).toNat 0 T G (by omega) HmF.rfl' hT rfl (fun _ => rfl) hM h
  rw [show s + 1 + ((0 : Nat) : Int) = s + 1 by omega] at y
  exact y
end MOD
end LIVES
