section LOOK
variable {d : Nat} {S S' G G' H : Mem} {Q : Int → Mem → Prop} {c : Int} {fs : Int → Law}
theorem wakV_ext {w t cp ak : Int} (hw : 0 ≤ w ∧ w < 5) (e : CorC c S S') : wakV S' c fs w t cp ak = wakV S c fs w t cp ak := by
  have e : ∀ q k : Int, c ≤ q ∧ q < c + 18 ∧ q ≠ c + 7 ∧ q ≠ c + 12 → S' q k = S q k := fun q k h => e q k h.1 h.2.1 h.2.2.1 h.2.2.2
  unfold wakV deepf legsf
  rw [e (c + 8) 0 (by omega), e (c + 13 + w) 0 (by omega), e (c + 13 + w) 5 (by omega), e (c + 13 + w) 6 (by omega)]
theorem queV_ext {t ou : Int} (e : CorC c S S') : queV S' c fs t ou = queV S c fs t ou := by
  have e : ∀ q k : Int, c ≤ q ∧ q < c + 18 ∧ q ≠ c + 7 ∧ q ≠ c + 12 → S' q k = S q k := fun q k h => e q k h.1 h.2.1 h.2.2.1 h.2.2.2
  unfold queV
  rw [e (c + 8) 2 (by omega)]
/-- what a look writes -/
def LkF (c : Int) (S S' : Mem) : Prop := ∀ q k : Int, q ≠ c + 7 → q ≠ c + 12 → ¬ (6 ≤ q ∧ q ≤ 11) → S' q k = S q k
theorem LkF.cl (hc : c = 37 ∨ c = 55) (h : LkF c S S') : ClF c S S' := ⟨fun q k a b => h q k (by omega) (by omega) (by omega), fun q k a => h q k (by omega) (by omega) (by omega)⟩
theorem LkF.rfl' : LkF c S S := fun _ _ _ _ _ => rfl
theorem LkF.tr {S2 : Mem} (h : LkF c S S') (h' : LkF c S' S2) : LkF c S S2 := fun q k a b e => (h' q k a b e).trans (h q k a b e)
theorem LkF.cor (hc : c = 37 ∨ c = 55) (h : LkF c S S') : CorC c S S' := fun q k a b e f => h q k e f (by omega)
/-- what is read of the state and the cabin -/
def RdF (c : Int) (S S' : Mem) : Prop := CorC c S S' ∧ ∀ q k : Int, 73 ≤ q ∧ q < 81 → S' q k = S q k
theorem LkF.rd (hc : c = 37 ∨ c = 55) (h : LkF c S S') : RdF c S S' := ⟨h.cor hc, fun q k a => h q k (by omega) (by omega) (by omega)⟩
theorem EvC.rd (hc : c = 37 ∨ c = 55) (h : EvC c S S') : RdF c S S' := ⟨fun q k a b e f => h q k e f, fun q k a => h q k (by omega) (by omega)⟩
theorem slB_tr {t q : Int} : slB S c t q = true ↔ (0 ≤ q ∧ q < 5) ∧ 0 ≤ S (c + 2) q ∧ aslp S 73 c (S (c + 2) q) t := by
  unfold slB
  exact decide_eq_true_iff
theorem aslp_rd {w t : Int} (hw : 0 ≤ w ∧ w < 5) (h : RdF c S S') : aslp S' 73 c w t ↔ aslp S 73 c w t := by
  have e : ∀ q k : Int, c ≤ q ∧ q < c + 18 ∧ q ≠ c + 7 ∧ q ≠ c + 12 → S' q k = S q k := fun q k h2 => h.1 q k h2.1 h2.2.1 h2.2.2.1 h2.2.2.2
  unfold aslp
  rw [h.2 (73 + 2) w (by omega), h.2 (73 + 3) w (by omega), e (c + 13 + w) 7 (by omega), e (c + 13 + w) 8 (by omega)]
theorem Cls.onw (hC : Cls S c) {q : Int} (hq : 0 ≤ q ∧ q < 5) : S (c + 2) q = -1 ∨ (0 ≤ S (c + 2) q ∧ S (c + 2) q < 5 ∧ S (c + 2) q < S c 8) := by
  have := hC.on hq.1 hq.2
  have := hC.rng
  omega
theorem slB_rd {t : Int} (hC : Cls S c) (h : RdF c S S') : slB S' c t = slB S c t := by
  funext q
  unfold slB
  by_cases hq : 0 ≤ q ∧ q < 5
  · have o := hC.onw hq
    rw [h.1 (c + 2) q (by omega) (by omega) (by omega) (by omega)]
    rcases o with o | o
    · rw [o]
      simp
    · have a := aslp_rd (w := S (c + 2) q) (t := t) (by omega) h
      simp only [decide_eq_decide]
      rw [a]
  · have : ∀ P R : Prop, [Decidable P] → [Decidable R] → ¬ P → ¬ R → decide P = decide R := fun P R _ _ a b => by rw [decide_eq_false a, decide_eq_false b]
    exact this _ _ (fun x => hq x.1) (fun x => hq x.1)
theorem wkD_rd {t q : Int} (hC : Cls S c) (hs : slB S c t q = true) (h : RdF c S S') : wkD S' c fs t q = wkD S c fs t q := by
  obtain ⟨hq, h0, -⟩ := slB_tr.mp hs
  have o := hC.onw hq
  have e : ∀ q k : Int, c ≤ q ∧ q < c + 18 ∧ q ≠ c + 7 ∧ q ≠ c + 12 → S' q k = S q k := fun q k h2 => h.1 q k h2.1 h2.2.1 h2.2.2.1 h2.2.2.2
  unfold wkD
  rw [e (c + 2) q (by omega), e (c + 13 + S (c + 2) q) 1 (by omega), h.2 80 _ (by omega), h.2 77 _ (by omega), wakV_ext (by omega) h.1]
theorem spD_rd {t sd q : Int} (hC : Cls S c) (hs : slB S c t q = true) (h : RdF c S S') : spD S' c fs t sd q = spD S c fs t sd q := by
  obtain ⟨hq, h0, -⟩ := slB_tr.mp hs
  have o := hC.onw hq
  have e : ∀ q k : Int, c ≤ q ∧ q < c + 18 ∧ q ≠ c + 7 ∧ q ≠ c + 12 → S' q k = S q k := fun q k h2 => h.1 q k h2.1 h2.2.1 h2.2.2.1 h2.2.2.2
  unfold spD
  rw [e (c + 2) q (by omega), e (c + 13 + S (c + 2) q) 1 (by omega), h.2 80 _ (by omega), h.2 77 _ (by omega), spiV_ext (by omega) h.1]
theorem c_addSl {i u v x : Int} (hi : G 6 5 = i) (h5 : 0 ≤ i ∧ i < 5) (hv : 0 ≤ v ∧ v ≤ 10) (hx : 0 ≤ x ∧ x ≤ 10) (hB : 0 ≤ G 11 1 ∧ G 11 1 ≤ 99) (h : ∀ G', G' 6 5 = i + 1 → G' 8 i = u → G' 9 (2 * i) = v → G' 9 (2 * i + 1) = x → G' 10 i = (if G 11 1 * x < G 11 1 * v then 2 else 1) → (∀ q k : Int, ¬ (q = 6 ∧ k = 5) → ¬ (q = 8 ∧ k = i) → ¬ (q = 9 ∧ (k = 2 * i ∨ k = 2 * i + 1)) → ¬ (q = 10 ∧ k = i) → G' q k = G q k) → Q 0 G') : Ct d M_X0_addSleeper NT 0 0 (some lay) [(2, 6), (0, u), (0, v), (0, x)] G Q := by
  refine ctof (s_X0_addSleeper_0 ⟨by omega, fun G2 e2 => ?_⟩)
  have a2 : G2 6 5 = i := by rw [e2, st_nq _ _ _ _ (by decide)]; exact hi
  rw [hi] at e2
  rw [a2]
  refine ⟨by omega, fun G4 e4 => ?_⟩
  have a4 : G4 6 5 = i := by rw [e4, st_nq _ _ _ _ (by decide)]; exact a2
  rw [a4]
  refine ⟨by omega, fun G6 e6 => ?_⟩
  have a6 : G6 6 5 = i := by rw [e6, st_nq _ _ _ _ (by decide)]; exact a4
  have b6 : G6 11 1 = G 11 1 := by rw [e6, st_nq _ _ _ _ (by decide), e4, st_nq _ _ _ _ (by decide), e2, st_nq _ _ _ _ (by decide)]
  rw [a6, b6]
  have m1 := mul_bd hB hv
  have m2 := mul_bd hB hx
  have fin : ∀ z, z = (if G 11 1 * x < G 11 1 * v then 2 else 1) → Rn d M_X0_addSleeper zN 68 [(0, (2, 6))] [(0, z), (0, i), (2, 10)] G6 Q := by
    intro z hz
    refine s_X0_addSleeper_68 ⟨by omega, fun G8 e8 G9 e9 => ?_⟩
    have a8 : G8 6 5 = i := by rw [e8, st_nq _ _ _ _ (by decide)]; exact a6
    rw [a8] at e9
    refine h G9 ?_ ?_ ?_ ?_ ?_ (fun q k q1 q2 q3 q4 => ?_)
    · rw [e9, st_same]
    · rw [e9, st_nq _ _ _ _ (by decide), e8, st_nq _ _ _ _ (by decide), e6, st_nq _ _ _ _ (by decide), e4, st_nq _ _ _ _ (by decide), e2, st_same]
    · rw [e9, st_nq _ _ _ _ (by decide), e8, st_nq _ _ _ _ (by decide), e6, st_nk _ _ _ (by omega), e4, show i * 2 = 2 * i by omega, st_same]
    · rw [e9, st_nq _ _ _ _ (by decide), e8, st_nq _ _ _ _ (by decide), e6, show i * 2 + 1 = 2 * i + 1 by omega, st_same]
    · rw [e9, st_nq _ _ _ _ (by decide), e8, st_same, hz]
    · rw [e9, st_ne _ _ q1, e8, st_ne _ _ q4, e6, st_ne _ _ (by omega), e4, st_ne _ _ (by omega), e2, st_ne _ _ q2]
  exact ⟨by omega, by omega, fun y => fin 1 (by rw [if_neg (by omega)]), fun y => fin 2 (by rw [if_pos (by omega)])⟩
/-- all that a look finds -/
def HdT (G' S : Mem) (c : Int) (fs : Int → Law) (t : Int) (n : Nat) (p : Int) : Prop := HdP G' (slB S c t) (wkD S c fs t) (spD S c fs t 0) (spD S c fs t 1) (S (c + 5) 0) (S (c + 5) 1) (S (c + 5) 2) n p
theorem ahOk {t : Int} (hC : Cls S c) : AhOk (slB S c t) (wkD S c fs t) (spD S c fs t 0) (spD S c fs t 1) := by
  intro q hs
  obtain ⟨hq, h0, -⟩ := slB_tr.mp hs
  have o := hC.onw hq
  refine ⟨by omega, ?_, spiV_in (by omega), spiV_in (by omega)⟩
  have k := hC.sok h0 (by omega)
  have k5 := k.2.2.2.2.2.1
  unfold wkD wakV deepf
  have : 0 ≤ (S (c + 13 + S (c + 2) q) 5).tdiv 2 ∧ (S (c + 13 + S (c + 2) q) 5).tdiv 2 ≤ 9 := by rw [Int.tdiv_eq_ediv_of_nonneg k5.1]; omega
  repeat' split
  all_goals omega
theorem Cls.price (hC : Cls S c) {k : Int} (k0 : 0 ≤ k) (k4 : k < 4) : 0 ≤ S (c + 5) k ∧ S (c + 5) k ≤ 99 := hC.2.2.1.2.2.2.2.2.2.2.2.2 k k0 k4
theorem Cls.lk (hC : Cls S c) (hc : c = 37 ∨ c = 55) (h : LkF c S S') : Cls S' c := hC.qt hc (h.cl hc)
theorem Hd.mv {sl : Int → Bool} {wk s0 s1 cl : Int → Int} (e5 : G' 6 5 = G 6 5) (e : ∀ q k : Int, 7 ≤ q → q ≤ 10 → G' q k = G q k) : ∀ (n : Nat) (p i : Int), Hd G sl wk s0 s1 cl n p i → Hd G' sl wk s0 s1 cl n p i := by
  intro n
  induction n with
  | zero => intro p i h; show G' 6 5 = i; rw [e5]; exact h
  | succ n ih =>
    intro p i h
    unfold Hd at h ⊢
    by_cases hs : sl p = true
    · rw [if_pos hs] at h ⊢
      rw [e 7 _ (by omega) (by omega), e 8 _ (by omega) (by omega), e 9 _ (by omega) (by omega), e 9 _ (by omega) (by omega), e 10 _ (by omega) (by omega)]
      exact ⟨h.1, ih _ _ h.2⟩
    · rw [if_neg hs] at h ⊢
      exact ih _ _ h
theorem c_look {w t : Int} {r : Int} (hC : Cls G c) (h37 : c = 37 ∨ c = 55) (hw : 0 ≤ w ∧ w < G c 8) (ht : 0 ≤ t ∧ t ≤ 1000) (hL : LawsR G H c r fs) {n : Nat} (hn : (n : Int) = G c 6 - 1 - G (c + 13 + w) 1) (h : ∀ G', LkF c G G' → HdT G' G c fs t n (G (c + 13 + w) 1 + 1) → Q 0 G') : Ct (d + 3) M_X0_look NT 0 0 (some lay) [(2, 6), (2, c), (2, 73), (0, w), (0, t)] G Q := by
  have rr := hC.rng
  have so := (hC.sok hw.1 hw.2).2.1
  have se := hC.seat hw.1 hw.2
  have ok4 : CpOk 0 0 4 4 4 := by unfold CpOk; omega
  have pr := fun k (k0 : 0 ≤ k) (k4 : k < 4) => hC.price k0 k4
  have key : ∀ (m : Nat) (p i : Int) (G1 : Mem), LkF c G G1 → (∀ k, 0 ≤ k → k < 4 → G1 11 k = G (c + 5) k) → p + m = G c 6 → 0 ≤ p → 0 ≤ i → i + m ≤ 5 → G1 6 5 = i →
      (∀ G', LkF c G G' → (∀ k, 0 ≤ k → k < 4 → G' 11 k = G (c + 5) k) → (∀ q k : Int, 7 ≤ q → q ≤ 10 → k < (if q = 9 then 2 * i else i) → G' q k = G1 q k) → Hd G' (slB G c t) (wkD G c fs t) (spD G c fs t 0) (spD G c fs t 1) (clF (spD G c fs t 0) (spD G c fs t 1) (G (c + 5) 1)) m p i → Q 0 G') →
      Rn (d + 3) M_X0_look zN 36 [(0, (2, 6)), (1, (2, c)), (2, (2, 73)), (4, (0, t)), (5, (0, p))] [] G1 Q := by
    intro m
    induction m with
    | zero =>
      intro p i G1 hf h11 hp hp0 hi hm h6 hq
      have hC1 := hC.lk h37 hf
      have r1 := hC1.rng
      have e6 : G1 c 6 = G c 6 := hf _ _ (by omega) (by omega) (by omega)
      exact s_X0_look_36 hC.2.1 b8_73 ⟨by omega, by omega, fun _ => hq G1 hf h11 (fun _ _ _ _ _ => rfl) h6, fun x => absurd (by omega) x⟩
    | succ m ih =>
      intro p i G1 hf h11 hp hp0 hi hm h6 hq
      have hC1 := hC.lk h37 hf
      have r1 := hC1.rng
      have e6 : G1 c 6 = G c 6 := hf _ _ (by omega) (by omega) (by omega)
      have e8 : G1 c 8 = G c 8 := hf _ _ (by omega) (by omega) (by omega)
      have e2 : G1 (c + 2) p = G (c + 2) p := hf _ _ (by omega) (by omega) (by omega)
      have on := hC.onw (q := p) (by omega)
      have rd := hf.rd h37
      have slw := slB_rd (t := t) hC rd
      have no : ¬ slB G c t p = true → Rn (d + 3) M_X0_look zN 36 [(0, (2, 6)), (1, (2, c)), (2, (2, 73)), (4, (0, t)), (5, (0, p + 1))] [] G1 Q := by
        intro hs
        refine ih (p + 1) i G1 hf h11 (by omega) (by omega) hi (by omega) h6 (fun G' a b e f => hq G' a b e ?_)
        unfold Hd
        rw [if_neg hs]
        exact f
      refine s_X0_look_36 hC.2.1 b8_73 ⟨by omega, by omega, fun x => absurd x (by omega), fun _ => ⟨by omega, ?_⟩⟩
      rw [e2]
      refine ⟨by omega, fun x => no (fun y => by have := (slB_tr.mp y).2.1; omega), fun x => c_asl hC1 (by omega) ht (fun a => ⟨by omega, fun y => absurd y (by decide), fun _ => ?_⟩) (fun a => ⟨by omega, fun _ => no (fun y => a ((aslp_rd (by omega) rd).mpr (slB_tr.mp y).2.2)), fun y => absurd rfl y⟩)⟩
      have hs : slB G c t p = true := slB_tr.mpr ⟨by omega, by omega, (aslp_rd (by omega) rd).mp a⟩
      rw [h6]
      refine ⟨by omega, fun G12 e12 => ?_⟩
      have f12 : LkF c G G12 := hf.tr (fun q k a b e => by rw [e12, st_nq _ _ _ _ (by omega)])
      have hC12 := hC.lk h37 f12
      have q8 : G12 c 8 = G c 8 := f12 _ _ (by omega) (by omega) (by omega)
      refine c_X1_waking hC.2.1 b8_73 (by omega) (hC12.sok (i := G (c + 2) p) (by omega) (by omega)) (hL.extC (f12.cor h37)) (fun G13 f13 => ?_)
      have f13' : LkF c G G13 := f12.tr (fun q k a b _ => f13 q k a b)
      have hC13 := hC.lk h37 f13'
      have q8' : G13 c 8 = G c 8 := f13' _ _ (by omega) (by omega) (by omega)
      have v1 : wakV G12 c fs (G (c + 2) p) t (G12 (73 + 7) (G12 (c + 13 + G (c + 2) p) 1)) (G12 (73 + 4) (G (c + 2) p)) = wkD G c fs t p := by
        have x := wkD_rd (fs := fs) hC hs (f12.rd h37)
        unfold wkD at x
        rw [f12 (c + 2) p (by omega) (by omega) (by omega)] at x
        exact x
      rw [v1]
      refine c_X1_spilling hC.2.1 b8_73 (by omega) (hC13.sok (i := G (c + 2) p) (by omega) (by omega)) (hL.extC (f13'.cor h37)) (fun G15 f15 => ?_)
      have f15' : LkF c G G15 := f13'.tr (fun q k a b _ => f15 q k a b)
      have hC15 := hC.lk h37 f15'
      have q8'' : G15 c 8 = G c 8 := f15' _ _ (by omega) (by omega) (by omega)
      have v2 : spiV G13 c fs (G (c + 2) p) t 0 (G13 (73 + 7) (G13 (c + 13 + G (c + 2) p) 1)) (G13 (73 + 4) (G (c + 2) p)) = spD G c fs t 0 p := by
        have x := spD_rd (fs := fs) (sd := 0) hC hs (f13'.rd h37)
        unfold spD at x
        rw [f13' (c + 2) p (by omega) (by omega) (by omega)] at x
        exact x
      rw [v2]
      refine c_X1_spilling hC.2.1 b8_73 (by omega) (hC15.sok (i := G (c + 2) p) (by omega) (by omega)) (hL.extC (f15'.cor h37)) (fun G17 f17 => ?_)
      have f17' : LkF c G G17 := f15'.tr (fun q k a b _ => f17 q k a b)
      have v3 : spiV G15 c fs (G (c + 2) p) t 1 (G15 (73 + 7) (G15 (c + 13 + G (c + 2) p) 1)) (G15 (73 + 4) (G (c + 2) p)) = spD G c fs t 1 p := by
        have x := spD_rd (fs := fs) (sd := 1) hC hs (f15'.rd h37)
        unfold spD at x
        rw [f15' (c + 2) p (by omega) (by omega) (by omega)] at x
        exact x
      rw [v3]
      -- the cells of the look
      have o17 : ∀ q k : Int, 6 ≤ q → q ≤ 11 → ¬ (q = 7 ∧ k = i) → G17 q k = G1 q k := fun q k a b e => by
        rw [f17 q k (by omega) (by omega), f15 q k (by omega) (by omega), f13 q k (by omega) (by omega), e12, st_ne _ _ e]
      have i17 : G17 7 i = p := by rw [f17 _ _ (by omega) (by omega), f15 _ _ (by omega) (by omega), f13 _ _ (by omega) (by omega), e12, st_same]
      have ao := ahOk (fs := fs) (t := t) hC p hs
      have p1 := pr 1 (by omega) (by omega)
      have b1 : G17 11 1 = G (c + 5) 1 := by rw [o17 _ _ (by omega) (by omega) (by omega)]; exact h11 1 (by omega) (by omega)
      refine c_addSl (i := i) (by rw [o17 _ _ (by omega) (by omega) (by omega)]; exact h6) (by omega) ao.2.2.1 ao.2.2.2 (by omega) (fun G19 g1 g2 g3 g4 g5 g6 => ?_)
      have f19 : LkF c G G19 := f17'.tr (fun q k a b e => g6 q k (by omega) (by omega) (by omega) (by omega))
      refine ih (p + 1) (i + 1) G19 f19 (fun k k0 k4 => by rw [g6 _ _ (by omega) (by omega) (by omega) (by omega), o17 _ _ (by omega) (by omega) (by omega)]; exact h11 k k0 k4) (by omega) (by omega) (by omega) (by omega) g1 (fun G' a b e f => hq G' a b (fun q k q0 q1 q2 => ?_) ?_)
      · by_cases h9 : q = 9
        · subst h9
          simp only [if_true] at q2
          rw [e 9 k (by omega) (by omega) (by rw [if_pos rfl]; omega), g6 _ _ (by omega) (by omega) (by omega) (by omega), o17 _ _ (by omega) (by omega) (by omega)]
        · rw [if_neg h9] at q2
          rw [e q k q0 q1 (by rw [if_neg h9]; omega), g6 _ _ (by omega) (by omega) (by omega) (by omega), o17 _ _ (by omega) (by omega) (by omega)]
      · unfold Hd
        rw [if_pos hs]
        refine ⟨⟨?_, ?_, ?_, ?_, ?_⟩, f⟩
        · rw [e 7 i (by omega) (by omega) (by rw [if_neg (by decide)]; omega), g6 _ _ (by omega) (by omega) (by omega) (by omega)]; exact i17
        · rw [e 8 i (by omega) (by omega) (by rw [if_neg (by decide)]; omega)]; exact g2
        · rw [e 9 _ (by omega) (by omega) (by rw [if_pos rfl]; omega)]; exact g3
        · rw [e 9 _ (by omega) (by omega) (by rw [if_pos rfl]; omega)]; exact g4
        · rw [e 10 i (by omega) (by omega) (by rw [if_neg (by decide)]; omega), g5, b1]; rfl
  refine ctof (s_X0_look_0 hC.2.1 b8_73 (fun G1 e1 => ⟨ok4, fun G3 e3 => ⟨by omega, ?_⟩⟩))
  have f3 : LkF c G G3 := fun q k a b e => by rw [e3, cpy_nq _ _ _ _ _ _ (by omega), e1, st_nq _ _ _ _ (by omega)]
  rw [f3 (c + 13 + w) 1 (by omega) (by omega) (by omega)]
  refine key n (G (c + 13 + w) 1 + 1) 0 G3 f3 (fun k k0 k4 => ?_) (by omega) (by omega) (by omega) (by omega) ?_ (fun G' a b _ f => h G' a ⟨f, ⟨b 0 (by omega) (by omega), b 1 (by omega) (by omega), b 2 (by omega) (by omega)⟩, ahOk hC, pr 0 (by omega) (by omega), pr 1 (by omega) (by omega), pr 2 (by omega) (by omega), by omega, by omega⟩)
  · rw [e3, cpy0_in _ _ _ k0 k4, e1, st_nq _ _ _ _ (by omega)]
  · rw [e3, cpy_nq _ _ _ _ _ _ (by decide), e1, st_same]
end LOOK
