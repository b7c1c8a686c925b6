section FLY
variable {d : Nat} {S S' T T' G G' H : Mem} {Q : Int → Mem → Prop} {c : Int} {fs : Int → Law}
/-! the class's flights by habits -/
def HbF (c : Int) (G G' : Mem) : Prop := ∀ q k : Int, q ≠ c + 7 → q ≠ c + 12 → ¬ (q = 19 ∧ k = 12) → ¬ (20 ≤ q ∧ q ≤ 29) → G' q k = G q k
theorem HbF.rfl' : HbF c G G := fun _ _ _ _ _ _ => rfl
theorem HbF.tr {G2 : Mem} (h : HbF c G G') (h' : HbF c G' G2) : HbF c G G2 := fun q k a b e f => (h' q k a b e f).trans (h q k a b e f)
theorem HbF.cl (hc : c = 37 ∨ c = 55) (h : HbF c G G') : ClF c G G' := ⟨fun q k a b => h q k (by omega) (by omega) (by omega) (by omega), fun q k a => h q k (by omega) (by omega) (by omega) (by omega)⟩
theorem EvC.hb (h : EvC c G G') : HbF c G G' := fun q k a b _ _ => h q k a b
theorem HbF.put {q i v : Int} (h : 20 ≤ q ∧ q ≤ 29) : HbF c G (st G q i v) := fun a b _ _ _ hb => st_nq _ _ _ _ (by omega)
theorem HbF.put19 {v : Int} : HbF c G (st G 19 12 v) := fun a b _ _ hb _ => st_ne _ _ (by omega)
def HC (n q k : Int) : Prop := (q = 20 ∧ 7 ≤ k ∧ k ≤ 11) ∨ ((21 ≤ q ∧ q ≤ 29) ∧ 0 ≤ k ∧ k < 5) ∨ (q = 31 ∧ 0 ≤ k ∧ k < n) ∨ (q = 19 ∧ k = 11)
def HE (n : Int) (T G : Mem) : Prop := (∀ q k : Int, HC n q k → G q k = T q k) ∧ (T 19 11 = 1 → G 19 12 = T 19 12)
theorem HE.rf {n : Int} : HE n T T := ⟨fun _ _ _ => rfl, fun _ => rfl⟩
theorem HE.put {n q i v : Int} (hq : q ≠ 19) (h : HE n T G) : HE n (st T q i v) (st G q i v) := by
  refine ⟨fun a b hab => ?_, fun x => ?_⟩
  · unfold st
    split
    · rfl
    · exact h.1 a b hab
  · rw [st_nq _ _ _ _ (Ne.symm hq)] at x ⊢
    rw [st_nq _ _ _ _ (Ne.symm hq)]
    exact h.2 x
theorem HE.put12 {n v : Int} (h : HE n T G) : HE n (st T 19 12 v) (st G 19 12 v) := by
  refine ⟨fun a b hab => ?_, fun x => by rw [st_same, st_same]⟩
  unfold st
  split
  · rfl
  · exact h.1 a b hab
theorem HE.ev {n : Int} (hc : c = 37 ∨ c = 55) (h : HE n T G) (e : EvC c G G') : HE n T G' := ⟨fun q k a => by
  have a' := a
  unfold HC at a'
  rw [e q k (by omega) (by omega)]
  exact h.1 q k a, fun x => by rw [e 19 12 (by omega) (by omega)]; exact h.2 x⟩
theorem HE.c20 {n k : Int} (h : HE n T G) (hk : 7 ≤ k ∧ k ≤ 11) : G 20 k = T 20 k := h.1 _ _ (Or.inl ⟨rfl, hk⟩)
theorem HE.row {n q k : Int} (h : HE n T G) (hq : 21 ≤ q ∧ q ≤ 29) (hk : 0 ≤ k ∧ k < 5) : G q k = T q k := h.1 _ _ (Or.inr (Or.inl ⟨hq, hk⟩))
theorem HE.on {n k : Int} (h : HE n T G) (hk : 0 ≤ k ∧ k < n) : G 31 k = T 31 k := h.1 _ _ (Or.inr (Or.inr (Or.inl ⟨rfl, hk⟩)))
theorem HE.c11 {n : Int} (h : HE n T G) : G 19 11 = T 19 11 := h.1 _ _ (Or.inr (Or.inr (Or.inr ⟨rfl, rfl⟩)))
def HSx (S : Mem) (c : Int) (fs : Int → Law) (G : Mem) : Prop := Cls G c ∧ (∃ H, LawsR G H c 0 fs) ∧ CorC c S G ∧ (c = 37 ∨ c = 55)
theorem HSx.mv (h : HSx S c fs G) (f : HbF c G G') : HSx S c fs G' := by
  obtain ⟨hC, ⟨H, hL⟩, cc, h37⟩ := h
  have fc : CorC c G G' := fun q k a b e g => f q k e g (by omega) (by omega)
  exact ⟨hC.qt h37 (f.cl h37), ⟨H, hL.extC fc⟩, fun q k a b e g => (fc q k a b e g).trans (cc q k a b e g), h37⟩
theorem HSx.cab (h : HSx S c fs G) {q k : Int} (hq : c ≤ q ∧ q < c + 18 ∧ q ≠ c + 7 ∧ q ≠ c + 12) : G q k = S q k := h.2.2.1 q k hq.1 hq.2.1 hq.2.2.1 hq.2.2.2
theorem b8_20 : Bs 8 20 := by unfold Bs; decide +kernel
theorem andL31 {x : Int} (h0 : 0 ≤ x) (h1 : x < 9223372036854775808) : andL x 2147483647 = x % 2147483648 := by
  obtain ⟨n, rfl⟩ := Int.eq_ofNat_of_zero_le h0
  have e : Int64.ofInt (n : Int) &&& Int64.ofInt 2147483647 = Int64.ofInt ((n % 2147483648 : Nat) : Int) := by
    apply Int64.toBitVec.inj
    rw [Int64.toBitVec_and, Int64.toBitVec_ofInt, Int64.toBitVec_ofInt, Int64.toBitVec_ofInt]
    apply BitVec.eq_of_toNat_eq
    rw [BitVec.toNat_and, BitVec.ofInt_natCast, BitVec.ofInt_natCast]
    have z : (BitVec.ofInt 64 2147483647).toNat = 2 ^ 31 - 1 := by decide
    rw [z, BitVec.toNat_ofNat, BitVec.toNat_ofNat, Nat.and_two_pow_sub_one_eq_mod]
    omega
  unfold andL
  rw [e, Int64.toInt_ofInt_of_le (by omega) (by omega)]
  omega
theorem c_drawBelow (hg : 0 ≤ G 19 12 ∧ G 19 12 < 2147483648) (h : Q (dgn G / 65536 % 10) (st G 19 12 (dgn G))) : Ct d M_X2_drawBelow NT 0 0 (some lay) [(2, 19), (0, 10)] G Q := by
  have b := dgn_in (T := G)
  refine ctof (s_X2_drawBelow_0 ⟨by omega, fun G2 e2 => ?_⟩)
  rw [andL31 (by omega) (by omega)] at e2
  have v : G2 19 12 = dgn G := by rw [e2, st_same]; rfl
  rw [v, Int.tdiv_eq_ediv_of_nonneg b.1, Int.tmod_eq_emod_of_nonneg (by omega)]
  have e2 : G2 = st G 19 12 (dgn G) := e2
  rw [e2]
  exact ⟨by omega, by omega, by omega, h⟩
theorem c_asl20 {w : Int} (hS : HSx S c fs G) (hT : TOk S c T) (hE : HE (S c 6) T G) (hw : 0 ≤ w ∧ w < S c 8) (h1 : aslT S T c w → Q 1 G) (h0 : ¬ aslT S T c w → Q 0 G) : Ct d M_X8_asleep NT 0 0 (some lay) [(2, 20), (2, c), (0, w), (0, G 20 7)] G Q := by
  obtain ⟨hC, -, -, h37⟩ := id hS
  have e8 : G c 8 = S c 8 := HSx.cab hS (by omega)
  have r := hC.rng
  have so := hC.sok hw.1 (by omega)
  have s7 := so.2.2.2.2.2.2.2
  obtain ⟨⟨t7, tr⟩, -⟩ := hT
  have ro := tr w (by omega) (by omega)
  unfold RwOk at ro
  simp only [Int.reduceAdd] at ro
  have a1 : G 22 w = T 22 w := hE.row (by omega) (by omega)
  have a2 : G 23 w = T 23 w := hE.row (by omega) (by omega)
  have a3 : G 20 7 = T 20 7 := hE.c20 (by omega)
  have b7 : G (c + 13 + w) 7 = S (c + 13 + w) 7 := HSx.cab hS (by omega)
  have b8 : G (c + 13 + w) 8 = S (c + 13 + w) 8 := HSx.cab hS (by omega)
  have iff : aslp G 20 c w (G 20 7) ↔ aslT S T c w := by
    unfold aslp aslT
    simp only [Int.reduceAdd]
    rw [a1, a2, a3, b7, b8]
  exact c_X8_asleep b8_20 hC.2.1 (by omega) (show InR (G 22 _) by omega) (by omega) (by omega) (by omega) (show InR (G 20 7 - G 23 _) by omega) (fun x => h1 (iff.mp x)) (fun x => h0 (fun y => x (iff.mpr y)))
theorem HE.ask {n w l : Int} (h : HE n T G) (hw : 0 ≤ w ∧ w < 5) : HE n (askG T 20 w l) (askG G 20 w l) := by
  have e24 : G (20 + 4) w = T (20 + 4) w := h.row (by omega) hw
  have h2 := h.put (q := 20 + 4) (i := w) (v := T (20 + 4) w + 1) (by decide)
  unfold askG wakeG
  rw [e24]
  split
  · rw [h.c20 (by omega)]
    exact h2.put (by decide)
  · have n1 : ∀ (X : Mem) (v k : Int), st X (20 + 4) w v 20 k = X 20 k := fun X v k => st_nq _ _ _ _ (by decide)
    simp only [n1]
    rw [h.c20 (k := 7) (by omega), h.c20 (k := 8) (by omega)]
    exact (h2.put (by decide)).put (by decide)
theorem askF {w l : Int} : HbF c G (askG G 20 w l) := fun q k _ _ _ e => askG_fr (by omega)
theorem c_rouse {w : Int} (hS : HSx S c fs G) (hT : TOk S c T) (hE : HE (S c 6) T G) (hw : w = -1 ∨ (0 ≤ w ∧ w < S c 8)) (h : ∀ G2, HbF c G G2 → HE (S c 6) (rsM S c fs T w) G2 → Q (rsA S c fs T w) G2) : Ct (d + 3) M_X2_rouse NT 0 0 (some lay) [(2, 19), (2, c), (0, w)] G Q := by
  obtain ⟨hC, ⟨H, hL⟩, cc, h37⟩ := id hS
  have r := hC.rng
  have e8 : G c 8 = S c 8 := HSx.cab hS (by omega)
  have dI := hT.2.2.2.2
  have gI := hT.2.2.2.1
  refine ctof (s_X2_rouse_0 hC.2.1 ⟨by omega, fun x => ?_, fun x => ?_⟩)
  · have y : w = -1 ∨ ¬ aslT S T c w := Or.inl x
    unfold rsA at h
    rw [rsM_id y, if_pos y] at h
    exact h G HbF.rfl' hE
  have hw : 0 ≤ w ∧ w < S c 8 := by omega
  refine c_asl20 hS hT hE hw (fun a => ⟨by omega, fun _ => ?_, fun z => absurd (show (1 : Int) ≠ 0 by decide) z⟩) (fun a => ⟨by omega, fun z => absurd rfl z, fun _ => ?_⟩)
  · have y : ¬ (w = -1 ∨ ¬ aslT S T c w) := fun z => by rcases z with z | z; exact x z; exact z a
    unfold rsA at h
    unfold rsM at h
    rw [if_neg y, if_neg y] at h
    have d11 : G 19 11 = T 19 11 := hE.c11
    -- what is left when it's known whether he wakes
    have fin : ∀ (G2 : Mem) (v : Int), HbF c G G2 → HE (S c 6) (rsG T) G2 → v = rsW S c fs T w → Rn (d + 3) M_X2_rouse zN 63 [(0, (2, 19)), (2, (0, w))] [(0, v)] G2 Q := by
      intro G2 v f2 e2 hv
      have v01 := rsW_01 (S := S) (c := c) (fs := fs) (T := T) (w := w)
      refine s_X2_rouse_63 ⟨by omega, fun z => ?_, fun z => ⟨by omega, fun G4 e4 => ?_⟩⟩
      · have r0 : rsW S c fs T w = 0 := by omega
        rw [if_pos r0, r0] at h
        rw [z]
        exact s_X2_rouse_78 (c_X8_ask b8_20 (by omega) (Or.inl rfl) ⟨Or.inl rfl, h _ (f2.tr askF) (e2.ask (by omega))⟩)
      · have r1 : rsW S c fs T w = 1 := by omega
        have v1 : v = 1 := by omega
        rw [if_neg (by omega), r1] at h
        have r29 : G2 29 w = T 29 w := by
          rw [e2.row (by omega) (by omega)]
          unfold rsG
          split
          · rfl
          · exact st_nq _ _ _ _ (by decide)
        rw [r29] at e4
        rw [v1, e4]
        exact s_X2_rouse_78 (c_X8_ask b8_20 (by omega) (Or.inr rfl) ⟨Or.inr rfl, h _ ((f2.tr (HbF.put (by omega))).tr askF) ((e2.put (by decide)).ask (by omega))⟩)
    refine ⟨by omega, fun z => fin G 1 HbF.rfl' ?_ ?_, fun z => c_drawBelow (by rw [hE.2 (by omega)]; exact gI (by omega)) ?_⟩
    · unfold rsG; rw [if_pos (by omega)]; exact hE
    · unfold rsW; rw [if_pos (by omega)]
    · have eg : dgn G = dgn T := by unfold dgn; rw [hE.2 (by omega)]
      rw [eg]
      have f9 : HbF c G (st G 19 12 (dgn T)) := HbF.put19
      have hS9 := hS.mv f9
      have hE9 : HE (S c 6) (rsG T) (st G 19 12 (dgn T)) := by unfold rsG; rw [if_neg (by omega)]; exact hE.put12
      have so := hS9.1.sok (i := w) hw.1 (by rw [HSx.cab hS9 (by omega)]; exact hw.2)
      obtain ⟨H9, hL9⟩ := hS9.2.1
      refine c_X1_waking hC.2.1 b8_20 (by omega) so hL9 (fun G11 f11 => ?_)
      have wv : wakV (st G 19 12 (dgn T)) c fs w (st G 19 12 (dgn T) 20 7) (st G 19 12 (dgn T) (20 + 7) (st G 19 12 (dgn T) (c + 13 + w) 1)) (st G 19 12 (dgn T) (20 + 4) w) = wakV S c fs w (T 20 7) (T 27 (S (c + 13 + w) 1)) (T 24 w) := by
        rw [wakV_ext (by omega) hS9.2.2.1]
        have k1 := so.2.1
        rw [HSx.cab hS9 (by omega)] at k1
        have z1 : st G 19 12 (dgn T) (c + 13 + w) 1 = S (c + 13 + w) 1 := HSx.cab hS9 (by omega)
        have z2 : st G 19 12 (dgn T) 20 7 = T 20 7 := by rw [st_nq _ _ _ _ (by decide)]; exact hE.c20 (by omega)
        have z3 : st G 19 12 (dgn T) (20 + 7) (S (c + 13 + w) 1) = T 27 (S (c + 13 + w) 1) := by rw [st_nq _ _ _ _ (by decide)]; exact hE.row (by omega) k1
        have z4 : st G 19 12 (dgn T) (20 + 4) w = T 24 w := by rw [st_nq _ _ _ _ (by decide)]; exact hE.row (by omega) (by omega)
        rw [z1, z2, z3, z4]
      rw [wv]
      have wi : 0 ≤ wakV S c fs w (T 20 7) (T 27 (S (c + 13 + w) 1)) (T 24 w) ∧ wakV S c fs w (T 20 7) (T 27 (S (c + 13 + w) 1)) (T 24 w) ≤ 10 := by
        have k5 := so.2.2.2.2.2.1
        rw [HSx.cab hS9 (by omega)] at k5
        unfold wakV deepf
        have : 0 ≤ (S (c + 13 + w) 5).tdiv 2 ∧ (S (c + 13 + w) 5).tdiv 2 ≤ 9 := by rw [Int.tdiv_eq_ediv_of_nonneg k5.1]; omega
        repeat' split
        all_goals omega
      have dd := dgn_in (T := T)
      refine ⟨by omega, by omega, fun y2 => fin G11 0 (f9.tr f11.hb) (hE9.ev h37 f11) ?_, fun y2 => fin G11 1 (f9.tr f11.hb) (hE9.ev h37 f11) ?_⟩
      · unfold rsW; rw [if_neg (by omega), if_neg (by omega)]
      · unfold rsW; rw [if_neg (by omega), if_pos (by omega)]
  · have y : w = -1 ∨ ¬ aslT S T c w := Or.inr a
    unfold rsA at h
    rw [rsM_id y, if_pos y] at h
    exact h G HbF.rfl' hE
theorem c_comeBack {p : Int} (hS : HSx S c fs G) (hT : TOk S c T) (hE : HE (S c 6) T G) (hp : 0 ≤ p ∧ p < S c 6) (h : ∀ G2, HbF c G G2 → HE (S c 6) (cbT S c fs T p) G2 → Q 0 G2) : Ct (d + 4) M_X2_comeBack NT 0 0 (some lay) [(2, 19), (2, c), (0, p)] G Q := by
  obtain ⟨hC, -, cc, h37⟩ := id hS
  have r := hC.rng
  have e8 : G c 8 = S c 8 := HSx.cab hS (by omega)
  have e6 : G c 6 = S c 6 := HSx.cab hS (by omega)
  have on := hT.2.2.1 p hp.1 (by omega)
  have a31 : G 31 p = T 31 p := hE.on (by omega)
  have key : ∀ (n i : Nat) (T1 G1 : Mem), (i : Int) + n = S c 6 - 1 - p → HbF c G G1 → TOk S c T1 → (∀ s, T1 31 s = T 31 s) → HE (S c 6) T1 G1 → (0 ≤ T 31 p ∧ T 31 p < 5) → (∀ G2, HbF c G G2 → HE (S c 6) (if hgA S c fs (fun i => S c 6 - 1 - i) n i T1 = 0 then hgL S c fs (fun i => S c 6 - 1 - i) n i T1 else st (hgL S c fs (fun i => S c 6 - 1 - i) n i T1) 22 (T 31 p) 0) G2 → Q 0 G2) →
      Rn (d + 4) M_X2_comeBack zN 34 [(0, (2, 19)), (1, (2, c)), (2, (0, p)), (3, (0, T 31 p)), (4, (0, S c 6 - 1 - (i : Int)))] [] G1 Q := by
    intro n
    induction n with
    | zero =>
      intro i T1 G1 hi f1 ok1 o1 e1 hw hq
      unfold hgA hgL at hq
      rw [if_neg (by decide)] at hq
      exact s_X2_comeBack_34 hC.2.1 ⟨by omega, by omega, fun _ => ⟨hw, fun G5 e5 => hq G5 (by rw [e5]; exact f1.tr (HbF.put (by omega))) (by rw [e5]; exact e1.put (by decide))⟩, fun x => absurd (by omega) x⟩
    | succ n ih =>
      intro i T1 G1 hi f1 ok1 o1 e1 hw hq
      have on1 := ok1.2.2.1 (S c 6 - 1 - (i : Int)) (by omega) (by omega)
      unfold hgA hgL at hq
      refine s_X2_comeBack_34 hC.2.1 ⟨by omega, by omega, fun x => absurd x (by omega), fun _ => ⟨by omega, ?_⟩⟩
      rw [e1.on (by omega)]
      refine c_rouse (hS.mv f1) ok1 e1 on1 (fun G2 f2 e2 => ?_)
      have a := rsA_01 (S := S) (c := c) (fs := fs) (T := T1) (w := T1 31 (S c 6 - 1 - (i : Int)))
      refine ⟨by omega, fun x => ?_, fun x => ?_⟩
      · simp only [if_neg x] at hq
        obtain ⟨k1, -, k3, -, -⟩ := rsM_ok (fs := fs) (w := T1 31 (S c 6 - 1 - (i : Int))) ok1
        have y := ih (i + 1) _ G2 (by omega) (f1.tr f2) k1 (fun s => (k3 s).trans (o1 s)) e2 hw (by rw [show ((i + 1 : Nat) : Int) = (i : Int) + 1 by omega]; exact hq)
        rw [show S c 6 - 1 - ((i + 1 : Nat) : Int) = S c 6 - 1 - (i : Int) + (-1) by omega] at y
        exact y
      · simp only [if_pos (Decidable.not_not.mp x), if_true] at hq
        exact hq G2 (f1.tr f2) e2
  unfold cbT at h
  refine ctof (s_X2_comeBack_0 hC.2.1 ⟨by omega, ?_⟩)
  rw [a31]
  refine ⟨by omega, fun x => ?_, fun x => ⟨by omega, ?_⟩⟩
  · rw [if_pos (Or.inl x)] at h
    exact h G HbF.rfl' hE
  · rw [hE.row (by omega) (by omega)]
    have ro := hT.1.2 (T 31 p) (by omega) (by omega)
    unfold RwOk at ro
    simp only [Int.reduceAdd] at ro
    refine ⟨by omega, fun y => ?_, fun y => ?_⟩
    · rw [if_neg (fun z => by rcases z with z | z; exact x z; exact z y)] at h
      rw [e6]
      have z := key (S c 6 - 1 - p).toNat 0 T G (by omega) HbF.rfl' hT (fun _ => rfl) hE (by omega) h
      rw [show S c 6 - 1 - ((0 : Nat) : Int) = S c 6 - 1 by omega] at z
      exact z
    · rw [if_pos (Or.inr y)] at h
      exact h G HbF.rfl' hE
theorem outs_he (hE : HE (S c 6) T G) : ∀ n : Nat, n ≤ 5 → outsf G 20 n = outsf T 20 n := by
  intro n
  induction n with
  | zero => intro _; rfl
  | succ n ih =>
    intro hn
    unfold outsf
    have e : G (20 + 2) (n : Int) = T (20 + 2) (n : Int) := hE.row (by omega) (by omega)
    rw [ih (by omega), e]
theorem c_leave20 {w : Int} (hS : HSx S c fs G) (hT : TOk S c T) (hE : HE (S c 6) T G) (hw : 0 ≤ w ∧ w < 5) (h : ∀ G1, HbF c G G1 → HE (S c 6) (lvT S c fs T w) (st G1 28 w (T 28 w + 1)) → G1 28 w = T 28 w → Q 0 G1) : Ct (d + 3) M_X8_leave NT 0 0 (some lay) [(2, 20), (2, c), (0, w)] G Q := by
  obtain ⟨hC, ⟨H, hL⟩, cc, h37⟩ := id hS
  have r := hC.rng
  have e8 : G c 8 = S c 8 := HSx.cab hS (by omega)
  have rok := fun (i : Int) (i0 : 0 ≤ i) (i1 : i < 5) => by
    have ro := hT.1.2 i i0 i1
    unfold RwOk at ro
    simp only [Int.reduceAdd] at ro
    exact ro.2.1
  refine ctof (s_X8_leave_0 b8_20 hC.2.1 (c_X8_outside b8_20 hC.2.1 (n := (S c 8).toNat) (by omega) (by omega) (fun i i0 i5 => by have := rok i i0 i5; have e : G (20 + 2) i = T 22 i := hE.row (by omega) (by omega); rw [e]; omega) (c_X1_away hC.2.1 hL (fun G1 f1 => ⟨by omega, fun G6 e6 G7 e7 => ?_⟩))))
  rw [outs_he hE _ (by omega), hE.c20 (by omega), queV_ext cc] at e6
  have e6 : G6 = st G1 22 w (1 + queV S c fs (T 20 7) (outsf T 20 (S c 8).toNat)) := e6
  have e7 : G7 = st G6 21 w 0 := e7
  refine h G7 ?_ ?_ ?_
  · rw [e7, e6]
    exact (f1.hb.tr (HbF.put (by omega))).tr (HbF.put (by omega))
  · unfold lvT
    rw [e7, e6]
    exact (((hE.ev h37 f1).put (by decide)).put (by decide)).put (by decide)
  · rw [e7, st_nq _ _ _ _ (by decide), e6, st_nq _ _ _ _ (by decide)]
    exact (hE.ev h37 f1).row (by omega) (by omega)
theorem c_goOut {p : Int} (hS : HSx S c fs G) (hT : TOk S c T) (hE : HE (S c 6) T G) (hp : 0 ≤ p ∧ p < S c 6) (h : ∀ G2, HbF c G G2 → HE (S c 6) (goT S c fs T p) G2 → Q 0 G2) : Ct (d + 4) M_X2_goOut NT 0 0 (some lay) [(2, 19), (2, c), (0, p)] G Q := by
  obtain ⟨hC, -, cc, h37⟩ := id hS
  have r := hC.rng
  have e8 : G c 8 = S c 8 := HSx.cab hS (by omega)
  have e6 : G c 6 = S c 6 := HSx.cab hS (by omega)
  have on := hT.2.2.1 p hp.1 (by omega)
  have a31 : G 31 p = T 31 p := hE.on (by omega)
  have key : ∀ (n i : Nat) (T1 G1 : Mem), (i : Int) + n = S c 6 - 1 - p → HbF c G G1 → TOk S c T1 → (∀ s, T1 31 s = T 31 s) → HE (S c 6) T1 G1 → (0 ≤ T 31 p ∧ T 31 p < 5) → (∀ G2, HbF c G G2 → HE (S c 6) (if hgA S c fs (fun i => p + 1 + i) n i T1 = 0 then hgL S c fs (fun i => p + 1 + i) n i T1 else lvT S c fs (hgL S c fs (fun i => p + 1 + i) n i T1) (T 31 p)) G2 → Q 0 G2) →
      Rn (d + 4) M_X2_goOut zN 70 [(0, (2, 19)), (1, (2, c)), (3, (0, T 31 p)), (4, (0, p + 1 + (i : Int)))] [] G1 Q := by
    intro n
    induction n with
    | zero =>
      intro i T1 G1 hi f1 ok1 o1 e1 hw hq
      have g6 : G1 c 6 = S c 6 := HSx.cab (hS.mv f1) (by omega)
      unfold hgA hgL at hq
      rw [if_neg (by decide)] at hq
      refine s_X2_goOut_70 hC.2.1 ⟨by omega, by omega, fun _ => c_leave20 (hS.mv f1) ok1 e1 hw (fun G2 f2 e2 k2 => ⟨hw, fun G7 e7 => ?_⟩), fun x => absurd (by omega) x⟩
      rw [k2] at e7
      exact hq G7 (by rw [e7]; exact (f1.tr f2).tr (HbF.put (by omega))) (by rw [e7]; exact e2)
    | succ n ih =>
      intro i T1 G1 hi f1 ok1 o1 e1 hw hq
      have g6 : G1 c 6 = S c 6 := HSx.cab (hS.mv f1) (by omega)
      have on1 := ok1.2.2.1 (p + 1 + (i : Int)) (by omega) (by omega)
      unfold hgA hgL at hq
      refine s_X2_goOut_70 hC.2.1 ⟨by omega, by omega, fun x => absurd x (by omega), fun _ => ⟨by omega, ?_⟩⟩
      rw [e1.on (by omega)]
      refine c_rouse (hS.mv f1) ok1 e1 on1 (fun G2 f2 e2 => ?_)
      have a := rsA_01 (S := S) (c := c) (fs := fs) (T := T1) (w := T1 31 (p + 1 + (i : Int)))
      refine ⟨by omega, fun x => ?_, fun x => ?_⟩
      · simp only [if_neg x] at hq
        obtain ⟨k1, -, k3, -, -⟩ := rsM_ok (fs := fs) (w := T1 31 (p + 1 + (i : Int))) ok1
        have y := ih (i + 1) _ G2 (by omega) (f1.tr f2) k1 (fun s => (k3 s).trans (o1 s)) e2 hw (by rw [show ((i + 1 : Nat) : Int) = (i : Int) + 1 by omega]; exact hq)
        rw [show p + 1 + ((i + 1 : Nat) : Int) = p + 1 + (i : Int) + 1 by omega] at y
        exact y
      · simp only [if_pos (Decidable.not_not.mp x), if_true] at hq
        exact hq G2 (f1.tr f2) e2
  unfold goT at h
  refine ctof (s_X2_goOut_0 hC.2.1 ⟨by omega, ?_⟩)
  rw [a31]
  refine ⟨by omega, fun x => ?_, fun x => ⟨by omega, ?_⟩⟩
  · rw [if_pos (Or.inl x)] at h
    exact h G HbF.rfl' hE
  · have wn : 0 ≤ T 31 p ∧ T 31 p < S c 8 := by omega
    rw [hE.row (q := 22) (by omega) (by omega), hE.row (q := 21) (by omega) (by omega), HSx.cab hS (q := c + 13 + T 31 p) (by omega)]
    have ro := hT.1.2 (T 31 p) (by omega) (by omega)
    unfold RwOk at ro
    simp only [Int.reduceAdd] at ro
    have so := (hC.sok wn.1 (by omega)).2.2.2.2.1
    rw [HSx.cab hS (by omega)] at so
    refine ⟨by omega, fun y => ?_, fun y => ⟨by omega, by omega, fun y2 => ?_, fun y2 => c_asl20 hS hT hE wn (fun a => ⟨by omega, fun z => absurd z (by decide), fun _ => ?_⟩) (fun a => ⟨by omega, fun _ => ?_, fun z => absurd rfl z⟩)⟩⟩
    · rw [if_pos (Or.inr (Or.inl y))] at h
      exact h G HbF.rfl' hE
    · rw [if_pos (Or.inr (Or.inr (Or.inl y2)))] at h
      exact h G HbF.rfl' hE
    · rw [if_pos (Or.inr (Or.inr (Or.inr a)))] at h
      exact h G HbF.rfl' hE
    · rw [if_neg (fun z => by rcases z with z | z | z | z; exact x z; exact y z; exact y2 z; exact a z)] at h
      have z := key (S c 6 - 1 - p).toNat 0 T G (by omega) HbF.rfl' hT (fun _ => rfl) hE (by omega) h
      rw [show p + 1 + ((0 : Nat) : Int) = p + 1 by omega] at z
      exact z
end FLY
