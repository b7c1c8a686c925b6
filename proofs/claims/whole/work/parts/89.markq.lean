section MARKQ
variable {d : Nat} {S S' G G' H : Mem} {Q : Int → Mem → Prop} {c : Int} {fs : Int → Law}
def LyX (b : Int) (G G' : Mem) : Prop := ∀ q k : Int, 313 ≤ q → q ≤ 329 → ¬ (q = 313 ∧ 12 * b ≤ k ∧ k < 12 * b + 12) → ¬ (315 ≤ q ∧ q ≤ 324 ∧ 5 * b ≤ k ∧ k < 5 * b + 5) → ¬ (325 ≤ q ∧ q ≤ 326 ∧ 8 * b ≤ k ∧ k < 8 * b + 8) → ¬ (327 ≤ q ∧ q ≤ 328 ∧ 3 * b ≤ k ∧ k < 3 * b + 3) → ¬ (q = 329 ∧ 1000 * b ≤ k ∧ k < 1000 * b + 1000) → G' q k = G q k
theorem LyX.rw {b r : Int} (h : LyX b G G') (hr : r ≠ b) : RwEq G G' r r :=
  ⟨fun k k0 k1 => h _ _ (by omega) (by omega) (by omega) (by omega) (by omega) (by omega) (by omega), fun q i q0 q1 i0 i1 => h _ _ (by omega) (by omega) (by omega) (by omega) (by omega) (by omega) (by omega), fun q i q0 q1 i0 i1 => h _ _ (by omega) (by omega) (by omega) (by omega) (by omega) (by omega) (by omega)⟩
theorem LyX.ln {b r : Int} (h : LyX b G G') (hr : r ≠ b) : LnEq G G' r r :=
  ⟨fun l l0 l3 => ⟨by rw [h 327 (3 * r + l) (by omega) (by omega) (by omega) (by omega) (by omega) (by omega) (by omega)]; omega, by rw [h 328 (3 * r + l) (by omega) (by omega) (by omega) (by omega) (by omega) (by omega) (by omega)]; omega⟩, fun k k0 k1 => h _ _ (by omega) (by omega) (by omega) (by omega) (by omega) (by omega) (by omega)⟩
theorem SlR.same {r b A o t : Int} (h : SlR S G fs c r b A o t) (e1 : ∀ q k : Int, c ≤ q → q < c + 18 → S' q k = S q k) (e2 : ∀ q k : Int, b ≤ q → q < b + 8 → S' q k = S q k) (e3 : ∀ q k : Int, t ≤ q → q < t + 5 → S' q k = S q k) (f1 : RwEq G G' r r) (f2 : LnEq G G' r r) (f3 : ∀ k, 0 ≤ k → k < 116 → G' A (o + k) = G A (o + k)) : SlR S' G' fs c r b A o t :=
  h.cp ⟨fun k _ _ => e1 _ _ (by omega) (by omega), fun i _ _ => ⟨e1 _ _ (by omega) (by omega), e1 _ _ (by omega) (by omega)⟩, fun i _ _ => e1 _ _ (by omega) (by omega), fun i _ _ => e1 _ _ (by omega) (by omega), fun i k _ _ _ _ => e1 _ _ (by omega) (by omega)⟩
    ⟨e1 _ _ (by omega) (by omega), fun j _ _ i _ _ => e1 _ _ (by omega) (by omega), fun i _ _ => e1 _ _ (by omega) (by omega)⟩ ⟨fun k _ _ => e2 _ _ (by omega) (by omega), fun j _ _ i _ _ => e2 _ _ (by omega) (by omega)⟩ (fun j k _ _ _ _ _ => e3 _ _ (by omega) (by omega)) f1 f2 f3
theorem mkB {m : Int} (h : 0 ≤ m ∧ m < 4) : Bs 1 (187 + 31 * m) ∧ Bs 8 (205 + 31 * m) ∧ Bs 9 (213 + 31 * m) := by
  have : ∀ i : Nat, i < 4 → Bs 1 (187 + 31 * (i : Int)) ∧ Bs 8 (205 + 31 * (i : Int)) ∧ Bs 9 (213 + 31 * (i : Int)) := by unfold Bs; decide +kernel
  have := this m.toNat (by omega)
  rwa [show ((m.toNat : Nat) : Int) = m by omega] at this
/-- the model's mark -/
def MkM (m b A : Int) (G G' : Mem) : Prop := LyX b G G' ∧ (∀ q k : Int, 311 ≤ q → ¬ (313 ≤ q ∧ q ≤ 329) → ¬ (q = A) → ¬ (q = 362 ∧ k = m) → ¬ (q = 311 ∧ (k = 0 ∨ k = 46)) → G' q k = G q k) ∧ G' 362 m = 1 ∧ ∀ q k : Int, q < 311 → G' q k = G q k
theorem c_markM {m b : Int} (im : InR m) (ib : InR b) (i3 : 0 ≤ m → m < 4 → InR (G 362 m)) (h0 : ¬ (0 ≤ m ∧ m < 4) ∨ (b ≠ 0 ∧ G 362 m = 0) → ∀ G2, ThF G G2 → Q 0 G2)
    (hl : 0 ≤ m → m < 4 → b = 0 → ∀ G2, RwEq G G2 0 (2 + m) → LnEq G G2 0 (2 + m) → (∀ k, 0 ≤ k → k < 116 → G2 343 (116 * m + k) = G 342 k) → (∀ k, ¬ (116 * m ≤ k ∧ k < 116 * m + 116) → G2 343 k = G 343 k) → G2 311 46 = G 311 46 → MkM m (2 + m) 343 G G2 → Q 1 G2)
    (hb : 0 ≤ m → m < 4 → b ≠ 0 → G 362 m ≠ 0 → ∀ G2, RwEq G G2 (2 + m) 0 → LnEq G G2 (2 + m) 0 → (∀ k, 0 ≤ k → k < 116 → G2 342 k = G 343 (116 * m + k)) → G2 311 46 = 0 → MkM m 0 342 G G2 → Q 1 G2) : Ct (d + 3) M_X12_mark NT 0 0 (some lay) [(2, 311), (0, m), (0, b)] G Q := by
  have a342 : Ar NT 342 0 116 := by unfold Ar; decide +kernel
  have a343 : Ar NT 343 0 464 := by unfold Ar; decide +kernel
  refine ctof (s_X12_mark_0 (fun G1 e1 => ?_))
  have f1 : ThF G G1 := by rw [e1]; exact ThF.st
  have g1 : ∀ q k : Int, ¬ (q = 311 ∧ k = 0) → G1 q k = G q k := fun q k z => f1 q k z
  have L29 : 0 ≤ m → m < 4 → (b = 0 ∨ G 362 m ≠ 0) → Rn (d + 3) M_X12_mark zN 29 [(0, (2, 311)), (1, (0, m)), (2, (0, b))] [] G1 Q := by
    intro m0 m4 hh
    refine s_X12_mark_29 ⟨by omega, fun G2 e2 => ⟨ib, fun x => ?_, fun x => ?_⟩⟩
    · refine c_lays (by omega) (by omega) (by omega) (fun G5 rw5 ln5 ly5 => c_copies a342 a343 (by decide) (by omega) (by omega) ?_)
      have u2 : ∀ q k : Int, ¬ (q = 311 ∧ k = 0) → ¬ (q = 362 ∧ k = m) → G2 q k = G q k := fun q k a b => by rw [e2, st_ne _ _ b]; exact g1 q k a
      have u5 : ∀ q k : Int, ¬ (313 ≤ q ∧ q ≤ 329) → G5 q k = G2 q k := fun q k a => ly5 q k (by omega) (by omega) (by omega) (by omega) (by omega)
      have u7 : ∀ q k : Int, q ≠ 343 → cpy G5 342 0 343 (116 * m) 116 q k = G5 q k := fun q k a => cpy_nq _ _ _ _ _ _ a
      have p27 : ∀ q k : Int, 313 ≤ q → q ≤ 329 → G2 q k = G q k := fun q k a b => u2 q k (by omega) (by omega)
      refine hl m0 m4 x _ ⟨fun k k0 k1 => ?_, fun q i q0 q1 i0 i1 => ?_, fun q i q0 q1 i0 i1 => ?_⟩ ⟨fun l l0 l3 => ?_, fun k k0 k1 => ?_⟩ (fun k k0 k1 => ?_) (fun k hk => ?_) ?_ ⟨fun q k q0 q1 n1 n2 n3 n4 n5 => ?_, fun q k q0 n1 n2 n3 n4 => ?_, ?_, fun q k hq => ?_⟩
      · rw [u7 _ _ (by omega), rw5.1 k k0 k1, p27 _ _ (by omega) (by omega)]
      · rw [u7 _ _ (by omega), rw5.2.1 q i q0 q1 i0 i1, p27 _ _ (by omega) (by omega)]
      · rw [u7 _ _ (by omega), rw5.2.2 q i q0 q1 i0 i1, p27 _ _ (by omega) (by omega)]
      · rw [u7 _ _ (by omega), u7 _ _ (by omega), (ln5.1 l l0 l3).1, (ln5.1 l l0 l3).2, p27 _ _ (by omega) (by omega), p27 _ _ (by omega) (by omega)]
        exact ⟨rfl, rfl⟩
      · rw [u7 _ _ (by omega), ln5.2 k k0 k1, p27 _ _ (by omega) (by omega)]
      · rw [cpy_in _ _ _ _ (by omega) (by omega), u5 _ _ (by omega), u2 _ _ (by omega) (by omega)]
        congr 1; omega
      · rw [cpy_out _ _ _ (by omega), u5 _ _ (by omega), u2 _ _ (by omega) (by omega)]
      · rw [u7 _ _ (by omega), u5 _ _ (by omega), u2 _ _ (by omega) (by omega)]
      · rw [u7 _ _ (by omega), ly5 q k n1 n2 n3 n4 n5, p27 _ _ (by omega) (by omega)]
      · rw [u7 _ _ (by omega), u5 _ _ (by omega), u2 _ _ (by omega) (by omega)]
      · rw [u7 _ _ (by omega), u5 _ _ (by omega), e2, st_same]
      · rw [u7 _ _ (by omega), u5 _ _ (by omega), u2 _ _ (by omega) (by omega)]
    · refine c_lays (by omega) (by omega) (by omega) (fun G5 rw5 ln5 ly5 => c_copies a343 a342 (by decide) (by omega) (by omega) (fun G7 e7 => ?_))
      have u2 : ∀ q k : Int, ¬ (q = 311 ∧ k = 0) → ¬ (q = 362 ∧ k = m) → G2 q k = G q k := fun q k a b => by rw [e2, st_ne _ _ b]; exact g1 q k a
      have u5 : ∀ q k : Int, ¬ (313 ≤ q ∧ q ≤ 329) → G5 q k = G2 q k := fun q k a => ly5 q k (by omega) (by omega) (by omega) (by omega) (by omega)
      have u7 : ∀ q k : Int, q ≠ 342 → ¬ (q = 311 ∧ k = 46) → G7 q k = G5 q k := fun q k a b => by rw [e7, st_ne _ _ b]; exact cpy_nq _ _ _ _ _ _ a
      have p27 : ∀ q k : Int, 313 ≤ q → q ≤ 329 → G2 q k = G q k := fun q k a b => u2 q k (by omega) (by omega)
      refine hb m0 m4 x (by omega) _ ⟨fun k k0 k1 => ?_, fun q i q0 q1 i0 i1 => ?_, fun q i q0 q1 i0 i1 => ?_⟩ ⟨fun l l0 l3 => ?_, fun k k0 k1 => ?_⟩ (fun k k0 k1 => ?_) ?_ ⟨fun q k q0 q1 n1 n2 n3 n4 n5 => ?_, fun q k q0 n1 n2 n3 n4 => ?_, ?_, fun q k hq => ?_⟩
      · rw [u7 _ _ (by omega) (by omega), rw5.1 k k0 k1, p27 _ _ (by omega) (by omega)]
      · rw [u7 _ _ (by omega) (by omega), rw5.2.1 q i q0 q1 i0 i1, p27 _ _ (by omega) (by omega)]
      · rw [u7 _ _ (by omega) (by omega), rw5.2.2 q i q0 q1 i0 i1, p27 _ _ (by omega) (by omega)]
      · rw [u7 _ _ (by omega) (by omega), u7 _ _ (by omega) (by omega), (ln5.1 l l0 l3).1, (ln5.1 l l0 l3).2, p27 _ _ (by omega) (by omega), p27 _ _ (by omega) (by omega)]
        exact ⟨rfl, rfl⟩
      · rw [u7 _ _ (by omega) (by omega), ln5.2 k k0 k1, p27 _ _ (by omega) (by omega)]
      · rw [e7, st_nq _ _ _ _ (by decide), cpy_in _ _ _ _ (by omega) (by omega), u5 _ _ (by omega), u2 _ _ (by omega) (by omega)]
        congr 1; omega
      · rw [e7, st_same]
      · rw [u7 _ _ (by omega) (by omega), ly5 q k n1 n2 n3 n4 n5, p27 _ _ (by omega) (by omega)]
      · rw [u7 _ _ (by omega) (by omega), u5 _ _ (by omega), u2 _ _ (by omega) (by omega)]
      · rw [u7 _ _ (by omega) (by omega), u5 _ _ (by omega), e2, st_same]
      · rw [u7 _ _ (by omega) (by omega), u5 _ _ (by omega), u2 _ _ (by omega) (by omega)]
  refine c_within im (by omega) (by omega) (fun q => ⟨by omega, fun x => absurd x (by decide), fun _ => ⟨ib, fun x => L29 q.1 (by omega) (Or.inl x), fun x => ⟨by omega, ?_⟩⟩⟩) (fun q => ⟨by omega, fun _ => h0 (Or.inl (by omega)) G1 f1, fun x => absurd rfl x⟩)
  have i4 := i3 q.1 (by omega)
  rw [g1 362 m (by omega)]
  exact ⟨i4, fun y => L29 q.1 (by omega) (Or.inr y), fun y => h0 (Or.inr ⟨x, by omega⟩) G1 f1⟩
theorem t_mark {m b : Int} (hI : Inv0 G G c fs) (hK : RkC G c fs) (im : InR m) (ib : InR b) : Ct (d + 3) M_X11_mark NT 0 0 (some lay) [(2, 0), (0, m), (0, b)] G (fun v G1 => Ct (d + 3) M_X12_mark NT 0 0 (some lay) [(2, 311), (0, m), (0, b)] G1 (OkX v)) := by
  have hC := hI.cls
  have h37 := hI.1.2.2.1
  have hc := hC.1
  have hS := hI.sl
  have i3 : 0 ≤ m → m < 4 → InR (G 362 m) := fun m0 m4 => by have := (hI.2.2.2.2.2.1.at m0 m4).2.1; omega
  have bad : (¬ (0 ≤ m ∧ m < 4) ∨ (b ≠ 0 ∧ G 362 m = 0)) → Ct (d + 3) M_X12_mark NT 0 0 (some lay) [(2, 311), (0, m), (0, b)] G (OkX 0) := fun hh => c_markM im ib i3 (fun _ G2 f2 => (hI.ok ClF.rfl' f2.ml).okx hI hK) (fun m0 m4 hb => absurd hh (by omega)) (fun m0 m4 hb hg => absurd hh (by omega))
  have L24 : 0 ≤ m → m < 4 → (b = 0 ∨ G 362 m ≠ 0) → Rn (d + 3) M_X11_mark zN 24 [(0, (2, 0)), (1, (0, m)), (2, (0, b))] [] G (fun v G1 => Ct (d + 3) M_X12_mark NT 0 0 (some lay) [(2, 311), (0, m), (0, b)] G1 (OkX v)) := by
    intro m0 m4 hh
    have mB := mkB ⟨m0, m4⟩
    have mk := hI.2.2.2.2.2.1.at m0 m4
    refine s_X11_mark_24 ⟨ib, fun x => ⟨by omega, fun bb hbb => ?_⟩, fun x bb hbb => ?_⟩
    · rw [hc] at hbb
      rw [hbb]
      have mm := hS.2.2.1.1
      refine ⟨hC.2.1, c_X1_take mB.1 hC.2.1 (by omega) mm (fun Ga ha => c_X8_take mB.2.1 b8_73 (by omega) (fun Gb hb => c_X9_take mB.2.2 b9_81 (by omega) (fun Gc hcc Gd ed => ?_)))⟩
      obtain ⟨q1, q2, q3, q4, q5⟩ := cls3 ha hb hcc (by omega) (by omega) (by omega) (by omega) (by omega) mm.2
      have q6 : ∀ q k : Int, ¬ (187 + 31 * m ≤ q ∧ q < 218 + 31 * m) → ¬ (q = 183 ∧ k = m) → Gd q k = G q k := fun q k a e => by rw [ed, st_ne _ _ e]; exact q5 q k (by omega) (by omega) (by omega)
      refine c_markM im ib (by rw [q6 362 m (by omega) (by omega)]; exact i3) (fun z => absurd z (by rw [q6 362 m (by omega) (by omega)]; omega)) (fun _ _ _ G2 rw2 ln2 s2 s3 u46 mk2 => ?_) (fun _ _ z => absurd x z)
      obtain ⟨ly, fr, u362, lo⟩ := mk2
      have cF : ∀ q k : Int, q < 311 → ¬ (187 + 31 * m ≤ q ∧ q < 218 + 31 * m) → ¬ (q = 183 ∧ k = m) → G2 q k = G q k := fun q k a e f => (lo q k a).trans (q6 q k e f)
      have mF : ∀ q k : Int, 311 ≤ q → Gd q k = G q k := fun q k a => q6 q k (by omega) (by omega)
      have cE : ∀ q k : Int, 187 + 31 * m ≤ q → q < 218 + 31 * m → G2 q k = Gc q k := fun q k a e => by rw [lo q k (by omega), ed, st_nq _ _ _ _ (by omega)]
      have lyG : LyX (2 + m) G G2 := fun q k q0 q1 n1 n2 n3 n4 n5 => (ly q k q0 q1 n1 n2 n3 n4 n5).trans (mF q k (by omega))
      have frG : ∀ q k : Int, 311 ≤ q → ¬ (313 ≤ q ∧ q ≤ 329) → q ≠ 343 → ¬ (q = 362 ∧ k = m) → ¬ (q = 311 ∧ (k = 0 ∨ k = 46)) → G2 q k = G q k := fun q k a n1 n2 n3 n4 => (fr q k a n1 n2 n3 n4).trans (mF q k a)
      have rwG : RwEq G G2 0 (2 + m) := ⟨fun k k0 k1 => (rw2.1 k k0 k1).trans (mF _ _ (by omega)), fun q i a e f g => (rw2.2.1 q i a e f g).trans (mF _ _ (by omega)), fun q i a e f g => (rw2.2.2 q i a e f g).trans (mF _ _ (by omega))⟩
      have lnG : LnEq G G2 0 (2 + m) := ⟨fun l l0 l3 => by rw [(ln2.1 l l0 l3).1, (ln2.1 l l0 l3).2, mF _ _ (by omega), mF _ _ (by omega)]; exact ⟨rfl, rfl⟩, fun k k0 k1 => (ln2.2 k k0 k1).trans (mF _ _ (by omega))⟩
      have new : SlR G2 G2 fs (187 + 31 * m) (2 + m) (205 + 31 * m) 343 (116 * m) (213 + 31 * m) := by
        refine hS.cp (S' := G2) (G' := G2) ?_ ?_ ?_ ?_ rwG lnG (fun k k0 k1 => by rw [s2 k k0 k1, mF _ _ (by omega), Int.zero_add])
        · exact ⟨fun k a e => (cE _ _ (by omega) (by omega)).trans (q1.1 k a e), fun i a e => ⟨(cE _ _ (by omega) (by omega)).trans (q1.2.1 i a e).1, (cE _ _ (by omega) (by omega)).trans (q1.2.1 i a e).2⟩, fun i a e => (cE _ _ (by omega) (by omega)).trans (q1.2.2.1 i a e), fun i a e => (cE _ _ (by omega) (by omega)).trans (q1.2.2.2.1 i a e), fun i k a e f g => (cE _ _ (by omega) (by omega)).trans (q1.2.2.2.2 i k a e f g)⟩
        · exact ⟨(cE _ _ (by omega) (by omega)).trans q2.1, fun j a e i f g => (cE _ _ (by omega) (by omega)).trans (q2.2.1 j a e i f g), fun i a e => (cE _ _ (by omega) (by omega)).trans (q2.2.2 i a e)⟩
        · exact ⟨fun k a e => (cE _ _ (by omega) (by omega)).trans (q3.1 k a e), fun j a e i f g => (cE _ _ (by omega) (by omega)).trans (q3.2 j a e i f g)⟩
        · exact fun j k a e f g h => (cE _ _ (by omega) (by omega)).trans (q4 j k a e f g h)
      have cur : SlR G2 G2 fs c 0 73 342 0 81 := hS.same (fun q k a e => cF q k (by omega) (by omega) (by omega)) (fun q k a e => cF q k (by omega) (by omega) (by omega)) (fun q k a e => cF q k (by omega) (by omega) (by omega)) (lyG.rw (by omega)) (lyG.ln (by omega)) (fun k k0 k1 => frG _ _ (by omega) (by omega) (by omega) (by omega) (by omega))
      have mkN : MkR G2 G2 := by
        intro i i0 i4
        obtain ⟨h1, h2, h3⟩ := hI.2.2.2.2.2.1.at i0 i4
        by_cases hi : i = m
        · subst hi
          refine ⟨?_, Or.inr u362, fun _ => ⟨fs, new⟩⟩
          rw [lo 183 i (by omega), ed, st_same, u362]
        · have a1 := frG 362 i (by omega) (by omega) (by omega) (by omega) (by omega)
          have a2 := cF 183 i (by omega) (by omega) (by omega)
          rw [a1, a2]
          refine ⟨h1, h2, fun z => ?_⟩
          obtain ⟨fi, hfi⟩ := h3 z
          exact ⟨fi, hfi.same (fun q k a e => cF q k (by omega) (by omega) (by omega)) (fun q k a e => cF q k (by omega) (by omega) (by omega)) (fun q k a e => cF q k (by omega) (by omega) (by omega)) (lyG.rw (by omega)) (lyG.ln (by omega)) (fun k k0 k1 => (s3 _ (by omega)).trans (mF _ _ (by omega)))⟩
      have rk : RkF c G G2 := ⟨fun q k a e f g => cF q k (by omega) (by omega) (by omega), cF _ _ (by omega) (by omega) (by omega), cF _ _ (by omega) (by omega) (by omega), fun k => cF _ _ (by omega) (by omega) (by omega)⟩
      refine ⟨rfl, c, fs, ⟨⟨?_, ?_, h37, ?_⟩, ⟨hC.2.1, cur.1, cur.2.2.2.1, cur.2.2.2.2.1, cur.2.1, cur.2.2.2.2.2.1⟩, cur.2.2.1, ?_, cur.2.2.2.2.2.2, mkN, ?_⟩, hK.ext hC.2.2.1 rk⟩
      · rw [cF _ _ (by omega) (by omega) (by omega)]; exact hI.1.1
      · rw [cF _ _ (by omega) (by omega) (by omega)]; exact hI.1.2.1
      · rw [cF _ _ (by omega) (by omega) (by omega)]; exact hI.1.2.2.2
      · refine hI.2.2.2.1.ext hC.2.2.1.2.2.1.2 (fun q k hq => cF q k (by omega) (by omega) (by omega)) (fun q k hq => ?_)
        rcases hq with hq | hq
        · exact frG q k (by omega) (by omega) (by omega) (by omega) (by omega)
        · rw [hq.1, hq.2, u46]; exact mF _ _ (by omega)
      · exact hI.2.2.2.2.2.2.ext (fun q k hq => cF q k (by omega) (by omega) (by omega)) (fun q k hq => frG q k (by omega) (by omega) (by omega) (by omega) (by omega))
    · rw [hc] at hbb
      rw [hbb]
      have g1 : G 362 m = 1 := by omega
      obtain ⟨fm, hM⟩ := mk.2.2 g1
      have hM : SlR G G fm (187 + 31 * m) (2 + m) (205 + 31 * m) 343 (116 * m) (213 + 31 * m) := hM
      have mm := hM.2.2.1.1
      refine ⟨hC.2.1, by omega, c_X1_take hC.2.1 mB.1 (by omega) mm (fun Ga ha => c_X8_take b8_73 mB.2.1 (by omega) (fun Gb hb => c_X9_take b9_81 mB.2.2 (by omega) (fun Gc hcc => ctof (s_X2_forget_0 (fun Gf ef => ctof (s_X11_forgetPast_0 (fun Gd ed => ?_)))))))⟩
      obtain ⟨q1, q2, q3, q4, q5⟩ := cls3 ha hb hcc (by omega) (by omega) (by omega) (by omega) (by omega) mm.2
      have q6 : ∀ q k : Int, ¬ (c ≤ q ∧ q < c + 18) → ¬ (73 ≤ q ∧ q < 86) → ¬ (q = 19 ∧ k = 10) → ¬ (q = 0 ∧ k = 16) → Gd q k = G q k := fun q k a e f g => by rw [ed, st_ne _ _ g, ef, st_ne _ _ f]; exact q5 q k (by omega) (by omega) (by omega)
      refine c_markM im ib (by rw [q6 362 m (by omega) (by omega) (by omega) (by omega)]; exact i3) (fun z => absurd z (by rw [q6 362 m (by omega) (by omega) (by omega) (by omega)]; omega)) (fun _ _ z => absurd z x) (fun _ _ _ _ G2 rw2 ln2 s2 u46 mk2 => ?_)
      obtain ⟨ly, fr, u362, lo⟩ := mk2
      have cF : ∀ q k : Int, q < 311 → ¬ (c ≤ q ∧ q < c + 18) → ¬ (73 ≤ q ∧ q < 86) → ¬ (q = 19 ∧ k = 10) → ¬ (q = 0 ∧ k = 16) → G2 q k = G q k := fun q k a e f g h => (lo q k a).trans (q6 q k e f g h)
      have mF : ∀ q k : Int, 311 ≤ q → Gd q k = G q k := fun q k a => q6 q k (by omega) (by omega) (by omega) (by omega)
      have cE : ∀ q k : Int, (c ≤ q ∧ q < c + 18) ∨ (73 ≤ q ∧ q < 86) → G2 q k = Gc q k := fun q k a => by rw [lo q k (by omega), ed, st_nq _ _ _ _ (by omega), ef, st_nq _ _ _ _ (by omega)]
      have lyG : LyX 0 G G2 := fun q k q0 q1 n1 n2 n3 n4 n5 => (ly q k q0 q1 n1 n2 n3 n4 n5).trans (mF q k (by omega))
      have frG : ∀ q k : Int, 311 ≤ q → ¬ (313 ≤ q ∧ q ≤ 329) → q ≠ 342 → ¬ (q = 362 ∧ k = m) → ¬ (q = 311 ∧ (k = 0 ∨ k = 46)) → G2 q k = G q k := fun q k a n1 n2 n3 n4 => (fr q k a n1 n2 n3 n4).trans (mF q k a)
      have rwG : RwEq G G2 (2 + m) 0 := ⟨fun k k0 k1 => (rw2.1 k k0 k1).trans (mF _ _ (by omega)), fun q i a e f g => (rw2.2.1 q i a e f g).trans (mF _ _ (by omega)), fun q i a e f g => (rw2.2.2 q i a e f g).trans (mF _ _ (by omega))⟩
      have lnG : LnEq G G2 (2 + m) 0 := ⟨fun l l0 l3 => by rw [(ln2.1 l l0 l3).1, (ln2.1 l l0 l3).2, mF _ _ (by omega), mF _ _ (by omega)]; exact ⟨rfl, rfl⟩, fun k k0 k1 => (ln2.2 k k0 k1).trans (mF _ _ (by omega))⟩
      have cur : SlR G2 G2 fm c 0 73 342 0 81 := by
        refine hM.cp (S' := G2) (G' := G2) ?_ ?_ ?_ ?_ rwG lnG (fun k k0 k1 => by rw [Int.zero_add, s2 k k0 k1, mF _ _ (by omega)])
        · exact ⟨fun k a e => (cE _ _ (by omega)).trans (q1.1 k a e), fun i a e => ⟨(cE _ _ (by omega)).trans (q1.2.1 i a e).1, (cE _ _ (by omega)).trans (q1.2.1 i a e).2⟩, fun i a e => (cE _ _ (by omega)).trans (q1.2.2.1 i a e), fun i a e => (cE _ _ (by omega)).trans (q1.2.2.2.1 i a e), fun i k a e f g => (cE _ _ (by omega)).trans (q1.2.2.2.2 i k a e f g)⟩
        · exact ⟨(cE _ _ (by omega)).trans q2.1, fun j a e i f g => (cE _ _ (by omega)).trans (q2.2.1 j a e i f g), fun i a e => (cE _ _ (by omega)).trans (q2.2.2 i a e)⟩
        · exact ⟨fun k a e => (cE _ _ (by omega)).trans (q3.1 k a e), fun j a e i f g => (cE _ _ (by omega)).trans (q3.2 j a e i f g)⟩
        · exact fun j k a e f g h => (cE _ _ (by omega)).trans (q4 j k a e f g h)
      have mkN : MkR G2 G2 := by
        intro i i0 i4
        obtain ⟨h1, h2, h3⟩ := hI.2.2.2.2.2.1.at i0 i4
        have a1 : G2 362 i = G 362 i := by
          by_cases hi : i = m
          · rw [hi, u362, g1]
          · exact frG 362 i (by omega) (by omega) (by omega) (by omega) (by omega)
        have a2 := cF 183 i (by omega) (by omega) (by omega) (by omega) (by omega)
        rw [a1, a2]
        refine ⟨h1, h2, fun z => ?_⟩
        obtain ⟨fi, hfi⟩ := h3 z
        have hfi : SlR G G fi (187 + 31 * i) (2 + i) (205 + 31 * i) 343 (116 * i) (213 + 31 * i) := hfi
        exact ⟨fi, hfi.same (fun q k a e => cF q k (by omega) (by omega) (by omega) (by omega) (by omega)) (fun q k a e => cF q k (by omega) (by omega) (by omega) (by omega) (by omega)) (fun q k a e => cF q k (by omega) (by omega) (by omega) (by omega) (by omega)) (lyG.rw (by omega)) (lyG.ln (by omega)) (fun k k0 k1 => frG _ _ (by omega) (by omega) (by omega) (by omega) (by omega))⟩
      have z16 : G2 0 16 = 0 := by rw [lo 0 16 (by omega), ed, st_same]
      have z10 : G2 19 10 = 0 := by rw [lo 19 10 (by omega), ed, st_nq _ _ _ _ (by omega), ef, st_same]
      have z15 := cF 0 15 (by omega) (by omega) (by omega) (by omega) (by omega)
      have u0 := hI.2.2.2.1.1
      refine ⟨rfl, c, fm, ⟨⟨?_, ?_, h37, ?_⟩, ⟨hC.2.1, cur.1, cur.2.2.2.1, cur.2.2.2.2.1, cur.2.1, cur.2.2.2.2.2.1⟩, cur.2.2.1, ⟨by omega, by omega, by omega, fun j j0 j1 => absurd j1 (by omega)⟩, cur.2.2.2.2.2.2, mkN, ?_⟩, Or.inl z10⟩
      · rw [cF _ _ (by omega) (by omega) (by omega) (by omega) (by omega)]; exact hI.1.1
      · rw [cF _ _ (by omega) (by omega) (by omega) (by omega) (by omega)]; exact hI.1.2.1
      · rw [cF _ _ (by omega) (by omega) (by omega) (by omega) (by omega)]; exact hI.1.2.2.2
      · exact hI.2.2.2.2.2.2.ext (fun q k hq => cF q k (by omega) (by omega) (by omega) (by omega) (by omega)) (fun q k hq => frG q k (by omega) (by omega) (by omega) (by omega) (by omega))
  refine ctof (s_X11_mark_0 ⟨im, fun x => bad (by omega), fun x => ⟨fun y => bad (by omega), fun y => ⟨ib, fun z => L24 (by omega) (by omega) (Or.inl z), fun z => ⟨by omega, ?_⟩⟩⟩⟩)
  have e := hI.2.2.2.2.2.1.at (i := m) (by omega) (by omega)
  have j := i3 (by omega) (by omega)
  rw [e.1]
  exact ⟨j, fun u => L24 (by omega) (by omega) (Or.inr u), fun u => bad (by omega)⟩
end MARKQ
