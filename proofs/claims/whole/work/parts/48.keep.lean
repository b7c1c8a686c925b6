section KEEP
variable {d : Nat} {S S' G G' H : Mem} {Q : Int → Mem → Prop} {c : Int} {fs : Int → Law}
theorem c_copies {p a q b : Int} {n0 n2 : Nat} (hp : Ar NT p 0 n0) (hq : Ar NT q 0 n2) (hne : p ≠ q) (ha : 0 ≤ a ∧ a + 116 ≤ n0) (hb : 0 ≤ b ∧ b + 116 ≤ n2) (h : Q 0 (cpy G p a q b 116)) : Ct d M_X12_copies NT 0 0 (some lay) [(2, p), (0, a), (2, q), (0, b)] G Q := by
  refine ctof (s_X12_copies_0 hp hq ?_)
  have key : ∀ (k i : Nat) (G1 : Mem), i + k = 116 → G1 = cpy G p a q b i → Rn d M_X12_copies zN 3 [(0, (2, p)), (1, (0, a)), (2, (2, q)), (3, (0, b)), (4, (0, (i : Int)))] [] G1 Q := by
    intro k
    induction k with
    | zero =>
      intro i G1 hi e
      refine s_X12_copies_3 hp hq ⟨by omega, fun _ => ?_, fun x => absurd (by omega) x⟩
      rw [e, show i = 116 by omega]; exact h
    | succ k ih =>
      intro i G1 hi e
      refine s_X12_copies_3 hp hq ⟨by omega, fun x => by omega, fun _ => ⟨by omega, by omega, fun G5 e5 => ih (i + 1) G5 (by omega) ?_⟩⟩
      rw [e5, e, cpy_nq _ _ _ _ _ _ hne]
      funext x y
      simp only [st, cpy]
      by_cases hx : x = q
      · by_cases hy : y = b + (i : Int)
        · rw [if_pos ⟨hx, hy⟩, if_pos ⟨hx, by omega, by omega⟩, show a + (y - b) = a + (i : Int) by omega]
        · rw [if_neg (fun z => hy z.2)]
          by_cases hz : b ≤ y ∧ y < b + (i : Int)
          · rw [if_pos ⟨hx, hz.1, hz.2⟩, if_pos ⟨hx, by omega, by omega⟩]
          · rw [if_neg (fun z => hz z.2), if_neg (fun z => hz ⟨z.2.1, by omega⟩)]
      · rw [if_neg (fun z => hx z.1), if_neg (fun z => hx z.1), if_neg (fun z => hx z.1)]
  refine key 116 0 G (by omega) ?_
  funext x y
  unfold cpy
  rw [if_neg (by omega)]
theorem pastB {i : Int} (h : 0 ≤ i ∧ i < 12) : Bs 8 (87 + 8 * i) := by
  have : ∀ i : Nat, i < 12 → Bs 8 (87 + 8 * (i : Int)) := by unfold Bs; decide +kernel
  have := this i.toNat (by omega)
  rwa [show ((i.toNat : Nat) : Int) = i by omega] at this
def KpR (G G' : Mem) : Prop := StEq G G' 73 (87 + 8 * G 0 15) ∧ G' 0 15 = (G 0 15 + 1) % 12 ∧ G' 0 16 = min (G 0 16 + 1) 12 ∧ ∀ q k : Int, ¬ (87 + 8 * G 0 15 ≤ q ∧ q < 87 + 8 * G 0 15 + 8) → ¬ (q = 0 ∧ (k = 15 ∨ k = 16)) → G' q k = G q k
theorem c_keepPast (hn : 0 ≤ G 0 15 ∧ G 0 15 < 12) (hm : 0 ≤ G 0 16 ∧ G 0 16 ≤ 12) (h : ∀ G', KpR G G' → Q 0 G') : Ct (d + 2) M_X11_keepPast NT 0 0 (some lay) [(2, 0)] G Q := by
  refine ctof (s_X11_keepPast_0 ⟨hn, c_X8_take (pastB hn) b8_73 (by omega) (fun G2 e2 => ?_)⟩)
  obtain ⟨x1, x2, x3⟩ := e2
  have a : G2 0 15 = G 0 15 := x3 _ _ (by omega)
  have b : G2 0 16 = G 0 16 := x3 _ _ (by omega)
  rw [a]
  refine ⟨by omega, fun G5 e5 => ?_⟩
  have b5 : G5 0 16 = G 0 16 := by rw [e5, st_nk _ _ _ (by omega)]; exact b
  rw [b5]
  refine ⟨by omega, fun G7 e7 => h G7 ⟨⟨fun k k0 k1 => ?_, fun j j0 j1 i i0 i1 => ?_⟩, ?_, ?_, fun q k hq hk => ?_⟩⟩
  · rw [e7, st_nq _ _ _ _ (by omega), e5, st_nq _ _ _ _ (by omega)]; exact x1 k k0 k1
  · rw [e7, st_nq _ _ _ _ (by omega), e5, st_nq _ _ _ _ (by omega)]; exact x2 j j0 j1 i i0 i1
  · rw [e7, st_nk _ _ _ (by omega), e5, st_same, Int.tmod_eq_emod_of_nonneg (by omega)]
  · rw [e7, st_same]
  · rw [e7, st_ne _ _ (by omega), e5, st_ne _ _ (by omega)]; exact x3 q k hq
def KmR (G G' : Mem) : Prop := G' 311 46 = min (G 311 46 + 1) 12 ∧ (∀ r k, 0 ≤ r → r < G' 311 46 - 1 → 0 ≤ k → k < 116 → G' 344 (116 * r + k) = G 344 (116 * (r + (if G 311 46 = 12 then 1 else 0)) + k)) ∧ (∀ k, 0 ≤ k → k < 116 → G' 344 (116 * (G' 311 46 - 1) + k) = G 342 k) ∧ ∀ q k : Int, q ≠ 344 → ¬ (q = 311 ∧ k = 46) → G' q k = G q k
theorem c_keeps (hm : 0 ≤ G 311 46 ∧ G 311 46 ≤ 12) (h : ∀ G', KmR G G' → Q 0 G') : Ct (d + 1) M_X12_keeps NT 0 0 (some lay) [(2, 311)] G Q := by
  have a342 : Ar NT 342 0 116 := by unfold Ar; decide +kernel
  have a344 : Ar NT 344 0 1392 := by unfold Ar; decide +kernel
  have L49 : ∀ G1 : Mem, 0 ≤ G1 311 46 → G1 311 46 ≤ 11 → G1 311 46 = min (G 311 46 + 1) 12 - 1 → (∀ r k, 0 ≤ r → r < G1 311 46 → 0 ≤ k → k < 116 → G1 344 (116 * r + k) = G 344 (116 * (r + (if G 311 46 = 12 then 1 else 0)) + k)) → (∀ q k : Int, q ≠ 344 → ¬ (q = 311 ∧ k = 46) → G1 q k = G q k) → Rn (d + 1) M_X12_keeps zN 49 [(0, (2, 311))] [] G1 Q := by
    intro G1 d0 d1 d2 h1 h2
    refine s_X12_keeps_49 (c_copies a342 a344 (by decide) (by omega) (by omega) (fun G3 e3 => ?_))
    have e : cpy G1 342 0 344 (116 * G1 311 46) 116 311 46 = G1 311 46 := cpy_nq _ _ _ _ _ _ (by decide)
    rw [e] at e3
    have d3 : G3 311 46 = G1 311 46 + 1 := by rw [e3, st_same]
    refine h G3 ⟨by omega, fun r k r0 r1 k0 k1 => ?_, fun k k0 k1 => ?_, fun q k hq hk => ?_⟩
    · rw [e3, st_nq _ _ _ _ (by omega), cpy_out _ _ _ (by omega)]
      exact h1 r k r0 (by omega) k0 k1
    · rw [d3, e3, st_nq _ _ _ _ (by omega), cpy_in _ _ _ _ (by omega) (by omega), h2 _ _ (by omega) (by omega)]
      congr 1
      omega
    · rw [e3, st_ne _ _ hk, cpy_nq _ _ _ _ _ _ hq]
      exact h2 q k hq hk
  refine ctof (s_X12_keeps_0 ⟨by omega, fun x => L49 G hm.1 (by omega) (by omega) (fun r k _ _ _ _ => by rw [if_neg x, Int.add_zero]) (fun _ _ _ _ => rfl), fun x => ?_⟩)
  have x := Decidable.not_not.mp x
  have key : ∀ (k i : Nat) (G1 : Mem), i + k = 1276 → G1 = upA G 344 i (fun j => G 344 (j + 116)) → Rn (d + 1) M_X12_keeps zN 11 [(0, (2, 311)), (1, (0, (i : Int)))] [] G1 Q := by
    intro k
    induction k with
    | zero =>
      intro i G1 hi e
      refine s_X12_keeps_11 ⟨by omega, fun _ G3 e3 => ?_, fun y => absurd (by omega) y⟩
      have e46 : G1 311 46 = 12 := by rw [e, upA_nq _ _ _ _ (by decide)]; exact x
      have d3 : G3 311 46 = 11 := by rw [e3, st_same, e46]; rfl
      refine L49 G3 (by omega) (by omega) (by omega) (fun r k r0 r1 k0 k1 => ?_) (fun q k hq hk => ?_)
      · rw [if_pos x, e3, st_nq _ _ _ _ (by omega), e, upA_in _ _ _ (by omega) (by omega)]
        congr 1
        omega
      · rw [e3, st_ne _ _ hk, e, upA_nq _ _ _ _ hq]
    | succ k ih =>
      intro i G1 hi e
      refine s_X12_keeps_11 ⟨by omega, fun y => by omega, fun _ => ⟨by omega, by omega, fun G6 e6 => ih (i + 1) G6 (by omega) ?_⟩⟩
      rw [e6, e, upA_out _ _ _ (by omega)]
      funext p y
      simp only [st, upA]
      by_cases hx : p = 344
      · by_cases hy : y = (i : Int)
        · rw [if_pos ⟨hx, hy⟩, if_pos ⟨hx, by omega, by omega⟩, hy]
        · rw [if_neg (fun z => hy z.2)]
          by_cases hz : 0 ≤ y ∧ y < (i : Int)
          · rw [if_pos ⟨hx, hz.1, hz.2⟩, if_pos ⟨hx, by omega, by omega⟩]
          · rw [if_neg (fun z => hz z.2), if_neg (fun z => hz ⟨z.2.1, by omega⟩)]
      · rw [if_neg (fun z => hx z.1), if_neg (fun z => hx z.1), if_neg (fun z => hx z.1)]
  refine key 1276 0 G (by omega) ?_
  funext p y
  unfold upA
  rw [if_neg (by omega)]
theorem UnR.keep (h : UnR S G c) (hb : Bs 1 c) (hs : StOk S 73) (ht : S 73 7 ≤ S c 7) (hn : S c 8 ≤ 5) (hw : StX S G 73 342 0 (S c 8)) (hk : KpR S S') (hm : KmR G G') : UnR S' G' c := by
  obtain ⟨h1, h2, h3, h4⟩ := h
  obtain ⟨k1, k2, k3, k4⟩ := hk
  obtain ⟨m1, m2, m3, m4⟩ := hm
  have ap : ¬ (87 + 8 * S 0 15 ≤ c ∧ c < 87 + 8 * S 0 15 + 8) := by
    have := st_cb_apart _ (pastB h1).st c hb.cb
    omega
  have c0 := cb_lt hb
  have e7 : S' c 7 = S c 7 := k4 _ _ ap (by omega)
  have e8 : S' c 8 = S c 8 := k4 _ _ ap (by omega)
  refine ⟨by omega, by omega, by omega, fun j j0 j1 => ?_⟩
  rw [e7, e8]
  by_cases hj : j = 0
  · subst hj
    rw [show (S' 0 15 - 1 - 0) % 12 = S 0 15 by omega]
    have a7 := k1.1 7 (by omega) (by omega)
    refine ⟨hs.cp k1, by rw [a7]; exact ht, hw.cp hn k1 ⟨fun k a b => ?_, fun k a b => ?_⟩⟩
    · rw [show S' 0 16 - 1 - 0 = G' 311 46 - 1 by omega, m3 k (by omega) (by omega), Int.zero_add]
    · rw [show S' 0 16 - 1 - 0 = G' 311 46 - 1 by omega, m3 k (by omega) (by omega), Int.zero_add]
  · obtain ⟨x1, x2, x3⟩ := h4 (j - 1) (by omega) (by omega)
    rw [show (S' 0 15 - 1 - j) % 12 = (S 0 15 - 1 - (j - 1)) % 12 by omega]
    have mne : (S 0 15 - 1 - (j - 1)) % 12 ≠ S 0 15 := by omega
    have mm : 0 ≤ (S 0 15 - 1 - (j - 1)) % 12 ∧ (S 0 15 - 1 - (j - 1)) % 12 < 12 := by omega
    generalize hmm : (S 0 15 - 1 - (j - 1)) % 12 = m at *
    have es : StEq S S' (87 + 8 * m) (87 + 8 * m) := ⟨fun k _ _ => k4 _ _ (by omega) (by omega), fun j _ _ i _ _ => k4 _ _ (by omega) (by omega)⟩
    refine ⟨x1.cp es, by rw [es.1 7 (by omega) (by omega)]; exact x2, x3.cp hn es ⟨fun k a b => ?_, fun k a b => ?_⟩⟩
    · rw [m2 (S' 0 16 - 1 - j) k (by omega) (by omega) (by omega) (by omega)]
      congr 1
      split <;> omega
    · rw [m2 (S' 0 16 - 1 - j) k (by omega) (by omega) (by omega) (by omega)]
      congr 1
      split <;> omega
/-- only the state, its ring and what a question may write have changed -/
def StF (c : Int) (S S' : Mem) : Prop := ∀ q k : Int, q < 311 → ¬ (q = c + 7 ∨ q = c + 12 ∨ (73 ≤ q ∧ q < 81) ∨ (87 ≤ q ∧ q < 183) ∨ (q = 0 ∧ (k = 15 ∨ k = 16))) → S' q k = S q k
def SmF (G G' : Mem) : Prop := ∀ q k : Int, 311 ≤ q → ¬ ((330 ≤ q ∧ q ≤ 341) ∨ (q = 342 ∧ (k < 35 ∨ 110 ≤ k)) ∨ q = 344 ∨ (q = 311 ∧ k ≠ 1)) → G' q k = G q k
theorem Inv0.state (hI : Inv0 S G c fs) (eS : StF c S S') (eG : SmF G G') (hC : Cu S' G' c) (hU : UnR S' G' c) : Inv0 S' G' c fs ∧ RkF c S S' := by
  obtain ⟨⟨a1, a2, a3, a4⟩, hC0, hL, hU0, hT, hM, hP⟩ := hI
  have cc : CorC c S S' := fun q k q0 q1 q7 q12 => eS q k (by omega) (by omega)
  refine ⟨⟨⟨by rw [eS 0 13 (by omega) (by omega)]; exact a1, by rw [eS 0 14 (by omega) (by omega)]; exact a2, a3, by rw [eS 19 11 (by omega) (by omega)]; exact a4⟩, hC, ?_, hU, ?_, ?_, ?_⟩, cc, eS _ _ (by omega) (by omega), eS _ _ (by omega) (by omega), fun k => eS _ _ (by omega) (by omega)⟩
  · refine LawsR.extC (S := S) ⟨hL.1, fun l l0 l3 => ?_⟩ cc
    have w := hL.2 l l0 l3
    unfold LawR at w ⊢
    have z : (fun k => G' 329 k) = fun k => G 329 k := funext fun k => eG _ _ (by omega) (by omega)
    rw [z, eG 327 _ (by omega) (by omega), eG 328 _ (by omega) (by omega)]
    exact w
  · exact hT.cp (fun j k _ _ _ _ _ => eS _ _ (by omega) (by omega)) (fun k _ _ => eG _ _ (by omega) (by omega))
  · exact hM.ext (fun q k _ _ => eS q k (by omega) (by omega)) (fun q k hq => eG q k (by omega) (by omega))
  · exact hP.ext (fun q k hq => eS q k (by omega) (by omega)) (fun q k hq => eG q k (by omega) (by omega))
end KEEP
