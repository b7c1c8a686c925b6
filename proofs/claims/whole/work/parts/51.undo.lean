section UNDO
variable {d : Nat} {S S' G G' H : Mem} {Q : Int → Mem → Prop} {c : Int} {fs : Int → Law}
def undM (G : Mem) (o i : Int) : Mem := fun q k => if q = 342 ∧ 0 ≤ k ∧ k < i ∧ (k < 35 ∨ 110 ≤ k) then G 344 (o + k) else G q k
theorem undM_nq {o i q k : Int} (h : q ≠ 342) : undM G o i q k = G q k := by
  unfold undM
  rw [if_neg (fun x => h x.1)]
theorem c_undo_M (hd : 0 < G 311 46 ∧ G 311 46 ≤ 12) (h : ∀ G4, G4 = st (st G 311 0 0) 311 46 (G 311 46 - 1) → Q 1 (undM G4 (116 * (G 311 46 - 1)) 116)) : Ct d M_X12_undo NT 0 0 (some lay) [(2, 311)] G Q := by
  refine ctof (s_X12_undo_0 (fun G1 e1 => ?_))
  have a : G1 311 46 = G 311 46 := by rw [e1, st_nk _ _ _ (by decide)]
  rw [a]
  refine ⟨by omega, fun _ G4 e4 => ?_, fun x => absurd (by omega) x⟩
  have h := h G4 (by rw [e4, e1])
  have b : G4 311 46 = G 311 46 - 1 := by rw [e4, st_same]
  have key : ∀ (k i : Nat) (G5 : Mem), i + k = 116 → G5 = undM G4 (116 * (G 311 46 - 1)) i → Rn d M_X12_undo zN 26 [(0, (2, 311)), (1, (0, (i : Int)))] [] G5 Q := by
    intro k
    induction k with
    | zero =>
      intro i G5 hi e
      refine s_X12_undo_26 ⟨by omega, fun _ => ?_, fun x => absurd (by omega) x⟩
      rw [e, show (i : Int) = 116 by omega]; exact h
    | succ k ih =>
      intro i G5 hi e
      have L44 : ((i : Int) < 35 ∨ 110 ≤ (i : Int)) → Rn d M_X12_undo zN 44 [(0, (2, 311)), (1, (0, (i : Int)))] [] G5 Q := by
        intro hk
        have b5 : G5 311 46 = G 311 46 - 1 := by rw [e, undM_nq (by decide)]; exact b
        refine s_X12_undo_44 ⟨by omega, by omega, fun G3 e3 => ih (i + 1) G3 (by omega) ?_⟩
        rw [b5] at e3
        rw [e3, e, undM_nq (by decide)]
        funext q y
        simp only [st, undM]
        by_cases hx : q = 342
        · by_cases hy : y = (i : Int)
          · rw [if_pos ⟨hx, hy⟩, if_pos ⟨hx, by omega, by omega, by omega⟩, hy]
          · rw [if_neg (fun z => hy z.2)]
            by_cases hz : 0 ≤ y ∧ y < (i : Int) ∧ (y < 35 ∨ 110 ≤ y)
            · rw [if_pos ⟨hx, hz⟩, if_pos ⟨hx, by omega, by omega, hz.2.2⟩]
            · rw [if_neg (fun z => hz z.2), if_neg (fun z => hz ⟨z.2.1, by omega, z.2.2.2⟩)]
        · rw [if_neg (fun z => hx z.1), if_neg (fun z => hx z.1), if_neg (fun z => hx z.1)]
      refine s_X12_undo_26 ⟨by omega, fun x => by omega, fun _ => ⟨fun x => L44 (Or.inl x), fun x => ⟨fun x2 => ih (i + 1) G5 (by omega) ?_, fun x2 => L44 (Or.inr (by omega))⟩⟩⟩
      rw [e]
      funext q y
      unfold undM
      by_cases hz : q = 342 ∧ 0 ≤ y ∧ y < (i : Int) ∧ (y < 35 ∨ 110 ≤ y)
      · rw [if_pos hz, if_pos ⟨hz.1, hz.2.1, by omega, hz.2.2.2⟩]
      · rw [if_neg hz, if_neg (fun z => hz ⟨z.1, z.2.1, by omega, z.2.2.2⟩)]
  refine key 116 0 G4 (by omega) ?_
  funext q y
  unfold undM
  rw [if_neg (by omega)]
theorem t_undo (hI : Inv0 G G c fs) : Ct (d + 2) M_X11_undo NT 0 0 (some lay) [(2, 0)] G (fun v G1 => Ct d M_X12_undo NT 0 0 (some lay) [(2, 311)] G1 (Ok2 c fs G v)) := by
  have hC := hI.cls
  have r := hC.rng
  have h37 := hI.1.2.2.1
  have hR := hI.2.1
  obtain ⟨u1, u2, u3, u4⟩ := hI.2.2.2.1
  refine ctof (s_X11_undo_0 ⟨by omega, fun x => ⟨by omega, fun G4 e4 G5 e5 => ?_⟩, fun x => ?_⟩)
  · have tm : Int.tmod (G 0 15 + 12 - 1) 12 = (G 0 15 - 1 - 0) % 12 := by rw [Int.tmod_eq_emod_of_nonneg (by omega)]; omega
    rw [tm] at e4
    have m0 : 0 ≤ (G 0 15 - 1 - 0) % 12 ∧ (G 0 15 - 1 - 0) % 12 < 12 := by omega
    have a4 : G4 0 16 = G 0 16 := by rw [e4, st_nk _ _ _ (by decide)]
    rw [a4] at e5
    have a15 : G5 0 15 = (G 0 15 - 1 - 0) % 12 := by rw [e5, st_nk _ _ _ (by decide), e4, st_same]
    have a16 : G5 0 16 = G 0 16 - 1 := by rw [e5, st_same]
    have o5 : ∀ q k : Int, ¬ (q = 0 ∧ (k = 15 ∨ k = 16)) → G5 q k = G q k := fun q k hq => by rw [e5, st_ne _ _ (by omega), e4, st_ne _ _ (by omega)]
    obtain ⟨w1, w2, w3⟩ := u4 0 (by omega) (by omega)
    rw [a15]
    generalize hm : (G 0 15 - 1 - 0) % 12 = m at *
    refine ⟨m0, c_X8_take b8_73 (pastB m0) (by omega) (fun G7 hT => ?_)⟩
    obtain ⟨t1, t2, t3⟩ := hT
    have o7 : ∀ q k : Int, ¬ (73 ≤ q ∧ q < 81) → G7 q k = G5 q k := fun q k hq => t3 q k (by omega)
    have es : StEq G G7 (87 + 8 * m) 73 := ⟨fun k k0 k1 => by rw [t1 k k0 k1, o5 _ _ (by omega)], fun j j0 j1 i i0 i1 => by rw [t2 j j0 j1 i i0 i1, o5 _ _ (by omega)]⟩
    have d7 : G7 311 46 = G 0 16 := by rw [o7 _ _ (by omega), o5 _ _ (by omega)]; exact u3
    refine c_undo_M (by omega) (fun H4 eh => ?_)
    rw [d7] at eh ⊢
    have h4 : ∀ q k : Int, ¬ (q = 311 ∧ (k = 0 ∨ k = 46)) → H4 q k = G7 q k := fun q k hq => by rw [eh, st_ne _ _ (by omega), st_ne _ _ (by omega)]
    generalize hG8 : undM H4 (116 * (G 0 16 - 1)) 116 = G8 at *
    have g8 : ∀ k, 0 ≤ k → k < 116 → (k < 35 ∨ 110 ≤ k) → G8 342 k = G 344 (116 * (G 0 16 - 1) + k) := fun k k0 k1 k2 => by
      rw [← hG8]
      unfold undM
      rw [if_pos ⟨rfl, k0, k1, k2⟩, h4 _ _ (by omega), o7 _ _ (by omega), o5 _ _ (by omega)]
    have g8n : ∀ q k : Int, q ≠ 342 → G8 q k = H4 q k := fun q k hq => by rw [← hG8, undM_nq hq]
    have g8k : ∀ k, 35 ≤ k → k < 110 → G8 342 k = G 342 k := fun k a b => by
      rw [← hG8]
      unfold undM
      rw [if_neg (by omega), h4 _ _ (by omega), o7 _ _ (by omega), o5 _ _ (by omega)]
    have g8m : ∀ q k : Int, 311 ≤ q → q ≠ 342 → ¬ (q = 311 ∧ (k = 0 ∨ k = 46)) → G8 q k = G q k := fun q k a b e => by rw [g8n q k b, h4 q k e, o7 _ _ (by omega), o5 _ _ (by omega)]
    have d8 : G8 311 46 = G 0 16 - 1 := by rw [g8n _ _ (by decide), eh, st_same]
    have ap := st_cb_apart 73 (by decide) c hC.2.1.cb
    have c0 := cb_lt hC.2.1
    have cc : CorC c G G7 := fun q k q0 q1 _ _ => by rw [o7 _ _ (by omega), o5 _ _ (by omega)]
    have hC7 : Cu G7 G8 c := by
      refine hR.st cc (w1.cp es) (by rw [es.1 7 (by omega) (by omega)]; exact w2) (fun q k hq => g8m q k (by omega) (by omega) (by omega)) (w3.cp r.2.2.1.2 es ⟨fun k a b => ?_, fun k a b => ?_⟩)
      · rw [Int.zero_add, g8 k (by omega) (by omega) (by omega), show G 0 16 - 1 - 0 = G 0 16 - 1 by omega]
      · rw [Int.zero_add, g8 k (by omega) (by omega) (by omega), show G 0 16 - 1 - 0 = G 0 16 - 1 by omega]
    have n15 : G7 0 15 = m := by rw [o7 _ _ (by omega)]; exact a15
    have n16 : G7 0 16 = G 0 16 - 1 := by rw [o7 _ _ (by omega)]; exact a16
    have hU7 : UnR G7 G8 c := by
      refine ⟨by omega, by omega, by omega, fun j j0 j1 => ?_⟩
      obtain ⟨y1, y2, y3⟩ := u4 (j + 1) (by omega) (by omega)
      rw [n15, n16, cc c 7 (by omega) (by omega) (by omega) (by omega), cc c 8 (by omega) (by omega) (by omega) (by omega)]
      rw [show (G 0 15 - 1 - (j + 1)) % 12 = (m - 1 - j) % 12 by omega] at y1 y2 y3
      rw [show G 0 16 - 1 - (j + 1) = G 0 16 - 1 - 1 - j by omega] at y3
      have p0 : 0 ≤ (m - 1 - j) % 12 ∧ (m - 1 - j) % 12 < 12 := by omega
      generalize hp : (m - 1 - j) % 12 = p at *
      have ep : StEq G G7 (87 + 8 * p) (87 + 8 * p) := ⟨fun k _ _ => by rw [o7 _ _ (by omega), o5 _ _ (by omega)], fun j _ _ i _ _ => by rw [o7 _ _ (by omega), o5 _ _ (by omega)]⟩
      exact ⟨y1.cp ep, by rw [ep.1 7 (by omega) (by omega)]; exact y2, y3.cp r.2.2.1.2 ep ⟨fun k a b => g8m _ _ (by omega) (by omega) (by omega), fun k a b => g8m _ _ (by omega) (by omega) (by omega)⟩⟩
    have fin := hI.state (S' := G7) (G' := G8) (fun q k a b => by rw [o7 _ _ (by omega), o5 _ _ (by omega)]) (fun q k a b => by
      by_cases e : q = 342
      · subst e; exact g8k k (by omega) (by omega)
      · exact g8m q k a e (by omega)) hC7 hU7
    have low : ∀ q k : Int, q < 311 → G8 q k = G7 q k := fun q k a => by rw [g8n q k (by omega), h4 q k (by omega)]
    exact ⟨rfl, fin.1.ext (fun q k a _ => low q k a) QtM.rfl', fin.2.tr (RkF.of h37 (fun q k a _ => low q k a))⟩
  · refine ctof (s_X12_undo_0 (fun G1 e1 => ?_))
    have f1 : ThF G G1 := by rw [e1]; exact ThF.st
    have a : G1 311 46 = G 0 16 := by rw [f1 _ _ (by omega)]; exact u3
    exact ⟨by omega, fun y => absurd (by omega) y, fun _ => hI.ok ClF.rfl' f1.ml⟩
end UNDO
