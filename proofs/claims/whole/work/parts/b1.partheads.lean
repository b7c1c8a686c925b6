section PHEADS
variable {d : Nat} {M M' : Mem} {Q : Int → Mem → Prop} {t : Int → Int} {n b l : Int} {D : Mem} {w : Nat}
def OpO (w : Nat) (M : Mem) : Prop := ∀ i : Int, 1 ≤ i → i ≤ (w : Int) → M 330 i = 1 ∨ M 330 i = 2
theorem nxt_1 (hb : 0 ≤ b ∧ b ≤ n) (hk : tkd t n b ≠ 0) : b + 1 ≤ nxt t n b := by
  have ni := nxt_in (t := t) hb
  have : ¬ n ≤ b := fun y => hk (tkd_0.mpr y)
  have := ni.2.2 (by omega)
  omega
theorem b_lt (hk : tkd t n b ≠ 0) : b < n := by
  have : ¬ n ≤ b := fun y => hk (tkd_0.mpr y)
  omega
theorem isF_w {k : Int} (h : isF t n l b) (hk : k < 24) : ¬ isW t n k b := fun z => by have := allw_rng h.2; have := z.2; omega
/-- one that begins no part -/
theorem hd_bad (hO : TpO t n) (hm : MdX t n b M) (hl : M 311 29 = l) (hl3 : 0 ≤ l ∧ l < 3) (n3 : tkd t n b ≠ 3) (nf : ¬ isF t n l b) (nn : ¬ isW t n 21 b) (no : ¬ isS t n 40 b) (h : ∀ M', MdF M M' → M' 311 9 = 1 + 16 * b → Q 0 M') : HD d Q w 1 M := by
  have r := mkd_iff (tkd_r (t := t) (n := n) (b := b))
  have e6 := hm.2.2.2.2.1
  refine s_X12_reads_11 ⟨by decide, fun z => absurd z (by decide), fun _ => c_fact hm hl hl3 (fun z => absurd z nf) (fun _ => c_wdF 21 hm (by decide) (by decide) (by decide) nn (c_sgF hO hm (by decide) no ⟨by decide, fun z => absurd rfl z, fun _ => ⟨by decide, fun z => absurd rfl z, fun _ => ⟨by decide, fun z => absurd rfl z, fun _ => ⟨by omega, fun z => absurd z (by omega), fun _ => c_failsX hm (fun G2 f2 e2 => ⟨Or.inl rfl, h G2 f2 e2⟩)⟩⟩⟩⟩))⟩
/-- one that begins a part -/
theorem hd_65 (hO : TpO t n) (hm : MdX t n b M) (hl : M 311 29 = l) (hl3 : 0 ≤ l ∧ l < 3) (hp : tkd t n b = 3 ∨ isF t n l b ∨ isW t n 21 b ∨ isS t n 40 b) (h : ∀ f g o : Int, (tkd t n b = 3 → f = 0 ∧ g = 0 ∧ o = 0) → (isF t n l b → f = fcode (widx (twd t n b) - 24) ∧ g = 0 ∧ o = 0) → (isW t n 21 b → f = 0 ∧ g = 1 ∧ o = 0) → (isS t n 40 b → f = 0 ∧ g = 0 ∧ o = 1) → Rn (d + 2) M_X12_reads zN 65 [(0, (2, 311)), (1, (0, (w : Int))), (2, (0, 1)), (3, (0, f)), (4, (0, g)), (5, (0, o))] [] M Q) : HD d Q w 1 M := by
  have r := mkd_iff (tkd_r (t := t) (n := n) (b := b))
  have e6 := hm.2.2.2.2.1
  have fv : isF t n l b → 1 ≤ fcode (widx (twd t n b) - 24) ∧ fcode (widx (twd t n b) - 24) ≤ 8 := fun z => by
    have a := allw_rng z.2
    generalize widx (twd t n b) - 24 = j at *
    have : ∀ k : Nat, k < 8 → 1 ≤ fcode (k : Int) ∧ fcode (k : Int) ≤ 8 := by decide
    have := this j.toNat (by omega)
    rwa [show ((j.toNat : Nat) : Int) = j by omega] at this
  by_cases hf : isF t n l b
  · have a := fv hf
    have n21 := isF_w hf (show (21 : Int) < 24 by decide)
    have n40 : ¬ isS t n 40 b := fun z => by have := z.1; have := hf.1; omega
    refine s_X12_reads_11 ⟨by decide, fun z => absurd z (by decide), fun _ => c_fact hm hl hl3 (fun _ => c_wdF 21 hm (by decide) (by decide) (by decide) n21 (c_sgF hO hm (by decide) n40 ⟨by omega, fun _ => h _ _ _ (fun z => ?_) (fun _ => ⟨rfl, rfl, rfl⟩) (fun z => absurd z n21) (fun z => absurd z n40), fun z => absurd (by omega) z⟩)) (fun z => absurd hf z)⟩
    have := hf.1; omega
  · by_cases hn : isW t n 21 b
    · have n40 : ¬ isS t n 40 b := isW_ns hn
      refine s_X12_reads_11 ⟨by decide, fun z => absurd z (by decide), fun _ => c_fact hm hl hl3 (fun z => absurd z hf) (fun _ => c_wdT 21 hm (by decide) (by decide) (by decide) hn (c_sgF hO hm (by decide) n40 ⟨by decide, fun z => absurd rfl z, fun _ => ⟨by decide, fun _ => h _ _ _ (fun z => ?_) (fun z => absurd z hf) (fun _ => ⟨rfl, rfl, rfl⟩) (fun z => absurd z n40), fun z => absurd (by decide) z⟩⟩))⟩
      have := hn.1; omega
    · by_cases ho : isS t n 40 b
      · refine s_X12_reads_11 ⟨by decide, fun z => absurd z (by decide), fun _ => c_fact hm hl hl3 (fun z => absurd z hf) (fun _ => c_wdF 21 hm (by decide) (by decide) (by decide) hn (c_sgT hO hm (by decide) ho ⟨by decide, fun z => absurd rfl z, fun _ => ⟨by decide, fun z => absurd rfl z, fun _ => ⟨by decide, fun _ => h _ _ _ (fun z => ?_) (fun z => absurd z hf) (fun z => absurd z hn) (fun _ => ⟨rfl, rfl, rfl⟩), fun z => absurd (by decide) z⟩⟩⟩))⟩
        have := ho.1; omega
      · have k3 : tkd t n b = 3 := by
          rcases hp with z | z | z | z
          · exact z
          · exact absurd z hf
          · exact absurd z hn
          · exact absurd z ho
        refine s_X12_reads_11 ⟨by decide, fun z => absurd z (by decide), fun _ => c_fact hm hl hl3 (fun z => absurd z hf) (fun _ => c_wdF 21 hm (by decide) (by decide) (by decide) hn (c_sgF hO hm (by decide) ho ⟨by decide, fun z => absurd rfl z, fun _ => ⟨by decide, fun z => absurd rfl z, fun _ => ⟨by decide, fun z => absurd rfl z, fun _ => ⟨by omega, fun _ => h _ _ _ (fun _ => ⟨rfl, rfl, rfl⟩) (fun z => absurd z hf) (fun z => absurd z hn) (fun z => absurd z ho), fun z => absurd (by omega) z⟩⟩⟩⟩))⟩
/-- too deep -/
theorem hd_deep (hO : TpO t n) (hm : MdX t n b M) (hl : M 311 29 = l) (hl3 : 0 ≤ l ∧ l < 3) (hp : tkd t n b = 3 ∨ isF t n l b ∨ isW t n 21 b ∨ isS t n 40 b) (hw : w = 5) (h : ∀ M', MdF M M' → M' 311 9 = 5 + 16 * b → Q 0 M') : HD d Q w 1 M :=
  hd_65 hO hm hl hl3 hp (fun f g o _ _ _ _ => s_X12_reads_65 ⟨by omega, fun z => absurd (by omega) z, fun _ => c_failsX hm (fun G2 f2 e2 => ⟨Or.inl rfl, h G2 f2 e2⟩)⟩)
theorem hd_147 {v : Int} (hO : TpO t n) (hE : EI t n l b D M) (hk : tkd t n b ≠ 0) (ho : OpO w M) (hw : w ≤ 5) (h : ∀ M', MdX t n (nxt t n b) M' → GR (w : Int) (M 311 27) (D 6 6) [v] [] b D M (nxt t n b) D M' → M' 331 (w : Int) = M 331 (w : Int) → HD d Q (dpN (M 330) w) 0 M') : Rn (d + 2) M_X12_reads zN 147 [(0, (2, 311)), (1, (0, (w : Int)))] [(0, v), (2, 311)] M Q := by
  obtain ⟨hm, hl, hcd, -⟩ := hE
  have o := hO.1
  have b0 := hm.2.1
  obtain ⟨p1, p2, p3⟩ := put1_fr (M := M) v
  have e330 : put1 M v 330 = M 330 := funext fun k => p1 _ _ (by decide) (by omega)
  have m3 : MdX t n b (put1 M v) := hm.fr (fun j j0 j1 => p1 _ _ (by omega) (by omega)) (fun j => p1 _ _ (by omega) (by omega))
  refine s_X12_reads_147 (c_puts (by omega) (pop152 w hw (fun i i0 i1 => by rw [e330]; exact ho i i0 i1) ?_))
  rw [e330]
  refine s_X12_reads_172 (c_nextX hO m3 (fun M4 f4 m4 => h M4 m4 (GR.put (nxt_1 b0 hk) (by have := b_lt hk; omega) (fun q j a e f g => f4 _ _ (by omega)) ?_ ?_) ?_))
  · rw [f4 _ _ (by omega), p2]
  · rw [f4 _ _ (by omega), p3]
  · rw [f4 _ _ (by omega), p1 _ _ (by decide) (by omega)]
theorem hd_num (hO : TpO t n) (hE : EI t n l b D M) (hl3 : 0 ≤ l ∧ l < 3) (k3 : tkd t n b = 3) (ho : OpO w M) (hw : w < 5) (h : ∀ M', MdX t n (nxt t n b) M' → GR (w : Int) (M 311 27) (D 6 6) [100 + tnm t n b] [] b D M (nxt t n b) D M' → M' 331 (w : Int) = M 331 (w : Int) → HD d Q (dpN (M 330) w) 0 M') : HD d Q w 1 M := by
  refine hd_65 hO hE.1 hE.2.1 hl3 (Or.inl k3) (fun f g o h1 _ _ _ => ?_)
  obtain ⟨rfl, rfl, rfl⟩ := h1 k3
  refine s_X12_reads_65 ⟨by omega, fun _ => ⟨by decide, fun z => absurd rfl z, fun _ => ⟨by decide, fun _ => ⟨by decide, fun _ => ?_, fun z => absurd (by decide) z⟩, fun z => absurd rfl z⟩⟩, fun z => absurd (by omega) z⟩
  rw [hE.1.2.2.2.2.2.2 k3]
  exact hd_147 hO hE (by omega) ho (by omega) h
theorem hd_fac (hO : TpO t n) (hE : EI t n l b D M) (hl3 : 0 ≤ l ∧ l < 3) (hf : isF t n l b) (ho : OpO w M) (hw : w < 5) (h : ∀ M', MdX t n (nxt t n b) M' → GR (w : Int) (M 311 27) (D 6 6) [fcode (widx (twd t n b) - 24)] [] b D M (nxt t n b) D M' → M' 331 (w : Int) = M 331 (w : Int) → HD d Q (dpN (M 330) w) 0 M') : HD d Q w 1 M := by
  have fv : 1 ≤ fcode (widx (twd t n b) - 24) ∧ fcode (widx (twd t n b) - 24) ≤ 8 := by
    have a := allw_rng hf.2
    generalize widx (twd t n b) - 24 = j at *
    have : ∀ k : Nat, k < 8 → 1 ≤ fcode (k : Int) ∧ fcode (k : Int) ≤ 8 := by decide
    have := this j.toNat (by omega)
    rwa [show ((j.toNat : Nat) : Int) = j by omega] at this
  refine hd_65 hO hE.1 hE.2.1 hl3 (Or.inr (Or.inl hf)) (fun f g o _ h1 _ _ => ?_)
  obtain ⟨ef, rfl, rfl⟩ := h1 hf
  refine s_X12_reads_65 ⟨by omega, fun _ => ⟨by decide, fun z => absurd rfl z, fun _ => ⟨by decide, fun _ => ⟨by omega, fun z => absurd z (by omega), fun _ => ?_⟩, fun z => absurd rfl z⟩⟩, fun z => absurd (by omega) z⟩
  rw [ef]
  exact hd_147 hO hE (by have := hf.1; omega) ho (by omega) h
theorem hd_99 {v o y : Int} (hO : TpO t n) (hE : EI t n l b D M) (hk : tkd t n b ≠ 0) (hw : w < 5) (hy : (y = 0 ∧ o = 2) ∨ (y = 1 ∧ o = 1)) (h : ∀ M', MdX t n (nxt t n b) M' → GR (w : Int) (M 311 27) (D 6 6) [v] [] b D M (nxt t n b) D M' → M' 330 ((w : Int) + 1) = o → M' 331 ((w : Int) + 1) = 0 → M' 331 (w : Int) = M 331 (w : Int) → HD d Q (w + 1) 1 M') : Rn (d + 2) M_X12_reads zN 99 [(0, (2, 311)), (1, (0, (w : Int))), (2, (0, 1)), (4, (0, y))] [(0, v), (2, 311)] M Q := by
  obtain ⟨hm, hl, hcd, -⟩ := hE
  have oo := hO.1
  have b0 := hm.2.1
  obtain ⟨p1, p2, p3⟩ := put1_fr (M := M) v
  have T : Rn (d + 2) M_X12_reads zN 120 [(0, (2, 311)), (1, (0, ((w : Int) + 1))), (2, (0, 1))] [(0, o), (0, ((w : Int) + 1)), (2, 330)] (put1 M v) Q := by
    refine s_X12_reads_120 ⟨by omega, fun G2 e2 => ⟨by omega, fun G4 e4 => ?_⟩⟩
    have f4 : ∀ q k : Int, ¬ (q = 330 ∧ k = (w : Int) + 1) → ¬ (q = 331 ∧ k = (w : Int) + 1) → G4 q k = put1 M v q k := fun q k a e => by rw [e4, st_ne _ _ e, e2, st_ne _ _ a]
    have m4 : MdX t n b G4 := hm.fr (fun j j0 j1 => by rw [f4 _ _ (by omega) (by omega), p1 _ _ (by omega) (by omega)]) (fun j => by rw [f4 _ _ (by omega) (by omega), p1 _ _ (by omega) (by omega)])
    refine s_X12_reads_172 (c_nextX hO m4 (fun M4 g4 m4 => ?_))
    have z := h M4 m4 (GR.put (nxt_1 b0 hk) (by have := b_lt hk; omega) (fun q j a e f g => by rw [g4 _ _ (by omega), f4 _ _ (by omega) (by omega)]) (by rw [g4 _ _ (by omega), f4 _ _ (by omega) (by omega), p2]) (by rw [g4 _ _ (by omega), f4 _ _ (by omega) (by omega), p3])) (by rw [g4 _ _ (by omega), e4, st_nq _ _ _ _ (by decide), e2, st_same]) (by rw [g4 _ _ (by omega), e4, st_same]) (by rw [g4 _ _ (by omega), f4 _ _ (by omega) (by omega), p1 _ _ (by decide) (by omega)])
    unfold HD at z
    rwa [show ((w + 1 : Nat) : Int) = (w : Int) + 1 by omega] at z
  refine s_X12_reads_99 (c_puts (by omega) ⟨by omega, fun z => ?_, fun z => ?_⟩)
  · rcases hy with ⟨-, rfl⟩ | ⟨hy, -⟩
    · exact T
    · omega
  · rcases hy with ⟨hy, -⟩ | ⟨-, rfl⟩
    · omega
    · exact T
theorem hd_not (hO : TpO t n) (hE : EI t n l b D M) (hl3 : 0 ≤ l ∧ l < 3) (hs : isW t n 21 b) (hw : w < 5) (h : ∀ M', MdX t n (nxt t n b) M' → GR (w : Int) (M 311 27) (D 6 6) [30] [] b D M (nxt t n b) D M' → M' 330 ((w : Int) + 1) = 1 → M' 331 ((w : Int) + 1) = 0 → M' 331 (w : Int) = M 331 (w : Int) → HD d Q (w + 1) 1 M') : HD d Q w 1 M := by
  refine hd_65 hO hE.1 hE.2.1 hl3 (Or.inr (Or.inr (Or.inl hs))) (fun f g o _ _ h1 _ => ?_)
  obtain ⟨rfl, rfl, rfl⟩ := h1 hs
  refine s_X12_reads_65 ⟨by omega, fun _ => ⟨by decide, fun _ => s_X12_reads_86 ⟨by decide, fun z => absurd z (by decide), fun _ => ?_⟩, fun z => absurd (by decide) z⟩, fun z => absurd (by omega) z⟩
  exact hd_99 hO hE (by have := hs.1; omega) hw (Or.inr ⟨rfl, rfl⟩) h
theorem hd_opn (hO : TpO t n) (hE : EI t n l b D M) (hl3 : 0 ≤ l ∧ l < 3) (hs : isS t n 40 b) (hw : w < 5) (h : ∀ M', MdX t n (nxt t n b) M' → GR (w : Int) (M 311 27) (D 6 6) [28] [] b D M (nxt t n b) D M' → M' 330 ((w : Int) + 1) = 2 → M' 331 ((w : Int) + 1) = 0 → M' 331 (w : Int) = M 331 (w : Int) → HD d Q (w + 1) 1 M') : HD d Q w 1 M := by
  refine hd_65 hO hE.1 hE.2.1 hl3 (Or.inr (Or.inr (Or.inr hs))) (fun f g o _ _ _ h1 => ?_)
  obtain ⟨rfl, rfl, rfl⟩ := h1 hs
  refine s_X12_reads_65 ⟨by omega, fun _ => ⟨by decide, fun z => absurd rfl z, fun _ => ⟨by decide, fun z => absurd z (by decide), fun _ => s_X12_reads_86 ⟨by decide, fun _ => ?_, fun z => absurd rfl z⟩⟩⟩, fun z => absurd (by omega) z⟩
  exact hd_99 hO hE (by have := hs.1; omega) hw (Or.inl ⟨rfl, rfl⟩) h
/-- no join stands here -/
def NJ (t : Int → Int) (n : Int) (j : Nat) (w : Nat) (b : Int) (M : Mem) : Prop := (M 331 (w : Int) = 0 ∨ M 331 (w : Int) = 1) ∧ (1 ≤ j → ¬ isS t n 42 b) ∧ (2 ≤ j → ¬ isS t n 43 b ∧ ¬ isS t n 45 b) ∧ (3 ≤ j → isS t n 60 b ∨ isS t n 61 b → M 331 (w : Int) = 1) ∧ (4 ≤ j → ¬ isW t n 22 b ∧ ¬ isW t n 23 b)
theorem hd_4 (hO : TpO t n) (hm : MdX t n b M) (hj : NJ t n 4 w b M) (hw : w ≤ 5) (h : Rn (d + 2) M_X12_reads zN 304 [(0, (2, 311)), (1, (0, (w : Int))), (2, (0, 0))] [] M Q) : HD d Q w 0 M :=
  hd304 hO hm (hj.2.2.1 (by omega)).1 (hj.2.2.1 (by omega)).2 (hj.2.1 (by omega)) hj.1 hw (hj.2.2.2.1 (by omega)) h
theorem hd_close (hO : TpO t n) (hE : EI t n l b D M) (hj : NJ t n 4 (w + 1) b M) (hw : w < 5) (ho : OpO w M) (hs : isS t n 41 b) (h : ∀ M', MdX t n (nxt t n b) M' → GR (w : Int) (M 311 27) (D 6 6) [29] [] b D M (nxt t n b) D M' → M' 331 (w : Int) = M 331 (w : Int) → HD d Q (dpN (M 330) w) 0 M') : HD d Q (w + 1) 0 M := by
  obtain ⟨hm, hl, hcd, -⟩ := hE
  have oo := hO.1
  have b0 := hm.2.1
  obtain ⟨p1, p2, p3⟩ := put1_fr (M := M) 29
  have k0 : tkd t n b ≠ 0 := by have := hs.1; omega
  have e330 : put1 M 29 330 = M 330 := funext fun k => p1 _ _ (by decide) (by omega)
  have m3 : MdX t n b (put1 M 29) := hm.fr (fun j j0 j1 => p1 _ _ (by omega) (by omega)) (fun j => p1 _ _ (by omega) (by omega))
  obtain ⟨n22, n23⟩ := hj.2.2.2.2 (by omega)
  refine hd_4 hO hm hj (by omega) (s_X12_reads_304 (c_wdF 22 hm (by decide) (by decide) (by decide) n22 ⟨by decide, fun z => absurd rfl z, fun _ => c_wdF 23 hm (by decide) (by decide) (by decide) n23 ⟨by decide, fun _ => c_sgT hO hm (by decide) hs ⟨by decide, fun z => absurd z (by decide), fun _ => ⟨by omega, fun z => absurd z (by omega), fun _ => c_puts (by omega) ?_⟩⟩, fun z => absurd rfl z⟩⟩))
  rw [show ((w + 1 : Nat) : Int) + -1 = (w : Int) by omega]
  refine pop379 w (by omega) (fun i i0 i1 => by rw [e330]; exact ho i i0 i1) ?_
  rw [e330]
  refine s_X12_reads_424 (c_nextX hO m3 (fun M4 f4 m4 => h M4 m4 (GR.put (nxt_1 b0 k0) (by have := b_lt k0; omega) (fun q j a e f g => f4 _ _ (by omega)) ?_ ?_) ?_))
  · rw [f4 _ _ (by omega), p2]
  · rw [f4 _ _ (by omega), p3]
  · rw [f4 _ _ (by omega), p1 _ _ (by decide) (by omega)]
theorem hd_noj (hO : TpO t n) (hm : MdX t n b M) (hj : NJ t n 4 w b M) (hw : w ≤ 5) (hs : ¬ isS t n 41 b ∨ w = 0) (he : w = 0 → ¬ isS t n 59 b) (h : ∀ M', MdF M M' → M' 311 9 = 1 + 16 * b → Q 0 M') : HD d Q w 0 M := by
  obtain ⟨n22, n23⟩ := hj.2.2.2.2 (by omega)
  have F : Rn (d + 2) M_X12_reads zN 399 [(0, (2, 311)), (1, (0, (w : Int)))] [] M Q := by
    have f418 : Rn (d + 2) M_X12_reads zN 418 [(0, (2, 311))] [] M Q := s_X12_reads_418 (c_failsX hm (fun G2 f2 e2 => ⟨Or.inl rfl, h G2 f2 e2⟩))
    refine s_X12_reads_399 ⟨by omega, fun _ => f418, fun z => c_sgF hO hm (by decide) (he (by omega)) ⟨by decide, fun _ => f418, fun z => absurd rfl z⟩⟩
  refine hd_4 hO hm hj hw (s_X12_reads_304 (c_wdF 22 hm (by decide) (by decide) (by decide) n22 ⟨by decide, fun z => absurd rfl z, fun _ => c_wdF 23 hm (by decide) (by decide) (by decide) n23 ⟨by decide, fun _ => ?_, fun z => absurd rfl z⟩⟩))
  by_cases s : isS t n 41 b
  · have w0 : w = 0 := by
      rcases hs with z | z
      · exact absurd s z
      · exact z
    exact c_sgT hO hm (by decide) s ⟨by decide, fun z => absurd z (by decide), fun _ => ⟨by omega, fun _ => F, fun z => absurd (by omega) z⟩⟩
  · exact c_sgF hO hm (by decide) s ⟨by decide, fun _ => F, fun z => absurd rfl z⟩
theorem hd_top (hO : TpO t n) (hm : MdX t n b M) (hj : NJ t n 4 0 b M) (hs : isS t n 59 b) (h : ∀ M', NtF M M' → MdX t n (nxt t n b) M' → Q 1 M') : HD d Q 0 0 M := by
  obtain ⟨n22, n23⟩ := hj.2.2.2.2 (by omega)
  have n41 : ¬ isS t n 41 b := isS_ne hs (by decide)
  exact hd_4 hO hm hj (by omega) (s_X12_reads_304 (c_wdF 22 hm (by decide) (by decide) (by decide) n22 ⟨by decide, fun z => absurd rfl z, fun _ => c_wdF 23 hm (by decide) (by decide) (by decide) n23 ⟨by decide, fun _ => c_sgF hO hm (by decide) n41 ⟨by decide, fun _ => s_X12_reads_399 ⟨by decide, fun z => absurd rfl z, fun _ => c_sgT hO hm (by decide) hs ⟨by decide, fun z => absurd z (by decide), fun _ => c_nextX hO hm h⟩⟩, fun z => absurd rfl z⟩, fun z => absurd rfl z⟩⟩))
end PHEADS
