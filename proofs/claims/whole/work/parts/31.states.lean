/-! copies, beginnings, passing of a tick -/
def SitOk (G : Mem) (q : Int) : Prop := (0 ≤ G q 0 ∧ G q 0 ≤ 4) ∧ (0 ≤ G q 1 ∧ G q 1 < 5) ∧ (0 ≤ G q 2 ∧ G q 2 ≤ 9) ∧ (1 ≤ G q 3 ∧ G q 3 ≤ 99) ∧ (1 ≤ G q 4 ∧ G q 4 ≤ 99) ∧ (0 ≤ G q 5 ∧ G q 5 ≤ 9) ∧ (20 ≤ G q 6 ∧ G q 6 ≤ 40) ∧ (0 ≤ G q 7 ∧ G q 7 ≤ 72) ∧ (G q 7 ≤ G q 8 ∧ G q 8 ≤ 72)
/-- a state's row: need, out, woken, cup of the i-th -/
def RwOk (G : Mem) (b i : Int) : Prop := (0 ≤ G (b + 1) i ∧ G (b + 1) i ≤ 199) ∧ (-1 ≤ G (b + 2) i ∧ G (b + 2) i ≤ 10) ∧ (-100 ≤ G (b + 3) i ∧ G (b + 3) i ≤ 72) ∧ (0 ≤ G (b + 7) i ∧ G (b + 7) i ≤ 1) ∧ (0 < G (b + 2) i → G (b + 1) i = 0)
def StOk (G : Mem) (b : Int) : Prop := (0 ≤ G b 7 ∧ G b 7 ≤ 72) ∧ ∀ i, 0 ≤ i → i < 5 → RwOk G b i
theorem st_apart : ∀ t ∈ StB, ∀ p ∈ StB, t = p ∨ t + 8 ≤ p ∨ p + 8 ≤ t := by decide +kernel
theorem cb_apart : ∀ t ∈ CbB, ∀ p ∈ CbB, t = p ∨ t + 18 ≤ p ∨ p + 18 ≤ t := by decide +kernel
theorem tl_apart : ∀ t ∈ TlB, ∀ p ∈ TlB, t = p ∨ t + 5 ≤ p ∨ p + 5 ≤ t := by decide +kernel
theorem st_cb_apart : ∀ t ∈ StB, ∀ p ∈ CbB, t + 8 ≤ p ∨ p + 18 ≤ t := by decide +kernel
theorem Bs.st {b : Int} (h : Bs 8 b) : b ∈ StB := h
theorem Bs.cb {b : Int} (h : Bs 1 b) : b ∈ CbB := h
theorem Bs.tl {b : Int} (h : Bs 9 b) : b ∈ TlB := h
section STATES
variable {d : Nat} {G : Mem} {Q : Int → Mem → Prop}
def StCp (G G' : Mem) (t p : Int) : Prop := (∀ k, 7 ≤ k → k ≤ 11 → G' t k = G p k) ∧ (∀ j, 1 ≤ j → j ≤ 7 → ∀ i, 0 ≤ i → i < 5 → G' (t + j) i = G (p + j) i) ∧ ∀ q k : Int, ¬ (t ≤ q ∧ q < t + 8) → G' q k = G q k
theorem c_X8_take {t p : Int} (ht : Bs 8 t) (hp : Bs 8 p) (hne : t ≠ p) (h : ∀ G', StCp G G' t p → Q 0 G') : Ct (d + 1) M_X8_take NT 0 0 (some lay) [(2, t), (2, p)] G Q := by
  have ha := st_apart t ht.st p hp.st
  have ok : CpOk 0 0 5 5 5 := by unfold CpOk; omega
  refine ctof (s_X8_take_0 ht hp (fun G1 e1 G2 e2 G3 e3 G4 e4 G5 e5 => ⟨ok, fun G7 e7 => ⟨ok, fun G9 e9 => ⟨ok, fun G11 e11 => ⟨ok, fun G13 e13 => ⟨ok, fun G15 e15 => ⟨ok, fun G17 e17 => ⟨ok, fun G19 e19 => h G19 ?_⟩⟩⟩⟩⟩⟩⟩))
  subst e19 e17 e15 e13 e11 e9 e7 e5 e4 e3 e2 e1
  refine ⟨fun k h7 h11 => ?_, fun j h1 h7 i h0 h5 => ?_, fun q k hq => ?_⟩
  · rcases (by omega : k = 7 ∨ k = 8 ∨ k = 9 ∨ k = 10 ∨ k = 11) with rfl | rfl | rfl | rfl | rfl <;> simp (disch := omega) only [cpy_nq, st_nq, st_nk, st_same]
  · rcases (by omega : j = 1 ∨ j = 2 ∨ j = 3 ∨ j = 4 ∨ j = 5 ∨ j = 6 ∨ j = 7) with rfl | rfl | rfl | rfl | rfl | rfl | rfl <;> simp (disch := omega) only [cpy_nq, cpy0_in, st_nq]
  · simp (disch := omega) only [cpy_nq, st_nq]
theorem c_X8_begin {t c : Int} (ht : Bs 8 t) (hc : Bs 1 c) (h : ∀ G', (∀ k, 7 ≤ k → k ≤ 11 → G' t k = 0) → (∀ j, 1 ≤ j → j ≤ 6 → ∀ i, 0 ≤ i → i < 5 → G' (t + j) i = if j = 3 then -100 else 0) → (∀ i, 0 ≤ i → i < 5 → G' (t + 7) i = G (c + 3) i) → (∀ q k : Int, ¬ (t ≤ q ∧ q < t + 8) → G' q k = G q k) → Q 0 G') : Ct (d + 1) M_X8_begin NT 0 0 (some lay) [(2, t), (2, c)] G Q := by
  have ha := st_cb_apart t ht.st c hc.cb
  have ok : CpOk 0 0 5 5 5 := by unfold CpOk; omega
  refine ctof (s_X8_begin_0 ht hc (fun G1 e1 G2 e2 G3 e3 G4 e4 G5 e5 => c_fill (ly_8_0 ht).2.2 (c_fill (ly_8_1 ht).2.2 (c_fill (ly_8_2 ht).2.2 (c_fill (ly_8_3 ht).2.2 (c_fill (ly_8_4 ht).2.2 (c_fill (ly_8_5 ht).2.2 ⟨ok, fun G19 e19 => ?_⟩)))))))
  subst e19 e5 e4 e3 e2 e1
  refine h _ (fun k h7 h11 => ?_) (fun j h1 h6 i h0 h5 => ?_) (fun i h0 h5 => ?_) (fun q k hq => ?_)
  · rcases (by omega : k = 7 ∨ k = 8 ∨ k = 9 ∨ k = 10 ∨ k = 11) with rfl | rfl | rfl | rfl | rfl <;> simp (disch := omega) only [cpy_nq, upA_nq, st_nk, st_same]
  · rcases (by omega : j = 1 ∨ j = 2 ∨ j = 3 ∨ j = 4 ∨ j = 5 ∨ j = 6) with rfl | rfl | rfl | rfl | rfl | rfl <;> simp (disch := omega) only [cpy_nq, upA_nq, upA_in] <;> simp
  · simp (disch := omega) only [cpy0_in, upA_nq, st_nq]
  · simp (disch := omega) only [cpy_nq, upA_nq, st_nq]
def TlCp (G G' : Mem) (t p : Int) : Prop := (∀ j, 1 ≤ j → j ≤ 3 → ∀ i, 0 ≤ i → i < 5 → G' (t + j) i = G (p + j) i) ∧ (∀ i, 0 ≤ i → i < 60 → G' (t + 4) i = G (p + 4) i) ∧ ∀ q k : Int, ¬ (t ≤ q ∧ q < t + 5) → G' q k = G q k
theorem c_X9_take {t p : Int} (ht : Bs 9 t) (hp : Bs 9 p) (hne : t ≠ p) (h : ∀ G', TlCp G G' t p → Q 0 G') : Ct (d + 1) M_X9_take NT 0 0 (some lay) [(2, t), (2, p)] G Q := by
  have ha := tl_apart t ht.tl p hp.tl
  have ok : CpOk 0 0 5 5 5 := by unfold CpOk; omega
  have ok6 : CpOk 0 0 60 60 60 := by unfold CpOk; omega
  refine ctof (s_X9_take_0 ht hp ⟨ok, fun G2 e2 => ⟨ok, fun G4 e4 => ⟨ok, fun G6 e6 => ⟨ok6, fun G8 e8 => h G8 ?_⟩⟩⟩⟩)
  subst e8 e6 e4 e2
  refine ⟨fun j h1 h7 i h0 h5 => ?_, fun i h0 h5 => ?_, fun q k hq => ?_⟩
  · rcases (by omega : j = 1 ∨ j = 2 ∨ j = 3) with rfl | rfl | rfl <;> simp (disch := omega) only [cpy_nq, cpy0_in]
  · simp (disch := omega) only [cpy_nq, cpy0_in]
  · simp (disch := omega) only [cpy_nq]
theorem c_X9_clear {t : Int} (ht : Bs 9 t) (h : ∀ G', (∀ j, 1 ≤ j → j ≤ 3 → ∀ i, 0 ≤ i → i < 5 → G' (t + j) i = 0) → (∀ q k : Int, ¬ (t ≤ q ∧ q < t + 4) → G' q k = G q k) → Q 0 G') : Ct (d + 1) M_X9_clear NT 0 0 (some lay) [(2, t)] G Q := by
  refine ctof (s_X9_clear_0 ht (c_fill (ly_9_0 ht).2.2 (c_fill (ly_9_1 ht).2.2 (c_fill (ly_9_2 ht).2.2 ?_))))
  refine h _ (fun j h1 h3 i h0 h5 => ?_) (fun q k hq => ?_)
  · rcases (by omega : j = 1 ∨ j = 2 ∨ j = 3) with rfl | rfl | rfl <;> simp (disch := omega) only [upA_nq, upA_in]
  · simp (disch := omega) only [upA_nq]
theorem c_X7_take {t p : Int} (ht : Bs 7 t) (hp : Bs 7 p) (hne : t ≠ p) (h : ∀ G', (∀ k, 0 ≤ k → k ≤ 8 → G' t k = G p k) → (∀ q k : Int, q ≠ t → G' q k = G q k) → Q 0 G') : Ct d M_X7_take NT 0 0 (some lay) [(2, t), (2, p)] G Q := by
  refine ctof (s_X7_take_0 ht hp (fun G1 e1 G2 e2 G3 e3 G4 e4 G5 e5 G6 e6 G7 e7 G8 e8 G9 e9 => ?_))
  subst e9 e8 e7 e6 e5 e4 e3 e2 e1
  refine h _ (fun k h0 h8 => ?_) (fun q k hq => ?_)
  · rcases (by omega : k = 0 ∨ k = 1 ∨ k = 2 ∨ k = 3 ∨ k = 4 ∨ k = 5 ∨ k = 6 ∨ k = 7 ∨ k = 8) with rfl | rfl | rfl | rfl | rfl | rfl | rfl | rfl | rfl <;> simp (disch := omega) only [st_nq, st_nk, st_same]
  · simp (disch := omega) only [st_nq]
/-- the laws' steps, and which are told -/
def LwCp (G G' : Mem) (t p : Int) : Prop := G' t 6 = G p 6 ∧ (∀ j, 2 ≤ j → j ≤ 4 → ∀ i, 0 ≤ i → i < 3 → G' (t + j) i = G (p + j) i) ∧ (∀ i, 0 ≤ i → i < G p 6 → G' (t + 5) i = G (p + 5) i) ∧ ∀ q k : Int, ¬ (t ≤ q ∧ q < t + 6) → G' q k = G q k
theorem lw_apart : ∀ t ∈ basL.getD 3 [], ∀ p ∈ basL.getD 3 [], t = p ∨ t + 7 ≤ p ∨ p + 7 ≤ t := by decide +kernel
theorem c_X3_take {t p : Int} (ht : Bs 3 t) (hp : Bs 3 p) (hne : t ≠ p) (hm : 0 ≤ G p 6 ∧ G p 6 ≤ 1000) (h : ∀ G', LwCp G G' t p → Q 0 G') : Ct (d + 1) M_X3_take NT 0 0 (some lay) [(2, t), (2, p)] G Q := by
  have ha := lw_apart t ht p hp
  have ok : CpOk 0 0 3 3 3 := by unfold CpOk; omega
  refine ctof (s_X3_take_0 ht hp (fun G1 e1 => ?_))
  have e0 : G1 t 6 = G p 6 := by rw [e1]; exact st_same _ _ _ _
  rw [e0]
  refine ⟨by unfold CpOk; omega, fun G3 e3 => ⟨ok, fun G5 e5 => ⟨ok, fun G7 e7 => ⟨ok, fun G9 e9 => h G9 ?_⟩⟩⟩⟩
  subst e9 e7 e5 e3 e1
  refine ⟨?_, fun j h2 h4 i h0 h3 => ?_, fun i h0 h1 => ?_, fun q k hq => ?_⟩
  · simp (disch := omega) only [cpy_nq, st_same]
  · rcases (by omega : j = 2 ∨ j = 3 ∨ j = 4) with rfl | rfl | rfl <;> simp (disch := omega) only [cpy_nq, cpy0_in, st_nq]
  · simp (disch := omega) only [cpy_nq, cpy0_in, st_nq]
  · simp (disch := omega) only [cpy_nq, st_nq]
end STATES
