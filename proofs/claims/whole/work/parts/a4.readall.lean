noncomputable def pRd (t : Int → Int) (n : Int) (D : Mem) : PR := pMain t n 1000 (pRow t n (.inr (tbg t n 0, D)))
/-- nothing is told yet -/
def ClrD (D : Mem) : Prop := (D 0 6 = 2 ∧ D 0 7 = 1 ∧ D 0 8 = 0 ∧ D 0 9 = 11 ∧ D 0 10 = 9) ∧ (∀ i, 0 ≤ i → i < 5 → D 2 i = -1 ∧ D 3 i = 0) ∧ (∀ i, 0 ≤ i → i < 72 → D 4 i = 0) ∧ (∀ i, 0 ≤ i → i < 4 → D 5 i = 1) ∧ D 6 6 = 0 ∧ (∀ i, 0 ≤ i → i < 3 → D 8 i = 0) ∧ ∀ w, 0 ≤ w → w < 32 → D 21 w = 0
section READALL
variable {d : Nat} {G G' G0 : Mem} {Q : Int → Mem → Prop} {t : Int → Int} {n b K cc l : Int} {D : Mem} {r : PR}
def ghD (cc : Int) (G : Mem) : Mem := fun q k => if 0 ≤ q ∧ q < 18 then G (cc + q) k else if q = 20 then G 4 k else if q = 21 then G 5 k else 0
theorem c_readX (hc : Bs 1 cc) (hO : TpO t n) (hT : TpY t n G) (h : ∀ D0 K G2, ClrD D0 → RdX K cc t n G (pRd t n D0) G2 → Q (G2 3 4) G2) : Ct (d + 46) M_X5_read NT 0 0 (some lay) [(2, 3), (2, 1), (2, cc)] G Q := by
  have ccI := cc_in hc
  have o := hO.1
  have a5 : Ar NT 5 0 32 := by unfold Ar; decide +kernel
  refine ctof (s_X5_read_0 hc (fun G1 e1 G2 e2 b3 e3 => ?_))
  have g33 : G2 3 3 = cc := by rw [e2, st_same]
  rw [g33] at e3
  subst e3
  refine ⟨hc, c_X1_clear (d := d + 43) hc (fun G6 h6 G8 e8 => c_fill a5 ?_)⟩
  obtain ⟨x1, x2, x3, x4, x5, x6, x7⟩ := h6
  have u2 : ∀ q k : Int, q ≠ 3 → G2 q k = G q k := fun q k z => by rw [e2, st_nq _ _ _ _ z, e1, st_nq _ _ _ _ z]
  have u8 : ∀ q k : Int, ¬ (q = 3 ∧ k = 4) → G8 q k = G6 q k := fun q k z => by rw [e8, st_ne _ _ z]
  generalize hG9 : upA G8 5 (32 : Nat) (fun _ => 0) = G9
  have u9 : ∀ q k : Int, q ≠ 5 → G9 q k = G8 q k := fun q k z => by rw [← hG9]; exact upA_nq _ _ _ _ z
  have z5 : ∀ k : Int, 0 ≤ k → k < 32 → G9 5 k = 0 := fun k k0 k1 => by rw [← hG9]; exact upA_in _ _ _ k0 (by omega)
  have fr : ∀ q k : Int, ¬ (3 ≤ q ∧ q ≤ 5) → ¬ (b3 ≤ q ∧ q < b3 + 18) → G9 q k = G q k := fun q k m1 m2 => by rw [u9 _ _ (by omega), u8 _ _ (by omega), x7 _ _ m2, u2 _ _ (by omega)]
  have in9 : ∀ q k : Int, b3 ≤ q → q < b3 + 18 → G9 q k = G6 q k := fun q k m1 m2 => by rw [u9 _ _ (by omega), u8 _ _ (by omega)]
  have k2 : G9 3 2 = 1 := by rw [u9 _ _ (by omega), u8 _ _ (by omega), x7 _ _ (by omega), e2, st_nk _ _ _ (by decide), e1, st_same]
  have k3 : G9 3 3 = b3 := by rw [u9 _ _ (by omega), u8 _ _ (by omega), x7 _ _ (by omega)]; exact g33
  have k4 : G9 3 4 = 0 := by rw [u9 _ _ (by omega), e8, st_same]
  refine ⟨k2, ctof (s_X10_begin_0 (fun G10 e10 => ?_))⟩
  have v10 : ∀ q k : Int, ¬ (q = 1 ∧ k = 6) → G10 q k = G9 q k := fun q k z => by rw [e10, st_ne _ _ z]
  have t10 : TpY t n G10 := ⟨by rw [v10 _ _ (by omega), fr _ _ (by omega) (by omega)]; exact hT.1, fun k k0 k1 => by rw [v10 _ _ (by omega), fr _ _ (by omega) (by omega)]; exact hT.2 k k0 k1⟩
  refine c_step (d := d + 39) hO t10 (p := 0) ⟨by omega, o.1⟩ (by rw [e10, st_same]) (fun G12 f12 tk => ?_)
  have w12 : ∀ q k : Int, q ≠ 1 → G12 q k = G9 q k := fun q k z => by rw [f12 q k (by omega), v10 _ _ (by omega)]
  have cl : ClrD (ghD b3 G12) := by
    have gi : ∀ q k : Int, 0 ≤ q → q < 18 → ghD b3 G12 q k = G6 (b3 + q) k := fun q k q0 q1 => by
      unfold ghD
      rw [if_pos ⟨q0, q1⟩, w12 _ _ (by omega), in9 _ _ (by omega) (by omega)]
    refine ⟨⟨?_, ?_, ?_, ?_, ?_⟩, fun i i0 i1 => ⟨?_, ?_⟩, fun i i0 i1 => ?_, fun i i0 i1 => ?_, ?_, fun i i0 i1 => ?_, fun w w0 w1 => ?_⟩
    · rw [gi 0 6 (by omega) (by omega), Int.add_zero]; exact x1.1
    · rw [gi 0 7 (by omega) (by omega), Int.add_zero]; exact x1.2.1
    · rw [gi 0 8 (by omega) (by omega), Int.add_zero]; exact x1.2.2.1
    · rw [gi 0 9 (by omega) (by omega), Int.add_zero]; exact x1.2.2.2.1
    · rw [gi 0 10 (by omega) (by omega), Int.add_zero]; exact x1.2.2.2.2
    · rw [gi 2 i (by omega) (by omega)]; exact (x2 i i0 i1).1
    · rw [gi 3 i (by omega) (by omega)]; exact (x2 i i0 i1).2
    · rw [gi 4 i (by omega) (by omega)]; exact x3 i i0 i1
    · rw [gi 5 i (by omega) (by omega)]; exact x4 i i0 i1
    · rw [gi 6 6 (by omega) (by omega)]; exact x5
    · rw [gi 8 i (by omega) (by omega)]; exact x6 i i0 i1
    · show (if (0 : Int) ≤ 21 ∧ (21 : Int) < 18 then G12 (b3 + 21) w else if (21 : Int) = 20 then G12 4 w else if (21 : Int) = 21 then G12 5 w else 0) = 0
      rw [if_neg (by decide), if_neg (by decide), if_pos rfl, w12 _ _ (by decide)]
      exact z5 w w0 w1
  have tb := tbg_in (t := t) (n := n) (p := 0) ⟨by omega, o.1⟩
  have hX : RdX ((0 : Nat) : Int) b3 t n G (.inr (tbg t n 0, ghD b3 G12)) G12 := by
    refine RdX.mk ⟨hc, t10.nt f12, by rw [w12 _ _ (by decide)]; exact k2, by rw [w12 _ _ (by decide)]; exact k3, ?_, ?_, fun q k m1 m2 m3 => ?_⟩ (by rw [w12 _ _ (by decide)]; exact k4) tb tk ⟨fun q k q0 q1 => ?_, fun k => rfl, fun k => rfl⟩ ?_
    · rw [w12 _ _ (by omega), in9 _ _ (by omega) (by omega), x1.2.2.1]; omega
    · rw [w12 _ _ (by omega), in9 _ _ (by omega) (by omega), x5]; omega
    · by_cases hq : q = 1
      · rw [f12 q k (by omega), v10 _ _ (by omega), fr _ _ (by omega) (by omega)]
      · rw [w12 _ _ hq, fr _ _ m2 m3]
    · unfold ghD; rw [if_pos ⟨q0, q1⟩]
    · obtain ⟨c1, c2, c3, c4, c5, c6, c7⟩ := cl
      refine ⟨by omega, by omega, by omega, by omega, by omega, fun s s0 s5 => by have := (c2 s s0 s5).1; omega, fun s s0 s5 => by have := (c2 s s0 s5).2; omega, by omega, fun i i0 i1 => absurd i1 (by omega), fun w w0 w1 => by have := c7 w w0 w1; omega⟩
  refine c_row (d := d + 38) hO hX (fun G14 h14 => ?_)
  exact c_mainX (d := d) hO 1000 0 _ G14 (by omega) h14 (fun K G2 h2 => h _ K G2 cl h2)
end READALL
