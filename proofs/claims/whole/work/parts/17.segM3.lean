theorem d_X12_ticks_0 : decode M_X12_ticks.2.1 0 = .ok (.aload_n 0, 1) := by decide +kernel
theorem d_X12_ticks_1 : decode M_X12_ticks.2.1 1 = .ok (.iconst 0, 1) := by decide +kernel
theorem d_X12_ticks_2 : decode M_X12_ticks.2.1 2 = .ok (.putfield 169, 3) := by decide +kernel
theorem d_X12_ticks_5 : decode M_X12_ticks.2.1 5 = .ok (.iload_n 1, 1) := by decide +kernel
theorem d_X12_ticks_6 : decode M_X12_ticks.2.1 6 = .ok (.iconst 1, 1) := by decide +kernel
theorem d_X12_ticks_7 : decode M_X12_ticks.2.1 7 = .ok (.bipush 72, 2) := by decide +kernel
theorem d_X12_ticks_9 : decode M_X12_ticks.2.1 9 = .ok (.invokestatic 308, 3) := by decide +kernel
theorem d_X12_ticks_12 : decode M_X12_ticks.2.1 12 = .ok (.ifCond .ne 5, 3) := by decide +kernel
theorem d_X12_ticks_15 : decode M_X12_ticks.2.1 15 = .ok (.iconst (-1), 1) := by decide +kernel
theorem d_X12_ticks_16 : decode M_X12_ticks.2.1 16 = .ok (.ireturn, 1) := by decide +kernel
theorem d_X12_ticks_17 : decode M_X12_ticks.2.1 17 = .ok (.iconst 0, 1) := by decide +kernel
theorem d_X12_ticks_18 : decode M_X12_ticks.2.1 18 = .ok (.istore_n 2, 1) := by decide +kernel
theorem d_X12_ticks_19 : decode M_X12_ticks.2.1 19 = .ok (.iload_n 2, 1) := by decide +kernel
theorem d_X12_ticks_20 : decode M_X12_ticks.2.1 20 = .ok (.iload_n 1, 1) := by decide +kernel
theorem d_X12_ticks_21 : decode M_X12_ticks.2.1 21 = .ok (.if_icmp .ge 29, 3) := by decide +kernel
theorem d_X12_ticks_24 : decode M_X12_ticks.2.1 24 = .ok (.aload_n 0, 1) := by decide +kernel
theorem d_X12_ticks_25 : decode M_X12_ticks.2.1 25 = .ok (.getfield 102, 3) := by decide +kernel
theorem d_X12_ticks_28 : decode M_X12_ticks.2.1 28 = .ok (.bipush 110, 2) := by decide +kernel
theorem d_X12_ticks_30 : decode M_X12_ticks.2.1 30 = .ok (.iaload, 1) := by decide +kernel
theorem d_X12_ticks_31 : decode M_X12_ticks.2.1 31 = .ok (.aload_n 0, 1) := by decide +kernel
theorem d_X12_ticks_32 : decode M_X12_ticks.2.1 32 = .ok (.getfield 13, 3) := by decide +kernel
theorem d_X12_ticks_35 : decode M_X12_ticks.2.1 35 = .ok (.iconst 1, 1) := by decide +kernel
theorem d_X12_ticks_36 : decode M_X12_ticks.2.1 36 = .ok (.iaload, 1) := by decide +kernel
theorem d_X12_ticks_37 : decode M_X12_ticks.2.1 37 = .ok (.if_icmp .ge 13, 3) := by decide +kernel
theorem d_X12_ticks_40 : decode M_X12_ticks.2.1 40 = .ok (.aload_n 0, 1) := by decide +kernel
theorem d_X12_ticks_41 : decode M_X12_ticks.2.1 41 = .ok (.invokevirtual 461, 3) := by decide +kernel
theorem d_X12_ticks_44 : decode M_X12_ticks.2.1 44 = .ok (.iinc 2 1, 3) := by decide +kernel
theorem d_X12_ticks_47 : decode M_X12_ticks.2.1 47 = .ok (.goto (-28), 3) := by decide +kernel
theorem d_X12_ticks_50 : decode M_X12_ticks.2.1 50 = .ok (.aload_n 0, 1) := by decide +kernel
theorem d_X12_ticks_51 : decode M_X12_ticks.2.1 51 = .ok (.iconst 0, 1) := by decide +kernel
theorem d_X12_ticks_52 : decode M_X12_ticks.2.1 52 = .ok (.putfield 377, 3) := by decide +kernel
theorem d_X12_ticks_55 : decode M_X12_ticks.2.1 55 = .ok (.aload_n 0, 1) := by decide +kernel
theorem d_X12_ticks_56 : decode M_X12_ticks.2.1 56 = .ok (.getfield 102, 3) := by decide +kernel
theorem d_X12_ticks_59 : decode M_X12_ticks.2.1 59 = .ok (.bipush 110, 2) := by decide +kernel
theorem d_X12_ticks_61 : decode M_X12_ticks.2.1 61 = .ok (.iaload, 1) := by decide +kernel
theorem d_X12_ticks_62 : decode M_X12_ticks.2.1 62 = .ok (.ireturn, 1) := by decide +kernel
set_option maxRecDepth 20000 in
theorem s_X12_ticks_0 {d : Nat} {p0 : Int} {G : Mem} {Q : Int → Mem → Prop}  (h : (∀ G1 : Mem, G1 = st G 311 0 0 → Ct d M_X12_within NT 0 0 (some lay) [(0, p0), (0, 1), (0, 72)] G1 (fun r3 G2 => (InR r3) ∧ ((r3 ≠ 0) → Rn (d + 1) M_X12_ticks zN 19 [(0, (2, 311)), (1, (0, p0)), (2, (0, 0))] [] G2 Q) ∧ (¬ (r3 ≠ 0) → Q (-1) G2)))) : Rn (d + 1) M_X12_ticks zN 0 [(0, (2, 311)), (1, (0, p0))] [] G Q := by
  refine r_aload_n d_X12_ticks_0 0 rfl rfl ?_
  refine r_iconst d_X12_ticks_1 ?_
  obtain ⟨G1, eG1⟩ : ∃ y : Mem, y = st G 311 0 0 := ⟨_, rfl⟩
  replace h := h G1 eG1
  refine r_putI 12 0 0 rfl d_X12_ticks_2 fl_X12_169 (by decide) nofin_12_0 (bs_ob bs_12) ?_
  rw [← eG1]
  refine r_iload_n d_X12_ticks_5 1 rfl rfl ?_
  refine r_iconst d_X12_ticks_6 ?_
  refine r_bipush d_X12_ticks_7 (by decide +kernel) ?_
  refine r_callS0 (M' := M_X12_within) [(0, p0), (0, 1), (0, 72)] d_X12_ticks_9 cl_X12_308 rfl (Nat.le_of_ble_eq_true rfl) ?_
  refine Ct.mono h (fun r3 G2 h => ?_)
  show Rn _ M_X12_ticks zN 12 [(0, (2, 311)), (1, (0, p0))] [(0, r3)] G2 Q
  obtain ⟨h4, h⟩ := h
  refine r_if_ne (tgt := 17) d_X12_ticks_12 (by decide) h4 (fun c5 => ?_) (fun c5 => ?_)
  · replace h := h.1 c5
    refine r_iconst d_X12_ticks_17 ?_
    refine r_istore_n (ls1 := [(2, (0, 0)), (0, (2, 311)), (1, (0, p0))]) d_X12_ticks_18 rfl (by decide) rfl ?_
    exact Rn.sub [1, 2, 0] rfl h
  · replace h := h.2 c5
    refine r_iconst d_X12_ticks_15 ?_
    exact r_ireturn d_X12_ticks_16 rfl ⟨rfl, Nat.le_refl _, Nat.le_refl _⟩ h
set_option maxRecDepth 20000 in
theorem s_X12_ticks_19 {d : Nat} {x1 : Int} {x2 : Int} {G : Mem} {Q : Int → Mem → Prop}  (h : (InR x2) ∧ (InR x1) ∧ ((x1 ≤ x2) → Rn (d + 1) M_X12_ticks zN 50 [(0, (2, 311))] [] G Q) ∧ (¬ (x1 ≤ x2) → (InR (G 342 110)) ∧ (InR (G 313 1)) ∧ (((G 313 1) ≤ (G 342 110)) → Rn (d + 1) M_X12_ticks zN 50 [(0, (2, 311))] [] G Q) ∧ (¬ ((G 313 1) ≤ (G 342 110)) → Ct d M_X12_passes NT 0 0 (some lay) [(2, 311)] G (fun r8 G7 => Rn (d + 1) M_X12_ticks zN 19 [(0, (2, 311)), (1, (0, x1)), (2, (0, (x2 + 1)))] [] G7 Q)))) : Rn (d + 1) M_X12_ticks zN 19 [(0, (2, 311)), (1, (0, x1)), (2, (0, x2))] [] G Q := by
  refine r_iload_n d_X12_ticks_19 2 rfl rfl ?_
  refine r_iload_n d_X12_ticks_20 1 rfl rfl ?_
  obtain ⟨h1, h⟩ := h
  obtain ⟨h2, h⟩ := h
  refine r_icmp_ge (tgt := 50) d_X12_ticks_21 (by decide) h1 h2 (fun c3 => ?_) (fun c3 => ?_)
  · replace h := h.1 c3
    exact Rn.sub [0] rfl h
  · replace h := h.2 c3
    refine r_aload_n d_X12_ticks_24 0 rfl rfl ?_
    refine r_getL (v := 342) 12 43 43 rfl d_X12_ticks_25 fl_X12_102 (by decide) (bs_ob bs_12) (ly_12_43 bs_12).1 (ly_12_43 bs_12).2.1 ?_
    refine r_bipush d_X12_ticks_28 (by decide +kernel) ?_
    refine r_iaload d_X12_ticks_30 (ly_12_43 bs_12).2.2 (by decide) ?_
    refine r_aload_n d_X12_ticks_31 0 rfl rfl ?_
    refine r_getL (v := 313) 12 10 10 rfl d_X12_ticks_32 fl_X12_13 (by decide) (bs_ob bs_12) (ly_12_10 bs_12).1 (ly_12_10 bs_12).2.1 ?_
    refine r_iconst d_X12_ticks_35 ?_
    refine r_iaload d_X12_ticks_36 (ly_12_10 bs_12).2.2 (by decide) ?_
    obtain ⟨h4, h⟩ := h
    obtain ⟨h5, h⟩ := h
    refine r_icmp_ge (tgt := 50) d_X12_ticks_37 (by decide) h4 h5 (fun c6 => ?_) (fun c6 => ?_)
    · replace h := h.1 c6
      exact Rn.sub [0] rfl h
    · replace h := h.2 c6
      refine r_aload_n d_X12_ticks_40 0 rfl rfl ?_
      refine r_callV0 (M' := M_X12_passes) (ci := 12) [] d_X12_ticks_41 cl_X12_461 rfl (Nat.le_of_ble_eq_true rfl) (by decide) rfl (bs_ob bs_12) ?_
      refine Ct.mono h (fun r8 G7 h => ?_)
      show Rn _ M_X12_ticks zN 44 [(0, (2, 311)), (1, (0, x1)), (2, (0, x2))] [] G7 Q
      refine r_iinc (ls1 := [(2, (0, (x2 + 1))), (0, (2, 311)), (1, (0, x1))]) d_X12_ticks_44 2 rfl (by decide) rfl ?_
      refine r_goto (tgt := 19) d_X12_ticks_47 (by decide) ?_
      exact Rn.sub [1, 2, 0] rfl h
set_option maxRecDepth 20000 in
theorem s_X12_ticks_50 {d : Nat}  {G : Mem} {Q : Int → Mem → Prop}  (h : (∀ G1 : Mem, G1 = st G 311 46 0 → Q (G1 342 110) G1)) : Rn d M_X12_ticks zN 50 [(0, (2, 311))] [] G Q := by
  refine r_aload_n d_X12_ticks_50 0 rfl rfl ?_
  refine r_iconst d_X12_ticks_51 ?_
  obtain ⟨G1, eG1⟩ : ∃ y : Mem, y = st G 311 46 0 := ⟨_, rfl⟩
  replace h := h G1 eG1
  refine r_putI 12 46 46 rfl d_X12_ticks_52 fl_X12_377 (by decide) nofin_12_46 (bs_ob bs_12) ?_
  rw [← eG1]
  refine r_aload_n d_X12_ticks_55 0 rfl rfl ?_
  refine r_getL (v := 342) 12 43 43 rfl d_X12_ticks_56 fl_X12_102 (by decide) (bs_ob bs_12) (ly_12_43 bs_12).1 (ly_12_43 bs_12).2.1 ?_
  refine r_bipush d_X12_ticks_59 (by decide +kernel) ?_
  refine r_iaload d_X12_ticks_61 (ly_12_43 bs_12).2.2 (by decide) ?_
  exact r_ireturn d_X12_ticks_62 rfl ⟨rfl, Nat.le_refl _, Nat.le_refl _⟩ h
theorem d_X12_needBehind_0 : decode M_X12_needBehind.2.1 0 = .ok (.aload_n 0, 1) := by decide +kernel
theorem d_X12_needBehind_1 : decode M_X12_needBehind.2.1 1 = .ok (.getfield 102, 3) := by decide +kernel
theorem d_X12_needBehind_4 : decode M_X12_needBehind.2.1 4 = .ok (.iconst 5, 1) := by decide +kernel
theorem d_X12_needBehind_5 : decode M_X12_needBehind.2.1 5 = .ok (.iload_n 1, 1) := by decide +kernel
theorem d_X12_needBehind_6 : decode M_X12_needBehind.2.1 6 = .ok (.iadd, 1) := by decide +kernel
theorem d_X12_needBehind_7 : decode M_X12_needBehind.2.1 7 = .ok (.iaload, 1) := by decide +kernel
theorem d_X12_needBehind_8 : decode M_X12_needBehind.2.1 8 = .ok (.ifCond .le 14, 3) := by decide +kernel
theorem d_X12_needBehind_11 : decode M_X12_needBehind.2.1 11 = .ok (.aload_n 0, 1) := by decide +kernel
theorem d_X12_needBehind_12 : decode M_X12_needBehind.2.1 12 = .ok (.getfield 102, 3) := by decide +kernel
theorem d_X12_needBehind_15 : decode M_X12_needBehind.2.1 15 = .ok (.iconst 5, 1) := by decide +kernel
theorem d_X12_needBehind_16 : decode M_X12_needBehind.2.1 16 = .ok (.iload_n 1, 1) := by decide +kernel
theorem d_X12_needBehind_17 : decode M_X12_needBehind.2.1 17 = .ok (.iadd, 1) := by decide +kernel
theorem d_X12_needBehind_18 : decode M_X12_needBehind.2.1 18 = .ok (.iaload, 1) := by decide +kernel
theorem d_X12_needBehind_19 : decode M_X12_needBehind.2.1 19 = .ok (.goto 4, 3) := by decide +kernel
theorem d_X12_needBehind_22 : decode M_X12_needBehind.2.1 22 = .ok (.iconst 0, 1) := by decide +kernel
theorem d_X12_needBehind_23 : decode M_X12_needBehind.2.1 23 = .ok (.istore_n 3, 1) := by decide +kernel
theorem d_X12_needBehind_24 : decode M_X12_needBehind.2.1 24 = .ok (.aload_n 0, 1) := by decide +kernel
theorem d_X12_needBehind_25 : decode M_X12_needBehind.2.1 25 = .ok (.getfield 102, 3) := by decide +kernel
theorem d_X12_needBehind_28 : decode M_X12_needBehind.2.1 28 = .ok (.iload_n 1, 1) := by decide +kernel
theorem d_X12_needBehind_29 : decode M_X12_needBehind.2.1 29 = .ok (.iaload, 1) := by decide +kernel
theorem d_X12_needBehind_30 : decode M_X12_needBehind.2.1 30 = .ok (.istore 4, 2) := by decide +kernel
theorem d_X12_needBehind_32 : decode M_X12_needBehind.2.1 32 = .ok (.iload_n 3, 1) := by decide +kernel
theorem d_X12_needBehind_33 : decode M_X12_needBehind.2.1 33 = .ok (.istore 5, 2) := by decide +kernel
theorem d_X12_needBehind_35 : decode M_X12_needBehind.2.1 35 = .ok (.iload 5, 2) := by decide +kernel
theorem d_X12_needBehind_37 : decode M_X12_needBehind.2.1 37 = .ok (.iload_n 2, 1) := by decide +kernel
theorem d_X12_needBehind_38 : decode M_X12_needBehind.2.1 38 = .ok (.if_icmp .ge 25, 3) := by decide +kernel
theorem d_X12_needBehind_41 : decode M_X12_needBehind.2.1 41 = .ok (.sipush 199, 3) := by decide +kernel
theorem d_X12_needBehind_44 : decode M_X12_needBehind.2.1 44 = .ok (.iload 4, 2) := by decide +kernel
theorem d_X12_needBehind_46 : decode M_X12_needBehind.2.1 46 = .ok (.aload_n 0, 1) := by decide +kernel
theorem d_X12_needBehind_47 : decode M_X12_needBehind.2.1 47 = .ok (.iload_n 1, 1) := by decide +kernel
theorem d_X12_needBehind_48 : decode M_X12_needBehind.2.1 48 = .ok (.invokevirtual 453, 3) := by decide +kernel
theorem d_X12_needBehind_51 : decode M_X12_needBehind.2.1 51 = .ok (.iadd, 1) := by decide +kernel
theorem d_X12_needBehind_52 : decode M_X12_needBehind.2.1 52 = .ok (.invokestatic 456, 3) := by decide +kernel
theorem d_X12_needBehind_55 : decode M_X12_needBehind.2.1 55 = .ok (.istore 4, 2) := by decide +kernel
theorem d_X12_needBehind_57 : decode M_X12_needBehind.2.1 57 = .ok (.iinc 5 1, 3) := by decide +kernel
theorem d_X12_needBehind_60 : decode M_X12_needBehind.2.1 60 = .ok (.goto (-25), 3) := by decide +kernel
theorem d_X12_needBehind_63 : decode M_X12_needBehind.2.1 63 = .ok (.iload 4, 2) := by decide +kernel
theorem d_X12_needBehind_65 : decode M_X12_needBehind.2.1 65 = .ok (.ireturn, 1) := by decide +kernel
set_option maxRecDepth 20000 in
theorem s_X12_needBehind_0 {d : Nat} {p0 : Int} {p1 : Int} {G : Mem} {Q : Int → Mem → Prop}  (h : (0 ≤ (5 + p0) ∧ (5 + p0) < 116) ∧ ((InR (G 342 (5 + p0))) ∧ (((G 342 (5 + p0)) ≤ 0) → Rn d M_X12_needBehind zN 23 [(0, (2, 311)), (1, (0, p0)), (2, (0, p1))] [(0, 0)] G Q) ∧ (¬ ((G 342 (5 + p0)) ≤ 0) → Rn d M_X12_needBehind zN 23 [(0, (2, 311)), (1, (0, p0)), (2, (0, p1))] [(0, (G 342 (5 + p0)))] G Q))) : Rn d M_X12_needBehind zN 0 [(0, (2, 311)), (1, (0, p0)), (2, (0, p1))] [] G Q := by
  refine r_aload_n d_X12_needBehind_0 0 rfl rfl ?_
  refine r_getL (v := 342) 12 43 43 rfl d_X12_needBehind_1 fl_X12_102 (by decide) (bs_ob bs_12) (ly_12_43 bs_12).1 (ly_12_43 bs_12).2.1 ?_
  refine r_iconst d_X12_needBehind_4 ?_
  refine r_iload_n d_X12_needBehind_5 1 rfl rfl ?_
  refine r_iadd d_X12_needBehind_6 ?_
  obtain ⟨h1, h⟩ := h
  refine r_iaload d_X12_needBehind_7 (ly_12_43 bs_12).2.2 h1 ?_
  obtain ⟨h2, h⟩ := h
  refine r_if_le (tgt := 22) d_X12_needBehind_8 (by decide) h2 (fun c3 => ?_) (fun c3 => ?_)
  · replace h := h.1 c3
    refine r_iconst d_X12_needBehind_22 ?_
    exact h
  · replace h := h.2 c3
    refine r_aload_n d_X12_needBehind_11 0 rfl rfl ?_
    refine r_getL (v := 342) 12 43 43 rfl d_X12_needBehind_12 fl_X12_102 (by decide) (bs_ob bs_12) (ly_12_43 bs_12).1 (ly_12_43 bs_12).2.1 ?_
    refine r_iconst d_X12_needBehind_15 ?_
    refine r_iload_n d_X12_needBehind_16 1 rfl rfl ?_
    refine r_iadd d_X12_needBehind_17 ?_
    refine r_iaload d_X12_needBehind_18 (ly_12_43 bs_12).2.2 h1 ?_
    refine r_goto (tgt := 23) d_X12_needBehind_19 (by decide) ?_
    exact h
set_option maxRecDepth 20000 in
theorem s_X12_needBehind_23 {d : Nat} {x1 : Int} {x2 : Int} {s0 : Int} {G : Mem} {Q : Int → Mem → Prop}  (h : (0 ≤ x1 ∧ x1 < 116) ∧ (Rn d M_X12_needBehind zN 35 [(0, (2, 311)), (1, (0, x1)), (2, (0, x2)), (4, (0, (G 342 x1))), (5, (0, s0))] [] G Q)) : Rn d M_X12_needBehind zN 23 [(0, (2, 311)), (1, (0, x1)), (2, (0, x2))] [(0, s0)] G Q := by
  refine r_istore_n (ls1 := [(3, (0, s0)), (0, (2, 311)), (1, (0, x1)), (2, (0, x2))]) d_X12_needBehind_23 rfl (by decide) rfl ?_
  refine r_aload_n d_X12_needBehind_24 1 rfl rfl ?_
  refine r_getL (v := 342) 12 43 43 rfl d_X12_needBehind_25 fl_X12_102 (by decide) (bs_ob bs_12) (ly_12_43 bs_12).1 (ly_12_43 bs_12).2.1 ?_
  refine r_iload_n d_X12_needBehind_28 2 rfl rfl ?_
  obtain ⟨h1, h⟩ := h
  refine r_iaload d_X12_needBehind_29 (ly_12_43 bs_12).2.2 h1 ?_
  refine r_istore (ls1 := [(4, (0, (G 342 x1))), (3, (0, s0)), (0, (2, 311)), (1, (0, x1)), (2, (0, x2))]) d_X12_needBehind_30 (by decide) rfl ?_
  refine r_iload_n d_X12_needBehind_32 1 rfl rfl ?_
  refine r_istore (ls1 := [(5, (0, s0)), (4, (0, (G 342 x1))), (3, (0, s0)), (0, (2, 311)), (1, (0, x1)), (2, (0, x2))]) d_X12_needBehind_33 (by decide) rfl ?_
  exact Rn.sub [3, 4, 5, 1, 0] rfl h
set_option maxRecDepth 20000 in
theorem s_X12_needBehind_35 {d : Nat} {x1 : Int} {x2 : Int} {x4 : Int} {x5 : Int} {G : Mem} {Q : Int → Mem → Prop}  (h : (InR x5) ∧ (InR x2) ∧ ((x2 ≤ x5) → Q x4 G) ∧ (¬ (x2 ≤ x5) → Ct d M_X12_growth NT 0 0 (some lay) [(2, 311), (0, x1)] G (fun r5 G4 => (InR (x4 + r5)) ∧ (Rn (d + 1) M_X12_needBehind zN 35 [(0, (2, 311)), (1, (0, x1)), (2, (0, x2)), (4, (0, (min 199 (x4 + r5)))), (5, (0, (x5 + 1)))] [] G4 Q)))) : Rn (d + 1) M_X12_needBehind zN 35 [(0, (2, 311)), (1, (0, x1)), (2, (0, x2)), (4, (0, x4)), (5, (0, x5))] [] G Q := by
  refine r_iload d_X12_needBehind_35 4 rfl ?_
  refine r_iload_n d_X12_needBehind_37 2 rfl rfl ?_
  obtain ⟨h1, h⟩ := h
  obtain ⟨h2, h⟩ := h
  refine r_icmp_ge (tgt := 63) d_X12_needBehind_38 (by decide) h1 h2 (fun c3 => ?_) (fun c3 => ?_)
  · replace h := h.1 c3
    refine r_iload d_X12_needBehind_63 3 rfl ?_
    exact r_ireturn d_X12_needBehind_65 rfl ⟨rfl, Nat.le_refl _, Nat.le_refl _⟩ h
  · replace h := h.2 c3
    refine r_sipush d_X12_needBehind_41 (by decide +kernel) ?_
    refine r_iload d_X12_needBehind_44 3 rfl ?_
    refine r_aload_n d_X12_needBehind_46 0 rfl rfl ?_
    refine r_iload_n d_X12_needBehind_47 1 rfl rfl ?_
    refine r_callV0 (M' := M_X12_growth) (ci := 12) [(0, x1)] d_X12_needBehind_48 cl_X12_453 rfl (Nat.le_of_ble_eq_true rfl) (by decide) rfl (bs_ob bs_12) ?_
    refine Ct.mono h (fun r5 G4 h => ?_)
    show Rn _ M_X12_needBehind zN 51 [(0, (2, 311)), (1, (0, x1)), (2, (0, x2)), (4, (0, x4)), (5, (0, x5))] [(0, r5), (0, x4), (0, 199)] G4 Q
    refine r_iadd d_X12_needBehind_51 ?_
    obtain ⟨h6, h⟩ := h
    refine r_mmin d_X12_needBehind_52 ml_X12_456 ⟨by decide, by decide⟩ h6 (Nat.le_of_ble_eq_true rfl) ?_
    refine r_istore (ls1 := [(4, (0, (min 199 (x4 + r5)))), (0, (2, 311)), (1, (0, x1)), (2, (0, x2)), (5, (0, x5))]) d_X12_needBehind_55 (by decide) rfl ?_
    refine r_iinc (ls1 := [(5, (0, (x5 + 1))), (4, (0, (min 199 (x4 + r5)))), (0, (2, 311)), (1, (0, x1)), (2, (0, x2))]) d_X12_needBehind_57 4 rfl (by decide) rfl ?_
    refine r_goto (tgt := 35) d_X12_needBehind_60 (by decide) ?_
    exact Rn.sub [2, 3, 4, 1, 0] rfl h
theorem d_X12_length_0 : decode M_X12_length.2.1 0 = .ok (.aload_n 0, 1) := by decide +kernel
theorem d_X12_length_1 : decode M_X12_length.2.1 1 = .ok (.iconst 0, 1) := by decide +kernel
theorem d_X12_length_2 : decode M_X12_length.2.1 2 = .ok (.putfield 169, 3) := by decide +kernel
theorem d_X12_length_5 : decode M_X12_length.2.1 5 = .ok (.aload_n 0, 1) := by decide +kernel
theorem d_X12_length_6 : decode M_X12_length.2.1 6 = .ok (.iload_n 1, 1) := by decide +kernel
theorem d_X12_length_7 : decode M_X12_length.2.1 7 = .ok (.invokevirtual 404, 3) := by decide +kernel
theorem d_X12_length_10 : decode M_X12_length.2.1 10 = .ok (.ifCond .ne 5, 3) := by decide +kernel
theorem d_X12_length_13 : decode M_X12_length.2.1 13 = .ok (.iconst (-1), 1) := by decide +kernel
theorem d_X12_length_14 : decode M_X12_length.2.1 14 = .ok (.ireturn, 1) := by decide +kernel
theorem d_X12_length_15 : decode M_X12_length.2.1 15 = .ok (.aload_n 0, 1) := by decide +kernel
theorem d_X12_length_16 : decode M_X12_length.2.1 16 = .ok (.getfield 102, 3) := by decide +kernel
theorem d_X12_length_19 : decode M_X12_length.2.1 19 = .ok (.iconst 5, 1) := by decide +kernel
theorem d_X12_length_20 : decode M_X12_length.2.1 20 = .ok (.iload_n 1, 1) := by decide +kernel
theorem d_X12_length_21 : decode M_X12_length.2.1 21 = .ok (.iadd, 1) := by decide +kernel
theorem d_X12_length_22 : decode M_X12_length.2.1 22 = .ok (.iaload, 1) := by decide +kernel
theorem d_X12_length_23 : decode M_X12_length.2.1 23 = .ok (.ifCond .le 14, 3) := by decide +kernel
theorem d_X12_length_26 : decode M_X12_length.2.1 26 = .ok (.aload_n 0, 1) := by decide +kernel
theorem d_X12_length_27 : decode M_X12_length.2.1 27 = .ok (.getfield 102, 3) := by decide +kernel
theorem d_X12_length_30 : decode M_X12_length.2.1 30 = .ok (.iconst 5, 1) := by decide +kernel
theorem d_X12_length_31 : decode M_X12_length.2.1 31 = .ok (.iload_n 1, 1) := by decide +kernel
theorem d_X12_length_32 : decode M_X12_length.2.1 32 = .ok (.iadd, 1) := by decide +kernel
theorem d_X12_length_33 : decode M_X12_length.2.1 33 = .ok (.iaload, 1) := by decide +kernel
theorem d_X12_length_34 : decode M_X12_length.2.1 34 = .ok (.goto 4, 3) := by decide +kernel
theorem d_X12_length_37 : decode M_X12_length.2.1 37 = .ok (.iconst 0, 1) := by decide +kernel
theorem d_X12_length_38 : decode M_X12_length.2.1 38 = .ok (.istore_n 2, 1) := by decide +kernel
theorem d_X12_length_39 : decode M_X12_length.2.1 39 = .ok (.iconst 1, 1) := by decide +kernel
theorem d_X12_length_40 : decode M_X12_length.2.1 40 = .ok (.istore_n 3, 1) := by decide +kernel
theorem d_X12_length_41 : decode M_X12_length.2.1 41 = .ok (.iload_n 3, 1) := by decide +kernel
theorem d_X12_length_42 : decode M_X12_length.2.1 42 = .ok (.aload_n 0, 1) := by decide +kernel
theorem d_X12_length_43 : decode M_X12_length.2.1 43 = .ok (.getfield 13, 3) := by decide +kernel
theorem d_X12_length_46 : decode M_X12_length.2.1 46 = .ok (.iconst 1, 1) := by decide +kernel
theorem d_X12_length_47 : decode M_X12_length.2.1 47 = .ok (.iaload, 1) := by decide +kernel
theorem d_X12_length_48 : decode M_X12_length.2.1 48 = .ok (.aload_n 0, 1) := by decide +kernel
theorem d_X12_length_49 : decode M_X12_length.2.1 49 = .ok (.getfield 102, 3) := by decide +kernel
theorem d_X12_length_52 : decode M_X12_length.2.1 52 = .ok (.bipush 110, 2) := by decide +kernel
theorem d_X12_length_54 : decode M_X12_length.2.1 54 = .ok (.iaload, 1) := by decide +kernel
theorem d_X12_length_55 : decode M_X12_length.2.1 55 = .ok (.isub, 1) := by decide +kernel
theorem d_X12_length_56 : decode M_X12_length.2.1 56 = .ok (.if_icmp .gt 31, 3) := by decide +kernel
theorem d_X12_length_59 : decode M_X12_length.2.1 59 = .ok (.iload_n 3, 1) := by decide +kernel
theorem d_X12_length_60 : decode M_X12_length.2.1 60 = .ok (.iload_n 2, 1) := by decide +kernel
theorem d_X12_length_61 : decode M_X12_length.2.1 61 = .ok (.if_icmp .le 20, 3) := by decide +kernel
theorem d_X12_length_64 : decode M_X12_length.2.1 64 = .ok (.aload_n 0, 1) := by decide +kernel
theorem d_X12_length_65 : decode M_X12_length.2.1 65 = .ok (.iload_n 1, 1) := by decide +kernel
theorem d_X12_length_66 : decode M_X12_length.2.1 66 = .ok (.iload_n 3, 1) := by decide +kernel
theorem d_X12_length_67 : decode M_X12_length.2.1 67 = .ok (.invokevirtual 464, 3) := by decide +kernel
theorem d_X12_length_70 : decode M_X12_length.2.1 70 = .ok (.aload_n 0, 1) := by decide +kernel
theorem d_X12_length_71 : decode M_X12_length.2.1 71 = .ok (.getfield 29, 3) := by decide +kernel
theorem d_X12_length_74 : decode M_X12_length.2.1 74 = .ok (.iload_n 1, 1) := by decide +kernel
theorem d_X12_length_75 : decode M_X12_length.2.1 75 = .ok (.iaload, 1) := by decide +kernel
theorem d_X12_length_76 : decode M_X12_length.2.1 76 = .ok (.if_icmp .le 5, 3) := by decide +kernel
theorem d_X12_length_79 : decode M_X12_length.2.1 79 = .ok (.iload_n 3, 1) := by decide +kernel
theorem d_X12_length_80 : decode M_X12_length.2.1 80 = .ok (.ireturn, 1) := by decide +kernel
theorem d_X12_length_81 : decode M_X12_length.2.1 81 = .ok (.iinc 3 1, 3) := by decide +kernel
theorem d_X12_length_84 : decode M_X12_length.2.1 84 = .ok (.goto (-43), 3) := by decide +kernel
theorem d_X12_length_87 : decode M_X12_length.2.1 87 = .ok (.iconst (-1), 1) := by decide +kernel
theorem d_X12_length_88 : decode M_X12_length.2.1 88 = .ok (.ireturn, 1) := by decide +kernel
set_option maxRecDepth 20000 in
theorem s_X12_length_0 {d : Nat} {p0 : Int} {G : Mem} {Q : Int → Mem → Prop}  (h : (∀ G1 : Mem, G1 = st G 311 0 0 → Ct d M_X12_isSitter NT 0 0 (some lay) [(2, 311), (0, p0)] G1 (fun r3 G2 => (InR r3) ∧ ((r3 ≠ 0) → (0 ≤ (5 + p0) ∧ (5 + p0) < 116) ∧ ((InR (G2 342 (5 + p0))) ∧ (((G2 342 (5 + p0)) ≤ 0) → Rn (d + 1) M_X12_length zN 41 [(0, (2, 311)), (1, (0, p0)), (2, (0, 0)), (3, (0, 1))] [] G2 Q) ∧ (¬ ((G2 342 (5 + p0)) ≤ 0) → Rn (d + 1) M_X12_length zN 41 [(0, (2, 311)), (1, (0, p0)), (2, (0, (G2 342 (5 + p0)))), (3, (0, 1))] [] G2 Q))) ∧ (¬ (r3 ≠ 0) → Q (-1) G2)))) : Rn (d + 1) M_X12_length zN 0 [(0, (2, 311)), (1, (0, p0))] [] G Q := by
  refine r_aload_n d_X12_length_0 0 rfl rfl ?_
  refine r_iconst d_X12_length_1 ?_
  obtain ⟨G1, eG1⟩ : ∃ y : Mem, y = st G 311 0 0 := ⟨_, rfl⟩
  replace h := h G1 eG1
  refine r_putI 12 0 0 rfl d_X12_length_2 fl_X12_169 (by decide) nofin_12_0 (bs_ob bs_12) ?_
  rw [← eG1]
  refine r_aload_n d_X12_length_5 0 rfl rfl ?_
  refine r_iload_n d_X12_length_6 1 rfl rfl ?_
  refine r_callV0 (M' := M_X12_isSitter) (ci := 12) [(0, p0)] d_X12_length_7 cl_X12_404 rfl (Nat.le_of_ble_eq_true rfl) (by decide) rfl (bs_ob bs_12) ?_
  refine Ct.mono h (fun r3 G2 h => ?_)
  show Rn _ M_X12_length zN 10 [(0, (2, 311)), (1, (0, p0))] [(0, r3)] G2 Q
  obtain ⟨h4, h⟩ := h
  refine r_if_ne (tgt := 15) d_X12_length_10 (by decide) h4 (fun c5 => ?_) (fun c5 => ?_)
  · replace h := h.1 c5
    refine r_aload_n d_X12_length_15 0 rfl rfl ?_
    refine r_getL (v := 342) 12 43 43 rfl d_X12_length_16 fl_X12_102 (by decide) (bs_ob bs_12) (ly_12_43 bs_12).1 (ly_12_43 bs_12).2.1 ?_
    refine r_iconst d_X12_length_19 ?_
    refine r_iload_n d_X12_length_20 1 rfl rfl ?_
    refine r_iadd d_X12_length_21 ?_
    obtain ⟨h6, h⟩ := h
    refine r_iaload d_X12_length_22 (ly_12_43 bs_12).2.2 h6 ?_
    obtain ⟨h7, h⟩ := h
    refine r_if_le (tgt := 37) d_X12_length_23 (by decide) h7 (fun c8 => ?_) (fun c8 => ?_)
    · replace h := h.1 c8
      refine r_iconst d_X12_length_37 ?_
      refine r_istore_n (ls1 := [(2, (0, 0)), (0, (2, 311)), (1, (0, p0))]) d_X12_length_38 rfl (by decide) rfl ?_
      refine r_iconst d_X12_length_39 ?_
      refine r_istore_n (ls1 := [(3, (0, 1)), (2, (0, 0)), (0, (2, 311)), (1, (0, p0))]) d_X12_length_40 rfl (by decide) rfl ?_
      exact Rn.sub [2, 3, 1, 0] rfl h
    · replace h := h.2 c8
      refine r_aload_n d_X12_length_26 0 rfl rfl ?_
      refine r_getL (v := 342) 12 43 43 rfl d_X12_length_27 fl_X12_102 (by decide) (bs_ob bs_12) (ly_12_43 bs_12).1 (ly_12_43 bs_12).2.1 ?_
      refine r_iconst d_X12_length_30 ?_
      refine r_iload_n d_X12_length_31 1 rfl rfl ?_
      refine r_iadd d_X12_length_32 ?_
      refine r_iaload d_X12_length_33 (ly_12_43 bs_12).2.2 h6 ?_
      refine r_goto (tgt := 38) d_X12_length_34 (by decide) ?_
      refine r_istore_n (ls1 := [(2, (0, (G2 342 (5 + p0)))), (0, (2, 311)), (1, (0, p0))]) d_X12_length_38 rfl (by decide) rfl ?_
      refine r_iconst d_X12_length_39 ?_
      refine r_istore_n (ls1 := [(3, (0, 1)), (2, (0, (G2 342 (5 + p0)))), (0, (2, 311)), (1, (0, p0))]) d_X12_length_40 rfl (by decide) rfl ?_
      exact Rn.sub [2, 3, 1, 0] rfl h
  · replace h := h.2 c5
    refine r_iconst d_X12_length_13 ?_
    exact r_ireturn d_X12_length_14 rfl ⟨rfl, Nat.le_refl _, Nat.le_refl _⟩ h
set_option maxRecDepth 20000 in
theorem s_X12_length_41 {d : Nat} {x1 : Int} {x2 : Int} {x3 : Int} {G : Mem} {Q : Int → Mem → Prop}  (h : (InR x3) ∧ (InR ((G 313 1) - (G 342 110))) ∧ ((((G 313 1) - (G 342 110)) < x3) → Q (-1) G) ∧ (¬ (((G 313 1) - (G 342 110)) < x3) → (InR x2) ∧ ((x3 ≤ x2) → Rn (d + 1) M_X12_length zN 41 [(0, (2, 311)), (1, (0, x1)), (2, (0, x2)), (3, (0, (x3 + 1)))] [] G Q) ∧ (¬ (x3 ≤ x2) → Ct d M_X12_needBehind NT 0 0 (some lay) [(2, 311), (0, x1), (0, x3)] G (fun r7 G6 => (0 ≤ x1 ∧ x1 < 30) ∧ ((InR r7) ∧ (InR (G6 318 x1)) ∧ ((r7 ≤ (G6 318 x1)) → Rn (d + 1) M_X12_length zN 41 [(0, (2, 311)), (1, (0, x1)), (2, (0, x2)), (3, (0, (x3 + 1)))] [] G6 Q) ∧ (¬ (r7 ≤ (G6 318 x1)) → Q x3 G6)))))) : Rn (d + 1) M_X12_length zN 41 [(0, (2, 311)), (1, (0, x1)), (2, (0, x2)), (3, (0, x3))] [] G Q := by
  refine r_iload_n d_X12_length_41 3 rfl rfl ?_
  refine r_aload_n d_X12_length_42 0 rfl rfl ?_
  refine r_getL (v := 313) 12 10 10 rfl d_X12_length_43 fl_X12_13 (by decide) (bs_ob bs_12) (ly_12_10 bs_12).1 (ly_12_10 bs_12).2.1 ?_
  refine r_iconst d_X12_length_46 ?_
  refine r_iaload d_X12_length_47 (ly_12_10 bs_12).2.2 (by decide) ?_
  refine r_aload_n d_X12_length_48 0 rfl rfl ?_
  refine r_getL (v := 342) 12 43 43 rfl d_X12_length_49 fl_X12_102 (by decide) (bs_ob bs_12) (ly_12_43 bs_12).1 (ly_12_43 bs_12).2.1 ?_
  refine r_bipush d_X12_length_52 (by decide +kernel) ?_
  refine r_iaload d_X12_length_54 (ly_12_43 bs_12).2.2 (by decide) ?_
  refine r_isub d_X12_length_55 ?_
  obtain ⟨h1, h⟩ := h
  obtain ⟨h2, h⟩ := h
  refine r_icmp_gt (tgt := 87) d_X12_length_56 (by decide) h1 h2 (fun c3 => ?_) (fun c3 => ?_)
  · replace h := h.1 c3
    refine r_iconst d_X12_length_87 ?_
    exact r_ireturn d_X12_length_88 rfl ⟨rfl, Nat.le_refl _, Nat.le_refl _⟩ h
  · replace h := h.2 c3
    refine r_iload_n d_X12_length_59 3 rfl rfl ?_
    refine r_iload_n d_X12_length_60 2 rfl rfl ?_
    obtain ⟨h4, h⟩ := h
    refine r_icmp_le (tgt := 81) d_X12_length_61 (by decide) h1 h4 (fun c5 => ?_) (fun c5 => ?_)
    · replace h := h.1 c5
      refine r_iinc (ls1 := [(3, (0, (x3 + 1))), (0, (2, 311)), (1, (0, x1)), (2, (0, x2))]) d_X12_length_81 3 rfl (by decide) rfl ?_
      refine r_goto (tgt := 41) d_X12_length_84 (by decide) ?_
      exact Rn.sub [1, 2, 3, 0] rfl h
    · replace h := h.2 c5
      refine r_aload_n d_X12_length_64 0 rfl rfl ?_
      refine r_iload_n d_X12_length_65 1 rfl rfl ?_
      refine r_iload_n d_X12_length_66 3 rfl rfl ?_
      refine r_callV0 (M' := M_X12_needBehind) (ci := 12) [(0, x1), (0, x3)] d_X12_length_67 cl_X12_464 rfl (Nat.le_of_ble_eq_true rfl) (by decide) rfl (bs_ob bs_12) ?_
      refine Ct.mono h (fun r7 G6 h => ?_)
      show Rn _ M_X12_length zN 70 [(0, (2, 311)), (1, (0, x1)), (2, (0, x2)), (3, (0, x3))] [(0, r7)] G6 Q
      refine r_aload_n d_X12_length_70 0 rfl rfl ?_
      refine r_getL (v := 318) 12 15 15 rfl d_X12_length_71 fl_X12_29 (by decide) (bs_ob bs_12) (ly_12_15 bs_12).1 (ly_12_15 bs_12).2.1 ?_
      refine r_iload_n d_X12_length_74 1 rfl rfl ?_
      obtain ⟨h8, h⟩ := h
      refine r_iaload d_X12_length_75 (ly_12_15 bs_12).2.2 h8 ?_
      obtain ⟨h9, h⟩ := h
      obtain ⟨h10, h⟩ := h
      refine r_icmp_le (tgt := 81) d_X12_length_76 (by decide) h9 h10 (fun c11 => ?_) (fun c11 => ?_)
      · replace h := h.1 c11
        refine r_iinc (ls1 := [(3, (0, (x3 + 1))), (0, (2, 311)), (1, (0, x1)), (2, (0, x2))]) d_X12_length_81 3 rfl (by decide) rfl ?_
        refine r_goto (tgt := 41) d_X12_length_84 (by decide) ?_
        exact Rn.sub [1, 2, 3, 0] rfl h
      · replace h := h.2 c11
        refine r_iload_n d_X12_length_79 3 rfl rfl ?_
        exact r_ireturn d_X12_length_80 rfl ⟨rfl, Nat.le_refl _, Nat.le_refl _⟩ h
theorem d_X12_sleep_0 : decode M_X12_sleep.2.1 0 = .ok (.aload_n 0, 1) := by decide +kernel
theorem d_X12_sleep_1 : decode M_X12_sleep.2.1 1 = .ok (.iconst 0, 1) := by decide +kernel
theorem d_X12_sleep_2 : decode M_X12_sleep.2.1 2 = .ok (.putfield 169, 3) := by decide +kernel
theorem d_X12_sleep_5 : decode M_X12_sleep.2.1 5 = .ok (.aload_n 0, 1) := by decide +kernel
theorem d_X12_sleep_6 : decode M_X12_sleep.2.1 6 = .ok (.iload_n 1, 1) := by decide +kernel
theorem d_X12_sleep_7 : decode M_X12_sleep.2.1 7 = .ok (.invokevirtual 404, 3) := by decide +kernel
theorem d_X12_sleep_10 : decode M_X12_sleep.2.1 10 = .ok (.ifCond .ne 5, 3) := by decide +kernel
theorem d_X12_sleep_13 : decode M_X12_sleep.2.1 13 = .ok (.iconst (-1), 1) := by decide +kernel
theorem d_X12_sleep_14 : decode M_X12_sleep.2.1 14 = .ok (.ireturn, 1) := by decide +kernel
theorem d_X12_sleep_15 : decode M_X12_sleep.2.1 15 = .ok (.aload_n 0, 1) := by decide +kernel
theorem d_X12_sleep_16 : decode M_X12_sleep.2.1 16 = .ok (.iload_n 1, 1) := by decide +kernel
theorem d_X12_sleep_17 : decode M_X12_sleep.2.1 17 = .ok (.invokevirtual 407, 3) := by decide +kernel
theorem d_X12_sleep_20 : decode M_X12_sleep.2.1 20 = .ok (.ifCond .eq 20, 3) := by decide +kernel
theorem d_X12_sleep_23 : decode M_X12_sleep.2.1 23 = .ok (.aload_n 0, 1) := by decide +kernel
theorem d_X12_sleep_24 : decode M_X12_sleep.2.1 24 = .ok (.getfield 44, 3) := by decide +kernel
theorem d_X12_sleep_27 : decode M_X12_sleep.2.1 27 = .ok (.iload_n 1, 1) := by decide +kernel
theorem d_X12_sleep_28 : decode M_X12_sleep.2.1 28 = .ok (.iaload, 1) := by decide +kernel
theorem d_X12_sleep_29 : decode M_X12_sleep.2.1 29 = .ok (.aload_n 0, 1) := by decide +kernel
theorem d_X12_sleep_30 : decode M_X12_sleep.2.1 30 = .ok (.getfield 102, 3) := by decide +kernel
theorem d_X12_sleep_33 : decode M_X12_sleep.2.1 33 = .ok (.bipush 110, 2) := by decide +kernel
theorem d_X12_sleep_35 : decode M_X12_sleep.2.1 35 = .ok (.iaload, 1) := by decide +kernel
theorem d_X12_sleep_36 : decode M_X12_sleep.2.1 36 = .ok (.isub, 1) := by decide +kernel
theorem d_X12_sleep_37 : decode M_X12_sleep.2.1 37 = .ok (.goto 4, 3) := by decide +kernel
theorem d_X12_sleep_40 : decode M_X12_sleep.2.1 40 = .ok (.iconst 0, 1) := by decide +kernel
theorem d_X12_sleep_41 : decode M_X12_sleep.2.1 41 = .ok (.ireturn, 1) := by decide +kernel
set_option maxRecDepth 20000 in
theorem s_X12_sleep_0 {d : Nat} {p0 : Int} {G : Mem} {Q : Int → Mem → Prop}  (h : (∀ G1 : Mem, G1 = st G 311 0 0 → Ct d M_X12_isSitter NT 0 0 (some lay) [(2, 311), (0, p0)] G1 (fun r3 G2 => (InR r3) ∧ ((r3 ≠ 0) → Ct d M_X12_isAsleep NT 0 0 (some lay) [(2, 311), (0, p0)] G2 (fun r7 G6 => (InR r7) ∧ ((r7 = 0) → Q 0 G6) ∧ (¬ (r7 = 0) → (0 ≤ p0 ∧ p0 < 30) ∧ (Q ((G6 323 p0) - (G6 342 110)) G6)))) ∧ (¬ (r3 ≠ 0) → Q (-1) G2)))) : Rn (d + 1) M_X12_sleep zN 0 [(0, (2, 311)), (1, (0, p0))] [] G Q := by
  refine r_aload_n d_X12_sleep_0 0 rfl rfl ?_
  refine r_iconst d_X12_sleep_1 ?_
  obtain ⟨G1, eG1⟩ : ∃ y : Mem, y = st G 311 0 0 := ⟨_, rfl⟩
  replace h := h G1 eG1
  refine r_putI 12 0 0 rfl d_X12_sleep_2 fl_X12_169 (by decide) nofin_12_0 (bs_ob bs_12) ?_
  rw [← eG1]
  refine r_aload_n d_X12_sleep_5 0 rfl rfl ?_
  refine r_iload_n d_X12_sleep_6 1 rfl rfl ?_
  refine r_callV0 (M' := M_X12_isSitter) (ci := 12) [(0, p0)] d_X12_sleep_7 cl_X12_404 rfl (Nat.le_of_ble_eq_true rfl) (by decide) rfl (bs_ob bs_12) ?_
  refine Ct.mono h (fun r3 G2 h => ?_)
  show Rn _ M_X12_sleep zN 10 [(0, (2, 311)), (1, (0, p0))] [(0, r3)] G2 Q
  obtain ⟨h4, h⟩ := h
  refine r_if_ne (tgt := 15) d_X12_sleep_10 (by decide) h4 (fun c5 => ?_) (fun c5 => ?_)
  · replace h := h.1 c5
    refine r_aload_n d_X12_sleep_15 0 rfl rfl ?_
    refine r_iload_n d_X12_sleep_16 1 rfl rfl ?_
    refine r_callV0 (M' := M_X12_isAsleep) (ci := 12) [(0, p0)] d_X12_sleep_17 cl_X12_407 rfl (Nat.le_of_ble_eq_true rfl) (by decide) rfl (bs_ob bs_12) ?_
    refine Ct.mono h (fun r7 G6 h => ?_)
    show Rn _ M_X12_sleep zN 20 [(0, (2, 311)), (1, (0, p0))] [(0, r7)] G6 Q
    obtain ⟨h8, h⟩ := h
    refine r_if_eq (tgt := 40) d_X12_sleep_20 (by decide) h8 (fun c9 => ?_) (fun c9 => ?_)
    · replace h := h.1 c9
      refine r_iconst d_X12_sleep_40 ?_
      exact r_ireturn d_X12_sleep_41 rfl ⟨rfl, Nat.le_refl _, Nat.le_refl _⟩ h
    · replace h := h.2 c9
      refine r_aload_n d_X12_sleep_23 0 rfl rfl ?_
      refine r_getL (v := 323) 12 20 20 rfl d_X12_sleep_24 fl_X12_44 (by decide) (bs_ob bs_12) (ly_12_20 bs_12).1 (ly_12_20 bs_12).2.1 ?_
      refine r_iload_n d_X12_sleep_27 1 rfl rfl ?_
      obtain ⟨h10, h⟩ := h
      refine r_iaload d_X12_sleep_28 (ly_12_20 bs_12).2.2 h10 ?_
      refine r_aload_n d_X12_sleep_29 0 rfl rfl ?_
      refine r_getL (v := 342) 12 43 43 rfl d_X12_sleep_30 fl_X12_102 (by decide) (bs_ob bs_12) (ly_12_43 bs_12).1 (ly_12_43 bs_12).2.1 ?_
      refine r_bipush d_X12_sleep_33 (by decide +kernel) ?_
      refine r_iaload d_X12_sleep_35 (ly_12_43 bs_12).2.2 (by decide) ?_
      refine r_isub d_X12_sleep_36 ?_
      refine r_goto (tgt := 41) d_X12_sleep_37 (by decide) ?_
      exact r_ireturn d_X12_sleep_41 rfl ⟨rfl, Nat.le_refl _, Nat.le_refl _⟩ h
  · replace h := h.2 c5
    refine r_iconst d_X12_sleep_13 ?_
    exact r_ireturn d_X12_sleep_14 rfl ⟨rfl, Nat.le_refl _, Nat.le_refl _⟩ h
theorem d_X12_odds_0 : decode M_X12_odds.2.1 0 = .ok (.aload_n 0, 1) := by decide +kernel
theorem d_X12_odds_1 : decode M_X12_odds.2.1 1 = .ok (.iconst 0, 1) := by decide +kernel
theorem d_X12_odds_2 : decode M_X12_odds.2.1 2 = .ok (.putfield 169, 3) := by decide +kernel
theorem d_X12_odds_5 : decode M_X12_odds.2.1 5 = .ok (.aload_n 0, 1) := by decide +kernel
theorem d_X12_odds_6 : decode M_X12_odds.2.1 6 = .ok (.iload_n 1, 1) := by decide +kernel
theorem d_X12_odds_7 : decode M_X12_odds.2.1 7 = .ok (.invokevirtual 404, 3) := by decide +kernel
theorem d_X12_odds_10 : decode M_X12_odds.2.1 10 = .ok (.ifCond .eq 12, 3) := by decide +kernel
theorem d_X12_odds_13 : decode M_X12_odds.2.1 13 = .ok (.iload_n 2, 1) := by decide +kernel
theorem d_X12_odds_14 : decode M_X12_odds.2.1 14 = .ok (.iconst 0, 1) := by decide +kernel
theorem d_X12_odds_15 : decode M_X12_odds.2.1 15 = .ok (.iconst 2, 1) := by decide +kernel
theorem d_X12_odds_16 : decode M_X12_odds.2.1 16 = .ok (.invokestatic 308, 3) := by decide +kernel
theorem d_X12_odds_19 : decode M_X12_odds.2.1 19 = .ok (.ifCond .ne 5, 3) := by decide +kernel
theorem d_X12_odds_22 : decode M_X12_odds.2.1 22 = .ok (.iconst (-1), 1) := by decide +kernel
theorem d_X12_odds_23 : decode M_X12_odds.2.1 23 = .ok (.ireturn, 1) := by decide +kernel
theorem d_X12_odds_24 : decode M_X12_odds.2.1 24 = .ok (.iload_n 2, 1) := by decide +kernel
theorem d_X12_odds_25 : decode M_X12_odds.2.1 25 = .ok (.ifCond .ne 18, 3) := by decide +kernel
theorem d_X12_odds_28 : decode M_X12_odds.2.1 28 = .ok (.aload_n 0, 1) := by decide +kernel
theorem d_X12_odds_29 : decode M_X12_odds.2.1 29 = .ok (.iload_n 1, 1) := by decide +kernel
theorem d_X12_odds_30 : decode M_X12_odds.2.1 30 = .ok (.aload_n 0, 1) := by decide +kernel
theorem d_X12_odds_31 : decode M_X12_odds.2.1 31 = .ok (.getfield 102, 3) := by decide +kernel
theorem d_X12_odds_34 : decode M_X12_odds.2.1 34 = .ok (.bipush 110, 2) := by decide +kernel
theorem d_X12_odds_36 : decode M_X12_odds.2.1 36 = .ok (.iaload, 1) := by decide +kernel
theorem d_X12_odds_37 : decode M_X12_odds.2.1 37 = .ok (.invokevirtual 467, 3) := by decide +kernel
theorem d_X12_odds_40 : decode M_X12_odds.2.1 40 = .ok (.goto 18, 3) := by decide +kernel
theorem d_X12_odds_43 : decode M_X12_odds.2.1 43 = .ok (.aload_n 0, 1) := by decide +kernel
theorem d_X12_odds_44 : decode M_X12_odds.2.1 44 = .ok (.iload_n 1, 1) := by decide +kernel
theorem d_X12_odds_45 : decode M_X12_odds.2.1 45 = .ok (.iload_n 2, 1) := by decide +kernel
theorem d_X12_odds_46 : decode M_X12_odds.2.1 46 = .ok (.iconst 1, 1) := by decide +kernel
theorem d_X12_odds_47 : decode M_X12_odds.2.1 47 = .ok (.isub, 1) := by decide +kernel
theorem d_X12_odds_48 : decode M_X12_odds.2.1 48 = .ok (.aload_n 0, 1) := by decide +kernel
theorem d_X12_odds_49 : decode M_X12_odds.2.1 49 = .ok (.getfield 102, 3) := by decide +kernel
theorem d_X12_odds_52 : decode M_X12_odds.2.1 52 = .ok (.bipush 110, 2) := by decide +kernel
theorem d_X12_odds_54 : decode M_X12_odds.2.1 54 = .ok (.iaload, 1) := by decide +kernel
theorem d_X12_odds_55 : decode M_X12_odds.2.1 55 = .ok (.invokevirtual 470, 3) := by decide +kernel
theorem d_X12_odds_58 : decode M_X12_odds.2.1 58 = .ok (.ireturn, 1) := by decide +kernel
set_option maxRecDepth 20000 in
theorem s_X12_odds_0 {d : Nat} {p0 : Int} {p1 : Int} {G : Mem} {Q : Int → Mem → Prop}  (h : (∀ G1 : Mem, G1 = st G 311 0 0 → Ct d M_X12_isSitter NT 0 0 (some lay) [(2, 311), (0, p0)] G1 (fun r3 G2 => (InR r3) ∧ ((r3 = 0) → Q (-1) G2) ∧ (¬ (r3 = 0) → Ct d M_X12_within NT 0 0 (some lay) [(0, p1), (0, 0), (0, 2)] G2 (fun r7 G6 => (InR r7) ∧ ((r7 ≠ 0) → (InR p1) ∧ ((p1 ≠ 0) → Ct d M_X12_spilling NT 0 0 (some lay) [(2, 311), (0, p0), (0, (p1 - 1)), (0, (G6 342 110))] G6 (fun r13 G12 => Q r13 G12)) ∧ (¬ (p1 ≠ 0) → Ct d M_X12_waking NT 0 0 (some lay) [(2, 311), (0, p0), (0, (G6 342 110))] G6 (fun r15 G14 => Q r15 G14))) ∧ (¬ (r7 ≠ 0) → Q (-1) G6)))))) : Rn (d + 1) M_X12_odds zN 0 [(0, (2, 311)), (1, (0, p0)), (2, (0, p1))] [] G Q := by
  refine r_aload_n d_X12_odds_0 0 rfl rfl ?_
  refine r_iconst d_X12_odds_1 ?_
  obtain ⟨G1, eG1⟩ : ∃ y : Mem, y = st G 311 0 0 := ⟨_, rfl⟩
  replace h := h G1 eG1
  refine r_putI 12 0 0 rfl d_X12_odds_2 fl_X12_169 (by decide) nofin_12_0 (bs_ob bs_12) ?_
  rw [← eG1]
  refine r_aload_n d_X12_odds_5 0 rfl rfl ?_
  refine r_iload_n d_X12_odds_6 1 rfl rfl ?_
  refine r_callV0 (M' := M_X12_isSitter) (ci := 12) [(0, p0)] d_X12_odds_7 cl_X12_404 rfl (Nat.le_of_ble_eq_true rfl) (by decide) rfl (bs_ob bs_12) ?_
  refine Ct.mono h (fun r3 G2 h => ?_)
  show Rn _ M_X12_odds zN 10 [(0, (2, 311)), (1, (0, p0)), (2, (0, p1))] [(0, r3)] G2 Q
  obtain ⟨h4, h⟩ := h
  refine r_if_eq (tgt := 22) d_X12_odds_10 (by decide) h4 (fun c5 => ?_) (fun c5 => ?_)
  · replace h := h.1 c5
    refine r_iconst d_X12_odds_22 ?_
    exact r_ireturn d_X12_odds_23 rfl ⟨rfl, Nat.le_refl _, Nat.le_refl _⟩ h
  · replace h := h.2 c5
    refine r_iload_n d_X12_odds_13 2 rfl rfl ?_
    refine r_iconst d_X12_odds_14 ?_
    refine r_iconst d_X12_odds_15 ?_
    refine r_callS0 (M' := M_X12_within) [(0, p1), (0, 0), (0, 2)] d_X12_odds_16 cl_X12_308 rfl (Nat.le_of_ble_eq_true rfl) ?_
    refine Ct.mono h (fun r7 G6 h => ?_)
    show Rn _ M_X12_odds zN 19 [(0, (2, 311)), (1, (0, p0)), (2, (0, p1))] [(0, r7)] G6 Q
    obtain ⟨h8, h⟩ := h
    refine r_if_ne (tgt := 24) d_X12_odds_19 (by decide) h8 (fun c9 => ?_) (fun c9 => ?_)
    · replace h := h.1 c9
      refine r_iload_n d_X12_odds_24 2 rfl rfl ?_
      obtain ⟨h10, h⟩ := h
      refine r_if_ne (tgt := 43) d_X12_odds_25 (by decide) h10 (fun c11 => ?_) (fun c11 => ?_)
      · replace h := h.1 c11
        refine r_aload_n d_X12_odds_43 0 rfl rfl ?_
        refine r_iload_n d_X12_odds_44 1 rfl rfl ?_
        refine r_iload_n d_X12_odds_45 2 rfl rfl ?_
        refine r_iconst d_X12_odds_46 ?_
        refine r_isub d_X12_odds_47 ?_
        refine r_aload_n d_X12_odds_48 0 rfl rfl ?_
        refine r_getL (v := 342) 12 43 43 rfl d_X12_odds_49 fl_X12_102 (by decide) (bs_ob bs_12) (ly_12_43 bs_12).1 (ly_12_43 bs_12).2.1 ?_
        refine r_bipush d_X12_odds_52 (by decide +kernel) ?_
        refine r_iaload d_X12_odds_54 (ly_12_43 bs_12).2.2 (by decide) ?_
        refine r_callV0 (M' := M_X12_spilling) (ci := 12) [(0, p0), (0, (p1 - 1)), (0, (G6 342 110))] d_X12_odds_55 cl_X12_470 rfl (Nat.le_of_ble_eq_true rfl) (by decide) rfl (bs_ob bs_12) ?_
        refine Ct.mono h (fun r13 G12 h => ?_)
        show Rn _ M_X12_odds zN 58 [(0, (2, 311)), (1, (0, p0)), (2, (0, p1))] [(0, r13)] G12 Q
        exact r_ireturn d_X12_odds_58 rfl ⟨rfl, Nat.le_refl _, Nat.le_refl _⟩ h
      · replace h := h.2 c11
        refine r_aload_n d_X12_odds_28 0 rfl rfl ?_
        refine r_iload_n d_X12_odds_29 1 rfl rfl ?_
        refine r_aload_n d_X12_odds_30 0 rfl rfl ?_
        refine r_getL (v := 342) 12 43 43 rfl d_X12_odds_31 fl_X12_102 (by decide) (bs_ob bs_12) (ly_12_43 bs_12).1 (ly_12_43 bs_12).2.1 ?_
        refine r_bipush d_X12_odds_34 (by decide +kernel) ?_
        refine r_iaload d_X12_odds_36 (ly_12_43 bs_12).2.2 (by decide) ?_
        refine r_callV0 (M' := M_X12_waking) (ci := 12) [(0, p0), (0, (G6 342 110))] d_X12_odds_37 cl_X12_467 rfl (Nat.le_of_ble_eq_true rfl) (by decide) rfl (bs_ob bs_12) ?_
        refine Ct.mono h (fun r15 G14 h => ?_)
        show Rn _ M_X12_odds zN 40 [(0, (2, 311)), (1, (0, p0)), (2, (0, p1))] [(0, r15)] G14 Q
        refine r_goto (tgt := 58) d_X12_odds_40 (by decide) ?_
        exact r_ireturn d_X12_odds_58 rfl ⟨rfl, Nat.le_refl _, Nat.le_refl _⟩ h
    · replace h := h.2 c9
      refine r_iconst d_X12_odds_22 ?_
      exact r_ireturn d_X12_odds_23 rfl ⟨rfl, Nat.le_refl _, Nat.le_refl _⟩ h
theorem d_X12_weighs_0 : decode M_X12_weighs.2.1 0 = .ok (.aload_n 0, 1) := by decide +kernel
theorem d_X12_weighs_1 : decode M_X12_weighs.2.1 1 = .ok (.sipush 10000, 3) := by decide +kernel
theorem d_X12_weighs_4 : decode M_X12_weighs.2.1 4 = .ok (.putfield 473, 3) := by decide +kernel
theorem d_X12_weighs_7 : decode M_X12_weighs.2.1 7 = .ok (.aload_n 0, 1) := by decide +kernel
theorem d_X12_weighs_8 : decode M_X12_weighs.2.1 8 = .ok (.sipush 10000, 3) := by decide +kernel
theorem d_X12_weighs_11 : decode M_X12_weighs.2.1 11 = .ok (.putfield 476, 3) := by decide +kernel
theorem d_X12_weighs_14 : decode M_X12_weighs.2.1 14 = .ok (.aload_n 0, 1) := by decide +kernel
theorem d_X12_weighs_15 : decode M_X12_weighs.2.1 15 = .ok (.iconst 0, 1) := by decide +kernel
theorem d_X12_weighs_16 : decode M_X12_weighs.2.1 16 = .ok (.putfield 479, 3) := by decide +kernel
theorem d_X12_weighs_19 : decode M_X12_weighs.2.1 19 = .ok (.aload_n 0, 1) := by decide +kernel
theorem d_X12_weighs_20 : decode M_X12_weighs.2.1 20 = .ok (.getfield 23, 3) := by decide +kernel
theorem d_X12_weighs_23 : decode M_X12_weighs.2.1 23 = .ok (.iload_n 1, 1) := by decide +kernel
theorem d_X12_weighs_24 : decode M_X12_weighs.2.1 24 = .ok (.iaload, 1) := by decide +kernel
theorem d_X12_weighs_25 : decode M_X12_weighs.2.1 25 = .ok (.iconst 1, 1) := by decide +kernel
theorem d_X12_weighs_26 : decode M_X12_weighs.2.1 26 = .ok (.iadd, 1) := by decide +kernel
theorem d_X12_weighs_27 : decode M_X12_weighs.2.1 27 = .ok (.istore 4, 2) := by decide +kernel
theorem d_X12_weighs_29 : decode M_X12_weighs.2.1 29 = .ok (.iload 4, 2) := by decide +kernel
theorem d_X12_weighs_31 : decode M_X12_weighs.2.1 31 = .ok (.aload_n 0, 1) := by decide +kernel
theorem d_X12_weighs_32 : decode M_X12_weighs.2.1 32 = .ok (.getfield 13, 3) := by decide +kernel
theorem d_X12_weighs_35 : decode M_X12_weighs.2.1 35 = .ok (.iconst 0, 1) := by decide +kernel
theorem d_X12_weighs_36 : decode M_X12_weighs.2.1 36 = .ok (.iaload, 1) := by decide +kernel
theorem d_X12_weighs_37 : decode M_X12_weighs.2.1 37 = .ok (.if_icmp .ge 157, 3) := by decide +kernel
theorem d_X12_weighs_40 : decode M_X12_weighs.2.1 40 = .ok (.aload_n 0, 1) := by decide +kernel
theorem d_X12_weighs_41 : decode M_X12_weighs.2.1 41 = .ok (.iload 4, 2) := by decide +kernel
theorem d_X12_weighs_43 : decode M_X12_weighs.2.1 43 = .ok (.invokevirtual 413, 3) := by decide +kernel
theorem d_X12_weighs_46 : decode M_X12_weighs.2.1 46 = .ok (.istore 5, 2) := by decide +kernel
theorem d_X12_weighs_48 : decode M_X12_weighs.2.1 48 = .ok (.iload 5, 2) := by decide +kernel
theorem d_X12_weighs_50 : decode M_X12_weighs.2.1 50 = .ok (.ifCond .lt 138, 3) := by decide +kernel
theorem d_X12_weighs_53 : decode M_X12_weighs.2.1 53 = .ok (.aload_n 0, 1) := by decide +kernel
theorem d_X12_weighs_54 : decode M_X12_weighs.2.1 54 = .ok (.iload 5, 2) := by decide +kernel
theorem d_X12_weighs_56 : decode M_X12_weighs.2.1 56 = .ok (.iload_n 3, 1) := by decide +kernel
theorem d_X12_weighs_57 : decode M_X12_weighs.2.1 57 = .ok (.invokevirtual 380, 3) := by decide +kernel
theorem d_X12_weighs_60 : decode M_X12_weighs.2.1 60 = .ok (.ifCond .ne 6, 3) := by decide +kernel
theorem d_X12_weighs_63 : decode M_X12_weighs.2.1 63 = .ok (.goto 125, 3) := by decide +kernel
theorem d_X12_weighs_66 : decode M_X12_weighs.2.1 66 = .ok (.iload_n 2, 1) := by decide +kernel
theorem d_X12_weighs_67 : decode M_X12_weighs.2.1 67 = .ok (.iload 4, 2) := by decide +kernel
theorem d_X12_weighs_69 : decode M_X12_weighs.2.1 69 = .ok (.invokestatic 430, 3) := by decide +kernel
theorem d_X12_weighs_72 : decode M_X12_weighs.2.1 72 = .ok (.istore 6, 2) := by decide +kernel
theorem d_X12_weighs_74 : decode M_X12_weighs.2.1 74 = .ok (.iload 6, 2) := by decide +kernel
theorem d_X12_weighs_76 : decode M_X12_weighs.2.1 76 = .ok (.ifCond .ne 13, 3) := by decide +kernel
theorem d_X12_weighs_79 : decode M_X12_weighs.2.1 79 = .ok (.aload_n 0, 1) := by decide +kernel
theorem d_X12_weighs_80 : decode M_X12_weighs.2.1 80 = .ok (.iload 5, 2) := by decide +kernel
theorem d_X12_weighs_82 : decode M_X12_weighs.2.1 82 = .ok (.iload_n 3, 1) := by decide +kernel
theorem d_X12_weighs_83 : decode M_X12_weighs.2.1 83 = .ok (.invokevirtual 467, 3) := by decide +kernel
theorem d_X12_weighs_86 : decode M_X12_weighs.2.1 86 = .ok (.goto 14, 3) := by decide +kernel
theorem d_X12_weighs_89 : decode M_X12_weighs.2.1 89 = .ok (.aload_n 0, 1) := by decide +kernel
theorem d_X12_weighs_90 : decode M_X12_weighs.2.1 90 = .ok (.iload 5, 2) := by decide +kernel
theorem d_X12_weighs_92 : decode M_X12_weighs.2.1 92 = .ok (.iload 6, 2) := by decide +kernel
theorem d_X12_weighs_94 : decode M_X12_weighs.2.1 94 = .ok (.iconst 1, 1) := by decide +kernel
theorem d_X12_weighs_95 : decode M_X12_weighs.2.1 95 = .ok (.isub, 1) := by decide +kernel
theorem d_X12_weighs_96 : decode M_X12_weighs.2.1 96 = .ok (.iload_n 3, 1) := by decide +kernel
theorem d_X12_weighs_97 : decode M_X12_weighs.2.1 97 = .ok (.invokevirtual 470, 3) := by decide +kernel
theorem d_X12_weighs_100 : decode M_X12_weighs.2.1 100 = .ok (.istore 7, 2) := by decide +kernel
theorem d_X12_weighs_102 : decode M_X12_weighs.2.1 102 = .ok (.iload 6, 2) := by decide +kernel
theorem d_X12_weighs_104 : decode M_X12_weighs.2.1 104 = .ok (.ifCond .ne 17, 3) := by decide +kernel
theorem d_X12_weighs_107 : decode M_X12_weighs.2.1 107 = .ok (.aload_n 0, 1) := by decide +kernel
theorem d_X12_weighs_108 : decode M_X12_weighs.2.1 108 = .ok (.aload_n 0, 1) := by decide +kernel
theorem d_X12_weighs_109 : decode M_X12_weighs.2.1 109 = .ok (.getfield 473, 3) := by decide +kernel
theorem d_X12_weighs_112 : decode M_X12_weighs.2.1 112 = .ok (.bipush 10, 2) := by decide +kernel
theorem d_X12_weighs_114 : decode M_X12_weighs.2.1 114 = .ok (.idiv, 1) := by decide +kernel
theorem d_X12_weighs_115 : decode M_X12_weighs.2.1 115 = .ok (.iload 7, 2) := by decide +kernel
theorem d_X12_weighs_117 : decode M_X12_weighs.2.1 117 = .ok (.imul, 1) := by decide +kernel
theorem d_X12_weighs_118 : decode M_X12_weighs.2.1 118 = .ok (.putfield 473, 3) := by decide +kernel
theorem d_X12_weighs_121 : decode M_X12_weighs.2.1 121 = .ok (.aload_n 0, 1) := by decide +kernel
theorem d_X12_weighs_122 : decode M_X12_weighs.2.1 122 = .ok (.aload_n 0, 1) := by decide +kernel
theorem d_X12_weighs_123 : decode M_X12_weighs.2.1 123 = .ok (.getfield 476, 3) := by decide +kernel
theorem d_X12_weighs_126 : decode M_X12_weighs.2.1 126 = .ok (.bipush 10, 2) := by decide +kernel
theorem d_X12_weighs_128 : decode M_X12_weighs.2.1 128 = .ok (.idiv, 1) := by decide +kernel
theorem d_X12_weighs_129 : decode M_X12_weighs.2.1 129 = .ok (.iload 6, 2) := by decide +kernel
theorem d_X12_weighs_131 : decode M_X12_weighs.2.1 131 = .ok (.ifCond .ne 8, 3) := by decide +kernel
theorem d_X12_weighs_134 : decode M_X12_weighs.2.1 134 = .ok (.iload 7, 2) := by decide +kernel
theorem d_X12_weighs_136 : decode M_X12_weighs.2.1 136 = .ok (.goto 8, 3) := by decide +kernel
theorem d_X12_weighs_139 : decode M_X12_weighs.2.1 139 = .ok (.bipush 10, 2) := by decide +kernel
theorem d_X12_weighs_141 : decode M_X12_weighs.2.1 141 = .ok (.iload 7, 2) := by decide +kernel
theorem d_X12_weighs_143 : decode M_X12_weighs.2.1 143 = .ok (.isub, 1) := by decide +kernel
theorem d_X12_weighs_144 : decode M_X12_weighs.2.1 144 = .ok (.imul, 1) := by decide +kernel
theorem d_X12_weighs_145 : decode M_X12_weighs.2.1 145 = .ok (.putfield 476, 3) := by decide +kernel
theorem d_X12_weighs_148 : decode M_X12_weighs.2.1 148 = .ok (.aload_n 0, 1) := by decide +kernel
theorem d_X12_weighs_149 : decode M_X12_weighs.2.1 149 = .ok (.dup, 1) := by decide +kernel
theorem d_X12_weighs_150 : decode M_X12_weighs.2.1 150 = .ok (.getfield 479, 3) := by decide +kernel
theorem d_X12_weighs_153 : decode M_X12_weighs.2.1 153 = .ok (.iload 6, 2) := by decide +kernel
theorem d_X12_weighs_155 : decode M_X12_weighs.2.1 155 = .ok (.ifCond .ne 16, 3) := by decide +kernel
theorem d_X12_weighs_158 : decode M_X12_weighs.2.1 158 = .ok (.sipush 10000, 3) := by decide +kernel
theorem d_X12_weighs_161 : decode M_X12_weighs.2.1 161 = .ok (.aload_n 0, 1) := by decide +kernel
theorem d_X12_weighs_162 : decode M_X12_weighs.2.1 162 = .ok (.getfield 13, 3) := by decide +kernel
theorem d_X12_weighs_165 : decode M_X12_weighs.2.1 165 = .ok (.iconst 3, 1) := by decide +kernel
theorem d_X12_weighs_166 : decode M_X12_weighs.2.1 166 = .ok (.iaload, 1) := by decide +kernel
theorem d_X12_weighs_167 : decode M_X12_weighs.2.1 167 = .ok (.imul, 1) := by decide +kernel
theorem d_X12_weighs_168 : decode M_X12_weighs.2.1 168 = .ok (.goto 16, 3) := by decide +kernel
theorem d_X12_weighs_171 : decode M_X12_weighs.2.1 171 = .ok (.sipush 1000, 3) := by decide +kernel
theorem d_X12_weighs_174 : decode M_X12_weighs.2.1 174 = .ok (.iload 7, 2) := by decide +kernel
theorem d_X12_weighs_176 : decode M_X12_weighs.2.1 176 = .ok (.imul, 1) := by decide +kernel
theorem d_X12_weighs_177 : decode M_X12_weighs.2.1 177 = .ok (.aload_n 0, 1) := by decide +kernel
theorem d_X12_weighs_178 : decode M_X12_weighs.2.1 178 = .ok (.getfield 13, 3) := by decide +kernel
theorem d_X12_weighs_181 : decode M_X12_weighs.2.1 181 = .ok (.iconst 4, 1) := by decide +kernel
theorem d_X12_weighs_182 : decode M_X12_weighs.2.1 182 = .ok (.iaload, 1) := by decide +kernel
theorem d_X12_weighs_183 : decode M_X12_weighs.2.1 183 = .ok (.imul, 1) := by decide +kernel
theorem d_X12_weighs_184 : decode M_X12_weighs.2.1 184 = .ok (.iadd, 1) := by decide +kernel
theorem d_X12_weighs_185 : decode M_X12_weighs.2.1 185 = .ok (.putfield 479, 3) := by decide +kernel
theorem d_X12_weighs_188 : decode M_X12_weighs.2.1 188 = .ok (.iinc 4 1, 3) := by decide +kernel
theorem d_X12_weighs_191 : decode M_X12_weighs.2.1 191 = .ok (.goto (-162), 3) := by decide +kernel
theorem d_X12_weighs_194 : decode M_X12_weighs.2.1 194 = .ok (.return_, 1) := by decide +kernel
set_option maxRecDepth 20000 in
theorem s_X12_weighs_0 {d : Nat} {p0 : Int} {p1 : Int} {p2 : Int} {G : Mem} {Q : Int → Mem → Prop}  (h : (∀ G1 : Mem, G1 = st G 311 47 10000 → (∀ G2 : Mem, G2 = st G1 311 48 10000 → (∀ G3 : Mem, G3 = st G2 311 49 0 → (0 ≤ p0 ∧ p0 < 30) ∧ (Rn d M_X12_weighs zN 29 [(0, (2, 311)), (2, (0, p1)), (3, (0, p2)), (4, (0, ((G3 316 p0) + 1)))] [] G3 Q))))) : Rn d M_X12_weighs zN 0 [(0, (2, 311)), (1, (0, p0)), (2, (0, p1)), (3, (0, p2))] [] G Q := by
  refine r_aload_n d_X12_weighs_0 0 rfl rfl ?_
  refine r_sipush d_X12_weighs_1 (by decide +kernel) ?_
  obtain ⟨G1, eG1⟩ : ∃ y : Mem, y = st G 311 47 10000 := ⟨_, rfl⟩
  replace h := h G1 eG1
  refine r_putI 12 47 47 rfl d_X12_weighs_4 fl_X12_473 (by decide) nofin_12_47 (bs_ob bs_12) ?_
  rw [← eG1]
  refine r_aload_n d_X12_weighs_7 0 rfl rfl ?_
  refine r_sipush d_X12_weighs_8 (by decide +kernel) ?_
  obtain ⟨G2, eG2⟩ : ∃ y : Mem, y = st G1 311 48 10000 := ⟨_, rfl⟩
  replace h := h G2 eG2
  refine r_putI 12 48 48 rfl d_X12_weighs_11 fl_X12_476 (by decide) nofin_12_48 (bs_ob bs_12) ?_
  rw [← eG2]
  refine r_aload_n d_X12_weighs_14 0 rfl rfl ?_
  refine r_iconst d_X12_weighs_15 ?_
  obtain ⟨G3, eG3⟩ : ∃ y : Mem, y = st G2 311 49 0 := ⟨_, rfl⟩
  replace h := h G3 eG3
  refine r_putI 12 49 49 rfl d_X12_weighs_16 fl_X12_479 (by decide) nofin_12_49 (bs_ob bs_12) ?_
  rw [← eG3]
  refine r_aload_n d_X12_weighs_19 0 rfl rfl ?_
  refine r_getL (v := 316) 12 13 13 rfl d_X12_weighs_20 fl_X12_23 (by decide) (bs_ob bs_12) (ly_12_13 bs_12).1 (ly_12_13 bs_12).2.1 ?_
  refine r_iload_n d_X12_weighs_23 1 rfl rfl ?_
  obtain ⟨h4, h⟩ := h
  refine r_iaload d_X12_weighs_24 (ly_12_13 bs_12).2.2 h4 ?_
  refine r_iconst d_X12_weighs_25 ?_
  refine r_iadd d_X12_weighs_26 ?_
  refine r_istore (ls1 := [(4, (0, ((G3 316 p0) + 1))), (0, (2, 311)), (1, (0, p0)), (2, (0, p1)), (3, (0, p2))]) d_X12_weighs_27 (by decide) rfl ?_
  exact Rn.sub [1, 3, 4, 0] rfl h
set_option maxRecDepth 20000 in
theorem s_X12_weighs_29 {d : Nat} {x2 : Int} {x3 : Int} {x4 : Int} {G : Mem} {Q : Int → Mem → Prop}  (h : (InR x4) ∧ (InR (G 313 0)) ∧ (((G 313 0) ≤ x4) → Q 0 G) ∧ (¬ ((G 313 0) ≤ x4) → Ct d M_X12_inSeat NT 0 0 (some lay) [(2, 311), (0, x4)] G (fun r5 G4 => (InR r5) ∧ ((r5 < 0) → Rn (d + 1) M_X12_weighs zN 29 [(0, (2, 311)), (2, (0, x2)), (3, (0, x3)), (4, (0, (x4 + 1)))] [] G4 Q) ∧ (¬ (r5 < 0) → Ct d M_X12_isAsleepAt NT 0 0 (some lay) [(2, 311), (0, r5), (0, x3)] G4 (fun r9 G8 => (InR r9) ∧ ((r9 ≠ 0) → Ct d M_X12_digit NT 0 0 (some lay) [(0, x2), (0, x4)] G8 (fun r13 G12 => (InR r13) ∧ ((r13 ≠ 0) → Ct d M_X12_spilling NT 0 0 (some lay) [(2, 311), (0, r5), (0, (r13 - 1)), (0, x3)] G12 (fun r17 G16 => Rn (d + 1) M_X12_weighs zN 100 [(0, (2, 311)), (2, (0, x2)), (3, (0, x3)), (4, (0, x4)), (6, (0, r13))] [(0, r17)] G16 Q)) ∧ (¬ (r13 ≠ 0) → Ct d M_X12_waking NT 0 0 (some lay) [(2, 311), (0, r5), (0, x3)] G12 (fun r19 G18 => Rn (d + 1) M_X12_weighs zN 100 [(0, (2, 311)), (2, (0, x2)), (3, (0, x3)), (4, (0, x4)), (6, (0, r13))] [(0, r19)] G18 Q)))) ∧ (¬ (r9 ≠ 0) → Rn (d + 1) M_X12_weighs zN 29 [(0, (2, 311)), (2, (0, x2)), (3, (0, x3)), (4, (0, (x4 + 1)))] [] G8 Q)))))) : Rn (d + 1) M_X12_weighs zN 29 [(0, (2, 311)), (2, (0, x2)), (3, (0, x3)), (4, (0, x4))] [] G Q := by
  refine r_iload d_X12_weighs_29 3 rfl ?_
  refine r_aload_n d_X12_weighs_31 0 rfl rfl ?_
  refine r_getL (v := 313) 12 10 10 rfl d_X12_weighs_32 fl_X12_13 (by decide) (bs_ob bs_12) (ly_12_10 bs_12).1 (ly_12_10 bs_12).2.1 ?_
  refine r_iconst d_X12_weighs_35 ?_
  refine r_iaload d_X12_weighs_36 (ly_12_10 bs_12).2.2 (by decide) ?_
  obtain ⟨h1, h⟩ := h
  obtain ⟨h2, h⟩ := h
  refine r_icmp_ge (tgt := 194) d_X12_weighs_37 (by decide) h1 h2 (fun c3 => ?_) (fun c3 => ?_)
  · replace h := h.1 c3
    exact r_ret d_X12_weighs_194 rfl ⟨rfl, Nat.le_refl _, Nat.le_refl _⟩ h
  · replace h := h.2 c3
    refine r_aload_n d_X12_weighs_40 0 rfl rfl ?_
    refine r_iload d_X12_weighs_41 3 rfl ?_
    refine r_callV0 (M' := M_X12_inSeat) (ci := 12) [(0, x4)] d_X12_weighs_43 cl_X12_413 rfl (Nat.le_of_ble_eq_true rfl) (by decide) rfl (bs_ob bs_12) ?_
    refine Ct.mono h (fun r5 G4 h => ?_)
    show Rn _ M_X12_weighs zN 46 [(0, (2, 311)), (2, (0, x2)), (3, (0, x3)), (4, (0, x4))] [(0, r5)] G4 Q
    refine r_istore (ls1 := [(5, (0, r5)), (0, (2, 311)), (2, (0, x2)), (3, (0, x3)), (4, (0, x4))]) d_X12_weighs_46 (by decide) rfl ?_
    refine r_iload d_X12_weighs_48 0 rfl ?_
    obtain ⟨h6, h⟩ := h
    refine r_if_lt (tgt := 188) d_X12_weighs_50 (by decide) h6 (fun c7 => ?_) (fun c7 => ?_)
    · replace h := h.1 c7
      refine r_iinc (ls1 := [(4, (0, (x4 + 1))), (5, (0, r5)), (0, (2, 311)), (2, (0, x2)), (3, (0, x3))]) d_X12_weighs_188 4 rfl (by decide) rfl ?_
      refine r_goto (tgt := 29) d_X12_weighs_191 (by decide) ?_
      exact Rn.sub [2, 3, 4, 0] rfl h
    · replace h := h.2 c7
      refine r_aload_n d_X12_weighs_53 1 rfl rfl ?_
      refine r_iload d_X12_weighs_54 0 rfl ?_
      refine r_iload_n d_X12_weighs_56 3 rfl rfl ?_
      refine r_callV0 (M' := M_X12_isAsleepAt) (ci := 12) [(0, r5), (0, x3)] d_X12_weighs_57 cl_X12_380 rfl (Nat.le_of_ble_eq_true rfl) (by decide) rfl (bs_ob bs_12) ?_
      refine Ct.mono h (fun r9 G8 h => ?_)
      show Rn _ M_X12_weighs zN 60 [(5, (0, r5)), (0, (2, 311)), (2, (0, x2)), (3, (0, x3)), (4, (0, x4))] [(0, r9)] G8 Q
      obtain ⟨h10, h⟩ := h
      refine r_if_ne (tgt := 66) d_X12_weighs_60 (by decide) h10 (fun c11 => ?_) (fun c11 => ?_)
      · replace h := h.1 c11
        refine r_iload_n d_X12_weighs_66 2 rfl rfl ?_
        refine r_iload d_X12_weighs_67 4 rfl ?_
        refine r_callS0 (M' := M_X12_digit) [(0, x2), (0, x4)] d_X12_weighs_69 cl_X12_430 rfl (Nat.le_of_ble_eq_true rfl) ?_
        refine Ct.mono h (fun r13 G12 h => ?_)
        show Rn _ M_X12_weighs zN 72 [(5, (0, r5)), (0, (2, 311)), (2, (0, x2)), (3, (0, x3)), (4, (0, x4))] [(0, r13)] G12 Q
        refine r_istore (ls1 := [(6, (0, r13)), (5, (0, r5)), (0, (2, 311)), (2, (0, x2)), (3, (0, x3)), (4, (0, x4))]) d_X12_weighs_72 (by decide) rfl ?_
        refine r_iload d_X12_weighs_74 0 rfl ?_
        obtain ⟨h14, h⟩ := h
        refine r_if_ne (tgt := 89) d_X12_weighs_76 (by decide) h14 (fun c15 => ?_) (fun c15 => ?_)
        · replace h := h.1 c15
          refine r_aload_n d_X12_weighs_89 2 rfl rfl ?_
          refine r_iload d_X12_weighs_90 1 rfl ?_
          refine r_iload d_X12_weighs_92 0 rfl ?_
          refine r_iconst d_X12_weighs_94 ?_
          refine r_isub d_X12_weighs_95 ?_
          refine r_iload_n d_X12_weighs_96 4 rfl rfl ?_
          refine r_callV0 (M' := M_X12_spilling) (ci := 12) [(0, r5), (0, (r13 - 1)), (0, x3)] d_X12_weighs_97 cl_X12_470 rfl (Nat.le_of_ble_eq_true rfl) (by decide) rfl (bs_ob bs_12) ?_
          refine Ct.mono h (fun r17 G16 h => ?_)
          show Rn _ M_X12_weighs zN 100 [(6, (0, r13)), (5, (0, r5)), (0, (2, 311)), (2, (0, x2)), (3, (0, x3)), (4, (0, x4))] [(0, r17)] G16 Q
          exact Rn.sub [2, 3, 4, 5, 0] rfl h
        · replace h := h.2 c15
          refine r_aload_n d_X12_weighs_79 2 rfl rfl ?_
          refine r_iload d_X12_weighs_80 1 rfl ?_
          refine r_iload_n d_X12_weighs_82 4 rfl rfl ?_
          refine r_callV0 (M' := M_X12_waking) (ci := 12) [(0, r5), (0, x3)] d_X12_weighs_83 cl_X12_467 rfl (Nat.le_of_ble_eq_true rfl) (by decide) rfl (bs_ob bs_12) ?_
          refine Ct.mono h (fun r19 G18 h => ?_)
          show Rn _ M_X12_weighs zN 86 [(6, (0, r13)), (5, (0, r5)), (0, (2, 311)), (2, (0, x2)), (3, (0, x3)), (4, (0, x4))] [(0, r19)] G18 Q
          refine r_goto (tgt := 100) d_X12_weighs_86 (by decide) ?_
          exact Rn.sub [2, 3, 4, 5, 0] rfl h
      · replace h := h.2 c11
        refine r_goto (tgt := 188) d_X12_weighs_63 (by decide) ?_
        refine r_iinc (ls1 := [(4, (0, (x4 + 1))), (5, (0, r5)), (0, (2, 311)), (2, (0, x2)), (3, (0, x3))]) d_X12_weighs_188 4 rfl (by decide) rfl ?_
        refine r_goto (tgt := 29) d_X12_weighs_191 (by decide) ?_
        exact Rn.sub [2, 3, 4, 0] rfl h
set_option maxRecDepth 20000 in
theorem s_X12_weighs_100 {d : Nat} {x2 : Int} {x3 : Int} {x4 : Int} {x6 : Int} {s0 : Int} {G : Mem} {Q : Int → Mem → Prop}  (h : (InR x6) ∧ ((x6 ≠ 0) → Rn d M_X12_weighs zN 121 [(0, (2, 311)), (2, (0, x2)), (3, (0, x3)), (4, (0, x4)), (6, (0, x6)), (7, (0, s0))] [] G Q) ∧ (¬ (x6 ≠ 0) → (InR (G 311 47)) ∧ ((∀ G4 : Mem, G4 = st G 311 47 ((Int.tdiv (G 311 47) 10) * s0) → Rn d M_X12_weighs zN 121 [(0, (2, 311)), (2, (0, x2)), (3, (0, x3)), (4, (0, x4)), (6, (0, x6)), (7, (0, s0))] [] G4 Q)))) : Rn d M_X12_weighs zN 100 [(0, (2, 311)), (2, (0, x2)), (3, (0, x3)), (4, (0, x4)), (6, (0, x6))] [(0, s0)] G Q := by
  refine r_istore (ls1 := [(7, (0, s0)), (0, (2, 311)), (2, (0, x2)), (3, (0, x3)), (4, (0, x4)), (6, (0, x6))]) d_X12_weighs_100 (by decide) rfl ?_
  refine r_iload d_X12_weighs_102 5 rfl ?_
  obtain ⟨h1, h⟩ := h
  refine r_if_ne (tgt := 121) d_X12_weighs_104 (by decide) h1 (fun c2 => ?_) (fun c2 => ?_)
  · replace h := h.1 c2
    exact Rn.sub [1, 2, 3, 4, 5, 0] rfl h
  · replace h := h.2 c2
    refine r_aload_n d_X12_weighs_107 1 rfl rfl ?_
    refine r_aload_n d_X12_weighs_108 1 rfl rfl ?_
    refine r_getI 12 47 47 rfl d_X12_weighs_109 fl_X12_473 (by decide) (bs_ob bs_12) ?_
    refine r_bipush d_X12_weighs_112 (by decide +kernel) ?_
    obtain ⟨h3, h⟩ := h
    refine r_idiv d_X12_weighs_114 h3 ⟨by decide, ⟨by decide, by decide⟩⟩ ?_
    refine r_iload d_X12_weighs_115 0 rfl ?_
    refine r_imul d_X12_weighs_117 ?_
    obtain ⟨G4, eG4⟩ : ∃ y : Mem, y = st G 311 47 ((Int.tdiv (G 311 47) 10) * s0) := ⟨_, rfl⟩
    replace h := h G4 eG4
    refine r_putI 12 47 47 rfl d_X12_weighs_118 fl_X12_473 (by decide) nofin_12_47 (bs_ob bs_12) ?_
    rw [← eG4]
    exact Rn.sub [1, 2, 3, 4, 5, 0] rfl h
set_option maxRecDepth 20000 in
theorem s_X12_weighs_121 {d : Nat} {x2 : Int} {x3 : Int} {x4 : Int} {x6 : Int} {x7 : Int} {G : Mem} {Q : Int → Mem → Prop}  (h : (InR (G 311 48)) ∧ ((InR x6) ∧ ((x6 ≠ 0) → Rn d M_X12_weighs zN 144 [(0, (2, 311)), (2, (0, x2)), (3, (0, x3)), (4, (0, x4)), (6, (0, x6)), (7, (0, x7))] [(0, (10 - x7)), (0, (Int.tdiv (G 311 48) 10)), (2, 311)] G Q) ∧ (¬ (x6 ≠ 0) → Rn d M_X12_weighs zN 144 [(0, (2, 311)), (2, (0, x2)), (3, (0, x3)), (4, (0, x4)), (6, (0, x6)), (7, (0, x7))] [(0, x7), (0, (Int.tdiv (G 311 48) 10)), (2, 311)] G Q))) : Rn d M_X12_weighs zN 121 [(0, (2, 311)), (2, (0, x2)), (3, (0, x3)), (4, (0, x4)), (6, (0, x6)), (7, (0, x7))] [] G Q := by
  refine r_aload_n d_X12_weighs_121 0 rfl rfl ?_
  refine r_aload_n d_X12_weighs_122 0 rfl rfl ?_
  refine r_getI 12 48 48 rfl d_X12_weighs_123 fl_X12_476 (by decide) (bs_ob bs_12) ?_
  refine r_bipush d_X12_weighs_126 (by decide +kernel) ?_
  obtain ⟨h1, h⟩ := h
  refine r_idiv d_X12_weighs_128 h1 ⟨by decide, ⟨by decide, by decide⟩⟩ ?_
  refine r_iload d_X12_weighs_129 4 rfl ?_
  obtain ⟨h2, h⟩ := h
  refine r_if_ne (tgt := 139) d_X12_weighs_131 (by decide) h2 (fun c3 => ?_) (fun c3 => ?_)
  · replace h := h.1 c3
    refine r_bipush d_X12_weighs_139 (by decide +kernel) ?_
    refine r_iload d_X12_weighs_141 5 rfl ?_
    refine r_isub d_X12_weighs_143 ?_
    exact h
  · replace h := h.2 c3
    refine r_iload d_X12_weighs_134 5 rfl ?_
    refine r_goto (tgt := 144) d_X12_weighs_136 (by decide) ?_
    exact h
set_option maxRecDepth 20000 in
theorem s_X12_weighs_144 {d : Nat} {x2 : Int} {x3 : Int} {x4 : Int} {x6 : Int} {x7 : Int} {s0 : Int} {s1 : Int} {G : Mem} {Q : Int → Mem → Prop}  (h : (∀ G1 : Mem, G1 = st G 311 48 (s1 * s0) → (InR x6) ∧ ((x6 ≠ 0) → (∀ G4 : Mem, G4 = st G1 311 49 ((G1 311 49) + ((1000 * x7) * (G1 313 4))) → Rn d M_X12_weighs zN 29 [(0, (2, 311)), (2, (0, x2)), (3, (0, x3)), (4, (0, (x4 + 1)))] [] G4 Q)) ∧ (¬ (x6 ≠ 0) → (∀ G5 : Mem, G5 = st G1 311 49 ((G1 311 49) + (10000 * (G1 313 3))) → Rn d M_X12_weighs zN 29 [(0, (2, 311)), (2, (0, x2)), (3, (0, x3)), (4, (0, (x4 + 1)))] [] G5 Q)))) : Rn d M_X12_weighs zN 144 [(0, (2, 311)), (2, (0, x2)), (3, (0, x3)), (4, (0, x4)), (6, (0, x6)), (7, (0, x7))] [(0, s0), (0, s1), (2, 311)] G Q := by
  refine r_imul d_X12_weighs_144 ?_
  obtain ⟨G1, eG1⟩ : ∃ y : Mem, y = st G 311 48 (s1 * s0) := ⟨_, rfl⟩
  replace h := h G1 eG1
  refine r_putI 12 48 48 rfl d_X12_weighs_145 fl_X12_476 (by decide) nofin_12_48 (bs_ob bs_12) ?_
  rw [← eG1]
  refine r_aload_n d_X12_weighs_148 0 rfl rfl ?_
  refine r_dup 2 rfl (by decide) d_X12_weighs_149 ?_
  refine r_getI 12 49 49 rfl d_X12_weighs_150 fl_X12_479 (by decide) (bs_ob bs_12) ?_
  refine r_iload d_X12_weighs_153 4 rfl ?_
  obtain ⟨h2, h⟩ := h
  refine r_if_ne (tgt := 171) d_X12_weighs_155 (by decide) h2 (fun c3 => ?_) (fun c3 => ?_)
  · replace h := h.1 c3
    refine r_sipush d_X12_weighs_171 (by decide +kernel) ?_
    refine r_iload d_X12_weighs_174 5 rfl ?_
    refine r_imul d_X12_weighs_176 ?_
    refine r_aload_n d_X12_weighs_177 0 rfl rfl ?_
    refine r_getL (v := 313) 12 10 10 rfl d_X12_weighs_178 fl_X12_13 (by decide) (bs_ob bs_12) (ly_12_10 bs_12).1 (ly_12_10 bs_12).2.1 ?_
    refine r_iconst d_X12_weighs_181 ?_
    refine r_iaload d_X12_weighs_182 (ly_12_10 bs_12).2.2 (by decide) ?_
    refine r_imul d_X12_weighs_183 ?_
    refine r_iadd d_X12_weighs_184 ?_
    obtain ⟨G4, eG4⟩ : ∃ y : Mem, y = st G1 311 49 ((G1 311 49) + ((1000 * x7) * (G1 313 4))) := ⟨_, rfl⟩
    replace h := h G4 eG4
    refine r_putI 12 49 49 rfl d_X12_weighs_185 fl_X12_479 (by decide) nofin_12_49 (bs_ob bs_12) ?_
    rw [← eG4]
    refine r_iinc (ls1 := [(4, (0, (x4 + 1))), (0, (2, 311)), (2, (0, x2)), (3, (0, x3)), (6, (0, x6)), (7, (0, x7))]) d_X12_weighs_188 3 rfl (by decide) rfl ?_
    refine r_goto (tgt := 29) d_X12_weighs_191 (by decide) ?_
    exact Rn.sub [1, 2, 3, 0] rfl h
  · replace h := h.2 c3
    refine r_sipush d_X12_weighs_158 (by decide +kernel) ?_
    refine r_aload_n d_X12_weighs_161 0 rfl rfl ?_
    refine r_getL (v := 313) 12 10 10 rfl d_X12_weighs_162 fl_X12_13 (by decide) (bs_ob bs_12) (ly_12_10 bs_12).1 (ly_12_10 bs_12).2.1 ?_
    refine r_iconst d_X12_weighs_165 ?_
    refine r_iaload d_X12_weighs_166 (ly_12_10 bs_12).2.2 (by decide) ?_
    refine r_imul d_X12_weighs_167 ?_
    refine r_goto (tgt := 184) d_X12_weighs_168 (by decide) ?_
    refine r_iadd d_X12_weighs_184 ?_
    obtain ⟨G5, eG5⟩ : ∃ y : Mem, y = st G1 311 49 ((G1 311 49) + (10000 * (G1 313 3))) := ⟨_, rfl⟩
    replace h := h G5 eG5
    refine r_putI 12 49 49 rfl d_X12_weighs_185 fl_X12_479 (by decide) nofin_12_49 (bs_ob bs_12) ?_
    rw [← eG5]
    refine r_iinc (ls1 := [(4, (0, (x4 + 1))), (0, (2, 311)), (2, (0, x2)), (3, (0, x3)), (6, (0, x6)), (7, (0, x7))]) d_X12_weighs_188 3 rfl (by decide) rfl ?_
    refine r_goto (tgt := 29) d_X12_weighs_191 (by decide) ?_
    exact Rn.sub [1, 2, 3, 0] rfl h
theorem d_X12_costOf_0 : decode M_X12_costOf.2.1 0 = .ok (.aload_n 0, 1) := by decide +kernel
theorem d_X12_costOf_1 : decode M_X12_costOf.2.1 1 = .ok (.iload_n 1, 1) := by decide +kernel
theorem d_X12_costOf_2 : decode M_X12_costOf.2.1 2 = .ok (.iload_n 2, 1) := by decide +kernel
theorem d_X12_costOf_3 : decode M_X12_costOf.2.1 3 = .ok (.iload_n 3, 1) := by decide +kernel
theorem d_X12_costOf_4 : decode M_X12_costOf.2.1 4 = .ok (.invokevirtual 482, 3) := by decide +kernel
theorem d_X12_costOf_7 : decode M_X12_costOf.2.1 7 = .ok (.aload_n 0, 1) := by decide +kernel
theorem d_X12_costOf_8 : decode M_X12_costOf.2.1 8 = .ok (.getfield 479, 3) := by decide +kernel
theorem d_X12_costOf_11 : decode M_X12_costOf.2.1 11 = .ok (.sipush 10000, 3) := by decide +kernel
theorem d_X12_costOf_14 : decode M_X12_costOf.2.1 14 = .ok (.aload_n 0, 1) := by decide +kernel
theorem d_X12_costOf_15 : decode M_X12_costOf.2.1 15 = .ok (.getfield 473, 3) := by decide +kernel
theorem d_X12_costOf_18 : decode M_X12_costOf.2.1 18 = .ok (.isub, 1) := by decide +kernel
theorem d_X12_costOf_19 : decode M_X12_costOf.2.1 19 = .ok (.aload_n 0, 1) := by decide +kernel
theorem d_X12_costOf_20 : decode M_X12_costOf.2.1 20 = .ok (.getfield 13, 3) := by decide +kernel
theorem d_X12_costOf_23 : decode M_X12_costOf.2.1 23 = .ok (.iconst 5, 1) := by decide +kernel
theorem d_X12_costOf_24 : decode M_X12_costOf.2.1 24 = .ok (.iaload, 1) := by decide +kernel
theorem d_X12_costOf_25 : decode M_X12_costOf.2.1 25 = .ok (.imul, 1) := by decide +kernel
theorem d_X12_costOf_26 : decode M_X12_costOf.2.1 26 = .ok (.iadd, 1) := by decide +kernel
theorem d_X12_costOf_27 : decode M_X12_costOf.2.1 27 = .ok (.ireturn, 1) := by decide +kernel
set_option maxRecDepth 20000 in
theorem s_X12_costOf_0 {d : Nat} {p0 : Int} {p1 : Int} {p2 : Int} {G : Mem} {Q : Int → Mem → Prop}  (h : Ct d M_X12_weighs NT 0 0 (some lay) [(2, 311), (0, p0), (0, p1), (0, p2)] G (fun r2 G1 => Q ((G1 311 49) + ((10000 - (G1 311 47)) * (G1 313 5))) G1)) : Rn (d + 1) M_X12_costOf zN 0 [(0, (2, 311)), (1, (0, p0)), (2, (0, p1)), (3, (0, p2))] [] G Q := by
  refine r_aload_n d_X12_costOf_0 0 rfl rfl ?_
  refine r_iload_n d_X12_costOf_1 1 rfl rfl ?_
  refine r_iload_n d_X12_costOf_2 2 rfl rfl ?_
  refine r_iload_n d_X12_costOf_3 3 rfl rfl ?_
  refine r_callV0 (M' := M_X12_weighs) (ci := 12) [(0, p0), (0, p1), (0, p2)] d_X12_costOf_4 cl_X12_482 rfl (Nat.le_of_ble_eq_true rfl) (by decide) rfl (bs_ob bs_12) ?_
  refine Ct.mono h (fun r2 G1 h => ?_)
  show Rn _ M_X12_costOf zN 7 [(0, (2, 311)), (1, (0, p0)), (2, (0, p1)), (3, (0, p2))] [] G1 Q
  refine r_aload_n d_X12_costOf_7 0 rfl rfl ?_
  refine r_getI 12 49 49 rfl d_X12_costOf_8 fl_X12_479 (by decide) (bs_ob bs_12) ?_
  refine r_sipush d_X12_costOf_11 (by decide +kernel) ?_
  refine r_aload_n d_X12_costOf_14 0 rfl rfl ?_
  refine r_getI 12 47 47 rfl d_X12_costOf_15 fl_X12_473 (by decide) (bs_ob bs_12) ?_
  refine r_isub d_X12_costOf_18 ?_
  refine r_aload_n d_X12_costOf_19 0 rfl rfl ?_
  refine r_getL (v := 313) 12 10 10 rfl d_X12_costOf_20 fl_X12_13 (by decide) (bs_ob bs_12) (ly_12_10 bs_12).1 (ly_12_10 bs_12).2.1 ?_
  refine r_iconst d_X12_costOf_23 ?_
  refine r_iaload d_X12_costOf_24 (ly_12_10 bs_12).2.2 (by decide) ?_
  refine r_imul d_X12_costOf_25 ?_
  refine r_iadd d_X12_costOf_26 ?_
  exact r_ireturn d_X12_costOf_27 rfl ⟨rfl, Nat.le_refl _, Nat.le_refl _⟩ h
theorem d_X12_isAble_0 : decode M_X12_isAble.2.1 0 = .ok (.aload_n 0, 1) := by decide +kernel
theorem d_X12_isAble_1 : decode M_X12_isAble.2.1 1 = .ok (.iload_n 1, 1) := by decide +kernel
theorem d_X12_isAble_2 : decode M_X12_isAble.2.1 2 = .ok (.invokevirtual 404, 3) := by decide +kernel
theorem d_X12_isAble_5 : decode M_X12_isAble.2.1 5 = .ok (.ifCond .eq 18, 3) := by decide +kernel
theorem d_X12_isAble_8 : decode M_X12_isAble.2.1 8 = .ok (.aload_n 0, 1) := by decide +kernel
theorem d_X12_isAble_9 : decode M_X12_isAble.2.1 9 = .ok (.getfield 102, 3) := by decide +kernel
theorem d_X12_isAble_12 : decode M_X12_isAble.2.1 12 = .ok (.iconst 5, 1) := by decide +kernel
theorem d_X12_isAble_13 : decode M_X12_isAble.2.1 13 = .ok (.iload_n 1, 1) := by decide +kernel
theorem d_X12_isAble_14 : decode M_X12_isAble.2.1 14 = .ok (.iadd, 1) := by decide +kernel
theorem d_X12_isAble_15 : decode M_X12_isAble.2.1 15 = .ok (.iaload, 1) := by decide +kernel
theorem d_X12_isAble_16 : decode M_X12_isAble.2.1 16 = .ok (.ifCond .gt 7, 3) := by decide +kernel
theorem d_X12_isAble_19 : decode M_X12_isAble.2.1 19 = .ok (.iconst 1, 1) := by decide +kernel
theorem d_X12_isAble_20 : decode M_X12_isAble.2.1 20 = .ok (.goto 4, 3) := by decide +kernel
theorem d_X12_isAble_23 : decode M_X12_isAble.2.1 23 = .ok (.iconst 0, 1) := by decide +kernel
theorem d_X12_isAble_24 : decode M_X12_isAble.2.1 24 = .ok (.ireturn, 1) := by decide +kernel
set_option maxRecDepth 20000 in
theorem s_X12_isAble_0 {d : Nat} {p0 : Int} {G : Mem} {Q : Int → Mem → Prop}  (h : Ct d M_X12_isSitter NT 0 0 (some lay) [(2, 311), (0, p0)] G (fun r2 G1 => (InR r2) ∧ ((r2 = 0) → Q 0 G1) ∧ (¬ (r2 = 0) → (0 ≤ (5 + p0) ∧ (5 + p0) < 116) ∧ ((InR (G1 342 (5 + p0))) ∧ ((0 < (G1 342 (5 + p0))) → Q 0 G1) ∧ (¬ (0 < (G1 342 (5 + p0))) → Q 1 G1))))) : Rn (d + 1) M_X12_isAble zN 0 [(0, (2, 311)), (1, (0, p0))] [] G Q := by
  refine r_aload_n d_X12_isAble_0 0 rfl rfl ?_
  refine r_iload_n d_X12_isAble_1 1 rfl rfl ?_
  refine r_callV0 (M' := M_X12_isSitter) (ci := 12) [(0, p0)] d_X12_isAble_2 cl_X12_404 rfl (Nat.le_of_ble_eq_true rfl) (by decide) rfl (bs_ob bs_12) ?_
  refine Ct.mono h (fun r2 G1 h => ?_)
  show Rn _ M_X12_isAble zN 5 [(0, (2, 311)), (1, (0, p0))] [(0, r2)] G1 Q
  obtain ⟨h3, h⟩ := h
  refine r_if_eq (tgt := 23) d_X12_isAble_5 (by decide) h3 (fun c4 => ?_) (fun c4 => ?_)
  · replace h := h.1 c4
    refine r_iconst d_X12_isAble_23 ?_
    exact r_zreturn d_X12_isAble_24 rfl ⟨rfl, Nat.le_refl _, Nat.le_refl _⟩ (by decide) h
  · replace h := h.2 c4
    refine r_aload_n d_X12_isAble_8 0 rfl rfl ?_
    refine r_getL (v := 342) 12 43 43 rfl d_X12_isAble_9 fl_X12_102 (by decide) (bs_ob bs_12) (ly_12_43 bs_12).1 (ly_12_43 bs_12).2.1 ?_
    refine r_iconst d_X12_isAble_12 ?_
    refine r_iload_n d_X12_isAble_13 1 rfl rfl ?_
    refine r_iadd d_X12_isAble_14 ?_
    obtain ⟨h5, h⟩ := h
    refine r_iaload d_X12_isAble_15 (ly_12_43 bs_12).2.2 h5 ?_
    obtain ⟨h6, h⟩ := h
    refine r_if_gt (tgt := 23) d_X12_isAble_16 (by decide) h6 (fun c7 => ?_) (fun c7 => ?_)
    · replace h := h.1 c7
      refine r_iconst d_X12_isAble_23 ?_
      exact r_zreturn d_X12_isAble_24 rfl ⟨rfl, Nat.le_refl _, Nat.le_refl _⟩ (by decide) h
    · replace h := h.2 c7
      refine r_iconst d_X12_isAble_19 ?_
      refine r_goto (tgt := 24) d_X12_isAble_20 (by decide) ?_
      exact r_zreturn d_X12_isAble_24 rfl ⟨rfl, Nat.le_refl _, Nat.le_refl _⟩ (by decide) h
theorem d_X12_chance_0 : decode M_X12_chance.2.1 0 = .ok (.aload_n 0, 1) := by decide +kernel
theorem d_X12_chance_1 : decode M_X12_chance.2.1 1 = .ok (.iconst 0, 1) := by decide +kernel
theorem d_X12_chance_2 : decode M_X12_chance.2.1 2 = .ok (.putfield 169, 3) := by decide +kernel
theorem d_X12_chance_5 : decode M_X12_chance.2.1 5 = .ok (.aload_n 0, 1) := by decide +kernel
theorem d_X12_chance_6 : decode M_X12_chance.2.1 6 = .ok (.iload_n 1, 1) := by decide +kernel
theorem d_X12_chance_7 : decode M_X12_chance.2.1 7 = .ok (.invokevirtual 486, 3) := by decide +kernel
theorem d_X12_chance_10 : decode M_X12_chance.2.1 10 = .ok (.ifCond .eq 12, 3) := by decide +kernel
theorem d_X12_chance_13 : decode M_X12_chance.2.1 13 = .ok (.aload_n 0, 1) := by decide +kernel
theorem d_X12_chance_14 : decode M_X12_chance.2.1 14 = .ok (.iload_n 2, 1) := by decide +kernel
theorem d_X12_chance_15 : decode M_X12_chance.2.1 15 = .ok (.iconst 0, 1) := by decide +kernel
theorem d_X12_chance_16 : decode M_X12_chance.2.1 16 = .ok (.invokevirtual 437, 3) := by decide +kernel
theorem d_X12_chance_19 : decode M_X12_chance.2.1 19 = .ok (.ifCond .ne 5, 3) := by decide +kernel
theorem d_X12_chance_22 : decode M_X12_chance.2.1 22 = .ok (.iconst (-1), 1) := by decide +kernel
theorem d_X12_chance_23 : decode M_X12_chance.2.1 23 = .ok (.ireturn, 1) := by decide +kernel
theorem d_X12_chance_24 : decode M_X12_chance.2.1 24 = .ok (.aload_n 0, 1) := by decide +kernel
theorem d_X12_chance_25 : decode M_X12_chance.2.1 25 = .ok (.iload_n 1, 1) := by decide +kernel
theorem d_X12_chance_26 : decode M_X12_chance.2.1 26 = .ok (.iload_n 2, 1) := by decide +kernel
theorem d_X12_chance_27 : decode M_X12_chance.2.1 27 = .ok (.aload_n 0, 1) := by decide +kernel
theorem d_X12_chance_28 : decode M_X12_chance.2.1 28 = .ok (.getfield 102, 3) := by decide +kernel
theorem d_X12_chance_31 : decode M_X12_chance.2.1 31 = .ok (.bipush 110, 2) := by decide +kernel
theorem d_X12_chance_33 : decode M_X12_chance.2.1 33 = .ok (.iaload, 1) := by decide +kernel
theorem d_X12_chance_34 : decode M_X12_chance.2.1 34 = .ok (.invokevirtual 482, 3) := by decide +kernel
theorem d_X12_chance_37 : decode M_X12_chance.2.1 37 = .ok (.iload_n 3, 1) := by decide +kernel
theorem d_X12_chance_38 : decode M_X12_chance.2.1 38 = .ok (.ifCond .eq 10, 3) := by decide +kernel
theorem d_X12_chance_41 : decode M_X12_chance.2.1 41 = .ok (.aload_n 0, 1) := by decide +kernel
theorem d_X12_chance_42 : decode M_X12_chance.2.1 42 = .ok (.getfield 476, 3) := by decide +kernel
theorem d_X12_chance_45 : decode M_X12_chance.2.1 45 = .ok (.goto 7, 3) := by decide +kernel
theorem d_X12_chance_48 : decode M_X12_chance.2.1 48 = .ok (.aload_n 0, 1) := by decide +kernel
theorem d_X12_chance_49 : decode M_X12_chance.2.1 49 = .ok (.getfield 473, 3) := by decide +kernel
theorem d_X12_chance_52 : decode M_X12_chance.2.1 52 = .ok (.ireturn, 1) := by decide +kernel
set_option maxRecDepth 20000 in
theorem s_X12_chance_0 {d : Nat} {p0 : Int} {p1 : Int} {p2 : Int} {G : Mem} {Q : Int → Mem → Prop}  (h : (∀ G1 : Mem, G1 = st G 311 0 0 → Ct d M_X12_isAble NT 0 0 (some lay) [(2, 311), (0, p0)] G1 (fun r3 G2 => (InR r3) ∧ ((r3 = 0) → Q (-1) G2) ∧ (¬ (r3 = 0) → Ct d M_X12_areWays NT 0 0 (some lay) [(2, 311), (0, p1), (0, 0)] G2 (fun r7 G6 => (InR r7) ∧ ((r7 ≠ 0) → Ct d M_X12_weighs NT 0 0 (some lay) [(2, 311), (0, p0), (0, p1), (0, (G6 342 110))] G6 (fun r11 G10 => (InR p2) ∧ ((p2 = 0) → Q (G10 311 47) G10) ∧ (¬ (p2 = 0) → Q (G10 311 48) G10))) ∧ (¬ (r7 ≠ 0) → Q (-1) G6)))))) : Rn (d + 1) M_X12_chance zN 0 [(0, (2, 311)), (1, (0, p0)), (2, (0, p1)), (3, (0, p2))] [] G Q := by
  refine r_aload_n d_X12_chance_0 0 rfl rfl ?_
  refine r_iconst d_X12_chance_1 ?_
  obtain ⟨G1, eG1⟩ : ∃ y : Mem, y = st G 311 0 0 := ⟨_, rfl⟩
  replace h := h G1 eG1
  refine r_putI 12 0 0 rfl d_X12_chance_2 fl_X12_169 (by decide) nofin_12_0 (bs_ob bs_12) ?_
  rw [← eG1]
  refine r_aload_n d_X12_chance_5 0 rfl rfl ?_
  refine r_iload_n d_X12_chance_6 1 rfl rfl ?_
  refine r_callV0 (M' := M_X12_isAble) (ci := 12) [(0, p0)] d_X12_chance_7 cl_X12_486 rfl (Nat.le_of_ble_eq_true rfl) (by decide) rfl (bs_ob bs_12) ?_
  refine Ct.mono h (fun r3 G2 h => ?_)
  show Rn _ M_X12_chance zN 10 [(0, (2, 311)), (1, (0, p0)), (2, (0, p1)), (3, (0, p2))] [(0, r3)] G2 Q
  obtain ⟨h4, h⟩ := h
  refine r_if_eq (tgt := 22) d_X12_chance_10 (by decide) h4 (fun c5 => ?_) (fun c5 => ?_)
  · replace h := h.1 c5
    refine r_iconst d_X12_chance_22 ?_
    exact r_ireturn d_X12_chance_23 rfl ⟨rfl, Nat.le_refl _, Nat.le_refl _⟩ h
  · replace h := h.2 c5
    refine r_aload_n d_X12_chance_13 0 rfl rfl ?_
    refine r_iload_n d_X12_chance_14 2 rfl rfl ?_
    refine r_iconst d_X12_chance_15 ?_
    refine r_callV0 (M' := M_X12_areWays) (ci := 12) [(0, p1), (0, 0)] d_X12_chance_16 cl_X12_437 rfl (Nat.le_of_ble_eq_true rfl) (by decide) rfl (bs_ob bs_12) ?_
    refine Ct.mono h (fun r7 G6 h => ?_)
    show Rn _ M_X12_chance zN 19 [(0, (2, 311)), (1, (0, p0)), (2, (0, p1)), (3, (0, p2))] [(0, r7)] G6 Q
    obtain ⟨h8, h⟩ := h
    refine r_if_ne (tgt := 24) d_X12_chance_19 (by decide) h8 (fun c9 => ?_) (fun c9 => ?_)
    · replace h := h.1 c9
      refine r_aload_n d_X12_chance_24 0 rfl rfl ?_
      refine r_iload_n d_X12_chance_25 1 rfl rfl ?_
      refine r_iload_n d_X12_chance_26 2 rfl rfl ?_
      refine r_aload_n d_X12_chance_27 0 rfl rfl ?_
      refine r_getL (v := 342) 12 43 43 rfl d_X12_chance_28 fl_X12_102 (by decide) (bs_ob bs_12) (ly_12_43 bs_12).1 (ly_12_43 bs_12).2.1 ?_
      refine r_bipush d_X12_chance_31 (by decide +kernel) ?_
      refine r_iaload d_X12_chance_33 (ly_12_43 bs_12).2.2 (by decide) ?_
      refine r_callV0 (M' := M_X12_weighs) (ci := 12) [(0, p0), (0, p1), (0, (G6 342 110))] d_X12_chance_34 cl_X12_482 rfl (Nat.le_of_ble_eq_true rfl) (by decide) rfl (bs_ob bs_12) ?_
      refine Ct.mono h (fun r11 G10 h => ?_)
      show Rn _ M_X12_chance zN 37 [(0, (2, 311)), (1, (0, p0)), (2, (0, p1)), (3, (0, p2))] [] G10 Q
      refine r_iload_n d_X12_chance_37 3 rfl rfl ?_
      obtain ⟨h12, h⟩ := h
      refine r_if_eq (tgt := 48) d_X12_chance_38 (by decide) h12 (fun c13 => ?_) (fun c13 => ?_)
      · replace h := h.1 c13
        refine r_aload_n d_X12_chance_48 0 rfl rfl ?_
        refine r_getI 12 47 47 rfl d_X12_chance_49 fl_X12_473 (by decide) (bs_ob bs_12) ?_
        exact r_ireturn d_X12_chance_52 rfl ⟨rfl, Nat.le_refl _, Nat.le_refl _⟩ h
      · replace h := h.2 c13
        refine r_aload_n d_X12_chance_41 0 rfl rfl ?_
        refine r_getI 12 48 48 rfl d_X12_chance_42 fl_X12_476 (by decide) (bs_ob bs_12) ?_
        refine r_goto (tgt := 52) d_X12_chance_45 (by decide) ?_
        exact r_ireturn d_X12_chance_52 rfl ⟨rfl, Nat.le_refl _, Nat.le_refl _⟩ h
    · replace h := h.2 c9
      refine r_iconst d_X12_chance_22 ?_
      exact r_ireturn d_X12_chance_23 rfl ⟨rfl, Nat.le_refl _, Nat.le_refl _⟩ h
theorem d_X12_cost_0 : decode M_X12_cost.2.1 0 = .ok (.aload_n 0, 1) := by decide +kernel
theorem d_X12_cost_1 : decode M_X12_cost.2.1 1 = .ok (.iconst 0, 1) := by decide +kernel
theorem d_X12_cost_2 : decode M_X12_cost.2.1 2 = .ok (.putfield 169, 3) := by decide +kernel
theorem d_X12_cost_5 : decode M_X12_cost.2.1 5 = .ok (.aload_n 0, 1) := by decide +kernel
theorem d_X12_cost_6 : decode M_X12_cost.2.1 6 = .ok (.iload_n 1, 1) := by decide +kernel
theorem d_X12_cost_7 : decode M_X12_cost.2.1 7 = .ok (.invokevirtual 486, 3) := by decide +kernel
theorem d_X12_cost_10 : decode M_X12_cost.2.1 10 = .ok (.ifCond .eq 28, 3) := by decide +kernel
theorem d_X12_cost_13 : decode M_X12_cost.2.1 13 = .ok (.aload_n 0, 1) := by decide +kernel
theorem d_X12_cost_14 : decode M_X12_cost.2.1 14 = .ok (.iload_n 2, 1) := by decide +kernel
theorem d_X12_cost_15 : decode M_X12_cost.2.1 15 = .ok (.iconst 0, 1) := by decide +kernel
theorem d_X12_cost_16 : decode M_X12_cost.2.1 16 = .ok (.invokevirtual 437, 3) := by decide +kernel
theorem d_X12_cost_19 : decode M_X12_cost.2.1 19 = .ok (.ifCond .eq 19, 3) := by decide +kernel
theorem d_X12_cost_22 : decode M_X12_cost.2.1 22 = .ok (.aload_n 0, 1) := by decide +kernel
theorem d_X12_cost_23 : decode M_X12_cost.2.1 23 = .ok (.iload_n 1, 1) := by decide +kernel
theorem d_X12_cost_24 : decode M_X12_cost.2.1 24 = .ok (.iload_n 2, 1) := by decide +kernel
theorem d_X12_cost_25 : decode M_X12_cost.2.1 25 = .ok (.aload_n 0, 1) := by decide +kernel
theorem d_X12_cost_26 : decode M_X12_cost.2.1 26 = .ok (.getfield 102, 3) := by decide +kernel
theorem d_X12_cost_29 : decode M_X12_cost.2.1 29 = .ok (.bipush 110, 2) := by decide +kernel
theorem d_X12_cost_31 : decode M_X12_cost.2.1 31 = .ok (.iaload, 1) := by decide +kernel
theorem d_X12_cost_32 : decode M_X12_cost.2.1 32 = .ok (.invokevirtual 489, 3) := by decide +kernel
theorem d_X12_cost_35 : decode M_X12_cost.2.1 35 = .ok (.goto 4, 3) := by decide +kernel
theorem d_X12_cost_38 : decode M_X12_cost.2.1 38 = .ok (.iconst (-1), 1) := by decide +kernel
theorem d_X12_cost_39 : decode M_X12_cost.2.1 39 = .ok (.ireturn, 1) := by decide +kernel
set_option maxRecDepth 20000 in
theorem s_X12_cost_0 {d : Nat} {p0 : Int} {p1 : Int} {G : Mem} {Q : Int → Mem → Prop}  (h : (∀ G1 : Mem, G1 = st G 311 0 0 → Ct d M_X12_isAble NT 0 0 (some lay) [(2, 311), (0, p0)] G1 (fun r3 G2 => (InR r3) ∧ ((r3 = 0) → Q (-1) G2) ∧ (¬ (r3 = 0) → Ct d M_X12_areWays NT 0 0 (some lay) [(2, 311), (0, p1), (0, 0)] G2 (fun r7 G6 => (InR r7) ∧ ((r7 = 0) → Q (-1) G6) ∧ (¬ (r7 = 0) → Ct d M_X12_costOf NT 0 0 (some lay) [(2, 311), (0, p0), (0, p1), (0, (G6 342 110))] G6 (fun r11 G10 => Q r11 G10))))))) : Rn (d + 1) M_X12_cost zN 0 [(0, (2, 311)), (1, (0, p0)), (2, (0, p1))] [] G Q := by
  refine r_aload_n d_X12_cost_0 0 rfl rfl ?_
  refine r_iconst d_X12_cost_1 ?_
  obtain ⟨G1, eG1⟩ : ∃ y : Mem, y = st G 311 0 0 := ⟨_, rfl⟩
  replace h := h G1 eG1
  refine r_putI 12 0 0 rfl d_X12_cost_2 fl_X12_169 (by decide) nofin_12_0 (bs_ob bs_12) ?_
  rw [← eG1]
  refine r_aload_n d_X12_cost_5 0 rfl rfl ?_
  refine r_iload_n d_X12_cost_6 1 rfl rfl ?_
  refine r_callV0 (M' := M_X12_isAble) (ci := 12) [(0, p0)] d_X12_cost_7 cl_X12_486 rfl (Nat.le_of_ble_eq_true rfl) (by decide) rfl (bs_ob bs_12) ?_
  refine Ct.mono h (fun r3 G2 h => ?_)
  show Rn _ M_X12_cost zN 10 [(0, (2, 311)), (1, (0, p0)), (2, (0, p1))] [(0, r3)] G2 Q
  obtain ⟨h4, h⟩ := h
  refine r_if_eq (tgt := 38) d_X12_cost_10 (by decide) h4 (fun c5 => ?_) (fun c5 => ?_)
  · replace h := h.1 c5
    refine r_iconst d_X12_cost_38 ?_
    exact r_ireturn d_X12_cost_39 rfl ⟨rfl, Nat.le_refl _, Nat.le_refl _⟩ h
  · replace h := h.2 c5
    refine r_aload_n d_X12_cost_13 0 rfl rfl ?_
    refine r_iload_n d_X12_cost_14 2 rfl rfl ?_
    refine r_iconst d_X12_cost_15 ?_
    refine r_callV0 (M' := M_X12_areWays) (ci := 12) [(0, p1), (0, 0)] d_X12_cost_16 cl_X12_437 rfl (Nat.le_of_ble_eq_true rfl) (by decide) rfl (bs_ob bs_12) ?_
    refine Ct.mono h (fun r7 G6 h => ?_)
    show Rn _ M_X12_cost zN 19 [(0, (2, 311)), (1, (0, p0)), (2, (0, p1))] [(0, r7)] G6 Q
    obtain ⟨h8, h⟩ := h
    refine r_if_eq (tgt := 38) d_X12_cost_19 (by decide) h8 (fun c9 => ?_) (fun c9 => ?_)
    · replace h := h.1 c9
      refine r_iconst d_X12_cost_38 ?_
      exact r_ireturn d_X12_cost_39 rfl ⟨rfl, Nat.le_refl _, Nat.le_refl _⟩ h
    · replace h := h.2 c9
      refine r_aload_n d_X12_cost_22 0 rfl rfl ?_
      refine r_iload_n d_X12_cost_23 1 rfl rfl ?_
      refine r_iload_n d_X12_cost_24 2 rfl rfl ?_
      refine r_aload_n d_X12_cost_25 0 rfl rfl ?_
      refine r_getL (v := 342) 12 43 43 rfl d_X12_cost_26 fl_X12_102 (by decide) (bs_ob bs_12) (ly_12_43 bs_12).1 (ly_12_43 bs_12).2.1 ?_
      refine r_bipush d_X12_cost_29 (by decide +kernel) ?_
      refine r_iaload d_X12_cost_31 (ly_12_43 bs_12).2.2 (by decide) ?_
      refine r_callV0 (M' := M_X12_costOf) (ci := 12) [(0, p0), (0, p1), (0, (G6 342 110))] d_X12_cost_32 cl_X12_489 rfl (Nat.le_of_ble_eq_true rfl) (by decide) rfl (bs_ob bs_12) ?_
      refine Ct.mono h (fun r11 G10 h => ?_)
      show Rn _ M_X12_cost zN 35 [(0, (2, 311)), (1, (0, p0)), (2, (0, p1))] [(0, r11)] G10 Q
      refine r_goto (tgt := 39) d_X12_cost_35 (by decide) ?_
      exact r_ireturn d_X12_cost_39 rfl ⟨rfl, Nat.le_refl _, Nat.le_refl _⟩ h
theorem d_X12_bestWays_0 : decode M_X12_bestWays.2.1 0 = .ok (.iconst 0, 1) := by decide +kernel
theorem d_X12_bestWays_1 : decode M_X12_bestWays.2.1 1 = .ok (.istore_n 3, 1) := by decide +kernel
theorem d_X12_bestWays_2 : decode M_X12_bestWays.2.1 2 = .ok (.aload_n 0, 1) := by decide +kernel
theorem d_X12_bestWays_3 : decode M_X12_bestWays.2.1 3 = .ok (.iload_n 1, 1) := by decide +kernel
theorem d_X12_bestWays_4 : decode M_X12_bestWays.2.1 4 = .ok (.iconst 0, 1) := by decide +kernel
theorem d_X12_bestWays_5 : decode M_X12_bestWays.2.1 5 = .ok (.iload_n 2, 1) := by decide +kernel
theorem d_X12_bestWays_6 : decode M_X12_bestWays.2.1 6 = .ok (.invokevirtual 489, 3) := by decide +kernel
theorem d_X12_bestWays_9 : decode M_X12_bestWays.2.1 9 = .ok (.istore 4, 2) := by decide +kernel
theorem d_X12_bestWays_11 : decode M_X12_bestWays.2.1 11 = .ok (.iconst 1, 1) := by decide +kernel
theorem d_X12_bestWays_12 : decode M_X12_bestWays.2.1 12 = .ok (.istore 5, 2) := by decide +kernel
theorem d_X12_bestWays_14 : decode M_X12_bestWays.2.1 14 = .ok (.iload 5, 2) := by decide +kernel
theorem d_X12_bestWays_16 : decode M_X12_bestWays.2.1 16 = .ok (.iconst 3, 1) := by decide +kernel
theorem d_X12_bestWays_17 : decode M_X12_bestWays.2.1 17 = .ok (.aload_n 0, 1) := by decide +kernel
theorem d_X12_bestWays_18 : decode M_X12_bestWays.2.1 18 = .ok (.getfield 13, 3) := by decide +kernel
theorem d_X12_bestWays_21 : decode M_X12_bestWays.2.1 21 = .ok (.iconst 0, 1) := by decide +kernel
theorem d_X12_bestWays_22 : decode M_X12_bestWays.2.1 22 = .ok (.iaload, 1) := by decide +kernel
theorem d_X12_bestWays_23 : decode M_X12_bestWays.2.1 23 = .ok (.invokestatic 423, 3) := by decide +kernel
theorem d_X12_bestWays_26 : decode M_X12_bestWays.2.1 26 = .ok (.if_icmp .ge 127, 3) := by decide +kernel
theorem d_X12_bestWays_29 : decode M_X12_bestWays.2.1 29 = .ok (.iconst 1, 1) := by decide +kernel
theorem d_X12_bestWays_30 : decode M_X12_bestWays.2.1 30 = .ok (.istore 6, 2) := by decide +kernel
theorem d_X12_bestWays_32 : decode M_X12_bestWays.2.1 32 = .ok (.iconst 0, 1) := by decide +kernel
theorem d_X12_bestWays_33 : decode M_X12_bestWays.2.1 33 = .ok (.istore 7, 2) := by decide +kernel
theorem d_X12_bestWays_35 : decode M_X12_bestWays.2.1 35 = .ok (.iload 7, 2) := by decide +kernel
theorem d_X12_bestWays_37 : decode M_X12_bestWays.2.1 37 = .ok (.aload_n 0, 1) := by decide +kernel
theorem d_X12_bestWays_38 : decode M_X12_bestWays.2.1 38 = .ok (.getfield 13, 3) := by decide +kernel
theorem d_X12_bestWays_41 : decode M_X12_bestWays.2.1 41 = .ok (.iconst 0, 1) := by decide +kernel
theorem d_X12_bestWays_42 : decode M_X12_bestWays.2.1 42 = .ok (.iaload, 1) := by decide +kernel
theorem d_X12_bestWays_43 : decode M_X12_bestWays.2.1 43 = .ok (.if_icmp .ge 69, 3) := by decide +kernel
theorem d_X12_bestWays_46 : decode M_X12_bestWays.2.1 46 = .ok (.iload 7, 2) := by decide +kernel
theorem d_X12_bestWays_48 : decode M_X12_bestWays.2.1 48 = .ok (.aload_n 0, 1) := by decide +kernel
theorem d_X12_bestWays_49 : decode M_X12_bestWays.2.1 49 = .ok (.getfield 23, 3) := by decide +kernel
theorem d_X12_bestWays_52 : decode M_X12_bestWays.2.1 52 = .ok (.iload_n 1, 1) := by decide +kernel
theorem d_X12_bestWays_53 : decode M_X12_bestWays.2.1 53 = .ok (.iaload, 1) := by decide +kernel
theorem d_X12_bestWays_54 : decode M_X12_bestWays.2.1 54 = .ok (.if_icmp .le 12, 3) := by decide +kernel
theorem d_X12_bestWays_57 : decode M_X12_bestWays.2.1 57 = .ok (.aload_n 0, 1) := by decide +kernel
theorem d_X12_bestWays_58 : decode M_X12_bestWays.2.1 58 = .ok (.iload 7, 2) := by decide +kernel
theorem d_X12_bestWays_60 : decode M_X12_bestWays.2.1 60 = .ok (.invokevirtual 413, 3) := by decide +kernel
theorem d_X12_bestWays_63 : decode M_X12_bestWays.2.1 63 = .ok (.goto 4, 3) := by decide +kernel
theorem d_X12_bestWays_66 : decode M_X12_bestWays.2.1 66 = .ok (.iconst (-1), 1) := by decide +kernel
theorem d_X12_bestWays_67 : decode M_X12_bestWays.2.1 67 = .ok (.istore 8, 2) := by decide +kernel
theorem d_X12_bestWays_69 : decode M_X12_bestWays.2.1 69 = .ok (.iload 6, 2) := by decide +kernel
theorem d_X12_bestWays_71 : decode M_X12_bestWays.2.1 71 = .ok (.ifCond .eq 32, 3) := by decide +kernel
theorem d_X12_bestWays_74 : decode M_X12_bestWays.2.1 74 = .ok (.iload 5, 2) := by decide +kernel
theorem d_X12_bestWays_76 : decode M_X12_bestWays.2.1 76 = .ok (.iload 7, 2) := by decide +kernel
theorem d_X12_bestWays_78 : decode M_X12_bestWays.2.1 78 = .ok (.invokestatic 430, 3) := by decide +kernel
theorem d_X12_bestWays_81 : decode M_X12_bestWays.2.1 81 = .ok (.ifCond .eq 18, 3) := by decide +kernel
theorem d_X12_bestWays_84 : decode M_X12_bestWays.2.1 84 = .ok (.iload 8, 2) := by decide +kernel
theorem d_X12_bestWays_86 : decode M_X12_bestWays.2.1 86 = .ok (.ifCond .lt 17, 3) := by decide +kernel
theorem d_X12_bestWays_89 : decode M_X12_bestWays.2.1 89 = .ok (.aload_n 0, 1) := by decide +kernel
theorem d_X12_bestWays_90 : decode M_X12_bestWays.2.1 90 = .ok (.iload 8, 2) := by decide +kernel
theorem d_X12_bestWays_92 : decode M_X12_bestWays.2.1 92 = .ok (.iload_n 2, 1) := by decide +kernel
theorem d_X12_bestWays_93 : decode M_X12_bestWays.2.1 93 = .ok (.invokevirtual 380, 3) := by decide +kernel
theorem d_X12_bestWays_96 : decode M_X12_bestWays.2.1 96 = .ok (.ifCond .eq 7, 3) := by decide +kernel
theorem d_X12_bestWays_99 : decode M_X12_bestWays.2.1 99 = .ok (.iconst 1, 1) := by decide +kernel
theorem d_X12_bestWays_100 : decode M_X12_bestWays.2.1 100 = .ok (.goto 4, 3) := by decide +kernel
theorem d_X12_bestWays_103 : decode M_X12_bestWays.2.1 103 = .ok (.iconst 0, 1) := by decide +kernel
theorem d_X12_bestWays_104 : decode M_X12_bestWays.2.1 104 = .ok (.istore 6, 2) := by decide +kernel
theorem d_X12_bestWays_106 : decode M_X12_bestWays.2.1 106 = .ok (.iinc 7 1, 3) := by decide +kernel
theorem d_X12_bestWays_109 : decode M_X12_bestWays.2.1 109 = .ok (.goto (-74), 3) := by decide +kernel
theorem d_X12_bestWays_112 : decode M_X12_bestWays.2.1 112 = .ok (.iload 6, 2) := by decide +kernel
theorem d_X12_bestWays_114 : decode M_X12_bestWays.2.1 114 = .ok (.ifCond .ne 6, 3) := by decide +kernel
theorem d_X12_bestWays_117 : decode M_X12_bestWays.2.1 117 = .ok (.goto 30, 3) := by decide +kernel
theorem d_X12_bestWays_120 : decode M_X12_bestWays.2.1 120 = .ok (.aload_n 0, 1) := by decide +kernel
theorem d_X12_bestWays_121 : decode M_X12_bestWays.2.1 121 = .ok (.iload_n 1, 1) := by decide +kernel
theorem d_X12_bestWays_122 : decode M_X12_bestWays.2.1 122 = .ok (.iload 5, 2) := by decide +kernel
theorem d_X12_bestWays_124 : decode M_X12_bestWays.2.1 124 = .ok (.iload_n 2, 1) := by decide +kernel
theorem d_X12_bestWays_125 : decode M_X12_bestWays.2.1 125 = .ok (.invokevirtual 489, 3) := by decide +kernel
theorem d_X12_bestWays_128 : decode M_X12_bestWays.2.1 128 = .ok (.istore 7, 2) := by decide +kernel
theorem d_X12_bestWays_130 : decode M_X12_bestWays.2.1 130 = .ok (.iload 7, 2) := by decide +kernel
theorem d_X12_bestWays_132 : decode M_X12_bestWays.2.1 132 = .ok (.iload 4, 2) := by decide +kernel
theorem d_X12_bestWays_134 : decode M_X12_bestWays.2.1 134 = .ok (.if_icmp .lt 6, 3) := by decide +kernel
theorem d_X12_bestWays_137 : decode M_X12_bestWays.2.1 137 = .ok (.goto 10, 3) := by decide +kernel
theorem d_X12_bestWays_140 : decode M_X12_bestWays.2.1 140 = .ok (.iload 5, 2) := by decide +kernel
theorem d_X12_bestWays_142 : decode M_X12_bestWays.2.1 142 = .ok (.istore_n 3, 1) := by decide +kernel
theorem d_X12_bestWays_143 : decode M_X12_bestWays.2.1 143 = .ok (.iload 7, 2) := by decide +kernel
theorem d_X12_bestWays_145 : decode M_X12_bestWays.2.1 145 = .ok (.istore 4, 2) := by decide +kernel
theorem d_X12_bestWays_147 : decode M_X12_bestWays.2.1 147 = .ok (.iinc 5 1, 3) := by decide +kernel
theorem d_X12_bestWays_150 : decode M_X12_bestWays.2.1 150 = .ok (.goto (-136), 3) := by decide +kernel
theorem d_X12_bestWays_153 : decode M_X12_bestWays.2.1 153 = .ok (.aload_n 0, 1) := by decide +kernel
theorem d_X12_bestWays_154 : decode M_X12_bestWays.2.1 154 = .ok (.iload_n 1, 1) := by decide +kernel
theorem d_X12_bestWays_155 : decode M_X12_bestWays.2.1 155 = .ok (.iload_n 3, 1) := by decide +kernel
theorem d_X12_bestWays_156 : decode M_X12_bestWays.2.1 156 = .ok (.iload_n 2, 1) := by decide +kernel
theorem d_X12_bestWays_157 : decode M_X12_bestWays.2.1 157 = .ok (.invokevirtual 482, 3) := by decide +kernel
theorem d_X12_bestWays_160 : decode M_X12_bestWays.2.1 160 = .ok (.iload_n 3, 1) := by decide +kernel
theorem d_X12_bestWays_161 : decode M_X12_bestWays.2.1 161 = .ok (.ireturn, 1) := by decide +kernel
set_option maxRecDepth 20000 in
theorem s_X12_bestWays_0 {d : Nat} {p0 : Int} {p1 : Int} {G : Mem} {Q : Int → Mem → Prop}  (h : Ct d M_X12_costOf NT 0 0 (some lay) [(2, 311), (0, p0), (0, 0), (0, p1)] G (fun r2 G1 => Rn (d + 1) M_X12_bestWays zN 14 [(0, (2, 311)), (1, (0, p0)), (2, (0, p1)), (3, (0, 0)), (4, (0, r2)), (5, (0, 1))] [] G1 Q)) : Rn (d + 1) M_X12_bestWays zN 0 [(0, (2, 311)), (1, (0, p0)), (2, (0, p1))] [] G Q := by
  refine r_iconst d_X12_bestWays_0 ?_
  refine r_istore_n (ls1 := [(3, (0, 0)), (0, (2, 311)), (1, (0, p0)), (2, (0, p1))]) d_X12_bestWays_1 rfl (by decide) rfl ?_
  refine r_aload_n d_X12_bestWays_2 1 rfl rfl ?_
  refine r_iload_n d_X12_bestWays_3 2 rfl rfl ?_
  refine r_iconst d_X12_bestWays_4 ?_
  refine r_iload_n d_X12_bestWays_5 3 rfl rfl ?_
  refine r_callV0 (M' := M_X12_costOf) (ci := 12) [(0, p0), (0, 0), (0, p1)] d_X12_bestWays_6 cl_X12_489 rfl (Nat.le_of_ble_eq_true rfl) (by decide) rfl (bs_ob bs_12) ?_
  refine Ct.mono h (fun r2 G1 h => ?_)
  show Rn _ M_X12_bestWays zN 9 [(3, (0, 0)), (0, (2, 311)), (1, (0, p0)), (2, (0, p1))] [(0, r2)] G1 Q
  refine r_istore (ls1 := [(4, (0, r2)), (3, (0, 0)), (0, (2, 311)), (1, (0, p0)), (2, (0, p1))]) d_X12_bestWays_9 (by decide) rfl ?_
  refine r_iconst d_X12_bestWays_11 ?_
  refine r_istore (ls1 := [(5, (0, 1)), (4, (0, r2)), (3, (0, 0)), (0, (2, 311)), (1, (0, p0)), (2, (0, p1))]) d_X12_bestWays_12 (by decide) rfl ?_
  exact Rn.sub [3, 4, 5, 2, 1, 0] rfl h
set_option maxRecDepth 20000 in
theorem s_X12_bestWays_14 {d : Nat} {x1 : Int} {x2 : Int} {x3 : Int} {x4 : Int} {x5 : Int} {G : Mem} {Q : Int → Mem → Prop}  (h : Ct d M_X12_power NT 0 0 (some lay) [(0, 3), (0, (G 313 0))] G (fun r2 G1 => (InR x5) ∧ (InR r2) ∧ ((r2 ≤ x5) → Ct d M_X12_weighs NT 0 0 (some lay) [(2, 311), (0, x1), (0, x3), (0, x2)] G1 (fun r7 G6 => Q x3 G6)) ∧ (¬ (r2 ≤ x5) → Rn (d + 1) M_X12_bestWays zN 35 [(0, (2, 311)), (1, (0, x1)), (2, (0, x2)), (3, (0, x3)), (4, (0, x4)), (5, (0, x5)), (6, (0, 1)), (7, (0, 0))] [] G1 Q))) : Rn (d + 1) M_X12_bestWays zN 14 [(0, (2, 311)), (1, (0, x1)), (2, (0, x2)), (3, (0, x3)), (4, (0, x4)), (5, (0, x5))] [] G Q := by
  refine r_iload d_X12_bestWays_14 5 rfl ?_
  refine r_iconst d_X12_bestWays_16 ?_
  refine r_aload_n d_X12_bestWays_17 0 rfl rfl ?_
  refine r_getL (v := 313) 12 10 10 rfl d_X12_bestWays_18 fl_X12_13 (by decide) (bs_ob bs_12) (ly_12_10 bs_12).1 (ly_12_10 bs_12).2.1 ?_
  refine r_iconst d_X12_bestWays_21 ?_
  refine r_iaload d_X12_bestWays_22 (ly_12_10 bs_12).2.2 (by decide) ?_
  refine r_callS0 (M' := M_X12_power) [(0, 3), (0, (G 313 0))] d_X12_bestWays_23 cl_X12_423 rfl (Nat.le_of_ble_eq_true rfl) ?_
  refine Ct.mono h (fun r2 G1 h => ?_)
  show Rn _ M_X12_bestWays zN 26 [(0, (2, 311)), (1, (0, x1)), (2, (0, x2)), (3, (0, x3)), (4, (0, x4)), (5, (0, x5))] [(0, r2), (0, x5)] G1 Q
  obtain ⟨h3, h⟩ := h
  obtain ⟨h4, h⟩ := h
  refine r_icmp_ge (tgt := 153) d_X12_bestWays_26 (by decide) h3 h4 (fun c5 => ?_) (fun c5 => ?_)
  · replace h := h.1 c5
    refine r_aload_n d_X12_bestWays_153 0 rfl rfl ?_
    refine r_iload_n d_X12_bestWays_154 1 rfl rfl ?_
    refine r_iload_n d_X12_bestWays_155 3 rfl rfl ?_
    refine r_iload_n d_X12_bestWays_156 2 rfl rfl ?_
    refine r_callV0 (M' := M_X12_weighs) (ci := 12) [(0, x1), (0, x3), (0, x2)] d_X12_bestWays_157 cl_X12_482 rfl (Nat.le_of_ble_eq_true rfl) (by decide) rfl (bs_ob bs_12) ?_
    refine Ct.mono h (fun r7 G6 h => ?_)
    show Rn _ M_X12_bestWays zN 160 [(0, (2, 311)), (1, (0, x1)), (2, (0, x2)), (3, (0, x3)), (4, (0, x4)), (5, (0, x5))] [] G6 Q
    refine r_iload_n d_X12_bestWays_160 3 rfl rfl ?_
    exact r_ireturn d_X12_bestWays_161 rfl ⟨rfl, Nat.le_refl _, Nat.le_refl _⟩ h
  · replace h := h.2 c5
    refine r_iconst d_X12_bestWays_29 ?_
    refine r_istore (ls1 := [(6, (0, 1)), (0, (2, 311)), (1, (0, x1)), (2, (0, x2)), (3, (0, x3)), (4, (0, x4)), (5, (0, x5))]) d_X12_bestWays_30 (by decide) rfl ?_
    refine r_iconst d_X12_bestWays_32 ?_
    refine r_istore (ls1 := [(7, (0, 0)), (6, (0, 1)), (0, (2, 311)), (1, (0, x1)), (2, (0, x2)), (3, (0, x3)), (4, (0, x4)), (5, (0, x5))]) d_X12_bestWays_33 (by decide) rfl ?_
    exact Rn.sub [2, 3, 4, 5, 6, 7, 1, 0] rfl h
set_option maxRecDepth 20000 in
theorem s_X12_bestWays_35 {d : Nat} {x1 : Int} {x2 : Int} {x3 : Int} {x4 : Int} {x5 : Int} {x6 : Int} {x7 : Int} {G : Mem} {Q : Int → Mem → Prop}  (h : (InR x7) ∧ (InR (G 313 0)) ∧ (((G 313 0) ≤ x7) → (InR x6) ∧ ((x6 ≠ 0) → Ct d M_X12_costOf NT 0 0 (some lay) [(2, 311), (0, x1), (0, x5), (0, x2)] G (fun r7 G6 => (InR r7) ∧ (InR x4) ∧ ((r7 < x4) → Rn (d + 1) M_X12_bestWays zN 14 [(0, (2, 311)), (1, (0, x1)), (2, (0, x2)), (3, (0, x5)), (4, (0, r7)), (5, (0, (x5 + 1)))] [] G6 Q) ∧ (¬ (r7 < x4) → Rn (d + 1) M_X12_bestWays zN 14 [(0, (2, 311)), (1, (0, x1)), (2, (0, x2)), (3, (0, x3)), (4, (0, x4)), (5, (0, (x5 + 1)))] [] G6 Q))) ∧ (¬ (x6 ≠ 0) → Rn (d + 1) M_X12_bestWays zN 14 [(0, (2, 311)), (1, (0, x1)), (2, (0, x2)), (3, (0, x3)), (4, (0, x4)), (5, (0, (x5 + 1)))] [] G Q)) ∧ (¬ ((G 313 0) ≤ x7) → (0 ≤ x1 ∧ x1 < 30) ∧ ((InR (G 316 x1)) ∧ ((x7 ≤ (G 316 x1)) → Rn (d + 1) M_X12_bestWays zN 67 [(0, (2, 311)), (1, (0, x1)), (2, (0, x2)), (3, (0, x3)), (4, (0, x4)), (5, (0, x5)), (6, (0, x6)), (7, (0, x7))] [(0, (-1))] G Q) ∧ (¬ (x7 ≤ (G 316 x1)) → Ct d M_X12_inSeat NT 0 0 (some lay) [(2, 311), (0, x7)] G (fun r15 G14 => Rn (d + 1) M_X12_bestWays zN 67 [(0, (2, 311)), (1, (0, x1)), (2, (0, x2)), (3, (0, x3)), (4, (0, x4)), (5, (0, x5)), (6, (0, x6)), (7, (0, x7))] [(0, r15)] G14 Q))))) : Rn (d + 1) M_X12_bestWays zN 35 [(0, (2, 311)), (1, (0, x1)), (2, (0, x2)), (3, (0, x3)), (4, (0, x4)), (5, (0, x5)), (6, (0, x6)), (7, (0, x7))] [] G Q := by
  refine r_iload d_X12_bestWays_35 7 rfl ?_
  refine r_aload_n d_X12_bestWays_37 0 rfl rfl ?_
  refine r_getL (v := 313) 12 10 10 rfl d_X12_bestWays_38 fl_X12_13 (by decide) (bs_ob bs_12) (ly_12_10 bs_12).1 (ly_12_10 bs_12).2.1 ?_
  refine r_iconst d_X12_bestWays_41 ?_
  refine r_iaload d_X12_bestWays_42 (ly_12_10 bs_12).2.2 (by decide) ?_
  obtain ⟨h1, h⟩ := h
  obtain ⟨h2, h⟩ := h
  refine r_icmp_ge (tgt := 112) d_X12_bestWays_43 (by decide) h1 h2 (fun c3 => ?_) (fun c3 => ?_)
  · replace h := h.1 c3
    refine r_iload d_X12_bestWays_112 6 rfl ?_
    obtain ⟨h4, h⟩ := h
    refine r_if_ne (tgt := 120) d_X12_bestWays_114 (by decide) h4 (fun c5 => ?_) (fun c5 => ?_)
    · replace h := h.1 c5
      refine r_aload_n d_X12_bestWays_120 0 rfl rfl ?_
      refine r_iload_n d_X12_bestWays_121 1 rfl rfl ?_
      refine r_iload d_X12_bestWays_122 5 rfl ?_
      refine r_iload_n d_X12_bestWays_124 2 rfl rfl ?_
      refine r_callV0 (M' := M_X12_costOf) (ci := 12) [(0, x1), (0, x5), (0, x2)] d_X12_bestWays_125 cl_X12_489 rfl (Nat.le_of_ble_eq_true rfl) (by decide) rfl (bs_ob bs_12) ?_
      refine Ct.mono h (fun r7 G6 h => ?_)
      show Rn _ M_X12_bestWays zN 128 [(0, (2, 311)), (1, (0, x1)), (2, (0, x2)), (3, (0, x3)), (4, (0, x4)), (5, (0, x5)), (6, (0, x6)), (7, (0, x7))] [(0, r7)] G6 Q
      refine r_istore (ls1 := [(7, (0, r7)), (0, (2, 311)), (1, (0, x1)), (2, (0, x2)), (3, (0, x3)), (4, (0, x4)), (5, (0, x5)), (6, (0, x6))]) d_X12_bestWays_128 (by decide) rfl ?_
      refine r_iload d_X12_bestWays_130 0 rfl ?_
      refine r_iload d_X12_bestWays_132 5 rfl ?_
      obtain ⟨h8, h⟩ := h
      obtain ⟨h9, h⟩ := h
      refine r_icmp_lt (tgt := 140) d_X12_bestWays_134 (by decide) h8 h9 (fun c10 => ?_) (fun c10 => ?_)
      · replace h := h.1 c10
        refine r_iload d_X12_bestWays_140 6 rfl ?_
        refine r_istore_n (ls1 := [(3, (0, x5)), (7, (0, r7)), (0, (2, 311)), (1, (0, x1)), (2, (0, x2)), (4, (0, x4)), (5, (0, x5)), (6, (0, x6))]) d_X12_bestWays_142 rfl (by decide) rfl ?_
        refine r_iload d_X12_bestWays_143 1 rfl ?_
        refine r_istore (ls1 := [(4, (0, r7)), (3, (0, x5)), (7, (0, r7)), (0, (2, 311)), (1, (0, x1)), (2, (0, x2)), (5, (0, x5)), (6, (0, x6))]) d_X12_bestWays_145 (by decide) rfl ?_
        refine r_iinc (ls1 := [(5, (0, (x5 + 1))), (4, (0, r7)), (3, (0, x5)), (7, (0, r7)), (0, (2, 311)), (1, (0, x1)), (2, (0, x2)), (6, (0, x6))]) d_X12_bestWays_147 6 rfl (by decide) rfl ?_
        refine r_goto (tgt := 14) d_X12_bestWays_150 (by decide) ?_
        exact Rn.sub [4, 5, 6, 2, 1, 0] rfl h
      · replace h := h.2 c10
        refine r_goto (tgt := 147) d_X12_bestWays_137 (by decide) ?_
        refine r_iinc (ls1 := [(5, (0, (x5 + 1))), (7, (0, r7)), (0, (2, 311)), (1, (0, x1)), (2, (0, x2)), (3, (0, x3)), (4, (0, x4)), (6, (0, x6))]) d_X12_bestWays_147 6 rfl (by decide) rfl ?_
        refine r_goto (tgt := 14) d_X12_bestWays_150 (by decide) ?_
        exact Rn.sub [2, 3, 4, 5, 6, 0] rfl h
    · replace h := h.2 c5
      refine r_goto (tgt := 147) d_X12_bestWays_117 (by decide) ?_
      refine r_iinc (ls1 := [(5, (0, (x5 + 1))), (0, (2, 311)), (1, (0, x1)), (2, (0, x2)), (3, (0, x3)), (4, (0, x4)), (6, (0, x6)), (7, (0, x7))]) d_X12_bestWays_147 5 rfl (by decide) rfl ?_
      refine r_goto (tgt := 14) d_X12_bestWays_150 (by decide) ?_
      exact Rn.sub [1, 2, 3, 4, 5, 0] rfl h
  · replace h := h.2 c3
    refine r_iload d_X12_bestWays_46 7 rfl ?_
    refine r_aload_n d_X12_bestWays_48 0 rfl rfl ?_
    refine r_getL (v := 316) 12 13 13 rfl d_X12_bestWays_49 fl_X12_23 (by decide) (bs_ob bs_12) (ly_12_13 bs_12).1 (ly_12_13 bs_12).2.1 ?_
    refine r_iload_n d_X12_bestWays_52 1 rfl rfl ?_
    obtain ⟨h11, h⟩ := h
    refine r_iaload d_X12_bestWays_53 (ly_12_13 bs_12).2.2 h11 ?_
    obtain ⟨h12, h⟩ := h
    refine r_icmp_le (tgt := 66) d_X12_bestWays_54 (by decide) h1 h12 (fun c13 => ?_) (fun c13 => ?_)
    · replace h := h.1 c13
      refine r_iconst d_X12_bestWays_66 ?_
      exact h
    · replace h := h.2 c13
      refine r_aload_n d_X12_bestWays_57 0 rfl rfl ?_
      refine r_iload d_X12_bestWays_58 7 rfl ?_
      refine r_callV0 (M' := M_X12_inSeat) (ci := 12) [(0, x7)] d_X12_bestWays_60 cl_X12_413 rfl (Nat.le_of_ble_eq_true rfl) (by decide) rfl (bs_ob bs_12) ?_
      refine Ct.mono h (fun r15 G14 h => ?_)
      show Rn _ M_X12_bestWays zN 63 [(0, (2, 311)), (1, (0, x1)), (2, (0, x2)), (3, (0, x3)), (4, (0, x4)), (5, (0, x5)), (6, (0, x6)), (7, (0, x7))] [(0, r15)] G14 Q
      refine r_goto (tgt := 67) d_X12_bestWays_63 (by decide) ?_
      exact h
set_option maxRecDepth 20000 in
theorem s_X12_bestWays_67 {d : Nat} {x1 : Int} {x2 : Int} {x3 : Int} {x4 : Int} {x5 : Int} {x6 : Int} {x7 : Int} {s0 : Int} {G : Mem} {Q : Int → Mem → Prop}  (h : (InR x6) ∧ ((x6 = 0) → Rn (d + 1) M_X12_bestWays zN 35 [(0, (2, 311)), (1, (0, x1)), (2, (0, x2)), (3, (0, x3)), (4, (0, x4)), (5, (0, x5)), (6, (0, 0)), (7, (0, (x7 + 1)))] [] G Q) ∧ (¬ (x6 = 0) → Ct d M_X12_digit NT 0 0 (some lay) [(0, x5), (0, x7)] G (fun r4 G3 => (InR r4) ∧ ((r4 = 0) → Rn (d + 1) M_X12_bestWays zN 35 [(0, (2, 311)), (1, (0, x1)), (2, (0, x2)), (3, (0, x3)), (4, (0, x4)), (5, (0, x5)), (6, (0, 1)), (7, (0, (x7 + 1)))] [] G3 Q) ∧ (¬ (r4 = 0) → (InR s0) ∧ ((s0 < 0) → Rn (d + 1) M_X12_bestWays zN 35 [(0, (2, 311)), (1, (0, x1)), (2, (0, x2)), (3, (0, x3)), (4, (0, x4)), (5, (0, x5)), (6, (0, 0)), (7, (0, (x7 + 1)))] [] G3 Q) ∧ (¬ (s0 < 0) → Ct d M_X12_isAsleepAt NT 0 0 (some lay) [(2, 311), (0, s0), (0, x2)] G3 (fun r10 G9 => (InR r10) ∧ ((r10 = 0) → Rn (d + 1) M_X12_bestWays zN 35 [(0, (2, 311)), (1, (0, x1)), (2, (0, x2)), (3, (0, x3)), (4, (0, x4)), (5, (0, x5)), (6, (0, 0)), (7, (0, (x7 + 1)))] [] G9 Q) ∧ (¬ (r10 = 0) → Rn (d + 1) M_X12_bestWays zN 35 [(0, (2, 311)), (1, (0, x1)), (2, (0, x2)), (3, (0, x3)), (4, (0, x4)), (5, (0, x5)), (6, (0, 1)), (7, (0, (x7 + 1)))] [] G9 Q))))))) : Rn (d + 1) M_X12_bestWays zN 67 [(0, (2, 311)), (1, (0, x1)), (2, (0, x2)), (3, (0, x3)), (4, (0, x4)), (5, (0, x5)), (6, (0, x6)), (7, (0, x7))] [(0, s0)] G Q := by
  refine r_istore (ls1 := [(8, (0, s0)), (0, (2, 311)), (1, (0, x1)), (2, (0, x2)), (3, (0, x3)), (4, (0, x4)), (5, (0, x5)), (6, (0, x6)), (7, (0, x7))]) d_X12_bestWays_67 (by decide) rfl ?_
  refine r_iload d_X12_bestWays_69 7 rfl ?_
  obtain ⟨h1, h⟩ := h
  refine r_if_eq (tgt := 103) d_X12_bestWays_71 (by decide) h1 (fun c2 => ?_) (fun c2 => ?_)
  · replace h := h.1 c2
    refine r_iconst d_X12_bestWays_103 ?_
    refine r_istore (ls1 := [(6, (0, 0)), (8, (0, s0)), (0, (2, 311)), (1, (0, x1)), (2, (0, x2)), (3, (0, x3)), (4, (0, x4)), (5, (0, x5)), (7, (0, x7))]) d_X12_bestWays_104 (by decide) rfl ?_
    refine r_iinc (ls1 := [(7, (0, (x7 + 1))), (6, (0, 0)), (8, (0, s0)), (0, (2, 311)), (1, (0, x1)), (2, (0, x2)), (3, (0, x3)), (4, (0, x4)), (5, (0, x5))]) d_X12_bestWays_106 8 rfl (by decide) rfl ?_
    refine r_goto (tgt := 35) d_X12_bestWays_109 (by decide) ?_
    exact Rn.sub [3, 4, 5, 6, 7, 8, 1, 0] rfl h
  · replace h := h.2 c2
    refine r_iload d_X12_bestWays_74 6 rfl ?_
    refine r_iload d_X12_bestWays_76 8 rfl ?_
    refine r_callS0 (M' := M_X12_digit) [(0, x5), (0, x7)] d_X12_bestWays_78 cl_X12_430 rfl (Nat.le_of_ble_eq_true rfl) ?_
    refine Ct.mono h (fun r4 G3 h => ?_)
    show Rn _ M_X12_bestWays zN 81 [(8, (0, s0)), (0, (2, 311)), (1, (0, x1)), (2, (0, x2)), (3, (0, x3)), (4, (0, x4)), (5, (0, x5)), (6, (0, x6)), (7, (0, x7))] [(0, r4)] G3 Q
    obtain ⟨h5, h⟩ := h
    refine r_if_eq (tgt := 99) d_X12_bestWays_81 (by decide) h5 (fun c6 => ?_) (fun c6 => ?_)
    · replace h := h.1 c6
      refine r_iconst d_X12_bestWays_99 ?_
      refine r_goto (tgt := 104) d_X12_bestWays_100 (by decide) ?_
      refine r_istore (ls1 := [(6, (0, 1)), (8, (0, s0)), (0, (2, 311)), (1, (0, x1)), (2, (0, x2)), (3, (0, x3)), (4, (0, x4)), (5, (0, x5)), (7, (0, x7))]) d_X12_bestWays_104 (by decide) rfl ?_
      refine r_iinc (ls1 := [(7, (0, (x7 + 1))), (6, (0, 1)), (8, (0, s0)), (0, (2, 311)), (1, (0, x1)), (2, (0, x2)), (3, (0, x3)), (4, (0, x4)), (5, (0, x5))]) d_X12_bestWays_106 8 rfl (by decide) rfl ?_
      refine r_goto (tgt := 35) d_X12_bestWays_109 (by decide) ?_
      exact Rn.sub [3, 4, 5, 6, 7, 8, 1, 0] rfl h
    · replace h := h.2 c6
      refine r_iload d_X12_bestWays_84 0 rfl ?_
      obtain ⟨h7, h⟩ := h
      refine r_if_lt (tgt := 103) d_X12_bestWays_86 (by decide) h7 (fun c8 => ?_) (fun c8 => ?_)
      · replace h := h.1 c8
        refine r_iconst d_X12_bestWays_103 ?_
        refine r_istore (ls1 := [(6, (0, 0)), (8, (0, s0)), (0, (2, 311)), (1, (0, x1)), (2, (0, x2)), (3, (0, x3)), (4, (0, x4)), (5, (0, x5)), (7, (0, x7))]) d_X12_bestWays_104 (by decide) rfl ?_
        refine r_iinc (ls1 := [(7, (0, (x7 + 1))), (6, (0, 0)), (8, (0, s0)), (0, (2, 311)), (1, (0, x1)), (2, (0, x2)), (3, (0, x3)), (4, (0, x4)), (5, (0, x5))]) d_X12_bestWays_106 8 rfl (by decide) rfl ?_
        refine r_goto (tgt := 35) d_X12_bestWays_109 (by decide) ?_
        exact Rn.sub [3, 4, 5, 6, 7, 8, 1, 0] rfl h
      · replace h := h.2 c8
        refine r_aload_n d_X12_bestWays_89 1 rfl rfl ?_
        refine r_iload d_X12_bestWays_90 0 rfl ?_
        refine r_iload_n d_X12_bestWays_92 3 rfl rfl ?_
        refine r_callV0 (M' := M_X12_isAsleepAt) (ci := 12) [(0, s0), (0, x2)] d_X12_bestWays_93 cl_X12_380 rfl (Nat.le_of_ble_eq_true rfl) (by decide) rfl (bs_ob bs_12) ?_
        refine Ct.mono h (fun r10 G9 h => ?_)
        show Rn _ M_X12_bestWays zN 96 [(8, (0, s0)), (0, (2, 311)), (1, (0, x1)), (2, (0, x2)), (3, (0, x3)), (4, (0, x4)), (5, (0, x5)), (6, (0, x6)), (7, (0, x7))] [(0, r10)] G9 Q
        obtain ⟨h11, h⟩ := h
        refine r_if_eq (tgt := 103) d_X12_bestWays_96 (by decide) h11 (fun c12 => ?_) (fun c12 => ?_)
        · replace h := h.1 c12
          refine r_iconst d_X12_bestWays_103 ?_
          refine r_istore (ls1 := [(6, (0, 0)), (8, (0, s0)), (0, (2, 311)), (1, (0, x1)), (2, (0, x2)), (3, (0, x3)), (4, (0, x4)), (5, (0, x5)), (7, (0, x7))]) d_X12_bestWays_104 (by decide) rfl ?_
          refine r_iinc (ls1 := [(7, (0, (x7 + 1))), (6, (0, 0)), (8, (0, s0)), (0, (2, 311)), (1, (0, x1)), (2, (0, x2)), (3, (0, x3)), (4, (0, x4)), (5, (0, x5))]) d_X12_bestWays_106 8 rfl (by decide) rfl ?_
          refine r_goto (tgt := 35) d_X12_bestWays_109 (by decide) ?_
          exact Rn.sub [3, 4, 5, 6, 7, 8, 1, 0] rfl h
        · replace h := h.2 c12
          refine r_iconst d_X12_bestWays_99 ?_
          refine r_goto (tgt := 104) d_X12_bestWays_100 (by decide) ?_
          refine r_istore (ls1 := [(6, (0, 1)), (8, (0, s0)), (0, (2, 311)), (1, (0, x1)), (2, (0, x2)), (3, (0, x3)), (4, (0, x4)), (5, (0, x5)), (7, (0, x7))]) d_X12_bestWays_104 (by decide) rfl ?_
          refine r_iinc (ls1 := [(7, (0, (x7 + 1))), (6, (0, 1)), (8, (0, s0)), (0, (2, 311)), (1, (0, x1)), (2, (0, x2)), (3, (0, x3)), (4, (0, x4)), (5, (0, x5))]) d_X12_bestWays_106 8 rfl (by decide) rfl ?_
          refine r_goto (tgt := 35) d_X12_bestWays_109 (by decide) ?_
          exact Rn.sub [3, 4, 5, 6, 7, 8, 1, 0] rfl h
theorem d_X12_best_0 : decode M_X12_best.2.1 0 = .ok (.aload_n 0, 1) := by decide +kernel
theorem d_X12_best_1 : decode M_X12_best.2.1 1 = .ok (.iconst 0, 1) := by decide +kernel
theorem d_X12_best_2 : decode M_X12_best.2.1 2 = .ok (.putfield 169, 3) := by decide +kernel
theorem d_X12_best_5 : decode M_X12_best.2.1 5 = .ok (.aload_n 0, 1) := by decide +kernel
theorem d_X12_best_6 : decode M_X12_best.2.1 6 = .ok (.iload_n 1, 1) := by decide +kernel
theorem d_X12_best_7 : decode M_X12_best.2.1 7 = .ok (.invokevirtual 486, 3) := by decide +kernel
theorem d_X12_best_10 : decode M_X12_best.2.1 10 = .ok (.ifCond .eq 18, 3) := by decide +kernel
theorem d_X12_best_13 : decode M_X12_best.2.1 13 = .ok (.aload_n 0, 1) := by decide +kernel
theorem d_X12_best_14 : decode M_X12_best.2.1 14 = .ok (.iload_n 1, 1) := by decide +kernel
theorem d_X12_best_15 : decode M_X12_best.2.1 15 = .ok (.aload_n 0, 1) := by decide +kernel
theorem d_X12_best_16 : decode M_X12_best.2.1 16 = .ok (.getfield 102, 3) := by decide +kernel
theorem d_X12_best_19 : decode M_X12_best.2.1 19 = .ok (.bipush 110, 2) := by decide +kernel
theorem d_X12_best_21 : decode M_X12_best.2.1 21 = .ok (.iaload, 1) := by decide +kernel
theorem d_X12_best_22 : decode M_X12_best.2.1 22 = .ok (.invokevirtual 492, 3) := by decide +kernel
theorem d_X12_best_25 : decode M_X12_best.2.1 25 = .ok (.goto 4, 3) := by decide +kernel
theorem d_X12_best_28 : decode M_X12_best.2.1 28 = .ok (.iconst (-1), 1) := by decide +kernel
theorem d_X12_best_29 : decode M_X12_best.2.1 29 = .ok (.ireturn, 1) := by decide +kernel
set_option maxRecDepth 20000 in
theorem s_X12_best_0 {d : Nat} {p0 : Int} {G : Mem} {Q : Int → Mem → Prop}  (h : (∀ G1 : Mem, G1 = st G 311 0 0 → Ct d M_X12_isAble NT 0 0 (some lay) [(2, 311), (0, p0)] G1 (fun r3 G2 => (InR r3) ∧ ((r3 = 0) → Q (-1) G2) ∧ (¬ (r3 = 0) → Ct d M_X12_bestWays NT 0 0 (some lay) [(2, 311), (0, p0), (0, (G2 342 110))] G2 (fun r7 G6 => Q r7 G6))))) : Rn (d + 1) M_X12_best zN 0 [(0, (2, 311)), (1, (0, p0))] [] G Q := by
  refine r_aload_n d_X12_best_0 0 rfl rfl ?_
  refine r_iconst d_X12_best_1 ?_
  obtain ⟨G1, eG1⟩ : ∃ y : Mem, y = st G 311 0 0 := ⟨_, rfl⟩
  replace h := h G1 eG1
  refine r_putI 12 0 0 rfl d_X12_best_2 fl_X12_169 (by decide) nofin_12_0 (bs_ob bs_12) ?_
  rw [← eG1]
  refine r_aload_n d_X12_best_5 0 rfl rfl ?_
  refine r_iload_n d_X12_best_6 1 rfl rfl ?_
  refine r_callV0 (M' := M_X12_isAble) (ci := 12) [(0, p0)] d_X12_best_7 cl_X12_486 rfl (Nat.le_of_ble_eq_true rfl) (by decide) rfl (bs_ob bs_12) ?_
  refine Ct.mono h (fun r3 G2 h => ?_)
  show Rn _ M_X12_best zN 10 [(0, (2, 311)), (1, (0, p0))] [(0, r3)] G2 Q
  obtain ⟨h4, h⟩ := h
  refine r_if_eq (tgt := 28) d_X12_best_10 (by decide) h4 (fun c5 => ?_) (fun c5 => ?_)
  · replace h := h.1 c5
    refine r_iconst d_X12_best_28 ?_
    exact r_ireturn d_X12_best_29 rfl ⟨rfl, Nat.le_refl _, Nat.le_refl _⟩ h
  · replace h := h.2 c5
    refine r_aload_n d_X12_best_13 0 rfl rfl ?_
    refine r_iload_n d_X12_best_14 1 rfl rfl ?_
    refine r_aload_n d_X12_best_15 0 rfl rfl ?_
    refine r_getL (v := 342) 12 43 43 rfl d_X12_best_16 fl_X12_102 (by decide) (bs_ob bs_12) (ly_12_43 bs_12).1 (ly_12_43 bs_12).2.1 ?_
    refine r_bipush d_X12_best_19 (by decide +kernel) ?_
    refine r_iaload d_X12_best_21 (ly_12_43 bs_12).2.2 (by decide) ?_
    refine r_callV0 (M' := M_X12_bestWays) (ci := 12) [(0, p0), (0, (G2 342 110))] d_X12_best_22 cl_X12_492 rfl (Nat.le_of_ble_eq_true rfl) (by decide) rfl (bs_ob bs_12) ?_
    refine Ct.mono h (fun r7 G6 h => ?_)
    show Rn _ M_X12_best zN 25 [(0, (2, 311)), (1, (0, p0))] [(0, r7)] G6 Q
    refine r_goto (tgt := 29) d_X12_best_25 (by decide) ?_
    exact r_ireturn d_X12_best_29 rfl ⟨rfl, Nat.le_refl _, Nat.le_refl _⟩ h
theorem d_X12_side_0 : decode M_X12_side.2.1 0 = .ok (.aload_n 0, 1) := by decide +kernel
theorem d_X12_side_1 : decode M_X12_side.2.1 1 = .ok (.iconst 0, 1) := by decide +kernel
theorem d_X12_side_2 : decode M_X12_side.2.1 2 = .ok (.putfield 169, 3) := by decide +kernel
theorem d_X12_side_5 : decode M_X12_side.2.1 5 = .ok (.aload_n 0, 1) := by decide +kernel
theorem d_X12_side_6 : decode M_X12_side.2.1 6 = .ok (.iload_n 1, 1) := by decide +kernel
theorem d_X12_side_7 : decode M_X12_side.2.1 7 = .ok (.invokevirtual 404, 3) := by decide +kernel
theorem d_X12_side_10 : decode M_X12_side.2.1 10 = .ok (.ifCond .eq 11, 3) := by decide +kernel
theorem d_X12_side_13 : decode M_X12_side.2.1 13 = .ok (.aload_n 0, 1) := by decide +kernel
theorem d_X12_side_14 : decode M_X12_side.2.1 14 = .ok (.iload_n 1, 1) := by decide +kernel
theorem d_X12_side_15 : decode M_X12_side.2.1 15 = .ok (.invokevirtual 407, 3) := by decide +kernel
theorem d_X12_side_18 : decode M_X12_side.2.1 18 = .ok (.ifCond .ne 5, 3) := by decide +kernel
theorem d_X12_side_21 : decode M_X12_side.2.1 21 = .ok (.iconst (-1), 1) := by decide +kernel
theorem d_X12_side_22 : decode M_X12_side.2.1 22 = .ok (.ireturn, 1) := by decide +kernel
theorem d_X12_side_23 : decode M_X12_side.2.1 23 = .ok (.aload_n 0, 1) := by decide +kernel
theorem d_X12_side_24 : decode M_X12_side.2.1 24 = .ok (.iload_n 1, 1) := by decide +kernel
theorem d_X12_side_25 : decode M_X12_side.2.1 25 = .ok (.iconst 1, 1) := by decide +kernel
theorem d_X12_side_26 : decode M_X12_side.2.1 26 = .ok (.aload_n 0, 1) := by decide +kernel
theorem d_X12_side_27 : decode M_X12_side.2.1 27 = .ok (.getfield 102, 3) := by decide +kernel
theorem d_X12_side_30 : decode M_X12_side.2.1 30 = .ok (.bipush 110, 2) := by decide +kernel
theorem d_X12_side_32 : decode M_X12_side.2.1 32 = .ok (.iaload, 1) := by decide +kernel
theorem d_X12_side_33 : decode M_X12_side.2.1 33 = .ok (.invokevirtual 470, 3) := by decide +kernel
theorem d_X12_side_36 : decode M_X12_side.2.1 36 = .ok (.aload_n 0, 1) := by decide +kernel
theorem d_X12_side_37 : decode M_X12_side.2.1 37 = .ok (.iload_n 1, 1) := by decide +kernel
theorem d_X12_side_38 : decode M_X12_side.2.1 38 = .ok (.iconst 0, 1) := by decide +kernel
theorem d_X12_side_39 : decode M_X12_side.2.1 39 = .ok (.aload_n 0, 1) := by decide +kernel
theorem d_X12_side_40 : decode M_X12_side.2.1 40 = .ok (.getfield 102, 3) := by decide +kernel
theorem d_X12_side_43 : decode M_X12_side.2.1 43 = .ok (.bipush 110, 2) := by decide +kernel
theorem d_X12_side_45 : decode M_X12_side.2.1 45 = .ok (.iaload, 1) := by decide +kernel
theorem d_X12_side_46 : decode M_X12_side.2.1 46 = .ok (.invokevirtual 470, 3) := by decide +kernel
theorem d_X12_side_49 : decode M_X12_side.2.1 49 = .ok (.if_icmp .ge 7, 3) := by decide +kernel
theorem d_X12_side_52 : decode M_X12_side.2.1 52 = .ok (.iconst 1, 1) := by decide +kernel
theorem d_X12_side_53 : decode M_X12_side.2.1 53 = .ok (.goto 4, 3) := by decide +kernel
theorem d_X12_side_56 : decode M_X12_side.2.1 56 = .ok (.iconst 0, 1) := by decide +kernel
theorem d_X12_side_57 : decode M_X12_side.2.1 57 = .ok (.ireturn, 1) := by decide +kernel
set_option maxRecDepth 20000 in
theorem s_X12_side_0 {d : Nat} {p0 : Int} {G : Mem} {Q : Int → Mem → Prop}  (h : (∀ G1 : Mem, G1 = st G 311 0 0 → Ct d M_X12_isSitter NT 0 0 (some lay) [(2, 311), (0, p0)] G1 (fun r3 G2 => (InR r3) ∧ ((r3 = 0) → Q (-1) G2) ∧ (¬ (r3 = 0) → Ct d M_X12_isAsleep NT 0 0 (some lay) [(2, 311), (0, p0)] G2 (fun r7 G6 => (InR r7) ∧ ((r7 ≠ 0) → Ct d M_X12_spilling NT 0 0 (some lay) [(2, 311), (0, p0), (0, 1), (0, (G6 342 110))] G6 (fun r11 G10 => Ct d M_X12_spilling NT 0 0 (some lay) [(2, 311), (0, p0), (0, 0), (0, (G10 342 110))] G10 (fun r13 G12 => (InR r11) ∧ (InR r13) ∧ ((r13 ≤ r11) → Q 0 G12) ∧ (¬ (r13 ≤ r11) → Q 1 G12)))) ∧ (¬ (r7 ≠ 0) → Q (-1) G6)))))) : Rn (d + 1) M_X12_side zN 0 [(0, (2, 311)), (1, (0, p0))] [] G Q := by
  refine r_aload_n d_X12_side_0 0 rfl rfl ?_
  refine r_iconst d_X12_side_1 ?_
  obtain ⟨G1, eG1⟩ : ∃ y : Mem, y = st G 311 0 0 := ⟨_, rfl⟩
  replace h := h G1 eG1
  refine r_putI 12 0 0 rfl d_X12_side_2 fl_X12_169 (by decide) nofin_12_0 (bs_ob bs_12) ?_
  rw [← eG1]
  refine r_aload_n d_X12_side_5 0 rfl rfl ?_
  refine r_iload_n d_X12_side_6 1 rfl rfl ?_
  refine r_callV0 (M' := M_X12_isSitter) (ci := 12) [(0, p0)] d_X12_side_7 cl_X12_404 rfl (Nat.le_of_ble_eq_true rfl) (by decide) rfl (bs_ob bs_12) ?_
  refine Ct.mono h (fun r3 G2 h => ?_)
  show Rn _ M_X12_side zN 10 [(0, (2, 311)), (1, (0, p0))] [(0, r3)] G2 Q
  obtain ⟨h4, h⟩ := h
  refine r_if_eq (tgt := 21) d_X12_side_10 (by decide) h4 (fun c5 => ?_) (fun c5 => ?_)
  · replace h := h.1 c5
    refine r_iconst d_X12_side_21 ?_
    exact r_ireturn d_X12_side_22 rfl ⟨rfl, Nat.le_refl _, Nat.le_refl _⟩ h
  · replace h := h.2 c5
    refine r_aload_n d_X12_side_13 0 rfl rfl ?_
    refine r_iload_n d_X12_side_14 1 rfl rfl ?_
    refine r_callV0 (M' := M_X12_isAsleep) (ci := 12) [(0, p0)] d_X12_side_15 cl_X12_407 rfl (Nat.le_of_ble_eq_true rfl) (by decide) rfl (bs_ob bs_12) ?_
    refine Ct.mono h (fun r7 G6 h => ?_)
    show Rn _ M_X12_side zN 18 [(0, (2, 311)), (1, (0, p0))] [(0, r7)] G6 Q
    obtain ⟨h8, h⟩ := h
    refine r_if_ne (tgt := 23) d_X12_side_18 (by decide) h8 (fun c9 => ?_) (fun c9 => ?_)
    · replace h := h.1 c9
      refine r_aload_n d_X12_side_23 0 rfl rfl ?_
      refine r_iload_n d_X12_side_24 1 rfl rfl ?_
      refine r_iconst d_X12_side_25 ?_
      refine r_aload_n d_X12_side_26 0 rfl rfl ?_
      refine r_getL (v := 342) 12 43 43 rfl d_X12_side_27 fl_X12_102 (by decide) (bs_ob bs_12) (ly_12_43 bs_12).1 (ly_12_43 bs_12).2.1 ?_
      refine r_bipush d_X12_side_30 (by decide +kernel) ?_
      refine r_iaload d_X12_side_32 (ly_12_43 bs_12).2.2 (by decide) ?_
      refine r_callV0 (M' := M_X12_spilling) (ci := 12) [(0, p0), (0, 1), (0, (G6 342 110))] d_X12_side_33 cl_X12_470 rfl (Nat.le_of_ble_eq_true rfl) (by decide) rfl (bs_ob bs_12) ?_
      refine Ct.mono h (fun r11 G10 h => ?_)
      show Rn _ M_X12_side zN 36 [(0, (2, 311)), (1, (0, p0))] [(0, r11)] G10 Q
      refine r_aload_n d_X12_side_36 0 rfl rfl ?_
      refine r_iload_n d_X12_side_37 1 rfl rfl ?_
      refine r_iconst d_X12_side_38 ?_
      refine r_aload_n d_X12_side_39 0 rfl rfl ?_
      refine r_getL (v := 342) 12 43 43 rfl d_X12_side_40 fl_X12_102 (by decide) (bs_ob bs_12) (ly_12_43 bs_12).1 (ly_12_43 bs_12).2.1 ?_
      refine r_bipush d_X12_side_43 (by decide +kernel) ?_
      refine r_iaload d_X12_side_45 (ly_12_43 bs_12).2.2 (by decide) ?_
      refine r_callV0 (M' := M_X12_spilling) (ci := 12) [(0, p0), (0, 0), (0, (G10 342 110))] d_X12_side_46 cl_X12_470 rfl (Nat.le_of_ble_eq_true rfl) (by decide) rfl (bs_ob bs_12) ?_
      refine Ct.mono h (fun r13 G12 h => ?_)
      show Rn _ M_X12_side zN 49 [(0, (2, 311)), (1, (0, p0))] [(0, r13), (0, r11)] G12 Q
      obtain ⟨h14, h⟩ := h
      obtain ⟨h15, h⟩ := h
      refine r_icmp_ge (tgt := 56) d_X12_side_49 (by decide) h14 h15 (fun c16 => ?_) (fun c16 => ?_)
      · replace h := h.1 c16
        refine r_iconst d_X12_side_56 ?_
        exact r_ireturn d_X12_side_57 rfl ⟨rfl, Nat.le_refl _, Nat.le_refl _⟩ h
      · replace h := h.2 c16
        refine r_iconst d_X12_side_52 ?_
        refine r_goto (tgt := 57) d_X12_side_53 (by decide) ?_
        exact r_ireturn d_X12_side_57 rfl ⟨rfl, Nat.le_refl _, Nat.le_refl _⟩ h
    · replace h := h.2 c9
      refine r_iconst d_X12_side_21 ?_
      exact r_ireturn d_X12_side_22 rfl ⟨rfl, Nat.le_refl _, Nat.le_refl _⟩ h
theorem d_X12_regimes_0 : decode M_X12_regimes.2.1 0 = .ok (.aload_n 0, 1) := by decide +kernel
theorem d_X12_regimes_1 : decode M_X12_regimes.2.1 1 = .ok (.getfield 13, 3) := by decide +kernel
theorem d_X12_regimes_4 : decode M_X12_regimes.2.1 4 = .ok (.iconst 1, 1) := by decide +kernel
theorem d_X12_regimes_5 : decode M_X12_regimes.2.1 5 = .ok (.iaload, 1) := by decide +kernel
theorem d_X12_regimes_6 : decode M_X12_regimes.2.1 6 = .ok (.istore_n 2, 1) := by decide +kernel
theorem d_X12_regimes_7 : decode M_X12_regimes.2.1 7 = .ok (.iconst 0, 1) := by decide +kernel
theorem d_X12_regimes_8 : decode M_X12_regimes.2.1 8 = .ok (.istore_n 3, 1) := by decide +kernel
theorem d_X12_regimes_9 : decode M_X12_regimes.2.1 9 = .ok (.iload_n 3, 1) := by decide +kernel
theorem d_X12_regimes_10 : decode M_X12_regimes.2.1 10 = .ok (.sipush 200, 3) := by decide +kernel
theorem d_X12_regimes_13 : decode M_X12_regimes.2.1 13 = .ok (.if_icmp .ge 22, 3) := by decide +kernel
theorem d_X12_regimes_16 : decode M_X12_regimes.2.1 16 = .ok (.aload_n 0, 1) := by decide +kernel
theorem d_X12_regimes_17 : decode M_X12_regimes.2.1 17 = .ok (.getfield 111, 3) := by decide +kernel
theorem d_X12_regimes_20 : decode M_X12_regimes.2.1 20 = .ok (.sipush 200, 3) := by decide +kernel
theorem d_X12_regimes_23 : decode M_X12_regimes.2.1 23 = .ok (.iload_n 2, 1) := by decide +kernel
theorem d_X12_regimes_24 : decode M_X12_regimes.2.1 24 = .ok (.imul, 1) := by decide +kernel
theorem d_X12_regimes_25 : decode M_X12_regimes.2.1 25 = .ok (.iload_n 3, 1) := by decide +kernel
theorem d_X12_regimes_26 : decode M_X12_regimes.2.1 26 = .ok (.iadd, 1) := by decide +kernel
theorem d_X12_regimes_27 : decode M_X12_regimes.2.1 27 = .ok (.iconst 0, 1) := by decide +kernel
theorem d_X12_regimes_28 : decode M_X12_regimes.2.1 28 = .ok (.iastore, 1) := by decide +kernel
theorem d_X12_regimes_29 : decode M_X12_regimes.2.1 29 = .ok (.iinc 3 1, 3) := by decide +kernel
theorem d_X12_regimes_32 : decode M_X12_regimes.2.1 32 = .ok (.goto (-23), 3) := by decide +kernel
theorem d_X12_regimes_35 : decode M_X12_regimes.2.1 35 = .ok (.aload_n 0, 1) := by decide +kernel
theorem d_X12_regimes_36 : decode M_X12_regimes.2.1 36 = .ok (.getfield 102, 3) := by decide +kernel
theorem d_X12_regimes_39 : decode M_X12_regimes.2.1 39 = .ok (.bipush 110, 2) := by decide +kernel
theorem d_X12_regimes_41 : decode M_X12_regimes.2.1 41 = .ok (.iaload, 1) := by decide +kernel
theorem d_X12_regimes_42 : decode M_X12_regimes.2.1 42 = .ok (.istore_n 3, 1) := by decide +kernel
theorem d_X12_regimes_43 : decode M_X12_regimes.2.1 43 = .ok (.iload_n 3, 1) := by decide +kernel
theorem d_X12_regimes_44 : decode M_X12_regimes.2.1 44 = .ok (.iload_n 2, 1) := by decide +kernel
theorem d_X12_regimes_45 : decode M_X12_regimes.2.1 45 = .ok (.if_icmp .ge 36, 3) := by decide +kernel
theorem d_X12_regimes_48 : decode M_X12_regimes.2.1 48 = .ok (.aload_n 0, 1) := by decide +kernel
theorem d_X12_regimes_49 : decode M_X12_regimes.2.1 49 = .ok (.iload_n 1, 1) := by decide +kernel
theorem d_X12_regimes_50 : decode M_X12_regimes.2.1 50 = .ok (.iload_n 3, 1) := by decide +kernel
theorem d_X12_regimes_51 : decode M_X12_regimes.2.1 51 = .ok (.invokevirtual 492, 3) := by decide +kernel
theorem d_X12_regimes_54 : decode M_X12_regimes.2.1 54 = .ok (.pop, 1) := by decide +kernel
theorem d_X12_regimes_55 : decode M_X12_regimes.2.1 55 = .ok (.aload_n 0, 1) := by decide +kernel
theorem d_X12_regimes_56 : decode M_X12_regimes.2.1 56 = .ok (.getfield 117, 3) := by decide +kernel
theorem d_X12_regimes_59 : decode M_X12_regimes.2.1 59 = .ok (.iload_n 3, 1) := by decide +kernel
theorem d_X12_regimes_60 : decode M_X12_regimes.2.1 60 = .ok (.aload_n 0, 1) := by decide +kernel
theorem d_X12_regimes_61 : decode M_X12_regimes.2.1 61 = .ok (.getfield 479, 3) := by decide +kernel
theorem d_X12_regimes_64 : decode M_X12_regimes.2.1 64 = .ok (.iastore, 1) := by decide +kernel
theorem d_X12_regimes_65 : decode M_X12_regimes.2.1 65 = .ok (.aload_n 0, 1) := by decide +kernel
theorem d_X12_regimes_66 : decode M_X12_regimes.2.1 66 = .ok (.getfield 120, 3) := by decide +kernel
theorem d_X12_regimes_69 : decode M_X12_regimes.2.1 69 = .ok (.iload_n 3, 1) := by decide +kernel
theorem d_X12_regimes_70 : decode M_X12_regimes.2.1 70 = .ok (.aload_n 0, 1) := by decide +kernel
theorem d_X12_regimes_71 : decode M_X12_regimes.2.1 71 = .ok (.getfield 473, 3) := by decide +kernel
theorem d_X12_regimes_74 : decode M_X12_regimes.2.1 74 = .ok (.iastore, 1) := by decide +kernel
theorem d_X12_regimes_75 : decode M_X12_regimes.2.1 75 = .ok (.iinc 3 1, 3) := by decide +kernel
theorem d_X12_regimes_78 : decode M_X12_regimes.2.1 78 = .ok (.goto (-35), 3) := by decide +kernel
theorem d_X12_regimes_81 : decode M_X12_regimes.2.1 81 = .ok (.iload_n 2, 1) := by decide +kernel
theorem d_X12_regimes_82 : decode M_X12_regimes.2.1 82 = .ok (.iconst 1, 1) := by decide +kernel
theorem d_X12_regimes_83 : decode M_X12_regimes.2.1 83 = .ok (.isub, 1) := by decide +kernel
theorem d_X12_regimes_84 : decode M_X12_regimes.2.1 84 = .ok (.istore_n 3, 1) := by decide +kernel
theorem d_X12_regimes_85 : decode M_X12_regimes.2.1 85 = .ok (.iload_n 3, 1) := by decide +kernel
theorem d_X12_regimes_86 : decode M_X12_regimes.2.1 86 = .ok (.aload_n 0, 1) := by decide +kernel
theorem d_X12_regimes_87 : decode M_X12_regimes.2.1 87 = .ok (.getfield 102, 3) := by decide +kernel
theorem d_X12_regimes_90 : decode M_X12_regimes.2.1 90 = .ok (.bipush 110, 2) := by decide +kernel
theorem d_X12_regimes_92 : decode M_X12_regimes.2.1 92 = .ok (.iaload, 1) := by decide +kernel
theorem d_X12_regimes_93 : decode M_X12_regimes.2.1 93 = .ok (.if_icmp .lt 269, 3) := by decide +kernel
theorem d_X12_regimes_96 : decode M_X12_regimes.2.1 96 = .ok (.aload_n 0, 1) := by decide +kernel
theorem d_X12_regimes_97 : decode M_X12_regimes.2.1 97 = .ok (.iload_n 1, 1) := by decide +kernel
theorem d_X12_regimes_98 : decode M_X12_regimes.2.1 98 = .ok (.iload_n 3, 1) := by decide +kernel
theorem d_X12_regimes_99 : decode M_X12_regimes.2.1 99 = .ok (.invokevirtual 380, 3) := by decide +kernel
theorem d_X12_regimes_102 : decode M_X12_regimes.2.1 102 = .ok (.ifCond .ne 15, 3) := by decide +kernel
theorem d_X12_regimes_105 : decode M_X12_regimes.2.1 105 = .ok (.aload_n 0, 1) := by decide +kernel
theorem d_X12_regimes_106 : decode M_X12_regimes.2.1 106 = .ok (.iload_n 3, 1) := by decide +kernel
theorem d_X12_regimes_107 : decode M_X12_regimes.2.1 107 = .ok (.invokevirtual 416, 3) := by decide +kernel
theorem d_X12_regimes_110 : decode M_X12_regimes.2.1 110 = .ok (.ifCond .ne 7, 3) := by decide +kernel
theorem d_X12_regimes_113 : decode M_X12_regimes.2.1 113 = .ok (.iconst 1, 1) := by decide +kernel
theorem d_X12_regimes_114 : decode M_X12_regimes.2.1 114 = .ok (.goto 4, 3) := by decide +kernel
theorem d_X12_regimes_117 : decode M_X12_regimes.2.1 117 = .ok (.iconst 0, 1) := by decide +kernel
theorem d_X12_regimes_118 : decode M_X12_regimes.2.1 118 = .ok (.istore 4, 2) := by decide +kernel
theorem d_X12_regimes_120 : decode M_X12_regimes.2.1 120 = .ok (.iload_n 3, 1) := by decide +kernel
theorem d_X12_regimes_121 : decode M_X12_regimes.2.1 121 = .ok (.iconst 1, 1) := by decide +kernel
theorem d_X12_regimes_122 : decode M_X12_regimes.2.1 122 = .ok (.iadd, 1) := by decide +kernel
theorem d_X12_regimes_123 : decode M_X12_regimes.2.1 123 = .ok (.aload_n 0, 1) := by decide +kernel
theorem d_X12_regimes_124 : decode M_X12_regimes.2.1 124 = .ok (.iload_n 3, 1) := by decide +kernel
theorem d_X12_regimes_125 : decode M_X12_regimes.2.1 125 = .ok (.iconst 0, 1) := by decide +kernel
theorem d_X12_regimes_126 : decode M_X12_regimes.2.1 126 = .ok (.invokevirtual 450, 3) := by decide +kernel
theorem d_X12_regimes_129 : decode M_X12_regimes.2.1 129 = .ok (.iadd, 1) := by decide +kernel
theorem d_X12_regimes_130 : decode M_X12_regimes.2.1 130 = .ok (.istore 5, 2) := by decide +kernel
theorem d_X12_regimes_132 : decode M_X12_regimes.2.1 132 = .ok (.iload 5, 2) := by decide +kernel
theorem d_X12_regimes_134 : decode M_X12_regimes.2.1 134 = .ok (.iload_n 2, 1) := by decide +kernel
theorem d_X12_regimes_135 : decode M_X12_regimes.2.1 135 = .ok (.if_icmp .ge 28, 3) := by decide +kernel
theorem d_X12_regimes_138 : decode M_X12_regimes.2.1 138 = .ok (.aload_n 0, 1) := by decide +kernel
theorem d_X12_regimes_139 : decode M_X12_regimes.2.1 139 = .ok (.getfield 117, 3) := by decide +kernel
theorem d_X12_regimes_142 : decode M_X12_regimes.2.1 142 = .ok (.iload 5, 2) := by decide +kernel
theorem d_X12_regimes_144 : decode M_X12_regimes.2.1 144 = .ok (.iaload, 1) := by decide +kernel
theorem d_X12_regimes_145 : decode M_X12_regimes.2.1 145 = .ok (.bipush 10, 2) := by decide +kernel
theorem d_X12_regimes_147 : decode M_X12_regimes.2.1 147 = .ok (.idiv, 1) := by decide +kernel
theorem d_X12_regimes_148 : decode M_X12_regimes.2.1 148 = .ok (.aload_n 0, 1) := by decide +kernel
theorem d_X12_regimes_149 : decode M_X12_regimes.2.1 149 = .ok (.getfield 111, 3) := by decide +kernel
theorem d_X12_regimes_152 : decode M_X12_regimes.2.1 152 = .ok (.sipush 200, 3) := by decide +kernel
theorem d_X12_regimes_155 : decode M_X12_regimes.2.1 155 = .ok (.iload 5, 2) := by decide +kernel
theorem d_X12_regimes_157 : decode M_X12_regimes.2.1 157 = .ok (.imul, 1) := by decide +kernel
theorem d_X12_regimes_158 : decode M_X12_regimes.2.1 158 = .ok (.iaload, 1) := by decide +kernel
theorem d_X12_regimes_159 : decode M_X12_regimes.2.1 159 = .ok (.iadd, 1) := by decide +kernel
theorem d_X12_regimes_160 : decode M_X12_regimes.2.1 160 = .ok (.goto 4, 3) := by decide +kernel
theorem d_X12_regimes_163 : decode M_X12_regimes.2.1 163 = .ok (.iconst 0, 1) := by decide +kernel
theorem d_X12_regimes_164 : decode M_X12_regimes.2.1 164 = .ok (.istore 6, 2) := by decide +kernel
theorem d_X12_regimes_166 : decode M_X12_regimes.2.1 166 = .ok (.iconst 0, 1) := by decide +kernel
theorem d_X12_regimes_167 : decode M_X12_regimes.2.1 167 = .ok (.istore 7, 2) := by decide +kernel
theorem d_X12_regimes_169 : decode M_X12_regimes.2.1 169 = .ok (.iload 7, 2) := by decide +kernel
theorem d_X12_regimes_171 : decode M_X12_regimes.2.1 171 = .ok (.sipush 200, 3) := by decide +kernel
theorem d_X12_regimes_174 : decode M_X12_regimes.2.1 174 = .ok (.if_icmp .ge 182, 3) := by decide +kernel
theorem d_X12_regimes_177 : decode M_X12_regimes.2.1 177 = .ok (.sipush 199, 3) := by decide +kernel
theorem d_X12_regimes_180 : decode M_X12_regimes.2.1 180 = .ok (.iload 7, 2) := by decide +kernel
theorem d_X12_regimes_182 : decode M_X12_regimes.2.1 182 = .ok (.aload_n 0, 1) := by decide +kernel
theorem d_X12_regimes_183 : decode M_X12_regimes.2.1 183 = .ok (.iload_n 1, 1) := by decide +kernel
theorem d_X12_regimes_184 : decode M_X12_regimes.2.1 184 = .ok (.invokevirtual 453, 3) := by decide +kernel
theorem d_X12_regimes_187 : decode M_X12_regimes.2.1 187 = .ok (.iadd, 1) := by decide +kernel
theorem d_X12_regimes_188 : decode M_X12_regimes.2.1 188 = .ok (.invokestatic 456, 3) := by decide +kernel
theorem d_X12_regimes_191 : decode M_X12_regimes.2.1 191 = .ok (.istore 8, 2) := by decide +kernel
theorem d_X12_regimes_193 : decode M_X12_regimes.2.1 193 = .ok (.iload 8, 2) := by decide +kernel
theorem d_X12_regimes_195 : decode M_X12_regimes.2.1 195 = .ok (.aload_n 0, 1) := by decide +kernel
theorem d_X12_regimes_196 : decode M_X12_regimes.2.1 196 = .ok (.getfield 29, 3) := by decide +kernel
theorem d_X12_regimes_199 : decode M_X12_regimes.2.1 199 = .ok (.iload_n 1, 1) := by decide +kernel
theorem d_X12_regimes_200 : decode M_X12_regimes.2.1 200 = .ok (.iaload, 1) := by decide +kernel
theorem d_X12_regimes_201 : decode M_X12_regimes.2.1 201 = .ok (.if_icmp .le 16, 3) := by decide +kernel
theorem d_X12_regimes_204 : decode M_X12_regimes.2.1 204 = .ok (.sipush 1000, 3) := by decide +kernel
theorem d_X12_regimes_207 : decode M_X12_regimes.2.1 207 = .ok (.aload_n 0, 1) := by decide +kernel
theorem d_X12_regimes_208 : decode M_X12_regimes.2.1 208 = .ok (.getfield 13, 3) := by decide +kernel
theorem d_X12_regimes_211 : decode M_X12_regimes.2.1 211 = .ok (.iconst 5, 1) := by decide +kernel
theorem d_X12_regimes_212 : decode M_X12_regimes.2.1 212 = .ok (.iaload, 1) := by decide +kernel
theorem d_X12_regimes_213 : decode M_X12_regimes.2.1 213 = .ok (.imul, 1) := by decide +kernel
theorem d_X12_regimes_214 : decode M_X12_regimes.2.1 214 = .ok (.goto 4, 3) := by decide +kernel
theorem d_X12_regimes_217 : decode M_X12_regimes.2.1 217 = .ok (.iconst 0, 1) := by decide +kernel
theorem d_X12_regimes_218 : decode M_X12_regimes.2.1 218 = .ok (.aload_n 0, 1) := by decide +kernel
theorem d_X12_regimes_219 : decode M_X12_regimes.2.1 219 = .ok (.getfield 111, 3) := by decide +kernel
theorem d_X12_regimes_222 : decode M_X12_regimes.2.1 222 = .ok (.sipush 200, 3) := by decide +kernel
theorem d_X12_regimes_225 : decode M_X12_regimes.2.1 225 = .ok (.iload_n 3, 1) := by decide +kernel
theorem d_X12_regimes_226 : decode M_X12_regimes.2.1 226 = .ok (.iconst 1, 1) := by decide +kernel
theorem d_X12_regimes_227 : decode M_X12_regimes.2.1 227 = .ok (.iadd, 1) := by decide +kernel
theorem d_X12_regimes_228 : decode M_X12_regimes.2.1 228 = .ok (.imul, 1) := by decide +kernel
theorem d_X12_regimes_229 : decode M_X12_regimes.2.1 229 = .ok (.iload 8, 2) := by decide +kernel
theorem d_X12_regimes_231 : decode M_X12_regimes.2.1 231 = .ok (.iadd, 1) := by decide +kernel
theorem d_X12_regimes_232 : decode M_X12_regimes.2.1 232 = .ok (.iaload, 1) := by decide +kernel
theorem d_X12_regimes_233 : decode M_X12_regimes.2.1 233 = .ok (.iadd, 1) := by decide +kernel
theorem d_X12_regimes_234 : decode M_X12_regimes.2.1 234 = .ok (.istore 9, 2) := by decide +kernel
theorem d_X12_regimes_236 : decode M_X12_regimes.2.1 236 = .ok (.aload_n 0, 1) := by decide +kernel
theorem d_X12_regimes_237 : decode M_X12_regimes.2.1 237 = .ok (.getfield 120, 3) := by decide +kernel
theorem d_X12_regimes_240 : decode M_X12_regimes.2.1 240 = .ok (.iload_n 3, 1) := by decide +kernel
theorem d_X12_regimes_241 : decode M_X12_regimes.2.1 241 = .ok (.iaload, 1) := by decide +kernel
theorem d_X12_regimes_242 : decode M_X12_regimes.2.1 242 = .ok (.i2l, 1) := by decide +kernel
theorem d_X12_regimes_243 : decode M_X12_regimes.2.1 243 = .ok (.iload 6, 2) := by decide +kernel
theorem d_X12_regimes_245 : decode M_X12_regimes.2.1 245 = .ok (.i2l, 1) := by decide +kernel
theorem d_X12_regimes_246 : decode M_X12_regimes.2.1 246 = .ok (.lmul, 1) := by decide +kernel
theorem d_X12_regimes_247 : decode M_X12_regimes.2.1 247 = .ok (.sipush 10000, 3) := by decide +kernel
theorem d_X12_regimes_250 : decode M_X12_regimes.2.1 250 = .ok (.aload_n 0, 1) := by decide +kernel
theorem d_X12_regimes_251 : decode M_X12_regimes.2.1 251 = .ok (.getfield 120, 3) := by decide +kernel
theorem d_X12_regimes_254 : decode M_X12_regimes.2.1 254 = .ok (.iload_n 3, 1) := by decide +kernel
theorem d_X12_regimes_255 : decode M_X12_regimes.2.1 255 = .ok (.iaload, 1) := by decide +kernel
theorem d_X12_regimes_256 : decode M_X12_regimes.2.1 256 = .ok (.isub, 1) := by decide +kernel
theorem d_X12_regimes_257 : decode M_X12_regimes.2.1 257 = .ok (.i2l, 1) := by decide +kernel
theorem d_X12_regimes_258 : decode M_X12_regimes.2.1 258 = .ok (.iload 9, 2) := by decide +kernel
theorem d_X12_regimes_260 : decode M_X12_regimes.2.1 260 = .ok (.i2l, 1) := by decide +kernel
theorem d_X12_regimes_261 : decode M_X12_regimes.2.1 261 = .ok (.lmul, 1) := by decide +kernel
theorem d_X12_regimes_262 : decode M_X12_regimes.2.1 262 = .ok (.ladd, 1) := by decide +kernel
theorem d_X12_regimes_263 : decode M_X12_regimes.2.1 263 = .ok (.lstore 10, 2) := by decide +kernel
theorem d_X12_regimes_265 : decode M_X12_regimes.2.1 265 = .ok (.aload_n 0, 1) := by decide +kernel
theorem d_X12_regimes_266 : decode M_X12_regimes.2.1 266 = .ok (.getfield 117, 3) := by decide +kernel
theorem d_X12_regimes_269 : decode M_X12_regimes.2.1 269 = .ok (.iload_n 3, 1) := by decide +kernel
theorem d_X12_regimes_270 : decode M_X12_regimes.2.1 270 = .ok (.iaload, 1) := by decide +kernel
theorem d_X12_regimes_271 : decode M_X12_regimes.2.1 271 = .ok (.bipush 10, 2) := by decide +kernel
theorem d_X12_regimes_273 : decode M_X12_regimes.2.1 273 = .ok (.idiv, 1) := by decide +kernel
theorem d_X12_regimes_274 : decode M_X12_regimes.2.1 274 = .ok (.lload 10, 2) := by decide +kernel
theorem d_X12_regimes_276 : decode M_X12_regimes.2.1 276 = .ok (.ldc2_w 495, 3) := by decide +kernel
theorem d_X12_regimes_279 : decode M_X12_regimes.2.1 279 = .ok (.ldiv, 1) := by decide +kernel
theorem d_X12_regimes_280 : decode M_X12_regimes.2.1 280 = .ok (.l2i, 1) := by decide +kernel
theorem d_X12_regimes_281 : decode M_X12_regimes.2.1 281 = .ok (.iadd, 1) := by decide +kernel
theorem d_X12_regimes_282 : decode M_X12_regimes.2.1 282 = .ok (.istore 12, 2) := by decide +kernel
theorem d_X12_regimes_284 : decode M_X12_regimes.2.1 284 = .ok (.aload_n 0, 1) := by decide +kernel
theorem d_X12_regimes_285 : decode M_X12_regimes.2.1 285 = .ok (.getfield 114, 3) := by decide +kernel
theorem d_X12_regimes_288 : decode M_X12_regimes.2.1 288 = .ok (.sipush 200, 3) := by decide +kernel
theorem d_X12_regimes_291 : decode M_X12_regimes.2.1 291 = .ok (.iload_n 3, 1) := by decide +kernel
theorem d_X12_regimes_292 : decode M_X12_regimes.2.1 292 = .ok (.imul, 1) := by decide +kernel
theorem d_X12_regimes_293 : decode M_X12_regimes.2.1 293 = .ok (.iload 7, 2) := by decide +kernel
theorem d_X12_regimes_295 : decode M_X12_regimes.2.1 295 = .ok (.iadd, 1) := by decide +kernel
theorem d_X12_regimes_296 : decode M_X12_regimes.2.1 296 = .ok (.iload 4, 2) := by decide +kernel
theorem d_X12_regimes_298 : decode M_X12_regimes.2.1 298 = .ok (.ifCond .eq 14, 3) := by decide +kernel
theorem d_X12_regimes_301 : decode M_X12_regimes.2.1 301 = .ok (.iload 12, 2) := by decide +kernel
theorem d_X12_regimes_303 : decode M_X12_regimes.2.1 303 = .ok (.iload 9, 2) := by decide +kernel
theorem d_X12_regimes_305 : decode M_X12_regimes.2.1 305 = .ok (.if_icmp .ge 7, 3) := by decide +kernel
theorem d_X12_regimes_308 : decode M_X12_regimes.2.1 308 = .ok (.iconst 1, 1) := by decide +kernel
theorem d_X12_regimes_309 : decode M_X12_regimes.2.1 309 = .ok (.goto 4, 3) := by decide +kernel
theorem d_X12_regimes_312 : decode M_X12_regimes.2.1 312 = .ok (.iconst 0, 1) := by decide +kernel
theorem d_X12_regimes_313 : decode M_X12_regimes.2.1 313 = .ok (.bastore, 1) := by decide +kernel
theorem d_X12_regimes_314 : decode M_X12_regimes.2.1 314 = .ok (.aload_n 0, 1) := by decide +kernel
theorem d_X12_regimes_315 : decode M_X12_regimes.2.1 315 = .ok (.getfield 111, 3) := by decide +kernel
theorem d_X12_regimes_318 : decode M_X12_regimes.2.1 318 = .ok (.sipush 200, 3) := by decide +kernel
theorem d_X12_regimes_321 : decode M_X12_regimes.2.1 321 = .ok (.iload_n 3, 1) := by decide +kernel
theorem d_X12_regimes_322 : decode M_X12_regimes.2.1 322 = .ok (.imul, 1) := by decide +kernel
theorem d_X12_regimes_323 : decode M_X12_regimes.2.1 323 = .ok (.iload 7, 2) := by decide +kernel
theorem d_X12_regimes_325 : decode M_X12_regimes.2.1 325 = .ok (.iadd, 1) := by decide +kernel
theorem d_X12_regimes_326 : decode M_X12_regimes.2.1 326 = .ok (.aload_n 0, 1) := by decide +kernel
theorem d_X12_regimes_327 : decode M_X12_regimes.2.1 327 = .ok (.getfield 114, 3) := by decide +kernel
theorem d_X12_regimes_330 : decode M_X12_regimes.2.1 330 = .ok (.sipush 200, 3) := by decide +kernel
theorem d_X12_regimes_333 : decode M_X12_regimes.2.1 333 = .ok (.iload_n 3, 1) := by decide +kernel
theorem d_X12_regimes_334 : decode M_X12_regimes.2.1 334 = .ok (.imul, 1) := by decide +kernel
theorem d_X12_regimes_335 : decode M_X12_regimes.2.1 335 = .ok (.iload 7, 2) := by decide +kernel
theorem d_X12_regimes_337 : decode M_X12_regimes.2.1 337 = .ok (.iadd, 1) := by decide +kernel
theorem d_X12_regimes_338 : decode M_X12_regimes.2.1 338 = .ok (.baload, 1) := by decide +kernel
theorem d_X12_regimes_339 : decode M_X12_regimes.2.1 339 = .ok (.ifCond .eq 8, 3) := by decide +kernel
theorem d_X12_regimes_342 : decode M_X12_regimes.2.1 342 = .ok (.iload 12, 2) := by decide +kernel
theorem d_X12_regimes_344 : decode M_X12_regimes.2.1 344 = .ok (.goto 5, 3) := by decide +kernel
theorem d_X12_regimes_347 : decode M_X12_regimes.2.1 347 = .ok (.iload 9, 2) := by decide +kernel
theorem d_X12_regimes_349 : decode M_X12_regimes.2.1 349 = .ok (.iastore, 1) := by decide +kernel
theorem d_X12_regimes_350 : decode M_X12_regimes.2.1 350 = .ok (.iinc 7 1, 3) := by decide +kernel
theorem d_X12_regimes_353 : decode M_X12_regimes.2.1 353 = .ok (.goto (-184), 3) := by decide +kernel
theorem d_X12_regimes_356 : decode M_X12_regimes.2.1 356 = .ok (.iinc 3 (-1), 3) := by decide +kernel
theorem d_X12_regimes_359 : decode M_X12_regimes.2.1 359 = .ok (.goto (-274), 3) := by decide +kernel
theorem d_X12_regimes_362 : decode M_X12_regimes.2.1 362 = .ok (.return_, 1) := by decide +kernel
set_option maxRecDepth 20000 in
theorem s_X12_regimes_0 {d : Nat} {p0 : Int} {G : Mem} {Q : Int → Mem → Prop}  (h : Rn d M_X12_regimes zN 9 [(0, (2, 311)), (1, (0, p0)), (2, (0, (G 313 1))), (3, (0, 0))] [] G Q) : Rn d M_X12_regimes zN 0 [(0, (2, 311)), (1, (0, p0))] [] G Q := by
  refine r_aload_n d_X12_regimes_0 0 rfl rfl ?_
  refine r_getL (v := 313) 12 10 10 rfl d_X12_regimes_1 fl_X12_13 (by decide) (bs_ob bs_12) (ly_12_10 bs_12).1 (ly_12_10 bs_12).2.1 ?_
  refine r_iconst d_X12_regimes_4 ?_
  refine r_iaload d_X12_regimes_5 (ly_12_10 bs_12).2.2 (by decide) ?_
  refine r_istore_n (ls1 := [(2, (0, (G 313 1))), (0, (2, 311)), (1, (0, p0))]) d_X12_regimes_6 rfl (by decide) rfl ?_
  refine r_iconst d_X12_regimes_7 ?_
  refine r_istore_n (ls1 := [(3, (0, 0)), (2, (0, (G 313 1))), (0, (2, 311)), (1, (0, p0))]) d_X12_regimes_8 rfl (by decide) rfl ?_
  exact Rn.sub [2, 3, 1, 0] rfl h
set_option maxRecDepth 20000 in
theorem s_X12_regimes_9 {d : Nat} {x1 : Int} {x2 : Int} {x3 : Int} {G : Mem} {Q : Int → Mem → Prop}  (h : (InR x3) ∧ ((200 ≤ x3) → Rn d M_X12_regimes zN 43 [(0, (2, 311)), (1, (0, x1)), (2, (0, x2)), (3, (0, (G 342 110)))] [] G Q) ∧ (¬ (200 ≤ x3) → (0 ≤ ((200 * x2) + x3) ∧ ((200 * x2) + x3) < 14600) ∧ (∀ G4 : Mem, G4 = st G 345 ((200 * x2) + x3) 0 → Rn d M_X12_regimes zN 9 [(0, (2, 311)), (1, (0, x1)), (2, (0, x2)), (3, (0, (x3 + 1)))] [] G4 Q))) : Rn d M_X12_regimes zN 9 [(0, (2, 311)), (1, (0, x1)), (2, (0, x2)), (3, (0, x3))] [] G Q := by
  refine r_iload_n d_X12_regimes_9 3 rfl rfl ?_
  refine r_sipush d_X12_regimes_10 (by decide +kernel) ?_
  obtain ⟨h1, h⟩ := h
  refine r_icmp_ge (tgt := 35) d_X12_regimes_13 (by decide) h1 ⟨by decide, by decide⟩ (fun c2 => ?_) (fun c2 => ?_)
  · replace h := h.1 c2
    refine r_aload_n d_X12_regimes_35 0 rfl rfl ?_
    refine r_getL (v := 342) 12 43 43 rfl d_X12_regimes_36 fl_X12_102 (by decide) (bs_ob bs_12) (ly_12_43 bs_12).1 (ly_12_43 bs_12).2.1 ?_
    refine r_bipush d_X12_regimes_39 (by decide +kernel) ?_
    refine r_iaload d_X12_regimes_41 (ly_12_43 bs_12).2.2 (by decide) ?_
    refine r_istore_n (ls1 := [(3, (0, (G 342 110))), (0, (2, 311)), (1, (0, x1)), (2, (0, x2))]) d_X12_regimes_42 rfl (by decide) rfl ?_
    exact Rn.sub [1, 2, 3, 0] rfl h
  · replace h := h.2 c2
    refine r_aload_n d_X12_regimes_16 0 rfl rfl ?_
    refine r_getL (v := 345) 12 50 50 rfl d_X12_regimes_17 fl_X12_111 (by decide) (bs_ob bs_12) (ly_12_50 bs_12).1 (ly_12_50 bs_12).2.1 ?_
    refine r_sipush d_X12_regimes_20 (by decide +kernel) ?_
    refine r_iload_n d_X12_regimes_23 2 rfl rfl ?_
    refine r_imul d_X12_regimes_24 ?_
    refine r_iload_n d_X12_regimes_25 3 rfl rfl ?_
    refine r_iadd d_X12_regimes_26 ?_
    refine r_iconst d_X12_regimes_27 ?_
    obtain ⟨h3, h⟩ := h
    obtain ⟨G4, eG4⟩ : ∃ y : Mem, y = st G 345 ((200 * x2) + x3) 0 := ⟨_, rfl⟩
    replace h := h G4 eG4
    refine r_iastore d_X12_regimes_28 (ly_12_50 bs_12).2.2 h3 ?_
    rw [← eG4]
    refine r_iinc (ls1 := [(3, (0, (x3 + 1))), (0, (2, 311)), (1, (0, x1)), (2, (0, x2))]) d_X12_regimes_29 3 rfl (by decide) rfl ?_
    refine r_goto (tgt := 9) d_X12_regimes_32 (by decide) ?_
    exact Rn.sub [1, 2, 3, 0] rfl h
set_option maxRecDepth 20000 in
theorem s_X12_regimes_43 {d : Nat} {x1 : Int} {x2 : Int} {x3 : Int} {G : Mem} {Q : Int → Mem → Prop}  (h : (InR x3) ∧ (InR x2) ∧ ((x2 ≤ x3) → Rn (d + 1) M_X12_regimes zN 85 [(0, (2, 311)), (1, (0, x1)), (2, (0, x2)), (3, (0, (x2 - 1)))] [] G Q) ∧ (¬ (x2 ≤ x3) → Ct d M_X12_bestWays NT 0 0 (some lay) [(2, 311), (0, x1), (0, x3)] G (fun r5 G4 => (0 ≤ x3 ∧ x3 < 73) ∧ (∀ G7 : Mem, G7 = st G4 347 x3 (G4 311 49) → (∀ G8 : Mem, G8 = st G7 348 x3 (G7 311 47) → Rn (d + 1) M_X12_regimes zN 43 [(0, (2, 311)), (1, (0, x1)), (2, (0, x2)), (3, (0, (x3 + 1)))] [] G8 Q))))) : Rn (d + 1) M_X12_regimes zN 43 [(0, (2, 311)), (1, (0, x1)), (2, (0, x2)), (3, (0, x3))] [] G Q := by
  refine r_iload_n d_X12_regimes_43 3 rfl rfl ?_
  refine r_iload_n d_X12_regimes_44 2 rfl rfl ?_
  obtain ⟨h1, h⟩ := h
  obtain ⟨h2, h⟩ := h
  refine r_icmp_ge (tgt := 81) d_X12_regimes_45 (by decide) h1 h2 (fun c3 => ?_) (fun c3 => ?_)
  · replace h := h.1 c3
    refine r_iload_n d_X12_regimes_81 2 rfl rfl ?_
    refine r_iconst d_X12_regimes_82 ?_
    refine r_isub d_X12_regimes_83 ?_
    refine r_istore_n (ls1 := [(3, (0, (x2 - 1))), (0, (2, 311)), (1, (0, x1)), (2, (0, x2))]) d_X12_regimes_84 rfl (by decide) rfl ?_
    exact Rn.sub [1, 2, 3, 0] rfl h
  · replace h := h.2 c3
    refine r_aload_n d_X12_regimes_48 0 rfl rfl ?_
    refine r_iload_n d_X12_regimes_49 1 rfl rfl ?_
    refine r_iload_n d_X12_regimes_50 3 rfl rfl ?_
    refine r_callV0 (M' := M_X12_bestWays) (ci := 12) [(0, x1), (0, x3)] d_X12_regimes_51 cl_X12_492 rfl (Nat.le_of_ble_eq_true rfl) (by decide) rfl (bs_ob bs_12) ?_
    refine Ct.mono h (fun r5 G4 h => ?_)
    show Rn _ M_X12_regimes zN 54 [(0, (2, 311)), (1, (0, x1)), (2, (0, x2)), (3, (0, x3))] [(0, r5)] G4 Q
    refine r_pop 0 rfl (by decide) d_X12_regimes_54 ?_
    refine r_aload_n d_X12_regimes_55 0 rfl rfl ?_
    refine r_getL (v := 347) 12 52 52 rfl d_X12_regimes_56 fl_X12_117 (by decide) (bs_ob bs_12) (ly_12_52 bs_12).1 (ly_12_52 bs_12).2.1 ?_
    refine r_iload_n d_X12_regimes_59 3 rfl rfl ?_
    refine r_aload_n d_X12_regimes_60 0 rfl rfl ?_
    refine r_getI 12 49 49 rfl d_X12_regimes_61 fl_X12_479 (by decide) (bs_ob bs_12) ?_
    obtain ⟨h6, h⟩ := h
    obtain ⟨G7, eG7⟩ : ∃ y : Mem, y = st G4 347 x3 (G4 311 49) := ⟨_, rfl⟩
    replace h := h G7 eG7
    refine r_iastore d_X12_regimes_64 (ly_12_52 bs_12).2.2 h6 ?_
    rw [← eG7]
    refine r_aload_n d_X12_regimes_65 0 rfl rfl ?_
    refine r_getL (v := 348) 12 53 53 rfl d_X12_regimes_66 fl_X12_120 (by decide) (bs_ob bs_12) (ly_12_53 bs_12).1 (ly_12_53 bs_12).2.1 ?_
    refine r_iload_n d_X12_regimes_69 3 rfl rfl ?_
    refine r_aload_n d_X12_regimes_70 0 rfl rfl ?_
    refine r_getI 12 47 47 rfl d_X12_regimes_71 fl_X12_473 (by decide) (bs_ob bs_12) ?_
    obtain ⟨G8, eG8⟩ : ∃ y : Mem, y = st G7 348 x3 (G7 311 47) := ⟨_, rfl⟩
    replace h := h G8 eG8
    refine r_iastore d_X12_regimes_74 (ly_12_53 bs_12).2.2 h6 ?_
    rw [← eG8]
    refine r_iinc (ls1 := [(3, (0, (x3 + 1))), (0, (2, 311)), (1, (0, x1)), (2, (0, x2))]) d_X12_regimes_75 3 rfl (by decide) rfl ?_
    refine r_goto (tgt := 43) d_X12_regimes_78 (by decide) ?_
    exact Rn.sub [1, 2, 3, 0] rfl h
set_option maxRecDepth 20000 in
theorem s_X12_regimes_85 {d : Nat} {x1 : Int} {x2 : Int} {x3 : Int} {G : Mem} {Q : Int → Mem → Prop}  (h : (InR x3) ∧ (InR (G 342 110)) ∧ ((x3 < (G 342 110)) → Q 0 G) ∧ (¬ (x3 < (G 342 110)) → Ct d M_X12_isAsleepAt NT 0 0 (some lay) [(2, 311), (0, x1), (0, x3)] G (fun r5 G4 => (InR r5) ∧ ((r5 ≠ 0) → Rn (d + 1) M_X12_regimes zN 118 [(0, (2, 311)), (1, (0, x1)), (2, (0, x2)), (3, (0, x3))] [(0, 0)] G4 Q) ∧ (¬ (r5 ≠ 0) → Ct d M_X12_isShut NT 0 0 (some lay) [(2, 311), (0, x3)] G4 (fun r9 G8 => (InR r9) ∧ ((r9 ≠ 0) → Rn (d + 1) M_X12_regimes zN 118 [(0, (2, 311)), (1, (0, x1)), (2, (0, x2)), (3, (0, x3))] [(0, 0)] G8 Q) ∧ (¬ (r9 ≠ 0) → Rn (d + 1) M_X12_regimes zN 118 [(0, (2, 311)), (1, (0, x1)), (2, (0, x2)), (3, (0, x3))] [(0, 1)] G8 Q)))))) : Rn (d + 1) M_X12_regimes zN 85 [(0, (2, 311)), (1, (0, x1)), (2, (0, x2)), (3, (0, x3))] [] G Q := by
  refine r_iload_n d_X12_regimes_85 3 rfl rfl ?_
  refine r_aload_n d_X12_regimes_86 0 rfl rfl ?_
  refine r_getL (v := 342) 12 43 43 rfl d_X12_regimes_87 fl_X12_102 (by decide) (bs_ob bs_12) (ly_12_43 bs_12).1 (ly_12_43 bs_12).2.1 ?_
  refine r_bipush d_X12_regimes_90 (by decide +kernel) ?_
  refine r_iaload d_X12_regimes_92 (ly_12_43 bs_12).2.2 (by decide) ?_
  obtain ⟨h1, h⟩ := h
  obtain ⟨h2, h⟩ := h
  refine r_icmp_lt (tgt := 362) d_X12_regimes_93 (by decide) h1 h2 (fun c3 => ?_) (fun c3 => ?_)
  · replace h := h.1 c3
    exact r_ret d_X12_regimes_362 rfl ⟨rfl, Nat.le_refl _, Nat.le_refl _⟩ h
  · replace h := h.2 c3
    refine r_aload_n d_X12_regimes_96 0 rfl rfl ?_
    refine r_iload_n d_X12_regimes_97 1 rfl rfl ?_
    refine r_iload_n d_X12_regimes_98 3 rfl rfl ?_
    refine r_callV0 (M' := M_X12_isAsleepAt) (ci := 12) [(0, x1), (0, x3)] d_X12_regimes_99 cl_X12_380 rfl (Nat.le_of_ble_eq_true rfl) (by decide) rfl (bs_ob bs_12) ?_
    refine Ct.mono h (fun r5 G4 h => ?_)
    show Rn _ M_X12_regimes zN 102 [(0, (2, 311)), (1, (0, x1)), (2, (0, x2)), (3, (0, x3))] [(0, r5)] G4 Q
    obtain ⟨h6, h⟩ := h
    refine r_if_ne (tgt := 117) d_X12_regimes_102 (by decide) h6 (fun c7 => ?_) (fun c7 => ?_)
    · replace h := h.1 c7
      refine r_iconst d_X12_regimes_117 ?_
      exact h
    · replace h := h.2 c7
      refine r_aload_n d_X12_regimes_105 0 rfl rfl ?_
      refine r_iload_n d_X12_regimes_106 3 rfl rfl ?_
      refine r_callV0 (M' := M_X12_isShut) (ci := 12) [(0, x3)] d_X12_regimes_107 cl_X12_416 rfl (Nat.le_of_ble_eq_true rfl) (by decide) rfl (bs_ob bs_12) ?_
      refine Ct.mono h (fun r9 G8 h => ?_)
      show Rn _ M_X12_regimes zN 110 [(0, (2, 311)), (1, (0, x1)), (2, (0, x2)), (3, (0, x3))] [(0, r9)] G8 Q
      obtain ⟨h10, h⟩ := h
      refine r_if_ne (tgt := 117) d_X12_regimes_110 (by decide) h10 (fun c11 => ?_) (fun c11 => ?_)
      · replace h := h.1 c11
        refine r_iconst d_X12_regimes_117 ?_
        exact h
      · replace h := h.2 c11
        refine r_iconst d_X12_regimes_113 ?_
        refine r_goto (tgt := 118) d_X12_regimes_114 (by decide) ?_
        exact h
set_option maxRecDepth 20000 in
theorem s_X12_regimes_118 {d : Nat} {x1 : Int} {x2 : Int} {x3 : Int} {s0 : Int} {G : Mem} {Q : Int → Mem → Prop}  (h : Ct d M_X12_queueAt NT 0 0 (some lay) [(2, 311), (0, x3), (0, 0)] G (fun r2 G1 => (InR ((x3 + 1) + r2)) ∧ (InR x2) ∧ ((x2 ≤ ((x3 + 1) + r2)) → Rn (d + 1) M_X12_regimes zN 169 [(0, (2, 311)), (1, (0, x1)), (2, (0, x2)), (3, (0, x3)), (4, (0, s0)), (6, (0, 0)), (7, (0, 0))] [] G1 Q) ∧ (¬ (x2 ≤ ((x3 + 1) + r2)) → (0 ≤ ((x3 + 1) + r2) ∧ ((x3 + 1) + r2) < 73) ∧ ((InR (G1 347 ((x3 + 1) + r2))) ∧ ((0 ≤ (200 * ((x3 + 1) + r2)) ∧ (200 * ((x3 + 1) + r2)) < 14600) ∧ (Rn (d + 1) M_X12_regimes zN 169 [(0, (2, 311)), (1, (0, x1)), (2, (0, x2)), (3, (0, x3)), (4, (0, s0)), (6, (0, ((Int.tdiv (G1 347 ((x3 + 1) + r2)) 10) + (G1 345 (200 * ((x3 + 1) + r2)))))), (7, (0, 0))] [] G1 Q)))))) : Rn (d + 1) M_X12_regimes zN 118 [(0, (2, 311)), (1, (0, x1)), (2, (0, x2)), (3, (0, x3))] [(0, s0)] G Q := by
  refine r_istore (ls1 := [(4, (0, s0)), (0, (2, 311)), (1, (0, x1)), (2, (0, x2)), (3, (0, x3))]) d_X12_regimes_118 (by decide) rfl ?_
  refine r_iload_n d_X12_regimes_120 4 rfl rfl ?_
  refine r_iconst d_X12_regimes_121 ?_
  refine r_iadd d_X12_regimes_122 ?_
  refine r_aload_n d_X12_regimes_123 1 rfl rfl ?_
  refine r_iload_n d_X12_regimes_124 4 rfl rfl ?_
  refine r_iconst d_X12_regimes_125 ?_
  refine r_callV0 (M' := M_X12_queueAt) (ci := 12) [(0, x3), (0, 0)] d_X12_regimes_126 cl_X12_450 rfl (Nat.le_of_ble_eq_true rfl) (by decide) rfl (bs_ob bs_12) ?_
  refine Ct.mono h (fun r2 G1 h => ?_)
  show Rn _ M_X12_regimes zN 129 [(4, (0, s0)), (0, (2, 311)), (1, (0, x1)), (2, (0, x2)), (3, (0, x3))] [(0, r2), (0, (x3 + 1))] G1 Q
  refine r_iadd d_X12_regimes_129 ?_
  refine r_istore (ls1 := [(5, (0, ((x3 + 1) + r2))), (4, (0, s0)), (0, (2, 311)), (1, (0, x1)), (2, (0, x2)), (3, (0, x3))]) d_X12_regimes_130 (by decide) rfl ?_
  refine r_iload d_X12_regimes_132 0 rfl ?_
  refine r_iload_n d_X12_regimes_134 4 rfl rfl ?_
  obtain ⟨h3, h⟩ := h
  obtain ⟨h4, h⟩ := h
  refine r_icmp_ge (tgt := 163) d_X12_regimes_135 (by decide) h3 h4 (fun c5 => ?_) (fun c5 => ?_)
  · replace h := h.1 c5
    refine r_iconst d_X12_regimes_163 ?_
    refine r_istore (ls1 := [(6, (0, 0)), (5, (0, ((x3 + 1) + r2))), (4, (0, s0)), (0, (2, 311)), (1, (0, x1)), (2, (0, x2)), (3, (0, x3))]) d_X12_regimes_164 (by decide) rfl ?_
    refine r_iconst d_X12_regimes_166 ?_
    refine r_istore (ls1 := [(7, (0, 0)), (6, (0, 0)), (5, (0, ((x3 + 1) + r2))), (4, (0, s0)), (0, (2, 311)), (1, (0, x1)), (2, (0, x2)), (3, (0, x3))]) d_X12_regimes_167 (by decide) rfl ?_
    exact Rn.sub [4, 5, 6, 7, 3, 1, 0] rfl h
  · replace h := h.2 c5
    refine r_aload_n d_X12_regimes_138 2 rfl rfl ?_
    refine r_getL (v := 347) 12 52 52 rfl d_X12_regimes_139 fl_X12_117 (by decide) (bs_ob bs_12) (ly_12_52 bs_12).1 (ly_12_52 bs_12).2.1 ?_
    refine r_iload d_X12_regimes_142 0 rfl ?_
    obtain ⟨h6, h⟩ := h
    refine r_iaload d_X12_regimes_144 (ly_12_52 bs_12).2.2 h6 ?_
    refine r_bipush d_X12_regimes_145 (by decide +kernel) ?_
    obtain ⟨h7, h⟩ := h
    refine r_idiv d_X12_regimes_147 h7 ⟨by decide, ⟨by decide, by decide⟩⟩ ?_
    refine r_aload_n d_X12_regimes_148 2 rfl rfl ?_
    refine r_getL (v := 345) 12 50 50 rfl d_X12_regimes_149 fl_X12_111 (by decide) (bs_ob bs_12) (ly_12_50 bs_12).1 (ly_12_50 bs_12).2.1 ?_
    refine r_sipush d_X12_regimes_152 (by decide +kernel) ?_
    refine r_iload d_X12_regimes_155 0 rfl ?_
    refine r_imul d_X12_regimes_157 ?_
    obtain ⟨h8, h⟩ := h
    refine r_iaload d_X12_regimes_158 (ly_12_50 bs_12).2.2 h8 ?_
    refine r_iadd d_X12_regimes_159 ?_
    refine r_goto (tgt := 164) d_X12_regimes_160 (by decide) ?_
    refine r_istore (ls1 := [(6, (0, ((Int.tdiv (G1 347 ((x3 + 1) + r2)) 10) + (G1 345 (200 * ((x3 + 1) + r2)))))), (5, (0, ((x3 + 1) + r2))), (4, (0, s0)), (0, (2, 311)), (1, (0, x1)), (2, (0, x2)), (3, (0, x3))]) d_X12_regimes_164 (by decide) rfl ?_
    refine r_iconst d_X12_regimes_166 ?_
    refine r_istore (ls1 := [(7, (0, 0)), (6, (0, ((Int.tdiv (G1 347 ((x3 + 1) + r2)) 10) + (G1 345 (200 * ((x3 + 1) + r2)))))), (5, (0, ((x3 + 1) + r2))), (4, (0, s0)), (0, (2, 311)), (1, (0, x1)), (2, (0, x2)), (3, (0, x3))]) d_X12_regimes_167 (by decide) rfl ?_
    exact Rn.sub [4, 5, 6, 7, 3, 1, 0] rfl h
set_option maxRecDepth 20000 in
theorem s_X12_regimes_169 {d : Nat} {x1 : Int} {x2 : Int} {x3 : Int} {x4 : Int} {x6 : Int} {x7 : Int} {G : Mem} {Q : Int → Mem → Prop}  (h : (InR x7) ∧ ((200 ≤ x7) → Rn (d + 1) M_X12_regimes zN 85 [(0, (2, 311)), (1, (0, x1)), (2, (0, x2)), (3, (0, (x3 + (-1))))] [] G Q) ∧ (¬ (200 ≤ x7) → Ct d M_X12_growth NT 0 0 (some lay) [(2, 311), (0, x1)] G (fun r4 G3 => (InR (x7 + r4)) ∧ ((0 ≤ x1 ∧ x1 < 30) ∧ ((InR (min 199 (x7 + r4))) ∧ (InR (G3 318 x1)) ∧ (((min 199 (x7 + r4)) ≤ (G3 318 x1)) → Rn (d + 1) M_X12_regimes zN 218 [(0, (2, 311)), (1, (0, x1)), (2, (0, x2)), (3, (0, x3)), (4, (0, x4)), (6, (0, x6)), (7, (0, x7)), (8, (0, (min 199 (x7 + r4))))] [(0, 0)] G3 Q) ∧ (¬ ((min 199 (x7 + r4)) ≤ (G3 318 x1)) → Rn (d + 1) M_X12_regimes zN 218 [(0, (2, 311)), (1, (0, x1)), (2, (0, x2)), (3, (0, x3)), (4, (0, x4)), (6, (0, x6)), (7, (0, x7)), (8, (0, (min 199 (x7 + r4))))] [(0, (1000 * (G3 313 5)))] G3 Q)))))) : Rn (d + 1) M_X12_regimes zN 169 [(0, (2, 311)), (1, (0, x1)), (2, (0, x2)), (3, (0, x3)), (4, (0, x4)), (6, (0, x6)), (7, (0, x7))] [] G Q := by
  refine r_iload d_X12_regimes_169 6 rfl ?_
  refine r_sipush d_X12_regimes_171 (by decide +kernel) ?_
  obtain ⟨h1, h⟩ := h
  refine r_icmp_ge (tgt := 356) d_X12_regimes_174 (by decide) h1 ⟨by decide, by decide⟩ (fun c2 => ?_) (fun c2 => ?_)
  · replace h := h.1 c2
    refine r_iinc (ls1 := [(3, (0, (x3 + (-1)))), (0, (2, 311)), (1, (0, x1)), (2, (0, x2)), (4, (0, x4)), (6, (0, x6)), (7, (0, x7))]) d_X12_regimes_356 3 rfl (by decide) rfl ?_
    refine r_goto (tgt := 85) d_X12_regimes_359 (by decide) ?_
    exact Rn.sub [1, 2, 3, 0] rfl h
  · replace h := h.2 c2
    refine r_sipush d_X12_regimes_177 (by decide +kernel) ?_
    refine r_iload d_X12_regimes_180 6 rfl ?_
    refine r_aload_n d_X12_regimes_182 0 rfl rfl ?_
    refine r_iload_n d_X12_regimes_183 1 rfl rfl ?_
    refine r_callV0 (M' := M_X12_growth) (ci := 12) [(0, x1)] d_X12_regimes_184 cl_X12_453 rfl (Nat.le_of_ble_eq_true rfl) (by decide) rfl (bs_ob bs_12) ?_
    refine Ct.mono h (fun r4 G3 h => ?_)
    show Rn _ M_X12_regimes zN 187 [(0, (2, 311)), (1, (0, x1)), (2, (0, x2)), (3, (0, x3)), (4, (0, x4)), (6, (0, x6)), (7, (0, x7))] [(0, r4), (0, x7), (0, 199)] G3 Q
    refine r_iadd d_X12_regimes_187 ?_
    obtain ⟨h5, h⟩ := h
    refine r_mmin d_X12_regimes_188 ml_X12_456 ⟨by decide, by decide⟩ h5 (Nat.le_of_ble_eq_true rfl) ?_
    refine r_istore (ls1 := [(8, (0, (min 199 (x7 + r4)))), (0, (2, 311)), (1, (0, x1)), (2, (0, x2)), (3, (0, x3)), (4, (0, x4)), (6, (0, x6)), (7, (0, x7))]) d_X12_regimes_191 (by decide) rfl ?_
    refine r_iload d_X12_regimes_193 0 rfl ?_
    refine r_aload_n d_X12_regimes_195 1 rfl rfl ?_
    refine r_getL (v := 318) 12 15 15 rfl d_X12_regimes_196 fl_X12_29 (by decide) (bs_ob bs_12) (ly_12_15 bs_12).1 (ly_12_15 bs_12).2.1 ?_
    refine r_iload_n d_X12_regimes_199 2 rfl rfl ?_
    obtain ⟨h6, h⟩ := h
    refine r_iaload d_X12_regimes_200 (ly_12_15 bs_12).2.2 h6 ?_
    obtain ⟨h7, h⟩ := h
    obtain ⟨h8, h⟩ := h
    refine r_icmp_le (tgt := 217) d_X12_regimes_201 (by decide) h7 h8 (fun c9 => ?_) (fun c9 => ?_)
    · replace h := h.1 c9
      refine r_iconst d_X12_regimes_217 ?_
      exact Rn.sub [1, 2, 3, 4, 5, 6, 7, 0] rfl h
    · replace h := h.2 c9
      refine r_sipush d_X12_regimes_204 (by decide +kernel) ?_
      refine r_aload_n d_X12_regimes_207 1 rfl rfl ?_
      refine r_getL (v := 313) 12 10 10 rfl d_X12_regimes_208 fl_X12_13 (by decide) (bs_ob bs_12) (ly_12_10 bs_12).1 (ly_12_10 bs_12).2.1 ?_
      refine r_iconst d_X12_regimes_211 ?_
      refine r_iaload d_X12_regimes_212 (ly_12_10 bs_12).2.2 (by decide) ?_
      refine r_imul d_X12_regimes_213 ?_
      refine r_goto (tgt := 218) d_X12_regimes_214 (by decide) ?_
      exact Rn.sub [1, 2, 3, 4, 5, 6, 7, 0] rfl h
set_option maxRecDepth 20000 in
theorem s_X12_regimes_218 {d : Nat} {x1 : Int} {x2 : Int} {x3 : Int} {x4 : Int} {x6 : Int} {x7 : Int} {x8 : Int} {s0 : Int} {G : Mem} {Q : Int → Mem → Prop}  (h : (0 ≤ ((200 * (x3 + 1)) + x8) ∧ ((200 * (x3 + 1)) + x8) < 14600) ∧ ((0 ≤ x3 ∧ x3 < 73) ∧ ((InR (G 348 x3)) ∧ ((InR x6) ∧ ((InR (10000 - (G 348 x3))) ∧ ((InR (s0 + (G 345 ((200 * (x3 + 1)) + x8)))) ∧ ((InR (G 347 x3)) ∧ ((InL (((G 348 x3) * x6) + ((10000 - (G 348 x3)) * (s0 + (G 345 ((200 * (x3 + 1)) + x8)))))) ∧ ((InR x4) ∧ ((x4 = 0) → Rn d M_X12_regimes zN 313 [(0, (2, 311)), (1, (0, x1)), (2, (0, x2)), (3, (0, x3)), (4, (0, x4)), (6, (0, x6)), (7, (0, x7)), (9, (0, (s0 + (G 345 ((200 * (x3 + 1)) + x8))))), (12, (0, ((Int.tdiv (G 347 x3) 10) + (Int.tdiv (((G 348 x3) * x6) + ((10000 - (G 348 x3)) * (s0 + (G 345 ((200 * (x3 + 1)) + x8))))) 10000))))] [(0, 0), (0, ((200 * x3) + x7)), (2, 346)] G Q) ∧ (¬ (x4 = 0) → (InR ((Int.tdiv (G 347 x3) 10) + (Int.tdiv (((G 348 x3) * x6) + ((10000 - (G 348 x3)) * (s0 + (G 345 ((200 * (x3 + 1)) + x8))))) 10000))) ∧ (((s0 + (G 345 ((200 * (x3 + 1)) + x8))) ≤ ((Int.tdiv (G 347 x3) 10) + (Int.tdiv (((G 348 x3) * x6) + ((10000 - (G 348 x3)) * (s0 + (G 345 ((200 * (x3 + 1)) + x8))))) 10000))) → Rn d M_X12_regimes zN 313 [(0, (2, 311)), (1, (0, x1)), (2, (0, x2)), (3, (0, x3)), (4, (0, x4)), (6, (0, x6)), (7, (0, x7)), (9, (0, (s0 + (G 345 ((200 * (x3 + 1)) + x8))))), (12, (0, ((Int.tdiv (G 347 x3) 10) + (Int.tdiv (((G 348 x3) * x6) + ((10000 - (G 348 x3)) * (s0 + (G 345 ((200 * (x3 + 1)) + x8))))) 10000))))] [(0, 0), (0, ((200 * x3) + x7)), (2, 346)] G Q) ∧ (¬ ((s0 + (G 345 ((200 * (x3 + 1)) + x8))) ≤ ((Int.tdiv (G 347 x3) 10) + (Int.tdiv (((G 348 x3) * x6) + ((10000 - (G 348 x3)) * (s0 + (G 345 ((200 * (x3 + 1)) + x8))))) 10000))) → Rn d M_X12_regimes zN 313 [(0, (2, 311)), (1, (0, x1)), (2, (0, x2)), (3, (0, x3)), (4, (0, x4)), (6, (0, x6)), (7, (0, x7)), (9, (0, (s0 + (G 345 ((200 * (x3 + 1)) + x8))))), (12, (0, ((Int.tdiv (G 347 x3) 10) + (Int.tdiv (((G 348 x3) * x6) + ((10000 - (G 348 x3)) * (s0 + (G 345 ((200 * (x3 + 1)) + x8))))) 10000))))] [(0, 1), (0, ((200 * x3) + x7)), (2, 346)] G Q))))))))))) : Rn d M_X12_regimes zN 218 [(0, (2, 311)), (1, (0, x1)), (2, (0, x2)), (3, (0, x3)), (4, (0, x4)), (6, (0, x6)), (7, (0, x7)), (8, (0, x8))] [(0, s0)] G Q := by
  refine r_aload_n d_X12_regimes_218 0 rfl rfl ?_
  refine r_getL (v := 345) 12 50 50 rfl d_X12_regimes_219 fl_X12_111 (by decide) (bs_ob bs_12) (ly_12_50 bs_12).1 (ly_12_50 bs_12).2.1 ?_
  refine r_sipush d_X12_regimes_222 (by decide +kernel) ?_
  refine r_iload_n d_X12_regimes_225 3 rfl rfl ?_
  refine r_iconst d_X12_regimes_226 ?_
  refine r_iadd d_X12_regimes_227 ?_
  refine r_imul d_X12_regimes_228 ?_
  refine r_iload d_X12_regimes_229 7 rfl ?_
  refine r_iadd d_X12_regimes_231 ?_
  obtain ⟨h1, h⟩ := h
  refine r_iaload d_X12_regimes_232 (ly_12_50 bs_12).2.2 h1 ?_
  refine r_iadd d_X12_regimes_233 ?_
  refine r_istore (ls1 := [(9, (0, (s0 + (G 345 ((200 * (x3 + 1)) + x8))))), (0, (2, 311)), (1, (0, x1)), (2, (0, x2)), (3, (0, x3)), (4, (0, x4)), (6, (0, x6)), (7, (0, x7)), (8, (0, x8))]) d_X12_regimes_234 (by decide) rfl ?_
  refine r_aload_n d_X12_regimes_236 1 rfl rfl ?_
  refine r_getL (v := 348) 12 53 53 rfl d_X12_regimes_237 fl_X12_120 (by decide) (bs_ob bs_12) (ly_12_53 bs_12).1 (ly_12_53 bs_12).2.1 ?_
  refine r_iload_n d_X12_regimes_240 4 rfl rfl ?_
  obtain ⟨h2, h⟩ := h
  refine r_iaload d_X12_regimes_241 (ly_12_53 bs_12).2.2 h2 ?_
  obtain ⟨h3, h⟩ := h
  refine r_i2l d_X12_regimes_242 h3 ?_
  refine r_iload d_X12_regimes_243 6 rfl ?_
  obtain ⟨h4, h⟩ := h
  refine r_i2l d_X12_regimes_245 h4 ?_
  refine r_lmul d_X12_regimes_246 ?_
  refine r_sipush d_X12_regimes_247 (by decide +kernel) ?_
  refine r_aload_n d_X12_regimes_250 1 rfl rfl ?_
  refine r_getL (v := 348) 12 53 53 rfl d_X12_regimes_251 fl_X12_120 (by decide) (bs_ob bs_12) (ly_12_53 bs_12).1 (ly_12_53 bs_12).2.1 ?_
  refine r_iload_n d_X12_regimes_254 4 rfl rfl ?_
  refine r_iaload d_X12_regimes_255 (ly_12_53 bs_12).2.2 h2 ?_
  refine r_isub d_X12_regimes_256 ?_
  obtain ⟨h5, h⟩ := h
  refine r_i2l d_X12_regimes_257 h5 ?_
  refine r_iload d_X12_regimes_258 0 rfl ?_
  obtain ⟨h6, h⟩ := h
  refine r_i2l d_X12_regimes_260 h6 ?_
  refine r_lmul d_X12_regimes_261 ?_
  refine r_ladd d_X12_regimes_262 ?_
  refine r_lstore (ls1 := [(10, (1, (((G 348 x3) * x6) + ((10000 - (G 348 x3)) * (s0 + (G 345 ((200 * (x3 + 1)) + x8))))))), (9, (0, (s0 + (G 345 ((200 * (x3 + 1)) + x8))))), (0, (2, 311)), (1, (0, x1)), (2, (0, x2)), (3, (0, x3)), (4, (0, x4)), (6, (0, x6)), (7, (0, x7)), (8, (0, x8))]) d_X12_regimes_263 (by decide) rfl ?_
  refine r_aload_n d_X12_regimes_265 2 rfl rfl ?_
  refine r_getL (v := 347) 12 52 52 rfl d_X12_regimes_266 fl_X12_117 (by decide) (bs_ob bs_12) (ly_12_52 bs_12).1 (ly_12_52 bs_12).2.1 ?_
  refine r_iload_n d_X12_regimes_269 5 rfl rfl ?_
  refine r_iaload d_X12_regimes_270 (ly_12_52 bs_12).2.2 h2 ?_
  refine r_bipush d_X12_regimes_271 (by decide +kernel) ?_
  obtain ⟨h7, h⟩ := h
  refine r_idiv d_X12_regimes_273 h7 ⟨by decide, ⟨by decide, by decide⟩⟩ ?_
  refine r_lload d_X12_regimes_274 0 rfl ?_
  refine r_ldc2 (x := 10000) d_X12_regimes_276 cst_X12_495 ?_
  obtain ⟨h8, h⟩ := h
  refine r_ldiv d_X12_regimes_279 h8 ⟨by decide, ⟨by decide, by decide⟩⟩ ?_
  refine r_l2i d_X12_regimes_280 ?_
  refine r_iadd d_X12_regimes_281 ?_
  refine r_istore (ls1 := [(12, (0, ((Int.tdiv (G 347 x3) 10) + (Int.tdiv (((G 348 x3) * x6) + ((10000 - (G 348 x3)) * (s0 + (G 345 ((200 * (x3 + 1)) + x8))))) 10000)))), (10, (1, (((G 348 x3) * x6) + ((10000 - (G 348 x3)) * (s0 + (G 345 ((200 * (x3 + 1)) + x8))))))), (9, (0, (s0 + (G 345 ((200 * (x3 + 1)) + x8))))), (0, (2, 311)), (1, (0, x1)), (2, (0, x2)), (3, (0, x3)), (4, (0, x4)), (6, (0, x6)), (7, (0, x7)), (8, (0, x8))]) d_X12_regimes_282 (by decide) rfl ?_
  refine r_aload_n d_X12_regimes_284 3 rfl rfl ?_
  refine r_getL (v := 346) 12 51 51 rfl d_X12_regimes_285 fl_X12_114 (by decide) (bs_ob bs_12) (ly_12_51 bs_12).1 (ly_12_51 bs_12).2.1 ?_
  refine r_sipush d_X12_regimes_288 (by decide +kernel) ?_
  refine r_iload_n d_X12_regimes_291 6 rfl rfl ?_
  refine r_imul d_X12_regimes_292 ?_
  refine r_iload d_X12_regimes_293 9 rfl ?_
  refine r_iadd d_X12_regimes_295 ?_
  refine r_iload d_X12_regimes_296 7 rfl ?_
  obtain ⟨h9, h⟩ := h
  refine r_if_eq (tgt := 312) d_X12_regimes_298 (by decide) h9 (fun c10 => ?_) (fun c10 => ?_)
  · replace h := h.1 c10
    refine r_iconst d_X12_regimes_312 ?_
    exact Rn.sub [3, 4, 5, 6, 7, 8, 9, 2, 0] rfl h
  · replace h := h.2 c10
    refine r_iload d_X12_regimes_301 0 rfl ?_
    refine r_iload d_X12_regimes_303 2 rfl ?_
    obtain ⟨h11, h⟩ := h
    refine r_icmp_ge (tgt := 312) d_X12_regimes_305 (by decide) h11 h6 (fun c12 => ?_) (fun c12 => ?_)
    · replace h := h.1 c12
      refine r_iconst d_X12_regimes_312 ?_
      exact Rn.sub [3, 4, 5, 6, 7, 8, 9, 2, 0] rfl h
    · replace h := h.2 c12
      refine r_iconst d_X12_regimes_308 ?_
      refine r_goto (tgt := 313) d_X12_regimes_309 (by decide) ?_
      exact Rn.sub [3, 4, 5, 6, 7, 8, 9, 2, 0] rfl h
set_option maxRecDepth 20000 in
theorem s_X12_regimes_313 {d : Nat} {x1 : Int} {x2 : Int} {x3 : Int} {x4 : Int} {x6 : Int} {x7 : Int} {x9 : Int} {x12 : Int} {s0 : Int} {s1 : Int} {G : Mem} {Q : Int → Mem → Prop}  (h : (0 ≤ s1 ∧ s1 < 14600) ∧ (s0 = 0 ∨ s0 = 1) ∧ (∀ G3 : Mem, G3 = st G 346 s1 s0 → (0 ≤ ((200 * x3) + x7) ∧ ((200 * x3) + x7) < 14600) ∧ ((InR (G3 346 ((200 * x3) + x7))) ∧ (((G3 346 ((200 * x3) + x7)) = 0) → (∀ G7 : Mem, G7 = st G3 345 ((200 * x3) + x7) x9 → Rn d M_X12_regimes zN 169 [(0, (2, 311)), (1, (0, x1)), (2, (0, x2)), (3, (0, x3)), (4, (0, x4)), (6, (0, x6)), (7, (0, (x7 + 1)))] [] G7 Q)) ∧ (¬ ((G3 346 ((200 * x3) + x7)) = 0) → (∀ G8 : Mem, G8 = st G3 345 ((200 * x3) + x7) x12 → Rn d M_X12_regimes zN 169 [(0, (2, 311)), (1, (0, x1)), (2, (0, x2)), (3, (0, x3)), (4, (0, x4)), (6, (0, x6)), (7, (0, (x7 + 1)))] [] G8 Q))))) : Rn d M_X12_regimes zN 313 [(0, (2, 311)), (1, (0, x1)), (2, (0, x2)), (3, (0, x3)), (4, (0, x4)), (6, (0, x6)), (7, (0, x7)), (9, (0, x9)), (12, (0, x12))] [(0, s0), (0, s1), (2, 346)] G Q := by
  obtain ⟨h1, h⟩ := h
  obtain ⟨h2, h⟩ := h
  obtain ⟨G3, eG3⟩ : ∃ y : Mem, y = st G 346 s1 s0 := ⟨_, rfl⟩
  replace h := h G3 eG3
  refine r_zastore d_X12_regimes_313 (ly_12_51 bs_12).2.2 h1 h2 ?_
  rw [← eG3]
  refine r_aload_n d_X12_regimes_314 0 rfl rfl ?_
  refine r_getL (v := 345) 12 50 50 rfl d_X12_regimes_315 fl_X12_111 (by decide) (bs_ob bs_12) (ly_12_50 bs_12).1 (ly_12_50 bs_12).2.1 ?_
  refine r_sipush d_X12_regimes_318 (by decide +kernel) ?_
  refine r_iload_n d_X12_regimes_321 3 rfl rfl ?_
  refine r_imul d_X12_regimes_322 ?_
  refine r_iload d_X12_regimes_323 6 rfl ?_
  refine r_iadd d_X12_regimes_325 ?_
  refine r_aload_n d_X12_regimes_326 0 rfl rfl ?_
  refine r_getL (v := 346) 12 51 51 rfl d_X12_regimes_327 fl_X12_114 (by decide) (bs_ob bs_12) (ly_12_51 bs_12).1 (ly_12_51 bs_12).2.1 ?_
  refine r_sipush d_X12_regimes_330 (by decide +kernel) ?_
  refine r_iload_n d_X12_regimes_333 3 rfl rfl ?_
  refine r_imul d_X12_regimes_334 ?_
  refine r_iload d_X12_regimes_335 6 rfl ?_
  refine r_iadd d_X12_regimes_337 ?_
  obtain ⟨h4, h⟩ := h
  refine r_zaload d_X12_regimes_338 (ly_12_51 bs_12).2.2 h4 ?_
  obtain ⟨h5, h⟩ := h
  refine r_if_eq (tgt := 347) d_X12_regimes_339 (by decide) h5 (fun c6 => ?_) (fun c6 => ?_)
  · replace h := h.1 c6
    refine r_iload d_X12_regimes_347 7 rfl ?_
    obtain ⟨G7, eG7⟩ : ∃ y : Mem, y = st G3 345 ((200 * x3) + x7) x9 := ⟨_, rfl⟩
    replace h := h G7 eG7
    refine r_iastore d_X12_regimes_349 (ly_12_50 bs_12).2.2 h4 ?_
    rw [← eG7]
    refine r_iinc (ls1 := [(7, (0, (x7 + 1))), (0, (2, 311)), (1, (0, x1)), (2, (0, x2)), (3, (0, x3)), (4, (0, x4)), (6, (0, x6)), (9, (0, x9)), (12, (0, x12))]) d_X12_regimes_350 6 rfl (by decide) rfl ?_
    refine r_goto (tgt := 169) d_X12_regimes_353 (by decide) ?_
    exact Rn.sub [1, 2, 3, 4, 5, 6, 0] rfl h
  · replace h := h.2 c6
    refine r_iload d_X12_regimes_342 8 rfl ?_
    refine r_goto (tgt := 349) d_X12_regimes_344 (by decide) ?_
    obtain ⟨G8, eG8⟩ : ∃ y : Mem, y = st G3 345 ((200 * x3) + x7) x12 := ⟨_, rfl⟩
    replace h := h G8 eG8
    refine r_iastore d_X12_regimes_349 (ly_12_50 bs_12).2.2 h4 ?_
    rw [← eG8]
    refine r_iinc (ls1 := [(7, (0, (x7 + 1))), (0, (2, 311)), (1, (0, x1)), (2, (0, x2)), (3, (0, x3)), (4, (0, x4)), (6, (0, x6)), (9, (0, x9)), (12, (0, x12))]) d_X12_regimes_350 6 rfl (by decide) rfl ?_
    refine r_goto (tgt := 169) d_X12_regimes_353 (by decide) ?_
    exact Rn.sub [1, 2, 3, 4, 5, 6, 0] rfl h
theorem d_X12_regime_0 : decode M_X12_regime.2.1 0 = .ok (.aload_n 0, 1) := by decide +kernel
theorem d_X12_regime_1 : decode M_X12_regime.2.1 1 = .ok (.iconst 0, 1) := by decide +kernel
theorem d_X12_regime_2 : decode M_X12_regime.2.1 2 = .ok (.putfield 169, 3) := by decide +kernel
theorem d_X12_regime_5 : decode M_X12_regime.2.1 5 = .ok (.aload_n 0, 1) := by decide +kernel
theorem d_X12_regime_6 : decode M_X12_regime.2.1 6 = .ok (.iload_n 1, 1) := by decide +kernel
theorem d_X12_regime_7 : decode M_X12_regime.2.1 7 = .ok (.invokevirtual 404, 3) := by decide +kernel
theorem d_X12_regime_10 : decode M_X12_regime.2.1 10 = .ok (.ifCond .eq 23, 3) := by decide +kernel
theorem d_X12_regime_13 : decode M_X12_regime.2.1 13 = .ok (.aload_n 0, 1) := by decide +kernel
theorem d_X12_regime_14 : decode M_X12_regime.2.1 14 = .ok (.getfield 102, 3) := by decide +kernel
theorem d_X12_regime_17 : decode M_X12_regime.2.1 17 = .ok (.iconst 5, 1) := by decide +kernel
theorem d_X12_regime_18 : decode M_X12_regime.2.1 18 = .ok (.iload_n 1, 1) := by decide +kernel
theorem d_X12_regime_19 : decode M_X12_regime.2.1 19 = .ok (.iadd, 1) := by decide +kernel
theorem d_X12_regime_20 : decode M_X12_regime.2.1 20 = .ok (.iaload, 1) := by decide +kernel
theorem d_X12_regime_21 : decode M_X12_regime.2.1 21 = .ok (.ifCond .ne 12, 3) := by decide +kernel
theorem d_X12_regime_24 : decode M_X12_regime.2.1 24 = .ok (.iload_n 2, 1) := by decide +kernel
theorem d_X12_regime_25 : decode M_X12_regime.2.1 25 = .ok (.iconst 0, 1) := by decide +kernel
theorem d_X12_regime_26 : decode M_X12_regime.2.1 26 = .ok (.iconst 1, 1) := by decide +kernel
theorem d_X12_regime_27 : decode M_X12_regime.2.1 27 = .ok (.invokestatic 308, 3) := by decide +kernel
theorem d_X12_regime_30 : decode M_X12_regime.2.1 30 = .ok (.ifCond .ne 5, 3) := by decide +kernel
theorem d_X12_regime_33 : decode M_X12_regime.2.1 33 = .ok (.iconst (-1), 1) := by decide +kernel
theorem d_X12_regime_34 : decode M_X12_regime.2.1 34 = .ok (.ireturn, 1) := by decide +kernel
theorem d_X12_regime_35 : decode M_X12_regime.2.1 35 = .ok (.aload_n 0, 1) := by decide +kernel
theorem d_X12_regime_36 : decode M_X12_regime.2.1 36 = .ok (.iload_n 1, 1) := by decide +kernel
theorem d_X12_regime_37 : decode M_X12_regime.2.1 37 = .ok (.invokevirtual 497, 3) := by decide +kernel
theorem d_X12_regime_40 : decode M_X12_regime.2.1 40 = .ok (.sipush 200, 3) := by decide +kernel
theorem d_X12_regime_43 : decode M_X12_regime.2.1 43 = .ok (.aload_n 0, 1) := by decide +kernel
theorem d_X12_regime_44 : decode M_X12_regime.2.1 44 = .ok (.getfield 102, 3) := by decide +kernel
theorem d_X12_regime_47 : decode M_X12_regime.2.1 47 = .ok (.bipush 110, 2) := by decide +kernel
theorem d_X12_regime_49 : decode M_X12_regime.2.1 49 = .ok (.iaload, 1) := by decide +kernel
theorem d_X12_regime_50 : decode M_X12_regime.2.1 50 = .ok (.imul, 1) := by decide +kernel
theorem d_X12_regime_51 : decode M_X12_regime.2.1 51 = .ok (.aload_n 0, 1) := by decide +kernel
theorem d_X12_regime_52 : decode M_X12_regime.2.1 52 = .ok (.getfield 102, 3) := by decide +kernel
theorem d_X12_regime_55 : decode M_X12_regime.2.1 55 = .ok (.iload_n 1, 1) := by decide +kernel
theorem d_X12_regime_56 : decode M_X12_regime.2.1 56 = .ok (.iaload, 1) := by decide +kernel
theorem d_X12_regime_57 : decode M_X12_regime.2.1 57 = .ok (.iadd, 1) := by decide +kernel
theorem d_X12_regime_58 : decode M_X12_regime.2.1 58 = .ok (.istore_n 3, 1) := by decide +kernel
theorem d_X12_regime_59 : decode M_X12_regime.2.1 59 = .ok (.iload_n 2, 1) := by decide +kernel
theorem d_X12_regime_60 : decode M_X12_regime.2.1 60 = .ok (.ifCond .ne 10, 3) := by decide +kernel
theorem d_X12_regime_63 : decode M_X12_regime.2.1 63 = .ok (.aload_n 0, 1) := by decide +kernel
theorem d_X12_regime_64 : decode M_X12_regime.2.1 64 = .ok (.getfield 111, 3) := by decide +kernel
theorem d_X12_regime_67 : decode M_X12_regime.2.1 67 = .ok (.iload_n 3, 1) := by decide +kernel
theorem d_X12_regime_68 : decode M_X12_regime.2.1 68 = .ok (.iaload, 1) := by decide +kernel
theorem d_X12_regime_69 : decode M_X12_regime.2.1 69 = .ok (.ireturn, 1) := by decide +kernel
theorem d_X12_regime_70 : decode M_X12_regime.2.1 70 = .ok (.aload_n 0, 1) := by decide +kernel
theorem d_X12_regime_71 : decode M_X12_regime.2.1 71 = .ok (.getfield 102, 3) := by decide +kernel
theorem d_X12_regime_74 : decode M_X12_regime.2.1 74 = .ok (.bipush 110, 2) := by decide +kernel
theorem d_X12_regime_76 : decode M_X12_regime.2.1 76 = .ok (.iaload, 1) := by decide +kernel
theorem d_X12_regime_77 : decode M_X12_regime.2.1 77 = .ok (.aload_n 0, 1) := by decide +kernel
theorem d_X12_regime_78 : decode M_X12_regime.2.1 78 = .ok (.getfield 13, 3) := by decide +kernel
theorem d_X12_regime_81 : decode M_X12_regime.2.1 81 = .ok (.iconst 1, 1) := by decide +kernel
theorem d_X12_regime_82 : decode M_X12_regime.2.1 82 = .ok (.iaload, 1) := by decide +kernel
theorem d_X12_regime_83 : decode M_X12_regime.2.1 83 = .ok (.if_icmp .ge 16, 3) := by decide +kernel
theorem d_X12_regime_86 : decode M_X12_regime.2.1 86 = .ok (.aload_n 0, 1) := by decide +kernel
theorem d_X12_regime_87 : decode M_X12_regime.2.1 87 = .ok (.getfield 114, 3) := by decide +kernel
theorem d_X12_regime_90 : decode M_X12_regime.2.1 90 = .ok (.iload_n 3, 1) := by decide +kernel
theorem d_X12_regime_91 : decode M_X12_regime.2.1 91 = .ok (.baload, 1) := by decide +kernel
theorem d_X12_regime_92 : decode M_X12_regime.2.1 92 = .ok (.ifCond .eq 7, 3) := by decide +kernel
theorem d_X12_regime_95 : decode M_X12_regime.2.1 95 = .ok (.iconst 1, 1) := by decide +kernel
theorem d_X12_regime_96 : decode M_X12_regime.2.1 96 = .ok (.goto 4, 3) := by decide +kernel
theorem d_X12_regime_99 : decode M_X12_regime.2.1 99 = .ok (.iconst 0, 1) := by decide +kernel
theorem d_X12_regime_100 : decode M_X12_regime.2.1 100 = .ok (.ireturn, 1) := by decide +kernel
set_option maxRecDepth 20000 in
theorem s_X12_regime_0 {d : Nat} {p0 : Int} {p1 : Int} {G : Mem} {Q : Int → Mem → Prop}  (h : (∀ G1 : Mem, G1 = st G 311 0 0 → Ct d M_X12_isSitter NT 0 0 (some lay) [(2, 311), (0, p0)] G1 (fun r3 G2 => (InR r3) ∧ ((r3 = 0) → Q (-1) G2) ∧ (¬ (r3 = 0) → (0 ≤ (5 + p0) ∧ (5 + p0) < 116) ∧ ((InR (G2 342 (5 + p0))) ∧ (((G2 342 (5 + p0)) ≠ 0) → Q (-1) G2) ∧ (¬ ((G2 342 (5 + p0)) ≠ 0) → Ct d M_X12_within NT 0 0 (some lay) [(0, p1), (0, 0), (0, 1)] G2 (fun r10 G9 => (InR r10) ∧ ((r10 ≠ 0) → Ct d M_X12_regimes NT 0 0 (some lay) [(2, 311), (0, p0)] G9 (fun r14 G13 => (0 ≤ p0 ∧ p0 < 116) ∧ ((InR p1) ∧ ((p1 ≠ 0) → (InR (G13 342 110)) ∧ (InR (G13 313 1)) ∧ (((G13 313 1) ≤ (G13 342 110)) → Q 0 G13) ∧ (¬ ((G13 313 1) ≤ (G13 342 110)) → (0 ≤ ((200 * (G13 342 110)) + (G13 342 p0)) ∧ ((200 * (G13 342 110)) + (G13 342 p0)) < 14600) ∧ ((InR (G13 346 ((200 * (G13 342 110)) + (G13 342 p0)))) ∧ (((G13 346 ((200 * (G13 342 110)) + (G13 342 p0))) = 0) → Q 0 G13) ∧ (¬ ((G13 346 ((200 * (G13 342 110)) + (G13 342 p0))) = 0) → Q 1 G13)))) ∧ (¬ (p1 ≠ 0) → (0 ≤ ((200 * (G13 342 110)) + (G13 342 p0)) ∧ ((200 * (G13 342 110)) + (G13 342 p0)) < 14600) ∧ (Q (G13 345 ((200 * (G13 342 110)) + (G13 342 p0))) G13))))) ∧ (¬ (r10 ≠ 0) → Q (-1) G9)))))))) : Rn (d + 1) M_X12_regime zN 0 [(0, (2, 311)), (1, (0, p0)), (2, (0, p1))] [] G Q := by
  refine r_aload_n d_X12_regime_0 0 rfl rfl ?_
  refine r_iconst d_X12_regime_1 ?_
  obtain ⟨G1, eG1⟩ : ∃ y : Mem, y = st G 311 0 0 := ⟨_, rfl⟩
  replace h := h G1 eG1
  refine r_putI 12 0 0 rfl d_X12_regime_2 fl_X12_169 (by decide) nofin_12_0 (bs_ob bs_12) ?_
  rw [← eG1]
  refine r_aload_n d_X12_regime_5 0 rfl rfl ?_
  refine r_iload_n d_X12_regime_6 1 rfl rfl ?_
  refine r_callV0 (M' := M_X12_isSitter) (ci := 12) [(0, p0)] d_X12_regime_7 cl_X12_404 rfl (Nat.le_of_ble_eq_true rfl) (by decide) rfl (bs_ob bs_12) ?_
  refine Ct.mono h (fun r3 G2 h => ?_)
  show Rn _ M_X12_regime zN 10 [(0, (2, 311)), (1, (0, p0)), (2, (0, p1))] [(0, r3)] G2 Q
  obtain ⟨h4, h⟩ := h
  refine r_if_eq (tgt := 33) d_X12_regime_10 (by decide) h4 (fun c5 => ?_) (fun c5 => ?_)
  · replace h := h.1 c5
    refine r_iconst d_X12_regime_33 ?_
    exact r_ireturn d_X12_regime_34 rfl ⟨rfl, Nat.le_refl _, Nat.le_refl _⟩ h
  · replace h := h.2 c5
    refine r_aload_n d_X12_regime_13 0 rfl rfl ?_
    refine r_getL (v := 342) 12 43 43 rfl d_X12_regime_14 fl_X12_102 (by decide) (bs_ob bs_12) (ly_12_43 bs_12).1 (ly_12_43 bs_12).2.1 ?_
    refine r_iconst d_X12_regime_17 ?_
    refine r_iload_n d_X12_regime_18 1 rfl rfl ?_
    refine r_iadd d_X12_regime_19 ?_
    obtain ⟨h6, h⟩ := h
    refine r_iaload d_X12_regime_20 (ly_12_43 bs_12).2.2 h6 ?_
    obtain ⟨h7, h⟩ := h
    refine r_if_ne (tgt := 33) d_X12_regime_21 (by decide) h7 (fun c8 => ?_) (fun c8 => ?_)
    · replace h := h.1 c8
      refine r_iconst d_X12_regime_33 ?_
      exact r_ireturn d_X12_regime_34 rfl ⟨rfl, Nat.le_refl _, Nat.le_refl _⟩ h
    · replace h := h.2 c8
      refine r_iload_n d_X12_regime_24 2 rfl rfl ?_
      refine r_iconst d_X12_regime_25 ?_
      refine r_iconst d_X12_regime_26 ?_
      refine r_callS0 (M' := M_X12_within) [(0, p1), (0, 0), (0, 1)] d_X12_regime_27 cl_X12_308 rfl (Nat.le_of_ble_eq_true rfl) ?_
      refine Ct.mono h (fun r10 G9 h => ?_)
      show Rn _ M_X12_regime zN 30 [(0, (2, 311)), (1, (0, p0)), (2, (0, p1))] [(0, r10)] G9 Q
      obtain ⟨h11, h⟩ := h
      refine r_if_ne (tgt := 35) d_X12_regime_30 (by decide) h11 (fun c12 => ?_) (fun c12 => ?_)
      · replace h := h.1 c12
        refine r_aload_n d_X12_regime_35 0 rfl rfl ?_
        refine r_iload_n d_X12_regime_36 1 rfl rfl ?_
        refine r_callV0 (M' := M_X12_regimes) (ci := 12) [(0, p0)] d_X12_regime_37 cl_X12_497 rfl (Nat.le_of_ble_eq_true rfl) (by decide) rfl (bs_ob bs_12) ?_
        refine Ct.mono h (fun r14 G13 h => ?_)
        show Rn _ M_X12_regime zN 40 [(0, (2, 311)), (1, (0, p0)), (2, (0, p1))] [] G13 Q
        refine r_sipush d_X12_regime_40 (by decide +kernel) ?_
        refine r_aload_n d_X12_regime_43 0 rfl rfl ?_
        refine r_getL (v := 342) 12 43 43 rfl d_X12_regime_44 fl_X12_102 (by decide) (bs_ob bs_12) (ly_12_43 bs_12).1 (ly_12_43 bs_12).2.1 ?_
        refine r_bipush d_X12_regime_47 (by decide +kernel) ?_
        refine r_iaload d_X12_regime_49 (ly_12_43 bs_12).2.2 (by decide) ?_
        refine r_imul d_X12_regime_50 ?_
        refine r_aload_n d_X12_regime_51 0 rfl rfl ?_
        refine r_getL (v := 342) 12 43 43 rfl d_X12_regime_52 fl_X12_102 (by decide) (bs_ob bs_12) (ly_12_43 bs_12).1 (ly_12_43 bs_12).2.1 ?_
        refine r_iload_n d_X12_regime_55 1 rfl rfl ?_
        obtain ⟨h15, h⟩ := h
        refine r_iaload d_X12_regime_56 (ly_12_43 bs_12).2.2 h15 ?_
        refine r_iadd d_X12_regime_57 ?_
        refine r_istore_n (ls1 := [(3, (0, ((200 * (G13 342 110)) + (G13 342 p0)))), (0, (2, 311)), (1, (0, p0)), (2, (0, p1))]) d_X12_regime_58 rfl (by decide) rfl ?_
        refine r_iload_n d_X12_regime_59 3 rfl rfl ?_
        obtain ⟨h16, h⟩ := h
        refine r_if_ne (tgt := 70) d_X12_regime_60 (by decide) h16 (fun c17 => ?_) (fun c17 => ?_)
        · replace h := h.1 c17
          refine r_aload_n d_X12_regime_70 1 rfl rfl ?_
          refine r_getL (v := 342) 12 43 43 rfl d_X12_regime_71 fl_X12_102 (by decide) (bs_ob bs_12) (ly_12_43 bs_12).1 (ly_12_43 bs_12).2.1 ?_
          refine r_bipush d_X12_regime_74 (by decide +kernel) ?_
          refine r_iaload d_X12_regime_76 (ly_12_43 bs_12).2.2 (by decide) ?_
          refine r_aload_n d_X12_regime_77 1 rfl rfl ?_
          refine r_getL (v := 313) 12 10 10 rfl d_X12_regime_78 fl_X12_13 (by decide) (bs_ob bs_12) (ly_12_10 bs_12).1 (ly_12_10 bs_12).2.1 ?_
          refine r_iconst d_X12_regime_81 ?_
          refine r_iaload d_X12_regime_82 (ly_12_10 bs_12).2.2 (by decide) ?_
          obtain ⟨h18, h⟩ := h
          obtain ⟨h19, h⟩ := h
          refine r_icmp_ge (tgt := 99) d_X12_regime_83 (by decide) h18 h19 (fun c20 => ?_) (fun c20 => ?_)
          · replace h := h.1 c20
            refine r_iconst d_X12_regime_99 ?_
            exact r_ireturn d_X12_regime_100 rfl ⟨rfl, Nat.le_refl _, Nat.le_refl _⟩ h
          · replace h := h.2 c20
            refine r_aload_n d_X12_regime_86 1 rfl rfl ?_
            refine r_getL (v := 346) 12 51 51 rfl d_X12_regime_87 fl_X12_114 (by decide) (bs_ob bs_12) (ly_12_51 bs_12).1 (ly_12_51 bs_12).2.1 ?_
            refine r_iload_n d_X12_regime_90 0 rfl rfl ?_
            obtain ⟨h21, h⟩ := h
            refine r_zaload d_X12_regime_91 (ly_12_51 bs_12).2.2 h21 ?_
            obtain ⟨h22, h⟩ := h
            refine r_if_eq (tgt := 99) d_X12_regime_92 (by decide) h22 (fun c23 => ?_) (fun c23 => ?_)
            · replace h := h.1 c23
              refine r_iconst d_X12_regime_99 ?_
              exact r_ireturn d_X12_regime_100 rfl ⟨rfl, Nat.le_refl _, Nat.le_refl _⟩ h
            · replace h := h.2 c23
              refine r_iconst d_X12_regime_95 ?_
              refine r_goto (tgt := 100) d_X12_regime_96 (by decide) ?_
              exact r_ireturn d_X12_regime_100 rfl ⟨rfl, Nat.le_refl _, Nat.le_refl _⟩ h
        · replace h := h.2 c17
          refine r_aload_n d_X12_regime_63 1 rfl rfl ?_
          refine r_getL (v := 345) 12 50 50 rfl d_X12_regime_64 fl_X12_111 (by decide) (bs_ob bs_12) (ly_12_50 bs_12).1 (ly_12_50 bs_12).2.1 ?_
          refine r_iload_n d_X12_regime_67 0 rfl rfl ?_
          obtain ⟨h24, h⟩ := h
          refine r_iaload d_X12_regime_68 (ly_12_50 bs_12).2.2 h24 ?_
          exact r_ireturn d_X12_regime_69 rfl ⟨rfl, Nat.le_refl _, Nat.le_refl _⟩ h
      · replace h := h.2 c12
        refine r_iconst d_X12_regime_33 ?_
        exact r_ireturn d_X12_regime_34 rfl ⟨rfl, Nat.le_refl _, Nat.le_refl _⟩ h
theorem d_X12_asleepAhead_0 : decode M_X12_asleepAhead.2.1 0 = .ok (.iconst 0, 1) := by decide +kernel
theorem d_X12_asleepAhead_1 : decode M_X12_asleepAhead.2.1 1 = .ok (.istore_n 3, 1) := by decide +kernel
theorem d_X12_asleepAhead_2 : decode M_X12_asleepAhead.2.1 2 = .ok (.aload_n 0, 1) := by decide +kernel
theorem d_X12_asleepAhead_3 : decode M_X12_asleepAhead.2.1 3 = .ok (.getfield 23, 3) := by decide +kernel
theorem d_X12_asleepAhead_6 : decode M_X12_asleepAhead.2.1 6 = .ok (.iload_n 1, 1) := by decide +kernel
theorem d_X12_asleepAhead_7 : decode M_X12_asleepAhead.2.1 7 = .ok (.iaload, 1) := by decide +kernel
theorem d_X12_asleepAhead_8 : decode M_X12_asleepAhead.2.1 8 = .ok (.iconst 1, 1) := by decide +kernel
theorem d_X12_asleepAhead_9 : decode M_X12_asleepAhead.2.1 9 = .ok (.iadd, 1) := by decide +kernel
theorem d_X12_asleepAhead_10 : decode M_X12_asleepAhead.2.1 10 = .ok (.istore 4, 2) := by decide +kernel
theorem d_X12_asleepAhead_12 : decode M_X12_asleepAhead.2.1 12 = .ok (.iload 4, 2) := by decide +kernel
theorem d_X12_asleepAhead_14 : decode M_X12_asleepAhead.2.1 14 = .ok (.aload_n 0, 1) := by decide +kernel
theorem d_X12_asleepAhead_15 : decode M_X12_asleepAhead.2.1 15 = .ok (.getfield 13, 3) := by decide +kernel
theorem d_X12_asleepAhead_18 : decode M_X12_asleepAhead.2.1 18 = .ok (.iconst 0, 1) := by decide +kernel
theorem d_X12_asleepAhead_19 : decode M_X12_asleepAhead.2.1 19 = .ok (.iaload, 1) := by decide +kernel
theorem d_X12_asleepAhead_20 : decode M_X12_asleepAhead.2.1 20 = .ok (.if_icmp .ge 40, 3) := by decide +kernel
theorem d_X12_asleepAhead_23 : decode M_X12_asleepAhead.2.1 23 = .ok (.aload_n 0, 1) := by decide +kernel
theorem d_X12_asleepAhead_24 : decode M_X12_asleepAhead.2.1 24 = .ok (.iload 4, 2) := by decide +kernel
theorem d_X12_asleepAhead_26 : decode M_X12_asleepAhead.2.1 26 = .ok (.invokevirtual 413, 3) := by decide +kernel
theorem d_X12_asleepAhead_29 : decode M_X12_asleepAhead.2.1 29 = .ok (.istore 5, 2) := by decide +kernel
theorem d_X12_asleepAhead_31 : decode M_X12_asleepAhead.2.1 31 = .ok (.iload_n 3, 1) := by decide +kernel
theorem d_X12_asleepAhead_32 : decode M_X12_asleepAhead.2.1 32 = .ok (.iload 5, 2) := by decide +kernel
theorem d_X12_asleepAhead_34 : decode M_X12_asleepAhead.2.1 34 = .ok (.ifCond .lt 17, 3) := by decide +kernel
theorem d_X12_asleepAhead_37 : decode M_X12_asleepAhead.2.1 37 = .ok (.aload_n 0, 1) := by decide +kernel
theorem d_X12_asleepAhead_38 : decode M_X12_asleepAhead.2.1 38 = .ok (.iload 5, 2) := by decide +kernel
theorem d_X12_asleepAhead_40 : decode M_X12_asleepAhead.2.1 40 = .ok (.iload_n 2, 1) := by decide +kernel
theorem d_X12_asleepAhead_41 : decode M_X12_asleepAhead.2.1 41 = .ok (.invokevirtual 380, 3) := by decide +kernel
theorem d_X12_asleepAhead_44 : decode M_X12_asleepAhead.2.1 44 = .ok (.ifCond .eq 7, 3) := by decide +kernel
theorem d_X12_asleepAhead_47 : decode M_X12_asleepAhead.2.1 47 = .ok (.iconst 1, 1) := by decide +kernel
theorem d_X12_asleepAhead_48 : decode M_X12_asleepAhead.2.1 48 = .ok (.goto 4, 3) := by decide +kernel
theorem d_X12_asleepAhead_51 : decode M_X12_asleepAhead.2.1 51 = .ok (.iconst 0, 1) := by decide +kernel
theorem d_X12_asleepAhead_52 : decode M_X12_asleepAhead.2.1 52 = .ok (.iadd, 1) := by decide +kernel
theorem d_X12_asleepAhead_53 : decode M_X12_asleepAhead.2.1 53 = .ok (.istore_n 3, 1) := by decide +kernel
theorem d_X12_asleepAhead_54 : decode M_X12_asleepAhead.2.1 54 = .ok (.iinc 4 1, 3) := by decide +kernel
theorem d_X12_asleepAhead_57 : decode M_X12_asleepAhead.2.1 57 = .ok (.goto (-45), 3) := by decide +kernel
theorem d_X12_asleepAhead_60 : decode M_X12_asleepAhead.2.1 60 = .ok (.iload_n 3, 1) := by decide +kernel
theorem d_X12_asleepAhead_61 : decode M_X12_asleepAhead.2.1 61 = .ok (.ireturn, 1) := by decide +kernel
set_option maxRecDepth 20000 in
theorem s_X12_asleepAhead_0 {d : Nat} {p0 : Int} {p1 : Int} {G : Mem} {Q : Int → Mem → Prop}  (h : (0 ≤ p0 ∧ p0 < 30) ∧ (Rn d M_X12_asleepAhead zN 12 [(0, (2, 311)), (2, (0, p1)), (3, (0, 0)), (4, (0, ((G 316 p0) + 1)))] [] G Q)) : Rn d M_X12_asleepAhead zN 0 [(0, (2, 311)), (1, (0, p0)), (2, (0, p1))] [] G Q := by
  refine r_iconst d_X12_asleepAhead_0 ?_
  refine r_istore_n (ls1 := [(3, (0, 0)), (0, (2, 311)), (1, (0, p0)), (2, (0, p1))]) d_X12_asleepAhead_1 rfl (by decide) rfl ?_
  refine r_aload_n d_X12_asleepAhead_2 1 rfl rfl ?_
  refine r_getL (v := 316) 12 13 13 rfl d_X12_asleepAhead_3 fl_X12_23 (by decide) (bs_ob bs_12) (ly_12_13 bs_12).1 (ly_12_13 bs_12).2.1 ?_
  refine r_iload_n d_X12_asleepAhead_6 2 rfl rfl ?_
  obtain ⟨h1, h⟩ := h
  refine r_iaload d_X12_asleepAhead_7 (ly_12_13 bs_12).2.2 h1 ?_
  refine r_iconst d_X12_asleepAhead_8 ?_
  refine r_iadd d_X12_asleepAhead_9 ?_
  refine r_istore (ls1 := [(4, (0, ((G 316 p0) + 1))), (3, (0, 0)), (0, (2, 311)), (1, (0, p0)), (2, (0, p1))]) d_X12_asleepAhead_10 (by decide) rfl ?_
  exact Rn.sub [2, 4, 1, 0] rfl h
set_option maxRecDepth 20000 in
theorem s_X12_asleepAhead_12 {d : Nat} {x2 : Int} {x3 : Int} {x4 : Int} {G : Mem} {Q : Int → Mem → Prop}  (h : (InR x4) ∧ (InR (G 313 0)) ∧ (((G 313 0) ≤ x4) → Q x3 G) ∧ (¬ ((G 313 0) ≤ x4) → Ct d M_X12_inSeat NT 0 0 (some lay) [(2, 311), (0, x4)] G (fun r5 G4 => (InR r5) ∧ ((r5 < 0) → Rn (d + 1) M_X12_asleepAhead zN 12 [(0, (2, 311)), (2, (0, x2)), (3, (0, (x3 + 0))), (4, (0, (x4 + 1)))] [] G4 Q) ∧ (¬ (r5 < 0) → Ct d M_X12_isAsleepAt NT 0 0 (some lay) [(2, 311), (0, r5), (0, x2)] G4 (fun r9 G8 => (InR r9) ∧ ((r9 = 0) → Rn (d + 1) M_X12_asleepAhead zN 12 [(0, (2, 311)), (2, (0, x2)), (3, (0, (x3 + 0))), (4, (0, (x4 + 1)))] [] G8 Q) ∧ (¬ (r9 = 0) → Rn (d + 1) M_X12_asleepAhead zN 12 [(0, (2, 311)), (2, (0, x2)), (3, (0, (x3 + 1))), (4, (0, (x4 + 1)))] [] G8 Q)))))) : Rn (d + 1) M_X12_asleepAhead zN 12 [(0, (2, 311)), (2, (0, x2)), (3, (0, x3)), (4, (0, x4))] [] G Q := by
  refine r_iload d_X12_asleepAhead_12 3 rfl ?_
  refine r_aload_n d_X12_asleepAhead_14 0 rfl rfl ?_
  refine r_getL (v := 313) 12 10 10 rfl d_X12_asleepAhead_15 fl_X12_13 (by decide) (bs_ob bs_12) (ly_12_10 bs_12).1 (ly_12_10 bs_12).2.1 ?_
  refine r_iconst d_X12_asleepAhead_18 ?_
  refine r_iaload d_X12_asleepAhead_19 (ly_12_10 bs_12).2.2 (by decide) ?_
  obtain ⟨h1, h⟩ := h
  obtain ⟨h2, h⟩ := h
  refine r_icmp_ge (tgt := 60) d_X12_asleepAhead_20 (by decide) h1 h2 (fun c3 => ?_) (fun c3 => ?_)
  · replace h := h.1 c3
    refine r_iload_n d_X12_asleepAhead_60 2 rfl rfl ?_
    exact r_ireturn d_X12_asleepAhead_61 rfl ⟨rfl, Nat.le_refl _, Nat.le_refl _⟩ h
  · replace h := h.2 c3
    refine r_aload_n d_X12_asleepAhead_23 0 rfl rfl ?_
    refine r_iload d_X12_asleepAhead_24 3 rfl ?_
    refine r_callV0 (M' := M_X12_inSeat) (ci := 12) [(0, x4)] d_X12_asleepAhead_26 cl_X12_413 rfl (Nat.le_of_ble_eq_true rfl) (by decide) rfl (bs_ob bs_12) ?_
    refine Ct.mono h (fun r5 G4 h => ?_)
    show Rn _ M_X12_asleepAhead zN 29 [(0, (2, 311)), (2, (0, x2)), (3, (0, x3)), (4, (0, x4))] [(0, r5)] G4 Q
    refine r_istore (ls1 := [(5, (0, r5)), (0, (2, 311)), (2, (0, x2)), (3, (0, x3)), (4, (0, x4))]) d_X12_asleepAhead_29 (by decide) rfl ?_
    refine r_iload_n d_X12_asleepAhead_31 3 rfl rfl ?_
    refine r_iload d_X12_asleepAhead_32 0 rfl ?_
    obtain ⟨h6, h⟩ := h
    refine r_if_lt (tgt := 51) d_X12_asleepAhead_34 (by decide) h6 (fun c7 => ?_) (fun c7 => ?_)
    · replace h := h.1 c7
      refine r_iconst d_X12_asleepAhead_51 ?_
      refine r_iadd d_X12_asleepAhead_52 ?_
      refine r_istore_n (ls1 := [(3, (0, (x3 + 0))), (5, (0, r5)), (0, (2, 311)), (2, (0, x2)), (4, (0, x4))]) d_X12_asleepAhead_53 rfl (by decide) rfl ?_
      refine r_iinc (ls1 := [(4, (0, (x4 + 1))), (3, (0, (x3 + 0))), (5, (0, r5)), (0, (2, 311)), (2, (0, x2))]) d_X12_asleepAhead_54 4 rfl (by decide) rfl ?_
      refine r_goto (tgt := 12) d_X12_asleepAhead_57 (by decide) ?_
      exact Rn.sub [3, 4, 1, 0] rfl h
    · replace h := h.2 c7
      refine r_aload_n d_X12_asleepAhead_37 1 rfl rfl ?_
      refine r_iload d_X12_asleepAhead_38 0 rfl ?_
      refine r_iload_n d_X12_asleepAhead_40 2 rfl rfl ?_
      refine r_callV0 (M' := M_X12_isAsleepAt) (ci := 12) [(0, r5), (0, x2)] d_X12_asleepAhead_41 cl_X12_380 rfl (Nat.le_of_ble_eq_true rfl) (by decide) rfl (bs_ob bs_12) ?_
      refine Ct.mono h (fun r9 G8 h => ?_)
      show Rn _ M_X12_asleepAhead zN 44 [(5, (0, r5)), (0, (2, 311)), (2, (0, x2)), (3, (0, x3)), (4, (0, x4))] [(0, r9), (0, x3)] G8 Q
      obtain ⟨h10, h⟩ := h
      refine r_if_eq (tgt := 51) d_X12_asleepAhead_44 (by decide) h10 (fun c11 => ?_) (fun c11 => ?_)
      · replace h := h.1 c11
        refine r_iconst d_X12_asleepAhead_51 ?_
        refine r_iadd d_X12_asleepAhead_52 ?_
        refine r_istore_n (ls1 := [(3, (0, (x3 + 0))), (5, (0, r5)), (0, (2, 311)), (2, (0, x2)), (4, (0, x4))]) d_X12_asleepAhead_53 rfl (by decide) rfl ?_
        refine r_iinc (ls1 := [(4, (0, (x4 + 1))), (3, (0, (x3 + 0))), (5, (0, r5)), (0, (2, 311)), (2, (0, x2))]) d_X12_asleepAhead_54 4 rfl (by decide) rfl ?_
        refine r_goto (tgt := 12) d_X12_asleepAhead_57 (by decide) ?_
        exact Rn.sub [3, 4, 1, 0] rfl h
      · replace h := h.2 c11
        refine r_iconst d_X12_asleepAhead_47 ?_
        refine r_goto (tgt := 52) d_X12_asleepAhead_48 (by decide) ?_
        refine r_iadd d_X12_asleepAhead_52 ?_
        refine r_istore_n (ls1 := [(3, (0, (x3 + 1))), (5, (0, r5)), (0, (2, 311)), (2, (0, x2)), (4, (0, x4))]) d_X12_asleepAhead_53 rfl (by decide) rfl ?_
        refine r_iinc (ls1 := [(4, (0, (x4 + 1))), (3, (0, (x3 + 1))), (5, (0, r5)), (0, (2, 311)), (2, (0, x2))]) d_X12_asleepAhead_54 4 rfl (by decide) rfl ?_
        refine r_goto (tgt := 12) d_X12_asleepAhead_57 (by decide) ?_
        exact Rn.sub [3, 4, 1, 0] rfl h
theorem d_X12_fewests_0 : decode M_X12_fewests.2.1 0 = .ok (.aload_n 0, 1) := by decide +kernel
theorem d_X12_fewests_1 : decode M_X12_fewests.2.1 1 = .ok (.getfield 13, 3) := by decide +kernel
theorem d_X12_fewests_4 : decode M_X12_fewests.2.1 4 = .ok (.iconst 1, 1) := by decide +kernel
theorem d_X12_fewests_5 : decode M_X12_fewests.2.1 5 = .ok (.iaload, 1) := by decide +kernel
theorem d_X12_fewests_6 : decode M_X12_fewests.2.1 6 = .ok (.istore_n 2, 1) := by decide +kernel
theorem d_X12_fewests_7 : decode M_X12_fewests.2.1 7 = .ok (.iconst 0, 1) := by decide +kernel
theorem d_X12_fewests_8 : decode M_X12_fewests.2.1 8 = .ok (.istore_n 3, 1) := by decide +kernel
theorem d_X12_fewests_9 : decode M_X12_fewests.2.1 9 = .ok (.iload_n 3, 1) := by decide +kernel
theorem d_X12_fewests_10 : decode M_X12_fewests.2.1 10 = .ok (.sipush 200, 3) := by decide +kernel
theorem d_X12_fewests_13 : decode M_X12_fewests.2.1 13 = .ok (.if_icmp .ge 22, 3) := by decide +kernel
theorem d_X12_fewests_16 : decode M_X12_fewests.2.1 16 = .ok (.aload_n 0, 1) := by decide +kernel
theorem d_X12_fewests_17 : decode M_X12_fewests.2.1 17 = .ok (.getfield 111, 3) := by decide +kernel
theorem d_X12_fewests_20 : decode M_X12_fewests.2.1 20 = .ok (.sipush 200, 3) := by decide +kernel
theorem d_X12_fewests_23 : decode M_X12_fewests.2.1 23 = .ok (.iload_n 2, 1) := by decide +kernel
theorem d_X12_fewests_24 : decode M_X12_fewests.2.1 24 = .ok (.imul, 1) := by decide +kernel
theorem d_X12_fewests_25 : decode M_X12_fewests.2.1 25 = .ok (.iload_n 3, 1) := by decide +kernel
theorem d_X12_fewests_26 : decode M_X12_fewests.2.1 26 = .ok (.iadd, 1) := by decide +kernel
theorem d_X12_fewests_27 : decode M_X12_fewests.2.1 27 = .ok (.iconst 0, 1) := by decide +kernel
theorem d_X12_fewests_28 : decode M_X12_fewests.2.1 28 = .ok (.iastore, 1) := by decide +kernel
theorem d_X12_fewests_29 : decode M_X12_fewests.2.1 29 = .ok (.iinc 3 1, 3) := by decide +kernel
theorem d_X12_fewests_32 : decode M_X12_fewests.2.1 32 = .ok (.goto (-23), 3) := by decide +kernel
theorem d_X12_fewests_35 : decode M_X12_fewests.2.1 35 = .ok (.iload_n 2, 1) := by decide +kernel
theorem d_X12_fewests_36 : decode M_X12_fewests.2.1 36 = .ok (.iconst 1, 1) := by decide +kernel
theorem d_X12_fewests_37 : decode M_X12_fewests.2.1 37 = .ok (.isub, 1) := by decide +kernel
theorem d_X12_fewests_38 : decode M_X12_fewests.2.1 38 = .ok (.istore_n 3, 1) := by decide +kernel
theorem d_X12_fewests_39 : decode M_X12_fewests.2.1 39 = .ok (.iload_n 3, 1) := by decide +kernel
theorem d_X12_fewests_40 : decode M_X12_fewests.2.1 40 = .ok (.aload_n 0, 1) := by decide +kernel
theorem d_X12_fewests_41 : decode M_X12_fewests.2.1 41 = .ok (.getfield 102, 3) := by decide +kernel
theorem d_X12_fewests_44 : decode M_X12_fewests.2.1 44 = .ok (.bipush 110, 2) := by decide +kernel
theorem d_X12_fewests_46 : decode M_X12_fewests.2.1 46 = .ok (.iaload, 1) := by decide +kernel
theorem d_X12_fewests_47 : decode M_X12_fewests.2.1 47 = .ok (.if_icmp .lt 212, 3) := by decide +kernel
theorem d_X12_fewests_50 : decode M_X12_fewests.2.1 50 = .ok (.aload_n 0, 1) := by decide +kernel
theorem d_X12_fewests_51 : decode M_X12_fewests.2.1 51 = .ok (.iload_n 1, 1) := by decide +kernel
theorem d_X12_fewests_52 : decode M_X12_fewests.2.1 52 = .ok (.iload_n 3, 1) := by decide +kernel
theorem d_X12_fewests_53 : decode M_X12_fewests.2.1 53 = .ok (.invokevirtual 380, 3) := by decide +kernel
theorem d_X12_fewests_56 : decode M_X12_fewests.2.1 56 = .ok (.ifCond .ne 15, 3) := by decide +kernel
theorem d_X12_fewests_59 : decode M_X12_fewests.2.1 59 = .ok (.aload_n 0, 1) := by decide +kernel
theorem d_X12_fewests_60 : decode M_X12_fewests.2.1 60 = .ok (.iload_n 3, 1) := by decide +kernel
theorem d_X12_fewests_61 : decode M_X12_fewests.2.1 61 = .ok (.invokevirtual 416, 3) := by decide +kernel
theorem d_X12_fewests_64 : decode M_X12_fewests.2.1 64 = .ok (.ifCond .ne 7, 3) := by decide +kernel
theorem d_X12_fewests_67 : decode M_X12_fewests.2.1 67 = .ok (.iconst 1, 1) := by decide +kernel
theorem d_X12_fewests_68 : decode M_X12_fewests.2.1 68 = .ok (.goto 4, 3) := by decide +kernel
theorem d_X12_fewests_71 : decode M_X12_fewests.2.1 71 = .ok (.iconst 0, 1) := by decide +kernel
theorem d_X12_fewests_72 : decode M_X12_fewests.2.1 72 = .ok (.istore 4, 2) := by decide +kernel
theorem d_X12_fewests_74 : decode M_X12_fewests.2.1 74 = .ok (.iload_n 3, 1) := by decide +kernel
theorem d_X12_fewests_75 : decode M_X12_fewests.2.1 75 = .ok (.iconst 1, 1) := by decide +kernel
theorem d_X12_fewests_76 : decode M_X12_fewests.2.1 76 = .ok (.iadd, 1) := by decide +kernel
theorem d_X12_fewests_77 : decode M_X12_fewests.2.1 77 = .ok (.aload_n 0, 1) := by decide +kernel
theorem d_X12_fewests_78 : decode M_X12_fewests.2.1 78 = .ok (.iload_n 3, 1) := by decide +kernel
theorem d_X12_fewests_79 : decode M_X12_fewests.2.1 79 = .ok (.iconst 0, 1) := by decide +kernel
theorem d_X12_fewests_80 : decode M_X12_fewests.2.1 80 = .ok (.invokevirtual 450, 3) := by decide +kernel
theorem d_X12_fewests_83 : decode M_X12_fewests.2.1 83 = .ok (.iadd, 1) := by decide +kernel
theorem d_X12_fewests_84 : decode M_X12_fewests.2.1 84 = .ok (.istore 5, 2) := by decide +kernel
theorem d_X12_fewests_86 : decode M_X12_fewests.2.1 86 = .ok (.iload 4, 2) := by decide +kernel
theorem d_X12_fewests_88 : decode M_X12_fewests.2.1 88 = .ok (.ifCond .eq 42, 3) := by decide +kernel
theorem d_X12_fewests_91 : decode M_X12_fewests.2.1 91 = .ok (.aload_n 0, 1) := by decide +kernel
theorem d_X12_fewests_92 : decode M_X12_fewests.2.1 92 = .ok (.iload_n 1, 1) := by decide +kernel
theorem d_X12_fewests_93 : decode M_X12_fewests.2.1 93 = .ok (.iload_n 3, 1) := by decide +kernel
theorem d_X12_fewests_94 : decode M_X12_fewests.2.1 94 = .ok (.invokevirtual 500, 3) := by decide +kernel
theorem d_X12_fewests_97 : decode M_X12_fewests.2.1 97 = .ok (.iload 5, 2) := by decide +kernel
theorem d_X12_fewests_99 : decode M_X12_fewests.2.1 99 = .ok (.iload_n 2, 1) := by decide +kernel
theorem d_X12_fewests_100 : decode M_X12_fewests.2.1 100 = .ok (.if_icmp .ge 25, 3) := by decide +kernel
theorem d_X12_fewests_103 : decode M_X12_fewests.2.1 103 = .ok (.aload_n 0, 1) := by decide +kernel
theorem d_X12_fewests_104 : decode M_X12_fewests.2.1 104 = .ok (.iload_n 1, 1) := by decide +kernel
theorem d_X12_fewests_105 : decode M_X12_fewests.2.1 105 = .ok (.iload 5, 2) := by decide +kernel
theorem d_X12_fewests_107 : decode M_X12_fewests.2.1 107 = .ok (.invokevirtual 500, 3) := by decide +kernel
theorem d_X12_fewests_110 : decode M_X12_fewests.2.1 110 = .ok (.aload_n 0, 1) := by decide +kernel
theorem d_X12_fewests_111 : decode M_X12_fewests.2.1 111 = .ok (.getfield 111, 3) := by decide +kernel
theorem d_X12_fewests_114 : decode M_X12_fewests.2.1 114 = .ok (.sipush 200, 3) := by decide +kernel
theorem d_X12_fewests_117 : decode M_X12_fewests.2.1 117 = .ok (.iload 5, 2) := by decide +kernel
theorem d_X12_fewests_119 : decode M_X12_fewests.2.1 119 = .ok (.imul, 1) := by decide +kernel
theorem d_X12_fewests_120 : decode M_X12_fewests.2.1 120 = .ok (.iaload, 1) := by decide +kernel
theorem d_X12_fewests_121 : decode M_X12_fewests.2.1 121 = .ok (.iadd, 1) := by decide +kernel
theorem d_X12_fewests_122 : decode M_X12_fewests.2.1 122 = .ok (.goto 4, 3) := by decide +kernel
theorem d_X12_fewests_125 : decode M_X12_fewests.2.1 125 = .ok (.iconst 0, 1) := by decide +kernel
theorem d_X12_fewests_126 : decode M_X12_fewests.2.1 126 = .ok (.iadd, 1) := by decide +kernel
theorem d_X12_fewests_127 : decode M_X12_fewests.2.1 127 = .ok (.goto 6, 3) := by decide +kernel
theorem d_X12_fewests_130 : decode M_X12_fewests.2.1 130 = .ok (.ldc_w 503, 3) := by decide +kernel
theorem d_X12_fewests_133 : decode M_X12_fewests.2.1 133 = .ok (.istore 6, 2) := by decide +kernel
theorem d_X12_fewests_135 : decode M_X12_fewests.2.1 135 = .ok (.iconst 0, 1) := by decide +kernel
theorem d_X12_fewests_136 : decode M_X12_fewests.2.1 136 = .ok (.istore 7, 2) := by decide +kernel
theorem d_X12_fewests_138 : decode M_X12_fewests.2.1 138 = .ok (.iload 7, 2) := by decide +kernel
theorem d_X12_fewests_140 : decode M_X12_fewests.2.1 140 = .ok (.sipush 200, 3) := by decide +kernel
theorem d_X12_fewests_143 : decode M_X12_fewests.2.1 143 = .ok (.if_icmp .ge 110, 3) := by decide +kernel
theorem d_X12_fewests_146 : decode M_X12_fewests.2.1 146 = .ok (.sipush 199, 3) := by decide +kernel
theorem d_X12_fewests_149 : decode M_X12_fewests.2.1 149 = .ok (.iload 7, 2) := by decide +kernel
theorem d_X12_fewests_151 : decode M_X12_fewests.2.1 151 = .ok (.aload_n 0, 1) := by decide +kernel
theorem d_X12_fewests_152 : decode M_X12_fewests.2.1 152 = .ok (.iload_n 1, 1) := by decide +kernel
theorem d_X12_fewests_153 : decode M_X12_fewests.2.1 153 = .ok (.invokevirtual 453, 3) := by decide +kernel
theorem d_X12_fewests_156 : decode M_X12_fewests.2.1 156 = .ok (.iadd, 1) := by decide +kernel
theorem d_X12_fewests_157 : decode M_X12_fewests.2.1 157 = .ok (.invokestatic 456, 3) := by decide +kernel
theorem d_X12_fewests_160 : decode M_X12_fewests.2.1 160 = .ok (.istore 8, 2) := by decide +kernel
theorem d_X12_fewests_162 : decode M_X12_fewests.2.1 162 = .ok (.iload 8, 2) := by decide +kernel
theorem d_X12_fewests_164 : decode M_X12_fewests.2.1 164 = .ok (.aload_n 0, 1) := by decide +kernel
theorem d_X12_fewests_165 : decode M_X12_fewests.2.1 165 = .ok (.getfield 29, 3) := by decide +kernel
theorem d_X12_fewests_168 : decode M_X12_fewests.2.1 168 = .ok (.iload_n 1, 1) := by decide +kernel
theorem d_X12_fewests_169 : decode M_X12_fewests.2.1 169 = .ok (.iaload, 1) := by decide +kernel
theorem d_X12_fewests_170 : decode M_X12_fewests.2.1 170 = .ok (.if_icmp .le 9, 3) := by decide +kernel
theorem d_X12_fewests_173 : decode M_X12_fewests.2.1 173 = .ok (.ldc_w 503, 3) := by decide +kernel
theorem d_X12_fewests_176 : decode M_X12_fewests.2.1 176 = .ok (.goto 18, 3) := by decide +kernel
theorem d_X12_fewests_179 : decode M_X12_fewests.2.1 179 = .ok (.aload_n 0, 1) := by decide +kernel
theorem d_X12_fewests_180 : decode M_X12_fewests.2.1 180 = .ok (.getfield 111, 3) := by decide +kernel
theorem d_X12_fewests_183 : decode M_X12_fewests.2.1 183 = .ok (.sipush 200, 3) := by decide +kernel
theorem d_X12_fewests_186 : decode M_X12_fewests.2.1 186 = .ok (.iload_n 3, 1) := by decide +kernel
theorem d_X12_fewests_187 : decode M_X12_fewests.2.1 187 = .ok (.iconst 1, 1) := by decide +kernel
theorem d_X12_fewests_188 : decode M_X12_fewests.2.1 188 = .ok (.iadd, 1) := by decide +kernel
theorem d_X12_fewests_189 : decode M_X12_fewests.2.1 189 = .ok (.imul, 1) := by decide +kernel
theorem d_X12_fewests_190 : decode M_X12_fewests.2.1 190 = .ok (.iload 8, 2) := by decide +kernel
theorem d_X12_fewests_192 : decode M_X12_fewests.2.1 192 = .ok (.iadd, 1) := by decide +kernel
theorem d_X12_fewests_193 : decode M_X12_fewests.2.1 193 = .ok (.iaload, 1) := by decide +kernel
theorem d_X12_fewests_194 : decode M_X12_fewests.2.1 194 = .ok (.istore 9, 2) := by decide +kernel
theorem d_X12_fewests_196 : decode M_X12_fewests.2.1 196 = .ok (.aload_n 0, 1) := by decide +kernel
theorem d_X12_fewests_197 : decode M_X12_fewests.2.1 197 = .ok (.getfield 114, 3) := by decide +kernel
theorem d_X12_fewests_200 : decode M_X12_fewests.2.1 200 = .ok (.sipush 200, 3) := by decide +kernel
theorem d_X12_fewests_203 : decode M_X12_fewests.2.1 203 = .ok (.iload_n 3, 1) := by decide +kernel
theorem d_X12_fewests_204 : decode M_X12_fewests.2.1 204 = .ok (.imul, 1) := by decide +kernel
theorem d_X12_fewests_205 : decode M_X12_fewests.2.1 205 = .ok (.iload 7, 2) := by decide +kernel
theorem d_X12_fewests_207 : decode M_X12_fewests.2.1 207 = .ok (.iadd, 1) := by decide +kernel
theorem d_X12_fewests_208 : decode M_X12_fewests.2.1 208 = .ok (.iload 6, 2) := by decide +kernel
theorem d_X12_fewests_210 : decode M_X12_fewests.2.1 210 = .ok (.iload 9, 2) := by decide +kernel
theorem d_X12_fewests_212 : decode M_X12_fewests.2.1 212 = .ok (.if_icmp .ge 7, 3) := by decide +kernel
theorem d_X12_fewests_215 : decode M_X12_fewests.2.1 215 = .ok (.iconst 1, 1) := by decide +kernel
theorem d_X12_fewests_216 : decode M_X12_fewests.2.1 216 = .ok (.goto 4, 3) := by decide +kernel
theorem d_X12_fewests_219 : decode M_X12_fewests.2.1 219 = .ok (.iconst 0, 1) := by decide +kernel
theorem d_X12_fewests_220 : decode M_X12_fewests.2.1 220 = .ok (.bastore, 1) := by decide +kernel
theorem d_X12_fewests_221 : decode M_X12_fewests.2.1 221 = .ok (.aload_n 0, 1) := by decide +kernel
theorem d_X12_fewests_222 : decode M_X12_fewests.2.1 222 = .ok (.getfield 111, 3) := by decide +kernel
theorem d_X12_fewests_225 : decode M_X12_fewests.2.1 225 = .ok (.sipush 200, 3) := by decide +kernel
theorem d_X12_fewests_228 : decode M_X12_fewests.2.1 228 = .ok (.iload_n 3, 1) := by decide +kernel
theorem d_X12_fewests_229 : decode M_X12_fewests.2.1 229 = .ok (.imul, 1) := by decide +kernel
theorem d_X12_fewests_230 : decode M_X12_fewests.2.1 230 = .ok (.iload 7, 2) := by decide +kernel
theorem d_X12_fewests_232 : decode M_X12_fewests.2.1 232 = .ok (.iadd, 1) := by decide +kernel
theorem d_X12_fewests_233 : decode M_X12_fewests.2.1 233 = .ok (.ldc_w 503, 3) := by decide +kernel
theorem d_X12_fewests_236 : decode M_X12_fewests.2.1 236 = .ok (.iload 6, 2) := by decide +kernel
theorem d_X12_fewests_238 : decode M_X12_fewests.2.1 238 = .ok (.iload 9, 2) := by decide +kernel
theorem d_X12_fewests_240 : decode M_X12_fewests.2.1 240 = .ok (.invokestatic 456, 3) := by decide +kernel
theorem d_X12_fewests_243 : decode M_X12_fewests.2.1 243 = .ok (.invokestatic 456, 3) := by decide +kernel
theorem d_X12_fewests_246 : decode M_X12_fewests.2.1 246 = .ok (.iastore, 1) := by decide +kernel
theorem d_X12_fewests_247 : decode M_X12_fewests.2.1 247 = .ok (.iinc 7 1, 3) := by decide +kernel
theorem d_X12_fewests_250 : decode M_X12_fewests.2.1 250 = .ok (.goto (-112), 3) := by decide +kernel
theorem d_X12_fewests_253 : decode M_X12_fewests.2.1 253 = .ok (.iinc 3 (-1), 3) := by decide +kernel
theorem d_X12_fewests_256 : decode M_X12_fewests.2.1 256 = .ok (.goto (-217), 3) := by decide +kernel
theorem d_X12_fewests_259 : decode M_X12_fewests.2.1 259 = .ok (.return_, 1) := by decide +kernel
set_option maxRecDepth 20000 in
theorem s_X12_fewests_0 {d : Nat} {p0 : Int} {G : Mem} {Q : Int → Mem → Prop}  (h : Rn d M_X12_fewests zN 9 [(0, (2, 311)), (1, (0, p0)), (2, (0, (G 313 1))), (3, (0, 0))] [] G Q) : Rn d M_X12_fewests zN 0 [(0, (2, 311)), (1, (0, p0))] [] G Q := by
  refine r_aload_n d_X12_fewests_0 0 rfl rfl ?_
  refine r_getL (v := 313) 12 10 10 rfl d_X12_fewests_1 fl_X12_13 (by decide) (bs_ob bs_12) (ly_12_10 bs_12).1 (ly_12_10 bs_12).2.1 ?_
  refine r_iconst d_X12_fewests_4 ?_
  refine r_iaload d_X12_fewests_5 (ly_12_10 bs_12).2.2 (by decide) ?_
  refine r_istore_n (ls1 := [(2, (0, (G 313 1))), (0, (2, 311)), (1, (0, p0))]) d_X12_fewests_6 rfl (by decide) rfl ?_
  refine r_iconst d_X12_fewests_7 ?_
  refine r_istore_n (ls1 := [(3, (0, 0)), (2, (0, (G 313 1))), (0, (2, 311)), (1, (0, p0))]) d_X12_fewests_8 rfl (by decide) rfl ?_
  exact Rn.sub [2, 3, 1, 0] rfl h
set_option maxRecDepth 20000 in
theorem s_X12_fewests_9 {d : Nat} {x1 : Int} {x2 : Int} {x3 : Int} {G : Mem} {Q : Int → Mem → Prop}  (h : (InR x3) ∧ ((200 ≤ x3) → Rn d M_X12_fewests zN 39 [(0, (2, 311)), (1, (0, x1)), (2, (0, x2)), (3, (0, (x2 - 1)))] [] G Q) ∧ (¬ (200 ≤ x3) → (0 ≤ ((200 * x2) + x3) ∧ ((200 * x2) + x3) < 14600) ∧ (∀ G4 : Mem, G4 = st G 345 ((200 * x2) + x3) 0 → Rn d M_X12_fewests zN 9 [(0, (2, 311)), (1, (0, x1)), (2, (0, x2)), (3, (0, (x3 + 1)))] [] G4 Q))) : Rn d M_X12_fewests zN 9 [(0, (2, 311)), (1, (0, x1)), (2, (0, x2)), (3, (0, x3))] [] G Q := by
  refine r_iload_n d_X12_fewests_9 3 rfl rfl ?_
  refine r_sipush d_X12_fewests_10 (by decide +kernel) ?_
  obtain ⟨h1, h⟩ := h
  refine r_icmp_ge (tgt := 35) d_X12_fewests_13 (by decide) h1 ⟨by decide, by decide⟩ (fun c2 => ?_) (fun c2 => ?_)
  · replace h := h.1 c2
    refine r_iload_n d_X12_fewests_35 2 rfl rfl ?_
    refine r_iconst d_X12_fewests_36 ?_
    refine r_isub d_X12_fewests_37 ?_
    refine r_istore_n (ls1 := [(3, (0, (x2 - 1))), (0, (2, 311)), (1, (0, x1)), (2, (0, x2))]) d_X12_fewests_38 rfl (by decide) rfl ?_
    exact Rn.sub [1, 2, 3, 0] rfl h
  · replace h := h.2 c2
    refine r_aload_n d_X12_fewests_16 0 rfl rfl ?_
    refine r_getL (v := 345) 12 50 50 rfl d_X12_fewests_17 fl_X12_111 (by decide) (bs_ob bs_12) (ly_12_50 bs_12).1 (ly_12_50 bs_12).2.1 ?_
    refine r_sipush d_X12_fewests_20 (by decide +kernel) ?_
    refine r_iload_n d_X12_fewests_23 2 rfl rfl ?_
    refine r_imul d_X12_fewests_24 ?_
    refine r_iload_n d_X12_fewests_25 3 rfl rfl ?_
    refine r_iadd d_X12_fewests_26 ?_
    refine r_iconst d_X12_fewests_27 ?_
    obtain ⟨h3, h⟩ := h
    obtain ⟨G4, eG4⟩ : ∃ y : Mem, y = st G 345 ((200 * x2) + x3) 0 := ⟨_, rfl⟩
    replace h := h G4 eG4
    refine r_iastore d_X12_fewests_28 (ly_12_50 bs_12).2.2 h3 ?_
    rw [← eG4]
    refine r_iinc (ls1 := [(3, (0, (x3 + 1))), (0, (2, 311)), (1, (0, x1)), (2, (0, x2))]) d_X12_fewests_29 3 rfl (by decide) rfl ?_
    refine r_goto (tgt := 9) d_X12_fewests_32 (by decide) ?_
    exact Rn.sub [1, 2, 3, 0] rfl h
set_option maxRecDepth 20000 in
theorem s_X12_fewests_39 {d : Nat} {x1 : Int} {x2 : Int} {x3 : Int} {G : Mem} {Q : Int → Mem → Prop}  (h : (InR x3) ∧ (InR (G 342 110)) ∧ ((x3 < (G 342 110)) → Q 0 G) ∧ (¬ (x3 < (G 342 110)) → Ct d M_X12_isAsleepAt NT 0 0 (some lay) [(2, 311), (0, x1), (0, x3)] G (fun r5 G4 => (InR r5) ∧ ((r5 ≠ 0) → Rn (d + 1) M_X12_fewests zN 72 [(0, (2, 311)), (1, (0, x1)), (2, (0, x2)), (3, (0, x3))] [(0, 0)] G4 Q) ∧ (¬ (r5 ≠ 0) → Ct d M_X12_isShut NT 0 0 (some lay) [(2, 311), (0, x3)] G4 (fun r9 G8 => (InR r9) ∧ ((r9 ≠ 0) → Rn (d + 1) M_X12_fewests zN 72 [(0, (2, 311)), (1, (0, x1)), (2, (0, x2)), (3, (0, x3))] [(0, 0)] G8 Q) ∧ (¬ (r9 ≠ 0) → Rn (d + 1) M_X12_fewests zN 72 [(0, (2, 311)), (1, (0, x1)), (2, (0, x2)), (3, (0, x3))] [(0, 1)] G8 Q)))))) : Rn (d + 1) M_X12_fewests zN 39 [(0, (2, 311)), (1, (0, x1)), (2, (0, x2)), (3, (0, x3))] [] G Q := by
  refine r_iload_n d_X12_fewests_39 3 rfl rfl ?_
  refine r_aload_n d_X12_fewests_40 0 rfl rfl ?_
  refine r_getL (v := 342) 12 43 43 rfl d_X12_fewests_41 fl_X12_102 (by decide) (bs_ob bs_12) (ly_12_43 bs_12).1 (ly_12_43 bs_12).2.1 ?_
  refine r_bipush d_X12_fewests_44 (by decide +kernel) ?_
  refine r_iaload d_X12_fewests_46 (ly_12_43 bs_12).2.2 (by decide) ?_
  obtain ⟨h1, h⟩ := h
  obtain ⟨h2, h⟩ := h
  refine r_icmp_lt (tgt := 259) d_X12_fewests_47 (by decide) h1 h2 (fun c3 => ?_) (fun c3 => ?_)
  · replace h := h.1 c3
    exact r_ret d_X12_fewests_259 rfl ⟨rfl, Nat.le_refl _, Nat.le_refl _⟩ h
  · replace h := h.2 c3
    refine r_aload_n d_X12_fewests_50 0 rfl rfl ?_
    refine r_iload_n d_X12_fewests_51 1 rfl rfl ?_
    refine r_iload_n d_X12_fewests_52 3 rfl rfl ?_
    refine r_callV0 (M' := M_X12_isAsleepAt) (ci := 12) [(0, x1), (0, x3)] d_X12_fewests_53 cl_X12_380 rfl (Nat.le_of_ble_eq_true rfl) (by decide) rfl (bs_ob bs_12) ?_
    refine Ct.mono h (fun r5 G4 h => ?_)
    show Rn _ M_X12_fewests zN 56 [(0, (2, 311)), (1, (0, x1)), (2, (0, x2)), (3, (0, x3))] [(0, r5)] G4 Q
    obtain ⟨h6, h⟩ := h
    refine r_if_ne (tgt := 71) d_X12_fewests_56 (by decide) h6 (fun c7 => ?_) (fun c7 => ?_)
    · replace h := h.1 c7
      refine r_iconst d_X12_fewests_71 ?_
      exact h
    · replace h := h.2 c7
      refine r_aload_n d_X12_fewests_59 0 rfl rfl ?_
      refine r_iload_n d_X12_fewests_60 3 rfl rfl ?_
      refine r_callV0 (M' := M_X12_isShut) (ci := 12) [(0, x3)] d_X12_fewests_61 cl_X12_416 rfl (Nat.le_of_ble_eq_true rfl) (by decide) rfl (bs_ob bs_12) ?_
      refine Ct.mono h (fun r9 G8 h => ?_)
      show Rn _ M_X12_fewests zN 64 [(0, (2, 311)), (1, (0, x1)), (2, (0, x2)), (3, (0, x3))] [(0, r9)] G8 Q
      obtain ⟨h10, h⟩ := h
      refine r_if_ne (tgt := 71) d_X12_fewests_64 (by decide) h10 (fun c11 => ?_) (fun c11 => ?_)
      · replace h := h.1 c11
        refine r_iconst d_X12_fewests_71 ?_
        exact h
      · replace h := h.2 c11
        refine r_iconst d_X12_fewests_67 ?_
        refine r_goto (tgt := 72) d_X12_fewests_68 (by decide) ?_
        exact h
set_option maxRecDepth 20000 in
theorem s_X12_fewests_72 {d : Nat} {x1 : Int} {x2 : Int} {x3 : Int} {s0 : Int} {G : Mem} {Q : Int → Mem → Prop}  (h : Ct d M_X12_queueAt NT 0 0 (some lay) [(2, 311), (0, x3), (0, 0)] G (fun r2 G1 => (InR s0) ∧ ((s0 = 0) → Rn (d + 1) M_X12_fewests zN 138 [(0, (2, 311)), (1, (0, x1)), (2, (0, x2)), (3, (0, x3)), (6, (0, 100000)), (7, (0, 0))] [] G1 Q) ∧ (¬ (s0 = 0) → Ct d M_X12_asleepAhead NT 0 0 (some lay) [(2, 311), (0, x1), (0, x3)] G1 (fun r6 G5 => (InR ((x3 + 1) + r2)) ∧ (InR x2) ∧ ((x2 ≤ ((x3 + 1) + r2)) → Rn (d + 1) M_X12_fewests zN 138 [(0, (2, 311)), (1, (0, x1)), (2, (0, x2)), (3, (0, x3)), (6, (0, (r6 + 0))), (7, (0, 0))] [] G5 Q) ∧ (¬ (x2 ≤ ((x3 + 1) + r2)) → Ct d M_X12_asleepAhead NT 0 0 (some lay) [(2, 311), (0, x1), (0, ((x3 + 1) + r2))] G5 (fun r11 G10 => (0 ≤ (200 * ((x3 + 1) + r2)) ∧ (200 * ((x3 + 1) + r2)) < 14600) ∧ (Rn (d + 1) M_X12_fewests zN 138 [(0, (2, 311)), (1, (0, x1)), (2, (0, x2)), (3, (0, x3)), (6, (0, (r6 + (r11 + (G10 345 (200 * ((x3 + 1) + r2))))))), (7, (0, 0))] [] G10 Q))))))) : Rn (d + 1) M_X12_fewests zN 72 [(0, (2, 311)), (1, (0, x1)), (2, (0, x2)), (3, (0, x3))] [(0, s0)] G Q := by
  refine r_istore (ls1 := [(4, (0, s0)), (0, (2, 311)), (1, (0, x1)), (2, (0, x2)), (3, (0, x3))]) d_X12_fewests_72 (by decide) rfl ?_
  refine r_iload_n d_X12_fewests_74 4 rfl rfl ?_
  refine r_iconst d_X12_fewests_75 ?_
  refine r_iadd d_X12_fewests_76 ?_
  refine r_aload_n d_X12_fewests_77 1 rfl rfl ?_
  refine r_iload_n d_X12_fewests_78 4 rfl rfl ?_
  refine r_iconst d_X12_fewests_79 ?_
  refine r_callV0 (M' := M_X12_queueAt) (ci := 12) [(0, x3), (0, 0)] d_X12_fewests_80 cl_X12_450 rfl (Nat.le_of_ble_eq_true rfl) (by decide) rfl (bs_ob bs_12) ?_
  refine Ct.mono h (fun r2 G1 h => ?_)
  show Rn _ M_X12_fewests zN 83 [(4, (0, s0)), (0, (2, 311)), (1, (0, x1)), (2, (0, x2)), (3, (0, x3))] [(0, r2), (0, (x3 + 1))] G1 Q
  refine r_iadd d_X12_fewests_83 ?_
  refine r_istore (ls1 := [(5, (0, ((x3 + 1) + r2))), (4, (0, s0)), (0, (2, 311)), (1, (0, x1)), (2, (0, x2)), (3, (0, x3))]) d_X12_fewests_84 (by decide) rfl ?_
  refine r_iload d_X12_fewests_86 1 rfl ?_
  obtain ⟨h3, h⟩ := h
  refine r_if_eq (tgt := 130) d_X12_fewests_88 (by decide) h3 (fun c4 => ?_) (fun c4 => ?_)
  · replace h := h.1 c4
    refine r_ldcw (x := 100000) d_X12_fewests_130 cst_X12_503 ?_
    refine r_istore (ls1 := [(6, (0, 100000)), (5, (0, ((x3 + 1) + r2))), (4, (0, s0)), (0, (2, 311)), (1, (0, x1)), (2, (0, x2)), (3, (0, x3))]) d_X12_fewests_133 (by decide) rfl ?_
    refine r_iconst d_X12_fewests_135 ?_
    refine r_istore (ls1 := [(7, (0, 0)), (6, (0, 100000)), (5, (0, ((x3 + 1) + r2))), (4, (0, s0)), (0, (2, 311)), (1, (0, x1)), (2, (0, x2)), (3, (0, x3))]) d_X12_fewests_136 (by decide) rfl ?_
    exact Rn.sub [4, 5, 6, 7, 1, 0] rfl h
  · replace h := h.2 c4
    refine r_aload_n d_X12_fewests_91 2 rfl rfl ?_
    refine r_iload_n d_X12_fewests_92 3 rfl rfl ?_
    refine r_iload_n d_X12_fewests_93 5 rfl rfl ?_
    refine r_callV0 (M' := M_X12_asleepAhead) (ci := 12) [(0, x1), (0, x3)] d_X12_fewests_94 cl_X12_500 rfl (Nat.le_of_ble_eq_true rfl) (by decide) rfl (bs_ob bs_12) ?_
    refine Ct.mono h (fun r6 G5 h => ?_)
    show Rn _ M_X12_fewests zN 97 [(5, (0, ((x3 + 1) + r2))), (4, (0, s0)), (0, (2, 311)), (1, (0, x1)), (2, (0, x2)), (3, (0, x3))] [(0, r6)] G5 Q
    refine r_iload d_X12_fewests_97 0 rfl ?_
    refine r_iload_n d_X12_fewests_99 4 rfl rfl ?_
    obtain ⟨h7, h⟩ := h
    obtain ⟨h8, h⟩ := h
    refine r_icmp_ge (tgt := 125) d_X12_fewests_100 (by decide) h7 h8 (fun c9 => ?_) (fun c9 => ?_)
    · replace h := h.1 c9
      refine r_iconst d_X12_fewests_125 ?_
      refine r_iadd d_X12_fewests_126 ?_
      refine r_goto (tgt := 133) d_X12_fewests_127 (by decide) ?_
      refine r_istore (ls1 := [(6, (0, (r6 + 0))), (5, (0, ((x3 + 1) + r2))), (4, (0, s0)), (0, (2, 311)), (1, (0, x1)), (2, (0, x2)), (3, (0, x3))]) d_X12_fewests_133 (by decide) rfl ?_
      refine r_iconst d_X12_fewests_135 ?_
      refine r_istore (ls1 := [(7, (0, 0)), (6, (0, (r6 + 0))), (5, (0, ((x3 + 1) + r2))), (4, (0, s0)), (0, (2, 311)), (1, (0, x1)), (2, (0, x2)), (3, (0, x3))]) d_X12_fewests_136 (by decide) rfl ?_
      exact Rn.sub [4, 5, 6, 7, 1, 0] rfl h
    · replace h := h.2 c9
      refine r_aload_n d_X12_fewests_103 2 rfl rfl ?_
      refine r_iload_n d_X12_fewests_104 3 rfl rfl ?_
      refine r_iload d_X12_fewests_105 0 rfl ?_
      refine r_callV0 (M' := M_X12_asleepAhead) (ci := 12) [(0, x1), (0, ((x3 + 1) + r2))] d_X12_fewests_107 cl_X12_500 rfl (Nat.le_of_ble_eq_true rfl) (by decide) rfl (bs_ob bs_12) ?_
      refine Ct.mono h (fun r11 G10 h => ?_)
      show Rn _ M_X12_fewests zN 110 [(5, (0, ((x3 + 1) + r2))), (4, (0, s0)), (0, (2, 311)), (1, (0, x1)), (2, (0, x2)), (3, (0, x3))] [(0, r11), (0, r6)] G10 Q
      refine r_aload_n d_X12_fewests_110 2 rfl rfl ?_
      refine r_getL (v := 345) 12 50 50 rfl d_X12_fewests_111 fl_X12_111 (by decide) (bs_ob bs_12) (ly_12_50 bs_12).1 (ly_12_50 bs_12).2.1 ?_
      refine r_sipush d_X12_fewests_114 (by decide +kernel) ?_
      refine r_iload d_X12_fewests_117 0 rfl ?_
      refine r_imul d_X12_fewests_119 ?_
      obtain ⟨h12, h⟩ := h
      refine r_iaload d_X12_fewests_120 (ly_12_50 bs_12).2.2 h12 ?_
      refine r_iadd d_X12_fewests_121 ?_
      refine r_goto (tgt := 126) d_X12_fewests_122 (by decide) ?_
      refine r_iadd d_X12_fewests_126 ?_
      refine r_goto (tgt := 133) d_X12_fewests_127 (by decide) ?_
      refine r_istore (ls1 := [(6, (0, (r6 + (r11 + (G10 345 (200 * ((x3 + 1) + r2))))))), (5, (0, ((x3 + 1) + r2))), (4, (0, s0)), (0, (2, 311)), (1, (0, x1)), (2, (0, x2)), (3, (0, x3))]) d_X12_fewests_133 (by decide) rfl ?_
      refine r_iconst d_X12_fewests_135 ?_
      refine r_istore (ls1 := [(7, (0, 0)), (6, (0, (r6 + (r11 + (G10 345 (200 * ((x3 + 1) + r2))))))), (5, (0, ((x3 + 1) + r2))), (4, (0, s0)), (0, (2, 311)), (1, (0, x1)), (2, (0, x2)), (3, (0, x3))]) d_X12_fewests_136 (by decide) rfl ?_
      exact Rn.sub [4, 5, 6, 7, 1, 0] rfl h
set_option maxRecDepth 20000 in
theorem s_X12_fewests_138 {d : Nat} {x1 : Int} {x2 : Int} {x3 : Int} {x6 : Int} {x7 : Int} {G : Mem} {Q : Int → Mem → Prop}  (h : (InR x7) ∧ ((200 ≤ x7) → Rn (d + 1) M_X12_fewests zN 39 [(0, (2, 311)), (1, (0, x1)), (2, (0, x2)), (3, (0, (x3 + (-1))))] [] G Q) ∧ (¬ (200 ≤ x7) → Ct d M_X12_growth NT 0 0 (some lay) [(2, 311), (0, x1)] G (fun r4 G3 => (InR (x7 + r4)) ∧ ((0 ≤ x1 ∧ x1 < 30) ∧ ((InR (min 199 (x7 + r4))) ∧ (InR (G3 318 x1)) ∧ (((min 199 (x7 + r4)) ≤ (G3 318 x1)) → (0 ≤ ((200 * (x3 + 1)) + (min 199 (x7 + r4))) ∧ ((200 * (x3 + 1)) + (min 199 (x7 + r4))) < 14600) ∧ (Rn (d + 1) M_X12_fewests zN 194 [(0, (2, 311)), (1, (0, x1)), (2, (0, x2)), (3, (0, x3)), (6, (0, x6)), (7, (0, x7))] [(0, (G3 345 ((200 * (x3 + 1)) + (min 199 (x7 + r4)))))] G3 Q)) ∧ (¬ ((min 199 (x7 + r4)) ≤ (G3 318 x1)) → Rn (d + 1) M_X12_fewests zN 194 [(0, (2, 311)), (1, (0, x1)), (2, (0, x2)), (3, (0, x3)), (6, (0, x6)), (7, (0, x7))] [(0, 100000)] G3 Q)))))) : Rn (d + 1) M_X12_fewests zN 138 [(0, (2, 311)), (1, (0, x1)), (2, (0, x2)), (3, (0, x3)), (6, (0, x6)), (7, (0, x7))] [] G Q := by
  refine r_iload d_X12_fewests_138 5 rfl ?_
  refine r_sipush d_X12_fewests_140 (by decide +kernel) ?_
  obtain ⟨h1, h⟩ := h
  refine r_icmp_ge (tgt := 253) d_X12_fewests_143 (by decide) h1 ⟨by decide, by decide⟩ (fun c2 => ?_) (fun c2 => ?_)
  · replace h := h.1 c2
    refine r_iinc (ls1 := [(3, (0, (x3 + (-1)))), (0, (2, 311)), (1, (0, x1)), (2, (0, x2)), (6, (0, x6)), (7, (0, x7))]) d_X12_fewests_253 3 rfl (by decide) rfl ?_
    refine r_goto (tgt := 39) d_X12_fewests_256 (by decide) ?_
    exact Rn.sub [1, 2, 3, 0] rfl h
  · replace h := h.2 c2
    refine r_sipush d_X12_fewests_146 (by decide +kernel) ?_
    refine r_iload d_X12_fewests_149 5 rfl ?_
    refine r_aload_n d_X12_fewests_151 0 rfl rfl ?_
    refine r_iload_n d_X12_fewests_152 1 rfl rfl ?_
    refine r_callV0 (M' := M_X12_growth) (ci := 12) [(0, x1)] d_X12_fewests_153 cl_X12_453 rfl (Nat.le_of_ble_eq_true rfl) (by decide) rfl (bs_ob bs_12) ?_
    refine Ct.mono h (fun r4 G3 h => ?_)
    show Rn _ M_X12_fewests zN 156 [(0, (2, 311)), (1, (0, x1)), (2, (0, x2)), (3, (0, x3)), (6, (0, x6)), (7, (0, x7))] [(0, r4), (0, x7), (0, 199)] G3 Q
    refine r_iadd d_X12_fewests_156 ?_
    obtain ⟨h5, h⟩ := h
    refine r_mmin d_X12_fewests_157 ml_X12_456 ⟨by decide, by decide⟩ h5 (Nat.le_of_ble_eq_true rfl) ?_
    refine r_istore (ls1 := [(8, (0, (min 199 (x7 + r4)))), (0, (2, 311)), (1, (0, x1)), (2, (0, x2)), (3, (0, x3)), (6, (0, x6)), (7, (0, x7))]) d_X12_fewests_160 (by decide) rfl ?_
    refine r_iload d_X12_fewests_162 0 rfl ?_
    refine r_aload_n d_X12_fewests_164 1 rfl rfl ?_
    refine r_getL (v := 318) 12 15 15 rfl d_X12_fewests_165 fl_X12_29 (by decide) (bs_ob bs_12) (ly_12_15 bs_12).1 (ly_12_15 bs_12).2.1 ?_
    refine r_iload_n d_X12_fewests_168 2 rfl rfl ?_
    obtain ⟨h6, h⟩ := h
    refine r_iaload d_X12_fewests_169 (ly_12_15 bs_12).2.2 h6 ?_
    obtain ⟨h7, h⟩ := h
    obtain ⟨h8, h⟩ := h
    refine r_icmp_le (tgt := 179) d_X12_fewests_170 (by decide) h7 h8 (fun c9 => ?_) (fun c9 => ?_)
    · replace h := h.1 c9
      refine r_aload_n d_X12_fewests_179 1 rfl rfl ?_
      refine r_getL (v := 345) 12 50 50 rfl d_X12_fewests_180 fl_X12_111 (by decide) (bs_ob bs_12) (ly_12_50 bs_12).1 (ly_12_50 bs_12).2.1 ?_
      refine r_sipush d_X12_fewests_183 (by decide +kernel) ?_
      refine r_iload_n d_X12_fewests_186 4 rfl rfl ?_
      refine r_iconst d_X12_fewests_187 ?_
      refine r_iadd d_X12_fewests_188 ?_
      refine r_imul d_X12_fewests_189 ?_
      refine r_iload d_X12_fewests_190 0 rfl ?_
      refine r_iadd d_X12_fewests_192 ?_
      obtain ⟨h10, h⟩ := h
      refine r_iaload d_X12_fewests_193 (ly_12_50 bs_12).2.2 h10 ?_
      exact Rn.sub [1, 2, 3, 4, 5, 6] rfl h
    · replace h := h.2 c9
      refine r_ldcw (x := 100000) d_X12_fewests_173 cst_X12_503 ?_
      refine r_goto (tgt := 194) d_X12_fewests_176 (by decide) ?_
      exact Rn.sub [1, 2, 3, 4, 5, 6] rfl h
set_option maxRecDepth 20000 in
theorem s_X12_fewests_194 {d : Nat} {x1 : Int} {x2 : Int} {x3 : Int} {x6 : Int} {x7 : Int} {s0 : Int} {G : Mem} {Q : Int → Mem → Prop}  (h : (InR x6) ∧ (InR s0) ∧ ((s0 ≤ x6) → Rn d M_X12_fewests zN 220 [(0, (2, 311)), (1, (0, x1)), (2, (0, x2)), (3, (0, x3)), (6, (0, x6)), (7, (0, x7)), (9, (0, s0))] [(0, 0), (0, ((200 * x3) + x7)), (2, 346)] G Q) ∧ (¬ (s0 ≤ x6) → Rn d M_X12_fewests zN 220 [(0, (2, 311)), (1, (0, x1)), (2, (0, x2)), (3, (0, x3)), (6, (0, x6)), (7, (0, x7)), (9, (0, s0))] [(0, 1), (0, ((200 * x3) + x7)), (2, 346)] G Q)) : Rn d M_X12_fewests zN 194 [(0, (2, 311)), (1, (0, x1)), (2, (0, x2)), (3, (0, x3)), (6, (0, x6)), (7, (0, x7))] [(0, s0)] G Q := by
  refine r_istore (ls1 := [(9, (0, s0)), (0, (2, 311)), (1, (0, x1)), (2, (0, x2)), (3, (0, x3)), (6, (0, x6)), (7, (0, x7))]) d_X12_fewests_194 (by decide) rfl ?_
  refine r_aload_n d_X12_fewests_196 1 rfl rfl ?_
  refine r_getL (v := 346) 12 51 51 rfl d_X12_fewests_197 fl_X12_114 (by decide) (bs_ob bs_12) (ly_12_51 bs_12).1 (ly_12_51 bs_12).2.1 ?_
  refine r_sipush d_X12_fewests_200 (by decide +kernel) ?_
  refine r_iload_n d_X12_fewests_203 4 rfl rfl ?_
  refine r_imul d_X12_fewests_204 ?_
  refine r_iload d_X12_fewests_205 6 rfl ?_
  refine r_iadd d_X12_fewests_207 ?_
  refine r_iload d_X12_fewests_208 5 rfl ?_
  refine r_iload d_X12_fewests_210 0 rfl ?_
  obtain ⟨h1, h⟩ := h
  obtain ⟨h2, h⟩ := h
  refine r_icmp_ge (tgt := 219) d_X12_fewests_212 (by decide) h1 h2 (fun c3 => ?_) (fun c3 => ?_)
  · replace h := h.1 c3
    refine r_iconst d_X12_fewests_219 ?_
    exact Rn.sub [1, 2, 3, 4, 5, 6, 0] rfl h
  · replace h := h.2 c3
    refine r_iconst d_X12_fewests_215 ?_
    refine r_goto (tgt := 220) d_X12_fewests_216 (by decide) ?_
    exact Rn.sub [1, 2, 3, 4, 5, 6, 0] rfl h
set_option maxRecDepth 20000 in
theorem s_X12_fewests_220 {d : Nat} {x1 : Int} {x2 : Int} {x3 : Int} {x6 : Int} {x7 : Int} {x9 : Int} {s0 : Int} {s1 : Int} {G : Mem} {Q : Int → Mem → Prop}  (h : (0 ≤ s1 ∧ s1 < 14600) ∧ (s0 = 0 ∨ s0 = 1) ∧ (∀ G3 : Mem, G3 = st G 346 s1 s0 → (InR x6) ∧ (InR x9) ∧ ((InR (min x6 x9)) ∧ ((0 ≤ ((200 * x3) + x7) ∧ ((200 * x3) + x7) < 14600) ∧ (∀ G8 : Mem, G8 = st G3 345 ((200 * x3) + x7) (min 100000 (min x6 x9)) → Rn (d + 1) M_X12_fewests zN 138 [(0, (2, 311)), (1, (0, x1)), (2, (0, x2)), (3, (0, x3)), (6, (0, x6)), (7, (0, (x7 + 1)))] [] G8 Q))))) : Rn (d + 1) M_X12_fewests zN 220 [(0, (2, 311)), (1, (0, x1)), (2, (0, x2)), (3, (0, x3)), (6, (0, x6)), (7, (0, x7)), (9, (0, x9))] [(0, s0), (0, s1), (2, 346)] G Q := by
  obtain ⟨h1, h⟩ := h
  obtain ⟨h2, h⟩ := h
  obtain ⟨G3, eG3⟩ : ∃ y : Mem, y = st G 346 s1 s0 := ⟨_, rfl⟩
  replace h := h G3 eG3
  refine r_zastore d_X12_fewests_220 (ly_12_51 bs_12).2.2 h1 h2 ?_
  rw [← eG3]
  refine r_aload_n d_X12_fewests_221 0 rfl rfl ?_
  refine r_getL (v := 345) 12 50 50 rfl d_X12_fewests_222 fl_X12_111 (by decide) (bs_ob bs_12) (ly_12_50 bs_12).1 (ly_12_50 bs_12).2.1 ?_
  refine r_sipush d_X12_fewests_225 (by decide +kernel) ?_
  refine r_iload_n d_X12_fewests_228 3 rfl rfl ?_
  refine r_imul d_X12_fewests_229 ?_
  refine r_iload d_X12_fewests_230 5 rfl ?_
  refine r_iadd d_X12_fewests_232 ?_
  refine r_ldcw (x := 100000) d_X12_fewests_233 cst_X12_503 ?_
  refine r_iload d_X12_fewests_236 4 rfl ?_
  refine r_iload d_X12_fewests_238 6 rfl ?_
  obtain ⟨h4, h⟩ := h
  obtain ⟨h5, h⟩ := h
  refine r_mmin d_X12_fewests_240 ml_X12_456 h4 h5 (Nat.le_of_ble_eq_true rfl) ?_
  obtain ⟨h6, h⟩ := h
  refine r_mmin d_X12_fewests_243 ml_X12_456 ⟨by decide, by decide⟩ h6 (Nat.le_of_ble_eq_true rfl) ?_
  obtain ⟨h7, h⟩ := h
  obtain ⟨G8, eG8⟩ : ∃ y : Mem, y = st G3 345 ((200 * x3) + x7) (min 100000 (min x6 x9)) := ⟨_, rfl⟩
  replace h := h G8 eG8
  refine r_iastore d_X12_fewests_246 (ly_12_50 bs_12).2.2 h7 ?_
  rw [← eG8]
  refine r_iinc (ls1 := [(7, (0, (x7 + 1))), (0, (2, 311)), (1, (0, x1)), (2, (0, x2)), (3, (0, x3)), (6, (0, x6)), (9, (0, x9))]) d_X12_fewests_247 5 rfl (by decide) rfl ?_
  refine r_goto (tgt := 138) d_X12_fewests_250 (by decide) ?_
  exact Rn.sub [1, 2, 3, 4, 5, 0] rfl h
theorem d_X12_fewest_0 : decode M_X12_fewest.2.1 0 = .ok (.aload_n 0, 1) := by decide +kernel
theorem d_X12_fewest_1 : decode M_X12_fewest.2.1 1 = .ok (.iconst 0, 1) := by decide +kernel
theorem d_X12_fewest_2 : decode M_X12_fewest.2.1 2 = .ok (.putfield 169, 3) := by decide +kernel
theorem d_X12_fewest_5 : decode M_X12_fewest.2.1 5 = .ok (.aload_n 0, 1) := by decide +kernel
theorem d_X12_fewest_6 : decode M_X12_fewest.2.1 6 = .ok (.iload_n 1, 1) := by decide +kernel
theorem d_X12_fewest_7 : decode M_X12_fewest.2.1 7 = .ok (.invokevirtual 404, 3) := by decide +kernel
theorem d_X12_fewest_10 : decode M_X12_fewest.2.1 10 = .ok (.ifCond .eq 23, 3) := by decide +kernel
theorem d_X12_fewest_13 : decode M_X12_fewest.2.1 13 = .ok (.aload_n 0, 1) := by decide +kernel
theorem d_X12_fewest_14 : decode M_X12_fewest.2.1 14 = .ok (.getfield 102, 3) := by decide +kernel
theorem d_X12_fewest_17 : decode M_X12_fewest.2.1 17 = .ok (.iconst 5, 1) := by decide +kernel
theorem d_X12_fewest_18 : decode M_X12_fewest.2.1 18 = .ok (.iload_n 1, 1) := by decide +kernel
theorem d_X12_fewest_19 : decode M_X12_fewest.2.1 19 = .ok (.iadd, 1) := by decide +kernel
theorem d_X12_fewest_20 : decode M_X12_fewest.2.1 20 = .ok (.iaload, 1) := by decide +kernel
theorem d_X12_fewest_21 : decode M_X12_fewest.2.1 21 = .ok (.ifCond .ne 12, 3) := by decide +kernel
theorem d_X12_fewest_24 : decode M_X12_fewest.2.1 24 = .ok (.iload_n 2, 1) := by decide +kernel
theorem d_X12_fewest_25 : decode M_X12_fewest.2.1 25 = .ok (.iconst 0, 1) := by decide +kernel
theorem d_X12_fewest_26 : decode M_X12_fewest.2.1 26 = .ok (.iconst 1, 1) := by decide +kernel
theorem d_X12_fewest_27 : decode M_X12_fewest.2.1 27 = .ok (.invokestatic 308, 3) := by decide +kernel
theorem d_X12_fewest_30 : decode M_X12_fewest.2.1 30 = .ok (.ifCond .ne 5, 3) := by decide +kernel
theorem d_X12_fewest_33 : decode M_X12_fewest.2.1 33 = .ok (.iconst (-1), 1) := by decide +kernel
theorem d_X12_fewest_34 : decode M_X12_fewest.2.1 34 = .ok (.ireturn, 1) := by decide +kernel
theorem d_X12_fewest_35 : decode M_X12_fewest.2.1 35 = .ok (.aload_n 0, 1) := by decide +kernel
theorem d_X12_fewest_36 : decode M_X12_fewest.2.1 36 = .ok (.iload_n 1, 1) := by decide +kernel
theorem d_X12_fewest_37 : decode M_X12_fewest.2.1 37 = .ok (.invokevirtual 504, 3) := by decide +kernel
theorem d_X12_fewest_40 : decode M_X12_fewest.2.1 40 = .ok (.aload_n 0, 1) := by decide +kernel
theorem d_X12_fewest_41 : decode M_X12_fewest.2.1 41 = .ok (.getfield 102, 3) := by decide +kernel
theorem d_X12_fewest_44 : decode M_X12_fewest.2.1 44 = .ok (.iload_n 1, 1) := by decide +kernel
theorem d_X12_fewest_45 : decode M_X12_fewest.2.1 45 = .ok (.iaload, 1) := by decide +kernel
theorem d_X12_fewest_46 : decode M_X12_fewest.2.1 46 = .ok (.istore_n 3, 1) := by decide +kernel
theorem d_X12_fewest_47 : decode M_X12_fewest.2.1 47 = .ok (.aload_n 0, 1) := by decide +kernel
theorem d_X12_fewest_48 : decode M_X12_fewest.2.1 48 = .ok (.getfield 111, 3) := by decide +kernel
theorem d_X12_fewest_51 : decode M_X12_fewest.2.1 51 = .ok (.sipush 200, 3) := by decide +kernel
theorem d_X12_fewest_54 : decode M_X12_fewest.2.1 54 = .ok (.aload_n 0, 1) := by decide +kernel
theorem d_X12_fewest_55 : decode M_X12_fewest.2.1 55 = .ok (.getfield 102, 3) := by decide +kernel
theorem d_X12_fewest_58 : decode M_X12_fewest.2.1 58 = .ok (.bipush 110, 2) := by decide +kernel
theorem d_X12_fewest_60 : decode M_X12_fewest.2.1 60 = .ok (.iaload, 1) := by decide +kernel
theorem d_X12_fewest_61 : decode M_X12_fewest.2.1 61 = .ok (.imul, 1) := by decide +kernel
theorem d_X12_fewest_62 : decode M_X12_fewest.2.1 62 = .ok (.iload_n 3, 1) := by decide +kernel
theorem d_X12_fewest_63 : decode M_X12_fewest.2.1 63 = .ok (.iadd, 1) := by decide +kernel
theorem d_X12_fewest_64 : decode M_X12_fewest.2.1 64 = .ok (.iaload, 1) := by decide +kernel
theorem d_X12_fewest_65 : decode M_X12_fewest.2.1 65 = .ok (.ldc_w 503, 3) := by decide +kernel
theorem d_X12_fewest_68 : decode M_X12_fewest.2.1 68 = .ok (.if_icmp .lt 5, 3) := by decide +kernel
theorem d_X12_fewest_71 : decode M_X12_fewest.2.1 71 = .ok (.iconst (-1), 1) := by decide +kernel
theorem d_X12_fewest_72 : decode M_X12_fewest.2.1 72 = .ok (.ireturn, 1) := by decide +kernel
theorem d_X12_fewest_73 : decode M_X12_fewest.2.1 73 = .ok (.iload_n 2, 1) := by decide +kernel
theorem d_X12_fewest_74 : decode M_X12_fewest.2.1 74 = .ok (.ifCond .ne 22, 3) := by decide +kernel
theorem d_X12_fewest_77 : decode M_X12_fewest.2.1 77 = .ok (.aload_n 0, 1) := by decide +kernel
theorem d_X12_fewest_78 : decode M_X12_fewest.2.1 78 = .ok (.getfield 111, 3) := by decide +kernel
theorem d_X12_fewest_81 : decode M_X12_fewest.2.1 81 = .ok (.sipush 200, 3) := by decide +kernel
theorem d_X12_fewest_84 : decode M_X12_fewest.2.1 84 = .ok (.aload_n 0, 1) := by decide +kernel
theorem d_X12_fewest_85 : decode M_X12_fewest.2.1 85 = .ok (.getfield 102, 3) := by decide +kernel
theorem d_X12_fewest_88 : decode M_X12_fewest.2.1 88 = .ok (.bipush 110, 2) := by decide +kernel
theorem d_X12_fewest_90 : decode M_X12_fewest.2.1 90 = .ok (.iaload, 1) := by decide +kernel
theorem d_X12_fewest_91 : decode M_X12_fewest.2.1 91 = .ok (.imul, 1) := by decide +kernel
theorem d_X12_fewest_92 : decode M_X12_fewest.2.1 92 = .ok (.iload_n 3, 1) := by decide +kernel
theorem d_X12_fewest_93 : decode M_X12_fewest.2.1 93 = .ok (.iadd, 1) := by decide +kernel
theorem d_X12_fewest_94 : decode M_X12_fewest.2.1 94 = .ok (.iaload, 1) := by decide +kernel
theorem d_X12_fewest_95 : decode M_X12_fewest.2.1 95 = .ok (.ireturn, 1) := by decide +kernel
theorem d_X12_fewest_96 : decode M_X12_fewest.2.1 96 = .ok (.aload_n 0, 1) := by decide +kernel
theorem d_X12_fewest_97 : decode M_X12_fewest.2.1 97 = .ok (.getfield 102, 3) := by decide +kernel
theorem d_X12_fewest_100 : decode M_X12_fewest.2.1 100 = .ok (.bipush 110, 2) := by decide +kernel
theorem d_X12_fewest_102 : decode M_X12_fewest.2.1 102 = .ok (.iaload, 1) := by decide +kernel
theorem d_X12_fewest_103 : decode M_X12_fewest.2.1 103 = .ok (.istore 4, 2) := by decide +kernel
theorem d_X12_fewest_105 : decode M_X12_fewest.2.1 105 = .ok (.iload 4, 2) := by decide +kernel
theorem d_X12_fewest_107 : decode M_X12_fewest.2.1 107 = .ok (.aload_n 0, 1) := by decide +kernel
theorem d_X12_fewest_108 : decode M_X12_fewest.2.1 108 = .ok (.getfield 13, 3) := by decide +kernel
theorem d_X12_fewest_111 : decode M_X12_fewest.2.1 111 = .ok (.iconst 1, 1) := by decide +kernel
theorem d_X12_fewest_112 : decode M_X12_fewest.2.1 112 = .ok (.iaload, 1) := by decide +kernel
theorem d_X12_fewest_113 : decode M_X12_fewest.2.1 113 = .ok (.if_icmp .ge 42, 3) := by decide +kernel
theorem d_X12_fewest_116 : decode M_X12_fewest.2.1 116 = .ok (.aload_n 0, 1) := by decide +kernel
theorem d_X12_fewest_117 : decode M_X12_fewest.2.1 117 = .ok (.getfield 114, 3) := by decide +kernel
theorem d_X12_fewest_120 : decode M_X12_fewest.2.1 120 = .ok (.sipush 200, 3) := by decide +kernel
theorem d_X12_fewest_123 : decode M_X12_fewest.2.1 123 = .ok (.iload 4, 2) := by decide +kernel
theorem d_X12_fewest_125 : decode M_X12_fewest.2.1 125 = .ok (.imul, 1) := by decide +kernel
theorem d_X12_fewest_126 : decode M_X12_fewest.2.1 126 = .ok (.iload_n 3, 1) := by decide +kernel
theorem d_X12_fewest_127 : decode M_X12_fewest.2.1 127 = .ok (.iadd, 1) := by decide +kernel
theorem d_X12_fewest_128 : decode M_X12_fewest.2.1 128 = .ok (.baload, 1) := by decide +kernel
theorem d_X12_fewest_129 : decode M_X12_fewest.2.1 129 = .ok (.ifCond .eq 6, 3) := by decide +kernel
theorem d_X12_fewest_132 : decode M_X12_fewest.2.1 132 = .ok (.iload 4, 2) := by decide +kernel
theorem d_X12_fewest_134 : decode M_X12_fewest.2.1 134 = .ok (.ireturn, 1) := by decide +kernel
theorem d_X12_fewest_135 : decode M_X12_fewest.2.1 135 = .ok (.sipush 199, 3) := by decide +kernel
theorem d_X12_fewest_138 : decode M_X12_fewest.2.1 138 = .ok (.iload_n 3, 1) := by decide +kernel
theorem d_X12_fewest_139 : decode M_X12_fewest.2.1 139 = .ok (.aload_n 0, 1) := by decide +kernel
theorem d_X12_fewest_140 : decode M_X12_fewest.2.1 140 = .ok (.iload_n 1, 1) := by decide +kernel
theorem d_X12_fewest_141 : decode M_X12_fewest.2.1 141 = .ok (.invokevirtual 453, 3) := by decide +kernel
theorem d_X12_fewest_144 : decode M_X12_fewest.2.1 144 = .ok (.iadd, 1) := by decide +kernel
theorem d_X12_fewest_145 : decode M_X12_fewest.2.1 145 = .ok (.invokestatic 456, 3) := by decide +kernel
theorem d_X12_fewest_148 : decode M_X12_fewest.2.1 148 = .ok (.istore_n 3, 1) := by decide +kernel
theorem d_X12_fewest_149 : decode M_X12_fewest.2.1 149 = .ok (.iinc 4 1, 3) := by decide +kernel
theorem d_X12_fewest_152 : decode M_X12_fewest.2.1 152 = .ok (.goto (-47), 3) := by decide +kernel
theorem d_X12_fewest_155 : decode M_X12_fewest.2.1 155 = .ok (.iconst (-1), 1) := by decide +kernel
theorem d_X12_fewest_156 : decode M_X12_fewest.2.1 156 = .ok (.ireturn, 1) := by decide +kernel
set_option maxRecDepth 20000 in
theorem s_X12_fewest_0 {d : Nat} {p0 : Int} {p1 : Int} {G : Mem} {Q : Int → Mem → Prop}  (h : (∀ G1 : Mem, G1 = st G 311 0 0 → Ct d M_X12_isSitter NT 0 0 (some lay) [(2, 311), (0, p0)] G1 (fun r3 G2 => (InR r3) ∧ ((r3 = 0) → Q (-1) G2) ∧ (¬ (r3 = 0) → (0 ≤ (5 + p0) ∧ (5 + p0) < 116) ∧ ((InR (G2 342 (5 + p0))) ∧ (((G2 342 (5 + p0)) ≠ 0) → Q (-1) G2) ∧ (¬ ((G2 342 (5 + p0)) ≠ 0) → Ct d M_X12_within NT 0 0 (some lay) [(0, p1), (0, 0), (0, 1)] G2 (fun r10 G9 => (InR r10) ∧ ((r10 ≠ 0) → Ct d M_X12_fewests NT 0 0 (some lay) [(2, 311), (0, p0)] G9 (fun r14 G13 => (0 ≤ p0 ∧ p0 < 116) ∧ ((0 ≤ ((200 * (G13 342 110)) + (G13 342 p0)) ∧ ((200 * (G13 342 110)) + (G13 342 p0)) < 14600) ∧ ((InR (G13 345 ((200 * (G13 342 110)) + (G13 342 p0)))) ∧ (((G13 345 ((200 * (G13 342 110)) + (G13 342 p0))) < 100000) → (InR p1) ∧ ((p1 ≠ 0) → Rn (d + 1) M_X12_fewest zN 105 [(0, (2, 311)), (1, (0, p0)), (3, (0, (G13 342 p0))), (4, (0, (G13 342 110)))] [] G13 Q) ∧ (¬ (p1 ≠ 0) → Q (G13 345 ((200 * (G13 342 110)) + (G13 342 p0))) G13)) ∧ (¬ ((G13 345 ((200 * (G13 342 110)) + (G13 342 p0))) < 100000) → Q (-1) G13))))) ∧ (¬ (r10 ≠ 0) → Q (-1) G9)))))))) : Rn (d + 1) M_X12_fewest zN 0 [(0, (2, 311)), (1, (0, p0)), (2, (0, p1))] [] G Q := by
  refine r_aload_n d_X12_fewest_0 0 rfl rfl ?_
  refine r_iconst d_X12_fewest_1 ?_
  obtain ⟨G1, eG1⟩ : ∃ y : Mem, y = st G 311 0 0 := ⟨_, rfl⟩
  replace h := h G1 eG1
  refine r_putI 12 0 0 rfl d_X12_fewest_2 fl_X12_169 (by decide) nofin_12_0 (bs_ob bs_12) ?_
  rw [← eG1]
  refine r_aload_n d_X12_fewest_5 0 rfl rfl ?_
  refine r_iload_n d_X12_fewest_6 1 rfl rfl ?_
  refine r_callV0 (M' := M_X12_isSitter) (ci := 12) [(0, p0)] d_X12_fewest_7 cl_X12_404 rfl (Nat.le_of_ble_eq_true rfl) (by decide) rfl (bs_ob bs_12) ?_
  refine Ct.mono h (fun r3 G2 h => ?_)
  show Rn _ M_X12_fewest zN 10 [(0, (2, 311)), (1, (0, p0)), (2, (0, p1))] [(0, r3)] G2 Q
  obtain ⟨h4, h⟩ := h
  refine r_if_eq (tgt := 33) d_X12_fewest_10 (by decide) h4 (fun c5 => ?_) (fun c5 => ?_)
  · replace h := h.1 c5
    refine r_iconst d_X12_fewest_33 ?_
    exact r_ireturn d_X12_fewest_34 rfl ⟨rfl, Nat.le_refl _, Nat.le_refl _⟩ h
  · replace h := h.2 c5
    refine r_aload_n d_X12_fewest_13 0 rfl rfl ?_
    refine r_getL (v := 342) 12 43 43 rfl d_X12_fewest_14 fl_X12_102 (by decide) (bs_ob bs_12) (ly_12_43 bs_12).1 (ly_12_43 bs_12).2.1 ?_
    refine r_iconst d_X12_fewest_17 ?_
    refine r_iload_n d_X12_fewest_18 1 rfl rfl ?_
    refine r_iadd d_X12_fewest_19 ?_
    obtain ⟨h6, h⟩ := h
    refine r_iaload d_X12_fewest_20 (ly_12_43 bs_12).2.2 h6 ?_
    obtain ⟨h7, h⟩ := h
    refine r_if_ne (tgt := 33) d_X12_fewest_21 (by decide) h7 (fun c8 => ?_) (fun c8 => ?_)
    · replace h := h.1 c8
      refine r_iconst d_X12_fewest_33 ?_
      exact r_ireturn d_X12_fewest_34 rfl ⟨rfl, Nat.le_refl _, Nat.le_refl _⟩ h
    · replace h := h.2 c8
      refine r_iload_n d_X12_fewest_24 2 rfl rfl ?_
      refine r_iconst d_X12_fewest_25 ?_
      refine r_iconst d_X12_fewest_26 ?_
      refine r_callS0 (M' := M_X12_within) [(0, p1), (0, 0), (0, 1)] d_X12_fewest_27 cl_X12_308 rfl (Nat.le_of_ble_eq_true rfl) ?_
      refine Ct.mono h (fun r10 G9 h => ?_)
      show Rn _ M_X12_fewest zN 30 [(0, (2, 311)), (1, (0, p0)), (2, (0, p1))] [(0, r10)] G9 Q
      obtain ⟨h11, h⟩ := h
      refine r_if_ne (tgt := 35) d_X12_fewest_30 (by decide) h11 (fun c12 => ?_) (fun c12 => ?_)
      · replace h := h.1 c12
        refine r_aload_n d_X12_fewest_35 0 rfl rfl ?_
        refine r_iload_n d_X12_fewest_36 1 rfl rfl ?_
        refine r_callV0 (M' := M_X12_fewests) (ci := 12) [(0, p0)] d_X12_fewest_37 cl_X12_504 rfl (Nat.le_of_ble_eq_true rfl) (by decide) rfl (bs_ob bs_12) ?_
        refine Ct.mono h (fun r14 G13 h => ?_)
        show Rn _ M_X12_fewest zN 40 [(0, (2, 311)), (1, (0, p0)), (2, (0, p1))] [] G13 Q
        refine r_aload_n d_X12_fewest_40 0 rfl rfl ?_
        refine r_getL (v := 342) 12 43 43 rfl d_X12_fewest_41 fl_X12_102 (by decide) (bs_ob bs_12) (ly_12_43 bs_12).1 (ly_12_43 bs_12).2.1 ?_
        refine r_iload_n d_X12_fewest_44 1 rfl rfl ?_
        obtain ⟨h15, h⟩ := h
        refine r_iaload d_X12_fewest_45 (ly_12_43 bs_12).2.2 h15 ?_
        refine r_istore_n (ls1 := [(3, (0, (G13 342 p0))), (0, (2, 311)), (1, (0, p0)), (2, (0, p1))]) d_X12_fewest_46 rfl (by decide) rfl ?_
        refine r_aload_n d_X12_fewest_47 1 rfl rfl ?_
        refine r_getL (v := 345) 12 50 50 rfl d_X12_fewest_48 fl_X12_111 (by decide) (bs_ob bs_12) (ly_12_50 bs_12).1 (ly_12_50 bs_12).2.1 ?_
        refine r_sipush d_X12_fewest_51 (by decide +kernel) ?_
        refine r_aload_n d_X12_fewest_54 1 rfl rfl ?_
        refine r_getL (v := 342) 12 43 43 rfl d_X12_fewest_55 fl_X12_102 (by decide) (bs_ob bs_12) (ly_12_43 bs_12).1 (ly_12_43 bs_12).2.1 ?_
        refine r_bipush d_X12_fewest_58 (by decide +kernel) ?_
        refine r_iaload d_X12_fewest_60 (ly_12_43 bs_12).2.2 (by decide) ?_
        refine r_imul d_X12_fewest_61 ?_
        refine r_iload_n d_X12_fewest_62 0 rfl rfl ?_
        refine r_iadd d_X12_fewest_63 ?_
        obtain ⟨h16, h⟩ := h
        refine r_iaload d_X12_fewest_64 (ly_12_50 bs_12).2.2 h16 ?_
        refine r_ldcw (x := 100000) d_X12_fewest_65 cst_X12_503 ?_
        obtain ⟨h17, h⟩ := h
        refine r_icmp_lt (tgt := 73) d_X12_fewest_68 (by decide) h17 ⟨by decide, by decide⟩ (fun c18 => ?_) (fun c18 => ?_)
        · replace h := h.1 c18
          refine r_iload_n d_X12_fewest_73 3 rfl rfl ?_
          obtain ⟨h19, h⟩ := h
          refine r_if_ne (tgt := 96) d_X12_fewest_74 (by decide) h19 (fun c20 => ?_) (fun c20 => ?_)
          · replace h := h.1 c20
            refine r_aload_n d_X12_fewest_96 1 rfl rfl ?_
            refine r_getL (v := 342) 12 43 43 rfl d_X12_fewest_97 fl_X12_102 (by decide) (bs_ob bs_12) (ly_12_43 bs_12).1 (ly_12_43 bs_12).2.1 ?_
            refine r_bipush d_X12_fewest_100 (by decide +kernel) ?_
            refine r_iaload d_X12_fewest_102 (ly_12_43 bs_12).2.2 (by decide) ?_
            refine r_istore (ls1 := [(4, (0, (G13 342 110))), (3, (0, (G13 342 p0))), (0, (2, 311)), (1, (0, p0)), (2, (0, p1))]) d_X12_fewest_103 (by decide) rfl ?_
            exact Rn.sub [2, 3, 1, 0] rfl h
          · replace h := h.2 c20
            refine r_aload_n d_X12_fewest_77 1 rfl rfl ?_
            refine r_getL (v := 345) 12 50 50 rfl d_X12_fewest_78 fl_X12_111 (by decide) (bs_ob bs_12) (ly_12_50 bs_12).1 (ly_12_50 bs_12).2.1 ?_
            refine r_sipush d_X12_fewest_81 (by decide +kernel) ?_
            refine r_aload_n d_X12_fewest_84 1 rfl rfl ?_
            refine r_getL (v := 342) 12 43 43 rfl d_X12_fewest_85 fl_X12_102 (by decide) (bs_ob bs_12) (ly_12_43 bs_12).1 (ly_12_43 bs_12).2.1 ?_
            refine r_bipush d_X12_fewest_88 (by decide +kernel) ?_
            refine r_iaload d_X12_fewest_90 (ly_12_43 bs_12).2.2 (by decide) ?_
            refine r_imul d_X12_fewest_91 ?_
            refine r_iload_n d_X12_fewest_92 0 rfl rfl ?_
            refine r_iadd d_X12_fewest_93 ?_
            refine r_iaload d_X12_fewest_94 (ly_12_50 bs_12).2.2 h16 ?_
            exact r_ireturn d_X12_fewest_95 rfl ⟨rfl, Nat.le_refl _, Nat.le_refl _⟩ h
        · replace h := h.2 c18
          refine r_iconst d_X12_fewest_71 ?_
          exact r_ireturn d_X12_fewest_72 rfl ⟨rfl, Nat.le_refl _, Nat.le_refl _⟩ h
      · replace h := h.2 c12
        refine r_iconst d_X12_fewest_33 ?_
        exact r_ireturn d_X12_fewest_34 rfl ⟨rfl, Nat.le_refl _, Nat.le_refl _⟩ h
set_option maxRecDepth 20000 in
theorem s_X12_fewest_105 {d : Nat} {x1 : Int} {x3 : Int} {x4 : Int} {G : Mem} {Q : Int → Mem → Prop}  (h : (InR x4) ∧ (InR (G 313 1)) ∧ (((G 313 1) ≤ x4) → Q (-1) G) ∧ (¬ ((G 313 1) ≤ x4) → (0 ≤ ((200 * x4) + x3) ∧ ((200 * x4) + x3) < 14600) ∧ ((InR (G 346 ((200 * x4) + x3))) ∧ (((G 346 ((200 * x4) + x3)) = 0) → Ct d M_X12_growth NT 0 0 (some lay) [(2, 311), (0, x1)] G (fun r8 G7 => (InR (x3 + r8)) ∧ (Rn (d + 1) M_X12_fewest zN 105 [(0, (2, 311)), (1, (0, x1)), (3, (0, (min 199 (x3 + r8)))), (4, (0, (x4 + 1)))] [] G7 Q))) ∧ (¬ ((G 346 ((200 * x4) + x3)) = 0) → Q x4 G)))) : Rn (d + 1) M_X12_fewest zN 105 [(0, (2, 311)), (1, (0, x1)), (3, (0, x3)), (4, (0, x4))] [] G Q := by
  refine r_iload d_X12_fewest_105 3 rfl ?_
  refine r_aload_n d_X12_fewest_107 0 rfl rfl ?_
  refine r_getL (v := 313) 12 10 10 rfl d_X12_fewest_108 fl_X12_13 (by decide) (bs_ob bs_12) (ly_12_10 bs_12).1 (ly_12_10 bs_12).2.1 ?_
  refine r_iconst d_X12_fewest_111 ?_
  refine r_iaload d_X12_fewest_112 (ly_12_10 bs_12).2.2 (by decide) ?_
  obtain ⟨h1, h⟩ := h
  obtain ⟨h2, h⟩ := h
  refine r_icmp_ge (tgt := 155) d_X12_fewest_113 (by decide) h1 h2 (fun c3 => ?_) (fun c3 => ?_)
  · replace h := h.1 c3
    refine r_iconst d_X12_fewest_155 ?_
    exact r_ireturn d_X12_fewest_156 rfl ⟨rfl, Nat.le_refl _, Nat.le_refl _⟩ h
  · replace h := h.2 c3
    refine r_aload_n d_X12_fewest_116 0 rfl rfl ?_
    refine r_getL (v := 346) 12 51 51 rfl d_X12_fewest_117 fl_X12_114 (by decide) (bs_ob bs_12) (ly_12_51 bs_12).1 (ly_12_51 bs_12).2.1 ?_
    refine r_sipush d_X12_fewest_120 (by decide +kernel) ?_
    refine r_iload d_X12_fewest_123 3 rfl ?_
    refine r_imul d_X12_fewest_125 ?_
    refine r_iload_n d_X12_fewest_126 2 rfl rfl ?_
    refine r_iadd d_X12_fewest_127 ?_
    obtain ⟨h4, h⟩ := h
    refine r_zaload d_X12_fewest_128 (ly_12_51 bs_12).2.2 h4 ?_
    obtain ⟨h5, h⟩ := h
    refine r_if_eq (tgt := 135) d_X12_fewest_129 (by decide) h5 (fun c6 => ?_) (fun c6 => ?_)
    · replace h := h.1 c6
      refine r_sipush d_X12_fewest_135 (by decide +kernel) ?_
      refine r_iload_n d_X12_fewest_138 2 rfl rfl ?_
      refine r_aload_n d_X12_fewest_139 0 rfl rfl ?_
      refine r_iload_n d_X12_fewest_140 1 rfl rfl ?_
      refine r_callV0 (M' := M_X12_growth) (ci := 12) [(0, x1)] d_X12_fewest_141 cl_X12_453 rfl (Nat.le_of_ble_eq_true rfl) (by decide) rfl (bs_ob bs_12) ?_
      refine Ct.mono h (fun r8 G7 h => ?_)
      show Rn _ M_X12_fewest zN 144 [(0, (2, 311)), (1, (0, x1)), (3, (0, x3)), (4, (0, x4))] [(0, r8), (0, x3), (0, 199)] G7 Q
      refine r_iadd d_X12_fewest_144 ?_
      obtain ⟨h9, h⟩ := h
      refine r_mmin d_X12_fewest_145 ml_X12_456 ⟨by decide, by decide⟩ h9 (Nat.le_of_ble_eq_true rfl) ?_
      refine r_istore_n (ls1 := [(3, (0, (min 199 (x3 + r8)))), (0, (2, 311)), (1, (0, x1)), (4, (0, x4))]) d_X12_fewest_148 rfl (by decide) rfl ?_
      refine r_iinc (ls1 := [(4, (0, (x4 + 1))), (3, (0, (min 199 (x3 + r8)))), (0, (2, 311)), (1, (0, x1))]) d_X12_fewest_149 3 rfl (by decide) rfl ?_
      refine r_goto (tgt := 105) d_X12_fewest_152 (by decide) ?_
      exact Rn.sub [2, 3, 1, 0] rfl h
    · replace h := h.2 c6
      refine r_iload d_X12_fewest_132 3 rfl ?_
      exact r_ireturn d_X12_fewest_134 rfl ⟨rfl, Nat.le_refl _, Nat.le_refl _⟩ h
theorem d_X12_before_0 : decode M_X12_before.2.1 0 = .ok (.aload_n 0, 1) := by decide +kernel
theorem d_X12_before_1 : decode M_X12_before.2.1 1 = .ok (.iconst 0, 1) := by decide +kernel
theorem d_X12_before_2 : decode M_X12_before.2.1 2 = .ok (.putfield 169, 3) := by decide +kernel
theorem d_X12_before_5 : decode M_X12_before.2.1 5 = .ok (.aload_n 0, 1) := by decide +kernel
theorem d_X12_before_6 : decode M_X12_before.2.1 6 = .ok (.iload_n 1, 1) := by decide +kernel
theorem d_X12_before_7 : decode M_X12_before.2.1 7 = .ok (.invokevirtual 404, 3) := by decide +kernel
theorem d_X12_before_10 : decode M_X12_before.2.1 10 = .ok (.ifCond .ne 5, 3) := by decide +kernel
theorem d_X12_before_13 : decode M_X12_before.2.1 13 = .ok (.iconst (-1), 1) := by decide +kernel
theorem d_X12_before_14 : decode M_X12_before.2.1 14 = .ok (.ireturn, 1) := by decide +kernel
theorem d_X12_before_15 : decode M_X12_before.2.1 15 = .ok (.iconst (-1), 1) := by decide +kernel
theorem d_X12_before_16 : decode M_X12_before.2.1 16 = .ok (.istore_n 2, 1) := by decide +kernel
theorem d_X12_before_17 : decode M_X12_before.2.1 17 = .ok (.aload_n 0, 1) := by decide +kernel
theorem d_X12_before_18 : decode M_X12_before.2.1 18 = .ok (.getfield 102, 3) := by decide +kernel
theorem d_X12_before_21 : decode M_X12_before.2.1 21 = .ok (.bipush 110, 2) := by decide +kernel
theorem d_X12_before_23 : decode M_X12_before.2.1 23 = .ok (.iaload, 1) := by decide +kernel
theorem d_X12_before_24 : decode M_X12_before.2.1 24 = .ok (.istore_n 3, 1) := by decide +kernel
theorem d_X12_before_25 : decode M_X12_before.2.1 25 = .ok (.iload_n 3, 1) := by decide +kernel
theorem d_X12_before_26 : decode M_X12_before.2.1 26 = .ok (.aload_n 0, 1) := by decide +kernel
theorem d_X12_before_27 : decode M_X12_before.2.1 27 = .ok (.getfield 13, 3) := by decide +kernel
theorem d_X12_before_30 : decode M_X12_before.2.1 30 = .ok (.iconst 1, 1) := by decide +kernel
theorem d_X12_before_31 : decode M_X12_before.2.1 31 = .ok (.iaload, 1) := by decide +kernel
theorem d_X12_before_32 : decode M_X12_before.2.1 32 = .ok (.if_icmp .ge 42, 3) := by decide +kernel
theorem d_X12_before_35 : decode M_X12_before.2.1 35 = .ok (.aload_n 0, 1) := by decide +kernel
theorem d_X12_before_36 : decode M_X12_before.2.1 36 = .ok (.iload_n 3, 1) := by decide +kernel
theorem d_X12_before_37 : decode M_X12_before.2.1 37 = .ok (.invokevirtual 416, 3) := by decide +kernel
theorem d_X12_before_40 : decode M_X12_before.2.1 40 = .ok (.ifCond .ne 28, 3) := by decide +kernel
theorem d_X12_before_43 : decode M_X12_before.2.1 43 = .ok (.aload_n 0, 1) := by decide +kernel
theorem d_X12_before_44 : decode M_X12_before.2.1 44 = .ok (.iload_n 1, 1) := by decide +kernel
theorem d_X12_before_45 : decode M_X12_before.2.1 45 = .ok (.iload_n 3, 1) := by decide +kernel
theorem d_X12_before_46 : decode M_X12_before.2.1 46 = .ok (.aload_n 0, 1) := by decide +kernel
theorem d_X12_before_47 : decode M_X12_before.2.1 47 = .ok (.getfield 102, 3) := by decide +kernel
theorem d_X12_before_50 : decode M_X12_before.2.1 50 = .ok (.bipush 110, 2) := by decide +kernel
theorem d_X12_before_52 : decode M_X12_before.2.1 52 = .ok (.iaload, 1) := by decide +kernel
theorem d_X12_before_53 : decode M_X12_before.2.1 53 = .ok (.isub, 1) := by decide +kernel
theorem d_X12_before_54 : decode M_X12_before.2.1 54 = .ok (.invokevirtual 464, 3) := by decide +kernel
theorem d_X12_before_57 : decode M_X12_before.2.1 57 = .ok (.aload_n 0, 1) := by decide +kernel
theorem d_X12_before_58 : decode M_X12_before.2.1 58 = .ok (.getfield 29, 3) := by decide +kernel
theorem d_X12_before_61 : decode M_X12_before.2.1 61 = .ok (.iload_n 1, 1) := by decide +kernel
theorem d_X12_before_62 : decode M_X12_before.2.1 62 = .ok (.iaload, 1) := by decide +kernel
theorem d_X12_before_63 : decode M_X12_before.2.1 63 = .ok (.if_icmp .gt 5, 3) := by decide +kernel
theorem d_X12_before_66 : decode M_X12_before.2.1 66 = .ok (.iload_n 3, 1) := by decide +kernel
theorem d_X12_before_67 : decode M_X12_before.2.1 67 = .ok (.istore_n 2, 1) := by decide +kernel
theorem d_X12_before_68 : decode M_X12_before.2.1 68 = .ok (.iinc 3 1, 3) := by decide +kernel
theorem d_X12_before_71 : decode M_X12_before.2.1 71 = .ok (.goto (-46), 3) := by decide +kernel
theorem d_X12_before_74 : decode M_X12_before.2.1 74 = .ok (.iload_n 2, 1) := by decide +kernel
theorem d_X12_before_75 : decode M_X12_before.2.1 75 = .ok (.ireturn, 1) := by decide +kernel
set_option maxRecDepth 20000 in
theorem s_X12_before_0 {d : Nat} {p0 : Int} {G : Mem} {Q : Int → Mem → Prop}  (h : (∀ G1 : Mem, G1 = st G 311 0 0 → Ct d M_X12_isSitter NT 0 0 (some lay) [(2, 311), (0, p0)] G1 (fun r3 G2 => (InR r3) ∧ ((r3 ≠ 0) → Rn (d + 1) M_X12_before zN 25 [(0, (2, 311)), (1, (0, p0)), (2, (0, (-1))), (3, (0, (G2 342 110)))] [] G2 Q) ∧ (¬ (r3 ≠ 0) → Q (-1) G2)))) : Rn (d + 1) M_X12_before zN 0 [(0, (2, 311)), (1, (0, p0))] [] G Q := by
  refine r_aload_n d_X12_before_0 0 rfl rfl ?_
  refine r_iconst d_X12_before_1 ?_
  obtain ⟨G1, eG1⟩ : ∃ y : Mem, y = st G 311 0 0 := ⟨_, rfl⟩
  replace h := h G1 eG1
  refine r_putI 12 0 0 rfl d_X12_before_2 fl_X12_169 (by decide) nofin_12_0 (bs_ob bs_12) ?_
  rw [← eG1]
  refine r_aload_n d_X12_before_5 0 rfl rfl ?_
  refine r_iload_n d_X12_before_6 1 rfl rfl ?_
  refine r_callV0 (M' := M_X12_isSitter) (ci := 12) [(0, p0)] d_X12_before_7 cl_X12_404 rfl (Nat.le_of_ble_eq_true rfl) (by decide) rfl (bs_ob bs_12) ?_
  refine Ct.mono h (fun r3 G2 h => ?_)
  show Rn _ M_X12_before zN 10 [(0, (2, 311)), (1, (0, p0))] [(0, r3)] G2 Q
  obtain ⟨h4, h⟩ := h
  refine r_if_ne (tgt := 15) d_X12_before_10 (by decide) h4 (fun c5 => ?_) (fun c5 => ?_)
  · replace h := h.1 c5
    refine r_iconst d_X12_before_15 ?_
    refine r_istore_n (ls1 := [(2, (0, (-1))), (0, (2, 311)), (1, (0, p0))]) d_X12_before_16 rfl (by decide) rfl ?_
    refine r_aload_n d_X12_before_17 1 rfl rfl ?_
    refine r_getL (v := 342) 12 43 43 rfl d_X12_before_18 fl_X12_102 (by decide) (bs_ob bs_12) (ly_12_43 bs_12).1 (ly_12_43 bs_12).2.1 ?_
    refine r_bipush d_X12_before_21 (by decide +kernel) ?_
    refine r_iaload d_X12_before_23 (ly_12_43 bs_12).2.2 (by decide) ?_
    refine r_istore_n (ls1 := [(3, (0, (G2 342 110))), (2, (0, (-1))), (0, (2, 311)), (1, (0, p0))]) d_X12_before_24 rfl (by decide) rfl ?_
    exact Rn.sub [2, 3, 1, 0] rfl h
  · replace h := h.2 c5
    refine r_iconst d_X12_before_13 ?_
    exact r_ireturn d_X12_before_14 rfl ⟨rfl, Nat.le_refl _, Nat.le_refl _⟩ h
set_option maxRecDepth 20000 in
theorem s_X12_before_25 {d : Nat} {x1 : Int} {x2 : Int} {x3 : Int} {G : Mem} {Q : Int → Mem → Prop}  (h : (InR x3) ∧ (InR (G 313 1)) ∧ (((G 313 1) ≤ x3) → Q x2 G) ∧ (¬ ((G 313 1) ≤ x3) → Ct d M_X12_isShut NT 0 0 (some lay) [(2, 311), (0, x3)] G (fun r5 G4 => (InR r5) ∧ ((r5 ≠ 0) → Rn (d + 1) M_X12_before zN 25 [(0, (2, 311)), (1, (0, x1)), (2, (0, x2)), (3, (0, (x3 + 1)))] [] G4 Q) ∧ (¬ (r5 ≠ 0) → Ct d M_X12_needBehind NT 0 0 (some lay) [(2, 311), (0, x1), (0, (x3 - (G4 342 110)))] G4 (fun r9 G8 => (0 ≤ x1 ∧ x1 < 30) ∧ ((InR r9) ∧ (InR (G8 318 x1)) ∧ (((G8 318 x1) < r9) → Rn (d + 1) M_X12_before zN 25 [(0, (2, 311)), (1, (0, x1)), (2, (0, x2)), (3, (0, (x3 + 1)))] [] G8 Q) ∧ (¬ ((G8 318 x1) < r9) → Rn (d + 1) M_X12_before zN 25 [(0, (2, 311)), (1, (0, x1)), (2, (0, x3)), (3, (0, (x3 + 1)))] [] G8 Q))))))) : Rn (d + 1) M_X12_before zN 25 [(0, (2, 311)), (1, (0, x1)), (2, (0, x2)), (3, (0, x3))] [] G Q := by
  refine r_iload_n d_X12_before_25 3 rfl rfl ?_
  refine r_aload_n d_X12_before_26 0 rfl rfl ?_
  refine r_getL (v := 313) 12 10 10 rfl d_X12_before_27 fl_X12_13 (by decide) (bs_ob bs_12) (ly_12_10 bs_12).1 (ly_12_10 bs_12).2.1 ?_
  refine r_iconst d_X12_before_30 ?_
  refine r_iaload d_X12_before_31 (ly_12_10 bs_12).2.2 (by decide) ?_
  obtain ⟨h1, h⟩ := h
  obtain ⟨h2, h⟩ := h
  refine r_icmp_ge (tgt := 74) d_X12_before_32 (by decide) h1 h2 (fun c3 => ?_) (fun c3 => ?_)
  · replace h := h.1 c3
    refine r_iload_n d_X12_before_74 2 rfl rfl ?_
    exact r_ireturn d_X12_before_75 rfl ⟨rfl, Nat.le_refl _, Nat.le_refl _⟩ h
  · replace h := h.2 c3
    refine r_aload_n d_X12_before_35 0 rfl rfl ?_
    refine r_iload_n d_X12_before_36 3 rfl rfl ?_
    refine r_callV0 (M' := M_X12_isShut) (ci := 12) [(0, x3)] d_X12_before_37 cl_X12_416 rfl (Nat.le_of_ble_eq_true rfl) (by decide) rfl (bs_ob bs_12) ?_
    refine Ct.mono h (fun r5 G4 h => ?_)
    show Rn _ M_X12_before zN 40 [(0, (2, 311)), (1, (0, x1)), (2, (0, x2)), (3, (0, x3))] [(0, r5)] G4 Q
    obtain ⟨h6, h⟩ := h
    refine r_if_ne (tgt := 68) d_X12_before_40 (by decide) h6 (fun c7 => ?_) (fun c7 => ?_)
    · replace h := h.1 c7
      refine r_iinc (ls1 := [(3, (0, (x3 + 1))), (0, (2, 311)), (1, (0, x1)), (2, (0, x2))]) d_X12_before_68 3 rfl (by decide) rfl ?_
      refine r_goto (tgt := 25) d_X12_before_71 (by decide) ?_
      exact Rn.sub [1, 2, 3, 0] rfl h
    · replace h := h.2 c7
      refine r_aload_n d_X12_before_43 0 rfl rfl ?_
      refine r_iload_n d_X12_before_44 1 rfl rfl ?_
      refine r_iload_n d_X12_before_45 3 rfl rfl ?_
      refine r_aload_n d_X12_before_46 0 rfl rfl ?_
      refine r_getL (v := 342) 12 43 43 rfl d_X12_before_47 fl_X12_102 (by decide) (bs_ob bs_12) (ly_12_43 bs_12).1 (ly_12_43 bs_12).2.1 ?_
      refine r_bipush d_X12_before_50 (by decide +kernel) ?_
      refine r_iaload d_X12_before_52 (ly_12_43 bs_12).2.2 (by decide) ?_
      refine r_isub d_X12_before_53 ?_
      refine r_callV0 (M' := M_X12_needBehind) (ci := 12) [(0, x1), (0, (x3 - (G4 342 110)))] d_X12_before_54 cl_X12_464 rfl (Nat.le_of_ble_eq_true rfl) (by decide) rfl (bs_ob bs_12) ?_
      refine Ct.mono h (fun r9 G8 h => ?_)
      show Rn _ M_X12_before zN 57 [(0, (2, 311)), (1, (0, x1)), (2, (0, x2)), (3, (0, x3))] [(0, r9)] G8 Q
      refine r_aload_n d_X12_before_57 0 rfl rfl ?_
      refine r_getL (v := 318) 12 15 15 rfl d_X12_before_58 fl_X12_29 (by decide) (bs_ob bs_12) (ly_12_15 bs_12).1 (ly_12_15 bs_12).2.1 ?_
      refine r_iload_n d_X12_before_61 1 rfl rfl ?_
      obtain ⟨h10, h⟩ := h
      refine r_iaload d_X12_before_62 (ly_12_15 bs_12).2.2 h10 ?_
      obtain ⟨h11, h⟩ := h
      obtain ⟨h12, h⟩ := h
      refine r_icmp_gt (tgt := 68) d_X12_before_63 (by decide) h11 h12 (fun c13 => ?_) (fun c13 => ?_)
      · replace h := h.1 c13
        refine r_iinc (ls1 := [(3, (0, (x3 + 1))), (0, (2, 311)), (1, (0, x1)), (2, (0, x2))]) d_X12_before_68 3 rfl (by decide) rfl ?_
        refine r_goto (tgt := 25) d_X12_before_71 (by decide) ?_
        exact Rn.sub [1, 2, 3, 0] rfl h
      · replace h := h.2 c13
        refine r_iload_n d_X12_before_66 3 rfl rfl ?_
        refine r_istore_n (ls1 := [(2, (0, x3)), (0, (2, 311)), (1, (0, x1)), (3, (0, x3))]) d_X12_before_67 rfl (by decide) rfl ?_
        refine r_iinc (ls1 := [(3, (0, (x3 + 1))), (2, (0, x3)), (0, (2, 311)), (1, (0, x1))]) d_X12_before_68 3 rfl (by decide) rfl ?_
        refine r_goto (tgt := 25) d_X12_before_71 (by decide) ?_
        exact Rn.sub [2, 3, 1, 0] rfl h
theorem d_X12_standing_0 : decode M_X12_standing.2.1 0 = .ok (.aload_n 0, 1) := by decide +kernel
theorem d_X12_standing_1 : decode M_X12_standing.2.1 1 = .ok (.iconst 0, 1) := by decide +kernel
theorem d_X12_standing_2 : decode M_X12_standing.2.1 2 = .ok (.putfield 169, 3) := by decide +kernel
theorem d_X12_standing_5 : decode M_X12_standing.2.1 5 = .ok (.aload_n 0, 1) := by decide +kernel
theorem d_X12_standing_6 : decode M_X12_standing.2.1 6 = .ok (.iload_n 1, 1) := by decide +kernel
theorem d_X12_standing_7 : decode M_X12_standing.2.1 7 = .ok (.invokevirtual 404, 3) := by decide +kernel
theorem d_X12_standing_10 : decode M_X12_standing.2.1 10 = .ok (.ifCond .eq 15, 3) := by decide +kernel
theorem d_X12_standing_13 : decode M_X12_standing.2.1 13 = .ok (.aload_n 0, 1) := by decide +kernel
theorem d_X12_standing_14 : decode M_X12_standing.2.1 14 = .ok (.getfield 102, 3) := by decide +kernel
theorem d_X12_standing_17 : decode M_X12_standing.2.1 17 = .ok (.iconst 5, 1) := by decide +kernel
theorem d_X12_standing_18 : decode M_X12_standing.2.1 18 = .ok (.iload_n 1, 1) := by decide +kernel
theorem d_X12_standing_19 : decode M_X12_standing.2.1 19 = .ok (.iadd, 1) := by decide +kernel
theorem d_X12_standing_20 : decode M_X12_standing.2.1 20 = .ok (.iaload, 1) := by decide +kernel
theorem d_X12_standing_21 : decode M_X12_standing.2.1 21 = .ok (.iconst (-1), 1) := by decide +kernel
theorem d_X12_standing_22 : decode M_X12_standing.2.1 22 = .ok (.if_icmp .eq 5, 3) := by decide +kernel
theorem d_X12_standing_25 : decode M_X12_standing.2.1 25 = .ok (.iconst (-1), 1) := by decide +kernel
theorem d_X12_standing_26 : decode M_X12_standing.2.1 26 = .ok (.ireturn, 1) := by decide +kernel
theorem d_X12_standing_27 : decode M_X12_standing.2.1 27 = .ok (.iconst (-1), 1) := by decide +kernel
theorem d_X12_standing_28 : decode M_X12_standing.2.1 28 = .ok (.istore_n 2, 1) := by decide +kernel
theorem d_X12_standing_29 : decode M_X12_standing.2.1 29 = .ok (.iconst 0, 1) := by decide +kernel
theorem d_X12_standing_30 : decode M_X12_standing.2.1 30 = .ok (.istore_n 3, 1) := by decide +kernel
theorem d_X12_standing_31 : decode M_X12_standing.2.1 31 = .ok (.iconst 0, 1) := by decide +kernel
theorem d_X12_standing_32 : decode M_X12_standing.2.1 32 = .ok (.istore 4, 2) := by decide +kernel
theorem d_X12_standing_34 : decode M_X12_standing.2.1 34 = .ok (.iload 4, 2) := by decide +kernel
theorem d_X12_standing_36 : decode M_X12_standing.2.1 36 = .ok (.bipush 13, 2) := by decide +kernel
theorem d_X12_standing_38 : decode M_X12_standing.2.1 38 = .ok (.if_icmp .ge 85, 3) := by decide +kernel
theorem d_X12_standing_41 : decode M_X12_standing.2.1 41 = .ok (.aload_n 0, 1) := by decide +kernel
theorem d_X12_standing_42 : decode M_X12_standing.2.1 42 = .ok (.aload_n 0, 1) := by decide +kernel
theorem d_X12_standing_43 : decode M_X12_standing.2.1 43 = .ok (.getfield 102, 3) := by decide +kernel
theorem d_X12_standing_46 : decode M_X12_standing.2.1 46 = .ok (.bipush 110, 2) := by decide +kernel
theorem d_X12_standing_48 : decode M_X12_standing.2.1 48 = .ok (.iaload, 1) := by decide +kernel
theorem d_X12_standing_49 : decode M_X12_standing.2.1 49 = .ok (.iload 4, 2) := by decide +kernel
theorem d_X12_standing_51 : decode M_X12_standing.2.1 51 = .ok (.iadd, 1) := by decide +kernel
theorem d_X12_standing_52 : decode M_X12_standing.2.1 52 = .ok (.invokevirtual 416, 3) := by decide +kernel
theorem d_X12_standing_55 : decode M_X12_standing.2.1 55 = .ok (.ifCond .eq 6, 3) := by decide +kernel
theorem d_X12_standing_58 : decode M_X12_standing.2.1 58 = .ok (.goto 59, 3) := by decide +kernel
theorem d_X12_standing_61 : decode M_X12_standing.2.1 61 = .ok (.aload_n 0, 1) := by decide +kernel
theorem d_X12_standing_62 : decode M_X12_standing.2.1 62 = .ok (.iload_n 1, 1) := by decide +kernel
theorem d_X12_standing_63 : decode M_X12_standing.2.1 63 = .ok (.aload_n 0, 1) := by decide +kernel
theorem d_X12_standing_64 : decode M_X12_standing.2.1 64 = .ok (.getfield 102, 3) := by decide +kernel
theorem d_X12_standing_67 : decode M_X12_standing.2.1 67 = .ok (.bipush 110, 2) := by decide +kernel
theorem d_X12_standing_69 : decode M_X12_standing.2.1 69 = .ok (.iaload, 1) := by decide +kernel
theorem d_X12_standing_70 : decode M_X12_standing.2.1 70 = .ok (.iload 4, 2) := by decide +kernel
theorem d_X12_standing_72 : decode M_X12_standing.2.1 72 = .ok (.iadd, 1) := by decide +kernel
theorem d_X12_standing_73 : decode M_X12_standing.2.1 73 = .ok (.invokevirtual 492, 3) := by decide +kernel
theorem d_X12_standing_76 : decode M_X12_standing.2.1 76 = .ok (.pop, 1) := by decide +kernel
theorem d_X12_standing_77 : decode M_X12_standing.2.1 77 = .ok (.sipush 10000, 3) := by decide +kernel
theorem d_X12_standing_80 : decode M_X12_standing.2.1 80 = .ok (.iload 4, 2) := by decide +kernel
theorem d_X12_standing_82 : decode M_X12_standing.2.1 82 = .ok (.imul, 1) := by decide +kernel
theorem d_X12_standing_83 : decode M_X12_standing.2.1 83 = .ok (.aload_n 0, 1) := by decide +kernel
theorem d_X12_standing_84 : decode M_X12_standing.2.1 84 = .ok (.getfield 13, 3) := by decide +kernel
theorem d_X12_standing_87 : decode M_X12_standing.2.1 87 = .ok (.bipush 6, 2) := by decide +kernel
theorem d_X12_standing_89 : decode M_X12_standing.2.1 89 = .ok (.iaload, 1) := by decide +kernel
theorem d_X12_standing_90 : decode M_X12_standing.2.1 90 = .ok (.imul, 1) := by decide +kernel
theorem d_X12_standing_91 : decode M_X12_standing.2.1 91 = .ok (.aload_n 0, 1) := by decide +kernel
theorem d_X12_standing_92 : decode M_X12_standing.2.1 92 = .ok (.getfield 479, 3) := by decide +kernel
theorem d_X12_standing_95 : decode M_X12_standing.2.1 95 = .ok (.iadd, 1) := by decide +kernel
theorem d_X12_standing_96 : decode M_X12_standing.2.1 96 = .ok (.istore 5, 2) := by decide +kernel
theorem d_X12_standing_98 : decode M_X12_standing.2.1 98 = .ok (.iload_n 2, 1) := by decide +kernel
theorem d_X12_standing_99 : decode M_X12_standing.2.1 99 = .ok (.ifCond .lt 12, 3) := by decide +kernel
theorem d_X12_standing_102 : decode M_X12_standing.2.1 102 = .ok (.iload 5, 2) := by decide +kernel
theorem d_X12_standing_104 : decode M_X12_standing.2.1 104 = .ok (.iload_n 3, 1) := by decide +kernel
theorem d_X12_standing_105 : decode M_X12_standing.2.1 105 = .ok (.if_icmp .lt 6, 3) := by decide +kernel
theorem d_X12_standing_108 : decode M_X12_standing.2.1 108 = .ok (.goto 9, 3) := by decide +kernel
theorem d_X12_standing_111 : decode M_X12_standing.2.1 111 = .ok (.iload 4, 2) := by decide +kernel
theorem d_X12_standing_113 : decode M_X12_standing.2.1 113 = .ok (.istore_n 2, 1) := by decide +kernel
theorem d_X12_standing_114 : decode M_X12_standing.2.1 114 = .ok (.iload 5, 2) := by decide +kernel
theorem d_X12_standing_116 : decode M_X12_standing.2.1 116 = .ok (.istore_n 3, 1) := by decide +kernel
theorem d_X12_standing_117 : decode M_X12_standing.2.1 117 = .ok (.iinc 4 1, 3) := by decide +kernel
theorem d_X12_standing_120 : decode M_X12_standing.2.1 120 = .ok (.goto (-86), 3) := by decide +kernel
theorem d_X12_standing_123 : decode M_X12_standing.2.1 123 = .ok (.iload_n 2, 1) := by decide +kernel
theorem d_X12_standing_124 : decode M_X12_standing.2.1 124 = .ok (.ireturn, 1) := by decide +kernel
set_option maxRecDepth 20000 in
theorem s_X12_standing_0 {d : Nat} {p0 : Int} {G : Mem} {Q : Int → Mem → Prop}  (h : (∀ G1 : Mem, G1 = st G 311 0 0 → Ct d M_X12_isSitter NT 0 0 (some lay) [(2, 311), (0, p0)] G1 (fun r3 G2 => (InR r3) ∧ ((r3 = 0) → Q (-1) G2) ∧ (¬ (r3 = 0) → (0 ≤ (5 + p0) ∧ (5 + p0) < 116) ∧ ((InR (G2 342 (5 + p0))) ∧ (((G2 342 (5 + p0)) = (-1)) → Rn (d + 1) M_X12_standing zN 34 [(0, (2, 311)), (1, (0, p0)), (2, (0, (-1))), (3, (0, 0)), (4, (0, 0))] [] G2 Q) ∧ (¬ ((G2 342 (5 + p0)) = (-1)) → Q (-1) G2)))))) : Rn (d + 1) M_X12_standing zN 0 [(0, (2, 311)), (1, (0, p0))] [] G Q := by
  refine r_aload_n d_X12_standing_0 0 rfl rfl ?_
  refine r_iconst d_X12_standing_1 ?_
  obtain ⟨G1, eG1⟩ : ∃ y : Mem, y = st G 311 0 0 := ⟨_, rfl⟩
  replace h := h G1 eG1
  refine r_putI 12 0 0 rfl d_X12_standing_2 fl_X12_169 (by decide) nofin_12_0 (bs_ob bs_12) ?_
  rw [← eG1]
  refine r_aload_n d_X12_standing_5 0 rfl rfl ?_
  refine r_iload_n d_X12_standing_6 1 rfl rfl ?_
  refine r_callV0 (M' := M_X12_isSitter) (ci := 12) [(0, p0)] d_X12_standing_7 cl_X12_404 rfl (Nat.le_of_ble_eq_true rfl) (by decide) rfl (bs_ob bs_12) ?_
  refine Ct.mono h (fun r3 G2 h => ?_)
  show Rn _ M_X12_standing zN 10 [(0, (2, 311)), (1, (0, p0))] [(0, r3)] G2 Q
  obtain ⟨h4, h⟩ := h
  refine r_if_eq (tgt := 25) d_X12_standing_10 (by decide) h4 (fun c5 => ?_) (fun c5 => ?_)
  · replace h := h.1 c5
    refine r_iconst d_X12_standing_25 ?_
    exact r_ireturn d_X12_standing_26 rfl ⟨rfl, Nat.le_refl _, Nat.le_refl _⟩ h
  · replace h := h.2 c5
    refine r_aload_n d_X12_standing_13 0 rfl rfl ?_
    refine r_getL (v := 342) 12 43 43 rfl d_X12_standing_14 fl_X12_102 (by decide) (bs_ob bs_12) (ly_12_43 bs_12).1 (ly_12_43 bs_12).2.1 ?_
    refine r_iconst d_X12_standing_17 ?_
    refine r_iload_n d_X12_standing_18 1 rfl rfl ?_
    refine r_iadd d_X12_standing_19 ?_
    obtain ⟨h6, h⟩ := h
    refine r_iaload d_X12_standing_20 (ly_12_43 bs_12).2.2 h6 ?_
    refine r_iconst d_X12_standing_21 ?_
    obtain ⟨h7, h⟩ := h
    refine r_icmp_eq (tgt := 27) d_X12_standing_22 (by decide) h7 ⟨by decide, by decide⟩ (fun c8 => ?_) (fun c8 => ?_)
    · replace h := h.1 c8
      refine r_iconst d_X12_standing_27 ?_
      refine r_istore_n (ls1 := [(2, (0, (-1))), (0, (2, 311)), (1, (0, p0))]) d_X12_standing_28 rfl (by decide) rfl ?_
      refine r_iconst d_X12_standing_29 ?_
      refine r_istore_n (ls1 := [(3, (0, 0)), (2, (0, (-1))), (0, (2, 311)), (1, (0, p0))]) d_X12_standing_30 rfl (by decide) rfl ?_
      refine r_iconst d_X12_standing_31 ?_
      refine r_istore (ls1 := [(4, (0, 0)), (3, (0, 0)), (2, (0, (-1))), (0, (2, 311)), (1, (0, p0))]) d_X12_standing_32 (by decide) rfl ?_
      exact Rn.sub [3, 4, 2, 1, 0] rfl h
    · replace h := h.2 c8
      refine r_iconst d_X12_standing_25 ?_
      exact r_ireturn d_X12_standing_26 rfl ⟨rfl, Nat.le_refl _, Nat.le_refl _⟩ h
set_option maxRecDepth 20000 in
theorem s_X12_standing_34 {d : Nat} {x1 : Int} {x2 : Int} {x3 : Int} {x4 : Int} {G : Mem} {Q : Int → Mem → Prop}  (h : (InR x4) ∧ ((13 ≤ x4) → Q x2 G) ∧ (¬ (13 ≤ x4) → Ct d M_X12_isShut NT 0 0 (some lay) [(2, 311), (0, ((G 342 110) + x4))] G (fun r4 G3 => (InR r4) ∧ ((r4 = 0) → Ct d M_X12_bestWays NT 0 0 (some lay) [(2, 311), (0, x1), (0, ((G3 342 110) + x4))] G3 (fun r8 G7 => (InR x2) ∧ ((x2 < 0) → Rn (d + 1) M_X12_standing zN 34 [(0, (2, 311)), (1, (0, x1)), (2, (0, x4)), (3, (0, (((10000 * x4) * (G7 313 6)) + (G7 311 49)))), (4, (0, (x4 + 1)))] [] G7 Q) ∧ (¬ (x2 < 0) → (InR (((10000 * x4) * (G7 313 6)) + (G7 311 49))) ∧ (InR x3) ∧ (((((10000 * x4) * (G7 313 6)) + (G7 311 49)) < x3) → Rn (d + 1) M_X12_standing zN 34 [(0, (2, 311)), (1, (0, x1)), (2, (0, x4)), (3, (0, (((10000 * x4) * (G7 313 6)) + (G7 311 49)))), (4, (0, (x4 + 1)))] [] G7 Q) ∧ (¬ ((((10000 * x4) * (G7 313 6)) + (G7 311 49)) < x3) → Rn (d + 1) M_X12_standing zN 34 [(0, (2, 311)), (1, (0, x1)), (2, (0, x2)), (3, (0, x3)), (4, (0, (x4 + 1)))] [] G7 Q)))) ∧ (¬ (r4 = 0) → Rn (d + 1) M_X12_standing zN 34 [(0, (2, 311)), (1, (0, x1)), (2, (0, x2)), (3, (0, x3)), (4, (0, (x4 + 1)))] [] G3 Q)))) : Rn (d + 1) M_X12_standing zN 34 [(0, (2, 311)), (1, (0, x1)), (2, (0, x2)), (3, (0, x3)), (4, (0, x4))] [] G Q := by
  refine r_iload d_X12_standing_34 4 rfl ?_
  refine r_bipush d_X12_standing_36 (by decide +kernel) ?_
  obtain ⟨h1, h⟩ := h
  refine r_icmp_ge (tgt := 123) d_X12_standing_38 (by decide) h1 ⟨by decide, by decide⟩ (fun c2 => ?_) (fun c2 => ?_)
  · replace h := h.1 c2
    refine r_iload_n d_X12_standing_123 2 rfl rfl ?_
    exact r_ireturn d_X12_standing_124 rfl ⟨rfl, Nat.le_refl _, Nat.le_refl _⟩ h
  · replace h := h.2 c2
    refine r_aload_n d_X12_standing_41 0 rfl rfl ?_
    refine r_aload_n d_X12_standing_42 0 rfl rfl ?_
    refine r_getL (v := 342) 12 43 43 rfl d_X12_standing_43 fl_X12_102 (by decide) (bs_ob bs_12) (ly_12_43 bs_12).1 (ly_12_43 bs_12).2.1 ?_
    refine r_bipush d_X12_standing_46 (by decide +kernel) ?_
    refine r_iaload d_X12_standing_48 (ly_12_43 bs_12).2.2 (by decide) ?_
    refine r_iload d_X12_standing_49 4 rfl ?_
    refine r_iadd d_X12_standing_51 ?_
    refine r_callV0 (M' := M_X12_isShut) (ci := 12) [(0, ((G 342 110) + x4))] d_X12_standing_52 cl_X12_416 rfl (Nat.le_of_ble_eq_true rfl) (by decide) rfl (bs_ob bs_12) ?_
    refine Ct.mono h (fun r4 G3 h => ?_)
    show Rn _ M_X12_standing zN 55 [(0, (2, 311)), (1, (0, x1)), (2, (0, x2)), (3, (0, x3)), (4, (0, x4))] [(0, r4)] G3 Q
    obtain ⟨h5, h⟩ := h
    refine r_if_eq (tgt := 61) d_X12_standing_55 (by decide) h5 (fun c6 => ?_) (fun c6 => ?_)
    · replace h := h.1 c6
      refine r_aload_n d_X12_standing_61 0 rfl rfl ?_
      refine r_iload_n d_X12_standing_62 1 rfl rfl ?_
      refine r_aload_n d_X12_standing_63 0 rfl rfl ?_
      refine r_getL (v := 342) 12 43 43 rfl d_X12_standing_64 fl_X12_102 (by decide) (bs_ob bs_12) (ly_12_43 bs_12).1 (ly_12_43 bs_12).2.1 ?_
      refine r_bipush d_X12_standing_67 (by decide +kernel) ?_
      refine r_iaload d_X12_standing_69 (ly_12_43 bs_12).2.2 (by decide) ?_
      refine r_iload d_X12_standing_70 4 rfl ?_
      refine r_iadd d_X12_standing_72 ?_
      refine r_callV0 (M' := M_X12_bestWays) (ci := 12) [(0, x1), (0, ((G3 342 110) + x4))] d_X12_standing_73 cl_X12_492 rfl (Nat.le_of_ble_eq_true rfl) (by decide) rfl (bs_ob bs_12) ?_
      refine Ct.mono h (fun r8 G7 h => ?_)
      show Rn _ M_X12_standing zN 76 [(0, (2, 311)), (1, (0, x1)), (2, (0, x2)), (3, (0, x3)), (4, (0, x4))] [(0, r8)] G7 Q
      refine r_pop 0 rfl (by decide) d_X12_standing_76 ?_
      refine r_sipush d_X12_standing_77 (by decide +kernel) ?_
      refine r_iload d_X12_standing_80 4 rfl ?_
      refine r_imul d_X12_standing_82 ?_
      refine r_aload_n d_X12_standing_83 0 rfl rfl ?_
      refine r_getL (v := 313) 12 10 10 rfl d_X12_standing_84 fl_X12_13 (by decide) (bs_ob bs_12) (ly_12_10 bs_12).1 (ly_12_10 bs_12).2.1 ?_
      refine r_bipush d_X12_standing_87 (by decide +kernel) ?_
      refine r_iaload d_X12_standing_89 (ly_12_10 bs_12).2.2 (by decide) ?_
      refine r_imul d_X12_standing_90 ?_
      refine r_aload_n d_X12_standing_91 0 rfl rfl ?_
      refine r_getI 12 49 49 rfl d_X12_standing_92 fl_X12_479 (by decide) (bs_ob bs_12) ?_
      refine r_iadd d_X12_standing_95 ?_
      refine r_istore (ls1 := [(5, (0, (((10000 * x4) * (G7 313 6)) + (G7 311 49)))), (0, (2, 311)), (1, (0, x1)), (2, (0, x2)), (3, (0, x3)), (4, (0, x4))]) d_X12_standing_96 (by decide) rfl ?_
      refine r_iload_n d_X12_standing_98 3 rfl rfl ?_
      obtain ⟨h9, h⟩ := h
      refine r_if_lt (tgt := 111) d_X12_standing_99 (by decide) h9 (fun c10 => ?_) (fun c10 => ?_)
      · replace h := h.1 c10
        refine r_iload d_X12_standing_111 5 rfl ?_
        refine r_istore_n (ls1 := [(2, (0, x4)), (5, (0, (((10000 * x4) * (G7 313 6)) + (G7 311 49)))), (0, (2, 311)), (1, (0, x1)), (3, (0, x3)), (4, (0, x4))]) d_X12_standing_113 rfl (by decide) rfl ?_
        refine r_iload d_X12_standing_114 1 rfl ?_
        refine r_istore_n (ls1 := [(3, (0, (((10000 * x4) * (G7 313 6)) + (G7 311 49)))), (2, (0, x4)), (5, (0, (((10000 * x4) * (G7 313 6)) + (G7 311 49)))), (0, (2, 311)), (1, (0, x1)), (4, (0, x4))]) d_X12_standing_116 rfl (by decide) rfl ?_
        refine r_iinc (ls1 := [(4, (0, (x4 + 1))), (3, (0, (((10000 * x4) * (G7 313 6)) + (G7 311 49)))), (2, (0, x4)), (5, (0, (((10000 * x4) * (G7 313 6)) + (G7 311 49)))), (0, (2, 311)), (1, (0, x1))]) d_X12_standing_117 5 rfl (by decide) rfl ?_
        refine r_goto (tgt := 34) d_X12_standing_120 (by decide) ?_
        exact Rn.sub [4, 5, 2, 1, 0] rfl h
      · replace h := h.2 c10
        refine r_iload d_X12_standing_102 0 rfl ?_
        refine r_iload_n d_X12_standing_104 4 rfl rfl ?_
        obtain ⟨h11, h⟩ := h
        obtain ⟨h12, h⟩ := h
        refine r_icmp_lt (tgt := 111) d_X12_standing_105 (by decide) h11 h12 (fun c13 => ?_) (fun c13 => ?_)
        · replace h := h.1 c13
          refine r_iload d_X12_standing_111 5 rfl ?_
          refine r_istore_n (ls1 := [(2, (0, x4)), (5, (0, (((10000 * x4) * (G7 313 6)) + (G7 311 49)))), (0, (2, 311)), (1, (0, x1)), (3, (0, x3)), (4, (0, x4))]) d_X12_standing_113 rfl (by decide) rfl ?_
          refine r_iload d_X12_standing_114 1 rfl ?_
          refine r_istore_n (ls1 := [(3, (0, (((10000 * x4) * (G7 313 6)) + (G7 311 49)))), (2, (0, x4)), (5, (0, (((10000 * x4) * (G7 313 6)) + (G7 311 49)))), (0, (2, 311)), (1, (0, x1)), (4, (0, x4))]) d_X12_standing_116 rfl (by decide) rfl ?_
          refine r_iinc (ls1 := [(4, (0, (x4 + 1))), (3, (0, (((10000 * x4) * (G7 313 6)) + (G7 311 49)))), (2, (0, x4)), (5, (0, (((10000 * x4) * (G7 313 6)) + (G7 311 49)))), (0, (2, 311)), (1, (0, x1))]) d_X12_standing_117 5 rfl (by decide) rfl ?_
          refine r_goto (tgt := 34) d_X12_standing_120 (by decide) ?_
          exact Rn.sub [4, 5, 2, 1, 0] rfl h
        · replace h := h.2 c13
          refine r_goto (tgt := 117) d_X12_standing_108 (by decide) ?_
          refine r_iinc (ls1 := [(4, (0, (x4 + 1))), (5, (0, (((10000 * x4) * (G7 313 6)) + (G7 311 49)))), (0, (2, 311)), (1, (0, x1)), (2, (0, x2)), (3, (0, x3))]) d_X12_standing_117 5 rfl (by decide) rfl ?_
          refine r_goto (tgt := 34) d_X12_standing_120 (by decide) ?_
          exact Rn.sub [2, 3, 4, 5, 0] rfl h
    · replace h := h.2 c6
      refine r_goto (tgt := 117) d_X12_standing_58 (by decide) ?_
      refine r_iinc (ls1 := [(4, (0, (x4 + 1))), (0, (2, 311)), (1, (0, x1)), (2, (0, x2)), (3, (0, x3))]) d_X12_standing_117 4 rfl (by decide) rfl ?_
      refine r_goto (tgt := 34) d_X12_standing_120 (by decide) ?_
      exact Rn.sub [1, 2, 3, 4, 0] rfl h
theorem d_X12_draws_0 : decode M_X12_draws.2.1 0 = .ok (.aload_n 0, 1) := by decide +kernel
theorem d_X12_draws_1 : decode M_X12_draws.2.1 1 = .ok (.aload_n 0, 1) := by decide +kernel
theorem d_X12_draws_2 : decode M_X12_draws.2.1 2 = .ok (.getfield 507, 3) := by decide +kernel
theorem d_X12_draws_5 : decode M_X12_draws.2.1 5 = .ok (.ldc2_w 510, 3) := by decide +kernel
theorem d_X12_draws_8 : decode M_X12_draws.2.1 8 = .ok (.lmul, 1) := by decide +kernel
theorem d_X12_draws_9 : decode M_X12_draws.2.1 9 = .ok (.ldc2_w 512, 3) := by decide +kernel
theorem d_X12_draws_12 : decode M_X12_draws.2.1 12 = .ok (.ladd, 1) := by decide +kernel
theorem d_X12_draws_13 : decode M_X12_draws.2.1 13 = .ok (.ldc2_w 514, 3) := by decide +kernel
theorem d_X12_draws_16 : decode M_X12_draws.2.1 16 = .ok (.lrem, 1) := by decide +kernel
theorem d_X12_draws_17 : decode M_X12_draws.2.1 17 = .ok (.putfield 507, 3) := by decide +kernel
theorem d_X12_draws_20 : decode M_X12_draws.2.1 20 = .ok (.aload_n 0, 1) := by decide +kernel
theorem d_X12_draws_21 : decode M_X12_draws.2.1 21 = .ok (.getfield 507, 3) := by decide +kernel
theorem d_X12_draws_24 : decode M_X12_draws.2.1 24 = .ok (.ldc2_w 516, 3) := by decide +kernel
theorem d_X12_draws_27 : decode M_X12_draws.2.1 27 = .ok (.ldiv, 1) := by decide +kernel
theorem d_X12_draws_28 : decode M_X12_draws.2.1 28 = .ok (.iload_n 1, 1) := by decide +kernel
theorem d_X12_draws_29 : decode M_X12_draws.2.1 29 = .ok (.i2l, 1) := by decide +kernel
theorem d_X12_draws_30 : decode M_X12_draws.2.1 30 = .ok (.lrem, 1) := by decide +kernel
theorem d_X12_draws_31 : decode M_X12_draws.2.1 31 = .ok (.l2i, 1) := by decide +kernel
theorem d_X12_draws_32 : decode M_X12_draws.2.1 32 = .ok (.ireturn, 1) := by decide +kernel
set_option maxRecDepth 20000 in
theorem s_X12_draws_0 {d : Nat} {p0 : Int} {G : Mem} {Q : Int → Mem → Prop}  (h : (InL (((G 311 68) * 1103515245) + 12345)) ∧ ((∀ G2 : Mem, G2 = st G 311 68 (Int.tmod (((G 311 68) * 1103515245) + 12345) 2147483648) → (InL (G2 311 68)) ∧ ((InR p0) ∧ ((InL (Int.tdiv (G2 311 68) 65536)) ∧ (0 < p0 ∧ InL p0) ∧ (Q (Int.tmod (Int.tdiv (G2 311 68) 65536) p0) G2)))))) : Rn d M_X12_draws zN 0 [(0, (2, 311)), (1, (0, p0))] [] G Q := by
  refine r_aload_n d_X12_draws_0 0 rfl rfl ?_
  refine r_aload_n d_X12_draws_1 0 rfl rfl ?_
  refine r_getJ 12 68 68 rfl d_X12_draws_2 fl_X12_507 (by decide) (bs_ob bs_12) ?_
  refine r_ldc2 (x := 1103515245) d_X12_draws_5 cst_X12_510 ?_
  refine r_lmul d_X12_draws_8 ?_
  refine r_ldc2 (x := 12345) d_X12_draws_9 cst_X12_512 ?_
  refine r_ladd d_X12_draws_12 ?_
  refine r_ldc2 (x := 2147483648) d_X12_draws_13 cst_X12_514 ?_
  obtain ⟨h1, h⟩ := h
  refine r_lrem d_X12_draws_16 h1 ⟨by decide, ⟨by decide, by decide⟩⟩ ?_
  obtain ⟨G2, eG2⟩ : ∃ y : Mem, y = st G 311 68 (Int.tmod (((G 311 68) * 1103515245) + 12345) 2147483648) := ⟨_, rfl⟩
  replace h := h G2 eG2
  refine r_putJ 12 68 68 rfl d_X12_draws_17 fl_X12_507 (by decide) nofin_12_68 (bs_ob bs_12) ?_
  rw [← eG2]
  refine r_aload_n d_X12_draws_20 0 rfl rfl ?_
  refine r_getJ 12 68 68 rfl d_X12_draws_21 fl_X12_507 (by decide) (bs_ob bs_12) ?_
  refine r_ldc2 (x := 65536) d_X12_draws_24 cst_X12_516 ?_
  obtain ⟨h3, h⟩ := h
  refine r_ldiv d_X12_draws_27 h3 ⟨by decide, ⟨by decide, by decide⟩⟩ ?_
  refine r_iload_n d_X12_draws_28 1 rfl rfl ?_
  obtain ⟨h4, h⟩ := h
  refine r_i2l d_X12_draws_29 h4 ?_
  obtain ⟨h5, h⟩ := h
  obtain ⟨h6, h⟩ := h
  refine r_lrem d_X12_draws_30 h5 h6 ?_
  refine r_l2i d_X12_draws_31 ?_
  exact r_ireturn d_X12_draws_32 rfl ⟨rfl, Nat.le_refl _, Nat.le_refl _⟩ h
theorem d_X12_seatsAll_0 : decode M_X12_seatsAll.2.1 0 = .ok (.iconst 0, 1) := by decide +kernel
theorem d_X12_seatsAll_1 : decode M_X12_seatsAll.2.1 1 = .ok (.istore_n 1, 1) := by decide +kernel
theorem d_X12_seatsAll_2 : decode M_X12_seatsAll.2.1 2 = .ok (.iload_n 1, 1) := by decide +kernel
theorem d_X12_seatsAll_3 : decode M_X12_seatsAll.2.1 3 = .ok (.iconst 5, 1) := by decide +kernel
theorem d_X12_seatsAll_4 : decode M_X12_seatsAll.2.1 4 = .ok (.if_icmp .ge 16, 3) := by decide +kernel
theorem d_X12_seatsAll_7 : decode M_X12_seatsAll.2.1 7 = .ok (.aload_n 0, 1) := by decide +kernel
theorem d_X12_seatsAll_8 : decode M_X12_seatsAll.2.1 8 = .ok (.getfield 126, 3) := by decide +kernel
theorem d_X12_seatsAll_11 : decode M_X12_seatsAll.2.1 11 = .ok (.iload_n 1, 1) := by decide +kernel
theorem d_X12_seatsAll_12 : decode M_X12_seatsAll.2.1 12 = .ok (.iconst (-1), 1) := by decide +kernel
theorem d_X12_seatsAll_13 : decode M_X12_seatsAll.2.1 13 = .ok (.iastore, 1) := by decide +kernel
theorem d_X12_seatsAll_14 : decode M_X12_seatsAll.2.1 14 = .ok (.iinc 1 1, 3) := by decide +kernel
theorem d_X12_seatsAll_17 : decode M_X12_seatsAll.2.1 17 = .ok (.goto (-15), 3) := by decide +kernel
theorem d_X12_seatsAll_20 : decode M_X12_seatsAll.2.1 20 = .ok (.iconst 0, 1) := by decide +kernel
theorem d_X12_seatsAll_21 : decode M_X12_seatsAll.2.1 21 = .ok (.istore_n 1, 1) := by decide +kernel
theorem d_X12_seatsAll_22 : decode M_X12_seatsAll.2.1 22 = .ok (.iload_n 1, 1) := by decide +kernel
theorem d_X12_seatsAll_23 : decode M_X12_seatsAll.2.1 23 = .ok (.aload_n 0, 1) := by decide +kernel
theorem d_X12_seatsAll_24 : decode M_X12_seatsAll.2.1 24 = .ok (.getfield 13, 3) := by decide +kernel
theorem d_X12_seatsAll_27 : decode M_X12_seatsAll.2.1 27 = .ok (.bipush 8, 2) := by decide +kernel
theorem d_X12_seatsAll_29 : decode M_X12_seatsAll.2.1 29 = .ok (.iaload, 1) := by decide +kernel
theorem d_X12_seatsAll_30 : decode M_X12_seatsAll.2.1 30 = .ok (.if_icmp .ge 33, 3) := by decide +kernel
theorem d_X12_seatsAll_33 : decode M_X12_seatsAll.2.1 33 = .ok (.aload_n 0, 1) := by decide +kernel
theorem d_X12_seatsAll_34 : decode M_X12_seatsAll.2.1 34 = .ok (.getfield 123, 3) := by decide +kernel
theorem d_X12_seatsAll_37 : decode M_X12_seatsAll.2.1 37 = .ok (.iload_n 1, 1) := by decide +kernel
theorem d_X12_seatsAll_38 : decode M_X12_seatsAll.2.1 38 = .ok (.aload_n 0, 1) := by decide +kernel
theorem d_X12_seatsAll_39 : decode M_X12_seatsAll.2.1 39 = .ok (.getfield 23, 3) := by decide +kernel
theorem d_X12_seatsAll_42 : decode M_X12_seatsAll.2.1 42 = .ok (.iload_n 1, 1) := by decide +kernel
theorem d_X12_seatsAll_43 : decode M_X12_seatsAll.2.1 43 = .ok (.iaload, 1) := by decide +kernel
theorem d_X12_seatsAll_44 : decode M_X12_seatsAll.2.1 44 = .ok (.iastore, 1) := by decide +kernel
theorem d_X12_seatsAll_45 : decode M_X12_seatsAll.2.1 45 = .ok (.aload_n 0, 1) := by decide +kernel
theorem d_X12_seatsAll_46 : decode M_X12_seatsAll.2.1 46 = .ok (.getfield 126, 3) := by decide +kernel
theorem d_X12_seatsAll_49 : decode M_X12_seatsAll.2.1 49 = .ok (.aload_n 0, 1) := by decide +kernel
theorem d_X12_seatsAll_50 : decode M_X12_seatsAll.2.1 50 = .ok (.getfield 23, 3) := by decide +kernel
theorem d_X12_seatsAll_53 : decode M_X12_seatsAll.2.1 53 = .ok (.iload_n 1, 1) := by decide +kernel
theorem d_X12_seatsAll_54 : decode M_X12_seatsAll.2.1 54 = .ok (.iaload, 1) := by decide +kernel
theorem d_X12_seatsAll_55 : decode M_X12_seatsAll.2.1 55 = .ok (.iload_n 1, 1) := by decide +kernel
theorem d_X12_seatsAll_56 : decode M_X12_seatsAll.2.1 56 = .ok (.iastore, 1) := by decide +kernel
theorem d_X12_seatsAll_57 : decode M_X12_seatsAll.2.1 57 = .ok (.iinc 1 1, 3) := by decide +kernel
theorem d_X12_seatsAll_60 : decode M_X12_seatsAll.2.1 60 = .ok (.goto (-38), 3) := by decide +kernel
theorem d_X12_seatsAll_63 : decode M_X12_seatsAll.2.1 63 = .ok (.aload_n 0, 1) := by decide +kernel
theorem d_X12_seatsAll_64 : decode M_X12_seatsAll.2.1 64 = .ok (.iconst (-1), 1) := by decide +kernel
theorem d_X12_seatsAll_65 : decode M_X12_seatsAll.2.1 65 = .ok (.putfield 518, 3) := by decide +kernel
theorem d_X12_seatsAll_68 : decode M_X12_seatsAll.2.1 68 = .ok (.aload_n 0, 1) := by decide +kernel
theorem d_X12_seatsAll_69 : decode M_X12_seatsAll.2.1 69 = .ok (.iconst 0, 1) := by decide +kernel
theorem d_X12_seatsAll_70 : decode M_X12_seatsAll.2.1 70 = .ok (.putfield 521, 3) := by decide +kernel
theorem d_X12_seatsAll_73 : decode M_X12_seatsAll.2.1 73 = .ok (.return_, 1) := by decide +kernel
set_option maxRecDepth 20000 in
theorem s_X12_seatsAll_0 {d : Nat}  {G : Mem} {Q : Int → Mem → Prop}  (h : Rn d M_X12_seatsAll zN 2 [(0, (2, 311)), (1, (0, 0))] [] G Q) : Rn d M_X12_seatsAll zN 0 [(0, (2, 311))] [] G Q := by
  refine r_iconst d_X12_seatsAll_0 ?_
  refine r_istore_n (ls1 := [(1, (0, 0)), (0, (2, 311))]) d_X12_seatsAll_1 rfl (by decide) rfl ?_
  exact Rn.sub [1, 0] rfl h
set_option maxRecDepth 20000 in
theorem s_X12_seatsAll_2 {d : Nat} {x1 : Int} {G : Mem} {Q : Int → Mem → Prop}  (h : (InR x1) ∧ ((5 ≤ x1) → Rn d M_X12_seatsAll zN 22 [(0, (2, 311)), (1, (0, 0))] [] G Q) ∧ (¬ (5 ≤ x1) → (0 ≤ x1 ∧ x1 < 5) ∧ (∀ G4 : Mem, G4 = st G 350 x1 (-1) → Rn d M_X12_seatsAll zN 2 [(0, (2, 311)), (1, (0, (x1 + 1)))] [] G4 Q))) : Rn d M_X12_seatsAll zN 2 [(0, (2, 311)), (1, (0, x1))] [] G Q := by
  refine r_iload_n d_X12_seatsAll_2 1 rfl rfl ?_
  refine r_iconst d_X12_seatsAll_3 ?_
  obtain ⟨h1, h⟩ := h
  refine r_icmp_ge (tgt := 20) d_X12_seatsAll_4 (by decide) h1 ⟨by decide, by decide⟩ (fun c2 => ?_) (fun c2 => ?_)
  · replace h := h.1 c2
    refine r_iconst d_X12_seatsAll_20 ?_
    refine r_istore_n (ls1 := [(1, (0, 0)), (0, (2, 311))]) d_X12_seatsAll_21 rfl (by decide) rfl ?_
    exact Rn.sub [1, 0] rfl h
  · replace h := h.2 c2
    refine r_aload_n d_X12_seatsAll_7 0 rfl rfl ?_
    refine r_getL (v := 350) 12 55 55 rfl d_X12_seatsAll_8 fl_X12_126 (by decide) (bs_ob bs_12) (ly_12_55 bs_12).1 (ly_12_55 bs_12).2.1 ?_
    refine r_iload_n d_X12_seatsAll_11 1 rfl rfl ?_
    refine r_iconst d_X12_seatsAll_12 ?_
    obtain ⟨h3, h⟩ := h
    obtain ⟨G4, eG4⟩ : ∃ y : Mem, y = st G 350 x1 (-1) := ⟨_, rfl⟩
    replace h := h G4 eG4
    refine r_iastore d_X12_seatsAll_13 (ly_12_55 bs_12).2.2 h3 ?_
    rw [← eG4]
    refine r_iinc (ls1 := [(1, (0, (x1 + 1))), (0, (2, 311))]) d_X12_seatsAll_14 1 rfl (by decide) rfl ?_
    refine r_goto (tgt := 2) d_X12_seatsAll_17 (by decide) ?_
    exact Rn.sub [1, 0] rfl h
set_option maxRecDepth 20000 in
theorem s_X12_seatsAll_22 {d : Nat} {x1 : Int} {G : Mem} {Q : Int → Mem → Prop}  (h : (InR x1) ∧ (InR (G 313 8)) ∧ (((G 313 8) ≤ x1) → (∀ G4 : Mem, G4 = st G 311 66 (-1) → (∀ G5 : Mem, G5 = st G4 311 67 0 → Q 0 G5))) ∧ (¬ ((G 313 8) ≤ x1) → (0 ≤ x1 ∧ x1 < 30) ∧ ((0 ≤ x1 ∧ x1 < 5) ∧ (∀ G8 : Mem, G8 = st G 349 x1 (G 316 x1) → (0 ≤ (G8 316 x1) ∧ (G8 316 x1) < 5) ∧ (∀ G10 : Mem, G10 = st G8 350 (G8 316 x1) x1 → Rn d M_X12_seatsAll zN 22 [(0, (2, 311)), (1, (0, (x1 + 1)))] [] G10 Q))))) : Rn d M_X12_seatsAll zN 22 [(0, (2, 311)), (1, (0, x1))] [] G Q := by
  refine r_iload_n d_X12_seatsAll_22 1 rfl rfl ?_
  refine r_aload_n d_X12_seatsAll_23 0 rfl rfl ?_
  refine r_getL (v := 313) 12 10 10 rfl d_X12_seatsAll_24 fl_X12_13 (by decide) (bs_ob bs_12) (ly_12_10 bs_12).1 (ly_12_10 bs_12).2.1 ?_
  refine r_bipush d_X12_seatsAll_27 (by decide +kernel) ?_
  refine r_iaload d_X12_seatsAll_29 (ly_12_10 bs_12).2.2 (by decide) ?_
  obtain ⟨h1, h⟩ := h
  obtain ⟨h2, h⟩ := h
  refine r_icmp_ge (tgt := 63) d_X12_seatsAll_30 (by decide) h1 h2 (fun c3 => ?_) (fun c3 => ?_)
  · replace h := h.1 c3
    refine r_aload_n d_X12_seatsAll_63 0 rfl rfl ?_
    refine r_iconst d_X12_seatsAll_64 ?_
    obtain ⟨G4, eG4⟩ : ∃ y : Mem, y = st G 311 66 (-1) := ⟨_, rfl⟩
    replace h := h G4 eG4
    refine r_putI 12 66 66 rfl d_X12_seatsAll_65 fl_X12_518 (by decide) nofin_12_66 (bs_ob bs_12) ?_
    rw [← eG4]
    refine r_aload_n d_X12_seatsAll_68 0 rfl rfl ?_
    refine r_iconst d_X12_seatsAll_69 ?_
    obtain ⟨G5, eG5⟩ : ∃ y : Mem, y = st G4 311 67 0 := ⟨_, rfl⟩
    replace h := h G5 eG5
    refine r_putZ 12 67 67 rfl d_X12_seatsAll_70 fl_X12_521 (by decide) nofin_12_67 (bs_ob bs_12) (by decide) ?_
    rw [← eG5]
    exact r_ret d_X12_seatsAll_73 rfl ⟨rfl, Nat.le_refl _, Nat.le_refl _⟩ h
  · replace h := h.2 c3
    refine r_aload_n d_X12_seatsAll_33 0 rfl rfl ?_
    refine r_getL (v := 349) 12 54 54 rfl d_X12_seatsAll_34 fl_X12_123 (by decide) (bs_ob bs_12) (ly_12_54 bs_12).1 (ly_12_54 bs_12).2.1 ?_
    refine r_iload_n d_X12_seatsAll_37 1 rfl rfl ?_
    refine r_aload_n d_X12_seatsAll_38 0 rfl rfl ?_
    refine r_getL (v := 316) 12 13 13 rfl d_X12_seatsAll_39 fl_X12_23 (by decide) (bs_ob bs_12) (ly_12_13 bs_12).1 (ly_12_13 bs_12).2.1 ?_
    refine r_iload_n d_X12_seatsAll_42 1 rfl rfl ?_
    obtain ⟨h6, h⟩ := h
    refine r_iaload d_X12_seatsAll_43 (ly_12_13 bs_12).2.2 h6 ?_
    obtain ⟨h7, h⟩ := h
    obtain ⟨G8, eG8⟩ : ∃ y : Mem, y = st G 349 x1 (G 316 x1) := ⟨_, rfl⟩
    replace h := h G8 eG8
    refine r_iastore d_X12_seatsAll_44 (ly_12_54 bs_12).2.2 h7 ?_
    rw [← eG8]
    refine r_aload_n d_X12_seatsAll_45 0 rfl rfl ?_
    refine r_getL (v := 350) 12 55 55 rfl d_X12_seatsAll_46 fl_X12_126 (by decide) (bs_ob bs_12) (ly_12_55 bs_12).1 (ly_12_55 bs_12).2.1 ?_
    refine r_aload_n d_X12_seatsAll_49 0 rfl rfl ?_
    refine r_getL (v := 316) 12 13 13 rfl d_X12_seatsAll_50 fl_X12_23 (by decide) (bs_ob bs_12) (ly_12_13 bs_12).1 (ly_12_13 bs_12).2.1 ?_
    refine r_iload_n d_X12_seatsAll_53 1 rfl rfl ?_
    refine r_iaload d_X12_seatsAll_54 (ly_12_13 bs_12).2.2 h6 ?_
    refine r_iload_n d_X12_seatsAll_55 1 rfl rfl ?_
    obtain ⟨h9, h⟩ := h
    obtain ⟨G10, eG10⟩ : ∃ y : Mem, y = st G8 350 (G8 316 x1) x1 := ⟨_, rfl⟩
    replace h := h G10 eG10
    refine r_iastore d_X12_seatsAll_56 (ly_12_55 bs_12).2.2 h9 ?_
    rw [← eG10]
    refine r_iinc (ls1 := [(1, (0, (x1 + 1))), (0, (2, 311))]) d_X12_seatsAll_57 1 rfl (by decide) rfl ?_
    refine r_goto (tgt := 22) d_X12_seatsAll_60 (by decide) ?_
    exact Rn.sub [1, 0] rfl h
theorem d_X12_sleepsAt_0 : decode M_X12_sleepsAt.2.1 0 = .ok (.aload_n 0, 1) := by decide +kernel
theorem d_X12_sleepsAt_1 : decode M_X12_sleepsAt.2.1 1 = .ok (.getfield 132, 3) := by decide +kernel
theorem d_X12_sleepsAt_4 : decode M_X12_sleepsAt.2.1 4 = .ok (.iload_n 1, 1) := by decide +kernel
theorem d_X12_sleepsAt_5 : decode M_X12_sleepsAt.2.1 5 = .ok (.iaload, 1) := by decide +kernel
theorem d_X12_sleepsAt_6 : decode M_X12_sleepsAt.2.1 6 = .ok (.ifCond .ge 48, 3) := by decide +kernel
theorem d_X12_sleepsAt_9 : decode M_X12_sleepsAt.2.1 9 = .ok (.iload_n 2, 1) := by decide +kernel
theorem d_X12_sleepsAt_10 : decode M_X12_sleepsAt.2.1 10 = .ok (.aload_n 0, 1) := by decide +kernel
theorem d_X12_sleepsAt_11 : decode M_X12_sleepsAt.2.1 11 = .ok (.getfield 41, 3) := by decide +kernel
theorem d_X12_sleepsAt_14 : decode M_X12_sleepsAt.2.1 14 = .ok (.iload_n 1, 1) := by decide +kernel
theorem d_X12_sleepsAt_15 : decode M_X12_sleepsAt.2.1 15 = .ok (.iaload, 1) := by decide +kernel
theorem d_X12_sleepsAt_16 : decode M_X12_sleepsAt.2.1 16 = .ok (.if_icmp .lt 38, 3) := by decide +kernel
theorem d_X12_sleepsAt_19 : decode M_X12_sleepsAt.2.1 19 = .ok (.iload_n 2, 1) := by decide +kernel
theorem d_X12_sleepsAt_20 : decode M_X12_sleepsAt.2.1 20 = .ok (.aload_n 0, 1) := by decide +kernel
theorem d_X12_sleepsAt_21 : decode M_X12_sleepsAt.2.1 21 = .ok (.getfield 44, 3) := by decide +kernel
theorem d_X12_sleepsAt_24 : decode M_X12_sleepsAt.2.1 24 = .ok (.iload_n 1, 1) := by decide +kernel
theorem d_X12_sleepsAt_25 : decode M_X12_sleepsAt.2.1 25 = .ok (.iaload, 1) := by decide +kernel
theorem d_X12_sleepsAt_26 : decode M_X12_sleepsAt.2.1 26 = .ok (.if_icmp .ge 28, 3) := by decide +kernel
theorem d_X12_sleepsAt_29 : decode M_X12_sleepsAt.2.1 29 = .ok (.aload_n 0, 1) := by decide +kernel
theorem d_X12_sleepsAt_30 : decode M_X12_sleepsAt.2.1 30 = .ok (.getfield 135, 3) := by decide +kernel
theorem d_X12_sleepsAt_33 : decode M_X12_sleepsAt.2.1 33 = .ok (.iload_n 1, 1) := by decide +kernel
theorem d_X12_sleepsAt_34 : decode M_X12_sleepsAt.2.1 34 = .ok (.iaload, 1) := by decide +kernel
theorem d_X12_sleepsAt_35 : decode M_X12_sleepsAt.2.1 35 = .ok (.ifCond .lt 15, 3) := by decide +kernel
theorem d_X12_sleepsAt_38 : decode M_X12_sleepsAt.2.1 38 = .ok (.iload_n 2, 1) := by decide +kernel
theorem d_X12_sleepsAt_39 : decode M_X12_sleepsAt.2.1 39 = .ok (.aload_n 0, 1) := by decide +kernel
theorem d_X12_sleepsAt_40 : decode M_X12_sleepsAt.2.1 40 = .ok (.getfield 135, 3) := by decide +kernel
theorem d_X12_sleepsAt_43 : decode M_X12_sleepsAt.2.1 43 = .ok (.iload_n 1, 1) := by decide +kernel
theorem d_X12_sleepsAt_44 : decode M_X12_sleepsAt.2.1 44 = .ok (.iaload, 1) := by decide +kernel
theorem d_X12_sleepsAt_45 : decode M_X12_sleepsAt.2.1 45 = .ok (.isub, 1) := by decide +kernel
theorem d_X12_sleepsAt_46 : decode M_X12_sleepsAt.2.1 46 = .ok (.iconst 3, 1) := by decide +kernel
theorem d_X12_sleepsAt_47 : decode M_X12_sleepsAt.2.1 47 = .ok (.if_icmp .le 7, 3) := by decide +kernel
theorem d_X12_sleepsAt_50 : decode M_X12_sleepsAt.2.1 50 = .ok (.iconst 1, 1) := by decide +kernel
theorem d_X12_sleepsAt_51 : decode M_X12_sleepsAt.2.1 51 = .ok (.goto 4, 3) := by decide +kernel
theorem d_X12_sleepsAt_54 : decode M_X12_sleepsAt.2.1 54 = .ok (.iconst 0, 1) := by decide +kernel
theorem d_X12_sleepsAt_55 : decode M_X12_sleepsAt.2.1 55 = .ok (.ireturn, 1) := by decide +kernel
set_option maxRecDepth 20000 in
theorem s_X12_sleepsAt_0 {d : Nat} {p0 : Int} {p1 : Int} {G : Mem} {Q : Int → Mem → Prop}  (h : (0 ≤ p0 ∧ p0 < 5) ∧ ((InR (G 352 p0)) ∧ ((0 ≤ (G 352 p0)) → Q 0 G) ∧ (¬ (0 ≤ (G 352 p0)) → (0 ≤ p0 ∧ p0 < 30) ∧ ((InR p1) ∧ (InR (G 322 p0)) ∧ ((p1 < (G 322 p0)) → Q 0 G) ∧ (¬ (p1 < (G 322 p0)) → (InR (G 323 p0)) ∧ (((G 323 p0) ≤ p1) → Q 0 G) ∧ (¬ ((G 323 p0) ≤ p1) → (InR (G 353 p0)) ∧ (((G 353 p0) < 0) → Q 1 G) ∧ (¬ ((G 353 p0) < 0) → (InR (p1 - (G 353 p0))) ∧ (((p1 - (G 353 p0)) ≤ 3) → Q 0 G) ∧ (¬ ((p1 - (G 353 p0)) ≤ 3) → Q 1 G)))))))) : Rn d M_X12_sleepsAt zN 0 [(0, (2, 311)), (1, (0, p0)), (2, (0, p1))] [] G Q := by
  refine r_aload_n d_X12_sleepsAt_0 0 rfl rfl ?_
  refine r_getL (v := 352) 12 57 57 rfl d_X12_sleepsAt_1 fl_X12_132 (by decide) (bs_ob bs_12) (ly_12_57 bs_12).1 (ly_12_57 bs_12).2.1 ?_
  refine r_iload_n d_X12_sleepsAt_4 1 rfl rfl ?_
  obtain ⟨h1, h⟩ := h
  refine r_iaload d_X12_sleepsAt_5 (ly_12_57 bs_12).2.2 h1 ?_
  obtain ⟨h2, h⟩ := h
  refine r_if_ge (tgt := 54) d_X12_sleepsAt_6 (by decide) h2 (fun c3 => ?_) (fun c3 => ?_)
  · replace h := h.1 c3
    refine r_iconst d_X12_sleepsAt_54 ?_
    exact r_zreturn d_X12_sleepsAt_55 rfl ⟨rfl, Nat.le_refl _, Nat.le_refl _⟩ (by decide) h
  · replace h := h.2 c3
    refine r_iload_n d_X12_sleepsAt_9 2 rfl rfl ?_
    refine r_aload_n d_X12_sleepsAt_10 0 rfl rfl ?_
    refine r_getL (v := 322) 12 19 19 rfl d_X12_sleepsAt_11 fl_X12_41 (by decide) (bs_ob bs_12) (ly_12_19 bs_12).1 (ly_12_19 bs_12).2.1 ?_
    refine r_iload_n d_X12_sleepsAt_14 1 rfl rfl ?_
    obtain ⟨h4, h⟩ := h
    refine r_iaload d_X12_sleepsAt_15 (ly_12_19 bs_12).2.2 h4 ?_
    obtain ⟨h5, h⟩ := h
    obtain ⟨h6, h⟩ := h
    refine r_icmp_lt (tgt := 54) d_X12_sleepsAt_16 (by decide) h5 h6 (fun c7 => ?_) (fun c7 => ?_)
    · replace h := h.1 c7
      refine r_iconst d_X12_sleepsAt_54 ?_
      exact r_zreturn d_X12_sleepsAt_55 rfl ⟨rfl, Nat.le_refl _, Nat.le_refl _⟩ (by decide) h
    · replace h := h.2 c7
      refine r_iload_n d_X12_sleepsAt_19 2 rfl rfl ?_
      refine r_aload_n d_X12_sleepsAt_20 0 rfl rfl ?_
      refine r_getL (v := 323) 12 20 20 rfl d_X12_sleepsAt_21 fl_X12_44 (by decide) (bs_ob bs_12) (ly_12_20 bs_12).1 (ly_12_20 bs_12).2.1 ?_
      refine r_iload_n d_X12_sleepsAt_24 1 rfl rfl ?_
      refine r_iaload d_X12_sleepsAt_25 (ly_12_20 bs_12).2.2 h4 ?_
      obtain ⟨h8, h⟩ := h
      refine r_icmp_ge (tgt := 54) d_X12_sleepsAt_26 (by decide) h5 h8 (fun c9 => ?_) (fun c9 => ?_)
      · replace h := h.1 c9
        refine r_iconst d_X12_sleepsAt_54 ?_
        exact r_zreturn d_X12_sleepsAt_55 rfl ⟨rfl, Nat.le_refl _, Nat.le_refl _⟩ (by decide) h
      · replace h := h.2 c9
        refine r_aload_n d_X12_sleepsAt_29 0 rfl rfl ?_
        refine r_getL (v := 353) 12 58 58 rfl d_X12_sleepsAt_30 fl_X12_135 (by decide) (bs_ob bs_12) (ly_12_58 bs_12).1 (ly_12_58 bs_12).2.1 ?_
        refine r_iload_n d_X12_sleepsAt_33 1 rfl rfl ?_
        refine r_iaload d_X12_sleepsAt_34 (ly_12_58 bs_12).2.2 h1 ?_
        obtain ⟨h10, h⟩ := h
        refine r_if_lt (tgt := 50) d_X12_sleepsAt_35 (by decide) h10 (fun c11 => ?_) (fun c11 => ?_)
        · replace h := h.1 c11
          refine r_iconst d_X12_sleepsAt_50 ?_
          refine r_goto (tgt := 55) d_X12_sleepsAt_51 (by decide) ?_
          exact r_zreturn d_X12_sleepsAt_55 rfl ⟨rfl, Nat.le_refl _, Nat.le_refl _⟩ (by decide) h
        · replace h := h.2 c11
          refine r_iload_n d_X12_sleepsAt_38 2 rfl rfl ?_
          refine r_aload_n d_X12_sleepsAt_39 0 rfl rfl ?_
          refine r_getL (v := 353) 12 58 58 rfl d_X12_sleepsAt_40 fl_X12_135 (by decide) (bs_ob bs_12) (ly_12_58 bs_12).1 (ly_12_58 bs_12).2.1 ?_
          refine r_iload_n d_X12_sleepsAt_43 1 rfl rfl ?_
          refine r_iaload d_X12_sleepsAt_44 (ly_12_58 bs_12).2.2 h1 ?_
          refine r_isub d_X12_sleepsAt_45 ?_
          refine r_iconst d_X12_sleepsAt_46 ?_
          obtain ⟨h12, h⟩ := h
          refine r_icmp_le (tgt := 54) d_X12_sleepsAt_47 (by decide) h12 ⟨by decide, by decide⟩ (fun c13 => ?_) (fun c13 => ?_)
          · replace h := h.1 c13
            refine r_iconst d_X12_sleepsAt_54 ?_
            exact r_zreturn d_X12_sleepsAt_55 rfl ⟨rfl, Nat.le_refl _, Nat.le_refl _⟩ (by decide) h
          · replace h := h.2 c13
            refine r_iconst d_X12_sleepsAt_50 ?_
            refine r_goto (tgt := 55) d_X12_sleepsAt_51 (by decide) ?_
            exact r_zreturn d_X12_sleepsAt_55 rfl ⟨rfl, Nat.le_refl _, Nat.le_refl _⟩ (by decide) h
theorem d_X12_rouses_0 : decode M_X12_rouses.2.1 0 = .ok (.aload_n 0, 1) := by decide +kernel
theorem d_X12_rouses_1 : decode M_X12_rouses.2.1 1 = .ok (.iload_n 1, 1) := by decide +kernel
theorem d_X12_rouses_2 : decode M_X12_rouses.2.1 2 = .ok (.iload_n 2, 1) := by decide +kernel
theorem d_X12_rouses_3 : decode M_X12_rouses.2.1 3 = .ok (.invokevirtual 525, 3) := by decide +kernel
theorem d_X12_rouses_6 : decode M_X12_rouses.2.1 6 = .ok (.ifCond .ne 5, 3) := by decide +kernel
theorem d_X12_rouses_9 : decode M_X12_rouses.2.1 9 = .ok (.iconst 1, 1) := by decide +kernel
theorem d_X12_rouses_10 : decode M_X12_rouses.2.1 10 = .ok (.ireturn, 1) := by decide +kernel
theorem d_X12_rouses_11 : decode M_X12_rouses.2.1 11 = .ok (.aload_n 0, 1) := by decide +kernel
theorem d_X12_rouses_12 : decode M_X12_rouses.2.1 12 = .ok (.getfield 521, 3) := by decide +kernel
theorem d_X12_rouses_15 : decode M_X12_rouses.2.1 15 = .ok (.ifCond .eq 59, 3) := by decide +kernel
theorem d_X12_rouses_18 : decode M_X12_rouses.2.1 18 = .ok (.aload_n 0, 1) := by decide +kernel
theorem d_X12_rouses_19 : decode M_X12_rouses.2.1 19 = .ok (.iload_n 1, 1) := by decide +kernel
theorem d_X12_rouses_20 : decode M_X12_rouses.2.1 20 = .ok (.iload_n 2, 1) := by decide +kernel
theorem d_X12_rouses_21 : decode M_X12_rouses.2.1 21 = .ok (.aload_n 0, 1) := by decide +kernel
theorem d_X12_rouses_22 : decode M_X12_rouses.2.1 22 = .ok (.getfield 47, 3) := by decide +kernel
theorem d_X12_rouses_25 : decode M_X12_rouses.2.1 25 = .ok (.aload_n 0, 1) := by decide +kernel
theorem d_X12_rouses_26 : decode M_X12_rouses.2.1 26 = .ok (.getfield 123, 3) := by decide +kernel
theorem d_X12_rouses_29 : decode M_X12_rouses.2.1 29 = .ok (.iload_n 1, 1) := by decide +kernel
theorem d_X12_rouses_30 : decode M_X12_rouses.2.1 30 = .ok (.iaload, 1) := by decide +kernel
theorem d_X12_rouses_31 : decode M_X12_rouses.2.1 31 = .ok (.iaload, 1) := by decide +kernel
theorem d_X12_rouses_32 : decode M_X12_rouses.2.1 32 = .ok (.aload_n 0, 1) := by decide +kernel
theorem d_X12_rouses_33 : decode M_X12_rouses.2.1 33 = .ok (.getfield 138, 3) := by decide +kernel
theorem d_X12_rouses_36 : decode M_X12_rouses.2.1 36 = .ok (.iload_n 1, 1) := by decide +kernel
theorem d_X12_rouses_37 : decode M_X12_rouses.2.1 37 = .ok (.iaload, 1) := by decide +kernel
theorem d_X12_rouses_38 : decode M_X12_rouses.2.1 38 = .ok (.invokevirtual 400, 3) := by decide +kernel
theorem d_X12_rouses_41 : decode M_X12_rouses.2.1 41 = .ok (.istore_n 3, 1) := by decide +kernel
theorem d_X12_rouses_42 : decode M_X12_rouses.2.1 42 = .ok (.aload_n 0, 1) := by decide +kernel
theorem d_X12_rouses_43 : decode M_X12_rouses.2.1 43 = .ok (.getfield 138, 3) := by decide +kernel
theorem d_X12_rouses_46 : decode M_X12_rouses.2.1 46 = .ok (.iload_n 1, 1) := by decide +kernel
theorem d_X12_rouses_47 : decode M_X12_rouses.2.1 47 = .ok (.dup2, 1) := by decide +kernel
theorem d_X12_rouses_48 : decode M_X12_rouses.2.1 48 = .ok (.iaload, 1) := by decide +kernel
theorem d_X12_rouses_49 : decode M_X12_rouses.2.1 49 = .ok (.iconst 1, 1) := by decide +kernel
theorem d_X12_rouses_50 : decode M_X12_rouses.2.1 50 = .ok (.iadd, 1) := by decide +kernel
theorem d_X12_rouses_51 : decode M_X12_rouses.2.1 51 = .ok (.iastore, 1) := by decide +kernel
theorem d_X12_rouses_52 : decode M_X12_rouses.2.1 52 = .ok (.aload_n 0, 1) := by decide +kernel
theorem d_X12_rouses_53 : decode M_X12_rouses.2.1 53 = .ok (.bipush 10, 2) := by decide +kernel
theorem d_X12_rouses_55 : decode M_X12_rouses.2.1 55 = .ok (.invokevirtual 528, 3) := by decide +kernel
theorem d_X12_rouses_58 : decode M_X12_rouses.2.1 58 = .ok (.iload_n 3, 1) := by decide +kernel
theorem d_X12_rouses_59 : decode M_X12_rouses.2.1 59 = .ok (.if_icmp .lt 15, 3) := by decide +kernel
theorem d_X12_rouses_62 : decode M_X12_rouses.2.1 62 = .ok (.aload_n 0, 1) := by decide +kernel
theorem d_X12_rouses_63 : decode M_X12_rouses.2.1 63 = .ok (.dup, 1) := by decide +kernel
theorem d_X12_rouses_64 : decode M_X12_rouses.2.1 64 = .ok (.getfield 531, 3) := by decide +kernel
theorem d_X12_rouses_67 : decode M_X12_rouses.2.1 67 = .ok (.iconst 1, 1) := by decide +kernel
theorem d_X12_rouses_68 : decode M_X12_rouses.2.1 68 = .ok (.iadd, 1) := by decide +kernel
theorem d_X12_rouses_69 : decode M_X12_rouses.2.1 69 = .ok (.putfield 531, 3) := by decide +kernel
theorem d_X12_rouses_72 : decode M_X12_rouses.2.1 72 = .ok (.iconst 0, 1) := by decide +kernel
theorem d_X12_rouses_73 : decode M_X12_rouses.2.1 73 = .ok (.ireturn, 1) := by decide +kernel
theorem d_X12_rouses_74 : decode M_X12_rouses.2.1 74 = .ok (.aload_n 0, 1) := by decide +kernel
theorem d_X12_rouses_75 : decode M_X12_rouses.2.1 75 = .ok (.getfield 135, 3) := by decide +kernel
theorem d_X12_rouses_78 : decode M_X12_rouses.2.1 78 = .ok (.iload_n 1, 1) := by decide +kernel
theorem d_X12_rouses_79 : decode M_X12_rouses.2.1 79 = .ok (.iload_n 2, 1) := by decide +kernel
theorem d_X12_rouses_80 : decode M_X12_rouses.2.1 80 = .ok (.iastore, 1) := by decide +kernel
theorem d_X12_rouses_81 : decode M_X12_rouses.2.1 81 = .ok (.aload_n 0, 1) := by decide +kernel
theorem d_X12_rouses_82 : decode M_X12_rouses.2.1 82 = .ok (.getfield 144, 3) := by decide +kernel
theorem d_X12_rouses_85 : decode M_X12_rouses.2.1 85 = .ok (.iload_n 1, 1) := by decide +kernel
theorem d_X12_rouses_86 : decode M_X12_rouses.2.1 86 = .ok (.dup2, 1) := by decide +kernel
theorem d_X12_rouses_87 : decode M_X12_rouses.2.1 87 = .ok (.iaload, 1) := by decide +kernel
theorem d_X12_rouses_88 : decode M_X12_rouses.2.1 88 = .ok (.iconst 1, 1) := by decide +kernel
theorem d_X12_rouses_89 : decode M_X12_rouses.2.1 89 = .ok (.iadd, 1) := by decide +kernel
theorem d_X12_rouses_90 : decode M_X12_rouses.2.1 90 = .ok (.iastore, 1) := by decide +kernel
theorem d_X12_rouses_91 : decode M_X12_rouses.2.1 91 = .ok (.aload_n 0, 1) := by decide +kernel
theorem d_X12_rouses_92 : decode M_X12_rouses.2.1 92 = .ok (.dup, 1) := by decide +kernel
theorem d_X12_rouses_93 : decode M_X12_rouses.2.1 93 = .ok (.getfield 534, 3) := by decide +kernel
theorem d_X12_rouses_96 : decode M_X12_rouses.2.1 96 = .ok (.iconst 1, 1) := by decide +kernel
theorem d_X12_rouses_97 : decode M_X12_rouses.2.1 97 = .ok (.iadd, 1) := by decide +kernel
theorem d_X12_rouses_98 : decode M_X12_rouses.2.1 98 = .ok (.putfield 534, 3) := by decide +kernel
theorem d_X12_rouses_101 : decode M_X12_rouses.2.1 101 = .ok (.iconst 1, 1) := by decide +kernel
theorem d_X12_rouses_102 : decode M_X12_rouses.2.1 102 = .ok (.ireturn, 1) := by decide +kernel
set_option maxRecDepth 20000 in
theorem s_X12_rouses_0 {d : Nat} {p0 : Int} {p1 : Int} {G : Mem} {Q : Int → Mem → Prop}  (h : Ct d M_X12_sleepsAt NT 0 0 (some lay) [(2, 311), (0, p0), (0, p1)] G (fun r2 G1 => (InR r2) ∧ ((r2 ≠ 0) → (InR (G1 311 67)) ∧ (((G1 311 67) = 0) → Rn (d + 1) M_X12_rouses zN 74 [(0, (2, 311)), (1, (0, p0)), (2, (0, p1))] [] G1 Q) ∧ (¬ ((G1 311 67) = 0) → (0 ≤ p0 ∧ p0 < 5) ∧ ((0 ≤ (G1 349 p0) ∧ (G1 349 p0) < 30) ∧ (Ct d M_X12_wakingBy NT 0 0 (some lay) [(2, 311), (0, p0), (0, p1), (0, (G1 324 (G1 349 p0))), (0, (G1 354 p0))] G1 (fun r10 G9 => (∀ G11 : Mem, G11 = st G9 354 p0 ((G9 354 p0) + 1) → Ct d M_X12_draws NT 0 0 (some lay) [(2, 311), (0, 10)] G11 (fun r13 G12 => (InR r13) ∧ (InR r10) ∧ ((r13 < r10) → Rn (d + 1) M_X12_rouses zN 74 [(0, (2, 311)), (1, (0, p0)), (2, (0, p1))] [] G12 Q) ∧ (¬ (r13 < r10) → (∀ G17 : Mem, G17 = st G12 311 64 ((G12 311 64) + 1) → Q 0 G17))))))))) ∧ (¬ (r2 ≠ 0) → Q 1 G1))) : Rn (d + 1) M_X12_rouses zN 0 [(0, (2, 311)), (1, (0, p0)), (2, (0, p1))] [] G Q := by
  refine r_aload_n d_X12_rouses_0 0 rfl rfl ?_
  refine r_iload_n d_X12_rouses_1 1 rfl rfl ?_
  refine r_iload_n d_X12_rouses_2 2 rfl rfl ?_
  refine r_callV0 (M' := M_X12_sleepsAt) (ci := 12) [(0, p0), (0, p1)] d_X12_rouses_3 cl_X12_525 rfl (Nat.le_of_ble_eq_true rfl) (by decide) rfl (bs_ob bs_12) ?_
  refine Ct.mono h (fun r2 G1 h => ?_)
  show Rn _ M_X12_rouses zN 6 [(0, (2, 311)), (1, (0, p0)), (2, (0, p1))] [(0, r2)] G1 Q
  obtain ⟨h3, h⟩ := h
  refine r_if_ne (tgt := 11) d_X12_rouses_6 (by decide) h3 (fun c4 => ?_) (fun c4 => ?_)
  · replace h := h.1 c4
    refine r_aload_n d_X12_rouses_11 0 rfl rfl ?_
    refine r_getZ 12 67 67 rfl d_X12_rouses_12 fl_X12_521 (by decide) (bs_ob bs_12) ?_
    obtain ⟨h5, h⟩ := h
    refine r_if_eq (tgt := 74) d_X12_rouses_15 (by decide) h5 (fun c6 => ?_) (fun c6 => ?_)
    · replace h := h.1 c6
      exact h
    · replace h := h.2 c6
      refine r_aload_n d_X12_rouses_18 0 rfl rfl ?_
      refine r_iload_n d_X12_rouses_19 1 rfl rfl ?_
      refine r_iload_n d_X12_rouses_20 2 rfl rfl ?_
      refine r_aload_n d_X12_rouses_21 0 rfl rfl ?_
      refine r_getL (v := 324) 12 21 21 rfl d_X12_rouses_22 fl_X12_47 (by decide) (bs_ob bs_12) (ly_12_21 bs_12).1 (ly_12_21 bs_12).2.1 ?_
      refine r_aload_n d_X12_rouses_25 0 rfl rfl ?_
      refine r_getL (v := 349) 12 54 54 rfl d_X12_rouses_26 fl_X12_123 (by decide) (bs_ob bs_12) (ly_12_54 bs_12).1 (ly_12_54 bs_12).2.1 ?_
      refine r_iload_n d_X12_rouses_29 1 rfl rfl ?_
      obtain ⟨h7, h⟩ := h
      refine r_iaload d_X12_rouses_30 (ly_12_54 bs_12).2.2 h7 ?_
      obtain ⟨h8, h⟩ := h
      refine r_iaload d_X12_rouses_31 (ly_12_21 bs_12).2.2 h8 ?_
      refine r_aload_n d_X12_rouses_32 0 rfl rfl ?_
      refine r_getL (v := 354) 12 59 59 rfl d_X12_rouses_33 fl_X12_138 (by decide) (bs_ob bs_12) (ly_12_59 bs_12).1 (ly_12_59 bs_12).2.1 ?_
      refine r_iload_n d_X12_rouses_36 1 rfl rfl ?_
      refine r_iaload d_X12_rouses_37 (ly_12_59 bs_12).2.2 h7 ?_
      refine r_callV0 (M' := M_X12_wakingBy) (ci := 12) [(0, p0), (0, p1), (0, (G1 324 (G1 349 p0))), (0, (G1 354 p0))] d_X12_rouses_38 cl_X12_400 rfl (Nat.le_of_ble_eq_true rfl) (by decide) rfl (bs_ob bs_12) ?_
      refine Ct.mono h (fun r10 G9 h => ?_)
      show Rn _ M_X12_rouses zN 41 [(0, (2, 311)), (1, (0, p0)), (2, (0, p1))] [(0, r10)] G9 Q
      refine r_istore_n (ls1 := [(3, (0, r10)), (0, (2, 311)), (1, (0, p0)), (2, (0, p1))]) d_X12_rouses_41 rfl (by decide) rfl ?_
      refine r_aload_n d_X12_rouses_42 1 rfl rfl ?_
      refine r_getL (v := 354) 12 59 59 rfl d_X12_rouses_43 fl_X12_138 (by decide) (bs_ob bs_12) (ly_12_59 bs_12).1 (ly_12_59 bs_12).2.1 ?_
      refine r_iload_n d_X12_rouses_46 2 rfl rfl ?_
      refine r_dup2 0 2 rfl rfl (by decide) (by decide) d_X12_rouses_47 ?_
      refine r_iaload d_X12_rouses_48 (ly_12_59 bs_12).2.2 h7 ?_
      refine r_iconst d_X12_rouses_49 ?_
      refine r_iadd d_X12_rouses_50 ?_
      obtain ⟨G11, eG11⟩ : ∃ y : Mem, y = st G9 354 p0 ((G9 354 p0) + 1) := ⟨_, rfl⟩
      replace h := h G11 eG11
      refine r_iastore d_X12_rouses_51 (ly_12_59 bs_12).2.2 h7 ?_
      rw [← eG11]
      refine r_aload_n d_X12_rouses_52 1 rfl rfl ?_
      refine r_bipush d_X12_rouses_53 (by decide +kernel) ?_
      refine r_callV0 (M' := M_X12_draws) (ci := 12) [(0, 10)] d_X12_rouses_55 cl_X12_528 rfl (Nat.le_of_ble_eq_true rfl) (by decide) rfl (bs_ob bs_12) ?_
      refine Ct.mono h (fun r13 G12 h => ?_)
      show Rn _ M_X12_rouses zN 58 [(3, (0, r10)), (0, (2, 311)), (1, (0, p0)), (2, (0, p1))] [(0, r13)] G12 Q
      refine r_iload_n d_X12_rouses_58 0 rfl rfl ?_
      obtain ⟨h14, h⟩ := h
      obtain ⟨h15, h⟩ := h
      refine r_icmp_lt (tgt := 74) d_X12_rouses_59 (by decide) h14 h15 (fun c16 => ?_) (fun c16 => ?_)
      · replace h := h.1 c16
        exact Rn.sub [1, 2, 3] rfl h
      · replace h := h.2 c16
        refine r_aload_n d_X12_rouses_62 1 rfl rfl ?_
        refine r_dup 2 rfl (by decide) d_X12_rouses_63 ?_
        refine r_getI 12 64 64 rfl d_X12_rouses_64 fl_X12_531 (by decide) (bs_ob bs_12) ?_
        refine r_iconst d_X12_rouses_67 ?_
        refine r_iadd d_X12_rouses_68 ?_
        obtain ⟨G17, eG17⟩ : ∃ y : Mem, y = st G12 311 64 ((G12 311 64) + 1) := ⟨_, rfl⟩
        replace h := h G17 eG17
        refine r_putI 12 64 64 rfl d_X12_rouses_69 fl_X12_531 (by decide) nofin_12_64 (bs_ob bs_12) ?_
        rw [← eG17]
        refine r_iconst d_X12_rouses_72 ?_
        exact r_zreturn d_X12_rouses_73 rfl ⟨rfl, Nat.le_refl _, Nat.le_refl _⟩ (by decide) h
  · replace h := h.2 c4
    refine r_iconst d_X12_rouses_9 ?_
    exact r_zreturn d_X12_rouses_10 rfl ⟨rfl, Nat.le_refl _, Nat.le_refl _⟩ (by decide) h
set_option maxRecDepth 20000 in
theorem s_X12_rouses_74 {d : Nat} {x1 : Int} {x2 : Int} {G : Mem} {Q : Int → Mem → Prop}  (h : (0 ≤ x1 ∧ x1 < 5) ∧ (∀ G2 : Mem, G2 = st G 353 x1 x2 → (∀ G3 : Mem, G3 = st G2 356 x1 ((G2 356 x1) + 1) → (∀ G4 : Mem, G4 = st G3 311 63 ((G3 311 63) + 1) → Q 1 G4)))) : Rn d M_X12_rouses zN 74 [(0, (2, 311)), (1, (0, x1)), (2, (0, x2))] [] G Q := by
  refine r_aload_n d_X12_rouses_74 0 rfl rfl ?_
  refine r_getL (v := 353) 12 58 58 rfl d_X12_rouses_75 fl_X12_135 (by decide) (bs_ob bs_12) (ly_12_58 bs_12).1 (ly_12_58 bs_12).2.1 ?_
  refine r_iload_n d_X12_rouses_78 1 rfl rfl ?_
  refine r_iload_n d_X12_rouses_79 2 rfl rfl ?_
  obtain ⟨h1, h⟩ := h
  obtain ⟨G2, eG2⟩ : ∃ y : Mem, y = st G 353 x1 x2 := ⟨_, rfl⟩
  replace h := h G2 eG2
  refine r_iastore d_X12_rouses_80 (ly_12_58 bs_12).2.2 h1 ?_
  rw [← eG2]
  refine r_aload_n d_X12_rouses_81 0 rfl rfl ?_
  refine r_getL (v := 356) 12 61 61 rfl d_X12_rouses_82 fl_X12_144 (by decide) (bs_ob bs_12) (ly_12_61 bs_12).1 (ly_12_61 bs_12).2.1 ?_
  refine r_iload_n d_X12_rouses_85 1 rfl rfl ?_
  refine r_dup2 0 2 rfl rfl (by decide) (by decide) d_X12_rouses_86 ?_
  refine r_iaload d_X12_rouses_87 (ly_12_61 bs_12).2.2 h1 ?_
  refine r_iconst d_X12_rouses_88 ?_
  refine r_iadd d_X12_rouses_89 ?_
  obtain ⟨G3, eG3⟩ : ∃ y : Mem, y = st G2 356 x1 ((G2 356 x1) + 1) := ⟨_, rfl⟩
  replace h := h G3 eG3
  refine r_iastore d_X12_rouses_90 (ly_12_61 bs_12).2.2 h1 ?_
  rw [← eG3]
  refine r_aload_n d_X12_rouses_91 0 rfl rfl ?_
  refine r_dup 2 rfl (by decide) d_X12_rouses_92 ?_
  refine r_getI 12 63 63 rfl d_X12_rouses_93 fl_X12_534 (by decide) (bs_ob bs_12) ?_
  refine r_iconst d_X12_rouses_96 ?_
  refine r_iadd d_X12_rouses_97 ?_
  obtain ⟨G4, eG4⟩ : ∃ y : Mem, y = st G3 311 63 ((G3 311 63) + 1) := ⟨_, rfl⟩
  replace h := h G4 eG4
  refine r_putI 12 63 63 rfl d_X12_rouses_98 fl_X12_534 (by decide) nofin_12_63 (bs_ob bs_12) ?_
  rw [← eG4]
  refine r_iconst d_X12_rouses_101 ?_
  exact r_zreturn d_X12_rouses_102 rfl ⟨rfl, Nat.le_refl _, Nat.le_refl _⟩ (by decide) h
theorem d_X12_rousesAll_0 : decode M_X12_rousesAll.2.1 0 = .ok (.aload_n 0, 1) := by decide +kernel
theorem d_X12_rousesAll_1 : decode M_X12_rousesAll.2.1 1 = .ok (.getfield 13, 3) := by decide +kernel
theorem d_X12_rousesAll_4 : decode M_X12_rousesAll.2.1 4 = .ok (.iconst 0, 1) := by decide +kernel
theorem d_X12_rousesAll_5 : decode M_X12_rousesAll.2.1 5 = .ok (.iaload, 1) := by decide +kernel
theorem d_X12_rousesAll_6 : decode M_X12_rousesAll.2.1 6 = .ok (.istore 4, 2) := by decide +kernel
theorem d_X12_rousesAll_8 : decode M_X12_rousesAll.2.1 8 = .ok (.aload_n 0, 1) := by decide +kernel
theorem d_X12_rousesAll_9 : decode M_X12_rousesAll.2.1 9 = .ok (.getfield 123, 3) := by decide +kernel
theorem d_X12_rousesAll_12 : decode M_X12_rousesAll.2.1 12 = .ok (.iload_n 1, 1) := by decide +kernel
theorem d_X12_rousesAll_13 : decode M_X12_rousesAll.2.1 13 = .ok (.iaload, 1) := by decide +kernel
theorem d_X12_rousesAll_14 : decode M_X12_rousesAll.2.1 14 = .ok (.iconst 1, 1) := by decide +kernel
theorem d_X12_rousesAll_15 : decode M_X12_rousesAll.2.1 15 = .ok (.iadd, 1) := by decide +kernel
theorem d_X12_rousesAll_16 : decode M_X12_rousesAll.2.1 16 = .ok (.istore 5, 2) := by decide +kernel
theorem d_X12_rousesAll_18 : decode M_X12_rousesAll.2.1 18 = .ok (.iload 5, 2) := by decide +kernel
theorem d_X12_rousesAll_20 : decode M_X12_rousesAll.2.1 20 = .ok (.iload 4, 2) := by decide +kernel
theorem d_X12_rousesAll_22 : decode M_X12_rousesAll.2.1 22 = .ok (.if_icmp .ge 54, 3) := by decide +kernel
theorem d_X12_rousesAll_25 : decode M_X12_rousesAll.2.1 25 = .ok (.aload_n 0, 1) := by decide +kernel
theorem d_X12_rousesAll_26 : decode M_X12_rousesAll.2.1 26 = .ok (.getfield 126, 3) := by decide +kernel
theorem d_X12_rousesAll_29 : decode M_X12_rousesAll.2.1 29 = .ok (.iload_n 3, 1) := by decide +kernel
theorem d_X12_rousesAll_30 : decode M_X12_rousesAll.2.1 30 = .ok (.ifCond .eq 18, 3) := by decide +kernel
theorem d_X12_rousesAll_33 : decode M_X12_rousesAll.2.1 33 = .ok (.iload 4, 2) := by decide +kernel
theorem d_X12_rousesAll_35 : decode M_X12_rousesAll.2.1 35 = .ok (.aload_n 0, 1) := by decide +kernel
theorem d_X12_rousesAll_36 : decode M_X12_rousesAll.2.1 36 = .ok (.getfield 123, 3) := by decide +kernel
theorem d_X12_rousesAll_39 : decode M_X12_rousesAll.2.1 39 = .ok (.iload_n 1, 1) := by decide +kernel
theorem d_X12_rousesAll_40 : decode M_X12_rousesAll.2.1 40 = .ok (.iaload, 1) := by decide +kernel
theorem d_X12_rousesAll_41 : decode M_X12_rousesAll.2.1 41 = .ok (.iadd, 1) := by decide +kernel
theorem d_X12_rousesAll_42 : decode M_X12_rousesAll.2.1 42 = .ok (.iload 5, 2) := by decide +kernel
theorem d_X12_rousesAll_44 : decode M_X12_rousesAll.2.1 44 = .ok (.isub, 1) := by decide +kernel
theorem d_X12_rousesAll_45 : decode M_X12_rousesAll.2.1 45 = .ok (.goto 5, 3) := by decide +kernel
theorem d_X12_rousesAll_48 : decode M_X12_rousesAll.2.1 48 = .ok (.iload 5, 2) := by decide +kernel
theorem d_X12_rousesAll_50 : decode M_X12_rousesAll.2.1 50 = .ok (.iaload, 1) := by decide +kernel
theorem d_X12_rousesAll_51 : decode M_X12_rousesAll.2.1 51 = .ok (.istore 6, 2) := by decide +kernel
theorem d_X12_rousesAll_53 : decode M_X12_rousesAll.2.1 53 = .ok (.iload 6, 2) := by decide +kernel
theorem d_X12_rousesAll_55 : decode M_X12_rousesAll.2.1 55 = .ok (.ifCond .lt 15, 3) := by decide +kernel
theorem d_X12_rousesAll_58 : decode M_X12_rousesAll.2.1 58 = .ok (.aload_n 0, 1) := by decide +kernel
theorem d_X12_rousesAll_59 : decode M_X12_rousesAll.2.1 59 = .ok (.iload 6, 2) := by decide +kernel
theorem d_X12_rousesAll_61 : decode M_X12_rousesAll.2.1 61 = .ok (.iload_n 2, 1) := by decide +kernel
theorem d_X12_rousesAll_62 : decode M_X12_rousesAll.2.1 62 = .ok (.invokevirtual 537, 3) := by decide +kernel
theorem d_X12_rousesAll_65 : decode M_X12_rousesAll.2.1 65 = .ok (.ifCond .ne 5, 3) := by decide +kernel
theorem d_X12_rousesAll_68 : decode M_X12_rousesAll.2.1 68 = .ok (.iconst 0, 1) := by decide +kernel
theorem d_X12_rousesAll_69 : decode M_X12_rousesAll.2.1 69 = .ok (.ireturn, 1) := by decide +kernel
theorem d_X12_rousesAll_70 : decode M_X12_rousesAll.2.1 70 = .ok (.iinc 5 1, 3) := by decide +kernel
theorem d_X12_rousesAll_73 : decode M_X12_rousesAll.2.1 73 = .ok (.goto (-55), 3) := by decide +kernel
theorem d_X12_rousesAll_76 : decode M_X12_rousesAll.2.1 76 = .ok (.iconst 1, 1) := by decide +kernel
theorem d_X12_rousesAll_77 : decode M_X12_rousesAll.2.1 77 = .ok (.ireturn, 1) := by decide +kernel
set_option maxRecDepth 20000 in
theorem s_X12_rousesAll_0 {d : Nat} {p0 : Int} {p1 : Int} {p2 : Int} {G : Mem} {Q : Int → Mem → Prop}  (h : (0 ≤ p0 ∧ p0 < 5) ∧ (Rn d M_X12_rousesAll zN 18 [(0, (2, 311)), (1, (0, p0)), (2, (0, p1)), (3, (0, p2)), (4, (0, (G 313 0))), (5, (0, ((G 349 p0) + 1)))] [] G Q)) : Rn d M_X12_rousesAll zN 0 [(0, (2, 311)), (1, (0, p0)), (2, (0, p1)), (3, (0, p2))] [] G Q := by
  refine r_aload_n d_X12_rousesAll_0 0 rfl rfl ?_
  refine r_getL (v := 313) 12 10 10 rfl d_X12_rousesAll_1 fl_X12_13 (by decide) (bs_ob bs_12) (ly_12_10 bs_12).1 (ly_12_10 bs_12).2.1 ?_
  refine r_iconst d_X12_rousesAll_4 ?_
  refine r_iaload d_X12_rousesAll_5 (ly_12_10 bs_12).2.2 (by decide) ?_
  refine r_istore (ls1 := [(4, (0, (G 313 0))), (0, (2, 311)), (1, (0, p0)), (2, (0, p1)), (3, (0, p2))]) d_X12_rousesAll_6 (by decide) rfl ?_
  refine r_aload_n d_X12_rousesAll_8 1 rfl rfl ?_
  refine r_getL (v := 349) 12 54 54 rfl d_X12_rousesAll_9 fl_X12_123 (by decide) (bs_ob bs_12) (ly_12_54 bs_12).1 (ly_12_54 bs_12).2.1 ?_
  refine r_iload_n d_X12_rousesAll_12 2 rfl rfl ?_
  obtain ⟨h1, h⟩ := h
  refine r_iaload d_X12_rousesAll_13 (ly_12_54 bs_12).2.2 h1 ?_
  refine r_iconst d_X12_rousesAll_14 ?_
  refine r_iadd d_X12_rousesAll_15 ?_
  refine r_istore (ls1 := [(5, (0, ((G 349 p0) + 1))), (4, (0, (G 313 0))), (0, (2, 311)), (1, (0, p0)), (2, (0, p1)), (3, (0, p2))]) d_X12_rousesAll_16 (by decide) rfl ?_
  exact Rn.sub [2, 3, 4, 5, 1, 0] rfl h
set_option maxRecDepth 20000 in
theorem s_X12_rousesAll_18 {d : Nat} {x1 : Int} {x2 : Int} {x3 : Int} {x4 : Int} {x5 : Int} {G : Mem} {Q : Int → Mem → Prop}  (h : (InR x5) ∧ (InR x4) ∧ ((x4 ≤ x5) → Q 1 G) ∧ (¬ (x4 ≤ x5) → (InR x3) ∧ ((x3 = 0) → Rn d M_X12_rousesAll zN 50 [(0, (2, 311)), (1, (0, x1)), (2, (0, x2)), (3, (0, x3)), (4, (0, x4)), (5, (0, x5))] [(0, x5), (2, 350)] G Q) ∧ (¬ (x3 = 0) → (0 ≤ x1 ∧ x1 < 5) ∧ (Rn d M_X12_rousesAll zN 50 [(0, (2, 311)), (1, (0, x1)), (2, (0, x2)), (3, (0, x3)), (4, (0, x4)), (5, (0, x5))] [(0, ((x4 + (G 349 x1)) - x5)), (2, 350)] G Q)))) : Rn d M_X12_rousesAll zN 18 [(0, (2, 311)), (1, (0, x1)), (2, (0, x2)), (3, (0, x3)), (4, (0, x4)), (5, (0, x5))] [] G Q := by
  refine r_iload d_X12_rousesAll_18 5 rfl ?_
  refine r_iload d_X12_rousesAll_20 4 rfl ?_
  obtain ⟨h1, h⟩ := h
  obtain ⟨h2, h⟩ := h
  refine r_icmp_ge (tgt := 76) d_X12_rousesAll_22 (by decide) h1 h2 (fun c3 => ?_) (fun c3 => ?_)
  · replace h := h.1 c3
    refine r_iconst d_X12_rousesAll_76 ?_
    exact r_zreturn d_X12_rousesAll_77 rfl ⟨rfl, Nat.le_refl _, Nat.le_refl _⟩ (by decide) h
  · replace h := h.2 c3
    refine r_aload_n d_X12_rousesAll_25 0 rfl rfl ?_
    refine r_getL (v := 350) 12 55 55 rfl d_X12_rousesAll_26 fl_X12_126 (by decide) (bs_ob bs_12) (ly_12_55 bs_12).1 (ly_12_55 bs_12).2.1 ?_
    refine r_iload_n d_X12_rousesAll_29 3 rfl rfl ?_
    obtain ⟨h4, h⟩ := h
    refine r_if_eq (tgt := 48) d_X12_rousesAll_30 (by decide) h4 (fun c5 => ?_) (fun c5 => ?_)
    · replace h := h.1 c5
      refine r_iload d_X12_rousesAll_48 5 rfl ?_
      exact h
    · replace h := h.2 c5
      refine r_iload d_X12_rousesAll_33 4 rfl ?_
      refine r_aload_n d_X12_rousesAll_35 0 rfl rfl ?_
      refine r_getL (v := 349) 12 54 54 rfl d_X12_rousesAll_36 fl_X12_123 (by decide) (bs_ob bs_12) (ly_12_54 bs_12).1 (ly_12_54 bs_12).2.1 ?_
      refine r_iload_n d_X12_rousesAll_39 1 rfl rfl ?_
      obtain ⟨h6, h⟩ := h
      refine r_iaload d_X12_rousesAll_40 (ly_12_54 bs_12).2.2 h6 ?_
      refine r_iadd d_X12_rousesAll_41 ?_
      refine r_iload d_X12_rousesAll_42 5 rfl ?_
      refine r_isub d_X12_rousesAll_44 ?_
      refine r_goto (tgt := 50) d_X12_rousesAll_45 (by decide) ?_
      exact h
set_option maxRecDepth 20000 in
theorem s_X12_rousesAll_50 {d : Nat} {x1 : Int} {x2 : Int} {x3 : Int} {x4 : Int} {x5 : Int} {s0 : Int} {G : Mem} {Q : Int → Mem → Prop}  (h : (0 ≤ s0 ∧ s0 < 5) ∧ ((InR (G 350 s0)) ∧ (((G 350 s0) < 0) → Rn (d + 1) M_X12_rousesAll zN 18 [(0, (2, 311)), (1, (0, x1)), (2, (0, x2)), (3, (0, x3)), (4, (0, x4)), (5, (0, (x5 + 1)))] [] G Q) ∧ (¬ ((G 350 s0) < 0) → Ct d M_X12_rouses NT 0 0 (some lay) [(2, 311), (0, (G 350 s0)), (0, x2)] G (fun r5 G4 => (InR r5) ∧ ((r5 ≠ 0) → Rn (d + 1) M_X12_rousesAll zN 18 [(0, (2, 311)), (1, (0, x1)), (2, (0, x2)), (3, (0, x3)), (4, (0, x4)), (5, (0, (x5 + 1)))] [] G4 Q) ∧ (¬ (r5 ≠ 0) → Q 0 G4))))) : Rn (d + 1) M_X12_rousesAll zN 50 [(0, (2, 311)), (1, (0, x1)), (2, (0, x2)), (3, (0, x3)), (4, (0, x4)), (5, (0, x5))] [(0, s0), (2, 350)] G Q := by
  obtain ⟨h1, h⟩ := h
  refine r_iaload d_X12_rousesAll_50 (ly_12_55 bs_12).2.2 h1 ?_
  refine r_istore (ls1 := [(6, (0, (G 350 s0))), (0, (2, 311)), (1, (0, x1)), (2, (0, x2)), (3, (0, x3)), (4, (0, x4)), (5, (0, x5))]) d_X12_rousesAll_51 (by decide) rfl ?_
  refine r_iload d_X12_rousesAll_53 0 rfl ?_
  obtain ⟨h2, h⟩ := h
  refine r_if_lt (tgt := 70) d_X12_rousesAll_55 (by decide) h2 (fun c3 => ?_) (fun c3 => ?_)
  · replace h := h.1 c3
    refine r_iinc (ls1 := [(5, (0, (x5 + 1))), (6, (0, (G 350 s0))), (0, (2, 311)), (1, (0, x1)), (2, (0, x2)), (3, (0, x3)), (4, (0, x4))]) d_X12_rousesAll_70 6 rfl (by decide) rfl ?_
    refine r_goto (tgt := 18) d_X12_rousesAll_73 (by decide) ?_
    exact Rn.sub [2, 3, 4, 5, 6, 0] rfl h
  · replace h := h.2 c3
    refine r_aload_n d_X12_rousesAll_58 1 rfl rfl ?_
    refine r_iload d_X12_rousesAll_59 0 rfl ?_
    refine r_iload_n d_X12_rousesAll_61 3 rfl rfl ?_
    refine r_callV0 (M' := M_X12_rouses) (ci := 12) [(0, (G 350 s0)), (0, x2)] d_X12_rousesAll_62 cl_X12_537 rfl (Nat.le_of_ble_eq_true rfl) (by decide) rfl (bs_ob bs_12) ?_
    refine Ct.mono h (fun r5 G4 h => ?_)
    show Rn _ M_X12_rousesAll zN 65 [(6, (0, (G 350 s0))), (0, (2, 311)), (1, (0, x1)), (2, (0, x2)), (3, (0, x3)), (4, (0, x4)), (5, (0, x5))] [(0, r5)] G4 Q
    obtain ⟨h6, h⟩ := h
    refine r_if_ne (tgt := 70) d_X12_rousesAll_65 (by decide) h6 (fun c7 => ?_) (fun c7 => ?_)
    · replace h := h.1 c7
      refine r_iinc (ls1 := [(5, (0, (x5 + 1))), (6, (0, (G 350 s0))), (0, (2, 311)), (1, (0, x1)), (2, (0, x2)), (3, (0, x3)), (4, (0, x4))]) d_X12_rousesAll_70 6 rfl (by decide) rfl ?_
      refine r_goto (tgt := 18) d_X12_rousesAll_73 (by decide) ?_
      exact Rn.sub [2, 3, 4, 5, 6, 0] rfl h
    · replace h := h.2 c7
      refine r_iconst d_X12_rousesAll_68 ?_
      exact r_zreturn d_X12_rousesAll_69 rfl ⟨rfl, Nat.le_refl _, Nat.le_refl _⟩ (by decide) h
theorem d_X12_outsNow_0 : decode M_X12_outsNow.2.1 0 = .ok (.iconst 0, 1) := by decide +kernel
theorem d_X12_outsNow_1 : decode M_X12_outsNow.2.1 1 = .ok (.istore_n 1, 1) := by decide +kernel
theorem d_X12_outsNow_2 : decode M_X12_outsNow.2.1 2 = .ok (.iconst 0, 1) := by decide +kernel
theorem d_X12_outsNow_3 : decode M_X12_outsNow.2.1 3 = .ok (.istore_n 2, 1) := by decide +kernel
theorem d_X12_outsNow_4 : decode M_X12_outsNow.2.1 4 = .ok (.iload_n 2, 1) := by decide +kernel
theorem d_X12_outsNow_5 : decode M_X12_outsNow.2.1 5 = .ok (.aload_n 0, 1) := by decide +kernel
theorem d_X12_outsNow_6 : decode M_X12_outsNow.2.1 6 = .ok (.getfield 13, 3) := by decide +kernel
theorem d_X12_outsNow_9 : decode M_X12_outsNow.2.1 9 = .ok (.bipush 8, 2) := by decide +kernel
theorem d_X12_outsNow_11 : decode M_X12_outsNow.2.1 11 = .ok (.iaload, 1) := by decide +kernel
theorem d_X12_outsNow_12 : decode M_X12_outsNow.2.1 12 = .ok (.if_icmp .ge 26, 3) := by decide +kernel
theorem d_X12_outsNow_15 : decode M_X12_outsNow.2.1 15 = .ok (.iload_n 1, 1) := by decide +kernel
theorem d_X12_outsNow_16 : decode M_X12_outsNow.2.1 16 = .ok (.aload_n 0, 1) := by decide +kernel
theorem d_X12_outsNow_17 : decode M_X12_outsNow.2.1 17 = .ok (.getfield 132, 3) := by decide +kernel
theorem d_X12_outsNow_20 : decode M_X12_outsNow.2.1 20 = .ok (.iload_n 2, 1) := by decide +kernel
theorem d_X12_outsNow_21 : decode M_X12_outsNow.2.1 21 = .ok (.iaload, 1) := by decide +kernel
theorem d_X12_outsNow_22 : decode M_X12_outsNow.2.1 22 = .ok (.ifCond .lt 7, 3) := by decide +kernel
theorem d_X12_outsNow_25 : decode M_X12_outsNow.2.1 25 = .ok (.iconst 1, 1) := by decide +kernel
theorem d_X12_outsNow_26 : decode M_X12_outsNow.2.1 26 = .ok (.goto 4, 3) := by decide +kernel
theorem d_X12_outsNow_29 : decode M_X12_outsNow.2.1 29 = .ok (.iconst 0, 1) := by decide +kernel
theorem d_X12_outsNow_30 : decode M_X12_outsNow.2.1 30 = .ok (.iadd, 1) := by decide +kernel
theorem d_X12_outsNow_31 : decode M_X12_outsNow.2.1 31 = .ok (.istore_n 1, 1) := by decide +kernel
theorem d_X12_outsNow_32 : decode M_X12_outsNow.2.1 32 = .ok (.iinc 2 1, 3) := by decide +kernel
theorem d_X12_outsNow_35 : decode M_X12_outsNow.2.1 35 = .ok (.goto (-31), 3) := by decide +kernel
theorem d_X12_outsNow_38 : decode M_X12_outsNow.2.1 38 = .ok (.iload_n 1, 1) := by decide +kernel
theorem d_X12_outsNow_39 : decode M_X12_outsNow.2.1 39 = .ok (.ireturn, 1) := by decide +kernel
set_option maxRecDepth 20000 in
theorem s_X12_outsNow_0 {d : Nat}  {G : Mem} {Q : Int → Mem → Prop}  (h : Rn d M_X12_outsNow zN 4 [(0, (2, 311)), (1, (0, 0)), (2, (0, 0))] [] G Q) : Rn d M_X12_outsNow zN 0 [(0, (2, 311))] [] G Q := by
  refine r_iconst d_X12_outsNow_0 ?_
  refine r_istore_n (ls1 := [(1, (0, 0)), (0, (2, 311))]) d_X12_outsNow_1 rfl (by decide) rfl ?_
  refine r_iconst d_X12_outsNow_2 ?_
  refine r_istore_n (ls1 := [(2, (0, 0)), (1, (0, 0)), (0, (2, 311))]) d_X12_outsNow_3 rfl (by decide) rfl ?_
  exact Rn.sub [2, 1, 0] rfl h
set_option maxRecDepth 20000 in
theorem s_X12_outsNow_4 {d : Nat} {x1 : Int} {x2 : Int} {G : Mem} {Q : Int → Mem → Prop}  (h : (InR x2) ∧ (InR (G 313 8)) ∧ (((G 313 8) ≤ x2) → Q x1 G) ∧ (¬ ((G 313 8) ≤ x2) → (0 ≤ x2 ∧ x2 < 5) ∧ ((InR (G 352 x2)) ∧ (((G 352 x2) < 0) → Rn d M_X12_outsNow zN 4 [(0, (2, 311)), (1, (0, (x1 + 0))), (2, (0, (x2 + 1)))] [] G Q) ∧ (¬ ((G 352 x2) < 0) → Rn d M_X12_outsNow zN 4 [(0, (2, 311)), (1, (0, (x1 + 1))), (2, (0, (x2 + 1)))] [] G Q)))) : Rn d M_X12_outsNow zN 4 [(0, (2, 311)), (1, (0, x1)), (2, (0, x2))] [] G Q := by
  refine r_iload_n d_X12_outsNow_4 2 rfl rfl ?_
  refine r_aload_n d_X12_outsNow_5 0 rfl rfl ?_
  refine r_getL (v := 313) 12 10 10 rfl d_X12_outsNow_6 fl_X12_13 (by decide) (bs_ob bs_12) (ly_12_10 bs_12).1 (ly_12_10 bs_12).2.1 ?_
  refine r_bipush d_X12_outsNow_9 (by decide +kernel) ?_
  refine r_iaload d_X12_outsNow_11 (ly_12_10 bs_12).2.2 (by decide) ?_
  obtain ⟨h1, h⟩ := h
  obtain ⟨h2, h⟩ := h
  refine r_icmp_ge (tgt := 38) d_X12_outsNow_12 (by decide) h1 h2 (fun c3 => ?_) (fun c3 => ?_)
  · replace h := h.1 c3
    refine r_iload_n d_X12_outsNow_38 1 rfl rfl ?_
    exact r_ireturn d_X12_outsNow_39 rfl ⟨rfl, Nat.le_refl _, Nat.le_refl _⟩ h
  · replace h := h.2 c3
    refine r_iload_n d_X12_outsNow_15 1 rfl rfl ?_
    refine r_aload_n d_X12_outsNow_16 0 rfl rfl ?_
    refine r_getL (v := 352) 12 57 57 rfl d_X12_outsNow_17 fl_X12_132 (by decide) (bs_ob bs_12) (ly_12_57 bs_12).1 (ly_12_57 bs_12).2.1 ?_
    refine r_iload_n d_X12_outsNow_20 2 rfl rfl ?_
    obtain ⟨h4, h⟩ := h
    refine r_iaload d_X12_outsNow_21 (ly_12_57 bs_12).2.2 h4 ?_
    obtain ⟨h5, h⟩ := h
    refine r_if_lt (tgt := 29) d_X12_outsNow_22 (by decide) h5 (fun c6 => ?_) (fun c6 => ?_)
    · replace h := h.1 c6
      refine r_iconst d_X12_outsNow_29 ?_
      refine r_iadd d_X12_outsNow_30 ?_
      refine r_istore_n (ls1 := [(1, (0, (x1 + 0))), (0, (2, 311)), (2, (0, x2))]) d_X12_outsNow_31 rfl (by decide) rfl ?_
      refine r_iinc (ls1 := [(2, (0, (x2 + 1))), (1, (0, (x1 + 0))), (0, (2, 311))]) d_X12_outsNow_32 2 rfl (by decide) rfl ?_
      refine r_goto (tgt := 4) d_X12_outsNow_35 (by decide) ?_
      exact Rn.sub [2, 1, 0] rfl h
    · replace h := h.2 c6
      refine r_iconst d_X12_outsNow_25 ?_
      refine r_goto (tgt := 30) d_X12_outsNow_26 (by decide) ?_
      refine r_iadd d_X12_outsNow_30 ?_
      refine r_istore_n (ls1 := [(1, (0, (x1 + 1))), (0, (2, 311)), (2, (0, x2))]) d_X12_outsNow_31 rfl (by decide) rfl ?_
      refine r_iinc (ls1 := [(2, (0, (x2 + 1))), (1, (0, (x1 + 1))), (0, (2, 311))]) d_X12_outsNow_32 2 rfl (by decide) rfl ?_
      refine r_goto (tgt := 4) d_X12_outsNow_35 (by decide) ?_
      exact Rn.sub [2, 1, 0] rfl h
theorem d_X12_livesTick_0 : decode M_X12_livesTick.2.1 0 = .ok (.aload_n 0, 1) := by decide +kernel
theorem d_X12_livesTick_1 : decode M_X12_livesTick.2.1 1 = .ok (.getfield 13, 3) := by decide +kernel
theorem d_X12_livesTick_4 : decode M_X12_livesTick.2.1 4 = .ok (.iconst 0, 1) := by decide +kernel
theorem d_X12_livesTick_5 : decode M_X12_livesTick.2.1 5 = .ok (.iaload, 1) := by decide +kernel
theorem d_X12_livesTick_6 : decode M_X12_livesTick.2.1 6 = .ok (.iconst 1, 1) := by decide +kernel
theorem d_X12_livesTick_7 : decode M_X12_livesTick.2.1 7 = .ok (.isub, 1) := by decide +kernel
theorem d_X12_livesTick_8 : decode M_X12_livesTick.2.1 8 = .ok (.istore_n 2, 1) := by decide +kernel
theorem d_X12_livesTick_9 : decode M_X12_livesTick.2.1 9 = .ok (.iload_n 2, 1) := by decide +kernel
theorem d_X12_livesTick_10 : decode M_X12_livesTick.2.1 10 = .ok (.ifCond .lt 56, 3) := by decide +kernel
theorem d_X12_livesTick_13 : decode M_X12_livesTick.2.1 13 = .ok (.aload_n 0, 1) := by decide +kernel
theorem d_X12_livesTick_14 : decode M_X12_livesTick.2.1 14 = .ok (.getfield 126, 3) := by decide +kernel
theorem d_X12_livesTick_17 : decode M_X12_livesTick.2.1 17 = .ok (.iload_n 2, 1) := by decide +kernel
theorem d_X12_livesTick_18 : decode M_X12_livesTick.2.1 18 = .ok (.iaload, 1) := by decide +kernel
theorem d_X12_livesTick_19 : decode M_X12_livesTick.2.1 19 = .ok (.istore_n 3, 1) := by decide +kernel
theorem d_X12_livesTick_20 : decode M_X12_livesTick.2.1 20 = .ok (.iload_n 3, 1) := by decide +kernel
theorem d_X12_livesTick_21 : decode M_X12_livesTick.2.1 21 = .ok (.ifCond .lt 39, 3) := by decide +kernel
theorem d_X12_livesTick_24 : decode M_X12_livesTick.2.1 24 = .ok (.aload_n 0, 1) := by decide +kernel
theorem d_X12_livesTick_25 : decode M_X12_livesTick.2.1 25 = .ok (.getfield 132, 3) := by decide +kernel
theorem d_X12_livesTick_28 : decode M_X12_livesTick.2.1 28 = .ok (.iload_n 3, 1) := by decide +kernel
theorem d_X12_livesTick_29 : decode M_X12_livesTick.2.1 29 = .ok (.iaload, 1) := by decide +kernel
theorem d_X12_livesTick_30 : decode M_X12_livesTick.2.1 30 = .ok (.ifCond .lt 30, 3) := by decide +kernel
theorem d_X12_livesTick_33 : decode M_X12_livesTick.2.1 33 = .ok (.aload_n 0, 1) := by decide +kernel
theorem d_X12_livesTick_34 : decode M_X12_livesTick.2.1 34 = .ok (.getfield 132, 3) := by decide +kernel
theorem d_X12_livesTick_37 : decode M_X12_livesTick.2.1 37 = .ok (.iload_n 3, 1) := by decide +kernel
theorem d_X12_livesTick_38 : decode M_X12_livesTick.2.1 38 = .ok (.iaload, 1) := by decide +kernel
theorem d_X12_livesTick_39 : decode M_X12_livesTick.2.1 39 = .ok (.iload_n 1, 1) := by decide +kernel
theorem d_X12_livesTick_40 : decode M_X12_livesTick.2.1 40 = .ok (.if_icmp .gt 20, 3) := by decide +kernel
theorem d_X12_livesTick_43 : decode M_X12_livesTick.2.1 43 = .ok (.aload_n 0, 1) := by decide +kernel
theorem d_X12_livesTick_44 : decode M_X12_livesTick.2.1 44 = .ok (.iload_n 3, 1) := by decide +kernel
theorem d_X12_livesTick_45 : decode M_X12_livesTick.2.1 45 = .ok (.iload_n 1, 1) := by decide +kernel
theorem d_X12_livesTick_46 : decode M_X12_livesTick.2.1 46 = .ok (.iconst 1, 1) := by decide +kernel
theorem d_X12_livesTick_47 : decode M_X12_livesTick.2.1 47 = .ok (.invokevirtual 540, 3) := by decide +kernel
theorem d_X12_livesTick_50 : decode M_X12_livesTick.2.1 50 = .ok (.ifCond .eq 10, 3) := by decide +kernel
theorem d_X12_livesTick_53 : decode M_X12_livesTick.2.1 53 = .ok (.aload_n 0, 1) := by decide +kernel
theorem d_X12_livesTick_54 : decode M_X12_livesTick.2.1 54 = .ok (.getfield 132, 3) := by decide +kernel
theorem d_X12_livesTick_57 : decode M_X12_livesTick.2.1 57 = .ok (.iload_n 3, 1) := by decide +kernel
theorem d_X12_livesTick_58 : decode M_X12_livesTick.2.1 58 = .ok (.iconst (-1), 1) := by decide +kernel
theorem d_X12_livesTick_59 : decode M_X12_livesTick.2.1 59 = .ok (.iastore, 1) := by decide +kernel
theorem d_X12_livesTick_60 : decode M_X12_livesTick.2.1 60 = .ok (.iinc 2 (-1), 3) := by decide +kernel
theorem d_X12_livesTick_63 : decode M_X12_livesTick.2.1 63 = .ok (.goto (-54), 3) := by decide +kernel
theorem d_X12_livesTick_66 : decode M_X12_livesTick.2.1 66 = .ok (.aload_n 0, 1) := by decide +kernel
theorem d_X12_livesTick_67 : decode M_X12_livesTick.2.1 67 = .ok (.getfield 13, 3) := by decide +kernel
theorem d_X12_livesTick_70 : decode M_X12_livesTick.2.1 70 = .ok (.iconst 0, 1) := by decide +kernel
theorem d_X12_livesTick_71 : decode M_X12_livesTick.2.1 71 = .ok (.iaload, 1) := by decide +kernel
theorem d_X12_livesTick_72 : decode M_X12_livesTick.2.1 72 = .ok (.iconst 1, 1) := by decide +kernel
theorem d_X12_livesTick_73 : decode M_X12_livesTick.2.1 73 = .ok (.isub, 1) := by decide +kernel
theorem d_X12_livesTick_74 : decode M_X12_livesTick.2.1 74 = .ok (.istore_n 2, 1) := by decide +kernel
theorem d_X12_livesTick_75 : decode M_X12_livesTick.2.1 75 = .ok (.iload_n 2, 1) := by decide +kernel
theorem d_X12_livesTick_76 : decode M_X12_livesTick.2.1 76 = .ok (.ifCond .lt 110, 3) := by decide +kernel
theorem d_X12_livesTick_79 : decode M_X12_livesTick.2.1 79 = .ok (.aload_n 0, 1) := by decide +kernel
theorem d_X12_livesTick_80 : decode M_X12_livesTick.2.1 80 = .ok (.getfield 126, 3) := by decide +kernel
theorem d_X12_livesTick_83 : decode M_X12_livesTick.2.1 83 = .ok (.iload_n 2, 1) := by decide +kernel
theorem d_X12_livesTick_84 : decode M_X12_livesTick.2.1 84 = .ok (.iaload, 1) := by decide +kernel
theorem d_X12_livesTick_85 : decode M_X12_livesTick.2.1 85 = .ok (.istore_n 3, 1) := by decide +kernel
theorem d_X12_livesTick_86 : decode M_X12_livesTick.2.1 86 = .ok (.iload_n 3, 1) := by decide +kernel
theorem d_X12_livesTick_87 : decode M_X12_livesTick.2.1 87 = .ok (.ifCond .lt 93, 3) := by decide +kernel
theorem d_X12_livesTick_90 : decode M_X12_livesTick.2.1 90 = .ok (.aload_n 0, 1) := by decide +kernel
theorem d_X12_livesTick_91 : decode M_X12_livesTick.2.1 91 = .ok (.getfield 132, 3) := by decide +kernel
theorem d_X12_livesTick_94 : decode M_X12_livesTick.2.1 94 = .ok (.iload_n 3, 1) := by decide +kernel
theorem d_X12_livesTick_95 : decode M_X12_livesTick.2.1 95 = .ok (.iaload, 1) := by decide +kernel
theorem d_X12_livesTick_96 : decode M_X12_livesTick.2.1 96 = .ok (.ifCond .ge 84, 3) := by decide +kernel
theorem d_X12_livesTick_99 : decode M_X12_livesTick.2.1 99 = .ok (.aload_n 0, 1) := by decide +kernel
theorem d_X12_livesTick_100 : decode M_X12_livesTick.2.1 100 = .ok (.iload_n 3, 1) := by decide +kernel
theorem d_X12_livesTick_101 : decode M_X12_livesTick.2.1 101 = .ok (.iload_n 1, 1) := by decide +kernel
theorem d_X12_livesTick_102 : decode M_X12_livesTick.2.1 102 = .ok (.invokevirtual 525, 3) := by decide +kernel
theorem d_X12_livesTick_105 : decode M_X12_livesTick.2.1 105 = .ok (.ifCond .ne 75, 3) := by decide +kernel
theorem d_X12_livesTick_108 : decode M_X12_livesTick.2.1 108 = .ok (.aload_n 0, 1) := by decide +kernel
theorem d_X12_livesTick_109 : decode M_X12_livesTick.2.1 109 = .ok (.getfield 129, 3) := by decide +kernel
theorem d_X12_livesTick_112 : decode M_X12_livesTick.2.1 112 = .ok (.iload_n 3, 1) := by decide +kernel
theorem d_X12_livesTick_113 : decode M_X12_livesTick.2.1 113 = .ok (.iaload, 1) := by decide +kernel
theorem d_X12_livesTick_114 : decode M_X12_livesTick.2.1 114 = .ok (.aload_n 0, 1) := by decide +kernel
theorem d_X12_livesTick_115 : decode M_X12_livesTick.2.1 115 = .ok (.getfield 32, 3) := by decide +kernel
theorem d_X12_livesTick_118 : decode M_X12_livesTick.2.1 118 = .ok (.iload_n 3, 1) := by decide +kernel
theorem d_X12_livesTick_119 : decode M_X12_livesTick.2.1 119 = .ok (.iaload, 1) := by decide +kernel
theorem d_X12_livesTick_120 : decode M_X12_livesTick.2.1 120 = .ok (.if_icmp .lt 60, 3) := by decide +kernel
theorem d_X12_livesTick_123 : decode M_X12_livesTick.2.1 123 = .ok (.aload_n 0, 1) := by decide +kernel
theorem d_X12_livesTick_124 : decode M_X12_livesTick.2.1 124 = .ok (.iload_n 1, 1) := by decide +kernel
theorem d_X12_livesTick_125 : decode M_X12_livesTick.2.1 125 = .ok (.invokevirtual 416, 3) := by decide +kernel
theorem d_X12_livesTick_128 : decode M_X12_livesTick.2.1 128 = .ok (.ifCond .ne 52, 3) := by decide +kernel
theorem d_X12_livesTick_131 : decode M_X12_livesTick.2.1 131 = .ok (.aload_n 0, 1) := by decide +kernel
theorem d_X12_livesTick_132 : decode M_X12_livesTick.2.1 132 = .ok (.iload_n 3, 1) := by decide +kernel
theorem d_X12_livesTick_133 : decode M_X12_livesTick.2.1 133 = .ok (.iload_n 1, 1) := by decide +kernel
theorem d_X12_livesTick_134 : decode M_X12_livesTick.2.1 134 = .ok (.iconst 0, 1) := by decide +kernel
theorem d_X12_livesTick_135 : decode M_X12_livesTick.2.1 135 = .ok (.invokevirtual 540, 3) := by decide +kernel
theorem d_X12_livesTick_138 : decode M_X12_livesTick.2.1 138 = .ok (.ifCond .ne 6, 3) := by decide +kernel
theorem d_X12_livesTick_141 : decode M_X12_livesTick.2.1 141 = .ok (.goto 39, 3) := by decide +kernel
theorem d_X12_livesTick_144 : decode M_X12_livesTick.2.1 144 = .ok (.aload_n 0, 1) := by decide +kernel
theorem d_X12_livesTick_145 : decode M_X12_livesTick.2.1 145 = .ok (.getfield 132, 3) := by decide +kernel
theorem d_X12_livesTick_148 : decode M_X12_livesTick.2.1 148 = .ok (.iload_n 3, 1) := by decide +kernel
theorem d_X12_livesTick_149 : decode M_X12_livesTick.2.1 149 = .ok (.iload_n 1, 1) := by decide +kernel
theorem d_X12_livesTick_150 : decode M_X12_livesTick.2.1 150 = .ok (.iconst 1, 1) := by decide +kernel
theorem d_X12_livesTick_151 : decode M_X12_livesTick.2.1 151 = .ok (.iadd, 1) := by decide +kernel
theorem d_X12_livesTick_152 : decode M_X12_livesTick.2.1 152 = .ok (.aload_n 0, 1) := by decide +kernel
theorem d_X12_livesTick_153 : decode M_X12_livesTick.2.1 153 = .ok (.iload_n 1, 1) := by decide +kernel
theorem d_X12_livesTick_154 : decode M_X12_livesTick.2.1 154 = .ok (.aload_n 0, 1) := by decide +kernel
theorem d_X12_livesTick_155 : decode M_X12_livesTick.2.1 155 = .ok (.invokevirtual 543, 3) := by decide +kernel
theorem d_X12_livesTick_158 : decode M_X12_livesTick.2.1 158 = .ok (.invokevirtual 450, 3) := by decide +kernel
theorem d_X12_livesTick_161 : decode M_X12_livesTick.2.1 161 = .ok (.iadd, 1) := by decide +kernel
theorem d_X12_livesTick_162 : decode M_X12_livesTick.2.1 162 = .ok (.iastore, 1) := by decide +kernel
theorem d_X12_livesTick_163 : decode M_X12_livesTick.2.1 163 = .ok (.aload_n 0, 1) := by decide +kernel
theorem d_X12_livesTick_164 : decode M_X12_livesTick.2.1 164 = .ok (.getfield 129, 3) := by decide +kernel
theorem d_X12_livesTick_167 : decode M_X12_livesTick.2.1 167 = .ok (.iload_n 3, 1) := by decide +kernel
theorem d_X12_livesTick_168 : decode M_X12_livesTick.2.1 168 = .ok (.iconst 0, 1) := by decide +kernel
theorem d_X12_livesTick_169 : decode M_X12_livesTick.2.1 169 = .ok (.iastore, 1) := by decide +kernel
theorem d_X12_livesTick_170 : decode M_X12_livesTick.2.1 170 = .ok (.aload_n 0, 1) := by decide +kernel
theorem d_X12_livesTick_171 : decode M_X12_livesTick.2.1 171 = .ok (.getfield 141, 3) := by decide +kernel
theorem d_X12_livesTick_174 : decode M_X12_livesTick.2.1 174 = .ok (.iload_n 3, 1) := by decide +kernel
theorem d_X12_livesTick_175 : decode M_X12_livesTick.2.1 175 = .ok (.dup2, 1) := by decide +kernel
theorem d_X12_livesTick_176 : decode M_X12_livesTick.2.1 176 = .ok (.iaload, 1) := by decide +kernel
theorem d_X12_livesTick_177 : decode M_X12_livesTick.2.1 177 = .ok (.iconst 1, 1) := by decide +kernel
theorem d_X12_livesTick_178 : decode M_X12_livesTick.2.1 178 = .ok (.iadd, 1) := by decide +kernel
theorem d_X12_livesTick_179 : decode M_X12_livesTick.2.1 179 = .ok (.iastore, 1) := by decide +kernel
theorem d_X12_livesTick_180 : decode M_X12_livesTick.2.1 180 = .ok (.iinc 2 (-1), 3) := by decide +kernel
theorem d_X12_livesTick_183 : decode M_X12_livesTick.2.1 183 = .ok (.goto (-108), 3) := by decide +kernel
theorem d_X12_livesTick_186 : decode M_X12_livesTick.2.1 186 = .ok (.iconst 0, 1) := by decide +kernel
theorem d_X12_livesTick_187 : decode M_X12_livesTick.2.1 187 = .ok (.istore_n 2, 1) := by decide +kernel
theorem d_X12_livesTick_188 : decode M_X12_livesTick.2.1 188 = .ok (.iload_n 2, 1) := by decide +kernel
theorem d_X12_livesTick_189 : decode M_X12_livesTick.2.1 189 = .ok (.aload_n 0, 1) := by decide +kernel
theorem d_X12_livesTick_190 : decode M_X12_livesTick.2.1 190 = .ok (.getfield 13, 3) := by decide +kernel
theorem d_X12_livesTick_193 : decode M_X12_livesTick.2.1 193 = .ok (.bipush 8, 2) := by decide +kernel
theorem d_X12_livesTick_195 : decode M_X12_livesTick.2.1 195 = .ok (.iaload, 1) := by decide +kernel
theorem d_X12_livesTick_196 : decode M_X12_livesTick.2.1 196 = .ok (.if_icmp .ge 117, 3) := by decide +kernel
theorem d_X12_livesTick_199 : decode M_X12_livesTick.2.1 199 = .ok (.aload_n 0, 1) := by decide +kernel
theorem d_X12_livesTick_200 : decode M_X12_livesTick.2.1 200 = .ok (.getfield 132, 3) := by decide +kernel
theorem d_X12_livesTick_203 : decode M_X12_livesTick.2.1 203 = .ok (.iload_n 2, 1) := by decide +kernel
theorem d_X12_livesTick_204 : decode M_X12_livesTick.2.1 204 = .ok (.iaload, 1) := by decide +kernel
theorem d_X12_livesTick_205 : decode M_X12_livesTick.2.1 205 = .ok (.iload_n 1, 1) := by decide +kernel
theorem d_X12_livesTick_206 : decode M_X12_livesTick.2.1 206 = .ok (.if_icmp .le 6, 3) := by decide +kernel
theorem d_X12_livesTick_209 : decode M_X12_livesTick.2.1 209 = .ok (.goto 98, 3) := by decide +kernel
theorem d_X12_livesTick_212 : decode M_X12_livesTick.2.1 212 = .ok (.aload_n 0, 1) := by decide +kernel
theorem d_X12_livesTick_213 : decode M_X12_livesTick.2.1 213 = .ok (.getfield 26, 3) := by decide +kernel
theorem d_X12_livesTick_216 : decode M_X12_livesTick.2.1 216 = .ok (.iload_n 2, 1) := by decide +kernel
theorem d_X12_livesTick_217 : decode M_X12_livesTick.2.1 217 = .ok (.iaload, 1) := by decide +kernel
theorem d_X12_livesTick_218 : decode M_X12_livesTick.2.1 218 = .ok (.iload_n 2, 1) := by decide +kernel
theorem d_X12_livesTick_219 : decode M_X12_livesTick.2.1 219 = .ok (.aload_n 0, 1) := by decide +kernel
theorem d_X12_livesTick_220 : decode M_X12_livesTick.2.1 220 = .ok (.getfield 518, 3) := by decide +kernel
theorem d_X12_livesTick_223 : decode M_X12_livesTick.2.1 223 = .ok (.if_icmp .ne 7, 3) := by decide +kernel
theorem d_X12_livesTick_226 : decode M_X12_livesTick.2.1 226 = .ok (.iconst 1, 1) := by decide +kernel
theorem d_X12_livesTick_227 : decode M_X12_livesTick.2.1 227 = .ok (.goto 4, 3) := by decide +kernel
theorem d_X12_livesTick_230 : decode M_X12_livesTick.2.1 230 = .ok (.iconst 0, 1) := by decide +kernel
theorem d_X12_livesTick_231 : decode M_X12_livesTick.2.1 231 = .ok (.iadd, 1) := by decide +kernel
theorem d_X12_livesTick_232 : decode M_X12_livesTick.2.1 232 = .ok (.istore_n 3, 1) := by decide +kernel
theorem d_X12_livesTick_233 : decode M_X12_livesTick.2.1 233 = .ok (.aload_n 0, 1) := by decide +kernel
theorem d_X12_livesTick_234 : decode M_X12_livesTick.2.1 234 = .ok (.getfield 129, 3) := by decide +kernel
theorem d_X12_livesTick_237 : decode M_X12_livesTick.2.1 237 = .ok (.iload_n 2, 1) := by decide +kernel
theorem d_X12_livesTick_238 : decode M_X12_livesTick.2.1 238 = .ok (.sipush 199, 3) := by decide +kernel
theorem d_X12_livesTick_241 : decode M_X12_livesTick.2.1 241 = .ok (.aload_n 0, 1) := by decide +kernel
theorem d_X12_livesTick_242 : decode M_X12_livesTick.2.1 242 = .ok (.getfield 129, 3) := by decide +kernel
theorem d_X12_livesTick_245 : decode M_X12_livesTick.2.1 245 = .ok (.iload_n 2, 1) := by decide +kernel
theorem d_X12_livesTick_246 : decode M_X12_livesTick.2.1 246 = .ok (.iaload, 1) := by decide +kernel
theorem d_X12_livesTick_247 : decode M_X12_livesTick.2.1 247 = .ok (.aload_n 0, 1) := by decide +kernel
theorem d_X12_livesTick_248 : decode M_X12_livesTick.2.1 248 = .ok (.getfield 20, 3) := by decide +kernel
theorem d_X12_livesTick_251 : decode M_X12_livesTick.2.1 251 = .ok (.iload_n 2, 1) := by decide +kernel
theorem d_X12_livesTick_252 : decode M_X12_livesTick.2.1 252 = .ok (.iaload, 1) := by decide +kernel
theorem d_X12_livesTick_253 : decode M_X12_livesTick.2.1 253 = .ok (.iconst 1, 1) := by decide +kernel
theorem d_X12_livesTick_254 : decode M_X12_livesTick.2.1 254 = .ok (.if_icmp .ne 9, 3) := by decide +kernel
theorem d_X12_livesTick_257 : decode M_X12_livesTick.2.1 257 = .ok (.iconst 2, 1) := by decide +kernel
theorem d_X12_livesTick_258 : decode M_X12_livesTick.2.1 258 = .ok (.iload_n 3, 1) := by decide +kernel
theorem d_X12_livesTick_259 : decode M_X12_livesTick.2.1 259 = .ok (.imul, 1) := by decide +kernel
theorem d_X12_livesTick_260 : decode M_X12_livesTick.2.1 260 = .ok (.goto 4, 3) := by decide +kernel
theorem d_X12_livesTick_263 : decode M_X12_livesTick.2.1 263 = .ok (.iload_n 3, 1) := by decide +kernel
theorem d_X12_livesTick_264 : decode M_X12_livesTick.2.1 264 = .ok (.iadd, 1) := by decide +kernel
theorem d_X12_livesTick_265 : decode M_X12_livesTick.2.1 265 = .ok (.invokestatic 456, 3) := by decide +kernel
theorem d_X12_livesTick_268 : decode M_X12_livesTick.2.1 268 = .ok (.iastore, 1) := by decide +kernel
theorem d_X12_livesTick_269 : decode M_X12_livesTick.2.1 269 = .ok (.aload_n 0, 1) := by decide +kernel
theorem d_X12_livesTick_270 : decode M_X12_livesTick.2.1 270 = .ok (.getfield 129, 3) := by decide +kernel
theorem d_X12_livesTick_273 : decode M_X12_livesTick.2.1 273 = .ok (.iload_n 2, 1) := by decide +kernel
theorem d_X12_livesTick_274 : decode M_X12_livesTick.2.1 274 = .ok (.iaload, 1) := by decide +kernel
theorem d_X12_livesTick_275 : decode M_X12_livesTick.2.1 275 = .ok (.aload_n 0, 1) := by decide +kernel
theorem d_X12_livesTick_276 : decode M_X12_livesTick.2.1 276 = .ok (.getfield 29, 3) := by decide +kernel
theorem d_X12_livesTick_279 : decode M_X12_livesTick.2.1 279 = .ok (.iload_n 2, 1) := by decide +kernel
theorem d_X12_livesTick_280 : decode M_X12_livesTick.2.1 280 = .ok (.iaload, 1) := by decide +kernel
theorem d_X12_livesTick_281 : decode M_X12_livesTick.2.1 281 = .ok (.if_icmp .gt 6, 3) := by decide +kernel
theorem d_X12_livesTick_284 : decode M_X12_livesTick.2.1 284 = .ok (.goto 23, 3) := by decide +kernel
theorem d_X12_livesTick_287 : decode M_X12_livesTick.2.1 287 = .ok (.aload_n 0, 1) := by decide +kernel
theorem d_X12_livesTick_288 : decode M_X12_livesTick.2.1 288 = .ok (.getfield 147, 3) := by decide +kernel
theorem d_X12_livesTick_291 : decode M_X12_livesTick.2.1 291 = .ok (.iload_n 2, 1) := by decide +kernel
theorem d_X12_livesTick_292 : decode M_X12_livesTick.2.1 292 = .ok (.dup2, 1) := by decide +kernel
theorem d_X12_livesTick_293 : decode M_X12_livesTick.2.1 293 = .ok (.iaload, 1) := by decide +kernel
theorem d_X12_livesTick_294 : decode M_X12_livesTick.2.1 294 = .ok (.iconst 1, 1) := by decide +kernel
theorem d_X12_livesTick_295 : decode M_X12_livesTick.2.1 295 = .ok (.iadd, 1) := by decide +kernel
theorem d_X12_livesTick_296 : decode M_X12_livesTick.2.1 296 = .ok (.iastore, 1) := by decide +kernel
theorem d_X12_livesTick_297 : decode M_X12_livesTick.2.1 297 = .ok (.aload_n 0, 1) := by decide +kernel
theorem d_X12_livesTick_298 : decode M_X12_livesTick.2.1 298 = .ok (.dup, 1) := by decide +kernel
theorem d_X12_livesTick_299 : decode M_X12_livesTick.2.1 299 = .ok (.getfield 546, 3) := by decide +kernel
theorem d_X12_livesTick_302 : decode M_X12_livesTick.2.1 302 = .ok (.iconst 1, 1) := by decide +kernel
theorem d_X12_livesTick_303 : decode M_X12_livesTick.2.1 303 = .ok (.iadd, 1) := by decide +kernel
theorem d_X12_livesTick_304 : decode M_X12_livesTick.2.1 304 = .ok (.putfield 546, 3) := by decide +kernel
theorem d_X12_livesTick_307 : decode M_X12_livesTick.2.1 307 = .ok (.iinc 2 1, 3) := by decide +kernel
theorem d_X12_livesTick_310 : decode M_X12_livesTick.2.1 310 = .ok (.goto (-122), 3) := by decide +kernel
theorem d_X12_livesTick_313 : decode M_X12_livesTick.2.1 313 = .ok (.return_, 1) := by decide +kernel
set_option maxRecDepth 20000 in
theorem s_X12_livesTick_0 {d : Nat} {p0 : Int} {G : Mem} {Q : Int → Mem → Prop}  (h : Rn d M_X12_livesTick zN 9 [(0, (2, 311)), (1, (0, p0)), (2, (0, ((G 313 0) - 1)))] [] G Q) : Rn d M_X12_livesTick zN 0 [(0, (2, 311)), (1, (0, p0))] [] G Q := by
  refine r_aload_n d_X12_livesTick_0 0 rfl rfl ?_
  refine r_getL (v := 313) 12 10 10 rfl d_X12_livesTick_1 fl_X12_13 (by decide) (bs_ob bs_12) (ly_12_10 bs_12).1 (ly_12_10 bs_12).2.1 ?_
  refine r_iconst d_X12_livesTick_4 ?_
  refine r_iaload d_X12_livesTick_5 (ly_12_10 bs_12).2.2 (by decide) ?_
  refine r_iconst d_X12_livesTick_6 ?_
  refine r_isub d_X12_livesTick_7 ?_
  refine r_istore_n (ls1 := [(2, (0, ((G 313 0) - 1))), (0, (2, 311)), (1, (0, p0))]) d_X12_livesTick_8 rfl (by decide) rfl ?_
  exact Rn.sub [1, 2, 0] rfl h
set_option maxRecDepth 20000 in
theorem s_X12_livesTick_9 {d : Nat} {x1 : Int} {x2 : Int} {G : Mem} {Q : Int → Mem → Prop}  (h : (InR x2) ∧ ((x2 < 0) → Rn (d + 1) M_X12_livesTick zN 75 [(0, (2, 311)), (1, (0, x1)), (2, (0, ((G 313 0) - 1)))] [] G Q) ∧ (¬ (x2 < 0) → (0 ≤ x2 ∧ x2 < 5) ∧ ((InR (G 350 x2)) ∧ (((G 350 x2) < 0) → Rn (d + 1) M_X12_livesTick zN 9 [(0, (2, 311)), (1, (0, x1)), (2, (0, (x2 + (-1))))] [] G Q) ∧ (¬ ((G 350 x2) < 0) → (0 ≤ (G 350 x2) ∧ (G 350 x2) < 5) ∧ ((InR (G 352 (G 350 x2))) ∧ (((G 352 (G 350 x2)) < 0) → Rn (d + 1) M_X12_livesTick zN 9 [(0, (2, 311)), (1, (0, x1)), (2, (0, (x2 + (-1))))] [] G Q) ∧ (¬ ((G 352 (G 350 x2)) < 0) → (InR x1) ∧ ((x1 < (G 352 (G 350 x2))) → Rn (d + 1) M_X12_livesTick zN 9 [(0, (2, 311)), (1, (0, x1)), (2, (0, (x2 + (-1))))] [] G Q) ∧ (¬ (x1 < (G 352 (G 350 x2))) → Ct d M_X12_rousesAll NT 0 0 (some lay) [(2, 311), (0, (G 350 x2)), (0, x1), (0, 1)] G (fun r12 G11 => (InR r12) ∧ ((r12 = 0) → Rn (d + 1) M_X12_livesTick zN 9 [(0, (2, 311)), (1, (0, x1)), (2, (0, (x2 + (-1))))] [] G11 Q) ∧ (¬ (r12 = 0) → (∀ G15 : Mem, G15 = st G11 352 (G 350 x2) (-1) → Rn (d + 1) M_X12_livesTick zN 9 [(0, (2, 311)), (1, (0, x1)), (2, (0, (x2 + (-1))))] [] G15 Q)))))))))) : Rn (d + 1) M_X12_livesTick zN 9 [(0, (2, 311)), (1, (0, x1)), (2, (0, x2))] [] G Q := by
  refine r_iload_n d_X12_livesTick_9 2 rfl rfl ?_
  obtain ⟨h1, h⟩ := h
  refine r_if_lt (tgt := 66) d_X12_livesTick_10 (by decide) h1 (fun c2 => ?_) (fun c2 => ?_)
  · replace h := h.1 c2
    refine r_aload_n d_X12_livesTick_66 0 rfl rfl ?_
    refine r_getL (v := 313) 12 10 10 rfl d_X12_livesTick_67 fl_X12_13 (by decide) (bs_ob bs_12) (ly_12_10 bs_12).1 (ly_12_10 bs_12).2.1 ?_
    refine r_iconst d_X12_livesTick_70 ?_
    refine r_iaload d_X12_livesTick_71 (ly_12_10 bs_12).2.2 (by decide) ?_
    refine r_iconst d_X12_livesTick_72 ?_
    refine r_isub d_X12_livesTick_73 ?_
    refine r_istore_n (ls1 := [(2, (0, ((G 313 0) - 1))), (0, (2, 311)), (1, (0, x1))]) d_X12_livesTick_74 rfl (by decide) rfl ?_
    exact Rn.sub [1, 2, 0] rfl h
  · replace h := h.2 c2
    refine r_aload_n d_X12_livesTick_13 0 rfl rfl ?_
    refine r_getL (v := 350) 12 55 55 rfl d_X12_livesTick_14 fl_X12_126 (by decide) (bs_ob bs_12) (ly_12_55 bs_12).1 (ly_12_55 bs_12).2.1 ?_
    refine r_iload_n d_X12_livesTick_17 2 rfl rfl ?_
    obtain ⟨h3, h⟩ := h
    refine r_iaload d_X12_livesTick_18 (ly_12_55 bs_12).2.2 h3 ?_
    refine r_istore_n (ls1 := [(3, (0, (G 350 x2))), (0, (2, 311)), (1, (0, x1)), (2, (0, x2))]) d_X12_livesTick_19 rfl (by decide) rfl ?_
    refine r_iload_n d_X12_livesTick_20 0 rfl rfl ?_
    obtain ⟨h4, h⟩ := h
    refine r_if_lt (tgt := 60) d_X12_livesTick_21 (by decide) h4 (fun c5 => ?_) (fun c5 => ?_)
    · replace h := h.1 c5
      refine r_iinc (ls1 := [(2, (0, (x2 + (-1)))), (3, (0, (G 350 x2))), (0, (2, 311)), (1, (0, x1))]) d_X12_livesTick_60 3 rfl (by decide) rfl ?_
      refine r_goto (tgt := 9) d_X12_livesTick_63 (by decide) ?_
      exact Rn.sub [2, 3, 0] rfl h
    · replace h := h.2 c5
      refine r_aload_n d_X12_livesTick_24 1 rfl rfl ?_
      refine r_getL (v := 352) 12 57 57 rfl d_X12_livesTick_25 fl_X12_132 (by decide) (bs_ob bs_12) (ly_12_57 bs_12).1 (ly_12_57 bs_12).2.1 ?_
      refine r_iload_n d_X12_livesTick_28 0 rfl rfl ?_
      obtain ⟨h6, h⟩ := h
      refine r_iaload d_X12_livesTick_29 (ly_12_57 bs_12).2.2 h6 ?_
      obtain ⟨h7, h⟩ := h
      refine r_if_lt (tgt := 60) d_X12_livesTick_30 (by decide) h7 (fun c8 => ?_) (fun c8 => ?_)
      · replace h := h.1 c8
        refine r_iinc (ls1 := [(2, (0, (x2 + (-1)))), (3, (0, (G 350 x2))), (0, (2, 311)), (1, (0, x1))]) d_X12_livesTick_60 3 rfl (by decide) rfl ?_
        refine r_goto (tgt := 9) d_X12_livesTick_63 (by decide) ?_
        exact Rn.sub [2, 3, 0] rfl h
      · replace h := h.2 c8
        refine r_aload_n d_X12_livesTick_33 1 rfl rfl ?_
        refine r_getL (v := 352) 12 57 57 rfl d_X12_livesTick_34 fl_X12_132 (by decide) (bs_ob bs_12) (ly_12_57 bs_12).1 (ly_12_57 bs_12).2.1 ?_
        refine r_iload_n d_X12_livesTick_37 0 rfl rfl ?_
        refine r_iaload d_X12_livesTick_38 (ly_12_57 bs_12).2.2 h6 ?_
        refine r_iload_n d_X12_livesTick_39 2 rfl rfl ?_
        obtain ⟨h9, h⟩ := h
        refine r_icmp_gt (tgt := 60) d_X12_livesTick_40 (by decide) h7 h9 (fun c10 => ?_) (fun c10 => ?_)
        · replace h := h.1 c10
          refine r_iinc (ls1 := [(2, (0, (x2 + (-1)))), (3, (0, (G 350 x2))), (0, (2, 311)), (1, (0, x1))]) d_X12_livesTick_60 3 rfl (by decide) rfl ?_
          refine r_goto (tgt := 9) d_X12_livesTick_63 (by decide) ?_
          exact Rn.sub [2, 3, 0] rfl h
        · replace h := h.2 c10
          refine r_aload_n d_X12_livesTick_43 1 rfl rfl ?_
          refine r_iload_n d_X12_livesTick_44 0 rfl rfl ?_
          refine r_iload_n d_X12_livesTick_45 2 rfl rfl ?_
          refine r_iconst d_X12_livesTick_46 ?_
          refine r_callV0 (M' := M_X12_rousesAll) (ci := 12) [(0, (G 350 x2)), (0, x1), (0, 1)] d_X12_livesTick_47 cl_X12_540 rfl (Nat.le_of_ble_eq_true rfl) (by decide) rfl (bs_ob bs_12) ?_
          refine Ct.mono h (fun r12 G11 h => ?_)
          show Rn _ M_X12_livesTick zN 50 [(3, (0, (G 350 x2))), (0, (2, 311)), (1, (0, x1)), (2, (0, x2))] [(0, r12)] G11 Q
          obtain ⟨h13, h⟩ := h
          refine r_if_eq (tgt := 60) d_X12_livesTick_50 (by decide) h13 (fun c14 => ?_) (fun c14 => ?_)
          · replace h := h.1 c14
            refine r_iinc (ls1 := [(2, (0, (x2 + (-1)))), (3, (0, (G 350 x2))), (0, (2, 311)), (1, (0, x1))]) d_X12_livesTick_60 3 rfl (by decide) rfl ?_
            refine r_goto (tgt := 9) d_X12_livesTick_63 (by decide) ?_
            exact Rn.sub [2, 3, 0] rfl h
          · replace h := h.2 c14
            refine r_aload_n d_X12_livesTick_53 1 rfl rfl ?_
            refine r_getL (v := 352) 12 57 57 rfl d_X12_livesTick_54 fl_X12_132 (by decide) (bs_ob bs_12) (ly_12_57 bs_12).1 (ly_12_57 bs_12).2.1 ?_
            refine r_iload_n d_X12_livesTick_57 0 rfl rfl ?_
            refine r_iconst d_X12_livesTick_58 ?_
            obtain ⟨G15, eG15⟩ : ∃ y : Mem, y = st G11 352 (G 350 x2) (-1) := ⟨_, rfl⟩
            replace h := h G15 eG15
            refine r_iastore d_X12_livesTick_59 (ly_12_57 bs_12).2.2 h6 ?_
            rw [← eG15]
            refine r_iinc (ls1 := [(2, (0, (x2 + (-1)))), (3, (0, (G 350 x2))), (0, (2, 311)), (1, (0, x1))]) d_X12_livesTick_60 3 rfl (by decide) rfl ?_
            refine r_goto (tgt := 9) d_X12_livesTick_63 (by decide) ?_
            exact Rn.sub [2, 3, 0] rfl h
set_option maxRecDepth 20000 in
theorem s_X12_livesTick_75 {d : Nat} {x1 : Int} {x2 : Int} {G : Mem} {Q : Int → Mem → Prop}  (h : (InR x2) ∧ ((x2 < 0) → Rn (d + 1) M_X12_livesTick zN 188 [(0, (2, 311)), (1, (0, x1)), (2, (0, 0))] [] G Q) ∧ (¬ (x2 < 0) → (0 ≤ x2 ∧ x2 < 5) ∧ ((InR (G 350 x2)) ∧ (((G 350 x2) < 0) → Rn (d + 1) M_X12_livesTick zN 75 [(0, (2, 311)), (1, (0, x1)), (2, (0, (x2 + (-1))))] [] G Q) ∧ (¬ ((G 350 x2) < 0) → (0 ≤ (G 350 x2) ∧ (G 350 x2) < 5) ∧ ((InR (G 352 (G 350 x2))) ∧ ((0 ≤ (G 352 (G 350 x2))) → Rn (d + 1) M_X12_livesTick zN 75 [(0, (2, 311)), (1, (0, x1)), (2, (0, (x2 + (-1))))] [] G Q) ∧ (¬ (0 ≤ (G 352 (G 350 x2))) → Ct d M_X12_sleepsAt NT 0 0 (some lay) [(2, 311), (0, (G 350 x2)), (0, x1)] G (fun r10 G9 => (InR r10) ∧ ((r10 ≠ 0) → Rn (d + 1) M_X12_livesTick zN 75 [(0, (2, 311)), (1, (0, x1)), (2, (0, (x2 + (-1))))] [] G9 Q) ∧ (¬ (r10 ≠ 0) → (0 ≤ (G 350 x2) ∧ (G 350 x2) < 30) ∧ ((InR (G9 351 (G 350 x2))) ∧ (InR (G9 319 (G 350 x2))) ∧ (((G9 351 (G 350 x2)) < (G9 319 (G 350 x2))) → Rn (d + 1) M_X12_livesTick zN 75 [(0, (2, 311)), (1, (0, x1)), (2, (0, (x2 + (-1))))] [] G9 Q) ∧ (¬ ((G9 351 (G 350 x2)) < (G9 319 (G 350 x2))) → Ct d M_X12_isShut NT 0 0 (some lay) [(2, 311), (0, x1)] G9 (fun r18 G17 => (InR r18) ∧ ((r18 ≠ 0) → Rn (d + 1) M_X12_livesTick zN 75 [(0, (2, 311)), (1, (0, x1)), (2, (0, (x2 + (-1))))] [] G17 Q) ∧ (¬ (r18 ≠ 0) → Ct d M_X12_rousesAll NT 0 0 (some lay) [(2, 311), (0, (G 350 x2)), (0, x1), (0, 0)] G17 (fun r22 G21 => (InR r22) ∧ ((r22 ≠ 0) → Ct d M_X12_outsNow NT 0 0 (some lay) [(2, 311)] G21 (fun r26 G25 => Ct d M_X12_queueAt NT 0 0 (some lay) [(2, 311), (0, x1), (0, r26)] G25 (fun r28 G27 => (∀ G29 : Mem, G29 = st G27 352 (G 350 x2) ((x1 + 1) + r28) → (∀ G30 : Mem, G30 = st G29 351 (G 350 x2) 0 → (∀ G31 : Mem, G31 = st G30 355 (G 350 x2) ((G30 355 (G 350 x2)) + 1) → Rn (d + 1) M_X12_livesTick zN 75 [(0, (2, 311)), (1, (0, x1)), (2, (0, (x2 + (-1))))] [] G31 Q)))))) ∧ (¬ (r22 ≠ 0) → Rn (d + 1) M_X12_livesTick zN 75 [(0, (2, 311)), (1, (0, x1)), (2, (0, (x2 + (-1))))] [] G21 Q)))))))))))))) : Rn (d + 1) M_X12_livesTick zN 75 [(0, (2, 311)), (1, (0, x1)), (2, (0, x2))] [] G Q := by
  refine r_iload_n d_X12_livesTick_75 2 rfl rfl ?_
  obtain ⟨h1, h⟩ := h
  refine r_if_lt (tgt := 186) d_X12_livesTick_76 (by decide) h1 (fun c2 => ?_) (fun c2 => ?_)
  · replace h := h.1 c2
    refine r_iconst d_X12_livesTick_186 ?_
    refine r_istore_n (ls1 := [(2, (0, 0)), (0, (2, 311)), (1, (0, x1))]) d_X12_livesTick_187 rfl (by decide) rfl ?_
    exact Rn.sub [1, 2, 0] rfl h
  · replace h := h.2 c2
    refine r_aload_n d_X12_livesTick_79 0 rfl rfl ?_
    refine r_getL (v := 350) 12 55 55 rfl d_X12_livesTick_80 fl_X12_126 (by decide) (bs_ob bs_12) (ly_12_55 bs_12).1 (ly_12_55 bs_12).2.1 ?_
    refine r_iload_n d_X12_livesTick_83 2 rfl rfl ?_
    obtain ⟨h3, h⟩ := h
    refine r_iaload d_X12_livesTick_84 (ly_12_55 bs_12).2.2 h3 ?_
    refine r_istore_n (ls1 := [(3, (0, (G 350 x2))), (0, (2, 311)), (1, (0, x1)), (2, (0, x2))]) d_X12_livesTick_85 rfl (by decide) rfl ?_
    refine r_iload_n d_X12_livesTick_86 0 rfl rfl ?_
    obtain ⟨h4, h⟩ := h
    refine r_if_lt (tgt := 180) d_X12_livesTick_87 (by decide) h4 (fun c5 => ?_) (fun c5 => ?_)
    · replace h := h.1 c5
      refine r_iinc (ls1 := [(2, (0, (x2 + (-1)))), (3, (0, (G 350 x2))), (0, (2, 311)), (1, (0, x1))]) d_X12_livesTick_180 3 rfl (by decide) rfl ?_
      refine r_goto (tgt := 75) d_X12_livesTick_183 (by decide) ?_
      exact Rn.sub [2, 3, 0] rfl h
    · replace h := h.2 c5
      refine r_aload_n d_X12_livesTick_90 1 rfl rfl ?_
      refine r_getL (v := 352) 12 57 57 rfl d_X12_livesTick_91 fl_X12_132 (by decide) (bs_ob bs_12) (ly_12_57 bs_12).1 (ly_12_57 bs_12).2.1 ?_
      refine r_iload_n d_X12_livesTick_94 0 rfl rfl ?_
      obtain ⟨h6, h⟩ := h
      refine r_iaload d_X12_livesTick_95 (ly_12_57 bs_12).2.2 h6 ?_
      obtain ⟨h7, h⟩ := h
      refine r_if_ge (tgt := 180) d_X12_livesTick_96 (by decide) h7 (fun c8 => ?_) (fun c8 => ?_)
      · replace h := h.1 c8
        refine r_iinc (ls1 := [(2, (0, (x2 + (-1)))), (3, (0, (G 350 x2))), (0, (2, 311)), (1, (0, x1))]) d_X12_livesTick_180 3 rfl (by decide) rfl ?_
        refine r_goto (tgt := 75) d_X12_livesTick_183 (by decide) ?_
        exact Rn.sub [2, 3, 0] rfl h
      · replace h := h.2 c8
        refine r_aload_n d_X12_livesTick_99 1 rfl rfl ?_
        refine r_iload_n d_X12_livesTick_100 0 rfl rfl ?_
        refine r_iload_n d_X12_livesTick_101 2 rfl rfl ?_
        refine r_callV0 (M' := M_X12_sleepsAt) (ci := 12) [(0, (G 350 x2)), (0, x1)] d_X12_livesTick_102 cl_X12_525 rfl (Nat.le_of_ble_eq_true rfl) (by decide) rfl (bs_ob bs_12) ?_
        refine Ct.mono h (fun r10 G9 h => ?_)
        show Rn _ M_X12_livesTick zN 105 [(3, (0, (G 350 x2))), (0, (2, 311)), (1, (0, x1)), (2, (0, x2))] [(0, r10)] G9 Q
        obtain ⟨h11, h⟩ := h
        refine r_if_ne (tgt := 180) d_X12_livesTick_105 (by decide) h11 (fun c12 => ?_) (fun c12 => ?_)
        · replace h := h.1 c12
          refine r_iinc (ls1 := [(2, (0, (x2 + (-1)))), (3, (0, (G 350 x2))), (0, (2, 311)), (1, (0, x1))]) d_X12_livesTick_180 3 rfl (by decide) rfl ?_
          refine r_goto (tgt := 75) d_X12_livesTick_183 (by decide) ?_
          exact Rn.sub [2, 3, 0] rfl h
        · replace h := h.2 c12
          refine r_aload_n d_X12_livesTick_108 1 rfl rfl ?_
          refine r_getL (v := 351) 12 56 56 rfl d_X12_livesTick_109 fl_X12_129 (by decide) (bs_ob bs_12) (ly_12_56 bs_12).1 (ly_12_56 bs_12).2.1 ?_
          refine r_iload_n d_X12_livesTick_112 0 rfl rfl ?_
          refine r_iaload d_X12_livesTick_113 (ly_12_56 bs_12).2.2 h6 ?_
          refine r_aload_n d_X12_livesTick_114 1 rfl rfl ?_
          refine r_getL (v := 319) 12 16 16 rfl d_X12_livesTick_115 fl_X12_32 (by decide) (bs_ob bs_12) (ly_12_16 bs_12).1 (ly_12_16 bs_12).2.1 ?_
          refine r_iload_n d_X12_livesTick_118 0 rfl rfl ?_
          obtain ⟨h13, h⟩ := h
          refine r_iaload d_X12_livesTick_119 (ly_12_16 bs_12).2.2 h13 ?_
          obtain ⟨h14, h⟩ := h
          obtain ⟨h15, h⟩ := h
          refine r_icmp_lt (tgt := 180) d_X12_livesTick_120 (by decide) h14 h15 (fun c16 => ?_) (fun c16 => ?_)
          · replace h := h.1 c16
            refine r_iinc (ls1 := [(2, (0, (x2 + (-1)))), (3, (0, (G 350 x2))), (0, (2, 311)), (1, (0, x1))]) d_X12_livesTick_180 3 rfl (by decide) rfl ?_
            refine r_goto (tgt := 75) d_X12_livesTick_183 (by decide) ?_
            exact Rn.sub [2, 3, 0] rfl h
          · replace h := h.2 c16
            refine r_aload_n d_X12_livesTick_123 1 rfl rfl ?_
            refine r_iload_n d_X12_livesTick_124 2 rfl rfl ?_
            refine r_callV0 (M' := M_X12_isShut) (ci := 12) [(0, x1)] d_X12_livesTick_125 cl_X12_416 rfl (Nat.le_of_ble_eq_true rfl) (by decide) rfl (bs_ob bs_12) ?_
            refine Ct.mono h (fun r18 G17 h => ?_)
            show Rn _ M_X12_livesTick zN 128 [(3, (0, (G 350 x2))), (0, (2, 311)), (1, (0, x1)), (2, (0, x2))] [(0, r18)] G17 Q
            obtain ⟨h19, h⟩ := h
            refine r_if_ne (tgt := 180) d_X12_livesTick_128 (by decide) h19 (fun c20 => ?_) (fun c20 => ?_)
            · replace h := h.1 c20
              refine r_iinc (ls1 := [(2, (0, (x2 + (-1)))), (3, (0, (G 350 x2))), (0, (2, 311)), (1, (0, x1))]) d_X12_livesTick_180 3 rfl (by decide) rfl ?_
              refine r_goto (tgt := 75) d_X12_livesTick_183 (by decide) ?_
              exact Rn.sub [2, 3, 0] rfl h
            · replace h := h.2 c20
              refine r_aload_n d_X12_livesTick_131 1 rfl rfl ?_
              refine r_iload_n d_X12_livesTick_132 0 rfl rfl ?_
              refine r_iload_n d_X12_livesTick_133 2 rfl rfl ?_
              refine r_iconst d_X12_livesTick_134 ?_
              refine r_callV0 (M' := M_X12_rousesAll) (ci := 12) [(0, (G 350 x2)), (0, x1), (0, 0)] d_X12_livesTick_135 cl_X12_540 rfl (Nat.le_of_ble_eq_true rfl) (by decide) rfl (bs_ob bs_12) ?_
              refine Ct.mono h (fun r22 G21 h => ?_)
              show Rn _ M_X12_livesTick zN 138 [(3, (0, (G 350 x2))), (0, (2, 311)), (1, (0, x1)), (2, (0, x2))] [(0, r22)] G21 Q
              obtain ⟨h23, h⟩ := h
              refine r_if_ne (tgt := 144) d_X12_livesTick_138 (by decide) h23 (fun c24 => ?_) (fun c24 => ?_)
              · replace h := h.1 c24
                refine r_aload_n d_X12_livesTick_144 1 rfl rfl ?_
                refine r_getL (v := 352) 12 57 57 rfl d_X12_livesTick_145 fl_X12_132 (by decide) (bs_ob bs_12) (ly_12_57 bs_12).1 (ly_12_57 bs_12).2.1 ?_
                refine r_iload_n d_X12_livesTick_148 0 rfl rfl ?_
                refine r_iload_n d_X12_livesTick_149 2 rfl rfl ?_
                refine r_iconst d_X12_livesTick_150 ?_
                refine r_iadd d_X12_livesTick_151 ?_
                refine r_aload_n d_X12_livesTick_152 1 rfl rfl ?_
                refine r_iload_n d_X12_livesTick_153 2 rfl rfl ?_
                refine r_aload_n d_X12_livesTick_154 1 rfl rfl ?_
                refine r_callV0 (M' := M_X12_outsNow) (ci := 12) [] d_X12_livesTick_155 cl_X12_543 rfl (Nat.le_of_ble_eq_true rfl) (by decide) rfl (bs_ob bs_12) ?_
                refine Ct.mono h (fun r26 G25 h => ?_)
                show Rn _ M_X12_livesTick zN 158 [(3, (0, (G 350 x2))), (0, (2, 311)), (1, (0, x1)), (2, (0, x2))] [(0, r26), (0, x1), (2, 311), (0, (x1 + 1)), (0, (G 350 x2)), (2, 352)] G25 Q
                refine r_callV0 (M' := M_X12_queueAt) (ci := 12) [(0, x1), (0, r26)] d_X12_livesTick_158 cl_X12_450 rfl (Nat.le_of_ble_eq_true rfl) (by decide) rfl (bs_ob bs_12) ?_
                refine Ct.mono h (fun r28 G27 h => ?_)
                show Rn _ M_X12_livesTick zN 161 [(3, (0, (G 350 x2))), (0, (2, 311)), (1, (0, x1)), (2, (0, x2))] [(0, r28), (0, (x1 + 1)), (0, (G 350 x2)), (2, 352)] G27 Q
                refine r_iadd d_X12_livesTick_161 ?_
                obtain ⟨G29, eG29⟩ : ∃ y : Mem, y = st G27 352 (G 350 x2) ((x1 + 1) + r28) := ⟨_, rfl⟩
                replace h := h G29 eG29
                refine r_iastore d_X12_livesTick_162 (ly_12_57 bs_12).2.2 h6 ?_
                rw [← eG29]
                refine r_aload_n d_X12_livesTick_163 1 rfl rfl ?_
                refine r_getL (v := 351) 12 56 56 rfl d_X12_livesTick_164 fl_X12_129 (by decide) (bs_ob bs_12) (ly_12_56 bs_12).1 (ly_12_56 bs_12).2.1 ?_
                refine r_iload_n d_X12_livesTick_167 0 rfl rfl ?_
                refine r_iconst d_X12_livesTick_168 ?_
                obtain ⟨G30, eG30⟩ : ∃ y : Mem, y = st G29 351 (G 350 x2) 0 := ⟨_, rfl⟩
                replace h := h G30 eG30
                refine r_iastore d_X12_livesTick_169 (ly_12_56 bs_12).2.2 h6 ?_
                rw [← eG30]
                refine r_aload_n d_X12_livesTick_170 1 rfl rfl ?_
                refine r_getL (v := 355) 12 60 60 rfl d_X12_livesTick_171 fl_X12_141 (by decide) (bs_ob bs_12) (ly_12_60 bs_12).1 (ly_12_60 bs_12).2.1 ?_
                refine r_iload_n d_X12_livesTick_174 0 rfl rfl ?_
                refine r_dup2 0 2 rfl rfl (by decide) (by decide) d_X12_livesTick_175 ?_
                refine r_iaload d_X12_livesTick_176 (ly_12_60 bs_12).2.2 h6 ?_
                refine r_iconst d_X12_livesTick_177 ?_
                refine r_iadd d_X12_livesTick_178 ?_
                obtain ⟨G31, eG31⟩ : ∃ y : Mem, y = st G30 355 (G 350 x2) ((G30 355 (G 350 x2)) + 1) := ⟨_, rfl⟩
                replace h := h G31 eG31
                refine r_iastore d_X12_livesTick_179 (ly_12_60 bs_12).2.2 h6 ?_
                rw [← eG31]
                refine r_iinc (ls1 := [(2, (0, (x2 + (-1)))), (3, (0, (G 350 x2))), (0, (2, 311)), (1, (0, x1))]) d_X12_livesTick_180 3 rfl (by decide) rfl ?_
                refine r_goto (tgt := 75) d_X12_livesTick_183 (by decide) ?_
                exact Rn.sub [2, 3, 0] rfl h
              · replace h := h.2 c24
                refine r_goto (tgt := 180) d_X12_livesTick_141 (by decide) ?_
                refine r_iinc (ls1 := [(2, (0, (x2 + (-1)))), (3, (0, (G 350 x2))), (0, (2, 311)), (1, (0, x1))]) d_X12_livesTick_180 3 rfl (by decide) rfl ?_
                refine r_goto (tgt := 75) d_X12_livesTick_183 (by decide) ?_
                exact Rn.sub [2, 3, 0] rfl h
set_option maxRecDepth 20000 in
theorem s_X12_livesTick_188 {d : Nat} {x1 : Int} {x2 : Int} {G : Mem} {Q : Int → Mem → Prop}  (h : (InR x2) ∧ (InR (G 313 8)) ∧ (((G 313 8) ≤ x2) → Q 0 G) ∧ (¬ ((G 313 8) ≤ x2) → (0 ≤ x2 ∧ x2 < 5) ∧ ((InR (G 352 x2)) ∧ (InR x1) ∧ (((G 352 x2) ≤ x1) → (0 ≤ x2 ∧ x2 < 30) ∧ ((InR (G 311 66)) ∧ ((x2 ≠ (G 311 66)) → Rn d M_X12_livesTick zN 231 [(0, (2, 311)), (1, (0, x1)), (2, (0, x2))] [(0, 0), (0, (G 317 x2))] G Q) ∧ (¬ (x2 ≠ (G 311 66)) → Rn d M_X12_livesTick zN 231 [(0, (2, 311)), (1, (0, x1)), (2, (0, x2))] [(0, 1), (0, (G 317 x2))] G Q))) ∧ (¬ ((G 352 x2) ≤ x1) → Rn d M_X12_livesTick zN 188 [(0, (2, 311)), (1, (0, x1)), (2, (0, (x2 + 1)))] [] G Q)))) : Rn d M_X12_livesTick zN 188 [(0, (2, 311)), (1, (0, x1)), (2, (0, x2))] [] G Q := by
  refine r_iload_n d_X12_livesTick_188 2 rfl rfl ?_
  refine r_aload_n d_X12_livesTick_189 0 rfl rfl ?_
  refine r_getL (v := 313) 12 10 10 rfl d_X12_livesTick_190 fl_X12_13 (by decide) (bs_ob bs_12) (ly_12_10 bs_12).1 (ly_12_10 bs_12).2.1 ?_
  refine r_bipush d_X12_livesTick_193 (by decide +kernel) ?_
  refine r_iaload d_X12_livesTick_195 (ly_12_10 bs_12).2.2 (by decide) ?_
  obtain ⟨h1, h⟩ := h
  obtain ⟨h2, h⟩ := h
  refine r_icmp_ge (tgt := 313) d_X12_livesTick_196 (by decide) h1 h2 (fun c3 => ?_) (fun c3 => ?_)
  · replace h := h.1 c3
    exact r_ret d_X12_livesTick_313 rfl ⟨rfl, Nat.le_refl _, Nat.le_refl _⟩ h
  · replace h := h.2 c3
    refine r_aload_n d_X12_livesTick_199 0 rfl rfl ?_
    refine r_getL (v := 352) 12 57 57 rfl d_X12_livesTick_200 fl_X12_132 (by decide) (bs_ob bs_12) (ly_12_57 bs_12).1 (ly_12_57 bs_12).2.1 ?_
    refine r_iload_n d_X12_livesTick_203 2 rfl rfl ?_
    obtain ⟨h4, h⟩ := h
    refine r_iaload d_X12_livesTick_204 (ly_12_57 bs_12).2.2 h4 ?_
    refine r_iload_n d_X12_livesTick_205 1 rfl rfl ?_
    obtain ⟨h5, h⟩ := h
    obtain ⟨h6, h⟩ := h
    refine r_icmp_le (tgt := 212) d_X12_livesTick_206 (by decide) h5 h6 (fun c7 => ?_) (fun c7 => ?_)
    · replace h := h.1 c7
      refine r_aload_n d_X12_livesTick_212 0 rfl rfl ?_
      refine r_getL (v := 317) 12 14 14 rfl d_X12_livesTick_213 fl_X12_26 (by decide) (bs_ob bs_12) (ly_12_14 bs_12).1 (ly_12_14 bs_12).2.1 ?_
      refine r_iload_n d_X12_livesTick_216 2 rfl rfl ?_
      obtain ⟨h8, h⟩ := h
      refine r_iaload d_X12_livesTick_217 (ly_12_14 bs_12).2.2 h8 ?_
      refine r_iload_n d_X12_livesTick_218 2 rfl rfl ?_
      refine r_aload_n d_X12_livesTick_219 0 rfl rfl ?_
      refine r_getI 12 66 66 rfl d_X12_livesTick_220 fl_X12_518 (by decide) (bs_ob bs_12) ?_
      obtain ⟨h9, h⟩ := h
      refine r_icmp_ne (tgt := 230) d_X12_livesTick_223 (by decide) h1 h9 (fun c10 => ?_) (fun c10 => ?_)
      · replace h := h.1 c10
        refine r_iconst d_X12_livesTick_230 ?_
        exact h
      · replace h := h.2 c10
        refine r_iconst d_X12_livesTick_226 ?_
        refine r_goto (tgt := 231) d_X12_livesTick_227 (by decide) ?_
        exact h
    · replace h := h.2 c7
      refine r_goto (tgt := 307) d_X12_livesTick_209 (by decide) ?_
      refine r_iinc (ls1 := [(2, (0, (x2 + 1))), (0, (2, 311)), (1, (0, x1))]) d_X12_livesTick_307 2 rfl (by decide) rfl ?_
      refine r_goto (tgt := 188) d_X12_livesTick_310 (by decide) ?_
      exact Rn.sub [1, 2, 0] rfl h
set_option maxRecDepth 20000 in
theorem s_X12_livesTick_231 {d : Nat} {x1 : Int} {x2 : Int} {s0 : Int} {s1 : Int} {G : Mem} {Q : Int → Mem → Prop}  (h : (0 ≤ x2 ∧ x2 < 5) ∧ ((0 ≤ x2 ∧ x2 < 30) ∧ ((InR (G 315 x2)) ∧ (((G 315 x2) ≠ 1) → Rn d M_X12_livesTick zN 264 [(0, (2, 311)), (1, (0, x1)), (2, (0, x2))] [(0, (s1 + s0)), (0, (G 351 x2)), (0, 199), (0, x2), (2, 351)] G Q) ∧ (¬ ((G 315 x2) ≠ 1) → Rn d M_X12_livesTick zN 264 [(0, (2, 311)), (1, (0, x1)), (2, (0, x2))] [(0, (2 * (s1 + s0))), (0, (G 351 x2)), (0, 199), (0, x2), (2, 351)] G Q)))) : Rn d M_X12_livesTick zN 231 [(0, (2, 311)), (1, (0, x1)), (2, (0, x2))] [(0, s0), (0, s1)] G Q := by
  refine r_iadd d_X12_livesTick_231 ?_
  refine r_istore_n (ls1 := [(3, (0, (s1 + s0))), (0, (2, 311)), (1, (0, x1)), (2, (0, x2))]) d_X12_livesTick_232 rfl (by decide) rfl ?_
  refine r_aload_n d_X12_livesTick_233 1 rfl rfl ?_
  refine r_getL (v := 351) 12 56 56 rfl d_X12_livesTick_234 fl_X12_129 (by decide) (bs_ob bs_12) (ly_12_56 bs_12).1 (ly_12_56 bs_12).2.1 ?_
  refine r_iload_n d_X12_livesTick_237 3 rfl rfl ?_
  refine r_sipush d_X12_livesTick_238 (by decide +kernel) ?_
  refine r_aload_n d_X12_livesTick_241 1 rfl rfl ?_
  refine r_getL (v := 351) 12 56 56 rfl d_X12_livesTick_242 fl_X12_129 (by decide) (bs_ob bs_12) (ly_12_56 bs_12).1 (ly_12_56 bs_12).2.1 ?_
  refine r_iload_n d_X12_livesTick_245 3 rfl rfl ?_
  obtain ⟨h1, h⟩ := h
  refine r_iaload d_X12_livesTick_246 (ly_12_56 bs_12).2.2 h1 ?_
  refine r_aload_n d_X12_livesTick_247 1 rfl rfl ?_
  refine r_getL (v := 315) 12 12 12 rfl d_X12_livesTick_248 fl_X12_20 (by decide) (bs_ob bs_12) (ly_12_12 bs_12).1 (ly_12_12 bs_12).2.1 ?_
  refine r_iload_n d_X12_livesTick_251 3 rfl rfl ?_
  obtain ⟨h2, h⟩ := h
  refine r_iaload d_X12_livesTick_252 (ly_12_12 bs_12).2.2 h2 ?_
  refine r_iconst d_X12_livesTick_253 ?_
  obtain ⟨h3, h⟩ := h
  refine r_icmp_ne (tgt := 263) d_X12_livesTick_254 (by decide) h3 ⟨by decide, by decide⟩ (fun c4 => ?_) (fun c4 => ?_)
  · replace h := h.1 c4
    refine r_iload_n d_X12_livesTick_263 0 rfl rfl ?_
    exact Rn.sub [1, 2, 3] rfl h
  · replace h := h.2 c4
    refine r_iconst d_X12_livesTick_257 ?_
    refine r_iload_n d_X12_livesTick_258 0 rfl rfl ?_
    refine r_imul d_X12_livesTick_259 ?_
    refine r_goto (tgt := 264) d_X12_livesTick_260 (by decide) ?_
    exact Rn.sub [1, 2, 3] rfl h
set_option maxRecDepth 20000 in
theorem s_X12_livesTick_264 {d : Nat} {x1 : Int} {x2 : Int} {s0 : Int} {s1 : Int} {s2 : Int} {s3 : Int} {G : Mem} {Q : Int → Mem → Prop}  (h : (InR s2) ∧ (InR (s1 + s0)) ∧ ((0 ≤ s3 ∧ s3 < 5) ∧ (∀ G4 : Mem, G4 = st G 351 s3 (min s2 (s1 + s0)) → (0 ≤ x2 ∧ x2 < 5) ∧ ((0 ≤ x2 ∧ x2 < 30) ∧ ((InR (G4 351 x2)) ∧ (InR (G4 318 x2)) ∧ (((G4 318 x2) < (G4 351 x2)) → (∀ G10 : Mem, G10 = st G4 357 x2 ((G4 357 x2) + 1) → (∀ G11 : Mem, G11 = st G10 311 65 ((G10 311 65) + 1) → Rn (d + 1) M_X12_livesTick zN 188 [(0, (2, 311)), (1, (0, x1)), (2, (0, (x2 + 1)))] [] G11 Q))) ∧ (¬ ((G4 318 x2) < (G4 351 x2)) → Rn (d + 1) M_X12_livesTick zN 188 [(0, (2, 311)), (1, (0, x1)), (2, (0, (x2 + 1)))] [] G4 Q)))))) : Rn (d + 1) M_X12_livesTick zN 264 [(0, (2, 311)), (1, (0, x1)), (2, (0, x2))] [(0, s0), (0, s1), (0, s2), (0, s3), (2, 351)] G Q := by
  refine r_iadd d_X12_livesTick_264 ?_
  obtain ⟨h1, h⟩ := h
  obtain ⟨h2, h⟩ := h
  refine r_mmin d_X12_livesTick_265 ml_X12_456 h1 h2 (Nat.le_of_ble_eq_true rfl) ?_
  obtain ⟨h3, h⟩ := h
  obtain ⟨G4, eG4⟩ : ∃ y : Mem, y = st G 351 s3 (min s2 (s1 + s0)) := ⟨_, rfl⟩
  replace h := h G4 eG4
  refine r_iastore d_X12_livesTick_268 (ly_12_56 bs_12).2.2 h3 ?_
  rw [← eG4]
  refine r_aload_n d_X12_livesTick_269 0 rfl rfl ?_
  refine r_getL (v := 351) 12 56 56 rfl d_X12_livesTick_270 fl_X12_129 (by decide) (bs_ob bs_12) (ly_12_56 bs_12).1 (ly_12_56 bs_12).2.1 ?_
  refine r_iload_n d_X12_livesTick_273 2 rfl rfl ?_
  obtain ⟨h5, h⟩ := h
  refine r_iaload d_X12_livesTick_274 (ly_12_56 bs_12).2.2 h5 ?_
  refine r_aload_n d_X12_livesTick_275 0 rfl rfl ?_
  refine r_getL (v := 318) 12 15 15 rfl d_X12_livesTick_276 fl_X12_29 (by decide) (bs_ob bs_12) (ly_12_15 bs_12).1 (ly_12_15 bs_12).2.1 ?_
  refine r_iload_n d_X12_livesTick_279 2 rfl rfl ?_
  obtain ⟨h6, h⟩ := h
  refine r_iaload d_X12_livesTick_280 (ly_12_15 bs_12).2.2 h6 ?_
  obtain ⟨h7, h⟩ := h
  obtain ⟨h8, h⟩ := h
  refine r_icmp_gt (tgt := 287) d_X12_livesTick_281 (by decide) h7 h8 (fun c9 => ?_) (fun c9 => ?_)
  · replace h := h.1 c9
    refine r_aload_n d_X12_livesTick_287 0 rfl rfl ?_
    refine r_getL (v := 357) 12 62 62 rfl d_X12_livesTick_288 fl_X12_147 (by decide) (bs_ob bs_12) (ly_12_62 bs_12).1 (ly_12_62 bs_12).2.1 ?_
    refine r_iload_n d_X12_livesTick_291 2 rfl rfl ?_
    refine r_dup2 0 2 rfl rfl (by decide) (by decide) d_X12_livesTick_292 ?_
    refine r_iaload d_X12_livesTick_293 (ly_12_62 bs_12).2.2 h5 ?_
    refine r_iconst d_X12_livesTick_294 ?_
    refine r_iadd d_X12_livesTick_295 ?_
    obtain ⟨G10, eG10⟩ : ∃ y : Mem, y = st G4 357 x2 ((G4 357 x2) + 1) := ⟨_, rfl⟩
    replace h := h G10 eG10
    refine r_iastore d_X12_livesTick_296 (ly_12_62 bs_12).2.2 h5 ?_
    rw [← eG10]
    refine r_aload_n d_X12_livesTick_297 0 rfl rfl ?_
    refine r_dup 2 rfl (by decide) d_X12_livesTick_298 ?_
    refine r_getI 12 65 65 rfl d_X12_livesTick_299 fl_X12_546 (by decide) (bs_ob bs_12) ?_
    refine r_iconst d_X12_livesTick_302 ?_
    refine r_iadd d_X12_livesTick_303 ?_
    obtain ⟨G11, eG11⟩ : ∃ y : Mem, y = st G10 311 65 ((G10 311 65) + 1) := ⟨_, rfl⟩
    replace h := h G11 eG11
    refine r_putI 12 65 65 rfl d_X12_livesTick_304 fl_X12_546 (by decide) nofin_12_65 (bs_ob bs_12) ?_
    rw [← eG11]
    refine r_iinc (ls1 := [(2, (0, (x2 + 1))), (0, (2, 311)), (1, (0, x1))]) d_X12_livesTick_307 2 rfl (by decide) rfl ?_
    refine r_goto (tgt := 188) d_X12_livesTick_310 (by decide) ?_
    exact Rn.sub [1, 2, 0] rfl h
  · replace h := h.2 c9
    refine r_goto (tgt := 307) d_X12_livesTick_284 (by decide) ?_
    refine r_iinc (ls1 := [(2, (0, (x2 + 1))), (0, (2, 311)), (1, (0, x1))]) d_X12_livesTick_307 2 rfl (by decide) rfl ?_
    refine r_goto (tgt := 188) d_X12_livesTick_310 (by decide) ?_
    exact Rn.sub [1, 2, 0] rfl h
