theorem d_X10_put_0 : decode M_X10_put.2.1 0 = .ok (.bipush 56, 2) := by decide +kernel
theorem d_X10_put_2 : decode M_X10_put.2.1 2 = .ok (.istore_n 3, 1) := by decide +kernel
theorem d_X10_put_3 : decode M_X10_put.2.1 3 = .ok (.iload_n 3, 1) := by decide +kernel
theorem d_X10_put_4 : decode M_X10_put.2.1 4 = .ok (.ifCond .lt 72, 3) := by decide +kernel
theorem d_X10_put_7 : decode M_X10_put.2.1 7 = .ok (.lload_n 1, 1) := by decide +kernel
theorem d_X10_put_8 : decode M_X10_put.2.1 8 = .ok (.iload_n 3, 1) := by decide +kernel
theorem d_X10_put_9 : decode M_X10_put.2.1 9 = .ok (.lushr, 1) := by decide +kernel
theorem d_X10_put_10 : decode M_X10_put.2.1 10 = .ok (.ldc2_w 15, 3) := by decide +kernel
theorem d_X10_put_13 : decode M_X10_put.2.1 13 = .ok (.land, 1) := by decide +kernel
theorem d_X10_put_14 : decode M_X10_put.2.1 14 = .ok (.l2i, 1) := by decide +kernel
theorem d_X10_put_15 : decode M_X10_put.2.1 15 = .ok (.istore 4, 2) := by decide +kernel
theorem d_X10_put_17 : decode M_X10_put.2.1 17 = .ok (.iload 4, 2) := by decide +kernel
theorem d_X10_put_19 : decode M_X10_put.2.1 19 = .ok (.bipush 10, 2) := by decide +kernel
theorem d_X10_put_21 : decode M_X10_put.2.1 21 = .ok (.if_icmp .eq 17, 3) := by decide +kernel
theorem d_X10_put_24 : decode M_X10_put.2.1 24 = .ok (.iload 4, 2) := by decide +kernel
theorem d_X10_put_26 : decode M_X10_put.2.1 26 = .ok (.bipush 32, 2) := by decide +kernel
theorem d_X10_put_28 : decode M_X10_put.2.1 28 = .ok (.if_icmp .lt 42, 3) := by decide +kernel
theorem d_X10_put_31 : decode M_X10_put.2.1 31 = .ok (.iload 4, 2) := by decide +kernel
theorem d_X10_put_33 : decode M_X10_put.2.1 33 = .ok (.bipush 126, 2) := by decide +kernel
theorem d_X10_put_35 : decode M_X10_put.2.1 35 = .ok (.if_icmp .gt 35, 3) := by decide +kernel
theorem d_X10_put_38 : decode M_X10_put.2.1 38 = .ok (.aload_n 0, 1) := by decide +kernel
theorem d_X10_put_39 : decode M_X10_put.2.1 39 = .ok (.getfield 17, 3) := by decide +kernel
theorem d_X10_put_42 : decode M_X10_put.2.1 42 = .ok (.sipush 1000, 3) := by decide +kernel
theorem d_X10_put_45 : decode M_X10_put.2.1 45 = .ok (.if_icmp .ge 25, 3) := by decide +kernel
theorem d_X10_put_48 : decode M_X10_put.2.1 48 = .ok (.aload_n 0, 1) := by decide +kernel
theorem d_X10_put_49 : decode M_X10_put.2.1 49 = .ok (.getfield 9, 3) := by decide +kernel
theorem d_X10_put_52 : decode M_X10_put.2.1 52 = .ok (.aload_n 0, 1) := by decide +kernel
theorem d_X10_put_53 : decode M_X10_put.2.1 53 = .ok (.getfield 17, 3) := by decide +kernel
theorem d_X10_put_56 : decode M_X10_put.2.1 56 = .ok (.iload 4, 2) := by decide +kernel
theorem d_X10_put_58 : decode M_X10_put.2.1 58 = .ok (.i2c, 1) := by decide +kernel
theorem d_X10_put_59 : decode M_X10_put.2.1 59 = .ok (.castore, 1) := by decide +kernel
theorem d_X10_put_60 : decode M_X10_put.2.1 60 = .ok (.aload_n 0, 1) := by decide +kernel
theorem d_X10_put_61 : decode M_X10_put.2.1 61 = .ok (.dup, 1) := by decide +kernel
theorem d_X10_put_62 : decode M_X10_put.2.1 62 = .ok (.getfield 17, 3) := by decide +kernel
theorem d_X10_put_65 : decode M_X10_put.2.1 65 = .ok (.iconst 1, 1) := by decide +kernel
theorem d_X10_put_66 : decode M_X10_put.2.1 66 = .ok (.iadd, 1) := by decide +kernel
theorem d_X10_put_67 : decode M_X10_put.2.1 67 = .ok (.putfield 17, 3) := by decide +kernel
theorem d_X10_put_70 : decode M_X10_put.2.1 70 = .ok (.iinc 3 (-8), 3) := by decide +kernel
theorem d_X10_put_73 : decode M_X10_put.2.1 73 = .ok (.goto (-70), 3) := by decide +kernel
theorem d_X10_put_76 : decode M_X10_put.2.1 76 = .ok (.return_, 1) := by decide +kernel
set_option maxRecDepth 20000 in
theorem s_X10_put_0 {d : Nat} {p0 : Int} {G : Mem} {Q : Int → Mem → Prop}  (h : Rn d M_X10_put zN 3 [(0, (2, 1)), (1, (1, p0)), (3, (0, 56))] [] G Q) : Rn d M_X10_put zN 0 [(0, (2, 1)), (1, (1, p0))] [] G Q := by
  refine r_bipush d_X10_put_0 (by decide +kernel) ?_
  refine r_istore_n (ls1 := [(3, (0, 56)), (0, (2, 1)), (1, (1, p0))]) d_X10_put_2 rfl (by decide) rfl ?_
  exact Rn.sub [1, 2, 0] rfl h
set_option maxRecDepth 20000 in
theorem s_X10_put_3 {d : Nat} {x1 : Int} {x3 : Int} {G : Mem} {Q : Int → Mem → Prop}  (h : (InR x3) ∧ ((x3 < 0) → Q 0 G) ∧ (¬ (x3 < 0) → (InR (andL (ushrL x1 x3) 255)) ∧ (((andL (ushrL x1 x3) 255) = 10) → Rn d M_X10_put zN 38 [(0, (2, 1)), (1, (1, x1)), (3, (0, x3)), (4, (0, (andL (ushrL x1 x3) 255)))] [] G Q) ∧ (¬ ((andL (ushrL x1 x3) 255) = 10) → (((andL (ushrL x1 x3) 255) < 32) → Rn d M_X10_put zN 3 [(0, (2, 1)), (1, (1, x1)), (3, (0, (x3 + (-8))))] [] G Q) ∧ (¬ ((andL (ushrL x1 x3) 255) < 32) → ((126 < (andL (ushrL x1 x3) 255)) → Rn d M_X10_put zN 3 [(0, (2, 1)), (1, (1, x1)), (3, (0, (x3 + (-8))))] [] G Q) ∧ (¬ (126 < (andL (ushrL x1 x3) 255)) → Rn d M_X10_put zN 38 [(0, (2, 1)), (1, (1, x1)), (3, (0, x3)), (4, (0, (andL (ushrL x1 x3) 255)))] [] G Q))))) : Rn d M_X10_put zN 3 [(0, (2, 1)), (1, (1, x1)), (3, (0, x3))] [] G Q := by
  refine r_iload_n d_X10_put_3 2 rfl rfl ?_
  obtain ⟨h1, h⟩ := h
  refine r_if_lt (tgt := 76) d_X10_put_4 (by decide) h1 (fun c2 => ?_) (fun c2 => ?_)
  · replace h := h.1 c2
    exact r_ret d_X10_put_76 rfl ⟨rfl, Nat.le_refl _, Nat.le_refl _⟩ h
  · replace h := h.2 c2
    refine r_lload_n d_X10_put_7 1 rfl rfl ?_
    refine r_iload_n d_X10_put_8 2 rfl rfl ?_
    refine r_lushr d_X10_put_9 ?_
    refine r_ldc2 (x := 255) d_X10_put_10 cst_X10_15 ?_
    refine r_land d_X10_put_13 ?_
    refine r_l2i d_X10_put_14 ?_
    refine r_istore (ls1 := [(4, (0, (andL (ushrL x1 x3) 255))), (0, (2, 1)), (1, (1, x1)), (3, (0, x3))]) d_X10_put_15 (by decide) rfl ?_
    refine r_iload d_X10_put_17 0 rfl ?_
    refine r_bipush d_X10_put_19 (by decide +kernel) ?_
    obtain ⟨h3, h⟩ := h
    refine r_icmp_eq (tgt := 38) d_X10_put_21 (by decide) h3 ⟨by decide, by decide⟩ (fun c4 => ?_) (fun c4 => ?_)
    · replace h := h.1 c4
      exact Rn.sub [1, 2, 3, 0] rfl h
    · replace h := h.2 c4
      refine r_iload d_X10_put_24 0 rfl ?_
      refine r_bipush d_X10_put_26 (by decide +kernel) ?_
      refine r_icmp_lt (tgt := 70) d_X10_put_28 (by decide) h3 ⟨by decide, by decide⟩ (fun c5 => ?_) (fun c5 => ?_)
      · replace h := h.1 c5
        refine r_iinc (ls1 := [(3, (0, (x3 + (-8)))), (4, (0, (andL (ushrL x1 x3) 255))), (0, (2, 1)), (1, (1, x1))]) d_X10_put_70 3 rfl (by decide) rfl ?_
        refine r_goto (tgt := 3) d_X10_put_73 (by decide) ?_
        exact Rn.sub [2, 3, 0] rfl h
      · replace h := h.2 c5
        refine r_iload d_X10_put_31 0 rfl ?_
        refine r_bipush d_X10_put_33 (by decide +kernel) ?_
        refine r_icmp_gt (tgt := 70) d_X10_put_35 (by decide) h3 ⟨by decide, by decide⟩ (fun c6 => ?_) (fun c6 => ?_)
        · replace h := h.1 c6
          refine r_iinc (ls1 := [(3, (0, (x3 + (-8)))), (4, (0, (andL (ushrL x1 x3) 255))), (0, (2, 1)), (1, (1, x1))]) d_X10_put_70 3 rfl (by decide) rfl ?_
          refine r_goto (tgt := 3) d_X10_put_73 (by decide) ?_
          exact Rn.sub [2, 3, 0] rfl h
        · replace h := h.2 c6
          exact Rn.sub [1, 2, 3, 0] rfl h
set_option maxRecDepth 20000 in
theorem s_X10_put_38 {d : Nat} {x1 : Int} {x3 : Int} {x4 : Int} {G : Mem} {Q : Int → Mem → Prop}  (h : (InR (G 1 1)) ∧ ((1000 ≤ (G 1 1)) → Rn d M_X10_put zN 3 [(0, (2, 1)), (1, (1, x1)), (3, (0, (x3 + (-8))))] [] G Q) ∧ (¬ (1000 ≤ (G 1 1)) → (0 ≤ x4 ∧ x4 < 65536) ∧ ((0 ≤ (G 1 1) ∧ (G 1 1) < 1000) ∧ (∀ G5 : Mem, G5 = st G 2 (G 1 1) x4 → (∀ G6 : Mem, G6 = st G5 1 1 ((G5 1 1) + 1) → Rn d M_X10_put zN 3 [(0, (2, 1)), (1, (1, x1)), (3, (0, (x3 + (-8))))] [] G6 Q))))) : Rn d M_X10_put zN 38 [(0, (2, 1)), (1, (1, x1)), (3, (0, x3)), (4, (0, x4))] [] G Q := by
  refine r_aload_n d_X10_put_38 0 rfl rfl ?_
  refine r_getI 10 1 1 rfl d_X10_put_39 fl_X10_17 (by decide) (bs_ob bs_10) ?_
  refine r_sipush d_X10_put_42 (by decide +kernel) ?_
  obtain ⟨h1, h⟩ := h
  refine r_icmp_ge (tgt := 70) d_X10_put_45 (by decide) h1 ⟨by decide, by decide⟩ (fun c2 => ?_) (fun c2 => ?_)
  · replace h := h.1 c2
    refine r_iinc (ls1 := [(3, (0, (x3 + (-8)))), (0, (2, 1)), (1, (1, x1)), (4, (0, x4))]) d_X10_put_70 2 rfl (by decide) rfl ?_
    refine r_goto (tgt := 3) d_X10_put_73 (by decide) ?_
    exact Rn.sub [1, 2, 0] rfl h
  · replace h := h.2 c2
    refine r_aload_n d_X10_put_48 0 rfl rfl ?_
    refine r_getL (v := 2) 10 0 0 rfl d_X10_put_49 fl_X10_9 (by decide) (bs_ob bs_10) (ly_10_0 bs_10).1 (ly_10_0 bs_10).2.1 ?_
    refine r_aload_n d_X10_put_52 0 rfl rfl ?_
    refine r_getI 10 1 1 rfl d_X10_put_53 fl_X10_17 (by decide) (bs_ob bs_10) ?_
    refine r_iload d_X10_put_56 3 rfl ?_
    obtain ⟨h3, h⟩ := h
    refine r_i2c d_X10_put_58 h3 ?_
    obtain ⟨h4, h⟩ := h
    obtain ⟨G5, eG5⟩ : ∃ y : Mem, y = st G 2 (G 1 1) x4 := ⟨_, rfl⟩
    replace h := h G5 eG5
    refine r_castore d_X10_put_59 (ly_10_0 bs_10).2.2 h4 h3 ?_
    rw [← eG5]
    refine r_aload_n d_X10_put_60 0 rfl rfl ?_
    refine r_dup 2 rfl (by decide) d_X10_put_61 ?_
    refine r_getI 10 1 1 rfl d_X10_put_62 fl_X10_17 (by decide) (bs_ob bs_10) ?_
    refine r_iconst d_X10_put_65 ?_
    refine r_iadd d_X10_put_66 ?_
    obtain ⟨G6, eG6⟩ : ∃ y : Mem, y = st G5 1 1 ((G5 1 1) + 1) := ⟨_, rfl⟩
    replace h := h G6 eG6
    refine r_putI 10 1 1 rfl d_X10_put_67 fl_X10_17 (by decide) nofin_10_1 (bs_ob bs_10) ?_
    rw [← eG6]
    refine r_iinc (ls1 := [(3, (0, (x3 + (-8)))), (0, (2, 1)), (1, (1, x1)), (4, (0, x4))]) d_X10_put_70 2 rfl (by decide) rfl ?_
    refine r_goto (tgt := 3) d_X10_put_73 (by decide) ?_
    exact Rn.sub [1, 2, 0] rfl h
theorem d_X10_begin_0 : decode M_X10_begin.2.1 0 = .ok (.aload_n 0, 1) := by decide +kernel
theorem d_X10_begin_1 : decode M_X10_begin.2.1 1 = .ok (.iconst 0, 1) := by decide +kernel
theorem d_X10_begin_2 : decode M_X10_begin.2.1 2 = .ok (.putfield 21, 3) := by decide +kernel
theorem d_X10_begin_5 : decode M_X10_begin.2.1 5 = .ok (.aload_n 0, 1) := by decide +kernel
theorem d_X10_begin_6 : decode M_X10_begin.2.1 6 = .ok (.invokevirtual 24, 3) := by decide +kernel
theorem d_X10_begin_9 : decode M_X10_begin.2.1 9 = .ok (.return_, 1) := by decide +kernel
set_option maxRecDepth 20000 in
theorem s_X10_begin_0 {d : Nat}  {G : Mem} {Q : Int → Mem → Prop}  (h : (∀ G1 : Mem, G1 = st G 1 6 0 → Ct d M_X10_step NT 0 0 (some lay) [(2, 1)] G1 (fun r3 G2 => Q 0 G2))) : Rn (d + 1) M_X10_begin zN 0 [(0, (2, 1))] [] G Q := by
  refine r_aload_n d_X10_begin_0 0 rfl rfl ?_
  refine r_iconst d_X10_begin_1 ?_
  obtain ⟨G1, eG1⟩ : ∃ y : Mem, y = st G 1 6 0 := ⟨_, rfl⟩
  replace h := h G1 eG1
  refine r_putI 10 6 6 rfl d_X10_begin_2 fl_X10_21 (by decide) nofin_10_6 (bs_ob bs_10) ?_
  rw [← eG1]
  refine r_aload_n d_X10_begin_5 0 rfl rfl ?_
  refine r_callV0 (M' := M_X10_step) (ci := 10) [] d_X10_begin_6 cl_X10_24 rfl (Nat.le_of_ble_eq_true rfl) (by decide) rfl (bs_ob bs_10) ?_
  refine Ct.mono h (fun r3 G2 h => ?_)
  show Rn _ M_X10_begin zN 9 [(0, (2, 1))] [] G2 Q
  exact r_ret d_X10_begin_9 rfl ⟨rfl, Nat.le_refl _, Nat.le_refl _⟩ h
theorem d_X10_step_0 : decode M_X10_step.2.1 0 = .ok (.aload_n 0, 1) := by decide +kernel
theorem d_X10_step_1 : decode M_X10_step.2.1 1 = .ok (.getfield 21, 3) := by decide +kernel
theorem d_X10_step_4 : decode M_X10_step.2.1 4 = .ok (.aload_n 0, 1) := by decide +kernel
theorem d_X10_step_5 : decode M_X10_step.2.1 5 = .ok (.getfield 17, 3) := by decide +kernel
theorem d_X10_step_8 : decode M_X10_step.2.1 8 = .ok (.if_icmp .ge 44, 3) := by decide +kernel
theorem d_X10_step_11 : decode M_X10_step.2.1 11 = .ok (.aload_n 0, 1) := by decide +kernel
theorem d_X10_step_12 : decode M_X10_step.2.1 12 = .ok (.getfield 9, 3) := by decide +kernel
theorem d_X10_step_15 : decode M_X10_step.2.1 15 = .ok (.aload_n 0, 1) := by decide +kernel
theorem d_X10_step_16 : decode M_X10_step.2.1 16 = .ok (.getfield 21, 3) := by decide +kernel
theorem d_X10_step_19 : decode M_X10_step.2.1 19 = .ok (.caload, 1) := by decide +kernel
theorem d_X10_step_20 : decode M_X10_step.2.1 20 = .ok (.bipush 10, 2) := by decide +kernel
theorem d_X10_step_22 : decode M_X10_step.2.1 22 = .ok (.if_icmp .eq 17, 3) := by decide +kernel
theorem d_X10_step_25 : decode M_X10_step.2.1 25 = .ok (.aload_n 0, 1) := by decide +kernel
theorem d_X10_step_26 : decode M_X10_step.2.1 26 = .ok (.getfield 9, 3) := by decide +kernel
theorem d_X10_step_29 : decode M_X10_step.2.1 29 = .ok (.aload_n 0, 1) := by decide +kernel
theorem d_X10_step_30 : decode M_X10_step.2.1 30 = .ok (.getfield 21, 3) := by decide +kernel
theorem d_X10_step_33 : decode M_X10_step.2.1 33 = .ok (.caload, 1) := by decide +kernel
theorem d_X10_step_34 : decode M_X10_step.2.1 34 = .ok (.bipush 32, 2) := by decide +kernel
theorem d_X10_step_36 : decode M_X10_step.2.1 36 = .ok (.if_icmp .ne 16, 3) := by decide +kernel
theorem d_X10_step_39 : decode M_X10_step.2.1 39 = .ok (.aload_n 0, 1) := by decide +kernel
theorem d_X10_step_40 : decode M_X10_step.2.1 40 = .ok (.dup, 1) := by decide +kernel
theorem d_X10_step_41 : decode M_X10_step.2.1 41 = .ok (.getfield 21, 3) := by decide +kernel
theorem d_X10_step_44 : decode M_X10_step.2.1 44 = .ok (.iconst 1, 1) := by decide +kernel
theorem d_X10_step_45 : decode M_X10_step.2.1 45 = .ok (.iadd, 1) := by decide +kernel
theorem d_X10_step_46 : decode M_X10_step.2.1 46 = .ok (.putfield 21, 3) := by decide +kernel
theorem d_X10_step_49 : decode M_X10_step.2.1 49 = .ok (.goto (-49), 3) := by decide +kernel
theorem d_X10_step_52 : decode M_X10_step.2.1 52 = .ok (.aload_n 0, 1) := by decide +kernel
theorem d_X10_step_53 : decode M_X10_step.2.1 53 = .ok (.aload_n 0, 1) := by decide +kernel
theorem d_X10_step_54 : decode M_X10_step.2.1 54 = .ok (.getfield 21, 3) := by decide +kernel
theorem d_X10_step_57 : decode M_X10_step.2.1 57 = .ok (.putfield 27, 3) := by decide +kernel
theorem d_X10_step_60 : decode M_X10_step.2.1 60 = .ok (.aload_n 0, 1) := by decide +kernel
theorem d_X10_step_61 : decode M_X10_step.2.1 61 = .ok (.iconst 0, 1) := by decide +kernel
theorem d_X10_step_62 : decode M_X10_step.2.1 62 = .ok (.putfield 30, 3) := by decide +kernel
theorem d_X10_step_65 : decode M_X10_step.2.1 65 = .ok (.aload_n 0, 1) := by decide +kernel
theorem d_X10_step_66 : decode M_X10_step.2.1 66 = .ok (.getfield 21, 3) := by decide +kernel
theorem d_X10_step_69 : decode M_X10_step.2.1 69 = .ok (.aload_n 0, 1) := by decide +kernel
theorem d_X10_step_70 : decode M_X10_step.2.1 70 = .ok (.getfield 17, 3) := by decide +kernel
theorem d_X10_step_73 : decode M_X10_step.2.1 73 = .ok (.if_icmp .ge 15, 3) := by decide +kernel
theorem d_X10_step_76 : decode M_X10_step.2.1 76 = .ok (.aload_n 0, 1) := by decide +kernel
theorem d_X10_step_77 : decode M_X10_step.2.1 77 = .ok (.getfield 9, 3) := by decide +kernel
theorem d_X10_step_80 : decode M_X10_step.2.1 80 = .ok (.aload_n 0, 1) := by decide +kernel
theorem d_X10_step_81 : decode M_X10_step.2.1 81 = .ok (.getfield 21, 3) := by decide +kernel
theorem d_X10_step_84 : decode M_X10_step.2.1 84 = .ok (.caload, 1) := by decide +kernel
theorem d_X10_step_85 : decode M_X10_step.2.1 85 = .ok (.goto 4, 3) := by decide +kernel
theorem d_X10_step_88 : decode M_X10_step.2.1 88 = .ok (.iconst 0, 1) := by decide +kernel
theorem d_X10_step_89 : decode M_X10_step.2.1 89 = .ok (.istore_n 1, 1) := by decide +kernel
theorem d_X10_step_90 : decode M_X10_step.2.1 90 = .ok (.iload_n 1, 1) := by decide +kernel
theorem d_X10_step_91 : decode M_X10_step.2.1 91 = .ok (.ifCond .ne 11, 3) := by decide +kernel
theorem d_X10_step_94 : decode M_X10_step.2.1 94 = .ok (.aload_n 0, 1) := by decide +kernel
theorem d_X10_step_95 : decode M_X10_step.2.1 95 = .ok (.iconst 0, 1) := by decide +kernel
theorem d_X10_step_96 : decode M_X10_step.2.1 96 = .ok (.putfield 33, 3) := by decide +kernel
theorem d_X10_step_99 : decode M_X10_step.2.1 99 = .ok (.goto 81, 3) := by decide +kernel
theorem d_X10_step_102 : decode M_X10_step.2.1 102 = .ok (.iload_n 1, 1) := by decide +kernel
theorem d_X10_step_103 : decode M_X10_step.2.1 103 = .ok (.invokestatic 36, 3) := by decide +kernel
theorem d_X10_step_106 : decode M_X10_step.2.1 106 = .ok (.ifCond .eq 29, 3) := by decide +kernel
theorem d_X10_step_109 : decode M_X10_step.2.1 109 = .ok (.aload_n 0, 1) := by decide +kernel
theorem d_X10_step_110 : decode M_X10_step.2.1 110 = .ok (.invokevirtual 40, 3) := by decide +kernel
theorem d_X10_step_113 : decode M_X10_step.2.1 113 = .ok (.aload_n 0, 1) := by decide +kernel
theorem d_X10_step_114 : decode M_X10_step.2.1 114 = .ok (.aload_n 0, 1) := by decide +kernel
theorem d_X10_step_115 : decode M_X10_step.2.1 115 = .ok (.getfield 9, 3) := by decide +kernel
theorem d_X10_step_118 : decode M_X10_step.2.1 118 = .ok (.aload_n 0, 1) := by decide +kernel
theorem d_X10_step_119 : decode M_X10_step.2.1 119 = .ok (.getfield 27, 3) := by decide +kernel
theorem d_X10_step_122 : decode M_X10_step.2.1 122 = .ok (.aload_n 0, 1) := by decide +kernel
theorem d_X10_step_123 : decode M_X10_step.2.1 123 = .ok (.getfield 21, 3) := by decide +kernel
theorem d_X10_step_126 : decode M_X10_step.2.1 126 = .ok (.invokestatic 43, 3) := by decide +kernel
theorem d_X10_step_129 : decode M_X10_step.2.1 129 = .ok (.putfield 30, 3) := by decide +kernel
theorem d_X10_step_132 : decode M_X10_step.2.1 132 = .ok (.goto 48, 3) := by decide +kernel
theorem d_X10_step_135 : decode M_X10_step.2.1 135 = .ok (.iload_n 1, 1) := by decide +kernel
theorem d_X10_step_136 : decode M_X10_step.2.1 136 = .ok (.invokestatic 47, 3) := by decide +kernel
theorem d_X10_step_139 : decode M_X10_step.2.1 139 = .ok (.ifCond .eq 10, 3) := by decide +kernel
theorem d_X10_step_142 : decode M_X10_step.2.1 142 = .ok (.aload_n 0, 1) := by decide +kernel
theorem d_X10_step_143 : decode M_X10_step.2.1 143 = .ok (.invokevirtual 50, 3) := by decide +kernel
theorem d_X10_step_146 : decode M_X10_step.2.1 146 = .ok (.goto 34, 3) := by decide +kernel
theorem d_X10_step_149 : decode M_X10_step.2.1 149 = .ok (.aload_n 0, 1) := by decide +kernel
theorem d_X10_step_150 : decode M_X10_step.2.1 150 = .ok (.iload_n 1, 1) := by decide +kernel
theorem d_X10_step_151 : decode M_X10_step.2.1 151 = .ok (.invokestatic 53, 3) := by decide +kernel
theorem d_X10_step_154 : decode M_X10_step.2.1 154 = .ok (.ifCond .eq 7, 3) := by decide +kernel
theorem d_X10_step_157 : decode M_X10_step.2.1 157 = .ok (.iconst 4, 1) := by decide +kernel
theorem d_X10_step_158 : decode M_X10_step.2.1 158 = .ok (.goto 4, 3) := by decide +kernel
theorem d_X10_step_161 : decode M_X10_step.2.1 161 = .ok (.iconst 1, 1) := by decide +kernel
theorem d_X10_step_162 : decode M_X10_step.2.1 162 = .ok (.putfield 33, 3) := by decide +kernel
theorem d_X10_step_165 : decode M_X10_step.2.1 165 = .ok (.aload_n 0, 1) := by decide +kernel
theorem d_X10_step_166 : decode M_X10_step.2.1 166 = .ok (.iload_n 1, 1) := by decide +kernel
theorem d_X10_step_167 : decode M_X10_step.2.1 167 = .ok (.putfield 30, 3) := by decide +kernel
theorem d_X10_step_170 : decode M_X10_step.2.1 170 = .ok (.aload_n 0, 1) := by decide +kernel
theorem d_X10_step_171 : decode M_X10_step.2.1 171 = .ok (.dup, 1) := by decide +kernel
theorem d_X10_step_172 : decode M_X10_step.2.1 172 = .ok (.getfield 21, 3) := by decide +kernel
theorem d_X10_step_175 : decode M_X10_step.2.1 175 = .ok (.iconst 1, 1) := by decide +kernel
theorem d_X10_step_176 : decode M_X10_step.2.1 176 = .ok (.iadd, 1) := by decide +kernel
theorem d_X10_step_177 : decode M_X10_step.2.1 177 = .ok (.putfield 21, 3) := by decide +kernel
theorem d_X10_step_180 : decode M_X10_step.2.1 180 = .ok (.return_, 1) := by decide +kernel
set_option maxRecDepth 20000 in
theorem s_X10_step_0 {d : Nat}  {G : Mem} {Q : Int → Mem → Prop}  (h : (InR (G 1 6)) ∧ (InR (G 1 1)) ∧ (((G 1 1) ≤ (G 1 6)) → Rn d M_X10_step zN 52 [(0, (2, 1))] [] G Q) ∧ (¬ ((G 1 1) ≤ (G 1 6)) → (0 ≤ (G 1 6) ∧ (G 1 6) < 1000) ∧ ((InR (G 2 (G 1 6))) ∧ (((G 2 (G 1 6)) = 10) → Rn d M_X10_step zN 39 [(0, (2, 1))] [] G Q) ∧ (¬ ((G 2 (G 1 6)) = 10) → (((G 2 (G 1 6)) ≠ 32) → Rn d M_X10_step zN 52 [(0, (2, 1))] [] G Q) ∧ (¬ ((G 2 (G 1 6)) ≠ 32) → Rn d M_X10_step zN 39 [(0, (2, 1))] [] G Q))))) : Rn d M_X10_step zN 0 [(0, (2, 1))] [] G Q := by
  refine r_aload_n d_X10_step_0 0 rfl rfl ?_
  refine r_getI 10 6 6 rfl d_X10_step_1 fl_X10_21 (by decide) (bs_ob bs_10) ?_
  refine r_aload_n d_X10_step_4 0 rfl rfl ?_
  refine r_getI 10 1 1 rfl d_X10_step_5 fl_X10_17 (by decide) (bs_ob bs_10) ?_
  obtain ⟨h1, h⟩ := h
  obtain ⟨h2, h⟩ := h
  refine r_icmp_ge (tgt := 52) d_X10_step_8 (by decide) h1 h2 (fun c3 => ?_) (fun c3 => ?_)
  · replace h := h.1 c3
    exact h
  · replace h := h.2 c3
    refine r_aload_n d_X10_step_11 0 rfl rfl ?_
    refine r_getL (v := 2) 10 0 0 rfl d_X10_step_12 fl_X10_9 (by decide) (bs_ob bs_10) (ly_10_0 bs_10).1 (ly_10_0 bs_10).2.1 ?_
    refine r_aload_n d_X10_step_15 0 rfl rfl ?_
    refine r_getI 10 6 6 rfl d_X10_step_16 fl_X10_21 (by decide) (bs_ob bs_10) ?_
    obtain ⟨h4, h⟩ := h
    refine r_caload d_X10_step_19 (ly_10_0 bs_10).2.2 h4 ?_
    refine r_bipush d_X10_step_20 (by decide +kernel) ?_
    obtain ⟨h5, h⟩ := h
    refine r_icmp_eq (tgt := 39) d_X10_step_22 (by decide) h5 ⟨by decide, by decide⟩ (fun c6 => ?_) (fun c6 => ?_)
    · replace h := h.1 c6
      exact h
    · replace h := h.2 c6
      refine r_aload_n d_X10_step_25 0 rfl rfl ?_
      refine r_getL (v := 2) 10 0 0 rfl d_X10_step_26 fl_X10_9 (by decide) (bs_ob bs_10) (ly_10_0 bs_10).1 (ly_10_0 bs_10).2.1 ?_
      refine r_aload_n d_X10_step_29 0 rfl rfl ?_
      refine r_getI 10 6 6 rfl d_X10_step_30 fl_X10_21 (by decide) (bs_ob bs_10) ?_
      refine r_caload d_X10_step_33 (ly_10_0 bs_10).2.2 h4 ?_
      refine r_bipush d_X10_step_34 (by decide +kernel) ?_
      refine r_icmp_ne (tgt := 52) d_X10_step_36 (by decide) h5 ⟨by decide, by decide⟩ (fun c7 => ?_) (fun c7 => ?_)
      · replace h := h.1 c7
        exact h
      · replace h := h.2 c7
        exact h
set_option maxRecDepth 20000 in
theorem s_X10_step_52 {d : Nat}  {G : Mem} {Q : Int → Mem → Prop}  (h : (∀ G1 : Mem, G1 = st G 1 2 (G 1 6) → (∀ G2 : Mem, G2 = st G1 1 4 0 → (InR (G2 1 6)) ∧ (InR (G2 1 1)) ∧ (((G2 1 1) ≤ (G2 1 6)) → Rn d M_X10_step zN 89 [(0, (2, 1))] [(0, 0)] G2 Q) ∧ (¬ ((G2 1 1) ≤ (G2 1 6)) → (0 ≤ (G2 1 6) ∧ (G2 1 6) < 1000) ∧ (Rn d M_X10_step zN 89 [(0, (2, 1))] [(0, (G2 2 (G2 1 6)))] G2 Q))))) : Rn d M_X10_step zN 52 [(0, (2, 1))] [] G Q := by
  refine r_aload_n d_X10_step_52 0 rfl rfl ?_
  refine r_aload_n d_X10_step_53 0 rfl rfl ?_
  refine r_getI 10 6 6 rfl d_X10_step_54 fl_X10_21 (by decide) (bs_ob bs_10) ?_
  obtain ⟨G1, eG1⟩ : ∃ y : Mem, y = st G 1 2 (G 1 6) := ⟨_, rfl⟩
  replace h := h G1 eG1
  refine r_putI 10 2 2 rfl d_X10_step_57 fl_X10_27 (by decide) nofin_10_2 (bs_ob bs_10) ?_
  rw [← eG1]
  refine r_aload_n d_X10_step_60 0 rfl rfl ?_
  refine r_iconst d_X10_step_61 ?_
  obtain ⟨G2, eG2⟩ : ∃ y : Mem, y = st G1 1 4 0 := ⟨_, rfl⟩
  replace h := h G2 eG2
  refine r_putI 10 4 4 rfl d_X10_step_62 fl_X10_30 (by decide) nofin_10_4 (bs_ob bs_10) ?_
  rw [← eG2]
  refine r_aload_n d_X10_step_65 0 rfl rfl ?_
  refine r_getI 10 6 6 rfl d_X10_step_66 fl_X10_21 (by decide) (bs_ob bs_10) ?_
  refine r_aload_n d_X10_step_69 0 rfl rfl ?_
  refine r_getI 10 1 1 rfl d_X10_step_70 fl_X10_17 (by decide) (bs_ob bs_10) ?_
  obtain ⟨h3, h⟩ := h
  obtain ⟨h4, h⟩ := h
  refine r_icmp_ge (tgt := 88) d_X10_step_73 (by decide) h3 h4 (fun c5 => ?_) (fun c5 => ?_)
  · replace h := h.1 c5
    refine r_iconst d_X10_step_88 ?_
    exact h
  · replace h := h.2 c5
    refine r_aload_n d_X10_step_76 0 rfl rfl ?_
    refine r_getL (v := 2) 10 0 0 rfl d_X10_step_77 fl_X10_9 (by decide) (bs_ob bs_10) (ly_10_0 bs_10).1 (ly_10_0 bs_10).2.1 ?_
    refine r_aload_n d_X10_step_80 0 rfl rfl ?_
    refine r_getI 10 6 6 rfl d_X10_step_81 fl_X10_21 (by decide) (bs_ob bs_10) ?_
    obtain ⟨h6, h⟩ := h
    refine r_caload d_X10_step_84 (ly_10_0 bs_10).2.2 h6 ?_
    refine r_goto (tgt := 89) d_X10_step_85 (by decide) ?_
    exact h
set_option maxRecDepth 20000 in
theorem s_X10_step_39 {d : Nat}  {G : Mem} {Q : Int → Mem → Prop}  (h : (∀ G1 : Mem, G1 = st G 1 6 ((G 1 6) + 1) → Rn d M_X10_step zN 0 [(0, (2, 1))] [] G1 Q)) : Rn d M_X10_step zN 39 [(0, (2, 1))] [] G Q := by
  refine r_aload_n d_X10_step_39 0 rfl rfl ?_
  refine r_dup 2 rfl (by decide) d_X10_step_40 ?_
  refine r_getI 10 6 6 rfl d_X10_step_41 fl_X10_21 (by decide) (bs_ob bs_10) ?_
  refine r_iconst d_X10_step_44 ?_
  refine r_iadd d_X10_step_45 ?_
  obtain ⟨G1, eG1⟩ : ∃ y : Mem, y = st G 1 6 ((G 1 6) + 1) := ⟨_, rfl⟩
  replace h := h G1 eG1
  refine r_putI 10 6 6 rfl d_X10_step_46 fl_X10_21 (by decide) nofin_10_6 (bs_ob bs_10) ?_
  rw [← eG1]
  refine r_goto (tgt := 0) d_X10_step_49 (by decide) ?_
  exact h
set_option maxRecDepth 20000 in
theorem s_X10_step_89 {d : Nat} {s0 : Int} {G : Mem} {Q : Int → Mem → Prop}  (h : (InR s0) ∧ ((s0 ≠ 0) → Ct d M_X10_isLetter NT 0 0 (some lay) [(0, s0)] G (fun r4 G3 => (InR r4) ∧ ((r4 = 0) → Ct d M_X10_isDigit NT 0 0 (some lay) [(0, s0)] G3 (fun r8 G7 => (InR r8) ∧ ((r8 = 0) → Ct d M_X10_isSign NT 0 0 (some lay) [(0, s0)] G7 (fun r12 G11 => (InR r12) ∧ ((r12 = 0) → Rn (d + 1) M_X10_step zN 162 [(0, (2, 1)), (1, (0, s0))] [(0, 1), (2, 1)] G11 Q) ∧ (¬ (r12 = 0) → Rn (d + 1) M_X10_step zN 162 [(0, (2, 1)), (1, (0, s0))] [(0, 4), (2, 1)] G11 Q))) ∧ (¬ (r8 = 0) → Ct d M_X10_readNumber NT 0 0 (some lay) [(2, 1)] G7 (fun r16 G15 => Q 0 G15)))) ∧ (¬ (r4 = 0) → Ct d M_X10_readWord NT 0 0 (some lay) [(2, 1)] G3 (fun r18 G17 => Ct d M_X10_indexOf NT 0 0 (some lay) [(2, 2), (0, (G17 1 2)), (0, (G17 1 6))] G17 (fun r20 G19 => (∀ G21 : Mem, G21 = st G19 1 4 r20 → Q 0 G21)))))) ∧ (¬ (s0 ≠ 0) → (∀ G22 : Mem, G22 = st G 1 3 0 → Q 0 G22))) : Rn (d + 1) M_X10_step zN 89 [(0, (2, 1))] [(0, s0)] G Q := by
  refine r_istore_n (ls1 := [(1, (0, s0)), (0, (2, 1))]) d_X10_step_89 rfl (by decide) rfl ?_
  refine r_iload_n d_X10_step_90 0 rfl rfl ?_
  obtain ⟨h1, h⟩ := h
  refine r_if_ne (tgt := 102) d_X10_step_91 (by decide) h1 (fun c2 => ?_) (fun c2 => ?_)
  · replace h := h.1 c2
    refine r_iload_n d_X10_step_102 0 rfl rfl ?_
    refine r_callS0 (M' := M_X10_isLetter) [(0, s0)] d_X10_step_103 cl_X10_36 rfl (Nat.le_of_ble_eq_true rfl) ?_
    refine Ct.mono h (fun r4 G3 h => ?_)
    show Rn _ M_X10_step zN 106 [(1, (0, s0)), (0, (2, 1))] [(0, r4)] G3 Q
    obtain ⟨h5, h⟩ := h
    refine r_if_eq (tgt := 135) d_X10_step_106 (by decide) h5 (fun c6 => ?_) (fun c6 => ?_)
    · replace h := h.1 c6
      refine r_iload_n d_X10_step_135 0 rfl rfl ?_
      refine r_callS0 (M' := M_X10_isDigit) [(0, s0)] d_X10_step_136 cl_X10_47 rfl (Nat.le_of_ble_eq_true rfl) ?_
      refine Ct.mono h (fun r8 G7 h => ?_)
      show Rn _ M_X10_step zN 139 [(1, (0, s0)), (0, (2, 1))] [(0, r8)] G7 Q
      obtain ⟨h9, h⟩ := h
      refine r_if_eq (tgt := 149) d_X10_step_139 (by decide) h9 (fun c10 => ?_) (fun c10 => ?_)
      · replace h := h.1 c10
        refine r_aload_n d_X10_step_149 1 rfl rfl ?_
        refine r_iload_n d_X10_step_150 0 rfl rfl ?_
        refine r_callS0 (M' := M_X10_isSign) [(0, s0)] d_X10_step_151 cl_X10_53 rfl (Nat.le_of_ble_eq_true rfl) ?_
        refine Ct.mono h (fun r12 G11 h => ?_)
        show Rn _ M_X10_step zN 154 [(1, (0, s0)), (0, (2, 1))] [(0, r12), (2, 1)] G11 Q
        obtain ⟨h13, h⟩ := h
        refine r_if_eq (tgt := 161) d_X10_step_154 (by decide) h13 (fun c14 => ?_) (fun c14 => ?_)
        · replace h := h.1 c14
          refine r_iconst d_X10_step_161 ?_
          exact Rn.sub [1, 0] rfl h
        · replace h := h.2 c14
          refine r_iconst d_X10_step_157 ?_
          refine r_goto (tgt := 162) d_X10_step_158 (by decide) ?_
          exact Rn.sub [1, 0] rfl h
      · replace h := h.2 c10
        refine r_aload_n d_X10_step_142 1 rfl rfl ?_
        refine r_callV0 (M' := M_X10_readNumber) (ci := 10) [] d_X10_step_143 cl_X10_50 rfl (Nat.le_of_ble_eq_true rfl) (by decide) rfl (bs_ob bs_10) ?_
        refine Ct.mono h (fun r16 G15 h => ?_)
        show Rn _ M_X10_step zN 146 [(1, (0, s0)), (0, (2, 1))] [] G15 Q
        refine r_goto (tgt := 180) d_X10_step_146 (by decide) ?_
        exact r_ret d_X10_step_180 rfl ⟨rfl, Nat.le_refl _, Nat.le_refl _⟩ h
    · replace h := h.2 c6
      refine r_aload_n d_X10_step_109 1 rfl rfl ?_
      refine r_callV0 (M' := M_X10_readWord) (ci := 10) [] d_X10_step_110 cl_X10_40 rfl (Nat.le_of_ble_eq_true rfl) (by decide) rfl (bs_ob bs_10) ?_
      refine Ct.mono h (fun r18 G17 h => ?_)
      show Rn _ M_X10_step zN 113 [(1, (0, s0)), (0, (2, 1))] [] G17 Q
      refine r_aload_n d_X10_step_113 1 rfl rfl ?_
      refine r_aload_n d_X10_step_114 1 rfl rfl ?_
      refine r_getL (v := 2) 10 0 0 rfl d_X10_step_115 fl_X10_9 (by decide) (bs_ob bs_10) (ly_10_0 bs_10).1 (ly_10_0 bs_10).2.1 ?_
      refine r_aload_n d_X10_step_118 1 rfl rfl ?_
      refine r_getI 10 2 2 rfl d_X10_step_119 fl_X10_27 (by decide) (bs_ob bs_10) ?_
      refine r_aload_n d_X10_step_122 1 rfl rfl ?_
      refine r_getI 10 6 6 rfl d_X10_step_123 fl_X10_21 (by decide) (bs_ob bs_10) ?_
      refine r_callS0 (M' := M_X10_indexOf) [(2, 2), (0, (G17 1 2)), (0, (G17 1 6))] d_X10_step_126 cl_X10_43 rfl (Nat.le_of_ble_eq_true rfl) ?_
      refine Ct.mono h (fun r20 G19 h => ?_)
      show Rn _ M_X10_step zN 129 [(1, (0, s0)), (0, (2, 1))] [(0, r20), (2, 1)] G19 Q
      obtain ⟨G21, eG21⟩ : ∃ y : Mem, y = st G19 1 4 r20 := ⟨_, rfl⟩
      replace h := h G21 eG21
      refine r_putI 10 4 4 rfl d_X10_step_129 fl_X10_30 (by decide) nofin_10_4 (bs_ob bs_10) ?_
      rw [← eG21]
      refine r_goto (tgt := 180) d_X10_step_132 (by decide) ?_
      exact r_ret d_X10_step_180 rfl ⟨rfl, Nat.le_refl _, Nat.le_refl _⟩ h
  · replace h := h.2 c2
    refine r_aload_n d_X10_step_94 1 rfl rfl ?_
    refine r_iconst d_X10_step_95 ?_
    obtain ⟨G22, eG22⟩ : ∃ y : Mem, y = st G 1 3 0 := ⟨_, rfl⟩
    replace h := h G22 eG22
    refine r_putI 10 3 3 rfl d_X10_step_96 fl_X10_33 (by decide) nofin_10_3 (bs_ob bs_10) ?_
    rw [← eG22]
    refine r_goto (tgt := 180) d_X10_step_99 (by decide) ?_
    exact r_ret d_X10_step_180 rfl ⟨rfl, Nat.le_refl _, Nat.le_refl _⟩ h
set_option maxRecDepth 20000 in
theorem s_X10_step_162 {d : Nat} {x1 : Int} {s0 : Int} {G : Mem} {Q : Int → Mem → Prop}  (h : (∀ G1 : Mem, G1 = st G 1 3 s0 → (∀ G2 : Mem, G2 = st G1 1 4 x1 → (∀ G3 : Mem, G3 = st G2 1 6 ((G2 1 6) + 1) → Q 0 G3)))) : Rn d M_X10_step zN 162 [(0, (2, 1)), (1, (0, x1))] [(0, s0), (2, 1)] G Q := by
  obtain ⟨G1, eG1⟩ : ∃ y : Mem, y = st G 1 3 s0 := ⟨_, rfl⟩
  replace h := h G1 eG1
  refine r_putI 10 3 3 rfl d_X10_step_162 fl_X10_33 (by decide) nofin_10_3 (bs_ob bs_10) ?_
  rw [← eG1]
  refine r_aload_n d_X10_step_165 0 rfl rfl ?_
  refine r_iload_n d_X10_step_166 1 rfl rfl ?_
  obtain ⟨G2, eG2⟩ : ∃ y : Mem, y = st G1 1 4 x1 := ⟨_, rfl⟩
  replace h := h G2 eG2
  refine r_putI 10 4 4 rfl d_X10_step_167 fl_X10_30 (by decide) nofin_10_4 (bs_ob bs_10) ?_
  rw [← eG2]
  refine r_aload_n d_X10_step_170 0 rfl rfl ?_
  refine r_dup 2 rfl (by decide) d_X10_step_171 ?_
  refine r_getI 10 6 6 rfl d_X10_step_172 fl_X10_21 (by decide) (bs_ob bs_10) ?_
  refine r_iconst d_X10_step_175 ?_
  refine r_iadd d_X10_step_176 ?_
  obtain ⟨G3, eG3⟩ : ∃ y : Mem, y = st G2 1 6 ((G2 1 6) + 1) := ⟨_, rfl⟩
  replace h := h G3 eG3
  refine r_putI 10 6 6 rfl d_X10_step_177 fl_X10_21 (by decide) nofin_10_6 (bs_ob bs_10) ?_
  rw [← eG3]
  exact r_ret d_X10_step_180 rfl ⟨rfl, Nat.le_refl _, Nat.le_refl _⟩ h
theorem d_X10_readWord_0 : decode M_X10_readWord.2.1 0 = .ok (.aload_n 0, 1) := by decide +kernel
theorem d_X10_readWord_1 : decode M_X10_readWord.2.1 1 = .ok (.lconst 0, 1) := by decide +kernel
theorem d_X10_readWord_2 : decode M_X10_readWord.2.1 2 = .ok (.putfield 56, 3) := by decide +kernel
theorem d_X10_readWord_5 : decode M_X10_readWord.2.1 5 = .ok (.aload_n 0, 1) := by decide +kernel
theorem d_X10_readWord_6 : decode M_X10_readWord.2.1 6 = .ok (.getfield 21, 3) := by decide +kernel
theorem d_X10_readWord_9 : decode M_X10_readWord.2.1 9 = .ok (.aload_n 0, 1) := by decide +kernel
theorem d_X10_readWord_10 : decode M_X10_readWord.2.1 10 = .ok (.getfield 17, 3) := by decide +kernel
theorem d_X10_readWord_13 : decode M_X10_readWord.2.1 13 = .ok (.if_icmp .ge 60, 3) := by decide +kernel
theorem d_X10_readWord_16 : decode M_X10_readWord.2.1 16 = .ok (.aload_n 0, 1) := by decide +kernel
theorem d_X10_readWord_17 : decode M_X10_readWord.2.1 17 = .ok (.getfield 9, 3) := by decide +kernel
theorem d_X10_readWord_20 : decode M_X10_readWord.2.1 20 = .ok (.aload_n 0, 1) := by decide +kernel
theorem d_X10_readWord_21 : decode M_X10_readWord.2.1 21 = .ok (.getfield 21, 3) := by decide +kernel
theorem d_X10_readWord_24 : decode M_X10_readWord.2.1 24 = .ok (.caload, 1) := by decide +kernel
theorem d_X10_readWord_25 : decode M_X10_readWord.2.1 25 = .ok (.invokestatic 36, 3) := by decide +kernel
theorem d_X10_readWord_28 : decode M_X10_readWord.2.1 28 = .ok (.ifCond .eq 45, 3) := by decide +kernel
theorem d_X10_readWord_31 : decode M_X10_readWord.2.1 31 = .ok (.aload_n 0, 1) := by decide +kernel
theorem d_X10_readWord_32 : decode M_X10_readWord.2.1 32 = .ok (.aload_n 0, 1) := by decide +kernel
theorem d_X10_readWord_33 : decode M_X10_readWord.2.1 33 = .ok (.getfield 56, 3) := by decide +kernel
theorem d_X10_readWord_36 : decode M_X10_readWord.2.1 36 = .ok (.ldc2_w 60, 3) := by decide +kernel
theorem d_X10_readWord_39 : decode M_X10_readWord.2.1 39 = .ok (.lmul, 1) := by decide +kernel
theorem d_X10_readWord_40 : decode M_X10_readWord.2.1 40 = .ok (.aload_n 0, 1) := by decide +kernel
theorem d_X10_readWord_41 : decode M_X10_readWord.2.1 41 = .ok (.getfield 9, 3) := by decide +kernel
theorem d_X10_readWord_44 : decode M_X10_readWord.2.1 44 = .ok (.aload_n 0, 1) := by decide +kernel
theorem d_X10_readWord_45 : decode M_X10_readWord.2.1 45 = .ok (.getfield 21, 3) := by decide +kernel
theorem d_X10_readWord_48 : decode M_X10_readWord.2.1 48 = .ok (.caload, 1) := by decide +kernel
theorem d_X10_readWord_49 : decode M_X10_readWord.2.1 49 = .ok (.i2l, 1) := by decide +kernel
theorem d_X10_readWord_50 : decode M_X10_readWord.2.1 50 = .ok (.ladd, 1) := by decide +kernel
theorem d_X10_readWord_51 : decode M_X10_readWord.2.1 51 = .ok (.ldc2_w 62, 3) := by decide +kernel
theorem d_X10_readWord_54 : decode M_X10_readWord.2.1 54 = .ok (.lsub, 1) := by decide +kernel
theorem d_X10_readWord_55 : decode M_X10_readWord.2.1 55 = .ok (.lconst 1, 1) := by decide +kernel
theorem d_X10_readWord_56 : decode M_X10_readWord.2.1 56 = .ok (.ladd, 1) := by decide +kernel
theorem d_X10_readWord_57 : decode M_X10_readWord.2.1 57 = .ok (.putfield 56, 3) := by decide +kernel
theorem d_X10_readWord_60 : decode M_X10_readWord.2.1 60 = .ok (.aload_n 0, 1) := by decide +kernel
theorem d_X10_readWord_61 : decode M_X10_readWord.2.1 61 = .ok (.dup, 1) := by decide +kernel
theorem d_X10_readWord_62 : decode M_X10_readWord.2.1 62 = .ok (.getfield 21, 3) := by decide +kernel
theorem d_X10_readWord_65 : decode M_X10_readWord.2.1 65 = .ok (.iconst 1, 1) := by decide +kernel
theorem d_X10_readWord_66 : decode M_X10_readWord.2.1 66 = .ok (.iadd, 1) := by decide +kernel
theorem d_X10_readWord_67 : decode M_X10_readWord.2.1 67 = .ok (.putfield 21, 3) := by decide +kernel
theorem d_X10_readWord_70 : decode M_X10_readWord.2.1 70 = .ok (.goto (-65), 3) := by decide +kernel
theorem d_X10_readWord_73 : decode M_X10_readWord.2.1 73 = .ok (.aload_n 0, 1) := by decide +kernel
theorem d_X10_readWord_74 : decode M_X10_readWord.2.1 74 = .ok (.aload_n 0, 1) := by decide +kernel
theorem d_X10_readWord_75 : decode M_X10_readWord.2.1 75 = .ok (.getfield 21, 3) := by decide +kernel
theorem d_X10_readWord_78 : decode M_X10_readWord.2.1 78 = .ok (.aload_n 0, 1) := by decide +kernel
theorem d_X10_readWord_79 : decode M_X10_readWord.2.1 79 = .ok (.getfield 27, 3) := by decide +kernel
theorem d_X10_readWord_82 : decode M_X10_readWord.2.1 82 = .ok (.isub, 1) := by decide +kernel
theorem d_X10_readWord_83 : decode M_X10_readWord.2.1 83 = .ok (.bipush 8, 2) := by decide +kernel
theorem d_X10_readWord_85 : decode M_X10_readWord.2.1 85 = .ok (.if_icmp .gt 7, 3) := by decide +kernel
theorem d_X10_readWord_88 : decode M_X10_readWord.2.1 88 = .ok (.iconst 2, 1) := by decide +kernel
theorem d_X10_readWord_89 : decode M_X10_readWord.2.1 89 = .ok (.goto 4, 3) := by decide +kernel
theorem d_X10_readWord_92 : decode M_X10_readWord.2.1 92 = .ok (.iconst 1, 1) := by decide +kernel
theorem d_X10_readWord_93 : decode M_X10_readWord.2.1 93 = .ok (.putfield 33, 3) := by decide +kernel
theorem d_X10_readWord_96 : decode M_X10_readWord.2.1 96 = .ok (.return_, 1) := by decide +kernel
set_option maxRecDepth 20000 in
theorem s_X10_readWord_0 {d : Nat}  {G : Mem} {Q : Int → Mem → Prop}  (h : (∀ G1 : Mem, G1 = st G 1 5 0 → Rn d M_X10_readWord zN 5 [(0, (2, 1))] [] G1 Q)) : Rn d M_X10_readWord zN 0 [(0, (2, 1))] [] G Q := by
  refine r_aload_n d_X10_readWord_0 0 rfl rfl ?_
  refine r_lconst (x := 0) d_X10_readWord_1 rfl ?_
  obtain ⟨G1, eG1⟩ : ∃ y : Mem, y = st G 1 5 0 := ⟨_, rfl⟩
  replace h := h G1 eG1
  refine r_putJ 10 5 5 rfl d_X10_readWord_2 fl_X10_56 (by decide) nofin_10_5 (bs_ob bs_10) ?_
  rw [← eG1]
  exact h
set_option maxRecDepth 20000 in
theorem s_X10_readWord_5 {d : Nat}  {G : Mem} {Q : Int → Mem → Prop}  (h : (InR (G 1 6)) ∧ (InR (G 1 1)) ∧ (((G 1 1) ≤ (G 1 6)) → Rn (d + 1) M_X10_readWord zN 73 [(0, (2, 1))] [] G Q) ∧ (¬ ((G 1 1) ≤ (G 1 6)) → (0 ≤ (G 1 6) ∧ (G 1 6) < 1000) ∧ (Ct d M_X10_isLetter NT 0 0 (some lay) [(0, (G 2 (G 1 6)))] G (fun r6 G5 => (InR r6) ∧ ((r6 = 0) → Rn (d + 1) M_X10_readWord zN 73 [(0, (2, 1))] [] G5 Q) ∧ (¬ (r6 = 0) → (0 ≤ (G5 1 6) ∧ (G5 1 6) < 1000) ∧ ((InR (G5 2 (G5 1 6))) ∧ ((∀ G11 : Mem, G11 = st G5 1 5 (((((G5 1 5) * 32) + (G5 2 (G5 1 6))) - 97) + 1) → (∀ G12 : Mem, G12 = st G11 1 6 ((G11 1 6) + 1) → Rn (d + 1) M_X10_readWord zN 5 [(0, (2, 1))] [] G12 Q))))))))) : Rn (d + 1) M_X10_readWord zN 5 [(0, (2, 1))] [] G Q := by
  refine r_aload_n d_X10_readWord_5 0 rfl rfl ?_
  refine r_getI 10 6 6 rfl d_X10_readWord_6 fl_X10_21 (by decide) (bs_ob bs_10) ?_
  refine r_aload_n d_X10_readWord_9 0 rfl rfl ?_
  refine r_getI 10 1 1 rfl d_X10_readWord_10 fl_X10_17 (by decide) (bs_ob bs_10) ?_
  obtain ⟨h1, h⟩ := h
  obtain ⟨h2, h⟩ := h
  refine r_icmp_ge (tgt := 73) d_X10_readWord_13 (by decide) h1 h2 (fun c3 => ?_) (fun c3 => ?_)
  · replace h := h.1 c3
    exact h
  · replace h := h.2 c3
    refine r_aload_n d_X10_readWord_16 0 rfl rfl ?_
    refine r_getL (v := 2) 10 0 0 rfl d_X10_readWord_17 fl_X10_9 (by decide) (bs_ob bs_10) (ly_10_0 bs_10).1 (ly_10_0 bs_10).2.1 ?_
    refine r_aload_n d_X10_readWord_20 0 rfl rfl ?_
    refine r_getI 10 6 6 rfl d_X10_readWord_21 fl_X10_21 (by decide) (bs_ob bs_10) ?_
    obtain ⟨h4, h⟩ := h
    refine r_caload d_X10_readWord_24 (ly_10_0 bs_10).2.2 h4 ?_
    refine r_callS0 (M' := M_X10_isLetter) [(0, (G 2 (G 1 6)))] d_X10_readWord_25 cl_X10_36 rfl (Nat.le_of_ble_eq_true rfl) ?_
    refine Ct.mono h (fun r6 G5 h => ?_)
    show Rn _ M_X10_readWord zN 28 [(0, (2, 1))] [(0, r6)] G5 Q
    obtain ⟨h7, h⟩ := h
    refine r_if_eq (tgt := 73) d_X10_readWord_28 (by decide) h7 (fun c8 => ?_) (fun c8 => ?_)
    · replace h := h.1 c8
      exact h
    · replace h := h.2 c8
      refine r_aload_n d_X10_readWord_31 0 rfl rfl ?_
      refine r_aload_n d_X10_readWord_32 0 rfl rfl ?_
      refine r_getJ 10 5 5 rfl d_X10_readWord_33 fl_X10_56 (by decide) (bs_ob bs_10) ?_
      refine r_ldc2 (x := 32) d_X10_readWord_36 cst_X10_60 ?_
      refine r_lmul d_X10_readWord_39 ?_
      refine r_aload_n d_X10_readWord_40 0 rfl rfl ?_
      refine r_getL (v := 2) 10 0 0 rfl d_X10_readWord_41 fl_X10_9 (by decide) (bs_ob bs_10) (ly_10_0 bs_10).1 (ly_10_0 bs_10).2.1 ?_
      refine r_aload_n d_X10_readWord_44 0 rfl rfl ?_
      refine r_getI 10 6 6 rfl d_X10_readWord_45 fl_X10_21 (by decide) (bs_ob bs_10) ?_
      obtain ⟨h9, h⟩ := h
      refine r_caload d_X10_readWord_48 (ly_10_0 bs_10).2.2 h9 ?_
      obtain ⟨h10, h⟩ := h
      refine r_i2l d_X10_readWord_49 h10 ?_
      refine r_ladd d_X10_readWord_50 ?_
      refine r_ldc2 (x := 97) d_X10_readWord_51 cst_X10_62 ?_
      refine r_lsub d_X10_readWord_54 ?_
      refine r_lconst (x := 1) d_X10_readWord_55 rfl ?_
      refine r_ladd d_X10_readWord_56 ?_
      obtain ⟨G11, eG11⟩ : ∃ y : Mem, y = st G5 1 5 (((((G5 1 5) * 32) + (G5 2 (G5 1 6))) - 97) + 1) := ⟨_, rfl⟩
      replace h := h G11 eG11
      refine r_putJ 10 5 5 rfl d_X10_readWord_57 fl_X10_56 (by decide) nofin_10_5 (bs_ob bs_10) ?_
      rw [← eG11]
      refine r_aload_n d_X10_readWord_60 0 rfl rfl ?_
      refine r_dup 2 rfl (by decide) d_X10_readWord_61 ?_
      refine r_getI 10 6 6 rfl d_X10_readWord_62 fl_X10_21 (by decide) (bs_ob bs_10) ?_
      refine r_iconst d_X10_readWord_65 ?_
      refine r_iadd d_X10_readWord_66 ?_
      obtain ⟨G12, eG12⟩ : ∃ y : Mem, y = st G11 1 6 ((G11 1 6) + 1) := ⟨_, rfl⟩
      replace h := h G12 eG12
      refine r_putI 10 6 6 rfl d_X10_readWord_67 fl_X10_21 (by decide) nofin_10_6 (bs_ob bs_10) ?_
      rw [← eG12]
      refine r_goto (tgt := 5) d_X10_readWord_70 (by decide) ?_
      exact h
set_option maxRecDepth 20000 in
theorem s_X10_readWord_73 {d : Nat}  {G : Mem} {Q : Int → Mem → Prop}  (h : (InR ((G 1 6) - (G 1 2))) ∧ ((8 < ((G 1 6) - (G 1 2))) → (∀ G3 : Mem, G3 = st G 1 3 1 → Q 0 G3)) ∧ (¬ (8 < ((G 1 6) - (G 1 2))) → (∀ G4 : Mem, G4 = st G 1 3 2 → Q 0 G4))) : Rn d M_X10_readWord zN 73 [(0, (2, 1))] [] G Q := by
  refine r_aload_n d_X10_readWord_73 0 rfl rfl ?_
  refine r_aload_n d_X10_readWord_74 0 rfl rfl ?_
  refine r_getI 10 6 6 rfl d_X10_readWord_75 fl_X10_21 (by decide) (bs_ob bs_10) ?_
  refine r_aload_n d_X10_readWord_78 0 rfl rfl ?_
  refine r_getI 10 2 2 rfl d_X10_readWord_79 fl_X10_27 (by decide) (bs_ob bs_10) ?_
  refine r_isub d_X10_readWord_82 ?_
  refine r_bipush d_X10_readWord_83 (by decide +kernel) ?_
  obtain ⟨h1, h⟩ := h
  refine r_icmp_gt (tgt := 92) d_X10_readWord_85 (by decide) h1 ⟨by decide, by decide⟩ (fun c2 => ?_) (fun c2 => ?_)
  · replace h := h.1 c2
    refine r_iconst d_X10_readWord_92 ?_
    obtain ⟨G3, eG3⟩ : ∃ y : Mem, y = st G 1 3 1 := ⟨_, rfl⟩
    replace h := h G3 eG3
    refine r_putI 10 3 3 rfl d_X10_readWord_93 fl_X10_33 (by decide) nofin_10_3 (bs_ob bs_10) ?_
    rw [← eG3]
    exact r_ret d_X10_readWord_96 rfl ⟨rfl, Nat.le_refl _, Nat.le_refl _⟩ h
  · replace h := h.2 c2
    refine r_iconst d_X10_readWord_88 ?_
    refine r_goto (tgt := 93) d_X10_readWord_89 (by decide) ?_
    obtain ⟨G4, eG4⟩ : ∃ y : Mem, y = st G 1 3 2 := ⟨_, rfl⟩
    replace h := h G4 eG4
    refine r_putI 10 3 3 rfl d_X10_readWord_93 fl_X10_33 (by decide) nofin_10_3 (bs_ob bs_10) ?_
    rw [← eG4]
    exact r_ret d_X10_readWord_96 rfl ⟨rfl, Nat.le_refl _, Nat.le_refl _⟩ h
theorem d_X10_readNumber_0 : decode M_X10_readNumber.2.1 0 = .ok (.aload_n 0, 1) := by decide +kernel
theorem d_X10_readNumber_1 : decode M_X10_readNumber.2.1 1 = .ok (.getfield 21, 3) := by decide +kernel
theorem d_X10_readNumber_4 : decode M_X10_readNumber.2.1 4 = .ok (.aload_n 0, 1) := by decide +kernel
theorem d_X10_readNumber_5 : decode M_X10_readNumber.2.1 5 = .ok (.getfield 17, 3) := by decide +kernel
theorem d_X10_readNumber_8 : decode M_X10_readNumber.2.1 8 = .ok (.if_icmp .ge 55, 3) := by decide +kernel
theorem d_X10_readNumber_11 : decode M_X10_readNumber.2.1 11 = .ok (.aload_n 0, 1) := by decide +kernel
theorem d_X10_readNumber_12 : decode M_X10_readNumber.2.1 12 = .ok (.getfield 9, 3) := by decide +kernel
theorem d_X10_readNumber_15 : decode M_X10_readNumber.2.1 15 = .ok (.aload_n 0, 1) := by decide +kernel
theorem d_X10_readNumber_16 : decode M_X10_readNumber.2.1 16 = .ok (.getfield 21, 3) := by decide +kernel
theorem d_X10_readNumber_19 : decode M_X10_readNumber.2.1 19 = .ok (.caload, 1) := by decide +kernel
theorem d_X10_readNumber_20 : decode M_X10_readNumber.2.1 20 = .ok (.invokestatic 47, 3) := by decide +kernel
theorem d_X10_readNumber_23 : decode M_X10_readNumber.2.1 23 = .ok (.ifCond .eq 40, 3) := by decide +kernel
theorem d_X10_readNumber_26 : decode M_X10_readNumber.2.1 26 = .ok (.aload_n 0, 1) := by decide +kernel
theorem d_X10_readNumber_27 : decode M_X10_readNumber.2.1 27 = .ok (.aload_n 0, 1) := by decide +kernel
theorem d_X10_readNumber_28 : decode M_X10_readNumber.2.1 28 = .ok (.getfield 30, 3) := by decide +kernel
theorem d_X10_readNumber_31 : decode M_X10_readNumber.2.1 31 = .ok (.bipush 10, 2) := by decide +kernel
theorem d_X10_readNumber_33 : decode M_X10_readNumber.2.1 33 = .ok (.imul, 1) := by decide +kernel
theorem d_X10_readNumber_34 : decode M_X10_readNumber.2.1 34 = .ok (.aload_n 0, 1) := by decide +kernel
theorem d_X10_readNumber_35 : decode M_X10_readNumber.2.1 35 = .ok (.getfield 9, 3) := by decide +kernel
theorem d_X10_readNumber_38 : decode M_X10_readNumber.2.1 38 = .ok (.aload_n 0, 1) := by decide +kernel
theorem d_X10_readNumber_39 : decode M_X10_readNumber.2.1 39 = .ok (.getfield 21, 3) := by decide +kernel
theorem d_X10_readNumber_42 : decode M_X10_readNumber.2.1 42 = .ok (.caload, 1) := by decide +kernel
theorem d_X10_readNumber_43 : decode M_X10_readNumber.2.1 43 = .ok (.iadd, 1) := by decide +kernel
theorem d_X10_readNumber_44 : decode M_X10_readNumber.2.1 44 = .ok (.bipush 48, 2) := by decide +kernel
theorem d_X10_readNumber_46 : decode M_X10_readNumber.2.1 46 = .ok (.isub, 1) := by decide +kernel
theorem d_X10_readNumber_47 : decode M_X10_readNumber.2.1 47 = .ok (.putfield 30, 3) := by decide +kernel
theorem d_X10_readNumber_50 : decode M_X10_readNumber.2.1 50 = .ok (.aload_n 0, 1) := by decide +kernel
theorem d_X10_readNumber_51 : decode M_X10_readNumber.2.1 51 = .ok (.dup, 1) := by decide +kernel
theorem d_X10_readNumber_52 : decode M_X10_readNumber.2.1 52 = .ok (.getfield 21, 3) := by decide +kernel
theorem d_X10_readNumber_55 : decode M_X10_readNumber.2.1 55 = .ok (.iconst 1, 1) := by decide +kernel
theorem d_X10_readNumber_56 : decode M_X10_readNumber.2.1 56 = .ok (.iadd, 1) := by decide +kernel
theorem d_X10_readNumber_57 : decode M_X10_readNumber.2.1 57 = .ok (.putfield 21, 3) := by decide +kernel
theorem d_X10_readNumber_60 : decode M_X10_readNumber.2.1 60 = .ok (.goto (-60), 3) := by decide +kernel
theorem d_X10_readNumber_63 : decode M_X10_readNumber.2.1 63 = .ok (.aload_n 0, 1) := by decide +kernel
theorem d_X10_readNumber_64 : decode M_X10_readNumber.2.1 64 = .ok (.aload_n 0, 1) := by decide +kernel
theorem d_X10_readNumber_65 : decode M_X10_readNumber.2.1 65 = .ok (.getfield 21, 3) := by decide +kernel
theorem d_X10_readNumber_68 : decode M_X10_readNumber.2.1 68 = .ok (.aload_n 0, 1) := by decide +kernel
theorem d_X10_readNumber_69 : decode M_X10_readNumber.2.1 69 = .ok (.getfield 27, 3) := by decide +kernel
theorem d_X10_readNumber_72 : decode M_X10_readNumber.2.1 72 = .ok (.isub, 1) := by decide +kernel
theorem d_X10_readNumber_73 : decode M_X10_readNumber.2.1 73 = .ok (.iconst 4, 1) := by decide +kernel
theorem d_X10_readNumber_74 : decode M_X10_readNumber.2.1 74 = .ok (.if_icmp .gt 7, 3) := by decide +kernel
theorem d_X10_readNumber_77 : decode M_X10_readNumber.2.1 77 = .ok (.iconst 3, 1) := by decide +kernel
theorem d_X10_readNumber_78 : decode M_X10_readNumber.2.1 78 = .ok (.goto 4, 3) := by decide +kernel
theorem d_X10_readNumber_81 : decode M_X10_readNumber.2.1 81 = .ok (.iconst 1, 1) := by decide +kernel
theorem d_X10_readNumber_82 : decode M_X10_readNumber.2.1 82 = .ok (.putfield 33, 3) := by decide +kernel
theorem d_X10_readNumber_85 : decode M_X10_readNumber.2.1 85 = .ok (.return_, 1) := by decide +kernel
set_option maxRecDepth 20000 in
theorem s_X10_readNumber_0 {d : Nat}  {G : Mem} {Q : Int → Mem → Prop}  (h : (InR (G 1 6)) ∧ (InR (G 1 1)) ∧ (((G 1 1) ≤ (G 1 6)) → Rn (d + 1) M_X10_readNumber zN 63 [(0, (2, 1))] [] G Q) ∧ (¬ ((G 1 1) ≤ (G 1 6)) → (0 ≤ (G 1 6) ∧ (G 1 6) < 1000) ∧ (Ct d M_X10_isDigit NT 0 0 (some lay) [(0, (G 2 (G 1 6)))] G (fun r6 G5 => (InR r6) ∧ ((r6 = 0) → Rn (d + 1) M_X10_readNumber zN 63 [(0, (2, 1))] [] G5 Q) ∧ (¬ (r6 = 0) → (0 ≤ (G5 1 6) ∧ (G5 1 6) < 1000) ∧ ((∀ G10 : Mem, G10 = st G5 1 4 ((((G5 1 4) * 10) + (G5 2 (G5 1 6))) - 48) → (∀ G11 : Mem, G11 = st G10 1 6 ((G10 1 6) + 1) → Rn (d + 1) M_X10_readNumber zN 0 [(0, (2, 1))] [] G11 Q)))))))) : Rn (d + 1) M_X10_readNumber zN 0 [(0, (2, 1))] [] G Q := by
  refine r_aload_n d_X10_readNumber_0 0 rfl rfl ?_
  refine r_getI 10 6 6 rfl d_X10_readNumber_1 fl_X10_21 (by decide) (bs_ob bs_10) ?_
  refine r_aload_n d_X10_readNumber_4 0 rfl rfl ?_
  refine r_getI 10 1 1 rfl d_X10_readNumber_5 fl_X10_17 (by decide) (bs_ob bs_10) ?_
  obtain ⟨h1, h⟩ := h
  obtain ⟨h2, h⟩ := h
  refine r_icmp_ge (tgt := 63) d_X10_readNumber_8 (by decide) h1 h2 (fun c3 => ?_) (fun c3 => ?_)
  · replace h := h.1 c3
    exact h
  · replace h := h.2 c3
    refine r_aload_n d_X10_readNumber_11 0 rfl rfl ?_
    refine r_getL (v := 2) 10 0 0 rfl d_X10_readNumber_12 fl_X10_9 (by decide) (bs_ob bs_10) (ly_10_0 bs_10).1 (ly_10_0 bs_10).2.1 ?_
    refine r_aload_n d_X10_readNumber_15 0 rfl rfl ?_
    refine r_getI 10 6 6 rfl d_X10_readNumber_16 fl_X10_21 (by decide) (bs_ob bs_10) ?_
    obtain ⟨h4, h⟩ := h
    refine r_caload d_X10_readNumber_19 (ly_10_0 bs_10).2.2 h4 ?_
    refine r_callS0 (M' := M_X10_isDigit) [(0, (G 2 (G 1 6)))] d_X10_readNumber_20 cl_X10_47 rfl (Nat.le_of_ble_eq_true rfl) ?_
    refine Ct.mono h (fun r6 G5 h => ?_)
    show Rn _ M_X10_readNumber zN 23 [(0, (2, 1))] [(0, r6)] G5 Q
    obtain ⟨h7, h⟩ := h
    refine r_if_eq (tgt := 63) d_X10_readNumber_23 (by decide) h7 (fun c8 => ?_) (fun c8 => ?_)
    · replace h := h.1 c8
      exact h
    · replace h := h.2 c8
      refine r_aload_n d_X10_readNumber_26 0 rfl rfl ?_
      refine r_aload_n d_X10_readNumber_27 0 rfl rfl ?_
      refine r_getI 10 4 4 rfl d_X10_readNumber_28 fl_X10_30 (by decide) (bs_ob bs_10) ?_
      refine r_bipush d_X10_readNumber_31 (by decide +kernel) ?_
      refine r_imul d_X10_readNumber_33 ?_
      refine r_aload_n d_X10_readNumber_34 0 rfl rfl ?_
      refine r_getL (v := 2) 10 0 0 rfl d_X10_readNumber_35 fl_X10_9 (by decide) (bs_ob bs_10) (ly_10_0 bs_10).1 (ly_10_0 bs_10).2.1 ?_
      refine r_aload_n d_X10_readNumber_38 0 rfl rfl ?_
      refine r_getI 10 6 6 rfl d_X10_readNumber_39 fl_X10_21 (by decide) (bs_ob bs_10) ?_
      obtain ⟨h9, h⟩ := h
      refine r_caload d_X10_readNumber_42 (ly_10_0 bs_10).2.2 h9 ?_
      refine r_iadd d_X10_readNumber_43 ?_
      refine r_bipush d_X10_readNumber_44 (by decide +kernel) ?_
      refine r_isub d_X10_readNumber_46 ?_
      obtain ⟨G10, eG10⟩ : ∃ y : Mem, y = st G5 1 4 ((((G5 1 4) * 10) + (G5 2 (G5 1 6))) - 48) := ⟨_, rfl⟩
      replace h := h G10 eG10
      refine r_putI 10 4 4 rfl d_X10_readNumber_47 fl_X10_30 (by decide) nofin_10_4 (bs_ob bs_10) ?_
      rw [← eG10]
      refine r_aload_n d_X10_readNumber_50 0 rfl rfl ?_
      refine r_dup 2 rfl (by decide) d_X10_readNumber_51 ?_
      refine r_getI 10 6 6 rfl d_X10_readNumber_52 fl_X10_21 (by decide) (bs_ob bs_10) ?_
      refine r_iconst d_X10_readNumber_55 ?_
      refine r_iadd d_X10_readNumber_56 ?_
      obtain ⟨G11, eG11⟩ : ∃ y : Mem, y = st G10 1 6 ((G10 1 6) + 1) := ⟨_, rfl⟩
      replace h := h G11 eG11
      refine r_putI 10 6 6 rfl d_X10_readNumber_57 fl_X10_21 (by decide) nofin_10_6 (bs_ob bs_10) ?_
      rw [← eG11]
      refine r_goto (tgt := 0) d_X10_readNumber_60 (by decide) ?_
      exact h
set_option maxRecDepth 20000 in
theorem s_X10_readNumber_63 {d : Nat}  {G : Mem} {Q : Int → Mem → Prop}  (h : (InR ((G 1 6) - (G 1 2))) ∧ ((4 < ((G 1 6) - (G 1 2))) → (∀ G3 : Mem, G3 = st G 1 3 1 → Q 0 G3)) ∧ (¬ (4 < ((G 1 6) - (G 1 2))) → (∀ G4 : Mem, G4 = st G 1 3 3 → Q 0 G4))) : Rn d M_X10_readNumber zN 63 [(0, (2, 1))] [] G Q := by
  refine r_aload_n d_X10_readNumber_63 0 rfl rfl ?_
  refine r_aload_n d_X10_readNumber_64 0 rfl rfl ?_
  refine r_getI 10 6 6 rfl d_X10_readNumber_65 fl_X10_21 (by decide) (bs_ob bs_10) ?_
  refine r_aload_n d_X10_readNumber_68 0 rfl rfl ?_
  refine r_getI 10 2 2 rfl d_X10_readNumber_69 fl_X10_27 (by decide) (bs_ob bs_10) ?_
  refine r_isub d_X10_readNumber_72 ?_
  refine r_iconst d_X10_readNumber_73 ?_
  obtain ⟨h1, h⟩ := h
  refine r_icmp_gt (tgt := 81) d_X10_readNumber_74 (by decide) h1 ⟨by decide, by decide⟩ (fun c2 => ?_) (fun c2 => ?_)
  · replace h := h.1 c2
    refine r_iconst d_X10_readNumber_81 ?_
    obtain ⟨G3, eG3⟩ : ∃ y : Mem, y = st G 1 3 1 := ⟨_, rfl⟩
    replace h := h G3 eG3
    refine r_putI 10 3 3 rfl d_X10_readNumber_82 fl_X10_33 (by decide) nofin_10_3 (bs_ob bs_10) ?_
    rw [← eG3]
    exact r_ret d_X10_readNumber_85 rfl ⟨rfl, Nat.le_refl _, Nat.le_refl _⟩ h
  · replace h := h.2 c2
    refine r_iconst d_X10_readNumber_77 ?_
    refine r_goto (tgt := 82) d_X10_readNumber_78 (by decide) ?_
    obtain ⟨G4, eG4⟩ : ∃ y : Mem, y = st G 1 3 3 := ⟨_, rfl⟩
    replace h := h G4 eG4
    refine r_putI 10 3 3 rfl d_X10_readNumber_82 fl_X10_33 (by decide) nofin_10_3 (bs_ob bs_10) ?_
    rw [← eG4]
    exact r_ret d_X10_readNumber_85 rfl ⟨rfl, Nat.le_refl _, Nat.le_refl _⟩ h
theorem d_X10_reserved_0 : decode M_X10_reserved.2.1 0 = .ok (.iload_n 0, 1) := by decide +kernel
theorem d_X10_reserved_1 : decode M_X10_reserved.2.1 1 = .ok (.ifCond .lt 13, 3) := by decide +kernel
theorem d_X10_reserved_4 : decode M_X10_reserved.2.1 4 = .ok (.iload_n 0, 1) := by decide +kernel
theorem d_X10_reserved_5 : decode M_X10_reserved.2.1 5 = .ok (.bipush 28, 2) := by decide +kernel
theorem d_X10_reserved_7 : decode M_X10_reserved.2.1 7 = .ok (.if_icmp .ge 7, 3) := by decide +kernel
theorem d_X10_reserved_10 : decode M_X10_reserved.2.1 10 = .ok (.iconst 1, 1) := by decide +kernel
theorem d_X10_reserved_11 : decode M_X10_reserved.2.1 11 = .ok (.goto 4, 3) := by decide +kernel
theorem d_X10_reserved_14 : decode M_X10_reserved.2.1 14 = .ok (.iconst 0, 1) := by decide +kernel
theorem d_X10_reserved_15 : decode M_X10_reserved.2.1 15 = .ok (.ireturn, 1) := by decide +kernel
set_option maxRecDepth 20000 in
theorem s_X10_reserved_0 {d : Nat} {p0 : Int} {G : Mem} {Q : Int → Mem → Prop}  (h : (InR p0) ∧ ((p0 < 0) → Q 0 G) ∧ (¬ (p0 < 0) → ((28 ≤ p0) → Q 0 G) ∧ (¬ (28 ≤ p0) → Q 1 G))) : Rn d M_X10_reserved zN 0 [(0, (0, p0))] [] G Q := by
  refine r_iload_n d_X10_reserved_0 0 rfl rfl ?_
  obtain ⟨h1, h⟩ := h
  refine r_if_lt (tgt := 14) d_X10_reserved_1 (by decide) h1 (fun c2 => ?_) (fun c2 => ?_)
  · replace h := h.1 c2
    refine r_iconst d_X10_reserved_14 ?_
    exact r_zreturn d_X10_reserved_15 rfl ⟨rfl, Nat.le_refl _, Nat.le_refl _⟩ (by decide) h
  · replace h := h.2 c2
    refine r_iload_n d_X10_reserved_4 0 rfl rfl ?_
    refine r_bipush d_X10_reserved_5 (by decide +kernel) ?_
    refine r_icmp_ge (tgt := 14) d_X10_reserved_7 (by decide) h1 ⟨by decide, by decide⟩ (fun c3 => ?_) (fun c3 => ?_)
    · replace h := h.1 c3
      refine r_iconst d_X10_reserved_14 ?_
      exact r_zreturn d_X10_reserved_15 rfl ⟨rfl, Nat.le_refl _, Nat.le_refl _⟩ (by decide) h
    · replace h := h.2 c3
      refine r_iconst d_X10_reserved_10 ?_
      refine r_goto (tgt := 15) d_X10_reserved_11 (by decide) ?_
      exact r_zreturn d_X10_reserved_15 rfl ⟨rfl, Nat.le_refl _, Nat.le_refl _⟩ (by decide) h
theorem d_X10_isFactOf_0 : decode M_X10_isFactOf.2.1 0 = .ok (.iload_n 0, 1) := by decide +kernel
theorem d_X10_isFactOf_1 : decode M_X10_isFactOf.2.1 1 = .ok (.tableswitch 82 24 31 #[49, 49, 49, 60, 47, 49, 60, 71], 47) := by decide +kernel
theorem d_X10_isFactOf_48 : decode M_X10_isFactOf.2.1 48 = .ok (.iconst 1, 1) := by decide +kernel
theorem d_X10_isFactOf_49 : decode M_X10_isFactOf.2.1 49 = .ok (.ireturn, 1) := by decide +kernel
theorem d_X10_isFactOf_50 : decode M_X10_isFactOf.2.1 50 = .ok (.iload_n 1, 1) := by decide +kernel
theorem d_X10_isFactOf_51 : decode M_X10_isFactOf.2.1 51 = .ok (.iconst 2, 1) := by decide +kernel
theorem d_X10_isFactOf_52 : decode M_X10_isFactOf.2.1 52 = .ok (.if_icmp .eq 7, 3) := by decide +kernel
theorem d_X10_isFactOf_55 : decode M_X10_isFactOf.2.1 55 = .ok (.iconst 1, 1) := by decide +kernel
theorem d_X10_isFactOf_56 : decode M_X10_isFactOf.2.1 56 = .ok (.goto 4, 3) := by decide +kernel
theorem d_X10_isFactOf_59 : decode M_X10_isFactOf.2.1 59 = .ok (.iconst 0, 1) := by decide +kernel
theorem d_X10_isFactOf_60 : decode M_X10_isFactOf.2.1 60 = .ok (.ireturn, 1) := by decide +kernel
theorem d_X10_isFactOf_61 : decode M_X10_isFactOf.2.1 61 = .ok (.iload_n 1, 1) := by decide +kernel
theorem d_X10_isFactOf_62 : decode M_X10_isFactOf.2.1 62 = .ok (.iconst 1, 1) := by decide +kernel
theorem d_X10_isFactOf_63 : decode M_X10_isFactOf.2.1 63 = .ok (.if_icmp .ne 7, 3) := by decide +kernel
theorem d_X10_isFactOf_66 : decode M_X10_isFactOf.2.1 66 = .ok (.iconst 1, 1) := by decide +kernel
theorem d_X10_isFactOf_67 : decode M_X10_isFactOf.2.1 67 = .ok (.goto 4, 3) := by decide +kernel
theorem d_X10_isFactOf_70 : decode M_X10_isFactOf.2.1 70 = .ok (.iconst 0, 1) := by decide +kernel
theorem d_X10_isFactOf_71 : decode M_X10_isFactOf.2.1 71 = .ok (.ireturn, 1) := by decide +kernel
theorem d_X10_isFactOf_72 : decode M_X10_isFactOf.2.1 72 = .ok (.iload_n 1, 1) := by decide +kernel
theorem d_X10_isFactOf_73 : decode M_X10_isFactOf.2.1 73 = .ok (.iconst 2, 1) := by decide +kernel
theorem d_X10_isFactOf_74 : decode M_X10_isFactOf.2.1 74 = .ok (.if_icmp .ne 7, 3) := by decide +kernel
theorem d_X10_isFactOf_77 : decode M_X10_isFactOf.2.1 77 = .ok (.iconst 1, 1) := by decide +kernel
theorem d_X10_isFactOf_78 : decode M_X10_isFactOf.2.1 78 = .ok (.goto 4, 3) := by decide +kernel
theorem d_X10_isFactOf_81 : decode M_X10_isFactOf.2.1 81 = .ok (.iconst 0, 1) := by decide +kernel
theorem d_X10_isFactOf_82 : decode M_X10_isFactOf.2.1 82 = .ok (.ireturn, 1) := by decide +kernel
theorem d_X10_isFactOf_83 : decode M_X10_isFactOf.2.1 83 = .ok (.iconst 0, 1) := by decide +kernel
theorem d_X10_isFactOf_84 : decode M_X10_isFactOf.2.1 84 = .ok (.ireturn, 1) := by decide +kernel
set_option maxRecDepth 20000 in
theorem s_X10_isFactOf_0 {d : Nat} {p0 : Int} {p1 : Int} {G : Mem} {Q : Int → Mem → Prop}  (h : (InR p0) ∧ ((p0 < 24 ∨ 31 < p0) → Q 0 G) ∧ ((p0 = 24) → (InR p1) ∧ ((p1 = 2) → Q 0 G) ∧ (¬ (p1 = 2) → Q 1 G)) ∧ ((p0 = 25) → (InR p1) ∧ ((p1 = 2) → Q 0 G) ∧ (¬ (p1 = 2) → Q 1 G)) ∧ ((p0 = 26) → (InR p1) ∧ ((p1 = 2) → Q 0 G) ∧ (¬ (p1 = 2) → Q 1 G)) ∧ ((p0 = 27) → (InR p1) ∧ ((p1 ≠ 1) → Q 0 G) ∧ (¬ (p1 ≠ 1) → Q 1 G)) ∧ ((p0 = 28) → Q 1 G) ∧ ((p0 = 29) → (InR p1) ∧ ((p1 = 2) → Q 0 G) ∧ (¬ (p1 = 2) → Q 1 G)) ∧ ((p0 = 30) → (InR p1) ∧ ((p1 ≠ 1) → Q 0 G) ∧ (¬ (p1 ≠ 1) → Q 1 G)) ∧ ((p0 = 31) → (InR p1) ∧ ((p1 ≠ 2) → Q 0 G) ∧ (¬ (p1 ≠ 2) → Q 1 G))) : Rn d M_X10_isFactOf zN 0 [(0, (0, p0)), (1, (0, p1))] [] G Q := by
  refine r_iload_n d_X10_isFactOf_0 0 rfl rfl ?_
  obtain ⟨h1, h⟩ := h
  by_cases c2 : p0 < 24 ∨ 31 < p0
  · replace h := h.1 c2
    refine r_tsOut (tgt := 83) d_X10_isFactOf_1 h1 c2 (by decide) ?_
    refine r_iconst d_X10_isFactOf_83 ?_
    exact r_zreturn d_X10_isFactOf_84 rfl ⟨rfl, Nat.le_refl _, Nat.le_refl _⟩ (by decide) h
  replace h := h.2
  have c22 : p0 = 24 ∨ p0 = 25 ∨ p0 = 26 ∨ p0 = 27 ∨ p0 = 28 ∨ p0 = 29 ∨ p0 = 30 ∨ p0 = 31 := by omega
  rcases c22 with c3 | c3 | c3 | c3 | c3 | c3 | c3 | c3
  · replace h := h.1 c3
    refine r_tsIn (tgt := 50) (off := 49) (j := 24) d_X10_isFactOf_1 c3 ⟨by decide, by decide⟩ (by decide) rfl (by decide) ?_
    refine r_iload_n d_X10_isFactOf_50 1 rfl rfl ?_
    refine r_iconst d_X10_isFactOf_51 ?_
    obtain ⟨h4, h⟩ := h
    refine r_icmp_eq (tgt := 59) d_X10_isFactOf_52 (by decide) h4 ⟨by decide, by decide⟩ (fun c5 => ?_) (fun c5 => ?_)
    · replace h := h.1 c5
      refine r_iconst d_X10_isFactOf_59 ?_
      exact r_zreturn d_X10_isFactOf_60 rfl ⟨rfl, Nat.le_refl _, Nat.le_refl _⟩ (by decide) h
    · replace h := h.2 c5
      refine r_iconst d_X10_isFactOf_55 ?_
      refine r_goto (tgt := 60) d_X10_isFactOf_56 (by decide) ?_
      exact r_zreturn d_X10_isFactOf_60 rfl ⟨rfl, Nat.le_refl _, Nat.le_refl _⟩ (by decide) h
  · replace h := h.2.1 c3
    refine r_tsIn (tgt := 50) (off := 49) (j := 25) d_X10_isFactOf_1 c3 ⟨by decide, by decide⟩ (by decide) rfl (by decide) ?_
    refine r_iload_n d_X10_isFactOf_50 1 rfl rfl ?_
    refine r_iconst d_X10_isFactOf_51 ?_
    obtain ⟨h6, h⟩ := h
    refine r_icmp_eq (tgt := 59) d_X10_isFactOf_52 (by decide) h6 ⟨by decide, by decide⟩ (fun c7 => ?_) (fun c7 => ?_)
    · replace h := h.1 c7
      refine r_iconst d_X10_isFactOf_59 ?_
      exact r_zreturn d_X10_isFactOf_60 rfl ⟨rfl, Nat.le_refl _, Nat.le_refl _⟩ (by decide) h
    · replace h := h.2 c7
      refine r_iconst d_X10_isFactOf_55 ?_
      refine r_goto (tgt := 60) d_X10_isFactOf_56 (by decide) ?_
      exact r_zreturn d_X10_isFactOf_60 rfl ⟨rfl, Nat.le_refl _, Nat.le_refl _⟩ (by decide) h
  · replace h := h.2.2.1 c3
    refine r_tsIn (tgt := 50) (off := 49) (j := 26) d_X10_isFactOf_1 c3 ⟨by decide, by decide⟩ (by decide) rfl (by decide) ?_
    refine r_iload_n d_X10_isFactOf_50 1 rfl rfl ?_
    refine r_iconst d_X10_isFactOf_51 ?_
    obtain ⟨h8, h⟩ := h
    refine r_icmp_eq (tgt := 59) d_X10_isFactOf_52 (by decide) h8 ⟨by decide, by decide⟩ (fun c9 => ?_) (fun c9 => ?_)
    · replace h := h.1 c9
      refine r_iconst d_X10_isFactOf_59 ?_
      exact r_zreturn d_X10_isFactOf_60 rfl ⟨rfl, Nat.le_refl _, Nat.le_refl _⟩ (by decide) h
    · replace h := h.2 c9
      refine r_iconst d_X10_isFactOf_55 ?_
      refine r_goto (tgt := 60) d_X10_isFactOf_56 (by decide) ?_
      exact r_zreturn d_X10_isFactOf_60 rfl ⟨rfl, Nat.le_refl _, Nat.le_refl _⟩ (by decide) h
  · replace h := h.2.2.2.1 c3
    refine r_tsIn (tgt := 61) (off := 60) (j := 27) d_X10_isFactOf_1 c3 ⟨by decide, by decide⟩ (by decide) rfl (by decide) ?_
    refine r_iload_n d_X10_isFactOf_61 1 rfl rfl ?_
    refine r_iconst d_X10_isFactOf_62 ?_
    obtain ⟨h10, h⟩ := h
    refine r_icmp_ne (tgt := 70) d_X10_isFactOf_63 (by decide) h10 ⟨by decide, by decide⟩ (fun c11 => ?_) (fun c11 => ?_)
    · replace h := h.1 c11
      refine r_iconst d_X10_isFactOf_70 ?_
      exact r_zreturn d_X10_isFactOf_71 rfl ⟨rfl, Nat.le_refl _, Nat.le_refl _⟩ (by decide) h
    · replace h := h.2 c11
      refine r_iconst d_X10_isFactOf_66 ?_
      refine r_goto (tgt := 71) d_X10_isFactOf_67 (by decide) ?_
      exact r_zreturn d_X10_isFactOf_71 rfl ⟨rfl, Nat.le_refl _, Nat.le_refl _⟩ (by decide) h
  · replace h := h.2.2.2.2.1 c3
    refine r_tsIn (tgt := 48) (off := 47) (j := 28) d_X10_isFactOf_1 c3 ⟨by decide, by decide⟩ (by decide) rfl (by decide) ?_
    refine r_iconst d_X10_isFactOf_48 ?_
    exact r_zreturn d_X10_isFactOf_49 rfl ⟨rfl, Nat.le_refl _, Nat.le_refl _⟩ (by decide) h
  · replace h := h.2.2.2.2.2.1 c3
    refine r_tsIn (tgt := 50) (off := 49) (j := 29) d_X10_isFactOf_1 c3 ⟨by decide, by decide⟩ (by decide) rfl (by decide) ?_
    refine r_iload_n d_X10_isFactOf_50 1 rfl rfl ?_
    refine r_iconst d_X10_isFactOf_51 ?_
    obtain ⟨h12, h⟩ := h
    refine r_icmp_eq (tgt := 59) d_X10_isFactOf_52 (by decide) h12 ⟨by decide, by decide⟩ (fun c13 => ?_) (fun c13 => ?_)
    · replace h := h.1 c13
      refine r_iconst d_X10_isFactOf_59 ?_
      exact r_zreturn d_X10_isFactOf_60 rfl ⟨rfl, Nat.le_refl _, Nat.le_refl _⟩ (by decide) h
    · replace h := h.2 c13
      refine r_iconst d_X10_isFactOf_55 ?_
      refine r_goto (tgt := 60) d_X10_isFactOf_56 (by decide) ?_
      exact r_zreturn d_X10_isFactOf_60 rfl ⟨rfl, Nat.le_refl _, Nat.le_refl _⟩ (by decide) h
  · replace h := h.2.2.2.2.2.2.1 c3
    refine r_tsIn (tgt := 61) (off := 60) (j := 30) d_X10_isFactOf_1 c3 ⟨by decide, by decide⟩ (by decide) rfl (by decide) ?_
    refine r_iload_n d_X10_isFactOf_61 1 rfl rfl ?_
    refine r_iconst d_X10_isFactOf_62 ?_
    obtain ⟨h14, h⟩ := h
    refine r_icmp_ne (tgt := 70) d_X10_isFactOf_63 (by decide) h14 ⟨by decide, by decide⟩ (fun c15 => ?_) (fun c15 => ?_)
    · replace h := h.1 c15
      refine r_iconst d_X10_isFactOf_70 ?_
      exact r_zreturn d_X10_isFactOf_71 rfl ⟨rfl, Nat.le_refl _, Nat.le_refl _⟩ (by decide) h
    · replace h := h.2 c15
      refine r_iconst d_X10_isFactOf_66 ?_
      refine r_goto (tgt := 71) d_X10_isFactOf_67 (by decide) ?_
      exact r_zreturn d_X10_isFactOf_71 rfl ⟨rfl, Nat.le_refl _, Nat.le_refl _⟩ (by decide) h
  · replace h := h.2.2.2.2.2.2.2 c3
    refine r_tsIn (tgt := 72) (off := 71) (j := 31) d_X10_isFactOf_1 c3 ⟨by decide, by decide⟩ (by decide) rfl (by decide) ?_
    refine r_iload_n d_X10_isFactOf_72 1 rfl rfl ?_
    refine r_iconst d_X10_isFactOf_73 ?_
    obtain ⟨h16, h⟩ := h
    refine r_icmp_ne (tgt := 81) d_X10_isFactOf_74 (by decide) h16 ⟨by decide, by decide⟩ (fun c17 => ?_) (fun c17 => ?_)
    · replace h := h.1 c17
      refine r_iconst d_X10_isFactOf_81 ?_
      exact r_zreturn d_X10_isFactOf_82 rfl ⟨rfl, Nat.le_refl _, Nat.le_refl _⟩ (by decide) h
    · replace h := h.2 c17
      refine r_iconst d_X10_isFactOf_77 ?_
      refine r_goto (tgt := 82) d_X10_isFactOf_78 (by decide) ?_
      exact r_zreturn d_X10_isFactOf_82 rfl ⟨rfl, Nat.le_refl _, Nat.le_refl _⟩ (by decide) h
theorem d_X10_isLetter_0 : decode M_X10_isLetter.2.1 0 = .ok (.iload_n 0, 1) := by decide +kernel
theorem d_X10_isLetter_1 : decode M_X10_isLetter.2.1 1 = .ok (.bipush 97, 2) := by decide +kernel
theorem d_X10_isLetter_3 : decode M_X10_isLetter.2.1 3 = .ok (.if_icmp .lt 13, 3) := by decide +kernel
theorem d_X10_isLetter_6 : decode M_X10_isLetter.2.1 6 = .ok (.iload_n 0, 1) := by decide +kernel
theorem d_X10_isLetter_7 : decode M_X10_isLetter.2.1 7 = .ok (.bipush 122, 2) := by decide +kernel
theorem d_X10_isLetter_9 : decode M_X10_isLetter.2.1 9 = .ok (.if_icmp .gt 7, 3) := by decide +kernel
theorem d_X10_isLetter_12 : decode M_X10_isLetter.2.1 12 = .ok (.iconst 1, 1) := by decide +kernel
theorem d_X10_isLetter_13 : decode M_X10_isLetter.2.1 13 = .ok (.goto 4, 3) := by decide +kernel
theorem d_X10_isLetter_16 : decode M_X10_isLetter.2.1 16 = .ok (.iconst 0, 1) := by decide +kernel
theorem d_X10_isLetter_17 : decode M_X10_isLetter.2.1 17 = .ok (.ireturn, 1) := by decide +kernel
set_option maxRecDepth 20000 in
theorem s_X10_isLetter_0 {d : Nat} {p0 : Int} {G : Mem} {Q : Int → Mem → Prop}  (h : (InR p0) ∧ ((p0 < 97) → Q 0 G) ∧ (¬ (p0 < 97) → ((122 < p0) → Q 0 G) ∧ (¬ (122 < p0) → Q 1 G))) : Rn d M_X10_isLetter zN 0 [(0, (0, p0))] [] G Q := by
  refine r_iload_n d_X10_isLetter_0 0 rfl rfl ?_
  refine r_bipush d_X10_isLetter_1 (by decide +kernel) ?_
  obtain ⟨h1, h⟩ := h
  refine r_icmp_lt (tgt := 16) d_X10_isLetter_3 (by decide) h1 ⟨by decide, by decide⟩ (fun c2 => ?_) (fun c2 => ?_)
  · replace h := h.1 c2
    refine r_iconst d_X10_isLetter_16 ?_
    exact r_zreturn d_X10_isLetter_17 rfl ⟨rfl, Nat.le_refl _, Nat.le_refl _⟩ (by decide) h
  · replace h := h.2 c2
    refine r_iload_n d_X10_isLetter_6 0 rfl rfl ?_
    refine r_bipush d_X10_isLetter_7 (by decide +kernel) ?_
    refine r_icmp_gt (tgt := 16) d_X10_isLetter_9 (by decide) h1 ⟨by decide, by decide⟩ (fun c3 => ?_) (fun c3 => ?_)
    · replace h := h.1 c3
      refine r_iconst d_X10_isLetter_16 ?_
      exact r_zreturn d_X10_isLetter_17 rfl ⟨rfl, Nat.le_refl _, Nat.le_refl _⟩ (by decide) h
    · replace h := h.2 c3
      refine r_iconst d_X10_isLetter_12 ?_
      refine r_goto (tgt := 17) d_X10_isLetter_13 (by decide) ?_
      exact r_zreturn d_X10_isLetter_17 rfl ⟨rfl, Nat.le_refl _, Nat.le_refl _⟩ (by decide) h
theorem d_X10_isDigit_0 : decode M_X10_isDigit.2.1 0 = .ok (.iload_n 0, 1) := by decide +kernel
theorem d_X10_isDigit_1 : decode M_X10_isDigit.2.1 1 = .ok (.bipush 48, 2) := by decide +kernel
theorem d_X10_isDigit_3 : decode M_X10_isDigit.2.1 3 = .ok (.if_icmp .lt 13, 3) := by decide +kernel
theorem d_X10_isDigit_6 : decode M_X10_isDigit.2.1 6 = .ok (.iload_n 0, 1) := by decide +kernel
theorem d_X10_isDigit_7 : decode M_X10_isDigit.2.1 7 = .ok (.bipush 57, 2) := by decide +kernel
theorem d_X10_isDigit_9 : decode M_X10_isDigit.2.1 9 = .ok (.if_icmp .gt 7, 3) := by decide +kernel
theorem d_X10_isDigit_12 : decode M_X10_isDigit.2.1 12 = .ok (.iconst 1, 1) := by decide +kernel
theorem d_X10_isDigit_13 : decode M_X10_isDigit.2.1 13 = .ok (.goto 4, 3) := by decide +kernel
theorem d_X10_isDigit_16 : decode M_X10_isDigit.2.1 16 = .ok (.iconst 0, 1) := by decide +kernel
theorem d_X10_isDigit_17 : decode M_X10_isDigit.2.1 17 = .ok (.ireturn, 1) := by decide +kernel
set_option maxRecDepth 20000 in
theorem s_X10_isDigit_0 {d : Nat} {p0 : Int} {G : Mem} {Q : Int → Mem → Prop}  (h : (InR p0) ∧ ((p0 < 48) → Q 0 G) ∧ (¬ (p0 < 48) → ((57 < p0) → Q 0 G) ∧ (¬ (57 < p0) → Q 1 G))) : Rn d M_X10_isDigit zN 0 [(0, (0, p0))] [] G Q := by
  refine r_iload_n d_X10_isDigit_0 0 rfl rfl ?_
  refine r_bipush d_X10_isDigit_1 (by decide +kernel) ?_
  obtain ⟨h1, h⟩ := h
  refine r_icmp_lt (tgt := 16) d_X10_isDigit_3 (by decide) h1 ⟨by decide, by decide⟩ (fun c2 => ?_) (fun c2 => ?_)
  · replace h := h.1 c2
    refine r_iconst d_X10_isDigit_16 ?_
    exact r_zreturn d_X10_isDigit_17 rfl ⟨rfl, Nat.le_refl _, Nat.le_refl _⟩ (by decide) h
  · replace h := h.2 c2
    refine r_iload_n d_X10_isDigit_6 0 rfl rfl ?_
    refine r_bipush d_X10_isDigit_7 (by decide +kernel) ?_
    refine r_icmp_gt (tgt := 16) d_X10_isDigit_9 (by decide) h1 ⟨by decide, by decide⟩ (fun c3 => ?_) (fun c3 => ?_)
    · replace h := h.1 c3
      refine r_iconst d_X10_isDigit_16 ?_
      exact r_zreturn d_X10_isDigit_17 rfl ⟨rfl, Nat.le_refl _, Nat.le_refl _⟩ (by decide) h
    · replace h := h.2 c3
      refine r_iconst d_X10_isDigit_12 ?_
      refine r_goto (tgt := 17) d_X10_isDigit_13 (by decide) ?_
      exact r_zreturn d_X10_isDigit_17 rfl ⟨rfl, Nat.le_refl _, Nat.le_refl _⟩ (by decide) h
theorem d_X10_isSign_0 : decode M_X10_isSign.2.1 0 = .ok (.iload_n 0, 1) := by decide +kernel
theorem d_X10_isSign_1 : decode M_X10_isSign.2.1 1 = .ok (.bipush 40, 2) := by decide +kernel
theorem d_X10_isSign_3 : decode M_X10_isSign.2.1 3 = .ok (.if_icmp .eq 45, 3) := by decide +kernel
theorem d_X10_isSign_6 : decode M_X10_isSign.2.1 6 = .ok (.iload_n 0, 1) := by decide +kernel
theorem d_X10_isSign_7 : decode M_X10_isSign.2.1 7 = .ok (.bipush 41, 2) := by decide +kernel
theorem d_X10_isSign_9 : decode M_X10_isSign.2.1 9 = .ok (.if_icmp .eq 39, 3) := by decide +kernel
theorem d_X10_isSign_12 : decode M_X10_isSign.2.1 12 = .ok (.iload_n 0, 1) := by decide +kernel
theorem d_X10_isSign_13 : decode M_X10_isSign.2.1 13 = .ok (.bipush 60, 2) := by decide +kernel
theorem d_X10_isSign_15 : decode M_X10_isSign.2.1 15 = .ok (.if_icmp .eq 33, 3) := by decide +kernel
theorem d_X10_isSign_18 : decode M_X10_isSign.2.1 18 = .ok (.iload_n 0, 1) := by decide +kernel
theorem d_X10_isSign_19 : decode M_X10_isSign.2.1 19 = .ok (.bipush 61, 2) := by decide +kernel
theorem d_X10_isSign_21 : decode M_X10_isSign.2.1 21 = .ok (.if_icmp .eq 27, 3) := by decide +kernel
theorem d_X10_isSign_24 : decode M_X10_isSign.2.1 24 = .ok (.iload_n 0, 1) := by decide +kernel
theorem d_X10_isSign_25 : decode M_X10_isSign.2.1 25 = .ok (.bipush 43, 2) := by decide +kernel
theorem d_X10_isSign_27 : decode M_X10_isSign.2.1 27 = .ok (.if_icmp .eq 21, 3) := by decide +kernel
theorem d_X10_isSign_30 : decode M_X10_isSign.2.1 30 = .ok (.iload_n 0, 1) := by decide +kernel
theorem d_X10_isSign_31 : decode M_X10_isSign.2.1 31 = .ok (.bipush 45, 2) := by decide +kernel
theorem d_X10_isSign_33 : decode M_X10_isSign.2.1 33 = .ok (.if_icmp .eq 15, 3) := by decide +kernel
theorem d_X10_isSign_36 : decode M_X10_isSign.2.1 36 = .ok (.iload_n 0, 1) := by decide +kernel
theorem d_X10_isSign_37 : decode M_X10_isSign.2.1 37 = .ok (.bipush 42, 2) := by decide +kernel
theorem d_X10_isSign_39 : decode M_X10_isSign.2.1 39 = .ok (.if_icmp .eq 9, 3) := by decide +kernel
theorem d_X10_isSign_42 : decode M_X10_isSign.2.1 42 = .ok (.iload_n 0, 1) := by decide +kernel
theorem d_X10_isSign_43 : decode M_X10_isSign.2.1 43 = .ok (.bipush 59, 2) := by decide +kernel
theorem d_X10_isSign_45 : decode M_X10_isSign.2.1 45 = .ok (.if_icmp .ne 7, 3) := by decide +kernel
theorem d_X10_isSign_48 : decode M_X10_isSign.2.1 48 = .ok (.iconst 1, 1) := by decide +kernel
theorem d_X10_isSign_49 : decode M_X10_isSign.2.1 49 = .ok (.goto 4, 3) := by decide +kernel
theorem d_X10_isSign_52 : decode M_X10_isSign.2.1 52 = .ok (.iconst 0, 1) := by decide +kernel
theorem d_X10_isSign_53 : decode M_X10_isSign.2.1 53 = .ok (.ireturn, 1) := by decide +kernel
set_option maxRecDepth 20000 in
theorem s_X10_isSign_0 {d : Nat} {p0 : Int} {G : Mem} {Q : Int → Mem → Prop}  (h : (InR p0) ∧ ((p0 = 40) → Q 1 G) ∧ (¬ (p0 = 40) → ((p0 = 41) → Q 1 G) ∧ (¬ (p0 = 41) → ((p0 = 60) → Q 1 G) ∧ (¬ (p0 = 60) → ((p0 = 61) → Q 1 G) ∧ (¬ (p0 = 61) → ((p0 = 43) → Q 1 G) ∧ (¬ (p0 = 43) → ((p0 = 45) → Q 1 G) ∧ (¬ (p0 = 45) → ((p0 = 42) → Q 1 G) ∧ (¬ (p0 = 42) → ((p0 ≠ 59) → Q 0 G) ∧ (¬ (p0 ≠ 59) → Q 1 G))))))))) : Rn d M_X10_isSign zN 0 [(0, (0, p0))] [] G Q := by
  refine r_iload_n d_X10_isSign_0 0 rfl rfl ?_
  refine r_bipush d_X10_isSign_1 (by decide +kernel) ?_
  obtain ⟨h1, h⟩ := h
  refine r_icmp_eq (tgt := 48) d_X10_isSign_3 (by decide) h1 ⟨by decide, by decide⟩ (fun c2 => ?_) (fun c2 => ?_)
  · replace h := h.1 c2
    refine r_iconst d_X10_isSign_48 ?_
    refine r_goto (tgt := 53) d_X10_isSign_49 (by decide) ?_
    exact r_zreturn d_X10_isSign_53 rfl ⟨rfl, Nat.le_refl _, Nat.le_refl _⟩ (by decide) h
  · replace h := h.2 c2
    refine r_iload_n d_X10_isSign_6 0 rfl rfl ?_
    refine r_bipush d_X10_isSign_7 (by decide +kernel) ?_
    refine r_icmp_eq (tgt := 48) d_X10_isSign_9 (by decide) h1 ⟨by decide, by decide⟩ (fun c3 => ?_) (fun c3 => ?_)
    · replace h := h.1 c3
      refine r_iconst d_X10_isSign_48 ?_
      refine r_goto (tgt := 53) d_X10_isSign_49 (by decide) ?_
      exact r_zreturn d_X10_isSign_53 rfl ⟨rfl, Nat.le_refl _, Nat.le_refl _⟩ (by decide) h
    · replace h := h.2 c3
      refine r_iload_n d_X10_isSign_12 0 rfl rfl ?_
      refine r_bipush d_X10_isSign_13 (by decide +kernel) ?_
      refine r_icmp_eq (tgt := 48) d_X10_isSign_15 (by decide) h1 ⟨by decide, by decide⟩ (fun c4 => ?_) (fun c4 => ?_)
      · replace h := h.1 c4
        refine r_iconst d_X10_isSign_48 ?_
        refine r_goto (tgt := 53) d_X10_isSign_49 (by decide) ?_
        exact r_zreturn d_X10_isSign_53 rfl ⟨rfl, Nat.le_refl _, Nat.le_refl _⟩ (by decide) h
      · replace h := h.2 c4
        refine r_iload_n d_X10_isSign_18 0 rfl rfl ?_
        refine r_bipush d_X10_isSign_19 (by decide +kernel) ?_
        refine r_icmp_eq (tgt := 48) d_X10_isSign_21 (by decide) h1 ⟨by decide, by decide⟩ (fun c5 => ?_) (fun c5 => ?_)
        · replace h := h.1 c5
          refine r_iconst d_X10_isSign_48 ?_
          refine r_goto (tgt := 53) d_X10_isSign_49 (by decide) ?_
          exact r_zreturn d_X10_isSign_53 rfl ⟨rfl, Nat.le_refl _, Nat.le_refl _⟩ (by decide) h
        · replace h := h.2 c5
          refine r_iload_n d_X10_isSign_24 0 rfl rfl ?_
          refine r_bipush d_X10_isSign_25 (by decide +kernel) ?_
          refine r_icmp_eq (tgt := 48) d_X10_isSign_27 (by decide) h1 ⟨by decide, by decide⟩ (fun c6 => ?_) (fun c6 => ?_)
          · replace h := h.1 c6
            refine r_iconst d_X10_isSign_48 ?_
            refine r_goto (tgt := 53) d_X10_isSign_49 (by decide) ?_
            exact r_zreturn d_X10_isSign_53 rfl ⟨rfl, Nat.le_refl _, Nat.le_refl _⟩ (by decide) h
          · replace h := h.2 c6
            refine r_iload_n d_X10_isSign_30 0 rfl rfl ?_
            refine r_bipush d_X10_isSign_31 (by decide +kernel) ?_
            refine r_icmp_eq (tgt := 48) d_X10_isSign_33 (by decide) h1 ⟨by decide, by decide⟩ (fun c7 => ?_) (fun c7 => ?_)
            · replace h := h.1 c7
              refine r_iconst d_X10_isSign_48 ?_
              refine r_goto (tgt := 53) d_X10_isSign_49 (by decide) ?_
              exact r_zreturn d_X10_isSign_53 rfl ⟨rfl, Nat.le_refl _, Nat.le_refl _⟩ (by decide) h
            · replace h := h.2 c7
              refine r_iload_n d_X10_isSign_36 0 rfl rfl ?_
              refine r_bipush d_X10_isSign_37 (by decide +kernel) ?_
              refine r_icmp_eq (tgt := 48) d_X10_isSign_39 (by decide) h1 ⟨by decide, by decide⟩ (fun c8 => ?_) (fun c8 => ?_)
              · replace h := h.1 c8
                refine r_iconst d_X10_isSign_48 ?_
                refine r_goto (tgt := 53) d_X10_isSign_49 (by decide) ?_
                exact r_zreturn d_X10_isSign_53 rfl ⟨rfl, Nat.le_refl _, Nat.le_refl _⟩ (by decide) h
              · replace h := h.2 c8
                refine r_iload_n d_X10_isSign_42 0 rfl rfl ?_
                refine r_bipush d_X10_isSign_43 (by decide +kernel) ?_
                refine r_icmp_ne (tgt := 52) d_X10_isSign_45 (by decide) h1 ⟨by decide, by decide⟩ (fun c9 => ?_) (fun c9 => ?_)
                · replace h := h.1 c9
                  refine r_iconst d_X10_isSign_52 ?_
                  exact r_zreturn d_X10_isSign_53 rfl ⟨rfl, Nat.le_refl _, Nat.le_refl _⟩ (by decide) h
                · replace h := h.2 c9
                  refine r_iconst d_X10_isSign_48 ?_
                  refine r_goto (tgt := 53) d_X10_isSign_49 (by decide) ?_
                  exact r_zreturn d_X10_isSign_53 rfl ⟨rfl, Nat.le_refl _, Nat.le_refl _⟩ (by decide) h
theorem d_X5_read_0 : decode M_X5_read.2.1 0 = .ok (.aload_n 0, 1) := by decide +kernel
theorem d_X5_read_1 : decode M_X5_read.2.1 1 = .ok (.aload_n 1, 1) := by decide +kernel
theorem d_X5_read_2 : decode M_X5_read.2.1 2 = .ok (.putfield 21, 3) := by decide +kernel
theorem d_X5_read_5 : decode M_X5_read.2.1 5 = .ok (.aload_n 0, 1) := by decide +kernel
theorem d_X5_read_6 : decode M_X5_read.2.1 6 = .ok (.aload_n 2, 1) := by decide +kernel
theorem d_X5_read_7 : decode M_X5_read.2.1 7 = .ok (.putfield 25, 3) := by decide +kernel
theorem d_X5_read_10 : decode M_X5_read.2.1 10 = .ok (.aload_n 0, 1) := by decide +kernel
theorem d_X5_read_11 : decode M_X5_read.2.1 11 = .ok (.getfield 25, 3) := by decide +kernel
theorem d_X5_read_14 : decode M_X5_read.2.1 14 = .ok (.invokevirtual 29, 3) := by decide +kernel
theorem d_X5_read_17 : decode M_X5_read.2.1 17 = .ok (.aload_n 0, 1) := by decide +kernel
theorem d_X5_read_18 : decode M_X5_read.2.1 18 = .ok (.iconst 0, 1) := by decide +kernel
theorem d_X5_read_19 : decode M_X5_read.2.1 19 = .ok (.putfield 34, 3) := by decide +kernel
theorem d_X5_read_22 : decode M_X5_read.2.1 22 = .ok (.aload_n 0, 1) := by decide +kernel
theorem d_X5_read_23 : decode M_X5_read.2.1 23 = .ok (.getfield 17, 3) := by decide +kernel
theorem d_X5_read_26 : decode M_X5_read.2.1 26 = .ok (.iconst 0, 1) := by decide +kernel
theorem d_X5_read_27 : decode M_X5_read.2.1 27 = .ok (.invokestatic 38, 3) := by decide +kernel
theorem d_X5_read_30 : decode M_X5_read.2.1 30 = .ok (.aload_n 0, 1) := by decide +kernel
theorem d_X5_read_31 : decode M_X5_read.2.1 31 = .ok (.getfield 21, 3) := by decide +kernel
theorem d_X5_read_34 : decode M_X5_read.2.1 34 = .ok (.invokevirtual 44, 3) := by decide +kernel
theorem d_X5_read_37 : decode M_X5_read.2.1 37 = .ok (.aload_n 0, 1) := by decide +kernel
theorem d_X5_read_38 : decode M_X5_read.2.1 38 = .ok (.invokevirtual 47, 3) := by decide +kernel
theorem d_X5_read_41 : decode M_X5_read.2.1 41 = .ok (.iconst 0, 1) := by decide +kernel
theorem d_X5_read_42 : decode M_X5_read.2.1 42 = .ok (.istore_n 3, 1) := by decide +kernel
theorem d_X5_read_43 : decode M_X5_read.2.1 43 = .ok (.iload_n 3, 1) := by decide +kernel
theorem d_X5_read_44 : decode M_X5_read.2.1 44 = .ok (.sipush 1000, 3) := by decide +kernel
theorem d_X5_read_47 : decode M_X5_read.2.1 47 = .ok (.if_icmp .ge 295, 3) := by decide +kernel
theorem d_X5_read_50 : decode M_X5_read.2.1 50 = .ok (.aload_n 0, 1) := by decide +kernel
theorem d_X5_read_51 : decode M_X5_read.2.1 51 = .ok (.getfield 34, 3) := by decide +kernel
theorem d_X5_read_54 : decode M_X5_read.2.1 54 = .ok (.ifCond .ne 288, 3) := by decide +kernel
theorem d_X5_read_57 : decode M_X5_read.2.1 57 = .ok (.aload_n 0, 1) := by decide +kernel
theorem d_X5_read_58 : decode M_X5_read.2.1 58 = .ok (.getfield 21, 3) := by decide +kernel
theorem d_X5_read_61 : decode M_X5_read.2.1 61 = .ok (.getfield 50, 3) := by decide +kernel
theorem d_X5_read_64 : decode M_X5_read.2.1 64 = .ok (.ifCond .eq 278, 3) := by decide +kernel
theorem d_X5_read_67 : decode M_X5_read.2.1 67 = .ok (.aload_n 0, 1) := by decide +kernel
theorem d_X5_read_68 : decode M_X5_read.2.1 68 = .ok (.getfield 21, 3) := by decide +kernel
theorem d_X5_read_71 : decode M_X5_read.2.1 71 = .ok (.getfield 50, 3) := by decide +kernel
theorem d_X5_read_74 : decode M_X5_read.2.1 74 = .ok (.iconst 2, 1) := by decide +kernel
theorem d_X5_read_75 : decode M_X5_read.2.1 75 = .ok (.if_icmp .ne 13, 3) := by decide +kernel
theorem d_X5_read_78 : decode M_X5_read.2.1 78 = .ok (.aload_n 0, 1) := by decide +kernel
theorem d_X5_read_79 : decode M_X5_read.2.1 79 = .ok (.getfield 21, 3) := by decide +kernel
theorem d_X5_read_82 : decode M_X5_read.2.1 82 = .ok (.getfield 53, 3) := by decide +kernel
theorem d_X5_read_85 : decode M_X5_read.2.1 85 = .ok (.goto 4, 3) := by decide +kernel
theorem d_X5_read_88 : decode M_X5_read.2.1 88 = .ok (.iconst (-1), 1) := by decide +kernel
theorem d_X5_read_89 : decode M_X5_read.2.1 89 = .ok (.istore 4, 2) := by decide +kernel
theorem d_X5_read_91 : decode M_X5_read.2.1 91 = .ok (.aload_n 0, 1) := by decide +kernel
theorem d_X5_read_92 : decode M_X5_read.2.1 92 = .ok (.iload 4, 2) := by decide +kernel
theorem d_X5_read_94 : decode M_X5_read.2.1 94 = .ok (.invokevirtual 56, 3) := by decide +kernel
theorem d_X5_read_97 : decode M_X5_read.2.1 97 = .ok (.iload 4, 2) := by decide +kernel
theorem d_X5_read_99 : decode M_X5_read.2.1 99 = .ok (.tableswitch 226 2 27 #[117, 226, 226, 226, 226, 226, 226, 131, 140, 172, 179, 202, 210, 218, 226, 226, 226, 226, 226, 226, 226, 226, 226, 226, 124, 149], 117) := by decide +kernel
theorem d_X5_read_216 : decode M_X5_read.2.1 216 = .ok (.aload_n 0, 1) := by decide +kernel
theorem d_X5_read_217 : decode M_X5_read.2.1 217 = .ok (.invokevirtual 60, 3) := by decide +kernel
theorem d_X5_read_220 : decode M_X5_read.2.1 220 = .ok (.goto 110, 3) := by decide +kernel
theorem d_X5_read_223 : decode M_X5_read.2.1 223 = .ok (.aload_n 0, 1) := by decide +kernel
theorem d_X5_read_224 : decode M_X5_read.2.1 224 = .ok (.invokevirtual 63, 3) := by decide +kernel
theorem d_X5_read_227 : decode M_X5_read.2.1 227 = .ok (.goto 103, 3) := by decide +kernel
theorem d_X5_read_230 : decode M_X5_read.2.1 230 = .ok (.aload_n 0, 1) := by decide +kernel
theorem d_X5_read_231 : decode M_X5_read.2.1 231 = .ok (.iload 4, 2) := by decide +kernel
theorem d_X5_read_233 : decode M_X5_read.2.1 233 = .ok (.invokevirtual 66, 3) := by decide +kernel
theorem d_X5_read_236 : decode M_X5_read.2.1 236 = .ok (.goto 94, 3) := by decide +kernel
theorem d_X5_read_239 : decode M_X5_read.2.1 239 = .ok (.aload_n 0, 1) := by decide +kernel
theorem d_X5_read_240 : decode M_X5_read.2.1 240 = .ok (.iload 4, 2) := by decide +kernel
theorem d_X5_read_242 : decode M_X5_read.2.1 242 = .ok (.invokevirtual 66, 3) := by decide +kernel
theorem d_X5_read_245 : decode M_X5_read.2.1 245 = .ok (.goto 85, 3) := by decide +kernel
theorem d_X5_read_248 : decode M_X5_read.2.1 248 = .ok (.aload_n 0, 1) := by decide +kernel
theorem d_X5_read_249 : decode M_X5_read.2.1 249 = .ok (.iload 4, 2) := by decide +kernel
theorem d_X5_read_251 : decode M_X5_read.2.1 251 = .ok (.invokevirtual 69, 3) := by decide +kernel
theorem d_X5_read_254 : decode M_X5_read.2.1 254 = .ok (.aload_n 0, 1) := by decide +kernel
theorem d_X5_read_255 : decode M_X5_read.2.1 255 = .ok (.getfield 25, 3) := by decide +kernel
theorem d_X5_read_258 : decode M_X5_read.2.1 258 = .ok (.aload_n 0, 1) := by decide +kernel
theorem d_X5_read_259 : decode M_X5_read.2.1 259 = .ok (.iconst 5, 1) := by decide +kernel
theorem d_X5_read_260 : decode M_X5_read.2.1 260 = .ok (.bipush 20, 2) := by decide +kernel
theorem d_X5_read_262 : decode M_X5_read.2.1 262 = .ok (.invokevirtual 72, 3) := by decide +kernel
theorem d_X5_read_265 : decode M_X5_read.2.1 265 = .ok (.putfield 76, 3) := by decide +kernel
theorem d_X5_read_268 : decode M_X5_read.2.1 268 = .ok (.goto 62, 3) := by decide +kernel
theorem d_X5_read_271 : decode M_X5_read.2.1 271 = .ok (.aload_n 0, 1) := by decide +kernel
theorem d_X5_read_272 : decode M_X5_read.2.1 272 = .ok (.invokevirtual 79, 3) := by decide +kernel
theorem d_X5_read_275 : decode M_X5_read.2.1 275 = .ok (.goto 55, 3) := by decide +kernel
theorem d_X5_read_278 : decode M_X5_read.2.1 278 = .ok (.aload_n 0, 1) := by decide +kernel
theorem d_X5_read_279 : decode M_X5_read.2.1 279 = .ok (.iload 4, 2) := by decide +kernel
theorem d_X5_read_281 : decode M_X5_read.2.1 281 = .ok (.invokevirtual 69, 3) := by decide +kernel
theorem d_X5_read_284 : decode M_X5_read.2.1 284 = .ok (.aload_n 0, 1) := by decide +kernel
theorem d_X5_read_285 : decode M_X5_read.2.1 285 = .ok (.getfield 25, 3) := by decide +kernel
theorem d_X5_read_288 : decode M_X5_read.2.1 288 = .ok (.aload_n 0, 1) := by decide +kernel
theorem d_X5_read_289 : decode M_X5_read.2.1 289 = .ok (.iconst 0, 1) := by decide +kernel
theorem d_X5_read_290 : decode M_X5_read.2.1 290 = .ok (.bipush 10, 2) := by decide +kernel
theorem d_X5_read_292 : decode M_X5_read.2.1 292 = .ok (.invokevirtual 72, 3) := by decide +kernel
theorem d_X5_read_295 : decode M_X5_read.2.1 295 = .ok (.putfield 82, 3) := by decide +kernel
theorem d_X5_read_298 : decode M_X5_read.2.1 298 = .ok (.goto 32, 3) := by decide +kernel
theorem d_X5_read_301 : decode M_X5_read.2.1 301 = .ok (.aload_n 0, 1) := by decide +kernel
theorem d_X5_read_302 : decode M_X5_read.2.1 302 = .ok (.iconst 0, 1) := by decide +kernel
theorem d_X5_read_303 : decode M_X5_read.2.1 303 = .ok (.invokevirtual 85, 3) := by decide +kernel
theorem d_X5_read_306 : decode M_X5_read.2.1 306 = .ok (.goto 24, 3) := by decide +kernel
theorem d_X5_read_309 : decode M_X5_read.2.1 309 = .ok (.aload_n 0, 1) := by decide +kernel
theorem d_X5_read_310 : decode M_X5_read.2.1 310 = .ok (.iconst 1, 1) := by decide +kernel
theorem d_X5_read_311 : decode M_X5_read.2.1 311 = .ok (.invokevirtual 85, 3) := by decide +kernel
theorem d_X5_read_314 : decode M_X5_read.2.1 314 = .ok (.goto 16, 3) := by decide +kernel
theorem d_X5_read_317 : decode M_X5_read.2.1 317 = .ok (.aload_n 0, 1) := by decide +kernel
theorem d_X5_read_318 : decode M_X5_read.2.1 318 = .ok (.iconst 2, 1) := by decide +kernel
theorem d_X5_read_319 : decode M_X5_read.2.1 319 = .ok (.invokevirtual 85, 3) := by decide +kernel
theorem d_X5_read_322 : decode M_X5_read.2.1 322 = .ok (.goto 8, 3) := by decide +kernel
theorem d_X5_read_325 : decode M_X5_read.2.1 325 = .ok (.aload_n 0, 1) := by decide +kernel
theorem d_X5_read_326 : decode M_X5_read.2.1 326 = .ok (.iconst 1, 1) := by decide +kernel
theorem d_X5_read_327 : decode M_X5_read.2.1 327 = .ok (.invokevirtual 88, 3) := by decide +kernel
theorem d_X5_read_330 : decode M_X5_read.2.1 330 = .ok (.aload_n 0, 1) := by decide +kernel
theorem d_X5_read_331 : decode M_X5_read.2.1 331 = .ok (.bipush 59, 2) := by decide +kernel
theorem d_X5_read_333 : decode M_X5_read.2.1 333 = .ok (.invokevirtual 91, 3) := by decide +kernel
theorem d_X5_read_336 : decode M_X5_read.2.1 336 = .ok (.iinc 3 1, 3) := by decide +kernel
theorem d_X5_read_339 : decode M_X5_read.2.1 339 = .ok (.goto (-296), 3) := by decide +kernel
theorem d_X5_read_342 : decode M_X5_read.2.1 342 = .ok (.aload_n 0, 1) := by decide +kernel
theorem d_X5_read_343 : decode M_X5_read.2.1 343 = .ok (.getfield 34, 3) := by decide +kernel
theorem d_X5_read_346 : decode M_X5_read.2.1 346 = .ok (.ireturn, 1) := by decide +kernel
set_option maxRecDepth 20000 in
theorem s_X5_read_0 {d : Nat} {p1 : Int} {G : Mem} {Q : Int → Mem → Prop} (bp1 : Bs 1 p1) (h : (∀ G1 : Mem, G1 = st G 3 2 1 → (∀ G2 : Mem, G2 = st G1 3 3 p1 → ∀ b3 : Int, b3 = (G2 3 3) → (Bs 1 b3 ∧ Ct d M_X1_clear NT 0 0 (some lay) [(2, b3)] G2 (fun r7 G6 => (∀ G8 : Mem, G8 = st G6 3 4 0 → Ct d M_J7_fill_53178 NT 0 0 (some lay) [(2, 5), (0, 0)] G8 (fun r10 G9 => ((G9 3 2) = 1) ∧ (Ct d M_X10_begin NT 0 0 (some lay) [(2, 1)] G9 (fun r13 G12 => Ct d M_X5_readRow NT 0 0 (some lay) [(2, 3)] G12 (fun r15 G14 => Rn (d + 1) M_X5_read zN 43 [(0, (2, 3)), (3, (0, 0))] [] G14 Q)))))))))) : Rn (d + 1) M_X5_read zN 0 [(0, (2, 3)), (1, (2, 1)), (2, (2, p1))] [] G Q := by
  refine r_aload_n d_X5_read_0 0 rfl rfl ?_
  refine r_aload_n d_X5_read_1 1 rfl rfl ?_
  obtain ⟨G1, eG1⟩ : ∃ y : Mem, y = st G 3 2 1 := ⟨_, rfl⟩
  replace h := h G1 eG1
  refine r_putR 5 2 2 rfl d_X5_read_2 fl_X5_21 (by decide) nofin_5_2 (bs_ob bs_5) (bs_nn bs_10) ?_
  rw [← eG1]
  refine r_aload_n d_X5_read_5 0 rfl rfl ?_
  refine r_aload_n d_X5_read_6 2 rfl rfl ?_
  obtain ⟨G2, eG2⟩ : ∃ y : Mem, y = st G1 3 3 p1 := ⟨_, rfl⟩
  replace h := h G2 eG2
  refine r_putR 5 3 3 rfl d_X5_read_7 fl_X5_25 (by decide) nofin_5_3 (bs_ob bs_5) (bs_nn bp1) ?_
  rw [← eG2]
  refine r_aload_n d_X5_read_10 0 rfl rfl ?_
  obtain ⟨b3, e5⟩ : ∃ y : Int, y = (G2 3 3) := ⟨_, rfl⟩
  replace h := h b3 e5
  obtain ⟨h4, h⟩ := h
  refine r_getM 5 3 3 rfl d_X5_read_11 fl_X5_25 (by decide) (bs_ob bs_5) e5.symm (bs_nn h4) ?_
  refine r_callV0 (M' := M_X1_clear) (ci := 1) [] d_X5_read_14 cl_X5_29 rfl (Nat.le_of_ble_eq_true rfl) (by decide) rfl (bs_ob h4) ?_
  refine Ct.mono h (fun r7 G6 h => ?_)
  show Rn _ M_X5_read zN 17 [(0, (2, 3)), (1, (2, 1)), (2, (2, p1))] [] G6 Q
  refine r_aload_n d_X5_read_17 0 rfl rfl ?_
  refine r_iconst d_X5_read_18 ?_
  obtain ⟨G8, eG8⟩ : ∃ y : Mem, y = st G6 3 4 0 := ⟨_, rfl⟩
  replace h := h G8 eG8
  refine r_putI 5 4 4 rfl d_X5_read_19 fl_X5_34 (by decide) nofin_5_4 (bs_ob bs_5) ?_
  rw [← eG8]
  refine r_aload_n d_X5_read_22 0 rfl rfl ?_
  refine r_getL (v := 5) 5 1 1 rfl d_X5_read_23 fl_X5_17 (by decide) (bs_ob bs_5) (ly_5_1 bs_5).1 (ly_5_1 bs_5).2.1 ?_
  refine r_iconst d_X5_read_26 ?_
  refine r_callS0 (M' := M_J7_fill_53178) [(2, 5), (0, 0)] d_X5_read_27 cl_X5_38 rfl (Nat.le_of_ble_eq_true rfl) ?_
  refine Ct.mono h (fun r10 G9 h => ?_)
  show Rn _ M_X5_read zN 30 [(0, (2, 3)), (1, (2, 1)), (2, (2, p1))] [] G9 Q
  refine r_aload_n d_X5_read_30 0 rfl rfl ?_
  obtain ⟨h11, h⟩ := h
  refine r_getM 5 2 2 rfl d_X5_read_31 fl_X5_21 (by decide) (bs_ob bs_5) h11 (by decide) ?_
  refine r_callV0 (M' := M_X10_begin) (ci := 10) [] d_X5_read_34 cl_X5_44 rfl (Nat.le_of_ble_eq_true rfl) (by decide) rfl (bs_ob bs_10) ?_
  refine Ct.mono h (fun r13 G12 h => ?_)
  show Rn _ M_X5_read zN 37 [(0, (2, 3)), (1, (2, 1)), (2, (2, p1))] [] G12 Q
  refine r_aload_n d_X5_read_37 0 rfl rfl ?_
  refine r_callV0 (M' := M_X5_readRow) (ci := 5) [] d_X5_read_38 cl_X5_47 rfl (Nat.le_of_ble_eq_true rfl) (by decide) rfl (bs_ob bs_5) ?_
  refine Ct.mono h (fun r15 G14 h => ?_)
  show Rn _ M_X5_read zN 41 [(0, (2, 3)), (1, (2, 1)), (2, (2, p1))] [] G14 Q
  refine r_iconst d_X5_read_41 ?_
  refine r_istore_n (ls1 := [(3, (0, 0)), (0, (2, 3)), (1, (2, 1)), (2, (2, p1))]) d_X5_read_42 rfl (by decide) rfl ?_
  exact Rn.sub [1, 0] rfl h
set_option maxRecDepth 20000 in
theorem s_X5_read_43 {d : Nat} {x3 : Int} {G : Mem} {Q : Int → Mem → Prop}  (h : (InR x3) ∧ ((1000 ≤ x3) → Q (G 3 4) G) ∧ (¬ (1000 ≤ x3) → (InR (G 3 4)) ∧ (((G 3 4) ≠ 0) → Q (G 3 4) G) ∧ (¬ ((G 3 4) ≠ 0) → ((G 3 2) = 1) ∧ ((InR (G 1 3)) ∧ (((G 1 3) = 0) → Q (G 3 4) G) ∧ (¬ ((G 1 3) = 0) → (((G 1 3) ≠ 2) → Rn d M_X5_read zN 89 [(0, (2, 3)), (3, (0, x3))] [(0, (-1))] G Q) ∧ (¬ ((G 1 3) ≠ 2) → Rn d M_X5_read zN 89 [(0, (2, 3)), (3, (0, x3))] [(0, (G 1 4))] G Q)))))) : Rn d M_X5_read zN 43 [(0, (2, 3)), (3, (0, x3))] [] G Q := by
  refine r_iload_n d_X5_read_43 1 rfl rfl ?_
  refine r_sipush d_X5_read_44 (by decide +kernel) ?_
  obtain ⟨h1, h⟩ := h
  refine r_icmp_ge (tgt := 342) d_X5_read_47 (by decide) h1 ⟨by decide, by decide⟩ (fun c2 => ?_) (fun c2 => ?_)
  · replace h := h.1 c2
    refine r_aload_n d_X5_read_342 0 rfl rfl ?_
    refine r_getI 5 4 4 rfl d_X5_read_343 fl_X5_34 (by decide) (bs_ob bs_5) ?_
    exact r_ireturn d_X5_read_346 rfl ⟨rfl, Nat.le_refl _, Nat.le_refl _⟩ h
  · replace h := h.2 c2
    refine r_aload_n d_X5_read_50 0 rfl rfl ?_
    refine r_getI 5 4 4 rfl d_X5_read_51 fl_X5_34 (by decide) (bs_ob bs_5) ?_
    obtain ⟨h3, h⟩ := h
    refine r_if_ne (tgt := 342) d_X5_read_54 (by decide) h3 (fun c4 => ?_) (fun c4 => ?_)
    · replace h := h.1 c4
      refine r_aload_n d_X5_read_342 0 rfl rfl ?_
      refine r_getI 5 4 4 rfl d_X5_read_343 fl_X5_34 (by decide) (bs_ob bs_5) ?_
      exact r_ireturn d_X5_read_346 rfl ⟨rfl, Nat.le_refl _, Nat.le_refl _⟩ h
    · replace h := h.2 c4
      refine r_aload_n d_X5_read_57 0 rfl rfl ?_
      obtain ⟨h5, h⟩ := h
      refine r_getM 5 2 2 rfl d_X5_read_58 fl_X5_21 (by decide) (bs_ob bs_5) h5 (by decide) ?_
      refine r_getI 10 3 3 rfl d_X5_read_61 fl_X5_50 (by decide) (bs_ob bs_10) ?_
      obtain ⟨h6, h⟩ := h
      refine r_if_eq (tgt := 342) d_X5_read_64 (by decide) h6 (fun c7 => ?_) (fun c7 => ?_)
      · replace h := h.1 c7
        refine r_aload_n d_X5_read_342 0 rfl rfl ?_
        refine r_getI 5 4 4 rfl d_X5_read_343 fl_X5_34 (by decide) (bs_ob bs_5) ?_
        exact r_ireturn d_X5_read_346 rfl ⟨rfl, Nat.le_refl _, Nat.le_refl _⟩ h
      · replace h := h.2 c7
        refine r_aload_n d_X5_read_67 0 rfl rfl ?_
        refine r_getM 5 2 2 rfl d_X5_read_68 fl_X5_21 (by decide) (bs_ob bs_5) h5 (by decide) ?_
        refine r_getI 10 3 3 rfl d_X5_read_71 fl_X5_50 (by decide) (bs_ob bs_10) ?_
        refine r_iconst d_X5_read_74 ?_
        refine r_icmp_ne (tgt := 88) d_X5_read_75 (by decide) h6 ⟨by decide, by decide⟩ (fun c8 => ?_) (fun c8 => ?_)
        · replace h := h.1 c8
          refine r_iconst d_X5_read_88 ?_
          exact h
        · replace h := h.2 c8
          refine r_aload_n d_X5_read_78 0 rfl rfl ?_
          refine r_getM 5 2 2 rfl d_X5_read_79 fl_X5_21 (by decide) (bs_ob bs_5) h5 (by decide) ?_
          refine r_getI 10 4 4 rfl d_X5_read_82 fl_X5_53 (by decide) (bs_ob bs_10) ?_
          refine r_goto (tgt := 89) d_X5_read_85 (by decide) ?_
          exact h
set_option maxRecDepth 20000 in
theorem s_X5_read_89 {d : Nat} {x3 : Int} {s0 : Int} {G : Mem} {Q : Int → Mem → Prop}  (h : Ct d M_X5_checkTimes NT 0 0 (some lay) [(2, 3), (0, s0)] G (fun r2 G1 => (InR s0) ∧ ((s0 < 2 ∨ 27 < s0) → Ct d M_X5_wrong NT 0 0 (some lay) [(2, 3), (0, 1)] G1 (fun r6 G5 => Rn (d + 1) M_X5_read zN 330 [(0, (2, 3)), (3, (0, x3))] [] G5 Q)) ∧ ((s0 = 2) → Ct d M_X5_readSitter NT 0 0 (some lay) [(2, 3)] G1 (fun r9 G8 => Rn (d + 1) M_X5_read zN 330 [(0, (2, 3)), (3, (0, x3))] [] G8 Q)) ∧ ((s0 = 3) → Ct d M_X5_wrong NT 0 0 (some lay) [(2, 3), (0, 1)] G1 (fun r11 G10 => Rn (d + 1) M_X5_read zN 330 [(0, (2, 3)), (3, (0, x3))] [] G10 Q)) ∧ ((s0 = 4) → Ct d M_X5_wrong NT 0 0 (some lay) [(2, 3), (0, 1)] G1 (fun r13 G12 => Rn (d + 1) M_X5_read zN 330 [(0, (2, 3)), (3, (0, x3))] [] G12 Q)) ∧ ((s0 = 5) → Ct d M_X5_wrong NT 0 0 (some lay) [(2, 3), (0, 1)] G1 (fun r15 G14 => Rn (d + 1) M_X5_read zN 330 [(0, (2, 3)), (3, (0, x3))] [] G14 Q)) ∧ ((s0 = 6) → Ct d M_X5_wrong NT 0 0 (some lay) [(2, 3), (0, 1)] G1 (fun r17 G16 => Rn (d + 1) M_X5_read zN 330 [(0, (2, 3)), (3, (0, x3))] [] G16 Q)) ∧ ((s0 = 7) → Ct d M_X5_wrong NT 0 0 (some lay) [(2, 3), (0, 1)] G1 (fun r19 G18 => Rn (d + 1) M_X5_read zN 330 [(0, (2, 3)), (3, (0, x3))] [] G18 Q)) ∧ ((s0 = 8) → Ct d M_X5_wrong NT 0 0 (some lay) [(2, 3), (0, 1)] G1 (fun r21 G20 => Rn (d + 1) M_X5_read zN 330 [(0, (2, 3)), (3, (0, x3))] [] G20 Q)) ∧ ((s0 = 9) → Ct d M_X5_readShut NT 0 0 (some lay) [(2, 3), (0, s0)] G1 (fun r23 G22 => Rn (d + 1) M_X5_read zN 330 [(0, (2, 3)), (3, (0, x3))] [] G22 Q)) ∧ ((s0 = 10) → Ct d M_X5_readShut NT 0 0 (some lay) [(2, 3), (0, s0)] G1 (fun r25 G24 => Rn (d + 1) M_X5_read zN 330 [(0, (2, 3)), (3, (0, x3))] [] G24 Q)) ∧ ((s0 = 11) → Ct d M_X5_readPrices NT 0 0 (some lay) [(2, 3)] G1 (fun r27 G26 => Rn (d + 1) M_X5_read zN 330 [(0, (2, 3)), (3, (0, x3))] [] G26 Q)) ∧ ((s0 = 12) → Ct d M_X5_readWord NT 0 0 (some lay) [(2, 3), (0, s0)] G1 (fun r29 G28 => ∀ b30 : Int, b30 = (G28 3 3) → (Bs 1 b30 ∧ Ct d M_X5_readNumber NT 0 0 (some lay) [(2, 3), (0, 0), (0, 10)] G28 (fun r34 G33 => (∀ G35 : Mem, G35 = st G33 b30 10 r34 → Rn (d + 1) M_X5_read zN 330 [(0, (2, 3)), (3, (0, x3))] [] G35 Q))))) ∧ ((s0 = 13) → Ct d M_X5_readLaw NT 0 0 (some lay) [(2, 3), (0, 0)] G1 (fun r37 G36 => Rn (d + 1) M_X5_read zN 330 [(0, (2, 3)), (3, (0, x3))] [] G36 Q)) ∧ ((s0 = 14) → Ct d M_X5_readLaw NT 0 0 (some lay) [(2, 3), (0, 1)] G1 (fun r39 G38 => Rn (d + 1) M_X5_read zN 330 [(0, (2, 3)), (3, (0, x3))] [] G38 Q)) ∧ ((s0 = 15) → Ct d M_X5_readLaw NT 0 0 (some lay) [(2, 3), (0, 2)] G1 (fun r41 G40 => Rn (d + 1) M_X5_read zN 330 [(0, (2, 3)), (3, (0, x3))] [] G40 Q)) ∧ ((s0 = 16) → Ct d M_X5_wrong NT 0 0 (some lay) [(2, 3), (0, 1)] G1 (fun r43 G42 => Rn (d + 1) M_X5_read zN 330 [(0, (2, 3)), (3, (0, x3))] [] G42 Q)) ∧ ((s0 = 17) → Ct d M_X5_wrong NT 0 0 (some lay) [(2, 3), (0, 1)] G1 (fun r45 G44 => Rn (d + 1) M_X5_read zN 330 [(0, (2, 3)), (3, (0, x3))] [] G44 Q)) ∧ ((s0 = 18) → Ct d M_X5_wrong NT 0 0 (some lay) [(2, 3), (0, 1)] G1 (fun r47 G46 => Rn (d + 1) M_X5_read zN 330 [(0, (2, 3)), (3, (0, x3))] [] G46 Q)) ∧ ((s0 = 19) → Ct d M_X5_wrong NT 0 0 (some lay) [(2, 3), (0, 1)] G1 (fun r49 G48 => Rn (d + 1) M_X5_read zN 330 [(0, (2, 3)), (3, (0, x3))] [] G48 Q)) ∧ ((s0 = 20) → Ct d M_X5_wrong NT 0 0 (some lay) [(2, 3), (0, 1)] G1 (fun r51 G50 => Rn (d + 1) M_X5_read zN 330 [(0, (2, 3)), (3, (0, x3))] [] G50 Q)) ∧ ((s0 = 21) → Ct d M_X5_wrong NT 0 0 (some lay) [(2, 3), (0, 1)] G1 (fun r53 G52 => Rn (d + 1) M_X5_read zN 330 [(0, (2, 3)), (3, (0, x3))] [] G52 Q)) ∧ ((s0 = 22) → Ct d M_X5_wrong NT 0 0 (some lay) [(2, 3), (0, 1)] G1 (fun r55 G54 => Rn (d + 1) M_X5_read zN 330 [(0, (2, 3)), (3, (0, x3))] [] G54 Q)) ∧ ((s0 = 23) → Ct d M_X5_wrong NT 0 0 (some lay) [(2, 3), (0, 1)] G1 (fun r57 G56 => Rn (d + 1) M_X5_read zN 330 [(0, (2, 3)), (3, (0, x3))] [] G56 Q)) ∧ ((s0 = 24) → Ct d M_X5_wrong NT 0 0 (some lay) [(2, 3), (0, 1)] G1 (fun r59 G58 => Rn (d + 1) M_X5_read zN 330 [(0, (2, 3)), (3, (0, x3))] [] G58 Q)) ∧ ((s0 = 25) → Ct d M_X5_wrong NT 0 0 (some lay) [(2, 3), (0, 1)] G1 (fun r61 G60 => Rn (d + 1) M_X5_read zN 330 [(0, (2, 3)), (3, (0, x3))] [] G60 Q)) ∧ ((s0 = 26) → Ct d M_X5_readCup NT 0 0 (some lay) [(2, 3)] G1 (fun r63 G62 => Rn (d + 1) M_X5_read zN 330 [(0, (2, 3)), (3, (0, x3))] [] G62 Q)) ∧ ((s0 = 27) → Ct d M_X5_readWord NT 0 0 (some lay) [(2, 3), (0, s0)] G1 (fun r65 G64 => ∀ b66 : Int, b66 = (G64 3 3) → (Bs 1 b66 ∧ Ct d M_X5_readNumber NT 0 0 (some lay) [(2, 3), (0, 5), (0, 20)] G64 (fun r70 G69 => (∀ G71 : Mem, G71 = st G69 b66 9 r70 → Rn (d + 1) M_X5_read zN 330 [(0, (2, 3)), (3, (0, x3))] [] G71 Q))))))) : Rn (d + 1) M_X5_read zN 89 [(0, (2, 3)), (3, (0, x3))] [(0, s0)] G Q := by
  refine r_istore (ls1 := [(4, (0, s0)), (0, (2, 3)), (3, (0, x3))]) d_X5_read_89 (by decide) rfl ?_
  refine r_aload_n d_X5_read_91 1 rfl rfl ?_
  refine r_iload d_X5_read_92 0 rfl ?_
  refine r_callV0 (M' := M_X5_checkTimes) (ci := 5) [(0, s0)] d_X5_read_94 cl_X5_56 rfl (Nat.le_of_ble_eq_true rfl) (by decide) rfl (bs_ob bs_5) ?_
  refine Ct.mono h (fun r2 G1 h => ?_)
  show Rn _ M_X5_read zN 97 [(4, (0, s0)), (0, (2, 3)), (3, (0, x3))] [] G1 Q
  refine r_iload d_X5_read_97 0 rfl ?_
  obtain ⟨h3, h⟩ := h
  by_cases c4 : s0 < 2 ∨ 27 < s0
  · replace h := h.1 c4
    refine r_tsOut (tgt := 325) d_X5_read_99 h3 c4 (by decide) ?_
    refine r_aload_n d_X5_read_325 1 rfl rfl ?_
    refine r_iconst d_X5_read_326 ?_
    refine r_callV0 (M' := M_X5_wrong) (ci := 5) [(0, 1)] d_X5_read_327 cl_X5_88 rfl (Nat.le_of_ble_eq_true rfl) (by decide) rfl (bs_ob bs_5) ?_
    refine Ct.mono h (fun r6 G5 h => ?_)
    show Rn _ M_X5_read zN 330 [(4, (0, s0)), (0, (2, 3)), (3, (0, x3))] [] G5 Q
    exact Rn.sub [1, 2] rfl h
  replace h := h.2
  have c42 : s0 = 2 ∨ s0 = 3 ∨ s0 = 4 ∨ s0 = 5 ∨ s0 = 6 ∨ s0 = 7 ∨ s0 = 8 ∨ s0 = 9 ∨ s0 = 10 ∨ s0 = 11 ∨ s0 = 12 ∨ s0 = 13 ∨ s0 = 14 ∨ s0 = 15 ∨ s0 = 16 ∨ s0 = 17 ∨ s0 = 18 ∨ s0 = 19 ∨ s0 = 20 ∨ s0 = 21 ∨ s0 = 22 ∨ s0 = 23 ∨ s0 = 24 ∨ s0 = 25 ∨ s0 = 26 ∨ s0 = 27 := by omega
  rcases c42 with c7 | c7 | c7 | c7 | c7 | c7 | c7 | c7 | c7 | c7 | c7 | c7 | c7 | c7 | c7 | c7 | c7 | c7 | c7 | c7 | c7 | c7 | c7 | c7 | c7 | c7
  · replace h := h.1 c7
    refine r_tsIn (tgt := 216) (off := 117) (j := 2) d_X5_read_99 c7 ⟨by decide, by decide⟩ (by decide) rfl (by decide) ?_
    refine r_aload_n d_X5_read_216 1 rfl rfl ?_
    refine r_callV0 (M' := M_X5_readSitter) (ci := 5) [] d_X5_read_217 cl_X5_60 rfl (Nat.le_of_ble_eq_true rfl) (by decide) rfl (bs_ob bs_5) ?_
    refine Ct.mono h (fun r9 G8 h => ?_)
    show Rn _ M_X5_read zN 220 [(4, (0, s0)), (0, (2, 3)), (3, (0, x3))] [] G8 Q
    refine r_goto (tgt := 330) d_X5_read_220 (by decide) ?_
    exact Rn.sub [1, 2] rfl h
  · replace h := h.2.1 c7
    refine r_tsIn (tgt := 325) (off := 226) (j := 3) d_X5_read_99 c7 ⟨by decide, by decide⟩ (by decide) rfl (by decide) ?_
    refine r_aload_n d_X5_read_325 1 rfl rfl ?_
    refine r_iconst d_X5_read_326 ?_
    refine r_callV0 (M' := M_X5_wrong) (ci := 5) [(0, 1)] d_X5_read_327 cl_X5_88 rfl (Nat.le_of_ble_eq_true rfl) (by decide) rfl (bs_ob bs_5) ?_
    refine Ct.mono h (fun r11 G10 h => ?_)
    show Rn _ M_X5_read zN 330 [(4, (0, s0)), (0, (2, 3)), (3, (0, x3))] [] G10 Q
    exact Rn.sub [1, 2] rfl h
  · replace h := h.2.2.1 c7
    refine r_tsIn (tgt := 325) (off := 226) (j := 4) d_X5_read_99 c7 ⟨by decide, by decide⟩ (by decide) rfl (by decide) ?_
    refine r_aload_n d_X5_read_325 1 rfl rfl ?_
    refine r_iconst d_X5_read_326 ?_
    refine r_callV0 (M' := M_X5_wrong) (ci := 5) [(0, 1)] d_X5_read_327 cl_X5_88 rfl (Nat.le_of_ble_eq_true rfl) (by decide) rfl (bs_ob bs_5) ?_
    refine Ct.mono h (fun r13 G12 h => ?_)
    show Rn _ M_X5_read zN 330 [(4, (0, s0)), (0, (2, 3)), (3, (0, x3))] [] G12 Q
    exact Rn.sub [1, 2] rfl h
  · replace h := h.2.2.2.1 c7
    refine r_tsIn (tgt := 325) (off := 226) (j := 5) d_X5_read_99 c7 ⟨by decide, by decide⟩ (by decide) rfl (by decide) ?_
    refine r_aload_n d_X5_read_325 1 rfl rfl ?_
    refine r_iconst d_X5_read_326 ?_
    refine r_callV0 (M' := M_X5_wrong) (ci := 5) [(0, 1)] d_X5_read_327 cl_X5_88 rfl (Nat.le_of_ble_eq_true rfl) (by decide) rfl (bs_ob bs_5) ?_
    refine Ct.mono h (fun r15 G14 h => ?_)
    show Rn _ M_X5_read zN 330 [(4, (0, s0)), (0, (2, 3)), (3, (0, x3))] [] G14 Q
    exact Rn.sub [1, 2] rfl h
  · replace h := h.2.2.2.2.1 c7
    refine r_tsIn (tgt := 325) (off := 226) (j := 6) d_X5_read_99 c7 ⟨by decide, by decide⟩ (by decide) rfl (by decide) ?_
    refine r_aload_n d_X5_read_325 1 rfl rfl ?_
    refine r_iconst d_X5_read_326 ?_
    refine r_callV0 (M' := M_X5_wrong) (ci := 5) [(0, 1)] d_X5_read_327 cl_X5_88 rfl (Nat.le_of_ble_eq_true rfl) (by decide) rfl (bs_ob bs_5) ?_
    refine Ct.mono h (fun r17 G16 h => ?_)
    show Rn _ M_X5_read zN 330 [(4, (0, s0)), (0, (2, 3)), (3, (0, x3))] [] G16 Q
    exact Rn.sub [1, 2] rfl h
  · replace h := h.2.2.2.2.2.1 c7
    refine r_tsIn (tgt := 325) (off := 226) (j := 7) d_X5_read_99 c7 ⟨by decide, by decide⟩ (by decide) rfl (by decide) ?_
    refine r_aload_n d_X5_read_325 1 rfl rfl ?_
    refine r_iconst d_X5_read_326 ?_
    refine r_callV0 (M' := M_X5_wrong) (ci := 5) [(0, 1)] d_X5_read_327 cl_X5_88 rfl (Nat.le_of_ble_eq_true rfl) (by decide) rfl (bs_ob bs_5) ?_
    refine Ct.mono h (fun r19 G18 h => ?_)
    show Rn _ M_X5_read zN 330 [(4, (0, s0)), (0, (2, 3)), (3, (0, x3))] [] G18 Q
    exact Rn.sub [1, 2] rfl h
  · replace h := h.2.2.2.2.2.2.1 c7
    refine r_tsIn (tgt := 325) (off := 226) (j := 8) d_X5_read_99 c7 ⟨by decide, by decide⟩ (by decide) rfl (by decide) ?_
    refine r_aload_n d_X5_read_325 1 rfl rfl ?_
    refine r_iconst d_X5_read_326 ?_
    refine r_callV0 (M' := M_X5_wrong) (ci := 5) [(0, 1)] d_X5_read_327 cl_X5_88 rfl (Nat.le_of_ble_eq_true rfl) (by decide) rfl (bs_ob bs_5) ?_
    refine Ct.mono h (fun r21 G20 h => ?_)
    show Rn _ M_X5_read zN 330 [(4, (0, s0)), (0, (2, 3)), (3, (0, x3))] [] G20 Q
    exact Rn.sub [1, 2] rfl h
  · replace h := h.2.2.2.2.2.2.2.1 c7
    refine r_tsIn (tgt := 230) (off := 131) (j := 9) d_X5_read_99 c7 ⟨by decide, by decide⟩ (by decide) rfl (by decide) ?_
    refine r_aload_n d_X5_read_230 1 rfl rfl ?_
    refine r_iload d_X5_read_231 0 rfl ?_
    refine r_callV0 (M' := M_X5_readShut) (ci := 5) [(0, s0)] d_X5_read_233 cl_X5_66 rfl (Nat.le_of_ble_eq_true rfl) (by decide) rfl (bs_ob bs_5) ?_
    refine Ct.mono h (fun r23 G22 h => ?_)
    show Rn _ M_X5_read zN 236 [(4, (0, s0)), (0, (2, 3)), (3, (0, x3))] [] G22 Q
    refine r_goto (tgt := 330) d_X5_read_236 (by decide) ?_
    exact Rn.sub [1, 2] rfl h
  · replace h := h.2.2.2.2.2.2.2.2.1 c7
    refine r_tsIn (tgt := 239) (off := 140) (j := 10) d_X5_read_99 c7 ⟨by decide, by decide⟩ (by decide) rfl (by decide) ?_
    refine r_aload_n d_X5_read_239 1 rfl rfl ?_
    refine r_iload d_X5_read_240 0 rfl ?_
    refine r_callV0 (M' := M_X5_readShut) (ci := 5) [(0, s0)] d_X5_read_242 cl_X5_66 rfl (Nat.le_of_ble_eq_true rfl) (by decide) rfl (bs_ob bs_5) ?_
    refine Ct.mono h (fun r25 G24 h => ?_)
    show Rn _ M_X5_read zN 245 [(4, (0, s0)), (0, (2, 3)), (3, (0, x3))] [] G24 Q
    refine r_goto (tgt := 330) d_X5_read_245 (by decide) ?_
    exact Rn.sub [1, 2] rfl h
  · replace h := h.2.2.2.2.2.2.2.2.2.1 c7
    refine r_tsIn (tgt := 271) (off := 172) (j := 11) d_X5_read_99 c7 ⟨by decide, by decide⟩ (by decide) rfl (by decide) ?_
    refine r_aload_n d_X5_read_271 1 rfl rfl ?_
    refine r_callV0 (M' := M_X5_readPrices) (ci := 5) [] d_X5_read_272 cl_X5_79 rfl (Nat.le_of_ble_eq_true rfl) (by decide) rfl (bs_ob bs_5) ?_
    refine Ct.mono h (fun r27 G26 h => ?_)
    show Rn _ M_X5_read zN 275 [(4, (0, s0)), (0, (2, 3)), (3, (0, x3))] [] G26 Q
    refine r_goto (tgt := 330) d_X5_read_275 (by decide) ?_
    exact Rn.sub [1, 2] rfl h
  · replace h := h.2.2.2.2.2.2.2.2.2.2.1 c7
    refine r_tsIn (tgt := 278) (off := 179) (j := 12) d_X5_read_99 c7 ⟨by decide, by decide⟩ (by decide) rfl (by decide) ?_
    refine r_aload_n d_X5_read_278 1 rfl rfl ?_
    refine r_iload d_X5_read_279 0 rfl ?_
    refine r_callV0 (M' := M_X5_readWord) (ci := 5) [(0, s0)] d_X5_read_281 cl_X5_69 rfl (Nat.le_of_ble_eq_true rfl) (by decide) rfl (bs_ob bs_5) ?_
    refine Ct.mono h (fun r29 G28 h => ?_)
    show Rn _ M_X5_read zN 284 [(4, (0, s0)), (0, (2, 3)), (3, (0, x3))] [] G28 Q
    refine r_aload_n d_X5_read_284 1 rfl rfl ?_
    obtain ⟨b30, e32⟩ : ∃ y : Int, y = (G28 3 3) := ⟨_, rfl⟩
    replace h := h b30 e32
    obtain ⟨h31, h⟩ := h
    refine r_getM 5 3 3 rfl d_X5_read_285 fl_X5_25 (by decide) (bs_ob bs_5) e32.symm (bs_nn h31) ?_
    refine r_aload_n d_X5_read_288 1 rfl rfl ?_
    refine r_iconst d_X5_read_289 ?_
    refine r_bipush d_X5_read_290 (by decide +kernel) ?_
    refine r_callV0 (M' := M_X5_readNumber) (ci := 5) [(0, 0), (0, 10)] d_X5_read_292 cl_X5_72 rfl (Nat.le_of_ble_eq_true rfl) (by decide) rfl (bs_ob bs_5) ?_
    refine Ct.mono h (fun r34 G33 h => ?_)
    show Rn _ M_X5_read zN 295 [(4, (0, s0)), (0, (2, 3)), (3, (0, x3))] [(0, r34), (2, b30)] G33 Q
    obtain ⟨G35, eG35⟩ : ∃ y : Mem, y = st G33 b30 10 r34 := ⟨_, rfl⟩
    replace h := h G35 eG35
    refine r_putI 1 10 10 rfl d_X5_read_295 fl_X5_82 (by decide) nofin_1_10 (bs_ob h31) ?_
    rw [← eG35]
    refine r_goto (tgt := 330) d_X5_read_298 (by decide) ?_
    exact Rn.sub [1, 2] rfl h
  · replace h := h.2.2.2.2.2.2.2.2.2.2.2.1 c7
    refine r_tsIn (tgt := 301) (off := 202) (j := 13) d_X5_read_99 c7 ⟨by decide, by decide⟩ (by decide) rfl (by decide) ?_
    refine r_aload_n d_X5_read_301 1 rfl rfl ?_
    refine r_iconst d_X5_read_302 ?_
    refine r_callV0 (M' := M_X5_readLaw) (ci := 5) [(0, 0)] d_X5_read_303 cl_X5_85 rfl (Nat.le_of_ble_eq_true rfl) (by decide) rfl (bs_ob bs_5) ?_
    refine Ct.mono h (fun r37 G36 h => ?_)
    show Rn _ M_X5_read zN 306 [(4, (0, s0)), (0, (2, 3)), (3, (0, x3))] [] G36 Q
    refine r_goto (tgt := 330) d_X5_read_306 (by decide) ?_
    exact Rn.sub [1, 2] rfl h
  · replace h := h.2.2.2.2.2.2.2.2.2.2.2.2.1 c7
    refine r_tsIn (tgt := 309) (off := 210) (j := 14) d_X5_read_99 c7 ⟨by decide, by decide⟩ (by decide) rfl (by decide) ?_
    refine r_aload_n d_X5_read_309 1 rfl rfl ?_
    refine r_iconst d_X5_read_310 ?_
    refine r_callV0 (M' := M_X5_readLaw) (ci := 5) [(0, 1)] d_X5_read_311 cl_X5_85 rfl (Nat.le_of_ble_eq_true rfl) (by decide) rfl (bs_ob bs_5) ?_
    refine Ct.mono h (fun r39 G38 h => ?_)
    show Rn _ M_X5_read zN 314 [(4, (0, s0)), (0, (2, 3)), (3, (0, x3))] [] G38 Q
    refine r_goto (tgt := 330) d_X5_read_314 (by decide) ?_
    exact Rn.sub [1, 2] rfl h
  · replace h := h.2.2.2.2.2.2.2.2.2.2.2.2.2.1 c7
    refine r_tsIn (tgt := 317) (off := 218) (j := 15) d_X5_read_99 c7 ⟨by decide, by decide⟩ (by decide) rfl (by decide) ?_
    refine r_aload_n d_X5_read_317 1 rfl rfl ?_
    refine r_iconst d_X5_read_318 ?_
    refine r_callV0 (M' := M_X5_readLaw) (ci := 5) [(0, 2)] d_X5_read_319 cl_X5_85 rfl (Nat.le_of_ble_eq_true rfl) (by decide) rfl (bs_ob bs_5) ?_
    refine Ct.mono h (fun r41 G40 h => ?_)
    show Rn _ M_X5_read zN 322 [(4, (0, s0)), (0, (2, 3)), (3, (0, x3))] [] G40 Q
    refine r_goto (tgt := 330) d_X5_read_322 (by decide) ?_
    exact Rn.sub [1, 2] rfl h
  · replace h := h.2.2.2.2.2.2.2.2.2.2.2.2.2.2.1 c7
    refine r_tsIn (tgt := 325) (off := 226) (j := 16) d_X5_read_99 c7 ⟨by decide, by decide⟩ (by decide) rfl (by decide) ?_
    refine r_aload_n d_X5_read_325 1 rfl rfl ?_
    refine r_iconst d_X5_read_326 ?_
    refine r_callV0 (M' := M_X5_wrong) (ci := 5) [(0, 1)] d_X5_read_327 cl_X5_88 rfl (Nat.le_of_ble_eq_true rfl) (by decide) rfl (bs_ob bs_5) ?_
    refine Ct.mono h (fun r43 G42 h => ?_)
    show Rn _ M_X5_read zN 330 [(4, (0, s0)), (0, (2, 3)), (3, (0, x3))] [] G42 Q
    exact Rn.sub [1, 2] rfl h
  · replace h := h.2.2.2.2.2.2.2.2.2.2.2.2.2.2.2.1 c7
    refine r_tsIn (tgt := 325) (off := 226) (j := 17) d_X5_read_99 c7 ⟨by decide, by decide⟩ (by decide) rfl (by decide) ?_
    refine r_aload_n d_X5_read_325 1 rfl rfl ?_
    refine r_iconst d_X5_read_326 ?_
    refine r_callV0 (M' := M_X5_wrong) (ci := 5) [(0, 1)] d_X5_read_327 cl_X5_88 rfl (Nat.le_of_ble_eq_true rfl) (by decide) rfl (bs_ob bs_5) ?_
    refine Ct.mono h (fun r45 G44 h => ?_)
    show Rn _ M_X5_read zN 330 [(4, (0, s0)), (0, (2, 3)), (3, (0, x3))] [] G44 Q
    exact Rn.sub [1, 2] rfl h
  · replace h := h.2.2.2.2.2.2.2.2.2.2.2.2.2.2.2.2.1 c7
    refine r_tsIn (tgt := 325) (off := 226) (j := 18) d_X5_read_99 c7 ⟨by decide, by decide⟩ (by decide) rfl (by decide) ?_
    refine r_aload_n d_X5_read_325 1 rfl rfl ?_
    refine r_iconst d_X5_read_326 ?_
    refine r_callV0 (M' := M_X5_wrong) (ci := 5) [(0, 1)] d_X5_read_327 cl_X5_88 rfl (Nat.le_of_ble_eq_true rfl) (by decide) rfl (bs_ob bs_5) ?_
    refine Ct.mono h (fun r47 G46 h => ?_)
    show Rn _ M_X5_read zN 330 [(4, (0, s0)), (0, (2, 3)), (3, (0, x3))] [] G46 Q
    exact Rn.sub [1, 2] rfl h
  · replace h := h.2.2.2.2.2.2.2.2.2.2.2.2.2.2.2.2.2.1 c7
    refine r_tsIn (tgt := 325) (off := 226) (j := 19) d_X5_read_99 c7 ⟨by decide, by decide⟩ (by decide) rfl (by decide) ?_
    refine r_aload_n d_X5_read_325 1 rfl rfl ?_
    refine r_iconst d_X5_read_326 ?_
    refine r_callV0 (M' := M_X5_wrong) (ci := 5) [(0, 1)] d_X5_read_327 cl_X5_88 rfl (Nat.le_of_ble_eq_true rfl) (by decide) rfl (bs_ob bs_5) ?_
    refine Ct.mono h (fun r49 G48 h => ?_)
    show Rn _ M_X5_read zN 330 [(4, (0, s0)), (0, (2, 3)), (3, (0, x3))] [] G48 Q
    exact Rn.sub [1, 2] rfl h
  · replace h := h.2.2.2.2.2.2.2.2.2.2.2.2.2.2.2.2.2.2.1 c7
    refine r_tsIn (tgt := 325) (off := 226) (j := 20) d_X5_read_99 c7 ⟨by decide, by decide⟩ (by decide) rfl (by decide) ?_
    refine r_aload_n d_X5_read_325 1 rfl rfl ?_
    refine r_iconst d_X5_read_326 ?_
    refine r_callV0 (M' := M_X5_wrong) (ci := 5) [(0, 1)] d_X5_read_327 cl_X5_88 rfl (Nat.le_of_ble_eq_true rfl) (by decide) rfl (bs_ob bs_5) ?_
    refine Ct.mono h (fun r51 G50 h => ?_)
    show Rn _ M_X5_read zN 330 [(4, (0, s0)), (0, (2, 3)), (3, (0, x3))] [] G50 Q
    exact Rn.sub [1, 2] rfl h
  · replace h := h.2.2.2.2.2.2.2.2.2.2.2.2.2.2.2.2.2.2.2.1 c7
    refine r_tsIn (tgt := 325) (off := 226) (j := 21) d_X5_read_99 c7 ⟨by decide, by decide⟩ (by decide) rfl (by decide) ?_
    refine r_aload_n d_X5_read_325 1 rfl rfl ?_
    refine r_iconst d_X5_read_326 ?_
    refine r_callV0 (M' := M_X5_wrong) (ci := 5) [(0, 1)] d_X5_read_327 cl_X5_88 rfl (Nat.le_of_ble_eq_true rfl) (by decide) rfl (bs_ob bs_5) ?_
    refine Ct.mono h (fun r53 G52 h => ?_)
    show Rn _ M_X5_read zN 330 [(4, (0, s0)), (0, (2, 3)), (3, (0, x3))] [] G52 Q
    exact Rn.sub [1, 2] rfl h
  · replace h := h.2.2.2.2.2.2.2.2.2.2.2.2.2.2.2.2.2.2.2.2.1 c7
    refine r_tsIn (tgt := 325) (off := 226) (j := 22) d_X5_read_99 c7 ⟨by decide, by decide⟩ (by decide) rfl (by decide) ?_
    refine r_aload_n d_X5_read_325 1 rfl rfl ?_
    refine r_iconst d_X5_read_326 ?_
    refine r_callV0 (M' := M_X5_wrong) (ci := 5) [(0, 1)] d_X5_read_327 cl_X5_88 rfl (Nat.le_of_ble_eq_true rfl) (by decide) rfl (bs_ob bs_5) ?_
    refine Ct.mono h (fun r55 G54 h => ?_)
    show Rn _ M_X5_read zN 330 [(4, (0, s0)), (0, (2, 3)), (3, (0, x3))] [] G54 Q
    exact Rn.sub [1, 2] rfl h
  · replace h := h.2.2.2.2.2.2.2.2.2.2.2.2.2.2.2.2.2.2.2.2.2.1 c7
    refine r_tsIn (tgt := 325) (off := 226) (j := 23) d_X5_read_99 c7 ⟨by decide, by decide⟩ (by decide) rfl (by decide) ?_
    refine r_aload_n d_X5_read_325 1 rfl rfl ?_
    refine r_iconst d_X5_read_326 ?_
    refine r_callV0 (M' := M_X5_wrong) (ci := 5) [(0, 1)] d_X5_read_327 cl_X5_88 rfl (Nat.le_of_ble_eq_true rfl) (by decide) rfl (bs_ob bs_5) ?_
    refine Ct.mono h (fun r57 G56 h => ?_)
    show Rn _ M_X5_read zN 330 [(4, (0, s0)), (0, (2, 3)), (3, (0, x3))] [] G56 Q
    exact Rn.sub [1, 2] rfl h
  · replace h := h.2.2.2.2.2.2.2.2.2.2.2.2.2.2.2.2.2.2.2.2.2.2.1 c7
    refine r_tsIn (tgt := 325) (off := 226) (j := 24) d_X5_read_99 c7 ⟨by decide, by decide⟩ (by decide) rfl (by decide) ?_
    refine r_aload_n d_X5_read_325 1 rfl rfl ?_
    refine r_iconst d_X5_read_326 ?_
    refine r_callV0 (M' := M_X5_wrong) (ci := 5) [(0, 1)] d_X5_read_327 cl_X5_88 rfl (Nat.le_of_ble_eq_true rfl) (by decide) rfl (bs_ob bs_5) ?_
    refine Ct.mono h (fun r59 G58 h => ?_)
    show Rn _ M_X5_read zN 330 [(4, (0, s0)), (0, (2, 3)), (3, (0, x3))] [] G58 Q
    exact Rn.sub [1, 2] rfl h
  · replace h := h.2.2.2.2.2.2.2.2.2.2.2.2.2.2.2.2.2.2.2.2.2.2.2.1 c7
    refine r_tsIn (tgt := 325) (off := 226) (j := 25) d_X5_read_99 c7 ⟨by decide, by decide⟩ (by decide) rfl (by decide) ?_
    refine r_aload_n d_X5_read_325 1 rfl rfl ?_
    refine r_iconst d_X5_read_326 ?_
    refine r_callV0 (M' := M_X5_wrong) (ci := 5) [(0, 1)] d_X5_read_327 cl_X5_88 rfl (Nat.le_of_ble_eq_true rfl) (by decide) rfl (bs_ob bs_5) ?_
    refine Ct.mono h (fun r61 G60 h => ?_)
    show Rn _ M_X5_read zN 330 [(4, (0, s0)), (0, (2, 3)), (3, (0, x3))] [] G60 Q
    exact Rn.sub [1, 2] rfl h
  · replace h := h.2.2.2.2.2.2.2.2.2.2.2.2.2.2.2.2.2.2.2.2.2.2.2.2.1 c7
    refine r_tsIn (tgt := 223) (off := 124) (j := 26) d_X5_read_99 c7 ⟨by decide, by decide⟩ (by decide) rfl (by decide) ?_
    refine r_aload_n d_X5_read_223 1 rfl rfl ?_
    refine r_callV0 (M' := M_X5_readCup) (ci := 5) [] d_X5_read_224 cl_X5_63 rfl (Nat.le_of_ble_eq_true rfl) (by decide) rfl (bs_ob bs_5) ?_
    refine Ct.mono h (fun r63 G62 h => ?_)
    show Rn _ M_X5_read zN 227 [(4, (0, s0)), (0, (2, 3)), (3, (0, x3))] [] G62 Q
    refine r_goto (tgt := 330) d_X5_read_227 (by decide) ?_
    exact Rn.sub [1, 2] rfl h
  · replace h := h.2.2.2.2.2.2.2.2.2.2.2.2.2.2.2.2.2.2.2.2.2.2.2.2.2 c7
    refine r_tsIn (tgt := 248) (off := 149) (j := 27) d_X5_read_99 c7 ⟨by decide, by decide⟩ (by decide) rfl (by decide) ?_
    refine r_aload_n d_X5_read_248 1 rfl rfl ?_
    refine r_iload d_X5_read_249 0 rfl ?_
    refine r_callV0 (M' := M_X5_readWord) (ci := 5) [(0, s0)] d_X5_read_251 cl_X5_69 rfl (Nat.le_of_ble_eq_true rfl) (by decide) rfl (bs_ob bs_5) ?_
    refine Ct.mono h (fun r65 G64 h => ?_)
    show Rn _ M_X5_read zN 254 [(4, (0, s0)), (0, (2, 3)), (3, (0, x3))] [] G64 Q
    refine r_aload_n d_X5_read_254 1 rfl rfl ?_
    obtain ⟨b66, e68⟩ : ∃ y : Int, y = (G64 3 3) := ⟨_, rfl⟩
    replace h := h b66 e68
    obtain ⟨h67, h⟩ := h
    refine r_getM 5 3 3 rfl d_X5_read_255 fl_X5_25 (by decide) (bs_ob bs_5) e68.symm (bs_nn h67) ?_
    refine r_aload_n d_X5_read_258 1 rfl rfl ?_
    refine r_iconst d_X5_read_259 ?_
    refine r_bipush d_X5_read_260 (by decide +kernel) ?_
    refine r_callV0 (M' := M_X5_readNumber) (ci := 5) [(0, 5), (0, 20)] d_X5_read_262 cl_X5_72 rfl (Nat.le_of_ble_eq_true rfl) (by decide) rfl (bs_ob bs_5) ?_
    refine Ct.mono h (fun r70 G69 h => ?_)
    show Rn _ M_X5_read zN 265 [(4, (0, s0)), (0, (2, 3)), (3, (0, x3))] [(0, r70), (2, b66)] G69 Q
    obtain ⟨G71, eG71⟩ : ∃ y : Mem, y = st G69 b66 9 r70 := ⟨_, rfl⟩
    replace h := h G71 eG71
    refine r_putI 1 9 9 rfl d_X5_read_265 fl_X5_76 (by decide) nofin_1_9 (bs_ob h67) ?_
    rw [← eG71]
    refine r_goto (tgt := 330) d_X5_read_268 (by decide) ?_
    exact Rn.sub [1, 2] rfl h
set_option maxRecDepth 20000 in
theorem s_X5_read_330 {d : Nat} {x3 : Int} {G : Mem} {Q : Int → Mem → Prop}  (h : Ct d M_X5_readSign NT 0 0 (some lay) [(2, 3), (0, 59)] G (fun r2 G1 => Rn (d + 1) M_X5_read zN 43 [(0, (2, 3)), (3, (0, (x3 + 1)))] [] G1 Q)) : Rn (d + 1) M_X5_read zN 330 [(0, (2, 3)), (3, (0, x3))] [] G Q := by
  refine r_aload_n d_X5_read_330 0 rfl rfl ?_
  refine r_bipush d_X5_read_331 (by decide +kernel) ?_
  refine r_callV0 (M' := M_X5_readSign) (ci := 5) [(0, 59)] d_X5_read_333 cl_X5_91 rfl (Nat.le_of_ble_eq_true rfl) (by decide) rfl (bs_ob bs_5) ?_
  refine Ct.mono h (fun r2 G1 h => ?_)
  show Rn _ M_X5_read zN 336 [(0, (2, 3)), (3, (0, x3))] [] G1 Q
  refine r_iinc (ls1 := [(3, (0, (x3 + 1))), (0, (2, 3))]) d_X5_read_336 1 rfl (by decide) rfl ?_
  refine r_goto (tgt := 43) d_X5_read_339 (by decide) ?_
  exact Rn.sub [1, 0] rfl h
theorem d_X5_wrong_0 : decode M_X5_wrong.2.1 0 = .ok (.aload_n 0, 1) := by decide +kernel
theorem d_X5_wrong_1 : decode M_X5_wrong.2.1 1 = .ok (.getfield 34, 3) := by decide +kernel
theorem d_X5_wrong_4 : decode M_X5_wrong.2.1 4 = .ok (.ifCond .ne 19, 3) := by decide +kernel
theorem d_X5_wrong_7 : decode M_X5_wrong.2.1 7 = .ok (.aload_n 0, 1) := by decide +kernel
theorem d_X5_wrong_8 : decode M_X5_wrong.2.1 8 = .ok (.iload_n 1, 1) := by decide +kernel
theorem d_X5_wrong_9 : decode M_X5_wrong.2.1 9 = .ok (.bipush 16, 2) := by decide +kernel
theorem d_X5_wrong_11 : decode M_X5_wrong.2.1 11 = .ok (.aload_n 0, 1) := by decide +kernel
theorem d_X5_wrong_12 : decode M_X5_wrong.2.1 12 = .ok (.getfield 21, 3) := by decide +kernel
theorem d_X5_wrong_15 : decode M_X5_wrong.2.1 15 = .ok (.getfield 95, 3) := by decide +kernel
theorem d_X5_wrong_18 : decode M_X5_wrong.2.1 18 = .ok (.imul, 1) := by decide +kernel
theorem d_X5_wrong_19 : decode M_X5_wrong.2.1 19 = .ok (.iadd, 1) := by decide +kernel
theorem d_X5_wrong_20 : decode M_X5_wrong.2.1 20 = .ok (.putfield 34, 3) := by decide +kernel
theorem d_X5_wrong_23 : decode M_X5_wrong.2.1 23 = .ok (.return_, 1) := by decide +kernel
set_option maxRecDepth 20000 in
theorem s_X5_wrong_0 {d : Nat} {p0 : Int} {G : Mem} {Q : Int → Mem → Prop}  (h : (InR (G 3 4)) ∧ (((G 3 4) ≠ 0) → Q 0 G) ∧ (¬ ((G 3 4) ≠ 0) → ((G 3 2) = 1) ∧ ((∀ G4 : Mem, G4 = st G 3 4 (p0 + (16 * (G 1 2))) → Q 0 G4)))) : Rn d M_X5_wrong zN 0 [(0, (2, 3)), (1, (0, p0))] [] G Q := by
  refine r_aload_n d_X5_wrong_0 0 rfl rfl ?_
  refine r_getI 5 4 4 rfl d_X5_wrong_1 fl_X5_34 (by decide) (bs_ob bs_5) ?_
  obtain ⟨h1, h⟩ := h
  refine r_if_ne (tgt := 23) d_X5_wrong_4 (by decide) h1 (fun c2 => ?_) (fun c2 => ?_)
  · replace h := h.1 c2
    exact r_ret d_X5_wrong_23 rfl ⟨rfl, Nat.le_refl _, Nat.le_refl _⟩ h
  · replace h := h.2 c2
    refine r_aload_n d_X5_wrong_7 0 rfl rfl ?_
    refine r_iload_n d_X5_wrong_8 1 rfl rfl ?_
    refine r_bipush d_X5_wrong_9 (by decide +kernel) ?_
    refine r_aload_n d_X5_wrong_11 0 rfl rfl ?_
    obtain ⟨h3, h⟩ := h
    refine r_getM 5 2 2 rfl d_X5_wrong_12 fl_X5_21 (by decide) (bs_ob bs_5) h3 (by decide) ?_
    refine r_getI 10 2 2 rfl d_X5_wrong_15 fl_X5_95 (by decide) (bs_ob bs_10) ?_
    refine r_imul d_X5_wrong_18 ?_
    refine r_iadd d_X5_wrong_19 ?_
    obtain ⟨G4, eG4⟩ : ∃ y : Mem, y = st G 3 4 (p0 + (16 * (G 1 2))) := ⟨_, rfl⟩
    replace h := h G4 eG4
    refine r_putI 5 4 4 rfl d_X5_wrong_20 fl_X5_34 (by decide) nofin_5_4 (bs_ob bs_5) ?_
    rw [← eG4]
    exact r_ret d_X5_wrong_23 rfl ⟨rfl, Nat.le_refl _, Nat.le_refl _⟩ h
theorem d_X5_stands_0 : decode M_X5_stands.2.1 0 = .ok (.aload_n 0, 1) := by decide +kernel
theorem d_X5_stands_1 : decode M_X5_stands.2.1 1 = .ok (.getfield 34, 3) := by decide +kernel
theorem d_X5_stands_4 : decode M_X5_stands.2.1 4 = .ok (.ifCond .ne 29, 3) := by decide +kernel
theorem d_X5_stands_7 : decode M_X5_stands.2.1 7 = .ok (.aload_n 0, 1) := by decide +kernel
theorem d_X5_stands_8 : decode M_X5_stands.2.1 8 = .ok (.getfield 21, 3) := by decide +kernel
theorem d_X5_stands_11 : decode M_X5_stands.2.1 11 = .ok (.getfield 50, 3) := by decide +kernel
theorem d_X5_stands_14 : decode M_X5_stands.2.1 14 = .ok (.iload_n 1, 1) := by decide +kernel
theorem d_X5_stands_15 : decode M_X5_stands.2.1 15 = .ok (.if_icmp .ne 18, 3) := by decide +kernel
theorem d_X5_stands_18 : decode M_X5_stands.2.1 18 = .ok (.aload_n 0, 1) := by decide +kernel
theorem d_X5_stands_19 : decode M_X5_stands.2.1 19 = .ok (.getfield 21, 3) := by decide +kernel
theorem d_X5_stands_22 : decode M_X5_stands.2.1 22 = .ok (.getfield 53, 3) := by decide +kernel
theorem d_X5_stands_25 : decode M_X5_stands.2.1 25 = .ok (.iload_n 2, 1) := by decide +kernel
theorem d_X5_stands_26 : decode M_X5_stands.2.1 26 = .ok (.if_icmp .ne 7, 3) := by decide +kernel
theorem d_X5_stands_29 : decode M_X5_stands.2.1 29 = .ok (.iconst 1, 1) := by decide +kernel
theorem d_X5_stands_30 : decode M_X5_stands.2.1 30 = .ok (.goto 4, 3) := by decide +kernel
theorem d_X5_stands_33 : decode M_X5_stands.2.1 33 = .ok (.iconst 0, 1) := by decide +kernel
theorem d_X5_stands_34 : decode M_X5_stands.2.1 34 = .ok (.ireturn, 1) := by decide +kernel
set_option maxRecDepth 20000 in
theorem s_X5_stands_0 {d : Nat} {p0 : Int} {p1 : Int} {G : Mem} {Q : Int → Mem → Prop}  (h : (InR (G 3 4)) ∧ (((G 3 4) ≠ 0) → Q 0 G) ∧ (¬ ((G 3 4) ≠ 0) → ((G 3 2) = 1) ∧ ((InR (G 1 3)) ∧ (InR p0) ∧ (((G 1 3) ≠ p0) → Q 0 G) ∧ (¬ ((G 1 3) ≠ p0) → (InR (G 1 4)) ∧ (InR p1) ∧ (((G 1 4) ≠ p1) → Q 0 G) ∧ (¬ ((G 1 4) ≠ p1) → Q 1 G))))) : Rn d M_X5_stands zN 0 [(0, (2, 3)), (1, (0, p0)), (2, (0, p1))] [] G Q := by
  refine r_aload_n d_X5_stands_0 0 rfl rfl ?_
  refine r_getI 5 4 4 rfl d_X5_stands_1 fl_X5_34 (by decide) (bs_ob bs_5) ?_
  obtain ⟨h1, h⟩ := h
  refine r_if_ne (tgt := 33) d_X5_stands_4 (by decide) h1 (fun c2 => ?_) (fun c2 => ?_)
  · replace h := h.1 c2
    refine r_iconst d_X5_stands_33 ?_
    exact r_zreturn d_X5_stands_34 rfl ⟨rfl, Nat.le_refl _, Nat.le_refl _⟩ (by decide) h
  · replace h := h.2 c2
    refine r_aload_n d_X5_stands_7 0 rfl rfl ?_
    obtain ⟨h3, h⟩ := h
    refine r_getM 5 2 2 rfl d_X5_stands_8 fl_X5_21 (by decide) (bs_ob bs_5) h3 (by decide) ?_
    refine r_getI 10 3 3 rfl d_X5_stands_11 fl_X5_50 (by decide) (bs_ob bs_10) ?_
    refine r_iload_n d_X5_stands_14 1 rfl rfl ?_
    obtain ⟨h4, h⟩ := h
    obtain ⟨h5, h⟩ := h
    refine r_icmp_ne (tgt := 33) d_X5_stands_15 (by decide) h4 h5 (fun c6 => ?_) (fun c6 => ?_)
    · replace h := h.1 c6
      refine r_iconst d_X5_stands_33 ?_
      exact r_zreturn d_X5_stands_34 rfl ⟨rfl, Nat.le_refl _, Nat.le_refl _⟩ (by decide) h
    · replace h := h.2 c6
      refine r_aload_n d_X5_stands_18 0 rfl rfl ?_
      refine r_getM 5 2 2 rfl d_X5_stands_19 fl_X5_21 (by decide) (bs_ob bs_5) h3 (by decide) ?_
      refine r_getI 10 4 4 rfl d_X5_stands_22 fl_X5_53 (by decide) (bs_ob bs_10) ?_
      refine r_iload_n d_X5_stands_25 2 rfl rfl ?_
      obtain ⟨h7, h⟩ := h
      obtain ⟨h8, h⟩ := h
      refine r_icmp_ne (tgt := 33) d_X5_stands_26 (by decide) h7 h8 (fun c9 => ?_) (fun c9 => ?_)
      · replace h := h.1 c9
        refine r_iconst d_X5_stands_33 ?_
        exact r_zreturn d_X5_stands_34 rfl ⟨rfl, Nat.le_refl _, Nat.le_refl _⟩ (by decide) h
      · replace h := h.2 c9
        refine r_iconst d_X5_stands_29 ?_
        refine r_goto (tgt := 34) d_X5_stands_30 (by decide) ?_
        exact r_zreturn d_X5_stands_34 rfl ⟨rfl, Nat.le_refl _, Nat.le_refl _⟩ (by decide) h
theorem d_X5_readWord_0 : decode M_X5_readWord.2.1 0 = .ok (.aload_n 0, 1) := by decide +kernel
theorem d_X5_readWord_1 : decode M_X5_readWord.2.1 1 = .ok (.iconst 2, 1) := by decide +kernel
theorem d_X5_readWord_2 : decode M_X5_readWord.2.1 2 = .ok (.iload_n 1, 1) := by decide +kernel
theorem d_X5_readWord_3 : decode M_X5_readWord.2.1 3 = .ok (.invokevirtual 98, 3) := by decide +kernel
theorem d_X5_readWord_6 : decode M_X5_readWord.2.1 6 = .ok (.ifCond .eq 13, 3) := by decide +kernel
theorem d_X5_readWord_9 : decode M_X5_readWord.2.1 9 = .ok (.aload_n 0, 1) := by decide +kernel
theorem d_X5_readWord_10 : decode M_X5_readWord.2.1 10 = .ok (.getfield 21, 3) := by decide +kernel
theorem d_X5_readWord_13 : decode M_X5_readWord.2.1 13 = .ok (.invokevirtual 102, 3) := by decide +kernel
theorem d_X5_readWord_16 : decode M_X5_readWord.2.1 16 = .ok (.goto 8, 3) := by decide +kernel
theorem d_X5_readWord_19 : decode M_X5_readWord.2.1 19 = .ok (.aload_n 0, 1) := by decide +kernel
theorem d_X5_readWord_20 : decode M_X5_readWord.2.1 20 = .ok (.iconst 1, 1) := by decide +kernel
theorem d_X5_readWord_21 : decode M_X5_readWord.2.1 21 = .ok (.invokevirtual 88, 3) := by decide +kernel
theorem d_X5_readWord_24 : decode M_X5_readWord.2.1 24 = .ok (.return_, 1) := by decide +kernel
set_option maxRecDepth 20000 in
theorem s_X5_readWord_0 {d : Nat} {p0 : Int} {G : Mem} {Q : Int → Mem → Prop}  (h : Ct d M_X5_stands NT 0 0 (some lay) [(2, 3), (0, 2), (0, p0)] G (fun r2 G1 => (InR r2) ∧ ((r2 = 0) → Ct d M_X5_wrong NT 0 0 (some lay) [(2, 3), (0, 1)] G1 (fun r6 G5 => Q 0 G5)) ∧ (¬ (r2 = 0) → ((G1 3 2) = 1) ∧ (Ct d M_X10_step NT 0 0 (some lay) [(2, 1)] G1 (fun r9 G8 => Q 0 G8))))) : Rn (d + 1) M_X5_readWord zN 0 [(0, (2, 3)), (1, (0, p0))] [] G Q := by
  refine r_aload_n d_X5_readWord_0 0 rfl rfl ?_
  refine r_iconst d_X5_readWord_1 ?_
  refine r_iload_n d_X5_readWord_2 1 rfl rfl ?_
  refine r_callV0 (M' := M_X5_stands) (ci := 5) [(0, 2), (0, p0)] d_X5_readWord_3 cl_X5_98 rfl (Nat.le_of_ble_eq_true rfl) (by decide) rfl (bs_ob bs_5) ?_
  refine Ct.mono h (fun r2 G1 h => ?_)
  show Rn _ M_X5_readWord zN 6 [(0, (2, 3)), (1, (0, p0))] [(0, r2)] G1 Q
  obtain ⟨h3, h⟩ := h
  refine r_if_eq (tgt := 19) d_X5_readWord_6 (by decide) h3 (fun c4 => ?_) (fun c4 => ?_)
  · replace h := h.1 c4
    refine r_aload_n d_X5_readWord_19 0 rfl rfl ?_
    refine r_iconst d_X5_readWord_20 ?_
    refine r_callV0 (M' := M_X5_wrong) (ci := 5) [(0, 1)] d_X5_readWord_21 cl_X5_88 rfl (Nat.le_of_ble_eq_true rfl) (by decide) rfl (bs_ob bs_5) ?_
    refine Ct.mono h (fun r6 G5 h => ?_)
    show Rn _ M_X5_readWord zN 24 [(0, (2, 3)), (1, (0, p0))] [] G5 Q
    exact r_ret d_X5_readWord_24 rfl ⟨rfl, Nat.le_refl _, Nat.le_refl _⟩ h
  · replace h := h.2 c4
    refine r_aload_n d_X5_readWord_9 0 rfl rfl ?_
    obtain ⟨h7, h⟩ := h
    refine r_getM 5 2 2 rfl d_X5_readWord_10 fl_X5_21 (by decide) (bs_ob bs_5) h7 (by decide) ?_
    refine r_callV0 (M' := M_X10_step) (ci := 10) [] d_X5_readWord_13 cl_X5_102 rfl (Nat.le_of_ble_eq_true rfl) (by decide) rfl (bs_ob bs_10) ?_
    refine Ct.mono h (fun r9 G8 h => ?_)
    show Rn _ M_X5_readWord zN 16 [(0, (2, 3)), (1, (0, p0))] [] G8 Q
    refine r_goto (tgt := 24) d_X5_readWord_16 (by decide) ?_
    exact r_ret d_X5_readWord_24 rfl ⟨rfl, Nat.le_refl _, Nat.le_refl _⟩ h
theorem d_X5_readSign_0 : decode M_X5_readSign.2.1 0 = .ok (.aload_n 0, 1) := by decide +kernel
theorem d_X5_readSign_1 : decode M_X5_readSign.2.1 1 = .ok (.iconst 4, 1) := by decide +kernel
theorem d_X5_readSign_2 : decode M_X5_readSign.2.1 2 = .ok (.iload_n 1, 1) := by decide +kernel
theorem d_X5_readSign_3 : decode M_X5_readSign.2.1 3 = .ok (.invokevirtual 98, 3) := by decide +kernel
theorem d_X5_readSign_6 : decode M_X5_readSign.2.1 6 = .ok (.ifCond .eq 13, 3) := by decide +kernel
theorem d_X5_readSign_9 : decode M_X5_readSign.2.1 9 = .ok (.aload_n 0, 1) := by decide +kernel
theorem d_X5_readSign_10 : decode M_X5_readSign.2.1 10 = .ok (.getfield 21, 3) := by decide +kernel
theorem d_X5_readSign_13 : decode M_X5_readSign.2.1 13 = .ok (.invokevirtual 102, 3) := by decide +kernel
theorem d_X5_readSign_16 : decode M_X5_readSign.2.1 16 = .ok (.goto 8, 3) := by decide +kernel
theorem d_X5_readSign_19 : decode M_X5_readSign.2.1 19 = .ok (.aload_n 0, 1) := by decide +kernel
theorem d_X5_readSign_20 : decode M_X5_readSign.2.1 20 = .ok (.iconst 1, 1) := by decide +kernel
theorem d_X5_readSign_21 : decode M_X5_readSign.2.1 21 = .ok (.invokevirtual 88, 3) := by decide +kernel
theorem d_X5_readSign_24 : decode M_X5_readSign.2.1 24 = .ok (.return_, 1) := by decide +kernel
set_option maxRecDepth 20000 in
theorem s_X5_readSign_0 {d : Nat} {p0 : Int} {G : Mem} {Q : Int → Mem → Prop}  (h : Ct d M_X5_stands NT 0 0 (some lay) [(2, 3), (0, 4), (0, p0)] G (fun r2 G1 => (InR r2) ∧ ((r2 = 0) → Ct d M_X5_wrong NT 0 0 (some lay) [(2, 3), (0, 1)] G1 (fun r6 G5 => Q 0 G5)) ∧ (¬ (r2 = 0) → ((G1 3 2) = 1) ∧ (Ct d M_X10_step NT 0 0 (some lay) [(2, 1)] G1 (fun r9 G8 => Q 0 G8))))) : Rn (d + 1) M_X5_readSign zN 0 [(0, (2, 3)), (1, (0, p0))] [] G Q := by
  refine r_aload_n d_X5_readSign_0 0 rfl rfl ?_
  refine r_iconst d_X5_readSign_1 ?_
  refine r_iload_n d_X5_readSign_2 1 rfl rfl ?_
  refine r_callV0 (M' := M_X5_stands) (ci := 5) [(0, 4), (0, p0)] d_X5_readSign_3 cl_X5_98 rfl (Nat.le_of_ble_eq_true rfl) (by decide) rfl (bs_ob bs_5) ?_
  refine Ct.mono h (fun r2 G1 h => ?_)
  show Rn _ M_X5_readSign zN 6 [(0, (2, 3)), (1, (0, p0))] [(0, r2)] G1 Q
  obtain ⟨h3, h⟩ := h
  refine r_if_eq (tgt := 19) d_X5_readSign_6 (by decide) h3 (fun c4 => ?_) (fun c4 => ?_)
  · replace h := h.1 c4
    refine r_aload_n d_X5_readSign_19 0 rfl rfl ?_
    refine r_iconst d_X5_readSign_20 ?_
    refine r_callV0 (M' := M_X5_wrong) (ci := 5) [(0, 1)] d_X5_readSign_21 cl_X5_88 rfl (Nat.le_of_ble_eq_true rfl) (by decide) rfl (bs_ob bs_5) ?_
    refine Ct.mono h (fun r6 G5 h => ?_)
    show Rn _ M_X5_readSign zN 24 [(0, (2, 3)), (1, (0, p0))] [] G5 Q
    exact r_ret d_X5_readSign_24 rfl ⟨rfl, Nat.le_refl _, Nat.le_refl _⟩ h
  · replace h := h.2 c4
    refine r_aload_n d_X5_readSign_9 0 rfl rfl ?_
    obtain ⟨h7, h⟩ := h
    refine r_getM 5 2 2 rfl d_X5_readSign_10 fl_X5_21 (by decide) (bs_ob bs_5) h7 (by decide) ?_
    refine r_callV0 (M' := M_X10_step) (ci := 10) [] d_X5_readSign_13 cl_X5_102 rfl (Nat.le_of_ble_eq_true rfl) (by decide) rfl (bs_ob bs_10) ?_
    refine Ct.mono h (fun r9 G8 h => ?_)
    show Rn _ M_X5_readSign zN 16 [(0, (2, 3)), (1, (0, p0))] [] G8 Q
    refine r_goto (tgt := 24) d_X5_readSign_16 (by decide) ?_
    exact r_ret d_X5_readSign_24 rfl ⟨rfl, Nat.le_refl _, Nat.le_refl _⟩ h
theorem d_X5_readNumber_0 : decode M_X5_readNumber.2.1 0 = .ok (.aload_n 0, 1) := by decide +kernel
theorem d_X5_readNumber_1 : decode M_X5_readNumber.2.1 1 = .ok (.getfield 34, 3) := by decide +kernel
theorem d_X5_readNumber_4 : decode M_X5_readNumber.2.1 4 = .ok (.ifCond .eq 5, 3) := by decide +kernel
theorem d_X5_readNumber_7 : decode M_X5_readNumber.2.1 7 = .ok (.iload_n 1, 1) := by decide +kernel
theorem d_X5_readNumber_8 : decode M_X5_readNumber.2.1 8 = .ok (.ireturn, 1) := by decide +kernel
theorem d_X5_readNumber_9 : decode M_X5_readNumber.2.1 9 = .ok (.aload_n 0, 1) := by decide +kernel
theorem d_X5_readNumber_10 : decode M_X5_readNumber.2.1 10 = .ok (.getfield 21, 3) := by decide +kernel
theorem d_X5_readNumber_13 : decode M_X5_readNumber.2.1 13 = .ok (.getfield 53, 3) := by decide +kernel
theorem d_X5_readNumber_16 : decode M_X5_readNumber.2.1 16 = .ok (.istore_n 3, 1) := by decide +kernel
theorem d_X5_readNumber_17 : decode M_X5_readNumber.2.1 17 = .ok (.aload_n 0, 1) := by decide +kernel
theorem d_X5_readNumber_18 : decode M_X5_readNumber.2.1 18 = .ok (.getfield 21, 3) := by decide +kernel
theorem d_X5_readNumber_21 : decode M_X5_readNumber.2.1 21 = .ok (.getfield 50, 3) := by decide +kernel
theorem d_X5_readNumber_24 : decode M_X5_readNumber.2.1 24 = .ok (.iconst 3, 1) := by decide +kernel
theorem d_X5_readNumber_25 : decode M_X5_readNumber.2.1 25 = .ok (.if_icmp .eq 11, 3) := by decide +kernel
theorem d_X5_readNumber_28 : decode M_X5_readNumber.2.1 28 = .ok (.aload_n 0, 1) := by decide +kernel
theorem d_X5_readNumber_29 : decode M_X5_readNumber.2.1 29 = .ok (.iconst 1, 1) := by decide +kernel
theorem d_X5_readNumber_30 : decode M_X5_readNumber.2.1 30 = .ok (.invokevirtual 88, 3) := by decide +kernel
theorem d_X5_readNumber_33 : decode M_X5_readNumber.2.1 33 = .ok (.goto 30, 3) := by decide +kernel
theorem d_X5_readNumber_36 : decode M_X5_readNumber.2.1 36 = .ok (.iload_n 3, 1) := by decide +kernel
theorem d_X5_readNumber_37 : decode M_X5_readNumber.2.1 37 = .ok (.iload_n 1, 1) := by decide +kernel
theorem d_X5_readNumber_38 : decode M_X5_readNumber.2.1 38 = .ok (.if_icmp .lt 8, 3) := by decide +kernel
theorem d_X5_readNumber_41 : decode M_X5_readNumber.2.1 41 = .ok (.iload_n 3, 1) := by decide +kernel
theorem d_X5_readNumber_42 : decode M_X5_readNumber.2.1 42 = .ok (.iload_n 2, 1) := by decide +kernel
theorem d_X5_readNumber_43 : decode M_X5_readNumber.2.1 43 = .ok (.if_icmp .le 11, 3) := by decide +kernel
theorem d_X5_readNumber_46 : decode M_X5_readNumber.2.1 46 = .ok (.aload_n 0, 1) := by decide +kernel
theorem d_X5_readNumber_47 : decode M_X5_readNumber.2.1 47 = .ok (.iconst 4, 1) := by decide +kernel
theorem d_X5_readNumber_48 : decode M_X5_readNumber.2.1 48 = .ok (.invokevirtual 88, 3) := by decide +kernel
theorem d_X5_readNumber_51 : decode M_X5_readNumber.2.1 51 = .ok (.goto 12, 3) := by decide +kernel
theorem d_X5_readNumber_54 : decode M_X5_readNumber.2.1 54 = .ok (.aload_n 0, 1) := by decide +kernel
theorem d_X5_readNumber_55 : decode M_X5_readNumber.2.1 55 = .ok (.getfield 21, 3) := by decide +kernel
theorem d_X5_readNumber_58 : decode M_X5_readNumber.2.1 58 = .ok (.invokevirtual 102, 3) := by decide +kernel
theorem d_X5_readNumber_61 : decode M_X5_readNumber.2.1 61 = .ok (.iload_n 3, 1) := by decide +kernel
theorem d_X5_readNumber_62 : decode M_X5_readNumber.2.1 62 = .ok (.ireturn, 1) := by decide +kernel
theorem d_X5_readNumber_63 : decode M_X5_readNumber.2.1 63 = .ok (.iload_n 1, 1) := by decide +kernel
theorem d_X5_readNumber_64 : decode M_X5_readNumber.2.1 64 = .ok (.ireturn, 1) := by decide +kernel
set_option maxRecDepth 20000 in
theorem s_X5_readNumber_0 {d : Nat} {p0 : Int} {p1 : Int} {G : Mem} {Q : Int → Mem → Prop}  (h : (InR (G 3 4)) ∧ (((G 3 4) = 0) → ((G 3 2) = 1) ∧ ((InR (G 1 3)) ∧ (((G 1 3) = 3) → (InR (G 1 4)) ∧ (InR p0) ∧ (((G 1 4) < p0) → Rn (d + 1) M_X5_readNumber zN 46 [(0, (2, 3)), (1, (0, p0))] [] G Q) ∧ (¬ ((G 1 4) < p0) → (InR p1) ∧ (((G 1 4) ≤ p1) → Ct d M_X10_step NT 0 0 (some lay) [(2, 1)] G (fun r12 G11 => Q (G 1 4) G11)) ∧ (¬ ((G 1 4) ≤ p1) → Rn (d + 1) M_X5_readNumber zN 46 [(0, (2, 3)), (1, (0, p0))] [] G Q))) ∧ (¬ ((G 1 3) = 3) → Ct d M_X5_wrong NT 0 0 (some lay) [(2, 3), (0, 1)] G (fun r14 G13 => Q p0 G13)))) ∧ (¬ ((G 3 4) = 0) → Q p0 G)) : Rn (d + 1) M_X5_readNumber zN 0 [(0, (2, 3)), (1, (0, p0)), (2, (0, p1))] [] G Q := by
  refine r_aload_n d_X5_readNumber_0 0 rfl rfl ?_
  refine r_getI 5 4 4 rfl d_X5_readNumber_1 fl_X5_34 (by decide) (bs_ob bs_5) ?_
  obtain ⟨h1, h⟩ := h
  refine r_if_eq (tgt := 9) d_X5_readNumber_4 (by decide) h1 (fun c2 => ?_) (fun c2 => ?_)
  · replace h := h.1 c2
    refine r_aload_n d_X5_readNumber_9 0 rfl rfl ?_
    obtain ⟨h3, h⟩ := h
    refine r_getM 5 2 2 rfl d_X5_readNumber_10 fl_X5_21 (by decide) (bs_ob bs_5) h3 (by decide) ?_
    refine r_getI 10 4 4 rfl d_X5_readNumber_13 fl_X5_53 (by decide) (bs_ob bs_10) ?_
    refine r_istore_n (ls1 := [(3, (0, (G 1 4))), (0, (2, 3)), (1, (0, p0)), (2, (0, p1))]) d_X5_readNumber_16 rfl (by decide) rfl ?_
    refine r_aload_n d_X5_readNumber_17 1 rfl rfl ?_
    refine r_getM 5 2 2 rfl d_X5_readNumber_18 fl_X5_21 (by decide) (bs_ob bs_5) h3 (by decide) ?_
    refine r_getI 10 3 3 rfl d_X5_readNumber_21 fl_X5_50 (by decide) (bs_ob bs_10) ?_
    refine r_iconst d_X5_readNumber_24 ?_
    obtain ⟨h4, h⟩ := h
    refine r_icmp_eq (tgt := 36) d_X5_readNumber_25 (by decide) h4 ⟨by decide, by decide⟩ (fun c5 => ?_) (fun c5 => ?_)
    · replace h := h.1 c5
      refine r_iload_n d_X5_readNumber_36 0 rfl rfl ?_
      refine r_iload_n d_X5_readNumber_37 2 rfl rfl ?_
      obtain ⟨h6, h⟩ := h
      obtain ⟨h7, h⟩ := h
      refine r_icmp_lt (tgt := 46) d_X5_readNumber_38 (by decide) h6 h7 (fun c8 => ?_) (fun c8 => ?_)
      · replace h := h.1 c8
        exact Rn.sub [1, 2] rfl h
      · replace h := h.2 c8
        refine r_iload_n d_X5_readNumber_41 0 rfl rfl ?_
        refine r_iload_n d_X5_readNumber_42 3 rfl rfl ?_
        obtain ⟨h9, h⟩ := h
        refine r_icmp_le (tgt := 54) d_X5_readNumber_43 (by decide) h6 h9 (fun c10 => ?_) (fun c10 => ?_)
        · replace h := h.1 c10
          refine r_aload_n d_X5_readNumber_54 1 rfl rfl ?_
          refine r_getM 5 2 2 rfl d_X5_readNumber_55 fl_X5_21 (by decide) (bs_ob bs_5) h3 (by decide) ?_
          refine r_callV0 (M' := M_X10_step) (ci := 10) [] d_X5_readNumber_58 cl_X5_102 rfl (Nat.le_of_ble_eq_true rfl) (by decide) rfl (bs_ob bs_10) ?_
          refine Ct.mono h (fun r12 G11 h => ?_)
          show Rn _ M_X5_readNumber zN 61 [(3, (0, (G 1 4))), (0, (2, 3)), (1, (0, p0)), (2, (0, p1))] [] G11 Q
          refine r_iload_n d_X5_readNumber_61 0 rfl rfl ?_
          exact r_ireturn d_X5_readNumber_62 rfl ⟨rfl, Nat.le_refl _, Nat.le_refl _⟩ h
        · replace h := h.2 c10
          exact Rn.sub [1, 2] rfl h
    · replace h := h.2 c5
      refine r_aload_n d_X5_readNumber_28 1 rfl rfl ?_
      refine r_iconst d_X5_readNumber_29 ?_
      refine r_callV0 (M' := M_X5_wrong) (ci := 5) [(0, 1)] d_X5_readNumber_30 cl_X5_88 rfl (Nat.le_of_ble_eq_true rfl) (by decide) rfl (bs_ob bs_5) ?_
      refine Ct.mono h (fun r14 G13 h => ?_)
      show Rn _ M_X5_readNumber zN 33 [(3, (0, (G 1 4))), (0, (2, 3)), (1, (0, p0)), (2, (0, p1))] [] G13 Q
      refine r_goto (tgt := 63) d_X5_readNumber_33 (by decide) ?_
      refine r_iload_n d_X5_readNumber_63 2 rfl rfl ?_
      exact r_ireturn d_X5_readNumber_64 rfl ⟨rfl, Nat.le_refl _, Nat.le_refl _⟩ h
  · replace h := h.2 c2
    refine r_iload_n d_X5_readNumber_7 1 rfl rfl ?_
    exact r_ireturn d_X5_readNumber_8 rfl ⟨rfl, Nat.le_refl _, Nat.le_refl _⟩ h
set_option maxRecDepth 20000 in
theorem s_X5_readNumber_46 {d : Nat} {x1 : Int} {G : Mem} {Q : Int → Mem → Prop}  (h : Ct d M_X5_wrong NT 0 0 (some lay) [(2, 3), (0, 4)] G (fun r2 G1 => Q x1 G1)) : Rn (d + 1) M_X5_readNumber zN 46 [(0, (2, 3)), (1, (0, x1))] [] G Q := by
  refine r_aload_n d_X5_readNumber_46 0 rfl rfl ?_
  refine r_iconst d_X5_readNumber_47 ?_
  refine r_callV0 (M' := M_X5_wrong) (ci := 5) [(0, 4)] d_X5_readNumber_48 cl_X5_88 rfl (Nat.le_of_ble_eq_true rfl) (by decide) rfl (bs_ob bs_5) ?_
  refine Ct.mono h (fun r2 G1 h => ?_)
  show Rn _ M_X5_readNumber zN 51 [(0, (2, 3)), (1, (0, x1))] [] G1 Q
  refine r_goto (tgt := 63) d_X5_readNumber_51 (by decide) ?_
  refine r_iload_n d_X5_readNumber_63 1 rfl rfl ?_
  exact r_ireturn d_X5_readNumber_64 rfl ⟨rfl, Nat.le_refl _, Nat.le_refl _⟩ h
theorem d_X5_readRow_0 : decode M_X5_readRow.2.1 0 = .ok (.aload_n 0, 1) := by decide +kernel
theorem d_X5_readRow_1 : decode M_X5_readRow.2.1 1 = .ok (.iconst 0, 1) := by decide +kernel
theorem d_X5_readRow_2 : decode M_X5_readRow.2.1 2 = .ok (.invokevirtual 69, 3) := by decide +kernel
theorem d_X5_readRow_5 : decode M_X5_readRow.2.1 5 = .ok (.aload_n 0, 1) := by decide +kernel
theorem d_X5_readRow_6 : decode M_X5_readRow.2.1 6 = .ok (.getfield 25, 3) := by decide +kernel
theorem d_X5_readRow_9 : decode M_X5_readRow.2.1 9 = .ok (.aload_n 0, 1) := by decide +kernel
theorem d_X5_readRow_10 : decode M_X5_readRow.2.1 10 = .ok (.iconst 2, 1) := by decide +kernel
theorem d_X5_readRow_11 : decode M_X5_readRow.2.1 11 = .ok (.iconst 5, 1) := by decide +kernel
theorem d_X5_readRow_12 : decode M_X5_readRow.2.1 12 = .ok (.invokevirtual 72, 3) := by decide +kernel
theorem d_X5_readRow_15 : decode M_X5_readRow.2.1 15 = .ok (.putfield 105, 3) := by decide +kernel
theorem d_X5_readRow_18 : decode M_X5_readRow.2.1 18 = .ok (.aload_n 0, 1) := by decide +kernel
theorem d_X5_readRow_19 : decode M_X5_readRow.2.1 19 = .ok (.iconst 1, 1) := by decide +kernel
theorem d_X5_readRow_20 : decode M_X5_readRow.2.1 20 = .ok (.invokevirtual 69, 3) := by decide +kernel
theorem d_X5_readRow_23 : decode M_X5_readRow.2.1 23 = .ok (.aload_n 0, 1) := by decide +kernel
theorem d_X5_readRow_24 : decode M_X5_readRow.2.1 24 = .ok (.getfield 25, 3) := by decide +kernel
theorem d_X5_readRow_27 : decode M_X5_readRow.2.1 27 = .ok (.aload_n 0, 1) := by decide +kernel
theorem d_X5_readRow_28 : decode M_X5_readRow.2.1 28 = .ok (.iconst 1, 1) := by decide +kernel
theorem d_X5_readRow_29 : decode M_X5_readRow.2.1 29 = .ok (.bipush 72, 2) := by decide +kernel
theorem d_X5_readRow_31 : decode M_X5_readRow.2.1 31 = .ok (.invokevirtual 72, 3) := by decide +kernel
theorem d_X5_readRow_34 : decode M_X5_readRow.2.1 34 = .ok (.putfield 108, 3) := by decide +kernel
theorem d_X5_readRow_37 : decode M_X5_readRow.2.1 37 = .ok (.aload_n 0, 1) := by decide +kernel
theorem d_X5_readRow_38 : decode M_X5_readRow.2.1 38 = .ok (.bipush 59, 2) := by decide +kernel
theorem d_X5_readRow_40 : decode M_X5_readRow.2.1 40 = .ok (.invokevirtual 91, 3) := by decide +kernel
theorem d_X5_readRow_43 : decode M_X5_readRow.2.1 43 = .ok (.return_, 1) := by decide +kernel
set_option maxRecDepth 20000 in
theorem s_X5_readRow_0 {d : Nat}  {G : Mem} {Q : Int → Mem → Prop}  (h : Ct d M_X5_readWord NT 0 0 (some lay) [(2, 3), (0, 0)] G (fun r2 G1 => ∀ b3 : Int, b3 = (G1 3 3) → (Bs 1 b3 ∧ Ct d M_X5_readNumber NT 0 0 (some lay) [(2, 3), (0, 2), (0, 5)] G1 (fun r7 G6 => (∀ G8 : Mem, G8 = st G6 b3 6 r7 → Ct d M_X5_readWord NT 0 0 (some lay) [(2, 3), (0, 1)] G8 (fun r10 G9 => ∀ b11 : Int, b11 = (G9 3 3) → (Bs 1 b11 ∧ Ct d M_X5_readNumber NT 0 0 (some lay) [(2, 3), (0, 1), (0, 72)] G9 (fun r15 G14 => (∀ G16 : Mem, G16 = st G14 b11 7 r15 → Ct d M_X5_readSign NT 0 0 (some lay) [(2, 3), (0, 59)] G16 (fun r18 G17 => Q 0 G17)))))))))) : Rn (d + 1) M_X5_readRow zN 0 [(0, (2, 3))] [] G Q := by
  refine r_aload_n d_X5_readRow_0 0 rfl rfl ?_
  refine r_iconst d_X5_readRow_1 ?_
  refine r_callV0 (M' := M_X5_readWord) (ci := 5) [(0, 0)] d_X5_readRow_2 cl_X5_69 rfl (Nat.le_of_ble_eq_true rfl) (by decide) rfl (bs_ob bs_5) ?_
  refine Ct.mono h (fun r2 G1 h => ?_)
  show Rn _ M_X5_readRow zN 5 [(0, (2, 3))] [] G1 Q
  refine r_aload_n d_X5_readRow_5 0 rfl rfl ?_
  obtain ⟨b3, e5⟩ : ∃ y : Int, y = (G1 3 3) := ⟨_, rfl⟩
  replace h := h b3 e5
  obtain ⟨h4, h⟩ := h
  refine r_getM 5 3 3 rfl d_X5_readRow_6 fl_X5_25 (by decide) (bs_ob bs_5) e5.symm (bs_nn h4) ?_
  refine r_aload_n d_X5_readRow_9 0 rfl rfl ?_
  refine r_iconst d_X5_readRow_10 ?_
  refine r_iconst d_X5_readRow_11 ?_
  refine r_callV0 (M' := M_X5_readNumber) (ci := 5) [(0, 2), (0, 5)] d_X5_readRow_12 cl_X5_72 rfl (Nat.le_of_ble_eq_true rfl) (by decide) rfl (bs_ob bs_5) ?_
  refine Ct.mono h (fun r7 G6 h => ?_)
  show Rn _ M_X5_readRow zN 15 [(0, (2, 3))] [(0, r7), (2, b3)] G6 Q
  obtain ⟨G8, eG8⟩ : ∃ y : Mem, y = st G6 b3 6 r7 := ⟨_, rfl⟩
  replace h := h G8 eG8
  refine r_putI 1 6 6 rfl d_X5_readRow_15 fl_X5_105 (by decide) nofin_1_6 (bs_ob h4) ?_
  rw [← eG8]
  refine r_aload_n d_X5_readRow_18 0 rfl rfl ?_
  refine r_iconst d_X5_readRow_19 ?_
  refine r_callV0 (M' := M_X5_readWord) (ci := 5) [(0, 1)] d_X5_readRow_20 cl_X5_69 rfl (Nat.le_of_ble_eq_true rfl) (by decide) rfl (bs_ob bs_5) ?_
  refine Ct.mono h (fun r10 G9 h => ?_)
  show Rn _ M_X5_readRow zN 23 [(0, (2, 3))] [] G9 Q
  refine r_aload_n d_X5_readRow_23 0 rfl rfl ?_
  obtain ⟨b11, e13⟩ : ∃ y : Int, y = (G9 3 3) := ⟨_, rfl⟩
  replace h := h b11 e13
  obtain ⟨h12, h⟩ := h
  refine r_getM 5 3 3 rfl d_X5_readRow_24 fl_X5_25 (by decide) (bs_ob bs_5) e13.symm (bs_nn h12) ?_
  refine r_aload_n d_X5_readRow_27 0 rfl rfl ?_
  refine r_iconst d_X5_readRow_28 ?_
  refine r_bipush d_X5_readRow_29 (by decide +kernel) ?_
  refine r_callV0 (M' := M_X5_readNumber) (ci := 5) [(0, 1), (0, 72)] d_X5_readRow_31 cl_X5_72 rfl (Nat.le_of_ble_eq_true rfl) (by decide) rfl (bs_ob bs_5) ?_
  refine Ct.mono h (fun r15 G14 h => ?_)
  show Rn _ M_X5_readRow zN 34 [(0, (2, 3))] [(0, r15), (2, b11)] G14 Q
  obtain ⟨G16, eG16⟩ : ∃ y : Mem, y = st G14 b11 7 r15 := ⟨_, rfl⟩
  replace h := h G16 eG16
  refine r_putI 1 7 7 rfl d_X5_readRow_34 fl_X5_108 (by decide) nofin_1_7 (bs_ob h12) ?_
  rw [← eG16]
  refine r_aload_n d_X5_readRow_37 0 rfl rfl ?_
  refine r_bipush d_X5_readRow_38 (by decide +kernel) ?_
  refine r_callV0 (M' := M_X5_readSign) (ci := 5) [(0, 59)] d_X5_readRow_40 cl_X5_91 rfl (Nat.le_of_ble_eq_true rfl) (by decide) rfl (bs_ob bs_5) ?_
  refine Ct.mono h (fun r18 G17 h => ?_)
  show Rn _ M_X5_readRow zN 43 [(0, (2, 3))] [] G17 Q
  exact r_ret d_X5_readRow_43 rfl ⟨rfl, Nat.le_refl _, Nat.le_refl _⟩ h
theorem d_X5_checkTimes_0 : decode M_X5_checkTimes.2.1 0 = .ok (.iload_n 1, 1) := by decide +kernel
theorem d_X5_checkTimes_1 : decode M_X5_checkTimes.2.1 1 = .ok (.ifCond .lt 9, 3) := by decide +kernel
theorem d_X5_checkTimes_4 : decode M_X5_checkTimes.2.1 4 = .ok (.iload_n 1, 1) := by decide +kernel
theorem d_X5_checkTimes_5 : decode M_X5_checkTimes.2.1 5 = .ok (.bipush 32, 2) := by decide +kernel
theorem d_X5_checkTimes_7 : decode M_X5_checkTimes.2.1 7 = .ok (.if_icmp .lt 4, 3) := by decide +kernel
theorem d_X5_checkTimes_10 : decode M_X5_checkTimes.2.1 10 = .ok (.return_, 1) := by decide +kernel
theorem d_X5_checkTimes_11 : decode M_X5_checkTimes.2.1 11 = .ok (.iload_n 1, 1) := by decide +kernel
theorem d_X5_checkTimes_12 : decode M_X5_checkTimes.2.1 12 = .ok (.bipush 9, 2) := by decide +kernel
theorem d_X5_checkTimes_14 : decode M_X5_checkTimes.2.1 14 = .ok (.if_icmp .eq 9, 3) := by decide +kernel
theorem d_X5_checkTimes_17 : decode M_X5_checkTimes.2.1 17 = .ok (.iload_n 1, 1) := by decide +kernel
theorem d_X5_checkTimes_18 : decode M_X5_checkTimes.2.1 18 = .ok (.bipush 10, 2) := by decide +kernel
theorem d_X5_checkTimes_20 : decode M_X5_checkTimes.2.1 20 = .ok (.if_icmp .ne 7, 3) := by decide +kernel
theorem d_X5_checkTimes_23 : decode M_X5_checkTimes.2.1 23 = .ok (.iconst 1, 1) := by decide +kernel
theorem d_X5_checkTimes_24 : decode M_X5_checkTimes.2.1 24 = .ok (.goto 4, 3) := by decide +kernel
theorem d_X5_checkTimes_27 : decode M_X5_checkTimes.2.1 27 = .ok (.iconst 0, 1) := by decide +kernel
theorem d_X5_checkTimes_28 : decode M_X5_checkTimes.2.1 28 = .ok (.istore_n 2, 1) := by decide +kernel
theorem d_X5_checkTimes_29 : decode M_X5_checkTimes.2.1 29 = .ok (.iload_n 1, 1) := by decide +kernel
theorem d_X5_checkTimes_30 : decode M_X5_checkTimes.2.1 30 = .ok (.bipush 27, 2) := by decide +kernel
theorem d_X5_checkTimes_32 : decode M_X5_checkTimes.2.1 32 = .ok (.if_icmp .eq 15, 3) := by decide +kernel
theorem d_X5_checkTimes_35 : decode M_X5_checkTimes.2.1 35 = .ok (.iload_n 1, 1) := by decide +kernel
theorem d_X5_checkTimes_36 : decode M_X5_checkTimes.2.1 36 = .ok (.bipush 11, 2) := by decide +kernel
theorem d_X5_checkTimes_38 : decode M_X5_checkTimes.2.1 38 = .ok (.if_icmp .lt 13, 3) := by decide +kernel
theorem d_X5_checkTimes_41 : decode M_X5_checkTimes.2.1 41 = .ok (.iload_n 1, 1) := by decide +kernel
theorem d_X5_checkTimes_42 : decode M_X5_checkTimes.2.1 42 = .ok (.bipush 15, 2) := by decide +kernel
theorem d_X5_checkTimes_44 : decode M_X5_checkTimes.2.1 44 = .ok (.if_icmp .gt 7, 3) := by decide +kernel
theorem d_X5_checkTimes_47 : decode M_X5_checkTimes.2.1 47 = .ok (.iconst 1, 1) := by decide +kernel
theorem d_X5_checkTimes_48 : decode M_X5_checkTimes.2.1 48 = .ok (.goto 4, 3) := by decide +kernel
theorem d_X5_checkTimes_51 : decode M_X5_checkTimes.2.1 51 = .ok (.iconst 0, 1) := by decide +kernel
theorem d_X5_checkTimes_52 : decode M_X5_checkTimes.2.1 52 = .ok (.istore_n 3, 1) := by decide +kernel
theorem d_X5_checkTimes_53 : decode M_X5_checkTimes.2.1 53 = .ok (.iload_n 2, 1) := by decide +kernel
theorem d_X5_checkTimes_54 : decode M_X5_checkTimes.2.1 54 = .ok (.ifCond .eq 18, 3) := by decide +kernel
theorem d_X5_checkTimes_57 : decode M_X5_checkTimes.2.1 57 = .ok (.aload_n 0, 1) := by decide +kernel
theorem d_X5_checkTimes_58 : decode M_X5_checkTimes.2.1 58 = .ok (.getfield 17, 3) := by decide +kernel
theorem d_X5_checkTimes_61 : decode M_X5_checkTimes.2.1 61 = .ok (.iload_n 1, 1) := by decide +kernel
theorem d_X5_checkTimes_62 : decode M_X5_checkTimes.2.1 62 = .ok (.iaload, 1) := by decide +kernel
theorem d_X5_checkTimes_63 : decode M_X5_checkTimes.2.1 63 = .ok (.iconst 4, 1) := by decide +kernel
theorem d_X5_checkTimes_64 : decode M_X5_checkTimes.2.1 64 = .ok (.if_icmp .lt 8, 3) := by decide +kernel
theorem d_X5_checkTimes_67 : decode M_X5_checkTimes.2.1 67 = .ok (.aload_n 0, 1) := by decide +kernel
theorem d_X5_checkTimes_68 : decode M_X5_checkTimes.2.1 68 = .ok (.iconst 5, 1) := by decide +kernel
theorem d_X5_checkTimes_69 : decode M_X5_checkTimes.2.1 69 = .ok (.invokevirtual 88, 3) := by decide +kernel
theorem d_X5_checkTimes_72 : decode M_X5_checkTimes.2.1 72 = .ok (.iload_n 3, 1) := by decide +kernel
theorem d_X5_checkTimes_73 : decode M_X5_checkTimes.2.1 73 = .ok (.ifCond .eq 18, 3) := by decide +kernel
theorem d_X5_checkTimes_76 : decode M_X5_checkTimes.2.1 76 = .ok (.aload_n 0, 1) := by decide +kernel
theorem d_X5_checkTimes_77 : decode M_X5_checkTimes.2.1 77 = .ok (.getfield 17, 3) := by decide +kernel
theorem d_X5_checkTimes_80 : decode M_X5_checkTimes.2.1 80 = .ok (.iload_n 1, 1) := by decide +kernel
theorem d_X5_checkTimes_81 : decode M_X5_checkTimes.2.1 81 = .ok (.iaload, 1) := by decide +kernel
theorem d_X5_checkTimes_82 : decode M_X5_checkTimes.2.1 82 = .ok (.iconst 1, 1) := by decide +kernel
theorem d_X5_checkTimes_83 : decode M_X5_checkTimes.2.1 83 = .ok (.if_icmp .lt 8, 3) := by decide +kernel
theorem d_X5_checkTimes_86 : decode M_X5_checkTimes.2.1 86 = .ok (.aload_n 0, 1) := by decide +kernel
theorem d_X5_checkTimes_87 : decode M_X5_checkTimes.2.1 87 = .ok (.iconst 3, 1) := by decide +kernel
theorem d_X5_checkTimes_88 : decode M_X5_checkTimes.2.1 88 = .ok (.invokevirtual 88, 3) := by decide +kernel
theorem d_X5_checkTimes_91 : decode M_X5_checkTimes.2.1 91 = .ok (.aload_n 0, 1) := by decide +kernel
theorem d_X5_checkTimes_92 : decode M_X5_checkTimes.2.1 92 = .ok (.getfield 17, 3) := by decide +kernel
theorem d_X5_checkTimes_95 : decode M_X5_checkTimes.2.1 95 = .ok (.iload_n 1, 1) := by decide +kernel
theorem d_X5_checkTimes_96 : decode M_X5_checkTimes.2.1 96 = .ok (.dup2, 1) := by decide +kernel
theorem d_X5_checkTimes_97 : decode M_X5_checkTimes.2.1 97 = .ok (.iaload, 1) := by decide +kernel
theorem d_X5_checkTimes_98 : decode M_X5_checkTimes.2.1 98 = .ok (.iconst 1, 1) := by decide +kernel
theorem d_X5_checkTimes_99 : decode M_X5_checkTimes.2.1 99 = .ok (.iadd, 1) := by decide +kernel
theorem d_X5_checkTimes_100 : decode M_X5_checkTimes.2.1 100 = .ok (.iastore, 1) := by decide +kernel
theorem d_X5_checkTimes_101 : decode M_X5_checkTimes.2.1 101 = .ok (.return_, 1) := by decide +kernel
set_option maxRecDepth 20000 in
theorem s_X5_checkTimes_0 {d : Nat} {p0 : Int} {G : Mem} {Q : Int → Mem → Prop}  (h : (InR p0) ∧ ((p0 < 0) → Q 0 G) ∧ (¬ (p0 < 0) → ((p0 < 32) → ((p0 = 9) → Rn d M_X5_checkTimes zN 28 [(0, (2, 3)), (1, (0, p0))] [(0, 1)] G Q) ∧ (¬ (p0 = 9) → ((p0 ≠ 10) → Rn d M_X5_checkTimes zN 28 [(0, (2, 3)), (1, (0, p0))] [(0, 0)] G Q) ∧ (¬ (p0 ≠ 10) → Rn d M_X5_checkTimes zN 28 [(0, (2, 3)), (1, (0, p0))] [(0, 1)] G Q))) ∧ (¬ (p0 < 32) → Q 0 G))) : Rn d M_X5_checkTimes zN 0 [(0, (2, 3)), (1, (0, p0))] [] G Q := by
  refine r_iload_n d_X5_checkTimes_0 1 rfl rfl ?_
  obtain ⟨h1, h⟩ := h
  refine r_if_lt (tgt := 10) d_X5_checkTimes_1 (by decide) h1 (fun c2 => ?_) (fun c2 => ?_)
  · replace h := h.1 c2
    exact r_ret d_X5_checkTimes_10 rfl ⟨rfl, Nat.le_refl _, Nat.le_refl _⟩ h
  · replace h := h.2 c2
    refine r_iload_n d_X5_checkTimes_4 1 rfl rfl ?_
    refine r_bipush d_X5_checkTimes_5 (by decide +kernel) ?_
    refine r_icmp_lt (tgt := 11) d_X5_checkTimes_7 (by decide) h1 ⟨by decide, by decide⟩ (fun c3 => ?_) (fun c3 => ?_)
    · replace h := h.1 c3
      refine r_iload_n d_X5_checkTimes_11 1 rfl rfl ?_
      refine r_bipush d_X5_checkTimes_12 (by decide +kernel) ?_
      refine r_icmp_eq (tgt := 23) d_X5_checkTimes_14 (by decide) h1 ⟨by decide, by decide⟩ (fun c4 => ?_) (fun c4 => ?_)
      · replace h := h.1 c4
        refine r_iconst d_X5_checkTimes_23 ?_
        refine r_goto (tgt := 28) d_X5_checkTimes_24 (by decide) ?_
        exact h
      · replace h := h.2 c4
        refine r_iload_n d_X5_checkTimes_17 1 rfl rfl ?_
        refine r_bipush d_X5_checkTimes_18 (by decide +kernel) ?_
        refine r_icmp_ne (tgt := 27) d_X5_checkTimes_20 (by decide) h1 ⟨by decide, by decide⟩ (fun c5 => ?_) (fun c5 => ?_)
        · replace h := h.1 c5
          refine r_iconst d_X5_checkTimes_27 ?_
          exact h
        · replace h := h.2 c5
          refine r_iconst d_X5_checkTimes_23 ?_
          refine r_goto (tgt := 28) d_X5_checkTimes_24 (by decide) ?_
          exact h
    · replace h := h.2 c3
      exact r_ret d_X5_checkTimes_10 rfl ⟨rfl, Nat.le_refl _, Nat.le_refl _⟩ h
set_option maxRecDepth 20000 in
theorem s_X5_checkTimes_28 {d : Nat} {x1 : Int} {s0 : Int} {G : Mem} {Q : Int → Mem → Prop}  (h : (InR x1) ∧ ((x1 = 27) → Rn d M_X5_checkTimes zN 52 [(0, (2, 3)), (1, (0, x1)), (2, (0, s0))] [(0, 1)] G Q) ∧ (¬ (x1 = 27) → ((x1 < 11) → Rn d M_X5_checkTimes zN 52 [(0, (2, 3)), (1, (0, x1)), (2, (0, s0))] [(0, 0)] G Q) ∧ (¬ (x1 < 11) → ((15 < x1) → Rn d M_X5_checkTimes zN 52 [(0, (2, 3)), (1, (0, x1)), (2, (0, s0))] [(0, 0)] G Q) ∧ (¬ (15 < x1) → Rn d M_X5_checkTimes zN 52 [(0, (2, 3)), (1, (0, x1)), (2, (0, s0))] [(0, 1)] G Q)))) : Rn d M_X5_checkTimes zN 28 [(0, (2, 3)), (1, (0, x1))] [(0, s0)] G Q := by
  refine r_istore_n (ls1 := [(2, (0, s0)), (0, (2, 3)), (1, (0, x1))]) d_X5_checkTimes_28 rfl (by decide) rfl ?_
  refine r_iload_n d_X5_checkTimes_29 2 rfl rfl ?_
  refine r_bipush d_X5_checkTimes_30 (by decide +kernel) ?_
  obtain ⟨h1, h⟩ := h
  refine r_icmp_eq (tgt := 47) d_X5_checkTimes_32 (by decide) h1 ⟨by decide, by decide⟩ (fun c2 => ?_) (fun c2 => ?_)
  · replace h := h.1 c2
    refine r_iconst d_X5_checkTimes_47 ?_
    refine r_goto (tgt := 52) d_X5_checkTimes_48 (by decide) ?_
    exact Rn.sub [1, 2, 0] rfl h
  · replace h := h.2 c2
    refine r_iload_n d_X5_checkTimes_35 2 rfl rfl ?_
    refine r_bipush d_X5_checkTimes_36 (by decide +kernel) ?_
    refine r_icmp_lt (tgt := 51) d_X5_checkTimes_38 (by decide) h1 ⟨by decide, by decide⟩ (fun c3 => ?_) (fun c3 => ?_)
    · replace h := h.1 c3
      refine r_iconst d_X5_checkTimes_51 ?_
      exact Rn.sub [1, 2, 0] rfl h
    · replace h := h.2 c3
      refine r_iload_n d_X5_checkTimes_41 2 rfl rfl ?_
      refine r_bipush d_X5_checkTimes_42 (by decide +kernel) ?_
      refine r_icmp_gt (tgt := 51) d_X5_checkTimes_44 (by decide) h1 ⟨by decide, by decide⟩ (fun c4 => ?_) (fun c4 => ?_)
      · replace h := h.1 c4
        refine r_iconst d_X5_checkTimes_51 ?_
        exact Rn.sub [1, 2, 0] rfl h
      · replace h := h.2 c4
        refine r_iconst d_X5_checkTimes_47 ?_
        refine r_goto (tgt := 52) d_X5_checkTimes_48 (by decide) ?_
        exact Rn.sub [1, 2, 0] rfl h
set_option maxRecDepth 20000 in
theorem s_X5_checkTimes_52 {d : Nat} {x1 : Int} {x2 : Int} {s0 : Int} {G : Mem} {Q : Int → Mem → Prop}  (h : (InR x2) ∧ ((x2 = 0) → Rn (d + 1) M_X5_checkTimes zN 72 [(0, (2, 3)), (1, (0, x1)), (3, (0, s0))] [] G Q) ∧ (¬ (x2 = 0) → (0 ≤ x1 ∧ x1 < 32) ∧ ((InR (G 5 x1)) ∧ (((G 5 x1) < 4) → Rn (d + 1) M_X5_checkTimes zN 72 [(0, (2, 3)), (1, (0, x1)), (3, (0, s0))] [] G Q) ∧ (¬ ((G 5 x1) < 4) → Ct d M_X5_wrong NT 0 0 (some lay) [(2, 3), (0, 5)] G (fun r7 G6 => Rn (d + 1) M_X5_checkTimes zN 72 [(0, (2, 3)), (1, (0, x1)), (3, (0, s0))] [] G6 Q))))) : Rn (d + 1) M_X5_checkTimes zN 52 [(0, (2, 3)), (1, (0, x1)), (2, (0, x2))] [(0, s0)] G Q := by
  refine r_istore_n (ls1 := [(3, (0, s0)), (0, (2, 3)), (1, (0, x1)), (2, (0, x2))]) d_X5_checkTimes_52 rfl (by decide) rfl ?_
  refine r_iload_n d_X5_checkTimes_53 3 rfl rfl ?_
  obtain ⟨h1, h⟩ := h
  refine r_if_eq (tgt := 72) d_X5_checkTimes_54 (by decide) h1 (fun c2 => ?_) (fun c2 => ?_)
  · replace h := h.1 c2
    exact Rn.sub [1, 2, 0] rfl h
  · replace h := h.2 c2
    refine r_aload_n d_X5_checkTimes_57 1 rfl rfl ?_
    refine r_getL (v := 5) 5 1 1 rfl d_X5_checkTimes_58 fl_X5_17 (by decide) (bs_ob bs_5) (ly_5_1 bs_5).1 (ly_5_1 bs_5).2.1 ?_
    refine r_iload_n d_X5_checkTimes_61 2 rfl rfl ?_
    obtain ⟨h3, h⟩ := h
    refine r_iaload d_X5_checkTimes_62 (ly_5_1 bs_5).2.2 h3 ?_
    refine r_iconst d_X5_checkTimes_63 ?_
    obtain ⟨h4, h⟩ := h
    refine r_icmp_lt (tgt := 72) d_X5_checkTimes_64 (by decide) h4 ⟨by decide, by decide⟩ (fun c5 => ?_) (fun c5 => ?_)
    · replace h := h.1 c5
      exact Rn.sub [1, 2, 0] rfl h
    · replace h := h.2 c5
      refine r_aload_n d_X5_checkTimes_67 1 rfl rfl ?_
      refine r_iconst d_X5_checkTimes_68 ?_
      refine r_callV0 (M' := M_X5_wrong) (ci := 5) [(0, 5)] d_X5_checkTimes_69 cl_X5_88 rfl (Nat.le_of_ble_eq_true rfl) (by decide) rfl (bs_ob bs_5) ?_
      refine Ct.mono h (fun r7 G6 h => ?_)
      show Rn _ M_X5_checkTimes zN 72 [(3, (0, s0)), (0, (2, 3)), (1, (0, x1)), (2, (0, x2))] [] G6 Q
      exact Rn.sub [1, 2, 0] rfl h
set_option maxRecDepth 20000 in
theorem s_X5_checkTimes_72 {d : Nat} {x1 : Int} {x3 : Int} {G : Mem} {Q : Int → Mem → Prop}  (h : (InR x3) ∧ ((x3 = 0) → Rn (d + 1) M_X5_checkTimes zN 91 [(0, (2, 3)), (1, (0, x1))] [] G Q) ∧ (¬ (x3 = 0) → (0 ≤ x1 ∧ x1 < 32) ∧ ((InR (G 5 x1)) ∧ (((G 5 x1) < 1) → Rn (d + 1) M_X5_checkTimes zN 91 [(0, (2, 3)), (1, (0, x1))] [] G Q) ∧ (¬ ((G 5 x1) < 1) → Ct d M_X5_wrong NT 0 0 (some lay) [(2, 3), (0, 3)] G (fun r7 G6 => Rn (d + 1) M_X5_checkTimes zN 91 [(0, (2, 3)), (1, (0, x1))] [] G6 Q))))) : Rn (d + 1) M_X5_checkTimes zN 72 [(0, (2, 3)), (1, (0, x1)), (3, (0, x3))] [] G Q := by
  refine r_iload_n d_X5_checkTimes_72 2 rfl rfl ?_
  obtain ⟨h1, h⟩ := h
  refine r_if_eq (tgt := 91) d_X5_checkTimes_73 (by decide) h1 (fun c2 => ?_) (fun c2 => ?_)
  · replace h := h.1 c2
    exact Rn.sub [0, 1] rfl h
  · replace h := h.2 c2
    refine r_aload_n d_X5_checkTimes_76 0 rfl rfl ?_
    refine r_getL (v := 5) 5 1 1 rfl d_X5_checkTimes_77 fl_X5_17 (by decide) (bs_ob bs_5) (ly_5_1 bs_5).1 (ly_5_1 bs_5).2.1 ?_
    refine r_iload_n d_X5_checkTimes_80 1 rfl rfl ?_
    obtain ⟨h3, h⟩ := h
    refine r_iaload d_X5_checkTimes_81 (ly_5_1 bs_5).2.2 h3 ?_
    refine r_iconst d_X5_checkTimes_82 ?_
    obtain ⟨h4, h⟩ := h
    refine r_icmp_lt (tgt := 91) d_X5_checkTimes_83 (by decide) h4 ⟨by decide, by decide⟩ (fun c5 => ?_) (fun c5 => ?_)
    · replace h := h.1 c5
      exact Rn.sub [0, 1] rfl h
    · replace h := h.2 c5
      refine r_aload_n d_X5_checkTimes_86 0 rfl rfl ?_
      refine r_iconst d_X5_checkTimes_87 ?_
      refine r_callV0 (M' := M_X5_wrong) (ci := 5) [(0, 3)] d_X5_checkTimes_88 cl_X5_88 rfl (Nat.le_of_ble_eq_true rfl) (by decide) rfl (bs_ob bs_5) ?_
      refine Ct.mono h (fun r7 G6 h => ?_)
      show Rn _ M_X5_checkTimes zN 91 [(0, (2, 3)), (1, (0, x1)), (3, (0, x3))] [] G6 Q
      exact Rn.sub [0, 1] rfl h
set_option maxRecDepth 20000 in
theorem s_X5_checkTimes_91 {d : Nat} {x1 : Int} {G : Mem} {Q : Int → Mem → Prop}  (h : (0 ≤ x1 ∧ x1 < 32) ∧ ((∀ G2 : Mem, G2 = st G 5 x1 ((G 5 x1) + 1) → Q 0 G2))) : Rn d M_X5_checkTimes zN 91 [(0, (2, 3)), (1, (0, x1))] [] G Q := by
  refine r_aload_n d_X5_checkTimes_91 0 rfl rfl ?_
  refine r_getL (v := 5) 5 1 1 rfl d_X5_checkTimes_92 fl_X5_17 (by decide) (bs_ob bs_5) (ly_5_1 bs_5).1 (ly_5_1 bs_5).2.1 ?_
  refine r_iload_n d_X5_checkTimes_95 1 rfl rfl ?_
  refine r_dup2 0 2 rfl rfl (by decide) (by decide) d_X5_checkTimes_96 ?_
  obtain ⟨h1, h⟩ := h
  refine r_iaload d_X5_checkTimes_97 (ly_5_1 bs_5).2.2 h1 ?_
  refine r_iconst d_X5_checkTimes_98 ?_
  refine r_iadd d_X5_checkTimes_99 ?_
  obtain ⟨G2, eG2⟩ : ∃ y : Mem, y = st G 5 x1 ((G 5 x1) + 1) := ⟨_, rfl⟩
  replace h := h G2 eG2
  refine r_iastore d_X5_checkTimes_100 (ly_5_1 bs_5).2.2 h1 ?_
  rw [← eG2]
  exact r_ret d_X5_checkTimes_101 rfl ⟨rfl, Nat.le_refl _, Nat.le_refl _⟩ h
theorem d_X5_readSitter_0 : decode M_X5_readSitter.2.1 0 = .ok (.aload_n 0, 1) := by decide +kernel
theorem d_X5_readSitter_1 : decode M_X5_readSitter.2.1 1 = .ok (.getfield 25, 3) := by decide +kernel
theorem d_X5_readSitter_4 : decode M_X5_readSitter.2.1 4 = .ok (.getfield 111, 3) := by decide +kernel
theorem d_X5_readSitter_7 : decode M_X5_readSitter.2.1 7 = .ok (.aload_n 0, 1) := by decide +kernel
theorem d_X5_readSitter_8 : decode M_X5_readSitter.2.1 8 = .ok (.getfield 25, 3) := by decide +kernel
theorem d_X5_readSitter_11 : decode M_X5_readSitter.2.1 11 = .ok (.getfield 115, 3) := by decide +kernel
theorem d_X5_readSitter_14 : decode M_X5_readSitter.2.1 14 = .ok (.iconst 4, 1) := by decide +kernel
theorem d_X5_readSitter_15 : decode M_X5_readSitter.2.1 15 = .ok (.invokestatic 118, 3) := by decide +kernel
theorem d_X5_readSitter_18 : decode M_X5_readSitter.2.1 18 = .ok (.aaload, 1) := by decide +kernel
theorem d_X5_readSitter_19 : decode M_X5_readSitter.2.1 19 = .ok (.astore_n 1, 1) := by decide +kernel
theorem d_X5_readSitter_20 : decode M_X5_readSitter.2.1 20 = .ok (.aload_n 0, 1) := by decide +kernel
theorem d_X5_readSitter_21 : decode M_X5_readSitter.2.1 21 = .ok (.iconst 2, 1) := by decide +kernel
theorem d_X5_readSitter_22 : decode M_X5_readSitter.2.1 22 = .ok (.invokevirtual 69, 3) := by decide +kernel
theorem d_X5_readSitter_25 : decode M_X5_readSitter.2.1 25 = .ok (.aload_n 0, 1) := by decide +kernel
theorem d_X5_readSitter_26 : decode M_X5_readSitter.2.1 26 = .ok (.invokevirtual 123, 3) := by decide +kernel
theorem d_X5_readSitter_29 : decode M_X5_readSitter.2.1 29 = .ok (.aload_n 0, 1) := by decide +kernel
theorem d_X5_readSitter_30 : decode M_X5_readSitter.2.1 30 = .ok (.aload_n 1, 1) := by decide +kernel
theorem d_X5_readSitter_31 : decode M_X5_readSitter.2.1 31 = .ok (.invokevirtual 126, 3) := by decide +kernel
theorem d_X5_readSitter_34 : decode M_X5_readSitter.2.1 34 = .ok (.aload_n 0, 1) := by decide +kernel
theorem d_X5_readSitter_35 : decode M_X5_readSitter.2.1 35 = .ok (.iconst 3, 1) := by decide +kernel
theorem d_X5_readSitter_36 : decode M_X5_readSitter.2.1 36 = .ok (.invokevirtual 69, 3) := by decide +kernel
theorem d_X5_readSitter_39 : decode M_X5_readSitter.2.1 39 = .ok (.aload_n 1, 1) := by decide +kernel
theorem d_X5_readSitter_40 : decode M_X5_readSitter.2.1 40 = .ok (.aload_n 0, 1) := by decide +kernel
theorem d_X5_readSitter_41 : decode M_X5_readSitter.2.1 41 = .ok (.iconst 0, 1) := by decide +kernel
theorem d_X5_readSitter_42 : decode M_X5_readSitter.2.1 42 = .ok (.invokevirtual 130, 3) := by decide +kernel
theorem d_X5_readSitter_45 : decode M_X5_readSitter.2.1 45 = .ok (.putfield 134, 3) := by decide +kernel
theorem d_X5_readSitter_48 : decode M_X5_readSitter.2.1 48 = .ok (.aload_n 0, 1) := by decide +kernel
theorem d_X5_readSitter_49 : decode M_X5_readSitter.2.1 49 = .ok (.iconst 4, 1) := by decide +kernel
theorem d_X5_readSitter_50 : decode M_X5_readSitter.2.1 50 = .ok (.invokevirtual 69, 3) := by decide +kernel
theorem d_X5_readSitter_53 : decode M_X5_readSitter.2.1 53 = .ok (.aload_n 1, 1) := by decide +kernel
theorem d_X5_readSitter_54 : decode M_X5_readSitter.2.1 54 = .ok (.aload_n 0, 1) := by decide +kernel
theorem d_X5_readSitter_55 : decode M_X5_readSitter.2.1 55 = .ok (.iconst 0, 1) := by decide +kernel
theorem d_X5_readSitter_56 : decode M_X5_readSitter.2.1 56 = .ok (.bipush 9, 2) := by decide +kernel
theorem d_X5_readSitter_58 : decode M_X5_readSitter.2.1 58 = .ok (.invokevirtual 72, 3) := by decide +kernel
theorem d_X5_readSitter_61 : decode M_X5_readSitter.2.1 61 = .ok (.putfield 139, 3) := by decide +kernel
theorem d_X5_readSitter_64 : decode M_X5_readSitter.2.1 64 = .ok (.aload_n 0, 1) := by decide +kernel
theorem d_X5_readSitter_65 : decode M_X5_readSitter.2.1 65 = .ok (.iconst 5, 1) := by decide +kernel
theorem d_X5_readSitter_66 : decode M_X5_readSitter.2.1 66 = .ok (.invokevirtual 69, 3) := by decide +kernel
theorem d_X5_readSitter_69 : decode M_X5_readSitter.2.1 69 = .ok (.aload_n 1, 1) := by decide +kernel
theorem d_X5_readSitter_70 : decode M_X5_readSitter.2.1 70 = .ok (.aload_n 0, 1) := by decide +kernel
theorem d_X5_readSitter_71 : decode M_X5_readSitter.2.1 71 = .ok (.iconst 1, 1) := by decide +kernel
theorem d_X5_readSitter_72 : decode M_X5_readSitter.2.1 72 = .ok (.bipush 99, 2) := by decide +kernel
theorem d_X5_readSitter_74 : decode M_X5_readSitter.2.1 74 = .ok (.invokevirtual 72, 3) := by decide +kernel
theorem d_X5_readSitter_77 : decode M_X5_readSitter.2.1 77 = .ok (.putfield 142, 3) := by decide +kernel
theorem d_X5_readSitter_80 : decode M_X5_readSitter.2.1 80 = .ok (.aload_n 0, 1) := by decide +kernel
theorem d_X5_readSitter_81 : decode M_X5_readSitter.2.1 81 = .ok (.bipush 6, 2) := by decide +kernel
theorem d_X5_readSitter_83 : decode M_X5_readSitter.2.1 83 = .ok (.invokevirtual 69, 3) := by decide +kernel
theorem d_X5_readSitter_86 : decode M_X5_readSitter.2.1 86 = .ok (.aload_n 1, 1) := by decide +kernel
theorem d_X5_readSitter_87 : decode M_X5_readSitter.2.1 87 = .ok (.aload_n 0, 1) := by decide +kernel
theorem d_X5_readSitter_88 : decode M_X5_readSitter.2.1 88 = .ok (.iconst 1, 1) := by decide +kernel
theorem d_X5_readSitter_89 : decode M_X5_readSitter.2.1 89 = .ok (.bipush 99, 2) := by decide +kernel
theorem d_X5_readSitter_91 : decode M_X5_readSitter.2.1 91 = .ok (.invokevirtual 72, 3) := by decide +kernel
theorem d_X5_readSitter_94 : decode M_X5_readSitter.2.1 94 = .ok (.putfield 145, 3) := by decide +kernel
theorem d_X5_readSitter_97 : decode M_X5_readSitter.2.1 97 = .ok (.aload_n 0, 1) := by decide +kernel
theorem d_X5_readSitter_98 : decode M_X5_readSitter.2.1 98 = .ok (.bipush 24, 2) := by decide +kernel
theorem d_X5_readSitter_100 : decode M_X5_readSitter.2.1 100 = .ok (.invokevirtual 69, 3) := by decide +kernel
theorem d_X5_readSitter_103 : decode M_X5_readSitter.2.1 103 = .ok (.aload_n 1, 1) := by decide +kernel
theorem d_X5_readSitter_104 : decode M_X5_readSitter.2.1 104 = .ok (.aload_n 0, 1) := by decide +kernel
theorem d_X5_readSitter_105 : decode M_X5_readSitter.2.1 105 = .ok (.iconst 0, 1) := by decide +kernel
theorem d_X5_readSitter_106 : decode M_X5_readSitter.2.1 106 = .ok (.bipush 9, 2) := by decide +kernel
theorem d_X5_readSitter_108 : decode M_X5_readSitter.2.1 108 = .ok (.invokevirtual 72, 3) := by decide +kernel
theorem d_X5_readSitter_111 : decode M_X5_readSitter.2.1 111 = .ok (.putfield 148, 3) := by decide +kernel
theorem d_X5_readSitter_114 : decode M_X5_readSitter.2.1 114 = .ok (.aload_n 0, 1) := by decide +kernel
theorem d_X5_readSitter_115 : decode M_X5_readSitter.2.1 115 = .ok (.bipush 25, 2) := by decide +kernel
theorem d_X5_readSitter_117 : decode M_X5_readSitter.2.1 117 = .ok (.invokevirtual 69, 3) := by decide +kernel
theorem d_X5_readSitter_120 : decode M_X5_readSitter.2.1 120 = .ok (.aload_n 1, 1) := by decide +kernel
theorem d_X5_readSitter_121 : decode M_X5_readSitter.2.1 121 = .ok (.aload_n 0, 1) := by decide +kernel
theorem d_X5_readSitter_122 : decode M_X5_readSitter.2.1 122 = .ok (.bipush 20, 2) := by decide +kernel
theorem d_X5_readSitter_124 : decode M_X5_readSitter.2.1 124 = .ok (.bipush 40, 2) := by decide +kernel
theorem d_X5_readSitter_126 : decode M_X5_readSitter.2.1 126 = .ok (.invokevirtual 72, 3) := by decide +kernel
theorem d_X5_readSitter_129 : decode M_X5_readSitter.2.1 129 = .ok (.putfield 151, 3) := by decide +kernel
theorem d_X5_readSitter_132 : decode M_X5_readSitter.2.1 132 = .ok (.aload_n 0, 1) := by decide +kernel
theorem d_X5_readSitter_133 : decode M_X5_readSitter.2.1 133 = .ok (.bipush 7, 2) := by decide +kernel
theorem d_X5_readSitter_135 : decode M_X5_readSitter.2.1 135 = .ok (.invokevirtual 69, 3) := by decide +kernel
theorem d_X5_readSitter_138 : decode M_X5_readSitter.2.1 138 = .ok (.aload_n 1, 1) := by decide +kernel
theorem d_X5_readSitter_139 : decode M_X5_readSitter.2.1 139 = .ok (.aload_n 0, 1) := by decide +kernel
theorem d_X5_readSitter_140 : decode M_X5_readSitter.2.1 140 = .ok (.iconst 0, 1) := by decide +kernel
theorem d_X5_readSitter_141 : decode M_X5_readSitter.2.1 141 = .ok (.bipush 72, 2) := by decide +kernel
theorem d_X5_readSitter_143 : decode M_X5_readSitter.2.1 143 = .ok (.invokevirtual 72, 3) := by decide +kernel
theorem d_X5_readSitter_146 : decode M_X5_readSitter.2.1 146 = .ok (.putfield 154, 3) := by decide +kernel
theorem d_X5_readSitter_149 : decode M_X5_readSitter.2.1 149 = .ok (.aload_n 0, 1) := by decide +kernel
theorem d_X5_readSitter_150 : decode M_X5_readSitter.2.1 150 = .ok (.bipush 8, 2) := by decide +kernel
theorem d_X5_readSitter_152 : decode M_X5_readSitter.2.1 152 = .ok (.invokevirtual 69, 3) := by decide +kernel
theorem d_X5_readSitter_155 : decode M_X5_readSitter.2.1 155 = .ok (.aload_n 1, 1) := by decide +kernel
theorem d_X5_readSitter_156 : decode M_X5_readSitter.2.1 156 = .ok (.aload_n 0, 1) := by decide +kernel
theorem d_X5_readSitter_157 : decode M_X5_readSitter.2.1 157 = .ok (.aload_n 1, 1) := by decide +kernel
theorem d_X5_readSitter_158 : decode M_X5_readSitter.2.1 158 = .ok (.getfield 154, 3) := by decide +kernel
theorem d_X5_readSitter_161 : decode M_X5_readSitter.2.1 161 = .ok (.bipush 72, 2) := by decide +kernel
theorem d_X5_readSitter_163 : decode M_X5_readSitter.2.1 163 = .ok (.invokevirtual 72, 3) := by decide +kernel
theorem d_X5_readSitter_166 : decode M_X5_readSitter.2.1 166 = .ok (.putfield 157, 3) := by decide +kernel
theorem d_X5_readSitter_169 : decode M_X5_readSitter.2.1 169 = .ok (.aload_n 0, 1) := by decide +kernel
theorem d_X5_readSitter_170 : decode M_X5_readSitter.2.1 170 = .ok (.getfield 34, 3) := by decide +kernel
theorem d_X5_readSitter_173 : decode M_X5_readSitter.2.1 173 = .ok (.ifCond .ne 46, 3) := by decide +kernel
theorem d_X5_readSitter_176 : decode M_X5_readSitter.2.1 176 = .ok (.aload_n 0, 1) := by decide +kernel
theorem d_X5_readSitter_177 : decode M_X5_readSitter.2.1 177 = .ok (.getfield 25, 3) := by decide +kernel
theorem d_X5_readSitter_180 : decode M_X5_readSitter.2.1 180 = .ok (.getfield 115, 3) := by decide +kernel
theorem d_X5_readSitter_183 : decode M_X5_readSitter.2.1 183 = .ok (.iconst 5, 1) := by decide +kernel
theorem d_X5_readSitter_184 : decode M_X5_readSitter.2.1 184 = .ok (.if_icmp .ge 35, 3) := by decide +kernel
theorem d_X5_readSitter_187 : decode M_X5_readSitter.2.1 187 = .ok (.aload_n 0, 1) := by decide +kernel
theorem d_X5_readSitter_188 : decode M_X5_readSitter.2.1 188 = .ok (.getfield 25, 3) := by decide +kernel
theorem d_X5_readSitter_191 : decode M_X5_readSitter.2.1 191 = .ok (.getfield 160, 3) := by decide +kernel
theorem d_X5_readSitter_194 : decode M_X5_readSitter.2.1 194 = .ok (.aload_n 1, 1) := by decide +kernel
theorem d_X5_readSitter_195 : decode M_X5_readSitter.2.1 195 = .ok (.getfield 134, 3) := by decide +kernel
theorem d_X5_readSitter_198 : decode M_X5_readSitter.2.1 198 = .ok (.aload_n 0, 1) := by decide +kernel
theorem d_X5_readSitter_199 : decode M_X5_readSitter.2.1 199 = .ok (.getfield 25, 3) := by decide +kernel
theorem d_X5_readSitter_202 : decode M_X5_readSitter.2.1 202 = .ok (.getfield 115, 3) := by decide +kernel
theorem d_X5_readSitter_205 : decode M_X5_readSitter.2.1 205 = .ok (.iastore, 1) := by decide +kernel
theorem d_X5_readSitter_206 : decode M_X5_readSitter.2.1 206 = .ok (.aload_n 0, 1) := by decide +kernel
theorem d_X5_readSitter_207 : decode M_X5_readSitter.2.1 207 = .ok (.getfield 25, 3) := by decide +kernel
theorem d_X5_readSitter_210 : decode M_X5_readSitter.2.1 210 = .ok (.dup, 1) := by decide +kernel
theorem d_X5_readSitter_211 : decode M_X5_readSitter.2.1 211 = .ok (.getfield 115, 3) := by decide +kernel
theorem d_X5_readSitter_214 : decode M_X5_readSitter.2.1 214 = .ok (.iconst 1, 1) := by decide +kernel
theorem d_X5_readSitter_215 : decode M_X5_readSitter.2.1 215 = .ok (.iadd, 1) := by decide +kernel
theorem d_X5_readSitter_216 : decode M_X5_readSitter.2.1 216 = .ok (.putfield 115, 3) := by decide +kernel
theorem d_X5_readSitter_219 : decode M_X5_readSitter.2.1 219 = .ok (.return_, 1) := by decide +kernel
set_option maxRecDepth 20000 in
theorem s_X5_readSitter_0 {d : Nat}  {G : Mem} {Q : Int → Mem → Prop}  (h : ∀ b1 : Int, b1 = (G 3 3) → (Bs 1 b1 ∧ ∀ b4 : Int, b4 = (G 3 3) → (Bs 1 b4 ∧ (InR (G b4 8)) ∧ ((0 ≤ (min (G b4 8) 4) ∧ (min (G b4 8) 4) < 5) ∧ (Ct d M_X5_readWord NT 0 0 (some lay) [(2, 3), (0, 2)] G (fun r10 G9 => Ct d M_X5_readName NT 0 0 (some lay) [(2, 3)] G9 (fun r12 G11 => Ct d M_X5_readKind NT 0 0 (some lay) [(2, 3), (2, ((b1 + 13) + (min (G b4 8) 4)))] G11 (fun r14 G13 => Ct d M_X5_readWord NT 0 0 (some lay) [(2, 3), (0, 3)] G13 (fun r16 G15 => Ct d M_X5_readSeat NT 0 0 (some lay) [(2, 3), (0, 0)] G15 (fun r18 G17 => (∀ G19 : Mem, G19 = st G17 ((b1 + 13) + (min (G b4 8) 4)) 1 r18 → Ct d M_X5_readWord NT 0 0 (some lay) [(2, 3), (0, 4)] G19 (fun r21 G20 => Ct d M_X5_readNumber NT 0 0 (some lay) [(2, 3), (0, 0), (0, 9)] G20 (fun r23 G22 => (∀ G24 : Mem, G24 = st G22 ((b1 + 13) + (min (G b4 8) 4)) 2 r23 → Ct d M_X5_readWord NT 0 0 (some lay) [(2, 3), (0, 5)] G24 (fun r26 G25 => Ct d M_X5_readNumber NT 0 0 (some lay) [(2, 3), (0, 1), (0, 99)] G25 (fun r28 G27 => (∀ G29 : Mem, G29 = st G27 ((b1 + 13) + (min (G b4 8) 4)) 3 r28 → Ct d M_X5_readWord NT 0 0 (some lay) [(2, 3), (0, 6)] G29 (fun r31 G30 => Ct d M_X5_readNumber NT 0 0 (some lay) [(2, 3), (0, 1), (0, 99)] G30 (fun r33 G32 => (∀ G34 : Mem, G34 = st G32 ((b1 + 13) + (min (G b4 8) 4)) 4 r33 → Ct d M_X5_readWord NT 0 0 (some lay) [(2, 3), (0, 24)] G34 (fun r36 G35 => Ct d M_X5_readNumber NT 0 0 (some lay) [(2, 3), (0, 0), (0, 9)] G35 (fun r38 G37 => (∀ G39 : Mem, G39 = st G37 ((b1 + 13) + (min (G b4 8) 4)) 5 r38 → Ct d M_X5_readWord NT 0 0 (some lay) [(2, 3), (0, 25)] G39 (fun r41 G40 => Ct d M_X5_readNumber NT 0 0 (some lay) [(2, 3), (0, 20), (0, 40)] G40 (fun r43 G42 => (∀ G44 : Mem, G44 = st G42 ((b1 + 13) + (min (G b4 8) 4)) 6 r43 → Ct d M_X5_readWord NT 0 0 (some lay) [(2, 3), (0, 7)] G44 (fun r46 G45 => Ct d M_X5_readNumber NT 0 0 (some lay) [(2, 3), (0, 0), (0, 72)] G45 (fun r48 G47 => (∀ G49 : Mem, G49 = st G47 ((b1 + 13) + (min (G b4 8) 4)) 7 r48 → Ct d M_X5_readWord NT 0 0 (some lay) [(2, 3), (0, 8)] G49 (fun r51 G50 => Ct d M_X5_readNumber NT 0 0 (some lay) [(2, 3), (0, (G50 ((b1 + 13) + (min (G b4 8) 4)) 7)), (0, 72)] G50 (fun r53 G52 => (∀ G54 : Mem, G54 = st G52 ((b1 + 13) + (min (G b4 8) 4)) 8 r53 → (InR (G54 3 4)) ∧ (((G54 3 4) ≠ 0) → Q 0 G54) ∧ (¬ ((G54 3 4) ≠ 0) → ∀ b57 : Int, b57 = (G54 3 3) → (Bs 1 b57 ∧ (InR (G54 b57 8)) ∧ ((5 ≤ (G54 b57 8)) → Q 0 G54) ∧ (¬ (5 ≤ (G54 b57 8)) → ∀ b62 : Int, b62 = (G54 3 3) → (Bs 1 b62 ∧ ∀ b65 : Int, b65 = (G54 3 3) → (Bs 1 b65 ∧ (0 ≤ (G54 ((b1 + 13) + (min (G b4 8) 4)) 1) ∧ (G54 ((b1 + 13) + (min (G b4 8) 4)) 1) < 5) ∧ (∀ G69 : Mem, G69 = st G54 (b62 + 2) (G54 ((b1 + 13) + (min (G b4 8) 4)) 1) (G54 b65 8) → ∀ b70 : Int, b70 = (G69 3 3) → (Bs 1 b70 ∧ (∀ G73 : Mem, G73 = st G69 b70 8 ((G69 b70 8) + 1) → Q 0 G73)))))))))))))))))))))))))))))))))))))))) : Rn (d + 1) M_X5_readSitter zN 0 [(0, (2, 3))] [] G Q := by
  refine r_aload_n d_X5_readSitter_0 0 rfl rfl ?_
  obtain ⟨b1, e3⟩ : ∃ y : Int, y = (G 3 3) := ⟨_, rfl⟩
  replace h := h b1 e3
  obtain ⟨h2, h⟩ := h
  refine r_getM 5 3 3 rfl d_X5_readSitter_1 fl_X5_25 (by decide) (bs_ob bs_5) e3.symm (bs_nn h2) ?_
  refine r_getL (v := (b1 + 1)) 1 0 0 rfl d_X5_readSitter_4 fl_X5_111 (by decide) (bs_ob h2) (ly_1_0 h2).1 (ly_1_0 h2).2.1 ?_
  refine r_aload_n d_X5_readSitter_7 0 rfl rfl ?_
  obtain ⟨b4, e6⟩ : ∃ y : Int, y = (G 3 3) := ⟨_, rfl⟩
  replace h := h b4 e6
  obtain ⟨h5, h⟩ := h
  refine r_getM 5 3 3 rfl d_X5_readSitter_8 fl_X5_25 (by decide) (bs_ob bs_5) e6.symm (bs_nn h5) ?_
  refine r_getI 1 8 8 rfl d_X5_readSitter_11 fl_X5_115 (by decide) (bs_ob h5) ?_
  refine r_iconst d_X5_readSitter_14 ?_
  obtain ⟨h7, h⟩ := h
  refine r_mmin d_X5_readSitter_15 ml_X5_118 h7 ⟨by decide, by decide⟩ (Nat.le_of_ble_eq_true rfl) ?_
  obtain ⟨h8, h⟩ := h
  refine r_aaloadL (v := ((b1 + 13) + (min (G b4 8) 4))) d_X5_readSitter_18 (ly_1_0 h2).2.2 (by decide) rfl h8 (el_1_0 h2 h8.1 h8.2).1 (el_1_0 h2 h8.1 h8.2).2.1 ?_
  refine r_astore_n (ls1 := [(1, (2, ((b1 + 13) + (min (G b4 8) 4)))), (0, (2, 3))]) d_X5_readSitter_19 rfl (by decide) rfl ?_
  refine r_aload_n d_X5_readSitter_20 1 rfl rfl ?_
  refine r_iconst d_X5_readSitter_21 ?_
  refine r_callV0 (M' := M_X5_readWord) (ci := 5) [(0, 2)] d_X5_readSitter_22 cl_X5_69 rfl (Nat.le_of_ble_eq_true rfl) (by decide) rfl (bs_ob bs_5) ?_
  refine Ct.mono h (fun r10 G9 h => ?_)
  show Rn _ M_X5_readSitter zN 25 [(1, (2, ((b1 + 13) + (min (G b4 8) 4)))), (0, (2, 3))] [] G9 Q
  refine r_aload_n d_X5_readSitter_25 1 rfl rfl ?_
  refine r_callV0 (M' := M_X5_readName) (ci := 5) [] d_X5_readSitter_26 cl_X5_123 rfl (Nat.le_of_ble_eq_true rfl) (by decide) rfl (bs_ob bs_5) ?_
  refine Ct.mono h (fun r12 G11 h => ?_)
  show Rn _ M_X5_readSitter zN 29 [(1, (2, ((b1 + 13) + (min (G b4 8) 4)))), (0, (2, 3))] [] G11 Q
  refine r_aload_n d_X5_readSitter_29 1 rfl rfl ?_
  refine r_aload_n d_X5_readSitter_30 0 rfl rfl ?_
  refine r_callV0 (M' := M_X5_readKind) (ci := 5) [(2, ((b1 + 13) + (min (G b4 8) 4)))] d_X5_readSitter_31 cl_X5_126 rfl (Nat.le_of_ble_eq_true rfl) (by decide) rfl (bs_ob bs_5) ?_
  refine Ct.mono h (fun r14 G13 h => ?_)
  show Rn _ M_X5_readSitter zN 34 [(1, (2, ((b1 + 13) + (min (G b4 8) 4)))), (0, (2, 3))] [] G13 Q
  refine r_aload_n d_X5_readSitter_34 1 rfl rfl ?_
  refine r_iconst d_X5_readSitter_35 ?_
  refine r_callV0 (M' := M_X5_readWord) (ci := 5) [(0, 3)] d_X5_readSitter_36 cl_X5_69 rfl (Nat.le_of_ble_eq_true rfl) (by decide) rfl (bs_ob bs_5) ?_
  refine Ct.mono h (fun r16 G15 h => ?_)
  show Rn _ M_X5_readSitter zN 39 [(1, (2, ((b1 + 13) + (min (G b4 8) 4)))), (0, (2, 3))] [] G15 Q
  refine r_aload_n d_X5_readSitter_39 0 rfl rfl ?_
  refine r_aload_n d_X5_readSitter_40 1 rfl rfl ?_
  refine r_iconst d_X5_readSitter_41 ?_
  refine r_callV0 (M' := M_X5_readSeat) (ci := 5) [(0, 0)] d_X5_readSitter_42 cl_X5_130 rfl (Nat.le_of_ble_eq_true rfl) (by decide) rfl (bs_ob bs_5) ?_
  refine Ct.mono h (fun r18 G17 h => ?_)
  show Rn _ M_X5_readSitter zN 45 [(1, (2, ((b1 + 13) + (min (G b4 8) 4)))), (0, (2, 3))] [(0, r18), (2, ((b1 + 13) + (min (G b4 8) 4)))] G17 Q
  obtain ⟨G19, eG19⟩ : ∃ y : Mem, y = st G17 ((b1 + 13) + (min (G b4 8) 4)) 1 r18 := ⟨_, rfl⟩
  replace h := h G19 eG19
  refine r_putI 7 1 1 rfl d_X5_readSitter_45 fl_X5_134 (by decide) nofin_7_1 (bs_ob (el_1_0 h2 h8.1 h8.2).2.2) ?_
  rw [← eG19]
  refine r_aload_n d_X5_readSitter_48 1 rfl rfl ?_
  refine r_iconst d_X5_readSitter_49 ?_
  refine r_callV0 (M' := M_X5_readWord) (ci := 5) [(0, 4)] d_X5_readSitter_50 cl_X5_69 rfl (Nat.le_of_ble_eq_true rfl) (by decide) rfl (bs_ob bs_5) ?_
  refine Ct.mono h (fun r21 G20 h => ?_)
  show Rn _ M_X5_readSitter zN 53 [(1, (2, ((b1 + 13) + (min (G b4 8) 4)))), (0, (2, 3))] [] G20 Q
  refine r_aload_n d_X5_readSitter_53 0 rfl rfl ?_
  refine r_aload_n d_X5_readSitter_54 1 rfl rfl ?_
  refine r_iconst d_X5_readSitter_55 ?_
  refine r_bipush d_X5_readSitter_56 (by decide +kernel) ?_
  refine r_callV0 (M' := M_X5_readNumber) (ci := 5) [(0, 0), (0, 9)] d_X5_readSitter_58 cl_X5_72 rfl (Nat.le_of_ble_eq_true rfl) (by decide) rfl (bs_ob bs_5) ?_
  refine Ct.mono h (fun r23 G22 h => ?_)
  show Rn _ M_X5_readSitter zN 61 [(1, (2, ((b1 + 13) + (min (G b4 8) 4)))), (0, (2, 3))] [(0, r23), (2, ((b1 + 13) + (min (G b4 8) 4)))] G22 Q
  obtain ⟨G24, eG24⟩ : ∃ y : Mem, y = st G22 ((b1 + 13) + (min (G b4 8) 4)) 2 r23 := ⟨_, rfl⟩
  replace h := h G24 eG24
  refine r_putI 7 2 2 rfl d_X5_readSitter_61 fl_X5_139 (by decide) nofin_7_2 (bs_ob (el_1_0 h2 h8.1 h8.2).2.2) ?_
  rw [← eG24]
  refine r_aload_n d_X5_readSitter_64 1 rfl rfl ?_
  refine r_iconst d_X5_readSitter_65 ?_
  refine r_callV0 (M' := M_X5_readWord) (ci := 5) [(0, 5)] d_X5_readSitter_66 cl_X5_69 rfl (Nat.le_of_ble_eq_true rfl) (by decide) rfl (bs_ob bs_5) ?_
  refine Ct.mono h (fun r26 G25 h => ?_)
  show Rn _ M_X5_readSitter zN 69 [(1, (2, ((b1 + 13) + (min (G b4 8) 4)))), (0, (2, 3))] [] G25 Q
  refine r_aload_n d_X5_readSitter_69 0 rfl rfl ?_
  refine r_aload_n d_X5_readSitter_70 1 rfl rfl ?_
  refine r_iconst d_X5_readSitter_71 ?_
  refine r_bipush d_X5_readSitter_72 (by decide +kernel) ?_
  refine r_callV0 (M' := M_X5_readNumber) (ci := 5) [(0, 1), (0, 99)] d_X5_readSitter_74 cl_X5_72 rfl (Nat.le_of_ble_eq_true rfl) (by decide) rfl (bs_ob bs_5) ?_
  refine Ct.mono h (fun r28 G27 h => ?_)
  show Rn _ M_X5_readSitter zN 77 [(1, (2, ((b1 + 13) + (min (G b4 8) 4)))), (0, (2, 3))] [(0, r28), (2, ((b1 + 13) + (min (G b4 8) 4)))] G27 Q
  obtain ⟨G29, eG29⟩ : ∃ y : Mem, y = st G27 ((b1 + 13) + (min (G b4 8) 4)) 3 r28 := ⟨_, rfl⟩
  replace h := h G29 eG29
  refine r_putI 7 3 3 rfl d_X5_readSitter_77 fl_X5_142 (by decide) nofin_7_3 (bs_ob (el_1_0 h2 h8.1 h8.2).2.2) ?_
  rw [← eG29]
  refine r_aload_n d_X5_readSitter_80 1 rfl rfl ?_
  refine r_bipush d_X5_readSitter_81 (by decide +kernel) ?_
  refine r_callV0 (M' := M_X5_readWord) (ci := 5) [(0, 6)] d_X5_readSitter_83 cl_X5_69 rfl (Nat.le_of_ble_eq_true rfl) (by decide) rfl (bs_ob bs_5) ?_
  refine Ct.mono h (fun r31 G30 h => ?_)
  show Rn _ M_X5_readSitter zN 86 [(1, (2, ((b1 + 13) + (min (G b4 8) 4)))), (0, (2, 3))] [] G30 Q
  refine r_aload_n d_X5_readSitter_86 0 rfl rfl ?_
  refine r_aload_n d_X5_readSitter_87 1 rfl rfl ?_
  refine r_iconst d_X5_readSitter_88 ?_
  refine r_bipush d_X5_readSitter_89 (by decide +kernel) ?_
  refine r_callV0 (M' := M_X5_readNumber) (ci := 5) [(0, 1), (0, 99)] d_X5_readSitter_91 cl_X5_72 rfl (Nat.le_of_ble_eq_true rfl) (by decide) rfl (bs_ob bs_5) ?_
  refine Ct.mono h (fun r33 G32 h => ?_)
  show Rn _ M_X5_readSitter zN 94 [(1, (2, ((b1 + 13) + (min (G b4 8) 4)))), (0, (2, 3))] [(0, r33), (2, ((b1 + 13) + (min (G b4 8) 4)))] G32 Q
  obtain ⟨G34, eG34⟩ : ∃ y : Mem, y = st G32 ((b1 + 13) + (min (G b4 8) 4)) 4 r33 := ⟨_, rfl⟩
  replace h := h G34 eG34
  refine r_putI 7 4 4 rfl d_X5_readSitter_94 fl_X5_145 (by decide) nofin_7_4 (bs_ob (el_1_0 h2 h8.1 h8.2).2.2) ?_
  rw [← eG34]
  refine r_aload_n d_X5_readSitter_97 1 rfl rfl ?_
  refine r_bipush d_X5_readSitter_98 (by decide +kernel) ?_
  refine r_callV0 (M' := M_X5_readWord) (ci := 5) [(0, 24)] d_X5_readSitter_100 cl_X5_69 rfl (Nat.le_of_ble_eq_true rfl) (by decide) rfl (bs_ob bs_5) ?_
  refine Ct.mono h (fun r36 G35 h => ?_)
  show Rn _ M_X5_readSitter zN 103 [(1, (2, ((b1 + 13) + (min (G b4 8) 4)))), (0, (2, 3))] [] G35 Q
  refine r_aload_n d_X5_readSitter_103 0 rfl rfl ?_
  refine r_aload_n d_X5_readSitter_104 1 rfl rfl ?_
  refine r_iconst d_X5_readSitter_105 ?_
  refine r_bipush d_X5_readSitter_106 (by decide +kernel) ?_
  refine r_callV0 (M' := M_X5_readNumber) (ci := 5) [(0, 0), (0, 9)] d_X5_readSitter_108 cl_X5_72 rfl (Nat.le_of_ble_eq_true rfl) (by decide) rfl (bs_ob bs_5) ?_
  refine Ct.mono h (fun r38 G37 h => ?_)
  show Rn _ M_X5_readSitter zN 111 [(1, (2, ((b1 + 13) + (min (G b4 8) 4)))), (0, (2, 3))] [(0, r38), (2, ((b1 + 13) + (min (G b4 8) 4)))] G37 Q
  obtain ⟨G39, eG39⟩ : ∃ y : Mem, y = st G37 ((b1 + 13) + (min (G b4 8) 4)) 5 r38 := ⟨_, rfl⟩
  replace h := h G39 eG39
  refine r_putI 7 5 5 rfl d_X5_readSitter_111 fl_X5_148 (by decide) nofin_7_5 (bs_ob (el_1_0 h2 h8.1 h8.2).2.2) ?_
  rw [← eG39]
  refine r_aload_n d_X5_readSitter_114 1 rfl rfl ?_
  refine r_bipush d_X5_readSitter_115 (by decide +kernel) ?_
  refine r_callV0 (M' := M_X5_readWord) (ci := 5) [(0, 25)] d_X5_readSitter_117 cl_X5_69 rfl (Nat.le_of_ble_eq_true rfl) (by decide) rfl (bs_ob bs_5) ?_
  refine Ct.mono h (fun r41 G40 h => ?_)
  show Rn _ M_X5_readSitter zN 120 [(1, (2, ((b1 + 13) + (min (G b4 8) 4)))), (0, (2, 3))] [] G40 Q
  refine r_aload_n d_X5_readSitter_120 0 rfl rfl ?_
  refine r_aload_n d_X5_readSitter_121 1 rfl rfl ?_
  refine r_bipush d_X5_readSitter_122 (by decide +kernel) ?_
  refine r_bipush d_X5_readSitter_124 (by decide +kernel) ?_
  refine r_callV0 (M' := M_X5_readNumber) (ci := 5) [(0, 20), (0, 40)] d_X5_readSitter_126 cl_X5_72 rfl (Nat.le_of_ble_eq_true rfl) (by decide) rfl (bs_ob bs_5) ?_
  refine Ct.mono h (fun r43 G42 h => ?_)
  show Rn _ M_X5_readSitter zN 129 [(1, (2, ((b1 + 13) + (min (G b4 8) 4)))), (0, (2, 3))] [(0, r43), (2, ((b1 + 13) + (min (G b4 8) 4)))] G42 Q
  obtain ⟨G44, eG44⟩ : ∃ y : Mem, y = st G42 ((b1 + 13) + (min (G b4 8) 4)) 6 r43 := ⟨_, rfl⟩
  replace h := h G44 eG44
  refine r_putI 7 6 6 rfl d_X5_readSitter_129 fl_X5_151 (by decide) nofin_7_6 (bs_ob (el_1_0 h2 h8.1 h8.2).2.2) ?_
  rw [← eG44]
  refine r_aload_n d_X5_readSitter_132 1 rfl rfl ?_
  refine r_bipush d_X5_readSitter_133 (by decide +kernel) ?_
  refine r_callV0 (M' := M_X5_readWord) (ci := 5) [(0, 7)] d_X5_readSitter_135 cl_X5_69 rfl (Nat.le_of_ble_eq_true rfl) (by decide) rfl (bs_ob bs_5) ?_
  refine Ct.mono h (fun r46 G45 h => ?_)
  show Rn _ M_X5_readSitter zN 138 [(1, (2, ((b1 + 13) + (min (G b4 8) 4)))), (0, (2, 3))] [] G45 Q
  refine r_aload_n d_X5_readSitter_138 0 rfl rfl ?_
  refine r_aload_n d_X5_readSitter_139 1 rfl rfl ?_
  refine r_iconst d_X5_readSitter_140 ?_
  refine r_bipush d_X5_readSitter_141 (by decide +kernel) ?_
  refine r_callV0 (M' := M_X5_readNumber) (ci := 5) [(0, 0), (0, 72)] d_X5_readSitter_143 cl_X5_72 rfl (Nat.le_of_ble_eq_true rfl) (by decide) rfl (bs_ob bs_5) ?_
  refine Ct.mono h (fun r48 G47 h => ?_)
  show Rn _ M_X5_readSitter zN 146 [(1, (2, ((b1 + 13) + (min (G b4 8) 4)))), (0, (2, 3))] [(0, r48), (2, ((b1 + 13) + (min (G b4 8) 4)))] G47 Q
  obtain ⟨G49, eG49⟩ : ∃ y : Mem, y = st G47 ((b1 + 13) + (min (G b4 8) 4)) 7 r48 := ⟨_, rfl⟩
  replace h := h G49 eG49
  refine r_putI 7 7 7 rfl d_X5_readSitter_146 fl_X5_154 (by decide) nofin_7_7 (bs_ob (el_1_0 h2 h8.1 h8.2).2.2) ?_
  rw [← eG49]
  refine r_aload_n d_X5_readSitter_149 1 rfl rfl ?_
  refine r_bipush d_X5_readSitter_150 (by decide +kernel) ?_
  refine r_callV0 (M' := M_X5_readWord) (ci := 5) [(0, 8)] d_X5_readSitter_152 cl_X5_69 rfl (Nat.le_of_ble_eq_true rfl) (by decide) rfl (bs_ob bs_5) ?_
  refine Ct.mono h (fun r51 G50 h => ?_)
  show Rn _ M_X5_readSitter zN 155 [(1, (2, ((b1 + 13) + (min (G b4 8) 4)))), (0, (2, 3))] [] G50 Q
  refine r_aload_n d_X5_readSitter_155 0 rfl rfl ?_
  refine r_aload_n d_X5_readSitter_156 1 rfl rfl ?_
  refine r_aload_n d_X5_readSitter_157 0 rfl rfl ?_
  refine r_getI 7 7 7 rfl d_X5_readSitter_158 fl_X5_154 (by decide) (bs_ob (el_1_0 h2 h8.1 h8.2).2.2) ?_
  refine r_bipush d_X5_readSitter_161 (by decide +kernel) ?_
  refine r_callV0 (M' := M_X5_readNumber) (ci := 5) [(0, (G50 ((b1 + 13) + (min (G b4 8) 4)) 7)), (0, 72)] d_X5_readSitter_163 cl_X5_72 rfl (Nat.le_of_ble_eq_true rfl) (by decide) rfl (bs_ob bs_5) ?_
  refine Ct.mono h (fun r53 G52 h => ?_)
  show Rn _ M_X5_readSitter zN 166 [(1, (2, ((b1 + 13) + (min (G b4 8) 4)))), (0, (2, 3))] [(0, r53), (2, ((b1 + 13) + (min (G b4 8) 4)))] G52 Q
  obtain ⟨G54, eG54⟩ : ∃ y : Mem, y = st G52 ((b1 + 13) + (min (G b4 8) 4)) 8 r53 := ⟨_, rfl⟩
  replace h := h G54 eG54
  refine r_putI 7 8 8 rfl d_X5_readSitter_166 fl_X5_157 (by decide) nofin_7_8 (bs_ob (el_1_0 h2 h8.1 h8.2).2.2) ?_
  rw [← eG54]
  refine r_aload_n d_X5_readSitter_169 1 rfl rfl ?_
  refine r_getI 5 4 4 rfl d_X5_readSitter_170 fl_X5_34 (by decide) (bs_ob bs_5) ?_
  obtain ⟨h55, h⟩ := h
  refine r_if_ne (tgt := 219) d_X5_readSitter_173 (by decide) h55 (fun c56 => ?_) (fun c56 => ?_)
  · replace h := h.1 c56
    exact r_ret d_X5_readSitter_219 rfl ⟨rfl, Nat.le_refl _, Nat.le_refl _⟩ h
  · replace h := h.2 c56
    refine r_aload_n d_X5_readSitter_176 1 rfl rfl ?_
    obtain ⟨b57, e59⟩ : ∃ y : Int, y = (G54 3 3) := ⟨_, rfl⟩
    replace h := h b57 e59
    obtain ⟨h58, h⟩ := h
    refine r_getM 5 3 3 rfl d_X5_readSitter_177 fl_X5_25 (by decide) (bs_ob bs_5) e59.symm (bs_nn h58) ?_
    refine r_getI 1 8 8 rfl d_X5_readSitter_180 fl_X5_115 (by decide) (bs_ob h58) ?_
    refine r_iconst d_X5_readSitter_183 ?_
    obtain ⟨h60, h⟩ := h
    refine r_icmp_ge (tgt := 219) d_X5_readSitter_184 (by decide) h60 ⟨by decide, by decide⟩ (fun c61 => ?_) (fun c61 => ?_)
    · replace h := h.1 c61
      exact r_ret d_X5_readSitter_219 rfl ⟨rfl, Nat.le_refl _, Nat.le_refl _⟩ h
    · replace h := h.2 c61
      refine r_aload_n d_X5_readSitter_187 1 rfl rfl ?_
      obtain ⟨b62, e64⟩ : ∃ y : Int, y = (G54 3 3) := ⟨_, rfl⟩
      replace h := h b62 e64
      obtain ⟨h63, h⟩ := h
      refine r_getM 5 3 3 rfl d_X5_readSitter_188 fl_X5_25 (by decide) (bs_ob bs_5) e64.symm (bs_nn h63) ?_
      refine r_getL (v := (b62 + 2)) 1 1 1 rfl d_X5_readSitter_191 fl_X5_160 (by decide) (bs_ob h63) (ly_1_1 h63).1 (ly_1_1 h63).2.1 ?_
      refine r_aload_n d_X5_readSitter_194 0 rfl rfl ?_
      refine r_getI 7 1 1 rfl d_X5_readSitter_195 fl_X5_134 (by decide) (bs_ob (el_1_0 h2 h8.1 h8.2).2.2) ?_
      refine r_aload_n d_X5_readSitter_198 1 rfl rfl ?_
      obtain ⟨b65, e67⟩ : ∃ y : Int, y = (G54 3 3) := ⟨_, rfl⟩
      replace h := h b65 e67
      obtain ⟨h66, h⟩ := h
      refine r_getM 5 3 3 rfl d_X5_readSitter_199 fl_X5_25 (by decide) (bs_ob bs_5) e67.symm (bs_nn h66) ?_
      refine r_getI 1 8 8 rfl d_X5_readSitter_202 fl_X5_115 (by decide) (bs_ob h66) ?_
      obtain ⟨h68, h⟩ := h
      obtain ⟨G69, eG69⟩ : ∃ y : Mem, y = st G54 (b62 + 2) (G54 ((b1 + 13) + (min (G b4 8) 4)) 1) (G54 b65 8) := ⟨_, rfl⟩
      replace h := h G69 eG69
      refine r_iastore d_X5_readSitter_205 (ly_1_1 h63).2.2 h68 ?_
      rw [← eG69]
      refine r_aload_n d_X5_readSitter_206 1 rfl rfl ?_
      obtain ⟨b70, e72⟩ : ∃ y : Int, y = (G69 3 3) := ⟨_, rfl⟩
      replace h := h b70 e72
      obtain ⟨h71, h⟩ := h
      refine r_getM 5 3 3 rfl d_X5_readSitter_207 fl_X5_25 (by decide) (bs_ob bs_5) e72.symm (bs_nn h71) ?_
      refine r_dup 2 rfl (by decide) d_X5_readSitter_210 ?_
      refine r_getI 1 8 8 rfl d_X5_readSitter_211 fl_X5_115 (by decide) (bs_ob h71) ?_
      refine r_iconst d_X5_readSitter_214 ?_
      refine r_iadd d_X5_readSitter_215 ?_
      obtain ⟨G73, eG73⟩ : ∃ y : Mem, y = st G69 b70 8 ((G69 b70 8) + 1) := ⟨_, rfl⟩
      replace h := h G73 eG73
      refine r_putI 1 8 8 rfl d_X5_readSitter_216 fl_X5_115 (by decide) nofin_1_8 (bs_ob h71) ?_
      rw [← eG73]
      exact r_ret d_X5_readSitter_219 rfl ⟨rfl, Nat.le_refl _, Nat.le_refl _⟩ h
theorem d_X5_readName_0 : decode M_X5_readName.2.1 0 = .ok (.aload_n 0, 1) := by decide +kernel
theorem d_X5_readName_1 : decode M_X5_readName.2.1 1 = .ok (.getfield 34, 3) := by decide +kernel
theorem d_X5_readName_4 : decode M_X5_readName.2.1 4 = .ok (.ifCond .eq 4, 3) := by decide +kernel
theorem d_X5_readName_7 : decode M_X5_readName.2.1 7 = .ok (.return_, 1) := by decide +kernel
theorem d_X5_readName_8 : decode M_X5_readName.2.1 8 = .ok (.aload_n 0, 1) := by decide +kernel
theorem d_X5_readName_9 : decode M_X5_readName.2.1 9 = .ok (.getfield 21, 3) := by decide +kernel
theorem d_X5_readName_12 : decode M_X5_readName.2.1 12 = .ok (.getfield 50, 3) := by decide +kernel
theorem d_X5_readName_15 : decode M_X5_readName.2.1 15 = .ok (.iconst 2, 1) := by decide +kernel
theorem d_X5_readName_16 : decode M_X5_readName.2.1 16 = .ok (.if_icmp .ne 16, 3) := by decide +kernel
theorem d_X5_readName_19 : decode M_X5_readName.2.1 19 = .ok (.aload_n 0, 1) := by decide +kernel
theorem d_X5_readName_20 : decode M_X5_readName.2.1 20 = .ok (.getfield 21, 3) := by decide +kernel
theorem d_X5_readName_23 : decode M_X5_readName.2.1 23 = .ok (.getfield 53, 3) := by decide +kernel
theorem d_X5_readName_26 : decode M_X5_readName.2.1 26 = .ok (.invokestatic 163, 3) := by decide +kernel
theorem d_X5_readName_29 : decode M_X5_readName.2.1 29 = .ok (.ifCond .eq 9, 3) := by decide +kernel
theorem d_X5_readName_32 : decode M_X5_readName.2.1 32 = .ok (.aload_n 0, 1) := by decide +kernel
theorem d_X5_readName_33 : decode M_X5_readName.2.1 33 = .ok (.iconst 1, 1) := by decide +kernel
theorem d_X5_readName_34 : decode M_X5_readName.2.1 34 = .ok (.invokevirtual 88, 3) := by decide +kernel
theorem d_X5_readName_37 : decode M_X5_readName.2.1 37 = .ok (.return_, 1) := by decide +kernel
theorem d_X5_readName_38 : decode M_X5_readName.2.1 38 = .ok (.iconst 0, 1) := by decide +kernel
theorem d_X5_readName_39 : decode M_X5_readName.2.1 39 = .ok (.istore_n 1, 1) := by decide +kernel
theorem d_X5_readName_40 : decode M_X5_readName.2.1 40 = .ok (.iload_n 1, 1) := by decide +kernel
theorem d_X5_readName_41 : decode M_X5_readName.2.1 41 = .ok (.aload_n 0, 1) := by decide +kernel
theorem d_X5_readName_42 : decode M_X5_readName.2.1 42 = .ok (.getfield 25, 3) := by decide +kernel
theorem d_X5_readName_45 : decode M_X5_readName.2.1 45 = .ok (.getfield 115, 3) := by decide +kernel
theorem d_X5_readName_48 : decode M_X5_readName.2.1 48 = .ok (.if_icmp .ge 32, 3) := by decide +kernel
theorem d_X5_readName_51 : decode M_X5_readName.2.1 51 = .ok (.aload_n 0, 1) := by decide +kernel
theorem d_X5_readName_52 : decode M_X5_readName.2.1 52 = .ok (.getfield 9, 3) := by decide +kernel
theorem d_X5_readName_55 : decode M_X5_readName.2.1 55 = .ok (.iload_n 1, 1) := by decide +kernel
theorem d_X5_readName_56 : decode M_X5_readName.2.1 56 = .ok (.laload, 1) := by decide +kernel
theorem d_X5_readName_57 : decode M_X5_readName.2.1 57 = .ok (.aload_n 0, 1) := by decide +kernel
theorem d_X5_readName_58 : decode M_X5_readName.2.1 58 = .ok (.getfield 21, 3) := by decide +kernel
theorem d_X5_readName_61 : decode M_X5_readName.2.1 61 = .ok (.getfield 167, 3) := by decide +kernel
theorem d_X5_readName_64 : decode M_X5_readName.2.1 64 = .ok (.lcmp, 1) := by decide +kernel
theorem d_X5_readName_65 : decode M_X5_readName.2.1 65 = .ok (.ifCond .ne 9, 3) := by decide +kernel
theorem d_X5_readName_68 : decode M_X5_readName.2.1 68 = .ok (.aload_n 0, 1) := by decide +kernel
theorem d_X5_readName_69 : decode M_X5_readName.2.1 69 = .ok (.iconst 3, 1) := by decide +kernel
theorem d_X5_readName_70 : decode M_X5_readName.2.1 70 = .ok (.invokevirtual 88, 3) := by decide +kernel
theorem d_X5_readName_73 : decode M_X5_readName.2.1 73 = .ok (.return_, 1) := by decide +kernel
theorem d_X5_readName_74 : decode M_X5_readName.2.1 74 = .ok (.iinc 1 1, 3) := by decide +kernel
theorem d_X5_readName_77 : decode M_X5_readName.2.1 77 = .ok (.goto (-37), 3) := by decide +kernel
theorem d_X5_readName_80 : decode M_X5_readName.2.1 80 = .ok (.aload_n 0, 1) := by decide +kernel
theorem d_X5_readName_81 : decode M_X5_readName.2.1 81 = .ok (.getfield 25, 3) := by decide +kernel
theorem d_X5_readName_84 : decode M_X5_readName.2.1 84 = .ok (.getfield 115, 3) := by decide +kernel
theorem d_X5_readName_87 : decode M_X5_readName.2.1 87 = .ok (.iconst 5, 1) := by decide +kernel
theorem d_X5_readName_88 : decode M_X5_readName.2.1 88 = .ok (.if_icmp .ge 22, 3) := by decide +kernel
theorem d_X5_readName_91 : decode M_X5_readName.2.1 91 = .ok (.aload_n 0, 1) := by decide +kernel
theorem d_X5_readName_92 : decode M_X5_readName.2.1 92 = .ok (.getfield 9, 3) := by decide +kernel
theorem d_X5_readName_95 : decode M_X5_readName.2.1 95 = .ok (.aload_n 0, 1) := by decide +kernel
theorem d_X5_readName_96 : decode M_X5_readName.2.1 96 = .ok (.getfield 25, 3) := by decide +kernel
theorem d_X5_readName_99 : decode M_X5_readName.2.1 99 = .ok (.getfield 115, 3) := by decide +kernel
theorem d_X5_readName_102 : decode M_X5_readName.2.1 102 = .ok (.aload_n 0, 1) := by decide +kernel
theorem d_X5_readName_103 : decode M_X5_readName.2.1 103 = .ok (.getfield 21, 3) := by decide +kernel
theorem d_X5_readName_106 : decode M_X5_readName.2.1 106 = .ok (.getfield 167, 3) := by decide +kernel
theorem d_X5_readName_109 : decode M_X5_readName.2.1 109 = .ok (.lastore, 1) := by decide +kernel
theorem d_X5_readName_110 : decode M_X5_readName.2.1 110 = .ok (.aload_n 0, 1) := by decide +kernel
theorem d_X5_readName_111 : decode M_X5_readName.2.1 111 = .ok (.getfield 21, 3) := by decide +kernel
theorem d_X5_readName_114 : decode M_X5_readName.2.1 114 = .ok (.invokevirtual 102, 3) := by decide +kernel
theorem d_X5_readName_117 : decode M_X5_readName.2.1 117 = .ok (.return_, 1) := by decide +kernel
set_option maxRecDepth 20000 in
theorem s_X5_readName_0 {d : Nat}  {G : Mem} {Q : Int → Mem → Prop}  (h : (InR (G 3 4)) ∧ (((G 3 4) = 0) → ((G 3 2) = 1) ∧ ((InR (G 1 3)) ∧ (((G 1 3) ≠ 2) → Rn (d + 1) M_X5_readName zN 32 [(0, (2, 3))] [] G Q) ∧ (¬ ((G 1 3) ≠ 2) → Ct d M_X10_reserved NT 0 0 (some lay) [(0, (G 1 4))] G (fun r7 G6 => (InR r7) ∧ ((r7 = 0) → Rn (d + 1) M_X5_readName zN 40 [(0, (2, 3)), (1, (0, 0))] [] G6 Q) ∧ (¬ (r7 = 0) → Rn (d + 1) M_X5_readName zN 32 [(0, (2, 3))] [] G6 Q))))) ∧ (¬ ((G 3 4) = 0) → Q 0 G)) : Rn (d + 1) M_X5_readName zN 0 [(0, (2, 3))] [] G Q := by
  refine r_aload_n d_X5_readName_0 0 rfl rfl ?_
  refine r_getI 5 4 4 rfl d_X5_readName_1 fl_X5_34 (by decide) (bs_ob bs_5) ?_
  obtain ⟨h1, h⟩ := h
  refine r_if_eq (tgt := 8) d_X5_readName_4 (by decide) h1 (fun c2 => ?_) (fun c2 => ?_)
  · replace h := h.1 c2
    refine r_aload_n d_X5_readName_8 0 rfl rfl ?_
    obtain ⟨h3, h⟩ := h
    refine r_getM 5 2 2 rfl d_X5_readName_9 fl_X5_21 (by decide) (bs_ob bs_5) h3 (by decide) ?_
    refine r_getI 10 3 3 rfl d_X5_readName_12 fl_X5_50 (by decide) (bs_ob bs_10) ?_
    refine r_iconst d_X5_readName_15 ?_
    obtain ⟨h4, h⟩ := h
    refine r_icmp_ne (tgt := 32) d_X5_readName_16 (by decide) h4 ⟨by decide, by decide⟩ (fun c5 => ?_) (fun c5 => ?_)
    · replace h := h.1 c5
      exact h
    · replace h := h.2 c5
      refine r_aload_n d_X5_readName_19 0 rfl rfl ?_
      refine r_getM 5 2 2 rfl d_X5_readName_20 fl_X5_21 (by decide) (bs_ob bs_5) h3 (by decide) ?_
      refine r_getI 10 4 4 rfl d_X5_readName_23 fl_X5_53 (by decide) (bs_ob bs_10) ?_
      refine r_callS0 (M' := M_X10_reserved) [(0, (G 1 4))] d_X5_readName_26 cl_X5_163 rfl (Nat.le_of_ble_eq_true rfl) ?_
      refine Ct.mono h (fun r7 G6 h => ?_)
      show Rn _ M_X5_readName zN 29 [(0, (2, 3))] [(0, r7)] G6 Q
      obtain ⟨h8, h⟩ := h
      refine r_if_eq (tgt := 38) d_X5_readName_29 (by decide) h8 (fun c9 => ?_) (fun c9 => ?_)
      · replace h := h.1 c9
        refine r_iconst d_X5_readName_38 ?_
        refine r_istore_n (ls1 := [(1, (0, 0)), (0, (2, 3))]) d_X5_readName_39 rfl (by decide) rfl ?_
        exact Rn.sub [1, 0] rfl h
      · replace h := h.2 c9
        exact h
  · replace h := h.2 c2
    exact r_ret d_X5_readName_7 rfl ⟨rfl, Nat.le_refl _, Nat.le_refl _⟩ h
set_option maxRecDepth 20000 in
theorem s_X5_readName_32 {d : Nat}  {G : Mem} {Q : Int → Mem → Prop}  (h : Ct d M_X5_wrong NT 0 0 (some lay) [(2, 3), (0, 1)] G (fun r2 G1 => Q 0 G1)) : Rn (d + 1) M_X5_readName zN 32 [(0, (2, 3))] [] G Q := by
  refine r_aload_n d_X5_readName_32 0 rfl rfl ?_
  refine r_iconst d_X5_readName_33 ?_
  refine r_callV0 (M' := M_X5_wrong) (ci := 5) [(0, 1)] d_X5_readName_34 cl_X5_88 rfl (Nat.le_of_ble_eq_true rfl) (by decide) rfl (bs_ob bs_5) ?_
  refine Ct.mono h (fun r2 G1 h => ?_)
  show Rn _ M_X5_readName zN 37 [(0, (2, 3))] [] G1 Q
  exact r_ret d_X5_readName_37 rfl ⟨rfl, Nat.le_refl _, Nat.le_refl _⟩ h
set_option maxRecDepth 20000 in
theorem s_X5_readName_40 {d : Nat} {x1 : Int} {G : Mem} {Q : Int → Mem → Prop}  (h : ∀ b1 : Int, b1 = (G 3 3) → (Bs 1 b1 ∧ (InR x1) ∧ (InR (G b1 8)) ∧ (((G b1 8) ≤ x1) → ∀ b7 : Int, b7 = (G 3 3) → (Bs 1 b7 ∧ (InR (G b7 8)) ∧ ((5 ≤ (G b7 8)) → Rn (d + 1) M_X5_readName zN 110 [(0, (2, 3))] [] G Q) ∧ (¬ (5 ≤ (G b7 8)) → ∀ b12 : Int, b12 = (G 3 3) → (Bs 1 b12 ∧ ((G 3 2) = 1) ∧ ((0 ≤ (G b12 8) ∧ (G b12 8) < 5) ∧ (∀ G17 : Mem, G17 = st G 4 (G b12 8) (G 1 5) → Rn (d + 1) M_X5_readName zN 110 [(0, (2, 3))] [] G17 Q)))))) ∧ (¬ ((G b1 8) ≤ x1) → (0 ≤ x1 ∧ x1 < 5) ∧ (((G 3 2) = 1) ∧ ((InL (G 4 x1)) ∧ (InL (G 1 5)) ∧ (((G 4 x1) ≠ (G 1 5)) → Rn (d + 1) M_X5_readName zN 40 [(0, (2, 3)), (1, (0, (x1 + 1)))] [] G Q) ∧ (¬ ((G 4 x1) ≠ (G 1 5)) → Ct d M_X5_wrong NT 0 0 (some lay) [(2, 3), (0, 3)] G (fun r24 G23 => Q 0 G23))))))) : Rn (d + 1) M_X5_readName zN 40 [(0, (2, 3)), (1, (0, x1))] [] G Q := by
  refine r_iload_n d_X5_readName_40 1 rfl rfl ?_
  refine r_aload_n d_X5_readName_41 0 rfl rfl ?_
  obtain ⟨b1, e3⟩ : ∃ y : Int, y = (G 3 3) := ⟨_, rfl⟩
  replace h := h b1 e3
  obtain ⟨h2, h⟩ := h
  refine r_getM 5 3 3 rfl d_X5_readName_42 fl_X5_25 (by decide) (bs_ob bs_5) e3.symm (bs_nn h2) ?_
  refine r_getI 1 8 8 rfl d_X5_readName_45 fl_X5_115 (by decide) (bs_ob h2) ?_
  obtain ⟨h4, h⟩ := h
  obtain ⟨h5, h⟩ := h
  refine r_icmp_ge (tgt := 80) d_X5_readName_48 (by decide) h4 h5 (fun c6 => ?_) (fun c6 => ?_)
  · replace h := h.1 c6
    refine r_aload_n d_X5_readName_80 0 rfl rfl ?_
    obtain ⟨b7, e9⟩ : ∃ y : Int, y = (G 3 3) := ⟨_, rfl⟩
    replace h := h b7 e9
    obtain ⟨h8, h⟩ := h
    refine r_getM 5 3 3 rfl d_X5_readName_81 fl_X5_25 (by decide) (bs_ob bs_5) e9.symm (bs_nn h8) ?_
    refine r_getI 1 8 8 rfl d_X5_readName_84 fl_X5_115 (by decide) (bs_ob h8) ?_
    refine r_iconst d_X5_readName_87 ?_
    obtain ⟨h10, h⟩ := h
    refine r_icmp_ge (tgt := 110) d_X5_readName_88 (by decide) h10 ⟨by decide, by decide⟩ (fun c11 => ?_) (fun c11 => ?_)
    · replace h := h.1 c11
      exact Rn.sub [0] rfl h
    · replace h := h.2 c11
      refine r_aload_n d_X5_readName_91 0 rfl rfl ?_
      refine r_getL (v := 4) 5 0 0 rfl d_X5_readName_92 fl_X5_9 (by decide) (bs_ob bs_5) (ly_5_0 bs_5).1 (ly_5_0 bs_5).2.1 ?_
      refine r_aload_n d_X5_readName_95 0 rfl rfl ?_
      obtain ⟨b12, e14⟩ : ∃ y : Int, y = (G 3 3) := ⟨_, rfl⟩
      replace h := h b12 e14
      obtain ⟨h13, h⟩ := h
      refine r_getM 5 3 3 rfl d_X5_readName_96 fl_X5_25 (by decide) (bs_ob bs_5) e14.symm (bs_nn h13) ?_
      refine r_getI 1 8 8 rfl d_X5_readName_99 fl_X5_115 (by decide) (bs_ob h13) ?_
      refine r_aload_n d_X5_readName_102 0 rfl rfl ?_
      obtain ⟨h15, h⟩ := h
      refine r_getM 5 2 2 rfl d_X5_readName_103 fl_X5_21 (by decide) (bs_ob bs_5) h15 (by decide) ?_
      refine r_getJ 10 5 5 rfl d_X5_readName_106 fl_X5_167 (by decide) (bs_ob bs_10) ?_
      obtain ⟨h16, h⟩ := h
      obtain ⟨G17, eG17⟩ : ∃ y : Mem, y = st G 4 (G b12 8) (G 1 5) := ⟨_, rfl⟩
      replace h := h G17 eG17
      refine r_lastore d_X5_readName_109 (ly_5_0 bs_5).2.2 h16 ?_
      rw [← eG17]
      exact Rn.sub [0] rfl h
  · replace h := h.2 c6
    refine r_aload_n d_X5_readName_51 0 rfl rfl ?_
    refine r_getL (v := 4) 5 0 0 rfl d_X5_readName_52 fl_X5_9 (by decide) (bs_ob bs_5) (ly_5_0 bs_5).1 (ly_5_0 bs_5).2.1 ?_
    refine r_iload_n d_X5_readName_55 1 rfl rfl ?_
    obtain ⟨h18, h⟩ := h
    refine r_laload d_X5_readName_56 (ly_5_0 bs_5).2.2 h18 ?_
    refine r_aload_n d_X5_readName_57 0 rfl rfl ?_
    obtain ⟨h19, h⟩ := h
    refine r_getM 5 2 2 rfl d_X5_readName_58 fl_X5_21 (by decide) (bs_ob bs_5) h19 (by decide) ?_
    refine r_getJ 10 5 5 rfl d_X5_readName_61 fl_X5_167 (by decide) (bs_ob bs_10) ?_
    obtain ⟨h20, h⟩ := h
    obtain ⟨h21, h⟩ := h
    refine r_lcmp_ne (tgt := 74) d_X5_readName_64 d_X5_readName_65 (by decide) h20 h21 (fun c22 => ?_) (fun c22 => ?_)
    · replace h := h.1 c22
      refine r_iinc (ls1 := [(1, (0, (x1 + 1))), (0, (2, 3))]) d_X5_readName_74 1 rfl (by decide) rfl ?_
      refine r_goto (tgt := 40) d_X5_readName_77 (by decide) ?_
      exact Rn.sub [1, 0] rfl h
    · replace h := h.2 c22
      refine r_aload_n d_X5_readName_68 0 rfl rfl ?_
      refine r_iconst d_X5_readName_69 ?_
      refine r_callV0 (M' := M_X5_wrong) (ci := 5) [(0, 3)] d_X5_readName_70 cl_X5_88 rfl (Nat.le_of_ble_eq_true rfl) (by decide) rfl (bs_ob bs_5) ?_
      refine Ct.mono h (fun r24 G23 h => ?_)
      show Rn _ M_X5_readName zN 73 [(0, (2, 3)), (1, (0, x1))] [] G23 Q
      exact r_ret d_X5_readName_73 rfl ⟨rfl, Nat.le_refl _, Nat.le_refl _⟩ h
set_option maxRecDepth 20000 in
theorem s_X5_readName_110 {d : Nat}  {G : Mem} {Q : Int → Mem → Prop}  (h : ((G 3 2) = 1) ∧ (Ct d M_X10_step NT 0 0 (some lay) [(2, 1)] G (fun r3 G2 => Q 0 G2))) : Rn (d + 1) M_X5_readName zN 110 [(0, (2, 3))] [] G Q := by
  refine r_aload_n d_X5_readName_110 0 rfl rfl ?_
  obtain ⟨h1, h⟩ := h
  refine r_getM 5 2 2 rfl d_X5_readName_111 fl_X5_21 (by decide) (bs_ob bs_5) h1 (by decide) ?_
  refine r_callV0 (M' := M_X10_step) (ci := 10) [] d_X5_readName_114 cl_X5_102 rfl (Nat.le_of_ble_eq_true rfl) (by decide) rfl (bs_ob bs_10) ?_
  refine Ct.mono h (fun r3 G2 h => ?_)
  show Rn _ M_X5_readName zN 117 [(0, (2, 3))] [] G2 Q
  exact r_ret d_X5_readName_117 rfl ⟨rfl, Nat.le_refl _, Nat.le_refl _⟩ h
theorem d_X5_readKind_0 : decode M_X5_readKind.2.1 0 = .ok (.aload_n 0, 1) := by decide +kernel
theorem d_X5_readKind_1 : decode M_X5_readKind.2.1 1 = .ok (.getfield 34, 3) := by decide +kernel
theorem d_X5_readKind_4 : decode M_X5_readKind.2.1 4 = .ok (.ifCond .eq 4, 3) := by decide +kernel
theorem d_X5_readKind_7 : decode M_X5_readKind.2.1 7 = .ok (.return_, 1) := by decide +kernel
theorem d_X5_readKind_8 : decode M_X5_readKind.2.1 8 = .ok (.aload_n 0, 1) := by decide +kernel
theorem d_X5_readKind_9 : decode M_X5_readKind.2.1 9 = .ok (.getfield 21, 3) := by decide +kernel
theorem d_X5_readKind_12 : decode M_X5_readKind.2.1 12 = .ok (.getfield 50, 3) := by decide +kernel
theorem d_X5_readKind_15 : decode M_X5_readKind.2.1 15 = .ok (.iconst 2, 1) := by decide +kernel
theorem d_X5_readKind_16 : decode M_X5_readKind.2.1 16 = .ok (.if_icmp .ne 27, 3) := by decide +kernel
theorem d_X5_readKind_19 : decode M_X5_readKind.2.1 19 = .ok (.aload_n 0, 1) := by decide +kernel
theorem d_X5_readKind_20 : decode M_X5_readKind.2.1 20 = .ok (.getfield 21, 3) := by decide +kernel
theorem d_X5_readKind_23 : decode M_X5_readKind.2.1 23 = .ok (.getfield 53, 3) := by decide +kernel
theorem d_X5_readKind_26 : decode M_X5_readKind.2.1 26 = .ok (.bipush 16, 2) := by decide +kernel
theorem d_X5_readKind_28 : decode M_X5_readKind.2.1 28 = .ok (.if_icmp .lt 15, 3) := by decide +kernel
theorem d_X5_readKind_31 : decode M_X5_readKind.2.1 31 = .ok (.aload_n 0, 1) := by decide +kernel
theorem d_X5_readKind_32 : decode M_X5_readKind.2.1 32 = .ok (.getfield 21, 3) := by decide +kernel
theorem d_X5_readKind_35 : decode M_X5_readKind.2.1 35 = .ok (.getfield 53, 3) := by decide +kernel
theorem d_X5_readKind_38 : decode M_X5_readKind.2.1 38 = .ok (.bipush 20, 2) := by decide +kernel
theorem d_X5_readKind_40 : decode M_X5_readKind.2.1 40 = .ok (.if_icmp .le 9, 3) := by decide +kernel
theorem d_X5_readKind_43 : decode M_X5_readKind.2.1 43 = .ok (.aload_n 0, 1) := by decide +kernel
theorem d_X5_readKind_44 : decode M_X5_readKind.2.1 44 = .ok (.iconst 1, 1) := by decide +kernel
theorem d_X5_readKind_45 : decode M_X5_readKind.2.1 45 = .ok (.invokevirtual 88, 3) := by decide +kernel
theorem d_X5_readKind_48 : decode M_X5_readKind.2.1 48 = .ok (.return_, 1) := by decide +kernel
theorem d_X5_readKind_49 : decode M_X5_readKind.2.1 49 = .ok (.aload_n 1, 1) := by decide +kernel
theorem d_X5_readKind_50 : decode M_X5_readKind.2.1 50 = .ok (.aload_n 0, 1) := by decide +kernel
theorem d_X5_readKind_51 : decode M_X5_readKind.2.1 51 = .ok (.getfield 21, 3) := by decide +kernel
theorem d_X5_readKind_54 : decode M_X5_readKind.2.1 54 = .ok (.getfield 53, 3) := by decide +kernel
theorem d_X5_readKind_57 : decode M_X5_readKind.2.1 57 = .ok (.bipush 16, 2) := by decide +kernel
theorem d_X5_readKind_59 : decode M_X5_readKind.2.1 59 = .ok (.isub, 1) := by decide +kernel
theorem d_X5_readKind_60 : decode M_X5_readKind.2.1 60 = .ok (.putfield 171, 3) := by decide +kernel
theorem d_X5_readKind_63 : decode M_X5_readKind.2.1 63 = .ok (.aload_n 0, 1) := by decide +kernel
theorem d_X5_readKind_64 : decode M_X5_readKind.2.1 64 = .ok (.getfield 21, 3) := by decide +kernel
theorem d_X5_readKind_67 : decode M_X5_readKind.2.1 67 = .ok (.invokevirtual 102, 3) := by decide +kernel
theorem d_X5_readKind_70 : decode M_X5_readKind.2.1 70 = .ok (.return_, 1) := by decide +kernel
set_option maxRecDepth 20000 in
theorem s_X5_readKind_0 {d : Nat} {p0 : Int} {G : Mem} {Q : Int → Mem → Prop} (bp0 : Bs 7 p0) (h : (InR (G 3 4)) ∧ (((G 3 4) = 0) → ((G 3 2) = 1) ∧ ((InR (G 1 3)) ∧ (((G 1 3) ≠ 2) → Rn (d + 1) M_X5_readKind zN 43 [(0, (2, 3))] [] G Q) ∧ (¬ ((G 1 3) ≠ 2) → (InR (G 1 4)) ∧ (((G 1 4) < 16) → Rn (d + 1) M_X5_readKind zN 43 [(0, (2, 3))] [] G Q) ∧ (¬ ((G 1 4) < 16) → (((G 1 4) ≤ 20) → (∀ G9 : Mem, G9 = st G p0 0 ((G 1 4) - 16) → ((G9 3 2) = 1) ∧ (Ct d M_X10_step NT 0 0 (some lay) [(2, 1)] G9 (fun r12 G11 => Q 0 G11)))) ∧ (¬ ((G 1 4) ≤ 20) → Rn (d + 1) M_X5_readKind zN 43 [(0, (2, 3))] [] G Q))))) ∧ (¬ ((G 3 4) = 0) → Q 0 G)) : Rn (d + 1) M_X5_readKind zN 0 [(0, (2, 3)), (1, (2, p0))] [] G Q := by
  refine r_aload_n d_X5_readKind_0 0 rfl rfl ?_
  refine r_getI 5 4 4 rfl d_X5_readKind_1 fl_X5_34 (by decide) (bs_ob bs_5) ?_
  obtain ⟨h1, h⟩ := h
  refine r_if_eq (tgt := 8) d_X5_readKind_4 (by decide) h1 (fun c2 => ?_) (fun c2 => ?_)
  · replace h := h.1 c2
    refine r_aload_n d_X5_readKind_8 0 rfl rfl ?_
    obtain ⟨h3, h⟩ := h
    refine r_getM 5 2 2 rfl d_X5_readKind_9 fl_X5_21 (by decide) (bs_ob bs_5) h3 (by decide) ?_
    refine r_getI 10 3 3 rfl d_X5_readKind_12 fl_X5_50 (by decide) (bs_ob bs_10) ?_
    refine r_iconst d_X5_readKind_15 ?_
    obtain ⟨h4, h⟩ := h
    refine r_icmp_ne (tgt := 43) d_X5_readKind_16 (by decide) h4 ⟨by decide, by decide⟩ (fun c5 => ?_) (fun c5 => ?_)
    · replace h := h.1 c5
      exact Rn.sub [0] rfl h
    · replace h := h.2 c5
      refine r_aload_n d_X5_readKind_19 0 rfl rfl ?_
      refine r_getM 5 2 2 rfl d_X5_readKind_20 fl_X5_21 (by decide) (bs_ob bs_5) h3 (by decide) ?_
      refine r_getI 10 4 4 rfl d_X5_readKind_23 fl_X5_53 (by decide) (bs_ob bs_10) ?_
      refine r_bipush d_X5_readKind_26 (by decide +kernel) ?_
      obtain ⟨h6, h⟩ := h
      refine r_icmp_lt (tgt := 43) d_X5_readKind_28 (by decide) h6 ⟨by decide, by decide⟩ (fun c7 => ?_) (fun c7 => ?_)
      · replace h := h.1 c7
        exact Rn.sub [0] rfl h
      · replace h := h.2 c7
        refine r_aload_n d_X5_readKind_31 0 rfl rfl ?_
        refine r_getM 5 2 2 rfl d_X5_readKind_32 fl_X5_21 (by decide) (bs_ob bs_5) h3 (by decide) ?_
        refine r_getI 10 4 4 rfl d_X5_readKind_35 fl_X5_53 (by decide) (bs_ob bs_10) ?_
        refine r_bipush d_X5_readKind_38 (by decide +kernel) ?_
        refine r_icmp_le (tgt := 49) d_X5_readKind_40 (by decide) h6 ⟨by decide, by decide⟩ (fun c8 => ?_) (fun c8 => ?_)
        · replace h := h.1 c8
          refine r_aload_n d_X5_readKind_49 1 rfl rfl ?_
          refine r_aload_n d_X5_readKind_50 0 rfl rfl ?_
          refine r_getM 5 2 2 rfl d_X5_readKind_51 fl_X5_21 (by decide) (bs_ob bs_5) h3 (by decide) ?_
          refine r_getI 10 4 4 rfl d_X5_readKind_54 fl_X5_53 (by decide) (bs_ob bs_10) ?_
          refine r_bipush d_X5_readKind_57 (by decide +kernel) ?_
          refine r_isub d_X5_readKind_59 ?_
          obtain ⟨G9, eG9⟩ : ∃ y : Mem, y = st G p0 0 ((G 1 4) - 16) := ⟨_, rfl⟩
          replace h := h G9 eG9
          refine r_putI 7 0 0 rfl d_X5_readKind_60 fl_X5_171 (by decide) nofin_7_0 (bs_ob bp0) ?_
          rw [← eG9]
          refine r_aload_n d_X5_readKind_63 0 rfl rfl ?_
          obtain ⟨h10, h⟩ := h
          refine r_getM 5 2 2 rfl d_X5_readKind_64 fl_X5_21 (by decide) (bs_ob bs_5) h10 (by decide) ?_
          refine r_callV0 (M' := M_X10_step) (ci := 10) [] d_X5_readKind_67 cl_X5_102 rfl (Nat.le_of_ble_eq_true rfl) (by decide) rfl (bs_ob bs_10) ?_
          refine Ct.mono h (fun r12 G11 h => ?_)
          show Rn _ M_X5_readKind zN 70 [(0, (2, 3)), (1, (2, p0))] [] G11 Q
          exact r_ret d_X5_readKind_70 rfl ⟨rfl, Nat.le_refl _, Nat.le_refl _⟩ h
        · replace h := h.2 c8
          exact Rn.sub [0] rfl h
  · replace h := h.2 c2
    exact r_ret d_X5_readKind_7 rfl ⟨rfl, Nat.le_refl _, Nat.le_refl _⟩ h
set_option maxRecDepth 20000 in
theorem s_X5_readKind_43 {d : Nat}  {G : Mem} {Q : Int → Mem → Prop}  (h : Ct d M_X5_wrong NT 0 0 (some lay) [(2, 3), (0, 1)] G (fun r2 G1 => Q 0 G1)) : Rn (d + 1) M_X5_readKind zN 43 [(0, (2, 3))] [] G Q := by
  refine r_aload_n d_X5_readKind_43 0 rfl rfl ?_
  refine r_iconst d_X5_readKind_44 ?_
  refine r_callV0 (M' := M_X5_wrong) (ci := 5) [(0, 1)] d_X5_readKind_45 cl_X5_88 rfl (Nat.le_of_ble_eq_true rfl) (by decide) rfl (bs_ob bs_5) ?_
  refine Ct.mono h (fun r2 G1 h => ?_)
  show Rn _ M_X5_readKind zN 48 [(0, (2, 3))] [] G1 Q
  exact r_ret d_X5_readKind_48 rfl ⟨rfl, Nat.le_refl _, Nat.le_refl _⟩ h
theorem d_X5_readSeat_0 : decode M_X5_readSeat.2.1 0 = .ok (.aload_n 0, 1) := by decide +kernel
theorem d_X5_readSeat_1 : decode M_X5_readSeat.2.1 1 = .ok (.getfield 34, 3) := by decide +kernel
theorem d_X5_readSeat_4 : decode M_X5_readSeat.2.1 4 = .ok (.ifCond .ne 95, 3) := by decide +kernel
theorem d_X5_readSeat_7 : decode M_X5_readSeat.2.1 7 = .ok (.aload_n 0, 1) := by decide +kernel
theorem d_X5_readSeat_8 : decode M_X5_readSeat.2.1 8 = .ok (.getfield 21, 3) := by decide +kernel
theorem d_X5_readSeat_11 : decode M_X5_readSeat.2.1 11 = .ok (.getfield 50, 3) := by decide +kernel
theorem d_X5_readSeat_14 : decode M_X5_readSeat.2.1 14 = .ok (.iconst 3, 1) := by decide +kernel
theorem d_X5_readSeat_15 : decode M_X5_readSeat.2.1 15 = .ok (.if_icmp .ne 84, 3) := by decide +kernel
theorem d_X5_readSeat_18 : decode M_X5_readSeat.2.1 18 = .ok (.aload_n 0, 1) := by decide +kernel
theorem d_X5_readSeat_19 : decode M_X5_readSeat.2.1 19 = .ok (.getfield 21, 3) := by decide +kernel
theorem d_X5_readSeat_22 : decode M_X5_readSeat.2.1 22 = .ok (.getfield 53, 3) := by decide +kernel
theorem d_X5_readSeat_25 : decode M_X5_readSeat.2.1 25 = .ok (.aload_n 0, 1) := by decide +kernel
theorem d_X5_readSeat_26 : decode M_X5_readSeat.2.1 26 = .ok (.getfield 25, 3) := by decide +kernel
theorem d_X5_readSeat_29 : decode M_X5_readSeat.2.1 29 = .ok (.getfield 105, 3) := by decide +kernel
theorem d_X5_readSeat_32 : decode M_X5_readSeat.2.1 32 = .ok (.if_icmp .ge 67, 3) := by decide +kernel
theorem d_X5_readSeat_35 : decode M_X5_readSeat.2.1 35 = .ok (.iload_n 1, 1) := by decide +kernel
theorem d_X5_readSeat_36 : decode M_X5_readSeat.2.1 36 = .ok (.ifCond .eq 29, 3) := by decide +kernel
theorem d_X5_readSeat_39 : decode M_X5_readSeat.2.1 39 = .ok (.aload_n 0, 1) := by decide +kernel
theorem d_X5_readSeat_40 : decode M_X5_readSeat.2.1 40 = .ok (.getfield 25, 3) := by decide +kernel
theorem d_X5_readSeat_43 : decode M_X5_readSeat.2.1 43 = .ok (.getfield 172, 3) := by decide +kernel
theorem d_X5_readSeat_46 : decode M_X5_readSeat.2.1 46 = .ok (.aload_n 0, 1) := by decide +kernel
theorem d_X5_readSeat_47 : decode M_X5_readSeat.2.1 47 = .ok (.getfield 21, 3) := by decide +kernel
theorem d_X5_readSeat_50 : decode M_X5_readSeat.2.1 50 = .ok (.getfield 53, 3) := by decide +kernel
theorem d_X5_readSeat_53 : decode M_X5_readSeat.2.1 53 = .ok (.iaload, 1) := by decide +kernel
theorem d_X5_readSeat_54 : decode M_X5_readSeat.2.1 54 = .ok (.ifCond .eq 7, 3) := by decide +kernel
theorem d_X5_readSeat_57 : decode M_X5_readSeat.2.1 57 = .ok (.iconst 1, 1) := by decide +kernel
theorem d_X5_readSeat_58 : decode M_X5_readSeat.2.1 58 = .ok (.goto 31, 3) := by decide +kernel
theorem d_X5_readSeat_61 : decode M_X5_readSeat.2.1 61 = .ok (.iconst 0, 1) := by decide +kernel
theorem d_X5_readSeat_62 : decode M_X5_readSeat.2.1 62 = .ok (.goto 27, 3) := by decide +kernel
theorem d_X5_readSeat_65 : decode M_X5_readSeat.2.1 65 = .ok (.aload_n 0, 1) := by decide +kernel
theorem d_X5_readSeat_66 : decode M_X5_readSeat.2.1 66 = .ok (.getfield 25, 3) := by decide +kernel
theorem d_X5_readSeat_69 : decode M_X5_readSeat.2.1 69 = .ok (.getfield 160, 3) := by decide +kernel
theorem d_X5_readSeat_72 : decode M_X5_readSeat.2.1 72 = .ok (.aload_n 0, 1) := by decide +kernel
theorem d_X5_readSeat_73 : decode M_X5_readSeat.2.1 73 = .ok (.getfield 21, 3) := by decide +kernel
theorem d_X5_readSeat_76 : decode M_X5_readSeat.2.1 76 = .ok (.getfield 53, 3) := by decide +kernel
theorem d_X5_readSeat_79 : decode M_X5_readSeat.2.1 79 = .ok (.iaload, 1) := by decide +kernel
theorem d_X5_readSeat_80 : decode M_X5_readSeat.2.1 80 = .ok (.iconst (-1), 1) := by decide +kernel
theorem d_X5_readSeat_81 : decode M_X5_readSeat.2.1 81 = .ok (.if_icmp .eq 7, 3) := by decide +kernel
theorem d_X5_readSeat_84 : decode M_X5_readSeat.2.1 84 = .ok (.iconst 1, 1) := by decide +kernel
theorem d_X5_readSeat_85 : decode M_X5_readSeat.2.1 85 = .ok (.goto 4, 3) := by decide +kernel
theorem d_X5_readSeat_88 : decode M_X5_readSeat.2.1 88 = .ok (.iconst 0, 1) := by decide +kernel
theorem d_X5_readSeat_89 : decode M_X5_readSeat.2.1 89 = .ok (.istore_n 2, 1) := by decide +kernel
theorem d_X5_readSeat_90 : decode M_X5_readSeat.2.1 90 = .ok (.iload_n 2, 1) := by decide +kernel
theorem d_X5_readSeat_91 : decode M_X5_readSeat.2.1 91 = .ok (.ifCond .eq 8, 3) := by decide +kernel
theorem d_X5_readSeat_94 : decode M_X5_readSeat.2.1 94 = .ok (.aload_n 0, 1) := by decide +kernel
theorem d_X5_readSeat_95 : decode M_X5_readSeat.2.1 95 = .ok (.iconst 3, 1) := by decide +kernel
theorem d_X5_readSeat_96 : decode M_X5_readSeat.2.1 96 = .ok (.invokevirtual 88, 3) := by decide +kernel
theorem d_X5_readSeat_99 : decode M_X5_readSeat.2.1 99 = .ok (.aload_n 0, 1) := by decide +kernel
theorem d_X5_readSeat_100 : decode M_X5_readSeat.2.1 100 = .ok (.iconst 0, 1) := by decide +kernel
theorem d_X5_readSeat_101 : decode M_X5_readSeat.2.1 101 = .ok (.aload_n 0, 1) := by decide +kernel
theorem d_X5_readSeat_102 : decode M_X5_readSeat.2.1 102 = .ok (.getfield 25, 3) := by decide +kernel
theorem d_X5_readSeat_105 : decode M_X5_readSeat.2.1 105 = .ok (.getfield 105, 3) := by decide +kernel
theorem d_X5_readSeat_108 : decode M_X5_readSeat.2.1 108 = .ok (.iconst 1, 1) := by decide +kernel
theorem d_X5_readSeat_109 : decode M_X5_readSeat.2.1 109 = .ok (.isub, 1) := by decide +kernel
theorem d_X5_readSeat_110 : decode M_X5_readSeat.2.1 110 = .ok (.invokevirtual 72, 3) := by decide +kernel
theorem d_X5_readSeat_113 : decode M_X5_readSeat.2.1 113 = .ok (.ireturn, 1) := by decide +kernel
set_option maxRecDepth 20000 in
theorem s_X5_readSeat_0 {d : Nat} {p0 : Int} {G : Mem} {Q : Int → Mem → Prop}  (h : (InR (G 3 4)) ∧ (((G 3 4) ≠ 0) → Rn d M_X5_readSeat zN 99 [(0, (2, 3))] [] G Q) ∧ (¬ ((G 3 4) ≠ 0) → ((G 3 2) = 1) ∧ ((InR (G 1 3)) ∧ (((G 1 3) ≠ 3) → Rn d M_X5_readSeat zN 99 [(0, (2, 3))] [] G Q) ∧ (¬ ((G 1 3) ≠ 3) → ∀ b6 : Int, b6 = (G 3 3) → (Bs 1 b6 ∧ (InR (G 1 4)) ∧ (InR (G b6 6)) ∧ (((G b6 6) ≤ (G 1 4)) → Rn d M_X5_readSeat zN 99 [(0, (2, 3))] [] G Q) ∧ (¬ ((G b6 6) ≤ (G 1 4)) → (InR p0) ∧ ((p0 = 0) → ∀ b14 : Int, b14 = (G 3 3) → (Bs 1 b14 ∧ (0 ≤ (G 1 4) ∧ (G 1 4) < 5) ∧ ((InR (G (b14 + 2) (G 1 4))) ∧ (((G (b14 + 2) (G 1 4)) = (-1)) → Rn d M_X5_readSeat zN 89 [(0, (2, 3))] [(0, 0)] G Q) ∧ (¬ ((G (b14 + 2) (G 1 4)) = (-1)) → Rn d M_X5_readSeat zN 89 [(0, (2, 3))] [(0, 1)] G Q)))) ∧ (¬ (p0 = 0) → ∀ b20 : Int, b20 = (G 3 3) → (Bs 1 b20 ∧ (0 ≤ (G 1 4) ∧ (G 1 4) < 5) ∧ ((InR (G (b20 + 3) (G 1 4))) ∧ (((G (b20 + 3) (G 1 4)) = 0) → Rn d M_X5_readSeat zN 89 [(0, (2, 3))] [(0, 0)] G Q) ∧ (¬ ((G (b20 + 3) (G 1 4)) = 0) → Rn d M_X5_readSeat zN 89 [(0, (2, 3))] [(0, 1)] G Q)))))))))) : Rn d M_X5_readSeat zN 0 [(0, (2, 3)), (1, (0, p0))] [] G Q := by
  refine r_aload_n d_X5_readSeat_0 0 rfl rfl ?_
  refine r_getI 5 4 4 rfl d_X5_readSeat_1 fl_X5_34 (by decide) (bs_ob bs_5) ?_
  obtain ⟨h1, h⟩ := h
  refine r_if_ne (tgt := 99) d_X5_readSeat_4 (by decide) h1 (fun c2 => ?_) (fun c2 => ?_)
  · replace h := h.1 c2
    exact Rn.sub [0] rfl h
  · replace h := h.2 c2
    refine r_aload_n d_X5_readSeat_7 0 rfl rfl ?_
    obtain ⟨h3, h⟩ := h
    refine r_getM 5 2 2 rfl d_X5_readSeat_8 fl_X5_21 (by decide) (bs_ob bs_5) h3 (by decide) ?_
    refine r_getI 10 3 3 rfl d_X5_readSeat_11 fl_X5_50 (by decide) (bs_ob bs_10) ?_
    refine r_iconst d_X5_readSeat_14 ?_
    obtain ⟨h4, h⟩ := h
    refine r_icmp_ne (tgt := 99) d_X5_readSeat_15 (by decide) h4 ⟨by decide, by decide⟩ (fun c5 => ?_) (fun c5 => ?_)
    · replace h := h.1 c5
      exact Rn.sub [0] rfl h
    · replace h := h.2 c5
      refine r_aload_n d_X5_readSeat_18 0 rfl rfl ?_
      refine r_getM 5 2 2 rfl d_X5_readSeat_19 fl_X5_21 (by decide) (bs_ob bs_5) h3 (by decide) ?_
      refine r_getI 10 4 4 rfl d_X5_readSeat_22 fl_X5_53 (by decide) (bs_ob bs_10) ?_
      refine r_aload_n d_X5_readSeat_25 0 rfl rfl ?_
      obtain ⟨b6, e8⟩ : ∃ y : Int, y = (G 3 3) := ⟨_, rfl⟩
      replace h := h b6 e8
      obtain ⟨h7, h⟩ := h
      refine r_getM 5 3 3 rfl d_X5_readSeat_26 fl_X5_25 (by decide) (bs_ob bs_5) e8.symm (bs_nn h7) ?_
      refine r_getI 1 6 6 rfl d_X5_readSeat_29 fl_X5_105 (by decide) (bs_ob h7) ?_
      obtain ⟨h9, h⟩ := h
      obtain ⟨h10, h⟩ := h
      refine r_icmp_ge (tgt := 99) d_X5_readSeat_32 (by decide) h9 h10 (fun c11 => ?_) (fun c11 => ?_)
      · replace h := h.1 c11
        exact Rn.sub [0] rfl h
      · replace h := h.2 c11
        refine r_iload_n d_X5_readSeat_35 1 rfl rfl ?_
        obtain ⟨h12, h⟩ := h
        refine r_if_eq (tgt := 65) d_X5_readSeat_36 (by decide) h12 (fun c13 => ?_) (fun c13 => ?_)
        · replace h := h.1 c13
          refine r_aload_n d_X5_readSeat_65 0 rfl rfl ?_
          obtain ⟨b14, e16⟩ : ∃ y : Int, y = (G 3 3) := ⟨_, rfl⟩
          replace h := h b14 e16
          obtain ⟨h15, h⟩ := h
          refine r_getM 5 3 3 rfl d_X5_readSeat_66 fl_X5_25 (by decide) (bs_ob bs_5) e16.symm (bs_nn h15) ?_
          refine r_getL (v := (b14 + 2)) 1 1 1 rfl d_X5_readSeat_69 fl_X5_160 (by decide) (bs_ob h15) (ly_1_1 h15).1 (ly_1_1 h15).2.1 ?_
          refine r_aload_n d_X5_readSeat_72 0 rfl rfl ?_
          refine r_getM 5 2 2 rfl d_X5_readSeat_73 fl_X5_21 (by decide) (bs_ob bs_5) h3 (by decide) ?_
          refine r_getI 10 4 4 rfl d_X5_readSeat_76 fl_X5_53 (by decide) (bs_ob bs_10) ?_
          obtain ⟨h17, h⟩ := h
          refine r_iaload d_X5_readSeat_79 (ly_1_1 h15).2.2 h17 ?_
          refine r_iconst d_X5_readSeat_80 ?_
          obtain ⟨h18, h⟩ := h
          refine r_icmp_eq (tgt := 88) d_X5_readSeat_81 (by decide) h18 ⟨by decide, by decide⟩ (fun c19 => ?_) (fun c19 => ?_)
          · replace h := h.1 c19
            refine r_iconst d_X5_readSeat_88 ?_
            exact Rn.sub [0] rfl h
          · replace h := h.2 c19
            refine r_iconst d_X5_readSeat_84 ?_
            refine r_goto (tgt := 89) d_X5_readSeat_85 (by decide) ?_
            exact Rn.sub [0] rfl h
        · replace h := h.2 c13
          refine r_aload_n d_X5_readSeat_39 0 rfl rfl ?_
          obtain ⟨b20, e22⟩ : ∃ y : Int, y = (G 3 3) := ⟨_, rfl⟩
          replace h := h b20 e22
          obtain ⟨h21, h⟩ := h
          refine r_getM 5 3 3 rfl d_X5_readSeat_40 fl_X5_25 (by decide) (bs_ob bs_5) e22.symm (bs_nn h21) ?_
          refine r_getL (v := (b20 + 3)) 1 2 2 rfl d_X5_readSeat_43 fl_X5_172 (by decide) (bs_ob h21) (ly_1_2 h21).1 (ly_1_2 h21).2.1 ?_
          refine r_aload_n d_X5_readSeat_46 0 rfl rfl ?_
          refine r_getM 5 2 2 rfl d_X5_readSeat_47 fl_X5_21 (by decide) (bs_ob bs_5) h3 (by decide) ?_
          refine r_getI 10 4 4 rfl d_X5_readSeat_50 fl_X5_53 (by decide) (bs_ob bs_10) ?_
          obtain ⟨h23, h⟩ := h
          refine r_iaload d_X5_readSeat_53 (ly_1_2 h21).2.2 h23 ?_
          obtain ⟨h24, h⟩ := h
          refine r_if_eq (tgt := 61) d_X5_readSeat_54 (by decide) h24 (fun c25 => ?_) (fun c25 => ?_)
          · replace h := h.1 c25
            refine r_iconst d_X5_readSeat_61 ?_
            refine r_goto (tgt := 89) d_X5_readSeat_62 (by decide) ?_
            exact Rn.sub [0] rfl h
          · replace h := h.2 c25
            refine r_iconst d_X5_readSeat_57 ?_
            refine r_goto (tgt := 89) d_X5_readSeat_58 (by decide) ?_
            exact Rn.sub [0] rfl h
set_option maxRecDepth 20000 in
theorem s_X5_readSeat_99 {d : Nat}  {G : Mem} {Q : Int → Mem → Prop}  (h : ∀ b1 : Int, b1 = (G 3 3) → (Bs 1 b1 ∧ Ct d M_X5_readNumber NT 0 0 (some lay) [(2, 3), (0, 0), (0, ((G b1 6) - 1))] G (fun r5 G4 => Q r5 G4))) : Rn (d + 1) M_X5_readSeat zN 99 [(0, (2, 3))] [] G Q := by
  refine r_aload_n d_X5_readSeat_99 0 rfl rfl ?_
  refine r_iconst d_X5_readSeat_100 ?_
  refine r_aload_n d_X5_readSeat_101 0 rfl rfl ?_
  obtain ⟨b1, e3⟩ : ∃ y : Int, y = (G 3 3) := ⟨_, rfl⟩
  replace h := h b1 e3
  obtain ⟨h2, h⟩ := h
  refine r_getM 5 3 3 rfl d_X5_readSeat_102 fl_X5_25 (by decide) (bs_ob bs_5) e3.symm (bs_nn h2) ?_
  refine r_getI 1 6 6 rfl d_X5_readSeat_105 fl_X5_105 (by decide) (bs_ob h2) ?_
  refine r_iconst d_X5_readSeat_108 ?_
  refine r_isub d_X5_readSeat_109 ?_
  refine r_callV0 (M' := M_X5_readNumber) (ci := 5) [(0, 0), (0, ((G b1 6) - 1))] d_X5_readSeat_110 cl_X5_72 rfl (Nat.le_of_ble_eq_true rfl) (by decide) rfl (bs_ob bs_5) ?_
  refine Ct.mono h (fun r5 G4 h => ?_)
  show Rn _ M_X5_readSeat zN 113 [(0, (2, 3))] [(0, r5)] G4 Q
  exact r_ireturn d_X5_readSeat_113 rfl ⟨rfl, Nat.le_refl _, Nat.le_refl _⟩ h
set_option maxRecDepth 20000 in
theorem s_X5_readSeat_89 {d : Nat} {s0 : Int} {G : Mem} {Q : Int → Mem → Prop}  (h : (InR s0) ∧ ((s0 = 0) → Rn (d + 1) M_X5_readSeat zN 99 [(0, (2, 3))] [] G Q) ∧ (¬ (s0 = 0) → Ct d M_X5_wrong NT 0 0 (some lay) [(2, 3), (0, 3)] G (fun r4 G3 => Rn (d + 1) M_X5_readSeat zN 99 [(0, (2, 3))] [] G3 Q))) : Rn (d + 1) M_X5_readSeat zN 89 [(0, (2, 3))] [(0, s0)] G Q := by
  refine r_istore_n (ls1 := [(2, (0, s0)), (0, (2, 3))]) d_X5_readSeat_89 rfl (by decide) rfl ?_
  refine r_iload_n d_X5_readSeat_90 0 rfl rfl ?_
  obtain ⟨h1, h⟩ := h
  refine r_if_eq (tgt := 99) d_X5_readSeat_91 (by decide) h1 (fun c2 => ?_) (fun c2 => ?_)
  · replace h := h.1 c2
    exact Rn.sub [1] rfl h
  · replace h := h.2 c2
    refine r_aload_n d_X5_readSeat_94 1 rfl rfl ?_
    refine r_iconst d_X5_readSeat_95 ?_
    refine r_callV0 (M' := M_X5_wrong) (ci := 5) [(0, 3)] d_X5_readSeat_96 cl_X5_88 rfl (Nat.le_of_ble_eq_true rfl) (by decide) rfl (bs_ob bs_5) ?_
    refine Ct.mono h (fun r4 G3 h => ?_)
    show Rn _ M_X5_readSeat zN 99 [(2, (0, s0)), (0, (2, 3))] [] G3 Q
    exact Rn.sub [1] rfl h
theorem d_X5_readCup_0 : decode M_X5_readCup.2.1 0 = .ok (.aload_n 0, 1) := by decide +kernel
theorem d_X5_readCup_1 : decode M_X5_readCup.2.1 1 = .ok (.bipush 26, 2) := by decide +kernel
theorem d_X5_readCup_3 : decode M_X5_readCup.2.1 3 = .ok (.invokevirtual 69, 3) := by decide +kernel
theorem d_X5_readCup_6 : decode M_X5_readCup.2.1 6 = .ok (.aload_n 0, 1) := by decide +kernel
theorem d_X5_readCup_7 : decode M_X5_readCup.2.1 7 = .ok (.iconst 1, 1) := by decide +kernel
theorem d_X5_readCup_8 : decode M_X5_readCup.2.1 8 = .ok (.invokevirtual 130, 3) := by decide +kernel
theorem d_X5_readCup_11 : decode M_X5_readCup.2.1 11 = .ok (.istore_n 1, 1) := by decide +kernel
theorem d_X5_readCup_12 : decode M_X5_readCup.2.1 12 = .ok (.aload_n 0, 1) := by decide +kernel
theorem d_X5_readCup_13 : decode M_X5_readCup.2.1 13 = .ok (.getfield 34, 3) := by decide +kernel
theorem d_X5_readCup_16 : decode M_X5_readCup.2.1 16 = .ok (.ifCond .ne 13, 3) := by decide +kernel
theorem d_X5_readCup_19 : decode M_X5_readCup.2.1 19 = .ok (.aload_n 0, 1) := by decide +kernel
theorem d_X5_readCup_20 : decode M_X5_readCup.2.1 20 = .ok (.getfield 25, 3) := by decide +kernel
theorem d_X5_readCup_23 : decode M_X5_readCup.2.1 23 = .ok (.getfield 172, 3) := by decide +kernel
theorem d_X5_readCup_26 : decode M_X5_readCup.2.1 26 = .ok (.iload_n 1, 1) := by decide +kernel
theorem d_X5_readCup_27 : decode M_X5_readCup.2.1 27 = .ok (.iconst 1, 1) := by decide +kernel
theorem d_X5_readCup_28 : decode M_X5_readCup.2.1 28 = .ok (.iastore, 1) := by decide +kernel
theorem d_X5_readCup_29 : decode M_X5_readCup.2.1 29 = .ok (.return_, 1) := by decide +kernel
set_option maxRecDepth 20000 in
theorem s_X5_readCup_0 {d : Nat}  {G : Mem} {Q : Int → Mem → Prop}  (h : Ct d M_X5_readWord NT 0 0 (some lay) [(2, 3), (0, 26)] G (fun r2 G1 => Ct d M_X5_readSeat NT 0 0 (some lay) [(2, 3), (0, 1)] G1 (fun r4 G3 => (InR (G3 3 4)) ∧ (((G3 3 4) ≠ 0) → Q 0 G3) ∧ (¬ ((G3 3 4) ≠ 0) → ∀ b7 : Int, b7 = (G3 3 3) → (Bs 1 b7 ∧ (0 ≤ r4 ∧ r4 < 5) ∧ (∀ G11 : Mem, G11 = st G3 (b7 + 3) r4 1 → Q 0 G11)))))) : Rn (d + 1) M_X5_readCup zN 0 [(0, (2, 3))] [] G Q := by
  refine r_aload_n d_X5_readCup_0 0 rfl rfl ?_
  refine r_bipush d_X5_readCup_1 (by decide +kernel) ?_
  refine r_callV0 (M' := M_X5_readWord) (ci := 5) [(0, 26)] d_X5_readCup_3 cl_X5_69 rfl (Nat.le_of_ble_eq_true rfl) (by decide) rfl (bs_ob bs_5) ?_
  refine Ct.mono h (fun r2 G1 h => ?_)
  show Rn _ M_X5_readCup zN 6 [(0, (2, 3))] [] G1 Q
  refine r_aload_n d_X5_readCup_6 0 rfl rfl ?_
  refine r_iconst d_X5_readCup_7 ?_
  refine r_callV0 (M' := M_X5_readSeat) (ci := 5) [(0, 1)] d_X5_readCup_8 cl_X5_130 rfl (Nat.le_of_ble_eq_true rfl) (by decide) rfl (bs_ob bs_5) ?_
  refine Ct.mono h (fun r4 G3 h => ?_)
  show Rn _ M_X5_readCup zN 11 [(0, (2, 3))] [(0, r4)] G3 Q
  refine r_istore_n (ls1 := [(1, (0, r4)), (0, (2, 3))]) d_X5_readCup_11 rfl (by decide) rfl ?_
  refine r_aload_n d_X5_readCup_12 1 rfl rfl ?_
  refine r_getI 5 4 4 rfl d_X5_readCup_13 fl_X5_34 (by decide) (bs_ob bs_5) ?_
  obtain ⟨h5, h⟩ := h
  refine r_if_ne (tgt := 29) d_X5_readCup_16 (by decide) h5 (fun c6 => ?_) (fun c6 => ?_)
  · replace h := h.1 c6
    exact r_ret d_X5_readCup_29 rfl ⟨rfl, Nat.le_refl _, Nat.le_refl _⟩ h
  · replace h := h.2 c6
    refine r_aload_n d_X5_readCup_19 1 rfl rfl ?_
    obtain ⟨b7, e9⟩ : ∃ y : Int, y = (G3 3 3) := ⟨_, rfl⟩
    replace h := h b7 e9
    obtain ⟨h8, h⟩ := h
    refine r_getM 5 3 3 rfl d_X5_readCup_20 fl_X5_25 (by decide) (bs_ob bs_5) e9.symm (bs_nn h8) ?_
    refine r_getL (v := (b7 + 3)) 1 2 2 rfl d_X5_readCup_23 fl_X5_172 (by decide) (bs_ob h8) (ly_1_2 h8).1 (ly_1_2 h8).2.1 ?_
    refine r_iload_n d_X5_readCup_26 0 rfl rfl ?_
    refine r_iconst d_X5_readCup_27 ?_
    obtain ⟨h10, h⟩ := h
    obtain ⟨G11, eG11⟩ : ∃ y : Mem, y = st G3 (b7 + 3) r4 1 := ⟨_, rfl⟩
    replace h := h G11 eG11
    refine r_iastore d_X5_readCup_28 (ly_1_2 h8).2.2 h10 ?_
    rw [← eG11]
    exact r_ret d_X5_readCup_29 rfl ⟨rfl, Nat.le_refl _, Nat.le_refl _⟩ h
theorem d_X5_readShut_0 : decode M_X5_readShut.2.1 0 = .ok (.aload_n 0, 1) := by decide +kernel
theorem d_X5_readShut_1 : decode M_X5_readShut.2.1 1 = .ok (.iload_n 1, 1) := by decide +kernel
theorem d_X5_readShut_2 : decode M_X5_readShut.2.1 2 = .ok (.invokevirtual 69, 3) := by decide +kernel
theorem d_X5_readShut_5 : decode M_X5_readShut.2.1 5 = .ok (.aload_n 0, 1) := by decide +kernel
theorem d_X5_readShut_6 : decode M_X5_readShut.2.1 6 = .ok (.iconst 0, 1) := by decide +kernel
theorem d_X5_readShut_7 : decode M_X5_readShut.2.1 7 = .ok (.bipush 71, 2) := by decide +kernel
theorem d_X5_readShut_9 : decode M_X5_readShut.2.1 9 = .ok (.invokevirtual 72, 3) := by decide +kernel
theorem d_X5_readShut_12 : decode M_X5_readShut.2.1 12 = .ok (.istore_n 2, 1) := by decide +kernel
theorem d_X5_readShut_13 : decode M_X5_readShut.2.1 13 = .ok (.aload_n 0, 1) := by decide +kernel
theorem d_X5_readShut_14 : decode M_X5_readShut.2.1 14 = .ok (.bipush 8, 2) := by decide +kernel
theorem d_X5_readShut_16 : decode M_X5_readShut.2.1 16 = .ok (.invokevirtual 69, 3) := by decide +kernel
theorem d_X5_readShut_19 : decode M_X5_readShut.2.1 19 = .ok (.aload_n 0, 1) := by decide +kernel
theorem d_X5_readShut_20 : decode M_X5_readShut.2.1 20 = .ok (.iload_n 2, 1) := by decide +kernel
theorem d_X5_readShut_21 : decode M_X5_readShut.2.1 21 = .ok (.bipush 71, 2) := by decide +kernel
theorem d_X5_readShut_23 : decode M_X5_readShut.2.1 23 = .ok (.invokevirtual 72, 3) := by decide +kernel
theorem d_X5_readShut_26 : decode M_X5_readShut.2.1 26 = .ok (.istore_n 3, 1) := by decide +kernel
theorem d_X5_readShut_27 : decode M_X5_readShut.2.1 27 = .ok (.iload_n 2, 1) := by decide +kernel
theorem d_X5_readShut_28 : decode M_X5_readShut.2.1 28 = .ok (.istore 4, 2) := by decide +kernel
theorem d_X5_readShut_30 : decode M_X5_readShut.2.1 30 = .ok (.iload 4, 2) := by decide +kernel
theorem d_X5_readShut_32 : decode M_X5_readShut.2.1 32 = .ok (.iload_n 3, 1) := by decide +kernel
theorem d_X5_readShut_33 : decode M_X5_readShut.2.1 33 = .ok (.if_icmp .gt 27, 3) := by decide +kernel
theorem d_X5_readShut_36 : decode M_X5_readShut.2.1 36 = .ok (.aload_n 0, 1) := by decide +kernel
theorem d_X5_readShut_37 : decode M_X5_readShut.2.1 37 = .ok (.getfield 34, 3) := by decide +kernel
theorem d_X5_readShut_40 : decode M_X5_readShut.2.1 40 = .ok (.ifCond .ne 20, 3) := by decide +kernel
theorem d_X5_readShut_43 : decode M_X5_readShut.2.1 43 = .ok (.aload_n 0, 1) := by decide +kernel
theorem d_X5_readShut_44 : decode M_X5_readShut.2.1 44 = .ok (.getfield 25, 3) := by decide +kernel
theorem d_X5_readShut_47 : decode M_X5_readShut.2.1 47 = .ok (.getfield 175, 3) := by decide +kernel
theorem d_X5_readShut_50 : decode M_X5_readShut.2.1 50 = .ok (.iload 4, 2) := by decide +kernel
theorem d_X5_readShut_52 : decode M_X5_readShut.2.1 52 = .ok (.iconst 1, 1) := by decide +kernel
theorem d_X5_readShut_53 : decode M_X5_readShut.2.1 53 = .ok (.iastore, 1) := by decide +kernel
theorem d_X5_readShut_54 : decode M_X5_readShut.2.1 54 = .ok (.iinc 4 1, 3) := by decide +kernel
theorem d_X5_readShut_57 : decode M_X5_readShut.2.1 57 = .ok (.goto (-27), 3) := by decide +kernel
theorem d_X5_readShut_60 : decode M_X5_readShut.2.1 60 = .ok (.return_, 1) := by decide +kernel
set_option maxRecDepth 20000 in
theorem s_X5_readShut_0 {d : Nat} {p0 : Int} {G : Mem} {Q : Int → Mem → Prop}  (h : Ct d M_X5_readWord NT 0 0 (some lay) [(2, 3), (0, p0)] G (fun r2 G1 => Ct d M_X5_readNumber NT 0 0 (some lay) [(2, 3), (0, 0), (0, 71)] G1 (fun r4 G3 => Ct d M_X5_readWord NT 0 0 (some lay) [(2, 3), (0, 8)] G3 (fun r6 G5 => Ct d M_X5_readNumber NT 0 0 (some lay) [(2, 3), (0, r4), (0, 71)] G5 (fun r8 G7 => Rn (d + 1) M_X5_readShut zN 30 [(0, (2, 3)), (3, (0, r8)), (4, (0, r4))] [] G7 Q))))) : Rn (d + 1) M_X5_readShut zN 0 [(0, (2, 3)), (1, (0, p0))] [] G Q := by
  refine r_aload_n d_X5_readShut_0 0 rfl rfl ?_
  refine r_iload_n d_X5_readShut_1 1 rfl rfl ?_
  refine r_callV0 (M' := M_X5_readWord) (ci := 5) [(0, p0)] d_X5_readShut_2 cl_X5_69 rfl (Nat.le_of_ble_eq_true rfl) (by decide) rfl (bs_ob bs_5) ?_
  refine Ct.mono h (fun r2 G1 h => ?_)
  show Rn _ M_X5_readShut zN 5 [(0, (2, 3)), (1, (0, p0))] [] G1 Q
  refine r_aload_n d_X5_readShut_5 0 rfl rfl ?_
  refine r_iconst d_X5_readShut_6 ?_
  refine r_bipush d_X5_readShut_7 (by decide +kernel) ?_
  refine r_callV0 (M' := M_X5_readNumber) (ci := 5) [(0, 0), (0, 71)] d_X5_readShut_9 cl_X5_72 rfl (Nat.le_of_ble_eq_true rfl) (by decide) rfl (bs_ob bs_5) ?_
  refine Ct.mono h (fun r4 G3 h => ?_)
  show Rn _ M_X5_readShut zN 12 [(0, (2, 3)), (1, (0, p0))] [(0, r4)] G3 Q
  refine r_istore_n (ls1 := [(2, (0, r4)), (0, (2, 3)), (1, (0, p0))]) d_X5_readShut_12 rfl (by decide) rfl ?_
  refine r_aload_n d_X5_readShut_13 1 rfl rfl ?_
  refine r_bipush d_X5_readShut_14 (by decide +kernel) ?_
  refine r_callV0 (M' := M_X5_readWord) (ci := 5) [(0, 8)] d_X5_readShut_16 cl_X5_69 rfl (Nat.le_of_ble_eq_true rfl) (by decide) rfl (bs_ob bs_5) ?_
  refine Ct.mono h (fun r6 G5 h => ?_)
  show Rn _ M_X5_readShut zN 19 [(2, (0, r4)), (0, (2, 3)), (1, (0, p0))] [] G5 Q
  refine r_aload_n d_X5_readShut_19 1 rfl rfl ?_
  refine r_iload_n d_X5_readShut_20 0 rfl rfl ?_
  refine r_bipush d_X5_readShut_21 (by decide +kernel) ?_
  refine r_callV0 (M' := M_X5_readNumber) (ci := 5) [(0, r4), (0, 71)] d_X5_readShut_23 cl_X5_72 rfl (Nat.le_of_ble_eq_true rfl) (by decide) rfl (bs_ob bs_5) ?_
  refine Ct.mono h (fun r8 G7 h => ?_)
  show Rn _ M_X5_readShut zN 26 [(2, (0, r4)), (0, (2, 3)), (1, (0, p0))] [(0, r8)] G7 Q
  refine r_istore_n (ls1 := [(3, (0, r8)), (2, (0, r4)), (0, (2, 3)), (1, (0, p0))]) d_X5_readShut_26 rfl (by decide) rfl ?_
  refine r_iload_n d_X5_readShut_27 1 rfl rfl ?_
  refine r_istore (ls1 := [(4, (0, r4)), (3, (0, r8)), (2, (0, r4)), (0, (2, 3)), (1, (0, p0))]) d_X5_readShut_28 (by decide) rfl ?_
  exact Rn.sub [3, 1, 0] rfl h
set_option maxRecDepth 20000 in
theorem s_X5_readShut_30 {d : Nat} {x3 : Int} {x4 : Int} {G : Mem} {Q : Int → Mem → Prop}  (h : (InR x4) ∧ (InR x3) ∧ ((x3 < x4) → Q 0 G) ∧ (¬ (x3 < x4) → (InR (G 3 4)) ∧ (((G 3 4) ≠ 0) → Q 0 G) ∧ (¬ ((G 3 4) ≠ 0) → ∀ b6 : Int, b6 = (G 3 3) → (Bs 1 b6 ∧ (0 ≤ x4 ∧ x4 < 72) ∧ (∀ G10 : Mem, G10 = st G (b6 + 4) x4 1 → Rn d M_X5_readShut zN 30 [(0, (2, 3)), (3, (0, x3)), (4, (0, (x4 + 1)))] [] G10 Q))))) : Rn d M_X5_readShut zN 30 [(0, (2, 3)), (3, (0, x3)), (4, (0, x4))] [] G Q := by
  refine r_iload d_X5_readShut_30 2 rfl ?_
  refine r_iload_n d_X5_readShut_32 1 rfl rfl ?_
  obtain ⟨h1, h⟩ := h
  obtain ⟨h2, h⟩ := h
  refine r_icmp_gt (tgt := 60) d_X5_readShut_33 (by decide) h1 h2 (fun c3 => ?_) (fun c3 => ?_)
  · replace h := h.1 c3
    exact r_ret d_X5_readShut_60 rfl ⟨rfl, Nat.le_refl _, Nat.le_refl _⟩ h
  · replace h := h.2 c3
    refine r_aload_n d_X5_readShut_36 0 rfl rfl ?_
    refine r_getI 5 4 4 rfl d_X5_readShut_37 fl_X5_34 (by decide) (bs_ob bs_5) ?_
    obtain ⟨h4, h⟩ := h
    refine r_if_ne (tgt := 60) d_X5_readShut_40 (by decide) h4 (fun c5 => ?_) (fun c5 => ?_)
    · replace h := h.1 c5
      exact r_ret d_X5_readShut_60 rfl ⟨rfl, Nat.le_refl _, Nat.le_refl _⟩ h
    · replace h := h.2 c5
      refine r_aload_n d_X5_readShut_43 0 rfl rfl ?_
      obtain ⟨b6, e8⟩ : ∃ y : Int, y = (G 3 3) := ⟨_, rfl⟩
      replace h := h b6 e8
      obtain ⟨h7, h⟩ := h
      refine r_getM 5 3 3 rfl d_X5_readShut_44 fl_X5_25 (by decide) (bs_ob bs_5) e8.symm (bs_nn h7) ?_
      refine r_getL (v := (b6 + 4)) 1 3 3 rfl d_X5_readShut_47 fl_X5_175 (by decide) (bs_ob h7) (ly_1_3 h7).1 (ly_1_3 h7).2.1 ?_
      refine r_iload d_X5_readShut_50 2 rfl ?_
      refine r_iconst d_X5_readShut_52 ?_
      obtain ⟨h9, h⟩ := h
      obtain ⟨G10, eG10⟩ : ∃ y : Mem, y = st G (b6 + 4) x4 1 := ⟨_, rfl⟩
      replace h := h G10 eG10
      refine r_iastore d_X5_readShut_53 (ly_1_3 h7).2.2 h9 ?_
      rw [← eG10]
      refine r_iinc (ls1 := [(4, (0, (x4 + 1))), (0, (2, 3)), (3, (0, x3))]) d_X5_readShut_54 2 rfl (by decide) rfl ?_
      refine r_goto (tgt := 30) d_X5_readShut_57 (by decide) ?_
      exact Rn.sub [1, 2, 0] rfl h
theorem d_X5_readPrices_0 : decode M_X5_readPrices.2.1 0 = .ok (.aload_n 0, 1) := by decide +kernel
theorem d_X5_readPrices_1 : decode M_X5_readPrices.2.1 1 = .ok (.bipush 11, 2) := by decide +kernel
theorem d_X5_readPrices_3 : decode M_X5_readPrices.2.1 3 = .ok (.invokevirtual 69, 3) := by decide +kernel
theorem d_X5_readPrices_6 : decode M_X5_readPrices.2.1 6 = .ok (.iconst 0, 1) := by decide +kernel
theorem d_X5_readPrices_7 : decode M_X5_readPrices.2.1 7 = .ok (.istore_n 1, 1) := by decide +kernel
theorem d_X5_readPrices_8 : decode M_X5_readPrices.2.1 8 = .ok (.iload_n 1, 1) := by decide +kernel
theorem d_X5_readPrices_9 : decode M_X5_readPrices.2.1 9 = .ok (.aload_n 0, 1) := by decide +kernel
theorem d_X5_readPrices_10 : decode M_X5_readPrices.2.1 10 = .ok (.getfield 25, 3) := by decide +kernel
theorem d_X5_readPrices_13 : decode M_X5_readPrices.2.1 13 = .ok (.getfield 178, 3) := by decide +kernel
theorem d_X5_readPrices_16 : decode M_X5_readPrices.2.1 16 = .ok (.arraylength, 1) := by decide +kernel
theorem d_X5_readPrices_17 : decode M_X5_readPrices.2.1 17 = .ok (.if_icmp .ge 25, 3) := by decide +kernel
theorem d_X5_readPrices_20 : decode M_X5_readPrices.2.1 20 = .ok (.aload_n 0, 1) := by decide +kernel
theorem d_X5_readPrices_21 : decode M_X5_readPrices.2.1 21 = .ok (.getfield 25, 3) := by decide +kernel
theorem d_X5_readPrices_24 : decode M_X5_readPrices.2.1 24 = .ok (.getfield 178, 3) := by decide +kernel
theorem d_X5_readPrices_27 : decode M_X5_readPrices.2.1 27 = .ok (.iload_n 1, 1) := by decide +kernel
theorem d_X5_readPrices_28 : decode M_X5_readPrices.2.1 28 = .ok (.aload_n 0, 1) := by decide +kernel
theorem d_X5_readPrices_29 : decode M_X5_readPrices.2.1 29 = .ok (.iconst 0, 1) := by decide +kernel
theorem d_X5_readPrices_30 : decode M_X5_readPrices.2.1 30 = .ok (.bipush 99, 2) := by decide +kernel
theorem d_X5_readPrices_32 : decode M_X5_readPrices.2.1 32 = .ok (.invokevirtual 72, 3) := by decide +kernel
theorem d_X5_readPrices_35 : decode M_X5_readPrices.2.1 35 = .ok (.iastore, 1) := by decide +kernel
theorem d_X5_readPrices_36 : decode M_X5_readPrices.2.1 36 = .ok (.iinc 1 1, 3) := by decide +kernel
theorem d_X5_readPrices_39 : decode M_X5_readPrices.2.1 39 = .ok (.goto (-31), 3) := by decide +kernel
theorem d_X5_readPrices_42 : decode M_X5_readPrices.2.1 42 = .ok (.return_, 1) := by decide +kernel
set_option maxRecDepth 20000 in
theorem s_X5_readPrices_0 {d : Nat}  {G : Mem} {Q : Int → Mem → Prop}  (h : Ct d M_X5_readWord NT 0 0 (some lay) [(2, 3), (0, 11)] G (fun r2 G1 => Rn (d + 1) M_X5_readPrices zN 8 [(0, (2, 3)), (1, (0, 0))] [] G1 Q)) : Rn (d + 1) M_X5_readPrices zN 0 [(0, (2, 3))] [] G Q := by
  refine r_aload_n d_X5_readPrices_0 0 rfl rfl ?_
  refine r_bipush d_X5_readPrices_1 (by decide +kernel) ?_
  refine r_callV0 (M' := M_X5_readWord) (ci := 5) [(0, 11)] d_X5_readPrices_3 cl_X5_69 rfl (Nat.le_of_ble_eq_true rfl) (by decide) rfl (bs_ob bs_5) ?_
  refine Ct.mono h (fun r2 G1 h => ?_)
  show Rn _ M_X5_readPrices zN 6 [(0, (2, 3))] [] G1 Q
  refine r_iconst d_X5_readPrices_6 ?_
  refine r_istore_n (ls1 := [(1, (0, 0)), (0, (2, 3))]) d_X5_readPrices_7 rfl (by decide) rfl ?_
  exact Rn.sub [1, 0] rfl h
set_option maxRecDepth 20000 in
theorem s_X5_readPrices_8 {d : Nat} {x1 : Int} {G : Mem} {Q : Int → Mem → Prop}  (h : ∀ b1 : Int, b1 = (G 3 3) → (Bs 1 b1 ∧ (InR x1) ∧ ((4 ≤ x1) → Q 0 G) ∧ (¬ (4 ≤ x1) → ∀ b6 : Int, b6 = (G 3 3) → (Bs 1 b6 ∧ Ct d M_X5_readNumber NT 0 0 (some lay) [(2, 3), (0, 0), (0, 99)] G (fun r10 G9 => (0 ≤ x1 ∧ x1 < 4) ∧ (∀ G12 : Mem, G12 = st G9 (b6 + 5) x1 r10 → Rn (d + 1) M_X5_readPrices zN 8 [(0, (2, 3)), (1, (0, (x1 + 1)))] [] G12 Q)))))) : Rn (d + 1) M_X5_readPrices zN 8 [(0, (2, 3)), (1, (0, x1))] [] G Q := by
  refine r_iload_n d_X5_readPrices_8 1 rfl rfl ?_
  refine r_aload_n d_X5_readPrices_9 0 rfl rfl ?_
  obtain ⟨b1, e3⟩ : ∃ y : Int, y = (G 3 3) := ⟨_, rfl⟩
  replace h := h b1 e3
  obtain ⟨h2, h⟩ := h
  refine r_getM 5 3 3 rfl d_X5_readPrices_10 fl_X5_25 (by decide) (bs_ob bs_5) e3.symm (bs_nn h2) ?_
  refine r_getL (v := (b1 + 5)) 1 4 4 rfl d_X5_readPrices_13 fl_X5_178 (by decide) (bs_ob h2) (ly_1_4 h2).1 (ly_1_4 h2).2.1 ?_
  refine r_alen 4 rfl d_X5_readPrices_16 (ly_1_4 h2).2.2 ?_
  obtain ⟨h4, h⟩ := h
  refine r_icmp_ge (tgt := 42) d_X5_readPrices_17 (by decide) h4 ⟨by decide, by decide⟩ (fun c5 => ?_) (fun c5 => ?_)
  · replace h := h.1 c5
    exact r_ret d_X5_readPrices_42 rfl ⟨rfl, Nat.le_refl _, Nat.le_refl _⟩ h
  · replace h := h.2 c5
    refine r_aload_n d_X5_readPrices_20 0 rfl rfl ?_
    obtain ⟨b6, e8⟩ : ∃ y : Int, y = (G 3 3) := ⟨_, rfl⟩
    replace h := h b6 e8
    obtain ⟨h7, h⟩ := h
    refine r_getM 5 3 3 rfl d_X5_readPrices_21 fl_X5_25 (by decide) (bs_ob bs_5) e8.symm (bs_nn h7) ?_
    refine r_getL (v := (b6 + 5)) 1 4 4 rfl d_X5_readPrices_24 fl_X5_178 (by decide) (bs_ob h7) (ly_1_4 h7).1 (ly_1_4 h7).2.1 ?_
    refine r_iload_n d_X5_readPrices_27 1 rfl rfl ?_
    refine r_aload_n d_X5_readPrices_28 0 rfl rfl ?_
    refine r_iconst d_X5_readPrices_29 ?_
    refine r_bipush d_X5_readPrices_30 (by decide +kernel) ?_
    refine r_callV0 (M' := M_X5_readNumber) (ci := 5) [(0, 0), (0, 99)] d_X5_readPrices_32 cl_X5_72 rfl (Nat.le_of_ble_eq_true rfl) (by decide) rfl (bs_ob bs_5) ?_
    refine Ct.mono h (fun r10 G9 h => ?_)
    show Rn _ M_X5_readPrices zN 35 [(0, (2, 3)), (1, (0, x1))] [(0, r10), (0, x1), (2, (b6 + 5))] G9 Q
    obtain ⟨h11, h⟩ := h
    obtain ⟨G12, eG12⟩ : ∃ y : Mem, y = st G9 (b6 + 5) x1 r10 := ⟨_, rfl⟩
    replace h := h G12 eG12
    refine r_iastore d_X5_readPrices_35 (ly_1_4 h7).2.2 h11 ?_
    rw [← eG12]
    refine r_iinc (ls1 := [(1, (0, (x1 + 1))), (0, (2, 3))]) d_X5_readPrices_36 1 rfl (by decide) rfl ?_
    refine r_goto (tgt := 8) d_X5_readPrices_39 (by decide) ?_
    exact Rn.sub [1, 0] rfl h
theorem d_X5_readLaw_0 : decode M_X5_readLaw.2.1 0 = .ok (.aload_n 0, 1) := by decide +kernel
theorem d_X5_readLaw_1 : decode M_X5_readLaw.2.1 1 = .ok (.bipush 13, 2) := by decide +kernel
theorem d_X5_readLaw_3 : decode M_X5_readLaw.2.1 3 = .ok (.iload_n 1, 1) := by decide +kernel
theorem d_X5_readLaw_4 : decode M_X5_readLaw.2.1 4 = .ok (.iadd, 1) := by decide +kernel
theorem d_X5_readLaw_5 : decode M_X5_readLaw.2.1 5 = .ok (.invokevirtual 69, 3) := by decide +kernel
theorem d_X5_readLaw_8 : decode M_X5_readLaw.2.1 8 = .ok (.aload_n 0, 1) := by decide +kernel
theorem d_X5_readLaw_9 : decode M_X5_readLaw.2.1 9 = .ok (.getfield 25, 3) := by decide +kernel
theorem d_X5_readLaw_12 : decode M_X5_readLaw.2.1 12 = .ok (.getfield 181, 3) := by decide +kernel
theorem d_X5_readLaw_15 : decode M_X5_readLaw.2.1 15 = .ok (.iload_n 1, 1) := by decide +kernel
theorem d_X5_readLaw_16 : decode M_X5_readLaw.2.1 16 = .ok (.invokevirtual 185, 3) := by decide +kernel
theorem d_X5_readLaw_19 : decode M_X5_readLaw.2.1 19 = .ok (.aload_n 0, 1) := by decide +kernel
theorem d_X5_readLaw_20 : decode M_X5_readLaw.2.1 20 = .ok (.iload_n 1, 1) := by decide +kernel
theorem d_X5_readLaw_21 : decode M_X5_readLaw.2.1 21 = .ok (.iconst 0, 1) := by decide +kernel
theorem d_X5_readLaw_22 : decode M_X5_readLaw.2.1 22 = .ok (.iconst 0, 1) := by decide +kernel
theorem d_X5_readLaw_23 : decode M_X5_readLaw.2.1 23 = .ok (.invokevirtual 189, 3) := by decide +kernel
theorem d_X5_readLaw_26 : decode M_X5_readLaw.2.1 26 = .ok (.aload_n 0, 1) := by decide +kernel
theorem d_X5_readLaw_27 : decode M_X5_readLaw.2.1 27 = .ok (.getfield 25, 3) := by decide +kernel
theorem d_X5_readLaw_30 : decode M_X5_readLaw.2.1 30 = .ok (.getfield 181, 3) := by decide +kernel
theorem d_X5_readLaw_33 : decode M_X5_readLaw.2.1 33 = .ok (.iload_n 1, 1) := by decide +kernel
theorem d_X5_readLaw_34 : decode M_X5_readLaw.2.1 34 = .ok (.invokevirtual 193, 3) := by decide +kernel
theorem d_X5_readLaw_37 : decode M_X5_readLaw.2.1 37 = .ok (.return_, 1) := by decide +kernel
set_option maxRecDepth 20000 in
theorem s_X5_readLaw_0 {d : Nat} {p0 : Int} {G : Mem} {Q : Int → Mem → Prop}  (h : Ct d M_X5_readWord NT 0 0 (some lay) [(2, 3), (0, (13 + p0))] G (fun r2 G1 => ∀ b3 : Int, b3 = (G1 3 3) → (Bs 1 b3 ∧ Ct d M_X3_begin NT 0 0 (some lay) [(2, (b3 + 6)), (0, p0)] G1 (fun r7 G6 => Ct d M_X5_readJoined NT 0 0 (some lay) [(2, 3), (0, p0), (0, 0), (0, 0)] G6 (fun r9 G8 => ∀ b10 : Int, b10 = (G8 3 3) → (Bs 1 b10 ∧ Ct d M_X3_end NT 0 0 (some lay) [(2, (b10 + 6)), (0, p0)] G8 (fun r14 G13 => Q 0 G13))))))) : Rn (d + 1) M_X5_readLaw zN 0 [(0, (2, 3)), (1, (0, p0))] [] G Q := by
  refine r_aload_n d_X5_readLaw_0 0 rfl rfl ?_
  refine r_bipush d_X5_readLaw_1 (by decide +kernel) ?_
  refine r_iload_n d_X5_readLaw_3 1 rfl rfl ?_
  refine r_iadd d_X5_readLaw_4 ?_
  refine r_callV0 (M' := M_X5_readWord) (ci := 5) [(0, (13 + p0))] d_X5_readLaw_5 cl_X5_69 rfl (Nat.le_of_ble_eq_true rfl) (by decide) rfl (bs_ob bs_5) ?_
  refine Ct.mono h (fun r2 G1 h => ?_)
  show Rn _ M_X5_readLaw zN 8 [(0, (2, 3)), (1, (0, p0))] [] G1 Q
  refine r_aload_n d_X5_readLaw_8 0 rfl rfl ?_
  obtain ⟨b3, e5⟩ : ∃ y : Int, y = (G1 3 3) := ⟨_, rfl⟩
  replace h := h b3 e5
  obtain ⟨h4, h⟩ := h
  refine r_getM 5 3 3 rfl d_X5_readLaw_9 fl_X5_25 (by decide) (bs_ob bs_5) e5.symm (bs_nn h4) ?_
  refine r_getL (v := (b3 + 6)) 1 5 5 rfl d_X5_readLaw_12 fl_X5_181 (by decide) (bs_ob h4) (ly_1_5 h4).1 (ly_1_5 h4).2.1 ?_
  refine r_iload_n d_X5_readLaw_15 1 rfl rfl ?_
  refine r_callV0 (M' := M_X3_begin) (ci := 3) [(0, p0)] d_X5_readLaw_16 cl_X5_185 rfl (Nat.le_of_ble_eq_true rfl) (by decide) rfl (bs_ob (ly_1_5 h4).2.2) ?_
  refine Ct.mono h (fun r7 G6 h => ?_)
  show Rn _ M_X5_readLaw zN 19 [(0, (2, 3)), (1, (0, p0))] [] G6 Q
  refine r_aload_n d_X5_readLaw_19 0 rfl rfl ?_
  refine r_iload_n d_X5_readLaw_20 1 rfl rfl ?_
  refine r_iconst d_X5_readLaw_21 ?_
  refine r_iconst d_X5_readLaw_22 ?_
  refine r_callV0 (M' := M_X5_readJoined) (ci := 5) [(0, p0), (0, 0), (0, 0)] d_X5_readLaw_23 cl_X5_189 rfl (Nat.le_of_ble_eq_true rfl) (by decide) rfl (bs_ob bs_5) ?_
  refine Ct.mono h (fun r9 G8 h => ?_)
  show Rn _ M_X5_readLaw zN 26 [(0, (2, 3)), (1, (0, p0))] [] G8 Q
  refine r_aload_n d_X5_readLaw_26 0 rfl rfl ?_
  obtain ⟨b10, e12⟩ : ∃ y : Int, y = (G8 3 3) := ⟨_, rfl⟩
  replace h := h b10 e12
  obtain ⟨h11, h⟩ := h
  refine r_getM 5 3 3 rfl d_X5_readLaw_27 fl_X5_25 (by decide) (bs_ob bs_5) e12.symm (bs_nn h11) ?_
  refine r_getL (v := (b10 + 6)) 1 5 5 rfl d_X5_readLaw_30 fl_X5_181 (by decide) (bs_ob h11) (ly_1_5 h11).1 (ly_1_5 h11).2.1 ?_
  refine r_iload_n d_X5_readLaw_33 1 rfl rfl ?_
  refine r_callV0 (M' := M_X3_end) (ci := 3) [(0, p0)] d_X5_readLaw_34 cl_X5_193 rfl (Nat.le_of_ble_eq_true rfl) (by decide) rfl (bs_ob (ly_1_5 h11).2.2) ?_
  refine Ct.mono h (fun r14 G13 h => ?_)
  show Rn _ M_X5_readLaw zN 37 [(0, (2, 3)), (1, (0, p0))] [] G13 Q
  exact r_ret d_X5_readLaw_37 rfl ⟨rfl, Nat.le_refl _, Nat.le_refl _⟩ h
theorem d_X5_readJoined_0 : decode M_X5_readJoined.2.1 0 = .ok (.iload_n 2, 1) := by decide +kernel
theorem d_X5_readJoined_1 : decode M_X5_readJoined.2.1 1 = .ok (.iconst 4, 1) := by decide +kernel
theorem d_X5_readJoined_2 : decode M_X5_readJoined.2.1 2 = .ok (.if_icmp .lt 10, 3) := by decide +kernel
theorem d_X5_readJoined_5 : decode M_X5_readJoined.2.1 5 = .ok (.aload_n 0, 1) := by decide +kernel
theorem d_X5_readJoined_6 : decode M_X5_readJoined.2.1 6 = .ok (.iload_n 1, 1) := by decide +kernel
theorem d_X5_readJoined_7 : decode M_X5_readJoined.2.1 7 = .ok (.iload_n 3, 1) := by decide +kernel
theorem d_X5_readJoined_8 : decode M_X5_readJoined.2.1 8 = .ok (.invokevirtual 196, 3) := by decide +kernel
theorem d_X5_readJoined_11 : decode M_X5_readJoined.2.1 11 = .ok (.return_, 1) := by decide +kernel
theorem d_X5_readJoined_12 : decode M_X5_readJoined.2.1 12 = .ok (.aload_n 0, 1) := by decide +kernel
theorem d_X5_readJoined_13 : decode M_X5_readJoined.2.1 13 = .ok (.iload_n 1, 1) := by decide +kernel
theorem d_X5_readJoined_14 : decode M_X5_readJoined.2.1 14 = .ok (.iload_n 2, 1) := by decide +kernel
theorem d_X5_readJoined_15 : decode M_X5_readJoined.2.1 15 = .ok (.iconst 1, 1) := by decide +kernel
theorem d_X5_readJoined_16 : decode M_X5_readJoined.2.1 16 = .ok (.iadd, 1) := by decide +kernel
theorem d_X5_readJoined_17 : decode M_X5_readJoined.2.1 17 = .ok (.iload_n 3, 1) := by decide +kernel
theorem d_X5_readJoined_18 : decode M_X5_readJoined.2.1 18 = .ok (.invokevirtual 189, 3) := by decide +kernel
theorem d_X5_readJoined_21 : decode M_X5_readJoined.2.1 21 = .ok (.iload_n 2, 1) := by decide +kernel
theorem d_X5_readJoined_22 : decode M_X5_readJoined.2.1 22 = .ok (.iconst 1, 1) := by decide +kernel
theorem d_X5_readJoined_23 : decode M_X5_readJoined.2.1 23 = .ok (.if_icmp .ne 7, 3) := by decide +kernel
theorem d_X5_readJoined_26 : decode M_X5_readJoined.2.1 26 = .ok (.iconst 1, 1) := by decide +kernel
theorem d_X5_readJoined_27 : decode M_X5_readJoined.2.1 27 = .ok (.goto 6, 3) := by decide +kernel
theorem d_X5_readJoined_30 : decode M_X5_readJoined.2.1 30 = .ok (.sipush 1000, 3) := by decide +kernel
theorem d_X5_readJoined_33 : decode M_X5_readJoined.2.1 33 = .ok (.istore 4, 2) := by decide +kernel
theorem d_X5_readJoined_35 : decode M_X5_readJoined.2.1 35 = .ok (.iconst 0, 1) := by decide +kernel
theorem d_X5_readJoined_36 : decode M_X5_readJoined.2.1 36 = .ok (.istore 5, 2) := by decide +kernel
theorem d_X5_readJoined_38 : decode M_X5_readJoined.2.1 38 = .ok (.iload 5, 2) := by decide +kernel
theorem d_X5_readJoined_40 : decode M_X5_readJoined.2.1 40 = .ok (.iload 4, 2) := by decide +kernel
theorem d_X5_readJoined_42 : decode M_X5_readJoined.2.1 42 = .ok (.if_icmp .ge 57, 3) := by decide +kernel
theorem d_X5_readJoined_45 : decode M_X5_readJoined.2.1 45 = .ok (.aload_n 0, 1) := by decide +kernel
theorem d_X5_readJoined_46 : decode M_X5_readJoined.2.1 46 = .ok (.getfield 34, 3) := by decide +kernel
theorem d_X5_readJoined_49 : decode M_X5_readJoined.2.1 49 = .ok (.ifCond .ne 50, 3) := by decide +kernel
theorem d_X5_readJoined_52 : decode M_X5_readJoined.2.1 52 = .ok (.aload_n 0, 1) := by decide +kernel
theorem d_X5_readJoined_53 : decode M_X5_readJoined.2.1 53 = .ok (.iload_n 2, 1) := by decide +kernel
theorem d_X5_readJoined_54 : decode M_X5_readJoined.2.1 54 = .ok (.invokevirtual 200, 3) := by decide +kernel
theorem d_X5_readJoined_57 : decode M_X5_readJoined.2.1 57 = .ok (.istore 6, 2) := by decide +kernel
theorem d_X5_readJoined_59 : decode M_X5_readJoined.2.1 59 = .ok (.iload 6, 2) := by decide +kernel
theorem d_X5_readJoined_61 : decode M_X5_readJoined.2.1 61 = .ok (.ifCond .ne 4, 3) := by decide +kernel
theorem d_X5_readJoined_64 : decode M_X5_readJoined.2.1 64 = .ok (.return_, 1) := by decide +kernel
theorem d_X5_readJoined_65 : decode M_X5_readJoined.2.1 65 = .ok (.aload_n 0, 1) := by decide +kernel
theorem d_X5_readJoined_66 : decode M_X5_readJoined.2.1 66 = .ok (.getfield 21, 3) := by decide +kernel
theorem d_X5_readJoined_69 : decode M_X5_readJoined.2.1 69 = .ok (.invokevirtual 102, 3) := by decide +kernel
theorem d_X5_readJoined_72 : decode M_X5_readJoined.2.1 72 = .ok (.aload_n 0, 1) := by decide +kernel
theorem d_X5_readJoined_73 : decode M_X5_readJoined.2.1 73 = .ok (.iload_n 1, 1) := by decide +kernel
theorem d_X5_readJoined_74 : decode M_X5_readJoined.2.1 74 = .ok (.iload_n 2, 1) := by decide +kernel
theorem d_X5_readJoined_75 : decode M_X5_readJoined.2.1 75 = .ok (.iconst 1, 1) := by decide +kernel
theorem d_X5_readJoined_76 : decode M_X5_readJoined.2.1 76 = .ok (.iadd, 1) := by decide +kernel
theorem d_X5_readJoined_77 : decode M_X5_readJoined.2.1 77 = .ok (.iload_n 3, 1) := by decide +kernel
theorem d_X5_readJoined_78 : decode M_X5_readJoined.2.1 78 = .ok (.invokevirtual 189, 3) := by decide +kernel
theorem d_X5_readJoined_81 : decode M_X5_readJoined.2.1 81 = .ok (.aload_n 0, 1) := by decide +kernel
theorem d_X5_readJoined_82 : decode M_X5_readJoined.2.1 82 = .ok (.getfield 25, 3) := by decide +kernel
theorem d_X5_readJoined_85 : decode M_X5_readJoined.2.1 85 = .ok (.getfield 181, 3) := by decide +kernel
theorem d_X5_readJoined_88 : decode M_X5_readJoined.2.1 88 = .ok (.iload 6, 2) := by decide +kernel
theorem d_X5_readJoined_90 : decode M_X5_readJoined.2.1 90 = .ok (.invokevirtual 204, 3) := by decide +kernel
theorem d_X5_readJoined_93 : decode M_X5_readJoined.2.1 93 = .ok (.iinc 5 1, 3) := by decide +kernel
theorem d_X5_readJoined_96 : decode M_X5_readJoined.2.1 96 = .ok (.goto (-58), 3) := by decide +kernel
theorem d_X5_readJoined_99 : decode M_X5_readJoined.2.1 99 = .ok (.return_, 1) := by decide +kernel
set_option maxRecDepth 20000 in
theorem s_X5_readJoined_0 {d : Nat} {p0 : Int} {p1 : Int} {p2 : Int} {G : Mem} {Q : Int → Mem → Prop}  (h : (InR p1) ∧ ((p1 < 4) → Ct d M_X5_readJoined NT 0 0 (some lay) [(2, 3), (0, p0), (0, (p1 + 1)), (0, p2)] G (fun r4 G3 => ((p1 ≠ 1) → Rn (d + 1) M_X5_readJoined zN 38 [(0, (2, 3)), (1, (0, p0)), (2, (0, p1)), (3, (0, p2)), (4, (0, 1000)), (5, (0, 0))] [] G3 Q) ∧ (¬ (p1 ≠ 1) → Rn (d + 1) M_X5_readJoined zN 38 [(0, (2, 3)), (1, (0, p0)), (2, (0, p1)), (3, (0, p2)), (4, (0, 1)), (5, (0, 0))] [] G3 Q))) ∧ (¬ (p1 < 4) → Ct d M_X5_readPart NT 0 0 (some lay) [(2, 3), (0, p0), (0, p2)] G (fun r7 G6 => Q 0 G6))) : Rn (d + 1) M_X5_readJoined zN 0 [(0, (2, 3)), (1, (0, p0)), (2, (0, p1)), (3, (0, p2))] [] G Q := by
  refine r_iload_n d_X5_readJoined_0 2 rfl rfl ?_
  refine r_iconst d_X5_readJoined_1 ?_
  obtain ⟨h1, h⟩ := h
  refine r_icmp_lt (tgt := 12) d_X5_readJoined_2 (by decide) h1 ⟨by decide, by decide⟩ (fun c2 => ?_) (fun c2 => ?_)
  · replace h := h.1 c2
    refine r_aload_n d_X5_readJoined_12 0 rfl rfl ?_
    refine r_iload_n d_X5_readJoined_13 1 rfl rfl ?_
    refine r_iload_n d_X5_readJoined_14 2 rfl rfl ?_
    refine r_iconst d_X5_readJoined_15 ?_
    refine r_iadd d_X5_readJoined_16 ?_
    refine r_iload_n d_X5_readJoined_17 3 rfl rfl ?_
    refine r_callV0 (M' := M_X5_readJoined) (ci := 5) [(0, p0), (0, (p1 + 1)), (0, p2)] d_X5_readJoined_18 cl_X5_189 rfl (Nat.le_of_ble_eq_true rfl) (by decide) rfl (bs_ob bs_5) ?_
    refine Ct.mono h (fun r4 G3 h => ?_)
    show Rn _ M_X5_readJoined zN 21 [(0, (2, 3)), (1, (0, p0)), (2, (0, p1)), (3, (0, p2))] [] G3 Q
    refine r_iload_n d_X5_readJoined_21 2 rfl rfl ?_
    refine r_iconst d_X5_readJoined_22 ?_
    refine r_icmp_ne (tgt := 30) d_X5_readJoined_23 (by decide) h1 ⟨by decide, by decide⟩ (fun c5 => ?_) (fun c5 => ?_)
    · replace h := h.1 c5
      refine r_sipush d_X5_readJoined_30 (by decide +kernel) ?_
      refine r_istore (ls1 := [(4, (0, 1000)), (0, (2, 3)), (1, (0, p0)), (2, (0, p1)), (3, (0, p2))]) d_X5_readJoined_33 (by decide) rfl ?_
      refine r_iconst d_X5_readJoined_35 ?_
      refine r_istore (ls1 := [(5, (0, 0)), (4, (0, 1000)), (0, (2, 3)), (1, (0, p0)), (2, (0, p1)), (3, (0, p2))]) d_X5_readJoined_36 (by decide) rfl ?_
      exact Rn.sub [2, 3, 4, 5, 1, 0] rfl h
    · replace h := h.2 c5
      refine r_iconst d_X5_readJoined_26 ?_
      refine r_goto (tgt := 33) d_X5_readJoined_27 (by decide) ?_
      refine r_istore (ls1 := [(4, (0, 1)), (0, (2, 3)), (1, (0, p0)), (2, (0, p1)), (3, (0, p2))]) d_X5_readJoined_33 (by decide) rfl ?_
      refine r_iconst d_X5_readJoined_35 ?_
      refine r_istore (ls1 := [(5, (0, 0)), (4, (0, 1)), (0, (2, 3)), (1, (0, p0)), (2, (0, p1)), (3, (0, p2))]) d_X5_readJoined_36 (by decide) rfl ?_
      exact Rn.sub [2, 3, 4, 5, 1, 0] rfl h
  · replace h := h.2 c2
    refine r_aload_n d_X5_readJoined_5 0 rfl rfl ?_
    refine r_iload_n d_X5_readJoined_6 1 rfl rfl ?_
    refine r_iload_n d_X5_readJoined_7 3 rfl rfl ?_
    refine r_callV0 (M' := M_X5_readPart) (ci := 5) [(0, p0), (0, p2)] d_X5_readJoined_8 cl_X5_196 rfl (Nat.le_of_ble_eq_true rfl) (by decide) rfl (bs_ob bs_5) ?_
    refine Ct.mono h (fun r7 G6 h => ?_)
    show Rn _ M_X5_readJoined zN 11 [(0, (2, 3)), (1, (0, p0)), (2, (0, p1)), (3, (0, p2))] [] G6 Q
    exact r_ret d_X5_readJoined_11 rfl ⟨rfl, Nat.le_refl _, Nat.le_refl _⟩ h
set_option maxRecDepth 20000 in
theorem s_X5_readJoined_38 {d : Nat} {x1 : Int} {x2 : Int} {x3 : Int} {x4 : Int} {x5 : Int} {G : Mem} {Q : Int → Mem → Prop}  (h : (InR x5) ∧ (InR x4) ∧ ((x4 ≤ x5) → Q 0 G) ∧ (¬ (x4 ≤ x5) → (InR (G 3 4)) ∧ (((G 3 4) ≠ 0) → Q 0 G) ∧ (¬ ((G 3 4) ≠ 0) → Ct d M_X5_joinOf NT 0 0 (some lay) [(2, 3), (0, x2)] G (fun r7 G6 => (InR r7) ∧ ((r7 ≠ 0) → ((G6 3 2) = 1) ∧ (Ct d M_X10_step NT 0 0 (some lay) [(2, 1)] G6 (fun r12 G11 => Ct d M_X5_readJoined NT 0 0 (some lay) [(2, 3), (0, x1), (0, (x2 + 1)), (0, x3)] G11 (fun r14 G13 => ∀ b15 : Int, b15 = (G13 3 3) → (Bs 1 b15 ∧ Ct d M_X3_add NT 0 0 (some lay) [(2, (b15 + 6)), (0, r7)] G13 (fun r19 G18 => Rn (d + 1) M_X5_readJoined zN 38 [(0, (2, 3)), (1, (0, x1)), (2, (0, x2)), (3, (0, x3)), (4, (0, x4)), (5, (0, (x5 + 1)))] [] G18 Q)))))) ∧ (¬ (r7 ≠ 0) → Q 0 G6))))) : Rn (d + 1) M_X5_readJoined zN 38 [(0, (2, 3)), (1, (0, x1)), (2, (0, x2)), (3, (0, x3)), (4, (0, x4)), (5, (0, x5))] [] G Q := by
  refine r_iload d_X5_readJoined_38 5 rfl ?_
  refine r_iload d_X5_readJoined_40 4 rfl ?_
  obtain ⟨h1, h⟩ := h
  obtain ⟨h2, h⟩ := h
  refine r_icmp_ge (tgt := 99) d_X5_readJoined_42 (by decide) h1 h2 (fun c3 => ?_) (fun c3 => ?_)
  · replace h := h.1 c3
    exact r_ret d_X5_readJoined_99 rfl ⟨rfl, Nat.le_refl _, Nat.le_refl _⟩ h
  · replace h := h.2 c3
    refine r_aload_n d_X5_readJoined_45 0 rfl rfl ?_
    refine r_getI 5 4 4 rfl d_X5_readJoined_46 fl_X5_34 (by decide) (bs_ob bs_5) ?_
    obtain ⟨h4, h⟩ := h
    refine r_if_ne (tgt := 99) d_X5_readJoined_49 (by decide) h4 (fun c5 => ?_) (fun c5 => ?_)
    · replace h := h.1 c5
      exact r_ret d_X5_readJoined_99 rfl ⟨rfl, Nat.le_refl _, Nat.le_refl _⟩ h
    · replace h := h.2 c5
      refine r_aload_n d_X5_readJoined_52 0 rfl rfl ?_
      refine r_iload_n d_X5_readJoined_53 2 rfl rfl ?_
      refine r_callV0 (M' := M_X5_joinOf) (ci := 5) [(0, x2)] d_X5_readJoined_54 cl_X5_200 rfl (Nat.le_of_ble_eq_true rfl) (by decide) rfl (bs_ob bs_5) ?_
      refine Ct.mono h (fun r7 G6 h => ?_)
      show Rn _ M_X5_readJoined zN 57 [(0, (2, 3)), (1, (0, x1)), (2, (0, x2)), (3, (0, x3)), (4, (0, x4)), (5, (0, x5))] [(0, r7)] G6 Q
      refine r_istore (ls1 := [(6, (0, r7)), (0, (2, 3)), (1, (0, x1)), (2, (0, x2)), (3, (0, x3)), (4, (0, x4)), (5, (0, x5))]) d_X5_readJoined_57 (by decide) rfl ?_
      refine r_iload d_X5_readJoined_59 0 rfl ?_
      obtain ⟨h8, h⟩ := h
      refine r_if_ne (tgt := 65) d_X5_readJoined_61 (by decide) h8 (fun c9 => ?_) (fun c9 => ?_)
      · replace h := h.1 c9
        refine r_aload_n d_X5_readJoined_65 1 rfl rfl ?_
        obtain ⟨h10, h⟩ := h
        refine r_getM 5 2 2 rfl d_X5_readJoined_66 fl_X5_21 (by decide) (bs_ob bs_5) h10 (by decide) ?_
        refine r_callV0 (M' := M_X10_step) (ci := 10) [] d_X5_readJoined_69 cl_X5_102 rfl (Nat.le_of_ble_eq_true rfl) (by decide) rfl (bs_ob bs_10) ?_
        refine Ct.mono h (fun r12 G11 h => ?_)
        show Rn _ M_X5_readJoined zN 72 [(6, (0, r7)), (0, (2, 3)), (1, (0, x1)), (2, (0, x2)), (3, (0, x3)), (4, (0, x4)), (5, (0, x5))] [] G11 Q
        refine r_aload_n d_X5_readJoined_72 1 rfl rfl ?_
        refine r_iload_n d_X5_readJoined_73 2 rfl rfl ?_
        refine r_iload_n d_X5_readJoined_74 3 rfl rfl ?_
        refine r_iconst d_X5_readJoined_75 ?_
        refine r_iadd d_X5_readJoined_76 ?_
        refine r_iload_n d_X5_readJoined_77 4 rfl rfl ?_
        refine r_callV0 (M' := M_X5_readJoined) (ci := 5) [(0, x1), (0, (x2 + 1)), (0, x3)] d_X5_readJoined_78 cl_X5_189 rfl (Nat.le_of_ble_eq_true rfl) (by decide) rfl (bs_ob bs_5) ?_
        refine Ct.mono h (fun r14 G13 h => ?_)
        show Rn _ M_X5_readJoined zN 81 [(6, (0, r7)), (0, (2, 3)), (1, (0, x1)), (2, (0, x2)), (3, (0, x3)), (4, (0, x4)), (5, (0, x5))] [] G13 Q
        refine r_aload_n d_X5_readJoined_81 1 rfl rfl ?_
        obtain ⟨b15, e17⟩ : ∃ y : Int, y = (G13 3 3) := ⟨_, rfl⟩
        replace h := h b15 e17
        obtain ⟨h16, h⟩ := h
        refine r_getM 5 3 3 rfl d_X5_readJoined_82 fl_X5_25 (by decide) (bs_ob bs_5) e17.symm (bs_nn h16) ?_
        refine r_getL (v := (b15 + 6)) 1 5 5 rfl d_X5_readJoined_85 fl_X5_181 (by decide) (bs_ob h16) (ly_1_5 h16).1 (ly_1_5 h16).2.1 ?_
        refine r_iload d_X5_readJoined_88 0 rfl ?_
        refine r_callV0 (M' := M_X3_add) (ci := 3) [(0, r7)] d_X5_readJoined_90 cl_X5_204 rfl (Nat.le_of_ble_eq_true rfl) (by decide) rfl (bs_ob (ly_1_5 h16).2.2) ?_
        refine Ct.mono h (fun r19 G18 h => ?_)
        show Rn _ M_X5_readJoined zN 93 [(6, (0, r7)), (0, (2, 3)), (1, (0, x1)), (2, (0, x2)), (3, (0, x3)), (4, (0, x4)), (5, (0, x5))] [] G18 Q
        refine r_iinc (ls1 := [(5, (0, (x5 + 1))), (6, (0, r7)), (0, (2, 3)), (1, (0, x1)), (2, (0, x2)), (3, (0, x3)), (4, (0, x4))]) d_X5_readJoined_93 6 rfl (by decide) rfl ?_
        refine r_goto (tgt := 38) d_X5_readJoined_96 (by decide) ?_
        exact Rn.sub [2, 3, 4, 5, 6, 0] rfl h
      · replace h := h.2 c9
        exact r_ret d_X5_readJoined_64 rfl ⟨rfl, Nat.le_refl _, Nat.le_refl _⟩ h
theorem d_X5_joinOf_0 : decode M_X5_joinOf.2.1 0 = .ok (.iload_n 1, 1) := by decide +kernel
theorem d_X5_joinOf_1 : decode M_X5_joinOf.2.1 1 = .ok (.ifCond .ne 35, 3) := by decide +kernel
theorem d_X5_joinOf_4 : decode M_X5_joinOf.2.1 4 = .ok (.aload_n 0, 1) := by decide +kernel
theorem d_X5_joinOf_5 : decode M_X5_joinOf.2.1 5 = .ok (.iconst 2, 1) := by decide +kernel
theorem d_X5_joinOf_6 : decode M_X5_joinOf.2.1 6 = .ok (.bipush 22, 2) := by decide +kernel
theorem d_X5_joinOf_8 : decode M_X5_joinOf.2.1 8 = .ok (.invokevirtual 98, 3) := by decide +kernel
theorem d_X5_joinOf_11 : decode M_X5_joinOf.2.1 11 = .ok (.ifCond .eq 8, 3) := by decide +kernel
theorem d_X5_joinOf_14 : decode M_X5_joinOf.2.1 14 = .ok (.bipush (-2), 2) := by decide +kernel
theorem d_X5_joinOf_16 : decode M_X5_joinOf.2.1 16 = .ok (.goto 19, 3) := by decide +kernel
theorem d_X5_joinOf_19 : decode M_X5_joinOf.2.1 19 = .ok (.aload_n 0, 1) := by decide +kernel
theorem d_X5_joinOf_20 : decode M_X5_joinOf.2.1 20 = .ok (.iconst 2, 1) := by decide +kernel
theorem d_X5_joinOf_21 : decode M_X5_joinOf.2.1 21 = .ok (.bipush 23, 2) := by decide +kernel
theorem d_X5_joinOf_23 : decode M_X5_joinOf.2.1 23 = .ok (.invokevirtual 98, 3) := by decide +kernel
theorem d_X5_joinOf_26 : decode M_X5_joinOf.2.1 26 = .ok (.ifCond .eq 8, 3) := by decide +kernel
theorem d_X5_joinOf_29 : decode M_X5_joinOf.2.1 29 = .ok (.bipush (-3), 2) := by decide +kernel
theorem d_X5_joinOf_31 : decode M_X5_joinOf.2.1 31 = .ok (.goto 4, 3) := by decide +kernel
theorem d_X5_joinOf_34 : decode M_X5_joinOf.2.1 34 = .ok (.iconst 0, 1) := by decide +kernel
theorem d_X5_joinOf_35 : decode M_X5_joinOf.2.1 35 = .ok (.ireturn, 1) := by decide +kernel
theorem d_X5_joinOf_36 : decode M_X5_joinOf.2.1 36 = .ok (.iload_n 1, 1) := by decide +kernel
theorem d_X5_joinOf_37 : decode M_X5_joinOf.2.1 37 = .ok (.iconst 1, 1) := by decide +kernel
theorem d_X5_joinOf_38 : decode M_X5_joinOf.2.1 38 = .ok (.if_icmp .ne 35, 3) := by decide +kernel
theorem d_X5_joinOf_41 : decode M_X5_joinOf.2.1 41 = .ok (.aload_n 0, 1) := by decide +kernel
theorem d_X5_joinOf_42 : decode M_X5_joinOf.2.1 42 = .ok (.iconst 4, 1) := by decide +kernel
theorem d_X5_joinOf_43 : decode M_X5_joinOf.2.1 43 = .ok (.bipush 60, 2) := by decide +kernel
theorem d_X5_joinOf_45 : decode M_X5_joinOf.2.1 45 = .ok (.invokevirtual 98, 3) := by decide +kernel
theorem d_X5_joinOf_48 : decode M_X5_joinOf.2.1 48 = .ok (.ifCond .eq 8, 3) := by decide +kernel
theorem d_X5_joinOf_51 : decode M_X5_joinOf.2.1 51 = .ok (.bipush (-4), 2) := by decide +kernel
theorem d_X5_joinOf_53 : decode M_X5_joinOf.2.1 53 = .ok (.goto 19, 3) := by decide +kernel
theorem d_X5_joinOf_56 : decode M_X5_joinOf.2.1 56 = .ok (.aload_n 0, 1) := by decide +kernel
theorem d_X5_joinOf_57 : decode M_X5_joinOf.2.1 57 = .ok (.iconst 4, 1) := by decide +kernel
theorem d_X5_joinOf_58 : decode M_X5_joinOf.2.1 58 = .ok (.bipush 61, 2) := by decide +kernel
theorem d_X5_joinOf_60 : decode M_X5_joinOf.2.1 60 = .ok (.invokevirtual 98, 3) := by decide +kernel
theorem d_X5_joinOf_63 : decode M_X5_joinOf.2.1 63 = .ok (.ifCond .eq 8, 3) := by decide +kernel
theorem d_X5_joinOf_66 : decode M_X5_joinOf.2.1 66 = .ok (.bipush (-5), 2) := by decide +kernel
theorem d_X5_joinOf_68 : decode M_X5_joinOf.2.1 68 = .ok (.goto 4, 3) := by decide +kernel
theorem d_X5_joinOf_71 : decode M_X5_joinOf.2.1 71 = .ok (.iconst 0, 1) := by decide +kernel
theorem d_X5_joinOf_72 : decode M_X5_joinOf.2.1 72 = .ok (.ireturn, 1) := by decide +kernel
theorem d_X5_joinOf_73 : decode M_X5_joinOf.2.1 73 = .ok (.iload_n 1, 1) := by decide +kernel
theorem d_X5_joinOf_74 : decode M_X5_joinOf.2.1 74 = .ok (.iconst 2, 1) := by decide +kernel
theorem d_X5_joinOf_75 : decode M_X5_joinOf.2.1 75 = .ok (.if_icmp .ne 35, 3) := by decide +kernel
theorem d_X5_joinOf_78 : decode M_X5_joinOf.2.1 78 = .ok (.aload_n 0, 1) := by decide +kernel
theorem d_X5_joinOf_79 : decode M_X5_joinOf.2.1 79 = .ok (.iconst 4, 1) := by decide +kernel
theorem d_X5_joinOf_80 : decode M_X5_joinOf.2.1 80 = .ok (.bipush 43, 2) := by decide +kernel
theorem d_X5_joinOf_82 : decode M_X5_joinOf.2.1 82 = .ok (.invokevirtual 98, 3) := by decide +kernel
theorem d_X5_joinOf_85 : decode M_X5_joinOf.2.1 85 = .ok (.ifCond .eq 8, 3) := by decide +kernel
theorem d_X5_joinOf_88 : decode M_X5_joinOf.2.1 88 = .ok (.bipush (-6), 2) := by decide +kernel
theorem d_X5_joinOf_90 : decode M_X5_joinOf.2.1 90 = .ok (.goto 19, 3) := by decide +kernel
theorem d_X5_joinOf_93 : decode M_X5_joinOf.2.1 93 = .ok (.aload_n 0, 1) := by decide +kernel
theorem d_X5_joinOf_94 : decode M_X5_joinOf.2.1 94 = .ok (.iconst 4, 1) := by decide +kernel
theorem d_X5_joinOf_95 : decode M_X5_joinOf.2.1 95 = .ok (.bipush 45, 2) := by decide +kernel
theorem d_X5_joinOf_97 : decode M_X5_joinOf.2.1 97 = .ok (.invokevirtual 98, 3) := by decide +kernel
theorem d_X5_joinOf_100 : decode M_X5_joinOf.2.1 100 = .ok (.ifCond .eq 8, 3) := by decide +kernel
theorem d_X5_joinOf_103 : decode M_X5_joinOf.2.1 103 = .ok (.bipush (-7), 2) := by decide +kernel
theorem d_X5_joinOf_105 : decode M_X5_joinOf.2.1 105 = .ok (.goto 4, 3) := by decide +kernel
theorem d_X5_joinOf_108 : decode M_X5_joinOf.2.1 108 = .ok (.iconst 0, 1) := by decide +kernel
theorem d_X5_joinOf_109 : decode M_X5_joinOf.2.1 109 = .ok (.ireturn, 1) := by decide +kernel
theorem d_X5_joinOf_110 : decode M_X5_joinOf.2.1 110 = .ok (.aload_n 0, 1) := by decide +kernel
theorem d_X5_joinOf_111 : decode M_X5_joinOf.2.1 111 = .ok (.iconst 4, 1) := by decide +kernel
theorem d_X5_joinOf_112 : decode M_X5_joinOf.2.1 112 = .ok (.bipush 42, 2) := by decide +kernel
theorem d_X5_joinOf_114 : decode M_X5_joinOf.2.1 114 = .ok (.invokevirtual 98, 3) := by decide +kernel
theorem d_X5_joinOf_117 : decode M_X5_joinOf.2.1 117 = .ok (.ifCond .eq 8, 3) := by decide +kernel
theorem d_X5_joinOf_120 : decode M_X5_joinOf.2.1 120 = .ok (.bipush (-8), 2) := by decide +kernel
theorem d_X5_joinOf_122 : decode M_X5_joinOf.2.1 122 = .ok (.goto 4, 3) := by decide +kernel
theorem d_X5_joinOf_125 : decode M_X5_joinOf.2.1 125 = .ok (.iconst 0, 1) := by decide +kernel
theorem d_X5_joinOf_126 : decode M_X5_joinOf.2.1 126 = .ok (.ireturn, 1) := by decide +kernel
set_option maxRecDepth 20000 in
theorem s_X5_joinOf_0 {d : Nat} {p0 : Int} {G : Mem} {Q : Int → Mem → Prop}  (h : (InR p0) ∧ ((p0 ≠ 0) → ((p0 ≠ 1) → ((p0 ≠ 2) → Ct d M_X5_stands NT 0 0 (some lay) [(2, 3), (0, 4), (0, 42)] G (fun r6 G5 => (InR r6) ∧ ((r6 = 0) → Q 0 G5) ∧ (¬ (r6 = 0) → Q (-8) G5))) ∧ (¬ (p0 ≠ 2) → Ct d M_X5_stands NT 0 0 (some lay) [(2, 3), (0, 4), (0, 43)] G (fun r10 G9 => (InR r10) ∧ ((r10 = 0) → Ct d M_X5_stands NT 0 0 (some lay) [(2, 3), (0, 4), (0, 45)] G9 (fun r14 G13 => (InR r14) ∧ ((r14 = 0) → Q 0 G13) ∧ (¬ (r14 = 0) → Q (-7) G13))) ∧ (¬ (r10 = 0) → Q (-6) G9)))) ∧ (¬ (p0 ≠ 1) → Ct d M_X5_stands NT 0 0 (some lay) [(2, 3), (0, 4), (0, 60)] G (fun r18 G17 => (InR r18) ∧ ((r18 = 0) → Ct d M_X5_stands NT 0 0 (some lay) [(2, 3), (0, 4), (0, 61)] G17 (fun r22 G21 => (InR r22) ∧ ((r22 = 0) → Q 0 G21) ∧ (¬ (r22 = 0) → Q (-5) G21))) ∧ (¬ (r18 = 0) → Q (-4) G17)))) ∧ (¬ (p0 ≠ 0) → Ct d M_X5_stands NT 0 0 (some lay) [(2, 3), (0, 2), (0, 22)] G (fun r26 G25 => (InR r26) ∧ ((r26 = 0) → Ct d M_X5_stands NT 0 0 (some lay) [(2, 3), (0, 2), (0, 23)] G25 (fun r30 G29 => (InR r30) ∧ ((r30 = 0) → Q 0 G29) ∧ (¬ (r30 = 0) → Q (-3) G29))) ∧ (¬ (r26 = 0) → Q (-2) G25)))) : Rn (d + 1) M_X5_joinOf zN 0 [(0, (2, 3)), (1, (0, p0))] [] G Q := by
  refine r_iload_n d_X5_joinOf_0 1 rfl rfl ?_
  obtain ⟨h1, h⟩ := h
  refine r_if_ne (tgt := 36) d_X5_joinOf_1 (by decide) h1 (fun c2 => ?_) (fun c2 => ?_)
  · replace h := h.1 c2
    refine r_iload_n d_X5_joinOf_36 1 rfl rfl ?_
    refine r_iconst d_X5_joinOf_37 ?_
    refine r_icmp_ne (tgt := 73) d_X5_joinOf_38 (by decide) h1 ⟨by decide, by decide⟩ (fun c3 => ?_) (fun c3 => ?_)
    · replace h := h.1 c3
      refine r_iload_n d_X5_joinOf_73 1 rfl rfl ?_
      refine r_iconst d_X5_joinOf_74 ?_
      refine r_icmp_ne (tgt := 110) d_X5_joinOf_75 (by decide) h1 ⟨by decide, by decide⟩ (fun c4 => ?_) (fun c4 => ?_)
      · replace h := h.1 c4
        refine r_aload_n d_X5_joinOf_110 0 rfl rfl ?_
        refine r_iconst d_X5_joinOf_111 ?_
        refine r_bipush d_X5_joinOf_112 (by decide +kernel) ?_
        refine r_callV0 (M' := M_X5_stands) (ci := 5) [(0, 4), (0, 42)] d_X5_joinOf_114 cl_X5_98 rfl (Nat.le_of_ble_eq_true rfl) (by decide) rfl (bs_ob bs_5) ?_
        refine Ct.mono h (fun r6 G5 h => ?_)
        show Rn _ M_X5_joinOf zN 117 [(0, (2, 3)), (1, (0, p0))] [(0, r6)] G5 Q
        obtain ⟨h7, h⟩ := h
        refine r_if_eq (tgt := 125) d_X5_joinOf_117 (by decide) h7 (fun c8 => ?_) (fun c8 => ?_)
        · replace h := h.1 c8
          refine r_iconst d_X5_joinOf_125 ?_
          exact r_ireturn d_X5_joinOf_126 rfl ⟨rfl, Nat.le_refl _, Nat.le_refl _⟩ h
        · replace h := h.2 c8
          refine r_bipush d_X5_joinOf_120 (by decide +kernel) ?_
          refine r_goto (tgt := 126) d_X5_joinOf_122 (by decide) ?_
          exact r_ireturn d_X5_joinOf_126 rfl ⟨rfl, Nat.le_refl _, Nat.le_refl _⟩ h
      · replace h := h.2 c4
        refine r_aload_n d_X5_joinOf_78 0 rfl rfl ?_
        refine r_iconst d_X5_joinOf_79 ?_
        refine r_bipush d_X5_joinOf_80 (by decide +kernel) ?_
        refine r_callV0 (M' := M_X5_stands) (ci := 5) [(0, 4), (0, 43)] d_X5_joinOf_82 cl_X5_98 rfl (Nat.le_of_ble_eq_true rfl) (by decide) rfl (bs_ob bs_5) ?_
        refine Ct.mono h (fun r10 G9 h => ?_)
        show Rn _ M_X5_joinOf zN 85 [(0, (2, 3)), (1, (0, p0))] [(0, r10)] G9 Q
        obtain ⟨h11, h⟩ := h
        refine r_if_eq (tgt := 93) d_X5_joinOf_85 (by decide) h11 (fun c12 => ?_) (fun c12 => ?_)
        · replace h := h.1 c12
          refine r_aload_n d_X5_joinOf_93 0 rfl rfl ?_
          refine r_iconst d_X5_joinOf_94 ?_
          refine r_bipush d_X5_joinOf_95 (by decide +kernel) ?_
          refine r_callV0 (M' := M_X5_stands) (ci := 5) [(0, 4), (0, 45)] d_X5_joinOf_97 cl_X5_98 rfl (Nat.le_of_ble_eq_true rfl) (by decide) rfl (bs_ob bs_5) ?_
          refine Ct.mono h (fun r14 G13 h => ?_)
          show Rn _ M_X5_joinOf zN 100 [(0, (2, 3)), (1, (0, p0))] [(0, r14)] G13 Q
          obtain ⟨h15, h⟩ := h
          refine r_if_eq (tgt := 108) d_X5_joinOf_100 (by decide) h15 (fun c16 => ?_) (fun c16 => ?_)
          · replace h := h.1 c16
            refine r_iconst d_X5_joinOf_108 ?_
            exact r_ireturn d_X5_joinOf_109 rfl ⟨rfl, Nat.le_refl _, Nat.le_refl _⟩ h
          · replace h := h.2 c16
            refine r_bipush d_X5_joinOf_103 (by decide +kernel) ?_
            refine r_goto (tgt := 109) d_X5_joinOf_105 (by decide) ?_
            exact r_ireturn d_X5_joinOf_109 rfl ⟨rfl, Nat.le_refl _, Nat.le_refl _⟩ h
        · replace h := h.2 c12
          refine r_bipush d_X5_joinOf_88 (by decide +kernel) ?_
          refine r_goto (tgt := 109) d_X5_joinOf_90 (by decide) ?_
          exact r_ireturn d_X5_joinOf_109 rfl ⟨rfl, Nat.le_refl _, Nat.le_refl _⟩ h
    · replace h := h.2 c3
      refine r_aload_n d_X5_joinOf_41 0 rfl rfl ?_
      refine r_iconst d_X5_joinOf_42 ?_
      refine r_bipush d_X5_joinOf_43 (by decide +kernel) ?_
      refine r_callV0 (M' := M_X5_stands) (ci := 5) [(0, 4), (0, 60)] d_X5_joinOf_45 cl_X5_98 rfl (Nat.le_of_ble_eq_true rfl) (by decide) rfl (bs_ob bs_5) ?_
      refine Ct.mono h (fun r18 G17 h => ?_)
      show Rn _ M_X5_joinOf zN 48 [(0, (2, 3)), (1, (0, p0))] [(0, r18)] G17 Q
      obtain ⟨h19, h⟩ := h
      refine r_if_eq (tgt := 56) d_X5_joinOf_48 (by decide) h19 (fun c20 => ?_) (fun c20 => ?_)
      · replace h := h.1 c20
        refine r_aload_n d_X5_joinOf_56 0 rfl rfl ?_
        refine r_iconst d_X5_joinOf_57 ?_
        refine r_bipush d_X5_joinOf_58 (by decide +kernel) ?_
        refine r_callV0 (M' := M_X5_stands) (ci := 5) [(0, 4), (0, 61)] d_X5_joinOf_60 cl_X5_98 rfl (Nat.le_of_ble_eq_true rfl) (by decide) rfl (bs_ob bs_5) ?_
        refine Ct.mono h (fun r22 G21 h => ?_)
        show Rn _ M_X5_joinOf zN 63 [(0, (2, 3)), (1, (0, p0))] [(0, r22)] G21 Q
        obtain ⟨h23, h⟩ := h
        refine r_if_eq (tgt := 71) d_X5_joinOf_63 (by decide) h23 (fun c24 => ?_) (fun c24 => ?_)
        · replace h := h.1 c24
          refine r_iconst d_X5_joinOf_71 ?_
          exact r_ireturn d_X5_joinOf_72 rfl ⟨rfl, Nat.le_refl _, Nat.le_refl _⟩ h
        · replace h := h.2 c24
          refine r_bipush d_X5_joinOf_66 (by decide +kernel) ?_
          refine r_goto (tgt := 72) d_X5_joinOf_68 (by decide) ?_
          exact r_ireturn d_X5_joinOf_72 rfl ⟨rfl, Nat.le_refl _, Nat.le_refl _⟩ h
      · replace h := h.2 c20
        refine r_bipush d_X5_joinOf_51 (by decide +kernel) ?_
        refine r_goto (tgt := 72) d_X5_joinOf_53 (by decide) ?_
        exact r_ireturn d_X5_joinOf_72 rfl ⟨rfl, Nat.le_refl _, Nat.le_refl _⟩ h
  · replace h := h.2 c2
    refine r_aload_n d_X5_joinOf_4 0 rfl rfl ?_
    refine r_iconst d_X5_joinOf_5 ?_
    refine r_bipush d_X5_joinOf_6 (by decide +kernel) ?_
    refine r_callV0 (M' := M_X5_stands) (ci := 5) [(0, 2), (0, 22)] d_X5_joinOf_8 cl_X5_98 rfl (Nat.le_of_ble_eq_true rfl) (by decide) rfl (bs_ob bs_5) ?_
    refine Ct.mono h (fun r26 G25 h => ?_)
    show Rn _ M_X5_joinOf zN 11 [(0, (2, 3)), (1, (0, p0))] [(0, r26)] G25 Q
    obtain ⟨h27, h⟩ := h
    refine r_if_eq (tgt := 19) d_X5_joinOf_11 (by decide) h27 (fun c28 => ?_) (fun c28 => ?_)
    · replace h := h.1 c28
      refine r_aload_n d_X5_joinOf_19 0 rfl rfl ?_
      refine r_iconst d_X5_joinOf_20 ?_
      refine r_bipush d_X5_joinOf_21 (by decide +kernel) ?_
      refine r_callV0 (M' := M_X5_stands) (ci := 5) [(0, 2), (0, 23)] d_X5_joinOf_23 cl_X5_98 rfl (Nat.le_of_ble_eq_true rfl) (by decide) rfl (bs_ob bs_5) ?_
      refine Ct.mono h (fun r30 G29 h => ?_)
      show Rn _ M_X5_joinOf zN 26 [(0, (2, 3)), (1, (0, p0))] [(0, r30)] G29 Q
      obtain ⟨h31, h⟩ := h
      refine r_if_eq (tgt := 34) d_X5_joinOf_26 (by decide) h31 (fun c32 => ?_) (fun c32 => ?_)
      · replace h := h.1 c32
        refine r_iconst d_X5_joinOf_34 ?_
        exact r_ireturn d_X5_joinOf_35 rfl ⟨rfl, Nat.le_refl _, Nat.le_refl _⟩ h
      · replace h := h.2 c32
        refine r_bipush d_X5_joinOf_29 (by decide +kernel) ?_
        refine r_goto (tgt := 35) d_X5_joinOf_31 (by decide) ?_
        exact r_ireturn d_X5_joinOf_35 rfl ⟨rfl, Nat.le_refl _, Nat.le_refl _⟩ h
    · replace h := h.2 c28
      refine r_bipush d_X5_joinOf_14 (by decide +kernel) ?_
      refine r_goto (tgt := 35) d_X5_joinOf_16 (by decide) ?_
      exact r_ireturn d_X5_joinOf_35 rfl ⟨rfl, Nat.le_refl _, Nat.le_refl _⟩ h
theorem d_X5_readPart_0 : decode M_X5_readPart.2.1 0 = .ok (.aload_n 0, 1) := by decide +kernel
theorem d_X5_readPart_1 : decode M_X5_readPart.2.1 1 = .ok (.getfield 34, 3) := by decide +kernel
theorem d_X5_readPart_4 : decode M_X5_readPart.2.1 4 = .ok (.ifCond .ne 18, 3) := by decide +kernel
theorem d_X5_readPart_7 : decode M_X5_readPart.2.1 7 = .ok (.aload_n 0, 1) := by decide +kernel
theorem d_X5_readPart_8 : decode M_X5_readPart.2.1 8 = .ok (.getfield 21, 3) := by decide +kernel
theorem d_X5_readPart_11 : decode M_X5_readPart.2.1 11 = .ok (.getfield 50, 3) := by decide +kernel
theorem d_X5_readPart_14 : decode M_X5_readPart.2.1 14 = .ok (.iconst 3, 1) := by decide +kernel
theorem d_X5_readPart_15 : decode M_X5_readPart.2.1 15 = .ok (.if_icmp .ne 7, 3) := by decide +kernel
theorem d_X5_readPart_18 : decode M_X5_readPart.2.1 18 = .ok (.iconst 1, 1) := by decide +kernel
theorem d_X5_readPart_19 : decode M_X5_readPart.2.1 19 = .ok (.goto 4, 3) := by decide +kernel
theorem d_X5_readPart_22 : decode M_X5_readPart.2.1 22 = .ok (.iconst 0, 1) := by decide +kernel
theorem d_X5_readPart_23 : decode M_X5_readPart.2.1 23 = .ok (.istore_n 3, 1) := by decide +kernel
theorem d_X5_readPart_24 : decode M_X5_readPart.2.1 24 = .ok (.aload_n 0, 1) := by decide +kernel
theorem d_X5_readPart_25 : decode M_X5_readPart.2.1 25 = .ok (.getfield 34, 3) := by decide +kernel
theorem d_X5_readPart_28 : decode M_X5_readPart.2.1 28 = .ok (.ifCond .ne 32, 3) := by decide +kernel
theorem d_X5_readPart_31 : decode M_X5_readPart.2.1 31 = .ok (.aload_n 0, 1) := by decide +kernel
theorem d_X5_readPart_32 : decode M_X5_readPart.2.1 32 = .ok (.getfield 21, 3) := by decide +kernel
theorem d_X5_readPart_35 : decode M_X5_readPart.2.1 35 = .ok (.getfield 50, 3) := by decide +kernel
theorem d_X5_readPart_38 : decode M_X5_readPart.2.1 38 = .ok (.iconst 2, 1) := by decide +kernel
theorem d_X5_readPart_39 : decode M_X5_readPart.2.1 39 = .ok (.if_icmp .ne 21, 3) := by decide +kernel
theorem d_X5_readPart_42 : decode M_X5_readPart.2.1 42 = .ok (.aload_n 0, 1) := by decide +kernel
theorem d_X5_readPart_43 : decode M_X5_readPart.2.1 43 = .ok (.getfield 21, 3) := by decide +kernel
theorem d_X5_readPart_46 : decode M_X5_readPart.2.1 46 = .ok (.getfield 53, 3) := by decide +kernel
theorem d_X5_readPart_49 : decode M_X5_readPart.2.1 49 = .ok (.iload_n 1, 1) := by decide +kernel
theorem d_X5_readPart_50 : decode M_X5_readPart.2.1 50 = .ok (.invokestatic 207, 3) := by decide +kernel
theorem d_X5_readPart_53 : decode M_X5_readPart.2.1 53 = .ok (.ifCond .eq 7, 3) := by decide +kernel
theorem d_X5_readPart_56 : decode M_X5_readPart.2.1 56 = .ok (.iconst 1, 1) := by decide +kernel
theorem d_X5_readPart_57 : decode M_X5_readPart.2.1 57 = .ok (.goto 4, 3) := by decide +kernel
theorem d_X5_readPart_60 : decode M_X5_readPart.2.1 60 = .ok (.iconst 0, 1) := by decide +kernel
theorem d_X5_readPart_61 : decode M_X5_readPart.2.1 61 = .ok (.istore 4, 2) := by decide +kernel
theorem d_X5_readPart_63 : decode M_X5_readPart.2.1 63 = .ok (.aload_n 0, 1) := by decide +kernel
theorem d_X5_readPart_64 : decode M_X5_readPart.2.1 64 = .ok (.iconst 2, 1) := by decide +kernel
theorem d_X5_readPart_65 : decode M_X5_readPart.2.1 65 = .ok (.bipush 21, 2) := by decide +kernel
theorem d_X5_readPart_67 : decode M_X5_readPart.2.1 67 = .ok (.invokevirtual 98, 3) := by decide +kernel
theorem d_X5_readPart_70 : decode M_X5_readPart.2.1 70 = .ok (.istore 5, 2) := by decide +kernel
theorem d_X5_readPart_72 : decode M_X5_readPart.2.1 72 = .ok (.aload_n 0, 1) := by decide +kernel
theorem d_X5_readPart_73 : decode M_X5_readPart.2.1 73 = .ok (.iconst 4, 1) := by decide +kernel
theorem d_X5_readPart_74 : decode M_X5_readPart.2.1 74 = .ok (.bipush 40, 2) := by decide +kernel
theorem d_X5_readPart_76 : decode M_X5_readPart.2.1 76 = .ok (.invokevirtual 98, 3) := by decide +kernel
theorem d_X5_readPart_79 : decode M_X5_readPart.2.1 79 = .ok (.istore 6, 2) := by decide +kernel
theorem d_X5_readPart_81 : decode M_X5_readPart.2.1 81 = .ok (.iload_n 3, 1) := by decide +kernel
theorem d_X5_readPart_82 : decode M_X5_readPart.2.1 82 = .ok (.ifCond .ne 24, 3) := by decide +kernel
theorem d_X5_readPart_85 : decode M_X5_readPart.2.1 85 = .ok (.iload 4, 2) := by decide +kernel
theorem d_X5_readPart_87 : decode M_X5_readPart.2.1 87 = .ok (.ifCond .ne 19, 3) := by decide +kernel
theorem d_X5_readPart_90 : decode M_X5_readPart.2.1 90 = .ok (.iload 5, 2) := by decide +kernel
theorem d_X5_readPart_92 : decode M_X5_readPart.2.1 92 = .ok (.ifCond .ne 14, 3) := by decide +kernel
theorem d_X5_readPart_95 : decode M_X5_readPart.2.1 95 = .ok (.iload 6, 2) := by decide +kernel
theorem d_X5_readPart_97 : decode M_X5_readPart.2.1 97 = .ok (.ifCond .ne 9, 3) := by decide +kernel
theorem d_X5_readPart_100 : decode M_X5_readPart.2.1 100 = .ok (.aload_n 0, 1) := by decide +kernel
theorem d_X5_readPart_101 : decode M_X5_readPart.2.1 101 = .ok (.iconst 1, 1) := by decide +kernel
theorem d_X5_readPart_102 : decode M_X5_readPart.2.1 102 = .ok (.invokevirtual 88, 3) := by decide +kernel
theorem d_X5_readPart_105 : decode M_X5_readPart.2.1 105 = .ok (.return_, 1) := by decide +kernel
theorem d_X5_readPart_106 : decode M_X5_readPart.2.1 106 = .ok (.iload_n 2, 1) := by decide +kernel
theorem d_X5_readPart_107 : decode M_X5_readPart.2.1 107 = .ok (.iconst 5, 1) := by decide +kernel
theorem d_X5_readPart_108 : decode M_X5_readPart.2.1 108 = .ok (.if_icmp .lt 9, 3) := by decide +kernel
theorem d_X5_readPart_111 : decode M_X5_readPart.2.1 111 = .ok (.aload_n 0, 1) := by decide +kernel
theorem d_X5_readPart_112 : decode M_X5_readPart.2.1 112 = .ok (.iconst 5, 1) := by decide +kernel
theorem d_X5_readPart_113 : decode M_X5_readPart.2.1 113 = .ok (.invokevirtual 88, 3) := by decide +kernel
theorem d_X5_readPart_116 : decode M_X5_readPart.2.1 116 = .ok (.return_, 1) := by decide +kernel
theorem d_X5_readPart_117 : decode M_X5_readPart.2.1 117 = .ok (.aload_n 0, 1) := by decide +kernel
theorem d_X5_readPart_118 : decode M_X5_readPart.2.1 118 = .ok (.getfield 21, 3) := by decide +kernel
theorem d_X5_readPart_121 : decode M_X5_readPart.2.1 121 = .ok (.getfield 53, 3) := by decide +kernel
theorem d_X5_readPart_124 : decode M_X5_readPart.2.1 124 = .ok (.istore 7, 2) := by decide +kernel
theorem d_X5_readPart_126 : decode M_X5_readPart.2.1 126 = .ok (.aload_n 0, 1) := by decide +kernel
theorem d_X5_readPart_127 : decode M_X5_readPart.2.1 127 = .ok (.getfield 21, 3) := by decide +kernel
theorem d_X5_readPart_130 : decode M_X5_readPart.2.1 130 = .ok (.invokevirtual 102, 3) := by decide +kernel
theorem d_X5_readPart_133 : decode M_X5_readPart.2.1 133 = .ok (.iload_n 3, 1) := by decide +kernel
theorem d_X5_readPart_134 : decode M_X5_readPart.2.1 134 = .ok (.ifCond .eq 18, 3) := by decide +kernel
theorem d_X5_readPart_137 : decode M_X5_readPart.2.1 137 = .ok (.aload_n 0, 1) := by decide +kernel
theorem d_X5_readPart_138 : decode M_X5_readPart.2.1 138 = .ok (.getfield 25, 3) := by decide +kernel
theorem d_X5_readPart_141 : decode M_X5_readPart.2.1 141 = .ok (.getfield 181, 3) := by decide +kernel
theorem d_X5_readPart_144 : decode M_X5_readPart.2.1 144 = .ok (.iload 7, 2) := by decide +kernel
theorem d_X5_readPart_146 : decode M_X5_readPart.2.1 146 = .ok (.invokevirtual 204, 3) := by decide +kernel
theorem d_X5_readPart_149 : decode M_X5_readPart.2.1 149 = .ok (.goto 71, 3) := by decide +kernel
theorem d_X5_readPart_152 : decode M_X5_readPart.2.1 152 = .ok (.iload 4, 2) := by decide +kernel
theorem d_X5_readPart_154 : decode M_X5_readPart.2.1 154 = .ok (.ifCond .eq 24, 3) := by decide +kernel
theorem d_X5_readPart_157 : decode M_X5_readPart.2.1 157 = .ok (.aload_n 0, 1) := by decide +kernel
theorem d_X5_readPart_158 : decode M_X5_readPart.2.1 158 = .ok (.getfield 25, 3) := by decide +kernel
theorem d_X5_readPart_161 : decode M_X5_readPart.2.1 161 = .ok (.getfield 181, 3) := by decide +kernel
theorem d_X5_readPart_164 : decode M_X5_readPart.2.1 164 = .ok (.bipush (-9), 2) := by decide +kernel
theorem d_X5_readPart_166 : decode M_X5_readPart.2.1 166 = .ok (.iload 7, 2) := by decide +kernel
theorem d_X5_readPart_168 : decode M_X5_readPart.2.1 168 = .ok (.bipush 24, 2) := by decide +kernel
theorem d_X5_readPart_170 : decode M_X5_readPart.2.1 170 = .ok (.isub, 1) := by decide +kernel
theorem d_X5_readPart_171 : decode M_X5_readPart.2.1 171 = .ok (.isub, 1) := by decide +kernel
theorem d_X5_readPart_172 : decode M_X5_readPart.2.1 172 = .ok (.invokevirtual 204, 3) := by decide +kernel
theorem d_X5_readPart_175 : decode M_X5_readPart.2.1 175 = .ok (.goto 45, 3) := by decide +kernel
theorem d_X5_readPart_178 : decode M_X5_readPart.2.1 178 = .ok (.iload 5, 2) := by decide +kernel
theorem d_X5_readPart_180 : decode M_X5_readPart.2.1 180 = .ok (.ifCond .eq 25, 3) := by decide +kernel
theorem d_X5_readPart_183 : decode M_X5_readPart.2.1 183 = .ok (.aload_n 0, 1) := by decide +kernel
theorem d_X5_readPart_184 : decode M_X5_readPart.2.1 184 = .ok (.iload_n 1, 1) := by decide +kernel
theorem d_X5_readPart_185 : decode M_X5_readPart.2.1 185 = .ok (.iload_n 2, 1) := by decide +kernel
theorem d_X5_readPart_186 : decode M_X5_readPart.2.1 186 = .ok (.iconst 1, 1) := by decide +kernel
theorem d_X5_readPart_187 : decode M_X5_readPart.2.1 187 = .ok (.iadd, 1) := by decide +kernel
theorem d_X5_readPart_188 : decode M_X5_readPart.2.1 188 = .ok (.invokevirtual 196, 3) := by decide +kernel
theorem d_X5_readPart_191 : decode M_X5_readPart.2.1 191 = .ok (.aload_n 0, 1) := by decide +kernel
theorem d_X5_readPart_192 : decode M_X5_readPart.2.1 192 = .ok (.getfield 25, 3) := by decide +kernel
theorem d_X5_readPart_195 : decode M_X5_readPart.2.1 195 = .ok (.getfield 181, 3) := by decide +kernel
theorem d_X5_readPart_198 : decode M_X5_readPart.2.1 198 = .ok (.iconst (-1), 1) := by decide +kernel
theorem d_X5_readPart_199 : decode M_X5_readPart.2.1 199 = .ok (.invokevirtual 204, 3) := by decide +kernel
theorem d_X5_readPart_202 : decode M_X5_readPart.2.1 202 = .ok (.goto 18, 3) := by decide +kernel
theorem d_X5_readPart_205 : decode M_X5_readPart.2.1 205 = .ok (.aload_n 0, 1) := by decide +kernel
theorem d_X5_readPart_206 : decode M_X5_readPart.2.1 206 = .ok (.iload_n 1, 1) := by decide +kernel
theorem d_X5_readPart_207 : decode M_X5_readPart.2.1 207 = .ok (.iconst 0, 1) := by decide +kernel
theorem d_X5_readPart_208 : decode M_X5_readPart.2.1 208 = .ok (.iload_n 2, 1) := by decide +kernel
theorem d_X5_readPart_209 : decode M_X5_readPart.2.1 209 = .ok (.iconst 1, 1) := by decide +kernel
theorem d_X5_readPart_210 : decode M_X5_readPart.2.1 210 = .ok (.iadd, 1) := by decide +kernel
theorem d_X5_readPart_211 : decode M_X5_readPart.2.1 211 = .ok (.invokevirtual 189, 3) := by decide +kernel
theorem d_X5_readPart_214 : decode M_X5_readPart.2.1 214 = .ok (.aload_n 0, 1) := by decide +kernel
theorem d_X5_readPart_215 : decode M_X5_readPart.2.1 215 = .ok (.bipush 41, 2) := by decide +kernel
theorem d_X5_readPart_217 : decode M_X5_readPart.2.1 217 = .ok (.invokevirtual 91, 3) := by decide +kernel
theorem d_X5_readPart_220 : decode M_X5_readPart.2.1 220 = .ok (.return_, 1) := by decide +kernel
set_option maxRecDepth 20000 in
theorem s_X5_readPart_0 {d : Nat} {p0 : Int} {p1 : Int} {G : Mem} {Q : Int → Mem → Prop}  (h : (InR (G 3 4)) ∧ (((G 3 4) ≠ 0) → Rn d M_X5_readPart zN 23 [(0, (2, 3)), (1, (0, p0)), (2, (0, p1))] [(0, 0)] G Q) ∧ (¬ ((G 3 4) ≠ 0) → ((G 3 2) = 1) ∧ ((InR (G 1 3)) ∧ (((G 1 3) ≠ 3) → Rn d M_X5_readPart zN 23 [(0, (2, 3)), (1, (0, p0)), (2, (0, p1))] [(0, 0)] G Q) ∧ (¬ ((G 1 3) ≠ 3) → Rn d M_X5_readPart zN 23 [(0, (2, 3)), (1, (0, p0)), (2, (0, p1))] [(0, 1)] G Q)))) : Rn d M_X5_readPart zN 0 [(0, (2, 3)), (1, (0, p0)), (2, (0, p1))] [] G Q := by
  refine r_aload_n d_X5_readPart_0 0 rfl rfl ?_
  refine r_getI 5 4 4 rfl d_X5_readPart_1 fl_X5_34 (by decide) (bs_ob bs_5) ?_
  obtain ⟨h1, h⟩ := h
  refine r_if_ne (tgt := 22) d_X5_readPart_4 (by decide) h1 (fun c2 => ?_) (fun c2 => ?_)
  · replace h := h.1 c2
    refine r_iconst d_X5_readPart_22 ?_
    exact h
  · replace h := h.2 c2
    refine r_aload_n d_X5_readPart_7 0 rfl rfl ?_
    obtain ⟨h3, h⟩ := h
    refine r_getM 5 2 2 rfl d_X5_readPart_8 fl_X5_21 (by decide) (bs_ob bs_5) h3 (by decide) ?_
    refine r_getI 10 3 3 rfl d_X5_readPart_11 fl_X5_50 (by decide) (bs_ob bs_10) ?_
    refine r_iconst d_X5_readPart_14 ?_
    obtain ⟨h4, h⟩ := h
    refine r_icmp_ne (tgt := 22) d_X5_readPart_15 (by decide) h4 ⟨by decide, by decide⟩ (fun c5 => ?_) (fun c5 => ?_)
    · replace h := h.1 c5
      refine r_iconst d_X5_readPart_22 ?_
      exact h
    · replace h := h.2 c5
      refine r_iconst d_X5_readPart_18 ?_
      refine r_goto (tgt := 23) d_X5_readPart_19 (by decide) ?_
      exact h
set_option maxRecDepth 20000 in
theorem s_X5_readPart_23 {d : Nat} {x1 : Int} {x2 : Int} {s0 : Int} {G : Mem} {Q : Int → Mem → Prop}  (h : (InR (G 3 4)) ∧ (((G 3 4) ≠ 0) → Rn (d + 1) M_X5_readPart zN 61 [(0, (2, 3)), (1, (0, x1)), (2, (0, x2)), (3, (0, s0))] [(0, 0)] G Q) ∧ (¬ ((G 3 4) ≠ 0) → ((G 3 2) = 1) ∧ ((InR (G 1 3)) ∧ (((G 1 3) ≠ 2) → Rn (d + 1) M_X5_readPart zN 61 [(0, (2, 3)), (1, (0, x1)), (2, (0, x2)), (3, (0, s0))] [(0, 0)] G Q) ∧ (¬ ((G 1 3) ≠ 2) → Ct d M_X10_isFactOf NT 0 0 (some lay) [(0, (G 1 4)), (0, x1)] G (fun r7 G6 => (InR r7) ∧ ((r7 = 0) → Rn (d + 1) M_X5_readPart zN 61 [(0, (2, 3)), (1, (0, x1)), (2, (0, x2)), (3, (0, s0))] [(0, 0)] G6 Q) ∧ (¬ (r7 = 0) → Rn (d + 1) M_X5_readPart zN 61 [(0, (2, 3)), (1, (0, x1)), (2, (0, x2)), (3, (0, s0))] [(0, 1)] G6 Q)))))) : Rn (d + 1) M_X5_readPart zN 23 [(0, (2, 3)), (1, (0, x1)), (2, (0, x2))] [(0, s0)] G Q := by
  refine r_istore_n (ls1 := [(3, (0, s0)), (0, (2, 3)), (1, (0, x1)), (2, (0, x2))]) d_X5_readPart_23 rfl (by decide) rfl ?_
  refine r_aload_n d_X5_readPart_24 1 rfl rfl ?_
  refine r_getI 5 4 4 rfl d_X5_readPart_25 fl_X5_34 (by decide) (bs_ob bs_5) ?_
  obtain ⟨h1, h⟩ := h
  refine r_if_ne (tgt := 60) d_X5_readPart_28 (by decide) h1 (fun c2 => ?_) (fun c2 => ?_)
  · replace h := h.1 c2
    refine r_iconst d_X5_readPart_60 ?_
    exact Rn.sub [1, 2, 3, 0] rfl h
  · replace h := h.2 c2
    refine r_aload_n d_X5_readPart_31 1 rfl rfl ?_
    obtain ⟨h3, h⟩ := h
    refine r_getM 5 2 2 rfl d_X5_readPart_32 fl_X5_21 (by decide) (bs_ob bs_5) h3 (by decide) ?_
    refine r_getI 10 3 3 rfl d_X5_readPart_35 fl_X5_50 (by decide) (bs_ob bs_10) ?_
    refine r_iconst d_X5_readPart_38 ?_
    obtain ⟨h4, h⟩ := h
    refine r_icmp_ne (tgt := 60) d_X5_readPart_39 (by decide) h4 ⟨by decide, by decide⟩ (fun c5 => ?_) (fun c5 => ?_)
    · replace h := h.1 c5
      refine r_iconst d_X5_readPart_60 ?_
      exact Rn.sub [1, 2, 3, 0] rfl h
    · replace h := h.2 c5
      refine r_aload_n d_X5_readPart_42 1 rfl rfl ?_
      refine r_getM 5 2 2 rfl d_X5_readPart_43 fl_X5_21 (by decide) (bs_ob bs_5) h3 (by decide) ?_
      refine r_getI 10 4 4 rfl d_X5_readPart_46 fl_X5_53 (by decide) (bs_ob bs_10) ?_
      refine r_iload_n d_X5_readPart_49 2 rfl rfl ?_
      refine r_callS0 (M' := M_X10_isFactOf) [(0, (G 1 4)), (0, x1)] d_X5_readPart_50 cl_X5_207 rfl (Nat.le_of_ble_eq_true rfl) ?_
      refine Ct.mono h (fun r7 G6 h => ?_)
      show Rn _ M_X5_readPart zN 53 [(3, (0, s0)), (0, (2, 3)), (1, (0, x1)), (2, (0, x2))] [(0, r7)] G6 Q
      obtain ⟨h8, h⟩ := h
      refine r_if_eq (tgt := 60) d_X5_readPart_53 (by decide) h8 (fun c9 => ?_) (fun c9 => ?_)
      · replace h := h.1 c9
        refine r_iconst d_X5_readPart_60 ?_
        exact Rn.sub [1, 2, 3, 0] rfl h
      · replace h := h.2 c9
        refine r_iconst d_X5_readPart_56 ?_
        refine r_goto (tgt := 61) d_X5_readPart_57 (by decide) ?_
        exact Rn.sub [1, 2, 3, 0] rfl h
set_option maxRecDepth 20000 in
theorem s_X5_readPart_61 {d : Nat} {x1 : Int} {x2 : Int} {x3 : Int} {s0 : Int} {G : Mem} {Q : Int → Mem → Prop}  (h : Ct d M_X5_stands NT 0 0 (some lay) [(2, 3), (0, 2), (0, 21)] G (fun r2 G1 => Ct d M_X5_stands NT 0 0 (some lay) [(2, 3), (0, 4), (0, 40)] G1 (fun r4 G3 => (InR x3) ∧ ((x3 ≠ 0) → Rn (d + 1) M_X5_readPart zN 106 [(0, (2, 3)), (1, (0, x1)), (2, (0, x2)), (3, (0, x3)), (4, (0, s0)), (5, (0, r2))] [] G3 Q) ∧ (¬ (x3 ≠ 0) → (InR s0) ∧ ((s0 ≠ 0) → Rn (d + 1) M_X5_readPart zN 106 [(0, (2, 3)), (1, (0, x1)), (2, (0, x2)), (3, (0, x3)), (4, (0, s0)), (5, (0, r2))] [] G3 Q) ∧ (¬ (s0 ≠ 0) → (InR r2) ∧ ((r2 ≠ 0) → Rn (d + 1) M_X5_readPart zN 106 [(0, (2, 3)), (1, (0, x1)), (2, (0, x2)), (3, (0, x3)), (4, (0, s0)), (5, (0, r2))] [] G3 Q) ∧ (¬ (r2 ≠ 0) → (InR r4) ∧ ((r4 ≠ 0) → Rn (d + 1) M_X5_readPart zN 106 [(0, (2, 3)), (1, (0, x1)), (2, (0, x2)), (3, (0, x3)), (4, (0, s0)), (5, (0, r2))] [] G3 Q) ∧ (¬ (r4 ≠ 0) → Ct d M_X5_wrong NT 0 0 (some lay) [(2, 3), (0, 1)] G3 (fun r14 G13 => Q 0 G13)))))))) : Rn (d + 1) M_X5_readPart zN 61 [(0, (2, 3)), (1, (0, x1)), (2, (0, x2)), (3, (0, x3))] [(0, s0)] G Q := by
  refine r_istore (ls1 := [(4, (0, s0)), (0, (2, 3)), (1, (0, x1)), (2, (0, x2)), (3, (0, x3))]) d_X5_readPart_61 (by decide) rfl ?_
  refine r_aload_n d_X5_readPart_63 1 rfl rfl ?_
  refine r_iconst d_X5_readPart_64 ?_
  refine r_bipush d_X5_readPart_65 (by decide +kernel) ?_
  refine r_callV0 (M' := M_X5_stands) (ci := 5) [(0, 2), (0, 21)] d_X5_readPart_67 cl_X5_98 rfl (Nat.le_of_ble_eq_true rfl) (by decide) rfl (bs_ob bs_5) ?_
  refine Ct.mono h (fun r2 G1 h => ?_)
  show Rn _ M_X5_readPart zN 70 [(4, (0, s0)), (0, (2, 3)), (1, (0, x1)), (2, (0, x2)), (3, (0, x3))] [(0, r2)] G1 Q
  refine r_istore (ls1 := [(5, (0, r2)), (4, (0, s0)), (0, (2, 3)), (1, (0, x1)), (2, (0, x2)), (3, (0, x3))]) d_X5_readPart_70 (by decide) rfl ?_
  refine r_aload_n d_X5_readPart_72 2 rfl rfl ?_
  refine r_iconst d_X5_readPart_73 ?_
  refine r_bipush d_X5_readPart_74 (by decide +kernel) ?_
  refine r_callV0 (M' := M_X5_stands) (ci := 5) [(0, 4), (0, 40)] d_X5_readPart_76 cl_X5_98 rfl (Nat.le_of_ble_eq_true rfl) (by decide) rfl (bs_ob bs_5) ?_
  refine Ct.mono h (fun r4 G3 h => ?_)
  show Rn _ M_X5_readPart zN 79 [(5, (0, r2)), (4, (0, s0)), (0, (2, 3)), (1, (0, x1)), (2, (0, x2)), (3, (0, x3))] [(0, r4)] G3 Q
  refine r_istore (ls1 := [(6, (0, r4)), (5, (0, r2)), (4, (0, s0)), (0, (2, 3)), (1, (0, x1)), (2, (0, x2)), (3, (0, x3))]) d_X5_readPart_79 (by decide) rfl ?_
  refine r_iload_n d_X5_readPart_81 6 rfl rfl ?_
  obtain ⟨h5, h⟩ := h
  refine r_if_ne (tgt := 106) d_X5_readPart_82 (by decide) h5 (fun c6 => ?_) (fun c6 => ?_)
  · replace h := h.1 c6
    exact Rn.sub [3, 4, 5, 6, 2, 1] rfl h
  · replace h := h.2 c6
    refine r_iload d_X5_readPart_85 2 rfl ?_
    obtain ⟨h7, h⟩ := h
    refine r_if_ne (tgt := 106) d_X5_readPart_87 (by decide) h7 (fun c8 => ?_) (fun c8 => ?_)
    · replace h := h.1 c8
      exact Rn.sub [3, 4, 5, 6, 2, 1] rfl h
    · replace h := h.2 c8
      refine r_iload d_X5_readPart_90 1 rfl ?_
      obtain ⟨h9, h⟩ := h
      refine r_if_ne (tgt := 106) d_X5_readPart_92 (by decide) h9 (fun c10 => ?_) (fun c10 => ?_)
      · replace h := h.1 c10
        exact Rn.sub [3, 4, 5, 6, 2, 1] rfl h
      · replace h := h.2 c10
        refine r_iload d_X5_readPart_95 0 rfl ?_
        obtain ⟨h11, h⟩ := h
        refine r_if_ne (tgt := 106) d_X5_readPart_97 (by decide) h11 (fun c12 => ?_) (fun c12 => ?_)
        · replace h := h.1 c12
          exact Rn.sub [3, 4, 5, 6, 2, 1] rfl h
        · replace h := h.2 c12
          refine r_aload_n d_X5_readPart_100 3 rfl rfl ?_
          refine r_iconst d_X5_readPart_101 ?_
          refine r_callV0 (M' := M_X5_wrong) (ci := 5) [(0, 1)] d_X5_readPart_102 cl_X5_88 rfl (Nat.le_of_ble_eq_true rfl) (by decide) rfl (bs_ob bs_5) ?_
          refine Ct.mono h (fun r14 G13 h => ?_)
          show Rn _ M_X5_readPart zN 105 [(6, (0, r4)), (5, (0, r2)), (4, (0, s0)), (0, (2, 3)), (1, (0, x1)), (2, (0, x2)), (3, (0, x3))] [] G13 Q
          exact r_ret d_X5_readPart_105 rfl ⟨rfl, Nat.le_refl _, Nat.le_refl _⟩ h
set_option maxRecDepth 20000 in
theorem s_X5_readPart_106 {d : Nat} {x1 : Int} {x2 : Int} {x3 : Int} {x4 : Int} {x5 : Int} {G : Mem} {Q : Int → Mem → Prop}  (h : (InR x2) ∧ ((x2 < 5) → ((G 3 2) = 1) ∧ (Ct d M_X10_step NT 0 0 (some lay) [(2, 1)] G (fun r5 G4 => (InR x3) ∧ ((x3 = 0) → (InR x4) ∧ ((x4 = 0) → (InR x5) ∧ ((x5 = 0) → Ct d M_X5_readJoined NT 0 0 (some lay) [(2, 3), (0, x1), (0, 0), (0, (x2 + 1))] G4 (fun r13 G12 => Ct d M_X5_readSign NT 0 0 (some lay) [(2, 3), (0, 41)] G12 (fun r15 G14 => Q 0 G14))) ∧ (¬ (x5 = 0) → Ct d M_X5_readPart NT 0 0 (some lay) [(2, 3), (0, x1), (0, (x2 + 1))] G4 (fun r17 G16 => ∀ b18 : Int, b18 = (G16 3 3) → (Bs 1 b18 ∧ Ct d M_X3_add NT 0 0 (some lay) [(2, (b18 + 6)), (0, (-1))] G16 (fun r22 G21 => Q 0 G21))))) ∧ (¬ (x4 = 0) → ∀ b23 : Int, b23 = (G4 3 3) → (Bs 1 b23 ∧ Ct d M_X3_add NT 0 0 (some lay) [(2, (b23 + 6)), (0, ((-9) - ((G 1 4) - 24)))] G4 (fun r27 G26 => Q 0 G26)))) ∧ (¬ (x3 = 0) → ∀ b28 : Int, b28 = (G4 3 3) → (Bs 1 b28 ∧ Ct d M_X3_add NT 0 0 (some lay) [(2, (b28 + 6)), (0, (G 1 4))] G4 (fun r32 G31 => Q 0 G31)))))) ∧ (¬ (x2 < 5) → Ct d M_X5_wrong NT 0 0 (some lay) [(2, 3), (0, 5)] G (fun r34 G33 => Q 0 G33))) : Rn (d + 1) M_X5_readPart zN 106 [(0, (2, 3)), (1, (0, x1)), (2, (0, x2)), (3, (0, x3)), (4, (0, x4)), (5, (0, x5))] [] G Q := by
  refine r_iload_n d_X5_readPart_106 2 rfl rfl ?_
  refine r_iconst d_X5_readPart_107 ?_
  obtain ⟨h1, h⟩ := h
  refine r_icmp_lt (tgt := 117) d_X5_readPart_108 (by decide) h1 ⟨by decide, by decide⟩ (fun c2 => ?_) (fun c2 => ?_)
  · replace h := h.1 c2
    refine r_aload_n d_X5_readPart_117 0 rfl rfl ?_
    obtain ⟨h3, h⟩ := h
    refine r_getM 5 2 2 rfl d_X5_readPart_118 fl_X5_21 (by decide) (bs_ob bs_5) h3 (by decide) ?_
    refine r_getI 10 4 4 rfl d_X5_readPart_121 fl_X5_53 (by decide) (bs_ob bs_10) ?_
    refine r_istore (ls1 := [(7, (0, (G 1 4))), (0, (2, 3)), (1, (0, x1)), (2, (0, x2)), (3, (0, x3)), (4, (0, x4)), (5, (0, x5))]) d_X5_readPart_124 (by decide) rfl ?_
    refine r_aload_n d_X5_readPart_126 1 rfl rfl ?_
    refine r_getM 5 2 2 rfl d_X5_readPart_127 fl_X5_21 (by decide) (bs_ob bs_5) h3 (by decide) ?_
    refine r_callV0 (M' := M_X10_step) (ci := 10) [] d_X5_readPart_130 cl_X5_102 rfl (Nat.le_of_ble_eq_true rfl) (by decide) rfl (bs_ob bs_10) ?_
    refine Ct.mono h (fun r5 G4 h => ?_)
    show Rn _ M_X5_readPart zN 133 [(7, (0, (G 1 4))), (0, (2, 3)), (1, (0, x1)), (2, (0, x2)), (3, (0, x3)), (4, (0, x4)), (5, (0, x5))] [] G4 Q
    refine r_iload_n d_X5_readPart_133 4 rfl rfl ?_
    obtain ⟨h6, h⟩ := h
    refine r_if_eq (tgt := 152) d_X5_readPart_134 (by decide) h6 (fun c7 => ?_) (fun c7 => ?_)
    · replace h := h.1 c7
      refine r_iload d_X5_readPart_152 5 rfl ?_
      obtain ⟨h8, h⟩ := h
      refine r_if_eq (tgt := 178) d_X5_readPart_154 (by decide) h8 (fun c9 => ?_) (fun c9 => ?_)
      · replace h := h.1 c9
        refine r_iload d_X5_readPart_178 6 rfl ?_
        obtain ⟨h10, h⟩ := h
        refine r_if_eq (tgt := 205) d_X5_readPart_180 (by decide) h10 (fun c11 => ?_) (fun c11 => ?_)
        · replace h := h.1 c11
          refine r_aload_n d_X5_readPart_205 1 rfl rfl ?_
          refine r_iload_n d_X5_readPart_206 2 rfl rfl ?_
          refine r_iconst d_X5_readPart_207 ?_
          refine r_iload_n d_X5_readPart_208 3 rfl rfl ?_
          refine r_iconst d_X5_readPart_209 ?_
          refine r_iadd d_X5_readPart_210 ?_
          refine r_callV0 (M' := M_X5_readJoined) (ci := 5) [(0, x1), (0, 0), (0, (x2 + 1))] d_X5_readPart_211 cl_X5_189 rfl (Nat.le_of_ble_eq_true rfl) (by decide) rfl (bs_ob bs_5) ?_
          refine Ct.mono h (fun r13 G12 h => ?_)
          show Rn _ M_X5_readPart zN 214 [(7, (0, (G 1 4))), (0, (2, 3)), (1, (0, x1)), (2, (0, x2)), (3, (0, x3)), (4, (0, x4)), (5, (0, x5))] [] G12 Q
          refine r_aload_n d_X5_readPart_214 1 rfl rfl ?_
          refine r_bipush d_X5_readPart_215 (by decide +kernel) ?_
          refine r_callV0 (M' := M_X5_readSign) (ci := 5) [(0, 41)] d_X5_readPart_217 cl_X5_91 rfl (Nat.le_of_ble_eq_true rfl) (by decide) rfl (bs_ob bs_5) ?_
          refine Ct.mono h (fun r15 G14 h => ?_)
          show Rn _ M_X5_readPart zN 220 [(7, (0, (G 1 4))), (0, (2, 3)), (1, (0, x1)), (2, (0, x2)), (3, (0, x3)), (4, (0, x4)), (5, (0, x5))] [] G14 Q
          exact r_ret d_X5_readPart_220 rfl ⟨rfl, Nat.le_refl _, Nat.le_refl _⟩ h
        · replace h := h.2 c11
          refine r_aload_n d_X5_readPart_183 1 rfl rfl ?_
          refine r_iload_n d_X5_readPart_184 2 rfl rfl ?_
          refine r_iload_n d_X5_readPart_185 3 rfl rfl ?_
          refine r_iconst d_X5_readPart_186 ?_
          refine r_iadd d_X5_readPart_187 ?_
          refine r_callV0 (M' := M_X5_readPart) (ci := 5) [(0, x1), (0, (x2 + 1))] d_X5_readPart_188 cl_X5_196 rfl (Nat.le_of_ble_eq_true rfl) (by decide) rfl (bs_ob bs_5) ?_
          refine Ct.mono h (fun r17 G16 h => ?_)
          show Rn _ M_X5_readPart zN 191 [(7, (0, (G 1 4))), (0, (2, 3)), (1, (0, x1)), (2, (0, x2)), (3, (0, x3)), (4, (0, x4)), (5, (0, x5))] [] G16 Q
          refine r_aload_n d_X5_readPart_191 1 rfl rfl ?_
          obtain ⟨b18, e20⟩ : ∃ y : Int, y = (G16 3 3) := ⟨_, rfl⟩
          replace h := h b18 e20
          obtain ⟨h19, h⟩ := h
          refine r_getM 5 3 3 rfl d_X5_readPart_192 fl_X5_25 (by decide) (bs_ob bs_5) e20.symm (bs_nn h19) ?_
          refine r_getL (v := (b18 + 6)) 1 5 5 rfl d_X5_readPart_195 fl_X5_181 (by decide) (bs_ob h19) (ly_1_5 h19).1 (ly_1_5 h19).2.1 ?_
          refine r_iconst d_X5_readPart_198 ?_
          refine r_callV0 (M' := M_X3_add) (ci := 3) [(0, (-1))] d_X5_readPart_199 cl_X5_204 rfl (Nat.le_of_ble_eq_true rfl) (by decide) rfl (bs_ob (ly_1_5 h19).2.2) ?_
          refine Ct.mono h (fun r22 G21 h => ?_)
          show Rn _ M_X5_readPart zN 202 [(7, (0, (G 1 4))), (0, (2, 3)), (1, (0, x1)), (2, (0, x2)), (3, (0, x3)), (4, (0, x4)), (5, (0, x5))] [] G21 Q
          refine r_goto (tgt := 220) d_X5_readPart_202 (by decide) ?_
          exact r_ret d_X5_readPart_220 rfl ⟨rfl, Nat.le_refl _, Nat.le_refl _⟩ h
      · replace h := h.2 c9
        refine r_aload_n d_X5_readPart_157 1 rfl rfl ?_
        obtain ⟨b23, e25⟩ : ∃ y : Int, y = (G4 3 3) := ⟨_, rfl⟩
        replace h := h b23 e25
        obtain ⟨h24, h⟩ := h
        refine r_getM 5 3 3 rfl d_X5_readPart_158 fl_X5_25 (by decide) (bs_ob bs_5) e25.symm (bs_nn h24) ?_
        refine r_getL (v := (b23 + 6)) 1 5 5 rfl d_X5_readPart_161 fl_X5_181 (by decide) (bs_ob h24) (ly_1_5 h24).1 (ly_1_5 h24).2.1 ?_
        refine r_bipush d_X5_readPart_164 (by decide +kernel) ?_
        refine r_iload d_X5_readPart_166 0 rfl ?_
        refine r_bipush d_X5_readPart_168 (by decide +kernel) ?_
        refine r_isub d_X5_readPart_170 ?_
        refine r_isub d_X5_readPart_171 ?_
        refine r_callV0 (M' := M_X3_add) (ci := 3) [(0, ((-9) - ((G 1 4) - 24)))] d_X5_readPart_172 cl_X5_204 rfl (Nat.le_of_ble_eq_true rfl) (by decide) rfl (bs_ob (ly_1_5 h24).2.2) ?_
        refine Ct.mono h (fun r27 G26 h => ?_)
        show Rn _ M_X5_readPart zN 175 [(7, (0, (G 1 4))), (0, (2, 3)), (1, (0, x1)), (2, (0, x2)), (3, (0, x3)), (4, (0, x4)), (5, (0, x5))] [] G26 Q
        refine r_goto (tgt := 220) d_X5_readPart_175 (by decide) ?_
        exact r_ret d_X5_readPart_220 rfl ⟨rfl, Nat.le_refl _, Nat.le_refl _⟩ h
    · replace h := h.2 c7
      refine r_aload_n d_X5_readPart_137 1 rfl rfl ?_
      obtain ⟨b28, e30⟩ : ∃ y : Int, y = (G4 3 3) := ⟨_, rfl⟩
      replace h := h b28 e30
      obtain ⟨h29, h⟩ := h
      refine r_getM 5 3 3 rfl d_X5_readPart_138 fl_X5_25 (by decide) (bs_ob bs_5) e30.symm (bs_nn h29) ?_
      refine r_getL (v := (b28 + 6)) 1 5 5 rfl d_X5_readPart_141 fl_X5_181 (by decide) (bs_ob h29) (ly_1_5 h29).1 (ly_1_5 h29).2.1 ?_
      refine r_iload d_X5_readPart_144 0 rfl ?_
      refine r_callV0 (M' := M_X3_add) (ci := 3) [(0, (G 1 4))] d_X5_readPart_146 cl_X5_204 rfl (Nat.le_of_ble_eq_true rfl) (by decide) rfl (bs_ob (ly_1_5 h29).2.2) ?_
      refine Ct.mono h (fun r32 G31 h => ?_)
      show Rn _ M_X5_readPart zN 149 [(7, (0, (G 1 4))), (0, (2, 3)), (1, (0, x1)), (2, (0, x2)), (3, (0, x3)), (4, (0, x4)), (5, (0, x5))] [] G31 Q
      refine r_goto (tgt := 220) d_X5_readPart_149 (by decide) ?_
      exact r_ret d_X5_readPart_220 rfl ⟨rfl, Nat.le_refl _, Nat.le_refl _⟩ h
  · replace h := h.2 c2
    refine r_aload_n d_X5_readPart_111 0 rfl rfl ?_
    refine r_iconst d_X5_readPart_112 ?_
    refine r_callV0 (M' := M_X5_wrong) (ci := 5) [(0, 5)] d_X5_readPart_113 cl_X5_88 rfl (Nat.le_of_ble_eq_true rfl) (by decide) rfl (bs_ob bs_5) ?_
    refine Ct.mono h (fun r34 G33 h => ?_)
    show Rn _ M_X5_readPart zN 116 [(0, (2, 3)), (1, (0, x1)), (2, (0, x2)), (3, (0, x3)), (4, (0, x4)), (5, (0, x5))] [] G33 Q
    exact r_ret d_X5_readPart_116 rfl ⟨rfl, Nat.le_refl _, Nat.le_refl _⟩ h
