theorem d_X2_seatAsTold_0 : decode M_X2_seatAsTold.2.1 0 = .ok (.aload_n 1, 1) := by decide +kernel
theorem d_X2_seatAsTold_1 : decode M_X2_seatAsTold.2.1 1 = .ok (.getfield 34, 3) := by decide +kernel
theorem d_X2_seatAsTold_4 : decode M_X2_seatAsTold.2.1 4 = .ok (.iconst 0, 1) := by decide +kernel
theorem d_X2_seatAsTold_5 : decode M_X2_seatAsTold.2.1 5 = .ok (.aload_n 0, 1) := by decide +kernel
theorem d_X2_seatAsTold_6 : decode M_X2_seatAsTold.2.1 6 = .ok (.getfield 28, 3) := by decide +kernel
theorem d_X2_seatAsTold_9 : decode M_X2_seatAsTold.2.1 9 = .ok (.iconst 0, 1) := by decide +kernel
theorem d_X2_seatAsTold_10 : decode M_X2_seatAsTold.2.1 10 = .ok (.aload_n 0, 1) := by decide +kernel
theorem d_X2_seatAsTold_11 : decode M_X2_seatAsTold.2.1 11 = .ok (.getfield 28, 3) := by decide +kernel
theorem d_X2_seatAsTold_14 : decode M_X2_seatAsTold.2.1 14 = .ok (.arraylength, 1) := by decide +kernel
theorem d_X2_seatAsTold_15 : decode M_X2_seatAsTold.2.1 15 = .ok (.invokestatic 39, 3) := by decide +kernel
theorem d_X2_seatAsTold_18 : decode M_X2_seatAsTold.2.1 18 = .ok (.return_, 1) := by decide +kernel
set_option maxRecDepth 20000 in
theorem s_X2_seatAsTold_0 {d : Nat} {p0 : Int} {G : Mem} {Q : Int → Mem → Prop} (bp0 : Bs 1 p0) (h : (CpOk 0 0 5 5 5) ∧ (∀ G2 : Mem, G2 = cpy G (p0 + 2) 0 31 0 5 → Q 0 G2)) : Rn (d + 1) M_X2_seatAsTold zN 0 [(0, (2, 19)), (1, (2, p0))] [] G Q := by
  refine r_aload_n d_X2_seatAsTold_0 1 rfl rfl ?_
  refine r_getL (v := (p0 + 2)) 1 1 1 rfl d_X2_seatAsTold_1 fl_X2_34 (by decide) (bs_ob bp0) (ly_1_1 bp0).1 (ly_1_1 bp0).2.1 ?_
  refine r_iconst d_X2_seatAsTold_4 ?_
  refine r_aload_n d_X2_seatAsTold_5 0 rfl rfl ?_
  refine r_getL (v := 31) 2 8 8 rfl d_X2_seatAsTold_6 fl_X2_28 (by decide) (bs_ob bs_2) (ly_2_8 bs_2).1 (ly_2_8 bs_2).2.1 ?_
  refine r_iconst d_X2_seatAsTold_9 ?_
  refine r_aload_n d_X2_seatAsTold_10 0 rfl rfl ?_
  refine r_getL (v := 31) 2 8 8 rfl d_X2_seatAsTold_11 fl_X2_28 (by decide) (bs_ob bs_2) (ly_2_8 bs_2).1 (ly_2_8 bs_2).2.1 ?_
  refine r_alen 5 rfl d_X2_seatAsTold_14 (ly_2_8 bs_2).2.2 ?_
  obtain ⟨h1, h⟩ := h
  obtain ⟨G2, eG2⟩ : ∃ y : Mem, y = cpy G (p0 + 2) 0 31 0 5 := ⟨_, rfl⟩
  replace h := h G2 eG2
  refine r_acopy d_X2_seatAsTold_15 ac_X2_39 (ly_1_1 bp0).2.2 (ly_2_8 bs_2).2.2 h1 (Nat.le_of_ble_eq_true rfl) ?_
  rw [← eG2]
  exact r_ret d_X2_seatAsTold_18 rfl ⟨rfl, Nat.le_refl _, Nat.le_refl _⟩ h
theorem d_X2_fly_0 : decode M_X2_fly.2.1 0 = .ok (.aload_n 0, 1) := by decide +kernel
theorem d_X2_fly_1 : decode M_X2_fly.2.1 1 = .ok (.getfield 12, 3) := by decide +kernel
theorem d_X2_fly_4 : decode M_X2_fly.2.1 4 = .ok (.aload_n 1, 1) := by decide +kernel
theorem d_X2_fly_5 : decode M_X2_fly.2.1 5 = .ok (.invokevirtual 45, 3) := by decide +kernel
theorem d_X2_fly_8 : decode M_X2_fly.2.1 8 = .ok (.aload_n 0, 1) := by decide +kernel
theorem d_X2_fly_9 : decode M_X2_fly.2.1 9 = .ok (.getfield 18, 3) := by decide +kernel
theorem d_X2_fly_12 : decode M_X2_fly.2.1 12 = .ok (.iconst 0, 1) := by decide +kernel
theorem d_X2_fly_13 : decode M_X2_fly.2.1 13 = .ok (.invokestatic 49, 3) := by decide +kernel
theorem d_X2_fly_16 : decode M_X2_fly.2.1 16 = .ok (.aload_n 0, 1) := by decide +kernel
theorem d_X2_fly_17 : decode M_X2_fly.2.1 17 = .ok (.getfield 22, 3) := by decide +kernel
theorem d_X2_fly_20 : decode M_X2_fly.2.1 20 = .ok (.iconst 0, 1) := by decide +kernel
theorem d_X2_fly_21 : decode M_X2_fly.2.1 21 = .ok (.invokestatic 49, 3) := by decide +kernel
theorem d_X2_fly_24 : decode M_X2_fly.2.1 24 = .ok (.iconst 0, 1) := by decide +kernel
theorem d_X2_fly_25 : decode M_X2_fly.2.1 25 = .ok (.istore_n 3, 1) := by decide +kernel
theorem d_X2_fly_26 : decode M_X2_fly.2.1 26 = .ok (.iload_n 3, 1) := by decide +kernel
theorem d_X2_fly_27 : decode M_X2_fly.2.1 27 = .ok (.aload_n 1, 1) := by decide +kernel
theorem d_X2_fly_28 : decode M_X2_fly.2.1 28 = .ok (.getfield 55, 3) := by decide +kernel
theorem d_X2_fly_31 : decode M_X2_fly.2.1 31 = .ok (.if_icmp .ge 78, 3) := by decide +kernel
theorem d_X2_fly_34 : decode M_X2_fly.2.1 34 = .ok (.aload_n 1, 1) := by decide +kernel
theorem d_X2_fly_35 : decode M_X2_fly.2.1 35 = .ok (.getfield 59, 3) := by decide +kernel
theorem d_X2_fly_38 : decode M_X2_fly.2.1 38 = .ok (.iconst 1, 1) := by decide +kernel
theorem d_X2_fly_39 : decode M_X2_fly.2.1 39 = .ok (.isub, 1) := by decide +kernel
theorem d_X2_fly_40 : decode M_X2_fly.2.1 40 = .ok (.istore 4, 2) := by decide +kernel
theorem d_X2_fly_42 : decode M_X2_fly.2.1 42 = .ok (.iload 4, 2) := by decide +kernel
theorem d_X2_fly_44 : decode M_X2_fly.2.1 44 = .ok (.ifCond .lt 16, 3) := by decide +kernel
theorem d_X2_fly_47 : decode M_X2_fly.2.1 47 = .ok (.aload_n 0, 1) := by decide +kernel
theorem d_X2_fly_48 : decode M_X2_fly.2.1 48 = .ok (.aload_n 1, 1) := by decide +kernel
theorem d_X2_fly_49 : decode M_X2_fly.2.1 49 = .ok (.iload 4, 2) := by decide +kernel
theorem d_X2_fly_51 : decode M_X2_fly.2.1 51 = .ok (.invokevirtual 62, 3) := by decide +kernel
theorem d_X2_fly_54 : decode M_X2_fly.2.1 54 = .ok (.iinc 4 (-1), 3) := by decide +kernel
theorem d_X2_fly_57 : decode M_X2_fly.2.1 57 = .ok (.goto (-15), 3) := by decide +kernel
theorem d_X2_fly_60 : decode M_X2_fly.2.1 60 = .ok (.aload_n 1, 1) := by decide +kernel
theorem d_X2_fly_61 : decode M_X2_fly.2.1 61 = .ok (.getfield 59, 3) := by decide +kernel
theorem d_X2_fly_64 : decode M_X2_fly.2.1 64 = .ok (.iconst 1, 1) := by decide +kernel
theorem d_X2_fly_65 : decode M_X2_fly.2.1 65 = .ok (.isub, 1) := by decide +kernel
theorem d_X2_fly_66 : decode M_X2_fly.2.1 66 = .ok (.istore 4, 2) := by decide +kernel
theorem d_X2_fly_68 : decode M_X2_fly.2.1 68 = .ok (.iload 4, 2) := by decide +kernel
theorem d_X2_fly_70 : decode M_X2_fly.2.1 70 = .ok (.ifCond .lt 24, 3) := by decide +kernel
theorem d_X2_fly_73 : decode M_X2_fly.2.1 73 = .ok (.aload_n 1, 1) := by decide +kernel
theorem d_X2_fly_74 : decode M_X2_fly.2.1 74 = .ok (.iload_n 3, 1) := by decide +kernel
theorem d_X2_fly_75 : decode M_X2_fly.2.1 75 = .ok (.invokevirtual 66, 3) := by decide +kernel
theorem d_X2_fly_78 : decode M_X2_fly.2.1 78 = .ok (.ifCond .ne 16, 3) := by decide +kernel
theorem d_X2_fly_81 : decode M_X2_fly.2.1 81 = .ok (.aload_n 0, 1) := by decide +kernel
theorem d_X2_fly_82 : decode M_X2_fly.2.1 82 = .ok (.aload_n 1, 1) := by decide +kernel
theorem d_X2_fly_83 : decode M_X2_fly.2.1 83 = .ok (.iload 4, 2) := by decide +kernel
theorem d_X2_fly_85 : decode M_X2_fly.2.1 85 = .ok (.invokevirtual 70, 3) := by decide +kernel
theorem d_X2_fly_88 : decode M_X2_fly.2.1 88 = .ok (.iinc 4 (-1), 3) := by decide +kernel
theorem d_X2_fly_91 : decode M_X2_fly.2.1 91 = .ok (.goto (-23), 3) := by decide +kernel
theorem d_X2_fly_94 : decode M_X2_fly.2.1 94 = .ok (.aload_n 0, 1) := by decide +kernel
theorem d_X2_fly_95 : decode M_X2_fly.2.1 95 = .ok (.getfield 12, 3) := by decide +kernel
theorem d_X2_fly_98 : decode M_X2_fly.2.1 98 = .ok (.aload_n 1, 1) := by decide +kernel
theorem d_X2_fly_99 : decode M_X2_fly.2.1 99 = .ok (.iload_n 2, 1) := by decide +kernel
theorem d_X2_fly_100 : decode M_X2_fly.2.1 100 = .ok (.invokevirtual 73, 3) := by decide +kernel
theorem d_X2_fly_103 : decode M_X2_fly.2.1 103 = .ok (.iinc 3 1, 3) := by decide +kernel
theorem d_X2_fly_106 : decode M_X2_fly.2.1 106 = .ok (.goto (-80), 3) := by decide +kernel
theorem d_X2_fly_109 : decode M_X2_fly.2.1 109 = .ok (.return_, 1) := by decide +kernel
set_option maxRecDepth 20000 in
theorem s_X2_fly_0 {d : Nat} {p0 : Int} {p1 : Int} {G : Mem} {Q : Int → Mem → Prop} (bp0 : Bs 1 p0) (h : Ct d M_X8_begin NT 0 0 (some lay) [(2, 20), (2, p0)] G (fun r2 G1 => Ct d M_J7_fill_53178 NT 0 0 (some lay) [(2, 28), (0, 0)] G1 (fun r4 G3 => Ct d M_J7_fill_53178 NT 0 0 (some lay) [(2, 29), (0, 0)] G3 (fun r6 G5 => Rn (d + 1) M_X2_fly zN 26 [(0, (2, 19)), (1, (2, p0)), (2, (0, p1)), (3, (0, 0))] [] G5 Q)))) : Rn (d + 1) M_X2_fly zN 0 [(0, (2, 19)), (1, (2, p0)), (2, (0, p1))] [] G Q := by
  refine r_aload_n d_X2_fly_0 0 rfl rfl ?_
  refine r_getL (v := 20) 2 0 0 rfl d_X2_fly_1 fl_X2_12 (by decide) (bs_ob bs_2) (ly_2_0 bs_2).1 (ly_2_0 bs_2).2.1 ?_
  refine r_aload_n d_X2_fly_4 1 rfl rfl ?_
  refine r_callV0 (M' := M_X8_begin) (ci := 8) [(2, p0)] d_X2_fly_5 cl_X2_45 rfl (Nat.le_of_ble_eq_true rfl) (by decide) rfl (bs_ob (ly_2_0 bs_2).2.2) ?_
  refine Ct.mono h (fun r2 G1 h => ?_)
  show Rn _ M_X2_fly zN 8 [(0, (2, 19)), (1, (2, p0)), (2, (0, p1))] [] G1 Q
  refine r_aload_n d_X2_fly_8 0 rfl rfl ?_
  refine r_getL (v := 28) 2 1 1 rfl d_X2_fly_9 fl_X2_18 (by decide) (bs_ob bs_2) (ly_2_1 bs_2).1 (ly_2_1 bs_2).2.1 ?_
  refine r_iconst d_X2_fly_12 ?_
  refine r_callS0 (M' := M_J7_fill_53178) [(2, 28), (0, 0)] d_X2_fly_13 cl_X2_49 rfl (Nat.le_of_ble_eq_true rfl) ?_
  refine Ct.mono h (fun r4 G3 h => ?_)
  show Rn _ M_X2_fly zN 16 [(0, (2, 19)), (1, (2, p0)), (2, (0, p1))] [] G3 Q
  refine r_aload_n d_X2_fly_16 0 rfl rfl ?_
  refine r_getL (v := 29) 2 2 2 rfl d_X2_fly_17 fl_X2_22 (by decide) (bs_ob bs_2) (ly_2_2 bs_2).1 (ly_2_2 bs_2).2.1 ?_
  refine r_iconst d_X2_fly_20 ?_
  refine r_callS0 (M' := M_J7_fill_53178) [(2, 29), (0, 0)] d_X2_fly_21 cl_X2_49 rfl (Nat.le_of_ble_eq_true rfl) ?_
  refine Ct.mono h (fun r6 G5 h => ?_)
  show Rn _ M_X2_fly zN 24 [(0, (2, 19)), (1, (2, p0)), (2, (0, p1))] [] G5 Q
  refine r_iconst d_X2_fly_24 ?_
  refine r_istore_n (ls1 := [(3, (0, 0)), (0, (2, 19)), (1, (2, p0)), (2, (0, p1))]) d_X2_fly_25 rfl (by decide) rfl ?_
  exact Rn.sub [1, 2, 3, 0] rfl h
set_option maxRecDepth 20000 in
theorem s_X2_fly_26 {d : Nat} {x1 : Int} {x2 : Int} {x3 : Int} {G : Mem} {Q : Int → Mem → Prop} (bx1 : Bs 1 x1) (h : (InR x3) ∧ (InR (G x1 7)) ∧ (((G x1 7) ≤ x3) → Q 0 G) ∧ (¬ ((G x1 7) ≤ x3) → Rn d M_X2_fly zN 42 [(0, (2, 19)), (1, (2, x1)), (2, (0, x2)), (3, (0, x3)), (4, (0, ((G x1 6) - 1)))] [] G Q)) : Rn d M_X2_fly zN 26 [(0, (2, 19)), (1, (2, x1)), (2, (0, x2)), (3, (0, x3))] [] G Q := by
  refine r_iload_n d_X2_fly_26 3 rfl rfl ?_
  refine r_aload_n d_X2_fly_27 1 rfl rfl ?_
  refine r_getI 1 7 7 rfl d_X2_fly_28 fl_X2_55 (by decide) (bs_ob bx1) ?_
  obtain ⟨h1, h⟩ := h
  obtain ⟨h2, h⟩ := h
  refine r_icmp_ge (tgt := 109) d_X2_fly_31 (by decide) h1 h2 (fun c3 => ?_) (fun c3 => ?_)
  · replace h := h.1 c3
    exact r_ret d_X2_fly_109 rfl ⟨rfl, Nat.le_refl _, Nat.le_refl _⟩ h
  · replace h := h.2 c3
    refine r_aload_n d_X2_fly_34 1 rfl rfl ?_
    refine r_getI 1 6 6 rfl d_X2_fly_35 fl_X2_59 (by decide) (bs_ob bx1) ?_
    refine r_iconst d_X2_fly_38 ?_
    refine r_isub d_X2_fly_39 ?_
    refine r_istore (ls1 := [(4, (0, ((G x1 6) - 1))), (0, (2, 19)), (1, (2, x1)), (2, (0, x2)), (3, (0, x3))]) d_X2_fly_40 (by decide) rfl ?_
    exact Rn.sub [1, 2, 3, 4, 0] rfl h
set_option maxRecDepth 20000 in
theorem s_X2_fly_42 {d : Nat} {x1 : Int} {x2 : Int} {x3 : Int} {x4 : Int} {G : Mem} {Q : Int → Mem → Prop} (bx1 : Bs 1 x1) (h : (InR x4) ∧ ((x4 < 0) → Rn (d + 1) M_X2_fly zN 68 [(0, (2, 19)), (1, (2, x1)), (2, (0, x2)), (3, (0, x3)), (4, (0, ((G x1 6) - 1)))] [] G Q) ∧ (¬ (x4 < 0) → Ct d M_X2_comeBack NT 0 0 (some lay) [(2, 19), (2, x1), (0, x4)] G (fun r4 G3 => Rn (d + 1) M_X2_fly zN 42 [(0, (2, 19)), (1, (2, x1)), (2, (0, x2)), (3, (0, x3)), (4, (0, (x4 + (-1))))] [] G3 Q))) : Rn (d + 1) M_X2_fly zN 42 [(0, (2, 19)), (1, (2, x1)), (2, (0, x2)), (3, (0, x3)), (4, (0, x4))] [] G Q := by
  refine r_iload d_X2_fly_42 4 rfl ?_
  obtain ⟨h1, h⟩ := h
  refine r_if_lt (tgt := 60) d_X2_fly_44 (by decide) h1 (fun c2 => ?_) (fun c2 => ?_)
  · replace h := h.1 c2
    refine r_aload_n d_X2_fly_60 1 rfl rfl ?_
    refine r_getI 1 6 6 rfl d_X2_fly_61 fl_X2_59 (by decide) (bs_ob bx1) ?_
    refine r_iconst d_X2_fly_64 ?_
    refine r_isub d_X2_fly_65 ?_
    refine r_istore (ls1 := [(4, (0, ((G x1 6) - 1))), (0, (2, 19)), (1, (2, x1)), (2, (0, x2)), (3, (0, x3))]) d_X2_fly_66 (by decide) rfl ?_
    exact Rn.sub [1, 2, 3, 4, 0] rfl h
  · replace h := h.2 c2
    refine r_aload_n d_X2_fly_47 0 rfl rfl ?_
    refine r_aload_n d_X2_fly_48 1 rfl rfl ?_
    refine r_iload d_X2_fly_49 4 rfl ?_
    refine r_callV0 (M' := M_X2_comeBack) (ci := 2) [(2, x1), (0, x4)] d_X2_fly_51 cl_X2_62 rfl (Nat.le_of_ble_eq_true rfl) (by decide) rfl (bs_ob bs_2) ?_
    refine Ct.mono h (fun r4 G3 h => ?_)
    show Rn _ M_X2_fly zN 54 [(0, (2, 19)), (1, (2, x1)), (2, (0, x2)), (3, (0, x3)), (4, (0, x4))] [] G3 Q
    refine r_iinc (ls1 := [(4, (0, (x4 + (-1)))), (0, (2, 19)), (1, (2, x1)), (2, (0, x2)), (3, (0, x3))]) d_X2_fly_54 4 rfl (by decide) rfl ?_
    refine r_goto (tgt := 42) d_X2_fly_57 (by decide) ?_
    exact Rn.sub [1, 2, 3, 4, 0] rfl h
set_option maxRecDepth 20000 in
theorem s_X2_fly_68 {d : Nat} {x1 : Int} {x2 : Int} {x3 : Int} {x4 : Int} {G : Mem} {Q : Int → Mem → Prop} (bx1 : Bs 1 x1) (h : (InR x4) ∧ ((x4 < 0) → Rn (d + 1) M_X2_fly zN 94 [(0, (2, 19)), (1, (2, x1)), (2, (0, x2)), (3, (0, x3))] [] G Q) ∧ (¬ (x4 < 0) → Ct d M_X1_closed NT 0 0 (some lay) [(2, x1), (0, x3)] G (fun r4 G3 => (InR r4) ∧ ((r4 ≠ 0) → Rn (d + 1) M_X2_fly zN 94 [(0, (2, 19)), (1, (2, x1)), (2, (0, x2)), (3, (0, x3))] [] G3 Q) ∧ (¬ (r4 ≠ 0) → Ct d M_X2_goOut NT 0 0 (some lay) [(2, 19), (2, x1), (0, x4)] G3 (fun r8 G7 => Rn (d + 1) M_X2_fly zN 68 [(0, (2, 19)), (1, (2, x1)), (2, (0, x2)), (3, (0, x3)), (4, (0, (x4 + (-1))))] [] G7 Q))))) : Rn (d + 1) M_X2_fly zN 68 [(0, (2, 19)), (1, (2, x1)), (2, (0, x2)), (3, (0, x3)), (4, (0, x4))] [] G Q := by
  refine r_iload d_X2_fly_68 4 rfl ?_
  obtain ⟨h1, h⟩ := h
  refine r_if_lt (tgt := 94) d_X2_fly_70 (by decide) h1 (fun c2 => ?_) (fun c2 => ?_)
  · replace h := h.1 c2
    exact Rn.sub [0, 1, 2, 3] rfl h
  · replace h := h.2 c2
    refine r_aload_n d_X2_fly_73 1 rfl rfl ?_
    refine r_iload_n d_X2_fly_74 3 rfl rfl ?_
    refine r_callV0 (M' := M_X1_closed) (ci := 1) [(0, x3)] d_X2_fly_75 cl_X2_66 rfl (Nat.le_of_ble_eq_true rfl) (by decide) rfl (bs_ob bx1) ?_
    refine Ct.mono h (fun r4 G3 h => ?_)
    show Rn _ M_X2_fly zN 78 [(0, (2, 19)), (1, (2, x1)), (2, (0, x2)), (3, (0, x3)), (4, (0, x4))] [(0, r4)] G3 Q
    obtain ⟨h5, h⟩ := h
    refine r_if_ne (tgt := 94) d_X2_fly_78 (by decide) h5 (fun c6 => ?_) (fun c6 => ?_)
    · replace h := h.1 c6
      exact Rn.sub [0, 1, 2, 3] rfl h
    · replace h := h.2 c6
      refine r_aload_n d_X2_fly_81 0 rfl rfl ?_
      refine r_aload_n d_X2_fly_82 1 rfl rfl ?_
      refine r_iload d_X2_fly_83 4 rfl ?_
      refine r_callV0 (M' := M_X2_goOut) (ci := 2) [(2, x1), (0, x4)] d_X2_fly_85 cl_X2_70 rfl (Nat.le_of_ble_eq_true rfl) (by decide) rfl (bs_ob bs_2) ?_
      refine Ct.mono h (fun r8 G7 h => ?_)
      show Rn _ M_X2_fly zN 88 [(0, (2, 19)), (1, (2, x1)), (2, (0, x2)), (3, (0, x3)), (4, (0, x4))] [] G7 Q
      refine r_iinc (ls1 := [(4, (0, (x4 + (-1)))), (0, (2, 19)), (1, (2, x1)), (2, (0, x2)), (3, (0, x3))]) d_X2_fly_88 4 rfl (by decide) rfl ?_
      refine r_goto (tgt := 68) d_X2_fly_91 (by decide) ?_
      exact Rn.sub [1, 2, 3, 4, 0] rfl h
set_option maxRecDepth 20000 in
theorem s_X2_fly_94 {d : Nat} {x1 : Int} {x2 : Int} {x3 : Int} {G : Mem} {Q : Int → Mem → Prop} (bx1 : Bs 1 x1) (h : Ct d M_X8_pass NT 0 0 (some lay) [(2, 20), (2, x1), (0, x2)] G (fun r2 G1 => Rn (d + 1) M_X2_fly zN 26 [(0, (2, 19)), (1, (2, x1)), (2, (0, x2)), (3, (0, (x3 + 1)))] [] G1 Q)) : Rn (d + 1) M_X2_fly zN 94 [(0, (2, 19)), (1, (2, x1)), (2, (0, x2)), (3, (0, x3))] [] G Q := by
  refine r_aload_n d_X2_fly_94 0 rfl rfl ?_
  refine r_getL (v := 20) 2 0 0 rfl d_X2_fly_95 fl_X2_12 (by decide) (bs_ob bs_2) (ly_2_0 bs_2).1 (ly_2_0 bs_2).2.1 ?_
  refine r_aload_n d_X2_fly_98 1 rfl rfl ?_
  refine r_iload_n d_X2_fly_99 2 rfl rfl ?_
  refine r_callV0 (M' := M_X8_pass) (ci := 8) [(2, x1), (0, x2)] d_X2_fly_100 cl_X2_73 rfl (Nat.le_of_ble_eq_true rfl) (by decide) rfl (bs_ob (ly_2_0 bs_2).2.2) ?_
  refine Ct.mono h (fun r2 G1 h => ?_)
  show Rn _ M_X2_fly zN 103 [(0, (2, 19)), (1, (2, x1)), (2, (0, x2)), (3, (0, x3))] [] G1 Q
  refine r_iinc (ls1 := [(3, (0, (x3 + 1))), (0, (2, 19)), (1, (2, x1)), (2, (0, x2))]) d_X2_fly_103 3 rfl (by decide) rfl ?_
  refine r_goto (tgt := 26) d_X2_fly_106 (by decide) ?_
  exact Rn.sub [1, 2, 3, 0] rfl h
theorem d_X2_comeBack_0 : decode M_X2_comeBack.2.1 0 = .ok (.aload_n 0, 1) := by decide +kernel
theorem d_X2_comeBack_1 : decode M_X2_comeBack.2.1 1 = .ok (.getfield 28, 3) := by decide +kernel
theorem d_X2_comeBack_4 : decode M_X2_comeBack.2.1 4 = .ok (.iload_n 2, 1) := by decide +kernel
theorem d_X2_comeBack_5 : decode M_X2_comeBack.2.1 5 = .ok (.iaload, 1) := by decide +kernel
theorem d_X2_comeBack_6 : decode M_X2_comeBack.2.1 6 = .ok (.istore_n 3, 1) := by decide +kernel
theorem d_X2_comeBack_7 : decode M_X2_comeBack.2.1 7 = .ok (.iload_n 3, 1) := by decide +kernel
theorem d_X2_comeBack_8 : decode M_X2_comeBack.2.1 8 = .ok (.iconst (-1), 1) := by decide +kernel
theorem d_X2_comeBack_9 : decode M_X2_comeBack.2.1 9 = .ok (.if_icmp .eq 16, 3) := by decide +kernel
theorem d_X2_comeBack_12 : decode M_X2_comeBack.2.1 12 = .ok (.aload_n 0, 1) := by decide +kernel
theorem d_X2_comeBack_13 : decode M_X2_comeBack.2.1 13 = .ok (.getfield 12, 3) := by decide +kernel
theorem d_X2_comeBack_16 : decode M_X2_comeBack.2.1 16 = .ok (.getfield 76, 3) := by decide +kernel
theorem d_X2_comeBack_19 : decode M_X2_comeBack.2.1 19 = .ok (.iload_n 3, 1) := by decide +kernel
theorem d_X2_comeBack_20 : decode M_X2_comeBack.2.1 20 = .ok (.iaload, 1) := by decide +kernel
theorem d_X2_comeBack_21 : decode M_X2_comeBack.2.1 21 = .ok (.iconst (-1), 1) := by decide +kernel
theorem d_X2_comeBack_22 : decode M_X2_comeBack.2.1 22 = .ok (.if_icmp .eq 4, 3) := by decide +kernel
theorem d_X2_comeBack_25 : decode M_X2_comeBack.2.1 25 = .ok (.return_, 1) := by decide +kernel
theorem d_X2_comeBack_26 : decode M_X2_comeBack.2.1 26 = .ok (.aload_n 1, 1) := by decide +kernel
theorem d_X2_comeBack_27 : decode M_X2_comeBack.2.1 27 = .ok (.getfield 59, 3) := by decide +kernel
theorem d_X2_comeBack_30 : decode M_X2_comeBack.2.1 30 = .ok (.iconst 1, 1) := by decide +kernel
theorem d_X2_comeBack_31 : decode M_X2_comeBack.2.1 31 = .ok (.isub, 1) := by decide +kernel
theorem d_X2_comeBack_32 : decode M_X2_comeBack.2.1 32 = .ok (.istore 4, 2) := by decide +kernel
theorem d_X2_comeBack_34 : decode M_X2_comeBack.2.1 34 = .ok (.iload 4, 2) := by decide +kernel
theorem d_X2_comeBack_36 : decode M_X2_comeBack.2.1 36 = .ok (.iload_n 2, 1) := by decide +kernel
theorem d_X2_comeBack_37 : decode M_X2_comeBack.2.1 37 = .ok (.if_icmp .le 25, 3) := by decide +kernel
theorem d_X2_comeBack_40 : decode M_X2_comeBack.2.1 40 = .ok (.aload_n 0, 1) := by decide +kernel
theorem d_X2_comeBack_41 : decode M_X2_comeBack.2.1 41 = .ok (.aload_n 1, 1) := by decide +kernel
theorem d_X2_comeBack_42 : decode M_X2_comeBack.2.1 42 = .ok (.aload_n 0, 1) := by decide +kernel
theorem d_X2_comeBack_43 : decode M_X2_comeBack.2.1 43 = .ok (.getfield 28, 3) := by decide +kernel
theorem d_X2_comeBack_46 : decode M_X2_comeBack.2.1 46 = .ok (.iload 4, 2) := by decide +kernel
theorem d_X2_comeBack_48 : decode M_X2_comeBack.2.1 48 = .ok (.iaload, 1) := by decide +kernel
theorem d_X2_comeBack_49 : decode M_X2_comeBack.2.1 49 = .ok (.invokevirtual 79, 3) := by decide +kernel
theorem d_X2_comeBack_52 : decode M_X2_comeBack.2.1 52 = .ok (.ifCond .ne 4, 3) := by decide +kernel
theorem d_X2_comeBack_55 : decode M_X2_comeBack.2.1 55 = .ok (.return_, 1) := by decide +kernel
theorem d_X2_comeBack_56 : decode M_X2_comeBack.2.1 56 = .ok (.iinc 4 (-1), 3) := by decide +kernel
theorem d_X2_comeBack_59 : decode M_X2_comeBack.2.1 59 = .ok (.goto (-25), 3) := by decide +kernel
theorem d_X2_comeBack_62 : decode M_X2_comeBack.2.1 62 = .ok (.aload_n 0, 1) := by decide +kernel
theorem d_X2_comeBack_63 : decode M_X2_comeBack.2.1 63 = .ok (.getfield 12, 3) := by decide +kernel
theorem d_X2_comeBack_66 : decode M_X2_comeBack.2.1 66 = .ok (.getfield 76, 3) := by decide +kernel
theorem d_X2_comeBack_69 : decode M_X2_comeBack.2.1 69 = .ok (.iload_n 3, 1) := by decide +kernel
theorem d_X2_comeBack_70 : decode M_X2_comeBack.2.1 70 = .ok (.iconst 0, 1) := by decide +kernel
theorem d_X2_comeBack_71 : decode M_X2_comeBack.2.1 71 = .ok (.iastore, 1) := by decide +kernel
theorem d_X2_comeBack_72 : decode M_X2_comeBack.2.1 72 = .ok (.return_, 1) := by decide +kernel
set_option maxRecDepth 20000 in
theorem s_X2_comeBack_0 {d : Nat} {p0 : Int} {p1 : Int} {G : Mem} {Q : Int → Mem → Prop} (bp0 : Bs 1 p0) (h : (0 ≤ p1 ∧ p1 < 5) ∧ ((InR (G 31 p1)) ∧ (((G 31 p1) = (-1)) → Q 0 G) ∧ (¬ ((G 31 p1) = (-1)) → (0 ≤ (G 31 p1) ∧ (G 31 p1) < 5) ∧ ((InR (G 22 (G 31 p1))) ∧ (((G 22 (G 31 p1)) = (-1)) → Rn d M_X2_comeBack zN 34 [(0, (2, 19)), (1, (2, p0)), (2, (0, p1)), (3, (0, (G 31 p1))), (4, (0, ((G p0 6) - 1)))] [] G Q) ∧ (¬ ((G 22 (G 31 p1)) = (-1)) → Q 0 G))))) : Rn d M_X2_comeBack zN 0 [(0, (2, 19)), (1, (2, p0)), (2, (0, p1))] [] G Q := by
  refine r_aload_n d_X2_comeBack_0 0 rfl rfl ?_
  refine r_getL (v := 31) 2 8 8 rfl d_X2_comeBack_1 fl_X2_28 (by decide) (bs_ob bs_2) (ly_2_8 bs_2).1 (ly_2_8 bs_2).2.1 ?_
  refine r_iload_n d_X2_comeBack_4 2 rfl rfl ?_
  obtain ⟨h1, h⟩ := h
  refine r_iaload d_X2_comeBack_5 (ly_2_8 bs_2).2.2 h1 ?_
  refine r_istore_n (ls1 := [(3, (0, (G 31 p1))), (0, (2, 19)), (1, (2, p0)), (2, (0, p1))]) d_X2_comeBack_6 rfl (by decide) rfl ?_
  refine r_iload_n d_X2_comeBack_7 0 rfl rfl ?_
  refine r_iconst d_X2_comeBack_8 ?_
  obtain ⟨h2, h⟩ := h
  refine r_icmp_eq (tgt := 25) d_X2_comeBack_9 (by decide) h2 ⟨by decide, by decide⟩ (fun c3 => ?_) (fun c3 => ?_)
  · replace h := h.1 c3
    exact r_ret d_X2_comeBack_25 rfl ⟨rfl, Nat.le_refl _, Nat.le_refl _⟩ h
  · replace h := h.2 c3
    refine r_aload_n d_X2_comeBack_12 1 rfl rfl ?_
    refine r_getL (v := 20) 2 0 0 rfl d_X2_comeBack_13 fl_X2_12 (by decide) (bs_ob bs_2) (ly_2_0 bs_2).1 (ly_2_0 bs_2).2.1 ?_
    refine r_getL (v := 22) 8 1 1 rfl d_X2_comeBack_16 fl_X2_76 (by decide) (bs_ob (ly_2_0 bs_2).2.2) (ly_8_1 (ly_2_0 bs_2).2.2).1 (ly_8_1 (ly_2_0 bs_2).2.2).2.1 ?_
    refine r_iload_n d_X2_comeBack_19 0 rfl rfl ?_
    obtain ⟨h4, h⟩ := h
    refine r_iaload d_X2_comeBack_20 (ly_8_1 (ly_2_0 bs_2).2.2).2.2 h4 ?_
    refine r_iconst d_X2_comeBack_21 ?_
    obtain ⟨h5, h⟩ := h
    refine r_icmp_eq (tgt := 26) d_X2_comeBack_22 (by decide) h5 ⟨by decide, by decide⟩ (fun c6 => ?_) (fun c6 => ?_)
    · replace h := h.1 c6
      refine r_aload_n d_X2_comeBack_26 2 rfl rfl ?_
      refine r_getI 1 6 6 rfl d_X2_comeBack_27 fl_X2_59 (by decide) (bs_ob bp0) ?_
      refine r_iconst d_X2_comeBack_30 ?_
      refine r_isub d_X2_comeBack_31 ?_
      refine r_istore (ls1 := [(4, (0, ((G p0 6) - 1))), (3, (0, (G 31 p1))), (0, (2, 19)), (1, (2, p0)), (2, (0, p1))]) d_X2_comeBack_32 (by decide) rfl ?_
      exact Rn.sub [2, 3, 4, 1, 0] rfl h
    · replace h := h.2 c6
      exact r_ret d_X2_comeBack_25 rfl ⟨rfl, Nat.le_refl _, Nat.le_refl _⟩ h
set_option maxRecDepth 20000 in
theorem s_X2_comeBack_34 {d : Nat} {x1 : Int} {x2 : Int} {x3 : Int} {x4 : Int} {G : Mem} {Q : Int → Mem → Prop} (bx1 : Bs 1 x1) (h : (InR x4) ∧ (InR x2) ∧ ((x4 ≤ x2) → (0 ≤ x3 ∧ x3 < 5) ∧ (∀ G5 : Mem, G5 = st G 22 x3 0 → Q 0 G5)) ∧ (¬ (x4 ≤ x2) → (0 ≤ x4 ∧ x4 < 5) ∧ (Ct d M_X2_rouse NT 0 0 (some lay) [(2, 19), (2, x1), (0, (G 31 x4))] G (fun r8 G7 => (InR r8) ∧ ((r8 ≠ 0) → Rn (d + 1) M_X2_comeBack zN 34 [(0, (2, 19)), (1, (2, x1)), (2, (0, x2)), (3, (0, x3)), (4, (0, (x4 + (-1))))] [] G7 Q) ∧ (¬ (r8 ≠ 0) → Q 0 G7))))) : Rn (d + 1) M_X2_comeBack zN 34 [(0, (2, 19)), (1, (2, x1)), (2, (0, x2)), (3, (0, x3)), (4, (0, x4))] [] G Q := by
  refine r_iload d_X2_comeBack_34 4 rfl ?_
  refine r_iload_n d_X2_comeBack_36 2 rfl rfl ?_
  obtain ⟨h1, h⟩ := h
  obtain ⟨h2, h⟩ := h
  refine r_icmp_le (tgt := 62) d_X2_comeBack_37 (by decide) h1 h2 (fun c3 => ?_) (fun c3 => ?_)
  · replace h := h.1 c3
    refine r_aload_n d_X2_comeBack_62 0 rfl rfl ?_
    refine r_getL (v := 20) 2 0 0 rfl d_X2_comeBack_63 fl_X2_12 (by decide) (bs_ob bs_2) (ly_2_0 bs_2).1 (ly_2_0 bs_2).2.1 ?_
    refine r_getL (v := 22) 8 1 1 rfl d_X2_comeBack_66 fl_X2_76 (by decide) (bs_ob (ly_2_0 bs_2).2.2) (ly_8_1 (ly_2_0 bs_2).2.2).1 (ly_8_1 (ly_2_0 bs_2).2.2).2.1 ?_
    refine r_iload_n d_X2_comeBack_69 3 rfl rfl ?_
    refine r_iconst d_X2_comeBack_70 ?_
    obtain ⟨h4, h⟩ := h
    obtain ⟨G5, eG5⟩ : ∃ y : Mem, y = st G 22 x3 0 := ⟨_, rfl⟩
    replace h := h G5 eG5
    refine r_iastore d_X2_comeBack_71 (ly_8_1 (ly_2_0 bs_2).2.2).2.2 h4 ?_
    rw [← eG5]
    exact r_ret d_X2_comeBack_72 rfl ⟨rfl, Nat.le_refl _, Nat.le_refl _⟩ h
  · replace h := h.2 c3
    refine r_aload_n d_X2_comeBack_40 0 rfl rfl ?_
    refine r_aload_n d_X2_comeBack_41 1 rfl rfl ?_
    refine r_aload_n d_X2_comeBack_42 0 rfl rfl ?_
    refine r_getL (v := 31) 2 8 8 rfl d_X2_comeBack_43 fl_X2_28 (by decide) (bs_ob bs_2) (ly_2_8 bs_2).1 (ly_2_8 bs_2).2.1 ?_
    refine r_iload d_X2_comeBack_46 4 rfl ?_
    obtain ⟨h6, h⟩ := h
    refine r_iaload d_X2_comeBack_48 (ly_2_8 bs_2).2.2 h6 ?_
    refine r_callV0 (M' := M_X2_rouse) (ci := 2) [(2, x1), (0, (G 31 x4))] d_X2_comeBack_49 cl_X2_79 rfl (Nat.le_of_ble_eq_true rfl) (by decide) rfl (bs_ob bs_2) ?_
    refine Ct.mono h (fun r8 G7 h => ?_)
    show Rn _ M_X2_comeBack zN 52 [(0, (2, 19)), (1, (2, x1)), (2, (0, x2)), (3, (0, x3)), (4, (0, x4))] [(0, r8)] G7 Q
    obtain ⟨h9, h⟩ := h
    refine r_if_ne (tgt := 56) d_X2_comeBack_52 (by decide) h9 (fun c10 => ?_) (fun c10 => ?_)
    · replace h := h.1 c10
      refine r_iinc (ls1 := [(4, (0, (x4 + (-1)))), (0, (2, 19)), (1, (2, x1)), (2, (0, x2)), (3, (0, x3))]) d_X2_comeBack_56 4 rfl (by decide) rfl ?_
      refine r_goto (tgt := 34) d_X2_comeBack_59 (by decide) ?_
      exact Rn.sub [1, 2, 3, 4, 0] rfl h
    · replace h := h.2 c10
      exact r_ret d_X2_comeBack_55 rfl ⟨rfl, Nat.le_refl _, Nat.le_refl _⟩ h
theorem d_X2_goOut_0 : decode M_X2_goOut.2.1 0 = .ok (.aload_n 0, 1) := by decide +kernel
theorem d_X2_goOut_1 : decode M_X2_goOut.2.1 1 = .ok (.getfield 28, 3) := by decide +kernel
theorem d_X2_goOut_4 : decode M_X2_goOut.2.1 4 = .ok (.iload_n 2, 1) := by decide +kernel
theorem d_X2_goOut_5 : decode M_X2_goOut.2.1 5 = .ok (.iaload, 1) := by decide +kernel
theorem d_X2_goOut_6 : decode M_X2_goOut.2.1 6 = .ok (.istore_n 3, 1) := by decide +kernel
theorem d_X2_goOut_7 : decode M_X2_goOut.2.1 7 = .ok (.iload_n 3, 1) := by decide +kernel
theorem d_X2_goOut_8 : decode M_X2_goOut.2.1 8 = .ok (.iconst (-1), 1) := by decide +kernel
theorem d_X2_goOut_9 : decode M_X2_goOut.2.1 9 = .ok (.if_icmp .eq 55, 3) := by decide +kernel
theorem d_X2_goOut_12 : decode M_X2_goOut.2.1 12 = .ok (.aload_n 0, 1) := by decide +kernel
theorem d_X2_goOut_13 : decode M_X2_goOut.2.1 13 = .ok (.getfield 12, 3) := by decide +kernel
theorem d_X2_goOut_16 : decode M_X2_goOut.2.1 16 = .ok (.getfield 76, 3) := by decide +kernel
theorem d_X2_goOut_19 : decode M_X2_goOut.2.1 19 = .ok (.iload_n 3, 1) := by decide +kernel
theorem d_X2_goOut_20 : decode M_X2_goOut.2.1 20 = .ok (.iaload, 1) := by decide +kernel
theorem d_X2_goOut_21 : decode M_X2_goOut.2.1 21 = .ok (.ifCond .ne 43, 3) := by decide +kernel
theorem d_X2_goOut_24 : decode M_X2_goOut.2.1 24 = .ok (.aload_n 0, 1) := by decide +kernel
theorem d_X2_goOut_25 : decode M_X2_goOut.2.1 25 = .ok (.getfield 12, 3) := by decide +kernel
theorem d_X2_goOut_28 : decode M_X2_goOut.2.1 28 = .ok (.getfield 83, 3) := by decide +kernel
theorem d_X2_goOut_31 : decode M_X2_goOut.2.1 31 = .ok (.iload_n 3, 1) := by decide +kernel
theorem d_X2_goOut_32 : decode M_X2_goOut.2.1 32 = .ok (.iaload, 1) := by decide +kernel
theorem d_X2_goOut_33 : decode M_X2_goOut.2.1 33 = .ok (.aload_n 1, 1) := by decide +kernel
theorem d_X2_goOut_34 : decode M_X2_goOut.2.1 34 = .ok (.getfield 86, 3) := by decide +kernel
theorem d_X2_goOut_37 : decode M_X2_goOut.2.1 37 = .ok (.iload_n 3, 1) := by decide +kernel
theorem d_X2_goOut_38 : decode M_X2_goOut.2.1 38 = .ok (.aaload, 1) := by decide +kernel
theorem d_X2_goOut_39 : decode M_X2_goOut.2.1 39 = .ok (.getfield 90, 3) := by decide +kernel
theorem d_X2_goOut_42 : decode M_X2_goOut.2.1 42 = .ok (.if_icmp .lt 22, 3) := by decide +kernel
theorem d_X2_goOut_45 : decode M_X2_goOut.2.1 45 = .ok (.aload_n 0, 1) := by decide +kernel
theorem d_X2_goOut_46 : decode M_X2_goOut.2.1 46 = .ok (.getfield 12, 3) := by decide +kernel
theorem d_X2_goOut_49 : decode M_X2_goOut.2.1 49 = .ok (.aload_n 1, 1) := by decide +kernel
theorem d_X2_goOut_50 : decode M_X2_goOut.2.1 50 = .ok (.iload_n 3, 1) := by decide +kernel
theorem d_X2_goOut_51 : decode M_X2_goOut.2.1 51 = .ok (.aload_n 0, 1) := by decide +kernel
theorem d_X2_goOut_52 : decode M_X2_goOut.2.1 52 = .ok (.getfield 12, 3) := by decide +kernel
theorem d_X2_goOut_55 : decode M_X2_goOut.2.1 55 = .ok (.getfield 95, 3) := by decide +kernel
theorem d_X2_goOut_58 : decode M_X2_goOut.2.1 58 = .ok (.invokevirtual 98, 3) := by decide +kernel
theorem d_X2_goOut_61 : decode M_X2_goOut.2.1 61 = .ok (.ifCond .eq 4, 3) := by decide +kernel
theorem d_X2_goOut_64 : decode M_X2_goOut.2.1 64 = .ok (.return_, 1) := by decide +kernel
theorem d_X2_goOut_65 : decode M_X2_goOut.2.1 65 = .ok (.iload_n 2, 1) := by decide +kernel
theorem d_X2_goOut_66 : decode M_X2_goOut.2.1 66 = .ok (.iconst 1, 1) := by decide +kernel
theorem d_X2_goOut_67 : decode M_X2_goOut.2.1 67 = .ok (.iadd, 1) := by decide +kernel
theorem d_X2_goOut_68 : decode M_X2_goOut.2.1 68 = .ok (.istore 4, 2) := by decide +kernel
theorem d_X2_goOut_70 : decode M_X2_goOut.2.1 70 = .ok (.iload 4, 2) := by decide +kernel
theorem d_X2_goOut_72 : decode M_X2_goOut.2.1 72 = .ok (.aload_n 1, 1) := by decide +kernel
theorem d_X2_goOut_73 : decode M_X2_goOut.2.1 73 = .ok (.getfield 59, 3) := by decide +kernel
theorem d_X2_goOut_76 : decode M_X2_goOut.2.1 76 = .ok (.if_icmp .ge 25, 3) := by decide +kernel
theorem d_X2_goOut_79 : decode M_X2_goOut.2.1 79 = .ok (.aload_n 0, 1) := by decide +kernel
theorem d_X2_goOut_80 : decode M_X2_goOut.2.1 80 = .ok (.aload_n 1, 1) := by decide +kernel
theorem d_X2_goOut_81 : decode M_X2_goOut.2.1 81 = .ok (.aload_n 0, 1) := by decide +kernel
theorem d_X2_goOut_82 : decode M_X2_goOut.2.1 82 = .ok (.getfield 28, 3) := by decide +kernel
theorem d_X2_goOut_85 : decode M_X2_goOut.2.1 85 = .ok (.iload 4, 2) := by decide +kernel
theorem d_X2_goOut_87 : decode M_X2_goOut.2.1 87 = .ok (.iaload, 1) := by decide +kernel
theorem d_X2_goOut_88 : decode M_X2_goOut.2.1 88 = .ok (.invokevirtual 79, 3) := by decide +kernel
theorem d_X2_goOut_91 : decode M_X2_goOut.2.1 91 = .ok (.ifCond .ne 4, 3) := by decide +kernel
theorem d_X2_goOut_94 : decode M_X2_goOut.2.1 94 = .ok (.return_, 1) := by decide +kernel
theorem d_X2_goOut_95 : decode M_X2_goOut.2.1 95 = .ok (.iinc 4 1, 3) := by decide +kernel
theorem d_X2_goOut_98 : decode M_X2_goOut.2.1 98 = .ok (.goto (-28), 3) := by decide +kernel
theorem d_X2_goOut_101 : decode M_X2_goOut.2.1 101 = .ok (.aload_n 0, 1) := by decide +kernel
theorem d_X2_goOut_102 : decode M_X2_goOut.2.1 102 = .ok (.getfield 12, 3) := by decide +kernel
theorem d_X2_goOut_105 : decode M_X2_goOut.2.1 105 = .ok (.aload_n 1, 1) := by decide +kernel
theorem d_X2_goOut_106 : decode M_X2_goOut.2.1 106 = .ok (.iload_n 3, 1) := by decide +kernel
theorem d_X2_goOut_107 : decode M_X2_goOut.2.1 107 = .ok (.invokevirtual 102, 3) := by decide +kernel
theorem d_X2_goOut_110 : decode M_X2_goOut.2.1 110 = .ok (.aload_n 0, 1) := by decide +kernel
theorem d_X2_goOut_111 : decode M_X2_goOut.2.1 111 = .ok (.getfield 18, 3) := by decide +kernel
theorem d_X2_goOut_114 : decode M_X2_goOut.2.1 114 = .ok (.iload_n 3, 1) := by decide +kernel
theorem d_X2_goOut_115 : decode M_X2_goOut.2.1 115 = .ok (.dup2, 1) := by decide +kernel
theorem d_X2_goOut_116 : decode M_X2_goOut.2.1 116 = .ok (.iaload, 1) := by decide +kernel
theorem d_X2_goOut_117 : decode M_X2_goOut.2.1 117 = .ok (.iconst 1, 1) := by decide +kernel
theorem d_X2_goOut_118 : decode M_X2_goOut.2.1 118 = .ok (.iadd, 1) := by decide +kernel
theorem d_X2_goOut_119 : decode M_X2_goOut.2.1 119 = .ok (.iastore, 1) := by decide +kernel
theorem d_X2_goOut_120 : decode M_X2_goOut.2.1 120 = .ok (.return_, 1) := by decide +kernel
set_option maxRecDepth 20000 in
theorem s_X2_goOut_0 {d : Nat} {p0 : Int} {p1 : Int} {G : Mem} {Q : Int → Mem → Prop} (bp0 : Bs 1 p0) (h : (0 ≤ p1 ∧ p1 < 5) ∧ ((InR (G 31 p1)) ∧ (((G 31 p1) = (-1)) → Q 0 G) ∧ (¬ ((G 31 p1) = (-1)) → (0 ≤ (G 31 p1) ∧ (G 31 p1) < 5) ∧ ((InR (G 22 (G 31 p1))) ∧ (((G 22 (G 31 p1)) ≠ 0) → Q 0 G) ∧ (¬ ((G 22 (G 31 p1)) ≠ 0) → (InR (G 21 (G 31 p1))) ∧ (InR (G ((p0 + 13) + (G 31 p1)) 4)) ∧ (((G 21 (G 31 p1)) < (G ((p0 + 13) + (G 31 p1)) 4)) → Q 0 G) ∧ (¬ ((G 21 (G 31 p1)) < (G ((p0 + 13) + (G 31 p1)) 4)) → Ct d M_X8_asleep NT 0 0 (some lay) [(2, 20), (2, p0), (0, (G 31 p1)), (0, (G 20 7))] G (fun r11 G10 => (InR r11) ∧ ((r11 = 0) → Rn (d + 1) M_X2_goOut zN 70 [(0, (2, 19)), (1, (2, p0)), (3, (0, (G 31 p1))), (4, (0, (p1 + 1)))] [] G10 Q) ∧ (¬ (r11 = 0) → Q 0 G10)))))))) : Rn (d + 1) M_X2_goOut zN 0 [(0, (2, 19)), (1, (2, p0)), (2, (0, p1))] [] G Q := by
  refine r_aload_n d_X2_goOut_0 0 rfl rfl ?_
  refine r_getL (v := 31) 2 8 8 rfl d_X2_goOut_1 fl_X2_28 (by decide) (bs_ob bs_2) (ly_2_8 bs_2).1 (ly_2_8 bs_2).2.1 ?_
  refine r_iload_n d_X2_goOut_4 2 rfl rfl ?_
  obtain ⟨h1, h⟩ := h
  refine r_iaload d_X2_goOut_5 (ly_2_8 bs_2).2.2 h1 ?_
  refine r_istore_n (ls1 := [(3, (0, (G 31 p1))), (0, (2, 19)), (1, (2, p0)), (2, (0, p1))]) d_X2_goOut_6 rfl (by decide) rfl ?_
  refine r_iload_n d_X2_goOut_7 0 rfl rfl ?_
  refine r_iconst d_X2_goOut_8 ?_
  obtain ⟨h2, h⟩ := h
  refine r_icmp_eq (tgt := 64) d_X2_goOut_9 (by decide) h2 ⟨by decide, by decide⟩ (fun c3 => ?_) (fun c3 => ?_)
  · replace h := h.1 c3
    exact r_ret d_X2_goOut_64 rfl ⟨rfl, Nat.le_refl _, Nat.le_refl _⟩ h
  · replace h := h.2 c3
    refine r_aload_n d_X2_goOut_12 1 rfl rfl ?_
    refine r_getL (v := 20) 2 0 0 rfl d_X2_goOut_13 fl_X2_12 (by decide) (bs_ob bs_2) (ly_2_0 bs_2).1 (ly_2_0 bs_2).2.1 ?_
    refine r_getL (v := 22) 8 1 1 rfl d_X2_goOut_16 fl_X2_76 (by decide) (bs_ob (ly_2_0 bs_2).2.2) (ly_8_1 (ly_2_0 bs_2).2.2).1 (ly_8_1 (ly_2_0 bs_2).2.2).2.1 ?_
    refine r_iload_n d_X2_goOut_19 0 rfl rfl ?_
    obtain ⟨h4, h⟩ := h
    refine r_iaload d_X2_goOut_20 (ly_8_1 (ly_2_0 bs_2).2.2).2.2 h4 ?_
    obtain ⟨h5, h⟩ := h
    refine r_if_ne (tgt := 64) d_X2_goOut_21 (by decide) h5 (fun c6 => ?_) (fun c6 => ?_)
    · replace h := h.1 c6
      exact r_ret d_X2_goOut_64 rfl ⟨rfl, Nat.le_refl _, Nat.le_refl _⟩ h
    · replace h := h.2 c6
      refine r_aload_n d_X2_goOut_24 1 rfl rfl ?_
      refine r_getL (v := 20) 2 0 0 rfl d_X2_goOut_25 fl_X2_12 (by decide) (bs_ob bs_2) (ly_2_0 bs_2).1 (ly_2_0 bs_2).2.1 ?_
      refine r_getL (v := 21) 8 0 0 rfl d_X2_goOut_28 fl_X2_83 (by decide) (bs_ob (ly_2_0 bs_2).2.2) (ly_8_0 (ly_2_0 bs_2).2.2).1 (ly_8_0 (ly_2_0 bs_2).2.2).2.1 ?_
      refine r_iload_n d_X2_goOut_31 0 rfl rfl ?_
      refine r_iaload d_X2_goOut_32 (ly_8_0 (ly_2_0 bs_2).2.2).2.2 h4 ?_
      refine r_aload_n d_X2_goOut_33 2 rfl rfl ?_
      refine r_getL (v := (p0 + 1)) 1 0 0 rfl d_X2_goOut_34 fl_X2_86 (by decide) (bs_ob bp0) (ly_1_0 bp0).1 (ly_1_0 bp0).2.1 ?_
      refine r_iload_n d_X2_goOut_37 0 rfl rfl ?_
      refine r_aaloadL (v := ((p0 + 13) + (G 31 p1))) d_X2_goOut_38 (ly_1_0 bp0).2.2 (by decide) rfl h4 (el_1_0 bp0 h4.1 h4.2).1 (el_1_0 bp0 h4.1 h4.2).2.1 ?_
      refine r_getI 7 4 4 rfl d_X2_goOut_39 fl_X2_90 (by decide) (bs_ob (el_1_0 bp0 h4.1 h4.2).2.2) ?_
      obtain ⟨h7, h⟩ := h
      obtain ⟨h8, h⟩ := h
      refine r_icmp_lt (tgt := 64) d_X2_goOut_42 (by decide) h7 h8 (fun c9 => ?_) (fun c9 => ?_)
      · replace h := h.1 c9
        exact r_ret d_X2_goOut_64 rfl ⟨rfl, Nat.le_refl _, Nat.le_refl _⟩ h
      · replace h := h.2 c9
        refine r_aload_n d_X2_goOut_45 1 rfl rfl ?_
        refine r_getL (v := 20) 2 0 0 rfl d_X2_goOut_46 fl_X2_12 (by decide) (bs_ob bs_2) (ly_2_0 bs_2).1 (ly_2_0 bs_2).2.1 ?_
        refine r_aload_n d_X2_goOut_49 2 rfl rfl ?_
        refine r_iload_n d_X2_goOut_50 0 rfl rfl ?_
        refine r_aload_n d_X2_goOut_51 1 rfl rfl ?_
        refine r_getL (v := 20) 2 0 0 rfl d_X2_goOut_52 fl_X2_12 (by decide) (bs_ob bs_2) (ly_2_0 bs_2).1 (ly_2_0 bs_2).2.1 ?_
        refine r_getI 8 7 7 rfl d_X2_goOut_55 fl_X2_95 (by decide) (bs_ob (ly_2_0 bs_2).2.2) ?_
        refine r_callV0 (M' := M_X8_asleep) (ci := 8) [(2, p0), (0, (G 31 p1)), (0, (G 20 7))] d_X2_goOut_58 cl_X2_98 rfl (Nat.le_of_ble_eq_true rfl) (by decide) rfl (bs_ob (ly_2_0 bs_2).2.2) ?_
        refine Ct.mono h (fun r11 G10 h => ?_)
        show Rn _ M_X2_goOut zN 61 [(3, (0, (G 31 p1))), (0, (2, 19)), (1, (2, p0)), (2, (0, p1))] [(0, r11)] G10 Q
        obtain ⟨h12, h⟩ := h
        refine r_if_eq (tgt := 65) d_X2_goOut_61 (by decide) h12 (fun c13 => ?_) (fun c13 => ?_)
        · replace h := h.1 c13
          refine r_iload_n d_X2_goOut_65 3 rfl rfl ?_
          refine r_iconst d_X2_goOut_66 ?_
          refine r_iadd d_X2_goOut_67 ?_
          refine r_istore (ls1 := [(4, (0, (p1 + 1))), (3, (0, (G 31 p1))), (0, (2, 19)), (1, (2, p0)), (2, (0, p1))]) d_X2_goOut_68 (by decide) rfl ?_
          exact Rn.sub [2, 3, 1, 0] rfl h
        · replace h := h.2 c13
          exact r_ret d_X2_goOut_64 rfl ⟨rfl, Nat.le_refl _, Nat.le_refl _⟩ h
set_option maxRecDepth 20000 in
theorem s_X2_goOut_70 {d : Nat} {x1 : Int} {x3 : Int} {x4 : Int} {G : Mem} {Q : Int → Mem → Prop} (bx1 : Bs 1 x1) (h : (InR x4) ∧ (InR (G x1 6)) ∧ (((G x1 6) ≤ x4) → Ct d M_X8_leave NT 0 0 (some lay) [(2, 20), (2, x1), (0, x3)] G (fun r5 G4 => (0 ≤ x3 ∧ x3 < 5) ∧ ((∀ G7 : Mem, G7 = st G4 28 x3 ((G4 28 x3) + 1) → Q 0 G7)))) ∧ (¬ ((G x1 6) ≤ x4) → (0 ≤ x4 ∧ x4 < 5) ∧ (Ct d M_X2_rouse NT 0 0 (some lay) [(2, 19), (2, x1), (0, (G 31 x4))] G (fun r10 G9 => (InR r10) ∧ ((r10 ≠ 0) → Rn (d + 1) M_X2_goOut zN 70 [(0, (2, 19)), (1, (2, x1)), (3, (0, x3)), (4, (0, (x4 + 1)))] [] G9 Q) ∧ (¬ (r10 ≠ 0) → Q 0 G9))))) : Rn (d + 1) M_X2_goOut zN 70 [(0, (2, 19)), (1, (2, x1)), (3, (0, x3)), (4, (0, x4))] [] G Q := by
  refine r_iload d_X2_goOut_70 3 rfl ?_
  refine r_aload_n d_X2_goOut_72 1 rfl rfl ?_
  refine r_getI 1 6 6 rfl d_X2_goOut_73 fl_X2_59 (by decide) (bs_ob bx1) ?_
  obtain ⟨h1, h⟩ := h
  obtain ⟨h2, h⟩ := h
  refine r_icmp_ge (tgt := 101) d_X2_goOut_76 (by decide) h1 h2 (fun c3 => ?_) (fun c3 => ?_)
  · replace h := h.1 c3
    refine r_aload_n d_X2_goOut_101 0 rfl rfl ?_
    refine r_getL (v := 20) 2 0 0 rfl d_X2_goOut_102 fl_X2_12 (by decide) (bs_ob bs_2) (ly_2_0 bs_2).1 (ly_2_0 bs_2).2.1 ?_
    refine r_aload_n d_X2_goOut_105 1 rfl rfl ?_
    refine r_iload_n d_X2_goOut_106 2 rfl rfl ?_
    refine r_callV0 (M' := M_X8_leave) (ci := 8) [(2, x1), (0, x3)] d_X2_goOut_107 cl_X2_102 rfl (Nat.le_of_ble_eq_true rfl) (by decide) rfl (bs_ob (ly_2_0 bs_2).2.2) ?_
    refine Ct.mono h (fun r5 G4 h => ?_)
    show Rn _ M_X2_goOut zN 110 [(0, (2, 19)), (1, (2, x1)), (3, (0, x3)), (4, (0, x4))] [] G4 Q
    refine r_aload_n d_X2_goOut_110 0 rfl rfl ?_
    refine r_getL (v := 28) 2 1 1 rfl d_X2_goOut_111 fl_X2_18 (by decide) (bs_ob bs_2) (ly_2_1 bs_2).1 (ly_2_1 bs_2).2.1 ?_
    refine r_iload_n d_X2_goOut_114 2 rfl rfl ?_
    refine r_dup2 0 2 rfl rfl (by decide) (by decide) d_X2_goOut_115 ?_
    obtain ⟨h6, h⟩ := h
    refine r_iaload d_X2_goOut_116 (ly_2_1 bs_2).2.2 h6 ?_
    refine r_iconst d_X2_goOut_117 ?_
    refine r_iadd d_X2_goOut_118 ?_
    obtain ⟨G7, eG7⟩ : ∃ y : Mem, y = st G4 28 x3 ((G4 28 x3) + 1) := ⟨_, rfl⟩
    replace h := h G7 eG7
    refine r_iastore d_X2_goOut_119 (ly_2_1 bs_2).2.2 h6 ?_
    rw [← eG7]
    exact r_ret d_X2_goOut_120 rfl ⟨rfl, Nat.le_refl _, Nat.le_refl _⟩ h
  · replace h := h.2 c3
    refine r_aload_n d_X2_goOut_79 0 rfl rfl ?_
    refine r_aload_n d_X2_goOut_80 1 rfl rfl ?_
    refine r_aload_n d_X2_goOut_81 0 rfl rfl ?_
    refine r_getL (v := 31) 2 8 8 rfl d_X2_goOut_82 fl_X2_28 (by decide) (bs_ob bs_2) (ly_2_8 bs_2).1 (ly_2_8 bs_2).2.1 ?_
    refine r_iload d_X2_goOut_85 3 rfl ?_
    obtain ⟨h8, h⟩ := h
    refine r_iaload d_X2_goOut_87 (ly_2_8 bs_2).2.2 h8 ?_
    refine r_callV0 (M' := M_X2_rouse) (ci := 2) [(2, x1), (0, (G 31 x4))] d_X2_goOut_88 cl_X2_79 rfl (Nat.le_of_ble_eq_true rfl) (by decide) rfl (bs_ob bs_2) ?_
    refine Ct.mono h (fun r10 G9 h => ?_)
    show Rn _ M_X2_goOut zN 91 [(0, (2, 19)), (1, (2, x1)), (3, (0, x3)), (4, (0, x4))] [(0, r10)] G9 Q
    obtain ⟨h11, h⟩ := h
    refine r_if_ne (tgt := 95) d_X2_goOut_91 (by decide) h11 (fun c12 => ?_) (fun c12 => ?_)
    · replace h := h.1 c12
      refine r_iinc (ls1 := [(4, (0, (x4 + 1))), (0, (2, 19)), (1, (2, x1)), (3, (0, x3))]) d_X2_goOut_95 3 rfl (by decide) rfl ?_
      refine r_goto (tgt := 70) d_X2_goOut_98 (by decide) ?_
      exact Rn.sub [1, 2, 3, 0] rfl h
    · replace h := h.2 c12
      exact r_ret d_X2_goOut_94 rfl ⟨rfl, Nat.le_refl _, Nat.le_refl _⟩ h
theorem d_X2_rouse_0 : decode M_X2_rouse.2.1 0 = .ok (.iload_n 2, 1) := by decide +kernel
theorem d_X2_rouse_1 : decode M_X2_rouse.2.1 1 = .ok (.iconst (-1), 1) := by decide +kernel
theorem d_X2_rouse_2 : decode M_X2_rouse.2.1 2 = .ok (.if_icmp .eq 22, 3) := by decide +kernel
theorem d_X2_rouse_5 : decode M_X2_rouse.2.1 5 = .ok (.aload_n 0, 1) := by decide +kernel
theorem d_X2_rouse_6 : decode M_X2_rouse.2.1 6 = .ok (.getfield 12, 3) := by decide +kernel
theorem d_X2_rouse_9 : decode M_X2_rouse.2.1 9 = .ok (.aload_n 1, 1) := by decide +kernel
theorem d_X2_rouse_10 : decode M_X2_rouse.2.1 10 = .ok (.iload_n 2, 1) := by decide +kernel
theorem d_X2_rouse_11 : decode M_X2_rouse.2.1 11 = .ok (.aload_n 0, 1) := by decide +kernel
theorem d_X2_rouse_12 : decode M_X2_rouse.2.1 12 = .ok (.getfield 12, 3) := by decide +kernel
theorem d_X2_rouse_15 : decode M_X2_rouse.2.1 15 = .ok (.getfield 95, 3) := by decide +kernel
theorem d_X2_rouse_18 : decode M_X2_rouse.2.1 18 = .ok (.invokevirtual 98, 3) := by decide +kernel
theorem d_X2_rouse_21 : decode M_X2_rouse.2.1 21 = .ok (.ifCond .ne 5, 3) := by decide +kernel
theorem d_X2_rouse_24 : decode M_X2_rouse.2.1 24 = .ok (.iconst 1, 1) := by decide +kernel
theorem d_X2_rouse_25 : decode M_X2_rouse.2.1 25 = .ok (.ireturn, 1) := by decide +kernel
theorem d_X2_rouse_26 : decode M_X2_rouse.2.1 26 = .ok (.aload_n 0, 1) := by decide +kernel
theorem d_X2_rouse_27 : decode M_X2_rouse.2.1 27 = .ok (.getfield 105, 3) := by decide +kernel
theorem d_X2_rouse_30 : decode M_X2_rouse.2.1 30 = .ok (.ifCond .eq 28, 3) := by decide +kernel
theorem d_X2_rouse_33 : decode M_X2_rouse.2.1 33 = .ok (.aload_n 0, 1) := by decide +kernel
theorem d_X2_rouse_34 : decode M_X2_rouse.2.1 34 = .ok (.bipush 10, 2) := by decide +kernel
theorem d_X2_rouse_36 : decode M_X2_rouse.2.1 36 = .ok (.invokevirtual 109, 3) := by decide +kernel
theorem d_X2_rouse_39 : decode M_X2_rouse.2.1 39 = .ok (.aload_n 1, 1) := by decide +kernel
theorem d_X2_rouse_40 : decode M_X2_rouse.2.1 40 = .ok (.aload_n 0, 1) := by decide +kernel
theorem d_X2_rouse_41 : decode M_X2_rouse.2.1 41 = .ok (.getfield 12, 3) := by decide +kernel
theorem d_X2_rouse_44 : decode M_X2_rouse.2.1 44 = .ok (.iload_n 2, 1) := by decide +kernel
theorem d_X2_rouse_45 : decode M_X2_rouse.2.1 45 = .ok (.aload_n 0, 1) := by decide +kernel
theorem d_X2_rouse_46 : decode M_X2_rouse.2.1 46 = .ok (.getfield 12, 3) := by decide +kernel
theorem d_X2_rouse_49 : decode M_X2_rouse.2.1 49 = .ok (.getfield 95, 3) := by decide +kernel
theorem d_X2_rouse_52 : decode M_X2_rouse.2.1 52 = .ok (.invokevirtual 113, 3) := by decide +kernel
theorem d_X2_rouse_55 : decode M_X2_rouse.2.1 55 = .ok (.if_icmp .ge 7, 3) := by decide +kernel
theorem d_X2_rouse_58 : decode M_X2_rouse.2.1 58 = .ok (.iconst 1, 1) := by decide +kernel
theorem d_X2_rouse_59 : decode M_X2_rouse.2.1 59 = .ok (.goto 4, 3) := by decide +kernel
theorem d_X2_rouse_62 : decode M_X2_rouse.2.1 62 = .ok (.iconst 0, 1) := by decide +kernel
theorem d_X2_rouse_63 : decode M_X2_rouse.2.1 63 = .ok (.istore_n 3, 1) := by decide +kernel
theorem d_X2_rouse_64 : decode M_X2_rouse.2.1 64 = .ok (.iload_n 3, 1) := by decide +kernel
theorem d_X2_rouse_65 : decode M_X2_rouse.2.1 65 = .ok (.ifCond .eq 13, 3) := by decide +kernel
theorem d_X2_rouse_68 : decode M_X2_rouse.2.1 68 = .ok (.aload_n 0, 1) := by decide +kernel
theorem d_X2_rouse_69 : decode M_X2_rouse.2.1 69 = .ok (.getfield 22, 3) := by decide +kernel
theorem d_X2_rouse_72 : decode M_X2_rouse.2.1 72 = .ok (.iload_n 2, 1) := by decide +kernel
theorem d_X2_rouse_73 : decode M_X2_rouse.2.1 73 = .ok (.dup2, 1) := by decide +kernel
theorem d_X2_rouse_74 : decode M_X2_rouse.2.1 74 = .ok (.iaload, 1) := by decide +kernel
theorem d_X2_rouse_75 : decode M_X2_rouse.2.1 75 = .ok (.iconst 1, 1) := by decide +kernel
theorem d_X2_rouse_76 : decode M_X2_rouse.2.1 76 = .ok (.iadd, 1) := by decide +kernel
theorem d_X2_rouse_77 : decode M_X2_rouse.2.1 77 = .ok (.iastore, 1) := by decide +kernel
theorem d_X2_rouse_78 : decode M_X2_rouse.2.1 78 = .ok (.aload_n 0, 1) := by decide +kernel
theorem d_X2_rouse_79 : decode M_X2_rouse.2.1 79 = .ok (.getfield 12, 3) := by decide +kernel
theorem d_X2_rouse_82 : decode M_X2_rouse.2.1 82 = .ok (.iload_n 2, 1) := by decide +kernel
theorem d_X2_rouse_83 : decode M_X2_rouse.2.1 83 = .ok (.iload_n 3, 1) := by decide +kernel
theorem d_X2_rouse_84 : decode M_X2_rouse.2.1 84 = .ok (.invokevirtual 117, 3) := by decide +kernel
theorem d_X2_rouse_87 : decode M_X2_rouse.2.1 87 = .ok (.ireturn, 1) := by decide +kernel
set_option maxRecDepth 20000 in
theorem s_X2_rouse_0 {d : Nat} {p0 : Int} {p1 : Int} {G : Mem} {Q : Int → Mem → Prop} (bp0 : Bs 1 p0) (h : (InR p1) ∧ ((p1 = (-1)) → Q 1 G) ∧ (¬ (p1 = (-1)) → Ct d M_X8_asleep NT 0 0 (some lay) [(2, 20), (2, p0), (0, p1), (0, (G 20 7))] G (fun r4 G3 => (InR r4) ∧ ((r4 ≠ 0) → (InR (G3 19 11)) ∧ (((G3 19 11) = 0) → Rn (d + 1) M_X2_rouse zN 63 [(0, (2, 19)), (2, (0, p1))] [(0, 1)] G3 Q) ∧ (¬ ((G3 19 11) = 0) → Ct d M_X2_drawBelow NT 0 0 (some lay) [(2, 19), (0, 10)] G3 (fun r10 G9 => Ct d M_X1_waking NT 0 0 (some lay) [(2, p0), (2, 20), (0, p1), (0, (G9 20 7))] G9 (fun r12 G11 => (InR r10) ∧ (InR r12) ∧ ((r12 ≤ r10) → Rn (d + 1) M_X2_rouse zN 63 [(0, (2, 19)), (2, (0, p1))] [(0, 0)] G11 Q) ∧ (¬ (r12 ≤ r10) → Rn (d + 1) M_X2_rouse zN 63 [(0, (2, 19)), (2, (0, p1))] [(0, 1)] G11 Q))))) ∧ (¬ (r4 ≠ 0) → Q 1 G3)))) : Rn (d + 1) M_X2_rouse zN 0 [(0, (2, 19)), (1, (2, p0)), (2, (0, p1))] [] G Q := by
  refine r_iload_n d_X2_rouse_0 2 rfl rfl ?_
  refine r_iconst d_X2_rouse_1 ?_
  obtain ⟨h1, h⟩ := h
  refine r_icmp_eq (tgt := 24) d_X2_rouse_2 (by decide) h1 ⟨by decide, by decide⟩ (fun c2 => ?_) (fun c2 => ?_)
  · replace h := h.1 c2
    refine r_iconst d_X2_rouse_24 ?_
    exact r_zreturn d_X2_rouse_25 rfl ⟨rfl, Nat.le_refl _, Nat.le_refl _⟩ (by decide) h
  · replace h := h.2 c2
    refine r_aload_n d_X2_rouse_5 0 rfl rfl ?_
    refine r_getL (v := 20) 2 0 0 rfl d_X2_rouse_6 fl_X2_12 (by decide) (bs_ob bs_2) (ly_2_0 bs_2).1 (ly_2_0 bs_2).2.1 ?_
    refine r_aload_n d_X2_rouse_9 1 rfl rfl ?_
    refine r_iload_n d_X2_rouse_10 2 rfl rfl ?_
    refine r_aload_n d_X2_rouse_11 0 rfl rfl ?_
    refine r_getL (v := 20) 2 0 0 rfl d_X2_rouse_12 fl_X2_12 (by decide) (bs_ob bs_2) (ly_2_0 bs_2).1 (ly_2_0 bs_2).2.1 ?_
    refine r_getI 8 7 7 rfl d_X2_rouse_15 fl_X2_95 (by decide) (bs_ob (ly_2_0 bs_2).2.2) ?_
    refine r_callV0 (M' := M_X8_asleep) (ci := 8) [(2, p0), (0, p1), (0, (G 20 7))] d_X2_rouse_18 cl_X2_98 rfl (Nat.le_of_ble_eq_true rfl) (by decide) rfl (bs_ob (ly_2_0 bs_2).2.2) ?_
    refine Ct.mono h (fun r4 G3 h => ?_)
    show Rn _ M_X2_rouse zN 21 [(0, (2, 19)), (1, (2, p0)), (2, (0, p1))] [(0, r4)] G3 Q
    obtain ⟨h5, h⟩ := h
    refine r_if_ne (tgt := 26) d_X2_rouse_21 (by decide) h5 (fun c6 => ?_) (fun c6 => ?_)
    · replace h := h.1 c6
      refine r_aload_n d_X2_rouse_26 0 rfl rfl ?_
      refine r_getZ 2 11 11 rfl d_X2_rouse_27 fl_X2_105 (by decide) (bs_ob bs_2) ?_
      obtain ⟨h7, h⟩ := h
      refine r_if_eq (tgt := 58) d_X2_rouse_30 (by decide) h7 (fun c8 => ?_) (fun c8 => ?_)
      · replace h := h.1 c8
        refine r_iconst d_X2_rouse_58 ?_
        refine r_goto (tgt := 63) d_X2_rouse_59 (by decide) ?_
        exact Rn.sub [0, 2] rfl h
      · replace h := h.2 c8
        refine r_aload_n d_X2_rouse_33 0 rfl rfl ?_
        refine r_bipush d_X2_rouse_34 (by decide +kernel) ?_
        refine r_callV0 (M' := M_X2_drawBelow) (ci := 2) [(0, 10)] d_X2_rouse_36 cl_X2_109 rfl (Nat.le_of_ble_eq_true rfl) (by decide) rfl (bs_ob bs_2) ?_
        refine Ct.mono h (fun r10 G9 h => ?_)
        show Rn _ M_X2_rouse zN 39 [(0, (2, 19)), (1, (2, p0)), (2, (0, p1))] [(0, r10)] G9 Q
        refine r_aload_n d_X2_rouse_39 1 rfl rfl ?_
        refine r_aload_n d_X2_rouse_40 0 rfl rfl ?_
        refine r_getL (v := 20) 2 0 0 rfl d_X2_rouse_41 fl_X2_12 (by decide) (bs_ob bs_2) (ly_2_0 bs_2).1 (ly_2_0 bs_2).2.1 ?_
        refine r_iload_n d_X2_rouse_44 2 rfl rfl ?_
        refine r_aload_n d_X2_rouse_45 0 rfl rfl ?_
        refine r_getL (v := 20) 2 0 0 rfl d_X2_rouse_46 fl_X2_12 (by decide) (bs_ob bs_2) (ly_2_0 bs_2).1 (ly_2_0 bs_2).2.1 ?_
        refine r_getI 8 7 7 rfl d_X2_rouse_49 fl_X2_95 (by decide) (bs_ob (ly_2_0 bs_2).2.2) ?_
        refine r_callV0 (M' := M_X1_waking) (ci := 1) [(2, 20), (0, p1), (0, (G9 20 7))] d_X2_rouse_52 cl_X2_113 rfl (Nat.le_of_ble_eq_true rfl) (by decide) rfl (bs_ob bp0) ?_
        refine Ct.mono h (fun r12 G11 h => ?_)
        show Rn _ M_X2_rouse zN 55 [(0, (2, 19)), (1, (2, p0)), (2, (0, p1))] [(0, r12), (0, r10)] G11 Q
        obtain ⟨h13, h⟩ := h
        obtain ⟨h14, h⟩ := h
        refine r_icmp_ge (tgt := 62) d_X2_rouse_55 (by decide) h13 h14 (fun c15 => ?_) (fun c15 => ?_)
        · replace h := h.1 c15
          refine r_iconst d_X2_rouse_62 ?_
          exact Rn.sub [0, 2] rfl h
        · replace h := h.2 c15
          refine r_iconst d_X2_rouse_58 ?_
          refine r_goto (tgt := 63) d_X2_rouse_59 (by decide) ?_
          exact Rn.sub [0, 2] rfl h
    · replace h := h.2 c6
      refine r_iconst d_X2_rouse_24 ?_
      exact r_zreturn d_X2_rouse_25 rfl ⟨rfl, Nat.le_refl _, Nat.le_refl _⟩ (by decide) h
set_option maxRecDepth 20000 in
theorem s_X2_rouse_63 {d : Nat} {x2 : Int} {s0 : Int} {G : Mem} {Q : Int → Mem → Prop}  (h : (InR s0) ∧ ((s0 = 0) → Rn d M_X2_rouse zN 78 [(0, (2, 19)), (2, (0, x2)), (3, (0, s0))] [] G Q) ∧ (¬ (s0 = 0) → (0 ≤ x2 ∧ x2 < 5) ∧ ((∀ G4 : Mem, G4 = st G 29 x2 ((G 29 x2) + 1) → Rn d M_X2_rouse zN 78 [(0, (2, 19)), (2, (0, x2)), (3, (0, s0))] [] G4 Q)))) : Rn d M_X2_rouse zN 63 [(0, (2, 19)), (2, (0, x2))] [(0, s0)] G Q := by
  refine r_istore_n (ls1 := [(3, (0, s0)), (0, (2, 19)), (2, (0, x2))]) d_X2_rouse_63 rfl (by decide) rfl ?_
  refine r_iload_n d_X2_rouse_64 0 rfl rfl ?_
  obtain ⟨h1, h⟩ := h
  refine r_if_eq (tgt := 78) d_X2_rouse_65 (by decide) h1 (fun c2 => ?_) (fun c2 => ?_)
  · replace h := h.1 c2
    exact Rn.sub [1, 2, 0] rfl h
  · replace h := h.2 c2
    refine r_aload_n d_X2_rouse_68 1 rfl rfl ?_
    refine r_getL (v := 29) 2 2 2 rfl d_X2_rouse_69 fl_X2_22 (by decide) (bs_ob bs_2) (ly_2_2 bs_2).1 (ly_2_2 bs_2).2.1 ?_
    refine r_iload_n d_X2_rouse_72 2 rfl rfl ?_
    refine r_dup2 0 2 rfl rfl (by decide) (by decide) d_X2_rouse_73 ?_
    obtain ⟨h3, h⟩ := h
    refine r_iaload d_X2_rouse_74 (ly_2_2 bs_2).2.2 h3 ?_
    refine r_iconst d_X2_rouse_75 ?_
    refine r_iadd d_X2_rouse_76 ?_
    obtain ⟨G4, eG4⟩ : ∃ y : Mem, y = st G 29 x2 ((G 29 x2) + 1) := ⟨_, rfl⟩
    replace h := h G4 eG4
    refine r_iastore d_X2_rouse_77 (ly_2_2 bs_2).2.2 h3 ?_
    rw [← eG4]
    exact Rn.sub [1, 2, 0] rfl h
set_option maxRecDepth 20000 in
theorem s_X2_rouse_78 {d : Nat} {x2 : Int} {x3 : Int} {G : Mem} {Q : Int → Mem → Prop}  (h : Ct d M_X8_ask NT 0 0 (some lay) [(2, 20), (0, x2), (0, x3)] G (fun r2 G1 => (r2 = 0 ∨ r2 = 1) ∧ Q r2 G1)) : Rn (d + 1) M_X2_rouse zN 78 [(0, (2, 19)), (2, (0, x2)), (3, (0, x3))] [] G Q := by
  refine r_aload_n d_X2_rouse_78 0 rfl rfl ?_
  refine r_getL (v := 20) 2 0 0 rfl d_X2_rouse_79 fl_X2_12 (by decide) (bs_ob bs_2) (ly_2_0 bs_2).1 (ly_2_0 bs_2).2.1 ?_
  refine r_iload_n d_X2_rouse_82 1 rfl rfl ?_
  refine r_iload_n d_X2_rouse_83 2 rfl rfl ?_
  refine r_callV0 (M' := M_X8_ask) (ci := 8) [(0, x2), (0, x3)] d_X2_rouse_84 cl_X2_117 rfl (Nat.le_of_ble_eq_true rfl) (by decide) rfl (bs_ob (ly_2_0 bs_2).2.2) ?_
  refine Ct.mono h (fun r2 G1 h => ?_)
  show Rn _ M_X2_rouse zN 87 [(0, (2, 19)), (2, (0, x2)), (3, (0, x3))] [(0, r2)] G1 Q
  exact r_zreturn d_X2_rouse_87 rfl ⟨rfl, Nat.le_refl _, Nat.le_refl _⟩ h.1 h.2
theorem d_X2_drawBelow_0 : decode M_X2_drawBelow.2.1 0 = .ok (.aload_n 0, 1) := by decide +kernel
theorem d_X2_drawBelow_1 : decode M_X2_drawBelow.2.1 1 = .ok (.aload_n 0, 1) := by decide +kernel
theorem d_X2_drawBelow_2 : decode M_X2_drawBelow.2.1 2 = .ok (.getfield 121, 3) := by decide +kernel
theorem d_X2_drawBelow_5 : decode M_X2_drawBelow.2.1 5 = .ok (.i2l, 1) := by decide +kernel
theorem d_X2_drawBelow_6 : decode M_X2_drawBelow.2.1 6 = .ok (.ldc2_w 124, 3) := by decide +kernel
theorem d_X2_drawBelow_9 : decode M_X2_drawBelow.2.1 9 = .ok (.lmul, 1) := by decide +kernel
theorem d_X2_drawBelow_10 : decode M_X2_drawBelow.2.1 10 = .ok (.ldc2_w 126, 3) := by decide +kernel
theorem d_X2_drawBelow_13 : decode M_X2_drawBelow.2.1 13 = .ok (.ladd, 1) := by decide +kernel
theorem d_X2_drawBelow_14 : decode M_X2_drawBelow.2.1 14 = .ok (.ldc2_w 128, 3) := by decide +kernel
theorem d_X2_drawBelow_17 : decode M_X2_drawBelow.2.1 17 = .ok (.land, 1) := by decide +kernel
theorem d_X2_drawBelow_18 : decode M_X2_drawBelow.2.1 18 = .ok (.l2i, 1) := by decide +kernel
theorem d_X2_drawBelow_19 : decode M_X2_drawBelow.2.1 19 = .ok (.putfield 121, 3) := by decide +kernel
theorem d_X2_drawBelow_22 : decode M_X2_drawBelow.2.1 22 = .ok (.aload_n 0, 1) := by decide +kernel
theorem d_X2_drawBelow_23 : decode M_X2_drawBelow.2.1 23 = .ok (.getfield 121, 3) := by decide +kernel
theorem d_X2_drawBelow_26 : decode M_X2_drawBelow.2.1 26 = .ok (.ldc 130, 2) := by decide +kernel
theorem d_X2_drawBelow_28 : decode M_X2_drawBelow.2.1 28 = .ok (.idiv, 1) := by decide +kernel
theorem d_X2_drawBelow_29 : decode M_X2_drawBelow.2.1 29 = .ok (.iload_n 1, 1) := by decide +kernel
theorem d_X2_drawBelow_30 : decode M_X2_drawBelow.2.1 30 = .ok (.irem, 1) := by decide +kernel
theorem d_X2_drawBelow_31 : decode M_X2_drawBelow.2.1 31 = .ok (.ireturn, 1) := by decide +kernel
set_option maxRecDepth 20000 in
theorem s_X2_drawBelow_0 {d : Nat} {p0 : Int} {G : Mem} {Q : Int → Mem → Prop}  (h : (InR (G 19 12)) ∧ ((∀ G2 : Mem, G2 = st G 19 12 (andL (((G 19 12) * 1103515245) + 12345) 2147483647) → (InR (G2 19 12)) ∧ ((InR (Int.tdiv (G2 19 12) 65536)) ∧ (0 < p0 ∧ InR p0) ∧ (Q (Int.tmod (Int.tdiv (G2 19 12) 65536) p0) G2))))) : Rn d M_X2_drawBelow zN 0 [(0, (2, 19)), (1, (0, p0))] [] G Q := by
  refine r_aload_n d_X2_drawBelow_0 0 rfl rfl ?_
  refine r_aload_n d_X2_drawBelow_1 0 rfl rfl ?_
  refine r_getI 2 12 12 rfl d_X2_drawBelow_2 fl_X2_121 (by decide) (bs_ob bs_2) ?_
  obtain ⟨h1, h⟩ := h
  refine r_i2l d_X2_drawBelow_5 h1 ?_
  refine r_ldc2 (x := 1103515245) d_X2_drawBelow_6 cst_X2_124 ?_
  refine r_lmul d_X2_drawBelow_9 ?_
  refine r_ldc2 (x := 12345) d_X2_drawBelow_10 cst_X2_126 ?_
  refine r_ladd d_X2_drawBelow_13 ?_
  refine r_ldc2 (x := 2147483647) d_X2_drawBelow_14 cst_X2_128 ?_
  refine r_land d_X2_drawBelow_17 ?_
  refine r_l2i d_X2_drawBelow_18 ?_
  obtain ⟨G2, eG2⟩ : ∃ y : Mem, y = st G 19 12 (andL (((G 19 12) * 1103515245) + 12345) 2147483647) := ⟨_, rfl⟩
  replace h := h G2 eG2
  refine r_putI 2 12 12 rfl d_X2_drawBelow_19 fl_X2_121 (by decide) nofin_2_12 (bs_ob bs_2) ?_
  rw [← eG2]
  refine r_aload_n d_X2_drawBelow_22 0 rfl rfl ?_
  refine r_getI 2 12 12 rfl d_X2_drawBelow_23 fl_X2_121 (by decide) (bs_ob bs_2) ?_
  refine r_ldc (x := 65536) d_X2_drawBelow_26 cst_X2_130 ?_
  obtain ⟨h3, h⟩ := h
  refine r_idiv d_X2_drawBelow_28 h3 ⟨by decide, ⟨by decide, by decide⟩⟩ ?_
  refine r_iload_n d_X2_drawBelow_29 1 rfl rfl ?_
  obtain ⟨h4, h⟩ := h
  obtain ⟨h5, h⟩ := h
  refine r_irem d_X2_drawBelow_30 h4 h5 ?_
  exact r_ireturn d_X2_drawBelow_31 rfl ⟨rfl, Nat.le_refl _, Nat.le_refl _⟩ h
theorem d_X2_pence_0 : decode M_X2_pence.2.1 0 = .ok (.aload_n 1, 1) := by decide +kernel
theorem d_X2_pence_1 : decode M_X2_pence.2.1 1 = .ok (.getfield 131, 3) := by decide +kernel
theorem d_X2_pence_4 : decode M_X2_pence.2.1 4 = .ok (.iconst 0, 1) := by decide +kernel
theorem d_X2_pence_5 : decode M_X2_pence.2.1 5 = .ok (.iaload, 1) := by decide +kernel
theorem d_X2_pence_6 : decode M_X2_pence.2.1 6 = .ok (.aload_n 0, 1) := by decide +kernel
theorem d_X2_pence_7 : decode M_X2_pence.2.1 7 = .ok (.getfield 12, 3) := by decide +kernel
theorem d_X2_pence_10 : decode M_X2_pence.2.1 10 = .ok (.getfield 134, 3) := by decide +kernel
theorem d_X2_pence_13 : decode M_X2_pence.2.1 13 = .ok (.imul, 1) := by decide +kernel
theorem d_X2_pence_14 : decode M_X2_pence.2.1 14 = .ok (.aload_n 1, 1) := by decide +kernel
theorem d_X2_pence_15 : decode M_X2_pence.2.1 15 = .ok (.getfield 131, 3) := by decide +kernel
theorem d_X2_pence_18 : decode M_X2_pence.2.1 18 = .ok (.iconst 2, 1) := by decide +kernel
theorem d_X2_pence_19 : decode M_X2_pence.2.1 19 = .ok (.iaload, 1) := by decide +kernel
theorem d_X2_pence_20 : decode M_X2_pence.2.1 20 = .ok (.aload_n 0, 1) := by decide +kernel
theorem d_X2_pence_21 : decode M_X2_pence.2.1 21 = .ok (.getfield 12, 3) := by decide +kernel
theorem d_X2_pence_24 : decode M_X2_pence.2.1 24 = .ok (.getfield 137, 3) := by decide +kernel
theorem d_X2_pence_27 : decode M_X2_pence.2.1 27 = .ok (.imul, 1) := by decide +kernel
theorem d_X2_pence_28 : decode M_X2_pence.2.1 28 = .ok (.iadd, 1) := by decide +kernel
theorem d_X2_pence_29 : decode M_X2_pence.2.1 29 = .ok (.ireturn, 1) := by decide +kernel
set_option maxRecDepth 20000 in
theorem s_X2_pence_0 {d : Nat} {p0 : Int} {G : Mem} {Q : Int → Mem → Prop} (bp0 : Bs 1 p0) (h : Q (((G (p0 + 5) 0) * (G 20 8)) + ((G (p0 + 5) 2) * (G 20 11))) G) : Rn d M_X2_pence zN 0 [(0, (2, 19)), (1, (2, p0))] [] G Q := by
  refine r_aload_n d_X2_pence_0 1 rfl rfl ?_
  refine r_getL (v := (p0 + 5)) 1 4 4 rfl d_X2_pence_1 fl_X2_131 (by decide) (bs_ob bp0) (ly_1_4 bp0).1 (ly_1_4 bp0).2.1 ?_
  refine r_iconst d_X2_pence_4 ?_
  refine r_iaload d_X2_pence_5 (ly_1_4 bp0).2.2 (by decide) ?_
  refine r_aload_n d_X2_pence_6 0 rfl rfl ?_
  refine r_getL (v := 20) 2 0 0 rfl d_X2_pence_7 fl_X2_12 (by decide) (bs_ob bs_2) (ly_2_0 bs_2).1 (ly_2_0 bs_2).2.1 ?_
  refine r_getI 8 8 8 rfl d_X2_pence_10 fl_X2_134 (by decide) (bs_ob (ly_2_0 bs_2).2.2) ?_
  refine r_imul d_X2_pence_13 ?_
  refine r_aload_n d_X2_pence_14 1 rfl rfl ?_
  refine r_getL (v := (p0 + 5)) 1 4 4 rfl d_X2_pence_15 fl_X2_131 (by decide) (bs_ob bp0) (ly_1_4 bp0).1 (ly_1_4 bp0).2.1 ?_
  refine r_iconst d_X2_pence_18 ?_
  refine r_iaload d_X2_pence_19 (ly_1_4 bp0).2.2 (by decide) ?_
  refine r_aload_n d_X2_pence_20 0 rfl rfl ?_
  refine r_getL (v := 20) 2 0 0 rfl d_X2_pence_21 fl_X2_12 (by decide) (bs_ob bs_2) (ly_2_0 bs_2).1 (ly_2_0 bs_2).2.1 ?_
  refine r_getI 8 11 11 rfl d_X2_pence_24 fl_X2_137 (by decide) (bs_ob (ly_2_0 bs_2).2.2) ?_
  refine r_imul d_X2_pence_27 ?_
  refine r_iadd d_X2_pence_28 ?_
  exact r_ireturn d_X2_pence_29 rfl ⟨rfl, Nat.le_refl _, Nat.le_refl _⟩ h
theorem d_X2_penceOf_0 : decode M_X2_penceOf.2.1 0 = .ok (.aload_n 1, 1) := by decide +kernel
theorem d_X2_penceOf_1 : decode M_X2_penceOf.2.1 1 = .ok (.getfield 131, 3) := by decide +kernel
theorem d_X2_penceOf_4 : decode M_X2_penceOf.2.1 4 = .ok (.iconst 0, 1) := by decide +kernel
theorem d_X2_penceOf_5 : decode M_X2_penceOf.2.1 5 = .ok (.iaload, 1) := by decide +kernel
theorem d_X2_penceOf_6 : decode M_X2_penceOf.2.1 6 = .ok (.aload_n 0, 1) := by decide +kernel
theorem d_X2_penceOf_7 : decode M_X2_penceOf.2.1 7 = .ok (.getfield 22, 3) := by decide +kernel
theorem d_X2_penceOf_10 : decode M_X2_penceOf.2.1 10 = .ok (.iload_n 2, 1) := by decide +kernel
theorem d_X2_penceOf_11 : decode M_X2_penceOf.2.1 11 = .ok (.iaload, 1) := by decide +kernel
theorem d_X2_penceOf_12 : decode M_X2_penceOf.2.1 12 = .ok (.imul, 1) := by decide +kernel
theorem d_X2_penceOf_13 : decode M_X2_penceOf.2.1 13 = .ok (.aload_n 1, 1) := by decide +kernel
theorem d_X2_penceOf_14 : decode M_X2_penceOf.2.1 14 = .ok (.getfield 131, 3) := by decide +kernel
theorem d_X2_penceOf_17 : decode M_X2_penceOf.2.1 17 = .ok (.iconst 2, 1) := by decide +kernel
theorem d_X2_penceOf_18 : decode M_X2_penceOf.2.1 18 = .ok (.iaload, 1) := by decide +kernel
theorem d_X2_penceOf_19 : decode M_X2_penceOf.2.1 19 = .ok (.aload_n 0, 1) := by decide +kernel
theorem d_X2_penceOf_20 : decode M_X2_penceOf.2.1 20 = .ok (.getfield 12, 3) := by decide +kernel
theorem d_X2_penceOf_23 : decode M_X2_penceOf.2.1 23 = .ok (.getfield 140, 3) := by decide +kernel
theorem d_X2_penceOf_26 : decode M_X2_penceOf.2.1 26 = .ok (.iload_n 2, 1) := by decide +kernel
theorem d_X2_penceOf_27 : decode M_X2_penceOf.2.1 27 = .ok (.iaload, 1) := by decide +kernel
theorem d_X2_penceOf_28 : decode M_X2_penceOf.2.1 28 = .ok (.imul, 1) := by decide +kernel
theorem d_X2_penceOf_29 : decode M_X2_penceOf.2.1 29 = .ok (.iadd, 1) := by decide +kernel
theorem d_X2_penceOf_30 : decode M_X2_penceOf.2.1 30 = .ok (.ireturn, 1) := by decide +kernel
set_option maxRecDepth 20000 in
theorem s_X2_penceOf_0 {d : Nat} {p0 : Int} {p1 : Int} {G : Mem} {Q : Int → Mem → Prop} (bp0 : Bs 1 p0) (h : (0 ≤ p1 ∧ p1 < 5) ∧ (Q (((G (p0 + 5) 0) * (G 29 p1)) + ((G (p0 + 5) 2) * (G 26 p1))) G)) : Rn d M_X2_penceOf zN 0 [(0, (2, 19)), (1, (2, p0)), (2, (0, p1))] [] G Q := by
  refine r_aload_n d_X2_penceOf_0 1 rfl rfl ?_
  refine r_getL (v := (p0 + 5)) 1 4 4 rfl d_X2_penceOf_1 fl_X2_131 (by decide) (bs_ob bp0) (ly_1_4 bp0).1 (ly_1_4 bp0).2.1 ?_
  refine r_iconst d_X2_penceOf_4 ?_
  refine r_iaload d_X2_penceOf_5 (ly_1_4 bp0).2.2 (by decide) ?_
  refine r_aload_n d_X2_penceOf_6 0 rfl rfl ?_
  refine r_getL (v := 29) 2 2 2 rfl d_X2_penceOf_7 fl_X2_22 (by decide) (bs_ob bs_2) (ly_2_2 bs_2).1 (ly_2_2 bs_2).2.1 ?_
  refine r_iload_n d_X2_penceOf_10 2 rfl rfl ?_
  obtain ⟨h1, h⟩ := h
  refine r_iaload d_X2_penceOf_11 (ly_2_2 bs_2).2.2 h1 ?_
  refine r_imul d_X2_penceOf_12 ?_
  refine r_aload_n d_X2_penceOf_13 1 rfl rfl ?_
  refine r_getL (v := (p0 + 5)) 1 4 4 rfl d_X2_penceOf_14 fl_X2_131 (by decide) (bs_ob bp0) (ly_1_4 bp0).1 (ly_1_4 bp0).2.1 ?_
  refine r_iconst d_X2_penceOf_17 ?_
  refine r_iaload d_X2_penceOf_18 (ly_1_4 bp0).2.2 (by decide) ?_
  refine r_aload_n d_X2_penceOf_19 0 rfl rfl ?_
  refine r_getL (v := 20) 2 0 0 rfl d_X2_penceOf_20 fl_X2_12 (by decide) (bs_ob bs_2) (ly_2_0 bs_2).1 (ly_2_0 bs_2).2.1 ?_
  refine r_getL (v := 26) 8 5 5 rfl d_X2_penceOf_23 fl_X2_140 (by decide) (bs_ob (ly_2_0 bs_2).2.2) (ly_8_5 (ly_2_0 bs_2).2.2).1 (ly_8_5 (ly_2_0 bs_2).2.2).2.1 ?_
  refine r_iload_n d_X2_penceOf_26 2 rfl rfl ?_
  refine r_iaload d_X2_penceOf_27 (ly_8_5 (ly_2_0 bs_2).2.2).2.2 h1 ?_
  refine r_imul d_X2_penceOf_28 ?_
  refine r_iadd d_X2_penceOf_29 ?_
  exact r_ireturn d_X2_penceOf_30 rfl ⟨rfl, Nat.le_refl _, Nat.le_refl _⟩ h
theorem d_X2_saved_0 : decode M_X2_saved.2.1 0 = .ok (.aload_n 0, 1) := by decide +kernel
theorem d_X2_saved_1 : decode M_X2_saved.2.1 1 = .ok (.aload_n 1, 1) := by decide +kernel
theorem d_X2_saved_2 : decode M_X2_saved.2.1 2 = .ok (.invokevirtual 143, 3) := by decide +kernel
theorem d_X2_saved_5 : decode M_X2_saved.2.1 5 = .ok (.aload_n 0, 1) := by decide +kernel
theorem d_X2_saved_6 : decode M_X2_saved.2.1 6 = .ok (.aload_n 1, 1) := by decide +kernel
theorem d_X2_saved_7 : decode M_X2_saved.2.1 7 = .ok (.iconst (-1), 1) := by decide +kernel
theorem d_X2_saved_8 : decode M_X2_saved.2.1 8 = .ok (.invokevirtual 146, 3) := by decide +kernel
theorem d_X2_saved_11 : decode M_X2_saved.2.1 11 = .ok (.aload_n 0, 1) := by decide +kernel
theorem d_X2_saved_12 : decode M_X2_saved.2.1 12 = .ok (.aload_n 1, 1) := by decide +kernel
theorem d_X2_saved_13 : decode M_X2_saved.2.1 13 = .ok (.iload_n 2, 1) := by decide +kernel
theorem d_X2_saved_14 : decode M_X2_saved.2.1 14 = .ok (.invokevirtual 149, 3) := by decide +kernel
theorem d_X2_saved_17 : decode M_X2_saved.2.1 17 = .ok (.istore_n 3, 1) := by decide +kernel
theorem d_X2_saved_18 : decode M_X2_saved.2.1 18 = .ok (.aload_n 1, 1) := by decide +kernel
theorem d_X2_saved_19 : decode M_X2_saved.2.1 19 = .ok (.getfield 59, 3) := by decide +kernel
theorem d_X2_saved_22 : decode M_X2_saved.2.1 22 = .ok (.iconst 1, 1) := by decide +kernel
theorem d_X2_saved_23 : decode M_X2_saved.2.1 23 = .ok (.isub, 1) := by decide +kernel
theorem d_X2_saved_24 : decode M_X2_saved.2.1 24 = .ok (.istore 4, 2) := by decide +kernel
theorem d_X2_saved_26 : decode M_X2_saved.2.1 26 = .ok (.iload 4, 2) := by decide +kernel
theorem d_X2_saved_28 : decode M_X2_saved.2.1 28 = .ok (.ifCond .le 20, 3) := by decide +kernel
theorem d_X2_saved_31 : decode M_X2_saved.2.1 31 = .ok (.aload_n 0, 1) := by decide +kernel
theorem d_X2_saved_32 : decode M_X2_saved.2.1 32 = .ok (.getfield 28, 3) := by decide +kernel
theorem d_X2_saved_35 : decode M_X2_saved.2.1 35 = .ok (.iload 4, 2) := by decide +kernel
theorem d_X2_saved_37 : decode M_X2_saved.2.1 37 = .ok (.iaload, 1) := by decide +kernel
theorem d_X2_saved_38 : decode M_X2_saved.2.1 38 = .ok (.iconst (-1), 1) := by decide +kernel
theorem d_X2_saved_39 : decode M_X2_saved.2.1 39 = .ok (.if_icmp .ne 9, 3) := by decide +kernel
theorem d_X2_saved_42 : decode M_X2_saved.2.1 42 = .ok (.iinc 4 (-1), 3) := by decide +kernel
theorem d_X2_saved_45 : decode M_X2_saved.2.1 45 = .ok (.goto (-19), 3) := by decide +kernel
theorem d_X2_saved_48 : decode M_X2_saved.2.1 48 = .ok (.aload_n 0, 1) := by decide +kernel
theorem d_X2_saved_49 : decode M_X2_saved.2.1 49 = .ok (.getfield 28, 3) := by decide +kernel
theorem d_X2_saved_52 : decode M_X2_saved.2.1 52 = .ok (.aload_n 1, 1) := by decide +kernel
theorem d_X2_saved_53 : decode M_X2_saved.2.1 53 = .ok (.getfield 86, 3) := by decide +kernel
theorem d_X2_saved_56 : decode M_X2_saved.2.1 56 = .ok (.iload_n 2, 1) := by decide +kernel
theorem d_X2_saved_57 : decode M_X2_saved.2.1 57 = .ok (.aaload, 1) := by decide +kernel
theorem d_X2_saved_58 : decode M_X2_saved.2.1 58 = .ok (.getfield 153, 3) := by decide +kernel
theorem d_X2_saved_61 : decode M_X2_saved.2.1 61 = .ok (.aload_n 0, 1) := by decide +kernel
theorem d_X2_saved_62 : decode M_X2_saved.2.1 62 = .ok (.getfield 28, 3) := by decide +kernel
theorem d_X2_saved_65 : decode M_X2_saved.2.1 65 = .ok (.iload 4, 2) := by decide +kernel
theorem d_X2_saved_67 : decode M_X2_saved.2.1 67 = .ok (.iaload, 1) := by decide +kernel
theorem d_X2_saved_68 : decode M_X2_saved.2.1 68 = .ok (.iastore, 1) := by decide +kernel
theorem d_X2_saved_69 : decode M_X2_saved.2.1 69 = .ok (.aload_n 0, 1) := by decide +kernel
theorem d_X2_saved_70 : decode M_X2_saved.2.1 70 = .ok (.getfield 28, 3) := by decide +kernel
theorem d_X2_saved_73 : decode M_X2_saved.2.1 73 = .ok (.iload 4, 2) := by decide +kernel
theorem d_X2_saved_75 : decode M_X2_saved.2.1 75 = .ok (.iload_n 2, 1) := by decide +kernel
theorem d_X2_saved_76 : decode M_X2_saved.2.1 76 = .ok (.iastore, 1) := by decide +kernel
theorem d_X2_saved_77 : decode M_X2_saved.2.1 77 = .ok (.aload_n 0, 1) := by decide +kernel
theorem d_X2_saved_78 : decode M_X2_saved.2.1 78 = .ok (.aload_n 1, 1) := by decide +kernel
theorem d_X2_saved_79 : decode M_X2_saved.2.1 79 = .ok (.iconst (-1), 1) := by decide +kernel
theorem d_X2_saved_80 : decode M_X2_saved.2.1 80 = .ok (.invokevirtual 146, 3) := by decide +kernel
theorem d_X2_saved_83 : decode M_X2_saved.2.1 83 = .ok (.iload_n 3, 1) := by decide +kernel
theorem d_X2_saved_84 : decode M_X2_saved.2.1 84 = .ok (.aload_n 0, 1) := by decide +kernel
theorem d_X2_saved_85 : decode M_X2_saved.2.1 85 = .ok (.aload_n 1, 1) := by decide +kernel
theorem d_X2_saved_86 : decode M_X2_saved.2.1 86 = .ok (.iload_n 2, 1) := by decide +kernel
theorem d_X2_saved_87 : decode M_X2_saved.2.1 87 = .ok (.invokevirtual 149, 3) := by decide +kernel
theorem d_X2_saved_90 : decode M_X2_saved.2.1 90 = .ok (.isub, 1) := by decide +kernel
theorem d_X2_saved_91 : decode M_X2_saved.2.1 91 = .ok (.ireturn, 1) := by decide +kernel
set_option maxRecDepth 20000 in
theorem s_X2_saved_0 {d : Nat} {p0 : Int} {p1 : Int} {G : Mem} {Q : Int → Mem → Prop} (bp0 : Bs 1 p0) (h : Ct d M_X2_seatAsTold NT 0 0 (some lay) [(2, 19), (2, p0)] G (fun r2 G1 => Ct d M_X2_fly NT 0 0 (some lay) [(2, 19), (2, p0), (0, (-1))] G1 (fun r4 G3 => Ct d M_X2_penceOf NT 0 0 (some lay) [(2, 19), (2, p0), (0, p1)] G3 (fun r6 G5 => Rn (d + 1) M_X2_saved zN 26 [(0, (2, 19)), (1, (2, p0)), (2, (0, p1)), (3, (0, r6)), (4, (0, ((G5 p0 6) - 1)))] [] G5 Q)))) : Rn (d + 1) M_X2_saved zN 0 [(0, (2, 19)), (1, (2, p0)), (2, (0, p1))] [] G Q := by
  refine r_aload_n d_X2_saved_0 0 rfl rfl ?_
  refine r_aload_n d_X2_saved_1 1 rfl rfl ?_
  refine r_callV0 (M' := M_X2_seatAsTold) (ci := 2) [(2, p0)] d_X2_saved_2 cl_X2_143 rfl (Nat.le_of_ble_eq_true rfl) (by decide) rfl (bs_ob bs_2) ?_
  refine Ct.mono h (fun r2 G1 h => ?_)
  show Rn _ M_X2_saved zN 5 [(0, (2, 19)), (1, (2, p0)), (2, (0, p1))] [] G1 Q
  refine r_aload_n d_X2_saved_5 0 rfl rfl ?_
  refine r_aload_n d_X2_saved_6 1 rfl rfl ?_
  refine r_iconst d_X2_saved_7 ?_
  refine r_callV0 (M' := M_X2_fly) (ci := 2) [(2, p0), (0, (-1))] d_X2_saved_8 cl_X2_146 rfl (Nat.le_of_ble_eq_true rfl) (by decide) rfl (bs_ob bs_2) ?_
  refine Ct.mono h (fun r4 G3 h => ?_)
  show Rn _ M_X2_saved zN 11 [(0, (2, 19)), (1, (2, p0)), (2, (0, p1))] [] G3 Q
  refine r_aload_n d_X2_saved_11 0 rfl rfl ?_
  refine r_aload_n d_X2_saved_12 1 rfl rfl ?_
  refine r_iload_n d_X2_saved_13 2 rfl rfl ?_
  refine r_callV0 (M' := M_X2_penceOf) (ci := 2) [(2, p0), (0, p1)] d_X2_saved_14 cl_X2_149 rfl (Nat.le_of_ble_eq_true rfl) (by decide) rfl (bs_ob bs_2) ?_
  refine Ct.mono h (fun r6 G5 h => ?_)
  show Rn _ M_X2_saved zN 17 [(0, (2, 19)), (1, (2, p0)), (2, (0, p1))] [(0, r6)] G5 Q
  refine r_istore_n (ls1 := [(3, (0, r6)), (0, (2, 19)), (1, (2, p0)), (2, (0, p1))]) d_X2_saved_17 rfl (by decide) rfl ?_
  refine r_aload_n d_X2_saved_18 2 rfl rfl ?_
  refine r_getI 1 6 6 rfl d_X2_saved_19 fl_X2_59 (by decide) (bs_ob bp0) ?_
  refine r_iconst d_X2_saved_22 ?_
  refine r_isub d_X2_saved_23 ?_
  refine r_istore (ls1 := [(4, (0, ((G5 p0 6) - 1))), (3, (0, r6)), (0, (2, 19)), (1, (2, p0)), (2, (0, p1))]) d_X2_saved_24 (by decide) rfl ?_
  exact Rn.sub [2, 3, 4, 1, 0] rfl h
set_option maxRecDepth 20000 in
theorem s_X2_saved_26 {d : Nat} {x1 : Int} {x2 : Int} {x3 : Int} {x4 : Int} {G : Mem} {Q : Int → Mem → Prop} (bx1 : Bs 1 x1) (h : (InR x4) ∧ ((x4 ≤ 0) → Rn d M_X2_saved zN 48 [(0, (2, 19)), (1, (2, x1)), (2, (0, x2)), (3, (0, x3)), (4, (0, x4))] [] G Q) ∧ (¬ (x4 ≤ 0) → (0 ≤ x4 ∧ x4 < 5) ∧ ((InR (G 31 x4)) ∧ (((G 31 x4) ≠ (-1)) → Rn d M_X2_saved zN 48 [(0, (2, 19)), (1, (2, x1)), (2, (0, x2)), (3, (0, x3)), (4, (0, x4))] [] G Q) ∧ (¬ ((G 31 x4) ≠ (-1)) → Rn d M_X2_saved zN 26 [(0, (2, 19)), (1, (2, x1)), (2, (0, x2)), (3, (0, x3)), (4, (0, (x4 + (-1))))] [] G Q)))) : Rn d M_X2_saved zN 26 [(0, (2, 19)), (1, (2, x1)), (2, (0, x2)), (3, (0, x3)), (4, (0, x4))] [] G Q := by
  refine r_iload d_X2_saved_26 4 rfl ?_
  obtain ⟨h1, h⟩ := h
  refine r_if_le (tgt := 48) d_X2_saved_28 (by decide) h1 (fun c2 => ?_) (fun c2 => ?_)
  · replace h := h.1 c2
    exact h
  · replace h := h.2 c2
    refine r_aload_n d_X2_saved_31 0 rfl rfl ?_
    refine r_getL (v := 31) 2 8 8 rfl d_X2_saved_32 fl_X2_28 (by decide) (bs_ob bs_2) (ly_2_8 bs_2).1 (ly_2_8 bs_2).2.1 ?_
    refine r_iload d_X2_saved_35 4 rfl ?_
    obtain ⟨h3, h⟩ := h
    refine r_iaload d_X2_saved_37 (ly_2_8 bs_2).2.2 h3 ?_
    refine r_iconst d_X2_saved_38 ?_
    obtain ⟨h4, h⟩ := h
    refine r_icmp_ne (tgt := 48) d_X2_saved_39 (by decide) h4 ⟨by decide, by decide⟩ (fun c5 => ?_) (fun c5 => ?_)
    · replace h := h.1 c5
      exact h
    · replace h := h.2 c5
      refine r_iinc (ls1 := [(4, (0, (x4 + (-1)))), (0, (2, 19)), (1, (2, x1)), (2, (0, x2)), (3, (0, x3))]) d_X2_saved_42 4 rfl (by decide) rfl ?_
      refine r_goto (tgt := 26) d_X2_saved_45 (by decide) ?_
      exact Rn.sub [1, 2, 3, 4, 0] rfl h
set_option maxRecDepth 20000 in
theorem s_X2_saved_48 {d : Nat} {x1 : Int} {x2 : Int} {x3 : Int} {x4 : Int} {G : Mem} {Q : Int → Mem → Prop} (bx1 : Bs 1 x1) (h : (0 ≤ x2 ∧ x2 < 5) ∧ ((0 ≤ x4 ∧ x4 < 5) ∧ ((0 ≤ (G ((x1 + 13) + x2) 1) ∧ (G ((x1 + 13) + x2) 1) < 5) ∧ (∀ G4 : Mem, G4 = st G 31 (G ((x1 + 13) + x2) 1) (G 31 x4) → (∀ G5 : Mem, G5 = st G4 31 x4 x2 → Ct d M_X2_fly NT 0 0 (some lay) [(2, 19), (2, x1), (0, (-1))] G5 (fun r7 G6 => Ct d M_X2_penceOf NT 0 0 (some lay) [(2, 19), (2, x1), (0, x2)] G6 (fun r9 G8 => Q (x3 - r9) G8))))))) : Rn (d + 1) M_X2_saved zN 48 [(0, (2, 19)), (1, (2, x1)), (2, (0, x2)), (3, (0, x3)), (4, (0, x4))] [] G Q := by
  refine r_aload_n d_X2_saved_48 0 rfl rfl ?_
  refine r_getL (v := 31) 2 8 8 rfl d_X2_saved_49 fl_X2_28 (by decide) (bs_ob bs_2) (ly_2_8 bs_2).1 (ly_2_8 bs_2).2.1 ?_
  refine r_aload_n d_X2_saved_52 1 rfl rfl ?_
  refine r_getL (v := (x1 + 1)) 1 0 0 rfl d_X2_saved_53 fl_X2_86 (by decide) (bs_ob bx1) (ly_1_0 bx1).1 (ly_1_0 bx1).2.1 ?_
  refine r_iload_n d_X2_saved_56 2 rfl rfl ?_
  obtain ⟨h1, h⟩ := h
  refine r_aaloadL (v := ((x1 + 13) + x2)) d_X2_saved_57 (ly_1_0 bx1).2.2 (by decide) rfl h1 (el_1_0 bx1 h1.1 h1.2).1 (el_1_0 bx1 h1.1 h1.2).2.1 ?_
  refine r_getI 7 1 1 rfl d_X2_saved_58 fl_X2_153 (by decide) (bs_ob (el_1_0 bx1 h1.1 h1.2).2.2) ?_
  refine r_aload_n d_X2_saved_61 0 rfl rfl ?_
  refine r_getL (v := 31) 2 8 8 rfl d_X2_saved_62 fl_X2_28 (by decide) (bs_ob bs_2) (ly_2_8 bs_2).1 (ly_2_8 bs_2).2.1 ?_
  refine r_iload d_X2_saved_65 4 rfl ?_
  obtain ⟨h2, h⟩ := h
  refine r_iaload d_X2_saved_67 (ly_2_8 bs_2).2.2 h2 ?_
  obtain ⟨h3, h⟩ := h
  obtain ⟨G4, eG4⟩ : ∃ y : Mem, y = st G 31 (G ((x1 + 13) + x2) 1) (G 31 x4) := ⟨_, rfl⟩
  replace h := h G4 eG4
  refine r_iastore d_X2_saved_68 (ly_2_8 bs_2).2.2 h3 ?_
  rw [← eG4]
  refine r_aload_n d_X2_saved_69 0 rfl rfl ?_
  refine r_getL (v := 31) 2 8 8 rfl d_X2_saved_70 fl_X2_28 (by decide) (bs_ob bs_2) (ly_2_8 bs_2).1 (ly_2_8 bs_2).2.1 ?_
  refine r_iload d_X2_saved_73 4 rfl ?_
  refine r_iload_n d_X2_saved_75 2 rfl rfl ?_
  obtain ⟨G5, eG5⟩ : ∃ y : Mem, y = st G4 31 x4 x2 := ⟨_, rfl⟩
  replace h := h G5 eG5
  refine r_iastore d_X2_saved_76 (ly_2_8 bs_2).2.2 h2 ?_
  rw [← eG5]
  refine r_aload_n d_X2_saved_77 0 rfl rfl ?_
  refine r_aload_n d_X2_saved_78 1 rfl rfl ?_
  refine r_iconst d_X2_saved_79 ?_
  refine r_callV0 (M' := M_X2_fly) (ci := 2) [(2, x1), (0, (-1))] d_X2_saved_80 cl_X2_146 rfl (Nat.le_of_ble_eq_true rfl) (by decide) rfl (bs_ob bs_2) ?_
  refine Ct.mono h (fun r7 G6 h => ?_)
  show Rn _ M_X2_saved zN 83 [(0, (2, 19)), (1, (2, x1)), (2, (0, x2)), (3, (0, x3)), (4, (0, x4))] [] G6 Q
  refine r_iload_n d_X2_saved_83 3 rfl rfl ?_
  refine r_aload_n d_X2_saved_84 0 rfl rfl ?_
  refine r_aload_n d_X2_saved_85 1 rfl rfl ?_
  refine r_iload_n d_X2_saved_86 2 rfl rfl ?_
  refine r_callV0 (M' := M_X2_penceOf) (ci := 2) [(2, x1), (0, x2)] d_X2_saved_87 cl_X2_149 rfl (Nat.le_of_ble_eq_true rfl) (by decide) rfl (bs_ob bs_2) ?_
  refine Ct.mono h (fun r9 G8 h => ?_)
  show Rn _ M_X2_saved zN 90 [(0, (2, 19)), (1, (2, x1)), (2, (0, x2)), (3, (0, x3)), (4, (0, x4))] [(0, r9), (0, x3)] G8 Q
  refine r_isub d_X2_saved_90 ?_
  exact r_ireturn d_X2_saved_91 rfl ⟨rfl, Nat.le_refl _, Nat.le_refl _⟩ h
theorem d_X2_draw_0 : decode M_X2_draw.2.1 0 = .ok (.aload_n 0, 1) := by decide +kernel
theorem d_X2_draw_1 : decode M_X2_draw.2.1 1 = .ok (.iconst 0, 1) := by decide +kernel
theorem d_X2_draw_2 : decode M_X2_draw.2.1 2 = .ok (.putfield 156, 3) := by decide +kernel
theorem d_X2_draw_5 : decode M_X2_draw.2.1 5 = .ok (.aload_n 0, 1) := by decide +kernel
theorem d_X2_draw_6 : decode M_X2_draw.2.1 6 = .ok (.iconst 0, 1) := by decide +kernel
theorem d_X2_draw_7 : decode M_X2_draw.2.1 7 = .ok (.putfield 159, 3) := by decide +kernel
theorem d_X2_draw_10 : decode M_X2_draw.2.1 10 = .ok (.aload_n 0, 1) := by decide +kernel
theorem d_X2_draw_11 : decode M_X2_draw.2.1 11 = .ok (.iconst 0, 1) := by decide +kernel
theorem d_X2_draw_12 : decode M_X2_draw.2.1 12 = .ok (.putfield 162, 3) := by decide +kernel
theorem d_X2_draw_15 : decode M_X2_draw.2.1 15 = .ok (.aload_n 0, 1) := by decide +kernel
theorem d_X2_draw_16 : decode M_X2_draw.2.1 16 = .ok (.iload_n 2, 1) := by decide +kernel
theorem d_X2_draw_17 : decode M_X2_draw.2.1 17 = .ok (.putfield 121, 3) := by decide +kernel
theorem d_X2_draw_20 : decode M_X2_draw.2.1 20 = .ok (.aload_n 0, 1) := by decide +kernel
theorem d_X2_draw_21 : decode M_X2_draw.2.1 21 = .ok (.iconst 1, 1) := by decide +kernel
theorem d_X2_draw_22 : decode M_X2_draw.2.1 22 = .ok (.putfield 105, 3) := by decide +kernel
theorem d_X2_draw_25 : decode M_X2_draw.2.1 25 = .ok (.aload_n 0, 1) := by decide +kernel
theorem d_X2_draw_26 : decode M_X2_draw.2.1 26 = .ok (.aload_n 1, 1) := by decide +kernel
theorem d_X2_draw_27 : decode M_X2_draw.2.1 27 = .ok (.invokevirtual 143, 3) := by decide +kernel
theorem d_X2_draw_30 : decode M_X2_draw.2.1 30 = .ok (.iconst 0, 1) := by decide +kernel
theorem d_X2_draw_31 : decode M_X2_draw.2.1 31 = .ok (.istore 4, 2) := by decide +kernel
theorem d_X2_draw_33 : decode M_X2_draw.2.1 33 = .ok (.iload 4, 2) := by decide +kernel
theorem d_X2_draw_35 : decode M_X2_draw.2.1 35 = .ok (.iload_n 3, 1) := by decide +kernel
theorem d_X2_draw_36 : decode M_X2_draw.2.1 36 = .ok (.if_icmp .ge 63, 3) := by decide +kernel
theorem d_X2_draw_39 : decode M_X2_draw.2.1 39 = .ok (.aload_n 0, 1) := by decide +kernel
theorem d_X2_draw_40 : decode M_X2_draw.2.1 40 = .ok (.aload_n 1, 1) := by decide +kernel
theorem d_X2_draw_41 : decode M_X2_draw.2.1 41 = .ok (.iconst (-1), 1) := by decide +kernel
theorem d_X2_draw_42 : decode M_X2_draw.2.1 42 = .ok (.invokevirtual 146, 3) := by decide +kernel
theorem d_X2_draw_45 : decode M_X2_draw.2.1 45 = .ok (.aload_n 0, 1) := by decide +kernel
theorem d_X2_draw_46 : decode M_X2_draw.2.1 46 = .ok (.dup, 1) := by decide +kernel
theorem d_X2_draw_47 : decode M_X2_draw.2.1 47 = .ok (.getfield 156, 3) := by decide +kernel
theorem d_X2_draw_50 : decode M_X2_draw.2.1 50 = .ok (.aload_n 0, 1) := by decide +kernel
theorem d_X2_draw_51 : decode M_X2_draw.2.1 51 = .ok (.getfield 12, 3) := by decide +kernel
theorem d_X2_draw_54 : decode M_X2_draw.2.1 54 = .ok (.getfield 134, 3) := by decide +kernel
theorem d_X2_draw_57 : decode M_X2_draw.2.1 57 = .ok (.iadd, 1) := by decide +kernel
theorem d_X2_draw_58 : decode M_X2_draw.2.1 58 = .ok (.putfield 156, 3) := by decide +kernel
theorem d_X2_draw_61 : decode M_X2_draw.2.1 61 = .ok (.aload_n 0, 1) := by decide +kernel
theorem d_X2_draw_62 : decode M_X2_draw.2.1 62 = .ok (.dup, 1) := by decide +kernel
theorem d_X2_draw_63 : decode M_X2_draw.2.1 63 = .ok (.getfield 159, 3) := by decide +kernel
theorem d_X2_draw_66 : decode M_X2_draw.2.1 66 = .ok (.aload_n 0, 1) := by decide +kernel
theorem d_X2_draw_67 : decode M_X2_draw.2.1 67 = .ok (.getfield 12, 3) := by decide +kernel
theorem d_X2_draw_70 : decode M_X2_draw.2.1 70 = .ok (.getfield 165, 3) := by decide +kernel
theorem d_X2_draw_73 : decode M_X2_draw.2.1 73 = .ok (.iadd, 1) := by decide +kernel
theorem d_X2_draw_74 : decode M_X2_draw.2.1 74 = .ok (.putfield 159, 3) := by decide +kernel
theorem d_X2_draw_77 : decode M_X2_draw.2.1 77 = .ok (.aload_n 0, 1) := by decide +kernel
theorem d_X2_draw_78 : decode M_X2_draw.2.1 78 = .ok (.dup, 1) := by decide +kernel
theorem d_X2_draw_79 : decode M_X2_draw.2.1 79 = .ok (.getfield 162, 3) := by decide +kernel
theorem d_X2_draw_82 : decode M_X2_draw.2.1 82 = .ok (.aload_n 0, 1) := by decide +kernel
theorem d_X2_draw_83 : decode M_X2_draw.2.1 83 = .ok (.getfield 12, 3) := by decide +kernel
theorem d_X2_draw_86 : decode M_X2_draw.2.1 86 = .ok (.getfield 137, 3) := by decide +kernel
theorem d_X2_draw_89 : decode M_X2_draw.2.1 89 = .ok (.iadd, 1) := by decide +kernel
theorem d_X2_draw_90 : decode M_X2_draw.2.1 90 = .ok (.putfield 162, 3) := by decide +kernel
theorem d_X2_draw_93 : decode M_X2_draw.2.1 93 = .ok (.iinc 4 1, 3) := by decide +kernel
theorem d_X2_draw_96 : decode M_X2_draw.2.1 96 = .ok (.goto (-63), 3) := by decide +kernel
theorem d_X2_draw_99 : decode M_X2_draw.2.1 99 = .ok (.aload_n 0, 1) := by decide +kernel
theorem d_X2_draw_100 : decode M_X2_draw.2.1 100 = .ok (.iconst 0, 1) := by decide +kernel
theorem d_X2_draw_101 : decode M_X2_draw.2.1 101 = .ok (.putfield 105, 3) := by decide +kernel
theorem d_X2_draw_104 : decode M_X2_draw.2.1 104 = .ok (.return_, 1) := by decide +kernel
set_option maxRecDepth 20000 in
theorem s_X2_draw_0 {d : Nat} {p0 : Int} {p1 : Int} {p2 : Int} {G : Mem} {Q : Int → Mem → Prop} (bp0 : Bs 1 p0) (h : (∀ G1 : Mem, G1 = st G 19 5 0 → (∀ G2 : Mem, G2 = st G1 19 6 0 → (∀ G3 : Mem, G3 = st G2 19 7 0 → (∀ G4 : Mem, G4 = st G3 19 12 p1 → (∀ G5 : Mem, G5 = st G4 19 11 1 → Ct d M_X2_seatAsTold NT 0 0 (some lay) [(2, 19), (2, p0)] G5 (fun r7 G6 => Rn (d + 1) M_X2_draw zN 33 [(0, (2, 19)), (1, (2, p0)), (3, (0, p2)), (4, (0, 0))] [] G6 Q))))))) : Rn (d + 1) M_X2_draw zN 0 [(0, (2, 19)), (1, (2, p0)), (2, (0, p1)), (3, (0, p2))] [] G Q := by
  refine r_aload_n d_X2_draw_0 0 rfl rfl ?_
  refine r_iconst d_X2_draw_1 ?_
  obtain ⟨G1, eG1⟩ : ∃ y : Mem, y = st G 19 5 0 := ⟨_, rfl⟩
  replace h := h G1 eG1
  refine r_putI 2 5 5 rfl d_X2_draw_2 fl_X2_156 (by decide) nofin_2_5 (bs_ob bs_2) ?_
  rw [← eG1]
  refine r_aload_n d_X2_draw_5 0 rfl rfl ?_
  refine r_iconst d_X2_draw_6 ?_
  obtain ⟨G2, eG2⟩ : ∃ y : Mem, y = st G1 19 6 0 := ⟨_, rfl⟩
  replace h := h G2 eG2
  refine r_putI 2 6 6 rfl d_X2_draw_7 fl_X2_159 (by decide) nofin_2_6 (bs_ob bs_2) ?_
  rw [← eG2]
  refine r_aload_n d_X2_draw_10 0 rfl rfl ?_
  refine r_iconst d_X2_draw_11 ?_
  obtain ⟨G3, eG3⟩ : ∃ y : Mem, y = st G2 19 7 0 := ⟨_, rfl⟩
  replace h := h G3 eG3
  refine r_putI 2 7 7 rfl d_X2_draw_12 fl_X2_162 (by decide) nofin_2_7 (bs_ob bs_2) ?_
  rw [← eG3]
  refine r_aload_n d_X2_draw_15 0 rfl rfl ?_
  refine r_iload_n d_X2_draw_16 2 rfl rfl ?_
  obtain ⟨G4, eG4⟩ : ∃ y : Mem, y = st G3 19 12 p1 := ⟨_, rfl⟩
  replace h := h G4 eG4
  refine r_putI 2 12 12 rfl d_X2_draw_17 fl_X2_121 (by decide) nofin_2_12 (bs_ob bs_2) ?_
  rw [← eG4]
  refine r_aload_n d_X2_draw_20 0 rfl rfl ?_
  refine r_iconst d_X2_draw_21 ?_
  obtain ⟨G5, eG5⟩ : ∃ y : Mem, y = st G4 19 11 1 := ⟨_, rfl⟩
  replace h := h G5 eG5
  refine r_putZ 2 11 11 rfl d_X2_draw_22 fl_X2_105 (by decide) nofin_2_11 (bs_ob bs_2) (by decide) ?_
  rw [← eG5]
  refine r_aload_n d_X2_draw_25 0 rfl rfl ?_
  refine r_aload_n d_X2_draw_26 1 rfl rfl ?_
  refine r_callV0 (M' := M_X2_seatAsTold) (ci := 2) [(2, p0)] d_X2_draw_27 cl_X2_143 rfl (Nat.le_of_ble_eq_true rfl) (by decide) rfl (bs_ob bs_2) ?_
  refine Ct.mono h (fun r7 G6 h => ?_)
  show Rn _ M_X2_draw zN 30 [(0, (2, 19)), (1, (2, p0)), (2, (0, p1)), (3, (0, p2))] [] G6 Q
  refine r_iconst d_X2_draw_30 ?_
  refine r_istore (ls1 := [(4, (0, 0)), (0, (2, 19)), (1, (2, p0)), (2, (0, p1)), (3, (0, p2))]) d_X2_draw_31 (by decide) rfl ?_
  exact Rn.sub [1, 2, 4, 0] rfl h
set_option maxRecDepth 20000 in
theorem s_X2_draw_33 {d : Nat} {x1 : Int} {x3 : Int} {x4 : Int} {G : Mem} {Q : Int → Mem → Prop} (bx1 : Bs 1 x1) (h : (InR x4) ∧ (InR x3) ∧ ((x3 ≤ x4) → (∀ G4 : Mem, G4 = st G 19 11 0 → Q 0 G4)) ∧ (¬ (x3 ≤ x4) → Ct d M_X2_fly NT 0 0 (some lay) [(2, 19), (2, x1), (0, (-1))] G (fun r6 G5 => (∀ G7 : Mem, G7 = st G5 19 5 ((G5 19 5) + (G5 20 8)) → (∀ G8 : Mem, G8 = st G7 19 6 ((G7 19 6) + (G7 20 9)) → (∀ G9 : Mem, G9 = st G8 19 7 ((G8 19 7) + (G8 20 11)) → Rn (d + 1) M_X2_draw zN 33 [(0, (2, 19)), (1, (2, x1)), (3, (0, x3)), (4, (0, (x4 + 1)))] [] G9 Q)))))) : Rn (d + 1) M_X2_draw zN 33 [(0, (2, 19)), (1, (2, x1)), (3, (0, x3)), (4, (0, x4))] [] G Q := by
  refine r_iload d_X2_draw_33 3 rfl ?_
  refine r_iload_n d_X2_draw_35 2 rfl rfl ?_
  obtain ⟨h1, h⟩ := h
  obtain ⟨h2, h⟩ := h
  refine r_icmp_ge (tgt := 99) d_X2_draw_36 (by decide) h1 h2 (fun c3 => ?_) (fun c3 => ?_)
  · replace h := h.1 c3
    refine r_aload_n d_X2_draw_99 0 rfl rfl ?_
    refine r_iconst d_X2_draw_100 ?_
    obtain ⟨G4, eG4⟩ : ∃ y : Mem, y = st G 19 11 0 := ⟨_, rfl⟩
    replace h := h G4 eG4
    refine r_putZ 2 11 11 rfl d_X2_draw_101 fl_X2_105 (by decide) nofin_2_11 (bs_ob bs_2) (by decide) ?_
    rw [← eG4]
    exact r_ret d_X2_draw_104 rfl ⟨rfl, Nat.le_refl _, Nat.le_refl _⟩ h
  · replace h := h.2 c3
    refine r_aload_n d_X2_draw_39 0 rfl rfl ?_
    refine r_aload_n d_X2_draw_40 1 rfl rfl ?_
    refine r_iconst d_X2_draw_41 ?_
    refine r_callV0 (M' := M_X2_fly) (ci := 2) [(2, x1), (0, (-1))] d_X2_draw_42 cl_X2_146 rfl (Nat.le_of_ble_eq_true rfl) (by decide) rfl (bs_ob bs_2) ?_
    refine Ct.mono h (fun r6 G5 h => ?_)
    show Rn _ M_X2_draw zN 45 [(0, (2, 19)), (1, (2, x1)), (3, (0, x3)), (4, (0, x4))] [] G5 Q
    refine r_aload_n d_X2_draw_45 0 rfl rfl ?_
    refine r_dup 2 rfl (by decide) d_X2_draw_46 ?_
    refine r_getI 2 5 5 rfl d_X2_draw_47 fl_X2_156 (by decide) (bs_ob bs_2) ?_
    refine r_aload_n d_X2_draw_50 0 rfl rfl ?_
    refine r_getL (v := 20) 2 0 0 rfl d_X2_draw_51 fl_X2_12 (by decide) (bs_ob bs_2) (ly_2_0 bs_2).1 (ly_2_0 bs_2).2.1 ?_
    refine r_getI 8 8 8 rfl d_X2_draw_54 fl_X2_134 (by decide) (bs_ob (ly_2_0 bs_2).2.2) ?_
    refine r_iadd d_X2_draw_57 ?_
    obtain ⟨G7, eG7⟩ : ∃ y : Mem, y = st G5 19 5 ((G5 19 5) + (G5 20 8)) := ⟨_, rfl⟩
    replace h := h G7 eG7
    refine r_putI 2 5 5 rfl d_X2_draw_58 fl_X2_156 (by decide) nofin_2_5 (bs_ob bs_2) ?_
    rw [← eG7]
    refine r_aload_n d_X2_draw_61 0 rfl rfl ?_
    refine r_dup 2 rfl (by decide) d_X2_draw_62 ?_
    refine r_getI 2 6 6 rfl d_X2_draw_63 fl_X2_159 (by decide) (bs_ob bs_2) ?_
    refine r_aload_n d_X2_draw_66 0 rfl rfl ?_
    refine r_getL (v := 20) 2 0 0 rfl d_X2_draw_67 fl_X2_12 (by decide) (bs_ob bs_2) (ly_2_0 bs_2).1 (ly_2_0 bs_2).2.1 ?_
    refine r_getI 8 9 9 rfl d_X2_draw_70 fl_X2_165 (by decide) (bs_ob (ly_2_0 bs_2).2.2) ?_
    refine r_iadd d_X2_draw_73 ?_
    obtain ⟨G8, eG8⟩ : ∃ y : Mem, y = st G7 19 6 ((G7 19 6) + (G7 20 9)) := ⟨_, rfl⟩
    replace h := h G8 eG8
    refine r_putI 2 6 6 rfl d_X2_draw_74 fl_X2_159 (by decide) nofin_2_6 (bs_ob bs_2) ?_
    rw [← eG8]
    refine r_aload_n d_X2_draw_77 0 rfl rfl ?_
    refine r_dup 2 rfl (by decide) d_X2_draw_78 ?_
    refine r_getI 2 7 7 rfl d_X2_draw_79 fl_X2_162 (by decide) (bs_ob bs_2) ?_
    refine r_aload_n d_X2_draw_82 0 rfl rfl ?_
    refine r_getL (v := 20) 2 0 0 rfl d_X2_draw_83 fl_X2_12 (by decide) (bs_ob bs_2) (ly_2_0 bs_2).1 (ly_2_0 bs_2).2.1 ?_
    refine r_getI 8 11 11 rfl d_X2_draw_86 fl_X2_137 (by decide) (bs_ob (ly_2_0 bs_2).2.2) ?_
    refine r_iadd d_X2_draw_89 ?_
    obtain ⟨G9, eG9⟩ : ∃ y : Mem, y = st G8 19 7 ((G8 19 7) + (G8 20 11)) := ⟨_, rfl⟩
    replace h := h G9 eG9
    refine r_putI 2 7 7 rfl d_X2_draw_90 fl_X2_162 (by decide) nofin_2_7 (bs_ob bs_2) ?_
    rw [← eG9]
    refine r_iinc (ls1 := [(4, (0, (x4 + 1))), (0, (2, 19)), (1, (2, x1)), (3, (0, x3))]) d_X2_draw_93 3 rfl (by decide) rfl ?_
    refine r_goto (tgt := 33) d_X2_draw_96 (by decide) ?_
    exact Rn.sub [1, 2, 3, 0] rfl h
theorem d_X2_forget_0 : decode M_X2_forget.2.1 0 = .ok (.aload_n 0, 1) := by decide +kernel
theorem d_X2_forget_1 : decode M_X2_forget.2.1 1 = .ok (.iconst 0, 1) := by decide +kernel
theorem d_X2_forget_2 : decode M_X2_forget.2.1 2 = .ok (.putfield 168, 3) := by decide +kernel
theorem d_X2_forget_5 : decode M_X2_forget.2.1 5 = .ok (.return_, 1) := by decide +kernel
set_option maxRecDepth 20000 in
theorem s_X2_forget_0 {d : Nat}  {G : Mem} {Q : Int → Mem → Prop}  (h : (∀ G1 : Mem, G1 = st G 19 10 0 → Q 0 G1)) : Rn d M_X2_forget zN 0 [(0, (2, 19))] [] G Q := by
  refine r_aload_n d_X2_forget_0 0 rfl rfl ?_
  refine r_iconst d_X2_forget_1 ?_
  obtain ⟨G1, eG1⟩ : ∃ y : Mem, y = st G 19 10 0 := ⟨_, rfl⟩
  replace h := h G1 eG1
  refine r_putZ 2 10 10 rfl d_X2_forget_2 fl_X2_168 (by decide) nofin_2_10 (bs_ob bs_2) (by decide) ?_
  rw [← eG1]
  exact r_ret d_X2_forget_5 rfl ⟨rfl, Nat.le_refl _, Nat.le_refl _⟩ h
theorem d_X2_rank_0 : decode M_X2_rank.2.1 0 = .ok (.aload_n 0, 1) := by decide +kernel
theorem d_X2_rank_1 : decode M_X2_rank.2.1 1 = .ok (.getfield 168, 3) := by decide +kernel
theorem d_X2_rank_4 : decode M_X2_rank.2.1 4 = .ok (.ifCond .eq 4, 3) := by decide +kernel
theorem d_X2_rank_7 : decode M_X2_rank.2.1 7 = .ok (.return_, 1) := by decide +kernel
theorem d_X2_rank_8 : decode M_X2_rank.2.1 8 = .ok (.aload_n 0, 1) := by decide +kernel
theorem d_X2_rank_9 : decode M_X2_rank.2.1 9 = .ok (.iconst 1, 1) := by decide +kernel
theorem d_X2_rank_10 : decode M_X2_rank.2.1 10 = .ok (.putfield 168, 3) := by decide +kernel
theorem d_X2_rank_13 : decode M_X2_rank.2.1 13 = .ok (.iconst 0, 1) := by decide +kernel
theorem d_X2_rank_14 : decode M_X2_rank.2.1 14 = .ok (.istore_n 2, 1) := by decide +kernel
theorem d_X2_rank_15 : decode M_X2_rank.2.1 15 = .ok (.iload_n 2, 1) := by decide +kernel
theorem d_X2_rank_16 : decode M_X2_rank.2.1 16 = .ok (.aload_n 1, 1) := by decide +kernel
theorem d_X2_rank_17 : decode M_X2_rank.2.1 17 = .ok (.getfield 171, 3) := by decide +kernel
theorem d_X2_rank_20 : decode M_X2_rank.2.1 20 = .ok (.if_icmp .ge 16, 3) := by decide +kernel
theorem d_X2_rank_23 : decode M_X2_rank.2.1 23 = .ok (.aload_n 0, 1) := by decide +kernel
theorem d_X2_rank_24 : decode M_X2_rank.2.1 24 = .ok (.getfield 31, 3) := by decide +kernel
theorem d_X2_rank_27 : decode M_X2_rank.2.1 27 = .ok (.iload_n 2, 1) := by decide +kernel
theorem d_X2_rank_28 : decode M_X2_rank.2.1 28 = .ok (.iload_n 2, 1) := by decide +kernel
theorem d_X2_rank_29 : decode M_X2_rank.2.1 29 = .ok (.iastore, 1) := by decide +kernel
theorem d_X2_rank_30 : decode M_X2_rank.2.1 30 = .ok (.iinc 2 1, 3) := by decide +kernel
theorem d_X2_rank_33 : decode M_X2_rank.2.1 33 = .ok (.goto (-18), 3) := by decide +kernel
theorem d_X2_rank_36 : decode M_X2_rank.2.1 36 = .ok (.aload_n 0, 1) := by decide +kernel
theorem d_X2_rank_37 : decode M_X2_rank.2.1 37 = .ok (.iconst (-1), 1) := by decide +kernel
theorem d_X2_rank_38 : decode M_X2_rank.2.1 38 = .ok (.putfield 174, 3) := by decide +kernel
theorem d_X2_rank_41 : decode M_X2_rank.2.1 41 = .ok (.iconst 1, 1) := by decide +kernel
theorem d_X2_rank_42 : decode M_X2_rank.2.1 42 = .ok (.istore_n 2, 1) := by decide +kernel
theorem d_X2_rank_43 : decode M_X2_rank.2.1 43 = .ok (.iconst 0, 1) := by decide +kernel
theorem d_X2_rank_44 : decode M_X2_rank.2.1 44 = .ok (.istore_n 3, 1) := by decide +kernel
theorem d_X2_rank_45 : decode M_X2_rank.2.1 45 = .ok (.iload_n 3, 1) := by decide +kernel
theorem d_X2_rank_46 : decode M_X2_rank.2.1 46 = .ok (.bipush 120, 2) := by decide +kernel
theorem d_X2_rank_48 : decode M_X2_rank.2.1 48 = .ok (.if_icmp .ge 81, 3) := by decide +kernel
theorem d_X2_rank_51 : decode M_X2_rank.2.1 51 = .ok (.iload_n 2, 1) := by decide +kernel
theorem d_X2_rank_52 : decode M_X2_rank.2.1 52 = .ok (.ifCond .eq 77, 3) := by decide +kernel
theorem d_X2_rank_55 : decode M_X2_rank.2.1 55 = .ok (.aload_n 0, 1) := by decide +kernel
theorem d_X2_rank_56 : decode M_X2_rank.2.1 56 = .ok (.aload_n 1, 1) := by decide +kernel
theorem d_X2_rank_57 : decode M_X2_rank.2.1 57 = .ok (.invokevirtual 177, 3) := by decide +kernel
theorem d_X2_rank_60 : decode M_X2_rank.2.1 60 = .ok (.aload_n 0, 1) := by decide +kernel
theorem d_X2_rank_61 : decode M_X2_rank.2.1 61 = .ok (.aload_n 1, 1) := by decide +kernel
theorem d_X2_rank_62 : decode M_X2_rank.2.1 62 = .ok (.iconst (-1), 1) := by decide +kernel
theorem d_X2_rank_63 : decode M_X2_rank.2.1 63 = .ok (.invokevirtual 146, 3) := by decide +kernel
theorem d_X2_rank_66 : decode M_X2_rank.2.1 66 = .ok (.aload_n 0, 1) := by decide +kernel
theorem d_X2_rank_67 : decode M_X2_rank.2.1 67 = .ok (.aload_n 1, 1) := by decide +kernel
theorem d_X2_rank_68 : decode M_X2_rank.2.1 68 = .ok (.invokevirtual 180, 3) := by decide +kernel
theorem d_X2_rank_71 : decode M_X2_rank.2.1 71 = .ok (.istore 4, 2) := by decide +kernel
theorem d_X2_rank_73 : decode M_X2_rank.2.1 73 = .ok (.aload_n 0, 1) := by decide +kernel
theorem d_X2_rank_74 : decode M_X2_rank.2.1 74 = .ok (.getfield 174, 3) := by decide +kernel
theorem d_X2_rank_77 : decode M_X2_rank.2.1 77 = .ok (.iconst (-1), 1) := by decide +kernel
theorem d_X2_rank_78 : decode M_X2_rank.2.1 78 = .ok (.if_icmp .eq 12, 3) := by decide +kernel
theorem d_X2_rank_81 : decode M_X2_rank.2.1 81 = .ok (.iload 4, 2) := by decide +kernel
theorem d_X2_rank_83 : decode M_X2_rank.2.1 83 = .ok (.aload_n 0, 1) := by decide +kernel
theorem d_X2_rank_84 : decode M_X2_rank.2.1 84 = .ok (.getfield 174, 3) := by decide +kernel
theorem d_X2_rank_87 : decode M_X2_rank.2.1 87 = .ok (.if_icmp .ge 27, 3) := by decide +kernel
theorem d_X2_rank_90 : decode M_X2_rank.2.1 90 = .ok (.aload_n 0, 1) := by decide +kernel
theorem d_X2_rank_91 : decode M_X2_rank.2.1 91 = .ok (.iload 4, 2) := by decide +kernel
theorem d_X2_rank_93 : decode M_X2_rank.2.1 93 = .ok (.putfield 174, 3) := by decide +kernel
theorem d_X2_rank_96 : decode M_X2_rank.2.1 96 = .ok (.aload_n 0, 1) := by decide +kernel
theorem d_X2_rank_97 : decode M_X2_rank.2.1 97 = .ok (.getfield 31, 3) := by decide +kernel
theorem d_X2_rank_100 : decode M_X2_rank.2.1 100 = .ok (.iconst 0, 1) := by decide +kernel
theorem d_X2_rank_101 : decode M_X2_rank.2.1 101 = .ok (.aload_n 0, 1) := by decide +kernel
theorem d_X2_rank_102 : decode M_X2_rank.2.1 102 = .ok (.getfield 25, 3) := by decide +kernel
theorem d_X2_rank_105 : decode M_X2_rank.2.1 105 = .ok (.iconst 0, 1) := by decide +kernel
theorem d_X2_rank_106 : decode M_X2_rank.2.1 106 = .ok (.aload_n 0, 1) := by decide +kernel
theorem d_X2_rank_107 : decode M_X2_rank.2.1 107 = .ok (.getfield 25, 3) := by decide +kernel
theorem d_X2_rank_110 : decode M_X2_rank.2.1 110 = .ok (.arraylength, 1) := by decide +kernel
theorem d_X2_rank_111 : decode M_X2_rank.2.1 111 = .ok (.invokestatic 39, 3) := by decide +kernel
theorem d_X2_rank_114 : decode M_X2_rank.2.1 114 = .ok (.aload_n 0, 1) := by decide +kernel
theorem d_X2_rank_115 : decode M_X2_rank.2.1 115 = .ok (.aload_n 1, 1) := by decide +kernel
theorem d_X2_rank_116 : decode M_X2_rank.2.1 116 = .ok (.getfield 171, 3) := by decide +kernel
theorem d_X2_rank_119 : decode M_X2_rank.2.1 119 = .ok (.invokevirtual 184, 3) := by decide +kernel
theorem d_X2_rank_122 : decode M_X2_rank.2.1 122 = .ok (.istore_n 2, 1) := by decide +kernel
theorem d_X2_rank_123 : decode M_X2_rank.2.1 123 = .ok (.iinc 3 1, 3) := by decide +kernel
theorem d_X2_rank_126 : decode M_X2_rank.2.1 126 = .ok (.goto (-81), 3) := by decide +kernel
theorem d_X2_rank_129 : decode M_X2_rank.2.1 129 = .ok (.return_, 1) := by decide +kernel
set_option maxRecDepth 20000 in
theorem s_X2_rank_0 {d : Nat} {p0 : Int} {G : Mem} {Q : Int → Mem → Prop} (bp0 : Bs 1 p0) (h : (InR (G 19 10)) ∧ (((G 19 10) = 0) → (∀ G3 : Mem, G3 = st G 19 10 1 → Rn d M_X2_rank zN 15 [(0, (2, 19)), (1, (2, p0)), (2, (0, 0))] [] G3 Q)) ∧ (¬ ((G 19 10) = 0) → Q 0 G)) : Rn d M_X2_rank zN 0 [(0, (2, 19)), (1, (2, p0))] [] G Q := by
  refine r_aload_n d_X2_rank_0 0 rfl rfl ?_
  refine r_getZ 2 10 10 rfl d_X2_rank_1 fl_X2_168 (by decide) (bs_ob bs_2) ?_
  obtain ⟨h1, h⟩ := h
  refine r_if_eq (tgt := 8) d_X2_rank_4 (by decide) h1 (fun c2 => ?_) (fun c2 => ?_)
  · replace h := h.1 c2
    refine r_aload_n d_X2_rank_8 0 rfl rfl ?_
    refine r_iconst d_X2_rank_9 ?_
    obtain ⟨G3, eG3⟩ : ∃ y : Mem, y = st G 19 10 1 := ⟨_, rfl⟩
    replace h := h G3 eG3
    refine r_putZ 2 10 10 rfl d_X2_rank_10 fl_X2_168 (by decide) nofin_2_10 (bs_ob bs_2) (by decide) ?_
    rw [← eG3]
    refine r_iconst d_X2_rank_13 ?_
    refine r_istore_n (ls1 := [(2, (0, 0)), (0, (2, 19)), (1, (2, p0))]) d_X2_rank_14 rfl (by decide) rfl ?_
    exact Rn.sub [1, 2, 0] rfl h
  · replace h := h.2 c2
    exact r_ret d_X2_rank_7 rfl ⟨rfl, Nat.le_refl _, Nat.le_refl _⟩ h
set_option maxRecDepth 20000 in
theorem s_X2_rank_15 {d : Nat} {x1 : Int} {x2 : Int} {G : Mem} {Q : Int → Mem → Prop} (bx1 : Bs 1 x1) (h : (InR x2) ∧ (InR (G x1 8)) ∧ (((G x1 8) ≤ x2) → (∀ G4 : Mem, G4 = st G 19 4 (-1) → Rn d M_X2_rank zN 45 [(0, (2, 19)), (1, (2, x1)), (2, (0, 1)), (3, (0, 0))] [] G4 Q)) ∧ (¬ ((G x1 8) ≤ x2) → (0 ≤ x2 ∧ x2 < 5) ∧ (∀ G6 : Mem, G6 = st G 32 x2 x2 → Rn d M_X2_rank zN 15 [(0, (2, 19)), (1, (2, x1)), (2, (0, (x2 + 1)))] [] G6 Q))) : Rn d M_X2_rank zN 15 [(0, (2, 19)), (1, (2, x1)), (2, (0, x2))] [] G Q := by
  refine r_iload_n d_X2_rank_15 2 rfl rfl ?_
  refine r_aload_n d_X2_rank_16 1 rfl rfl ?_
  refine r_getI 1 8 8 rfl d_X2_rank_17 fl_X2_171 (by decide) (bs_ob bx1) ?_
  obtain ⟨h1, h⟩ := h
  obtain ⟨h2, h⟩ := h
  refine r_icmp_ge (tgt := 36) d_X2_rank_20 (by decide) h1 h2 (fun c3 => ?_) (fun c3 => ?_)
  · replace h := h.1 c3
    refine r_aload_n d_X2_rank_36 0 rfl rfl ?_
    refine r_iconst d_X2_rank_37 ?_
    obtain ⟨G4, eG4⟩ : ∃ y : Mem, y = st G 19 4 (-1) := ⟨_, rfl⟩
    replace h := h G4 eG4
    refine r_putI 2 4 4 rfl d_X2_rank_38 fl_X2_174 (by decide) nofin_2_4 (bs_ob bs_2) ?_
    rw [← eG4]
    refine r_iconst d_X2_rank_41 ?_
    refine r_istore_n (ls1 := [(2, (0, 1)), (0, (2, 19)), (1, (2, x1))]) d_X2_rank_42 rfl (by decide) rfl ?_
    refine r_iconst d_X2_rank_43 ?_
    refine r_istore_n (ls1 := [(3, (0, 0)), (2, (0, 1)), (0, (2, 19)), (1, (2, x1))]) d_X2_rank_44 rfl (by decide) rfl ?_
    exact Rn.sub [2, 3, 1, 0] rfl h
  · replace h := h.2 c3
    refine r_aload_n d_X2_rank_23 0 rfl rfl ?_
    refine r_getL (v := 32) 2 9 9 rfl d_X2_rank_24 fl_X2_31 (by decide) (bs_ob bs_2) (ly_2_9 bs_2).1 (ly_2_9 bs_2).2.1 ?_
    refine r_iload_n d_X2_rank_27 2 rfl rfl ?_
    refine r_iload_n d_X2_rank_28 2 rfl rfl ?_
    obtain ⟨h5, h⟩ := h
    obtain ⟨G6, eG6⟩ : ∃ y : Mem, y = st G 32 x2 x2 := ⟨_, rfl⟩
    replace h := h G6 eG6
    refine r_iastore d_X2_rank_29 (ly_2_9 bs_2).2.2 h5 ?_
    rw [← eG6]
    refine r_iinc (ls1 := [(2, (0, (x2 + 1))), (0, (2, 19)), (1, (2, x1))]) d_X2_rank_30 2 rfl (by decide) rfl ?_
    refine r_goto (tgt := 15) d_X2_rank_33 (by decide) ?_
    exact Rn.sub [1, 2, 0] rfl h
set_option maxRecDepth 20000 in
theorem s_X2_rank_45 {d : Nat} {x1 : Int} {x2 : Int} {x3 : Int} {G : Mem} {Q : Int → Mem → Prop} (bx1 : Bs 1 x1) (h : (InR x3) ∧ ((120 ≤ x3) → Q 0 G) ∧ (¬ (120 ≤ x3) → (InR x2) ∧ ((x2 = 0) → Q 0 G) ∧ (¬ (x2 = 0) → Ct d M_X2_seatAsTried NT 0 0 (some lay) [(2, 19), (2, x1)] G (fun r6 G5 => Ct d M_X2_fly NT 0 0 (some lay) [(2, 19), (2, x1), (0, (-1))] G5 (fun r8 G7 => Ct d M_X2_pence NT 0 0 (some lay) [(2, 19), (2, x1)] G7 (fun r10 G9 => (InR (G9 19 4)) ∧ (((G9 19 4) = (-1)) → Rn (d + 1) M_X2_rank zN 90 [(0, (2, 19)), (1, (2, x1)), (3, (0, x3)), (4, (0, r10))] [] G9 Q) ∧ (¬ ((G9 19 4) = (-1)) → (InR r10) ∧ (((G9 19 4) ≤ r10) → Rn (d + 1) M_X2_rank zN 114 [(0, (2, 19)), (1, (2, x1)), (3, (0, x3))] [] G9 Q) ∧ (¬ ((G9 19 4) ≤ r10) → Rn (d + 1) M_X2_rank zN 90 [(0, (2, 19)), (1, (2, x1)), (3, (0, x3)), (4, (0, r10))] [] G9 Q)))))))) : Rn (d + 1) M_X2_rank zN 45 [(0, (2, 19)), (1, (2, x1)), (2, (0, x2)), (3, (0, x3))] [] G Q := by
  refine r_iload_n d_X2_rank_45 3 rfl rfl ?_
  refine r_bipush d_X2_rank_46 (by decide +kernel) ?_
  obtain ⟨h1, h⟩ := h
  refine r_icmp_ge (tgt := 129) d_X2_rank_48 (by decide) h1 ⟨by decide, by decide⟩ (fun c2 => ?_) (fun c2 => ?_)
  · replace h := h.1 c2
    exact r_ret d_X2_rank_129 rfl ⟨rfl, Nat.le_refl _, Nat.le_refl _⟩ h
  · replace h := h.2 c2
    refine r_iload_n d_X2_rank_51 2 rfl rfl ?_
    obtain ⟨h3, h⟩ := h
    refine r_if_eq (tgt := 129) d_X2_rank_52 (by decide) h3 (fun c4 => ?_) (fun c4 => ?_)
    · replace h := h.1 c4
      exact r_ret d_X2_rank_129 rfl ⟨rfl, Nat.le_refl _, Nat.le_refl _⟩ h
    · replace h := h.2 c4
      refine r_aload_n d_X2_rank_55 0 rfl rfl ?_
      refine r_aload_n d_X2_rank_56 1 rfl rfl ?_
      refine r_callV0 (M' := M_X2_seatAsTried) (ci := 2) [(2, x1)] d_X2_rank_57 cl_X2_177 rfl (Nat.le_of_ble_eq_true rfl) (by decide) rfl (bs_ob bs_2) ?_
      refine Ct.mono h (fun r6 G5 h => ?_)
      show Rn _ M_X2_rank zN 60 [(0, (2, 19)), (1, (2, x1)), (2, (0, x2)), (3, (0, x3))] [] G5 Q
      refine r_aload_n d_X2_rank_60 0 rfl rfl ?_
      refine r_aload_n d_X2_rank_61 1 rfl rfl ?_
      refine r_iconst d_X2_rank_62 ?_
      refine r_callV0 (M' := M_X2_fly) (ci := 2) [(2, x1), (0, (-1))] d_X2_rank_63 cl_X2_146 rfl (Nat.le_of_ble_eq_true rfl) (by decide) rfl (bs_ob bs_2) ?_
      refine Ct.mono h (fun r8 G7 h => ?_)
      show Rn _ M_X2_rank zN 66 [(0, (2, 19)), (1, (2, x1)), (2, (0, x2)), (3, (0, x3))] [] G7 Q
      refine r_aload_n d_X2_rank_66 0 rfl rfl ?_
      refine r_aload_n d_X2_rank_67 1 rfl rfl ?_
      refine r_callV0 (M' := M_X2_pence) (ci := 2) [(2, x1)] d_X2_rank_68 cl_X2_180 rfl (Nat.le_of_ble_eq_true rfl) (by decide) rfl (bs_ob bs_2) ?_
      refine Ct.mono h (fun r10 G9 h => ?_)
      show Rn _ M_X2_rank zN 71 [(0, (2, 19)), (1, (2, x1)), (2, (0, x2)), (3, (0, x3))] [(0, r10)] G9 Q
      refine r_istore (ls1 := [(4, (0, r10)), (0, (2, 19)), (1, (2, x1)), (2, (0, x2)), (3, (0, x3))]) d_X2_rank_71 (by decide) rfl ?_
      refine r_aload_n d_X2_rank_73 1 rfl rfl ?_
      refine r_getI 2 4 4 rfl d_X2_rank_74 fl_X2_174 (by decide) (bs_ob bs_2) ?_
      refine r_iconst d_X2_rank_77 ?_
      obtain ⟨h11, h⟩ := h
      refine r_icmp_eq (tgt := 90) d_X2_rank_78 (by decide) h11 ⟨by decide, by decide⟩ (fun c12 => ?_) (fun c12 => ?_)
      · replace h := h.1 c12
        exact Rn.sub [1, 2, 4, 0] rfl h
      · replace h := h.2 c12
        refine r_iload d_X2_rank_81 0 rfl ?_
        refine r_aload_n d_X2_rank_83 1 rfl rfl ?_
        refine r_getI 2 4 4 rfl d_X2_rank_84 fl_X2_174 (by decide) (bs_ob bs_2) ?_
        obtain ⟨h13, h⟩ := h
        refine r_icmp_ge (tgt := 114) d_X2_rank_87 (by decide) h13 h11 (fun c14 => ?_) (fun c14 => ?_)
        · replace h := h.1 c14
          exact Rn.sub [1, 2, 4] rfl h
        · replace h := h.2 c14
          exact Rn.sub [1, 2, 4, 0] rfl h
set_option maxRecDepth 20000 in
theorem s_X2_rank_90 {d : Nat} {x1 : Int} {x3 : Int} {x4 : Int} {G : Mem} {Q : Int → Mem → Prop} (bx1 : Bs 1 x1) (h : (∀ G1 : Mem, G1 = st G 19 4 x4 → (CpOk 0 0 5 5 5) ∧ (∀ G3 : Mem, G3 = cpy G1 32 0 30 0 5 → Rn (d + 1) M_X2_rank zN 114 [(0, (2, 19)), (1, (2, x1)), (3, (0, x3))] [] G3 Q))) : Rn (d + 1) M_X2_rank zN 90 [(0, (2, 19)), (1, (2, x1)), (3, (0, x3)), (4, (0, x4))] [] G Q := by
  refine r_aload_n d_X2_rank_90 0 rfl rfl ?_
  refine r_iload d_X2_rank_91 3 rfl ?_
  obtain ⟨G1, eG1⟩ : ∃ y : Mem, y = st G 19 4 x4 := ⟨_, rfl⟩
  replace h := h G1 eG1
  refine r_putI 2 4 4 rfl d_X2_rank_93 fl_X2_174 (by decide) nofin_2_4 (bs_ob bs_2) ?_
  rw [← eG1]
  refine r_aload_n d_X2_rank_96 0 rfl rfl ?_
  refine r_getL (v := 32) 2 9 9 rfl d_X2_rank_97 fl_X2_31 (by decide) (bs_ob bs_2) (ly_2_9 bs_2).1 (ly_2_9 bs_2).2.1 ?_
  refine r_iconst d_X2_rank_100 ?_
  refine r_aload_n d_X2_rank_101 0 rfl rfl ?_
  refine r_getL (v := 30) 2 3 3 rfl d_X2_rank_102 fl_X2_25 (by decide) (bs_ob bs_2) (ly_2_3 bs_2).1 (ly_2_3 bs_2).2.1 ?_
  refine r_iconst d_X2_rank_105 ?_
  refine r_aload_n d_X2_rank_106 0 rfl rfl ?_
  refine r_getL (v := 30) 2 3 3 rfl d_X2_rank_107 fl_X2_25 (by decide) (bs_ob bs_2) (ly_2_3 bs_2).1 (ly_2_3 bs_2).2.1 ?_
  refine r_alen 5 rfl d_X2_rank_110 (ly_2_3 bs_2).2.2 ?_
  obtain ⟨h2, h⟩ := h
  obtain ⟨G3, eG3⟩ : ∃ y : Mem, y = cpy G1 32 0 30 0 5 := ⟨_, rfl⟩
  replace h := h G3 eG3
  refine r_acopy d_X2_rank_111 ac_X2_39 (ly_2_9 bs_2).2.2 (ly_2_3 bs_2).2.2 h2 (Nat.le_of_ble_eq_true rfl) ?_
  rw [← eG3]
  exact Rn.sub [0, 1, 2] rfl h
set_option maxRecDepth 20000 in
theorem s_X2_rank_114 {d : Nat} {x1 : Int} {x3 : Int} {G : Mem} {Q : Int → Mem → Prop} (bx1 : Bs 1 x1) (h : Ct d M_X2_nextTrial NT 0 0 (some lay) [(2, 19), (0, (G x1 8))] G (fun r2 G1 => Rn (d + 1) M_X2_rank zN 45 [(0, (2, 19)), (1, (2, x1)), (2, (0, r2)), (3, (0, (x3 + 1)))] [] G1 Q)) : Rn (d + 1) M_X2_rank zN 114 [(0, (2, 19)), (1, (2, x1)), (3, (0, x3))] [] G Q := by
  refine r_aload_n d_X2_rank_114 0 rfl rfl ?_
  refine r_aload_n d_X2_rank_115 1 rfl rfl ?_
  refine r_getI 1 8 8 rfl d_X2_rank_116 fl_X2_171 (by decide) (bs_ob bx1) ?_
  refine r_callV0 (M' := M_X2_nextTrial) (ci := 2) [(0, (G x1 8))] d_X2_rank_119 cl_X2_184 rfl (Nat.le_of_ble_eq_true rfl) (by decide) rfl (bs_ob bs_2) ?_
  refine Ct.mono h (fun r2 G1 h => ?_)
  show Rn _ M_X2_rank zN 122 [(0, (2, 19)), (1, (2, x1)), (3, (0, x3))] [(0, r2)] G1 Q
  refine r_istore_n (ls1 := [(2, (0, r2)), (0, (2, 19)), (1, (2, x1)), (3, (0, x3))]) d_X2_rank_122 rfl (by decide) rfl ?_
  refine r_iinc (ls1 := [(3, (0, (x3 + 1))), (2, (0, r2)), (0, (2, 19)), (1, (2, x1))]) d_X2_rank_123 3 rfl (by decide) rfl ?_
  refine r_goto (tgt := 45) d_X2_rank_126 (by decide) ?_
  exact Rn.sub [2, 3, 1, 0] rfl h
theorem d_X2_seatAsTried_0 : decode M_X2_seatAsTried.2.1 0 = .ok (.iconst 0, 1) := by decide +kernel
theorem d_X2_seatAsTried_1 : decode M_X2_seatAsTried.2.1 1 = .ok (.istore_n 2, 1) := by decide +kernel
theorem d_X2_seatAsTried_2 : decode M_X2_seatAsTried.2.1 2 = .ok (.iconst 0, 1) := by decide +kernel
theorem d_X2_seatAsTried_3 : decode M_X2_seatAsTried.2.1 3 = .ok (.istore_n 3, 1) := by decide +kernel
theorem d_X2_seatAsTried_4 : decode M_X2_seatAsTried.2.1 4 = .ok (.iload_n 3, 1) := by decide +kernel
theorem d_X2_seatAsTried_5 : decode M_X2_seatAsTried.2.1 5 = .ok (.aload_n 1, 1) := by decide +kernel
theorem d_X2_seatAsTried_6 : decode M_X2_seatAsTried.2.1 6 = .ok (.getfield 59, 3) := by decide +kernel
theorem d_X2_seatAsTried_9 : decode M_X2_seatAsTried.2.1 9 = .ok (.if_icmp .ge 49, 3) := by decide +kernel
theorem d_X2_seatAsTried_12 : decode M_X2_seatAsTried.2.1 12 = .ok (.aload_n 0, 1) := by decide +kernel
theorem d_X2_seatAsTried_13 : decode M_X2_seatAsTried.2.1 13 = .ok (.getfield 28, 3) := by decide +kernel
theorem d_X2_seatAsTried_16 : decode M_X2_seatAsTried.2.1 16 = .ok (.iload_n 3, 1) := by decide +kernel
theorem d_X2_seatAsTried_17 : decode M_X2_seatAsTried.2.1 17 = .ok (.iconst (-1), 1) := by decide +kernel
theorem d_X2_seatAsTried_18 : decode M_X2_seatAsTried.2.1 18 = .ok (.iastore, 1) := by decide +kernel
theorem d_X2_seatAsTried_19 : decode M_X2_seatAsTried.2.1 19 = .ok (.aload_n 1, 1) := by decide +kernel
theorem d_X2_seatAsTried_20 : decode M_X2_seatAsTried.2.1 20 = .ok (.getfield 34, 3) := by decide +kernel
theorem d_X2_seatAsTried_23 : decode M_X2_seatAsTried.2.1 23 = .ok (.iload_n 3, 1) := by decide +kernel
theorem d_X2_seatAsTried_24 : decode M_X2_seatAsTried.2.1 24 = .ok (.iaload, 1) := by decide +kernel
theorem d_X2_seatAsTried_25 : decode M_X2_seatAsTried.2.1 25 = .ok (.iconst (-1), 1) := by decide +kernel
theorem d_X2_seatAsTried_26 : decode M_X2_seatAsTried.2.1 26 = .ok (.if_icmp .eq 26, 3) := by decide +kernel
theorem d_X2_seatAsTried_29 : decode M_X2_seatAsTried.2.1 29 = .ok (.iload_n 2, 1) := by decide +kernel
theorem d_X2_seatAsTried_30 : decode M_X2_seatAsTried.2.1 30 = .ok (.aload_n 1, 1) := by decide +kernel
theorem d_X2_seatAsTried_31 : decode M_X2_seatAsTried.2.1 31 = .ok (.getfield 171, 3) := by decide +kernel
theorem d_X2_seatAsTried_34 : decode M_X2_seatAsTried.2.1 34 = .ok (.if_icmp .ge 18, 3) := by decide +kernel
theorem d_X2_seatAsTried_37 : decode M_X2_seatAsTried.2.1 37 = .ok (.aload_n 0, 1) := by decide +kernel
theorem d_X2_seatAsTried_38 : decode M_X2_seatAsTried.2.1 38 = .ok (.getfield 28, 3) := by decide +kernel
theorem d_X2_seatAsTried_41 : decode M_X2_seatAsTried.2.1 41 = .ok (.iload_n 3, 1) := by decide +kernel
theorem d_X2_seatAsTried_42 : decode M_X2_seatAsTried.2.1 42 = .ok (.aload_n 0, 1) := by decide +kernel
theorem d_X2_seatAsTried_43 : decode M_X2_seatAsTried.2.1 43 = .ok (.getfield 31, 3) := by decide +kernel
theorem d_X2_seatAsTried_46 : decode M_X2_seatAsTried.2.1 46 = .ok (.iload_n 2, 1) := by decide +kernel
theorem d_X2_seatAsTried_47 : decode M_X2_seatAsTried.2.1 47 = .ok (.iaload, 1) := by decide +kernel
theorem d_X2_seatAsTried_48 : decode M_X2_seatAsTried.2.1 48 = .ok (.iastore, 1) := by decide +kernel
theorem d_X2_seatAsTried_49 : decode M_X2_seatAsTried.2.1 49 = .ok (.iinc 2 1, 3) := by decide +kernel
theorem d_X2_seatAsTried_52 : decode M_X2_seatAsTried.2.1 52 = .ok (.iinc 3 1, 3) := by decide +kernel
theorem d_X2_seatAsTried_55 : decode M_X2_seatAsTried.2.1 55 = .ok (.goto (-51), 3) := by decide +kernel
theorem d_X2_seatAsTried_58 : decode M_X2_seatAsTried.2.1 58 = .ok (.return_, 1) := by decide +kernel
set_option maxRecDepth 20000 in
theorem s_X2_seatAsTried_0 {d : Nat} {p0 : Int} {G : Mem} {Q : Int → Mem → Prop} (bp0 : Bs 1 p0) (h : Rn d M_X2_seatAsTried zN 4 [(0, (2, 19)), (1, (2, p0)), (2, (0, 0)), (3, (0, 0))] [] G Q) : Rn d M_X2_seatAsTried zN 0 [(0, (2, 19)), (1, (2, p0))] [] G Q := by
  refine r_iconst d_X2_seatAsTried_0 ?_
  refine r_istore_n (ls1 := [(2, (0, 0)), (0, (2, 19)), (1, (2, p0))]) d_X2_seatAsTried_1 rfl (by decide) rfl ?_
  refine r_iconst d_X2_seatAsTried_2 ?_
  refine r_istore_n (ls1 := [(3, (0, 0)), (2, (0, 0)), (0, (2, 19)), (1, (2, p0))]) d_X2_seatAsTried_3 rfl (by decide) rfl ?_
  exact Rn.sub [2, 3, 1, 0] rfl h
set_option maxRecDepth 20000 in
theorem s_X2_seatAsTried_4 {d : Nat} {x1 : Int} {x2 : Int} {x3 : Int} {G : Mem} {Q : Int → Mem → Prop} (bx1 : Bs 1 x1) (h : (InR x3) ∧ (InR (G x1 6)) ∧ (((G x1 6) ≤ x3) → Q 0 G) ∧ (¬ ((G x1 6) ≤ x3) → (0 ≤ x3 ∧ x3 < 5) ∧ (∀ G5 : Mem, G5 = st G 31 x3 (-1) → (InR (G5 (x1 + 2) x3)) ∧ (((G5 (x1 + 2) x3) = (-1)) → Rn d M_X2_seatAsTried zN 4 [(0, (2, 19)), (1, (2, x1)), (2, (0, x2)), (3, (0, (x3 + 1)))] [] G5 Q) ∧ (¬ ((G5 (x1 + 2) x3) = (-1)) → (InR x2) ∧ (InR (G5 x1 8)) ∧ (((G5 x1 8) ≤ x2) → Rn d M_X2_seatAsTried zN 4 [(0, (2, 19)), (1, (2, x1)), (2, (0, x2)), (3, (0, (x3 + 1)))] [] G5 Q) ∧ (¬ ((G5 x1 8) ≤ x2) → (0 ≤ x2 ∧ x2 < 5) ∧ ((∀ G12 : Mem, G12 = st G5 31 x3 (G5 32 x2) → Rn d M_X2_seatAsTried zN 4 [(0, (2, 19)), (1, (2, x1)), (2, (0, (x2 + 1))), (3, (0, (x3 + 1)))] [] G12 Q))))))) : Rn d M_X2_seatAsTried zN 4 [(0, (2, 19)), (1, (2, x1)), (2, (0, x2)), (3, (0, x3))] [] G Q := by
  refine r_iload_n d_X2_seatAsTried_4 3 rfl rfl ?_
  refine r_aload_n d_X2_seatAsTried_5 1 rfl rfl ?_
  refine r_getI 1 6 6 rfl d_X2_seatAsTried_6 fl_X2_59 (by decide) (bs_ob bx1) ?_
  obtain ⟨h1, h⟩ := h
  obtain ⟨h2, h⟩ := h
  refine r_icmp_ge (tgt := 58) d_X2_seatAsTried_9 (by decide) h1 h2 (fun c3 => ?_) (fun c3 => ?_)
  · replace h := h.1 c3
    exact r_ret d_X2_seatAsTried_58 rfl ⟨rfl, Nat.le_refl _, Nat.le_refl _⟩ h
  · replace h := h.2 c3
    refine r_aload_n d_X2_seatAsTried_12 0 rfl rfl ?_
    refine r_getL (v := 31) 2 8 8 rfl d_X2_seatAsTried_13 fl_X2_28 (by decide) (bs_ob bs_2) (ly_2_8 bs_2).1 (ly_2_8 bs_2).2.1 ?_
    refine r_iload_n d_X2_seatAsTried_16 3 rfl rfl ?_
    refine r_iconst d_X2_seatAsTried_17 ?_
    obtain ⟨h4, h⟩ := h
    obtain ⟨G5, eG5⟩ : ∃ y : Mem, y = st G 31 x3 (-1) := ⟨_, rfl⟩
    replace h := h G5 eG5
    refine r_iastore d_X2_seatAsTried_18 (ly_2_8 bs_2).2.2 h4 ?_
    rw [← eG5]
    refine r_aload_n d_X2_seatAsTried_19 1 rfl rfl ?_
    refine r_getL (v := (x1 + 2)) 1 1 1 rfl d_X2_seatAsTried_20 fl_X2_34 (by decide) (bs_ob bx1) (ly_1_1 bx1).1 (ly_1_1 bx1).2.1 ?_
    refine r_iload_n d_X2_seatAsTried_23 3 rfl rfl ?_
    refine r_iaload d_X2_seatAsTried_24 (ly_1_1 bx1).2.2 h4 ?_
    refine r_iconst d_X2_seatAsTried_25 ?_
    obtain ⟨h6, h⟩ := h
    refine r_icmp_eq (tgt := 52) d_X2_seatAsTried_26 (by decide) h6 ⟨by decide, by decide⟩ (fun c7 => ?_) (fun c7 => ?_)
    · replace h := h.1 c7
      refine r_iinc (ls1 := [(3, (0, (x3 + 1))), (0, (2, 19)), (1, (2, x1)), (2, (0, x2))]) d_X2_seatAsTried_52 3 rfl (by decide) rfl ?_
      refine r_goto (tgt := 4) d_X2_seatAsTried_55 (by decide) ?_
      exact Rn.sub [1, 2, 3, 0] rfl h
    · replace h := h.2 c7
      refine r_iload_n d_X2_seatAsTried_29 2 rfl rfl ?_
      refine r_aload_n d_X2_seatAsTried_30 1 rfl rfl ?_
      refine r_getI 1 8 8 rfl d_X2_seatAsTried_31 fl_X2_171 (by decide) (bs_ob bx1) ?_
      obtain ⟨h8, h⟩ := h
      obtain ⟨h9, h⟩ := h
      refine r_icmp_ge (tgt := 52) d_X2_seatAsTried_34 (by decide) h8 h9 (fun c10 => ?_) (fun c10 => ?_)
      · replace h := h.1 c10
        refine r_iinc (ls1 := [(3, (0, (x3 + 1))), (0, (2, 19)), (1, (2, x1)), (2, (0, x2))]) d_X2_seatAsTried_52 3 rfl (by decide) rfl ?_
        refine r_goto (tgt := 4) d_X2_seatAsTried_55 (by decide) ?_
        exact Rn.sub [1, 2, 3, 0] rfl h
      · replace h := h.2 c10
        refine r_aload_n d_X2_seatAsTried_37 0 rfl rfl ?_
        refine r_getL (v := 31) 2 8 8 rfl d_X2_seatAsTried_38 fl_X2_28 (by decide) (bs_ob bs_2) (ly_2_8 bs_2).1 (ly_2_8 bs_2).2.1 ?_
        refine r_iload_n d_X2_seatAsTried_41 3 rfl rfl ?_
        refine r_aload_n d_X2_seatAsTried_42 0 rfl rfl ?_
        refine r_getL (v := 32) 2 9 9 rfl d_X2_seatAsTried_43 fl_X2_31 (by decide) (bs_ob bs_2) (ly_2_9 bs_2).1 (ly_2_9 bs_2).2.1 ?_
        refine r_iload_n d_X2_seatAsTried_46 2 rfl rfl ?_
        obtain ⟨h11, h⟩ := h
        refine r_iaload d_X2_seatAsTried_47 (ly_2_9 bs_2).2.2 h11 ?_
        obtain ⟨G12, eG12⟩ : ∃ y : Mem, y = st G5 31 x3 (G5 32 x2) := ⟨_, rfl⟩
        replace h := h G12 eG12
        refine r_iastore d_X2_seatAsTried_48 (ly_2_8 bs_2).2.2 h4 ?_
        rw [← eG12]
        refine r_iinc (ls1 := [(2, (0, (x2 + 1))), (0, (2, 19)), (1, (2, x1)), (3, (0, x3))]) d_X2_seatAsTried_49 2 rfl (by decide) rfl ?_
        refine r_iinc (ls1 := [(3, (0, (x3 + 1))), (2, (0, (x2 + 1))), (0, (2, 19)), (1, (2, x1))]) d_X2_seatAsTried_52 3 rfl (by decide) rfl ?_
        refine r_goto (tgt := 4) d_X2_seatAsTried_55 (by decide) ?_
        exact Rn.sub [2, 3, 1, 0] rfl h
theorem d_X2_nextTrial_0 : decode M_X2_nextTrial.2.1 0 = .ok (.iload_n 1, 1) := by decide +kernel
theorem d_X2_nextTrial_1 : decode M_X2_nextTrial.2.1 1 = .ok (.iconst 2, 1) := by decide +kernel
theorem d_X2_nextTrial_2 : decode M_X2_nextTrial.2.1 2 = .ok (.isub, 1) := by decide +kernel
theorem d_X2_nextTrial_3 : decode M_X2_nextTrial.2.1 3 = .ok (.istore_n 2, 1) := by decide +kernel
theorem d_X2_nextTrial_4 : decode M_X2_nextTrial.2.1 4 = .ok (.iload_n 2, 1) := by decide +kernel
theorem d_X2_nextTrial_5 : decode M_X2_nextTrial.2.1 5 = .ok (.ifCond .lt 26, 3) := by decide +kernel
theorem d_X2_nextTrial_8 : decode M_X2_nextTrial.2.1 8 = .ok (.aload_n 0, 1) := by decide +kernel
theorem d_X2_nextTrial_9 : decode M_X2_nextTrial.2.1 9 = .ok (.getfield 31, 3) := by decide +kernel
theorem d_X2_nextTrial_12 : decode M_X2_nextTrial.2.1 12 = .ok (.iload_n 2, 1) := by decide +kernel
theorem d_X2_nextTrial_13 : decode M_X2_nextTrial.2.1 13 = .ok (.iaload, 1) := by decide +kernel
theorem d_X2_nextTrial_14 : decode M_X2_nextTrial.2.1 14 = .ok (.aload_n 0, 1) := by decide +kernel
theorem d_X2_nextTrial_15 : decode M_X2_nextTrial.2.1 15 = .ok (.getfield 31, 3) := by decide +kernel
theorem d_X2_nextTrial_18 : decode M_X2_nextTrial.2.1 18 = .ok (.iload_n 2, 1) := by decide +kernel
theorem d_X2_nextTrial_19 : decode M_X2_nextTrial.2.1 19 = .ok (.iconst 1, 1) := by decide +kernel
theorem d_X2_nextTrial_20 : decode M_X2_nextTrial.2.1 20 = .ok (.iadd, 1) := by decide +kernel
theorem d_X2_nextTrial_21 : decode M_X2_nextTrial.2.1 21 = .ok (.iaload, 1) := by decide +kernel
theorem d_X2_nextTrial_22 : decode M_X2_nextTrial.2.1 22 = .ok (.if_icmp .le 9, 3) := by decide +kernel
theorem d_X2_nextTrial_25 : decode M_X2_nextTrial.2.1 25 = .ok (.iinc 2 (-1), 3) := by decide +kernel
theorem d_X2_nextTrial_28 : decode M_X2_nextTrial.2.1 28 = .ok (.goto (-24), 3) := by decide +kernel
theorem d_X2_nextTrial_31 : decode M_X2_nextTrial.2.1 31 = .ok (.iload_n 2, 1) := by decide +kernel
theorem d_X2_nextTrial_32 : decode M_X2_nextTrial.2.1 32 = .ok (.ifCond .ge 5, 3) := by decide +kernel
theorem d_X2_nextTrial_35 : decode M_X2_nextTrial.2.1 35 = .ok (.iconst 0, 1) := by decide +kernel
theorem d_X2_nextTrial_36 : decode M_X2_nextTrial.2.1 36 = .ok (.ireturn, 1) := by decide +kernel
theorem d_X2_nextTrial_37 : decode M_X2_nextTrial.2.1 37 = .ok (.iload_n 1, 1) := by decide +kernel
theorem d_X2_nextTrial_38 : decode M_X2_nextTrial.2.1 38 = .ok (.iconst 1, 1) := by decide +kernel
theorem d_X2_nextTrial_39 : decode M_X2_nextTrial.2.1 39 = .ok (.isub, 1) := by decide +kernel
theorem d_X2_nextTrial_40 : decode M_X2_nextTrial.2.1 40 = .ok (.istore_n 3, 1) := by decide +kernel
theorem d_X2_nextTrial_41 : decode M_X2_nextTrial.2.1 41 = .ok (.iload_n 3, 1) := by decide +kernel
theorem d_X2_nextTrial_42 : decode M_X2_nextTrial.2.1 42 = .ok (.iload_n 2, 1) := by decide +kernel
theorem d_X2_nextTrial_43 : decode M_X2_nextTrial.2.1 43 = .ok (.if_icmp .le 24, 3) := by decide +kernel
theorem d_X2_nextTrial_46 : decode M_X2_nextTrial.2.1 46 = .ok (.aload_n 0, 1) := by decide +kernel
theorem d_X2_nextTrial_47 : decode M_X2_nextTrial.2.1 47 = .ok (.getfield 31, 3) := by decide +kernel
theorem d_X2_nextTrial_50 : decode M_X2_nextTrial.2.1 50 = .ok (.iload_n 3, 1) := by decide +kernel
theorem d_X2_nextTrial_51 : decode M_X2_nextTrial.2.1 51 = .ok (.iaload, 1) := by decide +kernel
theorem d_X2_nextTrial_52 : decode M_X2_nextTrial.2.1 52 = .ok (.aload_n 0, 1) := by decide +kernel
theorem d_X2_nextTrial_53 : decode M_X2_nextTrial.2.1 53 = .ok (.getfield 31, 3) := by decide +kernel
theorem d_X2_nextTrial_56 : decode M_X2_nextTrial.2.1 56 = .ok (.iload_n 2, 1) := by decide +kernel
theorem d_X2_nextTrial_57 : decode M_X2_nextTrial.2.1 57 = .ok (.iaload, 1) := by decide +kernel
theorem d_X2_nextTrial_58 : decode M_X2_nextTrial.2.1 58 = .ok (.if_icmp .ge 9, 3) := by decide +kernel
theorem d_X2_nextTrial_61 : decode M_X2_nextTrial.2.1 61 = .ok (.iinc 3 (-1), 3) := by decide +kernel
theorem d_X2_nextTrial_64 : decode M_X2_nextTrial.2.1 64 = .ok (.goto (-23), 3) := by decide +kernel
theorem d_X2_nextTrial_67 : decode M_X2_nextTrial.2.1 67 = .ok (.aload_n 0, 1) := by decide +kernel
theorem d_X2_nextTrial_68 : decode M_X2_nextTrial.2.1 68 = .ok (.iload_n 2, 1) := by decide +kernel
theorem d_X2_nextTrial_69 : decode M_X2_nextTrial.2.1 69 = .ok (.iload_n 3, 1) := by decide +kernel
theorem d_X2_nextTrial_70 : decode M_X2_nextTrial.2.1 70 = .ok (.invokevirtual 187, 3) := by decide +kernel
theorem d_X2_nextTrial_73 : decode M_X2_nextTrial.2.1 73 = .ok (.iload_n 2, 1) := by decide +kernel
theorem d_X2_nextTrial_74 : decode M_X2_nextTrial.2.1 74 = .ok (.iconst 1, 1) := by decide +kernel
theorem d_X2_nextTrial_75 : decode M_X2_nextTrial.2.1 75 = .ok (.iadd, 1) := by decide +kernel
theorem d_X2_nextTrial_76 : decode M_X2_nextTrial.2.1 76 = .ok (.istore 4, 2) := by decide +kernel
theorem d_X2_nextTrial_78 : decode M_X2_nextTrial.2.1 78 = .ok (.iload_n 1, 1) := by decide +kernel
theorem d_X2_nextTrial_79 : decode M_X2_nextTrial.2.1 79 = .ok (.iconst 1, 1) := by decide +kernel
theorem d_X2_nextTrial_80 : decode M_X2_nextTrial.2.1 80 = .ok (.isub, 1) := by decide +kernel
theorem d_X2_nextTrial_81 : decode M_X2_nextTrial.2.1 81 = .ok (.istore 5, 2) := by decide +kernel
theorem d_X2_nextTrial_83 : decode M_X2_nextTrial.2.1 83 = .ok (.iload 4, 2) := by decide +kernel
theorem d_X2_nextTrial_85 : decode M_X2_nextTrial.2.1 85 = .ok (.iload 5, 2) := by decide +kernel
theorem d_X2_nextTrial_87 : decode M_X2_nextTrial.2.1 87 = .ok (.if_icmp .ge 20, 3) := by decide +kernel
theorem d_X2_nextTrial_90 : decode M_X2_nextTrial.2.1 90 = .ok (.aload_n 0, 1) := by decide +kernel
theorem d_X2_nextTrial_91 : decode M_X2_nextTrial.2.1 91 = .ok (.iload 4, 2) := by decide +kernel
theorem d_X2_nextTrial_93 : decode M_X2_nextTrial.2.1 93 = .ok (.iload 5, 2) := by decide +kernel
theorem d_X2_nextTrial_95 : decode M_X2_nextTrial.2.1 95 = .ok (.invokevirtual 187, 3) := by decide +kernel
theorem d_X2_nextTrial_98 : decode M_X2_nextTrial.2.1 98 = .ok (.iinc 4 1, 3) := by decide +kernel
theorem d_X2_nextTrial_101 : decode M_X2_nextTrial.2.1 101 = .ok (.iinc 5 (-1), 3) := by decide +kernel
theorem d_X2_nextTrial_104 : decode M_X2_nextTrial.2.1 104 = .ok (.goto (-21), 3) := by decide +kernel
theorem d_X2_nextTrial_107 : decode M_X2_nextTrial.2.1 107 = .ok (.iconst 1, 1) := by decide +kernel
theorem d_X2_nextTrial_108 : decode M_X2_nextTrial.2.1 108 = .ok (.ireturn, 1) := by decide +kernel
set_option maxRecDepth 20000 in
theorem s_X2_nextTrial_0 {d : Nat} {p0 : Int} {G : Mem} {Q : Int → Mem → Prop}  (h : Rn d M_X2_nextTrial zN 4 [(0, (2, 19)), (1, (0, p0)), (2, (0, (p0 - 2)))] [] G Q) : Rn d M_X2_nextTrial zN 0 [(0, (2, 19)), (1, (0, p0))] [] G Q := by
  refine r_iload_n d_X2_nextTrial_0 1 rfl rfl ?_
  refine r_iconst d_X2_nextTrial_1 ?_
  refine r_isub d_X2_nextTrial_2 ?_
  refine r_istore_n (ls1 := [(2, (0, (p0 - 2))), (0, (2, 19)), (1, (0, p0))]) d_X2_nextTrial_3 rfl (by decide) rfl ?_
  exact Rn.sub [1, 2, 0] rfl h
set_option maxRecDepth 20000 in
theorem s_X2_nextTrial_4 {d : Nat} {x1 : Int} {x2 : Int} {G : Mem} {Q : Int → Mem → Prop}  (h : (InR x2) ∧ ((x2 < 0) → Rn d M_X2_nextTrial zN 31 [(0, (2, 19)), (1, (0, x1)), (2, (0, x2))] [] G Q) ∧ (¬ (x2 < 0) → (0 ≤ x2 ∧ x2 < 5) ∧ ((0 ≤ (x2 + 1) ∧ (x2 + 1) < 5) ∧ ((InR (G 32 x2)) ∧ (InR (G 32 (x2 + 1))) ∧ (((G 32 x2) ≤ (G 32 (x2 + 1))) → Rn d M_X2_nextTrial zN 31 [(0, (2, 19)), (1, (0, x1)), (2, (0, x2))] [] G Q) ∧ (¬ ((G 32 x2) ≤ (G 32 (x2 + 1))) → Rn d M_X2_nextTrial zN 4 [(0, (2, 19)), (1, (0, x1)), (2, (0, (x2 + (-1))))] [] G Q))))) : Rn d M_X2_nextTrial zN 4 [(0, (2, 19)), (1, (0, x1)), (2, (0, x2))] [] G Q := by
  refine r_iload_n d_X2_nextTrial_4 2 rfl rfl ?_
  obtain ⟨h1, h⟩ := h
  refine r_if_lt (tgt := 31) d_X2_nextTrial_5 (by decide) h1 (fun c2 => ?_) (fun c2 => ?_)
  · replace h := h.1 c2
    exact h
  · replace h := h.2 c2
    refine r_aload_n d_X2_nextTrial_8 0 rfl rfl ?_
    refine r_getL (v := 32) 2 9 9 rfl d_X2_nextTrial_9 fl_X2_31 (by decide) (bs_ob bs_2) (ly_2_9 bs_2).1 (ly_2_9 bs_2).2.1 ?_
    refine r_iload_n d_X2_nextTrial_12 2 rfl rfl ?_
    obtain ⟨h3, h⟩ := h
    refine r_iaload d_X2_nextTrial_13 (ly_2_9 bs_2).2.2 h3 ?_
    refine r_aload_n d_X2_nextTrial_14 0 rfl rfl ?_
    refine r_getL (v := 32) 2 9 9 rfl d_X2_nextTrial_15 fl_X2_31 (by decide) (bs_ob bs_2) (ly_2_9 bs_2).1 (ly_2_9 bs_2).2.1 ?_
    refine r_iload_n d_X2_nextTrial_18 2 rfl rfl ?_
    refine r_iconst d_X2_nextTrial_19 ?_
    refine r_iadd d_X2_nextTrial_20 ?_
    obtain ⟨h4, h⟩ := h
    refine r_iaload d_X2_nextTrial_21 (ly_2_9 bs_2).2.2 h4 ?_
    obtain ⟨h5, h⟩ := h
    obtain ⟨h6, h⟩ := h
    refine r_icmp_le (tgt := 31) d_X2_nextTrial_22 (by decide) h5 h6 (fun c7 => ?_) (fun c7 => ?_)
    · replace h := h.1 c7
      exact h
    · replace h := h.2 c7
      refine r_iinc (ls1 := [(2, (0, (x2 + (-1)))), (0, (2, 19)), (1, (0, x1))]) d_X2_nextTrial_25 2 rfl (by decide) rfl ?_
      refine r_goto (tgt := 4) d_X2_nextTrial_28 (by decide) ?_
      exact Rn.sub [1, 2, 0] rfl h
set_option maxRecDepth 20000 in
theorem s_X2_nextTrial_31 {d : Nat} {x1 : Int} {x2 : Int} {G : Mem} {Q : Int → Mem → Prop}  (h : (InR x2) ∧ ((0 ≤ x2) → Rn d M_X2_nextTrial zN 41 [(0, (2, 19)), (1, (0, x1)), (2, (0, x2)), (3, (0, (x1 - 1)))] [] G Q) ∧ (¬ (0 ≤ x2) → Q 0 G)) : Rn d M_X2_nextTrial zN 31 [(0, (2, 19)), (1, (0, x1)), (2, (0, x2))] [] G Q := by
  refine r_iload_n d_X2_nextTrial_31 2 rfl rfl ?_
  obtain ⟨h1, h⟩ := h
  refine r_if_ge (tgt := 37) d_X2_nextTrial_32 (by decide) h1 (fun c2 => ?_) (fun c2 => ?_)
  · replace h := h.1 c2
    refine r_iload_n d_X2_nextTrial_37 1 rfl rfl ?_
    refine r_iconst d_X2_nextTrial_38 ?_
    refine r_isub d_X2_nextTrial_39 ?_
    refine r_istore_n (ls1 := [(3, (0, (x1 - 1))), (0, (2, 19)), (1, (0, x1)), (2, (0, x2))]) d_X2_nextTrial_40 rfl (by decide) rfl ?_
    exact Rn.sub [1, 2, 3, 0] rfl h
  · replace h := h.2 c2
    refine r_iconst d_X2_nextTrial_35 ?_
    exact r_zreturn d_X2_nextTrial_36 rfl ⟨rfl, Nat.le_refl _, Nat.le_refl _⟩ (by decide) h
set_option maxRecDepth 20000 in
theorem s_X2_nextTrial_41 {d : Nat} {x1 : Int} {x2 : Int} {x3 : Int} {G : Mem} {Q : Int → Mem → Prop}  (h : (InR x3) ∧ (InR x2) ∧ ((x3 ≤ x2) → Rn d M_X2_nextTrial zN 67 [(0, (2, 19)), (1, (0, x1)), (2, (0, x2)), (3, (0, x3))] [] G Q) ∧ (¬ (x3 ≤ x2) → (0 ≤ x3 ∧ x3 < 5) ∧ ((0 ≤ x2 ∧ x2 < 5) ∧ ((InR (G 32 x3)) ∧ (InR (G 32 x2)) ∧ (((G 32 x2) ≤ (G 32 x3)) → Rn d M_X2_nextTrial zN 67 [(0, (2, 19)), (1, (0, x1)), (2, (0, x2)), (3, (0, x3))] [] G Q) ∧ (¬ ((G 32 x2) ≤ (G 32 x3)) → Rn d M_X2_nextTrial zN 41 [(0, (2, 19)), (1, (0, x1)), (2, (0, x2)), (3, (0, (x3 + (-1))))] [] G Q))))) : Rn d M_X2_nextTrial zN 41 [(0, (2, 19)), (1, (0, x1)), (2, (0, x2)), (3, (0, x3))] [] G Q := by
  refine r_iload_n d_X2_nextTrial_41 3 rfl rfl ?_
  refine r_iload_n d_X2_nextTrial_42 2 rfl rfl ?_
  obtain ⟨h1, h⟩ := h
  obtain ⟨h2, h⟩ := h
  refine r_icmp_le (tgt := 67) d_X2_nextTrial_43 (by decide) h1 h2 (fun c3 => ?_) (fun c3 => ?_)
  · replace h := h.1 c3
    exact h
  · replace h := h.2 c3
    refine r_aload_n d_X2_nextTrial_46 0 rfl rfl ?_
    refine r_getL (v := 32) 2 9 9 rfl d_X2_nextTrial_47 fl_X2_31 (by decide) (bs_ob bs_2) (ly_2_9 bs_2).1 (ly_2_9 bs_2).2.1 ?_
    refine r_iload_n d_X2_nextTrial_50 3 rfl rfl ?_
    obtain ⟨h4, h⟩ := h
    refine r_iaload d_X2_nextTrial_51 (ly_2_9 bs_2).2.2 h4 ?_
    refine r_aload_n d_X2_nextTrial_52 0 rfl rfl ?_
    refine r_getL (v := 32) 2 9 9 rfl d_X2_nextTrial_53 fl_X2_31 (by decide) (bs_ob bs_2) (ly_2_9 bs_2).1 (ly_2_9 bs_2).2.1 ?_
    refine r_iload_n d_X2_nextTrial_56 2 rfl rfl ?_
    obtain ⟨h5, h⟩ := h
    refine r_iaload d_X2_nextTrial_57 (ly_2_9 bs_2).2.2 h5 ?_
    obtain ⟨h6, h⟩ := h
    obtain ⟨h7, h⟩ := h
    refine r_icmp_ge (tgt := 67) d_X2_nextTrial_58 (by decide) h6 h7 (fun c8 => ?_) (fun c8 => ?_)
    · replace h := h.1 c8
      exact h
    · replace h := h.2 c8
      refine r_iinc (ls1 := [(3, (0, (x3 + (-1)))), (0, (2, 19)), (1, (0, x1)), (2, (0, x2))]) d_X2_nextTrial_61 3 rfl (by decide) rfl ?_
      refine r_goto (tgt := 41) d_X2_nextTrial_64 (by decide) ?_
      exact Rn.sub [1, 2, 3, 0] rfl h
set_option maxRecDepth 20000 in
theorem s_X2_nextTrial_67 {d : Nat} {x1 : Int} {x2 : Int} {x3 : Int} {G : Mem} {Q : Int → Mem → Prop}  (h : Ct d M_X2_swapTrials NT 0 0 (some lay) [(2, 19), (0, x2), (0, x3)] G (fun r2 G1 => Rn (d + 1) M_X2_nextTrial zN 83 [(0, (2, 19)), (4, (0, (x2 + 1))), (5, (0, (x1 - 1)))] [] G1 Q)) : Rn (d + 1) M_X2_nextTrial zN 67 [(0, (2, 19)), (1, (0, x1)), (2, (0, x2)), (3, (0, x3))] [] G Q := by
  refine r_aload_n d_X2_nextTrial_67 0 rfl rfl ?_
  refine r_iload_n d_X2_nextTrial_68 2 rfl rfl ?_
  refine r_iload_n d_X2_nextTrial_69 3 rfl rfl ?_
  refine r_callV0 (M' := M_X2_swapTrials) (ci := 2) [(0, x2), (0, x3)] d_X2_nextTrial_70 cl_X2_187 rfl (Nat.le_of_ble_eq_true rfl) (by decide) rfl (bs_ob bs_2) ?_
  refine Ct.mono h (fun r2 G1 h => ?_)
  show Rn _ M_X2_nextTrial zN 73 [(0, (2, 19)), (1, (0, x1)), (2, (0, x2)), (3, (0, x3))] [] G1 Q
  refine r_iload_n d_X2_nextTrial_73 2 rfl rfl ?_
  refine r_iconst d_X2_nextTrial_74 ?_
  refine r_iadd d_X2_nextTrial_75 ?_
  refine r_istore (ls1 := [(4, (0, (x2 + 1))), (0, (2, 19)), (1, (0, x1)), (2, (0, x2)), (3, (0, x3))]) d_X2_nextTrial_76 (by decide) rfl ?_
  refine r_iload_n d_X2_nextTrial_78 2 rfl rfl ?_
  refine r_iconst d_X2_nextTrial_79 ?_
  refine r_isub d_X2_nextTrial_80 ?_
  refine r_istore (ls1 := [(5, (0, (x1 - 1))), (4, (0, (x2 + 1))), (0, (2, 19)), (1, (0, x1)), (2, (0, x2)), (3, (0, x3))]) d_X2_nextTrial_81 (by decide) rfl ?_
  exact Rn.sub [2, 1, 0] rfl h
set_option maxRecDepth 20000 in
theorem s_X2_nextTrial_83 {d : Nat} {x4 : Int} {x5 : Int} {G : Mem} {Q : Int → Mem → Prop}  (h : (InR x4) ∧ (InR x5) ∧ ((x5 ≤ x4) → Q 1 G) ∧ (¬ (x5 ≤ x4) → Ct d M_X2_swapTrials NT 0 0 (some lay) [(2, 19), (0, x4), (0, x5)] G (fun r5 G4 => Rn (d + 1) M_X2_nextTrial zN 83 [(0, (2, 19)), (4, (0, (x4 + 1))), (5, (0, (x5 + (-1))))] [] G4 Q))) : Rn (d + 1) M_X2_nextTrial zN 83 [(0, (2, 19)), (4, (0, x4)), (5, (0, x5))] [] G Q := by
  refine r_iload d_X2_nextTrial_83 1 rfl ?_
  refine r_iload d_X2_nextTrial_85 2 rfl ?_
  obtain ⟨h1, h⟩ := h
  obtain ⟨h2, h⟩ := h
  refine r_icmp_ge (tgt := 107) d_X2_nextTrial_87 (by decide) h1 h2 (fun c3 => ?_) (fun c3 => ?_)
  · replace h := h.1 c3
    refine r_iconst d_X2_nextTrial_107 ?_
    exact r_zreturn d_X2_nextTrial_108 rfl ⟨rfl, Nat.le_refl _, Nat.le_refl _⟩ (by decide) h
  · replace h := h.2 c3
    refine r_aload_n d_X2_nextTrial_90 0 rfl rfl ?_
    refine r_iload d_X2_nextTrial_91 1 rfl ?_
    refine r_iload d_X2_nextTrial_93 2 rfl ?_
    refine r_callV0 (M' := M_X2_swapTrials) (ci := 2) [(0, x4), (0, x5)] d_X2_nextTrial_95 cl_X2_187 rfl (Nat.le_of_ble_eq_true rfl) (by decide) rfl (bs_ob bs_2) ?_
    refine Ct.mono h (fun r5 G4 h => ?_)
    show Rn _ M_X2_nextTrial zN 98 [(0, (2, 19)), (4, (0, x4)), (5, (0, x5))] [] G4 Q
    refine r_iinc (ls1 := [(4, (0, (x4 + 1))), (0, (2, 19)), (5, (0, x5))]) d_X2_nextTrial_98 1 rfl (by decide) rfl ?_
    refine r_iinc (ls1 := [(5, (0, (x5 + (-1)))), (4, (0, (x4 + 1))), (0, (2, 19))]) d_X2_nextTrial_101 2 rfl (by decide) rfl ?_
    refine r_goto (tgt := 83) d_X2_nextTrial_104 (by decide) ?_
    exact Rn.sub [2, 1, 0] rfl h
theorem d_X2_swapTrials_0 : decode M_X2_swapTrials.2.1 0 = .ok (.aload_n 0, 1) := by decide +kernel
theorem d_X2_swapTrials_1 : decode M_X2_swapTrials.2.1 1 = .ok (.getfield 31, 3) := by decide +kernel
theorem d_X2_swapTrials_4 : decode M_X2_swapTrials.2.1 4 = .ok (.iload_n 1, 1) := by decide +kernel
theorem d_X2_swapTrials_5 : decode M_X2_swapTrials.2.1 5 = .ok (.iaload, 1) := by decide +kernel
theorem d_X2_swapTrials_6 : decode M_X2_swapTrials.2.1 6 = .ok (.istore_n 3, 1) := by decide +kernel
theorem d_X2_swapTrials_7 : decode M_X2_swapTrials.2.1 7 = .ok (.aload_n 0, 1) := by decide +kernel
theorem d_X2_swapTrials_8 : decode M_X2_swapTrials.2.1 8 = .ok (.getfield 31, 3) := by decide +kernel
theorem d_X2_swapTrials_11 : decode M_X2_swapTrials.2.1 11 = .ok (.iload_n 1, 1) := by decide +kernel
theorem d_X2_swapTrials_12 : decode M_X2_swapTrials.2.1 12 = .ok (.aload_n 0, 1) := by decide +kernel
theorem d_X2_swapTrials_13 : decode M_X2_swapTrials.2.1 13 = .ok (.getfield 31, 3) := by decide +kernel
theorem d_X2_swapTrials_16 : decode M_X2_swapTrials.2.1 16 = .ok (.iload_n 2, 1) := by decide +kernel
theorem d_X2_swapTrials_17 : decode M_X2_swapTrials.2.1 17 = .ok (.iaload, 1) := by decide +kernel
theorem d_X2_swapTrials_18 : decode M_X2_swapTrials.2.1 18 = .ok (.iastore, 1) := by decide +kernel
theorem d_X2_swapTrials_19 : decode M_X2_swapTrials.2.1 19 = .ok (.aload_n 0, 1) := by decide +kernel
theorem d_X2_swapTrials_20 : decode M_X2_swapTrials.2.1 20 = .ok (.getfield 31, 3) := by decide +kernel
theorem d_X2_swapTrials_23 : decode M_X2_swapTrials.2.1 23 = .ok (.iload_n 2, 1) := by decide +kernel
theorem d_X2_swapTrials_24 : decode M_X2_swapTrials.2.1 24 = .ok (.iload_n 3, 1) := by decide +kernel
theorem d_X2_swapTrials_25 : decode M_X2_swapTrials.2.1 25 = .ok (.iastore, 1) := by decide +kernel
theorem d_X2_swapTrials_26 : decode M_X2_swapTrials.2.1 26 = .ok (.return_, 1) := by decide +kernel
set_option maxRecDepth 20000 in
theorem s_X2_swapTrials_0 {d : Nat} {p0 : Int} {p1 : Int} {G : Mem} {Q : Int → Mem → Prop}  (h : (0 ≤ p0 ∧ p0 < 5) ∧ ((0 ≤ p1 ∧ p1 < 5) ∧ ((∀ G3 : Mem, G3 = st G 32 p0 (G 32 p1) → (∀ G4 : Mem, G4 = st G3 32 p1 (G 32 p0) → Q 0 G4))))) : Rn d M_X2_swapTrials zN 0 [(0, (2, 19)), (1, (0, p0)), (2, (0, p1))] [] G Q := by
  refine r_aload_n d_X2_swapTrials_0 0 rfl rfl ?_
  refine r_getL (v := 32) 2 9 9 rfl d_X2_swapTrials_1 fl_X2_31 (by decide) (bs_ob bs_2) (ly_2_9 bs_2).1 (ly_2_9 bs_2).2.1 ?_
  refine r_iload_n d_X2_swapTrials_4 1 rfl rfl ?_
  obtain ⟨h1, h⟩ := h
  refine r_iaload d_X2_swapTrials_5 (ly_2_9 bs_2).2.2 h1 ?_
  refine r_istore_n (ls1 := [(3, (0, (G 32 p0))), (0, (2, 19)), (1, (0, p0)), (2, (0, p1))]) d_X2_swapTrials_6 rfl (by decide) rfl ?_
  refine r_aload_n d_X2_swapTrials_7 1 rfl rfl ?_
  refine r_getL (v := 32) 2 9 9 rfl d_X2_swapTrials_8 fl_X2_31 (by decide) (bs_ob bs_2) (ly_2_9 bs_2).1 (ly_2_9 bs_2).2.1 ?_
  refine r_iload_n d_X2_swapTrials_11 2 rfl rfl ?_
  refine r_aload_n d_X2_swapTrials_12 1 rfl rfl ?_
  refine r_getL (v := 32) 2 9 9 rfl d_X2_swapTrials_13 fl_X2_31 (by decide) (bs_ob bs_2) (ly_2_9 bs_2).1 (ly_2_9 bs_2).2.1 ?_
  refine r_iload_n d_X2_swapTrials_16 3 rfl rfl ?_
  obtain ⟨h2, h⟩ := h
  refine r_iaload d_X2_swapTrials_17 (ly_2_9 bs_2).2.2 h2 ?_
  obtain ⟨G3, eG3⟩ : ∃ y : Mem, y = st G 32 p0 (G 32 p1) := ⟨_, rfl⟩
  replace h := h G3 eG3
  refine r_iastore d_X2_swapTrials_18 (ly_2_9 bs_2).2.2 h1 ?_
  rw [← eG3]
  refine r_aload_n d_X2_swapTrials_19 1 rfl rfl ?_
  refine r_getL (v := 32) 2 9 9 rfl d_X2_swapTrials_20 fl_X2_31 (by decide) (bs_ob bs_2) (ly_2_9 bs_2).1 (ly_2_9 bs_2).2.1 ?_
  refine r_iload_n d_X2_swapTrials_23 3 rfl rfl ?_
  refine r_iload_n d_X2_swapTrials_24 0 rfl rfl ?_
  obtain ⟨G4, eG4⟩ : ∃ y : Mem, y = st G3 32 p1 (G 32 p0) := ⟨_, rfl⟩
  replace h := h G4 eG4
  refine r_iastore d_X2_swapTrials_25 (ly_2_9 bs_2).2.2 h2 ?_
  rw [← eG4]
  exact r_ret d_X2_swapTrials_26 rfl ⟨rfl, Nat.le_refl _, Nat.le_refl _⟩ h
