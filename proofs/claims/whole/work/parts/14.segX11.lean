theorem d_X11_feed_0 : decode M_X11_feed.2.1 0 = .ok (.aload_n 0, 1) := by decide +kernel
theorem d_X11_feed_1 : decode M_X11_feed.2.1 1 = .ok (.getfield 10, 3) := by decide +kernel
theorem d_X11_feed_4 : decode M_X11_feed.2.1 4 = .ok (.lload_n 1, 1) := by decide +kernel
theorem d_X11_feed_5 : decode M_X11_feed.2.1 5 = .ok (.invokevirtual 94, 3) := by decide +kernel
theorem d_X11_feed_8 : decode M_X11_feed.2.1 8 = .ok (.aload_n 0, 1) := by decide +kernel
theorem d_X11_feed_9 : decode M_X11_feed.2.1 9 = .ok (.getfield 10, 3) := by decide +kernel
theorem d_X11_feed_12 : decode M_X11_feed.2.1 12 = .ok (.lload_n 3, 1) := by decide +kernel
theorem d_X11_feed_13 : decode M_X11_feed.2.1 13 = .ok (.invokevirtual 94, 3) := by decide +kernel
theorem d_X11_feed_16 : decode M_X11_feed.2.1 16 = .ok (.aload_n 0, 1) := by decide +kernel
theorem d_X11_feed_17 : decode M_X11_feed.2.1 17 = .ok (.getfield 10, 3) := by decide +kernel
theorem d_X11_feed_20 : decode M_X11_feed.2.1 20 = .ok (.lload 5, 2) := by decide +kernel
theorem d_X11_feed_22 : decode M_X11_feed.2.1 22 = .ok (.invokevirtual 94, 3) := by decide +kernel
theorem d_X11_feed_25 : decode M_X11_feed.2.1 25 = .ok (.aload_n 0, 1) := by decide +kernel
theorem d_X11_feed_26 : decode M_X11_feed.2.1 26 = .ok (.getfield 10, 3) := by decide +kernel
theorem d_X11_feed_29 : decode M_X11_feed.2.1 29 = .ok (.getfield 98, 3) := by decide +kernel
theorem d_X11_feed_32 : decode M_X11_feed.2.1 32 = .ok (.ireturn, 1) := by decide +kernel
set_option maxRecDepth 20000 in
theorem s_X11_feed_0 {d : Nat} {p0 : Int} {p1 : Int} {p2 : Int} {G : Mem} {Q : Int → Mem → Prop}  (h : Ct d M_X10_put NT 0 0 (some lay) [(2, 1), (1, p0)] G (fun r2 G1 => Ct d M_X10_put NT 0 0 (some lay) [(2, 1), (1, p1)] G1 (fun r4 G3 => Ct d M_X10_put NT 0 0 (some lay) [(2, 1), (1, p2)] G3 (fun r6 G5 => Q (G5 1 1) G5)))) : Rn (d + 1) M_X11_feed zN 0 [(0, (2, 0)), (1, (1, p0)), (3, (1, p1)), (5, (1, p2))] [] G Q := by
  refine r_aload_n d_X11_feed_0 0 rfl rfl ?_
  refine r_getL (v := 1) 11 0 0 rfl d_X11_feed_1 fl_X11_10 (by decide) (bs_ob bs_11) (ly_11_0 bs_11).1 (ly_11_0 bs_11).2.1 ?_
  refine r_lload_n d_X11_feed_4 1 rfl rfl ?_
  refine r_callV0 (M' := M_X10_put) (ci := 10) [(1, p0)] d_X11_feed_5 cl_X11_94 rfl (Nat.le_of_ble_eq_true rfl) (by decide) rfl (bs_ob (ly_11_0 bs_11).2.2) ?_
  refine Ct.mono h (fun r2 G1 h => ?_)
  show Rn _ M_X11_feed zN 8 [(0, (2, 0)), (1, (1, p0)), (3, (1, p1)), (5, (1, p2))] [] G1 Q
  refine r_aload_n d_X11_feed_8 0 rfl rfl ?_
  refine r_getL (v := 1) 11 0 0 rfl d_X11_feed_9 fl_X11_10 (by decide) (bs_ob bs_11) (ly_11_0 bs_11).1 (ly_11_0 bs_11).2.1 ?_
  refine r_lload_n d_X11_feed_12 2 rfl rfl ?_
  refine r_callV0 (M' := M_X10_put) (ci := 10) [(1, p1)] d_X11_feed_13 cl_X11_94 rfl (Nat.le_of_ble_eq_true rfl) (by decide) rfl (bs_ob (ly_11_0 bs_11).2.2) ?_
  refine Ct.mono h (fun r4 G3 h => ?_)
  show Rn _ M_X11_feed zN 16 [(0, (2, 0)), (1, (1, p0)), (3, (1, p1)), (5, (1, p2))] [] G3 Q
  refine r_aload_n d_X11_feed_16 0 rfl rfl ?_
  refine r_getL (v := 1) 11 0 0 rfl d_X11_feed_17 fl_X11_10 (by decide) (bs_ob bs_11) (ly_11_0 bs_11).1 (ly_11_0 bs_11).2.1 ?_
  refine r_lload d_X11_feed_20 3 rfl ?_
  refine r_callV0 (M' := M_X10_put) (ci := 10) [(1, p2)] d_X11_feed_22 cl_X11_94 rfl (Nat.le_of_ble_eq_true rfl) (by decide) rfl (bs_ob (ly_11_0 bs_11).2.2) ?_
  refine Ct.mono h (fun r6 G5 h => ?_)
  show Rn _ M_X11_feed zN 25 [(0, (2, 0)), (1, (1, p0)), (3, (1, p1)), (5, (1, p2))] [] G5 Q
  refine r_aload_n d_X11_feed_25 0 rfl rfl ?_
  refine r_getL (v := 1) 11 0 0 rfl d_X11_feed_26 fl_X11_10 (by decide) (bs_ob bs_11) (ly_11_0 bs_11).1 (ly_11_0 bs_11).2.1 ?_
  refine r_getI 10 1 1 rfl d_X11_feed_29 fl_X11_98 (by decide) (bs_ob (ly_11_0 bs_11).2.2) ?_
  exact r_ireturn d_X11_feed_32 rfl ⟨rfl, Nat.le_refl _, Nat.le_refl _⟩ h
theorem d_X11_cabin_0 : decode M_X11_cabin.2.1 0 = .ok (.aload_n 0, 1) := by decide +kernel
theorem d_X11_cabin_1 : decode M_X11_cabin.2.1 1 = .ok (.getfield 19, 3) := by decide +kernel
theorem d_X11_cabin_4 : decode M_X11_cabin.2.1 4 = .ok (.aload_n 0, 1) := by decide +kernel
theorem d_X11_cabin_5 : decode M_X11_cabin.2.1 5 = .ok (.getfield 10, 3) := by decide +kernel
theorem d_X11_cabin_8 : decode M_X11_cabin.2.1 8 = .ok (.aload_n 0, 1) := by decide +kernel
theorem d_X11_cabin_9 : decode M_X11_cabin.2.1 9 = .ok (.getfield 58, 3) := by decide +kernel
theorem d_X11_cabin_12 : decode M_X11_cabin.2.1 12 = .ok (.invokevirtual 102, 3) := by decide +kernel
theorem d_X11_cabin_15 : decode M_X11_cabin.2.1 15 = .ok (.istore_n 1, 1) := by decide +kernel
theorem d_X11_cabin_16 : decode M_X11_cabin.2.1 16 = .ok (.aload_n 0, 1) := by decide +kernel
theorem d_X11_cabin_17 : decode M_X11_cabin.2.1 17 = .ok (.getfield 10, 3) := by decide +kernel
theorem d_X11_cabin_20 : decode M_X11_cabin.2.1 20 = .ok (.iconst 0, 1) := by decide +kernel
theorem d_X11_cabin_21 : decode M_X11_cabin.2.1 21 = .ok (.putfield 98, 3) := by decide +kernel
theorem d_X11_cabin_24 : decode M_X11_cabin.2.1 24 = .ok (.iload_n 1, 1) := by decide +kernel
theorem d_X11_cabin_25 : decode M_X11_cabin.2.1 25 = .ok (.ifCond .eq 5, 3) := by decide +kernel
theorem d_X11_cabin_28 : decode M_X11_cabin.2.1 28 = .ok (.iload_n 1, 1) := by decide +kernel
theorem d_X11_cabin_29 : decode M_X11_cabin.2.1 29 = .ok (.ireturn, 1) := by decide +kernel
theorem d_X11_cabin_30 : decode M_X11_cabin.2.1 30 = .ok (.aload_n 0, 1) := by decide +kernel
theorem d_X11_cabin_31 : decode M_X11_cabin.2.1 31 = .ok (.getfield 58, 3) := by decide +kernel
theorem d_X11_cabin_34 : decode M_X11_cabin.2.1 34 = .ok (.astore_n 2, 1) := by decide +kernel
theorem d_X11_cabin_35 : decode M_X11_cabin.2.1 35 = .ok (.aload_n 0, 1) := by decide +kernel
theorem d_X11_cabin_36 : decode M_X11_cabin.2.1 36 = .ok (.aload_n 0, 1) := by decide +kernel
theorem d_X11_cabin_37 : decode M_X11_cabin.2.1 37 = .ok (.getfield 54, 3) := by decide +kernel
theorem d_X11_cabin_40 : decode M_X11_cabin.2.1 40 = .ok (.putfield 58, 3) := by decide +kernel
theorem d_X11_cabin_43 : decode M_X11_cabin.2.1 43 = .ok (.aload_n 0, 1) := by decide +kernel
theorem d_X11_cabin_44 : decode M_X11_cabin.2.1 44 = .ok (.aload_n 2, 1) := by decide +kernel
theorem d_X11_cabin_45 : decode M_X11_cabin.2.1 45 = .ok (.putfield 54, 3) := by decide +kernel
theorem d_X11_cabin_48 : decode M_X11_cabin.2.1 48 = .ok (.aload_n 0, 1) := by decide +kernel
theorem d_X11_cabin_49 : decode M_X11_cabin.2.1 49 = .ok (.getfield 64, 3) := by decide +kernel
theorem d_X11_cabin_52 : decode M_X11_cabin.2.1 52 = .ok (.aload_n 0, 1) := by decide +kernel
theorem d_X11_cabin_53 : decode M_X11_cabin.2.1 53 = .ok (.getfield 54, 3) := by decide +kernel
theorem d_X11_cabin_56 : decode M_X11_cabin.2.1 56 = .ok (.invokevirtual 106, 3) := by decide +kernel
theorem d_X11_cabin_59 : decode M_X11_cabin.2.1 59 = .ok (.aload_n 0, 1) := by decide +kernel
theorem d_X11_cabin_60 : decode M_X11_cabin.2.1 60 = .ok (.getfield 71, 3) := by decide +kernel
theorem d_X11_cabin_63 : decode M_X11_cabin.2.1 63 = .ok (.invokevirtual 110, 3) := by decide +kernel
theorem d_X11_cabin_66 : decode M_X11_cabin.2.1 66 = .ok (.aload_n 0, 1) := by decide +kernel
theorem d_X11_cabin_67 : decode M_X11_cabin.2.1 67 = .ok (.getfield 40, 3) := by decide +kernel
theorem d_X11_cabin_70 : decode M_X11_cabin.2.1 70 = .ok (.invokevirtual 113, 3) := by decide +kernel
theorem d_X11_cabin_73 : decode M_X11_cabin.2.1 73 = .ok (.aload_n 0, 1) := by decide +kernel
theorem d_X11_cabin_74 : decode M_X11_cabin.2.1 74 = .ok (.invokevirtual 116, 3) := by decide +kernel
theorem d_X11_cabin_77 : decode M_X11_cabin.2.1 77 = .ok (.iconst 0, 1) := by decide +kernel
theorem d_X11_cabin_78 : decode M_X11_cabin.2.1 78 = .ok (.ireturn, 1) := by decide +kernel
set_option maxRecDepth 20000 in
theorem s_X11_cabin_0 {d : Nat}  {G : Mem} {Q : Int → Mem → Prop}  (h : ∀ b1 : Int, b1 = (G 0 14) → (Bs 1 b1 ∧ Ct d M_X5_read NT 0 0 (some lay) [(2, 3), (2, 1), (2, b1)] G (fun r5 G4 => (∀ G6 : Mem, G6 = st G4 1 1 0 → (InR r5) ∧ ((r5 = 0) → ∀ b9 : Int, b9 = (G6 0 14) → (Bs 1 b9 ∧ ∀ b12 : Int, b12 = (G6 0 13) → (Bs 1 b12 ∧ (∀ G15 : Mem, G15 = st G6 0 14 b12 → (∀ G16 : Mem, G16 = st G15 0 13 b9 → ∀ b17 : Int, b17 = (G16 0 13) → (Bs 1 b17 ∧ Ct d M_X8_begin NT 0 0 (some lay) [(2, 73), (2, b17)] G16 (fun r21 G20 => Ct d M_X9_clear NT 0 0 (some lay) [(2, 81)] G20 (fun r23 G22 => Ct d M_X2_forget NT 0 0 (some lay) [(2, 19)] G22 (fun r25 G24 => Ct d M_X11_forgetPast NT 0 0 (some lay) [(2, 0)] G24 (fun r27 G26 => Q 0 G26)))))))))) ∧ (¬ (r5 = 0) → Q r5 G6))))) : Rn (d + 1) M_X11_cabin zN 0 [(0, (2, 0))] [] G Q := by
  refine r_aload_n d_X11_cabin_0 0 rfl rfl ?_
  refine r_getL (v := 3) 11 1 1 rfl d_X11_cabin_1 fl_X11_19 (by decide) (bs_ob bs_11) (ly_11_1 bs_11).1 (ly_11_1 bs_11).2.1 ?_
  refine r_aload_n d_X11_cabin_4 0 rfl rfl ?_
  refine r_getL (v := 1) 11 0 0 rfl d_X11_cabin_5 fl_X11_10 (by decide) (bs_ob bs_11) (ly_11_0 bs_11).1 (ly_11_0 bs_11).2.1 ?_
  refine r_aload_n d_X11_cabin_8 0 rfl rfl ?_
  obtain ⟨b1, e3⟩ : ∃ y : Int, y = (G 0 14) := ⟨_, rfl⟩
  replace h := h b1 e3
  obtain ⟨h2, h⟩ := h
  refine r_getM 11 14 14 rfl d_X11_cabin_9 fl_X11_58 (by decide) (bs_ob bs_11) e3.symm (bs_nn h2) ?_
  refine r_callV0 (M' := M_X5_read) (ci := 5) [(2, 1), (2, b1)] d_X11_cabin_12 cl_X11_102 rfl (Nat.le_of_ble_eq_true rfl) (by decide) rfl (bs_ob (ly_11_1 bs_11).2.2) ?_
  refine Ct.mono h (fun r5 G4 h => ?_)
  show Rn _ M_X11_cabin zN 15 [(0, (2, 0))] [(0, r5)] G4 Q
  refine r_istore_n (ls1 := [(1, (0, r5)), (0, (2, 0))]) d_X11_cabin_15 rfl (by decide) rfl ?_
  refine r_aload_n d_X11_cabin_16 1 rfl rfl ?_
  refine r_getL (v := 1) 11 0 0 rfl d_X11_cabin_17 fl_X11_10 (by decide) (bs_ob bs_11) (ly_11_0 bs_11).1 (ly_11_0 bs_11).2.1 ?_
  refine r_iconst d_X11_cabin_20 ?_
  obtain ⟨G6, eG6⟩ : ∃ y : Mem, y = st G4 1 1 0 := ⟨_, rfl⟩
  replace h := h G6 eG6
  refine r_putI 10 1 1 rfl d_X11_cabin_21 fl_X11_98 (by decide) nofin_10_1 (bs_ob (ly_11_0 bs_11).2.2) ?_
  rw [← eG6]
  refine r_iload_n d_X11_cabin_24 0 rfl rfl ?_
  obtain ⟨h7, h⟩ := h
  refine r_if_eq (tgt := 30) d_X11_cabin_25 (by decide) h7 (fun c8 => ?_) (fun c8 => ?_)
  · replace h := h.1 c8
    refine r_aload_n d_X11_cabin_30 1 rfl rfl ?_
    obtain ⟨b9, e11⟩ : ∃ y : Int, y = (G6 0 14) := ⟨_, rfl⟩
    replace h := h b9 e11
    obtain ⟨h10, h⟩ := h
    refine r_getM 11 14 14 rfl d_X11_cabin_31 fl_X11_58 (by decide) (bs_ob bs_11) e11.symm (bs_nn h10) ?_
    refine r_astore_n (ls1 := [(2, (2, b9)), (1, (0, r5)), (0, (2, 0))]) d_X11_cabin_34 rfl (by decide) rfl ?_
    refine r_aload_n d_X11_cabin_35 2 rfl rfl ?_
    refine r_aload_n d_X11_cabin_36 2 rfl rfl ?_
    obtain ⟨b12, e14⟩ : ∃ y : Int, y = (G6 0 13) := ⟨_, rfl⟩
    replace h := h b12 e14
    obtain ⟨h13, h⟩ := h
    refine r_getM 11 13 13 rfl d_X11_cabin_37 fl_X11_54 (by decide) (bs_ob bs_11) e14.symm (bs_nn h13) ?_
    obtain ⟨G15, eG15⟩ : ∃ y : Mem, y = st G6 0 14 b12 := ⟨_, rfl⟩
    replace h := h G15 eG15
    refine r_putR 11 14 14 rfl d_X11_cabin_40 fl_X11_58 (by decide) nofin_11_14 (bs_ob bs_11) (bs_nn h13) ?_
    rw [← eG15]
    refine r_aload_n d_X11_cabin_43 2 rfl rfl ?_
    refine r_aload_n d_X11_cabin_44 0 rfl rfl ?_
    obtain ⟨G16, eG16⟩ : ∃ y : Mem, y = st G15 0 13 b9 := ⟨_, rfl⟩
    replace h := h G16 eG16
    refine r_putR 11 13 13 rfl d_X11_cabin_45 fl_X11_54 (by decide) nofin_11_13 (bs_ob bs_11) (bs_nn h10) ?_
    rw [← eG16]
    refine r_aload_n d_X11_cabin_48 2 rfl rfl ?_
    refine r_getL (v := 73) 11 11 11 rfl d_X11_cabin_49 fl_X11_64 (by decide) (bs_ob bs_11) (ly_11_11 bs_11).1 (ly_11_11 bs_11).2.1 ?_
    refine r_aload_n d_X11_cabin_52 2 rfl rfl ?_
    obtain ⟨b17, e19⟩ : ∃ y : Int, y = (G16 0 13) := ⟨_, rfl⟩
    replace h := h b17 e19
    obtain ⟨h18, h⟩ := h
    refine r_getM 11 13 13 rfl d_X11_cabin_53 fl_X11_54 (by decide) (bs_ob bs_11) e19.symm (bs_nn h18) ?_
    refine r_callV0 (M' := M_X8_begin) (ci := 8) [(2, b17)] d_X11_cabin_56 cl_X11_106 rfl (Nat.le_of_ble_eq_true rfl) (by decide) rfl (bs_ob (ly_11_11 bs_11).2.2) ?_
    refine Ct.mono h (fun r21 G20 h => ?_)
    show Rn _ M_X11_cabin zN 59 [(2, (2, b9)), (1, (0, r5)), (0, (2, 0))] [] G20 Q
    refine r_aload_n d_X11_cabin_59 2 rfl rfl ?_
    refine r_getL (v := 81) 11 12 12 rfl d_X11_cabin_60 fl_X11_71 (by decide) (bs_ob bs_11) (ly_11_12 bs_11).1 (ly_11_12 bs_11).2.1 ?_
    refine r_callV0 (M' := M_X9_clear) (ci := 9) [] d_X11_cabin_63 cl_X11_110 rfl (Nat.le_of_ble_eq_true rfl) (by decide) rfl (bs_ob (ly_11_12 bs_11).2.2) ?_
    refine Ct.mono h (fun r23 G22 h => ?_)
    show Rn _ M_X11_cabin zN 66 [(2, (2, b9)), (1, (0, r5)), (0, (2, 0))] [] G22 Q
    refine r_aload_n d_X11_cabin_66 2 rfl rfl ?_
    refine r_getL (v := 19) 11 4 4 rfl d_X11_cabin_67 fl_X11_40 (by decide) (bs_ob bs_11) (ly_11_4 bs_11).1 (ly_11_4 bs_11).2.1 ?_
    refine r_callV0 (M' := M_X2_forget) (ci := 2) [] d_X11_cabin_70 cl_X11_113 rfl (Nat.le_of_ble_eq_true rfl) (by decide) rfl (bs_ob (ly_11_4 bs_11).2.2) ?_
    refine Ct.mono h (fun r25 G24 h => ?_)
    show Rn _ M_X11_cabin zN 73 [(2, (2, b9)), (1, (0, r5)), (0, (2, 0))] [] G24 Q
    refine r_aload_n d_X11_cabin_73 2 rfl rfl ?_
    refine r_callV0 (M' := M_X11_forgetPast) (ci := 11) [] d_X11_cabin_74 cl_X11_116 rfl (Nat.le_of_ble_eq_true rfl) (by decide) rfl (bs_ob bs_11) ?_
    refine Ct.mono h (fun r27 G26 h => ?_)
    show Rn _ M_X11_cabin zN 77 [(2, (2, b9)), (1, (0, r5)), (0, (2, 0))] [] G26 Q
    refine r_iconst d_X11_cabin_77 ?_
    exact r_ireturn d_X11_cabin_78 rfl ⟨rfl, Nat.le_refl _, Nat.le_refl _⟩ h
  · replace h := h.2 c8
    refine r_iload_n d_X11_cabin_28 0 rfl rfl ?_
    exact r_ireturn d_X11_cabin_29 rfl ⟨rfl, Nat.le_refl _, Nat.le_refl _⟩ h
theorem d_X11_sitter_0 : decode M_X11_sitter.2.1 0 = .ok (.aload_n 0, 1) := by decide +kernel
theorem d_X11_sitter_1 : decode M_X11_sitter.2.1 1 = .ok (.iload_n 1, 1) := by decide +kernel
theorem d_X11_sitter_2 : decode M_X11_sitter.2.1 2 = .ok (.invokevirtual 119, 3) := by decide +kernel
theorem d_X11_sitter_5 : decode M_X11_sitter.2.1 5 = .ok (.ifCond .ne 5, 3) := by decide +kernel
theorem d_X11_sitter_8 : decode M_X11_sitter.2.1 8 = .ok (.iconst (-1), 1) := by decide +kernel
theorem d_X11_sitter_9 : decode M_X11_sitter.2.1 9 = .ok (.ireturn, 1) := by decide +kernel
theorem d_X11_sitter_10 : decode M_X11_sitter.2.1 10 = .ok (.aload_n 0, 1) := by decide +kernel
theorem d_X11_sitter_11 : decode M_X11_sitter.2.1 11 = .ok (.getfield 54, 3) := by decide +kernel
theorem d_X11_sitter_14 : decode M_X11_sitter.2.1 14 = .ok (.getfield 123, 3) := by decide +kernel
theorem d_X11_sitter_17 : decode M_X11_sitter.2.1 17 = .ok (.iload_n 1, 1) := by decide +kernel
theorem d_X11_sitter_18 : decode M_X11_sitter.2.1 18 = .ok (.aaload, 1) := by decide +kernel
theorem d_X11_sitter_19 : decode M_X11_sitter.2.1 19 = .ok (.astore_n 3, 1) := by decide +kernel
theorem d_X11_sitter_20 : decode M_X11_sitter.2.1 20 = .ok (.iload_n 2, 1) := by decide +kernel
theorem d_X11_sitter_21 : decode M_X11_sitter.2.1 21 = .ok (.tableswitch 153 0 9 #[55, 60, 65, 75, 103, 113, 118, 123, 133, 143], 55) := by decide +kernel
theorem d_X11_sitter_76 : decode M_X11_sitter.2.1 76 = .ok (.aload_n 3, 1) := by decide +kernel
theorem d_X11_sitter_77 : decode M_X11_sitter.2.1 77 = .ok (.getfield 127, 3) := by decide +kernel
theorem d_X11_sitter_80 : decode M_X11_sitter.2.1 80 = .ok (.ireturn, 1) := by decide +kernel
theorem d_X11_sitter_81 : decode M_X11_sitter.2.1 81 = .ok (.aload_n 3, 1) := by decide +kernel
theorem d_X11_sitter_82 : decode M_X11_sitter.2.1 82 = .ok (.getfield 132, 3) := by decide +kernel
theorem d_X11_sitter_85 : decode M_X11_sitter.2.1 85 = .ok (.ireturn, 1) := by decide +kernel
theorem d_X11_sitter_86 : decode M_X11_sitter.2.1 86 = .ok (.aload_n 0, 1) := by decide +kernel
theorem d_X11_sitter_87 : decode M_X11_sitter.2.1 87 = .ok (.getfield 64, 3) := by decide +kernel
theorem d_X11_sitter_90 : decode M_X11_sitter.2.1 90 = .ok (.getfield 135, 3) := by decide +kernel
theorem d_X11_sitter_93 : decode M_X11_sitter.2.1 93 = .ok (.iload_n 1, 1) := by decide +kernel
theorem d_X11_sitter_94 : decode M_X11_sitter.2.1 94 = .ok (.iaload, 1) := by decide +kernel
theorem d_X11_sitter_95 : decode M_X11_sitter.2.1 95 = .ok (.ireturn, 1) := by decide +kernel
theorem d_X11_sitter_96 : decode M_X11_sitter.2.1 96 = .ok (.aload_n 0, 1) := by decide +kernel
theorem d_X11_sitter_97 : decode M_X11_sitter.2.1 97 = .ok (.getfield 64, 3) := by decide +kernel
theorem d_X11_sitter_100 : decode M_X11_sitter.2.1 100 = .ok (.aload_n 0, 1) := by decide +kernel
theorem d_X11_sitter_101 : decode M_X11_sitter.2.1 101 = .ok (.getfield 54, 3) := by decide +kernel
theorem d_X11_sitter_104 : decode M_X11_sitter.2.1 104 = .ok (.iload_n 1, 1) := by decide +kernel
theorem d_X11_sitter_105 : decode M_X11_sitter.2.1 105 = .ok (.aload_n 0, 1) := by decide +kernel
theorem d_X11_sitter_106 : decode M_X11_sitter.2.1 106 = .ok (.getfield 64, 3) := by decide +kernel
theorem d_X11_sitter_109 : decode M_X11_sitter.2.1 109 = .ok (.getfield 139, 3) := by decide +kernel
theorem d_X11_sitter_112 : decode M_X11_sitter.2.1 112 = .ok (.invokevirtual 142, 3) := by decide +kernel
theorem d_X11_sitter_115 : decode M_X11_sitter.2.1 115 = .ok (.ifCond .eq 7, 3) := by decide +kernel
theorem d_X11_sitter_118 : decode M_X11_sitter.2.1 118 = .ok (.iconst 1, 1) := by decide +kernel
theorem d_X11_sitter_119 : decode M_X11_sitter.2.1 119 = .ok (.goto 4, 3) := by decide +kernel
theorem d_X11_sitter_122 : decode M_X11_sitter.2.1 122 = .ok (.iconst 0, 1) := by decide +kernel
theorem d_X11_sitter_123 : decode M_X11_sitter.2.1 123 = .ok (.ireturn, 1) := by decide +kernel
theorem d_X11_sitter_124 : decode M_X11_sitter.2.1 124 = .ok (.aload_n 0, 1) := by decide +kernel
theorem d_X11_sitter_125 : decode M_X11_sitter.2.1 125 = .ok (.getfield 64, 3) := by decide +kernel
theorem d_X11_sitter_128 : decode M_X11_sitter.2.1 128 = .ok (.getfield 146, 3) := by decide +kernel
theorem d_X11_sitter_131 : decode M_X11_sitter.2.1 131 = .ok (.iload_n 1, 1) := by decide +kernel
theorem d_X11_sitter_132 : decode M_X11_sitter.2.1 132 = .ok (.iaload, 1) := by decide +kernel
theorem d_X11_sitter_133 : decode M_X11_sitter.2.1 133 = .ok (.ireturn, 1) := by decide +kernel
theorem d_X11_sitter_134 : decode M_X11_sitter.2.1 134 = .ok (.aload_n 3, 1) := by decide +kernel
theorem d_X11_sitter_135 : decode M_X11_sitter.2.1 135 = .ok (.invokevirtual 149, 3) := by decide +kernel
theorem d_X11_sitter_138 : decode M_X11_sitter.2.1 138 = .ok (.ireturn, 1) := by decide +kernel
theorem d_X11_sitter_139 : decode M_X11_sitter.2.1 139 = .ok (.aload_n 3, 1) := by decide +kernel
theorem d_X11_sitter_140 : decode M_X11_sitter.2.1 140 = .ok (.invokevirtual 153, 3) := by decide +kernel
theorem d_X11_sitter_143 : decode M_X11_sitter.2.1 143 = .ok (.ireturn, 1) := by decide +kernel
theorem d_X11_sitter_144 : decode M_X11_sitter.2.1 144 = .ok (.aload_n 0, 1) := by decide +kernel
theorem d_X11_sitter_145 : decode M_X11_sitter.2.1 145 = .ok (.getfield 64, 3) := by decide +kernel
theorem d_X11_sitter_148 : decode M_X11_sitter.2.1 148 = .ok (.getfield 156, 3) := by decide +kernel
theorem d_X11_sitter_151 : decode M_X11_sitter.2.1 151 = .ok (.iload_n 1, 1) := by decide +kernel
theorem d_X11_sitter_152 : decode M_X11_sitter.2.1 152 = .ok (.iaload, 1) := by decide +kernel
theorem d_X11_sitter_153 : decode M_X11_sitter.2.1 153 = .ok (.ireturn, 1) := by decide +kernel
theorem d_X11_sitter_154 : decode M_X11_sitter.2.1 154 = .ok (.aload_n 0, 1) := by decide +kernel
theorem d_X11_sitter_155 : decode M_X11_sitter.2.1 155 = .ok (.getfield 64, 3) := by decide +kernel
theorem d_X11_sitter_158 : decode M_X11_sitter.2.1 158 = .ok (.getfield 159, 3) := by decide +kernel
theorem d_X11_sitter_161 : decode M_X11_sitter.2.1 161 = .ok (.iload_n 1, 1) := by decide +kernel
theorem d_X11_sitter_162 : decode M_X11_sitter.2.1 162 = .ok (.iaload, 1) := by decide +kernel
theorem d_X11_sitter_163 : decode M_X11_sitter.2.1 163 = .ok (.ireturn, 1) := by decide +kernel
theorem d_X11_sitter_164 : decode M_X11_sitter.2.1 164 = .ok (.aload_n 0, 1) := by decide +kernel
theorem d_X11_sitter_165 : decode M_X11_sitter.2.1 165 = .ok (.getfield 64, 3) := by decide +kernel
theorem d_X11_sitter_168 : decode M_X11_sitter.2.1 168 = .ok (.getfield 162, 3) := by decide +kernel
theorem d_X11_sitter_171 : decode M_X11_sitter.2.1 171 = .ok (.iload_n 1, 1) := by decide +kernel
theorem d_X11_sitter_172 : decode M_X11_sitter.2.1 172 = .ok (.iaload, 1) := by decide +kernel
theorem d_X11_sitter_173 : decode M_X11_sitter.2.1 173 = .ok (.ireturn, 1) := by decide +kernel
theorem d_X11_sitter_174 : decode M_X11_sitter.2.1 174 = .ok (.iconst (-1), 1) := by decide +kernel
theorem d_X11_sitter_175 : decode M_X11_sitter.2.1 175 = .ok (.ireturn, 1) := by decide +kernel
set_option maxRecDepth 20000 in
theorem s_X11_sitter_0 {d : Nat} {p0 : Int} {p1 : Int} {G : Mem} {Q : Int → Mem → Prop}  (h : Ct d M_X11_known NT 0 0 (some lay) [(2, 0), (0, p0)] G (fun r2 G1 => (InR r2) ∧ ((r2 ≠ 0) → ∀ b5 : Int, b5 = (G1 0 13) → (Bs 1 b5 ∧ (0 ≤ p0 ∧ p0 < 5) ∧ ((InR p1) ∧ ((p1 < 0 ∨ 9 < p1) → Q (-1) G1) ∧ ((p1 = 0) → Q (G1 ((b5 + 13) + p0) 0) G1) ∧ ((p1 = 1) → Q (G1 ((b5 + 13) + p0) 1) G1) ∧ ((p1 = 2) → Q (G1 74 p0) G1) ∧ ((p1 = 3) → ∀ b12 : Int, b12 = (G1 0 13) → (Bs 1 b12 ∧ Ct d M_X8_asleep NT 0 0 (some lay) [(2, 73), (2, b12), (0, p0), (0, (G1 73 7))] G1 (fun r16 G15 => (InR r16) ∧ ((r16 = 0) → Q 0 G15) ∧ (¬ (r16 = 0) → Q 1 G15)))) ∧ ((p1 = 4) → Q (G1 75 p0) G1) ∧ ((p1 = 5) → Ct d M_X7_deep NT 0 0 (some lay) [(2, ((b5 + 13) + p0))] G1 (fun r20 G19 => Q r20 G19)) ∧ ((p1 = 6) → Ct d M_X7_legsLong NT 0 0 (some lay) [(2, ((b5 + 13) + p0))] G1 (fun r22 G21 => Q r22 G21)) ∧ ((p1 = 7) → Q (G1 77 p0) G1) ∧ ((p1 = 8) → Q (G1 78 p0) G1) ∧ ((p1 = 9) → Q (G1 79 p0) G1)))) ∧ (¬ (r2 ≠ 0) → Q (-1) G1))) : Rn (d + 1) M_X11_sitter zN 0 [(0, (2, 0)), (1, (0, p0)), (2, (0, p1))] [] G Q := by
  refine r_aload_n d_X11_sitter_0 0 rfl rfl ?_
  refine r_iload_n d_X11_sitter_1 1 rfl rfl ?_
  refine r_callV0 (M' := M_X11_known) (ci := 11) [(0, p0)] d_X11_sitter_2 cl_X11_119 rfl (Nat.le_of_ble_eq_true rfl) (by decide) rfl (bs_ob bs_11) ?_
  refine Ct.mono h (fun r2 G1 h => ?_)
  show Rn _ M_X11_sitter zN 5 [(0, (2, 0)), (1, (0, p0)), (2, (0, p1))] [(0, r2)] G1 Q
  obtain ⟨h3, h⟩ := h
  refine r_if_ne (tgt := 10) d_X11_sitter_5 (by decide) h3 (fun c4 => ?_) (fun c4 => ?_)
  · replace h := h.1 c4
    refine r_aload_n d_X11_sitter_10 0 rfl rfl ?_
    obtain ⟨b5, e7⟩ : ∃ y : Int, y = (G1 0 13) := ⟨_, rfl⟩
    replace h := h b5 e7
    obtain ⟨h6, h⟩ := h
    refine r_getM 11 13 13 rfl d_X11_sitter_11 fl_X11_54 (by decide) (bs_ob bs_11) e7.symm (bs_nn h6) ?_
    refine r_getL (v := (b5 + 1)) 1 0 0 rfl d_X11_sitter_14 fl_X11_123 (by decide) (bs_ob h6) (ly_1_0 h6).1 (ly_1_0 h6).2.1 ?_
    refine r_iload_n d_X11_sitter_17 1 rfl rfl ?_
    obtain ⟨h8, h⟩ := h
    refine r_aaloadL (v := ((b5 + 13) + p0)) d_X11_sitter_18 (ly_1_0 h6).2.2 (by decide) rfl h8 (el_1_0 h6 h8.1 h8.2).1 (el_1_0 h6 h8.1 h8.2).2.1 ?_
    refine r_astore_n (ls1 := [(3, (2, ((b5 + 13) + p0))), (0, (2, 0)), (1, (0, p0)), (2, (0, p1))]) d_X11_sitter_19 rfl (by decide) rfl ?_
    refine r_iload_n d_X11_sitter_20 3 rfl rfl ?_
    obtain ⟨h9, h⟩ := h
    by_cases c10 : p1 < 0 ∨ 9 < p1
    · replace h := h.1 c10
      refine r_tsOut (tgt := 174) d_X11_sitter_21 h9 c10 (by decide) ?_
      refine r_iconst d_X11_sitter_174 ?_
      exact r_ireturn d_X11_sitter_175 rfl ⟨rfl, Nat.le_refl _, Nat.le_refl _⟩ h
    replace h := h.2
    have c102 : p1 = 0 ∨ p1 = 1 ∨ p1 = 2 ∨ p1 = 3 ∨ p1 = 4 ∨ p1 = 5 ∨ p1 = 6 ∨ p1 = 7 ∨ p1 = 8 ∨ p1 = 9 := by omega
    rcases c102 with c11 | c11 | c11 | c11 | c11 | c11 | c11 | c11 | c11 | c11
    · replace h := h.1 c11
      refine r_tsIn (tgt := 76) (off := 55) (j := 0) d_X11_sitter_21 c11 ⟨by decide, by decide⟩ (by decide) rfl (by decide) ?_
      refine r_aload_n d_X11_sitter_76 0 rfl rfl ?_
      refine r_getI 7 0 0 rfl d_X11_sitter_77 fl_X11_127 (by decide) (bs_ob (el_1_0 h6 h8.1 h8.2).2.2) ?_
      exact r_ireturn d_X11_sitter_80 rfl ⟨rfl, Nat.le_refl _, Nat.le_refl _⟩ h
    · replace h := h.2.1 c11
      refine r_tsIn (tgt := 81) (off := 60) (j := 1) d_X11_sitter_21 c11 ⟨by decide, by decide⟩ (by decide) rfl (by decide) ?_
      refine r_aload_n d_X11_sitter_81 0 rfl rfl ?_
      refine r_getI 7 1 1 rfl d_X11_sitter_82 fl_X11_132 (by decide) (bs_ob (el_1_0 h6 h8.1 h8.2).2.2) ?_
      exact r_ireturn d_X11_sitter_85 rfl ⟨rfl, Nat.le_refl _, Nat.le_refl _⟩ h
    · replace h := h.2.2.1 c11
      refine r_tsIn (tgt := 86) (off := 65) (j := 2) d_X11_sitter_21 c11 ⟨by decide, by decide⟩ (by decide) rfl (by decide) ?_
      refine r_aload_n d_X11_sitter_86 1 rfl rfl ?_
      refine r_getL (v := 73) 11 11 11 rfl d_X11_sitter_87 fl_X11_64 (by decide) (bs_ob bs_11) (ly_11_11 bs_11).1 (ly_11_11 bs_11).2.1 ?_
      refine r_getL (v := 74) 8 0 0 rfl d_X11_sitter_90 fl_X11_135 (by decide) (bs_ob (ly_11_11 bs_11).2.2) (ly_8_0 (ly_11_11 bs_11).2.2).1 (ly_8_0 (ly_11_11 bs_11).2.2).2.1 ?_
      refine r_iload_n d_X11_sitter_93 2 rfl rfl ?_
      refine r_iaload d_X11_sitter_94 (ly_8_0 (ly_11_11 bs_11).2.2).2.2 h8 ?_
      exact r_ireturn d_X11_sitter_95 rfl ⟨rfl, Nat.le_refl _, Nat.le_refl _⟩ h
    · replace h := h.2.2.2.1 c11
      refine r_tsIn (tgt := 96) (off := 75) (j := 3) d_X11_sitter_21 c11 ⟨by decide, by decide⟩ (by decide) rfl (by decide) ?_
      refine r_aload_n d_X11_sitter_96 1 rfl rfl ?_
      refine r_getL (v := 73) 11 11 11 rfl d_X11_sitter_97 fl_X11_64 (by decide) (bs_ob bs_11) (ly_11_11 bs_11).1 (ly_11_11 bs_11).2.1 ?_
      refine r_aload_n d_X11_sitter_100 1 rfl rfl ?_
      obtain ⟨b12, e14⟩ : ∃ y : Int, y = (G1 0 13) := ⟨_, rfl⟩
      replace h := h b12 e14
      obtain ⟨h13, h⟩ := h
      refine r_getM 11 13 13 rfl d_X11_sitter_101 fl_X11_54 (by decide) (bs_ob bs_11) e14.symm (bs_nn h13) ?_
      refine r_iload_n d_X11_sitter_104 2 rfl rfl ?_
      refine r_aload_n d_X11_sitter_105 1 rfl rfl ?_
      refine r_getL (v := 73) 11 11 11 rfl d_X11_sitter_106 fl_X11_64 (by decide) (bs_ob bs_11) (ly_11_11 bs_11).1 (ly_11_11 bs_11).2.1 ?_
      refine r_getI 8 7 7 rfl d_X11_sitter_109 fl_X11_139 (by decide) (bs_ob (ly_11_11 bs_11).2.2) ?_
      refine r_callV0 (M' := M_X8_asleep) (ci := 8) [(2, b12), (0, p0), (0, (G1 73 7))] d_X11_sitter_112 cl_X11_142 rfl (Nat.le_of_ble_eq_true rfl) (by decide) rfl (bs_ob (ly_11_11 bs_11).2.2) ?_
      refine Ct.mono h (fun r16 G15 h => ?_)
      show Rn _ M_X11_sitter zN 115 [(3, (2, ((b5 + 13) + p0))), (0, (2, 0)), (1, (0, p0)), (2, (0, p1))] [(0, r16)] G15 Q
      obtain ⟨h17, h⟩ := h
      refine r_if_eq (tgt := 122) d_X11_sitter_115 (by decide) h17 (fun c18 => ?_) (fun c18 => ?_)
      · replace h := h.1 c18
        refine r_iconst d_X11_sitter_122 ?_
        exact r_ireturn d_X11_sitter_123 rfl ⟨rfl, Nat.le_refl _, Nat.le_refl _⟩ h
      · replace h := h.2 c18
        refine r_iconst d_X11_sitter_118 ?_
        refine r_goto (tgt := 123) d_X11_sitter_119 (by decide) ?_
        exact r_ireturn d_X11_sitter_123 rfl ⟨rfl, Nat.le_refl _, Nat.le_refl _⟩ h
    · replace h := h.2.2.2.2.1 c11
      refine r_tsIn (tgt := 124) (off := 103) (j := 4) d_X11_sitter_21 c11 ⟨by decide, by decide⟩ (by decide) rfl (by decide) ?_
      refine r_aload_n d_X11_sitter_124 1 rfl rfl ?_
      refine r_getL (v := 73) 11 11 11 rfl d_X11_sitter_125 fl_X11_64 (by decide) (bs_ob bs_11) (ly_11_11 bs_11).1 (ly_11_11 bs_11).2.1 ?_
      refine r_getL (v := 75) 8 1 1 rfl d_X11_sitter_128 fl_X11_146 (by decide) (bs_ob (ly_11_11 bs_11).2.2) (ly_8_1 (ly_11_11 bs_11).2.2).1 (ly_8_1 (ly_11_11 bs_11).2.2).2.1 ?_
      refine r_iload_n d_X11_sitter_131 2 rfl rfl ?_
      refine r_iaload d_X11_sitter_132 (ly_8_1 (ly_11_11 bs_11).2.2).2.2 h8 ?_
      exact r_ireturn d_X11_sitter_133 rfl ⟨rfl, Nat.le_refl _, Nat.le_refl _⟩ h
    · replace h := h.2.2.2.2.2.1 c11
      refine r_tsIn (tgt := 134) (off := 113) (j := 5) d_X11_sitter_21 c11 ⟨by decide, by decide⟩ (by decide) rfl (by decide) ?_
      refine r_aload_n d_X11_sitter_134 0 rfl rfl ?_
      refine r_callV0 (M' := M_X7_deep) (ci := 7) [] d_X11_sitter_135 cl_X11_149 rfl (Nat.le_of_ble_eq_true rfl) (by decide) rfl (bs_ob (el_1_0 h6 h8.1 h8.2).2.2) ?_
      refine Ct.mono h (fun r20 G19 h => ?_)
      show Rn _ M_X11_sitter zN 138 [(3, (2, ((b5 + 13) + p0))), (0, (2, 0)), (1, (0, p0)), (2, (0, p1))] [(0, r20)] G19 Q
      exact r_ireturn d_X11_sitter_138 rfl ⟨rfl, Nat.le_refl _, Nat.le_refl _⟩ h
    · replace h := h.2.2.2.2.2.2.1 c11
      refine r_tsIn (tgt := 139) (off := 118) (j := 6) d_X11_sitter_21 c11 ⟨by decide, by decide⟩ (by decide) rfl (by decide) ?_
      refine r_aload_n d_X11_sitter_139 0 rfl rfl ?_
      refine r_callV0 (M' := M_X7_legsLong) (ci := 7) [] d_X11_sitter_140 cl_X11_153 rfl (Nat.le_of_ble_eq_true rfl) (by decide) rfl (bs_ob (el_1_0 h6 h8.1 h8.2).2.2) ?_
      refine Ct.mono h (fun r22 G21 h => ?_)
      show Rn _ M_X11_sitter zN 143 [(3, (2, ((b5 + 13) + p0))), (0, (2, 0)), (1, (0, p0)), (2, (0, p1))] [(0, r22)] G21 Q
      exact r_ireturn d_X11_sitter_143 rfl ⟨rfl, Nat.le_refl _, Nat.le_refl _⟩ h
    · replace h := h.2.2.2.2.2.2.2.1 c11
      refine r_tsIn (tgt := 144) (off := 123) (j := 7) d_X11_sitter_21 c11 ⟨by decide, by decide⟩ (by decide) rfl (by decide) ?_
      refine r_aload_n d_X11_sitter_144 1 rfl rfl ?_
      refine r_getL (v := 73) 11 11 11 rfl d_X11_sitter_145 fl_X11_64 (by decide) (bs_ob bs_11) (ly_11_11 bs_11).1 (ly_11_11 bs_11).2.1 ?_
      refine r_getL (v := 77) 8 3 3 rfl d_X11_sitter_148 fl_X11_156 (by decide) (bs_ob (ly_11_11 bs_11).2.2) (ly_8_3 (ly_11_11 bs_11).2.2).1 (ly_8_3 (ly_11_11 bs_11).2.2).2.1 ?_
      refine r_iload_n d_X11_sitter_151 2 rfl rfl ?_
      refine r_iaload d_X11_sitter_152 (ly_8_3 (ly_11_11 bs_11).2.2).2.2 h8 ?_
      exact r_ireturn d_X11_sitter_153 rfl ⟨rfl, Nat.le_refl _, Nat.le_refl _⟩ h
    · replace h := h.2.2.2.2.2.2.2.2.1 c11
      refine r_tsIn (tgt := 154) (off := 133) (j := 8) d_X11_sitter_21 c11 ⟨by decide, by decide⟩ (by decide) rfl (by decide) ?_
      refine r_aload_n d_X11_sitter_154 1 rfl rfl ?_
      refine r_getL (v := 73) 11 11 11 rfl d_X11_sitter_155 fl_X11_64 (by decide) (bs_ob bs_11) (ly_11_11 bs_11).1 (ly_11_11 bs_11).2.1 ?_
      refine r_getL (v := 78) 8 4 4 rfl d_X11_sitter_158 fl_X11_159 (by decide) (bs_ob (ly_11_11 bs_11).2.2) (ly_8_4 (ly_11_11 bs_11).2.2).1 (ly_8_4 (ly_11_11 bs_11).2.2).2.1 ?_
      refine r_iload_n d_X11_sitter_161 2 rfl rfl ?_
      refine r_iaload d_X11_sitter_162 (ly_8_4 (ly_11_11 bs_11).2.2).2.2 h8 ?_
      exact r_ireturn d_X11_sitter_163 rfl ⟨rfl, Nat.le_refl _, Nat.le_refl _⟩ h
    · replace h := h.2.2.2.2.2.2.2.2.2 c11
      refine r_tsIn (tgt := 164) (off := 143) (j := 9) d_X11_sitter_21 c11 ⟨by decide, by decide⟩ (by decide) rfl (by decide) ?_
      refine r_aload_n d_X11_sitter_164 1 rfl rfl ?_
      refine r_getL (v := 73) 11 11 11 rfl d_X11_sitter_165 fl_X11_64 (by decide) (bs_ob bs_11) (ly_11_11 bs_11).1 (ly_11_11 bs_11).2.1 ?_
      refine r_getL (v := 79) 8 5 5 rfl d_X11_sitter_168 fl_X11_162 (by decide) (bs_ob (ly_11_11 bs_11).2.2) (ly_8_5 (ly_11_11 bs_11).2.2).1 (ly_8_5 (ly_11_11 bs_11).2.2).2.1 ?_
      refine r_iload_n d_X11_sitter_171 2 rfl rfl ?_
      refine r_iaload d_X11_sitter_172 (ly_8_5 (ly_11_11 bs_11).2.2).2.2 h8 ?_
      exact r_ireturn d_X11_sitter_173 rfl ⟨rfl, Nat.le_refl _, Nat.le_refl _⟩ h
  · replace h := h.2 c4
    refine r_iconst d_X11_sitter_8 ?_
    exact r_ireturn d_X11_sitter_9 rfl ⟨rfl, Nat.le_refl _, Nat.le_refl _⟩ h
theorem d_X11_seat_0 : decode M_X11_seat.2.1 0 = .ok (.iload_n 1, 1) := by decide +kernel
theorem d_X11_seat_1 : decode M_X11_seat.2.1 1 = .ok (.ifCond .lt 14, 3) := by decide +kernel
theorem d_X11_seat_4 : decode M_X11_seat.2.1 4 = .ok (.iload_n 1, 1) := by decide +kernel
theorem d_X11_seat_5 : decode M_X11_seat.2.1 5 = .ok (.aload_n 0, 1) := by decide +kernel
theorem d_X11_seat_6 : decode M_X11_seat.2.1 6 = .ok (.getfield 54, 3) := by decide +kernel
theorem d_X11_seat_9 : decode M_X11_seat.2.1 9 = .ok (.getfield 165, 3) := by decide +kernel
theorem d_X11_seat_12 : decode M_X11_seat.2.1 12 = .ok (.if_icmp .lt 5, 3) := by decide +kernel
theorem d_X11_seat_15 : decode M_X11_seat.2.1 15 = .ok (.iconst (-1), 1) := by decide +kernel
theorem d_X11_seat_16 : decode M_X11_seat.2.1 16 = .ok (.ireturn, 1) := by decide +kernel
theorem d_X11_seat_17 : decode M_X11_seat.2.1 17 = .ok (.aload_n 0, 1) := by decide +kernel
theorem d_X11_seat_18 : decode M_X11_seat.2.1 18 = .ok (.getfield 54, 3) := by decide +kernel
theorem d_X11_seat_21 : decode M_X11_seat.2.1 21 = .ok (.getfield 168, 3) := by decide +kernel
theorem d_X11_seat_24 : decode M_X11_seat.2.1 24 = .ok (.iload_n 1, 1) := by decide +kernel
theorem d_X11_seat_25 : decode M_X11_seat.2.1 25 = .ok (.iaload, 1) := by decide +kernel
theorem d_X11_seat_26 : decode M_X11_seat.2.1 26 = .ok (.istore_n 3, 1) := by decide +kernel
theorem d_X11_seat_27 : decode M_X11_seat.2.1 27 = .ok (.iload_n 2, 1) := by decide +kernel
theorem d_X11_seat_28 : decode M_X11_seat.2.1 28 = .ok (.tableswitch 66 0 2 #[28, 30, 40], 28) := by decide +kernel
theorem d_X11_seat_56 : decode M_X11_seat.2.1 56 = .ok (.iload_n 3, 1) := by decide +kernel
theorem d_X11_seat_57 : decode M_X11_seat.2.1 57 = .ok (.ireturn, 1) := by decide +kernel
theorem d_X11_seat_58 : decode M_X11_seat.2.1 58 = .ok (.aload_n 0, 1) := by decide +kernel
theorem d_X11_seat_59 : decode M_X11_seat.2.1 59 = .ok (.getfield 64, 3) := by decide +kernel
theorem d_X11_seat_62 : decode M_X11_seat.2.1 62 = .ok (.getfield 171, 3) := by decide +kernel
theorem d_X11_seat_65 : decode M_X11_seat.2.1 65 = .ok (.iload_n 1, 1) := by decide +kernel
theorem d_X11_seat_66 : decode M_X11_seat.2.1 66 = .ok (.iaload, 1) := by decide +kernel
theorem d_X11_seat_67 : decode M_X11_seat.2.1 67 = .ok (.ireturn, 1) := by decide +kernel
theorem d_X11_seat_68 : decode M_X11_seat.2.1 68 = .ok (.aload_n 0, 1) := by decide +kernel
theorem d_X11_seat_69 : decode M_X11_seat.2.1 69 = .ok (.iload_n 3, 1) := by decide +kernel
theorem d_X11_seat_70 : decode M_X11_seat.2.1 70 = .ok (.invokevirtual 119, 3) := by decide +kernel
theorem d_X11_seat_73 : decode M_X11_seat.2.1 73 = .ok (.ifCond .eq 19, 3) := by decide +kernel
theorem d_X11_seat_76 : decode M_X11_seat.2.1 76 = .ok (.aload_n 0, 1) := by decide +kernel
theorem d_X11_seat_77 : decode M_X11_seat.2.1 77 = .ok (.getfield 64, 3) := by decide +kernel
theorem d_X11_seat_80 : decode M_X11_seat.2.1 80 = .ok (.getfield 146, 3) := by decide +kernel
theorem d_X11_seat_83 : decode M_X11_seat.2.1 83 = .ok (.iload_n 3, 1) := by decide +kernel
theorem d_X11_seat_84 : decode M_X11_seat.2.1 84 = .ok (.iaload, 1) := by decide +kernel
theorem d_X11_seat_85 : decode M_X11_seat.2.1 85 = .ok (.ifCond .ne 7, 3) := by decide +kernel
theorem d_X11_seat_88 : decode M_X11_seat.2.1 88 = .ok (.iconst 1, 1) := by decide +kernel
theorem d_X11_seat_89 : decode M_X11_seat.2.1 89 = .ok (.goto 4, 3) := by decide +kernel
theorem d_X11_seat_92 : decode M_X11_seat.2.1 92 = .ok (.iconst 0, 1) := by decide +kernel
theorem d_X11_seat_93 : decode M_X11_seat.2.1 93 = .ok (.ireturn, 1) := by decide +kernel
theorem d_X11_seat_94 : decode M_X11_seat.2.1 94 = .ok (.iconst (-1), 1) := by decide +kernel
theorem d_X11_seat_95 : decode M_X11_seat.2.1 95 = .ok (.ireturn, 1) := by decide +kernel
set_option maxRecDepth 20000 in
theorem s_X11_seat_0 {d : Nat} {p0 : Int} {p1 : Int} {G : Mem} {Q : Int → Mem → Prop}  (h : (InR p0) ∧ ((p0 < 0) → Q (-1) G) ∧ (¬ (p0 < 0) → ∀ b3 : Int, b3 = (G 0 13) → (Bs 1 b3 ∧ (InR (G b3 6)) ∧ ((p0 < (G b3 6)) → ∀ b8 : Int, b8 = (G 0 13) → (Bs 1 b8 ∧ (0 ≤ p0 ∧ p0 < 5) ∧ ((InR p1) ∧ ((p1 < 0 ∨ 2 < p1) → Q (-1) G) ∧ ((p1 = 0) → Q (G (b8 + 2) p0) G) ∧ ((p1 = 1) → Q (G 80 p0) G) ∧ ((p1 = 2) → Ct d M_X11_known NT 0 0 (some lay) [(2, 0), (0, (G (b8 + 2) p0))] G (fun r16 G15 => (InR r16) ∧ ((r16 = 0) → Q 0 G15) ∧ (¬ (r16 = 0) → (0 ≤ (G (b8 + 2) p0) ∧ (G (b8 + 2) p0) < 5) ∧ ((InR (G15 75 (G (b8 + 2) p0))) ∧ (((G15 75 (G (b8 + 2) p0)) ≠ 0) → Q 0 G15) ∧ (¬ ((G15 75 (G (b8 + 2) p0)) ≠ 0) → Q 1 G15)))))))) ∧ (¬ (p0 < (G b3 6)) → Q (-1) G)))) : Rn (d + 1) M_X11_seat zN 0 [(0, (2, 0)), (1, (0, p0)), (2, (0, p1))] [] G Q := by
  refine r_iload_n d_X11_seat_0 1 rfl rfl ?_
  obtain ⟨h1, h⟩ := h
  refine r_if_lt (tgt := 15) d_X11_seat_1 (by decide) h1 (fun c2 => ?_) (fun c2 => ?_)
  · replace h := h.1 c2
    refine r_iconst d_X11_seat_15 ?_
    exact r_ireturn d_X11_seat_16 rfl ⟨rfl, Nat.le_refl _, Nat.le_refl _⟩ h
  · replace h := h.2 c2
    refine r_iload_n d_X11_seat_4 1 rfl rfl ?_
    refine r_aload_n d_X11_seat_5 0 rfl rfl ?_
    obtain ⟨b3, e5⟩ : ∃ y : Int, y = (G 0 13) := ⟨_, rfl⟩
    replace h := h b3 e5
    obtain ⟨h4, h⟩ := h
    refine r_getM 11 13 13 rfl d_X11_seat_6 fl_X11_54 (by decide) (bs_ob bs_11) e5.symm (bs_nn h4) ?_
    refine r_getI 1 6 6 rfl d_X11_seat_9 fl_X11_165 (by decide) (bs_ob h4) ?_
    obtain ⟨h6, h⟩ := h
    refine r_icmp_lt (tgt := 17) d_X11_seat_12 (by decide) h1 h6 (fun c7 => ?_) (fun c7 => ?_)
    · replace h := h.1 c7
      refine r_aload_n d_X11_seat_17 0 rfl rfl ?_
      obtain ⟨b8, e10⟩ : ∃ y : Int, y = (G 0 13) := ⟨_, rfl⟩
      replace h := h b8 e10
      obtain ⟨h9, h⟩ := h
      refine r_getM 11 13 13 rfl d_X11_seat_18 fl_X11_54 (by decide) (bs_ob bs_11) e10.symm (bs_nn h9) ?_
      refine r_getL (v := (b8 + 2)) 1 1 1 rfl d_X11_seat_21 fl_X11_168 (by decide) (bs_ob h9) (ly_1_1 h9).1 (ly_1_1 h9).2.1 ?_
      refine r_iload_n d_X11_seat_24 1 rfl rfl ?_
      obtain ⟨h11, h⟩ := h
      refine r_iaload d_X11_seat_25 (ly_1_1 h9).2.2 h11 ?_
      refine r_istore_n (ls1 := [(3, (0, (G (b8 + 2) p0))), (0, (2, 0)), (1, (0, p0)), (2, (0, p1))]) d_X11_seat_26 rfl (by decide) rfl ?_
      refine r_iload_n d_X11_seat_27 3 rfl rfl ?_
      obtain ⟨h12, h⟩ := h
      by_cases c13 : p1 < 0 ∨ 2 < p1
      · replace h := h.1 c13
        refine r_tsOut (tgt := 94) d_X11_seat_28 h12 c13 (by decide) ?_
        refine r_iconst d_X11_seat_94 ?_
        exact r_ireturn d_X11_seat_95 rfl ⟨rfl, Nat.le_refl _, Nat.le_refl _⟩ h
      replace h := h.2
      have c132 : p1 = 0 ∨ p1 = 1 ∨ p1 = 2 := by omega
      rcases c132 with c14 | c14 | c14
      · replace h := h.1 c14
        refine r_tsIn (tgt := 56) (off := 28) (j := 0) d_X11_seat_28 c14 ⟨by decide, by decide⟩ (by decide) rfl (by decide) ?_
        refine r_iload_n d_X11_seat_56 0 rfl rfl ?_
        exact r_ireturn d_X11_seat_57 rfl ⟨rfl, Nat.le_refl _, Nat.le_refl _⟩ h
      · replace h := h.2.1 c14
        refine r_tsIn (tgt := 58) (off := 30) (j := 1) d_X11_seat_28 c14 ⟨by decide, by decide⟩ (by decide) rfl (by decide) ?_
        refine r_aload_n d_X11_seat_58 1 rfl rfl ?_
        refine r_getL (v := 73) 11 11 11 rfl d_X11_seat_59 fl_X11_64 (by decide) (bs_ob bs_11) (ly_11_11 bs_11).1 (ly_11_11 bs_11).2.1 ?_
        refine r_getL (v := 80) 8 6 6 rfl d_X11_seat_62 fl_X11_171 (by decide) (bs_ob (ly_11_11 bs_11).2.2) (ly_8_6 (ly_11_11 bs_11).2.2).1 (ly_8_6 (ly_11_11 bs_11).2.2).2.1 ?_
        refine r_iload_n d_X11_seat_65 2 rfl rfl ?_
        refine r_iaload d_X11_seat_66 (ly_8_6 (ly_11_11 bs_11).2.2).2.2 h11 ?_
        exact r_ireturn d_X11_seat_67 rfl ⟨rfl, Nat.le_refl _, Nat.le_refl _⟩ h
      · replace h := h.2.2 c14
        refine r_tsIn (tgt := 68) (off := 40) (j := 2) d_X11_seat_28 c14 ⟨by decide, by decide⟩ (by decide) rfl (by decide) ?_
        refine r_aload_n d_X11_seat_68 1 rfl rfl ?_
        refine r_iload_n d_X11_seat_69 0 rfl rfl ?_
        refine r_callV0 (M' := M_X11_known) (ci := 11) [(0, (G (b8 + 2) p0))] d_X11_seat_70 cl_X11_119 rfl (Nat.le_of_ble_eq_true rfl) (by decide) rfl (bs_ob bs_11) ?_
        refine Ct.mono h (fun r16 G15 h => ?_)
        show Rn _ M_X11_seat zN 73 [(3, (0, (G (b8 + 2) p0))), (0, (2, 0)), (1, (0, p0)), (2, (0, p1))] [(0, r16)] G15 Q
        obtain ⟨h17, h⟩ := h
        refine r_if_eq (tgt := 92) d_X11_seat_73 (by decide) h17 (fun c18 => ?_) (fun c18 => ?_)
        · replace h := h.1 c18
          refine r_iconst d_X11_seat_92 ?_
          exact r_ireturn d_X11_seat_93 rfl ⟨rfl, Nat.le_refl _, Nat.le_refl _⟩ h
        · replace h := h.2 c18
          refine r_aload_n d_X11_seat_76 1 rfl rfl ?_
          refine r_getL (v := 73) 11 11 11 rfl d_X11_seat_77 fl_X11_64 (by decide) (bs_ob bs_11) (ly_11_11 bs_11).1 (ly_11_11 bs_11).2.1 ?_
          refine r_getL (v := 75) 8 1 1 rfl d_X11_seat_80 fl_X11_146 (by decide) (bs_ob (ly_11_11 bs_11).2.2) (ly_8_1 (ly_11_11 bs_11).2.2).1 (ly_8_1 (ly_11_11 bs_11).2.2).2.1 ?_
          refine r_iload_n d_X11_seat_83 0 rfl rfl ?_
          obtain ⟨h19, h⟩ := h
          refine r_iaload d_X11_seat_84 (ly_8_1 (ly_11_11 bs_11).2.2).2.2 h19 ?_
          obtain ⟨h20, h⟩ := h
          refine r_if_ne (tgt := 92) d_X11_seat_85 (by decide) h20 (fun c21 => ?_) (fun c21 => ?_)
          · replace h := h.1 c21
            refine r_iconst d_X11_seat_92 ?_
            exact r_ireturn d_X11_seat_93 rfl ⟨rfl, Nat.le_refl _, Nat.le_refl _⟩ h
          · replace h := h.2 c21
            refine r_iconst d_X11_seat_88 ?_
            refine r_goto (tgt := 93) d_X11_seat_89 (by decide) ?_
            exact r_ireturn d_X11_seat_93 rfl ⟨rfl, Nat.le_refl _, Nat.le_refl _⟩ h
    · replace h := h.2 c7
      refine r_iconst d_X11_seat_15 ?_
      exact r_ireturn d_X11_seat_16 rfl ⟨rfl, Nat.le_refl _, Nat.le_refl _⟩ h
theorem d_X11_shut_0 : decode M_X11_shut.2.1 0 = .ok (.iload_n 1, 1) := by decide +kernel
theorem d_X11_shut_1 : decode M_X11_shut.2.1 1 = .ok (.ifCond .lt 14, 3) := by decide +kernel
theorem d_X11_shut_4 : decode M_X11_shut.2.1 4 = .ok (.iload_n 1, 1) := by decide +kernel
theorem d_X11_shut_5 : decode M_X11_shut.2.1 5 = .ok (.aload_n 0, 1) := by decide +kernel
theorem d_X11_shut_6 : decode M_X11_shut.2.1 6 = .ok (.getfield 54, 3) := by decide +kernel
theorem d_X11_shut_9 : decode M_X11_shut.2.1 9 = .ok (.getfield 174, 3) := by decide +kernel
theorem d_X11_shut_12 : decode M_X11_shut.2.1 12 = .ok (.if_icmp .lt 5, 3) := by decide +kernel
theorem d_X11_shut_15 : decode M_X11_shut.2.1 15 = .ok (.iconst (-1), 1) := by decide +kernel
theorem d_X11_shut_16 : decode M_X11_shut.2.1 16 = .ok (.ireturn, 1) := by decide +kernel
theorem d_X11_shut_17 : decode M_X11_shut.2.1 17 = .ok (.aload_n 0, 1) := by decide +kernel
theorem d_X11_shut_18 : decode M_X11_shut.2.1 18 = .ok (.getfield 54, 3) := by decide +kernel
theorem d_X11_shut_21 : decode M_X11_shut.2.1 21 = .ok (.iload_n 1, 1) := by decide +kernel
theorem d_X11_shut_22 : decode M_X11_shut.2.1 22 = .ok (.invokevirtual 177, 3) := by decide +kernel
theorem d_X11_shut_25 : decode M_X11_shut.2.1 25 = .ok (.ifCond .eq 7, 3) := by decide +kernel
theorem d_X11_shut_28 : decode M_X11_shut.2.1 28 = .ok (.iconst 1, 1) := by decide +kernel
theorem d_X11_shut_29 : decode M_X11_shut.2.1 29 = .ok (.goto 4, 3) := by decide +kernel
theorem d_X11_shut_32 : decode M_X11_shut.2.1 32 = .ok (.iconst 0, 1) := by decide +kernel
theorem d_X11_shut_33 : decode M_X11_shut.2.1 33 = .ok (.ireturn, 1) := by decide +kernel
set_option maxRecDepth 20000 in
theorem s_X11_shut_0 {d : Nat} {p0 : Int} {G : Mem} {Q : Int → Mem → Prop}  (h : (InR p0) ∧ ((p0 < 0) → Q (-1) G) ∧ (¬ (p0 < 0) → ∀ b3 : Int, b3 = (G 0 13) → (Bs 1 b3 ∧ (InR (G b3 7)) ∧ ((p0 < (G b3 7)) → ∀ b8 : Int, b8 = (G 0 13) → (Bs 1 b8 ∧ Ct d M_X1_closed NT 0 0 (some lay) [(2, b8), (0, p0)] G (fun r12 G11 => (InR r12) ∧ ((r12 = 0) → Q 0 G11) ∧ (¬ (r12 = 0) → Q 1 G11)))) ∧ (¬ (p0 < (G b3 7)) → Q (-1) G)))) : Rn (d + 1) M_X11_shut zN 0 [(0, (2, 0)), (1, (0, p0))] [] G Q := by
  refine r_iload_n d_X11_shut_0 1 rfl rfl ?_
  obtain ⟨h1, h⟩ := h
  refine r_if_lt (tgt := 15) d_X11_shut_1 (by decide) h1 (fun c2 => ?_) (fun c2 => ?_)
  · replace h := h.1 c2
    refine r_iconst d_X11_shut_15 ?_
    exact r_ireturn d_X11_shut_16 rfl ⟨rfl, Nat.le_refl _, Nat.le_refl _⟩ h
  · replace h := h.2 c2
    refine r_iload_n d_X11_shut_4 1 rfl rfl ?_
    refine r_aload_n d_X11_shut_5 0 rfl rfl ?_
    obtain ⟨b3, e5⟩ : ∃ y : Int, y = (G 0 13) := ⟨_, rfl⟩
    replace h := h b3 e5
    obtain ⟨h4, h⟩ := h
    refine r_getM 11 13 13 rfl d_X11_shut_6 fl_X11_54 (by decide) (bs_ob bs_11) e5.symm (bs_nn h4) ?_
    refine r_getI 1 7 7 rfl d_X11_shut_9 fl_X11_174 (by decide) (bs_ob h4) ?_
    obtain ⟨h6, h⟩ := h
    refine r_icmp_lt (tgt := 17) d_X11_shut_12 (by decide) h1 h6 (fun c7 => ?_) (fun c7 => ?_)
    · replace h := h.1 c7
      refine r_aload_n d_X11_shut_17 0 rfl rfl ?_
      obtain ⟨b8, e10⟩ : ∃ y : Int, y = (G 0 13) := ⟨_, rfl⟩
      replace h := h b8 e10
      obtain ⟨h9, h⟩ := h
      refine r_getM 11 13 13 rfl d_X11_shut_18 fl_X11_54 (by decide) (bs_ob bs_11) e10.symm (bs_nn h9) ?_
      refine r_iload_n d_X11_shut_21 1 rfl rfl ?_
      refine r_callV0 (M' := M_X1_closed) (ci := 1) [(0, p0)] d_X11_shut_22 cl_X11_177 rfl (Nat.le_of_ble_eq_true rfl) (by decide) rfl (bs_ob h9) ?_
      refine Ct.mono h (fun r12 G11 h => ?_)
      show Rn _ M_X11_shut zN 25 [(0, (2, 0)), (1, (0, p0))] [(0, r12)] G11 Q
      obtain ⟨h13, h⟩ := h
      refine r_if_eq (tgt := 32) d_X11_shut_25 (by decide) h13 (fun c14 => ?_) (fun c14 => ?_)
      · replace h := h.1 c14
        refine r_iconst d_X11_shut_32 ?_
        exact r_ireturn d_X11_shut_33 rfl ⟨rfl, Nat.le_refl _, Nat.le_refl _⟩ h
      · replace h := h.2 c14
        refine r_iconst d_X11_shut_28 ?_
        refine r_goto (tgt := 33) d_X11_shut_29 (by decide) ?_
        exact r_ireturn d_X11_shut_33 rfl ⟨rfl, Nat.le_refl _, Nat.le_refl _⟩ h
    · replace h := h.2 c7
      refine r_iconst d_X11_shut_15 ?_
      exact r_ireturn d_X11_shut_16 rfl ⟨rfl, Nat.le_refl _, Nat.le_refl _⟩ h
theorem d_X11_go_0 : decode M_X11_go.2.1 0 = .ok (.aload_n 0, 1) := by decide +kernel
theorem d_X11_go_1 : decode M_X11_go.2.1 1 = .ok (.iload_n 1, 1) := by decide +kernel
theorem d_X11_go_2 : decode M_X11_go.2.1 2 = .ok (.invokevirtual 119, 3) := by decide +kernel
theorem d_X11_go_5 : decode M_X11_go.2.1 5 = .ok (.ifCond .eq 70, 3) := by decide +kernel
theorem d_X11_go_8 : decode M_X11_go.2.1 8 = .ok (.aload_n 0, 1) := by decide +kernel
theorem d_X11_go_9 : decode M_X11_go.2.1 9 = .ok (.iload_n 2, 1) := by decide +kernel
theorem d_X11_go_10 : decode M_X11_go.2.1 10 = .ok (.invokevirtual 180, 3) := by decide +kernel
theorem d_X11_go_13 : decode M_X11_go.2.1 13 = .ok (.ifCond .eq 62, 3) := by decide +kernel
theorem d_X11_go_16 : decode M_X11_go.2.1 16 = .ok (.aload_n 0, 1) := by decide +kernel
theorem d_X11_go_17 : decode M_X11_go.2.1 17 = .ok (.iload_n 3, 1) := by decide +kernel
theorem d_X11_go_18 : decode M_X11_go.2.1 18 = .ok (.invokevirtual 183, 3) := by decide +kernel
theorem d_X11_go_21 : decode M_X11_go.2.1 21 = .ok (.ifCond .eq 54, 3) := by decide +kernel
theorem d_X11_go_24 : decode M_X11_go.2.1 24 = .ok (.aload_n 0, 1) := by decide +kernel
theorem d_X11_go_25 : decode M_X11_go.2.1 25 = .ok (.getfield 64, 3) := by decide +kernel
theorem d_X11_go_28 : decode M_X11_go.2.1 28 = .ok (.getfield 146, 3) := by decide +kernel
theorem d_X11_go_31 : decode M_X11_go.2.1 31 = .ok (.iload_n 1, 1) := by decide +kernel
theorem d_X11_go_32 : decode M_X11_go.2.1 32 = .ok (.iaload, 1) := by decide +kernel
theorem d_X11_go_33 : decode M_X11_go.2.1 33 = .ok (.ifCond .ne 42, 3) := by decide +kernel
theorem d_X11_go_36 : decode M_X11_go.2.1 36 = .ok (.aload_n 0, 1) := by decide +kernel
theorem d_X11_go_37 : decode M_X11_go.2.1 37 = .ok (.getfield 64, 3) := by decide +kernel
theorem d_X11_go_40 : decode M_X11_go.2.1 40 = .ok (.aload_n 0, 1) := by decide +kernel
theorem d_X11_go_41 : decode M_X11_go.2.1 41 = .ok (.getfield 54, 3) := by decide +kernel
theorem d_X11_go_44 : decode M_X11_go.2.1 44 = .ok (.iload_n 1, 1) := by decide +kernel
theorem d_X11_go_45 : decode M_X11_go.2.1 45 = .ok (.aload_n 0, 1) := by decide +kernel
theorem d_X11_go_46 : decode M_X11_go.2.1 46 = .ok (.getfield 64, 3) := by decide +kernel
theorem d_X11_go_49 : decode M_X11_go.2.1 49 = .ok (.getfield 139, 3) := by decide +kernel
theorem d_X11_go_52 : decode M_X11_go.2.1 52 = .ok (.invokevirtual 142, 3) := by decide +kernel
theorem d_X11_go_55 : decode M_X11_go.2.1 55 = .ok (.ifCond .ne 20, 3) := by decide +kernel
theorem d_X11_go_58 : decode M_X11_go.2.1 58 = .ok (.aload_n 0, 1) := by decide +kernel
theorem d_X11_go_59 : decode M_X11_go.2.1 59 = .ok (.getfield 54, 3) := by decide +kernel
theorem d_X11_go_62 : decode M_X11_go.2.1 62 = .ok (.aload_n 0, 1) := by decide +kernel
theorem d_X11_go_63 : decode M_X11_go.2.1 63 = .ok (.getfield 64, 3) := by decide +kernel
theorem d_X11_go_66 : decode M_X11_go.2.1 66 = .ok (.getfield 139, 3) := by decide +kernel
theorem d_X11_go_69 : decode M_X11_go.2.1 69 = .ok (.invokevirtual 177, 3) := by decide +kernel
theorem d_X11_go_72 : decode M_X11_go.2.1 72 = .ok (.ifCond .eq 5, 3) := by decide +kernel
theorem d_X11_go_75 : decode M_X11_go.2.1 75 = .ok (.iconst (-1), 1) := by decide +kernel
theorem d_X11_go_76 : decode M_X11_go.2.1 76 = .ok (.ireturn, 1) := by decide +kernel
theorem d_X11_go_77 : decode M_X11_go.2.1 77 = .ok (.aload_n 0, 1) := by decide +kernel
theorem d_X11_go_78 : decode M_X11_go.2.1 78 = .ok (.invokevirtual 186, 3) := by decide +kernel
theorem d_X11_go_81 : decode M_X11_go.2.1 81 = .ok (.aload_n 0, 1) := by decide +kernel
theorem d_X11_go_82 : decode M_X11_go.2.1 82 = .ok (.iload_n 1, 1) := by decide +kernel
theorem d_X11_go_83 : decode M_X11_go.2.1 83 = .ok (.iload_n 2, 1) := by decide +kernel
theorem d_X11_go_84 : decode M_X11_go.2.1 84 = .ok (.iload_n 3, 1) := by decide +kernel
theorem d_X11_go_85 : decode M_X11_go.2.1 85 = .ok (.invokevirtual 189, 3) := by decide +kernel
theorem d_X11_go_88 : decode M_X11_go.2.1 88 = .ok (.ifCond .ne 5, 3) := by decide +kernel
theorem d_X11_go_91 : decode M_X11_go.2.1 91 = .ok (.iconst 0, 1) := by decide +kernel
theorem d_X11_go_92 : decode M_X11_go.2.1 92 = .ok (.ireturn, 1) := by decide +kernel
theorem d_X11_go_93 : decode M_X11_go.2.1 93 = .ok (.aload_n 0, 1) := by decide +kernel
theorem d_X11_go_94 : decode M_X11_go.2.1 94 = .ok (.getfield 64, 3) := by decide +kernel
theorem d_X11_go_97 : decode M_X11_go.2.1 97 = .ok (.aload_n 0, 1) := by decide +kernel
theorem d_X11_go_98 : decode M_X11_go.2.1 98 = .ok (.getfield 54, 3) := by decide +kernel
theorem d_X11_go_101 : decode M_X11_go.2.1 101 = .ok (.iload_n 1, 1) := by decide +kernel
theorem d_X11_go_102 : decode M_X11_go.2.1 102 = .ok (.invokevirtual 193, 3) := by decide +kernel
theorem d_X11_go_105 : decode M_X11_go.2.1 105 = .ok (.iconst 1, 1) := by decide +kernel
theorem d_X11_go_106 : decode M_X11_go.2.1 106 = .ok (.ireturn, 1) := by decide +kernel
set_option maxRecDepth 20000 in
theorem s_X11_go_0 {d : Nat} {p0 : Int} {p1 : Int} {p2 : Int} {G : Mem} {Q : Int → Mem → Prop}  (h : Ct d M_X11_known NT 0 0 (some lay) [(2, 0), (0, p0)] G (fun r2 G1 => (InR r2) ∧ ((r2 = 0) → Q (-1) G1) ∧ (¬ (r2 = 0) → Ct d M_X11_rightWays NT 0 0 (some lay) [(2, 0), (0, p1)] G1 (fun r6 G5 => (InR r6) ∧ ((r6 = 0) → Q (-1) G5) ∧ (¬ (r6 = 0) → Ct d M_X11_rightLuck NT 0 0 (some lay) [(2, 0), (0, p2)] G5 (fun r10 G9 => (InR r10) ∧ ((r10 = 0) → Q (-1) G9) ∧ (¬ (r10 = 0) → (0 ≤ p0 ∧ p0 < 5) ∧ ((InR (G9 75 p0)) ∧ (((G9 75 p0) ≠ 0) → Q (-1) G9) ∧ (¬ ((G9 75 p0) ≠ 0) → ∀ b16 : Int, b16 = (G9 0 13) → (Bs 1 b16 ∧ Ct d M_X8_asleep NT 0 0 (some lay) [(2, 73), (2, b16), (0, p0), (0, (G9 73 7))] G9 (fun r20 G19 => (InR r20) ∧ ((r20 ≠ 0) → Q (-1) G19) ∧ (¬ (r20 ≠ 0) → ∀ b23 : Int, b23 = (G19 0 13) → (Bs 1 b23 ∧ Ct d M_X1_closed NT 0 0 (some lay) [(2, b23), (0, (G19 73 7))] G19 (fun r27 G26 => (InR r27) ∧ ((r27 = 0) → Ct d M_X11_keepPast NT 0 0 (some lay) [(2, 0)] G26 (fun r31 G30 => Ct d M_X11_passOut NT 0 0 (some lay) [(2, 0), (0, p0), (0, p1), (0, p2)] G30 (fun r33 G32 => (InR r33) ∧ ((r33 ≠ 0) → ∀ b36 : Int, b36 = (G32 0 13) → (Bs 1 b36 ∧ Ct d M_X8_leave NT 0 0 (some lay) [(2, 73), (2, b36), (0, p0)] G32 (fun r40 G39 => Q 1 G39))) ∧ (¬ (r33 ≠ 0) → Q 0 G32)))) ∧ (¬ (r27 = 0) → Q (-1) G26))))))))))))))) : Rn (d + 1) M_X11_go zN 0 [(0, (2, 0)), (1, (0, p0)), (2, (0, p1)), (3, (0, p2))] [] G Q := by
  refine r_aload_n d_X11_go_0 0 rfl rfl ?_
  refine r_iload_n d_X11_go_1 1 rfl rfl ?_
  refine r_callV0 (M' := M_X11_known) (ci := 11) [(0, p0)] d_X11_go_2 cl_X11_119 rfl (Nat.le_of_ble_eq_true rfl) (by decide) rfl (bs_ob bs_11) ?_
  refine Ct.mono h (fun r2 G1 h => ?_)
  show Rn _ M_X11_go zN 5 [(0, (2, 0)), (1, (0, p0)), (2, (0, p1)), (3, (0, p2))] [(0, r2)] G1 Q
  obtain ⟨h3, h⟩ := h
  refine r_if_eq (tgt := 75) d_X11_go_5 (by decide) h3 (fun c4 => ?_) (fun c4 => ?_)
  · replace h := h.1 c4
    refine r_iconst d_X11_go_75 ?_
    exact r_ireturn d_X11_go_76 rfl ⟨rfl, Nat.le_refl _, Nat.le_refl _⟩ h
  · replace h := h.2 c4
    refine r_aload_n d_X11_go_8 0 rfl rfl ?_
    refine r_iload_n d_X11_go_9 2 rfl rfl ?_
    refine r_callV0 (M' := M_X11_rightWays) (ci := 11) [(0, p1)] d_X11_go_10 cl_X11_180 rfl (Nat.le_of_ble_eq_true rfl) (by decide) rfl (bs_ob bs_11) ?_
    refine Ct.mono h (fun r6 G5 h => ?_)
    show Rn _ M_X11_go zN 13 [(0, (2, 0)), (1, (0, p0)), (2, (0, p1)), (3, (0, p2))] [(0, r6)] G5 Q
    obtain ⟨h7, h⟩ := h
    refine r_if_eq (tgt := 75) d_X11_go_13 (by decide) h7 (fun c8 => ?_) (fun c8 => ?_)
    · replace h := h.1 c8
      refine r_iconst d_X11_go_75 ?_
      exact r_ireturn d_X11_go_76 rfl ⟨rfl, Nat.le_refl _, Nat.le_refl _⟩ h
    · replace h := h.2 c8
      refine r_aload_n d_X11_go_16 0 rfl rfl ?_
      refine r_iload_n d_X11_go_17 3 rfl rfl ?_
      refine r_callV0 (M' := M_X11_rightLuck) (ci := 11) [(0, p2)] d_X11_go_18 cl_X11_183 rfl (Nat.le_of_ble_eq_true rfl) (by decide) rfl (bs_ob bs_11) ?_
      refine Ct.mono h (fun r10 G9 h => ?_)
      show Rn _ M_X11_go zN 21 [(0, (2, 0)), (1, (0, p0)), (2, (0, p1)), (3, (0, p2))] [(0, r10)] G9 Q
      obtain ⟨h11, h⟩ := h
      refine r_if_eq (tgt := 75) d_X11_go_21 (by decide) h11 (fun c12 => ?_) (fun c12 => ?_)
      · replace h := h.1 c12
        refine r_iconst d_X11_go_75 ?_
        exact r_ireturn d_X11_go_76 rfl ⟨rfl, Nat.le_refl _, Nat.le_refl _⟩ h
      · replace h := h.2 c12
        refine r_aload_n d_X11_go_24 0 rfl rfl ?_
        refine r_getL (v := 73) 11 11 11 rfl d_X11_go_25 fl_X11_64 (by decide) (bs_ob bs_11) (ly_11_11 bs_11).1 (ly_11_11 bs_11).2.1 ?_
        refine r_getL (v := 75) 8 1 1 rfl d_X11_go_28 fl_X11_146 (by decide) (bs_ob (ly_11_11 bs_11).2.2) (ly_8_1 (ly_11_11 bs_11).2.2).1 (ly_8_1 (ly_11_11 bs_11).2.2).2.1 ?_
        refine r_iload_n d_X11_go_31 1 rfl rfl ?_
        obtain ⟨h13, h⟩ := h
        refine r_iaload d_X11_go_32 (ly_8_1 (ly_11_11 bs_11).2.2).2.2 h13 ?_
        obtain ⟨h14, h⟩ := h
        refine r_if_ne (tgt := 75) d_X11_go_33 (by decide) h14 (fun c15 => ?_) (fun c15 => ?_)
        · replace h := h.1 c15
          refine r_iconst d_X11_go_75 ?_
          exact r_ireturn d_X11_go_76 rfl ⟨rfl, Nat.le_refl _, Nat.le_refl _⟩ h
        · replace h := h.2 c15
          refine r_aload_n d_X11_go_36 0 rfl rfl ?_
          refine r_getL (v := 73) 11 11 11 rfl d_X11_go_37 fl_X11_64 (by decide) (bs_ob bs_11) (ly_11_11 bs_11).1 (ly_11_11 bs_11).2.1 ?_
          refine r_aload_n d_X11_go_40 0 rfl rfl ?_
          obtain ⟨b16, e18⟩ : ∃ y : Int, y = (G9 0 13) := ⟨_, rfl⟩
          replace h := h b16 e18
          obtain ⟨h17, h⟩ := h
          refine r_getM 11 13 13 rfl d_X11_go_41 fl_X11_54 (by decide) (bs_ob bs_11) e18.symm (bs_nn h17) ?_
          refine r_iload_n d_X11_go_44 1 rfl rfl ?_
          refine r_aload_n d_X11_go_45 0 rfl rfl ?_
          refine r_getL (v := 73) 11 11 11 rfl d_X11_go_46 fl_X11_64 (by decide) (bs_ob bs_11) (ly_11_11 bs_11).1 (ly_11_11 bs_11).2.1 ?_
          refine r_getI 8 7 7 rfl d_X11_go_49 fl_X11_139 (by decide) (bs_ob (ly_11_11 bs_11).2.2) ?_
          refine r_callV0 (M' := M_X8_asleep) (ci := 8) [(2, b16), (0, p0), (0, (G9 73 7))] d_X11_go_52 cl_X11_142 rfl (Nat.le_of_ble_eq_true rfl) (by decide) rfl (bs_ob (ly_11_11 bs_11).2.2) ?_
          refine Ct.mono h (fun r20 G19 h => ?_)
          show Rn _ M_X11_go zN 55 [(0, (2, 0)), (1, (0, p0)), (2, (0, p1)), (3, (0, p2))] [(0, r20)] G19 Q
          obtain ⟨h21, h⟩ := h
          refine r_if_ne (tgt := 75) d_X11_go_55 (by decide) h21 (fun c22 => ?_) (fun c22 => ?_)
          · replace h := h.1 c22
            refine r_iconst d_X11_go_75 ?_
            exact r_ireturn d_X11_go_76 rfl ⟨rfl, Nat.le_refl _, Nat.le_refl _⟩ h
          · replace h := h.2 c22
            refine r_aload_n d_X11_go_58 0 rfl rfl ?_
            obtain ⟨b23, e25⟩ : ∃ y : Int, y = (G19 0 13) := ⟨_, rfl⟩
            replace h := h b23 e25
            obtain ⟨h24, h⟩ := h
            refine r_getM 11 13 13 rfl d_X11_go_59 fl_X11_54 (by decide) (bs_ob bs_11) e25.symm (bs_nn h24) ?_
            refine r_aload_n d_X11_go_62 0 rfl rfl ?_
            refine r_getL (v := 73) 11 11 11 rfl d_X11_go_63 fl_X11_64 (by decide) (bs_ob bs_11) (ly_11_11 bs_11).1 (ly_11_11 bs_11).2.1 ?_
            refine r_getI 8 7 7 rfl d_X11_go_66 fl_X11_139 (by decide) (bs_ob (ly_11_11 bs_11).2.2) ?_
            refine r_callV0 (M' := M_X1_closed) (ci := 1) [(0, (G19 73 7))] d_X11_go_69 cl_X11_177 rfl (Nat.le_of_ble_eq_true rfl) (by decide) rfl (bs_ob h24) ?_
            refine Ct.mono h (fun r27 G26 h => ?_)
            show Rn _ M_X11_go zN 72 [(0, (2, 0)), (1, (0, p0)), (2, (0, p1)), (3, (0, p2))] [(0, r27)] G26 Q
            obtain ⟨h28, h⟩ := h
            refine r_if_eq (tgt := 77) d_X11_go_72 (by decide) h28 (fun c29 => ?_) (fun c29 => ?_)
            · replace h := h.1 c29
              refine r_aload_n d_X11_go_77 0 rfl rfl ?_
              refine r_callV0 (M' := M_X11_keepPast) (ci := 11) [] d_X11_go_78 cl_X11_186 rfl (Nat.le_of_ble_eq_true rfl) (by decide) rfl (bs_ob bs_11) ?_
              refine Ct.mono h (fun r31 G30 h => ?_)
              show Rn _ M_X11_go zN 81 [(0, (2, 0)), (1, (0, p0)), (2, (0, p1)), (3, (0, p2))] [] G30 Q
              refine r_aload_n d_X11_go_81 0 rfl rfl ?_
              refine r_iload_n d_X11_go_82 1 rfl rfl ?_
              refine r_iload_n d_X11_go_83 2 rfl rfl ?_
              refine r_iload_n d_X11_go_84 3 rfl rfl ?_
              refine r_callV0 (M' := M_X11_passOut) (ci := 11) [(0, p0), (0, p1), (0, p2)] d_X11_go_85 cl_X11_189 rfl (Nat.le_of_ble_eq_true rfl) (by decide) rfl (bs_ob bs_11) ?_
              refine Ct.mono h (fun r33 G32 h => ?_)
              show Rn _ M_X11_go zN 88 [(0, (2, 0)), (1, (0, p0)), (2, (0, p1)), (3, (0, p2))] [(0, r33)] G32 Q
              obtain ⟨h34, h⟩ := h
              refine r_if_ne (tgt := 93) d_X11_go_88 (by decide) h34 (fun c35 => ?_) (fun c35 => ?_)
              · replace h := h.1 c35
                refine r_aload_n d_X11_go_93 0 rfl rfl ?_
                refine r_getL (v := 73) 11 11 11 rfl d_X11_go_94 fl_X11_64 (by decide) (bs_ob bs_11) (ly_11_11 bs_11).1 (ly_11_11 bs_11).2.1 ?_
                refine r_aload_n d_X11_go_97 0 rfl rfl ?_
                obtain ⟨b36, e38⟩ : ∃ y : Int, y = (G32 0 13) := ⟨_, rfl⟩
                replace h := h b36 e38
                obtain ⟨h37, h⟩ := h
                refine r_getM 11 13 13 rfl d_X11_go_98 fl_X11_54 (by decide) (bs_ob bs_11) e38.symm (bs_nn h37) ?_
                refine r_iload_n d_X11_go_101 1 rfl rfl ?_
                refine r_callV0 (M' := M_X8_leave) (ci := 8) [(2, b36), (0, p0)] d_X11_go_102 cl_X11_193 rfl (Nat.le_of_ble_eq_true rfl) (by decide) rfl (bs_ob (ly_11_11 bs_11).2.2) ?_
                refine Ct.mono h (fun r40 G39 h => ?_)
                show Rn _ M_X11_go zN 105 [(0, (2, 0)), (1, (0, p0)), (2, (0, p1)), (3, (0, p2))] [] G39 Q
                refine r_iconst d_X11_go_105 ?_
                exact r_ireturn d_X11_go_106 rfl ⟨rfl, Nat.le_refl _, Nat.le_refl _⟩ h
              · replace h := h.2 c35
                refine r_iconst d_X11_go_91 ?_
                exact r_ireturn d_X11_go_92 rfl ⟨rfl, Nat.le_refl _, Nat.le_refl _⟩ h
            · replace h := h.2 c29
              refine r_iconst d_X11_go_75 ?_
              exact r_ireturn d_X11_go_76 rfl ⟨rfl, Nat.le_refl _, Nat.le_refl _⟩ h
theorem d_X11_back_0 : decode M_X11_back.2.1 0 = .ok (.aload_n 0, 1) := by decide +kernel
theorem d_X11_back_1 : decode M_X11_back.2.1 1 = .ok (.iload_n 1, 1) := by decide +kernel
theorem d_X11_back_2 : decode M_X11_back.2.1 2 = .ok (.invokevirtual 119, 3) := by decide +kernel
theorem d_X11_back_5 : decode M_X11_back.2.1 5 = .ok (.ifCond .eq 49, 3) := by decide +kernel
theorem d_X11_back_8 : decode M_X11_back.2.1 8 = .ok (.aload_n 0, 1) := by decide +kernel
theorem d_X11_back_9 : decode M_X11_back.2.1 9 = .ok (.iload_n 2, 1) := by decide +kernel
theorem d_X11_back_10 : decode M_X11_back.2.1 10 = .ok (.invokevirtual 180, 3) := by decide +kernel
theorem d_X11_back_13 : decode M_X11_back.2.1 13 = .ok (.ifCond .eq 41, 3) := by decide +kernel
theorem d_X11_back_16 : decode M_X11_back.2.1 16 = .ok (.aload_n 0, 1) := by decide +kernel
theorem d_X11_back_17 : decode M_X11_back.2.1 17 = .ok (.iload_n 3, 1) := by decide +kernel
theorem d_X11_back_18 : decode M_X11_back.2.1 18 = .ok (.invokevirtual 183, 3) := by decide +kernel
theorem d_X11_back_21 : decode M_X11_back.2.1 21 = .ok (.ifCond .eq 33, 3) := by decide +kernel
theorem d_X11_back_24 : decode M_X11_back.2.1 24 = .ok (.aload_n 0, 1) := by decide +kernel
theorem d_X11_back_25 : decode M_X11_back.2.1 25 = .ok (.getfield 64, 3) := by decide +kernel
theorem d_X11_back_28 : decode M_X11_back.2.1 28 = .ok (.getfield 146, 3) := by decide +kernel
theorem d_X11_back_31 : decode M_X11_back.2.1 31 = .ok (.iload_n 1, 1) := by decide +kernel
theorem d_X11_back_32 : decode M_X11_back.2.1 32 = .ok (.iaload, 1) := by decide +kernel
theorem d_X11_back_33 : decode M_X11_back.2.1 33 = .ok (.iconst (-1), 1) := by decide +kernel
theorem d_X11_back_34 : decode M_X11_back.2.1 34 = .ok (.if_icmp .ne 20, 3) := by decide +kernel
theorem d_X11_back_37 : decode M_X11_back.2.1 37 = .ok (.aload_n 0, 1) := by decide +kernel
theorem d_X11_back_38 : decode M_X11_back.2.1 38 = .ok (.getfield 54, 3) := by decide +kernel
theorem d_X11_back_41 : decode M_X11_back.2.1 41 = .ok (.aload_n 0, 1) := by decide +kernel
theorem d_X11_back_42 : decode M_X11_back.2.1 42 = .ok (.getfield 64, 3) := by decide +kernel
theorem d_X11_back_45 : decode M_X11_back.2.1 45 = .ok (.getfield 139, 3) := by decide +kernel
theorem d_X11_back_48 : decode M_X11_back.2.1 48 = .ok (.invokevirtual 177, 3) := by decide +kernel
theorem d_X11_back_51 : decode M_X11_back.2.1 51 = .ok (.ifCond .eq 5, 3) := by decide +kernel
theorem d_X11_back_54 : decode M_X11_back.2.1 54 = .ok (.iconst (-1), 1) := by decide +kernel
theorem d_X11_back_55 : decode M_X11_back.2.1 55 = .ok (.ireturn, 1) := by decide +kernel
theorem d_X11_back_56 : decode M_X11_back.2.1 56 = .ok (.aload_n 0, 1) := by decide +kernel
theorem d_X11_back_57 : decode M_X11_back.2.1 57 = .ok (.invokevirtual 186, 3) := by decide +kernel
theorem d_X11_back_60 : decode M_X11_back.2.1 60 = .ok (.aload_n 0, 1) := by decide +kernel
theorem d_X11_back_61 : decode M_X11_back.2.1 61 = .ok (.iload_n 1, 1) := by decide +kernel
theorem d_X11_back_62 : decode M_X11_back.2.1 62 = .ok (.iload_n 2, 1) := by decide +kernel
theorem d_X11_back_63 : decode M_X11_back.2.1 63 = .ok (.iload_n 3, 1) := by decide +kernel
theorem d_X11_back_64 : decode M_X11_back.2.1 64 = .ok (.invokevirtual 197, 3) := by decide +kernel
theorem d_X11_back_67 : decode M_X11_back.2.1 67 = .ok (.ifCond .ne 5, 3) := by decide +kernel
theorem d_X11_back_70 : decode M_X11_back.2.1 70 = .ok (.iconst 0, 1) := by decide +kernel
theorem d_X11_back_71 : decode M_X11_back.2.1 71 = .ok (.ireturn, 1) := by decide +kernel
theorem d_X11_back_72 : decode M_X11_back.2.1 72 = .ok (.aload_n 0, 1) := by decide +kernel
theorem d_X11_back_73 : decode M_X11_back.2.1 73 = .ok (.getfield 64, 3) := by decide +kernel
theorem d_X11_back_76 : decode M_X11_back.2.1 76 = .ok (.getfield 146, 3) := by decide +kernel
theorem d_X11_back_79 : decode M_X11_back.2.1 79 = .ok (.iload_n 1, 1) := by decide +kernel
theorem d_X11_back_80 : decode M_X11_back.2.1 80 = .ok (.iconst 0, 1) := by decide +kernel
theorem d_X11_back_81 : decode M_X11_back.2.1 81 = .ok (.iastore, 1) := by decide +kernel
theorem d_X11_back_82 : decode M_X11_back.2.1 82 = .ok (.iconst 1, 1) := by decide +kernel
theorem d_X11_back_83 : decode M_X11_back.2.1 83 = .ok (.ireturn, 1) := by decide +kernel
set_option maxRecDepth 20000 in
theorem s_X11_back_0 {d : Nat} {p0 : Int} {p1 : Int} {p2 : Int} {G : Mem} {Q : Int → Mem → Prop}  (h : Ct d M_X11_known NT 0 0 (some lay) [(2, 0), (0, p0)] G (fun r2 G1 => (InR r2) ∧ ((r2 = 0) → Q (-1) G1) ∧ (¬ (r2 = 0) → Ct d M_X11_rightWays NT 0 0 (some lay) [(2, 0), (0, p1)] G1 (fun r6 G5 => (InR r6) ∧ ((r6 = 0) → Q (-1) G5) ∧ (¬ (r6 = 0) → Ct d M_X11_rightLuck NT 0 0 (some lay) [(2, 0), (0, p2)] G5 (fun r10 G9 => (InR r10) ∧ ((r10 = 0) → Q (-1) G9) ∧ (¬ (r10 = 0) → (0 ≤ p0 ∧ p0 < 5) ∧ ((InR (G9 75 p0)) ∧ (((G9 75 p0) ≠ (-1)) → Q (-1) G9) ∧ (¬ ((G9 75 p0) ≠ (-1)) → ∀ b16 : Int, b16 = (G9 0 13) → (Bs 1 b16 ∧ Ct d M_X1_closed NT 0 0 (some lay) [(2, b16), (0, (G9 73 7))] G9 (fun r20 G19 => (InR r20) ∧ ((r20 = 0) → Ct d M_X11_keepPast NT 0 0 (some lay) [(2, 0)] G19 (fun r24 G23 => Ct d M_X11_passIn NT 0 0 (some lay) [(2, 0), (0, p0), (0, p1), (0, p2)] G23 (fun r26 G25 => (InR r26) ∧ ((r26 ≠ 0) → (∀ G29 : Mem, G29 = st G25 75 p0 0 → Q 1 G29)) ∧ (¬ (r26 ≠ 0) → Q 0 G25)))) ∧ (¬ (r20 = 0) → Q (-1) G19)))))))))))) : Rn (d + 1) M_X11_back zN 0 [(0, (2, 0)), (1, (0, p0)), (2, (0, p1)), (3, (0, p2))] [] G Q := by
  refine r_aload_n d_X11_back_0 0 rfl rfl ?_
  refine r_iload_n d_X11_back_1 1 rfl rfl ?_
  refine r_callV0 (M' := M_X11_known) (ci := 11) [(0, p0)] d_X11_back_2 cl_X11_119 rfl (Nat.le_of_ble_eq_true rfl) (by decide) rfl (bs_ob bs_11) ?_
  refine Ct.mono h (fun r2 G1 h => ?_)
  show Rn _ M_X11_back zN 5 [(0, (2, 0)), (1, (0, p0)), (2, (0, p1)), (3, (0, p2))] [(0, r2)] G1 Q
  obtain ⟨h3, h⟩ := h
  refine r_if_eq (tgt := 54) d_X11_back_5 (by decide) h3 (fun c4 => ?_) (fun c4 => ?_)
  · replace h := h.1 c4
    refine r_iconst d_X11_back_54 ?_
    exact r_ireturn d_X11_back_55 rfl ⟨rfl, Nat.le_refl _, Nat.le_refl _⟩ h
  · replace h := h.2 c4
    refine r_aload_n d_X11_back_8 0 rfl rfl ?_
    refine r_iload_n d_X11_back_9 2 rfl rfl ?_
    refine r_callV0 (M' := M_X11_rightWays) (ci := 11) [(0, p1)] d_X11_back_10 cl_X11_180 rfl (Nat.le_of_ble_eq_true rfl) (by decide) rfl (bs_ob bs_11) ?_
    refine Ct.mono h (fun r6 G5 h => ?_)
    show Rn _ M_X11_back zN 13 [(0, (2, 0)), (1, (0, p0)), (2, (0, p1)), (3, (0, p2))] [(0, r6)] G5 Q
    obtain ⟨h7, h⟩ := h
    refine r_if_eq (tgt := 54) d_X11_back_13 (by decide) h7 (fun c8 => ?_) (fun c8 => ?_)
    · replace h := h.1 c8
      refine r_iconst d_X11_back_54 ?_
      exact r_ireturn d_X11_back_55 rfl ⟨rfl, Nat.le_refl _, Nat.le_refl _⟩ h
    · replace h := h.2 c8
      refine r_aload_n d_X11_back_16 0 rfl rfl ?_
      refine r_iload_n d_X11_back_17 3 rfl rfl ?_
      refine r_callV0 (M' := M_X11_rightLuck) (ci := 11) [(0, p2)] d_X11_back_18 cl_X11_183 rfl (Nat.le_of_ble_eq_true rfl) (by decide) rfl (bs_ob bs_11) ?_
      refine Ct.mono h (fun r10 G9 h => ?_)
      show Rn _ M_X11_back zN 21 [(0, (2, 0)), (1, (0, p0)), (2, (0, p1)), (3, (0, p2))] [(0, r10)] G9 Q
      obtain ⟨h11, h⟩ := h
      refine r_if_eq (tgt := 54) d_X11_back_21 (by decide) h11 (fun c12 => ?_) (fun c12 => ?_)
      · replace h := h.1 c12
        refine r_iconst d_X11_back_54 ?_
        exact r_ireturn d_X11_back_55 rfl ⟨rfl, Nat.le_refl _, Nat.le_refl _⟩ h
      · replace h := h.2 c12
        refine r_aload_n d_X11_back_24 0 rfl rfl ?_
        refine r_getL (v := 73) 11 11 11 rfl d_X11_back_25 fl_X11_64 (by decide) (bs_ob bs_11) (ly_11_11 bs_11).1 (ly_11_11 bs_11).2.1 ?_
        refine r_getL (v := 75) 8 1 1 rfl d_X11_back_28 fl_X11_146 (by decide) (bs_ob (ly_11_11 bs_11).2.2) (ly_8_1 (ly_11_11 bs_11).2.2).1 (ly_8_1 (ly_11_11 bs_11).2.2).2.1 ?_
        refine r_iload_n d_X11_back_31 1 rfl rfl ?_
        obtain ⟨h13, h⟩ := h
        refine r_iaload d_X11_back_32 (ly_8_1 (ly_11_11 bs_11).2.2).2.2 h13 ?_
        refine r_iconst d_X11_back_33 ?_
        obtain ⟨h14, h⟩ := h
        refine r_icmp_ne (tgt := 54) d_X11_back_34 (by decide) h14 ⟨by decide, by decide⟩ (fun c15 => ?_) (fun c15 => ?_)
        · replace h := h.1 c15
          refine r_iconst d_X11_back_54 ?_
          exact r_ireturn d_X11_back_55 rfl ⟨rfl, Nat.le_refl _, Nat.le_refl _⟩ h
        · replace h := h.2 c15
          refine r_aload_n d_X11_back_37 0 rfl rfl ?_
          obtain ⟨b16, e18⟩ : ∃ y : Int, y = (G9 0 13) := ⟨_, rfl⟩
          replace h := h b16 e18
          obtain ⟨h17, h⟩ := h
          refine r_getM 11 13 13 rfl d_X11_back_38 fl_X11_54 (by decide) (bs_ob bs_11) e18.symm (bs_nn h17) ?_
          refine r_aload_n d_X11_back_41 0 rfl rfl ?_
          refine r_getL (v := 73) 11 11 11 rfl d_X11_back_42 fl_X11_64 (by decide) (bs_ob bs_11) (ly_11_11 bs_11).1 (ly_11_11 bs_11).2.1 ?_
          refine r_getI 8 7 7 rfl d_X11_back_45 fl_X11_139 (by decide) (bs_ob (ly_11_11 bs_11).2.2) ?_
          refine r_callV0 (M' := M_X1_closed) (ci := 1) [(0, (G9 73 7))] d_X11_back_48 cl_X11_177 rfl (Nat.le_of_ble_eq_true rfl) (by decide) rfl (bs_ob h17) ?_
          refine Ct.mono h (fun r20 G19 h => ?_)
          show Rn _ M_X11_back zN 51 [(0, (2, 0)), (1, (0, p0)), (2, (0, p1)), (3, (0, p2))] [(0, r20)] G19 Q
          obtain ⟨h21, h⟩ := h
          refine r_if_eq (tgt := 56) d_X11_back_51 (by decide) h21 (fun c22 => ?_) (fun c22 => ?_)
          · replace h := h.1 c22
            refine r_aload_n d_X11_back_56 0 rfl rfl ?_
            refine r_callV0 (M' := M_X11_keepPast) (ci := 11) [] d_X11_back_57 cl_X11_186 rfl (Nat.le_of_ble_eq_true rfl) (by decide) rfl (bs_ob bs_11) ?_
            refine Ct.mono h (fun r24 G23 h => ?_)
            show Rn _ M_X11_back zN 60 [(0, (2, 0)), (1, (0, p0)), (2, (0, p1)), (3, (0, p2))] [] G23 Q
            refine r_aload_n d_X11_back_60 0 rfl rfl ?_
            refine r_iload_n d_X11_back_61 1 rfl rfl ?_
            refine r_iload_n d_X11_back_62 2 rfl rfl ?_
            refine r_iload_n d_X11_back_63 3 rfl rfl ?_
            refine r_callV0 (M' := M_X11_passIn) (ci := 11) [(0, p0), (0, p1), (0, p2)] d_X11_back_64 cl_X11_197 rfl (Nat.le_of_ble_eq_true rfl) (by decide) rfl (bs_ob bs_11) ?_
            refine Ct.mono h (fun r26 G25 h => ?_)
            show Rn _ M_X11_back zN 67 [(0, (2, 0)), (1, (0, p0)), (2, (0, p1)), (3, (0, p2))] [(0, r26)] G25 Q
            obtain ⟨h27, h⟩ := h
            refine r_if_ne (tgt := 72) d_X11_back_67 (by decide) h27 (fun c28 => ?_) (fun c28 => ?_)
            · replace h := h.1 c28
              refine r_aload_n d_X11_back_72 0 rfl rfl ?_
              refine r_getL (v := 73) 11 11 11 rfl d_X11_back_73 fl_X11_64 (by decide) (bs_ob bs_11) (ly_11_11 bs_11).1 (ly_11_11 bs_11).2.1 ?_
              refine r_getL (v := 75) 8 1 1 rfl d_X11_back_76 fl_X11_146 (by decide) (bs_ob (ly_11_11 bs_11).2.2) (ly_8_1 (ly_11_11 bs_11).2.2).1 (ly_8_1 (ly_11_11 bs_11).2.2).2.1 ?_
              refine r_iload_n d_X11_back_79 1 rfl rfl ?_
              refine r_iconst d_X11_back_80 ?_
              obtain ⟨G29, eG29⟩ : ∃ y : Mem, y = st G25 75 p0 0 := ⟨_, rfl⟩
              replace h := h G29 eG29
              refine r_iastore d_X11_back_81 (ly_8_1 (ly_11_11 bs_11).2.2).2.2 h13 ?_
              rw [← eG29]
              refine r_iconst d_X11_back_82 ?_
              exact r_ireturn d_X11_back_83 rfl ⟨rfl, Nat.le_refl _, Nat.le_refl _⟩ h
            · replace h := h.2 c28
              refine r_iconst d_X11_back_70 ?_
              exact r_ireturn d_X11_back_71 rfl ⟨rfl, Nat.le_refl _, Nat.le_refl _⟩ h
          · replace h := h.2 c22
            refine r_iconst d_X11_back_54 ?_
            exact r_ireturn d_X11_back_55 rfl ⟨rfl, Nat.le_refl _, Nat.le_refl _⟩ h
theorem d_X11_undo_0 : decode M_X11_undo.2.1 0 = .ok (.aload_n 0, 1) := by decide +kernel
theorem d_X11_undo_1 : decode M_X11_undo.2.1 1 = .ok (.getfield 200, 3) := by decide +kernel
theorem d_X11_undo_4 : decode M_X11_undo.2.1 4 = .ok (.ifCond .ne 5, 3) := by decide +kernel
theorem d_X11_undo_7 : decode M_X11_undo.2.1 7 = .ok (.iconst 0, 1) := by decide +kernel
theorem d_X11_undo_8 : decode M_X11_undo.2.1 8 = .ok (.ireturn, 1) := by decide +kernel
theorem d_X11_undo_9 : decode M_X11_undo.2.1 9 = .ok (.aload_n 0, 1) := by decide +kernel
theorem d_X11_undo_10 : decode M_X11_undo.2.1 10 = .ok (.aload_n 0, 1) := by decide +kernel
theorem d_X11_undo_11 : decode M_X11_undo.2.1 11 = .ok (.getfield 203, 3) := by decide +kernel
theorem d_X11_undo_14 : decode M_X11_undo.2.1 14 = .ok (.bipush 12, 2) := by decide +kernel
theorem d_X11_undo_16 : decode M_X11_undo.2.1 16 = .ok (.iadd, 1) := by decide +kernel
theorem d_X11_undo_17 : decode M_X11_undo.2.1 17 = .ok (.iconst 1, 1) := by decide +kernel
theorem d_X11_undo_18 : decode M_X11_undo.2.1 18 = .ok (.isub, 1) := by decide +kernel
theorem d_X11_undo_19 : decode M_X11_undo.2.1 19 = .ok (.bipush 12, 2) := by decide +kernel
theorem d_X11_undo_21 : decode M_X11_undo.2.1 21 = .ok (.irem, 1) := by decide +kernel
theorem d_X11_undo_22 : decode M_X11_undo.2.1 22 = .ok (.putfield 203, 3) := by decide +kernel
theorem d_X11_undo_25 : decode M_X11_undo.2.1 25 = .ok (.aload_n 0, 1) := by decide +kernel
theorem d_X11_undo_26 : decode M_X11_undo.2.1 26 = .ok (.dup, 1) := by decide +kernel
theorem d_X11_undo_27 : decode M_X11_undo.2.1 27 = .ok (.getfield 200, 3) := by decide +kernel
theorem d_X11_undo_30 : decode M_X11_undo.2.1 30 = .ok (.iconst 1, 1) := by decide +kernel
theorem d_X11_undo_31 : decode M_X11_undo.2.1 31 = .ok (.isub, 1) := by decide +kernel
theorem d_X11_undo_32 : decode M_X11_undo.2.1 32 = .ok (.putfield 200, 3) := by decide +kernel
theorem d_X11_undo_35 : decode M_X11_undo.2.1 35 = .ok (.aload_n 0, 1) := by decide +kernel
theorem d_X11_undo_36 : decode M_X11_undo.2.1 36 = .ok (.getfield 64, 3) := by decide +kernel
theorem d_X11_undo_39 : decode M_X11_undo.2.1 39 = .ok (.aload_n 0, 1) := by decide +kernel
theorem d_X11_undo_40 : decode M_X11_undo.2.1 40 = .ok (.getfield 75, 3) := by decide +kernel
theorem d_X11_undo_43 : decode M_X11_undo.2.1 43 = .ok (.aload_n 0, 1) := by decide +kernel
theorem d_X11_undo_44 : decode M_X11_undo.2.1 44 = .ok (.getfield 203, 3) := by decide +kernel
theorem d_X11_undo_47 : decode M_X11_undo.2.1 47 = .ok (.aaload, 1) := by decide +kernel
theorem d_X11_undo_48 : decode M_X11_undo.2.1 48 = .ok (.invokevirtual 206, 3) := by decide +kernel
theorem d_X11_undo_51 : decode M_X11_undo.2.1 51 = .ok (.iconst 1, 1) := by decide +kernel
theorem d_X11_undo_52 : decode M_X11_undo.2.1 52 = .ok (.ireturn, 1) := by decide +kernel
set_option maxRecDepth 20000 in
theorem s_X11_undo_0 {d : Nat}  {G : Mem} {Q : Int → Mem → Prop}  (h : (InR (G 0 16)) ∧ (((G 0 16) ≠ 0) → (InR (((G 0 15) + 12) - 1)) ∧ ((∀ G4 : Mem, G4 = st G 0 15 (Int.tmod (((G 0 15) + 12) - 1) 12) → (∀ G5 : Mem, G5 = st G4 0 16 ((G4 0 16) - 1) → (0 ≤ (G5 0 15) ∧ (G5 0 15) < 12) ∧ (Ct d M_X8_take NT 0 0 (some lay) [(2, 73), (2, (87 + 8 * (G5 0 15)))] G5 (fun r8 G7 => Q 1 G7)))))) ∧ (¬ ((G 0 16) ≠ 0) → Q 0 G)) : Rn (d + 1) M_X11_undo zN 0 [(0, (2, 0))] [] G Q := by
  refine r_aload_n d_X11_undo_0 0 rfl rfl ?_
  refine r_getI 11 16 16 rfl d_X11_undo_1 fl_X11_200 (by decide) (bs_ob bs_11) ?_
  obtain ⟨h1, h⟩ := h
  refine r_if_ne (tgt := 9) d_X11_undo_4 (by decide) h1 (fun c2 => ?_) (fun c2 => ?_)
  · replace h := h.1 c2
    refine r_aload_n d_X11_undo_9 0 rfl rfl ?_
    refine r_aload_n d_X11_undo_10 0 rfl rfl ?_
    refine r_getI 11 15 15 rfl d_X11_undo_11 fl_X11_203 (by decide) (bs_ob bs_11) ?_
    refine r_bipush d_X11_undo_14 (by decide +kernel) ?_
    refine r_iadd d_X11_undo_16 ?_
    refine r_iconst d_X11_undo_17 ?_
    refine r_isub d_X11_undo_18 ?_
    refine r_bipush d_X11_undo_19 (by decide +kernel) ?_
    obtain ⟨h3, h⟩ := h
    refine r_irem d_X11_undo_21 h3 ⟨by decide, ⟨by decide, by decide⟩⟩ ?_
    obtain ⟨G4, eG4⟩ : ∃ y : Mem, y = st G 0 15 (Int.tmod (((G 0 15) + 12) - 1) 12) := ⟨_, rfl⟩
    replace h := h G4 eG4
    refine r_putI 11 15 15 rfl d_X11_undo_22 fl_X11_203 (by decide) nofin_11_15 (bs_ob bs_11) ?_
    rw [← eG4]
    refine r_aload_n d_X11_undo_25 0 rfl rfl ?_
    refine r_dup 2 rfl (by decide) d_X11_undo_26 ?_
    refine r_getI 11 16 16 rfl d_X11_undo_27 fl_X11_200 (by decide) (bs_ob bs_11) ?_
    refine r_iconst d_X11_undo_30 ?_
    refine r_isub d_X11_undo_31 ?_
    obtain ⟨G5, eG5⟩ : ∃ y : Mem, y = st G4 0 16 ((G4 0 16) - 1) := ⟨_, rfl⟩
    replace h := h G5 eG5
    refine r_putI 11 16 16 rfl d_X11_undo_32 fl_X11_200 (by decide) nofin_11_16 (bs_ob bs_11) ?_
    rw [← eG5]
    refine r_aload_n d_X11_undo_35 0 rfl rfl ?_
    refine r_getL (v := 73) 11 11 11 rfl d_X11_undo_36 fl_X11_64 (by decide) (bs_ob bs_11) (ly_11_11 bs_11).1 (ly_11_11 bs_11).2.1 ?_
    refine r_aload_n d_X11_undo_39 0 rfl rfl ?_
    refine r_getL (v := 86) 11 6 6 rfl d_X11_undo_40 fl_X11_75 (by decide) (bs_ob bs_11) (ly_11_6 bs_11).1 (ly_11_6 bs_11).2.1 ?_
    refine r_aload_n d_X11_undo_43 0 rfl rfl ?_
    refine r_getI 11 15 15 rfl d_X11_undo_44 fl_X11_203 (by decide) (bs_ob bs_11) ?_
    obtain ⟨h6, h⟩ := h
    refine r_aaloadL (v := (87 + 8 * (G5 0 15))) d_X11_undo_47 (ly_11_6 bs_11).2.2 (by decide) rfl h6 (el_11_6 bs_11 h6.1 h6.2).1 (el_11_6 bs_11 h6.1 h6.2).2.1 ?_
    refine r_callV0 (M' := M_X8_take) (ci := 8) [(2, (87 + 8 * (G5 0 15)))] d_X11_undo_48 cl_X11_206 rfl (Nat.le_of_ble_eq_true rfl) (by decide) rfl (bs_ob (ly_11_11 bs_11).2.2) ?_
    refine Ct.mono h (fun r8 G7 h => ?_)
    show Rn _ M_X11_undo zN 51 [(0, (2, 0))] [] G7 Q
    refine r_iconst d_X11_undo_51 ?_
    exact r_zreturn d_X11_undo_52 rfl ⟨rfl, Nat.le_refl _, Nat.le_refl _⟩ (by decide) h
  · replace h := h.2 c2
    refine r_iconst d_X11_undo_7 ?_
    exact r_zreturn d_X11_undo_8 rfl ⟨rfl, Nat.le_refl _, Nat.le_refl _⟩ (by decide) h
theorem d_X11_ticks_0 : decode M_X11_ticks.2.1 0 = .ok (.iload_n 1, 1) := by decide +kernel
theorem d_X11_ticks_1 : decode M_X11_ticks.2.1 1 = .ok (.iconst 1, 1) := by decide +kernel
theorem d_X11_ticks_2 : decode M_X11_ticks.2.1 2 = .ok (.if_icmp .lt 9, 3) := by decide +kernel
theorem d_X11_ticks_5 : decode M_X11_ticks.2.1 5 = .ok (.iload_n 1, 1) := by decide +kernel
theorem d_X11_ticks_6 : decode M_X11_ticks.2.1 6 = .ok (.bipush 72, 2) := by decide +kernel
theorem d_X11_ticks_8 : decode M_X11_ticks.2.1 8 = .ok (.if_icmp .le 5, 3) := by decide +kernel
theorem d_X11_ticks_11 : decode M_X11_ticks.2.1 11 = .ok (.iconst (-1), 1) := by decide +kernel
theorem d_X11_ticks_12 : decode M_X11_ticks.2.1 12 = .ok (.ireturn, 1) := by decide +kernel
theorem d_X11_ticks_13 : decode M_X11_ticks.2.1 13 = .ok (.aload_n 0, 1) := by decide +kernel
theorem d_X11_ticks_14 : decode M_X11_ticks.2.1 14 = .ok (.invokevirtual 116, 3) := by decide +kernel
theorem d_X11_ticks_17 : decode M_X11_ticks.2.1 17 = .ok (.iconst 0, 1) := by decide +kernel
theorem d_X11_ticks_18 : decode M_X11_ticks.2.1 18 = .ok (.istore_n 2, 1) := by decide +kernel
theorem d_X11_ticks_19 : decode M_X11_ticks.2.1 19 = .ok (.iload_n 2, 1) := by decide +kernel
theorem d_X11_ticks_20 : decode M_X11_ticks.2.1 20 = .ok (.iload_n 1, 1) := by decide +kernel
theorem d_X11_ticks_21 : decode M_X11_ticks.2.1 21 = .ok (.if_icmp .ge 38, 3) := by decide +kernel
theorem d_X11_ticks_24 : decode M_X11_ticks.2.1 24 = .ok (.aload_n 0, 1) := by decide +kernel
theorem d_X11_ticks_25 : decode M_X11_ticks.2.1 25 = .ok (.getfield 64, 3) := by decide +kernel
theorem d_X11_ticks_28 : decode M_X11_ticks.2.1 28 = .ok (.getfield 139, 3) := by decide +kernel
theorem d_X11_ticks_31 : decode M_X11_ticks.2.1 31 = .ok (.aload_n 0, 1) := by decide +kernel
theorem d_X11_ticks_32 : decode M_X11_ticks.2.1 32 = .ok (.getfield 54, 3) := by decide +kernel
theorem d_X11_ticks_35 : decode M_X11_ticks.2.1 35 = .ok (.getfield 174, 3) := by decide +kernel
theorem d_X11_ticks_38 : decode M_X11_ticks.2.1 38 = .ok (.if_icmp .ge 15, 3) := by decide +kernel
theorem d_X11_ticks_41 : decode M_X11_ticks.2.1 41 = .ok (.aload_n 0, 1) := by decide +kernel
theorem d_X11_ticks_42 : decode M_X11_ticks.2.1 42 = .ok (.getfield 64, 3) := by decide +kernel
theorem d_X11_ticks_45 : decode M_X11_ticks.2.1 45 = .ok (.aload_n 0, 1) := by decide +kernel
theorem d_X11_ticks_46 : decode M_X11_ticks.2.1 46 = .ok (.getfield 54, 3) := by decide +kernel
theorem d_X11_ticks_49 : decode M_X11_ticks.2.1 49 = .ok (.iconst (-1), 1) := by decide +kernel
theorem d_X11_ticks_50 : decode M_X11_ticks.2.1 50 = .ok (.invokevirtual 210, 3) := by decide +kernel
theorem d_X11_ticks_53 : decode M_X11_ticks.2.1 53 = .ok (.iinc 2 1, 3) := by decide +kernel
theorem d_X11_ticks_56 : decode M_X11_ticks.2.1 56 = .ok (.goto (-37), 3) := by decide +kernel
theorem d_X11_ticks_59 : decode M_X11_ticks.2.1 59 = .ok (.aload_n 0, 1) := by decide +kernel
theorem d_X11_ticks_60 : decode M_X11_ticks.2.1 60 = .ok (.getfield 64, 3) := by decide +kernel
theorem d_X11_ticks_63 : decode M_X11_ticks.2.1 63 = .ok (.getfield 139, 3) := by decide +kernel
theorem d_X11_ticks_66 : decode M_X11_ticks.2.1 66 = .ok (.ireturn, 1) := by decide +kernel
set_option maxRecDepth 20000 in
theorem s_X11_ticks_0 {d : Nat} {p0 : Int} {G : Mem} {Q : Int → Mem → Prop}  (h : (InR p0) ∧ ((p0 < 1) → Q (-1) G) ∧ (¬ (p0 < 1) → ((p0 ≤ 72) → Ct d M_X11_forgetPast NT 0 0 (some lay) [(2, 0)] G (fun r5 G4 => Rn (d + 1) M_X11_ticks zN 19 [(0, (2, 0)), (1, (0, p0)), (2, (0, 0))] [] G4 Q)) ∧ (¬ (p0 ≤ 72) → Q (-1) G))) : Rn (d + 1) M_X11_ticks zN 0 [(0, (2, 0)), (1, (0, p0))] [] G Q := by
  refine r_iload_n d_X11_ticks_0 1 rfl rfl ?_
  refine r_iconst d_X11_ticks_1 ?_
  obtain ⟨h1, h⟩ := h
  refine r_icmp_lt (tgt := 11) d_X11_ticks_2 (by decide) h1 ⟨by decide, by decide⟩ (fun c2 => ?_) (fun c2 => ?_)
  · replace h := h.1 c2
    refine r_iconst d_X11_ticks_11 ?_
    exact r_ireturn d_X11_ticks_12 rfl ⟨rfl, Nat.le_refl _, Nat.le_refl _⟩ h
  · replace h := h.2 c2
    refine r_iload_n d_X11_ticks_5 1 rfl rfl ?_
    refine r_bipush d_X11_ticks_6 (by decide +kernel) ?_
    refine r_icmp_le (tgt := 13) d_X11_ticks_8 (by decide) h1 ⟨by decide, by decide⟩ (fun c3 => ?_) (fun c3 => ?_)
    · replace h := h.1 c3
      refine r_aload_n d_X11_ticks_13 0 rfl rfl ?_
      refine r_callV0 (M' := M_X11_forgetPast) (ci := 11) [] d_X11_ticks_14 cl_X11_116 rfl (Nat.le_of_ble_eq_true rfl) (by decide) rfl (bs_ob bs_11) ?_
      refine Ct.mono h (fun r5 G4 h => ?_)
      show Rn _ M_X11_ticks zN 17 [(0, (2, 0)), (1, (0, p0))] [] G4 Q
      refine r_iconst d_X11_ticks_17 ?_
      refine r_istore_n (ls1 := [(2, (0, 0)), (0, (2, 0)), (1, (0, p0))]) d_X11_ticks_18 rfl (by decide) rfl ?_
      exact Rn.sub [1, 2, 0] rfl h
    · replace h := h.2 c3
      refine r_iconst d_X11_ticks_11 ?_
      exact r_ireturn d_X11_ticks_12 rfl ⟨rfl, Nat.le_refl _, Nat.le_refl _⟩ h
set_option maxRecDepth 20000 in
theorem s_X11_ticks_19 {d : Nat} {x1 : Int} {x2 : Int} {G : Mem} {Q : Int → Mem → Prop}  (h : (InR x2) ∧ (InR x1) ∧ ((x1 ≤ x2) → Q (G 73 7) G) ∧ (¬ (x1 ≤ x2) → ∀ b4 : Int, b4 = (G 0 13) → (Bs 1 b4 ∧ (InR (G 73 7)) ∧ (InR (G b4 7)) ∧ (((G b4 7) ≤ (G 73 7)) → Rn (d + 1) M_X11_ticks zN 19 [(0, (2, 0)), (1, (0, x1)), (2, (0, (x2 + 1)))] [] G Q) ∧ (¬ ((G b4 7) ≤ (G 73 7)) → ∀ b10 : Int, b10 = (G 0 13) → (Bs 1 b10 ∧ Ct d M_X8_pass NT 0 0 (some lay) [(2, 73), (2, b10), (0, (-1))] G (fun r14 G13 => Rn (d + 1) M_X11_ticks zN 19 [(0, (2, 0)), (1, (0, x1)), (2, (0, (x2 + 1)))] [] G13 Q)))))) : Rn (d + 1) M_X11_ticks zN 19 [(0, (2, 0)), (1, (0, x1)), (2, (0, x2))] [] G Q := by
  refine r_iload_n d_X11_ticks_19 2 rfl rfl ?_
  refine r_iload_n d_X11_ticks_20 1 rfl rfl ?_
  obtain ⟨h1, h⟩ := h
  obtain ⟨h2, h⟩ := h
  refine r_icmp_ge (tgt := 59) d_X11_ticks_21 (by decide) h1 h2 (fun c3 => ?_) (fun c3 => ?_)
  · replace h := h.1 c3
    refine r_aload_n d_X11_ticks_59 0 rfl rfl ?_
    refine r_getL (v := 73) 11 11 11 rfl d_X11_ticks_60 fl_X11_64 (by decide) (bs_ob bs_11) (ly_11_11 bs_11).1 (ly_11_11 bs_11).2.1 ?_
    refine r_getI 8 7 7 rfl d_X11_ticks_63 fl_X11_139 (by decide) (bs_ob (ly_11_11 bs_11).2.2) ?_
    exact r_ireturn d_X11_ticks_66 rfl ⟨rfl, Nat.le_refl _, Nat.le_refl _⟩ h
  · replace h := h.2 c3
    refine r_aload_n d_X11_ticks_24 0 rfl rfl ?_
    refine r_getL (v := 73) 11 11 11 rfl d_X11_ticks_25 fl_X11_64 (by decide) (bs_ob bs_11) (ly_11_11 bs_11).1 (ly_11_11 bs_11).2.1 ?_
    refine r_getI 8 7 7 rfl d_X11_ticks_28 fl_X11_139 (by decide) (bs_ob (ly_11_11 bs_11).2.2) ?_
    refine r_aload_n d_X11_ticks_31 0 rfl rfl ?_
    obtain ⟨b4, e6⟩ : ∃ y : Int, y = (G 0 13) := ⟨_, rfl⟩
    replace h := h b4 e6
    obtain ⟨h5, h⟩ := h
    refine r_getM 11 13 13 rfl d_X11_ticks_32 fl_X11_54 (by decide) (bs_ob bs_11) e6.symm (bs_nn h5) ?_
    refine r_getI 1 7 7 rfl d_X11_ticks_35 fl_X11_174 (by decide) (bs_ob h5) ?_
    obtain ⟨h7, h⟩ := h
    obtain ⟨h8, h⟩ := h
    refine r_icmp_ge (tgt := 53) d_X11_ticks_38 (by decide) h7 h8 (fun c9 => ?_) (fun c9 => ?_)
    · replace h := h.1 c9
      refine r_iinc (ls1 := [(2, (0, (x2 + 1))), (0, (2, 0)), (1, (0, x1))]) d_X11_ticks_53 2 rfl (by decide) rfl ?_
      refine r_goto (tgt := 19) d_X11_ticks_56 (by decide) ?_
      exact Rn.sub [1, 2, 0] rfl h
    · replace h := h.2 c9
      refine r_aload_n d_X11_ticks_41 0 rfl rfl ?_
      refine r_getL (v := 73) 11 11 11 rfl d_X11_ticks_42 fl_X11_64 (by decide) (bs_ob bs_11) (ly_11_11 bs_11).1 (ly_11_11 bs_11).2.1 ?_
      refine r_aload_n d_X11_ticks_45 0 rfl rfl ?_
      obtain ⟨b10, e12⟩ : ∃ y : Int, y = (G 0 13) := ⟨_, rfl⟩
      replace h := h b10 e12
      obtain ⟨h11, h⟩ := h
      refine r_getM 11 13 13 rfl d_X11_ticks_46 fl_X11_54 (by decide) (bs_ob bs_11) e12.symm (bs_nn h11) ?_
      refine r_iconst d_X11_ticks_49 ?_
      refine r_callV0 (M' := M_X8_pass) (ci := 8) [(2, b10), (0, (-1))] d_X11_ticks_50 cl_X11_210 rfl (Nat.le_of_ble_eq_true rfl) (by decide) rfl (bs_ob (ly_11_11 bs_11).2.2) ?_
      refine Ct.mono h (fun r14 G13 h => ?_)
      show Rn _ M_X11_ticks zN 53 [(0, (2, 0)), (1, (0, x1)), (2, (0, x2))] [] G13 Q
      refine r_iinc (ls1 := [(2, (0, (x2 + 1))), (0, (2, 0)), (1, (0, x1))]) d_X11_ticks_53 2 rfl (by decide) rfl ?_
      refine r_goto (tgt := 19) d_X11_ticks_56 (by decide) ?_
      exact Rn.sub [1, 2, 0] rfl h
theorem d_X11_length_0 : decode M_X11_length.2.1 0 = .ok (.aload_n 0, 1) := by decide +kernel
theorem d_X11_length_1 : decode M_X11_length.2.1 1 = .ok (.iload_n 1, 1) := by decide +kernel
theorem d_X11_length_2 : decode M_X11_length.2.1 2 = .ok (.invokevirtual 119, 3) := by decide +kernel
theorem d_X11_length_5 : decode M_X11_length.2.1 5 = .ok (.ifCond .ne 5, 3) := by decide +kernel
theorem d_X11_length_8 : decode M_X11_length.2.1 8 = .ok (.iconst (-1), 1) := by decide +kernel
theorem d_X11_length_9 : decode M_X11_length.2.1 9 = .ok (.ireturn, 1) := by decide +kernel
theorem d_X11_length_10 : decode M_X11_length.2.1 10 = .ok (.iconst 1, 1) := by decide +kernel
theorem d_X11_length_11 : decode M_X11_length.2.1 11 = .ok (.istore_n 2, 1) := by decide +kernel
theorem d_X11_length_12 : decode M_X11_length.2.1 12 = .ok (.aload_n 0, 1) := by decide +kernel
theorem d_X11_length_13 : decode M_X11_length.2.1 13 = .ok (.getfield 64, 3) := by decide +kernel
theorem d_X11_length_16 : decode M_X11_length.2.1 16 = .ok (.getfield 139, 3) := by decide +kernel
theorem d_X11_length_19 : decode M_X11_length.2.1 19 = .ok (.iload_n 2, 1) := by decide +kernel
theorem d_X11_length_20 : decode M_X11_length.2.1 20 = .ok (.iadd, 1) := by decide +kernel
theorem d_X11_length_21 : decode M_X11_length.2.1 21 = .ok (.aload_n 0, 1) := by decide +kernel
theorem d_X11_length_22 : decode M_X11_length.2.1 22 = .ok (.getfield 54, 3) := by decide +kernel
theorem d_X11_length_25 : decode M_X11_length.2.1 25 = .ok (.getfield 174, 3) := by decide +kernel
theorem d_X11_length_28 : decode M_X11_length.2.1 28 = .ok (.if_icmp .gt 39, 3) := by decide +kernel
theorem d_X11_length_31 : decode M_X11_length.2.1 31 = .ok (.aload_n 0, 1) := by decide +kernel
theorem d_X11_length_32 : decode M_X11_length.2.1 32 = .ok (.getfield 64, 3) := by decide +kernel
theorem d_X11_length_35 : decode M_X11_length.2.1 35 = .ok (.aload_n 0, 1) := by decide +kernel
theorem d_X11_length_36 : decode M_X11_length.2.1 36 = .ok (.getfield 54, 3) := by decide +kernel
theorem d_X11_length_39 : decode M_X11_length.2.1 39 = .ok (.iload_n 1, 1) := by decide +kernel
theorem d_X11_length_40 : decode M_X11_length.2.1 40 = .ok (.iload_n 2, 1) := by decide +kernel
theorem d_X11_length_41 : decode M_X11_length.2.1 41 = .ok (.invokevirtual 213, 3) := by decide +kernel
theorem d_X11_length_44 : decode M_X11_length.2.1 44 = .ok (.aload_n 0, 1) := by decide +kernel
theorem d_X11_length_45 : decode M_X11_length.2.1 45 = .ok (.getfield 54, 3) := by decide +kernel
theorem d_X11_length_48 : decode M_X11_length.2.1 48 = .ok (.getfield 123, 3) := by decide +kernel
theorem d_X11_length_51 : decode M_X11_length.2.1 51 = .ok (.iload_n 1, 1) := by decide +kernel
theorem d_X11_length_52 : decode M_X11_length.2.1 52 = .ok (.aaload, 1) := by decide +kernel
theorem d_X11_length_53 : decode M_X11_length.2.1 53 = .ok (.getfield 217, 3) := by decide +kernel
theorem d_X11_length_56 : decode M_X11_length.2.1 56 = .ok (.if_icmp .le 5, 3) := by decide +kernel
theorem d_X11_length_59 : decode M_X11_length.2.1 59 = .ok (.iload_n 2, 1) := by decide +kernel
theorem d_X11_length_60 : decode M_X11_length.2.1 60 = .ok (.ireturn, 1) := by decide +kernel
theorem d_X11_length_61 : decode M_X11_length.2.1 61 = .ok (.iinc 2 1, 3) := by decide +kernel
theorem d_X11_length_64 : decode M_X11_length.2.1 64 = .ok (.goto (-52), 3) := by decide +kernel
theorem d_X11_length_67 : decode M_X11_length.2.1 67 = .ok (.iconst (-1), 1) := by decide +kernel
theorem d_X11_length_68 : decode M_X11_length.2.1 68 = .ok (.ireturn, 1) := by decide +kernel
set_option maxRecDepth 20000 in
theorem s_X11_length_0 {d : Nat} {p0 : Int} {G : Mem} {Q : Int → Mem → Prop}  (h : Ct d M_X11_known NT 0 0 (some lay) [(2, 0), (0, p0)] G (fun r2 G1 => (InR r2) ∧ ((r2 ≠ 0) → Rn (d + 1) M_X11_length zN 12 [(0, (2, 0)), (1, (0, p0)), (2, (0, 1))] [] G1 Q) ∧ (¬ (r2 ≠ 0) → Q (-1) G1))) : Rn (d + 1) M_X11_length zN 0 [(0, (2, 0)), (1, (0, p0))] [] G Q := by
  refine r_aload_n d_X11_length_0 0 rfl rfl ?_
  refine r_iload_n d_X11_length_1 1 rfl rfl ?_
  refine r_callV0 (M' := M_X11_known) (ci := 11) [(0, p0)] d_X11_length_2 cl_X11_119 rfl (Nat.le_of_ble_eq_true rfl) (by decide) rfl (bs_ob bs_11) ?_
  refine Ct.mono h (fun r2 G1 h => ?_)
  show Rn _ M_X11_length zN 5 [(0, (2, 0)), (1, (0, p0))] [(0, r2)] G1 Q
  obtain ⟨h3, h⟩ := h
  refine r_if_ne (tgt := 10) d_X11_length_5 (by decide) h3 (fun c4 => ?_) (fun c4 => ?_)
  · replace h := h.1 c4
    refine r_iconst d_X11_length_10 ?_
    refine r_istore_n (ls1 := [(2, (0, 1)), (0, (2, 0)), (1, (0, p0))]) d_X11_length_11 rfl (by decide) rfl ?_
    exact Rn.sub [1, 2, 0] rfl h
  · replace h := h.2 c4
    refine r_iconst d_X11_length_8 ?_
    exact r_ireturn d_X11_length_9 rfl ⟨rfl, Nat.le_refl _, Nat.le_refl _⟩ h
set_option maxRecDepth 20000 in
theorem s_X11_length_12 {d : Nat} {x1 : Int} {x2 : Int} {G : Mem} {Q : Int → Mem → Prop}  (h : ∀ b1 : Int, b1 = (G 0 13) → (Bs 1 b1 ∧ (InR ((G 73 7) + x2)) ∧ (InR (G b1 7)) ∧ (((G b1 7) < ((G 73 7) + x2)) → Q (-1) G) ∧ (¬ ((G b1 7) < ((G 73 7) + x2)) → ∀ b7 : Int, b7 = (G 0 13) → (Bs 1 b7 ∧ Ct d M_X8_needIn NT 0 0 (some lay) [(2, 73), (2, b7), (0, x1), (0, x2)] G (fun r11 G10 => ∀ b12 : Int, b12 = (G10 0 13) → (Bs 1 b12 ∧ (0 ≤ x1 ∧ x1 < 5) ∧ ((InR r11) ∧ (InR (G10 ((b12 + 13) + x1) 3)) ∧ ((r11 ≤ (G10 ((b12 + 13) + x1) 3)) → Rn (d + 1) M_X11_length zN 12 [(0, (2, 0)), (1, (0, x1)), (2, (0, (x2 + 1)))] [] G10 Q) ∧ (¬ (r11 ≤ (G10 ((b12 + 13) + x1) 3)) → Q x2 G10)))))))) : Rn (d + 1) M_X11_length zN 12 [(0, (2, 0)), (1, (0, x1)), (2, (0, x2))] [] G Q := by
  refine r_aload_n d_X11_length_12 0 rfl rfl ?_
  refine r_getL (v := 73) 11 11 11 rfl d_X11_length_13 fl_X11_64 (by decide) (bs_ob bs_11) (ly_11_11 bs_11).1 (ly_11_11 bs_11).2.1 ?_
  refine r_getI 8 7 7 rfl d_X11_length_16 fl_X11_139 (by decide) (bs_ob (ly_11_11 bs_11).2.2) ?_
  refine r_iload_n d_X11_length_19 2 rfl rfl ?_
  refine r_iadd d_X11_length_20 ?_
  refine r_aload_n d_X11_length_21 0 rfl rfl ?_
  obtain ⟨b1, e3⟩ : ∃ y : Int, y = (G 0 13) := ⟨_, rfl⟩
  replace h := h b1 e3
  obtain ⟨h2, h⟩ := h
  refine r_getM 11 13 13 rfl d_X11_length_22 fl_X11_54 (by decide) (bs_ob bs_11) e3.symm (bs_nn h2) ?_
  refine r_getI 1 7 7 rfl d_X11_length_25 fl_X11_174 (by decide) (bs_ob h2) ?_
  obtain ⟨h4, h⟩ := h
  obtain ⟨h5, h⟩ := h
  refine r_icmp_gt (tgt := 67) d_X11_length_28 (by decide) h4 h5 (fun c6 => ?_) (fun c6 => ?_)
  · replace h := h.1 c6
    refine r_iconst d_X11_length_67 ?_
    exact r_ireturn d_X11_length_68 rfl ⟨rfl, Nat.le_refl _, Nat.le_refl _⟩ h
  · replace h := h.2 c6
    refine r_aload_n d_X11_length_31 0 rfl rfl ?_
    refine r_getL (v := 73) 11 11 11 rfl d_X11_length_32 fl_X11_64 (by decide) (bs_ob bs_11) (ly_11_11 bs_11).1 (ly_11_11 bs_11).2.1 ?_
    refine r_aload_n d_X11_length_35 0 rfl rfl ?_
    obtain ⟨b7, e9⟩ : ∃ y : Int, y = (G 0 13) := ⟨_, rfl⟩
    replace h := h b7 e9
    obtain ⟨h8, h⟩ := h
    refine r_getM 11 13 13 rfl d_X11_length_36 fl_X11_54 (by decide) (bs_ob bs_11) e9.symm (bs_nn h8) ?_
    refine r_iload_n d_X11_length_39 1 rfl rfl ?_
    refine r_iload_n d_X11_length_40 2 rfl rfl ?_
    refine r_callV0 (M' := M_X8_needIn) (ci := 8) [(2, b7), (0, x1), (0, x2)] d_X11_length_41 cl_X11_213 rfl (Nat.le_of_ble_eq_true rfl) (by decide) rfl (bs_ob (ly_11_11 bs_11).2.2) ?_
    refine Ct.mono h (fun r11 G10 h => ?_)
    show Rn _ M_X11_length zN 44 [(0, (2, 0)), (1, (0, x1)), (2, (0, x2))] [(0, r11)] G10 Q
    refine r_aload_n d_X11_length_44 0 rfl rfl ?_
    obtain ⟨b12, e14⟩ : ∃ y : Int, y = (G10 0 13) := ⟨_, rfl⟩
    replace h := h b12 e14
    obtain ⟨h13, h⟩ := h
    refine r_getM 11 13 13 rfl d_X11_length_45 fl_X11_54 (by decide) (bs_ob bs_11) e14.symm (bs_nn h13) ?_
    refine r_getL (v := (b12 + 1)) 1 0 0 rfl d_X11_length_48 fl_X11_123 (by decide) (bs_ob h13) (ly_1_0 h13).1 (ly_1_0 h13).2.1 ?_
    refine r_iload_n d_X11_length_51 1 rfl rfl ?_
    obtain ⟨h15, h⟩ := h
    refine r_aaloadL (v := ((b12 + 13) + x1)) d_X11_length_52 (ly_1_0 h13).2.2 (by decide) rfl h15 (el_1_0 h13 h15.1 h15.2).1 (el_1_0 h13 h15.1 h15.2).2.1 ?_
    refine r_getI 7 3 3 rfl d_X11_length_53 fl_X11_217 (by decide) (bs_ob (el_1_0 h13 h15.1 h15.2).2.2) ?_
    obtain ⟨h16, h⟩ := h
    obtain ⟨h17, h⟩ := h
    refine r_icmp_le (tgt := 61) d_X11_length_56 (by decide) h16 h17 (fun c18 => ?_) (fun c18 => ?_)
    · replace h := h.1 c18
      refine r_iinc (ls1 := [(2, (0, (x2 + 1))), (0, (2, 0)), (1, (0, x1))]) d_X11_length_61 2 rfl (by decide) rfl ?_
      refine r_goto (tgt := 12) d_X11_length_64 (by decide) ?_
      exact Rn.sub [1, 2, 0] rfl h
    · replace h := h.2 c18
      refine r_iload_n d_X11_length_59 2 rfl rfl ?_
      exact r_ireturn d_X11_length_60 rfl ⟨rfl, Nat.le_refl _, Nat.le_refl _⟩ h
theorem d_X11_sleep_0 : decode M_X11_sleep.2.1 0 = .ok (.aload_n 0, 1) := by decide +kernel
theorem d_X11_sleep_1 : decode M_X11_sleep.2.1 1 = .ok (.iload_n 1, 1) := by decide +kernel
theorem d_X11_sleep_2 : decode M_X11_sleep.2.1 2 = .ok (.invokevirtual 119, 3) := by decide +kernel
theorem d_X11_sleep_5 : decode M_X11_sleep.2.1 5 = .ok (.ifCond .ne 5, 3) := by decide +kernel
theorem d_X11_sleep_8 : decode M_X11_sleep.2.1 8 = .ok (.iconst (-1), 1) := by decide +kernel
theorem d_X11_sleep_9 : decode M_X11_sleep.2.1 9 = .ok (.ireturn, 1) := by decide +kernel
theorem d_X11_sleep_10 : decode M_X11_sleep.2.1 10 = .ok (.aload_n 0, 1) := by decide +kernel
theorem d_X11_sleep_11 : decode M_X11_sleep.2.1 11 = .ok (.getfield 64, 3) := by decide +kernel
theorem d_X11_sleep_14 : decode M_X11_sleep.2.1 14 = .ok (.aload_n 0, 1) := by decide +kernel
theorem d_X11_sleep_15 : decode M_X11_sleep.2.1 15 = .ok (.getfield 54, 3) := by decide +kernel
theorem d_X11_sleep_18 : decode M_X11_sleep.2.1 18 = .ok (.iload_n 1, 1) := by decide +kernel
theorem d_X11_sleep_19 : decode M_X11_sleep.2.1 19 = .ok (.aload_n 0, 1) := by decide +kernel
theorem d_X11_sleep_20 : decode M_X11_sleep.2.1 20 = .ok (.getfield 64, 3) := by decide +kernel
theorem d_X11_sleep_23 : decode M_X11_sleep.2.1 23 = .ok (.getfield 139, 3) := by decide +kernel
theorem d_X11_sleep_26 : decode M_X11_sleep.2.1 26 = .ok (.invokevirtual 142, 3) := by decide +kernel
theorem d_X11_sleep_29 : decode M_X11_sleep.2.1 29 = .ok (.ifCond .eq 26, 3) := by decide +kernel
theorem d_X11_sleep_32 : decode M_X11_sleep.2.1 32 = .ok (.aload_n 0, 1) := by decide +kernel
theorem d_X11_sleep_33 : decode M_X11_sleep.2.1 33 = .ok (.getfield 54, 3) := by decide +kernel
theorem d_X11_sleep_36 : decode M_X11_sleep.2.1 36 = .ok (.getfield 123, 3) := by decide +kernel
theorem d_X11_sleep_39 : decode M_X11_sleep.2.1 39 = .ok (.iload_n 1, 1) := by decide +kernel
theorem d_X11_sleep_40 : decode M_X11_sleep.2.1 40 = .ok (.aaload, 1) := by decide +kernel
theorem d_X11_sleep_41 : decode M_X11_sleep.2.1 41 = .ok (.getfield 220, 3) := by decide +kernel
theorem d_X11_sleep_44 : decode M_X11_sleep.2.1 44 = .ok (.aload_n 0, 1) := by decide +kernel
theorem d_X11_sleep_45 : decode M_X11_sleep.2.1 45 = .ok (.getfield 64, 3) := by decide +kernel
theorem d_X11_sleep_48 : decode M_X11_sleep.2.1 48 = .ok (.getfield 139, 3) := by decide +kernel
theorem d_X11_sleep_51 : decode M_X11_sleep.2.1 51 = .ok (.isub, 1) := by decide +kernel
theorem d_X11_sleep_52 : decode M_X11_sleep.2.1 52 = .ok (.goto 4, 3) := by decide +kernel
theorem d_X11_sleep_55 : decode M_X11_sleep.2.1 55 = .ok (.iconst 0, 1) := by decide +kernel
theorem d_X11_sleep_56 : decode M_X11_sleep.2.1 56 = .ok (.ireturn, 1) := by decide +kernel
set_option maxRecDepth 20000 in
theorem s_X11_sleep_0 {d : Nat} {p0 : Int} {G : Mem} {Q : Int → Mem → Prop}  (h : Ct d M_X11_known NT 0 0 (some lay) [(2, 0), (0, p0)] G (fun r2 G1 => (InR r2) ∧ ((r2 ≠ 0) → ∀ b5 : Int, b5 = (G1 0 13) → (Bs 1 b5 ∧ Ct d M_X8_asleep NT 0 0 (some lay) [(2, 73), (2, b5), (0, p0), (0, (G1 73 7))] G1 (fun r9 G8 => (InR r9) ∧ ((r9 = 0) → Q 0 G8) ∧ (¬ (r9 = 0) → ∀ b12 : Int, b12 = (G8 0 13) → (Bs 1 b12 ∧ (0 ≤ p0 ∧ p0 < 5) ∧ (Q ((G8 ((b12 + 13) + p0) 8) - (G8 73 7)) G8)))))) ∧ (¬ (r2 ≠ 0) → Q (-1) G1))) : Rn (d + 1) M_X11_sleep zN 0 [(0, (2, 0)), (1, (0, p0))] [] G Q := by
  refine r_aload_n d_X11_sleep_0 0 rfl rfl ?_
  refine r_iload_n d_X11_sleep_1 1 rfl rfl ?_
  refine r_callV0 (M' := M_X11_known) (ci := 11) [(0, p0)] d_X11_sleep_2 cl_X11_119 rfl (Nat.le_of_ble_eq_true rfl) (by decide) rfl (bs_ob bs_11) ?_
  refine Ct.mono h (fun r2 G1 h => ?_)
  show Rn _ M_X11_sleep zN 5 [(0, (2, 0)), (1, (0, p0))] [(0, r2)] G1 Q
  obtain ⟨h3, h⟩ := h
  refine r_if_ne (tgt := 10) d_X11_sleep_5 (by decide) h3 (fun c4 => ?_) (fun c4 => ?_)
  · replace h := h.1 c4
    refine r_aload_n d_X11_sleep_10 0 rfl rfl ?_
    refine r_getL (v := 73) 11 11 11 rfl d_X11_sleep_11 fl_X11_64 (by decide) (bs_ob bs_11) (ly_11_11 bs_11).1 (ly_11_11 bs_11).2.1 ?_
    refine r_aload_n d_X11_sleep_14 0 rfl rfl ?_
    obtain ⟨b5, e7⟩ : ∃ y : Int, y = (G1 0 13) := ⟨_, rfl⟩
    replace h := h b5 e7
    obtain ⟨h6, h⟩ := h
    refine r_getM 11 13 13 rfl d_X11_sleep_15 fl_X11_54 (by decide) (bs_ob bs_11) e7.symm (bs_nn h6) ?_
    refine r_iload_n d_X11_sleep_18 1 rfl rfl ?_
    refine r_aload_n d_X11_sleep_19 0 rfl rfl ?_
    refine r_getL (v := 73) 11 11 11 rfl d_X11_sleep_20 fl_X11_64 (by decide) (bs_ob bs_11) (ly_11_11 bs_11).1 (ly_11_11 bs_11).2.1 ?_
    refine r_getI 8 7 7 rfl d_X11_sleep_23 fl_X11_139 (by decide) (bs_ob (ly_11_11 bs_11).2.2) ?_
    refine r_callV0 (M' := M_X8_asleep) (ci := 8) [(2, b5), (0, p0), (0, (G1 73 7))] d_X11_sleep_26 cl_X11_142 rfl (Nat.le_of_ble_eq_true rfl) (by decide) rfl (bs_ob (ly_11_11 bs_11).2.2) ?_
    refine Ct.mono h (fun r9 G8 h => ?_)
    show Rn _ M_X11_sleep zN 29 [(0, (2, 0)), (1, (0, p0))] [(0, r9)] G8 Q
    obtain ⟨h10, h⟩ := h
    refine r_if_eq (tgt := 55) d_X11_sleep_29 (by decide) h10 (fun c11 => ?_) (fun c11 => ?_)
    · replace h := h.1 c11
      refine r_iconst d_X11_sleep_55 ?_
      exact r_ireturn d_X11_sleep_56 rfl ⟨rfl, Nat.le_refl _, Nat.le_refl _⟩ h
    · replace h := h.2 c11
      refine r_aload_n d_X11_sleep_32 0 rfl rfl ?_
      obtain ⟨b12, e14⟩ : ∃ y : Int, y = (G8 0 13) := ⟨_, rfl⟩
      replace h := h b12 e14
      obtain ⟨h13, h⟩ := h
      refine r_getM 11 13 13 rfl d_X11_sleep_33 fl_X11_54 (by decide) (bs_ob bs_11) e14.symm (bs_nn h13) ?_
      refine r_getL (v := (b12 + 1)) 1 0 0 rfl d_X11_sleep_36 fl_X11_123 (by decide) (bs_ob h13) (ly_1_0 h13).1 (ly_1_0 h13).2.1 ?_
      refine r_iload_n d_X11_sleep_39 1 rfl rfl ?_
      obtain ⟨h15, h⟩ := h
      refine r_aaloadL (v := ((b12 + 13) + p0)) d_X11_sleep_40 (ly_1_0 h13).2.2 (by decide) rfl h15 (el_1_0 h13 h15.1 h15.2).1 (el_1_0 h13 h15.1 h15.2).2.1 ?_
      refine r_getI 7 8 8 rfl d_X11_sleep_41 fl_X11_220 (by decide) (bs_ob (el_1_0 h13 h15.1 h15.2).2.2) ?_
      refine r_aload_n d_X11_sleep_44 0 rfl rfl ?_
      refine r_getL (v := 73) 11 11 11 rfl d_X11_sleep_45 fl_X11_64 (by decide) (bs_ob bs_11) (ly_11_11 bs_11).1 (ly_11_11 bs_11).2.1 ?_
      refine r_getI 8 7 7 rfl d_X11_sleep_48 fl_X11_139 (by decide) (bs_ob (ly_11_11 bs_11).2.2) ?_
      refine r_isub d_X11_sleep_51 ?_
      refine r_goto (tgt := 56) d_X11_sleep_52 (by decide) ?_
      exact r_ireturn d_X11_sleep_56 rfl ⟨rfl, Nat.le_refl _, Nat.le_refl _⟩ h
  · replace h := h.2 c4
    refine r_iconst d_X11_sleep_8 ?_
    exact r_ireturn d_X11_sleep_9 rfl ⟨rfl, Nat.le_refl _, Nat.le_refl _⟩ h
theorem d_X11_odds_0 : decode M_X11_odds.2.1 0 = .ok (.aload_n 0, 1) := by decide +kernel
theorem d_X11_odds_1 : decode M_X11_odds.2.1 1 = .ok (.iload_n 1, 1) := by decide +kernel
theorem d_X11_odds_2 : decode M_X11_odds.2.1 2 = .ok (.invokevirtual 119, 3) := by decide +kernel
theorem d_X11_odds_5 : decode M_X11_odds.2.1 5 = .ok (.ifCond .eq 12, 3) := by decide +kernel
theorem d_X11_odds_8 : decode M_X11_odds.2.1 8 = .ok (.iload_n 2, 1) := by decide +kernel
theorem d_X11_odds_9 : decode M_X11_odds.2.1 9 = .ok (.ifCond .lt 8, 3) := by decide +kernel
theorem d_X11_odds_12 : decode M_X11_odds.2.1 12 = .ok (.iload_n 2, 1) := by decide +kernel
theorem d_X11_odds_13 : decode M_X11_odds.2.1 13 = .ok (.iconst 2, 1) := by decide +kernel
theorem d_X11_odds_14 : decode M_X11_odds.2.1 14 = .ok (.if_icmp .le 5, 3) := by decide +kernel
theorem d_X11_odds_17 : decode M_X11_odds.2.1 17 = .ok (.iconst (-1), 1) := by decide +kernel
theorem d_X11_odds_18 : decode M_X11_odds.2.1 18 = .ok (.ireturn, 1) := by decide +kernel
theorem d_X11_odds_19 : decode M_X11_odds.2.1 19 = .ok (.iload_n 2, 1) := by decide +kernel
theorem d_X11_odds_20 : decode M_X11_odds.2.1 20 = .ok (.ifCond .ne 25, 3) := by decide +kernel
theorem d_X11_odds_23 : decode M_X11_odds.2.1 23 = .ok (.aload_n 0, 1) := by decide +kernel
theorem d_X11_odds_24 : decode M_X11_odds.2.1 24 = .ok (.getfield 54, 3) := by decide +kernel
theorem d_X11_odds_27 : decode M_X11_odds.2.1 27 = .ok (.aload_n 0, 1) := by decide +kernel
theorem d_X11_odds_28 : decode M_X11_odds.2.1 28 = .ok (.getfield 64, 3) := by decide +kernel
theorem d_X11_odds_31 : decode M_X11_odds.2.1 31 = .ok (.iload_n 1, 1) := by decide +kernel
theorem d_X11_odds_32 : decode M_X11_odds.2.1 32 = .ok (.aload_n 0, 1) := by decide +kernel
theorem d_X11_odds_33 : decode M_X11_odds.2.1 33 = .ok (.getfield 64, 3) := by decide +kernel
theorem d_X11_odds_36 : decode M_X11_odds.2.1 36 = .ok (.getfield 139, 3) := by decide +kernel
theorem d_X11_odds_39 : decode M_X11_odds.2.1 39 = .ok (.invokevirtual 223, 3) := by decide +kernel
theorem d_X11_odds_42 : decode M_X11_odds.2.1 42 = .ok (.goto 25, 3) := by decide +kernel
theorem d_X11_odds_45 : decode M_X11_odds.2.1 45 = .ok (.aload_n 0, 1) := by decide +kernel
theorem d_X11_odds_46 : decode M_X11_odds.2.1 46 = .ok (.getfield 54, 3) := by decide +kernel
theorem d_X11_odds_49 : decode M_X11_odds.2.1 49 = .ok (.aload_n 0, 1) := by decide +kernel
theorem d_X11_odds_50 : decode M_X11_odds.2.1 50 = .ok (.getfield 64, 3) := by decide +kernel
theorem d_X11_odds_53 : decode M_X11_odds.2.1 53 = .ok (.iload_n 1, 1) := by decide +kernel
theorem d_X11_odds_54 : decode M_X11_odds.2.1 54 = .ok (.aload_n 0, 1) := by decide +kernel
theorem d_X11_odds_55 : decode M_X11_odds.2.1 55 = .ok (.getfield 64, 3) := by decide +kernel
theorem d_X11_odds_58 : decode M_X11_odds.2.1 58 = .ok (.getfield 139, 3) := by decide +kernel
theorem d_X11_odds_61 : decode M_X11_odds.2.1 61 = .ok (.iload_n 2, 1) := by decide +kernel
theorem d_X11_odds_62 : decode M_X11_odds.2.1 62 = .ok (.iconst 1, 1) := by decide +kernel
theorem d_X11_odds_63 : decode M_X11_odds.2.1 63 = .ok (.isub, 1) := by decide +kernel
theorem d_X11_odds_64 : decode M_X11_odds.2.1 64 = .ok (.invokevirtual 227, 3) := by decide +kernel
theorem d_X11_odds_67 : decode M_X11_odds.2.1 67 = .ok (.ireturn, 1) := by decide +kernel
set_option maxRecDepth 20000 in
theorem s_X11_odds_0 {d : Nat} {p0 : Int} {p1 : Int} {G : Mem} {Q : Int → Mem → Prop}  (h : Ct d M_X11_known NT 0 0 (some lay) [(2, 0), (0, p0)] G (fun r2 G1 => (InR r2) ∧ ((r2 = 0) → Q (-1) G1) ∧ (¬ (r2 = 0) → (InR p1) ∧ ((p1 < 0) → Q (-1) G1) ∧ (¬ (p1 < 0) → ((p1 ≤ 2) → ((p1 ≠ 0) → ∀ b9 : Int, b9 = (G1 0 13) → (Bs 1 b9 ∧ Ct d M_X1_spilling NT 0 0 (some lay) [(2, b9), (2, 73), (0, p0), (0, (G1 73 7)), (0, (p1 - 1))] G1 (fun r13 G12 => Q r13 G12))) ∧ (¬ (p1 ≠ 0) → ∀ b14 : Int, b14 = (G1 0 13) → (Bs 1 b14 ∧ Ct d M_X1_waking NT 0 0 (some lay) [(2, b14), (2, 73), (0, p0), (0, (G1 73 7))] G1 (fun r18 G17 => Q r18 G17)))) ∧ (¬ (p1 ≤ 2) → Q (-1) G1))))) : Rn (d + 1) M_X11_odds zN 0 [(0, (2, 0)), (1, (0, p0)), (2, (0, p1))] [] G Q := by
  refine r_aload_n d_X11_odds_0 0 rfl rfl ?_
  refine r_iload_n d_X11_odds_1 1 rfl rfl ?_
  refine r_callV0 (M' := M_X11_known) (ci := 11) [(0, p0)] d_X11_odds_2 cl_X11_119 rfl (Nat.le_of_ble_eq_true rfl) (by decide) rfl (bs_ob bs_11) ?_
  refine Ct.mono h (fun r2 G1 h => ?_)
  show Rn _ M_X11_odds zN 5 [(0, (2, 0)), (1, (0, p0)), (2, (0, p1))] [(0, r2)] G1 Q
  obtain ⟨h3, h⟩ := h
  refine r_if_eq (tgt := 17) d_X11_odds_5 (by decide) h3 (fun c4 => ?_) (fun c4 => ?_)
  · replace h := h.1 c4
    refine r_iconst d_X11_odds_17 ?_
    exact r_ireturn d_X11_odds_18 rfl ⟨rfl, Nat.le_refl _, Nat.le_refl _⟩ h
  · replace h := h.2 c4
    refine r_iload_n d_X11_odds_8 2 rfl rfl ?_
    obtain ⟨h5, h⟩ := h
    refine r_if_lt (tgt := 17) d_X11_odds_9 (by decide) h5 (fun c6 => ?_) (fun c6 => ?_)
    · replace h := h.1 c6
      refine r_iconst d_X11_odds_17 ?_
      exact r_ireturn d_X11_odds_18 rfl ⟨rfl, Nat.le_refl _, Nat.le_refl _⟩ h
    · replace h := h.2 c6
      refine r_iload_n d_X11_odds_12 2 rfl rfl ?_
      refine r_iconst d_X11_odds_13 ?_
      refine r_icmp_le (tgt := 19) d_X11_odds_14 (by decide) h5 ⟨by decide, by decide⟩ (fun c7 => ?_) (fun c7 => ?_)
      · replace h := h.1 c7
        refine r_iload_n d_X11_odds_19 2 rfl rfl ?_
        refine r_if_ne (tgt := 45) d_X11_odds_20 (by decide) h5 (fun c8 => ?_) (fun c8 => ?_)
        · replace h := h.1 c8
          refine r_aload_n d_X11_odds_45 0 rfl rfl ?_
          obtain ⟨b9, e11⟩ : ∃ y : Int, y = (G1 0 13) := ⟨_, rfl⟩
          replace h := h b9 e11
          obtain ⟨h10, h⟩ := h
          refine r_getM 11 13 13 rfl d_X11_odds_46 fl_X11_54 (by decide) (bs_ob bs_11) e11.symm (bs_nn h10) ?_
          refine r_aload_n d_X11_odds_49 0 rfl rfl ?_
          refine r_getL (v := 73) 11 11 11 rfl d_X11_odds_50 fl_X11_64 (by decide) (bs_ob bs_11) (ly_11_11 bs_11).1 (ly_11_11 bs_11).2.1 ?_
          refine r_iload_n d_X11_odds_53 1 rfl rfl ?_
          refine r_aload_n d_X11_odds_54 0 rfl rfl ?_
          refine r_getL (v := 73) 11 11 11 rfl d_X11_odds_55 fl_X11_64 (by decide) (bs_ob bs_11) (ly_11_11 bs_11).1 (ly_11_11 bs_11).2.1 ?_
          refine r_getI 8 7 7 rfl d_X11_odds_58 fl_X11_139 (by decide) (bs_ob (ly_11_11 bs_11).2.2) ?_
          refine r_iload_n d_X11_odds_61 2 rfl rfl ?_
          refine r_iconst d_X11_odds_62 ?_
          refine r_isub d_X11_odds_63 ?_
          refine r_callV0 (M' := M_X1_spilling) (ci := 1) [(2, 73), (0, p0), (0, (G1 73 7)), (0, (p1 - 1))] d_X11_odds_64 cl_X11_227 rfl (Nat.le_of_ble_eq_true rfl) (by decide) rfl (bs_ob h10) ?_
          refine Ct.mono h (fun r13 G12 h => ?_)
          show Rn _ M_X11_odds zN 67 [(0, (2, 0)), (1, (0, p0)), (2, (0, p1))] [(0, r13)] G12 Q
          exact r_ireturn d_X11_odds_67 rfl ⟨rfl, Nat.le_refl _, Nat.le_refl _⟩ h
        · replace h := h.2 c8
          refine r_aload_n d_X11_odds_23 0 rfl rfl ?_
          obtain ⟨b14, e16⟩ : ∃ y : Int, y = (G1 0 13) := ⟨_, rfl⟩
          replace h := h b14 e16
          obtain ⟨h15, h⟩ := h
          refine r_getM 11 13 13 rfl d_X11_odds_24 fl_X11_54 (by decide) (bs_ob bs_11) e16.symm (bs_nn h15) ?_
          refine r_aload_n d_X11_odds_27 0 rfl rfl ?_
          refine r_getL (v := 73) 11 11 11 rfl d_X11_odds_28 fl_X11_64 (by decide) (bs_ob bs_11) (ly_11_11 bs_11).1 (ly_11_11 bs_11).2.1 ?_
          refine r_iload_n d_X11_odds_31 1 rfl rfl ?_
          refine r_aload_n d_X11_odds_32 0 rfl rfl ?_
          refine r_getL (v := 73) 11 11 11 rfl d_X11_odds_33 fl_X11_64 (by decide) (bs_ob bs_11) (ly_11_11 bs_11).1 (ly_11_11 bs_11).2.1 ?_
          refine r_getI 8 7 7 rfl d_X11_odds_36 fl_X11_139 (by decide) (bs_ob (ly_11_11 bs_11).2.2) ?_
          refine r_callV0 (M' := M_X1_waking) (ci := 1) [(2, 73), (0, p0), (0, (G1 73 7))] d_X11_odds_39 cl_X11_223 rfl (Nat.le_of_ble_eq_true rfl) (by decide) rfl (bs_ob h15) ?_
          refine Ct.mono h (fun r18 G17 h => ?_)
          show Rn _ M_X11_odds zN 42 [(0, (2, 0)), (1, (0, p0)), (2, (0, p1))] [(0, r18)] G17 Q
          refine r_goto (tgt := 67) d_X11_odds_42 (by decide) ?_
          exact r_ireturn d_X11_odds_67 rfl ⟨rfl, Nat.le_refl _, Nat.le_refl _⟩ h
      · replace h := h.2 c7
        refine r_iconst d_X11_odds_17 ?_
        exact r_ireturn d_X11_odds_18 rfl ⟨rfl, Nat.le_refl _, Nat.le_refl _⟩ h
theorem d_X11_chance_0 : decode M_X11_chance.2.1 0 = .ok (.aload_n 0, 1) := by decide +kernel
theorem d_X11_chance_1 : decode M_X11_chance.2.1 1 = .ok (.iload_n 1, 1) := by decide +kernel
theorem d_X11_chance_2 : decode M_X11_chance.2.1 2 = .ok (.invokevirtual 231, 3) := by decide +kernel
theorem d_X11_chance_5 : decode M_X11_chance.2.1 5 = .ok (.ifCond .eq 11, 3) := by decide +kernel
theorem d_X11_chance_8 : decode M_X11_chance.2.1 8 = .ok (.aload_n 0, 1) := by decide +kernel
theorem d_X11_chance_9 : decode M_X11_chance.2.1 9 = .ok (.iload_n 2, 1) := by decide +kernel
theorem d_X11_chance_10 : decode M_X11_chance.2.1 10 = .ok (.invokevirtual 180, 3) := by decide +kernel
theorem d_X11_chance_13 : decode M_X11_chance.2.1 13 = .ok (.ifCond .ne 5, 3) := by decide +kernel
theorem d_X11_chance_16 : decode M_X11_chance.2.1 16 = .ok (.iconst (-1), 1) := by decide +kernel
theorem d_X11_chance_17 : decode M_X11_chance.2.1 17 = .ok (.ireturn, 1) := by decide +kernel
theorem d_X11_chance_18 : decode M_X11_chance.2.1 18 = .ok (.aload_n 0, 1) := by decide +kernel
theorem d_X11_chance_19 : decode M_X11_chance.2.1 19 = .ok (.getfield 26, 3) := by decide +kernel
theorem d_X11_chance_22 : decode M_X11_chance.2.1 22 = .ok (.aload_n 0, 1) := by decide +kernel
theorem d_X11_chance_23 : decode M_X11_chance.2.1 23 = .ok (.getfield 54, 3) := by decide +kernel
theorem d_X11_chance_26 : decode M_X11_chance.2.1 26 = .ok (.aload_n 0, 1) := by decide +kernel
theorem d_X11_chance_27 : decode M_X11_chance.2.1 27 = .ok (.getfield 64, 3) := by decide +kernel
theorem d_X11_chance_30 : decode M_X11_chance.2.1 30 = .ok (.iload_n 1, 1) := by decide +kernel
theorem d_X11_chance_31 : decode M_X11_chance.2.1 31 = .ok (.aload_n 0, 1) := by decide +kernel
theorem d_X11_chance_32 : decode M_X11_chance.2.1 32 = .ok (.getfield 64, 3) := by decide +kernel
theorem d_X11_chance_35 : decode M_X11_chance.2.1 35 = .ok (.getfield 139, 3) := by decide +kernel
theorem d_X11_chance_38 : decode M_X11_chance.2.1 38 = .ok (.invokevirtual 234, 3) := by decide +kernel
theorem d_X11_chance_41 : decode M_X11_chance.2.1 41 = .ok (.aload_n 0, 1) := by decide +kernel
theorem d_X11_chance_42 : decode M_X11_chance.2.1 42 = .ok (.getfield 26, 3) := by decide +kernel
theorem d_X11_chance_45 : decode M_X11_chance.2.1 45 = .ok (.iload_n 2, 1) := by decide +kernel
theorem d_X11_chance_46 : decode M_X11_chance.2.1 46 = .ok (.iload_n 3, 1) := by decide +kernel
theorem d_X11_chance_47 : decode M_X11_chance.2.1 47 = .ok (.invokevirtual 238, 3) := by decide +kernel
theorem d_X11_chance_50 : decode M_X11_chance.2.1 50 = .ok (.ireturn, 1) := by decide +kernel
set_option maxRecDepth 20000 in
theorem s_X11_chance_0 {d : Nat} {p0 : Int} {p1 : Int} {p2 : Int} {G : Mem} {Q : Int → Mem → Prop}  (h : Ct d M_X11_movable NT 0 0 (some lay) [(2, 0), (0, p0)] G (fun r2 G1 => (InR r2) ∧ ((r2 = 0) → Q (-1) G1) ∧ (¬ (r2 = 0) → Ct d M_X11_rightWays NT 0 0 (some lay) [(2, 0), (0, p1)] G1 (fun r6 G5 => (InR r6) ∧ ((r6 ≠ 0) → ∀ b9 : Int, b9 = (G5 0 13) → (Bs 1 b9 ∧ Ct d M_X0_look NT 0 0 (some lay) [(2, 6), (2, b9), (2, 73), (0, p0), (0, (G5 73 7))] G5 (fun r13 G12 => Ct d M_X0_through NT 0 0 (some lay) [(2, 6), (0, p1), (0, p2)] G12 (fun r15 G14 => Q r15 G14)))) ∧ (¬ (r6 ≠ 0) → Q (-1) G5))))) : Rn (d + 1) M_X11_chance zN 0 [(0, (2, 0)), (1, (0, p0)), (2, (0, p1)), (3, (0, p2))] [] G Q := by
  refine r_aload_n d_X11_chance_0 0 rfl rfl ?_
  refine r_iload_n d_X11_chance_1 1 rfl rfl ?_
  refine r_callV0 (M' := M_X11_movable) (ci := 11) [(0, p0)] d_X11_chance_2 cl_X11_231 rfl (Nat.le_of_ble_eq_true rfl) (by decide) rfl (bs_ob bs_11) ?_
  refine Ct.mono h (fun r2 G1 h => ?_)
  show Rn _ M_X11_chance zN 5 [(0, (2, 0)), (1, (0, p0)), (2, (0, p1)), (3, (0, p2))] [(0, r2)] G1 Q
  obtain ⟨h3, h⟩ := h
  refine r_if_eq (tgt := 16) d_X11_chance_5 (by decide) h3 (fun c4 => ?_) (fun c4 => ?_)
  · replace h := h.1 c4
    refine r_iconst d_X11_chance_16 ?_
    exact r_ireturn d_X11_chance_17 rfl ⟨rfl, Nat.le_refl _, Nat.le_refl _⟩ h
  · replace h := h.2 c4
    refine r_aload_n d_X11_chance_8 0 rfl rfl ?_
    refine r_iload_n d_X11_chance_9 2 rfl rfl ?_
    refine r_callV0 (M' := M_X11_rightWays) (ci := 11) [(0, p1)] d_X11_chance_10 cl_X11_180 rfl (Nat.le_of_ble_eq_true rfl) (by decide) rfl (bs_ob bs_11) ?_
    refine Ct.mono h (fun r6 G5 h => ?_)
    show Rn _ M_X11_chance zN 13 [(0, (2, 0)), (1, (0, p0)), (2, (0, p1)), (3, (0, p2))] [(0, r6)] G5 Q
    obtain ⟨h7, h⟩ := h
    refine r_if_ne (tgt := 18) d_X11_chance_13 (by decide) h7 (fun c8 => ?_) (fun c8 => ?_)
    · replace h := h.1 c8
      refine r_aload_n d_X11_chance_18 0 rfl rfl ?_
      refine r_getL (v := 6) 11 2 2 rfl d_X11_chance_19 fl_X11_26 (by decide) (bs_ob bs_11) (ly_11_2 bs_11).1 (ly_11_2 bs_11).2.1 ?_
      refine r_aload_n d_X11_chance_22 0 rfl rfl ?_
      obtain ⟨b9, e11⟩ : ∃ y : Int, y = (G5 0 13) := ⟨_, rfl⟩
      replace h := h b9 e11
      obtain ⟨h10, h⟩ := h
      refine r_getM 11 13 13 rfl d_X11_chance_23 fl_X11_54 (by decide) (bs_ob bs_11) e11.symm (bs_nn h10) ?_
      refine r_aload_n d_X11_chance_26 0 rfl rfl ?_
      refine r_getL (v := 73) 11 11 11 rfl d_X11_chance_27 fl_X11_64 (by decide) (bs_ob bs_11) (ly_11_11 bs_11).1 (ly_11_11 bs_11).2.1 ?_
      refine r_iload_n d_X11_chance_30 1 rfl rfl ?_
      refine r_aload_n d_X11_chance_31 0 rfl rfl ?_
      refine r_getL (v := 73) 11 11 11 rfl d_X11_chance_32 fl_X11_64 (by decide) (bs_ob bs_11) (ly_11_11 bs_11).1 (ly_11_11 bs_11).2.1 ?_
      refine r_getI 8 7 7 rfl d_X11_chance_35 fl_X11_139 (by decide) (bs_ob (ly_11_11 bs_11).2.2) ?_
      refine r_callV0 (M' := M_X0_look) (ci := 0) [(2, b9), (2, 73), (0, p0), (0, (G5 73 7))] d_X11_chance_38 cl_X11_234 rfl (Nat.le_of_ble_eq_true rfl) (by decide) rfl (bs_ob (ly_11_2 bs_11).2.2) ?_
      refine Ct.mono h (fun r13 G12 h => ?_)
      show Rn _ M_X11_chance zN 41 [(0, (2, 0)), (1, (0, p0)), (2, (0, p1)), (3, (0, p2))] [] G12 Q
      refine r_aload_n d_X11_chance_41 0 rfl rfl ?_
      refine r_getL (v := 6) 11 2 2 rfl d_X11_chance_42 fl_X11_26 (by decide) (bs_ob bs_11) (ly_11_2 bs_11).1 (ly_11_2 bs_11).2.1 ?_
      refine r_iload_n d_X11_chance_45 2 rfl rfl ?_
      refine r_iload_n d_X11_chance_46 3 rfl rfl ?_
      refine r_callV0 (M' := M_X0_through) (ci := 0) [(0, p1), (0, p2)] d_X11_chance_47 cl_X11_238 rfl (Nat.le_of_ble_eq_true rfl) (by decide) rfl (bs_ob (ly_11_2 bs_11).2.2) ?_
      refine Ct.mono h (fun r15 G14 h => ?_)
      show Rn _ M_X11_chance zN 50 [(0, (2, 0)), (1, (0, p0)), (2, (0, p1)), (3, (0, p2))] [(0, r15)] G14 Q
      exact r_ireturn d_X11_chance_50 rfl ⟨rfl, Nat.le_refl _, Nat.le_refl _⟩ h
    · replace h := h.2 c8
      refine r_iconst d_X11_chance_16 ?_
      exact r_ireturn d_X11_chance_17 rfl ⟨rfl, Nat.le_refl _, Nat.le_refl _⟩ h
theorem d_X11_cost_0 : decode M_X11_cost.2.1 0 = .ok (.aload_n 0, 1) := by decide +kernel
theorem d_X11_cost_1 : decode M_X11_cost.2.1 1 = .ok (.iload_n 1, 1) := by decide +kernel
theorem d_X11_cost_2 : decode M_X11_cost.2.1 2 = .ok (.invokevirtual 231, 3) := by decide +kernel
theorem d_X11_cost_5 : decode M_X11_cost.2.1 5 = .ok (.ifCond .eq 11, 3) := by decide +kernel
theorem d_X11_cost_8 : decode M_X11_cost.2.1 8 = .ok (.aload_n 0, 1) := by decide +kernel
theorem d_X11_cost_9 : decode M_X11_cost.2.1 9 = .ok (.iload_n 2, 1) := by decide +kernel
theorem d_X11_cost_10 : decode M_X11_cost.2.1 10 = .ok (.invokevirtual 180, 3) := by decide +kernel
theorem d_X11_cost_13 : decode M_X11_cost.2.1 13 = .ok (.ifCond .ne 5, 3) := by decide +kernel
theorem d_X11_cost_16 : decode M_X11_cost.2.1 16 = .ok (.iconst (-1), 1) := by decide +kernel
theorem d_X11_cost_17 : decode M_X11_cost.2.1 17 = .ok (.ireturn, 1) := by decide +kernel
theorem d_X11_cost_18 : decode M_X11_cost.2.1 18 = .ok (.aload_n 0, 1) := by decide +kernel
theorem d_X11_cost_19 : decode M_X11_cost.2.1 19 = .ok (.getfield 26, 3) := by decide +kernel
theorem d_X11_cost_22 : decode M_X11_cost.2.1 22 = .ok (.aload_n 0, 1) := by decide +kernel
theorem d_X11_cost_23 : decode M_X11_cost.2.1 23 = .ok (.getfield 54, 3) := by decide +kernel
theorem d_X11_cost_26 : decode M_X11_cost.2.1 26 = .ok (.aload_n 0, 1) := by decide +kernel
theorem d_X11_cost_27 : decode M_X11_cost.2.1 27 = .ok (.getfield 64, 3) := by decide +kernel
theorem d_X11_cost_30 : decode M_X11_cost.2.1 30 = .ok (.iload_n 1, 1) := by decide +kernel
theorem d_X11_cost_31 : decode M_X11_cost.2.1 31 = .ok (.aload_n 0, 1) := by decide +kernel
theorem d_X11_cost_32 : decode M_X11_cost.2.1 32 = .ok (.getfield 64, 3) := by decide +kernel
theorem d_X11_cost_35 : decode M_X11_cost.2.1 35 = .ok (.getfield 139, 3) := by decide +kernel
theorem d_X11_cost_38 : decode M_X11_cost.2.1 38 = .ok (.invokevirtual 234, 3) := by decide +kernel
theorem d_X11_cost_41 : decode M_X11_cost.2.1 41 = .ok (.aload_n 0, 1) := by decide +kernel
theorem d_X11_cost_42 : decode M_X11_cost.2.1 42 = .ok (.getfield 26, 3) := by decide +kernel
theorem d_X11_cost_45 : decode M_X11_cost.2.1 45 = .ok (.iload_n 2, 1) := by decide +kernel
theorem d_X11_cost_46 : decode M_X11_cost.2.1 46 = .ok (.invokevirtual 242, 3) := by decide +kernel
theorem d_X11_cost_49 : decode M_X11_cost.2.1 49 = .ok (.ireturn, 1) := by decide +kernel
set_option maxRecDepth 20000 in
theorem s_X11_cost_0 {d : Nat} {p0 : Int} {p1 : Int} {G : Mem} {Q : Int → Mem → Prop}  (h : Ct d M_X11_movable NT 0 0 (some lay) [(2, 0), (0, p0)] G (fun r2 G1 => (InR r2) ∧ ((r2 = 0) → Q (-1) G1) ∧ (¬ (r2 = 0) → Ct d M_X11_rightWays NT 0 0 (some lay) [(2, 0), (0, p1)] G1 (fun r6 G5 => (InR r6) ∧ ((r6 ≠ 0) → ∀ b9 : Int, b9 = (G5 0 13) → (Bs 1 b9 ∧ Ct d M_X0_look NT 0 0 (some lay) [(2, 6), (2, b9), (2, 73), (0, p0), (0, (G5 73 7))] G5 (fun r13 G12 => Ct d M_X0_whole NT 0 0 (some lay) [(2, 6), (0, p1)] G12 (fun r15 G14 => Q r15 G14)))) ∧ (¬ (r6 ≠ 0) → Q (-1) G5))))) : Rn (d + 1) M_X11_cost zN 0 [(0, (2, 0)), (1, (0, p0)), (2, (0, p1))] [] G Q := by
  refine r_aload_n d_X11_cost_0 0 rfl rfl ?_
  refine r_iload_n d_X11_cost_1 1 rfl rfl ?_
  refine r_callV0 (M' := M_X11_movable) (ci := 11) [(0, p0)] d_X11_cost_2 cl_X11_231 rfl (Nat.le_of_ble_eq_true rfl) (by decide) rfl (bs_ob bs_11) ?_
  refine Ct.mono h (fun r2 G1 h => ?_)
  show Rn _ M_X11_cost zN 5 [(0, (2, 0)), (1, (0, p0)), (2, (0, p1))] [(0, r2)] G1 Q
  obtain ⟨h3, h⟩ := h
  refine r_if_eq (tgt := 16) d_X11_cost_5 (by decide) h3 (fun c4 => ?_) (fun c4 => ?_)
  · replace h := h.1 c4
    refine r_iconst d_X11_cost_16 ?_
    exact r_ireturn d_X11_cost_17 rfl ⟨rfl, Nat.le_refl _, Nat.le_refl _⟩ h
  · replace h := h.2 c4
    refine r_aload_n d_X11_cost_8 0 rfl rfl ?_
    refine r_iload_n d_X11_cost_9 2 rfl rfl ?_
    refine r_callV0 (M' := M_X11_rightWays) (ci := 11) [(0, p1)] d_X11_cost_10 cl_X11_180 rfl (Nat.le_of_ble_eq_true rfl) (by decide) rfl (bs_ob bs_11) ?_
    refine Ct.mono h (fun r6 G5 h => ?_)
    show Rn _ M_X11_cost zN 13 [(0, (2, 0)), (1, (0, p0)), (2, (0, p1))] [(0, r6)] G5 Q
    obtain ⟨h7, h⟩ := h
    refine r_if_ne (tgt := 18) d_X11_cost_13 (by decide) h7 (fun c8 => ?_) (fun c8 => ?_)
    · replace h := h.1 c8
      refine r_aload_n d_X11_cost_18 0 rfl rfl ?_
      refine r_getL (v := 6) 11 2 2 rfl d_X11_cost_19 fl_X11_26 (by decide) (bs_ob bs_11) (ly_11_2 bs_11).1 (ly_11_2 bs_11).2.1 ?_
      refine r_aload_n d_X11_cost_22 0 rfl rfl ?_
      obtain ⟨b9, e11⟩ : ∃ y : Int, y = (G5 0 13) := ⟨_, rfl⟩
      replace h := h b9 e11
      obtain ⟨h10, h⟩ := h
      refine r_getM 11 13 13 rfl d_X11_cost_23 fl_X11_54 (by decide) (bs_ob bs_11) e11.symm (bs_nn h10) ?_
      refine r_aload_n d_X11_cost_26 0 rfl rfl ?_
      refine r_getL (v := 73) 11 11 11 rfl d_X11_cost_27 fl_X11_64 (by decide) (bs_ob bs_11) (ly_11_11 bs_11).1 (ly_11_11 bs_11).2.1 ?_
      refine r_iload_n d_X11_cost_30 1 rfl rfl ?_
      refine r_aload_n d_X11_cost_31 0 rfl rfl ?_
      refine r_getL (v := 73) 11 11 11 rfl d_X11_cost_32 fl_X11_64 (by decide) (bs_ob bs_11) (ly_11_11 bs_11).1 (ly_11_11 bs_11).2.1 ?_
      refine r_getI 8 7 7 rfl d_X11_cost_35 fl_X11_139 (by decide) (bs_ob (ly_11_11 bs_11).2.2) ?_
      refine r_callV0 (M' := M_X0_look) (ci := 0) [(2, b9), (2, 73), (0, p0), (0, (G5 73 7))] d_X11_cost_38 cl_X11_234 rfl (Nat.le_of_ble_eq_true rfl) (by decide) rfl (bs_ob (ly_11_2 bs_11).2.2) ?_
      refine Ct.mono h (fun r13 G12 h => ?_)
      show Rn _ M_X11_cost zN 41 [(0, (2, 0)), (1, (0, p0)), (2, (0, p1))] [] G12 Q
      refine r_aload_n d_X11_cost_41 0 rfl rfl ?_
      refine r_getL (v := 6) 11 2 2 rfl d_X11_cost_42 fl_X11_26 (by decide) (bs_ob bs_11) (ly_11_2 bs_11).1 (ly_11_2 bs_11).2.1 ?_
      refine r_iload_n d_X11_cost_45 2 rfl rfl ?_
      refine r_callV0 (M' := M_X0_whole) (ci := 0) [(0, p1)] d_X11_cost_46 cl_X11_242 rfl (Nat.le_of_ble_eq_true rfl) (by decide) rfl (bs_ob (ly_11_2 bs_11).2.2) ?_
      refine Ct.mono h (fun r15 G14 h => ?_)
      show Rn _ M_X11_cost zN 49 [(0, (2, 0)), (1, (0, p0)), (2, (0, p1))] [(0, r15)] G14 Q
      exact r_ireturn d_X11_cost_49 rfl ⟨rfl, Nat.le_refl _, Nat.le_refl _⟩ h
    · replace h := h.2 c8
      refine r_iconst d_X11_cost_16 ?_
      exact r_ireturn d_X11_cost_17 rfl ⟨rfl, Nat.le_refl _, Nat.le_refl _⟩ h
theorem d_X11_best_0 : decode M_X11_best.2.1 0 = .ok (.aload_n 0, 1) := by decide +kernel
theorem d_X11_best_1 : decode M_X11_best.2.1 1 = .ok (.iload_n 1, 1) := by decide +kernel
theorem d_X11_best_2 : decode M_X11_best.2.1 2 = .ok (.invokevirtual 231, 3) := by decide +kernel
theorem d_X11_best_5 : decode M_X11_best.2.1 5 = .ok (.ifCond .ne 5, 3) := by decide +kernel
theorem d_X11_best_8 : decode M_X11_best.2.1 8 = .ok (.iconst (-1), 1) := by decide +kernel
theorem d_X11_best_9 : decode M_X11_best.2.1 9 = .ok (.ireturn, 1) := by decide +kernel
theorem d_X11_best_10 : decode M_X11_best.2.1 10 = .ok (.aload_n 0, 1) := by decide +kernel
theorem d_X11_best_11 : decode M_X11_best.2.1 11 = .ok (.getfield 26, 3) := by decide +kernel
theorem d_X11_best_14 : decode M_X11_best.2.1 14 = .ok (.aload_n 0, 1) := by decide +kernel
theorem d_X11_best_15 : decode M_X11_best.2.1 15 = .ok (.getfield 54, 3) := by decide +kernel
theorem d_X11_best_18 : decode M_X11_best.2.1 18 = .ok (.aload_n 0, 1) := by decide +kernel
theorem d_X11_best_19 : decode M_X11_best.2.1 19 = .ok (.getfield 64, 3) := by decide +kernel
theorem d_X11_best_22 : decode M_X11_best.2.1 22 = .ok (.iload_n 1, 1) := by decide +kernel
theorem d_X11_best_23 : decode M_X11_best.2.1 23 = .ok (.aload_n 0, 1) := by decide +kernel
theorem d_X11_best_24 : decode M_X11_best.2.1 24 = .ok (.getfield 64, 3) := by decide +kernel
theorem d_X11_best_27 : decode M_X11_best.2.1 27 = .ok (.getfield 139, 3) := by decide +kernel
theorem d_X11_best_30 : decode M_X11_best.2.1 30 = .ok (.invokevirtual 234, 3) := by decide +kernel
theorem d_X11_best_33 : decode M_X11_best.2.1 33 = .ok (.aload_n 0, 1) := by decide +kernel
theorem d_X11_best_34 : decode M_X11_best.2.1 34 = .ok (.getfield 26, 3) := by decide +kernel
theorem d_X11_best_37 : decode M_X11_best.2.1 37 = .ok (.invokevirtual 246, 3) := by decide +kernel
theorem d_X11_best_40 : decode M_X11_best.2.1 40 = .ok (.ireturn, 1) := by decide +kernel
set_option maxRecDepth 20000 in
theorem s_X11_best_0 {d : Nat} {p0 : Int} {G : Mem} {Q : Int → Mem → Prop}  (h : Ct d M_X11_movable NT 0 0 (some lay) [(2, 0), (0, p0)] G (fun r2 G1 => (InR r2) ∧ ((r2 ≠ 0) → ∀ b5 : Int, b5 = (G1 0 13) → (Bs 1 b5 ∧ Ct d M_X0_look NT 0 0 (some lay) [(2, 6), (2, b5), (2, 73), (0, p0), (0, (G1 73 7))] G1 (fun r9 G8 => Ct d M_X0_cheapest NT 0 0 (some lay) [(2, 6)] G8 (fun r11 G10 => Q r11 G10)))) ∧ (¬ (r2 ≠ 0) → Q (-1) G1))) : Rn (d + 1) M_X11_best zN 0 [(0, (2, 0)), (1, (0, p0))] [] G Q := by
  refine r_aload_n d_X11_best_0 0 rfl rfl ?_
  refine r_iload_n d_X11_best_1 1 rfl rfl ?_
  refine r_callV0 (M' := M_X11_movable) (ci := 11) [(0, p0)] d_X11_best_2 cl_X11_231 rfl (Nat.le_of_ble_eq_true rfl) (by decide) rfl (bs_ob bs_11) ?_
  refine Ct.mono h (fun r2 G1 h => ?_)
  show Rn _ M_X11_best zN 5 [(0, (2, 0)), (1, (0, p0))] [(0, r2)] G1 Q
  obtain ⟨h3, h⟩ := h
  refine r_if_ne (tgt := 10) d_X11_best_5 (by decide) h3 (fun c4 => ?_) (fun c4 => ?_)
  · replace h := h.1 c4
    refine r_aload_n d_X11_best_10 0 rfl rfl ?_
    refine r_getL (v := 6) 11 2 2 rfl d_X11_best_11 fl_X11_26 (by decide) (bs_ob bs_11) (ly_11_2 bs_11).1 (ly_11_2 bs_11).2.1 ?_
    refine r_aload_n d_X11_best_14 0 rfl rfl ?_
    obtain ⟨b5, e7⟩ : ∃ y : Int, y = (G1 0 13) := ⟨_, rfl⟩
    replace h := h b5 e7
    obtain ⟨h6, h⟩ := h
    refine r_getM 11 13 13 rfl d_X11_best_15 fl_X11_54 (by decide) (bs_ob bs_11) e7.symm (bs_nn h6) ?_
    refine r_aload_n d_X11_best_18 0 rfl rfl ?_
    refine r_getL (v := 73) 11 11 11 rfl d_X11_best_19 fl_X11_64 (by decide) (bs_ob bs_11) (ly_11_11 bs_11).1 (ly_11_11 bs_11).2.1 ?_
    refine r_iload_n d_X11_best_22 1 rfl rfl ?_
    refine r_aload_n d_X11_best_23 0 rfl rfl ?_
    refine r_getL (v := 73) 11 11 11 rfl d_X11_best_24 fl_X11_64 (by decide) (bs_ob bs_11) (ly_11_11 bs_11).1 (ly_11_11 bs_11).2.1 ?_
    refine r_getI 8 7 7 rfl d_X11_best_27 fl_X11_139 (by decide) (bs_ob (ly_11_11 bs_11).2.2) ?_
    refine r_callV0 (M' := M_X0_look) (ci := 0) [(2, b5), (2, 73), (0, p0), (0, (G1 73 7))] d_X11_best_30 cl_X11_234 rfl (Nat.le_of_ble_eq_true rfl) (by decide) rfl (bs_ob (ly_11_2 bs_11).2.2) ?_
    refine Ct.mono h (fun r9 G8 h => ?_)
    show Rn _ M_X11_best zN 33 [(0, (2, 0)), (1, (0, p0))] [] G8 Q
    refine r_aload_n d_X11_best_33 0 rfl rfl ?_
    refine r_getL (v := 6) 11 2 2 rfl d_X11_best_34 fl_X11_26 (by decide) (bs_ob bs_11) (ly_11_2 bs_11).1 (ly_11_2 bs_11).2.1 ?_
    refine r_callV0 (M' := M_X0_cheapest) (ci := 0) [] d_X11_best_37 cl_X11_246 rfl (Nat.le_of_ble_eq_true rfl) (by decide) rfl (bs_ob (ly_11_2 bs_11).2.2) ?_
    refine Ct.mono h (fun r11 G10 h => ?_)
    show Rn _ M_X11_best zN 40 [(0, (2, 0)), (1, (0, p0))] [(0, r11)] G10 Q
    exact r_ireturn d_X11_best_40 rfl ⟨rfl, Nat.le_refl _, Nat.le_refl _⟩ h
  · replace h := h.2 c4
    refine r_iconst d_X11_best_8 ?_
    exact r_ireturn d_X11_best_9 rfl ⟨rfl, Nat.le_refl _, Nat.le_refl _⟩ h
theorem d_X11_side_0 : decode M_X11_side.2.1 0 = .ok (.aload_n 0, 1) := by decide +kernel
theorem d_X11_side_1 : decode M_X11_side.2.1 1 = .ok (.iload_n 1, 1) := by decide +kernel
theorem d_X11_side_2 : decode M_X11_side.2.1 2 = .ok (.invokevirtual 119, 3) := by decide +kernel
theorem d_X11_side_5 : decode M_X11_side.2.1 5 = .ok (.ifCond .eq 25, 3) := by decide +kernel
theorem d_X11_side_8 : decode M_X11_side.2.1 8 = .ok (.aload_n 0, 1) := by decide +kernel
theorem d_X11_side_9 : decode M_X11_side.2.1 9 = .ok (.getfield 64, 3) := by decide +kernel
theorem d_X11_side_12 : decode M_X11_side.2.1 12 = .ok (.aload_n 0, 1) := by decide +kernel
theorem d_X11_side_13 : decode M_X11_side.2.1 13 = .ok (.getfield 54, 3) := by decide +kernel
theorem d_X11_side_16 : decode M_X11_side.2.1 16 = .ok (.iload_n 1, 1) := by decide +kernel
theorem d_X11_side_17 : decode M_X11_side.2.1 17 = .ok (.aload_n 0, 1) := by decide +kernel
theorem d_X11_side_18 : decode M_X11_side.2.1 18 = .ok (.getfield 64, 3) := by decide +kernel
theorem d_X11_side_21 : decode M_X11_side.2.1 21 = .ok (.getfield 139, 3) := by decide +kernel
theorem d_X11_side_24 : decode M_X11_side.2.1 24 = .ok (.invokevirtual 142, 3) := by decide +kernel
theorem d_X11_side_27 : decode M_X11_side.2.1 27 = .ok (.ifCond .ne 5, 3) := by decide +kernel
theorem d_X11_side_30 : decode M_X11_side.2.1 30 = .ok (.iconst (-1), 1) := by decide +kernel
theorem d_X11_side_31 : decode M_X11_side.2.1 31 = .ok (.ireturn, 1) := by decide +kernel
theorem d_X11_side_32 : decode M_X11_side.2.1 32 = .ok (.aload_n 0, 1) := by decide +kernel
theorem d_X11_side_33 : decode M_X11_side.2.1 33 = .ok (.getfield 54, 3) := by decide +kernel
theorem d_X11_side_36 : decode M_X11_side.2.1 36 = .ok (.aload_n 0, 1) := by decide +kernel
theorem d_X11_side_37 : decode M_X11_side.2.1 37 = .ok (.getfield 64, 3) := by decide +kernel
theorem d_X11_side_40 : decode M_X11_side.2.1 40 = .ok (.iload_n 1, 1) := by decide +kernel
theorem d_X11_side_41 : decode M_X11_side.2.1 41 = .ok (.aload_n 0, 1) := by decide +kernel
theorem d_X11_side_42 : decode M_X11_side.2.1 42 = .ok (.getfield 64, 3) := by decide +kernel
theorem d_X11_side_45 : decode M_X11_side.2.1 45 = .ok (.getfield 139, 3) := by decide +kernel
theorem d_X11_side_48 : decode M_X11_side.2.1 48 = .ok (.iconst 0, 1) := by decide +kernel
theorem d_X11_side_49 : decode M_X11_side.2.1 49 = .ok (.invokevirtual 227, 3) := by decide +kernel
theorem d_X11_side_52 : decode M_X11_side.2.1 52 = .ok (.istore_n 2, 1) := by decide +kernel
theorem d_X11_side_53 : decode M_X11_side.2.1 53 = .ok (.aload_n 0, 1) := by decide +kernel
theorem d_X11_side_54 : decode M_X11_side.2.1 54 = .ok (.getfield 54, 3) := by decide +kernel
theorem d_X11_side_57 : decode M_X11_side.2.1 57 = .ok (.aload_n 0, 1) := by decide +kernel
theorem d_X11_side_58 : decode M_X11_side.2.1 58 = .ok (.getfield 64, 3) := by decide +kernel
theorem d_X11_side_61 : decode M_X11_side.2.1 61 = .ok (.iload_n 1, 1) := by decide +kernel
theorem d_X11_side_62 : decode M_X11_side.2.1 62 = .ok (.aload_n 0, 1) := by decide +kernel
theorem d_X11_side_63 : decode M_X11_side.2.1 63 = .ok (.getfield 64, 3) := by decide +kernel
theorem d_X11_side_66 : decode M_X11_side.2.1 66 = .ok (.getfield 139, 3) := by decide +kernel
theorem d_X11_side_69 : decode M_X11_side.2.1 69 = .ok (.iconst 1, 1) := by decide +kernel
theorem d_X11_side_70 : decode M_X11_side.2.1 70 = .ok (.invokevirtual 227, 3) := by decide +kernel
theorem d_X11_side_73 : decode M_X11_side.2.1 73 = .ok (.istore_n 3, 1) := by decide +kernel
theorem d_X11_side_74 : decode M_X11_side.2.1 74 = .ok (.iload_n 3, 1) := by decide +kernel
theorem d_X11_side_75 : decode M_X11_side.2.1 75 = .ok (.iload_n 2, 1) := by decide +kernel
theorem d_X11_side_76 : decode M_X11_side.2.1 76 = .ok (.if_icmp .ge 7, 3) := by decide +kernel
theorem d_X11_side_79 : decode M_X11_side.2.1 79 = .ok (.iconst 1, 1) := by decide +kernel
theorem d_X11_side_80 : decode M_X11_side.2.1 80 = .ok (.goto 4, 3) := by decide +kernel
theorem d_X11_side_83 : decode M_X11_side.2.1 83 = .ok (.iconst 0, 1) := by decide +kernel
theorem d_X11_side_84 : decode M_X11_side.2.1 84 = .ok (.ireturn, 1) := by decide +kernel
set_option maxRecDepth 20000 in
theorem s_X11_side_0 {d : Nat} {p0 : Int} {G : Mem} {Q : Int → Mem → Prop}  (h : Ct d M_X11_known NT 0 0 (some lay) [(2, 0), (0, p0)] G (fun r2 G1 => (InR r2) ∧ ((r2 = 0) → Q (-1) G1) ∧ (¬ (r2 = 0) → ∀ b5 : Int, b5 = (G1 0 13) → (Bs 1 b5 ∧ Ct d M_X8_asleep NT 0 0 (some lay) [(2, 73), (2, b5), (0, p0), (0, (G1 73 7))] G1 (fun r9 G8 => (InR r9) ∧ ((r9 ≠ 0) → ∀ b12 : Int, b12 = (G8 0 13) → (Bs 1 b12 ∧ Ct d M_X1_spilling NT 0 0 (some lay) [(2, b12), (2, 73), (0, p0), (0, (G8 73 7)), (0, 0)] G8 (fun r16 G15 => ∀ b17 : Int, b17 = (G15 0 13) → (Bs 1 b17 ∧ Ct d M_X1_spilling NT 0 0 (some lay) [(2, b17), (2, 73), (0, p0), (0, (G15 73 7)), (0, 1)] G15 (fun r21 G20 => (InR r21) ∧ (InR r16) ∧ ((r16 ≤ r21) → Q 0 G20) ∧ (¬ (r16 ≤ r21) → Q 1 G20)))))) ∧ (¬ (r9 ≠ 0) → Q (-1) G8)))))) : Rn (d + 1) M_X11_side zN 0 [(0, (2, 0)), (1, (0, p0))] [] G Q := by
  refine r_aload_n d_X11_side_0 0 rfl rfl ?_
  refine r_iload_n d_X11_side_1 1 rfl rfl ?_
  refine r_callV0 (M' := M_X11_known) (ci := 11) [(0, p0)] d_X11_side_2 cl_X11_119 rfl (Nat.le_of_ble_eq_true rfl) (by decide) rfl (bs_ob bs_11) ?_
  refine Ct.mono h (fun r2 G1 h => ?_)
  show Rn _ M_X11_side zN 5 [(0, (2, 0)), (1, (0, p0))] [(0, r2)] G1 Q
  obtain ⟨h3, h⟩ := h
  refine r_if_eq (tgt := 30) d_X11_side_5 (by decide) h3 (fun c4 => ?_) (fun c4 => ?_)
  · replace h := h.1 c4
    refine r_iconst d_X11_side_30 ?_
    exact r_ireturn d_X11_side_31 rfl ⟨rfl, Nat.le_refl _, Nat.le_refl _⟩ h
  · replace h := h.2 c4
    refine r_aload_n d_X11_side_8 0 rfl rfl ?_
    refine r_getL (v := 73) 11 11 11 rfl d_X11_side_9 fl_X11_64 (by decide) (bs_ob bs_11) (ly_11_11 bs_11).1 (ly_11_11 bs_11).2.1 ?_
    refine r_aload_n d_X11_side_12 0 rfl rfl ?_
    obtain ⟨b5, e7⟩ : ∃ y : Int, y = (G1 0 13) := ⟨_, rfl⟩
    replace h := h b5 e7
    obtain ⟨h6, h⟩ := h
    refine r_getM 11 13 13 rfl d_X11_side_13 fl_X11_54 (by decide) (bs_ob bs_11) e7.symm (bs_nn h6) ?_
    refine r_iload_n d_X11_side_16 1 rfl rfl ?_
    refine r_aload_n d_X11_side_17 0 rfl rfl ?_
    refine r_getL (v := 73) 11 11 11 rfl d_X11_side_18 fl_X11_64 (by decide) (bs_ob bs_11) (ly_11_11 bs_11).1 (ly_11_11 bs_11).2.1 ?_
    refine r_getI 8 7 7 rfl d_X11_side_21 fl_X11_139 (by decide) (bs_ob (ly_11_11 bs_11).2.2) ?_
    refine r_callV0 (M' := M_X8_asleep) (ci := 8) [(2, b5), (0, p0), (0, (G1 73 7))] d_X11_side_24 cl_X11_142 rfl (Nat.le_of_ble_eq_true rfl) (by decide) rfl (bs_ob (ly_11_11 bs_11).2.2) ?_
    refine Ct.mono h (fun r9 G8 h => ?_)
    show Rn _ M_X11_side zN 27 [(0, (2, 0)), (1, (0, p0))] [(0, r9)] G8 Q
    obtain ⟨h10, h⟩ := h
    refine r_if_ne (tgt := 32) d_X11_side_27 (by decide) h10 (fun c11 => ?_) (fun c11 => ?_)
    · replace h := h.1 c11
      refine r_aload_n d_X11_side_32 0 rfl rfl ?_
      obtain ⟨b12, e14⟩ : ∃ y : Int, y = (G8 0 13) := ⟨_, rfl⟩
      replace h := h b12 e14
      obtain ⟨h13, h⟩ := h
      refine r_getM 11 13 13 rfl d_X11_side_33 fl_X11_54 (by decide) (bs_ob bs_11) e14.symm (bs_nn h13) ?_
      refine r_aload_n d_X11_side_36 0 rfl rfl ?_
      refine r_getL (v := 73) 11 11 11 rfl d_X11_side_37 fl_X11_64 (by decide) (bs_ob bs_11) (ly_11_11 bs_11).1 (ly_11_11 bs_11).2.1 ?_
      refine r_iload_n d_X11_side_40 1 rfl rfl ?_
      refine r_aload_n d_X11_side_41 0 rfl rfl ?_
      refine r_getL (v := 73) 11 11 11 rfl d_X11_side_42 fl_X11_64 (by decide) (bs_ob bs_11) (ly_11_11 bs_11).1 (ly_11_11 bs_11).2.1 ?_
      refine r_getI 8 7 7 rfl d_X11_side_45 fl_X11_139 (by decide) (bs_ob (ly_11_11 bs_11).2.2) ?_
      refine r_iconst d_X11_side_48 ?_
      refine r_callV0 (M' := M_X1_spilling) (ci := 1) [(2, 73), (0, p0), (0, (G8 73 7)), (0, 0)] d_X11_side_49 cl_X11_227 rfl (Nat.le_of_ble_eq_true rfl) (by decide) rfl (bs_ob h13) ?_
      refine Ct.mono h (fun r16 G15 h => ?_)
      show Rn _ M_X11_side zN 52 [(0, (2, 0)), (1, (0, p0))] [(0, r16)] G15 Q
      refine r_istore_n (ls1 := [(2, (0, r16)), (0, (2, 0)), (1, (0, p0))]) d_X11_side_52 rfl (by decide) rfl ?_
      refine r_aload_n d_X11_side_53 1 rfl rfl ?_
      obtain ⟨b17, e19⟩ : ∃ y : Int, y = (G15 0 13) := ⟨_, rfl⟩
      replace h := h b17 e19
      obtain ⟨h18, h⟩ := h
      refine r_getM 11 13 13 rfl d_X11_side_54 fl_X11_54 (by decide) (bs_ob bs_11) e19.symm (bs_nn h18) ?_
      refine r_aload_n d_X11_side_57 1 rfl rfl ?_
      refine r_getL (v := 73) 11 11 11 rfl d_X11_side_58 fl_X11_64 (by decide) (bs_ob bs_11) (ly_11_11 bs_11).1 (ly_11_11 bs_11).2.1 ?_
      refine r_iload_n d_X11_side_61 2 rfl rfl ?_
      refine r_aload_n d_X11_side_62 1 rfl rfl ?_
      refine r_getL (v := 73) 11 11 11 rfl d_X11_side_63 fl_X11_64 (by decide) (bs_ob bs_11) (ly_11_11 bs_11).1 (ly_11_11 bs_11).2.1 ?_
      refine r_getI 8 7 7 rfl d_X11_side_66 fl_X11_139 (by decide) (bs_ob (ly_11_11 bs_11).2.2) ?_
      refine r_iconst d_X11_side_69 ?_
      refine r_callV0 (M' := M_X1_spilling) (ci := 1) [(2, 73), (0, p0), (0, (G15 73 7)), (0, 1)] d_X11_side_70 cl_X11_227 rfl (Nat.le_of_ble_eq_true rfl) (by decide) rfl (bs_ob h18) ?_
      refine Ct.mono h (fun r21 G20 h => ?_)
      show Rn _ M_X11_side zN 73 [(2, (0, r16)), (0, (2, 0)), (1, (0, p0))] [(0, r21)] G20 Q
      refine r_istore_n (ls1 := [(3, (0, r21)), (2, (0, r16)), (0, (2, 0)), (1, (0, p0))]) d_X11_side_73 rfl (by decide) rfl ?_
      refine r_iload_n d_X11_side_74 0 rfl rfl ?_
      refine r_iload_n d_X11_side_75 1 rfl rfl ?_
      obtain ⟨h22, h⟩ := h
      obtain ⟨h23, h⟩ := h
      refine r_icmp_ge (tgt := 83) d_X11_side_76 (by decide) h22 h23 (fun c24 => ?_) (fun c24 => ?_)
      · replace h := h.1 c24
        refine r_iconst d_X11_side_83 ?_
        exact r_ireturn d_X11_side_84 rfl ⟨rfl, Nat.le_refl _, Nat.le_refl _⟩ h
      · replace h := h.2 c24
        refine r_iconst d_X11_side_79 ?_
        refine r_goto (tgt := 84) d_X11_side_80 (by decide) ?_
        exact r_ireturn d_X11_side_84 rfl ⟨rfl, Nat.le_refl _, Nat.le_refl _⟩ h
    · replace h := h.2 c11
      refine r_iconst d_X11_side_30 ?_
      exact r_ireturn d_X11_side_31 rfl ⟨rfl, Nat.le_refl _, Nat.le_refl _⟩ h
theorem d_X11_regime_0 : decode M_X11_regime.2.1 0 = .ok (.aload_n 0, 1) := by decide +kernel
theorem d_X11_regime_1 : decode M_X11_regime.2.1 1 = .ok (.iload_n 1, 1) := by decide +kernel
theorem d_X11_regime_2 : decode M_X11_regime.2.1 2 = .ok (.invokevirtual 119, 3) := by decide +kernel
theorem d_X11_regime_5 : decode M_X11_regime.2.1 5 = .ok (.ifCond .eq 24, 3) := by decide +kernel
theorem d_X11_regime_8 : decode M_X11_regime.2.1 8 = .ok (.aload_n 0, 1) := by decide +kernel
theorem d_X11_regime_9 : decode M_X11_regime.2.1 9 = .ok (.getfield 64, 3) := by decide +kernel
theorem d_X11_regime_12 : decode M_X11_regime.2.1 12 = .ok (.getfield 146, 3) := by decide +kernel
theorem d_X11_regime_15 : decode M_X11_regime.2.1 15 = .ok (.iload_n 1, 1) := by decide +kernel
theorem d_X11_regime_16 : decode M_X11_regime.2.1 16 = .ok (.iaload, 1) := by decide +kernel
theorem d_X11_regime_17 : decode M_X11_regime.2.1 17 = .ok (.ifCond .ne 12, 3) := by decide +kernel
theorem d_X11_regime_20 : decode M_X11_regime.2.1 20 = .ok (.iload_n 2, 1) := by decide +kernel
theorem d_X11_regime_21 : decode M_X11_regime.2.1 21 = .ok (.ifCond .lt 8, 3) := by decide +kernel
theorem d_X11_regime_24 : decode M_X11_regime.2.1 24 = .ok (.iload_n 2, 1) := by decide +kernel
theorem d_X11_regime_25 : decode M_X11_regime.2.1 25 = .ok (.iconst 1, 1) := by decide +kernel
theorem d_X11_regime_26 : decode M_X11_regime.2.1 26 = .ok (.if_icmp .le 5, 3) := by decide +kernel
theorem d_X11_regime_29 : decode M_X11_regime.2.1 29 = .ok (.iconst (-1), 1) := by decide +kernel
theorem d_X11_regime_30 : decode M_X11_regime.2.1 30 = .ok (.ireturn, 1) := by decide +kernel
theorem d_X11_regime_31 : decode M_X11_regime.2.1 31 = .ok (.aload_n 0, 1) := by decide +kernel
theorem d_X11_regime_32 : decode M_X11_regime.2.1 32 = .ok (.getfield 33, 3) := by decide +kernel
theorem d_X11_regime_35 : decode M_X11_regime.2.1 35 = .ok (.aload_n 0, 1) := by decide +kernel
theorem d_X11_regime_36 : decode M_X11_regime.2.1 36 = .ok (.getfield 54, 3) := by decide +kernel
theorem d_X11_regime_39 : decode M_X11_regime.2.1 39 = .ok (.aload_n 0, 1) := by decide +kernel
theorem d_X11_regime_40 : decode M_X11_regime.2.1 40 = .ok (.getfield 64, 3) := by decide +kernel
theorem d_X11_regime_43 : decode M_X11_regime.2.1 43 = .ok (.iload_n 1, 1) := by decide +kernel
theorem d_X11_regime_44 : decode M_X11_regime.2.1 44 = .ok (.aload_n 0, 1) := by decide +kernel
theorem d_X11_regime_45 : decode M_X11_regime.2.1 45 = .ok (.getfield 26, 3) := by decide +kernel
theorem d_X11_regime_48 : decode M_X11_regime.2.1 48 = .ok (.invokevirtual 249, 3) := by decide +kernel
theorem d_X11_regime_51 : decode M_X11_regime.2.1 51 = .ok (.iload_n 2, 1) := by decide +kernel
theorem d_X11_regime_52 : decode M_X11_regime.2.1 52 = .ok (.ifCond .ne 11, 3) := by decide +kernel
theorem d_X11_regime_55 : decode M_X11_regime.2.1 55 = .ok (.aload_n 0, 1) := by decide +kernel
theorem d_X11_regime_56 : decode M_X11_regime.2.1 56 = .ok (.getfield 33, 3) := by decide +kernel
theorem d_X11_regime_59 : decode M_X11_regime.2.1 59 = .ok (.getfield 253, 3) := by decide +kernel
theorem d_X11_regime_62 : decode M_X11_regime.2.1 62 = .ok (.ireturn, 1) := by decide +kernel
theorem d_X11_regime_63 : decode M_X11_regime.2.1 63 = .ok (.aload_n 0, 1) := by decide +kernel
theorem d_X11_regime_64 : decode M_X11_regime.2.1 64 = .ok (.getfield 33, 3) := by decide +kernel
theorem d_X11_regime_67 : decode M_X11_regime.2.1 67 = .ok (.getfield 256, 3) := by decide +kernel
theorem d_X11_regime_70 : decode M_X11_regime.2.1 70 = .ok (.aload_n 0, 1) := by decide +kernel
theorem d_X11_regime_71 : decode M_X11_regime.2.1 71 = .ok (.getfield 64, 3) := by decide +kernel
theorem d_X11_regime_74 : decode M_X11_regime.2.1 74 = .ok (.getfield 139, 3) := by decide +kernel
theorem d_X11_regime_77 : decode M_X11_regime.2.1 77 = .ok (.if_icmp .ne 7, 3) := by decide +kernel
theorem d_X11_regime_80 : decode M_X11_regime.2.1 80 = .ok (.iconst 1, 1) := by decide +kernel
theorem d_X11_regime_81 : decode M_X11_regime.2.1 81 = .ok (.goto 4, 3) := by decide +kernel
theorem d_X11_regime_84 : decode M_X11_regime.2.1 84 = .ok (.iconst 0, 1) := by decide +kernel
theorem d_X11_regime_85 : decode M_X11_regime.2.1 85 = .ok (.ireturn, 1) := by decide +kernel
set_option maxRecDepth 20000 in
theorem s_X11_regime_0 {d : Nat} {p0 : Int} {p1 : Int} {G : Mem} {Q : Int → Mem → Prop}  (h : Ct d M_X11_known NT 0 0 (some lay) [(2, 0), (0, p0)] G (fun r2 G1 => (InR r2) ∧ ((r2 = 0) → Q (-1) G1) ∧ (¬ (r2 = 0) → (0 ≤ p0 ∧ p0 < 5) ∧ ((InR (G1 75 p0)) ∧ (((G1 75 p0) ≠ 0) → Q (-1) G1) ∧ (¬ ((G1 75 p0) ≠ 0) → (InR p1) ∧ ((p1 < 0) → Q (-1) G1) ∧ (¬ (p1 < 0) → ((p1 ≤ 1) → ∀ b11 : Int, b11 = (G1 0 13) → (Bs 1 b11 ∧ Ct d M_X4_byCost NT 0 0 (some lay) [(2, 12), (2, b11), (2, 73), (0, p0), (2, 6)] G1 (fun r15 G14 => ((p1 ≠ 0) → (InR (G14 12 1)) ∧ (InR (G14 73 7)) ∧ (((G14 12 1) ≠ (G14 73 7)) → Q 0 G14) ∧ (¬ ((G14 12 1) ≠ (G14 73 7)) → Q 1 G14)) ∧ (¬ (p1 ≠ 0) → Q (G14 12 0) G14)))) ∧ (¬ (p1 ≤ 1) → Q (-1) G1))))))) : Rn (d + 1) M_X11_regime zN 0 [(0, (2, 0)), (1, (0, p0)), (2, (0, p1))] [] G Q := by
  refine r_aload_n d_X11_regime_0 0 rfl rfl ?_
  refine r_iload_n d_X11_regime_1 1 rfl rfl ?_
  refine r_callV0 (M' := M_X11_known) (ci := 11) [(0, p0)] d_X11_regime_2 cl_X11_119 rfl (Nat.le_of_ble_eq_true rfl) (by decide) rfl (bs_ob bs_11) ?_
  refine Ct.mono h (fun r2 G1 h => ?_)
  show Rn _ M_X11_regime zN 5 [(0, (2, 0)), (1, (0, p0)), (2, (0, p1))] [(0, r2)] G1 Q
  obtain ⟨h3, h⟩ := h
  refine r_if_eq (tgt := 29) d_X11_regime_5 (by decide) h3 (fun c4 => ?_) (fun c4 => ?_)
  · replace h := h.1 c4
    refine r_iconst d_X11_regime_29 ?_
    exact r_ireturn d_X11_regime_30 rfl ⟨rfl, Nat.le_refl _, Nat.le_refl _⟩ h
  · replace h := h.2 c4
    refine r_aload_n d_X11_regime_8 0 rfl rfl ?_
    refine r_getL (v := 73) 11 11 11 rfl d_X11_regime_9 fl_X11_64 (by decide) (bs_ob bs_11) (ly_11_11 bs_11).1 (ly_11_11 bs_11).2.1 ?_
    refine r_getL (v := 75) 8 1 1 rfl d_X11_regime_12 fl_X11_146 (by decide) (bs_ob (ly_11_11 bs_11).2.2) (ly_8_1 (ly_11_11 bs_11).2.2).1 (ly_8_1 (ly_11_11 bs_11).2.2).2.1 ?_
    refine r_iload_n d_X11_regime_15 1 rfl rfl ?_
    obtain ⟨h5, h⟩ := h
    refine r_iaload d_X11_regime_16 (ly_8_1 (ly_11_11 bs_11).2.2).2.2 h5 ?_
    obtain ⟨h6, h⟩ := h
    refine r_if_ne (tgt := 29) d_X11_regime_17 (by decide) h6 (fun c7 => ?_) (fun c7 => ?_)
    · replace h := h.1 c7
      refine r_iconst d_X11_regime_29 ?_
      exact r_ireturn d_X11_regime_30 rfl ⟨rfl, Nat.le_refl _, Nat.le_refl _⟩ h
    · replace h := h.2 c7
      refine r_iload_n d_X11_regime_20 2 rfl rfl ?_
      obtain ⟨h8, h⟩ := h
      refine r_if_lt (tgt := 29) d_X11_regime_21 (by decide) h8 (fun c9 => ?_) (fun c9 => ?_)
      · replace h := h.1 c9
        refine r_iconst d_X11_regime_29 ?_
        exact r_ireturn d_X11_regime_30 rfl ⟨rfl, Nat.le_refl _, Nat.le_refl _⟩ h
      · replace h := h.2 c9
        refine r_iload_n d_X11_regime_24 2 rfl rfl ?_
        refine r_iconst d_X11_regime_25 ?_
        refine r_icmp_le (tgt := 31) d_X11_regime_26 (by decide) h8 ⟨by decide, by decide⟩ (fun c10 => ?_) (fun c10 => ?_)
        · replace h := h.1 c10
          refine r_aload_n d_X11_regime_31 0 rfl rfl ?_
          refine r_getL (v := 12) 11 3 3 rfl d_X11_regime_32 fl_X11_33 (by decide) (bs_ob bs_11) (ly_11_3 bs_11).1 (ly_11_3 bs_11).2.1 ?_
          refine r_aload_n d_X11_regime_35 0 rfl rfl ?_
          obtain ⟨b11, e13⟩ : ∃ y : Int, y = (G1 0 13) := ⟨_, rfl⟩
          replace h := h b11 e13
          obtain ⟨h12, h⟩ := h
          refine r_getM 11 13 13 rfl d_X11_regime_36 fl_X11_54 (by decide) (bs_ob bs_11) e13.symm (bs_nn h12) ?_
          refine r_aload_n d_X11_regime_39 0 rfl rfl ?_
          refine r_getL (v := 73) 11 11 11 rfl d_X11_regime_40 fl_X11_64 (by decide) (bs_ob bs_11) (ly_11_11 bs_11).1 (ly_11_11 bs_11).2.1 ?_
          refine r_iload_n d_X11_regime_43 1 rfl rfl ?_
          refine r_aload_n d_X11_regime_44 0 rfl rfl ?_
          refine r_getL (v := 6) 11 2 2 rfl d_X11_regime_45 fl_X11_26 (by decide) (bs_ob bs_11) (ly_11_2 bs_11).1 (ly_11_2 bs_11).2.1 ?_
          refine r_callV0 (M' := M_X4_byCost) (ci := 4) [(2, b11), (2, 73), (0, p0), (2, 6)] d_X11_regime_48 cl_X11_249 rfl (Nat.le_of_ble_eq_true rfl) (by decide) rfl (bs_ob (ly_11_3 bs_11).2.2) ?_
          refine Ct.mono h (fun r15 G14 h => ?_)
          show Rn _ M_X11_regime zN 51 [(0, (2, 0)), (1, (0, p0)), (2, (0, p1))] [] G14 Q
          refine r_iload_n d_X11_regime_51 2 rfl rfl ?_
          refine r_if_ne (tgt := 63) d_X11_regime_52 (by decide) h8 (fun c16 => ?_) (fun c16 => ?_)
          · replace h := h.1 c16
            refine r_aload_n d_X11_regime_63 0 rfl rfl ?_
            refine r_getL (v := 12) 11 3 3 rfl d_X11_regime_64 fl_X11_33 (by decide) (bs_ob bs_11) (ly_11_3 bs_11).1 (ly_11_3 bs_11).2.1 ?_
            refine r_getI 4 1 1 rfl d_X11_regime_67 fl_X11_256 (by decide) (bs_ob (ly_11_3 bs_11).2.2) ?_
            refine r_aload_n d_X11_regime_70 0 rfl rfl ?_
            refine r_getL (v := 73) 11 11 11 rfl d_X11_regime_71 fl_X11_64 (by decide) (bs_ob bs_11) (ly_11_11 bs_11).1 (ly_11_11 bs_11).2.1 ?_
            refine r_getI 8 7 7 rfl d_X11_regime_74 fl_X11_139 (by decide) (bs_ob (ly_11_11 bs_11).2.2) ?_
            obtain ⟨h17, h⟩ := h
            obtain ⟨h18, h⟩ := h
            refine r_icmp_ne (tgt := 84) d_X11_regime_77 (by decide) h17 h18 (fun c19 => ?_) (fun c19 => ?_)
            · replace h := h.1 c19
              refine r_iconst d_X11_regime_84 ?_
              exact r_ireturn d_X11_regime_85 rfl ⟨rfl, Nat.le_refl _, Nat.le_refl _⟩ h
            · replace h := h.2 c19
              refine r_iconst d_X11_regime_80 ?_
              refine r_goto (tgt := 85) d_X11_regime_81 (by decide) ?_
              exact r_ireturn d_X11_regime_85 rfl ⟨rfl, Nat.le_refl _, Nat.le_refl _⟩ h
          · replace h := h.2 c16
            refine r_aload_n d_X11_regime_55 0 rfl rfl ?_
            refine r_getL (v := 12) 11 3 3 rfl d_X11_regime_56 fl_X11_33 (by decide) (bs_ob bs_11) (ly_11_3 bs_11).1 (ly_11_3 bs_11).2.1 ?_
            refine r_getI 4 0 0 rfl d_X11_regime_59 fl_X11_253 (by decide) (bs_ob (ly_11_3 bs_11).2.2) ?_
            exact r_ireturn d_X11_regime_62 rfl ⟨rfl, Nat.le_refl _, Nat.le_refl _⟩ h
        · replace h := h.2 c10
          refine r_iconst d_X11_regime_29 ?_
          exact r_ireturn d_X11_regime_30 rfl ⟨rfl, Nat.le_refl _, Nat.le_refl _⟩ h
theorem d_X11_fewest_0 : decode M_X11_fewest.2.1 0 = .ok (.aload_n 0, 1) := by decide +kernel
theorem d_X11_fewest_1 : decode M_X11_fewest.2.1 1 = .ok (.iload_n 1, 1) := by decide +kernel
theorem d_X11_fewest_2 : decode M_X11_fewest.2.1 2 = .ok (.invokevirtual 119, 3) := by decide +kernel
theorem d_X11_fewest_5 : decode M_X11_fewest.2.1 5 = .ok (.ifCond .eq 24, 3) := by decide +kernel
theorem d_X11_fewest_8 : decode M_X11_fewest.2.1 8 = .ok (.aload_n 0, 1) := by decide +kernel
theorem d_X11_fewest_9 : decode M_X11_fewest.2.1 9 = .ok (.getfield 64, 3) := by decide +kernel
theorem d_X11_fewest_12 : decode M_X11_fewest.2.1 12 = .ok (.getfield 146, 3) := by decide +kernel
theorem d_X11_fewest_15 : decode M_X11_fewest.2.1 15 = .ok (.iload_n 1, 1) := by decide +kernel
theorem d_X11_fewest_16 : decode M_X11_fewest.2.1 16 = .ok (.iaload, 1) := by decide +kernel
theorem d_X11_fewest_17 : decode M_X11_fewest.2.1 17 = .ok (.ifCond .ne 12, 3) := by decide +kernel
theorem d_X11_fewest_20 : decode M_X11_fewest.2.1 20 = .ok (.iload_n 2, 1) := by decide +kernel
theorem d_X11_fewest_21 : decode M_X11_fewest.2.1 21 = .ok (.ifCond .lt 8, 3) := by decide +kernel
theorem d_X11_fewest_24 : decode M_X11_fewest.2.1 24 = .ok (.iload_n 2, 1) := by decide +kernel
theorem d_X11_fewest_25 : decode M_X11_fewest.2.1 25 = .ok (.iconst 1, 1) := by decide +kernel
theorem d_X11_fewest_26 : decode M_X11_fewest.2.1 26 = .ok (.if_icmp .le 5, 3) := by decide +kernel
theorem d_X11_fewest_29 : decode M_X11_fewest.2.1 29 = .ok (.iconst (-1), 1) := by decide +kernel
theorem d_X11_fewest_30 : decode M_X11_fewest.2.1 30 = .ok (.ireturn, 1) := by decide +kernel
theorem d_X11_fewest_31 : decode M_X11_fewest.2.1 31 = .ok (.aload_n 0, 1) := by decide +kernel
theorem d_X11_fewest_32 : decode M_X11_fewest.2.1 32 = .ok (.getfield 33, 3) := by decide +kernel
theorem d_X11_fewest_35 : decode M_X11_fewest.2.1 35 = .ok (.aload_n 0, 1) := by decide +kernel
theorem d_X11_fewest_36 : decode M_X11_fewest.2.1 36 = .ok (.getfield 54, 3) := by decide +kernel
theorem d_X11_fewest_39 : decode M_X11_fewest.2.1 39 = .ok (.aload_n 0, 1) := by decide +kernel
theorem d_X11_fewest_40 : decode M_X11_fewest.2.1 40 = .ok (.getfield 64, 3) := by decide +kernel
theorem d_X11_fewest_43 : decode M_X11_fewest.2.1 43 = .ok (.iload_n 1, 1) := by decide +kernel
theorem d_X11_fewest_44 : decode M_X11_fewest.2.1 44 = .ok (.aload_n 0, 1) := by decide +kernel
theorem d_X11_fewest_45 : decode M_X11_fewest.2.1 45 = .ok (.getfield 26, 3) := by decide +kernel
theorem d_X11_fewest_48 : decode M_X11_fewest.2.1 48 = .ok (.invokevirtual 259, 3) := by decide +kernel
theorem d_X11_fewest_51 : decode M_X11_fewest.2.1 51 = .ok (.aload_n 0, 1) := by decide +kernel
theorem d_X11_fewest_52 : decode M_X11_fewest.2.1 52 = .ok (.getfield 33, 3) := by decide +kernel
theorem d_X11_fewest_55 : decode M_X11_fewest.2.1 55 = .ok (.getfield 253, 3) := by decide +kernel
theorem d_X11_fewest_58 : decode M_X11_fewest.2.1 58 = .ok (.ldc_w 262, 3) := by decide +kernel
theorem d_X11_fewest_61 : decode M_X11_fewest.2.1 61 = .ok (.if_icmp .lt 5, 3) := by decide +kernel
theorem d_X11_fewest_64 : decode M_X11_fewest.2.1 64 = .ok (.iconst (-1), 1) := by decide +kernel
theorem d_X11_fewest_65 : decode M_X11_fewest.2.1 65 = .ok (.ireturn, 1) := by decide +kernel
theorem d_X11_fewest_66 : decode M_X11_fewest.2.1 66 = .ok (.iload_n 2, 1) := by decide +kernel
theorem d_X11_fewest_67 : decode M_X11_fewest.2.1 67 = .ok (.ifCond .ne 13, 3) := by decide +kernel
theorem d_X11_fewest_70 : decode M_X11_fewest.2.1 70 = .ok (.aload_n 0, 1) := by decide +kernel
theorem d_X11_fewest_71 : decode M_X11_fewest.2.1 71 = .ok (.getfield 33, 3) := by decide +kernel
theorem d_X11_fewest_74 : decode M_X11_fewest.2.1 74 = .ok (.getfield 253, 3) := by decide +kernel
theorem d_X11_fewest_77 : decode M_X11_fewest.2.1 77 = .ok (.goto 10, 3) := by decide +kernel
theorem d_X11_fewest_80 : decode M_X11_fewest.2.1 80 = .ok (.aload_n 0, 1) := by decide +kernel
theorem d_X11_fewest_81 : decode M_X11_fewest.2.1 81 = .ok (.getfield 33, 3) := by decide +kernel
theorem d_X11_fewest_84 : decode M_X11_fewest.2.1 84 = .ok (.getfield 256, 3) := by decide +kernel
theorem d_X11_fewest_87 : decode M_X11_fewest.2.1 87 = .ok (.ireturn, 1) := by decide +kernel
set_option maxRecDepth 20000 in
theorem s_X11_fewest_0 {d : Nat} {p0 : Int} {p1 : Int} {G : Mem} {Q : Int → Mem → Prop}  (h : Ct d M_X11_known NT 0 0 (some lay) [(2, 0), (0, p0)] G (fun r2 G1 => (InR r2) ∧ ((r2 = 0) → Q (-1) G1) ∧ (¬ (r2 = 0) → (0 ≤ p0 ∧ p0 < 5) ∧ ((InR (G1 75 p0)) ∧ (((G1 75 p0) ≠ 0) → Q (-1) G1) ∧ (¬ ((G1 75 p0) ≠ 0) → (InR p1) ∧ ((p1 < 0) → Q (-1) G1) ∧ (¬ (p1 < 0) → ((p1 ≤ 1) → ∀ b11 : Int, b11 = (G1 0 13) → (Bs 1 b11 ∧ Ct d M_X4_byWakings NT 0 0 (some lay) [(2, 12), (2, b11), (2, 73), (0, p0), (2, 6)] G1 (fun r15 G14 => (InR (G14 12 0)) ∧ (((G14 12 0) < 1000000) → ((p1 ≠ 0) → Q (G14 12 1) G14) ∧ (¬ (p1 ≠ 0) → Q (G14 12 0) G14)) ∧ (¬ ((G14 12 0) < 1000000) → Q (-1) G14)))) ∧ (¬ (p1 ≤ 1) → Q (-1) G1))))))) : Rn (d + 1) M_X11_fewest zN 0 [(0, (2, 0)), (1, (0, p0)), (2, (0, p1))] [] G Q := by
  refine r_aload_n d_X11_fewest_0 0 rfl rfl ?_
  refine r_iload_n d_X11_fewest_1 1 rfl rfl ?_
  refine r_callV0 (M' := M_X11_known) (ci := 11) [(0, p0)] d_X11_fewest_2 cl_X11_119 rfl (Nat.le_of_ble_eq_true rfl) (by decide) rfl (bs_ob bs_11) ?_
  refine Ct.mono h (fun r2 G1 h => ?_)
  show Rn _ M_X11_fewest zN 5 [(0, (2, 0)), (1, (0, p0)), (2, (0, p1))] [(0, r2)] G1 Q
  obtain ⟨h3, h⟩ := h
  refine r_if_eq (tgt := 29) d_X11_fewest_5 (by decide) h3 (fun c4 => ?_) (fun c4 => ?_)
  · replace h := h.1 c4
    refine r_iconst d_X11_fewest_29 ?_
    exact r_ireturn d_X11_fewest_30 rfl ⟨rfl, Nat.le_refl _, Nat.le_refl _⟩ h
  · replace h := h.2 c4
    refine r_aload_n d_X11_fewest_8 0 rfl rfl ?_
    refine r_getL (v := 73) 11 11 11 rfl d_X11_fewest_9 fl_X11_64 (by decide) (bs_ob bs_11) (ly_11_11 bs_11).1 (ly_11_11 bs_11).2.1 ?_
    refine r_getL (v := 75) 8 1 1 rfl d_X11_fewest_12 fl_X11_146 (by decide) (bs_ob (ly_11_11 bs_11).2.2) (ly_8_1 (ly_11_11 bs_11).2.2).1 (ly_8_1 (ly_11_11 bs_11).2.2).2.1 ?_
    refine r_iload_n d_X11_fewest_15 1 rfl rfl ?_
    obtain ⟨h5, h⟩ := h
    refine r_iaload d_X11_fewest_16 (ly_8_1 (ly_11_11 bs_11).2.2).2.2 h5 ?_
    obtain ⟨h6, h⟩ := h
    refine r_if_ne (tgt := 29) d_X11_fewest_17 (by decide) h6 (fun c7 => ?_) (fun c7 => ?_)
    · replace h := h.1 c7
      refine r_iconst d_X11_fewest_29 ?_
      exact r_ireturn d_X11_fewest_30 rfl ⟨rfl, Nat.le_refl _, Nat.le_refl _⟩ h
    · replace h := h.2 c7
      refine r_iload_n d_X11_fewest_20 2 rfl rfl ?_
      obtain ⟨h8, h⟩ := h
      refine r_if_lt (tgt := 29) d_X11_fewest_21 (by decide) h8 (fun c9 => ?_) (fun c9 => ?_)
      · replace h := h.1 c9
        refine r_iconst d_X11_fewest_29 ?_
        exact r_ireturn d_X11_fewest_30 rfl ⟨rfl, Nat.le_refl _, Nat.le_refl _⟩ h
      · replace h := h.2 c9
        refine r_iload_n d_X11_fewest_24 2 rfl rfl ?_
        refine r_iconst d_X11_fewest_25 ?_
        refine r_icmp_le (tgt := 31) d_X11_fewest_26 (by decide) h8 ⟨by decide, by decide⟩ (fun c10 => ?_) (fun c10 => ?_)
        · replace h := h.1 c10
          refine r_aload_n d_X11_fewest_31 0 rfl rfl ?_
          refine r_getL (v := 12) 11 3 3 rfl d_X11_fewest_32 fl_X11_33 (by decide) (bs_ob bs_11) (ly_11_3 bs_11).1 (ly_11_3 bs_11).2.1 ?_
          refine r_aload_n d_X11_fewest_35 0 rfl rfl ?_
          obtain ⟨b11, e13⟩ : ∃ y : Int, y = (G1 0 13) := ⟨_, rfl⟩
          replace h := h b11 e13
          obtain ⟨h12, h⟩ := h
          refine r_getM 11 13 13 rfl d_X11_fewest_36 fl_X11_54 (by decide) (bs_ob bs_11) e13.symm (bs_nn h12) ?_
          refine r_aload_n d_X11_fewest_39 0 rfl rfl ?_
          refine r_getL (v := 73) 11 11 11 rfl d_X11_fewest_40 fl_X11_64 (by decide) (bs_ob bs_11) (ly_11_11 bs_11).1 (ly_11_11 bs_11).2.1 ?_
          refine r_iload_n d_X11_fewest_43 1 rfl rfl ?_
          refine r_aload_n d_X11_fewest_44 0 rfl rfl ?_
          refine r_getL (v := 6) 11 2 2 rfl d_X11_fewest_45 fl_X11_26 (by decide) (bs_ob bs_11) (ly_11_2 bs_11).1 (ly_11_2 bs_11).2.1 ?_
          refine r_callV0 (M' := M_X4_byWakings) (ci := 4) [(2, b11), (2, 73), (0, p0), (2, 6)] d_X11_fewest_48 cl_X11_259 rfl (Nat.le_of_ble_eq_true rfl) (by decide) rfl (bs_ob (ly_11_3 bs_11).2.2) ?_
          refine Ct.mono h (fun r15 G14 h => ?_)
          show Rn _ M_X11_fewest zN 51 [(0, (2, 0)), (1, (0, p0)), (2, (0, p1))] [] G14 Q
          refine r_aload_n d_X11_fewest_51 0 rfl rfl ?_
          refine r_getL (v := 12) 11 3 3 rfl d_X11_fewest_52 fl_X11_33 (by decide) (bs_ob bs_11) (ly_11_3 bs_11).1 (ly_11_3 bs_11).2.1 ?_
          refine r_getI 4 0 0 rfl d_X11_fewest_55 fl_X11_253 (by decide) (bs_ob (ly_11_3 bs_11).2.2) ?_
          refine r_ldcw (x := 1000000) d_X11_fewest_58 cst_X11_262 ?_
          obtain ⟨h16, h⟩ := h
          refine r_icmp_lt (tgt := 66) d_X11_fewest_61 (by decide) h16 ⟨by decide, by decide⟩ (fun c17 => ?_) (fun c17 => ?_)
          · replace h := h.1 c17
            refine r_iload_n d_X11_fewest_66 2 rfl rfl ?_
            refine r_if_ne (tgt := 80) d_X11_fewest_67 (by decide) h8 (fun c18 => ?_) (fun c18 => ?_)
            · replace h := h.1 c18
              refine r_aload_n d_X11_fewest_80 0 rfl rfl ?_
              refine r_getL (v := 12) 11 3 3 rfl d_X11_fewest_81 fl_X11_33 (by decide) (bs_ob bs_11) (ly_11_3 bs_11).1 (ly_11_3 bs_11).2.1 ?_
              refine r_getI 4 1 1 rfl d_X11_fewest_84 fl_X11_256 (by decide) (bs_ob (ly_11_3 bs_11).2.2) ?_
              exact r_ireturn d_X11_fewest_87 rfl ⟨rfl, Nat.le_refl _, Nat.le_refl _⟩ h
            · replace h := h.2 c18
              refine r_aload_n d_X11_fewest_70 0 rfl rfl ?_
              refine r_getL (v := 12) 11 3 3 rfl d_X11_fewest_71 fl_X11_33 (by decide) (bs_ob bs_11) (ly_11_3 bs_11).1 (ly_11_3 bs_11).2.1 ?_
              refine r_getI 4 0 0 rfl d_X11_fewest_74 fl_X11_253 (by decide) (bs_ob (ly_11_3 bs_11).2.2) ?_
              refine r_goto (tgt := 87) d_X11_fewest_77 (by decide) ?_
              exact r_ireturn d_X11_fewest_87 rfl ⟨rfl, Nat.le_refl _, Nat.le_refl _⟩ h
          · replace h := h.2 c17
            refine r_iconst d_X11_fewest_64 ?_
            exact r_ireturn d_X11_fewest_65 rfl ⟨rfl, Nat.le_refl _, Nat.le_refl _⟩ h
        · replace h := h.2 c10
          refine r_iconst d_X11_fewest_29 ?_
          exact r_ireturn d_X11_fewest_30 rfl ⟨rfl, Nat.le_refl _, Nat.le_refl _⟩ h
theorem d_X11_before_0 : decode M_X11_before.2.1 0 = .ok (.aload_n 0, 1) := by decide +kernel
theorem d_X11_before_1 : decode M_X11_before.2.1 1 = .ok (.iload_n 1, 1) := by decide +kernel
theorem d_X11_before_2 : decode M_X11_before.2.1 2 = .ok (.invokevirtual 119, 3) := by decide +kernel
theorem d_X11_before_5 : decode M_X11_before.2.1 5 = .ok (.ifCond .ne 5, 3) := by decide +kernel
theorem d_X11_before_8 : decode M_X11_before.2.1 8 = .ok (.iconst (-1), 1) := by decide +kernel
theorem d_X11_before_9 : decode M_X11_before.2.1 9 = .ok (.ireturn, 1) := by decide +kernel
theorem d_X11_before_10 : decode M_X11_before.2.1 10 = .ok (.aload_n 0, 1) := by decide +kernel
theorem d_X11_before_11 : decode M_X11_before.2.1 11 = .ok (.getfield 54, 3) := by decide +kernel
theorem d_X11_before_14 : decode M_X11_before.2.1 14 = .ok (.getfield 174, 3) := by decide +kernel
theorem d_X11_before_17 : decode M_X11_before.2.1 17 = .ok (.iconst 1, 1) := by decide +kernel
theorem d_X11_before_18 : decode M_X11_before.2.1 18 = .ok (.isub, 1) := by decide +kernel
theorem d_X11_before_19 : decode M_X11_before.2.1 19 = .ok (.istore_n 2, 1) := by decide +kernel
theorem d_X11_before_20 : decode M_X11_before.2.1 20 = .ok (.iload_n 2, 1) := by decide +kernel
theorem d_X11_before_21 : decode M_X11_before.2.1 21 = .ok (.aload_n 0, 1) := by decide +kernel
theorem d_X11_before_22 : decode M_X11_before.2.1 22 = .ok (.getfield 64, 3) := by decide +kernel
theorem d_X11_before_25 : decode M_X11_before.2.1 25 = .ok (.getfield 139, 3) := by decide +kernel
theorem d_X11_before_28 : decode M_X11_before.2.1 28 = .ok (.if_icmp .lt 58, 3) := by decide +kernel
theorem d_X11_before_31 : decode M_X11_before.2.1 31 = .ok (.aload_n 0, 1) := by decide +kernel
theorem d_X11_before_32 : decode M_X11_before.2.1 32 = .ok (.getfield 54, 3) := by decide +kernel
theorem d_X11_before_35 : decode M_X11_before.2.1 35 = .ok (.iload_n 2, 1) := by decide +kernel
theorem d_X11_before_36 : decode M_X11_before.2.1 36 = .ok (.invokevirtual 177, 3) := by decide +kernel
theorem d_X11_before_39 : decode M_X11_before.2.1 39 = .ok (.ifCond .ne 41, 3) := by decide +kernel
theorem d_X11_before_42 : decode M_X11_before.2.1 42 = .ok (.aload_n 0, 1) := by decide +kernel
theorem d_X11_before_43 : decode M_X11_before.2.1 43 = .ok (.getfield 64, 3) := by decide +kernel
theorem d_X11_before_46 : decode M_X11_before.2.1 46 = .ok (.aload_n 0, 1) := by decide +kernel
theorem d_X11_before_47 : decode M_X11_before.2.1 47 = .ok (.getfield 54, 3) := by decide +kernel
theorem d_X11_before_50 : decode M_X11_before.2.1 50 = .ok (.iload_n 1, 1) := by decide +kernel
theorem d_X11_before_51 : decode M_X11_before.2.1 51 = .ok (.iload_n 2, 1) := by decide +kernel
theorem d_X11_before_52 : decode M_X11_before.2.1 52 = .ok (.aload_n 0, 1) := by decide +kernel
theorem d_X11_before_53 : decode M_X11_before.2.1 53 = .ok (.getfield 64, 3) := by decide +kernel
theorem d_X11_before_56 : decode M_X11_before.2.1 56 = .ok (.getfield 139, 3) := by decide +kernel
theorem d_X11_before_59 : decode M_X11_before.2.1 59 = .ok (.isub, 1) := by decide +kernel
theorem d_X11_before_60 : decode M_X11_before.2.1 60 = .ok (.invokevirtual 213, 3) := by decide +kernel
theorem d_X11_before_63 : decode M_X11_before.2.1 63 = .ok (.aload_n 0, 1) := by decide +kernel
theorem d_X11_before_64 : decode M_X11_before.2.1 64 = .ok (.getfield 54, 3) := by decide +kernel
theorem d_X11_before_67 : decode M_X11_before.2.1 67 = .ok (.getfield 123, 3) := by decide +kernel
theorem d_X11_before_70 : decode M_X11_before.2.1 70 = .ok (.iload_n 1, 1) := by decide +kernel
theorem d_X11_before_71 : decode M_X11_before.2.1 71 = .ok (.aaload, 1) := by decide +kernel
theorem d_X11_before_72 : decode M_X11_before.2.1 72 = .ok (.getfield 217, 3) := by decide +kernel
theorem d_X11_before_75 : decode M_X11_before.2.1 75 = .ok (.if_icmp .gt 5, 3) := by decide +kernel
theorem d_X11_before_78 : decode M_X11_before.2.1 78 = .ok (.iload_n 2, 1) := by decide +kernel
theorem d_X11_before_79 : decode M_X11_before.2.1 79 = .ok (.ireturn, 1) := by decide +kernel
theorem d_X11_before_80 : decode M_X11_before.2.1 80 = .ok (.iinc 2 (-1), 3) := by decide +kernel
theorem d_X11_before_83 : decode M_X11_before.2.1 83 = .ok (.goto (-63), 3) := by decide +kernel
theorem d_X11_before_86 : decode M_X11_before.2.1 86 = .ok (.iconst (-1), 1) := by decide +kernel
theorem d_X11_before_87 : decode M_X11_before.2.1 87 = .ok (.ireturn, 1) := by decide +kernel
set_option maxRecDepth 20000 in
theorem s_X11_before_0 {d : Nat} {p0 : Int} {G : Mem} {Q : Int → Mem → Prop}  (h : Ct d M_X11_known NT 0 0 (some lay) [(2, 0), (0, p0)] G (fun r2 G1 => (InR r2) ∧ ((r2 ≠ 0) → ∀ b5 : Int, b5 = (G1 0 13) → (Bs 1 b5 ∧ Rn (d + 1) M_X11_before zN 20 [(0, (2, 0)), (1, (0, p0)), (2, (0, ((G1 b5 7) - 1)))] [] G1 Q)) ∧ (¬ (r2 ≠ 0) → Q (-1) G1))) : Rn (d + 1) M_X11_before zN 0 [(0, (2, 0)), (1, (0, p0))] [] G Q := by
  refine r_aload_n d_X11_before_0 0 rfl rfl ?_
  refine r_iload_n d_X11_before_1 1 rfl rfl ?_
  refine r_callV0 (M' := M_X11_known) (ci := 11) [(0, p0)] d_X11_before_2 cl_X11_119 rfl (Nat.le_of_ble_eq_true rfl) (by decide) rfl (bs_ob bs_11) ?_
  refine Ct.mono h (fun r2 G1 h => ?_)
  show Rn _ M_X11_before zN 5 [(0, (2, 0)), (1, (0, p0))] [(0, r2)] G1 Q
  obtain ⟨h3, h⟩ := h
  refine r_if_ne (tgt := 10) d_X11_before_5 (by decide) h3 (fun c4 => ?_) (fun c4 => ?_)
  · replace h := h.1 c4
    refine r_aload_n d_X11_before_10 0 rfl rfl ?_
    obtain ⟨b5, e7⟩ : ∃ y : Int, y = (G1 0 13) := ⟨_, rfl⟩
    replace h := h b5 e7
    obtain ⟨h6, h⟩ := h
    refine r_getM 11 13 13 rfl d_X11_before_11 fl_X11_54 (by decide) (bs_ob bs_11) e7.symm (bs_nn h6) ?_
    refine r_getI 1 7 7 rfl d_X11_before_14 fl_X11_174 (by decide) (bs_ob h6) ?_
    refine r_iconst d_X11_before_17 ?_
    refine r_isub d_X11_before_18 ?_
    refine r_istore_n (ls1 := [(2, (0, ((G1 b5 7) - 1))), (0, (2, 0)), (1, (0, p0))]) d_X11_before_19 rfl (by decide) rfl ?_
    exact Rn.sub [1, 2, 0] rfl h
  · replace h := h.2 c4
    refine r_iconst d_X11_before_8 ?_
    exact r_ireturn d_X11_before_9 rfl ⟨rfl, Nat.le_refl _, Nat.le_refl _⟩ h
set_option maxRecDepth 20000 in
theorem s_X11_before_20 {d : Nat} {x1 : Int} {x2 : Int} {G : Mem} {Q : Int → Mem → Prop}  (h : (InR x2) ∧ (InR (G 73 7)) ∧ ((x2 < (G 73 7)) → Q (-1) G) ∧ (¬ (x2 < (G 73 7)) → ∀ b4 : Int, b4 = (G 0 13) → (Bs 1 b4 ∧ Ct d M_X1_closed NT 0 0 (some lay) [(2, b4), (0, x2)] G (fun r8 G7 => (InR r8) ∧ ((r8 ≠ 0) → Rn (d + 1) M_X11_before zN 20 [(0, (2, 0)), (1, (0, x1)), (2, (0, (x2 + (-1))))] [] G7 Q) ∧ (¬ (r8 ≠ 0) → ∀ b11 : Int, b11 = (G7 0 13) → (Bs 1 b11 ∧ Ct d M_X8_needIn NT 0 0 (some lay) [(2, 73), (2, b11), (0, x1), (0, (x2 - (G7 73 7)))] G7 (fun r15 G14 => ∀ b16 : Int, b16 = (G14 0 13) → (Bs 1 b16 ∧ (0 ≤ x1 ∧ x1 < 5) ∧ ((InR r15) ∧ (InR (G14 ((b16 + 13) + x1) 3)) ∧ (((G14 ((b16 + 13) + x1) 3) < r15) → Rn (d + 1) M_X11_before zN 20 [(0, (2, 0)), (1, (0, x1)), (2, (0, (x2 + (-1))))] [] G14 Q) ∧ (¬ ((G14 ((b16 + 13) + x1) 3) < r15) → Q x2 G14)))))))))) : Rn (d + 1) M_X11_before zN 20 [(0, (2, 0)), (1, (0, x1)), (2, (0, x2))] [] G Q := by
  refine r_iload_n d_X11_before_20 2 rfl rfl ?_
  refine r_aload_n d_X11_before_21 0 rfl rfl ?_
  refine r_getL (v := 73) 11 11 11 rfl d_X11_before_22 fl_X11_64 (by decide) (bs_ob bs_11) (ly_11_11 bs_11).1 (ly_11_11 bs_11).2.1 ?_
  refine r_getI 8 7 7 rfl d_X11_before_25 fl_X11_139 (by decide) (bs_ob (ly_11_11 bs_11).2.2) ?_
  obtain ⟨h1, h⟩ := h
  obtain ⟨h2, h⟩ := h
  refine r_icmp_lt (tgt := 86) d_X11_before_28 (by decide) h1 h2 (fun c3 => ?_) (fun c3 => ?_)
  · replace h := h.1 c3
    refine r_iconst d_X11_before_86 ?_
    exact r_ireturn d_X11_before_87 rfl ⟨rfl, Nat.le_refl _, Nat.le_refl _⟩ h
  · replace h := h.2 c3
    refine r_aload_n d_X11_before_31 0 rfl rfl ?_
    obtain ⟨b4, e6⟩ : ∃ y : Int, y = (G 0 13) := ⟨_, rfl⟩
    replace h := h b4 e6
    obtain ⟨h5, h⟩ := h
    refine r_getM 11 13 13 rfl d_X11_before_32 fl_X11_54 (by decide) (bs_ob bs_11) e6.symm (bs_nn h5) ?_
    refine r_iload_n d_X11_before_35 2 rfl rfl ?_
    refine r_callV0 (M' := M_X1_closed) (ci := 1) [(0, x2)] d_X11_before_36 cl_X11_177 rfl (Nat.le_of_ble_eq_true rfl) (by decide) rfl (bs_ob h5) ?_
    refine Ct.mono h (fun r8 G7 h => ?_)
    show Rn _ M_X11_before zN 39 [(0, (2, 0)), (1, (0, x1)), (2, (0, x2))] [(0, r8)] G7 Q
    obtain ⟨h9, h⟩ := h
    refine r_if_ne (tgt := 80) d_X11_before_39 (by decide) h9 (fun c10 => ?_) (fun c10 => ?_)
    · replace h := h.1 c10
      refine r_iinc (ls1 := [(2, (0, (x2 + (-1)))), (0, (2, 0)), (1, (0, x1))]) d_X11_before_80 2 rfl (by decide) rfl ?_
      refine r_goto (tgt := 20) d_X11_before_83 (by decide) ?_
      exact Rn.sub [1, 2, 0] rfl h
    · replace h := h.2 c10
      refine r_aload_n d_X11_before_42 0 rfl rfl ?_
      refine r_getL (v := 73) 11 11 11 rfl d_X11_before_43 fl_X11_64 (by decide) (bs_ob bs_11) (ly_11_11 bs_11).1 (ly_11_11 bs_11).2.1 ?_
      refine r_aload_n d_X11_before_46 0 rfl rfl ?_
      obtain ⟨b11, e13⟩ : ∃ y : Int, y = (G7 0 13) := ⟨_, rfl⟩
      replace h := h b11 e13
      obtain ⟨h12, h⟩ := h
      refine r_getM 11 13 13 rfl d_X11_before_47 fl_X11_54 (by decide) (bs_ob bs_11) e13.symm (bs_nn h12) ?_
      refine r_iload_n d_X11_before_50 1 rfl rfl ?_
      refine r_iload_n d_X11_before_51 2 rfl rfl ?_
      refine r_aload_n d_X11_before_52 0 rfl rfl ?_
      refine r_getL (v := 73) 11 11 11 rfl d_X11_before_53 fl_X11_64 (by decide) (bs_ob bs_11) (ly_11_11 bs_11).1 (ly_11_11 bs_11).2.1 ?_
      refine r_getI 8 7 7 rfl d_X11_before_56 fl_X11_139 (by decide) (bs_ob (ly_11_11 bs_11).2.2) ?_
      refine r_isub d_X11_before_59 ?_
      refine r_callV0 (M' := M_X8_needIn) (ci := 8) [(2, b11), (0, x1), (0, (x2 - (G7 73 7)))] d_X11_before_60 cl_X11_213 rfl (Nat.le_of_ble_eq_true rfl) (by decide) rfl (bs_ob (ly_11_11 bs_11).2.2) ?_
      refine Ct.mono h (fun r15 G14 h => ?_)
      show Rn _ M_X11_before zN 63 [(0, (2, 0)), (1, (0, x1)), (2, (0, x2))] [(0, r15)] G14 Q
      refine r_aload_n d_X11_before_63 0 rfl rfl ?_
      obtain ⟨b16, e18⟩ : ∃ y : Int, y = (G14 0 13) := ⟨_, rfl⟩
      replace h := h b16 e18
      obtain ⟨h17, h⟩ := h
      refine r_getM 11 13 13 rfl d_X11_before_64 fl_X11_54 (by decide) (bs_ob bs_11) e18.symm (bs_nn h17) ?_
      refine r_getL (v := (b16 + 1)) 1 0 0 rfl d_X11_before_67 fl_X11_123 (by decide) (bs_ob h17) (ly_1_0 h17).1 (ly_1_0 h17).2.1 ?_
      refine r_iload_n d_X11_before_70 1 rfl rfl ?_
      obtain ⟨h19, h⟩ := h
      refine r_aaloadL (v := ((b16 + 13) + x1)) d_X11_before_71 (ly_1_0 h17).2.2 (by decide) rfl h19 (el_1_0 h17 h19.1 h19.2).1 (el_1_0 h17 h19.1 h19.2).2.1 ?_
      refine r_getI 7 3 3 rfl d_X11_before_72 fl_X11_217 (by decide) (bs_ob (el_1_0 h17 h19.1 h19.2).2.2) ?_
      obtain ⟨h20, h⟩ := h
      obtain ⟨h21, h⟩ := h
      refine r_icmp_gt (tgt := 80) d_X11_before_75 (by decide) h20 h21 (fun c22 => ?_) (fun c22 => ?_)
      · replace h := h.1 c22
        refine r_iinc (ls1 := [(2, (0, (x2 + (-1)))), (0, (2, 0)), (1, (0, x1))]) d_X11_before_80 2 rfl (by decide) rfl ?_
        refine r_goto (tgt := 20) d_X11_before_83 (by decide) ?_
        exact Rn.sub [1, 2, 0] rfl h
      · replace h := h.2 c22
        refine r_iload_n d_X11_before_78 2 rfl rfl ?_
        exact r_ireturn d_X11_before_79 rfl ⟨rfl, Nat.le_refl _, Nat.le_refl _⟩ h
theorem d_X11_standing_0 : decode M_X11_standing.2.1 0 = .ok (.aload_n 0, 1) := by decide +kernel
theorem d_X11_standing_1 : decode M_X11_standing.2.1 1 = .ok (.iload_n 1, 1) := by decide +kernel
theorem d_X11_standing_2 : decode M_X11_standing.2.1 2 = .ok (.invokevirtual 119, 3) := by decide +kernel
theorem d_X11_standing_5 : decode M_X11_standing.2.1 5 = .ok (.ifCond .eq 16, 3) := by decide +kernel
theorem d_X11_standing_8 : decode M_X11_standing.2.1 8 = .ok (.aload_n 0, 1) := by decide +kernel
theorem d_X11_standing_9 : decode M_X11_standing.2.1 9 = .ok (.getfield 64, 3) := by decide +kernel
theorem d_X11_standing_12 : decode M_X11_standing.2.1 12 = .ok (.getfield 146, 3) := by decide +kernel
theorem d_X11_standing_15 : decode M_X11_standing.2.1 15 = .ok (.iload_n 1, 1) := by decide +kernel
theorem d_X11_standing_16 : decode M_X11_standing.2.1 16 = .ok (.iaload, 1) := by decide +kernel
theorem d_X11_standing_17 : decode M_X11_standing.2.1 17 = .ok (.iconst (-1), 1) := by decide +kernel
theorem d_X11_standing_18 : decode M_X11_standing.2.1 18 = .ok (.if_icmp .eq 5, 3) := by decide +kernel
theorem d_X11_standing_21 : decode M_X11_standing.2.1 21 = .ok (.iconst (-1), 1) := by decide +kernel
theorem d_X11_standing_22 : decode M_X11_standing.2.1 22 = .ok (.ireturn, 1) := by decide +kernel
theorem d_X11_standing_23 : decode M_X11_standing.2.1 23 = .ok (.iconst (-1), 1) := by decide +kernel
theorem d_X11_standing_24 : decode M_X11_standing.2.1 24 = .ok (.istore_n 2, 1) := by decide +kernel
theorem d_X11_standing_25 : decode M_X11_standing.2.1 25 = .ok (.iconst 0, 1) := by decide +kernel
theorem d_X11_standing_26 : decode M_X11_standing.2.1 26 = .ok (.istore_n 3, 1) := by decide +kernel
theorem d_X11_standing_27 : decode M_X11_standing.2.1 27 = .ok (.iconst 0, 1) := by decide +kernel
theorem d_X11_standing_28 : decode M_X11_standing.2.1 28 = .ok (.istore 4, 2) := by decide +kernel
theorem d_X11_standing_30 : decode M_X11_standing.2.1 30 = .ok (.iload 4, 2) := by decide +kernel
theorem d_X11_standing_32 : decode M_X11_standing.2.1 32 = .ok (.bipush 12, 2) := by decide +kernel
theorem d_X11_standing_34 : decode M_X11_standing.2.1 34 = .ok (.if_icmp .gt 101, 3) := by decide +kernel
theorem d_X11_standing_37 : decode M_X11_standing.2.1 37 = .ok (.aload_n 0, 1) := by decide +kernel
theorem d_X11_standing_38 : decode M_X11_standing.2.1 38 = .ok (.getfield 64, 3) := by decide +kernel
theorem d_X11_standing_41 : decode M_X11_standing.2.1 41 = .ok (.getfield 139, 3) := by decide +kernel
theorem d_X11_standing_44 : decode M_X11_standing.2.1 44 = .ok (.iload 4, 2) := by decide +kernel
theorem d_X11_standing_46 : decode M_X11_standing.2.1 46 = .ok (.iadd, 1) := by decide +kernel
theorem d_X11_standing_47 : decode M_X11_standing.2.1 47 = .ok (.istore 5, 2) := by decide +kernel
theorem d_X11_standing_49 : decode M_X11_standing.2.1 49 = .ok (.aload_n 0, 1) := by decide +kernel
theorem d_X11_standing_50 : decode M_X11_standing.2.1 50 = .ok (.getfield 54, 3) := by decide +kernel
theorem d_X11_standing_53 : decode M_X11_standing.2.1 53 = .ok (.iload 5, 2) := by decide +kernel
theorem d_X11_standing_55 : decode M_X11_standing.2.1 55 = .ok (.invokevirtual 177, 3) := by decide +kernel
theorem d_X11_standing_58 : decode M_X11_standing.2.1 58 = .ok (.ifCond .ne 71, 3) := by decide +kernel
theorem d_X11_standing_61 : decode M_X11_standing.2.1 61 = .ok (.aload_n 0, 1) := by decide +kernel
theorem d_X11_standing_62 : decode M_X11_standing.2.1 62 = .ok (.getfield 26, 3) := by decide +kernel
theorem d_X11_standing_65 : decode M_X11_standing.2.1 65 = .ok (.aload_n 0, 1) := by decide +kernel
theorem d_X11_standing_66 : decode M_X11_standing.2.1 66 = .ok (.getfield 54, 3) := by decide +kernel
theorem d_X11_standing_69 : decode M_X11_standing.2.1 69 = .ok (.aload_n 0, 1) := by decide +kernel
theorem d_X11_standing_70 : decode M_X11_standing.2.1 70 = .ok (.getfield 64, 3) := by decide +kernel
theorem d_X11_standing_73 : decode M_X11_standing.2.1 73 = .ok (.iload_n 1, 1) := by decide +kernel
theorem d_X11_standing_74 : decode M_X11_standing.2.1 74 = .ok (.iload 5, 2) := by decide +kernel
theorem d_X11_standing_76 : decode M_X11_standing.2.1 76 = .ok (.invokevirtual 234, 3) := by decide +kernel
theorem d_X11_standing_79 : decode M_X11_standing.2.1 79 = .ok (.iload 4, 2) := by decide +kernel
theorem d_X11_standing_81 : decode M_X11_standing.2.1 81 = .ok (.aload_n 0, 1) := by decide +kernel
theorem d_X11_standing_82 : decode M_X11_standing.2.1 82 = .ok (.getfield 54, 3) := by decide +kernel
theorem d_X11_standing_85 : decode M_X11_standing.2.1 85 = .ok (.getfield 263, 3) := by decide +kernel
theorem d_X11_standing_88 : decode M_X11_standing.2.1 88 = .ok (.iconst 3, 1) := by decide +kernel
theorem d_X11_standing_89 : decode M_X11_standing.2.1 89 = .ok (.iaload, 1) := by decide +kernel
theorem d_X11_standing_90 : decode M_X11_standing.2.1 90 = .ok (.imul, 1) := by decide +kernel
theorem d_X11_standing_91 : decode M_X11_standing.2.1 91 = .ok (.sipush 10000, 3) := by decide +kernel
theorem d_X11_standing_94 : decode M_X11_standing.2.1 94 = .ok (.imul, 1) := by decide +kernel
theorem d_X11_standing_95 : decode M_X11_standing.2.1 95 = .ok (.aload_n 0, 1) := by decide +kernel
theorem d_X11_standing_96 : decode M_X11_standing.2.1 96 = .ok (.getfield 26, 3) := by decide +kernel
theorem d_X11_standing_99 : decode M_X11_standing.2.1 99 = .ok (.aload_n 0, 1) := by decide +kernel
theorem d_X11_standing_100 : decode M_X11_standing.2.1 100 = .ok (.getfield 26, 3) := by decide +kernel
theorem d_X11_standing_103 : decode M_X11_standing.2.1 103 = .ok (.invokevirtual 246, 3) := by decide +kernel
theorem d_X11_standing_106 : decode M_X11_standing.2.1 106 = .ok (.invokevirtual 266, 3) := by decide +kernel
theorem d_X11_standing_109 : decode M_X11_standing.2.1 109 = .ok (.iadd, 1) := by decide +kernel
theorem d_X11_standing_110 : decode M_X11_standing.2.1 110 = .ok (.istore 6, 2) := by decide +kernel
theorem d_X11_standing_112 : decode M_X11_standing.2.1 112 = .ok (.iload_n 2, 1) := by decide +kernel
theorem d_X11_standing_113 : decode M_X11_standing.2.1 113 = .ok (.iconst (-1), 1) := by decide +kernel
theorem d_X11_standing_114 : decode M_X11_standing.2.1 114 = .ok (.if_icmp .eq 9, 3) := by decide +kernel
theorem d_X11_standing_117 : decode M_X11_standing.2.1 117 = .ok (.iload 6, 2) := by decide +kernel
theorem d_X11_standing_119 : decode M_X11_standing.2.1 119 = .ok (.iload_n 3, 1) := by decide +kernel
theorem d_X11_standing_120 : decode M_X11_standing.2.1 120 = .ok (.if_icmp .ge 9, 3) := by decide +kernel
theorem d_X11_standing_123 : decode M_X11_standing.2.1 123 = .ok (.iload 4, 2) := by decide +kernel
theorem d_X11_standing_125 : decode M_X11_standing.2.1 125 = .ok (.istore_n 2, 1) := by decide +kernel
theorem d_X11_standing_126 : decode M_X11_standing.2.1 126 = .ok (.iload 6, 2) := by decide +kernel
theorem d_X11_standing_128 : decode M_X11_standing.2.1 128 = .ok (.istore_n 3, 1) := by decide +kernel
theorem d_X11_standing_129 : decode M_X11_standing.2.1 129 = .ok (.iinc 4 1, 3) := by decide +kernel
theorem d_X11_standing_132 : decode M_X11_standing.2.1 132 = .ok (.goto (-102), 3) := by decide +kernel
theorem d_X11_standing_135 : decode M_X11_standing.2.1 135 = .ok (.iload_n 2, 1) := by decide +kernel
theorem d_X11_standing_136 : decode M_X11_standing.2.1 136 = .ok (.ireturn, 1) := by decide +kernel
set_option maxRecDepth 20000 in
theorem s_X11_standing_0 {d : Nat} {p0 : Int} {G : Mem} {Q : Int → Mem → Prop}  (h : Ct d M_X11_known NT 0 0 (some lay) [(2, 0), (0, p0)] G (fun r2 G1 => (InR r2) ∧ ((r2 = 0) → Q (-1) G1) ∧ (¬ (r2 = 0) → (0 ≤ p0 ∧ p0 < 5) ∧ ((InR (G1 75 p0)) ∧ (((G1 75 p0) = (-1)) → Rn (d + 1) M_X11_standing zN 30 [(0, (2, 0)), (1, (0, p0)), (2, (0, (-1))), (3, (0, 0)), (4, (0, 0))] [] G1 Q) ∧ (¬ ((G1 75 p0) = (-1)) → Q (-1) G1))))) : Rn (d + 1) M_X11_standing zN 0 [(0, (2, 0)), (1, (0, p0))] [] G Q := by
  refine r_aload_n d_X11_standing_0 0 rfl rfl ?_
  refine r_iload_n d_X11_standing_1 1 rfl rfl ?_
  refine r_callV0 (M' := M_X11_known) (ci := 11) [(0, p0)] d_X11_standing_2 cl_X11_119 rfl (Nat.le_of_ble_eq_true rfl) (by decide) rfl (bs_ob bs_11) ?_
  refine Ct.mono h (fun r2 G1 h => ?_)
  show Rn _ M_X11_standing zN 5 [(0, (2, 0)), (1, (0, p0))] [(0, r2)] G1 Q
  obtain ⟨h3, h⟩ := h
  refine r_if_eq (tgt := 21) d_X11_standing_5 (by decide) h3 (fun c4 => ?_) (fun c4 => ?_)
  · replace h := h.1 c4
    refine r_iconst d_X11_standing_21 ?_
    exact r_ireturn d_X11_standing_22 rfl ⟨rfl, Nat.le_refl _, Nat.le_refl _⟩ h
  · replace h := h.2 c4
    refine r_aload_n d_X11_standing_8 0 rfl rfl ?_
    refine r_getL (v := 73) 11 11 11 rfl d_X11_standing_9 fl_X11_64 (by decide) (bs_ob bs_11) (ly_11_11 bs_11).1 (ly_11_11 bs_11).2.1 ?_
    refine r_getL (v := 75) 8 1 1 rfl d_X11_standing_12 fl_X11_146 (by decide) (bs_ob (ly_11_11 bs_11).2.2) (ly_8_1 (ly_11_11 bs_11).2.2).1 (ly_8_1 (ly_11_11 bs_11).2.2).2.1 ?_
    refine r_iload_n d_X11_standing_15 1 rfl rfl ?_
    obtain ⟨h5, h⟩ := h
    refine r_iaload d_X11_standing_16 (ly_8_1 (ly_11_11 bs_11).2.2).2.2 h5 ?_
    refine r_iconst d_X11_standing_17 ?_
    obtain ⟨h6, h⟩ := h
    refine r_icmp_eq (tgt := 23) d_X11_standing_18 (by decide) h6 ⟨by decide, by decide⟩ (fun c7 => ?_) (fun c7 => ?_)
    · replace h := h.1 c7
      refine r_iconst d_X11_standing_23 ?_
      refine r_istore_n (ls1 := [(2, (0, (-1))), (0, (2, 0)), (1, (0, p0))]) d_X11_standing_24 rfl (by decide) rfl ?_
      refine r_iconst d_X11_standing_25 ?_
      refine r_istore_n (ls1 := [(3, (0, 0)), (2, (0, (-1))), (0, (2, 0)), (1, (0, p0))]) d_X11_standing_26 rfl (by decide) rfl ?_
      refine r_iconst d_X11_standing_27 ?_
      refine r_istore (ls1 := [(4, (0, 0)), (3, (0, 0)), (2, (0, (-1))), (0, (2, 0)), (1, (0, p0))]) d_X11_standing_28 (by decide) rfl ?_
      exact Rn.sub [3, 4, 2, 1, 0] rfl h
    · replace h := h.2 c7
      refine r_iconst d_X11_standing_21 ?_
      exact r_ireturn d_X11_standing_22 rfl ⟨rfl, Nat.le_refl _, Nat.le_refl _⟩ h
set_option maxRecDepth 20000 in
theorem s_X11_standing_30 {d : Nat} {x1 : Int} {x2 : Int} {x3 : Int} {x4 : Int} {G : Mem} {Q : Int → Mem → Prop}  (h : (InR x4) ∧ ((12 < x4) → Q x2 G) ∧ (¬ (12 < x4) → ∀ b3 : Int, b3 = (G 0 13) → (Bs 1 b3 ∧ Ct d M_X1_closed NT 0 0 (some lay) [(2, b3), (0, ((G 73 7) + x4))] G (fun r7 G6 => (InR r7) ∧ ((r7 ≠ 0) → Rn (d + 1) M_X11_standing zN 30 [(0, (2, 0)), (1, (0, x1)), (2, (0, x2)), (3, (0, x3)), (4, (0, (x4 + 1)))] [] G6 Q) ∧ (¬ (r7 ≠ 0) → ∀ b10 : Int, b10 = (G6 0 13) → (Bs 1 b10 ∧ Ct d M_X0_look NT 0 0 (some lay) [(2, 6), (2, b10), (2, 73), (0, x1), (0, ((G 73 7) + x4))] G6 (fun r14 G13 => ∀ b15 : Int, b15 = (G13 0 13) → (Bs 1 b15 ∧ Ct d M_X0_cheapest NT 0 0 (some lay) [(2, 6)] G13 (fun r19 G18 => Ct d M_X0_paid NT 0 0 (some lay) [(2, 6), (0, r19)] G18 (fun r21 G20 => (InR x2) ∧ ((x2 = (-1)) → Rn (d + 1) M_X11_standing zN 30 [(0, (2, 0)), (1, (0, x1)), (2, (0, x4)), (3, (0, (((x4 * (G13 (b15 + 5) 3)) * 10000) + r21))), (4, (0, (x4 + 1)))] [] G20 Q) ∧ (¬ (x2 = (-1)) → (InR (((x4 * (G13 (b15 + 5) 3)) * 10000) + r21)) ∧ (InR x3) ∧ ((x3 ≤ (((x4 * (G13 (b15 + 5) 3)) * 10000) + r21)) → Rn (d + 1) M_X11_standing zN 30 [(0, (2, 0)), (1, (0, x1)), (2, (0, x2)), (3, (0, x3)), (4, (0, (x4 + 1)))] [] G20 Q) ∧ (¬ (x3 ≤ (((x4 * (G13 (b15 + 5) 3)) * 10000) + r21)) → Rn (d + 1) M_X11_standing zN 30 [(0, (2, 0)), (1, (0, x1)), (2, (0, x4)), (3, (0, (((x4 * (G13 (b15 + 5) 3)) * 10000) + r21))), (4, (0, (x4 + 1)))] [] G20 Q)))))))))))) : Rn (d + 1) M_X11_standing zN 30 [(0, (2, 0)), (1, (0, x1)), (2, (0, x2)), (3, (0, x3)), (4, (0, x4))] [] G Q := by
  refine r_iload d_X11_standing_30 4 rfl ?_
  refine r_bipush d_X11_standing_32 (by decide +kernel) ?_
  obtain ⟨h1, h⟩ := h
  refine r_icmp_gt (tgt := 135) d_X11_standing_34 (by decide) h1 ⟨by decide, by decide⟩ (fun c2 => ?_) (fun c2 => ?_)
  · replace h := h.1 c2
    refine r_iload_n d_X11_standing_135 2 rfl rfl ?_
    exact r_ireturn d_X11_standing_136 rfl ⟨rfl, Nat.le_refl _, Nat.le_refl _⟩ h
  · replace h := h.2 c2
    refine r_aload_n d_X11_standing_37 0 rfl rfl ?_
    refine r_getL (v := 73) 11 11 11 rfl d_X11_standing_38 fl_X11_64 (by decide) (bs_ob bs_11) (ly_11_11 bs_11).1 (ly_11_11 bs_11).2.1 ?_
    refine r_getI 8 7 7 rfl d_X11_standing_41 fl_X11_139 (by decide) (bs_ob (ly_11_11 bs_11).2.2) ?_
    refine r_iload d_X11_standing_44 4 rfl ?_
    refine r_iadd d_X11_standing_46 ?_
    refine r_istore (ls1 := [(5, (0, ((G 73 7) + x4))), (0, (2, 0)), (1, (0, x1)), (2, (0, x2)), (3, (0, x3)), (4, (0, x4))]) d_X11_standing_47 (by decide) rfl ?_
    refine r_aload_n d_X11_standing_49 1 rfl rfl ?_
    obtain ⟨b3, e5⟩ : ∃ y : Int, y = (G 0 13) := ⟨_, rfl⟩
    replace h := h b3 e5
    obtain ⟨h4, h⟩ := h
    refine r_getM 11 13 13 rfl d_X11_standing_50 fl_X11_54 (by decide) (bs_ob bs_11) e5.symm (bs_nn h4) ?_
    refine r_iload d_X11_standing_53 0 rfl ?_
    refine r_callV0 (M' := M_X1_closed) (ci := 1) [(0, ((G 73 7) + x4))] d_X11_standing_55 cl_X11_177 rfl (Nat.le_of_ble_eq_true rfl) (by decide) rfl (bs_ob h4) ?_
    refine Ct.mono h (fun r7 G6 h => ?_)
    show Rn _ M_X11_standing zN 58 [(5, (0, ((G 73 7) + x4))), (0, (2, 0)), (1, (0, x1)), (2, (0, x2)), (3, (0, x3)), (4, (0, x4))] [(0, r7)] G6 Q
    obtain ⟨h8, h⟩ := h
    refine r_if_ne (tgt := 129) d_X11_standing_58 (by decide) h8 (fun c9 => ?_) (fun c9 => ?_)
    · replace h := h.1 c9
      refine r_iinc (ls1 := [(4, (0, (x4 + 1))), (5, (0, ((G 73 7) + x4))), (0, (2, 0)), (1, (0, x1)), (2, (0, x2)), (3, (0, x3))]) d_X11_standing_129 5 rfl (by decide) rfl ?_
      refine r_goto (tgt := 30) d_X11_standing_132 (by decide) ?_
      exact Rn.sub [2, 3, 4, 5, 0] rfl h
    · replace h := h.2 c9
      refine r_aload_n d_X11_standing_61 1 rfl rfl ?_
      refine r_getL (v := 6) 11 2 2 rfl d_X11_standing_62 fl_X11_26 (by decide) (bs_ob bs_11) (ly_11_2 bs_11).1 (ly_11_2 bs_11).2.1 ?_
      refine r_aload_n d_X11_standing_65 1 rfl rfl ?_
      obtain ⟨b10, e12⟩ : ∃ y : Int, y = (G6 0 13) := ⟨_, rfl⟩
      replace h := h b10 e12
      obtain ⟨h11, h⟩ := h
      refine r_getM 11 13 13 rfl d_X11_standing_66 fl_X11_54 (by decide) (bs_ob bs_11) e12.symm (bs_nn h11) ?_
      refine r_aload_n d_X11_standing_69 1 rfl rfl ?_
      refine r_getL (v := 73) 11 11 11 rfl d_X11_standing_70 fl_X11_64 (by decide) (bs_ob bs_11) (ly_11_11 bs_11).1 (ly_11_11 bs_11).2.1 ?_
      refine r_iload_n d_X11_standing_73 2 rfl rfl ?_
      refine r_iload d_X11_standing_74 0 rfl ?_
      refine r_callV0 (M' := M_X0_look) (ci := 0) [(2, b10), (2, 73), (0, x1), (0, ((G 73 7) + x4))] d_X11_standing_76 cl_X11_234 rfl (Nat.le_of_ble_eq_true rfl) (by decide) rfl (bs_ob (ly_11_2 bs_11).2.2) ?_
      refine Ct.mono h (fun r14 G13 h => ?_)
      show Rn _ M_X11_standing zN 79 [(5, (0, ((G 73 7) + x4))), (0, (2, 0)), (1, (0, x1)), (2, (0, x2)), (3, (0, x3)), (4, (0, x4))] [] G13 Q
      refine r_iload d_X11_standing_79 5 rfl ?_
      refine r_aload_n d_X11_standing_81 1 rfl rfl ?_
      obtain ⟨b15, e17⟩ : ∃ y : Int, y = (G13 0 13) := ⟨_, rfl⟩
      replace h := h b15 e17
      obtain ⟨h16, h⟩ := h
      refine r_getM 11 13 13 rfl d_X11_standing_82 fl_X11_54 (by decide) (bs_ob bs_11) e17.symm (bs_nn h16) ?_
      refine r_getL (v := (b15 + 5)) 1 4 4 rfl d_X11_standing_85 fl_X11_263 (by decide) (bs_ob h16) (ly_1_4 h16).1 (ly_1_4 h16).2.1 ?_
      refine r_iconst d_X11_standing_88 ?_
      refine r_iaload d_X11_standing_89 (ly_1_4 h16).2.2 (by decide) ?_
      refine r_imul d_X11_standing_90 ?_
      refine r_sipush d_X11_standing_91 (by decide +kernel) ?_
      refine r_imul d_X11_standing_94 ?_
      refine r_aload_n d_X11_standing_95 1 rfl rfl ?_
      refine r_getL (v := 6) 11 2 2 rfl d_X11_standing_96 fl_X11_26 (by decide) (bs_ob bs_11) (ly_11_2 bs_11).1 (ly_11_2 bs_11).2.1 ?_
      refine r_aload_n d_X11_standing_99 1 rfl rfl ?_
      refine r_getL (v := 6) 11 2 2 rfl d_X11_standing_100 fl_X11_26 (by decide) (bs_ob bs_11) (ly_11_2 bs_11).1 (ly_11_2 bs_11).2.1 ?_
      refine r_callV0 (M' := M_X0_cheapest) (ci := 0) [] d_X11_standing_103 cl_X11_246 rfl (Nat.le_of_ble_eq_true rfl) (by decide) rfl (bs_ob (ly_11_2 bs_11).2.2) ?_
      refine Ct.mono h (fun r19 G18 h => ?_)
      show Rn _ M_X11_standing zN 106 [(5, (0, ((G 73 7) + x4))), (0, (2, 0)), (1, (0, x1)), (2, (0, x2)), (3, (0, x3)), (4, (0, x4))] [(0, r19), (2, 6), (0, ((x4 * (G13 (b15 + 5) 3)) * 10000))] G18 Q
      refine r_callV0 (M' := M_X0_paid) (ci := 0) [(0, r19)] d_X11_standing_106 cl_X11_266 rfl (Nat.le_of_ble_eq_true rfl) (by decide) rfl (bs_ob (ly_11_2 bs_11).2.2) ?_
      refine Ct.mono h (fun r21 G20 h => ?_)
      show Rn _ M_X11_standing zN 109 [(5, (0, ((G 73 7) + x4))), (0, (2, 0)), (1, (0, x1)), (2, (0, x2)), (3, (0, x3)), (4, (0, x4))] [(0, r21), (0, ((x4 * (G13 (b15 + 5) 3)) * 10000))] G20 Q
      refine r_iadd d_X11_standing_109 ?_
      refine r_istore (ls1 := [(6, (0, (((x4 * (G13 (b15 + 5) 3)) * 10000) + r21))), (5, (0, ((G 73 7) + x4))), (0, (2, 0)), (1, (0, x1)), (2, (0, x2)), (3, (0, x3)), (4, (0, x4))]) d_X11_standing_110 (by decide) rfl ?_
      refine r_iload_n d_X11_standing_112 4 rfl rfl ?_
      refine r_iconst d_X11_standing_113 ?_
      obtain ⟨h22, h⟩ := h
      refine r_icmp_eq (tgt := 123) d_X11_standing_114 (by decide) h22 ⟨by decide, by decide⟩ (fun c23 => ?_) (fun c23 => ?_)
      · replace h := h.1 c23
        refine r_iload d_X11_standing_123 6 rfl ?_
        refine r_istore_n (ls1 := [(2, (0, x4)), (6, (0, (((x4 * (G13 (b15 + 5) 3)) * 10000) + r21))), (5, (0, ((G 73 7) + x4))), (0, (2, 0)), (1, (0, x1)), (3, (0, x3)), (4, (0, x4))]) d_X11_standing_125 rfl (by decide) rfl ?_
        refine r_iload d_X11_standing_126 1 rfl ?_
        refine r_istore_n (ls1 := [(3, (0, (((x4 * (G13 (b15 + 5) 3)) * 10000) + r21))), (2, (0, x4)), (6, (0, (((x4 * (G13 (b15 + 5) 3)) * 10000) + r21))), (5, (0, ((G 73 7) + x4))), (0, (2, 0)), (1, (0, x1)), (4, (0, x4))]) d_X11_standing_128 rfl (by decide) rfl ?_
        refine r_iinc (ls1 := [(4, (0, (x4 + 1))), (3, (0, (((x4 * (G13 (b15 + 5) 3)) * 10000) + r21))), (2, (0, x4)), (6, (0, (((x4 * (G13 (b15 + 5) 3)) * 10000) + r21))), (5, (0, ((G 73 7) + x4))), (0, (2, 0)), (1, (0, x1))]) d_X11_standing_129 6 rfl (by decide) rfl ?_
        refine r_goto (tgt := 30) d_X11_standing_132 (by decide) ?_
        exact Rn.sub [5, 6, 2, 1, 0] rfl h
      · replace h := h.2 c23
        refine r_iload d_X11_standing_117 0 rfl ?_
        refine r_iload_n d_X11_standing_119 5 rfl rfl ?_
        obtain ⟨h24, h⟩ := h
        obtain ⟨h25, h⟩ := h
        refine r_icmp_ge (tgt := 129) d_X11_standing_120 (by decide) h24 h25 (fun c26 => ?_) (fun c26 => ?_)
        · replace h := h.1 c26
          refine r_iinc (ls1 := [(4, (0, (x4 + 1))), (6, (0, (((x4 * (G13 (b15 + 5) 3)) * 10000) + r21))), (5, (0, ((G 73 7) + x4))), (0, (2, 0)), (1, (0, x1)), (2, (0, x2)), (3, (0, x3))]) d_X11_standing_129 6 rfl (by decide) rfl ?_
          refine r_goto (tgt := 30) d_X11_standing_132 (by decide) ?_
          exact Rn.sub [3, 4, 5, 6, 0] rfl h
        · replace h := h.2 c26
          refine r_iload d_X11_standing_123 6 rfl ?_
          refine r_istore_n (ls1 := [(2, (0, x4)), (6, (0, (((x4 * (G13 (b15 + 5) 3)) * 10000) + r21))), (5, (0, ((G 73 7) + x4))), (0, (2, 0)), (1, (0, x1)), (3, (0, x3)), (4, (0, x4))]) d_X11_standing_125 rfl (by decide) rfl ?_
          refine r_iload d_X11_standing_126 1 rfl ?_
          refine r_istore_n (ls1 := [(3, (0, (((x4 * (G13 (b15 + 5) 3)) * 10000) + r21))), (2, (0, x4)), (6, (0, (((x4 * (G13 (b15 + 5) 3)) * 10000) + r21))), (5, (0, ((G 73 7) + x4))), (0, (2, 0)), (1, (0, x1)), (4, (0, x4))]) d_X11_standing_128 rfl (by decide) rfl ?_
          refine r_iinc (ls1 := [(4, (0, (x4 + 1))), (3, (0, (((x4 * (G13 (b15 + 5) 3)) * 10000) + r21))), (2, (0, x4)), (6, (0, (((x4 * (G13 (b15 + 5) 3)) * 10000) + r21))), (5, (0, ((G 73 7) + x4))), (0, (2, 0)), (1, (0, x1))]) d_X11_standing_129 6 rfl (by decide) rfl ?_
          refine r_goto (tgt := 30) d_X11_standing_132 (by decide) ?_
          exact Rn.sub [5, 6, 2, 1, 0] rfl h
theorem d_X11_habits_0 : decode M_X11_habits.2.1 0 = .ok (.iload_n 2, 1) := by decide +kernel
theorem d_X11_habits_1 : decode M_X11_habits.2.1 1 = .ok (.ifCond .lt 21, 3) := by decide +kernel
theorem d_X11_habits_4 : decode M_X11_habits.2.1 4 = .ok (.iload_n 2, 1) := by decide +kernel
theorem d_X11_habits_5 : decode M_X11_habits.2.1 5 = .ok (.iconst 2, 1) := by decide +kernel
theorem d_X11_habits_6 : decode M_X11_habits.2.1 6 = .ok (.if_icmp .gt 16, 3) := by decide +kernel
theorem d_X11_habits_9 : decode M_X11_habits.2.1 9 = .ok (.iload_n 1, 1) := by decide +kernel
theorem d_X11_habits_10 : decode M_X11_habits.2.1 10 = .ok (.iconst (-1), 1) := by decide +kernel
theorem d_X11_habits_11 : decode M_X11_habits.2.1 11 = .ok (.if_icmp .eq 13, 3) := by decide +kernel
theorem d_X11_habits_14 : decode M_X11_habits.2.1 14 = .ok (.aload_n 0, 1) := by decide +kernel
theorem d_X11_habits_15 : decode M_X11_habits.2.1 15 = .ok (.iload_n 1, 1) := by decide +kernel
theorem d_X11_habits_16 : decode M_X11_habits.2.1 16 = .ok (.invokevirtual 119, 3) := by decide +kernel
theorem d_X11_habits_19 : decode M_X11_habits.2.1 19 = .ok (.ifCond .ne 5, 3) := by decide +kernel
theorem d_X11_habits_22 : decode M_X11_habits.2.1 22 = .ok (.iconst (-1), 1) := by decide +kernel
theorem d_X11_habits_23 : decode M_X11_habits.2.1 23 = .ok (.ireturn, 1) := by decide +kernel
theorem d_X11_habits_24 : decode M_X11_habits.2.1 24 = .ok (.aload_n 0, 1) := by decide +kernel
theorem d_X11_habits_25 : decode M_X11_habits.2.1 25 = .ok (.getfield 40, 3) := by decide +kernel
theorem d_X11_habits_28 : decode M_X11_habits.2.1 28 = .ok (.aload_n 0, 1) := by decide +kernel
theorem d_X11_habits_29 : decode M_X11_habits.2.1 29 = .ok (.getfield 54, 3) := by decide +kernel
theorem d_X11_habits_32 : decode M_X11_habits.2.1 32 = .ok (.invokevirtual 269, 3) := by decide +kernel
theorem d_X11_habits_35 : decode M_X11_habits.2.1 35 = .ok (.aload_n 0, 1) := by decide +kernel
theorem d_X11_habits_36 : decode M_X11_habits.2.1 36 = .ok (.getfield 40, 3) := by decide +kernel
theorem d_X11_habits_39 : decode M_X11_habits.2.1 39 = .ok (.aload_n 0, 1) := by decide +kernel
theorem d_X11_habits_40 : decode M_X11_habits.2.1 40 = .ok (.getfield 54, 3) := by decide +kernel
theorem d_X11_habits_43 : decode M_X11_habits.2.1 43 = .ok (.iconst (-1), 1) := by decide +kernel
theorem d_X11_habits_44 : decode M_X11_habits.2.1 44 = .ok (.invokevirtual 272, 3) := by decide +kernel
theorem d_X11_habits_47 : decode M_X11_habits.2.1 47 = .ok (.iload_n 1, 1) := by decide +kernel
theorem d_X11_habits_48 : decode M_X11_habits.2.1 48 = .ok (.iconst (-1), 1) := by decide +kernel
theorem d_X11_habits_49 : decode M_X11_habits.2.1 49 = .ok (.if_icmp .ne 50, 3) := by decide +kernel
theorem d_X11_habits_52 : decode M_X11_habits.2.1 52 = .ok (.iload_n 2, 1) := by decide +kernel
theorem d_X11_habits_53 : decode M_X11_habits.2.1 53 = .ok (.ifCond .ne 16, 3) := by decide +kernel
theorem d_X11_habits_56 : decode M_X11_habits.2.1 56 = .ok (.aload_n 0, 1) := by decide +kernel
theorem d_X11_habits_57 : decode M_X11_habits.2.1 57 = .ok (.getfield 40, 3) := by decide +kernel
theorem d_X11_habits_60 : decode M_X11_habits.2.1 60 = .ok (.getfield 275, 3) := by decide +kernel
theorem d_X11_habits_63 : decode M_X11_habits.2.1 63 = .ok (.getfield 278, 3) := by decide +kernel
theorem d_X11_habits_66 : decode M_X11_habits.2.1 66 = .ok (.goto 32, 3) := by decide +kernel
theorem d_X11_habits_69 : decode M_X11_habits.2.1 69 = .ok (.iload_n 2, 1) := by decide +kernel
theorem d_X11_habits_70 : decode M_X11_habits.2.1 70 = .ok (.iconst 1, 1) := by decide +kernel
theorem d_X11_habits_71 : decode M_X11_habits.2.1 71 = .ok (.if_icmp .ne 16, 3) := by decide +kernel
theorem d_X11_habits_74 : decode M_X11_habits.2.1 74 = .ok (.aload_n 0, 1) := by decide +kernel
theorem d_X11_habits_75 : decode M_X11_habits.2.1 75 = .ok (.getfield 40, 3) := by decide +kernel
theorem d_X11_habits_78 : decode M_X11_habits.2.1 78 = .ok (.getfield 275, 3) := by decide +kernel
theorem d_X11_habits_81 : decode M_X11_habits.2.1 81 = .ok (.getfield 281, 3) := by decide +kernel
theorem d_X11_habits_84 : decode M_X11_habits.2.1 84 = .ok (.goto 14, 3) := by decide +kernel
theorem d_X11_habits_87 : decode M_X11_habits.2.1 87 = .ok (.aload_n 0, 1) := by decide +kernel
theorem d_X11_habits_88 : decode M_X11_habits.2.1 88 = .ok (.getfield 40, 3) := by decide +kernel
theorem d_X11_habits_91 : decode M_X11_habits.2.1 91 = .ok (.aload_n 0, 1) := by decide +kernel
theorem d_X11_habits_92 : decode M_X11_habits.2.1 92 = .ok (.getfield 54, 3) := by decide +kernel
theorem d_X11_habits_95 : decode M_X11_habits.2.1 95 = .ok (.invokevirtual 284, 3) := by decide +kernel
theorem d_X11_habits_98 : decode M_X11_habits.2.1 98 = .ok (.ireturn, 1) := by decide +kernel
theorem d_X11_habits_99 : decode M_X11_habits.2.1 99 = .ok (.iload_n 2, 1) := by decide +kernel
theorem d_X11_habits_100 : decode M_X11_habits.2.1 100 = .ok (.ifCond .ne 15, 3) := by decide +kernel
theorem d_X11_habits_103 : decode M_X11_habits.2.1 103 = .ok (.aload_n 0, 1) := by decide +kernel
theorem d_X11_habits_104 : decode M_X11_habits.2.1 104 = .ok (.getfield 40, 3) := by decide +kernel
theorem d_X11_habits_107 : decode M_X11_habits.2.1 107 = .ok (.getfield 288, 3) := by decide +kernel
theorem d_X11_habits_110 : decode M_X11_habits.2.1 110 = .ok (.iload_n 1, 1) := by decide +kernel
theorem d_X11_habits_111 : decode M_X11_habits.2.1 111 = .ok (.iaload, 1) := by decide +kernel
theorem d_X11_habits_112 : decode M_X11_habits.2.1 112 = .ok (.goto 32, 3) := by decide +kernel
theorem d_X11_habits_115 : decode M_X11_habits.2.1 115 = .ok (.iload_n 2, 1) := by decide +kernel
theorem d_X11_habits_116 : decode M_X11_habits.2.1 116 = .ok (.iconst 1, 1) := by decide +kernel
theorem d_X11_habits_117 : decode M_X11_habits.2.1 117 = .ok (.if_icmp .ne 15, 3) := by decide +kernel
theorem d_X11_habits_120 : decode M_X11_habits.2.1 120 = .ok (.aload_n 0, 1) := by decide +kernel
theorem d_X11_habits_121 : decode M_X11_habits.2.1 121 = .ok (.getfield 40, 3) := by decide +kernel
theorem d_X11_habits_124 : decode M_X11_habits.2.1 124 = .ok (.getfield 291, 3) := by decide +kernel
theorem d_X11_habits_127 : decode M_X11_habits.2.1 127 = .ok (.iload_n 1, 1) := by decide +kernel
theorem d_X11_habits_128 : decode M_X11_habits.2.1 128 = .ok (.iaload, 1) := by decide +kernel
theorem d_X11_habits_129 : decode M_X11_habits.2.1 129 = .ok (.goto 15, 3) := by decide +kernel
theorem d_X11_habits_132 : decode M_X11_habits.2.1 132 = .ok (.aload_n 0, 1) := by decide +kernel
theorem d_X11_habits_133 : decode M_X11_habits.2.1 133 = .ok (.getfield 40, 3) := by decide +kernel
theorem d_X11_habits_136 : decode M_X11_habits.2.1 136 = .ok (.getfield 275, 3) := by decide +kernel
theorem d_X11_habits_139 : decode M_X11_habits.2.1 139 = .ok (.getfield 162, 3) := by decide +kernel
theorem d_X11_habits_142 : decode M_X11_habits.2.1 142 = .ok (.iload_n 1, 1) := by decide +kernel
theorem d_X11_habits_143 : decode M_X11_habits.2.1 143 = .ok (.iaload, 1) := by decide +kernel
theorem d_X11_habits_144 : decode M_X11_habits.2.1 144 = .ok (.ireturn, 1) := by decide +kernel
set_option maxRecDepth 20000 in
theorem s_X11_habits_0 {d : Nat} {p0 : Int} {p1 : Int} {G : Mem} {Q : Int → Mem → Prop}  (h : (InR p1) ∧ ((p1 < 0) → Q (-1) G) ∧ (¬ (p1 < 0) → ((2 < p1) → Q (-1) G) ∧ (¬ (2 < p1) → (InR p0) ∧ ((p0 = (-1)) → Rn (d + 1) M_X11_habits zN 24 [(0, (2, 0)), (1, (0, p0)), (2, (0, p1))] [] G Q) ∧ (¬ (p0 = (-1)) → Ct d M_X11_known NT 0 0 (some lay) [(2, 0), (0, p0)] G (fun r7 G6 => (InR r7) ∧ ((r7 ≠ 0) → Rn (d + 1) M_X11_habits zN 24 [(0, (2, 0)), (1, (0, p0)), (2, (0, p1))] [] G6 Q) ∧ (¬ (r7 ≠ 0) → Q (-1) G6)))))) : Rn (d + 1) M_X11_habits zN 0 [(0, (2, 0)), (1, (0, p0)), (2, (0, p1))] [] G Q := by
  refine r_iload_n d_X11_habits_0 2 rfl rfl ?_
  obtain ⟨h1, h⟩ := h
  refine r_if_lt (tgt := 22) d_X11_habits_1 (by decide) h1 (fun c2 => ?_) (fun c2 => ?_)
  · replace h := h.1 c2
    refine r_iconst d_X11_habits_22 ?_
    exact r_ireturn d_X11_habits_23 rfl ⟨rfl, Nat.le_refl _, Nat.le_refl _⟩ h
  · replace h := h.2 c2
    refine r_iload_n d_X11_habits_4 2 rfl rfl ?_
    refine r_iconst d_X11_habits_5 ?_
    refine r_icmp_gt (tgt := 22) d_X11_habits_6 (by decide) h1 ⟨by decide, by decide⟩ (fun c3 => ?_) (fun c3 => ?_)
    · replace h := h.1 c3
      refine r_iconst d_X11_habits_22 ?_
      exact r_ireturn d_X11_habits_23 rfl ⟨rfl, Nat.le_refl _, Nat.le_refl _⟩ h
    · replace h := h.2 c3
      refine r_iload_n d_X11_habits_9 1 rfl rfl ?_
      refine r_iconst d_X11_habits_10 ?_
      obtain ⟨h4, h⟩ := h
      refine r_icmp_eq (tgt := 24) d_X11_habits_11 (by decide) h4 ⟨by decide, by decide⟩ (fun c5 => ?_) (fun c5 => ?_)
      · replace h := h.1 c5
        exact h
      · replace h := h.2 c5
        refine r_aload_n d_X11_habits_14 0 rfl rfl ?_
        refine r_iload_n d_X11_habits_15 1 rfl rfl ?_
        refine r_callV0 (M' := M_X11_known) (ci := 11) [(0, p0)] d_X11_habits_16 cl_X11_119 rfl (Nat.le_of_ble_eq_true rfl) (by decide) rfl (bs_ob bs_11) ?_
        refine Ct.mono h (fun r7 G6 h => ?_)
        show Rn _ M_X11_habits zN 19 [(0, (2, 0)), (1, (0, p0)), (2, (0, p1))] [(0, r7)] G6 Q
        obtain ⟨h8, h⟩ := h
        refine r_if_ne (tgt := 24) d_X11_habits_19 (by decide) h8 (fun c9 => ?_) (fun c9 => ?_)
        · replace h := h.1 c9
          exact h
        · replace h := h.2 c9
          refine r_iconst d_X11_habits_22 ?_
          exact r_ireturn d_X11_habits_23 rfl ⟨rfl, Nat.le_refl _, Nat.le_refl _⟩ h
set_option maxRecDepth 20000 in
theorem s_X11_habits_24 {d : Nat} {x1 : Int} {x2 : Int} {G : Mem} {Q : Int → Mem → Prop}  (h : ∀ b1 : Int, b1 = (G 0 13) → (Bs 1 b1 ∧ Ct d M_X2_seatAsTold NT 0 0 (some lay) [(2, 19), (2, b1)] G (fun r5 G4 => ∀ b6 : Int, b6 = (G4 0 13) → (Bs 1 b6 ∧ Ct d M_X2_fly NT 0 0 (some lay) [(2, 19), (2, b6), (0, (-1))] G4 (fun r10 G9 => (InR x1) ∧ ((x1 ≠ (-1)) → (InR x2) ∧ ((x2 ≠ 0) → ((x2 ≠ 1) → (0 ≤ x1 ∧ x1 < 5) ∧ (Q (G9 26 x1) G9)) ∧ (¬ (x2 ≠ 1) → (0 ≤ x1 ∧ x1 < 5) ∧ (Q (G9 29 x1) G9))) ∧ (¬ (x2 ≠ 0) → (0 ≤ x1 ∧ x1 < 5) ∧ (Q (G9 28 x1) G9))) ∧ (¬ (x1 ≠ (-1)) → (InR x2) ∧ ((x2 ≠ 0) → ((x2 ≠ 1) → ∀ b22 : Int, b22 = (G9 0 13) → (Bs 1 b22 ∧ Ct d M_X2_pence NT 0 0 (some lay) [(2, 19), (2, b22)] G9 (fun r26 G25 => Q r26 G25))) ∧ (¬ (x2 ≠ 1) → Q (G9 20 11) G9)) ∧ (¬ (x2 ≠ 0) → Q (G9 20 8) G9))))))) : Rn (d + 1) M_X11_habits zN 24 [(0, (2, 0)), (1, (0, x1)), (2, (0, x2))] [] G Q := by
  refine r_aload_n d_X11_habits_24 0 rfl rfl ?_
  refine r_getL (v := 19) 11 4 4 rfl d_X11_habits_25 fl_X11_40 (by decide) (bs_ob bs_11) (ly_11_4 bs_11).1 (ly_11_4 bs_11).2.1 ?_
  refine r_aload_n d_X11_habits_28 0 rfl rfl ?_
  obtain ⟨b1, e3⟩ : ∃ y : Int, y = (G 0 13) := ⟨_, rfl⟩
  replace h := h b1 e3
  obtain ⟨h2, h⟩ := h
  refine r_getM 11 13 13 rfl d_X11_habits_29 fl_X11_54 (by decide) (bs_ob bs_11) e3.symm (bs_nn h2) ?_
  refine r_callV0 (M' := M_X2_seatAsTold) (ci := 2) [(2, b1)] d_X11_habits_32 cl_X11_269 rfl (Nat.le_of_ble_eq_true rfl) (by decide) rfl (bs_ob (ly_11_4 bs_11).2.2) ?_
  refine Ct.mono h (fun r5 G4 h => ?_)
  show Rn _ M_X11_habits zN 35 [(0, (2, 0)), (1, (0, x1)), (2, (0, x2))] [] G4 Q
  refine r_aload_n d_X11_habits_35 0 rfl rfl ?_
  refine r_getL (v := 19) 11 4 4 rfl d_X11_habits_36 fl_X11_40 (by decide) (bs_ob bs_11) (ly_11_4 bs_11).1 (ly_11_4 bs_11).2.1 ?_
  refine r_aload_n d_X11_habits_39 0 rfl rfl ?_
  obtain ⟨b6, e8⟩ : ∃ y : Int, y = (G4 0 13) := ⟨_, rfl⟩
  replace h := h b6 e8
  obtain ⟨h7, h⟩ := h
  refine r_getM 11 13 13 rfl d_X11_habits_40 fl_X11_54 (by decide) (bs_ob bs_11) e8.symm (bs_nn h7) ?_
  refine r_iconst d_X11_habits_43 ?_
  refine r_callV0 (M' := M_X2_fly) (ci := 2) [(2, b6), (0, (-1))] d_X11_habits_44 cl_X11_272 rfl (Nat.le_of_ble_eq_true rfl) (by decide) rfl (bs_ob (ly_11_4 bs_11).2.2) ?_
  refine Ct.mono h (fun r10 G9 h => ?_)
  show Rn _ M_X11_habits zN 47 [(0, (2, 0)), (1, (0, x1)), (2, (0, x2))] [] G9 Q
  refine r_iload_n d_X11_habits_47 1 rfl rfl ?_
  refine r_iconst d_X11_habits_48 ?_
  obtain ⟨h11, h⟩ := h
  refine r_icmp_ne (tgt := 99) d_X11_habits_49 (by decide) h11 ⟨by decide, by decide⟩ (fun c12 => ?_) (fun c12 => ?_)
  · replace h := h.1 c12
    refine r_iload_n d_X11_habits_99 2 rfl rfl ?_
    obtain ⟨h13, h⟩ := h
    refine r_if_ne (tgt := 115) d_X11_habits_100 (by decide) h13 (fun c14 => ?_) (fun c14 => ?_)
    · replace h := h.1 c14
      refine r_iload_n d_X11_habits_115 2 rfl rfl ?_
      refine r_iconst d_X11_habits_116 ?_
      refine r_icmp_ne (tgt := 132) d_X11_habits_117 (by decide) h13 ⟨by decide, by decide⟩ (fun c15 => ?_) (fun c15 => ?_)
      · replace h := h.1 c15
        refine r_aload_n d_X11_habits_132 0 rfl rfl ?_
        refine r_getL (v := 19) 11 4 4 rfl d_X11_habits_133 fl_X11_40 (by decide) (bs_ob bs_11) (ly_11_4 bs_11).1 (ly_11_4 bs_11).2.1 ?_
        refine r_getL (v := 20) 2 0 0 rfl d_X11_habits_136 fl_X11_275 (by decide) (bs_ob (ly_11_4 bs_11).2.2) (ly_2_0 (ly_11_4 bs_11).2.2).1 (ly_2_0 (ly_11_4 bs_11).2.2).2.1 ?_
        refine r_getL (v := 26) 8 5 5 rfl d_X11_habits_139 fl_X11_162 (by decide) (bs_ob (ly_2_0 (ly_11_4 bs_11).2.2).2.2) (ly_8_5 (ly_2_0 (ly_11_4 bs_11).2.2).2.2).1 (ly_8_5 (ly_2_0 (ly_11_4 bs_11).2.2).2.2).2.1 ?_
        refine r_iload_n d_X11_habits_142 1 rfl rfl ?_
        obtain ⟨h16, h⟩ := h
        refine r_iaload d_X11_habits_143 (ly_8_5 (ly_2_0 (ly_11_4 bs_11).2.2).2.2).2.2 h16 ?_
        exact r_ireturn d_X11_habits_144 rfl ⟨rfl, Nat.le_refl _, Nat.le_refl _⟩ h
      · replace h := h.2 c15
        refine r_aload_n d_X11_habits_120 0 rfl rfl ?_
        refine r_getL (v := 19) 11 4 4 rfl d_X11_habits_121 fl_X11_40 (by decide) (bs_ob bs_11) (ly_11_4 bs_11).1 (ly_11_4 bs_11).2.1 ?_
        refine r_getL (v := 29) 2 2 2 rfl d_X11_habits_124 fl_X11_291 (by decide) (bs_ob (ly_11_4 bs_11).2.2) (ly_2_2 (ly_11_4 bs_11).2.2).1 (ly_2_2 (ly_11_4 bs_11).2.2).2.1 ?_
        refine r_iload_n d_X11_habits_127 1 rfl rfl ?_
        obtain ⟨h17, h⟩ := h
        refine r_iaload d_X11_habits_128 (ly_2_2 (ly_11_4 bs_11).2.2).2.2 h17 ?_
        refine r_goto (tgt := 144) d_X11_habits_129 (by decide) ?_
        exact r_ireturn d_X11_habits_144 rfl ⟨rfl, Nat.le_refl _, Nat.le_refl _⟩ h
    · replace h := h.2 c14
      refine r_aload_n d_X11_habits_103 0 rfl rfl ?_
      refine r_getL (v := 19) 11 4 4 rfl d_X11_habits_104 fl_X11_40 (by decide) (bs_ob bs_11) (ly_11_4 bs_11).1 (ly_11_4 bs_11).2.1 ?_
      refine r_getL (v := 28) 2 1 1 rfl d_X11_habits_107 fl_X11_288 (by decide) (bs_ob (ly_11_4 bs_11).2.2) (ly_2_1 (ly_11_4 bs_11).2.2).1 (ly_2_1 (ly_11_4 bs_11).2.2).2.1 ?_
      refine r_iload_n d_X11_habits_110 1 rfl rfl ?_
      obtain ⟨h18, h⟩ := h
      refine r_iaload d_X11_habits_111 (ly_2_1 (ly_11_4 bs_11).2.2).2.2 h18 ?_
      refine r_goto (tgt := 144) d_X11_habits_112 (by decide) ?_
      exact r_ireturn d_X11_habits_144 rfl ⟨rfl, Nat.le_refl _, Nat.le_refl _⟩ h
  · replace h := h.2 c12
    refine r_iload_n d_X11_habits_52 2 rfl rfl ?_
    obtain ⟨h19, h⟩ := h
    refine r_if_ne (tgt := 69) d_X11_habits_53 (by decide) h19 (fun c20 => ?_) (fun c20 => ?_)
    · replace h := h.1 c20
      refine r_iload_n d_X11_habits_69 2 rfl rfl ?_
      refine r_iconst d_X11_habits_70 ?_
      refine r_icmp_ne (tgt := 87) d_X11_habits_71 (by decide) h19 ⟨by decide, by decide⟩ (fun c21 => ?_) (fun c21 => ?_)
      · replace h := h.1 c21
        refine r_aload_n d_X11_habits_87 0 rfl rfl ?_
        refine r_getL (v := 19) 11 4 4 rfl d_X11_habits_88 fl_X11_40 (by decide) (bs_ob bs_11) (ly_11_4 bs_11).1 (ly_11_4 bs_11).2.1 ?_
        refine r_aload_n d_X11_habits_91 0 rfl rfl ?_
        obtain ⟨b22, e24⟩ : ∃ y : Int, y = (G9 0 13) := ⟨_, rfl⟩
        replace h := h b22 e24
        obtain ⟨h23, h⟩ := h
        refine r_getM 11 13 13 rfl d_X11_habits_92 fl_X11_54 (by decide) (bs_ob bs_11) e24.symm (bs_nn h23) ?_
        refine r_callV0 (M' := M_X2_pence) (ci := 2) [(2, b22)] d_X11_habits_95 cl_X11_284 rfl (Nat.le_of_ble_eq_true rfl) (by decide) rfl (bs_ob (ly_11_4 bs_11).2.2) ?_
        refine Ct.mono h (fun r26 G25 h => ?_)
        show Rn _ M_X11_habits zN 98 [(0, (2, 0)), (1, (0, x1)), (2, (0, x2))] [(0, r26)] G25 Q
        exact r_ireturn d_X11_habits_98 rfl ⟨rfl, Nat.le_refl _, Nat.le_refl _⟩ h
      · replace h := h.2 c21
        refine r_aload_n d_X11_habits_74 0 rfl rfl ?_
        refine r_getL (v := 19) 11 4 4 rfl d_X11_habits_75 fl_X11_40 (by decide) (bs_ob bs_11) (ly_11_4 bs_11).1 (ly_11_4 bs_11).2.1 ?_
        refine r_getL (v := 20) 2 0 0 rfl d_X11_habits_78 fl_X11_275 (by decide) (bs_ob (ly_11_4 bs_11).2.2) (ly_2_0 (ly_11_4 bs_11).2.2).1 (ly_2_0 (ly_11_4 bs_11).2.2).2.1 ?_
        refine r_getI 8 11 11 rfl d_X11_habits_81 fl_X11_281 (by decide) (bs_ob (ly_2_0 (ly_11_4 bs_11).2.2).2.2) ?_
        refine r_goto (tgt := 98) d_X11_habits_84 (by decide) ?_
        exact r_ireturn d_X11_habits_98 rfl ⟨rfl, Nat.le_refl _, Nat.le_refl _⟩ h
    · replace h := h.2 c20
      refine r_aload_n d_X11_habits_56 0 rfl rfl ?_
      refine r_getL (v := 19) 11 4 4 rfl d_X11_habits_57 fl_X11_40 (by decide) (bs_ob bs_11) (ly_11_4 bs_11).1 (ly_11_4 bs_11).2.1 ?_
      refine r_getL (v := 20) 2 0 0 rfl d_X11_habits_60 fl_X11_275 (by decide) (bs_ob (ly_11_4 bs_11).2.2) (ly_2_0 (ly_11_4 bs_11).2.2).1 (ly_2_0 (ly_11_4 bs_11).2.2).2.1 ?_
      refine r_getI 8 8 8 rfl d_X11_habits_63 fl_X11_278 (by decide) (bs_ob (ly_2_0 (ly_11_4 bs_11).2.2).2.2) ?_
      refine r_goto (tgt := 98) d_X11_habits_66 (by decide) ?_
      exact r_ireturn d_X11_habits_98 rfl ⟨rfl, Nat.le_refl _, Nat.le_refl _⟩ h
theorem d_X11_seated_0 : decode M_X11_seated.2.1 0 = .ok (.aload_n 0, 1) := by decide +kernel
theorem d_X11_seated_1 : decode M_X11_seated.2.1 1 = .ok (.getfield 54, 3) := by decide +kernel
theorem d_X11_seated_4 : decode M_X11_seated.2.1 4 = .ok (.getfield 294, 3) := by decide +kernel
theorem d_X11_seated_7 : decode M_X11_seated.2.1 7 = .ok (.ifCond .eq 19, 3) := by decide +kernel
theorem d_X11_seated_10 : decode M_X11_seated.2.1 10 = .ok (.iload_n 1, 1) := by decide +kernel
theorem d_X11_seated_11 : decode M_X11_seated.2.1 11 = .ok (.iconst (-1), 1) := by decide +kernel
theorem d_X11_seated_12 : decode M_X11_seated.2.1 12 = .ok (.if_icmp .lt 14, 3) := by decide +kernel
theorem d_X11_seated_15 : decode M_X11_seated.2.1 15 = .ok (.iload_n 1, 1) := by decide +kernel
theorem d_X11_seated_16 : decode M_X11_seated.2.1 16 = .ok (.aload_n 0, 1) := by decide +kernel
theorem d_X11_seated_17 : decode M_X11_seated.2.1 17 = .ok (.getfield 54, 3) := by decide +kernel
theorem d_X11_seated_20 : decode M_X11_seated.2.1 20 = .ok (.getfield 294, 3) := by decide +kernel
theorem d_X11_seated_23 : decode M_X11_seated.2.1 23 = .ok (.if_icmp .lt 6, 3) := by decide +kernel
theorem d_X11_seated_26 : decode M_X11_seated.2.1 26 = .ok (.bipush (-2), 2) := by decide +kernel
theorem d_X11_seated_28 : decode M_X11_seated.2.1 28 = .ok (.ireturn, 1) := by decide +kernel
theorem d_X11_seated_29 : decode M_X11_seated.2.1 29 = .ok (.aload_n 0, 1) := by decide +kernel
theorem d_X11_seated_30 : decode M_X11_seated.2.1 30 = .ok (.getfield 40, 3) := by decide +kernel
theorem d_X11_seated_33 : decode M_X11_seated.2.1 33 = .ok (.aload_n 0, 1) := by decide +kernel
theorem d_X11_seated_34 : decode M_X11_seated.2.1 34 = .ok (.getfield 54, 3) := by decide +kernel
theorem d_X11_seated_37 : decode M_X11_seated.2.1 37 = .ok (.invokevirtual 295, 3) := by decide +kernel
theorem d_X11_seated_40 : decode M_X11_seated.2.1 40 = .ok (.iload_n 1, 1) := by decide +kernel
theorem d_X11_seated_41 : decode M_X11_seated.2.1 41 = .ok (.iconst (-1), 1) := by decide +kernel
theorem d_X11_seated_42 : decode M_X11_seated.2.1 42 = .ok (.if_icmp .ne 13, 3) := by decide +kernel
theorem d_X11_seated_45 : decode M_X11_seated.2.1 45 = .ok (.aload_n 0, 1) := by decide +kernel
theorem d_X11_seated_46 : decode M_X11_seated.2.1 46 = .ok (.getfield 40, 3) := by decide +kernel
theorem d_X11_seated_49 : decode M_X11_seated.2.1 49 = .ok (.getfield 298, 3) := by decide +kernel
theorem d_X11_seated_52 : decode M_X11_seated.2.1 52 = .ok (.goto 12, 3) := by decide +kernel
theorem d_X11_seated_55 : decode M_X11_seated.2.1 55 = .ok (.aload_n 0, 1) := by decide +kernel
theorem d_X11_seated_56 : decode M_X11_seated.2.1 56 = .ok (.getfield 40, 3) := by decide +kernel
theorem d_X11_seated_59 : decode M_X11_seated.2.1 59 = .ok (.getfield 299, 3) := by decide +kernel
theorem d_X11_seated_62 : decode M_X11_seated.2.1 62 = .ok (.iload_n 1, 1) := by decide +kernel
theorem d_X11_seated_63 : decode M_X11_seated.2.1 63 = .ok (.iaload, 1) := by decide +kernel
theorem d_X11_seated_64 : decode M_X11_seated.2.1 64 = .ok (.ireturn, 1) := by decide +kernel
set_option maxRecDepth 20000 in
theorem s_X11_seated_0 {d : Nat} {p0 : Int} {G : Mem} {Q : Int → Mem → Prop}  (h : ∀ b1 : Int, b1 = (G 0 13) → (Bs 1 b1 ∧ (InR (G b1 8)) ∧ (((G b1 8) = 0) → Q (-2) G) ∧ (¬ ((G b1 8) = 0) → (InR p0) ∧ ((p0 < (-1)) → Q (-2) G) ∧ (¬ (p0 < (-1)) → ∀ b8 : Int, b8 = (G 0 13) → (Bs 1 b8 ∧ (InR (G b8 8)) ∧ ((p0 < (G b8 8)) → ∀ b13 : Int, b13 = (G 0 13) → (Bs 1 b13 ∧ Ct d M_X2_rank NT 0 0 (some lay) [(2, 19), (2, b13)] G (fun r17 G16 => ((p0 ≠ (-1)) → (0 ≤ p0 ∧ p0 < 5) ∧ (Q (G16 30 p0) G16)) ∧ (¬ (p0 ≠ (-1)) → Q (G16 19 4) G16)))) ∧ (¬ (p0 < (G b8 8)) → Q (-2) G)))))) : Rn (d + 1) M_X11_seated zN 0 [(0, (2, 0)), (1, (0, p0))] [] G Q := by
  refine r_aload_n d_X11_seated_0 0 rfl rfl ?_
  obtain ⟨b1, e3⟩ : ∃ y : Int, y = (G 0 13) := ⟨_, rfl⟩
  replace h := h b1 e3
  obtain ⟨h2, h⟩ := h
  refine r_getM 11 13 13 rfl d_X11_seated_1 fl_X11_54 (by decide) (bs_ob bs_11) e3.symm (bs_nn h2) ?_
  refine r_getI 1 8 8 rfl d_X11_seated_4 fl_X11_294 (by decide) (bs_ob h2) ?_
  obtain ⟨h4, h⟩ := h
  refine r_if_eq (tgt := 26) d_X11_seated_7 (by decide) h4 (fun c5 => ?_) (fun c5 => ?_)
  · replace h := h.1 c5
    refine r_bipush d_X11_seated_26 (by decide +kernel) ?_
    exact r_ireturn d_X11_seated_28 rfl ⟨rfl, Nat.le_refl _, Nat.le_refl _⟩ h
  · replace h := h.2 c5
    refine r_iload_n d_X11_seated_10 1 rfl rfl ?_
    refine r_iconst d_X11_seated_11 ?_
    obtain ⟨h6, h⟩ := h
    refine r_icmp_lt (tgt := 26) d_X11_seated_12 (by decide) h6 ⟨by decide, by decide⟩ (fun c7 => ?_) (fun c7 => ?_)
    · replace h := h.1 c7
      refine r_bipush d_X11_seated_26 (by decide +kernel) ?_
      exact r_ireturn d_X11_seated_28 rfl ⟨rfl, Nat.le_refl _, Nat.le_refl _⟩ h
    · replace h := h.2 c7
      refine r_iload_n d_X11_seated_15 1 rfl rfl ?_
      refine r_aload_n d_X11_seated_16 0 rfl rfl ?_
      obtain ⟨b8, e10⟩ : ∃ y : Int, y = (G 0 13) := ⟨_, rfl⟩
      replace h := h b8 e10
      obtain ⟨h9, h⟩ := h
      refine r_getM 11 13 13 rfl d_X11_seated_17 fl_X11_54 (by decide) (bs_ob bs_11) e10.symm (bs_nn h9) ?_
      refine r_getI 1 8 8 rfl d_X11_seated_20 fl_X11_294 (by decide) (bs_ob h9) ?_
      obtain ⟨h11, h⟩ := h
      refine r_icmp_lt (tgt := 29) d_X11_seated_23 (by decide) h6 h11 (fun c12 => ?_) (fun c12 => ?_)
      · replace h := h.1 c12
        refine r_aload_n d_X11_seated_29 0 rfl rfl ?_
        refine r_getL (v := 19) 11 4 4 rfl d_X11_seated_30 fl_X11_40 (by decide) (bs_ob bs_11) (ly_11_4 bs_11).1 (ly_11_4 bs_11).2.1 ?_
        refine r_aload_n d_X11_seated_33 0 rfl rfl ?_
        obtain ⟨b13, e15⟩ : ∃ y : Int, y = (G 0 13) := ⟨_, rfl⟩
        replace h := h b13 e15
        obtain ⟨h14, h⟩ := h
        refine r_getM 11 13 13 rfl d_X11_seated_34 fl_X11_54 (by decide) (bs_ob bs_11) e15.symm (bs_nn h14) ?_
        refine r_callV0 (M' := M_X2_rank) (ci := 2) [(2, b13)] d_X11_seated_37 cl_X11_295 rfl (Nat.le_of_ble_eq_true rfl) (by decide) rfl (bs_ob (ly_11_4 bs_11).2.2) ?_
        refine Ct.mono h (fun r17 G16 h => ?_)
        show Rn _ M_X11_seated zN 40 [(0, (2, 0)), (1, (0, p0))] [] G16 Q
        refine r_iload_n d_X11_seated_40 1 rfl rfl ?_
        refine r_iconst d_X11_seated_41 ?_
        refine r_icmp_ne (tgt := 55) d_X11_seated_42 (by decide) h6 ⟨by decide, by decide⟩ (fun c18 => ?_) (fun c18 => ?_)
        · replace h := h.1 c18
          refine r_aload_n d_X11_seated_55 0 rfl rfl ?_
          refine r_getL (v := 19) 11 4 4 rfl d_X11_seated_56 fl_X11_40 (by decide) (bs_ob bs_11) (ly_11_4 bs_11).1 (ly_11_4 bs_11).2.1 ?_
          refine r_getL (v := 30) 2 3 3 rfl d_X11_seated_59 fl_X11_299 (by decide) (bs_ob (ly_11_4 bs_11).2.2) (ly_2_3 (ly_11_4 bs_11).2.2).1 (ly_2_3 (ly_11_4 bs_11).2.2).2.1 ?_
          refine r_iload_n d_X11_seated_62 1 rfl rfl ?_
          obtain ⟨h19, h⟩ := h
          refine r_iaload d_X11_seated_63 (ly_2_3 (ly_11_4 bs_11).2.2).2.2 h19 ?_
          exact r_ireturn d_X11_seated_64 rfl ⟨rfl, Nat.le_refl _, Nat.le_refl _⟩ h
        · replace h := h.2 c18
          refine r_aload_n d_X11_seated_45 0 rfl rfl ?_
          refine r_getL (v := 19) 11 4 4 rfl d_X11_seated_46 fl_X11_40 (by decide) (bs_ob bs_11) (ly_11_4 bs_11).1 (ly_11_4 bs_11).2.1 ?_
          refine r_getI 2 4 4 rfl d_X11_seated_49 fl_X11_298 (by decide) (bs_ob (ly_11_4 bs_11).2.2) ?_
          refine r_goto (tgt := 64) d_X11_seated_52 (by decide) ?_
          exact r_ireturn d_X11_seated_64 rfl ⟨rfl, Nat.le_refl _, Nat.le_refl _⟩ h
      · replace h := h.2 c12
        refine r_bipush d_X11_seated_26 (by decide +kernel) ?_
        exact r_ireturn d_X11_seated_28 rfl ⟨rfl, Nat.le_refl _, Nat.le_refl _⟩ h
theorem d_X11_rests_0 : decode M_X11_rests.2.1 0 = .ok (.iload_n 2, 1) := by decide +kernel
theorem d_X11_rests_1 : decode M_X11_rests.2.1 1 = .ok (.iconst (-1), 1) := by decide +kernel
theorem d_X11_rests_2 : decode M_X11_rests.2.1 2 = .ok (.if_icmp .lt 22, 3) := by decide +kernel
theorem d_X11_rests_5 : decode M_X11_rests.2.1 5 = .ok (.aload_n 0, 1) := by decide +kernel
theorem d_X11_rests_6 : decode M_X11_rests.2.1 6 = .ok (.getfield 47, 3) := by decide +kernel
theorem d_X11_rests_9 : decode M_X11_rests.2.1 9 = .ok (.aload_n 0, 1) := by decide +kernel
theorem d_X11_rests_10 : decode M_X11_rests.2.1 10 = .ok (.getfield 54, 3) := by decide +kernel
theorem d_X11_rests_13 : decode M_X11_rests.2.1 13 = .ok (.aload_n 0, 1) := by decide +kernel
theorem d_X11_rests_14 : decode M_X11_rests.2.1 14 = .ok (.getfield 64, 3) := by decide +kernel
theorem d_X11_rests_17 : decode M_X11_rests.2.1 17 = .ok (.iload_n 1, 1) := by decide +kernel
theorem d_X11_rests_18 : decode M_X11_rests.2.1 18 = .ok (.invokevirtual 318, 3) := by decide +kernel
theorem d_X11_rests_21 : decode M_X11_rests.2.1 21 = .ok (.ifCond .ne 5, 3) := by decide +kernel
theorem d_X11_rests_24 : decode M_X11_rests.2.1 24 = .ok (.iconst (-1), 1) := by decide +kernel
theorem d_X11_rests_25 : decode M_X11_rests.2.1 25 = .ok (.ireturn, 1) := by decide +kernel
theorem d_X11_rests_26 : decode M_X11_rests.2.1 26 = .ok (.iload_n 2, 1) := by decide +kernel
theorem d_X11_rests_27 : decode M_X11_rests.2.1 27 = .ok (.iconst (-1), 1) := by decide +kernel
theorem d_X11_rests_28 : decode M_X11_rests.2.1 28 = .ok (.if_icmp .ne 13, 3) := by decide +kernel
theorem d_X11_rests_31 : decode M_X11_rests.2.1 31 = .ok (.aload_n 0, 1) := by decide +kernel
theorem d_X11_rests_32 : decode M_X11_rests.2.1 32 = .ok (.getfield 47, 3) := by decide +kernel
theorem d_X11_rests_35 : decode M_X11_rests.2.1 35 = .ok (.invokevirtual 322, 3) := by decide +kernel
theorem d_X11_rests_38 : decode M_X11_rests.2.1 38 = .ok (.goto 11, 3) := by decide +kernel
theorem d_X11_rests_41 : decode M_X11_rests.2.1 41 = .ok (.aload_n 0, 1) := by decide +kernel
theorem d_X11_rests_42 : decode M_X11_rests.2.1 42 = .ok (.getfield 47, 3) := by decide +kernel
theorem d_X11_rests_45 : decode M_X11_rests.2.1 45 = .ok (.iload_n 2, 1) := by decide +kernel
theorem d_X11_rests_46 : decode M_X11_rests.2.1 46 = .ok (.invokevirtual 325, 3) := by decide +kernel
theorem d_X11_rests_49 : decode M_X11_rests.2.1 49 = .ok (.ireturn, 1) := by decide +kernel
set_option maxRecDepth 20000 in
theorem s_X11_rests_0 {d : Nat} {p0 : Int} {p1 : Int} {G : Mem} {Q : Int → Mem → Prop}  (h : (InR p1) ∧ ((p1 < (-1)) → Q (-1) G) ∧ (¬ (p1 < (-1)) → ∀ b3 : Int, b3 = (G 0 13) → (Bs 1 b3 ∧ Ct d M_X6_choose NT 0 0 (some lay) [(2, 33), (2, b3), (2, 73), (0, p0)] G (fun r7 G6 => (InR r7) ∧ ((r7 ≠ 0) → ((p1 ≠ (-1)) → Ct d M_X6_find NT 0 0 (some lay) [(2, 33), (0, p1)] G6 (fun r12 G11 => Q r12 G11)) ∧ (¬ (p1 ≠ (-1)) → Ct d M_X6_howMany NT 0 0 (some lay) [(2, 33)] G6 (fun r14 G13 => Q r14 G13))) ∧ (¬ (r7 ≠ 0) → Q (-1) G6))))) : Rn (d + 1) M_X11_rests zN 0 [(0, (2, 0)), (1, (0, p0)), (2, (0, p1))] [] G Q := by
  refine r_iload_n d_X11_rests_0 2 rfl rfl ?_
  refine r_iconst d_X11_rests_1 ?_
  obtain ⟨h1, h⟩ := h
  refine r_icmp_lt (tgt := 24) d_X11_rests_2 (by decide) h1 ⟨by decide, by decide⟩ (fun c2 => ?_) (fun c2 => ?_)
  · replace h := h.1 c2
    refine r_iconst d_X11_rests_24 ?_
    exact r_ireturn d_X11_rests_25 rfl ⟨rfl, Nat.le_refl _, Nat.le_refl _⟩ h
  · replace h := h.2 c2
    refine r_aload_n d_X11_rests_5 0 rfl rfl ?_
    refine r_getL (v := 33) 11 5 5 rfl d_X11_rests_6 fl_X11_47 (by decide) (bs_ob bs_11) (ly_11_5 bs_11).1 (ly_11_5 bs_11).2.1 ?_
    refine r_aload_n d_X11_rests_9 0 rfl rfl ?_
    obtain ⟨b3, e5⟩ : ∃ y : Int, y = (G 0 13) := ⟨_, rfl⟩
    replace h := h b3 e5
    obtain ⟨h4, h⟩ := h
    refine r_getM 11 13 13 rfl d_X11_rests_10 fl_X11_54 (by decide) (bs_ob bs_11) e5.symm (bs_nn h4) ?_
    refine r_aload_n d_X11_rests_13 0 rfl rfl ?_
    refine r_getL (v := 73) 11 11 11 rfl d_X11_rests_14 fl_X11_64 (by decide) (bs_ob bs_11) (ly_11_11 bs_11).1 (ly_11_11 bs_11).2.1 ?_
    refine r_iload_n d_X11_rests_17 1 rfl rfl ?_
    refine r_callV0 (M' := M_X6_choose) (ci := 6) [(2, b3), (2, 73), (0, p0)] d_X11_rests_18 cl_X11_318 rfl (Nat.le_of_ble_eq_true rfl) (by decide) rfl (bs_ob (ly_11_5 bs_11).2.2) ?_
    refine Ct.mono h (fun r7 G6 h => ?_)
    show Rn _ M_X11_rests zN 21 [(0, (2, 0)), (1, (0, p0)), (2, (0, p1))] [(0, r7)] G6 Q
    obtain ⟨h8, h⟩ := h
    refine r_if_ne (tgt := 26) d_X11_rests_21 (by decide) h8 (fun c9 => ?_) (fun c9 => ?_)
    · replace h := h.1 c9
      refine r_iload_n d_X11_rests_26 2 rfl rfl ?_
      refine r_iconst d_X11_rests_27 ?_
      refine r_icmp_ne (tgt := 41) d_X11_rests_28 (by decide) h1 ⟨by decide, by decide⟩ (fun c10 => ?_) (fun c10 => ?_)
      · replace h := h.1 c10
        refine r_aload_n d_X11_rests_41 0 rfl rfl ?_
        refine r_getL (v := 33) 11 5 5 rfl d_X11_rests_42 fl_X11_47 (by decide) (bs_ob bs_11) (ly_11_5 bs_11).1 (ly_11_5 bs_11).2.1 ?_
        refine r_iload_n d_X11_rests_45 2 rfl rfl ?_
        refine r_callV0 (M' := M_X6_find) (ci := 6) [(0, p1)] d_X11_rests_46 cl_X11_325 rfl (Nat.le_of_ble_eq_true rfl) (by decide) rfl (bs_ob (ly_11_5 bs_11).2.2) ?_
        refine Ct.mono h (fun r12 G11 h => ?_)
        show Rn _ M_X11_rests zN 49 [(0, (2, 0)), (1, (0, p0)), (2, (0, p1))] [(0, r12)] G11 Q
        exact r_ireturn d_X11_rests_49 rfl ⟨rfl, Nat.le_refl _, Nat.le_refl _⟩ h
      · replace h := h.2 c10
        refine r_aload_n d_X11_rests_31 0 rfl rfl ?_
        refine r_getL (v := 33) 11 5 5 rfl d_X11_rests_32 fl_X11_47 (by decide) (bs_ob bs_11) (ly_11_5 bs_11).1 (ly_11_5 bs_11).2.1 ?_
        refine r_callV0 (M' := M_X6_howMany) (ci := 6) [] d_X11_rests_35 cl_X11_322 rfl (Nat.le_of_ble_eq_true rfl) (by decide) rfl (bs_ob (ly_11_5 bs_11).2.2) ?_
        refine Ct.mono h (fun r14 G13 h => ?_)
        show Rn _ M_X11_rests zN 38 [(0, (2, 0)), (1, (0, p0)), (2, (0, p1))] [(0, r14)] G13 Q
        refine r_goto (tgt := 49) d_X11_rests_38 (by decide) ?_
        exact r_ireturn d_X11_rests_49 rfl ⟨rfl, Nat.le_refl _, Nat.le_refl _⟩ h
    · replace h := h.2 c9
      refine r_iconst d_X11_rests_24 ?_
      exact r_ireturn d_X11_rests_25 rfl ⟨rfl, Nat.le_refl _, Nat.le_refl _⟩ h
theorem d_X11_touch_0 : decode M_X11_touch.2.1 0 = .ok (.aload_n 0, 1) := by decide +kernel
theorem d_X11_touch_1 : decode M_X11_touch.2.1 1 = .ok (.iload_n 1, 1) := by decide +kernel
theorem d_X11_touch_2 : decode M_X11_touch.2.1 2 = .ok (.invokevirtual 119, 3) := by decide +kernel
theorem d_X11_touch_5 : decode M_X11_touch.2.1 5 = .ok (.ifCond .eq 19, 3) := by decide +kernel
theorem d_X11_touch_8 : decode M_X11_touch.2.1 8 = .ok (.aload_n 0, 1) := by decide +kernel
theorem d_X11_touch_9 : decode M_X11_touch.2.1 9 = .ok (.getfield 71, 3) := by decide +kernel
theorem d_X11_touch_12 : decode M_X11_touch.2.1 12 = .ok (.iload_n 1, 1) := by decide +kernel
theorem d_X11_touch_13 : decode M_X11_touch.2.1 13 = .ok (.iload_n 2, 1) := by decide +kernel
theorem d_X11_touch_14 : decode M_X11_touch.2.1 14 = .ok (.invokevirtual 328, 3) := by decide +kernel
theorem d_X11_touch_17 : decode M_X11_touch.2.1 17 = .ok (.ifCond .eq 7, 3) := by decide +kernel
theorem d_X11_touch_20 : decode M_X11_touch.2.1 20 = .ok (.iconst 1, 1) := by decide +kernel
theorem d_X11_touch_21 : decode M_X11_touch.2.1 21 = .ok (.goto 4, 3) := by decide +kernel
theorem d_X11_touch_24 : decode M_X11_touch.2.1 24 = .ok (.iconst 0, 1) := by decide +kernel
theorem d_X11_touch_25 : decode M_X11_touch.2.1 25 = .ok (.ireturn, 1) := by decide +kernel
set_option maxRecDepth 20000 in
theorem s_X11_touch_0 {d : Nat} {p0 : Int} {p1 : Int} {G : Mem} {Q : Int → Mem → Prop}  (h : Ct d M_X11_known NT 0 0 (some lay) [(2, 0), (0, p0)] G (fun r2 G1 => (InR r2) ∧ ((r2 = 0) → Q 0 G1) ∧ (¬ (r2 = 0) → Ct d M_X9_addTouch NT 0 0 (some lay) [(2, 81), (0, p0), (0, p1)] G1 (fun r6 G5 => (InR r6) ∧ ((r6 = 0) → Q 0 G5) ∧ (¬ (r6 = 0) → Q 1 G5))))) : Rn (d + 1) M_X11_touch zN 0 [(0, (2, 0)), (1, (0, p0)), (2, (0, p1))] [] G Q := by
  refine r_aload_n d_X11_touch_0 0 rfl rfl ?_
  refine r_iload_n d_X11_touch_1 1 rfl rfl ?_
  refine r_callV0 (M' := M_X11_known) (ci := 11) [(0, p0)] d_X11_touch_2 cl_X11_119 rfl (Nat.le_of_ble_eq_true rfl) (by decide) rfl (bs_ob bs_11) ?_
  refine Ct.mono h (fun r2 G1 h => ?_)
  show Rn _ M_X11_touch zN 5 [(0, (2, 0)), (1, (0, p0)), (2, (0, p1))] [(0, r2)] G1 Q
  obtain ⟨h3, h⟩ := h
  refine r_if_eq (tgt := 24) d_X11_touch_5 (by decide) h3 (fun c4 => ?_) (fun c4 => ?_)
  · replace h := h.1 c4
    refine r_iconst d_X11_touch_24 ?_
    exact r_zreturn d_X11_touch_25 rfl ⟨rfl, Nat.le_refl _, Nat.le_refl _⟩ (by decide) h
  · replace h := h.2 c4
    refine r_aload_n d_X11_touch_8 0 rfl rfl ?_
    refine r_getL (v := 81) 11 12 12 rfl d_X11_touch_9 fl_X11_71 (by decide) (bs_ob bs_11) (ly_11_12 bs_11).1 (ly_11_12 bs_11).2.1 ?_
    refine r_iload_n d_X11_touch_12 1 rfl rfl ?_
    refine r_iload_n d_X11_touch_13 2 rfl rfl ?_
    refine r_callV0 (M' := M_X9_addTouch) (ci := 9) [(0, p0), (0, p1)] d_X11_touch_14 cl_X11_328 rfl (Nat.le_of_ble_eq_true rfl) (by decide) rfl (bs_ob (ly_11_12 bs_11).2.2) ?_
    refine Ct.mono h (fun r6 G5 h => ?_)
    show Rn _ M_X11_touch zN 17 [(0, (2, 0)), (1, (0, p0)), (2, (0, p1))] [(0, r6)] G5 Q
    obtain ⟨h7, h⟩ := h
    refine r_if_eq (tgt := 24) d_X11_touch_17 (by decide) h7 (fun c8 => ?_) (fun c8 => ?_)
    · replace h := h.1 c8
      refine r_iconst d_X11_touch_24 ?_
      exact r_zreturn d_X11_touch_25 rfl ⟨rfl, Nat.le_refl _, Nat.le_refl _⟩ (by decide) h
    · replace h := h.2 c8
      refine r_iconst d_X11_touch_20 ?_
      refine r_goto (tgt := 25) d_X11_touch_21 (by decide) ?_
      exact r_zreturn d_X11_touch_25 rfl ⟨rfl, Nat.le_refl _, Nat.le_refl _⟩ (by decide) h
theorem d_X11_truly_0 : decode M_X11_truly.2.1 0 = .ok (.aload_n 0, 1) := by decide +kernel
theorem d_X11_truly_1 : decode M_X11_truly.2.1 1 = .ok (.iload_n 1, 1) := by decide +kernel
theorem d_X11_truly_2 : decode M_X11_truly.2.1 2 = .ok (.invokevirtual 119, 3) := by decide +kernel
theorem d_X11_truly_5 : decode M_X11_truly.2.1 5 = .ok (.ifCond .eq 12, 3) := by decide +kernel
theorem d_X11_truly_8 : decode M_X11_truly.2.1 8 = .ok (.iload_n 2, 1) := by decide +kernel
theorem d_X11_truly_9 : decode M_X11_truly.2.1 9 = .ok (.ifCond .lt 8, 3) := by decide +kernel
theorem d_X11_truly_12 : decode M_X11_truly.2.1 12 = .ok (.iload_n 2, 1) := by decide +kernel
theorem d_X11_truly_13 : decode M_X11_truly.2.1 13 = .ok (.iconst 1, 1) := by decide +kernel
theorem d_X11_truly_14 : decode M_X11_truly.2.1 14 = .ok (.if_icmp .le 7, 3) := by decide +kernel
theorem d_X11_truly_17 : decode M_X11_truly.2.1 17 = .ok (.ldc2_w 332, 3) := by decide +kernel
theorem d_X11_truly_20 : decode M_X11_truly.2.1 20 = .ok (.lreturn, 1) := by decide +kernel
theorem d_X11_truly_21 : decode M_X11_truly.2.1 21 = .ok (.bipush 10, 2) := by decide +kernel
theorem d_X11_truly_23 : decode M_X11_truly.2.1 23 = .ok (.aload_n 0, 1) := by decide +kernel
theorem d_X11_truly_24 : decode M_X11_truly.2.1 24 = .ok (.getfield 54, 3) := by decide +kernel
theorem d_X11_truly_27 : decode M_X11_truly.2.1 27 = .ok (.getfield 123, 3) := by decide +kernel
theorem d_X11_truly_30 : decode M_X11_truly.2.1 30 = .ok (.iload_n 1, 1) := by decide +kernel
theorem d_X11_truly_31 : decode M_X11_truly.2.1 31 = .ok (.aaload, 1) := by decide +kernel
theorem d_X11_truly_32 : decode M_X11_truly.2.1 32 = .ok (.getfield 334, 3) := by decide +kernel
theorem d_X11_truly_35 : decode M_X11_truly.2.1 35 = .ok (.isub, 1) := by decide +kernel
theorem d_X11_truly_36 : decode M_X11_truly.2.1 36 = .ok (.istore_n 3, 1) := by decide +kernel
theorem d_X11_truly_37 : decode M_X11_truly.2.1 37 = .ok (.aload_n 0, 1) := by decide +kernel
theorem d_X11_truly_38 : decode M_X11_truly.2.1 38 = .ok (.getfield 71, 3) := by decide +kernel
theorem d_X11_truly_41 : decode M_X11_truly.2.1 41 = .ok (.iload_n 1, 1) := by decide +kernel
theorem d_X11_truly_42 : decode M_X11_truly.2.1 42 = .ok (.aload_n 0, 1) := by decide +kernel
theorem d_X11_truly_43 : decode M_X11_truly.2.1 43 = .ok (.getfield 54, 3) := by decide +kernel
theorem d_X11_truly_46 : decode M_X11_truly.2.1 46 = .ok (.getfield 337, 3) := by decide +kernel
theorem d_X11_truly_49 : decode M_X11_truly.2.1 49 = .ok (.invokevirtual 340, 3) := by decide +kernel
theorem d_X11_truly_52 : decode M_X11_truly.2.1 52 = .ok (.lstore 4, 2) := by decide +kernel
theorem d_X11_truly_54 : decode M_X11_truly.2.1 54 = .ok (.lload 4, 2) := by decide +kernel
theorem d_X11_truly_56 : decode M_X11_truly.2.1 56 = .ok (.aload_n 0, 1) := by decide +kernel
theorem d_X11_truly_57 : decode M_X11_truly.2.1 57 = .ok (.getfield 71, 3) := by decide +kernel
theorem d_X11_truly_60 : decode M_X11_truly.2.1 60 = .ok (.iload_n 1, 1) := by decide +kernel
theorem d_X11_truly_61 : decode M_X11_truly.2.1 61 = .ok (.iload_n 3, 1) := by decide +kernel
theorem d_X11_truly_62 : decode M_X11_truly.2.1 62 = .ok (.invokevirtual 340, 3) := by decide +kernel
theorem d_X11_truly_65 : decode M_X11_truly.2.1 65 = .ok (.ladd, 1) := by decide +kernel
theorem d_X11_truly_66 : decode M_X11_truly.2.1 66 = .ok (.lstore 6, 2) := by decide +kernel
theorem d_X11_truly_68 : decode M_X11_truly.2.1 68 = .ok (.lload 6, 2) := by decide +kernel
theorem d_X11_truly_70 : decode M_X11_truly.2.1 70 = .ok (.lconst 0, 1) := by decide +kernel
theorem d_X11_truly_71 : decode M_X11_truly.2.1 71 = .ok (.lcmp, 1) := by decide +kernel
theorem d_X11_truly_72 : decode M_X11_truly.2.1 72 = .ok (.ifCond .ne 7, 3) := by decide +kernel
theorem d_X11_truly_75 : decode M_X11_truly.2.1 75 = .ok (.ldc2_w 332, 3) := by decide +kernel
theorem d_X11_truly_78 : decode M_X11_truly.2.1 78 = .ok (.lreturn, 1) := by decide +kernel
theorem d_X11_truly_79 : decode M_X11_truly.2.1 79 = .ok (.iload_n 2, 1) := by decide +kernel
theorem d_X11_truly_80 : decode M_X11_truly.2.1 80 = .ok (.ifCond .ne 8, 3) := by decide +kernel
theorem d_X11_truly_83 : decode M_X11_truly.2.1 83 = .ok (.lload 4, 2) := by decide +kernel
theorem d_X11_truly_85 : decode M_X11_truly.2.1 85 = .ok (.goto 5, 3) := by decide +kernel
theorem d_X11_truly_88 : decode M_X11_truly.2.1 88 = .ok (.lload 6, 2) := by decide +kernel
theorem d_X11_truly_90 : decode M_X11_truly.2.1 90 = .ok (.lload 6, 2) := by decide +kernel
theorem d_X11_truly_92 : decode M_X11_truly.2.1 92 = .ok (.lload 4, 2) := by decide +kernel
theorem d_X11_truly_94 : decode M_X11_truly.2.1 94 = .ok (.invokestatic 344, 3) := by decide +kernel
theorem d_X11_truly_97 : decode M_X11_truly.2.1 97 = .ok (.ldiv, 1) := by decide +kernel
theorem d_X11_truly_98 : decode M_X11_truly.2.1 98 = .ok (.lreturn, 1) := by decide +kernel
set_option maxRecDepth 20000 in
theorem s_X11_truly_0 {d : Nat} {p0 : Int} {p1 : Int} {G : Mem} {Q : Int → Mem → Prop}  (h : Ct d M_X11_known NT 0 0 (some lay) [(2, 0), (0, p0)] G (fun r2 G1 => (InR r2) ∧ ((r2 = 0) → Q (-1) G1) ∧ (¬ (r2 = 0) → (InR p1) ∧ ((p1 < 0) → Q (-1) G1) ∧ (¬ (p1 < 0) → ((p1 ≤ 1) → ∀ b8 : Int, b8 = (G1 0 13) → (Bs 1 b8 ∧ (0 ≤ p0 ∧ p0 < 5) ∧ (∀ b12 : Int, b12 = (G1 0 13) → (Bs 1 b12 ∧ Ct d M_X9_likely NT 0 0 (some lay) [(2, 81), (0, p0), (0, (G1 b12 10))] G1 (fun r16 G15 => Ct d M_X9_likely NT 0 0 (some lay) [(2, 81), (0, p0), (0, (10 - (G1 ((b8 + 13) + p0) 5)))] G15 (fun r18 G17 => (InL (r16 + r18)) ∧ (((r16 + r18) ≠ 0) → ((p1 ≠ 0) → Rn (d + 1) M_X11_truly zN 90 [(4, (1, r16)), (6, (1, (r16 + r18)))] [(1, (r16 + r18))] G17 Q) ∧ (¬ (p1 ≠ 0) → Rn (d + 1) M_X11_truly zN 90 [(4, (1, r16)), (6, (1, (r16 + r18)))] [(1, r16)] G17 Q)) ∧ (¬ ((r16 + r18) ≠ 0) → Q (-1) G17))))))) ∧ (¬ (p1 ≤ 1) → Q (-1) G1))))) : Rn (d + 1) M_X11_truly zN 0 [(0, (2, 0)), (1, (0, p0)), (2, (0, p1))] [] G Q := by
  refine r_aload_n d_X11_truly_0 0 rfl rfl ?_
  refine r_iload_n d_X11_truly_1 1 rfl rfl ?_
  refine r_callV0 (M' := M_X11_known) (ci := 11) [(0, p0)] d_X11_truly_2 cl_X11_119 rfl (Nat.le_of_ble_eq_true rfl) (by decide) rfl (bs_ob bs_11) ?_
  refine Ct.mono h (fun r2 G1 h => ?_)
  show Rn _ M_X11_truly zN 5 [(0, (2, 0)), (1, (0, p0)), (2, (0, p1))] [(0, r2)] G1 Q
  obtain ⟨h3, h⟩ := h
  refine r_if_eq (tgt := 17) d_X11_truly_5 (by decide) h3 (fun c4 => ?_) (fun c4 => ?_)
  · replace h := h.1 c4
    refine r_ldc2 (x := (-1)) d_X11_truly_17 cst_X11_332 ?_
    exact r_lreturn d_X11_truly_20 rfl ⟨rfl, Nat.le_refl _, Nat.le_refl _⟩ h
  · replace h := h.2 c4
    refine r_iload_n d_X11_truly_8 2 rfl rfl ?_
    obtain ⟨h5, h⟩ := h
    refine r_if_lt (tgt := 17) d_X11_truly_9 (by decide) h5 (fun c6 => ?_) (fun c6 => ?_)
    · replace h := h.1 c6
      refine r_ldc2 (x := (-1)) d_X11_truly_17 cst_X11_332 ?_
      exact r_lreturn d_X11_truly_20 rfl ⟨rfl, Nat.le_refl _, Nat.le_refl _⟩ h
    · replace h := h.2 c6
      refine r_iload_n d_X11_truly_12 2 rfl rfl ?_
      refine r_iconst d_X11_truly_13 ?_
      refine r_icmp_le (tgt := 21) d_X11_truly_14 (by decide) h5 ⟨by decide, by decide⟩ (fun c7 => ?_) (fun c7 => ?_)
      · replace h := h.1 c7
        refine r_bipush d_X11_truly_21 (by decide +kernel) ?_
        refine r_aload_n d_X11_truly_23 0 rfl rfl ?_
        obtain ⟨b8, e10⟩ : ∃ y : Int, y = (G1 0 13) := ⟨_, rfl⟩
        replace h := h b8 e10
        obtain ⟨h9, h⟩ := h
        refine r_getM 11 13 13 rfl d_X11_truly_24 fl_X11_54 (by decide) (bs_ob bs_11) e10.symm (bs_nn h9) ?_
        refine r_getL (v := (b8 + 1)) 1 0 0 rfl d_X11_truly_27 fl_X11_123 (by decide) (bs_ob h9) (ly_1_0 h9).1 (ly_1_0 h9).2.1 ?_
        refine r_iload_n d_X11_truly_30 1 rfl rfl ?_
        obtain ⟨h11, h⟩ := h
        refine r_aaloadL (v := ((b8 + 13) + p0)) d_X11_truly_31 (ly_1_0 h9).2.2 (by decide) rfl h11 (el_1_0 h9 h11.1 h11.2).1 (el_1_0 h9 h11.1 h11.2).2.1 ?_
        refine r_getI 7 5 5 rfl d_X11_truly_32 fl_X11_334 (by decide) (bs_ob (el_1_0 h9 h11.1 h11.2).2.2) ?_
        refine r_isub d_X11_truly_35 ?_
        refine r_istore_n (ls1 := [(3, (0, (10 - (G1 ((b8 + 13) + p0) 5)))), (0, (2, 0)), (1, (0, p0)), (2, (0, p1))]) d_X11_truly_36 rfl (by decide) rfl ?_
        refine r_aload_n d_X11_truly_37 1 rfl rfl ?_
        refine r_getL (v := 81) 11 12 12 rfl d_X11_truly_38 fl_X11_71 (by decide) (bs_ob bs_11) (ly_11_12 bs_11).1 (ly_11_12 bs_11).2.1 ?_
        refine r_iload_n d_X11_truly_41 2 rfl rfl ?_
        refine r_aload_n d_X11_truly_42 1 rfl rfl ?_
        obtain ⟨b12, e14⟩ : ∃ y : Int, y = (G1 0 13) := ⟨_, rfl⟩
        replace h := h b12 e14
        obtain ⟨h13, h⟩ := h
        refine r_getM 11 13 13 rfl d_X11_truly_43 fl_X11_54 (by decide) (bs_ob bs_11) e14.symm (bs_nn h13) ?_
        refine r_getI 1 10 10 rfl d_X11_truly_46 fl_X11_337 (by decide) (bs_ob h13) ?_
        refine r_callV0 (M' := M_X9_likely) (ci := 9) [(0, p0), (0, (G1 b12 10))] d_X11_truly_49 cl_X11_340 rfl (Nat.le_of_ble_eq_true rfl) (by decide) rfl (bs_ob (ly_11_12 bs_11).2.2) ?_
        refine Ct.mono h (fun r16 G15 h => ?_)
        show Rn _ M_X11_truly zN 52 [(3, (0, (10 - (G1 ((b8 + 13) + p0) 5)))), (0, (2, 0)), (1, (0, p0)), (2, (0, p1))] [(1, r16)] G15 Q
        refine r_lstore (ls1 := [(4, (1, r16)), (3, (0, (10 - (G1 ((b8 + 13) + p0) 5)))), (0, (2, 0)), (1, (0, p0)), (2, (0, p1))]) d_X11_truly_52 (by decide) rfl ?_
        refine r_lload d_X11_truly_54 0 rfl ?_
        refine r_aload_n d_X11_truly_56 2 rfl rfl ?_
        refine r_getL (v := 81) 11 12 12 rfl d_X11_truly_57 fl_X11_71 (by decide) (bs_ob bs_11) (ly_11_12 bs_11).1 (ly_11_12 bs_11).2.1 ?_
        refine r_iload_n d_X11_truly_60 3 rfl rfl ?_
        refine r_iload_n d_X11_truly_61 1 rfl rfl ?_
        refine r_callV0 (M' := M_X9_likely) (ci := 9) [(0, p0), (0, (10 - (G1 ((b8 + 13) + p0) 5)))] d_X11_truly_62 cl_X11_340 rfl (Nat.le_of_ble_eq_true rfl) (by decide) rfl (bs_ob (ly_11_12 bs_11).2.2) ?_
        refine Ct.mono h (fun r18 G17 h => ?_)
        show Rn _ M_X11_truly zN 65 [(4, (1, r16)), (3, (0, (10 - (G1 ((b8 + 13) + p0) 5)))), (0, (2, 0)), (1, (0, p0)), (2, (0, p1))] [(1, r18), (1, r16)] G17 Q
        refine r_ladd d_X11_truly_65 ?_
        refine r_lstore (ls1 := [(6, (1, (r16 + r18))), (4, (1, r16)), (3, (0, (10 - (G1 ((b8 + 13) + p0) 5)))), (0, (2, 0)), (1, (0, p0)), (2, (0, p1))]) d_X11_truly_66 (by decide) rfl ?_
        refine r_lload d_X11_truly_68 0 rfl ?_
        refine r_lconst (x := 0) d_X11_truly_70 rfl ?_
        obtain ⟨h19, h⟩ := h
        refine r_lcmp_ne (tgt := 79) d_X11_truly_71 d_X11_truly_72 (by decide) h19 ⟨by decide, by decide⟩ (fun c20 => ?_) (fun c20 => ?_)
        · replace h := h.1 c20
          refine r_iload_n d_X11_truly_79 5 rfl rfl ?_
          refine r_if_ne (tgt := 88) d_X11_truly_80 (by decide) h5 (fun c21 => ?_) (fun c21 => ?_)
          · replace h := h.1 c21
            refine r_lload d_X11_truly_88 0 rfl ?_
            exact Rn.sub [1, 0] rfl h
          · replace h := h.2 c21
            refine r_lload d_X11_truly_83 1 rfl ?_
            refine r_goto (tgt := 90) d_X11_truly_85 (by decide) ?_
            exact Rn.sub [1, 0] rfl h
        · replace h := h.2 c20
          refine r_ldc2 (x := (-1)) d_X11_truly_75 cst_X11_332 ?_
          exact r_lreturn d_X11_truly_78 rfl ⟨rfl, Nat.le_refl _, Nat.le_refl _⟩ h
      · replace h := h.2 c7
        refine r_ldc2 (x := (-1)) d_X11_truly_17 cst_X11_332 ?_
        exact r_lreturn d_X11_truly_20 rfl ⟨rfl, Nat.le_refl _, Nat.le_refl _⟩ h
set_option maxRecDepth 20000 in
theorem s_X11_truly_90 {d : Nat} {x4 : Int} {x6 : Int} {s0 : Int} {G : Mem} {Q : Int → Mem → Prop}  (h : Ct d M_X11_commonDivisor NT 0 0 (some lay) [(1, x6), (1, x4)] G (fun r2 G1 => (InL s0) ∧ (0 < r2 ∧ InL r2) ∧ (Q (Int.tdiv s0 r2) G1))) : Rn (d + 1) M_X11_truly zN 90 [(4, (1, x4)), (6, (1, x6))] [(1, s0)] G Q := by
  refine r_lload d_X11_truly_90 1 rfl ?_
  refine r_lload d_X11_truly_92 0 rfl ?_
  refine r_callS0 (M' := M_X11_commonDivisor) [(1, x6), (1, x4)] d_X11_truly_94 cl_X11_344 rfl (Nat.le_of_ble_eq_true rfl) ?_
  refine Ct.mono h (fun r2 G1 h => ?_)
  show Rn _ M_X11_truly zN 97 [(4, (1, x4)), (6, (1, x6))] [(1, r2), (1, s0)] G1 Q
  obtain ⟨h3, h⟩ := h
  obtain ⟨h4, h⟩ := h
  refine r_ldiv d_X11_truly_97 h3 h4 ?_
  exact r_lreturn d_X11_truly_98 rfl ⟨rfl, Nat.le_refl _, Nat.le_refl _⟩ h
theorem d_X11_went_0 : decode M_X11_went.2.1 0 = .ok (.aload_n 0, 1) := by decide +kernel
theorem d_X11_went_1 : decode M_X11_went.2.1 1 = .ok (.iload_n 1, 1) := by decide +kernel
theorem d_X11_went_2 : decode M_X11_went.2.1 2 = .ok (.invokevirtual 119, 3) := by decide +kernel
theorem d_X11_went_5 : decode M_X11_went.2.1 5 = .ok (.ifCond .eq 19, 3) := by decide +kernel
theorem d_X11_went_8 : decode M_X11_went.2.1 8 = .ok (.aload_n 0, 1) := by decide +kernel
theorem d_X11_went_9 : decode M_X11_went.2.1 9 = .ok (.getfield 71, 3) := by decide +kernel
theorem d_X11_went_12 : decode M_X11_went.2.1 12 = .ok (.iload_n 1, 1) := by decide +kernel
theorem d_X11_went_13 : decode M_X11_went.2.1 13 = .ok (.iload_n 2, 1) := by decide +kernel
theorem d_X11_went_14 : decode M_X11_went.2.1 14 = .ok (.invokevirtual 348, 3) := by decide +kernel
theorem d_X11_went_17 : decode M_X11_went.2.1 17 = .ok (.ifCond .eq 7, 3) := by decide +kernel
theorem d_X11_went_20 : decode M_X11_went.2.1 20 = .ok (.iconst 1, 1) := by decide +kernel
theorem d_X11_went_21 : decode M_X11_went.2.1 21 = .ok (.goto 4, 3) := by decide +kernel
theorem d_X11_went_24 : decode M_X11_went.2.1 24 = .ok (.iconst 0, 1) := by decide +kernel
theorem d_X11_went_25 : decode M_X11_went.2.1 25 = .ok (.ireturn, 1) := by decide +kernel
set_option maxRecDepth 20000 in
theorem s_X11_went_0 {d : Nat} {p0 : Int} {p1 : Int} {G : Mem} {Q : Int → Mem → Prop}  (h : Ct d M_X11_known NT 0 0 (some lay) [(2, 0), (0, p0)] G (fun r2 G1 => (InR r2) ∧ ((r2 = 0) → Q 0 G1) ∧ (¬ (r2 = 0) → Ct d M_X9_addWent NT 0 0 (some lay) [(2, 81), (0, p0), (0, p1)] G1 (fun r6 G5 => (InR r6) ∧ ((r6 = 0) → Q 0 G5) ∧ (¬ (r6 = 0) → Q 1 G5))))) : Rn (d + 1) M_X11_went zN 0 [(0, (2, 0)), (1, (0, p0)), (2, (0, p1))] [] G Q := by
  refine r_aload_n d_X11_went_0 0 rfl rfl ?_
  refine r_iload_n d_X11_went_1 1 rfl rfl ?_
  refine r_callV0 (M' := M_X11_known) (ci := 11) [(0, p0)] d_X11_went_2 cl_X11_119 rfl (Nat.le_of_ble_eq_true rfl) (by decide) rfl (bs_ob bs_11) ?_
  refine Ct.mono h (fun r2 G1 h => ?_)
  show Rn _ M_X11_went zN 5 [(0, (2, 0)), (1, (0, p0)), (2, (0, p1))] [(0, r2)] G1 Q
  obtain ⟨h3, h⟩ := h
  refine r_if_eq (tgt := 24) d_X11_went_5 (by decide) h3 (fun c4 => ?_) (fun c4 => ?_)
  · replace h := h.1 c4
    refine r_iconst d_X11_went_24 ?_
    exact r_zreturn d_X11_went_25 rfl ⟨rfl, Nat.le_refl _, Nat.le_refl _⟩ (by decide) h
  · replace h := h.2 c4
    refine r_aload_n d_X11_went_8 0 rfl rfl ?_
    refine r_getL (v := 81) 11 12 12 rfl d_X11_went_9 fl_X11_71 (by decide) (bs_ob bs_11) (ly_11_12 bs_11).1 (ly_11_12 bs_11).2.1 ?_
    refine r_iload_n d_X11_went_12 1 rfl rfl ?_
    refine r_iload_n d_X11_went_13 2 rfl rfl ?_
    refine r_callV0 (M' := M_X9_addWent) (ci := 9) [(0, p0), (0, p1)] d_X11_went_14 cl_X11_348 rfl (Nat.le_of_ble_eq_true rfl) (by decide) rfl (bs_ob (ly_11_12 bs_11).2.2) ?_
    refine Ct.mono h (fun r6 G5 h => ?_)
    show Rn _ M_X11_went zN 17 [(0, (2, 0)), (1, (0, p0)), (2, (0, p1))] [(0, r6)] G5 Q
    obtain ⟨h7, h⟩ := h
    refine r_if_eq (tgt := 24) d_X11_went_17 (by decide) h7 (fun c8 => ?_) (fun c8 => ?_)
    · replace h := h.1 c8
      refine r_iconst d_X11_went_24 ?_
      exact r_zreturn d_X11_went_25 rfl ⟨rfl, Nat.le_refl _, Nat.le_refl _⟩ (by decide) h
    · replace h := h.2 c8
      refine r_iconst d_X11_went_20 ?_
      refine r_goto (tgt := 25) d_X11_went_21 (by decide) ?_
      exact r_zreturn d_X11_went_25 rfl ⟨rfl, Nat.le_refl _, Nat.le_refl _⟩ (by decide) h
theorem d_X11_fits_0 : decode M_X11_fits.2.1 0 = .ok (.aload_n 0, 1) := by decide +kernel
theorem d_X11_fits_1 : decode M_X11_fits.2.1 1 = .ok (.iload_n 1, 1) := by decide +kernel
theorem d_X11_fits_2 : decode M_X11_fits.2.1 2 = .ok (.invokevirtual 119, 3) := by decide +kernel
theorem d_X11_fits_5 : decode M_X11_fits.2.1 5 = .ok (.ifCond .eq 12, 3) := by decide +kernel
theorem d_X11_fits_8 : decode M_X11_fits.2.1 8 = .ok (.iload_n 2, 1) := by decide +kernel
theorem d_X11_fits_9 : decode M_X11_fits.2.1 9 = .ok (.ifCond .lt 8, 3) := by decide +kernel
theorem d_X11_fits_12 : decode M_X11_fits.2.1 12 = .ok (.iload_n 2, 1) := by decide +kernel
theorem d_X11_fits_13 : decode M_X11_fits.2.1 13 = .ok (.iconst 1, 1) := by decide +kernel
theorem d_X11_fits_14 : decode M_X11_fits.2.1 14 = .ok (.if_icmp .le 5, 3) := by decide +kernel
theorem d_X11_fits_17 : decode M_X11_fits.2.1 17 = .ok (.iconst (-1), 1) := by decide +kernel
theorem d_X11_fits_18 : decode M_X11_fits.2.1 18 = .ok (.ireturn, 1) := by decide +kernel
theorem d_X11_fits_19 : decode M_X11_fits.2.1 19 = .ok (.iconst 0, 1) := by decide +kernel
theorem d_X11_fits_20 : decode M_X11_fits.2.1 20 = .ok (.istore_n 3, 1) := by decide +kernel
theorem d_X11_fits_21 : decode M_X11_fits.2.1 21 = .ok (.iconst (-1), 1) := by decide +kernel
theorem d_X11_fits_22 : decode M_X11_fits.2.1 22 = .ok (.istore 4, 2) := by decide +kernel
theorem d_X11_fits_24 : decode M_X11_fits.2.1 24 = .ok (.iconst 0, 1) := by decide +kernel
theorem d_X11_fits_25 : decode M_X11_fits.2.1 25 = .ok (.istore 5, 2) := by decide +kernel
theorem d_X11_fits_27 : decode M_X11_fits.2.1 27 = .ok (.iload 5, 2) := by decide +kernel
theorem d_X11_fits_29 : decode M_X11_fits.2.1 29 = .ok (.bipush 9, 2) := by decide +kernel
theorem d_X11_fits_31 : decode M_X11_fits.2.1 31 = .ok (.if_icmp .gt 64, 3) := by decide +kernel
theorem d_X11_fits_34 : decode M_X11_fits.2.1 34 = .ok (.iconst 1, 1) := by decide +kernel
theorem d_X11_fits_35 : decode M_X11_fits.2.1 35 = .ok (.istore 6, 2) := by decide +kernel
theorem d_X11_fits_37 : decode M_X11_fits.2.1 37 = .ok (.iload 6, 2) := by decide +kernel
theorem d_X11_fits_39 : decode M_X11_fits.2.1 39 = .ok (.bipush 99, 2) := by decide +kernel
theorem d_X11_fits_41 : decode M_X11_fits.2.1 41 = .ok (.if_icmp .gt 48, 3) := by decide +kernel
theorem d_X11_fits_44 : decode M_X11_fits.2.1 44 = .ok (.aload_n 0, 1) := by decide +kernel
theorem d_X11_fits_45 : decode M_X11_fits.2.1 45 = .ok (.getfield 71, 3) := by decide +kernel
theorem d_X11_fits_48 : decode M_X11_fits.2.1 48 = .ok (.iload_n 1, 1) := by decide +kernel
theorem d_X11_fits_49 : decode M_X11_fits.2.1 49 = .ok (.iload 5, 2) := by decide +kernel
theorem d_X11_fits_51 : decode M_X11_fits.2.1 51 = .ok (.iload 6, 2) := by decide +kernel
theorem d_X11_fits_53 : decode M_X11_fits.2.1 53 = .ok (.invokevirtual 352, 3) := by decide +kernel
theorem d_X11_fits_56 : decode M_X11_fits.2.1 56 = .ok (.ifCond .eq 27, 3) := by decide +kernel
theorem d_X11_fits_59 : decode M_X11_fits.2.1 59 = .ok (.iinc 3 1, 3) := by decide +kernel
theorem d_X11_fits_62 : decode M_X11_fits.2.1 62 = .ok (.iload 4, 2) := by decide +kernel
theorem d_X11_fits_64 : decode M_X11_fits.2.1 64 = .ok (.iconst (-1), 1) := by decide +kernel
theorem d_X11_fits_65 : decode M_X11_fits.2.1 65 = .ok (.if_icmp .ne 14, 3) := by decide +kernel
theorem d_X11_fits_68 : decode M_X11_fits.2.1 68 = .ok (.bipush 100, 2) := by decide +kernel
theorem d_X11_fits_70 : decode M_X11_fits.2.1 70 = .ok (.iload 5, 2) := by decide +kernel
theorem d_X11_fits_72 : decode M_X11_fits.2.1 72 = .ok (.imul, 1) := by decide +kernel
theorem d_X11_fits_73 : decode M_X11_fits.2.1 73 = .ok (.iload 6, 2) := by decide +kernel
theorem d_X11_fits_75 : decode M_X11_fits.2.1 75 = .ok (.iadd, 1) := by decide +kernel
theorem d_X11_fits_76 : decode M_X11_fits.2.1 76 = .ok (.goto 5, 3) := by decide +kernel
theorem d_X11_fits_79 : decode M_X11_fits.2.1 79 = .ok (.iload 4, 2) := by decide +kernel
theorem d_X11_fits_81 : decode M_X11_fits.2.1 81 = .ok (.istore 4, 2) := by decide +kernel
theorem d_X11_fits_83 : decode M_X11_fits.2.1 83 = .ok (.iinc 6 1, 3) := by decide +kernel
theorem d_X11_fits_86 : decode M_X11_fits.2.1 86 = .ok (.goto (-49), 3) := by decide +kernel
theorem d_X11_fits_89 : decode M_X11_fits.2.1 89 = .ok (.iinc 5 1, 3) := by decide +kernel
theorem d_X11_fits_92 : decode M_X11_fits.2.1 92 = .ok (.goto (-65), 3) := by decide +kernel
theorem d_X11_fits_95 : decode M_X11_fits.2.1 95 = .ok (.iload_n 3, 1) := by decide +kernel
theorem d_X11_fits_96 : decode M_X11_fits.2.1 96 = .ok (.ifCond .ne 7, 3) := by decide +kernel
theorem d_X11_fits_99 : decode M_X11_fits.2.1 99 = .ok (.iconst (-1), 1) := by decide +kernel
theorem d_X11_fits_100 : decode M_X11_fits.2.1 100 = .ok (.goto 13, 3) := by decide +kernel
theorem d_X11_fits_103 : decode M_X11_fits.2.1 103 = .ok (.iload_n 2, 1) := by decide +kernel
theorem d_X11_fits_104 : decode M_X11_fits.2.1 104 = .ok (.ifCond .ne 7, 3) := by decide +kernel
theorem d_X11_fits_107 : decode M_X11_fits.2.1 107 = .ok (.iload_n 3, 1) := by decide +kernel
theorem d_X11_fits_108 : decode M_X11_fits.2.1 108 = .ok (.goto 5, 3) := by decide +kernel
theorem d_X11_fits_111 : decode M_X11_fits.2.1 111 = .ok (.iload 4, 2) := by decide +kernel
theorem d_X11_fits_113 : decode M_X11_fits.2.1 113 = .ok (.ireturn, 1) := by decide +kernel
set_option maxRecDepth 20000 in
theorem s_X11_fits_0 {d : Nat} {p0 : Int} {p1 : Int} {G : Mem} {Q : Int → Mem → Prop}  (h : Ct d M_X11_known NT 0 0 (some lay) [(2, 0), (0, p0)] G (fun r2 G1 => (InR r2) ∧ ((r2 = 0) → Q (-1) G1) ∧ (¬ (r2 = 0) → (InR p1) ∧ ((p1 < 0) → Q (-1) G1) ∧ (¬ (p1 < 0) → ((p1 ≤ 1) → Rn (d + 1) M_X11_fits zN 27 [(0, (2, 0)), (1, (0, p0)), (2, (0, p1)), (3, (0, 0)), (4, (0, (-1))), (5, (0, 0))] [] G1 Q) ∧ (¬ (p1 ≤ 1) → Q (-1) G1))))) : Rn (d + 1) M_X11_fits zN 0 [(0, (2, 0)), (1, (0, p0)), (2, (0, p1))] [] G Q := by
  refine r_aload_n d_X11_fits_0 0 rfl rfl ?_
  refine r_iload_n d_X11_fits_1 1 rfl rfl ?_
  refine r_callV0 (M' := M_X11_known) (ci := 11) [(0, p0)] d_X11_fits_2 cl_X11_119 rfl (Nat.le_of_ble_eq_true rfl) (by decide) rfl (bs_ob bs_11) ?_
  refine Ct.mono h (fun r2 G1 h => ?_)
  show Rn _ M_X11_fits zN 5 [(0, (2, 0)), (1, (0, p0)), (2, (0, p1))] [(0, r2)] G1 Q
  obtain ⟨h3, h⟩ := h
  refine r_if_eq (tgt := 17) d_X11_fits_5 (by decide) h3 (fun c4 => ?_) (fun c4 => ?_)
  · replace h := h.1 c4
    refine r_iconst d_X11_fits_17 ?_
    exact r_ireturn d_X11_fits_18 rfl ⟨rfl, Nat.le_refl _, Nat.le_refl _⟩ h
  · replace h := h.2 c4
    refine r_iload_n d_X11_fits_8 2 rfl rfl ?_
    obtain ⟨h5, h⟩ := h
    refine r_if_lt (tgt := 17) d_X11_fits_9 (by decide) h5 (fun c6 => ?_) (fun c6 => ?_)
    · replace h := h.1 c6
      refine r_iconst d_X11_fits_17 ?_
      exact r_ireturn d_X11_fits_18 rfl ⟨rfl, Nat.le_refl _, Nat.le_refl _⟩ h
    · replace h := h.2 c6
      refine r_iload_n d_X11_fits_12 2 rfl rfl ?_
      refine r_iconst d_X11_fits_13 ?_
      refine r_icmp_le (tgt := 19) d_X11_fits_14 (by decide) h5 ⟨by decide, by decide⟩ (fun c7 => ?_) (fun c7 => ?_)
      · replace h := h.1 c7
        refine r_iconst d_X11_fits_19 ?_
        refine r_istore_n (ls1 := [(3, (0, 0)), (0, (2, 0)), (1, (0, p0)), (2, (0, p1))]) d_X11_fits_20 rfl (by decide) rfl ?_
        refine r_iconst d_X11_fits_21 ?_
        refine r_istore (ls1 := [(4, (0, (-1))), (3, (0, 0)), (0, (2, 0)), (1, (0, p0)), (2, (0, p1))]) d_X11_fits_22 (by decide) rfl ?_
        refine r_iconst d_X11_fits_24 ?_
        refine r_istore (ls1 := [(5, (0, 0)), (4, (0, (-1))), (3, (0, 0)), (0, (2, 0)), (1, (0, p0)), (2, (0, p1))]) d_X11_fits_25 (by decide) rfl ?_
        exact Rn.sub [3, 4, 5, 2, 1, 0] rfl h
      · replace h := h.2 c7
        refine r_iconst d_X11_fits_17 ?_
        exact r_ireturn d_X11_fits_18 rfl ⟨rfl, Nat.le_refl _, Nat.le_refl _⟩ h
set_option maxRecDepth 20000 in
theorem s_X11_fits_27 {d : Nat} {x1 : Int} {x2 : Int} {x3 : Int} {x4 : Int} {x5 : Int} {G : Mem} {Q : Int → Mem → Prop}  (h : (InR x5) ∧ ((9 < x5) → (InR x3) ∧ ((x3 ≠ 0) → (InR x2) ∧ ((x2 ≠ 0) → Q x4 G) ∧ (¬ (x2 ≠ 0) → Q x3 G)) ∧ (¬ (x3 ≠ 0) → Q (-1) G)) ∧ (¬ (9 < x5) → Rn d M_X11_fits zN 37 [(0, (2, 0)), (1, (0, x1)), (2, (0, x2)), (3, (0, x3)), (4, (0, x4)), (5, (0, x5)), (6, (0, 1))] [] G Q)) : Rn d M_X11_fits zN 27 [(0, (2, 0)), (1, (0, x1)), (2, (0, x2)), (3, (0, x3)), (4, (0, x4)), (5, (0, x5))] [] G Q := by
  refine r_iload d_X11_fits_27 5 rfl ?_
  refine r_bipush d_X11_fits_29 (by decide +kernel) ?_
  obtain ⟨h1, h⟩ := h
  refine r_icmp_gt (tgt := 95) d_X11_fits_31 (by decide) h1 ⟨by decide, by decide⟩ (fun c2 => ?_) (fun c2 => ?_)
  · replace h := h.1 c2
    refine r_iload_n d_X11_fits_95 3 rfl rfl ?_
    obtain ⟨h3, h⟩ := h
    refine r_if_ne (tgt := 103) d_X11_fits_96 (by decide) h3 (fun c4 => ?_) (fun c4 => ?_)
    · replace h := h.1 c4
      refine r_iload_n d_X11_fits_103 2 rfl rfl ?_
      obtain ⟨h5, h⟩ := h
      refine r_if_ne (tgt := 111) d_X11_fits_104 (by decide) h5 (fun c6 => ?_) (fun c6 => ?_)
      · replace h := h.1 c6
        refine r_iload d_X11_fits_111 4 rfl ?_
        exact r_ireturn d_X11_fits_113 rfl ⟨rfl, Nat.le_refl _, Nat.le_refl _⟩ h
      · replace h := h.2 c6
        refine r_iload_n d_X11_fits_107 3 rfl rfl ?_
        refine r_goto (tgt := 113) d_X11_fits_108 (by decide) ?_
        exact r_ireturn d_X11_fits_113 rfl ⟨rfl, Nat.le_refl _, Nat.le_refl _⟩ h
    · replace h := h.2 c4
      refine r_iconst d_X11_fits_99 ?_
      refine r_goto (tgt := 113) d_X11_fits_100 (by decide) ?_
      exact r_ireturn d_X11_fits_113 rfl ⟨rfl, Nat.le_refl _, Nat.le_refl _⟩ h
  · replace h := h.2 c2
    refine r_iconst d_X11_fits_34 ?_
    refine r_istore (ls1 := [(6, (0, 1)), (0, (2, 0)), (1, (0, x1)), (2, (0, x2)), (3, (0, x3)), (4, (0, x4)), (5, (0, x5))]) d_X11_fits_35 (by decide) rfl ?_
    exact Rn.sub [1, 2, 3, 4, 5, 6, 0] rfl h
set_option maxRecDepth 20000 in
theorem s_X11_fits_37 {d : Nat} {x1 : Int} {x2 : Int} {x3 : Int} {x4 : Int} {x5 : Int} {x6 : Int} {G : Mem} {Q : Int → Mem → Prop}  (h : (InR x6) ∧ ((99 < x6) → Rn (d + 1) M_X11_fits zN 27 [(0, (2, 0)), (1, (0, x1)), (2, (0, x2)), (3, (0, x3)), (4, (0, x4)), (5, (0, (x5 + 1)))] [] G Q) ∧ (¬ (99 < x6) → Ct d M_X9_fitting NT 0 0 (some lay) [(2, 81), (0, x1), (0, x5), (0, x6)] G (fun r4 G3 => (InR r4) ∧ ((r4 = 0) → Rn (d + 1) M_X11_fits zN 37 [(0, (2, 0)), (1, (0, x1)), (2, (0, x2)), (3, (0, x3)), (4, (0, x4)), (5, (0, x5)), (6, (0, (x6 + 1)))] [] G3 Q) ∧ (¬ (r4 = 0) → (InR x4) ∧ ((x4 ≠ (-1)) → Rn (d + 1) M_X11_fits zN 37 [(0, (2, 0)), (1, (0, x1)), (2, (0, x2)), (3, (0, (x3 + 1))), (4, (0, x4)), (5, (0, x5)), (6, (0, (x6 + 1)))] [] G3 Q) ∧ (¬ (x4 ≠ (-1)) → Rn (d + 1) M_X11_fits zN 37 [(0, (2, 0)), (1, (0, x1)), (2, (0, x2)), (3, (0, (x3 + 1))), (4, (0, ((100 * x5) + x6))), (5, (0, x5)), (6, (0, (x6 + 1)))] [] G3 Q))))) : Rn (d + 1) M_X11_fits zN 37 [(0, (2, 0)), (1, (0, x1)), (2, (0, x2)), (3, (0, x3)), (4, (0, x4)), (5, (0, x5)), (6, (0, x6))] [] G Q := by
  refine r_iload d_X11_fits_37 6 rfl ?_
  refine r_bipush d_X11_fits_39 (by decide +kernel) ?_
  obtain ⟨h1, h⟩ := h
  refine r_icmp_gt (tgt := 89) d_X11_fits_41 (by decide) h1 ⟨by decide, by decide⟩ (fun c2 => ?_) (fun c2 => ?_)
  · replace h := h.1 c2
    refine r_iinc (ls1 := [(5, (0, (x5 + 1))), (0, (2, 0)), (1, (0, x1)), (2, (0, x2)), (3, (0, x3)), (4, (0, x4)), (6, (0, x6))]) d_X11_fits_89 5 rfl (by decide) rfl ?_
    refine r_goto (tgt := 27) d_X11_fits_92 (by decide) ?_
    exact Rn.sub [1, 2, 3, 4, 5, 0] rfl h
  · replace h := h.2 c2
    refine r_aload_n d_X11_fits_44 0 rfl rfl ?_
    refine r_getL (v := 81) 11 12 12 rfl d_X11_fits_45 fl_X11_71 (by decide) (bs_ob bs_11) (ly_11_12 bs_11).1 (ly_11_12 bs_11).2.1 ?_
    refine r_iload_n d_X11_fits_48 1 rfl rfl ?_
    refine r_iload d_X11_fits_49 5 rfl ?_
    refine r_iload d_X11_fits_51 6 rfl ?_
    refine r_callV0 (M' := M_X9_fitting) (ci := 9) [(0, x1), (0, x5), (0, x6)] d_X11_fits_53 cl_X11_352 rfl (Nat.le_of_ble_eq_true rfl) (by decide) rfl (bs_ob (ly_11_12 bs_11).2.2) ?_
    refine Ct.mono h (fun r4 G3 h => ?_)
    show Rn _ M_X11_fits zN 56 [(0, (2, 0)), (1, (0, x1)), (2, (0, x2)), (3, (0, x3)), (4, (0, x4)), (5, (0, x5)), (6, (0, x6))] [(0, r4)] G3 Q
    obtain ⟨h5, h⟩ := h
    refine r_if_eq (tgt := 83) d_X11_fits_56 (by decide) h5 (fun c6 => ?_) (fun c6 => ?_)
    · replace h := h.1 c6
      refine r_iinc (ls1 := [(6, (0, (x6 + 1))), (0, (2, 0)), (1, (0, x1)), (2, (0, x2)), (3, (0, x3)), (4, (0, x4)), (5, (0, x5))]) d_X11_fits_83 6 rfl (by decide) rfl ?_
      refine r_goto (tgt := 37) d_X11_fits_86 (by decide) ?_
      exact Rn.sub [1, 2, 3, 4, 5, 6, 0] rfl h
    · replace h := h.2 c6
      refine r_iinc (ls1 := [(3, (0, (x3 + 1))), (0, (2, 0)), (1, (0, x1)), (2, (0, x2)), (4, (0, x4)), (5, (0, x5)), (6, (0, x6))]) d_X11_fits_59 3 rfl (by decide) rfl ?_
      refine r_iload d_X11_fits_62 4 rfl ?_
      refine r_iconst d_X11_fits_64 ?_
      obtain ⟨h7, h⟩ := h
      refine r_icmp_ne (tgt := 79) d_X11_fits_65 (by decide) h7 ⟨by decide, by decide⟩ (fun c8 => ?_) (fun c8 => ?_)
      · replace h := h.1 c8
        refine r_iload d_X11_fits_79 4 rfl ?_
        refine r_istore (ls1 := [(4, (0, x4)), (3, (0, (x3 + 1))), (0, (2, 0)), (1, (0, x1)), (2, (0, x2)), (5, (0, x5)), (6, (0, x6))]) d_X11_fits_81 (by decide) rfl ?_
        refine r_iinc (ls1 := [(6, (0, (x6 + 1))), (4, (0, x4)), (3, (0, (x3 + 1))), (0, (2, 0)), (1, (0, x1)), (2, (0, x2)), (5, (0, x5))]) d_X11_fits_83 6 rfl (by decide) rfl ?_
        refine r_goto (tgt := 37) d_X11_fits_86 (by decide) ?_
        exact Rn.sub [3, 4, 5, 2, 1, 6, 0] rfl h
      · replace h := h.2 c8
        refine r_bipush d_X11_fits_68 (by decide +kernel) ?_
        refine r_iload d_X11_fits_70 5 rfl ?_
        refine r_imul d_X11_fits_72 ?_
        refine r_iload d_X11_fits_73 6 rfl ?_
        refine r_iadd d_X11_fits_75 ?_
        refine r_goto (tgt := 81) d_X11_fits_76 (by decide) ?_
        refine r_istore (ls1 := [(4, (0, ((100 * x5) + x6))), (3, (0, (x3 + 1))), (0, (2, 0)), (1, (0, x1)), (2, (0, x2)), (5, (0, x5)), (6, (0, x6))]) d_X11_fits_81 (by decide) rfl ?_
        refine r_iinc (ls1 := [(6, (0, (x6 + 1))), (4, (0, ((100 * x5) + x6))), (3, (0, (x3 + 1))), (0, (2, 0)), (1, (0, x1)), (2, (0, x2)), (5, (0, x5))]) d_X11_fits_83 6 rfl (by decide) rfl ?_
        refine r_goto (tgt := 37) d_X11_fits_86 (by decide) ?_
        exact Rn.sub [3, 4, 5, 2, 1, 6, 0] rfl h
theorem d_X11_flights_0 : decode M_X11_flights.2.1 0 = .ok (.iload_n 1, 1) := by decide +kernel
theorem d_X11_flights_1 : decode M_X11_flights.2.1 1 = .ok (.ifCond .lt 30, 3) := by decide +kernel
theorem d_X11_flights_4 : decode M_X11_flights.2.1 4 = .ok (.iload_n 1, 1) := by decide +kernel
theorem d_X11_flights_5 : decode M_X11_flights.2.1 5 = .ok (.sipush 9999, 3) := by decide +kernel
theorem d_X11_flights_8 : decode M_X11_flights.2.1 8 = .ok (.if_icmp .gt 23, 3) := by decide +kernel
theorem d_X11_flights_11 : decode M_X11_flights.2.1 11 = .ok (.iload_n 2, 1) := by decide +kernel
theorem d_X11_flights_12 : decode M_X11_flights.2.1 12 = .ok (.iconst 1, 1) := by decide +kernel
theorem d_X11_flights_13 : decode M_X11_flights.2.1 13 = .ok (.if_icmp .lt 18, 3) := by decide +kernel
theorem d_X11_flights_16 : decode M_X11_flights.2.1 16 = .ok (.iload_n 2, 1) := by decide +kernel
theorem d_X11_flights_17 : decode M_X11_flights.2.1 17 = .ok (.bipush 20, 2) := by decide +kernel
theorem d_X11_flights_19 : decode M_X11_flights.2.1 19 = .ok (.if_icmp .gt 12, 3) := by decide +kernel
theorem d_X11_flights_22 : decode M_X11_flights.2.1 22 = .ok (.iload_n 3, 1) := by decide +kernel
theorem d_X11_flights_23 : decode M_X11_flights.2.1 23 = .ok (.ifCond .lt 8, 3) := by decide +kernel
theorem d_X11_flights_26 : decode M_X11_flights.2.1 26 = .ok (.iload_n 3, 1) := by decide +kernel
theorem d_X11_flights_27 : decode M_X11_flights.2.1 27 = .ok (.iconst 2, 1) := by decide +kernel
theorem d_X11_flights_28 : decode M_X11_flights.2.1 28 = .ok (.if_icmp .le 5, 3) := by decide +kernel
theorem d_X11_flights_31 : decode M_X11_flights.2.1 31 = .ok (.iconst (-1), 1) := by decide +kernel
theorem d_X11_flights_32 : decode M_X11_flights.2.1 32 = .ok (.ireturn, 1) := by decide +kernel
theorem d_X11_flights_33 : decode M_X11_flights.2.1 33 = .ok (.aload_n 0, 1) := by decide +kernel
theorem d_X11_flights_34 : decode M_X11_flights.2.1 34 = .ok (.getfield 40, 3) := by decide +kernel
theorem d_X11_flights_37 : decode M_X11_flights.2.1 37 = .ok (.aload_n 0, 1) := by decide +kernel
theorem d_X11_flights_38 : decode M_X11_flights.2.1 38 = .ok (.getfield 54, 3) := by decide +kernel
theorem d_X11_flights_41 : decode M_X11_flights.2.1 41 = .ok (.iload_n 1, 1) := by decide +kernel
theorem d_X11_flights_42 : decode M_X11_flights.2.1 42 = .ok (.iload_n 2, 1) := by decide +kernel
theorem d_X11_flights_43 : decode M_X11_flights.2.1 43 = .ok (.invokevirtual 355, 3) := by decide +kernel
theorem d_X11_flights_46 : decode M_X11_flights.2.1 46 = .ok (.iload_n 3, 1) := by decide +kernel
theorem d_X11_flights_47 : decode M_X11_flights.2.1 47 = .ok (.ifCond .ne 13, 3) := by decide +kernel
theorem d_X11_flights_50 : decode M_X11_flights.2.1 50 = .ok (.aload_n 0, 1) := by decide +kernel
theorem d_X11_flights_51 : decode M_X11_flights.2.1 51 = .ok (.getfield 40, 3) := by decide +kernel
theorem d_X11_flights_54 : decode M_X11_flights.2.1 54 = .ok (.getfield 359, 3) := by decide +kernel
theorem d_X11_flights_57 : decode M_X11_flights.2.1 57 = .ok (.goto 25, 3) := by decide +kernel
theorem d_X11_flights_60 : decode M_X11_flights.2.1 60 = .ok (.iload_n 3, 1) := by decide +kernel
theorem d_X11_flights_61 : decode M_X11_flights.2.1 61 = .ok (.iconst 1, 1) := by decide +kernel
theorem d_X11_flights_62 : decode M_X11_flights.2.1 62 = .ok (.if_icmp .ne 13, 3) := by decide +kernel
theorem d_X11_flights_65 : decode M_X11_flights.2.1 65 = .ok (.aload_n 0, 1) := by decide +kernel
theorem d_X11_flights_66 : decode M_X11_flights.2.1 66 = .ok (.getfield 40, 3) := by decide +kernel
theorem d_X11_flights_69 : decode M_X11_flights.2.1 69 = .ok (.getfield 362, 3) := by decide +kernel
theorem d_X11_flights_72 : decode M_X11_flights.2.1 72 = .ok (.goto 10, 3) := by decide +kernel
theorem d_X11_flights_75 : decode M_X11_flights.2.1 75 = .ok (.aload_n 0, 1) := by decide +kernel
theorem d_X11_flights_76 : decode M_X11_flights.2.1 76 = .ok (.getfield 40, 3) := by decide +kernel
theorem d_X11_flights_79 : decode M_X11_flights.2.1 79 = .ok (.getfield 365, 3) := by decide +kernel
theorem d_X11_flights_82 : decode M_X11_flights.2.1 82 = .ok (.ireturn, 1) := by decide +kernel
set_option maxRecDepth 20000 in
theorem s_X11_flights_0 {d : Nat} {p0 : Int} {p1 : Int} {p2 : Int} {G : Mem} {Q : Int → Mem → Prop}  (h : (InR p0) ∧ ((p0 < 0) → Q (-1) G) ∧ (¬ (p0 < 0) → ((9999 < p0) → Q (-1) G) ∧ (¬ (9999 < p0) → (InR p1) ∧ ((p1 < 1) → Q (-1) G) ∧ (¬ (p1 < 1) → ((20 < p1) → Q (-1) G) ∧ (¬ (20 < p1) → (InR p2) ∧ ((p2 < 0) → Q (-1) G) ∧ (¬ (p2 < 0) → ((p2 ≤ 2) → ∀ b10 : Int, b10 = (G 0 13) → (Bs 1 b10 ∧ Ct d M_X2_draw NT 0 0 (some lay) [(2, 19), (2, b10), (0, p0), (0, p1)] G (fun r14 G13 => ((p2 ≠ 0) → ((p2 ≠ 1) → Q (G13 19 7) G13) ∧ (¬ (p2 ≠ 1) → Q (G13 19 6) G13)) ∧ (¬ (p2 ≠ 0) → Q (G13 19 5) G13)))) ∧ (¬ (p2 ≤ 2) → Q (-1) G))))))) : Rn (d + 1) M_X11_flights zN 0 [(0, (2, 0)), (1, (0, p0)), (2, (0, p1)), (3, (0, p2))] [] G Q := by
  refine r_iload_n d_X11_flights_0 1 rfl rfl ?_
  obtain ⟨h1, h⟩ := h
  refine r_if_lt (tgt := 31) d_X11_flights_1 (by decide) h1 (fun c2 => ?_) (fun c2 => ?_)
  · replace h := h.1 c2
    refine r_iconst d_X11_flights_31 ?_
    exact r_ireturn d_X11_flights_32 rfl ⟨rfl, Nat.le_refl _, Nat.le_refl _⟩ h
  · replace h := h.2 c2
    refine r_iload_n d_X11_flights_4 1 rfl rfl ?_
    refine r_sipush d_X11_flights_5 (by decide +kernel) ?_
    refine r_icmp_gt (tgt := 31) d_X11_flights_8 (by decide) h1 ⟨by decide, by decide⟩ (fun c3 => ?_) (fun c3 => ?_)
    · replace h := h.1 c3
      refine r_iconst d_X11_flights_31 ?_
      exact r_ireturn d_X11_flights_32 rfl ⟨rfl, Nat.le_refl _, Nat.le_refl _⟩ h
    · replace h := h.2 c3
      refine r_iload_n d_X11_flights_11 2 rfl rfl ?_
      refine r_iconst d_X11_flights_12 ?_
      obtain ⟨h4, h⟩ := h
      refine r_icmp_lt (tgt := 31) d_X11_flights_13 (by decide) h4 ⟨by decide, by decide⟩ (fun c5 => ?_) (fun c5 => ?_)
      · replace h := h.1 c5
        refine r_iconst d_X11_flights_31 ?_
        exact r_ireturn d_X11_flights_32 rfl ⟨rfl, Nat.le_refl _, Nat.le_refl _⟩ h
      · replace h := h.2 c5
        refine r_iload_n d_X11_flights_16 2 rfl rfl ?_
        refine r_bipush d_X11_flights_17 (by decide +kernel) ?_
        refine r_icmp_gt (tgt := 31) d_X11_flights_19 (by decide) h4 ⟨by decide, by decide⟩ (fun c6 => ?_) (fun c6 => ?_)
        · replace h := h.1 c6
          refine r_iconst d_X11_flights_31 ?_
          exact r_ireturn d_X11_flights_32 rfl ⟨rfl, Nat.le_refl _, Nat.le_refl _⟩ h
        · replace h := h.2 c6
          refine r_iload_n d_X11_flights_22 3 rfl rfl ?_
          obtain ⟨h7, h⟩ := h
          refine r_if_lt (tgt := 31) d_X11_flights_23 (by decide) h7 (fun c8 => ?_) (fun c8 => ?_)
          · replace h := h.1 c8
            refine r_iconst d_X11_flights_31 ?_
            exact r_ireturn d_X11_flights_32 rfl ⟨rfl, Nat.le_refl _, Nat.le_refl _⟩ h
          · replace h := h.2 c8
            refine r_iload_n d_X11_flights_26 3 rfl rfl ?_
            refine r_iconst d_X11_flights_27 ?_
            refine r_icmp_le (tgt := 33) d_X11_flights_28 (by decide) h7 ⟨by decide, by decide⟩ (fun c9 => ?_) (fun c9 => ?_)
            · replace h := h.1 c9
              refine r_aload_n d_X11_flights_33 0 rfl rfl ?_
              refine r_getL (v := 19) 11 4 4 rfl d_X11_flights_34 fl_X11_40 (by decide) (bs_ob bs_11) (ly_11_4 bs_11).1 (ly_11_4 bs_11).2.1 ?_
              refine r_aload_n d_X11_flights_37 0 rfl rfl ?_
              obtain ⟨b10, e12⟩ : ∃ y : Int, y = (G 0 13) := ⟨_, rfl⟩
              replace h := h b10 e12
              obtain ⟨h11, h⟩ := h
              refine r_getM 11 13 13 rfl d_X11_flights_38 fl_X11_54 (by decide) (bs_ob bs_11) e12.symm (bs_nn h11) ?_
              refine r_iload_n d_X11_flights_41 1 rfl rfl ?_
              refine r_iload_n d_X11_flights_42 2 rfl rfl ?_
              refine r_callV0 (M' := M_X2_draw) (ci := 2) [(2, b10), (0, p0), (0, p1)] d_X11_flights_43 cl_X11_355 rfl (Nat.le_of_ble_eq_true rfl) (by decide) rfl (bs_ob (ly_11_4 bs_11).2.2) ?_
              refine Ct.mono h (fun r14 G13 h => ?_)
              show Rn _ M_X11_flights zN 46 [(0, (2, 0)), (1, (0, p0)), (2, (0, p1)), (3, (0, p2))] [] G13 Q
              refine r_iload_n d_X11_flights_46 3 rfl rfl ?_
              refine r_if_ne (tgt := 60) d_X11_flights_47 (by decide) h7 (fun c15 => ?_) (fun c15 => ?_)
              · replace h := h.1 c15
                refine r_iload_n d_X11_flights_60 3 rfl rfl ?_
                refine r_iconst d_X11_flights_61 ?_
                refine r_icmp_ne (tgt := 75) d_X11_flights_62 (by decide) h7 ⟨by decide, by decide⟩ (fun c16 => ?_) (fun c16 => ?_)
                · replace h := h.1 c16
                  refine r_aload_n d_X11_flights_75 0 rfl rfl ?_
                  refine r_getL (v := 19) 11 4 4 rfl d_X11_flights_76 fl_X11_40 (by decide) (bs_ob bs_11) (ly_11_4 bs_11).1 (ly_11_4 bs_11).2.1 ?_
                  refine r_getI 2 7 7 rfl d_X11_flights_79 fl_X11_365 (by decide) (bs_ob (ly_11_4 bs_11).2.2) ?_
                  exact r_ireturn d_X11_flights_82 rfl ⟨rfl, Nat.le_refl _, Nat.le_refl _⟩ h
                · replace h := h.2 c16
                  refine r_aload_n d_X11_flights_65 0 rfl rfl ?_
                  refine r_getL (v := 19) 11 4 4 rfl d_X11_flights_66 fl_X11_40 (by decide) (bs_ob bs_11) (ly_11_4 bs_11).1 (ly_11_4 bs_11).2.1 ?_
                  refine r_getI 2 6 6 rfl d_X11_flights_69 fl_X11_362 (by decide) (bs_ob (ly_11_4 bs_11).2.2) ?_
                  refine r_goto (tgt := 82) d_X11_flights_72 (by decide) ?_
                  exact r_ireturn d_X11_flights_82 rfl ⟨rfl, Nat.le_refl _, Nat.le_refl _⟩ h
              · replace h := h.2 c15
                refine r_aload_n d_X11_flights_50 0 rfl rfl ?_
                refine r_getL (v := 19) 11 4 4 rfl d_X11_flights_51 fl_X11_40 (by decide) (bs_ob bs_11) (ly_11_4 bs_11).1 (ly_11_4 bs_11).2.1 ?_
                refine r_getI 2 5 5 rfl d_X11_flights_54 fl_X11_359 (by decide) (bs_ob (ly_11_4 bs_11).2.2) ?_
                refine r_goto (tgt := 82) d_X11_flights_57 (by decide) ?_
                exact r_ireturn d_X11_flights_82 rfl ⟨rfl, Nat.le_refl _, Nat.le_refl _⟩ h
            · replace h := h.2 c9
              refine r_iconst d_X11_flights_31 ?_
              exact r_ireturn d_X11_flights_32 rfl ⟨rfl, Nat.le_refl _, Nat.le_refl _⟩ h
theorem d_X11_mark_0 : decode M_X11_mark.2.1 0 = .ok (.iload_n 1, 1) := by decide +kernel
theorem d_X11_mark_1 : decode M_X11_mark.2.1 1 = .ok (.ifCond .lt 21, 3) := by decide +kernel
theorem d_X11_mark_4 : decode M_X11_mark.2.1 4 = .ok (.iload_n 1, 1) := by decide +kernel
theorem d_X11_mark_5 : decode M_X11_mark.2.1 5 = .ok (.iconst 4, 1) := by decide +kernel
theorem d_X11_mark_6 : decode M_X11_mark.2.1 6 = .ok (.if_icmp .ge 16, 3) := by decide +kernel
theorem d_X11_mark_9 : decode M_X11_mark.2.1 9 = .ok (.iload_n 2, 1) := by decide +kernel
theorem d_X11_mark_10 : decode M_X11_mark.2.1 10 = .ok (.ifCond .eq 14, 3) := by decide +kernel
theorem d_X11_mark_13 : decode M_X11_mark.2.1 13 = .ok (.aload_n 0, 1) := by decide +kernel
theorem d_X11_mark_14 : decode M_X11_mark.2.1 14 = .ok (.getfield 79, 3) := by decide +kernel
theorem d_X11_mark_17 : decode M_X11_mark.2.1 17 = .ok (.iload_n 1, 1) := by decide +kernel
theorem d_X11_mark_18 : decode M_X11_mark.2.1 18 = .ok (.baload, 1) := by decide +kernel
theorem d_X11_mark_19 : decode M_X11_mark.2.1 19 = .ok (.ifCond .ne 5, 3) := by decide +kernel
theorem d_X11_mark_22 : decode M_X11_mark.2.1 22 = .ok (.iconst 0, 1) := by decide +kernel
theorem d_X11_mark_23 : decode M_X11_mark.2.1 23 = .ok (.ireturn, 1) := by decide +kernel
theorem d_X11_mark_24 : decode M_X11_mark.2.1 24 = .ok (.iload_n 2, 1) := by decide +kernel
theorem d_X11_mark_25 : decode M_X11_mark.2.1 25 = .ok (.ifCond .eq 56, 3) := by decide +kernel
theorem d_X11_mark_28 : decode M_X11_mark.2.1 28 = .ok (.aload_n 0, 1) := by decide +kernel
theorem d_X11_mark_29 : decode M_X11_mark.2.1 29 = .ok (.getfield 54, 3) := by decide +kernel
theorem d_X11_mark_32 : decode M_X11_mark.2.1 32 = .ok (.aload_n 0, 1) := by decide +kernel
theorem d_X11_mark_33 : decode M_X11_mark.2.1 33 = .ok (.getfield 83, 3) := by decide +kernel
theorem d_X11_mark_36 : decode M_X11_mark.2.1 36 = .ok (.iload_n 1, 1) := by decide +kernel
theorem d_X11_mark_37 : decode M_X11_mark.2.1 37 = .ok (.aaload, 1) := by decide +kernel
theorem d_X11_mark_38 : decode M_X11_mark.2.1 38 = .ok (.invokevirtual 368, 3) := by decide +kernel
theorem d_X11_mark_41 : decode M_X11_mark.2.1 41 = .ok (.aload_n 0, 1) := by decide +kernel
theorem d_X11_mark_42 : decode M_X11_mark.2.1 42 = .ok (.getfield 64, 3) := by decide +kernel
theorem d_X11_mark_45 : decode M_X11_mark.2.1 45 = .ok (.aload_n 0, 1) := by decide +kernel
theorem d_X11_mark_46 : decode M_X11_mark.2.1 46 = .ok (.getfield 87, 3) := by decide +kernel
theorem d_X11_mark_49 : decode M_X11_mark.2.1 49 = .ok (.iload_n 1, 1) := by decide +kernel
theorem d_X11_mark_50 : decode M_X11_mark.2.1 50 = .ok (.aaload, 1) := by decide +kernel
theorem d_X11_mark_51 : decode M_X11_mark.2.1 51 = .ok (.invokevirtual 206, 3) := by decide +kernel
theorem d_X11_mark_54 : decode M_X11_mark.2.1 54 = .ok (.aload_n 0, 1) := by decide +kernel
theorem d_X11_mark_55 : decode M_X11_mark.2.1 55 = .ok (.getfield 71, 3) := by decide +kernel
theorem d_X11_mark_58 : decode M_X11_mark.2.1 58 = .ok (.aload_n 0, 1) := by decide +kernel
theorem d_X11_mark_59 : decode M_X11_mark.2.1 59 = .ok (.getfield 90, 3) := by decide +kernel
theorem d_X11_mark_62 : decode M_X11_mark.2.1 62 = .ok (.iload_n 1, 1) := by decide +kernel
theorem d_X11_mark_63 : decode M_X11_mark.2.1 63 = .ok (.aaload, 1) := by decide +kernel
theorem d_X11_mark_64 : decode M_X11_mark.2.1 64 = .ok (.invokevirtual 370, 3) := by decide +kernel
theorem d_X11_mark_67 : decode M_X11_mark.2.1 67 = .ok (.aload_n 0, 1) := by decide +kernel
theorem d_X11_mark_68 : decode M_X11_mark.2.1 68 = .ok (.getfield 40, 3) := by decide +kernel
theorem d_X11_mark_71 : decode M_X11_mark.2.1 71 = .ok (.invokevirtual 113, 3) := by decide +kernel
theorem d_X11_mark_74 : decode M_X11_mark.2.1 74 = .ok (.aload_n 0, 1) := by decide +kernel
theorem d_X11_mark_75 : decode M_X11_mark.2.1 75 = .ok (.invokevirtual 116, 3) := by decide +kernel
theorem d_X11_mark_78 : decode M_X11_mark.2.1 78 = .ok (.goto 49, 3) := by decide +kernel
theorem d_X11_mark_81 : decode M_X11_mark.2.1 81 = .ok (.aload_n 0, 1) := by decide +kernel
theorem d_X11_mark_82 : decode M_X11_mark.2.1 82 = .ok (.getfield 83, 3) := by decide +kernel
theorem d_X11_mark_85 : decode M_X11_mark.2.1 85 = .ok (.iload_n 1, 1) := by decide +kernel
theorem d_X11_mark_86 : decode M_X11_mark.2.1 86 = .ok (.aaload, 1) := by decide +kernel
theorem d_X11_mark_87 : decode M_X11_mark.2.1 87 = .ok (.aload_n 0, 1) := by decide +kernel
theorem d_X11_mark_88 : decode M_X11_mark.2.1 88 = .ok (.getfield 54, 3) := by decide +kernel
theorem d_X11_mark_91 : decode M_X11_mark.2.1 91 = .ok (.invokevirtual 368, 3) := by decide +kernel
theorem d_X11_mark_94 : decode M_X11_mark.2.1 94 = .ok (.aload_n 0, 1) := by decide +kernel
theorem d_X11_mark_95 : decode M_X11_mark.2.1 95 = .ok (.getfield 87, 3) := by decide +kernel
theorem d_X11_mark_98 : decode M_X11_mark.2.1 98 = .ok (.iload_n 1, 1) := by decide +kernel
theorem d_X11_mark_99 : decode M_X11_mark.2.1 99 = .ok (.aaload, 1) := by decide +kernel
theorem d_X11_mark_100 : decode M_X11_mark.2.1 100 = .ok (.aload_n 0, 1) := by decide +kernel
theorem d_X11_mark_101 : decode M_X11_mark.2.1 101 = .ok (.getfield 64, 3) := by decide +kernel
theorem d_X11_mark_104 : decode M_X11_mark.2.1 104 = .ok (.invokevirtual 206, 3) := by decide +kernel
theorem d_X11_mark_107 : decode M_X11_mark.2.1 107 = .ok (.aload_n 0, 1) := by decide +kernel
theorem d_X11_mark_108 : decode M_X11_mark.2.1 108 = .ok (.getfield 90, 3) := by decide +kernel
theorem d_X11_mark_111 : decode M_X11_mark.2.1 111 = .ok (.iload_n 1, 1) := by decide +kernel
theorem d_X11_mark_112 : decode M_X11_mark.2.1 112 = .ok (.aaload, 1) := by decide +kernel
theorem d_X11_mark_113 : decode M_X11_mark.2.1 113 = .ok (.aload_n 0, 1) := by decide +kernel
theorem d_X11_mark_114 : decode M_X11_mark.2.1 114 = .ok (.getfield 71, 3) := by decide +kernel
theorem d_X11_mark_117 : decode M_X11_mark.2.1 117 = .ok (.invokevirtual 370, 3) := by decide +kernel
theorem d_X11_mark_120 : decode M_X11_mark.2.1 120 = .ok (.aload_n 0, 1) := by decide +kernel
theorem d_X11_mark_121 : decode M_X11_mark.2.1 121 = .ok (.getfield 79, 3) := by decide +kernel
theorem d_X11_mark_124 : decode M_X11_mark.2.1 124 = .ok (.iload_n 1, 1) := by decide +kernel
theorem d_X11_mark_125 : decode M_X11_mark.2.1 125 = .ok (.iconst 1, 1) := by decide +kernel
theorem d_X11_mark_126 : decode M_X11_mark.2.1 126 = .ok (.bastore, 1) := by decide +kernel
theorem d_X11_mark_127 : decode M_X11_mark.2.1 127 = .ok (.iconst 1, 1) := by decide +kernel
theorem d_X11_mark_128 : decode M_X11_mark.2.1 128 = .ok (.ireturn, 1) := by decide +kernel
set_option maxRecDepth 20000 in
theorem s_X11_mark_0 {d : Nat} {p0 : Int} {p1 : Int} {G : Mem} {Q : Int → Mem → Prop}  (h : (InR p0) ∧ ((p0 < 0) → Q 0 G) ∧ (¬ (p0 < 0) → ((4 ≤ p0) → Q 0 G) ∧ (¬ (4 ≤ p0) → (InR p1) ∧ ((p1 = 0) → Rn d M_X11_mark zN 24 [(0, (2, 0)), (1, (0, p0)), (2, (0, p1))] [] G Q) ∧ (¬ (p1 = 0) → (0 ≤ p0 ∧ p0 < 4) ∧ ((InR (G 183 p0)) ∧ (((G 183 p0) ≠ 0) → Rn d M_X11_mark zN 24 [(0, (2, 0)), (1, (0, p0)), (2, (0, p1))] [] G Q) ∧ (¬ ((G 183 p0) ≠ 0) → Q 0 G)))))) : Rn d M_X11_mark zN 0 [(0, (2, 0)), (1, (0, p0)), (2, (0, p1))] [] G Q := by
  refine r_iload_n d_X11_mark_0 1 rfl rfl ?_
  obtain ⟨h1, h⟩ := h
  refine r_if_lt (tgt := 22) d_X11_mark_1 (by decide) h1 (fun c2 => ?_) (fun c2 => ?_)
  · replace h := h.1 c2
    refine r_iconst d_X11_mark_22 ?_
    exact r_zreturn d_X11_mark_23 rfl ⟨rfl, Nat.le_refl _, Nat.le_refl _⟩ (by decide) h
  · replace h := h.2 c2
    refine r_iload_n d_X11_mark_4 1 rfl rfl ?_
    refine r_iconst d_X11_mark_5 ?_
    refine r_icmp_ge (tgt := 22) d_X11_mark_6 (by decide) h1 ⟨by decide, by decide⟩ (fun c3 => ?_) (fun c3 => ?_)
    · replace h := h.1 c3
      refine r_iconst d_X11_mark_22 ?_
      exact r_zreturn d_X11_mark_23 rfl ⟨rfl, Nat.le_refl _, Nat.le_refl _⟩ (by decide) h
    · replace h := h.2 c3
      refine r_iload_n d_X11_mark_9 2 rfl rfl ?_
      obtain ⟨h4, h⟩ := h
      refine r_if_eq (tgt := 24) d_X11_mark_10 (by decide) h4 (fun c5 => ?_) (fun c5 => ?_)
      · replace h := h.1 c5
        exact h
      · replace h := h.2 c5
        refine r_aload_n d_X11_mark_13 0 rfl rfl ?_
        refine r_getL (v := 183) 11 10 10 rfl d_X11_mark_14 fl_X11_79 (by decide) (bs_ob bs_11) (ly_11_10 bs_11).1 (ly_11_10 bs_11).2.1 ?_
        refine r_iload_n d_X11_mark_17 1 rfl rfl ?_
        obtain ⟨h6, h⟩ := h
        refine r_zaload d_X11_mark_18 (ly_11_10 bs_11).2.2 h6 ?_
        obtain ⟨h7, h⟩ := h
        refine r_if_ne (tgt := 24) d_X11_mark_19 (by decide) h7 (fun c8 => ?_) (fun c8 => ?_)
        · replace h := h.1 c8
          exact h
        · replace h := h.2 c8
          refine r_iconst d_X11_mark_22 ?_
          exact r_zreturn d_X11_mark_23 rfl ⟨rfl, Nat.le_refl _, Nat.le_refl _⟩ (by decide) h
set_option maxRecDepth 20000 in
theorem s_X11_mark_24 {d : Nat} {x1 : Int} {x2 : Int} {G : Mem} {Q : Int → Mem → Prop}  (h : (InR x2) ∧ ((x2 = 0) → (0 ≤ x1 ∧ x1 < 4) ∧ (∀ b4 : Int, b4 = (G 0 13) → (Bs 1 b4 ∧ Ct d M_X1_take NT 0 0 (some lay) [(2, (187 + 31 * x1)), (2, b4)] G (fun r8 G7 => Ct d M_X8_take NT 0 0 (some lay) [(2, (205 + 31 * x1)), (2, 73)] G7 (fun r10 G9 => Ct d M_X9_take NT 0 0 (some lay) [(2, (213 + 31 * x1)), (2, 81)] G9 (fun r12 G11 => (∀ G13 : Mem, G13 = st G11 183 x1 1 → Q 1 G13))))))) ∧ (¬ (x2 = 0) → ∀ b14 : Int, b14 = (G 0 13) → (Bs 1 b14 ∧ (0 ≤ x1 ∧ x1 < 4) ∧ (Ct d M_X1_take NT 0 0 (some lay) [(2, b14), (2, (187 + 31 * x1))] G (fun r19 G18 => Ct d M_X8_take NT 0 0 (some lay) [(2, 73), (2, (205 + 31 * x1))] G18 (fun r21 G20 => Ct d M_X9_take NT 0 0 (some lay) [(2, 81), (2, (213 + 31 * x1))] G20 (fun r23 G22 => Ct d M_X2_forget NT 0 0 (some lay) [(2, 19)] G22 (fun r25 G24 => Ct d M_X11_forgetPast NT 0 0 (some lay) [(2, 0)] G24 (fun r27 G26 => Q 1 G26))))))))) : Rn (d + 1) M_X11_mark zN 24 [(0, (2, 0)), (1, (0, x1)), (2, (0, x2))] [] G Q := by
  refine r_iload_n d_X11_mark_24 2 rfl rfl ?_
  obtain ⟨h1, h⟩ := h
  refine r_if_eq (tgt := 81) d_X11_mark_25 (by decide) h1 (fun c2 => ?_) (fun c2 => ?_)
  · replace h := h.1 c2
    refine r_aload_n d_X11_mark_81 0 rfl rfl ?_
    refine r_getL (v := 184) 11 7 7 rfl d_X11_mark_82 fl_X11_83 (by decide) (bs_ob bs_11) (ly_11_7 bs_11).1 (ly_11_7 bs_11).2.1 ?_
    refine r_iload_n d_X11_mark_85 1 rfl rfl ?_
    obtain ⟨h3, h⟩ := h
    refine r_aaloadL (v := (187 + 31 * x1)) d_X11_mark_86 (ly_11_7 bs_11).2.2 (by decide) rfl h3 (el_11_7 bs_11 h3.1 h3.2).1 (el_11_7 bs_11 h3.1 h3.2).2.1 ?_
    refine r_aload_n d_X11_mark_87 0 rfl rfl ?_
    obtain ⟨b4, e6⟩ : ∃ y : Int, y = (G 0 13) := ⟨_, rfl⟩
    replace h := h b4 e6
    obtain ⟨h5, h⟩ := h
    refine r_getM 11 13 13 rfl d_X11_mark_88 fl_X11_54 (by decide) (bs_ob bs_11) e6.symm (bs_nn h5) ?_
    refine r_callV0 (M' := M_X1_take) (ci := 1) [(2, b4)] d_X11_mark_91 cl_X11_368 rfl (Nat.le_of_ble_eq_true rfl) (by decide) rfl (bs_ob (el_11_7 bs_11 h3.1 h3.2).2.2) ?_
    refine Ct.mono h (fun r8 G7 h => ?_)
    show Rn _ M_X11_mark zN 94 [(0, (2, 0)), (1, (0, x1)), (2, (0, x2))] [] G7 Q
    refine r_aload_n d_X11_mark_94 0 rfl rfl ?_
    refine r_getL (v := 185) 11 8 8 rfl d_X11_mark_95 fl_X11_87 (by decide) (bs_ob bs_11) (ly_11_8 bs_11).1 (ly_11_8 bs_11).2.1 ?_
    refine r_iload_n d_X11_mark_98 1 rfl rfl ?_
    refine r_aaloadL (v := (205 + 31 * x1)) d_X11_mark_99 (ly_11_8 bs_11).2.2 (by decide) rfl h3 (el_11_8 bs_11 h3.1 h3.2).1 (el_11_8 bs_11 h3.1 h3.2).2.1 ?_
    refine r_aload_n d_X11_mark_100 0 rfl rfl ?_
    refine r_getL (v := 73) 11 11 11 rfl d_X11_mark_101 fl_X11_64 (by decide) (bs_ob bs_11) (ly_11_11 bs_11).1 (ly_11_11 bs_11).2.1 ?_
    refine r_callV0 (M' := M_X8_take) (ci := 8) [(2, 73)] d_X11_mark_104 cl_X11_206 rfl (Nat.le_of_ble_eq_true rfl) (by decide) rfl (bs_ob (el_11_8 bs_11 h3.1 h3.2).2.2) ?_
    refine Ct.mono h (fun r10 G9 h => ?_)
    show Rn _ M_X11_mark zN 107 [(0, (2, 0)), (1, (0, x1)), (2, (0, x2))] [] G9 Q
    refine r_aload_n d_X11_mark_107 0 rfl rfl ?_
    refine r_getL (v := 186) 11 9 9 rfl d_X11_mark_108 fl_X11_90 (by decide) (bs_ob bs_11) (ly_11_9 bs_11).1 (ly_11_9 bs_11).2.1 ?_
    refine r_iload_n d_X11_mark_111 1 rfl rfl ?_
    refine r_aaloadL (v := (213 + 31 * x1)) d_X11_mark_112 (ly_11_9 bs_11).2.2 (by decide) rfl h3 (el_11_9 bs_11 h3.1 h3.2).1 (el_11_9 bs_11 h3.1 h3.2).2.1 ?_
    refine r_aload_n d_X11_mark_113 0 rfl rfl ?_
    refine r_getL (v := 81) 11 12 12 rfl d_X11_mark_114 fl_X11_71 (by decide) (bs_ob bs_11) (ly_11_12 bs_11).1 (ly_11_12 bs_11).2.1 ?_
    refine r_callV0 (M' := M_X9_take) (ci := 9) [(2, 81)] d_X11_mark_117 cl_X11_370 rfl (Nat.le_of_ble_eq_true rfl) (by decide) rfl (bs_ob (el_11_9 bs_11 h3.1 h3.2).2.2) ?_
    refine Ct.mono h (fun r12 G11 h => ?_)
    show Rn _ M_X11_mark zN 120 [(0, (2, 0)), (1, (0, x1)), (2, (0, x2))] [] G11 Q
    refine r_aload_n d_X11_mark_120 0 rfl rfl ?_
    refine r_getL (v := 183) 11 10 10 rfl d_X11_mark_121 fl_X11_79 (by decide) (bs_ob bs_11) (ly_11_10 bs_11).1 (ly_11_10 bs_11).2.1 ?_
    refine r_iload_n d_X11_mark_124 1 rfl rfl ?_
    refine r_iconst d_X11_mark_125 ?_
    obtain ⟨G13, eG13⟩ : ∃ y : Mem, y = st G11 183 x1 1 := ⟨_, rfl⟩
    replace h := h G13 eG13
    refine r_zastore d_X11_mark_126 (ly_11_10 bs_11).2.2 h3 (by decide) ?_
    rw [← eG13]
    refine r_iconst d_X11_mark_127 ?_
    exact r_zreturn d_X11_mark_128 rfl ⟨rfl, Nat.le_refl _, Nat.le_refl _⟩ (by decide) h
  · replace h := h.2 c2
    refine r_aload_n d_X11_mark_28 0 rfl rfl ?_
    obtain ⟨b14, e16⟩ : ∃ y : Int, y = (G 0 13) := ⟨_, rfl⟩
    replace h := h b14 e16
    obtain ⟨h15, h⟩ := h
    refine r_getM 11 13 13 rfl d_X11_mark_29 fl_X11_54 (by decide) (bs_ob bs_11) e16.symm (bs_nn h15) ?_
    refine r_aload_n d_X11_mark_32 0 rfl rfl ?_
    refine r_getL (v := 184) 11 7 7 rfl d_X11_mark_33 fl_X11_83 (by decide) (bs_ob bs_11) (ly_11_7 bs_11).1 (ly_11_7 bs_11).2.1 ?_
    refine r_iload_n d_X11_mark_36 1 rfl rfl ?_
    obtain ⟨h17, h⟩ := h
    refine r_aaloadL (v := (187 + 31 * x1)) d_X11_mark_37 (ly_11_7 bs_11).2.2 (by decide) rfl h17 (el_11_7 bs_11 h17.1 h17.2).1 (el_11_7 bs_11 h17.1 h17.2).2.1 ?_
    refine r_callV0 (M' := M_X1_take) (ci := 1) [(2, (187 + 31 * x1))] d_X11_mark_38 cl_X11_368 rfl (Nat.le_of_ble_eq_true rfl) (by decide) rfl (bs_ob h15) ?_
    refine Ct.mono h (fun r19 G18 h => ?_)
    show Rn _ M_X11_mark zN 41 [(0, (2, 0)), (1, (0, x1)), (2, (0, x2))] [] G18 Q
    refine r_aload_n d_X11_mark_41 0 rfl rfl ?_
    refine r_getL (v := 73) 11 11 11 rfl d_X11_mark_42 fl_X11_64 (by decide) (bs_ob bs_11) (ly_11_11 bs_11).1 (ly_11_11 bs_11).2.1 ?_
    refine r_aload_n d_X11_mark_45 0 rfl rfl ?_
    refine r_getL (v := 185) 11 8 8 rfl d_X11_mark_46 fl_X11_87 (by decide) (bs_ob bs_11) (ly_11_8 bs_11).1 (ly_11_8 bs_11).2.1 ?_
    refine r_iload_n d_X11_mark_49 1 rfl rfl ?_
    refine r_aaloadL (v := (205 + 31 * x1)) d_X11_mark_50 (ly_11_8 bs_11).2.2 (by decide) rfl h17 (el_11_8 bs_11 h17.1 h17.2).1 (el_11_8 bs_11 h17.1 h17.2).2.1 ?_
    refine r_callV0 (M' := M_X8_take) (ci := 8) [(2, (205 + 31 * x1))] d_X11_mark_51 cl_X11_206 rfl (Nat.le_of_ble_eq_true rfl) (by decide) rfl (bs_ob (ly_11_11 bs_11).2.2) ?_
    refine Ct.mono h (fun r21 G20 h => ?_)
    show Rn _ M_X11_mark zN 54 [(0, (2, 0)), (1, (0, x1)), (2, (0, x2))] [] G20 Q
    refine r_aload_n d_X11_mark_54 0 rfl rfl ?_
    refine r_getL (v := 81) 11 12 12 rfl d_X11_mark_55 fl_X11_71 (by decide) (bs_ob bs_11) (ly_11_12 bs_11).1 (ly_11_12 bs_11).2.1 ?_
    refine r_aload_n d_X11_mark_58 0 rfl rfl ?_
    refine r_getL (v := 186) 11 9 9 rfl d_X11_mark_59 fl_X11_90 (by decide) (bs_ob bs_11) (ly_11_9 bs_11).1 (ly_11_9 bs_11).2.1 ?_
    refine r_iload_n d_X11_mark_62 1 rfl rfl ?_
    refine r_aaloadL (v := (213 + 31 * x1)) d_X11_mark_63 (ly_11_9 bs_11).2.2 (by decide) rfl h17 (el_11_9 bs_11 h17.1 h17.2).1 (el_11_9 bs_11 h17.1 h17.2).2.1 ?_
    refine r_callV0 (M' := M_X9_take) (ci := 9) [(2, (213 + 31 * x1))] d_X11_mark_64 cl_X11_370 rfl (Nat.le_of_ble_eq_true rfl) (by decide) rfl (bs_ob (ly_11_12 bs_11).2.2) ?_
    refine Ct.mono h (fun r23 G22 h => ?_)
    show Rn _ M_X11_mark zN 67 [(0, (2, 0)), (1, (0, x1)), (2, (0, x2))] [] G22 Q
    refine r_aload_n d_X11_mark_67 0 rfl rfl ?_
    refine r_getL (v := 19) 11 4 4 rfl d_X11_mark_68 fl_X11_40 (by decide) (bs_ob bs_11) (ly_11_4 bs_11).1 (ly_11_4 bs_11).2.1 ?_
    refine r_callV0 (M' := M_X2_forget) (ci := 2) [] d_X11_mark_71 cl_X11_113 rfl (Nat.le_of_ble_eq_true rfl) (by decide) rfl (bs_ob (ly_11_4 bs_11).2.2) ?_
    refine Ct.mono h (fun r25 G24 h => ?_)
    show Rn _ M_X11_mark zN 74 [(0, (2, 0)), (1, (0, x1)), (2, (0, x2))] [] G24 Q
    refine r_aload_n d_X11_mark_74 0 rfl rfl ?_
    refine r_callV0 (M' := M_X11_forgetPast) (ci := 11) [] d_X11_mark_75 cl_X11_116 rfl (Nat.le_of_ble_eq_true rfl) (by decide) rfl (bs_ob bs_11) ?_
    refine Ct.mono h (fun r27 G26 h => ?_)
    show Rn _ M_X11_mark zN 78 [(0, (2, 0)), (1, (0, x1)), (2, (0, x2))] [] G26 Q
    refine r_goto (tgt := 127) d_X11_mark_78 (by decide) ?_
    refine r_iconst d_X11_mark_127 ?_
    exact r_zreturn d_X11_mark_128 rfl ⟨rfl, Nat.le_refl _, Nat.le_refl _⟩ (by decide) h
theorem d_X11_count_0 : decode M_X11_count.2.1 0 = .ok (.iload_n 1, 1) := by decide +kernel
theorem d_X11_count_1 : decode M_X11_count.2.1 1 = .ok (.tableswitch 156 0 11 #[63, 71, 79, 87, 95, 103, 111, 119, 127, 135, 143, 148], 63) := by decide +kernel
theorem d_X11_count_64 : decode M_X11_count.2.1 64 = .ok (.aload_n 0, 1) := by decide +kernel
theorem d_X11_count_65 : decode M_X11_count.2.1 65 = .ok (.getfield 54, 3) := by decide +kernel
theorem d_X11_count_68 : decode M_X11_count.2.1 68 = .ok (.getfield 165, 3) := by decide +kernel
theorem d_X11_count_71 : decode M_X11_count.2.1 71 = .ok (.ireturn, 1) := by decide +kernel
theorem d_X11_count_72 : decode M_X11_count.2.1 72 = .ok (.aload_n 0, 1) := by decide +kernel
theorem d_X11_count_73 : decode M_X11_count.2.1 73 = .ok (.getfield 54, 3) := by decide +kernel
theorem d_X11_count_76 : decode M_X11_count.2.1 76 = .ok (.getfield 174, 3) := by decide +kernel
theorem d_X11_count_79 : decode M_X11_count.2.1 79 = .ok (.ireturn, 1) := by decide +kernel
theorem d_X11_count_80 : decode M_X11_count.2.1 80 = .ok (.aload_n 0, 1) := by decide +kernel
theorem d_X11_count_81 : decode M_X11_count.2.1 81 = .ok (.getfield 54, 3) := by decide +kernel
theorem d_X11_count_84 : decode M_X11_count.2.1 84 = .ok (.getfield 294, 3) := by decide +kernel
theorem d_X11_count_87 : decode M_X11_count.2.1 87 = .ok (.ireturn, 1) := by decide +kernel
theorem d_X11_count_88 : decode M_X11_count.2.1 88 = .ok (.aload_n 0, 1) := by decide +kernel
theorem d_X11_count_89 : decode M_X11_count.2.1 89 = .ok (.getfield 64, 3) := by decide +kernel
theorem d_X11_count_92 : decode M_X11_count.2.1 92 = .ok (.getfield 139, 3) := by decide +kernel
theorem d_X11_count_95 : decode M_X11_count.2.1 95 = .ok (.ireturn, 1) := by decide +kernel
theorem d_X11_count_96 : decode M_X11_count.2.1 96 = .ok (.aload_n 0, 1) := by decide +kernel
theorem d_X11_count_97 : decode M_X11_count.2.1 97 = .ok (.getfield 64, 3) := by decide +kernel
theorem d_X11_count_100 : decode M_X11_count.2.1 100 = .ok (.getfield 278, 3) := by decide +kernel
theorem d_X11_count_103 : decode M_X11_count.2.1 103 = .ok (.ireturn, 1) := by decide +kernel
theorem d_X11_count_104 : decode M_X11_count.2.1 104 = .ok (.aload_n 0, 1) := by decide +kernel
theorem d_X11_count_105 : decode M_X11_count.2.1 105 = .ok (.getfield 64, 3) := by decide +kernel
theorem d_X11_count_108 : decode M_X11_count.2.1 108 = .ok (.getfield 373, 3) := by decide +kernel
theorem d_X11_count_111 : decode M_X11_count.2.1 111 = .ok (.ireturn, 1) := by decide +kernel
theorem d_X11_count_112 : decode M_X11_count.2.1 112 = .ok (.aload_n 0, 1) := by decide +kernel
theorem d_X11_count_113 : decode M_X11_count.2.1 113 = .ok (.getfield 64, 3) := by decide +kernel
theorem d_X11_count_116 : decode M_X11_count.2.1 116 = .ok (.getfield 376, 3) := by decide +kernel
theorem d_X11_count_119 : decode M_X11_count.2.1 119 = .ok (.ireturn, 1) := by decide +kernel
theorem d_X11_count_120 : decode M_X11_count.2.1 120 = .ok (.aload_n 0, 1) := by decide +kernel
theorem d_X11_count_121 : decode M_X11_count.2.1 121 = .ok (.getfield 64, 3) := by decide +kernel
theorem d_X11_count_124 : decode M_X11_count.2.1 124 = .ok (.getfield 281, 3) := by decide +kernel
theorem d_X11_count_127 : decode M_X11_count.2.1 127 = .ok (.ireturn, 1) := by decide +kernel
theorem d_X11_count_128 : decode M_X11_count.2.1 128 = .ok (.aload_n 0, 1) := by decide +kernel
theorem d_X11_count_129 : decode M_X11_count.2.1 129 = .ok (.getfield 64, 3) := by decide +kernel
theorem d_X11_count_132 : decode M_X11_count.2.1 132 = .ok (.invokevirtual 379, 3) := by decide +kernel
theorem d_X11_count_135 : decode M_X11_count.2.1 135 = .ok (.ireturn, 1) := by decide +kernel
theorem d_X11_count_136 : decode M_X11_count.2.1 136 = .ok (.aload_n 0, 1) := by decide +kernel
theorem d_X11_count_137 : decode M_X11_count.2.1 137 = .ok (.getfield 54, 3) := by decide +kernel
theorem d_X11_count_140 : decode M_X11_count.2.1 140 = .ok (.getfield 382, 3) := by decide +kernel
theorem d_X11_count_143 : decode M_X11_count.2.1 143 = .ok (.ireturn, 1) := by decide +kernel
theorem d_X11_count_144 : decode M_X11_count.2.1 144 = .ok (.aload_n 0, 1) := by decide +kernel
theorem d_X11_count_145 : decode M_X11_count.2.1 145 = .ok (.getfield 200, 3) := by decide +kernel
theorem d_X11_count_148 : decode M_X11_count.2.1 148 = .ok (.ireturn, 1) := by decide +kernel
theorem d_X11_count_149 : decode M_X11_count.2.1 149 = .ok (.aload_n 0, 1) := by decide +kernel
theorem d_X11_count_150 : decode M_X11_count.2.1 150 = .ok (.getfield 10, 3) := by decide +kernel
theorem d_X11_count_153 : decode M_X11_count.2.1 153 = .ok (.getfield 98, 3) := by decide +kernel
theorem d_X11_count_156 : decode M_X11_count.2.1 156 = .ok (.ireturn, 1) := by decide +kernel
theorem d_X11_count_157 : decode M_X11_count.2.1 157 = .ok (.iconst (-1), 1) := by decide +kernel
theorem d_X11_count_158 : decode M_X11_count.2.1 158 = .ok (.ireturn, 1) := by decide +kernel
set_option maxRecDepth 20000 in
theorem s_X11_count_0 {d : Nat} {p0 : Int} {G : Mem} {Q : Int → Mem → Prop}  (h : (InR p0) ∧ ((p0 < 0 ∨ 11 < p0) → Q (-1) G) ∧ ((p0 = 0) → ∀ b4 : Int, b4 = (G 0 13) → (Bs 1 b4 ∧ Q (G b4 6) G)) ∧ ((p0 = 1) → ∀ b7 : Int, b7 = (G 0 13) → (Bs 1 b7 ∧ Q (G b7 7) G)) ∧ ((p0 = 2) → ∀ b10 : Int, b10 = (G 0 13) → (Bs 1 b10 ∧ Q (G b10 8) G)) ∧ ((p0 = 3) → Q (G 73 7) G) ∧ ((p0 = 4) → Q (G 73 8) G) ∧ ((p0 = 5) → Q (G 73 9) G) ∧ ((p0 = 6) → Q (G 73 10) G) ∧ ((p0 = 7) → Q (G 73 11) G) ∧ ((p0 = 8) → Ct d M_X8_cups NT 0 0 (some lay) [(2, 73)] G (fun r14 G13 => Q r14 G13)) ∧ ((p0 = 9) → ∀ b15 : Int, b15 = (G 0 13) → (Bs 1 b15 ∧ Q (G b15 9) G)) ∧ ((p0 = 10) → Q (G 0 16) G) ∧ ((p0 = 11) → Q (G 1 1) G)) : Rn (d + 1) M_X11_count zN 0 [(0, (2, 0)), (1, (0, p0))] [] G Q := by
  refine r_iload_n d_X11_count_0 1 rfl rfl ?_
  obtain ⟨h1, h⟩ := h
  by_cases c2 : p0 < 0 ∨ 11 < p0
  · replace h := h.1 c2
    refine r_tsOut (tgt := 157) d_X11_count_1 h1 c2 (by decide) ?_
    refine r_iconst d_X11_count_157 ?_
    exact r_ireturn d_X11_count_158 rfl ⟨rfl, Nat.le_refl _, Nat.le_refl _⟩ h
  replace h := h.2
  have c22 : p0 = 0 ∨ p0 = 1 ∨ p0 = 2 ∨ p0 = 3 ∨ p0 = 4 ∨ p0 = 5 ∨ p0 = 6 ∨ p0 = 7 ∨ p0 = 8 ∨ p0 = 9 ∨ p0 = 10 ∨ p0 = 11 := by omega
  rcases c22 with c3 | c3 | c3 | c3 | c3 | c3 | c3 | c3 | c3 | c3 | c3 | c3
  · replace h := h.1 c3
    refine r_tsIn (tgt := 64) (off := 63) (j := 0) d_X11_count_1 c3 ⟨by decide, by decide⟩ (by decide) rfl (by decide) ?_
    refine r_aload_n d_X11_count_64 0 rfl rfl ?_
    obtain ⟨b4, e6⟩ : ∃ y : Int, y = (G 0 13) := ⟨_, rfl⟩
    replace h := h b4 e6
    obtain ⟨h5, h⟩ := h
    refine r_getM 11 13 13 rfl d_X11_count_65 fl_X11_54 (by decide) (bs_ob bs_11) e6.symm (bs_nn h5) ?_
    refine r_getI 1 6 6 rfl d_X11_count_68 fl_X11_165 (by decide) (bs_ob h5) ?_
    exact r_ireturn d_X11_count_71 rfl ⟨rfl, Nat.le_refl _, Nat.le_refl _⟩ h
  · replace h := h.2.1 c3
    refine r_tsIn (tgt := 72) (off := 71) (j := 1) d_X11_count_1 c3 ⟨by decide, by decide⟩ (by decide) rfl (by decide) ?_
    refine r_aload_n d_X11_count_72 0 rfl rfl ?_
    obtain ⟨b7, e9⟩ : ∃ y : Int, y = (G 0 13) := ⟨_, rfl⟩
    replace h := h b7 e9
    obtain ⟨h8, h⟩ := h
    refine r_getM 11 13 13 rfl d_X11_count_73 fl_X11_54 (by decide) (bs_ob bs_11) e9.symm (bs_nn h8) ?_
    refine r_getI 1 7 7 rfl d_X11_count_76 fl_X11_174 (by decide) (bs_ob h8) ?_
    exact r_ireturn d_X11_count_79 rfl ⟨rfl, Nat.le_refl _, Nat.le_refl _⟩ h
  · replace h := h.2.2.1 c3
    refine r_tsIn (tgt := 80) (off := 79) (j := 2) d_X11_count_1 c3 ⟨by decide, by decide⟩ (by decide) rfl (by decide) ?_
    refine r_aload_n d_X11_count_80 0 rfl rfl ?_
    obtain ⟨b10, e12⟩ : ∃ y : Int, y = (G 0 13) := ⟨_, rfl⟩
    replace h := h b10 e12
    obtain ⟨h11, h⟩ := h
    refine r_getM 11 13 13 rfl d_X11_count_81 fl_X11_54 (by decide) (bs_ob bs_11) e12.symm (bs_nn h11) ?_
    refine r_getI 1 8 8 rfl d_X11_count_84 fl_X11_294 (by decide) (bs_ob h11) ?_
    exact r_ireturn d_X11_count_87 rfl ⟨rfl, Nat.le_refl _, Nat.le_refl _⟩ h
  · replace h := h.2.2.2.1 c3
    refine r_tsIn (tgt := 88) (off := 87) (j := 3) d_X11_count_1 c3 ⟨by decide, by decide⟩ (by decide) rfl (by decide) ?_
    refine r_aload_n d_X11_count_88 0 rfl rfl ?_
    refine r_getL (v := 73) 11 11 11 rfl d_X11_count_89 fl_X11_64 (by decide) (bs_ob bs_11) (ly_11_11 bs_11).1 (ly_11_11 bs_11).2.1 ?_
    refine r_getI 8 7 7 rfl d_X11_count_92 fl_X11_139 (by decide) (bs_ob (ly_11_11 bs_11).2.2) ?_
    exact r_ireturn d_X11_count_95 rfl ⟨rfl, Nat.le_refl _, Nat.le_refl _⟩ h
  · replace h := h.2.2.2.2.1 c3
    refine r_tsIn (tgt := 96) (off := 95) (j := 4) d_X11_count_1 c3 ⟨by decide, by decide⟩ (by decide) rfl (by decide) ?_
    refine r_aload_n d_X11_count_96 0 rfl rfl ?_
    refine r_getL (v := 73) 11 11 11 rfl d_X11_count_97 fl_X11_64 (by decide) (bs_ob bs_11) (ly_11_11 bs_11).1 (ly_11_11 bs_11).2.1 ?_
    refine r_getI 8 8 8 rfl d_X11_count_100 fl_X11_278 (by decide) (bs_ob (ly_11_11 bs_11).2.2) ?_
    exact r_ireturn d_X11_count_103 rfl ⟨rfl, Nat.le_refl _, Nat.le_refl _⟩ h
  · replace h := h.2.2.2.2.2.1 c3
    refine r_tsIn (tgt := 104) (off := 103) (j := 5) d_X11_count_1 c3 ⟨by decide, by decide⟩ (by decide) rfl (by decide) ?_
    refine r_aload_n d_X11_count_104 0 rfl rfl ?_
    refine r_getL (v := 73) 11 11 11 rfl d_X11_count_105 fl_X11_64 (by decide) (bs_ob bs_11) (ly_11_11 bs_11).1 (ly_11_11 bs_11).2.1 ?_
    refine r_getI 8 9 9 rfl d_X11_count_108 fl_X11_373 (by decide) (bs_ob (ly_11_11 bs_11).2.2) ?_
    exact r_ireturn d_X11_count_111 rfl ⟨rfl, Nat.le_refl _, Nat.le_refl _⟩ h
  · replace h := h.2.2.2.2.2.2.1 c3
    refine r_tsIn (tgt := 112) (off := 111) (j := 6) d_X11_count_1 c3 ⟨by decide, by decide⟩ (by decide) rfl (by decide) ?_
    refine r_aload_n d_X11_count_112 0 rfl rfl ?_
    refine r_getL (v := 73) 11 11 11 rfl d_X11_count_113 fl_X11_64 (by decide) (bs_ob bs_11) (ly_11_11 bs_11).1 (ly_11_11 bs_11).2.1 ?_
    refine r_getI 8 10 10 rfl d_X11_count_116 fl_X11_376 (by decide) (bs_ob (ly_11_11 bs_11).2.2) ?_
    exact r_ireturn d_X11_count_119 rfl ⟨rfl, Nat.le_refl _, Nat.le_refl _⟩ h
  · replace h := h.2.2.2.2.2.2.2.1 c3
    refine r_tsIn (tgt := 120) (off := 119) (j := 7) d_X11_count_1 c3 ⟨by decide, by decide⟩ (by decide) rfl (by decide) ?_
    refine r_aload_n d_X11_count_120 0 rfl rfl ?_
    refine r_getL (v := 73) 11 11 11 rfl d_X11_count_121 fl_X11_64 (by decide) (bs_ob bs_11) (ly_11_11 bs_11).1 (ly_11_11 bs_11).2.1 ?_
    refine r_getI 8 11 11 rfl d_X11_count_124 fl_X11_281 (by decide) (bs_ob (ly_11_11 bs_11).2.2) ?_
    exact r_ireturn d_X11_count_127 rfl ⟨rfl, Nat.le_refl _, Nat.le_refl _⟩ h
  · replace h := h.2.2.2.2.2.2.2.2.1 c3
    refine r_tsIn (tgt := 128) (off := 127) (j := 8) d_X11_count_1 c3 ⟨by decide, by decide⟩ (by decide) rfl (by decide) ?_
    refine r_aload_n d_X11_count_128 0 rfl rfl ?_
    refine r_getL (v := 73) 11 11 11 rfl d_X11_count_129 fl_X11_64 (by decide) (bs_ob bs_11) (ly_11_11 bs_11).1 (ly_11_11 bs_11).2.1 ?_
    refine r_callV0 (M' := M_X8_cups) (ci := 8) [] d_X11_count_132 cl_X11_379 rfl (Nat.le_of_ble_eq_true rfl) (by decide) rfl (bs_ob (ly_11_11 bs_11).2.2) ?_
    refine Ct.mono h (fun r14 G13 h => ?_)
    show Rn _ M_X11_count zN 135 [(0, (2, 0)), (1, (0, p0))] [(0, r14)] G13 Q
    exact r_ireturn d_X11_count_135 rfl ⟨rfl, Nat.le_refl _, Nat.le_refl _⟩ h
  · replace h := h.2.2.2.2.2.2.2.2.2.1 c3
    refine r_tsIn (tgt := 136) (off := 135) (j := 9) d_X11_count_1 c3 ⟨by decide, by decide⟩ (by decide) rfl (by decide) ?_
    refine r_aload_n d_X11_count_136 0 rfl rfl ?_
    obtain ⟨b15, e17⟩ : ∃ y : Int, y = (G 0 13) := ⟨_, rfl⟩
    replace h := h b15 e17
    obtain ⟨h16, h⟩ := h
    refine r_getM 11 13 13 rfl d_X11_count_137 fl_X11_54 (by decide) (bs_ob bs_11) e17.symm (bs_nn h16) ?_
    refine r_getI 1 9 9 rfl d_X11_count_140 fl_X11_382 (by decide) (bs_ob h16) ?_
    exact r_ireturn d_X11_count_143 rfl ⟨rfl, Nat.le_refl _, Nat.le_refl _⟩ h
  · replace h := h.2.2.2.2.2.2.2.2.2.2.1 c3
    refine r_tsIn (tgt := 144) (off := 143) (j := 10) d_X11_count_1 c3 ⟨by decide, by decide⟩ (by decide) rfl (by decide) ?_
    refine r_aload_n d_X11_count_144 0 rfl rfl ?_
    refine r_getI 11 16 16 rfl d_X11_count_145 fl_X11_200 (by decide) (bs_ob bs_11) ?_
    exact r_ireturn d_X11_count_148 rfl ⟨rfl, Nat.le_refl _, Nat.le_refl _⟩ h
  · replace h := h.2.2.2.2.2.2.2.2.2.2.2 c3
    refine r_tsIn (tgt := 149) (off := 148) (j := 11) d_X11_count_1 c3 ⟨by decide, by decide⟩ (by decide) rfl (by decide) ?_
    refine r_aload_n d_X11_count_149 0 rfl rfl ?_
    refine r_getL (v := 1) 11 0 0 rfl d_X11_count_150 fl_X11_10 (by decide) (bs_ob bs_11) (ly_11_0 bs_11).1 (ly_11_0 bs_11).2.1 ?_
    refine r_getI 10 1 1 rfl d_X11_count_153 fl_X11_98 (by decide) (bs_ob (ly_11_0 bs_11).2.2) ?_
    exact r_ireturn d_X11_count_156 rfl ⟨rfl, Nat.le_refl _, Nat.le_refl _⟩ h
theorem d_X11_known_0 : decode M_X11_known.2.1 0 = .ok (.iload_n 1, 1) := by decide +kernel
theorem d_X11_known_1 : decode M_X11_known.2.1 1 = .ok (.ifCond .lt 18, 3) := by decide +kernel
theorem d_X11_known_4 : decode M_X11_known.2.1 4 = .ok (.iload_n 1, 1) := by decide +kernel
theorem d_X11_known_5 : decode M_X11_known.2.1 5 = .ok (.aload_n 0, 1) := by decide +kernel
theorem d_X11_known_6 : decode M_X11_known.2.1 6 = .ok (.getfield 54, 3) := by decide +kernel
theorem d_X11_known_9 : decode M_X11_known.2.1 9 = .ok (.getfield 294, 3) := by decide +kernel
theorem d_X11_known_12 : decode M_X11_known.2.1 12 = .ok (.if_icmp .ge 7, 3) := by decide +kernel
theorem d_X11_known_15 : decode M_X11_known.2.1 15 = .ok (.iconst 1, 1) := by decide +kernel
theorem d_X11_known_16 : decode M_X11_known.2.1 16 = .ok (.goto 4, 3) := by decide +kernel
theorem d_X11_known_19 : decode M_X11_known.2.1 19 = .ok (.iconst 0, 1) := by decide +kernel
theorem d_X11_known_20 : decode M_X11_known.2.1 20 = .ok (.ireturn, 1) := by decide +kernel
set_option maxRecDepth 20000 in
theorem s_X11_known_0 {d : Nat} {p0 : Int} {G : Mem} {Q : Int → Mem → Prop}  (h : (InR p0) ∧ ((p0 < 0) → Q 0 G) ∧ (¬ (p0 < 0) → ∀ b3 : Int, b3 = (G 0 13) → (Bs 1 b3 ∧ (InR (G b3 8)) ∧ (((G b3 8) ≤ p0) → Q 0 G) ∧ (¬ ((G b3 8) ≤ p0) → Q 1 G)))) : Rn d M_X11_known zN 0 [(0, (2, 0)), (1, (0, p0))] [] G Q := by
  refine r_iload_n d_X11_known_0 1 rfl rfl ?_
  obtain ⟨h1, h⟩ := h
  refine r_if_lt (tgt := 19) d_X11_known_1 (by decide) h1 (fun c2 => ?_) (fun c2 => ?_)
  · replace h := h.1 c2
    refine r_iconst d_X11_known_19 ?_
    exact r_zreturn d_X11_known_20 rfl ⟨rfl, Nat.le_refl _, Nat.le_refl _⟩ (by decide) h
  · replace h := h.2 c2
    refine r_iload_n d_X11_known_4 1 rfl rfl ?_
    refine r_aload_n d_X11_known_5 0 rfl rfl ?_
    obtain ⟨b3, e5⟩ : ∃ y : Int, y = (G 0 13) := ⟨_, rfl⟩
    replace h := h b3 e5
    obtain ⟨h4, h⟩ := h
    refine r_getM 11 13 13 rfl d_X11_known_6 fl_X11_54 (by decide) (bs_ob bs_11) e5.symm (bs_nn h4) ?_
    refine r_getI 1 8 8 rfl d_X11_known_9 fl_X11_294 (by decide) (bs_ob h4) ?_
    obtain ⟨h6, h⟩ := h
    refine r_icmp_ge (tgt := 19) d_X11_known_12 (by decide) h1 h6 (fun c7 => ?_) (fun c7 => ?_)
    · replace h := h.1 c7
      refine r_iconst d_X11_known_19 ?_
      exact r_zreturn d_X11_known_20 rfl ⟨rfl, Nat.le_refl _, Nat.le_refl _⟩ (by decide) h
    · replace h := h.2 c7
      refine r_iconst d_X11_known_15 ?_
      refine r_goto (tgt := 20) d_X11_known_16 (by decide) ?_
      exact r_zreturn d_X11_known_20 rfl ⟨rfl, Nat.le_refl _, Nat.le_refl _⟩ (by decide) h
theorem d_X11_movable_0 : decode M_X11_movable.2.1 0 = .ok (.aload_n 0, 1) := by decide +kernel
theorem d_X11_movable_1 : decode M_X11_movable.2.1 1 = .ok (.iload_n 1, 1) := by decide +kernel
theorem d_X11_movable_2 : decode M_X11_movable.2.1 2 = .ok (.invokevirtual 119, 3) := by decide +kernel
theorem d_X11_movable_5 : decode M_X11_movable.2.1 5 = .ok (.ifCond .eq 19, 3) := by decide +kernel
theorem d_X11_movable_8 : decode M_X11_movable.2.1 8 = .ok (.aload_n 0, 1) := by decide +kernel
theorem d_X11_movable_9 : decode M_X11_movable.2.1 9 = .ok (.getfield 64, 3) := by decide +kernel
theorem d_X11_movable_12 : decode M_X11_movable.2.1 12 = .ok (.getfield 146, 3) := by decide +kernel
theorem d_X11_movable_15 : decode M_X11_movable.2.1 15 = .ok (.iload_n 1, 1) := by decide +kernel
theorem d_X11_movable_16 : decode M_X11_movable.2.1 16 = .ok (.iaload, 1) := by decide +kernel
theorem d_X11_movable_17 : decode M_X11_movable.2.1 17 = .ok (.ifCond .gt 7, 3) := by decide +kernel
theorem d_X11_movable_20 : decode M_X11_movable.2.1 20 = .ok (.iconst 1, 1) := by decide +kernel
theorem d_X11_movable_21 : decode M_X11_movable.2.1 21 = .ok (.goto 4, 3) := by decide +kernel
theorem d_X11_movable_24 : decode M_X11_movable.2.1 24 = .ok (.iconst 0, 1) := by decide +kernel
theorem d_X11_movable_25 : decode M_X11_movable.2.1 25 = .ok (.ireturn, 1) := by decide +kernel
set_option maxRecDepth 20000 in
theorem s_X11_movable_0 {d : Nat} {p0 : Int} {G : Mem} {Q : Int → Mem → Prop}  (h : Ct d M_X11_known NT 0 0 (some lay) [(2, 0), (0, p0)] G (fun r2 G1 => (InR r2) ∧ ((r2 = 0) → Q 0 G1) ∧ (¬ (r2 = 0) → (0 ≤ p0 ∧ p0 < 5) ∧ ((InR (G1 75 p0)) ∧ ((0 < (G1 75 p0)) → Q 0 G1) ∧ (¬ (0 < (G1 75 p0)) → Q 1 G1))))) : Rn (d + 1) M_X11_movable zN 0 [(0, (2, 0)), (1, (0, p0))] [] G Q := by
  refine r_aload_n d_X11_movable_0 0 rfl rfl ?_
  refine r_iload_n d_X11_movable_1 1 rfl rfl ?_
  refine r_callV0 (M' := M_X11_known) (ci := 11) [(0, p0)] d_X11_movable_2 cl_X11_119 rfl (Nat.le_of_ble_eq_true rfl) (by decide) rfl (bs_ob bs_11) ?_
  refine Ct.mono h (fun r2 G1 h => ?_)
  show Rn _ M_X11_movable zN 5 [(0, (2, 0)), (1, (0, p0))] [(0, r2)] G1 Q
  obtain ⟨h3, h⟩ := h
  refine r_if_eq (tgt := 24) d_X11_movable_5 (by decide) h3 (fun c4 => ?_) (fun c4 => ?_)
  · replace h := h.1 c4
    refine r_iconst d_X11_movable_24 ?_
    exact r_zreturn d_X11_movable_25 rfl ⟨rfl, Nat.le_refl _, Nat.le_refl _⟩ (by decide) h
  · replace h := h.2 c4
    refine r_aload_n d_X11_movable_8 0 rfl rfl ?_
    refine r_getL (v := 73) 11 11 11 rfl d_X11_movable_9 fl_X11_64 (by decide) (bs_ob bs_11) (ly_11_11 bs_11).1 (ly_11_11 bs_11).2.1 ?_
    refine r_getL (v := 75) 8 1 1 rfl d_X11_movable_12 fl_X11_146 (by decide) (bs_ob (ly_11_11 bs_11).2.2) (ly_8_1 (ly_11_11 bs_11).2.2).1 (ly_8_1 (ly_11_11 bs_11).2.2).2.1 ?_
    refine r_iload_n d_X11_movable_15 1 rfl rfl ?_
    obtain ⟨h5, h⟩ := h
    refine r_iaload d_X11_movable_16 (ly_8_1 (ly_11_11 bs_11).2.2).2.2 h5 ?_
    obtain ⟨h6, h⟩ := h
    refine r_if_gt (tgt := 24) d_X11_movable_17 (by decide) h6 (fun c7 => ?_) (fun c7 => ?_)
    · replace h := h.1 c7
      refine r_iconst d_X11_movable_24 ?_
      exact r_zreturn d_X11_movable_25 rfl ⟨rfl, Nat.le_refl _, Nat.le_refl _⟩ (by decide) h
    · replace h := h.2 c7
      refine r_iconst d_X11_movable_20 ?_
      refine r_goto (tgt := 25) d_X11_movable_21 (by decide) ?_
      exact r_zreturn d_X11_movable_25 rfl ⟨rfl, Nat.le_refl _, Nat.le_refl _⟩ (by decide) h
theorem d_X11_rightWays_0 : decode M_X11_rightWays.2.1 0 = .ok (.iload_n 1, 1) := by decide +kernel
theorem d_X11_rightWays_1 : decode M_X11_rightWays.2.1 1 = .ok (.ifCond .lt 22, 3) := by decide +kernel
theorem d_X11_rightWays_4 : decode M_X11_rightWays.2.1 4 = .ok (.iload_n 1, 1) := by decide +kernel
theorem d_X11_rightWays_5 : decode M_X11_rightWays.2.1 5 = .ok (.getstatic 385, 3) := by decide +kernel
theorem d_X11_rightWays_8 : decode M_X11_rightWays.2.1 8 = .ok (.aload_n 0, 1) := by decide +kernel
theorem d_X11_rightWays_9 : decode M_X11_rightWays.2.1 9 = .ok (.getfield 54, 3) := by decide +kernel
theorem d_X11_rightWays_12 : decode M_X11_rightWays.2.1 12 = .ok (.getfield 165, 3) := by decide +kernel
theorem d_X11_rightWays_15 : decode M_X11_rightWays.2.1 15 = .ok (.iaload, 1) := by decide +kernel
theorem d_X11_rightWays_16 : decode M_X11_rightWays.2.1 16 = .ok (.if_icmp .ge 7, 3) := by decide +kernel
theorem d_X11_rightWays_19 : decode M_X11_rightWays.2.1 19 = .ok (.iconst 1, 1) := by decide +kernel
theorem d_X11_rightWays_20 : decode M_X11_rightWays.2.1 20 = .ok (.goto 4, 3) := by decide +kernel
theorem d_X11_rightWays_23 : decode M_X11_rightWays.2.1 23 = .ok (.iconst 0, 1) := by decide +kernel
theorem d_X11_rightWays_24 : decode M_X11_rightWays.2.1 24 = .ok (.ireturn, 1) := by decide +kernel
set_option maxRecDepth 20000 in
theorem s_X11_rightWays_0 {d : Nat} {p0 : Int} {G : Mem} {Q : Int → Mem → Prop}  (h : (InR p0) ∧ ((p0 < 0) → Q 0 G) ∧ (¬ (p0 < 0) → ∀ b3 : Int, b3 = (G 0 13) → (Bs 1 b3 ∧ (0 ≤ (G b3 6) ∧ (G b3 6) < 6) ∧ ((InR (thr.getD (Int.toNat (G b3 6)) 0)) ∧ (((thr.getD (Int.toNat (G b3 6)) 0) ≤ p0) → Q 0 G) ∧ (¬ ((thr.getD (Int.toNat (G b3 6)) 0) ≤ p0) → Q 1 G))))) : Rn d M_X11_rightWays zN 0 [(0, (2, 0)), (1, (0, p0))] [] G Q := by
  refine r_iload_n d_X11_rightWays_0 1 rfl rfl ?_
  obtain ⟨h1, h⟩ := h
  refine r_if_lt (tgt := 23) d_X11_rightWays_1 (by decide) h1 (fun c2 => ?_) (fun c2 => ?_)
  · replace h := h.1 c2
    refine r_iconst d_X11_rightWays_23 ?_
    exact r_zreturn d_X11_rightWays_24 rfl ⟨rfl, Nat.le_refl _, Nat.le_refl _⟩ (by decide) h
  · replace h := h.2 c2
    refine r_iload_n d_X11_rightWays_4 1 rfl rfl ?_
    refine r_thr d_X11_rightWays_5 thr_X11_385 ?_
    refine r_aload_n d_X11_rightWays_8 0 rfl rfl ?_
    obtain ⟨b3, e5⟩ : ∃ y : Int, y = (G 0 13) := ⟨_, rfl⟩
    replace h := h b3 e5
    obtain ⟨h4, h⟩ := h
    refine r_getM 11 13 13 rfl d_X11_rightWays_9 fl_X11_54 (by decide) (bs_ob bs_11) e5.symm (bs_nn h4) ?_
    refine r_getI 1 6 6 rfl d_X11_rightWays_12 fl_X11_165 (by decide) (bs_ob h4) ?_
    obtain ⟨h6, h⟩ := h
    refine r_thrld d_X11_rightWays_15 h6 ?_
    obtain ⟨h7, h⟩ := h
    refine r_icmp_ge (tgt := 23) d_X11_rightWays_16 (by decide) h1 h7 (fun c8 => ?_) (fun c8 => ?_)
    · replace h := h.1 c8
      refine r_iconst d_X11_rightWays_23 ?_
      exact r_zreturn d_X11_rightWays_24 rfl ⟨rfl, Nat.le_refl _, Nat.le_refl _⟩ (by decide) h
    · replace h := h.2 c8
      refine r_iconst d_X11_rightWays_19 ?_
      refine r_goto (tgt := 24) d_X11_rightWays_20 (by decide) ?_
      exact r_zreturn d_X11_rightWays_24 rfl ⟨rfl, Nat.le_refl _, Nat.le_refl _⟩ (by decide) h
theorem d_X11_rightLuck_0 : decode M_X11_rightLuck.2.1 0 = .ok (.iload_n 1, 1) := by decide +kernel
theorem d_X11_rightLuck_1 : decode M_X11_rightLuck.2.1 1 = .ok (.ifCond .lt 20, 3) := by decide +kernel
theorem d_X11_rightLuck_4 : decode M_X11_rightLuck.2.1 4 = .ok (.iload_n 1, 1) := by decide +kernel
theorem d_X11_rightLuck_5 : decode M_X11_rightLuck.2.1 5 = .ok (.iconst 1, 1) := by decide +kernel
theorem d_X11_rightLuck_6 : decode M_X11_rightLuck.2.1 6 = .ok (.aload_n 0, 1) := by decide +kernel
theorem d_X11_rightLuck_7 : decode M_X11_rightLuck.2.1 7 = .ok (.getfield 54, 3) := by decide +kernel
theorem d_X11_rightLuck_10 : decode M_X11_rightLuck.2.1 10 = .ok (.getfield 165, 3) := by decide +kernel
theorem d_X11_rightLuck_13 : decode M_X11_rightLuck.2.1 13 = .ok (.ishl, 1) := by decide +kernel
theorem d_X11_rightLuck_14 : decode M_X11_rightLuck.2.1 14 = .ok (.if_icmp .ge 7, 3) := by decide +kernel
theorem d_X11_rightLuck_17 : decode M_X11_rightLuck.2.1 17 = .ok (.iconst 1, 1) := by decide +kernel
theorem d_X11_rightLuck_18 : decode M_X11_rightLuck.2.1 18 = .ok (.goto 4, 3) := by decide +kernel
theorem d_X11_rightLuck_21 : decode M_X11_rightLuck.2.1 21 = .ok (.iconst 0, 1) := by decide +kernel
theorem d_X11_rightLuck_22 : decode M_X11_rightLuck.2.1 22 = .ok (.ireturn, 1) := by decide +kernel
set_option maxRecDepth 20000 in
theorem s_X11_rightLuck_0 {d : Nat} {p0 : Int} {G : Mem} {Q : Int → Mem → Prop}  (h : (InR p0) ∧ ((p0 < 0) → Q 0 G) ∧ (¬ (p0 < 0) → ∀ b3 : Int, b3 = (G 0 13) → (Bs 1 b3 ∧ (InR (shlI 1 (G b3 6))) ∧ (((shlI 1 (G b3 6)) ≤ p0) → Q 0 G) ∧ (¬ ((shlI 1 (G b3 6)) ≤ p0) → Q 1 G)))) : Rn d M_X11_rightLuck zN 0 [(0, (2, 0)), (1, (0, p0))] [] G Q := by
  refine r_iload_n d_X11_rightLuck_0 1 rfl rfl ?_
  obtain ⟨h1, h⟩ := h
  refine r_if_lt (tgt := 21) d_X11_rightLuck_1 (by decide) h1 (fun c2 => ?_) (fun c2 => ?_)
  · replace h := h.1 c2
    refine r_iconst d_X11_rightLuck_21 ?_
    exact r_zreturn d_X11_rightLuck_22 rfl ⟨rfl, Nat.le_refl _, Nat.le_refl _⟩ (by decide) h
  · replace h := h.2 c2
    refine r_iload_n d_X11_rightLuck_4 1 rfl rfl ?_
    refine r_iconst d_X11_rightLuck_5 ?_
    refine r_aload_n d_X11_rightLuck_6 0 rfl rfl ?_
    obtain ⟨b3, e5⟩ : ∃ y : Int, y = (G 0 13) := ⟨_, rfl⟩
    replace h := h b3 e5
    obtain ⟨h4, h⟩ := h
    refine r_getM 11 13 13 rfl d_X11_rightLuck_7 fl_X11_54 (by decide) (bs_ob bs_11) e5.symm (bs_nn h4) ?_
    refine r_getI 1 6 6 rfl d_X11_rightLuck_10 fl_X11_165 (by decide) (bs_ob h4) ?_
    refine r_ishl d_X11_rightLuck_13 ?_
    obtain ⟨h6, h⟩ := h
    refine r_icmp_ge (tgt := 21) d_X11_rightLuck_14 (by decide) h1 h6 (fun c7 => ?_) (fun c7 => ?_)
    · replace h := h.1 c7
      refine r_iconst d_X11_rightLuck_21 ?_
      exact r_zreturn d_X11_rightLuck_22 rfl ⟨rfl, Nat.le_refl _, Nat.le_refl _⟩ (by decide) h
    · replace h := h.2 c7
      refine r_iconst d_X11_rightLuck_17 ?_
      refine r_goto (tgt := 22) d_X11_rightLuck_18 (by decide) ?_
      exact r_zreturn d_X11_rightLuck_22 rfl ⟨rfl, Nat.le_refl _, Nat.le_refl _⟩ (by decide) h
theorem d_X11_keepPast_0 : decode M_X11_keepPast.2.1 0 = .ok (.aload_n 0, 1) := by decide +kernel
theorem d_X11_keepPast_1 : decode M_X11_keepPast.2.1 1 = .ok (.getfield 75, 3) := by decide +kernel
theorem d_X11_keepPast_4 : decode M_X11_keepPast.2.1 4 = .ok (.aload_n 0, 1) := by decide +kernel
theorem d_X11_keepPast_5 : decode M_X11_keepPast.2.1 5 = .ok (.getfield 203, 3) := by decide +kernel
theorem d_X11_keepPast_8 : decode M_X11_keepPast.2.1 8 = .ok (.aaload, 1) := by decide +kernel
theorem d_X11_keepPast_9 : decode M_X11_keepPast.2.1 9 = .ok (.aload_n 0, 1) := by decide +kernel
theorem d_X11_keepPast_10 : decode M_X11_keepPast.2.1 10 = .ok (.getfield 64, 3) := by decide +kernel
theorem d_X11_keepPast_13 : decode M_X11_keepPast.2.1 13 = .ok (.invokevirtual 206, 3) := by decide +kernel
theorem d_X11_keepPast_16 : decode M_X11_keepPast.2.1 16 = .ok (.aload_n 0, 1) := by decide +kernel
theorem d_X11_keepPast_17 : decode M_X11_keepPast.2.1 17 = .ok (.aload_n 0, 1) := by decide +kernel
theorem d_X11_keepPast_18 : decode M_X11_keepPast.2.1 18 = .ok (.getfield 203, 3) := by decide +kernel
theorem d_X11_keepPast_21 : decode M_X11_keepPast.2.1 21 = .ok (.iconst 1, 1) := by decide +kernel
theorem d_X11_keepPast_22 : decode M_X11_keepPast.2.1 22 = .ok (.iadd, 1) := by decide +kernel
theorem d_X11_keepPast_23 : decode M_X11_keepPast.2.1 23 = .ok (.bipush 12, 2) := by decide +kernel
theorem d_X11_keepPast_25 : decode M_X11_keepPast.2.1 25 = .ok (.irem, 1) := by decide +kernel
theorem d_X11_keepPast_26 : decode M_X11_keepPast.2.1 26 = .ok (.putfield 203, 3) := by decide +kernel
theorem d_X11_keepPast_29 : decode M_X11_keepPast.2.1 29 = .ok (.aload_n 0, 1) := by decide +kernel
theorem d_X11_keepPast_30 : decode M_X11_keepPast.2.1 30 = .ok (.aload_n 0, 1) := by decide +kernel
theorem d_X11_keepPast_31 : decode M_X11_keepPast.2.1 31 = .ok (.getfield 200, 3) := by decide +kernel
theorem d_X11_keepPast_34 : decode M_X11_keepPast.2.1 34 = .ok (.iconst 1, 1) := by decide +kernel
theorem d_X11_keepPast_35 : decode M_X11_keepPast.2.1 35 = .ok (.iadd, 1) := by decide +kernel
theorem d_X11_keepPast_36 : decode M_X11_keepPast.2.1 36 = .ok (.bipush 12, 2) := by decide +kernel
theorem d_X11_keepPast_38 : decode M_X11_keepPast.2.1 38 = .ok (.invokestatic 388, 3) := by decide +kernel
theorem d_X11_keepPast_41 : decode M_X11_keepPast.2.1 41 = .ok (.putfield 200, 3) := by decide +kernel
theorem d_X11_keepPast_44 : decode M_X11_keepPast.2.1 44 = .ok (.return_, 1) := by decide +kernel
set_option maxRecDepth 20000 in
theorem s_X11_keepPast_0 {d : Nat}  {G : Mem} {Q : Int → Mem → Prop}  (h : (0 ≤ (G 0 15) ∧ (G 0 15) < 12) ∧ (Ct d M_X8_take NT 0 0 (some lay) [(2, (87 + 8 * (G 0 15))), (2, 73)] G (fun r3 G2 => (InR ((G2 0 15) + 1)) ∧ ((∀ G5 : Mem, G5 = st G2 0 15 (Int.tmod ((G2 0 15) + 1) 12) → (InR ((G5 0 16) + 1)) ∧ ((∀ G7 : Mem, G7 = st G5 0 16 (min ((G5 0 16) + 1) 12) → Q 0 G7))))))) : Rn (d + 1) M_X11_keepPast zN 0 [(0, (2, 0))] [] G Q := by
  refine r_aload_n d_X11_keepPast_0 0 rfl rfl ?_
  refine r_getL (v := 86) 11 6 6 rfl d_X11_keepPast_1 fl_X11_75 (by decide) (bs_ob bs_11) (ly_11_6 bs_11).1 (ly_11_6 bs_11).2.1 ?_
  refine r_aload_n d_X11_keepPast_4 0 rfl rfl ?_
  refine r_getI 11 15 15 rfl d_X11_keepPast_5 fl_X11_203 (by decide) (bs_ob bs_11) ?_
  obtain ⟨h1, h⟩ := h
  refine r_aaloadL (v := (87 + 8 * (G 0 15))) d_X11_keepPast_8 (ly_11_6 bs_11).2.2 (by decide) rfl h1 (el_11_6 bs_11 h1.1 h1.2).1 (el_11_6 bs_11 h1.1 h1.2).2.1 ?_
  refine r_aload_n d_X11_keepPast_9 0 rfl rfl ?_
  refine r_getL (v := 73) 11 11 11 rfl d_X11_keepPast_10 fl_X11_64 (by decide) (bs_ob bs_11) (ly_11_11 bs_11).1 (ly_11_11 bs_11).2.1 ?_
  refine r_callV0 (M' := M_X8_take) (ci := 8) [(2, 73)] d_X11_keepPast_13 cl_X11_206 rfl (Nat.le_of_ble_eq_true rfl) (by decide) rfl (bs_ob (el_11_6 bs_11 h1.1 h1.2).2.2) ?_
  refine Ct.mono h (fun r3 G2 h => ?_)
  show Rn _ M_X11_keepPast zN 16 [(0, (2, 0))] [] G2 Q
  refine r_aload_n d_X11_keepPast_16 0 rfl rfl ?_
  refine r_aload_n d_X11_keepPast_17 0 rfl rfl ?_
  refine r_getI 11 15 15 rfl d_X11_keepPast_18 fl_X11_203 (by decide) (bs_ob bs_11) ?_
  refine r_iconst d_X11_keepPast_21 ?_
  refine r_iadd d_X11_keepPast_22 ?_
  refine r_bipush d_X11_keepPast_23 (by decide +kernel) ?_
  obtain ⟨h4, h⟩ := h
  refine r_irem d_X11_keepPast_25 h4 ⟨by decide, ⟨by decide, by decide⟩⟩ ?_
  obtain ⟨G5, eG5⟩ : ∃ y : Mem, y = st G2 0 15 (Int.tmod ((G2 0 15) + 1) 12) := ⟨_, rfl⟩
  replace h := h G5 eG5
  refine r_putI 11 15 15 rfl d_X11_keepPast_26 fl_X11_203 (by decide) nofin_11_15 (bs_ob bs_11) ?_
  rw [← eG5]
  refine r_aload_n d_X11_keepPast_29 0 rfl rfl ?_
  refine r_aload_n d_X11_keepPast_30 0 rfl rfl ?_
  refine r_getI 11 16 16 rfl d_X11_keepPast_31 fl_X11_200 (by decide) (bs_ob bs_11) ?_
  refine r_iconst d_X11_keepPast_34 ?_
  refine r_iadd d_X11_keepPast_35 ?_
  refine r_bipush d_X11_keepPast_36 (by decide +kernel) ?_
  obtain ⟨h6, h⟩ := h
  refine r_mmin d_X11_keepPast_38 ml_X11_388 h6 ⟨by decide, by decide⟩ (Nat.le_of_ble_eq_true rfl) ?_
  obtain ⟨G7, eG7⟩ : ∃ y : Mem, y = st G5 0 16 (min ((G5 0 16) + 1) 12) := ⟨_, rfl⟩
  replace h := h G7 eG7
  refine r_putI 11 16 16 rfl d_X11_keepPast_41 fl_X11_200 (by decide) nofin_11_16 (bs_ob bs_11) ?_
  rw [← eG7]
  exact r_ret d_X11_keepPast_44 rfl ⟨rfl, Nat.le_refl _, Nat.le_refl _⟩ h
theorem d_X11_forgetPast_0 : decode M_X11_forgetPast.2.1 0 = .ok (.aload_n 0, 1) := by decide +kernel
theorem d_X11_forgetPast_1 : decode M_X11_forgetPast.2.1 1 = .ok (.iconst 0, 1) := by decide +kernel
theorem d_X11_forgetPast_2 : decode M_X11_forgetPast.2.1 2 = .ok (.putfield 200, 3) := by decide +kernel
theorem d_X11_forgetPast_5 : decode M_X11_forgetPast.2.1 5 = .ok (.return_, 1) := by decide +kernel
set_option maxRecDepth 20000 in
theorem s_X11_forgetPast_0 {d : Nat}  {G : Mem} {Q : Int → Mem → Prop}  (h : (∀ G1 : Mem, G1 = st G 0 16 0 → Q 0 G1)) : Rn d M_X11_forgetPast zN 0 [(0, (2, 0))] [] G Q := by
  refine r_aload_n d_X11_forgetPast_0 0 rfl rfl ?_
  refine r_iconst d_X11_forgetPast_1 ?_
  obtain ⟨G1, eG1⟩ : ∃ y : Mem, y = st G 0 16 0 := ⟨_, rfl⟩
  replace h := h G1 eG1
  refine r_putI 11 16 16 rfl d_X11_forgetPast_2 fl_X11_200 (by decide) nofin_11_16 (bs_ob bs_11) ?_
  rw [← eG1]
  exact r_ret d_X11_forgetPast_5 rfl ⟨rfl, Nat.le_refl _, Nat.le_refl _⟩ h
theorem d_X11_passOut_0 : decode M_X11_passOut.2.1 0 = .ok (.aload_n 0, 1) := by decide +kernel
theorem d_X11_passOut_1 : decode M_X11_passOut.2.1 1 = .ok (.getfield 54, 3) := by decide +kernel
theorem d_X11_passOut_4 : decode M_X11_passOut.2.1 4 = .ok (.getfield 123, 3) := by decide +kernel
theorem d_X11_passOut_7 : decode M_X11_passOut.2.1 7 = .ok (.iload_n 1, 1) := by decide +kernel
theorem d_X11_passOut_8 : decode M_X11_passOut.2.1 8 = .ok (.aaload, 1) := by decide +kernel
theorem d_X11_passOut_9 : decode M_X11_passOut.2.1 9 = .ok (.getfield 132, 3) := by decide +kernel
theorem d_X11_passOut_12 : decode M_X11_passOut.2.1 12 = .ok (.iconst 1, 1) := by decide +kernel
theorem d_X11_passOut_13 : decode M_X11_passOut.2.1 13 = .ok (.iadd, 1) := by decide +kernel
theorem d_X11_passOut_14 : decode M_X11_passOut.2.1 14 = .ok (.istore 4, 2) := by decide +kernel
theorem d_X11_passOut_16 : decode M_X11_passOut.2.1 16 = .ok (.iload 4, 2) := by decide +kernel
theorem d_X11_passOut_18 : decode M_X11_passOut.2.1 18 = .ok (.aload_n 0, 1) := by decide +kernel
theorem d_X11_passOut_19 : decode M_X11_passOut.2.1 19 = .ok (.getfield 54, 3) := by decide +kernel
theorem d_X11_passOut_22 : decode M_X11_passOut.2.1 22 = .ok (.getfield 165, 3) := by decide +kernel
theorem d_X11_passOut_25 : decode M_X11_passOut.2.1 25 = .ok (.if_icmp .ge 22, 3) := by decide +kernel
theorem d_X11_passOut_28 : decode M_X11_passOut.2.1 28 = .ok (.aload_n 0, 1) := by decide +kernel
theorem d_X11_passOut_29 : decode M_X11_passOut.2.1 29 = .ok (.iload 4, 2) := by decide +kernel
theorem d_X11_passOut_31 : decode M_X11_passOut.2.1 31 = .ok (.iload_n 2, 1) := by decide +kernel
theorem d_X11_passOut_32 : decode M_X11_passOut.2.1 32 = .ok (.iload_n 3, 1) := by decide +kernel
theorem d_X11_passOut_33 : decode M_X11_passOut.2.1 33 = .ok (.invokevirtual 394, 3) := by decide +kernel
theorem d_X11_passOut_36 : decode M_X11_passOut.2.1 36 = .ok (.ifCond .ne 5, 3) := by decide +kernel
theorem d_X11_passOut_39 : decode M_X11_passOut.2.1 39 = .ok (.iconst 0, 1) := by decide +kernel
theorem d_X11_passOut_40 : decode M_X11_passOut.2.1 40 = .ok (.ireturn, 1) := by decide +kernel
theorem d_X11_passOut_41 : decode M_X11_passOut.2.1 41 = .ok (.iinc 4 1, 3) := by decide +kernel
theorem d_X11_passOut_44 : decode M_X11_passOut.2.1 44 = .ok (.goto (-28), 3) := by decide +kernel
theorem d_X11_passOut_47 : decode M_X11_passOut.2.1 47 = .ok (.iconst 1, 1) := by decide +kernel
theorem d_X11_passOut_48 : decode M_X11_passOut.2.1 48 = .ok (.ireturn, 1) := by decide +kernel
set_option maxRecDepth 20000 in
theorem s_X11_passOut_0 {d : Nat} {p0 : Int} {p1 : Int} {p2 : Int} {G : Mem} {Q : Int → Mem → Prop}  (h : ∀ b1 : Int, b1 = (G 0 13) → (Bs 1 b1 ∧ (0 ≤ p0 ∧ p0 < 5) ∧ (Rn d M_X11_passOut zN 16 [(0, (2, 0)), (2, (0, p1)), (3, (0, p2)), (4, (0, ((G ((b1 + 13) + p0) 1) + 1)))] [] G Q))) : Rn d M_X11_passOut zN 0 [(0, (2, 0)), (1, (0, p0)), (2, (0, p1)), (3, (0, p2))] [] G Q := by
  refine r_aload_n d_X11_passOut_0 0 rfl rfl ?_
  obtain ⟨b1, e3⟩ : ∃ y : Int, y = (G 0 13) := ⟨_, rfl⟩
  replace h := h b1 e3
  obtain ⟨h2, h⟩ := h
  refine r_getM 11 13 13 rfl d_X11_passOut_1 fl_X11_54 (by decide) (bs_ob bs_11) e3.symm (bs_nn h2) ?_
  refine r_getL (v := (b1 + 1)) 1 0 0 rfl d_X11_passOut_4 fl_X11_123 (by decide) (bs_ob h2) (ly_1_0 h2).1 (ly_1_0 h2).2.1 ?_
  refine r_iload_n d_X11_passOut_7 1 rfl rfl ?_
  obtain ⟨h4, h⟩ := h
  refine r_aaloadL (v := ((b1 + 13) + p0)) d_X11_passOut_8 (ly_1_0 h2).2.2 (by decide) rfl h4 (el_1_0 h2 h4.1 h4.2).1 (el_1_0 h2 h4.1 h4.2).2.1 ?_
  refine r_getI 7 1 1 rfl d_X11_passOut_9 fl_X11_132 (by decide) (bs_ob (el_1_0 h2 h4.1 h4.2).2.2) ?_
  refine r_iconst d_X11_passOut_12 ?_
  refine r_iadd d_X11_passOut_13 ?_
  refine r_istore (ls1 := [(4, (0, ((G ((b1 + 13) + p0) 1) + 1))), (0, (2, 0)), (1, (0, p0)), (2, (0, p1)), (3, (0, p2))]) d_X11_passOut_14 (by decide) rfl ?_
  exact Rn.sub [1, 3, 4, 0] rfl h
set_option maxRecDepth 20000 in
theorem s_X11_passOut_16 {d : Nat} {x2 : Int} {x3 : Int} {x4 : Int} {G : Mem} {Q : Int → Mem → Prop}  (h : ∀ b1 : Int, b1 = (G 0 13) → (Bs 1 b1 ∧ (InR x4) ∧ (InR (G b1 6)) ∧ (((G b1 6) ≤ x4) → Q 1 G) ∧ (¬ ((G b1 6) ≤ x4) → Ct d M_X11_passSeat NT 0 0 (some lay) [(2, 0), (0, x4), (0, x2), (0, x3)] G (fun r8 G7 => (InR r8) ∧ ((r8 ≠ 0) → Rn (d + 1) M_X11_passOut zN 16 [(0, (2, 0)), (2, (0, x2)), (3, (0, x3)), (4, (0, (x4 + 1)))] [] G7 Q) ∧ (¬ (r8 ≠ 0) → Q 0 G7))))) : Rn (d + 1) M_X11_passOut zN 16 [(0, (2, 0)), (2, (0, x2)), (3, (0, x3)), (4, (0, x4))] [] G Q := by
  refine r_iload d_X11_passOut_16 3 rfl ?_
  refine r_aload_n d_X11_passOut_18 0 rfl rfl ?_
  obtain ⟨b1, e3⟩ : ∃ y : Int, y = (G 0 13) := ⟨_, rfl⟩
  replace h := h b1 e3
  obtain ⟨h2, h⟩ := h
  refine r_getM 11 13 13 rfl d_X11_passOut_19 fl_X11_54 (by decide) (bs_ob bs_11) e3.symm (bs_nn h2) ?_
  refine r_getI 1 6 6 rfl d_X11_passOut_22 fl_X11_165 (by decide) (bs_ob h2) ?_
  obtain ⟨h4, h⟩ := h
  obtain ⟨h5, h⟩ := h
  refine r_icmp_ge (tgt := 47) d_X11_passOut_25 (by decide) h4 h5 (fun c6 => ?_) (fun c6 => ?_)
  · replace h := h.1 c6
    refine r_iconst d_X11_passOut_47 ?_
    exact r_zreturn d_X11_passOut_48 rfl ⟨rfl, Nat.le_refl _, Nat.le_refl _⟩ (by decide) h
  · replace h := h.2 c6
    refine r_aload_n d_X11_passOut_28 0 rfl rfl ?_
    refine r_iload d_X11_passOut_29 3 rfl ?_
    refine r_iload_n d_X11_passOut_31 1 rfl rfl ?_
    refine r_iload_n d_X11_passOut_32 2 rfl rfl ?_
    refine r_callV0 (M' := M_X11_passSeat) (ci := 11) [(0, x4), (0, x2), (0, x3)] d_X11_passOut_33 cl_X11_394 rfl (Nat.le_of_ble_eq_true rfl) (by decide) rfl (bs_ob bs_11) ?_
    refine Ct.mono h (fun r8 G7 h => ?_)
    show Rn _ M_X11_passOut zN 36 [(0, (2, 0)), (2, (0, x2)), (3, (0, x3)), (4, (0, x4))] [(0, r8)] G7 Q
    obtain ⟨h9, h⟩ := h
    refine r_if_ne (tgt := 41) d_X11_passOut_36 (by decide) h9 (fun c10 => ?_) (fun c10 => ?_)
    · replace h := h.1 c10
      refine r_iinc (ls1 := [(4, (0, (x4 + 1))), (0, (2, 0)), (2, (0, x2)), (3, (0, x3))]) d_X11_passOut_41 3 rfl (by decide) rfl ?_
      refine r_goto (tgt := 16) d_X11_passOut_44 (by decide) ?_
      exact Rn.sub [1, 2, 3, 0] rfl h
    · replace h := h.2 c10
      refine r_iconst d_X11_passOut_39 ?_
      exact r_zreturn d_X11_passOut_40 rfl ⟨rfl, Nat.le_refl _, Nat.le_refl _⟩ (by decide) h
theorem d_X11_passIn_0 : decode M_X11_passIn.2.1 0 = .ok (.aload_n 0, 1) := by decide +kernel
theorem d_X11_passIn_1 : decode M_X11_passIn.2.1 1 = .ok (.getfield 54, 3) := by decide +kernel
theorem d_X11_passIn_4 : decode M_X11_passIn.2.1 4 = .ok (.getfield 165, 3) := by decide +kernel
theorem d_X11_passIn_7 : decode M_X11_passIn.2.1 7 = .ok (.iconst 1, 1) := by decide +kernel
theorem d_X11_passIn_8 : decode M_X11_passIn.2.1 8 = .ok (.isub, 1) := by decide +kernel
theorem d_X11_passIn_9 : decode M_X11_passIn.2.1 9 = .ok (.istore 4, 2) := by decide +kernel
theorem d_X11_passIn_11 : decode M_X11_passIn.2.1 11 = .ok (.iload 4, 2) := by decide +kernel
theorem d_X11_passIn_13 : decode M_X11_passIn.2.1 13 = .ok (.aload_n 0, 1) := by decide +kernel
theorem d_X11_passIn_14 : decode M_X11_passIn.2.1 14 = .ok (.getfield 54, 3) := by decide +kernel
theorem d_X11_passIn_17 : decode M_X11_passIn.2.1 17 = .ok (.getfield 123, 3) := by decide +kernel
theorem d_X11_passIn_20 : decode M_X11_passIn.2.1 20 = .ok (.iload_n 1, 1) := by decide +kernel
theorem d_X11_passIn_21 : decode M_X11_passIn.2.1 21 = .ok (.aaload, 1) := by decide +kernel
theorem d_X11_passIn_22 : decode M_X11_passIn.2.1 22 = .ok (.getfield 132, 3) := by decide +kernel
theorem d_X11_passIn_25 : decode M_X11_passIn.2.1 25 = .ok (.if_icmp .le 22, 3) := by decide +kernel
theorem d_X11_passIn_28 : decode M_X11_passIn.2.1 28 = .ok (.aload_n 0, 1) := by decide +kernel
theorem d_X11_passIn_29 : decode M_X11_passIn.2.1 29 = .ok (.iload 4, 2) := by decide +kernel
theorem d_X11_passIn_31 : decode M_X11_passIn.2.1 31 = .ok (.iload_n 2, 1) := by decide +kernel
theorem d_X11_passIn_32 : decode M_X11_passIn.2.1 32 = .ok (.iload_n 3, 1) := by decide +kernel
theorem d_X11_passIn_33 : decode M_X11_passIn.2.1 33 = .ok (.invokevirtual 394, 3) := by decide +kernel
theorem d_X11_passIn_36 : decode M_X11_passIn.2.1 36 = .ok (.ifCond .ne 5, 3) := by decide +kernel
theorem d_X11_passIn_39 : decode M_X11_passIn.2.1 39 = .ok (.iconst 0, 1) := by decide +kernel
theorem d_X11_passIn_40 : decode M_X11_passIn.2.1 40 = .ok (.ireturn, 1) := by decide +kernel
theorem d_X11_passIn_41 : decode M_X11_passIn.2.1 41 = .ok (.iinc 4 (-1), 3) := by decide +kernel
theorem d_X11_passIn_44 : decode M_X11_passIn.2.1 44 = .ok (.goto (-33), 3) := by decide +kernel
theorem d_X11_passIn_47 : decode M_X11_passIn.2.1 47 = .ok (.iconst 1, 1) := by decide +kernel
theorem d_X11_passIn_48 : decode M_X11_passIn.2.1 48 = .ok (.ireturn, 1) := by decide +kernel
set_option maxRecDepth 20000 in
theorem s_X11_passIn_0 {d : Nat} {p0 : Int} {p1 : Int} {p2 : Int} {G : Mem} {Q : Int → Mem → Prop}  (h : ∀ b1 : Int, b1 = (G 0 13) → (Bs 1 b1 ∧ Rn d M_X11_passIn zN 11 [(0, (2, 0)), (1, (0, p0)), (2, (0, p1)), (3, (0, p2)), (4, (0, ((G b1 6) - 1)))] [] G Q)) : Rn d M_X11_passIn zN 0 [(0, (2, 0)), (1, (0, p0)), (2, (0, p1)), (3, (0, p2))] [] G Q := by
  refine r_aload_n d_X11_passIn_0 0 rfl rfl ?_
  obtain ⟨b1, e3⟩ : ∃ y : Int, y = (G 0 13) := ⟨_, rfl⟩
  replace h := h b1 e3
  obtain ⟨h2, h⟩ := h
  refine r_getM 11 13 13 rfl d_X11_passIn_1 fl_X11_54 (by decide) (bs_ob bs_11) e3.symm (bs_nn h2) ?_
  refine r_getI 1 6 6 rfl d_X11_passIn_4 fl_X11_165 (by decide) (bs_ob h2) ?_
  refine r_iconst d_X11_passIn_7 ?_
  refine r_isub d_X11_passIn_8 ?_
  refine r_istore (ls1 := [(4, (0, ((G b1 6) - 1))), (0, (2, 0)), (1, (0, p0)), (2, (0, p1)), (3, (0, p2))]) d_X11_passIn_9 (by decide) rfl ?_
  exact Rn.sub [1, 2, 3, 4, 0] rfl h
set_option maxRecDepth 20000 in
theorem s_X11_passIn_11 {d : Nat} {x1 : Int} {x2 : Int} {x3 : Int} {x4 : Int} {G : Mem} {Q : Int → Mem → Prop}  (h : ∀ b1 : Int, b1 = (G 0 13) → (Bs 1 b1 ∧ (0 ≤ x1 ∧ x1 < 5) ∧ ((InR x4) ∧ (InR (G ((b1 + 13) + x1) 1)) ∧ ((x4 ≤ (G ((b1 + 13) + x1) 1)) → Q 1 G) ∧ (¬ (x4 ≤ (G ((b1 + 13) + x1) 1)) → Ct d M_X11_passSeat NT 0 0 (some lay) [(2, 0), (0, x4), (0, x2), (0, x3)] G (fun r9 G8 => (InR r9) ∧ ((r9 ≠ 0) → Rn (d + 1) M_X11_passIn zN 11 [(0, (2, 0)), (1, (0, x1)), (2, (0, x2)), (3, (0, x3)), (4, (0, (x4 + (-1))))] [] G8 Q) ∧ (¬ (r9 ≠ 0) → Q 0 G8)))))) : Rn (d + 1) M_X11_passIn zN 11 [(0, (2, 0)), (1, (0, x1)), (2, (0, x2)), (3, (0, x3)), (4, (0, x4))] [] G Q := by
  refine r_iload d_X11_passIn_11 4 rfl ?_
  refine r_aload_n d_X11_passIn_13 0 rfl rfl ?_
  obtain ⟨b1, e3⟩ : ∃ y : Int, y = (G 0 13) := ⟨_, rfl⟩
  replace h := h b1 e3
  obtain ⟨h2, h⟩ := h
  refine r_getM 11 13 13 rfl d_X11_passIn_14 fl_X11_54 (by decide) (bs_ob bs_11) e3.symm (bs_nn h2) ?_
  refine r_getL (v := (b1 + 1)) 1 0 0 rfl d_X11_passIn_17 fl_X11_123 (by decide) (bs_ob h2) (ly_1_0 h2).1 (ly_1_0 h2).2.1 ?_
  refine r_iload_n d_X11_passIn_20 1 rfl rfl ?_
  obtain ⟨h4, h⟩ := h
  refine r_aaloadL (v := ((b1 + 13) + x1)) d_X11_passIn_21 (ly_1_0 h2).2.2 (by decide) rfl h4 (el_1_0 h2 h4.1 h4.2).1 (el_1_0 h2 h4.1 h4.2).2.1 ?_
  refine r_getI 7 1 1 rfl d_X11_passIn_22 fl_X11_132 (by decide) (bs_ob (el_1_0 h2 h4.1 h4.2).2.2) ?_
  obtain ⟨h5, h⟩ := h
  obtain ⟨h6, h⟩ := h
  refine r_icmp_le (tgt := 47) d_X11_passIn_25 (by decide) h5 h6 (fun c7 => ?_) (fun c7 => ?_)
  · replace h := h.1 c7
    refine r_iconst d_X11_passIn_47 ?_
    exact r_zreturn d_X11_passIn_48 rfl ⟨rfl, Nat.le_refl _, Nat.le_refl _⟩ (by decide) h
  · replace h := h.2 c7
    refine r_aload_n d_X11_passIn_28 0 rfl rfl ?_
    refine r_iload d_X11_passIn_29 4 rfl ?_
    refine r_iload_n d_X11_passIn_31 2 rfl rfl ?_
    refine r_iload_n d_X11_passIn_32 3 rfl rfl ?_
    refine r_callV0 (M' := M_X11_passSeat) (ci := 11) [(0, x4), (0, x2), (0, x3)] d_X11_passIn_33 cl_X11_394 rfl (Nat.le_of_ble_eq_true rfl) (by decide) rfl (bs_ob bs_11) ?_
    refine Ct.mono h (fun r9 G8 h => ?_)
    show Rn _ M_X11_passIn zN 36 [(0, (2, 0)), (1, (0, x1)), (2, (0, x2)), (3, (0, x3)), (4, (0, x4))] [(0, r9)] G8 Q
    obtain ⟨h10, h⟩ := h
    refine r_if_ne (tgt := 41) d_X11_passIn_36 (by decide) h10 (fun c11 => ?_) (fun c11 => ?_)
    · replace h := h.1 c11
      refine r_iinc (ls1 := [(4, (0, (x4 + (-1)))), (0, (2, 0)), (1, (0, x1)), (2, (0, x2)), (3, (0, x3))]) d_X11_passIn_41 4 rfl (by decide) rfl ?_
      refine r_goto (tgt := 11) d_X11_passIn_44 (by decide) ?_
      exact Rn.sub [1, 2, 3, 4, 0] rfl h
    · replace h := h.2 c11
      refine r_iconst d_X11_passIn_39 ?_
      exact r_zreturn d_X11_passIn_40 rfl ⟨rfl, Nat.le_refl _, Nat.le_refl _⟩ (by decide) h
theorem d_X11_passSeat_0 : decode M_X11_passSeat.2.1 0 = .ok (.aload_n 0, 1) := by decide +kernel
theorem d_X11_passSeat_1 : decode M_X11_passSeat.2.1 1 = .ok (.getfield 54, 3) := by decide +kernel
theorem d_X11_passSeat_4 : decode M_X11_passSeat.2.1 4 = .ok (.getfield 168, 3) := by decide +kernel
theorem d_X11_passSeat_7 : decode M_X11_passSeat.2.1 7 = .ok (.iload_n 1, 1) := by decide +kernel
theorem d_X11_passSeat_8 : decode M_X11_passSeat.2.1 8 = .ok (.iaload, 1) := by decide +kernel
theorem d_X11_passSeat_9 : decode M_X11_passSeat.2.1 9 = .ok (.istore 4, 2) := by decide +kernel
theorem d_X11_passSeat_11 : decode M_X11_passSeat.2.1 11 = .ok (.aload_n 0, 1) := by decide +kernel
theorem d_X11_passSeat_12 : decode M_X11_passSeat.2.1 12 = .ok (.iload 4, 2) := by decide +kernel
theorem d_X11_passSeat_14 : decode M_X11_passSeat.2.1 14 = .ok (.invokevirtual 119, 3) := by decide +kernel
theorem d_X11_passSeat_17 : decode M_X11_passSeat.2.1 17 = .ok (.ifCond .eq 26, 3) := by decide +kernel
theorem d_X11_passSeat_20 : decode M_X11_passSeat.2.1 20 = .ok (.aload_n 0, 1) := by decide +kernel
theorem d_X11_passSeat_21 : decode M_X11_passSeat.2.1 21 = .ok (.getfield 64, 3) := by decide +kernel
theorem d_X11_passSeat_24 : decode M_X11_passSeat.2.1 24 = .ok (.aload_n 0, 1) := by decide +kernel
theorem d_X11_passSeat_25 : decode M_X11_passSeat.2.1 25 = .ok (.getfield 54, 3) := by decide +kernel
theorem d_X11_passSeat_28 : decode M_X11_passSeat.2.1 28 = .ok (.iload 4, 2) := by decide +kernel
theorem d_X11_passSeat_30 : decode M_X11_passSeat.2.1 30 = .ok (.aload_n 0, 1) := by decide +kernel
theorem d_X11_passSeat_31 : decode M_X11_passSeat.2.1 31 = .ok (.getfield 64, 3) := by decide +kernel
theorem d_X11_passSeat_34 : decode M_X11_passSeat.2.1 34 = .ok (.getfield 139, 3) := by decide +kernel
theorem d_X11_passSeat_37 : decode M_X11_passSeat.2.1 37 = .ok (.invokevirtual 142, 3) := by decide +kernel
theorem d_X11_passSeat_40 : decode M_X11_passSeat.2.1 40 = .ok (.ifCond .ne 5, 3) := by decide +kernel
theorem d_X11_passSeat_43 : decode M_X11_passSeat.2.1 43 = .ok (.iconst 1, 1) := by decide +kernel
theorem d_X11_passSeat_44 : decode M_X11_passSeat.2.1 44 = .ok (.ireturn, 1) := by decide +kernel
theorem d_X11_passSeat_45 : decode M_X11_passSeat.2.1 45 = .ok (.iload_n 3, 1) := by decide +kernel
theorem d_X11_passSeat_46 : decode M_X11_passSeat.2.1 46 = .ok (.iload_n 1, 1) := by decide +kernel
theorem d_X11_passSeat_47 : decode M_X11_passSeat.2.1 47 = .ok (.ishr, 1) := by decide +kernel
theorem d_X11_passSeat_48 : decode M_X11_passSeat.2.1 48 = .ok (.iconst 1, 1) := by decide +kernel
theorem d_X11_passSeat_49 : decode M_X11_passSeat.2.1 49 = .ok (.iand, 1) := by decide +kernel
theorem d_X11_passSeat_50 : decode M_X11_passSeat.2.1 50 = .ok (.iconst 1, 1) := by decide +kernel
theorem d_X11_passSeat_51 : decode M_X11_passSeat.2.1 51 = .ok (.if_icmp .ne 7, 3) := by decide +kernel
theorem d_X11_passSeat_54 : decode M_X11_passSeat.2.1 54 = .ok (.iconst 1, 1) := by decide +kernel
theorem d_X11_passSeat_55 : decode M_X11_passSeat.2.1 55 = .ok (.goto 4, 3) := by decide +kernel
theorem d_X11_passSeat_58 : decode M_X11_passSeat.2.1 58 = .ok (.iconst 0, 1) := by decide +kernel
theorem d_X11_passSeat_59 : decode M_X11_passSeat.2.1 59 = .ok (.istore 5, 2) := by decide +kernel
theorem d_X11_passSeat_61 : decode M_X11_passSeat.2.1 61 = .ok (.iload_n 2, 1) := by decide +kernel
theorem d_X11_passSeat_62 : decode M_X11_passSeat.2.1 62 = .ok (.iload_n 1, 1) := by decide +kernel
theorem d_X11_passSeat_63 : decode M_X11_passSeat.2.1 63 = .ok (.invokestatic 397, 3) := by decide +kernel
theorem d_X11_passSeat_66 : decode M_X11_passSeat.2.1 66 = .ok (.ifCond .ne 15, 3) := by decide +kernel
theorem d_X11_passSeat_69 : decode M_X11_passSeat.2.1 69 = .ok (.aload_n 0, 1) := by decide +kernel
theorem d_X11_passSeat_70 : decode M_X11_passSeat.2.1 70 = .ok (.getfield 64, 3) := by decide +kernel
theorem d_X11_passSeat_73 : decode M_X11_passSeat.2.1 73 = .ok (.iload 4, 2) := by decide +kernel
theorem d_X11_passSeat_75 : decode M_X11_passSeat.2.1 75 = .ok (.iload 5, 2) := by decide +kernel
theorem d_X11_passSeat_77 : decode M_X11_passSeat.2.1 77 = .ok (.invokevirtual 400, 3) := by decide +kernel
theorem d_X11_passSeat_80 : decode M_X11_passSeat.2.1 80 = .ok (.ireturn, 1) := by decide +kernel
theorem d_X11_passSeat_81 : decode M_X11_passSeat.2.1 81 = .ok (.iload 5, 2) := by decide +kernel
theorem d_X11_passSeat_83 : decode M_X11_passSeat.2.1 83 = .ok (.ifCond .ne 13, 3) := by decide +kernel
theorem d_X11_passSeat_86 : decode M_X11_passSeat.2.1 86 = .ok (.aload_n 0, 1) := by decide +kernel
theorem d_X11_passSeat_87 : decode M_X11_passSeat.2.1 87 = .ok (.getfield 64, 3) := by decide +kernel
theorem d_X11_passSeat_90 : decode M_X11_passSeat.2.1 90 = .ok (.iload 4, 2) := by decide +kernel
theorem d_X11_passSeat_92 : decode M_X11_passSeat.2.1 92 = .ok (.iload_n 1, 1) := by decide +kernel
theorem d_X11_passSeat_93 : decode M_X11_passSeat.2.1 93 = .ok (.invokevirtual 403, 3) := by decide +kernel
theorem d_X11_passSeat_96 : decode M_X11_passSeat.2.1 96 = .ok (.iconst 1, 1) := by decide +kernel
theorem d_X11_passSeat_97 : decode M_X11_passSeat.2.1 97 = .ok (.ireturn, 1) := by decide +kernel
set_option maxRecDepth 20000 in
theorem s_X11_passSeat_0 {d : Nat} {p0 : Int} {p1 : Int} {p2 : Int} {G : Mem} {Q : Int → Mem → Prop}  (h : ∀ b1 : Int, b1 = (G 0 13) → (Bs 1 b1 ∧ (0 ≤ p0 ∧ p0 < 5) ∧ (Ct d M_X11_known NT 0 0 (some lay) [(2, 0), (0, (G (b1 + 2) p0))] G (fun r6 G5 => (InR r6) ∧ ((r6 = 0) → Q 1 G5) ∧ (¬ (r6 = 0) → ∀ b9 : Int, b9 = (G5 0 13) → (Bs 1 b9 ∧ Ct d M_X8_asleep NT 0 0 (some lay) [(2, 73), (2, b9), (0, (G (b1 + 2) p0)), (0, (G5 73 7))] G5 (fun r13 G12 => (InR r13) ∧ ((r13 ≠ 0) → (InR (andI (shrI p2 p0) 1)) ∧ (((andI (shrI p2 p0) 1) ≠ 1) → Rn (d + 1) M_X11_passSeat zN 59 [(0, (2, 0)), (1, (0, p0)), (2, (0, p1)), (4, (0, (G (b1 + 2) p0)))] [(0, 0)] G12 Q) ∧ (¬ ((andI (shrI p2 p0) 1) ≠ 1) → Rn (d + 1) M_X11_passSeat zN 59 [(0, (2, 0)), (1, (0, p0)), (2, (0, p1)), (4, (0, (G (b1 + 2) p0)))] [(0, 1)] G12 Q)) ∧ (¬ (r13 ≠ 0) → Q 1 G12)))))))) : Rn (d + 1) M_X11_passSeat zN 0 [(0, (2, 0)), (1, (0, p0)), (2, (0, p1)), (3, (0, p2))] [] G Q := by
  refine r_aload_n d_X11_passSeat_0 0 rfl rfl ?_
  obtain ⟨b1, e3⟩ : ∃ y : Int, y = (G 0 13) := ⟨_, rfl⟩
  replace h := h b1 e3
  obtain ⟨h2, h⟩ := h
  refine r_getM 11 13 13 rfl d_X11_passSeat_1 fl_X11_54 (by decide) (bs_ob bs_11) e3.symm (bs_nn h2) ?_
  refine r_getL (v := (b1 + 2)) 1 1 1 rfl d_X11_passSeat_4 fl_X11_168 (by decide) (bs_ob h2) (ly_1_1 h2).1 (ly_1_1 h2).2.1 ?_
  refine r_iload_n d_X11_passSeat_7 1 rfl rfl ?_
  obtain ⟨h4, h⟩ := h
  refine r_iaload d_X11_passSeat_8 (ly_1_1 h2).2.2 h4 ?_
  refine r_istore (ls1 := [(4, (0, (G (b1 + 2) p0))), (0, (2, 0)), (1, (0, p0)), (2, (0, p1)), (3, (0, p2))]) d_X11_passSeat_9 (by decide) rfl ?_
  refine r_aload_n d_X11_passSeat_11 1 rfl rfl ?_
  refine r_iload d_X11_passSeat_12 0 rfl ?_
  refine r_callV0 (M' := M_X11_known) (ci := 11) [(0, (G (b1 + 2) p0))] d_X11_passSeat_14 cl_X11_119 rfl (Nat.le_of_ble_eq_true rfl) (by decide) rfl (bs_ob bs_11) ?_
  refine Ct.mono h (fun r6 G5 h => ?_)
  show Rn _ M_X11_passSeat zN 17 [(4, (0, (G (b1 + 2) p0))), (0, (2, 0)), (1, (0, p0)), (2, (0, p1)), (3, (0, p2))] [(0, r6)] G5 Q
  obtain ⟨h7, h⟩ := h
  refine r_if_eq (tgt := 43) d_X11_passSeat_17 (by decide) h7 (fun c8 => ?_) (fun c8 => ?_)
  · replace h := h.1 c8
    refine r_iconst d_X11_passSeat_43 ?_
    exact r_zreturn d_X11_passSeat_44 rfl ⟨rfl, Nat.le_refl _, Nat.le_refl _⟩ (by decide) h
  · replace h := h.2 c8
    refine r_aload_n d_X11_passSeat_20 1 rfl rfl ?_
    refine r_getL (v := 73) 11 11 11 rfl d_X11_passSeat_21 fl_X11_64 (by decide) (bs_ob bs_11) (ly_11_11 bs_11).1 (ly_11_11 bs_11).2.1 ?_
    refine r_aload_n d_X11_passSeat_24 1 rfl rfl ?_
    obtain ⟨b9, e11⟩ : ∃ y : Int, y = (G5 0 13) := ⟨_, rfl⟩
    replace h := h b9 e11
    obtain ⟨h10, h⟩ := h
    refine r_getM 11 13 13 rfl d_X11_passSeat_25 fl_X11_54 (by decide) (bs_ob bs_11) e11.symm (bs_nn h10) ?_
    refine r_iload d_X11_passSeat_28 0 rfl ?_
    refine r_aload_n d_X11_passSeat_30 1 rfl rfl ?_
    refine r_getL (v := 73) 11 11 11 rfl d_X11_passSeat_31 fl_X11_64 (by decide) (bs_ob bs_11) (ly_11_11 bs_11).1 (ly_11_11 bs_11).2.1 ?_
    refine r_getI 8 7 7 rfl d_X11_passSeat_34 fl_X11_139 (by decide) (bs_ob (ly_11_11 bs_11).2.2) ?_
    refine r_callV0 (M' := M_X8_asleep) (ci := 8) [(2, b9), (0, (G (b1 + 2) p0)), (0, (G5 73 7))] d_X11_passSeat_37 cl_X11_142 rfl (Nat.le_of_ble_eq_true rfl) (by decide) rfl (bs_ob (ly_11_11 bs_11).2.2) ?_
    refine Ct.mono h (fun r13 G12 h => ?_)
    show Rn _ M_X11_passSeat zN 40 [(4, (0, (G (b1 + 2) p0))), (0, (2, 0)), (1, (0, p0)), (2, (0, p1)), (3, (0, p2))] [(0, r13)] G12 Q
    obtain ⟨h14, h⟩ := h
    refine r_if_ne (tgt := 45) d_X11_passSeat_40 (by decide) h14 (fun c15 => ?_) (fun c15 => ?_)
    · replace h := h.1 c15
      refine r_iload_n d_X11_passSeat_45 4 rfl rfl ?_
      refine r_iload_n d_X11_passSeat_46 2 rfl rfl ?_
      refine r_ishr d_X11_passSeat_47 ?_
      refine r_iconst d_X11_passSeat_48 ?_
      refine r_iand d_X11_passSeat_49 ?_
      refine r_iconst d_X11_passSeat_50 ?_
      obtain ⟨h16, h⟩ := h
      refine r_icmp_ne (tgt := 58) d_X11_passSeat_51 (by decide) h16 ⟨by decide, by decide⟩ (fun c17 => ?_) (fun c17 => ?_)
      · replace h := h.1 c17
        refine r_iconst d_X11_passSeat_58 ?_
        exact Rn.sub [1, 2, 3, 0] rfl h
      · replace h := h.2 c17
        refine r_iconst d_X11_passSeat_54 ?_
        refine r_goto (tgt := 59) d_X11_passSeat_55 (by decide) ?_
        exact Rn.sub [1, 2, 3, 0] rfl h
    · replace h := h.2 c15
      refine r_iconst d_X11_passSeat_43 ?_
      exact r_zreturn d_X11_passSeat_44 rfl ⟨rfl, Nat.le_refl _, Nat.le_refl _⟩ (by decide) h
set_option maxRecDepth 20000 in
theorem s_X11_passSeat_59 {d : Nat} {x1 : Int} {x2 : Int} {x4 : Int} {s0 : Int} {G : Mem} {Q : Int → Mem → Prop}  (h : Ct d M_X0_wayAt NT 0 0 (some lay) [(0, x2), (0, x1)] G (fun r2 G1 => (InR r2) ∧ ((r2 ≠ 0) → (InR s0) ∧ ((s0 ≠ 0) → Q 1 G1) ∧ (¬ (s0 ≠ 0) → Ct d M_X8_spillOn NT 0 0 (some lay) [(2, 73), (0, x4), (0, x1)] G1 (fun r8 G7 => Q 1 G7))) ∧ (¬ (r2 ≠ 0) → Ct d M_X8_ask NT 0 0 (some lay) [(2, 73), (0, x4), (0, s0)] G1 (fun r10 G9 => (r10 = 0 ∨ r10 = 1) ∧ Q r10 G9)))) : Rn (d + 1) M_X11_passSeat zN 59 [(0, (2, 0)), (1, (0, x1)), (2, (0, x2)), (4, (0, x4))] [(0, s0)] G Q := by
  refine r_istore (ls1 := [(5, (0, s0)), (0, (2, 0)), (1, (0, x1)), (2, (0, x2)), (4, (0, x4))]) d_X11_passSeat_59 (by decide) rfl ?_
  refine r_iload_n d_X11_passSeat_61 3 rfl rfl ?_
  refine r_iload_n d_X11_passSeat_62 2 rfl rfl ?_
  refine r_callS0 (M' := M_X0_wayAt) [(0, x2), (0, x1)] d_X11_passSeat_63 cl_X11_397 rfl (Nat.le_of_ble_eq_true rfl) ?_
  refine Ct.mono h (fun r2 G1 h => ?_)
  show Rn _ M_X11_passSeat zN 66 [(5, (0, s0)), (0, (2, 0)), (1, (0, x1)), (2, (0, x2)), (4, (0, x4))] [(0, r2)] G1 Q
  obtain ⟨h3, h⟩ := h
  refine r_if_ne (tgt := 81) d_X11_passSeat_66 (by decide) h3 (fun c4 => ?_) (fun c4 => ?_)
  · replace h := h.1 c4
    refine r_iload d_X11_passSeat_81 0 rfl ?_
    obtain ⟨h5, h⟩ := h
    refine r_if_ne (tgt := 96) d_X11_passSeat_83 (by decide) h5 (fun c6 => ?_) (fun c6 => ?_)
    · replace h := h.1 c6
      refine r_iconst d_X11_passSeat_96 ?_
      exact r_zreturn d_X11_passSeat_97 rfl ⟨rfl, Nat.le_refl _, Nat.le_refl _⟩ (by decide) h
    · replace h := h.2 c6
      refine r_aload_n d_X11_passSeat_86 1 rfl rfl ?_
      refine r_getL (v := 73) 11 11 11 rfl d_X11_passSeat_87 fl_X11_64 (by decide) (bs_ob bs_11) (ly_11_11 bs_11).1 (ly_11_11 bs_11).2.1 ?_
      refine r_iload d_X11_passSeat_90 4 rfl ?_
      refine r_iload_n d_X11_passSeat_92 2 rfl rfl ?_
      refine r_callV0 (M' := M_X8_spillOn) (ci := 8) [(0, x4), (0, x1)] d_X11_passSeat_93 cl_X11_403 rfl (Nat.le_of_ble_eq_true rfl) (by decide) rfl (bs_ob (ly_11_11 bs_11).2.2) ?_
      refine Ct.mono h (fun r8 G7 h => ?_)
      show Rn _ M_X11_passSeat zN 96 [(5, (0, s0)), (0, (2, 0)), (1, (0, x1)), (2, (0, x2)), (4, (0, x4))] [] G7 Q
      refine r_iconst d_X11_passSeat_96 ?_
      exact r_zreturn d_X11_passSeat_97 rfl ⟨rfl, Nat.le_refl _, Nat.le_refl _⟩ (by decide) h
  · replace h := h.2 c4
    refine r_aload_n d_X11_passSeat_69 1 rfl rfl ?_
    refine r_getL (v := 73) 11 11 11 rfl d_X11_passSeat_70 fl_X11_64 (by decide) (bs_ob bs_11) (ly_11_11 bs_11).1 (ly_11_11 bs_11).2.1 ?_
    refine r_iload d_X11_passSeat_73 4 rfl ?_
    refine r_iload d_X11_passSeat_75 0 rfl ?_
    refine r_callV0 (M' := M_X8_ask) (ci := 8) [(0, x4), (0, s0)] d_X11_passSeat_77 cl_X11_400 rfl (Nat.le_of_ble_eq_true rfl) (by decide) rfl (bs_ob (ly_11_11 bs_11).2.2) ?_
    refine Ct.mono h (fun r10 G9 h => ?_)
    show Rn _ M_X11_passSeat zN 80 [(5, (0, s0)), (0, (2, 0)), (1, (0, x1)), (2, (0, x2)), (4, (0, x4))] [(0, r10)] G9 Q
    exact r_zreturn d_X11_passSeat_80 rfl ⟨rfl, Nat.le_refl _, Nat.le_refl _⟩ h.1 h.2
theorem d_X11_commonDivisor_0 : decode M_X11_commonDivisor.2.1 0 = .ok (.lload_n 0, 1) := by decide +kernel
theorem d_X11_commonDivisor_1 : decode M_X11_commonDivisor.2.1 1 = .ok (.lstore 4, 2) := by decide +kernel
theorem d_X11_commonDivisor_3 : decode M_X11_commonDivisor.2.1 3 = .ok (.lload_n 2, 1) := by decide +kernel
theorem d_X11_commonDivisor_4 : decode M_X11_commonDivisor.2.1 4 = .ok (.lstore 6, 2) := by decide +kernel
theorem d_X11_commonDivisor_6 : decode M_X11_commonDivisor.2.1 6 = .ok (.iconst 0, 1) := by decide +kernel
theorem d_X11_commonDivisor_7 : decode M_X11_commonDivisor.2.1 7 = .ok (.istore 8, 2) := by decide +kernel
theorem d_X11_commonDivisor_9 : decode M_X11_commonDivisor.2.1 9 = .ok (.iload 8, 2) := by decide +kernel
theorem d_X11_commonDivisor_11 : decode M_X11_commonDivisor.2.1 11 = .ok (.sipush 200, 3) := by decide +kernel
theorem d_X11_commonDivisor_14 : decode M_X11_commonDivisor.2.1 14 = .ok (.if_icmp .ge 31, 3) := by decide +kernel
theorem d_X11_commonDivisor_17 : decode M_X11_commonDivisor.2.1 17 = .ok (.lload 6, 2) := by decide +kernel
theorem d_X11_commonDivisor_19 : decode M_X11_commonDivisor.2.1 19 = .ok (.lconst 0, 1) := by decide +kernel
theorem d_X11_commonDivisor_20 : decode M_X11_commonDivisor.2.1 20 = .ok (.lcmp, 1) := by decide +kernel
theorem d_X11_commonDivisor_21 : decode M_X11_commonDivisor.2.1 21 = .ok (.ifCond .eq 24, 3) := by decide +kernel
theorem d_X11_commonDivisor_24 : decode M_X11_commonDivisor.2.1 24 = .ok (.lload 4, 2) := by decide +kernel
theorem d_X11_commonDivisor_26 : decode M_X11_commonDivisor.2.1 26 = .ok (.lload 6, 2) := by decide +kernel
theorem d_X11_commonDivisor_28 : decode M_X11_commonDivisor.2.1 28 = .ok (.lrem, 1) := by decide +kernel
theorem d_X11_commonDivisor_29 : decode M_X11_commonDivisor.2.1 29 = .ok (.lstore 9, 2) := by decide +kernel
theorem d_X11_commonDivisor_31 : decode M_X11_commonDivisor.2.1 31 = .ok (.lload 6, 2) := by decide +kernel
theorem d_X11_commonDivisor_33 : decode M_X11_commonDivisor.2.1 33 = .ok (.lstore 4, 2) := by decide +kernel
theorem d_X11_commonDivisor_35 : decode M_X11_commonDivisor.2.1 35 = .ok (.lload 9, 2) := by decide +kernel
theorem d_X11_commonDivisor_37 : decode M_X11_commonDivisor.2.1 37 = .ok (.lstore 6, 2) := by decide +kernel
theorem d_X11_commonDivisor_39 : decode M_X11_commonDivisor.2.1 39 = .ok (.iinc 8 1, 3) := by decide +kernel
theorem d_X11_commonDivisor_42 : decode M_X11_commonDivisor.2.1 42 = .ok (.goto (-33), 3) := by decide +kernel
theorem d_X11_commonDivisor_45 : decode M_X11_commonDivisor.2.1 45 = .ok (.lload 4, 2) := by decide +kernel
theorem d_X11_commonDivisor_47 : decode M_X11_commonDivisor.2.1 47 = .ok (.lconst 0, 1) := by decide +kernel
theorem d_X11_commonDivisor_48 : decode M_X11_commonDivisor.2.1 48 = .ok (.lcmp, 1) := by decide +kernel
theorem d_X11_commonDivisor_49 : decode M_X11_commonDivisor.2.1 49 = .ok (.ifCond .ne 7, 3) := by decide +kernel
theorem d_X11_commonDivisor_52 : decode M_X11_commonDivisor.2.1 52 = .ok (.lconst 1, 1) := by decide +kernel
theorem d_X11_commonDivisor_53 : decode M_X11_commonDivisor.2.1 53 = .ok (.goto 5, 3) := by decide +kernel
theorem d_X11_commonDivisor_56 : decode M_X11_commonDivisor.2.1 56 = .ok (.lload 4, 2) := by decide +kernel
theorem d_X11_commonDivisor_58 : decode M_X11_commonDivisor.2.1 58 = .ok (.lreturn, 1) := by decide +kernel
set_option maxRecDepth 20000 in
theorem s_X11_commonDivisor_0 {d : Nat} {p0 : Int} {p1 : Int} {G : Mem} {Q : Int → Mem → Prop}  (h : Rn d M_X11_commonDivisor zN 9 [(4, (1, p0)), (6, (1, p1)), (8, (0, 0))] [] G Q) : Rn d M_X11_commonDivisor zN 0 [(0, (1, p0)), (2, (1, p1))] [] G Q := by
  refine r_lload_n d_X11_commonDivisor_0 0 rfl rfl ?_
  refine r_lstore (ls1 := [(4, (1, p0)), (0, (1, p0)), (2, (1, p1))]) d_X11_commonDivisor_1 (by decide) rfl ?_
  refine r_lload_n d_X11_commonDivisor_3 2 rfl rfl ?_
  refine r_lstore (ls1 := [(6, (1, p1)), (4, (1, p0)), (0, (1, p0)), (2, (1, p1))]) d_X11_commonDivisor_4 (by decide) rfl ?_
  refine r_iconst d_X11_commonDivisor_6 ?_
  refine r_istore (ls1 := [(8, (0, 0)), (6, (1, p1)), (4, (1, p0)), (0, (1, p0)), (2, (1, p1))]) d_X11_commonDivisor_7 (by decide) rfl ?_
  exact Rn.sub [2, 1, 0] rfl h
set_option maxRecDepth 20000 in
theorem s_X11_commonDivisor_9 {d : Nat} {x4 : Int} {x6 : Int} {x8 : Int} {G : Mem} {Q : Int → Mem → Prop}  (h : (InR x8) ∧ ((200 ≤ x8) → Rn d M_X11_commonDivisor zN 45 [(4, (1, x4))] [] G Q) ∧ (¬ (200 ≤ x8) → (InL x6) ∧ ((x6 = 0) → Rn d M_X11_commonDivisor zN 45 [(4, (1, x4))] [] G Q) ∧ (¬ (x6 = 0) → (InL x4) ∧ (0 < x6 ∧ InL x6) ∧ (Rn d M_X11_commonDivisor zN 9 [(4, (1, x6)), (6, (1, (Int.tmod x4 x6))), (8, (0, (x8 + 1)))] [] G Q)))) : Rn d M_X11_commonDivisor zN 9 [(4, (1, x4)), (6, (1, x6)), (8, (0, x8))] [] G Q := by
  refine r_iload d_X11_commonDivisor_9 2 rfl ?_
  refine r_sipush d_X11_commonDivisor_11 (by decide +kernel) ?_
  obtain ⟨h1, h⟩ := h
  refine r_icmp_ge (tgt := 45) d_X11_commonDivisor_14 (by decide) h1 ⟨by decide, by decide⟩ (fun c2 => ?_) (fun c2 => ?_)
  · replace h := h.1 c2
    exact Rn.sub [0] rfl h
  · replace h := h.2 c2
    refine r_lload d_X11_commonDivisor_17 1 rfl ?_
    refine r_lconst (x := 0) d_X11_commonDivisor_19 rfl ?_
    obtain ⟨h3, h⟩ := h
    refine r_lcmp_eq (tgt := 45) d_X11_commonDivisor_20 d_X11_commonDivisor_21 (by decide) h3 ⟨by decide, by decide⟩ (fun c4 => ?_) (fun c4 => ?_)
    · replace h := h.1 c4
      exact Rn.sub [0] rfl h
    · replace h := h.2 c4
      refine r_lload d_X11_commonDivisor_24 0 rfl ?_
      refine r_lload d_X11_commonDivisor_26 1 rfl ?_
      obtain ⟨h5, h⟩ := h
      obtain ⟨h6, h⟩ := h
      refine r_lrem d_X11_commonDivisor_28 h5 h6 ?_
      refine r_lstore (ls1 := [(9, (1, (Int.tmod x4 x6))), (4, (1, x4)), (6, (1, x6)), (8, (0, x8))]) d_X11_commonDivisor_29 (by decide) rfl ?_
      refine r_lload d_X11_commonDivisor_31 2 rfl ?_
      refine r_lstore (ls1 := [(4, (1, x6)), (9, (1, (Int.tmod x4 x6))), (6, (1, x6)), (8, (0, x8))]) d_X11_commonDivisor_33 (by decide) rfl ?_
      refine r_lload d_X11_commonDivisor_35 1 rfl ?_
      refine r_lstore (ls1 := [(6, (1, (Int.tmod x4 x6))), (4, (1, x6)), (9, (1, (Int.tmod x4 x6))), (8, (0, x8))]) d_X11_commonDivisor_37 (by decide) rfl ?_
      refine r_iinc (ls1 := [(8, (0, (x8 + 1))), (6, (1, (Int.tmod x4 x6))), (4, (1, x6)), (9, (1, (Int.tmod x4 x6)))]) d_X11_commonDivisor_39 3 rfl (by decide) rfl ?_
      refine r_goto (tgt := 9) d_X11_commonDivisor_42 (by decide) ?_
      exact Rn.sub [2, 1, 0] rfl h
set_option maxRecDepth 20000 in
theorem s_X11_commonDivisor_45 {d : Nat} {x4 : Int} {G : Mem} {Q : Int → Mem → Prop}  (h : (InL x4) ∧ ((x4 ≠ 0) → Q x4 G) ∧ (¬ (x4 ≠ 0) → Q 1 G)) : Rn d M_X11_commonDivisor zN 45 [(4, (1, x4))] [] G Q := by
  refine r_lload d_X11_commonDivisor_45 0 rfl ?_
  refine r_lconst (x := 0) d_X11_commonDivisor_47 rfl ?_
  obtain ⟨h1, h⟩ := h
  refine r_lcmp_ne (tgt := 56) d_X11_commonDivisor_48 d_X11_commonDivisor_49 (by decide) h1 ⟨by decide, by decide⟩ (fun c2 => ?_) (fun c2 => ?_)
  · replace h := h.1 c2
    refine r_lload d_X11_commonDivisor_56 0 rfl ?_
    exact r_lreturn d_X11_commonDivisor_58 rfl ⟨rfl, Nat.le_refl _, Nat.le_refl _⟩ h
  · replace h := h.2 c2
    refine r_lconst (x := 1) d_X11_commonDivisor_52 rfl ?_
    refine r_goto (tgt := 58) d_X11_commonDivisor_53 (by decide) ?_
    exact r_lreturn d_X11_commonDivisor_58 rfl ⟨rfl, Nat.le_refl _, Nat.le_refl _⟩ h
