theorem d_X12_readsCup_0 : decode M_X12_readsCup.2.1 0 = .ok (.aload_n 0, 1) := by decide +kernel
theorem d_X12_readsCup_1 : decode M_X12_readsCup.2.1 1 = .ok (.invokevirtual 250, 3) := by decide +kernel
theorem d_X12_readsCup_4 : decode M_X12_readsCup.2.1 4 = .ok (.aload_n 0, 1) := by decide +kernel
theorem d_X12_readsCup_5 : decode M_X12_readsCup.2.1 5 = .ok (.getfield 194, 3) := by decide +kernel
theorem d_X12_readsCup_8 : decode M_X12_readsCup.2.1 8 = .ok (.iconst 2, 1) := by decide +kernel
theorem d_X12_readsCup_9 : decode M_X12_readsCup.2.1 9 = .ok (.if_icmp .ne 44, 3) := by decide +kernel
theorem d_X12_readsCup_12 : decode M_X12_readsCup.2.1 12 = .ok (.aload_n 0, 1) := by decide +kernel
theorem d_X12_readsCup_13 : decode M_X12_readsCup.2.1 13 = .ok (.getfield 191, 3) := by decide +kernel
theorem d_X12_readsCup_16 : decode M_X12_readsCup.2.1 16 = .ok (.iconst 0, 1) := by decide +kernel
theorem d_X12_readsCup_17 : decode M_X12_readsCup.2.1 17 = .ok (.aload_n 0, 1) := by decide +kernel
theorem d_X12_readsCup_18 : decode M_X12_readsCup.2.1 18 = .ok (.getfield 13, 3) := by decide +kernel
theorem d_X12_readsCup_21 : decode M_X12_readsCup.2.1 21 = .ok (.bipush 12, 2) := by decide +kernel
theorem d_X12_readsCup_23 : decode M_X12_readsCup.2.1 23 = .ok (.iaload, 1) := by decide +kernel
theorem d_X12_readsCup_24 : decode M_X12_readsCup.2.1 24 = .ok (.iconst 1, 1) := by decide +kernel
theorem d_X12_readsCup_25 : decode M_X12_readsCup.2.1 25 = .ok (.isub, 1) := by decide +kernel
theorem d_X12_readsCup_26 : decode M_X12_readsCup.2.1 26 = .ok (.invokestatic 308, 3) := by decide +kernel
theorem d_X12_readsCup_29 : decode M_X12_readsCup.2.1 29 = .ok (.ifCond .eq 24, 3) := by decide +kernel
theorem d_X12_readsCup_32 : decode M_X12_readsCup.2.1 32 = .ok (.aload_n 0, 1) := by decide +kernel
theorem d_X12_readsCup_33 : decode M_X12_readsCup.2.1 33 = .ok (.getfield 47, 3) := by decide +kernel
theorem d_X12_readsCup_36 : decode M_X12_readsCup.2.1 36 = .ok (.iconst 5, 1) := by decide +kernel
theorem d_X12_readsCup_37 : decode M_X12_readsCup.2.1 37 = .ok (.aload_n 0, 1) := by decide +kernel
theorem d_X12_readsCup_38 : decode M_X12_readsCup.2.1 38 = .ok (.getfield 191, 3) := by decide +kernel
theorem d_X12_readsCup_41 : decode M_X12_readsCup.2.1 41 = .ok (.iadd, 1) := by decide +kernel
theorem d_X12_readsCup_42 : decode M_X12_readsCup.2.1 42 = .ok (.iaload, 1) := by decide +kernel
theorem d_X12_readsCup_43 : decode M_X12_readsCup.2.1 43 = .ok (.iconst 1, 1) := by decide +kernel
theorem d_X12_readsCup_44 : decode M_X12_readsCup.2.1 44 = .ok (.if_icmp .ne 9, 3) := by decide +kernel
theorem d_X12_readsCup_47 : decode M_X12_readsCup.2.1 47 = .ok (.aload_n 0, 1) := by decide +kernel
theorem d_X12_readsCup_48 : decode M_X12_readsCup.2.1 48 = .ok (.iconst 3, 1) := by decide +kernel
theorem d_X12_readsCup_49 : decode M_X12_readsCup.2.1 49 = .ok (.invokevirtual 244, 3) := by decide +kernel
theorem d_X12_readsCup_52 : decode M_X12_readsCup.2.1 52 = .ok (.ireturn, 1) := by decide +kernel
theorem d_X12_readsCup_53 : decode M_X12_readsCup.2.1 53 = .ok (.aload_n 0, 1) := by decide +kernel
theorem d_X12_readsCup_54 : decode M_X12_readsCup.2.1 54 = .ok (.iconst 0, 1) := by decide +kernel
theorem d_X12_readsCup_55 : decode M_X12_readsCup.2.1 55 = .ok (.aload_n 0, 1) := by decide +kernel
theorem d_X12_readsCup_56 : decode M_X12_readsCup.2.1 56 = .ok (.getfield 13, 3) := by decide +kernel
theorem d_X12_readsCup_59 : decode M_X12_readsCup.2.1 59 = .ok (.bipush 12, 2) := by decide +kernel
theorem d_X12_readsCup_61 : decode M_X12_readsCup.2.1 61 = .ok (.iaload, 1) := by decide +kernel
theorem d_X12_readsCup_62 : decode M_X12_readsCup.2.1 62 = .ok (.iconst 1, 1) := by decide +kernel
theorem d_X12_readsCup_63 : decode M_X12_readsCup.2.1 63 = .ok (.isub, 1) := by decide +kernel
theorem d_X12_readsCup_64 : decode M_X12_readsCup.2.1 64 = .ok (.invokevirtual 318, 3) := by decide +kernel
theorem d_X12_readsCup_67 : decode M_X12_readsCup.2.1 67 = .ok (.ifCond .ne 5, 3) := by decide +kernel
theorem d_X12_readsCup_70 : decode M_X12_readsCup.2.1 70 = .ok (.iconst 0, 1) := by decide +kernel
theorem d_X12_readsCup_71 : decode M_X12_readsCup.2.1 71 = .ok (.ireturn, 1) := by decide +kernel
theorem d_X12_readsCup_72 : decode M_X12_readsCup.2.1 72 = .ok (.aload_n 0, 1) := by decide +kernel
theorem d_X12_readsCup_73 : decode M_X12_readsCup.2.1 73 = .ok (.getfield 47, 3) := by decide +kernel
theorem d_X12_readsCup_76 : decode M_X12_readsCup.2.1 76 = .ok (.iconst 5, 1) := by decide +kernel
theorem d_X12_readsCup_77 : decode M_X12_readsCup.2.1 77 = .ok (.aload_n 0, 1) := by decide +kernel
theorem d_X12_readsCup_78 : decode M_X12_readsCup.2.1 78 = .ok (.getfield 312, 3) := by decide +kernel
theorem d_X12_readsCup_81 : decode M_X12_readsCup.2.1 81 = .ok (.iadd, 1) := by decide +kernel
theorem d_X12_readsCup_82 : decode M_X12_readsCup.2.1 82 = .ok (.iconst 1, 1) := by decide +kernel
theorem d_X12_readsCup_83 : decode M_X12_readsCup.2.1 83 = .ok (.iastore, 1) := by decide +kernel
theorem d_X12_readsCup_84 : decode M_X12_readsCup.2.1 84 = .ok (.aload_n 0, 1) := by decide +kernel
theorem d_X12_readsCup_85 : decode M_X12_readsCup.2.1 85 = .ok (.invokevirtual 336, 3) := by decide +kernel
theorem d_X12_readsCup_88 : decode M_X12_readsCup.2.1 88 = .ok (.ireturn, 1) := by decide +kernel
set_option maxRecDepth 20000 in
theorem s_X12_readsCup_0 {d : Nat}  {G : Mem} {Q : Int → Mem → Prop}  (h : Ct d M_X12_nextToken NT 0 0 (some lay) [(2, 311)] G (fun r2 G1 => (InR (G1 311 6)) ∧ (((G1 311 6) ≠ 2) → Rn (d + 1) M_X12_readsCup zN 53 [(0, (2, 311))] [] G1 Q) ∧ (¬ ((G1 311 6) ≠ 2) → Ct d M_X12_within NT 0 0 (some lay) [(0, (G1 311 8)), (0, 0), (0, ((G1 313 12) - 1))] G1 (fun r6 G5 => (InR r6) ∧ ((r6 = 0) → Rn (d + 1) M_X12_readsCup zN 53 [(0, (2, 311))] [] G5 Q) ∧ (¬ (r6 = 0) → (0 ≤ (5 + (G5 311 8)) ∧ (5 + (G5 311 8)) < 30) ∧ ((InR (G5 324 (5 + (G5 311 8)))) ∧ (((G5 324 (5 + (G5 311 8))) ≠ 1) → Rn (d + 1) M_X12_readsCup zN 53 [(0, (2, 311))] [] G5 Q) ∧ (¬ ((G5 324 (5 + (G5 311 8))) ≠ 1) → Ct d M_X12_fails NT 0 0 (some lay) [(2, 311), (0, 3)] G5 (fun r13 G12 => (r13 = 0 ∨ r13 = 1) ∧ Q r13 G12)))))))) : Rn (d + 1) M_X12_readsCup zN 0 [(0, (2, 311))] [] G Q := by
  refine r_aload_n d_X12_readsCup_0 0 rfl rfl ?_
  refine r_callV0 (M' := M_X12_nextToken) (ci := 12) [] d_X12_readsCup_1 cl_X12_250 rfl (Nat.le_of_ble_eq_true rfl) (by decide) rfl (bs_ob bs_12) ?_
  refine Ct.mono h (fun r2 G1 h => ?_)
  show Rn _ M_X12_readsCup zN 4 [(0, (2, 311))] [] G1 Q
  refine r_aload_n d_X12_readsCup_4 0 rfl rfl ?_
  refine r_getI 12 6 6 rfl d_X12_readsCup_5 fl_X12_194 (by decide) (bs_ob bs_12) ?_
  refine r_iconst d_X12_readsCup_8 ?_
  obtain ⟨h3, h⟩ := h
  refine r_icmp_ne (tgt := 53) d_X12_readsCup_9 (by decide) h3 ⟨by decide, by decide⟩ (fun c4 => ?_) (fun c4 => ?_)
  · replace h := h.1 c4
    exact h
  · replace h := h.2 c4
    refine r_aload_n d_X12_readsCup_12 0 rfl rfl ?_
    refine r_getI 12 8 8 rfl d_X12_readsCup_13 fl_X12_191 (by decide) (bs_ob bs_12) ?_
    refine r_iconst d_X12_readsCup_16 ?_
    refine r_aload_n d_X12_readsCup_17 0 rfl rfl ?_
    refine r_getL (v := 313) 12 10 10 rfl d_X12_readsCup_18 fl_X12_13 (by decide) (bs_ob bs_12) (ly_12_10 bs_12).1 (ly_12_10 bs_12).2.1 ?_
    refine r_bipush d_X12_readsCup_21 (by decide +kernel) ?_
    refine r_iaload d_X12_readsCup_23 (ly_12_10 bs_12).2.2 (by decide) ?_
    refine r_iconst d_X12_readsCup_24 ?_
    refine r_isub d_X12_readsCup_25 ?_
    refine r_callS0 (M' := M_X12_within) [(0, (G1 311 8)), (0, 0), (0, ((G1 313 12) - 1))] d_X12_readsCup_26 cl_X12_308 rfl (Nat.le_of_ble_eq_true rfl) ?_
    refine Ct.mono h (fun r6 G5 h => ?_)
    show Rn _ M_X12_readsCup zN 29 [(0, (2, 311))] [(0, r6)] G5 Q
    obtain ⟨h7, h⟩ := h
    refine r_if_eq (tgt := 53) d_X12_readsCup_29 (by decide) h7 (fun c8 => ?_) (fun c8 => ?_)
    · replace h := h.1 c8
      exact h
    · replace h := h.2 c8
      refine r_aload_n d_X12_readsCup_32 0 rfl rfl ?_
      refine r_getL (v := 324) 12 21 21 rfl d_X12_readsCup_33 fl_X12_47 (by decide) (bs_ob bs_12) (ly_12_21 bs_12).1 (ly_12_21 bs_12).2.1 ?_
      refine r_iconst d_X12_readsCup_36 ?_
      refine r_aload_n d_X12_readsCup_37 0 rfl rfl ?_
      refine r_getI 12 8 8 rfl d_X12_readsCup_38 fl_X12_191 (by decide) (bs_ob bs_12) ?_
      refine r_iadd d_X12_readsCup_41 ?_
      obtain ⟨h9, h⟩ := h
      refine r_iaload d_X12_readsCup_42 (ly_12_21 bs_12).2.2 h9 ?_
      refine r_iconst d_X12_readsCup_43 ?_
      obtain ⟨h10, h⟩ := h
      refine r_icmp_ne (tgt := 53) d_X12_readsCup_44 (by decide) h10 ⟨by decide, by decide⟩ (fun c11 => ?_) (fun c11 => ?_)
      · replace h := h.1 c11
        exact h
      · replace h := h.2 c11
        refine r_aload_n d_X12_readsCup_47 0 rfl rfl ?_
        refine r_iconst d_X12_readsCup_48 ?_
        refine r_callV0 (M' := M_X12_fails) (ci := 12) [(0, 3)] d_X12_readsCup_49 cl_X12_244 rfl (Nat.le_of_ble_eq_true rfl) (by decide) rfl (bs_ob bs_12) ?_
        refine Ct.mono h (fun r13 G12 h => ?_)
        show Rn _ M_X12_readsCup zN 52 [(0, (2, 311))] [(0, r13)] G12 Q
        exact r_zreturn d_X12_readsCup_52 rfl ⟨rfl, Nat.le_refl _, Nat.le_refl _⟩ h.1 h.2
set_option maxRecDepth 20000 in
theorem s_X12_readsCup_53 {d : Nat}  {G : Mem} {Q : Int → Mem → Prop}  (h : Ct d M_X12_needsNumber NT 0 0 (some lay) [(2, 311), (0, 0), (0, ((G 313 12) - 1))] G (fun r2 G1 => (InR r2) ∧ ((r2 ≠ 0) → (0 ≤ (5 + (G1 311 42)) ∧ (5 + (G1 311 42)) < 30) ∧ (∀ G6 : Mem, G6 = st G1 324 (5 + (G1 311 42)) 1 → Ct d M_X12_ends NT 0 0 (some lay) [(2, 311)] G6 (fun r8 G7 => (r8 = 0 ∨ r8 = 1) ∧ Q r8 G7))) ∧ (¬ (r2 ≠ 0) → Q 0 G1))) : Rn (d + 1) M_X12_readsCup zN 53 [(0, (2, 311))] [] G Q := by
  refine r_aload_n d_X12_readsCup_53 0 rfl rfl ?_
  refine r_iconst d_X12_readsCup_54 ?_
  refine r_aload_n d_X12_readsCup_55 0 rfl rfl ?_
  refine r_getL (v := 313) 12 10 10 rfl d_X12_readsCup_56 fl_X12_13 (by decide) (bs_ob bs_12) (ly_12_10 bs_12).1 (ly_12_10 bs_12).2.1 ?_
  refine r_bipush d_X12_readsCup_59 (by decide +kernel) ?_
  refine r_iaload d_X12_readsCup_61 (ly_12_10 bs_12).2.2 (by decide) ?_
  refine r_iconst d_X12_readsCup_62 ?_
  refine r_isub d_X12_readsCup_63 ?_
  refine r_callV0 (M' := M_X12_needsNumber) (ci := 12) [(0, 0), (0, ((G 313 12) - 1))] d_X12_readsCup_64 cl_X12_318 rfl (Nat.le_of_ble_eq_true rfl) (by decide) rfl (bs_ob bs_12) ?_
  refine Ct.mono h (fun r2 G1 h => ?_)
  show Rn _ M_X12_readsCup zN 67 [(0, (2, 311))] [(0, r2)] G1 Q
  obtain ⟨h3, h⟩ := h
  refine r_if_ne (tgt := 72) d_X12_readsCup_67 (by decide) h3 (fun c4 => ?_) (fun c4 => ?_)
  · replace h := h.1 c4
    refine r_aload_n d_X12_readsCup_72 0 rfl rfl ?_
    refine r_getL (v := 324) 12 21 21 rfl d_X12_readsCup_73 fl_X12_47 (by decide) (bs_ob bs_12) (ly_12_21 bs_12).1 (ly_12_21 bs_12).2.1 ?_
    refine r_iconst d_X12_readsCup_76 ?_
    refine r_aload_n d_X12_readsCup_77 0 rfl rfl ?_
    refine r_getI 12 42 42 rfl d_X12_readsCup_78 fl_X12_312 (by decide) (bs_ob bs_12) ?_
    refine r_iadd d_X12_readsCup_81 ?_
    refine r_iconst d_X12_readsCup_82 ?_
    obtain ⟨h5, h⟩ := h
    obtain ⟨G6, eG6⟩ : ∃ y : Mem, y = st G1 324 (5 + (G1 311 42)) 1 := ⟨_, rfl⟩
    replace h := h G6 eG6
    refine r_iastore d_X12_readsCup_83 (ly_12_21 bs_12).2.2 h5 ?_
    rw [← eG6]
    refine r_aload_n d_X12_readsCup_84 0 rfl rfl ?_
    refine r_callV0 (M' := M_X12_ends) (ci := 12) [] d_X12_readsCup_85 cl_X12_336 rfl (Nat.le_of_ble_eq_true rfl) (by decide) rfl (bs_ob bs_12) ?_
    refine Ct.mono h (fun r8 G7 h => ?_)
    show Rn _ M_X12_readsCup zN 88 [(0, (2, 311))] [(0, r8)] G7 Q
    exact r_zreturn d_X12_readsCup_88 rfl ⟨rfl, Nat.le_refl _, Nat.le_refl _⟩ h.1 h.2
  · replace h := h.2 c4
    refine r_iconst d_X12_readsCup_70 ?_
    exact r_zreturn d_X12_readsCup_71 rfl ⟨rfl, Nat.le_refl _, Nat.le_refl _⟩ (by decide) h
theorem d_X12_readsShut_0 : decode M_X12_readsShut.2.1 0 = .ok (.aload_n 0, 1) := by decide +kernel
theorem d_X12_readsShut_1 : decode M_X12_readsShut.2.1 1 = .ok (.getfield 13, 3) := by decide +kernel
theorem d_X12_readsShut_4 : decode M_X12_readsShut.2.1 4 = .ok (.bipush 12, 2) := by decide +kernel
theorem d_X12_readsShut_6 : decode M_X12_readsShut.2.1 6 = .ok (.iload_n 1, 1) := by decide +kernel
theorem d_X12_readsShut_7 : decode M_X12_readsShut.2.1 7 = .ok (.iadd, 1) := by decide +kernel
theorem d_X12_readsShut_8 : decode M_X12_readsShut.2.1 8 = .ok (.iaload, 1) := by decide +kernel
theorem d_X12_readsShut_9 : decode M_X12_readsShut.2.1 9 = .ok (.istore_n 2, 1) := by decide +kernel
theorem d_X12_readsShut_10 : decode M_X12_readsShut.2.1 10 = .ok (.iload_n 2, 1) := by decide +kernel
theorem d_X12_readsShut_11 : decode M_X12_readsShut.2.1 11 = .ok (.iconst 4, 1) := by decide +kernel
theorem d_X12_readsShut_12 : decode M_X12_readsShut.2.1 12 = .ok (.if_icmp .ne 9, 3) := by decide +kernel
theorem d_X12_readsShut_15 : decode M_X12_readsShut.2.1 15 = .ok (.aload_n 0, 1) := by decide +kernel
theorem d_X12_readsShut_16 : decode M_X12_readsShut.2.1 16 = .ok (.iconst 5, 1) := by decide +kernel
theorem d_X12_readsShut_17 : decode M_X12_readsShut.2.1 17 = .ok (.invokevirtual 244, 3) := by decide +kernel
theorem d_X12_readsShut_20 : decode M_X12_readsShut.2.1 20 = .ok (.ireturn, 1) := by decide +kernel
theorem d_X12_readsShut_21 : decode M_X12_readsShut.2.1 21 = .ok (.bipush 8, 2) := by decide +kernel
theorem d_X12_readsShut_23 : decode M_X12_readsShut.2.1 23 = .ok (.iload_n 2, 1) := by decide +kernel
theorem d_X12_readsShut_24 : decode M_X12_readsShut.2.1 24 = .ok (.iadd, 1) := by decide +kernel
theorem d_X12_readsShut_25 : decode M_X12_readsShut.2.1 25 = .ok (.iload_n 1, 1) := by decide +kernel
theorem d_X12_readsShut_26 : decode M_X12_readsShut.2.1 26 = .ok (.bipush 10, 2) := by decide +kernel
theorem d_X12_readsShut_28 : decode M_X12_readsShut.2.1 28 = .ok (.if_icmp .ne 7, 3) := by decide +kernel
theorem d_X12_readsShut_31 : decode M_X12_readsShut.2.1 31 = .ok (.iconst 4, 1) := by decide +kernel
theorem d_X12_readsShut_32 : decode M_X12_readsShut.2.1 32 = .ok (.goto 4, 3) := by decide +kernel
theorem d_X12_readsShut_35 : decode M_X12_readsShut.2.1 35 = .ok (.iconst 0, 1) := by decide +kernel
theorem d_X12_readsShut_36 : decode M_X12_readsShut.2.1 36 = .ok (.iadd, 1) := by decide +kernel
theorem d_X12_readsShut_37 : decode M_X12_readsShut.2.1 37 = .ok (.istore_n 3, 1) := by decide +kernel
theorem d_X12_readsShut_38 : decode M_X12_readsShut.2.1 38 = .ok (.aload_n 0, 1) := by decide +kernel
theorem d_X12_readsShut_39 : decode M_X12_readsShut.2.1 39 = .ok (.invokevirtual 250, 3) := by decide +kernel
theorem d_X12_readsShut_42 : decode M_X12_readsShut.2.1 42 = .ok (.aload_n 0, 1) := by decide +kernel
theorem d_X12_readsShut_43 : decode M_X12_readsShut.2.1 43 = .ok (.iconst 0, 1) := by decide +kernel
theorem d_X12_readsShut_44 : decode M_X12_readsShut.2.1 44 = .ok (.bipush 71, 2) := by decide +kernel
theorem d_X12_readsShut_46 : decode M_X12_readsShut.2.1 46 = .ok (.invokevirtual 318, 3) := by decide +kernel
theorem d_X12_readsShut_49 : decode M_X12_readsShut.2.1 49 = .ok (.ifCond .ne 5, 3) := by decide +kernel
theorem d_X12_readsShut_52 : decode M_X12_readsShut.2.1 52 = .ok (.iconst 0, 1) := by decide +kernel
theorem d_X12_readsShut_53 : decode M_X12_readsShut.2.1 53 = .ok (.ireturn, 1) := by decide +kernel
theorem d_X12_readsShut_54 : decode M_X12_readsShut.2.1 54 = .ok (.aload_n 0, 1) := by decide +kernel
theorem d_X12_readsShut_55 : decode M_X12_readsShut.2.1 55 = .ok (.getfield 50, 3) := by decide +kernel
theorem d_X12_readsShut_58 : decode M_X12_readsShut.2.1 58 = .ok (.iload_n 3, 1) := by decide +kernel
theorem d_X12_readsShut_59 : decode M_X12_readsShut.2.1 59 = .ok (.aload_n 0, 1) := by decide +kernel
theorem d_X12_readsShut_60 : decode M_X12_readsShut.2.1 60 = .ok (.getfield 312, 3) := by decide +kernel
theorem d_X12_readsShut_63 : decode M_X12_readsShut.2.1 63 = .ok (.iastore, 1) := by decide +kernel
theorem d_X12_readsShut_64 : decode M_X12_readsShut.2.1 64 = .ok (.aload_n 0, 1) := by decide +kernel
theorem d_X12_readsShut_65 : decode M_X12_readsShut.2.1 65 = .ok (.ldc2_w 282, 3) := by decide +kernel
theorem d_X12_readsShut_68 : decode M_X12_readsShut.2.1 68 = .ok (.aload_n 0, 1) := by decide +kernel
theorem d_X12_readsShut_69 : decode M_X12_readsShut.2.1 69 = .ok (.getfield 312, 3) := by decide +kernel
theorem d_X12_readsShut_72 : decode M_X12_readsShut.2.1 72 = .ok (.bipush 71, 2) := by decide +kernel
theorem d_X12_readsShut_74 : decode M_X12_readsShut.2.1 74 = .ok (.invokevirtual 332, 3) := by decide +kernel
theorem d_X12_readsShut_77 : decode M_X12_readsShut.2.1 77 = .ok (.ifCond .ne 5, 3) := by decide +kernel
theorem d_X12_readsShut_80 : decode M_X12_readsShut.2.1 80 = .ok (.iconst 0, 1) := by decide +kernel
theorem d_X12_readsShut_81 : decode M_X12_readsShut.2.1 81 = .ok (.ireturn, 1) := by decide +kernel
theorem d_X12_readsShut_82 : decode M_X12_readsShut.2.1 82 = .ok (.aload_n 0, 1) := by decide +kernel
theorem d_X12_readsShut_83 : decode M_X12_readsShut.2.1 83 = .ok (.getfield 53, 3) := by decide +kernel
theorem d_X12_readsShut_86 : decode M_X12_readsShut.2.1 86 = .ok (.iload_n 3, 1) := by decide +kernel
theorem d_X12_readsShut_87 : decode M_X12_readsShut.2.1 87 = .ok (.aload_n 0, 1) := by decide +kernel
theorem d_X12_readsShut_88 : decode M_X12_readsShut.2.1 88 = .ok (.getfield 312, 3) := by decide +kernel
theorem d_X12_readsShut_91 : decode M_X12_readsShut.2.1 91 = .ok (.iastore, 1) := by decide +kernel
theorem d_X12_readsShut_92 : decode M_X12_readsShut.2.1 92 = .ok (.aload_n 0, 1) := by decide +kernel
theorem d_X12_readsShut_93 : decode M_X12_readsShut.2.1 93 = .ok (.getfield 13, 3) := by decide +kernel
theorem d_X12_readsShut_96 : decode M_X12_readsShut.2.1 96 = .ok (.bipush 12, 2) := by decide +kernel
theorem d_X12_readsShut_98 : decode M_X12_readsShut.2.1 98 = .ok (.iload_n 1, 1) := by decide +kernel
theorem d_X12_readsShut_99 : decode M_X12_readsShut.2.1 99 = .ok (.iadd, 1) := by decide +kernel
theorem d_X12_readsShut_100 : decode M_X12_readsShut.2.1 100 = .ok (.dup2, 1) := by decide +kernel
theorem d_X12_readsShut_101 : decode M_X12_readsShut.2.1 101 = .ok (.iaload, 1) := by decide +kernel
theorem d_X12_readsShut_102 : decode M_X12_readsShut.2.1 102 = .ok (.iconst 1, 1) := by decide +kernel
theorem d_X12_readsShut_103 : decode M_X12_readsShut.2.1 103 = .ok (.iadd, 1) := by decide +kernel
theorem d_X12_readsShut_104 : decode M_X12_readsShut.2.1 104 = .ok (.iastore, 1) := by decide +kernel
theorem d_X12_readsShut_105 : decode M_X12_readsShut.2.1 105 = .ok (.aload_n 0, 1) := by decide +kernel
theorem d_X12_readsShut_106 : decode M_X12_readsShut.2.1 106 = .ok (.invokevirtual 336, 3) := by decide +kernel
theorem d_X12_readsShut_109 : decode M_X12_readsShut.2.1 109 = .ok (.ireturn, 1) := by decide +kernel
set_option maxRecDepth 20000 in
theorem s_X12_readsShut_0 {d : Nat} {p0 : Int} {G : Mem} {Q : Int → Mem → Prop}  (h : (0 ≤ (12 + p0) ∧ (12 + p0) < 72) ∧ ((InR (G 313 (12 + p0))) ∧ (((G 313 (12 + p0)) ≠ 4) → (InR p0) ∧ ((p0 ≠ 10) → Rn (d + 1) M_X12_readsShut zN 36 [(0, (2, 311)), (1, (0, p0))] [(0, 0), (0, (8 + (G 313 (12 + p0))))] G Q) ∧ (¬ (p0 ≠ 10) → Rn (d + 1) M_X12_readsShut zN 36 [(0, (2, 311)), (1, (0, p0))] [(0, 4), (0, (8 + (G 313 (12 + p0))))] G Q)) ∧ (¬ ((G 313 (12 + p0)) ≠ 4) → Ct d M_X12_fails NT 0 0 (some lay) [(2, 311), (0, 5)] G (fun r7 G6 => (r7 = 0 ∨ r7 = 1) ∧ Q r7 G6)))) : Rn (d + 1) M_X12_readsShut zN 0 [(0, (2, 311)), (1, (0, p0))] [] G Q := by
  refine r_aload_n d_X12_readsShut_0 0 rfl rfl ?_
  refine r_getL (v := 313) 12 10 10 rfl d_X12_readsShut_1 fl_X12_13 (by decide) (bs_ob bs_12) (ly_12_10 bs_12).1 (ly_12_10 bs_12).2.1 ?_
  refine r_bipush d_X12_readsShut_4 (by decide +kernel) ?_
  refine r_iload_n d_X12_readsShut_6 1 rfl rfl ?_
  refine r_iadd d_X12_readsShut_7 ?_
  obtain ⟨h1, h⟩ := h
  refine r_iaload d_X12_readsShut_8 (ly_12_10 bs_12).2.2 h1 ?_
  refine r_istore_n (ls1 := [(2, (0, (G 313 (12 + p0)))), (0, (2, 311)), (1, (0, p0))]) d_X12_readsShut_9 rfl (by decide) rfl ?_
  refine r_iload_n d_X12_readsShut_10 0 rfl rfl ?_
  refine r_iconst d_X12_readsShut_11 ?_
  obtain ⟨h2, h⟩ := h
  refine r_icmp_ne (tgt := 21) d_X12_readsShut_12 (by decide) h2 ⟨by decide, by decide⟩ (fun c3 => ?_) (fun c3 => ?_)
  · replace h := h.1 c3
    refine r_bipush d_X12_readsShut_21 (by decide +kernel) ?_
    refine r_iload_n d_X12_readsShut_23 0 rfl rfl ?_
    refine r_iadd d_X12_readsShut_24 ?_
    refine r_iload_n d_X12_readsShut_25 2 rfl rfl ?_
    refine r_bipush d_X12_readsShut_26 (by decide +kernel) ?_
    obtain ⟨h4, h⟩ := h
    refine r_icmp_ne (tgt := 35) d_X12_readsShut_28 (by decide) h4 ⟨by decide, by decide⟩ (fun c5 => ?_) (fun c5 => ?_)
    · replace h := h.1 c5
      refine r_iconst d_X12_readsShut_35 ?_
      exact Rn.sub [1, 2] rfl h
    · replace h := h.2 c5
      refine r_iconst d_X12_readsShut_31 ?_
      refine r_goto (tgt := 36) d_X12_readsShut_32 (by decide) ?_
      exact Rn.sub [1, 2] rfl h
  · replace h := h.2 c3
    refine r_aload_n d_X12_readsShut_15 1 rfl rfl ?_
    refine r_iconst d_X12_readsShut_16 ?_
    refine r_callV0 (M' := M_X12_fails) (ci := 12) [(0, 5)] d_X12_readsShut_17 cl_X12_244 rfl (Nat.le_of_ble_eq_true rfl) (by decide) rfl (bs_ob bs_12) ?_
    refine Ct.mono h (fun r7 G6 h => ?_)
    show Rn _ M_X12_readsShut zN 20 [(2, (0, (G 313 (12 + p0)))), (0, (2, 311)), (1, (0, p0))] [(0, r7)] G6 Q
    exact r_zreturn d_X12_readsShut_20 rfl ⟨rfl, Nat.le_refl _, Nat.le_refl _⟩ h.1 h.2
set_option maxRecDepth 20000 in
theorem s_X12_readsShut_36 {d : Nat} {x1 : Int} {s0 : Int} {s1 : Int} {G : Mem} {Q : Int → Mem → Prop}  (h : Ct d M_X12_nextToken NT 0 0 (some lay) [(2, 311)] G (fun r2 G1 => Ct d M_X12_needsNumber NT 0 0 (some lay) [(2, 311), (0, 0), (0, 71)] G1 (fun r4 G3 => (InR r4) ∧ ((r4 ≠ 0) → (0 ≤ (s1 + s0) ∧ (s1 + s0) < 48) ∧ (∀ G8 : Mem, G8 = st G3 325 (s1 + s0) (G3 311 42) → Ct d M_X12_needsBoth NT 0 0 (some lay) [(2, 311), (1, 555), (0, (G8 311 42)), (0, 71)] G8 (fun r10 G9 => (InR r10) ∧ ((r10 ≠ 0) → (∀ G13 : Mem, G13 = st G9 326 (s1 + s0) (G9 311 42) → (0 ≤ (12 + x1) ∧ (12 + x1) < 72) ∧ ((∀ G15 : Mem, G15 = st G13 313 (12 + x1) ((G13 313 (12 + x1)) + 1) → Ct d M_X12_ends NT 0 0 (some lay) [(2, 311)] G15 (fun r17 G16 => (r17 = 0 ∨ r17 = 1) ∧ Q r17 G16))))) ∧ (¬ (r10 ≠ 0) → Q 0 G9)))) ∧ (¬ (r4 ≠ 0) → Q 0 G3)))) : Rn (d + 1) M_X12_readsShut zN 36 [(0, (2, 311)), (1, (0, x1))] [(0, s0), (0, s1)] G Q := by
  refine r_iadd d_X12_readsShut_36 ?_
  refine r_istore_n (ls1 := [(3, (0, (s1 + s0))), (0, (2, 311)), (1, (0, x1))]) d_X12_readsShut_37 rfl (by decide) rfl ?_
  refine r_aload_n d_X12_readsShut_38 1 rfl rfl ?_
  refine r_callV0 (M' := M_X12_nextToken) (ci := 12) [] d_X12_readsShut_39 cl_X12_250 rfl (Nat.le_of_ble_eq_true rfl) (by decide) rfl (bs_ob bs_12) ?_
  refine Ct.mono h (fun r2 G1 h => ?_)
  show Rn _ M_X12_readsShut zN 42 [(3, (0, (s1 + s0))), (0, (2, 311)), (1, (0, x1))] [] G1 Q
  refine r_aload_n d_X12_readsShut_42 1 rfl rfl ?_
  refine r_iconst d_X12_readsShut_43 ?_
  refine r_bipush d_X12_readsShut_44 (by decide +kernel) ?_
  refine r_callV0 (M' := M_X12_needsNumber) (ci := 12) [(0, 0), (0, 71)] d_X12_readsShut_46 cl_X12_318 rfl (Nat.le_of_ble_eq_true rfl) (by decide) rfl (bs_ob bs_12) ?_
  refine Ct.mono h (fun r4 G3 h => ?_)
  show Rn _ M_X12_readsShut zN 49 [(3, (0, (s1 + s0))), (0, (2, 311)), (1, (0, x1))] [(0, r4)] G3 Q
  obtain ⟨h5, h⟩ := h
  refine r_if_ne (tgt := 54) d_X12_readsShut_49 (by decide) h5 (fun c6 => ?_) (fun c6 => ?_)
  · replace h := h.1 c6
    refine r_aload_n d_X12_readsShut_54 1 rfl rfl ?_
    refine r_getL (v := 325) 12 22 22 rfl d_X12_readsShut_55 fl_X12_50 (by decide) (bs_ob bs_12) (ly_12_22 bs_12).1 (ly_12_22 bs_12).2.1 ?_
    refine r_iload_n d_X12_readsShut_58 0 rfl rfl ?_
    refine r_aload_n d_X12_readsShut_59 1 rfl rfl ?_
    refine r_getI 12 42 42 rfl d_X12_readsShut_60 fl_X12_312 (by decide) (bs_ob bs_12) ?_
    obtain ⟨h7, h⟩ := h
    obtain ⟨G8, eG8⟩ : ∃ y : Mem, y = st G3 325 (s1 + s0) (G3 311 42) := ⟨_, rfl⟩
    replace h := h G8 eG8
    refine r_iastore d_X12_readsShut_63 (ly_12_22 bs_12).2.2 h7 ?_
    rw [← eG8]
    refine r_aload_n d_X12_readsShut_64 1 rfl rfl ?_
    refine r_ldc2 (x := 555) d_X12_readsShut_65 cst_X12_282 ?_
    refine r_aload_n d_X12_readsShut_68 1 rfl rfl ?_
    refine r_getI 12 42 42 rfl d_X12_readsShut_69 fl_X12_312 (by decide) (bs_ob bs_12) ?_
    refine r_bipush d_X12_readsShut_72 (by decide +kernel) ?_
    refine r_callV0 (M' := M_X12_needsBoth) (ci := 12) [(1, 555), (0, (G8 311 42)), (0, 71)] d_X12_readsShut_74 cl_X12_332 rfl (Nat.le_of_ble_eq_true rfl) (by decide) rfl (bs_ob bs_12) ?_
    refine Ct.mono h (fun r10 G9 h => ?_)
    show Rn _ M_X12_readsShut zN 77 [(3, (0, (s1 + s0))), (0, (2, 311)), (1, (0, x1))] [(0, r10)] G9 Q
    obtain ⟨h11, h⟩ := h
    refine r_if_ne (tgt := 82) d_X12_readsShut_77 (by decide) h11 (fun c12 => ?_) (fun c12 => ?_)
    · replace h := h.1 c12
      refine r_aload_n d_X12_readsShut_82 1 rfl rfl ?_
      refine r_getL (v := 326) 12 23 23 rfl d_X12_readsShut_83 fl_X12_53 (by decide) (bs_ob bs_12) (ly_12_23 bs_12).1 (ly_12_23 bs_12).2.1 ?_
      refine r_iload_n d_X12_readsShut_86 0 rfl rfl ?_
      refine r_aload_n d_X12_readsShut_87 1 rfl rfl ?_
      refine r_getI 12 42 42 rfl d_X12_readsShut_88 fl_X12_312 (by decide) (bs_ob bs_12) ?_
      obtain ⟨G13, eG13⟩ : ∃ y : Mem, y = st G9 326 (s1 + s0) (G9 311 42) := ⟨_, rfl⟩
      replace h := h G13 eG13
      refine r_iastore d_X12_readsShut_91 (ly_12_23 bs_12).2.2 h7 ?_
      rw [← eG13]
      refine r_aload_n d_X12_readsShut_92 1 rfl rfl ?_
      refine r_getL (v := 313) 12 10 10 rfl d_X12_readsShut_93 fl_X12_13 (by decide) (bs_ob bs_12) (ly_12_10 bs_12).1 (ly_12_10 bs_12).2.1 ?_
      refine r_bipush d_X12_readsShut_96 (by decide +kernel) ?_
      refine r_iload_n d_X12_readsShut_98 2 rfl rfl ?_
      refine r_iadd d_X12_readsShut_99 ?_
      refine r_dup2 0 2 rfl rfl (by decide) (by decide) d_X12_readsShut_100 ?_
      obtain ⟨h14, h⟩ := h
      refine r_iaload d_X12_readsShut_101 (ly_12_10 bs_12).2.2 h14 ?_
      refine r_iconst d_X12_readsShut_102 ?_
      refine r_iadd d_X12_readsShut_103 ?_
      obtain ⟨G15, eG15⟩ : ∃ y : Mem, y = st G13 313 (12 + x1) ((G13 313 (12 + x1)) + 1) := ⟨_, rfl⟩
      replace h := h G15 eG15
      refine r_iastore d_X12_readsShut_104 (ly_12_10 bs_12).2.2 h14 ?_
      rw [← eG15]
      refine r_aload_n d_X12_readsShut_105 1 rfl rfl ?_
      refine r_callV0 (M' := M_X12_ends) (ci := 12) [] d_X12_readsShut_106 cl_X12_336 rfl (Nat.le_of_ble_eq_true rfl) (by decide) rfl (bs_ob bs_12) ?_
      refine Ct.mono h (fun r17 G16 h => ?_)
      show Rn _ M_X12_readsShut zN 109 [(3, (0, (s1 + s0))), (0, (2, 311)), (1, (0, x1))] [(0, r17)] G16 Q
      exact r_zreturn d_X12_readsShut_109 rfl ⟨rfl, Nat.le_refl _, Nat.le_refl _⟩ h.1 h.2
    · replace h := h.2 c12
      refine r_iconst d_X12_readsShut_80 ?_
      exact r_zreturn d_X12_readsShut_81 rfl ⟨rfl, Nat.le_refl _, Nat.le_refl _⟩ (by decide) h
  · replace h := h.2 c6
    refine r_iconst d_X12_readsShut_52 ?_
    exact r_zreturn d_X12_readsShut_53 rfl ⟨rfl, Nat.le_refl _, Nat.le_refl _⟩ (by decide) h
theorem d_X12_isTwice_0 : decode M_X12_isTwice.2.1 0 = .ok (.aload_n 0, 1) := by decide +kernel
theorem d_X12_isTwice_1 : decode M_X12_isTwice.2.1 1 = .ok (.getfield 339, 3) := by decide +kernel
theorem d_X12_isTwice_4 : decode M_X12_isTwice.2.1 4 = .ok (.iload_n 1, 1) := by decide +kernel
theorem d_X12_isTwice_5 : decode M_X12_isTwice.2.1 5 = .ok (.ishr, 1) := by decide +kernel
theorem d_X12_isTwice_6 : decode M_X12_isTwice.2.1 6 = .ok (.iconst 1, 1) := by decide +kernel
theorem d_X12_isTwice_7 : decode M_X12_isTwice.2.1 7 = .ok (.iand, 1) := by decide +kernel
theorem d_X12_isTwice_8 : decode M_X12_isTwice.2.1 8 = .ok (.iconst 1, 1) := by decide +kernel
theorem d_X12_isTwice_9 : decode M_X12_isTwice.2.1 9 = .ok (.if_icmp .ne 5, 3) := by decide +kernel
theorem d_X12_isTwice_12 : decode M_X12_isTwice.2.1 12 = .ok (.iconst 1, 1) := by decide +kernel
theorem d_X12_isTwice_13 : decode M_X12_isTwice.2.1 13 = .ok (.ireturn, 1) := by decide +kernel
theorem d_X12_isTwice_14 : decode M_X12_isTwice.2.1 14 = .ok (.aload_n 0, 1) := by decide +kernel
theorem d_X12_isTwice_15 : decode M_X12_isTwice.2.1 15 = .ok (.dup, 1) := by decide +kernel
theorem d_X12_isTwice_16 : decode M_X12_isTwice.2.1 16 = .ok (.getfield 339, 3) := by decide +kernel
theorem d_X12_isTwice_19 : decode M_X12_isTwice.2.1 19 = .ok (.iconst 1, 1) := by decide +kernel
theorem d_X12_isTwice_20 : decode M_X12_isTwice.2.1 20 = .ok (.iload_n 1, 1) := by decide +kernel
theorem d_X12_isTwice_21 : decode M_X12_isTwice.2.1 21 = .ok (.ishl, 1) := by decide +kernel
theorem d_X12_isTwice_22 : decode M_X12_isTwice.2.1 22 = .ok (.ior, 1) := by decide +kernel
theorem d_X12_isTwice_23 : decode M_X12_isTwice.2.1 23 = .ok (.putfield 339, 3) := by decide +kernel
theorem d_X12_isTwice_26 : decode M_X12_isTwice.2.1 26 = .ok (.iconst 0, 1) := by decide +kernel
theorem d_X12_isTwice_27 : decode M_X12_isTwice.2.1 27 = .ok (.ireturn, 1) := by decide +kernel
set_option maxRecDepth 20000 in
theorem s_X12_isTwice_0 {d : Nat} {p0 : Int} {G : Mem} {Q : Int → Mem → Prop}  (h : (InR (andI (shrI (G 311 28) p0) 1)) ∧ (((andI (shrI (G 311 28) p0) 1) ≠ 1) → (∀ G3 : Mem, G3 = st G 311 28 (orI (G 311 28) (shlI 1 p0)) → Q 0 G3)) ∧ (¬ ((andI (shrI (G 311 28) p0) 1) ≠ 1) → Q 1 G)) : Rn d M_X12_isTwice zN 0 [(0, (2, 311)), (1, (0, p0))] [] G Q := by
  refine r_aload_n d_X12_isTwice_0 0 rfl rfl ?_
  refine r_getI 12 28 28 rfl d_X12_isTwice_1 fl_X12_339 (by decide) (bs_ob bs_12) ?_
  refine r_iload_n d_X12_isTwice_4 1 rfl rfl ?_
  refine r_ishr d_X12_isTwice_5 ?_
  refine r_iconst d_X12_isTwice_6 ?_
  refine r_iand d_X12_isTwice_7 ?_
  refine r_iconst d_X12_isTwice_8 ?_
  obtain ⟨h1, h⟩ := h
  refine r_icmp_ne (tgt := 14) d_X12_isTwice_9 (by decide) h1 ⟨by decide, by decide⟩ (fun c2 => ?_) (fun c2 => ?_)
  · replace h := h.1 c2
    refine r_aload_n d_X12_isTwice_14 0 rfl rfl ?_
    refine r_dup 2 rfl (by decide) d_X12_isTwice_15 ?_
    refine r_getI 12 28 28 rfl d_X12_isTwice_16 fl_X12_339 (by decide) (bs_ob bs_12) ?_
    refine r_iconst d_X12_isTwice_19 ?_
    refine r_iload_n d_X12_isTwice_20 1 rfl rfl ?_
    refine r_ishl d_X12_isTwice_21 ?_
    refine r_ior d_X12_isTwice_22 ?_
    obtain ⟨G3, eG3⟩ : ∃ y : Mem, y = st G 311 28 (orI (G 311 28) (shlI 1 p0)) := ⟨_, rfl⟩
    replace h := h G3 eG3
    refine r_putI 12 28 28 rfl d_X12_isTwice_23 fl_X12_339 (by decide) nofin_12_28 (bs_ob bs_12) ?_
    rw [← eG3]
    refine r_iconst d_X12_isTwice_26 ?_
    exact r_zreturn d_X12_isTwice_27 rfl ⟨rfl, Nat.le_refl _, Nat.le_refl _⟩ (by decide) h
  · replace h := h.2 c2
    refine r_iconst d_X12_isTwice_12 ?_
    exact r_zreturn d_X12_isTwice_13 rfl ⟨rfl, Nat.le_refl _, Nat.le_refl _⟩ (by decide) h
theorem d_X12_readsOne_0 : decode M_X12_readsOne.2.1 0 = .ok (.aload_n 0, 1) := by decide +kernel
theorem d_X12_readsOne_1 : decode M_X12_readsOne.2.1 1 = .ok (.iload_n 1, 1) := by decide +kernel
theorem d_X12_readsOne_2 : decode M_X12_readsOne.2.1 2 = .ok (.invokevirtual 342, 3) := by decide +kernel
theorem d_X12_readsOne_5 : decode M_X12_readsOne.2.1 5 = .ok (.ifCond .eq 9, 3) := by decide +kernel
theorem d_X12_readsOne_8 : decode M_X12_readsOne.2.1 8 = .ok (.aload_n 0, 1) := by decide +kernel
theorem d_X12_readsOne_9 : decode M_X12_readsOne.2.1 9 = .ok (.iconst 3, 1) := by decide +kernel
theorem d_X12_readsOne_10 : decode M_X12_readsOne.2.1 10 = .ok (.invokevirtual 244, 3) := by decide +kernel
theorem d_X12_readsOne_13 : decode M_X12_readsOne.2.1 13 = .ok (.ireturn, 1) := by decide +kernel
theorem d_X12_readsOne_14 : decode M_X12_readsOne.2.1 14 = .ok (.aload_n 0, 1) := by decide +kernel
theorem d_X12_readsOne_15 : decode M_X12_readsOne.2.1 15 = .ok (.invokevirtual 250, 3) := by decide +kernel
theorem d_X12_readsOne_18 : decode M_X12_readsOne.2.1 18 = .ok (.aload_n 0, 1) := by decide +kernel
theorem d_X12_readsOne_19 : decode M_X12_readsOne.2.1 19 = .ok (.iload_n 2, 1) := by decide +kernel
theorem d_X12_readsOne_20 : decode M_X12_readsOne.2.1 20 = .ok (.iload_n 3, 1) := by decide +kernel
theorem d_X12_readsOne_21 : decode M_X12_readsOne.2.1 21 = .ok (.invokevirtual 318, 3) := by decide +kernel
theorem d_X12_readsOne_24 : decode M_X12_readsOne.2.1 24 = .ok (.ifCond .ne 5, 3) := by decide +kernel
theorem d_X12_readsOne_27 : decode M_X12_readsOne.2.1 27 = .ok (.iconst 0, 1) := by decide +kernel
theorem d_X12_readsOne_28 : decode M_X12_readsOne.2.1 28 = .ok (.ireturn, 1) := by decide +kernel
theorem d_X12_readsOne_29 : decode M_X12_readsOne.2.1 29 = .ok (.aload_n 0, 1) := by decide +kernel
theorem d_X12_readsOne_30 : decode M_X12_readsOne.2.1 30 = .ok (.getfield 13, 3) := by decide +kernel
theorem d_X12_readsOne_33 : decode M_X12_readsOne.2.1 33 = .ok (.bipush 12, 2) := by decide +kernel
theorem d_X12_readsOne_35 : decode M_X12_readsOne.2.1 35 = .ok (.iload_n 1, 1) := by decide +kernel
theorem d_X12_readsOne_36 : decode M_X12_readsOne.2.1 36 = .ok (.iadd, 1) := by decide +kernel
theorem d_X12_readsOne_37 : decode M_X12_readsOne.2.1 37 = .ok (.aload_n 0, 1) := by decide +kernel
theorem d_X12_readsOne_38 : decode M_X12_readsOne.2.1 38 = .ok (.getfield 312, 3) := by decide +kernel
theorem d_X12_readsOne_41 : decode M_X12_readsOne.2.1 41 = .ok (.iastore, 1) := by decide +kernel
theorem d_X12_readsOne_42 : decode M_X12_readsOne.2.1 42 = .ok (.aload_n 0, 1) := by decide +kernel
theorem d_X12_readsOne_43 : decode M_X12_readsOne.2.1 43 = .ok (.invokevirtual 336, 3) := by decide +kernel
theorem d_X12_readsOne_46 : decode M_X12_readsOne.2.1 46 = .ok (.ireturn, 1) := by decide +kernel
set_option maxRecDepth 20000 in
theorem s_X12_readsOne_0 {d : Nat} {p0 : Int} {p1 : Int} {p2 : Int} {G : Mem} {Q : Int → Mem → Prop}  (h : Ct d M_X12_isTwice NT 0 0 (some lay) [(2, 311), (0, p0)] G (fun r2 G1 => (InR r2) ∧ ((r2 = 0) → Ct d M_X12_nextToken NT 0 0 (some lay) [(2, 311)] G1 (fun r6 G5 => Ct d M_X12_needsNumber NT 0 0 (some lay) [(2, 311), (0, p1), (0, p2)] G5 (fun r8 G7 => (InR r8) ∧ ((r8 ≠ 0) → (0 ≤ (12 + p0) ∧ (12 + p0) < 72) ∧ (∀ G12 : Mem, G12 = st G7 313 (12 + p0) (G7 311 42) → Ct d M_X12_ends NT 0 0 (some lay) [(2, 311)] G12 (fun r14 G13 => (r14 = 0 ∨ r14 = 1) ∧ Q r14 G13))) ∧ (¬ (r8 ≠ 0) → Q 0 G7)))) ∧ (¬ (r2 = 0) → Ct d M_X12_fails NT 0 0 (some lay) [(2, 311), (0, 3)] G1 (fun r16 G15 => (r16 = 0 ∨ r16 = 1) ∧ Q r16 G15)))) : Rn (d + 1) M_X12_readsOne zN 0 [(0, (2, 311)), (1, (0, p0)), (2, (0, p1)), (3, (0, p2))] [] G Q := by
  refine r_aload_n d_X12_readsOne_0 0 rfl rfl ?_
  refine r_iload_n d_X12_readsOne_1 1 rfl rfl ?_
  refine r_callV0 (M' := M_X12_isTwice) (ci := 12) [(0, p0)] d_X12_readsOne_2 cl_X12_342 rfl (Nat.le_of_ble_eq_true rfl) (by decide) rfl (bs_ob bs_12) ?_
  refine Ct.mono h (fun r2 G1 h => ?_)
  show Rn _ M_X12_readsOne zN 5 [(0, (2, 311)), (1, (0, p0)), (2, (0, p1)), (3, (0, p2))] [(0, r2)] G1 Q
  obtain ⟨h3, h⟩ := h
  refine r_if_eq (tgt := 14) d_X12_readsOne_5 (by decide) h3 (fun c4 => ?_) (fun c4 => ?_)
  · replace h := h.1 c4
    refine r_aload_n d_X12_readsOne_14 0 rfl rfl ?_
    refine r_callV0 (M' := M_X12_nextToken) (ci := 12) [] d_X12_readsOne_15 cl_X12_250 rfl (Nat.le_of_ble_eq_true rfl) (by decide) rfl (bs_ob bs_12) ?_
    refine Ct.mono h (fun r6 G5 h => ?_)
    show Rn _ M_X12_readsOne zN 18 [(0, (2, 311)), (1, (0, p0)), (2, (0, p1)), (3, (0, p2))] [] G5 Q
    refine r_aload_n d_X12_readsOne_18 0 rfl rfl ?_
    refine r_iload_n d_X12_readsOne_19 2 rfl rfl ?_
    refine r_iload_n d_X12_readsOne_20 3 rfl rfl ?_
    refine r_callV0 (M' := M_X12_needsNumber) (ci := 12) [(0, p1), (0, p2)] d_X12_readsOne_21 cl_X12_318 rfl (Nat.le_of_ble_eq_true rfl) (by decide) rfl (bs_ob bs_12) ?_
    refine Ct.mono h (fun r8 G7 h => ?_)
    show Rn _ M_X12_readsOne zN 24 [(0, (2, 311)), (1, (0, p0)), (2, (0, p1)), (3, (0, p2))] [(0, r8)] G7 Q
    obtain ⟨h9, h⟩ := h
    refine r_if_ne (tgt := 29) d_X12_readsOne_24 (by decide) h9 (fun c10 => ?_) (fun c10 => ?_)
    · replace h := h.1 c10
      refine r_aload_n d_X12_readsOne_29 0 rfl rfl ?_
      refine r_getL (v := 313) 12 10 10 rfl d_X12_readsOne_30 fl_X12_13 (by decide) (bs_ob bs_12) (ly_12_10 bs_12).1 (ly_12_10 bs_12).2.1 ?_
      refine r_bipush d_X12_readsOne_33 (by decide +kernel) ?_
      refine r_iload_n d_X12_readsOne_35 1 rfl rfl ?_
      refine r_iadd d_X12_readsOne_36 ?_
      refine r_aload_n d_X12_readsOne_37 0 rfl rfl ?_
      refine r_getI 12 42 42 rfl d_X12_readsOne_38 fl_X12_312 (by decide) (bs_ob bs_12) ?_
      obtain ⟨h11, h⟩ := h
      obtain ⟨G12, eG12⟩ : ∃ y : Mem, y = st G7 313 (12 + p0) (G7 311 42) := ⟨_, rfl⟩
      replace h := h G12 eG12
      refine r_iastore d_X12_readsOne_41 (ly_12_10 bs_12).2.2 h11 ?_
      rw [← eG12]
      refine r_aload_n d_X12_readsOne_42 0 rfl rfl ?_
      refine r_callV0 (M' := M_X12_ends) (ci := 12) [] d_X12_readsOne_43 cl_X12_336 rfl (Nat.le_of_ble_eq_true rfl) (by decide) rfl (bs_ob bs_12) ?_
      refine Ct.mono h (fun r14 G13 h => ?_)
      show Rn _ M_X12_readsOne zN 46 [(0, (2, 311)), (1, (0, p0)), (2, (0, p1)), (3, (0, p2))] [(0, r14)] G13 Q
      exact r_zreturn d_X12_readsOne_46 rfl ⟨rfl, Nat.le_refl _, Nat.le_refl _⟩ h.1 h.2
    · replace h := h.2 c10
      refine r_iconst d_X12_readsOne_27 ?_
      exact r_zreturn d_X12_readsOne_28 rfl ⟨rfl, Nat.le_refl _, Nat.le_refl _⟩ (by decide) h
  · replace h := h.2 c4
    refine r_aload_n d_X12_readsOne_8 0 rfl rfl ?_
    refine r_iconst d_X12_readsOne_9 ?_
    refine r_callV0 (M' := M_X12_fails) (ci := 12) [(0, 3)] d_X12_readsOne_10 cl_X12_244 rfl (Nat.le_of_ble_eq_true rfl) (by decide) rfl (bs_ob bs_12) ?_
    refine Ct.mono h (fun r16 G15 h => ?_)
    show Rn _ M_X12_readsOne zN 13 [(0, (2, 311)), (1, (0, p0)), (2, (0, p1)), (3, (0, p2))] [(0, r16)] G15 Q
    exact r_zreturn d_X12_readsOne_13 rfl ⟨rfl, Nat.le_refl _, Nat.le_refl _⟩ h.1 h.2
theorem d_X12_readsPrice_0 : decode M_X12_readsPrice.2.1 0 = .ok (.aload_n 0, 1) := by decide +kernel
theorem d_X12_readsPrice_1 : decode M_X12_readsPrice.2.1 1 = .ok (.iconst 3, 1) := by decide +kernel
theorem d_X12_readsPrice_2 : decode M_X12_readsPrice.2.1 2 = .ok (.invokevirtual 342, 3) := by decide +kernel
theorem d_X12_readsPrice_5 : decode M_X12_readsPrice.2.1 5 = .ok (.ifCond .eq 9, 3) := by decide +kernel
theorem d_X12_readsPrice_8 : decode M_X12_readsPrice.2.1 8 = .ok (.aload_n 0, 1) := by decide +kernel
theorem d_X12_readsPrice_9 : decode M_X12_readsPrice.2.1 9 = .ok (.iconst 3, 1) := by decide +kernel
theorem d_X12_readsPrice_10 : decode M_X12_readsPrice.2.1 10 = .ok (.invokevirtual 244, 3) := by decide +kernel
theorem d_X12_readsPrice_13 : decode M_X12_readsPrice.2.1 13 = .ok (.ireturn, 1) := by decide +kernel
theorem d_X12_readsPrice_14 : decode M_X12_readsPrice.2.1 14 = .ok (.aload_n 0, 1) := by decide +kernel
theorem d_X12_readsPrice_15 : decode M_X12_readsPrice.2.1 15 = .ok (.invokevirtual 250, 3) := by decide +kernel
theorem d_X12_readsPrice_18 : decode M_X12_readsPrice.2.1 18 = .ok (.iconst 0, 1) := by decide +kernel
theorem d_X12_readsPrice_19 : decode M_X12_readsPrice.2.1 19 = .ok (.istore_n 1, 1) := by decide +kernel
theorem d_X12_readsPrice_20 : decode M_X12_readsPrice.2.1 20 = .ok (.iload_n 1, 1) := by decide +kernel
theorem d_X12_readsPrice_21 : decode M_X12_readsPrice.2.1 21 = .ok (.iconst 4, 1) := by decide +kernel
theorem d_X12_readsPrice_22 : decode M_X12_readsPrice.2.1 22 = .ok (.if_icmp .ge 34, 3) := by decide +kernel
theorem d_X12_readsPrice_25 : decode M_X12_readsPrice.2.1 25 = .ok (.aload_n 0, 1) := by decide +kernel
theorem d_X12_readsPrice_26 : decode M_X12_readsPrice.2.1 26 = .ok (.iconst 0, 1) := by decide +kernel
theorem d_X12_readsPrice_27 : decode M_X12_readsPrice.2.1 27 = .ok (.bipush 99, 2) := by decide +kernel
theorem d_X12_readsPrice_29 : decode M_X12_readsPrice.2.1 29 = .ok (.invokevirtual 318, 3) := by decide +kernel
theorem d_X12_readsPrice_32 : decode M_X12_readsPrice.2.1 32 = .ok (.ifCond .ne 5, 3) := by decide +kernel
theorem d_X12_readsPrice_35 : decode M_X12_readsPrice.2.1 35 = .ok (.iconst 0, 1) := by decide +kernel
theorem d_X12_readsPrice_36 : decode M_X12_readsPrice.2.1 36 = .ok (.ireturn, 1) := by decide +kernel
theorem d_X12_readsPrice_37 : decode M_X12_readsPrice.2.1 37 = .ok (.aload_n 0, 1) := by decide +kernel
theorem d_X12_readsPrice_38 : decode M_X12_readsPrice.2.1 38 = .ok (.getfield 13, 3) := by decide +kernel
theorem d_X12_readsPrice_41 : decode M_X12_readsPrice.2.1 41 = .ok (.bipush 15, 2) := by decide +kernel
theorem d_X12_readsPrice_43 : decode M_X12_readsPrice.2.1 43 = .ok (.iload_n 1, 1) := by decide +kernel
theorem d_X12_readsPrice_44 : decode M_X12_readsPrice.2.1 44 = .ok (.iadd, 1) := by decide +kernel
theorem d_X12_readsPrice_45 : decode M_X12_readsPrice.2.1 45 = .ok (.aload_n 0, 1) := by decide +kernel
theorem d_X12_readsPrice_46 : decode M_X12_readsPrice.2.1 46 = .ok (.getfield 312, 3) := by decide +kernel
theorem d_X12_readsPrice_49 : decode M_X12_readsPrice.2.1 49 = .ok (.iastore, 1) := by decide +kernel
theorem d_X12_readsPrice_50 : decode M_X12_readsPrice.2.1 50 = .ok (.iinc 1 1, 3) := by decide +kernel
theorem d_X12_readsPrice_53 : decode M_X12_readsPrice.2.1 53 = .ok (.goto (-33), 3) := by decide +kernel
theorem d_X12_readsPrice_56 : decode M_X12_readsPrice.2.1 56 = .ok (.aload_n 0, 1) := by decide +kernel
theorem d_X12_readsPrice_57 : decode M_X12_readsPrice.2.1 57 = .ok (.invokevirtual 336, 3) := by decide +kernel
theorem d_X12_readsPrice_60 : decode M_X12_readsPrice.2.1 60 = .ok (.ireturn, 1) := by decide +kernel
set_option maxRecDepth 20000 in
theorem s_X12_readsPrice_0 {d : Nat}  {G : Mem} {Q : Int → Mem → Prop}  (h : Ct d M_X12_isTwice NT 0 0 (some lay) [(2, 311), (0, 3)] G (fun r2 G1 => (InR r2) ∧ ((r2 = 0) → Ct d M_X12_nextToken NT 0 0 (some lay) [(2, 311)] G1 (fun r6 G5 => Rn (d + 1) M_X12_readsPrice zN 20 [(0, (2, 311)), (1, (0, 0))] [] G5 Q)) ∧ (¬ (r2 = 0) → Ct d M_X12_fails NT 0 0 (some lay) [(2, 311), (0, 3)] G1 (fun r8 G7 => (r8 = 0 ∨ r8 = 1) ∧ Q r8 G7)))) : Rn (d + 1) M_X12_readsPrice zN 0 [(0, (2, 311))] [] G Q := by
  refine r_aload_n d_X12_readsPrice_0 0 rfl rfl ?_
  refine r_iconst d_X12_readsPrice_1 ?_
  refine r_callV0 (M' := M_X12_isTwice) (ci := 12) [(0, 3)] d_X12_readsPrice_2 cl_X12_342 rfl (Nat.le_of_ble_eq_true rfl) (by decide) rfl (bs_ob bs_12) ?_
  refine Ct.mono h (fun r2 G1 h => ?_)
  show Rn _ M_X12_readsPrice zN 5 [(0, (2, 311))] [(0, r2)] G1 Q
  obtain ⟨h3, h⟩ := h
  refine r_if_eq (tgt := 14) d_X12_readsPrice_5 (by decide) h3 (fun c4 => ?_) (fun c4 => ?_)
  · replace h := h.1 c4
    refine r_aload_n d_X12_readsPrice_14 0 rfl rfl ?_
    refine r_callV0 (M' := M_X12_nextToken) (ci := 12) [] d_X12_readsPrice_15 cl_X12_250 rfl (Nat.le_of_ble_eq_true rfl) (by decide) rfl (bs_ob bs_12) ?_
    refine Ct.mono h (fun r6 G5 h => ?_)
    show Rn _ M_X12_readsPrice zN 18 [(0, (2, 311))] [] G5 Q
    refine r_iconst d_X12_readsPrice_18 ?_
    refine r_istore_n (ls1 := [(1, (0, 0)), (0, (2, 311))]) d_X12_readsPrice_19 rfl (by decide) rfl ?_
    exact Rn.sub [1, 0] rfl h
  · replace h := h.2 c4
    refine r_aload_n d_X12_readsPrice_8 0 rfl rfl ?_
    refine r_iconst d_X12_readsPrice_9 ?_
    refine r_callV0 (M' := M_X12_fails) (ci := 12) [(0, 3)] d_X12_readsPrice_10 cl_X12_244 rfl (Nat.le_of_ble_eq_true rfl) (by decide) rfl (bs_ob bs_12) ?_
    refine Ct.mono h (fun r8 G7 h => ?_)
    show Rn _ M_X12_readsPrice zN 13 [(0, (2, 311))] [(0, r8)] G7 Q
    exact r_zreturn d_X12_readsPrice_13 rfl ⟨rfl, Nat.le_refl _, Nat.le_refl _⟩ h.1 h.2
set_option maxRecDepth 20000 in
theorem s_X12_readsPrice_20 {d : Nat} {x1 : Int} {G : Mem} {Q : Int → Mem → Prop}  (h : (InR x1) ∧ ((4 ≤ x1) → Ct d M_X12_ends NT 0 0 (some lay) [(2, 311)] G (fun r4 G3 => (r4 = 0 ∨ r4 = 1) ∧ Q r4 G3)) ∧ (¬ (4 ≤ x1) → Ct d M_X12_needsNumber NT 0 0 (some lay) [(2, 311), (0, 0), (0, 99)] G (fun r6 G5 => (InR r6) ∧ ((r6 ≠ 0) → (0 ≤ (15 + x1) ∧ (15 + x1) < 72) ∧ (∀ G10 : Mem, G10 = st G5 313 (15 + x1) (G5 311 42) → Rn (d + 1) M_X12_readsPrice zN 20 [(0, (2, 311)), (1, (0, (x1 + 1)))] [] G10 Q)) ∧ (¬ (r6 ≠ 0) → Q 0 G5)))) : Rn (d + 1) M_X12_readsPrice zN 20 [(0, (2, 311)), (1, (0, x1))] [] G Q := by
  refine r_iload_n d_X12_readsPrice_20 1 rfl rfl ?_
  refine r_iconst d_X12_readsPrice_21 ?_
  obtain ⟨h1, h⟩ := h
  refine r_icmp_ge (tgt := 56) d_X12_readsPrice_22 (by decide) h1 ⟨by decide, by decide⟩ (fun c2 => ?_) (fun c2 => ?_)
  · replace h := h.1 c2
    refine r_aload_n d_X12_readsPrice_56 0 rfl rfl ?_
    refine r_callV0 (M' := M_X12_ends) (ci := 12) [] d_X12_readsPrice_57 cl_X12_336 rfl (Nat.le_of_ble_eq_true rfl) (by decide) rfl (bs_ob bs_12) ?_
    refine Ct.mono h (fun r4 G3 h => ?_)
    show Rn _ M_X12_readsPrice zN 60 [(0, (2, 311)), (1, (0, x1))] [(0, r4)] G3 Q
    exact r_zreturn d_X12_readsPrice_60 rfl ⟨rfl, Nat.le_refl _, Nat.le_refl _⟩ h.1 h.2
  · replace h := h.2 c2
    refine r_aload_n d_X12_readsPrice_25 0 rfl rfl ?_
    refine r_iconst d_X12_readsPrice_26 ?_
    refine r_bipush d_X12_readsPrice_27 (by decide +kernel) ?_
    refine r_callV0 (M' := M_X12_needsNumber) (ci := 12) [(0, 0), (0, 99)] d_X12_readsPrice_29 cl_X12_318 rfl (Nat.le_of_ble_eq_true rfl) (by decide) rfl (bs_ob bs_12) ?_
    refine Ct.mono h (fun r6 G5 h => ?_)
    show Rn _ M_X12_readsPrice zN 32 [(0, (2, 311)), (1, (0, x1))] [(0, r6)] G5 Q
    obtain ⟨h7, h⟩ := h
    refine r_if_ne (tgt := 37) d_X12_readsPrice_32 (by decide) h7 (fun c8 => ?_) (fun c8 => ?_)
    · replace h := h.1 c8
      refine r_aload_n d_X12_readsPrice_37 0 rfl rfl ?_
      refine r_getL (v := 313) 12 10 10 rfl d_X12_readsPrice_38 fl_X12_13 (by decide) (bs_ob bs_12) (ly_12_10 bs_12).1 (ly_12_10 bs_12).2.1 ?_
      refine r_bipush d_X12_readsPrice_41 (by decide +kernel) ?_
      refine r_iload_n d_X12_readsPrice_43 1 rfl rfl ?_
      refine r_iadd d_X12_readsPrice_44 ?_
      refine r_aload_n d_X12_readsPrice_45 0 rfl rfl ?_
      refine r_getI 12 42 42 rfl d_X12_readsPrice_46 fl_X12_312 (by decide) (bs_ob bs_12) ?_
      obtain ⟨h9, h⟩ := h
      obtain ⟨G10, eG10⟩ : ∃ y : Mem, y = st G5 313 (15 + x1) (G5 311 42) := ⟨_, rfl⟩
      replace h := h G10 eG10
      refine r_iastore d_X12_readsPrice_49 (ly_12_10 bs_12).2.2 h9 ?_
      rw [← eG10]
      refine r_iinc (ls1 := [(1, (0, (x1 + 1))), (0, (2, 311))]) d_X12_readsPrice_50 1 rfl (by decide) rfl ?_
      refine r_goto (tgt := 20) d_X12_readsPrice_53 (by decide) ?_
      exact Rn.sub [1, 0] rfl h
    · replace h := h.2 c8
      refine r_iconst d_X12_readsPrice_35 ?_
      exact r_zreturn d_X12_readsPrice_36 rfl ⟨rfl, Nat.le_refl _, Nat.le_refl _⟩ (by decide) h
theorem d_X12_readsLaw_0 : decode M_X12_readsLaw.2.1 0 = .ok (.aload_n 0, 1) := by decide +kernel
theorem d_X12_readsLaw_1 : decode M_X12_readsLaw.2.1 1 = .ok (.getfield 59, 3) := by decide +kernel
theorem d_X12_readsLaw_4 : decode M_X12_readsLaw.2.1 4 = .ok (.iconst 3, 1) := by decide +kernel
theorem d_X12_readsLaw_5 : decode M_X12_readsLaw.2.1 5 = .ok (.iload_n 1, 1) := by decide +kernel
theorem d_X12_readsLaw_6 : decode M_X12_readsLaw.2.1 6 = .ok (.iadd, 1) := by decide +kernel
theorem d_X12_readsLaw_7 : decode M_X12_readsLaw.2.1 7 = .ok (.iaload, 1) := by decide +kernel
theorem d_X12_readsLaw_8 : decode M_X12_readsLaw.2.1 8 = .ok (.aload_n 0, 1) := by decide +kernel
theorem d_X12_readsLaw_9 : decode M_X12_readsLaw.2.1 9 = .ok (.getfield 56, 3) := by decide +kernel
theorem d_X12_readsLaw_12 : decode M_X12_readsLaw.2.1 12 = .ok (.iconst 3, 1) := by decide +kernel
theorem d_X12_readsLaw_13 : decode M_X12_readsLaw.2.1 13 = .ok (.iload_n 1, 1) := by decide +kernel
theorem d_X12_readsLaw_14 : decode M_X12_readsLaw.2.1 14 = .ok (.iadd, 1) := by decide +kernel
theorem d_X12_readsLaw_15 : decode M_X12_readsLaw.2.1 15 = .ok (.iaload, 1) := by decide +kernel
theorem d_X12_readsLaw_16 : decode M_X12_readsLaw.2.1 16 = .ok (.if_icmp .le 9, 3) := by decide +kernel
theorem d_X12_readsLaw_19 : decode M_X12_readsLaw.2.1 19 = .ok (.aload_n 0, 1) := by decide +kernel
theorem d_X12_readsLaw_20 : decode M_X12_readsLaw.2.1 20 = .ok (.iconst 3, 1) := by decide +kernel
theorem d_X12_readsLaw_21 : decode M_X12_readsLaw.2.1 21 = .ok (.invokevirtual 244, 3) := by decide +kernel
theorem d_X12_readsLaw_24 : decode M_X12_readsLaw.2.1 24 = .ok (.ireturn, 1) := by decide +kernel
theorem d_X12_readsLaw_25 : decode M_X12_readsLaw.2.1 25 = .ok (.aload_n 0, 1) := by decide +kernel
theorem d_X12_readsLaw_26 : decode M_X12_readsLaw.2.1 26 = .ok (.iload_n 1, 1) := by decide +kernel
theorem d_X12_readsLaw_27 : decode M_X12_readsLaw.2.1 27 = .ok (.putfield 213, 3) := by decide +kernel
theorem d_X12_readsLaw_30 : decode M_X12_readsLaw.2.1 30 = .ok (.aload_n 0, 1) := by decide +kernel
theorem d_X12_readsLaw_31 : decode M_X12_readsLaw.2.1 31 = .ok (.invokevirtual 250, 3) := by decide +kernel
theorem d_X12_readsLaw_34 : decode M_X12_readsLaw.2.1 34 = .ok (.aload_n 0, 1) := by decide +kernel
theorem d_X12_readsLaw_35 : decode M_X12_readsLaw.2.1 35 = .ok (.getfield 56, 3) := by decide +kernel
theorem d_X12_readsLaw_38 : decode M_X12_readsLaw.2.1 38 = .ok (.iconst 3, 1) := by decide +kernel
theorem d_X12_readsLaw_39 : decode M_X12_readsLaw.2.1 39 = .ok (.iload_n 1, 1) := by decide +kernel
theorem d_X12_readsLaw_40 : decode M_X12_readsLaw.2.1 40 = .ok (.iadd, 1) := by decide +kernel
theorem d_X12_readsLaw_41 : decode M_X12_readsLaw.2.1 41 = .ok (.aload_n 0, 1) := by decide +kernel
theorem d_X12_readsLaw_42 : decode M_X12_readsLaw.2.1 42 = .ok (.getfield 208, 3) := by decide +kernel
theorem d_X12_readsLaw_45 : decode M_X12_readsLaw.2.1 45 = .ok (.iastore, 1) := by decide +kernel
theorem d_X12_readsLaw_46 : decode M_X12_readsLaw.2.1 46 = .ok (.aload_n 0, 1) := by decide +kernel
theorem d_X12_readsLaw_47 : decode M_X12_readsLaw.2.1 47 = .ok (.invokevirtual 345, 3) := by decide +kernel
theorem d_X12_readsLaw_50 : decode M_X12_readsLaw.2.1 50 = .ok (.ifCond .ne 5, 3) := by decide +kernel
theorem d_X12_readsLaw_53 : decode M_X12_readsLaw.2.1 53 = .ok (.iconst 0, 1) := by decide +kernel
theorem d_X12_readsLaw_54 : decode M_X12_readsLaw.2.1 54 = .ok (.ireturn, 1) := by decide +kernel
theorem d_X12_readsLaw_55 : decode M_X12_readsLaw.2.1 55 = .ok (.aload_n 0, 1) := by decide +kernel
theorem d_X12_readsLaw_56 : decode M_X12_readsLaw.2.1 56 = .ok (.getfield 59, 3) := by decide +kernel
theorem d_X12_readsLaw_59 : decode M_X12_readsLaw.2.1 59 = .ok (.iconst 3, 1) := by decide +kernel
theorem d_X12_readsLaw_60 : decode M_X12_readsLaw.2.1 60 = .ok (.iload_n 1, 1) := by decide +kernel
theorem d_X12_readsLaw_61 : decode M_X12_readsLaw.2.1 61 = .ok (.iadd, 1) := by decide +kernel
theorem d_X12_readsLaw_62 : decode M_X12_readsLaw.2.1 62 = .ok (.aload_n 0, 1) := by decide +kernel
theorem d_X12_readsLaw_63 : decode M_X12_readsLaw.2.1 63 = .ok (.getfield 208, 3) := by decide +kernel
theorem d_X12_readsLaw_66 : decode M_X12_readsLaw.2.1 66 = .ok (.iastore, 1) := by decide +kernel
theorem d_X12_readsLaw_67 : decode M_X12_readsLaw.2.1 67 = .ok (.iconst 1, 1) := by decide +kernel
theorem d_X12_readsLaw_68 : decode M_X12_readsLaw.2.1 68 = .ok (.ireturn, 1) := by decide +kernel
set_option maxRecDepth 20000 in
theorem s_X12_readsLaw_0 {d : Nat} {p0 : Int} {G : Mem} {Q : Int → Mem → Prop}  (h : (0 ≤ (3 + p0) ∧ (3 + p0) < 18) ∧ ((InR (G 328 (3 + p0))) ∧ (InR (G 327 (3 + p0))) ∧ (((G 328 (3 + p0)) ≤ (G 327 (3 + p0))) → (∀ G5 : Mem, G5 = st G 311 29 p0 → Ct d M_X12_nextToken NT 0 0 (some lay) [(2, 311)] G5 (fun r7 G6 => (∀ G8 : Mem, G8 = st G6 327 (3 + p0) (G6 311 27) → Ct d M_X12_reads NT 0 0 (some lay) [(2, 311)] G8 (fun r10 G9 => (InR r10) ∧ ((r10 ≠ 0) → (∀ G13 : Mem, G13 = st G9 328 (3 + p0) (G9 311 27) → Q 1 G13)) ∧ (¬ (r10 ≠ 0) → Q 0 G9)))))) ∧ (¬ ((G 328 (3 + p0)) ≤ (G 327 (3 + p0))) → Ct d M_X12_fails NT 0 0 (some lay) [(2, 311), (0, 3)] G (fun r15 G14 => (r15 = 0 ∨ r15 = 1) ∧ Q r15 G14)))) : Rn (d + 1) M_X12_readsLaw zN 0 [(0, (2, 311)), (1, (0, p0))] [] G Q := by
  refine r_aload_n d_X12_readsLaw_0 0 rfl rfl ?_
  refine r_getL (v := 328) 12 25 25 rfl d_X12_readsLaw_1 fl_X12_59 (by decide) (bs_ob bs_12) (ly_12_25 bs_12).1 (ly_12_25 bs_12).2.1 ?_
  refine r_iconst d_X12_readsLaw_4 ?_
  refine r_iload_n d_X12_readsLaw_5 1 rfl rfl ?_
  refine r_iadd d_X12_readsLaw_6 ?_
  obtain ⟨h1, h⟩ := h
  refine r_iaload d_X12_readsLaw_7 (ly_12_25 bs_12).2.2 h1 ?_
  refine r_aload_n d_X12_readsLaw_8 0 rfl rfl ?_
  refine r_getL (v := 327) 12 24 24 rfl d_X12_readsLaw_9 fl_X12_56 (by decide) (bs_ob bs_12) (ly_12_24 bs_12).1 (ly_12_24 bs_12).2.1 ?_
  refine r_iconst d_X12_readsLaw_12 ?_
  refine r_iload_n d_X12_readsLaw_13 1 rfl rfl ?_
  refine r_iadd d_X12_readsLaw_14 ?_
  refine r_iaload d_X12_readsLaw_15 (ly_12_24 bs_12).2.2 h1 ?_
  obtain ⟨h2, h⟩ := h
  obtain ⟨h3, h⟩ := h
  refine r_icmp_le (tgt := 25) d_X12_readsLaw_16 (by decide) h2 h3 (fun c4 => ?_) (fun c4 => ?_)
  · replace h := h.1 c4
    refine r_aload_n d_X12_readsLaw_25 0 rfl rfl ?_
    refine r_iload_n d_X12_readsLaw_26 1 rfl rfl ?_
    obtain ⟨G5, eG5⟩ : ∃ y : Mem, y = st G 311 29 p0 := ⟨_, rfl⟩
    replace h := h G5 eG5
    refine r_putI 12 29 29 rfl d_X12_readsLaw_27 fl_X12_213 (by decide) nofin_12_29 (bs_ob bs_12) ?_
    rw [← eG5]
    refine r_aload_n d_X12_readsLaw_30 0 rfl rfl ?_
    refine r_callV0 (M' := M_X12_nextToken) (ci := 12) [] d_X12_readsLaw_31 cl_X12_250 rfl (Nat.le_of_ble_eq_true rfl) (by decide) rfl (bs_ob bs_12) ?_
    refine Ct.mono h (fun r7 G6 h => ?_)
    show Rn _ M_X12_readsLaw zN 34 [(0, (2, 311)), (1, (0, p0))] [] G6 Q
    refine r_aload_n d_X12_readsLaw_34 0 rfl rfl ?_
    refine r_getL (v := 327) 12 24 24 rfl d_X12_readsLaw_35 fl_X12_56 (by decide) (bs_ob bs_12) (ly_12_24 bs_12).1 (ly_12_24 bs_12).2.1 ?_
    refine r_iconst d_X12_readsLaw_38 ?_
    refine r_iload_n d_X12_readsLaw_39 1 rfl rfl ?_
    refine r_iadd d_X12_readsLaw_40 ?_
    refine r_aload_n d_X12_readsLaw_41 0 rfl rfl ?_
    refine r_getI 12 27 27 rfl d_X12_readsLaw_42 fl_X12_208 (by decide) (bs_ob bs_12) ?_
    obtain ⟨G8, eG8⟩ : ∃ y : Mem, y = st G6 327 (3 + p0) (G6 311 27) := ⟨_, rfl⟩
    replace h := h G8 eG8
    refine r_iastore d_X12_readsLaw_45 (ly_12_24 bs_12).2.2 h1 ?_
    rw [← eG8]
    refine r_aload_n d_X12_readsLaw_46 0 rfl rfl ?_
    refine r_callV0 (M' := M_X12_reads) (ci := 12) [] d_X12_readsLaw_47 cl_X12_345 rfl (Nat.le_of_ble_eq_true rfl) (by decide) rfl (bs_ob bs_12) ?_
    refine Ct.mono h (fun r10 G9 h => ?_)
    show Rn _ M_X12_readsLaw zN 50 [(0, (2, 311)), (1, (0, p0))] [(0, r10)] G9 Q
    obtain ⟨h11, h⟩ := h
    refine r_if_ne (tgt := 55) d_X12_readsLaw_50 (by decide) h11 (fun c12 => ?_) (fun c12 => ?_)
    · replace h := h.1 c12
      refine r_aload_n d_X12_readsLaw_55 0 rfl rfl ?_
      refine r_getL (v := 328) 12 25 25 rfl d_X12_readsLaw_56 fl_X12_59 (by decide) (bs_ob bs_12) (ly_12_25 bs_12).1 (ly_12_25 bs_12).2.1 ?_
      refine r_iconst d_X12_readsLaw_59 ?_
      refine r_iload_n d_X12_readsLaw_60 1 rfl rfl ?_
      refine r_iadd d_X12_readsLaw_61 ?_
      refine r_aload_n d_X12_readsLaw_62 0 rfl rfl ?_
      refine r_getI 12 27 27 rfl d_X12_readsLaw_63 fl_X12_208 (by decide) (bs_ob bs_12) ?_
      obtain ⟨G13, eG13⟩ : ∃ y : Mem, y = st G9 328 (3 + p0) (G9 311 27) := ⟨_, rfl⟩
      replace h := h G13 eG13
      refine r_iastore d_X12_readsLaw_66 (ly_12_25 bs_12).2.2 h1 ?_
      rw [← eG13]
      refine r_iconst d_X12_readsLaw_67 ?_
      exact r_zreturn d_X12_readsLaw_68 rfl ⟨rfl, Nat.le_refl _, Nat.le_refl _⟩ (by decide) h
    · replace h := h.2 c12
      refine r_iconst d_X12_readsLaw_53 ?_
      exact r_zreturn d_X12_readsLaw_54 rfl ⟨rfl, Nat.le_refl _, Nat.le_refl _⟩ (by decide) h
  · replace h := h.2 c4
    refine r_aload_n d_X12_readsLaw_19 0 rfl rfl ?_
    refine r_iconst d_X12_readsLaw_20 ?_
    refine r_callV0 (M' := M_X12_fails) (ci := 12) [(0, 3)] d_X12_readsLaw_21 cl_X12_244 rfl (Nat.le_of_ble_eq_true rfl) (by decide) rfl (bs_ob bs_12) ?_
    refine Ct.mono h (fun r15 G14 h => ?_)
    show Rn _ M_X12_readsLaw zN 24 [(0, (2, 311)), (1, (0, p0))] [(0, r15)] G14 Q
    exact r_zreturn d_X12_readsLaw_24 rfl ⟨rfl, Nat.le_refl _, Nat.le_refl _⟩ h.1 h.2
theorem d_X12_readsAll_0 : decode M_X12_readsAll.2.1 0 = .ok (.aload_n 0, 1) := by decide +kernel
theorem d_X12_readsAll_1 : decode M_X12_readsAll.2.1 1 = .ok (.iconst 1, 1) := by decide +kernel
theorem d_X12_readsAll_2 : decode M_X12_readsAll.2.1 2 = .ok (.invokevirtual 165, 3) := by decide +kernel
theorem d_X12_readsAll_5 : decode M_X12_readsAll.2.1 5 = .ok (.aload_n 0, 1) := by decide +kernel
theorem d_X12_readsAll_6 : decode M_X12_readsAll.2.1 6 = .ok (.iconst 0, 1) := by decide +kernel
theorem d_X12_readsAll_7 : decode M_X12_readsAll.2.1 7 = .ok (.putfield 339, 3) := by decide +kernel
theorem d_X12_readsAll_10 : decode M_X12_readsAll.2.1 10 = .ok (.aload_n 0, 1) := by decide +kernel
theorem d_X12_readsAll_11 : decode M_X12_readsAll.2.1 11 = .ok (.sipush 1000, 3) := by decide +kernel
theorem d_X12_readsAll_14 : decode M_X12_readsAll.2.1 14 = .ok (.putfield 208, 3) := by decide +kernel
theorem d_X12_readsAll_17 : decode M_X12_readsAll.2.1 17 = .ok (.aload_n 0, 1) := by decide +kernel
theorem d_X12_readsAll_18 : decode M_X12_readsAll.2.1 18 = .ok (.aload_n 0, 1) := by decide +kernel
theorem d_X12_readsAll_19 : decode M_X12_readsAll.2.1 19 = .ok (.getfield 175, 3) := by decide +kernel
theorem d_X12_readsAll_22 : decode M_X12_readsAll.2.1 22 = .ok (.putfield 178, 3) := by decide +kernel
theorem d_X12_readsAll_25 : decode M_X12_readsAll.2.1 25 = .ok (.aload_n 0, 1) := by decide +kernel
theorem d_X12_readsAll_26 : decode M_X12_readsAll.2.1 26 = .ok (.iconst 0, 1) := by decide +kernel
theorem d_X12_readsAll_27 : decode M_X12_readsAll.2.1 27 = .ok (.putfield 175, 3) := by decide +kernel
theorem d_X12_readsAll_30 : decode M_X12_readsAll.2.1 30 = .ok (.aload_n 0, 1) := by decide +kernel
theorem d_X12_readsAll_31 : decode M_X12_readsAll.2.1 31 = .ok (.iconst 0, 1) := by decide +kernel
theorem d_X12_readsAll_32 : decode M_X12_readsAll.2.1 32 = .ok (.putfield 181, 3) := by decide +kernel
theorem d_X12_readsAll_35 : decode M_X12_readsAll.2.1 35 = .ok (.aload_n 0, 1) := by decide +kernel
theorem d_X12_readsAll_36 : decode M_X12_readsAll.2.1 36 = .ok (.invokevirtual 250, 3) := by decide +kernel
theorem d_X12_readsAll_39 : decode M_X12_readsAll.2.1 39 = .ok (.aload_n 0, 1) := by decide +kernel
theorem d_X12_readsAll_40 : decode M_X12_readsAll.2.1 40 = .ok (.ldc2_w 266, 3) := by decide +kernel
theorem d_X12_readsAll_43 : decode M_X12_readsAll.2.1 43 = .ok (.iconst 2, 1) := by decide +kernel
theorem d_X12_readsAll_44 : decode M_X12_readsAll.2.1 44 = .ok (.iconst 5, 1) := by decide +kernel
theorem d_X12_readsAll_45 : decode M_X12_readsAll.2.1 45 = .ok (.invokevirtual 332, 3) := by decide +kernel
theorem d_X12_readsAll_48 : decode M_X12_readsAll.2.1 48 = .ok (.ifCond .ne 5, 3) := by decide +kernel
theorem d_X12_readsAll_51 : decode M_X12_readsAll.2.1 51 = .ok (.iconst 0, 1) := by decide +kernel
theorem d_X12_readsAll_52 : decode M_X12_readsAll.2.1 52 = .ok (.ireturn, 1) := by decide +kernel
theorem d_X12_readsAll_53 : decode M_X12_readsAll.2.1 53 = .ok (.aload_n 0, 1) := by decide +kernel
theorem d_X12_readsAll_54 : decode M_X12_readsAll.2.1 54 = .ok (.getfield 13, 3) := by decide +kernel
theorem d_X12_readsAll_57 : decode M_X12_readsAll.2.1 57 = .ok (.bipush 12, 2) := by decide +kernel
theorem d_X12_readsAll_59 : decode M_X12_readsAll.2.1 59 = .ok (.aload_n 0, 1) := by decide +kernel
theorem d_X12_readsAll_60 : decode M_X12_readsAll.2.1 60 = .ok (.getfield 312, 3) := by decide +kernel
theorem d_X12_readsAll_63 : decode M_X12_readsAll.2.1 63 = .ok (.iastore, 1) := by decide +kernel
theorem d_X12_readsAll_64 : decode M_X12_readsAll.2.1 64 = .ok (.aload_n 0, 1) := by decide +kernel
theorem d_X12_readsAll_65 : decode M_X12_readsAll.2.1 65 = .ok (.ldc2_w 268, 3) := by decide +kernel
theorem d_X12_readsAll_68 : decode M_X12_readsAll.2.1 68 = .ok (.iconst 1, 1) := by decide +kernel
theorem d_X12_readsAll_69 : decode M_X12_readsAll.2.1 69 = .ok (.bipush 72, 2) := by decide +kernel
theorem d_X12_readsAll_71 : decode M_X12_readsAll.2.1 71 = .ok (.invokevirtual 332, 3) := by decide +kernel
theorem d_X12_readsAll_74 : decode M_X12_readsAll.2.1 74 = .ok (.ifCond .ne 5, 3) := by decide +kernel
theorem d_X12_readsAll_77 : decode M_X12_readsAll.2.1 77 = .ok (.iconst 0, 1) := by decide +kernel
theorem d_X12_readsAll_78 : decode M_X12_readsAll.2.1 78 = .ok (.ireturn, 1) := by decide +kernel
theorem d_X12_readsAll_79 : decode M_X12_readsAll.2.1 79 = .ok (.aload_n 0, 1) := by decide +kernel
theorem d_X12_readsAll_80 : decode M_X12_readsAll.2.1 80 = .ok (.getfield 13, 3) := by decide +kernel
theorem d_X12_readsAll_83 : decode M_X12_readsAll.2.1 83 = .ok (.bipush 13, 2) := by decide +kernel
theorem d_X12_readsAll_85 : decode M_X12_readsAll.2.1 85 = .ok (.aload_n 0, 1) := by decide +kernel
theorem d_X12_readsAll_86 : decode M_X12_readsAll.2.1 86 = .ok (.getfield 312, 3) := by decide +kernel
theorem d_X12_readsAll_89 : decode M_X12_readsAll.2.1 89 = .ok (.iastore, 1) := by decide +kernel
theorem d_X12_readsAll_90 : decode M_X12_readsAll.2.1 90 = .ok (.aload_n 0, 1) := by decide +kernel
theorem d_X12_readsAll_91 : decode M_X12_readsAll.2.1 91 = .ok (.invokevirtual 336, 3) := by decide +kernel
theorem d_X12_readsAll_94 : decode M_X12_readsAll.2.1 94 = .ok (.ifCond .ne 5, 3) := by decide +kernel
theorem d_X12_readsAll_97 : decode M_X12_readsAll.2.1 97 = .ok (.iconst 0, 1) := by decide +kernel
theorem d_X12_readsAll_98 : decode M_X12_readsAll.2.1 98 = .ok (.ireturn, 1) := by decide +kernel
theorem d_X12_readsAll_99 : decode M_X12_readsAll.2.1 99 = .ok (.aload_n 0, 1) := by decide +kernel
theorem d_X12_readsAll_100 : decode M_X12_readsAll.2.1 100 = .ok (.getfield 194, 3) := by decide +kernel
theorem d_X12_readsAll_103 : decode M_X12_readsAll.2.1 103 = .ok (.ifCond .eq 204, 3) := by decide +kernel
theorem d_X12_readsAll_106 : decode M_X12_readsAll.2.1 106 = .ok (.aload_n 0, 1) := by decide +kernel
theorem d_X12_readsAll_107 : decode M_X12_readsAll.2.1 107 = .ok (.ldc2_w 270, 3) := by decide +kernel
theorem d_X12_readsAll_110 : decode M_X12_readsAll.2.1 110 = .ok (.invokevirtual 236, 3) := by decide +kernel
theorem d_X12_readsAll_113 : decode M_X12_readsAll.2.1 113 = .ok (.ifCond .eq 10, 3) := by decide +kernel
theorem d_X12_readsAll_116 : decode M_X12_readsAll.2.1 116 = .ok (.aload_n 0, 1) := by decide +kernel
theorem d_X12_readsAll_117 : decode M_X12_readsAll.2.1 117 = .ok (.invokevirtual 348, 3) := by decide +kernel
theorem d_X12_readsAll_120 : decode M_X12_readsAll.2.1 120 = .ok (.goto 177, 3) := by decide +kernel
theorem d_X12_readsAll_123 : decode M_X12_readsAll.2.1 123 = .ok (.aload_n 0, 1) := by decide +kernel
theorem d_X12_readsAll_124 : decode M_X12_readsAll.2.1 124 = .ok (.ldc2_w 222, 3) := by decide +kernel
theorem d_X12_readsAll_127 : decode M_X12_readsAll.2.1 127 = .ok (.invokevirtual 236, 3) := by decide +kernel
theorem d_X12_readsAll_130 : decode M_X12_readsAll.2.1 130 = .ok (.ifCond .eq 10, 3) := by decide +kernel
theorem d_X12_readsAll_133 : decode M_X12_readsAll.2.1 133 = .ok (.aload_n 0, 1) := by decide +kernel
theorem d_X12_readsAll_134 : decode M_X12_readsAll.2.1 134 = .ok (.invokevirtual 351, 3) := by decide +kernel
theorem d_X12_readsAll_137 : decode M_X12_readsAll.2.1 137 = .ok (.goto 160, 3) := by decide +kernel
theorem d_X12_readsAll_140 : decode M_X12_readsAll.2.1 140 = .ok (.aload_n 0, 1) := by decide +kernel
theorem d_X12_readsAll_141 : decode M_X12_readsAll.2.1 141 = .ok (.ldc2_w 284, 3) := by decide +kernel
theorem d_X12_readsAll_144 : decode M_X12_readsAll.2.1 144 = .ok (.invokevirtual 236, 3) := by decide +kernel
theorem d_X12_readsAll_147 : decode M_X12_readsAll.2.1 147 = .ok (.ifCond .eq 12, 3) := by decide +kernel
theorem d_X12_readsAll_150 : decode M_X12_readsAll.2.1 150 = .ok (.aload_n 0, 1) := by decide +kernel
theorem d_X12_readsAll_151 : decode M_X12_readsAll.2.1 151 = .ok (.bipush 9, 2) := by decide +kernel
theorem d_X12_readsAll_153 : decode M_X12_readsAll.2.1 153 = .ok (.invokevirtual 354, 3) := by decide +kernel
theorem d_X12_readsAll_156 : decode M_X12_readsAll.2.1 156 = .ok (.goto 141, 3) := by decide +kernel
theorem d_X12_readsAll_159 : decode M_X12_readsAll.2.1 159 = .ok (.aload_n 0, 1) := by decide +kernel
theorem d_X12_readsAll_160 : decode M_X12_readsAll.2.1 160 = .ok (.ldc2_w 286, 3) := by decide +kernel
theorem d_X12_readsAll_163 : decode M_X12_readsAll.2.1 163 = .ok (.invokevirtual 236, 3) := by decide +kernel
theorem d_X12_readsAll_166 : decode M_X12_readsAll.2.1 166 = .ok (.ifCond .eq 12, 3) := by decide +kernel
theorem d_X12_readsAll_169 : decode M_X12_readsAll.2.1 169 = .ok (.aload_n 0, 1) := by decide +kernel
theorem d_X12_readsAll_170 : decode M_X12_readsAll.2.1 170 = .ok (.bipush 10, 2) := by decide +kernel
theorem d_X12_readsAll_172 : decode M_X12_readsAll.2.1 172 = .ok (.invokevirtual 354, 3) := by decide +kernel
theorem d_X12_readsAll_175 : decode M_X12_readsAll.2.1 175 = .ok (.goto 122, 3) := by decide +kernel
theorem d_X12_readsAll_178 : decode M_X12_readsAll.2.1 178 = .ok (.aload_n 0, 1) := by decide +kernel
theorem d_X12_readsAll_179 : decode M_X12_readsAll.2.1 179 = .ok (.ldc2_w 226, 3) := by decide +kernel
theorem d_X12_readsAll_182 : decode M_X12_readsAll.2.1 182 = .ok (.invokevirtual 236, 3) := by decide +kernel
theorem d_X12_readsAll_185 : decode M_X12_readsAll.2.1 185 = .ok (.ifCond .eq 14, 3) := by decide +kernel
theorem d_X12_readsAll_188 : decode M_X12_readsAll.2.1 188 = .ok (.aload_n 0, 1) := by decide +kernel
theorem d_X12_readsAll_189 : decode M_X12_readsAll.2.1 189 = .ok (.iconst 2, 1) := by decide +kernel
theorem d_X12_readsAll_190 : decode M_X12_readsAll.2.1 190 = .ok (.iconst 5, 1) := by decide +kernel
theorem d_X12_readsAll_191 : decode M_X12_readsAll.2.1 191 = .ok (.bipush 20, 2) := by decide +kernel
theorem d_X12_readsAll_193 : decode M_X12_readsAll.2.1 193 = .ok (.invokevirtual 357, 3) := by decide +kernel
theorem d_X12_readsAll_196 : decode M_X12_readsAll.2.1 196 = .ok (.goto 101, 3) := by decide +kernel
theorem d_X12_readsAll_199 : decode M_X12_readsAll.2.1 199 = .ok (.aload_n 0, 1) := by decide +kernel
theorem d_X12_readsAll_200 : decode M_X12_readsAll.2.1 200 = .ok (.ldc2_w 288, 3) := by decide +kernel
theorem d_X12_readsAll_203 : decode M_X12_readsAll.2.1 203 = .ok (.invokevirtual 236, 3) := by decide +kernel
theorem d_X12_readsAll_206 : decode M_X12_readsAll.2.1 206 = .ok (.ifCond .eq 10, 3) := by decide +kernel
theorem d_X12_readsAll_209 : decode M_X12_readsAll.2.1 209 = .ok (.aload_n 0, 1) := by decide +kernel
theorem d_X12_readsAll_210 : decode M_X12_readsAll.2.1 210 = .ok (.invokevirtual 360, 3) := by decide +kernel
theorem d_X12_readsAll_213 : decode M_X12_readsAll.2.1 213 = .ok (.goto 84, 3) := by decide +kernel
theorem d_X12_readsAll_216 : decode M_X12_readsAll.2.1 216 = .ok (.aload_n 0, 1) := by decide +kernel
theorem d_X12_readsAll_217 : decode M_X12_readsAll.2.1 217 = .ok (.ldc2_w 290, 3) := by decide +kernel
theorem d_X12_readsAll_220 : decode M_X12_readsAll.2.1 220 = .ok (.invokevirtual 236, 3) := by decide +kernel
theorem d_X12_readsAll_223 : decode M_X12_readsAll.2.1 223 = .ok (.ifCond .eq 15, 3) := by decide +kernel
theorem d_X12_readsAll_226 : decode M_X12_readsAll.2.1 226 = .ok (.aload_n 0, 1) := by decide +kernel
theorem d_X12_readsAll_227 : decode M_X12_readsAll.2.1 227 = .ok (.bipush 7, 2) := by decide +kernel
theorem d_X12_readsAll_229 : decode M_X12_readsAll.2.1 229 = .ok (.iconst 0, 1) := by decide +kernel
theorem d_X12_readsAll_230 : decode M_X12_readsAll.2.1 230 = .ok (.bipush 10, 2) := by decide +kernel
theorem d_X12_readsAll_232 : decode M_X12_readsAll.2.1 232 = .ok (.invokevirtual 357, 3) := by decide +kernel
theorem d_X12_readsAll_235 : decode M_X12_readsAll.2.1 235 = .ok (.goto 62, 3) := by decide +kernel
theorem d_X12_readsAll_238 : decode M_X12_readsAll.2.1 238 = .ok (.aload_n 0, 1) := by decide +kernel
theorem d_X12_readsAll_239 : decode M_X12_readsAll.2.1 239 = .ok (.ldc2_w 292, 3) := by decide +kernel
theorem d_X12_readsAll_242 : decode M_X12_readsAll.2.1 242 = .ok (.invokevirtual 236, 3) := by decide +kernel
theorem d_X12_readsAll_245 : decode M_X12_readsAll.2.1 245 = .ok (.ifCond .eq 11, 3) := by decide +kernel
theorem d_X12_readsAll_248 : decode M_X12_readsAll.2.1 248 = .ok (.aload_n 0, 1) := by decide +kernel
theorem d_X12_readsAll_249 : decode M_X12_readsAll.2.1 249 = .ok (.iconst 0, 1) := by decide +kernel
theorem d_X12_readsAll_250 : decode M_X12_readsAll.2.1 250 = .ok (.invokevirtual 363, 3) := by decide +kernel
theorem d_X12_readsAll_253 : decode M_X12_readsAll.2.1 253 = .ok (.goto 44, 3) := by decide +kernel
theorem d_X12_readsAll_256 : decode M_X12_readsAll.2.1 256 = .ok (.aload_n 0, 1) := by decide +kernel
theorem d_X12_readsAll_257 : decode M_X12_readsAll.2.1 257 = .ok (.ldc2_w 294, 3) := by decide +kernel
theorem d_X12_readsAll_260 : decode M_X12_readsAll.2.1 260 = .ok (.invokevirtual 236, 3) := by decide +kernel
theorem d_X12_readsAll_263 : decode M_X12_readsAll.2.1 263 = .ok (.ifCond .eq 11, 3) := by decide +kernel
theorem d_X12_readsAll_266 : decode M_X12_readsAll.2.1 266 = .ok (.aload_n 0, 1) := by decide +kernel
theorem d_X12_readsAll_267 : decode M_X12_readsAll.2.1 267 = .ok (.iconst 1, 1) := by decide +kernel
theorem d_X12_readsAll_268 : decode M_X12_readsAll.2.1 268 = .ok (.invokevirtual 363, 3) := by decide +kernel
theorem d_X12_readsAll_271 : decode M_X12_readsAll.2.1 271 = .ok (.goto 26, 3) := by decide +kernel
theorem d_X12_readsAll_274 : decode M_X12_readsAll.2.1 274 = .ok (.aload_n 0, 1) := by decide +kernel
theorem d_X12_readsAll_275 : decode M_X12_readsAll.2.1 275 = .ok (.ldc2_w 296, 3) := by decide +kernel
theorem d_X12_readsAll_278 : decode M_X12_readsAll.2.1 278 = .ok (.invokevirtual 236, 3) := by decide +kernel
theorem d_X12_readsAll_281 : decode M_X12_readsAll.2.1 281 = .ok (.ifCond .eq 11, 3) := by decide +kernel
theorem d_X12_readsAll_284 : decode M_X12_readsAll.2.1 284 = .ok (.aload_n 0, 1) := by decide +kernel
theorem d_X12_readsAll_285 : decode M_X12_readsAll.2.1 285 = .ok (.iconst 2, 1) := by decide +kernel
theorem d_X12_readsAll_286 : decode M_X12_readsAll.2.1 286 = .ok (.invokevirtual 363, 3) := by decide +kernel
theorem d_X12_readsAll_289 : decode M_X12_readsAll.2.1 289 = .ok (.goto 8, 3) := by decide +kernel
theorem d_X12_readsAll_292 : decode M_X12_readsAll.2.1 292 = .ok (.aload_n 0, 1) := by decide +kernel
theorem d_X12_readsAll_293 : decode M_X12_readsAll.2.1 293 = .ok (.iconst 1, 1) := by decide +kernel
theorem d_X12_readsAll_294 : decode M_X12_readsAll.2.1 294 = .ok (.invokevirtual 244, 3) := by decide +kernel
theorem d_X12_readsAll_297 : decode M_X12_readsAll.2.1 297 = .ok (.istore_n 1, 1) := by decide +kernel
theorem d_X12_readsAll_298 : decode M_X12_readsAll.2.1 298 = .ok (.iload_n 1, 1) := by decide +kernel
theorem d_X12_readsAll_299 : decode M_X12_readsAll.2.1 299 = .ok (.ifCond .ne 5, 3) := by decide +kernel
theorem d_X12_readsAll_302 : decode M_X12_readsAll.2.1 302 = .ok (.iconst 0, 1) := by decide +kernel
theorem d_X12_readsAll_303 : decode M_X12_readsAll.2.1 303 = .ok (.ireturn, 1) := by decide +kernel
theorem d_X12_readsAll_304 : decode M_X12_readsAll.2.1 304 = .ok (.goto (-205), 3) := by decide +kernel
theorem d_X12_readsAll_307 : decode M_X12_readsAll.2.1 307 = .ok (.iconst 1, 1) := by decide +kernel
theorem d_X12_readsAll_308 : decode M_X12_readsAll.2.1 308 = .ok (.ireturn, 1) := by decide +kernel
set_option maxRecDepth 20000 in
theorem s_X12_readsAll_0 {d : Nat}  {G : Mem} {Q : Int → Mem → Prop}  (h : Ct d M_X12_plain NT 0 0 (some lay) [(2, 311), (0, 1)] G (fun r2 G1 => (∀ G3 : Mem, G3 = st G1 311 28 0 → (∀ G4 : Mem, G4 = st G3 311 27 1000 → (∀ G5 : Mem, G5 = st G4 311 3 (G4 311 1) → (∀ G6 : Mem, G6 = st G5 311 1 0 → (∀ G7 : Mem, G7 = st G6 311 4 0 → Ct d M_X12_nextToken NT 0 0 (some lay) [(2, 311)] G7 (fun r9 G8 => Ct d M_X12_needsBoth NT 0 0 (some lay) [(2, 311), (1, 13550), (0, 2), (0, 5)] G8 (fun r11 G10 => (InR r11) ∧ ((r11 ≠ 0) → (∀ G14 : Mem, G14 = st G10 313 12 (G10 311 42) → Ct d M_X12_needsBoth NT 0 0 (some lay) [(2, 311), (1, 92653220), (0, 1), (0, 72)] G14 (fun r16 G15 => (InR r16) ∧ ((r16 ≠ 0) → (∀ G19 : Mem, G19 = st G15 313 13 (G15 311 42) → Ct d M_X12_ends NT 0 0 (some lay) [(2, 311)] G19 (fun r21 G20 => (InR r21) ∧ ((r21 ≠ 0) → Rn (d + 1) M_X12_readsAll zN 99 [(0, (2, 311))] [] G20 Q) ∧ (¬ (r21 ≠ 0) → Q 0 G20)))) ∧ (¬ (r16 ≠ 0) → Q 0 G15)))) ∧ (¬ (r11 ≠ 0) → Q 0 G10)))))))))) : Rn (d + 1) M_X12_readsAll zN 0 [(0, (2, 311))] [] G Q := by
  refine r_aload_n d_X12_readsAll_0 0 rfl rfl ?_
  refine r_iconst d_X12_readsAll_1 ?_
  refine r_callV0 (M' := M_X12_plain) (ci := 12) [(0, 1)] d_X12_readsAll_2 cl_X12_165 rfl (Nat.le_of_ble_eq_true rfl) (by decide) rfl (bs_ob bs_12) ?_
  refine Ct.mono h (fun r2 G1 h => ?_)
  show Rn _ M_X12_readsAll zN 5 [(0, (2, 311))] [] G1 Q
  refine r_aload_n d_X12_readsAll_5 0 rfl rfl ?_
  refine r_iconst d_X12_readsAll_6 ?_
  obtain ⟨G3, eG3⟩ : ∃ y : Mem, y = st G1 311 28 0 := ⟨_, rfl⟩
  replace h := h G3 eG3
  refine r_putI 12 28 28 rfl d_X12_readsAll_7 fl_X12_339 (by decide) nofin_12_28 (bs_ob bs_12) ?_
  rw [← eG3]
  refine r_aload_n d_X12_readsAll_10 0 rfl rfl ?_
  refine r_sipush d_X12_readsAll_11 (by decide +kernel) ?_
  obtain ⟨G4, eG4⟩ : ∃ y : Mem, y = st G3 311 27 1000 := ⟨_, rfl⟩
  replace h := h G4 eG4
  refine r_putI 12 27 27 rfl d_X12_readsAll_14 fl_X12_208 (by decide) nofin_12_27 (bs_ob bs_12) ?_
  rw [← eG4]
  refine r_aload_n d_X12_readsAll_17 0 rfl rfl ?_
  refine r_aload_n d_X12_readsAll_18 0 rfl rfl ?_
  refine r_getI 12 1 1 rfl d_X12_readsAll_19 fl_X12_175 (by decide) (bs_ob bs_12) ?_
  obtain ⟨G5, eG5⟩ : ∃ y : Mem, y = st G4 311 3 (G4 311 1) := ⟨_, rfl⟩
  replace h := h G5 eG5
  refine r_putI 12 3 3 rfl d_X12_readsAll_22 fl_X12_178 (by decide) nofin_12_3 (bs_ob bs_12) ?_
  rw [← eG5]
  refine r_aload_n d_X12_readsAll_25 0 rfl rfl ?_
  refine r_iconst d_X12_readsAll_26 ?_
  obtain ⟨G6, eG6⟩ : ∃ y : Mem, y = st G5 311 1 0 := ⟨_, rfl⟩
  replace h := h G6 eG6
  refine r_putI 12 1 1 rfl d_X12_readsAll_27 fl_X12_175 (by decide) nofin_12_1 (bs_ob bs_12) ?_
  rw [← eG6]
  refine r_aload_n d_X12_readsAll_30 0 rfl rfl ?_
  refine r_iconst d_X12_readsAll_31 ?_
  obtain ⟨G7, eG7⟩ : ∃ y : Mem, y = st G6 311 4 0 := ⟨_, rfl⟩
  replace h := h G7 eG7
  refine r_putI 12 4 4 rfl d_X12_readsAll_32 fl_X12_181 (by decide) nofin_12_4 (bs_ob bs_12) ?_
  rw [← eG7]
  refine r_aload_n d_X12_readsAll_35 0 rfl rfl ?_
  refine r_callV0 (M' := M_X12_nextToken) (ci := 12) [] d_X12_readsAll_36 cl_X12_250 rfl (Nat.le_of_ble_eq_true rfl) (by decide) rfl (bs_ob bs_12) ?_
  refine Ct.mono h (fun r9 G8 h => ?_)
  show Rn _ M_X12_readsAll zN 39 [(0, (2, 311))] [] G8 Q
  refine r_aload_n d_X12_readsAll_39 0 rfl rfl ?_
  refine r_ldc2 (x := 13550) d_X12_readsAll_40 cst_X12_266 ?_
  refine r_iconst d_X12_readsAll_43 ?_
  refine r_iconst d_X12_readsAll_44 ?_
  refine r_callV0 (M' := M_X12_needsBoth) (ci := 12) [(1, 13550), (0, 2), (0, 5)] d_X12_readsAll_45 cl_X12_332 rfl (Nat.le_of_ble_eq_true rfl) (by decide) rfl (bs_ob bs_12) ?_
  refine Ct.mono h (fun r11 G10 h => ?_)
  show Rn _ M_X12_readsAll zN 48 [(0, (2, 311))] [(0, r11)] G10 Q
  obtain ⟨h12, h⟩ := h
  refine r_if_ne (tgt := 53) d_X12_readsAll_48 (by decide) h12 (fun c13 => ?_) (fun c13 => ?_)
  · replace h := h.1 c13
    refine r_aload_n d_X12_readsAll_53 0 rfl rfl ?_
    refine r_getL (v := 313) 12 10 10 rfl d_X12_readsAll_54 fl_X12_13 (by decide) (bs_ob bs_12) (ly_12_10 bs_12).1 (ly_12_10 bs_12).2.1 ?_
    refine r_bipush d_X12_readsAll_57 (by decide +kernel) ?_
    refine r_aload_n d_X12_readsAll_59 0 rfl rfl ?_
    refine r_getI 12 42 42 rfl d_X12_readsAll_60 fl_X12_312 (by decide) (bs_ob bs_12) ?_
    obtain ⟨G14, eG14⟩ : ∃ y : Mem, y = st G10 313 12 (G10 311 42) := ⟨_, rfl⟩
    replace h := h G14 eG14
    refine r_iastore d_X12_readsAll_63 (ly_12_10 bs_12).2.2 (by decide) ?_
    rw [← eG14]
    refine r_aload_n d_X12_readsAll_64 0 rfl rfl ?_
    refine r_ldc2 (x := 92653220) d_X12_readsAll_65 cst_X12_268 ?_
    refine r_iconst d_X12_readsAll_68 ?_
    refine r_bipush d_X12_readsAll_69 (by decide +kernel) ?_
    refine r_callV0 (M' := M_X12_needsBoth) (ci := 12) [(1, 92653220), (0, 1), (0, 72)] d_X12_readsAll_71 cl_X12_332 rfl (Nat.le_of_ble_eq_true rfl) (by decide) rfl (bs_ob bs_12) ?_
    refine Ct.mono h (fun r16 G15 h => ?_)
    show Rn _ M_X12_readsAll zN 74 [(0, (2, 311))] [(0, r16)] G15 Q
    obtain ⟨h17, h⟩ := h
    refine r_if_ne (tgt := 79) d_X12_readsAll_74 (by decide) h17 (fun c18 => ?_) (fun c18 => ?_)
    · replace h := h.1 c18
      refine r_aload_n d_X12_readsAll_79 0 rfl rfl ?_
      refine r_getL (v := 313) 12 10 10 rfl d_X12_readsAll_80 fl_X12_13 (by decide) (bs_ob bs_12) (ly_12_10 bs_12).1 (ly_12_10 bs_12).2.1 ?_
      refine r_bipush d_X12_readsAll_83 (by decide +kernel) ?_
      refine r_aload_n d_X12_readsAll_85 0 rfl rfl ?_
      refine r_getI 12 42 42 rfl d_X12_readsAll_86 fl_X12_312 (by decide) (bs_ob bs_12) ?_
      obtain ⟨G19, eG19⟩ : ∃ y : Mem, y = st G15 313 13 (G15 311 42) := ⟨_, rfl⟩
      replace h := h G19 eG19
      refine r_iastore d_X12_readsAll_89 (ly_12_10 bs_12).2.2 (by decide) ?_
      rw [← eG19]
      refine r_aload_n d_X12_readsAll_90 0 rfl rfl ?_
      refine r_callV0 (M' := M_X12_ends) (ci := 12) [] d_X12_readsAll_91 cl_X12_336 rfl (Nat.le_of_ble_eq_true rfl) (by decide) rfl (bs_ob bs_12) ?_
      refine Ct.mono h (fun r21 G20 h => ?_)
      show Rn _ M_X12_readsAll zN 94 [(0, (2, 311))] [(0, r21)] G20 Q
      obtain ⟨h22, h⟩ := h
      refine r_if_ne (tgt := 99) d_X12_readsAll_94 (by decide) h22 (fun c23 => ?_) (fun c23 => ?_)
      · replace h := h.1 c23
        exact h
      · replace h := h.2 c23
        refine r_iconst d_X12_readsAll_97 ?_
        exact r_zreturn d_X12_readsAll_98 rfl ⟨rfl, Nat.le_refl _, Nat.le_refl _⟩ (by decide) h
    · replace h := h.2 c18
      refine r_iconst d_X12_readsAll_77 ?_
      exact r_zreturn d_X12_readsAll_78 rfl ⟨rfl, Nat.le_refl _, Nat.le_refl _⟩ (by decide) h
  · replace h := h.2 c13
    refine r_iconst d_X12_readsAll_51 ?_
    exact r_zreturn d_X12_readsAll_52 rfl ⟨rfl, Nat.le_refl _, Nat.le_refl _⟩ (by decide) h
set_option maxRecDepth 20000 in
theorem s_X12_readsAll_99 {d : Nat}  {G : Mem} {Q : Int → Mem → Prop}  (h : (InR (G 311 6)) ∧ (((G 311 6) = 0) → Q 1 G) ∧ (¬ ((G 311 6) = 0) → Ct d M_X12_isWord NT 0 0 (some lay) [(2, 311), (1, 277820595)] G (fun r4 G3 => (InR r4) ∧ ((r4 = 0) → Ct d M_X12_isWord NT 0 0 (some lay) [(2, 311), (1, 2770)] G3 (fun r8 G7 => (InR r8) ∧ ((r8 = 0) → Ct d M_X12_isWord NT 0 0 (some lay) [(2, 311), (1, 43355)] G7 (fun r12 G11 => (InR r12) ∧ ((r12 = 0) → Ct d M_X12_isWord NT 0 0 (some lay) [(2, 311), (1, 8014906825)] G11 (fun r16 G15 => (InR r16) ∧ ((r16 = 0) → Ct d M_X12_isWord NT 0 0 (some lay) [(2, 311), (1, 5146)] G15 (fun r20 G19 => (InR r20) ∧ ((r20 = 0) → Ct d M_X12_isWord NT 0 0 (some lay) [(2, 311), (1, 8863997)] G19 (fun r24 G23 => (InR r24) ∧ ((r24 = 0) → Ct d M_X12_isWord NT 0 0 (some lay) [(2, 311), (1, 3293825)] G23 (fun r28 G27 => (InR r28) ∧ ((r28 = 0) → Ct d M_X12_isWord NT 0 0 (some lay) [(2, 311), (1, 453740)] G27 (fun r32 G31 => (InR r32) ∧ ((r32 = 0) → Ct d M_X12_isWord NT 0 0 (some lay) [(2, 311), (1, 10419204)] G31 (fun r36 G35 => (InR r36) ∧ ((r36 = 0) → Ct d M_X12_isWord NT 0 0 (some lay) [(2, 311), (1, 9452057)] G35 (fun r40 G39 => (InR r40) ∧ ((r40 = 0) → Ct d M_X12_fails NT 0 0 (some lay) [(2, 311), (0, 1)] G39 (fun r44 G43 => (InR r44) ∧ ((r44 ≠ 0) → Rn (d + 1) M_X12_readsAll zN 99 [(0, (2, 311))] [] G43 Q) ∧ (¬ (r44 ≠ 0) → Q 0 G43))) ∧ (¬ (r40 = 0) → Ct d M_X12_readsLaw NT 0 0 (some lay) [(2, 311), (0, 2)] G39 (fun r48 G47 => (InR r48) ∧ ((r48 ≠ 0) → Rn (d + 1) M_X12_readsAll zN 99 [(0, (2, 311))] [] G47 Q) ∧ (¬ (r48 ≠ 0) → Q 0 G47))))) ∧ (¬ (r36 = 0) → Ct d M_X12_readsLaw NT 0 0 (some lay) [(2, 311), (0, 1)] G35 (fun r52 G51 => (InR r52) ∧ ((r52 ≠ 0) → Rn (d + 1) M_X12_readsAll zN 99 [(0, (2, 311))] [] G51 Q) ∧ (¬ (r52 ≠ 0) → Q 0 G51))))) ∧ (¬ (r32 = 0) → Ct d M_X12_readsLaw NT 0 0 (some lay) [(2, 311), (0, 0)] G31 (fun r56 G55 => (InR r56) ∧ ((r56 ≠ 0) → Rn (d + 1) M_X12_readsAll zN 99 [(0, (2, 311))] [] G55 Q) ∧ (¬ (r56 ≠ 0) → Q 0 G55))))) ∧ (¬ (r28 = 0) → Ct d M_X12_readsOne NT 0 0 (some lay) [(2, 311), (0, 7), (0, 0), (0, 10)] G27 (fun r60 G59 => (InR r60) ∧ ((r60 ≠ 0) → Rn (d + 1) M_X12_readsAll zN 99 [(0, (2, 311))] [] G59 Q) ∧ (¬ (r60 ≠ 0) → Q 0 G59))))) ∧ (¬ (r24 = 0) → Ct d M_X12_readsPrice NT 0 0 (some lay) [(2, 311)] G23 (fun r64 G63 => (InR r64) ∧ ((r64 ≠ 0) → Rn (d + 1) M_X12_readsAll zN 99 [(0, (2, 311))] [] G63 Q) ∧ (¬ (r64 ≠ 0) → Q 0 G63))))) ∧ (¬ (r20 = 0) → Ct d M_X12_readsOne NT 0 0 (some lay) [(2, 311), (0, 2), (0, 5), (0, 20)] G19 (fun r68 G67 => (InR r68) ∧ ((r68 ≠ 0) → Rn (d + 1) M_X12_readsAll zN 99 [(0, (2, 311))] [] G67 Q) ∧ (¬ (r68 ≠ 0) → Q 0 G67))))) ∧ (¬ (r16 = 0) → Ct d M_X12_readsShut NT 0 0 (some lay) [(2, 311), (0, 10)] G15 (fun r72 G71 => (InR r72) ∧ ((r72 ≠ 0) → Rn (d + 1) M_X12_readsAll zN 99 [(0, (2, 311))] [] G71 Q) ∧ (¬ (r72 ≠ 0) → Q 0 G71))))) ∧ (¬ (r12 = 0) → Ct d M_X12_readsShut NT 0 0 (some lay) [(2, 311), (0, 9)] G11 (fun r76 G75 => (InR r76) ∧ ((r76 ≠ 0) → Rn (d + 1) M_X12_readsAll zN 99 [(0, (2, 311))] [] G75 Q) ∧ (¬ (r76 ≠ 0) → Q 0 G75))))) ∧ (¬ (r8 = 0) → Ct d M_X12_readsCup NT 0 0 (some lay) [(2, 311)] G7 (fun r80 G79 => (InR r80) ∧ ((r80 ≠ 0) → Rn (d + 1) M_X12_readsAll zN 99 [(0, (2, 311))] [] G79 Q) ∧ (¬ (r80 ≠ 0) → Q 0 G79))))) ∧ (¬ (r4 = 0) → Ct d M_X12_readsSitter NT 0 0 (some lay) [(2, 311)] G3 (fun r84 G83 => (InR r84) ∧ ((r84 ≠ 0) → Rn (d + 1) M_X12_readsAll zN 99 [(0, (2, 311))] [] G83 Q) ∧ (¬ (r84 ≠ 0) → Q 0 G83)))))) : Rn (d + 1) M_X12_readsAll zN 99 [(0, (2, 311))] [] G Q := by
  refine r_aload_n d_X12_readsAll_99 0 rfl rfl ?_
  refine r_getI 12 6 6 rfl d_X12_readsAll_100 fl_X12_194 (by decide) (bs_ob bs_12) ?_
  obtain ⟨h1, h⟩ := h
  refine r_if_eq (tgt := 307) d_X12_readsAll_103 (by decide) h1 (fun c2 => ?_) (fun c2 => ?_)
  · replace h := h.1 c2
    refine r_iconst d_X12_readsAll_307 ?_
    exact r_zreturn d_X12_readsAll_308 rfl ⟨rfl, Nat.le_refl _, Nat.le_refl _⟩ (by decide) h
  · replace h := h.2 c2
    refine r_aload_n d_X12_readsAll_106 0 rfl rfl ?_
    refine r_ldc2 (x := 277820595) d_X12_readsAll_107 cst_X12_270 ?_
    refine r_callV0 (M' := M_X12_isWord) (ci := 12) [(1, 277820595)] d_X12_readsAll_110 cl_X12_236 rfl (Nat.le_of_ble_eq_true rfl) (by decide) rfl (bs_ob bs_12) ?_
    refine Ct.mono h (fun r4 G3 h => ?_)
    show Rn _ M_X12_readsAll zN 113 [(0, (2, 311))] [(0, r4)] G3 Q
    obtain ⟨h5, h⟩ := h
    refine r_if_eq (tgt := 123) d_X12_readsAll_113 (by decide) h5 (fun c6 => ?_) (fun c6 => ?_)
    · replace h := h.1 c6
      refine r_aload_n d_X12_readsAll_123 0 rfl rfl ?_
      refine r_ldc2 (x := 2770) d_X12_readsAll_124 cst_X12_222 ?_
      refine r_callV0 (M' := M_X12_isWord) (ci := 12) [(1, 2770)] d_X12_readsAll_127 cl_X12_236 rfl (Nat.le_of_ble_eq_true rfl) (by decide) rfl (bs_ob bs_12) ?_
      refine Ct.mono h (fun r8 G7 h => ?_)
      show Rn _ M_X12_readsAll zN 130 [(0, (2, 311))] [(0, r8)] G7 Q
      obtain ⟨h9, h⟩ := h
      refine r_if_eq (tgt := 140) d_X12_readsAll_130 (by decide) h9 (fun c10 => ?_) (fun c10 => ?_)
      · replace h := h.1 c10
        refine r_aload_n d_X12_readsAll_140 0 rfl rfl ?_
        refine r_ldc2 (x := 43355) d_X12_readsAll_141 cst_X12_284 ?_
        refine r_callV0 (M' := M_X12_isWord) (ci := 12) [(1, 43355)] d_X12_readsAll_144 cl_X12_236 rfl (Nat.le_of_ble_eq_true rfl) (by decide) rfl (bs_ob bs_12) ?_
        refine Ct.mono h (fun r12 G11 h => ?_)
        show Rn _ M_X12_readsAll zN 147 [(0, (2, 311))] [(0, r12)] G11 Q
        obtain ⟨h13, h⟩ := h
        refine r_if_eq (tgt := 159) d_X12_readsAll_147 (by decide) h13 (fun c14 => ?_) (fun c14 => ?_)
        · replace h := h.1 c14
          refine r_aload_n d_X12_readsAll_159 0 rfl rfl ?_
          refine r_ldc2 (x := 8014906825) d_X12_readsAll_160 cst_X12_286 ?_
          refine r_callV0 (M' := M_X12_isWord) (ci := 12) [(1, 8014906825)] d_X12_readsAll_163 cl_X12_236 rfl (Nat.le_of_ble_eq_true rfl) (by decide) rfl (bs_ob bs_12) ?_
          refine Ct.mono h (fun r16 G15 h => ?_)
          show Rn _ M_X12_readsAll zN 166 [(0, (2, 311))] [(0, r16)] G15 Q
          obtain ⟨h17, h⟩ := h
          refine r_if_eq (tgt := 178) d_X12_readsAll_166 (by decide) h17 (fun c18 => ?_) (fun c18 => ?_)
          · replace h := h.1 c18
            refine r_aload_n d_X12_readsAll_178 0 rfl rfl ?_
            refine r_ldc2 (x := 5146) d_X12_readsAll_179 cst_X12_226 ?_
            refine r_callV0 (M' := M_X12_isWord) (ci := 12) [(1, 5146)] d_X12_readsAll_182 cl_X12_236 rfl (Nat.le_of_ble_eq_true rfl) (by decide) rfl (bs_ob bs_12) ?_
            refine Ct.mono h (fun r20 G19 h => ?_)
            show Rn _ M_X12_readsAll zN 185 [(0, (2, 311))] [(0, r20)] G19 Q
            obtain ⟨h21, h⟩ := h
            refine r_if_eq (tgt := 199) d_X12_readsAll_185 (by decide) h21 (fun c22 => ?_) (fun c22 => ?_)
            · replace h := h.1 c22
              refine r_aload_n d_X12_readsAll_199 0 rfl rfl ?_
              refine r_ldc2 (x := 8863997) d_X12_readsAll_200 cst_X12_288 ?_
              refine r_callV0 (M' := M_X12_isWord) (ci := 12) [(1, 8863997)] d_X12_readsAll_203 cl_X12_236 rfl (Nat.le_of_ble_eq_true rfl) (by decide) rfl (bs_ob bs_12) ?_
              refine Ct.mono h (fun r24 G23 h => ?_)
              show Rn _ M_X12_readsAll zN 206 [(0, (2, 311))] [(0, r24)] G23 Q
              obtain ⟨h25, h⟩ := h
              refine r_if_eq (tgt := 216) d_X12_readsAll_206 (by decide) h25 (fun c26 => ?_) (fun c26 => ?_)
              · replace h := h.1 c26
                refine r_aload_n d_X12_readsAll_216 0 rfl rfl ?_
                refine r_ldc2 (x := 3293825) d_X12_readsAll_217 cst_X12_290 ?_
                refine r_callV0 (M' := M_X12_isWord) (ci := 12) [(1, 3293825)] d_X12_readsAll_220 cl_X12_236 rfl (Nat.le_of_ble_eq_true rfl) (by decide) rfl (bs_ob bs_12) ?_
                refine Ct.mono h (fun r28 G27 h => ?_)
                show Rn _ M_X12_readsAll zN 223 [(0, (2, 311))] [(0, r28)] G27 Q
                obtain ⟨h29, h⟩ := h
                refine r_if_eq (tgt := 238) d_X12_readsAll_223 (by decide) h29 (fun c30 => ?_) (fun c30 => ?_)
                · replace h := h.1 c30
                  refine r_aload_n d_X12_readsAll_238 0 rfl rfl ?_
                  refine r_ldc2 (x := 453740) d_X12_readsAll_239 cst_X12_292 ?_
                  refine r_callV0 (M' := M_X12_isWord) (ci := 12) [(1, 453740)] d_X12_readsAll_242 cl_X12_236 rfl (Nat.le_of_ble_eq_true rfl) (by decide) rfl (bs_ob bs_12) ?_
                  refine Ct.mono h (fun r32 G31 h => ?_)
                  show Rn _ M_X12_readsAll zN 245 [(0, (2, 311))] [(0, r32)] G31 Q
                  obtain ⟨h33, h⟩ := h
                  refine r_if_eq (tgt := 256) d_X12_readsAll_245 (by decide) h33 (fun c34 => ?_) (fun c34 => ?_)
                  · replace h := h.1 c34
                    refine r_aload_n d_X12_readsAll_256 0 rfl rfl ?_
                    refine r_ldc2 (x := 10419204) d_X12_readsAll_257 cst_X12_294 ?_
                    refine r_callV0 (M' := M_X12_isWord) (ci := 12) [(1, 10419204)] d_X12_readsAll_260 cl_X12_236 rfl (Nat.le_of_ble_eq_true rfl) (by decide) rfl (bs_ob bs_12) ?_
                    refine Ct.mono h (fun r36 G35 h => ?_)
                    show Rn _ M_X12_readsAll zN 263 [(0, (2, 311))] [(0, r36)] G35 Q
                    obtain ⟨h37, h⟩ := h
                    refine r_if_eq (tgt := 274) d_X12_readsAll_263 (by decide) h37 (fun c38 => ?_) (fun c38 => ?_)
                    · replace h := h.1 c38
                      refine r_aload_n d_X12_readsAll_274 0 rfl rfl ?_
                      refine r_ldc2 (x := 9452057) d_X12_readsAll_275 cst_X12_296 ?_
                      refine r_callV0 (M' := M_X12_isWord) (ci := 12) [(1, 9452057)] d_X12_readsAll_278 cl_X12_236 rfl (Nat.le_of_ble_eq_true rfl) (by decide) rfl (bs_ob bs_12) ?_
                      refine Ct.mono h (fun r40 G39 h => ?_)
                      show Rn _ M_X12_readsAll zN 281 [(0, (2, 311))] [(0, r40)] G39 Q
                      obtain ⟨h41, h⟩ := h
                      refine r_if_eq (tgt := 292) d_X12_readsAll_281 (by decide) h41 (fun c42 => ?_) (fun c42 => ?_)
                      · replace h := h.1 c42
                        refine r_aload_n d_X12_readsAll_292 0 rfl rfl ?_
                        refine r_iconst d_X12_readsAll_293 ?_
                        refine r_callV0 (M' := M_X12_fails) (ci := 12) [(0, 1)] d_X12_readsAll_294 cl_X12_244 rfl (Nat.le_of_ble_eq_true rfl) (by decide) rfl (bs_ob bs_12) ?_
                        refine Ct.mono h (fun r44 G43 h => ?_)
                        show Rn _ M_X12_readsAll zN 297 [(0, (2, 311))] [(0, r44)] G43 Q
                        refine r_istore_n (ls1 := [(1, (0, r44)), (0, (2, 311))]) d_X12_readsAll_297 rfl (by decide) rfl ?_
                        refine r_iload_n d_X12_readsAll_298 0 rfl rfl ?_
                        obtain ⟨h45, h⟩ := h
                        refine r_if_ne (tgt := 304) d_X12_readsAll_299 (by decide) h45 (fun c46 => ?_) (fun c46 => ?_)
                        · replace h := h.1 c46
                          refine r_goto (tgt := 99) d_X12_readsAll_304 (by decide) ?_
                          exact Rn.sub [1] rfl h
                        · replace h := h.2 c46
                          refine r_iconst d_X12_readsAll_302 ?_
                          exact r_zreturn d_X12_readsAll_303 rfl ⟨rfl, Nat.le_refl _, Nat.le_refl _⟩ (by decide) h
                      · replace h := h.2 c42
                        refine r_aload_n d_X12_readsAll_284 0 rfl rfl ?_
                        refine r_iconst d_X12_readsAll_285 ?_
                        refine r_callV0 (M' := M_X12_readsLaw) (ci := 12) [(0, 2)] d_X12_readsAll_286 cl_X12_363 rfl (Nat.le_of_ble_eq_true rfl) (by decide) rfl (bs_ob bs_12) ?_
                        refine Ct.mono h (fun r48 G47 h => ?_)
                        show Rn _ M_X12_readsAll zN 289 [(0, (2, 311))] [(0, r48)] G47 Q
                        refine r_goto (tgt := 297) d_X12_readsAll_289 (by decide) ?_
                        refine r_istore_n (ls1 := [(1, (0, r48)), (0, (2, 311))]) d_X12_readsAll_297 rfl (by decide) rfl ?_
                        refine r_iload_n d_X12_readsAll_298 0 rfl rfl ?_
                        obtain ⟨h49, h⟩ := h
                        refine r_if_ne (tgt := 304) d_X12_readsAll_299 (by decide) h49 (fun c50 => ?_) (fun c50 => ?_)
                        · replace h := h.1 c50
                          refine r_goto (tgt := 99) d_X12_readsAll_304 (by decide) ?_
                          exact Rn.sub [1] rfl h
                        · replace h := h.2 c50
                          refine r_iconst d_X12_readsAll_302 ?_
                          exact r_zreturn d_X12_readsAll_303 rfl ⟨rfl, Nat.le_refl _, Nat.le_refl _⟩ (by decide) h
                    · replace h := h.2 c38
                      refine r_aload_n d_X12_readsAll_266 0 rfl rfl ?_
                      refine r_iconst d_X12_readsAll_267 ?_
                      refine r_callV0 (M' := M_X12_readsLaw) (ci := 12) [(0, 1)] d_X12_readsAll_268 cl_X12_363 rfl (Nat.le_of_ble_eq_true rfl) (by decide) rfl (bs_ob bs_12) ?_
                      refine Ct.mono h (fun r52 G51 h => ?_)
                      show Rn _ M_X12_readsAll zN 271 [(0, (2, 311))] [(0, r52)] G51 Q
                      refine r_goto (tgt := 297) d_X12_readsAll_271 (by decide) ?_
                      refine r_istore_n (ls1 := [(1, (0, r52)), (0, (2, 311))]) d_X12_readsAll_297 rfl (by decide) rfl ?_
                      refine r_iload_n d_X12_readsAll_298 0 rfl rfl ?_
                      obtain ⟨h53, h⟩ := h
                      refine r_if_ne (tgt := 304) d_X12_readsAll_299 (by decide) h53 (fun c54 => ?_) (fun c54 => ?_)
                      · replace h := h.1 c54
                        refine r_goto (tgt := 99) d_X12_readsAll_304 (by decide) ?_
                        exact Rn.sub [1] rfl h
                      · replace h := h.2 c54
                        refine r_iconst d_X12_readsAll_302 ?_
                        exact r_zreturn d_X12_readsAll_303 rfl ⟨rfl, Nat.le_refl _, Nat.le_refl _⟩ (by decide) h
                  · replace h := h.2 c34
                    refine r_aload_n d_X12_readsAll_248 0 rfl rfl ?_
                    refine r_iconst d_X12_readsAll_249 ?_
                    refine r_callV0 (M' := M_X12_readsLaw) (ci := 12) [(0, 0)] d_X12_readsAll_250 cl_X12_363 rfl (Nat.le_of_ble_eq_true rfl) (by decide) rfl (bs_ob bs_12) ?_
                    refine Ct.mono h (fun r56 G55 h => ?_)
                    show Rn _ M_X12_readsAll zN 253 [(0, (2, 311))] [(0, r56)] G55 Q
                    refine r_goto (tgt := 297) d_X12_readsAll_253 (by decide) ?_
                    refine r_istore_n (ls1 := [(1, (0, r56)), (0, (2, 311))]) d_X12_readsAll_297 rfl (by decide) rfl ?_
                    refine r_iload_n d_X12_readsAll_298 0 rfl rfl ?_
                    obtain ⟨h57, h⟩ := h
                    refine r_if_ne (tgt := 304) d_X12_readsAll_299 (by decide) h57 (fun c58 => ?_) (fun c58 => ?_)
                    · replace h := h.1 c58
                      refine r_goto (tgt := 99) d_X12_readsAll_304 (by decide) ?_
                      exact Rn.sub [1] rfl h
                    · replace h := h.2 c58
                      refine r_iconst d_X12_readsAll_302 ?_
                      exact r_zreturn d_X12_readsAll_303 rfl ⟨rfl, Nat.le_refl _, Nat.le_refl _⟩ (by decide) h
                · replace h := h.2 c30
                  refine r_aload_n d_X12_readsAll_226 0 rfl rfl ?_
                  refine r_bipush d_X12_readsAll_227 (by decide +kernel) ?_
                  refine r_iconst d_X12_readsAll_229 ?_
                  refine r_bipush d_X12_readsAll_230 (by decide +kernel) ?_
                  refine r_callV0 (M' := M_X12_readsOne) (ci := 12) [(0, 7), (0, 0), (0, 10)] d_X12_readsAll_232 cl_X12_357 rfl (Nat.le_of_ble_eq_true rfl) (by decide) rfl (bs_ob bs_12) ?_
                  refine Ct.mono h (fun r60 G59 h => ?_)
                  show Rn _ M_X12_readsAll zN 235 [(0, (2, 311))] [(0, r60)] G59 Q
                  refine r_goto (tgt := 297) d_X12_readsAll_235 (by decide) ?_
                  refine r_istore_n (ls1 := [(1, (0, r60)), (0, (2, 311))]) d_X12_readsAll_297 rfl (by decide) rfl ?_
                  refine r_iload_n d_X12_readsAll_298 0 rfl rfl ?_
                  obtain ⟨h61, h⟩ := h
                  refine r_if_ne (tgt := 304) d_X12_readsAll_299 (by decide) h61 (fun c62 => ?_) (fun c62 => ?_)
                  · replace h := h.1 c62
                    refine r_goto (tgt := 99) d_X12_readsAll_304 (by decide) ?_
                    exact Rn.sub [1] rfl h
                  · replace h := h.2 c62
                    refine r_iconst d_X12_readsAll_302 ?_
                    exact r_zreturn d_X12_readsAll_303 rfl ⟨rfl, Nat.le_refl _, Nat.le_refl _⟩ (by decide) h
              · replace h := h.2 c26
                refine r_aload_n d_X12_readsAll_209 0 rfl rfl ?_
                refine r_callV0 (M' := M_X12_readsPrice) (ci := 12) [] d_X12_readsAll_210 cl_X12_360 rfl (Nat.le_of_ble_eq_true rfl) (by decide) rfl (bs_ob bs_12) ?_
                refine Ct.mono h (fun r64 G63 h => ?_)
                show Rn _ M_X12_readsAll zN 213 [(0, (2, 311))] [(0, r64)] G63 Q
                refine r_goto (tgt := 297) d_X12_readsAll_213 (by decide) ?_
                refine r_istore_n (ls1 := [(1, (0, r64)), (0, (2, 311))]) d_X12_readsAll_297 rfl (by decide) rfl ?_
                refine r_iload_n d_X12_readsAll_298 0 rfl rfl ?_
                obtain ⟨h65, h⟩ := h
                refine r_if_ne (tgt := 304) d_X12_readsAll_299 (by decide) h65 (fun c66 => ?_) (fun c66 => ?_)
                · replace h := h.1 c66
                  refine r_goto (tgt := 99) d_X12_readsAll_304 (by decide) ?_
                  exact Rn.sub [1] rfl h
                · replace h := h.2 c66
                  refine r_iconst d_X12_readsAll_302 ?_
                  exact r_zreturn d_X12_readsAll_303 rfl ⟨rfl, Nat.le_refl _, Nat.le_refl _⟩ (by decide) h
            · replace h := h.2 c22
              refine r_aload_n d_X12_readsAll_188 0 rfl rfl ?_
              refine r_iconst d_X12_readsAll_189 ?_
              refine r_iconst d_X12_readsAll_190 ?_
              refine r_bipush d_X12_readsAll_191 (by decide +kernel) ?_
              refine r_callV0 (M' := M_X12_readsOne) (ci := 12) [(0, 2), (0, 5), (0, 20)] d_X12_readsAll_193 cl_X12_357 rfl (Nat.le_of_ble_eq_true rfl) (by decide) rfl (bs_ob bs_12) ?_
              refine Ct.mono h (fun r68 G67 h => ?_)
              show Rn _ M_X12_readsAll zN 196 [(0, (2, 311))] [(0, r68)] G67 Q
              refine r_goto (tgt := 297) d_X12_readsAll_196 (by decide) ?_
              refine r_istore_n (ls1 := [(1, (0, r68)), (0, (2, 311))]) d_X12_readsAll_297 rfl (by decide) rfl ?_
              refine r_iload_n d_X12_readsAll_298 0 rfl rfl ?_
              obtain ⟨h69, h⟩ := h
              refine r_if_ne (tgt := 304) d_X12_readsAll_299 (by decide) h69 (fun c70 => ?_) (fun c70 => ?_)
              · replace h := h.1 c70
                refine r_goto (tgt := 99) d_X12_readsAll_304 (by decide) ?_
                exact Rn.sub [1] rfl h
              · replace h := h.2 c70
                refine r_iconst d_X12_readsAll_302 ?_
                exact r_zreturn d_X12_readsAll_303 rfl ⟨rfl, Nat.le_refl _, Nat.le_refl _⟩ (by decide) h
          · replace h := h.2 c18
            refine r_aload_n d_X12_readsAll_169 0 rfl rfl ?_
            refine r_bipush d_X12_readsAll_170 (by decide +kernel) ?_
            refine r_callV0 (M' := M_X12_readsShut) (ci := 12) [(0, 10)] d_X12_readsAll_172 cl_X12_354 rfl (Nat.le_of_ble_eq_true rfl) (by decide) rfl (bs_ob bs_12) ?_
            refine Ct.mono h (fun r72 G71 h => ?_)
            show Rn _ M_X12_readsAll zN 175 [(0, (2, 311))] [(0, r72)] G71 Q
            refine r_goto (tgt := 297) d_X12_readsAll_175 (by decide) ?_
            refine r_istore_n (ls1 := [(1, (0, r72)), (0, (2, 311))]) d_X12_readsAll_297 rfl (by decide) rfl ?_
            refine r_iload_n d_X12_readsAll_298 0 rfl rfl ?_
            obtain ⟨h73, h⟩ := h
            refine r_if_ne (tgt := 304) d_X12_readsAll_299 (by decide) h73 (fun c74 => ?_) (fun c74 => ?_)
            · replace h := h.1 c74
              refine r_goto (tgt := 99) d_X12_readsAll_304 (by decide) ?_
              exact Rn.sub [1] rfl h
            · replace h := h.2 c74
              refine r_iconst d_X12_readsAll_302 ?_
              exact r_zreturn d_X12_readsAll_303 rfl ⟨rfl, Nat.le_refl _, Nat.le_refl _⟩ (by decide) h
        · replace h := h.2 c14
          refine r_aload_n d_X12_readsAll_150 0 rfl rfl ?_
          refine r_bipush d_X12_readsAll_151 (by decide +kernel) ?_
          refine r_callV0 (M' := M_X12_readsShut) (ci := 12) [(0, 9)] d_X12_readsAll_153 cl_X12_354 rfl (Nat.le_of_ble_eq_true rfl) (by decide) rfl (bs_ob bs_12) ?_
          refine Ct.mono h (fun r76 G75 h => ?_)
          show Rn _ M_X12_readsAll zN 156 [(0, (2, 311))] [(0, r76)] G75 Q
          refine r_goto (tgt := 297) d_X12_readsAll_156 (by decide) ?_
          refine r_istore_n (ls1 := [(1, (0, r76)), (0, (2, 311))]) d_X12_readsAll_297 rfl (by decide) rfl ?_
          refine r_iload_n d_X12_readsAll_298 0 rfl rfl ?_
          obtain ⟨h77, h⟩ := h
          refine r_if_ne (tgt := 304) d_X12_readsAll_299 (by decide) h77 (fun c78 => ?_) (fun c78 => ?_)
          · replace h := h.1 c78
            refine r_goto (tgt := 99) d_X12_readsAll_304 (by decide) ?_
            exact Rn.sub [1] rfl h
          · replace h := h.2 c78
            refine r_iconst d_X12_readsAll_302 ?_
            exact r_zreturn d_X12_readsAll_303 rfl ⟨rfl, Nat.le_refl _, Nat.le_refl _⟩ (by decide) h
      · replace h := h.2 c10
        refine r_aload_n d_X12_readsAll_133 0 rfl rfl ?_
        refine r_callV0 (M' := M_X12_readsCup) (ci := 12) [] d_X12_readsAll_134 cl_X12_351 rfl (Nat.le_of_ble_eq_true rfl) (by decide) rfl (bs_ob bs_12) ?_
        refine Ct.mono h (fun r80 G79 h => ?_)
        show Rn _ M_X12_readsAll zN 137 [(0, (2, 311))] [(0, r80)] G79 Q
        refine r_goto (tgt := 297) d_X12_readsAll_137 (by decide) ?_
        refine r_istore_n (ls1 := [(1, (0, r80)), (0, (2, 311))]) d_X12_readsAll_297 rfl (by decide) rfl ?_
        refine r_iload_n d_X12_readsAll_298 0 rfl rfl ?_
        obtain ⟨h81, h⟩ := h
        refine r_if_ne (tgt := 304) d_X12_readsAll_299 (by decide) h81 (fun c82 => ?_) (fun c82 => ?_)
        · replace h := h.1 c82
          refine r_goto (tgt := 99) d_X12_readsAll_304 (by decide) ?_
          exact Rn.sub [1] rfl h
        · replace h := h.2 c82
          refine r_iconst d_X12_readsAll_302 ?_
          exact r_zreturn d_X12_readsAll_303 rfl ⟨rfl, Nat.le_refl _, Nat.le_refl _⟩ (by decide) h
    · replace h := h.2 c6
      refine r_aload_n d_X12_readsAll_116 0 rfl rfl ?_
      refine r_callV0 (M' := M_X12_readsSitter) (ci := 12) [] d_X12_readsAll_117 cl_X12_348 rfl (Nat.le_of_ble_eq_true rfl) (by decide) rfl (bs_ob bs_12) ?_
      refine Ct.mono h (fun r84 G83 h => ?_)
      show Rn _ M_X12_readsAll zN 120 [(0, (2, 311))] [(0, r84)] G83 Q
      refine r_goto (tgt := 297) d_X12_readsAll_120 (by decide) ?_
      refine r_istore_n (ls1 := [(1, (0, r84)), (0, (2, 311))]) d_X12_readsAll_297 rfl (by decide) rfl ?_
      refine r_iload_n d_X12_readsAll_298 0 rfl rfl ?_
      obtain ⟨h85, h⟩ := h
      refine r_if_ne (tgt := 304) d_X12_readsAll_299 (by decide) h85 (fun c86 => ?_) (fun c86 => ?_)
      · replace h := h.1 c86
        refine r_goto (tgt := 99) d_X12_readsAll_304 (by decide) ?_
        exact Rn.sub [1] rfl h
      · replace h := h.2 c86
        refine r_iconst d_X12_readsAll_302 ?_
        exact r_zreturn d_X12_readsAll_303 rfl ⟨rfl, Nat.le_refl _, Nat.le_refl _⟩ (by decide) h
theorem d_X12_moves_0 : decode M_X12_moves.2.1 0 = .ok (.iconst 0, 1) := by decide +kernel
theorem d_X12_moves_1 : decode M_X12_moves.2.1 1 = .ok (.istore 4, 2) := by decide +kernel
theorem d_X12_moves_3 : decode M_X12_moves.2.1 3 = .ok (.iload 4, 2) := by decide +kernel
theorem d_X12_moves_5 : decode M_X12_moves.2.1 5 = .ok (.iload_n 1, 1) := by decide +kernel
theorem d_X12_moves_6 : decode M_X12_moves.2.1 6 = .ok (.if_icmp .ge 25, 3) := by decide +kernel
theorem d_X12_moves_9 : decode M_X12_moves.2.1 9 = .ok (.aload_n 0, 1) := by decide +kernel
theorem d_X12_moves_10 : decode M_X12_moves.2.1 10 = .ok (.iload_n 1, 1) := by decide +kernel
theorem d_X12_moves_11 : decode M_X12_moves.2.1 11 = .ok (.iload_n 3, 1) := by decide +kernel
theorem d_X12_moves_12 : decode M_X12_moves.2.1 12 = .ok (.imul, 1) := by decide +kernel
theorem d_X12_moves_13 : decode M_X12_moves.2.1 13 = .ok (.iload 4, 2) := by decide +kernel
theorem d_X12_moves_15 : decode M_X12_moves.2.1 15 = .ok (.iadd, 1) := by decide +kernel
theorem d_X12_moves_16 : decode M_X12_moves.2.1 16 = .ok (.aload_n 0, 1) := by decide +kernel
theorem d_X12_moves_17 : decode M_X12_moves.2.1 17 = .ok (.iload_n 1, 1) := by decide +kernel
theorem d_X12_moves_18 : decode M_X12_moves.2.1 18 = .ok (.iload_n 2, 1) := by decide +kernel
theorem d_X12_moves_19 : decode M_X12_moves.2.1 19 = .ok (.imul, 1) := by decide +kernel
theorem d_X12_moves_20 : decode M_X12_moves.2.1 20 = .ok (.iload 4, 2) := by decide +kernel
theorem d_X12_moves_22 : decode M_X12_moves.2.1 22 = .ok (.iadd, 1) := by decide +kernel
theorem d_X12_moves_23 : decode M_X12_moves.2.1 23 = .ok (.iaload, 1) := by decide +kernel
theorem d_X12_moves_24 : decode M_X12_moves.2.1 24 = .ok (.iastore, 1) := by decide +kernel
theorem d_X12_moves_25 : decode M_X12_moves.2.1 25 = .ok (.iinc 4 1, 3) := by decide +kernel
theorem d_X12_moves_28 : decode M_X12_moves.2.1 28 = .ok (.goto (-25), 3) := by decide +kernel
theorem d_X12_moves_31 : decode M_X12_moves.2.1 31 = .ok (.return_, 1) := by decide +kernel
set_option maxRecDepth 20000 in
theorem s_X12_moves_0 {d : Nat} {p0 : Int} {np0 : Nat} {p1 : Int} {p2 : Int} {p3 : Int} {G : Mem} {Q : Int → Mem → Prop} (ap0 : Ar NT p0 0 np0) (h : Rn d M_X12_moves zN 3 [(0, (2, p0)), (1, (0, p1)), (2, (0, p2)), (3, (0, p3)), (4, (0, 0))] [] G Q) : Rn d M_X12_moves zN 0 [(0, (2, p0)), (1, (0, p1)), (2, (0, p2)), (3, (0, p3))] [] G Q := by
  refine r_iconst d_X12_moves_0 ?_
  refine r_istore (ls1 := [(4, (0, 0)), (0, (2, p0)), (1, (0, p1)), (2, (0, p2)), (3, (0, p3))]) d_X12_moves_1 (by decide) rfl ?_
  exact Rn.sub [1, 2, 3, 4, 0] rfl h
set_option maxRecDepth 20000 in
theorem s_X12_moves_3 {d : Nat} {x0 : Int} {nx0 : Nat} {x1 : Int} {x2 : Int} {x3 : Int} {x4 : Int} {G : Mem} {Q : Int → Mem → Prop} (ax0 : Ar NT x0 0 nx0) (h : (InR x4) ∧ (InR x1) ∧ ((x1 ≤ x4) → Q 0 G) ∧ (¬ (x1 ≤ x4) → (0 ≤ ((x1 * x2) + x4) ∧ ((x1 * x2) + x4) < nx0) ∧ ((0 ≤ ((x1 * x3) + x4) ∧ ((x1 * x3) + x4) < nx0) ∧ (∀ G6 : Mem, G6 = st G x0 ((x1 * x3) + x4) (G x0 ((x1 * x2) + x4)) → Rn d M_X12_moves zN 3 [(0, (2, x0)), (1, (0, x1)), (2, (0, x2)), (3, (0, x3)), (4, (0, (x4 + 1)))] [] G6 Q)))) : Rn d M_X12_moves zN 3 [(0, (2, x0)), (1, (0, x1)), (2, (0, x2)), (3, (0, x3)), (4, (0, x4))] [] G Q := by
  refine r_iload d_X12_moves_3 4 rfl ?_
  refine r_iload_n d_X12_moves_5 1 rfl rfl ?_
  obtain ⟨h1, h⟩ := h
  obtain ⟨h2, h⟩ := h
  refine r_icmp_ge (tgt := 31) d_X12_moves_6 (by decide) h1 h2 (fun c3 => ?_) (fun c3 => ?_)
  · replace h := h.1 c3
    exact r_ret d_X12_moves_31 rfl ⟨rfl, Nat.le_refl _, Nat.le_refl _⟩ h
  · replace h := h.2 c3
    refine r_aload_n d_X12_moves_9 0 rfl rfl ?_
    refine r_iload_n d_X12_moves_10 1 rfl rfl ?_
    refine r_iload_n d_X12_moves_11 3 rfl rfl ?_
    refine r_imul d_X12_moves_12 ?_
    refine r_iload d_X12_moves_13 4 rfl ?_
    refine r_iadd d_X12_moves_15 ?_
    refine r_aload_n d_X12_moves_16 0 rfl rfl ?_
    refine r_iload_n d_X12_moves_17 1 rfl rfl ?_
    refine r_iload_n d_X12_moves_18 2 rfl rfl ?_
    refine r_imul d_X12_moves_19 ?_
    refine r_iload d_X12_moves_20 4 rfl ?_
    refine r_iadd d_X12_moves_22 ?_
    obtain ⟨h4, h⟩ := h
    refine r_iaload d_X12_moves_23 ax0 h4 ?_
    obtain ⟨h5, h⟩ := h
    obtain ⟨G6, eG6⟩ : ∃ y : Mem, y = st G x0 ((x1 * x3) + x4) (G x0 ((x1 * x2) + x4)) := ⟨_, rfl⟩
    replace h := h G6 eG6
    refine r_iastore d_X12_moves_24 ax0 h5 ?_
    rw [← eG6]
    refine r_iinc (ls1 := [(4, (0, (x4 + 1))), (0, (2, x0)), (1, (0, x1)), (2, (0, x2)), (3, (0, x3))]) d_X12_moves_25 4 rfl (by decide) rfl ?_
    refine r_goto (tgt := 3) d_X12_moves_28 (by decide) ?_
    exact Rn.sub [1, 2, 3, 4, 0] rfl h
theorem d_X12_lays_0 : decode M_X12_lays.2.1 0 = .ok (.aload_n 0, 1) := by decide +kernel
theorem d_X12_lays_1 : decode M_X12_lays.2.1 1 = .ok (.getfield 13, 3) := by decide +kernel
theorem d_X12_lays_4 : decode M_X12_lays.2.1 4 = .ok (.bipush 12, 2) := by decide +kernel
theorem d_X12_lays_6 : decode M_X12_lays.2.1 6 = .ok (.iload_n 1, 1) := by decide +kernel
theorem d_X12_lays_7 : decode M_X12_lays.2.1 7 = .ok (.iload_n 2, 1) := by decide +kernel
theorem d_X12_lays_8 : decode M_X12_lays.2.1 8 = .ok (.invokestatic 366, 3) := by decide +kernel
theorem d_X12_lays_11 : decode M_X12_lays.2.1 11 = .ok (.aload_n 0, 1) := by decide +kernel
theorem d_X12_lays_12 : decode M_X12_lays.2.1 12 = .ok (.getfield 20, 3) := by decide +kernel
theorem d_X12_lays_15 : decode M_X12_lays.2.1 15 = .ok (.iconst 5, 1) := by decide +kernel
theorem d_X12_lays_16 : decode M_X12_lays.2.1 16 = .ok (.iload_n 1, 1) := by decide +kernel
theorem d_X12_lays_17 : decode M_X12_lays.2.1 17 = .ok (.iload_n 2, 1) := by decide +kernel
theorem d_X12_lays_18 : decode M_X12_lays.2.1 18 = .ok (.invokestatic 366, 3) := by decide +kernel
theorem d_X12_lays_21 : decode M_X12_lays.2.1 21 = .ok (.aload_n 0, 1) := by decide +kernel
theorem d_X12_lays_22 : decode M_X12_lays.2.1 22 = .ok (.getfield 23, 3) := by decide +kernel
theorem d_X12_lays_25 : decode M_X12_lays.2.1 25 = .ok (.iconst 5, 1) := by decide +kernel
theorem d_X12_lays_26 : decode M_X12_lays.2.1 26 = .ok (.iload_n 1, 1) := by decide +kernel
theorem d_X12_lays_27 : decode M_X12_lays.2.1 27 = .ok (.iload_n 2, 1) := by decide +kernel
theorem d_X12_lays_28 : decode M_X12_lays.2.1 28 = .ok (.invokestatic 366, 3) := by decide +kernel
theorem d_X12_lays_31 : decode M_X12_lays.2.1 31 = .ok (.aload_n 0, 1) := by decide +kernel
theorem d_X12_lays_32 : decode M_X12_lays.2.1 32 = .ok (.getfield 26, 3) := by decide +kernel
theorem d_X12_lays_35 : decode M_X12_lays.2.1 35 = .ok (.iconst 5, 1) := by decide +kernel
theorem d_X12_lays_36 : decode M_X12_lays.2.1 36 = .ok (.iload_n 1, 1) := by decide +kernel
theorem d_X12_lays_37 : decode M_X12_lays.2.1 37 = .ok (.iload_n 2, 1) := by decide +kernel
theorem d_X12_lays_38 : decode M_X12_lays.2.1 38 = .ok (.invokestatic 366, 3) := by decide +kernel
theorem d_X12_lays_41 : decode M_X12_lays.2.1 41 = .ok (.aload_n 0, 1) := by decide +kernel
theorem d_X12_lays_42 : decode M_X12_lays.2.1 42 = .ok (.getfield 29, 3) := by decide +kernel
theorem d_X12_lays_45 : decode M_X12_lays.2.1 45 = .ok (.iconst 5, 1) := by decide +kernel
theorem d_X12_lays_46 : decode M_X12_lays.2.1 46 = .ok (.iload_n 1, 1) := by decide +kernel
theorem d_X12_lays_47 : decode M_X12_lays.2.1 47 = .ok (.iload_n 2, 1) := by decide +kernel
theorem d_X12_lays_48 : decode M_X12_lays.2.1 48 = .ok (.invokestatic 366, 3) := by decide +kernel
theorem d_X12_lays_51 : decode M_X12_lays.2.1 51 = .ok (.aload_n 0, 1) := by decide +kernel
theorem d_X12_lays_52 : decode M_X12_lays.2.1 52 = .ok (.getfield 32, 3) := by decide +kernel
theorem d_X12_lays_55 : decode M_X12_lays.2.1 55 = .ok (.iconst 5, 1) := by decide +kernel
theorem d_X12_lays_56 : decode M_X12_lays.2.1 56 = .ok (.iload_n 1, 1) := by decide +kernel
theorem d_X12_lays_57 : decode M_X12_lays.2.1 57 = .ok (.iload_n 2, 1) := by decide +kernel
theorem d_X12_lays_58 : decode M_X12_lays.2.1 58 = .ok (.invokestatic 366, 3) := by decide +kernel
theorem d_X12_lays_61 : decode M_X12_lays.2.1 61 = .ok (.aload_n 0, 1) := by decide +kernel
theorem d_X12_lays_62 : decode M_X12_lays.2.1 62 = .ok (.getfield 35, 3) := by decide +kernel
theorem d_X12_lays_65 : decode M_X12_lays.2.1 65 = .ok (.iconst 5, 1) := by decide +kernel
theorem d_X12_lays_66 : decode M_X12_lays.2.1 66 = .ok (.iload_n 1, 1) := by decide +kernel
theorem d_X12_lays_67 : decode M_X12_lays.2.1 67 = .ok (.iload_n 2, 1) := by decide +kernel
theorem d_X12_lays_68 : decode M_X12_lays.2.1 68 = .ok (.invokestatic 366, 3) := by decide +kernel
theorem d_X12_lays_71 : decode M_X12_lays.2.1 71 = .ok (.aload_n 0, 1) := by decide +kernel
theorem d_X12_lays_72 : decode M_X12_lays.2.1 72 = .ok (.getfield 38, 3) := by decide +kernel
theorem d_X12_lays_75 : decode M_X12_lays.2.1 75 = .ok (.iconst 5, 1) := by decide +kernel
theorem d_X12_lays_76 : decode M_X12_lays.2.1 76 = .ok (.iload_n 1, 1) := by decide +kernel
theorem d_X12_lays_77 : decode M_X12_lays.2.1 77 = .ok (.iload_n 2, 1) := by decide +kernel
theorem d_X12_lays_78 : decode M_X12_lays.2.1 78 = .ok (.invokestatic 366, 3) := by decide +kernel
theorem d_X12_lays_81 : decode M_X12_lays.2.1 81 = .ok (.aload_n 0, 1) := by decide +kernel
theorem d_X12_lays_82 : decode M_X12_lays.2.1 82 = .ok (.getfield 41, 3) := by decide +kernel
theorem d_X12_lays_85 : decode M_X12_lays.2.1 85 = .ok (.iconst 5, 1) := by decide +kernel
theorem d_X12_lays_86 : decode M_X12_lays.2.1 86 = .ok (.iload_n 1, 1) := by decide +kernel
theorem d_X12_lays_87 : decode M_X12_lays.2.1 87 = .ok (.iload_n 2, 1) := by decide +kernel
theorem d_X12_lays_88 : decode M_X12_lays.2.1 88 = .ok (.invokestatic 366, 3) := by decide +kernel
theorem d_X12_lays_91 : decode M_X12_lays.2.1 91 = .ok (.aload_n 0, 1) := by decide +kernel
theorem d_X12_lays_92 : decode M_X12_lays.2.1 92 = .ok (.getfield 44, 3) := by decide +kernel
theorem d_X12_lays_95 : decode M_X12_lays.2.1 95 = .ok (.iconst 5, 1) := by decide +kernel
theorem d_X12_lays_96 : decode M_X12_lays.2.1 96 = .ok (.iload_n 1, 1) := by decide +kernel
theorem d_X12_lays_97 : decode M_X12_lays.2.1 97 = .ok (.iload_n 2, 1) := by decide +kernel
theorem d_X12_lays_98 : decode M_X12_lays.2.1 98 = .ok (.invokestatic 366, 3) := by decide +kernel
theorem d_X12_lays_101 : decode M_X12_lays.2.1 101 = .ok (.aload_n 0, 1) := by decide +kernel
theorem d_X12_lays_102 : decode M_X12_lays.2.1 102 = .ok (.getfield 47, 3) := by decide +kernel
theorem d_X12_lays_105 : decode M_X12_lays.2.1 105 = .ok (.iconst 5, 1) := by decide +kernel
theorem d_X12_lays_106 : decode M_X12_lays.2.1 106 = .ok (.iload_n 1, 1) := by decide +kernel
theorem d_X12_lays_107 : decode M_X12_lays.2.1 107 = .ok (.iload_n 2, 1) := by decide +kernel
theorem d_X12_lays_108 : decode M_X12_lays.2.1 108 = .ok (.invokestatic 366, 3) := by decide +kernel
theorem d_X12_lays_111 : decode M_X12_lays.2.1 111 = .ok (.aload_n 0, 1) := by decide +kernel
theorem d_X12_lays_112 : decode M_X12_lays.2.1 112 = .ok (.getfield 50, 3) := by decide +kernel
theorem d_X12_lays_115 : decode M_X12_lays.2.1 115 = .ok (.bipush 8, 2) := by decide +kernel
theorem d_X12_lays_117 : decode M_X12_lays.2.1 117 = .ok (.iload_n 1, 1) := by decide +kernel
theorem d_X12_lays_118 : decode M_X12_lays.2.1 118 = .ok (.iload_n 2, 1) := by decide +kernel
theorem d_X12_lays_119 : decode M_X12_lays.2.1 119 = .ok (.invokestatic 366, 3) := by decide +kernel
theorem d_X12_lays_122 : decode M_X12_lays.2.1 122 = .ok (.aload_n 0, 1) := by decide +kernel
theorem d_X12_lays_123 : decode M_X12_lays.2.1 123 = .ok (.getfield 53, 3) := by decide +kernel
theorem d_X12_lays_126 : decode M_X12_lays.2.1 126 = .ok (.bipush 8, 2) := by decide +kernel
theorem d_X12_lays_128 : decode M_X12_lays.2.1 128 = .ok (.iload_n 1, 1) := by decide +kernel
theorem d_X12_lays_129 : decode M_X12_lays.2.1 129 = .ok (.iload_n 2, 1) := by decide +kernel
theorem d_X12_lays_130 : decode M_X12_lays.2.1 130 = .ok (.invokestatic 366, 3) := by decide +kernel
theorem d_X12_lays_133 : decode M_X12_lays.2.1 133 = .ok (.aload_n 0, 1) := by decide +kernel
theorem d_X12_lays_134 : decode M_X12_lays.2.1 134 = .ok (.getfield 62, 3) := by decide +kernel
theorem d_X12_lays_137 : decode M_X12_lays.2.1 137 = .ok (.sipush 1000, 3) := by decide +kernel
theorem d_X12_lays_140 : decode M_X12_lays.2.1 140 = .ok (.iload_n 1, 1) := by decide +kernel
theorem d_X12_lays_141 : decode M_X12_lays.2.1 141 = .ok (.iload_n 2, 1) := by decide +kernel
theorem d_X12_lays_142 : decode M_X12_lays.2.1 142 = .ok (.invokestatic 366, 3) := by decide +kernel
theorem d_X12_lays_145 : decode M_X12_lays.2.1 145 = .ok (.iconst 0, 1) := by decide +kernel
theorem d_X12_lays_146 : decode M_X12_lays.2.1 146 = .ok (.istore_n 3, 1) := by decide +kernel
theorem d_X12_lays_147 : decode M_X12_lays.2.1 147 = .ok (.iload_n 3, 1) := by decide +kernel
theorem d_X12_lays_148 : decode M_X12_lays.2.1 148 = .ok (.iconst 3, 1) := by decide +kernel
theorem d_X12_lays_149 : decode M_X12_lays.2.1 149 = .ok (.if_icmp .ge 65, 3) := by decide +kernel
theorem d_X12_lays_152 : decode M_X12_lays.2.1 152 = .ok (.aload_n 0, 1) := by decide +kernel
theorem d_X12_lays_153 : decode M_X12_lays.2.1 153 = .ok (.getfield 56, 3) := by decide +kernel
theorem d_X12_lays_156 : decode M_X12_lays.2.1 156 = .ok (.iconst 3, 1) := by decide +kernel
theorem d_X12_lays_157 : decode M_X12_lays.2.1 157 = .ok (.iload_n 2, 1) := by decide +kernel
theorem d_X12_lays_158 : decode M_X12_lays.2.1 158 = .ok (.imul, 1) := by decide +kernel
theorem d_X12_lays_159 : decode M_X12_lays.2.1 159 = .ok (.iload_n 3, 1) := by decide +kernel
theorem d_X12_lays_160 : decode M_X12_lays.2.1 160 = .ok (.iadd, 1) := by decide +kernel
theorem d_X12_lays_161 : decode M_X12_lays.2.1 161 = .ok (.aload_n 0, 1) := by decide +kernel
theorem d_X12_lays_162 : decode M_X12_lays.2.1 162 = .ok (.getfield 56, 3) := by decide +kernel
theorem d_X12_lays_165 : decode M_X12_lays.2.1 165 = .ok (.iconst 3, 1) := by decide +kernel
theorem d_X12_lays_166 : decode M_X12_lays.2.1 166 = .ok (.iload_n 1, 1) := by decide +kernel
theorem d_X12_lays_167 : decode M_X12_lays.2.1 167 = .ok (.imul, 1) := by decide +kernel
theorem d_X12_lays_168 : decode M_X12_lays.2.1 168 = .ok (.iload_n 3, 1) := by decide +kernel
theorem d_X12_lays_169 : decode M_X12_lays.2.1 169 = .ok (.iadd, 1) := by decide +kernel
theorem d_X12_lays_170 : decode M_X12_lays.2.1 170 = .ok (.iaload, 1) := by decide +kernel
theorem d_X12_lays_171 : decode M_X12_lays.2.1 171 = .ok (.sipush 1000, 3) := by decide +kernel
theorem d_X12_lays_174 : decode M_X12_lays.2.1 174 = .ok (.iload_n 2, 1) := by decide +kernel
theorem d_X12_lays_175 : decode M_X12_lays.2.1 175 = .ok (.iload_n 1, 1) := by decide +kernel
theorem d_X12_lays_176 : decode M_X12_lays.2.1 176 = .ok (.isub, 1) := by decide +kernel
theorem d_X12_lays_177 : decode M_X12_lays.2.1 177 = .ok (.imul, 1) := by decide +kernel
theorem d_X12_lays_178 : decode M_X12_lays.2.1 178 = .ok (.iadd, 1) := by decide +kernel
theorem d_X12_lays_179 : decode M_X12_lays.2.1 179 = .ok (.iastore, 1) := by decide +kernel
theorem d_X12_lays_180 : decode M_X12_lays.2.1 180 = .ok (.aload_n 0, 1) := by decide +kernel
theorem d_X12_lays_181 : decode M_X12_lays.2.1 181 = .ok (.getfield 59, 3) := by decide +kernel
theorem d_X12_lays_184 : decode M_X12_lays.2.1 184 = .ok (.iconst 3, 1) := by decide +kernel
theorem d_X12_lays_185 : decode M_X12_lays.2.1 185 = .ok (.iload_n 2, 1) := by decide +kernel
theorem d_X12_lays_186 : decode M_X12_lays.2.1 186 = .ok (.imul, 1) := by decide +kernel
theorem d_X12_lays_187 : decode M_X12_lays.2.1 187 = .ok (.iload_n 3, 1) := by decide +kernel
theorem d_X12_lays_188 : decode M_X12_lays.2.1 188 = .ok (.iadd, 1) := by decide +kernel
theorem d_X12_lays_189 : decode M_X12_lays.2.1 189 = .ok (.aload_n 0, 1) := by decide +kernel
theorem d_X12_lays_190 : decode M_X12_lays.2.1 190 = .ok (.getfield 59, 3) := by decide +kernel
theorem d_X12_lays_193 : decode M_X12_lays.2.1 193 = .ok (.iconst 3, 1) := by decide +kernel
theorem d_X12_lays_194 : decode M_X12_lays.2.1 194 = .ok (.iload_n 1, 1) := by decide +kernel
theorem d_X12_lays_195 : decode M_X12_lays.2.1 195 = .ok (.imul, 1) := by decide +kernel
theorem d_X12_lays_196 : decode M_X12_lays.2.1 196 = .ok (.iload_n 3, 1) := by decide +kernel
theorem d_X12_lays_197 : decode M_X12_lays.2.1 197 = .ok (.iadd, 1) := by decide +kernel
theorem d_X12_lays_198 : decode M_X12_lays.2.1 198 = .ok (.iaload, 1) := by decide +kernel
theorem d_X12_lays_199 : decode M_X12_lays.2.1 199 = .ok (.sipush 1000, 3) := by decide +kernel
theorem d_X12_lays_202 : decode M_X12_lays.2.1 202 = .ok (.iload_n 2, 1) := by decide +kernel
theorem d_X12_lays_203 : decode M_X12_lays.2.1 203 = .ok (.iload_n 1, 1) := by decide +kernel
theorem d_X12_lays_204 : decode M_X12_lays.2.1 204 = .ok (.isub, 1) := by decide +kernel
theorem d_X12_lays_205 : decode M_X12_lays.2.1 205 = .ok (.imul, 1) := by decide +kernel
theorem d_X12_lays_206 : decode M_X12_lays.2.1 206 = .ok (.iadd, 1) := by decide +kernel
theorem d_X12_lays_207 : decode M_X12_lays.2.1 207 = .ok (.iastore, 1) := by decide +kernel
theorem d_X12_lays_208 : decode M_X12_lays.2.1 208 = .ok (.iinc 3 1, 3) := by decide +kernel
theorem d_X12_lays_211 : decode M_X12_lays.2.1 211 = .ok (.goto (-64), 3) := by decide +kernel
theorem d_X12_lays_214 : decode M_X12_lays.2.1 214 = .ok (.return_, 1) := by decide +kernel
set_option maxRecDepth 20000 in
theorem s_X12_lays_0 {d : Nat} {p0 : Int} {p1 : Int} {G : Mem} {Q : Int → Mem → Prop}  (h : Ct d M_X12_moves NT 0 0 (some lay) [(2, 313), (0, 12), (0, p0), (0, p1)] G (fun r2 G1 => Ct d M_X12_moves NT 0 0 (some lay) [(2, 315), (0, 5), (0, p0), (0, p1)] G1 (fun r4 G3 => Ct d M_X12_moves NT 0 0 (some lay) [(2, 316), (0, 5), (0, p0), (0, p1)] G3 (fun r6 G5 => Ct d M_X12_moves NT 0 0 (some lay) [(2, 317), (0, 5), (0, p0), (0, p1)] G5 (fun r8 G7 => Ct d M_X12_moves NT 0 0 (some lay) [(2, 318), (0, 5), (0, p0), (0, p1)] G7 (fun r10 G9 => Ct d M_X12_moves NT 0 0 (some lay) [(2, 319), (0, 5), (0, p0), (0, p1)] G9 (fun r12 G11 => Ct d M_X12_moves NT 0 0 (some lay) [(2, 320), (0, 5), (0, p0), (0, p1)] G11 (fun r14 G13 => Ct d M_X12_moves NT 0 0 (some lay) [(2, 321), (0, 5), (0, p0), (0, p1)] G13 (fun r16 G15 => Ct d M_X12_moves NT 0 0 (some lay) [(2, 322), (0, 5), (0, p0), (0, p1)] G15 (fun r18 G17 => Ct d M_X12_moves NT 0 0 (some lay) [(2, 323), (0, 5), (0, p0), (0, p1)] G17 (fun r20 G19 => Ct d M_X12_moves NT 0 0 (some lay) [(2, 324), (0, 5), (0, p0), (0, p1)] G19 (fun r22 G21 => Ct d M_X12_moves NT 0 0 (some lay) [(2, 325), (0, 8), (0, p0), (0, p1)] G21 (fun r24 G23 => Ct d M_X12_moves NT 0 0 (some lay) [(2, 326), (0, 8), (0, p0), (0, p1)] G23 (fun r26 G25 => Ct d M_X12_moves NT 0 0 (some lay) [(2, 329), (0, 1000), (0, p0), (0, p1)] G25 (fun r28 G27 => Rn (d + 1) M_X12_lays zN 147 [(0, (2, 311)), (1, (0, p0)), (2, (0, p1)), (3, (0, 0))] [] G27 Q))))))))))))))) : Rn (d + 1) M_X12_lays zN 0 [(0, (2, 311)), (1, (0, p0)), (2, (0, p1))] [] G Q := by
  refine r_aload_n d_X12_lays_0 0 rfl rfl ?_
  refine r_getL (v := 313) 12 10 10 rfl d_X12_lays_1 fl_X12_13 (by decide) (bs_ob bs_12) (ly_12_10 bs_12).1 (ly_12_10 bs_12).2.1 ?_
  refine r_bipush d_X12_lays_4 (by decide +kernel) ?_
  refine r_iload_n d_X12_lays_6 1 rfl rfl ?_
  refine r_iload_n d_X12_lays_7 2 rfl rfl ?_
  refine r_callS0 (M' := M_X12_moves) [(2, 313), (0, 12), (0, p0), (0, p1)] d_X12_lays_8 cl_X12_366 rfl (Nat.le_of_ble_eq_true rfl) ?_
  refine Ct.mono h (fun r2 G1 h => ?_)
  show Rn _ M_X12_lays zN 11 [(0, (2, 311)), (1, (0, p0)), (2, (0, p1))] [] G1 Q
  refine r_aload_n d_X12_lays_11 0 rfl rfl ?_
  refine r_getL (v := 315) 12 12 12 rfl d_X12_lays_12 fl_X12_20 (by decide) (bs_ob bs_12) (ly_12_12 bs_12).1 (ly_12_12 bs_12).2.1 ?_
  refine r_iconst d_X12_lays_15 ?_
  refine r_iload_n d_X12_lays_16 1 rfl rfl ?_
  refine r_iload_n d_X12_lays_17 2 rfl rfl ?_
  refine r_callS0 (M' := M_X12_moves) [(2, 315), (0, 5), (0, p0), (0, p1)] d_X12_lays_18 cl_X12_366 rfl (Nat.le_of_ble_eq_true rfl) ?_
  refine Ct.mono h (fun r4 G3 h => ?_)
  show Rn _ M_X12_lays zN 21 [(0, (2, 311)), (1, (0, p0)), (2, (0, p1))] [] G3 Q
  refine r_aload_n d_X12_lays_21 0 rfl rfl ?_
  refine r_getL (v := 316) 12 13 13 rfl d_X12_lays_22 fl_X12_23 (by decide) (bs_ob bs_12) (ly_12_13 bs_12).1 (ly_12_13 bs_12).2.1 ?_
  refine r_iconst d_X12_lays_25 ?_
  refine r_iload_n d_X12_lays_26 1 rfl rfl ?_
  refine r_iload_n d_X12_lays_27 2 rfl rfl ?_
  refine r_callS0 (M' := M_X12_moves) [(2, 316), (0, 5), (0, p0), (0, p1)] d_X12_lays_28 cl_X12_366 rfl (Nat.le_of_ble_eq_true rfl) ?_
  refine Ct.mono h (fun r6 G5 h => ?_)
  show Rn _ M_X12_lays zN 31 [(0, (2, 311)), (1, (0, p0)), (2, (0, p1))] [] G5 Q
  refine r_aload_n d_X12_lays_31 0 rfl rfl ?_
  refine r_getL (v := 317) 12 14 14 rfl d_X12_lays_32 fl_X12_26 (by decide) (bs_ob bs_12) (ly_12_14 bs_12).1 (ly_12_14 bs_12).2.1 ?_
  refine r_iconst d_X12_lays_35 ?_
  refine r_iload_n d_X12_lays_36 1 rfl rfl ?_
  refine r_iload_n d_X12_lays_37 2 rfl rfl ?_
  refine r_callS0 (M' := M_X12_moves) [(2, 317), (0, 5), (0, p0), (0, p1)] d_X12_lays_38 cl_X12_366 rfl (Nat.le_of_ble_eq_true rfl) ?_
  refine Ct.mono h (fun r8 G7 h => ?_)
  show Rn _ M_X12_lays zN 41 [(0, (2, 311)), (1, (0, p0)), (2, (0, p1))] [] G7 Q
  refine r_aload_n d_X12_lays_41 0 rfl rfl ?_
  refine r_getL (v := 318) 12 15 15 rfl d_X12_lays_42 fl_X12_29 (by decide) (bs_ob bs_12) (ly_12_15 bs_12).1 (ly_12_15 bs_12).2.1 ?_
  refine r_iconst d_X12_lays_45 ?_
  refine r_iload_n d_X12_lays_46 1 rfl rfl ?_
  refine r_iload_n d_X12_lays_47 2 rfl rfl ?_
  refine r_callS0 (M' := M_X12_moves) [(2, 318), (0, 5), (0, p0), (0, p1)] d_X12_lays_48 cl_X12_366 rfl (Nat.le_of_ble_eq_true rfl) ?_
  refine Ct.mono h (fun r10 G9 h => ?_)
  show Rn _ M_X12_lays zN 51 [(0, (2, 311)), (1, (0, p0)), (2, (0, p1))] [] G9 Q
  refine r_aload_n d_X12_lays_51 0 rfl rfl ?_
  refine r_getL (v := 319) 12 16 16 rfl d_X12_lays_52 fl_X12_32 (by decide) (bs_ob bs_12) (ly_12_16 bs_12).1 (ly_12_16 bs_12).2.1 ?_
  refine r_iconst d_X12_lays_55 ?_
  refine r_iload_n d_X12_lays_56 1 rfl rfl ?_
  refine r_iload_n d_X12_lays_57 2 rfl rfl ?_
  refine r_callS0 (M' := M_X12_moves) [(2, 319), (0, 5), (0, p0), (0, p1)] d_X12_lays_58 cl_X12_366 rfl (Nat.le_of_ble_eq_true rfl) ?_
  refine Ct.mono h (fun r12 G11 h => ?_)
  show Rn _ M_X12_lays zN 61 [(0, (2, 311)), (1, (0, p0)), (2, (0, p1))] [] G11 Q
  refine r_aload_n d_X12_lays_61 0 rfl rfl ?_
  refine r_getL (v := 320) 12 17 17 rfl d_X12_lays_62 fl_X12_35 (by decide) (bs_ob bs_12) (ly_12_17 bs_12).1 (ly_12_17 bs_12).2.1 ?_
  refine r_iconst d_X12_lays_65 ?_
  refine r_iload_n d_X12_lays_66 1 rfl rfl ?_
  refine r_iload_n d_X12_lays_67 2 rfl rfl ?_
  refine r_callS0 (M' := M_X12_moves) [(2, 320), (0, 5), (0, p0), (0, p1)] d_X12_lays_68 cl_X12_366 rfl (Nat.le_of_ble_eq_true rfl) ?_
  refine Ct.mono h (fun r14 G13 h => ?_)
  show Rn _ M_X12_lays zN 71 [(0, (2, 311)), (1, (0, p0)), (2, (0, p1))] [] G13 Q
  refine r_aload_n d_X12_lays_71 0 rfl rfl ?_
  refine r_getL (v := 321) 12 18 18 rfl d_X12_lays_72 fl_X12_38 (by decide) (bs_ob bs_12) (ly_12_18 bs_12).1 (ly_12_18 bs_12).2.1 ?_
  refine r_iconst d_X12_lays_75 ?_
  refine r_iload_n d_X12_lays_76 1 rfl rfl ?_
  refine r_iload_n d_X12_lays_77 2 rfl rfl ?_
  refine r_callS0 (M' := M_X12_moves) [(2, 321), (0, 5), (0, p0), (0, p1)] d_X12_lays_78 cl_X12_366 rfl (Nat.le_of_ble_eq_true rfl) ?_
  refine Ct.mono h (fun r16 G15 h => ?_)
  show Rn _ M_X12_lays zN 81 [(0, (2, 311)), (1, (0, p0)), (2, (0, p1))] [] G15 Q
  refine r_aload_n d_X12_lays_81 0 rfl rfl ?_
  refine r_getL (v := 322) 12 19 19 rfl d_X12_lays_82 fl_X12_41 (by decide) (bs_ob bs_12) (ly_12_19 bs_12).1 (ly_12_19 bs_12).2.1 ?_
  refine r_iconst d_X12_lays_85 ?_
  refine r_iload_n d_X12_lays_86 1 rfl rfl ?_
  refine r_iload_n d_X12_lays_87 2 rfl rfl ?_
  refine r_callS0 (M' := M_X12_moves) [(2, 322), (0, 5), (0, p0), (0, p1)] d_X12_lays_88 cl_X12_366 rfl (Nat.le_of_ble_eq_true rfl) ?_
  refine Ct.mono h (fun r18 G17 h => ?_)
  show Rn _ M_X12_lays zN 91 [(0, (2, 311)), (1, (0, p0)), (2, (0, p1))] [] G17 Q
  refine r_aload_n d_X12_lays_91 0 rfl rfl ?_
  refine r_getL (v := 323) 12 20 20 rfl d_X12_lays_92 fl_X12_44 (by decide) (bs_ob bs_12) (ly_12_20 bs_12).1 (ly_12_20 bs_12).2.1 ?_
  refine r_iconst d_X12_lays_95 ?_
  refine r_iload_n d_X12_lays_96 1 rfl rfl ?_
  refine r_iload_n d_X12_lays_97 2 rfl rfl ?_
  refine r_callS0 (M' := M_X12_moves) [(2, 323), (0, 5), (0, p0), (0, p1)] d_X12_lays_98 cl_X12_366 rfl (Nat.le_of_ble_eq_true rfl) ?_
  refine Ct.mono h (fun r20 G19 h => ?_)
  show Rn _ M_X12_lays zN 101 [(0, (2, 311)), (1, (0, p0)), (2, (0, p1))] [] G19 Q
  refine r_aload_n d_X12_lays_101 0 rfl rfl ?_
  refine r_getL (v := 324) 12 21 21 rfl d_X12_lays_102 fl_X12_47 (by decide) (bs_ob bs_12) (ly_12_21 bs_12).1 (ly_12_21 bs_12).2.1 ?_
  refine r_iconst d_X12_lays_105 ?_
  refine r_iload_n d_X12_lays_106 1 rfl rfl ?_
  refine r_iload_n d_X12_lays_107 2 rfl rfl ?_
  refine r_callS0 (M' := M_X12_moves) [(2, 324), (0, 5), (0, p0), (0, p1)] d_X12_lays_108 cl_X12_366 rfl (Nat.le_of_ble_eq_true rfl) ?_
  refine Ct.mono h (fun r22 G21 h => ?_)
  show Rn _ M_X12_lays zN 111 [(0, (2, 311)), (1, (0, p0)), (2, (0, p1))] [] G21 Q
  refine r_aload_n d_X12_lays_111 0 rfl rfl ?_
  refine r_getL (v := 325) 12 22 22 rfl d_X12_lays_112 fl_X12_50 (by decide) (bs_ob bs_12) (ly_12_22 bs_12).1 (ly_12_22 bs_12).2.1 ?_
  refine r_bipush d_X12_lays_115 (by decide +kernel) ?_
  refine r_iload_n d_X12_lays_117 1 rfl rfl ?_
  refine r_iload_n d_X12_lays_118 2 rfl rfl ?_
  refine r_callS0 (M' := M_X12_moves) [(2, 325), (0, 8), (0, p0), (0, p1)] d_X12_lays_119 cl_X12_366 rfl (Nat.le_of_ble_eq_true rfl) ?_
  refine Ct.mono h (fun r24 G23 h => ?_)
  show Rn _ M_X12_lays zN 122 [(0, (2, 311)), (1, (0, p0)), (2, (0, p1))] [] G23 Q
  refine r_aload_n d_X12_lays_122 0 rfl rfl ?_
  refine r_getL (v := 326) 12 23 23 rfl d_X12_lays_123 fl_X12_53 (by decide) (bs_ob bs_12) (ly_12_23 bs_12).1 (ly_12_23 bs_12).2.1 ?_
  refine r_bipush d_X12_lays_126 (by decide +kernel) ?_
  refine r_iload_n d_X12_lays_128 1 rfl rfl ?_
  refine r_iload_n d_X12_lays_129 2 rfl rfl ?_
  refine r_callS0 (M' := M_X12_moves) [(2, 326), (0, 8), (0, p0), (0, p1)] d_X12_lays_130 cl_X12_366 rfl (Nat.le_of_ble_eq_true rfl) ?_
  refine Ct.mono h (fun r26 G25 h => ?_)
  show Rn _ M_X12_lays zN 133 [(0, (2, 311)), (1, (0, p0)), (2, (0, p1))] [] G25 Q
  refine r_aload_n d_X12_lays_133 0 rfl rfl ?_
  refine r_getL (v := 329) 12 26 26 rfl d_X12_lays_134 fl_X12_62 (by decide) (bs_ob bs_12) (ly_12_26 bs_12).1 (ly_12_26 bs_12).2.1 ?_
  refine r_sipush d_X12_lays_137 (by decide +kernel) ?_
  refine r_iload_n d_X12_lays_140 1 rfl rfl ?_
  refine r_iload_n d_X12_lays_141 2 rfl rfl ?_
  refine r_callS0 (M' := M_X12_moves) [(2, 329), (0, 1000), (0, p0), (0, p1)] d_X12_lays_142 cl_X12_366 rfl (Nat.le_of_ble_eq_true rfl) ?_
  refine Ct.mono h (fun r28 G27 h => ?_)
  show Rn _ M_X12_lays zN 145 [(0, (2, 311)), (1, (0, p0)), (2, (0, p1))] [] G27 Q
  refine r_iconst d_X12_lays_145 ?_
  refine r_istore_n (ls1 := [(3, (0, 0)), (0, (2, 311)), (1, (0, p0)), (2, (0, p1))]) d_X12_lays_146 rfl (by decide) rfl ?_
  exact Rn.sub [1, 2, 3, 0] rfl h
set_option maxRecDepth 20000 in
theorem s_X12_lays_147 {d : Nat} {x1 : Int} {x2 : Int} {x3 : Int} {G : Mem} {Q : Int → Mem → Prop}  (h : (InR x3) ∧ ((3 ≤ x3) → Q 0 G) ∧ (¬ (3 ≤ x3) → (0 ≤ ((3 * x1) + x3) ∧ ((3 * x1) + x3) < 18) ∧ ((0 ≤ ((3 * x2) + x3) ∧ ((3 * x2) + x3) < 18) ∧ (∀ G5 : Mem, G5 = st G 327 ((3 * x2) + x3) ((G 327 ((3 * x1) + x3)) + (1000 * (x2 - x1))) → (∀ G6 : Mem, G6 = st G5 328 ((3 * x2) + x3) ((G5 328 ((3 * x1) + x3)) + (1000 * (x2 - x1))) → Rn d M_X12_lays zN 147 [(0, (2, 311)), (1, (0, x1)), (2, (0, x2)), (3, (0, (x3 + 1)))] [] G6 Q))))) : Rn d M_X12_lays zN 147 [(0, (2, 311)), (1, (0, x1)), (2, (0, x2)), (3, (0, x3))] [] G Q := by
  refine r_iload_n d_X12_lays_147 3 rfl rfl ?_
  refine r_iconst d_X12_lays_148 ?_
  obtain ⟨h1, h⟩ := h
  refine r_icmp_ge (tgt := 214) d_X12_lays_149 (by decide) h1 ⟨by decide, by decide⟩ (fun c2 => ?_) (fun c2 => ?_)
  · replace h := h.1 c2
    exact r_ret d_X12_lays_214 rfl ⟨rfl, Nat.le_refl _, Nat.le_refl _⟩ h
  · replace h := h.2 c2
    refine r_aload_n d_X12_lays_152 0 rfl rfl ?_
    refine r_getL (v := 327) 12 24 24 rfl d_X12_lays_153 fl_X12_56 (by decide) (bs_ob bs_12) (ly_12_24 bs_12).1 (ly_12_24 bs_12).2.1 ?_
    refine r_iconst d_X12_lays_156 ?_
    refine r_iload_n d_X12_lays_157 2 rfl rfl ?_
    refine r_imul d_X12_lays_158 ?_
    refine r_iload_n d_X12_lays_159 3 rfl rfl ?_
    refine r_iadd d_X12_lays_160 ?_
    refine r_aload_n d_X12_lays_161 0 rfl rfl ?_
    refine r_getL (v := 327) 12 24 24 rfl d_X12_lays_162 fl_X12_56 (by decide) (bs_ob bs_12) (ly_12_24 bs_12).1 (ly_12_24 bs_12).2.1 ?_
    refine r_iconst d_X12_lays_165 ?_
    refine r_iload_n d_X12_lays_166 1 rfl rfl ?_
    refine r_imul d_X12_lays_167 ?_
    refine r_iload_n d_X12_lays_168 3 rfl rfl ?_
    refine r_iadd d_X12_lays_169 ?_
    obtain ⟨h3, h⟩ := h
    refine r_iaload d_X12_lays_170 (ly_12_24 bs_12).2.2 h3 ?_
    refine r_sipush d_X12_lays_171 (by decide +kernel) ?_
    refine r_iload_n d_X12_lays_174 2 rfl rfl ?_
    refine r_iload_n d_X12_lays_175 1 rfl rfl ?_
    refine r_isub d_X12_lays_176 ?_
    refine r_imul d_X12_lays_177 ?_
    refine r_iadd d_X12_lays_178 ?_
    obtain ⟨h4, h⟩ := h
    obtain ⟨G5, eG5⟩ : ∃ y : Mem, y = st G 327 ((3 * x2) + x3) ((G 327 ((3 * x1) + x3)) + (1000 * (x2 - x1))) := ⟨_, rfl⟩
    replace h := h G5 eG5
    refine r_iastore d_X12_lays_179 (ly_12_24 bs_12).2.2 h4 ?_
    rw [← eG5]
    refine r_aload_n d_X12_lays_180 0 rfl rfl ?_
    refine r_getL (v := 328) 12 25 25 rfl d_X12_lays_181 fl_X12_59 (by decide) (bs_ob bs_12) (ly_12_25 bs_12).1 (ly_12_25 bs_12).2.1 ?_
    refine r_iconst d_X12_lays_184 ?_
    refine r_iload_n d_X12_lays_185 2 rfl rfl ?_
    refine r_imul d_X12_lays_186 ?_
    refine r_iload_n d_X12_lays_187 3 rfl rfl ?_
    refine r_iadd d_X12_lays_188 ?_
    refine r_aload_n d_X12_lays_189 0 rfl rfl ?_
    refine r_getL (v := 328) 12 25 25 rfl d_X12_lays_190 fl_X12_59 (by decide) (bs_ob bs_12) (ly_12_25 bs_12).1 (ly_12_25 bs_12).2.1 ?_
    refine r_iconst d_X12_lays_193 ?_
    refine r_iload_n d_X12_lays_194 1 rfl rfl ?_
    refine r_imul d_X12_lays_195 ?_
    refine r_iload_n d_X12_lays_196 3 rfl rfl ?_
    refine r_iadd d_X12_lays_197 ?_
    refine r_iaload d_X12_lays_198 (ly_12_25 bs_12).2.2 h3 ?_
    refine r_sipush d_X12_lays_199 (by decide +kernel) ?_
    refine r_iload_n d_X12_lays_202 2 rfl rfl ?_
    refine r_iload_n d_X12_lays_203 1 rfl rfl ?_
    refine r_isub d_X12_lays_204 ?_
    refine r_imul d_X12_lays_205 ?_
    refine r_iadd d_X12_lays_206 ?_
    obtain ⟨G6, eG6⟩ : ∃ y : Mem, y = st G5 328 ((3 * x2) + x3) ((G5 328 ((3 * x1) + x3)) + (1000 * (x2 - x1))) := ⟨_, rfl⟩
    replace h := h G6 eG6
    refine r_iastore d_X12_lays_207 (ly_12_25 bs_12).2.2 h4 ?_
    rw [← eG6]
    refine r_iinc (ls1 := [(3, (0, (x3 + 1))), (0, (2, 311)), (1, (0, x1)), (2, (0, x2))]) d_X12_lays_208 3 rfl (by decide) rfl ?_
    refine r_goto (tgt := 147) d_X12_lays_211 (by decide) ?_
    exact Rn.sub [1, 2, 3, 0] rfl h
theorem d_X12_copies_0 : decode M_X12_copies.2.1 0 = .ok (.iconst 0, 1) := by decide +kernel
theorem d_X12_copies_1 : decode M_X12_copies.2.1 1 = .ok (.istore 4, 2) := by decide +kernel
theorem d_X12_copies_3 : decode M_X12_copies.2.1 3 = .ok (.iload 4, 2) := by decide +kernel
theorem d_X12_copies_5 : decode M_X12_copies.2.1 5 = .ok (.bipush 116, 2) := by decide +kernel
theorem d_X12_copies_7 : decode M_X12_copies.2.1 7 = .ok (.if_icmp .ge 21, 3) := by decide +kernel
theorem d_X12_copies_10 : decode M_X12_copies.2.1 10 = .ok (.aload_n 2, 1) := by decide +kernel
theorem d_X12_copies_11 : decode M_X12_copies.2.1 11 = .ok (.iload_n 3, 1) := by decide +kernel
theorem d_X12_copies_12 : decode M_X12_copies.2.1 12 = .ok (.iload 4, 2) := by decide +kernel
theorem d_X12_copies_14 : decode M_X12_copies.2.1 14 = .ok (.iadd, 1) := by decide +kernel
theorem d_X12_copies_15 : decode M_X12_copies.2.1 15 = .ok (.aload_n 0, 1) := by decide +kernel
theorem d_X12_copies_16 : decode M_X12_copies.2.1 16 = .ok (.iload_n 1, 1) := by decide +kernel
theorem d_X12_copies_17 : decode M_X12_copies.2.1 17 = .ok (.iload 4, 2) := by decide +kernel
theorem d_X12_copies_19 : decode M_X12_copies.2.1 19 = .ok (.iadd, 1) := by decide +kernel
theorem d_X12_copies_20 : decode M_X12_copies.2.1 20 = .ok (.iaload, 1) := by decide +kernel
theorem d_X12_copies_21 : decode M_X12_copies.2.1 21 = .ok (.iastore, 1) := by decide +kernel
theorem d_X12_copies_22 : decode M_X12_copies.2.1 22 = .ok (.iinc 4 1, 3) := by decide +kernel
theorem d_X12_copies_25 : decode M_X12_copies.2.1 25 = .ok (.goto (-22), 3) := by decide +kernel
theorem d_X12_copies_28 : decode M_X12_copies.2.1 28 = .ok (.return_, 1) := by decide +kernel
set_option maxRecDepth 20000 in
theorem s_X12_copies_0 {d : Nat} {p0 : Int} {np0 : Nat} {p1 : Int} {p2 : Int} {np2 : Nat} {p3 : Int} {G : Mem} {Q : Int → Mem → Prop} (ap0 : Ar NT p0 0 np0) (ap2 : Ar NT p2 0 np2) (h : Rn d M_X12_copies zN 3 [(0, (2, p0)), (1, (0, p1)), (2, (2, p2)), (3, (0, p3)), (4, (0, 0))] [] G Q) : Rn d M_X12_copies zN 0 [(0, (2, p0)), (1, (0, p1)), (2, (2, p2)), (3, (0, p3))] [] G Q := by
  refine r_iconst d_X12_copies_0 ?_
  refine r_istore (ls1 := [(4, (0, 0)), (0, (2, p0)), (1, (0, p1)), (2, (2, p2)), (3, (0, p3))]) d_X12_copies_1 (by decide) rfl ?_
  exact Rn.sub [1, 2, 3, 4, 0] rfl h
set_option maxRecDepth 20000 in
theorem s_X12_copies_3 {d : Nat} {x0 : Int} {nx0 : Nat} {x1 : Int} {x2 : Int} {nx2 : Nat} {x3 : Int} {x4 : Int} {G : Mem} {Q : Int → Mem → Prop} (ax0 : Ar NT x0 0 nx0) (ax2 : Ar NT x2 0 nx2) (h : (InR x4) ∧ ((116 ≤ x4) → Q 0 G) ∧ (¬ (116 ≤ x4) → (0 ≤ (x1 + x4) ∧ (x1 + x4) < nx0) ∧ ((0 ≤ (x3 + x4) ∧ (x3 + x4) < nx2) ∧ (∀ G5 : Mem, G5 = st G x2 (x3 + x4) (G x0 (x1 + x4)) → Rn d M_X12_copies zN 3 [(0, (2, x0)), (1, (0, x1)), (2, (2, x2)), (3, (0, x3)), (4, (0, (x4 + 1)))] [] G5 Q)))) : Rn d M_X12_copies zN 3 [(0, (2, x0)), (1, (0, x1)), (2, (2, x2)), (3, (0, x3)), (4, (0, x4))] [] G Q := by
  refine r_iload d_X12_copies_3 4 rfl ?_
  refine r_bipush d_X12_copies_5 (by decide +kernel) ?_
  obtain ⟨h1, h⟩ := h
  refine r_icmp_ge (tgt := 28) d_X12_copies_7 (by decide) h1 ⟨by decide, by decide⟩ (fun c2 => ?_) (fun c2 => ?_)
  · replace h := h.1 c2
    exact r_ret d_X12_copies_28 rfl ⟨rfl, Nat.le_refl _, Nat.le_refl _⟩ h
  · replace h := h.2 c2
    refine r_aload_n d_X12_copies_10 2 rfl rfl ?_
    refine r_iload_n d_X12_copies_11 3 rfl rfl ?_
    refine r_iload d_X12_copies_12 4 rfl ?_
    refine r_iadd d_X12_copies_14 ?_
    refine r_aload_n d_X12_copies_15 0 rfl rfl ?_
    refine r_iload_n d_X12_copies_16 1 rfl rfl ?_
    refine r_iload d_X12_copies_17 4 rfl ?_
    refine r_iadd d_X12_copies_19 ?_
    obtain ⟨h3, h⟩ := h
    refine r_iaload d_X12_copies_20 ax0 h3 ?_
    obtain ⟨h4, h⟩ := h
    obtain ⟨G5, eG5⟩ : ∃ y : Mem, y = st G x2 (x3 + x4) (G x0 (x1 + x4)) := ⟨_, rfl⟩
    replace h := h G5 eG5
    refine r_iastore d_X12_copies_21 ax2 h4 ?_
    rw [← eG5]
    refine r_iinc (ls1 := [(4, (0, (x4 + 1))), (0, (2, x0)), (1, (0, x1)), (2, (2, x2)), (3, (0, x3))]) d_X12_copies_22 4 rfl (by decide) rfl ?_
    refine r_goto (tgt := 3) d_X12_copies_25 (by decide) ?_
    exact Rn.sub [1, 2, 3, 4, 0] rfl h
theorem d_X12_cabin_0 : decode M_X12_cabin.2.1 0 = .ok (.aload_n 0, 1) := by decide +kernel
theorem d_X12_cabin_1 : decode M_X12_cabin.2.1 1 = .ok (.iconst 0, 1) := by decide +kernel
theorem d_X12_cabin_2 : decode M_X12_cabin.2.1 2 = .ok (.putfield 169, 3) := by decide +kernel
theorem d_X12_cabin_5 : decode M_X12_cabin.2.1 5 = .ok (.aload_n 0, 1) := by decide +kernel
theorem d_X12_cabin_6 : decode M_X12_cabin.2.1 6 = .ok (.invokevirtual 370, 3) := by decide +kernel
theorem d_X12_cabin_9 : decode M_X12_cabin.2.1 9 = .ok (.ifCond .ne 8, 3) := by decide +kernel
theorem d_X12_cabin_12 : decode M_X12_cabin.2.1 12 = .ok (.aload_n 0, 1) := by decide +kernel
theorem d_X12_cabin_13 : decode M_X12_cabin.2.1 13 = .ok (.getfield 205, 3) := by decide +kernel
theorem d_X12_cabin_16 : decode M_X12_cabin.2.1 16 = .ok (.ireturn, 1) := by decide +kernel
theorem d_X12_cabin_17 : decode M_X12_cabin.2.1 17 = .ok (.aload_n 0, 1) := by decide +kernel
theorem d_X12_cabin_18 : decode M_X12_cabin.2.1 18 = .ok (.iconst 1, 1) := by decide +kernel
theorem d_X12_cabin_19 : decode M_X12_cabin.2.1 19 = .ok (.iconst 0, 1) := by decide +kernel
theorem d_X12_cabin_20 : decode M_X12_cabin.2.1 20 = .ok (.invokevirtual 373, 3) := by decide +kernel
theorem d_X12_cabin_23 : decode M_X12_cabin.2.1 23 = .ok (.aload_n 0, 1) := by decide +kernel
theorem d_X12_cabin_24 : decode M_X12_cabin.2.1 24 = .ok (.iconst 0, 1) := by decide +kernel
theorem d_X12_cabin_25 : decode M_X12_cabin.2.1 25 = .ok (.putfield 377, 3) := by decide +kernel
theorem d_X12_cabin_28 : decode M_X12_cabin.2.1 28 = .ok (.iconst 0, 1) := by decide +kernel
theorem d_X12_cabin_29 : decode M_X12_cabin.2.1 29 = .ok (.istore_n 1, 1) := by decide +kernel
theorem d_X12_cabin_30 : decode M_X12_cabin.2.1 30 = .ok (.iload_n 1, 1) := by decide +kernel
theorem d_X12_cabin_31 : decode M_X12_cabin.2.1 31 = .ok (.bipush 116, 2) := by decide +kernel
theorem d_X12_cabin_33 : decode M_X12_cabin.2.1 33 = .ok (.if_icmp .ge 16, 3) := by decide +kernel
theorem d_X12_cabin_36 : decode M_X12_cabin.2.1 36 = .ok (.aload_n 0, 1) := by decide +kernel
theorem d_X12_cabin_37 : decode M_X12_cabin.2.1 37 = .ok (.getfield 102, 3) := by decide +kernel
theorem d_X12_cabin_40 : decode M_X12_cabin.2.1 40 = .ok (.iload_n 1, 1) := by decide +kernel
theorem d_X12_cabin_41 : decode M_X12_cabin.2.1 41 = .ok (.iconst 0, 1) := by decide +kernel
theorem d_X12_cabin_42 : decode M_X12_cabin.2.1 42 = .ok (.iastore, 1) := by decide +kernel
theorem d_X12_cabin_43 : decode M_X12_cabin.2.1 43 = .ok (.iinc 1 1, 3) := by decide +kernel
theorem d_X12_cabin_46 : decode M_X12_cabin.2.1 46 = .ok (.goto (-16), 3) := by decide +kernel
theorem d_X12_cabin_49 : decode M_X12_cabin.2.1 49 = .ok (.iconst 0, 1) := by decide +kernel
theorem d_X12_cabin_50 : decode M_X12_cabin.2.1 50 = .ok (.istore_n 1, 1) := by decide +kernel
theorem d_X12_cabin_51 : decode M_X12_cabin.2.1 51 = .ok (.iload_n 1, 1) := by decide +kernel
theorem d_X12_cabin_52 : decode M_X12_cabin.2.1 52 = .ok (.iconst 5, 1) := by decide +kernel
theorem d_X12_cabin_53 : decode M_X12_cabin.2.1 53 = .ok (.if_icmp .ge 24, 3) := by decide +kernel
theorem d_X12_cabin_56 : decode M_X12_cabin.2.1 56 = .ok (.aload_n 0, 1) := by decide +kernel
theorem d_X12_cabin_57 : decode M_X12_cabin.2.1 57 = .ok (.getfield 102, 3) := by decide +kernel
theorem d_X12_cabin_60 : decode M_X12_cabin.2.1 60 = .ok (.bipush 30, 2) := by decide +kernel
theorem d_X12_cabin_62 : decode M_X12_cabin.2.1 62 = .ok (.iload_n 1, 1) := by decide +kernel
theorem d_X12_cabin_63 : decode M_X12_cabin.2.1 63 = .ok (.iadd, 1) := by decide +kernel
theorem d_X12_cabin_64 : decode M_X12_cabin.2.1 64 = .ok (.aload_n 0, 1) := by decide +kernel
theorem d_X12_cabin_65 : decode M_X12_cabin.2.1 65 = .ok (.getfield 47, 3) := by decide +kernel
theorem d_X12_cabin_68 : decode M_X12_cabin.2.1 68 = .ok (.iload_n 1, 1) := by decide +kernel
theorem d_X12_cabin_69 : decode M_X12_cabin.2.1 69 = .ok (.iaload, 1) := by decide +kernel
theorem d_X12_cabin_70 : decode M_X12_cabin.2.1 70 = .ok (.iastore, 1) := by decide +kernel
theorem d_X12_cabin_71 : decode M_X12_cabin.2.1 71 = .ok (.iinc 1 1, 3) := by decide +kernel
theorem d_X12_cabin_74 : decode M_X12_cabin.2.1 74 = .ok (.goto (-23), 3) := by decide +kernel
theorem d_X12_cabin_77 : decode M_X12_cabin.2.1 77 = .ok (.iconst 0, 1) := by decide +kernel
theorem d_X12_cabin_78 : decode M_X12_cabin.2.1 78 = .ok (.ireturn, 1) := by decide +kernel
set_option maxRecDepth 20000 in
theorem s_X12_cabin_0 {d : Nat}  {G : Mem} {Q : Int → Mem → Prop}  (h : (∀ G1 : Mem, G1 = st G 311 0 0 → Ct d M_X12_readsAll NT 0 0 (some lay) [(2, 311)] G1 (fun r3 G2 => (InR r3) ∧ ((r3 ≠ 0) → Ct d M_X12_lays NT 0 0 (some lay) [(2, 311), (0, 1), (0, 0)] G2 (fun r7 G6 => (∀ G8 : Mem, G8 = st G6 311 46 0 → Rn (d + 1) M_X12_cabin zN 30 [(0, (2, 311)), (1, (0, 0))] [] G8 Q))) ∧ (¬ (r3 ≠ 0) → Q (G2 311 9) G2)))) : Rn (d + 1) M_X12_cabin zN 0 [(0, (2, 311))] [] G Q := by
  refine r_aload_n d_X12_cabin_0 0 rfl rfl ?_
  refine r_iconst d_X12_cabin_1 ?_
  obtain ⟨G1, eG1⟩ : ∃ y : Mem, y = st G 311 0 0 := ⟨_, rfl⟩
  replace h := h G1 eG1
  refine r_putI 12 0 0 rfl d_X12_cabin_2 fl_X12_169 (by decide) nofin_12_0 (bs_ob bs_12) ?_
  rw [← eG1]
  refine r_aload_n d_X12_cabin_5 0 rfl rfl ?_
  refine r_callV0 (M' := M_X12_readsAll) (ci := 12) [] d_X12_cabin_6 cl_X12_370 rfl (Nat.le_of_ble_eq_true rfl) (by decide) rfl (bs_ob bs_12) ?_
  refine Ct.mono h (fun r3 G2 h => ?_)
  show Rn _ M_X12_cabin zN 9 [(0, (2, 311))] [(0, r3)] G2 Q
  obtain ⟨h4, h⟩ := h
  refine r_if_ne (tgt := 17) d_X12_cabin_9 (by decide) h4 (fun c5 => ?_) (fun c5 => ?_)
  · replace h := h.1 c5
    refine r_aload_n d_X12_cabin_17 0 rfl rfl ?_
    refine r_iconst d_X12_cabin_18 ?_
    refine r_iconst d_X12_cabin_19 ?_
    refine r_callV0 (M' := M_X12_lays) (ci := 12) [(0, 1), (0, 0)] d_X12_cabin_20 cl_X12_373 rfl (Nat.le_of_ble_eq_true rfl) (by decide) rfl (bs_ob bs_12) ?_
    refine Ct.mono h (fun r7 G6 h => ?_)
    show Rn _ M_X12_cabin zN 23 [(0, (2, 311))] [] G6 Q
    refine r_aload_n d_X12_cabin_23 0 rfl rfl ?_
    refine r_iconst d_X12_cabin_24 ?_
    obtain ⟨G8, eG8⟩ : ∃ y : Mem, y = st G6 311 46 0 := ⟨_, rfl⟩
    replace h := h G8 eG8
    refine r_putI 12 46 46 rfl d_X12_cabin_25 fl_X12_377 (by decide) nofin_12_46 (bs_ob bs_12) ?_
    rw [← eG8]
    refine r_iconst d_X12_cabin_28 ?_
    refine r_istore_n (ls1 := [(1, (0, 0)), (0, (2, 311))]) d_X12_cabin_29 rfl (by decide) rfl ?_
    exact Rn.sub [1, 0] rfl h
  · replace h := h.2 c5
    refine r_aload_n d_X12_cabin_12 0 rfl rfl ?_
    refine r_getI 12 9 9 rfl d_X12_cabin_13 fl_X12_205 (by decide) (bs_ob bs_12) ?_
    exact r_ireturn d_X12_cabin_16 rfl ⟨rfl, Nat.le_refl _, Nat.le_refl _⟩ h
set_option maxRecDepth 20000 in
theorem s_X12_cabin_30 {d : Nat} {x1 : Int} {G : Mem} {Q : Int → Mem → Prop}  (h : (InR x1) ∧ ((116 ≤ x1) → Rn d M_X12_cabin zN 51 [(0, (2, 311)), (1, (0, 0))] [] G Q) ∧ (¬ (116 ≤ x1) → (0 ≤ x1 ∧ x1 < 116) ∧ (∀ G4 : Mem, G4 = st G 342 x1 0 → Rn d M_X12_cabin zN 30 [(0, (2, 311)), (1, (0, (x1 + 1)))] [] G4 Q))) : Rn d M_X12_cabin zN 30 [(0, (2, 311)), (1, (0, x1))] [] G Q := by
  refine r_iload_n d_X12_cabin_30 1 rfl rfl ?_
  refine r_bipush d_X12_cabin_31 (by decide +kernel) ?_
  obtain ⟨h1, h⟩ := h
  refine r_icmp_ge (tgt := 49) d_X12_cabin_33 (by decide) h1 ⟨by decide, by decide⟩ (fun c2 => ?_) (fun c2 => ?_)
  · replace h := h.1 c2
    refine r_iconst d_X12_cabin_49 ?_
    refine r_istore_n (ls1 := [(1, (0, 0)), (0, (2, 311))]) d_X12_cabin_50 rfl (by decide) rfl ?_
    exact Rn.sub [1, 0] rfl h
  · replace h := h.2 c2
    refine r_aload_n d_X12_cabin_36 0 rfl rfl ?_
    refine r_getL (v := 342) 12 43 43 rfl d_X12_cabin_37 fl_X12_102 (by decide) (bs_ob bs_12) (ly_12_43 bs_12).1 (ly_12_43 bs_12).2.1 ?_
    refine r_iload_n d_X12_cabin_40 1 rfl rfl ?_
    refine r_iconst d_X12_cabin_41 ?_
    obtain ⟨h3, h⟩ := h
    obtain ⟨G4, eG4⟩ : ∃ y : Mem, y = st G 342 x1 0 := ⟨_, rfl⟩
    replace h := h G4 eG4
    refine r_iastore d_X12_cabin_42 (ly_12_43 bs_12).2.2 h3 ?_
    rw [← eG4]
    refine r_iinc (ls1 := [(1, (0, (x1 + 1))), (0, (2, 311))]) d_X12_cabin_43 1 rfl (by decide) rfl ?_
    refine r_goto (tgt := 30) d_X12_cabin_46 (by decide) ?_
    exact Rn.sub [1, 0] rfl h
set_option maxRecDepth 20000 in
theorem s_X12_cabin_51 {d : Nat} {x1 : Int} {G : Mem} {Q : Int → Mem → Prop}  (h : (InR x1) ∧ ((5 ≤ x1) → Q 0 G) ∧ (¬ (5 ≤ x1) → (0 ≤ x1 ∧ x1 < 30) ∧ ((0 ≤ (30 + x1) ∧ (30 + x1) < 116) ∧ (∀ G5 : Mem, G5 = st G 342 (30 + x1) (G 324 x1) → Rn d M_X12_cabin zN 51 [(0, (2, 311)), (1, (0, (x1 + 1)))] [] G5 Q)))) : Rn d M_X12_cabin zN 51 [(0, (2, 311)), (1, (0, x1))] [] G Q := by
  refine r_iload_n d_X12_cabin_51 1 rfl rfl ?_
  refine r_iconst d_X12_cabin_52 ?_
  obtain ⟨h1, h⟩ := h
  refine r_icmp_ge (tgt := 77) d_X12_cabin_53 (by decide) h1 ⟨by decide, by decide⟩ (fun c2 => ?_) (fun c2 => ?_)
  · replace h := h.1 c2
    refine r_iconst d_X12_cabin_77 ?_
    exact r_ireturn d_X12_cabin_78 rfl ⟨rfl, Nat.le_refl _, Nat.le_refl _⟩ h
  · replace h := h.2 c2
    refine r_aload_n d_X12_cabin_56 0 rfl rfl ?_
    refine r_getL (v := 342) 12 43 43 rfl d_X12_cabin_57 fl_X12_102 (by decide) (bs_ob bs_12) (ly_12_43 bs_12).1 (ly_12_43 bs_12).2.1 ?_
    refine r_bipush d_X12_cabin_60 (by decide +kernel) ?_
    refine r_iload_n d_X12_cabin_62 1 rfl rfl ?_
    refine r_iadd d_X12_cabin_63 ?_
    refine r_aload_n d_X12_cabin_64 0 rfl rfl ?_
    refine r_getL (v := 324) 12 21 21 rfl d_X12_cabin_65 fl_X12_47 (by decide) (bs_ob bs_12) (ly_12_21 bs_12).1 (ly_12_21 bs_12).2.1 ?_
    refine r_iload_n d_X12_cabin_68 1 rfl rfl ?_
    obtain ⟨h3, h⟩ := h
    refine r_iaload d_X12_cabin_69 (ly_12_21 bs_12).2.2 h3 ?_
    obtain ⟨h4, h⟩ := h
    obtain ⟨G5, eG5⟩ : ∃ y : Mem, y = st G 342 (30 + x1) (G 324 x1) := ⟨_, rfl⟩
    replace h := h G5 eG5
    refine r_iastore d_X12_cabin_70 (ly_12_43 bs_12).2.2 h4 ?_
    rw [← eG5]
    refine r_iinc (ls1 := [(1, (0, (x1 + 1))), (0, (2, 311))]) d_X12_cabin_71 1 rfl (by decide) rfl ?_
    refine r_goto (tgt := 51) d_X12_cabin_74 (by decide) ?_
    exact Rn.sub [1, 0] rfl h
theorem d_X12_isSitter_0 : decode M_X12_isSitter.2.1 0 = .ok (.iload_n 1, 1) := by decide +kernel
theorem d_X12_isSitter_1 : decode M_X12_isSitter.2.1 1 = .ok (.ifCond .lt 18, 3) := by decide +kernel
theorem d_X12_isSitter_4 : decode M_X12_isSitter.2.1 4 = .ok (.iload_n 1, 1) := by decide +kernel
theorem d_X12_isSitter_5 : decode M_X12_isSitter.2.1 5 = .ok (.aload_n 0, 1) := by decide +kernel
theorem d_X12_isSitter_6 : decode M_X12_isSitter.2.1 6 = .ok (.getfield 13, 3) := by decide +kernel
theorem d_X12_isSitter_9 : decode M_X12_isSitter.2.1 9 = .ok (.bipush 8, 2) := by decide +kernel
theorem d_X12_isSitter_11 : decode M_X12_isSitter.2.1 11 = .ok (.iaload, 1) := by decide +kernel
theorem d_X12_isSitter_12 : decode M_X12_isSitter.2.1 12 = .ok (.if_icmp .ge 7, 3) := by decide +kernel
theorem d_X12_isSitter_15 : decode M_X12_isSitter.2.1 15 = .ok (.iconst 1, 1) := by decide +kernel
theorem d_X12_isSitter_16 : decode M_X12_isSitter.2.1 16 = .ok (.goto 4, 3) := by decide +kernel
theorem d_X12_isSitter_19 : decode M_X12_isSitter.2.1 19 = .ok (.iconst 0, 1) := by decide +kernel
theorem d_X12_isSitter_20 : decode M_X12_isSitter.2.1 20 = .ok (.ireturn, 1) := by decide +kernel
set_option maxRecDepth 20000 in
theorem s_X12_isSitter_0 {d : Nat} {p0 : Int} {G : Mem} {Q : Int → Mem → Prop}  (h : (InR p0) ∧ ((p0 < 0) → Q 0 G) ∧ (¬ (p0 < 0) → (InR (G 313 8)) ∧ (((G 313 8) ≤ p0) → Q 0 G) ∧ (¬ ((G 313 8) ≤ p0) → Q 1 G))) : Rn d M_X12_isSitter zN 0 [(0, (2, 311)), (1, (0, p0))] [] G Q := by
  refine r_iload_n d_X12_isSitter_0 1 rfl rfl ?_
  obtain ⟨h1, h⟩ := h
  refine r_if_lt (tgt := 19) d_X12_isSitter_1 (by decide) h1 (fun c2 => ?_) (fun c2 => ?_)
  · replace h := h.1 c2
    refine r_iconst d_X12_isSitter_19 ?_
    exact r_zreturn d_X12_isSitter_20 rfl ⟨rfl, Nat.le_refl _, Nat.le_refl _⟩ (by decide) h
  · replace h := h.2 c2
    refine r_iload_n d_X12_isSitter_4 1 rfl rfl ?_
    refine r_aload_n d_X12_isSitter_5 0 rfl rfl ?_
    refine r_getL (v := 313) 12 10 10 rfl d_X12_isSitter_6 fl_X12_13 (by decide) (bs_ob bs_12) (ly_12_10 bs_12).1 (ly_12_10 bs_12).2.1 ?_
    refine r_bipush d_X12_isSitter_9 (by decide +kernel) ?_
    refine r_iaload d_X12_isSitter_11 (ly_12_10 bs_12).2.2 (by decide) ?_
    obtain ⟨h3, h⟩ := h
    refine r_icmp_ge (tgt := 19) d_X12_isSitter_12 (by decide) h1 h3 (fun c4 => ?_) (fun c4 => ?_)
    · replace h := h.1 c4
      refine r_iconst d_X12_isSitter_19 ?_
      exact r_zreturn d_X12_isSitter_20 rfl ⟨rfl, Nat.le_refl _, Nat.le_refl _⟩ (by decide) h
    · replace h := h.2 c4
      refine r_iconst d_X12_isSitter_15 ?_
      refine r_goto (tgt := 20) d_X12_isSitter_16 (by decide) ?_
      exact r_zreturn d_X12_isSitter_20 rfl ⟨rfl, Nat.le_refl _, Nat.le_refl _⟩ (by decide) h
theorem d_X12_growth_0 : decode M_X12_growth.2.1 0 = .ok (.aload_n 0, 1) := by decide +kernel
theorem d_X12_growth_1 : decode M_X12_growth.2.1 1 = .ok (.getfield 20, 3) := by decide +kernel
theorem d_X12_growth_4 : decode M_X12_growth.2.1 4 = .ok (.iload_n 1, 1) := by decide +kernel
theorem d_X12_growth_5 : decode M_X12_growth.2.1 5 = .ok (.iaload, 1) := by decide +kernel
theorem d_X12_growth_6 : decode M_X12_growth.2.1 6 = .ok (.iconst 1, 1) := by decide +kernel
theorem d_X12_growth_7 : decode M_X12_growth.2.1 7 = .ok (.if_icmp .ne 14, 3) := by decide +kernel
theorem d_X12_growth_10 : decode M_X12_growth.2.1 10 = .ok (.iconst 2, 1) := by decide +kernel
theorem d_X12_growth_11 : decode M_X12_growth.2.1 11 = .ok (.aload_n 0, 1) := by decide +kernel
theorem d_X12_growth_12 : decode M_X12_growth.2.1 12 = .ok (.getfield 26, 3) := by decide +kernel
theorem d_X12_growth_15 : decode M_X12_growth.2.1 15 = .ok (.iload_n 1, 1) := by decide +kernel
theorem d_X12_growth_16 : decode M_X12_growth.2.1 16 = .ok (.iaload, 1) := by decide +kernel
theorem d_X12_growth_17 : decode M_X12_growth.2.1 17 = .ok (.imul, 1) := by decide +kernel
theorem d_X12_growth_18 : decode M_X12_growth.2.1 18 = .ok (.goto 9, 3) := by decide +kernel
theorem d_X12_growth_21 : decode M_X12_growth.2.1 21 = .ok (.aload_n 0, 1) := by decide +kernel
theorem d_X12_growth_22 : decode M_X12_growth.2.1 22 = .ok (.getfield 26, 3) := by decide +kernel
theorem d_X12_growth_25 : decode M_X12_growth.2.1 25 = .ok (.iload_n 1, 1) := by decide +kernel
theorem d_X12_growth_26 : decode M_X12_growth.2.1 26 = .ok (.iaload, 1) := by decide +kernel
theorem d_X12_growth_27 : decode M_X12_growth.2.1 27 = .ok (.ireturn, 1) := by decide +kernel
set_option maxRecDepth 20000 in
theorem s_X12_growth_0 {d : Nat} {p0 : Int} {G : Mem} {Q : Int → Mem → Prop}  (h : (0 ≤ p0 ∧ p0 < 30) ∧ ((InR (G 315 p0)) ∧ (((G 315 p0) ≠ 1) → Q (G 317 p0) G) ∧ (¬ ((G 315 p0) ≠ 1) → Q (2 * (G 317 p0)) G))) : Rn d M_X12_growth zN 0 [(0, (2, 311)), (1, (0, p0))] [] G Q := by
  refine r_aload_n d_X12_growth_0 0 rfl rfl ?_
  refine r_getL (v := 315) 12 12 12 rfl d_X12_growth_1 fl_X12_20 (by decide) (bs_ob bs_12) (ly_12_12 bs_12).1 (ly_12_12 bs_12).2.1 ?_
  refine r_iload_n d_X12_growth_4 1 rfl rfl ?_
  obtain ⟨h1, h⟩ := h
  refine r_iaload d_X12_growth_5 (ly_12_12 bs_12).2.2 h1 ?_
  refine r_iconst d_X12_growth_6 ?_
  obtain ⟨h2, h⟩ := h
  refine r_icmp_ne (tgt := 21) d_X12_growth_7 (by decide) h2 ⟨by decide, by decide⟩ (fun c3 => ?_) (fun c3 => ?_)
  · replace h := h.1 c3
    refine r_aload_n d_X12_growth_21 0 rfl rfl ?_
    refine r_getL (v := 317) 12 14 14 rfl d_X12_growth_22 fl_X12_26 (by decide) (bs_ob bs_12) (ly_12_14 bs_12).1 (ly_12_14 bs_12).2.1 ?_
    refine r_iload_n d_X12_growth_25 1 rfl rfl ?_
    refine r_iaload d_X12_growth_26 (ly_12_14 bs_12).2.2 h1 ?_
    exact r_ireturn d_X12_growth_27 rfl ⟨rfl, Nat.le_refl _, Nat.le_refl _⟩ h
  · replace h := h.2 c3
    refine r_iconst d_X12_growth_10 ?_
    refine r_aload_n d_X12_growth_11 0 rfl rfl ?_
    refine r_getL (v := 317) 12 14 14 rfl d_X12_growth_12 fl_X12_26 (by decide) (bs_ob bs_12) (ly_12_14 bs_12).1 (ly_12_14 bs_12).2.1 ?_
    refine r_iload_n d_X12_growth_15 1 rfl rfl ?_
    refine r_iaload d_X12_growth_16 (ly_12_14 bs_12).2.2 h1 ?_
    refine r_imul d_X12_growth_17 ?_
    refine r_goto (tgt := 27) d_X12_growth_18 (by decide) ?_
    exact r_ireturn d_X12_growth_27 rfl ⟨rfl, Nat.le_refl _, Nat.le_refl _⟩ h
theorem d_X12_depthOf_0 : decode M_X12_depthOf.2.1 0 = .ok (.aload_n 0, 1) := by decide +kernel
theorem d_X12_depthOf_1 : decode M_X12_depthOf.2.1 1 = .ok (.getfield 20, 3) := by decide +kernel
theorem d_X12_depthOf_4 : decode M_X12_depthOf.2.1 4 = .ok (.iload_n 1, 1) := by decide +kernel
theorem d_X12_depthOf_5 : decode M_X12_depthOf.2.1 5 = .ok (.iaload, 1) := by decide +kernel
theorem d_X12_depthOf_6 : decode M_X12_depthOf.2.1 6 = .ok (.iconst 2, 1) := by decide +kernel
theorem d_X12_depthOf_7 : decode M_X12_depthOf.2.1 7 = .ok (.if_icmp .ne 14, 3) := by decide +kernel
theorem d_X12_depthOf_10 : decode M_X12_depthOf.2.1 10 = .ok (.aload_n 0, 1) := by decide +kernel
theorem d_X12_depthOf_11 : decode M_X12_depthOf.2.1 11 = .ok (.getfield 35, 3) := by decide +kernel
theorem d_X12_depthOf_14 : decode M_X12_depthOf.2.1 14 = .ok (.iload_n 1, 1) := by decide +kernel
theorem d_X12_depthOf_15 : decode M_X12_depthOf.2.1 15 = .ok (.iaload, 1) := by decide +kernel
theorem d_X12_depthOf_16 : decode M_X12_depthOf.2.1 16 = .ok (.iconst 2, 1) := by decide +kernel
theorem d_X12_depthOf_17 : decode M_X12_depthOf.2.1 17 = .ok (.idiv, 1) := by decide +kernel
theorem d_X12_depthOf_18 : decode M_X12_depthOf.2.1 18 = .ok (.goto 23, 3) := by decide +kernel
theorem d_X12_depthOf_21 : decode M_X12_depthOf.2.1 21 = .ok (.aload_n 0, 1) := by decide +kernel
theorem d_X12_depthOf_22 : decode M_X12_depthOf.2.1 22 = .ok (.getfield 20, 3) := by decide +kernel
theorem d_X12_depthOf_25 : decode M_X12_depthOf.2.1 25 = .ok (.iload_n 1, 1) := by decide +kernel
theorem d_X12_depthOf_26 : decode M_X12_depthOf.2.1 26 = .ok (.iaload, 1) := by decide +kernel
theorem d_X12_depthOf_27 : decode M_X12_depthOf.2.1 27 = .ok (.iconst 4, 1) := by decide +kernel
theorem d_X12_depthOf_28 : decode M_X12_depthOf.2.1 28 = .ok (.if_icmp .ne 7, 3) := by decide +kernel
theorem d_X12_depthOf_31 : decode M_X12_depthOf.2.1 31 = .ok (.iconst 0, 1) := by decide +kernel
theorem d_X12_depthOf_32 : decode M_X12_depthOf.2.1 32 = .ok (.goto 9, 3) := by decide +kernel
theorem d_X12_depthOf_35 : decode M_X12_depthOf.2.1 35 = .ok (.aload_n 0, 1) := by decide +kernel
theorem d_X12_depthOf_36 : decode M_X12_depthOf.2.1 36 = .ok (.getfield 35, 3) := by decide +kernel
theorem d_X12_depthOf_39 : decode M_X12_depthOf.2.1 39 = .ok (.iload_n 1, 1) := by decide +kernel
theorem d_X12_depthOf_40 : decode M_X12_depthOf.2.1 40 = .ok (.iaload, 1) := by decide +kernel
theorem d_X12_depthOf_41 : decode M_X12_depthOf.2.1 41 = .ok (.ireturn, 1) := by decide +kernel
set_option maxRecDepth 20000 in
theorem s_X12_depthOf_0 {d : Nat} {p0 : Int} {G : Mem} {Q : Int → Mem → Prop}  (h : (0 ≤ p0 ∧ p0 < 30) ∧ ((InR (G 315 p0)) ∧ (((G 315 p0) ≠ 2) → (((G 315 p0) ≠ 4) → Q (G 320 p0) G) ∧ (¬ ((G 315 p0) ≠ 4) → Q 0 G)) ∧ (¬ ((G 315 p0) ≠ 2) → (InR (G 320 p0)) ∧ (Q (Int.tdiv (G 320 p0) 2) G)))) : Rn d M_X12_depthOf zN 0 [(0, (2, 311)), (1, (0, p0))] [] G Q := by
  refine r_aload_n d_X12_depthOf_0 0 rfl rfl ?_
  refine r_getL (v := 315) 12 12 12 rfl d_X12_depthOf_1 fl_X12_20 (by decide) (bs_ob bs_12) (ly_12_12 bs_12).1 (ly_12_12 bs_12).2.1 ?_
  refine r_iload_n d_X12_depthOf_4 1 rfl rfl ?_
  obtain ⟨h1, h⟩ := h
  refine r_iaload d_X12_depthOf_5 (ly_12_12 bs_12).2.2 h1 ?_
  refine r_iconst d_X12_depthOf_6 ?_
  obtain ⟨h2, h⟩ := h
  refine r_icmp_ne (tgt := 21) d_X12_depthOf_7 (by decide) h2 ⟨by decide, by decide⟩ (fun c3 => ?_) (fun c3 => ?_)
  · replace h := h.1 c3
    refine r_aload_n d_X12_depthOf_21 0 rfl rfl ?_
    refine r_getL (v := 315) 12 12 12 rfl d_X12_depthOf_22 fl_X12_20 (by decide) (bs_ob bs_12) (ly_12_12 bs_12).1 (ly_12_12 bs_12).2.1 ?_
    refine r_iload_n d_X12_depthOf_25 1 rfl rfl ?_
    refine r_iaload d_X12_depthOf_26 (ly_12_12 bs_12).2.2 h1 ?_
    refine r_iconst d_X12_depthOf_27 ?_
    refine r_icmp_ne (tgt := 35) d_X12_depthOf_28 (by decide) h2 ⟨by decide, by decide⟩ (fun c4 => ?_) (fun c4 => ?_)
    · replace h := h.1 c4
      refine r_aload_n d_X12_depthOf_35 0 rfl rfl ?_
      refine r_getL (v := 320) 12 17 17 rfl d_X12_depthOf_36 fl_X12_35 (by decide) (bs_ob bs_12) (ly_12_17 bs_12).1 (ly_12_17 bs_12).2.1 ?_
      refine r_iload_n d_X12_depthOf_39 1 rfl rfl ?_
      refine r_iaload d_X12_depthOf_40 (ly_12_17 bs_12).2.2 h1 ?_
      exact r_ireturn d_X12_depthOf_41 rfl ⟨rfl, Nat.le_refl _, Nat.le_refl _⟩ h
    · replace h := h.2 c4
      refine r_iconst d_X12_depthOf_31 ?_
      refine r_goto (tgt := 41) d_X12_depthOf_32 (by decide) ?_
      exact r_ireturn d_X12_depthOf_41 rfl ⟨rfl, Nat.le_refl _, Nat.le_refl _⟩ h
  · replace h := h.2 c3
    refine r_aload_n d_X12_depthOf_10 0 rfl rfl ?_
    refine r_getL (v := 320) 12 17 17 rfl d_X12_depthOf_11 fl_X12_35 (by decide) (bs_ob bs_12) (ly_12_17 bs_12).1 (ly_12_17 bs_12).2.1 ?_
    refine r_iload_n d_X12_depthOf_14 1 rfl rfl ?_
    refine r_iaload d_X12_depthOf_15 (ly_12_17 bs_12).2.2 h1 ?_
    refine r_iconst d_X12_depthOf_16 ?_
    obtain ⟨h5, h⟩ := h
    refine r_idiv d_X12_depthOf_17 h5 ⟨by decide, ⟨by decide, by decide⟩⟩ ?_
    refine r_goto (tgt := 41) d_X12_depthOf_18 (by decide) ?_
    exact r_ireturn d_X12_depthOf_41 rfl ⟨rfl, Nat.le_refl _, Nat.le_refl _⟩ h
theorem d_X12_legsOf_0 : decode M_X12_legsOf.2.1 0 = .ok (.aload_n 0, 1) := by decide +kernel
theorem d_X12_legsOf_1 : decode M_X12_legsOf.2.1 1 = .ok (.getfield 20, 3) := by decide +kernel
theorem d_X12_legsOf_4 : decode M_X12_legsOf.2.1 4 = .ok (.iload_n 1, 1) := by decide +kernel
theorem d_X12_legsOf_5 : decode M_X12_legsOf.2.1 5 = .ok (.iaload, 1) := by decide +kernel
theorem d_X12_legsOf_6 : decode M_X12_legsOf.2.1 6 = .ok (.iconst 3, 1) := by decide +kernel
theorem d_X12_legsOf_7 : decode M_X12_legsOf.2.1 7 = .ok (.if_icmp .ne 14, 3) := by decide +kernel
theorem d_X12_legsOf_10 : decode M_X12_legsOf.2.1 10 = .ok (.aload_n 0, 1) := by decide +kernel
theorem d_X12_legsOf_11 : decode M_X12_legsOf.2.1 11 = .ok (.getfield 38, 3) := by decide +kernel
theorem d_X12_legsOf_14 : decode M_X12_legsOf.2.1 14 = .ok (.iload_n 1, 1) := by decide +kernel
theorem d_X12_legsOf_15 : decode M_X12_legsOf.2.1 15 = .ok (.iaload, 1) := by decide +kernel
theorem d_X12_legsOf_16 : decode M_X12_legsOf.2.1 16 = .ok (.iconst 4, 1) := by decide +kernel
theorem d_X12_legsOf_17 : decode M_X12_legsOf.2.1 17 = .ok (.iadd, 1) := by decide +kernel
theorem d_X12_legsOf_18 : decode M_X12_legsOf.2.1 18 = .ok (.goto 9, 3) := by decide +kernel
theorem d_X12_legsOf_21 : decode M_X12_legsOf.2.1 21 = .ok (.aload_n 0, 1) := by decide +kernel
theorem d_X12_legsOf_22 : decode M_X12_legsOf.2.1 22 = .ok (.getfield 38, 3) := by decide +kernel
theorem d_X12_legsOf_25 : decode M_X12_legsOf.2.1 25 = .ok (.iload_n 1, 1) := by decide +kernel
theorem d_X12_legsOf_26 : decode M_X12_legsOf.2.1 26 = .ok (.iaload, 1) := by decide +kernel
theorem d_X12_legsOf_27 : decode M_X12_legsOf.2.1 27 = .ok (.ireturn, 1) := by decide +kernel
set_option maxRecDepth 20000 in
theorem s_X12_legsOf_0 {d : Nat} {p0 : Int} {G : Mem} {Q : Int → Mem → Prop}  (h : (0 ≤ p0 ∧ p0 < 30) ∧ ((InR (G 315 p0)) ∧ (((G 315 p0) ≠ 3) → Q (G 321 p0) G) ∧ (¬ ((G 315 p0) ≠ 3) → Q ((G 321 p0) + 4) G))) : Rn d M_X12_legsOf zN 0 [(0, (2, 311)), (1, (0, p0))] [] G Q := by
  refine r_aload_n d_X12_legsOf_0 0 rfl rfl ?_
  refine r_getL (v := 315) 12 12 12 rfl d_X12_legsOf_1 fl_X12_20 (by decide) (bs_ob bs_12) (ly_12_12 bs_12).1 (ly_12_12 bs_12).2.1 ?_
  refine r_iload_n d_X12_legsOf_4 1 rfl rfl ?_
  obtain ⟨h1, h⟩ := h
  refine r_iaload d_X12_legsOf_5 (ly_12_12 bs_12).2.2 h1 ?_
  refine r_iconst d_X12_legsOf_6 ?_
  obtain ⟨h2, h⟩ := h
  refine r_icmp_ne (tgt := 21) d_X12_legsOf_7 (by decide) h2 ⟨by decide, by decide⟩ (fun c3 => ?_) (fun c3 => ?_)
  · replace h := h.1 c3
    refine r_aload_n d_X12_legsOf_21 0 rfl rfl ?_
    refine r_getL (v := 321) 12 18 18 rfl d_X12_legsOf_22 fl_X12_38 (by decide) (bs_ob bs_12) (ly_12_18 bs_12).1 (ly_12_18 bs_12).2.1 ?_
    refine r_iload_n d_X12_legsOf_25 1 rfl rfl ?_
    refine r_iaload d_X12_legsOf_26 (ly_12_18 bs_12).2.2 h1 ?_
    exact r_ireturn d_X12_legsOf_27 rfl ⟨rfl, Nat.le_refl _, Nat.le_refl _⟩ h
  · replace h := h.2 c3
    refine r_aload_n d_X12_legsOf_10 0 rfl rfl ?_
    refine r_getL (v := 321) 12 18 18 rfl d_X12_legsOf_11 fl_X12_38 (by decide) (bs_ob bs_12) (ly_12_18 bs_12).1 (ly_12_18 bs_12).2.1 ?_
    refine r_iload_n d_X12_legsOf_14 1 rfl rfl ?_
    refine r_iaload d_X12_legsOf_15 (ly_12_18 bs_12).2.2 h1 ?_
    refine r_iconst d_X12_legsOf_16 ?_
    refine r_iadd d_X12_legsOf_17 ?_
    refine r_goto (tgt := 27) d_X12_legsOf_18 (by decide) ?_
    exact r_ireturn d_X12_legsOf_27 rfl ⟨rfl, Nat.le_refl _, Nat.le_refl _⟩ h
theorem d_X12_isAsleepAt_0 : decode M_X12_isAsleepAt.2.1 0 = .ok (.aload_n 0, 1) := by decide +kernel
theorem d_X12_isAsleepAt_1 : decode M_X12_isAsleepAt.2.1 1 = .ok (.getfield 102, 3) := by decide +kernel
theorem d_X12_isAsleepAt_4 : decode M_X12_isAsleepAt.2.1 4 = .ok (.iconst 5, 1) := by decide +kernel
theorem d_X12_isAsleepAt_5 : decode M_X12_isAsleepAt.2.1 5 = .ok (.iload_n 1, 1) := by decide +kernel
theorem d_X12_isAsleepAt_6 : decode M_X12_isAsleepAt.2.1 6 = .ok (.iadd, 1) := by decide +kernel
theorem d_X12_isAsleepAt_7 : decode M_X12_isAsleepAt.2.1 7 = .ok (.iaload, 1) := by decide +kernel
theorem d_X12_isAsleepAt_8 : decode M_X12_isAsleepAt.2.1 8 = .ok (.ifCond .ne 23, 3) := by decide +kernel
theorem d_X12_isAsleepAt_11 : decode M_X12_isAsleepAt.2.1 11 = .ok (.iload_n 2, 1) := by decide +kernel
theorem d_X12_isAsleepAt_12 : decode M_X12_isAsleepAt.2.1 12 = .ok (.aload_n 0, 1) := by decide +kernel
theorem d_X12_isAsleepAt_13 : decode M_X12_isAsleepAt.2.1 13 = .ok (.getfield 41, 3) := by decide +kernel
theorem d_X12_isAsleepAt_16 : decode M_X12_isAsleepAt.2.1 16 = .ok (.iload_n 1, 1) := by decide +kernel
theorem d_X12_isAsleepAt_17 : decode M_X12_isAsleepAt.2.1 17 = .ok (.iaload, 1) := by decide +kernel
theorem d_X12_isAsleepAt_18 : decode M_X12_isAsleepAt.2.1 18 = .ok (.if_icmp .lt 13, 3) := by decide +kernel
theorem d_X12_isAsleepAt_21 : decode M_X12_isAsleepAt.2.1 21 = .ok (.iload_n 2, 1) := by decide +kernel
theorem d_X12_isAsleepAt_22 : decode M_X12_isAsleepAt.2.1 22 = .ok (.aload_n 0, 1) := by decide +kernel
theorem d_X12_isAsleepAt_23 : decode M_X12_isAsleepAt.2.1 23 = .ok (.getfield 44, 3) := by decide +kernel
theorem d_X12_isAsleepAt_26 : decode M_X12_isAsleepAt.2.1 26 = .ok (.iload_n 1, 1) := by decide +kernel
theorem d_X12_isAsleepAt_27 : decode M_X12_isAsleepAt.2.1 27 = .ok (.iaload, 1) := by decide +kernel
theorem d_X12_isAsleepAt_28 : decode M_X12_isAsleepAt.2.1 28 = .ok (.if_icmp .lt 5, 3) := by decide +kernel
theorem d_X12_isAsleepAt_31 : decode M_X12_isAsleepAt.2.1 31 = .ok (.iconst 0, 1) := by decide +kernel
theorem d_X12_isAsleepAt_32 : decode M_X12_isAsleepAt.2.1 32 = .ok (.ireturn, 1) := by decide +kernel
theorem d_X12_isAsleepAt_33 : decode M_X12_isAsleepAt.2.1 33 = .ok (.aload_n 0, 1) := by decide +kernel
theorem d_X12_isAsleepAt_34 : decode M_X12_isAsleepAt.2.1 34 = .ok (.getfield 102, 3) := by decide +kernel
theorem d_X12_isAsleepAt_37 : decode M_X12_isAsleepAt.2.1 37 = .ok (.bipush 10, 2) := by decide +kernel
theorem d_X12_isAsleepAt_39 : decode M_X12_isAsleepAt.2.1 39 = .ok (.iload_n 1, 1) := by decide +kernel
theorem d_X12_isAsleepAt_40 : decode M_X12_isAsleepAt.2.1 40 = .ok (.iadd, 1) := by decide +kernel
theorem d_X12_isAsleepAt_41 : decode M_X12_isAsleepAt.2.1 41 = .ok (.iaload, 1) := by decide +kernel
theorem d_X12_isAsleepAt_42 : decode M_X12_isAsleepAt.2.1 42 = .ok (.ifCond .eq 20, 3) := by decide +kernel
theorem d_X12_isAsleepAt_45 : decode M_X12_isAsleepAt.2.1 45 = .ok (.iload_n 2, 1) := by decide +kernel
theorem d_X12_isAsleepAt_46 : decode M_X12_isAsleepAt.2.1 46 = .ok (.aload_n 0, 1) := by decide +kernel
theorem d_X12_isAsleepAt_47 : decode M_X12_isAsleepAt.2.1 47 = .ok (.getfield 102, 3) := by decide +kernel
theorem d_X12_isAsleepAt_50 : decode M_X12_isAsleepAt.2.1 50 = .ok (.bipush 10, 2) := by decide +kernel
theorem d_X12_isAsleepAt_52 : decode M_X12_isAsleepAt.2.1 52 = .ok (.iload_n 1, 1) := by decide +kernel
theorem d_X12_isAsleepAt_53 : decode M_X12_isAsleepAt.2.1 53 = .ok (.iadd, 1) := by decide +kernel
theorem d_X12_isAsleepAt_54 : decode M_X12_isAsleepAt.2.1 54 = .ok (.iaload, 1) := by decide +kernel
theorem d_X12_isAsleepAt_55 : decode M_X12_isAsleepAt.2.1 55 = .ok (.iconst 1, 1) := by decide +kernel
theorem d_X12_isAsleepAt_56 : decode M_X12_isAsleepAt.2.1 56 = .ok (.isub, 1) := by decide +kernel
theorem d_X12_isAsleepAt_57 : decode M_X12_isAsleepAt.2.1 57 = .ok (.isub, 1) := by decide +kernel
theorem d_X12_isAsleepAt_58 : decode M_X12_isAsleepAt.2.1 58 = .ok (.iconst 3, 1) := by decide +kernel
theorem d_X12_isAsleepAt_59 : decode M_X12_isAsleepAt.2.1 59 = .ok (.if_icmp .le 7, 3) := by decide +kernel
theorem d_X12_isAsleepAt_62 : decode M_X12_isAsleepAt.2.1 62 = .ok (.iconst 1, 1) := by decide +kernel
theorem d_X12_isAsleepAt_63 : decode M_X12_isAsleepAt.2.1 63 = .ok (.goto 4, 3) := by decide +kernel
theorem d_X12_isAsleepAt_66 : decode M_X12_isAsleepAt.2.1 66 = .ok (.iconst 0, 1) := by decide +kernel
theorem d_X12_isAsleepAt_67 : decode M_X12_isAsleepAt.2.1 67 = .ok (.ireturn, 1) := by decide +kernel
set_option maxRecDepth 20000 in
theorem s_X12_isAsleepAt_0 {d : Nat} {p0 : Int} {p1 : Int} {G : Mem} {Q : Int → Mem → Prop}  (h : (0 ≤ (5 + p0) ∧ (5 + p0) < 116) ∧ ((InR (G 342 (5 + p0))) ∧ (((G 342 (5 + p0)) ≠ 0) → Q 0 G) ∧ (¬ ((G 342 (5 + p0)) ≠ 0) → (0 ≤ p0 ∧ p0 < 30) ∧ ((InR p1) ∧ (InR (G 322 p0)) ∧ ((p1 < (G 322 p0)) → Q 0 G) ∧ (¬ (p1 < (G 322 p0)) → (InR (G 323 p0)) ∧ ((p1 < (G 323 p0)) → (0 ≤ (10 + p0) ∧ (10 + p0) < 116) ∧ ((InR (G 342 (10 + p0))) ∧ (((G 342 (10 + p0)) = 0) → Q 1 G) ∧ (¬ ((G 342 (10 + p0)) = 0) → (InR (p1 - ((G 342 (10 + p0)) - 1))) ∧ (((p1 - ((G 342 (10 + p0)) - 1)) ≤ 3) → Q 0 G) ∧ (¬ ((p1 - ((G 342 (10 + p0)) - 1)) ≤ 3) → Q 1 G)))) ∧ (¬ (p1 < (G 323 p0)) → Q 0 G)))))) : Rn d M_X12_isAsleepAt zN 0 [(0, (2, 311)), (1, (0, p0)), (2, (0, p1))] [] G Q := by
  refine r_aload_n d_X12_isAsleepAt_0 0 rfl rfl ?_
  refine r_getL (v := 342) 12 43 43 rfl d_X12_isAsleepAt_1 fl_X12_102 (by decide) (bs_ob bs_12) (ly_12_43 bs_12).1 (ly_12_43 bs_12).2.1 ?_
  refine r_iconst d_X12_isAsleepAt_4 ?_
  refine r_iload_n d_X12_isAsleepAt_5 1 rfl rfl ?_
  refine r_iadd d_X12_isAsleepAt_6 ?_
  obtain ⟨h1, h⟩ := h
  refine r_iaload d_X12_isAsleepAt_7 (ly_12_43 bs_12).2.2 h1 ?_
  obtain ⟨h2, h⟩ := h
  refine r_if_ne (tgt := 31) d_X12_isAsleepAt_8 (by decide) h2 (fun c3 => ?_) (fun c3 => ?_)
  · replace h := h.1 c3
    refine r_iconst d_X12_isAsleepAt_31 ?_
    exact r_zreturn d_X12_isAsleepAt_32 rfl ⟨rfl, Nat.le_refl _, Nat.le_refl _⟩ (by decide) h
  · replace h := h.2 c3
    refine r_iload_n d_X12_isAsleepAt_11 2 rfl rfl ?_
    refine r_aload_n d_X12_isAsleepAt_12 0 rfl rfl ?_
    refine r_getL (v := 322) 12 19 19 rfl d_X12_isAsleepAt_13 fl_X12_41 (by decide) (bs_ob bs_12) (ly_12_19 bs_12).1 (ly_12_19 bs_12).2.1 ?_
    refine r_iload_n d_X12_isAsleepAt_16 1 rfl rfl ?_
    obtain ⟨h4, h⟩ := h
    refine r_iaload d_X12_isAsleepAt_17 (ly_12_19 bs_12).2.2 h4 ?_
    obtain ⟨h5, h⟩ := h
    obtain ⟨h6, h⟩ := h
    refine r_icmp_lt (tgt := 31) d_X12_isAsleepAt_18 (by decide) h5 h6 (fun c7 => ?_) (fun c7 => ?_)
    · replace h := h.1 c7
      refine r_iconst d_X12_isAsleepAt_31 ?_
      exact r_zreturn d_X12_isAsleepAt_32 rfl ⟨rfl, Nat.le_refl _, Nat.le_refl _⟩ (by decide) h
    · replace h := h.2 c7
      refine r_iload_n d_X12_isAsleepAt_21 2 rfl rfl ?_
      refine r_aload_n d_X12_isAsleepAt_22 0 rfl rfl ?_
      refine r_getL (v := 323) 12 20 20 rfl d_X12_isAsleepAt_23 fl_X12_44 (by decide) (bs_ob bs_12) (ly_12_20 bs_12).1 (ly_12_20 bs_12).2.1 ?_
      refine r_iload_n d_X12_isAsleepAt_26 1 rfl rfl ?_
      refine r_iaload d_X12_isAsleepAt_27 (ly_12_20 bs_12).2.2 h4 ?_
      obtain ⟨h8, h⟩ := h
      refine r_icmp_lt (tgt := 33) d_X12_isAsleepAt_28 (by decide) h5 h8 (fun c9 => ?_) (fun c9 => ?_)
      · replace h := h.1 c9
        refine r_aload_n d_X12_isAsleepAt_33 0 rfl rfl ?_
        refine r_getL (v := 342) 12 43 43 rfl d_X12_isAsleepAt_34 fl_X12_102 (by decide) (bs_ob bs_12) (ly_12_43 bs_12).1 (ly_12_43 bs_12).2.1 ?_
        refine r_bipush d_X12_isAsleepAt_37 (by decide +kernel) ?_
        refine r_iload_n d_X12_isAsleepAt_39 1 rfl rfl ?_
        refine r_iadd d_X12_isAsleepAt_40 ?_
        obtain ⟨h10, h⟩ := h
        refine r_iaload d_X12_isAsleepAt_41 (ly_12_43 bs_12).2.2 h10 ?_
        obtain ⟨h11, h⟩ := h
        refine r_if_eq (tgt := 62) d_X12_isAsleepAt_42 (by decide) h11 (fun c12 => ?_) (fun c12 => ?_)
        · replace h := h.1 c12
          refine r_iconst d_X12_isAsleepAt_62 ?_
          refine r_goto (tgt := 67) d_X12_isAsleepAt_63 (by decide) ?_
          exact r_zreturn d_X12_isAsleepAt_67 rfl ⟨rfl, Nat.le_refl _, Nat.le_refl _⟩ (by decide) h
        · replace h := h.2 c12
          refine r_iload_n d_X12_isAsleepAt_45 2 rfl rfl ?_
          refine r_aload_n d_X12_isAsleepAt_46 0 rfl rfl ?_
          refine r_getL (v := 342) 12 43 43 rfl d_X12_isAsleepAt_47 fl_X12_102 (by decide) (bs_ob bs_12) (ly_12_43 bs_12).1 (ly_12_43 bs_12).2.1 ?_
          refine r_bipush d_X12_isAsleepAt_50 (by decide +kernel) ?_
          refine r_iload_n d_X12_isAsleepAt_52 1 rfl rfl ?_
          refine r_iadd d_X12_isAsleepAt_53 ?_
          refine r_iaload d_X12_isAsleepAt_54 (ly_12_43 bs_12).2.2 h10 ?_
          refine r_iconst d_X12_isAsleepAt_55 ?_
          refine r_isub d_X12_isAsleepAt_56 ?_
          refine r_isub d_X12_isAsleepAt_57 ?_
          refine r_iconst d_X12_isAsleepAt_58 ?_
          obtain ⟨h13, h⟩ := h
          refine r_icmp_le (tgt := 66) d_X12_isAsleepAt_59 (by decide) h13 ⟨by decide, by decide⟩ (fun c14 => ?_) (fun c14 => ?_)
          · replace h := h.1 c14
            refine r_iconst d_X12_isAsleepAt_66 ?_
            exact r_zreturn d_X12_isAsleepAt_67 rfl ⟨rfl, Nat.le_refl _, Nat.le_refl _⟩ (by decide) h
          · replace h := h.2 c14
            refine r_iconst d_X12_isAsleepAt_62 ?_
            refine r_goto (tgt := 67) d_X12_isAsleepAt_63 (by decide) ?_
            exact r_zreturn d_X12_isAsleepAt_67 rfl ⟨rfl, Nat.le_refl _, Nat.le_refl _⟩ (by decide) h
      · replace h := h.2 c9
        refine r_iconst d_X12_isAsleepAt_31 ?_
        exact r_zreturn d_X12_isAsleepAt_32 rfl ⟨rfl, Nat.le_refl _, Nat.le_refl _⟩ (by decide) h
theorem d_X12_isAsleep_0 : decode M_X12_isAsleep.2.1 0 = .ok (.aload_n 0, 1) := by decide +kernel
theorem d_X12_isAsleep_1 : decode M_X12_isAsleep.2.1 1 = .ok (.iload_n 1, 1) := by decide +kernel
theorem d_X12_isAsleep_2 : decode M_X12_isAsleep.2.1 2 = .ok (.aload_n 0, 1) := by decide +kernel
theorem d_X12_isAsleep_3 : decode M_X12_isAsleep.2.1 3 = .ok (.getfield 102, 3) := by decide +kernel
theorem d_X12_isAsleep_6 : decode M_X12_isAsleep.2.1 6 = .ok (.bipush 110, 2) := by decide +kernel
theorem d_X12_isAsleep_8 : decode M_X12_isAsleep.2.1 8 = .ok (.iaload, 1) := by decide +kernel
theorem d_X12_isAsleep_9 : decode M_X12_isAsleep.2.1 9 = .ok (.invokevirtual 380, 3) := by decide +kernel
theorem d_X12_isAsleep_12 : decode M_X12_isAsleep.2.1 12 = .ok (.ireturn, 1) := by decide +kernel
set_option maxRecDepth 20000 in
theorem s_X12_isAsleep_0 {d : Nat} {p0 : Int} {G : Mem} {Q : Int → Mem → Prop}  (h : Ct d M_X12_isAsleepAt NT 0 0 (some lay) [(2, 311), (0, p0), (0, (G 342 110))] G (fun r2 G1 => (r2 = 0 ∨ r2 = 1) ∧ Q r2 G1)) : Rn (d + 1) M_X12_isAsleep zN 0 [(0, (2, 311)), (1, (0, p0))] [] G Q := by
  refine r_aload_n d_X12_isAsleep_0 0 rfl rfl ?_
  refine r_iload_n d_X12_isAsleep_1 1 rfl rfl ?_
  refine r_aload_n d_X12_isAsleep_2 0 rfl rfl ?_
  refine r_getL (v := 342) 12 43 43 rfl d_X12_isAsleep_3 fl_X12_102 (by decide) (bs_ob bs_12) (ly_12_43 bs_12).1 (ly_12_43 bs_12).2.1 ?_
  refine r_bipush d_X12_isAsleep_6 (by decide +kernel) ?_
  refine r_iaload d_X12_isAsleep_8 (ly_12_43 bs_12).2.2 (by decide) ?_
  refine r_callV0 (M' := M_X12_isAsleepAt) (ci := 12) [(0, p0), (0, (G 342 110))] d_X12_isAsleep_9 cl_X12_380 rfl (Nat.le_of_ble_eq_true rfl) (by decide) rfl (bs_ob bs_12) ?_
  refine Ct.mono h (fun r2 G1 h => ?_)
  show Rn _ M_X12_isAsleep zN 12 [(0, (2, 311)), (1, (0, p0))] [(0, r2)] G1 Q
  exact r_zreturn d_X12_isAsleep_12 rfl ⟨rfl, Nat.le_refl _, Nat.le_refl _⟩ h.1 h.2
theorem d_X12_isShut_0 : decode M_X12_isShut.2.1 0 = .ok (.iload_n 1, 1) := by decide +kernel
theorem d_X12_isShut_1 : decode M_X12_isShut.2.1 1 = .ok (.aload_n 0, 1) := by decide +kernel
theorem d_X12_isShut_2 : decode M_X12_isShut.2.1 2 = .ok (.getfield 13, 3) := by decide +kernel
theorem d_X12_isShut_5 : decode M_X12_isShut.2.1 5 = .ok (.iconst 1, 1) := by decide +kernel
theorem d_X12_isShut_6 : decode M_X12_isShut.2.1 6 = .ok (.iaload, 1) := by decide +kernel
theorem d_X12_isShut_7 : decode M_X12_isShut.2.1 7 = .ok (.if_icmp .lt 5, 3) := by decide +kernel
theorem d_X12_isShut_10 : decode M_X12_isShut.2.1 10 = .ok (.iconst 1, 1) := by decide +kernel
theorem d_X12_isShut_11 : decode M_X12_isShut.2.1 11 = .ok (.ireturn, 1) := by decide +kernel
theorem d_X12_isShut_12 : decode M_X12_isShut.2.1 12 = .ok (.iconst 0, 1) := by decide +kernel
theorem d_X12_isShut_13 : decode M_X12_isShut.2.1 13 = .ok (.istore_n 2, 1) := by decide +kernel
theorem d_X12_isShut_14 : decode M_X12_isShut.2.1 14 = .ok (.iload_n 2, 1) := by decide +kernel
theorem d_X12_isShut_15 : decode M_X12_isShut.2.1 15 = .ok (.bipush 8, 2) := by decide +kernel
theorem d_X12_isShut_17 : decode M_X12_isShut.2.1 17 = .ok (.if_icmp .ge 77, 3) := by decide +kernel
theorem d_X12_isShut_20 : decode M_X12_isShut.2.1 20 = .ok (.iload_n 2, 1) := by decide +kernel
theorem d_X12_isShut_21 : decode M_X12_isShut.2.1 21 = .ok (.iconst 4, 1) := by decide +kernel
theorem d_X12_isShut_22 : decode M_X12_isShut.2.1 22 = .ok (.if_icmp .ge 22, 3) := by decide +kernel
theorem d_X12_isShut_25 : decode M_X12_isShut.2.1 25 = .ok (.iload_n 2, 1) := by decide +kernel
theorem d_X12_isShut_26 : decode M_X12_isShut.2.1 26 = .ok (.aload_n 0, 1) := by decide +kernel
theorem d_X12_isShut_27 : decode M_X12_isShut.2.1 27 = .ok (.getfield 13, 3) := by decide +kernel
theorem d_X12_isShut_30 : decode M_X12_isShut.2.1 30 = .ok (.bipush 9, 2) := by decide +kernel
theorem d_X12_isShut_32 : decode M_X12_isShut.2.1 32 = .ok (.iaload, 1) := by decide +kernel
theorem d_X12_isShut_33 : decode M_X12_isShut.2.1 33 = .ok (.if_icmp .ge 7, 3) := by decide +kernel
theorem d_X12_isShut_36 : decode M_X12_isShut.2.1 36 = .ok (.iconst 1, 1) := by decide +kernel
theorem d_X12_isShut_37 : decode M_X12_isShut.2.1 37 = .ok (.goto 25, 3) := by decide +kernel
theorem d_X12_isShut_40 : decode M_X12_isShut.2.1 40 = .ok (.iconst 0, 1) := by decide +kernel
theorem d_X12_isShut_41 : decode M_X12_isShut.2.1 41 = .ok (.goto 21, 3) := by decide +kernel
theorem d_X12_isShut_44 : decode M_X12_isShut.2.1 44 = .ok (.iload_n 2, 1) := by decide +kernel
theorem d_X12_isShut_45 : decode M_X12_isShut.2.1 45 = .ok (.iconst 4, 1) := by decide +kernel
theorem d_X12_isShut_46 : decode M_X12_isShut.2.1 46 = .ok (.isub, 1) := by decide +kernel
theorem d_X12_isShut_47 : decode M_X12_isShut.2.1 47 = .ok (.aload_n 0, 1) := by decide +kernel
theorem d_X12_isShut_48 : decode M_X12_isShut.2.1 48 = .ok (.getfield 13, 3) := by decide +kernel
theorem d_X12_isShut_51 : decode M_X12_isShut.2.1 51 = .ok (.bipush 10, 2) := by decide +kernel
theorem d_X12_isShut_53 : decode M_X12_isShut.2.1 53 = .ok (.iaload, 1) := by decide +kernel
theorem d_X12_isShut_54 : decode M_X12_isShut.2.1 54 = .ok (.if_icmp .ge 7, 3) := by decide +kernel
theorem d_X12_isShut_57 : decode M_X12_isShut.2.1 57 = .ok (.iconst 1, 1) := by decide +kernel
theorem d_X12_isShut_58 : decode M_X12_isShut.2.1 58 = .ok (.goto 4, 3) := by decide +kernel
theorem d_X12_isShut_61 : decode M_X12_isShut.2.1 61 = .ok (.iconst 0, 1) := by decide +kernel
theorem d_X12_isShut_62 : decode M_X12_isShut.2.1 62 = .ok (.istore_n 3, 1) := by decide +kernel
theorem d_X12_isShut_63 : decode M_X12_isShut.2.1 63 = .ok (.iload_n 3, 1) := by decide +kernel
theorem d_X12_isShut_64 : decode M_X12_isShut.2.1 64 = .ok (.ifCond .eq 24, 3) := by decide +kernel
theorem d_X12_isShut_67 : decode M_X12_isShut.2.1 67 = .ok (.iload_n 1, 1) := by decide +kernel
theorem d_X12_isShut_68 : decode M_X12_isShut.2.1 68 = .ok (.aload_n 0, 1) := by decide +kernel
theorem d_X12_isShut_69 : decode M_X12_isShut.2.1 69 = .ok (.getfield 50, 3) := by decide +kernel
theorem d_X12_isShut_72 : decode M_X12_isShut.2.1 72 = .ok (.iload_n 2, 1) := by decide +kernel
theorem d_X12_isShut_73 : decode M_X12_isShut.2.1 73 = .ok (.iaload, 1) := by decide +kernel
theorem d_X12_isShut_74 : decode M_X12_isShut.2.1 74 = .ok (.aload_n 0, 1) := by decide +kernel
theorem d_X12_isShut_75 : decode M_X12_isShut.2.1 75 = .ok (.getfield 53, 3) := by decide +kernel
theorem d_X12_isShut_78 : decode M_X12_isShut.2.1 78 = .ok (.iload_n 2, 1) := by decide +kernel
theorem d_X12_isShut_79 : decode M_X12_isShut.2.1 79 = .ok (.iaload, 1) := by decide +kernel
theorem d_X12_isShut_80 : decode M_X12_isShut.2.1 80 = .ok (.invokestatic 308, 3) := by decide +kernel
theorem d_X12_isShut_83 : decode M_X12_isShut.2.1 83 = .ok (.ifCond .eq 5, 3) := by decide +kernel
theorem d_X12_isShut_86 : decode M_X12_isShut.2.1 86 = .ok (.iconst 1, 1) := by decide +kernel
theorem d_X12_isShut_87 : decode M_X12_isShut.2.1 87 = .ok (.ireturn, 1) := by decide +kernel
theorem d_X12_isShut_88 : decode M_X12_isShut.2.1 88 = .ok (.iinc 2 1, 3) := by decide +kernel
theorem d_X12_isShut_91 : decode M_X12_isShut.2.1 91 = .ok (.goto (-77), 3) := by decide +kernel
theorem d_X12_isShut_94 : decode M_X12_isShut.2.1 94 = .ok (.iconst 0, 1) := by decide +kernel
theorem d_X12_isShut_95 : decode M_X12_isShut.2.1 95 = .ok (.ireturn, 1) := by decide +kernel
set_option maxRecDepth 20000 in
theorem s_X12_isShut_0 {d : Nat} {p0 : Int} {G : Mem} {Q : Int → Mem → Prop}  (h : (InR p0) ∧ (InR (G 313 1)) ∧ ((p0 < (G 313 1)) → Rn d M_X12_isShut zN 14 [(0, (2, 311)), (1, (0, p0)), (2, (0, 0))] [] G Q) ∧ (¬ (p0 < (G 313 1)) → Q 1 G)) : Rn d M_X12_isShut zN 0 [(0, (2, 311)), (1, (0, p0))] [] G Q := by
  refine r_iload_n d_X12_isShut_0 1 rfl rfl ?_
  refine r_aload_n d_X12_isShut_1 0 rfl rfl ?_
  refine r_getL (v := 313) 12 10 10 rfl d_X12_isShut_2 fl_X12_13 (by decide) (bs_ob bs_12) (ly_12_10 bs_12).1 (ly_12_10 bs_12).2.1 ?_
  refine r_iconst d_X12_isShut_5 ?_
  refine r_iaload d_X12_isShut_6 (ly_12_10 bs_12).2.2 (by decide) ?_
  obtain ⟨h1, h⟩ := h
  obtain ⟨h2, h⟩ := h
  refine r_icmp_lt (tgt := 12) d_X12_isShut_7 (by decide) h1 h2 (fun c3 => ?_) (fun c3 => ?_)
  · replace h := h.1 c3
    refine r_iconst d_X12_isShut_12 ?_
    refine r_istore_n (ls1 := [(2, (0, 0)), (0, (2, 311)), (1, (0, p0))]) d_X12_isShut_13 rfl (by decide) rfl ?_
    exact Rn.sub [1, 2, 0] rfl h
  · replace h := h.2 c3
    refine r_iconst d_X12_isShut_10 ?_
    exact r_zreturn d_X12_isShut_11 rfl ⟨rfl, Nat.le_refl _, Nat.le_refl _⟩ (by decide) h
set_option maxRecDepth 20000 in
theorem s_X12_isShut_14 {d : Nat} {x1 : Int} {x2 : Int} {G : Mem} {Q : Int → Mem → Prop}  (h : (InR x2) ∧ ((8 ≤ x2) → Q 0 G) ∧ (¬ (8 ≤ x2) → ((4 ≤ x2) → (InR (x2 - 4)) ∧ (InR (G 313 10)) ∧ (((G 313 10) ≤ (x2 - 4)) → Rn d M_X12_isShut zN 62 [(0, (2, 311)), (1, (0, x1)), (2, (0, x2))] [(0, 0)] G Q) ∧ (¬ ((G 313 10) ≤ (x2 - 4)) → Rn d M_X12_isShut zN 62 [(0, (2, 311)), (1, (0, x1)), (2, (0, x2))] [(0, 1)] G Q)) ∧ (¬ (4 ≤ x2) → (InR (G 313 9)) ∧ (((G 313 9) ≤ x2) → Rn d M_X12_isShut zN 62 [(0, (2, 311)), (1, (0, x1)), (2, (0, x2))] [(0, 0)] G Q) ∧ (¬ ((G 313 9) ≤ x2) → Rn d M_X12_isShut zN 62 [(0, (2, 311)), (1, (0, x1)), (2, (0, x2))] [(0, 1)] G Q)))) : Rn d M_X12_isShut zN 14 [(0, (2, 311)), (1, (0, x1)), (2, (0, x2))] [] G Q := by
  refine r_iload_n d_X12_isShut_14 2 rfl rfl ?_
  refine r_bipush d_X12_isShut_15 (by decide +kernel) ?_
  obtain ⟨h1, h⟩ := h
  refine r_icmp_ge (tgt := 94) d_X12_isShut_17 (by decide) h1 ⟨by decide, by decide⟩ (fun c2 => ?_) (fun c2 => ?_)
  · replace h := h.1 c2
    refine r_iconst d_X12_isShut_94 ?_
    exact r_zreturn d_X12_isShut_95 rfl ⟨rfl, Nat.le_refl _, Nat.le_refl _⟩ (by decide) h
  · replace h := h.2 c2
    refine r_iload_n d_X12_isShut_20 2 rfl rfl ?_
    refine r_iconst d_X12_isShut_21 ?_
    refine r_icmp_ge (tgt := 44) d_X12_isShut_22 (by decide) h1 ⟨by decide, by decide⟩ (fun c3 => ?_) (fun c3 => ?_)
    · replace h := h.1 c3
      refine r_iload_n d_X12_isShut_44 2 rfl rfl ?_
      refine r_iconst d_X12_isShut_45 ?_
      refine r_isub d_X12_isShut_46 ?_
      refine r_aload_n d_X12_isShut_47 0 rfl rfl ?_
      refine r_getL (v := 313) 12 10 10 rfl d_X12_isShut_48 fl_X12_13 (by decide) (bs_ob bs_12) (ly_12_10 bs_12).1 (ly_12_10 bs_12).2.1 ?_
      refine r_bipush d_X12_isShut_51 (by decide +kernel) ?_
      refine r_iaload d_X12_isShut_53 (ly_12_10 bs_12).2.2 (by decide) ?_
      obtain ⟨h4, h⟩ := h
      obtain ⟨h5, h⟩ := h
      refine r_icmp_ge (tgt := 61) d_X12_isShut_54 (by decide) h4 h5 (fun c6 => ?_) (fun c6 => ?_)
      · replace h := h.1 c6
        refine r_iconst d_X12_isShut_61 ?_
        exact h
      · replace h := h.2 c6
        refine r_iconst d_X12_isShut_57 ?_
        refine r_goto (tgt := 62) d_X12_isShut_58 (by decide) ?_
        exact h
    · replace h := h.2 c3
      refine r_iload_n d_X12_isShut_25 2 rfl rfl ?_
      refine r_aload_n d_X12_isShut_26 0 rfl rfl ?_
      refine r_getL (v := 313) 12 10 10 rfl d_X12_isShut_27 fl_X12_13 (by decide) (bs_ob bs_12) (ly_12_10 bs_12).1 (ly_12_10 bs_12).2.1 ?_
      refine r_bipush d_X12_isShut_30 (by decide +kernel) ?_
      refine r_iaload d_X12_isShut_32 (ly_12_10 bs_12).2.2 (by decide) ?_
      obtain ⟨h7, h⟩ := h
      refine r_icmp_ge (tgt := 40) d_X12_isShut_33 (by decide) h1 h7 (fun c8 => ?_) (fun c8 => ?_)
      · replace h := h.1 c8
        refine r_iconst d_X12_isShut_40 ?_
        refine r_goto (tgt := 62) d_X12_isShut_41 (by decide) ?_
        exact h
      · replace h := h.2 c8
        refine r_iconst d_X12_isShut_36 ?_
        refine r_goto (tgt := 62) d_X12_isShut_37 (by decide) ?_
        exact h
set_option maxRecDepth 20000 in
theorem s_X12_isShut_62 {d : Nat} {x1 : Int} {x2 : Int} {s0 : Int} {G : Mem} {Q : Int → Mem → Prop}  (h : (InR s0) ∧ ((s0 = 0) → Rn (d + 1) M_X12_isShut zN 14 [(0, (2, 311)), (1, (0, x1)), (2, (0, (x2 + 1)))] [] G Q) ∧ (¬ (s0 = 0) → (0 ≤ x2 ∧ x2 < 48) ∧ (Ct d M_X12_within NT 0 0 (some lay) [(0, x1), (0, (G 325 x2)), (0, (G 326 x2))] G (fun r5 G4 => (InR r5) ∧ ((r5 = 0) → Rn (d + 1) M_X12_isShut zN 14 [(0, (2, 311)), (1, (0, x1)), (2, (0, (x2 + 1)))] [] G4 Q) ∧ (¬ (r5 = 0) → Q 1 G4))))) : Rn (d + 1) M_X12_isShut zN 62 [(0, (2, 311)), (1, (0, x1)), (2, (0, x2))] [(0, s0)] G Q := by
  refine r_istore_n (ls1 := [(3, (0, s0)), (0, (2, 311)), (1, (0, x1)), (2, (0, x2))]) d_X12_isShut_62 rfl (by decide) rfl ?_
  refine r_iload_n d_X12_isShut_63 0 rfl rfl ?_
  obtain ⟨h1, h⟩ := h
  refine r_if_eq (tgt := 88) d_X12_isShut_64 (by decide) h1 (fun c2 => ?_) (fun c2 => ?_)
  · replace h := h.1 c2
    refine r_iinc (ls1 := [(2, (0, (x2 + 1))), (3, (0, s0)), (0, (2, 311)), (1, (0, x1))]) d_X12_isShut_88 3 rfl (by decide) rfl ?_
    refine r_goto (tgt := 14) d_X12_isShut_91 (by decide) ?_
    exact Rn.sub [2, 3, 0] rfl h
  · replace h := h.2 c2
    refine r_iload_n d_X12_isShut_67 2 rfl rfl ?_
    refine r_aload_n d_X12_isShut_68 1 rfl rfl ?_
    refine r_getL (v := 325) 12 22 22 rfl d_X12_isShut_69 fl_X12_50 (by decide) (bs_ob bs_12) (ly_12_22 bs_12).1 (ly_12_22 bs_12).2.1 ?_
    refine r_iload_n d_X12_isShut_72 3 rfl rfl ?_
    obtain ⟨h3, h⟩ := h
    refine r_iaload d_X12_isShut_73 (ly_12_22 bs_12).2.2 h3 ?_
    refine r_aload_n d_X12_isShut_74 1 rfl rfl ?_
    refine r_getL (v := 326) 12 23 23 rfl d_X12_isShut_75 fl_X12_53 (by decide) (bs_ob bs_12) (ly_12_23 bs_12).1 (ly_12_23 bs_12).2.1 ?_
    refine r_iload_n d_X12_isShut_78 3 rfl rfl ?_
    refine r_iaload d_X12_isShut_79 (ly_12_23 bs_12).2.2 h3 ?_
    refine r_callS0 (M' := M_X12_within) [(0, x1), (0, (G 325 x2)), (0, (G 326 x2))] d_X12_isShut_80 cl_X12_308 rfl (Nat.le_of_ble_eq_true rfl) ?_
    refine Ct.mono h (fun r5 G4 h => ?_)
    show Rn _ M_X12_isShut zN 83 [(3, (0, s0)), (0, (2, 311)), (1, (0, x1)), (2, (0, x2))] [(0, r5)] G4 Q
    obtain ⟨h6, h⟩ := h
    refine r_if_eq (tgt := 88) d_X12_isShut_83 (by decide) h6 (fun c7 => ?_) (fun c7 => ?_)
    · replace h := h.1 c7
      refine r_iinc (ls1 := [(2, (0, (x2 + 1))), (3, (0, s0)), (0, (2, 311)), (1, (0, x1))]) d_X12_isShut_88 3 rfl (by decide) rfl ?_
      refine r_goto (tgt := 14) d_X12_isShut_91 (by decide) ?_
      exact Rn.sub [2, 3, 0] rfl h
    · replace h := h.2 c7
      refine r_iconst d_X12_isShut_86 ?_
      exact r_zreturn d_X12_isShut_87 rfl ⟨rfl, Nat.le_refl _, Nat.le_refl _⟩ (by decide) h
theorem d_X12_facts_0 : decode M_X12_facts.2.1 0 = .ok (.aload_n 0, 1) := by decide +kernel
theorem d_X12_facts_1 : decode M_X12_facts.2.1 1 = .ok (.getfield 99, 3) := by decide +kernel
theorem d_X12_facts_4 : decode M_X12_facts.2.1 4 = .ok (.iconst 1, 1) := by decide +kernel
theorem d_X12_facts_5 : decode M_X12_facts.2.1 5 = .ok (.iload_n 2, 1) := by decide +kernel
theorem d_X12_facts_6 : decode M_X12_facts.2.1 6 = .ok (.iastore, 1) := by decide +kernel
theorem d_X12_facts_7 : decode M_X12_facts.2.1 7 = .ok (.aload_n 0, 1) := by decide +kernel
theorem d_X12_facts_8 : decode M_X12_facts.2.1 8 = .ok (.getfield 99, 3) := by decide +kernel
theorem d_X12_facts_11 : decode M_X12_facts.2.1 11 = .ok (.iconst 2, 1) := by decide +kernel
theorem d_X12_facts_12 : decode M_X12_facts.2.1 12 = .ok (.aload_n 0, 1) := by decide +kernel
theorem d_X12_facts_13 : decode M_X12_facts.2.1 13 = .ok (.iload_n 1, 1) := by decide +kernel
theorem d_X12_facts_14 : decode M_X12_facts.2.1 14 = .ok (.invokevirtual 383, 3) := by decide +kernel
theorem d_X12_facts_17 : decode M_X12_facts.2.1 17 = .ok (.iastore, 1) := by decide +kernel
theorem d_X12_facts_18 : decode M_X12_facts.2.1 18 = .ok (.aload_n 0, 1) := by decide +kernel
theorem d_X12_facts_19 : decode M_X12_facts.2.1 19 = .ok (.getfield 99, 3) := by decide +kernel
theorem d_X12_facts_22 : decode M_X12_facts.2.1 22 = .ok (.iconst 3, 1) := by decide +kernel
theorem d_X12_facts_23 : decode M_X12_facts.2.1 23 = .ok (.aload_n 0, 1) := by decide +kernel
theorem d_X12_facts_24 : decode M_X12_facts.2.1 24 = .ok (.iload_n 1, 1) := by decide +kernel
theorem d_X12_facts_25 : decode M_X12_facts.2.1 25 = .ok (.invokevirtual 386, 3) := by decide +kernel
theorem d_X12_facts_28 : decode M_X12_facts.2.1 28 = .ok (.iastore, 1) := by decide +kernel
theorem d_X12_facts_29 : decode M_X12_facts.2.1 29 = .ok (.aload_n 0, 1) := by decide +kernel
theorem d_X12_facts_30 : decode M_X12_facts.2.1 30 = .ok (.getfield 99, 3) := by decide +kernel
theorem d_X12_facts_33 : decode M_X12_facts.2.1 33 = .ok (.iconst 4, 1) := by decide +kernel
theorem d_X12_facts_34 : decode M_X12_facts.2.1 34 = .ok (.iload_n 3, 1) := by decide +kernel
theorem d_X12_facts_35 : decode M_X12_facts.2.1 35 = .ok (.iastore, 1) := by decide +kernel
theorem d_X12_facts_36 : decode M_X12_facts.2.1 36 = .ok (.aload_n 0, 1) := by decide +kernel
theorem d_X12_facts_37 : decode M_X12_facts.2.1 37 = .ok (.getfield 99, 3) := by decide +kernel
theorem d_X12_facts_40 : decode M_X12_facts.2.1 40 = .ok (.iconst 5, 1) := by decide +kernel
theorem d_X12_facts_41 : decode M_X12_facts.2.1 41 = .ok (.iload 4, 2) := by decide +kernel
theorem d_X12_facts_43 : decode M_X12_facts.2.1 43 = .ok (.iastore, 1) := by decide +kernel
theorem d_X12_facts_44 : decode M_X12_facts.2.1 44 = .ok (.return_, 1) := by decide +kernel
set_option maxRecDepth 20000 in
theorem s_X12_facts_0 {d : Nat} {p0 : Int} {p1 : Int} {p2 : Int} {p3 : Int} {G : Mem} {Q : Int → Mem → Prop}  (h : (∀ G1 : Mem, G1 = st G 341 1 (wr p1) → Ct d M_X12_depthOf NT 0 0 (some lay) [(2, 311), (0, p0)] G1 (fun r3 G2 => (∀ G4 : Mem, G4 = st G2 341 2 (wr r3) → Ct d M_X12_legsOf NT 0 0 (some lay) [(2, 311), (0, p0)] G4 (fun r6 G5 => (∀ G7 : Mem, G7 = st G5 341 3 (wr r6) → (∀ G8 : Mem, G8 = st G7 341 4 (wr p2) → (∀ G9 : Mem, G9 = st G8 341 5 (wr p3) → Q 0 G9)))))))) : Rn (d + 1) M_X12_facts zN 0 [(0, (2, 311)), (1, (0, p0)), (2, (0, p1)), (3, (0, p2)), (4, (0, p3))] [] G Q := by
  refine r_aload_n d_X12_facts_0 0 rfl rfl ?_
  refine r_getL (v := 341) 12 41 41 rfl d_X12_facts_1 fl_X12_99 (by decide) (bs_ob bs_12) (ly_12_41 bs_12).1 (ly_12_41 bs_12).2.1 ?_
  refine r_iconst d_X12_facts_4 ?_
  refine r_iload_n d_X12_facts_5 2 rfl rfl ?_
  obtain ⟨G1, eG1⟩ : ∃ y : Mem, y = st G 341 1 (wr p1) := ⟨_, rfl⟩
  replace h := h G1 eG1
  refine r_iastoreW d_X12_facts_6 (ly_12_41 bs_12).2.2 (by decide) ?_
  rw [← eG1]
  refine r_aload_n d_X12_facts_7 0 rfl rfl ?_
  refine r_getL (v := 341) 12 41 41 rfl d_X12_facts_8 fl_X12_99 (by decide) (bs_ob bs_12) (ly_12_41 bs_12).1 (ly_12_41 bs_12).2.1 ?_
  refine r_iconst d_X12_facts_11 ?_
  refine r_aload_n d_X12_facts_12 0 rfl rfl ?_
  refine r_iload_n d_X12_facts_13 1 rfl rfl ?_
  refine r_callV0 (M' := M_X12_depthOf) (ci := 12) [(0, p0)] d_X12_facts_14 cl_X12_383 rfl (Nat.le_of_ble_eq_true rfl) (by decide) rfl (bs_ob bs_12) ?_
  refine Ct.mono h (fun r3 G2 h => ?_)
  show Rn _ M_X12_facts zN 17 [(0, (2, 311)), (1, (0, p0)), (2, (0, p1)), (3, (0, p2)), (4, (0, p3))] [(0, r3), (0, 2), (2, 341)] G2 Q
  obtain ⟨G4, eG4⟩ : ∃ y : Mem, y = st G2 341 2 (wr r3) := ⟨_, rfl⟩
  replace h := h G4 eG4
  refine r_iastoreW d_X12_facts_17 (ly_12_41 bs_12).2.2 (by decide) ?_
  rw [← eG4]
  refine r_aload_n d_X12_facts_18 0 rfl rfl ?_
  refine r_getL (v := 341) 12 41 41 rfl d_X12_facts_19 fl_X12_99 (by decide) (bs_ob bs_12) (ly_12_41 bs_12).1 (ly_12_41 bs_12).2.1 ?_
  refine r_iconst d_X12_facts_22 ?_
  refine r_aload_n d_X12_facts_23 0 rfl rfl ?_
  refine r_iload_n d_X12_facts_24 1 rfl rfl ?_
  refine r_callV0 (M' := M_X12_legsOf) (ci := 12) [(0, p0)] d_X12_facts_25 cl_X12_386 rfl (Nat.le_of_ble_eq_true rfl) (by decide) rfl (bs_ob bs_12) ?_
  refine Ct.mono h (fun r6 G5 h => ?_)
  show Rn _ M_X12_facts zN 28 [(0, (2, 311)), (1, (0, p0)), (2, (0, p1)), (3, (0, p2)), (4, (0, p3))] [(0, r6), (0, 3), (2, 341)] G5 Q
  obtain ⟨G7, eG7⟩ : ∃ y : Mem, y = st G5 341 3 (wr r6) := ⟨_, rfl⟩
  replace h := h G7 eG7
  refine r_iastoreW d_X12_facts_28 (ly_12_41 bs_12).2.2 (by decide) ?_
  rw [← eG7]
  refine r_aload_n d_X12_facts_29 0 rfl rfl ?_
  refine r_getL (v := 341) 12 41 41 rfl d_X12_facts_30 fl_X12_99 (by decide) (bs_ob bs_12) (ly_12_41 bs_12).1 (ly_12_41 bs_12).2.1 ?_
  refine r_iconst d_X12_facts_33 ?_
  refine r_iload_n d_X12_facts_34 3 rfl rfl ?_
  obtain ⟨G8, eG8⟩ : ∃ y : Mem, y = st G7 341 4 (wr p2) := ⟨_, rfl⟩
  replace h := h G8 eG8
  refine r_iastoreW d_X12_facts_35 (ly_12_41 bs_12).2.2 (by decide) ?_
  rw [← eG8]
  refine r_aload_n d_X12_facts_36 0 rfl rfl ?_
  refine r_getL (v := 341) 12 41 41 rfl d_X12_facts_37 fl_X12_99 (by decide) (bs_ob bs_12) (ly_12_41 bs_12).1 (ly_12_41 bs_12).2.1 ?_
  refine r_iconst d_X12_facts_40 ?_
  refine r_iload d_X12_facts_41 4 rfl ?_
  obtain ⟨G9, eG9⟩ : ∃ y : Mem, y = st G8 341 5 (wr p3) := ⟨_, rfl⟩
  replace h := h G9 eG9
  refine r_iastoreW d_X12_facts_43 (ly_12_41 bs_12).2.2 (by decide) ?_
  rw [← eG9]
  exact r_ret d_X12_facts_44 rfl ⟨rfl, Nat.le_refl _, Nat.le_refl _⟩ h
theorem d_X12_wakingBy_0 : decode M_X12_wakingBy.2.1 0 = .ok (.aload_n 0, 1) := by decide +kernel
theorem d_X12_wakingBy_1 : decode M_X12_wakingBy.2.1 1 = .ok (.getfield 20, 3) := by decide +kernel
theorem d_X12_wakingBy_4 : decode M_X12_wakingBy.2.1 4 = .ok (.iload_n 1, 1) := by decide +kernel
theorem d_X12_wakingBy_5 : decode M_X12_wakingBy.2.1 5 = .ok (.iaload, 1) := by decide +kernel
theorem d_X12_wakingBy_6 : decode M_X12_wakingBy.2.1 6 = .ok (.iconst 4, 1) := by decide +kernel
theorem d_X12_wakingBy_7 : decode M_X12_wakingBy.2.1 7 = .ok (.if_icmp .ne 6, 3) := by decide +kernel
theorem d_X12_wakingBy_10 : decode M_X12_wakingBy.2.1 10 = .ok (.bipush 10, 2) := by decide +kernel
theorem d_X12_wakingBy_12 : decode M_X12_wakingBy.2.1 12 = .ok (.ireturn, 1) := by decide +kernel
theorem d_X12_wakingBy_13 : decode M_X12_wakingBy.2.1 13 = .ok (.aload_n 0, 1) := by decide +kernel
theorem d_X12_wakingBy_14 : decode M_X12_wakingBy.2.1 14 = .ok (.getfield 59, 3) := by decide +kernel
theorem d_X12_wakingBy_17 : decode M_X12_wakingBy.2.1 17 = .ok (.iconst 0, 1) := by decide +kernel
theorem d_X12_wakingBy_18 : decode M_X12_wakingBy.2.1 18 = .ok (.iaload, 1) := by decide +kernel
theorem d_X12_wakingBy_19 : decode M_X12_wakingBy.2.1 19 = .ok (.aload_n 0, 1) := by decide +kernel
theorem d_X12_wakingBy_20 : decode M_X12_wakingBy.2.1 20 = .ok (.getfield 56, 3) := by decide +kernel
theorem d_X12_wakingBy_23 : decode M_X12_wakingBy.2.1 23 = .ok (.iconst 0, 1) := by decide +kernel
theorem d_X12_wakingBy_24 : decode M_X12_wakingBy.2.1 24 = .ok (.iaload, 1) := by decide +kernel
theorem d_X12_wakingBy_25 : decode M_X12_wakingBy.2.1 25 = .ok (.if_icmp .ne 12, 3) := by decide +kernel
theorem d_X12_wakingBy_28 : decode M_X12_wakingBy.2.1 28 = .ok (.bipush 10, 2) := by decide +kernel
theorem d_X12_wakingBy_30 : decode M_X12_wakingBy.2.1 30 = .ok (.aload_n 0, 1) := by decide +kernel
theorem d_X12_wakingBy_31 : decode M_X12_wakingBy.2.1 31 = .ok (.iload_n 1, 1) := by decide +kernel
theorem d_X12_wakingBy_32 : decode M_X12_wakingBy.2.1 32 = .ok (.invokevirtual 383, 3) := by decide +kernel
theorem d_X12_wakingBy_35 : decode M_X12_wakingBy.2.1 35 = .ok (.isub, 1) := by decide +kernel
theorem d_X12_wakingBy_36 : decode M_X12_wakingBy.2.1 36 = .ok (.ireturn, 1) := by decide +kernel
theorem d_X12_wakingBy_37 : decode M_X12_wakingBy.2.1 37 = .ok (.aload_n 0, 1) := by decide +kernel
theorem d_X12_wakingBy_38 : decode M_X12_wakingBy.2.1 38 = .ok (.iload_n 1, 1) := by decide +kernel
theorem d_X12_wakingBy_39 : decode M_X12_wakingBy.2.1 39 = .ok (.iload_n 2, 1) := by decide +kernel
theorem d_X12_wakingBy_40 : decode M_X12_wakingBy.2.1 40 = .ok (.iload_n 3, 1) := by decide +kernel
theorem d_X12_wakingBy_41 : decode M_X12_wakingBy.2.1 41 = .ok (.iload 4, 2) := by decide +kernel
theorem d_X12_wakingBy_43 : decode M_X12_wakingBy.2.1 43 = .ok (.invokevirtual 389, 3) := by decide +kernel
theorem d_X12_wakingBy_46 : decode M_X12_wakingBy.2.1 46 = .ok (.aload_n 0, 1) := by decide +kernel
theorem d_X12_wakingBy_47 : decode M_X12_wakingBy.2.1 47 = .ok (.iconst 0, 1) := by decide +kernel
theorem d_X12_wakingBy_48 : decode M_X12_wakingBy.2.1 48 = .ok (.invokevirtual 393, 3) := by decide +kernel
theorem d_X12_wakingBy_51 : decode M_X12_wakingBy.2.1 51 = .ok (.iconst 0, 1) := by decide +kernel
theorem d_X12_wakingBy_52 : decode M_X12_wakingBy.2.1 52 = .ok (.bipush 10, 2) := by decide +kernel
theorem d_X12_wakingBy_54 : decode M_X12_wakingBy.2.1 54 = .ok (.invokestatic 396, 3) := by decide +kernel
theorem d_X12_wakingBy_57 : decode M_X12_wakingBy.2.1 57 = .ok (.ireturn, 1) := by decide +kernel
set_option maxRecDepth 20000 in
theorem s_X12_wakingBy_0 {d : Nat} {p0 : Int} {p1 : Int} {p2 : Int} {p3 : Int} {G : Mem} {Q : Int → Mem → Prop}  (h : (0 ≤ p0 ∧ p0 < 30) ∧ ((InR (G 315 p0)) ∧ (((G 315 p0) ≠ 4) → (InR (G 328 0)) ∧ (InR (G 327 0)) ∧ (((G 328 0) ≠ (G 327 0)) → Ct d M_X12_facts NT 0 0 (some lay) [(2, 311), (0, p0), (0, p1), (0, p2), (0, p3)] G (fun r8 G7 => Ct d M_X12_worked NT 0 0 (some lay) [(2, 311), (0, 0)] G7 (fun r10 G9 => Ct d M_X12_between NT 0 0 (some lay) [(0, r10), (0, 0), (0, 10)] G9 (fun r12 G11 => Q r12 G11)))) ∧ (¬ ((G 328 0) ≠ (G 327 0)) → Ct d M_X12_depthOf NT 0 0 (some lay) [(2, 311), (0, p0)] G (fun r14 G13 => Q (10 - r14) G13))) ∧ (¬ ((G 315 p0) ≠ 4) → Q 10 G))) : Rn (d + 1) M_X12_wakingBy zN 0 [(0, (2, 311)), (1, (0, p0)), (2, (0, p1)), (3, (0, p2)), (4, (0, p3))] [] G Q := by
  refine r_aload_n d_X12_wakingBy_0 0 rfl rfl ?_
  refine r_getL (v := 315) 12 12 12 rfl d_X12_wakingBy_1 fl_X12_20 (by decide) (bs_ob bs_12) (ly_12_12 bs_12).1 (ly_12_12 bs_12).2.1 ?_
  refine r_iload_n d_X12_wakingBy_4 1 rfl rfl ?_
  obtain ⟨h1, h⟩ := h
  refine r_iaload d_X12_wakingBy_5 (ly_12_12 bs_12).2.2 h1 ?_
  refine r_iconst d_X12_wakingBy_6 ?_
  obtain ⟨h2, h⟩ := h
  refine r_icmp_ne (tgt := 13) d_X12_wakingBy_7 (by decide) h2 ⟨by decide, by decide⟩ (fun c3 => ?_) (fun c3 => ?_)
  · replace h := h.1 c3
    refine r_aload_n d_X12_wakingBy_13 0 rfl rfl ?_
    refine r_getL (v := 328) 12 25 25 rfl d_X12_wakingBy_14 fl_X12_59 (by decide) (bs_ob bs_12) (ly_12_25 bs_12).1 (ly_12_25 bs_12).2.1 ?_
    refine r_iconst d_X12_wakingBy_17 ?_
    refine r_iaload d_X12_wakingBy_18 (ly_12_25 bs_12).2.2 (by decide) ?_
    refine r_aload_n d_X12_wakingBy_19 0 rfl rfl ?_
    refine r_getL (v := 327) 12 24 24 rfl d_X12_wakingBy_20 fl_X12_56 (by decide) (bs_ob bs_12) (ly_12_24 bs_12).1 (ly_12_24 bs_12).2.1 ?_
    refine r_iconst d_X12_wakingBy_23 ?_
    refine r_iaload d_X12_wakingBy_24 (ly_12_24 bs_12).2.2 (by decide) ?_
    obtain ⟨h4, h⟩ := h
    obtain ⟨h5, h⟩ := h
    refine r_icmp_ne (tgt := 37) d_X12_wakingBy_25 (by decide) h4 h5 (fun c6 => ?_) (fun c6 => ?_)
    · replace h := h.1 c6
      refine r_aload_n d_X12_wakingBy_37 0 rfl rfl ?_
      refine r_iload_n d_X12_wakingBy_38 1 rfl rfl ?_
      refine r_iload_n d_X12_wakingBy_39 2 rfl rfl ?_
      refine r_iload_n d_X12_wakingBy_40 3 rfl rfl ?_
      refine r_iload d_X12_wakingBy_41 4 rfl ?_
      refine r_callV0 (M' := M_X12_facts) (ci := 12) [(0, p0), (0, p1), (0, p2), (0, p3)] d_X12_wakingBy_43 cl_X12_389 rfl (Nat.le_of_ble_eq_true rfl) (by decide) rfl (bs_ob bs_12) ?_
      refine Ct.mono h (fun r8 G7 h => ?_)
      show Rn _ M_X12_wakingBy zN 46 [(0, (2, 311)), (1, (0, p0)), (2, (0, p1)), (3, (0, p2)), (4, (0, p3))] [] G7 Q
      refine r_aload_n d_X12_wakingBy_46 0 rfl rfl ?_
      refine r_iconst d_X12_wakingBy_47 ?_
      refine r_callV0 (M' := M_X12_worked) (ci := 12) [(0, 0)] d_X12_wakingBy_48 cl_X12_393 rfl (Nat.le_of_ble_eq_true rfl) (by decide) rfl (bs_ob bs_12) ?_
      refine Ct.mono h (fun r10 G9 h => ?_)
      show Rn _ M_X12_wakingBy zN 51 [(0, (2, 311)), (1, (0, p0)), (2, (0, p1)), (3, (0, p2)), (4, (0, p3))] [(0, r10)] G9 Q
      refine r_iconst d_X12_wakingBy_51 ?_
      refine r_bipush d_X12_wakingBy_52 (by decide +kernel) ?_
      refine r_callS0 (M' := M_X12_between) [(0, r10), (0, 0), (0, 10)] d_X12_wakingBy_54 cl_X12_396 rfl (Nat.le_of_ble_eq_true rfl) ?_
      refine Ct.mono h (fun r12 G11 h => ?_)
      show Rn _ M_X12_wakingBy zN 57 [(0, (2, 311)), (1, (0, p0)), (2, (0, p1)), (3, (0, p2)), (4, (0, p3))] [(0, r12)] G11 Q
      exact r_ireturn d_X12_wakingBy_57 rfl ⟨rfl, Nat.le_refl _, Nat.le_refl _⟩ h
    · replace h := h.2 c6
      refine r_bipush d_X12_wakingBy_28 (by decide +kernel) ?_
      refine r_aload_n d_X12_wakingBy_30 0 rfl rfl ?_
      refine r_iload_n d_X12_wakingBy_31 1 rfl rfl ?_
      refine r_callV0 (M' := M_X12_depthOf) (ci := 12) [(0, p0)] d_X12_wakingBy_32 cl_X12_383 rfl (Nat.le_of_ble_eq_true rfl) (by decide) rfl (bs_ob bs_12) ?_
      refine Ct.mono h (fun r14 G13 h => ?_)
      show Rn _ M_X12_wakingBy zN 35 [(0, (2, 311)), (1, (0, p0)), (2, (0, p1)), (3, (0, p2)), (4, (0, p3))] [(0, r14), (0, 10)] G13 Q
      refine r_isub d_X12_wakingBy_35 ?_
      exact r_ireturn d_X12_wakingBy_36 rfl ⟨rfl, Nat.le_refl _, Nat.le_refl _⟩ h
  · replace h := h.2 c3
    refine r_bipush d_X12_wakingBy_10 (by decide +kernel) ?_
    exact r_ireturn d_X12_wakingBy_12 rfl ⟨rfl, Nat.le_refl _, Nat.le_refl _⟩ h
theorem d_X12_waking_0 : decode M_X12_waking.2.1 0 = .ok (.aload_n 0, 1) := by decide +kernel
theorem d_X12_waking_1 : decode M_X12_waking.2.1 1 = .ok (.iload_n 1, 1) := by decide +kernel
theorem d_X12_waking_2 : decode M_X12_waking.2.1 2 = .ok (.iload_n 2, 1) := by decide +kernel
theorem d_X12_waking_3 : decode M_X12_waking.2.1 3 = .ok (.aload_n 0, 1) := by decide +kernel
theorem d_X12_waking_4 : decode M_X12_waking.2.1 4 = .ok (.getfield 102, 3) := by decide +kernel
theorem d_X12_waking_7 : decode M_X12_waking.2.1 7 = .ok (.bipush 30, 2) := by decide +kernel
theorem d_X12_waking_9 : decode M_X12_waking.2.1 9 = .ok (.aload_n 0, 1) := by decide +kernel
theorem d_X12_waking_10 : decode M_X12_waking.2.1 10 = .ok (.getfield 23, 3) := by decide +kernel
theorem d_X12_waking_13 : decode M_X12_waking.2.1 13 = .ok (.iload_n 1, 1) := by decide +kernel
theorem d_X12_waking_14 : decode M_X12_waking.2.1 14 = .ok (.iaload, 1) := by decide +kernel
theorem d_X12_waking_15 : decode M_X12_waking.2.1 15 = .ok (.iadd, 1) := by decide +kernel
theorem d_X12_waking_16 : decode M_X12_waking.2.1 16 = .ok (.iaload, 1) := by decide +kernel
theorem d_X12_waking_17 : decode M_X12_waking.2.1 17 = .ok (.aload_n 0, 1) := by decide +kernel
theorem d_X12_waking_18 : decode M_X12_waking.2.1 18 = .ok (.getfield 102, 3) := by decide +kernel
theorem d_X12_waking_21 : decode M_X12_waking.2.1 21 = .ok (.bipush 15, 2) := by decide +kernel
theorem d_X12_waking_23 : decode M_X12_waking.2.1 23 = .ok (.iload_n 1, 1) := by decide +kernel
theorem d_X12_waking_24 : decode M_X12_waking.2.1 24 = .ok (.iadd, 1) := by decide +kernel
theorem d_X12_waking_25 : decode M_X12_waking.2.1 25 = .ok (.iaload, 1) := by decide +kernel
theorem d_X12_waking_26 : decode M_X12_waking.2.1 26 = .ok (.invokevirtual 400, 3) := by decide +kernel
theorem d_X12_waking_29 : decode M_X12_waking.2.1 29 = .ok (.ireturn, 1) := by decide +kernel
set_option maxRecDepth 20000 in
theorem s_X12_waking_0 {d : Nat} {p0 : Int} {p1 : Int} {G : Mem} {Q : Int → Mem → Prop}  (h : (0 ≤ p0 ∧ p0 < 30) ∧ ((0 ≤ (30 + (G 316 p0)) ∧ (30 + (G 316 p0)) < 116) ∧ ((0 ≤ (15 + p0) ∧ (15 + p0) < 116) ∧ (Ct d M_X12_wakingBy NT 0 0 (some lay) [(2, 311), (0, p0), (0, p1), (0, (G 342 (30 + (G 316 p0)))), (0, (G 342 (15 + p0)))] G (fun r5 G4 => Q r5 G4))))) : Rn (d + 1) M_X12_waking zN 0 [(0, (2, 311)), (1, (0, p0)), (2, (0, p1))] [] G Q := by
  refine r_aload_n d_X12_waking_0 0 rfl rfl ?_
  refine r_iload_n d_X12_waking_1 1 rfl rfl ?_
  refine r_iload_n d_X12_waking_2 2 rfl rfl ?_
  refine r_aload_n d_X12_waking_3 0 rfl rfl ?_
  refine r_getL (v := 342) 12 43 43 rfl d_X12_waking_4 fl_X12_102 (by decide) (bs_ob bs_12) (ly_12_43 bs_12).1 (ly_12_43 bs_12).2.1 ?_
  refine r_bipush d_X12_waking_7 (by decide +kernel) ?_
  refine r_aload_n d_X12_waking_9 0 rfl rfl ?_
  refine r_getL (v := 316) 12 13 13 rfl d_X12_waking_10 fl_X12_23 (by decide) (bs_ob bs_12) (ly_12_13 bs_12).1 (ly_12_13 bs_12).2.1 ?_
  refine r_iload_n d_X12_waking_13 1 rfl rfl ?_
  obtain ⟨h1, h⟩ := h
  refine r_iaload d_X12_waking_14 (ly_12_13 bs_12).2.2 h1 ?_
  refine r_iadd d_X12_waking_15 ?_
  obtain ⟨h2, h⟩ := h
  refine r_iaload d_X12_waking_16 (ly_12_43 bs_12).2.2 h2 ?_
  refine r_aload_n d_X12_waking_17 0 rfl rfl ?_
  refine r_getL (v := 342) 12 43 43 rfl d_X12_waking_18 fl_X12_102 (by decide) (bs_ob bs_12) (ly_12_43 bs_12).1 (ly_12_43 bs_12).2.1 ?_
  refine r_bipush d_X12_waking_21 (by decide +kernel) ?_
  refine r_iload_n d_X12_waking_23 1 rfl rfl ?_
  refine r_iadd d_X12_waking_24 ?_
  obtain ⟨h3, h⟩ := h
  refine r_iaload d_X12_waking_25 (ly_12_43 bs_12).2.2 h3 ?_
  refine r_callV0 (M' := M_X12_wakingBy) (ci := 12) [(0, p0), (0, p1), (0, (G 342 (30 + (G 316 p0)))), (0, (G 342 (15 + p0)))] d_X12_waking_26 cl_X12_400 rfl (Nat.le_of_ble_eq_true rfl) (by decide) rfl (bs_ob bs_12) ?_
  refine Ct.mono h (fun r5 G4 h => ?_)
  show Rn _ M_X12_waking zN 29 [(0, (2, 311)), (1, (0, p0)), (2, (0, p1))] [(0, r5)] G4 Q
  exact r_ireturn d_X12_waking_29 rfl ⟨rfl, Nat.le_refl _, Nat.le_refl _⟩ h
theorem d_X12_spilling_0 : decode M_X12_spilling.2.1 0 = .ok (.aload_n 0, 1) := by decide +kernel
theorem d_X12_spilling_1 : decode M_X12_spilling.2.1 1 = .ok (.getfield 59, 3) := by decide +kernel
theorem d_X12_spilling_4 : decode M_X12_spilling.2.1 4 = .ok (.iconst 1, 1) := by decide +kernel
theorem d_X12_spilling_5 : decode M_X12_spilling.2.1 5 = .ok (.iaload, 1) := by decide +kernel
theorem d_X12_spilling_6 : decode M_X12_spilling.2.1 6 = .ok (.aload_n 0, 1) := by decide +kernel
theorem d_X12_spilling_7 : decode M_X12_spilling.2.1 7 = .ok (.getfield 56, 3) := by decide +kernel
theorem d_X12_spilling_10 : decode M_X12_spilling.2.1 10 = .ok (.iconst 1, 1) := by decide +kernel
theorem d_X12_spilling_11 : decode M_X12_spilling.2.1 11 = .ok (.iaload, 1) := by decide +kernel
theorem d_X12_spilling_12 : decode M_X12_spilling.2.1 12 = .ok (.if_icmp .ne 7, 3) := by decide +kernel
theorem d_X12_spilling_15 : decode M_X12_spilling.2.1 15 = .ok (.iconst 3, 1) := by decide +kernel
theorem d_X12_spilling_16 : decode M_X12_spilling.2.1 16 = .ok (.iload_n 2, 1) := by decide +kernel
theorem d_X12_spilling_17 : decode M_X12_spilling.2.1 17 = .ok (.iadd, 1) := by decide +kernel
theorem d_X12_spilling_18 : decode M_X12_spilling.2.1 18 = .ok (.ireturn, 1) := by decide +kernel
theorem d_X12_spilling_19 : decode M_X12_spilling.2.1 19 = .ok (.aload_n 0, 1) := by decide +kernel
theorem d_X12_spilling_20 : decode M_X12_spilling.2.1 20 = .ok (.iload_n 1, 1) := by decide +kernel
theorem d_X12_spilling_21 : decode M_X12_spilling.2.1 21 = .ok (.iload_n 3, 1) := by decide +kernel
theorem d_X12_spilling_22 : decode M_X12_spilling.2.1 22 = .ok (.aload_n 0, 1) := by decide +kernel
theorem d_X12_spilling_23 : decode M_X12_spilling.2.1 23 = .ok (.getfield 102, 3) := by decide +kernel
theorem d_X12_spilling_26 : decode M_X12_spilling.2.1 26 = .ok (.bipush 30, 2) := by decide +kernel
theorem d_X12_spilling_28 : decode M_X12_spilling.2.1 28 = .ok (.aload_n 0, 1) := by decide +kernel
theorem d_X12_spilling_29 : decode M_X12_spilling.2.1 29 = .ok (.getfield 23, 3) := by decide +kernel
theorem d_X12_spilling_32 : decode M_X12_spilling.2.1 32 = .ok (.iload_n 1, 1) := by decide +kernel
theorem d_X12_spilling_33 : decode M_X12_spilling.2.1 33 = .ok (.iaload, 1) := by decide +kernel
theorem d_X12_spilling_34 : decode M_X12_spilling.2.1 34 = .ok (.iadd, 1) := by decide +kernel
theorem d_X12_spilling_35 : decode M_X12_spilling.2.1 35 = .ok (.iaload, 1) := by decide +kernel
theorem d_X12_spilling_36 : decode M_X12_spilling.2.1 36 = .ok (.aload_n 0, 1) := by decide +kernel
theorem d_X12_spilling_37 : decode M_X12_spilling.2.1 37 = .ok (.getfield 102, 3) := by decide +kernel
theorem d_X12_spilling_40 : decode M_X12_spilling.2.1 40 = .ok (.bipush 15, 2) := by decide +kernel
theorem d_X12_spilling_42 : decode M_X12_spilling.2.1 42 = .ok (.iload_n 1, 1) := by decide +kernel
theorem d_X12_spilling_43 : decode M_X12_spilling.2.1 43 = .ok (.iadd, 1) := by decide +kernel
theorem d_X12_spilling_44 : decode M_X12_spilling.2.1 44 = .ok (.iaload, 1) := by decide +kernel
theorem d_X12_spilling_45 : decode M_X12_spilling.2.1 45 = .ok (.invokevirtual 389, 3) := by decide +kernel
theorem d_X12_spilling_48 : decode M_X12_spilling.2.1 48 = .ok (.aload_n 0, 1) := by decide +kernel
theorem d_X12_spilling_49 : decode M_X12_spilling.2.1 49 = .ok (.getfield 99, 3) := by decide +kernel
theorem d_X12_spilling_52 : decode M_X12_spilling.2.1 52 = .ok (.bipush 6, 2) := by decide +kernel
theorem d_X12_spilling_54 : decode M_X12_spilling.2.1 54 = .ok (.aload_n 0, 1) := by decide +kernel
theorem d_X12_spilling_55 : decode M_X12_spilling.2.1 55 = .ok (.getfield 13, 3) := by decide +kernel
theorem d_X12_spilling_58 : decode M_X12_spilling.2.1 58 = .ok (.iconst 2, 1) := by decide +kernel
theorem d_X12_spilling_59 : decode M_X12_spilling.2.1 59 = .ok (.iaload, 1) := by decide +kernel
theorem d_X12_spilling_60 : decode M_X12_spilling.2.1 60 = .ok (.iastore, 1) := by decide +kernel
theorem d_X12_spilling_61 : decode M_X12_spilling.2.1 61 = .ok (.aload_n 0, 1) := by decide +kernel
theorem d_X12_spilling_62 : decode M_X12_spilling.2.1 62 = .ok (.getfield 99, 3) := by decide +kernel
theorem d_X12_spilling_65 : decode M_X12_spilling.2.1 65 = .ok (.bipush 7, 2) := by decide +kernel
theorem d_X12_spilling_67 : decode M_X12_spilling.2.1 67 = .ok (.iload_n 2, 1) := by decide +kernel
theorem d_X12_spilling_68 : decode M_X12_spilling.2.1 68 = .ok (.iastore, 1) := by decide +kernel
theorem d_X12_spilling_69 : decode M_X12_spilling.2.1 69 = .ok (.aload_n 0, 1) := by decide +kernel
theorem d_X12_spilling_70 : decode M_X12_spilling.2.1 70 = .ok (.iconst 1, 1) := by decide +kernel
theorem d_X12_spilling_71 : decode M_X12_spilling.2.1 71 = .ok (.invokevirtual 393, 3) := by decide +kernel
theorem d_X12_spilling_74 : decode M_X12_spilling.2.1 74 = .ok (.iconst 0, 1) := by decide +kernel
theorem d_X12_spilling_75 : decode M_X12_spilling.2.1 75 = .ok (.bipush 10, 2) := by decide +kernel
theorem d_X12_spilling_77 : decode M_X12_spilling.2.1 77 = .ok (.invokestatic 396, 3) := by decide +kernel
theorem d_X12_spilling_80 : decode M_X12_spilling.2.1 80 = .ok (.ireturn, 1) := by decide +kernel
set_option maxRecDepth 20000 in
theorem s_X12_spilling_0 {d : Nat} {p0 : Int} {p1 : Int} {p2 : Int} {G : Mem} {Q : Int → Mem → Prop}  (h : (InR (G 328 1)) ∧ (InR (G 327 1)) ∧ (((G 328 1) ≠ (G 327 1)) → (0 ≤ p0 ∧ p0 < 30) ∧ ((0 ≤ (30 + (G 316 p0)) ∧ (30 + (G 316 p0)) < 116) ∧ ((0 ≤ (15 + p0) ∧ (15 + p0) < 116) ∧ (Ct d M_X12_facts NT 0 0 (some lay) [(2, 311), (0, p0), (0, p2), (0, (G 342 (30 + (G 316 p0)))), (0, (G 342 (15 + p0)))] G (fun r8 G7 => (∀ G9 : Mem, G9 = st G7 341 6 (wr (G7 313 2)) → (∀ G10 : Mem, G10 = st G9 341 7 (wr p1) → Ct d M_X12_worked NT 0 0 (some lay) [(2, 311), (0, 1)] G10 (fun r12 G11 => Ct d M_X12_between NT 0 0 (some lay) [(0, r12), (0, 0), (0, 10)] G11 (fun r14 G13 => Q r14 G13))))))))) ∧ (¬ ((G 328 1) ≠ (G 327 1)) → Q (3 + p1) G)) : Rn (d + 1) M_X12_spilling zN 0 [(0, (2, 311)), (1, (0, p0)), (2, (0, p1)), (3, (0, p2))] [] G Q := by
  refine r_aload_n d_X12_spilling_0 0 rfl rfl ?_
  refine r_getL (v := 328) 12 25 25 rfl d_X12_spilling_1 fl_X12_59 (by decide) (bs_ob bs_12) (ly_12_25 bs_12).1 (ly_12_25 bs_12).2.1 ?_
  refine r_iconst d_X12_spilling_4 ?_
  refine r_iaload d_X12_spilling_5 (ly_12_25 bs_12).2.2 (by decide) ?_
  refine r_aload_n d_X12_spilling_6 0 rfl rfl ?_
  refine r_getL (v := 327) 12 24 24 rfl d_X12_spilling_7 fl_X12_56 (by decide) (bs_ob bs_12) (ly_12_24 bs_12).1 (ly_12_24 bs_12).2.1 ?_
  refine r_iconst d_X12_spilling_10 ?_
  refine r_iaload d_X12_spilling_11 (ly_12_24 bs_12).2.2 (by decide) ?_
  obtain ⟨h1, h⟩ := h
  obtain ⟨h2, h⟩ := h
  refine r_icmp_ne (tgt := 19) d_X12_spilling_12 (by decide) h1 h2 (fun c3 => ?_) (fun c3 => ?_)
  · replace h := h.1 c3
    refine r_aload_n d_X12_spilling_19 0 rfl rfl ?_
    refine r_iload_n d_X12_spilling_20 1 rfl rfl ?_
    refine r_iload_n d_X12_spilling_21 3 rfl rfl ?_
    refine r_aload_n d_X12_spilling_22 0 rfl rfl ?_
    refine r_getL (v := 342) 12 43 43 rfl d_X12_spilling_23 fl_X12_102 (by decide) (bs_ob bs_12) (ly_12_43 bs_12).1 (ly_12_43 bs_12).2.1 ?_
    refine r_bipush d_X12_spilling_26 (by decide +kernel) ?_
    refine r_aload_n d_X12_spilling_28 0 rfl rfl ?_
    refine r_getL (v := 316) 12 13 13 rfl d_X12_spilling_29 fl_X12_23 (by decide) (bs_ob bs_12) (ly_12_13 bs_12).1 (ly_12_13 bs_12).2.1 ?_
    refine r_iload_n d_X12_spilling_32 1 rfl rfl ?_
    obtain ⟨h4, h⟩ := h
    refine r_iaload d_X12_spilling_33 (ly_12_13 bs_12).2.2 h4 ?_
    refine r_iadd d_X12_spilling_34 ?_
    obtain ⟨h5, h⟩ := h
    refine r_iaload d_X12_spilling_35 (ly_12_43 bs_12).2.2 h5 ?_
    refine r_aload_n d_X12_spilling_36 0 rfl rfl ?_
    refine r_getL (v := 342) 12 43 43 rfl d_X12_spilling_37 fl_X12_102 (by decide) (bs_ob bs_12) (ly_12_43 bs_12).1 (ly_12_43 bs_12).2.1 ?_
    refine r_bipush d_X12_spilling_40 (by decide +kernel) ?_
    refine r_iload_n d_X12_spilling_42 1 rfl rfl ?_
    refine r_iadd d_X12_spilling_43 ?_
    obtain ⟨h6, h⟩ := h
    refine r_iaload d_X12_spilling_44 (ly_12_43 bs_12).2.2 h6 ?_
    refine r_callV0 (M' := M_X12_facts) (ci := 12) [(0, p0), (0, p2), (0, (G 342 (30 + (G 316 p0)))), (0, (G 342 (15 + p0)))] d_X12_spilling_45 cl_X12_389 rfl (Nat.le_of_ble_eq_true rfl) (by decide) rfl (bs_ob bs_12) ?_
    refine Ct.mono h (fun r8 G7 h => ?_)
    show Rn _ M_X12_spilling zN 48 [(0, (2, 311)), (1, (0, p0)), (2, (0, p1)), (3, (0, p2))] [] G7 Q
    refine r_aload_n d_X12_spilling_48 0 rfl rfl ?_
    refine r_getL (v := 341) 12 41 41 rfl d_X12_spilling_49 fl_X12_99 (by decide) (bs_ob bs_12) (ly_12_41 bs_12).1 (ly_12_41 bs_12).2.1 ?_
    refine r_bipush d_X12_spilling_52 (by decide +kernel) ?_
    refine r_aload_n d_X12_spilling_54 0 rfl rfl ?_
    refine r_getL (v := 313) 12 10 10 rfl d_X12_spilling_55 fl_X12_13 (by decide) (bs_ob bs_12) (ly_12_10 bs_12).1 (ly_12_10 bs_12).2.1 ?_
    refine r_iconst d_X12_spilling_58 ?_
    refine r_iaload d_X12_spilling_59 (ly_12_10 bs_12).2.2 (by decide) ?_
    obtain ⟨G9, eG9⟩ : ∃ y : Mem, y = st G7 341 6 (wr (G7 313 2)) := ⟨_, rfl⟩
    replace h := h G9 eG9
    refine r_iastoreW d_X12_spilling_60 (ly_12_41 bs_12).2.2 (by decide) ?_
    rw [← eG9]
    refine r_aload_n d_X12_spilling_61 0 rfl rfl ?_
    refine r_getL (v := 341) 12 41 41 rfl d_X12_spilling_62 fl_X12_99 (by decide) (bs_ob bs_12) (ly_12_41 bs_12).1 (ly_12_41 bs_12).2.1 ?_
    refine r_bipush d_X12_spilling_65 (by decide +kernel) ?_
    refine r_iload_n d_X12_spilling_67 2 rfl rfl ?_
    obtain ⟨G10, eG10⟩ : ∃ y : Mem, y = st G9 341 7 (wr p1) := ⟨_, rfl⟩
    replace h := h G10 eG10
    refine r_iastoreW d_X12_spilling_68 (ly_12_41 bs_12).2.2 (by decide) ?_
    rw [← eG10]
    refine r_aload_n d_X12_spilling_69 0 rfl rfl ?_
    refine r_iconst d_X12_spilling_70 ?_
    refine r_callV0 (M' := M_X12_worked) (ci := 12) [(0, 1)] d_X12_spilling_71 cl_X12_393 rfl (Nat.le_of_ble_eq_true rfl) (by decide) rfl (bs_ob bs_12) ?_
    refine Ct.mono h (fun r12 G11 h => ?_)
    show Rn _ M_X12_spilling zN 74 [(0, (2, 311)), (1, (0, p0)), (2, (0, p1)), (3, (0, p2))] [(0, r12)] G11 Q
    refine r_iconst d_X12_spilling_74 ?_
    refine r_bipush d_X12_spilling_75 (by decide +kernel) ?_
    refine r_callS0 (M' := M_X12_between) [(0, r12), (0, 0), (0, 10)] d_X12_spilling_77 cl_X12_396 rfl (Nat.le_of_ble_eq_true rfl) ?_
    refine Ct.mono h (fun r14 G13 h => ?_)
    show Rn _ M_X12_spilling zN 80 [(0, (2, 311)), (1, (0, p0)), (2, (0, p1)), (3, (0, p2))] [(0, r14)] G13 Q
    exact r_ireturn d_X12_spilling_80 rfl ⟨rfl, Nat.le_refl _, Nat.le_refl _⟩ h
  · replace h := h.2 c3
    refine r_iconst d_X12_spilling_15 ?_
    refine r_iload_n d_X12_spilling_16 2 rfl rfl ?_
    refine r_iadd d_X12_spilling_17 ?_
    exact r_ireturn d_X12_spilling_18 rfl ⟨rfl, Nat.le_refl _, Nat.le_refl _⟩ h
theorem d_X12_queueAt_0 : decode M_X12_queueAt.2.1 0 = .ok (.aload_n 0, 1) := by decide +kernel
theorem d_X12_queueAt_1 : decode M_X12_queueAt.2.1 1 = .ok (.getfield 59, 3) := by decide +kernel
theorem d_X12_queueAt_4 : decode M_X12_queueAt.2.1 4 = .ok (.iconst 2, 1) := by decide +kernel
theorem d_X12_queueAt_5 : decode M_X12_queueAt.2.1 5 = .ok (.iaload, 1) := by decide +kernel
theorem d_X12_queueAt_6 : decode M_X12_queueAt.2.1 6 = .ok (.aload_n 0, 1) := by decide +kernel
theorem d_X12_queueAt_7 : decode M_X12_queueAt.2.1 7 = .ok (.getfield 56, 3) := by decide +kernel
theorem d_X12_queueAt_10 : decode M_X12_queueAt.2.1 10 = .ok (.iconst 2, 1) := by decide +kernel
theorem d_X12_queueAt_11 : decode M_X12_queueAt.2.1 11 = .ok (.iaload, 1) := by decide +kernel
theorem d_X12_queueAt_12 : decode M_X12_queueAt.2.1 12 = .ok (.if_icmp .ne 5, 3) := by decide +kernel
theorem d_X12_queueAt_15 : decode M_X12_queueAt.2.1 15 = .ok (.iconst 0, 1) := by decide +kernel
theorem d_X12_queueAt_16 : decode M_X12_queueAt.2.1 16 = .ok (.ireturn, 1) := by decide +kernel
theorem d_X12_queueAt_17 : decode M_X12_queueAt.2.1 17 = .ok (.aload_n 0, 1) := by decide +kernel
theorem d_X12_queueAt_18 : decode M_X12_queueAt.2.1 18 = .ok (.getfield 99, 3) := by decide +kernel
theorem d_X12_queueAt_21 : decode M_X12_queueAt.2.1 21 = .ok (.iconst 1, 1) := by decide +kernel
theorem d_X12_queueAt_22 : decode M_X12_queueAt.2.1 22 = .ok (.iload_n 1, 1) := by decide +kernel
theorem d_X12_queueAt_23 : decode M_X12_queueAt.2.1 23 = .ok (.iastore, 1) := by decide +kernel
theorem d_X12_queueAt_24 : decode M_X12_queueAt.2.1 24 = .ok (.aload_n 0, 1) := by decide +kernel
theorem d_X12_queueAt_25 : decode M_X12_queueAt.2.1 25 = .ok (.getfield 99, 3) := by decide +kernel
theorem d_X12_queueAt_28 : decode M_X12_queueAt.2.1 28 = .ok (.bipush 8, 2) := by decide +kernel
theorem d_X12_queueAt_30 : decode M_X12_queueAt.2.1 30 = .ok (.iload_n 2, 1) := by decide +kernel
theorem d_X12_queueAt_31 : decode M_X12_queueAt.2.1 31 = .ok (.iastore, 1) := by decide +kernel
theorem d_X12_queueAt_32 : decode M_X12_queueAt.2.1 32 = .ok (.aload_n 0, 1) := by decide +kernel
theorem d_X12_queueAt_33 : decode M_X12_queueAt.2.1 33 = .ok (.iconst 2, 1) := by decide +kernel
theorem d_X12_queueAt_34 : decode M_X12_queueAt.2.1 34 = .ok (.invokevirtual 393, 3) := by decide +kernel
theorem d_X12_queueAt_37 : decode M_X12_queueAt.2.1 37 = .ok (.iconst 0, 1) := by decide +kernel
theorem d_X12_queueAt_38 : decode M_X12_queueAt.2.1 38 = .ok (.bipush 9, 2) := by decide +kernel
theorem d_X12_queueAt_40 : decode M_X12_queueAt.2.1 40 = .ok (.invokestatic 396, 3) := by decide +kernel
theorem d_X12_queueAt_43 : decode M_X12_queueAt.2.1 43 = .ok (.ireturn, 1) := by decide +kernel
set_option maxRecDepth 20000 in
theorem s_X12_queueAt_0 {d : Nat} {p0 : Int} {p1 : Int} {G : Mem} {Q : Int → Mem → Prop}  (h : (InR (G 328 2)) ∧ (InR (G 327 2)) ∧ (((G 328 2) ≠ (G 327 2)) → (∀ G4 : Mem, G4 = st G 341 1 (wr p0) → (∀ G5 : Mem, G5 = st G4 341 8 (wr p1) → Ct d M_X12_worked NT 0 0 (some lay) [(2, 311), (0, 2)] G5 (fun r7 G6 => Ct d M_X12_between NT 0 0 (some lay) [(0, r7), (0, 0), (0, 9)] G6 (fun r9 G8 => Q r9 G8))))) ∧ (¬ ((G 328 2) ≠ (G 327 2)) → Q 0 G)) : Rn (d + 1) M_X12_queueAt zN 0 [(0, (2, 311)), (1, (0, p0)), (2, (0, p1))] [] G Q := by
  refine r_aload_n d_X12_queueAt_0 0 rfl rfl ?_
  refine r_getL (v := 328) 12 25 25 rfl d_X12_queueAt_1 fl_X12_59 (by decide) (bs_ob bs_12) (ly_12_25 bs_12).1 (ly_12_25 bs_12).2.1 ?_
  refine r_iconst d_X12_queueAt_4 ?_
  refine r_iaload d_X12_queueAt_5 (ly_12_25 bs_12).2.2 (by decide) ?_
  refine r_aload_n d_X12_queueAt_6 0 rfl rfl ?_
  refine r_getL (v := 327) 12 24 24 rfl d_X12_queueAt_7 fl_X12_56 (by decide) (bs_ob bs_12) (ly_12_24 bs_12).1 (ly_12_24 bs_12).2.1 ?_
  refine r_iconst d_X12_queueAt_10 ?_
  refine r_iaload d_X12_queueAt_11 (ly_12_24 bs_12).2.2 (by decide) ?_
  obtain ⟨h1, h⟩ := h
  obtain ⟨h2, h⟩ := h
  refine r_icmp_ne (tgt := 17) d_X12_queueAt_12 (by decide) h1 h2 (fun c3 => ?_) (fun c3 => ?_)
  · replace h := h.1 c3
    refine r_aload_n d_X12_queueAt_17 0 rfl rfl ?_
    refine r_getL (v := 341) 12 41 41 rfl d_X12_queueAt_18 fl_X12_99 (by decide) (bs_ob bs_12) (ly_12_41 bs_12).1 (ly_12_41 bs_12).2.1 ?_
    refine r_iconst d_X12_queueAt_21 ?_
    refine r_iload_n d_X12_queueAt_22 1 rfl rfl ?_
    obtain ⟨G4, eG4⟩ : ∃ y : Mem, y = st G 341 1 (wr p0) := ⟨_, rfl⟩
    replace h := h G4 eG4
    refine r_iastoreW d_X12_queueAt_23 (ly_12_41 bs_12).2.2 (by decide) ?_
    rw [← eG4]
    refine r_aload_n d_X12_queueAt_24 0 rfl rfl ?_
    refine r_getL (v := 341) 12 41 41 rfl d_X12_queueAt_25 fl_X12_99 (by decide) (bs_ob bs_12) (ly_12_41 bs_12).1 (ly_12_41 bs_12).2.1 ?_
    refine r_bipush d_X12_queueAt_28 (by decide +kernel) ?_
    refine r_iload_n d_X12_queueAt_30 2 rfl rfl ?_
    obtain ⟨G5, eG5⟩ : ∃ y : Mem, y = st G4 341 8 (wr p1) := ⟨_, rfl⟩
    replace h := h G5 eG5
    refine r_iastoreW d_X12_queueAt_31 (ly_12_41 bs_12).2.2 (by decide) ?_
    rw [← eG5]
    refine r_aload_n d_X12_queueAt_32 0 rfl rfl ?_
    refine r_iconst d_X12_queueAt_33 ?_
    refine r_callV0 (M' := M_X12_worked) (ci := 12) [(0, 2)] d_X12_queueAt_34 cl_X12_393 rfl (Nat.le_of_ble_eq_true rfl) (by decide) rfl (bs_ob bs_12) ?_
    refine Ct.mono h (fun r7 G6 h => ?_)
    show Rn _ M_X12_queueAt zN 37 [(0, (2, 311)), (1, (0, p0)), (2, (0, p1))] [(0, r7)] G6 Q
    refine r_iconst d_X12_queueAt_37 ?_
    refine r_bipush d_X12_queueAt_38 (by decide +kernel) ?_
    refine r_callS0 (M' := M_X12_between) [(0, r7), (0, 0), (0, 9)] d_X12_queueAt_40 cl_X12_396 rfl (Nat.le_of_ble_eq_true rfl) ?_
    refine Ct.mono h (fun r9 G8 h => ?_)
    show Rn _ M_X12_queueAt zN 43 [(0, (2, 311)), (1, (0, p0)), (2, (0, p1))] [(0, r9)] G8 Q
    exact r_ireturn d_X12_queueAt_43 rfl ⟨rfl, Nat.le_refl _, Nat.le_refl _⟩ h
  · replace h := h.2 c3
    refine r_iconst d_X12_queueAt_15 ?_
    exact r_ireturn d_X12_queueAt_16 rfl ⟨rfl, Nat.le_refl _, Nat.le_refl _⟩ h
theorem d_X12_sitter_0 : decode M_X12_sitter.2.1 0 = .ok (.aload_n 0, 1) := by decide +kernel
theorem d_X12_sitter_1 : decode M_X12_sitter.2.1 1 = .ok (.iconst 0, 1) := by decide +kernel
theorem d_X12_sitter_2 : decode M_X12_sitter.2.1 2 = .ok (.putfield 169, 3) := by decide +kernel
theorem d_X12_sitter_5 : decode M_X12_sitter.2.1 5 = .ok (.aload_n 0, 1) := by decide +kernel
theorem d_X12_sitter_6 : decode M_X12_sitter.2.1 6 = .ok (.iload_n 1, 1) := by decide +kernel
theorem d_X12_sitter_7 : decode M_X12_sitter.2.1 7 = .ok (.invokevirtual 404, 3) := by decide +kernel
theorem d_X12_sitter_10 : decode M_X12_sitter.2.1 10 = .ok (.ifCond .eq 13, 3) := by decide +kernel
theorem d_X12_sitter_13 : decode M_X12_sitter.2.1 13 = .ok (.iload_n 2, 1) := by decide +kernel
theorem d_X12_sitter_14 : decode M_X12_sitter.2.1 14 = .ok (.iconst 0, 1) := by decide +kernel
theorem d_X12_sitter_15 : decode M_X12_sitter.2.1 15 = .ok (.bipush 9, 2) := by decide +kernel
theorem d_X12_sitter_17 : decode M_X12_sitter.2.1 17 = .ok (.invokestatic 308, 3) := by decide +kernel
theorem d_X12_sitter_20 : decode M_X12_sitter.2.1 20 = .ok (.ifCond .ne 5, 3) := by decide +kernel
theorem d_X12_sitter_23 : decode M_X12_sitter.2.1 23 = .ok (.iconst (-1), 1) := by decide +kernel
theorem d_X12_sitter_24 : decode M_X12_sitter.2.1 24 = .ok (.ireturn, 1) := by decide +kernel
theorem d_X12_sitter_25 : decode M_X12_sitter.2.1 25 = .ok (.iload_n 2, 1) := by decide +kernel
theorem d_X12_sitter_26 : decode M_X12_sitter.2.1 26 = .ok (.iconst 3, 1) := by decide +kernel
theorem d_X12_sitter_27 : decode M_X12_sitter.2.1 27 = .ok (.if_icmp .ge 37, 3) := by decide +kernel
theorem d_X12_sitter_30 : decode M_X12_sitter.2.1 30 = .ok (.iload_n 2, 1) := by decide +kernel
theorem d_X12_sitter_31 : decode M_X12_sitter.2.1 31 = .ok (.ifCond .ne 12, 3) := by decide +kernel
theorem d_X12_sitter_34 : decode M_X12_sitter.2.1 34 = .ok (.aload_n 0, 1) := by decide +kernel
theorem d_X12_sitter_35 : decode M_X12_sitter.2.1 35 = .ok (.getfield 20, 3) := by decide +kernel
theorem d_X12_sitter_38 : decode M_X12_sitter.2.1 38 = .ok (.iload_n 1, 1) := by decide +kernel
theorem d_X12_sitter_39 : decode M_X12_sitter.2.1 39 = .ok (.iaload, 1) := by decide +kernel
theorem d_X12_sitter_40 : decode M_X12_sitter.2.1 40 = .ok (.goto 23, 3) := by decide +kernel
theorem d_X12_sitter_43 : decode M_X12_sitter.2.1 43 = .ok (.iload_n 2, 1) := by decide +kernel
theorem d_X12_sitter_44 : decode M_X12_sitter.2.1 44 = .ok (.iconst 1, 1) := by decide +kernel
theorem d_X12_sitter_45 : decode M_X12_sitter.2.1 45 = .ok (.if_icmp .ne 12, 3) := by decide +kernel
theorem d_X12_sitter_48 : decode M_X12_sitter.2.1 48 = .ok (.aload_n 0, 1) := by decide +kernel
theorem d_X12_sitter_49 : decode M_X12_sitter.2.1 49 = .ok (.getfield 23, 3) := by decide +kernel
theorem d_X12_sitter_52 : decode M_X12_sitter.2.1 52 = .ok (.iload_n 1, 1) := by decide +kernel
theorem d_X12_sitter_53 : decode M_X12_sitter.2.1 53 = .ok (.iaload, 1) := by decide +kernel
theorem d_X12_sitter_54 : decode M_X12_sitter.2.1 54 = .ok (.goto 9, 3) := by decide +kernel
theorem d_X12_sitter_57 : decode M_X12_sitter.2.1 57 = .ok (.aload_n 0, 1) := by decide +kernel
theorem d_X12_sitter_58 : decode M_X12_sitter.2.1 58 = .ok (.getfield 102, 3) := by decide +kernel
theorem d_X12_sitter_61 : decode M_X12_sitter.2.1 61 = .ok (.iload_n 1, 1) := by decide +kernel
theorem d_X12_sitter_62 : decode M_X12_sitter.2.1 62 = .ok (.iaload, 1) := by decide +kernel
theorem d_X12_sitter_63 : decode M_X12_sitter.2.1 63 = .ok (.ireturn, 1) := by decide +kernel
theorem d_X12_sitter_64 : decode M_X12_sitter.2.1 64 = .ok (.iload_n 2, 1) := by decide +kernel
theorem d_X12_sitter_65 : decode M_X12_sitter.2.1 65 = .ok (.bipush 7, 2) := by decide +kernel
theorem d_X12_sitter_67 : decode M_X12_sitter.2.1 67 = .ok (.if_icmp .ge 59, 3) := by decide +kernel
theorem d_X12_sitter_70 : decode M_X12_sitter.2.1 70 = .ok (.iload_n 2, 1) := by decide +kernel
theorem d_X12_sitter_71 : decode M_X12_sitter.2.1 71 = .ok (.iconst 3, 1) := by decide +kernel
theorem d_X12_sitter_72 : decode M_X12_sitter.2.1 72 = .ok (.if_icmp .ne 19, 3) := by decide +kernel
theorem d_X12_sitter_75 : decode M_X12_sitter.2.1 75 = .ok (.aload_n 0, 1) := by decide +kernel
theorem d_X12_sitter_76 : decode M_X12_sitter.2.1 76 = .ok (.iload_n 1, 1) := by decide +kernel
theorem d_X12_sitter_77 : decode M_X12_sitter.2.1 77 = .ok (.invokevirtual 407, 3) := by decide +kernel
theorem d_X12_sitter_80 : decode M_X12_sitter.2.1 80 = .ok (.ifCond .eq 7, 3) := by decide +kernel
theorem d_X12_sitter_83 : decode M_X12_sitter.2.1 83 = .ok (.iconst 1, 1) := by decide +kernel
theorem d_X12_sitter_84 : decode M_X12_sitter.2.1 84 = .ok (.goto 41, 3) := by decide +kernel
theorem d_X12_sitter_87 : decode M_X12_sitter.2.1 87 = .ok (.iconst 0, 1) := by decide +kernel
theorem d_X12_sitter_88 : decode M_X12_sitter.2.1 88 = .ok (.goto 37, 3) := by decide +kernel
theorem d_X12_sitter_91 : decode M_X12_sitter.2.1 91 = .ok (.iload_n 2, 1) := by decide +kernel
theorem d_X12_sitter_92 : decode M_X12_sitter.2.1 92 = .ok (.iconst 4, 1) := by decide +kernel
theorem d_X12_sitter_93 : decode M_X12_sitter.2.1 93 = .ok (.if_icmp .ne 14, 3) := by decide +kernel
theorem d_X12_sitter_96 : decode M_X12_sitter.2.1 96 = .ok (.aload_n 0, 1) := by decide +kernel
theorem d_X12_sitter_97 : decode M_X12_sitter.2.1 97 = .ok (.getfield 102, 3) := by decide +kernel
theorem d_X12_sitter_100 : decode M_X12_sitter.2.1 100 = .ok (.iconst 5, 1) := by decide +kernel
theorem d_X12_sitter_101 : decode M_X12_sitter.2.1 101 = .ok (.iload_n 1, 1) := by decide +kernel
theorem d_X12_sitter_102 : decode M_X12_sitter.2.1 102 = .ok (.iadd, 1) := by decide +kernel
theorem d_X12_sitter_103 : decode M_X12_sitter.2.1 103 = .ok (.iaload, 1) := by decide +kernel
theorem d_X12_sitter_104 : decode M_X12_sitter.2.1 104 = .ok (.goto 21, 3) := by decide +kernel
theorem d_X12_sitter_107 : decode M_X12_sitter.2.1 107 = .ok (.iload_n 2, 1) := by decide +kernel
theorem d_X12_sitter_108 : decode M_X12_sitter.2.1 108 = .ok (.iconst 5, 1) := by decide +kernel
theorem d_X12_sitter_109 : decode M_X12_sitter.2.1 109 = .ok (.if_icmp .ne 11, 3) := by decide +kernel
theorem d_X12_sitter_112 : decode M_X12_sitter.2.1 112 = .ok (.aload_n 0, 1) := by decide +kernel
theorem d_X12_sitter_113 : decode M_X12_sitter.2.1 113 = .ok (.iload_n 1, 1) := by decide +kernel
theorem d_X12_sitter_114 : decode M_X12_sitter.2.1 114 = .ok (.invokevirtual 383, 3) := by decide +kernel
theorem d_X12_sitter_117 : decode M_X12_sitter.2.1 117 = .ok (.goto 8, 3) := by decide +kernel
theorem d_X12_sitter_120 : decode M_X12_sitter.2.1 120 = .ok (.aload_n 0, 1) := by decide +kernel
theorem d_X12_sitter_121 : decode M_X12_sitter.2.1 121 = .ok (.iload_n 1, 1) := by decide +kernel
theorem d_X12_sitter_122 : decode M_X12_sitter.2.1 122 = .ok (.invokevirtual 386, 3) := by decide +kernel
theorem d_X12_sitter_125 : decode M_X12_sitter.2.1 125 = .ok (.ireturn, 1) := by decide +kernel
theorem d_X12_sitter_126 : decode M_X12_sitter.2.1 126 = .ok (.iload_n 2, 1) := by decide +kernel
theorem d_X12_sitter_127 : decode M_X12_sitter.2.1 127 = .ok (.bipush 7, 2) := by decide +kernel
theorem d_X12_sitter_129 : decode M_X12_sitter.2.1 129 = .ok (.if_icmp .ne 15, 3) := by decide +kernel
theorem d_X12_sitter_132 : decode M_X12_sitter.2.1 132 = .ok (.aload_n 0, 1) := by decide +kernel
theorem d_X12_sitter_133 : decode M_X12_sitter.2.1 133 = .ok (.getfield 102, 3) := by decide +kernel
theorem d_X12_sitter_136 : decode M_X12_sitter.2.1 136 = .ok (.bipush 15, 2) := by decide +kernel
theorem d_X12_sitter_138 : decode M_X12_sitter.2.1 138 = .ok (.iload_n 1, 1) := by decide +kernel
theorem d_X12_sitter_139 : decode M_X12_sitter.2.1 139 = .ok (.iadd, 1) := by decide +kernel
theorem d_X12_sitter_140 : decode M_X12_sitter.2.1 140 = .ok (.iaload, 1) := by decide +kernel
theorem d_X12_sitter_141 : decode M_X12_sitter.2.1 141 = .ok (.goto 30, 3) := by decide +kernel
theorem d_X12_sitter_144 : decode M_X12_sitter.2.1 144 = .ok (.iload_n 2, 1) := by decide +kernel
theorem d_X12_sitter_145 : decode M_X12_sitter.2.1 145 = .ok (.bipush 8, 2) := by decide +kernel
theorem d_X12_sitter_147 : decode M_X12_sitter.2.1 147 = .ok (.if_icmp .ne 15, 3) := by decide +kernel
theorem d_X12_sitter_150 : decode M_X12_sitter.2.1 150 = .ok (.aload_n 0, 1) := by decide +kernel
theorem d_X12_sitter_151 : decode M_X12_sitter.2.1 151 = .ok (.getfield 102, 3) := by decide +kernel
theorem d_X12_sitter_154 : decode M_X12_sitter.2.1 154 = .ok (.bipush 20, 2) := by decide +kernel
theorem d_X12_sitter_156 : decode M_X12_sitter.2.1 156 = .ok (.iload_n 1, 1) := by decide +kernel
theorem d_X12_sitter_157 : decode M_X12_sitter.2.1 157 = .ok (.iadd, 1) := by decide +kernel
theorem d_X12_sitter_158 : decode M_X12_sitter.2.1 158 = .ok (.iaload, 1) := by decide +kernel
theorem d_X12_sitter_159 : decode M_X12_sitter.2.1 159 = .ok (.goto 12, 3) := by decide +kernel
theorem d_X12_sitter_162 : decode M_X12_sitter.2.1 162 = .ok (.aload_n 0, 1) := by decide +kernel
theorem d_X12_sitter_163 : decode M_X12_sitter.2.1 163 = .ok (.getfield 102, 3) := by decide +kernel
theorem d_X12_sitter_166 : decode M_X12_sitter.2.1 166 = .ok (.bipush 25, 2) := by decide +kernel
theorem d_X12_sitter_168 : decode M_X12_sitter.2.1 168 = .ok (.iload_n 1, 1) := by decide +kernel
theorem d_X12_sitter_169 : decode M_X12_sitter.2.1 169 = .ok (.iadd, 1) := by decide +kernel
theorem d_X12_sitter_170 : decode M_X12_sitter.2.1 170 = .ok (.iaload, 1) := by decide +kernel
theorem d_X12_sitter_171 : decode M_X12_sitter.2.1 171 = .ok (.ireturn, 1) := by decide +kernel
set_option maxRecDepth 20000 in
theorem s_X12_sitter_0 {d : Nat} {p0 : Int} {p1 : Int} {G : Mem} {Q : Int → Mem → Prop}  (h : (∀ G1 : Mem, G1 = st G 311 0 0 → Ct d M_X12_isSitter NT 0 0 (some lay) [(2, 311), (0, p0)] G1 (fun r3 G2 => (InR r3) ∧ ((r3 = 0) → Q (-1) G2) ∧ (¬ (r3 = 0) → Ct d M_X12_within NT 0 0 (some lay) [(0, p1), (0, 0), (0, 9)] G2 (fun r7 G6 => (InR r7) ∧ ((r7 ≠ 0) → (InR p1) ∧ ((3 ≤ p1) → ((7 ≤ p1) → ((p1 ≠ 7) → ((p1 ≠ 8) → (0 ≤ (25 + p0) ∧ (25 + p0) < 116) ∧ (Q (G6 342 (25 + p0)) G6)) ∧ (¬ (p1 ≠ 8) → (0 ≤ (20 + p0) ∧ (20 + p0) < 116) ∧ (Q (G6 342 (20 + p0)) G6))) ∧ (¬ (p1 ≠ 7) → (0 ≤ (15 + p0) ∧ (15 + p0) < 116) ∧ (Q (G6 342 (15 + p0)) G6))) ∧ (¬ (7 ≤ p1) → ((p1 ≠ 3) → ((p1 ≠ 4) → ((p1 ≠ 5) → Ct d M_X12_legsOf NT 0 0 (some lay) [(2, 311), (0, p0)] G6 (fun r22 G21 => Q r22 G21)) ∧ (¬ (p1 ≠ 5) → Ct d M_X12_depthOf NT 0 0 (some lay) [(2, 311), (0, p0)] G6 (fun r24 G23 => Q r24 G23))) ∧ (¬ (p1 ≠ 4) → (0 ≤ (5 + p0) ∧ (5 + p0) < 116) ∧ (Q (G6 342 (5 + p0)) G6))) ∧ (¬ (p1 ≠ 3) → Ct d M_X12_isAsleep NT 0 0 (some lay) [(2, 311), (0, p0)] G6 (fun r27 G26 => (InR r27) ∧ ((r27 = 0) → Q 0 G26) ∧ (¬ (r27 = 0) → Q 1 G26))))) ∧ (¬ (3 ≤ p1) → ((p1 ≠ 0) → ((p1 ≠ 1) → (0 ≤ p0 ∧ p0 < 116) ∧ (Q (G6 342 p0) G6)) ∧ (¬ (p1 ≠ 1) → (0 ≤ p0 ∧ p0 < 30) ∧ (Q (G6 316 p0) G6))) ∧ (¬ (p1 ≠ 0) → (0 ≤ p0 ∧ p0 < 30) ∧ (Q (G6 315 p0) G6)))) ∧ (¬ (r7 ≠ 0) → Q (-1) G6)))))) : Rn (d + 1) M_X12_sitter zN 0 [(0, (2, 311)), (1, (0, p0)), (2, (0, p1))] [] G Q := by
  refine r_aload_n d_X12_sitter_0 0 rfl rfl ?_
  refine r_iconst d_X12_sitter_1 ?_
  obtain ⟨G1, eG1⟩ : ∃ y : Mem, y = st G 311 0 0 := ⟨_, rfl⟩
  replace h := h G1 eG1
  refine r_putI 12 0 0 rfl d_X12_sitter_2 fl_X12_169 (by decide) nofin_12_0 (bs_ob bs_12) ?_
  rw [← eG1]
  refine r_aload_n d_X12_sitter_5 0 rfl rfl ?_
  refine r_iload_n d_X12_sitter_6 1 rfl rfl ?_
  refine r_callV0 (M' := M_X12_isSitter) (ci := 12) [(0, p0)] d_X12_sitter_7 cl_X12_404 rfl (Nat.le_of_ble_eq_true rfl) (by decide) rfl (bs_ob bs_12) ?_
  refine Ct.mono h (fun r3 G2 h => ?_)
  show Rn _ M_X12_sitter zN 10 [(0, (2, 311)), (1, (0, p0)), (2, (0, p1))] [(0, r3)] G2 Q
  obtain ⟨h4, h⟩ := h
  refine r_if_eq (tgt := 23) d_X12_sitter_10 (by decide) h4 (fun c5 => ?_) (fun c5 => ?_)
  · replace h := h.1 c5
    refine r_iconst d_X12_sitter_23 ?_
    exact r_ireturn d_X12_sitter_24 rfl ⟨rfl, Nat.le_refl _, Nat.le_refl _⟩ h
  · replace h := h.2 c5
    refine r_iload_n d_X12_sitter_13 2 rfl rfl ?_
    refine r_iconst d_X12_sitter_14 ?_
    refine r_bipush d_X12_sitter_15 (by decide +kernel) ?_
    refine r_callS0 (M' := M_X12_within) [(0, p1), (0, 0), (0, 9)] d_X12_sitter_17 cl_X12_308 rfl (Nat.le_of_ble_eq_true rfl) ?_
    refine Ct.mono h (fun r7 G6 h => ?_)
    show Rn _ M_X12_sitter zN 20 [(0, (2, 311)), (1, (0, p0)), (2, (0, p1))] [(0, r7)] G6 Q
    obtain ⟨h8, h⟩ := h
    refine r_if_ne (tgt := 25) d_X12_sitter_20 (by decide) h8 (fun c9 => ?_) (fun c9 => ?_)
    · replace h := h.1 c9
      refine r_iload_n d_X12_sitter_25 2 rfl rfl ?_
      refine r_iconst d_X12_sitter_26 ?_
      obtain ⟨h10, h⟩ := h
      refine r_icmp_ge (tgt := 64) d_X12_sitter_27 (by decide) h10 ⟨by decide, by decide⟩ (fun c11 => ?_) (fun c11 => ?_)
      · replace h := h.1 c11
        refine r_iload_n d_X12_sitter_64 2 rfl rfl ?_
        refine r_bipush d_X12_sitter_65 (by decide +kernel) ?_
        refine r_icmp_ge (tgt := 126) d_X12_sitter_67 (by decide) h10 ⟨by decide, by decide⟩ (fun c12 => ?_) (fun c12 => ?_)
        · replace h := h.1 c12
          refine r_iload_n d_X12_sitter_126 2 rfl rfl ?_
          refine r_bipush d_X12_sitter_127 (by decide +kernel) ?_
          refine r_icmp_ne (tgt := 144) d_X12_sitter_129 (by decide) h10 ⟨by decide, by decide⟩ (fun c13 => ?_) (fun c13 => ?_)
          · replace h := h.1 c13
            refine r_iload_n d_X12_sitter_144 2 rfl rfl ?_
            refine r_bipush d_X12_sitter_145 (by decide +kernel) ?_
            refine r_icmp_ne (tgt := 162) d_X12_sitter_147 (by decide) h10 ⟨by decide, by decide⟩ (fun c14 => ?_) (fun c14 => ?_)
            · replace h := h.1 c14
              refine r_aload_n d_X12_sitter_162 0 rfl rfl ?_
              refine r_getL (v := 342) 12 43 43 rfl d_X12_sitter_163 fl_X12_102 (by decide) (bs_ob bs_12) (ly_12_43 bs_12).1 (ly_12_43 bs_12).2.1 ?_
              refine r_bipush d_X12_sitter_166 (by decide +kernel) ?_
              refine r_iload_n d_X12_sitter_168 1 rfl rfl ?_
              refine r_iadd d_X12_sitter_169 ?_
              obtain ⟨h15, h⟩ := h
              refine r_iaload d_X12_sitter_170 (ly_12_43 bs_12).2.2 h15 ?_
              exact r_ireturn d_X12_sitter_171 rfl ⟨rfl, Nat.le_refl _, Nat.le_refl _⟩ h
            · replace h := h.2 c14
              refine r_aload_n d_X12_sitter_150 0 rfl rfl ?_
              refine r_getL (v := 342) 12 43 43 rfl d_X12_sitter_151 fl_X12_102 (by decide) (bs_ob bs_12) (ly_12_43 bs_12).1 (ly_12_43 bs_12).2.1 ?_
              refine r_bipush d_X12_sitter_154 (by decide +kernel) ?_
              refine r_iload_n d_X12_sitter_156 1 rfl rfl ?_
              refine r_iadd d_X12_sitter_157 ?_
              obtain ⟨h16, h⟩ := h
              refine r_iaload d_X12_sitter_158 (ly_12_43 bs_12).2.2 h16 ?_
              refine r_goto (tgt := 171) d_X12_sitter_159 (by decide) ?_
              exact r_ireturn d_X12_sitter_171 rfl ⟨rfl, Nat.le_refl _, Nat.le_refl _⟩ h
          · replace h := h.2 c13
            refine r_aload_n d_X12_sitter_132 0 rfl rfl ?_
            refine r_getL (v := 342) 12 43 43 rfl d_X12_sitter_133 fl_X12_102 (by decide) (bs_ob bs_12) (ly_12_43 bs_12).1 (ly_12_43 bs_12).2.1 ?_
            refine r_bipush d_X12_sitter_136 (by decide +kernel) ?_
            refine r_iload_n d_X12_sitter_138 1 rfl rfl ?_
            refine r_iadd d_X12_sitter_139 ?_
            obtain ⟨h17, h⟩ := h
            refine r_iaload d_X12_sitter_140 (ly_12_43 bs_12).2.2 h17 ?_
            refine r_goto (tgt := 171) d_X12_sitter_141 (by decide) ?_
            exact r_ireturn d_X12_sitter_171 rfl ⟨rfl, Nat.le_refl _, Nat.le_refl _⟩ h
        · replace h := h.2 c12
          refine r_iload_n d_X12_sitter_70 2 rfl rfl ?_
          refine r_iconst d_X12_sitter_71 ?_
          refine r_icmp_ne (tgt := 91) d_X12_sitter_72 (by decide) h10 ⟨by decide, by decide⟩ (fun c18 => ?_) (fun c18 => ?_)
          · replace h := h.1 c18
            refine r_iload_n d_X12_sitter_91 2 rfl rfl ?_
            refine r_iconst d_X12_sitter_92 ?_
            refine r_icmp_ne (tgt := 107) d_X12_sitter_93 (by decide) h10 ⟨by decide, by decide⟩ (fun c19 => ?_) (fun c19 => ?_)
            · replace h := h.1 c19
              refine r_iload_n d_X12_sitter_107 2 rfl rfl ?_
              refine r_iconst d_X12_sitter_108 ?_
              refine r_icmp_ne (tgt := 120) d_X12_sitter_109 (by decide) h10 ⟨by decide, by decide⟩ (fun c20 => ?_) (fun c20 => ?_)
              · replace h := h.1 c20
                refine r_aload_n d_X12_sitter_120 0 rfl rfl ?_
                refine r_iload_n d_X12_sitter_121 1 rfl rfl ?_
                refine r_callV0 (M' := M_X12_legsOf) (ci := 12) [(0, p0)] d_X12_sitter_122 cl_X12_386 rfl (Nat.le_of_ble_eq_true rfl) (by decide) rfl (bs_ob bs_12) ?_
                refine Ct.mono h (fun r22 G21 h => ?_)
                show Rn _ M_X12_sitter zN 125 [(0, (2, 311)), (1, (0, p0)), (2, (0, p1))] [(0, r22)] G21 Q
                exact r_ireturn d_X12_sitter_125 rfl ⟨rfl, Nat.le_refl _, Nat.le_refl _⟩ h
              · replace h := h.2 c20
                refine r_aload_n d_X12_sitter_112 0 rfl rfl ?_
                refine r_iload_n d_X12_sitter_113 1 rfl rfl ?_
                refine r_callV0 (M' := M_X12_depthOf) (ci := 12) [(0, p0)] d_X12_sitter_114 cl_X12_383 rfl (Nat.le_of_ble_eq_true rfl) (by decide) rfl (bs_ob bs_12) ?_
                refine Ct.mono h (fun r24 G23 h => ?_)
                show Rn _ M_X12_sitter zN 117 [(0, (2, 311)), (1, (0, p0)), (2, (0, p1))] [(0, r24)] G23 Q
                refine r_goto (tgt := 125) d_X12_sitter_117 (by decide) ?_
                exact r_ireturn d_X12_sitter_125 rfl ⟨rfl, Nat.le_refl _, Nat.le_refl _⟩ h
            · replace h := h.2 c19
              refine r_aload_n d_X12_sitter_96 0 rfl rfl ?_
              refine r_getL (v := 342) 12 43 43 rfl d_X12_sitter_97 fl_X12_102 (by decide) (bs_ob bs_12) (ly_12_43 bs_12).1 (ly_12_43 bs_12).2.1 ?_
              refine r_iconst d_X12_sitter_100 ?_
              refine r_iload_n d_X12_sitter_101 1 rfl rfl ?_
              refine r_iadd d_X12_sitter_102 ?_
              obtain ⟨h25, h⟩ := h
              refine r_iaload d_X12_sitter_103 (ly_12_43 bs_12).2.2 h25 ?_
              refine r_goto (tgt := 125) d_X12_sitter_104 (by decide) ?_
              exact r_ireturn d_X12_sitter_125 rfl ⟨rfl, Nat.le_refl _, Nat.le_refl _⟩ h
          · replace h := h.2 c18
            refine r_aload_n d_X12_sitter_75 0 rfl rfl ?_
            refine r_iload_n d_X12_sitter_76 1 rfl rfl ?_
            refine r_callV0 (M' := M_X12_isAsleep) (ci := 12) [(0, p0)] d_X12_sitter_77 cl_X12_407 rfl (Nat.le_of_ble_eq_true rfl) (by decide) rfl (bs_ob bs_12) ?_
            refine Ct.mono h (fun r27 G26 h => ?_)
            show Rn _ M_X12_sitter zN 80 [(0, (2, 311)), (1, (0, p0)), (2, (0, p1))] [(0, r27)] G26 Q
            obtain ⟨h28, h⟩ := h
            refine r_if_eq (tgt := 87) d_X12_sitter_80 (by decide) h28 (fun c29 => ?_) (fun c29 => ?_)
            · replace h := h.1 c29
              refine r_iconst d_X12_sitter_87 ?_
              refine r_goto (tgt := 125) d_X12_sitter_88 (by decide) ?_
              exact r_ireturn d_X12_sitter_125 rfl ⟨rfl, Nat.le_refl _, Nat.le_refl _⟩ h
            · replace h := h.2 c29
              refine r_iconst d_X12_sitter_83 ?_
              refine r_goto (tgt := 125) d_X12_sitter_84 (by decide) ?_
              exact r_ireturn d_X12_sitter_125 rfl ⟨rfl, Nat.le_refl _, Nat.le_refl _⟩ h
      · replace h := h.2 c11
        refine r_iload_n d_X12_sitter_30 2 rfl rfl ?_
        refine r_if_ne (tgt := 43) d_X12_sitter_31 (by decide) h10 (fun c30 => ?_) (fun c30 => ?_)
        · replace h := h.1 c30
          refine r_iload_n d_X12_sitter_43 2 rfl rfl ?_
          refine r_iconst d_X12_sitter_44 ?_
          refine r_icmp_ne (tgt := 57) d_X12_sitter_45 (by decide) h10 ⟨by decide, by decide⟩ (fun c31 => ?_) (fun c31 => ?_)
          · replace h := h.1 c31
            refine r_aload_n d_X12_sitter_57 0 rfl rfl ?_
            refine r_getL (v := 342) 12 43 43 rfl d_X12_sitter_58 fl_X12_102 (by decide) (bs_ob bs_12) (ly_12_43 bs_12).1 (ly_12_43 bs_12).2.1 ?_
            refine r_iload_n d_X12_sitter_61 1 rfl rfl ?_
            obtain ⟨h32, h⟩ := h
            refine r_iaload d_X12_sitter_62 (ly_12_43 bs_12).2.2 h32 ?_
            exact r_ireturn d_X12_sitter_63 rfl ⟨rfl, Nat.le_refl _, Nat.le_refl _⟩ h
          · replace h := h.2 c31
            refine r_aload_n d_X12_sitter_48 0 rfl rfl ?_
            refine r_getL (v := 316) 12 13 13 rfl d_X12_sitter_49 fl_X12_23 (by decide) (bs_ob bs_12) (ly_12_13 bs_12).1 (ly_12_13 bs_12).2.1 ?_
            refine r_iload_n d_X12_sitter_52 1 rfl rfl ?_
            obtain ⟨h33, h⟩ := h
            refine r_iaload d_X12_sitter_53 (ly_12_13 bs_12).2.2 h33 ?_
            refine r_goto (tgt := 63) d_X12_sitter_54 (by decide) ?_
            exact r_ireturn d_X12_sitter_63 rfl ⟨rfl, Nat.le_refl _, Nat.le_refl _⟩ h
        · replace h := h.2 c30
          refine r_aload_n d_X12_sitter_34 0 rfl rfl ?_
          refine r_getL (v := 315) 12 12 12 rfl d_X12_sitter_35 fl_X12_20 (by decide) (bs_ob bs_12) (ly_12_12 bs_12).1 (ly_12_12 bs_12).2.1 ?_
          refine r_iload_n d_X12_sitter_38 1 rfl rfl ?_
          obtain ⟨h34, h⟩ := h
          refine r_iaload d_X12_sitter_39 (ly_12_12 bs_12).2.2 h34 ?_
          refine r_goto (tgt := 63) d_X12_sitter_40 (by decide) ?_
          exact r_ireturn d_X12_sitter_63 rfl ⟨rfl, Nat.le_refl _, Nat.le_refl _⟩ h
    · replace h := h.2 c9
      refine r_iconst d_X12_sitter_23 ?_
      exact r_ireturn d_X12_sitter_24 rfl ⟨rfl, Nat.le_refl _, Nat.le_refl _⟩ h
theorem d_X12_sitterOf_0 : decode M_X12_sitterOf.2.1 0 = .ok (.iconst 0, 1) := by decide +kernel
theorem d_X12_sitterOf_1 : decode M_X12_sitterOf.2.1 1 = .ok (.istore_n 2, 1) := by decide +kernel
theorem d_X12_sitterOf_2 : decode M_X12_sitterOf.2.1 2 = .ok (.iload_n 2, 1) := by decide +kernel
theorem d_X12_sitterOf_3 : decode M_X12_sitterOf.2.1 3 = .ok (.aload_n 0, 1) := by decide +kernel
theorem d_X12_sitterOf_4 : decode M_X12_sitterOf.2.1 4 = .ok (.getfield 13, 3) := by decide +kernel
theorem d_X12_sitterOf_7 : decode M_X12_sitterOf.2.1 7 = .ok (.bipush 8, 2) := by decide +kernel
theorem d_X12_sitterOf_9 : decode M_X12_sitterOf.2.1 9 = .ok (.iaload, 1) := by decide +kernel
theorem d_X12_sitterOf_10 : decode M_X12_sitterOf.2.1 10 = .ok (.if_icmp .ge 21, 3) := by decide +kernel
theorem d_X12_sitterOf_13 : decode M_X12_sitterOf.2.1 13 = .ok (.aload_n 0, 1) := by decide +kernel
theorem d_X12_sitterOf_14 : decode M_X12_sitterOf.2.1 14 = .ok (.getfield 23, 3) := by decide +kernel
theorem d_X12_sitterOf_17 : decode M_X12_sitterOf.2.1 17 = .ok (.iload_n 2, 1) := by decide +kernel
theorem d_X12_sitterOf_18 : decode M_X12_sitterOf.2.1 18 = .ok (.iaload, 1) := by decide +kernel
theorem d_X12_sitterOf_19 : decode M_X12_sitterOf.2.1 19 = .ok (.iload_n 1, 1) := by decide +kernel
theorem d_X12_sitterOf_20 : decode M_X12_sitterOf.2.1 20 = .ok (.if_icmp .ne 5, 3) := by decide +kernel
theorem d_X12_sitterOf_23 : decode M_X12_sitterOf.2.1 23 = .ok (.iload_n 2, 1) := by decide +kernel
theorem d_X12_sitterOf_24 : decode M_X12_sitterOf.2.1 24 = .ok (.ireturn, 1) := by decide +kernel
theorem d_X12_sitterOf_25 : decode M_X12_sitterOf.2.1 25 = .ok (.iinc 2 1, 3) := by decide +kernel
theorem d_X12_sitterOf_28 : decode M_X12_sitterOf.2.1 28 = .ok (.goto (-26), 3) := by decide +kernel
theorem d_X12_sitterOf_31 : decode M_X12_sitterOf.2.1 31 = .ok (.iconst (-1), 1) := by decide +kernel
theorem d_X12_sitterOf_32 : decode M_X12_sitterOf.2.1 32 = .ok (.ireturn, 1) := by decide +kernel
set_option maxRecDepth 20000 in
theorem s_X12_sitterOf_0 {d : Nat} {p0 : Int} {G : Mem} {Q : Int → Mem → Prop}  (h : Rn d M_X12_sitterOf zN 2 [(0, (2, 311)), (1, (0, p0)), (2, (0, 0))] [] G Q) : Rn d M_X12_sitterOf zN 0 [(0, (2, 311)), (1, (0, p0))] [] G Q := by
  refine r_iconst d_X12_sitterOf_0 ?_
  refine r_istore_n (ls1 := [(2, (0, 0)), (0, (2, 311)), (1, (0, p0))]) d_X12_sitterOf_1 rfl (by decide) rfl ?_
  exact Rn.sub [1, 2, 0] rfl h
set_option maxRecDepth 20000 in
theorem s_X12_sitterOf_2 {d : Nat} {x1 : Int} {x2 : Int} {G : Mem} {Q : Int → Mem → Prop}  (h : (InR x2) ∧ (InR (G 313 8)) ∧ (((G 313 8) ≤ x2) → Q (-1) G) ∧ (¬ ((G 313 8) ≤ x2) → (0 ≤ x2 ∧ x2 < 30) ∧ ((InR (G 316 x2)) ∧ (InR x1) ∧ (((G 316 x2) ≠ x1) → Rn d M_X12_sitterOf zN 2 [(0, (2, 311)), (1, (0, x1)), (2, (0, (x2 + 1)))] [] G Q) ∧ (¬ ((G 316 x2) ≠ x1) → Q x2 G)))) : Rn d M_X12_sitterOf zN 2 [(0, (2, 311)), (1, (0, x1)), (2, (0, x2))] [] G Q := by
  refine r_iload_n d_X12_sitterOf_2 2 rfl rfl ?_
  refine r_aload_n d_X12_sitterOf_3 0 rfl rfl ?_
  refine r_getL (v := 313) 12 10 10 rfl d_X12_sitterOf_4 fl_X12_13 (by decide) (bs_ob bs_12) (ly_12_10 bs_12).1 (ly_12_10 bs_12).2.1 ?_
  refine r_bipush d_X12_sitterOf_7 (by decide +kernel) ?_
  refine r_iaload d_X12_sitterOf_9 (ly_12_10 bs_12).2.2 (by decide) ?_
  obtain ⟨h1, h⟩ := h
  obtain ⟨h2, h⟩ := h
  refine r_icmp_ge (tgt := 31) d_X12_sitterOf_10 (by decide) h1 h2 (fun c3 => ?_) (fun c3 => ?_)
  · replace h := h.1 c3
    refine r_iconst d_X12_sitterOf_31 ?_
    exact r_ireturn d_X12_sitterOf_32 rfl ⟨rfl, Nat.le_refl _, Nat.le_refl _⟩ h
  · replace h := h.2 c3
    refine r_aload_n d_X12_sitterOf_13 0 rfl rfl ?_
    refine r_getL (v := 316) 12 13 13 rfl d_X12_sitterOf_14 fl_X12_23 (by decide) (bs_ob bs_12) (ly_12_13 bs_12).1 (ly_12_13 bs_12).2.1 ?_
    refine r_iload_n d_X12_sitterOf_17 2 rfl rfl ?_
    obtain ⟨h4, h⟩ := h
    refine r_iaload d_X12_sitterOf_18 (ly_12_13 bs_12).2.2 h4 ?_
    refine r_iload_n d_X12_sitterOf_19 1 rfl rfl ?_
    obtain ⟨h5, h⟩ := h
    obtain ⟨h6, h⟩ := h
    refine r_icmp_ne (tgt := 25) d_X12_sitterOf_20 (by decide) h5 h6 (fun c7 => ?_) (fun c7 => ?_)
    · replace h := h.1 c7
      refine r_iinc (ls1 := [(2, (0, (x2 + 1))), (0, (2, 311)), (1, (0, x1))]) d_X12_sitterOf_25 2 rfl (by decide) rfl ?_
      refine r_goto (tgt := 2) d_X12_sitterOf_28 (by decide) ?_
      exact Rn.sub [1, 2, 0] rfl h
    · replace h := h.2 c7
      refine r_iload_n d_X12_sitterOf_23 2 rfl rfl ?_
      exact r_ireturn d_X12_sitterOf_24 rfl ⟨rfl, Nat.le_refl _, Nat.le_refl _⟩ h
theorem d_X12_inSeat_0 : decode M_X12_inSeat.2.1 0 = .ok (.aload_n 0, 1) := by decide +kernel
theorem d_X12_inSeat_1 : decode M_X12_inSeat.2.1 1 = .ok (.iload_n 1, 1) := by decide +kernel
theorem d_X12_inSeat_2 : decode M_X12_inSeat.2.1 2 = .ok (.invokevirtual 410, 3) := by decide +kernel
theorem d_X12_inSeat_5 : decode M_X12_inSeat.2.1 5 = .ok (.istore_n 2, 1) := by decide +kernel
theorem d_X12_inSeat_6 : decode M_X12_inSeat.2.1 6 = .ok (.iload_n 2, 1) := by decide +kernel
theorem d_X12_inSeat_7 : decode M_X12_inSeat.2.1 7 = .ok (.ifCond .lt 18, 3) := by decide +kernel
theorem d_X12_inSeat_10 : decode M_X12_inSeat.2.1 10 = .ok (.aload_n 0, 1) := by decide +kernel
theorem d_X12_inSeat_11 : decode M_X12_inSeat.2.1 11 = .ok (.getfield 102, 3) := by decide +kernel
theorem d_X12_inSeat_14 : decode M_X12_inSeat.2.1 14 = .ok (.iconst 5, 1) := by decide +kernel
theorem d_X12_inSeat_15 : decode M_X12_inSeat.2.1 15 = .ok (.iload_n 2, 1) := by decide +kernel
theorem d_X12_inSeat_16 : decode M_X12_inSeat.2.1 16 = .ok (.iadd, 1) := by decide +kernel
theorem d_X12_inSeat_17 : decode M_X12_inSeat.2.1 17 = .ok (.iaload, 1) := by decide +kernel
theorem d_X12_inSeat_18 : decode M_X12_inSeat.2.1 18 = .ok (.ifCond .ne 7, 3) := by decide +kernel
theorem d_X12_inSeat_21 : decode M_X12_inSeat.2.1 21 = .ok (.iload_n 2, 1) := by decide +kernel
theorem d_X12_inSeat_22 : decode M_X12_inSeat.2.1 22 = .ok (.goto 4, 3) := by decide +kernel
theorem d_X12_inSeat_25 : decode M_X12_inSeat.2.1 25 = .ok (.iconst (-1), 1) := by decide +kernel
theorem d_X12_inSeat_26 : decode M_X12_inSeat.2.1 26 = .ok (.ireturn, 1) := by decide +kernel
set_option maxRecDepth 20000 in
theorem s_X12_inSeat_0 {d : Nat} {p0 : Int} {G : Mem} {Q : Int → Mem → Prop}  (h : Ct d M_X12_sitterOf NT 0 0 (some lay) [(2, 311), (0, p0)] G (fun r2 G1 => (InR r2) ∧ ((r2 < 0) → Q (-1) G1) ∧ (¬ (r2 < 0) → (0 ≤ (5 + r2) ∧ (5 + r2) < 116) ∧ ((InR (G1 342 (5 + r2))) ∧ (((G1 342 (5 + r2)) ≠ 0) → Q (-1) G1) ∧ (¬ ((G1 342 (5 + r2)) ≠ 0) → Q r2 G1))))) : Rn (d + 1) M_X12_inSeat zN 0 [(0, (2, 311)), (1, (0, p0))] [] G Q := by
  refine r_aload_n d_X12_inSeat_0 0 rfl rfl ?_
  refine r_iload_n d_X12_inSeat_1 1 rfl rfl ?_
  refine r_callV0 (M' := M_X12_sitterOf) (ci := 12) [(0, p0)] d_X12_inSeat_2 cl_X12_410 rfl (Nat.le_of_ble_eq_true rfl) (by decide) rfl (bs_ob bs_12) ?_
  refine Ct.mono h (fun r2 G1 h => ?_)
  show Rn _ M_X12_inSeat zN 5 [(0, (2, 311)), (1, (0, p0))] [(0, r2)] G1 Q
  refine r_istore_n (ls1 := [(2, (0, r2)), (0, (2, 311)), (1, (0, p0))]) d_X12_inSeat_5 rfl (by decide) rfl ?_
  refine r_iload_n d_X12_inSeat_6 0 rfl rfl ?_
  obtain ⟨h3, h⟩ := h
  refine r_if_lt (tgt := 25) d_X12_inSeat_7 (by decide) h3 (fun c4 => ?_) (fun c4 => ?_)
  · replace h := h.1 c4
    refine r_iconst d_X12_inSeat_25 ?_
    exact r_ireturn d_X12_inSeat_26 rfl ⟨rfl, Nat.le_refl _, Nat.le_refl _⟩ h
  · replace h := h.2 c4
    refine r_aload_n d_X12_inSeat_10 1 rfl rfl ?_
    refine r_getL (v := 342) 12 43 43 rfl d_X12_inSeat_11 fl_X12_102 (by decide) (bs_ob bs_12) (ly_12_43 bs_12).1 (ly_12_43 bs_12).2.1 ?_
    refine r_iconst d_X12_inSeat_14 ?_
    refine r_iload_n d_X12_inSeat_15 0 rfl rfl ?_
    refine r_iadd d_X12_inSeat_16 ?_
    obtain ⟨h5, h⟩ := h
    refine r_iaload d_X12_inSeat_17 (ly_12_43 bs_12).2.2 h5 ?_
    obtain ⟨h6, h⟩ := h
    refine r_if_ne (tgt := 25) d_X12_inSeat_18 (by decide) h6 (fun c7 => ?_) (fun c7 => ?_)
    · replace h := h.1 c7
      refine r_iconst d_X12_inSeat_25 ?_
      exact r_ireturn d_X12_inSeat_26 rfl ⟨rfl, Nat.le_refl _, Nat.le_refl _⟩ h
    · replace h := h.2 c7
      refine r_iload_n d_X12_inSeat_21 0 rfl rfl ?_
      refine r_goto (tgt := 26) d_X12_inSeat_22 (by decide) ?_
      exact r_ireturn d_X12_inSeat_26 rfl ⟨rfl, Nat.le_refl _, Nat.le_refl _⟩ h
theorem d_X12_seat_0 : decode M_X12_seat.2.1 0 = .ok (.aload_n 0, 1) := by decide +kernel
theorem d_X12_seat_1 : decode M_X12_seat.2.1 1 = .ok (.iconst 0, 1) := by decide +kernel
theorem d_X12_seat_2 : decode M_X12_seat.2.1 2 = .ok (.putfield 169, 3) := by decide +kernel
theorem d_X12_seat_5 : decode M_X12_seat.2.1 5 = .ok (.iload_n 1, 1) := by decide +kernel
theorem d_X12_seat_6 : decode M_X12_seat.2.1 6 = .ok (.iconst 0, 1) := by decide +kernel
theorem d_X12_seat_7 : decode M_X12_seat.2.1 7 = .ok (.aload_n 0, 1) := by decide +kernel
theorem d_X12_seat_8 : decode M_X12_seat.2.1 8 = .ok (.getfield 13, 3) := by decide +kernel
theorem d_X12_seat_11 : decode M_X12_seat.2.1 11 = .ok (.iconst 0, 1) := by decide +kernel
theorem d_X12_seat_12 : decode M_X12_seat.2.1 12 = .ok (.iaload, 1) := by decide +kernel
theorem d_X12_seat_13 : decode M_X12_seat.2.1 13 = .ok (.iconst 1, 1) := by decide +kernel
theorem d_X12_seat_14 : decode M_X12_seat.2.1 14 = .ok (.isub, 1) := by decide +kernel
theorem d_X12_seat_15 : decode M_X12_seat.2.1 15 = .ok (.invokestatic 308, 3) := by decide +kernel
theorem d_X12_seat_18 : decode M_X12_seat.2.1 18 = .ok (.ifCond .eq 12, 3) := by decide +kernel
theorem d_X12_seat_21 : decode M_X12_seat.2.1 21 = .ok (.iload_n 2, 1) := by decide +kernel
theorem d_X12_seat_22 : decode M_X12_seat.2.1 22 = .ok (.iconst 0, 1) := by decide +kernel
theorem d_X12_seat_23 : decode M_X12_seat.2.1 23 = .ok (.iconst 2, 1) := by decide +kernel
theorem d_X12_seat_24 : decode M_X12_seat.2.1 24 = .ok (.invokestatic 308, 3) := by decide +kernel
theorem d_X12_seat_27 : decode M_X12_seat.2.1 27 = .ok (.ifCond .ne 5, 3) := by decide +kernel
theorem d_X12_seat_30 : decode M_X12_seat.2.1 30 = .ok (.iconst (-1), 1) := by decide +kernel
theorem d_X12_seat_31 : decode M_X12_seat.2.1 31 = .ok (.ireturn, 1) := by decide +kernel
theorem d_X12_seat_32 : decode M_X12_seat.2.1 32 = .ok (.iload_n 2, 1) := by decide +kernel
theorem d_X12_seat_33 : decode M_X12_seat.2.1 33 = .ok (.ifCond .ne 11, 3) := by decide +kernel
theorem d_X12_seat_36 : decode M_X12_seat.2.1 36 = .ok (.aload_n 0, 1) := by decide +kernel
theorem d_X12_seat_37 : decode M_X12_seat.2.1 37 = .ok (.iload_n 1, 1) := by decide +kernel
theorem d_X12_seat_38 : decode M_X12_seat.2.1 38 = .ok (.invokevirtual 410, 3) := by decide +kernel
theorem d_X12_seat_41 : decode M_X12_seat.2.1 41 = .ok (.goto 33, 3) := by decide +kernel
theorem d_X12_seat_44 : decode M_X12_seat.2.1 44 = .ok (.iload_n 2, 1) := by decide +kernel
theorem d_X12_seat_45 : decode M_X12_seat.2.1 45 = .ok (.iconst 1, 1) := by decide +kernel
theorem d_X12_seat_46 : decode M_X12_seat.2.1 46 = .ok (.if_icmp .ne 15, 3) := by decide +kernel
theorem d_X12_seat_49 : decode M_X12_seat.2.1 49 = .ok (.aload_n 0, 1) := by decide +kernel
theorem d_X12_seat_50 : decode M_X12_seat.2.1 50 = .ok (.getfield 102, 3) := by decide +kernel
theorem d_X12_seat_53 : decode M_X12_seat.2.1 53 = .ok (.bipush 30, 2) := by decide +kernel
theorem d_X12_seat_55 : decode M_X12_seat.2.1 55 = .ok (.iload_n 1, 1) := by decide +kernel
theorem d_X12_seat_56 : decode M_X12_seat.2.1 56 = .ok (.iadd, 1) := by decide +kernel
theorem d_X12_seat_57 : decode M_X12_seat.2.1 57 = .ok (.iaload, 1) := by decide +kernel
theorem d_X12_seat_58 : decode M_X12_seat.2.1 58 = .ok (.goto 16, 3) := by decide +kernel
theorem d_X12_seat_61 : decode M_X12_seat.2.1 61 = .ok (.aload_n 0, 1) := by decide +kernel
theorem d_X12_seat_62 : decode M_X12_seat.2.1 62 = .ok (.iload_n 1, 1) := by decide +kernel
theorem d_X12_seat_63 : decode M_X12_seat.2.1 63 = .ok (.invokevirtual 413, 3) := by decide +kernel
theorem d_X12_seat_66 : decode M_X12_seat.2.1 66 = .ok (.ifCond .lt 7, 3) := by decide +kernel
theorem d_X12_seat_69 : decode M_X12_seat.2.1 69 = .ok (.iconst 1, 1) := by decide +kernel
theorem d_X12_seat_70 : decode M_X12_seat.2.1 70 = .ok (.goto 4, 3) := by decide +kernel
theorem d_X12_seat_73 : decode M_X12_seat.2.1 73 = .ok (.iconst 0, 1) := by decide +kernel
theorem d_X12_seat_74 : decode M_X12_seat.2.1 74 = .ok (.ireturn, 1) := by decide +kernel
set_option maxRecDepth 20000 in
theorem s_X12_seat_0 {d : Nat} {p0 : Int} {p1 : Int} {G : Mem} {Q : Int → Mem → Prop}  (h : (∀ G1 : Mem, G1 = st G 311 0 0 → Ct d M_X12_within NT 0 0 (some lay) [(0, p0), (0, 0), (0, ((G1 313 0) - 1))] G1 (fun r3 G2 => (InR r3) ∧ ((r3 = 0) → Q (-1) G2) ∧ (¬ (r3 = 0) → Ct d M_X12_within NT 0 0 (some lay) [(0, p1), (0, 0), (0, 2)] G2 (fun r7 G6 => (InR r7) ∧ ((r7 ≠ 0) → (InR p1) ∧ ((p1 ≠ 0) → ((p1 ≠ 1) → Ct d M_X12_inSeat NT 0 0 (some lay) [(2, 311), (0, p0)] G6 (fun r14 G13 => (InR r14) ∧ ((r14 < 0) → Q 0 G13) ∧ (¬ (r14 < 0) → Q 1 G13))) ∧ (¬ (p1 ≠ 1) → (0 ≤ (30 + p0) ∧ (30 + p0) < 116) ∧ (Q (G6 342 (30 + p0)) G6))) ∧ (¬ (p1 ≠ 0) → Ct d M_X12_sitterOf NT 0 0 (some lay) [(2, 311), (0, p0)] G6 (fun r19 G18 => Q r19 G18))) ∧ (¬ (r7 ≠ 0) → Q (-1) G6)))))) : Rn (d + 1) M_X12_seat zN 0 [(0, (2, 311)), (1, (0, p0)), (2, (0, p1))] [] G Q := by
  refine r_aload_n d_X12_seat_0 0 rfl rfl ?_
  refine r_iconst d_X12_seat_1 ?_
  obtain ⟨G1, eG1⟩ : ∃ y : Mem, y = st G 311 0 0 := ⟨_, rfl⟩
  replace h := h G1 eG1
  refine r_putI 12 0 0 rfl d_X12_seat_2 fl_X12_169 (by decide) nofin_12_0 (bs_ob bs_12) ?_
  rw [← eG1]
  refine r_iload_n d_X12_seat_5 1 rfl rfl ?_
  refine r_iconst d_X12_seat_6 ?_
  refine r_aload_n d_X12_seat_7 0 rfl rfl ?_
  refine r_getL (v := 313) 12 10 10 rfl d_X12_seat_8 fl_X12_13 (by decide) (bs_ob bs_12) (ly_12_10 bs_12).1 (ly_12_10 bs_12).2.1 ?_
  refine r_iconst d_X12_seat_11 ?_
  refine r_iaload d_X12_seat_12 (ly_12_10 bs_12).2.2 (by decide) ?_
  refine r_iconst d_X12_seat_13 ?_
  refine r_isub d_X12_seat_14 ?_
  refine r_callS0 (M' := M_X12_within) [(0, p0), (0, 0), (0, ((G1 313 0) - 1))] d_X12_seat_15 cl_X12_308 rfl (Nat.le_of_ble_eq_true rfl) ?_
  refine Ct.mono h (fun r3 G2 h => ?_)
  show Rn _ M_X12_seat zN 18 [(0, (2, 311)), (1, (0, p0)), (2, (0, p1))] [(0, r3)] G2 Q
  obtain ⟨h4, h⟩ := h
  refine r_if_eq (tgt := 30) d_X12_seat_18 (by decide) h4 (fun c5 => ?_) (fun c5 => ?_)
  · replace h := h.1 c5
    refine r_iconst d_X12_seat_30 ?_
    exact r_ireturn d_X12_seat_31 rfl ⟨rfl, Nat.le_refl _, Nat.le_refl _⟩ h
  · replace h := h.2 c5
    refine r_iload_n d_X12_seat_21 2 rfl rfl ?_
    refine r_iconst d_X12_seat_22 ?_
    refine r_iconst d_X12_seat_23 ?_
    refine r_callS0 (M' := M_X12_within) [(0, p1), (0, 0), (0, 2)] d_X12_seat_24 cl_X12_308 rfl (Nat.le_of_ble_eq_true rfl) ?_
    refine Ct.mono h (fun r7 G6 h => ?_)
    show Rn _ M_X12_seat zN 27 [(0, (2, 311)), (1, (0, p0)), (2, (0, p1))] [(0, r7)] G6 Q
    obtain ⟨h8, h⟩ := h
    refine r_if_ne (tgt := 32) d_X12_seat_27 (by decide) h8 (fun c9 => ?_) (fun c9 => ?_)
    · replace h := h.1 c9
      refine r_iload_n d_X12_seat_32 2 rfl rfl ?_
      obtain ⟨h10, h⟩ := h
      refine r_if_ne (tgt := 44) d_X12_seat_33 (by decide) h10 (fun c11 => ?_) (fun c11 => ?_)
      · replace h := h.1 c11
        refine r_iload_n d_X12_seat_44 2 rfl rfl ?_
        refine r_iconst d_X12_seat_45 ?_
        refine r_icmp_ne (tgt := 61) d_X12_seat_46 (by decide) h10 ⟨by decide, by decide⟩ (fun c12 => ?_) (fun c12 => ?_)
        · replace h := h.1 c12
          refine r_aload_n d_X12_seat_61 0 rfl rfl ?_
          refine r_iload_n d_X12_seat_62 1 rfl rfl ?_
          refine r_callV0 (M' := M_X12_inSeat) (ci := 12) [(0, p0)] d_X12_seat_63 cl_X12_413 rfl (Nat.le_of_ble_eq_true rfl) (by decide) rfl (bs_ob bs_12) ?_
          refine Ct.mono h (fun r14 G13 h => ?_)
          show Rn _ M_X12_seat zN 66 [(0, (2, 311)), (1, (0, p0)), (2, (0, p1))] [(0, r14)] G13 Q
          obtain ⟨h15, h⟩ := h
          refine r_if_lt (tgt := 73) d_X12_seat_66 (by decide) h15 (fun c16 => ?_) (fun c16 => ?_)
          · replace h := h.1 c16
            refine r_iconst d_X12_seat_73 ?_
            exact r_ireturn d_X12_seat_74 rfl ⟨rfl, Nat.le_refl _, Nat.le_refl _⟩ h
          · replace h := h.2 c16
            refine r_iconst d_X12_seat_69 ?_
            refine r_goto (tgt := 74) d_X12_seat_70 (by decide) ?_
            exact r_ireturn d_X12_seat_74 rfl ⟨rfl, Nat.le_refl _, Nat.le_refl _⟩ h
        · replace h := h.2 c12
          refine r_aload_n d_X12_seat_49 0 rfl rfl ?_
          refine r_getL (v := 342) 12 43 43 rfl d_X12_seat_50 fl_X12_102 (by decide) (bs_ob bs_12) (ly_12_43 bs_12).1 (ly_12_43 bs_12).2.1 ?_
          refine r_bipush d_X12_seat_53 (by decide +kernel) ?_
          refine r_iload_n d_X12_seat_55 1 rfl rfl ?_
          refine r_iadd d_X12_seat_56 ?_
          obtain ⟨h17, h⟩ := h
          refine r_iaload d_X12_seat_57 (ly_12_43 bs_12).2.2 h17 ?_
          refine r_goto (tgt := 74) d_X12_seat_58 (by decide) ?_
          exact r_ireturn d_X12_seat_74 rfl ⟨rfl, Nat.le_refl _, Nat.le_refl _⟩ h
      · replace h := h.2 c11
        refine r_aload_n d_X12_seat_36 0 rfl rfl ?_
        refine r_iload_n d_X12_seat_37 1 rfl rfl ?_
        refine r_callV0 (M' := M_X12_sitterOf) (ci := 12) [(0, p0)] d_X12_seat_38 cl_X12_410 rfl (Nat.le_of_ble_eq_true rfl) (by decide) rfl (bs_ob bs_12) ?_
        refine Ct.mono h (fun r19 G18 h => ?_)
        show Rn _ M_X12_seat zN 41 [(0, (2, 311)), (1, (0, p0)), (2, (0, p1))] [(0, r19)] G18 Q
        refine r_goto (tgt := 74) d_X12_seat_41 (by decide) ?_
        exact r_ireturn d_X12_seat_74 rfl ⟨rfl, Nat.le_refl _, Nat.le_refl _⟩ h
    · replace h := h.2 c9
      refine r_iconst d_X12_seat_30 ?_
      exact r_ireturn d_X12_seat_31 rfl ⟨rfl, Nat.le_refl _, Nat.le_refl _⟩ h
theorem d_X12_shut_0 : decode M_X12_shut.2.1 0 = .ok (.aload_n 0, 1) := by decide +kernel
theorem d_X12_shut_1 : decode M_X12_shut.2.1 1 = .ok (.iconst 0, 1) := by decide +kernel
theorem d_X12_shut_2 : decode M_X12_shut.2.1 2 = .ok (.putfield 169, 3) := by decide +kernel
theorem d_X12_shut_5 : decode M_X12_shut.2.1 5 = .ok (.iload_n 1, 1) := by decide +kernel
theorem d_X12_shut_6 : decode M_X12_shut.2.1 6 = .ok (.iconst 0, 1) := by decide +kernel
theorem d_X12_shut_7 : decode M_X12_shut.2.1 7 = .ok (.aload_n 0, 1) := by decide +kernel
theorem d_X12_shut_8 : decode M_X12_shut.2.1 8 = .ok (.getfield 13, 3) := by decide +kernel
theorem d_X12_shut_11 : decode M_X12_shut.2.1 11 = .ok (.iconst 1, 1) := by decide +kernel
theorem d_X12_shut_12 : decode M_X12_shut.2.1 12 = .ok (.iaload, 1) := by decide +kernel
theorem d_X12_shut_13 : decode M_X12_shut.2.1 13 = .ok (.iconst 1, 1) := by decide +kernel
theorem d_X12_shut_14 : decode M_X12_shut.2.1 14 = .ok (.isub, 1) := by decide +kernel
theorem d_X12_shut_15 : decode M_X12_shut.2.1 15 = .ok (.invokestatic 308, 3) := by decide +kernel
theorem d_X12_shut_18 : decode M_X12_shut.2.1 18 = .ok (.ifCond .eq 19, 3) := by decide +kernel
theorem d_X12_shut_21 : decode M_X12_shut.2.1 21 = .ok (.aload_n 0, 1) := by decide +kernel
theorem d_X12_shut_22 : decode M_X12_shut.2.1 22 = .ok (.iload_n 1, 1) := by decide +kernel
theorem d_X12_shut_23 : decode M_X12_shut.2.1 23 = .ok (.invokevirtual 416, 3) := by decide +kernel
theorem d_X12_shut_26 : decode M_X12_shut.2.1 26 = .ok (.ifCond .eq 7, 3) := by decide +kernel
theorem d_X12_shut_29 : decode M_X12_shut.2.1 29 = .ok (.iconst 1, 1) := by decide +kernel
theorem d_X12_shut_30 : decode M_X12_shut.2.1 30 = .ok (.goto 8, 3) := by decide +kernel
theorem d_X12_shut_33 : decode M_X12_shut.2.1 33 = .ok (.iconst 0, 1) := by decide +kernel
theorem d_X12_shut_34 : decode M_X12_shut.2.1 34 = .ok (.goto 4, 3) := by decide +kernel
theorem d_X12_shut_37 : decode M_X12_shut.2.1 37 = .ok (.iconst (-1), 1) := by decide +kernel
theorem d_X12_shut_38 : decode M_X12_shut.2.1 38 = .ok (.ireturn, 1) := by decide +kernel
set_option maxRecDepth 20000 in
theorem s_X12_shut_0 {d : Nat} {p0 : Int} {G : Mem} {Q : Int → Mem → Prop}  (h : (∀ G1 : Mem, G1 = st G 311 0 0 → Ct d M_X12_within NT 0 0 (some lay) [(0, p0), (0, 0), (0, ((G1 313 1) - 1))] G1 (fun r3 G2 => (InR r3) ∧ ((r3 = 0) → Q (-1) G2) ∧ (¬ (r3 = 0) → Ct d M_X12_isShut NT 0 0 (some lay) [(2, 311), (0, p0)] G2 (fun r7 G6 => (InR r7) ∧ ((r7 = 0) → Q 0 G6) ∧ (¬ (r7 = 0) → Q 1 G6)))))) : Rn (d + 1) M_X12_shut zN 0 [(0, (2, 311)), (1, (0, p0))] [] G Q := by
  refine r_aload_n d_X12_shut_0 0 rfl rfl ?_
  refine r_iconst d_X12_shut_1 ?_
  obtain ⟨G1, eG1⟩ : ∃ y : Mem, y = st G 311 0 0 := ⟨_, rfl⟩
  replace h := h G1 eG1
  refine r_putI 12 0 0 rfl d_X12_shut_2 fl_X12_169 (by decide) nofin_12_0 (bs_ob bs_12) ?_
  rw [← eG1]
  refine r_iload_n d_X12_shut_5 1 rfl rfl ?_
  refine r_iconst d_X12_shut_6 ?_
  refine r_aload_n d_X12_shut_7 0 rfl rfl ?_
  refine r_getL (v := 313) 12 10 10 rfl d_X12_shut_8 fl_X12_13 (by decide) (bs_ob bs_12) (ly_12_10 bs_12).1 (ly_12_10 bs_12).2.1 ?_
  refine r_iconst d_X12_shut_11 ?_
  refine r_iaload d_X12_shut_12 (ly_12_10 bs_12).2.2 (by decide) ?_
  refine r_iconst d_X12_shut_13 ?_
  refine r_isub d_X12_shut_14 ?_
  refine r_callS0 (M' := M_X12_within) [(0, p0), (0, 0), (0, ((G1 313 1) - 1))] d_X12_shut_15 cl_X12_308 rfl (Nat.le_of_ble_eq_true rfl) ?_
  refine Ct.mono h (fun r3 G2 h => ?_)
  show Rn _ M_X12_shut zN 18 [(0, (2, 311)), (1, (0, p0))] [(0, r3)] G2 Q
  obtain ⟨h4, h⟩ := h
  refine r_if_eq (tgt := 37) d_X12_shut_18 (by decide) h4 (fun c5 => ?_) (fun c5 => ?_)
  · replace h := h.1 c5
    refine r_iconst d_X12_shut_37 ?_
    exact r_ireturn d_X12_shut_38 rfl ⟨rfl, Nat.le_refl _, Nat.le_refl _⟩ h
  · replace h := h.2 c5
    refine r_aload_n d_X12_shut_21 0 rfl rfl ?_
    refine r_iload_n d_X12_shut_22 1 rfl rfl ?_
    refine r_callV0 (M' := M_X12_isShut) (ci := 12) [(0, p0)] d_X12_shut_23 cl_X12_416 rfl (Nat.le_of_ble_eq_true rfl) (by decide) rfl (bs_ob bs_12) ?_
    refine Ct.mono h (fun r7 G6 h => ?_)
    show Rn _ M_X12_shut zN 26 [(0, (2, 311)), (1, (0, p0))] [(0, r7)] G6 Q
    obtain ⟨h8, h⟩ := h
    refine r_if_eq (tgt := 33) d_X12_shut_26 (by decide) h8 (fun c9 => ?_) (fun c9 => ?_)
    · replace h := h.1 c9
      refine r_iconst d_X12_shut_33 ?_
      refine r_goto (tgt := 38) d_X12_shut_34 (by decide) ?_
      exact r_ireturn d_X12_shut_38 rfl ⟨rfl, Nat.le_refl _, Nat.le_refl _⟩ h
    · replace h := h.2 c9
      refine r_iconst d_X12_shut_29 ?_
      refine r_goto (tgt := 38) d_X12_shut_30 (by decide) ?_
      exact r_ireturn d_X12_shut_38 rfl ⟨rfl, Nat.le_refl _, Nat.le_refl _⟩ h
theorem d_X12_keeps_0 : decode M_X12_keeps.2.1 0 = .ok (.aload_n 0, 1) := by decide +kernel
theorem d_X12_keeps_1 : decode M_X12_keeps.2.1 1 = .ok (.getfield 377, 3) := by decide +kernel
theorem d_X12_keeps_4 : decode M_X12_keeps.2.1 4 = .ok (.bipush 12, 2) := by decide +kernel
theorem d_X12_keeps_6 : decode M_X12_keeps.2.1 6 = .ok (.if_icmp .ne 43, 3) := by decide +kernel
theorem d_X12_keeps_9 : decode M_X12_keeps.2.1 9 = .ok (.iconst 0, 1) := by decide +kernel
theorem d_X12_keeps_10 : decode M_X12_keeps.2.1 10 = .ok (.istore_n 1, 1) := by decide +kernel
theorem d_X12_keeps_11 : decode M_X12_keeps.2.1 11 = .ok (.iload_n 1, 1) := by decide +kernel
theorem d_X12_keeps_12 : decode M_X12_keeps.2.1 12 = .ok (.sipush 1276, 3) := by decide +kernel
theorem d_X12_keeps_15 : decode M_X12_keeps.2.1 15 = .ok (.if_icmp .ge 24, 3) := by decide +kernel
theorem d_X12_keeps_18 : decode M_X12_keeps.2.1 18 = .ok (.aload_n 0, 1) := by decide +kernel
theorem d_X12_keeps_19 : decode M_X12_keeps.2.1 19 = .ok (.getfield 108, 3) := by decide +kernel
theorem d_X12_keeps_22 : decode M_X12_keeps.2.1 22 = .ok (.iload_n 1, 1) := by decide +kernel
theorem d_X12_keeps_23 : decode M_X12_keeps.2.1 23 = .ok (.aload_n 0, 1) := by decide +kernel
theorem d_X12_keeps_24 : decode M_X12_keeps.2.1 24 = .ok (.getfield 108, 3) := by decide +kernel
theorem d_X12_keeps_27 : decode M_X12_keeps.2.1 27 = .ok (.iload_n 1, 1) := by decide +kernel
theorem d_X12_keeps_28 : decode M_X12_keeps.2.1 28 = .ok (.bipush 116, 2) := by decide +kernel
theorem d_X12_keeps_30 : decode M_X12_keeps.2.1 30 = .ok (.iadd, 1) := by decide +kernel
theorem d_X12_keeps_31 : decode M_X12_keeps.2.1 31 = .ok (.iaload, 1) := by decide +kernel
theorem d_X12_keeps_32 : decode M_X12_keeps.2.1 32 = .ok (.iastore, 1) := by decide +kernel
theorem d_X12_keeps_33 : decode M_X12_keeps.2.1 33 = .ok (.iinc 1 1, 3) := by decide +kernel
theorem d_X12_keeps_36 : decode M_X12_keeps.2.1 36 = .ok (.goto (-25), 3) := by decide +kernel
theorem d_X12_keeps_39 : decode M_X12_keeps.2.1 39 = .ok (.aload_n 0, 1) := by decide +kernel
theorem d_X12_keeps_40 : decode M_X12_keeps.2.1 40 = .ok (.dup, 1) := by decide +kernel
theorem d_X12_keeps_41 : decode M_X12_keeps.2.1 41 = .ok (.getfield 377, 3) := by decide +kernel
theorem d_X12_keeps_44 : decode M_X12_keeps.2.1 44 = .ok (.iconst 1, 1) := by decide +kernel
theorem d_X12_keeps_45 : decode M_X12_keeps.2.1 45 = .ok (.isub, 1) := by decide +kernel
theorem d_X12_keeps_46 : decode M_X12_keeps.2.1 46 = .ok (.putfield 377, 3) := by decide +kernel
theorem d_X12_keeps_49 : decode M_X12_keeps.2.1 49 = .ok (.aload_n 0, 1) := by decide +kernel
theorem d_X12_keeps_50 : decode M_X12_keeps.2.1 50 = .ok (.getfield 102, 3) := by decide +kernel
theorem d_X12_keeps_53 : decode M_X12_keeps.2.1 53 = .ok (.iconst 0, 1) := by decide +kernel
theorem d_X12_keeps_54 : decode M_X12_keeps.2.1 54 = .ok (.aload_n 0, 1) := by decide +kernel
theorem d_X12_keeps_55 : decode M_X12_keeps.2.1 55 = .ok (.getfield 108, 3) := by decide +kernel
theorem d_X12_keeps_58 : decode M_X12_keeps.2.1 58 = .ok (.bipush 116, 2) := by decide +kernel
theorem d_X12_keeps_60 : decode M_X12_keeps.2.1 60 = .ok (.aload_n 0, 1) := by decide +kernel
theorem d_X12_keeps_61 : decode M_X12_keeps.2.1 61 = .ok (.getfield 377, 3) := by decide +kernel
theorem d_X12_keeps_64 : decode M_X12_keeps.2.1 64 = .ok (.imul, 1) := by decide +kernel
theorem d_X12_keeps_65 : decode M_X12_keeps.2.1 65 = .ok (.invokestatic 419, 3) := by decide +kernel
theorem d_X12_keeps_68 : decode M_X12_keeps.2.1 68 = .ok (.aload_n 0, 1) := by decide +kernel
theorem d_X12_keeps_69 : decode M_X12_keeps.2.1 69 = .ok (.dup, 1) := by decide +kernel
theorem d_X12_keeps_70 : decode M_X12_keeps.2.1 70 = .ok (.getfield 377, 3) := by decide +kernel
theorem d_X12_keeps_73 : decode M_X12_keeps.2.1 73 = .ok (.iconst 1, 1) := by decide +kernel
theorem d_X12_keeps_74 : decode M_X12_keeps.2.1 74 = .ok (.iadd, 1) := by decide +kernel
theorem d_X12_keeps_75 : decode M_X12_keeps.2.1 75 = .ok (.putfield 377, 3) := by decide +kernel
theorem d_X12_keeps_78 : decode M_X12_keeps.2.1 78 = .ok (.return_, 1) := by decide +kernel
set_option maxRecDepth 20000 in
theorem s_X12_keeps_0 {d : Nat}  {G : Mem} {Q : Int → Mem → Prop}  (h : (InR (G 311 46)) ∧ (((G 311 46) ≠ 12) → Rn d M_X12_keeps zN 49 [(0, (2, 311))] [] G Q) ∧ (¬ ((G 311 46) ≠ 12) → Rn d M_X12_keeps zN 11 [(0, (2, 311)), (1, (0, 0))] [] G Q)) : Rn d M_X12_keeps zN 0 [(0, (2, 311))] [] G Q := by
  refine r_aload_n d_X12_keeps_0 0 rfl rfl ?_
  refine r_getI 12 46 46 rfl d_X12_keeps_1 fl_X12_377 (by decide) (bs_ob bs_12) ?_
  refine r_bipush d_X12_keeps_4 (by decide +kernel) ?_
  obtain ⟨h1, h⟩ := h
  refine r_icmp_ne (tgt := 49) d_X12_keeps_6 (by decide) h1 ⟨by decide, by decide⟩ (fun c2 => ?_) (fun c2 => ?_)
  · replace h := h.1 c2
    exact h
  · replace h := h.2 c2
    refine r_iconst d_X12_keeps_9 ?_
    refine r_istore_n (ls1 := [(1, (0, 0)), (0, (2, 311))]) d_X12_keeps_10 rfl (by decide) rfl ?_
    exact Rn.sub [1, 0] rfl h
set_option maxRecDepth 20000 in
theorem s_X12_keeps_49 {d : Nat}  {G : Mem} {Q : Int → Mem → Prop}  (h : Ct d M_X12_copies NT 0 0 (some lay) [(2, 342), (0, 0), (2, 344), (0, (116 * (G 311 46)))] G (fun r2 G1 => (∀ G3 : Mem, G3 = st G1 311 46 ((G1 311 46) + 1) → Q 0 G3))) : Rn (d + 1) M_X12_keeps zN 49 [(0, (2, 311))] [] G Q := by
  refine r_aload_n d_X12_keeps_49 0 rfl rfl ?_
  refine r_getL (v := 342) 12 43 43 rfl d_X12_keeps_50 fl_X12_102 (by decide) (bs_ob bs_12) (ly_12_43 bs_12).1 (ly_12_43 bs_12).2.1 ?_
  refine r_iconst d_X12_keeps_53 ?_
  refine r_aload_n d_X12_keeps_54 0 rfl rfl ?_
  refine r_getL (v := 344) 12 45 45 rfl d_X12_keeps_55 fl_X12_108 (by decide) (bs_ob bs_12) (ly_12_45 bs_12).1 (ly_12_45 bs_12).2.1 ?_
  refine r_bipush d_X12_keeps_58 (by decide +kernel) ?_
  refine r_aload_n d_X12_keeps_60 0 rfl rfl ?_
  refine r_getI 12 46 46 rfl d_X12_keeps_61 fl_X12_377 (by decide) (bs_ob bs_12) ?_
  refine r_imul d_X12_keeps_64 ?_
  refine r_callS0 (M' := M_X12_copies) [(2, 342), (0, 0), (2, 344), (0, (116 * (G 311 46)))] d_X12_keeps_65 cl_X12_419 rfl (Nat.le_of_ble_eq_true rfl) ?_
  refine Ct.mono h (fun r2 G1 h => ?_)
  show Rn _ M_X12_keeps zN 68 [(0, (2, 311))] [] G1 Q
  refine r_aload_n d_X12_keeps_68 0 rfl rfl ?_
  refine r_dup 2 rfl (by decide) d_X12_keeps_69 ?_
  refine r_getI 12 46 46 rfl d_X12_keeps_70 fl_X12_377 (by decide) (bs_ob bs_12) ?_
  refine r_iconst d_X12_keeps_73 ?_
  refine r_iadd d_X12_keeps_74 ?_
  obtain ⟨G3, eG3⟩ : ∃ y : Mem, y = st G1 311 46 ((G1 311 46) + 1) := ⟨_, rfl⟩
  replace h := h G3 eG3
  refine r_putI 12 46 46 rfl d_X12_keeps_75 fl_X12_377 (by decide) nofin_12_46 (bs_ob bs_12) ?_
  rw [← eG3]
  exact r_ret d_X12_keeps_78 rfl ⟨rfl, Nat.le_refl _, Nat.le_refl _⟩ h
set_option maxRecDepth 20000 in
theorem s_X12_keeps_11 {d : Nat} {x1 : Int} {G : Mem} {Q : Int → Mem → Prop}  (h : (InR x1) ∧ ((1276 ≤ x1) → (∀ G3 : Mem, G3 = st G 311 46 ((G 311 46) - 1) → Rn d M_X12_keeps zN 49 [(0, (2, 311))] [] G3 Q)) ∧ (¬ (1276 ≤ x1) → (0 ≤ (x1 + 116) ∧ (x1 + 116) < 1392) ∧ ((0 ≤ x1 ∧ x1 < 1392) ∧ (∀ G6 : Mem, G6 = st G 344 x1 (G 344 (x1 + 116)) → Rn d M_X12_keeps zN 11 [(0, (2, 311)), (1, (0, (x1 + 1)))] [] G6 Q)))) : Rn d M_X12_keeps zN 11 [(0, (2, 311)), (1, (0, x1))] [] G Q := by
  refine r_iload_n d_X12_keeps_11 1 rfl rfl ?_
  refine r_sipush d_X12_keeps_12 (by decide +kernel) ?_
  obtain ⟨h1, h⟩ := h
  refine r_icmp_ge (tgt := 39) d_X12_keeps_15 (by decide) h1 ⟨by decide, by decide⟩ (fun c2 => ?_) (fun c2 => ?_)
  · replace h := h.1 c2
    refine r_aload_n d_X12_keeps_39 0 rfl rfl ?_
    refine r_dup 2 rfl (by decide) d_X12_keeps_40 ?_
    refine r_getI 12 46 46 rfl d_X12_keeps_41 fl_X12_377 (by decide) (bs_ob bs_12) ?_
    refine r_iconst d_X12_keeps_44 ?_
    refine r_isub d_X12_keeps_45 ?_
    obtain ⟨G3, eG3⟩ : ∃ y : Mem, y = st G 311 46 ((G 311 46) - 1) := ⟨_, rfl⟩
    replace h := h G3 eG3
    refine r_putI 12 46 46 rfl d_X12_keeps_46 fl_X12_377 (by decide) nofin_12_46 (bs_ob bs_12) ?_
    rw [← eG3]
    exact Rn.sub [0] rfl h
  · replace h := h.2 c2
    refine r_aload_n d_X12_keeps_18 0 rfl rfl ?_
    refine r_getL (v := 344) 12 45 45 rfl d_X12_keeps_19 fl_X12_108 (by decide) (bs_ob bs_12) (ly_12_45 bs_12).1 (ly_12_45 bs_12).2.1 ?_
    refine r_iload_n d_X12_keeps_22 1 rfl rfl ?_
    refine r_aload_n d_X12_keeps_23 0 rfl rfl ?_
    refine r_getL (v := 344) 12 45 45 rfl d_X12_keeps_24 fl_X12_108 (by decide) (bs_ob bs_12) (ly_12_45 bs_12).1 (ly_12_45 bs_12).2.1 ?_
    refine r_iload_n d_X12_keeps_27 1 rfl rfl ?_
    refine r_bipush d_X12_keeps_28 (by decide +kernel) ?_
    refine r_iadd d_X12_keeps_30 ?_
    obtain ⟨h4, h⟩ := h
    refine r_iaload d_X12_keeps_31 (ly_12_45 bs_12).2.2 h4 ?_
    obtain ⟨h5, h⟩ := h
    obtain ⟨G6, eG6⟩ : ∃ y : Mem, y = st G 344 x1 (G 344 (x1 + 116)) := ⟨_, rfl⟩
    replace h := h G6 eG6
    refine r_iastore d_X12_keeps_32 (ly_12_45 bs_12).2.2 h5 ?_
    rw [← eG6]
    refine r_iinc (ls1 := [(1, (0, (x1 + 1))), (0, (2, 311))]) d_X12_keeps_33 1 rfl (by decide) rfl ?_
    refine r_goto (tgt := 11) d_X12_keeps_36 (by decide) ?_
    exact Rn.sub [1, 0] rfl h
theorem d_X12_power_0 : decode M_X12_power.2.1 0 = .ok (.iconst 1, 1) := by decide +kernel
theorem d_X12_power_1 : decode M_X12_power.2.1 1 = .ok (.istore_n 2, 1) := by decide +kernel
theorem d_X12_power_2 : decode M_X12_power.2.1 2 = .ok (.iconst 0, 1) := by decide +kernel
theorem d_X12_power_3 : decode M_X12_power.2.1 3 = .ok (.istore_n 3, 1) := by decide +kernel
theorem d_X12_power_4 : decode M_X12_power.2.1 4 = .ok (.iload_n 3, 1) := by decide +kernel
theorem d_X12_power_5 : decode M_X12_power.2.1 5 = .ok (.iload_n 1, 1) := by decide +kernel
theorem d_X12_power_6 : decode M_X12_power.2.1 6 = .ok (.if_icmp .ge 13, 3) := by decide +kernel
theorem d_X12_power_9 : decode M_X12_power.2.1 9 = .ok (.iload_n 2, 1) := by decide +kernel
theorem d_X12_power_10 : decode M_X12_power.2.1 10 = .ok (.iload_n 0, 1) := by decide +kernel
theorem d_X12_power_11 : decode M_X12_power.2.1 11 = .ok (.imul, 1) := by decide +kernel
theorem d_X12_power_12 : decode M_X12_power.2.1 12 = .ok (.istore_n 2, 1) := by decide +kernel
theorem d_X12_power_13 : decode M_X12_power.2.1 13 = .ok (.iinc 3 1, 3) := by decide +kernel
theorem d_X12_power_16 : decode M_X12_power.2.1 16 = .ok (.goto (-12), 3) := by decide +kernel
theorem d_X12_power_19 : decode M_X12_power.2.1 19 = .ok (.iload_n 2, 1) := by decide +kernel
theorem d_X12_power_20 : decode M_X12_power.2.1 20 = .ok (.ireturn, 1) := by decide +kernel
set_option maxRecDepth 20000 in
theorem s_X12_power_0 {d : Nat} {p0 : Int} {p1 : Int} {G : Mem} {Q : Int → Mem → Prop}  (h : Rn d M_X12_power zN 4 [(0, (0, p0)), (1, (0, p1)), (2, (0, 1)), (3, (0, 0))] [] G Q) : Rn d M_X12_power zN 0 [(0, (0, p0)), (1, (0, p1))] [] G Q := by
  refine r_iconst d_X12_power_0 ?_
  refine r_istore_n (ls1 := [(2, (0, 1)), (0, (0, p0)), (1, (0, p1))]) d_X12_power_1 rfl (by decide) rfl ?_
  refine r_iconst d_X12_power_2 ?_
  refine r_istore_n (ls1 := [(3, (0, 0)), (2, (0, 1)), (0, (0, p0)), (1, (0, p1))]) d_X12_power_3 rfl (by decide) rfl ?_
  exact Rn.sub [2, 3, 1, 0] rfl h
set_option maxRecDepth 20000 in
theorem s_X12_power_4 {d : Nat} {x0 : Int} {x1 : Int} {x2 : Int} {x3 : Int} {G : Mem} {Q : Int → Mem → Prop}  (h : (InR x3) ∧ (InR x1) ∧ ((x1 ≤ x3) → Q x2 G) ∧ (¬ (x1 ≤ x3) → Rn d M_X12_power zN 4 [(0, (0, x0)), (1, (0, x1)), (2, (0, (x2 * x0))), (3, (0, (x3 + 1)))] [] G Q)) : Rn d M_X12_power zN 4 [(0, (0, x0)), (1, (0, x1)), (2, (0, x2)), (3, (0, x3))] [] G Q := by
  refine r_iload_n d_X12_power_4 3 rfl rfl ?_
  refine r_iload_n d_X12_power_5 1 rfl rfl ?_
  obtain ⟨h1, h⟩ := h
  obtain ⟨h2, h⟩ := h
  refine r_icmp_ge (tgt := 19) d_X12_power_6 (by decide) h1 h2 (fun c3 => ?_) (fun c3 => ?_)
  · replace h := h.1 c3
    refine r_iload_n d_X12_power_19 2 rfl rfl ?_
    exact r_ireturn d_X12_power_20 rfl ⟨rfl, Nat.le_refl _, Nat.le_refl _⟩ h
  · replace h := h.2 c3
    refine r_iload_n d_X12_power_9 2 rfl rfl ?_
    refine r_iload_n d_X12_power_10 0 rfl rfl ?_
    refine r_imul d_X12_power_11 ?_
    refine r_istore_n (ls1 := [(2, (0, (x2 * x0))), (0, (0, x0)), (1, (0, x1)), (3, (0, x3))]) d_X12_power_12 rfl (by decide) rfl ?_
    refine r_iinc (ls1 := [(3, (0, (x3 + 1))), (2, (0, (x2 * x0))), (0, (0, x0)), (1, (0, x1))]) d_X12_power_13 3 rfl (by decide) rfl ?_
    refine r_goto (tgt := 4) d_X12_power_16 (by decide) ?_
    exact Rn.sub [2, 3, 1, 0] rfl h
theorem d_X12_digit_0 : decode M_X12_digit.2.1 0 = .ok (.iload_n 0, 1) := by decide +kernel
theorem d_X12_digit_1 : decode M_X12_digit.2.1 1 = .ok (.iconst 3, 1) := by decide +kernel
theorem d_X12_digit_2 : decode M_X12_digit.2.1 2 = .ok (.iload_n 1, 1) := by decide +kernel
theorem d_X12_digit_3 : decode M_X12_digit.2.1 3 = .ok (.invokestatic 423, 3) := by decide +kernel
theorem d_X12_digit_6 : decode M_X12_digit.2.1 6 = .ok (.idiv, 1) := by decide +kernel
theorem d_X12_digit_7 : decode M_X12_digit.2.1 7 = .ok (.iconst 3, 1) := by decide +kernel
theorem d_X12_digit_8 : decode M_X12_digit.2.1 8 = .ok (.irem, 1) := by decide +kernel
theorem d_X12_digit_9 : decode M_X12_digit.2.1 9 = .ok (.ireturn, 1) := by decide +kernel
set_option maxRecDepth 20000 in
theorem s_X12_digit_0 {d : Nat} {p0 : Int} {p1 : Int} {G : Mem} {Q : Int → Mem → Prop}  (h : Ct d M_X12_power NT 0 0 (some lay) [(0, 3), (0, p1)] G (fun r2 G1 => (InR p0) ∧ (0 < r2 ∧ InR r2) ∧ ((InR (Int.tdiv p0 r2)) ∧ (Q (Int.tmod (Int.tdiv p0 r2) 3) G1)))) : Rn (d + 1) M_X12_digit zN 0 [(0, (0, p0)), (1, (0, p1))] [] G Q := by
  refine r_iload_n d_X12_digit_0 0 rfl rfl ?_
  refine r_iconst d_X12_digit_1 ?_
  refine r_iload_n d_X12_digit_2 1 rfl rfl ?_
  refine r_callS0 (M' := M_X12_power) [(0, 3), (0, p1)] d_X12_digit_3 cl_X12_423 rfl (Nat.le_of_ble_eq_true rfl) ?_
  refine Ct.mono h (fun r2 G1 h => ?_)
  show Rn _ M_X12_digit zN 6 [(0, (0, p0)), (1, (0, p1))] [(0, r2), (0, p0)] G1 Q
  obtain ⟨h3, h⟩ := h
  obtain ⟨h4, h⟩ := h
  refine r_idiv d_X12_digit_6 h3 h4 ?_
  refine r_iconst d_X12_digit_7 ?_
  obtain ⟨h5, h⟩ := h
  refine r_irem d_X12_digit_8 h5 ⟨by decide, ⟨by decide, by decide⟩⟩ ?_
  exact r_ireturn d_X12_digit_9 rfl ⟨rfl, Nat.le_refl _, Nat.le_refl _⟩ h
theorem d_X12_areWays_0 : decode M_X12_areWays.2.1 0 = .ok (.iload_n 1, 1) := by decide +kernel
theorem d_X12_areWays_1 : decode M_X12_areWays.2.1 1 = .ok (.iconst 0, 1) := by decide +kernel
theorem d_X12_areWays_2 : decode M_X12_areWays.2.1 2 = .ok (.iconst 3, 1) := by decide +kernel
theorem d_X12_areWays_3 : decode M_X12_areWays.2.1 3 = .ok (.aload_n 0, 1) := by decide +kernel
theorem d_X12_areWays_4 : decode M_X12_areWays.2.1 4 = .ok (.getfield 13, 3) := by decide +kernel
theorem d_X12_areWays_7 : decode M_X12_areWays.2.1 7 = .ok (.iconst 0, 1) := by decide +kernel
theorem d_X12_areWays_8 : decode M_X12_areWays.2.1 8 = .ok (.iaload, 1) := by decide +kernel
theorem d_X12_areWays_9 : decode M_X12_areWays.2.1 9 = .ok (.invokestatic 423, 3) := by decide +kernel
theorem d_X12_areWays_12 : decode M_X12_areWays.2.1 12 = .ok (.iconst 1, 1) := by decide +kernel
theorem d_X12_areWays_13 : decode M_X12_areWays.2.1 13 = .ok (.isub, 1) := by decide +kernel
theorem d_X12_areWays_14 : decode M_X12_areWays.2.1 14 = .ok (.invokestatic 308, 3) := by decide +kernel
theorem d_X12_areWays_17 : decode M_X12_areWays.2.1 17 = .ok (.ifCond .eq 25, 3) := by decide +kernel
theorem d_X12_areWays_20 : decode M_X12_areWays.2.1 20 = .ok (.iload_n 2, 1) := by decide +kernel
theorem d_X12_areWays_21 : decode M_X12_areWays.2.1 21 = .ok (.iconst 0, 1) := by decide +kernel
theorem d_X12_areWays_22 : decode M_X12_areWays.2.1 22 = .ok (.iconst 1, 1) := by decide +kernel
theorem d_X12_areWays_23 : decode M_X12_areWays.2.1 23 = .ok (.aload_n 0, 1) := by decide +kernel
theorem d_X12_areWays_24 : decode M_X12_areWays.2.1 24 = .ok (.getfield 13, 3) := by decide +kernel
theorem d_X12_areWays_27 : decode M_X12_areWays.2.1 27 = .ok (.iconst 0, 1) := by decide +kernel
theorem d_X12_areWays_28 : decode M_X12_areWays.2.1 28 = .ok (.iaload, 1) := by decide +kernel
theorem d_X12_areWays_29 : decode M_X12_areWays.2.1 29 = .ok (.ishl, 1) := by decide +kernel
theorem d_X12_areWays_30 : decode M_X12_areWays.2.1 30 = .ok (.iconst 1, 1) := by decide +kernel
theorem d_X12_areWays_31 : decode M_X12_areWays.2.1 31 = .ok (.isub, 1) := by decide +kernel
theorem d_X12_areWays_32 : decode M_X12_areWays.2.1 32 = .ok (.invokestatic 308, 3) := by decide +kernel
theorem d_X12_areWays_35 : decode M_X12_areWays.2.1 35 = .ok (.ifCond .eq 7, 3) := by decide +kernel
theorem d_X12_areWays_38 : decode M_X12_areWays.2.1 38 = .ok (.iconst 1, 1) := by decide +kernel
theorem d_X12_areWays_39 : decode M_X12_areWays.2.1 39 = .ok (.goto 4, 3) := by decide +kernel
theorem d_X12_areWays_42 : decode M_X12_areWays.2.1 42 = .ok (.iconst 0, 1) := by decide +kernel
theorem d_X12_areWays_43 : decode M_X12_areWays.2.1 43 = .ok (.ireturn, 1) := by decide +kernel
set_option maxRecDepth 20000 in
theorem s_X12_areWays_0 {d : Nat} {p0 : Int} {p1 : Int} {G : Mem} {Q : Int → Mem → Prop}  (h : Ct d M_X12_power NT 0 0 (some lay) [(0, 3), (0, (G 313 0))] G (fun r2 G1 => Ct d M_X12_within NT 0 0 (some lay) [(0, p0), (0, 0), (0, (r2 - 1))] G1 (fun r4 G3 => (InR r4) ∧ ((r4 = 0) → Q 0 G3) ∧ (¬ (r4 = 0) → Ct d M_X12_within NT 0 0 (some lay) [(0, p1), (0, 0), (0, ((shlI 1 (G3 313 0)) - 1))] G3 (fun r8 G7 => (InR r8) ∧ ((r8 = 0) → Q 0 G7) ∧ (¬ (r8 = 0) → Q 1 G7)))))) : Rn (d + 1) M_X12_areWays zN 0 [(0, (2, 311)), (1, (0, p0)), (2, (0, p1))] [] G Q := by
  refine r_iload_n d_X12_areWays_0 1 rfl rfl ?_
  refine r_iconst d_X12_areWays_1 ?_
  refine r_iconst d_X12_areWays_2 ?_
  refine r_aload_n d_X12_areWays_3 0 rfl rfl ?_
  refine r_getL (v := 313) 12 10 10 rfl d_X12_areWays_4 fl_X12_13 (by decide) (bs_ob bs_12) (ly_12_10 bs_12).1 (ly_12_10 bs_12).2.1 ?_
  refine r_iconst d_X12_areWays_7 ?_
  refine r_iaload d_X12_areWays_8 (ly_12_10 bs_12).2.2 (by decide) ?_
  refine r_callS0 (M' := M_X12_power) [(0, 3), (0, (G 313 0))] d_X12_areWays_9 cl_X12_423 rfl (Nat.le_of_ble_eq_true rfl) ?_
  refine Ct.mono h (fun r2 G1 h => ?_)
  show Rn _ M_X12_areWays zN 12 [(0, (2, 311)), (1, (0, p0)), (2, (0, p1))] [(0, r2), (0, 0), (0, p0)] G1 Q
  refine r_iconst d_X12_areWays_12 ?_
  refine r_isub d_X12_areWays_13 ?_
  refine r_callS0 (M' := M_X12_within) [(0, p0), (0, 0), (0, (r2 - 1))] d_X12_areWays_14 cl_X12_308 rfl (Nat.le_of_ble_eq_true rfl) ?_
  refine Ct.mono h (fun r4 G3 h => ?_)
  show Rn _ M_X12_areWays zN 17 [(0, (2, 311)), (1, (0, p0)), (2, (0, p1))] [(0, r4)] G3 Q
  obtain ⟨h5, h⟩ := h
  refine r_if_eq (tgt := 42) d_X12_areWays_17 (by decide) h5 (fun c6 => ?_) (fun c6 => ?_)
  · replace h := h.1 c6
    refine r_iconst d_X12_areWays_42 ?_
    exact r_zreturn d_X12_areWays_43 rfl ⟨rfl, Nat.le_refl _, Nat.le_refl _⟩ (by decide) h
  · replace h := h.2 c6
    refine r_iload_n d_X12_areWays_20 2 rfl rfl ?_
    refine r_iconst d_X12_areWays_21 ?_
    refine r_iconst d_X12_areWays_22 ?_
    refine r_aload_n d_X12_areWays_23 0 rfl rfl ?_
    refine r_getL (v := 313) 12 10 10 rfl d_X12_areWays_24 fl_X12_13 (by decide) (bs_ob bs_12) (ly_12_10 bs_12).1 (ly_12_10 bs_12).2.1 ?_
    refine r_iconst d_X12_areWays_27 ?_
    refine r_iaload d_X12_areWays_28 (ly_12_10 bs_12).2.2 (by decide) ?_
    refine r_ishl d_X12_areWays_29 ?_
    refine r_iconst d_X12_areWays_30 ?_
    refine r_isub d_X12_areWays_31 ?_
    refine r_callS0 (M' := M_X12_within) [(0, p1), (0, 0), (0, ((shlI 1 (G3 313 0)) - 1))] d_X12_areWays_32 cl_X12_308 rfl (Nat.le_of_ble_eq_true rfl) ?_
    refine Ct.mono h (fun r8 G7 h => ?_)
    show Rn _ M_X12_areWays zN 35 [(0, (2, 311)), (1, (0, p0)), (2, (0, p1))] [(0, r8)] G7 Q
    obtain ⟨h9, h⟩ := h
    refine r_if_eq (tgt := 42) d_X12_areWays_35 (by decide) h9 (fun c10 => ?_) (fun c10 => ?_)
    · replace h := h.1 c10
      refine r_iconst d_X12_areWays_42 ?_
      exact r_zreturn d_X12_areWays_43 rfl ⟨rfl, Nat.le_refl _, Nat.le_refl _⟩ (by decide) h
    · replace h := h.2 c10
      refine r_iconst d_X12_areWays_38 ?_
      refine r_goto (tgt := 43) d_X12_areWays_39 (by decide) ?_
      exact r_zreturn d_X12_areWays_43 rfl ⟨rfl, Nat.le_refl _, Nat.le_refl _⟩ (by decide) h
theorem d_X12_wakes_0 : decode M_X12_wakes.2.1 0 = .ok (.aload_n 0, 1) := by decide +kernel
theorem d_X12_wakes_1 : decode M_X12_wakes.2.1 1 = .ok (.getfield 102, 3) := by decide +kernel
theorem d_X12_wakes_4 : decode M_X12_wakes.2.1 4 = .ok (.bipush 10, 2) := by decide +kernel
theorem d_X12_wakes_6 : decode M_X12_wakes.2.1 6 = .ok (.iload_n 1, 1) := by decide +kernel
theorem d_X12_wakes_7 : decode M_X12_wakes.2.1 7 = .ok (.iadd, 1) := by decide +kernel
theorem d_X12_wakes_8 : decode M_X12_wakes.2.1 8 = .ok (.aload_n 0, 1) := by decide +kernel
theorem d_X12_wakes_9 : decode M_X12_wakes.2.1 9 = .ok (.getfield 102, 3) := by decide +kernel
theorem d_X12_wakes_12 : decode M_X12_wakes.2.1 12 = .ok (.bipush 110, 2) := by decide +kernel
theorem d_X12_wakes_14 : decode M_X12_wakes.2.1 14 = .ok (.iaload, 1) := by decide +kernel
theorem d_X12_wakes_15 : decode M_X12_wakes.2.1 15 = .ok (.iconst 1, 1) := by decide +kernel
theorem d_X12_wakes_16 : decode M_X12_wakes.2.1 16 = .ok (.iadd, 1) := by decide +kernel
theorem d_X12_wakes_17 : decode M_X12_wakes.2.1 17 = .ok (.iastore, 1) := by decide +kernel
theorem d_X12_wakes_18 : decode M_X12_wakes.2.1 18 = .ok (.aload_n 0, 1) := by decide +kernel
theorem d_X12_wakes_19 : decode M_X12_wakes.2.1 19 = .ok (.getfield 102, 3) := by decide +kernel
theorem d_X12_wakes_22 : decode M_X12_wakes.2.1 22 = .ok (.bipush 111, 2) := by decide +kernel
theorem d_X12_wakes_24 : decode M_X12_wakes.2.1 24 = .ok (.dup2, 1) := by decide +kernel
theorem d_X12_wakes_25 : decode M_X12_wakes.2.1 25 = .ok (.iaload, 1) := by decide +kernel
theorem d_X12_wakes_26 : decode M_X12_wakes.2.1 26 = .ok (.iconst 1, 1) := by decide +kernel
theorem d_X12_wakes_27 : decode M_X12_wakes.2.1 27 = .ok (.iadd, 1) := by decide +kernel
theorem d_X12_wakes_28 : decode M_X12_wakes.2.1 28 = .ok (.iastore, 1) := by decide +kernel
theorem d_X12_wakes_29 : decode M_X12_wakes.2.1 29 = .ok (.return_, 1) := by decide +kernel
set_option maxRecDepth 20000 in
theorem s_X12_wakes_0 {d : Nat} {p0 : Int} {G : Mem} {Q : Int → Mem → Prop}  (h : (0 ≤ (10 + p0) ∧ (10 + p0) < 116) ∧ (∀ G2 : Mem, G2 = st G 342 (10 + p0) ((G 342 110) + 1) → (∀ G3 : Mem, G3 = st G2 342 111 ((G2 342 111) + 1) → Q 0 G3))) : Rn d M_X12_wakes zN 0 [(0, (2, 311)), (1, (0, p0))] [] G Q := by
  refine r_aload_n d_X12_wakes_0 0 rfl rfl ?_
  refine r_getL (v := 342) 12 43 43 rfl d_X12_wakes_1 fl_X12_102 (by decide) (bs_ob bs_12) (ly_12_43 bs_12).1 (ly_12_43 bs_12).2.1 ?_
  refine r_bipush d_X12_wakes_4 (by decide +kernel) ?_
  refine r_iload_n d_X12_wakes_6 1 rfl rfl ?_
  refine r_iadd d_X12_wakes_7 ?_
  refine r_aload_n d_X12_wakes_8 0 rfl rfl ?_
  refine r_getL (v := 342) 12 43 43 rfl d_X12_wakes_9 fl_X12_102 (by decide) (bs_ob bs_12) (ly_12_43 bs_12).1 (ly_12_43 bs_12).2.1 ?_
  refine r_bipush d_X12_wakes_12 (by decide +kernel) ?_
  refine r_iaload d_X12_wakes_14 (ly_12_43 bs_12).2.2 (by decide) ?_
  refine r_iconst d_X12_wakes_15 ?_
  refine r_iadd d_X12_wakes_16 ?_
  obtain ⟨h1, h⟩ := h
  obtain ⟨G2, eG2⟩ : ∃ y : Mem, y = st G 342 (10 + p0) ((G 342 110) + 1) := ⟨_, rfl⟩
  replace h := h G2 eG2
  refine r_iastore d_X12_wakes_17 (ly_12_43 bs_12).2.2 h1 ?_
  rw [← eG2]
  refine r_aload_n d_X12_wakes_18 0 rfl rfl ?_
  refine r_getL (v := 342) 12 43 43 rfl d_X12_wakes_19 fl_X12_102 (by decide) (bs_ob bs_12) (ly_12_43 bs_12).1 (ly_12_43 bs_12).2.1 ?_
  refine r_bipush d_X12_wakes_22 (by decide +kernel) ?_
  refine r_dup2 0 2 rfl rfl (by decide) (by decide) d_X12_wakes_24 ?_
  refine r_iaload d_X12_wakes_25 (ly_12_43 bs_12).2.2 (by decide) ?_
  refine r_iconst d_X12_wakes_26 ?_
  refine r_iadd d_X12_wakes_27 ?_
  obtain ⟨G3, eG3⟩ : ∃ y : Mem, y = st G2 342 111 ((G2 342 111) + 1) := ⟨_, rfl⟩
  replace h := h G3 eG3
  refine r_iastore d_X12_wakes_28 (ly_12_43 bs_12).2.2 (by decide) ?_
  rw [← eG3]
  exact r_ret d_X12_wakes_29 rfl ⟨rfl, Nat.le_refl _, Nat.le_refl _⟩ h
theorem d_X12_comesBy_0 : decode M_X12_comesBy.2.1 0 = .ok (.aload_n 0, 1) := by decide +kernel
theorem d_X12_comesBy_1 : decode M_X12_comesBy.2.1 1 = .ok (.iload_n 1, 1) := by decide +kernel
theorem d_X12_comesBy_2 : decode M_X12_comesBy.2.1 2 = .ok (.invokevirtual 407, 3) := by decide +kernel
theorem d_X12_comesBy_5 : decode M_X12_comesBy.2.1 5 = .ok (.ifCond .ne 5, 3) := by decide +kernel
theorem d_X12_comesBy_8 : decode M_X12_comesBy.2.1 8 = .ok (.iconst 1, 1) := by decide +kernel
theorem d_X12_comesBy_9 : decode M_X12_comesBy.2.1 9 = .ok (.ireturn, 1) := by decide +kernel
theorem d_X12_comesBy_10 : decode M_X12_comesBy.2.1 10 = .ok (.iload_n 2, 1) := by decide +kernel
theorem d_X12_comesBy_11 : decode M_X12_comesBy.2.1 11 = .ok (.ifCond .ne 41, 3) := by decide +kernel
theorem d_X12_comesBy_14 : decode M_X12_comesBy.2.1 14 = .ok (.aload_n 0, 1) := by decide +kernel
theorem d_X12_comesBy_15 : decode M_X12_comesBy.2.1 15 = .ok (.getfield 102, 3) := by decide +kernel
theorem d_X12_comesBy_18 : decode M_X12_comesBy.2.1 18 = .ok (.bipush 15, 2) := by decide +kernel
theorem d_X12_comesBy_20 : decode M_X12_comesBy.2.1 20 = .ok (.iload_n 1, 1) := by decide +kernel
theorem d_X12_comesBy_21 : decode M_X12_comesBy.2.1 21 = .ok (.iadd, 1) := by decide +kernel
theorem d_X12_comesBy_22 : decode M_X12_comesBy.2.1 22 = .ok (.dup2, 1) := by decide +kernel
theorem d_X12_comesBy_23 : decode M_X12_comesBy.2.1 23 = .ok (.iaload, 1) := by decide +kernel
theorem d_X12_comesBy_24 : decode M_X12_comesBy.2.1 24 = .ok (.iconst 1, 1) := by decide +kernel
theorem d_X12_comesBy_25 : decode M_X12_comesBy.2.1 25 = .ok (.iadd, 1) := by decide +kernel
theorem d_X12_comesBy_26 : decode M_X12_comesBy.2.1 26 = .ok (.iastore, 1) := by decide +kernel
theorem d_X12_comesBy_27 : decode M_X12_comesBy.2.1 27 = .ok (.iload_n 3, 1) := by decide +kernel
theorem d_X12_comesBy_28 : decode M_X12_comesBy.2.1 28 = .ok (.ifCond .eq 11, 3) := by decide +kernel
theorem d_X12_comesBy_31 : decode M_X12_comesBy.2.1 31 = .ok (.aload_n 0, 1) := by decide +kernel
theorem d_X12_comesBy_32 : decode M_X12_comesBy.2.1 32 = .ok (.iload_n 1, 1) := by decide +kernel
theorem d_X12_comesBy_33 : decode M_X12_comesBy.2.1 33 = .ok (.invokevirtual 427, 3) := by decide +kernel
theorem d_X12_comesBy_36 : decode M_X12_comesBy.2.1 36 = .ok (.goto 14, 3) := by decide +kernel
theorem d_X12_comesBy_39 : decode M_X12_comesBy.2.1 39 = .ok (.aload_n 0, 1) := by decide +kernel
theorem d_X12_comesBy_40 : decode M_X12_comesBy.2.1 40 = .ok (.getfield 102, 3) := by decide +kernel
theorem d_X12_comesBy_43 : decode M_X12_comesBy.2.1 43 = .ok (.bipush 112, 2) := by decide +kernel
theorem d_X12_comesBy_45 : decode M_X12_comesBy.2.1 45 = .ok (.dup2, 1) := by decide +kernel
theorem d_X12_comesBy_46 : decode M_X12_comesBy.2.1 46 = .ok (.iaload, 1) := by decide +kernel
theorem d_X12_comesBy_47 : decode M_X12_comesBy.2.1 47 = .ok (.iconst 1, 1) := by decide +kernel
theorem d_X12_comesBy_48 : decode M_X12_comesBy.2.1 48 = .ok (.iadd, 1) := by decide +kernel
theorem d_X12_comesBy_49 : decode M_X12_comesBy.2.1 49 = .ok (.iastore, 1) := by decide +kernel
theorem d_X12_comesBy_50 : decode M_X12_comesBy.2.1 50 = .ok (.iload_n 3, 1) := by decide +kernel
theorem d_X12_comesBy_51 : decode M_X12_comesBy.2.1 51 = .ok (.ireturn, 1) := by decide +kernel
theorem d_X12_comesBy_52 : decode M_X12_comesBy.2.1 52 = .ok (.iload_n 3, 1) := by decide +kernel
theorem d_X12_comesBy_53 : decode M_X12_comesBy.2.1 53 = .ok (.ifCond .eq 5, 3) := by decide +kernel
theorem d_X12_comesBy_56 : decode M_X12_comesBy.2.1 56 = .ok (.iconst 1, 1) := by decide +kernel
theorem d_X12_comesBy_57 : decode M_X12_comesBy.2.1 57 = .ok (.ireturn, 1) := by decide +kernel
theorem d_X12_comesBy_58 : decode M_X12_comesBy.2.1 58 = .ok (.aload_n 0, 1) := by decide +kernel
theorem d_X12_comesBy_59 : decode M_X12_comesBy.2.1 59 = .ok (.getfield 102, 3) := by decide +kernel
theorem d_X12_comesBy_62 : decode M_X12_comesBy.2.1 62 = .ok (.bipush 20, 2) := by decide +kernel
theorem d_X12_comesBy_64 : decode M_X12_comesBy.2.1 64 = .ok (.iload_n 1, 1) := by decide +kernel
theorem d_X12_comesBy_65 : decode M_X12_comesBy.2.1 65 = .ok (.iadd, 1) := by decide +kernel
theorem d_X12_comesBy_66 : decode M_X12_comesBy.2.1 66 = .ok (.dup2, 1) := by decide +kernel
theorem d_X12_comesBy_67 : decode M_X12_comesBy.2.1 67 = .ok (.iaload, 1) := by decide +kernel
theorem d_X12_comesBy_68 : decode M_X12_comesBy.2.1 68 = .ok (.iconst 1, 1) := by decide +kernel
theorem d_X12_comesBy_69 : decode M_X12_comesBy.2.1 69 = .ok (.iadd, 1) := by decide +kernel
theorem d_X12_comesBy_70 : decode M_X12_comesBy.2.1 70 = .ok (.iastore, 1) := by decide +kernel
theorem d_X12_comesBy_71 : decode M_X12_comesBy.2.1 71 = .ok (.aload_n 0, 1) := by decide +kernel
theorem d_X12_comesBy_72 : decode M_X12_comesBy.2.1 72 = .ok (.getfield 102, 3) := by decide +kernel
theorem d_X12_comesBy_75 : decode M_X12_comesBy.2.1 75 = .ok (.bipush 113, 2) := by decide +kernel
theorem d_X12_comesBy_77 : decode M_X12_comesBy.2.1 77 = .ok (.dup2, 1) := by decide +kernel
theorem d_X12_comesBy_78 : decode M_X12_comesBy.2.1 78 = .ok (.iaload, 1) := by decide +kernel
theorem d_X12_comesBy_79 : decode M_X12_comesBy.2.1 79 = .ok (.iconst 1, 1) := by decide +kernel
theorem d_X12_comesBy_80 : decode M_X12_comesBy.2.1 80 = .ok (.iadd, 1) := by decide +kernel
theorem d_X12_comesBy_81 : decode M_X12_comesBy.2.1 81 = .ok (.iastore, 1) := by decide +kernel
theorem d_X12_comesBy_82 : decode M_X12_comesBy.2.1 82 = .ok (.aload_n 0, 1) := by decide +kernel
theorem d_X12_comesBy_83 : decode M_X12_comesBy.2.1 83 = .ok (.getfield 102, 3) := by decide +kernel
theorem d_X12_comesBy_86 : decode M_X12_comesBy.2.1 86 = .ok (.bipush 30, 2) := by decide +kernel
theorem d_X12_comesBy_88 : decode M_X12_comesBy.2.1 88 = .ok (.aload_n 0, 1) := by decide +kernel
theorem d_X12_comesBy_89 : decode M_X12_comesBy.2.1 89 = .ok (.getfield 23, 3) := by decide +kernel
theorem d_X12_comesBy_92 : decode M_X12_comesBy.2.1 92 = .ok (.iload_n 1, 1) := by decide +kernel
theorem d_X12_comesBy_93 : decode M_X12_comesBy.2.1 93 = .ok (.iaload, 1) := by decide +kernel
theorem d_X12_comesBy_94 : decode M_X12_comesBy.2.1 94 = .ok (.iadd, 1) := by decide +kernel
theorem d_X12_comesBy_95 : decode M_X12_comesBy.2.1 95 = .ok (.iconst 0, 1) := by decide +kernel
theorem d_X12_comesBy_96 : decode M_X12_comesBy.2.1 96 = .ok (.iastore, 1) := by decide +kernel
theorem d_X12_comesBy_97 : decode M_X12_comesBy.2.1 97 = .ok (.aload_n 0, 1) := by decide +kernel
theorem d_X12_comesBy_98 : decode M_X12_comesBy.2.1 98 = .ok (.iload_n 1, 1) := by decide +kernel
theorem d_X12_comesBy_99 : decode M_X12_comesBy.2.1 99 = .ok (.invokevirtual 427, 3) := by decide +kernel
theorem d_X12_comesBy_102 : decode M_X12_comesBy.2.1 102 = .ok (.iconst 1, 1) := by decide +kernel
theorem d_X12_comesBy_103 : decode M_X12_comesBy.2.1 103 = .ok (.ireturn, 1) := by decide +kernel
set_option maxRecDepth 20000 in
theorem s_X12_comesBy_0 {d : Nat} {p0 : Int} {p1 : Int} {p2 : Int} {G : Mem} {Q : Int → Mem → Prop}  (h : Ct d M_X12_isAsleep NT 0 0 (some lay) [(2, 311), (0, p0)] G (fun r2 G1 => (InR r2) ∧ ((r2 ≠ 0) → (InR p1) ∧ ((p1 ≠ 0) → (InR p2) ∧ ((p2 = 0) → (0 ≤ (20 + p0) ∧ (20 + p0) < 116) ∧ ((∀ G10 : Mem, G10 = st G1 342 (20 + p0) ((G1 342 (20 + p0)) + 1) → (∀ G11 : Mem, G11 = st G10 342 113 ((G10 342 113) + 1) → (0 ≤ p0 ∧ p0 < 30) ∧ ((0 ≤ (30 + (G11 316 p0)) ∧ (30 + (G11 316 p0)) < 116) ∧ (∀ G14 : Mem, G14 = st G11 342 (30 + (G11 316 p0)) 0 → Ct d M_X12_wakes NT 0 0 (some lay) [(2, 311), (0, p0)] G14 (fun r16 G15 => Q 1 G15))))))) ∧ (¬ (p2 = 0) → Q 1 G1)) ∧ (¬ (p1 ≠ 0) → (0 ≤ (15 + p0) ∧ (15 + p0) < 116) ∧ ((∀ G18 : Mem, G18 = st G1 342 (15 + p0) ((G1 342 (15 + p0)) + 1) → (InR p2) ∧ ((p2 = 0) → (∀ G21 : Mem, G21 = st G18 342 112 ((G18 342 112) + 1) → (p2 = 0 ∨ p2 = 1) ∧ Q p2 G21)) ∧ (¬ (p2 = 0) → Ct d M_X12_wakes NT 0 0 (some lay) [(2, 311), (0, p0)] G18 (fun r23 G22 => (p2 = 0 ∨ p2 = 1) ∧ Q p2 G22)))))) ∧ (¬ (r2 ≠ 0) → Q 1 G1))) : Rn (d + 1) M_X12_comesBy zN 0 [(0, (2, 311)), (1, (0, p0)), (2, (0, p1)), (3, (0, p2))] [] G Q := by
  refine r_aload_n d_X12_comesBy_0 0 rfl rfl ?_
  refine r_iload_n d_X12_comesBy_1 1 rfl rfl ?_
  refine r_callV0 (M' := M_X12_isAsleep) (ci := 12) [(0, p0)] d_X12_comesBy_2 cl_X12_407 rfl (Nat.le_of_ble_eq_true rfl) (by decide) rfl (bs_ob bs_12) ?_
  refine Ct.mono h (fun r2 G1 h => ?_)
  show Rn _ M_X12_comesBy zN 5 [(0, (2, 311)), (1, (0, p0)), (2, (0, p1)), (3, (0, p2))] [(0, r2)] G1 Q
  obtain ⟨h3, h⟩ := h
  refine r_if_ne (tgt := 10) d_X12_comesBy_5 (by decide) h3 (fun c4 => ?_) (fun c4 => ?_)
  · replace h := h.1 c4
    refine r_iload_n d_X12_comesBy_10 2 rfl rfl ?_
    obtain ⟨h5, h⟩ := h
    refine r_if_ne (tgt := 52) d_X12_comesBy_11 (by decide) h5 (fun c6 => ?_) (fun c6 => ?_)
    · replace h := h.1 c6
      refine r_iload_n d_X12_comesBy_52 3 rfl rfl ?_
      obtain ⟨h7, h⟩ := h
      refine r_if_eq (tgt := 58) d_X12_comesBy_53 (by decide) h7 (fun c8 => ?_) (fun c8 => ?_)
      · replace h := h.1 c8
        refine r_aload_n d_X12_comesBy_58 0 rfl rfl ?_
        refine r_getL (v := 342) 12 43 43 rfl d_X12_comesBy_59 fl_X12_102 (by decide) (bs_ob bs_12) (ly_12_43 bs_12).1 (ly_12_43 bs_12).2.1 ?_
        refine r_bipush d_X12_comesBy_62 (by decide +kernel) ?_
        refine r_iload_n d_X12_comesBy_64 1 rfl rfl ?_
        refine r_iadd d_X12_comesBy_65 ?_
        refine r_dup2 0 2 rfl rfl (by decide) (by decide) d_X12_comesBy_66 ?_
        obtain ⟨h9, h⟩ := h
        refine r_iaload d_X12_comesBy_67 (ly_12_43 bs_12).2.2 h9 ?_
        refine r_iconst d_X12_comesBy_68 ?_
        refine r_iadd d_X12_comesBy_69 ?_
        obtain ⟨G10, eG10⟩ : ∃ y : Mem, y = st G1 342 (20 + p0) ((G1 342 (20 + p0)) + 1) := ⟨_, rfl⟩
        replace h := h G10 eG10
        refine r_iastore d_X12_comesBy_70 (ly_12_43 bs_12).2.2 h9 ?_
        rw [← eG10]
        refine r_aload_n d_X12_comesBy_71 0 rfl rfl ?_
        refine r_getL (v := 342) 12 43 43 rfl d_X12_comesBy_72 fl_X12_102 (by decide) (bs_ob bs_12) (ly_12_43 bs_12).1 (ly_12_43 bs_12).2.1 ?_
        refine r_bipush d_X12_comesBy_75 (by decide +kernel) ?_
        refine r_dup2 0 2 rfl rfl (by decide) (by decide) d_X12_comesBy_77 ?_
        refine r_iaload d_X12_comesBy_78 (ly_12_43 bs_12).2.2 (by decide) ?_
        refine r_iconst d_X12_comesBy_79 ?_
        refine r_iadd d_X12_comesBy_80 ?_
        obtain ⟨G11, eG11⟩ : ∃ y : Mem, y = st G10 342 113 ((G10 342 113) + 1) := ⟨_, rfl⟩
        replace h := h G11 eG11
        refine r_iastore d_X12_comesBy_81 (ly_12_43 bs_12).2.2 (by decide) ?_
        rw [← eG11]
        refine r_aload_n d_X12_comesBy_82 0 rfl rfl ?_
        refine r_getL (v := 342) 12 43 43 rfl d_X12_comesBy_83 fl_X12_102 (by decide) (bs_ob bs_12) (ly_12_43 bs_12).1 (ly_12_43 bs_12).2.1 ?_
        refine r_bipush d_X12_comesBy_86 (by decide +kernel) ?_
        refine r_aload_n d_X12_comesBy_88 0 rfl rfl ?_
        refine r_getL (v := 316) 12 13 13 rfl d_X12_comesBy_89 fl_X12_23 (by decide) (bs_ob bs_12) (ly_12_13 bs_12).1 (ly_12_13 bs_12).2.1 ?_
        refine r_iload_n d_X12_comesBy_92 1 rfl rfl ?_
        obtain ⟨h12, h⟩ := h
        refine r_iaload d_X12_comesBy_93 (ly_12_13 bs_12).2.2 h12 ?_
        refine r_iadd d_X12_comesBy_94 ?_
        refine r_iconst d_X12_comesBy_95 ?_
        obtain ⟨h13, h⟩ := h
        obtain ⟨G14, eG14⟩ : ∃ y : Mem, y = st G11 342 (30 + (G11 316 p0)) 0 := ⟨_, rfl⟩
        replace h := h G14 eG14
        refine r_iastore d_X12_comesBy_96 (ly_12_43 bs_12).2.2 h13 ?_
        rw [← eG14]
        refine r_aload_n d_X12_comesBy_97 0 rfl rfl ?_
        refine r_iload_n d_X12_comesBy_98 1 rfl rfl ?_
        refine r_callV0 (M' := M_X12_wakes) (ci := 12) [(0, p0)] d_X12_comesBy_99 cl_X12_427 rfl (Nat.le_of_ble_eq_true rfl) (by decide) rfl (bs_ob bs_12) ?_
        refine Ct.mono h (fun r16 G15 h => ?_)
        show Rn _ M_X12_comesBy zN 102 [(0, (2, 311)), (1, (0, p0)), (2, (0, p1)), (3, (0, p2))] [] G15 Q
        refine r_iconst d_X12_comesBy_102 ?_
        exact r_zreturn d_X12_comesBy_103 rfl ⟨rfl, Nat.le_refl _, Nat.le_refl _⟩ (by decide) h
      · replace h := h.2 c8
        refine r_iconst d_X12_comesBy_56 ?_
        exact r_zreturn d_X12_comesBy_57 rfl ⟨rfl, Nat.le_refl _, Nat.le_refl _⟩ (by decide) h
    · replace h := h.2 c6
      refine r_aload_n d_X12_comesBy_14 0 rfl rfl ?_
      refine r_getL (v := 342) 12 43 43 rfl d_X12_comesBy_15 fl_X12_102 (by decide) (bs_ob bs_12) (ly_12_43 bs_12).1 (ly_12_43 bs_12).2.1 ?_
      refine r_bipush d_X12_comesBy_18 (by decide +kernel) ?_
      refine r_iload_n d_X12_comesBy_20 1 rfl rfl ?_
      refine r_iadd d_X12_comesBy_21 ?_
      refine r_dup2 0 2 rfl rfl (by decide) (by decide) d_X12_comesBy_22 ?_
      obtain ⟨h17, h⟩ := h
      refine r_iaload d_X12_comesBy_23 (ly_12_43 bs_12).2.2 h17 ?_
      refine r_iconst d_X12_comesBy_24 ?_
      refine r_iadd d_X12_comesBy_25 ?_
      obtain ⟨G18, eG18⟩ : ∃ y : Mem, y = st G1 342 (15 + p0) ((G1 342 (15 + p0)) + 1) := ⟨_, rfl⟩
      replace h := h G18 eG18
      refine r_iastore d_X12_comesBy_26 (ly_12_43 bs_12).2.2 h17 ?_
      rw [← eG18]
      refine r_iload_n d_X12_comesBy_27 3 rfl rfl ?_
      obtain ⟨h19, h⟩ := h
      refine r_if_eq (tgt := 39) d_X12_comesBy_28 (by decide) h19 (fun c20 => ?_) (fun c20 => ?_)
      · replace h := h.1 c20
        refine r_aload_n d_X12_comesBy_39 0 rfl rfl ?_
        refine r_getL (v := 342) 12 43 43 rfl d_X12_comesBy_40 fl_X12_102 (by decide) (bs_ob bs_12) (ly_12_43 bs_12).1 (ly_12_43 bs_12).2.1 ?_
        refine r_bipush d_X12_comesBy_43 (by decide +kernel) ?_
        refine r_dup2 0 2 rfl rfl (by decide) (by decide) d_X12_comesBy_45 ?_
        refine r_iaload d_X12_comesBy_46 (ly_12_43 bs_12).2.2 (by decide) ?_
        refine r_iconst d_X12_comesBy_47 ?_
        refine r_iadd d_X12_comesBy_48 ?_
        obtain ⟨G21, eG21⟩ : ∃ y : Mem, y = st G18 342 112 ((G18 342 112) + 1) := ⟨_, rfl⟩
        replace h := h G21 eG21
        refine r_iastore d_X12_comesBy_49 (ly_12_43 bs_12).2.2 (by decide) ?_
        rw [← eG21]
        refine r_iload_n d_X12_comesBy_50 3 rfl rfl ?_
        exact r_zreturn d_X12_comesBy_51 rfl ⟨rfl, Nat.le_refl _, Nat.le_refl _⟩ h.1 h.2
      · replace h := h.2 c20
        refine r_aload_n d_X12_comesBy_31 0 rfl rfl ?_
        refine r_iload_n d_X12_comesBy_32 1 rfl rfl ?_
        refine r_callV0 (M' := M_X12_wakes) (ci := 12) [(0, p0)] d_X12_comesBy_33 cl_X12_427 rfl (Nat.le_of_ble_eq_true rfl) (by decide) rfl (bs_ob bs_12) ?_
        refine Ct.mono h (fun r23 G22 h => ?_)
        show Rn _ M_X12_comesBy zN 36 [(0, (2, 311)), (1, (0, p0)), (2, (0, p1)), (3, (0, p2))] [] G22 Q
        refine r_goto (tgt := 50) d_X12_comesBy_36 (by decide) ?_
        refine r_iload_n d_X12_comesBy_50 3 rfl rfl ?_
        exact r_zreturn d_X12_comesBy_51 rfl ⟨rfl, Nat.le_refl _, Nat.le_refl _⟩ h.1 h.2
  · replace h := h.2 c4
    refine r_iconst d_X12_comesBy_8 ?_
    exact r_zreturn d_X12_comesBy_9 rfl ⟨rfl, Nat.le_refl _, Nat.le_refl _⟩ (by decide) h
theorem d_X12_passesBy_0 : decode M_X12_passesBy.2.1 0 = .ok (.aload_n 0, 1) := by decide +kernel
theorem d_X12_passesBy_1 : decode M_X12_passesBy.2.1 1 = .ok (.getfield 13, 3) := by decide +kernel
theorem d_X12_passesBy_4 : decode M_X12_passesBy.2.1 4 = .ok (.iconst 0, 1) := by decide +kernel
theorem d_X12_passesBy_5 : decode M_X12_passesBy.2.1 5 = .ok (.iaload, 1) := by decide +kernel
theorem d_X12_passesBy_6 : decode M_X12_passesBy.2.1 6 = .ok (.istore 5, 2) := by decide +kernel
theorem d_X12_passesBy_8 : decode M_X12_passesBy.2.1 8 = .ok (.aload_n 0, 1) := by decide +kernel
theorem d_X12_passesBy_9 : decode M_X12_passesBy.2.1 9 = .ok (.getfield 23, 3) := by decide +kernel
theorem d_X12_passesBy_12 : decode M_X12_passesBy.2.1 12 = .ok (.iload_n 1, 1) := by decide +kernel
theorem d_X12_passesBy_13 : decode M_X12_passesBy.2.1 13 = .ok (.iaload, 1) := by decide +kernel
theorem d_X12_passesBy_14 : decode M_X12_passesBy.2.1 14 = .ok (.istore 6, 2) := by decide +kernel
theorem d_X12_passesBy_16 : decode M_X12_passesBy.2.1 16 = .ok (.iload 6, 2) := by decide +kernel
theorem d_X12_passesBy_18 : decode M_X12_passesBy.2.1 18 = .ok (.iconst 1, 1) := by decide +kernel
theorem d_X12_passesBy_19 : decode M_X12_passesBy.2.1 19 = .ok (.iadd, 1) := by decide +kernel
theorem d_X12_passesBy_20 : decode M_X12_passesBy.2.1 20 = .ok (.istore 7, 2) := by decide +kernel
theorem d_X12_passesBy_22 : decode M_X12_passesBy.2.1 22 = .ok (.iload 7, 2) := by decide +kernel
theorem d_X12_passesBy_24 : decode M_X12_passesBy.2.1 24 = .ok (.iload 5, 2) := by decide +kernel
theorem d_X12_passesBy_26 : decode M_X12_passesBy.2.1 26 = .ok (.if_icmp .ge 74, 3) := by decide +kernel
theorem d_X12_passesBy_29 : decode M_X12_passesBy.2.1 29 = .ok (.iload 4, 2) := by decide +kernel
theorem d_X12_passesBy_31 : decode M_X12_passesBy.2.1 31 = .ok (.ifCond .eq 14, 3) := by decide +kernel
theorem d_X12_passesBy_34 : decode M_X12_passesBy.2.1 34 = .ok (.iload 5, 2) := by decide +kernel
theorem d_X12_passesBy_36 : decode M_X12_passesBy.2.1 36 = .ok (.iload 6, 2) := by decide +kernel
theorem d_X12_passesBy_38 : decode M_X12_passesBy.2.1 38 = .ok (.iadd, 1) := by decide +kernel
theorem d_X12_passesBy_39 : decode M_X12_passesBy.2.1 39 = .ok (.iload 7, 2) := by decide +kernel
theorem d_X12_passesBy_41 : decode M_X12_passesBy.2.1 41 = .ok (.isub, 1) := by decide +kernel
theorem d_X12_passesBy_42 : decode M_X12_passesBy.2.1 42 = .ok (.goto 5, 3) := by decide +kernel
theorem d_X12_passesBy_45 : decode M_X12_passesBy.2.1 45 = .ok (.iload 7, 2) := by decide +kernel
theorem d_X12_passesBy_47 : decode M_X12_passesBy.2.1 47 = .ok (.istore 8, 2) := by decide +kernel
theorem d_X12_passesBy_49 : decode M_X12_passesBy.2.1 49 = .ok (.aload_n 0, 1) := by decide +kernel
theorem d_X12_passesBy_50 : decode M_X12_passesBy.2.1 50 = .ok (.iload 8, 2) := by decide +kernel
theorem d_X12_passesBy_52 : decode M_X12_passesBy.2.1 52 = .ok (.invokevirtual 413, 3) := by decide +kernel
theorem d_X12_passesBy_55 : decode M_X12_passesBy.2.1 55 = .ok (.istore 9, 2) := by decide +kernel
theorem d_X12_passesBy_57 : decode M_X12_passesBy.2.1 57 = .ok (.iload 9, 2) := by decide +kernel
theorem d_X12_passesBy_59 : decode M_X12_passesBy.2.1 59 = .ok (.ifCond .lt 35, 3) := by decide +kernel
theorem d_X12_passesBy_62 : decode M_X12_passesBy.2.1 62 = .ok (.aload_n 0, 1) := by decide +kernel
theorem d_X12_passesBy_63 : decode M_X12_passesBy.2.1 63 = .ok (.iload 9, 2) := by decide +kernel
theorem d_X12_passesBy_65 : decode M_X12_passesBy.2.1 65 = .ok (.iload_n 2, 1) := by decide +kernel
theorem d_X12_passesBy_66 : decode M_X12_passesBy.2.1 66 = .ok (.iload 8, 2) := by decide +kernel
theorem d_X12_passesBy_68 : decode M_X12_passesBy.2.1 68 = .ok (.invokestatic 430, 3) := by decide +kernel
theorem d_X12_passesBy_71 : decode M_X12_passesBy.2.1 71 = .ok (.iload_n 3, 1) := by decide +kernel
theorem d_X12_passesBy_72 : decode M_X12_passesBy.2.1 72 = .ok (.iload 8, 2) := by decide +kernel
theorem d_X12_passesBy_74 : decode M_X12_passesBy.2.1 74 = .ok (.ishr, 1) := by decide +kernel
theorem d_X12_passesBy_75 : decode M_X12_passesBy.2.1 75 = .ok (.iconst 1, 1) := by decide +kernel
theorem d_X12_passesBy_76 : decode M_X12_passesBy.2.1 76 = .ok (.iand, 1) := by decide +kernel
theorem d_X12_passesBy_77 : decode M_X12_passesBy.2.1 77 = .ok (.iconst 1, 1) := by decide +kernel
theorem d_X12_passesBy_78 : decode M_X12_passesBy.2.1 78 = .ok (.if_icmp .ne 7, 3) := by decide +kernel
theorem d_X12_passesBy_81 : decode M_X12_passesBy.2.1 81 = .ok (.iconst 1, 1) := by decide +kernel
theorem d_X12_passesBy_82 : decode M_X12_passesBy.2.1 82 = .ok (.goto 4, 3) := by decide +kernel
theorem d_X12_passesBy_85 : decode M_X12_passesBy.2.1 85 = .ok (.iconst 0, 1) := by decide +kernel
theorem d_X12_passesBy_86 : decode M_X12_passesBy.2.1 86 = .ok (.invokevirtual 433, 3) := by decide +kernel
theorem d_X12_passesBy_89 : decode M_X12_passesBy.2.1 89 = .ok (.ifCond .ne 5, 3) := by decide +kernel
theorem d_X12_passesBy_92 : decode M_X12_passesBy.2.1 92 = .ok (.iconst 0, 1) := by decide +kernel
theorem d_X12_passesBy_93 : decode M_X12_passesBy.2.1 93 = .ok (.ireturn, 1) := by decide +kernel
theorem d_X12_passesBy_94 : decode M_X12_passesBy.2.1 94 = .ok (.iinc 7 1, 3) := by decide +kernel
theorem d_X12_passesBy_97 : decode M_X12_passesBy.2.1 97 = .ok (.goto (-75), 3) := by decide +kernel
theorem d_X12_passesBy_100 : decode M_X12_passesBy.2.1 100 = .ok (.iconst 1, 1) := by decide +kernel
theorem d_X12_passesBy_101 : decode M_X12_passesBy.2.1 101 = .ok (.ireturn, 1) := by decide +kernel
set_option maxRecDepth 20000 in
theorem s_X12_passesBy_0 {d : Nat} {p0 : Int} {p1 : Int} {p2 : Int} {p3 : Int} {G : Mem} {Q : Int → Mem → Prop}  (h : (0 ≤ p0 ∧ p0 < 30) ∧ (Rn d M_X12_passesBy zN 22 [(0, (2, 311)), (2, (0, p1)), (3, (0, p2)), (4, (0, p3)), (5, (0, (G 313 0))), (6, (0, (G 316 p0))), (7, (0, ((G 316 p0) + 1)))] [] G Q)) : Rn d M_X12_passesBy zN 0 [(0, (2, 311)), (1, (0, p0)), (2, (0, p1)), (3, (0, p2)), (4, (0, p3))] [] G Q := by
  refine r_aload_n d_X12_passesBy_0 0 rfl rfl ?_
  refine r_getL (v := 313) 12 10 10 rfl d_X12_passesBy_1 fl_X12_13 (by decide) (bs_ob bs_12) (ly_12_10 bs_12).1 (ly_12_10 bs_12).2.1 ?_
  refine r_iconst d_X12_passesBy_4 ?_
  refine r_iaload d_X12_passesBy_5 (ly_12_10 bs_12).2.2 (by decide) ?_
  refine r_istore (ls1 := [(5, (0, (G 313 0))), (0, (2, 311)), (1, (0, p0)), (2, (0, p1)), (3, (0, p2)), (4, (0, p3))]) d_X12_passesBy_6 (by decide) rfl ?_
  refine r_aload_n d_X12_passesBy_8 1 rfl rfl ?_
  refine r_getL (v := 316) 12 13 13 rfl d_X12_passesBy_9 fl_X12_23 (by decide) (bs_ob bs_12) (ly_12_13 bs_12).1 (ly_12_13 bs_12).2.1 ?_
  refine r_iload_n d_X12_passesBy_12 2 rfl rfl ?_
  obtain ⟨h1, h⟩ := h
  refine r_iaload d_X12_passesBy_13 (ly_12_13 bs_12).2.2 h1 ?_
  refine r_istore (ls1 := [(6, (0, (G 316 p0))), (5, (0, (G 313 0))), (0, (2, 311)), (1, (0, p0)), (2, (0, p1)), (3, (0, p2)), (4, (0, p3))]) d_X12_passesBy_14 (by decide) rfl ?_
  refine r_iload d_X12_passesBy_16 0 rfl ?_
  refine r_iconst d_X12_passesBy_18 ?_
  refine r_iadd d_X12_passesBy_19 ?_
  refine r_istore (ls1 := [(7, (0, ((G 316 p0) + 1))), (6, (0, (G 316 p0))), (5, (0, (G 313 0))), (0, (2, 311)), (1, (0, p0)), (2, (0, p1)), (3, (0, p2)), (4, (0, p3))]) d_X12_passesBy_20 (by decide) rfl ?_
  exact Rn.sub [3, 5, 6, 7, 2, 1, 0] rfl h
set_option maxRecDepth 20000 in
theorem s_X12_passesBy_22 {d : Nat} {x2 : Int} {x3 : Int} {x4 : Int} {x5 : Int} {x6 : Int} {x7 : Int} {G : Mem} {Q : Int → Mem → Prop}  (h : (InR x7) ∧ (InR x5) ∧ ((x5 ≤ x7) → Q 1 G) ∧ (¬ (x5 ≤ x7) → (InR x4) ∧ ((x4 = 0) → Rn d M_X12_passesBy zN 47 [(0, (2, 311)), (2, (0, x2)), (3, (0, x3)), (4, (0, x4)), (5, (0, x5)), (6, (0, x6)), (7, (0, x7))] [(0, x7)] G Q) ∧ (¬ (x4 = 0) → Rn d M_X12_passesBy zN 47 [(0, (2, 311)), (2, (0, x2)), (3, (0, x3)), (4, (0, x4)), (5, (0, x5)), (6, (0, x6)), (7, (0, x7))] [(0, ((x5 + x6) - x7))] G Q))) : Rn d M_X12_passesBy zN 22 [(0, (2, 311)), (2, (0, x2)), (3, (0, x3)), (4, (0, x4)), (5, (0, x5)), (6, (0, x6)), (7, (0, x7))] [] G Q := by
  refine r_iload d_X12_passesBy_22 6 rfl ?_
  refine r_iload d_X12_passesBy_24 4 rfl ?_
  obtain ⟨h1, h⟩ := h
  obtain ⟨h2, h⟩ := h
  refine r_icmp_ge (tgt := 100) d_X12_passesBy_26 (by decide) h1 h2 (fun c3 => ?_) (fun c3 => ?_)
  · replace h := h.1 c3
    refine r_iconst d_X12_passesBy_100 ?_
    exact r_zreturn d_X12_passesBy_101 rfl ⟨rfl, Nat.le_refl _, Nat.le_refl _⟩ (by decide) h
  · replace h := h.2 c3
    refine r_iload d_X12_passesBy_29 3 rfl ?_
    obtain ⟨h4, h⟩ := h
    refine r_if_eq (tgt := 45) d_X12_passesBy_31 (by decide) h4 (fun c5 => ?_) (fun c5 => ?_)
    · replace h := h.1 c5
      refine r_iload d_X12_passesBy_45 6 rfl ?_
      exact h
    · replace h := h.2 c5
      refine r_iload d_X12_passesBy_34 4 rfl ?_
      refine r_iload d_X12_passesBy_36 5 rfl ?_
      refine r_iadd d_X12_passesBy_38 ?_
      refine r_iload d_X12_passesBy_39 6 rfl ?_
      refine r_isub d_X12_passesBy_41 ?_
      refine r_goto (tgt := 47) d_X12_passesBy_42 (by decide) ?_
      exact h
set_option maxRecDepth 20000 in
theorem s_X12_passesBy_47 {d : Nat} {x2 : Int} {x3 : Int} {x4 : Int} {x5 : Int} {x6 : Int} {x7 : Int} {s0 : Int} {G : Mem} {Q : Int → Mem → Prop}  (h : Ct d M_X12_inSeat NT 0 0 (some lay) [(2, 311), (0, s0)] G (fun r2 G1 => (InR r2) ∧ ((r2 < 0) → Rn (d + 1) M_X12_passesBy zN 22 [(0, (2, 311)), (2, (0, x2)), (3, (0, x3)), (4, (0, x4)), (5, (0, x5)), (6, (0, x6)), (7, (0, (x7 + 1)))] [] G1 Q) ∧ (¬ (r2 < 0) → Ct d M_X12_digit NT 0 0 (some lay) [(0, x2), (0, s0)] G1 (fun r6 G5 => (InR (andI (shrI x3 s0) 1)) ∧ (((andI (shrI x3 s0) 1) ≠ 1) → Rn (d + 1) M_X12_passesBy zN 86 [(0, (2, 311)), (2, (0, x2)), (3, (0, x3)), (4, (0, x4)), (5, (0, x5)), (6, (0, x6)), (7, (0, x7))] [(0, 0), (0, r6), (0, r2), (2, 311)] G5 Q) ∧ (¬ ((andI (shrI x3 s0) 1) ≠ 1) → Rn (d + 1) M_X12_passesBy zN 86 [(0, (2, 311)), (2, (0, x2)), (3, (0, x3)), (4, (0, x4)), (5, (0, x5)), (6, (0, x6)), (7, (0, x7))] [(0, 1), (0, r6), (0, r2), (2, 311)] G5 Q))))) : Rn (d + 1) M_X12_passesBy zN 47 [(0, (2, 311)), (2, (0, x2)), (3, (0, x3)), (4, (0, x4)), (5, (0, x5)), (6, (0, x6)), (7, (0, x7))] [(0, s0)] G Q := by
  refine r_istore (ls1 := [(8, (0, s0)), (0, (2, 311)), (2, (0, x2)), (3, (0, x3)), (4, (0, x4)), (5, (0, x5)), (6, (0, x6)), (7, (0, x7))]) d_X12_passesBy_47 (by decide) rfl ?_
  refine r_aload_n d_X12_passesBy_49 1 rfl rfl ?_
  refine r_iload d_X12_passesBy_50 0 rfl ?_
  refine r_callV0 (M' := M_X12_inSeat) (ci := 12) [(0, s0)] d_X12_passesBy_52 cl_X12_413 rfl (Nat.le_of_ble_eq_true rfl) (by decide) rfl (bs_ob bs_12) ?_
  refine Ct.mono h (fun r2 G1 h => ?_)
  show Rn _ M_X12_passesBy zN 55 [(8, (0, s0)), (0, (2, 311)), (2, (0, x2)), (3, (0, x3)), (4, (0, x4)), (5, (0, x5)), (6, (0, x6)), (7, (0, x7))] [(0, r2)] G1 Q
  refine r_istore (ls1 := [(9, (0, r2)), (8, (0, s0)), (0, (2, 311)), (2, (0, x2)), (3, (0, x3)), (4, (0, x4)), (5, (0, x5)), (6, (0, x6)), (7, (0, x7))]) d_X12_passesBy_55 (by decide) rfl ?_
  refine r_iload d_X12_passesBy_57 0 rfl ?_
  obtain ⟨h3, h⟩ := h
  refine r_if_lt (tgt := 94) d_X12_passesBy_59 (by decide) h3 (fun c4 => ?_) (fun c4 => ?_)
  · replace h := h.1 c4
    refine r_iinc (ls1 := [(7, (0, (x7 + 1))), (9, (0, r2)), (8, (0, s0)), (0, (2, 311)), (2, (0, x2)), (3, (0, x3)), (4, (0, x4)), (5, (0, x5)), (6, (0, x6))]) d_X12_passesBy_94 8 rfl (by decide) rfl ?_
    refine r_goto (tgt := 22) d_X12_passesBy_97 (by decide) ?_
    exact Rn.sub [3, 4, 5, 6, 7, 8, 0] rfl h
  · replace h := h.2 c4
    refine r_aload_n d_X12_passesBy_62 2 rfl rfl ?_
    refine r_iload d_X12_passesBy_63 0 rfl ?_
    refine r_iload_n d_X12_passesBy_65 3 rfl rfl ?_
    refine r_iload d_X12_passesBy_66 1 rfl ?_
    refine r_callS0 (M' := M_X12_digit) [(0, x2), (0, s0)] d_X12_passesBy_68 cl_X12_430 rfl (Nat.le_of_ble_eq_true rfl) ?_
    refine Ct.mono h (fun r6 G5 h => ?_)
    show Rn _ M_X12_passesBy zN 71 [(9, (0, r2)), (8, (0, s0)), (0, (2, 311)), (2, (0, x2)), (3, (0, x3)), (4, (0, x4)), (5, (0, x5)), (6, (0, x6)), (7, (0, x7))] [(0, r6), (0, r2), (2, 311)] G5 Q
    refine r_iload_n d_X12_passesBy_71 4 rfl rfl ?_
    refine r_iload d_X12_passesBy_72 1 rfl ?_
    refine r_ishr d_X12_passesBy_74 ?_
    refine r_iconst d_X12_passesBy_75 ?_
    refine r_iand d_X12_passesBy_76 ?_
    refine r_iconst d_X12_passesBy_77 ?_
    obtain ⟨h7, h⟩ := h
    refine r_icmp_ne (tgt := 85) d_X12_passesBy_78 (by decide) h7 ⟨by decide, by decide⟩ (fun c8 => ?_) (fun c8 => ?_)
    · replace h := h.1 c8
      refine r_iconst d_X12_passesBy_85 ?_
      exact Rn.sub [2, 3, 4, 5, 6, 7, 8] rfl h
    · replace h := h.2 c8
      refine r_iconst d_X12_passesBy_81 ?_
      refine r_goto (tgt := 86) d_X12_passesBy_82 (by decide) ?_
      exact Rn.sub [2, 3, 4, 5, 6, 7, 8] rfl h
set_option maxRecDepth 20000 in
theorem s_X12_passesBy_86 {d : Nat} {x2 : Int} {x3 : Int} {x4 : Int} {x5 : Int} {x6 : Int} {x7 : Int} {s0 : Int} {s1 : Int} {s2 : Int} {G : Mem} {Q : Int → Mem → Prop}  (h : Ct d M_X12_comesBy NT 0 0 (some lay) [(2, 311), (0, s2), (0, s1), (0, s0)] G (fun r2 G1 => (InR r2) ∧ ((r2 ≠ 0) → Rn (d + 1) M_X12_passesBy zN 22 [(0, (2, 311)), (2, (0, x2)), (3, (0, x3)), (4, (0, x4)), (5, (0, x5)), (6, (0, x6)), (7, (0, (x7 + 1)))] [] G1 Q) ∧ (¬ (r2 ≠ 0) → Q 0 G1))) : Rn (d + 1) M_X12_passesBy zN 86 [(0, (2, 311)), (2, (0, x2)), (3, (0, x3)), (4, (0, x4)), (5, (0, x5)), (6, (0, x6)), (7, (0, x7))] [(0, s0), (0, s1), (0, s2), (2, 311)] G Q := by
  refine r_callV0 (M' := M_X12_comesBy) (ci := 12) [(0, s2), (0, s1), (0, s0)] d_X12_passesBy_86 cl_X12_433 rfl (Nat.le_of_ble_eq_true rfl) (by decide) rfl (bs_ob bs_12) ?_
  refine Ct.mono h (fun r2 G1 h => ?_)
  show Rn _ M_X12_passesBy zN 89 [(0, (2, 311)), (2, (0, x2)), (3, (0, x3)), (4, (0, x4)), (5, (0, x5)), (6, (0, x6)), (7, (0, x7))] [(0, r2)] G1 Q
  obtain ⟨h3, h⟩ := h
  refine r_if_ne (tgt := 94) d_X12_passesBy_89 (by decide) h3 (fun c4 => ?_) (fun c4 => ?_)
  · replace h := h.1 c4
    refine r_iinc (ls1 := [(7, (0, (x7 + 1))), (0, (2, 311)), (2, (0, x2)), (3, (0, x3)), (4, (0, x4)), (5, (0, x5)), (6, (0, x6))]) d_X12_passesBy_94 6 rfl (by decide) rfl ?_
    refine r_goto (tgt := 22) d_X12_passesBy_97 (by decide) ?_
    exact Rn.sub [1, 2, 3, 4, 5, 6, 0] rfl h
  · replace h := h.2 c4
    refine r_iconst d_X12_passesBy_92 ?_
    exact r_zreturn d_X12_passesBy_93 rfl ⟨rfl, Nat.le_refl _, Nat.le_refl _⟩ (by decide) h
theorem d_X12_outNow_0 : decode M_X12_outNow.2.1 0 = .ok (.iconst 0, 1) := by decide +kernel
theorem d_X12_outNow_1 : decode M_X12_outNow.2.1 1 = .ok (.istore_n 1, 1) := by decide +kernel
theorem d_X12_outNow_2 : decode M_X12_outNow.2.1 2 = .ok (.iconst 0, 1) := by decide +kernel
theorem d_X12_outNow_3 : decode M_X12_outNow.2.1 3 = .ok (.istore_n 2, 1) := by decide +kernel
theorem d_X12_outNow_4 : decode M_X12_outNow.2.1 4 = .ok (.iload_n 2, 1) := by decide +kernel
theorem d_X12_outNow_5 : decode M_X12_outNow.2.1 5 = .ok (.aload_n 0, 1) := by decide +kernel
theorem d_X12_outNow_6 : decode M_X12_outNow.2.1 6 = .ok (.getfield 13, 3) := by decide +kernel
theorem d_X12_outNow_9 : decode M_X12_outNow.2.1 9 = .ok (.bipush 8, 2) := by decide +kernel
theorem d_X12_outNow_11 : decode M_X12_outNow.2.1 11 = .ok (.iaload, 1) := by decide +kernel
theorem d_X12_outNow_12 : decode M_X12_outNow.2.1 12 = .ok (.if_icmp .ge 28, 3) := by decide +kernel
theorem d_X12_outNow_15 : decode M_X12_outNow.2.1 15 = .ok (.iload_n 1, 1) := by decide +kernel
theorem d_X12_outNow_16 : decode M_X12_outNow.2.1 16 = .ok (.aload_n 0, 1) := by decide +kernel
theorem d_X12_outNow_17 : decode M_X12_outNow.2.1 17 = .ok (.getfield 102, 3) := by decide +kernel
theorem d_X12_outNow_20 : decode M_X12_outNow.2.1 20 = .ok (.iconst 5, 1) := by decide +kernel
theorem d_X12_outNow_21 : decode M_X12_outNow.2.1 21 = .ok (.iload_n 2, 1) := by decide +kernel
theorem d_X12_outNow_22 : decode M_X12_outNow.2.1 22 = .ok (.iadd, 1) := by decide +kernel
theorem d_X12_outNow_23 : decode M_X12_outNow.2.1 23 = .ok (.iaload, 1) := by decide +kernel
theorem d_X12_outNow_24 : decode M_X12_outNow.2.1 24 = .ok (.ifCond .eq 7, 3) := by decide +kernel
theorem d_X12_outNow_27 : decode M_X12_outNow.2.1 27 = .ok (.iconst 1, 1) := by decide +kernel
theorem d_X12_outNow_28 : decode M_X12_outNow.2.1 28 = .ok (.goto 4, 3) := by decide +kernel
theorem d_X12_outNow_31 : decode M_X12_outNow.2.1 31 = .ok (.iconst 0, 1) := by decide +kernel
theorem d_X12_outNow_32 : decode M_X12_outNow.2.1 32 = .ok (.iadd, 1) := by decide +kernel
theorem d_X12_outNow_33 : decode M_X12_outNow.2.1 33 = .ok (.istore_n 1, 1) := by decide +kernel
theorem d_X12_outNow_34 : decode M_X12_outNow.2.1 34 = .ok (.iinc 2 1, 3) := by decide +kernel
theorem d_X12_outNow_37 : decode M_X12_outNow.2.1 37 = .ok (.goto (-33), 3) := by decide +kernel
theorem d_X12_outNow_40 : decode M_X12_outNow.2.1 40 = .ok (.iload_n 1, 1) := by decide +kernel
theorem d_X12_outNow_41 : decode M_X12_outNow.2.1 41 = .ok (.ireturn, 1) := by decide +kernel
set_option maxRecDepth 20000 in
theorem s_X12_outNow_0 {d : Nat}  {G : Mem} {Q : Int → Mem → Prop}  (h : Rn d M_X12_outNow zN 4 [(0, (2, 311)), (1, (0, 0)), (2, (0, 0))] [] G Q) : Rn d M_X12_outNow zN 0 [(0, (2, 311))] [] G Q := by
  refine r_iconst d_X12_outNow_0 ?_
  refine r_istore_n (ls1 := [(1, (0, 0)), (0, (2, 311))]) d_X12_outNow_1 rfl (by decide) rfl ?_
  refine r_iconst d_X12_outNow_2 ?_
  refine r_istore_n (ls1 := [(2, (0, 0)), (1, (0, 0)), (0, (2, 311))]) d_X12_outNow_3 rfl (by decide) rfl ?_
  exact Rn.sub [2, 1, 0] rfl h
set_option maxRecDepth 20000 in
theorem s_X12_outNow_4 {d : Nat} {x1 : Int} {x2 : Int} {G : Mem} {Q : Int → Mem → Prop}  (h : (InR x2) ∧ (InR (G 313 8)) ∧ (((G 313 8) ≤ x2) → Q x1 G) ∧ (¬ ((G 313 8) ≤ x2) → (0 ≤ (5 + x2) ∧ (5 + x2) < 116) ∧ ((InR (G 342 (5 + x2))) ∧ (((G 342 (5 + x2)) = 0) → Rn d M_X12_outNow zN 4 [(0, (2, 311)), (1, (0, (x1 + 0))), (2, (0, (x2 + 1)))] [] G Q) ∧ (¬ ((G 342 (5 + x2)) = 0) → Rn d M_X12_outNow zN 4 [(0, (2, 311)), (1, (0, (x1 + 1))), (2, (0, (x2 + 1)))] [] G Q)))) : Rn d M_X12_outNow zN 4 [(0, (2, 311)), (1, (0, x1)), (2, (0, x2))] [] G Q := by
  refine r_iload_n d_X12_outNow_4 2 rfl rfl ?_
  refine r_aload_n d_X12_outNow_5 0 rfl rfl ?_
  refine r_getL (v := 313) 12 10 10 rfl d_X12_outNow_6 fl_X12_13 (by decide) (bs_ob bs_12) (ly_12_10 bs_12).1 (ly_12_10 bs_12).2.1 ?_
  refine r_bipush d_X12_outNow_9 (by decide +kernel) ?_
  refine r_iaload d_X12_outNow_11 (ly_12_10 bs_12).2.2 (by decide) ?_
  obtain ⟨h1, h⟩ := h
  obtain ⟨h2, h⟩ := h
  refine r_icmp_ge (tgt := 40) d_X12_outNow_12 (by decide) h1 h2 (fun c3 => ?_) (fun c3 => ?_)
  · replace h := h.1 c3
    refine r_iload_n d_X12_outNow_40 1 rfl rfl ?_
    exact r_ireturn d_X12_outNow_41 rfl ⟨rfl, Nat.le_refl _, Nat.le_refl _⟩ h
  · replace h := h.2 c3
    refine r_iload_n d_X12_outNow_15 1 rfl rfl ?_
    refine r_aload_n d_X12_outNow_16 0 rfl rfl ?_
    refine r_getL (v := 342) 12 43 43 rfl d_X12_outNow_17 fl_X12_102 (by decide) (bs_ob bs_12) (ly_12_43 bs_12).1 (ly_12_43 bs_12).2.1 ?_
    refine r_iconst d_X12_outNow_20 ?_
    refine r_iload_n d_X12_outNow_21 2 rfl rfl ?_
    refine r_iadd d_X12_outNow_22 ?_
    obtain ⟨h4, h⟩ := h
    refine r_iaload d_X12_outNow_23 (ly_12_43 bs_12).2.2 h4 ?_
    obtain ⟨h5, h⟩ := h
    refine r_if_eq (tgt := 31) d_X12_outNow_24 (by decide) h5 (fun c6 => ?_) (fun c6 => ?_)
    · replace h := h.1 c6
      refine r_iconst d_X12_outNow_31 ?_
      refine r_iadd d_X12_outNow_32 ?_
      refine r_istore_n (ls1 := [(1, (0, (x1 + 0))), (0, (2, 311)), (2, (0, x2))]) d_X12_outNow_33 rfl (by decide) rfl ?_
      refine r_iinc (ls1 := [(2, (0, (x2 + 1))), (1, (0, (x1 + 0))), (0, (2, 311))]) d_X12_outNow_34 2 rfl (by decide) rfl ?_
      refine r_goto (tgt := 4) d_X12_outNow_37 (by decide) ?_
      exact Rn.sub [2, 1, 0] rfl h
    · replace h := h.2 c6
      refine r_iconst d_X12_outNow_27 ?_
      refine r_goto (tgt := 32) d_X12_outNow_28 (by decide) ?_
      refine r_iadd d_X12_outNow_32 ?_
      refine r_istore_n (ls1 := [(1, (0, (x1 + 1))), (0, (2, 311)), (2, (0, x2))]) d_X12_outNow_33 rfl (by decide) rfl ?_
      refine r_iinc (ls1 := [(2, (0, (x2 + 1))), (1, (0, (x1 + 1))), (0, (2, 311))]) d_X12_outNow_34 2 rfl (by decide) rfl ?_
      refine r_goto (tgt := 4) d_X12_outNow_37 (by decide) ?_
      exact Rn.sub [2, 1, 0] rfl h
theorem d_X12_go_0 : decode M_X12_go.2.1 0 = .ok (.aload_n 0, 1) := by decide +kernel
theorem d_X12_go_1 : decode M_X12_go.2.1 1 = .ok (.iconst 0, 1) := by decide +kernel
theorem d_X12_go_2 : decode M_X12_go.2.1 2 = .ok (.putfield 169, 3) := by decide +kernel
theorem d_X12_go_5 : decode M_X12_go.2.1 5 = .ok (.aload_n 0, 1) := by decide +kernel
theorem d_X12_go_6 : decode M_X12_go.2.1 6 = .ok (.iload_n 1, 1) := by decide +kernel
theorem d_X12_go_7 : decode M_X12_go.2.1 7 = .ok (.invokevirtual 404, 3) := by decide +kernel
theorem d_X12_go_10 : decode M_X12_go.2.1 10 = .ok (.ifCond .eq 45, 3) := by decide +kernel
theorem d_X12_go_13 : decode M_X12_go.2.1 13 = .ok (.aload_n 0, 1) := by decide +kernel
theorem d_X12_go_14 : decode M_X12_go.2.1 14 = .ok (.iload_n 2, 1) := by decide +kernel
theorem d_X12_go_15 : decode M_X12_go.2.1 15 = .ok (.iload_n 3, 1) := by decide +kernel
theorem d_X12_go_16 : decode M_X12_go.2.1 16 = .ok (.invokevirtual 437, 3) := by decide +kernel
theorem d_X12_go_19 : decode M_X12_go.2.1 19 = .ok (.ifCond .eq 36, 3) := by decide +kernel
theorem d_X12_go_22 : decode M_X12_go.2.1 22 = .ok (.aload_n 0, 1) := by decide +kernel
theorem d_X12_go_23 : decode M_X12_go.2.1 23 = .ok (.getfield 102, 3) := by decide +kernel
theorem d_X12_go_26 : decode M_X12_go.2.1 26 = .ok (.iconst 5, 1) := by decide +kernel
theorem d_X12_go_27 : decode M_X12_go.2.1 27 = .ok (.iload_n 1, 1) := by decide +kernel
theorem d_X12_go_28 : decode M_X12_go.2.1 28 = .ok (.iadd, 1) := by decide +kernel
theorem d_X12_go_29 : decode M_X12_go.2.1 29 = .ok (.iaload, 1) := by decide +kernel
theorem d_X12_go_30 : decode M_X12_go.2.1 30 = .ok (.ifCond .ne 25, 3) := by decide +kernel
theorem d_X12_go_33 : decode M_X12_go.2.1 33 = .ok (.aload_n 0, 1) := by decide +kernel
theorem d_X12_go_34 : decode M_X12_go.2.1 34 = .ok (.iload_n 1, 1) := by decide +kernel
theorem d_X12_go_35 : decode M_X12_go.2.1 35 = .ok (.invokevirtual 407, 3) := by decide +kernel
theorem d_X12_go_38 : decode M_X12_go.2.1 38 = .ok (.ifCond .ne 17, 3) := by decide +kernel
theorem d_X12_go_41 : decode M_X12_go.2.1 41 = .ok (.aload_n 0, 1) := by decide +kernel
theorem d_X12_go_42 : decode M_X12_go.2.1 42 = .ok (.aload_n 0, 1) := by decide +kernel
theorem d_X12_go_43 : decode M_X12_go.2.1 43 = .ok (.getfield 102, 3) := by decide +kernel
theorem d_X12_go_46 : decode M_X12_go.2.1 46 = .ok (.bipush 110, 2) := by decide +kernel
theorem d_X12_go_48 : decode M_X12_go.2.1 48 = .ok (.iaload, 1) := by decide +kernel
theorem d_X12_go_49 : decode M_X12_go.2.1 49 = .ok (.invokevirtual 416, 3) := by decide +kernel
theorem d_X12_go_52 : decode M_X12_go.2.1 52 = .ok (.ifCond .eq 5, 3) := by decide +kernel
theorem d_X12_go_55 : decode M_X12_go.2.1 55 = .ok (.iconst (-1), 1) := by decide +kernel
theorem d_X12_go_56 : decode M_X12_go.2.1 56 = .ok (.ireturn, 1) := by decide +kernel
theorem d_X12_go_57 : decode M_X12_go.2.1 57 = .ok (.aload_n 0, 1) := by decide +kernel
theorem d_X12_go_58 : decode M_X12_go.2.1 58 = .ok (.invokevirtual 440, 3) := by decide +kernel
theorem d_X12_go_61 : decode M_X12_go.2.1 61 = .ok (.aload_n 0, 1) := by decide +kernel
theorem d_X12_go_62 : decode M_X12_go.2.1 62 = .ok (.iload_n 1, 1) := by decide +kernel
theorem d_X12_go_63 : decode M_X12_go.2.1 63 = .ok (.iload_n 2, 1) := by decide +kernel
theorem d_X12_go_64 : decode M_X12_go.2.1 64 = .ok (.iload_n 3, 1) := by decide +kernel
theorem d_X12_go_65 : decode M_X12_go.2.1 65 = .ok (.iconst 0, 1) := by decide +kernel
theorem d_X12_go_66 : decode M_X12_go.2.1 66 = .ok (.invokevirtual 443, 3) := by decide +kernel
theorem d_X12_go_69 : decode M_X12_go.2.1 69 = .ok (.ifCond .ne 5, 3) := by decide +kernel
theorem d_X12_go_72 : decode M_X12_go.2.1 72 = .ok (.iconst 0, 1) := by decide +kernel
theorem d_X12_go_73 : decode M_X12_go.2.1 73 = .ok (.ireturn, 1) := by decide +kernel
theorem d_X12_go_74 : decode M_X12_go.2.1 74 = .ok (.aload_n 0, 1) := by decide +kernel
theorem d_X12_go_75 : decode M_X12_go.2.1 75 = .ok (.getfield 102, 3) := by decide +kernel
theorem d_X12_go_78 : decode M_X12_go.2.1 78 = .ok (.iconst 5, 1) := by decide +kernel
theorem d_X12_go_79 : decode M_X12_go.2.1 79 = .ok (.iload_n 1, 1) := by decide +kernel
theorem d_X12_go_80 : decode M_X12_go.2.1 80 = .ok (.iadd, 1) := by decide +kernel
theorem d_X12_go_81 : decode M_X12_go.2.1 81 = .ok (.iconst 1, 1) := by decide +kernel
theorem d_X12_go_82 : decode M_X12_go.2.1 82 = .ok (.aload_n 0, 1) := by decide +kernel
theorem d_X12_go_83 : decode M_X12_go.2.1 83 = .ok (.aload_n 0, 1) := by decide +kernel
theorem d_X12_go_84 : decode M_X12_go.2.1 84 = .ok (.getfield 102, 3) := by decide +kernel
theorem d_X12_go_87 : decode M_X12_go.2.1 87 = .ok (.bipush 110, 2) := by decide +kernel
theorem d_X12_go_89 : decode M_X12_go.2.1 89 = .ok (.iaload, 1) := by decide +kernel
theorem d_X12_go_90 : decode M_X12_go.2.1 90 = .ok (.aload_n 0, 1) := by decide +kernel
theorem d_X12_go_91 : decode M_X12_go.2.1 91 = .ok (.invokevirtual 447, 3) := by decide +kernel
theorem d_X12_go_94 : decode M_X12_go.2.1 94 = .ok (.invokevirtual 450, 3) := by decide +kernel
theorem d_X12_go_97 : decode M_X12_go.2.1 97 = .ok (.iadd, 1) := by decide +kernel
theorem d_X12_go_98 : decode M_X12_go.2.1 98 = .ok (.iastore, 1) := by decide +kernel
theorem d_X12_go_99 : decode M_X12_go.2.1 99 = .ok (.aload_n 0, 1) := by decide +kernel
theorem d_X12_go_100 : decode M_X12_go.2.1 100 = .ok (.getfield 102, 3) := by decide +kernel
theorem d_X12_go_103 : decode M_X12_go.2.1 103 = .ok (.iload_n 1, 1) := by decide +kernel
theorem d_X12_go_104 : decode M_X12_go.2.1 104 = .ok (.iconst 0, 1) := by decide +kernel
theorem d_X12_go_105 : decode M_X12_go.2.1 105 = .ok (.iastore, 1) := by decide +kernel
theorem d_X12_go_106 : decode M_X12_go.2.1 106 = .ok (.iconst 1, 1) := by decide +kernel
theorem d_X12_go_107 : decode M_X12_go.2.1 107 = .ok (.ireturn, 1) := by decide +kernel
set_option maxRecDepth 20000 in
theorem s_X12_go_0 {d : Nat} {p0 : Int} {p1 : Int} {p2 : Int} {G : Mem} {Q : Int → Mem → Prop}  (h : (∀ G1 : Mem, G1 = st G 311 0 0 → Ct d M_X12_isSitter NT 0 0 (some lay) [(2, 311), (0, p0)] G1 (fun r3 G2 => (InR r3) ∧ ((r3 = 0) → Q (-1) G2) ∧ (¬ (r3 = 0) → Ct d M_X12_areWays NT 0 0 (some lay) [(2, 311), (0, p1), (0, p2)] G2 (fun r7 G6 => (InR r7) ∧ ((r7 = 0) → Q (-1) G6) ∧ (¬ (r7 = 0) → (0 ≤ (5 + p0) ∧ (5 + p0) < 116) ∧ ((InR (G6 342 (5 + p0))) ∧ (((G6 342 (5 + p0)) ≠ 0) → Q (-1) G6) ∧ (¬ ((G6 342 (5 + p0)) ≠ 0) → Ct d M_X12_isAsleep NT 0 0 (some lay) [(2, 311), (0, p0)] G6 (fun r14 G13 => (InR r14) ∧ ((r14 ≠ 0) → Q (-1) G13) ∧ (¬ (r14 ≠ 0) → Ct d M_X12_isShut NT 0 0 (some lay) [(2, 311), (0, (G13 342 110))] G13 (fun r18 G17 => (InR r18) ∧ ((r18 = 0) → Ct d M_X12_keeps NT 0 0 (some lay) [(2, 311)] G17 (fun r22 G21 => Ct d M_X12_passesBy NT 0 0 (some lay) [(2, 311), (0, p0), (0, p1), (0, p2), (0, 0)] G21 (fun r24 G23 => (InR r24) ∧ ((r24 ≠ 0) → Ct d M_X12_outNow NT 0 0 (some lay) [(2, 311)] G23 (fun r28 G27 => Ct d M_X12_queueAt NT 0 0 (some lay) [(2, 311), (0, (G23 342 110)), (0, r28)] G27 (fun r30 G29 => (∀ G31 : Mem, G31 = st G29 342 (5 + p0) (1 + r30) → (0 ≤ p0 ∧ p0 < 116) ∧ (∀ G33 : Mem, G33 = st G31 342 p0 0 → Q 1 G33))))) ∧ (¬ (r24 ≠ 0) → Q 0 G23)))) ∧ (¬ (r18 = 0) → Q (-1) G17)))))))))))) : Rn (d + 1) M_X12_go zN 0 [(0, (2, 311)), (1, (0, p0)), (2, (0, p1)), (3, (0, p2))] [] G Q := by
  refine r_aload_n d_X12_go_0 0 rfl rfl ?_
  refine r_iconst d_X12_go_1 ?_
  obtain ⟨G1, eG1⟩ : ∃ y : Mem, y = st G 311 0 0 := ⟨_, rfl⟩
  replace h := h G1 eG1
  refine r_putI 12 0 0 rfl d_X12_go_2 fl_X12_169 (by decide) nofin_12_0 (bs_ob bs_12) ?_
  rw [← eG1]
  refine r_aload_n d_X12_go_5 0 rfl rfl ?_
  refine r_iload_n d_X12_go_6 1 rfl rfl ?_
  refine r_callV0 (M' := M_X12_isSitter) (ci := 12) [(0, p0)] d_X12_go_7 cl_X12_404 rfl (Nat.le_of_ble_eq_true rfl) (by decide) rfl (bs_ob bs_12) ?_
  refine Ct.mono h (fun r3 G2 h => ?_)
  show Rn _ M_X12_go zN 10 [(0, (2, 311)), (1, (0, p0)), (2, (0, p1)), (3, (0, p2))] [(0, r3)] G2 Q
  obtain ⟨h4, h⟩ := h
  refine r_if_eq (tgt := 55) d_X12_go_10 (by decide) h4 (fun c5 => ?_) (fun c5 => ?_)
  · replace h := h.1 c5
    refine r_iconst d_X12_go_55 ?_
    exact r_ireturn d_X12_go_56 rfl ⟨rfl, Nat.le_refl _, Nat.le_refl _⟩ h
  · replace h := h.2 c5
    refine r_aload_n d_X12_go_13 0 rfl rfl ?_
    refine r_iload_n d_X12_go_14 2 rfl rfl ?_
    refine r_iload_n d_X12_go_15 3 rfl rfl ?_
    refine r_callV0 (M' := M_X12_areWays) (ci := 12) [(0, p1), (0, p2)] d_X12_go_16 cl_X12_437 rfl (Nat.le_of_ble_eq_true rfl) (by decide) rfl (bs_ob bs_12) ?_
    refine Ct.mono h (fun r7 G6 h => ?_)
    show Rn _ M_X12_go zN 19 [(0, (2, 311)), (1, (0, p0)), (2, (0, p1)), (3, (0, p2))] [(0, r7)] G6 Q
    obtain ⟨h8, h⟩ := h
    refine r_if_eq (tgt := 55) d_X12_go_19 (by decide) h8 (fun c9 => ?_) (fun c9 => ?_)
    · replace h := h.1 c9
      refine r_iconst d_X12_go_55 ?_
      exact r_ireturn d_X12_go_56 rfl ⟨rfl, Nat.le_refl _, Nat.le_refl _⟩ h
    · replace h := h.2 c9
      refine r_aload_n d_X12_go_22 0 rfl rfl ?_
      refine r_getL (v := 342) 12 43 43 rfl d_X12_go_23 fl_X12_102 (by decide) (bs_ob bs_12) (ly_12_43 bs_12).1 (ly_12_43 bs_12).2.1 ?_
      refine r_iconst d_X12_go_26 ?_
      refine r_iload_n d_X12_go_27 1 rfl rfl ?_
      refine r_iadd d_X12_go_28 ?_
      obtain ⟨h10, h⟩ := h
      refine r_iaload d_X12_go_29 (ly_12_43 bs_12).2.2 h10 ?_
      obtain ⟨h11, h⟩ := h
      refine r_if_ne (tgt := 55) d_X12_go_30 (by decide) h11 (fun c12 => ?_) (fun c12 => ?_)
      · replace h := h.1 c12
        refine r_iconst d_X12_go_55 ?_
        exact r_ireturn d_X12_go_56 rfl ⟨rfl, Nat.le_refl _, Nat.le_refl _⟩ h
      · replace h := h.2 c12
        refine r_aload_n d_X12_go_33 0 rfl rfl ?_
        refine r_iload_n d_X12_go_34 1 rfl rfl ?_
        refine r_callV0 (M' := M_X12_isAsleep) (ci := 12) [(0, p0)] d_X12_go_35 cl_X12_407 rfl (Nat.le_of_ble_eq_true rfl) (by decide) rfl (bs_ob bs_12) ?_
        refine Ct.mono h (fun r14 G13 h => ?_)
        show Rn _ M_X12_go zN 38 [(0, (2, 311)), (1, (0, p0)), (2, (0, p1)), (3, (0, p2))] [(0, r14)] G13 Q
        obtain ⟨h15, h⟩ := h
        refine r_if_ne (tgt := 55) d_X12_go_38 (by decide) h15 (fun c16 => ?_) (fun c16 => ?_)
        · replace h := h.1 c16
          refine r_iconst d_X12_go_55 ?_
          exact r_ireturn d_X12_go_56 rfl ⟨rfl, Nat.le_refl _, Nat.le_refl _⟩ h
        · replace h := h.2 c16
          refine r_aload_n d_X12_go_41 0 rfl rfl ?_
          refine r_aload_n d_X12_go_42 0 rfl rfl ?_
          refine r_getL (v := 342) 12 43 43 rfl d_X12_go_43 fl_X12_102 (by decide) (bs_ob bs_12) (ly_12_43 bs_12).1 (ly_12_43 bs_12).2.1 ?_
          refine r_bipush d_X12_go_46 (by decide +kernel) ?_
          refine r_iaload d_X12_go_48 (ly_12_43 bs_12).2.2 (by decide) ?_
          refine r_callV0 (M' := M_X12_isShut) (ci := 12) [(0, (G13 342 110))] d_X12_go_49 cl_X12_416 rfl (Nat.le_of_ble_eq_true rfl) (by decide) rfl (bs_ob bs_12) ?_
          refine Ct.mono h (fun r18 G17 h => ?_)
          show Rn _ M_X12_go zN 52 [(0, (2, 311)), (1, (0, p0)), (2, (0, p1)), (3, (0, p2))] [(0, r18)] G17 Q
          obtain ⟨h19, h⟩ := h
          refine r_if_eq (tgt := 57) d_X12_go_52 (by decide) h19 (fun c20 => ?_) (fun c20 => ?_)
          · replace h := h.1 c20
            refine r_aload_n d_X12_go_57 0 rfl rfl ?_
            refine r_callV0 (M' := M_X12_keeps) (ci := 12) [] d_X12_go_58 cl_X12_440 rfl (Nat.le_of_ble_eq_true rfl) (by decide) rfl (bs_ob bs_12) ?_
            refine Ct.mono h (fun r22 G21 h => ?_)
            show Rn _ M_X12_go zN 61 [(0, (2, 311)), (1, (0, p0)), (2, (0, p1)), (3, (0, p2))] [] G21 Q
            refine r_aload_n d_X12_go_61 0 rfl rfl ?_
            refine r_iload_n d_X12_go_62 1 rfl rfl ?_
            refine r_iload_n d_X12_go_63 2 rfl rfl ?_
            refine r_iload_n d_X12_go_64 3 rfl rfl ?_
            refine r_iconst d_X12_go_65 ?_
            refine r_callV0 (M' := M_X12_passesBy) (ci := 12) [(0, p0), (0, p1), (0, p2), (0, 0)] d_X12_go_66 cl_X12_443 rfl (Nat.le_of_ble_eq_true rfl) (by decide) rfl (bs_ob bs_12) ?_
            refine Ct.mono h (fun r24 G23 h => ?_)
            show Rn _ M_X12_go zN 69 [(0, (2, 311)), (1, (0, p0)), (2, (0, p1)), (3, (0, p2))] [(0, r24)] G23 Q
            obtain ⟨h25, h⟩ := h
            refine r_if_ne (tgt := 74) d_X12_go_69 (by decide) h25 (fun c26 => ?_) (fun c26 => ?_)
            · replace h := h.1 c26
              refine r_aload_n d_X12_go_74 0 rfl rfl ?_
              refine r_getL (v := 342) 12 43 43 rfl d_X12_go_75 fl_X12_102 (by decide) (bs_ob bs_12) (ly_12_43 bs_12).1 (ly_12_43 bs_12).2.1 ?_
              refine r_iconst d_X12_go_78 ?_
              refine r_iload_n d_X12_go_79 1 rfl rfl ?_
              refine r_iadd d_X12_go_80 ?_
              refine r_iconst d_X12_go_81 ?_
              refine r_aload_n d_X12_go_82 0 rfl rfl ?_
              refine r_aload_n d_X12_go_83 0 rfl rfl ?_
              refine r_getL (v := 342) 12 43 43 rfl d_X12_go_84 fl_X12_102 (by decide) (bs_ob bs_12) (ly_12_43 bs_12).1 (ly_12_43 bs_12).2.1 ?_
              refine r_bipush d_X12_go_87 (by decide +kernel) ?_
              refine r_iaload d_X12_go_89 (ly_12_43 bs_12).2.2 (by decide) ?_
              refine r_aload_n d_X12_go_90 0 rfl rfl ?_
              refine r_callV0 (M' := M_X12_outNow) (ci := 12) [] d_X12_go_91 cl_X12_447 rfl (Nat.le_of_ble_eq_true rfl) (by decide) rfl (bs_ob bs_12) ?_
              refine Ct.mono h (fun r28 G27 h => ?_)
              show Rn _ M_X12_go zN 94 [(0, (2, 311)), (1, (0, p0)), (2, (0, p1)), (3, (0, p2))] [(0, r28), (0, (G23 342 110)), (2, 311), (0, 1), (0, (5 + p0)), (2, 342)] G27 Q
              refine r_callV0 (M' := M_X12_queueAt) (ci := 12) [(0, (G23 342 110)), (0, r28)] d_X12_go_94 cl_X12_450 rfl (Nat.le_of_ble_eq_true rfl) (by decide) rfl (bs_ob bs_12) ?_
              refine Ct.mono h (fun r30 G29 h => ?_)
              show Rn _ M_X12_go zN 97 [(0, (2, 311)), (1, (0, p0)), (2, (0, p1)), (3, (0, p2))] [(0, r30), (0, 1), (0, (5 + p0)), (2, 342)] G29 Q
              refine r_iadd d_X12_go_97 ?_
              obtain ⟨G31, eG31⟩ : ∃ y : Mem, y = st G29 342 (5 + p0) (1 + r30) := ⟨_, rfl⟩
              replace h := h G31 eG31
              refine r_iastore d_X12_go_98 (ly_12_43 bs_12).2.2 h10 ?_
              rw [← eG31]
              refine r_aload_n d_X12_go_99 0 rfl rfl ?_
              refine r_getL (v := 342) 12 43 43 rfl d_X12_go_100 fl_X12_102 (by decide) (bs_ob bs_12) (ly_12_43 bs_12).1 (ly_12_43 bs_12).2.1 ?_
              refine r_iload_n d_X12_go_103 1 rfl rfl ?_
              refine r_iconst d_X12_go_104 ?_
              obtain ⟨h32, h⟩ := h
              obtain ⟨G33, eG33⟩ : ∃ y : Mem, y = st G31 342 p0 0 := ⟨_, rfl⟩
              replace h := h G33 eG33
              refine r_iastore d_X12_go_105 (ly_12_43 bs_12).2.2 h32 ?_
              rw [← eG33]
              refine r_iconst d_X12_go_106 ?_
              exact r_ireturn d_X12_go_107 rfl ⟨rfl, Nat.le_refl _, Nat.le_refl _⟩ h
            · replace h := h.2 c26
              refine r_iconst d_X12_go_72 ?_
              exact r_ireturn d_X12_go_73 rfl ⟨rfl, Nat.le_refl _, Nat.le_refl _⟩ h
          · replace h := h.2 c20
            refine r_iconst d_X12_go_55 ?_
            exact r_ireturn d_X12_go_56 rfl ⟨rfl, Nat.le_refl _, Nat.le_refl _⟩ h
theorem d_X12_back_0 : decode M_X12_back.2.1 0 = .ok (.aload_n 0, 1) := by decide +kernel
theorem d_X12_back_1 : decode M_X12_back.2.1 1 = .ok (.iconst 0, 1) := by decide +kernel
theorem d_X12_back_2 : decode M_X12_back.2.1 2 = .ok (.putfield 169, 3) := by decide +kernel
theorem d_X12_back_5 : decode M_X12_back.2.1 5 = .ok (.aload_n 0, 1) := by decide +kernel
theorem d_X12_back_6 : decode M_X12_back.2.1 6 = .ok (.iload_n 1, 1) := by decide +kernel
theorem d_X12_back_7 : decode M_X12_back.2.1 7 = .ok (.invokevirtual 404, 3) := by decide +kernel
theorem d_X12_back_10 : decode M_X12_back.2.1 10 = .ok (.ifCond .eq 38, 3) := by decide +kernel
theorem d_X12_back_13 : decode M_X12_back.2.1 13 = .ok (.aload_n 0, 1) := by decide +kernel
theorem d_X12_back_14 : decode M_X12_back.2.1 14 = .ok (.iload_n 2, 1) := by decide +kernel
theorem d_X12_back_15 : decode M_X12_back.2.1 15 = .ok (.iload_n 3, 1) := by decide +kernel
theorem d_X12_back_16 : decode M_X12_back.2.1 16 = .ok (.invokevirtual 437, 3) := by decide +kernel
theorem d_X12_back_19 : decode M_X12_back.2.1 19 = .ok (.ifCond .eq 29, 3) := by decide +kernel
theorem d_X12_back_22 : decode M_X12_back.2.1 22 = .ok (.aload_n 0, 1) := by decide +kernel
theorem d_X12_back_23 : decode M_X12_back.2.1 23 = .ok (.getfield 102, 3) := by decide +kernel
theorem d_X12_back_26 : decode M_X12_back.2.1 26 = .ok (.iconst 5, 1) := by decide +kernel
theorem d_X12_back_27 : decode M_X12_back.2.1 27 = .ok (.iload_n 1, 1) := by decide +kernel
theorem d_X12_back_28 : decode M_X12_back.2.1 28 = .ok (.iadd, 1) := by decide +kernel
theorem d_X12_back_29 : decode M_X12_back.2.1 29 = .ok (.iaload, 1) := by decide +kernel
theorem d_X12_back_30 : decode M_X12_back.2.1 30 = .ok (.iconst (-1), 1) := by decide +kernel
theorem d_X12_back_31 : decode M_X12_back.2.1 31 = .ok (.if_icmp .ne 17, 3) := by decide +kernel
theorem d_X12_back_34 : decode M_X12_back.2.1 34 = .ok (.aload_n 0, 1) := by decide +kernel
theorem d_X12_back_35 : decode M_X12_back.2.1 35 = .ok (.aload_n 0, 1) := by decide +kernel
theorem d_X12_back_36 : decode M_X12_back.2.1 36 = .ok (.getfield 102, 3) := by decide +kernel
theorem d_X12_back_39 : decode M_X12_back.2.1 39 = .ok (.bipush 110, 2) := by decide +kernel
theorem d_X12_back_41 : decode M_X12_back.2.1 41 = .ok (.iaload, 1) := by decide +kernel
theorem d_X12_back_42 : decode M_X12_back.2.1 42 = .ok (.invokevirtual 416, 3) := by decide +kernel
theorem d_X12_back_45 : decode M_X12_back.2.1 45 = .ok (.ifCond .eq 5, 3) := by decide +kernel
theorem d_X12_back_48 : decode M_X12_back.2.1 48 = .ok (.iconst (-1), 1) := by decide +kernel
theorem d_X12_back_49 : decode M_X12_back.2.1 49 = .ok (.ireturn, 1) := by decide +kernel
theorem d_X12_back_50 : decode M_X12_back.2.1 50 = .ok (.aload_n 0, 1) := by decide +kernel
theorem d_X12_back_51 : decode M_X12_back.2.1 51 = .ok (.invokevirtual 440, 3) := by decide +kernel
theorem d_X12_back_54 : decode M_X12_back.2.1 54 = .ok (.aload_n 0, 1) := by decide +kernel
theorem d_X12_back_55 : decode M_X12_back.2.1 55 = .ok (.iload_n 1, 1) := by decide +kernel
theorem d_X12_back_56 : decode M_X12_back.2.1 56 = .ok (.iload_n 2, 1) := by decide +kernel
theorem d_X12_back_57 : decode M_X12_back.2.1 57 = .ok (.iload_n 3, 1) := by decide +kernel
theorem d_X12_back_58 : decode M_X12_back.2.1 58 = .ok (.iconst 1, 1) := by decide +kernel
theorem d_X12_back_59 : decode M_X12_back.2.1 59 = .ok (.invokevirtual 443, 3) := by decide +kernel
theorem d_X12_back_62 : decode M_X12_back.2.1 62 = .ok (.ifCond .ne 5, 3) := by decide +kernel
theorem d_X12_back_65 : decode M_X12_back.2.1 65 = .ok (.iconst 0, 1) := by decide +kernel
theorem d_X12_back_66 : decode M_X12_back.2.1 66 = .ok (.ireturn, 1) := by decide +kernel
theorem d_X12_back_67 : decode M_X12_back.2.1 67 = .ok (.aload_n 0, 1) := by decide +kernel
theorem d_X12_back_68 : decode M_X12_back.2.1 68 = .ok (.getfield 102, 3) := by decide +kernel
theorem d_X12_back_71 : decode M_X12_back.2.1 71 = .ok (.iconst 5, 1) := by decide +kernel
theorem d_X12_back_72 : decode M_X12_back.2.1 72 = .ok (.iload_n 1, 1) := by decide +kernel
theorem d_X12_back_73 : decode M_X12_back.2.1 73 = .ok (.iadd, 1) := by decide +kernel
theorem d_X12_back_74 : decode M_X12_back.2.1 74 = .ok (.iconst 0, 1) := by decide +kernel
theorem d_X12_back_75 : decode M_X12_back.2.1 75 = .ok (.iastore, 1) := by decide +kernel
theorem d_X12_back_76 : decode M_X12_back.2.1 76 = .ok (.iconst 1, 1) := by decide +kernel
theorem d_X12_back_77 : decode M_X12_back.2.1 77 = .ok (.ireturn, 1) := by decide +kernel
set_option maxRecDepth 20000 in
theorem s_X12_back_0 {d : Nat} {p0 : Int} {p1 : Int} {p2 : Int} {G : Mem} {Q : Int → Mem → Prop}  (h : (∀ G1 : Mem, G1 = st G 311 0 0 → Ct d M_X12_isSitter NT 0 0 (some lay) [(2, 311), (0, p0)] G1 (fun r3 G2 => (InR r3) ∧ ((r3 = 0) → Q (-1) G2) ∧ (¬ (r3 = 0) → Ct d M_X12_areWays NT 0 0 (some lay) [(2, 311), (0, p1), (0, p2)] G2 (fun r7 G6 => (InR r7) ∧ ((r7 = 0) → Q (-1) G6) ∧ (¬ (r7 = 0) → (0 ≤ (5 + p0) ∧ (5 + p0) < 116) ∧ ((InR (G6 342 (5 + p0))) ∧ (((G6 342 (5 + p0)) ≠ (-1)) → Q (-1) G6) ∧ (¬ ((G6 342 (5 + p0)) ≠ (-1)) → Ct d M_X12_isShut NT 0 0 (some lay) [(2, 311), (0, (G6 342 110))] G6 (fun r14 G13 => (InR r14) ∧ ((r14 = 0) → Ct d M_X12_keeps NT 0 0 (some lay) [(2, 311)] G13 (fun r18 G17 => Ct d M_X12_passesBy NT 0 0 (some lay) [(2, 311), (0, p0), (0, p1), (0, p2), (0, 1)] G17 (fun r20 G19 => (InR r20) ∧ ((r20 ≠ 0) → (∀ G23 : Mem, G23 = st G19 342 (5 + p0) 0 → Q 1 G23)) ∧ (¬ (r20 ≠ 0) → Q 0 G19)))) ∧ (¬ (r14 = 0) → Q (-1) G13)))))))))) : Rn (d + 1) M_X12_back zN 0 [(0, (2, 311)), (1, (0, p0)), (2, (0, p1)), (3, (0, p2))] [] G Q := by
  refine r_aload_n d_X12_back_0 0 rfl rfl ?_
  refine r_iconst d_X12_back_1 ?_
  obtain ⟨G1, eG1⟩ : ∃ y : Mem, y = st G 311 0 0 := ⟨_, rfl⟩
  replace h := h G1 eG1
  refine r_putI 12 0 0 rfl d_X12_back_2 fl_X12_169 (by decide) nofin_12_0 (bs_ob bs_12) ?_
  rw [← eG1]
  refine r_aload_n d_X12_back_5 0 rfl rfl ?_
  refine r_iload_n d_X12_back_6 1 rfl rfl ?_
  refine r_callV0 (M' := M_X12_isSitter) (ci := 12) [(0, p0)] d_X12_back_7 cl_X12_404 rfl (Nat.le_of_ble_eq_true rfl) (by decide) rfl (bs_ob bs_12) ?_
  refine Ct.mono h (fun r3 G2 h => ?_)
  show Rn _ M_X12_back zN 10 [(0, (2, 311)), (1, (0, p0)), (2, (0, p1)), (3, (0, p2))] [(0, r3)] G2 Q
  obtain ⟨h4, h⟩ := h
  refine r_if_eq (tgt := 48) d_X12_back_10 (by decide) h4 (fun c5 => ?_) (fun c5 => ?_)
  · replace h := h.1 c5
    refine r_iconst d_X12_back_48 ?_
    exact r_ireturn d_X12_back_49 rfl ⟨rfl, Nat.le_refl _, Nat.le_refl _⟩ h
  · replace h := h.2 c5
    refine r_aload_n d_X12_back_13 0 rfl rfl ?_
    refine r_iload_n d_X12_back_14 2 rfl rfl ?_
    refine r_iload_n d_X12_back_15 3 rfl rfl ?_
    refine r_callV0 (M' := M_X12_areWays) (ci := 12) [(0, p1), (0, p2)] d_X12_back_16 cl_X12_437 rfl (Nat.le_of_ble_eq_true rfl) (by decide) rfl (bs_ob bs_12) ?_
    refine Ct.mono h (fun r7 G6 h => ?_)
    show Rn _ M_X12_back zN 19 [(0, (2, 311)), (1, (0, p0)), (2, (0, p1)), (3, (0, p2))] [(0, r7)] G6 Q
    obtain ⟨h8, h⟩ := h
    refine r_if_eq (tgt := 48) d_X12_back_19 (by decide) h8 (fun c9 => ?_) (fun c9 => ?_)
    · replace h := h.1 c9
      refine r_iconst d_X12_back_48 ?_
      exact r_ireturn d_X12_back_49 rfl ⟨rfl, Nat.le_refl _, Nat.le_refl _⟩ h
    · replace h := h.2 c9
      refine r_aload_n d_X12_back_22 0 rfl rfl ?_
      refine r_getL (v := 342) 12 43 43 rfl d_X12_back_23 fl_X12_102 (by decide) (bs_ob bs_12) (ly_12_43 bs_12).1 (ly_12_43 bs_12).2.1 ?_
      refine r_iconst d_X12_back_26 ?_
      refine r_iload_n d_X12_back_27 1 rfl rfl ?_
      refine r_iadd d_X12_back_28 ?_
      obtain ⟨h10, h⟩ := h
      refine r_iaload d_X12_back_29 (ly_12_43 bs_12).2.2 h10 ?_
      refine r_iconst d_X12_back_30 ?_
      obtain ⟨h11, h⟩ := h
      refine r_icmp_ne (tgt := 48) d_X12_back_31 (by decide) h11 ⟨by decide, by decide⟩ (fun c12 => ?_) (fun c12 => ?_)
      · replace h := h.1 c12
        refine r_iconst d_X12_back_48 ?_
        exact r_ireturn d_X12_back_49 rfl ⟨rfl, Nat.le_refl _, Nat.le_refl _⟩ h
      · replace h := h.2 c12
        refine r_aload_n d_X12_back_34 0 rfl rfl ?_
        refine r_aload_n d_X12_back_35 0 rfl rfl ?_
        refine r_getL (v := 342) 12 43 43 rfl d_X12_back_36 fl_X12_102 (by decide) (bs_ob bs_12) (ly_12_43 bs_12).1 (ly_12_43 bs_12).2.1 ?_
        refine r_bipush d_X12_back_39 (by decide +kernel) ?_
        refine r_iaload d_X12_back_41 (ly_12_43 bs_12).2.2 (by decide) ?_
        refine r_callV0 (M' := M_X12_isShut) (ci := 12) [(0, (G6 342 110))] d_X12_back_42 cl_X12_416 rfl (Nat.le_of_ble_eq_true rfl) (by decide) rfl (bs_ob bs_12) ?_
        refine Ct.mono h (fun r14 G13 h => ?_)
        show Rn _ M_X12_back zN 45 [(0, (2, 311)), (1, (0, p0)), (2, (0, p1)), (3, (0, p2))] [(0, r14)] G13 Q
        obtain ⟨h15, h⟩ := h
        refine r_if_eq (tgt := 50) d_X12_back_45 (by decide) h15 (fun c16 => ?_) (fun c16 => ?_)
        · replace h := h.1 c16
          refine r_aload_n d_X12_back_50 0 rfl rfl ?_
          refine r_callV0 (M' := M_X12_keeps) (ci := 12) [] d_X12_back_51 cl_X12_440 rfl (Nat.le_of_ble_eq_true rfl) (by decide) rfl (bs_ob bs_12) ?_
          refine Ct.mono h (fun r18 G17 h => ?_)
          show Rn _ M_X12_back zN 54 [(0, (2, 311)), (1, (0, p0)), (2, (0, p1)), (3, (0, p2))] [] G17 Q
          refine r_aload_n d_X12_back_54 0 rfl rfl ?_
          refine r_iload_n d_X12_back_55 1 rfl rfl ?_
          refine r_iload_n d_X12_back_56 2 rfl rfl ?_
          refine r_iload_n d_X12_back_57 3 rfl rfl ?_
          refine r_iconst d_X12_back_58 ?_
          refine r_callV0 (M' := M_X12_passesBy) (ci := 12) [(0, p0), (0, p1), (0, p2), (0, 1)] d_X12_back_59 cl_X12_443 rfl (Nat.le_of_ble_eq_true rfl) (by decide) rfl (bs_ob bs_12) ?_
          refine Ct.mono h (fun r20 G19 h => ?_)
          show Rn _ M_X12_back zN 62 [(0, (2, 311)), (1, (0, p0)), (2, (0, p1)), (3, (0, p2))] [(0, r20)] G19 Q
          obtain ⟨h21, h⟩ := h
          refine r_if_ne (tgt := 67) d_X12_back_62 (by decide) h21 (fun c22 => ?_) (fun c22 => ?_)
          · replace h := h.1 c22
            refine r_aload_n d_X12_back_67 0 rfl rfl ?_
            refine r_getL (v := 342) 12 43 43 rfl d_X12_back_68 fl_X12_102 (by decide) (bs_ob bs_12) (ly_12_43 bs_12).1 (ly_12_43 bs_12).2.1 ?_
            refine r_iconst d_X12_back_71 ?_
            refine r_iload_n d_X12_back_72 1 rfl rfl ?_
            refine r_iadd d_X12_back_73 ?_
            refine r_iconst d_X12_back_74 ?_
            obtain ⟨G23, eG23⟩ : ∃ y : Mem, y = st G19 342 (5 + p0) 0 := ⟨_, rfl⟩
            replace h := h G23 eG23
            refine r_iastore d_X12_back_75 (ly_12_43 bs_12).2.2 h10 ?_
            rw [← eG23]
            refine r_iconst d_X12_back_76 ?_
            exact r_ireturn d_X12_back_77 rfl ⟨rfl, Nat.le_refl _, Nat.le_refl _⟩ h
          · replace h := h.2 c22
            refine r_iconst d_X12_back_65 ?_
            exact r_ireturn d_X12_back_66 rfl ⟨rfl, Nat.le_refl _, Nat.le_refl _⟩ h
        · replace h := h.2 c16
          refine r_iconst d_X12_back_48 ?_
          exact r_ireturn d_X12_back_49 rfl ⟨rfl, Nat.le_refl _, Nat.le_refl _⟩ h
theorem d_X12_undo_0 : decode M_X12_undo.2.1 0 = .ok (.aload_n 0, 1) := by decide +kernel
theorem d_X12_undo_1 : decode M_X12_undo.2.1 1 = .ok (.iconst 0, 1) := by decide +kernel
theorem d_X12_undo_2 : decode M_X12_undo.2.1 2 = .ok (.putfield 169, 3) := by decide +kernel
theorem d_X12_undo_5 : decode M_X12_undo.2.1 5 = .ok (.aload_n 0, 1) := by decide +kernel
theorem d_X12_undo_6 : decode M_X12_undo.2.1 6 = .ok (.getfield 377, 3) := by decide +kernel
theorem d_X12_undo_9 : decode M_X12_undo.2.1 9 = .ok (.ifCond .ne 5, 3) := by decide +kernel
theorem d_X12_undo_12 : decode M_X12_undo.2.1 12 = .ok (.iconst 0, 1) := by decide +kernel
theorem d_X12_undo_13 : decode M_X12_undo.2.1 13 = .ok (.ireturn, 1) := by decide +kernel
theorem d_X12_undo_14 : decode M_X12_undo.2.1 14 = .ok (.aload_n 0, 1) := by decide +kernel
theorem d_X12_undo_15 : decode M_X12_undo.2.1 15 = .ok (.dup, 1) := by decide +kernel
theorem d_X12_undo_16 : decode M_X12_undo.2.1 16 = .ok (.getfield 377, 3) := by decide +kernel
theorem d_X12_undo_19 : decode M_X12_undo.2.1 19 = .ok (.iconst 1, 1) := by decide +kernel
theorem d_X12_undo_20 : decode M_X12_undo.2.1 20 = .ok (.isub, 1) := by decide +kernel
theorem d_X12_undo_21 : decode M_X12_undo.2.1 21 = .ok (.putfield 377, 3) := by decide +kernel
theorem d_X12_undo_24 : decode M_X12_undo.2.1 24 = .ok (.iconst 0, 1) := by decide +kernel
theorem d_X12_undo_25 : decode M_X12_undo.2.1 25 = .ok (.istore_n 1, 1) := by decide +kernel
theorem d_X12_undo_26 : decode M_X12_undo.2.1 26 = .ok (.iload_n 1, 1) := by decide +kernel
theorem d_X12_undo_27 : decode M_X12_undo.2.1 27 = .ok (.bipush 116, 2) := by decide +kernel
theorem d_X12_undo_29 : decode M_X12_undo.2.1 29 = .ok (.if_icmp .ge 41, 3) := by decide +kernel
theorem d_X12_undo_32 : decode M_X12_undo.2.1 32 = .ok (.iload_n 1, 1) := by decide +kernel
theorem d_X12_undo_33 : decode M_X12_undo.2.1 33 = .ok (.bipush 35, 2) := by decide +kernel
theorem d_X12_undo_35 : decode M_X12_undo.2.1 35 = .ok (.if_icmp .lt 9, 3) := by decide +kernel
theorem d_X12_undo_38 : decode M_X12_undo.2.1 38 = .ok (.iload_n 1, 1) := by decide +kernel
theorem d_X12_undo_39 : decode M_X12_undo.2.1 39 = .ok (.bipush 110, 2) := by decide +kernel
theorem d_X12_undo_41 : decode M_X12_undo.2.1 41 = .ok (.if_icmp .lt 23, 3) := by decide +kernel
theorem d_X12_undo_44 : decode M_X12_undo.2.1 44 = .ok (.aload_n 0, 1) := by decide +kernel
theorem d_X12_undo_45 : decode M_X12_undo.2.1 45 = .ok (.getfield 102, 3) := by decide +kernel
theorem d_X12_undo_48 : decode M_X12_undo.2.1 48 = .ok (.iload_n 1, 1) := by decide +kernel
theorem d_X12_undo_49 : decode M_X12_undo.2.1 49 = .ok (.aload_n 0, 1) := by decide +kernel
theorem d_X12_undo_50 : decode M_X12_undo.2.1 50 = .ok (.getfield 108, 3) := by decide +kernel
theorem d_X12_undo_53 : decode M_X12_undo.2.1 53 = .ok (.bipush 116, 2) := by decide +kernel
theorem d_X12_undo_55 : decode M_X12_undo.2.1 55 = .ok (.aload_n 0, 1) := by decide +kernel
theorem d_X12_undo_56 : decode M_X12_undo.2.1 56 = .ok (.getfield 377, 3) := by decide +kernel
theorem d_X12_undo_59 : decode M_X12_undo.2.1 59 = .ok (.imul, 1) := by decide +kernel
theorem d_X12_undo_60 : decode M_X12_undo.2.1 60 = .ok (.iload_n 1, 1) := by decide +kernel
theorem d_X12_undo_61 : decode M_X12_undo.2.1 61 = .ok (.iadd, 1) := by decide +kernel
theorem d_X12_undo_62 : decode M_X12_undo.2.1 62 = .ok (.iaload, 1) := by decide +kernel
theorem d_X12_undo_63 : decode M_X12_undo.2.1 63 = .ok (.iastore, 1) := by decide +kernel
theorem d_X12_undo_64 : decode M_X12_undo.2.1 64 = .ok (.iinc 1 1, 3) := by decide +kernel
theorem d_X12_undo_67 : decode M_X12_undo.2.1 67 = .ok (.goto (-41), 3) := by decide +kernel
theorem d_X12_undo_70 : decode M_X12_undo.2.1 70 = .ok (.iconst 1, 1) := by decide +kernel
theorem d_X12_undo_71 : decode M_X12_undo.2.1 71 = .ok (.ireturn, 1) := by decide +kernel
set_option maxRecDepth 20000 in
theorem s_X12_undo_0 {d : Nat}  {G : Mem} {Q : Int → Mem → Prop}  (h : (∀ G1 : Mem, G1 = st G 311 0 0 → (InR (G1 311 46)) ∧ (((G1 311 46) ≠ 0) → (∀ G4 : Mem, G4 = st G1 311 46 ((G1 311 46) - 1) → Rn d M_X12_undo zN 26 [(0, (2, 311)), (1, (0, 0))] [] G4 Q)) ∧ (¬ ((G1 311 46) ≠ 0) → Q 0 G1))) : Rn d M_X12_undo zN 0 [(0, (2, 311))] [] G Q := by
  refine r_aload_n d_X12_undo_0 0 rfl rfl ?_
  refine r_iconst d_X12_undo_1 ?_
  obtain ⟨G1, eG1⟩ : ∃ y : Mem, y = st G 311 0 0 := ⟨_, rfl⟩
  replace h := h G1 eG1
  refine r_putI 12 0 0 rfl d_X12_undo_2 fl_X12_169 (by decide) nofin_12_0 (bs_ob bs_12) ?_
  rw [← eG1]
  refine r_aload_n d_X12_undo_5 0 rfl rfl ?_
  refine r_getI 12 46 46 rfl d_X12_undo_6 fl_X12_377 (by decide) (bs_ob bs_12) ?_
  obtain ⟨h2, h⟩ := h
  refine r_if_ne (tgt := 14) d_X12_undo_9 (by decide) h2 (fun c3 => ?_) (fun c3 => ?_)
  · replace h := h.1 c3
    refine r_aload_n d_X12_undo_14 0 rfl rfl ?_
    refine r_dup 2 rfl (by decide) d_X12_undo_15 ?_
    refine r_getI 12 46 46 rfl d_X12_undo_16 fl_X12_377 (by decide) (bs_ob bs_12) ?_
    refine r_iconst d_X12_undo_19 ?_
    refine r_isub d_X12_undo_20 ?_
    obtain ⟨G4, eG4⟩ : ∃ y : Mem, y = st G1 311 46 ((G1 311 46) - 1) := ⟨_, rfl⟩
    replace h := h G4 eG4
    refine r_putI 12 46 46 rfl d_X12_undo_21 fl_X12_377 (by decide) nofin_12_46 (bs_ob bs_12) ?_
    rw [← eG4]
    refine r_iconst d_X12_undo_24 ?_
    refine r_istore_n (ls1 := [(1, (0, 0)), (0, (2, 311))]) d_X12_undo_25 rfl (by decide) rfl ?_
    exact Rn.sub [1, 0] rfl h
  · replace h := h.2 c3
    refine r_iconst d_X12_undo_12 ?_
    exact r_zreturn d_X12_undo_13 rfl ⟨rfl, Nat.le_refl _, Nat.le_refl _⟩ (by decide) h
set_option maxRecDepth 20000 in
theorem s_X12_undo_26 {d : Nat} {x1 : Int} {G : Mem} {Q : Int → Mem → Prop}  (h : (InR x1) ∧ ((116 ≤ x1) → Q 1 G) ∧ (¬ (116 ≤ x1) → ((x1 < 35) → Rn d M_X12_undo zN 44 [(0, (2, 311)), (1, (0, x1))] [] G Q) ∧ (¬ (x1 < 35) → ((x1 < 110) → Rn d M_X12_undo zN 26 [(0, (2, 311)), (1, (0, (x1 + 1)))] [] G Q) ∧ (¬ (x1 < 110) → Rn d M_X12_undo zN 44 [(0, (2, 311)), (1, (0, x1))] [] G Q)))) : Rn d M_X12_undo zN 26 [(0, (2, 311)), (1, (0, x1))] [] G Q := by
  refine r_iload_n d_X12_undo_26 1 rfl rfl ?_
  refine r_bipush d_X12_undo_27 (by decide +kernel) ?_
  obtain ⟨h1, h⟩ := h
  refine r_icmp_ge (tgt := 70) d_X12_undo_29 (by decide) h1 ⟨by decide, by decide⟩ (fun c2 => ?_) (fun c2 => ?_)
  · replace h := h.1 c2
    refine r_iconst d_X12_undo_70 ?_
    exact r_zreturn d_X12_undo_71 rfl ⟨rfl, Nat.le_refl _, Nat.le_refl _⟩ (by decide) h
  · replace h := h.2 c2
    refine r_iload_n d_X12_undo_32 1 rfl rfl ?_
    refine r_bipush d_X12_undo_33 (by decide +kernel) ?_
    refine r_icmp_lt (tgt := 44) d_X12_undo_35 (by decide) h1 ⟨by decide, by decide⟩ (fun c3 => ?_) (fun c3 => ?_)
    · replace h := h.1 c3
      exact h
    · replace h := h.2 c3
      refine r_iload_n d_X12_undo_38 1 rfl rfl ?_
      refine r_bipush d_X12_undo_39 (by decide +kernel) ?_
      refine r_icmp_lt (tgt := 64) d_X12_undo_41 (by decide) h1 ⟨by decide, by decide⟩ (fun c4 => ?_) (fun c4 => ?_)
      · replace h := h.1 c4
        refine r_iinc (ls1 := [(1, (0, (x1 + 1))), (0, (2, 311))]) d_X12_undo_64 1 rfl (by decide) rfl ?_
        refine r_goto (tgt := 26) d_X12_undo_67 (by decide) ?_
        exact Rn.sub [1, 0] rfl h
      · replace h := h.2 c4
        exact h
set_option maxRecDepth 20000 in
theorem s_X12_undo_44 {d : Nat} {x1 : Int} {G : Mem} {Q : Int → Mem → Prop}  (h : (0 ≤ ((116 * (G 311 46)) + x1) ∧ ((116 * (G 311 46)) + x1) < 1392) ∧ ((0 ≤ x1 ∧ x1 < 116) ∧ (∀ G3 : Mem, G3 = st G 342 x1 (G 344 ((116 * (G 311 46)) + x1)) → Rn d M_X12_undo zN 26 [(0, (2, 311)), (1, (0, (x1 + 1)))] [] G3 Q))) : Rn d M_X12_undo zN 44 [(0, (2, 311)), (1, (0, x1))] [] G Q := by
  refine r_aload_n d_X12_undo_44 0 rfl rfl ?_
  refine r_getL (v := 342) 12 43 43 rfl d_X12_undo_45 fl_X12_102 (by decide) (bs_ob bs_12) (ly_12_43 bs_12).1 (ly_12_43 bs_12).2.1 ?_
  refine r_iload_n d_X12_undo_48 1 rfl rfl ?_
  refine r_aload_n d_X12_undo_49 0 rfl rfl ?_
  refine r_getL (v := 344) 12 45 45 rfl d_X12_undo_50 fl_X12_108 (by decide) (bs_ob bs_12) (ly_12_45 bs_12).1 (ly_12_45 bs_12).2.1 ?_
  refine r_bipush d_X12_undo_53 (by decide +kernel) ?_
  refine r_aload_n d_X12_undo_55 0 rfl rfl ?_
  refine r_getI 12 46 46 rfl d_X12_undo_56 fl_X12_377 (by decide) (bs_ob bs_12) ?_
  refine r_imul d_X12_undo_59 ?_
  refine r_iload_n d_X12_undo_60 1 rfl rfl ?_
  refine r_iadd d_X12_undo_61 ?_
  obtain ⟨h1, h⟩ := h
  refine r_iaload d_X12_undo_62 (ly_12_45 bs_12).2.2 h1 ?_
  obtain ⟨h2, h⟩ := h
  obtain ⟨G3, eG3⟩ : ∃ y : Mem, y = st G 342 x1 (G 344 ((116 * (G 311 46)) + x1)) := ⟨_, rfl⟩
  replace h := h G3 eG3
  refine r_iastore d_X12_undo_63 (ly_12_43 bs_12).2.2 h2 ?_
  rw [← eG3]
  refine r_iinc (ls1 := [(1, (0, (x1 + 1))), (0, (2, 311))]) d_X12_undo_64 1 rfl (by decide) rfl ?_
  refine r_goto (tgt := 26) d_X12_undo_67 (by decide) ?_
  exact Rn.sub [1, 0] rfl h
theorem d_X12_passes_0 : decode M_X12_passes.2.1 0 = .ok (.iconst 0, 1) := by decide +kernel
theorem d_X12_passes_1 : decode M_X12_passes.2.1 1 = .ok (.istore_n 1, 1) := by decide +kernel
theorem d_X12_passes_2 : decode M_X12_passes.2.1 2 = .ok (.iload_n 1, 1) := by decide +kernel
theorem d_X12_passes_3 : decode M_X12_passes.2.1 3 = .ok (.aload_n 0, 1) := by decide +kernel
theorem d_X12_passes_4 : decode M_X12_passes.2.1 4 = .ok (.getfield 13, 3) := by decide +kernel
theorem d_X12_passes_7 : decode M_X12_passes.2.1 7 = .ok (.bipush 8, 2) := by decide +kernel
theorem d_X12_passes_9 : decode M_X12_passes.2.1 9 = .ok (.iaload, 1) := by decide +kernel
theorem d_X12_passes_10 : decode M_X12_passes.2.1 10 = .ok (.if_icmp .ge 123, 3) := by decide +kernel
theorem d_X12_passes_13 : decode M_X12_passes.2.1 13 = .ok (.aload_n 0, 1) := by decide +kernel
theorem d_X12_passes_14 : decode M_X12_passes.2.1 14 = .ok (.getfield 102, 3) := by decide +kernel
theorem d_X12_passes_17 : decode M_X12_passes.2.1 17 = .ok (.iconst 5, 1) := by decide +kernel
theorem d_X12_passes_18 : decode M_X12_passes.2.1 18 = .ok (.iload_n 1, 1) := by decide +kernel
theorem d_X12_passes_19 : decode M_X12_passes.2.1 19 = .ok (.iadd, 1) := by decide +kernel
theorem d_X12_passes_20 : decode M_X12_passes.2.1 20 = .ok (.iaload, 1) := by decide +kernel
theorem d_X12_passes_21 : decode M_X12_passes.2.1 21 = .ok (.ifCond .le 40, 3) := by decide +kernel
theorem d_X12_passes_24 : decode M_X12_passes.2.1 24 = .ok (.aload_n 0, 1) := by decide +kernel
theorem d_X12_passes_25 : decode M_X12_passes.2.1 25 = .ok (.getfield 102, 3) := by decide +kernel
theorem d_X12_passes_28 : decode M_X12_passes.2.1 28 = .ok (.iconst 5, 1) := by decide +kernel
theorem d_X12_passes_29 : decode M_X12_passes.2.1 29 = .ok (.iload_n 1, 1) := by decide +kernel
theorem d_X12_passes_30 : decode M_X12_passes.2.1 30 = .ok (.iadd, 1) := by decide +kernel
theorem d_X12_passes_31 : decode M_X12_passes.2.1 31 = .ok (.aload_n 0, 1) := by decide +kernel
theorem d_X12_passes_32 : decode M_X12_passes.2.1 32 = .ok (.getfield 102, 3) := by decide +kernel
theorem d_X12_passes_35 : decode M_X12_passes.2.1 35 = .ok (.iconst 5, 1) := by decide +kernel
theorem d_X12_passes_36 : decode M_X12_passes.2.1 36 = .ok (.iload_n 1, 1) := by decide +kernel
theorem d_X12_passes_37 : decode M_X12_passes.2.1 37 = .ok (.iadd, 1) := by decide +kernel
theorem d_X12_passes_38 : decode M_X12_passes.2.1 38 = .ok (.iaload, 1) := by decide +kernel
theorem d_X12_passes_39 : decode M_X12_passes.2.1 39 = .ok (.iconst 1, 1) := by decide +kernel
theorem d_X12_passes_40 : decode M_X12_passes.2.1 40 = .ok (.if_icmp .ne 7, 3) := by decide +kernel
theorem d_X12_passes_43 : decode M_X12_passes.2.1 43 = .ok (.iconst (-1), 1) := by decide +kernel
theorem d_X12_passes_44 : decode M_X12_passes.2.1 44 = .ok (.goto 13, 3) := by decide +kernel
theorem d_X12_passes_47 : decode M_X12_passes.2.1 47 = .ok (.aload_n 0, 1) := by decide +kernel
theorem d_X12_passes_48 : decode M_X12_passes.2.1 48 = .ok (.getfield 102, 3) := by decide +kernel
theorem d_X12_passes_51 : decode M_X12_passes.2.1 51 = .ok (.iconst 5, 1) := by decide +kernel
theorem d_X12_passes_52 : decode M_X12_passes.2.1 52 = .ok (.iload_n 1, 1) := by decide +kernel
theorem d_X12_passes_53 : decode M_X12_passes.2.1 53 = .ok (.iadd, 1) := by decide +kernel
theorem d_X12_passes_54 : decode M_X12_passes.2.1 54 = .ok (.iaload, 1) := by decide +kernel
theorem d_X12_passes_55 : decode M_X12_passes.2.1 55 = .ok (.iconst 1, 1) := by decide +kernel
theorem d_X12_passes_56 : decode M_X12_passes.2.1 56 = .ok (.isub, 1) := by decide +kernel
theorem d_X12_passes_57 : decode M_X12_passes.2.1 57 = .ok (.iastore, 1) := by decide +kernel
theorem d_X12_passes_58 : decode M_X12_passes.2.1 58 = .ok (.goto 69, 3) := by decide +kernel
theorem d_X12_passes_61 : decode M_X12_passes.2.1 61 = .ok (.aload_n 0, 1) := by decide +kernel
theorem d_X12_passes_62 : decode M_X12_passes.2.1 62 = .ok (.getfield 102, 3) := by decide +kernel
theorem d_X12_passes_65 : decode M_X12_passes.2.1 65 = .ok (.iload_n 1, 1) := by decide +kernel
theorem d_X12_passes_66 : decode M_X12_passes.2.1 66 = .ok (.sipush 199, 3) := by decide +kernel
theorem d_X12_passes_69 : decode M_X12_passes.2.1 69 = .ok (.aload_n 0, 1) := by decide +kernel
theorem d_X12_passes_70 : decode M_X12_passes.2.1 70 = .ok (.getfield 102, 3) := by decide +kernel
theorem d_X12_passes_73 : decode M_X12_passes.2.1 73 = .ok (.iload_n 1, 1) := by decide +kernel
theorem d_X12_passes_74 : decode M_X12_passes.2.1 74 = .ok (.iaload, 1) := by decide +kernel
theorem d_X12_passes_75 : decode M_X12_passes.2.1 75 = .ok (.aload_n 0, 1) := by decide +kernel
theorem d_X12_passes_76 : decode M_X12_passes.2.1 76 = .ok (.iload_n 1, 1) := by decide +kernel
theorem d_X12_passes_77 : decode M_X12_passes.2.1 77 = .ok (.invokevirtual 453, 3) := by decide +kernel
theorem d_X12_passes_80 : decode M_X12_passes.2.1 80 = .ok (.iadd, 1) := by decide +kernel
theorem d_X12_passes_81 : decode M_X12_passes.2.1 81 = .ok (.invokestatic 456, 3) := by decide +kernel
theorem d_X12_passes_84 : decode M_X12_passes.2.1 84 = .ok (.iastore, 1) := by decide +kernel
theorem d_X12_passes_85 : decode M_X12_passes.2.1 85 = .ok (.aload_n 0, 1) := by decide +kernel
theorem d_X12_passes_86 : decode M_X12_passes.2.1 86 = .ok (.getfield 102, 3) := by decide +kernel
theorem d_X12_passes_89 : decode M_X12_passes.2.1 89 = .ok (.iload_n 1, 1) := by decide +kernel
theorem d_X12_passes_90 : decode M_X12_passes.2.1 90 = .ok (.iaload, 1) := by decide +kernel
theorem d_X12_passes_91 : decode M_X12_passes.2.1 91 = .ok (.aload_n 0, 1) := by decide +kernel
theorem d_X12_passes_92 : decode M_X12_passes.2.1 92 = .ok (.getfield 29, 3) := by decide +kernel
theorem d_X12_passes_95 : decode M_X12_passes.2.1 95 = .ok (.iload_n 1, 1) := by decide +kernel
theorem d_X12_passes_96 : decode M_X12_passes.2.1 96 = .ok (.iaload, 1) := by decide +kernel
theorem d_X12_passes_97 : decode M_X12_passes.2.1 97 = .ok (.if_icmp .gt 6, 3) := by decide +kernel
theorem d_X12_passes_100 : decode M_X12_passes.2.1 100 = .ok (.goto 27, 3) := by decide +kernel
theorem d_X12_passes_103 : decode M_X12_passes.2.1 103 = .ok (.aload_n 0, 1) := by decide +kernel
theorem d_X12_passes_104 : decode M_X12_passes.2.1 104 = .ok (.getfield 102, 3) := by decide +kernel
theorem d_X12_passes_107 : decode M_X12_passes.2.1 107 = .ok (.bipush 25, 2) := by decide +kernel
theorem d_X12_passes_109 : decode M_X12_passes.2.1 109 = .ok (.iload_n 1, 1) := by decide +kernel
theorem d_X12_passes_110 : decode M_X12_passes.2.1 110 = .ok (.iadd, 1) := by decide +kernel
theorem d_X12_passes_111 : decode M_X12_passes.2.1 111 = .ok (.dup2, 1) := by decide +kernel
theorem d_X12_passes_112 : decode M_X12_passes.2.1 112 = .ok (.iaload, 1) := by decide +kernel
theorem d_X12_passes_113 : decode M_X12_passes.2.1 113 = .ok (.iconst 1, 1) := by decide +kernel
theorem d_X12_passes_114 : decode M_X12_passes.2.1 114 = .ok (.iadd, 1) := by decide +kernel
theorem d_X12_passes_115 : decode M_X12_passes.2.1 115 = .ok (.iastore, 1) := by decide +kernel
theorem d_X12_passes_116 : decode M_X12_passes.2.1 116 = .ok (.aload_n 0, 1) := by decide +kernel
theorem d_X12_passes_117 : decode M_X12_passes.2.1 117 = .ok (.getfield 102, 3) := by decide +kernel
theorem d_X12_passes_120 : decode M_X12_passes.2.1 120 = .ok (.bipush 114, 2) := by decide +kernel
theorem d_X12_passes_122 : decode M_X12_passes.2.1 122 = .ok (.dup2, 1) := by decide +kernel
theorem d_X12_passes_123 : decode M_X12_passes.2.1 123 = .ok (.iaload, 1) := by decide +kernel
theorem d_X12_passes_124 : decode M_X12_passes.2.1 124 = .ok (.iconst 1, 1) := by decide +kernel
theorem d_X12_passes_125 : decode M_X12_passes.2.1 125 = .ok (.iadd, 1) := by decide +kernel
theorem d_X12_passes_126 : decode M_X12_passes.2.1 126 = .ok (.iastore, 1) := by decide +kernel
theorem d_X12_passes_127 : decode M_X12_passes.2.1 127 = .ok (.iinc 1 1, 3) := by decide +kernel
theorem d_X12_passes_130 : decode M_X12_passes.2.1 130 = .ok (.goto (-128), 3) := by decide +kernel
theorem d_X12_passes_133 : decode M_X12_passes.2.1 133 = .ok (.aload_n 0, 1) := by decide +kernel
theorem d_X12_passes_134 : decode M_X12_passes.2.1 134 = .ok (.getfield 102, 3) := by decide +kernel
theorem d_X12_passes_137 : decode M_X12_passes.2.1 137 = .ok (.bipush 110, 2) := by decide +kernel
theorem d_X12_passes_139 : decode M_X12_passes.2.1 139 = .ok (.dup2, 1) := by decide +kernel
theorem d_X12_passes_140 : decode M_X12_passes.2.1 140 = .ok (.iaload, 1) := by decide +kernel
theorem d_X12_passes_141 : decode M_X12_passes.2.1 141 = .ok (.iconst 1, 1) := by decide +kernel
theorem d_X12_passes_142 : decode M_X12_passes.2.1 142 = .ok (.iadd, 1) := by decide +kernel
theorem d_X12_passes_143 : decode M_X12_passes.2.1 143 = .ok (.iastore, 1) := by decide +kernel
theorem d_X12_passes_144 : decode M_X12_passes.2.1 144 = .ok (.return_, 1) := by decide +kernel
set_option maxRecDepth 20000 in
theorem s_X12_passes_0 {d : Nat}  {G : Mem} {Q : Int → Mem → Prop}  (h : Rn d M_X12_passes zN 2 [(0, (2, 311)), (1, (0, 0))] [] G Q) : Rn d M_X12_passes zN 0 [(0, (2, 311))] [] G Q := by
  refine r_iconst d_X12_passes_0 ?_
  refine r_istore_n (ls1 := [(1, (0, 0)), (0, (2, 311))]) d_X12_passes_1 rfl (by decide) rfl ?_
  exact Rn.sub [1, 0] rfl h
set_option maxRecDepth 20000 in
theorem s_X12_passes_2 {d : Nat} {x1 : Int} {G : Mem} {Q : Int → Mem → Prop}  (h : (InR x1) ∧ (InR (G 313 8)) ∧ (((G 313 8) ≤ x1) → (∀ G4 : Mem, G4 = st G 342 110 ((G 342 110) + 1) → Q 0 G4)) ∧ (¬ ((G 313 8) ≤ x1) → (0 ≤ (5 + x1) ∧ (5 + x1) < 116) ∧ ((InR (G 342 (5 + x1))) ∧ (((G 342 (5 + x1)) ≤ 0) → (0 ≤ x1 ∧ x1 < 116) ∧ (Ct d M_X12_growth NT 0 0 (some lay) [(2, 311), (0, x1)] G (fun r10 G9 => (InR ((G 342 x1) + r10)) ∧ ((∀ G12 : Mem, G12 = st G9 342 x1 (min 199 ((G 342 x1) + r10)) → (0 ≤ x1 ∧ x1 < 30) ∧ ((InR (G12 342 x1)) ∧ (InR (G12 318 x1)) ∧ (((G12 318 x1) < (G12 342 x1)) → (0 ≤ (25 + x1) ∧ (25 + x1) < 116) ∧ ((∀ G18 : Mem, G18 = st G12 342 (25 + x1) ((G12 342 (25 + x1)) + 1) → (∀ G19 : Mem, G19 = st G18 342 114 ((G18 342 114) + 1) → Rn (d + 1) M_X12_passes zN 2 [(0, (2, 311)), (1, (0, (x1 + 1)))] [] G19 Q)))) ∧ (¬ ((G12 318 x1) < (G12 342 x1)) → Rn (d + 1) M_X12_passes zN 2 [(0, (2, 311)), (1, (0, (x1 + 1)))] [] G12 Q))))))) ∧ (¬ ((G 342 (5 + x1)) ≤ 0) → (((G 342 (5 + x1)) ≠ 1) → (∀ G21 : Mem, G21 = st G 342 (5 + x1) ((G 342 (5 + x1)) - 1) → Rn (d + 1) M_X12_passes zN 2 [(0, (2, 311)), (1, (0, (x1 + 1)))] [] G21 Q)) ∧ (¬ ((G 342 (5 + x1)) ≠ 1) → (∀ G22 : Mem, G22 = st G 342 (5 + x1) (-1) → Rn (d + 1) M_X12_passes zN 2 [(0, (2, 311)), (1, (0, (x1 + 1)))] [] G22 Q)))))) : Rn (d + 1) M_X12_passes zN 2 [(0, (2, 311)), (1, (0, x1))] [] G Q := by
  refine r_iload_n d_X12_passes_2 1 rfl rfl ?_
  refine r_aload_n d_X12_passes_3 0 rfl rfl ?_
  refine r_getL (v := 313) 12 10 10 rfl d_X12_passes_4 fl_X12_13 (by decide) (bs_ob bs_12) (ly_12_10 bs_12).1 (ly_12_10 bs_12).2.1 ?_
  refine r_bipush d_X12_passes_7 (by decide +kernel) ?_
  refine r_iaload d_X12_passes_9 (ly_12_10 bs_12).2.2 (by decide) ?_
  obtain ⟨h1, h⟩ := h
  obtain ⟨h2, h⟩ := h
  refine r_icmp_ge (tgt := 133) d_X12_passes_10 (by decide) h1 h2 (fun c3 => ?_) (fun c3 => ?_)
  · replace h := h.1 c3
    refine r_aload_n d_X12_passes_133 0 rfl rfl ?_
    refine r_getL (v := 342) 12 43 43 rfl d_X12_passes_134 fl_X12_102 (by decide) (bs_ob bs_12) (ly_12_43 bs_12).1 (ly_12_43 bs_12).2.1 ?_
    refine r_bipush d_X12_passes_137 (by decide +kernel) ?_
    refine r_dup2 0 2 rfl rfl (by decide) (by decide) d_X12_passes_139 ?_
    refine r_iaload d_X12_passes_140 (ly_12_43 bs_12).2.2 (by decide) ?_
    refine r_iconst d_X12_passes_141 ?_
    refine r_iadd d_X12_passes_142 ?_
    obtain ⟨G4, eG4⟩ : ∃ y : Mem, y = st G 342 110 ((G 342 110) + 1) := ⟨_, rfl⟩
    replace h := h G4 eG4
    refine r_iastore d_X12_passes_143 (ly_12_43 bs_12).2.2 (by decide) ?_
    rw [← eG4]
    exact r_ret d_X12_passes_144 rfl ⟨rfl, Nat.le_refl _, Nat.le_refl _⟩ h
  · replace h := h.2 c3
    refine r_aload_n d_X12_passes_13 0 rfl rfl ?_
    refine r_getL (v := 342) 12 43 43 rfl d_X12_passes_14 fl_X12_102 (by decide) (bs_ob bs_12) (ly_12_43 bs_12).1 (ly_12_43 bs_12).2.1 ?_
    refine r_iconst d_X12_passes_17 ?_
    refine r_iload_n d_X12_passes_18 1 rfl rfl ?_
    refine r_iadd d_X12_passes_19 ?_
    obtain ⟨h5, h⟩ := h
    refine r_iaload d_X12_passes_20 (ly_12_43 bs_12).2.2 h5 ?_
    obtain ⟨h6, h⟩ := h
    refine r_if_le (tgt := 61) d_X12_passes_21 (by decide) h6 (fun c7 => ?_) (fun c7 => ?_)
    · replace h := h.1 c7
      refine r_aload_n d_X12_passes_61 0 rfl rfl ?_
      refine r_getL (v := 342) 12 43 43 rfl d_X12_passes_62 fl_X12_102 (by decide) (bs_ob bs_12) (ly_12_43 bs_12).1 (ly_12_43 bs_12).2.1 ?_
      refine r_iload_n d_X12_passes_65 1 rfl rfl ?_
      refine r_sipush d_X12_passes_66 (by decide +kernel) ?_
      refine r_aload_n d_X12_passes_69 0 rfl rfl ?_
      refine r_getL (v := 342) 12 43 43 rfl d_X12_passes_70 fl_X12_102 (by decide) (bs_ob bs_12) (ly_12_43 bs_12).1 (ly_12_43 bs_12).2.1 ?_
      refine r_iload_n d_X12_passes_73 1 rfl rfl ?_
      obtain ⟨h8, h⟩ := h
      refine r_iaload d_X12_passes_74 (ly_12_43 bs_12).2.2 h8 ?_
      refine r_aload_n d_X12_passes_75 0 rfl rfl ?_
      refine r_iload_n d_X12_passes_76 1 rfl rfl ?_
      refine r_callV0 (M' := M_X12_growth) (ci := 12) [(0, x1)] d_X12_passes_77 cl_X12_453 rfl (Nat.le_of_ble_eq_true rfl) (by decide) rfl (bs_ob bs_12) ?_
      refine Ct.mono h (fun r10 G9 h => ?_)
      show Rn _ M_X12_passes zN 80 [(0, (2, 311)), (1, (0, x1))] [(0, r10), (0, (G 342 x1)), (0, 199), (0, x1), (2, 342)] G9 Q
      refine r_iadd d_X12_passes_80 ?_
      obtain ⟨h11, h⟩ := h
      refine r_mmin d_X12_passes_81 ml_X12_456 ⟨by decide, by decide⟩ h11 (Nat.le_of_ble_eq_true rfl) ?_
      obtain ⟨G12, eG12⟩ : ∃ y : Mem, y = st G9 342 x1 (min 199 ((G 342 x1) + r10)) := ⟨_, rfl⟩
      replace h := h G12 eG12
      refine r_iastore d_X12_passes_84 (ly_12_43 bs_12).2.2 h8 ?_
      rw [← eG12]
      refine r_aload_n d_X12_passes_85 0 rfl rfl ?_
      refine r_getL (v := 342) 12 43 43 rfl d_X12_passes_86 fl_X12_102 (by decide) (bs_ob bs_12) (ly_12_43 bs_12).1 (ly_12_43 bs_12).2.1 ?_
      refine r_iload_n d_X12_passes_89 1 rfl rfl ?_
      refine r_iaload d_X12_passes_90 (ly_12_43 bs_12).2.2 h8 ?_
      refine r_aload_n d_X12_passes_91 0 rfl rfl ?_
      refine r_getL (v := 318) 12 15 15 rfl d_X12_passes_92 fl_X12_29 (by decide) (bs_ob bs_12) (ly_12_15 bs_12).1 (ly_12_15 bs_12).2.1 ?_
      refine r_iload_n d_X12_passes_95 1 rfl rfl ?_
      obtain ⟨h13, h⟩ := h
      refine r_iaload d_X12_passes_96 (ly_12_15 bs_12).2.2 h13 ?_
      obtain ⟨h14, h⟩ := h
      obtain ⟨h15, h⟩ := h
      refine r_icmp_gt (tgt := 103) d_X12_passes_97 (by decide) h14 h15 (fun c16 => ?_) (fun c16 => ?_)
      · replace h := h.1 c16
        refine r_aload_n d_X12_passes_103 0 rfl rfl ?_
        refine r_getL (v := 342) 12 43 43 rfl d_X12_passes_104 fl_X12_102 (by decide) (bs_ob bs_12) (ly_12_43 bs_12).1 (ly_12_43 bs_12).2.1 ?_
        refine r_bipush d_X12_passes_107 (by decide +kernel) ?_
        refine r_iload_n d_X12_passes_109 1 rfl rfl ?_
        refine r_iadd d_X12_passes_110 ?_
        refine r_dup2 0 2 rfl rfl (by decide) (by decide) d_X12_passes_111 ?_
        obtain ⟨h17, h⟩ := h
        refine r_iaload d_X12_passes_112 (ly_12_43 bs_12).2.2 h17 ?_
        refine r_iconst d_X12_passes_113 ?_
        refine r_iadd d_X12_passes_114 ?_
        obtain ⟨G18, eG18⟩ : ∃ y : Mem, y = st G12 342 (25 + x1) ((G12 342 (25 + x1)) + 1) := ⟨_, rfl⟩
        replace h := h G18 eG18
        refine r_iastore d_X12_passes_115 (ly_12_43 bs_12).2.2 h17 ?_
        rw [← eG18]
        refine r_aload_n d_X12_passes_116 0 rfl rfl ?_
        refine r_getL (v := 342) 12 43 43 rfl d_X12_passes_117 fl_X12_102 (by decide) (bs_ob bs_12) (ly_12_43 bs_12).1 (ly_12_43 bs_12).2.1 ?_
        refine r_bipush d_X12_passes_120 (by decide +kernel) ?_
        refine r_dup2 0 2 rfl rfl (by decide) (by decide) d_X12_passes_122 ?_
        refine r_iaload d_X12_passes_123 (ly_12_43 bs_12).2.2 (by decide) ?_
        refine r_iconst d_X12_passes_124 ?_
        refine r_iadd d_X12_passes_125 ?_
        obtain ⟨G19, eG19⟩ : ∃ y : Mem, y = st G18 342 114 ((G18 342 114) + 1) := ⟨_, rfl⟩
        replace h := h G19 eG19
        refine r_iastore d_X12_passes_126 (ly_12_43 bs_12).2.2 (by decide) ?_
        rw [← eG19]
        refine r_iinc (ls1 := [(1, (0, (x1 + 1))), (0, (2, 311))]) d_X12_passes_127 1 rfl (by decide) rfl ?_
        refine r_goto (tgt := 2) d_X12_passes_130 (by decide) ?_
        exact Rn.sub [1, 0] rfl h
      · replace h := h.2 c16
        refine r_goto (tgt := 127) d_X12_passes_100 (by decide) ?_
        refine r_iinc (ls1 := [(1, (0, (x1 + 1))), (0, (2, 311))]) d_X12_passes_127 1 rfl (by decide) rfl ?_
        refine r_goto (tgt := 2) d_X12_passes_130 (by decide) ?_
        exact Rn.sub [1, 0] rfl h
    · replace h := h.2 c7
      refine r_aload_n d_X12_passes_24 0 rfl rfl ?_
      refine r_getL (v := 342) 12 43 43 rfl d_X12_passes_25 fl_X12_102 (by decide) (bs_ob bs_12) (ly_12_43 bs_12).1 (ly_12_43 bs_12).2.1 ?_
      refine r_iconst d_X12_passes_28 ?_
      refine r_iload_n d_X12_passes_29 1 rfl rfl ?_
      refine r_iadd d_X12_passes_30 ?_
      refine r_aload_n d_X12_passes_31 0 rfl rfl ?_
      refine r_getL (v := 342) 12 43 43 rfl d_X12_passes_32 fl_X12_102 (by decide) (bs_ob bs_12) (ly_12_43 bs_12).1 (ly_12_43 bs_12).2.1 ?_
      refine r_iconst d_X12_passes_35 ?_
      refine r_iload_n d_X12_passes_36 1 rfl rfl ?_
      refine r_iadd d_X12_passes_37 ?_
      refine r_iaload d_X12_passes_38 (ly_12_43 bs_12).2.2 h5 ?_
      refine r_iconst d_X12_passes_39 ?_
      refine r_icmp_ne (tgt := 47) d_X12_passes_40 (by decide) h6 ⟨by decide, by decide⟩ (fun c20 => ?_) (fun c20 => ?_)
      · replace h := h.1 c20
        refine r_aload_n d_X12_passes_47 0 rfl rfl ?_
        refine r_getL (v := 342) 12 43 43 rfl d_X12_passes_48 fl_X12_102 (by decide) (bs_ob bs_12) (ly_12_43 bs_12).1 (ly_12_43 bs_12).2.1 ?_
        refine r_iconst d_X12_passes_51 ?_
        refine r_iload_n d_X12_passes_52 1 rfl rfl ?_
        refine r_iadd d_X12_passes_53 ?_
        refine r_iaload d_X12_passes_54 (ly_12_43 bs_12).2.2 h5 ?_
        refine r_iconst d_X12_passes_55 ?_
        refine r_isub d_X12_passes_56 ?_
        obtain ⟨G21, eG21⟩ : ∃ y : Mem, y = st G 342 (5 + x1) ((G 342 (5 + x1)) - 1) := ⟨_, rfl⟩
        replace h := h G21 eG21
        refine r_iastore d_X12_passes_57 (ly_12_43 bs_12).2.2 h5 ?_
        rw [← eG21]
        refine r_goto (tgt := 127) d_X12_passes_58 (by decide) ?_
        refine r_iinc (ls1 := [(1, (0, (x1 + 1))), (0, (2, 311))]) d_X12_passes_127 1 rfl (by decide) rfl ?_
        refine r_goto (tgt := 2) d_X12_passes_130 (by decide) ?_
        exact Rn.sub [1, 0] rfl h
      · replace h := h.2 c20
        refine r_iconst d_X12_passes_43 ?_
        refine r_goto (tgt := 57) d_X12_passes_44 (by decide) ?_
        obtain ⟨G22, eG22⟩ : ∃ y : Mem, y = st G 342 (5 + x1) (-1) := ⟨_, rfl⟩
        replace h := h G22 eG22
        refine r_iastore d_X12_passes_57 (ly_12_43 bs_12).2.2 h5 ?_
        rw [← eG22]
        refine r_goto (tgt := 127) d_X12_passes_58 (by decide) ?_
        refine r_iinc (ls1 := [(1, (0, (x1 + 1))), (0, (2, 311))]) d_X12_passes_127 1 rfl (by decide) rfl ?_
        refine r_goto (tgt := 2) d_X12_passes_130 (by decide) ?_
        exact Rn.sub [1, 0] rfl h
