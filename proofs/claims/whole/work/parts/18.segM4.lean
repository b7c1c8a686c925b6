theorem d_X12_livesFlight_0 : decode M_X12_livesFlight.2.1 0 = .ok (.iconst 0, 1) := by decide +kernel
theorem d_X12_livesFlight_1 : decode M_X12_livesFlight.2.1 1 = .ok (.istore_n 1, 1) := by decide +kernel
theorem d_X12_livesFlight_2 : decode M_X12_livesFlight.2.1 2 = .ok (.iload_n 1, 1) := by decide +kernel
theorem d_X12_livesFlight_3 : decode M_X12_livesFlight.2.1 3 = .ok (.iconst 5, 1) := by decide +kernel
theorem d_X12_livesFlight_4 : decode M_X12_livesFlight.2.1 4 = .ok (.if_icmp .ge 58, 3) := by decide +kernel
theorem d_X12_livesFlight_7 : decode M_X12_livesFlight.2.1 7 = .ok (.aload_n 0, 1) := by decide +kernel
theorem d_X12_livesFlight_8 : decode M_X12_livesFlight.2.1 8 = .ok (.getfield 129, 3) := by decide +kernel
theorem d_X12_livesFlight_11 : decode M_X12_livesFlight.2.1 11 = .ok (.iload_n 1, 1) := by decide +kernel
theorem d_X12_livesFlight_12 : decode M_X12_livesFlight.2.1 12 = .ok (.iconst 0, 1) := by decide +kernel
theorem d_X12_livesFlight_13 : decode M_X12_livesFlight.2.1 13 = .ok (.iastore, 1) := by decide +kernel
theorem d_X12_livesFlight_14 : decode M_X12_livesFlight.2.1 14 = .ok (.aload_n 0, 1) := by decide +kernel
theorem d_X12_livesFlight_15 : decode M_X12_livesFlight.2.1 15 = .ok (.getfield 132, 3) := by decide +kernel
theorem d_X12_livesFlight_18 : decode M_X12_livesFlight.2.1 18 = .ok (.iload_n 1, 1) := by decide +kernel
theorem d_X12_livesFlight_19 : decode M_X12_livesFlight.2.1 19 = .ok (.iconst (-1), 1) := by decide +kernel
theorem d_X12_livesFlight_20 : decode M_X12_livesFlight.2.1 20 = .ok (.iastore, 1) := by decide +kernel
theorem d_X12_livesFlight_21 : decode M_X12_livesFlight.2.1 21 = .ok (.aload_n 0, 1) := by decide +kernel
theorem d_X12_livesFlight_22 : decode M_X12_livesFlight.2.1 22 = .ok (.getfield 135, 3) := by decide +kernel
theorem d_X12_livesFlight_25 : decode M_X12_livesFlight.2.1 25 = .ok (.iload_n 1, 1) := by decide +kernel
theorem d_X12_livesFlight_26 : decode M_X12_livesFlight.2.1 26 = .ok (.iconst (-1), 1) := by decide +kernel
theorem d_X12_livesFlight_27 : decode M_X12_livesFlight.2.1 27 = .ok (.iastore, 1) := by decide +kernel
theorem d_X12_livesFlight_28 : decode M_X12_livesFlight.2.1 28 = .ok (.aload_n 0, 1) := by decide +kernel
theorem d_X12_livesFlight_29 : decode M_X12_livesFlight.2.1 29 = .ok (.getfield 138, 3) := by decide +kernel
theorem d_X12_livesFlight_32 : decode M_X12_livesFlight.2.1 32 = .ok (.iload_n 1, 1) := by decide +kernel
theorem d_X12_livesFlight_33 : decode M_X12_livesFlight.2.1 33 = .ok (.iconst 0, 1) := by decide +kernel
theorem d_X12_livesFlight_34 : decode M_X12_livesFlight.2.1 34 = .ok (.iastore, 1) := by decide +kernel
theorem d_X12_livesFlight_35 : decode M_X12_livesFlight.2.1 35 = .ok (.aload_n 0, 1) := by decide +kernel
theorem d_X12_livesFlight_36 : decode M_X12_livesFlight.2.1 36 = .ok (.getfield 141, 3) := by decide +kernel
theorem d_X12_livesFlight_39 : decode M_X12_livesFlight.2.1 39 = .ok (.iload_n 1, 1) := by decide +kernel
theorem d_X12_livesFlight_40 : decode M_X12_livesFlight.2.1 40 = .ok (.iconst 0, 1) := by decide +kernel
theorem d_X12_livesFlight_41 : decode M_X12_livesFlight.2.1 41 = .ok (.iastore, 1) := by decide +kernel
theorem d_X12_livesFlight_42 : decode M_X12_livesFlight.2.1 42 = .ok (.aload_n 0, 1) := by decide +kernel
theorem d_X12_livesFlight_43 : decode M_X12_livesFlight.2.1 43 = .ok (.getfield 144, 3) := by decide +kernel
theorem d_X12_livesFlight_46 : decode M_X12_livesFlight.2.1 46 = .ok (.iload_n 1, 1) := by decide +kernel
theorem d_X12_livesFlight_47 : decode M_X12_livesFlight.2.1 47 = .ok (.iconst 0, 1) := by decide +kernel
theorem d_X12_livesFlight_48 : decode M_X12_livesFlight.2.1 48 = .ok (.iastore, 1) := by decide +kernel
theorem d_X12_livesFlight_49 : decode M_X12_livesFlight.2.1 49 = .ok (.aload_n 0, 1) := by decide +kernel
theorem d_X12_livesFlight_50 : decode M_X12_livesFlight.2.1 50 = .ok (.getfield 147, 3) := by decide +kernel
theorem d_X12_livesFlight_53 : decode M_X12_livesFlight.2.1 53 = .ok (.iload_n 1, 1) := by decide +kernel
theorem d_X12_livesFlight_54 : decode M_X12_livesFlight.2.1 54 = .ok (.iconst 0, 1) := by decide +kernel
theorem d_X12_livesFlight_55 : decode M_X12_livesFlight.2.1 55 = .ok (.iastore, 1) := by decide +kernel
theorem d_X12_livesFlight_56 : decode M_X12_livesFlight.2.1 56 = .ok (.iinc 1 1, 3) := by decide +kernel
theorem d_X12_livesFlight_59 : decode M_X12_livesFlight.2.1 59 = .ok (.goto (-57), 3) := by decide +kernel
theorem d_X12_livesFlight_62 : decode M_X12_livesFlight.2.1 62 = .ok (.iconst 0, 1) := by decide +kernel
theorem d_X12_livesFlight_63 : decode M_X12_livesFlight.2.1 63 = .ok (.istore_n 1, 1) := by decide +kernel
theorem d_X12_livesFlight_64 : decode M_X12_livesFlight.2.1 64 = .ok (.iload_n 1, 1) := by decide +kernel
theorem d_X12_livesFlight_65 : decode M_X12_livesFlight.2.1 65 = .ok (.aload_n 0, 1) := by decide +kernel
theorem d_X12_livesFlight_66 : decode M_X12_livesFlight.2.1 66 = .ok (.getfield 13, 3) := by decide +kernel
theorem d_X12_livesFlight_69 : decode M_X12_livesFlight.2.1 69 = .ok (.iconst 1, 1) := by decide +kernel
theorem d_X12_livesFlight_70 : decode M_X12_livesFlight.2.1 70 = .ok (.iaload, 1) := by decide +kernel
theorem d_X12_livesFlight_71 : decode M_X12_livesFlight.2.1 71 = .ok (.if_icmp .ge 14, 3) := by decide +kernel
theorem d_X12_livesFlight_74 : decode M_X12_livesFlight.2.1 74 = .ok (.aload_n 0, 1) := by decide +kernel
theorem d_X12_livesFlight_75 : decode M_X12_livesFlight.2.1 75 = .ok (.iload_n 1, 1) := by decide +kernel
theorem d_X12_livesFlight_76 : decode M_X12_livesFlight.2.1 76 = .ok (.invokevirtual 549, 3) := by decide +kernel
theorem d_X12_livesFlight_79 : decode M_X12_livesFlight.2.1 79 = .ok (.iinc 1 1, 3) := by decide +kernel
theorem d_X12_livesFlight_82 : decode M_X12_livesFlight.2.1 82 = .ok (.goto (-18), 3) := by decide +kernel
theorem d_X12_livesFlight_85 : decode M_X12_livesFlight.2.1 85 = .ok (.return_, 1) := by decide +kernel
set_option maxRecDepth 20000 in
theorem s_X12_livesFlight_0 {d : Nat}  {G : Mem} {Q : Int → Mem → Prop}  (h : Rn d M_X12_livesFlight zN 2 [(0, (2, 311)), (1, (0, 0))] [] G Q) : Rn d M_X12_livesFlight zN 0 [(0, (2, 311))] [] G Q := by
  refine r_iconst d_X12_livesFlight_0 ?_
  refine r_istore_n (ls1 := [(1, (0, 0)), (0, (2, 311))]) d_X12_livesFlight_1 rfl (by decide) rfl ?_
  exact Rn.sub [1, 0] rfl h
set_option maxRecDepth 20000 in
theorem s_X12_livesFlight_2 {d : Nat} {x1 : Int} {G : Mem} {Q : Int → Mem → Prop}  (h : (InR x1) ∧ ((5 ≤ x1) → Rn d M_X12_livesFlight zN 64 [(0, (2, 311)), (1, (0, 0))] [] G Q) ∧ (¬ (5 ≤ x1) → (0 ≤ x1 ∧ x1 < 5) ∧ (∀ G4 : Mem, G4 = st G 351 x1 0 → (∀ G5 : Mem, G5 = st G4 352 x1 (-1) → (∀ G6 : Mem, G6 = st G5 353 x1 (-1) → (∀ G7 : Mem, G7 = st G6 354 x1 0 → (∀ G8 : Mem, G8 = st G7 355 x1 0 → (∀ G9 : Mem, G9 = st G8 356 x1 0 → (∀ G10 : Mem, G10 = st G9 357 x1 0 → Rn d M_X12_livesFlight zN 2 [(0, (2, 311)), (1, (0, (x1 + 1)))] [] G10 Q))))))))) : Rn d M_X12_livesFlight zN 2 [(0, (2, 311)), (1, (0, x1))] [] G Q := by
  refine r_iload_n d_X12_livesFlight_2 1 rfl rfl ?_
  refine r_iconst d_X12_livesFlight_3 ?_
  obtain ⟨h1, h⟩ := h
  refine r_icmp_ge (tgt := 62) d_X12_livesFlight_4 (by decide) h1 ⟨by decide, by decide⟩ (fun c2 => ?_) (fun c2 => ?_)
  · replace h := h.1 c2
    refine r_iconst d_X12_livesFlight_62 ?_
    refine r_istore_n (ls1 := [(1, (0, 0)), (0, (2, 311))]) d_X12_livesFlight_63 rfl (by decide) rfl ?_
    exact Rn.sub [1, 0] rfl h
  · replace h := h.2 c2
    refine r_aload_n d_X12_livesFlight_7 0 rfl rfl ?_
    refine r_getL (v := 351) 12 56 56 rfl d_X12_livesFlight_8 fl_X12_129 (by decide) (bs_ob bs_12) (ly_12_56 bs_12).1 (ly_12_56 bs_12).2.1 ?_
    refine r_iload_n d_X12_livesFlight_11 1 rfl rfl ?_
    refine r_iconst d_X12_livesFlight_12 ?_
    obtain ⟨h3, h⟩ := h
    obtain ⟨G4, eG4⟩ : ∃ y : Mem, y = st G 351 x1 0 := ⟨_, rfl⟩
    replace h := h G4 eG4
    refine r_iastore d_X12_livesFlight_13 (ly_12_56 bs_12).2.2 h3 ?_
    rw [← eG4]
    refine r_aload_n d_X12_livesFlight_14 0 rfl rfl ?_
    refine r_getL (v := 352) 12 57 57 rfl d_X12_livesFlight_15 fl_X12_132 (by decide) (bs_ob bs_12) (ly_12_57 bs_12).1 (ly_12_57 bs_12).2.1 ?_
    refine r_iload_n d_X12_livesFlight_18 1 rfl rfl ?_
    refine r_iconst d_X12_livesFlight_19 ?_
    obtain ⟨G5, eG5⟩ : ∃ y : Mem, y = st G4 352 x1 (-1) := ⟨_, rfl⟩
    replace h := h G5 eG5
    refine r_iastore d_X12_livesFlight_20 (ly_12_57 bs_12).2.2 h3 ?_
    rw [← eG5]
    refine r_aload_n d_X12_livesFlight_21 0 rfl rfl ?_
    refine r_getL (v := 353) 12 58 58 rfl d_X12_livesFlight_22 fl_X12_135 (by decide) (bs_ob bs_12) (ly_12_58 bs_12).1 (ly_12_58 bs_12).2.1 ?_
    refine r_iload_n d_X12_livesFlight_25 1 rfl rfl ?_
    refine r_iconst d_X12_livesFlight_26 ?_
    obtain ⟨G6, eG6⟩ : ∃ y : Mem, y = st G5 353 x1 (-1) := ⟨_, rfl⟩
    replace h := h G6 eG6
    refine r_iastore d_X12_livesFlight_27 (ly_12_58 bs_12).2.2 h3 ?_
    rw [← eG6]
    refine r_aload_n d_X12_livesFlight_28 0 rfl rfl ?_
    refine r_getL (v := 354) 12 59 59 rfl d_X12_livesFlight_29 fl_X12_138 (by decide) (bs_ob bs_12) (ly_12_59 bs_12).1 (ly_12_59 bs_12).2.1 ?_
    refine r_iload_n d_X12_livesFlight_32 1 rfl rfl ?_
    refine r_iconst d_X12_livesFlight_33 ?_
    obtain ⟨G7, eG7⟩ : ∃ y : Mem, y = st G6 354 x1 0 := ⟨_, rfl⟩
    replace h := h G7 eG7
    refine r_iastore d_X12_livesFlight_34 (ly_12_59 bs_12).2.2 h3 ?_
    rw [← eG7]
    refine r_aload_n d_X12_livesFlight_35 0 rfl rfl ?_
    refine r_getL (v := 355) 12 60 60 rfl d_X12_livesFlight_36 fl_X12_141 (by decide) (bs_ob bs_12) (ly_12_60 bs_12).1 (ly_12_60 bs_12).2.1 ?_
    refine r_iload_n d_X12_livesFlight_39 1 rfl rfl ?_
    refine r_iconst d_X12_livesFlight_40 ?_
    obtain ⟨G8, eG8⟩ : ∃ y : Mem, y = st G7 355 x1 0 := ⟨_, rfl⟩
    replace h := h G8 eG8
    refine r_iastore d_X12_livesFlight_41 (ly_12_60 bs_12).2.2 h3 ?_
    rw [← eG8]
    refine r_aload_n d_X12_livesFlight_42 0 rfl rfl ?_
    refine r_getL (v := 356) 12 61 61 rfl d_X12_livesFlight_43 fl_X12_144 (by decide) (bs_ob bs_12) (ly_12_61 bs_12).1 (ly_12_61 bs_12).2.1 ?_
    refine r_iload_n d_X12_livesFlight_46 1 rfl rfl ?_
    refine r_iconst d_X12_livesFlight_47 ?_
    obtain ⟨G9, eG9⟩ : ∃ y : Mem, y = st G8 356 x1 0 := ⟨_, rfl⟩
    replace h := h G9 eG9
    refine r_iastore d_X12_livesFlight_48 (ly_12_61 bs_12).2.2 h3 ?_
    rw [← eG9]
    refine r_aload_n d_X12_livesFlight_49 0 rfl rfl ?_
    refine r_getL (v := 357) 12 62 62 rfl d_X12_livesFlight_50 fl_X12_147 (by decide) (bs_ob bs_12) (ly_12_62 bs_12).1 (ly_12_62 bs_12).2.1 ?_
    refine r_iload_n d_X12_livesFlight_53 1 rfl rfl ?_
    refine r_iconst d_X12_livesFlight_54 ?_
    obtain ⟨G10, eG10⟩ : ∃ y : Mem, y = st G9 357 x1 0 := ⟨_, rfl⟩
    replace h := h G10 eG10
    refine r_iastore d_X12_livesFlight_55 (ly_12_62 bs_12).2.2 h3 ?_
    rw [← eG10]
    refine r_iinc (ls1 := [(1, (0, (x1 + 1))), (0, (2, 311))]) d_X12_livesFlight_56 1 rfl (by decide) rfl ?_
    refine r_goto (tgt := 2) d_X12_livesFlight_59 (by decide) ?_
    exact Rn.sub [1, 0] rfl h
set_option maxRecDepth 20000 in
theorem s_X12_livesFlight_64 {d : Nat} {x1 : Int} {G : Mem} {Q : Int → Mem → Prop}  (h : (InR x1) ∧ (InR (G 313 1)) ∧ (((G 313 1) ≤ x1) → Q 0 G) ∧ (¬ ((G 313 1) ≤ x1) → Ct d M_X12_livesTick NT 0 0 (some lay) [(2, 311), (0, x1)] G (fun r5 G4 => Rn (d + 1) M_X12_livesFlight zN 64 [(0, (2, 311)), (1, (0, (x1 + 1)))] [] G4 Q))) : Rn (d + 1) M_X12_livesFlight zN 64 [(0, (2, 311)), (1, (0, x1))] [] G Q := by
  refine r_iload_n d_X12_livesFlight_64 1 rfl rfl ?_
  refine r_aload_n d_X12_livesFlight_65 0 rfl rfl ?_
  refine r_getL (v := 313) 12 10 10 rfl d_X12_livesFlight_66 fl_X12_13 (by decide) (bs_ob bs_12) (ly_12_10 bs_12).1 (ly_12_10 bs_12).2.1 ?_
  refine r_iconst d_X12_livesFlight_69 ?_
  refine r_iaload d_X12_livesFlight_70 (ly_12_10 bs_12).2.2 (by decide) ?_
  obtain ⟨h1, h⟩ := h
  obtain ⟨h2, h⟩ := h
  refine r_icmp_ge (tgt := 85) d_X12_livesFlight_71 (by decide) h1 h2 (fun c3 => ?_) (fun c3 => ?_)
  · replace h := h.1 c3
    exact r_ret d_X12_livesFlight_85 rfl ⟨rfl, Nat.le_refl _, Nat.le_refl _⟩ h
  · replace h := h.2 c3
    refine r_aload_n d_X12_livesFlight_74 0 rfl rfl ?_
    refine r_iload_n d_X12_livesFlight_75 1 rfl rfl ?_
    refine r_callV0 (M' := M_X12_livesTick) (ci := 12) [(0, x1)] d_X12_livesFlight_76 cl_X12_549 rfl (Nat.le_of_ble_eq_true rfl) (by decide) rfl (bs_ob bs_12) ?_
    refine Ct.mono h (fun r5 G4 h => ?_)
    show Rn _ M_X12_livesFlight zN 79 [(0, (2, 311)), (1, (0, x1))] [] G4 Q
    refine r_iinc (ls1 := [(1, (0, (x1 + 1))), (0, (2, 311))]) d_X12_livesFlight_79 1 rfl (by decide) rfl ?_
    refine r_goto (tgt := 64) d_X12_livesFlight_82 (by decide) ?_
    exact Rn.sub [1, 0] rfl h
theorem d_X12_pence_0 : decode M_X12_pence.2.1 0 = .ok (.aload_n 0, 1) := by decide +kernel
theorem d_X12_pence_1 : decode M_X12_pence.2.1 1 = .ok (.iconst 0, 1) := by decide +kernel
theorem d_X12_pence_2 : decode M_X12_pence.2.1 2 = .ok (.putfield 534, 3) := by decide +kernel
theorem d_X12_pence_5 : decode M_X12_pence.2.1 5 = .ok (.aload_n 0, 1) := by decide +kernel
theorem d_X12_pence_6 : decode M_X12_pence.2.1 6 = .ok (.iconst 0, 1) := by decide +kernel
theorem d_X12_pence_7 : decode M_X12_pence.2.1 7 = .ok (.putfield 546, 3) := by decide +kernel
theorem d_X12_pence_10 : decode M_X12_pence.2.1 10 = .ok (.aload_n 0, 1) := by decide +kernel
theorem d_X12_pence_11 : decode M_X12_pence.2.1 11 = .ok (.invokevirtual 552, 3) := by decide +kernel
theorem d_X12_pence_14 : decode M_X12_pence.2.1 14 = .ok (.aload_n 0, 1) := by decide +kernel
theorem d_X12_pence_15 : decode M_X12_pence.2.1 15 = .ok (.getfield 13, 3) := by decide +kernel
theorem d_X12_pence_18 : decode M_X12_pence.2.1 18 = .ok (.iconst 3, 1) := by decide +kernel
theorem d_X12_pence_19 : decode M_X12_pence.2.1 19 = .ok (.iaload, 1) := by decide +kernel
theorem d_X12_pence_20 : decode M_X12_pence.2.1 20 = .ok (.aload_n 0, 1) := by decide +kernel
theorem d_X12_pence_21 : decode M_X12_pence.2.1 21 = .ok (.getfield 534, 3) := by decide +kernel
theorem d_X12_pence_24 : decode M_X12_pence.2.1 24 = .ok (.imul, 1) := by decide +kernel
theorem d_X12_pence_25 : decode M_X12_pence.2.1 25 = .ok (.aload_n 0, 1) := by decide +kernel
theorem d_X12_pence_26 : decode M_X12_pence.2.1 26 = .ok (.getfield 13, 3) := by decide +kernel
theorem d_X12_pence_29 : decode M_X12_pence.2.1 29 = .ok (.iconst 5, 1) := by decide +kernel
theorem d_X12_pence_30 : decode M_X12_pence.2.1 30 = .ok (.iaload, 1) := by decide +kernel
theorem d_X12_pence_31 : decode M_X12_pence.2.1 31 = .ok (.aload_n 0, 1) := by decide +kernel
theorem d_X12_pence_32 : decode M_X12_pence.2.1 32 = .ok (.getfield 546, 3) := by decide +kernel
theorem d_X12_pence_35 : decode M_X12_pence.2.1 35 = .ok (.imul, 1) := by decide +kernel
theorem d_X12_pence_36 : decode M_X12_pence.2.1 36 = .ok (.iadd, 1) := by decide +kernel
theorem d_X12_pence_37 : decode M_X12_pence.2.1 37 = .ok (.ireturn, 1) := by decide +kernel
set_option maxRecDepth 20000 in
theorem s_X12_pence_0 {d : Nat}  {G : Mem} {Q : Int → Mem → Prop}  (h : (∀ G1 : Mem, G1 = st G 311 63 0 → (∀ G2 : Mem, G2 = st G1 311 65 0 → Ct d M_X12_livesFlight NT 0 0 (some lay) [(2, 311)] G2 (fun r4 G3 => Q (((G3 313 3) * (G3 311 63)) + ((G3 313 5) * (G3 311 65))) G3)))) : Rn (d + 1) M_X12_pence zN 0 [(0, (2, 311))] [] G Q := by
  refine r_aload_n d_X12_pence_0 0 rfl rfl ?_
  refine r_iconst d_X12_pence_1 ?_
  obtain ⟨G1, eG1⟩ : ∃ y : Mem, y = st G 311 63 0 := ⟨_, rfl⟩
  replace h := h G1 eG1
  refine r_putI 12 63 63 rfl d_X12_pence_2 fl_X12_534 (by decide) nofin_12_63 (bs_ob bs_12) ?_
  rw [← eG1]
  refine r_aload_n d_X12_pence_5 0 rfl rfl ?_
  refine r_iconst d_X12_pence_6 ?_
  obtain ⟨G2, eG2⟩ : ∃ y : Mem, y = st G1 311 65 0 := ⟨_, rfl⟩
  replace h := h G2 eG2
  refine r_putI 12 65 65 rfl d_X12_pence_7 fl_X12_546 (by decide) nofin_12_65 (bs_ob bs_12) ?_
  rw [← eG2]
  refine r_aload_n d_X12_pence_10 0 rfl rfl ?_
  refine r_callV0 (M' := M_X12_livesFlight) (ci := 12) [] d_X12_pence_11 cl_X12_552 rfl (Nat.le_of_ble_eq_true rfl) (by decide) rfl (bs_ob bs_12) ?_
  refine Ct.mono h (fun r4 G3 h => ?_)
  show Rn _ M_X12_pence zN 14 [(0, (2, 311))] [] G3 Q
  refine r_aload_n d_X12_pence_14 0 rfl rfl ?_
  refine r_getL (v := 313) 12 10 10 rfl d_X12_pence_15 fl_X12_13 (by decide) (bs_ob bs_12) (ly_12_10 bs_12).1 (ly_12_10 bs_12).2.1 ?_
  refine r_iconst d_X12_pence_18 ?_
  refine r_iaload d_X12_pence_19 (ly_12_10 bs_12).2.2 (by decide) ?_
  refine r_aload_n d_X12_pence_20 0 rfl rfl ?_
  refine r_getI 12 63 63 rfl d_X12_pence_21 fl_X12_534 (by decide) (bs_ob bs_12) ?_
  refine r_imul d_X12_pence_24 ?_
  refine r_aload_n d_X12_pence_25 0 rfl rfl ?_
  refine r_getL (v := 313) 12 10 10 rfl d_X12_pence_26 fl_X12_13 (by decide) (bs_ob bs_12) (ly_12_10 bs_12).1 (ly_12_10 bs_12).2.1 ?_
  refine r_iconst d_X12_pence_29 ?_
  refine r_iaload d_X12_pence_30 (ly_12_10 bs_12).2.2 (by decide) ?_
  refine r_aload_n d_X12_pence_31 0 rfl rfl ?_
  refine r_getI 12 65 65 rfl d_X12_pence_32 fl_X12_546 (by decide) (bs_ob bs_12) ?_
  refine r_imul d_X12_pence_35 ?_
  refine r_iadd d_X12_pence_36 ?_
  exact r_ireturn d_X12_pence_37 rfl ⟨rfl, Nat.le_refl _, Nat.le_refl _⟩ h
theorem d_X12_habits_0 : decode M_X12_habits.2.1 0 = .ok (.aload_n 0, 1) := by decide +kernel
theorem d_X12_habits_1 : decode M_X12_habits.2.1 1 = .ok (.iconst 0, 1) := by decide +kernel
theorem d_X12_habits_2 : decode M_X12_habits.2.1 2 = .ok (.putfield 169, 3) := by decide +kernel
theorem d_X12_habits_5 : decode M_X12_habits.2.1 5 = .ok (.iload_n 1, 1) := by decide +kernel
theorem d_X12_habits_6 : decode M_X12_habits.2.1 6 = .ok (.iconst (-1), 1) := by decide +kernel
theorem d_X12_habits_7 : decode M_X12_habits.2.1 7 = .ok (.if_icmp .eq 11, 3) := by decide +kernel
theorem d_X12_habits_10 : decode M_X12_habits.2.1 10 = .ok (.aload_n 0, 1) := by decide +kernel
theorem d_X12_habits_11 : decode M_X12_habits.2.1 11 = .ok (.iload_n 1, 1) := by decide +kernel
theorem d_X12_habits_12 : decode M_X12_habits.2.1 12 = .ok (.invokevirtual 404, 3) := by decide +kernel
theorem d_X12_habits_15 : decode M_X12_habits.2.1 15 = .ok (.ifCond .eq 12, 3) := by decide +kernel
theorem d_X12_habits_18 : decode M_X12_habits.2.1 18 = .ok (.iload_n 2, 1) := by decide +kernel
theorem d_X12_habits_19 : decode M_X12_habits.2.1 19 = .ok (.iconst 0, 1) := by decide +kernel
theorem d_X12_habits_20 : decode M_X12_habits.2.1 20 = .ok (.iconst 2, 1) := by decide +kernel
theorem d_X12_habits_21 : decode M_X12_habits.2.1 21 = .ok (.invokestatic 308, 3) := by decide +kernel
theorem d_X12_habits_24 : decode M_X12_habits.2.1 24 = .ok (.ifCond .ne 5, 3) := by decide +kernel
theorem d_X12_habits_27 : decode M_X12_habits.2.1 27 = .ok (.iconst (-1), 1) := by decide +kernel
theorem d_X12_habits_28 : decode M_X12_habits.2.1 28 = .ok (.ireturn, 1) := by decide +kernel
theorem d_X12_habits_29 : decode M_X12_habits.2.1 29 = .ok (.aload_n 0, 1) := by decide +kernel
theorem d_X12_habits_30 : decode M_X12_habits.2.1 30 = .ok (.invokevirtual 555, 3) := by decide +kernel
theorem d_X12_habits_33 : decode M_X12_habits.2.1 33 = .ok (.aload_n 0, 1) := by decide +kernel
theorem d_X12_habits_34 : decode M_X12_habits.2.1 34 = .ok (.invokevirtual 558, 3) := by decide +kernel
theorem d_X12_habits_37 : decode M_X12_habits.2.1 37 = .ok (.istore_n 3, 1) := by decide +kernel
theorem d_X12_habits_38 : decode M_X12_habits.2.1 38 = .ok (.iload_n 1, 1) := by decide +kernel
theorem d_X12_habits_39 : decode M_X12_habits.2.1 39 = .ok (.iconst (-1), 1) := by decide +kernel
theorem d_X12_habits_40 : decode M_X12_habits.2.1 40 = .ok (.if_icmp .ne 28, 3) := by decide +kernel
theorem d_X12_habits_43 : decode M_X12_habits.2.1 43 = .ok (.iload_n 2, 1) := by decide +kernel
theorem d_X12_habits_44 : decode M_X12_habits.2.1 44 = .ok (.ifCond .ne 10, 3) := by decide +kernel
theorem d_X12_habits_47 : decode M_X12_habits.2.1 47 = .ok (.aload_n 0, 1) := by decide +kernel
theorem d_X12_habits_48 : decode M_X12_habits.2.1 48 = .ok (.getfield 534, 3) := by decide +kernel
theorem d_X12_habits_51 : decode M_X12_habits.2.1 51 = .ok (.goto 16, 3) := by decide +kernel
theorem d_X12_habits_54 : decode M_X12_habits.2.1 54 = .ok (.iload_n 2, 1) := by decide +kernel
theorem d_X12_habits_55 : decode M_X12_habits.2.1 55 = .ok (.iconst 1, 1) := by decide +kernel
theorem d_X12_habits_56 : decode M_X12_habits.2.1 56 = .ok (.if_icmp .ne 10, 3) := by decide +kernel
theorem d_X12_habits_59 : decode M_X12_habits.2.1 59 = .ok (.aload_n 0, 1) := by decide +kernel
theorem d_X12_habits_60 : decode M_X12_habits.2.1 60 = .ok (.getfield 546, 3) := by decide +kernel
theorem d_X12_habits_63 : decode M_X12_habits.2.1 63 = .ok (.goto 4, 3) := by decide +kernel
theorem d_X12_habits_66 : decode M_X12_habits.2.1 66 = .ok (.iload_n 3, 1) := by decide +kernel
theorem d_X12_habits_67 : decode M_X12_habits.2.1 67 = .ok (.ireturn, 1) := by decide +kernel
theorem d_X12_habits_68 : decode M_X12_habits.2.1 68 = .ok (.iload_n 2, 1) := by decide +kernel
theorem d_X12_habits_69 : decode M_X12_habits.2.1 69 = .ok (.ifCond .ne 12, 3) := by decide +kernel
theorem d_X12_habits_72 : decode M_X12_habits.2.1 72 = .ok (.aload_n 0, 1) := by decide +kernel
theorem d_X12_habits_73 : decode M_X12_habits.2.1 73 = .ok (.getfield 141, 3) := by decide +kernel
theorem d_X12_habits_76 : decode M_X12_habits.2.1 76 = .ok (.iload_n 1, 1) := by decide +kernel
theorem d_X12_habits_77 : decode M_X12_habits.2.1 77 = .ok (.iaload, 1) := by decide +kernel
theorem d_X12_habits_78 : decode M_X12_habits.2.1 78 = .ok (.goto 23, 3) := by decide +kernel
theorem d_X12_habits_81 : decode M_X12_habits.2.1 81 = .ok (.iload_n 2, 1) := by decide +kernel
theorem d_X12_habits_82 : decode M_X12_habits.2.1 82 = .ok (.iconst 1, 1) := by decide +kernel
theorem d_X12_habits_83 : decode M_X12_habits.2.1 83 = .ok (.if_icmp .ne 12, 3) := by decide +kernel
theorem d_X12_habits_86 : decode M_X12_habits.2.1 86 = .ok (.aload_n 0, 1) := by decide +kernel
theorem d_X12_habits_87 : decode M_X12_habits.2.1 87 = .ok (.getfield 144, 3) := by decide +kernel
theorem d_X12_habits_90 : decode M_X12_habits.2.1 90 = .ok (.iload_n 1, 1) := by decide +kernel
theorem d_X12_habits_91 : decode M_X12_habits.2.1 91 = .ok (.iaload, 1) := by decide +kernel
theorem d_X12_habits_92 : decode M_X12_habits.2.1 92 = .ok (.goto 9, 3) := by decide +kernel
theorem d_X12_habits_95 : decode M_X12_habits.2.1 95 = .ok (.aload_n 0, 1) := by decide +kernel
theorem d_X12_habits_96 : decode M_X12_habits.2.1 96 = .ok (.getfield 147, 3) := by decide +kernel
theorem d_X12_habits_99 : decode M_X12_habits.2.1 99 = .ok (.iload_n 1, 1) := by decide +kernel
theorem d_X12_habits_100 : decode M_X12_habits.2.1 100 = .ok (.iaload, 1) := by decide +kernel
theorem d_X12_habits_101 : decode M_X12_habits.2.1 101 = .ok (.ireturn, 1) := by decide +kernel
set_option maxRecDepth 20000 in
theorem s_X12_habits_0 {d : Nat} {p0 : Int} {p1 : Int} {G : Mem} {Q : Int → Mem → Prop}  (h : (∀ G1 : Mem, G1 = st G 311 0 0 → (InR p0) ∧ ((p0 = (-1)) → Rn (d + 1) M_X12_habits zN 18 [(0, (2, 311)), (1, (0, p0)), (2, (0, p1))] [] G1 Q) ∧ (¬ (p0 = (-1)) → Ct d M_X12_isSitter NT 0 0 (some lay) [(2, 311), (0, p0)] G1 (fun r5 G4 => (InR r5) ∧ ((r5 = 0) → Q (-1) G4) ∧ (¬ (r5 = 0) → Rn (d + 1) M_X12_habits zN 18 [(0, (2, 311)), (1, (0, p0)), (2, (0, p1))] [] G4 Q))))) : Rn (d + 1) M_X12_habits zN 0 [(0, (2, 311)), (1, (0, p0)), (2, (0, p1))] [] G Q := by
  refine r_aload_n d_X12_habits_0 0 rfl rfl ?_
  refine r_iconst d_X12_habits_1 ?_
  obtain ⟨G1, eG1⟩ : ∃ y : Mem, y = st G 311 0 0 := ⟨_, rfl⟩
  replace h := h G1 eG1
  refine r_putI 12 0 0 rfl d_X12_habits_2 fl_X12_169 (by decide) nofin_12_0 (bs_ob bs_12) ?_
  rw [← eG1]
  refine r_iload_n d_X12_habits_5 1 rfl rfl ?_
  refine r_iconst d_X12_habits_6 ?_
  obtain ⟨h2, h⟩ := h
  refine r_icmp_eq (tgt := 18) d_X12_habits_7 (by decide) h2 ⟨by decide, by decide⟩ (fun c3 => ?_) (fun c3 => ?_)
  · replace h := h.1 c3
    exact h
  · replace h := h.2 c3
    refine r_aload_n d_X12_habits_10 0 rfl rfl ?_
    refine r_iload_n d_X12_habits_11 1 rfl rfl ?_
    refine r_callV0 (M' := M_X12_isSitter) (ci := 12) [(0, p0)] d_X12_habits_12 cl_X12_404 rfl (Nat.le_of_ble_eq_true rfl) (by decide) rfl (bs_ob bs_12) ?_
    refine Ct.mono h (fun r5 G4 h => ?_)
    show Rn _ M_X12_habits zN 15 [(0, (2, 311)), (1, (0, p0)), (2, (0, p1))] [(0, r5)] G4 Q
    obtain ⟨h6, h⟩ := h
    refine r_if_eq (tgt := 27) d_X12_habits_15 (by decide) h6 (fun c7 => ?_) (fun c7 => ?_)
    · replace h := h.1 c7
      refine r_iconst d_X12_habits_27 ?_
      exact r_ireturn d_X12_habits_28 rfl ⟨rfl, Nat.le_refl _, Nat.le_refl _⟩ h
    · replace h := h.2 c7
      exact h
set_option maxRecDepth 20000 in
theorem s_X12_habits_18 {d : Nat} {x1 : Int} {x2 : Int} {G : Mem} {Q : Int → Mem → Prop}  (h : Ct d M_X12_within NT 0 0 (some lay) [(0, x2), (0, 0), (0, 2)] G (fun r2 G1 => (InR r2) ∧ ((r2 ≠ 0) → Ct d M_X12_seatsAll NT 0 0 (some lay) [(2, 311)] G1 (fun r6 G5 => Ct d M_X12_pence NT 0 0 (some lay) [(2, 311)] G5 (fun r8 G7 => (InR x1) ∧ ((x1 ≠ (-1)) → (InR x2) ∧ ((x2 ≠ 0) → ((x2 ≠ 1) → (0 ≤ x1 ∧ x1 < 5) ∧ (Q (G7 357 x1) G7)) ∧ (¬ (x2 ≠ 1) → (0 ≤ x1 ∧ x1 < 5) ∧ (Q (G7 356 x1) G7))) ∧ (¬ (x2 ≠ 0) → (0 ≤ x1 ∧ x1 < 5) ∧ (Q (G7 355 x1) G7))) ∧ (¬ (x1 ≠ (-1)) → (InR x2) ∧ ((x2 ≠ 0) → ((x2 ≠ 1) → Q r8 G7) ∧ (¬ (x2 ≠ 1) → Q (G7 311 65) G7)) ∧ (¬ (x2 ≠ 0) → Q (G7 311 63) G7))))) ∧ (¬ (r2 ≠ 0) → Q (-1) G1))) : Rn (d + 1) M_X12_habits zN 18 [(0, (2, 311)), (1, (0, x1)), (2, (0, x2))] [] G Q := by
  refine r_iload_n d_X12_habits_18 2 rfl rfl ?_
  refine r_iconst d_X12_habits_19 ?_
  refine r_iconst d_X12_habits_20 ?_
  refine r_callS0 (M' := M_X12_within) [(0, x2), (0, 0), (0, 2)] d_X12_habits_21 cl_X12_308 rfl (Nat.le_of_ble_eq_true rfl) ?_
  refine Ct.mono h (fun r2 G1 h => ?_)
  show Rn _ M_X12_habits zN 24 [(0, (2, 311)), (1, (0, x1)), (2, (0, x2))] [(0, r2)] G1 Q
  obtain ⟨h3, h⟩ := h
  refine r_if_ne (tgt := 29) d_X12_habits_24 (by decide) h3 (fun c4 => ?_) (fun c4 => ?_)
  · replace h := h.1 c4
    refine r_aload_n d_X12_habits_29 0 rfl rfl ?_
    refine r_callV0 (M' := M_X12_seatsAll) (ci := 12) [] d_X12_habits_30 cl_X12_555 rfl (Nat.le_of_ble_eq_true rfl) (by decide) rfl (bs_ob bs_12) ?_
    refine Ct.mono h (fun r6 G5 h => ?_)
    show Rn _ M_X12_habits zN 33 [(0, (2, 311)), (1, (0, x1)), (2, (0, x2))] [] G5 Q
    refine r_aload_n d_X12_habits_33 0 rfl rfl ?_
    refine r_callV0 (M' := M_X12_pence) (ci := 12) [] d_X12_habits_34 cl_X12_558 rfl (Nat.le_of_ble_eq_true rfl) (by decide) rfl (bs_ob bs_12) ?_
    refine Ct.mono h (fun r8 G7 h => ?_)
    show Rn _ M_X12_habits zN 37 [(0, (2, 311)), (1, (0, x1)), (2, (0, x2))] [(0, r8)] G7 Q
    refine r_istore_n (ls1 := [(3, (0, r8)), (0, (2, 311)), (1, (0, x1)), (2, (0, x2))]) d_X12_habits_37 rfl (by decide) rfl ?_
    refine r_iload_n d_X12_habits_38 2 rfl rfl ?_
    refine r_iconst d_X12_habits_39 ?_
    obtain ⟨h9, h⟩ := h
    refine r_icmp_ne (tgt := 68) d_X12_habits_40 (by decide) h9 ⟨by decide, by decide⟩ (fun c10 => ?_) (fun c10 => ?_)
    · replace h := h.1 c10
      refine r_iload_n d_X12_habits_68 3 rfl rfl ?_
      obtain ⟨h11, h⟩ := h
      refine r_if_ne (tgt := 81) d_X12_habits_69 (by decide) h11 (fun c12 => ?_) (fun c12 => ?_)
      · replace h := h.1 c12
        refine r_iload_n d_X12_habits_81 3 rfl rfl ?_
        refine r_iconst d_X12_habits_82 ?_
        refine r_icmp_ne (tgt := 95) d_X12_habits_83 (by decide) h11 ⟨by decide, by decide⟩ (fun c13 => ?_) (fun c13 => ?_)
        · replace h := h.1 c13
          refine r_aload_n d_X12_habits_95 1 rfl rfl ?_
          refine r_getL (v := 357) 12 62 62 rfl d_X12_habits_96 fl_X12_147 (by decide) (bs_ob bs_12) (ly_12_62 bs_12).1 (ly_12_62 bs_12).2.1 ?_
          refine r_iload_n d_X12_habits_99 2 rfl rfl ?_
          obtain ⟨h14, h⟩ := h
          refine r_iaload d_X12_habits_100 (ly_12_62 bs_12).2.2 h14 ?_
          exact r_ireturn d_X12_habits_101 rfl ⟨rfl, Nat.le_refl _, Nat.le_refl _⟩ h
        · replace h := h.2 c13
          refine r_aload_n d_X12_habits_86 1 rfl rfl ?_
          refine r_getL (v := 356) 12 61 61 rfl d_X12_habits_87 fl_X12_144 (by decide) (bs_ob bs_12) (ly_12_61 bs_12).1 (ly_12_61 bs_12).2.1 ?_
          refine r_iload_n d_X12_habits_90 2 rfl rfl ?_
          obtain ⟨h15, h⟩ := h
          refine r_iaload d_X12_habits_91 (ly_12_61 bs_12).2.2 h15 ?_
          refine r_goto (tgt := 101) d_X12_habits_92 (by decide) ?_
          exact r_ireturn d_X12_habits_101 rfl ⟨rfl, Nat.le_refl _, Nat.le_refl _⟩ h
      · replace h := h.2 c12
        refine r_aload_n d_X12_habits_72 1 rfl rfl ?_
        refine r_getL (v := 355) 12 60 60 rfl d_X12_habits_73 fl_X12_141 (by decide) (bs_ob bs_12) (ly_12_60 bs_12).1 (ly_12_60 bs_12).2.1 ?_
        refine r_iload_n d_X12_habits_76 2 rfl rfl ?_
        obtain ⟨h16, h⟩ := h
        refine r_iaload d_X12_habits_77 (ly_12_60 bs_12).2.2 h16 ?_
        refine r_goto (tgt := 101) d_X12_habits_78 (by decide) ?_
        exact r_ireturn d_X12_habits_101 rfl ⟨rfl, Nat.le_refl _, Nat.le_refl _⟩ h
    · replace h := h.2 c10
      refine r_iload_n d_X12_habits_43 3 rfl rfl ?_
      obtain ⟨h17, h⟩ := h
      refine r_if_ne (tgt := 54) d_X12_habits_44 (by decide) h17 (fun c18 => ?_) (fun c18 => ?_)
      · replace h := h.1 c18
        refine r_iload_n d_X12_habits_54 3 rfl rfl ?_
        refine r_iconst d_X12_habits_55 ?_
        refine r_icmp_ne (tgt := 66) d_X12_habits_56 (by decide) h17 ⟨by decide, by decide⟩ (fun c19 => ?_) (fun c19 => ?_)
        · replace h := h.1 c19
          refine r_iload_n d_X12_habits_66 0 rfl rfl ?_
          exact r_ireturn d_X12_habits_67 rfl ⟨rfl, Nat.le_refl _, Nat.le_refl _⟩ h
        · replace h := h.2 c19
          refine r_aload_n d_X12_habits_59 1 rfl rfl ?_
          refine r_getI 12 65 65 rfl d_X12_habits_60 fl_X12_546 (by decide) (bs_ob bs_12) ?_
          refine r_goto (tgt := 67) d_X12_habits_63 (by decide) ?_
          exact r_ireturn d_X12_habits_67 rfl ⟨rfl, Nat.le_refl _, Nat.le_refl _⟩ h
      · replace h := h.2 c18
        refine r_aload_n d_X12_habits_47 1 rfl rfl ?_
        refine r_getI 12 63 63 rfl d_X12_habits_48 fl_X12_534 (by decide) (bs_ob bs_12) ?_
        refine r_goto (tgt := 67) d_X12_habits_51 (by decide) ?_
        exact r_ireturn d_X12_habits_67 rfl ⟨rfl, Nat.le_refl _, Nat.le_refl _⟩ h
  · replace h := h.2 c4
    refine r_iconst d_X12_habits_27 ?_
    exact r_ireturn d_X12_habits_28 rfl ⟨rfl, Nat.le_refl _, Nat.le_refl _⟩ h
theorem d_X12_orders_0 : decode M_X12_orders.2.1 0 = .ok (.iload_n 1, 1) := by decide +kernel
theorem d_X12_orders_1 : decode M_X12_orders.2.1 1 = .ok (.aload_n 0, 1) := by decide +kernel
theorem d_X12_orders_2 : decode M_X12_orders.2.1 2 = .ok (.getfield 13, 3) := by decide +kernel
theorem d_X12_orders_5 : decode M_X12_orders.2.1 5 = .ok (.bipush 8, 2) := by decide +kernel
theorem d_X12_orders_7 : decode M_X12_orders.2.1 7 = .ok (.iaload, 1) := by decide +kernel
theorem d_X12_orders_8 : decode M_X12_orders.2.1 8 = .ok (.if_icmp .ne 64, 3) := by decide +kernel
theorem d_X12_orders_11 : decode M_X12_orders.2.1 11 = .ok (.aload_n 0, 1) := by decide +kernel
theorem d_X12_orders_12 : decode M_X12_orders.2.1 12 = .ok (.invokevirtual 558, 3) := by decide +kernel
theorem d_X12_orders_15 : decode M_X12_orders.2.1 15 = .ok (.istore_n 3, 1) := by decide +kernel
theorem d_X12_orders_16 : decode M_X12_orders.2.1 16 = .ok (.aload_n 0, 1) := by decide +kernel
theorem d_X12_orders_17 : decode M_X12_orders.2.1 17 = .ok (.getfield 561, 3) := by decide +kernel
theorem d_X12_orders_20 : decode M_X12_orders.2.1 20 = .ok (.ifCond .lt 12, 3) := by decide +kernel
theorem d_X12_orders_23 : decode M_X12_orders.2.1 23 = .ok (.iload_n 3, 1) := by decide +kernel
theorem d_X12_orders_24 : decode M_X12_orders.2.1 24 = .ok (.aload_n 0, 1) := by decide +kernel
theorem d_X12_orders_25 : decode M_X12_orders.2.1 25 = .ok (.getfield 561, 3) := by decide +kernel
theorem d_X12_orders_28 : decode M_X12_orders.2.1 28 = .ok (.if_icmp .lt 4, 3) := by decide +kernel
theorem d_X12_orders_31 : decode M_X12_orders.2.1 31 = .ok (.return_, 1) := by decide +kernel
theorem d_X12_orders_32 : decode M_X12_orders.2.1 32 = .ok (.aload_n 0, 1) := by decide +kernel
theorem d_X12_orders_33 : decode M_X12_orders.2.1 33 = .ok (.iload_n 3, 1) := by decide +kernel
theorem d_X12_orders_34 : decode M_X12_orders.2.1 34 = .ok (.putfield 561, 3) := by decide +kernel
theorem d_X12_orders_37 : decode M_X12_orders.2.1 37 = .ok (.iconst 0, 1) := by decide +kernel
theorem d_X12_orders_38 : decode M_X12_orders.2.1 38 = .ok (.istore 4, 2) := by decide +kernel
theorem d_X12_orders_40 : decode M_X12_orders.2.1 40 = .ok (.iload 4, 2) := by decide +kernel
theorem d_X12_orders_42 : decode M_X12_orders.2.1 42 = .ok (.iload_n 1, 1) := by decide +kernel
theorem d_X12_orders_43 : decode M_X12_orders.2.1 43 = .ok (.if_icmp .ge 28, 3) := by decide +kernel
theorem d_X12_orders_46 : decode M_X12_orders.2.1 46 = .ok (.aload_n 0, 1) := by decide +kernel
theorem d_X12_orders_47 : decode M_X12_orders.2.1 47 = .ok (.getfield 153, 3) := by decide +kernel
theorem d_X12_orders_50 : decode M_X12_orders.2.1 50 = .ok (.iload 4, 2) := by decide +kernel
theorem d_X12_orders_52 : decode M_X12_orders.2.1 52 = .ok (.aload_n 0, 1) := by decide +kernel
theorem d_X12_orders_53 : decode M_X12_orders.2.1 53 = .ok (.getfield 126, 3) := by decide +kernel
theorem d_X12_orders_56 : decode M_X12_orders.2.1 56 = .ok (.aload_n 0, 1) := by decide +kernel
theorem d_X12_orders_57 : decode M_X12_orders.2.1 57 = .ok (.getfield 150, 3) := by decide +kernel
theorem d_X12_orders_60 : decode M_X12_orders.2.1 60 = .ok (.iload 4, 2) := by decide +kernel
theorem d_X12_orders_62 : decode M_X12_orders.2.1 62 = .ok (.iaload, 1) := by decide +kernel
theorem d_X12_orders_63 : decode M_X12_orders.2.1 63 = .ok (.iaload, 1) := by decide +kernel
theorem d_X12_orders_64 : decode M_X12_orders.2.1 64 = .ok (.iastore, 1) := by decide +kernel
theorem d_X12_orders_65 : decode M_X12_orders.2.1 65 = .ok (.iinc 4 1, 3) := by decide +kernel
theorem d_X12_orders_68 : decode M_X12_orders.2.1 68 = .ok (.goto (-28), 3) := by decide +kernel
theorem d_X12_orders_71 : decode M_X12_orders.2.1 71 = .ok (.return_, 1) := by decide +kernel
theorem d_X12_orders_72 : decode M_X12_orders.2.1 72 = .ok (.iconst 0, 1) := by decide +kernel
theorem d_X12_orders_73 : decode M_X12_orders.2.1 73 = .ok (.istore_n 3, 1) := by decide +kernel
theorem d_X12_orders_74 : decode M_X12_orders.2.1 74 = .ok (.iload_n 3, 1) := by decide +kernel
theorem d_X12_orders_75 : decode M_X12_orders.2.1 75 = .ok (.aload_n 0, 1) := by decide +kernel
theorem d_X12_orders_76 : decode M_X12_orders.2.1 76 = .ok (.getfield 13, 3) := by decide +kernel
theorem d_X12_orders_79 : decode M_X12_orders.2.1 79 = .ok (.bipush 8, 2) := by decide +kernel
theorem d_X12_orders_81 : decode M_X12_orders.2.1 81 = .ok (.iaload, 1) := by decide +kernel
theorem d_X12_orders_82 : decode M_X12_orders.2.1 82 = .ok (.if_icmp .ge 57, 3) := by decide +kernel
theorem d_X12_orders_85 : decode M_X12_orders.2.1 85 = .ok (.iload_n 2, 1) := by decide +kernel
theorem d_X12_orders_86 : decode M_X12_orders.2.1 86 = .ok (.iload_n 3, 1) := by decide +kernel
theorem d_X12_orders_87 : decode M_X12_orders.2.1 87 = .ok (.ishr, 1) := by decide +kernel
theorem d_X12_orders_88 : decode M_X12_orders.2.1 88 = .ok (.iconst 1, 1) := by decide +kernel
theorem d_X12_orders_89 : decode M_X12_orders.2.1 89 = .ok (.iand, 1) := by decide +kernel
theorem d_X12_orders_90 : decode M_X12_orders.2.1 90 = .ok (.iconst 1, 1) := by decide +kernel
theorem d_X12_orders_91 : decode M_X12_orders.2.1 91 = .ok (.if_icmp .ne 6, 3) := by decide +kernel
theorem d_X12_orders_94 : decode M_X12_orders.2.1 94 = .ok (.goto 39, 3) := by decide +kernel
theorem d_X12_orders_97 : decode M_X12_orders.2.1 97 = .ok (.aload_n 0, 1) := by decide +kernel
theorem d_X12_orders_98 : decode M_X12_orders.2.1 98 = .ok (.getfield 123, 3) := by decide +kernel
theorem d_X12_orders_101 : decode M_X12_orders.2.1 101 = .ok (.iload_n 3, 1) := by decide +kernel
theorem d_X12_orders_102 : decode M_X12_orders.2.1 102 = .ok (.aload_n 0, 1) := by decide +kernel
theorem d_X12_orders_103 : decode M_X12_orders.2.1 103 = .ok (.getfield 150, 3) := by decide +kernel
theorem d_X12_orders_106 : decode M_X12_orders.2.1 106 = .ok (.iload_n 1, 1) := by decide +kernel
theorem d_X12_orders_107 : decode M_X12_orders.2.1 107 = .ok (.iaload, 1) := by decide +kernel
theorem d_X12_orders_108 : decode M_X12_orders.2.1 108 = .ok (.iastore, 1) := by decide +kernel
theorem d_X12_orders_109 : decode M_X12_orders.2.1 109 = .ok (.aload_n 0, 1) := by decide +kernel
theorem d_X12_orders_110 : decode M_X12_orders.2.1 110 = .ok (.getfield 126, 3) := by decide +kernel
theorem d_X12_orders_113 : decode M_X12_orders.2.1 113 = .ok (.aload_n 0, 1) := by decide +kernel
theorem d_X12_orders_114 : decode M_X12_orders.2.1 114 = .ok (.getfield 150, 3) := by decide +kernel
theorem d_X12_orders_117 : decode M_X12_orders.2.1 117 = .ok (.iload_n 1, 1) := by decide +kernel
theorem d_X12_orders_118 : decode M_X12_orders.2.1 118 = .ok (.iaload, 1) := by decide +kernel
theorem d_X12_orders_119 : decode M_X12_orders.2.1 119 = .ok (.iload_n 3, 1) := by decide +kernel
theorem d_X12_orders_120 : decode M_X12_orders.2.1 120 = .ok (.iastore, 1) := by decide +kernel
theorem d_X12_orders_121 : decode M_X12_orders.2.1 121 = .ok (.aload_n 0, 1) := by decide +kernel
theorem d_X12_orders_122 : decode M_X12_orders.2.1 122 = .ok (.iload_n 1, 1) := by decide +kernel
theorem d_X12_orders_123 : decode M_X12_orders.2.1 123 = .ok (.iconst 1, 1) := by decide +kernel
theorem d_X12_orders_124 : decode M_X12_orders.2.1 124 = .ok (.iadd, 1) := by decide +kernel
theorem d_X12_orders_125 : decode M_X12_orders.2.1 125 = .ok (.iload_n 2, 1) := by decide +kernel
theorem d_X12_orders_126 : decode M_X12_orders.2.1 126 = .ok (.iconst 1, 1) := by decide +kernel
theorem d_X12_orders_127 : decode M_X12_orders.2.1 127 = .ok (.iload_n 3, 1) := by decide +kernel
theorem d_X12_orders_128 : decode M_X12_orders.2.1 128 = .ok (.ishl, 1) := by decide +kernel
theorem d_X12_orders_129 : decode M_X12_orders.2.1 129 = .ok (.ior, 1) := by decide +kernel
theorem d_X12_orders_130 : decode M_X12_orders.2.1 130 = .ok (.invokevirtual 564, 3) := by decide +kernel
theorem d_X12_orders_133 : decode M_X12_orders.2.1 133 = .ok (.iinc 3 1, 3) := by decide +kernel
theorem d_X12_orders_136 : decode M_X12_orders.2.1 136 = .ok (.goto (-62), 3) := by decide +kernel
theorem d_X12_orders_139 : decode M_X12_orders.2.1 139 = .ok (.return_, 1) := by decide +kernel
set_option maxRecDepth 20000 in
theorem s_X12_orders_0 {d : Nat} {p0 : Int} {p1 : Int} {G : Mem} {Q : Int → Mem → Prop}  (h : (InR p0) ∧ (InR (G 313 8)) ∧ ((p0 ≠ (G 313 8)) → Rn (d + 1) M_X12_orders zN 74 [(0, (2, 311)), (1, (0, p0)), (2, (0, p1)), (3, (0, 0))] [] G Q) ∧ (¬ (p0 ≠ (G 313 8)) → Ct d M_X12_pence NT 0 0 (some lay) [(2, 311)] G (fun r5 G4 => (InR (G4 311 71)) ∧ (((G4 311 71) < 0) → (∀ G8 : Mem, G8 = st G4 311 71 r5 → Rn (d + 1) M_X12_orders zN 40 [(0, (2, 311)), (1, (0, p0)), (4, (0, 0))] [] G8 Q)) ∧ (¬ ((G4 311 71) < 0) → (InR r5) ∧ ((r5 < (G4 311 71)) → (∀ G11 : Mem, G11 = st G4 311 71 r5 → Rn (d + 1) M_X12_orders zN 40 [(0, (2, 311)), (1, (0, p0)), (4, (0, 0))] [] G11 Q)) ∧ (¬ (r5 < (G4 311 71)) → Q 0 G4))))) : Rn (d + 1) M_X12_orders zN 0 [(0, (2, 311)), (1, (0, p0)), (2, (0, p1))] [] G Q := by
  refine r_iload_n d_X12_orders_0 1 rfl rfl ?_
  refine r_aload_n d_X12_orders_1 0 rfl rfl ?_
  refine r_getL (v := 313) 12 10 10 rfl d_X12_orders_2 fl_X12_13 (by decide) (bs_ob bs_12) (ly_12_10 bs_12).1 (ly_12_10 bs_12).2.1 ?_
  refine r_bipush d_X12_orders_5 (by decide +kernel) ?_
  refine r_iaload d_X12_orders_7 (ly_12_10 bs_12).2.2 (by decide) ?_
  obtain ⟨h1, h⟩ := h
  obtain ⟨h2, h⟩ := h
  refine r_icmp_ne (tgt := 72) d_X12_orders_8 (by decide) h1 h2 (fun c3 => ?_) (fun c3 => ?_)
  · replace h := h.1 c3
    refine r_iconst d_X12_orders_72 ?_
    refine r_istore_n (ls1 := [(3, (0, 0)), (0, (2, 311)), (1, (0, p0)), (2, (0, p1))]) d_X12_orders_73 rfl (by decide) rfl ?_
    exact Rn.sub [1, 2, 3, 0] rfl h
  · replace h := h.2 c3
    refine r_aload_n d_X12_orders_11 0 rfl rfl ?_
    refine r_callV0 (M' := M_X12_pence) (ci := 12) [] d_X12_orders_12 cl_X12_558 rfl (Nat.le_of_ble_eq_true rfl) (by decide) rfl (bs_ob bs_12) ?_
    refine Ct.mono h (fun r5 G4 h => ?_)
    show Rn _ M_X12_orders zN 15 [(0, (2, 311)), (1, (0, p0)), (2, (0, p1))] [(0, r5)] G4 Q
    refine r_istore_n (ls1 := [(3, (0, r5)), (0, (2, 311)), (1, (0, p0)), (2, (0, p1))]) d_X12_orders_15 rfl (by decide) rfl ?_
    refine r_aload_n d_X12_orders_16 1 rfl rfl ?_
    refine r_getI 12 71 71 rfl d_X12_orders_17 fl_X12_561 (by decide) (bs_ob bs_12) ?_
    obtain ⟨h6, h⟩ := h
    refine r_if_lt (tgt := 32) d_X12_orders_20 (by decide) h6 (fun c7 => ?_) (fun c7 => ?_)
    · replace h := h.1 c7
      refine r_aload_n d_X12_orders_32 1 rfl rfl ?_
      refine r_iload_n d_X12_orders_33 0 rfl rfl ?_
      obtain ⟨G8, eG8⟩ : ∃ y : Mem, y = st G4 311 71 r5 := ⟨_, rfl⟩
      replace h := h G8 eG8
      refine r_putI 12 71 71 rfl d_X12_orders_34 fl_X12_561 (by decide) nofin_12_71 (bs_ob bs_12) ?_
      rw [← eG8]
      refine r_iconst d_X12_orders_37 ?_
      refine r_istore (ls1 := [(4, (0, 0)), (3, (0, r5)), (0, (2, 311)), (1, (0, p0)), (2, (0, p1))]) d_X12_orders_38 (by decide) rfl ?_
      exact Rn.sub [2, 3, 0] rfl h
    · replace h := h.2 c7
      refine r_iload_n d_X12_orders_23 0 rfl rfl ?_
      refine r_aload_n d_X12_orders_24 1 rfl rfl ?_
      refine r_getI 12 71 71 rfl d_X12_orders_25 fl_X12_561 (by decide) (bs_ob bs_12) ?_
      obtain ⟨h9, h⟩ := h
      refine r_icmp_lt (tgt := 32) d_X12_orders_28 (by decide) h9 h6 (fun c10 => ?_) (fun c10 => ?_)
      · replace h := h.1 c10
        refine r_aload_n d_X12_orders_32 1 rfl rfl ?_
        refine r_iload_n d_X12_orders_33 0 rfl rfl ?_
        obtain ⟨G11, eG11⟩ : ∃ y : Mem, y = st G4 311 71 r5 := ⟨_, rfl⟩
        replace h := h G11 eG11
        refine r_putI 12 71 71 rfl d_X12_orders_34 fl_X12_561 (by decide) nofin_12_71 (bs_ob bs_12) ?_
        rw [← eG11]
        refine r_iconst d_X12_orders_37 ?_
        refine r_istore (ls1 := [(4, (0, 0)), (3, (0, r5)), (0, (2, 311)), (1, (0, p0)), (2, (0, p1))]) d_X12_orders_38 (by decide) rfl ?_
        exact Rn.sub [2, 3, 0] rfl h
      · replace h := h.2 c10
        exact r_ret d_X12_orders_31 rfl ⟨rfl, Nat.le_refl _, Nat.le_refl _⟩ h
set_option maxRecDepth 20000 in
theorem s_X12_orders_74 {d : Nat} {x1 : Int} {x2 : Int} {x3 : Int} {G : Mem} {Q : Int → Mem → Prop}  (h : (InR x3) ∧ (InR (G 313 8)) ∧ (((G 313 8) ≤ x3) → Q 0 G) ∧ (¬ ((G 313 8) ≤ x3) → (InR (andI (shrI x2 x3) 1)) ∧ (((andI (shrI x2 x3) 1) ≠ 1) → (0 ≤ x1 ∧ x1 < 5) ∧ ((0 ≤ x3 ∧ x3 < 5) ∧ (∀ G8 : Mem, G8 = st G 349 x3 (G 358 x1) → (0 ≤ (G8 358 x1) ∧ (G8 358 x1) < 5) ∧ (∀ G10 : Mem, G10 = st G8 350 (G8 358 x1) x3 → Ct d M_X12_orders NT 0 0 (some lay) [(2, 311), (0, (x1 + 1)), (0, (orI x2 (shlI 1 x3)))] G10 (fun r12 G11 => Rn (d + 1) M_X12_orders zN 74 [(0, (2, 311)), (1, (0, x1)), (2, (0, x2)), (3, (0, (x3 + 1)))] [] G11 Q))))) ∧ (¬ ((andI (shrI x2 x3) 1) ≠ 1) → Rn (d + 1) M_X12_orders zN 74 [(0, (2, 311)), (1, (0, x1)), (2, (0, x2)), (3, (0, (x3 + 1)))] [] G Q))) : Rn (d + 1) M_X12_orders zN 74 [(0, (2, 311)), (1, (0, x1)), (2, (0, x2)), (3, (0, x3))] [] G Q := by
  refine r_iload_n d_X12_orders_74 3 rfl rfl ?_
  refine r_aload_n d_X12_orders_75 0 rfl rfl ?_
  refine r_getL (v := 313) 12 10 10 rfl d_X12_orders_76 fl_X12_13 (by decide) (bs_ob bs_12) (ly_12_10 bs_12).1 (ly_12_10 bs_12).2.1 ?_
  refine r_bipush d_X12_orders_79 (by decide +kernel) ?_
  refine r_iaload d_X12_orders_81 (ly_12_10 bs_12).2.2 (by decide) ?_
  obtain ⟨h1, h⟩ := h
  obtain ⟨h2, h⟩ := h
  refine r_icmp_ge (tgt := 139) d_X12_orders_82 (by decide) h1 h2 (fun c3 => ?_) (fun c3 => ?_)
  · replace h := h.1 c3
    exact r_ret d_X12_orders_139 rfl ⟨rfl, Nat.le_refl _, Nat.le_refl _⟩ h
  · replace h := h.2 c3
    refine r_iload_n d_X12_orders_85 2 rfl rfl ?_
    refine r_iload_n d_X12_orders_86 3 rfl rfl ?_
    refine r_ishr d_X12_orders_87 ?_
    refine r_iconst d_X12_orders_88 ?_
    refine r_iand d_X12_orders_89 ?_
    refine r_iconst d_X12_orders_90 ?_
    obtain ⟨h4, h⟩ := h
    refine r_icmp_ne (tgt := 97) d_X12_orders_91 (by decide) h4 ⟨by decide, by decide⟩ (fun c5 => ?_) (fun c5 => ?_)
    · replace h := h.1 c5
      refine r_aload_n d_X12_orders_97 0 rfl rfl ?_
      refine r_getL (v := 349) 12 54 54 rfl d_X12_orders_98 fl_X12_123 (by decide) (bs_ob bs_12) (ly_12_54 bs_12).1 (ly_12_54 bs_12).2.1 ?_
      refine r_iload_n d_X12_orders_101 3 rfl rfl ?_
      refine r_aload_n d_X12_orders_102 0 rfl rfl ?_
      refine r_getL (v := 358) 12 69 69 rfl d_X12_orders_103 fl_X12_150 (by decide) (bs_ob bs_12) (ly_12_69 bs_12).1 (ly_12_69 bs_12).2.1 ?_
      refine r_iload_n d_X12_orders_106 1 rfl rfl ?_
      obtain ⟨h6, h⟩ := h
      refine r_iaload d_X12_orders_107 (ly_12_69 bs_12).2.2 h6 ?_
      obtain ⟨h7, h⟩ := h
      obtain ⟨G8, eG8⟩ : ∃ y : Mem, y = st G 349 x3 (G 358 x1) := ⟨_, rfl⟩
      replace h := h G8 eG8
      refine r_iastore d_X12_orders_108 (ly_12_54 bs_12).2.2 h7 ?_
      rw [← eG8]
      refine r_aload_n d_X12_orders_109 0 rfl rfl ?_
      refine r_getL (v := 350) 12 55 55 rfl d_X12_orders_110 fl_X12_126 (by decide) (bs_ob bs_12) (ly_12_55 bs_12).1 (ly_12_55 bs_12).2.1 ?_
      refine r_aload_n d_X12_orders_113 0 rfl rfl ?_
      refine r_getL (v := 358) 12 69 69 rfl d_X12_orders_114 fl_X12_150 (by decide) (bs_ob bs_12) (ly_12_69 bs_12).1 (ly_12_69 bs_12).2.1 ?_
      refine r_iload_n d_X12_orders_117 1 rfl rfl ?_
      refine r_iaload d_X12_orders_118 (ly_12_69 bs_12).2.2 h6 ?_
      refine r_iload_n d_X12_orders_119 3 rfl rfl ?_
      obtain ⟨h9, h⟩ := h
      obtain ⟨G10, eG10⟩ : ∃ y : Mem, y = st G8 350 (G8 358 x1) x3 := ⟨_, rfl⟩
      replace h := h G10 eG10
      refine r_iastore d_X12_orders_120 (ly_12_55 bs_12).2.2 h9 ?_
      rw [← eG10]
      refine r_aload_n d_X12_orders_121 0 rfl rfl ?_
      refine r_iload_n d_X12_orders_122 1 rfl rfl ?_
      refine r_iconst d_X12_orders_123 ?_
      refine r_iadd d_X12_orders_124 ?_
      refine r_iload_n d_X12_orders_125 2 rfl rfl ?_
      refine r_iconst d_X12_orders_126 ?_
      refine r_iload_n d_X12_orders_127 3 rfl rfl ?_
      refine r_ishl d_X12_orders_128 ?_
      refine r_ior d_X12_orders_129 ?_
      refine r_callV0 (M' := M_X12_orders) (ci := 12) [(0, (x1 + 1)), (0, (orI x2 (shlI 1 x3)))] d_X12_orders_130 cl_X12_564 rfl (Nat.le_of_ble_eq_true rfl) (by decide) rfl (bs_ob bs_12) ?_
      refine Ct.mono h (fun r12 G11 h => ?_)
      show Rn _ M_X12_orders zN 133 [(0, (2, 311)), (1, (0, x1)), (2, (0, x2)), (3, (0, x3))] [] G11 Q
      refine r_iinc (ls1 := [(3, (0, (x3 + 1))), (0, (2, 311)), (1, (0, x1)), (2, (0, x2))]) d_X12_orders_133 3 rfl (by decide) rfl ?_
      refine r_goto (tgt := 74) d_X12_orders_136 (by decide) ?_
      exact Rn.sub [1, 2, 3, 0] rfl h
    · replace h := h.2 c5
      refine r_goto (tgt := 133) d_X12_orders_94 (by decide) ?_
      refine r_iinc (ls1 := [(3, (0, (x3 + 1))), (0, (2, 311)), (1, (0, x1)), (2, (0, x2))]) d_X12_orders_133 3 rfl (by decide) rfl ?_
      refine r_goto (tgt := 74) d_X12_orders_136 (by decide) ?_
      exact Rn.sub [1, 2, 3, 0] rfl h
set_option maxRecDepth 20000 in
theorem s_X12_orders_40 {d : Nat} {x1 : Int} {x4 : Int} {G : Mem} {Q : Int → Mem → Prop}  (h : (InR x4) ∧ (InR x1) ∧ ((x1 ≤ x4) → Q 0 G) ∧ (¬ (x1 ≤ x4) → (0 ≤ x4 ∧ x4 < 5) ∧ ((0 ≤ (G 358 x4) ∧ (G 358 x4) < 5) ∧ ((∀ G6 : Mem, G6 = st G 359 x4 (G 350 (G 358 x4)) → Rn d M_X12_orders zN 40 [(0, (2, 311)), (1, (0, x1)), (4, (0, (x4 + 1)))] [] G6 Q))))) : Rn d M_X12_orders zN 40 [(0, (2, 311)), (1, (0, x1)), (4, (0, x4))] [] G Q := by
  refine r_iload d_X12_orders_40 2 rfl ?_
  refine r_iload_n d_X12_orders_42 1 rfl rfl ?_
  obtain ⟨h1, h⟩ := h
  obtain ⟨h2, h⟩ := h
  refine r_icmp_ge (tgt := 71) d_X12_orders_43 (by decide) h1 h2 (fun c3 => ?_) (fun c3 => ?_)
  · replace h := h.1 c3
    exact r_ret d_X12_orders_71 rfl ⟨rfl, Nat.le_refl _, Nat.le_refl _⟩ h
  · replace h := h.2 c3
    refine r_aload_n d_X12_orders_46 0 rfl rfl ?_
    refine r_getL (v := 359) 12 70 70 rfl d_X12_orders_47 fl_X12_153 (by decide) (bs_ob bs_12) (ly_12_70 bs_12).1 (ly_12_70 bs_12).2.1 ?_
    refine r_iload d_X12_orders_50 2 rfl ?_
    refine r_aload_n d_X12_orders_52 0 rfl rfl ?_
    refine r_getL (v := 350) 12 55 55 rfl d_X12_orders_53 fl_X12_126 (by decide) (bs_ob bs_12) (ly_12_55 bs_12).1 (ly_12_55 bs_12).2.1 ?_
    refine r_aload_n d_X12_orders_56 0 rfl rfl ?_
    refine r_getL (v := 358) 12 69 69 rfl d_X12_orders_57 fl_X12_150 (by decide) (bs_ob bs_12) (ly_12_69 bs_12).1 (ly_12_69 bs_12).2.1 ?_
    refine r_iload d_X12_orders_60 2 rfl ?_
    obtain ⟨h4, h⟩ := h
    refine r_iaload d_X12_orders_62 (ly_12_69 bs_12).2.2 h4 ?_
    obtain ⟨h5, h⟩ := h
    refine r_iaload d_X12_orders_63 (ly_12_55 bs_12).2.2 h5 ?_
    obtain ⟨G6, eG6⟩ : ∃ y : Mem, y = st G 359 x4 (G 350 (G 358 x4)) := ⟨_, rfl⟩
    replace h := h G6 eG6
    refine r_iastore d_X12_orders_64 (ly_12_70 bs_12).2.2 h4 ?_
    rw [← eG6]
    refine r_iinc (ls1 := [(4, (0, (x4 + 1))), (0, (2, 311)), (1, (0, x1))]) d_X12_orders_65 2 rfl (by decide) rfl ?_
    refine r_goto (tgt := 40) d_X12_orders_68 (by decide) ?_
    exact Rn.sub [1, 2, 0] rfl h
theorem d_X12_seated_0 : decode M_X12_seated.2.1 0 = .ok (.aload_n 0, 1) := by decide +kernel
theorem d_X12_seated_1 : decode M_X12_seated.2.1 1 = .ok (.iconst 0, 1) := by decide +kernel
theorem d_X12_seated_2 : decode M_X12_seated.2.1 2 = .ok (.putfield 169, 3) := by decide +kernel
theorem d_X12_seated_5 : decode M_X12_seated.2.1 5 = .ok (.iload_n 1, 1) := by decide +kernel
theorem d_X12_seated_6 : decode M_X12_seated.2.1 6 = .ok (.iconst (-1), 1) := by decide +kernel
theorem d_X12_seated_7 : decode M_X12_seated.2.1 7 = .ok (.aload_n 0, 1) := by decide +kernel
theorem d_X12_seated_8 : decode M_X12_seated.2.1 8 = .ok (.getfield 13, 3) := by decide +kernel
theorem d_X12_seated_11 : decode M_X12_seated.2.1 11 = .ok (.bipush 8, 2) := by decide +kernel
theorem d_X12_seated_13 : decode M_X12_seated.2.1 13 = .ok (.iaload, 1) := by decide +kernel
theorem d_X12_seated_14 : decode M_X12_seated.2.1 14 = .ok (.iconst 1, 1) := by decide +kernel
theorem d_X12_seated_15 : decode M_X12_seated.2.1 15 = .ok (.isub, 1) := by decide +kernel
theorem d_X12_seated_16 : decode M_X12_seated.2.1 16 = .ok (.invokestatic 308, 3) := by decide +kernel
theorem d_X12_seated_19 : decode M_X12_seated.2.1 19 = .ok (.ifCond .eq 13, 3) := by decide +kernel
theorem d_X12_seated_22 : decode M_X12_seated.2.1 22 = .ok (.aload_n 0, 1) := by decide +kernel
theorem d_X12_seated_23 : decode M_X12_seated.2.1 23 = .ok (.getfield 13, 3) := by decide +kernel
theorem d_X12_seated_26 : decode M_X12_seated.2.1 26 = .ok (.bipush 8, 2) := by decide +kernel
theorem d_X12_seated_28 : decode M_X12_seated.2.1 28 = .ok (.iaload, 1) := by decide +kernel
theorem d_X12_seated_29 : decode M_X12_seated.2.1 29 = .ok (.ifCond .ne 6, 3) := by decide +kernel
theorem d_X12_seated_32 : decode M_X12_seated.2.1 32 = .ok (.bipush (-2), 2) := by decide +kernel
theorem d_X12_seated_34 : decode M_X12_seated.2.1 34 = .ok (.ireturn, 1) := by decide +kernel
theorem d_X12_seated_35 : decode M_X12_seated.2.1 35 = .ok (.aload_n 0, 1) := by decide +kernel
theorem d_X12_seated_36 : decode M_X12_seated.2.1 36 = .ok (.invokevirtual 555, 3) := by decide +kernel
theorem d_X12_seated_39 : decode M_X12_seated.2.1 39 = .ok (.iconst 0, 1) := by decide +kernel
theorem d_X12_seated_40 : decode M_X12_seated.2.1 40 = .ok (.istore_n 2, 1) := by decide +kernel
theorem d_X12_seated_41 : decode M_X12_seated.2.1 41 = .ok (.iconst 0, 1) := by decide +kernel
theorem d_X12_seated_42 : decode M_X12_seated.2.1 42 = .ok (.istore_n 3, 1) := by decide +kernel
theorem d_X12_seated_43 : decode M_X12_seated.2.1 43 = .ok (.iload_n 3, 1) := by decide +kernel
theorem d_X12_seated_44 : decode M_X12_seated.2.1 44 = .ok (.aload_n 0, 1) := by decide +kernel
theorem d_X12_seated_45 : decode M_X12_seated.2.1 45 = .ok (.getfield 13, 3) := by decide +kernel
theorem d_X12_seated_48 : decode M_X12_seated.2.1 48 = .ok (.iconst 0, 1) := by decide +kernel
theorem d_X12_seated_49 : decode M_X12_seated.2.1 49 = .ok (.iaload, 1) := by decide +kernel
theorem d_X12_seated_50 : decode M_X12_seated.2.1 50 = .ok (.if_icmp .ge 31, 3) := by decide +kernel
theorem d_X12_seated_53 : decode M_X12_seated.2.1 53 = .ok (.aload_n 0, 1) := by decide +kernel
theorem d_X12_seated_54 : decode M_X12_seated.2.1 54 = .ok (.getfield 126, 3) := by decide +kernel
theorem d_X12_seated_57 : decode M_X12_seated.2.1 57 = .ok (.iload_n 3, 1) := by decide +kernel
theorem d_X12_seated_58 : decode M_X12_seated.2.1 58 = .ok (.iaload, 1) := by decide +kernel
theorem d_X12_seated_59 : decode M_X12_seated.2.1 59 = .ok (.ifCond .ge 6, 3) := by decide +kernel
theorem d_X12_seated_62 : decode M_X12_seated.2.1 62 = .ok (.goto 13, 3) := by decide +kernel
theorem d_X12_seated_65 : decode M_X12_seated.2.1 65 = .ok (.aload_n 0, 1) := by decide +kernel
theorem d_X12_seated_66 : decode M_X12_seated.2.1 66 = .ok (.getfield 150, 3) := by decide +kernel
theorem d_X12_seated_69 : decode M_X12_seated.2.1 69 = .ok (.iload_n 2, 1) := by decide +kernel
theorem d_X12_seated_70 : decode M_X12_seated.2.1 70 = .ok (.iload_n 3, 1) := by decide +kernel
theorem d_X12_seated_71 : decode M_X12_seated.2.1 71 = .ok (.iastore, 1) := by decide +kernel
theorem d_X12_seated_72 : decode M_X12_seated.2.1 72 = .ok (.iinc 2 1, 3) := by decide +kernel
theorem d_X12_seated_75 : decode M_X12_seated.2.1 75 = .ok (.iinc 3 1, 3) := by decide +kernel
theorem d_X12_seated_78 : decode M_X12_seated.2.1 78 = .ok (.goto (-35), 3) := by decide +kernel
theorem d_X12_seated_81 : decode M_X12_seated.2.1 81 = .ok (.aload_n 0, 1) := by decide +kernel
theorem d_X12_seated_82 : decode M_X12_seated.2.1 82 = .ok (.iconst (-1), 1) := by decide +kernel
theorem d_X12_seated_83 : decode M_X12_seated.2.1 83 = .ok (.putfield 561, 3) := by decide +kernel
theorem d_X12_seated_86 : decode M_X12_seated.2.1 86 = .ok (.aload_n 0, 1) := by decide +kernel
theorem d_X12_seated_87 : decode M_X12_seated.2.1 87 = .ok (.iconst 0, 1) := by decide +kernel
theorem d_X12_seated_88 : decode M_X12_seated.2.1 88 = .ok (.iconst 0, 1) := by decide +kernel
theorem d_X12_seated_89 : decode M_X12_seated.2.1 89 = .ok (.invokevirtual 564, 3) := by decide +kernel
theorem d_X12_seated_92 : decode M_X12_seated.2.1 92 = .ok (.iload_n 1, 1) := by decide +kernel
theorem d_X12_seated_93 : decode M_X12_seated.2.1 93 = .ok (.iconst (-1), 1) := by decide +kernel
theorem d_X12_seated_94 : decode M_X12_seated.2.1 94 = .ok (.if_icmp .ne 10, 3) := by decide +kernel
theorem d_X12_seated_97 : decode M_X12_seated.2.1 97 = .ok (.aload_n 0, 1) := by decide +kernel
theorem d_X12_seated_98 : decode M_X12_seated.2.1 98 = .ok (.getfield 561, 3) := by decide +kernel
theorem d_X12_seated_101 : decode M_X12_seated.2.1 101 = .ok (.goto 9, 3) := by decide +kernel
theorem d_X12_seated_104 : decode M_X12_seated.2.1 104 = .ok (.aload_n 0, 1) := by decide +kernel
theorem d_X12_seated_105 : decode M_X12_seated.2.1 105 = .ok (.getfield 153, 3) := by decide +kernel
theorem d_X12_seated_108 : decode M_X12_seated.2.1 108 = .ok (.iload_n 1, 1) := by decide +kernel
theorem d_X12_seated_109 : decode M_X12_seated.2.1 109 = .ok (.iaload, 1) := by decide +kernel
theorem d_X12_seated_110 : decode M_X12_seated.2.1 110 = .ok (.ireturn, 1) := by decide +kernel
set_option maxRecDepth 20000 in
theorem s_X12_seated_0 {d : Nat} {p0 : Int} {G : Mem} {Q : Int → Mem → Prop}  (h : (∀ G1 : Mem, G1 = st G 311 0 0 → Ct d M_X12_within NT 0 0 (some lay) [(0, p0), (0, (-1)), (0, ((G1 313 8) - 1))] G1 (fun r3 G2 => (InR r3) ∧ ((r3 = 0) → Q (-2) G2) ∧ (¬ (r3 = 0) → (InR (G2 313 8)) ∧ (((G2 313 8) ≠ 0) → Ct d M_X12_seatsAll NT 0 0 (some lay) [(2, 311)] G2 (fun r9 G8 => Rn (d + 1) M_X12_seated zN 43 [(0, (2, 311)), (1, (0, p0)), (2, (0, 0)), (3, (0, 0))] [] G8 Q)) ∧ (¬ ((G2 313 8) ≠ 0) → Q (-2) G2))))) : Rn (d + 1) M_X12_seated zN 0 [(0, (2, 311)), (1, (0, p0))] [] G Q := by
  refine r_aload_n d_X12_seated_0 0 rfl rfl ?_
  refine r_iconst d_X12_seated_1 ?_
  obtain ⟨G1, eG1⟩ : ∃ y : Mem, y = st G 311 0 0 := ⟨_, rfl⟩
  replace h := h G1 eG1
  refine r_putI 12 0 0 rfl d_X12_seated_2 fl_X12_169 (by decide) nofin_12_0 (bs_ob bs_12) ?_
  rw [← eG1]
  refine r_iload_n d_X12_seated_5 1 rfl rfl ?_
  refine r_iconst d_X12_seated_6 ?_
  refine r_aload_n d_X12_seated_7 0 rfl rfl ?_
  refine r_getL (v := 313) 12 10 10 rfl d_X12_seated_8 fl_X12_13 (by decide) (bs_ob bs_12) (ly_12_10 bs_12).1 (ly_12_10 bs_12).2.1 ?_
  refine r_bipush d_X12_seated_11 (by decide +kernel) ?_
  refine r_iaload d_X12_seated_13 (ly_12_10 bs_12).2.2 (by decide) ?_
  refine r_iconst d_X12_seated_14 ?_
  refine r_isub d_X12_seated_15 ?_
  refine r_callS0 (M' := M_X12_within) [(0, p0), (0, (-1)), (0, ((G1 313 8) - 1))] d_X12_seated_16 cl_X12_308 rfl (Nat.le_of_ble_eq_true rfl) ?_
  refine Ct.mono h (fun r3 G2 h => ?_)
  show Rn _ M_X12_seated zN 19 [(0, (2, 311)), (1, (0, p0))] [(0, r3)] G2 Q
  obtain ⟨h4, h⟩ := h
  refine r_if_eq (tgt := 32) d_X12_seated_19 (by decide) h4 (fun c5 => ?_) (fun c5 => ?_)
  · replace h := h.1 c5
    refine r_bipush d_X12_seated_32 (by decide +kernel) ?_
    exact r_ireturn d_X12_seated_34 rfl ⟨rfl, Nat.le_refl _, Nat.le_refl _⟩ h
  · replace h := h.2 c5
    refine r_aload_n d_X12_seated_22 0 rfl rfl ?_
    refine r_getL (v := 313) 12 10 10 rfl d_X12_seated_23 fl_X12_13 (by decide) (bs_ob bs_12) (ly_12_10 bs_12).1 (ly_12_10 bs_12).2.1 ?_
    refine r_bipush d_X12_seated_26 (by decide +kernel) ?_
    refine r_iaload d_X12_seated_28 (ly_12_10 bs_12).2.2 (by decide) ?_
    obtain ⟨h6, h⟩ := h
    refine r_if_ne (tgt := 35) d_X12_seated_29 (by decide) h6 (fun c7 => ?_) (fun c7 => ?_)
    · replace h := h.1 c7
      refine r_aload_n d_X12_seated_35 0 rfl rfl ?_
      refine r_callV0 (M' := M_X12_seatsAll) (ci := 12) [] d_X12_seated_36 cl_X12_555 rfl (Nat.le_of_ble_eq_true rfl) (by decide) rfl (bs_ob bs_12) ?_
      refine Ct.mono h (fun r9 G8 h => ?_)
      show Rn _ M_X12_seated zN 39 [(0, (2, 311)), (1, (0, p0))] [] G8 Q
      refine r_iconst d_X12_seated_39 ?_
      refine r_istore_n (ls1 := [(2, (0, 0)), (0, (2, 311)), (1, (0, p0))]) d_X12_seated_40 rfl (by decide) rfl ?_
      refine r_iconst d_X12_seated_41 ?_
      refine r_istore_n (ls1 := [(3, (0, 0)), (2, (0, 0)), (0, (2, 311)), (1, (0, p0))]) d_X12_seated_42 rfl (by decide) rfl ?_
      exact Rn.sub [2, 3, 1, 0] rfl h
    · replace h := h.2 c7
      refine r_bipush d_X12_seated_32 (by decide +kernel) ?_
      exact r_ireturn d_X12_seated_34 rfl ⟨rfl, Nat.le_refl _, Nat.le_refl _⟩ h
set_option maxRecDepth 20000 in
theorem s_X12_seated_43 {d : Nat} {x1 : Int} {x2 : Int} {x3 : Int} {G : Mem} {Q : Int → Mem → Prop}  (h : (InR x3) ∧ (InR (G 313 0)) ∧ (((G 313 0) ≤ x3) → (∀ G4 : Mem, G4 = st G 311 71 (-1) → Ct d M_X12_orders NT 0 0 (some lay) [(2, 311), (0, 0), (0, 0)] G4 (fun r6 G5 => (InR x1) ∧ ((x1 ≠ (-1)) → (0 ≤ x1 ∧ x1 < 5) ∧ (Q (G5 359 x1) G5)) ∧ (¬ (x1 ≠ (-1)) → Q (G5 311 71) G5)))) ∧ (¬ ((G 313 0) ≤ x3) → (0 ≤ x3 ∧ x3 < 5) ∧ ((InR (G 350 x3)) ∧ ((0 ≤ (G 350 x3)) → (0 ≤ x2 ∧ x2 < 5) ∧ (∀ G14 : Mem, G14 = st G 358 x2 x3 → Rn (d + 1) M_X12_seated zN 43 [(0, (2, 311)), (1, (0, x1)), (2, (0, (x2 + 1))), (3, (0, (x3 + 1)))] [] G14 Q)) ∧ (¬ (0 ≤ (G 350 x3)) → Rn (d + 1) M_X12_seated zN 43 [(0, (2, 311)), (1, (0, x1)), (2, (0, x2)), (3, (0, (x3 + 1)))] [] G Q)))) : Rn (d + 1) M_X12_seated zN 43 [(0, (2, 311)), (1, (0, x1)), (2, (0, x2)), (3, (0, x3))] [] G Q := by
  refine r_iload_n d_X12_seated_43 3 rfl rfl ?_
  refine r_aload_n d_X12_seated_44 0 rfl rfl ?_
  refine r_getL (v := 313) 12 10 10 rfl d_X12_seated_45 fl_X12_13 (by decide) (bs_ob bs_12) (ly_12_10 bs_12).1 (ly_12_10 bs_12).2.1 ?_
  refine r_iconst d_X12_seated_48 ?_
  refine r_iaload d_X12_seated_49 (ly_12_10 bs_12).2.2 (by decide) ?_
  obtain ⟨h1, h⟩ := h
  obtain ⟨h2, h⟩ := h
  refine r_icmp_ge (tgt := 81) d_X12_seated_50 (by decide) h1 h2 (fun c3 => ?_) (fun c3 => ?_)
  · replace h := h.1 c3
    refine r_aload_n d_X12_seated_81 0 rfl rfl ?_
    refine r_iconst d_X12_seated_82 ?_
    obtain ⟨G4, eG4⟩ : ∃ y : Mem, y = st G 311 71 (-1) := ⟨_, rfl⟩
    replace h := h G4 eG4
    refine r_putI 12 71 71 rfl d_X12_seated_83 fl_X12_561 (by decide) nofin_12_71 (bs_ob bs_12) ?_
    rw [← eG4]
    refine r_aload_n d_X12_seated_86 0 rfl rfl ?_
    refine r_iconst d_X12_seated_87 ?_
    refine r_iconst d_X12_seated_88 ?_
    refine r_callV0 (M' := M_X12_orders) (ci := 12) [(0, 0), (0, 0)] d_X12_seated_89 cl_X12_564 rfl (Nat.le_of_ble_eq_true rfl) (by decide) rfl (bs_ob bs_12) ?_
    refine Ct.mono h (fun r6 G5 h => ?_)
    show Rn _ M_X12_seated zN 92 [(0, (2, 311)), (1, (0, x1)), (2, (0, x2)), (3, (0, x3))] [] G5 Q
    refine r_iload_n d_X12_seated_92 1 rfl rfl ?_
    refine r_iconst d_X12_seated_93 ?_
    obtain ⟨h7, h⟩ := h
    refine r_icmp_ne (tgt := 104) d_X12_seated_94 (by decide) h7 ⟨by decide, by decide⟩ (fun c8 => ?_) (fun c8 => ?_)
    · replace h := h.1 c8
      refine r_aload_n d_X12_seated_104 0 rfl rfl ?_
      refine r_getL (v := 359) 12 70 70 rfl d_X12_seated_105 fl_X12_153 (by decide) (bs_ob bs_12) (ly_12_70 bs_12).1 (ly_12_70 bs_12).2.1 ?_
      refine r_iload_n d_X12_seated_108 1 rfl rfl ?_
      obtain ⟨h9, h⟩ := h
      refine r_iaload d_X12_seated_109 (ly_12_70 bs_12).2.2 h9 ?_
      exact r_ireturn d_X12_seated_110 rfl ⟨rfl, Nat.le_refl _, Nat.le_refl _⟩ h
    · replace h := h.2 c8
      refine r_aload_n d_X12_seated_97 0 rfl rfl ?_
      refine r_getI 12 71 71 rfl d_X12_seated_98 fl_X12_561 (by decide) (bs_ob bs_12) ?_
      refine r_goto (tgt := 110) d_X12_seated_101 (by decide) ?_
      exact r_ireturn d_X12_seated_110 rfl ⟨rfl, Nat.le_refl _, Nat.le_refl _⟩ h
  · replace h := h.2 c3
    refine r_aload_n d_X12_seated_53 0 rfl rfl ?_
    refine r_getL (v := 350) 12 55 55 rfl d_X12_seated_54 fl_X12_126 (by decide) (bs_ob bs_12) (ly_12_55 bs_12).1 (ly_12_55 bs_12).2.1 ?_
    refine r_iload_n d_X12_seated_57 3 rfl rfl ?_
    obtain ⟨h10, h⟩ := h
    refine r_iaload d_X12_seated_58 (ly_12_55 bs_12).2.2 h10 ?_
    obtain ⟨h11, h⟩ := h
    refine r_if_ge (tgt := 65) d_X12_seated_59 (by decide) h11 (fun c12 => ?_) (fun c12 => ?_)
    · replace h := h.1 c12
      refine r_aload_n d_X12_seated_65 0 rfl rfl ?_
      refine r_getL (v := 358) 12 69 69 rfl d_X12_seated_66 fl_X12_150 (by decide) (bs_ob bs_12) (ly_12_69 bs_12).1 (ly_12_69 bs_12).2.1 ?_
      refine r_iload_n d_X12_seated_69 2 rfl rfl ?_
      refine r_iload_n d_X12_seated_70 3 rfl rfl ?_
      obtain ⟨h13, h⟩ := h
      obtain ⟨G14, eG14⟩ : ∃ y : Mem, y = st G 358 x2 x3 := ⟨_, rfl⟩
      replace h := h G14 eG14
      refine r_iastore d_X12_seated_71 (ly_12_69 bs_12).2.2 h13 ?_
      rw [← eG14]
      refine r_iinc (ls1 := [(2, (0, (x2 + 1))), (0, (2, 311)), (1, (0, x1)), (3, (0, x3))]) d_X12_seated_72 2 rfl (by decide) rfl ?_
      refine r_iinc (ls1 := [(3, (0, (x3 + 1))), (2, (0, (x2 + 1))), (0, (2, 311)), (1, (0, x1))]) d_X12_seated_75 3 rfl (by decide) rfl ?_
      refine r_goto (tgt := 43) d_X12_seated_78 (by decide) ?_
      exact Rn.sub [2, 3, 1, 0] rfl h
    · replace h := h.2 c12
      refine r_goto (tgt := 75) d_X12_seated_62 (by decide) ?_
      refine r_iinc (ls1 := [(3, (0, (x3 + 1))), (0, (2, 311)), (1, (0, x1)), (2, (0, x2))]) d_X12_seated_75 3 rfl (by decide) rfl ?_
      refine r_goto (tgt := 43) d_X12_seated_78 (by decide) ?_
      exact Rn.sub [1, 2, 3, 0] rfl h
theorem d_X12_ownPence_0 : decode M_X12_ownPence.2.1 0 = .ok (.aload_n 0, 1) := by decide +kernel
theorem d_X12_ownPence_1 : decode M_X12_ownPence.2.1 1 = .ok (.invokevirtual 558, 3) := by decide +kernel
theorem d_X12_ownPence_4 : decode M_X12_ownPence.2.1 4 = .ok (.pop, 1) := by decide +kernel
theorem d_X12_ownPence_5 : decode M_X12_ownPence.2.1 5 = .ok (.aload_n 0, 1) := by decide +kernel
theorem d_X12_ownPence_6 : decode M_X12_ownPence.2.1 6 = .ok (.getfield 13, 3) := by decide +kernel
theorem d_X12_ownPence_9 : decode M_X12_ownPence.2.1 9 = .ok (.iconst 3, 1) := by decide +kernel
theorem d_X12_ownPence_10 : decode M_X12_ownPence.2.1 10 = .ok (.iaload, 1) := by decide +kernel
theorem d_X12_ownPence_11 : decode M_X12_ownPence.2.1 11 = .ok (.aload_n 0, 1) := by decide +kernel
theorem d_X12_ownPence_12 : decode M_X12_ownPence.2.1 12 = .ok (.getfield 144, 3) := by decide +kernel
theorem d_X12_ownPence_15 : decode M_X12_ownPence.2.1 15 = .ok (.iload_n 1, 1) := by decide +kernel
theorem d_X12_ownPence_16 : decode M_X12_ownPence.2.1 16 = .ok (.iaload, 1) := by decide +kernel
theorem d_X12_ownPence_17 : decode M_X12_ownPence.2.1 17 = .ok (.imul, 1) := by decide +kernel
theorem d_X12_ownPence_18 : decode M_X12_ownPence.2.1 18 = .ok (.aload_n 0, 1) := by decide +kernel
theorem d_X12_ownPence_19 : decode M_X12_ownPence.2.1 19 = .ok (.getfield 13, 3) := by decide +kernel
theorem d_X12_ownPence_22 : decode M_X12_ownPence.2.1 22 = .ok (.iconst 5, 1) := by decide +kernel
theorem d_X12_ownPence_23 : decode M_X12_ownPence.2.1 23 = .ok (.iaload, 1) := by decide +kernel
theorem d_X12_ownPence_24 : decode M_X12_ownPence.2.1 24 = .ok (.aload_n 0, 1) := by decide +kernel
theorem d_X12_ownPence_25 : decode M_X12_ownPence.2.1 25 = .ok (.getfield 147, 3) := by decide +kernel
theorem d_X12_ownPence_28 : decode M_X12_ownPence.2.1 28 = .ok (.iload_n 1, 1) := by decide +kernel
theorem d_X12_ownPence_29 : decode M_X12_ownPence.2.1 29 = .ok (.iaload, 1) := by decide +kernel
theorem d_X12_ownPence_30 : decode M_X12_ownPence.2.1 30 = .ok (.imul, 1) := by decide +kernel
theorem d_X12_ownPence_31 : decode M_X12_ownPence.2.1 31 = .ok (.iadd, 1) := by decide +kernel
theorem d_X12_ownPence_32 : decode M_X12_ownPence.2.1 32 = .ok (.ireturn, 1) := by decide +kernel
set_option maxRecDepth 20000 in
theorem s_X12_ownPence_0 {d : Nat} {p0 : Int} {G : Mem} {Q : Int → Mem → Prop}  (h : Ct d M_X12_pence NT 0 0 (some lay) [(2, 311)] G (fun r2 G1 => (0 ≤ p0 ∧ p0 < 5) ∧ (Q (((G1 313 3) * (G1 356 p0)) + ((G1 313 5) * (G1 357 p0))) G1))) : Rn (d + 1) M_X12_ownPence zN 0 [(0, (2, 311)), (1, (0, p0))] [] G Q := by
  refine r_aload_n d_X12_ownPence_0 0 rfl rfl ?_
  refine r_callV0 (M' := M_X12_pence) (ci := 12) [] d_X12_ownPence_1 cl_X12_558 rfl (Nat.le_of_ble_eq_true rfl) (by decide) rfl (bs_ob bs_12) ?_
  refine Ct.mono h (fun r2 G1 h => ?_)
  show Rn _ M_X12_ownPence zN 4 [(0, (2, 311)), (1, (0, p0))] [(0, r2)] G1 Q
  refine r_pop 0 rfl (by decide) d_X12_ownPence_4 ?_
  refine r_aload_n d_X12_ownPence_5 0 rfl rfl ?_
  refine r_getL (v := 313) 12 10 10 rfl d_X12_ownPence_6 fl_X12_13 (by decide) (bs_ob bs_12) (ly_12_10 bs_12).1 (ly_12_10 bs_12).2.1 ?_
  refine r_iconst d_X12_ownPence_9 ?_
  refine r_iaload d_X12_ownPence_10 (ly_12_10 bs_12).2.2 (by decide) ?_
  refine r_aload_n d_X12_ownPence_11 0 rfl rfl ?_
  refine r_getL (v := 356) 12 61 61 rfl d_X12_ownPence_12 fl_X12_144 (by decide) (bs_ob bs_12) (ly_12_61 bs_12).1 (ly_12_61 bs_12).2.1 ?_
  refine r_iload_n d_X12_ownPence_15 1 rfl rfl ?_
  obtain ⟨h3, h⟩ := h
  refine r_iaload d_X12_ownPence_16 (ly_12_61 bs_12).2.2 h3 ?_
  refine r_imul d_X12_ownPence_17 ?_
  refine r_aload_n d_X12_ownPence_18 0 rfl rfl ?_
  refine r_getL (v := 313) 12 10 10 rfl d_X12_ownPence_19 fl_X12_13 (by decide) (bs_ob bs_12) (ly_12_10 bs_12).1 (ly_12_10 bs_12).2.1 ?_
  refine r_iconst d_X12_ownPence_22 ?_
  refine r_iaload d_X12_ownPence_23 (ly_12_10 bs_12).2.2 (by decide) ?_
  refine r_aload_n d_X12_ownPence_24 0 rfl rfl ?_
  refine r_getL (v := 357) 12 62 62 rfl d_X12_ownPence_25 fl_X12_147 (by decide) (bs_ob bs_12) (ly_12_62 bs_12).1 (ly_12_62 bs_12).2.1 ?_
  refine r_iload_n d_X12_ownPence_28 1 rfl rfl ?_
  refine r_iaload d_X12_ownPence_29 (ly_12_62 bs_12).2.2 h3 ?_
  refine r_imul d_X12_ownPence_30 ?_
  refine r_iadd d_X12_ownPence_31 ?_
  exact r_ireturn d_X12_ownPence_32 rfl ⟨rfl, Nat.le_refl _, Nat.le_refl _⟩ h
theorem d_X12_aisle_0 : decode M_X12_aisle.2.1 0 = .ok (.aload_n 0, 1) := by decide +kernel
theorem d_X12_aisle_1 : decode M_X12_aisle.2.1 1 = .ok (.aload_n 0, 1) := by decide +kernel
theorem d_X12_aisle_2 : decode M_X12_aisle.2.1 2 = .ok (.iload_n 1, 1) := by decide +kernel
theorem d_X12_aisle_3 : decode M_X12_aisle.2.1 3 = .ok (.invokevirtual 404, 3) := by decide +kernel
theorem d_X12_aisle_6 : decode M_X12_aisle.2.1 6 = .ok (.ifCond .eq 7, 3) := by decide +kernel
theorem d_X12_aisle_9 : decode M_X12_aisle.2.1 9 = .ok (.iconst 0, 1) := by decide +kernel
theorem d_X12_aisle_10 : decode M_X12_aisle.2.1 10 = .ok (.goto 4, 3) := by decide +kernel
theorem d_X12_aisle_13 : decode M_X12_aisle.2.1 13 = .ok (.iconst 1, 1) := by decide +kernel
theorem d_X12_aisle_14 : decode M_X12_aisle.2.1 14 = .ok (.putfield 169, 3) := by decide +kernel
theorem d_X12_aisle_17 : decode M_X12_aisle.2.1 17 = .ok (.aload_n 0, 1) := by decide +kernel
theorem d_X12_aisle_18 : decode M_X12_aisle.2.1 18 = .ok (.getfield 169, 3) := by decide +kernel
theorem d_X12_aisle_21 : decode M_X12_aisle.2.1 21 = .ok (.iconst 1, 1) := by decide +kernel
theorem d_X12_aisle_22 : decode M_X12_aisle.2.1 22 = .ok (.if_icmp .ne 5, 3) := by decide +kernel
theorem d_X12_aisle_25 : decode M_X12_aisle.2.1 25 = .ok (.iconst 0, 1) := by decide +kernel
theorem d_X12_aisle_26 : decode M_X12_aisle.2.1 26 = .ok (.ireturn, 1) := by decide +kernel
theorem d_X12_aisle_27 : decode M_X12_aisle.2.1 27 = .ok (.aload_n 0, 1) := by decide +kernel
theorem d_X12_aisle_28 : decode M_X12_aisle.2.1 28 = .ok (.invokevirtual 555, 3) := by decide +kernel
theorem d_X12_aisle_31 : decode M_X12_aisle.2.1 31 = .ok (.aload_n 0, 1) := by decide +kernel
theorem d_X12_aisle_32 : decode M_X12_aisle.2.1 32 = .ok (.iload_n 1, 1) := by decide +kernel
theorem d_X12_aisle_33 : decode M_X12_aisle.2.1 33 = .ok (.invokevirtual 567, 3) := by decide +kernel
theorem d_X12_aisle_36 : decode M_X12_aisle.2.1 36 = .ok (.istore_n 2, 1) := by decide +kernel
theorem d_X12_aisle_37 : decode M_X12_aisle.2.1 37 = .ok (.aload_n 0, 1) := by decide +kernel
theorem d_X12_aisle_38 : decode M_X12_aisle.2.1 38 = .ok (.getfield 13, 3) := by decide +kernel
theorem d_X12_aisle_41 : decode M_X12_aisle.2.1 41 = .ok (.iconst 0, 1) := by decide +kernel
theorem d_X12_aisle_42 : decode M_X12_aisle.2.1 42 = .ok (.iaload, 1) := by decide +kernel
theorem d_X12_aisle_43 : decode M_X12_aisle.2.1 43 = .ok (.iconst 1, 1) := by decide +kernel
theorem d_X12_aisle_44 : decode M_X12_aisle.2.1 44 = .ok (.isub, 1) := by decide +kernel
theorem d_X12_aisle_45 : decode M_X12_aisle.2.1 45 = .ok (.istore_n 3, 1) := by decide +kernel
theorem d_X12_aisle_46 : decode M_X12_aisle.2.1 46 = .ok (.aload_n 0, 1) := by decide +kernel
theorem d_X12_aisle_47 : decode M_X12_aisle.2.1 47 = .ok (.getfield 126, 3) := by decide +kernel
theorem d_X12_aisle_50 : decode M_X12_aisle.2.1 50 = .ok (.iload_n 3, 1) := by decide +kernel
theorem d_X12_aisle_51 : decode M_X12_aisle.2.1 51 = .ok (.iaload, 1) := by decide +kernel
theorem d_X12_aisle_52 : decode M_X12_aisle.2.1 52 = .ok (.ifCond .ge 9, 3) := by decide +kernel
theorem d_X12_aisle_55 : decode M_X12_aisle.2.1 55 = .ok (.iinc 3 (-1), 3) := by decide +kernel
theorem d_X12_aisle_58 : decode M_X12_aisle.2.1 58 = .ok (.goto (-12), 3) := by decide +kernel
theorem d_X12_aisle_61 : decode M_X12_aisle.2.1 61 = .ok (.aload_n 0, 1) := by decide +kernel
theorem d_X12_aisle_62 : decode M_X12_aisle.2.1 62 = .ok (.getfield 126, 3) := by decide +kernel
theorem d_X12_aisle_65 : decode M_X12_aisle.2.1 65 = .ok (.iload_n 3, 1) := by decide +kernel
theorem d_X12_aisle_66 : decode M_X12_aisle.2.1 66 = .ok (.iaload, 1) := by decide +kernel
theorem d_X12_aisle_67 : decode M_X12_aisle.2.1 67 = .ok (.istore 4, 2) := by decide +kernel
theorem d_X12_aisle_69 : decode M_X12_aisle.2.1 69 = .ok (.aload_n 0, 1) := by decide +kernel
theorem d_X12_aisle_70 : decode M_X12_aisle.2.1 70 = .ok (.getfield 126, 3) := by decide +kernel
theorem d_X12_aisle_73 : decode M_X12_aisle.2.1 73 = .ok (.aload_n 0, 1) := by decide +kernel
theorem d_X12_aisle_74 : decode M_X12_aisle.2.1 74 = .ok (.getfield 123, 3) := by decide +kernel
theorem d_X12_aisle_77 : decode M_X12_aisle.2.1 77 = .ok (.iload_n 1, 1) := by decide +kernel
theorem d_X12_aisle_78 : decode M_X12_aisle.2.1 78 = .ok (.iaload, 1) := by decide +kernel
theorem d_X12_aisle_79 : decode M_X12_aisle.2.1 79 = .ok (.iload 4, 2) := by decide +kernel
theorem d_X12_aisle_81 : decode M_X12_aisle.2.1 81 = .ok (.iastore, 1) := by decide +kernel
theorem d_X12_aisle_82 : decode M_X12_aisle.2.1 82 = .ok (.aload_n 0, 1) := by decide +kernel
theorem d_X12_aisle_83 : decode M_X12_aisle.2.1 83 = .ok (.getfield 123, 3) := by decide +kernel
theorem d_X12_aisle_86 : decode M_X12_aisle.2.1 86 = .ok (.iload 4, 2) := by decide +kernel
theorem d_X12_aisle_88 : decode M_X12_aisle.2.1 88 = .ok (.aload_n 0, 1) := by decide +kernel
theorem d_X12_aisle_89 : decode M_X12_aisle.2.1 89 = .ok (.getfield 123, 3) := by decide +kernel
theorem d_X12_aisle_92 : decode M_X12_aisle.2.1 92 = .ok (.iload_n 1, 1) := by decide +kernel
theorem d_X12_aisle_93 : decode M_X12_aisle.2.1 93 = .ok (.iaload, 1) := by decide +kernel
theorem d_X12_aisle_94 : decode M_X12_aisle.2.1 94 = .ok (.iastore, 1) := by decide +kernel
theorem d_X12_aisle_95 : decode M_X12_aisle.2.1 95 = .ok (.aload_n 0, 1) := by decide +kernel
theorem d_X12_aisle_96 : decode M_X12_aisle.2.1 96 = .ok (.getfield 126, 3) := by decide +kernel
theorem d_X12_aisle_99 : decode M_X12_aisle.2.1 99 = .ok (.iload_n 3, 1) := by decide +kernel
theorem d_X12_aisle_100 : decode M_X12_aisle.2.1 100 = .ok (.iload_n 1, 1) := by decide +kernel
theorem d_X12_aisle_101 : decode M_X12_aisle.2.1 101 = .ok (.iastore, 1) := by decide +kernel
theorem d_X12_aisle_102 : decode M_X12_aisle.2.1 102 = .ok (.aload_n 0, 1) := by decide +kernel
theorem d_X12_aisle_103 : decode M_X12_aisle.2.1 103 = .ok (.getfield 123, 3) := by decide +kernel
theorem d_X12_aisle_106 : decode M_X12_aisle.2.1 106 = .ok (.iload_n 1, 1) := by decide +kernel
theorem d_X12_aisle_107 : decode M_X12_aisle.2.1 107 = .ok (.iload_n 3, 1) := by decide +kernel
theorem d_X12_aisle_108 : decode M_X12_aisle.2.1 108 = .ok (.iastore, 1) := by decide +kernel
theorem d_X12_aisle_109 : decode M_X12_aisle.2.1 109 = .ok (.iload_n 2, 1) := by decide +kernel
theorem d_X12_aisle_110 : decode M_X12_aisle.2.1 110 = .ok (.aload_n 0, 1) := by decide +kernel
theorem d_X12_aisle_111 : decode M_X12_aisle.2.1 111 = .ok (.iload_n 1, 1) := by decide +kernel
theorem d_X12_aisle_112 : decode M_X12_aisle.2.1 112 = .ok (.invokevirtual 567, 3) := by decide +kernel
theorem d_X12_aisle_115 : decode M_X12_aisle.2.1 115 = .ok (.isub, 1) := by decide +kernel
theorem d_X12_aisle_116 : decode M_X12_aisle.2.1 116 = .ok (.ireturn, 1) := by decide +kernel
set_option maxRecDepth 20000 in
theorem s_X12_aisle_0 {d : Nat} {p0 : Int} {G : Mem} {Q : Int → Mem → Prop}  (h : Ct d M_X12_isSitter NT 0 0 (some lay) [(2, 311), (0, p0)] G (fun r2 G1 => (InR r2) ∧ ((r2 = 0) → Rn (d + 1) M_X12_aisle zN 14 [(0, (2, 311)), (1, (0, p0))] [(0, 1), (2, 311)] G1 Q) ∧ (¬ (r2 = 0) → Rn (d + 1) M_X12_aisle zN 14 [(0, (2, 311)), (1, (0, p0))] [(0, 0), (2, 311)] G1 Q))) : Rn (d + 1) M_X12_aisle zN 0 [(0, (2, 311)), (1, (0, p0))] [] G Q := by
  refine r_aload_n d_X12_aisle_0 0 rfl rfl ?_
  refine r_aload_n d_X12_aisle_1 0 rfl rfl ?_
  refine r_iload_n d_X12_aisle_2 1 rfl rfl ?_
  refine r_callV0 (M' := M_X12_isSitter) (ci := 12) [(0, p0)] d_X12_aisle_3 cl_X12_404 rfl (Nat.le_of_ble_eq_true rfl) (by decide) rfl (bs_ob bs_12) ?_
  refine Ct.mono h (fun r2 G1 h => ?_)
  show Rn _ M_X12_aisle zN 6 [(0, (2, 311)), (1, (0, p0))] [(0, r2), (2, 311)] G1 Q
  obtain ⟨h3, h⟩ := h
  refine r_if_eq (tgt := 13) d_X12_aisle_6 (by decide) h3 (fun c4 => ?_) (fun c4 => ?_)
  · replace h := h.1 c4
    refine r_iconst d_X12_aisle_13 ?_
    exact h
  · replace h := h.2 c4
    refine r_iconst d_X12_aisle_9 ?_
    refine r_goto (tgt := 14) d_X12_aisle_10 (by decide) ?_
    exact h
set_option maxRecDepth 20000 in
theorem s_X12_aisle_14 {d : Nat} {x1 : Int} {s0 : Int} {G : Mem} {Q : Int → Mem → Prop}  (h : (∀ G1 : Mem, G1 = st G 311 0 s0 → (InR (G1 311 0)) ∧ (((G1 311 0) ≠ 1) → Ct d M_X12_seatsAll NT 0 0 (some lay) [(2, 311)] G1 (fun r5 G4 => Ct d M_X12_ownPence NT 0 0 (some lay) [(2, 311), (0, x1)] G4 (fun r7 G6 => Rn (d + 1) M_X12_aisle zN 46 [(0, (2, 311)), (1, (0, x1)), (2, (0, r7)), (3, (0, ((G6 313 0) - 1)))] [] G6 Q))) ∧ (¬ ((G1 311 0) ≠ 1) → Q 0 G1))) : Rn (d + 1) M_X12_aisle zN 14 [(0, (2, 311)), (1, (0, x1))] [(0, s0), (2, 311)] G Q := by
  obtain ⟨G1, eG1⟩ : ∃ y : Mem, y = st G 311 0 s0 := ⟨_, rfl⟩
  replace h := h G1 eG1
  refine r_putI 12 0 0 rfl d_X12_aisle_14 fl_X12_169 (by decide) nofin_12_0 (bs_ob bs_12) ?_
  rw [← eG1]
  refine r_aload_n d_X12_aisle_17 0 rfl rfl ?_
  refine r_getI 12 0 0 rfl d_X12_aisle_18 fl_X12_169 (by decide) (bs_ob bs_12) ?_
  refine r_iconst d_X12_aisle_21 ?_
  obtain ⟨h2, h⟩ := h
  refine r_icmp_ne (tgt := 27) d_X12_aisle_22 (by decide) h2 ⟨by decide, by decide⟩ (fun c3 => ?_) (fun c3 => ?_)
  · replace h := h.1 c3
    refine r_aload_n d_X12_aisle_27 0 rfl rfl ?_
    refine r_callV0 (M' := M_X12_seatsAll) (ci := 12) [] d_X12_aisle_28 cl_X12_555 rfl (Nat.le_of_ble_eq_true rfl) (by decide) rfl (bs_ob bs_12) ?_
    refine Ct.mono h (fun r5 G4 h => ?_)
    show Rn _ M_X12_aisle zN 31 [(0, (2, 311)), (1, (0, x1))] [] G4 Q
    refine r_aload_n d_X12_aisle_31 0 rfl rfl ?_
    refine r_iload_n d_X12_aisle_32 1 rfl rfl ?_
    refine r_callV0 (M' := M_X12_ownPence) (ci := 12) [(0, x1)] d_X12_aisle_33 cl_X12_567 rfl (Nat.le_of_ble_eq_true rfl) (by decide) rfl (bs_ob bs_12) ?_
    refine Ct.mono h (fun r7 G6 h => ?_)
    show Rn _ M_X12_aisle zN 36 [(0, (2, 311)), (1, (0, x1))] [(0, r7)] G6 Q
    refine r_istore_n (ls1 := [(2, (0, r7)), (0, (2, 311)), (1, (0, x1))]) d_X12_aisle_36 rfl (by decide) rfl ?_
    refine r_aload_n d_X12_aisle_37 1 rfl rfl ?_
    refine r_getL (v := 313) 12 10 10 rfl d_X12_aisle_38 fl_X12_13 (by decide) (bs_ob bs_12) (ly_12_10 bs_12).1 (ly_12_10 bs_12).2.1 ?_
    refine r_iconst d_X12_aisle_41 ?_
    refine r_iaload d_X12_aisle_42 (ly_12_10 bs_12).2.2 (by decide) ?_
    refine r_iconst d_X12_aisle_43 ?_
    refine r_isub d_X12_aisle_44 ?_
    refine r_istore_n (ls1 := [(3, (0, ((G6 313 0) - 1))), (2, (0, r7)), (0, (2, 311)), (1, (0, x1))]) d_X12_aisle_45 rfl (by decide) rfl ?_
    exact Rn.sub [2, 3, 1, 0] rfl h
  · replace h := h.2 c3
    refine r_iconst d_X12_aisle_25 ?_
    exact r_ireturn d_X12_aisle_26 rfl ⟨rfl, Nat.le_refl _, Nat.le_refl _⟩ h
set_option maxRecDepth 20000 in
theorem s_X12_aisle_46 {d : Nat} {x1 : Int} {x2 : Int} {x3 : Int} {G : Mem} {Q : Int → Mem → Prop}  (h : (0 ≤ x3 ∧ x3 < 5) ∧ ((InR (G 350 x3)) ∧ ((0 ≤ (G 350 x3)) → (0 ≤ x1 ∧ x1 < 5) ∧ ((0 ≤ (G 349 x1) ∧ (G 349 x1) < 5) ∧ (∀ G6 : Mem, G6 = st G 350 (G 349 x1) (G 350 x3) → (0 ≤ (G 350 x3) ∧ (G 350 x3) < 5) ∧ (∀ G8 : Mem, G8 = st G6 349 (G 350 x3) (G6 349 x1) → (∀ G9 : Mem, G9 = st G8 350 x3 x1 → (∀ G10 : Mem, G10 = st G9 349 x1 x3 → Ct d M_X12_ownPence NT 0 0 (some lay) [(2, 311), (0, x1)] G10 (fun r12 G11 => Q (x2 - r12) G11))))))) ∧ (¬ (0 ≤ (G 350 x3)) → Rn (d + 1) M_X12_aisle zN 46 [(0, (2, 311)), (1, (0, x1)), (2, (0, x2)), (3, (0, (x3 + (-1))))] [] G Q))) : Rn (d + 1) M_X12_aisle zN 46 [(0, (2, 311)), (1, (0, x1)), (2, (0, x2)), (3, (0, x3))] [] G Q := by
  refine r_aload_n d_X12_aisle_46 0 rfl rfl ?_
  refine r_getL (v := 350) 12 55 55 rfl d_X12_aisle_47 fl_X12_126 (by decide) (bs_ob bs_12) (ly_12_55 bs_12).1 (ly_12_55 bs_12).2.1 ?_
  refine r_iload_n d_X12_aisle_50 3 rfl rfl ?_
  obtain ⟨h1, h⟩ := h
  refine r_iaload d_X12_aisle_51 (ly_12_55 bs_12).2.2 h1 ?_
  obtain ⟨h2, h⟩ := h
  refine r_if_ge (tgt := 61) d_X12_aisle_52 (by decide) h2 (fun c3 => ?_) (fun c3 => ?_)
  · replace h := h.1 c3
    refine r_aload_n d_X12_aisle_61 0 rfl rfl ?_
    refine r_getL (v := 350) 12 55 55 rfl d_X12_aisle_62 fl_X12_126 (by decide) (bs_ob bs_12) (ly_12_55 bs_12).1 (ly_12_55 bs_12).2.1 ?_
    refine r_iload_n d_X12_aisle_65 3 rfl rfl ?_
    refine r_iaload d_X12_aisle_66 (ly_12_55 bs_12).2.2 h1 ?_
    refine r_istore (ls1 := [(4, (0, (G 350 x3))), (0, (2, 311)), (1, (0, x1)), (2, (0, x2)), (3, (0, x3))]) d_X12_aisle_67 (by decide) rfl ?_
    refine r_aload_n d_X12_aisle_69 1 rfl rfl ?_
    refine r_getL (v := 350) 12 55 55 rfl d_X12_aisle_70 fl_X12_126 (by decide) (bs_ob bs_12) (ly_12_55 bs_12).1 (ly_12_55 bs_12).2.1 ?_
    refine r_aload_n d_X12_aisle_73 1 rfl rfl ?_
    refine r_getL (v := 349) 12 54 54 rfl d_X12_aisle_74 fl_X12_123 (by decide) (bs_ob bs_12) (ly_12_54 bs_12).1 (ly_12_54 bs_12).2.1 ?_
    refine r_iload_n d_X12_aisle_77 2 rfl rfl ?_
    obtain ⟨h4, h⟩ := h
    refine r_iaload d_X12_aisle_78 (ly_12_54 bs_12).2.2 h4 ?_
    refine r_iload d_X12_aisle_79 0 rfl ?_
    obtain ⟨h5, h⟩ := h
    obtain ⟨G6, eG6⟩ : ∃ y : Mem, y = st G 350 (G 349 x1) (G 350 x3) := ⟨_, rfl⟩
    replace h := h G6 eG6
    refine r_iastore d_X12_aisle_81 (ly_12_55 bs_12).2.2 h5 ?_
    rw [← eG6]
    refine r_aload_n d_X12_aisle_82 1 rfl rfl ?_
    refine r_getL (v := 349) 12 54 54 rfl d_X12_aisle_83 fl_X12_123 (by decide) (bs_ob bs_12) (ly_12_54 bs_12).1 (ly_12_54 bs_12).2.1 ?_
    refine r_iload d_X12_aisle_86 0 rfl ?_
    refine r_aload_n d_X12_aisle_88 1 rfl rfl ?_
    refine r_getL (v := 349) 12 54 54 rfl d_X12_aisle_89 fl_X12_123 (by decide) (bs_ob bs_12) (ly_12_54 bs_12).1 (ly_12_54 bs_12).2.1 ?_
    refine r_iload_n d_X12_aisle_92 2 rfl rfl ?_
    refine r_iaload d_X12_aisle_93 (ly_12_54 bs_12).2.2 h4 ?_
    obtain ⟨h7, h⟩ := h
    obtain ⟨G8, eG8⟩ : ∃ y : Mem, y = st G6 349 (G 350 x3) (G6 349 x1) := ⟨_, rfl⟩
    replace h := h G8 eG8
    refine r_iastore d_X12_aisle_94 (ly_12_54 bs_12).2.2 h7 ?_
    rw [← eG8]
    refine r_aload_n d_X12_aisle_95 1 rfl rfl ?_
    refine r_getL (v := 350) 12 55 55 rfl d_X12_aisle_96 fl_X12_126 (by decide) (bs_ob bs_12) (ly_12_55 bs_12).1 (ly_12_55 bs_12).2.1 ?_
    refine r_iload_n d_X12_aisle_99 4 rfl rfl ?_
    refine r_iload_n d_X12_aisle_100 2 rfl rfl ?_
    obtain ⟨G9, eG9⟩ : ∃ y : Mem, y = st G8 350 x3 x1 := ⟨_, rfl⟩
    replace h := h G9 eG9
    refine r_iastore d_X12_aisle_101 (ly_12_55 bs_12).2.2 h1 ?_
    rw [← eG9]
    refine r_aload_n d_X12_aisle_102 1 rfl rfl ?_
    refine r_getL (v := 349) 12 54 54 rfl d_X12_aisle_103 fl_X12_123 (by decide) (bs_ob bs_12) (ly_12_54 bs_12).1 (ly_12_54 bs_12).2.1 ?_
    refine r_iload_n d_X12_aisle_106 2 rfl rfl ?_
    refine r_iload_n d_X12_aisle_107 4 rfl rfl ?_
    obtain ⟨G10, eG10⟩ : ∃ y : Mem, y = st G9 349 x1 x3 := ⟨_, rfl⟩
    replace h := h G10 eG10
    refine r_iastore d_X12_aisle_108 (ly_12_54 bs_12).2.2 h4 ?_
    rw [← eG10]
    refine r_iload_n d_X12_aisle_109 3 rfl rfl ?_
    refine r_aload_n d_X12_aisle_110 1 rfl rfl ?_
    refine r_iload_n d_X12_aisle_111 2 rfl rfl ?_
    refine r_callV0 (M' := M_X12_ownPence) (ci := 12) [(0, x1)] d_X12_aisle_112 cl_X12_567 rfl (Nat.le_of_ble_eq_true rfl) (by decide) rfl (bs_ob bs_12) ?_
    refine Ct.mono h (fun r12 G11 h => ?_)
    show Rn _ M_X12_aisle zN 115 [(4, (0, (G 350 x3))), (0, (2, 311)), (1, (0, x1)), (2, (0, x2)), (3, (0, x3))] [(0, r12), (0, x2)] G11 Q
    refine r_isub d_X12_aisle_115 ?_
    exact r_ireturn d_X12_aisle_116 rfl ⟨rfl, Nat.le_refl _, Nat.le_refl _⟩ h
  · replace h := h.2 c3
    refine r_iinc (ls1 := [(3, (0, (x3 + (-1)))), (0, (2, 311)), (1, (0, x1)), (2, (0, x2))]) d_X12_aisle_55 3 rfl (by decide) rfl ?_
    refine r_goto (tgt := 46) d_X12_aisle_58 (by decide) ?_
    exact Rn.sub [1, 2, 3, 0] rfl h
theorem d_X12_beer_0 : decode M_X12_beer.2.1 0 = .ok (.aload_n 0, 1) := by decide +kernel
theorem d_X12_beer_1 : decode M_X12_beer.2.1 1 = .ok (.aload_n 0, 1) := by decide +kernel
theorem d_X12_beer_2 : decode M_X12_beer.2.1 2 = .ok (.iload_n 1, 1) := by decide +kernel
theorem d_X12_beer_3 : decode M_X12_beer.2.1 3 = .ok (.invokevirtual 404, 3) := by decide +kernel
theorem d_X12_beer_6 : decode M_X12_beer.2.1 6 = .ok (.ifCond .eq 18, 3) := by decide +kernel
theorem d_X12_beer_9 : decode M_X12_beer.2.1 9 = .ok (.aload_n 0, 1) := by decide +kernel
theorem d_X12_beer_10 : decode M_X12_beer.2.1 10 = .ok (.getfield 26, 3) := by decide +kernel
theorem d_X12_beer_13 : decode M_X12_beer.2.1 13 = .ok (.iload_n 1, 1) := by decide +kernel
theorem d_X12_beer_14 : decode M_X12_beer.2.1 14 = .ok (.iaload, 1) := by decide +kernel
theorem d_X12_beer_15 : decode M_X12_beer.2.1 15 = .ok (.bipush 9, 2) := by decide +kernel
theorem d_X12_beer_17 : decode M_X12_beer.2.1 17 = .ok (.if_icmp .ge 7, 3) := by decide +kernel
theorem d_X12_beer_20 : decode M_X12_beer.2.1 20 = .ok (.iconst 0, 1) := by decide +kernel
theorem d_X12_beer_21 : decode M_X12_beer.2.1 21 = .ok (.goto 4, 3) := by decide +kernel
theorem d_X12_beer_24 : decode M_X12_beer.2.1 24 = .ok (.iconst 1, 1) := by decide +kernel
theorem d_X12_beer_25 : decode M_X12_beer.2.1 25 = .ok (.putfield 169, 3) := by decide +kernel
theorem d_X12_beer_28 : decode M_X12_beer.2.1 28 = .ok (.aload_n 0, 1) := by decide +kernel
theorem d_X12_beer_29 : decode M_X12_beer.2.1 29 = .ok (.getfield 169, 3) := by decide +kernel
theorem d_X12_beer_32 : decode M_X12_beer.2.1 32 = .ok (.iconst 1, 1) := by decide +kernel
theorem d_X12_beer_33 : decode M_X12_beer.2.1 33 = .ok (.if_icmp .ne 5, 3) := by decide +kernel
theorem d_X12_beer_36 : decode M_X12_beer.2.1 36 = .ok (.iconst 0, 1) := by decide +kernel
theorem d_X12_beer_37 : decode M_X12_beer.2.1 37 = .ok (.ireturn, 1) := by decide +kernel
theorem d_X12_beer_38 : decode M_X12_beer.2.1 38 = .ok (.aload_n 0, 1) := by decide +kernel
theorem d_X12_beer_39 : decode M_X12_beer.2.1 39 = .ok (.invokevirtual 555, 3) := by decide +kernel
theorem d_X12_beer_42 : decode M_X12_beer.2.1 42 = .ok (.aload_n 0, 1) := by decide +kernel
theorem d_X12_beer_43 : decode M_X12_beer.2.1 43 = .ok (.invokevirtual 558, 3) := by decide +kernel
theorem d_X12_beer_46 : decode M_X12_beer.2.1 46 = .ok (.istore_n 2, 1) := by decide +kernel
theorem d_X12_beer_47 : decode M_X12_beer.2.1 47 = .ok (.aload_n 0, 1) := by decide +kernel
theorem d_X12_beer_48 : decode M_X12_beer.2.1 48 = .ok (.iload_n 1, 1) := by decide +kernel
theorem d_X12_beer_49 : decode M_X12_beer.2.1 49 = .ok (.putfield 518, 3) := by decide +kernel
theorem d_X12_beer_52 : decode M_X12_beer.2.1 52 = .ok (.aload_n 0, 1) := by decide +kernel
theorem d_X12_beer_53 : decode M_X12_beer.2.1 53 = .ok (.invokevirtual 558, 3) := by decide +kernel
theorem d_X12_beer_56 : decode M_X12_beer.2.1 56 = .ok (.iload_n 2, 1) := by decide +kernel
theorem d_X12_beer_57 : decode M_X12_beer.2.1 57 = .ok (.isub, 1) := by decide +kernel
theorem d_X12_beer_58 : decode M_X12_beer.2.1 58 = .ok (.ireturn, 1) := by decide +kernel
set_option maxRecDepth 20000 in
theorem s_X12_beer_0 {d : Nat} {p0 : Int} {G : Mem} {Q : Int → Mem → Prop}  (h : Ct d M_X12_isSitter NT 0 0 (some lay) [(2, 311), (0, p0)] G (fun r2 G1 => (InR r2) ∧ ((r2 = 0) → Rn (d + 1) M_X12_beer zN 25 [(0, (2, 311)), (1, (0, p0))] [(0, 1), (2, 311)] G1 Q) ∧ (¬ (r2 = 0) → (0 ≤ p0 ∧ p0 < 30) ∧ ((InR (G1 317 p0)) ∧ ((9 ≤ (G1 317 p0)) → Rn (d + 1) M_X12_beer zN 25 [(0, (2, 311)), (1, (0, p0))] [(0, 1), (2, 311)] G1 Q) ∧ (¬ (9 ≤ (G1 317 p0)) → Rn (d + 1) M_X12_beer zN 25 [(0, (2, 311)), (1, (0, p0))] [(0, 0), (2, 311)] G1 Q))))) : Rn (d + 1) M_X12_beer zN 0 [(0, (2, 311)), (1, (0, p0))] [] G Q := by
  refine r_aload_n d_X12_beer_0 0 rfl rfl ?_
  refine r_aload_n d_X12_beer_1 0 rfl rfl ?_
  refine r_iload_n d_X12_beer_2 1 rfl rfl ?_
  refine r_callV0 (M' := M_X12_isSitter) (ci := 12) [(0, p0)] d_X12_beer_3 cl_X12_404 rfl (Nat.le_of_ble_eq_true rfl) (by decide) rfl (bs_ob bs_12) ?_
  refine Ct.mono h (fun r2 G1 h => ?_)
  show Rn _ M_X12_beer zN 6 [(0, (2, 311)), (1, (0, p0))] [(0, r2), (2, 311)] G1 Q
  obtain ⟨h3, h⟩ := h
  refine r_if_eq (tgt := 24) d_X12_beer_6 (by decide) h3 (fun c4 => ?_) (fun c4 => ?_)
  · replace h := h.1 c4
    refine r_iconst d_X12_beer_24 ?_
    exact h
  · replace h := h.2 c4
    refine r_aload_n d_X12_beer_9 0 rfl rfl ?_
    refine r_getL (v := 317) 12 14 14 rfl d_X12_beer_10 fl_X12_26 (by decide) (bs_ob bs_12) (ly_12_14 bs_12).1 (ly_12_14 bs_12).2.1 ?_
    refine r_iload_n d_X12_beer_13 1 rfl rfl ?_
    obtain ⟨h5, h⟩ := h
    refine r_iaload d_X12_beer_14 (ly_12_14 bs_12).2.2 h5 ?_
    refine r_bipush d_X12_beer_15 (by decide +kernel) ?_
    obtain ⟨h6, h⟩ := h
    refine r_icmp_ge (tgt := 24) d_X12_beer_17 (by decide) h6 ⟨by decide, by decide⟩ (fun c7 => ?_) (fun c7 => ?_)
    · replace h := h.1 c7
      refine r_iconst d_X12_beer_24 ?_
      exact h
    · replace h := h.2 c7
      refine r_iconst d_X12_beer_20 ?_
      refine r_goto (tgt := 25) d_X12_beer_21 (by decide) ?_
      exact h
set_option maxRecDepth 20000 in
theorem s_X12_beer_25 {d : Nat} {x1 : Int} {s0 : Int} {G : Mem} {Q : Int → Mem → Prop}  (h : (∀ G1 : Mem, G1 = st G 311 0 s0 → (InR (G1 311 0)) ∧ (((G1 311 0) ≠ 1) → Ct d M_X12_seatsAll NT 0 0 (some lay) [(2, 311)] G1 (fun r5 G4 => Ct d M_X12_pence NT 0 0 (some lay) [(2, 311)] G4 (fun r7 G6 => (∀ G8 : Mem, G8 = st G6 311 66 x1 → Ct d M_X12_pence NT 0 0 (some lay) [(2, 311)] G8 (fun r10 G9 => Q (r10 - r7) G9))))) ∧ (¬ ((G1 311 0) ≠ 1) → Q 0 G1))) : Rn (d + 1) M_X12_beer zN 25 [(0, (2, 311)), (1, (0, x1))] [(0, s0), (2, 311)] G Q := by
  obtain ⟨G1, eG1⟩ : ∃ y : Mem, y = st G 311 0 s0 := ⟨_, rfl⟩
  replace h := h G1 eG1
  refine r_putI 12 0 0 rfl d_X12_beer_25 fl_X12_169 (by decide) nofin_12_0 (bs_ob bs_12) ?_
  rw [← eG1]
  refine r_aload_n d_X12_beer_28 0 rfl rfl ?_
  refine r_getI 12 0 0 rfl d_X12_beer_29 fl_X12_169 (by decide) (bs_ob bs_12) ?_
  refine r_iconst d_X12_beer_32 ?_
  obtain ⟨h2, h⟩ := h
  refine r_icmp_ne (tgt := 38) d_X12_beer_33 (by decide) h2 ⟨by decide, by decide⟩ (fun c3 => ?_) (fun c3 => ?_)
  · replace h := h.1 c3
    refine r_aload_n d_X12_beer_38 0 rfl rfl ?_
    refine r_callV0 (M' := M_X12_seatsAll) (ci := 12) [] d_X12_beer_39 cl_X12_555 rfl (Nat.le_of_ble_eq_true rfl) (by decide) rfl (bs_ob bs_12) ?_
    refine Ct.mono h (fun r5 G4 h => ?_)
    show Rn _ M_X12_beer zN 42 [(0, (2, 311)), (1, (0, x1))] [] G4 Q
    refine r_aload_n d_X12_beer_42 0 rfl rfl ?_
    refine r_callV0 (M' := M_X12_pence) (ci := 12) [] d_X12_beer_43 cl_X12_558 rfl (Nat.le_of_ble_eq_true rfl) (by decide) rfl (bs_ob bs_12) ?_
    refine Ct.mono h (fun r7 G6 h => ?_)
    show Rn _ M_X12_beer zN 46 [(0, (2, 311)), (1, (0, x1))] [(0, r7)] G6 Q
    refine r_istore_n (ls1 := [(2, (0, r7)), (0, (2, 311)), (1, (0, x1))]) d_X12_beer_46 rfl (by decide) rfl ?_
    refine r_aload_n d_X12_beer_47 1 rfl rfl ?_
    refine r_iload_n d_X12_beer_48 2 rfl rfl ?_
    obtain ⟨G8, eG8⟩ : ∃ y : Mem, y = st G6 311 66 x1 := ⟨_, rfl⟩
    replace h := h G8 eG8
    refine r_putI 12 66 66 rfl d_X12_beer_49 fl_X12_518 (by decide) nofin_12_66 (bs_ob bs_12) ?_
    rw [← eG8]
    refine r_aload_n d_X12_beer_52 1 rfl rfl ?_
    refine r_callV0 (M' := M_X12_pence) (ci := 12) [] d_X12_beer_53 cl_X12_558 rfl (Nat.le_of_ble_eq_true rfl) (by decide) rfl (bs_ob bs_12) ?_
    refine Ct.mono h (fun r10 G9 h => ?_)
    show Rn _ M_X12_beer zN 56 [(2, (0, r7)), (0, (2, 311)), (1, (0, x1))] [(0, r10)] G9 Q
    refine r_iload_n d_X12_beer_56 0 rfl rfl ?_
    refine r_isub d_X12_beer_57 ?_
    exact r_ireturn d_X12_beer_58 rfl ⟨rfl, Nat.le_refl _, Nat.le_refl _⟩ h
  · replace h := h.2 c3
    refine r_iconst d_X12_beer_36 ?_
    exact r_ireturn d_X12_beer_37 rfl ⟨rfl, Nat.le_refl _, Nat.le_refl _⟩ h
theorem d_X12_paysBy_0 : decode M_X12_paysBy.2.1 0 = .ok (.aload_n 0, 1) := by decide +kernel
theorem d_X12_paysBy_1 : decode M_X12_paysBy.2.1 1 = .ok (.getfield 156, 3) := by decide +kernel
theorem d_X12_paysBy_4 : decode M_X12_paysBy.2.1 4 = .ok (.iload_n 1, 1) := by decide +kernel
theorem d_X12_paysBy_5 : decode M_X12_paysBy.2.1 5 = .ok (.iaload, 1) := by decide +kernel
theorem d_X12_paysBy_6 : decode M_X12_paysBy.2.1 6 = .ok (.istore_n 2, 1) := by decide +kernel
theorem d_X12_paysBy_7 : decode M_X12_paysBy.2.1 7 = .ok (.iconst 0, 1) := by decide +kernel
theorem d_X12_paysBy_8 : decode M_X12_paysBy.2.1 8 = .ok (.istore_n 3, 1) := by decide +kernel
theorem d_X12_paysBy_9 : decode M_X12_paysBy.2.1 9 = .ok (.iconst 0, 1) := by decide +kernel
theorem d_X12_paysBy_10 : decode M_X12_paysBy.2.1 10 = .ok (.istore 4, 2) := by decide +kernel
theorem d_X12_paysBy_12 : decode M_X12_paysBy.2.1 12 = .ok (.iload 4, 2) := by decide +kernel
theorem d_X12_paysBy_14 : decode M_X12_paysBy.2.1 14 = .ok (.aload_n 0, 1) := by decide +kernel
theorem d_X12_paysBy_15 : decode M_X12_paysBy.2.1 15 = .ok (.getfield 570, 3) := by decide +kernel
theorem d_X12_paysBy_18 : decode M_X12_paysBy.2.1 18 = .ok (.if_icmp .ge 54, 3) := by decide +kernel
theorem d_X12_paysBy_21 : decode M_X12_paysBy.2.1 21 = .ok (.iload_n 3, 1) := by decide +kernel
theorem d_X12_paysBy_22 : decode M_X12_paysBy.2.1 22 = .ok (.aload_n 0, 1) := by decide +kernel
theorem d_X12_paysBy_23 : decode M_X12_paysBy.2.1 23 = .ok (.getfield 23, 3) := by decide +kernel
theorem d_X12_paysBy_26 : decode M_X12_paysBy.2.1 26 = .ok (.aload_n 0, 1) := by decide +kernel
theorem d_X12_paysBy_27 : decode M_X12_paysBy.2.1 27 = .ok (.getfield 156, 3) := by decide +kernel
theorem d_X12_paysBy_30 : decode M_X12_paysBy.2.1 30 = .ok (.iload 4, 2) := by decide +kernel
theorem d_X12_paysBy_32 : decode M_X12_paysBy.2.1 32 = .ok (.iaload, 1) := by decide +kernel
theorem d_X12_paysBy_33 : decode M_X12_paysBy.2.1 33 = .ok (.iaload, 1) := by decide +kernel
theorem d_X12_paysBy_34 : decode M_X12_paysBy.2.1 34 = .ok (.aload_n 0, 1) := by decide +kernel
theorem d_X12_paysBy_35 : decode M_X12_paysBy.2.1 35 = .ok (.getfield 23, 3) := by decide +kernel
theorem d_X12_paysBy_38 : decode M_X12_paysBy.2.1 38 = .ok (.iload_n 2, 1) := by decide +kernel
theorem d_X12_paysBy_39 : decode M_X12_paysBy.2.1 39 = .ok (.iaload, 1) := by decide +kernel
theorem d_X12_paysBy_40 : decode M_X12_paysBy.2.1 40 = .ok (.if_icmp .le 23, 3) := by decide +kernel
theorem d_X12_paysBy_43 : decode M_X12_paysBy.2.1 43 = .ok (.aload_n 0, 1) := by decide +kernel
theorem d_X12_paysBy_44 : decode M_X12_paysBy.2.1 44 = .ok (.getfield 159, 3) := by decide +kernel
theorem d_X12_paysBy_47 : decode M_X12_paysBy.2.1 47 = .ok (.iload 4, 2) := by decide +kernel
theorem d_X12_paysBy_49 : decode M_X12_paysBy.2.1 49 = .ok (.iaload, 1) := by decide +kernel
theorem d_X12_paysBy_50 : decode M_X12_paysBy.2.1 50 = .ok (.aload_n 0, 1) := by decide +kernel
theorem d_X12_paysBy_51 : decode M_X12_paysBy.2.1 51 = .ok (.getfield 159, 3) := by decide +kernel
theorem d_X12_paysBy_54 : decode M_X12_paysBy.2.1 54 = .ok (.iload_n 1, 1) := by decide +kernel
theorem d_X12_paysBy_55 : decode M_X12_paysBy.2.1 55 = .ok (.iaload, 1) := by decide +kernel
theorem d_X12_paysBy_56 : decode M_X12_paysBy.2.1 56 = .ok (.if_icmp .eq 7, 3) := by decide +kernel
theorem d_X12_paysBy_59 : decode M_X12_paysBy.2.1 59 = .ok (.iconst 3, 1) := by decide +kernel
theorem d_X12_paysBy_60 : decode M_X12_paysBy.2.1 60 = .ok (.goto 4, 3) := by decide +kernel
theorem d_X12_paysBy_63 : decode M_X12_paysBy.2.1 63 = .ok (.iconst 0, 1) := by decide +kernel
theorem d_X12_paysBy_64 : decode M_X12_paysBy.2.1 64 = .ok (.iadd, 1) := by decide +kernel
theorem d_X12_paysBy_65 : decode M_X12_paysBy.2.1 65 = .ok (.istore_n 3, 1) := by decide +kernel
theorem d_X12_paysBy_66 : decode M_X12_paysBy.2.1 66 = .ok (.iinc 4 1, 3) := by decide +kernel
theorem d_X12_paysBy_69 : decode M_X12_paysBy.2.1 69 = .ok (.goto (-57), 3) := by decide +kernel
theorem d_X12_paysBy_72 : decode M_X12_paysBy.2.1 72 = .ok (.aload_n 0, 1) := by decide +kernel
theorem d_X12_paysBy_73 : decode M_X12_paysBy.2.1 73 = .ok (.iload_n 2, 1) := by decide +kernel
theorem d_X12_paysBy_74 : decode M_X12_paysBy.2.1 74 = .ok (.aload_n 0, 1) := by decide +kernel
theorem d_X12_paysBy_75 : decode M_X12_paysBy.2.1 75 = .ok (.getfield 159, 3) := by decide +kernel
theorem d_X12_paysBy_78 : decode M_X12_paysBy.2.1 78 = .ok (.iload_n 1, 1) := by decide +kernel
theorem d_X12_paysBy_79 : decode M_X12_paysBy.2.1 79 = .ok (.iaload, 1) := by decide +kernel
theorem d_X12_paysBy_80 : decode M_X12_paysBy.2.1 80 = .ok (.invokevirtual 464, 3) := by decide +kernel
theorem d_X12_paysBy_83 : decode M_X12_paysBy.2.1 83 = .ok (.istore 4, 2) := by decide +kernel
theorem d_X12_paysBy_85 : decode M_X12_paysBy.2.1 85 = .ok (.iload_n 3, 1) := by decide +kernel
theorem d_X12_paysBy_86 : decode M_X12_paysBy.2.1 86 = .ok (.iload 4, 2) := by decide +kernel
theorem d_X12_paysBy_88 : decode M_X12_paysBy.2.1 88 = .ok (.aload_n 0, 1) := by decide +kernel
theorem d_X12_paysBy_89 : decode M_X12_paysBy.2.1 89 = .ok (.getfield 29, 3) := by decide +kernel
theorem d_X12_paysBy_92 : decode M_X12_paysBy.2.1 92 = .ok (.iload_n 2, 1) := by decide +kernel
theorem d_X12_paysBy_93 : decode M_X12_paysBy.2.1 93 = .ok (.iaload, 1) := by decide +kernel
theorem d_X12_paysBy_94 : decode M_X12_paysBy.2.1 94 = .ok (.if_icmp .le 8, 3) := by decide +kernel
theorem d_X12_paysBy_97 : decode M_X12_paysBy.2.1 97 = .ok (.bipush 20, 2) := by decide +kernel
theorem d_X12_paysBy_99 : decode M_X12_paysBy.2.1 99 = .ok (.goto 15, 3) := by decide +kernel
theorem d_X12_paysBy_102 : decode M_X12_paysBy.2.1 102 = .ok (.aload_n 0, 1) := by decide +kernel
theorem d_X12_paysBy_103 : decode M_X12_paysBy.2.1 103 = .ok (.getfield 29, 3) := by decide +kernel
theorem d_X12_paysBy_106 : decode M_X12_paysBy.2.1 106 = .ok (.iload_n 2, 1) := by decide +kernel
theorem d_X12_paysBy_107 : decode M_X12_paysBy.2.1 107 = .ok (.iaload, 1) := by decide +kernel
theorem d_X12_paysBy_108 : decode M_X12_paysBy.2.1 108 = .ok (.iload 4, 2) := by decide +kernel
theorem d_X12_paysBy_110 : decode M_X12_paysBy.2.1 110 = .ok (.isub, 1) := by decide +kernel
theorem d_X12_paysBy_111 : decode M_X12_paysBy.2.1 111 = .ok (.bipush 10, 2) := by decide +kernel
theorem d_X12_paysBy_113 : decode M_X12_paysBy.2.1 113 = .ok (.idiv, 1) := by decide +kernel
theorem d_X12_paysBy_114 : decode M_X12_paysBy.2.1 114 = .ok (.iadd, 1) := by decide +kernel
theorem d_X12_paysBy_115 : decode M_X12_paysBy.2.1 115 = .ok (.ireturn, 1) := by decide +kernel
set_option maxRecDepth 20000 in
theorem s_X12_paysBy_0 {d : Nat} {p0 : Int} {G : Mem} {Q : Int → Mem → Prop}  (h : (0 ≤ p0 ∧ p0 < 3) ∧ (Rn d M_X12_paysBy zN 12 [(0, (2, 311)), (1, (0, p0)), (2, (0, (G 360 p0))), (3, (0, 0)), (4, (0, 0))] [] G Q)) : Rn d M_X12_paysBy zN 0 [(0, (2, 311)), (1, (0, p0))] [] G Q := by
  refine r_aload_n d_X12_paysBy_0 0 rfl rfl ?_
  refine r_getL (v := 360) 12 72 72 rfl d_X12_paysBy_1 fl_X12_156 (by decide) (bs_ob bs_12) (ly_12_72 bs_12).1 (ly_12_72 bs_12).2.1 ?_
  refine r_iload_n d_X12_paysBy_4 1 rfl rfl ?_
  obtain ⟨h1, h⟩ := h
  refine r_iaload d_X12_paysBy_5 (ly_12_72 bs_12).2.2 h1 ?_
  refine r_istore_n (ls1 := [(2, (0, (G 360 p0))), (0, (2, 311)), (1, (0, p0))]) d_X12_paysBy_6 rfl (by decide) rfl ?_
  refine r_iconst d_X12_paysBy_7 ?_
  refine r_istore_n (ls1 := [(3, (0, 0)), (2, (0, (G 360 p0))), (0, (2, 311)), (1, (0, p0))]) d_X12_paysBy_8 rfl (by decide) rfl ?_
  refine r_iconst d_X12_paysBy_9 ?_
  refine r_istore (ls1 := [(4, (0, 0)), (3, (0, 0)), (2, (0, (G 360 p0))), (0, (2, 311)), (1, (0, p0))]) d_X12_paysBy_10 (by decide) rfl ?_
  exact Rn.sub [3, 4, 2, 1, 0] rfl h
set_option maxRecDepth 20000 in
theorem s_X12_paysBy_12 {d : Nat} {x1 : Int} {x2 : Int} {x3 : Int} {x4 : Int} {G : Mem} {Q : Int → Mem → Prop}  (h : (InR x4) ∧ (InR (G 311 74)) ∧ (((G 311 74) ≤ x4) → (0 ≤ x1 ∧ x1 < 3) ∧ (Ct d M_X12_needBehind NT 0 0 (some lay) [(2, 311), (0, x2), (0, (G 361 x1))] G (fun r6 G5 => (0 ≤ x2 ∧ x2 < 30) ∧ ((InR r6) ∧ (InR (G5 318 x2)) ∧ ((r6 ≤ (G5 318 x2)) → (InR ((G5 318 x2) - r6)) ∧ (Q (x3 + (Int.tdiv ((G5 318 x2) - r6) 10)) G5)) ∧ (¬ (r6 ≤ (G5 318 x2)) → Q (x3 + 20) G5))))) ∧ (¬ ((G 311 74) ≤ x4) → (0 ≤ x4 ∧ x4 < 3) ∧ ((0 ≤ (G 360 x4) ∧ (G 360 x4) < 30) ∧ ((0 ≤ x2 ∧ x2 < 30) ∧ ((InR (G 316 (G 360 x4))) ∧ (InR (G 316 x2)) ∧ (((G 316 (G 360 x4)) ≤ (G 316 x2)) → Rn (d + 1) M_X12_paysBy zN 12 [(0, (2, 311)), (1, (0, x1)), (2, (0, x2)), (3, (0, (x3 + 0))), (4, (0, (x4 + 1)))] [] G Q) ∧ (¬ ((G 316 (G 360 x4)) ≤ (G 316 x2)) → (0 ≤ x1 ∧ x1 < 3) ∧ ((InR (G 361 x4)) ∧ (InR (G 361 x1)) ∧ (((G 361 x4) = (G 361 x1)) → Rn (d + 1) M_X12_paysBy zN 12 [(0, (2, 311)), (1, (0, x1)), (2, (0, x2)), (3, (0, (x3 + 0))), (4, (0, (x4 + 1)))] [] G Q) ∧ (¬ ((G 361 x4) = (G 361 x1)) → Rn (d + 1) M_X12_paysBy zN 12 [(0, (2, 311)), (1, (0, x1)), (2, (0, x2)), (3, (0, (x3 + 3))), (4, (0, (x4 + 1)))] [] G Q)))))))) : Rn (d + 1) M_X12_paysBy zN 12 [(0, (2, 311)), (1, (0, x1)), (2, (0, x2)), (3, (0, x3)), (4, (0, x4))] [] G Q := by
  refine r_iload d_X12_paysBy_12 4 rfl ?_
  refine r_aload_n d_X12_paysBy_14 0 rfl rfl ?_
  refine r_getI 12 74 74 rfl d_X12_paysBy_15 fl_X12_570 (by decide) (bs_ob bs_12) ?_
  obtain ⟨h1, h⟩ := h
  obtain ⟨h2, h⟩ := h
  refine r_icmp_ge (tgt := 72) d_X12_paysBy_18 (by decide) h1 h2 (fun c3 => ?_) (fun c3 => ?_)
  · replace h := h.1 c3
    refine r_aload_n d_X12_paysBy_72 0 rfl rfl ?_
    refine r_iload_n d_X12_paysBy_73 2 rfl rfl ?_
    refine r_aload_n d_X12_paysBy_74 0 rfl rfl ?_
    refine r_getL (v := 361) 12 73 73 rfl d_X12_paysBy_75 fl_X12_159 (by decide) (bs_ob bs_12) (ly_12_73 bs_12).1 (ly_12_73 bs_12).2.1 ?_
    refine r_iload_n d_X12_paysBy_78 1 rfl rfl ?_
    obtain ⟨h4, h⟩ := h
    refine r_iaload d_X12_paysBy_79 (ly_12_73 bs_12).2.2 h4 ?_
    refine r_callV0 (M' := M_X12_needBehind) (ci := 12) [(0, x2), (0, (G 361 x1))] d_X12_paysBy_80 cl_X12_464 rfl (Nat.le_of_ble_eq_true rfl) (by decide) rfl (bs_ob bs_12) ?_
    refine Ct.mono h (fun r6 G5 h => ?_)
    show Rn _ M_X12_paysBy zN 83 [(0, (2, 311)), (1, (0, x1)), (2, (0, x2)), (3, (0, x3)), (4, (0, x4))] [(0, r6)] G5 Q
    refine r_istore (ls1 := [(4, (0, r6)), (0, (2, 311)), (1, (0, x1)), (2, (0, x2)), (3, (0, x3))]) d_X12_paysBy_83 (by decide) rfl ?_
    refine r_iload_n d_X12_paysBy_85 4 rfl rfl ?_
    refine r_iload d_X12_paysBy_86 0 rfl ?_
    refine r_aload_n d_X12_paysBy_88 1 rfl rfl ?_
    refine r_getL (v := 318) 12 15 15 rfl d_X12_paysBy_89 fl_X12_29 (by decide) (bs_ob bs_12) (ly_12_15 bs_12).1 (ly_12_15 bs_12).2.1 ?_
    refine r_iload_n d_X12_paysBy_92 3 rfl rfl ?_
    obtain ⟨h7, h⟩ := h
    refine r_iaload d_X12_paysBy_93 (ly_12_15 bs_12).2.2 h7 ?_
    obtain ⟨h8, h⟩ := h
    obtain ⟨h9, h⟩ := h
    refine r_icmp_le (tgt := 102) d_X12_paysBy_94 (by decide) h8 h9 (fun c10 => ?_) (fun c10 => ?_)
    · replace h := h.1 c10
      refine r_aload_n d_X12_paysBy_102 1 rfl rfl ?_
      refine r_getL (v := 318) 12 15 15 rfl d_X12_paysBy_103 fl_X12_29 (by decide) (bs_ob bs_12) (ly_12_15 bs_12).1 (ly_12_15 bs_12).2.1 ?_
      refine r_iload_n d_X12_paysBy_106 3 rfl rfl ?_
      refine r_iaload d_X12_paysBy_107 (ly_12_15 bs_12).2.2 h7 ?_
      refine r_iload d_X12_paysBy_108 0 rfl ?_
      refine r_isub d_X12_paysBy_110 ?_
      refine r_bipush d_X12_paysBy_111 (by decide +kernel) ?_
      obtain ⟨h11, h⟩ := h
      refine r_idiv d_X12_paysBy_113 h11 ⟨by decide, ⟨by decide, by decide⟩⟩ ?_
      refine r_iadd d_X12_paysBy_114 ?_
      exact r_ireturn d_X12_paysBy_115 rfl ⟨rfl, Nat.le_refl _, Nat.le_refl _⟩ h
    · replace h := h.2 c10
      refine r_bipush d_X12_paysBy_97 (by decide +kernel) ?_
      refine r_goto (tgt := 114) d_X12_paysBy_99 (by decide) ?_
      refine r_iadd d_X12_paysBy_114 ?_
      exact r_ireturn d_X12_paysBy_115 rfl ⟨rfl, Nat.le_refl _, Nat.le_refl _⟩ h
  · replace h := h.2 c3
    refine r_iload_n d_X12_paysBy_21 3 rfl rfl ?_
    refine r_aload_n d_X12_paysBy_22 0 rfl rfl ?_
    refine r_getL (v := 316) 12 13 13 rfl d_X12_paysBy_23 fl_X12_23 (by decide) (bs_ob bs_12) (ly_12_13 bs_12).1 (ly_12_13 bs_12).2.1 ?_
    refine r_aload_n d_X12_paysBy_26 0 rfl rfl ?_
    refine r_getL (v := 360) 12 72 72 rfl d_X12_paysBy_27 fl_X12_156 (by decide) (bs_ob bs_12) (ly_12_72 bs_12).1 (ly_12_72 bs_12).2.1 ?_
    refine r_iload d_X12_paysBy_30 4 rfl ?_
    obtain ⟨h12, h⟩ := h
    refine r_iaload d_X12_paysBy_32 (ly_12_72 bs_12).2.2 h12 ?_
    obtain ⟨h13, h⟩ := h
    refine r_iaload d_X12_paysBy_33 (ly_12_13 bs_12).2.2 h13 ?_
    refine r_aload_n d_X12_paysBy_34 0 rfl rfl ?_
    refine r_getL (v := 316) 12 13 13 rfl d_X12_paysBy_35 fl_X12_23 (by decide) (bs_ob bs_12) (ly_12_13 bs_12).1 (ly_12_13 bs_12).2.1 ?_
    refine r_iload_n d_X12_paysBy_38 2 rfl rfl ?_
    obtain ⟨h14, h⟩ := h
    refine r_iaload d_X12_paysBy_39 (ly_12_13 bs_12).2.2 h14 ?_
    obtain ⟨h15, h⟩ := h
    obtain ⟨h16, h⟩ := h
    refine r_icmp_le (tgt := 63) d_X12_paysBy_40 (by decide) h15 h16 (fun c17 => ?_) (fun c17 => ?_)
    · replace h := h.1 c17
      refine r_iconst d_X12_paysBy_63 ?_
      refine r_iadd d_X12_paysBy_64 ?_
      refine r_istore_n (ls1 := [(3, (0, (x3 + 0))), (0, (2, 311)), (1, (0, x1)), (2, (0, x2)), (4, (0, x4))]) d_X12_paysBy_65 rfl (by decide) rfl ?_
      refine r_iinc (ls1 := [(4, (0, (x4 + 1))), (3, (0, (x3 + 0))), (0, (2, 311)), (1, (0, x1)), (2, (0, x2))]) d_X12_paysBy_66 4 rfl (by decide) rfl ?_
      refine r_goto (tgt := 12) d_X12_paysBy_69 (by decide) ?_
      exact Rn.sub [2, 3, 4, 1, 0] rfl h
    · replace h := h.2 c17
      refine r_aload_n d_X12_paysBy_43 0 rfl rfl ?_
      refine r_getL (v := 361) 12 73 73 rfl d_X12_paysBy_44 fl_X12_159 (by decide) (bs_ob bs_12) (ly_12_73 bs_12).1 (ly_12_73 bs_12).2.1 ?_
      refine r_iload d_X12_paysBy_47 4 rfl ?_
      refine r_iaload d_X12_paysBy_49 (ly_12_73 bs_12).2.2 h12 ?_
      refine r_aload_n d_X12_paysBy_50 0 rfl rfl ?_
      refine r_getL (v := 361) 12 73 73 rfl d_X12_paysBy_51 fl_X12_159 (by decide) (bs_ob bs_12) (ly_12_73 bs_12).1 (ly_12_73 bs_12).2.1 ?_
      refine r_iload_n d_X12_paysBy_54 1 rfl rfl ?_
      obtain ⟨h18, h⟩ := h
      refine r_iaload d_X12_paysBy_55 (ly_12_73 bs_12).2.2 h18 ?_
      obtain ⟨h19, h⟩ := h
      obtain ⟨h20, h⟩ := h
      refine r_icmp_eq (tgt := 63) d_X12_paysBy_56 (by decide) h19 h20 (fun c21 => ?_) (fun c21 => ?_)
      · replace h := h.1 c21
        refine r_iconst d_X12_paysBy_63 ?_
        refine r_iadd d_X12_paysBy_64 ?_
        refine r_istore_n (ls1 := [(3, (0, (x3 + 0))), (0, (2, 311)), (1, (0, x1)), (2, (0, x2)), (4, (0, x4))]) d_X12_paysBy_65 rfl (by decide) rfl ?_
        refine r_iinc (ls1 := [(4, (0, (x4 + 1))), (3, (0, (x3 + 0))), (0, (2, 311)), (1, (0, x1)), (2, (0, x2))]) d_X12_paysBy_66 4 rfl (by decide) rfl ?_
        refine r_goto (tgt := 12) d_X12_paysBy_69 (by decide) ?_
        exact Rn.sub [2, 3, 4, 1, 0] rfl h
      · replace h := h.2 c21
        refine r_iconst d_X12_paysBy_59 ?_
        refine r_goto (tgt := 64) d_X12_paysBy_60 (by decide) ?_
        refine r_iadd d_X12_paysBy_64 ?_
        refine r_istore_n (ls1 := [(3, (0, (x3 + 3))), (0, (2, 311)), (1, (0, x1)), (2, (0, x2)), (4, (0, x4))]) d_X12_paysBy_65 rfl (by decide) rfl ?_
        refine r_iinc (ls1 := [(4, (0, (x4 + 1))), (3, (0, (x3 + 3))), (0, (2, 311)), (1, (0, x1)), (2, (0, x2))]) d_X12_paysBy_66 4 rfl (by decide) rfl ?_
        refine r_goto (tgt := 12) d_X12_paysBy_69 (by decide) ?_
        exact Rn.sub [2, 3, 4, 1, 0] rfl h
theorem d_X12_isRest_0 : decode M_X12_isRest.2.1 0 = .ok (.iconst 0, 1) := by decide +kernel
theorem d_X12_isRest_1 : decode M_X12_isRest.2.1 1 = .ok (.istore_n 1, 1) := by decide +kernel
theorem d_X12_isRest_2 : decode M_X12_isRest.2.1 2 = .ok (.iload_n 1, 1) := by decide +kernel
theorem d_X12_isRest_3 : decode M_X12_isRest.2.1 3 = .ok (.aload_n 0, 1) := by decide +kernel
theorem d_X12_isRest_4 : decode M_X12_isRest.2.1 4 = .ok (.getfield 570, 3) := by decide +kernel
theorem d_X12_isRest_7 : decode M_X12_isRest.2.1 7 = .ok (.if_icmp .ge 84, 3) := by decide +kernel
theorem d_X12_isRest_10 : decode M_X12_isRest.2.1 10 = .ok (.aload_n 0, 1) := by decide +kernel
theorem d_X12_isRest_11 : decode M_X12_isRest.2.1 11 = .ok (.getfield 159, 3) := by decide +kernel
theorem d_X12_isRest_14 : decode M_X12_isRest.2.1 14 = .ok (.iload_n 1, 1) := by decide +kernel
theorem d_X12_isRest_15 : decode M_X12_isRest.2.1 15 = .ok (.iaload, 1) := by decide +kernel
theorem d_X12_isRest_16 : decode M_X12_isRest.2.1 16 = .ok (.istore_n 2, 1) := by decide +kernel
theorem d_X12_isRest_17 : decode M_X12_isRest.2.1 17 = .ok (.aload_n 0, 1) := by decide +kernel
theorem d_X12_isRest_18 : decode M_X12_isRest.2.1 18 = .ok (.iload_n 1, 1) := by decide +kernel
theorem d_X12_isRest_19 : decode M_X12_isRest.2.1 19 = .ok (.invokevirtual 573, 3) := by decide +kernel
theorem d_X12_isRest_22 : decode M_X12_isRest.2.1 22 = .ok (.istore_n 3, 1) := by decide +kernel
theorem d_X12_isRest_23 : decode M_X12_isRest.2.1 23 = .ok (.iconst 0, 1) := by decide +kernel
theorem d_X12_isRest_24 : decode M_X12_isRest.2.1 24 = .ok (.istore 4, 2) := by decide +kernel
theorem d_X12_isRest_26 : decode M_X12_isRest.2.1 26 = .ok (.iconst 0, 1) := by decide +kernel
theorem d_X12_isRest_27 : decode M_X12_isRest.2.1 27 = .ok (.istore 5, 2) := by decide +kernel
theorem d_X12_isRest_29 : decode M_X12_isRest.2.1 29 = .ok (.iload 5, 2) := by decide +kernel
theorem d_X12_isRest_31 : decode M_X12_isRest.2.1 31 = .ok (.bipush 12, 2) := by decide +kernel
theorem d_X12_isRest_33 : decode M_X12_isRest.2.1 33 = .ok (.if_icmp .ge 38, 3) := by decide +kernel
theorem d_X12_isRest_36 : decode M_X12_isRest.2.1 36 = .ok (.aload_n 0, 1) := by decide +kernel
theorem d_X12_isRest_37 : decode M_X12_isRest.2.1 37 = .ok (.getfield 159, 3) := by decide +kernel
theorem d_X12_isRest_40 : decode M_X12_isRest.2.1 40 = .ok (.iload_n 1, 1) := by decide +kernel
theorem d_X12_isRest_41 : decode M_X12_isRest.2.1 41 = .ok (.iload 5, 2) := by decide +kernel
theorem d_X12_isRest_43 : decode M_X12_isRest.2.1 43 = .ok (.iastore, 1) := by decide +kernel
theorem d_X12_isRest_44 : decode M_X12_isRest.2.1 44 = .ok (.iload 4, 2) := by decide +kernel
theorem d_X12_isRest_46 : decode M_X12_isRest.2.1 46 = .ok (.ifCond .ne 12, 3) := by decide +kernel
theorem d_X12_isRest_49 : decode M_X12_isRest.2.1 49 = .ok (.aload_n 0, 1) := by decide +kernel
theorem d_X12_isRest_50 : decode M_X12_isRest.2.1 50 = .ok (.iload_n 1, 1) := by decide +kernel
theorem d_X12_isRest_51 : decode M_X12_isRest.2.1 51 = .ok (.invokevirtual 573, 3) := by decide +kernel
theorem d_X12_isRest_54 : decode M_X12_isRest.2.1 54 = .ok (.iload_n 3, 1) := by decide +kernel
theorem d_X12_isRest_55 : decode M_X12_isRest.2.1 55 = .ok (.if_icmp .ge 7, 3) := by decide +kernel
theorem d_X12_isRest_58 : decode M_X12_isRest.2.1 58 = .ok (.iconst 1, 1) := by decide +kernel
theorem d_X12_isRest_59 : decode M_X12_isRest.2.1 59 = .ok (.goto 4, 3) := by decide +kernel
theorem d_X12_isRest_62 : decode M_X12_isRest.2.1 62 = .ok (.iconst 0, 1) := by decide +kernel
theorem d_X12_isRest_63 : decode M_X12_isRest.2.1 63 = .ok (.istore 4, 2) := by decide +kernel
theorem d_X12_isRest_65 : decode M_X12_isRest.2.1 65 = .ok (.iinc 5 1, 3) := by decide +kernel
theorem d_X12_isRest_68 : decode M_X12_isRest.2.1 68 = .ok (.goto (-39), 3) := by decide +kernel
theorem d_X12_isRest_71 : decode M_X12_isRest.2.1 71 = .ok (.aload_n 0, 1) := by decide +kernel
theorem d_X12_isRest_72 : decode M_X12_isRest.2.1 72 = .ok (.getfield 159, 3) := by decide +kernel
theorem d_X12_isRest_75 : decode M_X12_isRest.2.1 75 = .ok (.iload_n 1, 1) := by decide +kernel
theorem d_X12_isRest_76 : decode M_X12_isRest.2.1 76 = .ok (.iload_n 2, 1) := by decide +kernel
theorem d_X12_isRest_77 : decode M_X12_isRest.2.1 77 = .ok (.iastore, 1) := by decide +kernel
theorem d_X12_isRest_78 : decode M_X12_isRest.2.1 78 = .ok (.iload 4, 2) := by decide +kernel
theorem d_X12_isRest_80 : decode M_X12_isRest.2.1 80 = .ok (.ifCond .eq 5, 3) := by decide +kernel
theorem d_X12_isRest_83 : decode M_X12_isRest.2.1 83 = .ok (.iconst 0, 1) := by decide +kernel
theorem d_X12_isRest_84 : decode M_X12_isRest.2.1 84 = .ok (.ireturn, 1) := by decide +kernel
theorem d_X12_isRest_85 : decode M_X12_isRest.2.1 85 = .ok (.iinc 1 1, 3) := by decide +kernel
theorem d_X12_isRest_88 : decode M_X12_isRest.2.1 88 = .ok (.goto (-86), 3) := by decide +kernel
theorem d_X12_isRest_91 : decode M_X12_isRest.2.1 91 = .ok (.iconst 1, 1) := by decide +kernel
theorem d_X12_isRest_92 : decode M_X12_isRest.2.1 92 = .ok (.ireturn, 1) := by decide +kernel
set_option maxRecDepth 20000 in
theorem s_X12_isRest_0 {d : Nat}  {G : Mem} {Q : Int → Mem → Prop}  (h : Rn d M_X12_isRest zN 2 [(0, (2, 311)), (1, (0, 0))] [] G Q) : Rn d M_X12_isRest zN 0 [(0, (2, 311))] [] G Q := by
  refine r_iconst d_X12_isRest_0 ?_
  refine r_istore_n (ls1 := [(1, (0, 0)), (0, (2, 311))]) d_X12_isRest_1 rfl (by decide) rfl ?_
  exact Rn.sub [1, 0] rfl h
set_option maxRecDepth 20000 in
theorem s_X12_isRest_2 {d : Nat} {x1 : Int} {G : Mem} {Q : Int → Mem → Prop}  (h : (InR x1) ∧ (InR (G 311 74)) ∧ (((G 311 74) ≤ x1) → Q 1 G) ∧ (¬ ((G 311 74) ≤ x1) → (0 ≤ x1 ∧ x1 < 3) ∧ (Ct d M_X12_paysBy NT 0 0 (some lay) [(2, 311), (0, x1)] G (fun r6 G5 => Rn (d + 1) M_X12_isRest zN 29 [(0, (2, 311)), (1, (0, x1)), (2, (0, (G 361 x1))), (3, (0, r6)), (4, (0, 0)), (5, (0, 0))] [] G5 Q)))) : Rn (d + 1) M_X12_isRest zN 2 [(0, (2, 311)), (1, (0, x1))] [] G Q := by
  refine r_iload_n d_X12_isRest_2 1 rfl rfl ?_
  refine r_aload_n d_X12_isRest_3 0 rfl rfl ?_
  refine r_getI 12 74 74 rfl d_X12_isRest_4 fl_X12_570 (by decide) (bs_ob bs_12) ?_
  obtain ⟨h1, h⟩ := h
  obtain ⟨h2, h⟩ := h
  refine r_icmp_ge (tgt := 91) d_X12_isRest_7 (by decide) h1 h2 (fun c3 => ?_) (fun c3 => ?_)
  · replace h := h.1 c3
    refine r_iconst d_X12_isRest_91 ?_
    exact r_zreturn d_X12_isRest_92 rfl ⟨rfl, Nat.le_refl _, Nat.le_refl _⟩ (by decide) h
  · replace h := h.2 c3
    refine r_aload_n d_X12_isRest_10 0 rfl rfl ?_
    refine r_getL (v := 361) 12 73 73 rfl d_X12_isRest_11 fl_X12_159 (by decide) (bs_ob bs_12) (ly_12_73 bs_12).1 (ly_12_73 bs_12).2.1 ?_
    refine r_iload_n d_X12_isRest_14 1 rfl rfl ?_
    obtain ⟨h4, h⟩ := h
    refine r_iaload d_X12_isRest_15 (ly_12_73 bs_12).2.2 h4 ?_
    refine r_istore_n (ls1 := [(2, (0, (G 361 x1))), (0, (2, 311)), (1, (0, x1))]) d_X12_isRest_16 rfl (by decide) rfl ?_
    refine r_aload_n d_X12_isRest_17 1 rfl rfl ?_
    refine r_iload_n d_X12_isRest_18 2 rfl rfl ?_
    refine r_callV0 (M' := M_X12_paysBy) (ci := 12) [(0, x1)] d_X12_isRest_19 cl_X12_573 rfl (Nat.le_of_ble_eq_true rfl) (by decide) rfl (bs_ob bs_12) ?_
    refine Ct.mono h (fun r6 G5 h => ?_)
    show Rn _ M_X12_isRest zN 22 [(2, (0, (G 361 x1))), (0, (2, 311)), (1, (0, x1))] [(0, r6)] G5 Q
    refine r_istore_n (ls1 := [(3, (0, r6)), (2, (0, (G 361 x1))), (0, (2, 311)), (1, (0, x1))]) d_X12_isRest_22 rfl (by decide) rfl ?_
    refine r_iconst d_X12_isRest_23 ?_
    refine r_istore (ls1 := [(4, (0, 0)), (3, (0, r6)), (2, (0, (G 361 x1))), (0, (2, 311)), (1, (0, x1))]) d_X12_isRest_24 (by decide) rfl ?_
    refine r_iconst d_X12_isRest_26 ?_
    refine r_istore (ls1 := [(5, (0, 0)), (4, (0, 0)), (3, (0, r6)), (2, (0, (G 361 x1))), (0, (2, 311)), (1, (0, x1))]) d_X12_isRest_27 (by decide) rfl ?_
    exact Rn.sub [4, 5, 3, 2, 1, 0] rfl h
set_option maxRecDepth 20000 in
theorem s_X12_isRest_29 {d : Nat} {x1 : Int} {x2 : Int} {x3 : Int} {x4 : Int} {x5 : Int} {G : Mem} {Q : Int → Mem → Prop}  (h : (InR x5) ∧ ((12 ≤ x5) → (0 ≤ x1 ∧ x1 < 3) ∧ (∀ G4 : Mem, G4 = st G 361 x1 x2 → (InR x4) ∧ ((x4 = 0) → Rn (d + 1) M_X12_isRest zN 2 [(0, (2, 311)), (1, (0, (x1 + 1)))] [] G4 Q) ∧ (¬ (x4 = 0) → Q 0 G4))) ∧ (¬ (12 ≤ x5) → (0 ≤ x1 ∧ x1 < 3) ∧ (∀ G8 : Mem, G8 = st G 361 x1 x5 → (InR x4) ∧ ((x4 ≠ 0) → Rn (d + 1) M_X12_isRest zN 29 [(0, (2, 311)), (1, (0, x1)), (2, (0, x2)), (3, (0, x3)), (4, (0, 1)), (5, (0, (x5 + 1)))] [] G8 Q) ∧ (¬ (x4 ≠ 0) → Ct d M_X12_paysBy NT 0 0 (some lay) [(2, 311), (0, x1)] G8 (fun r12 G11 => (InR r12) ∧ (InR x3) ∧ ((x3 ≤ r12) → Rn (d + 1) M_X12_isRest zN 29 [(0, (2, 311)), (1, (0, x1)), (2, (0, x2)), (3, (0, x3)), (4, (0, 0)), (5, (0, (x5 + 1)))] [] G11 Q) ∧ (¬ (x3 ≤ r12) → Rn (d + 1) M_X12_isRest zN 29 [(0, (2, 311)), (1, (0, x1)), (2, (0, x2)), (3, (0, x3)), (4, (0, 1)), (5, (0, (x5 + 1)))] [] G11 Q)))))) : Rn (d + 1) M_X12_isRest zN 29 [(0, (2, 311)), (1, (0, x1)), (2, (0, x2)), (3, (0, x3)), (4, (0, x4)), (5, (0, x5))] [] G Q := by
  refine r_iload d_X12_isRest_29 5 rfl ?_
  refine r_bipush d_X12_isRest_31 (by decide +kernel) ?_
  obtain ⟨h1, h⟩ := h
  refine r_icmp_ge (tgt := 71) d_X12_isRest_33 (by decide) h1 ⟨by decide, by decide⟩ (fun c2 => ?_) (fun c2 => ?_)
  · replace h := h.1 c2
    refine r_aload_n d_X12_isRest_71 0 rfl rfl ?_
    refine r_getL (v := 361) 12 73 73 rfl d_X12_isRest_72 fl_X12_159 (by decide) (bs_ob bs_12) (ly_12_73 bs_12).1 (ly_12_73 bs_12).2.1 ?_
    refine r_iload_n d_X12_isRest_75 1 rfl rfl ?_
    refine r_iload_n d_X12_isRest_76 2 rfl rfl ?_
    obtain ⟨h3, h⟩ := h
    obtain ⟨G4, eG4⟩ : ∃ y : Mem, y = st G 361 x1 x2 := ⟨_, rfl⟩
    replace h := h G4 eG4
    refine r_iastore d_X12_isRest_77 (ly_12_73 bs_12).2.2 h3 ?_
    rw [← eG4]
    refine r_iload d_X12_isRest_78 4 rfl ?_
    obtain ⟨h5, h⟩ := h
    refine r_if_eq (tgt := 85) d_X12_isRest_80 (by decide) h5 (fun c6 => ?_) (fun c6 => ?_)
    · replace h := h.1 c6
      refine r_iinc (ls1 := [(1, (0, (x1 + 1))), (0, (2, 311)), (2, (0, x2)), (3, (0, x3)), (4, (0, x4)), (5, (0, x5))]) d_X12_isRest_85 1 rfl (by decide) rfl ?_
      refine r_goto (tgt := 2) d_X12_isRest_88 (by decide) ?_
      exact Rn.sub [1, 0] rfl h
    · replace h := h.2 c6
      refine r_iconst d_X12_isRest_83 ?_
      exact r_zreturn d_X12_isRest_84 rfl ⟨rfl, Nat.le_refl _, Nat.le_refl _⟩ (by decide) h
  · replace h := h.2 c2
    refine r_aload_n d_X12_isRest_36 0 rfl rfl ?_
    refine r_getL (v := 361) 12 73 73 rfl d_X12_isRest_37 fl_X12_159 (by decide) (bs_ob bs_12) (ly_12_73 bs_12).1 (ly_12_73 bs_12).2.1 ?_
    refine r_iload_n d_X12_isRest_40 1 rfl rfl ?_
    refine r_iload d_X12_isRest_41 5 rfl ?_
    obtain ⟨h7, h⟩ := h
    obtain ⟨G8, eG8⟩ : ∃ y : Mem, y = st G 361 x1 x5 := ⟨_, rfl⟩
    replace h := h G8 eG8
    refine r_iastore d_X12_isRest_43 (ly_12_73 bs_12).2.2 h7 ?_
    rw [← eG8]
    refine r_iload d_X12_isRest_44 4 rfl ?_
    obtain ⟨h9, h⟩ := h
    refine r_if_ne (tgt := 58) d_X12_isRest_46 (by decide) h9 (fun c10 => ?_) (fun c10 => ?_)
    · replace h := h.1 c10
      refine r_iconst d_X12_isRest_58 ?_
      refine r_goto (tgt := 63) d_X12_isRest_59 (by decide) ?_
      refine r_istore (ls1 := [(4, (0, 1)), (0, (2, 311)), (1, (0, x1)), (2, (0, x2)), (3, (0, x3)), (5, (0, x5))]) d_X12_isRest_63 (by decide) rfl ?_
      refine r_iinc (ls1 := [(5, (0, (x5 + 1))), (4, (0, 1)), (0, (2, 311)), (1, (0, x1)), (2, (0, x2)), (3, (0, x3))]) d_X12_isRest_65 5 rfl (by decide) rfl ?_
      refine r_goto (tgt := 29) d_X12_isRest_68 (by decide) ?_
      exact Rn.sub [2, 3, 4, 5, 1, 0] rfl h
    · replace h := h.2 c10
      refine r_aload_n d_X12_isRest_49 0 rfl rfl ?_
      refine r_iload_n d_X12_isRest_50 1 rfl rfl ?_
      refine r_callV0 (M' := M_X12_paysBy) (ci := 12) [(0, x1)] d_X12_isRest_51 cl_X12_573 rfl (Nat.le_of_ble_eq_true rfl) (by decide) rfl (bs_ob bs_12) ?_
      refine Ct.mono h (fun r12 G11 h => ?_)
      show Rn _ M_X12_isRest zN 54 [(0, (2, 311)), (1, (0, x1)), (2, (0, x2)), (3, (0, x3)), (4, (0, x4)), (5, (0, x5))] [(0, r12)] G11 Q
      refine r_iload_n d_X12_isRest_54 3 rfl rfl ?_
      obtain ⟨h13, h⟩ := h
      obtain ⟨h14, h⟩ := h
      refine r_icmp_ge (tgt := 62) d_X12_isRest_55 (by decide) h13 h14 (fun c15 => ?_) (fun c15 => ?_)
      · replace h := h.1 c15
        refine r_iconst d_X12_isRest_62 ?_
        refine r_istore (ls1 := [(4, (0, 0)), (0, (2, 311)), (1, (0, x1)), (2, (0, x2)), (3, (0, x3)), (5, (0, x5))]) d_X12_isRest_63 (by decide) rfl ?_
        refine r_iinc (ls1 := [(5, (0, (x5 + 1))), (4, (0, 0)), (0, (2, 311)), (1, (0, x1)), (2, (0, x2)), (3, (0, x3))]) d_X12_isRest_65 5 rfl (by decide) rfl ?_
        refine r_goto (tgt := 29) d_X12_isRest_68 (by decide) ?_
        exact Rn.sub [2, 3, 4, 5, 1, 0] rfl h
      · replace h := h.2 c15
        refine r_iconst d_X12_isRest_58 ?_
        refine r_goto (tgt := 63) d_X12_isRest_59 (by decide) ?_
        refine r_istore (ls1 := [(4, (0, 1)), (0, (2, 311)), (1, (0, x1)), (2, (0, x2)), (3, (0, x3)), (5, (0, x5))]) d_X12_isRest_63 (by decide) rfl ?_
        refine r_iinc (ls1 := [(5, (0, (x5 + 1))), (4, (0, 1)), (0, (2, 311)), (1, (0, x1)), (2, (0, x2)), (3, (0, x3))]) d_X12_isRest_65 5 rfl (by decide) rfl ?_
        refine r_goto (tgt := 29) d_X12_isRest_68 (by decide) ?_
        exact Rn.sub [2, 3, 4, 5, 1, 0] rfl h
theorem d_X12_rests_0 : decode M_X12_rests.2.1 0 = .ok (.aload_n 0, 1) := by decide +kernel
theorem d_X12_rests_1 : decode M_X12_rests.2.1 1 = .ok (.iconst 0, 1) := by decide +kernel
theorem d_X12_rests_2 : decode M_X12_rests.2.1 2 = .ok (.putfield 169, 3) := by decide +kernel
theorem d_X12_rests_5 : decode M_X12_rests.2.1 5 = .ok (.aload_n 0, 1) := by decide +kernel
theorem d_X12_rests_6 : decode M_X12_rests.2.1 6 = .ok (.iconst 0, 1) := by decide +kernel
theorem d_X12_rests_7 : decode M_X12_rests.2.1 7 = .ok (.putfield 570, 3) := by decide +kernel
theorem d_X12_rests_10 : decode M_X12_rests.2.1 10 = .ok (.iload_n 1, 1) := by decide +kernel
theorem d_X12_rests_11 : decode M_X12_rests.2.1 11 = .ok (.ifCond .lt 21, 3) := by decide +kernel
theorem d_X12_rests_14 : decode M_X12_rests.2.1 14 = .ok (.iload_n 1, 1) := by decide +kernel
theorem d_X12_rests_15 : decode M_X12_rests.2.1 15 = .ok (.iconst 1, 1) := by decide +kernel
theorem d_X12_rests_16 : decode M_X12_rests.2.1 16 = .ok (.aload_n 0, 1) := by decide +kernel
theorem d_X12_rests_17 : decode M_X12_rests.2.1 17 = .ok (.getfield 13, 3) := by decide +kernel
theorem d_X12_rests_20 : decode M_X12_rests.2.1 20 = .ok (.bipush 8, 2) := by decide +kernel
theorem d_X12_rests_22 : decode M_X12_rests.2.1 22 = .ok (.iaload, 1) := by decide +kernel
theorem d_X12_rests_23 : decode M_X12_rests.2.1 23 = .ok (.ishl, 1) := by decide +kernel
theorem d_X12_rests_24 : decode M_X12_rests.2.1 24 = .ok (.if_icmp .ge 8, 3) := by decide +kernel
theorem d_X12_rests_27 : decode M_X12_rests.2.1 27 = .ok (.iload_n 2, 1) := by decide +kernel
theorem d_X12_rests_28 : decode M_X12_rests.2.1 28 = .ok (.iconst (-1), 1) := by decide +kernel
theorem d_X12_rests_29 : decode M_X12_rests.2.1 29 = .ok (.if_icmp .ge 5, 3) := by decide +kernel
theorem d_X12_rests_32 : decode M_X12_rests.2.1 32 = .ok (.iconst (-1), 1) := by decide +kernel
theorem d_X12_rests_33 : decode M_X12_rests.2.1 33 = .ok (.ireturn, 1) := by decide +kernel
theorem d_X12_rests_34 : decode M_X12_rests.2.1 34 = .ok (.iconst 0, 1) := by decide +kernel
theorem d_X12_rests_35 : decode M_X12_rests.2.1 35 = .ok (.istore_n 3, 1) := by decide +kernel
theorem d_X12_rests_36 : decode M_X12_rests.2.1 36 = .ok (.iload_n 3, 1) := by decide +kernel
theorem d_X12_rests_37 : decode M_X12_rests.2.1 37 = .ok (.iconst 5, 1) := by decide +kernel
theorem d_X12_rests_38 : decode M_X12_rests.2.1 38 = .ok (.if_icmp .ge 50, 3) := by decide +kernel
theorem d_X12_rests_41 : decode M_X12_rests.2.1 41 = .ok (.iload_n 1, 1) := by decide +kernel
theorem d_X12_rests_42 : decode M_X12_rests.2.1 42 = .ok (.iload_n 3, 1) := by decide +kernel
theorem d_X12_rests_43 : decode M_X12_rests.2.1 43 = .ok (.ishr, 1) := by decide +kernel
theorem d_X12_rests_44 : decode M_X12_rests.2.1 44 = .ok (.iconst 1, 1) := by decide +kernel
theorem d_X12_rests_45 : decode M_X12_rests.2.1 45 = .ok (.iand, 1) := by decide +kernel
theorem d_X12_rests_46 : decode M_X12_rests.2.1 46 = .ok (.ifCond .ne 6, 3) := by decide +kernel
theorem d_X12_rests_49 : decode M_X12_rests.2.1 49 = .ok (.goto 33, 3) := by decide +kernel
theorem d_X12_rests_52 : decode M_X12_rests.2.1 52 = .ok (.aload_n 0, 1) := by decide +kernel
theorem d_X12_rests_53 : decode M_X12_rests.2.1 53 = .ok (.getfield 570, 3) := by decide +kernel
theorem d_X12_rests_56 : decode M_X12_rests.2.1 56 = .ok (.iconst 3, 1) := by decide +kernel
theorem d_X12_rests_57 : decode M_X12_rests.2.1 57 = .ok (.if_icmp .ne 5, 3) := by decide +kernel
theorem d_X12_rests_60 : decode M_X12_rests.2.1 60 = .ok (.iconst (-1), 1) := by decide +kernel
theorem d_X12_rests_61 : decode M_X12_rests.2.1 61 = .ok (.ireturn, 1) := by decide +kernel
theorem d_X12_rests_62 : decode M_X12_rests.2.1 62 = .ok (.aload_n 0, 1) := by decide +kernel
theorem d_X12_rests_63 : decode M_X12_rests.2.1 63 = .ok (.getfield 156, 3) := by decide +kernel
theorem d_X12_rests_66 : decode M_X12_rests.2.1 66 = .ok (.aload_n 0, 1) := by decide +kernel
theorem d_X12_rests_67 : decode M_X12_rests.2.1 67 = .ok (.getfield 570, 3) := by decide +kernel
theorem d_X12_rests_70 : decode M_X12_rests.2.1 70 = .ok (.iload_n 3, 1) := by decide +kernel
theorem d_X12_rests_71 : decode M_X12_rests.2.1 71 = .ok (.iastore, 1) := by decide +kernel
theorem d_X12_rests_72 : decode M_X12_rests.2.1 72 = .ok (.aload_n 0, 1) := by decide +kernel
theorem d_X12_rests_73 : decode M_X12_rests.2.1 73 = .ok (.dup, 1) := by decide +kernel
theorem d_X12_rests_74 : decode M_X12_rests.2.1 74 = .ok (.getfield 570, 3) := by decide +kernel
theorem d_X12_rests_77 : decode M_X12_rests.2.1 77 = .ok (.iconst 1, 1) := by decide +kernel
theorem d_X12_rests_78 : decode M_X12_rests.2.1 78 = .ok (.iadd, 1) := by decide +kernel
theorem d_X12_rests_79 : decode M_X12_rests.2.1 79 = .ok (.putfield 570, 3) := by decide +kernel
theorem d_X12_rests_82 : decode M_X12_rests.2.1 82 = .ok (.iinc 3 1, 3) := by decide +kernel
theorem d_X12_rests_85 : decode M_X12_rests.2.1 85 = .ok (.goto (-49), 3) := by decide +kernel
theorem d_X12_rests_88 : decode M_X12_rests.2.1 88 = .ok (.aload_n 0, 1) := by decide +kernel
theorem d_X12_rests_89 : decode M_X12_rests.2.1 89 = .ok (.getfield 570, 3) := by decide +kernel
theorem d_X12_rests_92 : decode M_X12_rests.2.1 92 = .ok (.iconst 2, 1) := by decide +kernel
theorem d_X12_rests_93 : decode M_X12_rests.2.1 93 = .ok (.if_icmp .ge 5, 3) := by decide +kernel
theorem d_X12_rests_96 : decode M_X12_rests.2.1 96 = .ok (.iconst (-1), 1) := by decide +kernel
theorem d_X12_rests_97 : decode M_X12_rests.2.1 97 = .ok (.ireturn, 1) := by decide +kernel
theorem d_X12_rests_98 : decode M_X12_rests.2.1 98 = .ok (.iconst 0, 1) := by decide +kernel
theorem d_X12_rests_99 : decode M_X12_rests.2.1 99 = .ok (.istore_n 3, 1) := by decide +kernel
theorem d_X12_rests_100 : decode M_X12_rests.2.1 100 = .ok (.iconst 0, 1) := by decide +kernel
theorem d_X12_rests_101 : decode M_X12_rests.2.1 101 = .ok (.istore 4, 2) := by decide +kernel
theorem d_X12_rests_103 : decode M_X12_rests.2.1 103 = .ok (.iload 4, 2) := by decide +kernel
theorem d_X12_rests_105 : decode M_X12_rests.2.1 105 = .ok (.bipush 12, 2) := by decide +kernel
theorem d_X12_rests_107 : decode M_X12_rests.2.1 107 = .ok (.aload_n 0, 1) := by decide +kernel
theorem d_X12_rests_108 : decode M_X12_rests.2.1 108 = .ok (.getfield 570, 3) := by decide +kernel
theorem d_X12_rests_111 : decode M_X12_rests.2.1 111 = .ok (.invokestatic 423, 3) := by decide +kernel
theorem d_X12_rests_114 : decode M_X12_rests.2.1 114 = .ok (.if_icmp .ge 72, 3) := by decide +kernel
theorem d_X12_rests_117 : decode M_X12_rests.2.1 117 = .ok (.iload 4, 2) := by decide +kernel
theorem d_X12_rests_119 : decode M_X12_rests.2.1 119 = .ok (.istore 5, 2) := by decide +kernel
theorem d_X12_rests_121 : decode M_X12_rests.2.1 121 = .ok (.aload_n 0, 1) := by decide +kernel
theorem d_X12_rests_122 : decode M_X12_rests.2.1 122 = .ok (.getfield 570, 3) := by decide +kernel
theorem d_X12_rests_125 : decode M_X12_rests.2.1 125 = .ok (.iconst 1, 1) := by decide +kernel
theorem d_X12_rests_126 : decode M_X12_rests.2.1 126 = .ok (.isub, 1) := by decide +kernel
theorem d_X12_rests_127 : decode M_X12_rests.2.1 127 = .ok (.istore 6, 2) := by decide +kernel
theorem d_X12_rests_129 : decode M_X12_rests.2.1 129 = .ok (.iload 6, 2) := by decide +kernel
theorem d_X12_rests_131 : decode M_X12_rests.2.1 131 = .ok (.ifCond .lt 28, 3) := by decide +kernel
theorem d_X12_rests_134 : decode M_X12_rests.2.1 134 = .ok (.aload_n 0, 1) := by decide +kernel
theorem d_X12_rests_135 : decode M_X12_rests.2.1 135 = .ok (.getfield 159, 3) := by decide +kernel
theorem d_X12_rests_138 : decode M_X12_rests.2.1 138 = .ok (.iload 6, 2) := by decide +kernel
theorem d_X12_rests_140 : decode M_X12_rests.2.1 140 = .ok (.iload 5, 2) := by decide +kernel
theorem d_X12_rests_142 : decode M_X12_rests.2.1 142 = .ok (.bipush 12, 2) := by decide +kernel
theorem d_X12_rests_144 : decode M_X12_rests.2.1 144 = .ok (.irem, 1) := by decide +kernel
theorem d_X12_rests_145 : decode M_X12_rests.2.1 145 = .ok (.iastore, 1) := by decide +kernel
theorem d_X12_rests_146 : decode M_X12_rests.2.1 146 = .ok (.iload 5, 2) := by decide +kernel
theorem d_X12_rests_148 : decode M_X12_rests.2.1 148 = .ok (.bipush 12, 2) := by decide +kernel
theorem d_X12_rests_150 : decode M_X12_rests.2.1 150 = .ok (.idiv, 1) := by decide +kernel
theorem d_X12_rests_151 : decode M_X12_rests.2.1 151 = .ok (.istore 5, 2) := by decide +kernel
theorem d_X12_rests_153 : decode M_X12_rests.2.1 153 = .ok (.iinc 6 (-1), 3) := by decide +kernel
theorem d_X12_rests_156 : decode M_X12_rests.2.1 156 = .ok (.goto (-27), 3) := by decide +kernel
theorem d_X12_rests_159 : decode M_X12_rests.2.1 159 = .ok (.aload_n 0, 1) := by decide +kernel
theorem d_X12_rests_160 : decode M_X12_rests.2.1 160 = .ok (.invokevirtual 576, 3) := by decide +kernel
theorem d_X12_rests_163 : decode M_X12_rests.2.1 163 = .ok (.ifCond .ne 6, 3) := by decide +kernel
theorem d_X12_rests_166 : decode M_X12_rests.2.1 166 = .ok (.goto 14, 3) := by decide +kernel
theorem d_X12_rests_169 : decode M_X12_rests.2.1 169 = .ok (.iload_n 3, 1) := by decide +kernel
theorem d_X12_rests_170 : decode M_X12_rests.2.1 170 = .ok (.iload_n 2, 1) := by decide +kernel
theorem d_X12_rests_171 : decode M_X12_rests.2.1 171 = .ok (.if_icmp .ne 6, 3) := by decide +kernel
theorem d_X12_rests_174 : decode M_X12_rests.2.1 174 = .ok (.iload 4, 2) := by decide +kernel
theorem d_X12_rests_176 : decode M_X12_rests.2.1 176 = .ok (.ireturn, 1) := by decide +kernel
theorem d_X12_rests_177 : decode M_X12_rests.2.1 177 = .ok (.iinc 3 1, 3) := by decide +kernel
theorem d_X12_rests_180 : decode M_X12_rests.2.1 180 = .ok (.iinc 4 1, 3) := by decide +kernel
theorem d_X12_rests_183 : decode M_X12_rests.2.1 183 = .ok (.goto (-80), 3) := by decide +kernel
theorem d_X12_rests_186 : decode M_X12_rests.2.1 186 = .ok (.iload_n 2, 1) := by decide +kernel
theorem d_X12_rests_187 : decode M_X12_rests.2.1 187 = .ok (.iconst (-1), 1) := by decide +kernel
theorem d_X12_rests_188 : decode M_X12_rests.2.1 188 = .ok (.if_icmp .ne 7, 3) := by decide +kernel
theorem d_X12_rests_191 : decode M_X12_rests.2.1 191 = .ok (.iload_n 3, 1) := by decide +kernel
theorem d_X12_rests_192 : decode M_X12_rests.2.1 192 = .ok (.goto 4, 3) := by decide +kernel
theorem d_X12_rests_195 : decode M_X12_rests.2.1 195 = .ok (.iconst (-1), 1) := by decide +kernel
theorem d_X12_rests_196 : decode M_X12_rests.2.1 196 = .ok (.ireturn, 1) := by decide +kernel
set_option maxRecDepth 20000 in
theorem s_X12_rests_0 {d : Nat} {p0 : Int} {p1 : Int} {G : Mem} {Q : Int → Mem → Prop}  (h : (∀ G1 : Mem, G1 = st G 311 0 0 → (∀ G2 : Mem, G2 = st G1 311 74 0 → (InR p0) ∧ ((p0 < 0) → Q (-1) G2) ∧ (¬ (p0 < 0) → (InR (shlI 1 (G2 313 8))) ∧ (((shlI 1 (G2 313 8)) ≤ p0) → Q (-1) G2) ∧ (¬ ((shlI 1 (G2 313 8)) ≤ p0) → (InR p1) ∧ (((-1) ≤ p1) → Rn d M_X12_rests zN 36 [(0, (2, 311)), (1, (0, p0)), (2, (0, p1)), (3, (0, 0))] [] G2 Q) ∧ (¬ ((-1) ≤ p1) → Q (-1) G2)))))) : Rn d M_X12_rests zN 0 [(0, (2, 311)), (1, (0, p0)), (2, (0, p1))] [] G Q := by
  refine r_aload_n d_X12_rests_0 0 rfl rfl ?_
  refine r_iconst d_X12_rests_1 ?_
  obtain ⟨G1, eG1⟩ : ∃ y : Mem, y = st G 311 0 0 := ⟨_, rfl⟩
  replace h := h G1 eG1
  refine r_putI 12 0 0 rfl d_X12_rests_2 fl_X12_169 (by decide) nofin_12_0 (bs_ob bs_12) ?_
  rw [← eG1]
  refine r_aload_n d_X12_rests_5 0 rfl rfl ?_
  refine r_iconst d_X12_rests_6 ?_
  obtain ⟨G2, eG2⟩ : ∃ y : Mem, y = st G1 311 74 0 := ⟨_, rfl⟩
  replace h := h G2 eG2
  refine r_putI 12 74 74 rfl d_X12_rests_7 fl_X12_570 (by decide) nofin_12_74 (bs_ob bs_12) ?_
  rw [← eG2]
  refine r_iload_n d_X12_rests_10 1 rfl rfl ?_
  obtain ⟨h3, h⟩ := h
  refine r_if_lt (tgt := 32) d_X12_rests_11 (by decide) h3 (fun c4 => ?_) (fun c4 => ?_)
  · replace h := h.1 c4
    refine r_iconst d_X12_rests_32 ?_
    exact r_ireturn d_X12_rests_33 rfl ⟨rfl, Nat.le_refl _, Nat.le_refl _⟩ h
  · replace h := h.2 c4
    refine r_iload_n d_X12_rests_14 1 rfl rfl ?_
    refine r_iconst d_X12_rests_15 ?_
    refine r_aload_n d_X12_rests_16 0 rfl rfl ?_
    refine r_getL (v := 313) 12 10 10 rfl d_X12_rests_17 fl_X12_13 (by decide) (bs_ob bs_12) (ly_12_10 bs_12).1 (ly_12_10 bs_12).2.1 ?_
    refine r_bipush d_X12_rests_20 (by decide +kernel) ?_
    refine r_iaload d_X12_rests_22 (ly_12_10 bs_12).2.2 (by decide) ?_
    refine r_ishl d_X12_rests_23 ?_
    obtain ⟨h5, h⟩ := h
    refine r_icmp_ge (tgt := 32) d_X12_rests_24 (by decide) h3 h5 (fun c6 => ?_) (fun c6 => ?_)
    · replace h := h.1 c6
      refine r_iconst d_X12_rests_32 ?_
      exact r_ireturn d_X12_rests_33 rfl ⟨rfl, Nat.le_refl _, Nat.le_refl _⟩ h
    · replace h := h.2 c6
      refine r_iload_n d_X12_rests_27 2 rfl rfl ?_
      refine r_iconst d_X12_rests_28 ?_
      obtain ⟨h7, h⟩ := h
      refine r_icmp_ge (tgt := 34) d_X12_rests_29 (by decide) h7 ⟨by decide, by decide⟩ (fun c8 => ?_) (fun c8 => ?_)
      · replace h := h.1 c8
        refine r_iconst d_X12_rests_34 ?_
        refine r_istore_n (ls1 := [(3, (0, 0)), (0, (2, 311)), (1, (0, p0)), (2, (0, p1))]) d_X12_rests_35 rfl (by decide) rfl ?_
        exact Rn.sub [1, 2, 3, 0] rfl h
      · replace h := h.2 c8
        refine r_iconst d_X12_rests_32 ?_
        exact r_ireturn d_X12_rests_33 rfl ⟨rfl, Nat.le_refl _, Nat.le_refl _⟩ h
set_option maxRecDepth 20000 in
theorem s_X12_rests_36 {d : Nat} {x1 : Int} {x2 : Int} {x3 : Int} {G : Mem} {Q : Int → Mem → Prop}  (h : (InR x3) ∧ ((5 ≤ x3) → (InR (G 311 74)) ∧ ((2 ≤ (G 311 74)) → Rn d M_X12_rests zN 103 [(0, (2, 311)), (2, (0, x2)), (3, (0, 0)), (4, (0, 0))] [] G Q) ∧ (¬ (2 ≤ (G 311 74)) → Q (-1) G)) ∧ (¬ (5 ≤ x3) → (InR (andI (shrI x1 x3) 1)) ∧ (((andI (shrI x1 x3) 1) ≠ 0) → (InR (G 311 74)) ∧ (((G 311 74) ≠ 3) → (0 ≤ (G 311 74) ∧ (G 311 74) < 3) ∧ (∀ G10 : Mem, G10 = st G 360 (G 311 74) x3 → (∀ G11 : Mem, G11 = st G10 311 74 ((G10 311 74) + 1) → Rn d M_X12_rests zN 36 [(0, (2, 311)), (1, (0, x1)), (2, (0, x2)), (3, (0, (x3 + 1)))] [] G11 Q))) ∧ (¬ ((G 311 74) ≠ 3) → Q (-1) G)) ∧ (¬ ((andI (shrI x1 x3) 1) ≠ 0) → Rn d M_X12_rests zN 36 [(0, (2, 311)), (1, (0, x1)), (2, (0, x2)), (3, (0, (x3 + 1)))] [] G Q))) : Rn d M_X12_rests zN 36 [(0, (2, 311)), (1, (0, x1)), (2, (0, x2)), (3, (0, x3))] [] G Q := by
  refine r_iload_n d_X12_rests_36 3 rfl rfl ?_
  refine r_iconst d_X12_rests_37 ?_
  obtain ⟨h1, h⟩ := h
  refine r_icmp_ge (tgt := 88) d_X12_rests_38 (by decide) h1 ⟨by decide, by decide⟩ (fun c2 => ?_) (fun c2 => ?_)
  · replace h := h.1 c2
    refine r_aload_n d_X12_rests_88 0 rfl rfl ?_
    refine r_getI 12 74 74 rfl d_X12_rests_89 fl_X12_570 (by decide) (bs_ob bs_12) ?_
    refine r_iconst d_X12_rests_92 ?_
    obtain ⟨h3, h⟩ := h
    refine r_icmp_ge (tgt := 98) d_X12_rests_93 (by decide) h3 ⟨by decide, by decide⟩ (fun c4 => ?_) (fun c4 => ?_)
    · replace h := h.1 c4
      refine r_iconst d_X12_rests_98 ?_
      refine r_istore_n (ls1 := [(3, (0, 0)), (0, (2, 311)), (1, (0, x1)), (2, (0, x2))]) d_X12_rests_99 rfl (by decide) rfl ?_
      refine r_iconst d_X12_rests_100 ?_
      refine r_istore (ls1 := [(4, (0, 0)), (3, (0, 0)), (0, (2, 311)), (1, (0, x1)), (2, (0, x2))]) d_X12_rests_101 (by decide) rfl ?_
      exact Rn.sub [2, 4, 1, 0] rfl h
    · replace h := h.2 c4
      refine r_iconst d_X12_rests_96 ?_
      exact r_ireturn d_X12_rests_97 rfl ⟨rfl, Nat.le_refl _, Nat.le_refl _⟩ h
  · replace h := h.2 c2
    refine r_iload_n d_X12_rests_41 1 rfl rfl ?_
    refine r_iload_n d_X12_rests_42 3 rfl rfl ?_
    refine r_ishr d_X12_rests_43 ?_
    refine r_iconst d_X12_rests_44 ?_
    refine r_iand d_X12_rests_45 ?_
    obtain ⟨h5, h⟩ := h
    refine r_if_ne (tgt := 52) d_X12_rests_46 (by decide) h5 (fun c6 => ?_) (fun c6 => ?_)
    · replace h := h.1 c6
      refine r_aload_n d_X12_rests_52 0 rfl rfl ?_
      refine r_getI 12 74 74 rfl d_X12_rests_53 fl_X12_570 (by decide) (bs_ob bs_12) ?_
      refine r_iconst d_X12_rests_56 ?_
      obtain ⟨h7, h⟩ := h
      refine r_icmp_ne (tgt := 62) d_X12_rests_57 (by decide) h7 ⟨by decide, by decide⟩ (fun c8 => ?_) (fun c8 => ?_)
      · replace h := h.1 c8
        refine r_aload_n d_X12_rests_62 0 rfl rfl ?_
        refine r_getL (v := 360) 12 72 72 rfl d_X12_rests_63 fl_X12_156 (by decide) (bs_ob bs_12) (ly_12_72 bs_12).1 (ly_12_72 bs_12).2.1 ?_
        refine r_aload_n d_X12_rests_66 0 rfl rfl ?_
        refine r_getI 12 74 74 rfl d_X12_rests_67 fl_X12_570 (by decide) (bs_ob bs_12) ?_
        refine r_iload_n d_X12_rests_70 3 rfl rfl ?_
        obtain ⟨h9, h⟩ := h
        obtain ⟨G10, eG10⟩ : ∃ y : Mem, y = st G 360 (G 311 74) x3 := ⟨_, rfl⟩
        replace h := h G10 eG10
        refine r_iastore d_X12_rests_71 (ly_12_72 bs_12).2.2 h9 ?_
        rw [← eG10]
        refine r_aload_n d_X12_rests_72 0 rfl rfl ?_
        refine r_dup 2 rfl (by decide) d_X12_rests_73 ?_
        refine r_getI 12 74 74 rfl d_X12_rests_74 fl_X12_570 (by decide) (bs_ob bs_12) ?_
        refine r_iconst d_X12_rests_77 ?_
        refine r_iadd d_X12_rests_78 ?_
        obtain ⟨G11, eG11⟩ : ∃ y : Mem, y = st G10 311 74 ((G10 311 74) + 1) := ⟨_, rfl⟩
        replace h := h G11 eG11
        refine r_putI 12 74 74 rfl d_X12_rests_79 fl_X12_570 (by decide) nofin_12_74 (bs_ob bs_12) ?_
        rw [← eG11]
        refine r_iinc (ls1 := [(3, (0, (x3 + 1))), (0, (2, 311)), (1, (0, x1)), (2, (0, x2))]) d_X12_rests_82 3 rfl (by decide) rfl ?_
        refine r_goto (tgt := 36) d_X12_rests_85 (by decide) ?_
        exact Rn.sub [1, 2, 3, 0] rfl h
      · replace h := h.2 c8
        refine r_iconst d_X12_rests_60 ?_
        exact r_ireturn d_X12_rests_61 rfl ⟨rfl, Nat.le_refl _, Nat.le_refl _⟩ h
    · replace h := h.2 c6
      refine r_goto (tgt := 82) d_X12_rests_49 (by decide) ?_
      refine r_iinc (ls1 := [(3, (0, (x3 + 1))), (0, (2, 311)), (1, (0, x1)), (2, (0, x2))]) d_X12_rests_82 3 rfl (by decide) rfl ?_
      refine r_goto (tgt := 36) d_X12_rests_85 (by decide) ?_
      exact Rn.sub [1, 2, 3, 0] rfl h
set_option maxRecDepth 20000 in
theorem s_X12_rests_103 {d : Nat} {x2 : Int} {x3 : Int} {x4 : Int} {G : Mem} {Q : Int → Mem → Prop}  (h : Ct d M_X12_power NT 0 0 (some lay) [(0, 12), (0, (G 311 74))] G (fun r2 G1 => (InR x4) ∧ (InR r2) ∧ ((r2 ≤ x4) → (InR x2) ∧ ((x2 ≠ (-1)) → Q (-1) G1) ∧ (¬ (x2 ≠ (-1)) → Q x3 G1)) ∧ (¬ (r2 ≤ x4) → Rn (d + 1) M_X12_rests zN 129 [(0, (2, 311)), (2, (0, x2)), (3, (0, x3)), (4, (0, x4)), (5, (0, x4)), (6, (0, ((G1 311 74) - 1)))] [] G1 Q))) : Rn (d + 1) M_X12_rests zN 103 [(0, (2, 311)), (2, (0, x2)), (3, (0, x3)), (4, (0, x4))] [] G Q := by
  refine r_iload d_X12_rests_103 3 rfl ?_
  refine r_bipush d_X12_rests_105 (by decide +kernel) ?_
  refine r_aload_n d_X12_rests_107 0 rfl rfl ?_
  refine r_getI 12 74 74 rfl d_X12_rests_108 fl_X12_570 (by decide) (bs_ob bs_12) ?_
  refine r_callS0 (M' := M_X12_power) [(0, 12), (0, (G 311 74))] d_X12_rests_111 cl_X12_423 rfl (Nat.le_of_ble_eq_true rfl) ?_
  refine Ct.mono h (fun r2 G1 h => ?_)
  show Rn _ M_X12_rests zN 114 [(0, (2, 311)), (2, (0, x2)), (3, (0, x3)), (4, (0, x4))] [(0, r2), (0, x4)] G1 Q
  obtain ⟨h3, h⟩ := h
  obtain ⟨h4, h⟩ := h
  refine r_icmp_ge (tgt := 186) d_X12_rests_114 (by decide) h3 h4 (fun c5 => ?_) (fun c5 => ?_)
  · replace h := h.1 c5
    refine r_iload_n d_X12_rests_186 1 rfl rfl ?_
    refine r_iconst d_X12_rests_187 ?_
    obtain ⟨h6, h⟩ := h
    refine r_icmp_ne (tgt := 195) d_X12_rests_188 (by decide) h6 ⟨by decide, by decide⟩ (fun c7 => ?_) (fun c7 => ?_)
    · replace h := h.1 c7
      refine r_iconst d_X12_rests_195 ?_
      exact r_ireturn d_X12_rests_196 rfl ⟨rfl, Nat.le_refl _, Nat.le_refl _⟩ h
    · replace h := h.2 c7
      refine r_iload_n d_X12_rests_191 2 rfl rfl ?_
      refine r_goto (tgt := 196) d_X12_rests_192 (by decide) ?_
      exact r_ireturn d_X12_rests_196 rfl ⟨rfl, Nat.le_refl _, Nat.le_refl _⟩ h
  · replace h := h.2 c5
    refine r_iload d_X12_rests_117 3 rfl ?_
    refine r_istore (ls1 := [(5, (0, x4)), (0, (2, 311)), (2, (0, x2)), (3, (0, x3)), (4, (0, x4))]) d_X12_rests_119 (by decide) rfl ?_
    refine r_aload_n d_X12_rests_121 1 rfl rfl ?_
    refine r_getI 12 74 74 rfl d_X12_rests_122 fl_X12_570 (by decide) (bs_ob bs_12) ?_
    refine r_iconst d_X12_rests_125 ?_
    refine r_isub d_X12_rests_126 ?_
    refine r_istore (ls1 := [(6, (0, ((G1 311 74) - 1))), (5, (0, x4)), (0, (2, 311)), (2, (0, x2)), (3, (0, x3)), (4, (0, x4))]) d_X12_rests_127 (by decide) rfl ?_
    exact Rn.sub [2, 3, 4, 5, 1, 0] rfl h
set_option maxRecDepth 20000 in
theorem s_X12_rests_129 {d : Nat} {x2 : Int} {x3 : Int} {x4 : Int} {x5 : Int} {x6 : Int} {G : Mem} {Q : Int → Mem → Prop}  (h : (InR x6) ∧ ((x6 < 0) → Ct d M_X12_isRest NT 0 0 (some lay) [(2, 311)] G (fun r4 G3 => (InR r4) ∧ ((r4 ≠ 0) → (InR x3) ∧ (InR x2) ∧ ((x3 ≠ x2) → Rn (d + 1) M_X12_rests zN 103 [(0, (2, 311)), (2, (0, x2)), (3, (0, (x3 + 1))), (4, (0, (x4 + 1)))] [] G3 Q) ∧ (¬ (x3 ≠ x2) → Q x4 G3)) ∧ (¬ (r4 ≠ 0) → Rn (d + 1) M_X12_rests zN 103 [(0, (2, 311)), (2, (0, x2)), (3, (0, x3)), (4, (0, (x4 + 1)))] [] G3 Q))) ∧ (¬ (x6 < 0) → (InR x5) ∧ ((0 ≤ x6 ∧ x6 < 3) ∧ (∀ G12 : Mem, G12 = st G 361 x6 (Int.tmod x5 12) → Rn (d + 1) M_X12_rests zN 129 [(0, (2, 311)), (2, (0, x2)), (3, (0, x3)), (4, (0, x4)), (5, (0, (Int.tdiv x5 12))), (6, (0, (x6 + (-1))))] [] G12 Q)))) : Rn (d + 1) M_X12_rests zN 129 [(0, (2, 311)), (2, (0, x2)), (3, (0, x3)), (4, (0, x4)), (5, (0, x5)), (6, (0, x6))] [] G Q := by
  refine r_iload d_X12_rests_129 5 rfl ?_
  obtain ⟨h1, h⟩ := h
  refine r_if_lt (tgt := 159) d_X12_rests_131 (by decide) h1 (fun c2 => ?_) (fun c2 => ?_)
  · replace h := h.1 c2
    refine r_aload_n d_X12_rests_159 0 rfl rfl ?_
    refine r_callV0 (M' := M_X12_isRest) (ci := 12) [] d_X12_rests_160 cl_X12_576 rfl (Nat.le_of_ble_eq_true rfl) (by decide) rfl (bs_ob bs_12) ?_
    refine Ct.mono h (fun r4 G3 h => ?_)
    show Rn _ M_X12_rests zN 163 [(0, (2, 311)), (2, (0, x2)), (3, (0, x3)), (4, (0, x4)), (5, (0, x5)), (6, (0, x6))] [(0, r4)] G3 Q
    obtain ⟨h5, h⟩ := h
    refine r_if_ne (tgt := 169) d_X12_rests_163 (by decide) h5 (fun c6 => ?_) (fun c6 => ?_)
    · replace h := h.1 c6
      refine r_iload_n d_X12_rests_169 2 rfl rfl ?_
      refine r_iload_n d_X12_rests_170 1 rfl rfl ?_
      obtain ⟨h7, h⟩ := h
      obtain ⟨h8, h⟩ := h
      refine r_icmp_ne (tgt := 177) d_X12_rests_171 (by decide) h7 h8 (fun c9 => ?_) (fun c9 => ?_)
      · replace h := h.1 c9
        refine r_iinc (ls1 := [(3, (0, (x3 + 1))), (0, (2, 311)), (2, (0, x2)), (4, (0, x4)), (5, (0, x5)), (6, (0, x6))]) d_X12_rests_177 2 rfl (by decide) rfl ?_
        refine r_iinc (ls1 := [(4, (0, (x4 + 1))), (3, (0, (x3 + 1))), (0, (2, 311)), (2, (0, x2)), (5, (0, x5)), (6, (0, x6))]) d_X12_rests_180 3 rfl (by decide) rfl ?_
        refine r_goto (tgt := 103) d_X12_rests_183 (by decide) ?_
        exact Rn.sub [2, 3, 1, 0] rfl h
      · replace h := h.2 c9
        refine r_iload d_X12_rests_174 3 rfl ?_
        exact r_ireturn d_X12_rests_176 rfl ⟨rfl, Nat.le_refl _, Nat.le_refl _⟩ h
    · replace h := h.2 c6
      refine r_goto (tgt := 180) d_X12_rests_166 (by decide) ?_
      refine r_iinc (ls1 := [(4, (0, (x4 + 1))), (0, (2, 311)), (2, (0, x2)), (3, (0, x3)), (5, (0, x5)), (6, (0, x6))]) d_X12_rests_180 3 rfl (by decide) rfl ?_
      refine r_goto (tgt := 103) d_X12_rests_183 (by decide) ?_
      exact Rn.sub [1, 2, 3, 0] rfl h
  · replace h := h.2 c2
    refine r_aload_n d_X12_rests_134 0 rfl rfl ?_
    refine r_getL (v := 361) 12 73 73 rfl d_X12_rests_135 fl_X12_159 (by decide) (bs_ob bs_12) (ly_12_73 bs_12).1 (ly_12_73 bs_12).2.1 ?_
    refine r_iload d_X12_rests_138 5 rfl ?_
    refine r_iload d_X12_rests_140 4 rfl ?_
    refine r_bipush d_X12_rests_142 (by decide +kernel) ?_
    obtain ⟨h10, h⟩ := h
    refine r_irem d_X12_rests_144 h10 ⟨by decide, ⟨by decide, by decide⟩⟩ ?_
    obtain ⟨h11, h⟩ := h
    obtain ⟨G12, eG12⟩ : ∃ y : Mem, y = st G 361 x6 (Int.tmod x5 12) := ⟨_, rfl⟩
    replace h := h G12 eG12
    refine r_iastore d_X12_rests_145 (ly_12_73 bs_12).2.2 h11 ?_
    rw [← eG12]
    refine r_iload d_X12_rests_146 4 rfl ?_
    refine r_bipush d_X12_rests_148 (by decide +kernel) ?_
    refine r_idiv d_X12_rests_150 h10 ⟨by decide, ⟨by decide, by decide⟩⟩ ?_
    refine r_istore (ls1 := [(5, (0, (Int.tdiv x5 12))), (0, (2, 311)), (2, (0, x2)), (3, (0, x3)), (4, (0, x4)), (6, (0, x6))]) d_X12_rests_151 (by decide) rfl ?_
    refine r_iinc (ls1 := [(6, (0, (x6 + (-1)))), (5, (0, (Int.tdiv x5 12))), (0, (2, 311)), (2, (0, x2)), (3, (0, x3)), (4, (0, x4))]) d_X12_rests_153 5 rfl (by decide) rfl ?_
    refine r_goto (tgt := 129) d_X12_rests_156 (by decide) ?_
    exact Rn.sub [2, 3, 4, 5, 1, 0] rfl h
theorem d_X12_touch_0 : decode M_X12_touch.2.1 0 = .ok (.aload_n 0, 1) := by decide +kernel
theorem d_X12_touch_1 : decode M_X12_touch.2.1 1 = .ok (.iconst 0, 1) := by decide +kernel
theorem d_X12_touch_2 : decode M_X12_touch.2.1 2 = .ok (.putfield 169, 3) := by decide +kernel
theorem d_X12_touch_5 : decode M_X12_touch.2.1 5 = .ok (.aload_n 0, 1) := by decide +kernel
theorem d_X12_touch_6 : decode M_X12_touch.2.1 6 = .ok (.iload_n 1, 1) := by decide +kernel
theorem d_X12_touch_7 : decode M_X12_touch.2.1 7 = .ok (.invokevirtual 404, 3) := by decide +kernel
theorem d_X12_touch_10 : decode M_X12_touch.2.1 10 = .ok (.ifCond .eq 27, 3) := by decide +kernel
theorem d_X12_touch_13 : decode M_X12_touch.2.1 13 = .ok (.aload_n 0, 1) := by decide +kernel
theorem d_X12_touch_14 : decode M_X12_touch.2.1 14 = .ok (.getfield 102, 3) := by decide +kernel
theorem d_X12_touch_17 : decode M_X12_touch.2.1 17 = .ok (.bipush 35, 2) := by decide +kernel
theorem d_X12_touch_19 : decode M_X12_touch.2.1 19 = .ok (.iload_n 1, 1) := by decide +kernel
theorem d_X12_touch_20 : decode M_X12_touch.2.1 20 = .ok (.iadd, 1) := by decide +kernel
theorem d_X12_touch_21 : decode M_X12_touch.2.1 21 = .ok (.iaload, 1) := by decide +kernel
theorem d_X12_touch_22 : decode M_X12_touch.2.1 22 = .ok (.aload_n 0, 1) := by decide +kernel
theorem d_X12_touch_23 : decode M_X12_touch.2.1 23 = .ok (.getfield 102, 3) := by decide +kernel
theorem d_X12_touch_26 : decode M_X12_touch.2.1 26 = .ok (.bipush 40, 2) := by decide +kernel
theorem d_X12_touch_28 : decode M_X12_touch.2.1 28 = .ok (.iload_n 1, 1) := by decide +kernel
theorem d_X12_touch_29 : decode M_X12_touch.2.1 29 = .ok (.iadd, 1) := by decide +kernel
theorem d_X12_touch_30 : decode M_X12_touch.2.1 30 = .ok (.iaload, 1) := by decide +kernel
theorem d_X12_touch_31 : decode M_X12_touch.2.1 31 = .ok (.iadd, 1) := by decide +kernel
theorem d_X12_touch_32 : decode M_X12_touch.2.1 32 = .ok (.bipush 15, 2) := by decide +kernel
theorem d_X12_touch_34 : decode M_X12_touch.2.1 34 = .ok (.if_icmp .ne 5, 3) := by decide +kernel
theorem d_X12_touch_37 : decode M_X12_touch.2.1 37 = .ok (.iconst 0, 1) := by decide +kernel
theorem d_X12_touch_38 : decode M_X12_touch.2.1 38 = .ok (.ireturn, 1) := by decide +kernel
theorem d_X12_touch_39 : decode M_X12_touch.2.1 39 = .ok (.iload_n 2, 1) := by decide +kernel
theorem d_X12_touch_40 : decode M_X12_touch.2.1 40 = .ok (.ifCond .eq 19, 3) := by decide +kernel
theorem d_X12_touch_43 : decode M_X12_touch.2.1 43 = .ok (.aload_n 0, 1) := by decide +kernel
theorem d_X12_touch_44 : decode M_X12_touch.2.1 44 = .ok (.getfield 102, 3) := by decide +kernel
theorem d_X12_touch_47 : decode M_X12_touch.2.1 47 = .ok (.bipush 35, 2) := by decide +kernel
theorem d_X12_touch_49 : decode M_X12_touch.2.1 49 = .ok (.iload_n 1, 1) := by decide +kernel
theorem d_X12_touch_50 : decode M_X12_touch.2.1 50 = .ok (.iadd, 1) := by decide +kernel
theorem d_X12_touch_51 : decode M_X12_touch.2.1 51 = .ok (.dup2, 1) := by decide +kernel
theorem d_X12_touch_52 : decode M_X12_touch.2.1 52 = .ok (.iaload, 1) := by decide +kernel
theorem d_X12_touch_53 : decode M_X12_touch.2.1 53 = .ok (.iconst 1, 1) := by decide +kernel
theorem d_X12_touch_54 : decode M_X12_touch.2.1 54 = .ok (.iadd, 1) := by decide +kernel
theorem d_X12_touch_55 : decode M_X12_touch.2.1 55 = .ok (.iastore, 1) := by decide +kernel
theorem d_X12_touch_56 : decode M_X12_touch.2.1 56 = .ok (.goto 16, 3) := by decide +kernel
theorem d_X12_touch_59 : decode M_X12_touch.2.1 59 = .ok (.aload_n 0, 1) := by decide +kernel
theorem d_X12_touch_60 : decode M_X12_touch.2.1 60 = .ok (.getfield 102, 3) := by decide +kernel
theorem d_X12_touch_63 : decode M_X12_touch.2.1 63 = .ok (.bipush 40, 2) := by decide +kernel
theorem d_X12_touch_65 : decode M_X12_touch.2.1 65 = .ok (.iload_n 1, 1) := by decide +kernel
theorem d_X12_touch_66 : decode M_X12_touch.2.1 66 = .ok (.iadd, 1) := by decide +kernel
theorem d_X12_touch_67 : decode M_X12_touch.2.1 67 = .ok (.dup2, 1) := by decide +kernel
theorem d_X12_touch_68 : decode M_X12_touch.2.1 68 = .ok (.iaload, 1) := by decide +kernel
theorem d_X12_touch_69 : decode M_X12_touch.2.1 69 = .ok (.iconst 1, 1) := by decide +kernel
theorem d_X12_touch_70 : decode M_X12_touch.2.1 70 = .ok (.iadd, 1) := by decide +kernel
theorem d_X12_touch_71 : decode M_X12_touch.2.1 71 = .ok (.iastore, 1) := by decide +kernel
theorem d_X12_touch_72 : decode M_X12_touch.2.1 72 = .ok (.iconst 1, 1) := by decide +kernel
theorem d_X12_touch_73 : decode M_X12_touch.2.1 73 = .ok (.ireturn, 1) := by decide +kernel
set_option maxRecDepth 20000 in
theorem s_X12_touch_0 {d : Nat} {p0 : Int} {p1 : Int} {G : Mem} {Q : Int → Mem → Prop}  (h : (∀ G1 : Mem, G1 = st G 311 0 0 → Ct d M_X12_isSitter NT 0 0 (some lay) [(2, 311), (0, p0)] G1 (fun r3 G2 => (InR r3) ∧ ((r3 = 0) → Q 0 G2) ∧ (¬ (r3 = 0) → (0 ≤ (35 + p0) ∧ (35 + p0) < 116) ∧ ((0 ≤ (40 + p0) ∧ (40 + p0) < 116) ∧ ((InR ((G2 342 (35 + p0)) + (G2 342 (40 + p0)))) ∧ ((((G2 342 (35 + p0)) + (G2 342 (40 + p0))) ≠ 15) → (InR p1) ∧ ((p1 = 0) → (∀ G12 : Mem, G12 = st G2 342 (40 + p0) ((G2 342 (40 + p0)) + 1) → Q 1 G12)) ∧ (¬ (p1 = 0) → (∀ G13 : Mem, G13 = st G2 342 (35 + p0) ((G2 342 (35 + p0)) + 1) → Q 1 G13))) ∧ (¬ (((G2 342 (35 + p0)) + (G2 342 (40 + p0))) ≠ 15) → Q 0 G2))))))) : Rn (d + 1) M_X12_touch zN 0 [(0, (2, 311)), (1, (0, p0)), (2, (0, p1))] [] G Q := by
  refine r_aload_n d_X12_touch_0 0 rfl rfl ?_
  refine r_iconst d_X12_touch_1 ?_
  obtain ⟨G1, eG1⟩ : ∃ y : Mem, y = st G 311 0 0 := ⟨_, rfl⟩
  replace h := h G1 eG1
  refine r_putI 12 0 0 rfl d_X12_touch_2 fl_X12_169 (by decide) nofin_12_0 (bs_ob bs_12) ?_
  rw [← eG1]
  refine r_aload_n d_X12_touch_5 0 rfl rfl ?_
  refine r_iload_n d_X12_touch_6 1 rfl rfl ?_
  refine r_callV0 (M' := M_X12_isSitter) (ci := 12) [(0, p0)] d_X12_touch_7 cl_X12_404 rfl (Nat.le_of_ble_eq_true rfl) (by decide) rfl (bs_ob bs_12) ?_
  refine Ct.mono h (fun r3 G2 h => ?_)
  show Rn _ M_X12_touch zN 10 [(0, (2, 311)), (1, (0, p0)), (2, (0, p1))] [(0, r3)] G2 Q
  obtain ⟨h4, h⟩ := h
  refine r_if_eq (tgt := 37) d_X12_touch_10 (by decide) h4 (fun c5 => ?_) (fun c5 => ?_)
  · replace h := h.1 c5
    refine r_iconst d_X12_touch_37 ?_
    exact r_zreturn d_X12_touch_38 rfl ⟨rfl, Nat.le_refl _, Nat.le_refl _⟩ (by decide) h
  · replace h := h.2 c5
    refine r_aload_n d_X12_touch_13 0 rfl rfl ?_
    refine r_getL (v := 342) 12 43 43 rfl d_X12_touch_14 fl_X12_102 (by decide) (bs_ob bs_12) (ly_12_43 bs_12).1 (ly_12_43 bs_12).2.1 ?_
    refine r_bipush d_X12_touch_17 (by decide +kernel) ?_
    refine r_iload_n d_X12_touch_19 1 rfl rfl ?_
    refine r_iadd d_X12_touch_20 ?_
    obtain ⟨h6, h⟩ := h
    refine r_iaload d_X12_touch_21 (ly_12_43 bs_12).2.2 h6 ?_
    refine r_aload_n d_X12_touch_22 0 rfl rfl ?_
    refine r_getL (v := 342) 12 43 43 rfl d_X12_touch_23 fl_X12_102 (by decide) (bs_ob bs_12) (ly_12_43 bs_12).1 (ly_12_43 bs_12).2.1 ?_
    refine r_bipush d_X12_touch_26 (by decide +kernel) ?_
    refine r_iload_n d_X12_touch_28 1 rfl rfl ?_
    refine r_iadd d_X12_touch_29 ?_
    obtain ⟨h7, h⟩ := h
    refine r_iaload d_X12_touch_30 (ly_12_43 bs_12).2.2 h7 ?_
    refine r_iadd d_X12_touch_31 ?_
    refine r_bipush d_X12_touch_32 (by decide +kernel) ?_
    obtain ⟨h8, h⟩ := h
    refine r_icmp_ne (tgt := 39) d_X12_touch_34 (by decide) h8 ⟨by decide, by decide⟩ (fun c9 => ?_) (fun c9 => ?_)
    · replace h := h.1 c9
      refine r_iload_n d_X12_touch_39 2 rfl rfl ?_
      obtain ⟨h10, h⟩ := h
      refine r_if_eq (tgt := 59) d_X12_touch_40 (by decide) h10 (fun c11 => ?_) (fun c11 => ?_)
      · replace h := h.1 c11
        refine r_aload_n d_X12_touch_59 0 rfl rfl ?_
        refine r_getL (v := 342) 12 43 43 rfl d_X12_touch_60 fl_X12_102 (by decide) (bs_ob bs_12) (ly_12_43 bs_12).1 (ly_12_43 bs_12).2.1 ?_
        refine r_bipush d_X12_touch_63 (by decide +kernel) ?_
        refine r_iload_n d_X12_touch_65 1 rfl rfl ?_
        refine r_iadd d_X12_touch_66 ?_
        refine r_dup2 0 2 rfl rfl (by decide) (by decide) d_X12_touch_67 ?_
        refine r_iaload d_X12_touch_68 (ly_12_43 bs_12).2.2 h7 ?_
        refine r_iconst d_X12_touch_69 ?_
        refine r_iadd d_X12_touch_70 ?_
        obtain ⟨G12, eG12⟩ : ∃ y : Mem, y = st G2 342 (40 + p0) ((G2 342 (40 + p0)) + 1) := ⟨_, rfl⟩
        replace h := h G12 eG12
        refine r_iastore d_X12_touch_71 (ly_12_43 bs_12).2.2 h7 ?_
        rw [← eG12]
        refine r_iconst d_X12_touch_72 ?_
        exact r_zreturn d_X12_touch_73 rfl ⟨rfl, Nat.le_refl _, Nat.le_refl _⟩ (by decide) h
      · replace h := h.2 c11
        refine r_aload_n d_X12_touch_43 0 rfl rfl ?_
        refine r_getL (v := 342) 12 43 43 rfl d_X12_touch_44 fl_X12_102 (by decide) (bs_ob bs_12) (ly_12_43 bs_12).1 (ly_12_43 bs_12).2.1 ?_
        refine r_bipush d_X12_touch_47 (by decide +kernel) ?_
        refine r_iload_n d_X12_touch_49 1 rfl rfl ?_
        refine r_iadd d_X12_touch_50 ?_
        refine r_dup2 0 2 rfl rfl (by decide) (by decide) d_X12_touch_51 ?_
        refine r_iaload d_X12_touch_52 (ly_12_43 bs_12).2.2 h6 ?_
        refine r_iconst d_X12_touch_53 ?_
        refine r_iadd d_X12_touch_54 ?_
        obtain ⟨G13, eG13⟩ : ∃ y : Mem, y = st G2 342 (35 + p0) ((G2 342 (35 + p0)) + 1) := ⟨_, rfl⟩
        replace h := h G13 eG13
        refine r_iastore d_X12_touch_55 (ly_12_43 bs_12).2.2 h6 ?_
        rw [← eG13]
        refine r_goto (tgt := 72) d_X12_touch_56 (by decide) ?_
        refine r_iconst d_X12_touch_72 ?_
        exact r_zreturn d_X12_touch_73 rfl ⟨rfl, Nat.le_refl _, Nat.le_refl _⟩ (by decide) h
    · replace h := h.2 c9
      refine r_iconst d_X12_touch_37 ?_
      exact r_zreturn d_X12_touch_38 rfl ⟨rfl, Nat.le_refl _, Nat.le_refl _⟩ (by decide) h
theorem d_X12_likely_0 : decode M_X12_likely.2.1 0 = .ok (.lconst 1, 1) := by decide +kernel
theorem d_X12_likely_1 : decode M_X12_likely.2.1 1 = .ok (.lstore_n 3, 1) := by decide +kernel
theorem d_X12_likely_2 : decode M_X12_likely.2.1 2 = .ok (.iconst 0, 1) := by decide +kernel
theorem d_X12_likely_3 : decode M_X12_likely.2.1 3 = .ok (.istore 5, 2) := by decide +kernel
theorem d_X12_likely_5 : decode M_X12_likely.2.1 5 = .ok (.iload 5, 2) := by decide +kernel
theorem d_X12_likely_7 : decode M_X12_likely.2.1 7 = .ok (.aload_n 0, 1) := by decide +kernel
theorem d_X12_likely_8 : decode M_X12_likely.2.1 8 = .ok (.getfield 102, 3) := by decide +kernel
theorem d_X12_likely_11 : decode M_X12_likely.2.1 11 = .ok (.bipush 35, 2) := by decide +kernel
theorem d_X12_likely_13 : decode M_X12_likely.2.1 13 = .ok (.iload_n 1, 1) := by decide +kernel
theorem d_X12_likely_14 : decode M_X12_likely.2.1 14 = .ok (.iadd, 1) := by decide +kernel
theorem d_X12_likely_15 : decode M_X12_likely.2.1 15 = .ok (.iaload, 1) := by decide +kernel
theorem d_X12_likely_16 : decode M_X12_likely.2.1 16 = .ok (.if_icmp .ge 14, 3) := by decide +kernel
theorem d_X12_likely_19 : decode M_X12_likely.2.1 19 = .ok (.lload_n 3, 1) := by decide +kernel
theorem d_X12_likely_20 : decode M_X12_likely.2.1 20 = .ok (.iload_n 2, 1) := by decide +kernel
theorem d_X12_likely_21 : decode M_X12_likely.2.1 21 = .ok (.i2l, 1) := by decide +kernel
theorem d_X12_likely_22 : decode M_X12_likely.2.1 22 = .ok (.lmul, 1) := by decide +kernel
theorem d_X12_likely_23 : decode M_X12_likely.2.1 23 = .ok (.lstore_n 3, 1) := by decide +kernel
theorem d_X12_likely_24 : decode M_X12_likely.2.1 24 = .ok (.iinc 5 1, 3) := by decide +kernel
theorem d_X12_likely_27 : decode M_X12_likely.2.1 27 = .ok (.goto (-22), 3) := by decide +kernel
theorem d_X12_likely_30 : decode M_X12_likely.2.1 30 = .ok (.iconst 0, 1) := by decide +kernel
theorem d_X12_likely_31 : decode M_X12_likely.2.1 31 = .ok (.istore 5, 2) := by decide +kernel
theorem d_X12_likely_33 : decode M_X12_likely.2.1 33 = .ok (.iload 5, 2) := by decide +kernel
theorem d_X12_likely_35 : decode M_X12_likely.2.1 35 = .ok (.aload_n 0, 1) := by decide +kernel
theorem d_X12_likely_36 : decode M_X12_likely.2.1 36 = .ok (.getfield 102, 3) := by decide +kernel
theorem d_X12_likely_39 : decode M_X12_likely.2.1 39 = .ok (.bipush 40, 2) := by decide +kernel
theorem d_X12_likely_41 : decode M_X12_likely.2.1 41 = .ok (.iload_n 1, 1) := by decide +kernel
theorem d_X12_likely_42 : decode M_X12_likely.2.1 42 = .ok (.iadd, 1) := by decide +kernel
theorem d_X12_likely_43 : decode M_X12_likely.2.1 43 = .ok (.iaload, 1) := by decide +kernel
theorem d_X12_likely_44 : decode M_X12_likely.2.1 44 = .ok (.if_icmp .ge 17, 3) := by decide +kernel
theorem d_X12_likely_47 : decode M_X12_likely.2.1 47 = .ok (.lload_n 3, 1) := by decide +kernel
theorem d_X12_likely_48 : decode M_X12_likely.2.1 48 = .ok (.bipush 10, 2) := by decide +kernel
theorem d_X12_likely_50 : decode M_X12_likely.2.1 50 = .ok (.iload_n 2, 1) := by decide +kernel
theorem d_X12_likely_51 : decode M_X12_likely.2.1 51 = .ok (.isub, 1) := by decide +kernel
theorem d_X12_likely_52 : decode M_X12_likely.2.1 52 = .ok (.i2l, 1) := by decide +kernel
theorem d_X12_likely_53 : decode M_X12_likely.2.1 53 = .ok (.lmul, 1) := by decide +kernel
theorem d_X12_likely_54 : decode M_X12_likely.2.1 54 = .ok (.lstore_n 3, 1) := by decide +kernel
theorem d_X12_likely_55 : decode M_X12_likely.2.1 55 = .ok (.iinc 5 1, 3) := by decide +kernel
theorem d_X12_likely_58 : decode M_X12_likely.2.1 58 = .ok (.goto (-25), 3) := by decide +kernel
theorem d_X12_likely_61 : decode M_X12_likely.2.1 61 = .ok (.lload_n 3, 1) := by decide +kernel
theorem d_X12_likely_62 : decode M_X12_likely.2.1 62 = .ok (.lreturn, 1) := by decide +kernel
set_option maxRecDepth 20000 in
theorem s_X12_likely_0 {d : Nat} {p0 : Int} {p1 : Int} {G : Mem} {Q : Int → Mem → Prop}  (h : Rn d M_X12_likely zN 5 [(0, (2, 311)), (1, (0, p0)), (2, (0, p1)), (3, (1, 1)), (5, (0, 0))] [] G Q) : Rn d M_X12_likely zN 0 [(0, (2, 311)), (1, (0, p0)), (2, (0, p1))] [] G Q := by
  refine r_lconst (x := 1) d_X12_likely_0 rfl ?_
  refine r_lstore_n (ls1 := [(3, (1, 1)), (0, (2, 311)), (1, (0, p0)), (2, (0, p1))]) d_X12_likely_1 rfl (by decide) rfl ?_
  refine r_iconst d_X12_likely_2 ?_
  refine r_istore (ls1 := [(5, (0, 0)), (3, (1, 1)), (0, (2, 311)), (1, (0, p0)), (2, (0, p1))]) d_X12_likely_3 (by decide) rfl ?_
  exact Rn.sub [2, 3, 4, 1, 0] rfl h
set_option maxRecDepth 20000 in
theorem s_X12_likely_5 {d : Nat} {x1 : Int} {x2 : Int} {x3 : Int} {x5 : Int} {G : Mem} {Q : Int → Mem → Prop}  (h : (0 ≤ (35 + x1) ∧ (35 + x1) < 116) ∧ ((InR x5) ∧ (InR (G 342 (35 + x1))) ∧ (((G 342 (35 + x1)) ≤ x5) → Rn d M_X12_likely zN 33 [(0, (2, 311)), (1, (0, x1)), (2, (0, x2)), (3, (1, x3)), (5, (0, 0))] [] G Q) ∧ (¬ ((G 342 (35 + x1)) ≤ x5) → (InR x2) ∧ (Rn d M_X12_likely zN 5 [(0, (2, 311)), (1, (0, x1)), (2, (0, x2)), (3, (1, (x3 * x2))), (5, (0, (x5 + 1)))] [] G Q)))) : Rn d M_X12_likely zN 5 [(0, (2, 311)), (1, (0, x1)), (2, (0, x2)), (3, (1, x3)), (5, (0, x5))] [] G Q := by
  refine r_iload d_X12_likely_5 4 rfl ?_
  refine r_aload_n d_X12_likely_7 0 rfl rfl ?_
  refine r_getL (v := 342) 12 43 43 rfl d_X12_likely_8 fl_X12_102 (by decide) (bs_ob bs_12) (ly_12_43 bs_12).1 (ly_12_43 bs_12).2.1 ?_
  refine r_bipush d_X12_likely_11 (by decide +kernel) ?_
  refine r_iload_n d_X12_likely_13 1 rfl rfl ?_
  refine r_iadd d_X12_likely_14 ?_
  obtain ⟨h1, h⟩ := h
  refine r_iaload d_X12_likely_15 (ly_12_43 bs_12).2.2 h1 ?_
  obtain ⟨h2, h⟩ := h
  obtain ⟨h3, h⟩ := h
  refine r_icmp_ge (tgt := 30) d_X12_likely_16 (by decide) h2 h3 (fun c4 => ?_) (fun c4 => ?_)
  · replace h := h.1 c4
    refine r_iconst d_X12_likely_30 ?_
    refine r_istore (ls1 := [(5, (0, 0)), (0, (2, 311)), (1, (0, x1)), (2, (0, x2)), (3, (1, x3))]) d_X12_likely_31 (by decide) rfl ?_
    exact Rn.sub [1, 2, 3, 4, 0] rfl h
  · replace h := h.2 c4
    refine r_lload_n d_X12_likely_19 3 rfl rfl ?_
    refine r_iload_n d_X12_likely_20 2 rfl rfl ?_
    obtain ⟨h5, h⟩ := h
    refine r_i2l d_X12_likely_21 h5 ?_
    refine r_lmul d_X12_likely_22 ?_
    refine r_lstore_n (ls1 := [(3, (1, (x3 * x2))), (0, (2, 311)), (1, (0, x1)), (2, (0, x2)), (5, (0, x5))]) d_X12_likely_23 rfl (by decide) rfl ?_
    refine r_iinc (ls1 := [(5, (0, (x5 + 1))), (3, (1, (x3 * x2))), (0, (2, 311)), (1, (0, x1)), (2, (0, x2))]) d_X12_likely_24 4 rfl (by decide) rfl ?_
    refine r_goto (tgt := 5) d_X12_likely_27 (by decide) ?_
    exact Rn.sub [2, 3, 4, 1, 0] rfl h
set_option maxRecDepth 20000 in
theorem s_X12_likely_33 {d : Nat} {x1 : Int} {x2 : Int} {x3 : Int} {x5 : Int} {G : Mem} {Q : Int → Mem → Prop}  (h : (0 ≤ (40 + x1) ∧ (40 + x1) < 116) ∧ ((InR x5) ∧ (InR (G 342 (40 + x1))) ∧ (((G 342 (40 + x1)) ≤ x5) → Q x3 G) ∧ (¬ ((G 342 (40 + x1)) ≤ x5) → (InR (10 - x2)) ∧ (Rn d M_X12_likely zN 33 [(0, (2, 311)), (1, (0, x1)), (2, (0, x2)), (3, (1, (x3 * (10 - x2)))), (5, (0, (x5 + 1)))] [] G Q)))) : Rn d M_X12_likely zN 33 [(0, (2, 311)), (1, (0, x1)), (2, (0, x2)), (3, (1, x3)), (5, (0, x5))] [] G Q := by
  refine r_iload d_X12_likely_33 4 rfl ?_
  refine r_aload_n d_X12_likely_35 0 rfl rfl ?_
  refine r_getL (v := 342) 12 43 43 rfl d_X12_likely_36 fl_X12_102 (by decide) (bs_ob bs_12) (ly_12_43 bs_12).1 (ly_12_43 bs_12).2.1 ?_
  refine r_bipush d_X12_likely_39 (by decide +kernel) ?_
  refine r_iload_n d_X12_likely_41 1 rfl rfl ?_
  refine r_iadd d_X12_likely_42 ?_
  obtain ⟨h1, h⟩ := h
  refine r_iaload d_X12_likely_43 (ly_12_43 bs_12).2.2 h1 ?_
  obtain ⟨h2, h⟩ := h
  obtain ⟨h3, h⟩ := h
  refine r_icmp_ge (tgt := 61) d_X12_likely_44 (by decide) h2 h3 (fun c4 => ?_) (fun c4 => ?_)
  · replace h := h.1 c4
    refine r_lload_n d_X12_likely_61 3 rfl rfl ?_
    exact r_lreturn d_X12_likely_62 rfl ⟨rfl, Nat.le_refl _, Nat.le_refl _⟩ h
  · replace h := h.2 c4
    refine r_lload_n d_X12_likely_47 3 rfl rfl ?_
    refine r_bipush d_X12_likely_48 (by decide +kernel) ?_
    refine r_iload_n d_X12_likely_50 2 rfl rfl ?_
    refine r_isub d_X12_likely_51 ?_
    obtain ⟨h5, h⟩ := h
    refine r_i2l d_X12_likely_52 h5 ?_
    refine r_lmul d_X12_likely_53 ?_
    refine r_lstore_n (ls1 := [(3, (1, (x3 * (10 - x2)))), (0, (2, 311)), (1, (0, x1)), (2, (0, x2)), (5, (0, x5))]) d_X12_likely_54 rfl (by decide) rfl ?_
    refine r_iinc (ls1 := [(5, (0, (x5 + 1))), (3, (1, (x3 * (10 - x2)))), (0, (2, 311)), (1, (0, x1)), (2, (0, x2))]) d_X12_likely_55 4 rfl (by decide) rfl ?_
    refine r_goto (tgt := 33) d_X12_likely_58 (by decide) ?_
    exact Rn.sub [2, 3, 4, 1, 0] rfl h
theorem d_X12_truly_0 : decode M_X12_truly.2.1 0 = .ok (.aload_n 0, 1) := by decide +kernel
theorem d_X12_truly_1 : decode M_X12_truly.2.1 1 = .ok (.iconst 0, 1) := by decide +kernel
theorem d_X12_truly_2 : decode M_X12_truly.2.1 2 = .ok (.putfield 169, 3) := by decide +kernel
theorem d_X12_truly_5 : decode M_X12_truly.2.1 5 = .ok (.aload_n 0, 1) := by decide +kernel
theorem d_X12_truly_6 : decode M_X12_truly.2.1 6 = .ok (.iload_n 1, 1) := by decide +kernel
theorem d_X12_truly_7 : decode M_X12_truly.2.1 7 = .ok (.invokevirtual 404, 3) := by decide +kernel
theorem d_X12_truly_10 : decode M_X12_truly.2.1 10 = .ok (.ifCond .eq 12, 3) := by decide +kernel
theorem d_X12_truly_13 : decode M_X12_truly.2.1 13 = .ok (.iload_n 2, 1) := by decide +kernel
theorem d_X12_truly_14 : decode M_X12_truly.2.1 14 = .ok (.iconst 0, 1) := by decide +kernel
theorem d_X12_truly_15 : decode M_X12_truly.2.1 15 = .ok (.iconst 1, 1) := by decide +kernel
theorem d_X12_truly_16 : decode M_X12_truly.2.1 16 = .ok (.invokestatic 308, 3) := by decide +kernel
theorem d_X12_truly_19 : decode M_X12_truly.2.1 19 = .ok (.ifCond .ne 7, 3) := by decide +kernel
theorem d_X12_truly_22 : decode M_X12_truly.2.1 22 = .ok (.ldc2_w 579, 3) := by decide +kernel
theorem d_X12_truly_25 : decode M_X12_truly.2.1 25 = .ok (.lreturn, 1) := by decide +kernel
theorem d_X12_truly_26 : decode M_X12_truly.2.1 26 = .ok (.aload_n 0, 1) := by decide +kernel
theorem d_X12_truly_27 : decode M_X12_truly.2.1 27 = .ok (.iload_n 1, 1) := by decide +kernel
theorem d_X12_truly_28 : decode M_X12_truly.2.1 28 = .ok (.aload_n 0, 1) := by decide +kernel
theorem d_X12_truly_29 : decode M_X12_truly.2.1 29 = .ok (.getfield 13, 3) := by decide +kernel
theorem d_X12_truly_32 : decode M_X12_truly.2.1 32 = .ok (.bipush 7, 2) := by decide +kernel
theorem d_X12_truly_34 : decode M_X12_truly.2.1 34 = .ok (.iaload, 1) := by decide +kernel
theorem d_X12_truly_35 : decode M_X12_truly.2.1 35 = .ok (.invokevirtual 581, 3) := by decide +kernel
theorem d_X12_truly_38 : decode M_X12_truly.2.1 38 = .ok (.lstore_n 3, 1) := by decide +kernel
theorem d_X12_truly_39 : decode M_X12_truly.2.1 39 = .ok (.lload_n 3, 1) := by decide +kernel
theorem d_X12_truly_40 : decode M_X12_truly.2.1 40 = .ok (.aload_n 0, 1) := by decide +kernel
theorem d_X12_truly_41 : decode M_X12_truly.2.1 41 = .ok (.iload_n 1, 1) := by decide +kernel
theorem d_X12_truly_42 : decode M_X12_truly.2.1 42 = .ok (.bipush 10, 2) := by decide +kernel
theorem d_X12_truly_44 : decode M_X12_truly.2.1 44 = .ok (.aload_n 0, 1) := by decide +kernel
theorem d_X12_truly_45 : decode M_X12_truly.2.1 45 = .ok (.getfield 35, 3) := by decide +kernel
theorem d_X12_truly_48 : decode M_X12_truly.2.1 48 = .ok (.iload_n 1, 1) := by decide +kernel
theorem d_X12_truly_49 : decode M_X12_truly.2.1 49 = .ok (.iaload, 1) := by decide +kernel
theorem d_X12_truly_50 : decode M_X12_truly.2.1 50 = .ok (.isub, 1) := by decide +kernel
theorem d_X12_truly_51 : decode M_X12_truly.2.1 51 = .ok (.invokevirtual 581, 3) := by decide +kernel
theorem d_X12_truly_54 : decode M_X12_truly.2.1 54 = .ok (.ladd, 1) := by decide +kernel
theorem d_X12_truly_55 : decode M_X12_truly.2.1 55 = .ok (.lstore 5, 2) := by decide +kernel
theorem d_X12_truly_57 : decode M_X12_truly.2.1 57 = .ok (.lload 5, 2) := by decide +kernel
theorem d_X12_truly_59 : decode M_X12_truly.2.1 59 = .ok (.lconst 0, 1) := by decide +kernel
theorem d_X12_truly_60 : decode M_X12_truly.2.1 60 = .ok (.lcmp, 1) := by decide +kernel
theorem d_X12_truly_61 : decode M_X12_truly.2.1 61 = .ok (.ifCond .ne 7, 3) := by decide +kernel
theorem d_X12_truly_64 : decode M_X12_truly.2.1 64 = .ok (.ldc2_w 579, 3) := by decide +kernel
theorem d_X12_truly_67 : decode M_X12_truly.2.1 67 = .ok (.lreturn, 1) := by decide +kernel
theorem d_X12_truly_68 : decode M_X12_truly.2.1 68 = .ok (.iload_n 2, 1) := by decide +kernel
theorem d_X12_truly_69 : decode M_X12_truly.2.1 69 = .ok (.ifCond .ne 7, 3) := by decide +kernel
theorem d_X12_truly_72 : decode M_X12_truly.2.1 72 = .ok (.lload_n 3, 1) := by decide +kernel
theorem d_X12_truly_73 : decode M_X12_truly.2.1 73 = .ok (.goto 5, 3) := by decide +kernel
theorem d_X12_truly_76 : decode M_X12_truly.2.1 76 = .ok (.lload 5, 2) := by decide +kernel
theorem d_X12_truly_78 : decode M_X12_truly.2.1 78 = .ok (.lload 5, 2) := by decide +kernel
theorem d_X12_truly_80 : decode M_X12_truly.2.1 80 = .ok (.lload_n 3, 1) := by decide +kernel
theorem d_X12_truly_81 : decode M_X12_truly.2.1 81 = .ok (.invokestatic 585, 3) := by decide +kernel
theorem d_X12_truly_84 : decode M_X12_truly.2.1 84 = .ok (.ldiv, 1) := by decide +kernel
theorem d_X12_truly_85 : decode M_X12_truly.2.1 85 = .ok (.lreturn, 1) := by decide +kernel
set_option maxRecDepth 20000 in
theorem s_X12_truly_0 {d : Nat} {p0 : Int} {p1 : Int} {G : Mem} {Q : Int → Mem → Prop}  (h : (∀ G1 : Mem, G1 = st G 311 0 0 → Ct d M_X12_isSitter NT 0 0 (some lay) [(2, 311), (0, p0)] G1 (fun r3 G2 => (InR r3) ∧ ((r3 = 0) → Q (-1) G2) ∧ (¬ (r3 = 0) → Ct d M_X12_within NT 0 0 (some lay) [(0, p1), (0, 0), (0, 1)] G2 (fun r7 G6 => (InR r7) ∧ ((r7 ≠ 0) → Ct d M_X12_likely NT 0 0 (some lay) [(2, 311), (0, p0), (0, (G6 313 7))] G6 (fun r11 G10 => (0 ≤ p0 ∧ p0 < 30) ∧ (Ct d M_X12_likely NT 0 0 (some lay) [(2, 311), (0, p0), (0, (10 - (G10 320 p0)))] G10 (fun r14 G13 => (InL (r11 + r14)) ∧ (((r11 + r14) ≠ 0) → (InR p1) ∧ ((p1 ≠ 0) → Rn (d + 1) M_X12_truly zN 78 [(3, (1, r11)), (5, (1, (r11 + r14)))] [(1, (r11 + r14))] G13 Q) ∧ (¬ (p1 ≠ 0) → Rn (d + 1) M_X12_truly zN 78 [(3, (1, r11)), (5, (1, (r11 + r14)))] [(1, r11)] G13 Q)) ∧ (¬ ((r11 + r14) ≠ 0) → Q (-1) G13))))) ∧ (¬ (r7 ≠ 0) → Q (-1) G6)))))) : Rn (d + 1) M_X12_truly zN 0 [(0, (2, 311)), (1, (0, p0)), (2, (0, p1))] [] G Q := by
  refine r_aload_n d_X12_truly_0 0 rfl rfl ?_
  refine r_iconst d_X12_truly_1 ?_
  obtain ⟨G1, eG1⟩ : ∃ y : Mem, y = st G 311 0 0 := ⟨_, rfl⟩
  replace h := h G1 eG1
  refine r_putI 12 0 0 rfl d_X12_truly_2 fl_X12_169 (by decide) nofin_12_0 (bs_ob bs_12) ?_
  rw [← eG1]
  refine r_aload_n d_X12_truly_5 0 rfl rfl ?_
  refine r_iload_n d_X12_truly_6 1 rfl rfl ?_
  refine r_callV0 (M' := M_X12_isSitter) (ci := 12) [(0, p0)] d_X12_truly_7 cl_X12_404 rfl (Nat.le_of_ble_eq_true rfl) (by decide) rfl (bs_ob bs_12) ?_
  refine Ct.mono h (fun r3 G2 h => ?_)
  show Rn _ M_X12_truly zN 10 [(0, (2, 311)), (1, (0, p0)), (2, (0, p1))] [(0, r3)] G2 Q
  obtain ⟨h4, h⟩ := h
  refine r_if_eq (tgt := 22) d_X12_truly_10 (by decide) h4 (fun c5 => ?_) (fun c5 => ?_)
  · replace h := h.1 c5
    refine r_ldc2 (x := (-1)) d_X12_truly_22 cst_X12_579 ?_
    exact r_lreturn d_X12_truly_25 rfl ⟨rfl, Nat.le_refl _, Nat.le_refl _⟩ h
  · replace h := h.2 c5
    refine r_iload_n d_X12_truly_13 2 rfl rfl ?_
    refine r_iconst d_X12_truly_14 ?_
    refine r_iconst d_X12_truly_15 ?_
    refine r_callS0 (M' := M_X12_within) [(0, p1), (0, 0), (0, 1)] d_X12_truly_16 cl_X12_308 rfl (Nat.le_of_ble_eq_true rfl) ?_
    refine Ct.mono h (fun r7 G6 h => ?_)
    show Rn _ M_X12_truly zN 19 [(0, (2, 311)), (1, (0, p0)), (2, (0, p1))] [(0, r7)] G6 Q
    obtain ⟨h8, h⟩ := h
    refine r_if_ne (tgt := 26) d_X12_truly_19 (by decide) h8 (fun c9 => ?_) (fun c9 => ?_)
    · replace h := h.1 c9
      refine r_aload_n d_X12_truly_26 0 rfl rfl ?_
      refine r_iload_n d_X12_truly_27 1 rfl rfl ?_
      refine r_aload_n d_X12_truly_28 0 rfl rfl ?_
      refine r_getL (v := 313) 12 10 10 rfl d_X12_truly_29 fl_X12_13 (by decide) (bs_ob bs_12) (ly_12_10 bs_12).1 (ly_12_10 bs_12).2.1 ?_
      refine r_bipush d_X12_truly_32 (by decide +kernel) ?_
      refine r_iaload d_X12_truly_34 (ly_12_10 bs_12).2.2 (by decide) ?_
      refine r_callV0 (M' := M_X12_likely) (ci := 12) [(0, p0), (0, (G6 313 7))] d_X12_truly_35 cl_X12_581 rfl (Nat.le_of_ble_eq_true rfl) (by decide) rfl (bs_ob bs_12) ?_
      refine Ct.mono h (fun r11 G10 h => ?_)
      show Rn _ M_X12_truly zN 38 [(0, (2, 311)), (1, (0, p0)), (2, (0, p1))] [(1, r11)] G10 Q
      refine r_lstore_n (ls1 := [(3, (1, r11)), (0, (2, 311)), (1, (0, p0)), (2, (0, p1))]) d_X12_truly_38 rfl (by decide) rfl ?_
      refine r_lload_n d_X12_truly_39 0 rfl rfl ?_
      refine r_aload_n d_X12_truly_40 1 rfl rfl ?_
      refine r_iload_n d_X12_truly_41 2 rfl rfl ?_
      refine r_bipush d_X12_truly_42 (by decide +kernel) ?_
      refine r_aload_n d_X12_truly_44 1 rfl rfl ?_
      refine r_getL (v := 320) 12 17 17 rfl d_X12_truly_45 fl_X12_35 (by decide) (bs_ob bs_12) (ly_12_17 bs_12).1 (ly_12_17 bs_12).2.1 ?_
      refine r_iload_n d_X12_truly_48 2 rfl rfl ?_
      obtain ⟨h12, h⟩ := h
      refine r_iaload d_X12_truly_49 (ly_12_17 bs_12).2.2 h12 ?_
      refine r_isub d_X12_truly_50 ?_
      refine r_callV0 (M' := M_X12_likely) (ci := 12) [(0, p0), (0, (10 - (G10 320 p0)))] d_X12_truly_51 cl_X12_581 rfl (Nat.le_of_ble_eq_true rfl) (by decide) rfl (bs_ob bs_12) ?_
      refine Ct.mono h (fun r14 G13 h => ?_)
      show Rn _ M_X12_truly zN 54 [(3, (1, r11)), (0, (2, 311)), (1, (0, p0)), (2, (0, p1))] [(1, r14), (1, r11)] G13 Q
      refine r_ladd d_X12_truly_54 ?_
      refine r_lstore (ls1 := [(5, (1, (r11 + r14))), (3, (1, r11)), (0, (2, 311)), (1, (0, p0)), (2, (0, p1))]) d_X12_truly_55 (by decide) rfl ?_
      refine r_lload d_X12_truly_57 0 rfl ?_
      refine r_lconst (x := 0) d_X12_truly_59 rfl ?_
      obtain ⟨h15, h⟩ := h
      refine r_lcmp_ne (tgt := 68) d_X12_truly_60 d_X12_truly_61 (by decide) h15 ⟨by decide, by decide⟩ (fun c16 => ?_) (fun c16 => ?_)
      · replace h := h.1 c16
        refine r_iload_n d_X12_truly_68 4 rfl rfl ?_
        obtain ⟨h17, h⟩ := h
        refine r_if_ne (tgt := 76) d_X12_truly_69 (by decide) h17 (fun c18 => ?_) (fun c18 => ?_)
        · replace h := h.1 c18
          refine r_lload d_X12_truly_76 0 rfl ?_
          exact Rn.sub [1, 0] rfl h
        · replace h := h.2 c18
          refine r_lload_n d_X12_truly_72 1 rfl rfl ?_
          refine r_goto (tgt := 78) d_X12_truly_73 (by decide) ?_
          exact Rn.sub [1, 0] rfl h
      · replace h := h.2 c16
        refine r_ldc2 (x := (-1)) d_X12_truly_64 cst_X12_579 ?_
        exact r_lreturn d_X12_truly_67 rfl ⟨rfl, Nat.le_refl _, Nat.le_refl _⟩ h
    · replace h := h.2 c9
      refine r_ldc2 (x := (-1)) d_X12_truly_22 cst_X12_579 ?_
      exact r_lreturn d_X12_truly_25 rfl ⟨rfl, Nat.le_refl _, Nat.le_refl _⟩ h
set_option maxRecDepth 20000 in
theorem s_X12_truly_78 {d : Nat} {x3 : Int} {x5 : Int} {s0 : Int} {G : Mem} {Q : Int → Mem → Prop}  (h : Ct d M_X12_gcd NT 0 0 (some lay) [(1, x5), (1, x3)] G (fun r2 G1 => (InL s0) ∧ (0 < r2 ∧ InL r2) ∧ (Q (Int.tdiv s0 r2) G1))) : Rn (d + 1) M_X12_truly zN 78 [(3, (1, x3)), (5, (1, x5))] [(1, s0)] G Q := by
  refine r_lload d_X12_truly_78 1 rfl ?_
  refine r_lload_n d_X12_truly_80 0 rfl rfl ?_
  refine r_callS0 (M' := M_X12_gcd) [(1, x5), (1, x3)] d_X12_truly_81 cl_X12_585 rfl (Nat.le_of_ble_eq_true rfl) ?_
  refine Ct.mono h (fun r2 G1 h => ?_)
  show Rn _ M_X12_truly zN 84 [(3, (1, x3)), (5, (1, x5))] [(1, r2), (1, s0)] G1 Q
  obtain ⟨h3, h⟩ := h
  obtain ⟨h4, h⟩ := h
  refine r_ldiv d_X12_truly_84 h3 h4 ?_
  exact r_lreturn d_X12_truly_85 rfl ⟨rfl, Nat.le_refl _, Nat.le_refl _⟩ h
theorem d_X12_went_0 : decode M_X12_went.2.1 0 = .ok (.aload_n 0, 1) := by decide +kernel
theorem d_X12_went_1 : decode M_X12_went.2.1 1 = .ok (.iconst 0, 1) := by decide +kernel
theorem d_X12_went_2 : decode M_X12_went.2.1 2 = .ok (.putfield 169, 3) := by decide +kernel
theorem d_X12_went_5 : decode M_X12_went.2.1 5 = .ok (.aload_n 0, 1) := by decide +kernel
theorem d_X12_went_6 : decode M_X12_went.2.1 6 = .ok (.iload_n 1, 1) := by decide +kernel
theorem d_X12_went_7 : decode M_X12_went.2.1 7 = .ok (.invokevirtual 404, 3) := by decide +kernel
theorem d_X12_went_10 : decode M_X12_went.2.1 10 = .ok (.ifCond .eq 27, 3) := by decide +kernel
theorem d_X12_went_13 : decode M_X12_went.2.1 13 = .ok (.iload_n 2, 1) := by decide +kernel
theorem d_X12_went_14 : decode M_X12_went.2.1 14 = .ok (.iconst 0, 1) := by decide +kernel
theorem d_X12_went_15 : decode M_X12_went.2.1 15 = .ok (.bipush 71, 2) := by decide +kernel
theorem d_X12_went_17 : decode M_X12_went.2.1 17 = .ok (.invokestatic 308, 3) := by decide +kernel
theorem d_X12_went_20 : decode M_X12_went.2.1 20 = .ok (.ifCond .eq 17, 3) := by decide +kernel
theorem d_X12_went_23 : decode M_X12_went.2.1 23 = .ok (.aload_n 0, 1) := by decide +kernel
theorem d_X12_went_24 : decode M_X12_went.2.1 24 = .ok (.getfield 102, 3) := by decide +kernel
theorem d_X12_went_27 : decode M_X12_went.2.1 27 = .ok (.bipush 45, 2) := by decide +kernel
theorem d_X12_went_29 : decode M_X12_went.2.1 29 = .ok (.iload_n 1, 1) := by decide +kernel
theorem d_X12_went_30 : decode M_X12_went.2.1 30 = .ok (.iadd, 1) := by decide +kernel
theorem d_X12_went_31 : decode M_X12_went.2.1 31 = .ok (.iaload, 1) := by decide +kernel
theorem d_X12_went_32 : decode M_X12_went.2.1 32 = .ok (.bipush 12, 2) := by decide +kernel
theorem d_X12_went_34 : decode M_X12_went.2.1 34 = .ok (.if_icmp .ne 5, 3) := by decide +kernel
theorem d_X12_went_37 : decode M_X12_went.2.1 37 = .ok (.iconst 0, 1) := by decide +kernel
theorem d_X12_went_38 : decode M_X12_went.2.1 38 = .ok (.ireturn, 1) := by decide +kernel
theorem d_X12_went_39 : decode M_X12_went.2.1 39 = .ok (.bipush 50, 2) := by decide +kernel
theorem d_X12_went_41 : decode M_X12_went.2.1 41 = .ok (.bipush 12, 2) := by decide +kernel
theorem d_X12_went_43 : decode M_X12_went.2.1 43 = .ok (.iload_n 1, 1) := by decide +kernel
theorem d_X12_went_44 : decode M_X12_went.2.1 44 = .ok (.imul, 1) := by decide +kernel
theorem d_X12_went_45 : decode M_X12_went.2.1 45 = .ok (.iadd, 1) := by decide +kernel
theorem d_X12_went_46 : decode M_X12_went.2.1 46 = .ok (.aload_n 0, 1) := by decide +kernel
theorem d_X12_went_47 : decode M_X12_went.2.1 47 = .ok (.getfield 102, 3) := by decide +kernel
theorem d_X12_went_50 : decode M_X12_went.2.1 50 = .ok (.bipush 45, 2) := by decide +kernel
theorem d_X12_went_52 : decode M_X12_went.2.1 52 = .ok (.iload_n 1, 1) := by decide +kernel
theorem d_X12_went_53 : decode M_X12_went.2.1 53 = .ok (.iadd, 1) := by decide +kernel
theorem d_X12_went_54 : decode M_X12_went.2.1 54 = .ok (.iaload, 1) := by decide +kernel
theorem d_X12_went_55 : decode M_X12_went.2.1 55 = .ok (.iadd, 1) := by decide +kernel
theorem d_X12_went_56 : decode M_X12_went.2.1 56 = .ok (.istore_n 3, 1) := by decide +kernel
theorem d_X12_went_57 : decode M_X12_went.2.1 57 = .ok (.aload_n 0, 1) := by decide +kernel
theorem d_X12_went_58 : decode M_X12_went.2.1 58 = .ok (.getfield 102, 3) := by decide +kernel
theorem d_X12_went_61 : decode M_X12_went.2.1 61 = .ok (.bipush 45, 2) := by decide +kernel
theorem d_X12_went_63 : decode M_X12_went.2.1 63 = .ok (.iload_n 1, 1) := by decide +kernel
theorem d_X12_went_64 : decode M_X12_went.2.1 64 = .ok (.iadd, 1) := by decide +kernel
theorem d_X12_went_65 : decode M_X12_went.2.1 65 = .ok (.iaload, 1) := by decide +kernel
theorem d_X12_went_66 : decode M_X12_went.2.1 66 = .ok (.ifCond .le 17, 3) := by decide +kernel
theorem d_X12_went_69 : decode M_X12_went.2.1 69 = .ok (.aload_n 0, 1) := by decide +kernel
theorem d_X12_went_70 : decode M_X12_went.2.1 70 = .ok (.getfield 102, 3) := by decide +kernel
theorem d_X12_went_73 : decode M_X12_went.2.1 73 = .ok (.iload_n 3, 1) := by decide +kernel
theorem d_X12_went_74 : decode M_X12_went.2.1 74 = .ok (.iconst 1, 1) := by decide +kernel
theorem d_X12_went_75 : decode M_X12_went.2.1 75 = .ok (.isub, 1) := by decide +kernel
theorem d_X12_went_76 : decode M_X12_went.2.1 76 = .ok (.iaload, 1) := by decide +kernel
theorem d_X12_went_77 : decode M_X12_went.2.1 77 = .ok (.iload_n 2, 1) := by decide +kernel
theorem d_X12_went_78 : decode M_X12_went.2.1 78 = .ok (.if_icmp .lt 5, 3) := by decide +kernel
theorem d_X12_went_81 : decode M_X12_went.2.1 81 = .ok (.iconst 0, 1) := by decide +kernel
theorem d_X12_went_82 : decode M_X12_went.2.1 82 = .ok (.ireturn, 1) := by decide +kernel
theorem d_X12_went_83 : decode M_X12_went.2.1 83 = .ok (.aload_n 0, 1) := by decide +kernel
theorem d_X12_went_84 : decode M_X12_went.2.1 84 = .ok (.getfield 102, 3) := by decide +kernel
theorem d_X12_went_87 : decode M_X12_went.2.1 87 = .ok (.iload_n 3, 1) := by decide +kernel
theorem d_X12_went_88 : decode M_X12_went.2.1 88 = .ok (.iload_n 2, 1) := by decide +kernel
theorem d_X12_went_89 : decode M_X12_went.2.1 89 = .ok (.iastore, 1) := by decide +kernel
theorem d_X12_went_90 : decode M_X12_went.2.1 90 = .ok (.aload_n 0, 1) := by decide +kernel
theorem d_X12_went_91 : decode M_X12_went.2.1 91 = .ok (.getfield 102, 3) := by decide +kernel
theorem d_X12_went_94 : decode M_X12_went.2.1 94 = .ok (.bipush 45, 2) := by decide +kernel
theorem d_X12_went_96 : decode M_X12_went.2.1 96 = .ok (.iload_n 1, 1) := by decide +kernel
theorem d_X12_went_97 : decode M_X12_went.2.1 97 = .ok (.iadd, 1) := by decide +kernel
theorem d_X12_went_98 : decode M_X12_went.2.1 98 = .ok (.dup2, 1) := by decide +kernel
theorem d_X12_went_99 : decode M_X12_went.2.1 99 = .ok (.iaload, 1) := by decide +kernel
theorem d_X12_went_100 : decode M_X12_went.2.1 100 = .ok (.iconst 1, 1) := by decide +kernel
theorem d_X12_went_101 : decode M_X12_went.2.1 101 = .ok (.iadd, 1) := by decide +kernel
theorem d_X12_went_102 : decode M_X12_went.2.1 102 = .ok (.iastore, 1) := by decide +kernel
theorem d_X12_went_103 : decode M_X12_went.2.1 103 = .ok (.iconst 1, 1) := by decide +kernel
theorem d_X12_went_104 : decode M_X12_went.2.1 104 = .ok (.ireturn, 1) := by decide +kernel
set_option maxRecDepth 20000 in
theorem s_X12_went_0 {d : Nat} {p0 : Int} {p1 : Int} {G : Mem} {Q : Int → Mem → Prop}  (h : (∀ G1 : Mem, G1 = st G 311 0 0 → Ct d M_X12_isSitter NT 0 0 (some lay) [(2, 311), (0, p0)] G1 (fun r3 G2 => (InR r3) ∧ ((r3 = 0) → Q 0 G2) ∧ (¬ (r3 = 0) → Ct d M_X12_within NT 0 0 (some lay) [(0, p1), (0, 0), (0, 71)] G2 (fun r7 G6 => (InR r7) ∧ ((r7 = 0) → Q 0 G6) ∧ (¬ (r7 = 0) → (0 ≤ (45 + p0) ∧ (45 + p0) < 116) ∧ ((InR (G6 342 (45 + p0))) ∧ (((G6 342 (45 + p0)) ≠ 12) → (((G6 342 (45 + p0)) ≤ 0) → Rn (d + 1) M_X12_went zN 83 [(0, (2, 311)), (1, (0, p0)), (2, (0, p1)), (3, (0, ((50 + (12 * p0)) + (G6 342 (45 + p0)))))] [] G6 Q) ∧ (¬ ((G6 342 (45 + p0)) ≤ 0) → (0 ≤ (((50 + (12 * p0)) + (G6 342 (45 + p0))) - 1) ∧ (((50 + (12 * p0)) + (G6 342 (45 + p0))) - 1) < 116) ∧ ((InR (G6 342 (((50 + (12 * p0)) + (G6 342 (45 + p0))) - 1))) ∧ (InR p1) ∧ (((G6 342 (((50 + (12 * p0)) + (G6 342 (45 + p0))) - 1)) < p1) → Rn (d + 1) M_X12_went zN 83 [(0, (2, 311)), (1, (0, p0)), (2, (0, p1)), (3, (0, ((50 + (12 * p0)) + (G6 342 (45 + p0)))))] [] G6 Q) ∧ (¬ ((G6 342 (((50 + (12 * p0)) + (G6 342 (45 + p0))) - 1)) < p1) → Q 0 G6)))) ∧ (¬ ((G6 342 (45 + p0)) ≠ 12) → Q 0 G6)))))))) : Rn (d + 1) M_X12_went zN 0 [(0, (2, 311)), (1, (0, p0)), (2, (0, p1))] [] G Q := by
  refine r_aload_n d_X12_went_0 0 rfl rfl ?_
  refine r_iconst d_X12_went_1 ?_
  obtain ⟨G1, eG1⟩ : ∃ y : Mem, y = st G 311 0 0 := ⟨_, rfl⟩
  replace h := h G1 eG1
  refine r_putI 12 0 0 rfl d_X12_went_2 fl_X12_169 (by decide) nofin_12_0 (bs_ob bs_12) ?_
  rw [← eG1]
  refine r_aload_n d_X12_went_5 0 rfl rfl ?_
  refine r_iload_n d_X12_went_6 1 rfl rfl ?_
  refine r_callV0 (M' := M_X12_isSitter) (ci := 12) [(0, p0)] d_X12_went_7 cl_X12_404 rfl (Nat.le_of_ble_eq_true rfl) (by decide) rfl (bs_ob bs_12) ?_
  refine Ct.mono h (fun r3 G2 h => ?_)
  show Rn _ M_X12_went zN 10 [(0, (2, 311)), (1, (0, p0)), (2, (0, p1))] [(0, r3)] G2 Q
  obtain ⟨h4, h⟩ := h
  refine r_if_eq (tgt := 37) d_X12_went_10 (by decide) h4 (fun c5 => ?_) (fun c5 => ?_)
  · replace h := h.1 c5
    refine r_iconst d_X12_went_37 ?_
    exact r_zreturn d_X12_went_38 rfl ⟨rfl, Nat.le_refl _, Nat.le_refl _⟩ (by decide) h
  · replace h := h.2 c5
    refine r_iload_n d_X12_went_13 2 rfl rfl ?_
    refine r_iconst d_X12_went_14 ?_
    refine r_bipush d_X12_went_15 (by decide +kernel) ?_
    refine r_callS0 (M' := M_X12_within) [(0, p1), (0, 0), (0, 71)] d_X12_went_17 cl_X12_308 rfl (Nat.le_of_ble_eq_true rfl) ?_
    refine Ct.mono h (fun r7 G6 h => ?_)
    show Rn _ M_X12_went zN 20 [(0, (2, 311)), (1, (0, p0)), (2, (0, p1))] [(0, r7)] G6 Q
    obtain ⟨h8, h⟩ := h
    refine r_if_eq (tgt := 37) d_X12_went_20 (by decide) h8 (fun c9 => ?_) (fun c9 => ?_)
    · replace h := h.1 c9
      refine r_iconst d_X12_went_37 ?_
      exact r_zreturn d_X12_went_38 rfl ⟨rfl, Nat.le_refl _, Nat.le_refl _⟩ (by decide) h
    · replace h := h.2 c9
      refine r_aload_n d_X12_went_23 0 rfl rfl ?_
      refine r_getL (v := 342) 12 43 43 rfl d_X12_went_24 fl_X12_102 (by decide) (bs_ob bs_12) (ly_12_43 bs_12).1 (ly_12_43 bs_12).2.1 ?_
      refine r_bipush d_X12_went_27 (by decide +kernel) ?_
      refine r_iload_n d_X12_went_29 1 rfl rfl ?_
      refine r_iadd d_X12_went_30 ?_
      obtain ⟨h10, h⟩ := h
      refine r_iaload d_X12_went_31 (ly_12_43 bs_12).2.2 h10 ?_
      refine r_bipush d_X12_went_32 (by decide +kernel) ?_
      obtain ⟨h11, h⟩ := h
      refine r_icmp_ne (tgt := 39) d_X12_went_34 (by decide) h11 ⟨by decide, by decide⟩ (fun c12 => ?_) (fun c12 => ?_)
      · replace h := h.1 c12
        refine r_bipush d_X12_went_39 (by decide +kernel) ?_
        refine r_bipush d_X12_went_41 (by decide +kernel) ?_
        refine r_iload_n d_X12_went_43 1 rfl rfl ?_
        refine r_imul d_X12_went_44 ?_
        refine r_iadd d_X12_went_45 ?_
        refine r_aload_n d_X12_went_46 0 rfl rfl ?_
        refine r_getL (v := 342) 12 43 43 rfl d_X12_went_47 fl_X12_102 (by decide) (bs_ob bs_12) (ly_12_43 bs_12).1 (ly_12_43 bs_12).2.1 ?_
        refine r_bipush d_X12_went_50 (by decide +kernel) ?_
        refine r_iload_n d_X12_went_52 1 rfl rfl ?_
        refine r_iadd d_X12_went_53 ?_
        refine r_iaload d_X12_went_54 (ly_12_43 bs_12).2.2 h10 ?_
        refine r_iadd d_X12_went_55 ?_
        refine r_istore_n (ls1 := [(3, (0, ((50 + (12 * p0)) + (G6 342 (45 + p0))))), (0, (2, 311)), (1, (0, p0)), (2, (0, p1))]) d_X12_went_56 rfl (by decide) rfl ?_
        refine r_aload_n d_X12_went_57 1 rfl rfl ?_
        refine r_getL (v := 342) 12 43 43 rfl d_X12_went_58 fl_X12_102 (by decide) (bs_ob bs_12) (ly_12_43 bs_12).1 (ly_12_43 bs_12).2.1 ?_
        refine r_bipush d_X12_went_61 (by decide +kernel) ?_
        refine r_iload_n d_X12_went_63 2 rfl rfl ?_
        refine r_iadd d_X12_went_64 ?_
        refine r_iaload d_X12_went_65 (ly_12_43 bs_12).2.2 h10 ?_
        refine r_if_le (tgt := 83) d_X12_went_66 (by decide) h11 (fun c13 => ?_) (fun c13 => ?_)
        · replace h := h.1 c13
          exact Rn.sub [1, 2, 3, 0] rfl h
        · replace h := h.2 c13
          refine r_aload_n d_X12_went_69 1 rfl rfl ?_
          refine r_getL (v := 342) 12 43 43 rfl d_X12_went_70 fl_X12_102 (by decide) (bs_ob bs_12) (ly_12_43 bs_12).1 (ly_12_43 bs_12).2.1 ?_
          refine r_iload_n d_X12_went_73 0 rfl rfl ?_
          refine r_iconst d_X12_went_74 ?_
          refine r_isub d_X12_went_75 ?_
          obtain ⟨h14, h⟩ := h
          refine r_iaload d_X12_went_76 (ly_12_43 bs_12).2.2 h14 ?_
          refine r_iload_n d_X12_went_77 3 rfl rfl ?_
          obtain ⟨h15, h⟩ := h
          obtain ⟨h16, h⟩ := h
          refine r_icmp_lt (tgt := 83) d_X12_went_78 (by decide) h15 h16 (fun c17 => ?_) (fun c17 => ?_)
          · replace h := h.1 c17
            exact Rn.sub [1, 2, 3, 0] rfl h
          · replace h := h.2 c17
            refine r_iconst d_X12_went_81 ?_
            exact r_zreturn d_X12_went_82 rfl ⟨rfl, Nat.le_refl _, Nat.le_refl _⟩ (by decide) h
      · replace h := h.2 c12
        refine r_iconst d_X12_went_37 ?_
        exact r_zreturn d_X12_went_38 rfl ⟨rfl, Nat.le_refl _, Nat.le_refl _⟩ (by decide) h
set_option maxRecDepth 20000 in
theorem s_X12_went_83 {d : Nat} {x1 : Int} {x2 : Int} {x3 : Int} {G : Mem} {Q : Int → Mem → Prop}  (h : (0 ≤ x3 ∧ x3 < 116) ∧ (∀ G2 : Mem, G2 = st G 342 x3 x2 → (0 ≤ (45 + x1) ∧ (45 + x1) < 116) ∧ ((∀ G4 : Mem, G4 = st G2 342 (45 + x1) ((G2 342 (45 + x1)) + 1) → Q 1 G4)))) : Rn d M_X12_went zN 83 [(0, (2, 311)), (1, (0, x1)), (2, (0, x2)), (3, (0, x3))] [] G Q := by
  refine r_aload_n d_X12_went_83 0 rfl rfl ?_
  refine r_getL (v := 342) 12 43 43 rfl d_X12_went_84 fl_X12_102 (by decide) (bs_ob bs_12) (ly_12_43 bs_12).1 (ly_12_43 bs_12).2.1 ?_
  refine r_iload_n d_X12_went_87 3 rfl rfl ?_
  refine r_iload_n d_X12_went_88 2 rfl rfl ?_
  obtain ⟨h1, h⟩ := h
  obtain ⟨G2, eG2⟩ : ∃ y : Mem, y = st G 342 x3 x2 := ⟨_, rfl⟩
  replace h := h G2 eG2
  refine r_iastore d_X12_went_89 (ly_12_43 bs_12).2.2 h1 ?_
  rw [← eG2]
  refine r_aload_n d_X12_went_90 0 rfl rfl ?_
  refine r_getL (v := 342) 12 43 43 rfl d_X12_went_91 fl_X12_102 (by decide) (bs_ob bs_12) (ly_12_43 bs_12).1 (ly_12_43 bs_12).2.1 ?_
  refine r_bipush d_X12_went_94 (by decide +kernel) ?_
  refine r_iload_n d_X12_went_96 1 rfl rfl ?_
  refine r_iadd d_X12_went_97 ?_
  refine r_dup2 0 2 rfl rfl (by decide) (by decide) d_X12_went_98 ?_
  obtain ⟨h3, h⟩ := h
  refine r_iaload d_X12_went_99 (ly_12_43 bs_12).2.2 h3 ?_
  refine r_iconst d_X12_went_100 ?_
  refine r_iadd d_X12_went_101 ?_
  obtain ⟨G4, eG4⟩ : ∃ y : Mem, y = st G2 342 (45 + x1) ((G2 342 (45 + x1)) + 1) := ⟨_, rfl⟩
  replace h := h G4 eG4
  refine r_iastore d_X12_went_102 (ly_12_43 bs_12).2.2 h3 ?_
  rw [← eG4]
  refine r_iconst d_X12_went_103 ?_
  exact r_zreturn d_X12_went_104 rfl ⟨rfl, Nat.le_refl _, Nat.le_refl _⟩ (by decide) h
theorem d_X12_isFit_0 : decode M_X12_isFit.2.1 0 = .ok (.iconst 0, 1) := by decide +kernel
theorem d_X12_isFit_1 : decode M_X12_isFit.2.1 1 = .ok (.istore 4, 2) := by decide +kernel
theorem d_X12_isFit_3 : decode M_X12_isFit.2.1 3 = .ok (.iconst 0, 1) := by decide +kernel
theorem d_X12_isFit_4 : decode M_X12_isFit.2.1 4 = .ok (.istore 5, 2) := by decide +kernel
theorem d_X12_isFit_6 : decode M_X12_isFit.2.1 6 = .ok (.aload_n 0, 1) := by decide +kernel
theorem d_X12_isFit_7 : decode M_X12_isFit.2.1 7 = .ok (.getfield 102, 3) := by decide +kernel
theorem d_X12_isFit_10 : decode M_X12_isFit.2.1 10 = .ok (.bipush 45, 2) := by decide +kernel
theorem d_X12_isFit_12 : decode M_X12_isFit.2.1 12 = .ok (.iload_n 1, 1) := by decide +kernel
theorem d_X12_isFit_13 : decode M_X12_isFit.2.1 13 = .ok (.iadd, 1) := by decide +kernel
theorem d_X12_isFit_14 : decode M_X12_isFit.2.1 14 = .ok (.iaload, 1) := by decide +kernel
theorem d_X12_isFit_15 : decode M_X12_isFit.2.1 15 = .ok (.istore 6, 2) := by decide +kernel
theorem d_X12_isFit_17 : decode M_X12_isFit.2.1 17 = .ok (.iconst 0, 1) := by decide +kernel
theorem d_X12_isFit_18 : decode M_X12_isFit.2.1 18 = .ok (.istore 7, 2) := by decide +kernel
theorem d_X12_isFit_20 : decode M_X12_isFit.2.1 20 = .ok (.iload 5, 2) := by decide +kernel
theorem d_X12_isFit_22 : decode M_X12_isFit.2.1 22 = .ok (.iload 6, 2) := by decide +kernel
theorem d_X12_isFit_24 : decode M_X12_isFit.2.1 24 = .ok (.if_icmp .ge 90, 3) := by decide +kernel
theorem d_X12_isFit_27 : decode M_X12_isFit.2.1 27 = .ok (.aload_n 0, 1) := by decide +kernel
theorem d_X12_isFit_28 : decode M_X12_isFit.2.1 28 = .ok (.getfield 102, 3) := by decide +kernel
theorem d_X12_isFit_31 : decode M_X12_isFit.2.1 31 = .ok (.bipush 50, 2) := by decide +kernel
theorem d_X12_isFit_33 : decode M_X12_isFit.2.1 33 = .ok (.bipush 12, 2) := by decide +kernel
theorem d_X12_isFit_35 : decode M_X12_isFit.2.1 35 = .ok (.iload_n 1, 1) := by decide +kernel
theorem d_X12_isFit_36 : decode M_X12_isFit.2.1 36 = .ok (.imul, 1) := by decide +kernel
theorem d_X12_isFit_37 : decode M_X12_isFit.2.1 37 = .ok (.iadd, 1) := by decide +kernel
theorem d_X12_isFit_38 : decode M_X12_isFit.2.1 38 = .ok (.iload 5, 2) := by decide +kernel
theorem d_X12_isFit_40 : decode M_X12_isFit.2.1 40 = .ok (.iadd, 1) := by decide +kernel
theorem d_X12_isFit_41 : decode M_X12_isFit.2.1 41 = .ok (.iaload, 1) := by decide +kernel
theorem d_X12_isFit_42 : decode M_X12_isFit.2.1 42 = .ok (.iload 7, 2) := by decide +kernel
theorem d_X12_isFit_44 : decode M_X12_isFit.2.1 44 = .ok (.if_icmp .ne 7, 3) := by decide +kernel
theorem d_X12_isFit_47 : decode M_X12_isFit.2.1 47 = .ok (.iconst 1, 1) := by decide +kernel
theorem d_X12_isFit_48 : decode M_X12_isFit.2.1 48 = .ok (.goto 4, 3) := by decide +kernel
theorem d_X12_isFit_51 : decode M_X12_isFit.2.1 51 = .ok (.iconst 0, 1) := by decide +kernel
theorem d_X12_isFit_52 : decode M_X12_isFit.2.1 52 = .ok (.istore 8, 2) := by decide +kernel
theorem d_X12_isFit_54 : decode M_X12_isFit.2.1 54 = .ok (.iload 4, 2) := by decide +kernel
theorem d_X12_isFit_56 : decode M_X12_isFit.2.1 56 = .ok (.iload_n 3, 1) := by decide +kernel
theorem d_X12_isFit_57 : decode M_X12_isFit.2.1 57 = .ok (.if_icmp .lt 7, 3) := by decide +kernel
theorem d_X12_isFit_60 : decode M_X12_isFit.2.1 60 = .ok (.iconst 1, 1) := by decide +kernel
theorem d_X12_isFit_61 : decode M_X12_isFit.2.1 61 = .ok (.goto 4, 3) := by decide +kernel
theorem d_X12_isFit_64 : decode M_X12_isFit.2.1 64 = .ok (.iconst 0, 1) := by decide +kernel
theorem d_X12_isFit_65 : decode M_X12_isFit.2.1 65 = .ok (.iload 8, 2) := by decide +kernel
theorem d_X12_isFit_67 : decode M_X12_isFit.2.1 67 = .ok (.if_icmp .eq 5, 3) := by decide +kernel
theorem d_X12_isFit_70 : decode M_X12_isFit.2.1 70 = .ok (.iconst 0, 1) := by decide +kernel
theorem d_X12_isFit_71 : decode M_X12_isFit.2.1 71 = .ok (.ireturn, 1) := by decide +kernel
theorem d_X12_isFit_72 : decode M_X12_isFit.2.1 72 = .ok (.iload 5, 2) := by decide +kernel
theorem d_X12_isFit_74 : decode M_X12_isFit.2.1 74 = .ok (.iload 8, 2) := by decide +kernel
theorem d_X12_isFit_76 : decode M_X12_isFit.2.1 76 = .ok (.ifCond .eq 7, 3) := by decide +kernel
theorem d_X12_isFit_79 : decode M_X12_isFit.2.1 79 = .ok (.iconst 1, 1) := by decide +kernel
theorem d_X12_isFit_80 : decode M_X12_isFit.2.1 80 = .ok (.goto 4, 3) := by decide +kernel
theorem d_X12_isFit_83 : decode M_X12_isFit.2.1 83 = .ok (.iconst 0, 1) := by decide +kernel
theorem d_X12_isFit_84 : decode M_X12_isFit.2.1 84 = .ok (.iadd, 1) := by decide +kernel
theorem d_X12_isFit_85 : decode M_X12_isFit.2.1 85 = .ok (.istore 5, 2) := by decide +kernel
theorem d_X12_isFit_87 : decode M_X12_isFit.2.1 87 = .ok (.iload 8, 2) := by decide +kernel
theorem d_X12_isFit_89 : decode M_X12_isFit.2.1 89 = .ok (.ifCond .eq 7, 3) := by decide +kernel
theorem d_X12_isFit_92 : decode M_X12_isFit.2.1 92 = .ok (.iconst 0, 1) := by decide +kernel
theorem d_X12_isFit_93 : decode M_X12_isFit.2.1 93 = .ok (.goto 13, 3) := by decide +kernel
theorem d_X12_isFit_96 : decode M_X12_isFit.2.1 96 = .ok (.sipush 199, 3) := by decide +kernel
theorem d_X12_isFit_99 : decode M_X12_isFit.2.1 99 = .ok (.iload 4, 2) := by decide +kernel
theorem d_X12_isFit_101 : decode M_X12_isFit.2.1 101 = .ok (.iload_n 2, 1) := by decide +kernel
theorem d_X12_isFit_102 : decode M_X12_isFit.2.1 102 = .ok (.iadd, 1) := by decide +kernel
theorem d_X12_isFit_103 : decode M_X12_isFit.2.1 103 = .ok (.invokestatic 456, 3) := by decide +kernel
theorem d_X12_isFit_106 : decode M_X12_isFit.2.1 106 = .ok (.istore 4, 2) := by decide +kernel
theorem d_X12_isFit_108 : decode M_X12_isFit.2.1 108 = .ok (.iinc 7 1, 3) := by decide +kernel
theorem d_X12_isFit_111 : decode M_X12_isFit.2.1 111 = .ok (.goto (-91), 3) := by decide +kernel
theorem d_X12_isFit_114 : decode M_X12_isFit.2.1 114 = .ok (.iconst 1, 1) := by decide +kernel
theorem d_X12_isFit_115 : decode M_X12_isFit.2.1 115 = .ok (.ireturn, 1) := by decide +kernel
set_option maxRecDepth 20000 in
theorem s_X12_isFit_0 {d : Nat} {p0 : Int} {p1 : Int} {p2 : Int} {G : Mem} {Q : Int → Mem → Prop}  (h : (0 ≤ (45 + p0) ∧ (45 + p0) < 116) ∧ (Rn d M_X12_isFit zN 20 [(0, (2, 311)), (1, (0, p0)), (2, (0, p1)), (3, (0, p2)), (4, (0, 0)), (5, (0, 0)), (6, (0, (G 342 (45 + p0)))), (7, (0, 0))] [] G Q)) : Rn d M_X12_isFit zN 0 [(0, (2, 311)), (1, (0, p0)), (2, (0, p1)), (3, (0, p2))] [] G Q := by
  refine r_iconst d_X12_isFit_0 ?_
  refine r_istore (ls1 := [(4, (0, 0)), (0, (2, 311)), (1, (0, p0)), (2, (0, p1)), (3, (0, p2))]) d_X12_isFit_1 (by decide) rfl ?_
  refine r_iconst d_X12_isFit_3 ?_
  refine r_istore (ls1 := [(5, (0, 0)), (4, (0, 0)), (0, (2, 311)), (1, (0, p0)), (2, (0, p1)), (3, (0, p2))]) d_X12_isFit_4 (by decide) rfl ?_
  refine r_aload_n d_X12_isFit_6 2 rfl rfl ?_
  refine r_getL (v := 342) 12 43 43 rfl d_X12_isFit_7 fl_X12_102 (by decide) (bs_ob bs_12) (ly_12_43 bs_12).1 (ly_12_43 bs_12).2.1 ?_
  refine r_bipush d_X12_isFit_10 (by decide +kernel) ?_
  refine r_iload_n d_X12_isFit_12 3 rfl rfl ?_
  refine r_iadd d_X12_isFit_13 ?_
  obtain ⟨h1, h⟩ := h
  refine r_iaload d_X12_isFit_14 (ly_12_43 bs_12).2.2 h1 ?_
  refine r_istore (ls1 := [(6, (0, (G 342 (45 + p0)))), (5, (0, 0)), (4, (0, 0)), (0, (2, 311)), (1, (0, p0)), (2, (0, p1)), (3, (0, p2))]) d_X12_isFit_15 (by decide) rfl ?_
  refine r_iconst d_X12_isFit_17 ?_
  refine r_istore (ls1 := [(7, (0, 0)), (6, (0, (G 342 (45 + p0)))), (5, (0, 0)), (4, (0, 0)), (0, (2, 311)), (1, (0, p0)), (2, (0, p1)), (3, (0, p2))]) d_X12_isFit_18 (by decide) rfl ?_
  exact Rn.sub [4, 5, 6, 7, 3, 2, 1, 0] rfl h
set_option maxRecDepth 20000 in
theorem s_X12_isFit_20 {d : Nat} {x1 : Int} {x2 : Int} {x3 : Int} {x4 : Int} {x5 : Int} {x6 : Int} {x7 : Int} {G : Mem} {Q : Int → Mem → Prop}  (h : (InR x5) ∧ (InR x6) ∧ ((x6 ≤ x5) → Q 1 G) ∧ (¬ (x6 ≤ x5) → (0 ≤ ((50 + (12 * x1)) + x5) ∧ ((50 + (12 * x1)) + x5) < 116) ∧ ((InR (G 342 ((50 + (12 * x1)) + x5))) ∧ (InR x7) ∧ (((G 342 ((50 + (12 * x1)) + x5)) ≠ x7) → Rn d M_X12_isFit zN 52 [(0, (2, 311)), (1, (0, x1)), (2, (0, x2)), (3, (0, x3)), (4, (0, x4)), (5, (0, x5)), (6, (0, x6)), (7, (0, x7))] [(0, 0)] G Q) ∧ (¬ ((G 342 ((50 + (12 * x1)) + x5)) ≠ x7) → Rn d M_X12_isFit zN 52 [(0, (2, 311)), (1, (0, x1)), (2, (0, x2)), (3, (0, x3)), (4, (0, x4)), (5, (0, x5)), (6, (0, x6)), (7, (0, x7))] [(0, 1)] G Q)))) : Rn d M_X12_isFit zN 20 [(0, (2, 311)), (1, (0, x1)), (2, (0, x2)), (3, (0, x3)), (4, (0, x4)), (5, (0, x5)), (6, (0, x6)), (7, (0, x7))] [] G Q := by
  refine r_iload d_X12_isFit_20 5 rfl ?_
  refine r_iload d_X12_isFit_22 6 rfl ?_
  obtain ⟨h1, h⟩ := h
  obtain ⟨h2, h⟩ := h
  refine r_icmp_ge (tgt := 114) d_X12_isFit_24 (by decide) h1 h2 (fun c3 => ?_) (fun c3 => ?_)
  · replace h := h.1 c3
    refine r_iconst d_X12_isFit_114 ?_
    exact r_zreturn d_X12_isFit_115 rfl ⟨rfl, Nat.le_refl _, Nat.le_refl _⟩ (by decide) h
  · replace h := h.2 c3
    refine r_aload_n d_X12_isFit_27 0 rfl rfl ?_
    refine r_getL (v := 342) 12 43 43 rfl d_X12_isFit_28 fl_X12_102 (by decide) (bs_ob bs_12) (ly_12_43 bs_12).1 (ly_12_43 bs_12).2.1 ?_
    refine r_bipush d_X12_isFit_31 (by decide +kernel) ?_
    refine r_bipush d_X12_isFit_33 (by decide +kernel) ?_
    refine r_iload_n d_X12_isFit_35 1 rfl rfl ?_
    refine r_imul d_X12_isFit_36 ?_
    refine r_iadd d_X12_isFit_37 ?_
    refine r_iload d_X12_isFit_38 5 rfl ?_
    refine r_iadd d_X12_isFit_40 ?_
    obtain ⟨h4, h⟩ := h
    refine r_iaload d_X12_isFit_41 (ly_12_43 bs_12).2.2 h4 ?_
    refine r_iload d_X12_isFit_42 7 rfl ?_
    obtain ⟨h5, h⟩ := h
    obtain ⟨h6, h⟩ := h
    refine r_icmp_ne (tgt := 51) d_X12_isFit_44 (by decide) h5 h6 (fun c7 => ?_) (fun c7 => ?_)
    · replace h := h.1 c7
      refine r_iconst d_X12_isFit_51 ?_
      exact h
    · replace h := h.2 c7
      refine r_iconst d_X12_isFit_47 ?_
      refine r_goto (tgt := 52) d_X12_isFit_48 (by decide) ?_
      exact h
set_option maxRecDepth 20000 in
theorem s_X12_isFit_52 {d : Nat} {x1 : Int} {x2 : Int} {x3 : Int} {x4 : Int} {x5 : Int} {x6 : Int} {x7 : Int} {s0 : Int} {G : Mem} {Q : Int → Mem → Prop}  (h : (InR x4) ∧ (InR x3) ∧ ((x4 < x3) → Rn d M_X12_isFit zN 65 [(0, (2, 311)), (1, (0, x1)), (2, (0, x2)), (3, (0, x3)), (4, (0, x4)), (5, (0, x5)), (6, (0, x6)), (7, (0, x7)), (8, (0, s0))] [(0, 0)] G Q) ∧ (¬ (x4 < x3) → Rn d M_X12_isFit zN 65 [(0, (2, 311)), (1, (0, x1)), (2, (0, x2)), (3, (0, x3)), (4, (0, x4)), (5, (0, x5)), (6, (0, x6)), (7, (0, x7)), (8, (0, s0))] [(0, 1)] G Q)) : Rn d M_X12_isFit zN 52 [(0, (2, 311)), (1, (0, x1)), (2, (0, x2)), (3, (0, x3)), (4, (0, x4)), (5, (0, x5)), (6, (0, x6)), (7, (0, x7))] [(0, s0)] G Q := by
  refine r_istore (ls1 := [(8, (0, s0)), (0, (2, 311)), (1, (0, x1)), (2, (0, x2)), (3, (0, x3)), (4, (0, x4)), (5, (0, x5)), (6, (0, x6)), (7, (0, x7))]) d_X12_isFit_52 (by decide) rfl ?_
  refine r_iload d_X12_isFit_54 5 rfl ?_
  refine r_iload_n d_X12_isFit_56 4 rfl rfl ?_
  obtain ⟨h1, h⟩ := h
  obtain ⟨h2, h⟩ := h
  refine r_icmp_lt (tgt := 64) d_X12_isFit_57 (by decide) h1 h2 (fun c3 => ?_) (fun c3 => ?_)
  · replace h := h.1 c3
    refine r_iconst d_X12_isFit_64 ?_
    exact Rn.sub [1, 2, 3, 4, 5, 6, 7, 8, 0] rfl h
  · replace h := h.2 c3
    refine r_iconst d_X12_isFit_60 ?_
    refine r_goto (tgt := 65) d_X12_isFit_61 (by decide) ?_
    exact Rn.sub [1, 2, 3, 4, 5, 6, 7, 8, 0] rfl h
set_option maxRecDepth 20000 in
theorem s_X12_isFit_65 {d : Nat} {x1 : Int} {x2 : Int} {x3 : Int} {x4 : Int} {x5 : Int} {x6 : Int} {x7 : Int} {x8 : Int} {s0 : Int} {G : Mem} {Q : Int → Mem → Prop}  (h : (InR s0) ∧ (InR x8) ∧ ((s0 = x8) → ((x8 = 0) → Rn d M_X12_isFit zN 84 [(0, (2, 311)), (1, (0, x1)), (2, (0, x2)), (3, (0, x3)), (4, (0, x4)), (6, (0, x6)), (7, (0, x7)), (8, (0, x8))] [(0, 0), (0, x5)] G Q) ∧ (¬ (x8 = 0) → Rn d M_X12_isFit zN 84 [(0, (2, 311)), (1, (0, x1)), (2, (0, x2)), (3, (0, x3)), (4, (0, x4)), (6, (0, x6)), (7, (0, x7)), (8, (0, x8))] [(0, 1), (0, x5)] G Q)) ∧ (¬ (s0 = x8) → Q 0 G)) : Rn d M_X12_isFit zN 65 [(0, (2, 311)), (1, (0, x1)), (2, (0, x2)), (3, (0, x3)), (4, (0, x4)), (5, (0, x5)), (6, (0, x6)), (7, (0, x7)), (8, (0, x8))] [(0, s0)] G Q := by
  refine r_iload d_X12_isFit_65 8 rfl ?_
  obtain ⟨h1, h⟩ := h
  obtain ⟨h2, h⟩ := h
  refine r_icmp_eq (tgt := 72) d_X12_isFit_67 (by decide) h1 h2 (fun c3 => ?_) (fun c3 => ?_)
  · replace h := h.1 c3
    refine r_iload d_X12_isFit_72 5 rfl ?_
    refine r_iload d_X12_isFit_74 8 rfl ?_
    refine r_if_eq (tgt := 83) d_X12_isFit_76 (by decide) h2 (fun c4 => ?_) (fun c4 => ?_)
    · replace h := h.1 c4
      refine r_iconst d_X12_isFit_83 ?_
      exact Rn.sub [0, 1, 2, 3, 4, 6, 7, 8] rfl h
    · replace h := h.2 c4
      refine r_iconst d_X12_isFit_79 ?_
      refine r_goto (tgt := 84) d_X12_isFit_80 (by decide) ?_
      exact Rn.sub [0, 1, 2, 3, 4, 6, 7, 8] rfl h
  · replace h := h.2 c3
    refine r_iconst d_X12_isFit_70 ?_
    exact r_zreturn d_X12_isFit_71 rfl ⟨rfl, Nat.le_refl _, Nat.le_refl _⟩ (by decide) h
set_option maxRecDepth 20000 in
theorem s_X12_isFit_84 {d : Nat} {x1 : Int} {x2 : Int} {x3 : Int} {x4 : Int} {x6 : Int} {x7 : Int} {x8 : Int} {s0 : Int} {s1 : Int} {G : Mem} {Q : Int → Mem → Prop}  (h : (InR x8) ∧ ((x8 = 0) → (InR (x4 + x2)) ∧ (Rn (d + 1) M_X12_isFit zN 20 [(0, (2, 311)), (1, (0, x1)), (2, (0, x2)), (3, (0, x3)), (4, (0, (min 199 (x4 + x2)))), (5, (0, (s1 + s0))), (6, (0, x6)), (7, (0, (x7 + 1)))] [] G Q)) ∧ (¬ (x8 = 0) → Rn (d + 1) M_X12_isFit zN 20 [(0, (2, 311)), (1, (0, x1)), (2, (0, x2)), (3, (0, x3)), (4, (0, 0)), (5, (0, (s1 + s0))), (6, (0, x6)), (7, (0, (x7 + 1)))] [] G Q)) : Rn (d + 1) M_X12_isFit zN 84 [(0, (2, 311)), (1, (0, x1)), (2, (0, x2)), (3, (0, x3)), (4, (0, x4)), (6, (0, x6)), (7, (0, x7)), (8, (0, x8))] [(0, s0), (0, s1)] G Q := by
  refine r_iadd d_X12_isFit_84 ?_
  refine r_istore (ls1 := [(5, (0, (s1 + s0))), (0, (2, 311)), (1, (0, x1)), (2, (0, x2)), (3, (0, x3)), (4, (0, x4)), (6, (0, x6)), (7, (0, x7)), (8, (0, x8))]) d_X12_isFit_85 (by decide) rfl ?_
  refine r_iload d_X12_isFit_87 8 rfl ?_
  obtain ⟨h1, h⟩ := h
  refine r_if_eq (tgt := 96) d_X12_isFit_89 (by decide) h1 (fun c2 => ?_) (fun c2 => ?_)
  · replace h := h.1 c2
    refine r_sipush d_X12_isFit_96 (by decide +kernel) ?_
    refine r_iload d_X12_isFit_99 5 rfl ?_
    refine r_iload_n d_X12_isFit_101 3 rfl rfl ?_
    refine r_iadd d_X12_isFit_102 ?_
    obtain ⟨h3, h⟩ := h
    refine r_mmin d_X12_isFit_103 ml_X12_456 ⟨by decide, by decide⟩ h3 (Nat.le_of_ble_eq_true rfl) ?_
    refine r_istore (ls1 := [(4, (0, (min 199 (x4 + x2)))), (5, (0, (s1 + s0))), (0, (2, 311)), (1, (0, x1)), (2, (0, x2)), (3, (0, x3)), (6, (0, x6)), (7, (0, x7)), (8, (0, x8))]) d_X12_isFit_106 (by decide) rfl ?_
    refine r_iinc (ls1 := [(7, (0, (x7 + 1))), (4, (0, (min 199 (x4 + x2)))), (5, (0, (s1 + s0))), (0, (2, 311)), (1, (0, x1)), (2, (0, x2)), (3, (0, x3)), (6, (0, x6)), (8, (0, x8))]) d_X12_isFit_108 7 rfl (by decide) rfl ?_
    refine r_goto (tgt := 20) d_X12_isFit_111 (by decide) ?_
    exact Rn.sub [3, 4, 5, 6, 1, 2, 7, 0] rfl h
  · replace h := h.2 c2
    refine r_iconst d_X12_isFit_92 ?_
    refine r_goto (tgt := 106) d_X12_isFit_93 (by decide) ?_
    refine r_istore (ls1 := [(4, (0, 0)), (5, (0, (s1 + s0))), (0, (2, 311)), (1, (0, x1)), (2, (0, x2)), (3, (0, x3)), (6, (0, x6)), (7, (0, x7)), (8, (0, x8))]) d_X12_isFit_106 (by decide) rfl ?_
    refine r_iinc (ls1 := [(7, (0, (x7 + 1))), (4, (0, 0)), (5, (0, (s1 + s0))), (0, (2, 311)), (1, (0, x1)), (2, (0, x2)), (3, (0, x3)), (6, (0, x6)), (8, (0, x8))]) d_X12_isFit_108 7 rfl (by decide) rfl ?_
    refine r_goto (tgt := 20) d_X12_isFit_111 (by decide) ?_
    exact Rn.sub [3, 4, 5, 6, 1, 2, 7, 0] rfl h
theorem d_X12_fits_0 : decode M_X12_fits.2.1 0 = .ok (.aload_n 0, 1) := by decide +kernel
theorem d_X12_fits_1 : decode M_X12_fits.2.1 1 = .ok (.iconst 0, 1) := by decide +kernel
theorem d_X12_fits_2 : decode M_X12_fits.2.1 2 = .ok (.putfield 169, 3) := by decide +kernel
theorem d_X12_fits_5 : decode M_X12_fits.2.1 5 = .ok (.aload_n 0, 1) := by decide +kernel
theorem d_X12_fits_6 : decode M_X12_fits.2.1 6 = .ok (.iload_n 1, 1) := by decide +kernel
theorem d_X12_fits_7 : decode M_X12_fits.2.1 7 = .ok (.invokevirtual 404, 3) := by decide +kernel
theorem d_X12_fits_10 : decode M_X12_fits.2.1 10 = .ok (.ifCond .eq 24, 3) := by decide +kernel
theorem d_X12_fits_13 : decode M_X12_fits.2.1 13 = .ok (.iload_n 2, 1) := by decide +kernel
theorem d_X12_fits_14 : decode M_X12_fits.2.1 14 = .ok (.iconst 0, 1) := by decide +kernel
theorem d_X12_fits_15 : decode M_X12_fits.2.1 15 = .ok (.iconst 1, 1) := by decide +kernel
theorem d_X12_fits_16 : decode M_X12_fits.2.1 16 = .ok (.invokestatic 308, 3) := by decide +kernel
theorem d_X12_fits_19 : decode M_X12_fits.2.1 19 = .ok (.ifCond .eq 15, 3) := by decide +kernel
theorem d_X12_fits_22 : decode M_X12_fits.2.1 22 = .ok (.aload_n 0, 1) := by decide +kernel
theorem d_X12_fits_23 : decode M_X12_fits.2.1 23 = .ok (.getfield 102, 3) := by decide +kernel
theorem d_X12_fits_26 : decode M_X12_fits.2.1 26 = .ok (.bipush 45, 2) := by decide +kernel
theorem d_X12_fits_28 : decode M_X12_fits.2.1 28 = .ok (.iload_n 1, 1) := by decide +kernel
theorem d_X12_fits_29 : decode M_X12_fits.2.1 29 = .ok (.iadd, 1) := by decide +kernel
theorem d_X12_fits_30 : decode M_X12_fits.2.1 30 = .ok (.iaload, 1) := by decide +kernel
theorem d_X12_fits_31 : decode M_X12_fits.2.1 31 = .ok (.ifCond .ne 5, 3) := by decide +kernel
theorem d_X12_fits_34 : decode M_X12_fits.2.1 34 = .ok (.iconst (-1), 1) := by decide +kernel
theorem d_X12_fits_35 : decode M_X12_fits.2.1 35 = .ok (.ireturn, 1) := by decide +kernel
theorem d_X12_fits_36 : decode M_X12_fits.2.1 36 = .ok (.iconst 0, 1) := by decide +kernel
theorem d_X12_fits_37 : decode M_X12_fits.2.1 37 = .ok (.istore_n 3, 1) := by decide +kernel
theorem d_X12_fits_38 : decode M_X12_fits.2.1 38 = .ok (.iconst (-1), 1) := by decide +kernel
theorem d_X12_fits_39 : decode M_X12_fits.2.1 39 = .ok (.istore 4, 2) := by decide +kernel
theorem d_X12_fits_41 : decode M_X12_fits.2.1 41 = .ok (.iconst 0, 1) := by decide +kernel
theorem d_X12_fits_42 : decode M_X12_fits.2.1 42 = .ok (.istore 5, 2) := by decide +kernel
theorem d_X12_fits_44 : decode M_X12_fits.2.1 44 = .ok (.iload 5, 2) := by decide +kernel
theorem d_X12_fits_46 : decode M_X12_fits.2.1 46 = .ok (.bipush 10, 2) := by decide +kernel
theorem d_X12_fits_48 : decode M_X12_fits.2.1 48 = .ok (.if_icmp .ge 62, 3) := by decide +kernel
theorem d_X12_fits_51 : decode M_X12_fits.2.1 51 = .ok (.iconst 1, 1) := by decide +kernel
theorem d_X12_fits_52 : decode M_X12_fits.2.1 52 = .ok (.istore 6, 2) := by decide +kernel
theorem d_X12_fits_54 : decode M_X12_fits.2.1 54 = .ok (.iload 6, 2) := by decide +kernel
theorem d_X12_fits_56 : decode M_X12_fits.2.1 56 = .ok (.bipush 100, 2) := by decide +kernel
theorem d_X12_fits_58 : decode M_X12_fits.2.1 58 = .ok (.if_icmp .ge 46, 3) := by decide +kernel
theorem d_X12_fits_61 : decode M_X12_fits.2.1 61 = .ok (.aload_n 0, 1) := by decide +kernel
theorem d_X12_fits_62 : decode M_X12_fits.2.1 62 = .ok (.iload_n 1, 1) := by decide +kernel
theorem d_X12_fits_63 : decode M_X12_fits.2.1 63 = .ok (.iload 5, 2) := by decide +kernel
theorem d_X12_fits_65 : decode M_X12_fits.2.1 65 = .ok (.iload 6, 2) := by decide +kernel
theorem d_X12_fits_67 : decode M_X12_fits.2.1 67 = .ok (.invokevirtual 589, 3) := by decide +kernel
theorem d_X12_fits_70 : decode M_X12_fits.2.1 70 = .ok (.ifCond .ne 6, 3) := by decide +kernel
theorem d_X12_fits_73 : decode M_X12_fits.2.1 73 = .ok (.goto 25, 3) := by decide +kernel
theorem d_X12_fits_76 : decode M_X12_fits.2.1 76 = .ok (.iload_n 3, 1) := by decide +kernel
theorem d_X12_fits_77 : decode M_X12_fits.2.1 77 = .ok (.ifCond .ne 14, 3) := by decide +kernel
theorem d_X12_fits_80 : decode M_X12_fits.2.1 80 = .ok (.bipush 100, 2) := by decide +kernel
theorem d_X12_fits_82 : decode M_X12_fits.2.1 82 = .ok (.iload 5, 2) := by decide +kernel
theorem d_X12_fits_84 : decode M_X12_fits.2.1 84 = .ok (.imul, 1) := by decide +kernel
theorem d_X12_fits_85 : decode M_X12_fits.2.1 85 = .ok (.iload 6, 2) := by decide +kernel
theorem d_X12_fits_87 : decode M_X12_fits.2.1 87 = .ok (.iadd, 1) := by decide +kernel
theorem d_X12_fits_88 : decode M_X12_fits.2.1 88 = .ok (.goto 5, 3) := by decide +kernel
theorem d_X12_fits_91 : decode M_X12_fits.2.1 91 = .ok (.iload 4, 2) := by decide +kernel
theorem d_X12_fits_93 : decode M_X12_fits.2.1 93 = .ok (.istore 4, 2) := by decide +kernel
theorem d_X12_fits_95 : decode M_X12_fits.2.1 95 = .ok (.iinc 3 1, 3) := by decide +kernel
theorem d_X12_fits_98 : decode M_X12_fits.2.1 98 = .ok (.iinc 6 1, 3) := by decide +kernel
theorem d_X12_fits_101 : decode M_X12_fits.2.1 101 = .ok (.goto (-47), 3) := by decide +kernel
theorem d_X12_fits_104 : decode M_X12_fits.2.1 104 = .ok (.iinc 5 1, 3) := by decide +kernel
theorem d_X12_fits_107 : decode M_X12_fits.2.1 107 = .ok (.goto (-63), 3) := by decide +kernel
theorem d_X12_fits_110 : decode M_X12_fits.2.1 110 = .ok (.iload_n 3, 1) := by decide +kernel
theorem d_X12_fits_111 : decode M_X12_fits.2.1 111 = .ok (.ifCond .ne 7, 3) := by decide +kernel
theorem d_X12_fits_114 : decode M_X12_fits.2.1 114 = .ok (.iconst (-1), 1) := by decide +kernel
theorem d_X12_fits_115 : decode M_X12_fits.2.1 115 = .ok (.goto 13, 3) := by decide +kernel
theorem d_X12_fits_118 : decode M_X12_fits.2.1 118 = .ok (.iload_n 2, 1) := by decide +kernel
theorem d_X12_fits_119 : decode M_X12_fits.2.1 119 = .ok (.ifCond .ne 7, 3) := by decide +kernel
theorem d_X12_fits_122 : decode M_X12_fits.2.1 122 = .ok (.iload_n 3, 1) := by decide +kernel
theorem d_X12_fits_123 : decode M_X12_fits.2.1 123 = .ok (.goto 5, 3) := by decide +kernel
theorem d_X12_fits_126 : decode M_X12_fits.2.1 126 = .ok (.iload 4, 2) := by decide +kernel
theorem d_X12_fits_128 : decode M_X12_fits.2.1 128 = .ok (.ireturn, 1) := by decide +kernel
set_option maxRecDepth 20000 in
theorem s_X12_fits_0 {d : Nat} {p0 : Int} {p1 : Int} {G : Mem} {Q : Int → Mem → Prop}  (h : (∀ G1 : Mem, G1 = st G 311 0 0 → Ct d M_X12_isSitter NT 0 0 (some lay) [(2, 311), (0, p0)] G1 (fun r3 G2 => (InR r3) ∧ ((r3 = 0) → Q (-1) G2) ∧ (¬ (r3 = 0) → Ct d M_X12_within NT 0 0 (some lay) [(0, p1), (0, 0), (0, 1)] G2 (fun r7 G6 => (InR r7) ∧ ((r7 = 0) → Q (-1) G6) ∧ (¬ (r7 = 0) → (0 ≤ (45 + p0) ∧ (45 + p0) < 116) ∧ ((InR (G6 342 (45 + p0))) ∧ (((G6 342 (45 + p0)) ≠ 0) → Rn (d + 1) M_X12_fits zN 44 [(0, (2, 311)), (1, (0, p0)), (2, (0, p1)), (3, (0, 0)), (4, (0, (-1))), (5, (0, 0))] [] G6 Q) ∧ (¬ ((G6 342 (45 + p0)) ≠ 0) → Q (-1) G6)))))))) : Rn (d + 1) M_X12_fits zN 0 [(0, (2, 311)), (1, (0, p0)), (2, (0, p1))] [] G Q := by
  refine r_aload_n d_X12_fits_0 0 rfl rfl ?_
  refine r_iconst d_X12_fits_1 ?_
  obtain ⟨G1, eG1⟩ : ∃ y : Mem, y = st G 311 0 0 := ⟨_, rfl⟩
  replace h := h G1 eG1
  refine r_putI 12 0 0 rfl d_X12_fits_2 fl_X12_169 (by decide) nofin_12_0 (bs_ob bs_12) ?_
  rw [← eG1]
  refine r_aload_n d_X12_fits_5 0 rfl rfl ?_
  refine r_iload_n d_X12_fits_6 1 rfl rfl ?_
  refine r_callV0 (M' := M_X12_isSitter) (ci := 12) [(0, p0)] d_X12_fits_7 cl_X12_404 rfl (Nat.le_of_ble_eq_true rfl) (by decide) rfl (bs_ob bs_12) ?_
  refine Ct.mono h (fun r3 G2 h => ?_)
  show Rn _ M_X12_fits zN 10 [(0, (2, 311)), (1, (0, p0)), (2, (0, p1))] [(0, r3)] G2 Q
  obtain ⟨h4, h⟩ := h
  refine r_if_eq (tgt := 34) d_X12_fits_10 (by decide) h4 (fun c5 => ?_) (fun c5 => ?_)
  · replace h := h.1 c5
    refine r_iconst d_X12_fits_34 ?_
    exact r_ireturn d_X12_fits_35 rfl ⟨rfl, Nat.le_refl _, Nat.le_refl _⟩ h
  · replace h := h.2 c5
    refine r_iload_n d_X12_fits_13 2 rfl rfl ?_
    refine r_iconst d_X12_fits_14 ?_
    refine r_iconst d_X12_fits_15 ?_
    refine r_callS0 (M' := M_X12_within) [(0, p1), (0, 0), (0, 1)] d_X12_fits_16 cl_X12_308 rfl (Nat.le_of_ble_eq_true rfl) ?_
    refine Ct.mono h (fun r7 G6 h => ?_)
    show Rn _ M_X12_fits zN 19 [(0, (2, 311)), (1, (0, p0)), (2, (0, p1))] [(0, r7)] G6 Q
    obtain ⟨h8, h⟩ := h
    refine r_if_eq (tgt := 34) d_X12_fits_19 (by decide) h8 (fun c9 => ?_) (fun c9 => ?_)
    · replace h := h.1 c9
      refine r_iconst d_X12_fits_34 ?_
      exact r_ireturn d_X12_fits_35 rfl ⟨rfl, Nat.le_refl _, Nat.le_refl _⟩ h
    · replace h := h.2 c9
      refine r_aload_n d_X12_fits_22 0 rfl rfl ?_
      refine r_getL (v := 342) 12 43 43 rfl d_X12_fits_23 fl_X12_102 (by decide) (bs_ob bs_12) (ly_12_43 bs_12).1 (ly_12_43 bs_12).2.1 ?_
      refine r_bipush d_X12_fits_26 (by decide +kernel) ?_
      refine r_iload_n d_X12_fits_28 1 rfl rfl ?_
      refine r_iadd d_X12_fits_29 ?_
      obtain ⟨h10, h⟩ := h
      refine r_iaload d_X12_fits_30 (ly_12_43 bs_12).2.2 h10 ?_
      obtain ⟨h11, h⟩ := h
      refine r_if_ne (tgt := 36) d_X12_fits_31 (by decide) h11 (fun c12 => ?_) (fun c12 => ?_)
      · replace h := h.1 c12
        refine r_iconst d_X12_fits_36 ?_
        refine r_istore_n (ls1 := [(3, (0, 0)), (0, (2, 311)), (1, (0, p0)), (2, (0, p1))]) d_X12_fits_37 rfl (by decide) rfl ?_
        refine r_iconst d_X12_fits_38 ?_
        refine r_istore (ls1 := [(4, (0, (-1))), (3, (0, 0)), (0, (2, 311)), (1, (0, p0)), (2, (0, p1))]) d_X12_fits_39 (by decide) rfl ?_
        refine r_iconst d_X12_fits_41 ?_
        refine r_istore (ls1 := [(5, (0, 0)), (4, (0, (-1))), (3, (0, 0)), (0, (2, 311)), (1, (0, p0)), (2, (0, p1))]) d_X12_fits_42 (by decide) rfl ?_
        exact Rn.sub [3, 4, 5, 2, 1, 0] rfl h
      · replace h := h.2 c12
        refine r_iconst d_X12_fits_34 ?_
        exact r_ireturn d_X12_fits_35 rfl ⟨rfl, Nat.le_refl _, Nat.le_refl _⟩ h
set_option maxRecDepth 20000 in
theorem s_X12_fits_44 {d : Nat} {x1 : Int} {x2 : Int} {x3 : Int} {x4 : Int} {x5 : Int} {G : Mem} {Q : Int → Mem → Prop}  (h : (InR x5) ∧ ((10 ≤ x5) → (InR x3) ∧ ((x3 ≠ 0) → (InR x2) ∧ ((x2 ≠ 0) → Q x4 G) ∧ (¬ (x2 ≠ 0) → Q x3 G)) ∧ (¬ (x3 ≠ 0) → Q (-1) G)) ∧ (¬ (10 ≤ x5) → Rn d M_X12_fits zN 54 [(0, (2, 311)), (1, (0, x1)), (2, (0, x2)), (3, (0, x3)), (4, (0, x4)), (5, (0, x5)), (6, (0, 1))] [] G Q)) : Rn d M_X12_fits zN 44 [(0, (2, 311)), (1, (0, x1)), (2, (0, x2)), (3, (0, x3)), (4, (0, x4)), (5, (0, x5))] [] G Q := by
  refine r_iload d_X12_fits_44 5 rfl ?_
  refine r_bipush d_X12_fits_46 (by decide +kernel) ?_
  obtain ⟨h1, h⟩ := h
  refine r_icmp_ge (tgt := 110) d_X12_fits_48 (by decide) h1 ⟨by decide, by decide⟩ (fun c2 => ?_) (fun c2 => ?_)
  · replace h := h.1 c2
    refine r_iload_n d_X12_fits_110 3 rfl rfl ?_
    obtain ⟨h3, h⟩ := h
    refine r_if_ne (tgt := 118) d_X12_fits_111 (by decide) h3 (fun c4 => ?_) (fun c4 => ?_)
    · replace h := h.1 c4
      refine r_iload_n d_X12_fits_118 2 rfl rfl ?_
      obtain ⟨h5, h⟩ := h
      refine r_if_ne (tgt := 126) d_X12_fits_119 (by decide) h5 (fun c6 => ?_) (fun c6 => ?_)
      · replace h := h.1 c6
        refine r_iload d_X12_fits_126 4 rfl ?_
        exact r_ireturn d_X12_fits_128 rfl ⟨rfl, Nat.le_refl _, Nat.le_refl _⟩ h
      · replace h := h.2 c6
        refine r_iload_n d_X12_fits_122 3 rfl rfl ?_
        refine r_goto (tgt := 128) d_X12_fits_123 (by decide) ?_
        exact r_ireturn d_X12_fits_128 rfl ⟨rfl, Nat.le_refl _, Nat.le_refl _⟩ h
    · replace h := h.2 c4
      refine r_iconst d_X12_fits_114 ?_
      refine r_goto (tgt := 128) d_X12_fits_115 (by decide) ?_
      exact r_ireturn d_X12_fits_128 rfl ⟨rfl, Nat.le_refl _, Nat.le_refl _⟩ h
  · replace h := h.2 c2
    refine r_iconst d_X12_fits_51 ?_
    refine r_istore (ls1 := [(6, (0, 1)), (0, (2, 311)), (1, (0, x1)), (2, (0, x2)), (3, (0, x3)), (4, (0, x4)), (5, (0, x5))]) d_X12_fits_52 (by decide) rfl ?_
    exact Rn.sub [1, 2, 3, 4, 5, 6, 0] rfl h
set_option maxRecDepth 20000 in
theorem s_X12_fits_54 {d : Nat} {x1 : Int} {x2 : Int} {x3 : Int} {x4 : Int} {x5 : Int} {x6 : Int} {G : Mem} {Q : Int → Mem → Prop}  (h : (InR x6) ∧ ((100 ≤ x6) → Rn (d + 1) M_X12_fits zN 44 [(0, (2, 311)), (1, (0, x1)), (2, (0, x2)), (3, (0, x3)), (4, (0, x4)), (5, (0, (x5 + 1)))] [] G Q) ∧ (¬ (100 ≤ x6) → Ct d M_X12_isFit NT 0 0 (some lay) [(2, 311), (0, x1), (0, x5), (0, x6)] G (fun r4 G3 => (InR r4) ∧ ((r4 ≠ 0) → (InR x3) ∧ ((x3 ≠ 0) → Rn (d + 1) M_X12_fits zN 54 [(0, (2, 311)), (1, (0, x1)), (2, (0, x2)), (3, (0, (x3 + 1))), (4, (0, x4)), (5, (0, x5)), (6, (0, (x6 + 1)))] [] G3 Q) ∧ (¬ (x3 ≠ 0) → Rn (d + 1) M_X12_fits zN 54 [(0, (2, 311)), (1, (0, x1)), (2, (0, x2)), (3, (0, (x3 + 1))), (4, (0, ((100 * x5) + x6))), (5, (0, x5)), (6, (0, (x6 + 1)))] [] G3 Q)) ∧ (¬ (r4 ≠ 0) → Rn (d + 1) M_X12_fits zN 54 [(0, (2, 311)), (1, (0, x1)), (2, (0, x2)), (3, (0, x3)), (4, (0, x4)), (5, (0, x5)), (6, (0, (x6 + 1)))] [] G3 Q)))) : Rn (d + 1) M_X12_fits zN 54 [(0, (2, 311)), (1, (0, x1)), (2, (0, x2)), (3, (0, x3)), (4, (0, x4)), (5, (0, x5)), (6, (0, x6))] [] G Q := by
  refine r_iload d_X12_fits_54 6 rfl ?_
  refine r_bipush d_X12_fits_56 (by decide +kernel) ?_
  obtain ⟨h1, h⟩ := h
  refine r_icmp_ge (tgt := 104) d_X12_fits_58 (by decide) h1 ⟨by decide, by decide⟩ (fun c2 => ?_) (fun c2 => ?_)
  · replace h := h.1 c2
    refine r_iinc (ls1 := [(5, (0, (x5 + 1))), (0, (2, 311)), (1, (0, x1)), (2, (0, x2)), (3, (0, x3)), (4, (0, x4)), (6, (0, x6))]) d_X12_fits_104 5 rfl (by decide) rfl ?_
    refine r_goto (tgt := 44) d_X12_fits_107 (by decide) ?_
    exact Rn.sub [1, 2, 3, 4, 5, 0] rfl h
  · replace h := h.2 c2
    refine r_aload_n d_X12_fits_61 0 rfl rfl ?_
    refine r_iload_n d_X12_fits_62 1 rfl rfl ?_
    refine r_iload d_X12_fits_63 5 rfl ?_
    refine r_iload d_X12_fits_65 6 rfl ?_
    refine r_callV0 (M' := M_X12_isFit) (ci := 12) [(0, x1), (0, x5), (0, x6)] d_X12_fits_67 cl_X12_589 rfl (Nat.le_of_ble_eq_true rfl) (by decide) rfl (bs_ob bs_12) ?_
    refine Ct.mono h (fun r4 G3 h => ?_)
    show Rn _ M_X12_fits zN 70 [(0, (2, 311)), (1, (0, x1)), (2, (0, x2)), (3, (0, x3)), (4, (0, x4)), (5, (0, x5)), (6, (0, x6))] [(0, r4)] G3 Q
    obtain ⟨h5, h⟩ := h
    refine r_if_ne (tgt := 76) d_X12_fits_70 (by decide) h5 (fun c6 => ?_) (fun c6 => ?_)
    · replace h := h.1 c6
      refine r_iload_n d_X12_fits_76 3 rfl rfl ?_
      obtain ⟨h7, h⟩ := h
      refine r_if_ne (tgt := 91) d_X12_fits_77 (by decide) h7 (fun c8 => ?_) (fun c8 => ?_)
      · replace h := h.1 c8
        refine r_iload d_X12_fits_91 4 rfl ?_
        refine r_istore (ls1 := [(4, (0, x4)), (0, (2, 311)), (1, (0, x1)), (2, (0, x2)), (3, (0, x3)), (5, (0, x5)), (6, (0, x6))]) d_X12_fits_93 (by decide) rfl ?_
        refine r_iinc (ls1 := [(3, (0, (x3 + 1))), (4, (0, x4)), (0, (2, 311)), (1, (0, x1)), (2, (0, x2)), (5, (0, x5)), (6, (0, x6))]) d_X12_fits_95 4 rfl (by decide) rfl ?_
        refine r_iinc (ls1 := [(6, (0, (x6 + 1))), (3, (0, (x3 + 1))), (4, (0, x4)), (0, (2, 311)), (1, (0, x1)), (2, (0, x2)), (5, (0, x5))]) d_X12_fits_98 6 rfl (by decide) rfl ?_
        refine r_goto (tgt := 54) d_X12_fits_101 (by decide) ?_
        exact Rn.sub [3, 4, 5, 1, 2, 6, 0] rfl h
      · replace h := h.2 c8
        refine r_bipush d_X12_fits_80 (by decide +kernel) ?_
        refine r_iload d_X12_fits_82 5 rfl ?_
        refine r_imul d_X12_fits_84 ?_
        refine r_iload d_X12_fits_85 6 rfl ?_
        refine r_iadd d_X12_fits_87 ?_
        refine r_goto (tgt := 93) d_X12_fits_88 (by decide) ?_
        refine r_istore (ls1 := [(4, (0, ((100 * x5) + x6))), (0, (2, 311)), (1, (0, x1)), (2, (0, x2)), (3, (0, x3)), (5, (0, x5)), (6, (0, x6))]) d_X12_fits_93 (by decide) rfl ?_
        refine r_iinc (ls1 := [(3, (0, (x3 + 1))), (4, (0, ((100 * x5) + x6))), (0, (2, 311)), (1, (0, x1)), (2, (0, x2)), (5, (0, x5)), (6, (0, x6))]) d_X12_fits_95 4 rfl (by decide) rfl ?_
        refine r_iinc (ls1 := [(6, (0, (x6 + 1))), (3, (0, (x3 + 1))), (4, (0, ((100 * x5) + x6))), (0, (2, 311)), (1, (0, x1)), (2, (0, x2)), (5, (0, x5))]) d_X12_fits_98 6 rfl (by decide) rfl ?_
        refine r_goto (tgt := 54) d_X12_fits_101 (by decide) ?_
        exact Rn.sub [3, 4, 5, 1, 2, 6, 0] rfl h
    · replace h := h.2 c6
      refine r_goto (tgt := 98) d_X12_fits_73 (by decide) ?_
      refine r_iinc (ls1 := [(6, (0, (x6 + 1))), (0, (2, 311)), (1, (0, x1)), (2, (0, x2)), (3, (0, x3)), (4, (0, x4)), (5, (0, x5))]) d_X12_fits_98 6 rfl (by decide) rfl ?_
      refine r_goto (tgt := 54) d_X12_fits_101 (by decide) ?_
      exact Rn.sub [1, 2, 3, 4, 5, 6, 0] rfl h
theorem d_X12_flights_0 : decode M_X12_flights.2.1 0 = .ok (.aload_n 0, 1) := by decide +kernel
theorem d_X12_flights_1 : decode M_X12_flights.2.1 1 = .ok (.iconst 0, 1) := by decide +kernel
theorem d_X12_flights_2 : decode M_X12_flights.2.1 2 = .ok (.putfield 169, 3) := by decide +kernel
theorem d_X12_flights_5 : decode M_X12_flights.2.1 5 = .ok (.iload_n 1, 1) := by decide +kernel
theorem d_X12_flights_6 : decode M_X12_flights.2.1 6 = .ok (.iconst 0, 1) := by decide +kernel
theorem d_X12_flights_7 : decode M_X12_flights.2.1 7 = .ok (.sipush 9999, 3) := by decide +kernel
theorem d_X12_flights_10 : decode M_X12_flights.2.1 10 = .ok (.invokestatic 308, 3) := by decide +kernel
theorem d_X12_flights_13 : decode M_X12_flights.2.1 13 = .ok (.ifCond .eq 22, 3) := by decide +kernel
theorem d_X12_flights_16 : decode M_X12_flights.2.1 16 = .ok (.iload_n 2, 1) := by decide +kernel
theorem d_X12_flights_17 : decode M_X12_flights.2.1 17 = .ok (.iconst 1, 1) := by decide +kernel
theorem d_X12_flights_18 : decode M_X12_flights.2.1 18 = .ok (.bipush 20, 2) := by decide +kernel
theorem d_X12_flights_20 : decode M_X12_flights.2.1 20 = .ok (.invokestatic 308, 3) := by decide +kernel
theorem d_X12_flights_23 : decode M_X12_flights.2.1 23 = .ok (.ifCond .eq 12, 3) := by decide +kernel
theorem d_X12_flights_26 : decode M_X12_flights.2.1 26 = .ok (.iload_n 3, 1) := by decide +kernel
theorem d_X12_flights_27 : decode M_X12_flights.2.1 27 = .ok (.iconst 0, 1) := by decide +kernel
theorem d_X12_flights_28 : decode M_X12_flights.2.1 28 = .ok (.iconst 2, 1) := by decide +kernel
theorem d_X12_flights_29 : decode M_X12_flights.2.1 29 = .ok (.invokestatic 308, 3) := by decide +kernel
theorem d_X12_flights_32 : decode M_X12_flights.2.1 32 = .ok (.ifCond .ne 5, 3) := by decide +kernel
theorem d_X12_flights_35 : decode M_X12_flights.2.1 35 = .ok (.iconst (-1), 1) := by decide +kernel
theorem d_X12_flights_36 : decode M_X12_flights.2.1 36 = .ok (.ireturn, 1) := by decide +kernel
theorem d_X12_flights_37 : decode M_X12_flights.2.1 37 = .ok (.aload_n 0, 1) := by decide +kernel
theorem d_X12_flights_38 : decode M_X12_flights.2.1 38 = .ok (.iload_n 1, 1) := by decide +kernel
theorem d_X12_flights_39 : decode M_X12_flights.2.1 39 = .ok (.i2l, 1) := by decide +kernel
theorem d_X12_flights_40 : decode M_X12_flights.2.1 40 = .ok (.putfield 507, 3) := by decide +kernel
theorem d_X12_flights_43 : decode M_X12_flights.2.1 43 = .ok (.aload_n 0, 1) := by decide +kernel
theorem d_X12_flights_44 : decode M_X12_flights.2.1 44 = .ok (.invokevirtual 555, 3) := by decide +kernel
theorem d_X12_flights_47 : decode M_X12_flights.2.1 47 = .ok (.aload_n 0, 1) := by decide +kernel
theorem d_X12_flights_48 : decode M_X12_flights.2.1 48 = .ok (.iconst 1, 1) := by decide +kernel
theorem d_X12_flights_49 : decode M_X12_flights.2.1 49 = .ok (.putfield 521, 3) := by decide +kernel
theorem d_X12_flights_52 : decode M_X12_flights.2.1 52 = .ok (.aload_n 0, 1) := by decide +kernel
theorem d_X12_flights_53 : decode M_X12_flights.2.1 53 = .ok (.iconst 0, 1) := by decide +kernel
theorem d_X12_flights_54 : decode M_X12_flights.2.1 54 = .ok (.putfield 534, 3) := by decide +kernel
theorem d_X12_flights_57 : decode M_X12_flights.2.1 57 = .ok (.aload_n 0, 1) := by decide +kernel
theorem d_X12_flights_58 : decode M_X12_flights.2.1 58 = .ok (.iconst 0, 1) := by decide +kernel
theorem d_X12_flights_59 : decode M_X12_flights.2.1 59 = .ok (.putfield 531, 3) := by decide +kernel
theorem d_X12_flights_62 : decode M_X12_flights.2.1 62 = .ok (.aload_n 0, 1) := by decide +kernel
theorem d_X12_flights_63 : decode M_X12_flights.2.1 63 = .ok (.iconst 0, 1) := by decide +kernel
theorem d_X12_flights_64 : decode M_X12_flights.2.1 64 = .ok (.putfield 546, 3) := by decide +kernel
theorem d_X12_flights_67 : decode M_X12_flights.2.1 67 = .ok (.iconst 0, 1) := by decide +kernel
theorem d_X12_flights_68 : decode M_X12_flights.2.1 68 = .ok (.istore 4, 2) := by decide +kernel
theorem d_X12_flights_70 : decode M_X12_flights.2.1 70 = .ok (.iload 4, 2) := by decide +kernel
theorem d_X12_flights_72 : decode M_X12_flights.2.1 72 = .ok (.iload_n 2, 1) := by decide +kernel
theorem d_X12_flights_73 : decode M_X12_flights.2.1 73 = .ok (.if_icmp .ge 13, 3) := by decide +kernel
theorem d_X12_flights_76 : decode M_X12_flights.2.1 76 = .ok (.aload_n 0, 1) := by decide +kernel
theorem d_X12_flights_77 : decode M_X12_flights.2.1 77 = .ok (.invokevirtual 552, 3) := by decide +kernel
theorem d_X12_flights_80 : decode M_X12_flights.2.1 80 = .ok (.iinc 4 1, 3) := by decide +kernel
theorem d_X12_flights_83 : decode M_X12_flights.2.1 83 = .ok (.goto (-13), 3) := by decide +kernel
theorem d_X12_flights_86 : decode M_X12_flights.2.1 86 = .ok (.iload_n 3, 1) := by decide +kernel
theorem d_X12_flights_87 : decode M_X12_flights.2.1 87 = .ok (.ifCond .ne 10, 3) := by decide +kernel
theorem d_X12_flights_90 : decode M_X12_flights.2.1 90 = .ok (.aload_n 0, 1) := by decide +kernel
theorem d_X12_flights_91 : decode M_X12_flights.2.1 91 = .ok (.getfield 534, 3) := by decide +kernel
theorem d_X12_flights_94 : decode M_X12_flights.2.1 94 = .ok (.goto 19, 3) := by decide +kernel
theorem d_X12_flights_97 : decode M_X12_flights.2.1 97 = .ok (.iload_n 3, 1) := by decide +kernel
theorem d_X12_flights_98 : decode M_X12_flights.2.1 98 = .ok (.iconst 1, 1) := by decide +kernel
theorem d_X12_flights_99 : decode M_X12_flights.2.1 99 = .ok (.if_icmp .ne 10, 3) := by decide +kernel
theorem d_X12_flights_102 : decode M_X12_flights.2.1 102 = .ok (.aload_n 0, 1) := by decide +kernel
theorem d_X12_flights_103 : decode M_X12_flights.2.1 103 = .ok (.getfield 531, 3) := by decide +kernel
theorem d_X12_flights_106 : decode M_X12_flights.2.1 106 = .ok (.goto 7, 3) := by decide +kernel
theorem d_X12_flights_109 : decode M_X12_flights.2.1 109 = .ok (.aload_n 0, 1) := by decide +kernel
theorem d_X12_flights_110 : decode M_X12_flights.2.1 110 = .ok (.getfield 546, 3) := by decide +kernel
theorem d_X12_flights_113 : decode M_X12_flights.2.1 113 = .ok (.ireturn, 1) := by decide +kernel
set_option maxRecDepth 20000 in
theorem s_X12_flights_0 {d : Nat} {p0 : Int} {p1 : Int} {p2 : Int} {G : Mem} {Q : Int → Mem → Prop}  (h : (∀ G1 : Mem, G1 = st G 311 0 0 → Ct d M_X12_within NT 0 0 (some lay) [(0, p0), (0, 0), (0, 9999)] G1 (fun r3 G2 => (InR r3) ∧ ((r3 = 0) → Q (-1) G2) ∧ (¬ (r3 = 0) → Ct d M_X12_within NT 0 0 (some lay) [(0, p1), (0, 1), (0, 20)] G2 (fun r7 G6 => (InR r7) ∧ ((r7 = 0) → Q (-1) G6) ∧ (¬ (r7 = 0) → Ct d M_X12_within NT 0 0 (some lay) [(0, p2), (0, 0), (0, 2)] G6 (fun r11 G10 => (InR r11) ∧ ((r11 ≠ 0) → (InR p0) ∧ ((∀ G15 : Mem, G15 = st G10 311 68 p0 → Ct d M_X12_seatsAll NT 0 0 (some lay) [(2, 311)] G15 (fun r17 G16 => (∀ G18 : Mem, G18 = st G16 311 67 1 → (∀ G19 : Mem, G19 = st G18 311 63 0 → (∀ G20 : Mem, G20 = st G19 311 64 0 → (∀ G21 : Mem, G21 = st G20 311 65 0 → Rn (d + 1) M_X12_flights zN 70 [(0, (2, 311)), (2, (0, p1)), (3, (0, p2)), (4, (0, 0))] [] G21 Q)))))))) ∧ (¬ (r11 ≠ 0) → Q (-1) G10)))))))) : Rn (d + 1) M_X12_flights zN 0 [(0, (2, 311)), (1, (0, p0)), (2, (0, p1)), (3, (0, p2))] [] G Q := by
  refine r_aload_n d_X12_flights_0 0 rfl rfl ?_
  refine r_iconst d_X12_flights_1 ?_
  obtain ⟨G1, eG1⟩ : ∃ y : Mem, y = st G 311 0 0 := ⟨_, rfl⟩
  replace h := h G1 eG1
  refine r_putI 12 0 0 rfl d_X12_flights_2 fl_X12_169 (by decide) nofin_12_0 (bs_ob bs_12) ?_
  rw [← eG1]
  refine r_iload_n d_X12_flights_5 1 rfl rfl ?_
  refine r_iconst d_X12_flights_6 ?_
  refine r_sipush d_X12_flights_7 (by decide +kernel) ?_
  refine r_callS0 (M' := M_X12_within) [(0, p0), (0, 0), (0, 9999)] d_X12_flights_10 cl_X12_308 rfl (Nat.le_of_ble_eq_true rfl) ?_
  refine Ct.mono h (fun r3 G2 h => ?_)
  show Rn _ M_X12_flights zN 13 [(0, (2, 311)), (1, (0, p0)), (2, (0, p1)), (3, (0, p2))] [(0, r3)] G2 Q
  obtain ⟨h4, h⟩ := h
  refine r_if_eq (tgt := 35) d_X12_flights_13 (by decide) h4 (fun c5 => ?_) (fun c5 => ?_)
  · replace h := h.1 c5
    refine r_iconst d_X12_flights_35 ?_
    exact r_ireturn d_X12_flights_36 rfl ⟨rfl, Nat.le_refl _, Nat.le_refl _⟩ h
  · replace h := h.2 c5
    refine r_iload_n d_X12_flights_16 2 rfl rfl ?_
    refine r_iconst d_X12_flights_17 ?_
    refine r_bipush d_X12_flights_18 (by decide +kernel) ?_
    refine r_callS0 (M' := M_X12_within) [(0, p1), (0, 1), (0, 20)] d_X12_flights_20 cl_X12_308 rfl (Nat.le_of_ble_eq_true rfl) ?_
    refine Ct.mono h (fun r7 G6 h => ?_)
    show Rn _ M_X12_flights zN 23 [(0, (2, 311)), (1, (0, p0)), (2, (0, p1)), (3, (0, p2))] [(0, r7)] G6 Q
    obtain ⟨h8, h⟩ := h
    refine r_if_eq (tgt := 35) d_X12_flights_23 (by decide) h8 (fun c9 => ?_) (fun c9 => ?_)
    · replace h := h.1 c9
      refine r_iconst d_X12_flights_35 ?_
      exact r_ireturn d_X12_flights_36 rfl ⟨rfl, Nat.le_refl _, Nat.le_refl _⟩ h
    · replace h := h.2 c9
      refine r_iload_n d_X12_flights_26 3 rfl rfl ?_
      refine r_iconst d_X12_flights_27 ?_
      refine r_iconst d_X12_flights_28 ?_
      refine r_callS0 (M' := M_X12_within) [(0, p2), (0, 0), (0, 2)] d_X12_flights_29 cl_X12_308 rfl (Nat.le_of_ble_eq_true rfl) ?_
      refine Ct.mono h (fun r11 G10 h => ?_)
      show Rn _ M_X12_flights zN 32 [(0, (2, 311)), (1, (0, p0)), (2, (0, p1)), (3, (0, p2))] [(0, r11)] G10 Q
      obtain ⟨h12, h⟩ := h
      refine r_if_ne (tgt := 37) d_X12_flights_32 (by decide) h12 (fun c13 => ?_) (fun c13 => ?_)
      · replace h := h.1 c13
        refine r_aload_n d_X12_flights_37 0 rfl rfl ?_
        refine r_iload_n d_X12_flights_38 1 rfl rfl ?_
        obtain ⟨h14, h⟩ := h
        refine r_i2l d_X12_flights_39 h14 ?_
        obtain ⟨G15, eG15⟩ : ∃ y : Mem, y = st G10 311 68 p0 := ⟨_, rfl⟩
        replace h := h G15 eG15
        refine r_putJ 12 68 68 rfl d_X12_flights_40 fl_X12_507 (by decide) nofin_12_68 (bs_ob bs_12) ?_
        rw [← eG15]
        refine r_aload_n d_X12_flights_43 0 rfl rfl ?_
        refine r_callV0 (M' := M_X12_seatsAll) (ci := 12) [] d_X12_flights_44 cl_X12_555 rfl (Nat.le_of_ble_eq_true rfl) (by decide) rfl (bs_ob bs_12) ?_
        refine Ct.mono h (fun r17 G16 h => ?_)
        show Rn _ M_X12_flights zN 47 [(0, (2, 311)), (1, (0, p0)), (2, (0, p1)), (3, (0, p2))] [] G16 Q
        refine r_aload_n d_X12_flights_47 0 rfl rfl ?_
        refine r_iconst d_X12_flights_48 ?_
        obtain ⟨G18, eG18⟩ : ∃ y : Mem, y = st G16 311 67 1 := ⟨_, rfl⟩
        replace h := h G18 eG18
        refine r_putZ 12 67 67 rfl d_X12_flights_49 fl_X12_521 (by decide) nofin_12_67 (bs_ob bs_12) (by decide) ?_
        rw [← eG18]
        refine r_aload_n d_X12_flights_52 0 rfl rfl ?_
        refine r_iconst d_X12_flights_53 ?_
        obtain ⟨G19, eG19⟩ : ∃ y : Mem, y = st G18 311 63 0 := ⟨_, rfl⟩
        replace h := h G19 eG19
        refine r_putI 12 63 63 rfl d_X12_flights_54 fl_X12_534 (by decide) nofin_12_63 (bs_ob bs_12) ?_
        rw [← eG19]
        refine r_aload_n d_X12_flights_57 0 rfl rfl ?_
        refine r_iconst d_X12_flights_58 ?_
        obtain ⟨G20, eG20⟩ : ∃ y : Mem, y = st G19 311 64 0 := ⟨_, rfl⟩
        replace h := h G20 eG20
        refine r_putI 12 64 64 rfl d_X12_flights_59 fl_X12_531 (by decide) nofin_12_64 (bs_ob bs_12) ?_
        rw [← eG20]
        refine r_aload_n d_X12_flights_62 0 rfl rfl ?_
        refine r_iconst d_X12_flights_63 ?_
        obtain ⟨G21, eG21⟩ : ∃ y : Mem, y = st G20 311 65 0 := ⟨_, rfl⟩
        replace h := h G21 eG21
        refine r_putI 12 65 65 rfl d_X12_flights_64 fl_X12_546 (by decide) nofin_12_65 (bs_ob bs_12) ?_
        rw [← eG21]
        refine r_iconst d_X12_flights_67 ?_
        refine r_istore (ls1 := [(4, (0, 0)), (0, (2, 311)), (1, (0, p0)), (2, (0, p1)), (3, (0, p2))]) d_X12_flights_68 (by decide) rfl ?_
        exact Rn.sub [1, 3, 4, 0] rfl h
      · replace h := h.2 c13
        refine r_iconst d_X12_flights_35 ?_
        exact r_ireturn d_X12_flights_36 rfl ⟨rfl, Nat.le_refl _, Nat.le_refl _⟩ h
set_option maxRecDepth 20000 in
theorem s_X12_flights_70 {d : Nat} {x2 : Int} {x3 : Int} {x4 : Int} {G : Mem} {Q : Int → Mem → Prop}  (h : (InR x4) ∧ (InR x2) ∧ ((x2 ≤ x4) → (InR x3) ∧ ((x3 ≠ 0) → ((x3 ≠ 1) → Q (G 311 65) G) ∧ (¬ (x3 ≠ 1) → Q (G 311 64) G)) ∧ (¬ (x3 ≠ 0) → Q (G 311 63) G)) ∧ (¬ (x2 ≤ x4) → Ct d M_X12_livesFlight NT 0 0 (some lay) [(2, 311)] G (fun r8 G7 => Rn (d + 1) M_X12_flights zN 70 [(0, (2, 311)), (2, (0, x2)), (3, (0, x3)), (4, (0, (x4 + 1)))] [] G7 Q))) : Rn (d + 1) M_X12_flights zN 70 [(0, (2, 311)), (2, (0, x2)), (3, (0, x3)), (4, (0, x4))] [] G Q := by
  refine r_iload d_X12_flights_70 3 rfl ?_
  refine r_iload_n d_X12_flights_72 1 rfl rfl ?_
  obtain ⟨h1, h⟩ := h
  obtain ⟨h2, h⟩ := h
  refine r_icmp_ge (tgt := 86) d_X12_flights_73 (by decide) h1 h2 (fun c3 => ?_) (fun c3 => ?_)
  · replace h := h.1 c3
    refine r_iload_n d_X12_flights_86 2 rfl rfl ?_
    obtain ⟨h4, h⟩ := h
    refine r_if_ne (tgt := 97) d_X12_flights_87 (by decide) h4 (fun c5 => ?_) (fun c5 => ?_)
    · replace h := h.1 c5
      refine r_iload_n d_X12_flights_97 2 rfl rfl ?_
      refine r_iconst d_X12_flights_98 ?_
      refine r_icmp_ne (tgt := 109) d_X12_flights_99 (by decide) h4 ⟨by decide, by decide⟩ (fun c6 => ?_) (fun c6 => ?_)
      · replace h := h.1 c6
        refine r_aload_n d_X12_flights_109 0 rfl rfl ?_
        refine r_getI 12 65 65 rfl d_X12_flights_110 fl_X12_546 (by decide) (bs_ob bs_12) ?_
        exact r_ireturn d_X12_flights_113 rfl ⟨rfl, Nat.le_refl _, Nat.le_refl _⟩ h
      · replace h := h.2 c6
        refine r_aload_n d_X12_flights_102 0 rfl rfl ?_
        refine r_getI 12 64 64 rfl d_X12_flights_103 fl_X12_531 (by decide) (bs_ob bs_12) ?_
        refine r_goto (tgt := 113) d_X12_flights_106 (by decide) ?_
        exact r_ireturn d_X12_flights_113 rfl ⟨rfl, Nat.le_refl _, Nat.le_refl _⟩ h
    · replace h := h.2 c5
      refine r_aload_n d_X12_flights_90 0 rfl rfl ?_
      refine r_getI 12 63 63 rfl d_X12_flights_91 fl_X12_534 (by decide) (bs_ob bs_12) ?_
      refine r_goto (tgt := 113) d_X12_flights_94 (by decide) ?_
      exact r_ireturn d_X12_flights_113 rfl ⟨rfl, Nat.le_refl _, Nat.le_refl _⟩ h
  · replace h := h.2 c3
    refine r_aload_n d_X12_flights_76 0 rfl rfl ?_
    refine r_callV0 (M' := M_X12_livesFlight) (ci := 12) [] d_X12_flights_77 cl_X12_552 rfl (Nat.le_of_ble_eq_true rfl) (by decide) rfl (bs_ob bs_12) ?_
    refine Ct.mono h (fun r8 G7 h => ?_)
    show Rn _ M_X12_flights zN 80 [(0, (2, 311)), (2, (0, x2)), (3, (0, x3)), (4, (0, x4))] [] G7 Q
    refine r_iinc (ls1 := [(4, (0, (x4 + 1))), (0, (2, 311)), (2, (0, x2)), (3, (0, x3))]) d_X12_flights_80 3 rfl (by decide) rfl ?_
    refine r_goto (tgt := 70) d_X12_flights_83 (by decide) ?_
    exact Rn.sub [1, 2, 3, 0] rfl h
theorem d_X12_mark_0 : decode M_X12_mark.2.1 0 = .ok (.aload_n 0, 1) := by decide +kernel
theorem d_X12_mark_1 : decode M_X12_mark.2.1 1 = .ok (.iconst 0, 1) := by decide +kernel
theorem d_X12_mark_2 : decode M_X12_mark.2.1 2 = .ok (.putfield 169, 3) := by decide +kernel
theorem d_X12_mark_5 : decode M_X12_mark.2.1 5 = .ok (.iload_n 1, 1) := by decide +kernel
theorem d_X12_mark_6 : decode M_X12_mark.2.1 6 = .ok (.iconst 0, 1) := by decide +kernel
theorem d_X12_mark_7 : decode M_X12_mark.2.1 7 = .ok (.iconst 3, 1) := by decide +kernel
theorem d_X12_mark_8 : decode M_X12_mark.2.1 8 = .ok (.invokestatic 308, 3) := by decide +kernel
theorem d_X12_mark_11 : decode M_X12_mark.2.1 11 = .ok (.ifCond .eq 16, 3) := by decide +kernel
theorem d_X12_mark_14 : decode M_X12_mark.2.1 14 = .ok (.iload_n 2, 1) := by decide +kernel
theorem d_X12_mark_15 : decode M_X12_mark.2.1 15 = .ok (.ifCond .eq 14, 3) := by decide +kernel
theorem d_X12_mark_18 : decode M_X12_mark.2.1 18 = .ok (.aload_n 0, 1) := by decide +kernel
theorem d_X12_mark_19 : decode M_X12_mark.2.1 19 = .ok (.getfield 162, 3) := by decide +kernel
theorem d_X12_mark_22 : decode M_X12_mark.2.1 22 = .ok (.iload_n 1, 1) := by decide +kernel
theorem d_X12_mark_23 : decode M_X12_mark.2.1 23 = .ok (.baload, 1) := by decide +kernel
theorem d_X12_mark_24 : decode M_X12_mark.2.1 24 = .ok (.ifCond .ne 5, 3) := by decide +kernel
theorem d_X12_mark_27 : decode M_X12_mark.2.1 27 = .ok (.iconst 0, 1) := by decide +kernel
theorem d_X12_mark_28 : decode M_X12_mark.2.1 28 = .ok (.ireturn, 1) := by decide +kernel
theorem d_X12_mark_29 : decode M_X12_mark.2.1 29 = .ok (.aload_n 0, 1) := by decide +kernel
theorem d_X12_mark_30 : decode M_X12_mark.2.1 30 = .ok (.getfield 162, 3) := by decide +kernel
theorem d_X12_mark_33 : decode M_X12_mark.2.1 33 = .ok (.iload_n 1, 1) := by decide +kernel
theorem d_X12_mark_34 : decode M_X12_mark.2.1 34 = .ok (.iconst 1, 1) := by decide +kernel
theorem d_X12_mark_35 : decode M_X12_mark.2.1 35 = .ok (.bastore, 1) := by decide +kernel
theorem d_X12_mark_36 : decode M_X12_mark.2.1 36 = .ok (.iload_n 2, 1) := by decide +kernel
theorem d_X12_mark_37 : decode M_X12_mark.2.1 37 = .ok (.ifCond .eq 34, 3) := by decide +kernel
theorem d_X12_mark_40 : decode M_X12_mark.2.1 40 = .ok (.aload_n 0, 1) := by decide +kernel
theorem d_X12_mark_41 : decode M_X12_mark.2.1 41 = .ok (.iconst 2, 1) := by decide +kernel
theorem d_X12_mark_42 : decode M_X12_mark.2.1 42 = .ok (.iload_n 1, 1) := by decide +kernel
theorem d_X12_mark_43 : decode M_X12_mark.2.1 43 = .ok (.iadd, 1) := by decide +kernel
theorem d_X12_mark_44 : decode M_X12_mark.2.1 44 = .ok (.iconst 0, 1) := by decide +kernel
theorem d_X12_mark_45 : decode M_X12_mark.2.1 45 = .ok (.invokevirtual 373, 3) := by decide +kernel
theorem d_X12_mark_48 : decode M_X12_mark.2.1 48 = .ok (.aload_n 0, 1) := by decide +kernel
theorem d_X12_mark_49 : decode M_X12_mark.2.1 49 = .ok (.getfield 105, 3) := by decide +kernel
theorem d_X12_mark_52 : decode M_X12_mark.2.1 52 = .ok (.bipush 116, 2) := by decide +kernel
theorem d_X12_mark_54 : decode M_X12_mark.2.1 54 = .ok (.iload_n 1, 1) := by decide +kernel
theorem d_X12_mark_55 : decode M_X12_mark.2.1 55 = .ok (.imul, 1) := by decide +kernel
theorem d_X12_mark_56 : decode M_X12_mark.2.1 56 = .ok (.aload_n 0, 1) := by decide +kernel
theorem d_X12_mark_57 : decode M_X12_mark.2.1 57 = .ok (.getfield 102, 3) := by decide +kernel
theorem d_X12_mark_60 : decode M_X12_mark.2.1 60 = .ok (.iconst 0, 1) := by decide +kernel
theorem d_X12_mark_61 : decode M_X12_mark.2.1 61 = .ok (.invokestatic 419, 3) := by decide +kernel
theorem d_X12_mark_64 : decode M_X12_mark.2.1 64 = .ok (.aload_n 0, 1) := by decide +kernel
theorem d_X12_mark_65 : decode M_X12_mark.2.1 65 = .ok (.iconst 0, 1) := by decide +kernel
theorem d_X12_mark_66 : decode M_X12_mark.2.1 66 = .ok (.putfield 377, 3) := by decide +kernel
theorem d_X12_mark_69 : decode M_X12_mark.2.1 69 = .ok (.iconst 1, 1) := by decide +kernel
theorem d_X12_mark_70 : decode M_X12_mark.2.1 70 = .ok (.ireturn, 1) := by decide +kernel
theorem d_X12_mark_71 : decode M_X12_mark.2.1 71 = .ok (.aload_n 0, 1) := by decide +kernel
theorem d_X12_mark_72 : decode M_X12_mark.2.1 72 = .ok (.iconst 0, 1) := by decide +kernel
theorem d_X12_mark_73 : decode M_X12_mark.2.1 73 = .ok (.iconst 2, 1) := by decide +kernel
theorem d_X12_mark_74 : decode M_X12_mark.2.1 74 = .ok (.iload_n 1, 1) := by decide +kernel
theorem d_X12_mark_75 : decode M_X12_mark.2.1 75 = .ok (.iadd, 1) := by decide +kernel
theorem d_X12_mark_76 : decode M_X12_mark.2.1 76 = .ok (.invokevirtual 373, 3) := by decide +kernel
theorem d_X12_mark_79 : decode M_X12_mark.2.1 79 = .ok (.aload_n 0, 1) := by decide +kernel
theorem d_X12_mark_80 : decode M_X12_mark.2.1 80 = .ok (.getfield 102, 3) := by decide +kernel
theorem d_X12_mark_83 : decode M_X12_mark.2.1 83 = .ok (.iconst 0, 1) := by decide +kernel
theorem d_X12_mark_84 : decode M_X12_mark.2.1 84 = .ok (.aload_n 0, 1) := by decide +kernel
theorem d_X12_mark_85 : decode M_X12_mark.2.1 85 = .ok (.getfield 105, 3) := by decide +kernel
theorem d_X12_mark_88 : decode M_X12_mark.2.1 88 = .ok (.bipush 116, 2) := by decide +kernel
theorem d_X12_mark_90 : decode M_X12_mark.2.1 90 = .ok (.iload_n 1, 1) := by decide +kernel
theorem d_X12_mark_91 : decode M_X12_mark.2.1 91 = .ok (.imul, 1) := by decide +kernel
theorem d_X12_mark_92 : decode M_X12_mark.2.1 92 = .ok (.invokestatic 419, 3) := by decide +kernel
theorem d_X12_mark_95 : decode M_X12_mark.2.1 95 = .ok (.iconst 1, 1) := by decide +kernel
theorem d_X12_mark_96 : decode M_X12_mark.2.1 96 = .ok (.ireturn, 1) := by decide +kernel
set_option maxRecDepth 20000 in
theorem s_X12_mark_0 {d : Nat} {p0 : Int} {p1 : Int} {G : Mem} {Q : Int → Mem → Prop}  (h : (∀ G1 : Mem, G1 = st G 311 0 0 → Ct d M_X12_within NT 0 0 (some lay) [(0, p0), (0, 0), (0, 3)] G1 (fun r3 G2 => (InR r3) ∧ ((r3 = 0) → Q 0 G2) ∧ (¬ (r3 = 0) → (InR p1) ∧ ((p1 = 0) → Rn (d + 1) M_X12_mark zN 29 [(0, (2, 311)), (1, (0, p0)), (2, (0, p1))] [] G2 Q) ∧ (¬ (p1 = 0) → (0 ≤ p0 ∧ p0 < 4) ∧ ((InR (G2 362 p0)) ∧ (((G2 362 p0) ≠ 0) → Rn (d + 1) M_X12_mark zN 29 [(0, (2, 311)), (1, (0, p0)), (2, (0, p1))] [] G2 Q) ∧ (¬ ((G2 362 p0) ≠ 0) → Q 0 G2))))))) : Rn (d + 1) M_X12_mark zN 0 [(0, (2, 311)), (1, (0, p0)), (2, (0, p1))] [] G Q := by
  refine r_aload_n d_X12_mark_0 0 rfl rfl ?_
  refine r_iconst d_X12_mark_1 ?_
  obtain ⟨G1, eG1⟩ : ∃ y : Mem, y = st G 311 0 0 := ⟨_, rfl⟩
  replace h := h G1 eG1
  refine r_putI 12 0 0 rfl d_X12_mark_2 fl_X12_169 (by decide) nofin_12_0 (bs_ob bs_12) ?_
  rw [← eG1]
  refine r_iload_n d_X12_mark_5 1 rfl rfl ?_
  refine r_iconst d_X12_mark_6 ?_
  refine r_iconst d_X12_mark_7 ?_
  refine r_callS0 (M' := M_X12_within) [(0, p0), (0, 0), (0, 3)] d_X12_mark_8 cl_X12_308 rfl (Nat.le_of_ble_eq_true rfl) ?_
  refine Ct.mono h (fun r3 G2 h => ?_)
  show Rn _ M_X12_mark zN 11 [(0, (2, 311)), (1, (0, p0)), (2, (0, p1))] [(0, r3)] G2 Q
  obtain ⟨h4, h⟩ := h
  refine r_if_eq (tgt := 27) d_X12_mark_11 (by decide) h4 (fun c5 => ?_) (fun c5 => ?_)
  · replace h := h.1 c5
    refine r_iconst d_X12_mark_27 ?_
    exact r_zreturn d_X12_mark_28 rfl ⟨rfl, Nat.le_refl _, Nat.le_refl _⟩ (by decide) h
  · replace h := h.2 c5
    refine r_iload_n d_X12_mark_14 2 rfl rfl ?_
    obtain ⟨h6, h⟩ := h
    refine r_if_eq (tgt := 29) d_X12_mark_15 (by decide) h6 (fun c7 => ?_) (fun c7 => ?_)
    · replace h := h.1 c7
      exact h
    · replace h := h.2 c7
      refine r_aload_n d_X12_mark_18 0 rfl rfl ?_
      refine r_getL (v := 362) 12 75 75 rfl d_X12_mark_19 fl_X12_162 (by decide) (bs_ob bs_12) (ly_12_75 bs_12).1 (ly_12_75 bs_12).2.1 ?_
      refine r_iload_n d_X12_mark_22 1 rfl rfl ?_
      obtain ⟨h8, h⟩ := h
      refine r_zaload d_X12_mark_23 (ly_12_75 bs_12).2.2 h8 ?_
      obtain ⟨h9, h⟩ := h
      refine r_if_ne (tgt := 29) d_X12_mark_24 (by decide) h9 (fun c10 => ?_) (fun c10 => ?_)
      · replace h := h.1 c10
        exact h
      · replace h := h.2 c10
        refine r_iconst d_X12_mark_27 ?_
        exact r_zreturn d_X12_mark_28 rfl ⟨rfl, Nat.le_refl _, Nat.le_refl _⟩ (by decide) h
set_option maxRecDepth 20000 in
theorem s_X12_mark_29 {d : Nat} {x1 : Int} {x2 : Int} {G : Mem} {Q : Int → Mem → Prop}  (h : (0 ≤ x1 ∧ x1 < 4) ∧ (∀ G2 : Mem, G2 = st G 362 x1 1 → (InR x2) ∧ ((x2 = 0) → Ct d M_X12_lays NT 0 0 (some lay) [(2, 311), (0, 0), (0, (2 + x1))] G2 (fun r6 G5 => Ct d M_X12_copies NT 0 0 (some lay) [(2, 342), (0, 0), (2, 343), (0, (116 * x1))] G5 (fun r8 G7 => Q 1 G7))) ∧ (¬ (x2 = 0) → Ct d M_X12_lays NT 0 0 (some lay) [(2, 311), (0, (2 + x1)), (0, 0)] G2 (fun r10 G9 => Ct d M_X12_copies NT 0 0 (some lay) [(2, 343), (0, (116 * x1)), (2, 342), (0, 0)] G9 (fun r12 G11 => (∀ G13 : Mem, G13 = st G11 311 46 0 → Q 1 G13)))))) : Rn (d + 1) M_X12_mark zN 29 [(0, (2, 311)), (1, (0, x1)), (2, (0, x2))] [] G Q := by
  refine r_aload_n d_X12_mark_29 0 rfl rfl ?_
  refine r_getL (v := 362) 12 75 75 rfl d_X12_mark_30 fl_X12_162 (by decide) (bs_ob bs_12) (ly_12_75 bs_12).1 (ly_12_75 bs_12).2.1 ?_
  refine r_iload_n d_X12_mark_33 1 rfl rfl ?_
  refine r_iconst d_X12_mark_34 ?_
  obtain ⟨h1, h⟩ := h
  obtain ⟨G2, eG2⟩ : ∃ y : Mem, y = st G 362 x1 1 := ⟨_, rfl⟩
  replace h := h G2 eG2
  refine r_zastore d_X12_mark_35 (ly_12_75 bs_12).2.2 h1 (by decide) ?_
  rw [← eG2]
  refine r_iload_n d_X12_mark_36 2 rfl rfl ?_
  obtain ⟨h3, h⟩ := h
  refine r_if_eq (tgt := 71) d_X12_mark_37 (by decide) h3 (fun c4 => ?_) (fun c4 => ?_)
  · replace h := h.1 c4
    refine r_aload_n d_X12_mark_71 0 rfl rfl ?_
    refine r_iconst d_X12_mark_72 ?_
    refine r_iconst d_X12_mark_73 ?_
    refine r_iload_n d_X12_mark_74 1 rfl rfl ?_
    refine r_iadd d_X12_mark_75 ?_
    refine r_callV0 (M' := M_X12_lays) (ci := 12) [(0, 0), (0, (2 + x1))] d_X12_mark_76 cl_X12_373 rfl (Nat.le_of_ble_eq_true rfl) (by decide) rfl (bs_ob bs_12) ?_
    refine Ct.mono h (fun r6 G5 h => ?_)
    show Rn _ M_X12_mark zN 79 [(0, (2, 311)), (1, (0, x1)), (2, (0, x2))] [] G5 Q
    refine r_aload_n d_X12_mark_79 0 rfl rfl ?_
    refine r_getL (v := 342) 12 43 43 rfl d_X12_mark_80 fl_X12_102 (by decide) (bs_ob bs_12) (ly_12_43 bs_12).1 (ly_12_43 bs_12).2.1 ?_
    refine r_iconst d_X12_mark_83 ?_
    refine r_aload_n d_X12_mark_84 0 rfl rfl ?_
    refine r_getL (v := 343) 12 44 44 rfl d_X12_mark_85 fl_X12_105 (by decide) (bs_ob bs_12) (ly_12_44 bs_12).1 (ly_12_44 bs_12).2.1 ?_
    refine r_bipush d_X12_mark_88 (by decide +kernel) ?_
    refine r_iload_n d_X12_mark_90 1 rfl rfl ?_
    refine r_imul d_X12_mark_91 ?_
    refine r_callS0 (M' := M_X12_copies) [(2, 342), (0, 0), (2, 343), (0, (116 * x1))] d_X12_mark_92 cl_X12_419 rfl (Nat.le_of_ble_eq_true rfl) ?_
    refine Ct.mono h (fun r8 G7 h => ?_)
    show Rn _ M_X12_mark zN 95 [(0, (2, 311)), (1, (0, x1)), (2, (0, x2))] [] G7 Q
    refine r_iconst d_X12_mark_95 ?_
    exact r_zreturn d_X12_mark_96 rfl ⟨rfl, Nat.le_refl _, Nat.le_refl _⟩ (by decide) h
  · replace h := h.2 c4
    refine r_aload_n d_X12_mark_40 0 rfl rfl ?_
    refine r_iconst d_X12_mark_41 ?_
    refine r_iload_n d_X12_mark_42 1 rfl rfl ?_
    refine r_iadd d_X12_mark_43 ?_
    refine r_iconst d_X12_mark_44 ?_
    refine r_callV0 (M' := M_X12_lays) (ci := 12) [(0, (2 + x1)), (0, 0)] d_X12_mark_45 cl_X12_373 rfl (Nat.le_of_ble_eq_true rfl) (by decide) rfl (bs_ob bs_12) ?_
    refine Ct.mono h (fun r10 G9 h => ?_)
    show Rn _ M_X12_mark zN 48 [(0, (2, 311)), (1, (0, x1)), (2, (0, x2))] [] G9 Q
    refine r_aload_n d_X12_mark_48 0 rfl rfl ?_
    refine r_getL (v := 343) 12 44 44 rfl d_X12_mark_49 fl_X12_105 (by decide) (bs_ob bs_12) (ly_12_44 bs_12).1 (ly_12_44 bs_12).2.1 ?_
    refine r_bipush d_X12_mark_52 (by decide +kernel) ?_
    refine r_iload_n d_X12_mark_54 1 rfl rfl ?_
    refine r_imul d_X12_mark_55 ?_
    refine r_aload_n d_X12_mark_56 0 rfl rfl ?_
    refine r_getL (v := 342) 12 43 43 rfl d_X12_mark_57 fl_X12_102 (by decide) (bs_ob bs_12) (ly_12_43 bs_12).1 (ly_12_43 bs_12).2.1 ?_
    refine r_iconst d_X12_mark_60 ?_
    refine r_callS0 (M' := M_X12_copies) [(2, 343), (0, (116 * x1)), (2, 342), (0, 0)] d_X12_mark_61 cl_X12_419 rfl (Nat.le_of_ble_eq_true rfl) ?_
    refine Ct.mono h (fun r12 G11 h => ?_)
    show Rn _ M_X12_mark zN 64 [(0, (2, 311)), (1, (0, x1)), (2, (0, x2))] [] G11 Q
    refine r_aload_n d_X12_mark_64 0 rfl rfl ?_
    refine r_iconst d_X12_mark_65 ?_
    obtain ⟨G13, eG13⟩ : ∃ y : Mem, y = st G11 311 46 0 := ⟨_, rfl⟩
    replace h := h G13 eG13
    refine r_putI 12 46 46 rfl d_X12_mark_66 fl_X12_377 (by decide) nofin_12_46 (bs_ob bs_12) ?_
    rw [← eG13]
    refine r_iconst d_X12_mark_69 ?_
    exact r_zreturn d_X12_mark_70 rfl ⟨rfl, Nat.le_refl _, Nat.le_refl _⟩ (by decide) h
theorem d_X12_count_0 : decode M_X12_count.2.1 0 = .ok (.aload_n 0, 1) := by decide +kernel
theorem d_X12_count_1 : decode M_X12_count.2.1 1 = .ok (.iconst 0, 1) := by decide +kernel
theorem d_X12_count_2 : decode M_X12_count.2.1 2 = .ok (.putfield 169, 3) := by decide +kernel
theorem d_X12_count_5 : decode M_X12_count.2.1 5 = .ok (.iload_n 1, 1) := by decide +kernel
theorem d_X12_count_6 : decode M_X12_count.2.1 6 = .ok (.iconst 0, 1) := by decide +kernel
theorem d_X12_count_7 : decode M_X12_count.2.1 7 = .ok (.bipush 11, 2) := by decide +kernel
theorem d_X12_count_9 : decode M_X12_count.2.1 9 = .ok (.invokestatic 308, 3) := by decide +kernel
theorem d_X12_count_12 : decode M_X12_count.2.1 12 = .ok (.ifCond .ne 5, 3) := by decide +kernel
theorem d_X12_count_15 : decode M_X12_count.2.1 15 = .ok (.iconst (-1), 1) := by decide +kernel
theorem d_X12_count_16 : decode M_X12_count.2.1 16 = .ok (.ireturn, 1) := by decide +kernel
theorem d_X12_count_17 : decode M_X12_count.2.1 17 = .ok (.iload_n 1, 1) := by decide +kernel
theorem d_X12_count_18 : decode M_X12_count.2.1 18 = .ok (.iconst 4, 1) := by decide +kernel
theorem d_X12_count_19 : decode M_X12_count.2.1 19 = .ok (.if_icmp .ge 40, 3) := by decide +kernel
theorem d_X12_count_22 : decode M_X12_count.2.1 22 = .ok (.iload_n 1, 1) := by decide +kernel
theorem d_X12_count_23 : decode M_X12_count.2.1 23 = .ok (.iconst 2, 1) := by decide +kernel
theorem d_X12_count_24 : decode M_X12_count.2.1 24 = .ok (.if_icmp .ge 12, 3) := by decide +kernel
theorem d_X12_count_27 : decode M_X12_count.2.1 27 = .ok (.aload_n 0, 1) := by decide +kernel
theorem d_X12_count_28 : decode M_X12_count.2.1 28 = .ok (.getfield 13, 3) := by decide +kernel
theorem d_X12_count_31 : decode M_X12_count.2.1 31 = .ok (.iload_n 1, 1) := by decide +kernel
theorem d_X12_count_32 : decode M_X12_count.2.1 32 = .ok (.iaload, 1) := by decide +kernel
theorem d_X12_count_33 : decode M_X12_count.2.1 33 = .ok (.goto 25, 3) := by decide +kernel
theorem d_X12_count_36 : decode M_X12_count.2.1 36 = .ok (.iload_n 1, 1) := by decide +kernel
theorem d_X12_count_37 : decode M_X12_count.2.1 37 = .ok (.iconst 2, 1) := by decide +kernel
theorem d_X12_count_38 : decode M_X12_count.2.1 38 = .ok (.if_icmp .ne 13, 3) := by decide +kernel
theorem d_X12_count_41 : decode M_X12_count.2.1 41 = .ok (.aload_n 0, 1) := by decide +kernel
theorem d_X12_count_42 : decode M_X12_count.2.1 42 = .ok (.getfield 13, 3) := by decide +kernel
theorem d_X12_count_45 : decode M_X12_count.2.1 45 = .ok (.bipush 8, 2) := by decide +kernel
theorem d_X12_count_47 : decode M_X12_count.2.1 47 = .ok (.iaload, 1) := by decide +kernel
theorem d_X12_count_48 : decode M_X12_count.2.1 48 = .ok (.goto 10, 3) := by decide +kernel
theorem d_X12_count_51 : decode M_X12_count.2.1 51 = .ok (.aload_n 0, 1) := by decide +kernel
theorem d_X12_count_52 : decode M_X12_count.2.1 52 = .ok (.getfield 102, 3) := by decide +kernel
theorem d_X12_count_55 : decode M_X12_count.2.1 55 = .ok (.bipush 110, 2) := by decide +kernel
theorem d_X12_count_57 : decode M_X12_count.2.1 57 = .ok (.iaload, 1) := by decide +kernel
theorem d_X12_count_58 : decode M_X12_count.2.1 58 = .ok (.ireturn, 1) := by decide +kernel
theorem d_X12_count_59 : decode M_X12_count.2.1 59 = .ok (.iload_n 1, 1) := by decide +kernel
theorem d_X12_count_60 : decode M_X12_count.2.1 60 = .ok (.bipush 8, 2) := by decide +kernel
theorem d_X12_count_62 : decode M_X12_count.2.1 62 = .ok (.if_icmp .ge 15, 3) := by decide +kernel
theorem d_X12_count_65 : decode M_X12_count.2.1 65 = .ok (.aload_n 0, 1) := by decide +kernel
theorem d_X12_count_66 : decode M_X12_count.2.1 66 = .ok (.getfield 102, 3) := by decide +kernel
theorem d_X12_count_69 : decode M_X12_count.2.1 69 = .ok (.bipush 111, 2) := by decide +kernel
theorem d_X12_count_71 : decode M_X12_count.2.1 71 = .ok (.iload_n 1, 1) := by decide +kernel
theorem d_X12_count_72 : decode M_X12_count.2.1 72 = .ok (.iadd, 1) := by decide +kernel
theorem d_X12_count_73 : decode M_X12_count.2.1 73 = .ok (.iconst 4, 1) := by decide +kernel
theorem d_X12_count_74 : decode M_X12_count.2.1 74 = .ok (.isub, 1) := by decide +kernel
theorem d_X12_count_75 : decode M_X12_count.2.1 75 = .ok (.iaload, 1) := by decide +kernel
theorem d_X12_count_76 : decode M_X12_count.2.1 76 = .ok (.ireturn, 1) := by decide +kernel
theorem d_X12_count_77 : decode M_X12_count.2.1 77 = .ok (.iconst 0, 1) := by decide +kernel
theorem d_X12_count_78 : decode M_X12_count.2.1 78 = .ok (.istore_n 2, 1) := by decide +kernel
theorem d_X12_count_79 : decode M_X12_count.2.1 79 = .ok (.iconst 0, 1) := by decide +kernel
theorem d_X12_count_80 : decode M_X12_count.2.1 80 = .ok (.istore_n 3, 1) := by decide +kernel
theorem d_X12_count_81 : decode M_X12_count.2.1 81 = .ok (.iload_n 3, 1) := by decide +kernel
theorem d_X12_count_82 : decode M_X12_count.2.1 82 = .ok (.iconst 5, 1) := by decide +kernel
theorem d_X12_count_83 : decode M_X12_count.2.1 83 = .ok (.if_icmp .ge 21, 3) := by decide +kernel
theorem d_X12_count_86 : decode M_X12_count.2.1 86 = .ok (.iload_n 2, 1) := by decide +kernel
theorem d_X12_count_87 : decode M_X12_count.2.1 87 = .ok (.aload_n 0, 1) := by decide +kernel
theorem d_X12_count_88 : decode M_X12_count.2.1 88 = .ok (.getfield 102, 3) := by decide +kernel
theorem d_X12_count_91 : decode M_X12_count.2.1 91 = .ok (.bipush 30, 2) := by decide +kernel
theorem d_X12_count_93 : decode M_X12_count.2.1 93 = .ok (.iload_n 3, 1) := by decide +kernel
theorem d_X12_count_94 : decode M_X12_count.2.1 94 = .ok (.iadd, 1) := by decide +kernel
theorem d_X12_count_95 : decode M_X12_count.2.1 95 = .ok (.iaload, 1) := by decide +kernel
theorem d_X12_count_96 : decode M_X12_count.2.1 96 = .ok (.iadd, 1) := by decide +kernel
theorem d_X12_count_97 : decode M_X12_count.2.1 97 = .ok (.istore_n 2, 1) := by decide +kernel
theorem d_X12_count_98 : decode M_X12_count.2.1 98 = .ok (.iinc 3 1, 3) := by decide +kernel
theorem d_X12_count_101 : decode M_X12_count.2.1 101 = .ok (.goto (-20), 3) := by decide +kernel
theorem d_X12_count_104 : decode M_X12_count.2.1 104 = .ok (.iload_n 1, 1) := by decide +kernel
theorem d_X12_count_105 : decode M_X12_count.2.1 105 = .ok (.bipush 8, 2) := by decide +kernel
theorem d_X12_count_107 : decode M_X12_count.2.1 107 = .ok (.if_icmp .ne 7, 3) := by decide +kernel
theorem d_X12_count_110 : decode M_X12_count.2.1 110 = .ok (.iload_n 2, 1) := by decide +kernel
theorem d_X12_count_111 : decode M_X12_count.2.1 111 = .ok (.goto 35, 3) := by decide +kernel
theorem d_X12_count_114 : decode M_X12_count.2.1 114 = .ok (.iload_n 1, 1) := by decide +kernel
theorem d_X12_count_115 : decode M_X12_count.2.1 115 = .ok (.bipush 9, 2) := by decide +kernel
theorem d_X12_count_117 : decode M_X12_count.2.1 117 = .ok (.if_icmp .ne 12, 3) := by decide +kernel
theorem d_X12_count_120 : decode M_X12_count.2.1 120 = .ok (.aload_n 0, 1) := by decide +kernel
theorem d_X12_count_121 : decode M_X12_count.2.1 121 = .ok (.getfield 13, 3) := by decide +kernel
theorem d_X12_count_124 : decode M_X12_count.2.1 124 = .ok (.iconst 2, 1) := by decide +kernel
theorem d_X12_count_125 : decode M_X12_count.2.1 125 = .ok (.iaload, 1) := by decide +kernel
theorem d_X12_count_126 : decode M_X12_count.2.1 126 = .ok (.goto 20, 3) := by decide +kernel
theorem d_X12_count_129 : decode M_X12_count.2.1 129 = .ok (.iload_n 1, 1) := by decide +kernel
theorem d_X12_count_130 : decode M_X12_count.2.1 130 = .ok (.bipush 10, 2) := by decide +kernel
theorem d_X12_count_132 : decode M_X12_count.2.1 132 = .ok (.if_icmp .ne 10, 3) := by decide +kernel
theorem d_X12_count_135 : decode M_X12_count.2.1 135 = .ok (.aload_n 0, 1) := by decide +kernel
theorem d_X12_count_136 : decode M_X12_count.2.1 136 = .ok (.getfield 377, 3) := by decide +kernel
theorem d_X12_count_139 : decode M_X12_count.2.1 139 = .ok (.goto 7, 3) := by decide +kernel
theorem d_X12_count_142 : decode M_X12_count.2.1 142 = .ok (.aload_n 0, 1) := by decide +kernel
theorem d_X12_count_143 : decode M_X12_count.2.1 143 = .ok (.getfield 175, 3) := by decide +kernel
theorem d_X12_count_146 : decode M_X12_count.2.1 146 = .ok (.ireturn, 1) := by decide +kernel
set_option maxRecDepth 20000 in
theorem s_X12_count_0 {d : Nat} {p0 : Int} {G : Mem} {Q : Int → Mem → Prop}  (h : (∀ G1 : Mem, G1 = st G 311 0 0 → Ct d M_X12_within NT 0 0 (some lay) [(0, p0), (0, 0), (0, 11)] G1 (fun r3 G2 => (InR r3) ∧ ((r3 ≠ 0) → (InR p0) ∧ ((4 ≤ p0) → ((8 ≤ p0) → Rn (d + 1) M_X12_count zN 81 [(0, (2, 311)), (1, (0, p0)), (2, (0, 0)), (3, (0, 0))] [] G2 Q) ∧ (¬ (8 ≤ p0) → (0 ≤ ((111 + p0) - 4) ∧ ((111 + p0) - 4) < 116) ∧ (Q (G2 342 ((111 + p0) - 4)) G2))) ∧ (¬ (4 ≤ p0) → ((2 ≤ p0) → ((p0 ≠ 2) → Q (G2 342 110) G2) ∧ (¬ (p0 ≠ 2) → Q (G2 313 8) G2)) ∧ (¬ (2 ≤ p0) → (0 ≤ p0 ∧ p0 < 72) ∧ (Q (G2 313 p0) G2)))) ∧ (¬ (r3 ≠ 0) → Q (-1) G2)))) : Rn (d + 1) M_X12_count zN 0 [(0, (2, 311)), (1, (0, p0))] [] G Q := by
  refine r_aload_n d_X12_count_0 0 rfl rfl ?_
  refine r_iconst d_X12_count_1 ?_
  obtain ⟨G1, eG1⟩ : ∃ y : Mem, y = st G 311 0 0 := ⟨_, rfl⟩
  replace h := h G1 eG1
  refine r_putI 12 0 0 rfl d_X12_count_2 fl_X12_169 (by decide) nofin_12_0 (bs_ob bs_12) ?_
  rw [← eG1]
  refine r_iload_n d_X12_count_5 1 rfl rfl ?_
  refine r_iconst d_X12_count_6 ?_
  refine r_bipush d_X12_count_7 (by decide +kernel) ?_
  refine r_callS0 (M' := M_X12_within) [(0, p0), (0, 0), (0, 11)] d_X12_count_9 cl_X12_308 rfl (Nat.le_of_ble_eq_true rfl) ?_
  refine Ct.mono h (fun r3 G2 h => ?_)
  show Rn _ M_X12_count zN 12 [(0, (2, 311)), (1, (0, p0))] [(0, r3)] G2 Q
  obtain ⟨h4, h⟩ := h
  refine r_if_ne (tgt := 17) d_X12_count_12 (by decide) h4 (fun c5 => ?_) (fun c5 => ?_)
  · replace h := h.1 c5
    refine r_iload_n d_X12_count_17 1 rfl rfl ?_
    refine r_iconst d_X12_count_18 ?_
    obtain ⟨h6, h⟩ := h
    refine r_icmp_ge (tgt := 59) d_X12_count_19 (by decide) h6 ⟨by decide, by decide⟩ (fun c7 => ?_) (fun c7 => ?_)
    · replace h := h.1 c7
      refine r_iload_n d_X12_count_59 1 rfl rfl ?_
      refine r_bipush d_X12_count_60 (by decide +kernel) ?_
      refine r_icmp_ge (tgt := 77) d_X12_count_62 (by decide) h6 ⟨by decide, by decide⟩ (fun c8 => ?_) (fun c8 => ?_)
      · replace h := h.1 c8
        refine r_iconst d_X12_count_77 ?_
        refine r_istore_n (ls1 := [(2, (0, 0)), (0, (2, 311)), (1, (0, p0))]) d_X12_count_78 rfl (by decide) rfl ?_
        refine r_iconst d_X12_count_79 ?_
        refine r_istore_n (ls1 := [(3, (0, 0)), (2, (0, 0)), (0, (2, 311)), (1, (0, p0))]) d_X12_count_80 rfl (by decide) rfl ?_
        exact Rn.sub [2, 3, 1, 0] rfl h
      · replace h := h.2 c8
        refine r_aload_n d_X12_count_65 0 rfl rfl ?_
        refine r_getL (v := 342) 12 43 43 rfl d_X12_count_66 fl_X12_102 (by decide) (bs_ob bs_12) (ly_12_43 bs_12).1 (ly_12_43 bs_12).2.1 ?_
        refine r_bipush d_X12_count_69 (by decide +kernel) ?_
        refine r_iload_n d_X12_count_71 1 rfl rfl ?_
        refine r_iadd d_X12_count_72 ?_
        refine r_iconst d_X12_count_73 ?_
        refine r_isub d_X12_count_74 ?_
        obtain ⟨h9, h⟩ := h
        refine r_iaload d_X12_count_75 (ly_12_43 bs_12).2.2 h9 ?_
        exact r_ireturn d_X12_count_76 rfl ⟨rfl, Nat.le_refl _, Nat.le_refl _⟩ h
    · replace h := h.2 c7
      refine r_iload_n d_X12_count_22 1 rfl rfl ?_
      refine r_iconst d_X12_count_23 ?_
      refine r_icmp_ge (tgt := 36) d_X12_count_24 (by decide) h6 ⟨by decide, by decide⟩ (fun c10 => ?_) (fun c10 => ?_)
      · replace h := h.1 c10
        refine r_iload_n d_X12_count_36 1 rfl rfl ?_
        refine r_iconst d_X12_count_37 ?_
        refine r_icmp_ne (tgt := 51) d_X12_count_38 (by decide) h6 ⟨by decide, by decide⟩ (fun c11 => ?_) (fun c11 => ?_)
        · replace h := h.1 c11
          refine r_aload_n d_X12_count_51 0 rfl rfl ?_
          refine r_getL (v := 342) 12 43 43 rfl d_X12_count_52 fl_X12_102 (by decide) (bs_ob bs_12) (ly_12_43 bs_12).1 (ly_12_43 bs_12).2.1 ?_
          refine r_bipush d_X12_count_55 (by decide +kernel) ?_
          refine r_iaload d_X12_count_57 (ly_12_43 bs_12).2.2 (by decide) ?_
          exact r_ireturn d_X12_count_58 rfl ⟨rfl, Nat.le_refl _, Nat.le_refl _⟩ h
        · replace h := h.2 c11
          refine r_aload_n d_X12_count_41 0 rfl rfl ?_
          refine r_getL (v := 313) 12 10 10 rfl d_X12_count_42 fl_X12_13 (by decide) (bs_ob bs_12) (ly_12_10 bs_12).1 (ly_12_10 bs_12).2.1 ?_
          refine r_bipush d_X12_count_45 (by decide +kernel) ?_
          refine r_iaload d_X12_count_47 (ly_12_10 bs_12).2.2 (by decide) ?_
          refine r_goto (tgt := 58) d_X12_count_48 (by decide) ?_
          exact r_ireturn d_X12_count_58 rfl ⟨rfl, Nat.le_refl _, Nat.le_refl _⟩ h
      · replace h := h.2 c10
        refine r_aload_n d_X12_count_27 0 rfl rfl ?_
        refine r_getL (v := 313) 12 10 10 rfl d_X12_count_28 fl_X12_13 (by decide) (bs_ob bs_12) (ly_12_10 bs_12).1 (ly_12_10 bs_12).2.1 ?_
        refine r_iload_n d_X12_count_31 1 rfl rfl ?_
        obtain ⟨h12, h⟩ := h
        refine r_iaload d_X12_count_32 (ly_12_10 bs_12).2.2 h12 ?_
        refine r_goto (tgt := 58) d_X12_count_33 (by decide) ?_
        exact r_ireturn d_X12_count_58 rfl ⟨rfl, Nat.le_refl _, Nat.le_refl _⟩ h
  · replace h := h.2 c5
    refine r_iconst d_X12_count_15 ?_
    exact r_ireturn d_X12_count_16 rfl ⟨rfl, Nat.le_refl _, Nat.le_refl _⟩ h
set_option maxRecDepth 20000 in
theorem s_X12_count_81 {d : Nat} {x1 : Int} {x2 : Int} {x3 : Int} {G : Mem} {Q : Int → Mem → Prop}  (h : (InR x3) ∧ ((5 ≤ x3) → (InR x1) ∧ ((x1 ≠ 8) → ((x1 ≠ 9) → ((x1 ≠ 10) → Q (G 311 1) G) ∧ (¬ (x1 ≠ 10) → Q (G 311 46) G)) ∧ (¬ (x1 ≠ 9) → Q (G 313 2) G)) ∧ (¬ (x1 ≠ 8) → Q x2 G)) ∧ (¬ (5 ≤ x3) → (0 ≤ (30 + x3) ∧ (30 + x3) < 116) ∧ (Rn d M_X12_count zN 81 [(0, (2, 311)), (1, (0, x1)), (2, (0, (x2 + (G 342 (30 + x3))))), (3, (0, (x3 + 1)))] [] G Q))) : Rn d M_X12_count zN 81 [(0, (2, 311)), (1, (0, x1)), (2, (0, x2)), (3, (0, x3))] [] G Q := by
  refine r_iload_n d_X12_count_81 3 rfl rfl ?_
  refine r_iconst d_X12_count_82 ?_
  obtain ⟨h1, h⟩ := h
  refine r_icmp_ge (tgt := 104) d_X12_count_83 (by decide) h1 ⟨by decide, by decide⟩ (fun c2 => ?_) (fun c2 => ?_)
  · replace h := h.1 c2
    refine r_iload_n d_X12_count_104 1 rfl rfl ?_
    refine r_bipush d_X12_count_105 (by decide +kernel) ?_
    obtain ⟨h3, h⟩ := h
    refine r_icmp_ne (tgt := 114) d_X12_count_107 (by decide) h3 ⟨by decide, by decide⟩ (fun c4 => ?_) (fun c4 => ?_)
    · replace h := h.1 c4
      refine r_iload_n d_X12_count_114 1 rfl rfl ?_
      refine r_bipush d_X12_count_115 (by decide +kernel) ?_
      refine r_icmp_ne (tgt := 129) d_X12_count_117 (by decide) h3 ⟨by decide, by decide⟩ (fun c5 => ?_) (fun c5 => ?_)
      · replace h := h.1 c5
        refine r_iload_n d_X12_count_129 1 rfl rfl ?_
        refine r_bipush d_X12_count_130 (by decide +kernel) ?_
        refine r_icmp_ne (tgt := 142) d_X12_count_132 (by decide) h3 ⟨by decide, by decide⟩ (fun c6 => ?_) (fun c6 => ?_)
        · replace h := h.1 c6
          refine r_aload_n d_X12_count_142 0 rfl rfl ?_
          refine r_getI 12 1 1 rfl d_X12_count_143 fl_X12_175 (by decide) (bs_ob bs_12) ?_
          exact r_ireturn d_X12_count_146 rfl ⟨rfl, Nat.le_refl _, Nat.le_refl _⟩ h
        · replace h := h.2 c6
          refine r_aload_n d_X12_count_135 0 rfl rfl ?_
          refine r_getI 12 46 46 rfl d_X12_count_136 fl_X12_377 (by decide) (bs_ob bs_12) ?_
          refine r_goto (tgt := 146) d_X12_count_139 (by decide) ?_
          exact r_ireturn d_X12_count_146 rfl ⟨rfl, Nat.le_refl _, Nat.le_refl _⟩ h
      · replace h := h.2 c5
        refine r_aload_n d_X12_count_120 0 rfl rfl ?_
        refine r_getL (v := 313) 12 10 10 rfl d_X12_count_121 fl_X12_13 (by decide) (bs_ob bs_12) (ly_12_10 bs_12).1 (ly_12_10 bs_12).2.1 ?_
        refine r_iconst d_X12_count_124 ?_
        refine r_iaload d_X12_count_125 (ly_12_10 bs_12).2.2 (by decide) ?_
        refine r_goto (tgt := 146) d_X12_count_126 (by decide) ?_
        exact r_ireturn d_X12_count_146 rfl ⟨rfl, Nat.le_refl _, Nat.le_refl _⟩ h
    · replace h := h.2 c4
      refine r_iload_n d_X12_count_110 2 rfl rfl ?_
      refine r_goto (tgt := 146) d_X12_count_111 (by decide) ?_
      exact r_ireturn d_X12_count_146 rfl ⟨rfl, Nat.le_refl _, Nat.le_refl _⟩ h
  · replace h := h.2 c2
    refine r_iload_n d_X12_count_86 2 rfl rfl ?_
    refine r_aload_n d_X12_count_87 0 rfl rfl ?_
    refine r_getL (v := 342) 12 43 43 rfl d_X12_count_88 fl_X12_102 (by decide) (bs_ob bs_12) (ly_12_43 bs_12).1 (ly_12_43 bs_12).2.1 ?_
    refine r_bipush d_X12_count_91 (by decide +kernel) ?_
    refine r_iload_n d_X12_count_93 3 rfl rfl ?_
    refine r_iadd d_X12_count_94 ?_
    obtain ⟨h7, h⟩ := h
    refine r_iaload d_X12_count_95 (ly_12_43 bs_12).2.2 h7 ?_
    refine r_iadd d_X12_count_96 ?_
    refine r_istore_n (ls1 := [(2, (0, (x2 + (G 342 (30 + x3))))), (0, (2, 311)), (1, (0, x1)), (3, (0, x3))]) d_X12_count_97 rfl (by decide) rfl ?_
    refine r_iinc (ls1 := [(3, (0, (x3 + 1))), (2, (0, (x2 + (G 342 (30 + x3))))), (0, (2, 311)), (1, (0, x1))]) d_X12_count_98 3 rfl (by decide) rfl ?_
    refine r_goto (tgt := 81) d_X12_count_101 (by decide) ?_
    exact Rn.sub [2, 3, 1, 0] rfl h
