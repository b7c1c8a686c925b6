theorem d_X7_take_0 : decode M_X7_take.2.1 0 = .ok (.aload_n 0, 1) := by decide +kernel
theorem d_X7_take_1 : decode M_X7_take.2.1 1 = .ok (.aload_n 1, 1) := by decide +kernel
theorem d_X7_take_2 : decode M_X7_take.2.1 2 = .ok (.getfield 9, 3) := by decide +kernel
theorem d_X7_take_5 : decode M_X7_take.2.1 5 = .ok (.putfield 9, 3) := by decide +kernel
theorem d_X7_take_8 : decode M_X7_take.2.1 8 = .ok (.aload_n 0, 1) := by decide +kernel
theorem d_X7_take_9 : decode M_X7_take.2.1 9 = .ok (.aload_n 1, 1) := by decide +kernel
theorem d_X7_take_10 : decode M_X7_take.2.1 10 = .ok (.getfield 15, 3) := by decide +kernel
theorem d_X7_take_13 : decode M_X7_take.2.1 13 = .ok (.putfield 15, 3) := by decide +kernel
theorem d_X7_take_16 : decode M_X7_take.2.1 16 = .ok (.aload_n 0, 1) := by decide +kernel
theorem d_X7_take_17 : decode M_X7_take.2.1 17 = .ok (.aload_n 1, 1) := by decide +kernel
theorem d_X7_take_18 : decode M_X7_take.2.1 18 = .ok (.getfield 18, 3) := by decide +kernel
theorem d_X7_take_21 : decode M_X7_take.2.1 21 = .ok (.putfield 18, 3) := by decide +kernel
theorem d_X7_take_24 : decode M_X7_take.2.1 24 = .ok (.aload_n 0, 1) := by decide +kernel
theorem d_X7_take_25 : decode M_X7_take.2.1 25 = .ok (.aload_n 1, 1) := by decide +kernel
theorem d_X7_take_26 : decode M_X7_take.2.1 26 = .ok (.getfield 21, 3) := by decide +kernel
theorem d_X7_take_29 : decode M_X7_take.2.1 29 = .ok (.putfield 21, 3) := by decide +kernel
theorem d_X7_take_32 : decode M_X7_take.2.1 32 = .ok (.aload_n 0, 1) := by decide +kernel
theorem d_X7_take_33 : decode M_X7_take.2.1 33 = .ok (.aload_n 1, 1) := by decide +kernel
theorem d_X7_take_34 : decode M_X7_take.2.1 34 = .ok (.getfield 24, 3) := by decide +kernel
theorem d_X7_take_37 : decode M_X7_take.2.1 37 = .ok (.putfield 24, 3) := by decide +kernel
theorem d_X7_take_40 : decode M_X7_take.2.1 40 = .ok (.aload_n 0, 1) := by decide +kernel
theorem d_X7_take_41 : decode M_X7_take.2.1 41 = .ok (.aload_n 1, 1) := by decide +kernel
theorem d_X7_take_42 : decode M_X7_take.2.1 42 = .ok (.getfield 27, 3) := by decide +kernel
theorem d_X7_take_45 : decode M_X7_take.2.1 45 = .ok (.putfield 27, 3) := by decide +kernel
theorem d_X7_take_48 : decode M_X7_take.2.1 48 = .ok (.aload_n 0, 1) := by decide +kernel
theorem d_X7_take_49 : decode M_X7_take.2.1 49 = .ok (.aload_n 1, 1) := by decide +kernel
theorem d_X7_take_50 : decode M_X7_take.2.1 50 = .ok (.getfield 30, 3) := by decide +kernel
theorem d_X7_take_53 : decode M_X7_take.2.1 53 = .ok (.putfield 30, 3) := by decide +kernel
theorem d_X7_take_56 : decode M_X7_take.2.1 56 = .ok (.aload_n 0, 1) := by decide +kernel
theorem d_X7_take_57 : decode M_X7_take.2.1 57 = .ok (.aload_n 1, 1) := by decide +kernel
theorem d_X7_take_58 : decode M_X7_take.2.1 58 = .ok (.getfield 33, 3) := by decide +kernel
theorem d_X7_take_61 : decode M_X7_take.2.1 61 = .ok (.putfield 33, 3) := by decide +kernel
theorem d_X7_take_64 : decode M_X7_take.2.1 64 = .ok (.aload_n 0, 1) := by decide +kernel
theorem d_X7_take_65 : decode M_X7_take.2.1 65 = .ok (.aload_n 1, 1) := by decide +kernel
theorem d_X7_take_66 : decode M_X7_take.2.1 66 = .ok (.getfield 36, 3) := by decide +kernel
theorem d_X7_take_69 : decode M_X7_take.2.1 69 = .ok (.putfield 36, 3) := by decide +kernel
theorem d_X7_take_72 : decode M_X7_take.2.1 72 = .ok (.return_, 1) := by decide +kernel
set_option maxRecDepth 20000 in
theorem s_X7_take_0 {d : Nat} {t : Int} {p0 : Int} {G : Mem} {Q : Int → Mem → Prop} (bt : Bs 7 t) (bp0 : Bs 7 p0) (h : (∀ G1 : Mem, G1 = st G t 0 (G p0 0) → (∀ G2 : Mem, G2 = st G1 t 1 (G1 p0 1) → (∀ G3 : Mem, G3 = st G2 t 2 (G2 p0 2) → (∀ G4 : Mem, G4 = st G3 t 3 (G3 p0 3) → (∀ G5 : Mem, G5 = st G4 t 4 (G4 p0 4) → (∀ G6 : Mem, G6 = st G5 t 5 (G5 p0 5) → (∀ G7 : Mem, G7 = st G6 t 6 (G6 p0 6) → (∀ G8 : Mem, G8 = st G7 t 7 (G7 p0 7) → (∀ G9 : Mem, G9 = st G8 t 8 (G8 p0 8) → Q 0 G9)))))))))) : Rn d M_X7_take zN 0 [(0, (2, t)), (1, (2, p0))] [] G Q := by
  refine r_aload_n d_X7_take_0 0 rfl rfl ?_
  refine r_aload_n d_X7_take_1 1 rfl rfl ?_
  refine r_getI 7 0 0 rfl d_X7_take_2 fl_X7_9 (by decide) (bs_ob bp0) ?_
  obtain ⟨G1, eG1⟩ : ∃ y : Mem, y = st G t 0 (G p0 0) := ⟨_, rfl⟩
  replace h := h G1 eG1
  refine r_putI 7 0 0 rfl d_X7_take_5 fl_X7_9 (by decide) nofin_7_0 (bs_ob bt) ?_
  rw [← eG1]
  refine r_aload_n d_X7_take_8 0 rfl rfl ?_
  refine r_aload_n d_X7_take_9 1 rfl rfl ?_
  refine r_getI 7 1 1 rfl d_X7_take_10 fl_X7_15 (by decide) (bs_ob bp0) ?_
  obtain ⟨G2, eG2⟩ : ∃ y : Mem, y = st G1 t 1 (G1 p0 1) := ⟨_, rfl⟩
  replace h := h G2 eG2
  refine r_putI 7 1 1 rfl d_X7_take_13 fl_X7_15 (by decide) nofin_7_1 (bs_ob bt) ?_
  rw [← eG2]
  refine r_aload_n d_X7_take_16 0 rfl rfl ?_
  refine r_aload_n d_X7_take_17 1 rfl rfl ?_
  refine r_getI 7 2 2 rfl d_X7_take_18 fl_X7_18 (by decide) (bs_ob bp0) ?_
  obtain ⟨G3, eG3⟩ : ∃ y : Mem, y = st G2 t 2 (G2 p0 2) := ⟨_, rfl⟩
  replace h := h G3 eG3
  refine r_putI 7 2 2 rfl d_X7_take_21 fl_X7_18 (by decide) nofin_7_2 (bs_ob bt) ?_
  rw [← eG3]
  refine r_aload_n d_X7_take_24 0 rfl rfl ?_
  refine r_aload_n d_X7_take_25 1 rfl rfl ?_
  refine r_getI 7 3 3 rfl d_X7_take_26 fl_X7_21 (by decide) (bs_ob bp0) ?_
  obtain ⟨G4, eG4⟩ : ∃ y : Mem, y = st G3 t 3 (G3 p0 3) := ⟨_, rfl⟩
  replace h := h G4 eG4
  refine r_putI 7 3 3 rfl d_X7_take_29 fl_X7_21 (by decide) nofin_7_3 (bs_ob bt) ?_
  rw [← eG4]
  refine r_aload_n d_X7_take_32 0 rfl rfl ?_
  refine r_aload_n d_X7_take_33 1 rfl rfl ?_
  refine r_getI 7 4 4 rfl d_X7_take_34 fl_X7_24 (by decide) (bs_ob bp0) ?_
  obtain ⟨G5, eG5⟩ : ∃ y : Mem, y = st G4 t 4 (G4 p0 4) := ⟨_, rfl⟩
  replace h := h G5 eG5
  refine r_putI 7 4 4 rfl d_X7_take_37 fl_X7_24 (by decide) nofin_7_4 (bs_ob bt) ?_
  rw [← eG5]
  refine r_aload_n d_X7_take_40 0 rfl rfl ?_
  refine r_aload_n d_X7_take_41 1 rfl rfl ?_
  refine r_getI 7 5 5 rfl d_X7_take_42 fl_X7_27 (by decide) (bs_ob bp0) ?_
  obtain ⟨G6, eG6⟩ : ∃ y : Mem, y = st G5 t 5 (G5 p0 5) := ⟨_, rfl⟩
  replace h := h G6 eG6
  refine r_putI 7 5 5 rfl d_X7_take_45 fl_X7_27 (by decide) nofin_7_5 (bs_ob bt) ?_
  rw [← eG6]
  refine r_aload_n d_X7_take_48 0 rfl rfl ?_
  refine r_aload_n d_X7_take_49 1 rfl rfl ?_
  refine r_getI 7 6 6 rfl d_X7_take_50 fl_X7_30 (by decide) (bs_ob bp0) ?_
  obtain ⟨G7, eG7⟩ : ∃ y : Mem, y = st G6 t 6 (G6 p0 6) := ⟨_, rfl⟩
  replace h := h G7 eG7
  refine r_putI 7 6 6 rfl d_X7_take_53 fl_X7_30 (by decide) nofin_7_6 (bs_ob bt) ?_
  rw [← eG7]
  refine r_aload_n d_X7_take_56 0 rfl rfl ?_
  refine r_aload_n d_X7_take_57 1 rfl rfl ?_
  refine r_getI 7 7 7 rfl d_X7_take_58 fl_X7_33 (by decide) (bs_ob bp0) ?_
  obtain ⟨G8, eG8⟩ : ∃ y : Mem, y = st G7 t 7 (G7 p0 7) := ⟨_, rfl⟩
  replace h := h G8 eG8
  refine r_putI 7 7 7 rfl d_X7_take_61 fl_X7_33 (by decide) nofin_7_7 (bs_ob bt) ?_
  rw [← eG8]
  refine r_aload_n d_X7_take_64 0 rfl rfl ?_
  refine r_aload_n d_X7_take_65 1 rfl rfl ?_
  refine r_getI 7 8 8 rfl d_X7_take_66 fl_X7_36 (by decide) (bs_ob bp0) ?_
  obtain ⟨G9, eG9⟩ : ∃ y : Mem, y = st G8 t 8 (G8 p0 8) := ⟨_, rfl⟩
  replace h := h G9 eG9
  refine r_putI 7 8 8 rfl d_X7_take_69 fl_X7_36 (by decide) nofin_7_8 (bs_ob bt) ?_
  rw [← eG9]
  exact r_ret d_X7_take_72 rfl ⟨rfl, Nat.le_refl _, Nat.le_refl _⟩ h
theorem d_X7_growth_0 : decode M_X7_growth.2.1 0 = .ok (.aload_n 0, 1) := by decide +kernel
theorem d_X7_growth_1 : decode M_X7_growth.2.1 1 = .ok (.getfield 18, 3) := by decide +kernel
theorem d_X7_growth_4 : decode M_X7_growth.2.1 4 = .ok (.iload_n 1, 1) := by decide +kernel
theorem d_X7_growth_5 : decode M_X7_growth.2.1 5 = .ok (.iadd, 1) := by decide +kernel
theorem d_X7_growth_6 : decode M_X7_growth.2.1 6 = .ok (.aload_n 0, 1) := by decide +kernel
theorem d_X7_growth_7 : decode M_X7_growth.2.1 7 = .ok (.getfield 9, 3) := by decide +kernel
theorem d_X7_growth_10 : decode M_X7_growth.2.1 10 = .ok (.iconst 1, 1) := by decide +kernel
theorem d_X7_growth_11 : decode M_X7_growth.2.1 11 = .ok (.if_icmp .ne 7, 3) := by decide +kernel
theorem d_X7_growth_14 : decode M_X7_growth.2.1 14 = .ok (.iconst 2, 1) := by decide +kernel
theorem d_X7_growth_15 : decode M_X7_growth.2.1 15 = .ok (.goto 4, 3) := by decide +kernel
theorem d_X7_growth_18 : decode M_X7_growth.2.1 18 = .ok (.iconst 1, 1) := by decide +kernel
theorem d_X7_growth_19 : decode M_X7_growth.2.1 19 = .ok (.imul, 1) := by decide +kernel
theorem d_X7_growth_20 : decode M_X7_growth.2.1 20 = .ok (.ireturn, 1) := by decide +kernel
set_option maxRecDepth 20000 in
theorem s_X7_growth_0 {d : Nat} {t : Int} {p0 : Int} {G : Mem} {Q : Int → Mem → Prop} (bt : Bs 7 t) (h : (InR (G t 0)) ∧ (((G t 0) ≠ 1) → Q (((G t 2) + p0) * 1) G) ∧ (¬ ((G t 0) ≠ 1) → Q (((G t 2) + p0) * 2) G)) : Rn d M_X7_growth zN 0 [(0, (2, t)), (1, (0, p0))] [] G Q := by
  refine r_aload_n d_X7_growth_0 0 rfl rfl ?_
  refine r_getI 7 2 2 rfl d_X7_growth_1 fl_X7_18 (by decide) (bs_ob bt) ?_
  refine r_iload_n d_X7_growth_4 1 rfl rfl ?_
  refine r_iadd d_X7_growth_5 ?_
  refine r_aload_n d_X7_growth_6 0 rfl rfl ?_
  refine r_getI 7 0 0 rfl d_X7_growth_7 fl_X7_9 (by decide) (bs_ob bt) ?_
  refine r_iconst d_X7_growth_10 ?_
  obtain ⟨h1, h⟩ := h
  refine r_icmp_ne (tgt := 18) d_X7_growth_11 (by decide) h1 ⟨by decide, by decide⟩ (fun c2 => ?_) (fun c2 => ?_)
  · replace h := h.1 c2
    refine r_iconst d_X7_growth_18 ?_
    refine r_imul d_X7_growth_19 ?_
    exact r_ireturn d_X7_growth_20 rfl ⟨rfl, Nat.le_refl _, Nat.le_refl _⟩ h
  · replace h := h.2 c2
    refine r_iconst d_X7_growth_14 ?_
    refine r_goto (tgt := 19) d_X7_growth_15 (by decide) ?_
    refine r_imul d_X7_growth_19 ?_
    exact r_ireturn d_X7_growth_20 rfl ⟨rfl, Nat.le_refl _, Nat.le_refl _⟩ h
theorem d_X7_deep_0 : decode M_X7_deep.2.1 0 = .ok (.aload_n 0, 1) := by decide +kernel
theorem d_X7_deep_1 : decode M_X7_deep.2.1 1 = .ok (.getfield 9, 3) := by decide +kernel
theorem d_X7_deep_4 : decode M_X7_deep.2.1 4 = .ok (.iconst 4, 1) := by decide +kernel
theorem d_X7_deep_5 : decode M_X7_deep.2.1 5 = .ok (.if_icmp .ne 7, 3) := by decide +kernel
theorem d_X7_deep_8 : decode M_X7_deep.2.1 8 = .ok (.iconst 0, 1) := by decide +kernel
theorem d_X7_deep_9 : decode M_X7_deep.2.1 9 = .ok (.goto 24, 3) := by decide +kernel
theorem d_X7_deep_12 : decode M_X7_deep.2.1 12 = .ok (.aload_n 0, 1) := by decide +kernel
theorem d_X7_deep_13 : decode M_X7_deep.2.1 13 = .ok (.getfield 9, 3) := by decide +kernel
theorem d_X7_deep_16 : decode M_X7_deep.2.1 16 = .ok (.iconst 2, 1) := by decide +kernel
theorem d_X7_deep_17 : decode M_X7_deep.2.1 17 = .ok (.if_icmp .ne 12, 3) := by decide +kernel
theorem d_X7_deep_20 : decode M_X7_deep.2.1 20 = .ok (.aload_n 0, 1) := by decide +kernel
theorem d_X7_deep_21 : decode M_X7_deep.2.1 21 = .ok (.getfield 27, 3) := by decide +kernel
theorem d_X7_deep_24 : decode M_X7_deep.2.1 24 = .ok (.iconst 2, 1) := by decide +kernel
theorem d_X7_deep_25 : decode M_X7_deep.2.1 25 = .ok (.idiv, 1) := by decide +kernel
theorem d_X7_deep_26 : decode M_X7_deep.2.1 26 = .ok (.goto 7, 3) := by decide +kernel
theorem d_X7_deep_29 : decode M_X7_deep.2.1 29 = .ok (.aload_n 0, 1) := by decide +kernel
theorem d_X7_deep_30 : decode M_X7_deep.2.1 30 = .ok (.getfield 27, 3) := by decide +kernel
theorem d_X7_deep_33 : decode M_X7_deep.2.1 33 = .ok (.ireturn, 1) := by decide +kernel
set_option maxRecDepth 20000 in
theorem s_X7_deep_0 {d : Nat} {t : Int} {G : Mem} {Q : Int → Mem → Prop} (bt : Bs 7 t) (h : (InR (G t 0)) ∧ (((G t 0) ≠ 4) → (((G t 0) ≠ 2) → Q (G t 5) G) ∧ (¬ ((G t 0) ≠ 2) → (InR (G t 5)) ∧ (Q (Int.tdiv (G t 5) 2) G))) ∧ (¬ ((G t 0) ≠ 4) → Q 0 G)) : Rn d M_X7_deep zN 0 [(0, (2, t))] [] G Q := by
  refine r_aload_n d_X7_deep_0 0 rfl rfl ?_
  refine r_getI 7 0 0 rfl d_X7_deep_1 fl_X7_9 (by decide) (bs_ob bt) ?_
  refine r_iconst d_X7_deep_4 ?_
  obtain ⟨h1, h⟩ := h
  refine r_icmp_ne (tgt := 12) d_X7_deep_5 (by decide) h1 ⟨by decide, by decide⟩ (fun c2 => ?_) (fun c2 => ?_)
  · replace h := h.1 c2
    refine r_aload_n d_X7_deep_12 0 rfl rfl ?_
    refine r_getI 7 0 0 rfl d_X7_deep_13 fl_X7_9 (by decide) (bs_ob bt) ?_
    refine r_iconst d_X7_deep_16 ?_
    refine r_icmp_ne (tgt := 29) d_X7_deep_17 (by decide) h1 ⟨by decide, by decide⟩ (fun c3 => ?_) (fun c3 => ?_)
    · replace h := h.1 c3
      refine r_aload_n d_X7_deep_29 0 rfl rfl ?_
      refine r_getI 7 5 5 rfl d_X7_deep_30 fl_X7_27 (by decide) (bs_ob bt) ?_
      exact r_ireturn d_X7_deep_33 rfl ⟨rfl, Nat.le_refl _, Nat.le_refl _⟩ h
    · replace h := h.2 c3
      refine r_aload_n d_X7_deep_20 0 rfl rfl ?_
      refine r_getI 7 5 5 rfl d_X7_deep_21 fl_X7_27 (by decide) (bs_ob bt) ?_
      refine r_iconst d_X7_deep_24 ?_
      obtain ⟨h4, h⟩ := h
      refine r_idiv d_X7_deep_25 h4 ⟨by decide, ⟨by decide, by decide⟩⟩ ?_
      refine r_goto (tgt := 33) d_X7_deep_26 (by decide) ?_
      exact r_ireturn d_X7_deep_33 rfl ⟨rfl, Nat.le_refl _, Nat.le_refl _⟩ h
  · replace h := h.2 c2
    refine r_iconst d_X7_deep_8 ?_
    refine r_goto (tgt := 33) d_X7_deep_9 (by decide) ?_
    exact r_ireturn d_X7_deep_33 rfl ⟨rfl, Nat.le_refl _, Nat.le_refl _⟩ h
theorem d_X7_legsLong_0 : decode M_X7_legsLong.2.1 0 = .ok (.aload_n 0, 1) := by decide +kernel
theorem d_X7_legsLong_1 : decode M_X7_legsLong.2.1 1 = .ok (.getfield 9, 3) := by decide +kernel
theorem d_X7_legsLong_4 : decode M_X7_legsLong.2.1 4 = .ok (.iconst 3, 1) := by decide +kernel
theorem d_X7_legsLong_5 : decode M_X7_legsLong.2.1 5 = .ok (.if_icmp .ne 12, 3) := by decide +kernel
theorem d_X7_legsLong_8 : decode M_X7_legsLong.2.1 8 = .ok (.aload_n 0, 1) := by decide +kernel
theorem d_X7_legsLong_9 : decode M_X7_legsLong.2.1 9 = .ok (.getfield 30, 3) := by decide +kernel
theorem d_X7_legsLong_12 : decode M_X7_legsLong.2.1 12 = .ok (.iconst 4, 1) := by decide +kernel
theorem d_X7_legsLong_13 : decode M_X7_legsLong.2.1 13 = .ok (.iadd, 1) := by decide +kernel
theorem d_X7_legsLong_14 : decode M_X7_legsLong.2.1 14 = .ok (.goto 7, 3) := by decide +kernel
theorem d_X7_legsLong_17 : decode M_X7_legsLong.2.1 17 = .ok (.aload_n 0, 1) := by decide +kernel
theorem d_X7_legsLong_18 : decode M_X7_legsLong.2.1 18 = .ok (.getfield 30, 3) := by decide +kernel
theorem d_X7_legsLong_21 : decode M_X7_legsLong.2.1 21 = .ok (.ireturn, 1) := by decide +kernel
set_option maxRecDepth 20000 in
theorem s_X7_legsLong_0 {d : Nat} {t : Int} {G : Mem} {Q : Int → Mem → Prop} (bt : Bs 7 t) (h : (InR (G t 0)) ∧ (((G t 0) ≠ 3) → Q (G t 6) G) ∧ (¬ ((G t 0) ≠ 3) → Q ((G t 6) + 4) G)) : Rn d M_X7_legsLong zN 0 [(0, (2, t))] [] G Q := by
  refine r_aload_n d_X7_legsLong_0 0 rfl rfl ?_
  refine r_getI 7 0 0 rfl d_X7_legsLong_1 fl_X7_9 (by decide) (bs_ob bt) ?_
  refine r_iconst d_X7_legsLong_4 ?_
  obtain ⟨h1, h⟩ := h
  refine r_icmp_ne (tgt := 17) d_X7_legsLong_5 (by decide) h1 ⟨by decide, by decide⟩ (fun c2 => ?_) (fun c2 => ?_)
  · replace h := h.1 c2
    refine r_aload_n d_X7_legsLong_17 0 rfl rfl ?_
    refine r_getI 7 6 6 rfl d_X7_legsLong_18 fl_X7_30 (by decide) (bs_ob bt) ?_
    exact r_ireturn d_X7_legsLong_21 rfl ⟨rfl, Nat.le_refl _, Nat.le_refl _⟩ h
  · replace h := h.2 c2
    refine r_aload_n d_X7_legsLong_8 0 rfl rfl ?_
    refine r_getI 7 6 6 rfl d_X7_legsLong_9 fl_X7_30 (by decide) (bs_ob bt) ?_
    refine r_iconst d_X7_legsLong_12 ?_
    refine r_iadd d_X7_legsLong_13 ?_
    refine r_goto (tgt := 21) d_X7_legsLong_14 (by decide) ?_
    exact r_ireturn d_X7_legsLong_21 rfl ⟨rfl, Nat.le_refl _, Nat.le_refl _⟩ h
theorem d_X3_clear_0 : decode M_X3_clear.2.1 0 = .ok (.aload_n 0, 1) := by decide +kernel
theorem d_X3_clear_1 : decode M_X3_clear.2.1 1 = .ok (.iconst 0, 1) := by decide +kernel
theorem d_X3_clear_2 : decode M_X3_clear.2.1 2 = .ok (.putfield 32, 3) := by decide +kernel
theorem d_X3_clear_5 : decode M_X3_clear.2.1 5 = .ok (.aload_n 0, 1) := by decide +kernel
theorem d_X3_clear_6 : decode M_X3_clear.2.1 6 = .ok (.getfield 17, 3) := by decide +kernel
theorem d_X3_clear_9 : decode M_X3_clear.2.1 9 = .ok (.iconst 0, 1) := by decide +kernel
theorem d_X3_clear_10 : decode M_X3_clear.2.1 10 = .ok (.invokestatic 36, 3) := by decide +kernel
theorem d_X3_clear_13 : decode M_X3_clear.2.1 13 = .ok (.return_, 1) := by decide +kernel
set_option maxRecDepth 20000 in
theorem s_X3_clear_0 {d : Nat} {n : Nat} {Ly : Option Mem} {t : Int} {G : Mem} {Q : Int → Mem → Prop} (bt : Ob n t 3) (h : (∀ G1 : Mem, G1 = st G t 6 0 → (0 ≤ (rl Ly G1 t 1)) ∧ (Ar n (rl Ly G1 t 1) 0 3) ∧ (Ct d M_J7_fill_53178 n 0 0 Ly [(2, (rl Ly G1 t 1)), (0, 0)] G1 (fun r5 G4 => Q 0 G4)))) : Rn (d + 1) M_X3_clear (n, 0, 0, 0, 0, Ly) 0 [(0, (2, t))] [] G Q := by
  refine r_aload_n d_X3_clear_0 0 rfl rfl ?_
  refine r_iconst d_X3_clear_1 ?_
  obtain ⟨G1, eG1⟩ : ∃ y : Mem, y = st G t 6 0 := ⟨_, rfl⟩
  replace h := h G1 eG1
  refine r_putI 3 6 6 rfl d_X3_clear_2 fl_X3_32 (by decide) nofin_3_6 bt ?_
  rw [← eG1]
  refine r_aload_n d_X3_clear_5 0 rfl rfl ?_
  obtain ⟨h2, h⟩ := h
  obtain ⟨a3, h⟩ := h
  refine r_getF 3 1 1 rfl d_X3_clear_6 fl_X3_17 (by decide) bt h2 ?_
  refine r_iconst d_X3_clear_9 ?_
  refine r_callS0 (M' := M_J7_fill_53178) [(2, (rl Ly G1 t 1)), (0, 0)] d_X3_clear_10 cl_X3_36 rfl (Nat.le_of_ble_eq_true rfl) ?_
  refine Ct.mono h (fun r5 G4 h => ?_)
  show Rn _ M_X3_clear (n, 0, 0, 0, 0, Ly) 13 [(0, (2, t))] [] G4 Q
  exact r_ret d_X3_clear_13 rfl ⟨rfl, Nat.le_refl _, Nat.le_refl _⟩ h
theorem d_X3_take_0 : decode M_X3_take.2.1 0 = .ok (.aload_n 0, 1) := by decide +kernel
theorem d_X3_take_1 : decode M_X3_take.2.1 1 = .ok (.aload_n 1, 1) := by decide +kernel
theorem d_X3_take_2 : decode M_X3_take.2.1 2 = .ok (.getfield 32, 3) := by decide +kernel
theorem d_X3_take_5 : decode M_X3_take.2.1 5 = .ok (.putfield 32, 3) := by decide +kernel
theorem d_X3_take_8 : decode M_X3_take.2.1 8 = .ok (.aload_n 1, 1) := by decide +kernel
theorem d_X3_take_9 : decode M_X3_take.2.1 9 = .ok (.getfield 26, 3) := by decide +kernel
theorem d_X3_take_12 : decode M_X3_take.2.1 12 = .ok (.iconst 0, 1) := by decide +kernel
theorem d_X3_take_13 : decode M_X3_take.2.1 13 = .ok (.aload_n 0, 1) := by decide +kernel
theorem d_X3_take_14 : decode M_X3_take.2.1 14 = .ok (.getfield 26, 3) := by decide +kernel
theorem d_X3_take_17 : decode M_X3_take.2.1 17 = .ok (.iconst 0, 1) := by decide +kernel
theorem d_X3_take_18 : decode M_X3_take.2.1 18 = .ok (.aload_n 0, 1) := by decide +kernel
theorem d_X3_take_19 : decode M_X3_take.2.1 19 = .ok (.getfield 32, 3) := by decide +kernel
theorem d_X3_take_22 : decode M_X3_take.2.1 22 = .ok (.invokestatic 42, 3) := by decide +kernel
theorem d_X3_take_25 : decode M_X3_take.2.1 25 = .ok (.aload_n 1, 1) := by decide +kernel
theorem d_X3_take_26 : decode M_X3_take.2.1 26 = .ok (.getfield 17, 3) := by decide +kernel
theorem d_X3_take_29 : decode M_X3_take.2.1 29 = .ok (.iconst 0, 1) := by decide +kernel
theorem d_X3_take_30 : decode M_X3_take.2.1 30 = .ok (.aload_n 0, 1) := by decide +kernel
theorem d_X3_take_31 : decode M_X3_take.2.1 31 = .ok (.getfield 17, 3) := by decide +kernel
theorem d_X3_take_34 : decode M_X3_take.2.1 34 = .ok (.iconst 0, 1) := by decide +kernel
theorem d_X3_take_35 : decode M_X3_take.2.1 35 = .ok (.aload_n 0, 1) := by decide +kernel
theorem d_X3_take_36 : decode M_X3_take.2.1 36 = .ok (.getfield 17, 3) := by decide +kernel
theorem d_X3_take_39 : decode M_X3_take.2.1 39 = .ok (.arraylength, 1) := by decide +kernel
theorem d_X3_take_40 : decode M_X3_take.2.1 40 = .ok (.invokestatic 42, 3) := by decide +kernel
theorem d_X3_take_43 : decode M_X3_take.2.1 43 = .ok (.aload_n 1, 1) := by decide +kernel
theorem d_X3_take_44 : decode M_X3_take.2.1 44 = .ok (.getfield 20, 3) := by decide +kernel
theorem d_X3_take_47 : decode M_X3_take.2.1 47 = .ok (.iconst 0, 1) := by decide +kernel
theorem d_X3_take_48 : decode M_X3_take.2.1 48 = .ok (.aload_n 0, 1) := by decide +kernel
theorem d_X3_take_49 : decode M_X3_take.2.1 49 = .ok (.getfield 20, 3) := by decide +kernel
theorem d_X3_take_52 : decode M_X3_take.2.1 52 = .ok (.iconst 0, 1) := by decide +kernel
theorem d_X3_take_53 : decode M_X3_take.2.1 53 = .ok (.aload_n 0, 1) := by decide +kernel
theorem d_X3_take_54 : decode M_X3_take.2.1 54 = .ok (.getfield 20, 3) := by decide +kernel
theorem d_X3_take_57 : decode M_X3_take.2.1 57 = .ok (.arraylength, 1) := by decide +kernel
theorem d_X3_take_58 : decode M_X3_take.2.1 58 = .ok (.invokestatic 42, 3) := by decide +kernel
theorem d_X3_take_61 : decode M_X3_take.2.1 61 = .ok (.aload_n 1, 1) := by decide +kernel
theorem d_X3_take_62 : decode M_X3_take.2.1 62 = .ok (.getfield 23, 3) := by decide +kernel
theorem d_X3_take_65 : decode M_X3_take.2.1 65 = .ok (.iconst 0, 1) := by decide +kernel
theorem d_X3_take_66 : decode M_X3_take.2.1 66 = .ok (.aload_n 0, 1) := by decide +kernel
theorem d_X3_take_67 : decode M_X3_take.2.1 67 = .ok (.getfield 23, 3) := by decide +kernel
theorem d_X3_take_70 : decode M_X3_take.2.1 70 = .ok (.iconst 0, 1) := by decide +kernel
theorem d_X3_take_71 : decode M_X3_take.2.1 71 = .ok (.aload_n 0, 1) := by decide +kernel
theorem d_X3_take_72 : decode M_X3_take.2.1 72 = .ok (.getfield 23, 3) := by decide +kernel
theorem d_X3_take_75 : decode M_X3_take.2.1 75 = .ok (.arraylength, 1) := by decide +kernel
theorem d_X3_take_76 : decode M_X3_take.2.1 76 = .ok (.invokestatic 42, 3) := by decide +kernel
theorem d_X3_take_79 : decode M_X3_take.2.1 79 = .ok (.return_, 1) := by decide +kernel
set_option maxRecDepth 20000 in
theorem s_X3_take_0 {d : Nat} {t : Int} {p0 : Int} {G : Mem} {Q : Int → Mem → Prop} (bt : Bs 3 t) (bp0 : Bs 3 p0) (h : (∀ G1 : Mem, G1 = st G t 6 (G p0 6) → (CpOk 0 0 (G1 t 6) 1000 1000) ∧ (∀ G3 : Mem, G3 = cpy G1 (p0 + 5) 0 (t + 5) 0 (G1 t 6) → (CpOk 0 0 3 3 3) ∧ (∀ G5 : Mem, G5 = cpy G3 (p0 + 2) 0 (t + 2) 0 3 → (CpOk 0 0 3 3 3) ∧ (∀ G7 : Mem, G7 = cpy G5 (p0 + 3) 0 (t + 3) 0 3 → (CpOk 0 0 3 3 3) ∧ (∀ G9 : Mem, G9 = cpy G7 (p0 + 4) 0 (t + 4) 0 3 → Q 0 G9)))))) : Rn (d + 1) M_X3_take zN 0 [(0, (2, t)), (1, (2, p0))] [] G Q := by
  refine r_aload_n d_X3_take_0 0 rfl rfl ?_
  refine r_aload_n d_X3_take_1 1 rfl rfl ?_
  refine r_getI 3 6 6 rfl d_X3_take_2 fl_X3_32 (by decide) (bs_ob bp0) ?_
  obtain ⟨G1, eG1⟩ : ∃ y : Mem, y = st G t 6 (G p0 6) := ⟨_, rfl⟩
  replace h := h G1 eG1
  refine r_putI 3 6 6 rfl d_X3_take_5 fl_X3_32 (by decide) nofin_3_6 (bs_ob bt) ?_
  rw [← eG1]
  refine r_aload_n d_X3_take_8 1 rfl rfl ?_
  refine r_getL (v := (p0 + 5)) 3 4 4 rfl d_X3_take_9 fl_X3_26 (by decide) (bs_ob bp0) (ly_3_4 bp0).1 (ly_3_4 bp0).2.1 ?_
  refine r_iconst d_X3_take_12 ?_
  refine r_aload_n d_X3_take_13 0 rfl rfl ?_
  refine r_getL (v := (t + 5)) 3 4 4 rfl d_X3_take_14 fl_X3_26 (by decide) (bs_ob bt) (ly_3_4 bt).1 (ly_3_4 bt).2.1 ?_
  refine r_iconst d_X3_take_17 ?_
  refine r_aload_n d_X3_take_18 0 rfl rfl ?_
  refine r_getI 3 6 6 rfl d_X3_take_19 fl_X3_32 (by decide) (bs_ob bt) ?_
  obtain ⟨h2, h⟩ := h
  obtain ⟨G3, eG3⟩ : ∃ y : Mem, y = cpy G1 (p0 + 5) 0 (t + 5) 0 (G1 t 6) := ⟨_, rfl⟩
  replace h := h G3 eG3
  refine r_acopy d_X3_take_22 ac_X3_42 (ly_3_4 bp0).2.2 (ly_3_4 bt).2.2 h2 (Nat.le_of_ble_eq_true rfl) ?_
  rw [← eG3]
  refine r_aload_n d_X3_take_25 1 rfl rfl ?_
  refine r_getL (v := (p0 + 2)) 3 1 1 rfl d_X3_take_26 fl_X3_17 (by decide) (bs_ob bp0) (ly_3_1 bp0).1 (ly_3_1 bp0).2.1 ?_
  refine r_iconst d_X3_take_29 ?_
  refine r_aload_n d_X3_take_30 0 rfl rfl ?_
  refine r_getL (v := (t + 2)) 3 1 1 rfl d_X3_take_31 fl_X3_17 (by decide) (bs_ob bt) (ly_3_1 bt).1 (ly_3_1 bt).2.1 ?_
  refine r_iconst d_X3_take_34 ?_
  refine r_aload_n d_X3_take_35 0 rfl rfl ?_
  refine r_getL (v := (t + 2)) 3 1 1 rfl d_X3_take_36 fl_X3_17 (by decide) (bs_ob bt) (ly_3_1 bt).1 (ly_3_1 bt).2.1 ?_
  refine r_alen 3 rfl d_X3_take_39 (ly_3_1 bt).2.2 ?_
  obtain ⟨h4, h⟩ := h
  obtain ⟨G5, eG5⟩ : ∃ y : Mem, y = cpy G3 (p0 + 2) 0 (t + 2) 0 3 := ⟨_, rfl⟩
  replace h := h G5 eG5
  refine r_acopy d_X3_take_40 ac_X3_42 (ly_3_1 bp0).2.2 (ly_3_1 bt).2.2 h4 (Nat.le_of_ble_eq_true rfl) ?_
  rw [← eG5]
  refine r_aload_n d_X3_take_43 1 rfl rfl ?_
  refine r_getL (v := (p0 + 3)) 3 2 2 rfl d_X3_take_44 fl_X3_20 (by decide) (bs_ob bp0) (ly_3_2 bp0).1 (ly_3_2 bp0).2.1 ?_
  refine r_iconst d_X3_take_47 ?_
  refine r_aload_n d_X3_take_48 0 rfl rfl ?_
  refine r_getL (v := (t + 3)) 3 2 2 rfl d_X3_take_49 fl_X3_20 (by decide) (bs_ob bt) (ly_3_2 bt).1 (ly_3_2 bt).2.1 ?_
  refine r_iconst d_X3_take_52 ?_
  refine r_aload_n d_X3_take_53 0 rfl rfl ?_
  refine r_getL (v := (t + 3)) 3 2 2 rfl d_X3_take_54 fl_X3_20 (by decide) (bs_ob bt) (ly_3_2 bt).1 (ly_3_2 bt).2.1 ?_
  refine r_alen 3 rfl d_X3_take_57 (ly_3_2 bt).2.2 ?_
  obtain ⟨h6, h⟩ := h
  obtain ⟨G7, eG7⟩ : ∃ y : Mem, y = cpy G5 (p0 + 3) 0 (t + 3) 0 3 := ⟨_, rfl⟩
  replace h := h G7 eG7
  refine r_acopy d_X3_take_58 ac_X3_42 (ly_3_2 bp0).2.2 (ly_3_2 bt).2.2 h6 (Nat.le_of_ble_eq_true rfl) ?_
  rw [← eG7]
  refine r_aload_n d_X3_take_61 1 rfl rfl ?_
  refine r_getL (v := (p0 + 4)) 3 3 3 rfl d_X3_take_62 fl_X3_23 (by decide) (bs_ob bp0) (ly_3_3 bp0).1 (ly_3_3 bp0).2.1 ?_
  refine r_iconst d_X3_take_65 ?_
  refine r_aload_n d_X3_take_66 0 rfl rfl ?_
  refine r_getL (v := (t + 4)) 3 3 3 rfl d_X3_take_67 fl_X3_23 (by decide) (bs_ob bt) (ly_3_3 bt).1 (ly_3_3 bt).2.1 ?_
  refine r_iconst d_X3_take_70 ?_
  refine r_aload_n d_X3_take_71 0 rfl rfl ?_
  refine r_getL (v := (t + 4)) 3 3 3 rfl d_X3_take_72 fl_X3_23 (by decide) (bs_ob bt) (ly_3_3 bt).1 (ly_3_3 bt).2.1 ?_
  refine r_alen 3 rfl d_X3_take_75 (ly_3_3 bt).2.2 ?_
  obtain ⟨h8, h⟩ := h
  obtain ⟨G9, eG9⟩ : ∃ y : Mem, y = cpy G7 (p0 + 4) 0 (t + 4) 0 3 := ⟨_, rfl⟩
  replace h := h G9 eG9
  refine r_acopy d_X3_take_76 ac_X3_42 (ly_3_3 bp0).2.2 (ly_3_3 bt).2.2 h8 (Nat.le_of_ble_eq_true rfl) ?_
  rw [← eG9]
  exact r_ret d_X3_take_79 rfl ⟨rfl, Nat.le_refl _, Nat.le_refl _⟩ h
theorem d_X3_begin_0 : decode M_X3_begin.2.1 0 = .ok (.aload_n 0, 1) := by decide +kernel
theorem d_X3_begin_1 : decode M_X3_begin.2.1 1 = .ok (.getfield 20, 3) := by decide +kernel
theorem d_X3_begin_4 : decode M_X3_begin.2.1 4 = .ok (.iload_n 1, 1) := by decide +kernel
theorem d_X3_begin_5 : decode M_X3_begin.2.1 5 = .ok (.aload_n 0, 1) := by decide +kernel
theorem d_X3_begin_6 : decode M_X3_begin.2.1 6 = .ok (.getfield 32, 3) := by decide +kernel
theorem d_X3_begin_9 : decode M_X3_begin.2.1 9 = .ok (.iastore, 1) := by decide +kernel
theorem d_X3_begin_10 : decode M_X3_begin.2.1 10 = .ok (.return_, 1) := by decide +kernel
set_option maxRecDepth 20000 in
theorem s_X3_begin_0 {d : Nat} {t : Int} {p0 : Int} {G : Mem} {Q : Int → Mem → Prop} (bt : Bs 3 t) (h : (0 ≤ p0 ∧ p0 < 3) ∧ (∀ G2 : Mem, G2 = st G (t + 3) p0 (G t 6) → Q 0 G2)) : Rn d M_X3_begin zN 0 [(0, (2, t)), (1, (0, p0))] [] G Q := by
  refine r_aload_n d_X3_begin_0 0 rfl rfl ?_
  refine r_getL (v := (t + 3)) 3 2 2 rfl d_X3_begin_1 fl_X3_20 (by decide) (bs_ob bt) (ly_3_2 bt).1 (ly_3_2 bt).2.1 ?_
  refine r_iload_n d_X3_begin_4 1 rfl rfl ?_
  refine r_aload_n d_X3_begin_5 0 rfl rfl ?_
  refine r_getI 3 6 6 rfl d_X3_begin_6 fl_X3_32 (by decide) (bs_ob bt) ?_
  obtain ⟨h1, h⟩ := h
  obtain ⟨G2, eG2⟩ : ∃ y : Mem, y = st G (t + 3) p0 (G t 6) := ⟨_, rfl⟩
  replace h := h G2 eG2
  refine r_iastore d_X3_begin_9 (ly_3_2 bt).2.2 h1 ?_
  rw [← eG2]
  exact r_ret d_X3_begin_10 rfl ⟨rfl, Nat.le_refl _, Nat.le_refl _⟩ h
theorem d_X3_end_0 : decode M_X3_end.2.1 0 = .ok (.aload_n 0, 1) := by decide +kernel
theorem d_X3_end_1 : decode M_X3_end.2.1 1 = .ok (.getfield 23, 3) := by decide +kernel
theorem d_X3_end_4 : decode M_X3_end.2.1 4 = .ok (.iload_n 1, 1) := by decide +kernel
theorem d_X3_end_5 : decode M_X3_end.2.1 5 = .ok (.aload_n 0, 1) := by decide +kernel
theorem d_X3_end_6 : decode M_X3_end.2.1 6 = .ok (.getfield 32, 3) := by decide +kernel
theorem d_X3_end_9 : decode M_X3_end.2.1 9 = .ok (.iastore, 1) := by decide +kernel
theorem d_X3_end_10 : decode M_X3_end.2.1 10 = .ok (.aload_n 0, 1) := by decide +kernel
theorem d_X3_end_11 : decode M_X3_end.2.1 11 = .ok (.getfield 17, 3) := by decide +kernel
theorem d_X3_end_14 : decode M_X3_end.2.1 14 = .ok (.iload_n 1, 1) := by decide +kernel
theorem d_X3_end_15 : decode M_X3_end.2.1 15 = .ok (.iconst 1, 1) := by decide +kernel
theorem d_X3_end_16 : decode M_X3_end.2.1 16 = .ok (.iastore, 1) := by decide +kernel
theorem d_X3_end_17 : decode M_X3_end.2.1 17 = .ok (.return_, 1) := by decide +kernel
set_option maxRecDepth 20000 in
theorem s_X3_end_0 {d : Nat} {t : Int} {p0 : Int} {G : Mem} {Q : Int → Mem → Prop} (bt : Bs 3 t) (h : (0 ≤ p0 ∧ p0 < 3) ∧ (∀ G2 : Mem, G2 = st G (t + 4) p0 (G t 6) → (∀ G3 : Mem, G3 = st G2 (t + 2) p0 1 → Q 0 G3))) : Rn d M_X3_end zN 0 [(0, (2, t)), (1, (0, p0))] [] G Q := by
  refine r_aload_n d_X3_end_0 0 rfl rfl ?_
  refine r_getL (v := (t + 4)) 3 3 3 rfl d_X3_end_1 fl_X3_23 (by decide) (bs_ob bt) (ly_3_3 bt).1 (ly_3_3 bt).2.1 ?_
  refine r_iload_n d_X3_end_4 1 rfl rfl ?_
  refine r_aload_n d_X3_end_5 0 rfl rfl ?_
  refine r_getI 3 6 6 rfl d_X3_end_6 fl_X3_32 (by decide) (bs_ob bt) ?_
  obtain ⟨h1, h⟩ := h
  obtain ⟨G2, eG2⟩ : ∃ y : Mem, y = st G (t + 4) p0 (G t 6) := ⟨_, rfl⟩
  replace h := h G2 eG2
  refine r_iastore d_X3_end_9 (ly_3_3 bt).2.2 h1 ?_
  rw [← eG2]
  refine r_aload_n d_X3_end_10 0 rfl rfl ?_
  refine r_getL (v := (t + 2)) 3 1 1 rfl d_X3_end_11 fl_X3_17 (by decide) (bs_ob bt) (ly_3_1 bt).1 (ly_3_1 bt).2.1 ?_
  refine r_iload_n d_X3_end_14 1 rfl rfl ?_
  refine r_iconst d_X3_end_15 ?_
  obtain ⟨G3, eG3⟩ : ∃ y : Mem, y = st G2 (t + 2) p0 1 := ⟨_, rfl⟩
  replace h := h G3 eG3
  refine r_iastore d_X3_end_16 (ly_3_1 bt).2.2 h1 ?_
  rw [← eG3]
  exact r_ret d_X3_end_17 rfl ⟨rfl, Nat.le_refl _, Nat.le_refl _⟩ h
theorem d_X3_isTold_0 : decode M_X3_isTold.2.1 0 = .ok (.aload_n 0, 1) := by decide +kernel
theorem d_X3_isTold_1 : decode M_X3_isTold.2.1 1 = .ok (.getfield 17, 3) := by decide +kernel
theorem d_X3_isTold_4 : decode M_X3_isTold.2.1 4 = .ok (.iload_n 1, 1) := by decide +kernel
theorem d_X3_isTold_5 : decode M_X3_isTold.2.1 5 = .ok (.iaload, 1) := by decide +kernel
theorem d_X3_isTold_6 : decode M_X3_isTold.2.1 6 = .ok (.ifCond .eq 7, 3) := by decide +kernel
theorem d_X3_isTold_9 : decode M_X3_isTold.2.1 9 = .ok (.iconst 1, 1) := by decide +kernel
theorem d_X3_isTold_10 : decode M_X3_isTold.2.1 10 = .ok (.goto 4, 3) := by decide +kernel
theorem d_X3_isTold_13 : decode M_X3_isTold.2.1 13 = .ok (.iconst 0, 1) := by decide +kernel
theorem d_X3_isTold_14 : decode M_X3_isTold.2.1 14 = .ok (.ireturn, 1) := by decide +kernel
set_option maxRecDepth 20000 in
theorem s_X3_isTold_0 {d : Nat} {t : Int} {p0 : Int} {G : Mem} {Q : Int → Mem → Prop} (bt : Bs 3 t) (h : (0 ≤ p0 ∧ p0 < 3) ∧ ((InR (G (t + 2) p0)) ∧ (((G (t + 2) p0) = 0) → Q 0 G) ∧ (¬ ((G (t + 2) p0) = 0) → Q 1 G))) : Rn d M_X3_isTold zN 0 [(0, (2, t)), (1, (0, p0))] [] G Q := by
  refine r_aload_n d_X3_isTold_0 0 rfl rfl ?_
  refine r_getL (v := (t + 2)) 3 1 1 rfl d_X3_isTold_1 fl_X3_17 (by decide) (bs_ob bt) (ly_3_1 bt).1 (ly_3_1 bt).2.1 ?_
  refine r_iload_n d_X3_isTold_4 1 rfl rfl ?_
  obtain ⟨h1, h⟩ := h
  refine r_iaload d_X3_isTold_5 (ly_3_1 bt).2.2 h1 ?_
  obtain ⟨h2, h⟩ := h
  refine r_if_eq (tgt := 13) d_X3_isTold_6 (by decide) h2 (fun c3 => ?_) (fun c3 => ?_)
  · replace h := h.1 c3
    refine r_iconst d_X3_isTold_13 ?_
    exact r_zreturn d_X3_isTold_14 rfl ⟨rfl, Nat.le_refl _, Nat.le_refl _⟩ (by decide) h
  · replace h := h.2 c3
    refine r_iconst d_X3_isTold_9 ?_
    refine r_goto (tgt := 14) d_X3_isTold_10 (by decide) ?_
    exact r_zreturn d_X3_isTold_14 rfl ⟨rfl, Nat.le_refl _, Nat.le_refl _⟩ (by decide) h
theorem d_X3_add_0 : decode M_X3_add.2.1 0 = .ok (.aload_n 0, 1) := by decide +kernel
theorem d_X3_add_1 : decode M_X3_add.2.1 1 = .ok (.getfield 32, 3) := by decide +kernel
theorem d_X3_add_4 : decode M_X3_add.2.1 4 = .ok (.aload_n 0, 1) := by decide +kernel
theorem d_X3_add_5 : decode M_X3_add.2.1 5 = .ok (.getfield 26, 3) := by decide +kernel
theorem d_X3_add_8 : decode M_X3_add.2.1 8 = .ok (.arraylength, 1) := by decide +kernel
theorem d_X3_add_9 : decode M_X3_add.2.1 9 = .ok (.if_icmp .ge 23, 3) := by decide +kernel
theorem d_X3_add_12 : decode M_X3_add.2.1 12 = .ok (.aload_n 0, 1) := by decide +kernel
theorem d_X3_add_13 : decode M_X3_add.2.1 13 = .ok (.getfield 26, 3) := by decide +kernel
theorem d_X3_add_16 : decode M_X3_add.2.1 16 = .ok (.aload_n 0, 1) := by decide +kernel
theorem d_X3_add_17 : decode M_X3_add.2.1 17 = .ok (.getfield 32, 3) := by decide +kernel
theorem d_X3_add_20 : decode M_X3_add.2.1 20 = .ok (.iload_n 1, 1) := by decide +kernel
theorem d_X3_add_21 : decode M_X3_add.2.1 21 = .ok (.iastore, 1) := by decide +kernel
theorem d_X3_add_22 : decode M_X3_add.2.1 22 = .ok (.aload_n 0, 1) := by decide +kernel
theorem d_X3_add_23 : decode M_X3_add.2.1 23 = .ok (.dup, 1) := by decide +kernel
theorem d_X3_add_24 : decode M_X3_add.2.1 24 = .ok (.getfield 32, 3) := by decide +kernel
theorem d_X3_add_27 : decode M_X3_add.2.1 27 = .ok (.iconst 1, 1) := by decide +kernel
theorem d_X3_add_28 : decode M_X3_add.2.1 28 = .ok (.iadd, 1) := by decide +kernel
theorem d_X3_add_29 : decode M_X3_add.2.1 29 = .ok (.putfield 32, 3) := by decide +kernel
theorem d_X3_add_32 : decode M_X3_add.2.1 32 = .ok (.return_, 1) := by decide +kernel
set_option maxRecDepth 20000 in
theorem s_X3_add_0 {d : Nat} {t : Int} {p0 : Int} {G : Mem} {Q : Int → Mem → Prop} (bt : Bs 3 t) (h : (InR (G t 6)) ∧ ((1000 ≤ (G t 6)) → Q 0 G) ∧ (¬ (1000 ≤ (G t 6)) → (0 ≤ (G t 6) ∧ (G t 6) < 1000) ∧ (∀ G4 : Mem, G4 = st G (t + 5) (G t 6) p0 → (∀ G5 : Mem, G5 = st G4 t 6 ((G4 t 6) + 1) → Q 0 G5)))) : Rn d M_X3_add zN 0 [(0, (2, t)), (1, (0, p0))] [] G Q := by
  refine r_aload_n d_X3_add_0 0 rfl rfl ?_
  refine r_getI 3 6 6 rfl d_X3_add_1 fl_X3_32 (by decide) (bs_ob bt) ?_
  refine r_aload_n d_X3_add_4 0 rfl rfl ?_
  refine r_getL (v := (t + 5)) 3 4 4 rfl d_X3_add_5 fl_X3_26 (by decide) (bs_ob bt) (ly_3_4 bt).1 (ly_3_4 bt).2.1 ?_
  refine r_alen 1000 rfl d_X3_add_8 (ly_3_4 bt).2.2 ?_
  obtain ⟨h1, h⟩ := h
  refine r_icmp_ge (tgt := 32) d_X3_add_9 (by decide) h1 ⟨by decide, by decide⟩ (fun c2 => ?_) (fun c2 => ?_)
  · replace h := h.1 c2
    exact r_ret d_X3_add_32 rfl ⟨rfl, Nat.le_refl _, Nat.le_refl _⟩ h
  · replace h := h.2 c2
    refine r_aload_n d_X3_add_12 0 rfl rfl ?_
    refine r_getL (v := (t + 5)) 3 4 4 rfl d_X3_add_13 fl_X3_26 (by decide) (bs_ob bt) (ly_3_4 bt).1 (ly_3_4 bt).2.1 ?_
    refine r_aload_n d_X3_add_16 0 rfl rfl ?_
    refine r_getI 3 6 6 rfl d_X3_add_17 fl_X3_32 (by decide) (bs_ob bt) ?_
    refine r_iload_n d_X3_add_20 1 rfl rfl ?_
    obtain ⟨h3, h⟩ := h
    obtain ⟨G4, eG4⟩ : ∃ y : Mem, y = st G (t + 5) (G t 6) p0 := ⟨_, rfl⟩
    replace h := h G4 eG4
    refine r_iastore d_X3_add_21 (ly_3_4 bt).2.2 h3 ?_
    rw [← eG4]
    refine r_aload_n d_X3_add_22 0 rfl rfl ?_
    refine r_dup 2 rfl (by decide) d_X3_add_23 ?_
    refine r_getI 3 6 6 rfl d_X3_add_24 fl_X3_32 (by decide) (bs_ob bt) ?_
    refine r_iconst d_X3_add_27 ?_
    refine r_iadd d_X3_add_28 ?_
    obtain ⟨G5, eG5⟩ : ∃ y : Mem, y = st G4 t 6 ((G4 t 6) + 1) := ⟨_, rfl⟩
    replace h := h G5 eG5
    refine r_putI 3 6 6 rfl d_X3_add_29 fl_X3_32 (by decide) nofin_3_6 (bs_ob bt) ?_
    rw [← eG5]
    exact r_ret d_X3_add_32 rfl ⟨rfl, Nat.le_refl _, Nat.le_refl _⟩ h
theorem d_X3_setFact_0 : decode M_X3_setFact.2.1 0 = .ok (.aload_n 0, 1) := by decide +kernel
theorem d_X3_setFact_1 : decode M_X3_setFact.2.1 1 = .ok (.getfield 11, 3) := by decide +kernel
theorem d_X3_setFact_4 : decode M_X3_setFact.2.1 4 = .ok (.iload_n 1, 1) := by decide +kernel
theorem d_X3_setFact_5 : decode M_X3_setFact.2.1 5 = .ok (.bipush 24, 2) := by decide +kernel
theorem d_X3_setFact_7 : decode M_X3_setFact.2.1 7 = .ok (.isub, 1) := by decide +kernel
theorem d_X3_setFact_8 : decode M_X3_setFact.2.1 8 = .ok (.iload_n 2, 1) := by decide +kernel
theorem d_X3_setFact_9 : decode M_X3_setFact.2.1 9 = .ok (.iastore, 1) := by decide +kernel
theorem d_X3_setFact_10 : decode M_X3_setFact.2.1 10 = .ok (.return_, 1) := by decide +kernel
set_option maxRecDepth 20000 in
theorem s_X3_setFact_0 {d : Nat} {t : Int} {p0 : Int} {p1 : Int} {G : Mem} {Q : Int → Mem → Prop} (bt : Bs 3 t) (h : (0 ≤ (p0 - 24) ∧ (p0 - 24) < 8) ∧ (∀ G2 : Mem, G2 = st G (t + 1) (p0 - 24) (wr p1) → Q 0 G2)) : Rn d M_X3_setFact zN 0 [(0, (2, t)), (1, (0, p0)), (2, (0, p1))] [] G Q := by
  refine r_aload_n d_X3_setFact_0 0 rfl rfl ?_
  refine r_getL (v := (t + 1)) 3 0 0 rfl d_X3_setFact_1 fl_X3_11 (by decide) (bs_ob bt) (ly_3_0 bt).1 (ly_3_0 bt).2.1 ?_
  refine r_iload_n d_X3_setFact_4 1 rfl rfl ?_
  refine r_bipush d_X3_setFact_5 (by decide +kernel) ?_
  refine r_isub d_X3_setFact_7 ?_
  refine r_iload_n d_X3_setFact_8 2 rfl rfl ?_
  obtain ⟨h1, h⟩ := h
  obtain ⟨G2, eG2⟩ : ∃ y : Mem, y = st G (t + 1) (p0 - 24) (wr p1) := ⟨_, rfl⟩
  replace h := h G2 eG2
  refine r_iastoreW d_X3_setFact_9 (ly_3_0 bt).2.2 h1 ?_
  rw [← eG2]
  exact r_ret d_X3_setFact_10 rfl ⟨rfl, Nat.le_refl _, Nat.le_refl _⟩ h
theorem d_X3_result_0 : decode M_X3_result.2.1 0 = .ok (.iconst 0, 1) := by decide +kernel
theorem d_X3_result_1 : decode M_X3_result.2.1 1 = .ok (.istore_n 2, 1) := by decide +kernel
theorem d_X3_result_2 : decode M_X3_result.2.1 2 = .ok (.aload_n 0, 1) := by decide +kernel
theorem d_X3_result_3 : decode M_X3_result.2.1 3 = .ok (.getfield 20, 3) := by decide +kernel
theorem d_X3_result_6 : decode M_X3_result.2.1 6 = .ok (.iload_n 1, 1) := by decide +kernel
theorem d_X3_result_7 : decode M_X3_result.2.1 7 = .ok (.iaload, 1) := by decide +kernel
theorem d_X3_result_8 : decode M_X3_result.2.1 8 = .ok (.istore_n 3, 1) := by decide +kernel
theorem d_X3_result_9 : decode M_X3_result.2.1 9 = .ok (.iload_n 3, 1) := by decide +kernel
theorem d_X3_result_10 : decode M_X3_result.2.1 10 = .ok (.aload_n 0, 1) := by decide +kernel
theorem d_X3_result_11 : decode M_X3_result.2.1 11 = .ok (.getfield 23, 3) := by decide +kernel
theorem d_X3_result_14 : decode M_X3_result.2.1 14 = .ok (.iload_n 1, 1) := by decide +kernel
theorem d_X3_result_15 : decode M_X3_result.2.1 15 = .ok (.iaload, 1) := by decide +kernel
theorem d_X3_result_16 : decode M_X3_result.2.1 16 = .ok (.if_icmp .ge 139, 3) := by decide +kernel
theorem d_X3_result_19 : decode M_X3_result.2.1 19 = .ok (.aload_n 0, 1) := by decide +kernel
theorem d_X3_result_20 : decode M_X3_result.2.1 20 = .ok (.getfield 26, 3) := by decide +kernel
theorem d_X3_result_23 : decode M_X3_result.2.1 23 = .ok (.iload_n 3, 1) := by decide +kernel
theorem d_X3_result_24 : decode M_X3_result.2.1 24 = .ok (.iaload, 1) := by decide +kernel
theorem d_X3_result_25 : decode M_X3_result.2.1 25 = .ok (.istore 4, 2) := by decide +kernel
theorem d_X3_result_27 : decode M_X3_result.2.1 27 = .ok (.iload 4, 2) := by decide +kernel
theorem d_X3_result_29 : decode M_X3_result.2.1 29 = .ok (.ifCond .ge 10, 3) := by decide +kernel
theorem d_X3_result_32 : decode M_X3_result.2.1 32 = .ok (.iload 4, 2) := by decide +kernel
theorem d_X3_result_34 : decode M_X3_result.2.1 34 = .ok (.bipush (-9), 2) := by decide +kernel
theorem d_X3_result_36 : decode M_X3_result.2.1 36 = .ok (.if_icmp .gt 40, 3) := by decide +kernel
theorem d_X3_result_39 : decode M_X3_result.2.1 39 = .ok (.iload_n 2, 1) := by decide +kernel
theorem d_X3_result_40 : decode M_X3_result.2.1 40 = .ok (.aload_n 0, 1) := by decide +kernel
theorem d_X3_result_41 : decode M_X3_result.2.1 41 = .ok (.getfield 29, 3) := by decide +kernel
theorem d_X3_result_44 : decode M_X3_result.2.1 44 = .ok (.arraylength, 1) := by decide +kernel
theorem d_X3_result_45 : decode M_X3_result.2.1 45 = .ok (.if_icmp .ge 104, 3) := by decide +kernel
theorem d_X3_result_48 : decode M_X3_result.2.1 48 = .ok (.aload_n 0, 1) := by decide +kernel
theorem d_X3_result_49 : decode M_X3_result.2.1 49 = .ok (.getfield 29, 3) := by decide +kernel
theorem d_X3_result_52 : decode M_X3_result.2.1 52 = .ok (.iload_n 2, 1) := by decide +kernel
theorem d_X3_result_53 : decode M_X3_result.2.1 53 = .ok (.iload 4, 2) := by decide +kernel
theorem d_X3_result_55 : decode M_X3_result.2.1 55 = .ok (.ifCond .lt 8, 3) := by decide +kernel
theorem d_X3_result_58 : decode M_X3_result.2.1 58 = .ok (.iload 4, 2) := by decide +kernel
theorem d_X3_result_60 : decode M_X3_result.2.1 60 = .ok (.goto 9, 3) := by decide +kernel
theorem d_X3_result_63 : decode M_X3_result.2.1 63 = .ok (.aload_n 0, 1) := by decide +kernel
theorem d_X3_result_64 : decode M_X3_result.2.1 64 = .ok (.iload 4, 2) := by decide +kernel
theorem d_X3_result_66 : decode M_X3_result.2.1 66 = .ok (.invokevirtual 48, 3) := by decide +kernel
theorem d_X3_result_69 : decode M_X3_result.2.1 69 = .ok (.iastore, 1) := by decide +kernel
theorem d_X3_result_70 : decode M_X3_result.2.1 70 = .ok (.iinc 2 1, 3) := by decide +kernel
theorem d_X3_result_73 : decode M_X3_result.2.1 73 = .ok (.goto 76, 3) := by decide +kernel
theorem d_X3_result_76 : decode M_X3_result.2.1 76 = .ok (.iload 4, 2) := by decide +kernel
theorem d_X3_result_78 : decode M_X3_result.2.1 78 = .ok (.iconst (-1), 1) := by decide +kernel
theorem d_X3_result_79 : decode M_X3_result.2.1 79 = .ok (.if_icmp .ne 35, 3) := by decide +kernel
theorem d_X3_result_82 : decode M_X3_result.2.1 82 = .ok (.iload_n 2, 1) := by decide +kernel
theorem d_X3_result_83 : decode M_X3_result.2.1 83 = .ok (.iconst 1, 1) := by decide +kernel
theorem d_X3_result_84 : decode M_X3_result.2.1 84 = .ok (.if_icmp .lt 65, 3) := by decide +kernel
theorem d_X3_result_87 : decode M_X3_result.2.1 87 = .ok (.aload_n 0, 1) := by decide +kernel
theorem d_X3_result_88 : decode M_X3_result.2.1 88 = .ok (.getfield 29, 3) := by decide +kernel
theorem d_X3_result_91 : decode M_X3_result.2.1 91 = .ok (.iload_n 2, 1) := by decide +kernel
theorem d_X3_result_92 : decode M_X3_result.2.1 92 = .ok (.iconst 1, 1) := by decide +kernel
theorem d_X3_result_93 : decode M_X3_result.2.1 93 = .ok (.isub, 1) := by decide +kernel
theorem d_X3_result_94 : decode M_X3_result.2.1 94 = .ok (.aload_n 0, 1) := by decide +kernel
theorem d_X3_result_95 : decode M_X3_result.2.1 95 = .ok (.getfield 29, 3) := by decide +kernel
theorem d_X3_result_98 : decode M_X3_result.2.1 98 = .ok (.iload_n 2, 1) := by decide +kernel
theorem d_X3_result_99 : decode M_X3_result.2.1 99 = .ok (.iconst 1, 1) := by decide +kernel
theorem d_X3_result_100 : decode M_X3_result.2.1 100 = .ok (.isub, 1) := by decide +kernel
theorem d_X3_result_101 : decode M_X3_result.2.1 101 = .ok (.iaload, 1) := by decide +kernel
theorem d_X3_result_102 : decode M_X3_result.2.1 102 = .ok (.ifCond .ne 7, 3) := by decide +kernel
theorem d_X3_result_105 : decode M_X3_result.2.1 105 = .ok (.iconst 1, 1) := by decide +kernel
theorem d_X3_result_106 : decode M_X3_result.2.1 106 = .ok (.goto 4, 3) := by decide +kernel
theorem d_X3_result_109 : decode M_X3_result.2.1 109 = .ok (.iconst 0, 1) := by decide +kernel
theorem d_X3_result_110 : decode M_X3_result.2.1 110 = .ok (.iastore, 1) := by decide +kernel
theorem d_X3_result_111 : decode M_X3_result.2.1 111 = .ok (.goto 38, 3) := by decide +kernel
theorem d_X3_result_114 : decode M_X3_result.2.1 114 = .ok (.iload_n 2, 1) := by decide +kernel
theorem d_X3_result_115 : decode M_X3_result.2.1 115 = .ok (.iconst 2, 1) := by decide +kernel
theorem d_X3_result_116 : decode M_X3_result.2.1 116 = .ok (.if_icmp .lt 33, 3) := by decide +kernel
theorem d_X3_result_119 : decode M_X3_result.2.1 119 = .ok (.iinc 2 (-1), 3) := by decide +kernel
theorem d_X3_result_122 : decode M_X3_result.2.1 122 = .ok (.aload_n 0, 1) := by decide +kernel
theorem d_X3_result_123 : decode M_X3_result.2.1 123 = .ok (.getfield 29, 3) := by decide +kernel
theorem d_X3_result_126 : decode M_X3_result.2.1 126 = .ok (.iload_n 2, 1) := by decide +kernel
theorem d_X3_result_127 : decode M_X3_result.2.1 127 = .ok (.iconst 1, 1) := by decide +kernel
theorem d_X3_result_128 : decode M_X3_result.2.1 128 = .ok (.isub, 1) := by decide +kernel
theorem d_X3_result_129 : decode M_X3_result.2.1 129 = .ok (.iload 4, 2) := by decide +kernel
theorem d_X3_result_131 : decode M_X3_result.2.1 131 = .ok (.aload_n 0, 1) := by decide +kernel
theorem d_X3_result_132 : decode M_X3_result.2.1 132 = .ok (.getfield 29, 3) := by decide +kernel
theorem d_X3_result_135 : decode M_X3_result.2.1 135 = .ok (.iload_n 2, 1) := by decide +kernel
theorem d_X3_result_136 : decode M_X3_result.2.1 136 = .ok (.iconst 1, 1) := by decide +kernel
theorem d_X3_result_137 : decode M_X3_result.2.1 137 = .ok (.isub, 1) := by decide +kernel
theorem d_X3_result_138 : decode M_X3_result.2.1 138 = .ok (.iaload, 1) := by decide +kernel
theorem d_X3_result_139 : decode M_X3_result.2.1 139 = .ok (.aload_n 0, 1) := by decide +kernel
theorem d_X3_result_140 : decode M_X3_result.2.1 140 = .ok (.getfield 29, 3) := by decide +kernel
theorem d_X3_result_143 : decode M_X3_result.2.1 143 = .ok (.iload_n 2, 1) := by decide +kernel
theorem d_X3_result_144 : decode M_X3_result.2.1 144 = .ok (.iaload, 1) := by decide +kernel
theorem d_X3_result_145 : decode M_X3_result.2.1 145 = .ok (.invokestatic 52, 3) := by decide +kernel
theorem d_X3_result_148 : decode M_X3_result.2.1 148 = .ok (.iastore, 1) := by decide +kernel
theorem d_X3_result_149 : decode M_X3_result.2.1 149 = .ok (.iinc 3 1, 3) := by decide +kernel
theorem d_X3_result_152 : decode M_X3_result.2.1 152 = .ok (.goto (-143), 3) := by decide +kernel
theorem d_X3_result_155 : decode M_X3_result.2.1 155 = .ok (.aload_n 0, 1) := by decide +kernel
theorem d_X3_result_156 : decode M_X3_result.2.1 156 = .ok (.getfield 29, 3) := by decide +kernel
theorem d_X3_result_159 : decode M_X3_result.2.1 159 = .ok (.iconst 0, 1) := by decide +kernel
theorem d_X3_result_160 : decode M_X3_result.2.1 160 = .ok (.iaload, 1) := by decide +kernel
theorem d_X3_result_161 : decode M_X3_result.2.1 161 = .ok (.ireturn, 1) := by decide +kernel
set_option maxRecDepth 20000 in
theorem s_X3_result_0 {d : Nat} {t : Int} {p0 : Int} {G : Mem} {Q : Int → Mem → Prop} (bt : Bs 3 t) (h : (0 ≤ p0 ∧ p0 < 3) ∧ (Rn d M_X3_result zN 9 [(0, (2, t)), (1, (0, p0)), (2, (0, 0)), (3, (0, (G (t + 3) p0)))] [] G Q)) : Rn d M_X3_result zN 0 [(0, (2, t)), (1, (0, p0))] [] G Q := by
  refine r_iconst d_X3_result_0 ?_
  refine r_istore_n (ls1 := [(2, (0, 0)), (0, (2, t)), (1, (0, p0))]) d_X3_result_1 rfl (by decide) rfl ?_
  refine r_aload_n d_X3_result_2 1 rfl rfl ?_
  refine r_getL (v := (t + 3)) 3 2 2 rfl d_X3_result_3 fl_X3_20 (by decide) (bs_ob bt) (ly_3_2 bt).1 (ly_3_2 bt).2.1 ?_
  refine r_iload_n d_X3_result_6 2 rfl rfl ?_
  obtain ⟨h1, h⟩ := h
  refine r_iaload d_X3_result_7 (ly_3_2 bt).2.2 h1 ?_
  refine r_istore_n (ls1 := [(3, (0, (G (t + 3) p0))), (2, (0, 0)), (0, (2, t)), (1, (0, p0))]) d_X3_result_8 rfl (by decide) rfl ?_
  exact Rn.sub [2, 3, 1, 0] rfl h
set_option maxRecDepth 20000 in
theorem s_X3_result_9 {d : Nat} {x0 : Int} {x1 : Int} {x2 : Int} {x3 : Int} {G : Mem} {Q : Int → Mem → Prop} (bx0 : Bs 3 x0) (h : (0 ≤ x1 ∧ x1 < 3) ∧ ((InR x3) ∧ (InR (G (x0 + 4) x1)) ∧ (((G (x0 + 4) x1) ≤ x3) → Q (G (x0 + 6) 0) G) ∧ (¬ ((G (x0 + 4) x1) ≤ x3) → (0 ≤ x3 ∧ x3 < 1000) ∧ ((InR (G (x0 + 5) x3)) ∧ ((0 ≤ (G (x0 + 5) x3)) → Rn (d + 1) M_X3_result zN 39 [(0, (2, x0)), (1, (0, x1)), (2, (0, x2)), (3, (0, x3)), (4, (0, (G (x0 + 5) x3)))] [] G Q) ∧ (¬ (0 ≤ (G (x0 + 5) x3)) → (((-9) < (G (x0 + 5) x3)) → (((G (x0 + 5) x3) ≠ (-1)) → (InR x2) ∧ ((x2 < 2) → Rn (d + 1) M_X3_result zN 9 [(0, (2, x0)), (1, (0, x1)), (2, (0, x2)), (3, (0, (x3 + 1)))] [] G Q) ∧ (¬ (x2 < 2) → (0 ≤ ((x2 + (-1)) - 1) ∧ ((x2 + (-1)) - 1) < 40) ∧ ((0 ≤ (x2 + (-1)) ∧ (x2 + (-1)) < 40) ∧ (Ct d M_X3_joined NT 0 0 (some lay) [(0, (G (x0 + 5) x3)), (0, (G (x0 + 6) ((x2 + (-1)) - 1))), (0, (G (x0 + 6) (x2 + (-1))))] G (fun r15 G14 => (∀ G16 : Mem, G16 = st G14 (x0 + 6) ((x2 + (-1)) - 1) (wr r15) → Rn (d + 1) M_X3_result zN 9 [(0, (2, x0)), (1, (0, x1)), (2, (0, (x2 + (-1)))), (3, (0, (x3 + 1)))] [] G16 Q)))))) ∧ (¬ ((G (x0 + 5) x3) ≠ (-1)) → (InR x2) ∧ ((x2 < 1) → Rn (d + 1) M_X3_result zN 9 [(0, (2, x0)), (1, (0, x1)), (2, (0, x2)), (3, (0, (x3 + 1)))] [] G Q) ∧ (¬ (x2 < 1) → (0 ≤ (x2 - 1) ∧ (x2 - 1) < 40) ∧ ((InR (G (x0 + 6) (x2 - 1))) ∧ (((G (x0 + 6) (x2 - 1)) ≠ 0) → (∀ G22 : Mem, G22 = st G (x0 + 6) (x2 - 1) 0 → Rn (d + 1) M_X3_result zN 9 [(0, (2, x0)), (1, (0, x1)), (2, (0, x2)), (3, (0, (x3 + 1)))] [] G22 Q)) ∧ (¬ ((G (x0 + 6) (x2 - 1)) ≠ 0) → (∀ G23 : Mem, G23 = st G (x0 + 6) (x2 - 1) 1 → Rn (d + 1) M_X3_result zN 9 [(0, (2, x0)), (1, (0, x1)), (2, (0, x2)), (3, (0, (x3 + 1)))] [] G23 Q)))))) ∧ (¬ ((-9) < (G (x0 + 5) x3)) → Rn (d + 1) M_X3_result zN 39 [(0, (2, x0)), (1, (0, x1)), (2, (0, x2)), (3, (0, x3)), (4, (0, (G (x0 + 5) x3)))] [] G Q)))))) : Rn (d + 1) M_X3_result zN 9 [(0, (2, x0)), (1, (0, x1)), (2, (0, x2)), (3, (0, x3))] [] G Q := by
  refine r_iload_n d_X3_result_9 3 rfl rfl ?_
  refine r_aload_n d_X3_result_10 0 rfl rfl ?_
  refine r_getL (v := (x0 + 4)) 3 3 3 rfl d_X3_result_11 fl_X3_23 (by decide) (bs_ob bx0) (ly_3_3 bx0).1 (ly_3_3 bx0).2.1 ?_
  refine r_iload_n d_X3_result_14 1 rfl rfl ?_
  obtain ⟨h1, h⟩ := h
  refine r_iaload d_X3_result_15 (ly_3_3 bx0).2.2 h1 ?_
  obtain ⟨h2, h⟩ := h
  obtain ⟨h3, h⟩ := h
  refine r_icmp_ge (tgt := 155) d_X3_result_16 (by decide) h2 h3 (fun c4 => ?_) (fun c4 => ?_)
  · replace h := h.1 c4
    refine r_aload_n d_X3_result_155 0 rfl rfl ?_
    refine r_getL (v := (x0 + 6)) 3 5 5 rfl d_X3_result_156 fl_X3_29 (by decide) (bs_ob bx0) (ly_3_5 bx0).1 (ly_3_5 bx0).2.1 ?_
    refine r_iconst d_X3_result_159 ?_
    refine r_iaload d_X3_result_160 (ly_3_5 bx0).2.2 (by decide) ?_
    exact r_ireturn d_X3_result_161 rfl ⟨rfl, Nat.le_refl _, Nat.le_refl _⟩ h
  · replace h := h.2 c4
    refine r_aload_n d_X3_result_19 0 rfl rfl ?_
    refine r_getL (v := (x0 + 5)) 3 4 4 rfl d_X3_result_20 fl_X3_26 (by decide) (bs_ob bx0) (ly_3_4 bx0).1 (ly_3_4 bx0).2.1 ?_
    refine r_iload_n d_X3_result_23 3 rfl rfl ?_
    obtain ⟨h5, h⟩ := h
    refine r_iaload d_X3_result_24 (ly_3_4 bx0).2.2 h5 ?_
    refine r_istore (ls1 := [(4, (0, (G (x0 + 5) x3))), (0, (2, x0)), (1, (0, x1)), (2, (0, x2)), (3, (0, x3))]) d_X3_result_25 (by decide) rfl ?_
    refine r_iload d_X3_result_27 0 rfl ?_
    obtain ⟨h6, h⟩ := h
    refine r_if_ge (tgt := 39) d_X3_result_29 (by decide) h6 (fun c7 => ?_) (fun c7 => ?_)
    · replace h := h.1 c7
      exact Rn.sub [1, 2, 3, 4, 0] rfl h
    · replace h := h.2 c7
      refine r_iload d_X3_result_32 0 rfl ?_
      refine r_bipush d_X3_result_34 (by decide +kernel) ?_
      refine r_icmp_gt (tgt := 76) d_X3_result_36 (by decide) h6 ⟨by decide, by decide⟩ (fun c8 => ?_) (fun c8 => ?_)
      · replace h := h.1 c8
        refine r_iload d_X3_result_76 0 rfl ?_
        refine r_iconst d_X3_result_78 ?_
        refine r_icmp_ne (tgt := 114) d_X3_result_79 (by decide) h6 ⟨by decide, by decide⟩ (fun c9 => ?_) (fun c9 => ?_)
        · replace h := h.1 c9
          refine r_iload_n d_X3_result_114 3 rfl rfl ?_
          refine r_iconst d_X3_result_115 ?_
          obtain ⟨h10, h⟩ := h
          refine r_icmp_lt (tgt := 149) d_X3_result_116 (by decide) h10 ⟨by decide, by decide⟩ (fun c11 => ?_) (fun c11 => ?_)
          · replace h := h.1 c11
            refine r_iinc (ls1 := [(3, (0, (x3 + 1))), (4, (0, (G (x0 + 5) x3))), (0, (2, x0)), (1, (0, x1)), (2, (0, x2))]) d_X3_result_149 4 rfl (by decide) rfl ?_
            refine r_goto (tgt := 9) d_X3_result_152 (by decide) ?_
            exact Rn.sub [2, 3, 4, 0] rfl h
          · replace h := h.2 c11
            refine r_iinc (ls1 := [(2, (0, (x2 + (-1)))), (4, (0, (G (x0 + 5) x3))), (0, (2, x0)), (1, (0, x1)), (3, (0, x3))]) d_X3_result_119 3 rfl (by decide) rfl ?_
            refine r_aload_n d_X3_result_122 2 rfl rfl ?_
            refine r_getL (v := (x0 + 6)) 3 5 5 rfl d_X3_result_123 fl_X3_29 (by decide) (bs_ob bx0) (ly_3_5 bx0).1 (ly_3_5 bx0).2.1 ?_
            refine r_iload_n d_X3_result_126 0 rfl rfl ?_
            refine r_iconst d_X3_result_127 ?_
            refine r_isub d_X3_result_128 ?_
            refine r_iload d_X3_result_129 1 rfl ?_
            refine r_aload_n d_X3_result_131 2 rfl rfl ?_
            refine r_getL (v := (x0 + 6)) 3 5 5 rfl d_X3_result_132 fl_X3_29 (by decide) (bs_ob bx0) (ly_3_5 bx0).1 (ly_3_5 bx0).2.1 ?_
            refine r_iload_n d_X3_result_135 0 rfl rfl ?_
            refine r_iconst d_X3_result_136 ?_
            refine r_isub d_X3_result_137 ?_
            obtain ⟨h12, h⟩ := h
            refine r_iaload d_X3_result_138 (ly_3_5 bx0).2.2 h12 ?_
            refine r_aload_n d_X3_result_139 2 rfl rfl ?_
            refine r_getL (v := (x0 + 6)) 3 5 5 rfl d_X3_result_140 fl_X3_29 (by decide) (bs_ob bx0) (ly_3_5 bx0).1 (ly_3_5 bx0).2.1 ?_
            refine r_iload_n d_X3_result_143 0 rfl rfl ?_
            obtain ⟨h13, h⟩ := h
            refine r_iaload d_X3_result_144 (ly_3_5 bx0).2.2 h13 ?_
            refine r_callS0 (M' := M_X3_joined) [(0, (G (x0 + 5) x3)), (0, (G (x0 + 6) ((x2 + (-1)) - 1))), (0, (G (x0 + 6) (x2 + (-1))))] d_X3_result_145 cl_X3_52 rfl (Nat.le_of_ble_eq_true rfl) ?_
            refine Ct.mono h (fun r15 G14 h => ?_)
            show Rn _ M_X3_result zN 148 [(2, (0, (x2 + (-1)))), (4, (0, (G (x0 + 5) x3))), (0, (2, x0)), (1, (0, x1)), (3, (0, x3))] [(0, r15), (0, ((x2 + (-1)) - 1)), (2, (x0 + 6))] G14 Q
            obtain ⟨G16, eG16⟩ : ∃ y : Mem, y = st G14 (x0 + 6) ((x2 + (-1)) - 1) (wr r15) := ⟨_, rfl⟩
            replace h := h G16 eG16
            refine r_iastoreW d_X3_result_148 (ly_3_5 bx0).2.2 h12 ?_
            rw [← eG16]
            refine r_iinc (ls1 := [(3, (0, (x3 + 1))), (2, (0, (x2 + (-1)))), (4, (0, (G (x0 + 5) x3))), (0, (2, x0)), (1, (0, x1))]) d_X3_result_149 4 rfl (by decide) rfl ?_
            refine r_goto (tgt := 9) d_X3_result_152 (by decide) ?_
            exact Rn.sub [3, 4, 1, 0] rfl h
        · replace h := h.2 c9
          refine r_iload_n d_X3_result_82 3 rfl rfl ?_
          refine r_iconst d_X3_result_83 ?_
          obtain ⟨h17, h⟩ := h
          refine r_icmp_lt (tgt := 149) d_X3_result_84 (by decide) h17 ⟨by decide, by decide⟩ (fun c18 => ?_) (fun c18 => ?_)
          · replace h := h.1 c18
            refine r_iinc (ls1 := [(3, (0, (x3 + 1))), (4, (0, (G (x0 + 5) x3))), (0, (2, x0)), (1, (0, x1)), (2, (0, x2))]) d_X3_result_149 4 rfl (by decide) rfl ?_
            refine r_goto (tgt := 9) d_X3_result_152 (by decide) ?_
            exact Rn.sub [2, 3, 4, 0] rfl h
          · replace h := h.2 c18
            refine r_aload_n d_X3_result_87 1 rfl rfl ?_
            refine r_getL (v := (x0 + 6)) 3 5 5 rfl d_X3_result_88 fl_X3_29 (by decide) (bs_ob bx0) (ly_3_5 bx0).1 (ly_3_5 bx0).2.1 ?_
            refine r_iload_n d_X3_result_91 3 rfl rfl ?_
            refine r_iconst d_X3_result_92 ?_
            refine r_isub d_X3_result_93 ?_
            refine r_aload_n d_X3_result_94 1 rfl rfl ?_
            refine r_getL (v := (x0 + 6)) 3 5 5 rfl d_X3_result_95 fl_X3_29 (by decide) (bs_ob bx0) (ly_3_5 bx0).1 (ly_3_5 bx0).2.1 ?_
            refine r_iload_n d_X3_result_98 3 rfl rfl ?_
            refine r_iconst d_X3_result_99 ?_
            refine r_isub d_X3_result_100 ?_
            obtain ⟨h19, h⟩ := h
            refine r_iaload d_X3_result_101 (ly_3_5 bx0).2.2 h19 ?_
            obtain ⟨h20, h⟩ := h
            refine r_if_ne (tgt := 109) d_X3_result_102 (by decide) h20 (fun c21 => ?_) (fun c21 => ?_)
            · replace h := h.1 c21
              refine r_iconst d_X3_result_109 ?_
              obtain ⟨G22, eG22⟩ : ∃ y : Mem, y = st G (x0 + 6) (x2 - 1) 0 := ⟨_, rfl⟩
              replace h := h G22 eG22
              refine r_iastore d_X3_result_110 (ly_3_5 bx0).2.2 h19 ?_
              rw [← eG22]
              refine r_goto (tgt := 149) d_X3_result_111 (by decide) ?_
              refine r_iinc (ls1 := [(3, (0, (x3 + 1))), (4, (0, (G (x0 + 5) x3))), (0, (2, x0)), (1, (0, x1)), (2, (0, x2))]) d_X3_result_149 4 rfl (by decide) rfl ?_
              refine r_goto (tgt := 9) d_X3_result_152 (by decide) ?_
              exact Rn.sub [2, 3, 4, 0] rfl h
            · replace h := h.2 c21
              refine r_iconst d_X3_result_105 ?_
              refine r_goto (tgt := 110) d_X3_result_106 (by decide) ?_
              obtain ⟨G23, eG23⟩ : ∃ y : Mem, y = st G (x0 + 6) (x2 - 1) 1 := ⟨_, rfl⟩
              replace h := h G23 eG23
              refine r_iastore d_X3_result_110 (ly_3_5 bx0).2.2 h19 ?_
              rw [← eG23]
              refine r_goto (tgt := 149) d_X3_result_111 (by decide) ?_
              refine r_iinc (ls1 := [(3, (0, (x3 + 1))), (4, (0, (G (x0 + 5) x3))), (0, (2, x0)), (1, (0, x1)), (2, (0, x2))]) d_X3_result_149 4 rfl (by decide) rfl ?_
              refine r_goto (tgt := 9) d_X3_result_152 (by decide) ?_
              exact Rn.sub [2, 3, 4, 0] rfl h
      · replace h := h.2 c8
        exact Rn.sub [1, 2, 3, 4, 0] rfl h
set_option maxRecDepth 20000 in
theorem s_X3_result_39 {d : Nat} {x0 : Int} {x1 : Int} {x2 : Int} {x3 : Int} {x4 : Int} {G : Mem} {Q : Int → Mem → Prop} (bx0 : Bs 3 x0) (h : (InR x2) ∧ ((40 ≤ x2) → Rn (d + 1) M_X3_result zN 9 [(0, (2, x0)), (1, (0, x1)), (2, (0, x2)), (3, (0, (x3 + 1)))] [] G Q) ∧ (¬ (40 ≤ x2) → (InR x4) ∧ ((x4 < 0) → Ct d M_X3_factOf NT 0 0 (some lay) [(2, x0), (0, x4)] G (fun r6 G5 => (0 ≤ x2 ∧ x2 < 40) ∧ (∀ G8 : Mem, G8 = st G5 (x0 + 6) x2 (wr r6) → Rn (d + 1) M_X3_result zN 9 [(0, (2, x0)), (1, (0, x1)), (2, (0, (x2 + 1))), (3, (0, (x3 + 1)))] [] G8 Q))) ∧ (¬ (x4 < 0) → (0 ≤ x2 ∧ x2 < 40) ∧ (∀ G10 : Mem, G10 = st G (x0 + 6) x2 (wr x4) → Rn (d + 1) M_X3_result zN 9 [(0, (2, x0)), (1, (0, x1)), (2, (0, (x2 + 1))), (3, (0, (x3 + 1)))] [] G10 Q)))) : Rn (d + 1) M_X3_result zN 39 [(0, (2, x0)), (1, (0, x1)), (2, (0, x2)), (3, (0, x3)), (4, (0, x4))] [] G Q := by
  refine r_iload_n d_X3_result_39 2 rfl rfl ?_
  refine r_aload_n d_X3_result_40 0 rfl rfl ?_
  refine r_getL (v := (x0 + 6)) 3 5 5 rfl d_X3_result_41 fl_X3_29 (by decide) (bs_ob bx0) (ly_3_5 bx0).1 (ly_3_5 bx0).2.1 ?_
  refine r_alen 40 rfl d_X3_result_44 (ly_3_5 bx0).2.2 ?_
  obtain ⟨h1, h⟩ := h
  refine r_icmp_ge (tgt := 149) d_X3_result_45 (by decide) h1 ⟨by decide, by decide⟩ (fun c2 => ?_) (fun c2 => ?_)
  · replace h := h.1 c2
    refine r_iinc (ls1 := [(3, (0, (x3 + 1))), (0, (2, x0)), (1, (0, x1)), (2, (0, x2)), (4, (0, x4))]) d_X3_result_149 3 rfl (by decide) rfl ?_
    refine r_goto (tgt := 9) d_X3_result_152 (by decide) ?_
    exact Rn.sub [1, 2, 3, 0] rfl h
  · replace h := h.2 c2
    refine r_aload_n d_X3_result_48 0 rfl rfl ?_
    refine r_getL (v := (x0 + 6)) 3 5 5 rfl d_X3_result_49 fl_X3_29 (by decide) (bs_ob bx0) (ly_3_5 bx0).1 (ly_3_5 bx0).2.1 ?_
    refine r_iload_n d_X3_result_52 2 rfl rfl ?_
    refine r_iload d_X3_result_53 4 rfl ?_
    obtain ⟨h3, h⟩ := h
    refine r_if_lt (tgt := 63) d_X3_result_55 (by decide) h3 (fun c4 => ?_) (fun c4 => ?_)
    · replace h := h.1 c4
      refine r_aload_n d_X3_result_63 0 rfl rfl ?_
      refine r_iload d_X3_result_64 4 rfl ?_
      refine r_callV0 (M' := M_X3_factOf) (ci := 3) [(0, x4)] d_X3_result_66 cl_X3_48 rfl (Nat.le_of_ble_eq_true rfl) (by decide) rfl (bs_ob bx0) ?_
      refine Ct.mono h (fun r6 G5 h => ?_)
      show Rn _ M_X3_result zN 69 [(0, (2, x0)), (1, (0, x1)), (2, (0, x2)), (3, (0, x3)), (4, (0, x4))] [(0, r6), (0, x2), (2, (x0 + 6))] G5 Q
      obtain ⟨h7, h⟩ := h
      obtain ⟨G8, eG8⟩ : ∃ y : Mem, y = st G5 (x0 + 6) x2 (wr r6) := ⟨_, rfl⟩
      replace h := h G8 eG8
      refine r_iastoreW d_X3_result_69 (ly_3_5 bx0).2.2 h7 ?_
      rw [← eG8]
      refine r_iinc (ls1 := [(2, (0, (x2 + 1))), (0, (2, x0)), (1, (0, x1)), (3, (0, x3)), (4, (0, x4))]) d_X3_result_70 2 rfl (by decide) rfl ?_
      refine r_goto (tgt := 149) d_X3_result_73 (by decide) ?_
      refine r_iinc (ls1 := [(3, (0, (x3 + 1))), (2, (0, (x2 + 1))), (0, (2, x0)), (1, (0, x1)), (4, (0, x4))]) d_X3_result_149 3 rfl (by decide) rfl ?_
      refine r_goto (tgt := 9) d_X3_result_152 (by decide) ?_
      exact Rn.sub [2, 3, 1, 0] rfl h
    · replace h := h.2 c4
      refine r_iload d_X3_result_58 4 rfl ?_
      refine r_goto (tgt := 69) d_X3_result_60 (by decide) ?_
      obtain ⟨h9, h⟩ := h
      obtain ⟨G10, eG10⟩ : ∃ y : Mem, y = st G (x0 + 6) x2 (wr x4) := ⟨_, rfl⟩
      replace h := h G10 eG10
      refine r_iastoreW d_X3_result_69 (ly_3_5 bx0).2.2 h9 ?_
      rw [← eG10]
      refine r_iinc (ls1 := [(2, (0, (x2 + 1))), (0, (2, x0)), (1, (0, x1)), (3, (0, x3)), (4, (0, x4))]) d_X3_result_70 2 rfl (by decide) rfl ?_
      refine r_goto (tgt := 149) d_X3_result_73 (by decide) ?_
      refine r_iinc (ls1 := [(3, (0, (x3 + 1))), (2, (0, (x2 + 1))), (0, (2, x0)), (1, (0, x1)), (4, (0, x4))]) d_X3_result_149 3 rfl (by decide) rfl ?_
      refine r_goto (tgt := 9) d_X3_result_152 (by decide) ?_
      exact Rn.sub [2, 3, 1, 0] rfl h
theorem d_X3_factOf_0 : decode M_X3_factOf.2.1 0 = .ok (.bipush (-9), 2) := by decide +kernel
theorem d_X3_factOf_2 : decode M_X3_factOf.2.1 2 = .ok (.iload_n 1, 1) := by decide +kernel
theorem d_X3_factOf_3 : decode M_X3_factOf.2.1 3 = .ok (.isub, 1) := by decide +kernel
theorem d_X3_factOf_4 : decode M_X3_factOf.2.1 4 = .ok (.istore_n 2, 1) := by decide +kernel
theorem d_X3_factOf_5 : decode M_X3_factOf.2.1 5 = .ok (.iload_n 2, 1) := by decide +kernel
theorem d_X3_factOf_6 : decode M_X3_factOf.2.1 6 = .ok (.ifCond .lt 21, 3) := by decide +kernel
theorem d_X3_factOf_9 : decode M_X3_factOf.2.1 9 = .ok (.iload_n 2, 1) := by decide +kernel
theorem d_X3_factOf_10 : decode M_X3_factOf.2.1 10 = .ok (.aload_n 0, 1) := by decide +kernel
theorem d_X3_factOf_11 : decode M_X3_factOf.2.1 11 = .ok (.getfield 11, 3) := by decide +kernel
theorem d_X3_factOf_14 : decode M_X3_factOf.2.1 14 = .ok (.arraylength, 1) := by decide +kernel
theorem d_X3_factOf_15 : decode M_X3_factOf.2.1 15 = .ok (.if_icmp .ge 12, 3) := by decide +kernel
theorem d_X3_factOf_18 : decode M_X3_factOf.2.1 18 = .ok (.aload_n 0, 1) := by decide +kernel
theorem d_X3_factOf_19 : decode M_X3_factOf.2.1 19 = .ok (.getfield 11, 3) := by decide +kernel
theorem d_X3_factOf_22 : decode M_X3_factOf.2.1 22 = .ok (.iload_n 2, 1) := by decide +kernel
theorem d_X3_factOf_23 : decode M_X3_factOf.2.1 23 = .ok (.iaload, 1) := by decide +kernel
theorem d_X3_factOf_24 : decode M_X3_factOf.2.1 24 = .ok (.goto 4, 3) := by decide +kernel
theorem d_X3_factOf_27 : decode M_X3_factOf.2.1 27 = .ok (.iconst 0, 1) := by decide +kernel
theorem d_X3_factOf_28 : decode M_X3_factOf.2.1 28 = .ok (.ireturn, 1) := by decide +kernel
set_option maxRecDepth 20000 in
theorem s_X3_factOf_0 {d : Nat} {t : Int} {p0 : Int} {G : Mem} {Q : Int → Mem → Prop} (bt : Bs 3 t) (h : (InR ((-9) - p0)) ∧ ((((-9) - p0) < 0) → Q 0 G) ∧ (¬ (((-9) - p0) < 0) → ((8 ≤ ((-9) - p0)) → Q 0 G) ∧ (¬ (8 ≤ ((-9) - p0)) → (0 ≤ ((-9) - p0) ∧ ((-9) - p0) < 8) ∧ (Q (G (t + 1) ((-9) - p0)) G)))) : Rn d M_X3_factOf zN 0 [(0, (2, t)), (1, (0, p0))] [] G Q := by
  refine r_bipush d_X3_factOf_0 (by decide +kernel) ?_
  refine r_iload_n d_X3_factOf_2 1 rfl rfl ?_
  refine r_isub d_X3_factOf_3 ?_
  refine r_istore_n (ls1 := [(2, (0, ((-9) - p0))), (0, (2, t)), (1, (0, p0))]) d_X3_factOf_4 rfl (by decide) rfl ?_
  refine r_iload_n d_X3_factOf_5 0 rfl rfl ?_
  obtain ⟨h1, h⟩ := h
  refine r_if_lt (tgt := 27) d_X3_factOf_6 (by decide) h1 (fun c2 => ?_) (fun c2 => ?_)
  · replace h := h.1 c2
    refine r_iconst d_X3_factOf_27 ?_
    exact r_ireturn d_X3_factOf_28 rfl ⟨rfl, Nat.le_refl _, Nat.le_refl _⟩ h
  · replace h := h.2 c2
    refine r_iload_n d_X3_factOf_9 0 rfl rfl ?_
    refine r_aload_n d_X3_factOf_10 1 rfl rfl ?_
    refine r_getL (v := (t + 1)) 3 0 0 rfl d_X3_factOf_11 fl_X3_11 (by decide) (bs_ob bt) (ly_3_0 bt).1 (ly_3_0 bt).2.1 ?_
    refine r_alen 8 rfl d_X3_factOf_14 (ly_3_0 bt).2.2 ?_
    refine r_icmp_ge (tgt := 27) d_X3_factOf_15 (by decide) h1 ⟨by decide, by decide⟩ (fun c3 => ?_) (fun c3 => ?_)
    · replace h := h.1 c3
      refine r_iconst d_X3_factOf_27 ?_
      exact r_ireturn d_X3_factOf_28 rfl ⟨rfl, Nat.le_refl _, Nat.le_refl _⟩ h
    · replace h := h.2 c3
      refine r_aload_n d_X3_factOf_18 1 rfl rfl ?_
      refine r_getL (v := (t + 1)) 3 0 0 rfl d_X3_factOf_19 fl_X3_11 (by decide) (bs_ob bt) (ly_3_0 bt).1 (ly_3_0 bt).2.1 ?_
      refine r_iload_n d_X3_factOf_22 0 rfl rfl ?_
      obtain ⟨h4, h⟩ := h
      refine r_iaload d_X3_factOf_23 (ly_3_0 bt).2.2 h4 ?_
      refine r_goto (tgt := 28) d_X3_factOf_24 (by decide) ?_
      exact r_ireturn d_X3_factOf_28 rfl ⟨rfl, Nat.le_refl _, Nat.le_refl _⟩ h
theorem d_X3_joined_0 : decode M_X3_joined.2.1 0 = .ok (.iload_n 0, 1) := by decide +kernel
theorem d_X3_joined_1 : decode M_X3_joined.2.1 1 = .ok (.tableswitch 97 (-7) (-2) #[93, 89, 78, 67, 53, 39], 39) := by decide +kernel
theorem d_X3_joined_40 : decode M_X3_joined.2.1 40 = .ok (.iload_n 1, 1) := by decide +kernel
theorem d_X3_joined_41 : decode M_X3_joined.2.1 41 = .ok (.ifCond .eq 11, 3) := by decide +kernel
theorem d_X3_joined_44 : decode M_X3_joined.2.1 44 = .ok (.iload_n 2, 1) := by decide +kernel
theorem d_X3_joined_45 : decode M_X3_joined.2.1 45 = .ok (.ifCond .eq 7, 3) := by decide +kernel
theorem d_X3_joined_48 : decode M_X3_joined.2.1 48 = .ok (.iconst 1, 1) := by decide +kernel
theorem d_X3_joined_49 : decode M_X3_joined.2.1 49 = .ok (.goto 4, 3) := by decide +kernel
theorem d_X3_joined_52 : decode M_X3_joined.2.1 52 = .ok (.iconst 0, 1) := by decide +kernel
theorem d_X3_joined_53 : decode M_X3_joined.2.1 53 = .ok (.ireturn, 1) := by decide +kernel
theorem d_X3_joined_54 : decode M_X3_joined.2.1 54 = .ok (.iload_n 1, 1) := by decide +kernel
theorem d_X3_joined_55 : decode M_X3_joined.2.1 55 = .ok (.ifCond .ne 7, 3) := by decide +kernel
theorem d_X3_joined_58 : decode M_X3_joined.2.1 58 = .ok (.iload_n 2, 1) := by decide +kernel
theorem d_X3_joined_59 : decode M_X3_joined.2.1 59 = .ok (.ifCond .eq 7, 3) := by decide +kernel
theorem d_X3_joined_62 : decode M_X3_joined.2.1 62 = .ok (.iconst 1, 1) := by decide +kernel
theorem d_X3_joined_63 : decode M_X3_joined.2.1 63 = .ok (.goto 4, 3) := by decide +kernel
theorem d_X3_joined_66 : decode M_X3_joined.2.1 66 = .ok (.iconst 0, 1) := by decide +kernel
theorem d_X3_joined_67 : decode M_X3_joined.2.1 67 = .ok (.ireturn, 1) := by decide +kernel
theorem d_X3_joined_68 : decode M_X3_joined.2.1 68 = .ok (.iload_n 1, 1) := by decide +kernel
theorem d_X3_joined_69 : decode M_X3_joined.2.1 69 = .ok (.iload_n 2, 1) := by decide +kernel
theorem d_X3_joined_70 : decode M_X3_joined.2.1 70 = .ok (.if_icmp .ge 7, 3) := by decide +kernel
theorem d_X3_joined_73 : decode M_X3_joined.2.1 73 = .ok (.iconst 1, 1) := by decide +kernel
theorem d_X3_joined_74 : decode M_X3_joined.2.1 74 = .ok (.goto 4, 3) := by decide +kernel
theorem d_X3_joined_77 : decode M_X3_joined.2.1 77 = .ok (.iconst 0, 1) := by decide +kernel
theorem d_X3_joined_78 : decode M_X3_joined.2.1 78 = .ok (.ireturn, 1) := by decide +kernel
theorem d_X3_joined_79 : decode M_X3_joined.2.1 79 = .ok (.iload_n 1, 1) := by decide +kernel
theorem d_X3_joined_80 : decode M_X3_joined.2.1 80 = .ok (.iload_n 2, 1) := by decide +kernel
theorem d_X3_joined_81 : decode M_X3_joined.2.1 81 = .ok (.if_icmp .ne 7, 3) := by decide +kernel
theorem d_X3_joined_84 : decode M_X3_joined.2.1 84 = .ok (.iconst 1, 1) := by decide +kernel
theorem d_X3_joined_85 : decode M_X3_joined.2.1 85 = .ok (.goto 4, 3) := by decide +kernel
theorem d_X3_joined_88 : decode M_X3_joined.2.1 88 = .ok (.iconst 0, 1) := by decide +kernel
theorem d_X3_joined_89 : decode M_X3_joined.2.1 89 = .ok (.ireturn, 1) := by decide +kernel
theorem d_X3_joined_90 : decode M_X3_joined.2.1 90 = .ok (.iload_n 1, 1) := by decide +kernel
theorem d_X3_joined_91 : decode M_X3_joined.2.1 91 = .ok (.iload_n 2, 1) := by decide +kernel
theorem d_X3_joined_92 : decode M_X3_joined.2.1 92 = .ok (.iadd, 1) := by decide +kernel
theorem d_X3_joined_93 : decode M_X3_joined.2.1 93 = .ok (.ireturn, 1) := by decide +kernel
theorem d_X3_joined_94 : decode M_X3_joined.2.1 94 = .ok (.iload_n 1, 1) := by decide +kernel
theorem d_X3_joined_95 : decode M_X3_joined.2.1 95 = .ok (.iload_n 2, 1) := by decide +kernel
theorem d_X3_joined_96 : decode M_X3_joined.2.1 96 = .ok (.isub, 1) := by decide +kernel
theorem d_X3_joined_97 : decode M_X3_joined.2.1 97 = .ok (.ireturn, 1) := by decide +kernel
theorem d_X3_joined_98 : decode M_X3_joined.2.1 98 = .ok (.iload_n 1, 1) := by decide +kernel
theorem d_X3_joined_99 : decode M_X3_joined.2.1 99 = .ok (.iload_n 2, 1) := by decide +kernel
theorem d_X3_joined_100 : decode M_X3_joined.2.1 100 = .ok (.imul, 1) := by decide +kernel
theorem d_X3_joined_101 : decode M_X3_joined.2.1 101 = .ok (.ireturn, 1) := by decide +kernel
set_option maxRecDepth 20000 in
theorem s_X3_joined_0 {d : Nat} {p0 : Int} {p1 : Int} {p2 : Int} {G : Mem} {Q : Int → Mem → Prop}  (h : (InR p0) ∧ ((p0 < -7 ∨ -2 < p0) → Q (p1 * p2) G) ∧ ((p0 = -7) → Q (p1 - p2) G) ∧ ((p0 = -6) → Q (p1 + p2) G) ∧ ((p0 = -5) → (InR p1) ∧ (InR p2) ∧ ((p1 ≠ p2) → Q 0 G) ∧ (¬ (p1 ≠ p2) → Q 1 G)) ∧ ((p0 = -4) → (InR p1) ∧ (InR p2) ∧ ((p2 ≤ p1) → Q 0 G) ∧ (¬ (p2 ≤ p1) → Q 1 G)) ∧ ((p0 = -3) → (InR p1) ∧ ((p1 ≠ 0) → Q 1 G) ∧ (¬ (p1 ≠ 0) → (InR p2) ∧ ((p2 = 0) → Q 0 G) ∧ (¬ (p2 = 0) → Q 1 G))) ∧ ((p0 = -2) → (InR p1) ∧ ((p1 = 0) → Q 0 G) ∧ (¬ (p1 = 0) → (InR p2) ∧ ((p2 = 0) → Q 0 G) ∧ (¬ (p2 = 0) → Q 1 G)))) : Rn d M_X3_joined zN 0 [(0, (0, p0)), (1, (0, p1)), (2, (0, p2))] [] G Q := by
  refine r_iload_n d_X3_joined_0 0 rfl rfl ?_
  obtain ⟨h1, h⟩ := h
  by_cases c2 : p0 < -7 ∨ -2 < p0
  · replace h := h.1 c2
    refine r_tsOut (tgt := 98) d_X3_joined_1 h1 c2 (by decide) ?_
    refine r_iload_n d_X3_joined_98 1 rfl rfl ?_
    refine r_iload_n d_X3_joined_99 2 rfl rfl ?_
    refine r_imul d_X3_joined_100 ?_
    exact r_ireturn d_X3_joined_101 rfl ⟨rfl, Nat.le_refl _, Nat.le_refl _⟩ h
  replace h := h.2
  have c22 : p0 = -7 ∨ p0 = -6 ∨ p0 = -5 ∨ p0 = -4 ∨ p0 = -3 ∨ p0 = -2 := by omega
  rcases c22 with c3 | c3 | c3 | c3 | c3 | c3
  · replace h := h.1 c3
    refine r_tsIn (tgt := 94) (off := 93) (j := -7) d_X3_joined_1 c3 ⟨by decide, by decide⟩ (by decide) rfl (by decide) ?_
    refine r_iload_n d_X3_joined_94 1 rfl rfl ?_
    refine r_iload_n d_X3_joined_95 2 rfl rfl ?_
    refine r_isub d_X3_joined_96 ?_
    exact r_ireturn d_X3_joined_97 rfl ⟨rfl, Nat.le_refl _, Nat.le_refl _⟩ h
  · replace h := h.2.1 c3
    refine r_tsIn (tgt := 90) (off := 89) (j := -6) d_X3_joined_1 c3 ⟨by decide, by decide⟩ (by decide) rfl (by decide) ?_
    refine r_iload_n d_X3_joined_90 1 rfl rfl ?_
    refine r_iload_n d_X3_joined_91 2 rfl rfl ?_
    refine r_iadd d_X3_joined_92 ?_
    exact r_ireturn d_X3_joined_93 rfl ⟨rfl, Nat.le_refl _, Nat.le_refl _⟩ h
  · replace h := h.2.2.1 c3
    refine r_tsIn (tgt := 79) (off := 78) (j := -5) d_X3_joined_1 c3 ⟨by decide, by decide⟩ (by decide) rfl (by decide) ?_
    refine r_iload_n d_X3_joined_79 1 rfl rfl ?_
    refine r_iload_n d_X3_joined_80 2 rfl rfl ?_
    obtain ⟨h4, h⟩ := h
    obtain ⟨h5, h⟩ := h
    refine r_icmp_ne (tgt := 88) d_X3_joined_81 (by decide) h4 h5 (fun c6 => ?_) (fun c6 => ?_)
    · replace h := h.1 c6
      refine r_iconst d_X3_joined_88 ?_
      exact r_ireturn d_X3_joined_89 rfl ⟨rfl, Nat.le_refl _, Nat.le_refl _⟩ h
    · replace h := h.2 c6
      refine r_iconst d_X3_joined_84 ?_
      refine r_goto (tgt := 89) d_X3_joined_85 (by decide) ?_
      exact r_ireturn d_X3_joined_89 rfl ⟨rfl, Nat.le_refl _, Nat.le_refl _⟩ h
  · replace h := h.2.2.2.1 c3
    refine r_tsIn (tgt := 68) (off := 67) (j := -4) d_X3_joined_1 c3 ⟨by decide, by decide⟩ (by decide) rfl (by decide) ?_
    refine r_iload_n d_X3_joined_68 1 rfl rfl ?_
    refine r_iload_n d_X3_joined_69 2 rfl rfl ?_
    obtain ⟨h7, h⟩ := h
    obtain ⟨h8, h⟩ := h
    refine r_icmp_ge (tgt := 77) d_X3_joined_70 (by decide) h7 h8 (fun c9 => ?_) (fun c9 => ?_)
    · replace h := h.1 c9
      refine r_iconst d_X3_joined_77 ?_
      exact r_ireturn d_X3_joined_78 rfl ⟨rfl, Nat.le_refl _, Nat.le_refl _⟩ h
    · replace h := h.2 c9
      refine r_iconst d_X3_joined_73 ?_
      refine r_goto (tgt := 78) d_X3_joined_74 (by decide) ?_
      exact r_ireturn d_X3_joined_78 rfl ⟨rfl, Nat.le_refl _, Nat.le_refl _⟩ h
  · replace h := h.2.2.2.2.1 c3
    refine r_tsIn (tgt := 54) (off := 53) (j := -3) d_X3_joined_1 c3 ⟨by decide, by decide⟩ (by decide) rfl (by decide) ?_
    refine r_iload_n d_X3_joined_54 1 rfl rfl ?_
    obtain ⟨h10, h⟩ := h
    refine r_if_ne (tgt := 62) d_X3_joined_55 (by decide) h10 (fun c11 => ?_) (fun c11 => ?_)
    · replace h := h.1 c11
      refine r_iconst d_X3_joined_62 ?_
      refine r_goto (tgt := 67) d_X3_joined_63 (by decide) ?_
      exact r_ireturn d_X3_joined_67 rfl ⟨rfl, Nat.le_refl _, Nat.le_refl _⟩ h
    · replace h := h.2 c11
      refine r_iload_n d_X3_joined_58 2 rfl rfl ?_
      obtain ⟨h12, h⟩ := h
      refine r_if_eq (tgt := 66) d_X3_joined_59 (by decide) h12 (fun c13 => ?_) (fun c13 => ?_)
      · replace h := h.1 c13
        refine r_iconst d_X3_joined_66 ?_
        exact r_ireturn d_X3_joined_67 rfl ⟨rfl, Nat.le_refl _, Nat.le_refl _⟩ h
      · replace h := h.2 c13
        refine r_iconst d_X3_joined_62 ?_
        refine r_goto (tgt := 67) d_X3_joined_63 (by decide) ?_
        exact r_ireturn d_X3_joined_67 rfl ⟨rfl, Nat.le_refl _, Nat.le_refl _⟩ h
  · replace h := h.2.2.2.2.2 c3
    refine r_tsIn (tgt := 40) (off := 39) (j := -2) d_X3_joined_1 c3 ⟨by decide, by decide⟩ (by decide) rfl (by decide) ?_
    refine r_iload_n d_X3_joined_40 1 rfl rfl ?_
    obtain ⟨h14, h⟩ := h
    refine r_if_eq (tgt := 52) d_X3_joined_41 (by decide) h14 (fun c15 => ?_) (fun c15 => ?_)
    · replace h := h.1 c15
      refine r_iconst d_X3_joined_52 ?_
      exact r_ireturn d_X3_joined_53 rfl ⟨rfl, Nat.le_refl _, Nat.le_refl _⟩ h
    · replace h := h.2 c15
      refine r_iload_n d_X3_joined_44 2 rfl rfl ?_
      obtain ⟨h16, h⟩ := h
      refine r_if_eq (tgt := 52) d_X3_joined_45 (by decide) h16 (fun c17 => ?_) (fun c17 => ?_)
      · replace h := h.1 c17
        refine r_iconst d_X3_joined_52 ?_
        exact r_ireturn d_X3_joined_53 rfl ⟨rfl, Nat.le_refl _, Nat.le_refl _⟩ h
      · replace h := h.2 c17
        refine r_iconst d_X3_joined_48 ?_
        refine r_goto (tgt := 53) d_X3_joined_49 (by decide) ?_
        exact r_ireturn d_X3_joined_53 rfl ⟨rfl, Nat.le_refl _, Nat.le_refl _⟩ h
theorem d_X8_begin_0 : decode M_X8_begin.2.1 0 = .ok (.aload_n 0, 1) := by decide +kernel
theorem d_X8_begin_1 : decode M_X8_begin.2.1 1 = .ok (.iconst 0, 1) := by decide +kernel
theorem d_X8_begin_2 : decode M_X8_begin.2.1 2 = .ok (.putfield 33, 3) := by decide +kernel
theorem d_X8_begin_5 : decode M_X8_begin.2.1 5 = .ok (.aload_n 0, 1) := by decide +kernel
theorem d_X8_begin_6 : decode M_X8_begin.2.1 6 = .ok (.iconst 0, 1) := by decide +kernel
theorem d_X8_begin_7 : decode M_X8_begin.2.1 7 = .ok (.putfield 37, 3) := by decide +kernel
theorem d_X8_begin_10 : decode M_X8_begin.2.1 10 = .ok (.aload_n 0, 1) := by decide +kernel
theorem d_X8_begin_11 : decode M_X8_begin.2.1 11 = .ok (.iconst 0, 1) := by decide +kernel
theorem d_X8_begin_12 : decode M_X8_begin.2.1 12 = .ok (.putfield 40, 3) := by decide +kernel
theorem d_X8_begin_15 : decode M_X8_begin.2.1 15 = .ok (.aload_n 0, 1) := by decide +kernel
theorem d_X8_begin_16 : decode M_X8_begin.2.1 16 = .ok (.iconst 0, 1) := by decide +kernel
theorem d_X8_begin_17 : decode M_X8_begin.2.1 17 = .ok (.putfield 43, 3) := by decide +kernel
theorem d_X8_begin_20 : decode M_X8_begin.2.1 20 = .ok (.aload_n 0, 1) := by decide +kernel
theorem d_X8_begin_21 : decode M_X8_begin.2.1 21 = .ok (.iconst 0, 1) := by decide +kernel
theorem d_X8_begin_22 : decode M_X8_begin.2.1 22 = .ok (.putfield 46, 3) := by decide +kernel
theorem d_X8_begin_25 : decode M_X8_begin.2.1 25 = .ok (.aload_n 0, 1) := by decide +kernel
theorem d_X8_begin_26 : decode M_X8_begin.2.1 26 = .ok (.getfield 9, 3) := by decide +kernel
theorem d_X8_begin_29 : decode M_X8_begin.2.1 29 = .ok (.iconst 0, 1) := by decide +kernel
theorem d_X8_begin_30 : decode M_X8_begin.2.1 30 = .ok (.invokestatic 49, 3) := by decide +kernel
theorem d_X8_begin_33 : decode M_X8_begin.2.1 33 = .ok (.aload_n 0, 1) := by decide +kernel
theorem d_X8_begin_34 : decode M_X8_begin.2.1 34 = .ok (.getfield 15, 3) := by decide +kernel
theorem d_X8_begin_37 : decode M_X8_begin.2.1 37 = .ok (.iconst 0, 1) := by decide +kernel
theorem d_X8_begin_38 : decode M_X8_begin.2.1 38 = .ok (.invokestatic 49, 3) := by decide +kernel
theorem d_X8_begin_41 : decode M_X8_begin.2.1 41 = .ok (.aload_n 0, 1) := by decide +kernel
theorem d_X8_begin_42 : decode M_X8_begin.2.1 42 = .ok (.getfield 18, 3) := by decide +kernel
theorem d_X8_begin_45 : decode M_X8_begin.2.1 45 = .ok (.bipush (-100), 2) := by decide +kernel
theorem d_X8_begin_47 : decode M_X8_begin.2.1 47 = .ok (.invokestatic 49, 3) := by decide +kernel
theorem d_X8_begin_50 : decode M_X8_begin.2.1 50 = .ok (.aload_n 0, 1) := by decide +kernel
theorem d_X8_begin_51 : decode M_X8_begin.2.1 51 = .ok (.getfield 21, 3) := by decide +kernel
theorem d_X8_begin_54 : decode M_X8_begin.2.1 54 = .ok (.iconst 0, 1) := by decide +kernel
theorem d_X8_begin_55 : decode M_X8_begin.2.1 55 = .ok (.invokestatic 49, 3) := by decide +kernel
theorem d_X8_begin_58 : decode M_X8_begin.2.1 58 = .ok (.aload_n 0, 1) := by decide +kernel
theorem d_X8_begin_59 : decode M_X8_begin.2.1 59 = .ok (.getfield 24, 3) := by decide +kernel
theorem d_X8_begin_62 : decode M_X8_begin.2.1 62 = .ok (.iconst 0, 1) := by decide +kernel
theorem d_X8_begin_63 : decode M_X8_begin.2.1 63 = .ok (.invokestatic 49, 3) := by decide +kernel
theorem d_X8_begin_66 : decode M_X8_begin.2.1 66 = .ok (.aload_n 0, 1) := by decide +kernel
theorem d_X8_begin_67 : decode M_X8_begin.2.1 67 = .ok (.getfield 27, 3) := by decide +kernel
theorem d_X8_begin_70 : decode M_X8_begin.2.1 70 = .ok (.iconst 0, 1) := by decide +kernel
theorem d_X8_begin_71 : decode M_X8_begin.2.1 71 = .ok (.invokestatic 49, 3) := by decide +kernel
theorem d_X8_begin_74 : decode M_X8_begin.2.1 74 = .ok (.aload_n 1, 1) := by decide +kernel
theorem d_X8_begin_75 : decode M_X8_begin.2.1 75 = .ok (.getfield 55, 3) := by decide +kernel
theorem d_X8_begin_78 : decode M_X8_begin.2.1 78 = .ok (.iconst 0, 1) := by decide +kernel
theorem d_X8_begin_79 : decode M_X8_begin.2.1 79 = .ok (.aload_n 0, 1) := by decide +kernel
theorem d_X8_begin_80 : decode M_X8_begin.2.1 80 = .ok (.getfield 30, 3) := by decide +kernel
theorem d_X8_begin_83 : decode M_X8_begin.2.1 83 = .ok (.iconst 0, 1) := by decide +kernel
theorem d_X8_begin_84 : decode M_X8_begin.2.1 84 = .ok (.aload_n 0, 1) := by decide +kernel
theorem d_X8_begin_85 : decode M_X8_begin.2.1 85 = .ok (.getfield 30, 3) := by decide +kernel
theorem d_X8_begin_88 : decode M_X8_begin.2.1 88 = .ok (.arraylength, 1) := by decide +kernel
theorem d_X8_begin_89 : decode M_X8_begin.2.1 89 = .ok (.invokestatic 58, 3) := by decide +kernel
theorem d_X8_begin_92 : decode M_X8_begin.2.1 92 = .ok (.return_, 1) := by decide +kernel
set_option maxRecDepth 20000 in
theorem s_X8_begin_0 {d : Nat} {t : Int} {p0 : Int} {G : Mem} {Q : Int → Mem → Prop} (bt : Bs 8 t) (bp0 : Bs 1 p0) (h : (∀ G1 : Mem, G1 = st G t 7 0 → (∀ G2 : Mem, G2 = st G1 t 8 0 → (∀ G3 : Mem, G3 = st G2 t 9 0 → (∀ G4 : Mem, G4 = st G3 t 10 0 → (∀ G5 : Mem, G5 = st G4 t 11 0 → Ct d M_J7_fill_53178 NT 0 0 (some lay) [(2, (t + 1)), (0, 0)] G5 (fun r7 G6 => Ct d M_J7_fill_53178 NT 0 0 (some lay) [(2, (t + 2)), (0, 0)] G6 (fun r9 G8 => Ct d M_J7_fill_53178 NT 0 0 (some lay) [(2, (t + 3)), (0, (-100))] G8 (fun r11 G10 => Ct d M_J7_fill_53178 NT 0 0 (some lay) [(2, (t + 4)), (0, 0)] G10 (fun r13 G12 => Ct d M_J7_fill_53178 NT 0 0 (some lay) [(2, (t + 5)), (0, 0)] G12 (fun r15 G14 => Ct d M_J7_fill_53178 NT 0 0 (some lay) [(2, (t + 6)), (0, 0)] G14 (fun r17 G16 => (CpOk 0 0 5 5 5) ∧ (∀ G19 : Mem, G19 = cpy G16 (p0 + 3) 0 (t + 7) 0 5 → Q 0 G19))))))))))))) : Rn (d + 1) M_X8_begin zN 0 [(0, (2, t)), (1, (2, p0))] [] G Q := by
  refine r_aload_n d_X8_begin_0 0 rfl rfl ?_
  refine r_iconst d_X8_begin_1 ?_
  obtain ⟨G1, eG1⟩ : ∃ y : Mem, y = st G t 7 0 := ⟨_, rfl⟩
  replace h := h G1 eG1
  refine r_putI 8 7 7 rfl d_X8_begin_2 fl_X8_33 (by decide) nofin_8_7 (bs_ob bt) ?_
  rw [← eG1]
  refine r_aload_n d_X8_begin_5 0 rfl rfl ?_
  refine r_iconst d_X8_begin_6 ?_
  obtain ⟨G2, eG2⟩ : ∃ y : Mem, y = st G1 t 8 0 := ⟨_, rfl⟩
  replace h := h G2 eG2
  refine r_putI 8 8 8 rfl d_X8_begin_7 fl_X8_37 (by decide) nofin_8_8 (bs_ob bt) ?_
  rw [← eG2]
  refine r_aload_n d_X8_begin_10 0 rfl rfl ?_
  refine r_iconst d_X8_begin_11 ?_
  obtain ⟨G3, eG3⟩ : ∃ y : Mem, y = st G2 t 9 0 := ⟨_, rfl⟩
  replace h := h G3 eG3
  refine r_putI 8 9 9 rfl d_X8_begin_12 fl_X8_40 (by decide) nofin_8_9 (bs_ob bt) ?_
  rw [← eG3]
  refine r_aload_n d_X8_begin_15 0 rfl rfl ?_
  refine r_iconst d_X8_begin_16 ?_
  obtain ⟨G4, eG4⟩ : ∃ y : Mem, y = st G3 t 10 0 := ⟨_, rfl⟩
  replace h := h G4 eG4
  refine r_putI 8 10 10 rfl d_X8_begin_17 fl_X8_43 (by decide) nofin_8_10 (bs_ob bt) ?_
  rw [← eG4]
  refine r_aload_n d_X8_begin_20 0 rfl rfl ?_
  refine r_iconst d_X8_begin_21 ?_
  obtain ⟨G5, eG5⟩ : ∃ y : Mem, y = st G4 t 11 0 := ⟨_, rfl⟩
  replace h := h G5 eG5
  refine r_putI 8 11 11 rfl d_X8_begin_22 fl_X8_46 (by decide) nofin_8_11 (bs_ob bt) ?_
  rw [← eG5]
  refine r_aload_n d_X8_begin_25 0 rfl rfl ?_
  refine r_getL (v := (t + 1)) 8 0 0 rfl d_X8_begin_26 fl_X8_9 (by decide) (bs_ob bt) (ly_8_0 bt).1 (ly_8_0 bt).2.1 ?_
  refine r_iconst d_X8_begin_29 ?_
  refine r_callS0 (M' := M_J7_fill_53178) [(2, (t + 1)), (0, 0)] d_X8_begin_30 cl_X8_49 rfl (Nat.le_of_ble_eq_true rfl) ?_
  refine Ct.mono h (fun r7 G6 h => ?_)
  show Rn _ M_X8_begin zN 33 [(0, (2, t)), (1, (2, p0))] [] G6 Q
  refine r_aload_n d_X8_begin_33 0 rfl rfl ?_
  refine r_getL (v := (t + 2)) 8 1 1 rfl d_X8_begin_34 fl_X8_15 (by decide) (bs_ob bt) (ly_8_1 bt).1 (ly_8_1 bt).2.1 ?_
  refine r_iconst d_X8_begin_37 ?_
  refine r_callS0 (M' := M_J7_fill_53178) [(2, (t + 2)), (0, 0)] d_X8_begin_38 cl_X8_49 rfl (Nat.le_of_ble_eq_true rfl) ?_
  refine Ct.mono h (fun r9 G8 h => ?_)
  show Rn _ M_X8_begin zN 41 [(0, (2, t)), (1, (2, p0))] [] G8 Q
  refine r_aload_n d_X8_begin_41 0 rfl rfl ?_
  refine r_getL (v := (t + 3)) 8 2 2 rfl d_X8_begin_42 fl_X8_18 (by decide) (bs_ob bt) (ly_8_2 bt).1 (ly_8_2 bt).2.1 ?_
  refine r_bipush d_X8_begin_45 (by decide +kernel) ?_
  refine r_callS0 (M' := M_J7_fill_53178) [(2, (t + 3)), (0, (-100))] d_X8_begin_47 cl_X8_49 rfl (Nat.le_of_ble_eq_true rfl) ?_
  refine Ct.mono h (fun r11 G10 h => ?_)
  show Rn _ M_X8_begin zN 50 [(0, (2, t)), (1, (2, p0))] [] G10 Q
  refine r_aload_n d_X8_begin_50 0 rfl rfl ?_
  refine r_getL (v := (t + 4)) 8 3 3 rfl d_X8_begin_51 fl_X8_21 (by decide) (bs_ob bt) (ly_8_3 bt).1 (ly_8_3 bt).2.1 ?_
  refine r_iconst d_X8_begin_54 ?_
  refine r_callS0 (M' := M_J7_fill_53178) [(2, (t + 4)), (0, 0)] d_X8_begin_55 cl_X8_49 rfl (Nat.le_of_ble_eq_true rfl) ?_
  refine Ct.mono h (fun r13 G12 h => ?_)
  show Rn _ M_X8_begin zN 58 [(0, (2, t)), (1, (2, p0))] [] G12 Q
  refine r_aload_n d_X8_begin_58 0 rfl rfl ?_
  refine r_getL (v := (t + 5)) 8 4 4 rfl d_X8_begin_59 fl_X8_24 (by decide) (bs_ob bt) (ly_8_4 bt).1 (ly_8_4 bt).2.1 ?_
  refine r_iconst d_X8_begin_62 ?_
  refine r_callS0 (M' := M_J7_fill_53178) [(2, (t + 5)), (0, 0)] d_X8_begin_63 cl_X8_49 rfl (Nat.le_of_ble_eq_true rfl) ?_
  refine Ct.mono h (fun r15 G14 h => ?_)
  show Rn _ M_X8_begin zN 66 [(0, (2, t)), (1, (2, p0))] [] G14 Q
  refine r_aload_n d_X8_begin_66 0 rfl rfl ?_
  refine r_getL (v := (t + 6)) 8 5 5 rfl d_X8_begin_67 fl_X8_27 (by decide) (bs_ob bt) (ly_8_5 bt).1 (ly_8_5 bt).2.1 ?_
  refine r_iconst d_X8_begin_70 ?_
  refine r_callS0 (M' := M_J7_fill_53178) [(2, (t + 6)), (0, 0)] d_X8_begin_71 cl_X8_49 rfl (Nat.le_of_ble_eq_true rfl) ?_
  refine Ct.mono h (fun r17 G16 h => ?_)
  show Rn _ M_X8_begin zN 74 [(0, (2, t)), (1, (2, p0))] [] G16 Q
  refine r_aload_n d_X8_begin_74 1 rfl rfl ?_
  refine r_getL (v := (p0 + 3)) 1 2 2 rfl d_X8_begin_75 fl_X8_55 (by decide) (bs_ob bp0) (ly_1_2 bp0).1 (ly_1_2 bp0).2.1 ?_
  refine r_iconst d_X8_begin_78 ?_
  refine r_aload_n d_X8_begin_79 0 rfl rfl ?_
  refine r_getL (v := (t + 7)) 8 6 6 rfl d_X8_begin_80 fl_X8_30 (by decide) (bs_ob bt) (ly_8_6 bt).1 (ly_8_6 bt).2.1 ?_
  refine r_iconst d_X8_begin_83 ?_
  refine r_aload_n d_X8_begin_84 0 rfl rfl ?_
  refine r_getL (v := (t + 7)) 8 6 6 rfl d_X8_begin_85 fl_X8_30 (by decide) (bs_ob bt) (ly_8_6 bt).1 (ly_8_6 bt).2.1 ?_
  refine r_alen 5 rfl d_X8_begin_88 (ly_8_6 bt).2.2 ?_
  obtain ⟨h18, h⟩ := h
  obtain ⟨G19, eG19⟩ : ∃ y : Mem, y = cpy G16 (p0 + 3) 0 (t + 7) 0 5 := ⟨_, rfl⟩
  replace h := h G19 eG19
  refine r_acopy d_X8_begin_89 ac_X8_58 (ly_1_2 bp0).2.2 (ly_8_6 bt).2.2 h18 (Nat.le_of_ble_eq_true rfl) ?_
  rw [← eG19]
  exact r_ret d_X8_begin_92 rfl ⟨rfl, Nat.le_refl _, Nat.le_refl _⟩ h
theorem d_X8_take_0 : decode M_X8_take.2.1 0 = .ok (.aload_n 0, 1) := by decide +kernel
theorem d_X8_take_1 : decode M_X8_take.2.1 1 = .ok (.aload_n 1, 1) := by decide +kernel
theorem d_X8_take_2 : decode M_X8_take.2.1 2 = .ok (.getfield 33, 3) := by decide +kernel
theorem d_X8_take_5 : decode M_X8_take.2.1 5 = .ok (.putfield 33, 3) := by decide +kernel
theorem d_X8_take_8 : decode M_X8_take.2.1 8 = .ok (.aload_n 0, 1) := by decide +kernel
theorem d_X8_take_9 : decode M_X8_take.2.1 9 = .ok (.aload_n 1, 1) := by decide +kernel
theorem d_X8_take_10 : decode M_X8_take.2.1 10 = .ok (.getfield 37, 3) := by decide +kernel
theorem d_X8_take_13 : decode M_X8_take.2.1 13 = .ok (.putfield 37, 3) := by decide +kernel
theorem d_X8_take_16 : decode M_X8_take.2.1 16 = .ok (.aload_n 0, 1) := by decide +kernel
theorem d_X8_take_17 : decode M_X8_take.2.1 17 = .ok (.aload_n 1, 1) := by decide +kernel
theorem d_X8_take_18 : decode M_X8_take.2.1 18 = .ok (.getfield 40, 3) := by decide +kernel
theorem d_X8_take_21 : decode M_X8_take.2.1 21 = .ok (.putfield 40, 3) := by decide +kernel
theorem d_X8_take_24 : decode M_X8_take.2.1 24 = .ok (.aload_n 0, 1) := by decide +kernel
theorem d_X8_take_25 : decode M_X8_take.2.1 25 = .ok (.aload_n 1, 1) := by decide +kernel
theorem d_X8_take_26 : decode M_X8_take.2.1 26 = .ok (.getfield 43, 3) := by decide +kernel
theorem d_X8_take_29 : decode M_X8_take.2.1 29 = .ok (.putfield 43, 3) := by decide +kernel
theorem d_X8_take_32 : decode M_X8_take.2.1 32 = .ok (.aload_n 0, 1) := by decide +kernel
theorem d_X8_take_33 : decode M_X8_take.2.1 33 = .ok (.aload_n 1, 1) := by decide +kernel
theorem d_X8_take_34 : decode M_X8_take.2.1 34 = .ok (.getfield 46, 3) := by decide +kernel
theorem d_X8_take_37 : decode M_X8_take.2.1 37 = .ok (.putfield 46, 3) := by decide +kernel
theorem d_X8_take_40 : decode M_X8_take.2.1 40 = .ok (.aload_n 1, 1) := by decide +kernel
theorem d_X8_take_41 : decode M_X8_take.2.1 41 = .ok (.getfield 9, 3) := by decide +kernel
theorem d_X8_take_44 : decode M_X8_take.2.1 44 = .ok (.iconst 0, 1) := by decide +kernel
theorem d_X8_take_45 : decode M_X8_take.2.1 45 = .ok (.aload_n 0, 1) := by decide +kernel
theorem d_X8_take_46 : decode M_X8_take.2.1 46 = .ok (.getfield 9, 3) := by decide +kernel
theorem d_X8_take_49 : decode M_X8_take.2.1 49 = .ok (.iconst 0, 1) := by decide +kernel
theorem d_X8_take_50 : decode M_X8_take.2.1 50 = .ok (.aload_n 0, 1) := by decide +kernel
theorem d_X8_take_51 : decode M_X8_take.2.1 51 = .ok (.getfield 9, 3) := by decide +kernel
theorem d_X8_take_54 : decode M_X8_take.2.1 54 = .ok (.arraylength, 1) := by decide +kernel
theorem d_X8_take_55 : decode M_X8_take.2.1 55 = .ok (.invokestatic 58, 3) := by decide +kernel
theorem d_X8_take_58 : decode M_X8_take.2.1 58 = .ok (.aload_n 1, 1) := by decide +kernel
theorem d_X8_take_59 : decode M_X8_take.2.1 59 = .ok (.getfield 15, 3) := by decide +kernel
theorem d_X8_take_62 : decode M_X8_take.2.1 62 = .ok (.iconst 0, 1) := by decide +kernel
theorem d_X8_take_63 : decode M_X8_take.2.1 63 = .ok (.aload_n 0, 1) := by decide +kernel
theorem d_X8_take_64 : decode M_X8_take.2.1 64 = .ok (.getfield 15, 3) := by decide +kernel
theorem d_X8_take_67 : decode M_X8_take.2.1 67 = .ok (.iconst 0, 1) := by decide +kernel
theorem d_X8_take_68 : decode M_X8_take.2.1 68 = .ok (.aload_n 0, 1) := by decide +kernel
theorem d_X8_take_69 : decode M_X8_take.2.1 69 = .ok (.getfield 15, 3) := by decide +kernel
theorem d_X8_take_72 : decode M_X8_take.2.1 72 = .ok (.arraylength, 1) := by decide +kernel
theorem d_X8_take_73 : decode M_X8_take.2.1 73 = .ok (.invokestatic 58, 3) := by decide +kernel
theorem d_X8_take_76 : decode M_X8_take.2.1 76 = .ok (.aload_n 1, 1) := by decide +kernel
theorem d_X8_take_77 : decode M_X8_take.2.1 77 = .ok (.getfield 18, 3) := by decide +kernel
theorem d_X8_take_80 : decode M_X8_take.2.1 80 = .ok (.iconst 0, 1) := by decide +kernel
theorem d_X8_take_81 : decode M_X8_take.2.1 81 = .ok (.aload_n 0, 1) := by decide +kernel
theorem d_X8_take_82 : decode M_X8_take.2.1 82 = .ok (.getfield 18, 3) := by decide +kernel
theorem d_X8_take_85 : decode M_X8_take.2.1 85 = .ok (.iconst 0, 1) := by decide +kernel
theorem d_X8_take_86 : decode M_X8_take.2.1 86 = .ok (.aload_n 0, 1) := by decide +kernel
theorem d_X8_take_87 : decode M_X8_take.2.1 87 = .ok (.getfield 18, 3) := by decide +kernel
theorem d_X8_take_90 : decode M_X8_take.2.1 90 = .ok (.arraylength, 1) := by decide +kernel
theorem d_X8_take_91 : decode M_X8_take.2.1 91 = .ok (.invokestatic 58, 3) := by decide +kernel
theorem d_X8_take_94 : decode M_X8_take.2.1 94 = .ok (.aload_n 1, 1) := by decide +kernel
theorem d_X8_take_95 : decode M_X8_take.2.1 95 = .ok (.getfield 21, 3) := by decide +kernel
theorem d_X8_take_98 : decode M_X8_take.2.1 98 = .ok (.iconst 0, 1) := by decide +kernel
theorem d_X8_take_99 : decode M_X8_take.2.1 99 = .ok (.aload_n 0, 1) := by decide +kernel
theorem d_X8_take_100 : decode M_X8_take.2.1 100 = .ok (.getfield 21, 3) := by decide +kernel
theorem d_X8_take_103 : decode M_X8_take.2.1 103 = .ok (.iconst 0, 1) := by decide +kernel
theorem d_X8_take_104 : decode M_X8_take.2.1 104 = .ok (.aload_n 0, 1) := by decide +kernel
theorem d_X8_take_105 : decode M_X8_take.2.1 105 = .ok (.getfield 21, 3) := by decide +kernel
theorem d_X8_take_108 : decode M_X8_take.2.1 108 = .ok (.arraylength, 1) := by decide +kernel
theorem d_X8_take_109 : decode M_X8_take.2.1 109 = .ok (.invokestatic 58, 3) := by decide +kernel
theorem d_X8_take_112 : decode M_X8_take.2.1 112 = .ok (.aload_n 1, 1) := by decide +kernel
theorem d_X8_take_113 : decode M_X8_take.2.1 113 = .ok (.getfield 24, 3) := by decide +kernel
theorem d_X8_take_116 : decode M_X8_take.2.1 116 = .ok (.iconst 0, 1) := by decide +kernel
theorem d_X8_take_117 : decode M_X8_take.2.1 117 = .ok (.aload_n 0, 1) := by decide +kernel
theorem d_X8_take_118 : decode M_X8_take.2.1 118 = .ok (.getfield 24, 3) := by decide +kernel
theorem d_X8_take_121 : decode M_X8_take.2.1 121 = .ok (.iconst 0, 1) := by decide +kernel
theorem d_X8_take_122 : decode M_X8_take.2.1 122 = .ok (.aload_n 0, 1) := by decide +kernel
theorem d_X8_take_123 : decode M_X8_take.2.1 123 = .ok (.getfield 24, 3) := by decide +kernel
theorem d_X8_take_126 : decode M_X8_take.2.1 126 = .ok (.arraylength, 1) := by decide +kernel
theorem d_X8_take_127 : decode M_X8_take.2.1 127 = .ok (.invokestatic 58, 3) := by decide +kernel
theorem d_X8_take_130 : decode M_X8_take.2.1 130 = .ok (.aload_n 1, 1) := by decide +kernel
theorem d_X8_take_131 : decode M_X8_take.2.1 131 = .ok (.getfield 27, 3) := by decide +kernel
theorem d_X8_take_134 : decode M_X8_take.2.1 134 = .ok (.iconst 0, 1) := by decide +kernel
theorem d_X8_take_135 : decode M_X8_take.2.1 135 = .ok (.aload_n 0, 1) := by decide +kernel
theorem d_X8_take_136 : decode M_X8_take.2.1 136 = .ok (.getfield 27, 3) := by decide +kernel
theorem d_X8_take_139 : decode M_X8_take.2.1 139 = .ok (.iconst 0, 1) := by decide +kernel
theorem d_X8_take_140 : decode M_X8_take.2.1 140 = .ok (.aload_n 0, 1) := by decide +kernel
theorem d_X8_take_141 : decode M_X8_take.2.1 141 = .ok (.getfield 27, 3) := by decide +kernel
theorem d_X8_take_144 : decode M_X8_take.2.1 144 = .ok (.arraylength, 1) := by decide +kernel
theorem d_X8_take_145 : decode M_X8_take.2.1 145 = .ok (.invokestatic 58, 3) := by decide +kernel
theorem d_X8_take_148 : decode M_X8_take.2.1 148 = .ok (.aload_n 1, 1) := by decide +kernel
theorem d_X8_take_149 : decode M_X8_take.2.1 149 = .ok (.getfield 30, 3) := by decide +kernel
theorem d_X8_take_152 : decode M_X8_take.2.1 152 = .ok (.iconst 0, 1) := by decide +kernel
theorem d_X8_take_153 : decode M_X8_take.2.1 153 = .ok (.aload_n 0, 1) := by decide +kernel
theorem d_X8_take_154 : decode M_X8_take.2.1 154 = .ok (.getfield 30, 3) := by decide +kernel
theorem d_X8_take_157 : decode M_X8_take.2.1 157 = .ok (.iconst 0, 1) := by decide +kernel
theorem d_X8_take_158 : decode M_X8_take.2.1 158 = .ok (.aload_n 0, 1) := by decide +kernel
theorem d_X8_take_159 : decode M_X8_take.2.1 159 = .ok (.getfield 30, 3) := by decide +kernel
theorem d_X8_take_162 : decode M_X8_take.2.1 162 = .ok (.arraylength, 1) := by decide +kernel
theorem d_X8_take_163 : decode M_X8_take.2.1 163 = .ok (.invokestatic 58, 3) := by decide +kernel
theorem d_X8_take_166 : decode M_X8_take.2.1 166 = .ok (.return_, 1) := by decide +kernel
set_option maxRecDepth 20000 in
theorem s_X8_take_0 {d : Nat} {t : Int} {p0 : Int} {G : Mem} {Q : Int → Mem → Prop} (bt : Bs 8 t) (bp0 : Bs 8 p0) (h : (∀ G1 : Mem, G1 = st G t 7 (G p0 7) → (∀ G2 : Mem, G2 = st G1 t 8 (G1 p0 8) → (∀ G3 : Mem, G3 = st G2 t 9 (G2 p0 9) → (∀ G4 : Mem, G4 = st G3 t 10 (G3 p0 10) → (∀ G5 : Mem, G5 = st G4 t 11 (G4 p0 11) → (CpOk 0 0 5 5 5) ∧ (∀ G7 : Mem, G7 = cpy G5 (p0 + 1) 0 (t + 1) 0 5 → (CpOk 0 0 5 5 5) ∧ (∀ G9 : Mem, G9 = cpy G7 (p0 + 2) 0 (t + 2) 0 5 → (CpOk 0 0 5 5 5) ∧ (∀ G11 : Mem, G11 = cpy G9 (p0 + 3) 0 (t + 3) 0 5 → (CpOk 0 0 5 5 5) ∧ (∀ G13 : Mem, G13 = cpy G11 (p0 + 4) 0 (t + 4) 0 5 → (CpOk 0 0 5 5 5) ∧ (∀ G15 : Mem, G15 = cpy G13 (p0 + 5) 0 (t + 5) 0 5 → (CpOk 0 0 5 5 5) ∧ (∀ G17 : Mem, G17 = cpy G15 (p0 + 6) 0 (t + 6) 0 5 → (CpOk 0 0 5 5 5) ∧ (∀ G19 : Mem, G19 = cpy G17 (p0 + 7) 0 (t + 7) 0 5 → Q 0 G19))))))))))))) : Rn (d + 1) M_X8_take zN 0 [(0, (2, t)), (1, (2, p0))] [] G Q := by
  refine r_aload_n d_X8_take_0 0 rfl rfl ?_
  refine r_aload_n d_X8_take_1 1 rfl rfl ?_
  refine r_getI 8 7 7 rfl d_X8_take_2 fl_X8_33 (by decide) (bs_ob bp0) ?_
  obtain ⟨G1, eG1⟩ : ∃ y : Mem, y = st G t 7 (G p0 7) := ⟨_, rfl⟩
  replace h := h G1 eG1
  refine r_putI 8 7 7 rfl d_X8_take_5 fl_X8_33 (by decide) nofin_8_7 (bs_ob bt) ?_
  rw [← eG1]
  refine r_aload_n d_X8_take_8 0 rfl rfl ?_
  refine r_aload_n d_X8_take_9 1 rfl rfl ?_
  refine r_getI 8 8 8 rfl d_X8_take_10 fl_X8_37 (by decide) (bs_ob bp0) ?_
  obtain ⟨G2, eG2⟩ : ∃ y : Mem, y = st G1 t 8 (G1 p0 8) := ⟨_, rfl⟩
  replace h := h G2 eG2
  refine r_putI 8 8 8 rfl d_X8_take_13 fl_X8_37 (by decide) nofin_8_8 (bs_ob bt) ?_
  rw [← eG2]
  refine r_aload_n d_X8_take_16 0 rfl rfl ?_
  refine r_aload_n d_X8_take_17 1 rfl rfl ?_
  refine r_getI 8 9 9 rfl d_X8_take_18 fl_X8_40 (by decide) (bs_ob bp0) ?_
  obtain ⟨G3, eG3⟩ : ∃ y : Mem, y = st G2 t 9 (G2 p0 9) := ⟨_, rfl⟩
  replace h := h G3 eG3
  refine r_putI 8 9 9 rfl d_X8_take_21 fl_X8_40 (by decide) nofin_8_9 (bs_ob bt) ?_
  rw [← eG3]
  refine r_aload_n d_X8_take_24 0 rfl rfl ?_
  refine r_aload_n d_X8_take_25 1 rfl rfl ?_
  refine r_getI 8 10 10 rfl d_X8_take_26 fl_X8_43 (by decide) (bs_ob bp0) ?_
  obtain ⟨G4, eG4⟩ : ∃ y : Mem, y = st G3 t 10 (G3 p0 10) := ⟨_, rfl⟩
  replace h := h G4 eG4
  refine r_putI 8 10 10 rfl d_X8_take_29 fl_X8_43 (by decide) nofin_8_10 (bs_ob bt) ?_
  rw [← eG4]
  refine r_aload_n d_X8_take_32 0 rfl rfl ?_
  refine r_aload_n d_X8_take_33 1 rfl rfl ?_
  refine r_getI 8 11 11 rfl d_X8_take_34 fl_X8_46 (by decide) (bs_ob bp0) ?_
  obtain ⟨G5, eG5⟩ : ∃ y : Mem, y = st G4 t 11 (G4 p0 11) := ⟨_, rfl⟩
  replace h := h G5 eG5
  refine r_putI 8 11 11 rfl d_X8_take_37 fl_X8_46 (by decide) nofin_8_11 (bs_ob bt) ?_
  rw [← eG5]
  refine r_aload_n d_X8_take_40 1 rfl rfl ?_
  refine r_getL (v := (p0 + 1)) 8 0 0 rfl d_X8_take_41 fl_X8_9 (by decide) (bs_ob bp0) (ly_8_0 bp0).1 (ly_8_0 bp0).2.1 ?_
  refine r_iconst d_X8_take_44 ?_
  refine r_aload_n d_X8_take_45 0 rfl rfl ?_
  refine r_getL (v := (t + 1)) 8 0 0 rfl d_X8_take_46 fl_X8_9 (by decide) (bs_ob bt) (ly_8_0 bt).1 (ly_8_0 bt).2.1 ?_
  refine r_iconst d_X8_take_49 ?_
  refine r_aload_n d_X8_take_50 0 rfl rfl ?_
  refine r_getL (v := (t + 1)) 8 0 0 rfl d_X8_take_51 fl_X8_9 (by decide) (bs_ob bt) (ly_8_0 bt).1 (ly_8_0 bt).2.1 ?_
  refine r_alen 5 rfl d_X8_take_54 (ly_8_0 bt).2.2 ?_
  obtain ⟨h6, h⟩ := h
  obtain ⟨G7, eG7⟩ : ∃ y : Mem, y = cpy G5 (p0 + 1) 0 (t + 1) 0 5 := ⟨_, rfl⟩
  replace h := h G7 eG7
  refine r_acopy d_X8_take_55 ac_X8_58 (ly_8_0 bp0).2.2 (ly_8_0 bt).2.2 h6 (Nat.le_of_ble_eq_true rfl) ?_
  rw [← eG7]
  refine r_aload_n d_X8_take_58 1 rfl rfl ?_
  refine r_getL (v := (p0 + 2)) 8 1 1 rfl d_X8_take_59 fl_X8_15 (by decide) (bs_ob bp0) (ly_8_1 bp0).1 (ly_8_1 bp0).2.1 ?_
  refine r_iconst d_X8_take_62 ?_
  refine r_aload_n d_X8_take_63 0 rfl rfl ?_
  refine r_getL (v := (t + 2)) 8 1 1 rfl d_X8_take_64 fl_X8_15 (by decide) (bs_ob bt) (ly_8_1 bt).1 (ly_8_1 bt).2.1 ?_
  refine r_iconst d_X8_take_67 ?_
  refine r_aload_n d_X8_take_68 0 rfl rfl ?_
  refine r_getL (v := (t + 2)) 8 1 1 rfl d_X8_take_69 fl_X8_15 (by decide) (bs_ob bt) (ly_8_1 bt).1 (ly_8_1 bt).2.1 ?_
  refine r_alen 5 rfl d_X8_take_72 (ly_8_1 bt).2.2 ?_
  obtain ⟨h8, h⟩ := h
  obtain ⟨G9, eG9⟩ : ∃ y : Mem, y = cpy G7 (p0 + 2) 0 (t + 2) 0 5 := ⟨_, rfl⟩
  replace h := h G9 eG9
  refine r_acopy d_X8_take_73 ac_X8_58 (ly_8_1 bp0).2.2 (ly_8_1 bt).2.2 h8 (Nat.le_of_ble_eq_true rfl) ?_
  rw [← eG9]
  refine r_aload_n d_X8_take_76 1 rfl rfl ?_
  refine r_getL (v := (p0 + 3)) 8 2 2 rfl d_X8_take_77 fl_X8_18 (by decide) (bs_ob bp0) (ly_8_2 bp0).1 (ly_8_2 bp0).2.1 ?_
  refine r_iconst d_X8_take_80 ?_
  refine r_aload_n d_X8_take_81 0 rfl rfl ?_
  refine r_getL (v := (t + 3)) 8 2 2 rfl d_X8_take_82 fl_X8_18 (by decide) (bs_ob bt) (ly_8_2 bt).1 (ly_8_2 bt).2.1 ?_
  refine r_iconst d_X8_take_85 ?_
  refine r_aload_n d_X8_take_86 0 rfl rfl ?_
  refine r_getL (v := (t + 3)) 8 2 2 rfl d_X8_take_87 fl_X8_18 (by decide) (bs_ob bt) (ly_8_2 bt).1 (ly_8_2 bt).2.1 ?_
  refine r_alen 5 rfl d_X8_take_90 (ly_8_2 bt).2.2 ?_
  obtain ⟨h10, h⟩ := h
  obtain ⟨G11, eG11⟩ : ∃ y : Mem, y = cpy G9 (p0 + 3) 0 (t + 3) 0 5 := ⟨_, rfl⟩
  replace h := h G11 eG11
  refine r_acopy d_X8_take_91 ac_X8_58 (ly_8_2 bp0).2.2 (ly_8_2 bt).2.2 h10 (Nat.le_of_ble_eq_true rfl) ?_
  rw [← eG11]
  refine r_aload_n d_X8_take_94 1 rfl rfl ?_
  refine r_getL (v := (p0 + 4)) 8 3 3 rfl d_X8_take_95 fl_X8_21 (by decide) (bs_ob bp0) (ly_8_3 bp0).1 (ly_8_3 bp0).2.1 ?_
  refine r_iconst d_X8_take_98 ?_
  refine r_aload_n d_X8_take_99 0 rfl rfl ?_
  refine r_getL (v := (t + 4)) 8 3 3 rfl d_X8_take_100 fl_X8_21 (by decide) (bs_ob bt) (ly_8_3 bt).1 (ly_8_3 bt).2.1 ?_
  refine r_iconst d_X8_take_103 ?_
  refine r_aload_n d_X8_take_104 0 rfl rfl ?_
  refine r_getL (v := (t + 4)) 8 3 3 rfl d_X8_take_105 fl_X8_21 (by decide) (bs_ob bt) (ly_8_3 bt).1 (ly_8_3 bt).2.1 ?_
  refine r_alen 5 rfl d_X8_take_108 (ly_8_3 bt).2.2 ?_
  obtain ⟨h12, h⟩ := h
  obtain ⟨G13, eG13⟩ : ∃ y : Mem, y = cpy G11 (p0 + 4) 0 (t + 4) 0 5 := ⟨_, rfl⟩
  replace h := h G13 eG13
  refine r_acopy d_X8_take_109 ac_X8_58 (ly_8_3 bp0).2.2 (ly_8_3 bt).2.2 h12 (Nat.le_of_ble_eq_true rfl) ?_
  rw [← eG13]
  refine r_aload_n d_X8_take_112 1 rfl rfl ?_
  refine r_getL (v := (p0 + 5)) 8 4 4 rfl d_X8_take_113 fl_X8_24 (by decide) (bs_ob bp0) (ly_8_4 bp0).1 (ly_8_4 bp0).2.1 ?_
  refine r_iconst d_X8_take_116 ?_
  refine r_aload_n d_X8_take_117 0 rfl rfl ?_
  refine r_getL (v := (t + 5)) 8 4 4 rfl d_X8_take_118 fl_X8_24 (by decide) (bs_ob bt) (ly_8_4 bt).1 (ly_8_4 bt).2.1 ?_
  refine r_iconst d_X8_take_121 ?_
  refine r_aload_n d_X8_take_122 0 rfl rfl ?_
  refine r_getL (v := (t + 5)) 8 4 4 rfl d_X8_take_123 fl_X8_24 (by decide) (bs_ob bt) (ly_8_4 bt).1 (ly_8_4 bt).2.1 ?_
  refine r_alen 5 rfl d_X8_take_126 (ly_8_4 bt).2.2 ?_
  obtain ⟨h14, h⟩ := h
  obtain ⟨G15, eG15⟩ : ∃ y : Mem, y = cpy G13 (p0 + 5) 0 (t + 5) 0 5 := ⟨_, rfl⟩
  replace h := h G15 eG15
  refine r_acopy d_X8_take_127 ac_X8_58 (ly_8_4 bp0).2.2 (ly_8_4 bt).2.2 h14 (Nat.le_of_ble_eq_true rfl) ?_
  rw [← eG15]
  refine r_aload_n d_X8_take_130 1 rfl rfl ?_
  refine r_getL (v := (p0 + 6)) 8 5 5 rfl d_X8_take_131 fl_X8_27 (by decide) (bs_ob bp0) (ly_8_5 bp0).1 (ly_8_5 bp0).2.1 ?_
  refine r_iconst d_X8_take_134 ?_
  refine r_aload_n d_X8_take_135 0 rfl rfl ?_
  refine r_getL (v := (t + 6)) 8 5 5 rfl d_X8_take_136 fl_X8_27 (by decide) (bs_ob bt) (ly_8_5 bt).1 (ly_8_5 bt).2.1 ?_
  refine r_iconst d_X8_take_139 ?_
  refine r_aload_n d_X8_take_140 0 rfl rfl ?_
  refine r_getL (v := (t + 6)) 8 5 5 rfl d_X8_take_141 fl_X8_27 (by decide) (bs_ob bt) (ly_8_5 bt).1 (ly_8_5 bt).2.1 ?_
  refine r_alen 5 rfl d_X8_take_144 (ly_8_5 bt).2.2 ?_
  obtain ⟨h16, h⟩ := h
  obtain ⟨G17, eG17⟩ : ∃ y : Mem, y = cpy G15 (p0 + 6) 0 (t + 6) 0 5 := ⟨_, rfl⟩
  replace h := h G17 eG17
  refine r_acopy d_X8_take_145 ac_X8_58 (ly_8_5 bp0).2.2 (ly_8_5 bt).2.2 h16 (Nat.le_of_ble_eq_true rfl) ?_
  rw [← eG17]
  refine r_aload_n d_X8_take_148 1 rfl rfl ?_
  refine r_getL (v := (p0 + 7)) 8 6 6 rfl d_X8_take_149 fl_X8_30 (by decide) (bs_ob bp0) (ly_8_6 bp0).1 (ly_8_6 bp0).2.1 ?_
  refine r_iconst d_X8_take_152 ?_
  refine r_aload_n d_X8_take_153 0 rfl rfl ?_
  refine r_getL (v := (t + 7)) 8 6 6 rfl d_X8_take_154 fl_X8_30 (by decide) (bs_ob bt) (ly_8_6 bt).1 (ly_8_6 bt).2.1 ?_
  refine r_iconst d_X8_take_157 ?_
  refine r_aload_n d_X8_take_158 0 rfl rfl ?_
  refine r_getL (v := (t + 7)) 8 6 6 rfl d_X8_take_159 fl_X8_30 (by decide) (bs_ob bt) (ly_8_6 bt).1 (ly_8_6 bt).2.1 ?_
  refine r_alen 5 rfl d_X8_take_162 (ly_8_6 bt).2.2 ?_
  obtain ⟨h18, h⟩ := h
  obtain ⟨G19, eG19⟩ : ∃ y : Mem, y = cpy G17 (p0 + 7) 0 (t + 7) 0 5 := ⟨_, rfl⟩
  replace h := h G19 eG19
  refine r_acopy d_X8_take_163 ac_X8_58 (ly_8_6 bp0).2.2 (ly_8_6 bt).2.2 h18 (Nat.le_of_ble_eq_true rfl) ?_
  rw [← eG19]
  exact r_ret d_X8_take_166 rfl ⟨rfl, Nat.le_refl _, Nat.le_refl _⟩ h
theorem d_X8_asleep_0 : decode M_X8_asleep.2.1 0 = .ok (.aload_n 1, 1) := by decide +kernel
theorem d_X8_asleep_1 : decode M_X8_asleep.2.1 1 = .ok (.getfield 64, 3) := by decide +kernel
theorem d_X8_asleep_4 : decode M_X8_asleep.2.1 4 = .ok (.iload_n 2, 1) := by decide +kernel
theorem d_X8_asleep_5 : decode M_X8_asleep.2.1 5 = .ok (.aaload, 1) := by decide +kernel
theorem d_X8_asleep_6 : decode M_X8_asleep.2.1 6 = .ok (.astore 4, 2) := by decide +kernel
theorem d_X8_asleep_8 : decode M_X8_asleep.2.1 8 = .ok (.aload_n 0, 1) := by decide +kernel
theorem d_X8_asleep_9 : decode M_X8_asleep.2.1 9 = .ok (.getfield 15, 3) := by decide +kernel
theorem d_X8_asleep_12 : decode M_X8_asleep.2.1 12 = .ok (.iload_n 2, 1) := by decide +kernel
theorem d_X8_asleep_13 : decode M_X8_asleep.2.1 13 = .ok (.iaload, 1) := by decide +kernel
theorem d_X8_asleep_14 : decode M_X8_asleep.2.1 14 = .ok (.ifCond .ne 37, 3) := by decide +kernel
theorem d_X8_asleep_17 : decode M_X8_asleep.2.1 17 = .ok (.aload 4, 2) := by decide +kernel
theorem d_X8_asleep_19 : decode M_X8_asleep.2.1 19 = .ok (.getfield 68, 3) := by decide +kernel
theorem d_X8_asleep_22 : decode M_X8_asleep.2.1 22 = .ok (.iload_n 3, 1) := by decide +kernel
theorem d_X8_asleep_23 : decode M_X8_asleep.2.1 23 = .ok (.if_icmp .gt 28, 3) := by decide +kernel
theorem d_X8_asleep_26 : decode M_X8_asleep.2.1 26 = .ok (.iload_n 3, 1) := by decide +kernel
theorem d_X8_asleep_27 : decode M_X8_asleep.2.1 27 = .ok (.aload 4, 2) := by decide +kernel
theorem d_X8_asleep_29 : decode M_X8_asleep.2.1 29 = .ok (.getfield 73, 3) := by decide +kernel
theorem d_X8_asleep_32 : decode M_X8_asleep.2.1 32 = .ok (.if_icmp .ge 19, 3) := by decide +kernel
theorem d_X8_asleep_35 : decode M_X8_asleep.2.1 35 = .ok (.iload_n 3, 1) := by decide +kernel
theorem d_X8_asleep_36 : decode M_X8_asleep.2.1 36 = .ok (.aload_n 0, 1) := by decide +kernel
theorem d_X8_asleep_37 : decode M_X8_asleep.2.1 37 = .ok (.getfield 18, 3) := by decide +kernel
theorem d_X8_asleep_40 : decode M_X8_asleep.2.1 40 = .ok (.iload_n 2, 1) := by decide +kernel
theorem d_X8_asleep_41 : decode M_X8_asleep.2.1 41 = .ok (.iaload, 1) := by decide +kernel
theorem d_X8_asleep_42 : decode M_X8_asleep.2.1 42 = .ok (.isub, 1) := by decide +kernel
theorem d_X8_asleep_43 : decode M_X8_asleep.2.1 43 = .ok (.iconst 3, 1) := by decide +kernel
theorem d_X8_asleep_44 : decode M_X8_asleep.2.1 44 = .ok (.if_icmp .le 7, 3) := by decide +kernel
theorem d_X8_asleep_47 : decode M_X8_asleep.2.1 47 = .ok (.iconst 1, 1) := by decide +kernel
theorem d_X8_asleep_48 : decode M_X8_asleep.2.1 48 = .ok (.goto 4, 3) := by decide +kernel
theorem d_X8_asleep_51 : decode M_X8_asleep.2.1 51 = .ok (.iconst 0, 1) := by decide +kernel
theorem d_X8_asleep_52 : decode M_X8_asleep.2.1 52 = .ok (.ireturn, 1) := by decide +kernel
set_option maxRecDepth 20000 in
theorem s_X8_asleep_0 {d : Nat} {t : Int} {p0 : Int} {p1 : Int} {p2 : Int} {G : Mem} {Q : Int → Mem → Prop} (bt : Bs 8 t) (bp0 : Bs 1 p0) (h : (0 ≤ p1 ∧ p1 < 5) ∧ ((InR (G (t + 2) p1)) ∧ (((G (t + 2) p1) ≠ 0) → Q 0 G) ∧ (¬ ((G (t + 2) p1) ≠ 0) → (InR (G ((p0 + 13) + p1) 7)) ∧ (InR p2) ∧ ((p2 < (G ((p0 + 13) + p1) 7)) → Q 0 G) ∧ (¬ (p2 < (G ((p0 + 13) + p1) 7)) → (InR (G ((p0 + 13) + p1) 8)) ∧ (((G ((p0 + 13) + p1) 8) ≤ p2) → Q 0 G) ∧ (¬ ((G ((p0 + 13) + p1) 8) ≤ p2) → (InR (p2 - (G (t + 3) p1))) ∧ (((p2 - (G (t + 3) p1)) ≤ 3) → Q 0 G) ∧ (¬ ((p2 - (G (t + 3) p1)) ≤ 3) → Q 1 G)))))) : Rn d M_X8_asleep zN 0 [(0, (2, t)), (1, (2, p0)), (2, (0, p1)), (3, (0, p2))] [] G Q := by
  refine r_aload_n d_X8_asleep_0 1 rfl rfl ?_
  refine r_getL (v := (p0 + 1)) 1 0 0 rfl d_X8_asleep_1 fl_X8_64 (by decide) (bs_ob bp0) (ly_1_0 bp0).1 (ly_1_0 bp0).2.1 ?_
  refine r_iload_n d_X8_asleep_4 2 rfl rfl ?_
  obtain ⟨h1, h⟩ := h
  refine r_aaloadL (v := ((p0 + 13) + p1)) d_X8_asleep_5 (ly_1_0 bp0).2.2 (by decide) rfl h1 (el_1_0 bp0 h1.1 h1.2).1 (el_1_0 bp0 h1.1 h1.2).2.1 ?_
  refine r_astore (ls1 := [(4, (2, ((p0 + 13) + p1))), (0, (2, t)), (1, (2, p0)), (2, (0, p1)), (3, (0, p2))]) d_X8_asleep_6 (by decide) rfl ?_
  refine r_aload_n d_X8_asleep_8 1 rfl rfl ?_
  refine r_getL (v := (t + 2)) 8 1 1 rfl d_X8_asleep_9 fl_X8_15 (by decide) (bs_ob bt) (ly_8_1 bt).1 (ly_8_1 bt).2.1 ?_
  refine r_iload_n d_X8_asleep_12 3 rfl rfl ?_
  refine r_iaload d_X8_asleep_13 (ly_8_1 bt).2.2 h1 ?_
  obtain ⟨h2, h⟩ := h
  refine r_if_ne (tgt := 51) d_X8_asleep_14 (by decide) h2 (fun c3 => ?_) (fun c3 => ?_)
  · replace h := h.1 c3
    refine r_iconst d_X8_asleep_51 ?_
    exact r_zreturn d_X8_asleep_52 rfl ⟨rfl, Nat.le_refl _, Nat.le_refl _⟩ (by decide) h
  · replace h := h.2 c3
    refine r_aload d_X8_asleep_17 0 rfl ?_
    refine r_getI 7 7 7 rfl d_X8_asleep_19 fl_X8_68 (by decide) (bs_ob (el_1_0 bp0 h1.1 h1.2).2.2) ?_
    refine r_iload_n d_X8_asleep_22 4 rfl rfl ?_
    obtain ⟨h4, h⟩ := h
    obtain ⟨h5, h⟩ := h
    refine r_icmp_gt (tgt := 51) d_X8_asleep_23 (by decide) h4 h5 (fun c6 => ?_) (fun c6 => ?_)
    · replace h := h.1 c6
      refine r_iconst d_X8_asleep_51 ?_
      exact r_zreturn d_X8_asleep_52 rfl ⟨rfl, Nat.le_refl _, Nat.le_refl _⟩ (by decide) h
    · replace h := h.2 c6
      refine r_iload_n d_X8_asleep_26 4 rfl rfl ?_
      refine r_aload d_X8_asleep_27 0 rfl ?_
      refine r_getI 7 8 8 rfl d_X8_asleep_29 fl_X8_73 (by decide) (bs_ob (el_1_0 bp0 h1.1 h1.2).2.2) ?_
      obtain ⟨h7, h⟩ := h
      refine r_icmp_ge (tgt := 51) d_X8_asleep_32 (by decide) h5 h7 (fun c8 => ?_) (fun c8 => ?_)
      · replace h := h.1 c8
        refine r_iconst d_X8_asleep_51 ?_
        exact r_zreturn d_X8_asleep_52 rfl ⟨rfl, Nat.le_refl _, Nat.le_refl _⟩ (by decide) h
      · replace h := h.2 c8
        refine r_iload_n d_X8_asleep_35 4 rfl rfl ?_
        refine r_aload_n d_X8_asleep_36 1 rfl rfl ?_
        refine r_getL (v := (t + 3)) 8 2 2 rfl d_X8_asleep_37 fl_X8_18 (by decide) (bs_ob bt) (ly_8_2 bt).1 (ly_8_2 bt).2.1 ?_
        refine r_iload_n d_X8_asleep_40 3 rfl rfl ?_
        refine r_iaload d_X8_asleep_41 (ly_8_2 bt).2.2 h1 ?_
        refine r_isub d_X8_asleep_42 ?_
        refine r_iconst d_X8_asleep_43 ?_
        obtain ⟨h9, h⟩ := h
        refine r_icmp_le (tgt := 51) d_X8_asleep_44 (by decide) h9 ⟨by decide, by decide⟩ (fun c10 => ?_) (fun c10 => ?_)
        · replace h := h.1 c10
          refine r_iconst d_X8_asleep_51 ?_
          exact r_zreturn d_X8_asleep_52 rfl ⟨rfl, Nat.le_refl _, Nat.le_refl _⟩ (by decide) h
        · replace h := h.2 c10
          refine r_iconst d_X8_asleep_47 ?_
          refine r_goto (tgt := 52) d_X8_asleep_48 (by decide) ?_
          exact r_zreturn d_X8_asleep_52 rfl ⟨rfl, Nat.le_refl _, Nat.le_refl _⟩ (by decide) h
theorem d_X8_ask_0 : decode M_X8_ask.2.1 0 = .ok (.aload_n 0, 1) := by decide +kernel
theorem d_X8_ask_1 : decode M_X8_ask.2.1 1 = .ok (.getfield 21, 3) := by decide +kernel
theorem d_X8_ask_4 : decode M_X8_ask.2.1 4 = .ok (.iload_n 1, 1) := by decide +kernel
theorem d_X8_ask_5 : decode M_X8_ask.2.1 5 = .ok (.dup2, 1) := by decide +kernel
theorem d_X8_ask_6 : decode M_X8_ask.2.1 6 = .ok (.iaload, 1) := by decide +kernel
theorem d_X8_ask_7 : decode M_X8_ask.2.1 7 = .ok (.iconst 1, 1) := by decide +kernel
theorem d_X8_ask_8 : decode M_X8_ask.2.1 8 = .ok (.iadd, 1) := by decide +kernel
theorem d_X8_ask_9 : decode M_X8_ask.2.1 9 = .ok (.iastore, 1) := by decide +kernel
theorem d_X8_ask_10 : decode M_X8_ask.2.1 10 = .ok (.iload_n 2, 1) := by decide +kernel
theorem d_X8_ask_11 : decode M_X8_ask.2.1 11 = .ok (.ifCond .eq 11, 3) := by decide +kernel
theorem d_X8_ask_14 : decode M_X8_ask.2.1 14 = .ok (.aload_n 0, 1) := by decide +kernel
theorem d_X8_ask_15 : decode M_X8_ask.2.1 15 = .ok (.iload_n 1, 1) := by decide +kernel
theorem d_X8_ask_16 : decode M_X8_ask.2.1 16 = .ok (.invokevirtual 76, 3) := by decide +kernel
theorem d_X8_ask_19 : decode M_X8_ask.2.1 19 = .ok (.goto 13, 3) := by decide +kernel
theorem d_X8_ask_22 : decode M_X8_ask.2.1 22 = .ok (.aload_n 0, 1) := by decide +kernel
theorem d_X8_ask_23 : decode M_X8_ask.2.1 23 = .ok (.dup, 1) := by decide +kernel
theorem d_X8_ask_24 : decode M_X8_ask.2.1 24 = .ok (.getfield 40, 3) := by decide +kernel
theorem d_X8_ask_27 : decode M_X8_ask.2.1 27 = .ok (.iconst 1, 1) := by decide +kernel
theorem d_X8_ask_28 : decode M_X8_ask.2.1 28 = .ok (.iadd, 1) := by decide +kernel
theorem d_X8_ask_29 : decode M_X8_ask.2.1 29 = .ok (.putfield 40, 3) := by decide +kernel
theorem d_X8_ask_32 : decode M_X8_ask.2.1 32 = .ok (.iload_n 2, 1) := by decide +kernel
theorem d_X8_ask_33 : decode M_X8_ask.2.1 33 = .ok (.ireturn, 1) := by decide +kernel
set_option maxRecDepth 20000 in
theorem s_X8_ask_0 {d : Nat} {t : Int} {p0 : Int} {p1 : Int} {G : Mem} {Q : Int → Mem → Prop} (bt : Bs 8 t) (h : (0 ≤ p0 ∧ p0 < 5) ∧ ((∀ G2 : Mem, G2 = st G (t + 4) p0 ((G (t + 4) p0) + 1) → (InR p1) ∧ ((p1 = 0) → (∀ G5 : Mem, G5 = st G2 t 9 ((G2 t 9) + 1) → (p1 = 0 ∨ p1 = 1) ∧ Q p1 G5)) ∧ (¬ (p1 = 0) → Ct d M_X8_wake NT 0 0 (some lay) [(2, t), (0, p0)] G2 (fun r7 G6 => (p1 = 0 ∨ p1 = 1) ∧ Q p1 G6))))) : Rn (d + 1) M_X8_ask zN 0 [(0, (2, t)), (1, (0, p0)), (2, (0, p1))] [] G Q := by
  refine r_aload_n d_X8_ask_0 0 rfl rfl ?_
  refine r_getL (v := (t + 4)) 8 3 3 rfl d_X8_ask_1 fl_X8_21 (by decide) (bs_ob bt) (ly_8_3 bt).1 (ly_8_3 bt).2.1 ?_
  refine r_iload_n d_X8_ask_4 1 rfl rfl ?_
  refine r_dup2 0 2 rfl rfl (by decide) (by decide) d_X8_ask_5 ?_
  obtain ⟨h1, h⟩ := h
  refine r_iaload d_X8_ask_6 (ly_8_3 bt).2.2 h1 ?_
  refine r_iconst d_X8_ask_7 ?_
  refine r_iadd d_X8_ask_8 ?_
  obtain ⟨G2, eG2⟩ : ∃ y : Mem, y = st G (t + 4) p0 ((G (t + 4) p0) + 1) := ⟨_, rfl⟩
  replace h := h G2 eG2
  refine r_iastore d_X8_ask_9 (ly_8_3 bt).2.2 h1 ?_
  rw [← eG2]
  refine r_iload_n d_X8_ask_10 2 rfl rfl ?_
  obtain ⟨h3, h⟩ := h
  refine r_if_eq (tgt := 22) d_X8_ask_11 (by decide) h3 (fun c4 => ?_) (fun c4 => ?_)
  · replace h := h.1 c4
    refine r_aload_n d_X8_ask_22 0 rfl rfl ?_
    refine r_dup 2 rfl (by decide) d_X8_ask_23 ?_
    refine r_getI 8 9 9 rfl d_X8_ask_24 fl_X8_40 (by decide) (bs_ob bt) ?_
    refine r_iconst d_X8_ask_27 ?_
    refine r_iadd d_X8_ask_28 ?_
    obtain ⟨G5, eG5⟩ : ∃ y : Mem, y = st G2 t 9 ((G2 t 9) + 1) := ⟨_, rfl⟩
    replace h := h G5 eG5
    refine r_putI 8 9 9 rfl d_X8_ask_29 fl_X8_40 (by decide) nofin_8_9 (bs_ob bt) ?_
    rw [← eG5]
    refine r_iload_n d_X8_ask_32 2 rfl rfl ?_
    exact r_zreturn d_X8_ask_33 rfl ⟨rfl, Nat.le_refl _, Nat.le_refl _⟩ h.1 h.2
  · replace h := h.2 c4
    refine r_aload_n d_X8_ask_14 0 rfl rfl ?_
    refine r_iload_n d_X8_ask_15 1 rfl rfl ?_
    refine r_callV0 (M' := M_X8_wake) (ci := 8) [(0, p0)] d_X8_ask_16 cl_X8_76 rfl (Nat.le_of_ble_eq_true rfl) (by decide) rfl (bs_ob bt) ?_
    refine Ct.mono h (fun r7 G6 h => ?_)
    show Rn _ M_X8_ask zN 19 [(0, (2, t)), (1, (0, p0)), (2, (0, p1))] [] G6 Q
    refine r_goto (tgt := 32) d_X8_ask_19 (by decide) ?_
    refine r_iload_n d_X8_ask_32 2 rfl rfl ?_
    exact r_zreturn d_X8_ask_33 rfl ⟨rfl, Nat.le_refl _, Nat.le_refl _⟩ h.1 h.2
theorem d_X8_wake_0 : decode M_X8_wake.2.1 0 = .ok (.aload_n 0, 1) := by decide +kernel
theorem d_X8_wake_1 : decode M_X8_wake.2.1 1 = .ok (.getfield 18, 3) := by decide +kernel
theorem d_X8_wake_4 : decode M_X8_wake.2.1 4 = .ok (.iload_n 1, 1) := by decide +kernel
theorem d_X8_wake_5 : decode M_X8_wake.2.1 5 = .ok (.aload_n 0, 1) := by decide +kernel
theorem d_X8_wake_6 : decode M_X8_wake.2.1 6 = .ok (.getfield 33, 3) := by decide +kernel
theorem d_X8_wake_9 : decode M_X8_wake.2.1 9 = .ok (.iastore, 1) := by decide +kernel
theorem d_X8_wake_10 : decode M_X8_wake.2.1 10 = .ok (.aload_n 0, 1) := by decide +kernel
theorem d_X8_wake_11 : decode M_X8_wake.2.1 11 = .ok (.dup, 1) := by decide +kernel
theorem d_X8_wake_12 : decode M_X8_wake.2.1 12 = .ok (.getfield 37, 3) := by decide +kernel
theorem d_X8_wake_15 : decode M_X8_wake.2.1 15 = .ok (.iconst 1, 1) := by decide +kernel
theorem d_X8_wake_16 : decode M_X8_wake.2.1 16 = .ok (.iadd, 1) := by decide +kernel
theorem d_X8_wake_17 : decode M_X8_wake.2.1 17 = .ok (.putfield 37, 3) := by decide +kernel
theorem d_X8_wake_20 : decode M_X8_wake.2.1 20 = .ok (.return_, 1) := by decide +kernel
set_option maxRecDepth 20000 in
theorem s_X8_wake_0 {d : Nat} {t : Int} {p0 : Int} {G : Mem} {Q : Int → Mem → Prop} (bt : Bs 8 t) (h : (0 ≤ p0 ∧ p0 < 5) ∧ (∀ G2 : Mem, G2 = st G (t + 3) p0 (G t 7) → (∀ G3 : Mem, G3 = st G2 t 8 ((G2 t 8) + 1) → Q 0 G3))) : Rn d M_X8_wake zN 0 [(0, (2, t)), (1, (0, p0))] [] G Q := by
  refine r_aload_n d_X8_wake_0 0 rfl rfl ?_
  refine r_getL (v := (t + 3)) 8 2 2 rfl d_X8_wake_1 fl_X8_18 (by decide) (bs_ob bt) (ly_8_2 bt).1 (ly_8_2 bt).2.1 ?_
  refine r_iload_n d_X8_wake_4 1 rfl rfl ?_
  refine r_aload_n d_X8_wake_5 0 rfl rfl ?_
  refine r_getI 8 7 7 rfl d_X8_wake_6 fl_X8_33 (by decide) (bs_ob bt) ?_
  obtain ⟨h1, h⟩ := h
  obtain ⟨G2, eG2⟩ : ∃ y : Mem, y = st G (t + 3) p0 (G t 7) := ⟨_, rfl⟩
  replace h := h G2 eG2
  refine r_iastore d_X8_wake_9 (ly_8_2 bt).2.2 h1 ?_
  rw [← eG2]
  refine r_aload_n d_X8_wake_10 0 rfl rfl ?_
  refine r_dup 2 rfl (by decide) d_X8_wake_11 ?_
  refine r_getI 8 8 8 rfl d_X8_wake_12 fl_X8_37 (by decide) (bs_ob bt) ?_
  refine r_iconst d_X8_wake_15 ?_
  refine r_iadd d_X8_wake_16 ?_
  obtain ⟨G3, eG3⟩ : ∃ y : Mem, y = st G2 t 8 ((G2 t 8) + 1) := ⟨_, rfl⟩
  replace h := h G3 eG3
  refine r_putI 8 8 8 rfl d_X8_wake_17 fl_X8_37 (by decide) nofin_8_8 (bs_ob bt) ?_
  rw [← eG3]
  exact r_ret d_X8_wake_20 rfl ⟨rfl, Nat.le_refl _, Nat.le_refl _⟩ h
theorem d_X8_spillOn_0 : decode M_X8_spillOn.2.1 0 = .ok (.aload_n 0, 1) := by decide +kernel
theorem d_X8_spillOn_1 : decode M_X8_spillOn.2.1 1 = .ok (.getfield 24, 3) := by decide +kernel
theorem d_X8_spillOn_4 : decode M_X8_spillOn.2.1 4 = .ok (.iload_n 1, 1) := by decide +kernel
theorem d_X8_spillOn_5 : decode M_X8_spillOn.2.1 5 = .ok (.dup2, 1) := by decide +kernel
theorem d_X8_spillOn_6 : decode M_X8_spillOn.2.1 6 = .ok (.iaload, 1) := by decide +kernel
theorem d_X8_spillOn_7 : decode M_X8_spillOn.2.1 7 = .ok (.iconst 1, 1) := by decide +kernel
theorem d_X8_spillOn_8 : decode M_X8_spillOn.2.1 8 = .ok (.iadd, 1) := by decide +kernel
theorem d_X8_spillOn_9 : decode M_X8_spillOn.2.1 9 = .ok (.iastore, 1) := by decide +kernel
theorem d_X8_spillOn_10 : decode M_X8_spillOn.2.1 10 = .ok (.aload_n 0, 1) := by decide +kernel
theorem d_X8_spillOn_11 : decode M_X8_spillOn.2.1 11 = .ok (.dup, 1) := by decide +kernel
theorem d_X8_spillOn_12 : decode M_X8_spillOn.2.1 12 = .ok (.getfield 43, 3) := by decide +kernel
theorem d_X8_spillOn_15 : decode M_X8_spillOn.2.1 15 = .ok (.iconst 1, 1) := by decide +kernel
theorem d_X8_spillOn_16 : decode M_X8_spillOn.2.1 16 = .ok (.iadd, 1) := by decide +kernel
theorem d_X8_spillOn_17 : decode M_X8_spillOn.2.1 17 = .ok (.putfield 43, 3) := by decide +kernel
theorem d_X8_spillOn_20 : decode M_X8_spillOn.2.1 20 = .ok (.aload_n 0, 1) := by decide +kernel
theorem d_X8_spillOn_21 : decode M_X8_spillOn.2.1 21 = .ok (.getfield 30, 3) := by decide +kernel
theorem d_X8_spillOn_24 : decode M_X8_spillOn.2.1 24 = .ok (.iload_n 2, 1) := by decide +kernel
theorem d_X8_spillOn_25 : decode M_X8_spillOn.2.1 25 = .ok (.iconst 0, 1) := by decide +kernel
theorem d_X8_spillOn_26 : decode M_X8_spillOn.2.1 26 = .ok (.iastore, 1) := by decide +kernel
theorem d_X8_spillOn_27 : decode M_X8_spillOn.2.1 27 = .ok (.aload_n 0, 1) := by decide +kernel
theorem d_X8_spillOn_28 : decode M_X8_spillOn.2.1 28 = .ok (.iload_n 1, 1) := by decide +kernel
theorem d_X8_spillOn_29 : decode M_X8_spillOn.2.1 29 = .ok (.invokevirtual 76, 3) := by decide +kernel
theorem d_X8_spillOn_32 : decode M_X8_spillOn.2.1 32 = .ok (.return_, 1) := by decide +kernel
set_option maxRecDepth 20000 in
theorem s_X8_spillOn_0 {d : Nat} {t : Int} {p0 : Int} {p1 : Int} {G : Mem} {Q : Int → Mem → Prop} (bt : Bs 8 t) (h : (0 ≤ p0 ∧ p0 < 5) ∧ ((∀ G2 : Mem, G2 = st G (t + 5) p0 ((G (t + 5) p0) + 1) → (∀ G3 : Mem, G3 = st G2 t 10 ((G2 t 10) + 1) → (0 ≤ p1 ∧ p1 < 5) ∧ (∀ G5 : Mem, G5 = st G3 (t + 7) p1 0 → Ct d M_X8_wake NT 0 0 (some lay) [(2, t), (0, p0)] G5 (fun r7 G6 => Q 0 G6)))))) : Rn (d + 1) M_X8_spillOn zN 0 [(0, (2, t)), (1, (0, p0)), (2, (0, p1))] [] G Q := by
  refine r_aload_n d_X8_spillOn_0 0 rfl rfl ?_
  refine r_getL (v := (t + 5)) 8 4 4 rfl d_X8_spillOn_1 fl_X8_24 (by decide) (bs_ob bt) (ly_8_4 bt).1 (ly_8_4 bt).2.1 ?_
  refine r_iload_n d_X8_spillOn_4 1 rfl rfl ?_
  refine r_dup2 0 2 rfl rfl (by decide) (by decide) d_X8_spillOn_5 ?_
  obtain ⟨h1, h⟩ := h
  refine r_iaload d_X8_spillOn_6 (ly_8_4 bt).2.2 h1 ?_
  refine r_iconst d_X8_spillOn_7 ?_
  refine r_iadd d_X8_spillOn_8 ?_
  obtain ⟨G2, eG2⟩ : ∃ y : Mem, y = st G (t + 5) p0 ((G (t + 5) p0) + 1) := ⟨_, rfl⟩
  replace h := h G2 eG2
  refine r_iastore d_X8_spillOn_9 (ly_8_4 bt).2.2 h1 ?_
  rw [← eG2]
  refine r_aload_n d_X8_spillOn_10 0 rfl rfl ?_
  refine r_dup 2 rfl (by decide) d_X8_spillOn_11 ?_
  refine r_getI 8 10 10 rfl d_X8_spillOn_12 fl_X8_43 (by decide) (bs_ob bt) ?_
  refine r_iconst d_X8_spillOn_15 ?_
  refine r_iadd d_X8_spillOn_16 ?_
  obtain ⟨G3, eG3⟩ : ∃ y : Mem, y = st G2 t 10 ((G2 t 10) + 1) := ⟨_, rfl⟩
  replace h := h G3 eG3
  refine r_putI 8 10 10 rfl d_X8_spillOn_17 fl_X8_43 (by decide) nofin_8_10 (bs_ob bt) ?_
  rw [← eG3]
  refine r_aload_n d_X8_spillOn_20 0 rfl rfl ?_
  refine r_getL (v := (t + 7)) 8 6 6 rfl d_X8_spillOn_21 fl_X8_30 (by decide) (bs_ob bt) (ly_8_6 bt).1 (ly_8_6 bt).2.1 ?_
  refine r_iload_n d_X8_spillOn_24 2 rfl rfl ?_
  refine r_iconst d_X8_spillOn_25 ?_
  obtain ⟨h4, h⟩ := h
  obtain ⟨G5, eG5⟩ : ∃ y : Mem, y = st G3 (t + 7) p1 0 := ⟨_, rfl⟩
  replace h := h G5 eG5
  refine r_iastore d_X8_spillOn_26 (ly_8_6 bt).2.2 h4 ?_
  rw [← eG5]
  refine r_aload_n d_X8_spillOn_27 0 rfl rfl ?_
  refine r_iload_n d_X8_spillOn_28 1 rfl rfl ?_
  refine r_callV0 (M' := M_X8_wake) (ci := 8) [(0, p0)] d_X8_spillOn_29 cl_X8_76 rfl (Nat.le_of_ble_eq_true rfl) (by decide) rfl (bs_ob bt) ?_
  refine Ct.mono h (fun r7 G6 h => ?_)
  show Rn _ M_X8_spillOn zN 32 [(0, (2, t)), (1, (0, p0)), (2, (0, p1))] [] G6 Q
  exact r_ret d_X8_spillOn_32 rfl ⟨rfl, Nat.le_refl _, Nat.le_refl _⟩ h
theorem d_X8_leave_0 : decode M_X8_leave.2.1 0 = .ok (.aload_n 0, 1) := by decide +kernel
theorem d_X8_leave_1 : decode M_X8_leave.2.1 1 = .ok (.getfield 15, 3) := by decide +kernel
theorem d_X8_leave_4 : decode M_X8_leave.2.1 4 = .ok (.iload_n 2, 1) := by decide +kernel
theorem d_X8_leave_5 : decode M_X8_leave.2.1 5 = .ok (.aload_n 1, 1) := by decide +kernel
theorem d_X8_leave_6 : decode M_X8_leave.2.1 6 = .ok (.aload_n 0, 1) := by decide +kernel
theorem d_X8_leave_7 : decode M_X8_leave.2.1 7 = .ok (.getfield 33, 3) := by decide +kernel
theorem d_X8_leave_10 : decode M_X8_leave.2.1 10 = .ok (.aload_n 0, 1) := by decide +kernel
theorem d_X8_leave_11 : decode M_X8_leave.2.1 11 = .ok (.aload_n 1, 1) := by decide +kernel
theorem d_X8_leave_12 : decode M_X8_leave.2.1 12 = .ok (.invokevirtual 80, 3) := by decide +kernel
theorem d_X8_leave_15 : decode M_X8_leave.2.1 15 = .ok (.invokevirtual 84, 3) := by decide +kernel
theorem d_X8_leave_18 : decode M_X8_leave.2.1 18 = .ok (.iastore, 1) := by decide +kernel
theorem d_X8_leave_19 : decode M_X8_leave.2.1 19 = .ok (.aload_n 0, 1) := by decide +kernel
theorem d_X8_leave_20 : decode M_X8_leave.2.1 20 = .ok (.getfield 9, 3) := by decide +kernel
theorem d_X8_leave_23 : decode M_X8_leave.2.1 23 = .ok (.iload_n 2, 1) := by decide +kernel
theorem d_X8_leave_24 : decode M_X8_leave.2.1 24 = .ok (.iconst 0, 1) := by decide +kernel
theorem d_X8_leave_25 : decode M_X8_leave.2.1 25 = .ok (.iastore, 1) := by decide +kernel
theorem d_X8_leave_26 : decode M_X8_leave.2.1 26 = .ok (.return_, 1) := by decide +kernel
set_option maxRecDepth 20000 in
theorem s_X8_leave_0 {d : Nat} {t : Int} {p0 : Int} {p1 : Int} {G : Mem} {Q : Int → Mem → Prop} (bt : Bs 8 t) (bp0 : Bs 1 p0) (h : Ct d M_X8_outside NT 0 0 (some lay) [(2, t), (2, p0)] G (fun r2 G1 => Ct d M_X1_away NT 0 0 (some lay) [(2, p0), (0, (G t 7)), (0, r2)] G1 (fun r4 G3 => (0 ≤ p1 ∧ p1 < 5) ∧ (∀ G6 : Mem, G6 = st G3 (t + 2) p1 r4 → (∀ G7 : Mem, G7 = st G6 (t + 1) p1 0 → Q 0 G7))))) : Rn (d + 1) M_X8_leave zN 0 [(0, (2, t)), (1, (2, p0)), (2, (0, p1))] [] G Q := by
  refine r_aload_n d_X8_leave_0 0 rfl rfl ?_
  refine r_getL (v := (t + 2)) 8 1 1 rfl d_X8_leave_1 fl_X8_15 (by decide) (bs_ob bt) (ly_8_1 bt).1 (ly_8_1 bt).2.1 ?_
  refine r_iload_n d_X8_leave_4 2 rfl rfl ?_
  refine r_aload_n d_X8_leave_5 1 rfl rfl ?_
  refine r_aload_n d_X8_leave_6 0 rfl rfl ?_
  refine r_getI 8 7 7 rfl d_X8_leave_7 fl_X8_33 (by decide) (bs_ob bt) ?_
  refine r_aload_n d_X8_leave_10 0 rfl rfl ?_
  refine r_aload_n d_X8_leave_11 1 rfl rfl ?_
  refine r_callV0 (M' := M_X8_outside) (ci := 8) [(2, p0)] d_X8_leave_12 cl_X8_80 rfl (Nat.le_of_ble_eq_true rfl) (by decide) rfl (bs_ob bt) ?_
  refine Ct.mono h (fun r2 G1 h => ?_)
  show Rn _ M_X8_leave zN 15 [(0, (2, t)), (1, (2, p0)), (2, (0, p1))] [(0, r2), (0, (G t 7)), (2, p0), (0, p1), (2, (t + 2))] G1 Q
  refine r_callV0 (M' := M_X1_away) (ci := 1) [(0, (G t 7)), (0, r2)] d_X8_leave_15 cl_X8_84 rfl (Nat.le_of_ble_eq_true rfl) (by decide) rfl (bs_ob bp0) ?_
  refine Ct.mono h (fun r4 G3 h => ?_)
  show Rn _ M_X8_leave zN 18 [(0, (2, t)), (1, (2, p0)), (2, (0, p1))] [(0, r4), (0, p1), (2, (t + 2))] G3 Q
  obtain ⟨h5, h⟩ := h
  obtain ⟨G6, eG6⟩ : ∃ y : Mem, y = st G3 (t + 2) p1 r4 := ⟨_, rfl⟩
  replace h := h G6 eG6
  refine r_iastore d_X8_leave_18 (ly_8_1 bt).2.2 h5 ?_
  rw [← eG6]
  refine r_aload_n d_X8_leave_19 0 rfl rfl ?_
  refine r_getL (v := (t + 1)) 8 0 0 rfl d_X8_leave_20 fl_X8_9 (by decide) (bs_ob bt) (ly_8_0 bt).1 (ly_8_0 bt).2.1 ?_
  refine r_iload_n d_X8_leave_23 2 rfl rfl ?_
  refine r_iconst d_X8_leave_24 ?_
  obtain ⟨G7, eG7⟩ : ∃ y : Mem, y = st G6 (t + 1) p1 0 := ⟨_, rfl⟩
  replace h := h G7 eG7
  refine r_iastore d_X8_leave_25 (ly_8_0 bt).2.2 h5 ?_
  rw [← eG7]
  exact r_ret d_X8_leave_26 rfl ⟨rfl, Nat.le_refl _, Nat.le_refl _⟩ h
theorem d_X8_outside_0 : decode M_X8_outside.2.1 0 = .ok (.iconst 0, 1) := by decide +kernel
theorem d_X8_outside_1 : decode M_X8_outside.2.1 1 = .ok (.istore_n 2, 1) := by decide +kernel
theorem d_X8_outside_2 : decode M_X8_outside.2.1 2 = .ok (.iconst 0, 1) := by decide +kernel
theorem d_X8_outside_3 : decode M_X8_outside.2.1 3 = .ok (.istore_n 3, 1) := by decide +kernel
theorem d_X8_outside_4 : decode M_X8_outside.2.1 4 = .ok (.iload_n 3, 1) := by decide +kernel
theorem d_X8_outside_5 : decode M_X8_outside.2.1 5 = .ok (.aload_n 1, 1) := by decide +kernel
theorem d_X8_outside_6 : decode M_X8_outside.2.1 6 = .ok (.getfield 88, 3) := by decide +kernel
theorem d_X8_outside_9 : decode M_X8_outside.2.1 9 = .ok (.if_icmp .ge 21, 3) := by decide +kernel
theorem d_X8_outside_12 : decode M_X8_outside.2.1 12 = .ok (.aload_n 0, 1) := by decide +kernel
theorem d_X8_outside_13 : decode M_X8_outside.2.1 13 = .ok (.getfield 15, 3) := by decide +kernel
theorem d_X8_outside_16 : decode M_X8_outside.2.1 16 = .ok (.iload_n 3, 1) := by decide +kernel
theorem d_X8_outside_17 : decode M_X8_outside.2.1 17 = .ok (.iaload, 1) := by decide +kernel
theorem d_X8_outside_18 : decode M_X8_outside.2.1 18 = .ok (.ifCond .eq 6, 3) := by decide +kernel
theorem d_X8_outside_21 : decode M_X8_outside.2.1 21 = .ok (.iinc 2 1, 3) := by decide +kernel
theorem d_X8_outside_24 : decode M_X8_outside.2.1 24 = .ok (.iinc 3 1, 3) := by decide +kernel
theorem d_X8_outside_27 : decode M_X8_outside.2.1 27 = .ok (.goto (-23), 3) := by decide +kernel
theorem d_X8_outside_30 : decode M_X8_outside.2.1 30 = .ok (.iload_n 2, 1) := by decide +kernel
theorem d_X8_outside_31 : decode M_X8_outside.2.1 31 = .ok (.ireturn, 1) := by decide +kernel
set_option maxRecDepth 20000 in
theorem s_X8_outside_0 {d : Nat} {t : Int} {p0 : Int} {G : Mem} {Q : Int → Mem → Prop} (bt : Bs 8 t) (bp0 : Bs 1 p0) (h : Rn d M_X8_outside zN 4 [(0, (2, t)), (1, (2, p0)), (2, (0, 0)), (3, (0, 0))] [] G Q) : Rn d M_X8_outside zN 0 [(0, (2, t)), (1, (2, p0))] [] G Q := by
  refine r_iconst d_X8_outside_0 ?_
  refine r_istore_n (ls1 := [(2, (0, 0)), (0, (2, t)), (1, (2, p0))]) d_X8_outside_1 rfl (by decide) rfl ?_
  refine r_iconst d_X8_outside_2 ?_
  refine r_istore_n (ls1 := [(3, (0, 0)), (2, (0, 0)), (0, (2, t)), (1, (2, p0))]) d_X8_outside_3 rfl (by decide) rfl ?_
  exact Rn.sub [2, 3, 1, 0] rfl h
set_option maxRecDepth 20000 in
theorem s_X8_outside_4 {d : Nat} {x0 : Int} {x1 : Int} {x2 : Int} {x3 : Int} {G : Mem} {Q : Int → Mem → Prop} (bx0 : Bs 8 x0) (bx1 : Bs 1 x1) (h : (InR x3) ∧ (InR (G x1 8)) ∧ (((G x1 8) ≤ x3) → Q x2 G) ∧ (¬ ((G x1 8) ≤ x3) → (0 ≤ x3 ∧ x3 < 5) ∧ ((InR (G (x0 + 2) x3)) ∧ (((G (x0 + 2) x3) = 0) → Rn d M_X8_outside zN 4 [(0, (2, x0)), (1, (2, x1)), (2, (0, x2)), (3, (0, (x3 + 1)))] [] G Q) ∧ (¬ ((G (x0 + 2) x3) = 0) → Rn d M_X8_outside zN 4 [(0, (2, x0)), (1, (2, x1)), (2, (0, (x2 + 1))), (3, (0, (x3 + 1)))] [] G Q)))) : Rn d M_X8_outside zN 4 [(0, (2, x0)), (1, (2, x1)), (2, (0, x2)), (3, (0, x3))] [] G Q := by
  refine r_iload_n d_X8_outside_4 3 rfl rfl ?_
  refine r_aload_n d_X8_outside_5 1 rfl rfl ?_
  refine r_getI 1 8 8 rfl d_X8_outside_6 fl_X8_88 (by decide) (bs_ob bx1) ?_
  obtain ⟨h1, h⟩ := h
  obtain ⟨h2, h⟩ := h
  refine r_icmp_ge (tgt := 30) d_X8_outside_9 (by decide) h1 h2 (fun c3 => ?_) (fun c3 => ?_)
  · replace h := h.1 c3
    refine r_iload_n d_X8_outside_30 2 rfl rfl ?_
    exact r_ireturn d_X8_outside_31 rfl ⟨rfl, Nat.le_refl _, Nat.le_refl _⟩ h
  · replace h := h.2 c3
    refine r_aload_n d_X8_outside_12 0 rfl rfl ?_
    refine r_getL (v := (x0 + 2)) 8 1 1 rfl d_X8_outside_13 fl_X8_15 (by decide) (bs_ob bx0) (ly_8_1 bx0).1 (ly_8_1 bx0).2.1 ?_
    refine r_iload_n d_X8_outside_16 3 rfl rfl ?_
    obtain ⟨h4, h⟩ := h
    refine r_iaload d_X8_outside_17 (ly_8_1 bx0).2.2 h4 ?_
    obtain ⟨h5, h⟩ := h
    refine r_if_eq (tgt := 24) d_X8_outside_18 (by decide) h5 (fun c6 => ?_) (fun c6 => ?_)
    · replace h := h.1 c6
      refine r_iinc (ls1 := [(3, (0, (x3 + 1))), (0, (2, x0)), (1, (2, x1)), (2, (0, x2))]) d_X8_outside_24 3 rfl (by decide) rfl ?_
      refine r_goto (tgt := 4) d_X8_outside_27 (by decide) ?_
      exact Rn.sub [1, 2, 3, 0] rfl h
    · replace h := h.2 c6
      refine r_iinc (ls1 := [(2, (0, (x2 + 1))), (0, (2, x0)), (1, (2, x1)), (3, (0, x3))]) d_X8_outside_21 2 rfl (by decide) rfl ?_
      refine r_iinc (ls1 := [(3, (0, (x3 + 1))), (2, (0, (x2 + 1))), (0, (2, x0)), (1, (2, x1))]) d_X8_outside_24 3 rfl (by decide) rfl ?_
      refine r_goto (tgt := 4) d_X8_outside_27 (by decide) ?_
      exact Rn.sub [2, 3, 1, 0] rfl h
theorem d_X8_cups_0 : decode M_X8_cups.2.1 0 = .ok (.iconst 0, 1) := by decide +kernel
theorem d_X8_cups_1 : decode M_X8_cups.2.1 1 = .ok (.istore_n 1, 1) := by decide +kernel
theorem d_X8_cups_2 : decode M_X8_cups.2.1 2 = .ok (.iconst 0, 1) := by decide +kernel
theorem d_X8_cups_3 : decode M_X8_cups.2.1 3 = .ok (.istore_n 2, 1) := by decide +kernel
theorem d_X8_cups_4 : decode M_X8_cups.2.1 4 = .ok (.iload_n 2, 1) := by decide +kernel
theorem d_X8_cups_5 : decode M_X8_cups.2.1 5 = .ok (.aload_n 0, 1) := by decide +kernel
theorem d_X8_cups_6 : decode M_X8_cups.2.1 6 = .ok (.getfield 30, 3) := by decide +kernel
theorem d_X8_cups_9 : decode M_X8_cups.2.1 9 = .ok (.arraylength, 1) := by decide +kernel
theorem d_X8_cups_10 : decode M_X8_cups.2.1 10 = .ok (.if_icmp .ge 18, 3) := by decide +kernel
theorem d_X8_cups_13 : decode M_X8_cups.2.1 13 = .ok (.iload_n 1, 1) := by decide +kernel
theorem d_X8_cups_14 : decode M_X8_cups.2.1 14 = .ok (.aload_n 0, 1) := by decide +kernel
theorem d_X8_cups_15 : decode M_X8_cups.2.1 15 = .ok (.getfield 30, 3) := by decide +kernel
theorem d_X8_cups_18 : decode M_X8_cups.2.1 18 = .ok (.iload_n 2, 1) := by decide +kernel
theorem d_X8_cups_19 : decode M_X8_cups.2.1 19 = .ok (.iaload, 1) := by decide +kernel
theorem d_X8_cups_20 : decode M_X8_cups.2.1 20 = .ok (.iadd, 1) := by decide +kernel
theorem d_X8_cups_21 : decode M_X8_cups.2.1 21 = .ok (.istore_n 1, 1) := by decide +kernel
theorem d_X8_cups_22 : decode M_X8_cups.2.1 22 = .ok (.iinc 2 1, 3) := by decide +kernel
theorem d_X8_cups_25 : decode M_X8_cups.2.1 25 = .ok (.goto (-21), 3) := by decide +kernel
theorem d_X8_cups_28 : decode M_X8_cups.2.1 28 = .ok (.iload_n 1, 1) := by decide +kernel
theorem d_X8_cups_29 : decode M_X8_cups.2.1 29 = .ok (.ireturn, 1) := by decide +kernel
set_option maxRecDepth 20000 in
theorem s_X8_cups_0 {d : Nat} {t : Int} {G : Mem} {Q : Int → Mem → Prop} (bt : Bs 8 t) (h : Rn d M_X8_cups zN 4 [(0, (2, t)), (1, (0, 0)), (2, (0, 0))] [] G Q) : Rn d M_X8_cups zN 0 [(0, (2, t))] [] G Q := by
  refine r_iconst d_X8_cups_0 ?_
  refine r_istore_n (ls1 := [(1, (0, 0)), (0, (2, t))]) d_X8_cups_1 rfl (by decide) rfl ?_
  refine r_iconst d_X8_cups_2 ?_
  refine r_istore_n (ls1 := [(2, (0, 0)), (1, (0, 0)), (0, (2, t))]) d_X8_cups_3 rfl (by decide) rfl ?_
  exact Rn.sub [2, 1, 0] rfl h
set_option maxRecDepth 20000 in
theorem s_X8_cups_4 {d : Nat} {x0 : Int} {x1 : Int} {x2 : Int} {G : Mem} {Q : Int → Mem → Prop} (bx0 : Bs 8 x0) (h : (InR x2) ∧ ((5 ≤ x2) → Q x1 G) ∧ (¬ (5 ≤ x2) → (0 ≤ x2 ∧ x2 < 5) ∧ (Rn d M_X8_cups zN 4 [(0, (2, x0)), (1, (0, (x1 + (G (x0 + 7) x2)))), (2, (0, (x2 + 1)))] [] G Q))) : Rn d M_X8_cups zN 4 [(0, (2, x0)), (1, (0, x1)), (2, (0, x2))] [] G Q := by
  refine r_iload_n d_X8_cups_4 2 rfl rfl ?_
  refine r_aload_n d_X8_cups_5 0 rfl rfl ?_
  refine r_getL (v := (x0 + 7)) 8 6 6 rfl d_X8_cups_6 fl_X8_30 (by decide) (bs_ob bx0) (ly_8_6 bx0).1 (ly_8_6 bx0).2.1 ?_
  refine r_alen 5 rfl d_X8_cups_9 (ly_8_6 bx0).2.2 ?_
  obtain ⟨h1, h⟩ := h
  refine r_icmp_ge (tgt := 28) d_X8_cups_10 (by decide) h1 ⟨by decide, by decide⟩ (fun c2 => ?_) (fun c2 => ?_)
  · replace h := h.1 c2
    refine r_iload_n d_X8_cups_28 1 rfl rfl ?_
    exact r_ireturn d_X8_cups_29 rfl ⟨rfl, Nat.le_refl _, Nat.le_refl _⟩ h
  · replace h := h.2 c2
    refine r_iload_n d_X8_cups_13 1 rfl rfl ?_
    refine r_aload_n d_X8_cups_14 0 rfl rfl ?_
    refine r_getL (v := (x0 + 7)) 8 6 6 rfl d_X8_cups_15 fl_X8_30 (by decide) (bs_ob bx0) (ly_8_6 bx0).1 (ly_8_6 bx0).2.1 ?_
    refine r_iload_n d_X8_cups_18 2 rfl rfl ?_
    obtain ⟨h3, h⟩ := h
    refine r_iaload d_X8_cups_19 (ly_8_6 bx0).2.2 h3 ?_
    refine r_iadd d_X8_cups_20 ?_
    refine r_istore_n (ls1 := [(1, (0, (x1 + (G (x0 + 7) x2)))), (0, (2, x0)), (2, (0, x2))]) d_X8_cups_21 rfl (by decide) rfl ?_
    refine r_iinc (ls1 := [(2, (0, (x2 + 1))), (1, (0, (x1 + (G (x0 + 7) x2)))), (0, (2, x0))]) d_X8_cups_22 2 rfl (by decide) rfl ?_
    refine r_goto (tgt := 4) d_X8_cups_25 (by decide) ?_
    exact Rn.sub [2, 1, 0] rfl h
theorem d_X8_needIn_0 : decode M_X8_needIn.2.1 0 = .ok (.iconst 0, 1) := by decide +kernel
theorem d_X8_needIn_1 : decode M_X8_needIn.2.1 1 = .ok (.iload_n 3, 1) := by decide +kernel
theorem d_X8_needIn_2 : decode M_X8_needIn.2.1 2 = .ok (.iconst 0, 1) := by decide +kernel
theorem d_X8_needIn_3 : decode M_X8_needIn.2.1 3 = .ok (.aload_n 0, 1) := by decide +kernel
theorem d_X8_needIn_4 : decode M_X8_needIn.2.1 4 = .ok (.getfield 15, 3) := by decide +kernel
theorem d_X8_needIn_7 : decode M_X8_needIn.2.1 7 = .ok (.iload_n 2, 1) := by decide +kernel
theorem d_X8_needIn_8 : decode M_X8_needIn.2.1 8 = .ok (.iaload, 1) := by decide +kernel
theorem d_X8_needIn_9 : decode M_X8_needIn.2.1 9 = .ok (.invokestatic 91, 3) := by decide +kernel
theorem d_X8_needIn_12 : decode M_X8_needIn.2.1 12 = .ok (.isub, 1) := by decide +kernel
theorem d_X8_needIn_13 : decode M_X8_needIn.2.1 13 = .ok (.invokestatic 91, 3) := by decide +kernel
theorem d_X8_needIn_16 : decode M_X8_needIn.2.1 16 = .ok (.istore 4, 2) := by decide +kernel
theorem d_X8_needIn_18 : decode M_X8_needIn.2.1 18 = .ok (.sipush 199, 3) := by decide +kernel
theorem d_X8_needIn_21 : decode M_X8_needIn.2.1 21 = .ok (.aload_n 0, 1) := by decide +kernel
theorem d_X8_needIn_22 : decode M_X8_needIn.2.1 22 = .ok (.getfield 9, 3) := by decide +kernel
theorem d_X8_needIn_25 : decode M_X8_needIn.2.1 25 = .ok (.iload_n 2, 1) := by decide +kernel
theorem d_X8_needIn_26 : decode M_X8_needIn.2.1 26 = .ok (.iaload, 1) := by decide +kernel
theorem d_X8_needIn_27 : decode M_X8_needIn.2.1 27 = .ok (.iload 4, 2) := by decide +kernel
theorem d_X8_needIn_29 : decode M_X8_needIn.2.1 29 = .ok (.aload_n 1, 1) := by decide +kernel
theorem d_X8_needIn_30 : decode M_X8_needIn.2.1 30 = .ok (.getfield 64, 3) := by decide +kernel
theorem d_X8_needIn_33 : decode M_X8_needIn.2.1 33 = .ok (.iload_n 2, 1) := by decide +kernel
theorem d_X8_needIn_34 : decode M_X8_needIn.2.1 34 = .ok (.aaload, 1) := by decide +kernel
theorem d_X8_needIn_35 : decode M_X8_needIn.2.1 35 = .ok (.iconst 0, 1) := by decide +kernel
theorem d_X8_needIn_36 : decode M_X8_needIn.2.1 36 = .ok (.invokevirtual 96, 3) := by decide +kernel
theorem d_X8_needIn_39 : decode M_X8_needIn.2.1 39 = .ok (.imul, 1) := by decide +kernel
theorem d_X8_needIn_40 : decode M_X8_needIn.2.1 40 = .ok (.iadd, 1) := by decide +kernel
theorem d_X8_needIn_41 : decode M_X8_needIn.2.1 41 = .ok (.invokestatic 100, 3) := by decide +kernel
theorem d_X8_needIn_44 : decode M_X8_needIn.2.1 44 = .ok (.ireturn, 1) := by decide +kernel
set_option maxRecDepth 20000 in
theorem s_X8_needIn_0 {d : Nat} {t : Int} {p0 : Int} {p1 : Int} {p2 : Int} {G : Mem} {Q : Int → Mem → Prop} (bt : Bs 8 t) (bp0 : Bs 1 p0) (h : (0 ≤ p1 ∧ p1 < 5) ∧ ((InR (G (t + 2) p1)) ∧ ((InR (p2 - (max 0 (G (t + 2) p1)))) ∧ (Ct d M_X7_growth NT 0 0 (some lay) [(2, ((p0 + 13) + p1)), (0, 0)] G (fun r5 G4 => (InR ((G (t + 1) p1) + ((max 0 (p2 - (max 0 (G (t + 2) p1)))) * r5))) ∧ (Q (min 199 ((G (t + 1) p1) + ((max 0 (p2 - (max 0 (G (t + 2) p1)))) * r5))) G4)))))) : Rn (d + 1) M_X8_needIn zN 0 [(0, (2, t)), (1, (2, p0)), (2, (0, p1)), (3, (0, p2))] [] G Q := by
  refine r_iconst d_X8_needIn_0 ?_
  refine r_iload_n d_X8_needIn_1 3 rfl rfl ?_
  refine r_iconst d_X8_needIn_2 ?_
  refine r_aload_n d_X8_needIn_3 0 rfl rfl ?_
  refine r_getL (v := (t + 2)) 8 1 1 rfl d_X8_needIn_4 fl_X8_15 (by decide) (bs_ob bt) (ly_8_1 bt).1 (ly_8_1 bt).2.1 ?_
  refine r_iload_n d_X8_needIn_7 2 rfl rfl ?_
  obtain ⟨h1, h⟩ := h
  refine r_iaload d_X8_needIn_8 (ly_8_1 bt).2.2 h1 ?_
  obtain ⟨h2, h⟩ := h
  refine r_mmax d_X8_needIn_9 ml_X8_91 ⟨by decide, by decide⟩ h2 (Nat.le_of_ble_eq_true rfl) ?_
  refine r_isub d_X8_needIn_12 ?_
  obtain ⟨h3, h⟩ := h
  refine r_mmax d_X8_needIn_13 ml_X8_91 ⟨by decide, by decide⟩ h3 (Nat.le_of_ble_eq_true rfl) ?_
  refine r_istore (ls1 := [(4, (0, (max 0 (p2 - (max 0 (G (t + 2) p1)))))), (0, (2, t)), (1, (2, p0)), (2, (0, p1)), (3, (0, p2))]) d_X8_needIn_16 (by decide) rfl ?_
  refine r_sipush d_X8_needIn_18 (by decide +kernel) ?_
  refine r_aload_n d_X8_needIn_21 1 rfl rfl ?_
  refine r_getL (v := (t + 1)) 8 0 0 rfl d_X8_needIn_22 fl_X8_9 (by decide) (bs_ob bt) (ly_8_0 bt).1 (ly_8_0 bt).2.1 ?_
  refine r_iload_n d_X8_needIn_25 3 rfl rfl ?_
  refine r_iaload d_X8_needIn_26 (ly_8_0 bt).2.2 h1 ?_
  refine r_iload d_X8_needIn_27 0 rfl ?_
  refine r_aload_n d_X8_needIn_29 2 rfl rfl ?_
  refine r_getL (v := (p0 + 1)) 1 0 0 rfl d_X8_needIn_30 fl_X8_64 (by decide) (bs_ob bp0) (ly_1_0 bp0).1 (ly_1_0 bp0).2.1 ?_
  refine r_iload_n d_X8_needIn_33 3 rfl rfl ?_
  refine r_aaloadL (v := ((p0 + 13) + p1)) d_X8_needIn_34 (ly_1_0 bp0).2.2 (by decide) rfl h1 (el_1_0 bp0 h1.1 h1.2).1 (el_1_0 bp0 h1.1 h1.2).2.1 ?_
  refine r_iconst d_X8_needIn_35 ?_
  refine r_callV0 (M' := M_X7_growth) (ci := 7) [(0, 0)] d_X8_needIn_36 cl_X8_96 rfl (Nat.le_of_ble_eq_true rfl) (by decide) rfl (bs_ob (el_1_0 bp0 h1.1 h1.2).2.2) ?_
  refine Ct.mono h (fun r5 G4 h => ?_)
  show Rn _ M_X8_needIn zN 39 [(4, (0, (max 0 (p2 - (max 0 (G (t + 2) p1)))))), (0, (2, t)), (1, (2, p0)), (2, (0, p1)), (3, (0, p2))] [(0, r5), (0, (max 0 (p2 - (max 0 (G (t + 2) p1))))), (0, (G (t + 1) p1)), (0, 199)] G4 Q
  refine r_imul d_X8_needIn_39 ?_
  refine r_iadd d_X8_needIn_40 ?_
  obtain ⟨h6, h⟩ := h
  refine r_mmin d_X8_needIn_41 ml_X8_100 ⟨by decide, by decide⟩ h6 (Nat.le_of_ble_eq_true rfl) ?_
  exact r_ireturn d_X8_needIn_44 rfl ⟨rfl, Nat.le_refl _, Nat.le_refl _⟩ h
theorem d_X8_pass_0 : decode M_X8_pass.2.1 0 = .ok (.iconst 0, 1) := by decide +kernel
theorem d_X8_pass_1 : decode M_X8_pass.2.1 1 = .ok (.istore_n 3, 1) := by decide +kernel
theorem d_X8_pass_2 : decode M_X8_pass.2.1 2 = .ok (.iload_n 3, 1) := by decide +kernel
theorem d_X8_pass_3 : decode M_X8_pass.2.1 3 = .ok (.aload_n 1, 1) := by decide +kernel
theorem d_X8_pass_4 : decode M_X8_pass.2.1 4 = .ok (.getfield 88, 3) := by decide +kernel
theorem d_X8_pass_7 : decode M_X8_pass.2.1 7 = .ok (.if_icmp .ge 131, 3) := by decide +kernel
theorem d_X8_pass_10 : decode M_X8_pass.2.1 10 = .ok (.aload_n 1, 1) := by decide +kernel
theorem d_X8_pass_11 : decode M_X8_pass.2.1 11 = .ok (.getfield 64, 3) := by decide +kernel
theorem d_X8_pass_14 : decode M_X8_pass.2.1 14 = .ok (.iload_n 3, 1) := by decide +kernel
theorem d_X8_pass_15 : decode M_X8_pass.2.1 15 = .ok (.aaload, 1) := by decide +kernel
theorem d_X8_pass_16 : decode M_X8_pass.2.1 16 = .ok (.astore 4, 2) := by decide +kernel
theorem d_X8_pass_18 : decode M_X8_pass.2.1 18 = .ok (.aload_n 0, 1) := by decide +kernel
theorem d_X8_pass_19 : decode M_X8_pass.2.1 19 = .ok (.getfield 15, 3) := by decide +kernel
theorem d_X8_pass_22 : decode M_X8_pass.2.1 22 = .ok (.iload_n 3, 1) := by decide +kernel
theorem d_X8_pass_23 : decode M_X8_pass.2.1 23 = .ok (.iaload, 1) := by decide +kernel
theorem d_X8_pass_24 : decode M_X8_pass.2.1 24 = .ok (.ifCond .gt 37, 3) := by decide +kernel
theorem d_X8_pass_27 : decode M_X8_pass.2.1 27 = .ok (.aload_n 0, 1) := by decide +kernel
theorem d_X8_pass_28 : decode M_X8_pass.2.1 28 = .ok (.getfield 9, 3) := by decide +kernel
theorem d_X8_pass_31 : decode M_X8_pass.2.1 31 = .ok (.iload_n 3, 1) := by decide +kernel
theorem d_X8_pass_32 : decode M_X8_pass.2.1 32 = .ok (.sipush 199, 3) := by decide +kernel
theorem d_X8_pass_35 : decode M_X8_pass.2.1 35 = .ok (.aload_n 0, 1) := by decide +kernel
theorem d_X8_pass_36 : decode M_X8_pass.2.1 36 = .ok (.getfield 9, 3) := by decide +kernel
theorem d_X8_pass_39 : decode M_X8_pass.2.1 39 = .ok (.iload_n 3, 1) := by decide +kernel
theorem d_X8_pass_40 : decode M_X8_pass.2.1 40 = .ok (.iaload, 1) := by decide +kernel
theorem d_X8_pass_41 : decode M_X8_pass.2.1 41 = .ok (.aload 4, 2) := by decide +kernel
theorem d_X8_pass_43 : decode M_X8_pass.2.1 43 = .ok (.iload_n 3, 1) := by decide +kernel
theorem d_X8_pass_44 : decode M_X8_pass.2.1 44 = .ok (.iload_n 2, 1) := by decide +kernel
theorem d_X8_pass_45 : decode M_X8_pass.2.1 45 = .ok (.if_icmp .ne 7, 3) := by decide +kernel
theorem d_X8_pass_48 : decode M_X8_pass.2.1 48 = .ok (.iconst 1, 1) := by decide +kernel
theorem d_X8_pass_49 : decode M_X8_pass.2.1 49 = .ok (.goto 4, 3) := by decide +kernel
theorem d_X8_pass_52 : decode M_X8_pass.2.1 52 = .ok (.iconst 0, 1) := by decide +kernel
theorem d_X8_pass_53 : decode M_X8_pass.2.1 53 = .ok (.invokevirtual 96, 3) := by decide +kernel
theorem d_X8_pass_56 : decode M_X8_pass.2.1 56 = .ok (.iadd, 1) := by decide +kernel
theorem d_X8_pass_57 : decode M_X8_pass.2.1 57 = .ok (.invokestatic 100, 3) := by decide +kernel
theorem d_X8_pass_60 : decode M_X8_pass.2.1 60 = .ok (.iastore, 1) := by decide +kernel
theorem d_X8_pass_61 : decode M_X8_pass.2.1 61 = .ok (.aload_n 0, 1) := by decide +kernel
theorem d_X8_pass_62 : decode M_X8_pass.2.1 62 = .ok (.getfield 9, 3) := by decide +kernel
theorem d_X8_pass_65 : decode M_X8_pass.2.1 65 = .ok (.iload_n 3, 1) := by decide +kernel
theorem d_X8_pass_66 : decode M_X8_pass.2.1 66 = .ok (.iaload, 1) := by decide +kernel
theorem d_X8_pass_67 : decode M_X8_pass.2.1 67 = .ok (.aload 4, 2) := by decide +kernel
theorem d_X8_pass_69 : decode M_X8_pass.2.1 69 = .ok (.getfield 103, 3) := by decide +kernel
theorem d_X8_pass_72 : decode M_X8_pass.2.1 72 = .ok (.if_icmp .le 23, 3) := by decide +kernel
theorem d_X8_pass_75 : decode M_X8_pass.2.1 75 = .ok (.aload_n 0, 1) := by decide +kernel
theorem d_X8_pass_76 : decode M_X8_pass.2.1 76 = .ok (.getfield 27, 3) := by decide +kernel
theorem d_X8_pass_79 : decode M_X8_pass.2.1 79 = .ok (.iload_n 3, 1) := by decide +kernel
theorem d_X8_pass_80 : decode M_X8_pass.2.1 80 = .ok (.dup2, 1) := by decide +kernel
theorem d_X8_pass_81 : decode M_X8_pass.2.1 81 = .ok (.iaload, 1) := by decide +kernel
theorem d_X8_pass_82 : decode M_X8_pass.2.1 82 = .ok (.iconst 1, 1) := by decide +kernel
theorem d_X8_pass_83 : decode M_X8_pass.2.1 83 = .ok (.iadd, 1) := by decide +kernel
theorem d_X8_pass_84 : decode M_X8_pass.2.1 84 = .ok (.iastore, 1) := by decide +kernel
theorem d_X8_pass_85 : decode M_X8_pass.2.1 85 = .ok (.aload_n 0, 1) := by decide +kernel
theorem d_X8_pass_86 : decode M_X8_pass.2.1 86 = .ok (.dup, 1) := by decide +kernel
theorem d_X8_pass_87 : decode M_X8_pass.2.1 87 = .ok (.getfield 46, 3) := by decide +kernel
theorem d_X8_pass_90 : decode M_X8_pass.2.1 90 = .ok (.iconst 1, 1) := by decide +kernel
theorem d_X8_pass_91 : decode M_X8_pass.2.1 91 = .ok (.iadd, 1) := by decide +kernel
theorem d_X8_pass_92 : decode M_X8_pass.2.1 92 = .ok (.putfield 46, 3) := by decide +kernel
theorem d_X8_pass_95 : decode M_X8_pass.2.1 95 = .ok (.aload_n 0, 1) := by decide +kernel
theorem d_X8_pass_96 : decode M_X8_pass.2.1 96 = .ok (.getfield 15, 3) := by decide +kernel
theorem d_X8_pass_99 : decode M_X8_pass.2.1 99 = .ok (.iload_n 3, 1) := by decide +kernel
theorem d_X8_pass_100 : decode M_X8_pass.2.1 100 = .ok (.iaload, 1) := by decide +kernel
theorem d_X8_pass_101 : decode M_X8_pass.2.1 101 = .ok (.ifCond .le 31, 3) := by decide +kernel
theorem d_X8_pass_104 : decode M_X8_pass.2.1 104 = .ok (.aload_n 0, 1) := by decide +kernel
theorem d_X8_pass_105 : decode M_X8_pass.2.1 105 = .ok (.getfield 15, 3) := by decide +kernel
theorem d_X8_pass_108 : decode M_X8_pass.2.1 108 = .ok (.iload_n 3, 1) := by decide +kernel
theorem d_X8_pass_109 : decode M_X8_pass.2.1 109 = .ok (.aload_n 0, 1) := by decide +kernel
theorem d_X8_pass_110 : decode M_X8_pass.2.1 110 = .ok (.getfield 15, 3) := by decide +kernel
theorem d_X8_pass_113 : decode M_X8_pass.2.1 113 = .ok (.iload_n 3, 1) := by decide +kernel
theorem d_X8_pass_114 : decode M_X8_pass.2.1 114 = .ok (.iaload, 1) := by decide +kernel
theorem d_X8_pass_115 : decode M_X8_pass.2.1 115 = .ok (.iconst 1, 1) := by decide +kernel
theorem d_X8_pass_116 : decode M_X8_pass.2.1 116 = .ok (.if_icmp .ne 7, 3) := by decide +kernel
theorem d_X8_pass_119 : decode M_X8_pass.2.1 119 = .ok (.iconst (-1), 1) := by decide +kernel
theorem d_X8_pass_120 : decode M_X8_pass.2.1 120 = .ok (.goto 11, 3) := by decide +kernel
theorem d_X8_pass_123 : decode M_X8_pass.2.1 123 = .ok (.aload_n 0, 1) := by decide +kernel
theorem d_X8_pass_124 : decode M_X8_pass.2.1 124 = .ok (.getfield 15, 3) := by decide +kernel
theorem d_X8_pass_127 : decode M_X8_pass.2.1 127 = .ok (.iload_n 3, 1) := by decide +kernel
theorem d_X8_pass_128 : decode M_X8_pass.2.1 128 = .ok (.iaload, 1) := by decide +kernel
theorem d_X8_pass_129 : decode M_X8_pass.2.1 129 = .ok (.iconst 1, 1) := by decide +kernel
theorem d_X8_pass_130 : decode M_X8_pass.2.1 130 = .ok (.isub, 1) := by decide +kernel
theorem d_X8_pass_131 : decode M_X8_pass.2.1 131 = .ok (.iastore, 1) := by decide +kernel
theorem d_X8_pass_132 : decode M_X8_pass.2.1 132 = .ok (.iinc 3 1, 3) := by decide +kernel
theorem d_X8_pass_135 : decode M_X8_pass.2.1 135 = .ok (.goto (-133), 3) := by decide +kernel
theorem d_X8_pass_138 : decode M_X8_pass.2.1 138 = .ok (.aload_n 0, 1) := by decide +kernel
theorem d_X8_pass_139 : decode M_X8_pass.2.1 139 = .ok (.dup, 1) := by decide +kernel
theorem d_X8_pass_140 : decode M_X8_pass.2.1 140 = .ok (.getfield 33, 3) := by decide +kernel
theorem d_X8_pass_143 : decode M_X8_pass.2.1 143 = .ok (.iconst 1, 1) := by decide +kernel
theorem d_X8_pass_144 : decode M_X8_pass.2.1 144 = .ok (.iadd, 1) := by decide +kernel
theorem d_X8_pass_145 : decode M_X8_pass.2.1 145 = .ok (.putfield 33, 3) := by decide +kernel
theorem d_X8_pass_148 : decode M_X8_pass.2.1 148 = .ok (.return_, 1) := by decide +kernel
set_option maxRecDepth 20000 in
theorem s_X8_pass_0 {d : Nat} {t : Int} {p0 : Int} {p1 : Int} {G : Mem} {Q : Int → Mem → Prop} (bt : Bs 8 t) (bp0 : Bs 1 p0) (h : Rn d M_X8_pass zN 2 [(0, (2, t)), (1, (2, p0)), (2, (0, p1)), (3, (0, 0))] [] G Q) : Rn d M_X8_pass zN 0 [(0, (2, t)), (1, (2, p0)), (2, (0, p1))] [] G Q := by
  refine r_iconst d_X8_pass_0 ?_
  refine r_istore_n (ls1 := [(3, (0, 0)), (0, (2, t)), (1, (2, p0)), (2, (0, p1))]) d_X8_pass_1 rfl (by decide) rfl ?_
  exact Rn.sub [1, 2, 3, 0] rfl h
set_option maxRecDepth 20000 in
theorem s_X8_pass_2 {d : Nat} {x0 : Int} {x1 : Int} {x2 : Int} {x3 : Int} {G : Mem} {Q : Int → Mem → Prop} (bx0 : Bs 8 x0) (bx1 : Bs 1 x1) (h : (InR x3) ∧ (InR (G x1 8)) ∧ (((G x1 8) ≤ x3) → (∀ G4 : Mem, G4 = st G x0 7 ((G x0 7) + 1) → Q 0 G4)) ∧ (¬ ((G x1 8) ≤ x3) → (0 ≤ x3 ∧ x3 < 5) ∧ ((InR (G (x0 + 2) x3)) ∧ ((0 < (G (x0 + 2) x3)) → Rn d M_X8_pass zN 61 [(0, (2, x0)), (1, (2, x1)), (2, (0, x2)), (3, (0, x3)), (4, (2, ((x1 + 13) + x3)))] [] G Q) ∧ (¬ (0 < (G (x0 + 2) x3)) → (InR x2) ∧ ((x3 ≠ x2) → Rn d M_X8_pass zN 53 [(0, (2, x0)), (1, (2, x1)), (2, (0, x2)), (3, (0, x3)), (4, (2, ((x1 + 13) + x3)))] [(0, 0), (2, ((x1 + 13) + x3)), (0, (G (x0 + 1) x3)), (0, 199), (0, x3), (2, (x0 + 1))] G Q) ∧ (¬ (x3 ≠ x2) → Rn d M_X8_pass zN 53 [(0, (2, x0)), (1, (2, x1)), (2, (0, x2)), (3, (0, x3)), (4, (2, ((x1 + 13) + x3)))] [(0, 1), (2, ((x1 + 13) + x3)), (0, (G (x0 + 1) x3)), (0, 199), (0, x3), (2, (x0 + 1))] G Q))))) : Rn d M_X8_pass zN 2 [(0, (2, x0)), (1, (2, x1)), (2, (0, x2)), (3, (0, x3))] [] G Q := by
  refine r_iload_n d_X8_pass_2 3 rfl rfl ?_
  refine r_aload_n d_X8_pass_3 1 rfl rfl ?_
  refine r_getI 1 8 8 rfl d_X8_pass_4 fl_X8_88 (by decide) (bs_ob bx1) ?_
  obtain ⟨h1, h⟩ := h
  obtain ⟨h2, h⟩ := h
  refine r_icmp_ge (tgt := 138) d_X8_pass_7 (by decide) h1 h2 (fun c3 => ?_) (fun c3 => ?_)
  · replace h := h.1 c3
    refine r_aload_n d_X8_pass_138 0 rfl rfl ?_
    refine r_dup 2 rfl (by decide) d_X8_pass_139 ?_
    refine r_getI 8 7 7 rfl d_X8_pass_140 fl_X8_33 (by decide) (bs_ob bx0) ?_
    refine r_iconst d_X8_pass_143 ?_
    refine r_iadd d_X8_pass_144 ?_
    obtain ⟨G4, eG4⟩ : ∃ y : Mem, y = st G x0 7 ((G x0 7) + 1) := ⟨_, rfl⟩
    replace h := h G4 eG4
    refine r_putI 8 7 7 rfl d_X8_pass_145 fl_X8_33 (by decide) nofin_8_7 (bs_ob bx0) ?_
    rw [← eG4]
    exact r_ret d_X8_pass_148 rfl ⟨rfl, Nat.le_refl _, Nat.le_refl _⟩ h
  · replace h := h.2 c3
    refine r_aload_n d_X8_pass_10 1 rfl rfl ?_
    refine r_getL (v := (x1 + 1)) 1 0 0 rfl d_X8_pass_11 fl_X8_64 (by decide) (bs_ob bx1) (ly_1_0 bx1).1 (ly_1_0 bx1).2.1 ?_
    refine r_iload_n d_X8_pass_14 3 rfl rfl ?_
    obtain ⟨h5, h⟩ := h
    refine r_aaloadL (v := ((x1 + 13) + x3)) d_X8_pass_15 (ly_1_0 bx1).2.2 (by decide) rfl h5 (el_1_0 bx1 h5.1 h5.2).1 (el_1_0 bx1 h5.1 h5.2).2.1 ?_
    refine r_astore (ls1 := [(4, (2, ((x1 + 13) + x3))), (0, (2, x0)), (1, (2, x1)), (2, (0, x2)), (3, (0, x3))]) d_X8_pass_16 (by decide) rfl ?_
    refine r_aload_n d_X8_pass_18 1 rfl rfl ?_
    refine r_getL (v := (x0 + 2)) 8 1 1 rfl d_X8_pass_19 fl_X8_15 (by decide) (bs_ob bx0) (ly_8_1 bx0).1 (ly_8_1 bx0).2.1 ?_
    refine r_iload_n d_X8_pass_22 4 rfl rfl ?_
    refine r_iaload d_X8_pass_23 (ly_8_1 bx0).2.2 h5 ?_
    obtain ⟨h6, h⟩ := h
    refine r_if_gt (tgt := 61) d_X8_pass_24 (by decide) h6 (fun c7 => ?_) (fun c7 => ?_)
    · replace h := h.1 c7
      exact Rn.sub [1, 2, 3, 4, 0] rfl h
    · replace h := h.2 c7
      refine r_aload_n d_X8_pass_27 1 rfl rfl ?_
      refine r_getL (v := (x0 + 1)) 8 0 0 rfl d_X8_pass_28 fl_X8_9 (by decide) (bs_ob bx0) (ly_8_0 bx0).1 (ly_8_0 bx0).2.1 ?_
      refine r_iload_n d_X8_pass_31 4 rfl rfl ?_
      refine r_sipush d_X8_pass_32 (by decide +kernel) ?_
      refine r_aload_n d_X8_pass_35 1 rfl rfl ?_
      refine r_getL (v := (x0 + 1)) 8 0 0 rfl d_X8_pass_36 fl_X8_9 (by decide) (bs_ob bx0) (ly_8_0 bx0).1 (ly_8_0 bx0).2.1 ?_
      refine r_iload_n d_X8_pass_39 4 rfl rfl ?_
      refine r_iaload d_X8_pass_40 (ly_8_0 bx0).2.2 h5 ?_
      refine r_aload d_X8_pass_41 0 rfl ?_
      refine r_iload_n d_X8_pass_43 4 rfl rfl ?_
      refine r_iload_n d_X8_pass_44 3 rfl rfl ?_
      obtain ⟨h8, h⟩ := h
      refine r_icmp_ne (tgt := 52) d_X8_pass_45 (by decide) h1 h8 (fun c9 => ?_) (fun c9 => ?_)
      · replace h := h.1 c9
        refine r_iconst d_X8_pass_52 ?_
        exact Rn.sub [1, 2, 3, 4, 0] rfl h
      · replace h := h.2 c9
        refine r_iconst d_X8_pass_48 ?_
        refine r_goto (tgt := 53) d_X8_pass_49 (by decide) ?_
        exact Rn.sub [1, 2, 3, 4, 0] rfl h
set_option maxRecDepth 20000 in
theorem s_X8_pass_61 {d : Nat} {x0 : Int} {x1 : Int} {x2 : Int} {x3 : Int} {x4 : Int} {G : Mem} {Q : Int → Mem → Prop} (bx0 : Bs 8 x0) (bx1 : Bs 1 x1) (bx4 : Bs 7 x4) (h : (0 ≤ x3 ∧ x3 < 5) ∧ ((InR (G (x0 + 1) x3)) ∧ (InR (G x4 3)) ∧ (((G (x0 + 1) x3) ≤ (G x4 3)) → Rn d M_X8_pass zN 95 [(0, (2, x0)), (1, (2, x1)), (2, (0, x2)), (3, (0, x3))] [] G Q) ∧ (¬ ((G (x0 + 1) x3) ≤ (G x4 3)) → (∀ G5 : Mem, G5 = st G (x0 + 6) x3 ((G (x0 + 6) x3) + 1) → (∀ G6 : Mem, G6 = st G5 x0 11 ((G5 x0 11) + 1) → Rn d M_X8_pass zN 95 [(0, (2, x0)), (1, (2, x1)), (2, (0, x2)), (3, (0, x3))] [] G6 Q))))) : Rn d M_X8_pass zN 61 [(0, (2, x0)), (1, (2, x1)), (2, (0, x2)), (3, (0, x3)), (4, (2, x4))] [] G Q := by
  refine r_aload_n d_X8_pass_61 0 rfl rfl ?_
  refine r_getL (v := (x0 + 1)) 8 0 0 rfl d_X8_pass_62 fl_X8_9 (by decide) (bs_ob bx0) (ly_8_0 bx0).1 (ly_8_0 bx0).2.1 ?_
  refine r_iload_n d_X8_pass_65 3 rfl rfl ?_
  obtain ⟨h1, h⟩ := h
  refine r_iaload d_X8_pass_66 (ly_8_0 bx0).2.2 h1 ?_
  refine r_aload d_X8_pass_67 4 rfl ?_
  refine r_getI 7 3 3 rfl d_X8_pass_69 fl_X8_103 (by decide) (bs_ob bx4) ?_
  obtain ⟨h2, h⟩ := h
  obtain ⟨h3, h⟩ := h
  refine r_icmp_le (tgt := 95) d_X8_pass_72 (by decide) h2 h3 (fun c4 => ?_) (fun c4 => ?_)
  · replace h := h.1 c4
    exact Rn.sub [0, 1, 2, 3] rfl h
  · replace h := h.2 c4
    refine r_aload_n d_X8_pass_75 0 rfl rfl ?_
    refine r_getL (v := (x0 + 6)) 8 5 5 rfl d_X8_pass_76 fl_X8_27 (by decide) (bs_ob bx0) (ly_8_5 bx0).1 (ly_8_5 bx0).2.1 ?_
    refine r_iload_n d_X8_pass_79 3 rfl rfl ?_
    refine r_dup2 0 2 rfl rfl (by decide) (by decide) d_X8_pass_80 ?_
    refine r_iaload d_X8_pass_81 (ly_8_5 bx0).2.2 h1 ?_
    refine r_iconst d_X8_pass_82 ?_
    refine r_iadd d_X8_pass_83 ?_
    obtain ⟨G5, eG5⟩ : ∃ y : Mem, y = st G (x0 + 6) x3 ((G (x0 + 6) x3) + 1) := ⟨_, rfl⟩
    replace h := h G5 eG5
    refine r_iastore d_X8_pass_84 (ly_8_5 bx0).2.2 h1 ?_
    rw [← eG5]
    refine r_aload_n d_X8_pass_85 0 rfl rfl ?_
    refine r_dup 2 rfl (by decide) d_X8_pass_86 ?_
    refine r_getI 8 11 11 rfl d_X8_pass_87 fl_X8_46 (by decide) (bs_ob bx0) ?_
    refine r_iconst d_X8_pass_90 ?_
    refine r_iadd d_X8_pass_91 ?_
    obtain ⟨G6, eG6⟩ : ∃ y : Mem, y = st G5 x0 11 ((G5 x0 11) + 1) := ⟨_, rfl⟩
    replace h := h G6 eG6
    refine r_putI 8 11 11 rfl d_X8_pass_92 fl_X8_46 (by decide) nofin_8_11 (bs_ob bx0) ?_
    rw [← eG6]
    exact Rn.sub [0, 1, 2, 3] rfl h
set_option maxRecDepth 20000 in
theorem s_X8_pass_53 {d : Nat} {x0 : Int} {x1 : Int} {x2 : Int} {x3 : Int} {x4 : Int} {s0 : Int} {s1 : Int} {s2 : Int} {s3 : Int} {s4 : Int} {s5 : Int} {G : Mem} {Q : Int → Mem → Prop} (bx0 : Bs 8 x0) (bx1 : Bs 1 x1) (bx4 : Bs 7 x4) (bs1 : Bs 7 s1) (as5 : Ar NT s5 0 5) (h : Ct d M_X7_growth NT 0 0 (some lay) [(2, s1), (0, s0)] G (fun r2 G1 => (InR s3) ∧ (InR (s2 + r2)) ∧ ((0 ≤ s4 ∧ s4 < 5) ∧ (∀ G6 : Mem, G6 = st G1 s5 s4 (min s3 (s2 + r2)) → Rn (d + 1) M_X8_pass zN 61 [(0, (2, x0)), (1, (2, x1)), (2, (0, x2)), (3, (0, x3)), (4, (2, x4))] [] G6 Q)))) : Rn (d + 1) M_X8_pass zN 53 [(0, (2, x0)), (1, (2, x1)), (2, (0, x2)), (3, (0, x3)), (4, (2, x4))] [(0, s0), (2, s1), (0, s2), (0, s3), (0, s4), (2, s5)] G Q := by
  refine r_callV0 (M' := M_X7_growth) (ci := 7) [(0, s0)] d_X8_pass_53 cl_X8_96 rfl (Nat.le_of_ble_eq_true rfl) (by decide) rfl (bs_ob bs1) ?_
  refine Ct.mono h (fun r2 G1 h => ?_)
  show Rn _ M_X8_pass zN 56 [(0, (2, x0)), (1, (2, x1)), (2, (0, x2)), (3, (0, x3)), (4, (2, x4))] [(0, r2), (0, s2), (0, s3), (0, s4), (2, s5)] G1 Q
  refine r_iadd d_X8_pass_56 ?_
  obtain ⟨h3, h⟩ := h
  obtain ⟨h4, h⟩ := h
  refine r_mmin d_X8_pass_57 ml_X8_100 h3 h4 (Nat.le_of_ble_eq_true rfl) ?_
  obtain ⟨h5, h⟩ := h
  obtain ⟨G6, eG6⟩ : ∃ y : Mem, y = st G1 s5 s4 (min s3 (s2 + r2)) := ⟨_, rfl⟩
  replace h := h G6 eG6
  refine r_iastore d_X8_pass_60 as5 h5 ?_
  rw [← eG6]
  exact h
set_option maxRecDepth 20000 in
theorem s_X8_pass_95 {d : Nat} {x0 : Int} {x1 : Int} {x2 : Int} {x3 : Int} {G : Mem} {Q : Int → Mem → Prop} (bx0 : Bs 8 x0) (bx1 : Bs 1 x1) (h : (0 ≤ x3 ∧ x3 < 5) ∧ ((InR (G (x0 + 2) x3)) ∧ (((G (x0 + 2) x3) ≤ 0) → Rn d M_X8_pass zN 2 [(0, (2, x0)), (1, (2, x1)), (2, (0, x2)), (3, (0, (x3 + 1)))] [] G Q) ∧ (¬ ((G (x0 + 2) x3) ≤ 0) → (((G (x0 + 2) x3) ≠ 1) → (∀ G5 : Mem, G5 = st G (x0 + 2) x3 ((G (x0 + 2) x3) - 1) → Rn d M_X8_pass zN 2 [(0, (2, x0)), (1, (2, x1)), (2, (0, x2)), (3, (0, (x3 + 1)))] [] G5 Q)) ∧ (¬ ((G (x0 + 2) x3) ≠ 1) → (∀ G6 : Mem, G6 = st G (x0 + 2) x3 (-1) → Rn d M_X8_pass zN 2 [(0, (2, x0)), (1, (2, x1)), (2, (0, x2)), (3, (0, (x3 + 1)))] [] G6 Q))))) : Rn d M_X8_pass zN 95 [(0, (2, x0)), (1, (2, x1)), (2, (0, x2)), (3, (0, x3))] [] G Q := by
  refine r_aload_n d_X8_pass_95 0 rfl rfl ?_
  refine r_getL (v := (x0 + 2)) 8 1 1 rfl d_X8_pass_96 fl_X8_15 (by decide) (bs_ob bx0) (ly_8_1 bx0).1 (ly_8_1 bx0).2.1 ?_
  refine r_iload_n d_X8_pass_99 3 rfl rfl ?_
  obtain ⟨h1, h⟩ := h
  refine r_iaload d_X8_pass_100 (ly_8_1 bx0).2.2 h1 ?_
  obtain ⟨h2, h⟩ := h
  refine r_if_le (tgt := 132) d_X8_pass_101 (by decide) h2 (fun c3 => ?_) (fun c3 => ?_)
  · replace h := h.1 c3
    refine r_iinc (ls1 := [(3, (0, (x3 + 1))), (0, (2, x0)), (1, (2, x1)), (2, (0, x2))]) d_X8_pass_132 3 rfl (by decide) rfl ?_
    refine r_goto (tgt := 2) d_X8_pass_135 (by decide) ?_
    exact Rn.sub [1, 2, 3, 0] rfl h
  · replace h := h.2 c3
    refine r_aload_n d_X8_pass_104 0 rfl rfl ?_
    refine r_getL (v := (x0 + 2)) 8 1 1 rfl d_X8_pass_105 fl_X8_15 (by decide) (bs_ob bx0) (ly_8_1 bx0).1 (ly_8_1 bx0).2.1 ?_
    refine r_iload_n d_X8_pass_108 3 rfl rfl ?_
    refine r_aload_n d_X8_pass_109 0 rfl rfl ?_
    refine r_getL (v := (x0 + 2)) 8 1 1 rfl d_X8_pass_110 fl_X8_15 (by decide) (bs_ob bx0) (ly_8_1 bx0).1 (ly_8_1 bx0).2.1 ?_
    refine r_iload_n d_X8_pass_113 3 rfl rfl ?_
    refine r_iaload d_X8_pass_114 (ly_8_1 bx0).2.2 h1 ?_
    refine r_iconst d_X8_pass_115 ?_
    refine r_icmp_ne (tgt := 123) d_X8_pass_116 (by decide) h2 ⟨by decide, by decide⟩ (fun c4 => ?_) (fun c4 => ?_)
    · replace h := h.1 c4
      refine r_aload_n d_X8_pass_123 0 rfl rfl ?_
      refine r_getL (v := (x0 + 2)) 8 1 1 rfl d_X8_pass_124 fl_X8_15 (by decide) (bs_ob bx0) (ly_8_1 bx0).1 (ly_8_1 bx0).2.1 ?_
      refine r_iload_n d_X8_pass_127 3 rfl rfl ?_
      refine r_iaload d_X8_pass_128 (ly_8_1 bx0).2.2 h1 ?_
      refine r_iconst d_X8_pass_129 ?_
      refine r_isub d_X8_pass_130 ?_
      obtain ⟨G5, eG5⟩ : ∃ y : Mem, y = st G (x0 + 2) x3 ((G (x0 + 2) x3) - 1) := ⟨_, rfl⟩
      replace h := h G5 eG5
      refine r_iastore d_X8_pass_131 (ly_8_1 bx0).2.2 h1 ?_
      rw [← eG5]
      refine r_iinc (ls1 := [(3, (0, (x3 + 1))), (0, (2, x0)), (1, (2, x1)), (2, (0, x2))]) d_X8_pass_132 3 rfl (by decide) rfl ?_
      refine r_goto (tgt := 2) d_X8_pass_135 (by decide) ?_
      exact Rn.sub [1, 2, 3, 0] rfl h
    · replace h := h.2 c4
      refine r_iconst d_X8_pass_119 ?_
      refine r_goto (tgt := 131) d_X8_pass_120 (by decide) ?_
      obtain ⟨G6, eG6⟩ : ∃ y : Mem, y = st G (x0 + 2) x3 (-1) := ⟨_, rfl⟩
      replace h := h G6 eG6
      refine r_iastore d_X8_pass_131 (ly_8_1 bx0).2.2 h1 ?_
      rw [← eG6]
      refine r_iinc (ls1 := [(3, (0, (x3 + 1))), (0, (2, x0)), (1, (2, x1)), (2, (0, x2))]) d_X8_pass_132 3 rfl (by decide) rfl ?_
      refine r_goto (tgt := 2) d_X8_pass_135 (by decide) ?_
      exact Rn.sub [1, 2, 3, 0] rfl h
theorem d_X9_clear_0 : decode M_X9_clear.2.1 0 = .ok (.aload_n 0, 1) := by decide +kernel
theorem d_X9_clear_1 : decode M_X9_clear.2.1 1 = .ok (.getfield 9, 3) := by decide +kernel
theorem d_X9_clear_4 : decode M_X9_clear.2.1 4 = .ok (.iconst 0, 1) := by decide +kernel
theorem d_X9_clear_5 : decode M_X9_clear.2.1 5 = .ok (.invokestatic 24, 3) := by decide +kernel
theorem d_X9_clear_8 : decode M_X9_clear.2.1 8 = .ok (.aload_n 0, 1) := by decide +kernel
theorem d_X9_clear_9 : decode M_X9_clear.2.1 9 = .ok (.getfield 15, 3) := by decide +kernel
theorem d_X9_clear_12 : decode M_X9_clear.2.1 12 = .ok (.iconst 0, 1) := by decide +kernel
theorem d_X9_clear_13 : decode M_X9_clear.2.1 13 = .ok (.invokestatic 24, 3) := by decide +kernel
theorem d_X9_clear_16 : decode M_X9_clear.2.1 16 = .ok (.aload_n 0, 1) := by decide +kernel
theorem d_X9_clear_17 : decode M_X9_clear.2.1 17 = .ok (.getfield 18, 3) := by decide +kernel
theorem d_X9_clear_20 : decode M_X9_clear.2.1 20 = .ok (.iconst 0, 1) := by decide +kernel
theorem d_X9_clear_21 : decode M_X9_clear.2.1 21 = .ok (.invokestatic 24, 3) := by decide +kernel
theorem d_X9_clear_24 : decode M_X9_clear.2.1 24 = .ok (.return_, 1) := by decide +kernel
set_option maxRecDepth 20000 in
theorem s_X9_clear_0 {d : Nat} {t : Int} {G : Mem} {Q : Int → Mem → Prop} (bt : Bs 9 t) (h : Ct d M_J7_fill_53178 NT 0 0 (some lay) [(2, (t + 1)), (0, 0)] G (fun r2 G1 => Ct d M_J7_fill_53178 NT 0 0 (some lay) [(2, (t + 2)), (0, 0)] G1 (fun r4 G3 => Ct d M_J7_fill_53178 NT 0 0 (some lay) [(2, (t + 3)), (0, 0)] G3 (fun r6 G5 => Q 0 G5)))) : Rn (d + 1) M_X9_clear zN 0 [(0, (2, t))] [] G Q := by
  refine r_aload_n d_X9_clear_0 0 rfl rfl ?_
  refine r_getL (v := (t + 1)) 9 0 0 rfl d_X9_clear_1 fl_X9_9 (by decide) (bs_ob bt) (ly_9_0 bt).1 (ly_9_0 bt).2.1 ?_
  refine r_iconst d_X9_clear_4 ?_
  refine r_callS0 (M' := M_J7_fill_53178) [(2, (t + 1)), (0, 0)] d_X9_clear_5 cl_X9_24 rfl (Nat.le_of_ble_eq_true rfl) ?_
  refine Ct.mono h (fun r2 G1 h => ?_)
  show Rn _ M_X9_clear zN 8 [(0, (2, t))] [] G1 Q
  refine r_aload_n d_X9_clear_8 0 rfl rfl ?_
  refine r_getL (v := (t + 2)) 9 1 1 rfl d_X9_clear_9 fl_X9_15 (by decide) (bs_ob bt) (ly_9_1 bt).1 (ly_9_1 bt).2.1 ?_
  refine r_iconst d_X9_clear_12 ?_
  refine r_callS0 (M' := M_J7_fill_53178) [(2, (t + 2)), (0, 0)] d_X9_clear_13 cl_X9_24 rfl (Nat.le_of_ble_eq_true rfl) ?_
  refine Ct.mono h (fun r4 G3 h => ?_)
  show Rn _ M_X9_clear zN 16 [(0, (2, t))] [] G3 Q
  refine r_aload_n d_X9_clear_16 0 rfl rfl ?_
  refine r_getL (v := (t + 3)) 9 2 2 rfl d_X9_clear_17 fl_X9_18 (by decide) (bs_ob bt) (ly_9_2 bt).1 (ly_9_2 bt).2.1 ?_
  refine r_iconst d_X9_clear_20 ?_
  refine r_callS0 (M' := M_J7_fill_53178) [(2, (t + 3)), (0, 0)] d_X9_clear_21 cl_X9_24 rfl (Nat.le_of_ble_eq_true rfl) ?_
  refine Ct.mono h (fun r6 G5 h => ?_)
  show Rn _ M_X9_clear zN 24 [(0, (2, t))] [] G5 Q
  exact r_ret d_X9_clear_24 rfl ⟨rfl, Nat.le_refl _, Nat.le_refl _⟩ h
theorem d_X9_take_0 : decode M_X9_take.2.1 0 = .ok (.aload_n 1, 1) := by decide +kernel
theorem d_X9_take_1 : decode M_X9_take.2.1 1 = .ok (.getfield 9, 3) := by decide +kernel
theorem d_X9_take_4 : decode M_X9_take.2.1 4 = .ok (.iconst 0, 1) := by decide +kernel
theorem d_X9_take_5 : decode M_X9_take.2.1 5 = .ok (.aload_n 0, 1) := by decide +kernel
theorem d_X9_take_6 : decode M_X9_take.2.1 6 = .ok (.getfield 9, 3) := by decide +kernel
theorem d_X9_take_9 : decode M_X9_take.2.1 9 = .ok (.iconst 0, 1) := by decide +kernel
theorem d_X9_take_10 : decode M_X9_take.2.1 10 = .ok (.aload_n 0, 1) := by decide +kernel
theorem d_X9_take_11 : decode M_X9_take.2.1 11 = .ok (.getfield 9, 3) := by decide +kernel
theorem d_X9_take_14 : decode M_X9_take.2.1 14 = .ok (.arraylength, 1) := by decide +kernel
theorem d_X9_take_15 : decode M_X9_take.2.1 15 = .ok (.invokestatic 30, 3) := by decide +kernel
theorem d_X9_take_18 : decode M_X9_take.2.1 18 = .ok (.aload_n 1, 1) := by decide +kernel
theorem d_X9_take_19 : decode M_X9_take.2.1 19 = .ok (.getfield 15, 3) := by decide +kernel
theorem d_X9_take_22 : decode M_X9_take.2.1 22 = .ok (.iconst 0, 1) := by decide +kernel
theorem d_X9_take_23 : decode M_X9_take.2.1 23 = .ok (.aload_n 0, 1) := by decide +kernel
theorem d_X9_take_24 : decode M_X9_take.2.1 24 = .ok (.getfield 15, 3) := by decide +kernel
theorem d_X9_take_27 : decode M_X9_take.2.1 27 = .ok (.iconst 0, 1) := by decide +kernel
theorem d_X9_take_28 : decode M_X9_take.2.1 28 = .ok (.aload_n 0, 1) := by decide +kernel
theorem d_X9_take_29 : decode M_X9_take.2.1 29 = .ok (.getfield 15, 3) := by decide +kernel
theorem d_X9_take_32 : decode M_X9_take.2.1 32 = .ok (.arraylength, 1) := by decide +kernel
theorem d_X9_take_33 : decode M_X9_take.2.1 33 = .ok (.invokestatic 30, 3) := by decide +kernel
theorem d_X9_take_36 : decode M_X9_take.2.1 36 = .ok (.aload_n 1, 1) := by decide +kernel
theorem d_X9_take_37 : decode M_X9_take.2.1 37 = .ok (.getfield 18, 3) := by decide +kernel
theorem d_X9_take_40 : decode M_X9_take.2.1 40 = .ok (.iconst 0, 1) := by decide +kernel
theorem d_X9_take_41 : decode M_X9_take.2.1 41 = .ok (.aload_n 0, 1) := by decide +kernel
theorem d_X9_take_42 : decode M_X9_take.2.1 42 = .ok (.getfield 18, 3) := by decide +kernel
theorem d_X9_take_45 : decode M_X9_take.2.1 45 = .ok (.iconst 0, 1) := by decide +kernel
theorem d_X9_take_46 : decode M_X9_take.2.1 46 = .ok (.aload_n 0, 1) := by decide +kernel
theorem d_X9_take_47 : decode M_X9_take.2.1 47 = .ok (.getfield 18, 3) := by decide +kernel
theorem d_X9_take_50 : decode M_X9_take.2.1 50 = .ok (.arraylength, 1) := by decide +kernel
theorem d_X9_take_51 : decode M_X9_take.2.1 51 = .ok (.invokestatic 30, 3) := by decide +kernel
theorem d_X9_take_54 : decode M_X9_take.2.1 54 = .ok (.aload_n 1, 1) := by decide +kernel
theorem d_X9_take_55 : decode M_X9_take.2.1 55 = .ok (.getfield 21, 3) := by decide +kernel
theorem d_X9_take_58 : decode M_X9_take.2.1 58 = .ok (.iconst 0, 1) := by decide +kernel
theorem d_X9_take_59 : decode M_X9_take.2.1 59 = .ok (.aload_n 0, 1) := by decide +kernel
theorem d_X9_take_60 : decode M_X9_take.2.1 60 = .ok (.getfield 21, 3) := by decide +kernel
theorem d_X9_take_63 : decode M_X9_take.2.1 63 = .ok (.iconst 0, 1) := by decide +kernel
theorem d_X9_take_64 : decode M_X9_take.2.1 64 = .ok (.aload_n 0, 1) := by decide +kernel
theorem d_X9_take_65 : decode M_X9_take.2.1 65 = .ok (.getfield 21, 3) := by decide +kernel
theorem d_X9_take_68 : decode M_X9_take.2.1 68 = .ok (.arraylength, 1) := by decide +kernel
theorem d_X9_take_69 : decode M_X9_take.2.1 69 = .ok (.invokestatic 30, 3) := by decide +kernel
theorem d_X9_take_72 : decode M_X9_take.2.1 72 = .ok (.return_, 1) := by decide +kernel
set_option maxRecDepth 20000 in
theorem s_X9_take_0 {d : Nat} {t : Int} {p0 : Int} {G : Mem} {Q : Int → Mem → Prop} (bt : Bs 9 t) (bp0 : Bs 9 p0) (h : (CpOk 0 0 5 5 5) ∧ (∀ G2 : Mem, G2 = cpy G (p0 + 1) 0 (t + 1) 0 5 → (CpOk 0 0 5 5 5) ∧ (∀ G4 : Mem, G4 = cpy G2 (p0 + 2) 0 (t + 2) 0 5 → (CpOk 0 0 5 5 5) ∧ (∀ G6 : Mem, G6 = cpy G4 (p0 + 3) 0 (t + 3) 0 5 → (CpOk 0 0 60 60 60) ∧ (∀ G8 : Mem, G8 = cpy G6 (p0 + 4) 0 (t + 4) 0 60 → Q 0 G8))))) : Rn (d + 1) M_X9_take zN 0 [(0, (2, t)), (1, (2, p0))] [] G Q := by
  refine r_aload_n d_X9_take_0 1 rfl rfl ?_
  refine r_getL (v := (p0 + 1)) 9 0 0 rfl d_X9_take_1 fl_X9_9 (by decide) (bs_ob bp0) (ly_9_0 bp0).1 (ly_9_0 bp0).2.1 ?_
  refine r_iconst d_X9_take_4 ?_
  refine r_aload_n d_X9_take_5 0 rfl rfl ?_
  refine r_getL (v := (t + 1)) 9 0 0 rfl d_X9_take_6 fl_X9_9 (by decide) (bs_ob bt) (ly_9_0 bt).1 (ly_9_0 bt).2.1 ?_
  refine r_iconst d_X9_take_9 ?_
  refine r_aload_n d_X9_take_10 0 rfl rfl ?_
  refine r_getL (v := (t + 1)) 9 0 0 rfl d_X9_take_11 fl_X9_9 (by decide) (bs_ob bt) (ly_9_0 bt).1 (ly_9_0 bt).2.1 ?_
  refine r_alen 5 rfl d_X9_take_14 (ly_9_0 bt).2.2 ?_
  obtain ⟨h1, h⟩ := h
  obtain ⟨G2, eG2⟩ : ∃ y : Mem, y = cpy G (p0 + 1) 0 (t + 1) 0 5 := ⟨_, rfl⟩
  replace h := h G2 eG2
  refine r_acopy d_X9_take_15 ac_X9_30 (ly_9_0 bp0).2.2 (ly_9_0 bt).2.2 h1 (Nat.le_of_ble_eq_true rfl) ?_
  rw [← eG2]
  refine r_aload_n d_X9_take_18 1 rfl rfl ?_
  refine r_getL (v := (p0 + 2)) 9 1 1 rfl d_X9_take_19 fl_X9_15 (by decide) (bs_ob bp0) (ly_9_1 bp0).1 (ly_9_1 bp0).2.1 ?_
  refine r_iconst d_X9_take_22 ?_
  refine r_aload_n d_X9_take_23 0 rfl rfl ?_
  refine r_getL (v := (t + 2)) 9 1 1 rfl d_X9_take_24 fl_X9_15 (by decide) (bs_ob bt) (ly_9_1 bt).1 (ly_9_1 bt).2.1 ?_
  refine r_iconst d_X9_take_27 ?_
  refine r_aload_n d_X9_take_28 0 rfl rfl ?_
  refine r_getL (v := (t + 2)) 9 1 1 rfl d_X9_take_29 fl_X9_15 (by decide) (bs_ob bt) (ly_9_1 bt).1 (ly_9_1 bt).2.1 ?_
  refine r_alen 5 rfl d_X9_take_32 (ly_9_1 bt).2.2 ?_
  obtain ⟨h3, h⟩ := h
  obtain ⟨G4, eG4⟩ : ∃ y : Mem, y = cpy G2 (p0 + 2) 0 (t + 2) 0 5 := ⟨_, rfl⟩
  replace h := h G4 eG4
  refine r_acopy d_X9_take_33 ac_X9_30 (ly_9_1 bp0).2.2 (ly_9_1 bt).2.2 h3 (Nat.le_of_ble_eq_true rfl) ?_
  rw [← eG4]
  refine r_aload_n d_X9_take_36 1 rfl rfl ?_
  refine r_getL (v := (p0 + 3)) 9 2 2 rfl d_X9_take_37 fl_X9_18 (by decide) (bs_ob bp0) (ly_9_2 bp0).1 (ly_9_2 bp0).2.1 ?_
  refine r_iconst d_X9_take_40 ?_
  refine r_aload_n d_X9_take_41 0 rfl rfl ?_
  refine r_getL (v := (t + 3)) 9 2 2 rfl d_X9_take_42 fl_X9_18 (by decide) (bs_ob bt) (ly_9_2 bt).1 (ly_9_2 bt).2.1 ?_
  refine r_iconst d_X9_take_45 ?_
  refine r_aload_n d_X9_take_46 0 rfl rfl ?_
  refine r_getL (v := (t + 3)) 9 2 2 rfl d_X9_take_47 fl_X9_18 (by decide) (bs_ob bt) (ly_9_2 bt).1 (ly_9_2 bt).2.1 ?_
  refine r_alen 5 rfl d_X9_take_50 (ly_9_2 bt).2.2 ?_
  obtain ⟨h5, h⟩ := h
  obtain ⟨G6, eG6⟩ : ∃ y : Mem, y = cpy G4 (p0 + 3) 0 (t + 3) 0 5 := ⟨_, rfl⟩
  replace h := h G6 eG6
  refine r_acopy d_X9_take_51 ac_X9_30 (ly_9_2 bp0).2.2 (ly_9_2 bt).2.2 h5 (Nat.le_of_ble_eq_true rfl) ?_
  rw [← eG6]
  refine r_aload_n d_X9_take_54 1 rfl rfl ?_
  refine r_getL (v := (p0 + 4)) 9 3 3 rfl d_X9_take_55 fl_X9_21 (by decide) (bs_ob bp0) (ly_9_3 bp0).1 (ly_9_3 bp0).2.1 ?_
  refine r_iconst d_X9_take_58 ?_
  refine r_aload_n d_X9_take_59 0 rfl rfl ?_
  refine r_getL (v := (t + 4)) 9 3 3 rfl d_X9_take_60 fl_X9_21 (by decide) (bs_ob bt) (ly_9_3 bt).1 (ly_9_3 bt).2.1 ?_
  refine r_iconst d_X9_take_63 ?_
  refine r_aload_n d_X9_take_64 0 rfl rfl ?_
  refine r_getL (v := (t + 4)) 9 3 3 rfl d_X9_take_65 fl_X9_21 (by decide) (bs_ob bt) (ly_9_3 bt).1 (ly_9_3 bt).2.1 ?_
  refine r_alen 60 rfl d_X9_take_68 (ly_9_3 bt).2.2 ?_
  obtain ⟨h7, h⟩ := h
  obtain ⟨G8, eG8⟩ : ∃ y : Mem, y = cpy G6 (p0 + 4) 0 (t + 4) 0 60 := ⟨_, rfl⟩
  replace h := h G8 eG8
  refine r_acopy d_X9_take_69 ac_X9_30 (ly_9_3 bp0).2.2 (ly_9_3 bt).2.2 h7 (Nat.le_of_ble_eq_true rfl) ?_
  rw [← eG8]
  exact r_ret d_X9_take_72 rfl ⟨rfl, Nat.le_refl _, Nat.le_refl _⟩ h
theorem d_X9_addTouch_0 : decode M_X9_addTouch.2.1 0 = .ok (.aload_n 0, 1) := by decide +kernel
theorem d_X9_addTouch_1 : decode M_X9_addTouch.2.1 1 = .ok (.getfield 9, 3) := by decide +kernel
theorem d_X9_addTouch_4 : decode M_X9_addTouch.2.1 4 = .ok (.iload_n 1, 1) := by decide +kernel
theorem d_X9_addTouch_5 : decode M_X9_addTouch.2.1 5 = .ok (.iaload, 1) := by decide +kernel
theorem d_X9_addTouch_6 : decode M_X9_addTouch.2.1 6 = .ok (.aload_n 0, 1) := by decide +kernel
theorem d_X9_addTouch_7 : decode M_X9_addTouch.2.1 7 = .ok (.getfield 15, 3) := by decide +kernel
theorem d_X9_addTouch_10 : decode M_X9_addTouch.2.1 10 = .ok (.iload_n 1, 1) := by decide +kernel
theorem d_X9_addTouch_11 : decode M_X9_addTouch.2.1 11 = .ok (.iaload, 1) := by decide +kernel
theorem d_X9_addTouch_12 : decode M_X9_addTouch.2.1 12 = .ok (.iadd, 1) := by decide +kernel
theorem d_X9_addTouch_13 : decode M_X9_addTouch.2.1 13 = .ok (.bipush 15, 2) := by decide +kernel
theorem d_X9_addTouch_15 : decode M_X9_addTouch.2.1 15 = .ok (.if_icmp .lt 5, 3) := by decide +kernel
theorem d_X9_addTouch_18 : decode M_X9_addTouch.2.1 18 = .ok (.iconst 0, 1) := by decide +kernel
theorem d_X9_addTouch_19 : decode M_X9_addTouch.2.1 19 = .ok (.ireturn, 1) := by decide +kernel
theorem d_X9_addTouch_20 : decode M_X9_addTouch.2.1 20 = .ok (.iload_n 2, 1) := by decide +kernel
theorem d_X9_addTouch_21 : decode M_X9_addTouch.2.1 21 = .ok (.ifCond .eq 16, 3) := by decide +kernel
theorem d_X9_addTouch_24 : decode M_X9_addTouch.2.1 24 = .ok (.aload_n 0, 1) := by decide +kernel
theorem d_X9_addTouch_25 : decode M_X9_addTouch.2.1 25 = .ok (.getfield 9, 3) := by decide +kernel
theorem d_X9_addTouch_28 : decode M_X9_addTouch.2.1 28 = .ok (.iload_n 1, 1) := by decide +kernel
theorem d_X9_addTouch_29 : decode M_X9_addTouch.2.1 29 = .ok (.dup2, 1) := by decide +kernel
theorem d_X9_addTouch_30 : decode M_X9_addTouch.2.1 30 = .ok (.iaload, 1) := by decide +kernel
theorem d_X9_addTouch_31 : decode M_X9_addTouch.2.1 31 = .ok (.iconst 1, 1) := by decide +kernel
theorem d_X9_addTouch_32 : decode M_X9_addTouch.2.1 32 = .ok (.iadd, 1) := by decide +kernel
theorem d_X9_addTouch_33 : decode M_X9_addTouch.2.1 33 = .ok (.iastore, 1) := by decide +kernel
theorem d_X9_addTouch_34 : decode M_X9_addTouch.2.1 34 = .ok (.goto 13, 3) := by decide +kernel
theorem d_X9_addTouch_37 : decode M_X9_addTouch.2.1 37 = .ok (.aload_n 0, 1) := by decide +kernel
theorem d_X9_addTouch_38 : decode M_X9_addTouch.2.1 38 = .ok (.getfield 15, 3) := by decide +kernel
theorem d_X9_addTouch_41 : decode M_X9_addTouch.2.1 41 = .ok (.iload_n 1, 1) := by decide +kernel
theorem d_X9_addTouch_42 : decode M_X9_addTouch.2.1 42 = .ok (.dup2, 1) := by decide +kernel
theorem d_X9_addTouch_43 : decode M_X9_addTouch.2.1 43 = .ok (.iaload, 1) := by decide +kernel
theorem d_X9_addTouch_44 : decode M_X9_addTouch.2.1 44 = .ok (.iconst 1, 1) := by decide +kernel
theorem d_X9_addTouch_45 : decode M_X9_addTouch.2.1 45 = .ok (.iadd, 1) := by decide +kernel
theorem d_X9_addTouch_46 : decode M_X9_addTouch.2.1 46 = .ok (.iastore, 1) := by decide +kernel
theorem d_X9_addTouch_47 : decode M_X9_addTouch.2.1 47 = .ok (.iconst 1, 1) := by decide +kernel
theorem d_X9_addTouch_48 : decode M_X9_addTouch.2.1 48 = .ok (.ireturn, 1) := by decide +kernel
set_option maxRecDepth 20000 in
theorem s_X9_addTouch_0 {d : Nat} {t : Int} {p0 : Int} {p1 : Int} {G : Mem} {Q : Int → Mem → Prop} (bt : Bs 9 t) (h : (0 ≤ p0 ∧ p0 < 5) ∧ ((InR ((G (t + 1) p0) + (G (t + 2) p0))) ∧ ((((G (t + 1) p0) + (G (t + 2) p0)) < 15) → (InR p1) ∧ ((p1 = 0) → (∀ G6 : Mem, G6 = st G (t + 2) p0 ((G (t + 2) p0) + 1) → Q 1 G6)) ∧ (¬ (p1 = 0) → (∀ G7 : Mem, G7 = st G (t + 1) p0 ((G (t + 1) p0) + 1) → Q 1 G7))) ∧ (¬ (((G (t + 1) p0) + (G (t + 2) p0)) < 15) → Q 0 G))) : Rn d M_X9_addTouch zN 0 [(0, (2, t)), (1, (0, p0)), (2, (0, p1))] [] G Q := by
  refine r_aload_n d_X9_addTouch_0 0 rfl rfl ?_
  refine r_getL (v := (t + 1)) 9 0 0 rfl d_X9_addTouch_1 fl_X9_9 (by decide) (bs_ob bt) (ly_9_0 bt).1 (ly_9_0 bt).2.1 ?_
  refine r_iload_n d_X9_addTouch_4 1 rfl rfl ?_
  obtain ⟨h1, h⟩ := h
  refine r_iaload d_X9_addTouch_5 (ly_9_0 bt).2.2 h1 ?_
  refine r_aload_n d_X9_addTouch_6 0 rfl rfl ?_
  refine r_getL (v := (t + 2)) 9 1 1 rfl d_X9_addTouch_7 fl_X9_15 (by decide) (bs_ob bt) (ly_9_1 bt).1 (ly_9_1 bt).2.1 ?_
  refine r_iload_n d_X9_addTouch_10 1 rfl rfl ?_
  refine r_iaload d_X9_addTouch_11 (ly_9_1 bt).2.2 h1 ?_
  refine r_iadd d_X9_addTouch_12 ?_
  refine r_bipush d_X9_addTouch_13 (by decide +kernel) ?_
  obtain ⟨h2, h⟩ := h
  refine r_icmp_lt (tgt := 20) d_X9_addTouch_15 (by decide) h2 ⟨by decide, by decide⟩ (fun c3 => ?_) (fun c3 => ?_)
  · replace h := h.1 c3
    refine r_iload_n d_X9_addTouch_20 2 rfl rfl ?_
    obtain ⟨h4, h⟩ := h
    refine r_if_eq (tgt := 37) d_X9_addTouch_21 (by decide) h4 (fun c5 => ?_) (fun c5 => ?_)
    · replace h := h.1 c5
      refine r_aload_n d_X9_addTouch_37 0 rfl rfl ?_
      refine r_getL (v := (t + 2)) 9 1 1 rfl d_X9_addTouch_38 fl_X9_15 (by decide) (bs_ob bt) (ly_9_1 bt).1 (ly_9_1 bt).2.1 ?_
      refine r_iload_n d_X9_addTouch_41 1 rfl rfl ?_
      refine r_dup2 0 2 rfl rfl (by decide) (by decide) d_X9_addTouch_42 ?_
      refine r_iaload d_X9_addTouch_43 (ly_9_1 bt).2.2 h1 ?_
      refine r_iconst d_X9_addTouch_44 ?_
      refine r_iadd d_X9_addTouch_45 ?_
      obtain ⟨G6, eG6⟩ : ∃ y : Mem, y = st G (t + 2) p0 ((G (t + 2) p0) + 1) := ⟨_, rfl⟩
      replace h := h G6 eG6
      refine r_iastore d_X9_addTouch_46 (ly_9_1 bt).2.2 h1 ?_
      rw [← eG6]
      refine r_iconst d_X9_addTouch_47 ?_
      exact r_zreturn d_X9_addTouch_48 rfl ⟨rfl, Nat.le_refl _, Nat.le_refl _⟩ (by decide) h
    · replace h := h.2 c5
      refine r_aload_n d_X9_addTouch_24 0 rfl rfl ?_
      refine r_getL (v := (t + 1)) 9 0 0 rfl d_X9_addTouch_25 fl_X9_9 (by decide) (bs_ob bt) (ly_9_0 bt).1 (ly_9_0 bt).2.1 ?_
      refine r_iload_n d_X9_addTouch_28 1 rfl rfl ?_
      refine r_dup2 0 2 rfl rfl (by decide) (by decide) d_X9_addTouch_29 ?_
      refine r_iaload d_X9_addTouch_30 (ly_9_0 bt).2.2 h1 ?_
      refine r_iconst d_X9_addTouch_31 ?_
      refine r_iadd d_X9_addTouch_32 ?_
      obtain ⟨G7, eG7⟩ : ∃ y : Mem, y = st G (t + 1) p0 ((G (t + 1) p0) + 1) := ⟨_, rfl⟩
      replace h := h G7 eG7
      refine r_iastore d_X9_addTouch_33 (ly_9_0 bt).2.2 h1 ?_
      rw [← eG7]
      refine r_goto (tgt := 47) d_X9_addTouch_34 (by decide) ?_
      refine r_iconst d_X9_addTouch_47 ?_
      exact r_zreturn d_X9_addTouch_48 rfl ⟨rfl, Nat.le_refl _, Nat.le_refl _⟩ (by decide) h
  · replace h := h.2 c3
    refine r_iconst d_X9_addTouch_18 ?_
    exact r_zreturn d_X9_addTouch_19 rfl ⟨rfl, Nat.le_refl _, Nat.le_refl _⟩ (by decide) h
theorem d_X9_likely_0 : decode M_X9_likely.2.1 0 = .ok (.lconst 1, 1) := by decide +kernel
theorem d_X9_likely_1 : decode M_X9_likely.2.1 1 = .ok (.lstore_n 3, 1) := by decide +kernel
theorem d_X9_likely_2 : decode M_X9_likely.2.1 2 = .ok (.iconst 0, 1) := by decide +kernel
theorem d_X9_likely_3 : decode M_X9_likely.2.1 3 = .ok (.istore 5, 2) := by decide +kernel
theorem d_X9_likely_5 : decode M_X9_likely.2.1 5 = .ok (.iload 5, 2) := by decide +kernel
theorem d_X9_likely_7 : decode M_X9_likely.2.1 7 = .ok (.aload_n 0, 1) := by decide +kernel
theorem d_X9_likely_8 : decode M_X9_likely.2.1 8 = .ok (.getfield 9, 3) := by decide +kernel
theorem d_X9_likely_11 : decode M_X9_likely.2.1 11 = .ok (.iload_n 1, 1) := by decide +kernel
theorem d_X9_likely_12 : decode M_X9_likely.2.1 12 = .ok (.iaload, 1) := by decide +kernel
theorem d_X9_likely_13 : decode M_X9_likely.2.1 13 = .ok (.if_icmp .ge 14, 3) := by decide +kernel
theorem d_X9_likely_16 : decode M_X9_likely.2.1 16 = .ok (.lload_n 3, 1) := by decide +kernel
theorem d_X9_likely_17 : decode M_X9_likely.2.1 17 = .ok (.iload_n 2, 1) := by decide +kernel
theorem d_X9_likely_18 : decode M_X9_likely.2.1 18 = .ok (.i2l, 1) := by decide +kernel
theorem d_X9_likely_19 : decode M_X9_likely.2.1 19 = .ok (.lmul, 1) := by decide +kernel
theorem d_X9_likely_20 : decode M_X9_likely.2.1 20 = .ok (.lstore_n 3, 1) := by decide +kernel
theorem d_X9_likely_21 : decode M_X9_likely.2.1 21 = .ok (.iinc 5 1, 3) := by decide +kernel
theorem d_X9_likely_24 : decode M_X9_likely.2.1 24 = .ok (.goto (-19), 3) := by decide +kernel
theorem d_X9_likely_27 : decode M_X9_likely.2.1 27 = .ok (.iconst 0, 1) := by decide +kernel
theorem d_X9_likely_28 : decode M_X9_likely.2.1 28 = .ok (.istore 5, 2) := by decide +kernel
theorem d_X9_likely_30 : decode M_X9_likely.2.1 30 = .ok (.iload 5, 2) := by decide +kernel
theorem d_X9_likely_32 : decode M_X9_likely.2.1 32 = .ok (.aload_n 0, 1) := by decide +kernel
theorem d_X9_likely_33 : decode M_X9_likely.2.1 33 = .ok (.getfield 15, 3) := by decide +kernel
theorem d_X9_likely_36 : decode M_X9_likely.2.1 36 = .ok (.iload_n 1, 1) := by decide +kernel
theorem d_X9_likely_37 : decode M_X9_likely.2.1 37 = .ok (.iaload, 1) := by decide +kernel
theorem d_X9_likely_38 : decode M_X9_likely.2.1 38 = .ok (.if_icmp .ge 17, 3) := by decide +kernel
theorem d_X9_likely_41 : decode M_X9_likely.2.1 41 = .ok (.lload_n 3, 1) := by decide +kernel
theorem d_X9_likely_42 : decode M_X9_likely.2.1 42 = .ok (.bipush 10, 2) := by decide +kernel
theorem d_X9_likely_44 : decode M_X9_likely.2.1 44 = .ok (.iload_n 2, 1) := by decide +kernel
theorem d_X9_likely_45 : decode M_X9_likely.2.1 45 = .ok (.isub, 1) := by decide +kernel
theorem d_X9_likely_46 : decode M_X9_likely.2.1 46 = .ok (.i2l, 1) := by decide +kernel
theorem d_X9_likely_47 : decode M_X9_likely.2.1 47 = .ok (.lmul, 1) := by decide +kernel
theorem d_X9_likely_48 : decode M_X9_likely.2.1 48 = .ok (.lstore_n 3, 1) := by decide +kernel
theorem d_X9_likely_49 : decode M_X9_likely.2.1 49 = .ok (.iinc 5 1, 3) := by decide +kernel
theorem d_X9_likely_52 : decode M_X9_likely.2.1 52 = .ok (.goto (-22), 3) := by decide +kernel
theorem d_X9_likely_55 : decode M_X9_likely.2.1 55 = .ok (.lload_n 3, 1) := by decide +kernel
theorem d_X9_likely_56 : decode M_X9_likely.2.1 56 = .ok (.lreturn, 1) := by decide +kernel
set_option maxRecDepth 20000 in
theorem s_X9_likely_0 {d : Nat} {t : Int} {p0 : Int} {p1 : Int} {G : Mem} {Q : Int → Mem → Prop} (bt : Bs 9 t) (h : Rn d M_X9_likely zN 5 [(0, (2, t)), (1, (0, p0)), (2, (0, p1)), (3, (1, 1)), (5, (0, 0))] [] G Q) : Rn d M_X9_likely zN 0 [(0, (2, t)), (1, (0, p0)), (2, (0, p1))] [] G Q := by
  refine r_lconst (x := 1) d_X9_likely_0 rfl ?_
  refine r_lstore_n (ls1 := [(3, (1, 1)), (0, (2, t)), (1, (0, p0)), (2, (0, p1))]) d_X9_likely_1 rfl (by decide) rfl ?_
  refine r_iconst d_X9_likely_2 ?_
  refine r_istore (ls1 := [(5, (0, 0)), (3, (1, 1)), (0, (2, t)), (1, (0, p0)), (2, (0, p1))]) d_X9_likely_3 (by decide) rfl ?_
  exact Rn.sub [2, 3, 4, 1, 0] rfl h
set_option maxRecDepth 20000 in
theorem s_X9_likely_5 {d : Nat} {x0 : Int} {x1 : Int} {x2 : Int} {x3 : Int} {x5 : Int} {G : Mem} {Q : Int → Mem → Prop} (bx0 : Bs 9 x0) (h : (0 ≤ x1 ∧ x1 < 5) ∧ ((InR x5) ∧ (InR (G (x0 + 1) x1)) ∧ (((G (x0 + 1) x1) ≤ x5) → Rn d M_X9_likely zN 30 [(0, (2, x0)), (1, (0, x1)), (2, (0, x2)), (3, (1, x3)), (5, (0, 0))] [] G Q) ∧ (¬ ((G (x0 + 1) x1) ≤ x5) → (InR x2) ∧ (Rn d M_X9_likely zN 5 [(0, (2, x0)), (1, (0, x1)), (2, (0, x2)), (3, (1, (x3 * x2))), (5, (0, (x5 + 1)))] [] G Q)))) : Rn d M_X9_likely zN 5 [(0, (2, x0)), (1, (0, x1)), (2, (0, x2)), (3, (1, x3)), (5, (0, x5))] [] G Q := by
  refine r_iload d_X9_likely_5 4 rfl ?_
  refine r_aload_n d_X9_likely_7 0 rfl rfl ?_
  refine r_getL (v := (x0 + 1)) 9 0 0 rfl d_X9_likely_8 fl_X9_9 (by decide) (bs_ob bx0) (ly_9_0 bx0).1 (ly_9_0 bx0).2.1 ?_
  refine r_iload_n d_X9_likely_11 1 rfl rfl ?_
  obtain ⟨h1, h⟩ := h
  refine r_iaload d_X9_likely_12 (ly_9_0 bx0).2.2 h1 ?_
  obtain ⟨h2, h⟩ := h
  obtain ⟨h3, h⟩ := h
  refine r_icmp_ge (tgt := 27) d_X9_likely_13 (by decide) h2 h3 (fun c4 => ?_) (fun c4 => ?_)
  · replace h := h.1 c4
    refine r_iconst d_X9_likely_27 ?_
    refine r_istore (ls1 := [(5, (0, 0)), (0, (2, x0)), (1, (0, x1)), (2, (0, x2)), (3, (1, x3))]) d_X9_likely_28 (by decide) rfl ?_
    exact Rn.sub [1, 2, 3, 4, 0] rfl h
  · replace h := h.2 c4
    refine r_lload_n d_X9_likely_16 3 rfl rfl ?_
    refine r_iload_n d_X9_likely_17 2 rfl rfl ?_
    obtain ⟨h5, h⟩ := h
    refine r_i2l d_X9_likely_18 h5 ?_
    refine r_lmul d_X9_likely_19 ?_
    refine r_lstore_n (ls1 := [(3, (1, (x3 * x2))), (0, (2, x0)), (1, (0, x1)), (2, (0, x2)), (5, (0, x5))]) d_X9_likely_20 rfl (by decide) rfl ?_
    refine r_iinc (ls1 := [(5, (0, (x5 + 1))), (3, (1, (x3 * x2))), (0, (2, x0)), (1, (0, x1)), (2, (0, x2))]) d_X9_likely_21 4 rfl (by decide) rfl ?_
    refine r_goto (tgt := 5) d_X9_likely_24 (by decide) ?_
    exact Rn.sub [2, 3, 4, 1, 0] rfl h
set_option maxRecDepth 20000 in
theorem s_X9_likely_30 {d : Nat} {x0 : Int} {x1 : Int} {x2 : Int} {x3 : Int} {x5 : Int} {G : Mem} {Q : Int → Mem → Prop} (bx0 : Bs 9 x0) (h : (0 ≤ x1 ∧ x1 < 5) ∧ ((InR x5) ∧ (InR (G (x0 + 2) x1)) ∧ (((G (x0 + 2) x1) ≤ x5) → Q x3 G) ∧ (¬ ((G (x0 + 2) x1) ≤ x5) → (InR (10 - x2)) ∧ (Rn d M_X9_likely zN 30 [(0, (2, x0)), (1, (0, x1)), (2, (0, x2)), (3, (1, (x3 * (10 - x2)))), (5, (0, (x5 + 1)))] [] G Q)))) : Rn d M_X9_likely zN 30 [(0, (2, x0)), (1, (0, x1)), (2, (0, x2)), (3, (1, x3)), (5, (0, x5))] [] G Q := by
  refine r_iload d_X9_likely_30 4 rfl ?_
  refine r_aload_n d_X9_likely_32 0 rfl rfl ?_
  refine r_getL (v := (x0 + 2)) 9 1 1 rfl d_X9_likely_33 fl_X9_15 (by decide) (bs_ob bx0) (ly_9_1 bx0).1 (ly_9_1 bx0).2.1 ?_
  refine r_iload_n d_X9_likely_36 1 rfl rfl ?_
  obtain ⟨h1, h⟩ := h
  refine r_iaload d_X9_likely_37 (ly_9_1 bx0).2.2 h1 ?_
  obtain ⟨h2, h⟩ := h
  obtain ⟨h3, h⟩ := h
  refine r_icmp_ge (tgt := 55) d_X9_likely_38 (by decide) h2 h3 (fun c4 => ?_) (fun c4 => ?_)
  · replace h := h.1 c4
    refine r_lload_n d_X9_likely_55 3 rfl rfl ?_
    exact r_lreturn d_X9_likely_56 rfl ⟨rfl, Nat.le_refl _, Nat.le_refl _⟩ h
  · replace h := h.2 c4
    refine r_lload_n d_X9_likely_41 3 rfl rfl ?_
    refine r_bipush d_X9_likely_42 (by decide +kernel) ?_
    refine r_iload_n d_X9_likely_44 2 rfl rfl ?_
    refine r_isub d_X9_likely_45 ?_
    obtain ⟨h5, h⟩ := h
    refine r_i2l d_X9_likely_46 h5 ?_
    refine r_lmul d_X9_likely_47 ?_
    refine r_lstore_n (ls1 := [(3, (1, (x3 * (10 - x2)))), (0, (2, x0)), (1, (0, x1)), (2, (0, x2)), (5, (0, x5))]) d_X9_likely_48 rfl (by decide) rfl ?_
    refine r_iinc (ls1 := [(5, (0, (x5 + 1))), (3, (1, (x3 * (10 - x2)))), (0, (2, x0)), (1, (0, x1)), (2, (0, x2))]) d_X9_likely_49 4 rfl (by decide) rfl ?_
    refine r_goto (tgt := 30) d_X9_likely_52 (by decide) ?_
    exact Rn.sub [2, 3, 4, 1, 0] rfl h
theorem d_X9_addWent_0 : decode M_X9_addWent.2.1 0 = .ok (.aload_n 0, 1) := by decide +kernel
theorem d_X9_addWent_1 : decode M_X9_addWent.2.1 1 = .ok (.getfield 18, 3) := by decide +kernel
theorem d_X9_addWent_4 : decode M_X9_addWent.2.1 4 = .ok (.iload_n 1, 1) := by decide +kernel
theorem d_X9_addWent_5 : decode M_X9_addWent.2.1 5 = .ok (.iaload, 1) := by decide +kernel
theorem d_X9_addWent_6 : decode M_X9_addWent.2.1 6 = .ok (.istore_n 3, 1) := by decide +kernel
theorem d_X9_addWent_7 : decode M_X9_addWent.2.1 7 = .ok (.iload_n 3, 1) := by decide +kernel
theorem d_X9_addWent_8 : decode M_X9_addWent.2.1 8 = .ok (.ifCond .ne 7, 3) := by decide +kernel
theorem d_X9_addWent_11 : decode M_X9_addWent.2.1 11 = .ok (.iconst (-1), 1) := by decide +kernel
theorem d_X9_addWent_12 : decode M_X9_addWent.2.1 12 = .ok (.goto 16, 3) := by decide +kernel
theorem d_X9_addWent_15 : decode M_X9_addWent.2.1 15 = .ok (.aload_n 0, 1) := by decide +kernel
theorem d_X9_addWent_16 : decode M_X9_addWent.2.1 16 = .ok (.getfield 21, 3) := by decide +kernel
theorem d_X9_addWent_19 : decode M_X9_addWent.2.1 19 = .ok (.iload_n 1, 1) := by decide +kernel
theorem d_X9_addWent_20 : decode M_X9_addWent.2.1 20 = .ok (.bipush 12, 2) := by decide +kernel
theorem d_X9_addWent_22 : decode M_X9_addWent.2.1 22 = .ok (.imul, 1) := by decide +kernel
theorem d_X9_addWent_23 : decode M_X9_addWent.2.1 23 = .ok (.iload_n 3, 1) := by decide +kernel
theorem d_X9_addWent_24 : decode M_X9_addWent.2.1 24 = .ok (.iadd, 1) := by decide +kernel
theorem d_X9_addWent_25 : decode M_X9_addWent.2.1 25 = .ok (.iconst 1, 1) := by decide +kernel
theorem d_X9_addWent_26 : decode M_X9_addWent.2.1 26 = .ok (.isub, 1) := by decide +kernel
theorem d_X9_addWent_27 : decode M_X9_addWent.2.1 27 = .ok (.iaload, 1) := by decide +kernel
theorem d_X9_addWent_28 : decode M_X9_addWent.2.1 28 = .ok (.istore 4, 2) := by decide +kernel
theorem d_X9_addWent_30 : decode M_X9_addWent.2.1 30 = .ok (.iload_n 3, 1) := by decide +kernel
theorem d_X9_addWent_31 : decode M_X9_addWent.2.1 31 = .ok (.bipush 12, 2) := by decide +kernel
theorem d_X9_addWent_33 : decode M_X9_addWent.2.1 33 = .ok (.if_icmp .ge 19, 3) := by decide +kernel
theorem d_X9_addWent_36 : decode M_X9_addWent.2.1 36 = .ok (.iload_n 2, 1) := by decide +kernel
theorem d_X9_addWent_37 : decode M_X9_addWent.2.1 37 = .ok (.ifCond .lt 15, 3) := by decide +kernel
theorem d_X9_addWent_40 : decode M_X9_addWent.2.1 40 = .ok (.iload_n 2, 1) := by decide +kernel
theorem d_X9_addWent_41 : decode M_X9_addWent.2.1 41 = .ok (.bipush 72, 2) := by decide +kernel
theorem d_X9_addWent_43 : decode M_X9_addWent.2.1 43 = .ok (.if_icmp .ge 9, 3) := by decide +kernel
theorem d_X9_addWent_46 : decode M_X9_addWent.2.1 46 = .ok (.iload_n 2, 1) := by decide +kernel
theorem d_X9_addWent_47 : decode M_X9_addWent.2.1 47 = .ok (.iload 4, 2) := by decide +kernel
theorem d_X9_addWent_49 : decode M_X9_addWent.2.1 49 = .ok (.if_icmp .gt 5, 3) := by decide +kernel
theorem d_X9_addWent_52 : decode M_X9_addWent.2.1 52 = .ok (.iconst 0, 1) := by decide +kernel
theorem d_X9_addWent_53 : decode M_X9_addWent.2.1 53 = .ok (.ireturn, 1) := by decide +kernel
theorem d_X9_addWent_54 : decode M_X9_addWent.2.1 54 = .ok (.aload_n 0, 1) := by decide +kernel
theorem d_X9_addWent_55 : decode M_X9_addWent.2.1 55 = .ok (.getfield 21, 3) := by decide +kernel
theorem d_X9_addWent_58 : decode M_X9_addWent.2.1 58 = .ok (.iload_n 1, 1) := by decide +kernel
theorem d_X9_addWent_59 : decode M_X9_addWent.2.1 59 = .ok (.bipush 12, 2) := by decide +kernel
theorem d_X9_addWent_61 : decode M_X9_addWent.2.1 61 = .ok (.imul, 1) := by decide +kernel
theorem d_X9_addWent_62 : decode M_X9_addWent.2.1 62 = .ok (.iload_n 3, 1) := by decide +kernel
theorem d_X9_addWent_63 : decode M_X9_addWent.2.1 63 = .ok (.iadd, 1) := by decide +kernel
theorem d_X9_addWent_64 : decode M_X9_addWent.2.1 64 = .ok (.iload_n 2, 1) := by decide +kernel
theorem d_X9_addWent_65 : decode M_X9_addWent.2.1 65 = .ok (.iastore, 1) := by decide +kernel
theorem d_X9_addWent_66 : decode M_X9_addWent.2.1 66 = .ok (.aload_n 0, 1) := by decide +kernel
theorem d_X9_addWent_67 : decode M_X9_addWent.2.1 67 = .ok (.getfield 18, 3) := by decide +kernel
theorem d_X9_addWent_70 : decode M_X9_addWent.2.1 70 = .ok (.iload_n 1, 1) := by decide +kernel
theorem d_X9_addWent_71 : decode M_X9_addWent.2.1 71 = .ok (.dup2, 1) := by decide +kernel
theorem d_X9_addWent_72 : decode M_X9_addWent.2.1 72 = .ok (.iaload, 1) := by decide +kernel
theorem d_X9_addWent_73 : decode M_X9_addWent.2.1 73 = .ok (.iconst 1, 1) := by decide +kernel
theorem d_X9_addWent_74 : decode M_X9_addWent.2.1 74 = .ok (.iadd, 1) := by decide +kernel
theorem d_X9_addWent_75 : decode M_X9_addWent.2.1 75 = .ok (.iastore, 1) := by decide +kernel
theorem d_X9_addWent_76 : decode M_X9_addWent.2.1 76 = .ok (.iconst 1, 1) := by decide +kernel
theorem d_X9_addWent_77 : decode M_X9_addWent.2.1 77 = .ok (.ireturn, 1) := by decide +kernel
set_option maxRecDepth 20000 in
theorem s_X9_addWent_0 {d : Nat} {t : Int} {p0 : Int} {p1 : Int} {G : Mem} {Q : Int → Mem → Prop} (bt : Bs 9 t) (h : (0 ≤ p0 ∧ p0 < 5) ∧ ((InR (G (t + 3) p0)) ∧ (((G (t + 3) p0) ≠ 0) → (0 ≤ (((p0 * 12) + (G (t + 3) p0)) - 1) ∧ (((p0 * 12) + (G (t + 3) p0)) - 1) < 60) ∧ (Rn d M_X9_addWent zN 28 [(0, (2, t)), (1, (0, p0)), (2, (0, p1)), (3, (0, (G (t + 3) p0)))] [(0, (G (t + 4) (((p0 * 12) + (G (t + 3) p0)) - 1)))] G Q)) ∧ (¬ ((G (t + 3) p0) ≠ 0) → Rn d M_X9_addWent zN 28 [(0, (2, t)), (1, (0, p0)), (2, (0, p1)), (3, (0, (G (t + 3) p0)))] [(0, (-1))] G Q))) : Rn d M_X9_addWent zN 0 [(0, (2, t)), (1, (0, p0)), (2, (0, p1))] [] G Q := by
  refine r_aload_n d_X9_addWent_0 0 rfl rfl ?_
  refine r_getL (v := (t + 3)) 9 2 2 rfl d_X9_addWent_1 fl_X9_18 (by decide) (bs_ob bt) (ly_9_2 bt).1 (ly_9_2 bt).2.1 ?_
  refine r_iload_n d_X9_addWent_4 1 rfl rfl ?_
  obtain ⟨h1, h⟩ := h
  refine r_iaload d_X9_addWent_5 (ly_9_2 bt).2.2 h1 ?_
  refine r_istore_n (ls1 := [(3, (0, (G (t + 3) p0))), (0, (2, t)), (1, (0, p0)), (2, (0, p1))]) d_X9_addWent_6 rfl (by decide) rfl ?_
  refine r_iload_n d_X9_addWent_7 0 rfl rfl ?_
  obtain ⟨h2, h⟩ := h
  refine r_if_ne (tgt := 15) d_X9_addWent_8 (by decide) h2 (fun c3 => ?_) (fun c3 => ?_)
  · replace h := h.1 c3
    refine r_aload_n d_X9_addWent_15 1 rfl rfl ?_
    refine r_getL (v := (t + 4)) 9 3 3 rfl d_X9_addWent_16 fl_X9_21 (by decide) (bs_ob bt) (ly_9_3 bt).1 (ly_9_3 bt).2.1 ?_
    refine r_iload_n d_X9_addWent_19 2 rfl rfl ?_
    refine r_bipush d_X9_addWent_20 (by decide +kernel) ?_
    refine r_imul d_X9_addWent_22 ?_
    refine r_iload_n d_X9_addWent_23 0 rfl rfl ?_
    refine r_iadd d_X9_addWent_24 ?_
    refine r_iconst d_X9_addWent_25 ?_
    refine r_isub d_X9_addWent_26 ?_
    obtain ⟨h4, h⟩ := h
    refine r_iaload d_X9_addWent_27 (ly_9_3 bt).2.2 h4 ?_
    exact Rn.sub [1, 2, 3, 0] rfl h
  · replace h := h.2 c3
    refine r_iconst d_X9_addWent_11 ?_
    refine r_goto (tgt := 28) d_X9_addWent_12 (by decide) ?_
    exact Rn.sub [1, 2, 3, 0] rfl h
set_option maxRecDepth 20000 in
theorem s_X9_addWent_28 {d : Nat} {x0 : Int} {x1 : Int} {x2 : Int} {x3 : Int} {s0 : Int} {G : Mem} {Q : Int → Mem → Prop} (bx0 : Bs 9 x0) (h : (InR x3) ∧ ((12 ≤ x3) → Q 0 G) ∧ (¬ (12 ≤ x3) → (InR x2) ∧ ((x2 < 0) → Q 0 G) ∧ (¬ (x2 < 0) → ((72 ≤ x2) → Q 0 G) ∧ (¬ (72 ≤ x2) → (InR s0) ∧ ((s0 < x2) → (0 ≤ ((x1 * 12) + x3) ∧ ((x1 * 12) + x3) < 60) ∧ (∀ G9 : Mem, G9 = st G (x0 + 4) ((x1 * 12) + x3) x2 → (0 ≤ x1 ∧ x1 < 5) ∧ ((∀ G11 : Mem, G11 = st G9 (x0 + 3) x1 ((G9 (x0 + 3) x1) + 1) → Q 1 G11)))) ∧ (¬ (s0 < x2) → Q 0 G))))) : Rn d M_X9_addWent zN 28 [(0, (2, x0)), (1, (0, x1)), (2, (0, x2)), (3, (0, x3))] [(0, s0)] G Q := by
  refine r_istore (ls1 := [(4, (0, s0)), (0, (2, x0)), (1, (0, x1)), (2, (0, x2)), (3, (0, x3))]) d_X9_addWent_28 (by decide) rfl ?_
  refine r_iload_n d_X9_addWent_30 4 rfl rfl ?_
  refine r_bipush d_X9_addWent_31 (by decide +kernel) ?_
  obtain ⟨h1, h⟩ := h
  refine r_icmp_ge (tgt := 52) d_X9_addWent_33 (by decide) h1 ⟨by decide, by decide⟩ (fun c2 => ?_) (fun c2 => ?_)
  · replace h := h.1 c2
    refine r_iconst d_X9_addWent_52 ?_
    exact r_zreturn d_X9_addWent_53 rfl ⟨rfl, Nat.le_refl _, Nat.le_refl _⟩ (by decide) h
  · replace h := h.2 c2
    refine r_iload_n d_X9_addWent_36 3 rfl rfl ?_
    obtain ⟨h3, h⟩ := h
    refine r_if_lt (tgt := 52) d_X9_addWent_37 (by decide) h3 (fun c4 => ?_) (fun c4 => ?_)
    · replace h := h.1 c4
      refine r_iconst d_X9_addWent_52 ?_
      exact r_zreturn d_X9_addWent_53 rfl ⟨rfl, Nat.le_refl _, Nat.le_refl _⟩ (by decide) h
    · replace h := h.2 c4
      refine r_iload_n d_X9_addWent_40 3 rfl rfl ?_
      refine r_bipush d_X9_addWent_41 (by decide +kernel) ?_
      refine r_icmp_ge (tgt := 52) d_X9_addWent_43 (by decide) h3 ⟨by decide, by decide⟩ (fun c5 => ?_) (fun c5 => ?_)
      · replace h := h.1 c5
        refine r_iconst d_X9_addWent_52 ?_
        exact r_zreturn d_X9_addWent_53 rfl ⟨rfl, Nat.le_refl _, Nat.le_refl _⟩ (by decide) h
      · replace h := h.2 c5
        refine r_iload_n d_X9_addWent_46 3 rfl rfl ?_
        refine r_iload d_X9_addWent_47 0 rfl ?_
        obtain ⟨h6, h⟩ := h
        refine r_icmp_gt (tgt := 54) d_X9_addWent_49 (by decide) h3 h6 (fun c7 => ?_) (fun c7 => ?_)
        · replace h := h.1 c7
          refine r_aload_n d_X9_addWent_54 1 rfl rfl ?_
          refine r_getL (v := (x0 + 4)) 9 3 3 rfl d_X9_addWent_55 fl_X9_21 (by decide) (bs_ob bx0) (ly_9_3 bx0).1 (ly_9_3 bx0).2.1 ?_
          refine r_iload_n d_X9_addWent_58 2 rfl rfl ?_
          refine r_bipush d_X9_addWent_59 (by decide +kernel) ?_
          refine r_imul d_X9_addWent_61 ?_
          refine r_iload_n d_X9_addWent_62 4 rfl rfl ?_
          refine r_iadd d_X9_addWent_63 ?_
          refine r_iload_n d_X9_addWent_64 3 rfl rfl ?_
          obtain ⟨h8, h⟩ := h
          obtain ⟨G9, eG9⟩ : ∃ y : Mem, y = st G (x0 + 4) ((x1 * 12) + x3) x2 := ⟨_, rfl⟩
          replace h := h G9 eG9
          refine r_iastore d_X9_addWent_65 (ly_9_3 bx0).2.2 h8 ?_
          rw [← eG9]
          refine r_aload_n d_X9_addWent_66 1 rfl rfl ?_
          refine r_getL (v := (x0 + 3)) 9 2 2 rfl d_X9_addWent_67 fl_X9_18 (by decide) (bs_ob bx0) (ly_9_2 bx0).1 (ly_9_2 bx0).2.1 ?_
          refine r_iload_n d_X9_addWent_70 2 rfl rfl ?_
          refine r_dup2 0 2 rfl rfl (by decide) (by decide) d_X9_addWent_71 ?_
          obtain ⟨h10, h⟩ := h
          refine r_iaload d_X9_addWent_72 (ly_9_2 bx0).2.2 h10 ?_
          refine r_iconst d_X9_addWent_73 ?_
          refine r_iadd d_X9_addWent_74 ?_
          obtain ⟨G11, eG11⟩ : ∃ y : Mem, y = st G9 (x0 + 3) x1 ((G9 (x0 + 3) x1) + 1) := ⟨_, rfl⟩
          replace h := h G11 eG11
          refine r_iastore d_X9_addWent_75 (ly_9_2 bx0).2.2 h10 ?_
          rw [← eG11]
          refine r_iconst d_X9_addWent_76 ?_
          exact r_zreturn d_X9_addWent_77 rfl ⟨rfl, Nat.le_refl _, Nat.le_refl _⟩ (by decide) h
        · replace h := h.2 c7
          refine r_iconst d_X9_addWent_52 ?_
          exact r_zreturn d_X9_addWent_53 rfl ⟨rfl, Nat.le_refl _, Nat.le_refl _⟩ (by decide) h
theorem d_X9_fitting_0 : decode M_X9_fitting.2.1 0 = .ok (.aload_n 0, 1) := by decide +kernel
theorem d_X9_fitting_1 : decode M_X9_fitting.2.1 1 = .ok (.getfield 18, 3) := by decide +kernel
theorem d_X9_fitting_4 : decode M_X9_fitting.2.1 4 = .ok (.iload_n 1, 1) := by decide +kernel
theorem d_X9_fitting_5 : decode M_X9_fitting.2.1 5 = .ok (.iaload, 1) := by decide +kernel
theorem d_X9_fitting_6 : decode M_X9_fitting.2.1 6 = .ok (.ifCond .eq 7, 3) := by decide +kernel
theorem d_X9_fitting_9 : decode M_X9_fitting.2.1 9 = .ok (.iload_n 2, 1) := by decide +kernel
theorem d_X9_fitting_10 : decode M_X9_fitting.2.1 10 = .ok (.ifCond .gt 5, 3) := by decide +kernel
theorem d_X9_fitting_13 : decode M_X9_fitting.2.1 13 = .ok (.iconst 0, 1) := by decide +kernel
theorem d_X9_fitting_14 : decode M_X9_fitting.2.1 14 = .ok (.ireturn, 1) := by decide +kernel
theorem d_X9_fitting_15 : decode M_X9_fitting.2.1 15 = .ok (.iload_n 3, 1) := by decide +kernel
theorem d_X9_fitting_16 : decode M_X9_fitting.2.1 16 = .ok (.iload_n 2, 1) := by decide +kernel
theorem d_X9_fitting_17 : decode M_X9_fitting.2.1 17 = .ok (.iadd, 1) := by decide +kernel
theorem d_X9_fitting_18 : decode M_X9_fitting.2.1 18 = .ok (.iconst 1, 1) := by decide +kernel
theorem d_X9_fitting_19 : decode M_X9_fitting.2.1 19 = .ok (.isub, 1) := by decide +kernel
theorem d_X9_fitting_20 : decode M_X9_fitting.2.1 20 = .ok (.iload_n 2, 1) := by decide +kernel
theorem d_X9_fitting_21 : decode M_X9_fitting.2.1 21 = .ok (.idiv, 1) := by decide +kernel
theorem d_X9_fitting_22 : decode M_X9_fitting.2.1 22 = .ok (.istore 4, 2) := by decide +kernel
theorem d_X9_fitting_24 : decode M_X9_fitting.2.1 24 = .ok (.iload 4, 2) := by decide +kernel
theorem d_X9_fitting_26 : decode M_X9_fitting.2.1 26 = .ok (.istore 5, 2) := by decide +kernel
theorem d_X9_fitting_28 : decode M_X9_fitting.2.1 28 = .ok (.iconst 0, 1) := by decide +kernel
theorem d_X9_fitting_29 : decode M_X9_fitting.2.1 29 = .ok (.istore 6, 2) := by decide +kernel
theorem d_X9_fitting_31 : decode M_X9_fitting.2.1 31 = .ok (.iload 6, 2) := by decide +kernel
theorem d_X9_fitting_33 : decode M_X9_fitting.2.1 33 = .ok (.aload_n 0, 1) := by decide +kernel
theorem d_X9_fitting_34 : decode M_X9_fitting.2.1 34 = .ok (.getfield 18, 3) := by decide +kernel
theorem d_X9_fitting_37 : decode M_X9_fitting.2.1 37 = .ok (.iload_n 1, 1) := by decide +kernel
theorem d_X9_fitting_38 : decode M_X9_fitting.2.1 38 = .ok (.iaload, 1) := by decide +kernel
theorem d_X9_fitting_39 : decode M_X9_fitting.2.1 39 = .ok (.if_icmp .ge 41, 3) := by decide +kernel
theorem d_X9_fitting_42 : decode M_X9_fitting.2.1 42 = .ok (.aload_n 0, 1) := by decide +kernel
theorem d_X9_fitting_43 : decode M_X9_fitting.2.1 43 = .ok (.getfield 21, 3) := by decide +kernel
theorem d_X9_fitting_46 : decode M_X9_fitting.2.1 46 = .ok (.iload_n 1, 1) := by decide +kernel
theorem d_X9_fitting_47 : decode M_X9_fitting.2.1 47 = .ok (.bipush 12, 2) := by decide +kernel
theorem d_X9_fitting_49 : decode M_X9_fitting.2.1 49 = .ok (.imul, 1) := by decide +kernel
theorem d_X9_fitting_50 : decode M_X9_fitting.2.1 50 = .ok (.iload 6, 2) := by decide +kernel
theorem d_X9_fitting_52 : decode M_X9_fitting.2.1 52 = .ok (.iadd, 1) := by decide +kernel
theorem d_X9_fitting_53 : decode M_X9_fitting.2.1 53 = .ok (.iaload, 1) := by decide +kernel
theorem d_X9_fitting_54 : decode M_X9_fitting.2.1 54 = .ok (.istore 7, 2) := by decide +kernel
theorem d_X9_fitting_56 : decode M_X9_fitting.2.1 56 = .ok (.iload 7, 2) := by decide +kernel
theorem d_X9_fitting_58 : decode M_X9_fitting.2.1 58 = .ok (.iload 5, 2) := by decide +kernel
theorem d_X9_fitting_60 : decode M_X9_fitting.2.1 60 = .ok (.if_icmp .eq 5, 3) := by decide +kernel
theorem d_X9_fitting_63 : decode M_X9_fitting.2.1 63 = .ok (.iconst 0, 1) := by decide +kernel
theorem d_X9_fitting_64 : decode M_X9_fitting.2.1 64 = .ok (.ireturn, 1) := by decide +kernel
theorem d_X9_fitting_65 : decode M_X9_fitting.2.1 65 = .ok (.iload 7, 2) := by decide +kernel
theorem d_X9_fitting_67 : decode M_X9_fitting.2.1 67 = .ok (.iconst 1, 1) := by decide +kernel
theorem d_X9_fitting_68 : decode M_X9_fitting.2.1 68 = .ok (.iadd, 1) := by decide +kernel
theorem d_X9_fitting_69 : decode M_X9_fitting.2.1 69 = .ok (.iload 4, 2) := by decide +kernel
theorem d_X9_fitting_71 : decode M_X9_fitting.2.1 71 = .ok (.iadd, 1) := by decide +kernel
theorem d_X9_fitting_72 : decode M_X9_fitting.2.1 72 = .ok (.istore 5, 2) := by decide +kernel
theorem d_X9_fitting_74 : decode M_X9_fitting.2.1 74 = .ok (.iinc 6 1, 3) := by decide +kernel
theorem d_X9_fitting_77 : decode M_X9_fitting.2.1 77 = .ok (.goto (-46), 3) := by decide +kernel
theorem d_X9_fitting_80 : decode M_X9_fitting.2.1 80 = .ok (.iconst 1, 1) := by decide +kernel
theorem d_X9_fitting_81 : decode M_X9_fitting.2.1 81 = .ok (.ireturn, 1) := by decide +kernel
set_option maxRecDepth 20000 in
theorem s_X9_fitting_0 {d : Nat} {t : Int} {p0 : Int} {p1 : Int} {p2 : Int} {G : Mem} {Q : Int → Mem → Prop} (bt : Bs 9 t) (h : (0 ≤ p0 ∧ p0 < 5) ∧ ((InR (G (t + 3) p0)) ∧ (((G (t + 3) p0) = 0) → Q 0 G) ∧ (¬ ((G (t + 3) p0) = 0) → (InR p1) ∧ ((0 < p1) → (InR ((p2 + p1) - 1)) ∧ (0 < p1 ∧ InR p1) ∧ (Rn d M_X9_fitting zN 31 [(0, (2, t)), (1, (0, p0)), (4, (0, (Int.tdiv ((p2 + p1) - 1) p1))), (5, (0, (Int.tdiv ((p2 + p1) - 1) p1))), (6, (0, 0))] [] G Q)) ∧ (¬ (0 < p1) → Q 0 G)))) : Rn d M_X9_fitting zN 0 [(0, (2, t)), (1, (0, p0)), (2, (0, p1)), (3, (0, p2))] [] G Q := by
  refine r_aload_n d_X9_fitting_0 0 rfl rfl ?_
  refine r_getL (v := (t + 3)) 9 2 2 rfl d_X9_fitting_1 fl_X9_18 (by decide) (bs_ob bt) (ly_9_2 bt).1 (ly_9_2 bt).2.1 ?_
  refine r_iload_n d_X9_fitting_4 1 rfl rfl ?_
  obtain ⟨h1, h⟩ := h
  refine r_iaload d_X9_fitting_5 (ly_9_2 bt).2.2 h1 ?_
  obtain ⟨h2, h⟩ := h
  refine r_if_eq (tgt := 13) d_X9_fitting_6 (by decide) h2 (fun c3 => ?_) (fun c3 => ?_)
  · replace h := h.1 c3
    refine r_iconst d_X9_fitting_13 ?_
    exact r_zreturn d_X9_fitting_14 rfl ⟨rfl, Nat.le_refl _, Nat.le_refl _⟩ (by decide) h
  · replace h := h.2 c3
    refine r_iload_n d_X9_fitting_9 2 rfl rfl ?_
    obtain ⟨h4, h⟩ := h
    refine r_if_gt (tgt := 15) d_X9_fitting_10 (by decide) h4 (fun c5 => ?_) (fun c5 => ?_)
    · replace h := h.1 c5
      refine r_iload_n d_X9_fitting_15 3 rfl rfl ?_
      refine r_iload_n d_X9_fitting_16 2 rfl rfl ?_
      refine r_iadd d_X9_fitting_17 ?_
      refine r_iconst d_X9_fitting_18 ?_
      refine r_isub d_X9_fitting_19 ?_
      refine r_iload_n d_X9_fitting_20 2 rfl rfl ?_
      obtain ⟨h6, h⟩ := h
      obtain ⟨h7, h⟩ := h
      refine r_idiv d_X9_fitting_21 h6 h7 ?_
      refine r_istore (ls1 := [(4, (0, (Int.tdiv ((p2 + p1) - 1) p1))), (0, (2, t)), (1, (0, p0)), (2, (0, p1)), (3, (0, p2))]) d_X9_fitting_22 (by decide) rfl ?_
      refine r_iload d_X9_fitting_24 0 rfl ?_
      refine r_istore (ls1 := [(5, (0, (Int.tdiv ((p2 + p1) - 1) p1))), (4, (0, (Int.tdiv ((p2 + p1) - 1) p1))), (0, (2, t)), (1, (0, p0)), (2, (0, p1)), (3, (0, p2))]) d_X9_fitting_26 (by decide) rfl ?_
      refine r_iconst d_X9_fitting_28 ?_
      refine r_istore (ls1 := [(6, (0, 0)), (5, (0, (Int.tdiv ((p2 + p1) - 1) p1))), (4, (0, (Int.tdiv ((p2 + p1) - 1) p1))), (0, (2, t)), (1, (0, p0)), (2, (0, p1)), (3, (0, p2))]) d_X9_fitting_29 (by decide) rfl ?_
      exact Rn.sub [3, 4, 2, 1, 0] rfl h
    · replace h := h.2 c5
      refine r_iconst d_X9_fitting_13 ?_
      exact r_zreturn d_X9_fitting_14 rfl ⟨rfl, Nat.le_refl _, Nat.le_refl _⟩ (by decide) h
set_option maxRecDepth 20000 in
theorem s_X9_fitting_31 {d : Nat} {x0 : Int} {x1 : Int} {x4 : Int} {x5 : Int} {x6 : Int} {G : Mem} {Q : Int → Mem → Prop} (bx0 : Bs 9 x0) (h : (0 ≤ x1 ∧ x1 < 5) ∧ ((InR x6) ∧ (InR (G (x0 + 3) x1)) ∧ (((G (x0 + 3) x1) ≤ x6) → Q 1 G) ∧ (¬ ((G (x0 + 3) x1) ≤ x6) → (0 ≤ ((x1 * 12) + x6) ∧ ((x1 * 12) + x6) < 60) ∧ ((InR (G (x0 + 4) ((x1 * 12) + x6))) ∧ (InR x5) ∧ (((G (x0 + 4) ((x1 * 12) + x6)) = x5) → Rn d M_X9_fitting zN 31 [(0, (2, x0)), (1, (0, x1)), (4, (0, x4)), (5, (0, (((G (x0 + 4) ((x1 * 12) + x6)) + 1) + x4))), (6, (0, (x6 + 1)))] [] G Q) ∧ (¬ ((G (x0 + 4) ((x1 * 12) + x6)) = x5) → Q 0 G))))) : Rn d M_X9_fitting zN 31 [(0, (2, x0)), (1, (0, x1)), (4, (0, x4)), (5, (0, x5)), (6, (0, x6))] [] G Q := by
  refine r_iload d_X9_fitting_31 4 rfl ?_
  refine r_aload_n d_X9_fitting_33 0 rfl rfl ?_
  refine r_getL (v := (x0 + 3)) 9 2 2 rfl d_X9_fitting_34 fl_X9_18 (by decide) (bs_ob bx0) (ly_9_2 bx0).1 (ly_9_2 bx0).2.1 ?_
  refine r_iload_n d_X9_fitting_37 1 rfl rfl ?_
  obtain ⟨h1, h⟩ := h
  refine r_iaload d_X9_fitting_38 (ly_9_2 bx0).2.2 h1 ?_
  obtain ⟨h2, h⟩ := h
  obtain ⟨h3, h⟩ := h
  refine r_icmp_ge (tgt := 80) d_X9_fitting_39 (by decide) h2 h3 (fun c4 => ?_) (fun c4 => ?_)
  · replace h := h.1 c4
    refine r_iconst d_X9_fitting_80 ?_
    exact r_zreturn d_X9_fitting_81 rfl ⟨rfl, Nat.le_refl _, Nat.le_refl _⟩ (by decide) h
  · replace h := h.2 c4
    refine r_aload_n d_X9_fitting_42 0 rfl rfl ?_
    refine r_getL (v := (x0 + 4)) 9 3 3 rfl d_X9_fitting_43 fl_X9_21 (by decide) (bs_ob bx0) (ly_9_3 bx0).1 (ly_9_3 bx0).2.1 ?_
    refine r_iload_n d_X9_fitting_46 1 rfl rfl ?_
    refine r_bipush d_X9_fitting_47 (by decide +kernel) ?_
    refine r_imul d_X9_fitting_49 ?_
    refine r_iload d_X9_fitting_50 4 rfl ?_
    refine r_iadd d_X9_fitting_52 ?_
    obtain ⟨h5, h⟩ := h
    refine r_iaload d_X9_fitting_53 (ly_9_3 bx0).2.2 h5 ?_
    refine r_istore (ls1 := [(7, (0, (G (x0 + 4) ((x1 * 12) + x6)))), (0, (2, x0)), (1, (0, x1)), (4, (0, x4)), (5, (0, x5)), (6, (0, x6))]) d_X9_fitting_54 (by decide) rfl ?_
    refine r_iload d_X9_fitting_56 0 rfl ?_
    refine r_iload d_X9_fitting_58 4 rfl ?_
    obtain ⟨h6, h⟩ := h
    obtain ⟨h7, h⟩ := h
    refine r_icmp_eq (tgt := 65) d_X9_fitting_60 (by decide) h6 h7 (fun c8 => ?_) (fun c8 => ?_)
    · replace h := h.1 c8
      refine r_iload d_X9_fitting_65 0 rfl ?_
      refine r_iconst d_X9_fitting_67 ?_
      refine r_iadd d_X9_fitting_68 ?_
      refine r_iload d_X9_fitting_69 3 rfl ?_
      refine r_iadd d_X9_fitting_71 ?_
      refine r_istore (ls1 := [(5, (0, (((G (x0 + 4) ((x1 * 12) + x6)) + 1) + x4))), (7, (0, (G (x0 + 4) ((x1 * 12) + x6)))), (0, (2, x0)), (1, (0, x1)), (4, (0, x4)), (6, (0, x6))]) d_X9_fitting_72 (by decide) rfl ?_
      refine r_iinc (ls1 := [(6, (0, (x6 + 1))), (5, (0, (((G (x0 + 4) ((x1 * 12) + x6)) + 1) + x4))), (7, (0, (G (x0 + 4) ((x1 * 12) + x6)))), (0, (2, x0)), (1, (0, x1)), (4, (0, x4))]) d_X9_fitting_74 5 rfl (by decide) rfl ?_
      refine r_goto (tgt := 31) d_X9_fitting_77 (by decide) ?_
      exact Rn.sub [3, 4, 5, 1, 0] rfl h
    · replace h := h.2 c8
      refine r_iconst d_X9_fitting_63 ?_
      exact r_zreturn d_X9_fitting_64 rfl ⟨rfl, Nat.le_refl _, Nat.le_refl _⟩ (by decide) h
theorem d_J6_bitCount_0f7a4_0 : decode M_J6_bitCount_0f7a4.2.1 0 = .ok (.iload_n 0, 1) := by decide +kernel
theorem d_J6_bitCount_0f7a4_1 : decode M_J6_bitCount_0f7a4.2.1 1 = .ok (.iload_n 0, 1) := by decide +kernel
theorem d_J6_bitCount_0f7a4_2 : decode M_J6_bitCount_0f7a4.2.1 2 = .ok (.iconst 1, 1) := by decide +kernel
theorem d_J6_bitCount_0f7a4_3 : decode M_J6_bitCount_0f7a4.2.1 3 = .ok (.iushr, 1) := by decide +kernel
theorem d_J6_bitCount_0f7a4_4 : decode M_J6_bitCount_0f7a4.2.1 4 = .ok (.ldc_w 265, 3) := by decide +kernel
theorem d_J6_bitCount_0f7a4_7 : decode M_J6_bitCount_0f7a4.2.1 7 = .ok (.iand, 1) := by decide +kernel
theorem d_J6_bitCount_0f7a4_8 : decode M_J6_bitCount_0f7a4.2.1 8 = .ok (.isub, 1) := by decide +kernel
theorem d_J6_bitCount_0f7a4_9 : decode M_J6_bitCount_0f7a4.2.1 9 = .ok (.istore_n 0, 1) := by decide +kernel
theorem d_J6_bitCount_0f7a4_10 : decode M_J6_bitCount_0f7a4.2.1 10 = .ok (.iload_n 0, 1) := by decide +kernel
theorem d_J6_bitCount_0f7a4_11 : decode M_J6_bitCount_0f7a4.2.1 11 = .ok (.ldc_w 266, 3) := by decide +kernel
theorem d_J6_bitCount_0f7a4_14 : decode M_J6_bitCount_0f7a4.2.1 14 = .ok (.iand, 1) := by decide +kernel
theorem d_J6_bitCount_0f7a4_15 : decode M_J6_bitCount_0f7a4.2.1 15 = .ok (.iload_n 0, 1) := by decide +kernel
theorem d_J6_bitCount_0f7a4_16 : decode M_J6_bitCount_0f7a4.2.1 16 = .ok (.iconst 2, 1) := by decide +kernel
theorem d_J6_bitCount_0f7a4_17 : decode M_J6_bitCount_0f7a4.2.1 17 = .ok (.iushr, 1) := by decide +kernel
theorem d_J6_bitCount_0f7a4_18 : decode M_J6_bitCount_0f7a4.2.1 18 = .ok (.ldc_w 266, 3) := by decide +kernel
theorem d_J6_bitCount_0f7a4_21 : decode M_J6_bitCount_0f7a4.2.1 21 = .ok (.iand, 1) := by decide +kernel
theorem d_J6_bitCount_0f7a4_22 : decode M_J6_bitCount_0f7a4.2.1 22 = .ok (.iadd, 1) := by decide +kernel
theorem d_J6_bitCount_0f7a4_23 : decode M_J6_bitCount_0f7a4.2.1 23 = .ok (.istore_n 0, 1) := by decide +kernel
theorem d_J6_bitCount_0f7a4_24 : decode M_J6_bitCount_0f7a4.2.1 24 = .ok (.iload_n 0, 1) := by decide +kernel
theorem d_J6_bitCount_0f7a4_25 : decode M_J6_bitCount_0f7a4.2.1 25 = .ok (.iload_n 0, 1) := by decide +kernel
theorem d_J6_bitCount_0f7a4_26 : decode M_J6_bitCount_0f7a4.2.1 26 = .ok (.iconst 4, 1) := by decide +kernel
theorem d_J6_bitCount_0f7a4_27 : decode M_J6_bitCount_0f7a4.2.1 27 = .ok (.iushr, 1) := by decide +kernel
theorem d_J6_bitCount_0f7a4_28 : decode M_J6_bitCount_0f7a4.2.1 28 = .ok (.iadd, 1) := by decide +kernel
theorem d_J6_bitCount_0f7a4_29 : decode M_J6_bitCount_0f7a4.2.1 29 = .ok (.ldc_w 267, 3) := by decide +kernel
theorem d_J6_bitCount_0f7a4_32 : decode M_J6_bitCount_0f7a4.2.1 32 = .ok (.iand, 1) := by decide +kernel
theorem d_J6_bitCount_0f7a4_33 : decode M_J6_bitCount_0f7a4.2.1 33 = .ok (.istore_n 0, 1) := by decide +kernel
theorem d_J6_bitCount_0f7a4_34 : decode M_J6_bitCount_0f7a4.2.1 34 = .ok (.iload_n 0, 1) := by decide +kernel
theorem d_J6_bitCount_0f7a4_35 : decode M_J6_bitCount_0f7a4.2.1 35 = .ok (.iload_n 0, 1) := by decide +kernel
theorem d_J6_bitCount_0f7a4_36 : decode M_J6_bitCount_0f7a4.2.1 36 = .ok (.bipush 8, 2) := by decide +kernel
theorem d_J6_bitCount_0f7a4_38 : decode M_J6_bitCount_0f7a4.2.1 38 = .ok (.iushr, 1) := by decide +kernel
theorem d_J6_bitCount_0f7a4_39 : decode M_J6_bitCount_0f7a4.2.1 39 = .ok (.iadd, 1) := by decide +kernel
theorem d_J6_bitCount_0f7a4_40 : decode M_J6_bitCount_0f7a4.2.1 40 = .ok (.istore_n 0, 1) := by decide +kernel
theorem d_J6_bitCount_0f7a4_41 : decode M_J6_bitCount_0f7a4.2.1 41 = .ok (.iload_n 0, 1) := by decide +kernel
theorem d_J6_bitCount_0f7a4_42 : decode M_J6_bitCount_0f7a4.2.1 42 = .ok (.iload_n 0, 1) := by decide +kernel
theorem d_J6_bitCount_0f7a4_43 : decode M_J6_bitCount_0f7a4.2.1 43 = .ok (.bipush 16, 2) := by decide +kernel
theorem d_J6_bitCount_0f7a4_45 : decode M_J6_bitCount_0f7a4.2.1 45 = .ok (.iushr, 1) := by decide +kernel
theorem d_J6_bitCount_0f7a4_46 : decode M_J6_bitCount_0f7a4.2.1 46 = .ok (.iadd, 1) := by decide +kernel
theorem d_J6_bitCount_0f7a4_47 : decode M_J6_bitCount_0f7a4.2.1 47 = .ok (.istore_n 0, 1) := by decide +kernel
theorem d_J6_bitCount_0f7a4_48 : decode M_J6_bitCount_0f7a4.2.1 48 = .ok (.iload_n 0, 1) := by decide +kernel
theorem d_J6_bitCount_0f7a4_49 : decode M_J6_bitCount_0f7a4.2.1 49 = .ok (.bipush 63, 2) := by decide +kernel
theorem d_J6_bitCount_0f7a4_51 : decode M_J6_bitCount_0f7a4.2.1 51 = .ok (.iand, 1) := by decide +kernel
theorem d_J6_bitCount_0f7a4_52 : decode M_J6_bitCount_0f7a4.2.1 52 = .ok (.ireturn, 1) := by decide +kernel
set_option maxRecDepth 20000 in
theorem s_J6_bitCount_0f7a4_0 {d : Nat} {p0 : Int} {G : Mem} {Q : Int → Mem → Prop}  (h : Q (andI (((andI (((andI (p0 - (andI (ushrI p0 1) 1431655765)) 858993459) + (andI (ushrI (p0 - (andI (ushrI p0 1) 1431655765)) 2) 858993459)) + (ushrI ((andI (p0 - (andI (ushrI p0 1) 1431655765)) 858993459) + (andI (ushrI (p0 - (andI (ushrI p0 1) 1431655765)) 2) 858993459)) 4)) 252645135) + (ushrI (andI (((andI (p0 - (andI (ushrI p0 1) 1431655765)) 858993459) + (andI (ushrI (p0 - (andI (ushrI p0 1) 1431655765)) 2) 858993459)) + (ushrI ((andI (p0 - (andI (ushrI p0 1) 1431655765)) 858993459) + (andI (ushrI (p0 - (andI (ushrI p0 1) 1431655765)) 2) 858993459)) 4)) 252645135) 8)) + (ushrI ((andI (((andI (p0 - (andI (ushrI p0 1) 1431655765)) 858993459) + (andI (ushrI (p0 - (andI (ushrI p0 1) 1431655765)) 2) 858993459)) + (ushrI ((andI (p0 - (andI (ushrI p0 1) 1431655765)) 858993459) + (andI (ushrI (p0 - (andI (ushrI p0 1) 1431655765)) 2) 858993459)) 4)) 252645135) + (ushrI (andI (((andI (p0 - (andI (ushrI p0 1) 1431655765)) 858993459) + (andI (ushrI (p0 - (andI (ushrI p0 1) 1431655765)) 2) 858993459)) + (ushrI ((andI (p0 - (andI (ushrI p0 1) 1431655765)) 858993459) + (andI (ushrI (p0 - (andI (ushrI p0 1) 1431655765)) 2) 858993459)) 4)) 252645135) 8)) 16)) 63) G) : Rn d M_J6_bitCount_0f7a4 zN 0 [(0, (0, p0))] [] G Q := by
  refine r_iload_n d_J6_bitCount_0f7a4_0 0 rfl rfl ?_
  refine r_iload_n d_J6_bitCount_0f7a4_1 0 rfl rfl ?_
  refine r_iconst d_J6_bitCount_0f7a4_2 ?_
  refine r_iushr d_J6_bitCount_0f7a4_3 ?_
  refine r_ldcw (x := 1431655765) d_J6_bitCount_0f7a4_4 cst_J6_265 ?_
  refine r_iand d_J6_bitCount_0f7a4_7 ?_
  refine r_isub d_J6_bitCount_0f7a4_8 ?_
  refine r_istore_n (ls1 := [(0, (0, (p0 - (andI (ushrI p0 1) 1431655765))))]) d_J6_bitCount_0f7a4_9 rfl (by decide) rfl ?_
  refine r_iload_n d_J6_bitCount_0f7a4_10 0 rfl rfl ?_
  refine r_ldcw (x := 858993459) d_J6_bitCount_0f7a4_11 cst_J6_266 ?_
  refine r_iand d_J6_bitCount_0f7a4_14 ?_
  refine r_iload_n d_J6_bitCount_0f7a4_15 0 rfl rfl ?_
  refine r_iconst d_J6_bitCount_0f7a4_16 ?_
  refine r_iushr d_J6_bitCount_0f7a4_17 ?_
  refine r_ldcw (x := 858993459) d_J6_bitCount_0f7a4_18 cst_J6_266 ?_
  refine r_iand d_J6_bitCount_0f7a4_21 ?_
  refine r_iadd d_J6_bitCount_0f7a4_22 ?_
  refine r_istore_n (ls1 := [(0, (0, ((andI (p0 - (andI (ushrI p0 1) 1431655765)) 858993459) + (andI (ushrI (p0 - (andI (ushrI p0 1) 1431655765)) 2) 858993459))))]) d_J6_bitCount_0f7a4_23 rfl (by decide) rfl ?_
  refine r_iload_n d_J6_bitCount_0f7a4_24 0 rfl rfl ?_
  refine r_iload_n d_J6_bitCount_0f7a4_25 0 rfl rfl ?_
  refine r_iconst d_J6_bitCount_0f7a4_26 ?_
  refine r_iushr d_J6_bitCount_0f7a4_27 ?_
  refine r_iadd d_J6_bitCount_0f7a4_28 ?_
  refine r_ldcw (x := 252645135) d_J6_bitCount_0f7a4_29 cst_J6_267 ?_
  refine r_iand d_J6_bitCount_0f7a4_32 ?_
  refine r_istore_n (ls1 := [(0, (0, (andI (((andI (p0 - (andI (ushrI p0 1) 1431655765)) 858993459) + (andI (ushrI (p0 - (andI (ushrI p0 1) 1431655765)) 2) 858993459)) + (ushrI ((andI (p0 - (andI (ushrI p0 1) 1431655765)) 858993459) + (andI (ushrI (p0 - (andI (ushrI p0 1) 1431655765)) 2) 858993459)) 4)) 252645135)))]) d_J6_bitCount_0f7a4_33 rfl (by decide) rfl ?_
  refine r_iload_n d_J6_bitCount_0f7a4_34 0 rfl rfl ?_
  refine r_iload_n d_J6_bitCount_0f7a4_35 0 rfl rfl ?_
  refine r_bipush d_J6_bitCount_0f7a4_36 (by decide +kernel) ?_
  refine r_iushr d_J6_bitCount_0f7a4_38 ?_
  refine r_iadd d_J6_bitCount_0f7a4_39 ?_
  refine r_istore_n (ls1 := [(0, (0, ((andI (((andI (p0 - (andI (ushrI p0 1) 1431655765)) 858993459) + (andI (ushrI (p0 - (andI (ushrI p0 1) 1431655765)) 2) 858993459)) + (ushrI ((andI (p0 - (andI (ushrI p0 1) 1431655765)) 858993459) + (andI (ushrI (p0 - (andI (ushrI p0 1) 1431655765)) 2) 858993459)) 4)) 252645135) + (ushrI (andI (((andI (p0 - (andI (ushrI p0 1) 1431655765)) 858993459) + (andI (ushrI (p0 - (andI (ushrI p0 1) 1431655765)) 2) 858993459)) + (ushrI ((andI (p0 - (andI (ushrI p0 1) 1431655765)) 858993459) + (andI (ushrI (p0 - (andI (ushrI p0 1) 1431655765)) 2) 858993459)) 4)) 252645135) 8))))]) d_J6_bitCount_0f7a4_40 rfl (by decide) rfl ?_
  refine r_iload_n d_J6_bitCount_0f7a4_41 0 rfl rfl ?_
  refine r_iload_n d_J6_bitCount_0f7a4_42 0 rfl rfl ?_
  refine r_bipush d_J6_bitCount_0f7a4_43 (by decide +kernel) ?_
  refine r_iushr d_J6_bitCount_0f7a4_45 ?_
  refine r_iadd d_J6_bitCount_0f7a4_46 ?_
  refine r_istore_n (ls1 := [(0, (0, (((andI (((andI (p0 - (andI (ushrI p0 1) 1431655765)) 858993459) + (andI (ushrI (p0 - (andI (ushrI p0 1) 1431655765)) 2) 858993459)) + (ushrI ((andI (p0 - (andI (ushrI p0 1) 1431655765)) 858993459) + (andI (ushrI (p0 - (andI (ushrI p0 1) 1431655765)) 2) 858993459)) 4)) 252645135) + (ushrI (andI (((andI (p0 - (andI (ushrI p0 1) 1431655765)) 858993459) + (andI (ushrI (p0 - (andI (ushrI p0 1) 1431655765)) 2) 858993459)) + (ushrI ((andI (p0 - (andI (ushrI p0 1) 1431655765)) 858993459) + (andI (ushrI (p0 - (andI (ushrI p0 1) 1431655765)) 2) 858993459)) 4)) 252645135) 8)) + (ushrI ((andI (((andI (p0 - (andI (ushrI p0 1) 1431655765)) 858993459) + (andI (ushrI (p0 - (andI (ushrI p0 1) 1431655765)) 2) 858993459)) + (ushrI ((andI (p0 - (andI (ushrI p0 1) 1431655765)) 858993459) + (andI (ushrI (p0 - (andI (ushrI p0 1) 1431655765)) 2) 858993459)) 4)) 252645135) + (ushrI (andI (((andI (p0 - (andI (ushrI p0 1) 1431655765)) 858993459) + (andI (ushrI (p0 - (andI (ushrI p0 1) 1431655765)) 2) 858993459)) + (ushrI ((andI (p0 - (andI (ushrI p0 1) 1431655765)) 858993459) + (andI (ushrI (p0 - (andI (ushrI p0 1) 1431655765)) 2) 858993459)) 4)) 252645135) 8)) 16))))]) d_J6_bitCount_0f7a4_47 rfl (by decide) rfl ?_
  refine r_iload_n d_J6_bitCount_0f7a4_48 0 rfl rfl ?_
  refine r_bipush d_J6_bitCount_0f7a4_49 (by decide +kernel) ?_
  refine r_iand d_J6_bitCount_0f7a4_51 ?_
  exact r_ireturn d_J6_bitCount_0f7a4_52 rfl ⟨rfl, Nat.le_refl _, Nat.le_refl _⟩ h
theorem d_J7_fill_53178_0 : decode M_J7_fill_53178.2.1 0 = .ok (.iconst 0, 1) := by decide +kernel
theorem d_J7_fill_53178_1 : decode M_J7_fill_53178.2.1 1 = .ok (.istore_n 2, 1) := by decide +kernel
theorem d_J7_fill_53178_2 : decode M_J7_fill_53178.2.1 2 = .ok (.aload_n 0, 1) := by decide +kernel
theorem d_J7_fill_53178_3 : decode M_J7_fill_53178.2.1 3 = .ok (.arraylength, 1) := by decide +kernel
theorem d_J7_fill_53178_4 : decode M_J7_fill_53178.2.1 4 = .ok (.istore_n 3, 1) := by decide +kernel
theorem d_J7_fill_53178_5 : decode M_J7_fill_53178.2.1 5 = .ok (.iload_n 2, 1) := by decide +kernel
theorem d_J7_fill_53178_6 : decode M_J7_fill_53178.2.1 6 = .ok (.iload_n 3, 1) := by decide +kernel
theorem d_J7_fill_53178_7 : decode M_J7_fill_53178.2.1 7 = .ok (.if_icmp .ge 13, 3) := by decide +kernel
theorem d_J7_fill_53178_10 : decode M_J7_fill_53178.2.1 10 = .ok (.aload_n 0, 1) := by decide +kernel
theorem d_J7_fill_53178_11 : decode M_J7_fill_53178.2.1 11 = .ok (.iload_n 2, 1) := by decide +kernel
theorem d_J7_fill_53178_12 : decode M_J7_fill_53178.2.1 12 = .ok (.iload_n 1, 1) := by decide +kernel
theorem d_J7_fill_53178_13 : decode M_J7_fill_53178.2.1 13 = .ok (.iastore, 1) := by decide +kernel
theorem d_J7_fill_53178_14 : decode M_J7_fill_53178.2.1 14 = .ok (.iinc 2 1, 3) := by decide +kernel
theorem d_J7_fill_53178_17 : decode M_J7_fill_53178.2.1 17 = .ok (.goto (-12), 3) := by decide +kernel
theorem d_J7_fill_53178_20 : decode M_J7_fill_53178.2.1 20 = .ok (.return_, 1) := by decide +kernel
set_option maxRecDepth 20000 in
theorem s_J7_fill_53178_0 {d : Nat} {n : Nat} {Ly : Option Mem} {p0 : Int} {np0 : Nat} {p1 : Int} {G : Mem} {Q : Int → Mem → Prop} (ap0 : Ar n p0 0 np0) (h : Rn d M_J7_fill_53178 (n, 0, 0, 0, 0, Ly) 5 [(0, (2, p0)), (1, (0, p1)), (2, (0, 0)), (3, (0, (np0 : Int)))] [] G Q) : Rn d M_J7_fill_53178 (n, 0, 0, 0, 0, Ly) 0 [(0, (2, p0)), (1, (0, p1))] [] G Q := by
  refine r_iconst d_J7_fill_53178_0 ?_
  refine r_istore_n (ls1 := [(2, (0, 0)), (0, (2, p0)), (1, (0, p1))]) d_J7_fill_53178_1 rfl (by decide) rfl ?_
  refine r_aload_n d_J7_fill_53178_2 1 rfl rfl ?_
  refine r_alen (np0 : Int) rfl d_J7_fill_53178_3 ap0 ?_
  refine r_istore_n (ls1 := [(3, (0, (np0 : Int))), (2, (0, 0)), (0, (2, p0)), (1, (0, p1))]) d_J7_fill_53178_4 rfl (by decide) rfl ?_
  exact Rn.sub [2, 3, 1, 0] rfl h
set_option maxRecDepth 20000 in
theorem s_J7_fill_53178_5 {d : Nat} {n : Nat} {Ly : Option Mem} {x0 : Int} {nx0 : Nat} {x1 : Int} {x2 : Int} {x3 : Int} {G : Mem} {Q : Int → Mem → Prop} (ax0 : Ar n x0 0 nx0) (h : (InR x2) ∧ (InR x3) ∧ ((x3 ≤ x2) → Q 0 G) ∧ (¬ (x3 ≤ x2) → (0 ≤ x2 ∧ x2 < nx0) ∧ (∀ G5 : Mem, G5 = st G x0 x2 x1 → Rn d M_J7_fill_53178 (n, 0, 0, 0, 0, Ly) 5 [(0, (2, x0)), (1, (0, x1)), (2, (0, (x2 + 1))), (3, (0, x3))] [] G5 Q))) : Rn d M_J7_fill_53178 (n, 0, 0, 0, 0, Ly) 5 [(0, (2, x0)), (1, (0, x1)), (2, (0, x2)), (3, (0, x3))] [] G Q := by
  refine r_iload_n d_J7_fill_53178_5 2 rfl rfl ?_
  refine r_iload_n d_J7_fill_53178_6 3 rfl rfl ?_
  obtain ⟨h1, h⟩ := h
  obtain ⟨h2, h⟩ := h
  refine r_icmp_ge (tgt := 20) d_J7_fill_53178_7 (by decide) h1 h2 (fun c3 => ?_) (fun c3 => ?_)
  · replace h := h.1 c3
    exact r_ret d_J7_fill_53178_20 rfl ⟨rfl, Nat.le_refl _, Nat.le_refl _⟩ h
  · replace h := h.2 c3
    refine r_aload_n d_J7_fill_53178_10 0 rfl rfl ?_
    refine r_iload_n d_J7_fill_53178_11 2 rfl rfl ?_
    refine r_iload_n d_J7_fill_53178_12 1 rfl rfl ?_
    obtain ⟨h4, h⟩ := h
    obtain ⟨G5, eG5⟩ : ∃ y : Mem, y = st G x0 x2 x1 := ⟨_, rfl⟩
    replace h := h G5 eG5
    refine r_iastore d_J7_fill_53178_13 ax0 h4 ?_
    rw [← eG5]
    refine r_iinc (ls1 := [(2, (0, (x2 + 1))), (0, (2, x0)), (1, (0, x1)), (3, (0, x3))]) d_J7_fill_53178_14 2 rfl (by decide) rfl ?_
    refine r_goto (tgt := 5) d_J7_fill_53178_17 (by decide) ?_
    exact Rn.sub [1, 2, 0, 3] rfl h
