theorem d_X12_thrown_0 : decode M_X12_thrown.2.1 0 = .ok (.aload_n 0, 1) := by decide +kernel
theorem d_X12_thrown_1 : decode M_X12_thrown.2.1 1 = .ok (.getfield 169, 3) := by decide +kernel
theorem d_X12_thrown_4 : decode M_X12_thrown.2.1 4 = .ok (.ireturn, 1) := by decide +kernel
set_option maxRecDepth 20000 in
theorem s_X12_thrown_0 {d : Nat}  {G : Mem} {Q : Int → Mem → Prop}  (h : Q (G 311 0) G) : Rn d M_X12_thrown zN 0 [(0, (2, 311))] [] G Q := by
  refine r_aload_n d_X12_thrown_0 0 rfl rfl ?_
  refine r_getI 12 0 0 rfl d_X12_thrown_1 fl_X12_169 (by decide) (bs_ob bs_12) ?_
  exact r_ireturn d_X12_thrown_4 rfl ⟨rfl, Nat.le_refl _, Nat.le_refl _⟩ h
theorem d_X12_within_0 : decode M_X12_within.2.1 0 = .ok (.iload_n 0, 1) := by decide +kernel
theorem d_X12_within_1 : decode M_X12_within.2.1 1 = .ok (.iload_n 1, 1) := by decide +kernel
theorem d_X12_within_2 : decode M_X12_within.2.1 2 = .ok (.if_icmp .lt 12, 3) := by decide +kernel
theorem d_X12_within_5 : decode M_X12_within.2.1 5 = .ok (.iload_n 0, 1) := by decide +kernel
theorem d_X12_within_6 : decode M_X12_within.2.1 6 = .ok (.iload_n 2, 1) := by decide +kernel
theorem d_X12_within_7 : decode M_X12_within.2.1 7 = .ok (.if_icmp .gt 7, 3) := by decide +kernel
theorem d_X12_within_10 : decode M_X12_within.2.1 10 = .ok (.iconst 1, 1) := by decide +kernel
theorem d_X12_within_11 : decode M_X12_within.2.1 11 = .ok (.goto 4, 3) := by decide +kernel
theorem d_X12_within_14 : decode M_X12_within.2.1 14 = .ok (.iconst 0, 1) := by decide +kernel
theorem d_X12_within_15 : decode M_X12_within.2.1 15 = .ok (.ireturn, 1) := by decide +kernel
set_option maxRecDepth 20000 in
theorem s_X12_within_0 {d : Nat} {p0 : Int} {p1 : Int} {p2 : Int} {G : Mem} {Q : Int → Mem → Prop}  (h : (InR p0) ∧ (InR p1) ∧ ((p0 < p1) → Q 0 G) ∧ (¬ (p0 < p1) → (InR p2) ∧ ((p2 < p0) → Q 0 G) ∧ (¬ (p2 < p0) → Q 1 G))) : Rn d M_X12_within zN 0 [(0, (0, p0)), (1, (0, p1)), (2, (0, p2))] [] G Q := by
  refine r_iload_n d_X12_within_0 0 rfl rfl ?_
  refine r_iload_n d_X12_within_1 1 rfl rfl ?_
  obtain ⟨h1, h⟩ := h
  obtain ⟨h2, h⟩ := h
  refine r_icmp_lt (tgt := 14) d_X12_within_2 (by decide) h1 h2 (fun c3 => ?_) (fun c3 => ?_)
  · replace h := h.1 c3
    refine r_iconst d_X12_within_14 ?_
    exact r_zreturn d_X12_within_15 rfl ⟨rfl, Nat.le_refl _, Nat.le_refl _⟩ (by decide) h
  · replace h := h.2 c3
    refine r_iload_n d_X12_within_5 0 rfl rfl ?_
    refine r_iload_n d_X12_within_6 2 rfl rfl ?_
    obtain ⟨h4, h⟩ := h
    refine r_icmp_gt (tgt := 14) d_X12_within_7 (by decide) h1 h4 (fun c5 => ?_) (fun c5 => ?_)
    · replace h := h.1 c5
      refine r_iconst d_X12_within_14 ?_
      exact r_zreturn d_X12_within_15 rfl ⟨rfl, Nat.le_refl _, Nat.le_refl _⟩ (by decide) h
    · replace h := h.2 c5
      refine r_iconst d_X12_within_10 ?_
      refine r_goto (tgt := 15) d_X12_within_11 (by decide) ?_
      exact r_zreturn d_X12_within_15 rfl ⟨rfl, Nat.le_refl _, Nat.le_refl _⟩ (by decide) h
theorem d_X12_between_0 : decode M_X12_between.2.1 0 = .ok (.iload_n 0, 1) := by decide +kernel
theorem d_X12_between_1 : decode M_X12_between.2.1 1 = .ok (.iload_n 1, 1) := by decide +kernel
theorem d_X12_between_2 : decode M_X12_between.2.1 2 = .ok (.if_icmp .ge 7, 3) := by decide +kernel
theorem d_X12_between_5 : decode M_X12_between.2.1 5 = .ok (.iload_n 1, 1) := by decide +kernel
theorem d_X12_between_6 : decode M_X12_between.2.1 6 = .ok (.goto 13, 3) := by decide +kernel
theorem d_X12_between_9 : decode M_X12_between.2.1 9 = .ok (.iload_n 0, 1) := by decide +kernel
theorem d_X12_between_10 : decode M_X12_between.2.1 10 = .ok (.iload_n 2, 1) := by decide +kernel
theorem d_X12_between_11 : decode M_X12_between.2.1 11 = .ok (.if_icmp .le 7, 3) := by decide +kernel
theorem d_X12_between_14 : decode M_X12_between.2.1 14 = .ok (.iload_n 2, 1) := by decide +kernel
theorem d_X12_between_15 : decode M_X12_between.2.1 15 = .ok (.goto 4, 3) := by decide +kernel
theorem d_X12_between_18 : decode M_X12_between.2.1 18 = .ok (.iload_n 0, 1) := by decide +kernel
theorem d_X12_between_19 : decode M_X12_between.2.1 19 = .ok (.ireturn, 1) := by decide +kernel
set_option maxRecDepth 20000 in
theorem s_X12_between_0 {d : Nat} {p0 : Int} {p1 : Int} {p2 : Int} {G : Mem} {Q : Int → Mem → Prop}  (h : (InR p0) ∧ (InR p1) ∧ ((p1 ≤ p0) → (InR p2) ∧ ((p0 ≤ p2) → Q p0 G) ∧ (¬ (p0 ≤ p2) → Q p2 G)) ∧ (¬ (p1 ≤ p0) → Q p1 G)) : Rn d M_X12_between zN 0 [(0, (0, p0)), (1, (0, p1)), (2, (0, p2))] [] G Q := by
  refine r_iload_n d_X12_between_0 0 rfl rfl ?_
  refine r_iload_n d_X12_between_1 1 rfl rfl ?_
  obtain ⟨h1, h⟩ := h
  obtain ⟨h2, h⟩ := h
  refine r_icmp_ge (tgt := 9) d_X12_between_2 (by decide) h1 h2 (fun c3 => ?_) (fun c3 => ?_)
  · replace h := h.1 c3
    refine r_iload_n d_X12_between_9 0 rfl rfl ?_
    refine r_iload_n d_X12_between_10 2 rfl rfl ?_
    obtain ⟨h4, h⟩ := h
    refine r_icmp_le (tgt := 18) d_X12_between_11 (by decide) h1 h4 (fun c5 => ?_) (fun c5 => ?_)
    · replace h := h.1 c5
      refine r_iload_n d_X12_between_18 0 rfl rfl ?_
      exact r_ireturn d_X12_between_19 rfl ⟨rfl, Nat.le_refl _, Nat.le_refl _⟩ h
    · replace h := h.2 c5
      refine r_iload_n d_X12_between_14 2 rfl rfl ?_
      refine r_goto (tgt := 19) d_X12_between_15 (by decide) ?_
      exact r_ireturn d_X12_between_19 rfl ⟨rfl, Nat.le_refl _, Nat.le_refl _⟩ h
  · replace h := h.2 c3
    refine r_iload_n d_X12_between_5 1 rfl rfl ?_
    refine r_goto (tgt := 19) d_X12_between_6 (by decide) ?_
    exact r_ireturn d_X12_between_19 rfl ⟨rfl, Nat.le_refl _, Nat.le_refl _⟩ h
theorem d_X12_gcd_0 : decode M_X12_gcd.2.1 0 = .ok (.lload_n 0, 1) := by decide +kernel
theorem d_X12_gcd_1 : decode M_X12_gcd.2.1 1 = .ok (.lstore 4, 2) := by decide +kernel
theorem d_X12_gcd_3 : decode M_X12_gcd.2.1 3 = .ok (.lload_n 2, 1) := by decide +kernel
theorem d_X12_gcd_4 : decode M_X12_gcd.2.1 4 = .ok (.lstore 6, 2) := by decide +kernel
theorem d_X12_gcd_6 : decode M_X12_gcd.2.1 6 = .ok (.lload 6, 2) := by decide +kernel
theorem d_X12_gcd_8 : decode M_X12_gcd.2.1 8 = .ok (.lconst 0, 1) := by decide +kernel
theorem d_X12_gcd_9 : decode M_X12_gcd.2.1 9 = .ok (.lcmp, 1) := by decide +kernel
theorem d_X12_gcd_10 : decode M_X12_gcd.2.1 10 = .ok (.ifCond .eq 21, 3) := by decide +kernel
theorem d_X12_gcd_13 : decode M_X12_gcd.2.1 13 = .ok (.lload 4, 2) := by decide +kernel
theorem d_X12_gcd_15 : decode M_X12_gcd.2.1 15 = .ok (.lload 6, 2) := by decide +kernel
theorem d_X12_gcd_17 : decode M_X12_gcd.2.1 17 = .ok (.lrem, 1) := by decide +kernel
theorem d_X12_gcd_18 : decode M_X12_gcd.2.1 18 = .ok (.lstore 8, 2) := by decide +kernel
theorem d_X12_gcd_20 : decode M_X12_gcd.2.1 20 = .ok (.lload 6, 2) := by decide +kernel
theorem d_X12_gcd_22 : decode M_X12_gcd.2.1 22 = .ok (.lstore 4, 2) := by decide +kernel
theorem d_X12_gcd_24 : decode M_X12_gcd.2.1 24 = .ok (.lload 8, 2) := by decide +kernel
theorem d_X12_gcd_26 : decode M_X12_gcd.2.1 26 = .ok (.lstore 6, 2) := by decide +kernel
theorem d_X12_gcd_28 : decode M_X12_gcd.2.1 28 = .ok (.goto (-22), 3) := by decide +kernel
theorem d_X12_gcd_31 : decode M_X12_gcd.2.1 31 = .ok (.lload 4, 2) := by decide +kernel
theorem d_X12_gcd_33 : decode M_X12_gcd.2.1 33 = .ok (.lreturn, 1) := by decide +kernel
set_option maxRecDepth 20000 in
theorem s_X12_gcd_0 {d : Nat} {p0 : Int} {p1 : Int} {G : Mem} {Q : Int → Mem → Prop}  (h : Rn d M_X12_gcd zN 6 [(4, (1, p0)), (6, (1, p1))] [] G Q) : Rn d M_X12_gcd zN 0 [(0, (1, p0)), (2, (1, p1))] [] G Q := by
  refine r_lload_n d_X12_gcd_0 0 rfl rfl ?_
  refine r_lstore (ls1 := [(4, (1, p0)), (0, (1, p0)), (2, (1, p1))]) d_X12_gcd_1 (by decide) rfl ?_
  refine r_lload_n d_X12_gcd_3 2 rfl rfl ?_
  refine r_lstore (ls1 := [(6, (1, p1)), (4, (1, p0)), (0, (1, p0)), (2, (1, p1))]) d_X12_gcd_4 (by decide) rfl ?_
  exact Rn.sub [1, 0] rfl h
set_option maxRecDepth 20000 in
theorem s_X12_gcd_6 {d : Nat} {x4 : Int} {x6 : Int} {G : Mem} {Q : Int → Mem → Prop}  (h : (InL x6) ∧ ((x6 = 0) → Q x4 G) ∧ (¬ (x6 = 0) → (InL x4) ∧ (0 < x6 ∧ InL x6) ∧ (Rn d M_X12_gcd zN 6 [(4, (1, x6)), (6, (1, (Int.tmod x4 x6)))] [] G Q))) : Rn d M_X12_gcd zN 6 [(4, (1, x4)), (6, (1, x6))] [] G Q := by
  refine r_lload d_X12_gcd_6 1 rfl ?_
  refine r_lconst (x := 0) d_X12_gcd_8 rfl ?_
  obtain ⟨h1, h⟩ := h
  refine r_lcmp_eq (tgt := 31) d_X12_gcd_9 d_X12_gcd_10 (by decide) h1 ⟨by decide, by decide⟩ (fun c2 => ?_) (fun c2 => ?_)
  · replace h := h.1 c2
    refine r_lload d_X12_gcd_31 0 rfl ?_
    exact r_lreturn d_X12_gcd_33 rfl ⟨rfl, Nat.le_refl _, Nat.le_refl _⟩ h
  · replace h := h.2 c2
    refine r_lload d_X12_gcd_13 0 rfl ?_
    refine r_lload d_X12_gcd_15 1 rfl ?_
    obtain ⟨h3, h⟩ := h
    obtain ⟨h4, h⟩ := h
    refine r_lrem d_X12_gcd_17 h3 h4 ?_
    refine r_lstore (ls1 := [(8, (1, (Int.tmod x4 x6))), (4, (1, x4)), (6, (1, x6))]) d_X12_gcd_18 (by decide) rfl ?_
    refine r_lload d_X12_gcd_20 2 rfl ?_
    refine r_lstore (ls1 := [(4, (1, x6)), (8, (1, (Int.tmod x4 x6))), (6, (1, x6))]) d_X12_gcd_22 (by decide) rfl ?_
    refine r_lload d_X12_gcd_24 1 rfl ?_
    refine r_lstore (ls1 := [(6, (1, (Int.tmod x4 x6))), (4, (1, x6)), (8, (1, (Int.tmod x4 x6)))]) d_X12_gcd_26 (by decide) rfl ?_
    refine r_goto (tgt := 6) d_X12_gcd_28 (by decide) ?_
    exact Rn.sub [1, 0] rfl h
theorem d_X12_feed_0 : decode M_X12_feed.2.1 0 = .ok (.aload_n 0, 1) := by decide +kernel
theorem d_X12_feed_1 : decode M_X12_feed.2.1 1 = .ok (.iconst 0, 1) := by decide +kernel
theorem d_X12_feed_2 : decode M_X12_feed.2.1 2 = .ok (.putfield 169, 3) := by decide +kernel
theorem d_X12_feed_5 : decode M_X12_feed.2.1 5 = .ok (.iconst 0, 1) := by decide +kernel
theorem d_X12_feed_6 : decode M_X12_feed.2.1 6 = .ok (.istore 7, 2) := by decide +kernel
theorem d_X12_feed_8 : decode M_X12_feed.2.1 8 = .ok (.iload 7, 2) := by decide +kernel
theorem d_X12_feed_10 : decode M_X12_feed.2.1 10 = .ok (.bipush 24, 2) := by decide +kernel
theorem d_X12_feed_12 : decode M_X12_feed.2.1 12 = .ok (.if_icmp .ge 108, 3) := by decide +kernel
theorem d_X12_feed_15 : decode M_X12_feed.2.1 15 = .ok (.iload 7, 2) := by decide +kernel
theorem d_X12_feed_17 : decode M_X12_feed.2.1 17 = .ok (.bipush 8, 2) := by decide +kernel
theorem d_X12_feed_19 : decode M_X12_feed.2.1 19 = .ok (.if_icmp .ge 7, 3) := by decide +kernel
theorem d_X12_feed_22 : decode M_X12_feed.2.1 22 = .ok (.lload_n 1, 1) := by decide +kernel
theorem d_X12_feed_23 : decode M_X12_feed.2.1 23 = .ok (.goto 16, 3) := by decide +kernel
theorem d_X12_feed_26 : decode M_X12_feed.2.1 26 = .ok (.iload 7, 2) := by decide +kernel
theorem d_X12_feed_28 : decode M_X12_feed.2.1 28 = .ok (.bipush 16, 2) := by decide +kernel
theorem d_X12_feed_30 : decode M_X12_feed.2.1 30 = .ok (.if_icmp .ge 7, 3) := by decide +kernel
theorem d_X12_feed_33 : decode M_X12_feed.2.1 33 = .ok (.lload_n 3, 1) := by decide +kernel
theorem d_X12_feed_34 : decode M_X12_feed.2.1 34 = .ok (.goto 5, 3) := by decide +kernel
theorem d_X12_feed_37 : decode M_X12_feed.2.1 37 = .ok (.lload 5, 2) := by decide +kernel
theorem d_X12_feed_39 : decode M_X12_feed.2.1 39 = .ok (.lstore 8, 2) := by decide +kernel
theorem d_X12_feed_41 : decode M_X12_feed.2.1 41 = .ok (.lload 8, 2) := by decide +kernel
theorem d_X12_feed_43 : decode M_X12_feed.2.1 43 = .ok (.bipush 56, 2) := by decide +kernel
theorem d_X12_feed_45 : decode M_X12_feed.2.1 45 = .ok (.bipush 8, 2) := by decide +kernel
theorem d_X12_feed_47 : decode M_X12_feed.2.1 47 = .ok (.iload 7, 2) := by decide +kernel
theorem d_X12_feed_49 : decode M_X12_feed.2.1 49 = .ok (.bipush 7, 2) := by decide +kernel
theorem d_X12_feed_51 : decode M_X12_feed.2.1 51 = .ok (.iand, 1) := by decide +kernel
theorem d_X12_feed_52 : decode M_X12_feed.2.1 52 = .ok (.imul, 1) := by decide +kernel
theorem d_X12_feed_53 : decode M_X12_feed.2.1 53 = .ok (.isub, 1) := by decide +kernel
theorem d_X12_feed_54 : decode M_X12_feed.2.1 54 = .ok (.lushr, 1) := by decide +kernel
theorem d_X12_feed_55 : decode M_X12_feed.2.1 55 = .ok (.ldc2_w 173, 3) := by decide +kernel
theorem d_X12_feed_58 : decode M_X12_feed.2.1 58 = .ok (.land, 1) := by decide +kernel
theorem d_X12_feed_59 : decode M_X12_feed.2.1 59 = .ok (.l2i, 1) := by decide +kernel
theorem d_X12_feed_60 : decode M_X12_feed.2.1 60 = .ok (.istore 10, 2) := by decide +kernel
theorem d_X12_feed_62 : decode M_X12_feed.2.1 62 = .ok (.aload_n 0, 1) := by decide +kernel
theorem d_X12_feed_63 : decode M_X12_feed.2.1 63 = .ok (.getfield 175, 3) := by decide +kernel
theorem d_X12_feed_66 : decode M_X12_feed.2.1 66 = .ok (.sipush 1000, 3) := by decide +kernel
theorem d_X12_feed_69 : decode M_X12_feed.2.1 69 = .ok (.if_icmp .ge 45, 3) := by decide +kernel
theorem d_X12_feed_72 : decode M_X12_feed.2.1 72 = .ok (.iload 10, 2) := by decide +kernel
theorem d_X12_feed_74 : decode M_X12_feed.2.1 74 = .ok (.bipush 10, 2) := by decide +kernel
theorem d_X12_feed_76 : decode M_X12_feed.2.1 76 = .ok (.if_icmp .eq 17, 3) := by decide +kernel
theorem d_X12_feed_79 : decode M_X12_feed.2.1 79 = .ok (.iload 10, 2) := by decide +kernel
theorem d_X12_feed_81 : decode M_X12_feed.2.1 81 = .ok (.bipush 32, 2) := by decide +kernel
theorem d_X12_feed_83 : decode M_X12_feed.2.1 83 = .ok (.if_icmp .lt 31, 3) := by decide +kernel
theorem d_X12_feed_86 : decode M_X12_feed.2.1 86 = .ok (.iload 10, 2) := by decide +kernel
theorem d_X12_feed_88 : decode M_X12_feed.2.1 88 = .ok (.bipush 126, 2) := by decide +kernel
theorem d_X12_feed_90 : decode M_X12_feed.2.1 90 = .ok (.if_icmp .gt 24, 3) := by decide +kernel
theorem d_X12_feed_93 : decode M_X12_feed.2.1 93 = .ok (.aload_n 0, 1) := by decide +kernel
theorem d_X12_feed_94 : decode M_X12_feed.2.1 94 = .ok (.getfield 7, 3) := by decide +kernel
theorem d_X12_feed_97 : decode M_X12_feed.2.1 97 = .ok (.aload_n 0, 1) := by decide +kernel
theorem d_X12_feed_98 : decode M_X12_feed.2.1 98 = .ok (.getfield 175, 3) := by decide +kernel
theorem d_X12_feed_101 : decode M_X12_feed.2.1 101 = .ok (.iload 10, 2) := by decide +kernel
theorem d_X12_feed_103 : decode M_X12_feed.2.1 103 = .ok (.iastore, 1) := by decide +kernel
theorem d_X12_feed_104 : decode M_X12_feed.2.1 104 = .ok (.aload_n 0, 1) := by decide +kernel
theorem d_X12_feed_105 : decode M_X12_feed.2.1 105 = .ok (.dup, 1) := by decide +kernel
theorem d_X12_feed_106 : decode M_X12_feed.2.1 106 = .ok (.getfield 175, 3) := by decide +kernel
theorem d_X12_feed_109 : decode M_X12_feed.2.1 109 = .ok (.iconst 1, 1) := by decide +kernel
theorem d_X12_feed_110 : decode M_X12_feed.2.1 110 = .ok (.iadd, 1) := by decide +kernel
theorem d_X12_feed_111 : decode M_X12_feed.2.1 111 = .ok (.putfield 175, 3) := by decide +kernel
theorem d_X12_feed_114 : decode M_X12_feed.2.1 114 = .ok (.iinc 7 1, 3) := by decide +kernel
theorem d_X12_feed_117 : decode M_X12_feed.2.1 117 = .ok (.goto (-109), 3) := by decide +kernel
theorem d_X12_feed_120 : decode M_X12_feed.2.1 120 = .ok (.aload_n 0, 1) := by decide +kernel
theorem d_X12_feed_121 : decode M_X12_feed.2.1 121 = .ok (.getfield 175, 3) := by decide +kernel
theorem d_X12_feed_124 : decode M_X12_feed.2.1 124 = .ok (.ireturn, 1) := by decide +kernel
set_option maxRecDepth 20000 in
theorem s_X12_feed_0 {d : Nat} {p0 : Int} {p1 : Int} {p2 : Int} {G : Mem} {Q : Int → Mem → Prop}  (h : (∀ G1 : Mem, G1 = st G 311 0 0 → Rn d M_X12_feed zN 8 [(0, (2, 311)), (1, (1, p0)), (3, (1, p1)), (5, (1, p2)), (7, (0, 0))] [] G1 Q)) : Rn d M_X12_feed zN 0 [(0, (2, 311)), (1, (1, p0)), (3, (1, p1)), (5, (1, p2))] [] G Q := by
  refine r_aload_n d_X12_feed_0 0 rfl rfl ?_
  refine r_iconst d_X12_feed_1 ?_
  obtain ⟨G1, eG1⟩ : ∃ y : Mem, y = st G 311 0 0 := ⟨_, rfl⟩
  replace h := h G1 eG1
  refine r_putI 12 0 0 rfl d_X12_feed_2 fl_X12_169 (by decide) nofin_12_0 (bs_ob bs_12) ?_
  rw [← eG1]
  refine r_iconst d_X12_feed_5 ?_
  refine r_istore (ls1 := [(7, (0, 0)), (0, (2, 311)), (1, (1, p0)), (3, (1, p1)), (5, (1, p2))]) d_X12_feed_6 (by decide) rfl ?_
  exact Rn.sub [1, 2, 3, 4, 0] rfl h
set_option maxRecDepth 20000 in
theorem s_X12_feed_8 {d : Nat} {x1 : Int} {x3 : Int} {x5 : Int} {x7 : Int} {G : Mem} {Q : Int → Mem → Prop}  (h : (InR x7) ∧ ((24 ≤ x7) → Q (G 311 1) G) ∧ (¬ (24 ≤ x7) → ((8 ≤ x7) → ((16 ≤ x7) → Rn d M_X12_feed zN 39 [(0, (2, 311)), (1, (1, x1)), (3, (1, x3)), (5, (1, x5)), (7, (0, x7))] [(1, x5)] G Q) ∧ (¬ (16 ≤ x7) → Rn d M_X12_feed zN 39 [(0, (2, 311)), (1, (1, x1)), (3, (1, x3)), (5, (1, x5)), (7, (0, x7))] [(1, x3)] G Q)) ∧ (¬ (8 ≤ x7) → Rn d M_X12_feed zN 39 [(0, (2, 311)), (1, (1, x1)), (3, (1, x3)), (5, (1, x5)), (7, (0, x7))] [(1, x1)] G Q))) : Rn d M_X12_feed zN 8 [(0, (2, 311)), (1, (1, x1)), (3, (1, x3)), (5, (1, x5)), (7, (0, x7))] [] G Q := by
  refine r_iload d_X12_feed_8 4 rfl ?_
  refine r_bipush d_X12_feed_10 (by decide +kernel) ?_
  obtain ⟨h1, h⟩ := h
  refine r_icmp_ge (tgt := 120) d_X12_feed_12 (by decide) h1 ⟨by decide, by decide⟩ (fun c2 => ?_) (fun c2 => ?_)
  · replace h := h.1 c2
    refine r_aload_n d_X12_feed_120 0 rfl rfl ?_
    refine r_getI 12 1 1 rfl d_X12_feed_121 fl_X12_175 (by decide) (bs_ob bs_12) ?_
    exact r_ireturn d_X12_feed_124 rfl ⟨rfl, Nat.le_refl _, Nat.le_refl _⟩ h
  · replace h := h.2 c2
    refine r_iload d_X12_feed_15 4 rfl ?_
    refine r_bipush d_X12_feed_17 (by decide +kernel) ?_
    refine r_icmp_ge (tgt := 26) d_X12_feed_19 (by decide) h1 ⟨by decide, by decide⟩ (fun c3 => ?_) (fun c3 => ?_)
    · replace h := h.1 c3
      refine r_iload d_X12_feed_26 4 rfl ?_
      refine r_bipush d_X12_feed_28 (by decide +kernel) ?_
      refine r_icmp_ge (tgt := 37) d_X12_feed_30 (by decide) h1 ⟨by decide, by decide⟩ (fun c4 => ?_) (fun c4 => ?_)
      · replace h := h.1 c4
        refine r_lload d_X12_feed_37 3 rfl ?_
        exact h
      · replace h := h.2 c4
        refine r_lload_n d_X12_feed_33 2 rfl rfl ?_
        refine r_goto (tgt := 39) d_X12_feed_34 (by decide) ?_
        exact h
    · replace h := h.2 c3
      refine r_lload_n d_X12_feed_22 1 rfl rfl ?_
      refine r_goto (tgt := 39) d_X12_feed_23 (by decide) ?_
      exact h
set_option maxRecDepth 20000 in
theorem s_X12_feed_39 {d : Nat} {x1 : Int} {x3 : Int} {x5 : Int} {x7 : Int} {s0 : Int} {G : Mem} {Q : Int → Mem → Prop}  (h : (InR (G 311 1)) ∧ ((1000 ≤ (G 311 1)) → Rn d M_X12_feed zN 8 [(0, (2, 311)), (1, (1, x1)), (3, (1, x3)), (5, (1, x5)), (7, (0, (x7 + 1)))] [] G Q) ∧ (¬ (1000 ≤ (G 311 1)) → (InR (andL (ushrL s0 (56 - (8 * (andI x7 7)))) 255)) ∧ (((andL (ushrL s0 (56 - (8 * (andI x7 7)))) 255) = 10) → Rn d M_X12_feed zN 93 [(0, (2, 311)), (1, (1, x1)), (3, (1, x3)), (5, (1, x5)), (7, (0, x7)), (10, (0, (andL (ushrL s0 (56 - (8 * (andI x7 7)))) 255)))] [] G Q) ∧ (¬ ((andL (ushrL s0 (56 - (8 * (andI x7 7)))) 255) = 10) → (((andL (ushrL s0 (56 - (8 * (andI x7 7)))) 255) < 32) → Rn d M_X12_feed zN 8 [(0, (2, 311)), (1, (1, x1)), (3, (1, x3)), (5, (1, x5)), (7, (0, (x7 + 1)))] [] G Q) ∧ (¬ ((andL (ushrL s0 (56 - (8 * (andI x7 7)))) 255) < 32) → ((126 < (andL (ushrL s0 (56 - (8 * (andI x7 7)))) 255)) → Rn d M_X12_feed zN 8 [(0, (2, 311)), (1, (1, x1)), (3, (1, x3)), (5, (1, x5)), (7, (0, (x7 + 1)))] [] G Q) ∧ (¬ (126 < (andL (ushrL s0 (56 - (8 * (andI x7 7)))) 255)) → Rn d M_X12_feed zN 93 [(0, (2, 311)), (1, (1, x1)), (3, (1, x3)), (5, (1, x5)), (7, (0, x7)), (10, (0, (andL (ushrL s0 (56 - (8 * (andI x7 7)))) 255)))] [] G Q))))) : Rn d M_X12_feed zN 39 [(0, (2, 311)), (1, (1, x1)), (3, (1, x3)), (5, (1, x5)), (7, (0, x7))] [(1, s0)] G Q := by
  refine r_lstore (ls1 := [(8, (1, s0)), (0, (2, 311)), (1, (1, x1)), (3, (1, x3)), (5, (1, x5)), (7, (0, x7))]) d_X12_feed_39 (by decide) rfl ?_
  refine r_lload d_X12_feed_41 0 rfl ?_
  refine r_bipush d_X12_feed_43 (by decide +kernel) ?_
  refine r_bipush d_X12_feed_45 (by decide +kernel) ?_
  refine r_iload d_X12_feed_47 5 rfl ?_
  refine r_bipush d_X12_feed_49 (by decide +kernel) ?_
  refine r_iand d_X12_feed_51 ?_
  refine r_imul d_X12_feed_52 ?_
  refine r_isub d_X12_feed_53 ?_
  refine r_lushr d_X12_feed_54 ?_
  refine r_ldc2 (x := 255) d_X12_feed_55 cst_X12_173 ?_
  refine r_land d_X12_feed_58 ?_
  refine r_l2i d_X12_feed_59 ?_
  refine r_istore (ls1 := [(10, (0, (andL (ushrL s0 (56 - (8 * (andI x7 7)))) 255))), (8, (1, s0)), (0, (2, 311)), (1, (1, x1)), (3, (1, x3)), (5, (1, x5)), (7, (0, x7))]) d_X12_feed_60 (by decide) rfl ?_
  refine r_aload_n d_X12_feed_62 2 rfl rfl ?_
  refine r_getI 12 1 1 rfl d_X12_feed_63 fl_X12_175 (by decide) (bs_ob bs_12) ?_
  refine r_sipush d_X12_feed_66 (by decide +kernel) ?_
  obtain ⟨h1, h⟩ := h
  refine r_icmp_ge (tgt := 114) d_X12_feed_69 (by decide) h1 ⟨by decide, by decide⟩ (fun c2 => ?_) (fun c2 => ?_)
  · replace h := h.1 c2
    refine r_iinc (ls1 := [(7, (0, (x7 + 1))), (10, (0, (andL (ushrL s0 (56 - (8 * (andI x7 7)))) 255))), (8, (1, s0)), (0, (2, 311)), (1, (1, x1)), (3, (1, x3)), (5, (1, x5))]) d_X12_feed_114 6 rfl (by decide) rfl ?_
    refine r_goto (tgt := 8) d_X12_feed_117 (by decide) ?_
    exact Rn.sub [3, 4, 5, 6, 0] rfl h
  · replace h := h.2 c2
    refine r_iload d_X12_feed_72 0 rfl ?_
    refine r_bipush d_X12_feed_74 (by decide +kernel) ?_
    obtain ⟨h3, h⟩ := h
    refine r_icmp_eq (tgt := 93) d_X12_feed_76 (by decide) h3 ⟨by decide, by decide⟩ (fun c4 => ?_) (fun c4 => ?_)
    · replace h := h.1 c4
      exact Rn.sub [2, 3, 4, 5, 6, 0] rfl h
    · replace h := h.2 c4
      refine r_iload d_X12_feed_79 0 rfl ?_
      refine r_bipush d_X12_feed_81 (by decide +kernel) ?_
      refine r_icmp_lt (tgt := 114) d_X12_feed_83 (by decide) h3 ⟨by decide, by decide⟩ (fun c5 => ?_) (fun c5 => ?_)
      · replace h := h.1 c5
        refine r_iinc (ls1 := [(7, (0, (x7 + 1))), (10, (0, (andL (ushrL s0 (56 - (8 * (andI x7 7)))) 255))), (8, (1, s0)), (0, (2, 311)), (1, (1, x1)), (3, (1, x3)), (5, (1, x5))]) d_X12_feed_114 6 rfl (by decide) rfl ?_
        refine r_goto (tgt := 8) d_X12_feed_117 (by decide) ?_
        exact Rn.sub [3, 4, 5, 6, 0] rfl h
      · replace h := h.2 c5
        refine r_iload d_X12_feed_86 0 rfl ?_
        refine r_bipush d_X12_feed_88 (by decide +kernel) ?_
        refine r_icmp_gt (tgt := 114) d_X12_feed_90 (by decide) h3 ⟨by decide, by decide⟩ (fun c6 => ?_) (fun c6 => ?_)
        · replace h := h.1 c6
          refine r_iinc (ls1 := [(7, (0, (x7 + 1))), (10, (0, (andL (ushrL s0 (56 - (8 * (andI x7 7)))) 255))), (8, (1, s0)), (0, (2, 311)), (1, (1, x1)), (3, (1, x3)), (5, (1, x5))]) d_X12_feed_114 6 rfl (by decide) rfl ?_
          refine r_goto (tgt := 8) d_X12_feed_117 (by decide) ?_
          exact Rn.sub [3, 4, 5, 6, 0] rfl h
        · replace h := h.2 c6
          exact Rn.sub [2, 3, 4, 5, 6, 0] rfl h
set_option maxRecDepth 20000 in
theorem s_X12_feed_93 {d : Nat} {x1 : Int} {x3 : Int} {x5 : Int} {x7 : Int} {x10 : Int} {G : Mem} {Q : Int → Mem → Prop}  (h : (0 ≤ (G 311 1) ∧ (G 311 1) < 1000) ∧ (∀ G2 : Mem, G2 = st G 312 (G 311 1) x10 → (∀ G3 : Mem, G3 = st G2 311 1 ((G2 311 1) + 1) → Rn d M_X12_feed zN 8 [(0, (2, 311)), (1, (1, x1)), (3, (1, x3)), (5, (1, x5)), (7, (0, (x7 + 1)))] [] G3 Q))) : Rn d M_X12_feed zN 93 [(0, (2, 311)), (1, (1, x1)), (3, (1, x3)), (5, (1, x5)), (7, (0, x7)), (10, (0, x10))] [] G Q := by
  refine r_aload_n d_X12_feed_93 0 rfl rfl ?_
  refine r_getL (v := 312) 12 2 2 rfl d_X12_feed_94 fl_X12_7 (by decide) (bs_ob bs_12) (ly_12_2 bs_12).1 (ly_12_2 bs_12).2.1 ?_
  refine r_aload_n d_X12_feed_97 0 rfl rfl ?_
  refine r_getI 12 1 1 rfl d_X12_feed_98 fl_X12_175 (by decide) (bs_ob bs_12) ?_
  refine r_iload d_X12_feed_101 5 rfl ?_
  obtain ⟨h1, h⟩ := h
  obtain ⟨G2, eG2⟩ : ∃ y : Mem, y = st G 312 (G 311 1) x10 := ⟨_, rfl⟩
  replace h := h G2 eG2
  refine r_iastore d_X12_feed_103 (ly_12_2 bs_12).2.2 h1 ?_
  rw [← eG2]
  refine r_aload_n d_X12_feed_104 0 rfl rfl ?_
  refine r_dup 2 rfl (by decide) d_X12_feed_105 ?_
  refine r_getI 12 1 1 rfl d_X12_feed_106 fl_X12_175 (by decide) (bs_ob bs_12) ?_
  refine r_iconst d_X12_feed_109 ?_
  refine r_iadd d_X12_feed_110 ?_
  obtain ⟨G3, eG3⟩ : ∃ y : Mem, y = st G2 311 1 ((G2 311 1) + 1) := ⟨_, rfl⟩
  replace h := h G3 eG3
  refine r_putI 12 1 1 rfl d_X12_feed_111 fl_X12_175 (by decide) nofin_12_1 (bs_ob bs_12) ?_
  rw [← eG3]
  refine r_iinc (ls1 := [(7, (0, (x7 + 1))), (0, (2, 311)), (1, (1, x1)), (3, (1, x3)), (5, (1, x5)), (10, (0, x10))]) d_X12_feed_114 4 rfl (by decide) rfl ?_
  refine r_goto (tgt := 8) d_X12_feed_117 (by decide) ?_
  exact Rn.sub [1, 2, 3, 4, 0] rfl h
theorem d_X12_signAt_0 : decode M_X12_signAt.2.1 0 = .ok (.iload_n 1, 1) := by decide +kernel
theorem d_X12_signAt_1 : decode M_X12_signAt.2.1 1 = .ok (.aload_n 0, 1) := by decide +kernel
theorem d_X12_signAt_2 : decode M_X12_signAt.2.1 2 = .ok (.getfield 178, 3) := by decide +kernel
theorem d_X12_signAt_5 : decode M_X12_signAt.2.1 5 = .ok (.if_icmp .ge 12, 3) := by decide +kernel
theorem d_X12_signAt_8 : decode M_X12_signAt.2.1 8 = .ok (.aload_n 0, 1) := by decide +kernel
theorem d_X12_signAt_9 : decode M_X12_signAt.2.1 9 = .ok (.getfield 7, 3) := by decide +kernel
theorem d_X12_signAt_12 : decode M_X12_signAt.2.1 12 = .ok (.iload_n 1, 1) := by decide +kernel
theorem d_X12_signAt_13 : decode M_X12_signAt.2.1 13 = .ok (.iaload, 1) := by decide +kernel
theorem d_X12_signAt_14 : decode M_X12_signAt.2.1 14 = .ok (.goto 4, 3) := by decide +kernel
theorem d_X12_signAt_17 : decode M_X12_signAt.2.1 17 = .ok (.iconst 0, 1) := by decide +kernel
theorem d_X12_signAt_18 : decode M_X12_signAt.2.1 18 = .ok (.ireturn, 1) := by decide +kernel
set_option maxRecDepth 20000 in
theorem s_X12_signAt_0 {d : Nat} {p0 : Int} {G : Mem} {Q : Int → Mem → Prop}  (h : (InR p0) ∧ (InR (G 311 3)) ∧ (((G 311 3) ≤ p0) → Q 0 G) ∧ (¬ ((G 311 3) ≤ p0) → (0 ≤ p0 ∧ p0 < 1000) ∧ (Q (G 312 p0) G))) : Rn d M_X12_signAt zN 0 [(0, (2, 311)), (1, (0, p0))] [] G Q := by
  refine r_iload_n d_X12_signAt_0 1 rfl rfl ?_
  refine r_aload_n d_X12_signAt_1 0 rfl rfl ?_
  refine r_getI 12 3 3 rfl d_X12_signAt_2 fl_X12_178 (by decide) (bs_ob bs_12) ?_
  obtain ⟨h1, h⟩ := h
  obtain ⟨h2, h⟩ := h
  refine r_icmp_ge (tgt := 17) d_X12_signAt_5 (by decide) h1 h2 (fun c3 => ?_) (fun c3 => ?_)
  · replace h := h.1 c3
    refine r_iconst d_X12_signAt_17 ?_
    exact r_ireturn d_X12_signAt_18 rfl ⟨rfl, Nat.le_refl _, Nat.le_refl _⟩ h
  · replace h := h.2 c3
    refine r_aload_n d_X12_signAt_8 0 rfl rfl ?_
    refine r_getL (v := 312) 12 2 2 rfl d_X12_signAt_9 fl_X12_7 (by decide) (bs_ob bs_12) (ly_12_2 bs_12).1 (ly_12_2 bs_12).2.1 ?_
    refine r_iload_n d_X12_signAt_12 1 rfl rfl ?_
    obtain ⟨h4, h⟩ := h
    refine r_iaload d_X12_signAt_13 (ly_12_2 bs_12).2.2 h4 ?_
    refine r_goto (tgt := 18) d_X12_signAt_14 (by decide) ?_
    exact r_ireturn d_X12_signAt_18 rfl ⟨rfl, Nat.le_refl _, Nat.le_refl _⟩ h
theorem d_X12_nextToken_0 : decode M_X12_nextToken.2.1 0 = .ok (.aload_n 0, 1) := by decide +kernel
theorem d_X12_nextToken_1 : decode M_X12_nextToken.2.1 1 = .ok (.getfield 181, 3) := by decide +kernel
theorem d_X12_nextToken_4 : decode M_X12_nextToken.2.1 4 = .ok (.aload_n 0, 1) := by decide +kernel
theorem d_X12_nextToken_5 : decode M_X12_nextToken.2.1 5 = .ok (.getfield 178, 3) := by decide +kernel
theorem d_X12_nextToken_8 : decode M_X12_nextToken.2.1 8 = .ok (.if_icmp .ge 44, 3) := by decide +kernel
theorem d_X12_nextToken_11 : decode M_X12_nextToken.2.1 11 = .ok (.aload_n 0, 1) := by decide +kernel
theorem d_X12_nextToken_12 : decode M_X12_nextToken.2.1 12 = .ok (.getfield 7, 3) := by decide +kernel
theorem d_X12_nextToken_15 : decode M_X12_nextToken.2.1 15 = .ok (.aload_n 0, 1) := by decide +kernel
theorem d_X12_nextToken_16 : decode M_X12_nextToken.2.1 16 = .ok (.getfield 181, 3) := by decide +kernel
theorem d_X12_nextToken_19 : decode M_X12_nextToken.2.1 19 = .ok (.iaload, 1) := by decide +kernel
theorem d_X12_nextToken_20 : decode M_X12_nextToken.2.1 20 = .ok (.bipush 32, 2) := by decide +kernel
theorem d_X12_nextToken_22 : decode M_X12_nextToken.2.1 22 = .ok (.if_icmp .eq 17, 3) := by decide +kernel
theorem d_X12_nextToken_25 : decode M_X12_nextToken.2.1 25 = .ok (.aload_n 0, 1) := by decide +kernel
theorem d_X12_nextToken_26 : decode M_X12_nextToken.2.1 26 = .ok (.getfield 7, 3) := by decide +kernel
theorem d_X12_nextToken_29 : decode M_X12_nextToken.2.1 29 = .ok (.aload_n 0, 1) := by decide +kernel
theorem d_X12_nextToken_30 : decode M_X12_nextToken.2.1 30 = .ok (.getfield 181, 3) := by decide +kernel
theorem d_X12_nextToken_33 : decode M_X12_nextToken.2.1 33 = .ok (.iaload, 1) := by decide +kernel
theorem d_X12_nextToken_34 : decode M_X12_nextToken.2.1 34 = .ok (.bipush 10, 2) := by decide +kernel
theorem d_X12_nextToken_36 : decode M_X12_nextToken.2.1 36 = .ok (.if_icmp .ne 16, 3) := by decide +kernel
theorem d_X12_nextToken_39 : decode M_X12_nextToken.2.1 39 = .ok (.aload_n 0, 1) := by decide +kernel
theorem d_X12_nextToken_40 : decode M_X12_nextToken.2.1 40 = .ok (.dup, 1) := by decide +kernel
theorem d_X12_nextToken_41 : decode M_X12_nextToken.2.1 41 = .ok (.getfield 181, 3) := by decide +kernel
theorem d_X12_nextToken_44 : decode M_X12_nextToken.2.1 44 = .ok (.iconst 1, 1) := by decide +kernel
theorem d_X12_nextToken_45 : decode M_X12_nextToken.2.1 45 = .ok (.iadd, 1) := by decide +kernel
theorem d_X12_nextToken_46 : decode M_X12_nextToken.2.1 46 = .ok (.putfield 181, 3) := by decide +kernel
theorem d_X12_nextToken_49 : decode M_X12_nextToken.2.1 49 = .ok (.goto (-49), 3) := by decide +kernel
theorem d_X12_nextToken_52 : decode M_X12_nextToken.2.1 52 = .ok (.aload_n 0, 1) := by decide +kernel
theorem d_X12_nextToken_53 : decode M_X12_nextToken.2.1 53 = .ok (.aload_n 0, 1) := by decide +kernel
theorem d_X12_nextToken_54 : decode M_X12_nextToken.2.1 54 = .ok (.getfield 181, 3) := by decide +kernel
theorem d_X12_nextToken_57 : decode M_X12_nextToken.2.1 57 = .ok (.putfield 184, 3) := by decide +kernel
theorem d_X12_nextToken_60 : decode M_X12_nextToken.2.1 60 = .ok (.aload_n 0, 1) := by decide +kernel
theorem d_X12_nextToken_61 : decode M_X12_nextToken.2.1 61 = .ok (.lconst 0, 1) := by decide +kernel
theorem d_X12_nextToken_62 : decode M_X12_nextToken.2.1 62 = .ok (.putfield 187, 3) := by decide +kernel
theorem d_X12_nextToken_65 : decode M_X12_nextToken.2.1 65 = .ok (.aload_n 0, 1) := by decide +kernel
theorem d_X12_nextToken_66 : decode M_X12_nextToken.2.1 66 = .ok (.iconst 0, 1) := by decide +kernel
theorem d_X12_nextToken_67 : decode M_X12_nextToken.2.1 67 = .ok (.putfield 191, 3) := by decide +kernel
theorem d_X12_nextToken_70 : decode M_X12_nextToken.2.1 70 = .ok (.aload_n 0, 1) := by decide +kernel
theorem d_X12_nextToken_71 : decode M_X12_nextToken.2.1 71 = .ok (.getfield 181, 3) := by decide +kernel
theorem d_X12_nextToken_74 : decode M_X12_nextToken.2.1 74 = .ok (.aload_n 0, 1) := by decide +kernel
theorem d_X12_nextToken_75 : decode M_X12_nextToken.2.1 75 = .ok (.getfield 178, 3) := by decide +kernel
theorem d_X12_nextToken_78 : decode M_X12_nextToken.2.1 78 = .ok (.if_icmp .ne 9, 3) := by decide +kernel
theorem d_X12_nextToken_81 : decode M_X12_nextToken.2.1 81 = .ok (.aload_n 0, 1) := by decide +kernel
theorem d_X12_nextToken_82 : decode M_X12_nextToken.2.1 82 = .ok (.iconst 0, 1) := by decide +kernel
theorem d_X12_nextToken_83 : decode M_X12_nextToken.2.1 83 = .ok (.putfield 194, 3) := by decide +kernel
theorem d_X12_nextToken_86 : decode M_X12_nextToken.2.1 86 = .ok (.return_, 1) := by decide +kernel
theorem d_X12_nextToken_87 : decode M_X12_nextToken.2.1 87 = .ok (.aload_n 0, 1) := by decide +kernel
theorem d_X12_nextToken_88 : decode M_X12_nextToken.2.1 88 = .ok (.getfield 7, 3) := by decide +kernel
theorem d_X12_nextToken_91 : decode M_X12_nextToken.2.1 91 = .ok (.aload_n 0, 1) := by decide +kernel
theorem d_X12_nextToken_92 : decode M_X12_nextToken.2.1 92 = .ok (.getfield 181, 3) := by decide +kernel
theorem d_X12_nextToken_95 : decode M_X12_nextToken.2.1 95 = .ok (.iaload, 1) := by decide +kernel
theorem d_X12_nextToken_96 : decode M_X12_nextToken.2.1 96 = .ok (.istore_n 1, 1) := by decide +kernel
theorem d_X12_nextToken_97 : decode M_X12_nextToken.2.1 97 = .ok (.iload_n 1, 1) := by decide +kernel
theorem d_X12_nextToken_98 : decode M_X12_nextToken.2.1 98 = .ok (.bipush 97, 2) := by decide +kernel
theorem d_X12_nextToken_100 : decode M_X12_nextToken.2.1 100 = .ok (.if_icmp .lt 112, 3) := by decide +kernel
theorem d_X12_nextToken_103 : decode M_X12_nextToken.2.1 103 = .ok (.iload_n 1, 1) := by decide +kernel
theorem d_X12_nextToken_104 : decode M_X12_nextToken.2.1 104 = .ok (.bipush 122, 2) := by decide +kernel
theorem d_X12_nextToken_106 : decode M_X12_nextToken.2.1 106 = .ok (.if_icmp .gt 106, 3) := by decide +kernel
theorem d_X12_nextToken_109 : decode M_X12_nextToken.2.1 109 = .ok (.aload_n 0, 1) := by decide +kernel
theorem d_X12_nextToken_110 : decode M_X12_nextToken.2.1 110 = .ok (.aload_n 0, 1) := by decide +kernel
theorem d_X12_nextToken_111 : decode M_X12_nextToken.2.1 111 = .ok (.getfield 181, 3) := by decide +kernel
theorem d_X12_nextToken_114 : decode M_X12_nextToken.2.1 114 = .ok (.invokevirtual 197, 3) := by decide +kernel
theorem d_X12_nextToken_117 : decode M_X12_nextToken.2.1 117 = .ok (.bipush 97, 2) := by decide +kernel
theorem d_X12_nextToken_119 : decode M_X12_nextToken.2.1 119 = .ok (.if_icmp .lt 69, 3) := by decide +kernel
theorem d_X12_nextToken_122 : decode M_X12_nextToken.2.1 122 = .ok (.aload_n 0, 1) := by decide +kernel
theorem d_X12_nextToken_123 : decode M_X12_nextToken.2.1 123 = .ok (.aload_n 0, 1) := by decide +kernel
theorem d_X12_nextToken_124 : decode M_X12_nextToken.2.1 124 = .ok (.getfield 181, 3) := by decide +kernel
theorem d_X12_nextToken_127 : decode M_X12_nextToken.2.1 127 = .ok (.invokevirtual 197, 3) := by decide +kernel
theorem d_X12_nextToken_130 : decode M_X12_nextToken.2.1 130 = .ok (.bipush 122, 2) := by decide +kernel
theorem d_X12_nextToken_132 : decode M_X12_nextToken.2.1 132 = .ok (.if_icmp .gt 56, 3) := by decide +kernel
theorem d_X12_nextToken_135 : decode M_X12_nextToken.2.1 135 = .ok (.aload_n 0, 1) := by decide +kernel
theorem d_X12_nextToken_136 : decode M_X12_nextToken.2.1 136 = .ok (.getfield 181, 3) := by decide +kernel
theorem d_X12_nextToken_139 : decode M_X12_nextToken.2.1 139 = .ok (.aload_n 0, 1) := by decide +kernel
theorem d_X12_nextToken_140 : decode M_X12_nextToken.2.1 140 = .ok (.getfield 184, 3) := by decide +kernel
theorem d_X12_nextToken_143 : decode M_X12_nextToken.2.1 143 = .ok (.isub, 1) := by decide +kernel
theorem d_X12_nextToken_144 : decode M_X12_nextToken.2.1 144 = .ok (.bipush 8, 2) := by decide +kernel
theorem d_X12_nextToken_146 : decode M_X12_nextToken.2.1 146 = .ok (.if_icmp .ge 29, 3) := by decide +kernel
theorem d_X12_nextToken_149 : decode M_X12_nextToken.2.1 149 = .ok (.aload_n 0, 1) := by decide +kernel
theorem d_X12_nextToken_150 : decode M_X12_nextToken.2.1 150 = .ok (.aload_n 0, 1) := by decide +kernel
theorem d_X12_nextToken_151 : decode M_X12_nextToken.2.1 151 = .ok (.getfield 187, 3) := by decide +kernel
theorem d_X12_nextToken_154 : decode M_X12_nextToken.2.1 154 = .ok (.ldc2_w 201, 3) := by decide +kernel
theorem d_X12_nextToken_157 : decode M_X12_nextToken.2.1 157 = .ok (.lmul, 1) := by decide +kernel
theorem d_X12_nextToken_158 : decode M_X12_nextToken.2.1 158 = .ok (.aload_n 0, 1) := by decide +kernel
theorem d_X12_nextToken_159 : decode M_X12_nextToken.2.1 159 = .ok (.aload_n 0, 1) := by decide +kernel
theorem d_X12_nextToken_160 : decode M_X12_nextToken.2.1 160 = .ok (.getfield 181, 3) := by decide +kernel
theorem d_X12_nextToken_163 : decode M_X12_nextToken.2.1 163 = .ok (.invokevirtual 197, 3) := by decide +kernel
theorem d_X12_nextToken_166 : decode M_X12_nextToken.2.1 166 = .ok (.i2l, 1) := by decide +kernel
theorem d_X12_nextToken_167 : decode M_X12_nextToken.2.1 167 = .ok (.ladd, 1) := by decide +kernel
theorem d_X12_nextToken_168 : decode M_X12_nextToken.2.1 168 = .ok (.ldc2_w 203, 3) := by decide +kernel
theorem d_X12_nextToken_171 : decode M_X12_nextToken.2.1 171 = .ok (.lsub, 1) := by decide +kernel
theorem d_X12_nextToken_172 : decode M_X12_nextToken.2.1 172 = .ok (.putfield 187, 3) := by decide +kernel
theorem d_X12_nextToken_175 : decode M_X12_nextToken.2.1 175 = .ok (.aload_n 0, 1) := by decide +kernel
theorem d_X12_nextToken_176 : decode M_X12_nextToken.2.1 176 = .ok (.dup, 1) := by decide +kernel
theorem d_X12_nextToken_177 : decode M_X12_nextToken.2.1 177 = .ok (.getfield 181, 3) := by decide +kernel
theorem d_X12_nextToken_180 : decode M_X12_nextToken.2.1 180 = .ok (.iconst 1, 1) := by decide +kernel
theorem d_X12_nextToken_181 : decode M_X12_nextToken.2.1 181 = .ok (.iadd, 1) := by decide +kernel
theorem d_X12_nextToken_182 : decode M_X12_nextToken.2.1 182 = .ok (.putfield 181, 3) := by decide +kernel
theorem d_X12_nextToken_185 : decode M_X12_nextToken.2.1 185 = .ok (.goto (-76), 3) := by decide +kernel
theorem d_X12_nextToken_188 : decode M_X12_nextToken.2.1 188 = .ok (.aload_n 0, 1) := by decide +kernel
theorem d_X12_nextToken_189 : decode M_X12_nextToken.2.1 189 = .ok (.aload_n 0, 1) := by decide +kernel
theorem d_X12_nextToken_190 : decode M_X12_nextToken.2.1 190 = .ok (.getfield 181, 3) := by decide +kernel
theorem d_X12_nextToken_193 : decode M_X12_nextToken.2.1 193 = .ok (.aload_n 0, 1) := by decide +kernel
theorem d_X12_nextToken_194 : decode M_X12_nextToken.2.1 194 = .ok (.getfield 184, 3) := by decide +kernel
theorem d_X12_nextToken_197 : decode M_X12_nextToken.2.1 197 = .ok (.isub, 1) := by decide +kernel
theorem d_X12_nextToken_198 : decode M_X12_nextToken.2.1 198 = .ok (.bipush 8, 2) := by decide +kernel
theorem d_X12_nextToken_200 : decode M_X12_nextToken.2.1 200 = .ok (.if_icmp .le 7, 3) := by decide +kernel
theorem d_X12_nextToken_203 : decode M_X12_nextToken.2.1 203 = .ok (.iconst 4, 1) := by decide +kernel
theorem d_X12_nextToken_204 : decode M_X12_nextToken.2.1 204 = .ok (.goto 4, 3) := by decide +kernel
theorem d_X12_nextToken_207 : decode M_X12_nextToken.2.1 207 = .ok (.iconst 1, 1) := by decide +kernel
theorem d_X12_nextToken_208 : decode M_X12_nextToken.2.1 208 = .ok (.putfield 194, 3) := by decide +kernel
theorem d_X12_nextToken_211 : decode M_X12_nextToken.2.1 211 = .ok (.return_, 1) := by decide +kernel
theorem d_X12_nextToken_212 : decode M_X12_nextToken.2.1 212 = .ok (.iload_n 1, 1) := by decide +kernel
theorem d_X12_nextToken_213 : decode M_X12_nextToken.2.1 213 = .ok (.bipush 48, 2) := by decide +kernel
theorem d_X12_nextToken_215 : decode M_X12_nextToken.2.1 215 = .ok (.if_icmp .lt 107, 3) := by decide +kernel
theorem d_X12_nextToken_218 : decode M_X12_nextToken.2.1 218 = .ok (.iload_n 1, 1) := by decide +kernel
theorem d_X12_nextToken_219 : decode M_X12_nextToken.2.1 219 = .ok (.bipush 57, 2) := by decide +kernel
theorem d_X12_nextToken_221 : decode M_X12_nextToken.2.1 221 = .ok (.if_icmp .gt 101, 3) := by decide +kernel
theorem d_X12_nextToken_224 : decode M_X12_nextToken.2.1 224 = .ok (.aload_n 0, 1) := by decide +kernel
theorem d_X12_nextToken_225 : decode M_X12_nextToken.2.1 225 = .ok (.aload_n 0, 1) := by decide +kernel
theorem d_X12_nextToken_226 : decode M_X12_nextToken.2.1 226 = .ok (.getfield 181, 3) := by decide +kernel
theorem d_X12_nextToken_229 : decode M_X12_nextToken.2.1 229 = .ok (.invokevirtual 197, 3) := by decide +kernel
theorem d_X12_nextToken_232 : decode M_X12_nextToken.2.1 232 = .ok (.bipush 48, 2) := by decide +kernel
theorem d_X12_nextToken_234 : decode M_X12_nextToken.2.1 234 = .ok (.if_icmp .lt 65, 3) := by decide +kernel
theorem d_X12_nextToken_237 : decode M_X12_nextToken.2.1 237 = .ok (.aload_n 0, 1) := by decide +kernel
theorem d_X12_nextToken_238 : decode M_X12_nextToken.2.1 238 = .ok (.aload_n 0, 1) := by decide +kernel
theorem d_X12_nextToken_239 : decode M_X12_nextToken.2.1 239 = .ok (.getfield 181, 3) := by decide +kernel
theorem d_X12_nextToken_242 : decode M_X12_nextToken.2.1 242 = .ok (.invokevirtual 197, 3) := by decide +kernel
theorem d_X12_nextToken_245 : decode M_X12_nextToken.2.1 245 = .ok (.bipush 57, 2) := by decide +kernel
theorem d_X12_nextToken_247 : decode M_X12_nextToken.2.1 247 = .ok (.if_icmp .gt 52, 3) := by decide +kernel
theorem d_X12_nextToken_250 : decode M_X12_nextToken.2.1 250 = .ok (.aload_n 0, 1) := by decide +kernel
theorem d_X12_nextToken_251 : decode M_X12_nextToken.2.1 251 = .ok (.getfield 181, 3) := by decide +kernel
theorem d_X12_nextToken_254 : decode M_X12_nextToken.2.1 254 = .ok (.aload_n 0, 1) := by decide +kernel
theorem d_X12_nextToken_255 : decode M_X12_nextToken.2.1 255 = .ok (.getfield 184, 3) := by decide +kernel
theorem d_X12_nextToken_258 : decode M_X12_nextToken.2.1 258 = .ok (.isub, 1) := by decide +kernel
theorem d_X12_nextToken_259 : decode M_X12_nextToken.2.1 259 = .ok (.iconst 4, 1) := by decide +kernel
theorem d_X12_nextToken_260 : decode M_X12_nextToken.2.1 260 = .ok (.if_icmp .ge 26, 3) := by decide +kernel
theorem d_X12_nextToken_263 : decode M_X12_nextToken.2.1 263 = .ok (.aload_n 0, 1) := by decide +kernel
theorem d_X12_nextToken_264 : decode M_X12_nextToken.2.1 264 = .ok (.aload_n 0, 1) := by decide +kernel
theorem d_X12_nextToken_265 : decode M_X12_nextToken.2.1 265 = .ok (.getfield 191, 3) := by decide +kernel
theorem d_X12_nextToken_268 : decode M_X12_nextToken.2.1 268 = .ok (.bipush 10, 2) := by decide +kernel
theorem d_X12_nextToken_270 : decode M_X12_nextToken.2.1 270 = .ok (.imul, 1) := by decide +kernel
theorem d_X12_nextToken_271 : decode M_X12_nextToken.2.1 271 = .ok (.aload_n 0, 1) := by decide +kernel
theorem d_X12_nextToken_272 : decode M_X12_nextToken.2.1 272 = .ok (.aload_n 0, 1) := by decide +kernel
theorem d_X12_nextToken_273 : decode M_X12_nextToken.2.1 273 = .ok (.getfield 181, 3) := by decide +kernel
theorem d_X12_nextToken_276 : decode M_X12_nextToken.2.1 276 = .ok (.invokevirtual 197, 3) := by decide +kernel
theorem d_X12_nextToken_279 : decode M_X12_nextToken.2.1 279 = .ok (.iadd, 1) := by decide +kernel
theorem d_X12_nextToken_280 : decode M_X12_nextToken.2.1 280 = .ok (.bipush 48, 2) := by decide +kernel
theorem d_X12_nextToken_282 : decode M_X12_nextToken.2.1 282 = .ok (.isub, 1) := by decide +kernel
theorem d_X12_nextToken_283 : decode M_X12_nextToken.2.1 283 = .ok (.putfield 191, 3) := by decide +kernel
theorem d_X12_nextToken_286 : decode M_X12_nextToken.2.1 286 = .ok (.aload_n 0, 1) := by decide +kernel
theorem d_X12_nextToken_287 : decode M_X12_nextToken.2.1 287 = .ok (.dup, 1) := by decide +kernel
theorem d_X12_nextToken_288 : decode M_X12_nextToken.2.1 288 = .ok (.getfield 181, 3) := by decide +kernel
theorem d_X12_nextToken_291 : decode M_X12_nextToken.2.1 291 = .ok (.iconst 1, 1) := by decide +kernel
theorem d_X12_nextToken_292 : decode M_X12_nextToken.2.1 292 = .ok (.iadd, 1) := by decide +kernel
theorem d_X12_nextToken_293 : decode M_X12_nextToken.2.1 293 = .ok (.putfield 181, 3) := by decide +kernel
theorem d_X12_nextToken_296 : decode M_X12_nextToken.2.1 296 = .ok (.goto (-72), 3) := by decide +kernel
theorem d_X12_nextToken_299 : decode M_X12_nextToken.2.1 299 = .ok (.aload_n 0, 1) := by decide +kernel
theorem d_X12_nextToken_300 : decode M_X12_nextToken.2.1 300 = .ok (.aload_n 0, 1) := by decide +kernel
theorem d_X12_nextToken_301 : decode M_X12_nextToken.2.1 301 = .ok (.getfield 181, 3) := by decide +kernel
theorem d_X12_nextToken_304 : decode M_X12_nextToken.2.1 304 = .ok (.aload_n 0, 1) := by decide +kernel
theorem d_X12_nextToken_305 : decode M_X12_nextToken.2.1 305 = .ok (.getfield 184, 3) := by decide +kernel
theorem d_X12_nextToken_308 : decode M_X12_nextToken.2.1 308 = .ok (.isub, 1) := by decide +kernel
theorem d_X12_nextToken_309 : decode M_X12_nextToken.2.1 309 = .ok (.iconst 4, 1) := by decide +kernel
theorem d_X12_nextToken_310 : decode M_X12_nextToken.2.1 310 = .ok (.if_icmp .le 7, 3) := by decide +kernel
theorem d_X12_nextToken_313 : decode M_X12_nextToken.2.1 313 = .ok (.iconst 4, 1) := by decide +kernel
theorem d_X12_nextToken_314 : decode M_X12_nextToken.2.1 314 = .ok (.goto 4, 3) := by decide +kernel
theorem d_X12_nextToken_317 : decode M_X12_nextToken.2.1 317 = .ok (.iconst 2, 1) := by decide +kernel
theorem d_X12_nextToken_318 : decode M_X12_nextToken.2.1 318 = .ok (.putfield 194, 3) := by decide +kernel
theorem d_X12_nextToken_321 : decode M_X12_nextToken.2.1 321 = .ok (.return_, 1) := by decide +kernel
theorem d_X12_nextToken_322 : decode M_X12_nextToken.2.1 322 = .ok (.aload_n 0, 1) := by decide +kernel
theorem d_X12_nextToken_323 : decode M_X12_nextToken.2.1 323 = .ok (.dup, 1) := by decide +kernel
theorem d_X12_nextToken_324 : decode M_X12_nextToken.2.1 324 = .ok (.getfield 181, 3) := by decide +kernel
theorem d_X12_nextToken_327 : decode M_X12_nextToken.2.1 327 = .ok (.iconst 1, 1) := by decide +kernel
theorem d_X12_nextToken_328 : decode M_X12_nextToken.2.1 328 = .ok (.iadd, 1) := by decide +kernel
theorem d_X12_nextToken_329 : decode M_X12_nextToken.2.1 329 = .ok (.putfield 181, 3) := by decide +kernel
theorem d_X12_nextToken_332 : decode M_X12_nextToken.2.1 332 = .ok (.aload_n 0, 1) := by decide +kernel
theorem d_X12_nextToken_333 : decode M_X12_nextToken.2.1 333 = .ok (.iload_n 1, 1) := by decide +kernel
theorem d_X12_nextToken_334 : decode M_X12_nextToken.2.1 334 = .ok (.bipush 40, 2) := by decide +kernel
theorem d_X12_nextToken_336 : decode M_X12_nextToken.2.1 336 = .ok (.if_icmp .lt 9, 3) := by decide +kernel
theorem d_X12_nextToken_339 : decode M_X12_nextToken.2.1 339 = .ok (.iload_n 1, 1) := by decide +kernel
theorem d_X12_nextToken_340 : decode M_X12_nextToken.2.1 340 = .ok (.bipush 43, 2) := by decide +kernel
theorem d_X12_nextToken_342 : decode M_X12_nextToken.2.1 342 = .ok (.if_icmp .le 21, 3) := by decide +kernel
theorem d_X12_nextToken_345 : decode M_X12_nextToken.2.1 345 = .ok (.iload_n 1, 1) := by decide +kernel
theorem d_X12_nextToken_346 : decode M_X12_nextToken.2.1 346 = .ok (.bipush 45, 2) := by decide +kernel
theorem d_X12_nextToken_348 : decode M_X12_nextToken.2.1 348 = .ok (.if_icmp .eq 15, 3) := by decide +kernel
theorem d_X12_nextToken_351 : decode M_X12_nextToken.2.1 351 = .ok (.iload_n 1, 1) := by decide +kernel
theorem d_X12_nextToken_352 : decode M_X12_nextToken.2.1 352 = .ok (.bipush 59, 2) := by decide +kernel
theorem d_X12_nextToken_354 : decode M_X12_nextToken.2.1 354 = .ok (.if_icmp .lt 13, 3) := by decide +kernel
theorem d_X12_nextToken_357 : decode M_X12_nextToken.2.1 357 = .ok (.iload_n 1, 1) := by decide +kernel
theorem d_X12_nextToken_358 : decode M_X12_nextToken.2.1 358 = .ok (.bipush 61, 2) := by decide +kernel
theorem d_X12_nextToken_360 : decode M_X12_nextToken.2.1 360 = .ok (.if_icmp .gt 7, 3) := by decide +kernel
theorem d_X12_nextToken_363 : decode M_X12_nextToken.2.1 363 = .ok (.iconst 3, 1) := by decide +kernel
theorem d_X12_nextToken_364 : decode M_X12_nextToken.2.1 364 = .ok (.goto 4, 3) := by decide +kernel
theorem d_X12_nextToken_367 : decode M_X12_nextToken.2.1 367 = .ok (.iconst 4, 1) := by decide +kernel
theorem d_X12_nextToken_368 : decode M_X12_nextToken.2.1 368 = .ok (.putfield 194, 3) := by decide +kernel
theorem d_X12_nextToken_371 : decode M_X12_nextToken.2.1 371 = .ok (.return_, 1) := by decide +kernel
set_option maxRecDepth 20000 in
theorem s_X12_nextToken_0 {d : Nat}  {G : Mem} {Q : Int → Mem → Prop}  (h : (InR (G 311 4)) ∧ (InR (G 311 3)) ∧ (((G 311 3) ≤ (G 311 4)) → Rn d M_X12_nextToken zN 52 [(0, (2, 311))] [] G Q) ∧ (¬ ((G 311 3) ≤ (G 311 4)) → (0 ≤ (G 311 4) ∧ (G 311 4) < 1000) ∧ ((InR (G 312 (G 311 4))) ∧ (((G 312 (G 311 4)) = 32) → Rn d M_X12_nextToken zN 39 [(0, (2, 311))] [] G Q) ∧ (¬ ((G 312 (G 311 4)) = 32) → (((G 312 (G 311 4)) ≠ 10) → Rn d M_X12_nextToken zN 52 [(0, (2, 311))] [] G Q) ∧ (¬ ((G 312 (G 311 4)) ≠ 10) → Rn d M_X12_nextToken zN 39 [(0, (2, 311))] [] G Q))))) : Rn d M_X12_nextToken zN 0 [(0, (2, 311))] [] G Q := by
  refine r_aload_n d_X12_nextToken_0 0 rfl rfl ?_
  refine r_getI 12 4 4 rfl d_X12_nextToken_1 fl_X12_181 (by decide) (bs_ob bs_12) ?_
  refine r_aload_n d_X12_nextToken_4 0 rfl rfl ?_
  refine r_getI 12 3 3 rfl d_X12_nextToken_5 fl_X12_178 (by decide) (bs_ob bs_12) ?_
  obtain ⟨h1, h⟩ := h
  obtain ⟨h2, h⟩ := h
  refine r_icmp_ge (tgt := 52) d_X12_nextToken_8 (by decide) h1 h2 (fun c3 => ?_) (fun c3 => ?_)
  · replace h := h.1 c3
    exact h
  · replace h := h.2 c3
    refine r_aload_n d_X12_nextToken_11 0 rfl rfl ?_
    refine r_getL (v := 312) 12 2 2 rfl d_X12_nextToken_12 fl_X12_7 (by decide) (bs_ob bs_12) (ly_12_2 bs_12).1 (ly_12_2 bs_12).2.1 ?_
    refine r_aload_n d_X12_nextToken_15 0 rfl rfl ?_
    refine r_getI 12 4 4 rfl d_X12_nextToken_16 fl_X12_181 (by decide) (bs_ob bs_12) ?_
    obtain ⟨h4, h⟩ := h
    refine r_iaload d_X12_nextToken_19 (ly_12_2 bs_12).2.2 h4 ?_
    refine r_bipush d_X12_nextToken_20 (by decide +kernel) ?_
    obtain ⟨h5, h⟩ := h
    refine r_icmp_eq (tgt := 39) d_X12_nextToken_22 (by decide) h5 ⟨by decide, by decide⟩ (fun c6 => ?_) (fun c6 => ?_)
    · replace h := h.1 c6
      exact h
    · replace h := h.2 c6
      refine r_aload_n d_X12_nextToken_25 0 rfl rfl ?_
      refine r_getL (v := 312) 12 2 2 rfl d_X12_nextToken_26 fl_X12_7 (by decide) (bs_ob bs_12) (ly_12_2 bs_12).1 (ly_12_2 bs_12).2.1 ?_
      refine r_aload_n d_X12_nextToken_29 0 rfl rfl ?_
      refine r_getI 12 4 4 rfl d_X12_nextToken_30 fl_X12_181 (by decide) (bs_ob bs_12) ?_
      refine r_iaload d_X12_nextToken_33 (ly_12_2 bs_12).2.2 h4 ?_
      refine r_bipush d_X12_nextToken_34 (by decide +kernel) ?_
      refine r_icmp_ne (tgt := 52) d_X12_nextToken_36 (by decide) h5 ⟨by decide, by decide⟩ (fun c7 => ?_) (fun c7 => ?_)
      · replace h := h.1 c7
        exact h
      · replace h := h.2 c7
        exact h
set_option maxRecDepth 20000 in
theorem s_X12_nextToken_52 {d : Nat}  {G : Mem} {Q : Int → Mem → Prop}  (h : (∀ G1 : Mem, G1 = st G 311 5 (G 311 4) → (∀ G2 : Mem, G2 = st G1 311 7 0 → (∀ G3 : Mem, G3 = st G2 311 8 0 → (InR (G3 311 4)) ∧ (InR (G3 311 3)) ∧ (((G3 311 4) ≠ (G3 311 3)) → (0 ≤ (G3 311 4) ∧ (G3 311 4) < 1000) ∧ ((InR (G3 312 (G3 311 4))) ∧ (((G3 312 (G3 311 4)) < 97) → Rn d M_X12_nextToken zN 212 [(0, (2, 311)), (1, (0, (G3 312 (G3 311 4))))] [] G3 Q) ∧ (¬ ((G3 312 (G3 311 4)) < 97) → ((122 < (G3 312 (G3 311 4))) → Rn d M_X12_nextToken zN 212 [(0, (2, 311)), (1, (0, (G3 312 (G3 311 4))))] [] G3 Q) ∧ (¬ (122 < (G3 312 (G3 311 4))) → Rn d M_X12_nextToken zN 109 [(0, (2, 311))] [] G3 Q)))) ∧ (¬ ((G3 311 4) ≠ (G3 311 3)) → (∀ G11 : Mem, G11 = st G3 311 6 0 → Q 0 G11)))))) : Rn d M_X12_nextToken zN 52 [(0, (2, 311))] [] G Q := by
  refine r_aload_n d_X12_nextToken_52 0 rfl rfl ?_
  refine r_aload_n d_X12_nextToken_53 0 rfl rfl ?_
  refine r_getI 12 4 4 rfl d_X12_nextToken_54 fl_X12_181 (by decide) (bs_ob bs_12) ?_
  obtain ⟨G1, eG1⟩ : ∃ y : Mem, y = st G 311 5 (G 311 4) := ⟨_, rfl⟩
  replace h := h G1 eG1
  refine r_putI 12 5 5 rfl d_X12_nextToken_57 fl_X12_184 (by decide) nofin_12_5 (bs_ob bs_12) ?_
  rw [← eG1]
  refine r_aload_n d_X12_nextToken_60 0 rfl rfl ?_
  refine r_lconst (x := 0) d_X12_nextToken_61 rfl ?_
  obtain ⟨G2, eG2⟩ : ∃ y : Mem, y = st G1 311 7 0 := ⟨_, rfl⟩
  replace h := h G2 eG2
  refine r_putJ 12 7 7 rfl d_X12_nextToken_62 fl_X12_187 (by decide) nofin_12_7 (bs_ob bs_12) ?_
  rw [← eG2]
  refine r_aload_n d_X12_nextToken_65 0 rfl rfl ?_
  refine r_iconst d_X12_nextToken_66 ?_
  obtain ⟨G3, eG3⟩ : ∃ y : Mem, y = st G2 311 8 0 := ⟨_, rfl⟩
  replace h := h G3 eG3
  refine r_putI 12 8 8 rfl d_X12_nextToken_67 fl_X12_191 (by decide) nofin_12_8 (bs_ob bs_12) ?_
  rw [← eG3]
  refine r_aload_n d_X12_nextToken_70 0 rfl rfl ?_
  refine r_getI 12 4 4 rfl d_X12_nextToken_71 fl_X12_181 (by decide) (bs_ob bs_12) ?_
  refine r_aload_n d_X12_nextToken_74 0 rfl rfl ?_
  refine r_getI 12 3 3 rfl d_X12_nextToken_75 fl_X12_178 (by decide) (bs_ob bs_12) ?_
  obtain ⟨h4, h⟩ := h
  obtain ⟨h5, h⟩ := h
  refine r_icmp_ne (tgt := 87) d_X12_nextToken_78 (by decide) h4 h5 (fun c6 => ?_) (fun c6 => ?_)
  · replace h := h.1 c6
    refine r_aload_n d_X12_nextToken_87 0 rfl rfl ?_
    refine r_getL (v := 312) 12 2 2 rfl d_X12_nextToken_88 fl_X12_7 (by decide) (bs_ob bs_12) (ly_12_2 bs_12).1 (ly_12_2 bs_12).2.1 ?_
    refine r_aload_n d_X12_nextToken_91 0 rfl rfl ?_
    refine r_getI 12 4 4 rfl d_X12_nextToken_92 fl_X12_181 (by decide) (bs_ob bs_12) ?_
    obtain ⟨h7, h⟩ := h
    refine r_iaload d_X12_nextToken_95 (ly_12_2 bs_12).2.2 h7 ?_
    refine r_istore_n (ls1 := [(1, (0, (G3 312 (G3 311 4)))), (0, (2, 311))]) d_X12_nextToken_96 rfl (by decide) rfl ?_
    refine r_iload_n d_X12_nextToken_97 0 rfl rfl ?_
    refine r_bipush d_X12_nextToken_98 (by decide +kernel) ?_
    obtain ⟨h8, h⟩ := h
    refine r_icmp_lt (tgt := 212) d_X12_nextToken_100 (by decide) h8 ⟨by decide, by decide⟩ (fun c9 => ?_) (fun c9 => ?_)
    · replace h := h.1 c9
      exact Rn.sub [1, 0] rfl h
    · replace h := h.2 c9
      refine r_iload_n d_X12_nextToken_103 0 rfl rfl ?_
      refine r_bipush d_X12_nextToken_104 (by decide +kernel) ?_
      refine r_icmp_gt (tgt := 212) d_X12_nextToken_106 (by decide) h8 ⟨by decide, by decide⟩ (fun c10 => ?_) (fun c10 => ?_)
      · replace h := h.1 c10
        exact Rn.sub [1, 0] rfl h
      · replace h := h.2 c10
        exact Rn.sub [1] rfl h
  · replace h := h.2 c6
    refine r_aload_n d_X12_nextToken_81 0 rfl rfl ?_
    refine r_iconst d_X12_nextToken_82 ?_
    obtain ⟨G11, eG11⟩ : ∃ y : Mem, y = st G3 311 6 0 := ⟨_, rfl⟩
    replace h := h G11 eG11
    refine r_putI 12 6 6 rfl d_X12_nextToken_83 fl_X12_194 (by decide) nofin_12_6 (bs_ob bs_12) ?_
    rw [← eG11]
    exact r_ret d_X12_nextToken_86 rfl ⟨rfl, Nat.le_refl _, Nat.le_refl _⟩ h
set_option maxRecDepth 20000 in
theorem s_X12_nextToken_39 {d : Nat}  {G : Mem} {Q : Int → Mem → Prop}  (h : (∀ G1 : Mem, G1 = st G 311 4 ((G 311 4) + 1) → Rn d M_X12_nextToken zN 0 [(0, (2, 311))] [] G1 Q)) : Rn d M_X12_nextToken zN 39 [(0, (2, 311))] [] G Q := by
  refine r_aload_n d_X12_nextToken_39 0 rfl rfl ?_
  refine r_dup 2 rfl (by decide) d_X12_nextToken_40 ?_
  refine r_getI 12 4 4 rfl d_X12_nextToken_41 fl_X12_181 (by decide) (bs_ob bs_12) ?_
  refine r_iconst d_X12_nextToken_44 ?_
  refine r_iadd d_X12_nextToken_45 ?_
  obtain ⟨G1, eG1⟩ : ∃ y : Mem, y = st G 311 4 ((G 311 4) + 1) := ⟨_, rfl⟩
  replace h := h G1 eG1
  refine r_putI 12 4 4 rfl d_X12_nextToken_46 fl_X12_181 (by decide) nofin_12_4 (bs_ob bs_12) ?_
  rw [← eG1]
  refine r_goto (tgt := 0) d_X12_nextToken_49 (by decide) ?_
  exact h
set_option maxRecDepth 20000 in
theorem s_X12_nextToken_212 {d : Nat} {x1 : Int} {G : Mem} {Q : Int → Mem → Prop}  (h : (InR x1) ∧ ((x1 < 48) → Rn d M_X12_nextToken zN 322 [(0, (2, 311)), (1, (0, x1))] [] G Q) ∧ (¬ (x1 < 48) → ((57 < x1) → Rn d M_X12_nextToken zN 322 [(0, (2, 311)), (1, (0, x1))] [] G Q) ∧ (¬ (57 < x1) → Rn d M_X12_nextToken zN 224 [(0, (2, 311))] [] G Q))) : Rn d M_X12_nextToken zN 212 [(0, (2, 311)), (1, (0, x1))] [] G Q := by
  refine r_iload_n d_X12_nextToken_212 1 rfl rfl ?_
  refine r_bipush d_X12_nextToken_213 (by decide +kernel) ?_
  obtain ⟨h1, h⟩ := h
  refine r_icmp_lt (tgt := 322) d_X12_nextToken_215 (by decide) h1 ⟨by decide, by decide⟩ (fun c2 => ?_) (fun c2 => ?_)
  · replace h := h.1 c2
    exact h
  · replace h := h.2 c2
    refine r_iload_n d_X12_nextToken_218 1 rfl rfl ?_
    refine r_bipush d_X12_nextToken_219 (by decide +kernel) ?_
    refine r_icmp_gt (tgt := 322) d_X12_nextToken_221 (by decide) h1 ⟨by decide, by decide⟩ (fun c3 => ?_) (fun c3 => ?_)
    · replace h := h.1 c3
      exact h
    · replace h := h.2 c3
      exact Rn.sub [0] rfl h
set_option maxRecDepth 20000 in
theorem s_X12_nextToken_109 {d : Nat}  {G : Mem} {Q : Int → Mem → Prop}  (h : Ct d M_X12_signAt NT 0 0 (some lay) [(2, 311), (0, (G 311 4))] G (fun r2 G1 => (InR r2) ∧ ((r2 < 97) → Rn (d + 1) M_X12_nextToken zN 188 [(0, (2, 311))] [] G1 Q) ∧ (¬ (r2 < 97) → Ct d M_X12_signAt NT 0 0 (some lay) [(2, 311), (0, (G1 311 4))] G1 (fun r6 G5 => (InR r6) ∧ ((122 < r6) → Rn (d + 1) M_X12_nextToken zN 188 [(0, (2, 311))] [] G5 Q) ∧ (¬ (122 < r6) → (InR ((G5 311 4) - (G5 311 5))) ∧ ((8 ≤ ((G5 311 4) - (G5 311 5))) → Rn (d + 1) M_X12_nextToken zN 175 [(0, (2, 311))] [] G5 Q) ∧ (¬ (8 ≤ ((G5 311 4) - (G5 311 5))) → Ct d M_X12_signAt NT 0 0 (some lay) [(2, 311), (0, (G5 311 4))] G5 (fun r12 G11 => (InR r12) ∧ ((∀ G14 : Mem, G14 = st G11 311 7 ((((G5 311 7) * 27) + r12) - 96) → Rn (d + 1) M_X12_nextToken zN 175 [(0, (2, 311))] [] G14 Q))))))))) : Rn (d + 1) M_X12_nextToken zN 109 [(0, (2, 311))] [] G Q := by
  refine r_aload_n d_X12_nextToken_109 0 rfl rfl ?_
  refine r_aload_n d_X12_nextToken_110 0 rfl rfl ?_
  refine r_getI 12 4 4 rfl d_X12_nextToken_111 fl_X12_181 (by decide) (bs_ob bs_12) ?_
  refine r_callV0 (M' := M_X12_signAt) (ci := 12) [(0, (G 311 4))] d_X12_nextToken_114 cl_X12_197 rfl (Nat.le_of_ble_eq_true rfl) (by decide) rfl (bs_ob bs_12) ?_
  refine Ct.mono h (fun r2 G1 h => ?_)
  show Rn _ M_X12_nextToken zN 117 [(0, (2, 311))] [(0, r2)] G1 Q
  refine r_bipush d_X12_nextToken_117 (by decide +kernel) ?_
  obtain ⟨h3, h⟩ := h
  refine r_icmp_lt (tgt := 188) d_X12_nextToken_119 (by decide) h3 ⟨by decide, by decide⟩ (fun c4 => ?_) (fun c4 => ?_)
  · replace h := h.1 c4
    exact h
  · replace h := h.2 c4
    refine r_aload_n d_X12_nextToken_122 0 rfl rfl ?_
    refine r_aload_n d_X12_nextToken_123 0 rfl rfl ?_
    refine r_getI 12 4 4 rfl d_X12_nextToken_124 fl_X12_181 (by decide) (bs_ob bs_12) ?_
    refine r_callV0 (M' := M_X12_signAt) (ci := 12) [(0, (G1 311 4))] d_X12_nextToken_127 cl_X12_197 rfl (Nat.le_of_ble_eq_true rfl) (by decide) rfl (bs_ob bs_12) ?_
    refine Ct.mono h (fun r6 G5 h => ?_)
    show Rn _ M_X12_nextToken zN 130 [(0, (2, 311))] [(0, r6)] G5 Q
    refine r_bipush d_X12_nextToken_130 (by decide +kernel) ?_
    obtain ⟨h7, h⟩ := h
    refine r_icmp_gt (tgt := 188) d_X12_nextToken_132 (by decide) h7 ⟨by decide, by decide⟩ (fun c8 => ?_) (fun c8 => ?_)
    · replace h := h.1 c8
      exact h
    · replace h := h.2 c8
      refine r_aload_n d_X12_nextToken_135 0 rfl rfl ?_
      refine r_getI 12 4 4 rfl d_X12_nextToken_136 fl_X12_181 (by decide) (bs_ob bs_12) ?_
      refine r_aload_n d_X12_nextToken_139 0 rfl rfl ?_
      refine r_getI 12 5 5 rfl d_X12_nextToken_140 fl_X12_184 (by decide) (bs_ob bs_12) ?_
      refine r_isub d_X12_nextToken_143 ?_
      refine r_bipush d_X12_nextToken_144 (by decide +kernel) ?_
      obtain ⟨h9, h⟩ := h
      refine r_icmp_ge (tgt := 175) d_X12_nextToken_146 (by decide) h9 ⟨by decide, by decide⟩ (fun c10 => ?_) (fun c10 => ?_)
      · replace h := h.1 c10
        exact h
      · replace h := h.2 c10
        refine r_aload_n d_X12_nextToken_149 0 rfl rfl ?_
        refine r_aload_n d_X12_nextToken_150 0 rfl rfl ?_
        refine r_getJ 12 7 7 rfl d_X12_nextToken_151 fl_X12_187 (by decide) (bs_ob bs_12) ?_
        refine r_ldc2 (x := 27) d_X12_nextToken_154 cst_X12_201 ?_
        refine r_lmul d_X12_nextToken_157 ?_
        refine r_aload_n d_X12_nextToken_158 0 rfl rfl ?_
        refine r_aload_n d_X12_nextToken_159 0 rfl rfl ?_
        refine r_getI 12 4 4 rfl d_X12_nextToken_160 fl_X12_181 (by decide) (bs_ob bs_12) ?_
        refine r_callV0 (M' := M_X12_signAt) (ci := 12) [(0, (G5 311 4))] d_X12_nextToken_163 cl_X12_197 rfl (Nat.le_of_ble_eq_true rfl) (by decide) rfl (bs_ob bs_12) ?_
        refine Ct.mono h (fun r12 G11 h => ?_)
        show Rn _ M_X12_nextToken zN 166 [(0, (2, 311))] [(0, r12), (1, ((G5 311 7) * 27)), (2, 311)] G11 Q
        obtain ⟨h13, h⟩ := h
        refine r_i2l d_X12_nextToken_166 h13 ?_
        refine r_ladd d_X12_nextToken_167 ?_
        refine r_ldc2 (x := 96) d_X12_nextToken_168 cst_X12_203 ?_
        refine r_lsub d_X12_nextToken_171 ?_
        obtain ⟨G14, eG14⟩ : ∃ y : Mem, y = st G11 311 7 ((((G5 311 7) * 27) + r12) - 96) := ⟨_, rfl⟩
        replace h := h G14 eG14
        refine r_putJ 12 7 7 rfl d_X12_nextToken_172 fl_X12_187 (by decide) nofin_12_7 (bs_ob bs_12) ?_
        rw [← eG14]
        exact h
set_option maxRecDepth 20000 in
theorem s_X12_nextToken_322 {d : Nat} {x1 : Int} {G : Mem} {Q : Int → Mem → Prop}  (h : (∀ G1 : Mem, G1 = st G 311 4 ((G 311 4) + 1) → (InR x1) ∧ ((x1 < 40) → Rn d M_X12_nextToken zN 345 [(1, (0, x1))] [(2, 311)] G1 Q) ∧ (¬ (x1 < 40) → ((x1 ≤ 43) → (∀ G5 : Mem, G5 = st G1 311 6 3 → Q 0 G5)) ∧ (¬ (x1 ≤ 43) → Rn d M_X12_nextToken zN 345 [(1, (0, x1))] [(2, 311)] G1 Q)))) : Rn d M_X12_nextToken zN 322 [(0, (2, 311)), (1, (0, x1))] [] G Q := by
  refine r_aload_n d_X12_nextToken_322 0 rfl rfl ?_
  refine r_dup 2 rfl (by decide) d_X12_nextToken_323 ?_
  refine r_getI 12 4 4 rfl d_X12_nextToken_324 fl_X12_181 (by decide) (bs_ob bs_12) ?_
  refine r_iconst d_X12_nextToken_327 ?_
  refine r_iadd d_X12_nextToken_328 ?_
  obtain ⟨G1, eG1⟩ : ∃ y : Mem, y = st G 311 4 ((G 311 4) + 1) := ⟨_, rfl⟩
  replace h := h G1 eG1
  refine r_putI 12 4 4 rfl d_X12_nextToken_329 fl_X12_181 (by decide) nofin_12_4 (bs_ob bs_12) ?_
  rw [← eG1]
  refine r_aload_n d_X12_nextToken_332 0 rfl rfl ?_
  refine r_iload_n d_X12_nextToken_333 1 rfl rfl ?_
  refine r_bipush d_X12_nextToken_334 (by decide +kernel) ?_
  obtain ⟨h2, h⟩ := h
  refine r_icmp_lt (tgt := 345) d_X12_nextToken_336 (by decide) h2 ⟨by decide, by decide⟩ (fun c3 => ?_) (fun c3 => ?_)
  · replace h := h.1 c3
    exact Rn.sub [1] rfl h
  · replace h := h.2 c3
    refine r_iload_n d_X12_nextToken_339 1 rfl rfl ?_
    refine r_bipush d_X12_nextToken_340 (by decide +kernel) ?_
    refine r_icmp_le (tgt := 363) d_X12_nextToken_342 (by decide) h2 ⟨by decide, by decide⟩ (fun c4 => ?_) (fun c4 => ?_)
    · replace h := h.1 c4
      refine r_iconst d_X12_nextToken_363 ?_
      refine r_goto (tgt := 368) d_X12_nextToken_364 (by decide) ?_
      obtain ⟨G5, eG5⟩ : ∃ y : Mem, y = st G1 311 6 3 := ⟨_, rfl⟩
      replace h := h G5 eG5
      refine r_putI 12 6 6 rfl d_X12_nextToken_368 fl_X12_194 (by decide) nofin_12_6 (bs_ob bs_12) ?_
      rw [← eG5]
      exact r_ret d_X12_nextToken_371 rfl ⟨rfl, Nat.le_refl _, Nat.le_refl _⟩ h
    · replace h := h.2 c4
      exact Rn.sub [1] rfl h
set_option maxRecDepth 20000 in
theorem s_X12_nextToken_224 {d : Nat}  {G : Mem} {Q : Int → Mem → Prop}  (h : Ct d M_X12_signAt NT 0 0 (some lay) [(2, 311), (0, (G 311 4))] G (fun r2 G1 => (InR r2) ∧ ((r2 < 48) → Rn (d + 1) M_X12_nextToken zN 299 [(0, (2, 311))] [] G1 Q) ∧ (¬ (r2 < 48) → Ct d M_X12_signAt NT 0 0 (some lay) [(2, 311), (0, (G1 311 4))] G1 (fun r6 G5 => (InR r6) ∧ ((57 < r6) → Rn (d + 1) M_X12_nextToken zN 299 [(0, (2, 311))] [] G5 Q) ∧ (¬ (57 < r6) → (InR ((G5 311 4) - (G5 311 5))) ∧ ((4 ≤ ((G5 311 4) - (G5 311 5))) → Rn (d + 1) M_X12_nextToken zN 286 [(0, (2, 311))] [] G5 Q) ∧ (¬ (4 ≤ ((G5 311 4) - (G5 311 5))) → Ct d M_X12_signAt NT 0 0 (some lay) [(2, 311), (0, (G5 311 4))] G5 (fun r12 G11 => (∀ G13 : Mem, G13 = st G11 311 8 ((((G5 311 8) * 10) + r12) - 48) → Rn (d + 1) M_X12_nextToken zN 286 [(0, (2, 311))] [] G13 Q)))))))) : Rn (d + 1) M_X12_nextToken zN 224 [(0, (2, 311))] [] G Q := by
  refine r_aload_n d_X12_nextToken_224 0 rfl rfl ?_
  refine r_aload_n d_X12_nextToken_225 0 rfl rfl ?_
  refine r_getI 12 4 4 rfl d_X12_nextToken_226 fl_X12_181 (by decide) (bs_ob bs_12) ?_
  refine r_callV0 (M' := M_X12_signAt) (ci := 12) [(0, (G 311 4))] d_X12_nextToken_229 cl_X12_197 rfl (Nat.le_of_ble_eq_true rfl) (by decide) rfl (bs_ob bs_12) ?_
  refine Ct.mono h (fun r2 G1 h => ?_)
  show Rn _ M_X12_nextToken zN 232 [(0, (2, 311))] [(0, r2)] G1 Q
  refine r_bipush d_X12_nextToken_232 (by decide +kernel) ?_
  obtain ⟨h3, h⟩ := h
  refine r_icmp_lt (tgt := 299) d_X12_nextToken_234 (by decide) h3 ⟨by decide, by decide⟩ (fun c4 => ?_) (fun c4 => ?_)
  · replace h := h.1 c4
    exact h
  · replace h := h.2 c4
    refine r_aload_n d_X12_nextToken_237 0 rfl rfl ?_
    refine r_aload_n d_X12_nextToken_238 0 rfl rfl ?_
    refine r_getI 12 4 4 rfl d_X12_nextToken_239 fl_X12_181 (by decide) (bs_ob bs_12) ?_
    refine r_callV0 (M' := M_X12_signAt) (ci := 12) [(0, (G1 311 4))] d_X12_nextToken_242 cl_X12_197 rfl (Nat.le_of_ble_eq_true rfl) (by decide) rfl (bs_ob bs_12) ?_
    refine Ct.mono h (fun r6 G5 h => ?_)
    show Rn _ M_X12_nextToken zN 245 [(0, (2, 311))] [(0, r6)] G5 Q
    refine r_bipush d_X12_nextToken_245 (by decide +kernel) ?_
    obtain ⟨h7, h⟩ := h
    refine r_icmp_gt (tgt := 299) d_X12_nextToken_247 (by decide) h7 ⟨by decide, by decide⟩ (fun c8 => ?_) (fun c8 => ?_)
    · replace h := h.1 c8
      exact h
    · replace h := h.2 c8
      refine r_aload_n d_X12_nextToken_250 0 rfl rfl ?_
      refine r_getI 12 4 4 rfl d_X12_nextToken_251 fl_X12_181 (by decide) (bs_ob bs_12) ?_
      refine r_aload_n d_X12_nextToken_254 0 rfl rfl ?_
      refine r_getI 12 5 5 rfl d_X12_nextToken_255 fl_X12_184 (by decide) (bs_ob bs_12) ?_
      refine r_isub d_X12_nextToken_258 ?_
      refine r_iconst d_X12_nextToken_259 ?_
      obtain ⟨h9, h⟩ := h
      refine r_icmp_ge (tgt := 286) d_X12_nextToken_260 (by decide) h9 ⟨by decide, by decide⟩ (fun c10 => ?_) (fun c10 => ?_)
      · replace h := h.1 c10
        exact h
      · replace h := h.2 c10
        refine r_aload_n d_X12_nextToken_263 0 rfl rfl ?_
        refine r_aload_n d_X12_nextToken_264 0 rfl rfl ?_
        refine r_getI 12 8 8 rfl d_X12_nextToken_265 fl_X12_191 (by decide) (bs_ob bs_12) ?_
        refine r_bipush d_X12_nextToken_268 (by decide +kernel) ?_
        refine r_imul d_X12_nextToken_270 ?_
        refine r_aload_n d_X12_nextToken_271 0 rfl rfl ?_
        refine r_aload_n d_X12_nextToken_272 0 rfl rfl ?_
        refine r_getI 12 4 4 rfl d_X12_nextToken_273 fl_X12_181 (by decide) (bs_ob bs_12) ?_
        refine r_callV0 (M' := M_X12_signAt) (ci := 12) [(0, (G5 311 4))] d_X12_nextToken_276 cl_X12_197 rfl (Nat.le_of_ble_eq_true rfl) (by decide) rfl (bs_ob bs_12) ?_
        refine Ct.mono h (fun r12 G11 h => ?_)
        show Rn _ M_X12_nextToken zN 279 [(0, (2, 311))] [(0, r12), (0, ((G5 311 8) * 10)), (2, 311)] G11 Q
        refine r_iadd d_X12_nextToken_279 ?_
        refine r_bipush d_X12_nextToken_280 (by decide +kernel) ?_
        refine r_isub d_X12_nextToken_282 ?_
        obtain ⟨G13, eG13⟩ : ∃ y : Mem, y = st G11 311 8 ((((G5 311 8) * 10) + r12) - 48) := ⟨_, rfl⟩
        replace h := h G13 eG13
        refine r_putI 12 8 8 rfl d_X12_nextToken_283 fl_X12_191 (by decide) nofin_12_8 (bs_ob bs_12) ?_
        rw [← eG13]
        exact h
set_option maxRecDepth 20000 in
theorem s_X12_nextToken_188 {d : Nat}  {G : Mem} {Q : Int → Mem → Prop}  (h : (InR ((G 311 4) - (G 311 5))) ∧ ((((G 311 4) - (G 311 5)) ≤ 8) → (∀ G3 : Mem, G3 = st G 311 6 1 → Q 0 G3)) ∧ (¬ (((G 311 4) - (G 311 5)) ≤ 8) → (∀ G4 : Mem, G4 = st G 311 6 4 → Q 0 G4))) : Rn d M_X12_nextToken zN 188 [(0, (2, 311))] [] G Q := by
  refine r_aload_n d_X12_nextToken_188 0 rfl rfl ?_
  refine r_aload_n d_X12_nextToken_189 0 rfl rfl ?_
  refine r_getI 12 4 4 rfl d_X12_nextToken_190 fl_X12_181 (by decide) (bs_ob bs_12) ?_
  refine r_aload_n d_X12_nextToken_193 0 rfl rfl ?_
  refine r_getI 12 5 5 rfl d_X12_nextToken_194 fl_X12_184 (by decide) (bs_ob bs_12) ?_
  refine r_isub d_X12_nextToken_197 ?_
  refine r_bipush d_X12_nextToken_198 (by decide +kernel) ?_
  obtain ⟨h1, h⟩ := h
  refine r_icmp_le (tgt := 207) d_X12_nextToken_200 (by decide) h1 ⟨by decide, by decide⟩ (fun c2 => ?_) (fun c2 => ?_)
  · replace h := h.1 c2
    refine r_iconst d_X12_nextToken_207 ?_
    obtain ⟨G3, eG3⟩ : ∃ y : Mem, y = st G 311 6 1 := ⟨_, rfl⟩
    replace h := h G3 eG3
    refine r_putI 12 6 6 rfl d_X12_nextToken_208 fl_X12_194 (by decide) nofin_12_6 (bs_ob bs_12) ?_
    rw [← eG3]
    exact r_ret d_X12_nextToken_211 rfl ⟨rfl, Nat.le_refl _, Nat.le_refl _⟩ h
  · replace h := h.2 c2
    refine r_iconst d_X12_nextToken_203 ?_
    refine r_goto (tgt := 208) d_X12_nextToken_204 (by decide) ?_
    obtain ⟨G4, eG4⟩ : ∃ y : Mem, y = st G 311 6 4 := ⟨_, rfl⟩
    replace h := h G4 eG4
    refine r_putI 12 6 6 rfl d_X12_nextToken_208 fl_X12_194 (by decide) nofin_12_6 (bs_ob bs_12) ?_
    rw [← eG4]
    exact r_ret d_X12_nextToken_211 rfl ⟨rfl, Nat.le_refl _, Nat.le_refl _⟩ h
set_option maxRecDepth 20000 in
theorem s_X12_nextToken_175 {d : Nat}  {G : Mem} {Q : Int → Mem → Prop}  (h : (∀ G1 : Mem, G1 = st G 311 4 ((G 311 4) + 1) → Rn d M_X12_nextToken zN 109 [(0, (2, 311))] [] G1 Q)) : Rn d M_X12_nextToken zN 175 [(0, (2, 311))] [] G Q := by
  refine r_aload_n d_X12_nextToken_175 0 rfl rfl ?_
  refine r_dup 2 rfl (by decide) d_X12_nextToken_176 ?_
  refine r_getI 12 4 4 rfl d_X12_nextToken_177 fl_X12_181 (by decide) (bs_ob bs_12) ?_
  refine r_iconst d_X12_nextToken_180 ?_
  refine r_iadd d_X12_nextToken_181 ?_
  obtain ⟨G1, eG1⟩ : ∃ y : Mem, y = st G 311 4 ((G 311 4) + 1) := ⟨_, rfl⟩
  replace h := h G1 eG1
  refine r_putI 12 4 4 rfl d_X12_nextToken_182 fl_X12_181 (by decide) nofin_12_4 (bs_ob bs_12) ?_
  rw [← eG1]
  refine r_goto (tgt := 109) d_X12_nextToken_185 (by decide) ?_
  exact h
set_option maxRecDepth 20000 in
theorem s_X12_nextToken_345 {d : Nat} {x1 : Int} {G : Mem} {Q : Int → Mem → Prop}  (h : (InR x1) ∧ ((x1 = 45) → (∀ G3 : Mem, G3 = st G 311 6 3 → Q 0 G3)) ∧ (¬ (x1 = 45) → ((x1 < 59) → (∀ G5 : Mem, G5 = st G 311 6 4 → Q 0 G5)) ∧ (¬ (x1 < 59) → ((61 < x1) → (∀ G7 : Mem, G7 = st G 311 6 4 → Q 0 G7)) ∧ (¬ (61 < x1) → (∀ G8 : Mem, G8 = st G 311 6 3 → Q 0 G8))))) : Rn d M_X12_nextToken zN 345 [(1, (0, x1))] [(2, 311)] G Q := by
  refine r_iload_n d_X12_nextToken_345 0 rfl rfl ?_
  refine r_bipush d_X12_nextToken_346 (by decide +kernel) ?_
  obtain ⟨h1, h⟩ := h
  refine r_icmp_eq (tgt := 363) d_X12_nextToken_348 (by decide) h1 ⟨by decide, by decide⟩ (fun c2 => ?_) (fun c2 => ?_)
  · replace h := h.1 c2
    refine r_iconst d_X12_nextToken_363 ?_
    refine r_goto (tgt := 368) d_X12_nextToken_364 (by decide) ?_
    obtain ⟨G3, eG3⟩ : ∃ y : Mem, y = st G 311 6 3 := ⟨_, rfl⟩
    replace h := h G3 eG3
    refine r_putI 12 6 6 rfl d_X12_nextToken_368 fl_X12_194 (by decide) nofin_12_6 (bs_ob bs_12) ?_
    rw [← eG3]
    exact r_ret d_X12_nextToken_371 rfl ⟨rfl, Nat.le_refl _, Nat.le_refl _⟩ h
  · replace h := h.2 c2
    refine r_iload_n d_X12_nextToken_351 0 rfl rfl ?_
    refine r_bipush d_X12_nextToken_352 (by decide +kernel) ?_
    refine r_icmp_lt (tgt := 367) d_X12_nextToken_354 (by decide) h1 ⟨by decide, by decide⟩ (fun c4 => ?_) (fun c4 => ?_)
    · replace h := h.1 c4
      refine r_iconst d_X12_nextToken_367 ?_
      obtain ⟨G5, eG5⟩ : ∃ y : Mem, y = st G 311 6 4 := ⟨_, rfl⟩
      replace h := h G5 eG5
      refine r_putI 12 6 6 rfl d_X12_nextToken_368 fl_X12_194 (by decide) nofin_12_6 (bs_ob bs_12) ?_
      rw [← eG5]
      exact r_ret d_X12_nextToken_371 rfl ⟨rfl, Nat.le_refl _, Nat.le_refl _⟩ h
    · replace h := h.2 c4
      refine r_iload_n d_X12_nextToken_357 0 rfl rfl ?_
      refine r_bipush d_X12_nextToken_358 (by decide +kernel) ?_
      refine r_icmp_gt (tgt := 367) d_X12_nextToken_360 (by decide) h1 ⟨by decide, by decide⟩ (fun c6 => ?_) (fun c6 => ?_)
      · replace h := h.1 c6
        refine r_iconst d_X12_nextToken_367 ?_
        obtain ⟨G7, eG7⟩ : ∃ y : Mem, y = st G 311 6 4 := ⟨_, rfl⟩
        replace h := h G7 eG7
        refine r_putI 12 6 6 rfl d_X12_nextToken_368 fl_X12_194 (by decide) nofin_12_6 (bs_ob bs_12) ?_
        rw [← eG7]
        exact r_ret d_X12_nextToken_371 rfl ⟨rfl, Nat.le_refl _, Nat.le_refl _⟩ h
      · replace h := h.2 c6
        refine r_iconst d_X12_nextToken_363 ?_
        refine r_goto (tgt := 368) d_X12_nextToken_364 (by decide) ?_
        obtain ⟨G8, eG8⟩ : ∃ y : Mem, y = st G 311 6 3 := ⟨_, rfl⟩
        replace h := h G8 eG8
        refine r_putI 12 6 6 rfl d_X12_nextToken_368 fl_X12_194 (by decide) nofin_12_6 (bs_ob bs_12) ?_
        rw [← eG8]
        exact r_ret d_X12_nextToken_371 rfl ⟨rfl, Nat.le_refl _, Nat.le_refl _⟩ h
set_option maxRecDepth 20000 in
theorem s_X12_nextToken_299 {d : Nat}  {G : Mem} {Q : Int → Mem → Prop}  (h : (InR ((G 311 4) - (G 311 5))) ∧ ((((G 311 4) - (G 311 5)) ≤ 4) → (∀ G3 : Mem, G3 = st G 311 6 2 → Q 0 G3)) ∧ (¬ (((G 311 4) - (G 311 5)) ≤ 4) → (∀ G4 : Mem, G4 = st G 311 6 4 → Q 0 G4))) : Rn d M_X12_nextToken zN 299 [(0, (2, 311))] [] G Q := by
  refine r_aload_n d_X12_nextToken_299 0 rfl rfl ?_
  refine r_aload_n d_X12_nextToken_300 0 rfl rfl ?_
  refine r_getI 12 4 4 rfl d_X12_nextToken_301 fl_X12_181 (by decide) (bs_ob bs_12) ?_
  refine r_aload_n d_X12_nextToken_304 0 rfl rfl ?_
  refine r_getI 12 5 5 rfl d_X12_nextToken_305 fl_X12_184 (by decide) (bs_ob bs_12) ?_
  refine r_isub d_X12_nextToken_308 ?_
  refine r_iconst d_X12_nextToken_309 ?_
  obtain ⟨h1, h⟩ := h
  refine r_icmp_le (tgt := 317) d_X12_nextToken_310 (by decide) h1 ⟨by decide, by decide⟩ (fun c2 => ?_) (fun c2 => ?_)
  · replace h := h.1 c2
    refine r_iconst d_X12_nextToken_317 ?_
    obtain ⟨G3, eG3⟩ : ∃ y : Mem, y = st G 311 6 2 := ⟨_, rfl⟩
    replace h := h G3 eG3
    refine r_putI 12 6 6 rfl d_X12_nextToken_318 fl_X12_194 (by decide) nofin_12_6 (bs_ob bs_12) ?_
    rw [← eG3]
    exact r_ret d_X12_nextToken_321 rfl ⟨rfl, Nat.le_refl _, Nat.le_refl _⟩ h
  · replace h := h.2 c2
    refine r_iconst d_X12_nextToken_313 ?_
    refine r_goto (tgt := 318) d_X12_nextToken_314 (by decide) ?_
    obtain ⟨G4, eG4⟩ : ∃ y : Mem, y = st G 311 6 4 := ⟨_, rfl⟩
    replace h := h G4 eG4
    refine r_putI 12 6 6 rfl d_X12_nextToken_318 fl_X12_194 (by decide) nofin_12_6 (bs_ob bs_12) ?_
    rw [← eG4]
    exact r_ret d_X12_nextToken_321 rfl ⟨rfl, Nat.le_refl _, Nat.le_refl _⟩ h
set_option maxRecDepth 20000 in
theorem s_X12_nextToken_286 {d : Nat}  {G : Mem} {Q : Int → Mem → Prop}  (h : (∀ G1 : Mem, G1 = st G 311 4 ((G 311 4) + 1) → Rn d M_X12_nextToken zN 224 [(0, (2, 311))] [] G1 Q)) : Rn d M_X12_nextToken zN 286 [(0, (2, 311))] [] G Q := by
  refine r_aload_n d_X12_nextToken_286 0 rfl rfl ?_
  refine r_dup 2 rfl (by decide) d_X12_nextToken_287 ?_
  refine r_getI 12 4 4 rfl d_X12_nextToken_288 fl_X12_181 (by decide) (bs_ob bs_12) ?_
  refine r_iconst d_X12_nextToken_291 ?_
  refine r_iadd d_X12_nextToken_292 ?_
  obtain ⟨G1, eG1⟩ : ∃ y : Mem, y = st G 311 4 ((G 311 4) + 1) := ⟨_, rfl⟩
  replace h := h G1 eG1
  refine r_putI 12 4 4 rfl d_X12_nextToken_293 fl_X12_181 (by decide) nofin_12_4 (bs_ob bs_12) ?_
  rw [← eG1]
  refine r_goto (tgt := 224) d_X12_nextToken_296 (by decide) ?_
  exact h
theorem d_X12_isWord_0 : decode M_X12_isWord.2.1 0 = .ok (.aload_n 0, 1) := by decide +kernel
theorem d_X12_isWord_1 : decode M_X12_isWord.2.1 1 = .ok (.getfield 194, 3) := by decide +kernel
theorem d_X12_isWord_4 : decode M_X12_isWord.2.1 4 = .ok (.iconst 1, 1) := by decide +kernel
theorem d_X12_isWord_5 : decode M_X12_isWord.2.1 5 = .ok (.if_icmp .ne 16, 3) := by decide +kernel
theorem d_X12_isWord_8 : decode M_X12_isWord.2.1 8 = .ok (.aload_n 0, 1) := by decide +kernel
theorem d_X12_isWord_9 : decode M_X12_isWord.2.1 9 = .ok (.getfield 187, 3) := by decide +kernel
theorem d_X12_isWord_12 : decode M_X12_isWord.2.1 12 = .ok (.lload_n 1, 1) := by decide +kernel
theorem d_X12_isWord_13 : decode M_X12_isWord.2.1 13 = .ok (.lcmp, 1) := by decide +kernel
theorem d_X12_isWord_14 : decode M_X12_isWord.2.1 14 = .ok (.ifCond .ne 7, 3) := by decide +kernel
theorem d_X12_isWord_17 : decode M_X12_isWord.2.1 17 = .ok (.iconst 1, 1) := by decide +kernel
theorem d_X12_isWord_18 : decode M_X12_isWord.2.1 18 = .ok (.goto 4, 3) := by decide +kernel
theorem d_X12_isWord_21 : decode M_X12_isWord.2.1 21 = .ok (.iconst 0, 1) := by decide +kernel
theorem d_X12_isWord_22 : decode M_X12_isWord.2.1 22 = .ok (.ireturn, 1) := by decide +kernel
set_option maxRecDepth 20000 in
theorem s_X12_isWord_0 {d : Nat} {p0 : Int} {G : Mem} {Q : Int → Mem → Prop}  (h : (InR (G 311 6)) ∧ (((G 311 6) ≠ 1) → Q 0 G) ∧ (¬ ((G 311 6) ≠ 1) → (InL (G 311 7)) ∧ (InL p0) ∧ (((G 311 7) ≠ p0) → Q 0 G) ∧ (¬ ((G 311 7) ≠ p0) → Q 1 G))) : Rn d M_X12_isWord zN 0 [(0, (2, 311)), (1, (1, p0))] [] G Q := by
  refine r_aload_n d_X12_isWord_0 0 rfl rfl ?_
  refine r_getI 12 6 6 rfl d_X12_isWord_1 fl_X12_194 (by decide) (bs_ob bs_12) ?_
  refine r_iconst d_X12_isWord_4 ?_
  obtain ⟨h1, h⟩ := h
  refine r_icmp_ne (tgt := 21) d_X12_isWord_5 (by decide) h1 ⟨by decide, by decide⟩ (fun c2 => ?_) (fun c2 => ?_)
  · replace h := h.1 c2
    refine r_iconst d_X12_isWord_21 ?_
    exact r_zreturn d_X12_isWord_22 rfl ⟨rfl, Nat.le_refl _, Nat.le_refl _⟩ (by decide) h
  · replace h := h.2 c2
    refine r_aload_n d_X12_isWord_8 0 rfl rfl ?_
    refine r_getJ 12 7 7 rfl d_X12_isWord_9 fl_X12_187 (by decide) (bs_ob bs_12) ?_
    refine r_lload_n d_X12_isWord_12 1 rfl rfl ?_
    obtain ⟨h3, h⟩ := h
    obtain ⟨h4, h⟩ := h
    refine r_lcmp_ne (tgt := 21) d_X12_isWord_13 d_X12_isWord_14 (by decide) h3 h4 (fun c5 => ?_) (fun c5 => ?_)
    · replace h := h.1 c5
      refine r_iconst d_X12_isWord_21 ?_
      exact r_zreturn d_X12_isWord_22 rfl ⟨rfl, Nat.le_refl _, Nat.le_refl _⟩ (by decide) h
    · replace h := h.2 c5
      refine r_iconst d_X12_isWord_17 ?_
      refine r_goto (tgt := 22) d_X12_isWord_18 (by decide) ?_
      exact r_zreturn d_X12_isWord_22 rfl ⟨rfl, Nat.le_refl _, Nat.le_refl _⟩ (by decide) h
theorem d_X12_isSign_0 : decode M_X12_isSign.2.1 0 = .ok (.aload_n 0, 1) := by decide +kernel
theorem d_X12_isSign_1 : decode M_X12_isSign.2.1 1 = .ok (.getfield 194, 3) := by decide +kernel
theorem d_X12_isSign_4 : decode M_X12_isSign.2.1 4 = .ok (.iconst 3, 1) := by decide +kernel
theorem d_X12_isSign_5 : decode M_X12_isSign.2.1 5 = .ok (.if_icmp .ne 20, 3) := by decide +kernel
theorem d_X12_isSign_8 : decode M_X12_isSign.2.1 8 = .ok (.aload_n 0, 1) := by decide +kernel
theorem d_X12_isSign_9 : decode M_X12_isSign.2.1 9 = .ok (.getfield 7, 3) := by decide +kernel
theorem d_X12_isSign_12 : decode M_X12_isSign.2.1 12 = .ok (.aload_n 0, 1) := by decide +kernel
theorem d_X12_isSign_13 : decode M_X12_isSign.2.1 13 = .ok (.getfield 184, 3) := by decide +kernel
theorem d_X12_isSign_16 : decode M_X12_isSign.2.1 16 = .ok (.iaload, 1) := by decide +kernel
theorem d_X12_isSign_17 : decode M_X12_isSign.2.1 17 = .ok (.iload_n 1, 1) := by decide +kernel
theorem d_X12_isSign_18 : decode M_X12_isSign.2.1 18 = .ok (.if_icmp .ne 7, 3) := by decide +kernel
theorem d_X12_isSign_21 : decode M_X12_isSign.2.1 21 = .ok (.iconst 1, 1) := by decide +kernel
theorem d_X12_isSign_22 : decode M_X12_isSign.2.1 22 = .ok (.goto 4, 3) := by decide +kernel
theorem d_X12_isSign_25 : decode M_X12_isSign.2.1 25 = .ok (.iconst 0, 1) := by decide +kernel
theorem d_X12_isSign_26 : decode M_X12_isSign.2.1 26 = .ok (.ireturn, 1) := by decide +kernel
set_option maxRecDepth 20000 in
theorem s_X12_isSign_0 {d : Nat} {p0 : Int} {G : Mem} {Q : Int → Mem → Prop}  (h : (InR (G 311 6)) ∧ (((G 311 6) ≠ 3) → Q 0 G) ∧ (¬ ((G 311 6) ≠ 3) → (0 ≤ (G 311 5) ∧ (G 311 5) < 1000) ∧ ((InR (G 312 (G 311 5))) ∧ (InR p0) ∧ (((G 312 (G 311 5)) ≠ p0) → Q 0 G) ∧ (¬ ((G 312 (G 311 5)) ≠ p0) → Q 1 G)))) : Rn d M_X12_isSign zN 0 [(0, (2, 311)), (1, (0, p0))] [] G Q := by
  refine r_aload_n d_X12_isSign_0 0 rfl rfl ?_
  refine r_getI 12 6 6 rfl d_X12_isSign_1 fl_X12_194 (by decide) (bs_ob bs_12) ?_
  refine r_iconst d_X12_isSign_4 ?_
  obtain ⟨h1, h⟩ := h
  refine r_icmp_ne (tgt := 25) d_X12_isSign_5 (by decide) h1 ⟨by decide, by decide⟩ (fun c2 => ?_) (fun c2 => ?_)
  · replace h := h.1 c2
    refine r_iconst d_X12_isSign_25 ?_
    exact r_zreturn d_X12_isSign_26 rfl ⟨rfl, Nat.le_refl _, Nat.le_refl _⟩ (by decide) h
  · replace h := h.2 c2
    refine r_aload_n d_X12_isSign_8 0 rfl rfl ?_
    refine r_getL (v := 312) 12 2 2 rfl d_X12_isSign_9 fl_X12_7 (by decide) (bs_ob bs_12) (ly_12_2 bs_12).1 (ly_12_2 bs_12).2.1 ?_
    refine r_aload_n d_X12_isSign_12 0 rfl rfl ?_
    refine r_getI 12 5 5 rfl d_X12_isSign_13 fl_X12_184 (by decide) (bs_ob bs_12) ?_
    obtain ⟨h3, h⟩ := h
    refine r_iaload d_X12_isSign_16 (ly_12_2 bs_12).2.2 h3 ?_
    refine r_iload_n d_X12_isSign_17 1 rfl rfl ?_
    obtain ⟨h4, h⟩ := h
    obtain ⟨h5, h⟩ := h
    refine r_icmp_ne (tgt := 25) d_X12_isSign_18 (by decide) h4 h5 (fun c6 => ?_) (fun c6 => ?_)
    · replace h := h.1 c6
      refine r_iconst d_X12_isSign_25 ?_
      exact r_zreturn d_X12_isSign_26 rfl ⟨rfl, Nat.le_refl _, Nat.le_refl _⟩ (by decide) h
    · replace h := h.2 c6
      refine r_iconst d_X12_isSign_21 ?_
      refine r_goto (tgt := 26) d_X12_isSign_22 (by decide) ?_
      exact r_zreturn d_X12_isSign_26 rfl ⟨rfl, Nat.le_refl _, Nat.le_refl _⟩ (by decide) h
theorem d_X12_fails_0 : decode M_X12_fails.2.1 0 = .ok (.aload_n 0, 1) := by decide +kernel
theorem d_X12_fails_1 : decode M_X12_fails.2.1 1 = .ok (.iload_n 1, 1) := by decide +kernel
theorem d_X12_fails_2 : decode M_X12_fails.2.1 2 = .ok (.bipush 16, 2) := by decide +kernel
theorem d_X12_fails_4 : decode M_X12_fails.2.1 4 = .ok (.aload_n 0, 1) := by decide +kernel
theorem d_X12_fails_5 : decode M_X12_fails.2.1 5 = .ok (.getfield 184, 3) := by decide +kernel
theorem d_X12_fails_8 : decode M_X12_fails.2.1 8 = .ok (.imul, 1) := by decide +kernel
theorem d_X12_fails_9 : decode M_X12_fails.2.1 9 = .ok (.iadd, 1) := by decide +kernel
theorem d_X12_fails_10 : decode M_X12_fails.2.1 10 = .ok (.putfield 205, 3) := by decide +kernel
theorem d_X12_fails_13 : decode M_X12_fails.2.1 13 = .ok (.iconst 0, 1) := by decide +kernel
theorem d_X12_fails_14 : decode M_X12_fails.2.1 14 = .ok (.ireturn, 1) := by decide +kernel
set_option maxRecDepth 20000 in
theorem s_X12_fails_0 {d : Nat} {p0 : Int} {G : Mem} {Q : Int → Mem → Prop}  (h : (∀ G1 : Mem, G1 = st G 311 9 (p0 + (16 * (G 311 5))) → Q 0 G1)) : Rn d M_X12_fails zN 0 [(0, (2, 311)), (1, (0, p0))] [] G Q := by
  refine r_aload_n d_X12_fails_0 0 rfl rfl ?_
  refine r_iload_n d_X12_fails_1 1 rfl rfl ?_
  refine r_bipush d_X12_fails_2 (by decide +kernel) ?_
  refine r_aload_n d_X12_fails_4 0 rfl rfl ?_
  refine r_getI 12 5 5 rfl d_X12_fails_5 fl_X12_184 (by decide) (bs_ob bs_12) ?_
  refine r_imul d_X12_fails_8 ?_
  refine r_iadd d_X12_fails_9 ?_
  obtain ⟨G1, eG1⟩ : ∃ y : Mem, y = st G 311 9 (p0 + (16 * (G 311 5))) := ⟨_, rfl⟩
  replace h := h G1 eG1
  refine r_putI 12 9 9 rfl d_X12_fails_10 fl_X12_205 (by decide) nofin_12_9 (bs_ob bs_12) ?_
  rw [← eG1]
  refine r_iconst d_X12_fails_13 ?_
  exact r_zreturn d_X12_fails_14 rfl ⟨rfl, Nat.le_refl _, Nat.le_refl _⟩ (by decide) h
theorem d_X12_plain_0 : decode M_X12_plain.2.1 0 = .ok (.iconst 0, 1) := by decide +kernel
theorem d_X12_plain_1 : decode M_X12_plain.2.1 1 = .ok (.istore_n 2, 1) := by decide +kernel
theorem d_X12_plain_2 : decode M_X12_plain.2.1 2 = .ok (.iload_n 2, 1) := by decide +kernel
theorem d_X12_plain_3 : decode M_X12_plain.2.1 3 = .ok (.bipush 12, 2) := by decide +kernel
theorem d_X12_plain_5 : decode M_X12_plain.2.1 5 = .ok (.if_icmp .ge 21, 3) := by decide +kernel
theorem d_X12_plain_8 : decode M_X12_plain.2.1 8 = .ok (.aload_n 0, 1) := by decide +kernel
theorem d_X12_plain_9 : decode M_X12_plain.2.1 9 = .ok (.getfield 13, 3) := by decide +kernel
theorem d_X12_plain_12 : decode M_X12_plain.2.1 12 = .ok (.bipush 12, 2) := by decide +kernel
theorem d_X12_plain_14 : decode M_X12_plain.2.1 14 = .ok (.iload_n 1, 1) := by decide +kernel
theorem d_X12_plain_15 : decode M_X12_plain.2.1 15 = .ok (.imul, 1) := by decide +kernel
theorem d_X12_plain_16 : decode M_X12_plain.2.1 16 = .ok (.iload_n 2, 1) := by decide +kernel
theorem d_X12_plain_17 : decode M_X12_plain.2.1 17 = .ok (.iadd, 1) := by decide +kernel
theorem d_X12_plain_18 : decode M_X12_plain.2.1 18 = .ok (.iconst 0, 1) := by decide +kernel
theorem d_X12_plain_19 : decode M_X12_plain.2.1 19 = .ok (.iastore, 1) := by decide +kernel
theorem d_X12_plain_20 : decode M_X12_plain.2.1 20 = .ok (.iinc 2 1, 3) := by decide +kernel
theorem d_X12_plain_23 : decode M_X12_plain.2.1 23 = .ok (.goto (-21), 3) := by decide +kernel
theorem d_X12_plain_26 : decode M_X12_plain.2.1 26 = .ok (.aload_n 0, 1) := by decide +kernel
theorem d_X12_plain_27 : decode M_X12_plain.2.1 27 = .ok (.getfield 13, 3) := by decide +kernel
theorem d_X12_plain_30 : decode M_X12_plain.2.1 30 = .ok (.bipush 12, 2) := by decide +kernel
theorem d_X12_plain_32 : decode M_X12_plain.2.1 32 = .ok (.iload_n 1, 1) := by decide +kernel
theorem d_X12_plain_33 : decode M_X12_plain.2.1 33 = .ok (.imul, 1) := by decide +kernel
theorem d_X12_plain_34 : decode M_X12_plain.2.1 34 = .ok (.iconst 0, 1) := by decide +kernel
theorem d_X12_plain_35 : decode M_X12_plain.2.1 35 = .ok (.iadd, 1) := by decide +kernel
theorem d_X12_plain_36 : decode M_X12_plain.2.1 36 = .ok (.iconst 2, 1) := by decide +kernel
theorem d_X12_plain_37 : decode M_X12_plain.2.1 37 = .ok (.iastore, 1) := by decide +kernel
theorem d_X12_plain_38 : decode M_X12_plain.2.1 38 = .ok (.aload_n 0, 1) := by decide +kernel
theorem d_X12_plain_39 : decode M_X12_plain.2.1 39 = .ok (.getfield 13, 3) := by decide +kernel
theorem d_X12_plain_42 : decode M_X12_plain.2.1 42 = .ok (.bipush 12, 2) := by decide +kernel
theorem d_X12_plain_44 : decode M_X12_plain.2.1 44 = .ok (.iload_n 1, 1) := by decide +kernel
theorem d_X12_plain_45 : decode M_X12_plain.2.1 45 = .ok (.imul, 1) := by decide +kernel
theorem d_X12_plain_46 : decode M_X12_plain.2.1 46 = .ok (.iconst 1, 1) := by decide +kernel
theorem d_X12_plain_47 : decode M_X12_plain.2.1 47 = .ok (.iadd, 1) := by decide +kernel
theorem d_X12_plain_48 : decode M_X12_plain.2.1 48 = .ok (.iconst 1, 1) := by decide +kernel
theorem d_X12_plain_49 : decode M_X12_plain.2.1 49 = .ok (.iastore, 1) := by decide +kernel
theorem d_X12_plain_50 : decode M_X12_plain.2.1 50 = .ok (.aload_n 0, 1) := by decide +kernel
theorem d_X12_plain_51 : decode M_X12_plain.2.1 51 = .ok (.getfield 13, 3) := by decide +kernel
theorem d_X12_plain_54 : decode M_X12_plain.2.1 54 = .ok (.bipush 12, 2) := by decide +kernel
theorem d_X12_plain_56 : decode M_X12_plain.2.1 56 = .ok (.iload_n 1, 1) := by decide +kernel
theorem d_X12_plain_57 : decode M_X12_plain.2.1 57 = .ok (.imul, 1) := by decide +kernel
theorem d_X12_plain_58 : decode M_X12_plain.2.1 58 = .ok (.iconst 2, 1) := by decide +kernel
theorem d_X12_plain_59 : decode M_X12_plain.2.1 59 = .ok (.iadd, 1) := by decide +kernel
theorem d_X12_plain_60 : decode M_X12_plain.2.1 60 = .ok (.bipush 11, 2) := by decide +kernel
theorem d_X12_plain_62 : decode M_X12_plain.2.1 62 = .ok (.iastore, 1) := by decide +kernel
theorem d_X12_plain_63 : decode M_X12_plain.2.1 63 = .ok (.iconst 0, 1) := by decide +kernel
theorem d_X12_plain_64 : decode M_X12_plain.2.1 64 = .ok (.istore_n 2, 1) := by decide +kernel
theorem d_X12_plain_65 : decode M_X12_plain.2.1 65 = .ok (.iload_n 2, 1) := by decide +kernel
theorem d_X12_plain_66 : decode M_X12_plain.2.1 66 = .ok (.iconst 4, 1) := by decide +kernel
theorem d_X12_plain_67 : decode M_X12_plain.2.1 67 = .ok (.if_icmp .ge 23, 3) := by decide +kernel
theorem d_X12_plain_70 : decode M_X12_plain.2.1 70 = .ok (.aload_n 0, 1) := by decide +kernel
theorem d_X12_plain_71 : decode M_X12_plain.2.1 71 = .ok (.getfield 13, 3) := by decide +kernel
theorem d_X12_plain_74 : decode M_X12_plain.2.1 74 = .ok (.bipush 12, 2) := by decide +kernel
theorem d_X12_plain_76 : decode M_X12_plain.2.1 76 = .ok (.iload_n 1, 1) := by decide +kernel
theorem d_X12_plain_77 : decode M_X12_plain.2.1 77 = .ok (.imul, 1) := by decide +kernel
theorem d_X12_plain_78 : decode M_X12_plain.2.1 78 = .ok (.iconst 3, 1) := by decide +kernel
theorem d_X12_plain_79 : decode M_X12_plain.2.1 79 = .ok (.iadd, 1) := by decide +kernel
theorem d_X12_plain_80 : decode M_X12_plain.2.1 80 = .ok (.iload_n 2, 1) := by decide +kernel
theorem d_X12_plain_81 : decode M_X12_plain.2.1 81 = .ok (.iadd, 1) := by decide +kernel
theorem d_X12_plain_82 : decode M_X12_plain.2.1 82 = .ok (.iconst 1, 1) := by decide +kernel
theorem d_X12_plain_83 : decode M_X12_plain.2.1 83 = .ok (.iastore, 1) := by decide +kernel
theorem d_X12_plain_84 : decode M_X12_plain.2.1 84 = .ok (.iinc 2 1, 3) := by decide +kernel
theorem d_X12_plain_87 : decode M_X12_plain.2.1 87 = .ok (.goto (-22), 3) := by decide +kernel
theorem d_X12_plain_90 : decode M_X12_plain.2.1 90 = .ok (.aload_n 0, 1) := by decide +kernel
theorem d_X12_plain_91 : decode M_X12_plain.2.1 91 = .ok (.getfield 13, 3) := by decide +kernel
theorem d_X12_plain_94 : decode M_X12_plain.2.1 94 = .ok (.bipush 12, 2) := by decide +kernel
theorem d_X12_plain_96 : decode M_X12_plain.2.1 96 = .ok (.iload_n 1, 1) := by decide +kernel
theorem d_X12_plain_97 : decode M_X12_plain.2.1 97 = .ok (.imul, 1) := by decide +kernel
theorem d_X12_plain_98 : decode M_X12_plain.2.1 98 = .ok (.bipush 7, 2) := by decide +kernel
theorem d_X12_plain_100 : decode M_X12_plain.2.1 100 = .ok (.iadd, 1) := by decide +kernel
theorem d_X12_plain_101 : decode M_X12_plain.2.1 101 = .ok (.bipush 9, 2) := by decide +kernel
theorem d_X12_plain_103 : decode M_X12_plain.2.1 103 = .ok (.iastore, 1) := by decide +kernel
theorem d_X12_plain_104 : decode M_X12_plain.2.1 104 = .ok (.iconst 0, 1) := by decide +kernel
theorem d_X12_plain_105 : decode M_X12_plain.2.1 105 = .ok (.istore_n 2, 1) := by decide +kernel
theorem d_X12_plain_106 : decode M_X12_plain.2.1 106 = .ok (.iload_n 2, 1) := by decide +kernel
theorem d_X12_plain_107 : decode M_X12_plain.2.1 107 = .ok (.iconst 5, 1) := by decide +kernel
theorem d_X12_plain_108 : decode M_X12_plain.2.1 108 = .ok (.if_icmp .ge 20, 3) := by decide +kernel
theorem d_X12_plain_111 : decode M_X12_plain.2.1 111 = .ok (.aload_n 0, 1) := by decide +kernel
theorem d_X12_plain_112 : decode M_X12_plain.2.1 112 = .ok (.getfield 47, 3) := by decide +kernel
theorem d_X12_plain_115 : decode M_X12_plain.2.1 115 = .ok (.iconst 5, 1) := by decide +kernel
theorem d_X12_plain_116 : decode M_X12_plain.2.1 116 = .ok (.iload_n 1, 1) := by decide +kernel
theorem d_X12_plain_117 : decode M_X12_plain.2.1 117 = .ok (.imul, 1) := by decide +kernel
theorem d_X12_plain_118 : decode M_X12_plain.2.1 118 = .ok (.iload_n 2, 1) := by decide +kernel
theorem d_X12_plain_119 : decode M_X12_plain.2.1 119 = .ok (.iadd, 1) := by decide +kernel
theorem d_X12_plain_120 : decode M_X12_plain.2.1 120 = .ok (.iconst 0, 1) := by decide +kernel
theorem d_X12_plain_121 : decode M_X12_plain.2.1 121 = .ok (.iastore, 1) := by decide +kernel
theorem d_X12_plain_122 : decode M_X12_plain.2.1 122 = .ok (.iinc 2 1, 3) := by decide +kernel
theorem d_X12_plain_125 : decode M_X12_plain.2.1 125 = .ok (.goto (-19), 3) := by decide +kernel
theorem d_X12_plain_128 : decode M_X12_plain.2.1 128 = .ok (.iconst 0, 1) := by decide +kernel
theorem d_X12_plain_129 : decode M_X12_plain.2.1 129 = .ok (.istore_n 2, 1) := by decide +kernel
theorem d_X12_plain_130 : decode M_X12_plain.2.1 130 = .ok (.iload_n 2, 1) := by decide +kernel
theorem d_X12_plain_131 : decode M_X12_plain.2.1 131 = .ok (.iconst 3, 1) := by decide +kernel
theorem d_X12_plain_132 : decode M_X12_plain.2.1 132 = .ok (.if_icmp .ge 39, 3) := by decide +kernel
theorem d_X12_plain_135 : decode M_X12_plain.2.1 135 = .ok (.aload_n 0, 1) := by decide +kernel
theorem d_X12_plain_136 : decode M_X12_plain.2.1 136 = .ok (.getfield 56, 3) := by decide +kernel
theorem d_X12_plain_139 : decode M_X12_plain.2.1 139 = .ok (.iconst 3, 1) := by decide +kernel
theorem d_X12_plain_140 : decode M_X12_plain.2.1 140 = .ok (.iload_n 1, 1) := by decide +kernel
theorem d_X12_plain_141 : decode M_X12_plain.2.1 141 = .ok (.imul, 1) := by decide +kernel
theorem d_X12_plain_142 : decode M_X12_plain.2.1 142 = .ok (.iload_n 2, 1) := by decide +kernel
theorem d_X12_plain_143 : decode M_X12_plain.2.1 143 = .ok (.iadd, 1) := by decide +kernel
theorem d_X12_plain_144 : decode M_X12_plain.2.1 144 = .ok (.sipush 1000, 3) := by decide +kernel
theorem d_X12_plain_147 : decode M_X12_plain.2.1 147 = .ok (.iload_n 1, 1) := by decide +kernel
theorem d_X12_plain_148 : decode M_X12_plain.2.1 148 = .ok (.imul, 1) := by decide +kernel
theorem d_X12_plain_149 : decode M_X12_plain.2.1 149 = .ok (.iastore, 1) := by decide +kernel
theorem d_X12_plain_150 : decode M_X12_plain.2.1 150 = .ok (.aload_n 0, 1) := by decide +kernel
theorem d_X12_plain_151 : decode M_X12_plain.2.1 151 = .ok (.getfield 59, 3) := by decide +kernel
theorem d_X12_plain_154 : decode M_X12_plain.2.1 154 = .ok (.iconst 3, 1) := by decide +kernel
theorem d_X12_plain_155 : decode M_X12_plain.2.1 155 = .ok (.iload_n 1, 1) := by decide +kernel
theorem d_X12_plain_156 : decode M_X12_plain.2.1 156 = .ok (.imul, 1) := by decide +kernel
theorem d_X12_plain_157 : decode M_X12_plain.2.1 157 = .ok (.iload_n 2, 1) := by decide +kernel
theorem d_X12_plain_158 : decode M_X12_plain.2.1 158 = .ok (.iadd, 1) := by decide +kernel
theorem d_X12_plain_159 : decode M_X12_plain.2.1 159 = .ok (.sipush 1000, 3) := by decide +kernel
theorem d_X12_plain_162 : decode M_X12_plain.2.1 162 = .ok (.iload_n 1, 1) := by decide +kernel
theorem d_X12_plain_163 : decode M_X12_plain.2.1 163 = .ok (.imul, 1) := by decide +kernel
theorem d_X12_plain_164 : decode M_X12_plain.2.1 164 = .ok (.iastore, 1) := by decide +kernel
theorem d_X12_plain_165 : decode M_X12_plain.2.1 165 = .ok (.iinc 2 1, 3) := by decide +kernel
theorem d_X12_plain_168 : decode M_X12_plain.2.1 168 = .ok (.goto (-38), 3) := by decide +kernel
theorem d_X12_plain_171 : decode M_X12_plain.2.1 171 = .ok (.return_, 1) := by decide +kernel
set_option maxRecDepth 20000 in
theorem s_X12_plain_0 {d : Nat} {n : Nat} {Ly : Option Mem} {t : Int} {p0 : Int} {G : Mem} {Q : Int → Mem → Prop} (bt : Ob n t 12) (h : Rn d M_X12_plain (n, 0, 0, 0, 0, Ly) 2 [(0, (2, t)), (1, (0, p0)), (2, (0, 0))] [] G Q) : Rn d M_X12_plain (n, 0, 0, 0, 0, Ly) 0 [(0, (2, t)), (1, (0, p0))] [] G Q := by
  refine r_iconst d_X12_plain_0 ?_
  refine r_istore_n (ls1 := [(2, (0, 0)), (0, (2, t)), (1, (0, p0))]) d_X12_plain_1 rfl (by decide) rfl ?_
  exact Rn.sub [1, 2, 0] rfl h
set_option maxRecDepth 20000 in
theorem s_X12_plain_2 {d : Nat} {n : Nat} {Ly : Option Mem} {x0 : Int} {x1 : Int} {x2 : Int} {G : Mem} {Q : Int → Mem → Prop} (bx0 : Ob n x0 12) (h : (InR x2) ∧ ((12 ≤ x2) → (0 ≤ (rl Ly G x0 10)) ∧ (Ar n (rl Ly G x0 10) 0 72) ∧ ((0 ≤ ((12 * x1) + 0) ∧ ((12 * x1) + 0) < 72) ∧ (∀ G6 : Mem, G6 = st G (rl Ly G x0 10) ((12 * x1) + 0) 2 → (0 ≤ (rl Ly G6 x0 10)) ∧ (Ar n (rl Ly G6 x0 10) 0 72) ∧ ((0 ≤ ((12 * x1) + 1) ∧ ((12 * x1) + 1) < 72) ∧ (∀ G10 : Mem, G10 = st G6 (rl Ly G6 x0 10) ((12 * x1) + 1) 1 → (0 ≤ (rl Ly G10 x0 10)) ∧ (Ar n (rl Ly G10 x0 10) 0 72) ∧ ((0 ≤ ((12 * x1) + 2) ∧ ((12 * x1) + 2) < 72) ∧ (∀ G14 : Mem, G14 = st G10 (rl Ly G10 x0 10) ((12 * x1) + 2) 11 → Rn d M_X12_plain (n, 0, 0, 0, 0, Ly) 65 [(0, (2, x0)), (1, (0, x1)), (2, (0, 0))] [] G14 Q))))))) ∧ (¬ (12 ≤ x2) → (0 ≤ (rl Ly G x0 10)) ∧ (Ar n (rl Ly G x0 10) 0 72) ∧ ((0 ≤ ((12 * x1) + x2) ∧ ((12 * x1) + x2) < 72) ∧ (∀ G18 : Mem, G18 = st G (rl Ly G x0 10) ((12 * x1) + x2) 0 → Rn d M_X12_plain (n, 0, 0, 0, 0, Ly) 2 [(0, (2, x0)), (1, (0, x1)), (2, (0, (x2 + 1)))] [] G18 Q)))) : Rn d M_X12_plain (n, 0, 0, 0, 0, Ly) 2 [(0, (2, x0)), (1, (0, x1)), (2, (0, x2))] [] G Q := by
  refine r_iload_n d_X12_plain_2 2 rfl rfl ?_
  refine r_bipush d_X12_plain_3 (by decide +kernel) ?_
  obtain ⟨h1, h⟩ := h
  refine r_icmp_ge (tgt := 26) d_X12_plain_5 (by decide) h1 ⟨by decide, by decide⟩ (fun c2 => ?_) (fun c2 => ?_)
  · replace h := h.1 c2
    refine r_aload_n d_X12_plain_26 0 rfl rfl ?_
    obtain ⟨h3, h⟩ := h
    obtain ⟨a4, h⟩ := h
    refine r_getF 12 10 10 rfl d_X12_plain_27 fl_X12_13 (by decide) bx0 h3 ?_
    refine r_bipush d_X12_plain_30 (by decide +kernel) ?_
    refine r_iload_n d_X12_plain_32 1 rfl rfl ?_
    refine r_imul d_X12_plain_33 ?_
    refine r_iconst d_X12_plain_34 ?_
    refine r_iadd d_X12_plain_35 ?_
    refine r_iconst d_X12_plain_36 ?_
    obtain ⟨h5, h⟩ := h
    obtain ⟨G6, eG6⟩ : ∃ y : Mem, y = st G (rl Ly G x0 10) ((12 * x1) + 0) 2 := ⟨_, rfl⟩
    replace h := h G6 eG6
    refine r_iastore d_X12_plain_37 a4 h5 ?_
    rw [← eG6]
    refine r_aload_n d_X12_plain_38 0 rfl rfl ?_
    obtain ⟨h7, h⟩ := h
    obtain ⟨a8, h⟩ := h
    refine r_getF 12 10 10 rfl d_X12_plain_39 fl_X12_13 (by decide) bx0 h7 ?_
    refine r_bipush d_X12_plain_42 (by decide +kernel) ?_
    refine r_iload_n d_X12_plain_44 1 rfl rfl ?_
    refine r_imul d_X12_plain_45 ?_
    refine r_iconst d_X12_plain_46 ?_
    refine r_iadd d_X12_plain_47 ?_
    refine r_iconst d_X12_plain_48 ?_
    obtain ⟨h9, h⟩ := h
    obtain ⟨G10, eG10⟩ : ∃ y : Mem, y = st G6 (rl Ly G6 x0 10) ((12 * x1) + 1) 1 := ⟨_, rfl⟩
    replace h := h G10 eG10
    refine r_iastore d_X12_plain_49 a8 h9 ?_
    rw [← eG10]
    refine r_aload_n d_X12_plain_50 0 rfl rfl ?_
    obtain ⟨h11, h⟩ := h
    obtain ⟨a12, h⟩ := h
    refine r_getF 12 10 10 rfl d_X12_plain_51 fl_X12_13 (by decide) bx0 h11 ?_
    refine r_bipush d_X12_plain_54 (by decide +kernel) ?_
    refine r_iload_n d_X12_plain_56 1 rfl rfl ?_
    refine r_imul d_X12_plain_57 ?_
    refine r_iconst d_X12_plain_58 ?_
    refine r_iadd d_X12_plain_59 ?_
    refine r_bipush d_X12_plain_60 (by decide +kernel) ?_
    obtain ⟨h13, h⟩ := h
    obtain ⟨G14, eG14⟩ : ∃ y : Mem, y = st G10 (rl Ly G10 x0 10) ((12 * x1) + 2) 11 := ⟨_, rfl⟩
    replace h := h G14 eG14
    refine r_iastore d_X12_plain_62 a12 h13 ?_
    rw [← eG14]
    refine r_iconst d_X12_plain_63 ?_
    refine r_istore_n (ls1 := [(2, (0, 0)), (0, (2, x0)), (1, (0, x1))]) d_X12_plain_64 rfl (by decide) rfl ?_
    exact Rn.sub [1, 2, 0] rfl h
  · replace h := h.2 c2
    refine r_aload_n d_X12_plain_8 0 rfl rfl ?_
    obtain ⟨h15, h⟩ := h
    obtain ⟨a16, h⟩ := h
    refine r_getF 12 10 10 rfl d_X12_plain_9 fl_X12_13 (by decide) bx0 h15 ?_
    refine r_bipush d_X12_plain_12 (by decide +kernel) ?_
    refine r_iload_n d_X12_plain_14 1 rfl rfl ?_
    refine r_imul d_X12_plain_15 ?_
    refine r_iload_n d_X12_plain_16 2 rfl rfl ?_
    refine r_iadd d_X12_plain_17 ?_
    refine r_iconst d_X12_plain_18 ?_
    obtain ⟨h17, h⟩ := h
    obtain ⟨G18, eG18⟩ : ∃ y : Mem, y = st G (rl Ly G x0 10) ((12 * x1) + x2) 0 := ⟨_, rfl⟩
    replace h := h G18 eG18
    refine r_iastore d_X12_plain_19 a16 h17 ?_
    rw [← eG18]
    refine r_iinc (ls1 := [(2, (0, (x2 + 1))), (0, (2, x0)), (1, (0, x1))]) d_X12_plain_20 2 rfl (by decide) rfl ?_
    refine r_goto (tgt := 2) d_X12_plain_23 (by decide) ?_
    exact Rn.sub [1, 2, 0] rfl h
set_option maxRecDepth 20000 in
theorem s_X12_plain_65 {d : Nat} {n : Nat} {Ly : Option Mem} {x0 : Int} {x1 : Int} {x2 : Int} {G : Mem} {Q : Int → Mem → Prop} (bx0 : Ob n x0 12) (h : (InR x2) ∧ ((4 ≤ x2) → (0 ≤ (rl Ly G x0 10)) ∧ (Ar n (rl Ly G x0 10) 0 72) ∧ ((0 ≤ ((12 * x1) + 7) ∧ ((12 * x1) + 7) < 72) ∧ (∀ G6 : Mem, G6 = st G (rl Ly G x0 10) ((12 * x1) + 7) 9 → Rn d M_X12_plain (n, 0, 0, 0, 0, Ly) 106 [(0, (2, x0)), (1, (0, x1)), (2, (0, 0))] [] G6 Q))) ∧ (¬ (4 ≤ x2) → (0 ≤ (rl Ly G x0 10)) ∧ (Ar n (rl Ly G x0 10) 0 72) ∧ ((0 ≤ (((12 * x1) + 3) + x2) ∧ (((12 * x1) + 3) + x2) < 72) ∧ (∀ G10 : Mem, G10 = st G (rl Ly G x0 10) (((12 * x1) + 3) + x2) 1 → Rn d M_X12_plain (n, 0, 0, 0, 0, Ly) 65 [(0, (2, x0)), (1, (0, x1)), (2, (0, (x2 + 1)))] [] G10 Q)))) : Rn d M_X12_plain (n, 0, 0, 0, 0, Ly) 65 [(0, (2, x0)), (1, (0, x1)), (2, (0, x2))] [] G Q := by
  refine r_iload_n d_X12_plain_65 2 rfl rfl ?_
  refine r_iconst d_X12_plain_66 ?_
  obtain ⟨h1, h⟩ := h
  refine r_icmp_ge (tgt := 90) d_X12_plain_67 (by decide) h1 ⟨by decide, by decide⟩ (fun c2 => ?_) (fun c2 => ?_)
  · replace h := h.1 c2
    refine r_aload_n d_X12_plain_90 0 rfl rfl ?_
    obtain ⟨h3, h⟩ := h
    obtain ⟨a4, h⟩ := h
    refine r_getF 12 10 10 rfl d_X12_plain_91 fl_X12_13 (by decide) bx0 h3 ?_
    refine r_bipush d_X12_plain_94 (by decide +kernel) ?_
    refine r_iload_n d_X12_plain_96 1 rfl rfl ?_
    refine r_imul d_X12_plain_97 ?_
    refine r_bipush d_X12_plain_98 (by decide +kernel) ?_
    refine r_iadd d_X12_plain_100 ?_
    refine r_bipush d_X12_plain_101 (by decide +kernel) ?_
    obtain ⟨h5, h⟩ := h
    obtain ⟨G6, eG6⟩ : ∃ y : Mem, y = st G (rl Ly G x0 10) ((12 * x1) + 7) 9 := ⟨_, rfl⟩
    replace h := h G6 eG6
    refine r_iastore d_X12_plain_103 a4 h5 ?_
    rw [← eG6]
    refine r_iconst d_X12_plain_104 ?_
    refine r_istore_n (ls1 := [(2, (0, 0)), (0, (2, x0)), (1, (0, x1))]) d_X12_plain_105 rfl (by decide) rfl ?_
    exact Rn.sub [1, 2, 0] rfl h
  · replace h := h.2 c2
    refine r_aload_n d_X12_plain_70 0 rfl rfl ?_
    obtain ⟨h7, h⟩ := h
    obtain ⟨a8, h⟩ := h
    refine r_getF 12 10 10 rfl d_X12_plain_71 fl_X12_13 (by decide) bx0 h7 ?_
    refine r_bipush d_X12_plain_74 (by decide +kernel) ?_
    refine r_iload_n d_X12_plain_76 1 rfl rfl ?_
    refine r_imul d_X12_plain_77 ?_
    refine r_iconst d_X12_plain_78 ?_
    refine r_iadd d_X12_plain_79 ?_
    refine r_iload_n d_X12_plain_80 2 rfl rfl ?_
    refine r_iadd d_X12_plain_81 ?_
    refine r_iconst d_X12_plain_82 ?_
    obtain ⟨h9, h⟩ := h
    obtain ⟨G10, eG10⟩ : ∃ y : Mem, y = st G (rl Ly G x0 10) (((12 * x1) + 3) + x2) 1 := ⟨_, rfl⟩
    replace h := h G10 eG10
    refine r_iastore d_X12_plain_83 a8 h9 ?_
    rw [← eG10]
    refine r_iinc (ls1 := [(2, (0, (x2 + 1))), (0, (2, x0)), (1, (0, x1))]) d_X12_plain_84 2 rfl (by decide) rfl ?_
    refine r_goto (tgt := 65) d_X12_plain_87 (by decide) ?_
    exact Rn.sub [1, 2, 0] rfl h
set_option maxRecDepth 20000 in
theorem s_X12_plain_106 {d : Nat} {n : Nat} {Ly : Option Mem} {x0 : Int} {x1 : Int} {x2 : Int} {G : Mem} {Q : Int → Mem → Prop} (bx0 : Ob n x0 12) (h : (InR x2) ∧ ((5 ≤ x2) → Rn d M_X12_plain (n, 0, 0, 0, 0, Ly) 130 [(0, (2, x0)), (1, (0, x1)), (2, (0, 0))] [] G Q) ∧ (¬ (5 ≤ x2) → (0 ≤ (rl Ly G x0 21)) ∧ (Ar n (rl Ly G x0 21) 0 30) ∧ ((0 ≤ ((5 * x1) + x2) ∧ ((5 * x1) + x2) < 30) ∧ (∀ G6 : Mem, G6 = st G (rl Ly G x0 21) ((5 * x1) + x2) 0 → Rn d M_X12_plain (n, 0, 0, 0, 0, Ly) 106 [(0, (2, x0)), (1, (0, x1)), (2, (0, (x2 + 1)))] [] G6 Q)))) : Rn d M_X12_plain (n, 0, 0, 0, 0, Ly) 106 [(0, (2, x0)), (1, (0, x1)), (2, (0, x2))] [] G Q := by
  refine r_iload_n d_X12_plain_106 2 rfl rfl ?_
  refine r_iconst d_X12_plain_107 ?_
  obtain ⟨h1, h⟩ := h
  refine r_icmp_ge (tgt := 128) d_X12_plain_108 (by decide) h1 ⟨by decide, by decide⟩ (fun c2 => ?_) (fun c2 => ?_)
  · replace h := h.1 c2
    refine r_iconst d_X12_plain_128 ?_
    refine r_istore_n (ls1 := [(2, (0, 0)), (0, (2, x0)), (1, (0, x1))]) d_X12_plain_129 rfl (by decide) rfl ?_
    exact Rn.sub [1, 2, 0] rfl h
  · replace h := h.2 c2
    refine r_aload_n d_X12_plain_111 0 rfl rfl ?_
    obtain ⟨h3, h⟩ := h
    obtain ⟨a4, h⟩ := h
    refine r_getF 12 21 21 rfl d_X12_plain_112 fl_X12_47 (by decide) bx0 h3 ?_
    refine r_iconst d_X12_plain_115 ?_
    refine r_iload_n d_X12_plain_116 1 rfl rfl ?_
    refine r_imul d_X12_plain_117 ?_
    refine r_iload_n d_X12_plain_118 2 rfl rfl ?_
    refine r_iadd d_X12_plain_119 ?_
    refine r_iconst d_X12_plain_120 ?_
    obtain ⟨h5, h⟩ := h
    obtain ⟨G6, eG6⟩ : ∃ y : Mem, y = st G (rl Ly G x0 21) ((5 * x1) + x2) 0 := ⟨_, rfl⟩
    replace h := h G6 eG6
    refine r_iastore d_X12_plain_121 a4 h5 ?_
    rw [← eG6]
    refine r_iinc (ls1 := [(2, (0, (x2 + 1))), (0, (2, x0)), (1, (0, x1))]) d_X12_plain_122 2 rfl (by decide) rfl ?_
    refine r_goto (tgt := 106) d_X12_plain_125 (by decide) ?_
    exact Rn.sub [1, 2, 0] rfl h
set_option maxRecDepth 20000 in
theorem s_X12_plain_130 {d : Nat} {n : Nat} {Ly : Option Mem} {x0 : Int} {x1 : Int} {x2 : Int} {G : Mem} {Q : Int → Mem → Prop} (bx0 : Ob n x0 12) (h : (InR x2) ∧ ((3 ≤ x2) → Q 0 G) ∧ (¬ (3 ≤ x2) → (0 ≤ (rl Ly G x0 24)) ∧ (Ar n (rl Ly G x0 24) 0 18) ∧ ((0 ≤ ((3 * x1) + x2) ∧ ((3 * x1) + x2) < 18) ∧ (∀ G6 : Mem, G6 = st G (rl Ly G x0 24) ((3 * x1) + x2) (1000 * x1) → (0 ≤ (rl Ly G6 x0 25)) ∧ (Ar n (rl Ly G6 x0 25) 0 18) ∧ ((∀ G9 : Mem, G9 = st G6 (rl Ly G6 x0 25) ((3 * x1) + x2) (1000 * x1) → Rn d M_X12_plain (n, 0, 0, 0, 0, Ly) 130 [(0, (2, x0)), (1, (0, x1)), (2, (0, (x2 + 1)))] [] G9 Q)))))) : Rn d M_X12_plain (n, 0, 0, 0, 0, Ly) 130 [(0, (2, x0)), (1, (0, x1)), (2, (0, x2))] [] G Q := by
  refine r_iload_n d_X12_plain_130 2 rfl rfl ?_
  refine r_iconst d_X12_plain_131 ?_
  obtain ⟨h1, h⟩ := h
  refine r_icmp_ge (tgt := 171) d_X12_plain_132 (by decide) h1 ⟨by decide, by decide⟩ (fun c2 => ?_) (fun c2 => ?_)
  · replace h := h.1 c2
    exact r_ret d_X12_plain_171 rfl ⟨rfl, Nat.le_refl _, Nat.le_refl _⟩ h
  · replace h := h.2 c2
    refine r_aload_n d_X12_plain_135 0 rfl rfl ?_
    obtain ⟨h3, h⟩ := h
    obtain ⟨a4, h⟩ := h
    refine r_getF 12 24 24 rfl d_X12_plain_136 fl_X12_56 (by decide) bx0 h3 ?_
    refine r_iconst d_X12_plain_139 ?_
    refine r_iload_n d_X12_plain_140 1 rfl rfl ?_
    refine r_imul d_X12_plain_141 ?_
    refine r_iload_n d_X12_plain_142 2 rfl rfl ?_
    refine r_iadd d_X12_plain_143 ?_
    refine r_sipush d_X12_plain_144 (by decide +kernel) ?_
    refine r_iload_n d_X12_plain_147 1 rfl rfl ?_
    refine r_imul d_X12_plain_148 ?_
    obtain ⟨h5, h⟩ := h
    obtain ⟨G6, eG6⟩ : ∃ y : Mem, y = st G (rl Ly G x0 24) ((3 * x1) + x2) (1000 * x1) := ⟨_, rfl⟩
    replace h := h G6 eG6
    refine r_iastore d_X12_plain_149 a4 h5 ?_
    rw [← eG6]
    refine r_aload_n d_X12_plain_150 0 rfl rfl ?_
    obtain ⟨h7, h⟩ := h
    obtain ⟨a8, h⟩ := h
    refine r_getF 12 25 25 rfl d_X12_plain_151 fl_X12_59 (by decide) bx0 h7 ?_
    refine r_iconst d_X12_plain_154 ?_
    refine r_iload_n d_X12_plain_155 1 rfl rfl ?_
    refine r_imul d_X12_plain_156 ?_
    refine r_iload_n d_X12_plain_157 2 rfl rfl ?_
    refine r_iadd d_X12_plain_158 ?_
    refine r_sipush d_X12_plain_159 (by decide +kernel) ?_
    refine r_iload_n d_X12_plain_162 1 rfl rfl ?_
    refine r_imul d_X12_plain_163 ?_
    obtain ⟨G9, eG9⟩ : ∃ y : Mem, y = st G6 (rl Ly G6 x0 25) ((3 * x1) + x2) (1000 * x1) := ⟨_, rfl⟩
    replace h := h G9 eG9
    refine r_iastore d_X12_plain_164 a8 h5 ?_
    rw [← eG9]
    refine r_iinc (ls1 := [(2, (0, (x2 + 1))), (0, (2, x0)), (1, (0, x1))]) d_X12_plain_165 2 rfl (by decide) rfl ?_
    refine r_goto (tgt := 130) d_X12_plain_168 (by decide) ?_
    exact Rn.sub [1, 2, 0] rfl h
theorem d_X12_puts_0 : decode M_X12_puts.2.1 0 = .ok (.aload_n 0, 1) := by decide +kernel
theorem d_X12_puts_1 : decode M_X12_puts.2.1 1 = .ok (.getfield 62, 3) := by decide +kernel
theorem d_X12_puts_4 : decode M_X12_puts.2.1 4 = .ok (.aload_n 0, 1) := by decide +kernel
theorem d_X12_puts_5 : decode M_X12_puts.2.1 5 = .ok (.getfield 208, 3) := by decide +kernel
theorem d_X12_puts_8 : decode M_X12_puts.2.1 8 = .ok (.iload_n 1, 1) := by decide +kernel
theorem d_X12_puts_9 : decode M_X12_puts.2.1 9 = .ok (.iastore, 1) := by decide +kernel
theorem d_X12_puts_10 : decode M_X12_puts.2.1 10 = .ok (.aload_n 0, 1) := by decide +kernel
theorem d_X12_puts_11 : decode M_X12_puts.2.1 11 = .ok (.dup, 1) := by decide +kernel
theorem d_X12_puts_12 : decode M_X12_puts.2.1 12 = .ok (.getfield 208, 3) := by decide +kernel
theorem d_X12_puts_15 : decode M_X12_puts.2.1 15 = .ok (.iconst 1, 1) := by decide +kernel
theorem d_X12_puts_16 : decode M_X12_puts.2.1 16 = .ok (.iadd, 1) := by decide +kernel
theorem d_X12_puts_17 : decode M_X12_puts.2.1 17 = .ok (.putfield 208, 3) := by decide +kernel
theorem d_X12_puts_20 : decode M_X12_puts.2.1 20 = .ok (.return_, 1) := by decide +kernel
set_option maxRecDepth 20000 in
theorem s_X12_puts_0 {d : Nat} {p0 : Int} {G : Mem} {Q : Int → Mem → Prop}  (h : (0 ≤ (G 311 27) ∧ (G 311 27) < 6000) ∧ (∀ G2 : Mem, G2 = st G 329 (G 311 27) p0 → (∀ G3 : Mem, G3 = st G2 311 27 ((G2 311 27) + 1) → Q 0 G3))) : Rn d M_X12_puts zN 0 [(0, (2, 311)), (1, (0, p0))] [] G Q := by
  refine r_aload_n d_X12_puts_0 0 rfl rfl ?_
  refine r_getL (v := 329) 12 26 26 rfl d_X12_puts_1 fl_X12_62 (by decide) (bs_ob bs_12) (ly_12_26 bs_12).1 (ly_12_26 bs_12).2.1 ?_
  refine r_aload_n d_X12_puts_4 0 rfl rfl ?_
  refine r_getI 12 27 27 rfl d_X12_puts_5 fl_X12_208 (by decide) (bs_ob bs_12) ?_
  refine r_iload_n d_X12_puts_8 1 rfl rfl ?_
  obtain ⟨h1, h⟩ := h
  obtain ⟨G2, eG2⟩ : ∃ y : Mem, y = st G 329 (G 311 27) p0 := ⟨_, rfl⟩
  replace h := h G2 eG2
  refine r_iastore d_X12_puts_9 (ly_12_26 bs_12).2.2 h1 ?_
  rw [← eG2]
  refine r_aload_n d_X12_puts_10 0 rfl rfl ?_
  refine r_dup 2 rfl (by decide) d_X12_puts_11 ?_
  refine r_getI 12 27 27 rfl d_X12_puts_12 fl_X12_208 (by decide) (bs_ob bs_12) ?_
  refine r_iconst d_X12_puts_15 ?_
  refine r_iadd d_X12_puts_16 ?_
  obtain ⟨G3, eG3⟩ : ∃ y : Mem, y = st G2 311 27 ((G2 311 27) + 1) := ⟨_, rfl⟩
  replace h := h G3 eG3
  refine r_putI 12 27 27 rfl d_X12_puts_17 fl_X12_208 (by decide) nofin_12_27 (bs_ob bs_12) ?_
  rw [← eG3]
  exact r_ret d_X12_puts_20 rfl ⟨rfl, Nat.le_refl _, Nat.le_refl _⟩ h
theorem d_X12_fact_0 : decode M_X12_fact.2.1 0 = .ok (.aload_n 0, 1) := by decide +kernel
theorem d_X12_fact_1 : decode M_X12_fact.2.1 1 = .ok (.getfield 194, 3) := by decide +kernel
theorem d_X12_fact_4 : decode M_X12_fact.2.1 4 = .ok (.iconst 1, 1) := by decide +kernel
theorem d_X12_fact_5 : decode M_X12_fact.2.1 5 = .ok (.if_icmp .eq 5, 3) := by decide +kernel
theorem d_X12_fact_8 : decode M_X12_fact.2.1 8 = .ok (.iconst 0, 1) := by decide +kernel
theorem d_X12_fact_9 : decode M_X12_fact.2.1 9 = .ok (.ireturn, 1) := by decide +kernel
theorem d_X12_fact_10 : decode M_X12_fact.2.1 10 = .ok (.aload_n 0, 1) := by decide +kernel
theorem d_X12_fact_11 : decode M_X12_fact.2.1 11 = .ok (.getfield 187, 3) := by decide +kernel
theorem d_X12_fact_14 : decode M_X12_fact.2.1 14 = .ok (.ldc2_w 211, 3) := by decide +kernel
theorem d_X12_fact_17 : decode M_X12_fact.2.1 17 = .ok (.lcmp, 1) := by decide +kernel
theorem d_X12_fact_18 : decode M_X12_fact.2.1 18 = .ok (.ifCond .ne 5, 3) := by decide +kernel
theorem d_X12_fact_21 : decode M_X12_fact.2.1 21 = .ok (.iconst 1, 1) := by decide +kernel
theorem d_X12_fact_22 : decode M_X12_fact.2.1 22 = .ok (.ireturn, 1) := by decide +kernel
theorem d_X12_fact_23 : decode M_X12_fact.2.1 23 = .ok (.aload_n 0, 1) := by decide +kernel
theorem d_X12_fact_24 : decode M_X12_fact.2.1 24 = .ok (.getfield 213, 3) := by decide +kernel
theorem d_X12_fact_27 : decode M_X12_fact.2.1 27 = .ok (.iconst 2, 1) := by decide +kernel
theorem d_X12_fact_28 : decode M_X12_fact.2.1 28 = .ok (.if_icmp .ne 21, 3) := by decide +kernel
theorem d_X12_fact_31 : decode M_X12_fact.2.1 31 = .ok (.aload_n 0, 1) := by decide +kernel
theorem d_X12_fact_32 : decode M_X12_fact.2.1 32 = .ok (.getfield 187, 3) := by decide +kernel
theorem d_X12_fact_35 : decode M_X12_fact.2.1 35 = .ok (.ldc2_w 216, 3) := by decide +kernel
theorem d_X12_fact_38 : decode M_X12_fact.2.1 38 = .ok (.lcmp, 1) := by decide +kernel
theorem d_X12_fact_39 : decode M_X12_fact.2.1 39 = .ok (.ifCond .ne 8, 3) := by decide +kernel
theorem d_X12_fact_42 : decode M_X12_fact.2.1 42 = .ok (.bipush 8, 2) := by decide +kernel
theorem d_X12_fact_44 : decode M_X12_fact.2.1 44 = .ok (.goto 4, 3) := by decide +kernel
theorem d_X12_fact_47 : decode M_X12_fact.2.1 47 = .ok (.iconst 0, 1) := by decide +kernel
theorem d_X12_fact_48 : decode M_X12_fact.2.1 48 = .ok (.ireturn, 1) := by decide +kernel
theorem d_X12_fact_49 : decode M_X12_fact.2.1 49 = .ok (.aload_n 0, 1) := by decide +kernel
theorem d_X12_fact_50 : decode M_X12_fact.2.1 50 = .ok (.getfield 187, 3) := by decide +kernel
theorem d_X12_fact_53 : decode M_X12_fact.2.1 53 = .ok (.ldc2_w 218, 3) := by decide +kernel
theorem d_X12_fact_56 : decode M_X12_fact.2.1 56 = .ok (.lcmp, 1) := by decide +kernel
theorem d_X12_fact_57 : decode M_X12_fact.2.1 57 = .ok (.ifCond .ne 5, 3) := by decide +kernel
theorem d_X12_fact_60 : decode M_X12_fact.2.1 60 = .ok (.iconst 2, 1) := by decide +kernel
theorem d_X12_fact_61 : decode M_X12_fact.2.1 61 = .ok (.ireturn, 1) := by decide +kernel
theorem d_X12_fact_62 : decode M_X12_fact.2.1 62 = .ok (.aload_n 0, 1) := by decide +kernel
theorem d_X12_fact_63 : decode M_X12_fact.2.1 63 = .ok (.getfield 187, 3) := by decide +kernel
theorem d_X12_fact_66 : decode M_X12_fact.2.1 66 = .ok (.ldc2_w 220, 3) := by decide +kernel
theorem d_X12_fact_69 : decode M_X12_fact.2.1 69 = .ok (.lcmp, 1) := by decide +kernel
theorem d_X12_fact_70 : decode M_X12_fact.2.1 70 = .ok (.ifCond .ne 5, 3) := by decide +kernel
theorem d_X12_fact_73 : decode M_X12_fact.2.1 73 = .ok (.iconst 3, 1) := by decide +kernel
theorem d_X12_fact_74 : decode M_X12_fact.2.1 74 = .ok (.ireturn, 1) := by decide +kernel
theorem d_X12_fact_75 : decode M_X12_fact.2.1 75 = .ok (.aload_n 0, 1) := by decide +kernel
theorem d_X12_fact_76 : decode M_X12_fact.2.1 76 = .ok (.getfield 187, 3) := by decide +kernel
theorem d_X12_fact_79 : decode M_X12_fact.2.1 79 = .ok (.ldc2_w 222, 3) := by decide +kernel
theorem d_X12_fact_82 : decode M_X12_fact.2.1 82 = .ok (.lcmp, 1) := by decide +kernel
theorem d_X12_fact_83 : decode M_X12_fact.2.1 83 = .ok (.ifCond .ne 5, 3) := by decide +kernel
theorem d_X12_fact_86 : decode M_X12_fact.2.1 86 = .ok (.iconst 4, 1) := by decide +kernel
theorem d_X12_fact_87 : decode M_X12_fact.2.1 87 = .ok (.ireturn, 1) := by decide +kernel
theorem d_X12_fact_88 : decode M_X12_fact.2.1 88 = .ok (.aload_n 0, 1) := by decide +kernel
theorem d_X12_fact_89 : decode M_X12_fact.2.1 89 = .ok (.getfield 187, 3) := by decide +kernel
theorem d_X12_fact_92 : decode M_X12_fact.2.1 92 = .ok (.ldc2_w 224, 3) := by decide +kernel
theorem d_X12_fact_95 : decode M_X12_fact.2.1 95 = .ok (.lcmp, 1) := by decide +kernel
theorem d_X12_fact_96 : decode M_X12_fact.2.1 96 = .ok (.ifCond .ne 5, 3) := by decide +kernel
theorem d_X12_fact_99 : decode M_X12_fact.2.1 99 = .ok (.iconst 5, 1) := by decide +kernel
theorem d_X12_fact_100 : decode M_X12_fact.2.1 100 = .ok (.ireturn, 1) := by decide +kernel
theorem d_X12_fact_101 : decode M_X12_fact.2.1 101 = .ok (.aload_n 0, 1) := by decide +kernel
theorem d_X12_fact_102 : decode M_X12_fact.2.1 102 = .ok (.getfield 213, 3) := by decide +kernel
theorem d_X12_fact_105 : decode M_X12_fact.2.1 105 = .ok (.ifCond .ne 5, 3) := by decide +kernel
theorem d_X12_fact_108 : decode M_X12_fact.2.1 108 = .ok (.iconst 0, 1) := by decide +kernel
theorem d_X12_fact_109 : decode M_X12_fact.2.1 109 = .ok (.ireturn, 1) := by decide +kernel
theorem d_X12_fact_110 : decode M_X12_fact.2.1 110 = .ok (.aload_n 0, 1) := by decide +kernel
theorem d_X12_fact_111 : decode M_X12_fact.2.1 111 = .ok (.getfield 187, 3) := by decide +kernel
theorem d_X12_fact_114 : decode M_X12_fact.2.1 114 = .ok (.ldc2_w 226, 3) := by decide +kernel
theorem d_X12_fact_117 : decode M_X12_fact.2.1 117 = .ok (.lcmp, 1) := by decide +kernel
theorem d_X12_fact_118 : decode M_X12_fact.2.1 118 = .ok (.ifCond .ne 8, 3) := by decide +kernel
theorem d_X12_fact_121 : decode M_X12_fact.2.1 121 = .ok (.bipush 6, 2) := by decide +kernel
theorem d_X12_fact_123 : decode M_X12_fact.2.1 123 = .ok (.goto 20, 3) := by decide +kernel
theorem d_X12_fact_126 : decode M_X12_fact.2.1 126 = .ok (.aload_n 0, 1) := by decide +kernel
theorem d_X12_fact_127 : decode M_X12_fact.2.1 127 = .ok (.getfield 187, 3) := by decide +kernel
theorem d_X12_fact_130 : decode M_X12_fact.2.1 130 = .ok (.ldc2_w 228, 3) := by decide +kernel
theorem d_X12_fact_133 : decode M_X12_fact.2.1 133 = .ok (.lcmp, 1) := by decide +kernel
theorem d_X12_fact_134 : decode M_X12_fact.2.1 134 = .ok (.ifCond .ne 8, 3) := by decide +kernel
theorem d_X12_fact_137 : decode M_X12_fact.2.1 137 = .ok (.bipush 7, 2) := by decide +kernel
theorem d_X12_fact_139 : decode M_X12_fact.2.1 139 = .ok (.goto 4, 3) := by decide +kernel
theorem d_X12_fact_142 : decode M_X12_fact.2.1 142 = .ok (.iconst 0, 1) := by decide +kernel
theorem d_X12_fact_143 : decode M_X12_fact.2.1 143 = .ok (.ireturn, 1) := by decide +kernel
set_option maxRecDepth 20000 in
theorem s_X12_fact_0 {d : Nat}  {G : Mem} {Q : Int → Mem → Prop}  (h : (InR (G 311 6)) ∧ (((G 311 6) = 1) → (InL (G 311 7)) ∧ (((G 311 7) ≠ 400313) → (InR (G 311 29)) ∧ (((G 311 29) ≠ 2) → (((G 311 7) ≠ 2236391) → (((G 311 7) ≠ 240049) → (((G 311 7) ≠ 2770) → (((G 311 7) ≠ 913576) → (((G 311 29) ≠ 0) → (((G 311 7) ≠ 5146) → (((G 311 7) ≠ 380651) → Q 0 G) ∧ (¬ ((G 311 7) ≠ 380651) → Q 7 G)) ∧ (¬ ((G 311 7) ≠ 5146) → Q 6 G)) ∧ (¬ ((G 311 29) ≠ 0) → Q 0 G)) ∧ (¬ ((G 311 7) ≠ 913576) → Q 5 G)) ∧ (¬ ((G 311 7) ≠ 2770) → Q 4 G)) ∧ (¬ ((G 311 7) ≠ 240049) → Q 3 G)) ∧ (¬ ((G 311 7) ≠ 2236391) → Q 2 G)) ∧ (¬ ((G 311 29) ≠ 2) → (((G 311 7) ≠ 11522) → Q 0 G) ∧ (¬ ((G 311 7) ≠ 11522) → Q 8 G))) ∧ (¬ ((G 311 7) ≠ 400313) → Q 1 G)) ∧ (¬ ((G 311 6) = 1) → Q 0 G)) : Rn d M_X12_fact zN 0 [(0, (2, 311))] [] G Q := by
  refine r_aload_n d_X12_fact_0 0 rfl rfl ?_
  refine r_getI 12 6 6 rfl d_X12_fact_1 fl_X12_194 (by decide) (bs_ob bs_12) ?_
  refine r_iconst d_X12_fact_4 ?_
  obtain ⟨h1, h⟩ := h
  refine r_icmp_eq (tgt := 10) d_X12_fact_5 (by decide) h1 ⟨by decide, by decide⟩ (fun c2 => ?_) (fun c2 => ?_)
  · replace h := h.1 c2
    refine r_aload_n d_X12_fact_10 0 rfl rfl ?_
    refine r_getJ 12 7 7 rfl d_X12_fact_11 fl_X12_187 (by decide) (bs_ob bs_12) ?_
    refine r_ldc2 (x := 400313) d_X12_fact_14 cst_X12_211 ?_
    obtain ⟨h3, h⟩ := h
    refine r_lcmp_ne (tgt := 23) d_X12_fact_17 d_X12_fact_18 (by decide) h3 ⟨by decide, by decide⟩ (fun c4 => ?_) (fun c4 => ?_)
    · replace h := h.1 c4
      refine r_aload_n d_X12_fact_23 0 rfl rfl ?_
      refine r_getI 12 29 29 rfl d_X12_fact_24 fl_X12_213 (by decide) (bs_ob bs_12) ?_
      refine r_iconst d_X12_fact_27 ?_
      obtain ⟨h5, h⟩ := h
      refine r_icmp_ne (tgt := 49) d_X12_fact_28 (by decide) h5 ⟨by decide, by decide⟩ (fun c6 => ?_) (fun c6 => ?_)
      · replace h := h.1 c6
        refine r_aload_n d_X12_fact_49 0 rfl rfl ?_
        refine r_getJ 12 7 7 rfl d_X12_fact_50 fl_X12_187 (by decide) (bs_ob bs_12) ?_
        refine r_ldc2 (x := 2236391) d_X12_fact_53 cst_X12_218 ?_
        refine r_lcmp_ne (tgt := 62) d_X12_fact_56 d_X12_fact_57 (by decide) h3 ⟨by decide, by decide⟩ (fun c7 => ?_) (fun c7 => ?_)
        · replace h := h.1 c7
          refine r_aload_n d_X12_fact_62 0 rfl rfl ?_
          refine r_getJ 12 7 7 rfl d_X12_fact_63 fl_X12_187 (by decide) (bs_ob bs_12) ?_
          refine r_ldc2 (x := 240049) d_X12_fact_66 cst_X12_220 ?_
          refine r_lcmp_ne (tgt := 75) d_X12_fact_69 d_X12_fact_70 (by decide) h3 ⟨by decide, by decide⟩ (fun c8 => ?_) (fun c8 => ?_)
          · replace h := h.1 c8
            refine r_aload_n d_X12_fact_75 0 rfl rfl ?_
            refine r_getJ 12 7 7 rfl d_X12_fact_76 fl_X12_187 (by decide) (bs_ob bs_12) ?_
            refine r_ldc2 (x := 2770) d_X12_fact_79 cst_X12_222 ?_
            refine r_lcmp_ne (tgt := 88) d_X12_fact_82 d_X12_fact_83 (by decide) h3 ⟨by decide, by decide⟩ (fun c9 => ?_) (fun c9 => ?_)
            · replace h := h.1 c9
              refine r_aload_n d_X12_fact_88 0 rfl rfl ?_
              refine r_getJ 12 7 7 rfl d_X12_fact_89 fl_X12_187 (by decide) (bs_ob bs_12) ?_
              refine r_ldc2 (x := 913576) d_X12_fact_92 cst_X12_224 ?_
              refine r_lcmp_ne (tgt := 101) d_X12_fact_95 d_X12_fact_96 (by decide) h3 ⟨by decide, by decide⟩ (fun c10 => ?_) (fun c10 => ?_)
              · replace h := h.1 c10
                refine r_aload_n d_X12_fact_101 0 rfl rfl ?_
                refine r_getI 12 29 29 rfl d_X12_fact_102 fl_X12_213 (by decide) (bs_ob bs_12) ?_
                refine r_if_ne (tgt := 110) d_X12_fact_105 (by decide) h5 (fun c11 => ?_) (fun c11 => ?_)
                · replace h := h.1 c11
                  refine r_aload_n d_X12_fact_110 0 rfl rfl ?_
                  refine r_getJ 12 7 7 rfl d_X12_fact_111 fl_X12_187 (by decide) (bs_ob bs_12) ?_
                  refine r_ldc2 (x := 5146) d_X12_fact_114 cst_X12_226 ?_
                  refine r_lcmp_ne (tgt := 126) d_X12_fact_117 d_X12_fact_118 (by decide) h3 ⟨by decide, by decide⟩ (fun c12 => ?_) (fun c12 => ?_)
                  · replace h := h.1 c12
                    refine r_aload_n d_X12_fact_126 0 rfl rfl ?_
                    refine r_getJ 12 7 7 rfl d_X12_fact_127 fl_X12_187 (by decide) (bs_ob bs_12) ?_
                    refine r_ldc2 (x := 380651) d_X12_fact_130 cst_X12_228 ?_
                    refine r_lcmp_ne (tgt := 142) d_X12_fact_133 d_X12_fact_134 (by decide) h3 ⟨by decide, by decide⟩ (fun c13 => ?_) (fun c13 => ?_)
                    · replace h := h.1 c13
                      refine r_iconst d_X12_fact_142 ?_
                      exact r_ireturn d_X12_fact_143 rfl ⟨rfl, Nat.le_refl _, Nat.le_refl _⟩ h
                    · replace h := h.2 c13
                      refine r_bipush d_X12_fact_137 (by decide +kernel) ?_
                      refine r_goto (tgt := 143) d_X12_fact_139 (by decide) ?_
                      exact r_ireturn d_X12_fact_143 rfl ⟨rfl, Nat.le_refl _, Nat.le_refl _⟩ h
                  · replace h := h.2 c12
                    refine r_bipush d_X12_fact_121 (by decide +kernel) ?_
                    refine r_goto (tgt := 143) d_X12_fact_123 (by decide) ?_
                    exact r_ireturn d_X12_fact_143 rfl ⟨rfl, Nat.le_refl _, Nat.le_refl _⟩ h
                · replace h := h.2 c11
                  refine r_iconst d_X12_fact_108 ?_
                  exact r_ireturn d_X12_fact_109 rfl ⟨rfl, Nat.le_refl _, Nat.le_refl _⟩ h
              · replace h := h.2 c10
                refine r_iconst d_X12_fact_99 ?_
                exact r_ireturn d_X12_fact_100 rfl ⟨rfl, Nat.le_refl _, Nat.le_refl _⟩ h
            · replace h := h.2 c9
              refine r_iconst d_X12_fact_86 ?_
              exact r_ireturn d_X12_fact_87 rfl ⟨rfl, Nat.le_refl _, Nat.le_refl _⟩ h
          · replace h := h.2 c8
            refine r_iconst d_X12_fact_73 ?_
            exact r_ireturn d_X12_fact_74 rfl ⟨rfl, Nat.le_refl _, Nat.le_refl _⟩ h
        · replace h := h.2 c7
          refine r_iconst d_X12_fact_60 ?_
          exact r_ireturn d_X12_fact_61 rfl ⟨rfl, Nat.le_refl _, Nat.le_refl _⟩ h
      · replace h := h.2 c6
        refine r_aload_n d_X12_fact_31 0 rfl rfl ?_
        refine r_getJ 12 7 7 rfl d_X12_fact_32 fl_X12_187 (by decide) (bs_ob bs_12) ?_
        refine r_ldc2 (x := 11522) d_X12_fact_35 cst_X12_216 ?_
        refine r_lcmp_ne (tgt := 47) d_X12_fact_38 d_X12_fact_39 (by decide) h3 ⟨by decide, by decide⟩ (fun c14 => ?_) (fun c14 => ?_)
        · replace h := h.1 c14
          refine r_iconst d_X12_fact_47 ?_
          exact r_ireturn d_X12_fact_48 rfl ⟨rfl, Nat.le_refl _, Nat.le_refl _⟩ h
        · replace h := h.2 c14
          refine r_bipush d_X12_fact_42 (by decide +kernel) ?_
          refine r_goto (tgt := 48) d_X12_fact_44 (by decide) ?_
          exact r_ireturn d_X12_fact_48 rfl ⟨rfl, Nat.le_refl _, Nat.le_refl _⟩ h
    · replace h := h.2 c4
      refine r_iconst d_X12_fact_21 ?_
      exact r_ireturn d_X12_fact_22 rfl ⟨rfl, Nat.le_refl _, Nat.le_refl _⟩ h
  · replace h := h.2 c2
    refine r_iconst d_X12_fact_8 ?_
    exact r_ireturn d_X12_fact_9 rfl ⟨rfl, Nat.le_refl _, Nat.le_refl _⟩ h
theorem d_X12_reads_0 : decode M_X12_reads.2.1 0 = .ok (.iconst 0, 1) := by decide +kernel
theorem d_X12_reads_1 : decode M_X12_reads.2.1 1 = .ok (.istore_n 1, 1) := by decide +kernel
theorem d_X12_reads_2 : decode M_X12_reads.2.1 2 = .ok (.iconst 1, 1) := by decide +kernel
theorem d_X12_reads_3 : decode M_X12_reads.2.1 3 = .ok (.istore_n 2, 1) := by decide +kernel
theorem d_X12_reads_4 : decode M_X12_reads.2.1 4 = .ok (.aload_n 0, 1) := by decide +kernel
theorem d_X12_reads_5 : decode M_X12_reads.2.1 5 = .ok (.getfield 68, 3) := by decide +kernel
theorem d_X12_reads_8 : decode M_X12_reads.2.1 8 = .ok (.iconst 0, 1) := by decide +kernel
theorem d_X12_reads_9 : decode M_X12_reads.2.1 9 = .ok (.iconst 0, 1) := by decide +kernel
theorem d_X12_reads_10 : decode M_X12_reads.2.1 10 = .ok (.bastore, 1) := by decide +kernel
theorem d_X12_reads_11 : decode M_X12_reads.2.1 11 = .ok (.iload_n 2, 1) := by decide +kernel
theorem d_X12_reads_12 : decode M_X12_reads.2.1 12 = .ok (.ifCond .eq 167, 3) := by decide +kernel
theorem d_X12_reads_15 : decode M_X12_reads.2.1 15 = .ok (.aload_n 0, 1) := by decide +kernel
theorem d_X12_reads_16 : decode M_X12_reads.2.1 16 = .ok (.invokevirtual 230, 3) := by decide +kernel
theorem d_X12_reads_19 : decode M_X12_reads.2.1 19 = .ok (.istore_n 3, 1) := by decide +kernel
theorem d_X12_reads_20 : decode M_X12_reads.2.1 20 = .ok (.aload_n 0, 1) := by decide +kernel
theorem d_X12_reads_21 : decode M_X12_reads.2.1 21 = .ok (.ldc2_w 234, 3) := by decide +kernel
theorem d_X12_reads_24 : decode M_X12_reads.2.1 24 = .ok (.invokevirtual 236, 3) := by decide +kernel
theorem d_X12_reads_27 : decode M_X12_reads.2.1 27 = .ok (.istore 4, 2) := by decide +kernel
theorem d_X12_reads_29 : decode M_X12_reads.2.1 29 = .ok (.aload_n 0, 1) := by decide +kernel
theorem d_X12_reads_30 : decode M_X12_reads.2.1 30 = .ok (.bipush 40, 2) := by decide +kernel
theorem d_X12_reads_32 : decode M_X12_reads.2.1 32 = .ok (.invokevirtual 240, 3) := by decide +kernel
theorem d_X12_reads_35 : decode M_X12_reads.2.1 35 = .ok (.istore 5, 2) := by decide +kernel
theorem d_X12_reads_37 : decode M_X12_reads.2.1 37 = .ok (.iload_n 3, 1) := by decide +kernel
theorem d_X12_reads_38 : decode M_X12_reads.2.1 38 = .ok (.ifCond .ne 27, 3) := by decide +kernel
theorem d_X12_reads_41 : decode M_X12_reads.2.1 41 = .ok (.iload 4, 2) := by decide +kernel
theorem d_X12_reads_43 : decode M_X12_reads.2.1 43 = .ok (.ifCond .ne 22, 3) := by decide +kernel
theorem d_X12_reads_46 : decode M_X12_reads.2.1 46 = .ok (.iload 5, 2) := by decide +kernel
theorem d_X12_reads_48 : decode M_X12_reads.2.1 48 = .ok (.ifCond .ne 17, 3) := by decide +kernel
theorem d_X12_reads_51 : decode M_X12_reads.2.1 51 = .ok (.aload_n 0, 1) := by decide +kernel
theorem d_X12_reads_52 : decode M_X12_reads.2.1 52 = .ok (.getfield 194, 3) := by decide +kernel
theorem d_X12_reads_55 : decode M_X12_reads.2.1 55 = .ok (.iconst 2, 1) := by decide +kernel
theorem d_X12_reads_56 : decode M_X12_reads.2.1 56 = .ok (.if_icmp .eq 9, 3) := by decide +kernel
theorem d_X12_reads_59 : decode M_X12_reads.2.1 59 = .ok (.aload_n 0, 1) := by decide +kernel
theorem d_X12_reads_60 : decode M_X12_reads.2.1 60 = .ok (.iconst 1, 1) := by decide +kernel
theorem d_X12_reads_61 : decode M_X12_reads.2.1 61 = .ok (.invokevirtual 244, 3) := by decide +kernel
theorem d_X12_reads_64 : decode M_X12_reads.2.1 64 = .ok (.ireturn, 1) := by decide +kernel
theorem d_X12_reads_65 : decode M_X12_reads.2.1 65 = .ok (.iload_n 1, 1) := by decide +kernel
theorem d_X12_reads_66 : decode M_X12_reads.2.1 66 = .ok (.iconst 5, 1) := by decide +kernel
theorem d_X12_reads_67 : decode M_X12_reads.2.1 67 = .ok (.if_icmp .ne 9, 3) := by decide +kernel
theorem d_X12_reads_70 : decode M_X12_reads.2.1 70 = .ok (.aload_n 0, 1) := by decide +kernel
theorem d_X12_reads_71 : decode M_X12_reads.2.1 71 = .ok (.iconst 5, 1) := by decide +kernel
theorem d_X12_reads_72 : decode M_X12_reads.2.1 72 = .ok (.invokevirtual 244, 3) := by decide +kernel
theorem d_X12_reads_75 : decode M_X12_reads.2.1 75 = .ok (.ireturn, 1) := by decide +kernel
theorem d_X12_reads_76 : decode M_X12_reads.2.1 76 = .ok (.iload 4, 2) := by decide +kernel
theorem d_X12_reads_78 : decode M_X12_reads.2.1 78 = .ok (.ifCond .ne 8, 3) := by decide +kernel
theorem d_X12_reads_81 : decode M_X12_reads.2.1 81 = .ok (.iload 5, 2) := by decide +kernel
theorem d_X12_reads_83 : decode M_X12_reads.2.1 83 = .ok (.ifCond .eq 48, 3) := by decide +kernel
theorem d_X12_reads_86 : decode M_X12_reads.2.1 86 = .ok (.aload_n 0, 1) := by decide +kernel
theorem d_X12_reads_87 : decode M_X12_reads.2.1 87 = .ok (.iload 4, 2) := by decide +kernel
theorem d_X12_reads_89 : decode M_X12_reads.2.1 89 = .ok (.ifCond .eq 8, 3) := by decide +kernel
theorem d_X12_reads_92 : decode M_X12_reads.2.1 92 = .ok (.bipush 30, 2) := by decide +kernel
theorem d_X12_reads_94 : decode M_X12_reads.2.1 94 = .ok (.goto 5, 3) := by decide +kernel
theorem d_X12_reads_97 : decode M_X12_reads.2.1 97 = .ok (.bipush 28, 2) := by decide +kernel
theorem d_X12_reads_99 : decode M_X12_reads.2.1 99 = .ok (.invokevirtual 247, 3) := by decide +kernel
theorem d_X12_reads_102 : decode M_X12_reads.2.1 102 = .ok (.iinc 1 1, 3) := by decide +kernel
theorem d_X12_reads_105 : decode M_X12_reads.2.1 105 = .ok (.aload_n 0, 1) := by decide +kernel
theorem d_X12_reads_106 : decode M_X12_reads.2.1 106 = .ok (.getfield 65, 3) := by decide +kernel
theorem d_X12_reads_109 : decode M_X12_reads.2.1 109 = .ok (.iload_n 1, 1) := by decide +kernel
theorem d_X12_reads_110 : decode M_X12_reads.2.1 110 = .ok (.iload 4, 2) := by decide +kernel
theorem d_X12_reads_112 : decode M_X12_reads.2.1 112 = .ok (.ifCond .eq 7, 3) := by decide +kernel
theorem d_X12_reads_115 : decode M_X12_reads.2.1 115 = .ok (.iconst 1, 1) := by decide +kernel
theorem d_X12_reads_116 : decode M_X12_reads.2.1 116 = .ok (.goto 4, 3) := by decide +kernel
theorem d_X12_reads_119 : decode M_X12_reads.2.1 119 = .ok (.iconst 2, 1) := by decide +kernel
theorem d_X12_reads_120 : decode M_X12_reads.2.1 120 = .ok (.iastore, 1) := by decide +kernel
theorem d_X12_reads_121 : decode M_X12_reads.2.1 121 = .ok (.aload_n 0, 1) := by decide +kernel
theorem d_X12_reads_122 : decode M_X12_reads.2.1 122 = .ok (.getfield 68, 3) := by decide +kernel
theorem d_X12_reads_125 : decode M_X12_reads.2.1 125 = .ok (.iload_n 1, 1) := by decide +kernel
theorem d_X12_reads_126 : decode M_X12_reads.2.1 126 = .ok (.iconst 0, 1) := by decide +kernel
theorem d_X12_reads_127 : decode M_X12_reads.2.1 127 = .ok (.bastore, 1) := by decide +kernel
theorem d_X12_reads_128 : decode M_X12_reads.2.1 128 = .ok (.goto 44, 3) := by decide +kernel
theorem d_X12_reads_131 : decode M_X12_reads.2.1 131 = .ok (.aload_n 0, 1) := by decide +kernel
theorem d_X12_reads_132 : decode M_X12_reads.2.1 132 = .ok (.iload_n 3, 1) := by decide +kernel
theorem d_X12_reads_133 : decode M_X12_reads.2.1 133 = .ok (.ifCond .le 7, 3) := by decide +kernel
theorem d_X12_reads_136 : decode M_X12_reads.2.1 136 = .ok (.iload_n 3, 1) := by decide +kernel
theorem d_X12_reads_137 : decode M_X12_reads.2.1 137 = .ok (.goto 10, 3) := by decide +kernel
theorem d_X12_reads_140 : decode M_X12_reads.2.1 140 = .ok (.bipush 100, 2) := by decide +kernel
theorem d_X12_reads_142 : decode M_X12_reads.2.1 142 = .ok (.aload_n 0, 1) := by decide +kernel
theorem d_X12_reads_143 : decode M_X12_reads.2.1 143 = .ok (.getfield 191, 3) := by decide +kernel
theorem d_X12_reads_146 : decode M_X12_reads.2.1 146 = .ok (.iadd, 1) := by decide +kernel
theorem d_X12_reads_147 : decode M_X12_reads.2.1 147 = .ok (.invokevirtual 247, 3) := by decide +kernel
theorem d_X12_reads_150 : decode M_X12_reads.2.1 150 = .ok (.iconst 0, 1) := by decide +kernel
theorem d_X12_reads_151 : decode M_X12_reads.2.1 151 = .ok (.istore_n 2, 1) := by decide +kernel
theorem d_X12_reads_152 : decode M_X12_reads.2.1 152 = .ok (.iload_n 1, 1) := by decide +kernel
theorem d_X12_reads_153 : decode M_X12_reads.2.1 153 = .ok (.ifCond .le 19, 3) := by decide +kernel
theorem d_X12_reads_156 : decode M_X12_reads.2.1 156 = .ok (.aload_n 0, 1) := by decide +kernel
theorem d_X12_reads_157 : decode M_X12_reads.2.1 157 = .ok (.getfield 65, 3) := by decide +kernel
theorem d_X12_reads_160 : decode M_X12_reads.2.1 160 = .ok (.iload_n 1, 1) := by decide +kernel
theorem d_X12_reads_161 : decode M_X12_reads.2.1 161 = .ok (.iaload, 1) := by decide +kernel
theorem d_X12_reads_162 : decode M_X12_reads.2.1 162 = .ok (.iconst 1, 1) := by decide +kernel
theorem d_X12_reads_163 : decode M_X12_reads.2.1 163 = .ok (.if_icmp .ne 9, 3) := by decide +kernel
theorem d_X12_reads_166 : decode M_X12_reads.2.1 166 = .ok (.iinc 1 (-1), 3) := by decide +kernel
theorem d_X12_reads_169 : decode M_X12_reads.2.1 169 = .ok (.goto (-17), 3) := by decide +kernel
theorem d_X12_reads_172 : decode M_X12_reads.2.1 172 = .ok (.aload_n 0, 1) := by decide +kernel
theorem d_X12_reads_173 : decode M_X12_reads.2.1 173 = .ok (.invokevirtual 250, 3) := by decide +kernel
theorem d_X12_reads_176 : decode M_X12_reads.2.1 176 = .ok (.goto (-165), 3) := by decide +kernel
theorem d_X12_reads_179 : decode M_X12_reads.2.1 179 = .ok (.aload_n 0, 1) := by decide +kernel
theorem d_X12_reads_180 : decode M_X12_reads.2.1 180 = .ok (.bipush 43, 2) := by decide +kernel
theorem d_X12_reads_182 : decode M_X12_reads.2.1 182 = .ok (.invokevirtual 240, 3) := by decide +kernel
theorem d_X12_reads_185 : decode M_X12_reads.2.1 185 = .ok (.ifCond .ne 21, 3) := by decide +kernel
theorem d_X12_reads_188 : decode M_X12_reads.2.1 188 = .ok (.aload_n 0, 1) := by decide +kernel
theorem d_X12_reads_189 : decode M_X12_reads.2.1 189 = .ok (.bipush 45, 2) := by decide +kernel
theorem d_X12_reads_191 : decode M_X12_reads.2.1 191 = .ok (.invokevirtual 240, 3) := by decide +kernel
theorem d_X12_reads_194 : decode M_X12_reads.2.1 194 = .ok (.ifCond .ne 12, 3) := by decide +kernel
theorem d_X12_reads_197 : decode M_X12_reads.2.1 197 = .ok (.aload_n 0, 1) := by decide +kernel
theorem d_X12_reads_198 : decode M_X12_reads.2.1 198 = .ok (.bipush 42, 2) := by decide +kernel
theorem d_X12_reads_200 : decode M_X12_reads.2.1 200 = .ok (.invokevirtual 240, 3) := by decide +kernel
theorem d_X12_reads_203 : decode M_X12_reads.2.1 203 = .ok (.ifCond .eq 42, 3) := by decide +kernel
theorem d_X12_reads_206 : decode M_X12_reads.2.1 206 = .ok (.aload_n 0, 1) := by decide +kernel
theorem d_X12_reads_207 : decode M_X12_reads.2.1 207 = .ok (.aload_n 0, 1) := by decide +kernel
theorem d_X12_reads_208 : decode M_X12_reads.2.1 208 = .ok (.bipush 43, 2) := by decide +kernel
theorem d_X12_reads_210 : decode M_X12_reads.2.1 210 = .ok (.invokevirtual 240, 3) := by decide +kernel
theorem d_X12_reads_213 : decode M_X12_reads.2.1 213 = .ok (.ifCond .eq 8, 3) := by decide +kernel
theorem d_X12_reads_216 : decode M_X12_reads.2.1 216 = .ok (.bipush 20, 2) := by decide +kernel
theorem d_X12_reads_218 : decode M_X12_reads.2.1 218 = .ok (.goto 19, 3) := by decide +kernel
theorem d_X12_reads_221 : decode M_X12_reads.2.1 221 = .ok (.aload_n 0, 1) := by decide +kernel
theorem d_X12_reads_222 : decode M_X12_reads.2.1 222 = .ok (.bipush 45, 2) := by decide +kernel
theorem d_X12_reads_224 : decode M_X12_reads.2.1 224 = .ok (.invokevirtual 240, 3) := by decide +kernel
theorem d_X12_reads_227 : decode M_X12_reads.2.1 227 = .ok (.ifCond .eq 8, 3) := by decide +kernel
theorem d_X12_reads_230 : decode M_X12_reads.2.1 230 = .ok (.bipush 21, 2) := by decide +kernel
theorem d_X12_reads_232 : decode M_X12_reads.2.1 232 = .ok (.goto 5, 3) := by decide +kernel
theorem d_X12_reads_235 : decode M_X12_reads.2.1 235 = .ok (.bipush 22, 2) := by decide +kernel
theorem d_X12_reads_237 : decode M_X12_reads.2.1 237 = .ok (.invokevirtual 247, 3) := by decide +kernel
theorem d_X12_reads_240 : decode M_X12_reads.2.1 240 = .ok (.iconst 1, 1) := by decide +kernel
theorem d_X12_reads_241 : decode M_X12_reads.2.1 241 = .ok (.istore_n 2, 1) := by decide +kernel
theorem d_X12_reads_242 : decode M_X12_reads.2.1 242 = .ok (.goto 182, 3) := by decide +kernel
theorem d_X12_reads_245 : decode M_X12_reads.2.1 245 = .ok (.aload_n 0, 1) := by decide +kernel
theorem d_X12_reads_246 : decode M_X12_reads.2.1 246 = .ok (.bipush 60, 2) := by decide +kernel
theorem d_X12_reads_248 : decode M_X12_reads.2.1 248 = .ok (.invokevirtual 240, 3) := by decide +kernel
theorem d_X12_reads_251 : decode M_X12_reads.2.1 251 = .ok (.ifCond .ne 12, 3) := by decide +kernel
theorem d_X12_reads_254 : decode M_X12_reads.2.1 254 = .ok (.aload_n 0, 1) := by decide +kernel
theorem d_X12_reads_255 : decode M_X12_reads.2.1 255 = .ok (.bipush 61, 2) := by decide +kernel
theorem d_X12_reads_257 : decode M_X12_reads.2.1 257 = .ok (.invokevirtual 240, 3) := by decide +kernel
theorem d_X12_reads_260 : decode M_X12_reads.2.1 260 = .ok (.ifCond .eq 44, 3) := by decide +kernel
theorem d_X12_reads_263 : decode M_X12_reads.2.1 263 = .ok (.aload_n 0, 1) := by decide +kernel
theorem d_X12_reads_264 : decode M_X12_reads.2.1 264 = .ok (.getfield 68, 3) := by decide +kernel
theorem d_X12_reads_267 : decode M_X12_reads.2.1 267 = .ok (.iload_n 1, 1) := by decide +kernel
theorem d_X12_reads_268 : decode M_X12_reads.2.1 268 = .ok (.baload, 1) := by decide +kernel
theorem d_X12_reads_269 : decode M_X12_reads.2.1 269 = .ok (.ifCond .ne 35, 3) := by decide +kernel
theorem d_X12_reads_272 : decode M_X12_reads.2.1 272 = .ok (.aload_n 0, 1) := by decide +kernel
theorem d_X12_reads_273 : decode M_X12_reads.2.1 273 = .ok (.aload_n 0, 1) := by decide +kernel
theorem d_X12_reads_274 : decode M_X12_reads.2.1 274 = .ok (.bipush 60, 2) := by decide +kernel
theorem d_X12_reads_276 : decode M_X12_reads.2.1 276 = .ok (.invokevirtual 240, 3) := by decide +kernel
theorem d_X12_reads_279 : decode M_X12_reads.2.1 279 = .ok (.ifCond .eq 8, 3) := by decide +kernel
theorem d_X12_reads_282 : decode M_X12_reads.2.1 282 = .ok (.bipush 24, 2) := by decide +kernel
theorem d_X12_reads_284 : decode M_X12_reads.2.1 284 = .ok (.goto 5, 3) := by decide +kernel
theorem d_X12_reads_287 : decode M_X12_reads.2.1 287 = .ok (.bipush 25, 2) := by decide +kernel
theorem d_X12_reads_289 : decode M_X12_reads.2.1 289 = .ok (.invokevirtual 247, 3) := by decide +kernel
theorem d_X12_reads_292 : decode M_X12_reads.2.1 292 = .ok (.aload_n 0, 1) := by decide +kernel
theorem d_X12_reads_293 : decode M_X12_reads.2.1 293 = .ok (.getfield 68, 3) := by decide +kernel
theorem d_X12_reads_296 : decode M_X12_reads.2.1 296 = .ok (.iload_n 1, 1) := by decide +kernel
theorem d_X12_reads_297 : decode M_X12_reads.2.1 297 = .ok (.iconst 1, 1) := by decide +kernel
theorem d_X12_reads_298 : decode M_X12_reads.2.1 298 = .ok (.bastore, 1) := by decide +kernel
theorem d_X12_reads_299 : decode M_X12_reads.2.1 299 = .ok (.iconst 1, 1) := by decide +kernel
theorem d_X12_reads_300 : decode M_X12_reads.2.1 300 = .ok (.istore_n 2, 1) := by decide +kernel
theorem d_X12_reads_301 : decode M_X12_reads.2.1 301 = .ok (.goto 123, 3) := by decide +kernel
theorem d_X12_reads_304 : decode M_X12_reads.2.1 304 = .ok (.aload_n 0, 1) := by decide +kernel
theorem d_X12_reads_305 : decode M_X12_reads.2.1 305 = .ok (.ldc2_w 253, 3) := by decide +kernel
theorem d_X12_reads_308 : decode M_X12_reads.2.1 308 = .ok (.invokevirtual 236, 3) := by decide +kernel
theorem d_X12_reads_311 : decode M_X12_reads.2.1 311 = .ok (.ifCond .ne 13, 3) := by decide +kernel
theorem d_X12_reads_314 : decode M_X12_reads.2.1 314 = .ok (.aload_n 0, 1) := by decide +kernel
theorem d_X12_reads_315 : decode M_X12_reads.2.1 315 = .ok (.ldc2_w 255, 3) := by decide +kernel
theorem d_X12_reads_318 : decode M_X12_reads.2.1 318 = .ok (.invokevirtual 236, 3) := by decide +kernel
theorem d_X12_reads_321 : decode M_X12_reads.2.1 321 = .ok (.ifCond .eq 36, 3) := by decide +kernel
theorem d_X12_reads_324 : decode M_X12_reads.2.1 324 = .ok (.aload_n 0, 1) := by decide +kernel
theorem d_X12_reads_325 : decode M_X12_reads.2.1 325 = .ok (.aload_n 0, 1) := by decide +kernel
theorem d_X12_reads_326 : decode M_X12_reads.2.1 326 = .ok (.ldc2_w 253, 3) := by decide +kernel
theorem d_X12_reads_329 : decode M_X12_reads.2.1 329 = .ok (.invokevirtual 236, 3) := by decide +kernel
theorem d_X12_reads_332 : decode M_X12_reads.2.1 332 = .ok (.ifCond .eq 8, 3) := by decide +kernel
theorem d_X12_reads_335 : decode M_X12_reads.2.1 335 = .ok (.bipush 26, 2) := by decide +kernel
theorem d_X12_reads_337 : decode M_X12_reads.2.1 337 = .ok (.goto 5, 3) := by decide +kernel
theorem d_X12_reads_340 : decode M_X12_reads.2.1 340 = .ok (.bipush 27, 2) := by decide +kernel
theorem d_X12_reads_342 : decode M_X12_reads.2.1 342 = .ok (.invokevirtual 247, 3) := by decide +kernel
theorem d_X12_reads_345 : decode M_X12_reads.2.1 345 = .ok (.aload_n 0, 1) := by decide +kernel
theorem d_X12_reads_346 : decode M_X12_reads.2.1 346 = .ok (.getfield 68, 3) := by decide +kernel
theorem d_X12_reads_349 : decode M_X12_reads.2.1 349 = .ok (.iload_n 1, 1) := by decide +kernel
theorem d_X12_reads_350 : decode M_X12_reads.2.1 350 = .ok (.iconst 0, 1) := by decide +kernel
theorem d_X12_reads_351 : decode M_X12_reads.2.1 351 = .ok (.bastore, 1) := by decide +kernel
theorem d_X12_reads_352 : decode M_X12_reads.2.1 352 = .ok (.iconst 1, 1) := by decide +kernel
theorem d_X12_reads_353 : decode M_X12_reads.2.1 353 = .ok (.istore_n 2, 1) := by decide +kernel
theorem d_X12_reads_354 : decode M_X12_reads.2.1 354 = .ok (.goto 70, 3) := by decide +kernel
theorem d_X12_reads_357 : decode M_X12_reads.2.1 357 = .ok (.aload_n 0, 1) := by decide +kernel
theorem d_X12_reads_358 : decode M_X12_reads.2.1 358 = .ok (.bipush 41, 2) := by decide +kernel
theorem d_X12_reads_360 : decode M_X12_reads.2.1 360 = .ok (.invokevirtual 240, 3) := by decide +kernel
theorem d_X12_reads_363 : decode M_X12_reads.2.1 363 = .ok (.ifCond .eq 36, 3) := by decide +kernel
theorem d_X12_reads_366 : decode M_X12_reads.2.1 366 = .ok (.iload_n 1, 1) := by decide +kernel
theorem d_X12_reads_367 : decode M_X12_reads.2.1 367 = .ok (.ifCond .le 32, 3) := by decide +kernel
theorem d_X12_reads_370 : decode M_X12_reads.2.1 370 = .ok (.aload_n 0, 1) := by decide +kernel
theorem d_X12_reads_371 : decode M_X12_reads.2.1 371 = .ok (.bipush 29, 2) := by decide +kernel
theorem d_X12_reads_373 : decode M_X12_reads.2.1 373 = .ok (.invokevirtual 247, 3) := by decide +kernel
theorem d_X12_reads_376 : decode M_X12_reads.2.1 376 = .ok (.iinc 1 (-1), 3) := by decide +kernel
theorem d_X12_reads_379 : decode M_X12_reads.2.1 379 = .ok (.iload_n 1, 1) := by decide +kernel
theorem d_X12_reads_380 : decode M_X12_reads.2.1 380 = .ok (.ifCond .le 44, 3) := by decide +kernel
theorem d_X12_reads_383 : decode M_X12_reads.2.1 383 = .ok (.aload_n 0, 1) := by decide +kernel
theorem d_X12_reads_384 : decode M_X12_reads.2.1 384 = .ok (.getfield 65, 3) := by decide +kernel
theorem d_X12_reads_387 : decode M_X12_reads.2.1 387 = .ok (.iload_n 1, 1) := by decide +kernel
theorem d_X12_reads_388 : decode M_X12_reads.2.1 388 = .ok (.iaload, 1) := by decide +kernel
theorem d_X12_reads_389 : decode M_X12_reads.2.1 389 = .ok (.iconst 1, 1) := by decide +kernel
theorem d_X12_reads_390 : decode M_X12_reads.2.1 390 = .ok (.if_icmp .ne 34, 3) := by decide +kernel
theorem d_X12_reads_393 : decode M_X12_reads.2.1 393 = .ok (.iinc 1 (-1), 3) := by decide +kernel
theorem d_X12_reads_396 : decode M_X12_reads.2.1 396 = .ok (.goto (-17), 3) := by decide +kernel
theorem d_X12_reads_399 : decode M_X12_reads.2.1 399 = .ok (.iload_n 1, 1) := by decide +kernel
theorem d_X12_reads_400 : decode M_X12_reads.2.1 400 = .ok (.ifCond .ne 18, 3) := by decide +kernel
theorem d_X12_reads_403 : decode M_X12_reads.2.1 403 = .ok (.aload_n 0, 1) := by decide +kernel
theorem d_X12_reads_404 : decode M_X12_reads.2.1 404 = .ok (.bipush 59, 2) := by decide +kernel
theorem d_X12_reads_406 : decode M_X12_reads.2.1 406 = .ok (.invokevirtual 240, 3) := by decide +kernel
theorem d_X12_reads_409 : decode M_X12_reads.2.1 409 = .ok (.ifCond .eq 9, 3) := by decide +kernel
theorem d_X12_reads_412 : decode M_X12_reads.2.1 412 = .ok (.aload_n 0, 1) := by decide +kernel
theorem d_X12_reads_413 : decode M_X12_reads.2.1 413 = .ok (.invokevirtual 250, 3) := by decide +kernel
theorem d_X12_reads_416 : decode M_X12_reads.2.1 416 = .ok (.iconst 1, 1) := by decide +kernel
theorem d_X12_reads_417 : decode M_X12_reads.2.1 417 = .ok (.ireturn, 1) := by decide +kernel
theorem d_X12_reads_418 : decode M_X12_reads.2.1 418 = .ok (.aload_n 0, 1) := by decide +kernel
theorem d_X12_reads_419 : decode M_X12_reads.2.1 419 = .ok (.iconst 1, 1) := by decide +kernel
theorem d_X12_reads_420 : decode M_X12_reads.2.1 420 = .ok (.invokevirtual 244, 3) := by decide +kernel
theorem d_X12_reads_423 : decode M_X12_reads.2.1 423 = .ok (.ireturn, 1) := by decide +kernel
theorem d_X12_reads_424 : decode M_X12_reads.2.1 424 = .ok (.aload_n 0, 1) := by decide +kernel
theorem d_X12_reads_425 : decode M_X12_reads.2.1 425 = .ok (.invokevirtual 250, 3) := by decide +kernel
theorem d_X12_reads_428 : decode M_X12_reads.2.1 428 = .ok (.goto (-417), 3) := by decide +kernel
set_option maxRecDepth 20000 in
theorem s_X12_reads_0 {d : Nat}  {G : Mem} {Q : Int → Mem → Prop}  (h : (∀ G1 : Mem, G1 = st G 331 0 0 → Rn d M_X12_reads zN 11 [(0, (2, 311)), (1, (0, 0)), (2, (0, 1))] [] G1 Q)) : Rn d M_X12_reads zN 0 [(0, (2, 311))] [] G Q := by
  refine r_iconst d_X12_reads_0 ?_
  refine r_istore_n (ls1 := [(1, (0, 0)), (0, (2, 311))]) d_X12_reads_1 rfl (by decide) rfl ?_
  refine r_iconst d_X12_reads_2 ?_
  refine r_istore_n (ls1 := [(2, (0, 1)), (1, (0, 0)), (0, (2, 311))]) d_X12_reads_3 rfl (by decide) rfl ?_
  refine r_aload_n d_X12_reads_4 2 rfl rfl ?_
  refine r_getL (v := 331) 12 31 31 rfl d_X12_reads_5 fl_X12_68 (by decide) (bs_ob bs_12) (ly_12_31 bs_12).1 (ly_12_31 bs_12).2.1 ?_
  refine r_iconst d_X12_reads_8 ?_
  refine r_iconst d_X12_reads_9 ?_
  obtain ⟨G1, eG1⟩ : ∃ y : Mem, y = st G 331 0 0 := ⟨_, rfl⟩
  replace h := h G1 eG1
  refine r_zastore d_X12_reads_10 (ly_12_31 bs_12).2.2 (by decide) (by decide) ?_
  rw [← eG1]
  exact Rn.sub [2, 1, 0] rfl h
set_option maxRecDepth 20000 in
theorem s_X12_reads_11 {d : Nat} {x1 : Int} {x2 : Int} {G : Mem} {Q : Int → Mem → Prop}  (h : (InR x2) ∧ ((x2 = 0) → Ct d M_X12_isSign NT 0 0 (some lay) [(2, 311), (0, 43)] G (fun r4 G3 => (InR r4) ∧ ((r4 ≠ 0) → Rn (d + 1) M_X12_reads zN 206 [(0, (2, 311)), (1, (0, x1))] [] G3 Q) ∧ (¬ (r4 ≠ 0) → Ct d M_X12_isSign NT 0 0 (some lay) [(2, 311), (0, 45)] G3 (fun r8 G7 => (InR r8) ∧ ((r8 ≠ 0) → Rn (d + 1) M_X12_reads zN 206 [(0, (2, 311)), (1, (0, x1))] [] G7 Q) ∧ (¬ (r8 ≠ 0) → Ct d M_X12_isSign NT 0 0 (some lay) [(2, 311), (0, 42)] G7 (fun r12 G11 => (InR r12) ∧ ((r12 = 0) → Ct d M_X12_isSign NT 0 0 (some lay) [(2, 311), (0, 60)] G11 (fun r16 G15 => (InR r16) ∧ ((r16 ≠ 0) → Rn (d + 1) M_X12_reads zN 263 [(0, (2, 311)), (1, (0, x1)), (2, (0, x2))] [] G15 Q) ∧ (¬ (r16 ≠ 0) → Ct d M_X12_isSign NT 0 0 (some lay) [(2, 311), (0, 61)] G15 (fun r20 G19 => (InR r20) ∧ ((r20 = 0) → Rn (d + 1) M_X12_reads zN 304 [(0, (2, 311)), (1, (0, x1)), (2, (0, x2))] [] G19 Q) ∧ (¬ (r20 = 0) → Rn (d + 1) M_X12_reads zN 263 [(0, (2, 311)), (1, (0, x1)), (2, (0, x2))] [] G19 Q))))) ∧ (¬ (r12 = 0) → Rn (d + 1) M_X12_reads zN 206 [(0, (2, 311)), (1, (0, x1))] [] G11 Q))))))) ∧ (¬ (x2 = 0) → Ct d M_X12_fact NT 0 0 (some lay) [(2, 311)] G (fun r24 G23 => Ct d M_X12_isWord NT 0 0 (some lay) [(2, 311), (1, 10631)] G23 (fun r26 G25 => Ct d M_X12_isSign NT 0 0 (some lay) [(2, 311), (0, 40)] G25 (fun r28 G27 => (InR r24) ∧ ((r24 ≠ 0) → Rn (d + 1) M_X12_reads zN 65 [(0, (2, 311)), (1, (0, x1)), (2, (0, x2)), (3, (0, r24)), (4, (0, r26)), (5, (0, r28))] [] G27 Q) ∧ (¬ (r24 ≠ 0) → (InR r26) ∧ ((r26 ≠ 0) → Rn (d + 1) M_X12_reads zN 65 [(0, (2, 311)), (1, (0, x1)), (2, (0, x2)), (3, (0, r24)), (4, (0, r26)), (5, (0, r28))] [] G27 Q) ∧ (¬ (r26 ≠ 0) → (InR r28) ∧ ((r28 ≠ 0) → Rn (d + 1) M_X12_reads zN 65 [(0, (2, 311)), (1, (0, x1)), (2, (0, x2)), (3, (0, r24)), (4, (0, r26)), (5, (0, r28))] [] G27 Q) ∧ (¬ (r28 ≠ 0) → (InR (G27 311 6)) ∧ (((G27 311 6) = 2) → Rn (d + 1) M_X12_reads zN 65 [(0, (2, 311)), (1, (0, x1)), (2, (0, x2)), (3, (0, r24)), (4, (0, r26)), (5, (0, r28))] [] G27 Q) ∧ (¬ ((G27 311 6) = 2) → Ct d M_X12_fails NT 0 0 (some lay) [(2, 311), (0, 1)] G27 (fun r38 G37 => (r38 = 0 ∨ r38 = 1) ∧ Q r38 G37)))))))))) : Rn (d + 1) M_X12_reads zN 11 [(0, (2, 311)), (1, (0, x1)), (2, (0, x2))] [] G Q := by
  refine r_iload_n d_X12_reads_11 2 rfl rfl ?_
  obtain ⟨h1, h⟩ := h
  refine r_if_eq (tgt := 179) d_X12_reads_12 (by decide) h1 (fun c2 => ?_) (fun c2 => ?_)
  · replace h := h.1 c2
    refine r_aload_n d_X12_reads_179 0 rfl rfl ?_
    refine r_bipush d_X12_reads_180 (by decide +kernel) ?_
    refine r_callV0 (M' := M_X12_isSign) (ci := 12) [(0, 43)] d_X12_reads_182 cl_X12_240 rfl (Nat.le_of_ble_eq_true rfl) (by decide) rfl (bs_ob bs_12) ?_
    refine Ct.mono h (fun r4 G3 h => ?_)
    show Rn _ M_X12_reads zN 185 [(0, (2, 311)), (1, (0, x1)), (2, (0, x2))] [(0, r4)] G3 Q
    obtain ⟨h5, h⟩ := h
    refine r_if_ne (tgt := 206) d_X12_reads_185 (by decide) h5 (fun c6 => ?_) (fun c6 => ?_)
    · replace h := h.1 c6
      exact Rn.sub [0, 1] rfl h
    · replace h := h.2 c6
      refine r_aload_n d_X12_reads_188 0 rfl rfl ?_
      refine r_bipush d_X12_reads_189 (by decide +kernel) ?_
      refine r_callV0 (M' := M_X12_isSign) (ci := 12) [(0, 45)] d_X12_reads_191 cl_X12_240 rfl (Nat.le_of_ble_eq_true rfl) (by decide) rfl (bs_ob bs_12) ?_
      refine Ct.mono h (fun r8 G7 h => ?_)
      show Rn _ M_X12_reads zN 194 [(0, (2, 311)), (1, (0, x1)), (2, (0, x2))] [(0, r8)] G7 Q
      obtain ⟨h9, h⟩ := h
      refine r_if_ne (tgt := 206) d_X12_reads_194 (by decide) h9 (fun c10 => ?_) (fun c10 => ?_)
      · replace h := h.1 c10
        exact Rn.sub [0, 1] rfl h
      · replace h := h.2 c10
        refine r_aload_n d_X12_reads_197 0 rfl rfl ?_
        refine r_bipush d_X12_reads_198 (by decide +kernel) ?_
        refine r_callV0 (M' := M_X12_isSign) (ci := 12) [(0, 42)] d_X12_reads_200 cl_X12_240 rfl (Nat.le_of_ble_eq_true rfl) (by decide) rfl (bs_ob bs_12) ?_
        refine Ct.mono h (fun r12 G11 h => ?_)
        show Rn _ M_X12_reads zN 203 [(0, (2, 311)), (1, (0, x1)), (2, (0, x2))] [(0, r12)] G11 Q
        obtain ⟨h13, h⟩ := h
        refine r_if_eq (tgt := 245) d_X12_reads_203 (by decide) h13 (fun c14 => ?_) (fun c14 => ?_)
        · replace h := h.1 c14
          refine r_aload_n d_X12_reads_245 0 rfl rfl ?_
          refine r_bipush d_X12_reads_246 (by decide +kernel) ?_
          refine r_callV0 (M' := M_X12_isSign) (ci := 12) [(0, 60)] d_X12_reads_248 cl_X12_240 rfl (Nat.le_of_ble_eq_true rfl) (by decide) rfl (bs_ob bs_12) ?_
          refine Ct.mono h (fun r16 G15 h => ?_)
          show Rn _ M_X12_reads zN 251 [(0, (2, 311)), (1, (0, x1)), (2, (0, x2))] [(0, r16)] G15 Q
          obtain ⟨h17, h⟩ := h
          refine r_if_ne (tgt := 263) d_X12_reads_251 (by decide) h17 (fun c18 => ?_) (fun c18 => ?_)
          · replace h := h.1 c18
            exact h
          · replace h := h.2 c18
            refine r_aload_n d_X12_reads_254 0 rfl rfl ?_
            refine r_bipush d_X12_reads_255 (by decide +kernel) ?_
            refine r_callV0 (M' := M_X12_isSign) (ci := 12) [(0, 61)] d_X12_reads_257 cl_X12_240 rfl (Nat.le_of_ble_eq_true rfl) (by decide) rfl (bs_ob bs_12) ?_
            refine Ct.mono h (fun r20 G19 h => ?_)
            show Rn _ M_X12_reads zN 260 [(0, (2, 311)), (1, (0, x1)), (2, (0, x2))] [(0, r20)] G19 Q
            obtain ⟨h21, h⟩ := h
            refine r_if_eq (tgt := 304) d_X12_reads_260 (by decide) h21 (fun c22 => ?_) (fun c22 => ?_)
            · replace h := h.1 c22
              exact h
            · replace h := h.2 c22
              exact h
        · replace h := h.2 c14
          exact Rn.sub [0, 1] rfl h
  · replace h := h.2 c2
    refine r_aload_n d_X12_reads_15 0 rfl rfl ?_
    refine r_callV0 (M' := M_X12_fact) (ci := 12) [] d_X12_reads_16 cl_X12_230 rfl (Nat.le_of_ble_eq_true rfl) (by decide) rfl (bs_ob bs_12) ?_
    refine Ct.mono h (fun r24 G23 h => ?_)
    show Rn _ M_X12_reads zN 19 [(0, (2, 311)), (1, (0, x1)), (2, (0, x2))] [(0, r24)] G23 Q
    refine r_istore_n (ls1 := [(3, (0, r24)), (0, (2, 311)), (1, (0, x1)), (2, (0, x2))]) d_X12_reads_19 rfl (by decide) rfl ?_
    refine r_aload_n d_X12_reads_20 1 rfl rfl ?_
    refine r_ldc2 (x := 10631) d_X12_reads_21 cst_X12_234 ?_
    refine r_callV0 (M' := M_X12_isWord) (ci := 12) [(1, 10631)] d_X12_reads_24 cl_X12_236 rfl (Nat.le_of_ble_eq_true rfl) (by decide) rfl (bs_ob bs_12) ?_
    refine Ct.mono h (fun r26 G25 h => ?_)
    show Rn _ M_X12_reads zN 27 [(3, (0, r24)), (0, (2, 311)), (1, (0, x1)), (2, (0, x2))] [(0, r26)] G25 Q
    refine r_istore (ls1 := [(4, (0, r26)), (3, (0, r24)), (0, (2, 311)), (1, (0, x1)), (2, (0, x2))]) d_X12_reads_27 (by decide) rfl ?_
    refine r_aload_n d_X12_reads_29 2 rfl rfl ?_
    refine r_bipush d_X12_reads_30 (by decide +kernel) ?_
    refine r_callV0 (M' := M_X12_isSign) (ci := 12) [(0, 40)] d_X12_reads_32 cl_X12_240 rfl (Nat.le_of_ble_eq_true rfl) (by decide) rfl (bs_ob bs_12) ?_
    refine Ct.mono h (fun r28 G27 h => ?_)
    show Rn _ M_X12_reads zN 35 [(4, (0, r26)), (3, (0, r24)), (0, (2, 311)), (1, (0, x1)), (2, (0, x2))] [(0, r28)] G27 Q
    refine r_istore (ls1 := [(5, (0, r28)), (4, (0, r26)), (3, (0, r24)), (0, (2, 311)), (1, (0, x1)), (2, (0, x2))]) d_X12_reads_35 (by decide) rfl ?_
    refine r_iload_n d_X12_reads_37 2 rfl rfl ?_
    obtain ⟨h29, h⟩ := h
    refine r_if_ne (tgt := 65) d_X12_reads_38 (by decide) h29 (fun c30 => ?_) (fun c30 => ?_)
    · replace h := h.1 c30
      exact Rn.sub [3, 4, 5, 2, 1, 0] rfl h
    · replace h := h.2 c30
      refine r_iload d_X12_reads_41 1 rfl ?_
      obtain ⟨h31, h⟩ := h
      refine r_if_ne (tgt := 65) d_X12_reads_43 (by decide) h31 (fun c32 => ?_) (fun c32 => ?_)
      · replace h := h.1 c32
        exact Rn.sub [3, 4, 5, 2, 1, 0] rfl h
      · replace h := h.2 c32
        refine r_iload d_X12_reads_46 0 rfl ?_
        obtain ⟨h33, h⟩ := h
        refine r_if_ne (tgt := 65) d_X12_reads_48 (by decide) h33 (fun c34 => ?_) (fun c34 => ?_)
        · replace h := h.1 c34
          exact Rn.sub [3, 4, 5, 2, 1, 0] rfl h
        · replace h := h.2 c34
          refine r_aload_n d_X12_reads_51 3 rfl rfl ?_
          refine r_getI 12 6 6 rfl d_X12_reads_52 fl_X12_194 (by decide) (bs_ob bs_12) ?_
          refine r_iconst d_X12_reads_55 ?_
          obtain ⟨h35, h⟩ := h
          refine r_icmp_eq (tgt := 65) d_X12_reads_56 (by decide) h35 ⟨by decide, by decide⟩ (fun c36 => ?_) (fun c36 => ?_)
          · replace h := h.1 c36
            exact Rn.sub [3, 4, 5, 2, 1, 0] rfl h
          · replace h := h.2 c36
            refine r_aload_n d_X12_reads_59 3 rfl rfl ?_
            refine r_iconst d_X12_reads_60 ?_
            refine r_callV0 (M' := M_X12_fails) (ci := 12) [(0, 1)] d_X12_reads_61 cl_X12_244 rfl (Nat.le_of_ble_eq_true rfl) (by decide) rfl (bs_ob bs_12) ?_
            refine Ct.mono h (fun r38 G37 h => ?_)
            show Rn _ M_X12_reads zN 64 [(5, (0, r28)), (4, (0, r26)), (3, (0, r24)), (0, (2, 311)), (1, (0, x1)), (2, (0, x2))] [(0, r38)] G37 Q
            exact r_zreturn d_X12_reads_64 rfl ⟨rfl, Nat.le_refl _, Nat.le_refl _⟩ h.1 h.2
set_option maxRecDepth 20000 in
theorem s_X12_reads_206 {d : Nat} {x1 : Int} {G : Mem} {Q : Int → Mem → Prop}  (h : Ct d M_X12_isSign NT 0 0 (some lay) [(2, 311), (0, 43)] G (fun r2 G1 => (InR r2) ∧ ((r2 = 0) → Ct d M_X12_isSign NT 0 0 (some lay) [(2, 311), (0, 45)] G1 (fun r6 G5 => (InR r6) ∧ ((r6 = 0) → Rn (d + 1) M_X12_reads zN 237 [(0, (2, 311)), (1, (0, x1))] [(0, 22), (2, 311)] G5 Q) ∧ (¬ (r6 = 0) → Rn (d + 1) M_X12_reads zN 237 [(0, (2, 311)), (1, (0, x1))] [(0, 21), (2, 311)] G5 Q))) ∧ (¬ (r2 = 0) → Rn (d + 1) M_X12_reads zN 237 [(0, (2, 311)), (1, (0, x1))] [(0, 20), (2, 311)] G1 Q))) : Rn (d + 1) M_X12_reads zN 206 [(0, (2, 311)), (1, (0, x1))] [] G Q := by
  refine r_aload_n d_X12_reads_206 0 rfl rfl ?_
  refine r_aload_n d_X12_reads_207 0 rfl rfl ?_
  refine r_bipush d_X12_reads_208 (by decide +kernel) ?_
  refine r_callV0 (M' := M_X12_isSign) (ci := 12) [(0, 43)] d_X12_reads_210 cl_X12_240 rfl (Nat.le_of_ble_eq_true rfl) (by decide) rfl (bs_ob bs_12) ?_
  refine Ct.mono h (fun r2 G1 h => ?_)
  show Rn _ M_X12_reads zN 213 [(0, (2, 311)), (1, (0, x1))] [(0, r2), (2, 311)] G1 Q
  obtain ⟨h3, h⟩ := h
  refine r_if_eq (tgt := 221) d_X12_reads_213 (by decide) h3 (fun c4 => ?_) (fun c4 => ?_)
  · replace h := h.1 c4
    refine r_aload_n d_X12_reads_221 0 rfl rfl ?_
    refine r_bipush d_X12_reads_222 (by decide +kernel) ?_
    refine r_callV0 (M' := M_X12_isSign) (ci := 12) [(0, 45)] d_X12_reads_224 cl_X12_240 rfl (Nat.le_of_ble_eq_true rfl) (by decide) rfl (bs_ob bs_12) ?_
    refine Ct.mono h (fun r6 G5 h => ?_)
    show Rn _ M_X12_reads zN 227 [(0, (2, 311)), (1, (0, x1))] [(0, r6), (2, 311)] G5 Q
    obtain ⟨h7, h⟩ := h
    refine r_if_eq (tgt := 235) d_X12_reads_227 (by decide) h7 (fun c8 => ?_) (fun c8 => ?_)
    · replace h := h.1 c8
      refine r_bipush d_X12_reads_235 (by decide +kernel) ?_
      exact h
    · replace h := h.2 c8
      refine r_bipush d_X12_reads_230 (by decide +kernel) ?_
      refine r_goto (tgt := 237) d_X12_reads_232 (by decide) ?_
      exact h
  · replace h := h.2 c4
    refine r_bipush d_X12_reads_216 (by decide +kernel) ?_
    refine r_goto (tgt := 237) d_X12_reads_218 (by decide) ?_
    exact h
set_option maxRecDepth 20000 in
theorem s_X12_reads_263 {d : Nat} {x1 : Int} {x2 : Int} {G : Mem} {Q : Int → Mem → Prop}  (h : (0 ≤ x1 ∧ x1 < 7) ∧ ((InR (G 331 x1)) ∧ (((G 331 x1) ≠ 0) → Rn (d + 1) M_X12_reads zN 304 [(0, (2, 311)), (1, (0, x1)), (2, (0, x2))] [] G Q) ∧ (¬ ((G 331 x1) ≠ 0) → Ct d M_X12_isSign NT 0 0 (some lay) [(2, 311), (0, 60)] G (fun r5 G4 => (InR r5) ∧ ((r5 = 0) → Rn (d + 1) M_X12_reads zN 289 [(0, (2, 311)), (1, (0, x1))] [(0, 25), (2, 311)] G4 Q) ∧ (¬ (r5 = 0) → Rn (d + 1) M_X12_reads zN 289 [(0, (2, 311)), (1, (0, x1))] [(0, 24), (2, 311)] G4 Q))))) : Rn (d + 1) M_X12_reads zN 263 [(0, (2, 311)), (1, (0, x1)), (2, (0, x2))] [] G Q := by
  refine r_aload_n d_X12_reads_263 0 rfl rfl ?_
  refine r_getL (v := 331) 12 31 31 rfl d_X12_reads_264 fl_X12_68 (by decide) (bs_ob bs_12) (ly_12_31 bs_12).1 (ly_12_31 bs_12).2.1 ?_
  refine r_iload_n d_X12_reads_267 1 rfl rfl ?_
  obtain ⟨h1, h⟩ := h
  refine r_zaload d_X12_reads_268 (ly_12_31 bs_12).2.2 h1 ?_
  obtain ⟨h2, h⟩ := h
  refine r_if_ne (tgt := 304) d_X12_reads_269 (by decide) h2 (fun c3 => ?_) (fun c3 => ?_)
  · replace h := h.1 c3
    exact h
  · replace h := h.2 c3
    refine r_aload_n d_X12_reads_272 0 rfl rfl ?_
    refine r_aload_n d_X12_reads_273 0 rfl rfl ?_
    refine r_bipush d_X12_reads_274 (by decide +kernel) ?_
    refine r_callV0 (M' := M_X12_isSign) (ci := 12) [(0, 60)] d_X12_reads_276 cl_X12_240 rfl (Nat.le_of_ble_eq_true rfl) (by decide) rfl (bs_ob bs_12) ?_
    refine Ct.mono h (fun r5 G4 h => ?_)
    show Rn _ M_X12_reads zN 279 [(0, (2, 311)), (1, (0, x1)), (2, (0, x2))] [(0, r5), (2, 311)] G4 Q
    obtain ⟨h6, h⟩ := h
    refine r_if_eq (tgt := 287) d_X12_reads_279 (by decide) h6 (fun c7 => ?_) (fun c7 => ?_)
    · replace h := h.1 c7
      refine r_bipush d_X12_reads_287 (by decide +kernel) ?_
      exact Rn.sub [0, 1] rfl h
    · replace h := h.2 c7
      refine r_bipush d_X12_reads_282 (by decide +kernel) ?_
      refine r_goto (tgt := 289) d_X12_reads_284 (by decide) ?_
      exact Rn.sub [0, 1] rfl h
set_option maxRecDepth 20000 in
theorem s_X12_reads_304 {d : Nat} {x1 : Int} {x2 : Int} {G : Mem} {Q : Int → Mem → Prop}  (h : Ct d M_X12_isWord NT 0 0 (some lay) [(2, 311), (1, 1111)] G (fun r2 G1 => (InR r2) ∧ ((r2 ≠ 0) → Rn (d + 1) M_X12_reads zN 324 [(0, (2, 311)), (1, (0, x1))] [] G1 Q) ∧ (¬ (r2 ≠ 0) → Ct d M_X12_isWord NT 0 0 (some lay) [(2, 311), (1, 423)] G1 (fun r6 G5 => (InR r6) ∧ ((r6 = 0) → Ct d M_X12_isSign NT 0 0 (some lay) [(2, 311), (0, 41)] G5 (fun r10 G9 => (InR r10) ∧ ((r10 = 0) → Rn (d + 1) M_X12_reads zN 399 [(0, (2, 311)), (1, (0, x1))] [] G9 Q) ∧ (¬ (r10 = 0) → (InR x1) ∧ ((x1 ≤ 0) → Rn (d + 1) M_X12_reads zN 399 [(0, (2, 311)), (1, (0, x1))] [] G9 Q) ∧ (¬ (x1 ≤ 0) → Ct d M_X12_puts NT 0 0 (some lay) [(2, 311), (0, 29)] G9 (fun r16 G15 => Rn (d + 1) M_X12_reads zN 379 [(0, (2, 311)), (1, (0, (x1 + (-1)))), (2, (0, x2))] [] G15 Q))))) ∧ (¬ (r6 = 0) → Rn (d + 1) M_X12_reads zN 324 [(0, (2, 311)), (1, (0, x1))] [] G5 Q))))) : Rn (d + 1) M_X12_reads zN 304 [(0, (2, 311)), (1, (0, x1)), (2, (0, x2))] [] G Q := by
  refine r_aload_n d_X12_reads_304 0 rfl rfl ?_
  refine r_ldc2 (x := 1111) d_X12_reads_305 cst_X12_253 ?_
  refine r_callV0 (M' := M_X12_isWord) (ci := 12) [(1, 1111)] d_X12_reads_308 cl_X12_236 rfl (Nat.le_of_ble_eq_true rfl) (by decide) rfl (bs_ob bs_12) ?_
  refine Ct.mono h (fun r2 G1 h => ?_)
  show Rn _ M_X12_reads zN 311 [(0, (2, 311)), (1, (0, x1)), (2, (0, x2))] [(0, r2)] G1 Q
  obtain ⟨h3, h⟩ := h
  refine r_if_ne (tgt := 324) d_X12_reads_311 (by decide) h3 (fun c4 => ?_) (fun c4 => ?_)
  · replace h := h.1 c4
    exact Rn.sub [0, 1] rfl h
  · replace h := h.2 c4
    refine r_aload_n d_X12_reads_314 0 rfl rfl ?_
    refine r_ldc2 (x := 423) d_X12_reads_315 cst_X12_255 ?_
    refine r_callV0 (M' := M_X12_isWord) (ci := 12) [(1, 423)] d_X12_reads_318 cl_X12_236 rfl (Nat.le_of_ble_eq_true rfl) (by decide) rfl (bs_ob bs_12) ?_
    refine Ct.mono h (fun r6 G5 h => ?_)
    show Rn _ M_X12_reads zN 321 [(0, (2, 311)), (1, (0, x1)), (2, (0, x2))] [(0, r6)] G5 Q
    obtain ⟨h7, h⟩ := h
    refine r_if_eq (tgt := 357) d_X12_reads_321 (by decide) h7 (fun c8 => ?_) (fun c8 => ?_)
    · replace h := h.1 c8
      refine r_aload_n d_X12_reads_357 0 rfl rfl ?_
      refine r_bipush d_X12_reads_358 (by decide +kernel) ?_
      refine r_callV0 (M' := M_X12_isSign) (ci := 12) [(0, 41)] d_X12_reads_360 cl_X12_240 rfl (Nat.le_of_ble_eq_true rfl) (by decide) rfl (bs_ob bs_12) ?_
      refine Ct.mono h (fun r10 G9 h => ?_)
      show Rn _ M_X12_reads zN 363 [(0, (2, 311)), (1, (0, x1)), (2, (0, x2))] [(0, r10)] G9 Q
      obtain ⟨h11, h⟩ := h
      refine r_if_eq (tgt := 399) d_X12_reads_363 (by decide) h11 (fun c12 => ?_) (fun c12 => ?_)
      · replace h := h.1 c12
        exact Rn.sub [0, 1] rfl h
      · replace h := h.2 c12
        refine r_iload_n d_X12_reads_366 1 rfl rfl ?_
        obtain ⟨h13, h⟩ := h
        refine r_if_le (tgt := 399) d_X12_reads_367 (by decide) h13 (fun c14 => ?_) (fun c14 => ?_)
        · replace h := h.1 c14
          exact Rn.sub [0, 1] rfl h
        · replace h := h.2 c14
          refine r_aload_n d_X12_reads_370 0 rfl rfl ?_
          refine r_bipush d_X12_reads_371 (by decide +kernel) ?_
          refine r_callV0 (M' := M_X12_puts) (ci := 12) [(0, 29)] d_X12_reads_373 cl_X12_247 rfl (Nat.le_of_ble_eq_true rfl) (by decide) rfl (bs_ob bs_12) ?_
          refine Ct.mono h (fun r16 G15 h => ?_)
          show Rn _ M_X12_reads zN 376 [(0, (2, 311)), (1, (0, x1)), (2, (0, x2))] [] G15 Q
          refine r_iinc (ls1 := [(1, (0, (x1 + (-1)))), (0, (2, 311)), (2, (0, x2))]) d_X12_reads_376 1 rfl (by decide) rfl ?_
          exact Rn.sub [1, 0, 2] rfl h
    · replace h := h.2 c8
      exact Rn.sub [0, 1] rfl h
set_option maxRecDepth 20000 in
theorem s_X12_reads_65 {d : Nat} {x1 : Int} {x2 : Int} {x3 : Int} {x4 : Int} {x5 : Int} {G : Mem} {Q : Int → Mem → Prop}  (h : (InR x1) ∧ ((x1 ≠ 5) → (InR x4) ∧ ((x4 ≠ 0) → Rn (d + 1) M_X12_reads zN 86 [(0, (2, 311)), (1, (0, x1)), (2, (0, x2)), (4, (0, x4))] [] G Q) ∧ (¬ (x4 ≠ 0) → (InR x5) ∧ ((x5 = 0) → (InR x3) ∧ ((x3 ≤ 0) → Rn (d + 1) M_X12_reads zN 147 [(0, (2, 311)), (1, (0, x1))] [(0, (100 + (G 311 8))), (2, 311)] G Q) ∧ (¬ (x3 ≤ 0) → Rn (d + 1) M_X12_reads zN 147 [(0, (2, 311)), (1, (0, x1))] [(0, x3), (2, 311)] G Q)) ∧ (¬ (x5 = 0) → Rn (d + 1) M_X12_reads zN 86 [(0, (2, 311)), (1, (0, x1)), (2, (0, x2)), (4, (0, x4))] [] G Q))) ∧ (¬ (x1 ≠ 5) → Ct d M_X12_fails NT 0 0 (some lay) [(2, 311), (0, 5)] G (fun r10 G9 => (r10 = 0 ∨ r10 = 1) ∧ Q r10 G9))) : Rn (d + 1) M_X12_reads zN 65 [(0, (2, 311)), (1, (0, x1)), (2, (0, x2)), (3, (0, x3)), (4, (0, x4)), (5, (0, x5))] [] G Q := by
  refine r_iload_n d_X12_reads_65 1 rfl rfl ?_
  refine r_iconst d_X12_reads_66 ?_
  obtain ⟨h1, h⟩ := h
  refine r_icmp_ne (tgt := 76) d_X12_reads_67 (by decide) h1 ⟨by decide, by decide⟩ (fun c2 => ?_) (fun c2 => ?_)
  · replace h := h.1 c2
    refine r_iload d_X12_reads_76 4 rfl ?_
    obtain ⟨h3, h⟩ := h
    refine r_if_ne (tgt := 86) d_X12_reads_78 (by decide) h3 (fun c4 => ?_) (fun c4 => ?_)
    · replace h := h.1 c4
      exact Rn.sub [0, 1, 2, 4] rfl h
    · replace h := h.2 c4
      refine r_iload d_X12_reads_81 5 rfl ?_
      obtain ⟨h5, h⟩ := h
      refine r_if_eq (tgt := 131) d_X12_reads_83 (by decide) h5 (fun c6 => ?_) (fun c6 => ?_)
      · replace h := h.1 c6
        refine r_aload_n d_X12_reads_131 0 rfl rfl ?_
        refine r_iload_n d_X12_reads_132 3 rfl rfl ?_
        obtain ⟨h7, h⟩ := h
        refine r_if_le (tgt := 140) d_X12_reads_133 (by decide) h7 (fun c8 => ?_) (fun c8 => ?_)
        · replace h := h.1 c8
          refine r_bipush d_X12_reads_140 (by decide +kernel) ?_
          refine r_aload_n d_X12_reads_142 0 rfl rfl ?_
          refine r_getI 12 8 8 rfl d_X12_reads_143 fl_X12_191 (by decide) (bs_ob bs_12) ?_
          refine r_iadd d_X12_reads_146 ?_
          exact Rn.sub [0, 1] rfl h
        · replace h := h.2 c8
          refine r_iload_n d_X12_reads_136 3 rfl rfl ?_
          refine r_goto (tgt := 147) d_X12_reads_137 (by decide) ?_
          exact Rn.sub [0, 1] rfl h
      · replace h := h.2 c6
        exact Rn.sub [0, 1, 2, 4] rfl h
  · replace h := h.2 c2
    refine r_aload_n d_X12_reads_70 0 rfl rfl ?_
    refine r_iconst d_X12_reads_71 ?_
    refine r_callV0 (M' := M_X12_fails) (ci := 12) [(0, 5)] d_X12_reads_72 cl_X12_244 rfl (Nat.le_of_ble_eq_true rfl) (by decide) rfl (bs_ob bs_12) ?_
    refine Ct.mono h (fun r10 G9 h => ?_)
    show Rn _ M_X12_reads zN 75 [(0, (2, 311)), (1, (0, x1)), (2, (0, x2)), (3, (0, x3)), (4, (0, x4)), (5, (0, x5))] [(0, r10)] G9 Q
    exact r_zreturn d_X12_reads_75 rfl ⟨rfl, Nat.le_refl _, Nat.le_refl _⟩ h.1 h.2
set_option maxRecDepth 20000 in
theorem s_X12_reads_237 {d : Nat} {x1 : Int} {s0 : Int} {G : Mem} {Q : Int → Mem → Prop}  (h : Ct d M_X12_puts NT 0 0 (some lay) [(2, 311), (0, s0)] G (fun r2 G1 => Rn (d + 1) M_X12_reads zN 424 [(0, (2, 311)), (1, (0, x1)), (2, (0, 1))] [] G1 Q)) : Rn (d + 1) M_X12_reads zN 237 [(0, (2, 311)), (1, (0, x1))] [(0, s0), (2, 311)] G Q := by
  refine r_callV0 (M' := M_X12_puts) (ci := 12) [(0, s0)] d_X12_reads_237 cl_X12_247 rfl (Nat.le_of_ble_eq_true rfl) (by decide) rfl (bs_ob bs_12) ?_
  refine Ct.mono h (fun r2 G1 h => ?_)
  show Rn _ M_X12_reads zN 240 [(0, (2, 311)), (1, (0, x1))] [] G1 Q
  refine r_iconst d_X12_reads_240 ?_
  refine r_istore_n (ls1 := [(2, (0, 1)), (0, (2, 311)), (1, (0, x1))]) d_X12_reads_241 rfl (by decide) rfl ?_
  refine r_goto (tgt := 424) d_X12_reads_242 (by decide) ?_
  exact Rn.sub [1, 2, 0] rfl h
set_option maxRecDepth 20000 in
theorem s_X12_reads_289 {d : Nat} {x1 : Int} {s0 : Int} {G : Mem} {Q : Int → Mem → Prop}  (h : Ct d M_X12_puts NT 0 0 (some lay) [(2, 311), (0, s0)] G (fun r2 G1 => (0 ≤ x1 ∧ x1 < 7) ∧ (∀ G4 : Mem, G4 = st G1 331 x1 1 → Rn (d + 1) M_X12_reads zN 424 [(0, (2, 311)), (1, (0, x1)), (2, (0, 1))] [] G4 Q))) : Rn (d + 1) M_X12_reads zN 289 [(0, (2, 311)), (1, (0, x1))] [(0, s0), (2, 311)] G Q := by
  refine r_callV0 (M' := M_X12_puts) (ci := 12) [(0, s0)] d_X12_reads_289 cl_X12_247 rfl (Nat.le_of_ble_eq_true rfl) (by decide) rfl (bs_ob bs_12) ?_
  refine Ct.mono h (fun r2 G1 h => ?_)
  show Rn _ M_X12_reads zN 292 [(0, (2, 311)), (1, (0, x1))] [] G1 Q
  refine r_aload_n d_X12_reads_292 0 rfl rfl ?_
  refine r_getL (v := 331) 12 31 31 rfl d_X12_reads_293 fl_X12_68 (by decide) (bs_ob bs_12) (ly_12_31 bs_12).1 (ly_12_31 bs_12).2.1 ?_
  refine r_iload_n d_X12_reads_296 1 rfl rfl ?_
  refine r_iconst d_X12_reads_297 ?_
  obtain ⟨h3, h⟩ := h
  obtain ⟨G4, eG4⟩ : ∃ y : Mem, y = st G1 331 x1 1 := ⟨_, rfl⟩
  replace h := h G4 eG4
  refine r_zastore d_X12_reads_298 (ly_12_31 bs_12).2.2 h3 (by decide) ?_
  rw [← eG4]
  refine r_iconst d_X12_reads_299 ?_
  refine r_istore_n (ls1 := [(2, (0, 1)), (0, (2, 311)), (1, (0, x1))]) d_X12_reads_300 rfl (by decide) rfl ?_
  refine r_goto (tgt := 424) d_X12_reads_301 (by decide) ?_
  exact Rn.sub [1, 2, 0] rfl h
set_option maxRecDepth 20000 in
theorem s_X12_reads_324 {d : Nat} {x1 : Int} {G : Mem} {Q : Int → Mem → Prop}  (h : Ct d M_X12_isWord NT 0 0 (some lay) [(2, 311), (1, 1111)] G (fun r2 G1 => (InR r2) ∧ ((r2 = 0) → Rn (d + 1) M_X12_reads zN 342 [(0, (2, 311)), (1, (0, x1))] [(0, 27), (2, 311)] G1 Q) ∧ (¬ (r2 = 0) → Rn (d + 1) M_X12_reads zN 342 [(0, (2, 311)), (1, (0, x1))] [(0, 26), (2, 311)] G1 Q))) : Rn (d + 1) M_X12_reads zN 324 [(0, (2, 311)), (1, (0, x1))] [] G Q := by
  refine r_aload_n d_X12_reads_324 0 rfl rfl ?_
  refine r_aload_n d_X12_reads_325 0 rfl rfl ?_
  refine r_ldc2 (x := 1111) d_X12_reads_326 cst_X12_253 ?_
  refine r_callV0 (M' := M_X12_isWord) (ci := 12) [(1, 1111)] d_X12_reads_329 cl_X12_236 rfl (Nat.le_of_ble_eq_true rfl) (by decide) rfl (bs_ob bs_12) ?_
  refine Ct.mono h (fun r2 G1 h => ?_)
  show Rn _ M_X12_reads zN 332 [(0, (2, 311)), (1, (0, x1))] [(0, r2), (2, 311)] G1 Q
  obtain ⟨h3, h⟩ := h
  refine r_if_eq (tgt := 340) d_X12_reads_332 (by decide) h3 (fun c4 => ?_) (fun c4 => ?_)
  · replace h := h.1 c4
    refine r_bipush d_X12_reads_340 (by decide +kernel) ?_
    exact h
  · replace h := h.2 c4
    refine r_bipush d_X12_reads_335 (by decide +kernel) ?_
    refine r_goto (tgt := 342) d_X12_reads_337 (by decide) ?_
    exact h
set_option maxRecDepth 20000 in
theorem s_X12_reads_399 {d : Nat} {x1 : Int} {G : Mem} {Q : Int → Mem → Prop}  (h : (InR x1) ∧ ((x1 ≠ 0) → Rn (d + 1) M_X12_reads zN 418 [(0, (2, 311))] [] G Q) ∧ (¬ (x1 ≠ 0) → Ct d M_X12_isSign NT 0 0 (some lay) [(2, 311), (0, 59)] G (fun r4 G3 => (InR r4) ∧ ((r4 = 0) → Rn (d + 1) M_X12_reads zN 418 [(0, (2, 311))] [] G3 Q) ∧ (¬ (r4 = 0) → Ct d M_X12_nextToken NT 0 0 (some lay) [(2, 311)] G3 (fun r8 G7 => Q 1 G7))))) : Rn (d + 1) M_X12_reads zN 399 [(0, (2, 311)), (1, (0, x1))] [] G Q := by
  refine r_iload_n d_X12_reads_399 1 rfl rfl ?_
  obtain ⟨h1, h⟩ := h
  refine r_if_ne (tgt := 418) d_X12_reads_400 (by decide) h1 (fun c2 => ?_) (fun c2 => ?_)
  · replace h := h.1 c2
    exact Rn.sub [0] rfl h
  · replace h := h.2 c2
    refine r_aload_n d_X12_reads_403 0 rfl rfl ?_
    refine r_bipush d_X12_reads_404 (by decide +kernel) ?_
    refine r_callV0 (M' := M_X12_isSign) (ci := 12) [(0, 59)] d_X12_reads_406 cl_X12_240 rfl (Nat.le_of_ble_eq_true rfl) (by decide) rfl (bs_ob bs_12) ?_
    refine Ct.mono h (fun r4 G3 h => ?_)
    show Rn _ M_X12_reads zN 409 [(0, (2, 311)), (1, (0, x1))] [(0, r4)] G3 Q
    obtain ⟨h5, h⟩ := h
    refine r_if_eq (tgt := 418) d_X12_reads_409 (by decide) h5 (fun c6 => ?_) (fun c6 => ?_)
    · replace h := h.1 c6
      exact Rn.sub [0] rfl h
    · replace h := h.2 c6
      refine r_aload_n d_X12_reads_412 0 rfl rfl ?_
      refine r_callV0 (M' := M_X12_nextToken) (ci := 12) [] d_X12_reads_413 cl_X12_250 rfl (Nat.le_of_ble_eq_true rfl) (by decide) rfl (bs_ob bs_12) ?_
      refine Ct.mono h (fun r8 G7 h => ?_)
      show Rn _ M_X12_reads zN 416 [(0, (2, 311)), (1, (0, x1))] [] G7 Q
      refine r_iconst d_X12_reads_416 ?_
      exact r_zreturn d_X12_reads_417 rfl ⟨rfl, Nat.le_refl _, Nat.le_refl _⟩ (by decide) h
set_option maxRecDepth 20000 in
theorem s_X12_reads_379 {d : Nat} {x1 : Int} {x2 : Int} {G : Mem} {Q : Int → Mem → Prop}  (h : (InR x1) ∧ ((x1 ≤ 0) → Rn d M_X12_reads zN 424 [(0, (2, 311)), (1, (0, x1)), (2, (0, x2))] [] G Q) ∧ (¬ (x1 ≤ 0) → (0 ≤ x1 ∧ x1 < 7) ∧ ((InR (G 330 x1)) ∧ (((G 330 x1) ≠ 1) → Rn d M_X12_reads zN 424 [(0, (2, 311)), (1, (0, x1)), (2, (0, x2))] [] G Q) ∧ (¬ ((G 330 x1) ≠ 1) → Rn d M_X12_reads zN 379 [(0, (2, 311)), (1, (0, (x1 + (-1)))), (2, (0, x2))] [] G Q)))) : Rn d M_X12_reads zN 379 [(0, (2, 311)), (1, (0, x1)), (2, (0, x2))] [] G Q := by
  refine r_iload_n d_X12_reads_379 1 rfl rfl ?_
  obtain ⟨h1, h⟩ := h
  refine r_if_le (tgt := 424) d_X12_reads_380 (by decide) h1 (fun c2 => ?_) (fun c2 => ?_)
  · replace h := h.1 c2
    exact h
  · replace h := h.2 c2
    refine r_aload_n d_X12_reads_383 0 rfl rfl ?_
    refine r_getL (v := 330) 12 30 30 rfl d_X12_reads_384 fl_X12_65 (by decide) (bs_ob bs_12) (ly_12_30 bs_12).1 (ly_12_30 bs_12).2.1 ?_
    refine r_iload_n d_X12_reads_387 1 rfl rfl ?_
    obtain ⟨h3, h⟩ := h
    refine r_iaload d_X12_reads_388 (ly_12_30 bs_12).2.2 h3 ?_
    refine r_iconst d_X12_reads_389 ?_
    obtain ⟨h4, h⟩ := h
    refine r_icmp_ne (tgt := 424) d_X12_reads_390 (by decide) h4 ⟨by decide, by decide⟩ (fun c5 => ?_) (fun c5 => ?_)
    · replace h := h.1 c5
      exact h
    · replace h := h.2 c5
      refine r_iinc (ls1 := [(1, (0, (x1 + (-1)))), (0, (2, 311)), (2, (0, x2))]) d_X12_reads_393 1 rfl (by decide) rfl ?_
      refine r_goto (tgt := 379) d_X12_reads_396 (by decide) ?_
      exact Rn.sub [1, 0, 2] rfl h
set_option maxRecDepth 20000 in
theorem s_X12_reads_86 {d : Nat} {x1 : Int} {x2 : Int} {x4 : Int} {G : Mem} {Q : Int → Mem → Prop}  (h : (InR x4) ∧ ((x4 = 0) → Rn d M_X12_reads zN 99 [(0, (2, 311)), (1, (0, x1)), (2, (0, x2)), (4, (0, x4))] [(0, 28), (2, 311)] G Q) ∧ (¬ (x4 = 0) → Rn d M_X12_reads zN 99 [(0, (2, 311)), (1, (0, x1)), (2, (0, x2)), (4, (0, x4))] [(0, 30), (2, 311)] G Q)) : Rn d M_X12_reads zN 86 [(0, (2, 311)), (1, (0, x1)), (2, (0, x2)), (4, (0, x4))] [] G Q := by
  refine r_aload_n d_X12_reads_86 0 rfl rfl ?_
  refine r_iload d_X12_reads_87 3 rfl ?_
  obtain ⟨h1, h⟩ := h
  refine r_if_eq (tgt := 97) d_X12_reads_89 (by decide) h1 (fun c2 => ?_) (fun c2 => ?_)
  · replace h := h.1 c2
    refine r_bipush d_X12_reads_97 (by decide +kernel) ?_
    exact h
  · replace h := h.2 c2
    refine r_bipush d_X12_reads_92 (by decide +kernel) ?_
    refine r_goto (tgt := 99) d_X12_reads_94 (by decide) ?_
    exact h
set_option maxRecDepth 20000 in
theorem s_X12_reads_147 {d : Nat} {x1 : Int} {s0 : Int} {G : Mem} {Q : Int → Mem → Prop}  (h : Ct d M_X12_puts NT 0 0 (some lay) [(2, 311), (0, s0)] G (fun r2 G1 => Rn (d + 1) M_X12_reads zN 152 [(0, (2, 311)), (1, (0, x1)), (2, (0, 0))] [] G1 Q)) : Rn (d + 1) M_X12_reads zN 147 [(0, (2, 311)), (1, (0, x1))] [(0, s0), (2, 311)] G Q := by
  refine r_callV0 (M' := M_X12_puts) (ci := 12) [(0, s0)] d_X12_reads_147 cl_X12_247 rfl (Nat.le_of_ble_eq_true rfl) (by decide) rfl (bs_ob bs_12) ?_
  refine Ct.mono h (fun r2 G1 h => ?_)
  show Rn _ M_X12_reads zN 150 [(0, (2, 311)), (1, (0, x1))] [] G1 Q
  refine r_iconst d_X12_reads_150 ?_
  refine r_istore_n (ls1 := [(2, (0, 0)), (0, (2, 311)), (1, (0, x1))]) d_X12_reads_151 rfl (by decide) rfl ?_
  exact Rn.sub [1, 2, 0] rfl h
set_option maxRecDepth 20000 in
theorem s_X12_reads_424 {d : Nat} {x1 : Int} {x2 : Int} {G : Mem} {Q : Int → Mem → Prop}  (h : Ct d M_X12_nextToken NT 0 0 (some lay) [(2, 311)] G (fun r2 G1 => Rn (d + 1) M_X12_reads zN 11 [(0, (2, 311)), (1, (0, x1)), (2, (0, x2))] [] G1 Q)) : Rn (d + 1) M_X12_reads zN 424 [(0, (2, 311)), (1, (0, x1)), (2, (0, x2))] [] G Q := by
  refine r_aload_n d_X12_reads_424 0 rfl rfl ?_
  refine r_callV0 (M' := M_X12_nextToken) (ci := 12) [] d_X12_reads_425 cl_X12_250 rfl (Nat.le_of_ble_eq_true rfl) (by decide) rfl (bs_ob bs_12) ?_
  refine Ct.mono h (fun r2 G1 h => ?_)
  show Rn _ M_X12_reads zN 428 [(0, (2, 311)), (1, (0, x1)), (2, (0, x2))] [] G1 Q
  refine r_goto (tgt := 11) d_X12_reads_428 (by decide) ?_
  exact h
set_option maxRecDepth 20000 in
theorem s_X12_reads_342 {d : Nat} {x1 : Int} {s0 : Int} {G : Mem} {Q : Int → Mem → Prop}  (h : Ct d M_X12_puts NT 0 0 (some lay) [(2, 311), (0, s0)] G (fun r2 G1 => (0 ≤ x1 ∧ x1 < 7) ∧ (∀ G4 : Mem, G4 = st G1 331 x1 0 → Rn (d + 1) M_X12_reads zN 424 [(0, (2, 311)), (1, (0, x1)), (2, (0, 1))] [] G4 Q))) : Rn (d + 1) M_X12_reads zN 342 [(0, (2, 311)), (1, (0, x1))] [(0, s0), (2, 311)] G Q := by
  refine r_callV0 (M' := M_X12_puts) (ci := 12) [(0, s0)] d_X12_reads_342 cl_X12_247 rfl (Nat.le_of_ble_eq_true rfl) (by decide) rfl (bs_ob bs_12) ?_
  refine Ct.mono h (fun r2 G1 h => ?_)
  show Rn _ M_X12_reads zN 345 [(0, (2, 311)), (1, (0, x1))] [] G1 Q
  refine r_aload_n d_X12_reads_345 0 rfl rfl ?_
  refine r_getL (v := 331) 12 31 31 rfl d_X12_reads_346 fl_X12_68 (by decide) (bs_ob bs_12) (ly_12_31 bs_12).1 (ly_12_31 bs_12).2.1 ?_
  refine r_iload_n d_X12_reads_349 1 rfl rfl ?_
  refine r_iconst d_X12_reads_350 ?_
  obtain ⟨h3, h⟩ := h
  obtain ⟨G4, eG4⟩ : ∃ y : Mem, y = st G1 331 x1 0 := ⟨_, rfl⟩
  replace h := h G4 eG4
  refine r_zastore d_X12_reads_351 (ly_12_31 bs_12).2.2 h3 (by decide) ?_
  rw [← eG4]
  refine r_iconst d_X12_reads_352 ?_
  refine r_istore_n (ls1 := [(2, (0, 1)), (0, (2, 311)), (1, (0, x1))]) d_X12_reads_353 rfl (by decide) rfl ?_
  refine r_goto (tgt := 424) d_X12_reads_354 (by decide) ?_
  exact Rn.sub [1, 2, 0] rfl h
set_option maxRecDepth 20000 in
theorem s_X12_reads_418 {d : Nat}  {G : Mem} {Q : Int → Mem → Prop}  (h : Ct d M_X12_fails NT 0 0 (some lay) [(2, 311), (0, 1)] G (fun r2 G1 => (r2 = 0 ∨ r2 = 1) ∧ Q r2 G1)) : Rn (d + 1) M_X12_reads zN 418 [(0, (2, 311))] [] G Q := by
  refine r_aload_n d_X12_reads_418 0 rfl rfl ?_
  refine r_iconst d_X12_reads_419 ?_
  refine r_callV0 (M' := M_X12_fails) (ci := 12) [(0, 1)] d_X12_reads_420 cl_X12_244 rfl (Nat.le_of_ble_eq_true rfl) (by decide) rfl (bs_ob bs_12) ?_
  refine Ct.mono h (fun r2 G1 h => ?_)
  show Rn _ M_X12_reads zN 423 [(0, (2, 311))] [(0, r2)] G1 Q
  exact r_zreturn d_X12_reads_423 rfl ⟨rfl, Nat.le_refl _, Nat.le_refl _⟩ h.1 h.2
set_option maxRecDepth 20000 in
theorem s_X12_reads_99 {d : Nat} {x1 : Int} {x2 : Int} {x4 : Int} {s0 : Int} {G : Mem} {Q : Int → Mem → Prop}  (h : Ct d M_X12_puts NT 0 0 (some lay) [(2, 311), (0, s0)] G (fun r2 G1 => (InR x4) ∧ ((x4 = 0) → Rn (d + 1) M_X12_reads zN 120 [(0, (2, 311)), (1, (0, (x1 + 1))), (2, (0, x2))] [(0, 2), (0, (x1 + 1)), (2, 330)] G1 Q) ∧ (¬ (x4 = 0) → Rn (d + 1) M_X12_reads zN 120 [(0, (2, 311)), (1, (0, (x1 + 1))), (2, (0, x2))] [(0, 1), (0, (x1 + 1)), (2, 330)] G1 Q))) : Rn (d + 1) M_X12_reads zN 99 [(0, (2, 311)), (1, (0, x1)), (2, (0, x2)), (4, (0, x4))] [(0, s0), (2, 311)] G Q := by
  refine r_callV0 (M' := M_X12_puts) (ci := 12) [(0, s0)] d_X12_reads_99 cl_X12_247 rfl (Nat.le_of_ble_eq_true rfl) (by decide) rfl (bs_ob bs_12) ?_
  refine Ct.mono h (fun r2 G1 h => ?_)
  show Rn _ M_X12_reads zN 102 [(0, (2, 311)), (1, (0, x1)), (2, (0, x2)), (4, (0, x4))] [] G1 Q
  refine r_iinc (ls1 := [(1, (0, (x1 + 1))), (0, (2, 311)), (2, (0, x2)), (4, (0, x4))]) d_X12_reads_102 1 rfl (by decide) rfl ?_
  refine r_aload_n d_X12_reads_105 1 rfl rfl ?_
  refine r_getL (v := 330) 12 30 30 rfl d_X12_reads_106 fl_X12_65 (by decide) (bs_ob bs_12) (ly_12_30 bs_12).1 (ly_12_30 bs_12).2.1 ?_
  refine r_iload_n d_X12_reads_109 0 rfl rfl ?_
  refine r_iload d_X12_reads_110 3 rfl ?_
  obtain ⟨h3, h⟩ := h
  refine r_if_eq (tgt := 119) d_X12_reads_112 (by decide) h3 (fun c4 => ?_) (fun c4 => ?_)
  · replace h := h.1 c4
    refine r_iconst d_X12_reads_119 ?_
    exact Rn.sub [1, 0, 2] rfl h
  · replace h := h.2 c4
    refine r_iconst d_X12_reads_115 ?_
    refine r_goto (tgt := 120) d_X12_reads_116 (by decide) ?_
    exact Rn.sub [1, 0, 2] rfl h
set_option maxRecDepth 20000 in
theorem s_X12_reads_152 {d : Nat} {x1 : Int} {x2 : Int} {G : Mem} {Q : Int → Mem → Prop}  (h : (InR x1) ∧ ((x1 ≤ 0) → Rn d M_X12_reads zN 172 [(0, (2, 311)), (1, (0, x1)), (2, (0, x2))] [] G Q) ∧ (¬ (x1 ≤ 0) → (0 ≤ x1 ∧ x1 < 7) ∧ ((InR (G 330 x1)) ∧ (((G 330 x1) ≠ 1) → Rn d M_X12_reads zN 172 [(0, (2, 311)), (1, (0, x1)), (2, (0, x2))] [] G Q) ∧ (¬ ((G 330 x1) ≠ 1) → Rn d M_X12_reads zN 152 [(0, (2, 311)), (1, (0, (x1 + (-1)))), (2, (0, x2))] [] G Q)))) : Rn d M_X12_reads zN 152 [(0, (2, 311)), (1, (0, x1)), (2, (0, x2))] [] G Q := by
  refine r_iload_n d_X12_reads_152 1 rfl rfl ?_
  obtain ⟨h1, h⟩ := h
  refine r_if_le (tgt := 172) d_X12_reads_153 (by decide) h1 (fun c2 => ?_) (fun c2 => ?_)
  · replace h := h.1 c2
    exact h
  · replace h := h.2 c2
    refine r_aload_n d_X12_reads_156 0 rfl rfl ?_
    refine r_getL (v := 330) 12 30 30 rfl d_X12_reads_157 fl_X12_65 (by decide) (bs_ob bs_12) (ly_12_30 bs_12).1 (ly_12_30 bs_12).2.1 ?_
    refine r_iload_n d_X12_reads_160 1 rfl rfl ?_
    obtain ⟨h3, h⟩ := h
    refine r_iaload d_X12_reads_161 (ly_12_30 bs_12).2.2 h3 ?_
    refine r_iconst d_X12_reads_162 ?_
    obtain ⟨h4, h⟩ := h
    refine r_icmp_ne (tgt := 172) d_X12_reads_163 (by decide) h4 ⟨by decide, by decide⟩ (fun c5 => ?_) (fun c5 => ?_)
    · replace h := h.1 c5
      exact h
    · replace h := h.2 c5
      refine r_iinc (ls1 := [(1, (0, (x1 + (-1)))), (0, (2, 311)), (2, (0, x2))]) d_X12_reads_166 1 rfl (by decide) rfl ?_
      refine r_goto (tgt := 152) d_X12_reads_169 (by decide) ?_
      exact Rn.sub [1, 0, 2] rfl h
set_option maxRecDepth 20000 in
theorem s_X12_reads_120 {d : Nat} {x1 : Int} {x2 : Int} {s0 : Int} {s1 : Int} {G : Mem} {Q : Int → Mem → Prop}  (h : (0 ≤ s1 ∧ s1 < 7) ∧ (∀ G2 : Mem, G2 = st G 330 s1 s0 → (0 ≤ x1 ∧ x1 < 7) ∧ (∀ G4 : Mem, G4 = st G2 331 x1 0 → Rn d M_X12_reads zN 172 [(0, (2, 311)), (1, (0, x1)), (2, (0, x2))] [] G4 Q))) : Rn d M_X12_reads zN 120 [(0, (2, 311)), (1, (0, x1)), (2, (0, x2))] [(0, s0), (0, s1), (2, 330)] G Q := by
  obtain ⟨h1, h⟩ := h
  obtain ⟨G2, eG2⟩ : ∃ y : Mem, y = st G 330 s1 s0 := ⟨_, rfl⟩
  replace h := h G2 eG2
  refine r_iastore d_X12_reads_120 (ly_12_30 bs_12).2.2 h1 ?_
  rw [← eG2]
  refine r_aload_n d_X12_reads_121 0 rfl rfl ?_
  refine r_getL (v := 331) 12 31 31 rfl d_X12_reads_122 fl_X12_68 (by decide) (bs_ob bs_12) (ly_12_31 bs_12).1 (ly_12_31 bs_12).2.1 ?_
  refine r_iload_n d_X12_reads_125 1 rfl rfl ?_
  refine r_iconst d_X12_reads_126 ?_
  obtain ⟨h3, h⟩ := h
  obtain ⟨G4, eG4⟩ : ∃ y : Mem, y = st G2 331 x1 0 := ⟨_, rfl⟩
  replace h := h G4 eG4
  refine r_zastore d_X12_reads_127 (ly_12_31 bs_12).2.2 h3 (by decide) ?_
  rw [← eG4]
  refine r_goto (tgt := 172) d_X12_reads_128 (by decide) ?_
  exact h
set_option maxRecDepth 20000 in
theorem s_X12_reads_172 {d : Nat} {x1 : Int} {x2 : Int} {G : Mem} {Q : Int → Mem → Prop}  (h : Ct d M_X12_nextToken NT 0 0 (some lay) [(2, 311)] G (fun r2 G1 => Rn (d + 1) M_X12_reads zN 11 [(0, (2, 311)), (1, (0, x1)), (2, (0, x2))] [] G1 Q)) : Rn (d + 1) M_X12_reads zN 172 [(0, (2, 311)), (1, (0, x1)), (2, (0, x2))] [] G Q := by
  refine r_aload_n d_X12_reads_172 0 rfl rfl ?_
  refine r_callV0 (M' := M_X12_nextToken) (ci := 12) [] d_X12_reads_173 cl_X12_250 rfl (Nat.le_of_ble_eq_true rfl) (by decide) rfl (bs_ob bs_12) ?_
  refine Ct.mono h (fun r2 G1 h => ?_)
  show Rn _ M_X12_reads zN 176 [(0, (2, 311)), (1, (0, x1)), (2, (0, x2))] [] G1 Q
  refine r_goto (tgt := 11) d_X12_reads_176 (by decide) ?_
  exact h
theorem d_X12_opens_0 : decode M_X12_opens.2.1 0 = .ok (.aload_n 0, 1) := by decide +kernel
theorem d_X12_opens_1 : decode M_X12_opens.2.1 1 = .ok (.getfield 75, 3) := by decide +kernel
theorem d_X12_opens_4 : decode M_X12_opens.2.1 4 = .ok (.iload_n 1, 1) := by decide +kernel
theorem d_X12_opens_5 : decode M_X12_opens.2.1 5 = .ok (.iconst 0, 1) := by decide +kernel
theorem d_X12_opens_6 : decode M_X12_opens.2.1 6 = .ok (.iastore, 1) := by decide +kernel
theorem d_X12_opens_7 : decode M_X12_opens.2.1 7 = .ok (.aload_n 0, 1) := by decide +kernel
theorem d_X12_opens_8 : decode M_X12_opens.2.1 8 = .ok (.getfield 81, 3) := by decide +kernel
theorem d_X12_opens_11 : decode M_X12_opens.2.1 11 = .ok (.iload_n 1, 1) := by decide +kernel
theorem d_X12_opens_12 : decode M_X12_opens.2.1 12 = .ok (.iconst 0, 1) := by decide +kernel
theorem d_X12_opens_13 : decode M_X12_opens.2.1 13 = .ok (.iastore, 1) := by decide +kernel
theorem d_X12_opens_14 : decode M_X12_opens.2.1 14 = .ok (.aload_n 0, 1) := by decide +kernel
theorem d_X12_opens_15 : decode M_X12_opens.2.1 15 = .ok (.getfield 84, 3) := by decide +kernel
theorem d_X12_opens_18 : decode M_X12_opens.2.1 18 = .ok (.iload_n 1, 1) := by decide +kernel
theorem d_X12_opens_19 : decode M_X12_opens.2.1 19 = .ok (.iconst 0, 1) := by decide +kernel
theorem d_X12_opens_20 : decode M_X12_opens.2.1 20 = .ok (.iastore, 1) := by decide +kernel
theorem d_X12_opens_21 : decode M_X12_opens.2.1 21 = .ok (.aload_n 0, 1) := by decide +kernel
theorem d_X12_opens_22 : decode M_X12_opens.2.1 22 = .ok (.getfield 87, 3) := by decide +kernel
theorem d_X12_opens_25 : decode M_X12_opens.2.1 25 = .ok (.iload_n 1, 1) := by decide +kernel
theorem d_X12_opens_26 : decode M_X12_opens.2.1 26 = .ok (.bipush 20, 2) := by decide +kernel
theorem d_X12_opens_28 : decode M_X12_opens.2.1 28 = .ok (.iastore, 1) := by decide +kernel
theorem d_X12_opens_29 : decode M_X12_opens.2.1 29 = .ok (.aload_n 0, 1) := by decide +kernel
theorem d_X12_opens_30 : decode M_X12_opens.2.1 30 = .ok (.getfield 93, 3) := by decide +kernel
theorem d_X12_opens_33 : decode M_X12_opens.2.1 33 = .ok (.iload_n 1, 1) := by decide +kernel
theorem d_X12_opens_34 : decode M_X12_opens.2.1 34 = .ok (.iconst 0, 1) := by decide +kernel
theorem d_X12_opens_35 : decode M_X12_opens.2.1 35 = .ok (.iastore, 1) := by decide +kernel
theorem d_X12_opens_36 : decode M_X12_opens.2.1 36 = .ok (.return_, 1) := by decide +kernel
set_option maxRecDepth 20000 in
theorem s_X12_opens_0 {d : Nat} {p0 : Int} {G : Mem} {Q : Int → Mem → Prop}  (h : (0 ≤ p0 ∧ p0 < 7) ∧ (∀ G2 : Mem, G2 = st G 333 p0 0 → (∀ G3 : Mem, G3 = st G2 335 p0 0 → (∀ G4 : Mem, G4 = st G3 336 p0 0 → (∀ G5 : Mem, G5 = st G4 337 p0 20 → (∀ G6 : Mem, G6 = st G5 339 p0 0 → Q 0 G6)))))) : Rn d M_X12_opens zN 0 [(0, (2, 311)), (1, (0, p0))] [] G Q := by
  refine r_aload_n d_X12_opens_0 0 rfl rfl ?_
  refine r_getL (v := 333) 12 33 33 rfl d_X12_opens_1 fl_X12_75 (by decide) (bs_ob bs_12) (ly_12_33 bs_12).1 (ly_12_33 bs_12).2.1 ?_
  refine r_iload_n d_X12_opens_4 1 rfl rfl ?_
  refine r_iconst d_X12_opens_5 ?_
  obtain ⟨h1, h⟩ := h
  obtain ⟨G2, eG2⟩ : ∃ y : Mem, y = st G 333 p0 0 := ⟨_, rfl⟩
  replace h := h G2 eG2
  refine r_iastore d_X12_opens_6 (ly_12_33 bs_12).2.2 h1 ?_
  rw [← eG2]
  refine r_aload_n d_X12_opens_7 0 rfl rfl ?_
  refine r_getL (v := 335) 12 35 35 rfl d_X12_opens_8 fl_X12_81 (by decide) (bs_ob bs_12) (ly_12_35 bs_12).1 (ly_12_35 bs_12).2.1 ?_
  refine r_iload_n d_X12_opens_11 1 rfl rfl ?_
  refine r_iconst d_X12_opens_12 ?_
  obtain ⟨G3, eG3⟩ : ∃ y : Mem, y = st G2 335 p0 0 := ⟨_, rfl⟩
  replace h := h G3 eG3
  refine r_iastore d_X12_opens_13 (ly_12_35 bs_12).2.2 h1 ?_
  rw [← eG3]
  refine r_aload_n d_X12_opens_14 0 rfl rfl ?_
  refine r_getL (v := 336) 12 36 36 rfl d_X12_opens_15 fl_X12_84 (by decide) (bs_ob bs_12) (ly_12_36 bs_12).1 (ly_12_36 bs_12).2.1 ?_
  refine r_iload_n d_X12_opens_18 1 rfl rfl ?_
  refine r_iconst d_X12_opens_19 ?_
  obtain ⟨G4, eG4⟩ : ∃ y : Mem, y = st G3 336 p0 0 := ⟨_, rfl⟩
  replace h := h G4 eG4
  refine r_iastore d_X12_opens_20 (ly_12_36 bs_12).2.2 h1 ?_
  rw [← eG4]
  refine r_aload_n d_X12_opens_21 0 rfl rfl ?_
  refine r_getL (v := 337) 12 37 37 rfl d_X12_opens_22 fl_X12_87 (by decide) (bs_ob bs_12) (ly_12_37 bs_12).1 (ly_12_37 bs_12).2.1 ?_
  refine r_iload_n d_X12_opens_25 1 rfl rfl ?_
  refine r_bipush d_X12_opens_26 (by decide +kernel) ?_
  obtain ⟨G5, eG5⟩ : ∃ y : Mem, y = st G4 337 p0 20 := ⟨_, rfl⟩
  replace h := h G5 eG5
  refine r_iastore d_X12_opens_28 (ly_12_37 bs_12).2.2 h1 ?_
  rw [← eG5]
  refine r_aload_n d_X12_opens_29 0 rfl rfl ?_
  refine r_getL (v := 339) 12 39 39 rfl d_X12_opens_30 fl_X12_93 (by decide) (bs_ob bs_12) (ly_12_39 bs_12).1 (ly_12_39 bs_12).2.1 ?_
  refine r_iload_n d_X12_opens_33 1 rfl rfl ?_
  refine r_iconst d_X12_opens_34 ?_
  obtain ⟨G6, eG6⟩ : ∃ y : Mem, y = st G5 339 p0 0 := ⟨_, rfl⟩
  replace h := h G6 eG6
  refine r_iastore d_X12_opens_35 (ly_12_39 bs_12).2.2 h1 ?_
  rw [← eG6]
  exact r_ret d_X12_opens_36 rfl ⟨rfl, Nat.le_refl _, Nat.le_refl _⟩ h
theorem d_X12_sums_0 : decode M_X12_sums.2.1 0 = .ok (.aload_n 0, 1) := by decide +kernel
theorem d_X12_sums_1 : decode M_X12_sums.2.1 1 = .ok (.getfield 84, 3) := by decide +kernel
theorem d_X12_sums_4 : decode M_X12_sums.2.1 4 = .ok (.iload_n 1, 1) := by decide +kernel
theorem d_X12_sums_5 : decode M_X12_sums.2.1 5 = .ok (.aload_n 0, 1) := by decide +kernel
theorem d_X12_sums_6 : decode M_X12_sums.2.1 6 = .ok (.getfield 87, 3) := by decide +kernel
theorem d_X12_sums_9 : decode M_X12_sums.2.1 9 = .ok (.iload_n 1, 1) := by decide +kernel
theorem d_X12_sums_10 : decode M_X12_sums.2.1 10 = .ok (.iaload, 1) := by decide +kernel
theorem d_X12_sums_11 : decode M_X12_sums.2.1 11 = .ok (.bipush 21, 2) := by decide +kernel
theorem d_X12_sums_13 : decode M_X12_sums.2.1 13 = .ok (.if_icmp .ne 19, 3) := by decide +kernel
theorem d_X12_sums_16 : decode M_X12_sums.2.1 16 = .ok (.aload_n 0, 1) := by decide +kernel
theorem d_X12_sums_17 : decode M_X12_sums.2.1 17 = .ok (.getfield 84, 3) := by decide +kernel
theorem d_X12_sums_20 : decode M_X12_sums.2.1 20 = .ok (.iload_n 1, 1) := by decide +kernel
theorem d_X12_sums_21 : decode M_X12_sums.2.1 21 = .ok (.iaload, 1) := by decide +kernel
theorem d_X12_sums_22 : decode M_X12_sums.2.1 22 = .ok (.aload_n 0, 1) := by decide +kernel
theorem d_X12_sums_23 : decode M_X12_sums.2.1 23 = .ok (.getfield 90, 3) := by decide +kernel
theorem d_X12_sums_26 : decode M_X12_sums.2.1 26 = .ok (.iload_n 1, 1) := by decide +kernel
theorem d_X12_sums_27 : decode M_X12_sums.2.1 27 = .ok (.iaload, 1) := by decide +kernel
theorem d_X12_sums_28 : decode M_X12_sums.2.1 28 = .ok (.isub, 1) := by decide +kernel
theorem d_X12_sums_29 : decode M_X12_sums.2.1 29 = .ok (.goto 16, 3) := by decide +kernel
theorem d_X12_sums_32 : decode M_X12_sums.2.1 32 = .ok (.aload_n 0, 1) := by decide +kernel
theorem d_X12_sums_33 : decode M_X12_sums.2.1 33 = .ok (.getfield 84, 3) := by decide +kernel
theorem d_X12_sums_36 : decode M_X12_sums.2.1 36 = .ok (.iload_n 1, 1) := by decide +kernel
theorem d_X12_sums_37 : decode M_X12_sums.2.1 37 = .ok (.iaload, 1) := by decide +kernel
theorem d_X12_sums_38 : decode M_X12_sums.2.1 38 = .ok (.aload_n 0, 1) := by decide +kernel
theorem d_X12_sums_39 : decode M_X12_sums.2.1 39 = .ok (.getfield 90, 3) := by decide +kernel
theorem d_X12_sums_42 : decode M_X12_sums.2.1 42 = .ok (.iload_n 1, 1) := by decide +kernel
theorem d_X12_sums_43 : decode M_X12_sums.2.1 43 = .ok (.iaload, 1) := by decide +kernel
theorem d_X12_sums_44 : decode M_X12_sums.2.1 44 = .ok (.iadd, 1) := by decide +kernel
theorem d_X12_sums_45 : decode M_X12_sums.2.1 45 = .ok (.iastore, 1) := by decide +kernel
theorem d_X12_sums_46 : decode M_X12_sums.2.1 46 = .ok (.aload_n 0, 1) := by decide +kernel
theorem d_X12_sums_47 : decode M_X12_sums.2.1 47 = .ok (.getfield 93, 3) := by decide +kernel
theorem d_X12_sums_50 : decode M_X12_sums.2.1 50 = .ok (.iload_n 1, 1) := by decide +kernel
theorem d_X12_sums_51 : decode M_X12_sums.2.1 51 = .ok (.iconst 0, 1) := by decide +kernel
theorem d_X12_sums_52 : decode M_X12_sums.2.1 52 = .ok (.iastore, 1) := by decide +kernel
theorem d_X12_sums_53 : decode M_X12_sums.2.1 53 = .ok (.return_, 1) := by decide +kernel
set_option maxRecDepth 20000 in
theorem s_X12_sums_0 {d : Nat} {p0 : Int} {G : Mem} {Q : Int → Mem → Prop}  (h : (0 ≤ p0 ∧ p0 < 7) ∧ ((InR (G 337 p0)) ∧ (((G 337 p0) ≠ 21) → (∀ G4 : Mem, G4 = st G 336 p0 (wr ((G 336 p0) + (G 338 p0))) → (∀ G5 : Mem, G5 = st G4 339 p0 0 → Q 0 G5))) ∧ (¬ ((G 337 p0) ≠ 21) → (∀ G6 : Mem, G6 = st G 336 p0 (wr ((G 336 p0) - (G 338 p0))) → (∀ G7 : Mem, G7 = st G6 339 p0 0 → Q 0 G7))))) : Rn d M_X12_sums zN 0 [(0, (2, 311)), (1, (0, p0))] [] G Q := by
  refine r_aload_n d_X12_sums_0 0 rfl rfl ?_
  refine r_getL (v := 336) 12 36 36 rfl d_X12_sums_1 fl_X12_84 (by decide) (bs_ob bs_12) (ly_12_36 bs_12).1 (ly_12_36 bs_12).2.1 ?_
  refine r_iload_n d_X12_sums_4 1 rfl rfl ?_
  refine r_aload_n d_X12_sums_5 0 rfl rfl ?_
  refine r_getL (v := 337) 12 37 37 rfl d_X12_sums_6 fl_X12_87 (by decide) (bs_ob bs_12) (ly_12_37 bs_12).1 (ly_12_37 bs_12).2.1 ?_
  refine r_iload_n d_X12_sums_9 1 rfl rfl ?_
  obtain ⟨h1, h⟩ := h
  refine r_iaload d_X12_sums_10 (ly_12_37 bs_12).2.2 h1 ?_
  refine r_bipush d_X12_sums_11 (by decide +kernel) ?_
  obtain ⟨h2, h⟩ := h
  refine r_icmp_ne (tgt := 32) d_X12_sums_13 (by decide) h2 ⟨by decide, by decide⟩ (fun c3 => ?_) (fun c3 => ?_)
  · replace h := h.1 c3
    refine r_aload_n d_X12_sums_32 0 rfl rfl ?_
    refine r_getL (v := 336) 12 36 36 rfl d_X12_sums_33 fl_X12_84 (by decide) (bs_ob bs_12) (ly_12_36 bs_12).1 (ly_12_36 bs_12).2.1 ?_
    refine r_iload_n d_X12_sums_36 1 rfl rfl ?_
    refine r_iaload d_X12_sums_37 (ly_12_36 bs_12).2.2 h1 ?_
    refine r_aload_n d_X12_sums_38 0 rfl rfl ?_
    refine r_getL (v := 338) 12 38 38 rfl d_X12_sums_39 fl_X12_90 (by decide) (bs_ob bs_12) (ly_12_38 bs_12).1 (ly_12_38 bs_12).2.1 ?_
    refine r_iload_n d_X12_sums_42 1 rfl rfl ?_
    refine r_iaload d_X12_sums_43 (ly_12_38 bs_12).2.2 h1 ?_
    refine r_iadd d_X12_sums_44 ?_
    obtain ⟨G4, eG4⟩ : ∃ y : Mem, y = st G 336 p0 (wr ((G 336 p0) + (G 338 p0))) := ⟨_, rfl⟩
    replace h := h G4 eG4
    refine r_iastoreW d_X12_sums_45 (ly_12_36 bs_12).2.2 h1 ?_
    rw [← eG4]
    refine r_aload_n d_X12_sums_46 0 rfl rfl ?_
    refine r_getL (v := 339) 12 39 39 rfl d_X12_sums_47 fl_X12_93 (by decide) (bs_ob bs_12) (ly_12_39 bs_12).1 (ly_12_39 bs_12).2.1 ?_
    refine r_iload_n d_X12_sums_50 1 rfl rfl ?_
    refine r_iconst d_X12_sums_51 ?_
    obtain ⟨G5, eG5⟩ : ∃ y : Mem, y = st G4 339 p0 0 := ⟨_, rfl⟩
    replace h := h G5 eG5
    refine r_iastore d_X12_sums_52 (ly_12_39 bs_12).2.2 h1 ?_
    rw [← eG5]
    exact r_ret d_X12_sums_53 rfl ⟨rfl, Nat.le_refl _, Nat.le_refl _⟩ h
  · replace h := h.2 c3
    refine r_aload_n d_X12_sums_16 0 rfl rfl ?_
    refine r_getL (v := 336) 12 36 36 rfl d_X12_sums_17 fl_X12_84 (by decide) (bs_ob bs_12) (ly_12_36 bs_12).1 (ly_12_36 bs_12).2.1 ?_
    refine r_iload_n d_X12_sums_20 1 rfl rfl ?_
    refine r_iaload d_X12_sums_21 (ly_12_36 bs_12).2.2 h1 ?_
    refine r_aload_n d_X12_sums_22 0 rfl rfl ?_
    refine r_getL (v := 338) 12 38 38 rfl d_X12_sums_23 fl_X12_90 (by decide) (bs_ob bs_12) (ly_12_38 bs_12).1 (ly_12_38 bs_12).2.1 ?_
    refine r_iload_n d_X12_sums_26 1 rfl rfl ?_
    refine r_iaload d_X12_sums_27 (ly_12_38 bs_12).2.2 h1 ?_
    refine r_isub d_X12_sums_28 ?_
    refine r_goto (tgt := 45) d_X12_sums_29 (by decide) ?_
    obtain ⟨G6, eG6⟩ : ∃ y : Mem, y = st G 336 p0 (wr ((G 336 p0) - (G 338 p0))) := ⟨_, rfl⟩
    replace h := h G6 eG6
    refine r_iastoreW d_X12_sums_45 (ly_12_36 bs_12).2.2 h1 ?_
    rw [← eG6]
    refine r_aload_n d_X12_sums_46 0 rfl rfl ?_
    refine r_getL (v := 339) 12 39 39 rfl d_X12_sums_47 fl_X12_93 (by decide) (bs_ob bs_12) (ly_12_39 bs_12).1 (ly_12_39 bs_12).2.1 ?_
    refine r_iload_n d_X12_sums_50 1 rfl rfl ?_
    refine r_iconst d_X12_sums_51 ?_
    obtain ⟨G7, eG7⟩ : ∃ y : Mem, y = st G6 339 p0 0 := ⟨_, rfl⟩
    replace h := h G7 eG7
    refine r_iastore d_X12_sums_52 (ly_12_39 bs_12).2.2 h1 ?_
    rw [← eG7]
    exact r_ret d_X12_sums_53 rfl ⟨rfl, Nat.le_refl _, Nat.le_refl _⟩ h
theorem d_X12_tests_0 : decode M_X12_tests.2.1 0 = .ok (.aload_n 0, 1) := by decide +kernel
theorem d_X12_tests_1 : decode M_X12_tests.2.1 1 = .ok (.iload_n 1, 1) := by decide +kernel
theorem d_X12_tests_2 : decode M_X12_tests.2.1 2 = .ok (.invokevirtual 257, 3) := by decide +kernel
theorem d_X12_tests_5 : decode M_X12_tests.2.1 5 = .ok (.aload_n 0, 1) := by decide +kernel
theorem d_X12_tests_6 : decode M_X12_tests.2.1 6 = .ok (.getfield 84, 3) := by decide +kernel
theorem d_X12_tests_9 : decode M_X12_tests.2.1 9 = .ok (.iload_n 1, 1) := by decide +kernel
theorem d_X12_tests_10 : decode M_X12_tests.2.1 10 = .ok (.iaload, 1) := by decide +kernel
theorem d_X12_tests_11 : decode M_X12_tests.2.1 11 = .ok (.istore_n 2, 1) := by decide +kernel
theorem d_X12_tests_12 : decode M_X12_tests.2.1 12 = .ok (.aload_n 0, 1) := by decide +kernel
theorem d_X12_tests_13 : decode M_X12_tests.2.1 13 = .ok (.getfield 81, 3) := by decide +kernel
theorem d_X12_tests_16 : decode M_X12_tests.2.1 16 = .ok (.iload_n 1, 1) := by decide +kernel
theorem d_X12_tests_17 : decode M_X12_tests.2.1 17 = .ok (.iaload, 1) := by decide +kernel
theorem d_X12_tests_18 : decode M_X12_tests.2.1 18 = .ok (.bipush 24, 2) := by decide +kernel
theorem d_X12_tests_20 : decode M_X12_tests.2.1 20 = .ok (.if_icmp .ne 24, 3) := by decide +kernel
theorem d_X12_tests_23 : decode M_X12_tests.2.1 23 = .ok (.aload_n 0, 1) := by decide +kernel
theorem d_X12_tests_24 : decode M_X12_tests.2.1 24 = .ok (.getfield 78, 3) := by decide +kernel
theorem d_X12_tests_27 : decode M_X12_tests.2.1 27 = .ok (.iload_n 1, 1) := by decide +kernel
theorem d_X12_tests_28 : decode M_X12_tests.2.1 28 = .ok (.iaload, 1) := by decide +kernel
theorem d_X12_tests_29 : decode M_X12_tests.2.1 29 = .ok (.aload_n 0, 1) := by decide +kernel
theorem d_X12_tests_30 : decode M_X12_tests.2.1 30 = .ok (.getfield 84, 3) := by decide +kernel
theorem d_X12_tests_33 : decode M_X12_tests.2.1 33 = .ok (.iload_n 1, 1) := by decide +kernel
theorem d_X12_tests_34 : decode M_X12_tests.2.1 34 = .ok (.iaload, 1) := by decide +kernel
theorem d_X12_tests_35 : decode M_X12_tests.2.1 35 = .ok (.if_icmp .ge 7, 3) := by decide +kernel
theorem d_X12_tests_38 : decode M_X12_tests.2.1 38 = .ok (.iconst 1, 1) := by decide +kernel
theorem d_X12_tests_39 : decode M_X12_tests.2.1 39 = .ok (.goto 4, 3) := by decide +kernel
theorem d_X12_tests_42 : decode M_X12_tests.2.1 42 = .ok (.iconst 0, 1) := by decide +kernel
theorem d_X12_tests_43 : decode M_X12_tests.2.1 43 = .ok (.istore_n 2, 1) := by decide +kernel
theorem d_X12_tests_44 : decode M_X12_tests.2.1 44 = .ok (.aload_n 0, 1) := by decide +kernel
theorem d_X12_tests_45 : decode M_X12_tests.2.1 45 = .ok (.getfield 81, 3) := by decide +kernel
theorem d_X12_tests_48 : decode M_X12_tests.2.1 48 = .ok (.iload_n 1, 1) := by decide +kernel
theorem d_X12_tests_49 : decode M_X12_tests.2.1 49 = .ok (.iaload, 1) := by decide +kernel
theorem d_X12_tests_50 : decode M_X12_tests.2.1 50 = .ok (.bipush 25, 2) := by decide +kernel
theorem d_X12_tests_52 : decode M_X12_tests.2.1 52 = .ok (.if_icmp .ne 24, 3) := by decide +kernel
theorem d_X12_tests_55 : decode M_X12_tests.2.1 55 = .ok (.aload_n 0, 1) := by decide +kernel
theorem d_X12_tests_56 : decode M_X12_tests.2.1 56 = .ok (.getfield 78, 3) := by decide +kernel
theorem d_X12_tests_59 : decode M_X12_tests.2.1 59 = .ok (.iload_n 1, 1) := by decide +kernel
theorem d_X12_tests_60 : decode M_X12_tests.2.1 60 = .ok (.iaload, 1) := by decide +kernel
theorem d_X12_tests_61 : decode M_X12_tests.2.1 61 = .ok (.aload_n 0, 1) := by decide +kernel
theorem d_X12_tests_62 : decode M_X12_tests.2.1 62 = .ok (.getfield 84, 3) := by decide +kernel
theorem d_X12_tests_65 : decode M_X12_tests.2.1 65 = .ok (.iload_n 1, 1) := by decide +kernel
theorem d_X12_tests_66 : decode M_X12_tests.2.1 66 = .ok (.iaload, 1) := by decide +kernel
theorem d_X12_tests_67 : decode M_X12_tests.2.1 67 = .ok (.if_icmp .ne 7, 3) := by decide +kernel
theorem d_X12_tests_70 : decode M_X12_tests.2.1 70 = .ok (.iconst 1, 1) := by decide +kernel
theorem d_X12_tests_71 : decode M_X12_tests.2.1 71 = .ok (.goto 4, 3) := by decide +kernel
theorem d_X12_tests_74 : decode M_X12_tests.2.1 74 = .ok (.iconst 0, 1) := by decide +kernel
theorem d_X12_tests_75 : decode M_X12_tests.2.1 75 = .ok (.istore_n 2, 1) := by decide +kernel
theorem d_X12_tests_76 : decode M_X12_tests.2.1 76 = .ok (.aload_n 0, 1) := by decide +kernel
theorem d_X12_tests_77 : decode M_X12_tests.2.1 77 = .ok (.getfield 75, 3) := by decide +kernel
theorem d_X12_tests_80 : decode M_X12_tests.2.1 80 = .ok (.iload_n 1, 1) := by decide +kernel
theorem d_X12_tests_81 : decode M_X12_tests.2.1 81 = .ok (.iaload, 1) := by decide +kernel
theorem d_X12_tests_82 : decode M_X12_tests.2.1 82 = .ok (.bipush 26, 2) := by decide +kernel
theorem d_X12_tests_84 : decode M_X12_tests.2.1 84 = .ok (.if_icmp .ne 22, 3) := by decide +kernel
theorem d_X12_tests_87 : decode M_X12_tests.2.1 87 = .ok (.aload_n 0, 1) := by decide +kernel
theorem d_X12_tests_88 : decode M_X12_tests.2.1 88 = .ok (.getfield 72, 3) := by decide +kernel
theorem d_X12_tests_91 : decode M_X12_tests.2.1 91 = .ok (.iload_n 1, 1) := by decide +kernel
theorem d_X12_tests_92 : decode M_X12_tests.2.1 92 = .ok (.iaload, 1) := by decide +kernel
theorem d_X12_tests_93 : decode M_X12_tests.2.1 93 = .ok (.ifCond .eq 11, 3) := by decide +kernel
theorem d_X12_tests_96 : decode M_X12_tests.2.1 96 = .ok (.iload_n 2, 1) := by decide +kernel
theorem d_X12_tests_97 : decode M_X12_tests.2.1 97 = .ok (.ifCond .eq 7, 3) := by decide +kernel
theorem d_X12_tests_100 : decode M_X12_tests.2.1 100 = .ok (.iconst 1, 1) := by decide +kernel
theorem d_X12_tests_101 : decode M_X12_tests.2.1 101 = .ok (.goto 4, 3) := by decide +kernel
theorem d_X12_tests_104 : decode M_X12_tests.2.1 104 = .ok (.iconst 0, 1) := by decide +kernel
theorem d_X12_tests_105 : decode M_X12_tests.2.1 105 = .ok (.istore_n 2, 1) := by decide +kernel
theorem d_X12_tests_106 : decode M_X12_tests.2.1 106 = .ok (.aload_n 0, 1) := by decide +kernel
theorem d_X12_tests_107 : decode M_X12_tests.2.1 107 = .ok (.getfield 75, 3) := by decide +kernel
theorem d_X12_tests_110 : decode M_X12_tests.2.1 110 = .ok (.iload_n 1, 1) := by decide +kernel
theorem d_X12_tests_111 : decode M_X12_tests.2.1 111 = .ok (.iaload, 1) := by decide +kernel
theorem d_X12_tests_112 : decode M_X12_tests.2.1 112 = .ok (.bipush 27, 2) := by decide +kernel
theorem d_X12_tests_114 : decode M_X12_tests.2.1 114 = .ok (.if_icmp .ne 22, 3) := by decide +kernel
theorem d_X12_tests_117 : decode M_X12_tests.2.1 117 = .ok (.aload_n 0, 1) := by decide +kernel
theorem d_X12_tests_118 : decode M_X12_tests.2.1 118 = .ok (.getfield 72, 3) := by decide +kernel
theorem d_X12_tests_121 : decode M_X12_tests.2.1 121 = .ok (.iload_n 1, 1) := by decide +kernel
theorem d_X12_tests_122 : decode M_X12_tests.2.1 122 = .ok (.iaload, 1) := by decide +kernel
theorem d_X12_tests_123 : decode M_X12_tests.2.1 123 = .ok (.ifCond .ne 7, 3) := by decide +kernel
theorem d_X12_tests_126 : decode M_X12_tests.2.1 126 = .ok (.iload_n 2, 1) := by decide +kernel
theorem d_X12_tests_127 : decode M_X12_tests.2.1 127 = .ok (.ifCond .eq 7, 3) := by decide +kernel
theorem d_X12_tests_130 : decode M_X12_tests.2.1 130 = .ok (.iconst 1, 1) := by decide +kernel
theorem d_X12_tests_131 : decode M_X12_tests.2.1 131 = .ok (.goto 4, 3) := by decide +kernel
theorem d_X12_tests_134 : decode M_X12_tests.2.1 134 = .ok (.iconst 0, 1) := by decide +kernel
theorem d_X12_tests_135 : decode M_X12_tests.2.1 135 = .ok (.istore_n 2, 1) := by decide +kernel
theorem d_X12_tests_136 : decode M_X12_tests.2.1 136 = .ok (.aload_n 0, 1) := by decide +kernel
theorem d_X12_tests_137 : decode M_X12_tests.2.1 137 = .ok (.getfield 72, 3) := by decide +kernel
theorem d_X12_tests_140 : decode M_X12_tests.2.1 140 = .ok (.iload_n 1, 1) := by decide +kernel
theorem d_X12_tests_141 : decode M_X12_tests.2.1 141 = .ok (.iload_n 2, 1) := by decide +kernel
theorem d_X12_tests_142 : decode M_X12_tests.2.1 142 = .ok (.iastore, 1) := by decide +kernel
theorem d_X12_tests_143 : decode M_X12_tests.2.1 143 = .ok (.aload_n 0, 1) := by decide +kernel
theorem d_X12_tests_144 : decode M_X12_tests.2.1 144 = .ok (.getfield 81, 3) := by decide +kernel
theorem d_X12_tests_147 : decode M_X12_tests.2.1 147 = .ok (.iload_n 1, 1) := by decide +kernel
theorem d_X12_tests_148 : decode M_X12_tests.2.1 148 = .ok (.iconst 0, 1) := by decide +kernel
theorem d_X12_tests_149 : decode M_X12_tests.2.1 149 = .ok (.iastore, 1) := by decide +kernel
theorem d_X12_tests_150 : decode M_X12_tests.2.1 150 = .ok (.aload_n 0, 1) := by decide +kernel
theorem d_X12_tests_151 : decode M_X12_tests.2.1 151 = .ok (.getfield 84, 3) := by decide +kernel
theorem d_X12_tests_154 : decode M_X12_tests.2.1 154 = .ok (.iload_n 1, 1) := by decide +kernel
theorem d_X12_tests_155 : decode M_X12_tests.2.1 155 = .ok (.iconst 0, 1) := by decide +kernel
theorem d_X12_tests_156 : decode M_X12_tests.2.1 156 = .ok (.iastore, 1) := by decide +kernel
theorem d_X12_tests_157 : decode M_X12_tests.2.1 157 = .ok (.aload_n 0, 1) := by decide +kernel
theorem d_X12_tests_158 : decode M_X12_tests.2.1 158 = .ok (.getfield 87, 3) := by decide +kernel
theorem d_X12_tests_161 : decode M_X12_tests.2.1 161 = .ok (.iload_n 1, 1) := by decide +kernel
theorem d_X12_tests_162 : decode M_X12_tests.2.1 162 = .ok (.bipush 20, 2) := by decide +kernel
theorem d_X12_tests_164 : decode M_X12_tests.2.1 164 = .ok (.iastore, 1) := by decide +kernel
theorem d_X12_tests_165 : decode M_X12_tests.2.1 165 = .ok (.return_, 1) := by decide +kernel
set_option maxRecDepth 20000 in
theorem s_X12_tests_0 {d : Nat} {p0 : Int} {G : Mem} {Q : Int → Mem → Prop}  (h : Ct d M_X12_sums NT 0 0 (some lay) [(2, 311), (0, p0)] G (fun r2 G1 => (0 ≤ p0 ∧ p0 < 7) ∧ ((InR (G1 335 p0)) ∧ (((G1 335 p0) ≠ 24) → Rn (d + 1) M_X12_tests zN 44 [(0, (2, 311)), (1, (0, p0)), (2, (0, (G1 336 p0)))] [] G1 Q) ∧ (¬ ((G1 335 p0) ≠ 24) → (InR (G1 334 p0)) ∧ (InR (G1 336 p0)) ∧ (((G1 336 p0) ≤ (G1 334 p0)) → Rn (d + 1) M_X12_tests zN 44 [(0, (2, 311)), (1, (0, p0)), (2, (0, 0))] [] G1 Q) ∧ (¬ ((G1 336 p0) ≤ (G1 334 p0)) → Rn (d + 1) M_X12_tests zN 44 [(0, (2, 311)), (1, (0, p0)), (2, (0, 1))] [] G1 Q))))) : Rn (d + 1) M_X12_tests zN 0 [(0, (2, 311)), (1, (0, p0))] [] G Q := by
  refine r_aload_n d_X12_tests_0 0 rfl rfl ?_
  refine r_iload_n d_X12_tests_1 1 rfl rfl ?_
  refine r_callV0 (M' := M_X12_sums) (ci := 12) [(0, p0)] d_X12_tests_2 cl_X12_257 rfl (Nat.le_of_ble_eq_true rfl) (by decide) rfl (bs_ob bs_12) ?_
  refine Ct.mono h (fun r2 G1 h => ?_)
  show Rn _ M_X12_tests zN 5 [(0, (2, 311)), (1, (0, p0))] [] G1 Q
  refine r_aload_n d_X12_tests_5 0 rfl rfl ?_
  refine r_getL (v := 336) 12 36 36 rfl d_X12_tests_6 fl_X12_84 (by decide) (bs_ob bs_12) (ly_12_36 bs_12).1 (ly_12_36 bs_12).2.1 ?_
  refine r_iload_n d_X12_tests_9 1 rfl rfl ?_
  obtain ⟨h3, h⟩ := h
  refine r_iaload d_X12_tests_10 (ly_12_36 bs_12).2.2 h3 ?_
  refine r_istore_n (ls1 := [(2, (0, (G1 336 p0))), (0, (2, 311)), (1, (0, p0))]) d_X12_tests_11 rfl (by decide) rfl ?_
  refine r_aload_n d_X12_tests_12 1 rfl rfl ?_
  refine r_getL (v := 335) 12 35 35 rfl d_X12_tests_13 fl_X12_81 (by decide) (bs_ob bs_12) (ly_12_35 bs_12).1 (ly_12_35 bs_12).2.1 ?_
  refine r_iload_n d_X12_tests_16 2 rfl rfl ?_
  refine r_iaload d_X12_tests_17 (ly_12_35 bs_12).2.2 h3 ?_
  refine r_bipush d_X12_tests_18 (by decide +kernel) ?_
  obtain ⟨h4, h⟩ := h
  refine r_icmp_ne (tgt := 44) d_X12_tests_20 (by decide) h4 ⟨by decide, by decide⟩ (fun c5 => ?_) (fun c5 => ?_)
  · replace h := h.1 c5
    exact Rn.sub [1, 2, 0] rfl h
  · replace h := h.2 c5
    refine r_aload_n d_X12_tests_23 1 rfl rfl ?_
    refine r_getL (v := 334) 12 34 34 rfl d_X12_tests_24 fl_X12_78 (by decide) (bs_ob bs_12) (ly_12_34 bs_12).1 (ly_12_34 bs_12).2.1 ?_
    refine r_iload_n d_X12_tests_27 2 rfl rfl ?_
    refine r_iaload d_X12_tests_28 (ly_12_34 bs_12).2.2 h3 ?_
    refine r_aload_n d_X12_tests_29 1 rfl rfl ?_
    refine r_getL (v := 336) 12 36 36 rfl d_X12_tests_30 fl_X12_84 (by decide) (bs_ob bs_12) (ly_12_36 bs_12).1 (ly_12_36 bs_12).2.1 ?_
    refine r_iload_n d_X12_tests_33 2 rfl rfl ?_
    refine r_iaload d_X12_tests_34 (ly_12_36 bs_12).2.2 h3 ?_
    obtain ⟨h6, h⟩ := h
    obtain ⟨h7, h⟩ := h
    refine r_icmp_ge (tgt := 42) d_X12_tests_35 (by decide) h6 h7 (fun c8 => ?_) (fun c8 => ?_)
    · replace h := h.1 c8
      refine r_iconst d_X12_tests_42 ?_
      refine r_istore_n (ls1 := [(2, (0, 0)), (0, (2, 311)), (1, (0, p0))]) d_X12_tests_43 rfl (by decide) rfl ?_
      exact Rn.sub [1, 2, 0] rfl h
    · replace h := h.2 c8
      refine r_iconst d_X12_tests_38 ?_
      refine r_goto (tgt := 43) d_X12_tests_39 (by decide) ?_
      refine r_istore_n (ls1 := [(2, (0, 1)), (0, (2, 311)), (1, (0, p0))]) d_X12_tests_43 rfl (by decide) rfl ?_
      exact Rn.sub [1, 2, 0] rfl h
set_option maxRecDepth 20000 in
theorem s_X12_tests_44 {d : Nat} {x1 : Int} {x2 : Int} {G : Mem} {Q : Int → Mem → Prop}  (h : (0 ≤ x1 ∧ x1 < 7) ∧ ((InR (G 335 x1)) ∧ (((G 335 x1) ≠ 25) → Rn d M_X12_tests zN 76 [(0, (2, 311)), (1, (0, x1)), (2, (0, x2))] [] G Q) ∧ (¬ ((G 335 x1) ≠ 25) → (InR (G 334 x1)) ∧ (InR (G 336 x1)) ∧ (((G 334 x1) ≠ (G 336 x1)) → Rn d M_X12_tests zN 76 [(0, (2, 311)), (1, (0, x1)), (2, (0, 0))] [] G Q) ∧ (¬ ((G 334 x1) ≠ (G 336 x1)) → Rn d M_X12_tests zN 76 [(0, (2, 311)), (1, (0, x1)), (2, (0, 1))] [] G Q)))) : Rn d M_X12_tests zN 44 [(0, (2, 311)), (1, (0, x1)), (2, (0, x2))] [] G Q := by
  refine r_aload_n d_X12_tests_44 0 rfl rfl ?_
  refine r_getL (v := 335) 12 35 35 rfl d_X12_tests_45 fl_X12_81 (by decide) (bs_ob bs_12) (ly_12_35 bs_12).1 (ly_12_35 bs_12).2.1 ?_
  refine r_iload_n d_X12_tests_48 1 rfl rfl ?_
  obtain ⟨h1, h⟩ := h
  refine r_iaload d_X12_tests_49 (ly_12_35 bs_12).2.2 h1 ?_
  refine r_bipush d_X12_tests_50 (by decide +kernel) ?_
  obtain ⟨h2, h⟩ := h
  refine r_icmp_ne (tgt := 76) d_X12_tests_52 (by decide) h2 ⟨by decide, by decide⟩ (fun c3 => ?_) (fun c3 => ?_)
  · replace h := h.1 c3
    exact h
  · replace h := h.2 c3
    refine r_aload_n d_X12_tests_55 0 rfl rfl ?_
    refine r_getL (v := 334) 12 34 34 rfl d_X12_tests_56 fl_X12_78 (by decide) (bs_ob bs_12) (ly_12_34 bs_12).1 (ly_12_34 bs_12).2.1 ?_
    refine r_iload_n d_X12_tests_59 1 rfl rfl ?_
    refine r_iaload d_X12_tests_60 (ly_12_34 bs_12).2.2 h1 ?_
    refine r_aload_n d_X12_tests_61 0 rfl rfl ?_
    refine r_getL (v := 336) 12 36 36 rfl d_X12_tests_62 fl_X12_84 (by decide) (bs_ob bs_12) (ly_12_36 bs_12).1 (ly_12_36 bs_12).2.1 ?_
    refine r_iload_n d_X12_tests_65 1 rfl rfl ?_
    refine r_iaload d_X12_tests_66 (ly_12_36 bs_12).2.2 h1 ?_
    obtain ⟨h4, h⟩ := h
    obtain ⟨h5, h⟩ := h
    refine r_icmp_ne (tgt := 74) d_X12_tests_67 (by decide) h4 h5 (fun c6 => ?_) (fun c6 => ?_)
    · replace h := h.1 c6
      refine r_iconst d_X12_tests_74 ?_
      refine r_istore_n (ls1 := [(2, (0, 0)), (0, (2, 311)), (1, (0, x1))]) d_X12_tests_75 rfl (by decide) rfl ?_
      exact Rn.sub [1, 2, 0] rfl h
    · replace h := h.2 c6
      refine r_iconst d_X12_tests_70 ?_
      refine r_goto (tgt := 75) d_X12_tests_71 (by decide) ?_
      refine r_istore_n (ls1 := [(2, (0, 1)), (0, (2, 311)), (1, (0, x1))]) d_X12_tests_75 rfl (by decide) rfl ?_
      exact Rn.sub [1, 2, 0] rfl h
set_option maxRecDepth 20000 in
theorem s_X12_tests_76 {d : Nat} {x1 : Int} {x2 : Int} {G : Mem} {Q : Int → Mem → Prop}  (h : (0 ≤ x1 ∧ x1 < 7) ∧ ((InR (G 333 x1)) ∧ (((G 333 x1) ≠ 26) → Rn d M_X12_tests zN 106 [(0, (2, 311)), (1, (0, x1)), (2, (0, x2))] [] G Q) ∧ (¬ ((G 333 x1) ≠ 26) → (InR (G 332 x1)) ∧ (((G 332 x1) = 0) → Rn d M_X12_tests zN 106 [(0, (2, 311)), (1, (0, x1)), (2, (0, 0))] [] G Q) ∧ (¬ ((G 332 x1) = 0) → (InR x2) ∧ ((x2 = 0) → Rn d M_X12_tests zN 106 [(0, (2, 311)), (1, (0, x1)), (2, (0, 0))] [] G Q) ∧ (¬ (x2 = 0) → Rn d M_X12_tests zN 106 [(0, (2, 311)), (1, (0, x1)), (2, (0, 1))] [] G Q))))) : Rn d M_X12_tests zN 76 [(0, (2, 311)), (1, (0, x1)), (2, (0, x2))] [] G Q := by
  refine r_aload_n d_X12_tests_76 0 rfl rfl ?_
  refine r_getL (v := 333) 12 33 33 rfl d_X12_tests_77 fl_X12_75 (by decide) (bs_ob bs_12) (ly_12_33 bs_12).1 (ly_12_33 bs_12).2.1 ?_
  refine r_iload_n d_X12_tests_80 1 rfl rfl ?_
  obtain ⟨h1, h⟩ := h
  refine r_iaload d_X12_tests_81 (ly_12_33 bs_12).2.2 h1 ?_
  refine r_bipush d_X12_tests_82 (by decide +kernel) ?_
  obtain ⟨h2, h⟩ := h
  refine r_icmp_ne (tgt := 106) d_X12_tests_84 (by decide) h2 ⟨by decide, by decide⟩ (fun c3 => ?_) (fun c3 => ?_)
  · replace h := h.1 c3
    exact h
  · replace h := h.2 c3
    refine r_aload_n d_X12_tests_87 0 rfl rfl ?_
    refine r_getL (v := 332) 12 32 32 rfl d_X12_tests_88 fl_X12_72 (by decide) (bs_ob bs_12) (ly_12_32 bs_12).1 (ly_12_32 bs_12).2.1 ?_
    refine r_iload_n d_X12_tests_91 1 rfl rfl ?_
    refine r_iaload d_X12_tests_92 (ly_12_32 bs_12).2.2 h1 ?_
    obtain ⟨h4, h⟩ := h
    refine r_if_eq (tgt := 104) d_X12_tests_93 (by decide) h4 (fun c5 => ?_) (fun c5 => ?_)
    · replace h := h.1 c5
      refine r_iconst d_X12_tests_104 ?_
      refine r_istore_n (ls1 := [(2, (0, 0)), (0, (2, 311)), (1, (0, x1))]) d_X12_tests_105 rfl (by decide) rfl ?_
      exact Rn.sub [1, 2, 0] rfl h
    · replace h := h.2 c5
      refine r_iload_n d_X12_tests_96 2 rfl rfl ?_
      obtain ⟨h6, h⟩ := h
      refine r_if_eq (tgt := 104) d_X12_tests_97 (by decide) h6 (fun c7 => ?_) (fun c7 => ?_)
      · replace h := h.1 c7
        refine r_iconst d_X12_tests_104 ?_
        refine r_istore_n (ls1 := [(2, (0, 0)), (0, (2, 311)), (1, (0, x1))]) d_X12_tests_105 rfl (by decide) rfl ?_
        exact Rn.sub [1, 2, 0] rfl h
      · replace h := h.2 c7
        refine r_iconst d_X12_tests_100 ?_
        refine r_goto (tgt := 105) d_X12_tests_101 (by decide) ?_
        refine r_istore_n (ls1 := [(2, (0, 1)), (0, (2, 311)), (1, (0, x1))]) d_X12_tests_105 rfl (by decide) rfl ?_
        exact Rn.sub [1, 2, 0] rfl h
set_option maxRecDepth 20000 in
theorem s_X12_tests_106 {d : Nat} {x1 : Int} {x2 : Int} {G : Mem} {Q : Int → Mem → Prop}  (h : (0 ≤ x1 ∧ x1 < 7) ∧ ((InR (G 333 x1)) ∧ (((G 333 x1) ≠ 27) → Rn d M_X12_tests zN 136 [(0, (2, 311)), (1, (0, x1)), (2, (0, x2))] [] G Q) ∧ (¬ ((G 333 x1) ≠ 27) → (InR (G 332 x1)) ∧ (((G 332 x1) ≠ 0) → Rn d M_X12_tests zN 136 [(0, (2, 311)), (1, (0, x1)), (2, (0, 1))] [] G Q) ∧ (¬ ((G 332 x1) ≠ 0) → (InR x2) ∧ ((x2 = 0) → Rn d M_X12_tests zN 136 [(0, (2, 311)), (1, (0, x1)), (2, (0, 0))] [] G Q) ∧ (¬ (x2 = 0) → Rn d M_X12_tests zN 136 [(0, (2, 311)), (1, (0, x1)), (2, (0, 1))] [] G Q))))) : Rn d M_X12_tests zN 106 [(0, (2, 311)), (1, (0, x1)), (2, (0, x2))] [] G Q := by
  refine r_aload_n d_X12_tests_106 0 rfl rfl ?_
  refine r_getL (v := 333) 12 33 33 rfl d_X12_tests_107 fl_X12_75 (by decide) (bs_ob bs_12) (ly_12_33 bs_12).1 (ly_12_33 bs_12).2.1 ?_
  refine r_iload_n d_X12_tests_110 1 rfl rfl ?_
  obtain ⟨h1, h⟩ := h
  refine r_iaload d_X12_tests_111 (ly_12_33 bs_12).2.2 h1 ?_
  refine r_bipush d_X12_tests_112 (by decide +kernel) ?_
  obtain ⟨h2, h⟩ := h
  refine r_icmp_ne (tgt := 136) d_X12_tests_114 (by decide) h2 ⟨by decide, by decide⟩ (fun c3 => ?_) (fun c3 => ?_)
  · replace h := h.1 c3
    exact h
  · replace h := h.2 c3
    refine r_aload_n d_X12_tests_117 0 rfl rfl ?_
    refine r_getL (v := 332) 12 32 32 rfl d_X12_tests_118 fl_X12_72 (by decide) (bs_ob bs_12) (ly_12_32 bs_12).1 (ly_12_32 bs_12).2.1 ?_
    refine r_iload_n d_X12_tests_121 1 rfl rfl ?_
    refine r_iaload d_X12_tests_122 (ly_12_32 bs_12).2.2 h1 ?_
    obtain ⟨h4, h⟩ := h
    refine r_if_ne (tgt := 130) d_X12_tests_123 (by decide) h4 (fun c5 => ?_) (fun c5 => ?_)
    · replace h := h.1 c5
      refine r_iconst d_X12_tests_130 ?_
      refine r_goto (tgt := 135) d_X12_tests_131 (by decide) ?_
      refine r_istore_n (ls1 := [(2, (0, 1)), (0, (2, 311)), (1, (0, x1))]) d_X12_tests_135 rfl (by decide) rfl ?_
      exact Rn.sub [1, 2, 0] rfl h
    · replace h := h.2 c5
      refine r_iload_n d_X12_tests_126 2 rfl rfl ?_
      obtain ⟨h6, h⟩ := h
      refine r_if_eq (tgt := 134) d_X12_tests_127 (by decide) h6 (fun c7 => ?_) (fun c7 => ?_)
      · replace h := h.1 c7
        refine r_iconst d_X12_tests_134 ?_
        refine r_istore_n (ls1 := [(2, (0, 0)), (0, (2, 311)), (1, (0, x1))]) d_X12_tests_135 rfl (by decide) rfl ?_
        exact Rn.sub [1, 2, 0] rfl h
      · replace h := h.2 c7
        refine r_iconst d_X12_tests_130 ?_
        refine r_goto (tgt := 135) d_X12_tests_131 (by decide) ?_
        refine r_istore_n (ls1 := [(2, (0, 1)), (0, (2, 311)), (1, (0, x1))]) d_X12_tests_135 rfl (by decide) rfl ?_
        exact Rn.sub [1, 2, 0] rfl h
set_option maxRecDepth 20000 in
theorem s_X12_tests_136 {d : Nat} {x1 : Int} {x2 : Int} {G : Mem} {Q : Int → Mem → Prop}  (h : (0 ≤ x1 ∧ x1 < 7) ∧ (∀ G2 : Mem, G2 = st G 332 x1 (wr x2) → (∀ G3 : Mem, G3 = st G2 335 x1 0 → (∀ G4 : Mem, G4 = st G3 336 x1 0 → (∀ G5 : Mem, G5 = st G4 337 x1 20 → Q 0 G5))))) : Rn d M_X12_tests zN 136 [(0, (2, 311)), (1, (0, x1)), (2, (0, x2))] [] G Q := by
  refine r_aload_n d_X12_tests_136 0 rfl rfl ?_
  refine r_getL (v := 332) 12 32 32 rfl d_X12_tests_137 fl_X12_72 (by decide) (bs_ob bs_12) (ly_12_32 bs_12).1 (ly_12_32 bs_12).2.1 ?_
  refine r_iload_n d_X12_tests_140 1 rfl rfl ?_
  refine r_iload_n d_X12_tests_141 2 rfl rfl ?_
  obtain ⟨h1, h⟩ := h
  obtain ⟨G2, eG2⟩ : ∃ y : Mem, y = st G 332 x1 (wr x2) := ⟨_, rfl⟩
  replace h := h G2 eG2
  refine r_iastoreW d_X12_tests_142 (ly_12_32 bs_12).2.2 h1 ?_
  rw [← eG2]
  refine r_aload_n d_X12_tests_143 0 rfl rfl ?_
  refine r_getL (v := 335) 12 35 35 rfl d_X12_tests_144 fl_X12_81 (by decide) (bs_ob bs_12) (ly_12_35 bs_12).1 (ly_12_35 bs_12).2.1 ?_
  refine r_iload_n d_X12_tests_147 1 rfl rfl ?_
  refine r_iconst d_X12_tests_148 ?_
  obtain ⟨G3, eG3⟩ : ∃ y : Mem, y = st G2 335 x1 0 := ⟨_, rfl⟩
  replace h := h G3 eG3
  refine r_iastore d_X12_tests_149 (ly_12_35 bs_12).2.2 h1 ?_
  rw [← eG3]
  refine r_aload_n d_X12_tests_150 0 rfl rfl ?_
  refine r_getL (v := 336) 12 36 36 rfl d_X12_tests_151 fl_X12_84 (by decide) (bs_ob bs_12) (ly_12_36 bs_12).1 (ly_12_36 bs_12).2.1 ?_
  refine r_iload_n d_X12_tests_154 1 rfl rfl ?_
  refine r_iconst d_X12_tests_155 ?_
  obtain ⟨G4, eG4⟩ : ∃ y : Mem, y = st G3 336 x1 0 := ⟨_, rfl⟩
  replace h := h G4 eG4
  refine r_iastore d_X12_tests_156 (ly_12_36 bs_12).2.2 h1 ?_
  rw [← eG4]
  refine r_aload_n d_X12_tests_157 0 rfl rfl ?_
  refine r_getL (v := 337) 12 37 37 rfl d_X12_tests_158 fl_X12_87 (by decide) (bs_ob bs_12) (ly_12_37 bs_12).1 (ly_12_37 bs_12).2.1 ?_
  refine r_iload_n d_X12_tests_161 1 rfl rfl ?_
  refine r_bipush d_X12_tests_162 (by decide +kernel) ?_
  obtain ⟨G5, eG5⟩ : ∃ y : Mem, y = st G4 337 x1 20 := ⟨_, rfl⟩
  replace h := h G5 eG5
  refine r_iastore d_X12_tests_164 (ly_12_37 bs_12).2.2 h1 ?_
  rw [← eG5]
  exact r_ret d_X12_tests_165 rfl ⟨rfl, Nat.le_refl _, Nat.le_refl _⟩ h
theorem d_X12_worked_0 : decode M_X12_worked.2.1 0 = .ok (.iconst 0, 1) := by decide +kernel
theorem d_X12_worked_1 : decode M_X12_worked.2.1 1 = .ok (.istore_n 2, 1) := by decide +kernel
theorem d_X12_worked_2 : decode M_X12_worked.2.1 2 = .ok (.aload_n 0, 1) := by decide +kernel
theorem d_X12_worked_3 : decode M_X12_worked.2.1 3 = .ok (.iconst 0, 1) := by decide +kernel
theorem d_X12_worked_4 : decode M_X12_worked.2.1 4 = .ok (.invokevirtual 260, 3) := by decide +kernel
theorem d_X12_worked_7 : decode M_X12_worked.2.1 7 = .ok (.aload_n 0, 1) := by decide +kernel
theorem d_X12_worked_8 : decode M_X12_worked.2.1 8 = .ok (.getfield 56, 3) := by decide +kernel
theorem d_X12_worked_11 : decode M_X12_worked.2.1 11 = .ok (.iload_n 1, 1) := by decide +kernel
theorem d_X12_worked_12 : decode M_X12_worked.2.1 12 = .ok (.iaload, 1) := by decide +kernel
theorem d_X12_worked_13 : decode M_X12_worked.2.1 13 = .ok (.istore_n 3, 1) := by decide +kernel
theorem d_X12_worked_14 : decode M_X12_worked.2.1 14 = .ok (.iload_n 3, 1) := by decide +kernel
theorem d_X12_worked_15 : decode M_X12_worked.2.1 15 = .ok (.aload_n 0, 1) := by decide +kernel
theorem d_X12_worked_16 : decode M_X12_worked.2.1 16 = .ok (.getfield 59, 3) := by decide +kernel
theorem d_X12_worked_19 : decode M_X12_worked.2.1 19 = .ok (.iload_n 1, 1) := by decide +kernel
theorem d_X12_worked_20 : decode M_X12_worked.2.1 20 = .ok (.iaload, 1) := by decide +kernel
theorem d_X12_worked_21 : decode M_X12_worked.2.1 21 = .ok (.if_icmp .ge 314, 3) := by decide +kernel
theorem d_X12_worked_24 : decode M_X12_worked.2.1 24 = .ok (.aload_n 0, 1) := by decide +kernel
theorem d_X12_worked_25 : decode M_X12_worked.2.1 25 = .ok (.getfield 62, 3) := by decide +kernel
theorem d_X12_worked_28 : decode M_X12_worked.2.1 28 = .ok (.iload_n 3, 1) := by decide +kernel
theorem d_X12_worked_29 : decode M_X12_worked.2.1 29 = .ok (.iaload, 1) := by decide +kernel
theorem d_X12_worked_30 : decode M_X12_worked.2.1 30 = .ok (.istore 4, 2) := by decide +kernel
theorem d_X12_worked_32 : decode M_X12_worked.2.1 32 = .ok (.iload 4, 2) := by decide +kernel
theorem d_X12_worked_34 : decode M_X12_worked.2.1 34 = .ok (.bipush 28, 2) := by decide +kernel
theorem d_X12_worked_36 : decode M_X12_worked.2.1 36 = .ok (.if_icmp .eq 10, 3) := by decide +kernel
theorem d_X12_worked_39 : decode M_X12_worked.2.1 39 = .ok (.iload 4, 2) := by decide +kernel
theorem d_X12_worked_41 : decode M_X12_worked.2.1 41 = .ok (.bipush 30, 2) := by decide +kernel
theorem d_X12_worked_43 : decode M_X12_worked.2.1 43 = .ok (.if_icmp .ne 32, 3) := by decide +kernel
theorem d_X12_worked_46 : decode M_X12_worked.2.1 46 = .ok (.iinc 2 1, 3) := by decide +kernel
theorem d_X12_worked_49 : decode M_X12_worked.2.1 49 = .ok (.aload_n 0, 1) := by decide +kernel
theorem d_X12_worked_50 : decode M_X12_worked.2.1 50 = .ok (.getfield 96, 3) := by decide +kernel
theorem d_X12_worked_53 : decode M_X12_worked.2.1 53 = .ok (.iload_n 2, 1) := by decide +kernel
theorem d_X12_worked_54 : decode M_X12_worked.2.1 54 = .ok (.iload 4, 2) := by decide +kernel
theorem d_X12_worked_56 : decode M_X12_worked.2.1 56 = .ok (.bipush 30, 2) := by decide +kernel
theorem d_X12_worked_58 : decode M_X12_worked.2.1 58 = .ok (.if_icmp .ne 7, 3) := by decide +kernel
theorem d_X12_worked_61 : decode M_X12_worked.2.1 61 = .ok (.iconst 1, 1) := by decide +kernel
theorem d_X12_worked_62 : decode M_X12_worked.2.1 62 = .ok (.goto 4, 3) := by decide +kernel
theorem d_X12_worked_65 : decode M_X12_worked.2.1 65 = .ok (.iconst 0, 1) := by decide +kernel
theorem d_X12_worked_66 : decode M_X12_worked.2.1 66 = .ok (.iastore, 1) := by decide +kernel
theorem d_X12_worked_67 : decode M_X12_worked.2.1 67 = .ok (.aload_n 0, 1) := by decide +kernel
theorem d_X12_worked_68 : decode M_X12_worked.2.1 68 = .ok (.iload_n 2, 1) := by decide +kernel
theorem d_X12_worked_69 : decode M_X12_worked.2.1 69 = .ok (.invokevirtual 260, 3) := by decide +kernel
theorem d_X12_worked_72 : decode M_X12_worked.2.1 72 = .ok (.goto 257, 3) := by decide +kernel
theorem d_X12_worked_75 : decode M_X12_worked.2.1 75 = .ok (.iload 4, 2) := by decide +kernel
theorem d_X12_worked_77 : decode M_X12_worked.2.1 77 = .ok (.bipush 20, 2) := by decide +kernel
theorem d_X12_worked_79 : decode M_X12_worked.2.1 79 = .ok (.if_icmp .eq 10, 3) := by decide +kernel
theorem d_X12_worked_82 : decode M_X12_worked.2.1 82 = .ok (.iload 4, 2) := by decide +kernel
theorem d_X12_worked_84 : decode M_X12_worked.2.1 84 = .ok (.bipush 21, 2) := by decide +kernel
theorem d_X12_worked_86 : decode M_X12_worked.2.1 86 = .ok (.if_icmp .ne 19, 3) := by decide +kernel
theorem d_X12_worked_89 : decode M_X12_worked.2.1 89 = .ok (.aload_n 0, 1) := by decide +kernel
theorem d_X12_worked_90 : decode M_X12_worked.2.1 90 = .ok (.iload_n 2, 1) := by decide +kernel
theorem d_X12_worked_91 : decode M_X12_worked.2.1 91 = .ok (.invokevirtual 257, 3) := by decide +kernel
theorem d_X12_worked_94 : decode M_X12_worked.2.1 94 = .ok (.aload_n 0, 1) := by decide +kernel
theorem d_X12_worked_95 : decode M_X12_worked.2.1 95 = .ok (.getfield 87, 3) := by decide +kernel
theorem d_X12_worked_98 : decode M_X12_worked.2.1 98 = .ok (.iload_n 2, 1) := by decide +kernel
theorem d_X12_worked_99 : decode M_X12_worked.2.1 99 = .ok (.iload 4, 2) := by decide +kernel
theorem d_X12_worked_101 : decode M_X12_worked.2.1 101 = .ok (.iastore, 1) := by decide +kernel
theorem d_X12_worked_102 : decode M_X12_worked.2.1 102 = .ok (.goto 227, 3) := by decide +kernel
theorem d_X12_worked_105 : decode M_X12_worked.2.1 105 = .ok (.iload 4, 2) := by decide +kernel
theorem d_X12_worked_107 : decode M_X12_worked.2.1 107 = .ok (.bipush 22, 2) := by decide +kernel
theorem d_X12_worked_109 : decode M_X12_worked.2.1 109 = .ok (.if_icmp .ne 14, 3) := by decide +kernel
theorem d_X12_worked_112 : decode M_X12_worked.2.1 112 = .ok (.aload_n 0, 1) := by decide +kernel
theorem d_X12_worked_113 : decode M_X12_worked.2.1 113 = .ok (.getfield 93, 3) := by decide +kernel
theorem d_X12_worked_116 : decode M_X12_worked.2.1 116 = .ok (.iload_n 2, 1) := by decide +kernel
theorem d_X12_worked_117 : decode M_X12_worked.2.1 117 = .ok (.iload 4, 2) := by decide +kernel
theorem d_X12_worked_119 : decode M_X12_worked.2.1 119 = .ok (.iastore, 1) := by decide +kernel
theorem d_X12_worked_120 : decode M_X12_worked.2.1 120 = .ok (.goto 209, 3) := by decide +kernel
theorem d_X12_worked_123 : decode M_X12_worked.2.1 123 = .ok (.iload 4, 2) := by decide +kernel
theorem d_X12_worked_125 : decode M_X12_worked.2.1 125 = .ok (.bipush 24, 2) := by decide +kernel
theorem d_X12_worked_127 : decode M_X12_worked.2.1 127 = .ok (.if_icmp .eq 10, 3) := by decide +kernel
theorem d_X12_worked_130 : decode M_X12_worked.2.1 130 = .ok (.iload 4, 2) := by decide +kernel
theorem d_X12_worked_132 : decode M_X12_worked.2.1 132 = .ok (.bipush 25, 2) := by decide +kernel
theorem d_X12_worked_134 : decode M_X12_worked.2.1 134 = .ok (.if_icmp .ne 46, 3) := by decide +kernel
theorem d_X12_worked_137 : decode M_X12_worked.2.1 137 = .ok (.aload_n 0, 1) := by decide +kernel
theorem d_X12_worked_138 : decode M_X12_worked.2.1 138 = .ok (.iload_n 2, 1) := by decide +kernel
theorem d_X12_worked_139 : decode M_X12_worked.2.1 139 = .ok (.invokevirtual 257, 3) := by decide +kernel
theorem d_X12_worked_142 : decode M_X12_worked.2.1 142 = .ok (.aload_n 0, 1) := by decide +kernel
theorem d_X12_worked_143 : decode M_X12_worked.2.1 143 = .ok (.getfield 78, 3) := by decide +kernel
theorem d_X12_worked_146 : decode M_X12_worked.2.1 146 = .ok (.iload_n 2, 1) := by decide +kernel
theorem d_X12_worked_147 : decode M_X12_worked.2.1 147 = .ok (.aload_n 0, 1) := by decide +kernel
theorem d_X12_worked_148 : decode M_X12_worked.2.1 148 = .ok (.getfield 84, 3) := by decide +kernel
theorem d_X12_worked_151 : decode M_X12_worked.2.1 151 = .ok (.iload_n 2, 1) := by decide +kernel
theorem d_X12_worked_152 : decode M_X12_worked.2.1 152 = .ok (.iaload, 1) := by decide +kernel
theorem d_X12_worked_153 : decode M_X12_worked.2.1 153 = .ok (.iastore, 1) := by decide +kernel
theorem d_X12_worked_154 : decode M_X12_worked.2.1 154 = .ok (.aload_n 0, 1) := by decide +kernel
theorem d_X12_worked_155 : decode M_X12_worked.2.1 155 = .ok (.getfield 81, 3) := by decide +kernel
theorem d_X12_worked_158 : decode M_X12_worked.2.1 158 = .ok (.iload_n 2, 1) := by decide +kernel
theorem d_X12_worked_159 : decode M_X12_worked.2.1 159 = .ok (.iload 4, 2) := by decide +kernel
theorem d_X12_worked_161 : decode M_X12_worked.2.1 161 = .ok (.iastore, 1) := by decide +kernel
theorem d_X12_worked_162 : decode M_X12_worked.2.1 162 = .ok (.aload_n 0, 1) := by decide +kernel
theorem d_X12_worked_163 : decode M_X12_worked.2.1 163 = .ok (.getfield 84, 3) := by decide +kernel
theorem d_X12_worked_166 : decode M_X12_worked.2.1 166 = .ok (.iload_n 2, 1) := by decide +kernel
theorem d_X12_worked_167 : decode M_X12_worked.2.1 167 = .ok (.iconst 0, 1) := by decide +kernel
theorem d_X12_worked_168 : decode M_X12_worked.2.1 168 = .ok (.iastore, 1) := by decide +kernel
theorem d_X12_worked_169 : decode M_X12_worked.2.1 169 = .ok (.aload_n 0, 1) := by decide +kernel
theorem d_X12_worked_170 : decode M_X12_worked.2.1 170 = .ok (.getfield 87, 3) := by decide +kernel
theorem d_X12_worked_173 : decode M_X12_worked.2.1 173 = .ok (.iload_n 2, 1) := by decide +kernel
theorem d_X12_worked_174 : decode M_X12_worked.2.1 174 = .ok (.bipush 20, 2) := by decide +kernel
theorem d_X12_worked_176 : decode M_X12_worked.2.1 176 = .ok (.iastore, 1) := by decide +kernel
theorem d_X12_worked_177 : decode M_X12_worked.2.1 177 = .ok (.goto 152, 3) := by decide +kernel
theorem d_X12_worked_180 : decode M_X12_worked.2.1 180 = .ok (.iload 4, 2) := by decide +kernel
theorem d_X12_worked_182 : decode M_X12_worked.2.1 182 = .ok (.bipush 26, 2) := by decide +kernel
theorem d_X12_worked_184 : decode M_X12_worked.2.1 184 = .ok (.if_icmp .eq 10, 3) := by decide +kernel
theorem d_X12_worked_187 : decode M_X12_worked.2.1 187 = .ok (.iload 4, 2) := by decide +kernel
theorem d_X12_worked_189 : decode M_X12_worked.2.1 189 = .ok (.bipush 27, 2) := by decide +kernel
theorem d_X12_worked_191 : decode M_X12_worked.2.1 191 = .ok (.if_icmp .ne 19, 3) := by decide +kernel
theorem d_X12_worked_194 : decode M_X12_worked.2.1 194 = .ok (.aload_n 0, 1) := by decide +kernel
theorem d_X12_worked_195 : decode M_X12_worked.2.1 195 = .ok (.iload_n 2, 1) := by decide +kernel
theorem d_X12_worked_196 : decode M_X12_worked.2.1 196 = .ok (.invokevirtual 263, 3) := by decide +kernel
theorem d_X12_worked_199 : decode M_X12_worked.2.1 199 = .ok (.aload_n 0, 1) := by decide +kernel
theorem d_X12_worked_200 : decode M_X12_worked.2.1 200 = .ok (.getfield 75, 3) := by decide +kernel
theorem d_X12_worked_203 : decode M_X12_worked.2.1 203 = .ok (.iload_n 2, 1) := by decide +kernel
theorem d_X12_worked_204 : decode M_X12_worked.2.1 204 = .ok (.iload 4, 2) := by decide +kernel
theorem d_X12_worked_206 : decode M_X12_worked.2.1 206 = .ok (.iastore, 1) := by decide +kernel
theorem d_X12_worked_207 : decode M_X12_worked.2.1 207 = .ok (.goto 122, 3) := by decide +kernel
theorem d_X12_worked_210 : decode M_X12_worked.2.1 210 = .ok (.iload 4, 2) := by decide +kernel
theorem d_X12_worked_212 : decode M_X12_worked.2.1 212 = .ok (.bipush 100, 2) := by decide +kernel
theorem d_X12_worked_214 : decode M_X12_worked.2.1 214 = .ok (.if_icmp .lt 11, 3) := by decide +kernel
theorem d_X12_worked_217 : decode M_X12_worked.2.1 217 = .ok (.iload 4, 2) := by decide +kernel
theorem d_X12_worked_219 : decode M_X12_worked.2.1 219 = .ok (.bipush 100, 2) := by decide +kernel
theorem d_X12_worked_221 : decode M_X12_worked.2.1 221 = .ok (.isub, 1) := by decide +kernel
theorem d_X12_worked_222 : decode M_X12_worked.2.1 222 = .ok (.goto 21, 3) := by decide +kernel
theorem d_X12_worked_225 : decode M_X12_worked.2.1 225 = .ok (.iload 4, 2) := by decide +kernel
theorem d_X12_worked_227 : decode M_X12_worked.2.1 227 = .ok (.bipush 20, 2) := by decide +kernel
theorem d_X12_worked_229 : decode M_X12_worked.2.1 229 = .ok (.if_icmp .ge 13, 3) := by decide +kernel
theorem d_X12_worked_232 : decode M_X12_worked.2.1 232 = .ok (.aload_n 0, 1) := by decide +kernel
theorem d_X12_worked_233 : decode M_X12_worked.2.1 233 = .ok (.getfield 99, 3) := by decide +kernel
theorem d_X12_worked_236 : decode M_X12_worked.2.1 236 = .ok (.iload 4, 2) := by decide +kernel
theorem d_X12_worked_238 : decode M_X12_worked.2.1 238 = .ok (.iaload, 1) := by decide +kernel
theorem d_X12_worked_239 : decode M_X12_worked.2.1 239 = .ok (.goto 4, 3) := by decide +kernel
theorem d_X12_worked_242 : decode M_X12_worked.2.1 242 = .ok (.iconst 0, 1) := by decide +kernel
theorem d_X12_worked_243 : decode M_X12_worked.2.1 243 = .ok (.istore 5, 2) := by decide +kernel
theorem d_X12_worked_245 : decode M_X12_worked.2.1 245 = .ok (.iload 4, 2) := by decide +kernel
theorem d_X12_worked_247 : decode M_X12_worked.2.1 247 = .ok (.bipush 29, 2) := by decide +kernel
theorem d_X12_worked_249 : decode M_X12_worked.2.1 249 = .ok (.if_icmp .ne 19, 3) := by decide +kernel
theorem d_X12_worked_252 : decode M_X12_worked.2.1 252 = .ok (.aload_n 0, 1) := by decide +kernel
theorem d_X12_worked_253 : decode M_X12_worked.2.1 253 = .ok (.iload_n 2, 1) := by decide +kernel
theorem d_X12_worked_254 : decode M_X12_worked.2.1 254 = .ok (.invokevirtual 263, 3) := by decide +kernel
theorem d_X12_worked_257 : decode M_X12_worked.2.1 257 = .ok (.aload_n 0, 1) := by decide +kernel
theorem d_X12_worked_258 : decode M_X12_worked.2.1 258 = .ok (.getfield 72, 3) := by decide +kernel
theorem d_X12_worked_261 : decode M_X12_worked.2.1 261 = .ok (.iload_n 2, 1) := by decide +kernel
theorem d_X12_worked_262 : decode M_X12_worked.2.1 262 = .ok (.iaload, 1) := by decide +kernel
theorem d_X12_worked_263 : decode M_X12_worked.2.1 263 = .ok (.istore 5, 2) := by decide +kernel
theorem d_X12_worked_265 : decode M_X12_worked.2.1 265 = .ok (.iinc 2 (-1), 3) := by decide +kernel
theorem d_X12_worked_268 : decode M_X12_worked.2.1 268 = .ok (.iload_n 2, 1) := by decide +kernel
theorem d_X12_worked_269 : decode M_X12_worked.2.1 269 = .ok (.ifCond .le 31, 3) := by decide +kernel
theorem d_X12_worked_272 : decode M_X12_worked.2.1 272 = .ok (.aload_n 0, 1) := by decide +kernel
theorem d_X12_worked_273 : decode M_X12_worked.2.1 273 = .ok (.getfield 96, 3) := by decide +kernel
theorem d_X12_worked_276 : decode M_X12_worked.2.1 276 = .ok (.iload_n 2, 1) := by decide +kernel
theorem d_X12_worked_277 : decode M_X12_worked.2.1 277 = .ok (.iaload, 1) := by decide +kernel
theorem d_X12_worked_278 : decode M_X12_worked.2.1 278 = .ok (.iconst 1, 1) := by decide +kernel
theorem d_X12_worked_279 : decode M_X12_worked.2.1 279 = .ok (.if_icmp .ne 21, 3) := by decide +kernel
theorem d_X12_worked_282 : decode M_X12_worked.2.1 282 = .ok (.iload 5, 2) := by decide +kernel
theorem d_X12_worked_284 : decode M_X12_worked.2.1 284 = .ok (.ifCond .ne 7, 3) := by decide +kernel
theorem d_X12_worked_287 : decode M_X12_worked.2.1 287 = .ok (.iconst 1, 1) := by decide +kernel
theorem d_X12_worked_288 : decode M_X12_worked.2.1 288 = .ok (.goto 4, 3) := by decide +kernel
theorem d_X12_worked_291 : decode M_X12_worked.2.1 291 = .ok (.iconst 0, 1) := by decide +kernel
theorem d_X12_worked_292 : decode M_X12_worked.2.1 292 = .ok (.istore 5, 2) := by decide +kernel
theorem d_X12_worked_294 : decode M_X12_worked.2.1 294 = .ok (.iinc 2 (-1), 3) := by decide +kernel
theorem d_X12_worked_297 : decode M_X12_worked.2.1 297 = .ok (.goto (-29), 3) := by decide +kernel
theorem d_X12_worked_300 : decode M_X12_worked.2.1 300 = .ok (.aload_n 0, 1) := by decide +kernel
theorem d_X12_worked_301 : decode M_X12_worked.2.1 301 = .ok (.getfield 90, 3) := by decide +kernel
theorem d_X12_worked_304 : decode M_X12_worked.2.1 304 = .ok (.iload_n 2, 1) := by decide +kernel
theorem d_X12_worked_305 : decode M_X12_worked.2.1 305 = .ok (.aload_n 0, 1) := by decide +kernel
theorem d_X12_worked_306 : decode M_X12_worked.2.1 306 = .ok (.getfield 93, 3) := by decide +kernel
theorem d_X12_worked_309 : decode M_X12_worked.2.1 309 = .ok (.iload_n 2, 1) := by decide +kernel
theorem d_X12_worked_310 : decode M_X12_worked.2.1 310 = .ok (.iaload, 1) := by decide +kernel
theorem d_X12_worked_311 : decode M_X12_worked.2.1 311 = .ok (.ifCond .ne 8, 3) := by decide +kernel
theorem d_X12_worked_314 : decode M_X12_worked.2.1 314 = .ok (.iload 5, 2) := by decide +kernel
theorem d_X12_worked_316 : decode M_X12_worked.2.1 316 = .ok (.goto 12, 3) := by decide +kernel
theorem d_X12_worked_319 : decode M_X12_worked.2.1 319 = .ok (.aload_n 0, 1) := by decide +kernel
theorem d_X12_worked_320 : decode M_X12_worked.2.1 320 = .ok (.getfield 90, 3) := by decide +kernel
theorem d_X12_worked_323 : decode M_X12_worked.2.1 323 = .ok (.iload_n 2, 1) := by decide +kernel
theorem d_X12_worked_324 : decode M_X12_worked.2.1 324 = .ok (.iaload, 1) := by decide +kernel
theorem d_X12_worked_325 : decode M_X12_worked.2.1 325 = .ok (.iload 5, 2) := by decide +kernel
theorem d_X12_worked_327 : decode M_X12_worked.2.1 327 = .ok (.imul, 1) := by decide +kernel
theorem d_X12_worked_328 : decode M_X12_worked.2.1 328 = .ok (.iastore, 1) := by decide +kernel
theorem d_X12_worked_329 : decode M_X12_worked.2.1 329 = .ok (.iinc 3 1, 3) := by decide +kernel
theorem d_X12_worked_332 : decode M_X12_worked.2.1 332 = .ok (.goto (-318), 3) := by decide +kernel
theorem d_X12_worked_335 : decode M_X12_worked.2.1 335 = .ok (.aload_n 0, 1) := by decide +kernel
theorem d_X12_worked_336 : decode M_X12_worked.2.1 336 = .ok (.iconst 0, 1) := by decide +kernel
theorem d_X12_worked_337 : decode M_X12_worked.2.1 337 = .ok (.invokevirtual 263, 3) := by decide +kernel
theorem d_X12_worked_340 : decode M_X12_worked.2.1 340 = .ok (.aload_n 0, 1) := by decide +kernel
theorem d_X12_worked_341 : decode M_X12_worked.2.1 341 = .ok (.getfield 72, 3) := by decide +kernel
theorem d_X12_worked_344 : decode M_X12_worked.2.1 344 = .ok (.iconst 0, 1) := by decide +kernel
theorem d_X12_worked_345 : decode M_X12_worked.2.1 345 = .ok (.iaload, 1) := by decide +kernel
theorem d_X12_worked_346 : decode M_X12_worked.2.1 346 = .ok (.ireturn, 1) := by decide +kernel
set_option maxRecDepth 20000 in
theorem s_X12_worked_0 {d : Nat} {p0 : Int} {G : Mem} {Q : Int → Mem → Prop}  (h : Ct d M_X12_opens NT 0 0 (some lay) [(2, 311), (0, 0)] G (fun r2 G1 => (0 ≤ p0 ∧ p0 < 18) ∧ (Rn (d + 1) M_X12_worked zN 14 [(0, (2, 311)), (1, (0, p0)), (2, (0, 0)), (3, (0, (G1 327 p0)))] [] G1 Q))) : Rn (d + 1) M_X12_worked zN 0 [(0, (2, 311)), (1, (0, p0))] [] G Q := by
  refine r_iconst d_X12_worked_0 ?_
  refine r_istore_n (ls1 := [(2, (0, 0)), (0, (2, 311)), (1, (0, p0))]) d_X12_worked_1 rfl (by decide) rfl ?_
  refine r_aload_n d_X12_worked_2 1 rfl rfl ?_
  refine r_iconst d_X12_worked_3 ?_
  refine r_callV0 (M' := M_X12_opens) (ci := 12) [(0, 0)] d_X12_worked_4 cl_X12_260 rfl (Nat.le_of_ble_eq_true rfl) (by decide) rfl (bs_ob bs_12) ?_
  refine Ct.mono h (fun r2 G1 h => ?_)
  show Rn _ M_X12_worked zN 7 [(2, (0, 0)), (0, (2, 311)), (1, (0, p0))] [] G1 Q
  refine r_aload_n d_X12_worked_7 1 rfl rfl ?_
  refine r_getL (v := 327) 12 24 24 rfl d_X12_worked_8 fl_X12_56 (by decide) (bs_ob bs_12) (ly_12_24 bs_12).1 (ly_12_24 bs_12).2.1 ?_
  refine r_iload_n d_X12_worked_11 2 rfl rfl ?_
  obtain ⟨h3, h⟩ := h
  refine r_iaload d_X12_worked_12 (ly_12_24 bs_12).2.2 h3 ?_
  refine r_istore_n (ls1 := [(3, (0, (G1 327 p0))), (2, (0, 0)), (0, (2, 311)), (1, (0, p0))]) d_X12_worked_13 rfl (by decide) rfl ?_
  exact Rn.sub [2, 3, 1, 0] rfl h
set_option maxRecDepth 20000 in
theorem s_X12_worked_14 {d : Nat} {x1 : Int} {x2 : Int} {x3 : Int} {G : Mem} {Q : Int → Mem → Prop}  (h : (0 ≤ x1 ∧ x1 < 18) ∧ ((InR x3) ∧ (InR (G 328 x1)) ∧ (((G 328 x1) ≤ x3) → Ct d M_X12_tests NT 0 0 (some lay) [(2, 311), (0, 0)] G (fun r6 G5 => Q (G5 332 0) G5)) ∧ (¬ ((G 328 x1) ≤ x3) → (0 ≤ x3 ∧ x3 < 6000) ∧ ((InR (G 329 x3)) ∧ (((G 329 x3) = 28) → Rn (d + 1) M_X12_worked zN 46 [(0, (2, 311)), (1, (0, x1)), (2, (0, x2)), (3, (0, x3)), (4, (0, (G 329 x3)))] [] G Q) ∧ (¬ ((G 329 x3) = 28) → (((G 329 x3) ≠ 30) → (((G 329 x3) = 20) → Rn (d + 1) M_X12_worked zN 89 [(0, (2, 311)), (1, (0, x1)), (2, (0, x2)), (3, (0, x3)), (4, (0, (G 329 x3)))] [] G Q) ∧ (¬ ((G 329 x3) = 20) → (((G 329 x3) ≠ 21) → (((G 329 x3) ≠ 22) → (((G 329 x3) = 24) → Rn (d + 1) M_X12_worked zN 137 [(0, (2, 311)), (1, (0, x1)), (2, (0, x2)), (3, (0, x3)), (4, (0, (G 329 x3)))] [] G Q) ∧ (¬ ((G 329 x3) = 24) → (((G 329 x3) ≠ 25) → (((G 329 x3) = 26) → Rn (d + 1) M_X12_worked zN 194 [(0, (2, 311)), (1, (0, x1)), (2, (0, x2)), (3, (0, x3)), (4, (0, (G 329 x3)))] [] G Q) ∧ (¬ ((G 329 x3) = 26) → (((G 329 x3) ≠ 27) → (((G 329 x3) < 100) → ((20 ≤ (G 329 x3)) → Rn (d + 1) M_X12_worked zN 243 [(0, (2, 311)), (1, (0, x1)), (2, (0, x2)), (3, (0, x3)), (4, (0, (G 329 x3)))] [(0, 0)] G Q) ∧ (¬ (20 ≤ (G 329 x3)) → (0 ≤ (G 329 x3) ∧ (G 329 x3) < 20) ∧ (Rn (d + 1) M_X12_worked zN 243 [(0, (2, 311)), (1, (0, x1)), (2, (0, x2)), (3, (0, x3)), (4, (0, (G 329 x3)))] [(0, (G 341 (G 329 x3)))] G Q))) ∧ (¬ ((G 329 x3) < 100) → Rn (d + 1) M_X12_worked zN 243 [(0, (2, 311)), (1, (0, x1)), (2, (0, x2)), (3, (0, x3)), (4, (0, (G 329 x3)))] [(0, ((G 329 x3) - 100))] G Q)) ∧ (¬ ((G 329 x3) ≠ 27) → Rn (d + 1) M_X12_worked zN 194 [(0, (2, 311)), (1, (0, x1)), (2, (0, x2)), (3, (0, x3)), (4, (0, (G 329 x3)))] [] G Q))) ∧ (¬ ((G 329 x3) ≠ 25) → Rn (d + 1) M_X12_worked zN 137 [(0, (2, 311)), (1, (0, x1)), (2, (0, x2)), (3, (0, x3)), (4, (0, (G 329 x3)))] [] G Q))) ∧ (¬ ((G 329 x3) ≠ 22) → (0 ≤ x2 ∧ x2 < 7) ∧ (∀ G22 : Mem, G22 = st G 339 x2 (wr (G 329 x3)) → Rn (d + 1) M_X12_worked zN 14 [(0, (2, 311)), (1, (0, x1)), (2, (0, x2)), (3, (0, (x3 + 1)))] [] G22 Q))) ∧ (¬ ((G 329 x3) ≠ 21) → Rn (d + 1) M_X12_worked zN 89 [(0, (2, 311)), (1, (0, x1)), (2, (0, x2)), (3, (0, x3)), (4, (0, (G 329 x3)))] [] G Q))) ∧ (¬ ((G 329 x3) ≠ 30) → Rn (d + 1) M_X12_worked zN 46 [(0, (2, 311)), (1, (0, x1)), (2, (0, x2)), (3, (0, x3)), (4, (0, (G 329 x3)))] [] G Q)))))) : Rn (d + 1) M_X12_worked zN 14 [(0, (2, 311)), (1, (0, x1)), (2, (0, x2)), (3, (0, x3))] [] G Q := by
  refine r_iload_n d_X12_worked_14 3 rfl rfl ?_
  refine r_aload_n d_X12_worked_15 0 rfl rfl ?_
  refine r_getL (v := 328) 12 25 25 rfl d_X12_worked_16 fl_X12_59 (by decide) (bs_ob bs_12) (ly_12_25 bs_12).1 (ly_12_25 bs_12).2.1 ?_
  refine r_iload_n d_X12_worked_19 1 rfl rfl ?_
  obtain ⟨h1, h⟩ := h
  refine r_iaload d_X12_worked_20 (ly_12_25 bs_12).2.2 h1 ?_
  obtain ⟨h2, h⟩ := h
  obtain ⟨h3, h⟩ := h
  refine r_icmp_ge (tgt := 335) d_X12_worked_21 (by decide) h2 h3 (fun c4 => ?_) (fun c4 => ?_)
  · replace h := h.1 c4
    refine r_aload_n d_X12_worked_335 0 rfl rfl ?_
    refine r_iconst d_X12_worked_336 ?_
    refine r_callV0 (M' := M_X12_tests) (ci := 12) [(0, 0)] d_X12_worked_337 cl_X12_263 rfl (Nat.le_of_ble_eq_true rfl) (by decide) rfl (bs_ob bs_12) ?_
    refine Ct.mono h (fun r6 G5 h => ?_)
    show Rn _ M_X12_worked zN 340 [(0, (2, 311)), (1, (0, x1)), (2, (0, x2)), (3, (0, x3))] [] G5 Q
    refine r_aload_n d_X12_worked_340 0 rfl rfl ?_
    refine r_getL (v := 332) 12 32 32 rfl d_X12_worked_341 fl_X12_72 (by decide) (bs_ob bs_12) (ly_12_32 bs_12).1 (ly_12_32 bs_12).2.1 ?_
    refine r_iconst d_X12_worked_344 ?_
    refine r_iaload d_X12_worked_345 (ly_12_32 bs_12).2.2 (by decide) ?_
    exact r_ireturn d_X12_worked_346 rfl ⟨rfl, Nat.le_refl _, Nat.le_refl _⟩ h
  · replace h := h.2 c4
    refine r_aload_n d_X12_worked_24 0 rfl rfl ?_
    refine r_getL (v := 329) 12 26 26 rfl d_X12_worked_25 fl_X12_62 (by decide) (bs_ob bs_12) (ly_12_26 bs_12).1 (ly_12_26 bs_12).2.1 ?_
    refine r_iload_n d_X12_worked_28 3 rfl rfl ?_
    obtain ⟨h7, h⟩ := h
    refine r_iaload d_X12_worked_29 (ly_12_26 bs_12).2.2 h7 ?_
    refine r_istore (ls1 := [(4, (0, (G 329 x3))), (0, (2, 311)), (1, (0, x1)), (2, (0, x2)), (3, (0, x3))]) d_X12_worked_30 (by decide) rfl ?_
    refine r_iload d_X12_worked_32 0 rfl ?_
    refine r_bipush d_X12_worked_34 (by decide +kernel) ?_
    obtain ⟨h8, h⟩ := h
    refine r_icmp_eq (tgt := 46) d_X12_worked_36 (by decide) h8 ⟨by decide, by decide⟩ (fun c9 => ?_) (fun c9 => ?_)
    · replace h := h.1 c9
      exact Rn.sub [1, 2, 3, 4, 0] rfl h
    · replace h := h.2 c9
      refine r_iload d_X12_worked_39 0 rfl ?_
      refine r_bipush d_X12_worked_41 (by decide +kernel) ?_
      refine r_icmp_ne (tgt := 75) d_X12_worked_43 (by decide) h8 ⟨by decide, by decide⟩ (fun c10 => ?_) (fun c10 => ?_)
      · replace h := h.1 c10
        refine r_iload d_X12_worked_75 0 rfl ?_
        refine r_bipush d_X12_worked_77 (by decide +kernel) ?_
        refine r_icmp_eq (tgt := 89) d_X12_worked_79 (by decide) h8 ⟨by decide, by decide⟩ (fun c11 => ?_) (fun c11 => ?_)
        · replace h := h.1 c11
          exact Rn.sub [1, 2, 3, 4, 0] rfl h
        · replace h := h.2 c11
          refine r_iload d_X12_worked_82 0 rfl ?_
          refine r_bipush d_X12_worked_84 (by decide +kernel) ?_
          refine r_icmp_ne (tgt := 105) d_X12_worked_86 (by decide) h8 ⟨by decide, by decide⟩ (fun c12 => ?_) (fun c12 => ?_)
          · replace h := h.1 c12
            refine r_iload d_X12_worked_105 0 rfl ?_
            refine r_bipush d_X12_worked_107 (by decide +kernel) ?_
            refine r_icmp_ne (tgt := 123) d_X12_worked_109 (by decide) h8 ⟨by decide, by decide⟩ (fun c13 => ?_) (fun c13 => ?_)
            · replace h := h.1 c13
              refine r_iload d_X12_worked_123 0 rfl ?_
              refine r_bipush d_X12_worked_125 (by decide +kernel) ?_
              refine r_icmp_eq (tgt := 137) d_X12_worked_127 (by decide) h8 ⟨by decide, by decide⟩ (fun c14 => ?_) (fun c14 => ?_)
              · replace h := h.1 c14
                exact Rn.sub [1, 2, 3, 4, 0] rfl h
              · replace h := h.2 c14
                refine r_iload d_X12_worked_130 0 rfl ?_
                refine r_bipush d_X12_worked_132 (by decide +kernel) ?_
                refine r_icmp_ne (tgt := 180) d_X12_worked_134 (by decide) h8 ⟨by decide, by decide⟩ (fun c15 => ?_) (fun c15 => ?_)
                · replace h := h.1 c15
                  refine r_iload d_X12_worked_180 0 rfl ?_
                  refine r_bipush d_X12_worked_182 (by decide +kernel) ?_
                  refine r_icmp_eq (tgt := 194) d_X12_worked_184 (by decide) h8 ⟨by decide, by decide⟩ (fun c16 => ?_) (fun c16 => ?_)
                  · replace h := h.1 c16
                    exact Rn.sub [1, 2, 3, 4, 0] rfl h
                  · replace h := h.2 c16
                    refine r_iload d_X12_worked_187 0 rfl ?_
                    refine r_bipush d_X12_worked_189 (by decide +kernel) ?_
                    refine r_icmp_ne (tgt := 210) d_X12_worked_191 (by decide) h8 ⟨by decide, by decide⟩ (fun c17 => ?_) (fun c17 => ?_)
                    · replace h := h.1 c17
                      refine r_iload d_X12_worked_210 0 rfl ?_
                      refine r_bipush d_X12_worked_212 (by decide +kernel) ?_
                      refine r_icmp_lt (tgt := 225) d_X12_worked_214 (by decide) h8 ⟨by decide, by decide⟩ (fun c18 => ?_) (fun c18 => ?_)
                      · replace h := h.1 c18
                        refine r_iload d_X12_worked_225 0 rfl ?_
                        refine r_bipush d_X12_worked_227 (by decide +kernel) ?_
                        refine r_icmp_ge (tgt := 242) d_X12_worked_229 (by decide) h8 ⟨by decide, by decide⟩ (fun c19 => ?_) (fun c19 => ?_)
                        · replace h := h.1 c19
                          refine r_iconst d_X12_worked_242 ?_
                          exact Rn.sub [1, 2, 3, 4, 0] rfl h
                        · replace h := h.2 c19
                          refine r_aload_n d_X12_worked_232 1 rfl rfl ?_
                          refine r_getL (v := 341) 12 41 41 rfl d_X12_worked_233 fl_X12_99 (by decide) (bs_ob bs_12) (ly_12_41 bs_12).1 (ly_12_41 bs_12).2.1 ?_
                          refine r_iload d_X12_worked_236 0 rfl ?_
                          obtain ⟨h20, h⟩ := h
                          refine r_iaload d_X12_worked_238 (ly_12_41 bs_12).2.2 h20 ?_
                          refine r_goto (tgt := 243) d_X12_worked_239 (by decide) ?_
                          exact Rn.sub [1, 2, 3, 4, 0] rfl h
                      · replace h := h.2 c18
                        refine r_iload d_X12_worked_217 0 rfl ?_
                        refine r_bipush d_X12_worked_219 (by decide +kernel) ?_
                        refine r_isub d_X12_worked_221 ?_
                        refine r_goto (tgt := 243) d_X12_worked_222 (by decide) ?_
                        exact Rn.sub [1, 2, 3, 4, 0] rfl h
                    · replace h := h.2 c17
                      exact Rn.sub [1, 2, 3, 4, 0] rfl h
                · replace h := h.2 c15
                  exact Rn.sub [1, 2, 3, 4, 0] rfl h
            · replace h := h.2 c13
              refine r_aload_n d_X12_worked_112 1 rfl rfl ?_
              refine r_getL (v := 339) 12 39 39 rfl d_X12_worked_113 fl_X12_93 (by decide) (bs_ob bs_12) (ly_12_39 bs_12).1 (ly_12_39 bs_12).2.1 ?_
              refine r_iload_n d_X12_worked_116 3 rfl rfl ?_
              refine r_iload d_X12_worked_117 0 rfl ?_
              obtain ⟨h21, h⟩ := h
              obtain ⟨G22, eG22⟩ : ∃ y : Mem, y = st G 339 x2 (wr (G 329 x3)) := ⟨_, rfl⟩
              replace h := h G22 eG22
              refine r_iastoreW d_X12_worked_119 (ly_12_39 bs_12).2.2 h21 ?_
              rw [← eG22]
              refine r_goto (tgt := 329) d_X12_worked_120 (by decide) ?_
              refine r_iinc (ls1 := [(3, (0, (x3 + 1))), (4, (0, (G 329 x3))), (0, (2, 311)), (1, (0, x1)), (2, (0, x2))]) d_X12_worked_329 4 rfl (by decide) rfl ?_
              refine r_goto (tgt := 14) d_X12_worked_332 (by decide) ?_
              exact Rn.sub [2, 3, 4, 0] rfl h
          · replace h := h.2 c12
            exact Rn.sub [1, 2, 3, 4, 0] rfl h
      · replace h := h.2 c10
        exact Rn.sub [1, 2, 3, 4, 0] rfl h
set_option maxRecDepth 20000 in
theorem s_X12_worked_46 {d : Nat} {x1 : Int} {x2 : Int} {x3 : Int} {x4 : Int} {G : Mem} {Q : Int → Mem → Prop}  (h : (InR x4) ∧ ((x4 ≠ 30) → Rn d M_X12_worked zN 66 [(0, (2, 311)), (1, (0, x1)), (2, (0, (x2 + 1))), (3, (0, x3))] [(0, 0), (0, (x2 + 1)), (2, 340)] G Q) ∧ (¬ (x4 ≠ 30) → Rn d M_X12_worked zN 66 [(0, (2, 311)), (1, (0, x1)), (2, (0, (x2 + 1))), (3, (0, x3))] [(0, 1), (0, (x2 + 1)), (2, 340)] G Q)) : Rn d M_X12_worked zN 46 [(0, (2, 311)), (1, (0, x1)), (2, (0, x2)), (3, (0, x3)), (4, (0, x4))] [] G Q := by
  refine r_iinc (ls1 := [(2, (0, (x2 + 1))), (0, (2, 311)), (1, (0, x1)), (3, (0, x3)), (4, (0, x4))]) d_X12_worked_46 2 rfl (by decide) rfl ?_
  refine r_aload_n d_X12_worked_49 1 rfl rfl ?_
  refine r_getL (v := 340) 12 40 40 rfl d_X12_worked_50 fl_X12_96 (by decide) (bs_ob bs_12) (ly_12_40 bs_12).1 (ly_12_40 bs_12).2.1 ?_
  refine r_iload_n d_X12_worked_53 0 rfl rfl ?_
  refine r_iload d_X12_worked_54 4 rfl ?_
  refine r_bipush d_X12_worked_56 (by decide +kernel) ?_
  obtain ⟨h1, h⟩ := h
  refine r_icmp_ne (tgt := 65) d_X12_worked_58 (by decide) h1 ⟨by decide, by decide⟩ (fun c2 => ?_) (fun c2 => ?_)
  · replace h := h.1 c2
    refine r_iconst d_X12_worked_65 ?_
    exact Rn.sub [1, 2, 0, 3] rfl h
  · replace h := h.2 c2
    refine r_iconst d_X12_worked_61 ?_
    refine r_goto (tgt := 66) d_X12_worked_62 (by decide) ?_
    exact Rn.sub [1, 2, 0, 3] rfl h
set_option maxRecDepth 20000 in
theorem s_X12_worked_89 {d : Nat} {x1 : Int} {x2 : Int} {x3 : Int} {x4 : Int} {G : Mem} {Q : Int → Mem → Prop}  (h : Ct d M_X12_sums NT 0 0 (some lay) [(2, 311), (0, x2)] G (fun r2 G1 => (0 ≤ x2 ∧ x2 < 7) ∧ (∀ G4 : Mem, G4 = st G1 337 x2 (wr x4) → Rn (d + 1) M_X12_worked zN 14 [(0, (2, 311)), (1, (0, x1)), (2, (0, x2)), (3, (0, (x3 + 1)))] [] G4 Q))) : Rn (d + 1) M_X12_worked zN 89 [(0, (2, 311)), (1, (0, x1)), (2, (0, x2)), (3, (0, x3)), (4, (0, x4))] [] G Q := by
  refine r_aload_n d_X12_worked_89 0 rfl rfl ?_
  refine r_iload_n d_X12_worked_90 2 rfl rfl ?_
  refine r_callV0 (M' := M_X12_sums) (ci := 12) [(0, x2)] d_X12_worked_91 cl_X12_257 rfl (Nat.le_of_ble_eq_true rfl) (by decide) rfl (bs_ob bs_12) ?_
  refine Ct.mono h (fun r2 G1 h => ?_)
  show Rn _ M_X12_worked zN 94 [(0, (2, 311)), (1, (0, x1)), (2, (0, x2)), (3, (0, x3)), (4, (0, x4))] [] G1 Q
  refine r_aload_n d_X12_worked_94 0 rfl rfl ?_
  refine r_getL (v := 337) 12 37 37 rfl d_X12_worked_95 fl_X12_87 (by decide) (bs_ob bs_12) (ly_12_37 bs_12).1 (ly_12_37 bs_12).2.1 ?_
  refine r_iload_n d_X12_worked_98 2 rfl rfl ?_
  refine r_iload d_X12_worked_99 4 rfl ?_
  obtain ⟨h3, h⟩ := h
  obtain ⟨G4, eG4⟩ : ∃ y : Mem, y = st G1 337 x2 (wr x4) := ⟨_, rfl⟩
  replace h := h G4 eG4
  refine r_iastoreW d_X12_worked_101 (ly_12_37 bs_12).2.2 h3 ?_
  rw [← eG4]
  refine r_goto (tgt := 329) d_X12_worked_102 (by decide) ?_
  refine r_iinc (ls1 := [(3, (0, (x3 + 1))), (0, (2, 311)), (1, (0, x1)), (2, (0, x2)), (4, (0, x4))]) d_X12_worked_329 3 rfl (by decide) rfl ?_
  refine r_goto (tgt := 14) d_X12_worked_332 (by decide) ?_
  exact Rn.sub [1, 2, 3, 0] rfl h
set_option maxRecDepth 20000 in
theorem s_X12_worked_137 {d : Nat} {x1 : Int} {x2 : Int} {x3 : Int} {x4 : Int} {G : Mem} {Q : Int → Mem → Prop}  (h : Ct d M_X12_sums NT 0 0 (some lay) [(2, 311), (0, x2)] G (fun r2 G1 => (0 ≤ x2 ∧ x2 < 7) ∧ ((∀ G4 : Mem, G4 = st G1 334 x2 (wr (G1 336 x2)) → (∀ G5 : Mem, G5 = st G4 335 x2 (wr x4) → (∀ G6 : Mem, G6 = st G5 336 x2 0 → (∀ G7 : Mem, G7 = st G6 337 x2 20 → Rn (d + 1) M_X12_worked zN 14 [(0, (2, 311)), (1, (0, x1)), (2, (0, x2)), (3, (0, (x3 + 1)))] [] G7 Q))))))) : Rn (d + 1) M_X12_worked zN 137 [(0, (2, 311)), (1, (0, x1)), (2, (0, x2)), (3, (0, x3)), (4, (0, x4))] [] G Q := by
  refine r_aload_n d_X12_worked_137 0 rfl rfl ?_
  refine r_iload_n d_X12_worked_138 2 rfl rfl ?_
  refine r_callV0 (M' := M_X12_sums) (ci := 12) [(0, x2)] d_X12_worked_139 cl_X12_257 rfl (Nat.le_of_ble_eq_true rfl) (by decide) rfl (bs_ob bs_12) ?_
  refine Ct.mono h (fun r2 G1 h => ?_)
  show Rn _ M_X12_worked zN 142 [(0, (2, 311)), (1, (0, x1)), (2, (0, x2)), (3, (0, x3)), (4, (0, x4))] [] G1 Q
  refine r_aload_n d_X12_worked_142 0 rfl rfl ?_
  refine r_getL (v := 334) 12 34 34 rfl d_X12_worked_143 fl_X12_78 (by decide) (bs_ob bs_12) (ly_12_34 bs_12).1 (ly_12_34 bs_12).2.1 ?_
  refine r_iload_n d_X12_worked_146 2 rfl rfl ?_
  refine r_aload_n d_X12_worked_147 0 rfl rfl ?_
  refine r_getL (v := 336) 12 36 36 rfl d_X12_worked_148 fl_X12_84 (by decide) (bs_ob bs_12) (ly_12_36 bs_12).1 (ly_12_36 bs_12).2.1 ?_
  refine r_iload_n d_X12_worked_151 2 rfl rfl ?_
  obtain ⟨h3, h⟩ := h
  refine r_iaload d_X12_worked_152 (ly_12_36 bs_12).2.2 h3 ?_
  obtain ⟨G4, eG4⟩ : ∃ y : Mem, y = st G1 334 x2 (wr (G1 336 x2)) := ⟨_, rfl⟩
  replace h := h G4 eG4
  refine r_iastoreW d_X12_worked_153 (ly_12_34 bs_12).2.2 h3 ?_
  rw [← eG4]
  refine r_aload_n d_X12_worked_154 0 rfl rfl ?_
  refine r_getL (v := 335) 12 35 35 rfl d_X12_worked_155 fl_X12_81 (by decide) (bs_ob bs_12) (ly_12_35 bs_12).1 (ly_12_35 bs_12).2.1 ?_
  refine r_iload_n d_X12_worked_158 2 rfl rfl ?_
  refine r_iload d_X12_worked_159 4 rfl ?_
  obtain ⟨G5, eG5⟩ : ∃ y : Mem, y = st G4 335 x2 (wr x4) := ⟨_, rfl⟩
  replace h := h G5 eG5
  refine r_iastoreW d_X12_worked_161 (ly_12_35 bs_12).2.2 h3 ?_
  rw [← eG5]
  refine r_aload_n d_X12_worked_162 0 rfl rfl ?_
  refine r_getL (v := 336) 12 36 36 rfl d_X12_worked_163 fl_X12_84 (by decide) (bs_ob bs_12) (ly_12_36 bs_12).1 (ly_12_36 bs_12).2.1 ?_
  refine r_iload_n d_X12_worked_166 2 rfl rfl ?_
  refine r_iconst d_X12_worked_167 ?_
  obtain ⟨G6, eG6⟩ : ∃ y : Mem, y = st G5 336 x2 0 := ⟨_, rfl⟩
  replace h := h G6 eG6
  refine r_iastore d_X12_worked_168 (ly_12_36 bs_12).2.2 h3 ?_
  rw [← eG6]
  refine r_aload_n d_X12_worked_169 0 rfl rfl ?_
  refine r_getL (v := 337) 12 37 37 rfl d_X12_worked_170 fl_X12_87 (by decide) (bs_ob bs_12) (ly_12_37 bs_12).1 (ly_12_37 bs_12).2.1 ?_
  refine r_iload_n d_X12_worked_173 2 rfl rfl ?_
  refine r_bipush d_X12_worked_174 (by decide +kernel) ?_
  obtain ⟨G7, eG7⟩ : ∃ y : Mem, y = st G6 337 x2 20 := ⟨_, rfl⟩
  replace h := h G7 eG7
  refine r_iastore d_X12_worked_176 (ly_12_37 bs_12).2.2 h3 ?_
  rw [← eG7]
  refine r_goto (tgt := 329) d_X12_worked_177 (by decide) ?_
  refine r_iinc (ls1 := [(3, (0, (x3 + 1))), (0, (2, 311)), (1, (0, x1)), (2, (0, x2)), (4, (0, x4))]) d_X12_worked_329 3 rfl (by decide) rfl ?_
  refine r_goto (tgt := 14) d_X12_worked_332 (by decide) ?_
  exact Rn.sub [1, 2, 3, 0] rfl h
set_option maxRecDepth 20000 in
theorem s_X12_worked_194 {d : Nat} {x1 : Int} {x2 : Int} {x3 : Int} {x4 : Int} {G : Mem} {Q : Int → Mem → Prop}  (h : Ct d M_X12_tests NT 0 0 (some lay) [(2, 311), (0, x2)] G (fun r2 G1 => (0 ≤ x2 ∧ x2 < 7) ∧ (∀ G4 : Mem, G4 = st G1 333 x2 (wr x4) → Rn (d + 1) M_X12_worked zN 14 [(0, (2, 311)), (1, (0, x1)), (2, (0, x2)), (3, (0, (x3 + 1)))] [] G4 Q))) : Rn (d + 1) M_X12_worked zN 194 [(0, (2, 311)), (1, (0, x1)), (2, (0, x2)), (3, (0, x3)), (4, (0, x4))] [] G Q := by
  refine r_aload_n d_X12_worked_194 0 rfl rfl ?_
  refine r_iload_n d_X12_worked_195 2 rfl rfl ?_
  refine r_callV0 (M' := M_X12_tests) (ci := 12) [(0, x2)] d_X12_worked_196 cl_X12_263 rfl (Nat.le_of_ble_eq_true rfl) (by decide) rfl (bs_ob bs_12) ?_
  refine Ct.mono h (fun r2 G1 h => ?_)
  show Rn _ M_X12_worked zN 199 [(0, (2, 311)), (1, (0, x1)), (2, (0, x2)), (3, (0, x3)), (4, (0, x4))] [] G1 Q
  refine r_aload_n d_X12_worked_199 0 rfl rfl ?_
  refine r_getL (v := 333) 12 33 33 rfl d_X12_worked_200 fl_X12_75 (by decide) (bs_ob bs_12) (ly_12_33 bs_12).1 (ly_12_33 bs_12).2.1 ?_
  refine r_iload_n d_X12_worked_203 2 rfl rfl ?_
  refine r_iload d_X12_worked_204 4 rfl ?_
  obtain ⟨h3, h⟩ := h
  obtain ⟨G4, eG4⟩ : ∃ y : Mem, y = st G1 333 x2 (wr x4) := ⟨_, rfl⟩
  replace h := h G4 eG4
  refine r_iastoreW d_X12_worked_206 (ly_12_33 bs_12).2.2 h3 ?_
  rw [← eG4]
  refine r_goto (tgt := 329) d_X12_worked_207 (by decide) ?_
  refine r_iinc (ls1 := [(3, (0, (x3 + 1))), (0, (2, 311)), (1, (0, x1)), (2, (0, x2)), (4, (0, x4))]) d_X12_worked_329 3 rfl (by decide) rfl ?_
  refine r_goto (tgt := 14) d_X12_worked_332 (by decide) ?_
  exact Rn.sub [1, 2, 3, 0] rfl h
set_option maxRecDepth 20000 in
theorem s_X12_worked_243 {d : Nat} {x1 : Int} {x2 : Int} {x3 : Int} {x4 : Int} {s0 : Int} {G : Mem} {Q : Int → Mem → Prop}  (h : (InR x4) ∧ ((x4 ≠ 29) → Rn (d + 1) M_X12_worked zN 268 [(0, (2, 311)), (1, (0, x1)), (2, (0, x2)), (3, (0, x3)), (5, (0, s0))] [] G Q) ∧ (¬ (x4 ≠ 29) → Ct d M_X12_tests NT 0 0 (some lay) [(2, 311), (0, x2)] G (fun r4 G3 => (0 ≤ x2 ∧ x2 < 7) ∧ (Rn (d + 1) M_X12_worked zN 268 [(0, (2, 311)), (1, (0, x1)), (2, (0, (x2 + (-1)))), (3, (0, x3)), (5, (0, (G3 332 x2)))] [] G3 Q)))) : Rn (d + 1) M_X12_worked zN 243 [(0, (2, 311)), (1, (0, x1)), (2, (0, x2)), (3, (0, x3)), (4, (0, x4))] [(0, s0)] G Q := by
  refine r_istore (ls1 := [(5, (0, s0)), (0, (2, 311)), (1, (0, x1)), (2, (0, x2)), (3, (0, x3)), (4, (0, x4))]) d_X12_worked_243 (by decide) rfl ?_
  refine r_iload d_X12_worked_245 5 rfl ?_
  refine r_bipush d_X12_worked_247 (by decide +kernel) ?_
  obtain ⟨h1, h⟩ := h
  refine r_icmp_ne (tgt := 268) d_X12_worked_249 (by decide) h1 ⟨by decide, by decide⟩ (fun c2 => ?_) (fun c2 => ?_)
  · replace h := h.1 c2
    exact Rn.sub [1, 2, 3, 4, 0] rfl h
  · replace h := h.2 c2
    refine r_aload_n d_X12_worked_252 1 rfl rfl ?_
    refine r_iload_n d_X12_worked_253 3 rfl rfl ?_
    refine r_callV0 (M' := M_X12_tests) (ci := 12) [(0, x2)] d_X12_worked_254 cl_X12_263 rfl (Nat.le_of_ble_eq_true rfl) (by decide) rfl (bs_ob bs_12) ?_
    refine Ct.mono h (fun r4 G3 h => ?_)
    show Rn _ M_X12_worked zN 257 [(5, (0, s0)), (0, (2, 311)), (1, (0, x1)), (2, (0, x2)), (3, (0, x3)), (4, (0, x4))] [] G3 Q
    refine r_aload_n d_X12_worked_257 1 rfl rfl ?_
    refine r_getL (v := 332) 12 32 32 rfl d_X12_worked_258 fl_X12_72 (by decide) (bs_ob bs_12) (ly_12_32 bs_12).1 (ly_12_32 bs_12).2.1 ?_
    refine r_iload_n d_X12_worked_261 3 rfl rfl ?_
    obtain ⟨h5, h⟩ := h
    refine r_iaload d_X12_worked_262 (ly_12_32 bs_12).2.2 h5 ?_
    refine r_istore (ls1 := [(5, (0, (G3 332 x2))), (0, (2, 311)), (1, (0, x1)), (2, (0, x2)), (3, (0, x3)), (4, (0, x4))]) d_X12_worked_263 (by decide) rfl ?_
    refine r_iinc (ls1 := [(2, (0, (x2 + (-1)))), (5, (0, (G3 332 x2))), (0, (2, 311)), (1, (0, x1)), (3, (0, x3)), (4, (0, x4))]) d_X12_worked_265 3 rfl (by decide) rfl ?_
    exact Rn.sub [2, 3, 0, 4, 1] rfl h
set_option maxRecDepth 20000 in
theorem s_X12_worked_66 {d : Nat} {x1 : Int} {x2 : Int} {x3 : Int} {s0 : Int} {s1 : Int} {G : Mem} {Q : Int → Mem → Prop}  (h : (0 ≤ s1 ∧ s1 < 7) ∧ (∀ G2 : Mem, G2 = st G 340 s1 (wr s0) → Ct d M_X12_opens NT 0 0 (some lay) [(2, 311), (0, x2)] G2 (fun r4 G3 => Rn (d + 1) M_X12_worked zN 14 [(0, (2, 311)), (1, (0, x1)), (2, (0, x2)), (3, (0, (x3 + 1)))] [] G3 Q))) : Rn (d + 1) M_X12_worked zN 66 [(0, (2, 311)), (1, (0, x1)), (2, (0, x2)), (3, (0, x3))] [(0, s0), (0, s1), (2, 340)] G Q := by
  obtain ⟨h1, h⟩ := h
  obtain ⟨G2, eG2⟩ : ∃ y : Mem, y = st G 340 s1 (wr s0) := ⟨_, rfl⟩
  replace h := h G2 eG2
  refine r_iastoreW d_X12_worked_66 (ly_12_40 bs_12).2.2 h1 ?_
  rw [← eG2]
  refine r_aload_n d_X12_worked_67 0 rfl rfl ?_
  refine r_iload_n d_X12_worked_68 2 rfl rfl ?_
  refine r_callV0 (M' := M_X12_opens) (ci := 12) [(0, x2)] d_X12_worked_69 cl_X12_260 rfl (Nat.le_of_ble_eq_true rfl) (by decide) rfl (bs_ob bs_12) ?_
  refine Ct.mono h (fun r4 G3 h => ?_)
  show Rn _ M_X12_worked zN 72 [(0, (2, 311)), (1, (0, x1)), (2, (0, x2)), (3, (0, x3))] [] G3 Q
  refine r_goto (tgt := 329) d_X12_worked_72 (by decide) ?_
  refine r_iinc (ls1 := [(3, (0, (x3 + 1))), (0, (2, 311)), (1, (0, x1)), (2, (0, x2))]) d_X12_worked_329 3 rfl (by decide) rfl ?_
  refine r_goto (tgt := 14) d_X12_worked_332 (by decide) ?_
  exact Rn.sub [1, 2, 3, 0] rfl h
set_option maxRecDepth 20000 in
theorem s_X12_worked_268 {d : Nat} {x1 : Int} {x2 : Int} {x3 : Int} {x5 : Int} {G : Mem} {Q : Int → Mem → Prop}  (h : (InR x2) ∧ ((x2 ≤ 0) → Rn d M_X12_worked zN 300 [(0, (2, 311)), (1, (0, x1)), (2, (0, x2)), (3, (0, x3)), (5, (0, x5))] [] G Q) ∧ (¬ (x2 ≤ 0) → (0 ≤ x2 ∧ x2 < 7) ∧ ((InR (G 340 x2)) ∧ (((G 340 x2) ≠ 1) → Rn d M_X12_worked zN 300 [(0, (2, 311)), (1, (0, x1)), (2, (0, x2)), (3, (0, x3)), (5, (0, x5))] [] G Q) ∧ (¬ ((G 340 x2) ≠ 1) → (InR x5) ∧ ((x5 ≠ 0) → Rn d M_X12_worked zN 268 [(0, (2, 311)), (1, (0, x1)), (2, (0, (x2 + (-1)))), (3, (0, x3)), (5, (0, 0))] [] G Q) ∧ (¬ (x5 ≠ 0) → Rn d M_X12_worked zN 268 [(0, (2, 311)), (1, (0, x1)), (2, (0, (x2 + (-1)))), (3, (0, x3)), (5, (0, 1))] [] G Q))))) : Rn d M_X12_worked zN 268 [(0, (2, 311)), (1, (0, x1)), (2, (0, x2)), (3, (0, x3)), (5, (0, x5))] [] G Q := by
  refine r_iload_n d_X12_worked_268 2 rfl rfl ?_
  obtain ⟨h1, h⟩ := h
  refine r_if_le (tgt := 300) d_X12_worked_269 (by decide) h1 (fun c2 => ?_) (fun c2 => ?_)
  · replace h := h.1 c2
    exact h
  · replace h := h.2 c2
    refine r_aload_n d_X12_worked_272 0 rfl rfl ?_
    refine r_getL (v := 340) 12 40 40 rfl d_X12_worked_273 fl_X12_96 (by decide) (bs_ob bs_12) (ly_12_40 bs_12).1 (ly_12_40 bs_12).2.1 ?_
    refine r_iload_n d_X12_worked_276 2 rfl rfl ?_
    obtain ⟨h3, h⟩ := h
    refine r_iaload d_X12_worked_277 (ly_12_40 bs_12).2.2 h3 ?_
    refine r_iconst d_X12_worked_278 ?_
    obtain ⟨h4, h⟩ := h
    refine r_icmp_ne (tgt := 300) d_X12_worked_279 (by decide) h4 ⟨by decide, by decide⟩ (fun c5 => ?_) (fun c5 => ?_)
    · replace h := h.1 c5
      exact h
    · replace h := h.2 c5
      refine r_iload d_X12_worked_282 4 rfl ?_
      obtain ⟨h6, h⟩ := h
      refine r_if_ne (tgt := 291) d_X12_worked_284 (by decide) h6 (fun c7 => ?_) (fun c7 => ?_)
      · replace h := h.1 c7
        refine r_iconst d_X12_worked_291 ?_
        refine r_istore (ls1 := [(5, (0, 0)), (0, (2, 311)), (1, (0, x1)), (2, (0, x2)), (3, (0, x3))]) d_X12_worked_292 (by decide) rfl ?_
        refine r_iinc (ls1 := [(2, (0, (x2 + (-1)))), (5, (0, 0)), (0, (2, 311)), (1, (0, x1)), (3, (0, x3))]) d_X12_worked_294 3 rfl (by decide) rfl ?_
        refine r_goto (tgt := 268) d_X12_worked_297 (by decide) ?_
        exact Rn.sub [2, 3, 0, 4, 1] rfl h
      · replace h := h.2 c7
        refine r_iconst d_X12_worked_287 ?_
        refine r_goto (tgt := 292) d_X12_worked_288 (by decide) ?_
        refine r_istore (ls1 := [(5, (0, 1)), (0, (2, 311)), (1, (0, x1)), (2, (0, x2)), (3, (0, x3))]) d_X12_worked_292 (by decide) rfl ?_
        refine r_iinc (ls1 := [(2, (0, (x2 + (-1)))), (5, (0, 1)), (0, (2, 311)), (1, (0, x1)), (3, (0, x3))]) d_X12_worked_294 3 rfl (by decide) rfl ?_
        refine r_goto (tgt := 268) d_X12_worked_297 (by decide) ?_
        exact Rn.sub [2, 3, 0, 4, 1] rfl h
set_option maxRecDepth 20000 in
theorem s_X12_worked_300 {d : Nat} {x1 : Int} {x2 : Int} {x3 : Int} {x5 : Int} {G : Mem} {Q : Int → Mem → Prop}  (h : (0 ≤ x2 ∧ x2 < 7) ∧ ((InR (G 339 x2)) ∧ (((G 339 x2) ≠ 0) → (∀ G4 : Mem, G4 = st G 338 x2 (wr ((G 338 x2) * x5)) → Rn d M_X12_worked zN 14 [(0, (2, 311)), (1, (0, x1)), (2, (0, x2)), (3, (0, (x3 + 1)))] [] G4 Q)) ∧ (¬ ((G 339 x2) ≠ 0) → (∀ G5 : Mem, G5 = st G 338 x2 (wr x5) → Rn d M_X12_worked zN 14 [(0, (2, 311)), (1, (0, x1)), (2, (0, x2)), (3, (0, (x3 + 1)))] [] G5 Q)))) : Rn d M_X12_worked zN 300 [(0, (2, 311)), (1, (0, x1)), (2, (0, x2)), (3, (0, x3)), (5, (0, x5))] [] G Q := by
  refine r_aload_n d_X12_worked_300 0 rfl rfl ?_
  refine r_getL (v := 338) 12 38 38 rfl d_X12_worked_301 fl_X12_90 (by decide) (bs_ob bs_12) (ly_12_38 bs_12).1 (ly_12_38 bs_12).2.1 ?_
  refine r_iload_n d_X12_worked_304 2 rfl rfl ?_
  refine r_aload_n d_X12_worked_305 0 rfl rfl ?_
  refine r_getL (v := 339) 12 39 39 rfl d_X12_worked_306 fl_X12_93 (by decide) (bs_ob bs_12) (ly_12_39 bs_12).1 (ly_12_39 bs_12).2.1 ?_
  refine r_iload_n d_X12_worked_309 2 rfl rfl ?_
  obtain ⟨h1, h⟩ := h
  refine r_iaload d_X12_worked_310 (ly_12_39 bs_12).2.2 h1 ?_
  obtain ⟨h2, h⟩ := h
  refine r_if_ne (tgt := 319) d_X12_worked_311 (by decide) h2 (fun c3 => ?_) (fun c3 => ?_)
  · replace h := h.1 c3
    refine r_aload_n d_X12_worked_319 0 rfl rfl ?_
    refine r_getL (v := 338) 12 38 38 rfl d_X12_worked_320 fl_X12_90 (by decide) (bs_ob bs_12) (ly_12_38 bs_12).1 (ly_12_38 bs_12).2.1 ?_
    refine r_iload_n d_X12_worked_323 2 rfl rfl ?_
    refine r_iaload d_X12_worked_324 (ly_12_38 bs_12).2.2 h1 ?_
    refine r_iload d_X12_worked_325 4 rfl ?_
    refine r_imul d_X12_worked_327 ?_
    obtain ⟨G4, eG4⟩ : ∃ y : Mem, y = st G 338 x2 (wr ((G 338 x2) * x5)) := ⟨_, rfl⟩
    replace h := h G4 eG4
    refine r_iastoreW d_X12_worked_328 (ly_12_38 bs_12).2.2 h1 ?_
    rw [← eG4]
    refine r_iinc (ls1 := [(3, (0, (x3 + 1))), (0, (2, 311)), (1, (0, x1)), (2, (0, x2)), (5, (0, x5))]) d_X12_worked_329 3 rfl (by decide) rfl ?_
    refine r_goto (tgt := 14) d_X12_worked_332 (by decide) ?_
    exact Rn.sub [1, 2, 3, 0] rfl h
  · replace h := h.2 c3
    refine r_iload d_X12_worked_314 4 rfl ?_
    refine r_goto (tgt := 328) d_X12_worked_316 (by decide) ?_
    obtain ⟨G5, eG5⟩ : ∃ y : Mem, y = st G 338 x2 (wr x5) := ⟨_, rfl⟩
    replace h := h G5 eG5
    refine r_iastoreW d_X12_worked_328 (ly_12_38 bs_12).2.2 h1 ?_
    rw [← eG5]
    refine r_iinc (ls1 := [(3, (0, (x3 + 1))), (0, (2, 311)), (1, (0, x1)), (2, (0, x2)), (5, (0, x5))]) d_X12_worked_329 3 rfl (by decide) rfl ?_
    refine r_goto (tgt := 14) d_X12_worked_332 (by decide) ?_
    exact Rn.sub [1, 2, 3, 0] rfl h
theorem d_X12_isKept_0 : decode M_X12_isKept.2.1 0 = .ok (.aload_n 0, 1) := by decide +kernel
theorem d_X12_isKept_1 : decode M_X12_isKept.2.1 1 = .ok (.getfield 194, 3) := by decide +kernel
theorem d_X12_isKept_4 : decode M_X12_isKept.2.1 4 = .ok (.iconst 1, 1) := by decide +kernel
theorem d_X12_isKept_5 : decode M_X12_isKept.2.1 5 = .ok (.if_icmp .eq 5, 3) := by decide +kernel
theorem d_X12_isKept_8 : decode M_X12_isKept.2.1 8 = .ok (.iconst 1, 1) := by decide +kernel
theorem d_X12_isKept_9 : decode M_X12_isKept.2.1 9 = .ok (.ireturn, 1) := by decide +kernel
theorem d_X12_isKept_10 : decode M_X12_isKept.2.1 10 = .ok (.aload_n 0, 1) := by decide +kernel
theorem d_X12_isKept_11 : decode M_X12_isKept.2.1 11 = .ok (.getfield 187, 3) := by decide +kernel
theorem d_X12_isKept_14 : decode M_X12_isKept.2.1 14 = .ok (.ldc2_w 266, 3) := by decide +kernel
theorem d_X12_isKept_17 : decode M_X12_isKept.2.1 17 = .ok (.lcmp, 1) := by decide +kernel
theorem d_X12_isKept_18 : decode M_X12_isKept.2.1 18 = .ok (.ifCond .eq 300, 3) := by decide +kernel
theorem d_X12_isKept_21 : decode M_X12_isKept.2.1 21 = .ok (.aload_n 0, 1) := by decide +kernel
theorem d_X12_isKept_22 : decode M_X12_isKept.2.1 22 = .ok (.getfield 187, 3) := by decide +kernel
theorem d_X12_isKept_25 : decode M_X12_isKept.2.1 25 = .ok (.ldc2_w 268, 3) := by decide +kernel
theorem d_X12_isKept_28 : decode M_X12_isKept.2.1 28 = .ok (.lcmp, 1) := by decide +kernel
theorem d_X12_isKept_29 : decode M_X12_isKept.2.1 29 = .ok (.ifCond .eq 289, 3) := by decide +kernel
theorem d_X12_isKept_32 : decode M_X12_isKept.2.1 32 = .ok (.aload_n 0, 1) := by decide +kernel
theorem d_X12_isKept_33 : decode M_X12_isKept.2.1 33 = .ok (.getfield 187, 3) := by decide +kernel
theorem d_X12_isKept_36 : decode M_X12_isKept.2.1 36 = .ok (.ldc2_w 270, 3) := by decide +kernel
theorem d_X12_isKept_39 : decode M_X12_isKept.2.1 39 = .ok (.lcmp, 1) := by decide +kernel
theorem d_X12_isKept_40 : decode M_X12_isKept.2.1 40 = .ok (.ifCond .eq 278, 3) := by decide +kernel
theorem d_X12_isKept_43 : decode M_X12_isKept.2.1 43 = .ok (.aload_n 0, 1) := by decide +kernel
theorem d_X12_isKept_44 : decode M_X12_isKept.2.1 44 = .ok (.getfield 187, 3) := by decide +kernel
theorem d_X12_isKept_47 : decode M_X12_isKept.2.1 47 = .ok (.ldc2_w 272, 3) := by decide +kernel
theorem d_X12_isKept_50 : decode M_X12_isKept.2.1 50 = .ok (.lcmp, 1) := by decide +kernel
theorem d_X12_isKept_51 : decode M_X12_isKept.2.1 51 = .ok (.ifCond .eq 267, 3) := by decide +kernel
theorem d_X12_isKept_54 : decode M_X12_isKept.2.1 54 = .ok (.aload_n 0, 1) := by decide +kernel
theorem d_X12_isKept_55 : decode M_X12_isKept.2.1 55 = .ok (.getfield 187, 3) := by decide +kernel
theorem d_X12_isKept_58 : decode M_X12_isKept.2.1 58 = .ok (.ldc2_w 274, 3) := by decide +kernel
theorem d_X12_isKept_61 : decode M_X12_isKept.2.1 61 = .ok (.lcmp, 1) := by decide +kernel
theorem d_X12_isKept_62 : decode M_X12_isKept.2.1 62 = .ok (.ifCond .eq 256, 3) := by decide +kernel
theorem d_X12_isKept_65 : decode M_X12_isKept.2.1 65 = .ok (.aload_n 0, 1) := by decide +kernel
theorem d_X12_isKept_66 : decode M_X12_isKept.2.1 66 = .ok (.getfield 187, 3) := by decide +kernel
theorem d_X12_isKept_69 : decode M_X12_isKept.2.1 69 = .ok (.ldc2_w 276, 3) := by decide +kernel
theorem d_X12_isKept_72 : decode M_X12_isKept.2.1 72 = .ok (.lcmp, 1) := by decide +kernel
theorem d_X12_isKept_73 : decode M_X12_isKept.2.1 73 = .ok (.ifCond .eq 245, 3) := by decide +kernel
theorem d_X12_isKept_76 : decode M_X12_isKept.2.1 76 = .ok (.aload_n 0, 1) := by decide +kernel
theorem d_X12_isKept_77 : decode M_X12_isKept.2.1 77 = .ok (.getfield 187, 3) := by decide +kernel
theorem d_X12_isKept_80 : decode M_X12_isKept.2.1 80 = .ok (.ldc2_w 278, 3) := by decide +kernel
theorem d_X12_isKept_83 : decode M_X12_isKept.2.1 83 = .ok (.lcmp, 1) := by decide +kernel
theorem d_X12_isKept_84 : decode M_X12_isKept.2.1 84 = .ok (.ifCond .eq 234, 3) := by decide +kernel
theorem d_X12_isKept_87 : decode M_X12_isKept.2.1 87 = .ok (.aload_n 0, 1) := by decide +kernel
theorem d_X12_isKept_88 : decode M_X12_isKept.2.1 88 = .ok (.getfield 187, 3) := by decide +kernel
theorem d_X12_isKept_91 : decode M_X12_isKept.2.1 91 = .ok (.ldc2_w 218, 3) := by decide +kernel
theorem d_X12_isKept_94 : decode M_X12_isKept.2.1 94 = .ok (.lcmp, 1) := by decide +kernel
theorem d_X12_isKept_95 : decode M_X12_isKept.2.1 95 = .ok (.ifCond .eq 223, 3) := by decide +kernel
theorem d_X12_isKept_98 : decode M_X12_isKept.2.1 98 = .ok (.aload_n 0, 1) := by decide +kernel
theorem d_X12_isKept_99 : decode M_X12_isKept.2.1 99 = .ok (.getfield 187, 3) := by decide +kernel
theorem d_X12_isKept_102 : decode M_X12_isKept.2.1 102 = .ok (.ldc2_w 220, 3) := by decide +kernel
theorem d_X12_isKept_105 : decode M_X12_isKept.2.1 105 = .ok (.lcmp, 1) := by decide +kernel
theorem d_X12_isKept_106 : decode M_X12_isKept.2.1 106 = .ok (.ifCond .eq 212, 3) := by decide +kernel
theorem d_X12_isKept_109 : decode M_X12_isKept.2.1 109 = .ok (.aload_n 0, 1) := by decide +kernel
theorem d_X12_isKept_110 : decode M_X12_isKept.2.1 110 = .ok (.getfield 187, 3) := by decide +kernel
theorem d_X12_isKept_113 : decode M_X12_isKept.2.1 113 = .ok (.ldc2_w 280, 3) := by decide +kernel
theorem d_X12_isKept_116 : decode M_X12_isKept.2.1 116 = .ok (.lcmp, 1) := by decide +kernel
theorem d_X12_isKept_117 : decode M_X12_isKept.2.1 117 = .ok (.ifCond .eq 201, 3) := by decide +kernel
theorem d_X12_isKept_120 : decode M_X12_isKept.2.1 120 = .ok (.aload_n 0, 1) := by decide +kernel
theorem d_X12_isKept_121 : decode M_X12_isKept.2.1 121 = .ok (.getfield 187, 3) := by decide +kernel
theorem d_X12_isKept_124 : decode M_X12_isKept.2.1 124 = .ok (.ldc2_w 282, 3) := by decide +kernel
theorem d_X12_isKept_127 : decode M_X12_isKept.2.1 127 = .ok (.lcmp, 1) := by decide +kernel
theorem d_X12_isKept_128 : decode M_X12_isKept.2.1 128 = .ok (.ifCond .eq 190, 3) := by decide +kernel
theorem d_X12_isKept_131 : decode M_X12_isKept.2.1 131 = .ok (.aload_n 0, 1) := by decide +kernel
theorem d_X12_isKept_132 : decode M_X12_isKept.2.1 132 = .ok (.getfield 187, 3) := by decide +kernel
theorem d_X12_isKept_135 : decode M_X12_isKept.2.1 135 = .ok (.ldc2_w 222, 3) := by decide +kernel
theorem d_X12_isKept_138 : decode M_X12_isKept.2.1 138 = .ok (.lcmp, 1) := by decide +kernel
theorem d_X12_isKept_139 : decode M_X12_isKept.2.1 139 = .ok (.ifCond .eq 179, 3) := by decide +kernel
theorem d_X12_isKept_142 : decode M_X12_isKept.2.1 142 = .ok (.aload_n 0, 1) := by decide +kernel
theorem d_X12_isKept_143 : decode M_X12_isKept.2.1 143 = .ok (.getfield 187, 3) := by decide +kernel
theorem d_X12_isKept_146 : decode M_X12_isKept.2.1 146 = .ok (.ldc2_w 284, 3) := by decide +kernel
theorem d_X12_isKept_149 : decode M_X12_isKept.2.1 149 = .ok (.lcmp, 1) := by decide +kernel
theorem d_X12_isKept_150 : decode M_X12_isKept.2.1 150 = .ok (.ifCond .eq 168, 3) := by decide +kernel
theorem d_X12_isKept_153 : decode M_X12_isKept.2.1 153 = .ok (.aload_n 0, 1) := by decide +kernel
theorem d_X12_isKept_154 : decode M_X12_isKept.2.1 154 = .ok (.getfield 187, 3) := by decide +kernel
theorem d_X12_isKept_157 : decode M_X12_isKept.2.1 157 = .ok (.ldc2_w 286, 3) := by decide +kernel
theorem d_X12_isKept_160 : decode M_X12_isKept.2.1 160 = .ok (.lcmp, 1) := by decide +kernel
theorem d_X12_isKept_161 : decode M_X12_isKept.2.1 161 = .ok (.ifCond .eq 157, 3) := by decide +kernel
theorem d_X12_isKept_164 : decode M_X12_isKept.2.1 164 = .ok (.aload_n 0, 1) := by decide +kernel
theorem d_X12_isKept_165 : decode M_X12_isKept.2.1 165 = .ok (.getfield 187, 3) := by decide +kernel
theorem d_X12_isKept_168 : decode M_X12_isKept.2.1 168 = .ok (.ldc2_w 226, 3) := by decide +kernel
theorem d_X12_isKept_171 : decode M_X12_isKept.2.1 171 = .ok (.lcmp, 1) := by decide +kernel
theorem d_X12_isKept_172 : decode M_X12_isKept.2.1 172 = .ok (.ifCond .eq 146, 3) := by decide +kernel
theorem d_X12_isKept_175 : decode M_X12_isKept.2.1 175 = .ok (.aload_n 0, 1) := by decide +kernel
theorem d_X12_isKept_176 : decode M_X12_isKept.2.1 176 = .ok (.getfield 187, 3) := by decide +kernel
theorem d_X12_isKept_179 : decode M_X12_isKept.2.1 179 = .ok (.ldc2_w 288, 3) := by decide +kernel
theorem d_X12_isKept_182 : decode M_X12_isKept.2.1 182 = .ok (.lcmp, 1) := by decide +kernel
theorem d_X12_isKept_183 : decode M_X12_isKept.2.1 183 = .ok (.ifCond .eq 135, 3) := by decide +kernel
theorem d_X12_isKept_186 : decode M_X12_isKept.2.1 186 = .ok (.aload_n 0, 1) := by decide +kernel
theorem d_X12_isKept_187 : decode M_X12_isKept.2.1 187 = .ok (.getfield 187, 3) := by decide +kernel
theorem d_X12_isKept_190 : decode M_X12_isKept.2.1 190 = .ok (.ldc2_w 290, 3) := by decide +kernel
theorem d_X12_isKept_193 : decode M_X12_isKept.2.1 193 = .ok (.lcmp, 1) := by decide +kernel
theorem d_X12_isKept_194 : decode M_X12_isKept.2.1 194 = .ok (.ifCond .eq 124, 3) := by decide +kernel
theorem d_X12_isKept_197 : decode M_X12_isKept.2.1 197 = .ok (.aload_n 0, 1) := by decide +kernel
theorem d_X12_isKept_198 : decode M_X12_isKept.2.1 198 = .ok (.getfield 187, 3) := by decide +kernel
theorem d_X12_isKept_201 : decode M_X12_isKept.2.1 201 = .ok (.ldc2_w 292, 3) := by decide +kernel
theorem d_X12_isKept_204 : decode M_X12_isKept.2.1 204 = .ok (.lcmp, 1) := by decide +kernel
theorem d_X12_isKept_205 : decode M_X12_isKept.2.1 205 = .ok (.ifCond .eq 113, 3) := by decide +kernel
theorem d_X12_isKept_208 : decode M_X12_isKept.2.1 208 = .ok (.aload_n 0, 1) := by decide +kernel
theorem d_X12_isKept_209 : decode M_X12_isKept.2.1 209 = .ok (.getfield 187, 3) := by decide +kernel
theorem d_X12_isKept_212 : decode M_X12_isKept.2.1 212 = .ok (.ldc2_w 294, 3) := by decide +kernel
theorem d_X12_isKept_215 : decode M_X12_isKept.2.1 215 = .ok (.lcmp, 1) := by decide +kernel
theorem d_X12_isKept_216 : decode M_X12_isKept.2.1 216 = .ok (.ifCond .eq 102, 3) := by decide +kernel
theorem d_X12_isKept_219 : decode M_X12_isKept.2.1 219 = .ok (.aload_n 0, 1) := by decide +kernel
theorem d_X12_isKept_220 : decode M_X12_isKept.2.1 220 = .ok (.getfield 187, 3) := by decide +kernel
theorem d_X12_isKept_223 : decode M_X12_isKept.2.1 223 = .ok (.ldc2_w 296, 3) := by decide +kernel
theorem d_X12_isKept_226 : decode M_X12_isKept.2.1 226 = .ok (.lcmp, 1) := by decide +kernel
theorem d_X12_isKept_227 : decode M_X12_isKept.2.1 227 = .ok (.ifCond .eq 91, 3) := by decide +kernel
theorem d_X12_isKept_230 : decode M_X12_isKept.2.1 230 = .ok (.aload_n 0, 1) := by decide +kernel
theorem d_X12_isKept_231 : decode M_X12_isKept.2.1 231 = .ok (.getfield 187, 3) := by decide +kernel
theorem d_X12_isKept_234 : decode M_X12_isKept.2.1 234 = .ok (.ldc2_w 298, 3) := by decide +kernel
theorem d_X12_isKept_237 : decode M_X12_isKept.2.1 237 = .ok (.lcmp, 1) := by decide +kernel
theorem d_X12_isKept_238 : decode M_X12_isKept.2.1 238 = .ok (.ifCond .eq 80, 3) := by decide +kernel
theorem d_X12_isKept_241 : decode M_X12_isKept.2.1 241 = .ok (.aload_n 0, 1) := by decide +kernel
theorem d_X12_isKept_242 : decode M_X12_isKept.2.1 242 = .ok (.getfield 187, 3) := by decide +kernel
theorem d_X12_isKept_245 : decode M_X12_isKept.2.1 245 = .ok (.ldc2_w 300, 3) := by decide +kernel
theorem d_X12_isKept_248 : decode M_X12_isKept.2.1 248 = .ok (.lcmp, 1) := by decide +kernel
theorem d_X12_isKept_249 : decode M_X12_isKept.2.1 249 = .ok (.ifCond .eq 69, 3) := by decide +kernel
theorem d_X12_isKept_252 : decode M_X12_isKept.2.1 252 = .ok (.aload_n 0, 1) := by decide +kernel
theorem d_X12_isKept_253 : decode M_X12_isKept.2.1 253 = .ok (.getfield 187, 3) := by decide +kernel
theorem d_X12_isKept_256 : decode M_X12_isKept.2.1 256 = .ok (.ldc2_w 302, 3) := by decide +kernel
theorem d_X12_isKept_259 : decode M_X12_isKept.2.1 259 = .ok (.lcmp, 1) := by decide +kernel
theorem d_X12_isKept_260 : decode M_X12_isKept.2.1 260 = .ok (.ifCond .eq 58, 3) := by decide +kernel
theorem d_X12_isKept_263 : decode M_X12_isKept.2.1 263 = .ok (.aload_n 0, 1) := by decide +kernel
theorem d_X12_isKept_264 : decode M_X12_isKept.2.1 264 = .ok (.getfield 187, 3) := by decide +kernel
theorem d_X12_isKept_267 : decode M_X12_isKept.2.1 267 = .ok (.ldc2_w 304, 3) := by decide +kernel
theorem d_X12_isKept_270 : decode M_X12_isKept.2.1 270 = .ok (.lcmp, 1) := by decide +kernel
theorem d_X12_isKept_271 : decode M_X12_isKept.2.1 271 = .ok (.ifCond .eq 47, 3) := by decide +kernel
theorem d_X12_isKept_274 : decode M_X12_isKept.2.1 274 = .ok (.aload_n 0, 1) := by decide +kernel
theorem d_X12_isKept_275 : decode M_X12_isKept.2.1 275 = .ok (.getfield 187, 3) := by decide +kernel
theorem d_X12_isKept_278 : decode M_X12_isKept.2.1 278 = .ok (.ldc2_w 306, 3) := by decide +kernel
theorem d_X12_isKept_281 : decode M_X12_isKept.2.1 281 = .ok (.lcmp, 1) := by decide +kernel
theorem d_X12_isKept_282 : decode M_X12_isKept.2.1 282 = .ok (.ifCond .eq 36, 3) := by decide +kernel
theorem d_X12_isKept_285 : decode M_X12_isKept.2.1 285 = .ok (.aload_n 0, 1) := by decide +kernel
theorem d_X12_isKept_286 : decode M_X12_isKept.2.1 286 = .ok (.getfield 187, 3) := by decide +kernel
theorem d_X12_isKept_289 : decode M_X12_isKept.2.1 289 = .ok (.ldc2_w 234, 3) := by decide +kernel
theorem d_X12_isKept_292 : decode M_X12_isKept.2.1 292 = .ok (.lcmp, 1) := by decide +kernel
theorem d_X12_isKept_293 : decode M_X12_isKept.2.1 293 = .ok (.ifCond .eq 25, 3) := by decide +kernel
theorem d_X12_isKept_296 : decode M_X12_isKept.2.1 296 = .ok (.aload_n 0, 1) := by decide +kernel
theorem d_X12_isKept_297 : decode M_X12_isKept.2.1 297 = .ok (.getfield 187, 3) := by decide +kernel
theorem d_X12_isKept_300 : decode M_X12_isKept.2.1 300 = .ok (.ldc2_w 253, 3) := by decide +kernel
theorem d_X12_isKept_303 : decode M_X12_isKept.2.1 303 = .ok (.lcmp, 1) := by decide +kernel
theorem d_X12_isKept_304 : decode M_X12_isKept.2.1 304 = .ok (.ifCond .eq 14, 3) := by decide +kernel
theorem d_X12_isKept_307 : decode M_X12_isKept.2.1 307 = .ok (.aload_n 0, 1) := by decide +kernel
theorem d_X12_isKept_308 : decode M_X12_isKept.2.1 308 = .ok (.getfield 187, 3) := by decide +kernel
theorem d_X12_isKept_311 : decode M_X12_isKept.2.1 311 = .ok (.ldc2_w 255, 3) := by decide +kernel
theorem d_X12_isKept_314 : decode M_X12_isKept.2.1 314 = .ok (.lcmp, 1) := by decide +kernel
theorem d_X12_isKept_315 : decode M_X12_isKept.2.1 315 = .ok (.ifCond .ne 7, 3) := by decide +kernel
theorem d_X12_isKept_318 : decode M_X12_isKept.2.1 318 = .ok (.iconst 1, 1) := by decide +kernel
theorem d_X12_isKept_319 : decode M_X12_isKept.2.1 319 = .ok (.goto 4, 3) := by decide +kernel
theorem d_X12_isKept_322 : decode M_X12_isKept.2.1 322 = .ok (.iconst 0, 1) := by decide +kernel
theorem d_X12_isKept_323 : decode M_X12_isKept.2.1 323 = .ok (.ireturn, 1) := by decide +kernel
set_option maxRecDepth 20000 in
theorem s_X12_isKept_0 {d : Nat}  {G : Mem} {Q : Int → Mem → Prop}  (h : (InR (G 311 6)) ∧ (((G 311 6) = 1) → (InL (G 311 7)) ∧ (((G 311 7) = 13550) → Q 1 G) ∧ (¬ ((G 311 7) = 13550) → (((G 311 7) = 92653220) → Q 1 G) ∧ (¬ ((G 311 7) = 92653220) → (((G 311 7) = 277820595) → Q 1 G) ∧ (¬ ((G 311 7) = 277820595) → (((G 311 7) = 47) → Q 1 G) ∧ (¬ ((G 311 7) = 47) → (((G 311 7) = 7542361) → Q 1 G) ∧ (¬ ((G 311 7) = 7542361) → (((G 311 7) = 6564179) → Q 1 G) ∧ (¬ ((G 311 7) = 6564179) → (((G 311 7) = 148870) → Q 1 G) ∧ (¬ ((G 311 7) = 148870) → (((G 311 7) = 2236391) → Q 1 G) ∧ (¬ ((G 311 7) = 2236391) → (((G 311 7) = 240049) → Q 1 G) ∧ (¬ ((G 311 7) = 240049) → (((G 311 7) = 279109036) → Q 1 G) ∧ (¬ ((G 311 7) = 279109036) → (((G 311 7) = 555) → Q 1 G) ∧ (¬ ((G 311 7) = 555) → (((G 311 7) = 2770) → Q 1 G) ∧ (¬ ((G 311 7) = 2770) → (((G 311 7) = 43355) → Q 1 G) ∧ (¬ ((G 311 7) = 43355) → (((G 311 7) = 8014906825) → Q 1 G) ∧ (¬ ((G 311 7) = 8014906825) → (((G 311 7) = 5146) → Q 1 G) ∧ (¬ ((G 311 7) = 5146) → (((G 311 7) = 8863997) → Q 1 G) ∧ (¬ ((G 311 7) = 8863997) → (((G 311 7) = 3293825) → Q 1 G) ∧ (¬ ((G 311 7) = 3293825) → (((G 311 7) = 453740) → Q 1 G) ∧ (¬ ((G 311 7) = 453740) → (((G 311 7) = 10419204) → Q 1 G) ∧ (¬ ((G 311 7) = 10419204) → (((G 311 7) = 9452057) → Q 1 G) ∧ (¬ ((G 311 7) = 9452057) → (((G 311 7) = 8740238) → Q 1 G) ∧ (¬ ((G 311 7) = 8740238) → (((G 311 7) = 1813028985) → Q 1 G) ∧ (¬ ((G 311 7) = 1813028985) → (((G 311 7) = 6559778) → Q 1 G) ∧ (¬ ((G 311 7) = 6559778) → (((G 311 7) = 394725) → Q 1 G) ∧ (¬ ((G 311 7) = 394725) → (((G 311 7) = 2401198578) → Q 1 G) ∧ (¬ ((G 311 7) = 2401198578) → (((G 311 7) = 10631) → Q 1 G) ∧ (¬ ((G 311 7) = 10631) → (((G 311 7) = 1111) → Q 1 G) ∧ (¬ ((G 311 7) = 1111) → (((G 311 7) ≠ 423) → Q 0 G) ∧ (¬ ((G 311 7) ≠ 423) → Q 1 G))))))))))))))))))))))))))))) ∧ (¬ ((G 311 6) = 1) → Q 1 G)) : Rn d M_X12_isKept zN 0 [(0, (2, 311))] [] G Q := by
  refine r_aload_n d_X12_isKept_0 0 rfl rfl ?_
  refine r_getI 12 6 6 rfl d_X12_isKept_1 fl_X12_194 (by decide) (bs_ob bs_12) ?_
  refine r_iconst d_X12_isKept_4 ?_
  obtain ⟨h1, h⟩ := h
  refine r_icmp_eq (tgt := 10) d_X12_isKept_5 (by decide) h1 ⟨by decide, by decide⟩ (fun c2 => ?_) (fun c2 => ?_)
  · replace h := h.1 c2
    refine r_aload_n d_X12_isKept_10 0 rfl rfl ?_
    refine r_getJ 12 7 7 rfl d_X12_isKept_11 fl_X12_187 (by decide) (bs_ob bs_12) ?_
    refine r_ldc2 (x := 13550) d_X12_isKept_14 cst_X12_266 ?_
    obtain ⟨h3, h⟩ := h
    refine r_lcmp_eq (tgt := 318) d_X12_isKept_17 d_X12_isKept_18 (by decide) h3 ⟨by decide, by decide⟩ (fun c4 => ?_) (fun c4 => ?_)
    · replace h := h.1 c4
      refine r_iconst d_X12_isKept_318 ?_
      refine r_goto (tgt := 323) d_X12_isKept_319 (by decide) ?_
      exact r_zreturn d_X12_isKept_323 rfl ⟨rfl, Nat.le_refl _, Nat.le_refl _⟩ (by decide) h
    · replace h := h.2 c4
      refine r_aload_n d_X12_isKept_21 0 rfl rfl ?_
      refine r_getJ 12 7 7 rfl d_X12_isKept_22 fl_X12_187 (by decide) (bs_ob bs_12) ?_
      refine r_ldc2 (x := 92653220) d_X12_isKept_25 cst_X12_268 ?_
      refine r_lcmp_eq (tgt := 318) d_X12_isKept_28 d_X12_isKept_29 (by decide) h3 ⟨by decide, by decide⟩ (fun c5 => ?_) (fun c5 => ?_)
      · replace h := h.1 c5
        refine r_iconst d_X12_isKept_318 ?_
        refine r_goto (tgt := 323) d_X12_isKept_319 (by decide) ?_
        exact r_zreturn d_X12_isKept_323 rfl ⟨rfl, Nat.le_refl _, Nat.le_refl _⟩ (by decide) h
      · replace h := h.2 c5
        refine r_aload_n d_X12_isKept_32 0 rfl rfl ?_
        refine r_getJ 12 7 7 rfl d_X12_isKept_33 fl_X12_187 (by decide) (bs_ob bs_12) ?_
        refine r_ldc2 (x := 277820595) d_X12_isKept_36 cst_X12_270 ?_
        refine r_lcmp_eq (tgt := 318) d_X12_isKept_39 d_X12_isKept_40 (by decide) h3 ⟨by decide, by decide⟩ (fun c6 => ?_) (fun c6 => ?_)
        · replace h := h.1 c6
          refine r_iconst d_X12_isKept_318 ?_
          refine r_goto (tgt := 323) d_X12_isKept_319 (by decide) ?_
          exact r_zreturn d_X12_isKept_323 rfl ⟨rfl, Nat.le_refl _, Nat.le_refl _⟩ (by decide) h
        · replace h := h.2 c6
          refine r_aload_n d_X12_isKept_43 0 rfl rfl ?_
          refine r_getJ 12 7 7 rfl d_X12_isKept_44 fl_X12_187 (by decide) (bs_ob bs_12) ?_
          refine r_ldc2 (x := 47) d_X12_isKept_47 cst_X12_272 ?_
          refine r_lcmp_eq (tgt := 318) d_X12_isKept_50 d_X12_isKept_51 (by decide) h3 ⟨by decide, by decide⟩ (fun c7 => ?_) (fun c7 => ?_)
          · replace h := h.1 c7
            refine r_iconst d_X12_isKept_318 ?_
            refine r_goto (tgt := 323) d_X12_isKept_319 (by decide) ?_
            exact r_zreturn d_X12_isKept_323 rfl ⟨rfl, Nat.le_refl _, Nat.le_refl _⟩ (by decide) h
          · replace h := h.2 c7
            refine r_aload_n d_X12_isKept_54 0 rfl rfl ?_
            refine r_getJ 12 7 7 rfl d_X12_isKept_55 fl_X12_187 (by decide) (bs_ob bs_12) ?_
            refine r_ldc2 (x := 7542361) d_X12_isKept_58 cst_X12_274 ?_
            refine r_lcmp_eq (tgt := 318) d_X12_isKept_61 d_X12_isKept_62 (by decide) h3 ⟨by decide, by decide⟩ (fun c8 => ?_) (fun c8 => ?_)
            · replace h := h.1 c8
              refine r_iconst d_X12_isKept_318 ?_
              refine r_goto (tgt := 323) d_X12_isKept_319 (by decide) ?_
              exact r_zreturn d_X12_isKept_323 rfl ⟨rfl, Nat.le_refl _, Nat.le_refl _⟩ (by decide) h
            · replace h := h.2 c8
              refine r_aload_n d_X12_isKept_65 0 rfl rfl ?_
              refine r_getJ 12 7 7 rfl d_X12_isKept_66 fl_X12_187 (by decide) (bs_ob bs_12) ?_
              refine r_ldc2 (x := 6564179) d_X12_isKept_69 cst_X12_276 ?_
              refine r_lcmp_eq (tgt := 318) d_X12_isKept_72 d_X12_isKept_73 (by decide) h3 ⟨by decide, by decide⟩ (fun c9 => ?_) (fun c9 => ?_)
              · replace h := h.1 c9
                refine r_iconst d_X12_isKept_318 ?_
                refine r_goto (tgt := 323) d_X12_isKept_319 (by decide) ?_
                exact r_zreturn d_X12_isKept_323 rfl ⟨rfl, Nat.le_refl _, Nat.le_refl _⟩ (by decide) h
              · replace h := h.2 c9
                refine r_aload_n d_X12_isKept_76 0 rfl rfl ?_
                refine r_getJ 12 7 7 rfl d_X12_isKept_77 fl_X12_187 (by decide) (bs_ob bs_12) ?_
                refine r_ldc2 (x := 148870) d_X12_isKept_80 cst_X12_278 ?_
                refine r_lcmp_eq (tgt := 318) d_X12_isKept_83 d_X12_isKept_84 (by decide) h3 ⟨by decide, by decide⟩ (fun c10 => ?_) (fun c10 => ?_)
                · replace h := h.1 c10
                  refine r_iconst d_X12_isKept_318 ?_
                  refine r_goto (tgt := 323) d_X12_isKept_319 (by decide) ?_
                  exact r_zreturn d_X12_isKept_323 rfl ⟨rfl, Nat.le_refl _, Nat.le_refl _⟩ (by decide) h
                · replace h := h.2 c10
                  refine r_aload_n d_X12_isKept_87 0 rfl rfl ?_
                  refine r_getJ 12 7 7 rfl d_X12_isKept_88 fl_X12_187 (by decide) (bs_ob bs_12) ?_
                  refine r_ldc2 (x := 2236391) d_X12_isKept_91 cst_X12_218 ?_
                  refine r_lcmp_eq (tgt := 318) d_X12_isKept_94 d_X12_isKept_95 (by decide) h3 ⟨by decide, by decide⟩ (fun c11 => ?_) (fun c11 => ?_)
                  · replace h := h.1 c11
                    refine r_iconst d_X12_isKept_318 ?_
                    refine r_goto (tgt := 323) d_X12_isKept_319 (by decide) ?_
                    exact r_zreturn d_X12_isKept_323 rfl ⟨rfl, Nat.le_refl _, Nat.le_refl _⟩ (by decide) h
                  · replace h := h.2 c11
                    refine r_aload_n d_X12_isKept_98 0 rfl rfl ?_
                    refine r_getJ 12 7 7 rfl d_X12_isKept_99 fl_X12_187 (by decide) (bs_ob bs_12) ?_
                    refine r_ldc2 (x := 240049) d_X12_isKept_102 cst_X12_220 ?_
                    refine r_lcmp_eq (tgt := 318) d_X12_isKept_105 d_X12_isKept_106 (by decide) h3 ⟨by decide, by decide⟩ (fun c12 => ?_) (fun c12 => ?_)
                    · replace h := h.1 c12
                      refine r_iconst d_X12_isKept_318 ?_
                      refine r_goto (tgt := 323) d_X12_isKept_319 (by decide) ?_
                      exact r_zreturn d_X12_isKept_323 rfl ⟨rfl, Nat.le_refl _, Nat.le_refl _⟩ (by decide) h
                    · replace h := h.2 c12
                      refine r_aload_n d_X12_isKept_109 0 rfl rfl ?_
                      refine r_getJ 12 7 7 rfl d_X12_isKept_110 fl_X12_187 (by decide) (bs_ob bs_12) ?_
                      refine r_ldc2 (x := 279109036) d_X12_isKept_113 cst_X12_280 ?_
                      refine r_lcmp_eq (tgt := 318) d_X12_isKept_116 d_X12_isKept_117 (by decide) h3 ⟨by decide, by decide⟩ (fun c13 => ?_) (fun c13 => ?_)
                      · replace h := h.1 c13
                        refine r_iconst d_X12_isKept_318 ?_
                        refine r_goto (tgt := 323) d_X12_isKept_319 (by decide) ?_
                        exact r_zreturn d_X12_isKept_323 rfl ⟨rfl, Nat.le_refl _, Nat.le_refl _⟩ (by decide) h
                      · replace h := h.2 c13
                        refine r_aload_n d_X12_isKept_120 0 rfl rfl ?_
                        refine r_getJ 12 7 7 rfl d_X12_isKept_121 fl_X12_187 (by decide) (bs_ob bs_12) ?_
                        refine r_ldc2 (x := 555) d_X12_isKept_124 cst_X12_282 ?_
                        refine r_lcmp_eq (tgt := 318) d_X12_isKept_127 d_X12_isKept_128 (by decide) h3 ⟨by decide, by decide⟩ (fun c14 => ?_) (fun c14 => ?_)
                        · replace h := h.1 c14
                          refine r_iconst d_X12_isKept_318 ?_
                          refine r_goto (tgt := 323) d_X12_isKept_319 (by decide) ?_
                          exact r_zreturn d_X12_isKept_323 rfl ⟨rfl, Nat.le_refl _, Nat.le_refl _⟩ (by decide) h
                        · replace h := h.2 c14
                          refine r_aload_n d_X12_isKept_131 0 rfl rfl ?_
                          refine r_getJ 12 7 7 rfl d_X12_isKept_132 fl_X12_187 (by decide) (bs_ob bs_12) ?_
                          refine r_ldc2 (x := 2770) d_X12_isKept_135 cst_X12_222 ?_
                          refine r_lcmp_eq (tgt := 318) d_X12_isKept_138 d_X12_isKept_139 (by decide) h3 ⟨by decide, by decide⟩ (fun c15 => ?_) (fun c15 => ?_)
                          · replace h := h.1 c15
                            refine r_iconst d_X12_isKept_318 ?_
                            refine r_goto (tgt := 323) d_X12_isKept_319 (by decide) ?_
                            exact r_zreturn d_X12_isKept_323 rfl ⟨rfl, Nat.le_refl _, Nat.le_refl _⟩ (by decide) h
                          · replace h := h.2 c15
                            refine r_aload_n d_X12_isKept_142 0 rfl rfl ?_
                            refine r_getJ 12 7 7 rfl d_X12_isKept_143 fl_X12_187 (by decide) (bs_ob bs_12) ?_
                            refine r_ldc2 (x := 43355) d_X12_isKept_146 cst_X12_284 ?_
                            refine r_lcmp_eq (tgt := 318) d_X12_isKept_149 d_X12_isKept_150 (by decide) h3 ⟨by decide, by decide⟩ (fun c16 => ?_) (fun c16 => ?_)
                            · replace h := h.1 c16
                              refine r_iconst d_X12_isKept_318 ?_
                              refine r_goto (tgt := 323) d_X12_isKept_319 (by decide) ?_
                              exact r_zreturn d_X12_isKept_323 rfl ⟨rfl, Nat.le_refl _, Nat.le_refl _⟩ (by decide) h
                            · replace h := h.2 c16
                              refine r_aload_n d_X12_isKept_153 0 rfl rfl ?_
                              refine r_getJ 12 7 7 rfl d_X12_isKept_154 fl_X12_187 (by decide) (bs_ob bs_12) ?_
                              refine r_ldc2 (x := 8014906825) d_X12_isKept_157 cst_X12_286 ?_
                              refine r_lcmp_eq (tgt := 318) d_X12_isKept_160 d_X12_isKept_161 (by decide) h3 ⟨by decide, by decide⟩ (fun c17 => ?_) (fun c17 => ?_)
                              · replace h := h.1 c17
                                refine r_iconst d_X12_isKept_318 ?_
                                refine r_goto (tgt := 323) d_X12_isKept_319 (by decide) ?_
                                exact r_zreturn d_X12_isKept_323 rfl ⟨rfl, Nat.le_refl _, Nat.le_refl _⟩ (by decide) h
                              · replace h := h.2 c17
                                refine r_aload_n d_X12_isKept_164 0 rfl rfl ?_
                                refine r_getJ 12 7 7 rfl d_X12_isKept_165 fl_X12_187 (by decide) (bs_ob bs_12) ?_
                                refine r_ldc2 (x := 5146) d_X12_isKept_168 cst_X12_226 ?_
                                refine r_lcmp_eq (tgt := 318) d_X12_isKept_171 d_X12_isKept_172 (by decide) h3 ⟨by decide, by decide⟩ (fun c18 => ?_) (fun c18 => ?_)
                                · replace h := h.1 c18
                                  refine r_iconst d_X12_isKept_318 ?_
                                  refine r_goto (tgt := 323) d_X12_isKept_319 (by decide) ?_
                                  exact r_zreturn d_X12_isKept_323 rfl ⟨rfl, Nat.le_refl _, Nat.le_refl _⟩ (by decide) h
                                · replace h := h.2 c18
                                  refine r_aload_n d_X12_isKept_175 0 rfl rfl ?_
                                  refine r_getJ 12 7 7 rfl d_X12_isKept_176 fl_X12_187 (by decide) (bs_ob bs_12) ?_
                                  refine r_ldc2 (x := 8863997) d_X12_isKept_179 cst_X12_288 ?_
                                  refine r_lcmp_eq (tgt := 318) d_X12_isKept_182 d_X12_isKept_183 (by decide) h3 ⟨by decide, by decide⟩ (fun c19 => ?_) (fun c19 => ?_)
                                  · replace h := h.1 c19
                                    refine r_iconst d_X12_isKept_318 ?_
                                    refine r_goto (tgt := 323) d_X12_isKept_319 (by decide) ?_
                                    exact r_zreturn d_X12_isKept_323 rfl ⟨rfl, Nat.le_refl _, Nat.le_refl _⟩ (by decide) h
                                  · replace h := h.2 c19
                                    refine r_aload_n d_X12_isKept_186 0 rfl rfl ?_
                                    refine r_getJ 12 7 7 rfl d_X12_isKept_187 fl_X12_187 (by decide) (bs_ob bs_12) ?_
                                    refine r_ldc2 (x := 3293825) d_X12_isKept_190 cst_X12_290 ?_
                                    refine r_lcmp_eq (tgt := 318) d_X12_isKept_193 d_X12_isKept_194 (by decide) h3 ⟨by decide, by decide⟩ (fun c20 => ?_) (fun c20 => ?_)
                                    · replace h := h.1 c20
                                      refine r_iconst d_X12_isKept_318 ?_
                                      refine r_goto (tgt := 323) d_X12_isKept_319 (by decide) ?_
                                      exact r_zreturn d_X12_isKept_323 rfl ⟨rfl, Nat.le_refl _, Nat.le_refl _⟩ (by decide) h
                                    · replace h := h.2 c20
                                      refine r_aload_n d_X12_isKept_197 0 rfl rfl ?_
                                      refine r_getJ 12 7 7 rfl d_X12_isKept_198 fl_X12_187 (by decide) (bs_ob bs_12) ?_
                                      refine r_ldc2 (x := 453740) d_X12_isKept_201 cst_X12_292 ?_
                                      refine r_lcmp_eq (tgt := 318) d_X12_isKept_204 d_X12_isKept_205 (by decide) h3 ⟨by decide, by decide⟩ (fun c21 => ?_) (fun c21 => ?_)
                                      · replace h := h.1 c21
                                        refine r_iconst d_X12_isKept_318 ?_
                                        refine r_goto (tgt := 323) d_X12_isKept_319 (by decide) ?_
                                        exact r_zreturn d_X12_isKept_323 rfl ⟨rfl, Nat.le_refl _, Nat.le_refl _⟩ (by decide) h
                                      · replace h := h.2 c21
                                        refine r_aload_n d_X12_isKept_208 0 rfl rfl ?_
                                        refine r_getJ 12 7 7 rfl d_X12_isKept_209 fl_X12_187 (by decide) (bs_ob bs_12) ?_
                                        refine r_ldc2 (x := 10419204) d_X12_isKept_212 cst_X12_294 ?_
                                        refine r_lcmp_eq (tgt := 318) d_X12_isKept_215 d_X12_isKept_216 (by decide) h3 ⟨by decide, by decide⟩ (fun c22 => ?_) (fun c22 => ?_)
                                        · replace h := h.1 c22
                                          refine r_iconst d_X12_isKept_318 ?_
                                          refine r_goto (tgt := 323) d_X12_isKept_319 (by decide) ?_
                                          exact r_zreturn d_X12_isKept_323 rfl ⟨rfl, Nat.le_refl _, Nat.le_refl _⟩ (by decide) h
                                        · replace h := h.2 c22
                                          refine r_aload_n d_X12_isKept_219 0 rfl rfl ?_
                                          refine r_getJ 12 7 7 rfl d_X12_isKept_220 fl_X12_187 (by decide) (bs_ob bs_12) ?_
                                          refine r_ldc2 (x := 9452057) d_X12_isKept_223 cst_X12_296 ?_
                                          refine r_lcmp_eq (tgt := 318) d_X12_isKept_226 d_X12_isKept_227 (by decide) h3 ⟨by decide, by decide⟩ (fun c23 => ?_) (fun c23 => ?_)
                                          · replace h := h.1 c23
                                            refine r_iconst d_X12_isKept_318 ?_
                                            refine r_goto (tgt := 323) d_X12_isKept_319 (by decide) ?_
                                            exact r_zreturn d_X12_isKept_323 rfl ⟨rfl, Nat.le_refl _, Nat.le_refl _⟩ (by decide) h
                                          · replace h := h.2 c23
                                            refine r_aload_n d_X12_isKept_230 0 rfl rfl ?_
                                            refine r_getJ 12 7 7 rfl d_X12_isKept_231 fl_X12_187 (by decide) (bs_ob bs_12) ?_
                                            refine r_ldc2 (x := 8740238) d_X12_isKept_234 cst_X12_298 ?_
                                            refine r_lcmp_eq (tgt := 318) d_X12_isKept_237 d_X12_isKept_238 (by decide) h3 ⟨by decide, by decide⟩ (fun c24 => ?_) (fun c24 => ?_)
                                            · replace h := h.1 c24
                                              refine r_iconst d_X12_isKept_318 ?_
                                              refine r_goto (tgt := 323) d_X12_isKept_319 (by decide) ?_
                                              exact r_zreturn d_X12_isKept_323 rfl ⟨rfl, Nat.le_refl _, Nat.le_refl _⟩ (by decide) h
                                            · replace h := h.2 c24
                                              refine r_aload_n d_X12_isKept_241 0 rfl rfl ?_
                                              refine r_getJ 12 7 7 rfl d_X12_isKept_242 fl_X12_187 (by decide) (bs_ob bs_12) ?_
                                              refine r_ldc2 (x := 1813028985) d_X12_isKept_245 cst_X12_300 ?_
                                              refine r_lcmp_eq (tgt := 318) d_X12_isKept_248 d_X12_isKept_249 (by decide) h3 ⟨by decide, by decide⟩ (fun c25 => ?_) (fun c25 => ?_)
                                              · replace h := h.1 c25
                                                refine r_iconst d_X12_isKept_318 ?_
                                                refine r_goto (tgt := 323) d_X12_isKept_319 (by decide) ?_
                                                exact r_zreturn d_X12_isKept_323 rfl ⟨rfl, Nat.le_refl _, Nat.le_refl _⟩ (by decide) h
                                              · replace h := h.2 c25
                                                refine r_aload_n d_X12_isKept_252 0 rfl rfl ?_
                                                refine r_getJ 12 7 7 rfl d_X12_isKept_253 fl_X12_187 (by decide) (bs_ob bs_12) ?_
                                                refine r_ldc2 (x := 6559778) d_X12_isKept_256 cst_X12_302 ?_
                                                refine r_lcmp_eq (tgt := 318) d_X12_isKept_259 d_X12_isKept_260 (by decide) h3 ⟨by decide, by decide⟩ (fun c26 => ?_) (fun c26 => ?_)
                                                · replace h := h.1 c26
                                                  refine r_iconst d_X12_isKept_318 ?_
                                                  refine r_goto (tgt := 323) d_X12_isKept_319 (by decide) ?_
                                                  exact r_zreturn d_X12_isKept_323 rfl ⟨rfl, Nat.le_refl _, Nat.le_refl _⟩ (by decide) h
                                                · replace h := h.2 c26
                                                  refine r_aload_n d_X12_isKept_263 0 rfl rfl ?_
                                                  refine r_getJ 12 7 7 rfl d_X12_isKept_264 fl_X12_187 (by decide) (bs_ob bs_12) ?_
                                                  refine r_ldc2 (x := 394725) d_X12_isKept_267 cst_X12_304 ?_
                                                  refine r_lcmp_eq (tgt := 318) d_X12_isKept_270 d_X12_isKept_271 (by decide) h3 ⟨by decide, by decide⟩ (fun c27 => ?_) (fun c27 => ?_)
                                                  · replace h := h.1 c27
                                                    refine r_iconst d_X12_isKept_318 ?_
                                                    refine r_goto (tgt := 323) d_X12_isKept_319 (by decide) ?_
                                                    exact r_zreturn d_X12_isKept_323 rfl ⟨rfl, Nat.le_refl _, Nat.le_refl _⟩ (by decide) h
                                                  · replace h := h.2 c27
                                                    refine r_aload_n d_X12_isKept_274 0 rfl rfl ?_
                                                    refine r_getJ 12 7 7 rfl d_X12_isKept_275 fl_X12_187 (by decide) (bs_ob bs_12) ?_
                                                    refine r_ldc2 (x := 2401198578) d_X12_isKept_278 cst_X12_306 ?_
                                                    refine r_lcmp_eq (tgt := 318) d_X12_isKept_281 d_X12_isKept_282 (by decide) h3 ⟨by decide, by decide⟩ (fun c28 => ?_) (fun c28 => ?_)
                                                    · replace h := h.1 c28
                                                      refine r_iconst d_X12_isKept_318 ?_
                                                      refine r_goto (tgt := 323) d_X12_isKept_319 (by decide) ?_
                                                      exact r_zreturn d_X12_isKept_323 rfl ⟨rfl, Nat.le_refl _, Nat.le_refl _⟩ (by decide) h
                                                    · replace h := h.2 c28
                                                      refine r_aload_n d_X12_isKept_285 0 rfl rfl ?_
                                                      refine r_getJ 12 7 7 rfl d_X12_isKept_286 fl_X12_187 (by decide) (bs_ob bs_12) ?_
                                                      refine r_ldc2 (x := 10631) d_X12_isKept_289 cst_X12_234 ?_
                                                      refine r_lcmp_eq (tgt := 318) d_X12_isKept_292 d_X12_isKept_293 (by decide) h3 ⟨by decide, by decide⟩ (fun c29 => ?_) (fun c29 => ?_)
                                                      · replace h := h.1 c29
                                                        refine r_iconst d_X12_isKept_318 ?_
                                                        refine r_goto (tgt := 323) d_X12_isKept_319 (by decide) ?_
                                                        exact r_zreturn d_X12_isKept_323 rfl ⟨rfl, Nat.le_refl _, Nat.le_refl _⟩ (by decide) h
                                                      · replace h := h.2 c29
                                                        refine r_aload_n d_X12_isKept_296 0 rfl rfl ?_
                                                        refine r_getJ 12 7 7 rfl d_X12_isKept_297 fl_X12_187 (by decide) (bs_ob bs_12) ?_
                                                        refine r_ldc2 (x := 1111) d_X12_isKept_300 cst_X12_253 ?_
                                                        refine r_lcmp_eq (tgt := 318) d_X12_isKept_303 d_X12_isKept_304 (by decide) h3 ⟨by decide, by decide⟩ (fun c30 => ?_) (fun c30 => ?_)
                                                        · replace h := h.1 c30
                                                          refine r_iconst d_X12_isKept_318 ?_
                                                          refine r_goto (tgt := 323) d_X12_isKept_319 (by decide) ?_
                                                          exact r_zreturn d_X12_isKept_323 rfl ⟨rfl, Nat.le_refl _, Nat.le_refl _⟩ (by decide) h
                                                        · replace h := h.2 c30
                                                          refine r_aload_n d_X12_isKept_307 0 rfl rfl ?_
                                                          refine r_getJ 12 7 7 rfl d_X12_isKept_308 fl_X12_187 (by decide) (bs_ob bs_12) ?_
                                                          refine r_ldc2 (x := 423) d_X12_isKept_311 cst_X12_255 ?_
                                                          refine r_lcmp_ne (tgt := 322) d_X12_isKept_314 d_X12_isKept_315 (by decide) h3 ⟨by decide, by decide⟩ (fun c31 => ?_) (fun c31 => ?_)
                                                          · replace h := h.1 c31
                                                            refine r_iconst d_X12_isKept_322 ?_
                                                            exact r_zreturn d_X12_isKept_323 rfl ⟨rfl, Nat.le_refl _, Nat.le_refl _⟩ (by decide) h
                                                          · replace h := h.2 c31
                                                            refine r_iconst d_X12_isKept_318 ?_
                                                            refine r_goto (tgt := 323) d_X12_isKept_319 (by decide) ?_
                                                            exact r_zreturn d_X12_isKept_323 rfl ⟨rfl, Nat.le_refl _, Nat.le_refl _⟩ (by decide) h
  · replace h := h.2 c2
    refine r_iconst d_X12_isKept_8 ?_
    exact r_zreturn d_X12_isKept_9 rfl ⟨rfl, Nat.le_refl _, Nat.le_refl _⟩ (by decide) h
theorem d_X12_needsNumber_0 : decode M_X12_needsNumber.2.1 0 = .ok (.aload_n 0, 1) := by decide +kernel
theorem d_X12_needsNumber_1 : decode M_X12_needsNumber.2.1 1 = .ok (.getfield 194, 3) := by decide +kernel
theorem d_X12_needsNumber_4 : decode M_X12_needsNumber.2.1 4 = .ok (.iconst 2, 1) := by decide +kernel
theorem d_X12_needsNumber_5 : decode M_X12_needsNumber.2.1 5 = .ok (.if_icmp .eq 9, 3) := by decide +kernel
theorem d_X12_needsNumber_8 : decode M_X12_needsNumber.2.1 8 = .ok (.aload_n 0, 1) := by decide +kernel
theorem d_X12_needsNumber_9 : decode M_X12_needsNumber.2.1 9 = .ok (.iconst 1, 1) := by decide +kernel
theorem d_X12_needsNumber_10 : decode M_X12_needsNumber.2.1 10 = .ok (.invokevirtual 244, 3) := by decide +kernel
theorem d_X12_needsNumber_13 : decode M_X12_needsNumber.2.1 13 = .ok (.ireturn, 1) := by decide +kernel
theorem d_X12_needsNumber_14 : decode M_X12_needsNumber.2.1 14 = .ok (.aload_n 0, 1) := by decide +kernel
theorem d_X12_needsNumber_15 : decode M_X12_needsNumber.2.1 15 = .ok (.getfield 191, 3) := by decide +kernel
theorem d_X12_needsNumber_18 : decode M_X12_needsNumber.2.1 18 = .ok (.iload_n 1, 1) := by decide +kernel
theorem d_X12_needsNumber_19 : decode M_X12_needsNumber.2.1 19 = .ok (.iload_n 2, 1) := by decide +kernel
theorem d_X12_needsNumber_20 : decode M_X12_needsNumber.2.1 20 = .ok (.invokestatic 308, 3) := by decide +kernel
theorem d_X12_needsNumber_23 : decode M_X12_needsNumber.2.1 23 = .ok (.ifCond .ne 9, 3) := by decide +kernel
theorem d_X12_needsNumber_26 : decode M_X12_needsNumber.2.1 26 = .ok (.aload_n 0, 1) := by decide +kernel
theorem d_X12_needsNumber_27 : decode M_X12_needsNumber.2.1 27 = .ok (.iconst 4, 1) := by decide +kernel
theorem d_X12_needsNumber_28 : decode M_X12_needsNumber.2.1 28 = .ok (.invokevirtual 244, 3) := by decide +kernel
theorem d_X12_needsNumber_31 : decode M_X12_needsNumber.2.1 31 = .ok (.ireturn, 1) := by decide +kernel
theorem d_X12_needsNumber_32 : decode M_X12_needsNumber.2.1 32 = .ok (.aload_n 0, 1) := by decide +kernel
theorem d_X12_needsNumber_33 : decode M_X12_needsNumber.2.1 33 = .ok (.aload_n 0, 1) := by decide +kernel
theorem d_X12_needsNumber_34 : decode M_X12_needsNumber.2.1 34 = .ok (.getfield 191, 3) := by decide +kernel
theorem d_X12_needsNumber_37 : decode M_X12_needsNumber.2.1 37 = .ok (.putfield 312, 3) := by decide +kernel
theorem d_X12_needsNumber_40 : decode M_X12_needsNumber.2.1 40 = .ok (.aload_n 0, 1) := by decide +kernel
theorem d_X12_needsNumber_41 : decode M_X12_needsNumber.2.1 41 = .ok (.invokevirtual 250, 3) := by decide +kernel
theorem d_X12_needsNumber_44 : decode M_X12_needsNumber.2.1 44 = .ok (.iconst 1, 1) := by decide +kernel
theorem d_X12_needsNumber_45 : decode M_X12_needsNumber.2.1 45 = .ok (.ireturn, 1) := by decide +kernel
set_option maxRecDepth 20000 in
theorem s_X12_needsNumber_0 {d : Nat} {p0 : Int} {p1 : Int} {G : Mem} {Q : Int → Mem → Prop}  (h : (InR (G 311 6)) ∧ (((G 311 6) = 2) → Ct d M_X12_within NT 0 0 (some lay) [(0, (G 311 8)), (0, p0), (0, p1)] G (fun r4 G3 => (InR r4) ∧ ((r4 ≠ 0) → (∀ G7 : Mem, G7 = st G3 311 42 (G3 311 8) → Ct d M_X12_nextToken NT 0 0 (some lay) [(2, 311)] G7 (fun r9 G8 => Q 1 G8))) ∧ (¬ (r4 ≠ 0) → Ct d M_X12_fails NT 0 0 (some lay) [(2, 311), (0, 4)] G3 (fun r11 G10 => (r11 = 0 ∨ r11 = 1) ∧ Q r11 G10)))) ∧ (¬ ((G 311 6) = 2) → Ct d M_X12_fails NT 0 0 (some lay) [(2, 311), (0, 1)] G (fun r13 G12 => (r13 = 0 ∨ r13 = 1) ∧ Q r13 G12))) : Rn (d + 1) M_X12_needsNumber zN 0 [(0, (2, 311)), (1, (0, p0)), (2, (0, p1))] [] G Q := by
  refine r_aload_n d_X12_needsNumber_0 0 rfl rfl ?_
  refine r_getI 12 6 6 rfl d_X12_needsNumber_1 fl_X12_194 (by decide) (bs_ob bs_12) ?_
  refine r_iconst d_X12_needsNumber_4 ?_
  obtain ⟨h1, h⟩ := h
  refine r_icmp_eq (tgt := 14) d_X12_needsNumber_5 (by decide) h1 ⟨by decide, by decide⟩ (fun c2 => ?_) (fun c2 => ?_)
  · replace h := h.1 c2
    refine r_aload_n d_X12_needsNumber_14 0 rfl rfl ?_
    refine r_getI 12 8 8 rfl d_X12_needsNumber_15 fl_X12_191 (by decide) (bs_ob bs_12) ?_
    refine r_iload_n d_X12_needsNumber_18 1 rfl rfl ?_
    refine r_iload_n d_X12_needsNumber_19 2 rfl rfl ?_
    refine r_callS0 (M' := M_X12_within) [(0, (G 311 8)), (0, p0), (0, p1)] d_X12_needsNumber_20 cl_X12_308 rfl (Nat.le_of_ble_eq_true rfl) ?_
    refine Ct.mono h (fun r4 G3 h => ?_)
    show Rn _ M_X12_needsNumber zN 23 [(0, (2, 311)), (1, (0, p0)), (2, (0, p1))] [(0, r4)] G3 Q
    obtain ⟨h5, h⟩ := h
    refine r_if_ne (tgt := 32) d_X12_needsNumber_23 (by decide) h5 (fun c6 => ?_) (fun c6 => ?_)
    · replace h := h.1 c6
      refine r_aload_n d_X12_needsNumber_32 0 rfl rfl ?_
      refine r_aload_n d_X12_needsNumber_33 0 rfl rfl ?_
      refine r_getI 12 8 8 rfl d_X12_needsNumber_34 fl_X12_191 (by decide) (bs_ob bs_12) ?_
      obtain ⟨G7, eG7⟩ : ∃ y : Mem, y = st G3 311 42 (G3 311 8) := ⟨_, rfl⟩
      replace h := h G7 eG7
      refine r_putI 12 42 42 rfl d_X12_needsNumber_37 fl_X12_312 (by decide) nofin_12_42 (bs_ob bs_12) ?_
      rw [← eG7]
      refine r_aload_n d_X12_needsNumber_40 0 rfl rfl ?_
      refine r_callV0 (M' := M_X12_nextToken) (ci := 12) [] d_X12_needsNumber_41 cl_X12_250 rfl (Nat.le_of_ble_eq_true rfl) (by decide) rfl (bs_ob bs_12) ?_
      refine Ct.mono h (fun r9 G8 h => ?_)
      show Rn _ M_X12_needsNumber zN 44 [(0, (2, 311)), (1, (0, p0)), (2, (0, p1))] [] G8 Q
      refine r_iconst d_X12_needsNumber_44 ?_
      exact r_zreturn d_X12_needsNumber_45 rfl ⟨rfl, Nat.le_refl _, Nat.le_refl _⟩ (by decide) h
    · replace h := h.2 c6
      refine r_aload_n d_X12_needsNumber_26 0 rfl rfl ?_
      refine r_iconst d_X12_needsNumber_27 ?_
      refine r_callV0 (M' := M_X12_fails) (ci := 12) [(0, 4)] d_X12_needsNumber_28 cl_X12_244 rfl (Nat.le_of_ble_eq_true rfl) (by decide) rfl (bs_ob bs_12) ?_
      refine Ct.mono h (fun r11 G10 h => ?_)
      show Rn _ M_X12_needsNumber zN 31 [(0, (2, 311)), (1, (0, p0)), (2, (0, p1))] [(0, r11)] G10 Q
      exact r_zreturn d_X12_needsNumber_31 rfl ⟨rfl, Nat.le_refl _, Nat.le_refl _⟩ h.1 h.2
  · replace h := h.2 c2
    refine r_aload_n d_X12_needsNumber_8 0 rfl rfl ?_
    refine r_iconst d_X12_needsNumber_9 ?_
    refine r_callV0 (M' := M_X12_fails) (ci := 12) [(0, 1)] d_X12_needsNumber_10 cl_X12_244 rfl (Nat.le_of_ble_eq_true rfl) (by decide) rfl (bs_ob bs_12) ?_
    refine Ct.mono h (fun r13 G12 h => ?_)
    show Rn _ M_X12_needsNumber zN 13 [(0, (2, 311)), (1, (0, p0)), (2, (0, p1))] [(0, r13)] G12 Q
    exact r_zreturn d_X12_needsNumber_13 rfl ⟨rfl, Nat.le_refl _, Nat.le_refl _⟩ h.1 h.2
theorem d_X12_needsWord_0 : decode M_X12_needsWord.2.1 0 = .ok (.aload_n 0, 1) := by decide +kernel
theorem d_X12_needsWord_1 : decode M_X12_needsWord.2.1 1 = .ok (.lload_n 1, 1) := by decide +kernel
theorem d_X12_needsWord_2 : decode M_X12_needsWord.2.1 2 = .ok (.invokevirtual 236, 3) := by decide +kernel
theorem d_X12_needsWord_5 : decode M_X12_needsWord.2.1 5 = .ok (.ifCond .ne 9, 3) := by decide +kernel
theorem d_X12_needsWord_8 : decode M_X12_needsWord.2.1 8 = .ok (.aload_n 0, 1) := by decide +kernel
theorem d_X12_needsWord_9 : decode M_X12_needsWord.2.1 9 = .ok (.iconst 1, 1) := by decide +kernel
theorem d_X12_needsWord_10 : decode M_X12_needsWord.2.1 10 = .ok (.invokevirtual 244, 3) := by decide +kernel
theorem d_X12_needsWord_13 : decode M_X12_needsWord.2.1 13 = .ok (.ireturn, 1) := by decide +kernel
theorem d_X12_needsWord_14 : decode M_X12_needsWord.2.1 14 = .ok (.aload_n 0, 1) := by decide +kernel
theorem d_X12_needsWord_15 : decode M_X12_needsWord.2.1 15 = .ok (.invokevirtual 250, 3) := by decide +kernel
theorem d_X12_needsWord_18 : decode M_X12_needsWord.2.1 18 = .ok (.iconst 1, 1) := by decide +kernel
theorem d_X12_needsWord_19 : decode M_X12_needsWord.2.1 19 = .ok (.ireturn, 1) := by decide +kernel
set_option maxRecDepth 20000 in
theorem s_X12_needsWord_0 {d : Nat} {p0 : Int} {G : Mem} {Q : Int → Mem → Prop}  (h : Ct d M_X12_isWord NT 0 0 (some lay) [(2, 311), (1, p0)] G (fun r2 G1 => (InR r2) ∧ ((r2 ≠ 0) → Ct d M_X12_nextToken NT 0 0 (some lay) [(2, 311)] G1 (fun r6 G5 => Q 1 G5)) ∧ (¬ (r2 ≠ 0) → Ct d M_X12_fails NT 0 0 (some lay) [(2, 311), (0, 1)] G1 (fun r8 G7 => (r8 = 0 ∨ r8 = 1) ∧ Q r8 G7)))) : Rn (d + 1) M_X12_needsWord zN 0 [(0, (2, 311)), (1, (1, p0))] [] G Q := by
  refine r_aload_n d_X12_needsWord_0 0 rfl rfl ?_
  refine r_lload_n d_X12_needsWord_1 1 rfl rfl ?_
  refine r_callV0 (M' := M_X12_isWord) (ci := 12) [(1, p0)] d_X12_needsWord_2 cl_X12_236 rfl (Nat.le_of_ble_eq_true rfl) (by decide) rfl (bs_ob bs_12) ?_
  refine Ct.mono h (fun r2 G1 h => ?_)
  show Rn _ M_X12_needsWord zN 5 [(0, (2, 311)), (1, (1, p0))] [(0, r2)] G1 Q
  obtain ⟨h3, h⟩ := h
  refine r_if_ne (tgt := 14) d_X12_needsWord_5 (by decide) h3 (fun c4 => ?_) (fun c4 => ?_)
  · replace h := h.1 c4
    refine r_aload_n d_X12_needsWord_14 0 rfl rfl ?_
    refine r_callV0 (M' := M_X12_nextToken) (ci := 12) [] d_X12_needsWord_15 cl_X12_250 rfl (Nat.le_of_ble_eq_true rfl) (by decide) rfl (bs_ob bs_12) ?_
    refine Ct.mono h (fun r6 G5 h => ?_)
    show Rn _ M_X12_needsWord zN 18 [(0, (2, 311)), (1, (1, p0))] [] G5 Q
    refine r_iconst d_X12_needsWord_18 ?_
    exact r_zreturn d_X12_needsWord_19 rfl ⟨rfl, Nat.le_refl _, Nat.le_refl _⟩ (by decide) h
  · replace h := h.2 c4
    refine r_aload_n d_X12_needsWord_8 0 rfl rfl ?_
    refine r_iconst d_X12_needsWord_9 ?_
    refine r_callV0 (M' := M_X12_fails) (ci := 12) [(0, 1)] d_X12_needsWord_10 cl_X12_244 rfl (Nat.le_of_ble_eq_true rfl) (by decide) rfl (bs_ob bs_12) ?_
    refine Ct.mono h (fun r8 G7 h => ?_)
    show Rn _ M_X12_needsWord zN 13 [(0, (2, 311)), (1, (1, p0))] [(0, r8)] G7 Q
    exact r_zreturn d_X12_needsWord_13 rfl ⟨rfl, Nat.le_refl _, Nat.le_refl _⟩ h.1 h.2
theorem d_X12_needsBoth_0 : decode M_X12_needsBoth.2.1 0 = .ok (.aload_n 0, 1) := by decide +kernel
theorem d_X12_needsBoth_1 : decode M_X12_needsBoth.2.1 1 = .ok (.lload_n 1, 1) := by decide +kernel
theorem d_X12_needsBoth_2 : decode M_X12_needsBoth.2.1 2 = .ok (.invokevirtual 315, 3) := by decide +kernel
theorem d_X12_needsBoth_5 : decode M_X12_needsBoth.2.1 5 = .ok (.ifCond .eq 17, 3) := by decide +kernel
theorem d_X12_needsBoth_8 : decode M_X12_needsBoth.2.1 8 = .ok (.aload_n 0, 1) := by decide +kernel
theorem d_X12_needsBoth_9 : decode M_X12_needsBoth.2.1 9 = .ok (.iload_n 3, 1) := by decide +kernel
theorem d_X12_needsBoth_10 : decode M_X12_needsBoth.2.1 10 = .ok (.iload 4, 2) := by decide +kernel
theorem d_X12_needsBoth_12 : decode M_X12_needsBoth.2.1 12 = .ok (.invokevirtual 318, 3) := by decide +kernel
theorem d_X12_needsBoth_15 : decode M_X12_needsBoth.2.1 15 = .ok (.ifCond .eq 7, 3) := by decide +kernel
theorem d_X12_needsBoth_18 : decode M_X12_needsBoth.2.1 18 = .ok (.iconst 1, 1) := by decide +kernel
theorem d_X12_needsBoth_19 : decode M_X12_needsBoth.2.1 19 = .ok (.goto 4, 3) := by decide +kernel
theorem d_X12_needsBoth_22 : decode M_X12_needsBoth.2.1 22 = .ok (.iconst 0, 1) := by decide +kernel
theorem d_X12_needsBoth_23 : decode M_X12_needsBoth.2.1 23 = .ok (.ireturn, 1) := by decide +kernel
set_option maxRecDepth 20000 in
theorem s_X12_needsBoth_0 {d : Nat} {p0 : Int} {p1 : Int} {p2 : Int} {G : Mem} {Q : Int → Mem → Prop}  (h : Ct d M_X12_needsWord NT 0 0 (some lay) [(2, 311), (1, p0)] G (fun r2 G1 => (InR r2) ∧ ((r2 = 0) → Q 0 G1) ∧ (¬ (r2 = 0) → Ct d M_X12_needsNumber NT 0 0 (some lay) [(2, 311), (0, p1), (0, p2)] G1 (fun r6 G5 => (InR r6) ∧ ((r6 = 0) → Q 0 G5) ∧ (¬ (r6 = 0) → Q 1 G5))))) : Rn (d + 1) M_X12_needsBoth zN 0 [(0, (2, 311)), (1, (1, p0)), (3, (0, p1)), (4, (0, p2))] [] G Q := by
  refine r_aload_n d_X12_needsBoth_0 0 rfl rfl ?_
  refine r_lload_n d_X12_needsBoth_1 1 rfl rfl ?_
  refine r_callV0 (M' := M_X12_needsWord) (ci := 12) [(1, p0)] d_X12_needsBoth_2 cl_X12_315 rfl (Nat.le_of_ble_eq_true rfl) (by decide) rfl (bs_ob bs_12) ?_
  refine Ct.mono h (fun r2 G1 h => ?_)
  show Rn _ M_X12_needsBoth zN 5 [(0, (2, 311)), (1, (1, p0)), (3, (0, p1)), (4, (0, p2))] [(0, r2)] G1 Q
  obtain ⟨h3, h⟩ := h
  refine r_if_eq (tgt := 22) d_X12_needsBoth_5 (by decide) h3 (fun c4 => ?_) (fun c4 => ?_)
  · replace h := h.1 c4
    refine r_iconst d_X12_needsBoth_22 ?_
    exact r_zreturn d_X12_needsBoth_23 rfl ⟨rfl, Nat.le_refl _, Nat.le_refl _⟩ (by decide) h
  · replace h := h.2 c4
    refine r_aload_n d_X12_needsBoth_8 0 rfl rfl ?_
    refine r_iload_n d_X12_needsBoth_9 2 rfl rfl ?_
    refine r_iload d_X12_needsBoth_10 3 rfl ?_
    refine r_callV0 (M' := M_X12_needsNumber) (ci := 12) [(0, p1), (0, p2)] d_X12_needsBoth_12 cl_X12_318 rfl (Nat.le_of_ble_eq_true rfl) (by decide) rfl (bs_ob bs_12) ?_
    refine Ct.mono h (fun r6 G5 h => ?_)
    show Rn _ M_X12_needsBoth zN 15 [(0, (2, 311)), (1, (1, p0)), (3, (0, p1)), (4, (0, p2))] [(0, r6)] G5 Q
    obtain ⟨h7, h⟩ := h
    refine r_if_eq (tgt := 22) d_X12_needsBoth_15 (by decide) h7 (fun c8 => ?_) (fun c8 => ?_)
    · replace h := h.1 c8
      refine r_iconst d_X12_needsBoth_22 ?_
      exact r_zreturn d_X12_needsBoth_23 rfl ⟨rfl, Nat.le_refl _, Nat.le_refl _⟩ (by decide) h
    · replace h := h.2 c8
      refine r_iconst d_X12_needsBoth_18 ?_
      refine r_goto (tgt := 23) d_X12_needsBoth_19 (by decide) ?_
      exact r_zreturn d_X12_needsBoth_23 rfl ⟨rfl, Nat.le_refl _, Nat.le_refl _⟩ (by decide) h
theorem d_X12_ends_0 : decode M_X12_ends.2.1 0 = .ok (.aload_n 0, 1) := by decide +kernel
theorem d_X12_ends_1 : decode M_X12_ends.2.1 1 = .ok (.bipush 59, 2) := by decide +kernel
theorem d_X12_ends_3 : decode M_X12_ends.2.1 3 = .ok (.invokevirtual 240, 3) := by decide +kernel
theorem d_X12_ends_6 : decode M_X12_ends.2.1 6 = .ok (.ifCond .ne 9, 3) := by decide +kernel
theorem d_X12_ends_9 : decode M_X12_ends.2.1 9 = .ok (.aload_n 0, 1) := by decide +kernel
theorem d_X12_ends_10 : decode M_X12_ends.2.1 10 = .ok (.iconst 1, 1) := by decide +kernel
theorem d_X12_ends_11 : decode M_X12_ends.2.1 11 = .ok (.invokevirtual 244, 3) := by decide +kernel
theorem d_X12_ends_14 : decode M_X12_ends.2.1 14 = .ok (.ireturn, 1) := by decide +kernel
theorem d_X12_ends_15 : decode M_X12_ends.2.1 15 = .ok (.aload_n 0, 1) := by decide +kernel
theorem d_X12_ends_16 : decode M_X12_ends.2.1 16 = .ok (.invokevirtual 250, 3) := by decide +kernel
theorem d_X12_ends_19 : decode M_X12_ends.2.1 19 = .ok (.iconst 1, 1) := by decide +kernel
theorem d_X12_ends_20 : decode M_X12_ends.2.1 20 = .ok (.ireturn, 1) := by decide +kernel
set_option maxRecDepth 20000 in
theorem s_X12_ends_0 {d : Nat}  {G : Mem} {Q : Int → Mem → Prop}  (h : Ct d M_X12_isSign NT 0 0 (some lay) [(2, 311), (0, 59)] G (fun r2 G1 => (InR r2) ∧ ((r2 ≠ 0) → Ct d M_X12_nextToken NT 0 0 (some lay) [(2, 311)] G1 (fun r6 G5 => Q 1 G5)) ∧ (¬ (r2 ≠ 0) → Ct d M_X12_fails NT 0 0 (some lay) [(2, 311), (0, 1)] G1 (fun r8 G7 => (r8 = 0 ∨ r8 = 1) ∧ Q r8 G7)))) : Rn (d + 1) M_X12_ends zN 0 [(0, (2, 311))] [] G Q := by
  refine r_aload_n d_X12_ends_0 0 rfl rfl ?_
  refine r_bipush d_X12_ends_1 (by decide +kernel) ?_
  refine r_callV0 (M' := M_X12_isSign) (ci := 12) [(0, 59)] d_X12_ends_3 cl_X12_240 rfl (Nat.le_of_ble_eq_true rfl) (by decide) rfl (bs_ob bs_12) ?_
  refine Ct.mono h (fun r2 G1 h => ?_)
  show Rn _ M_X12_ends zN 6 [(0, (2, 311))] [(0, r2)] G1 Q
  obtain ⟨h3, h⟩ := h
  refine r_if_ne (tgt := 15) d_X12_ends_6 (by decide) h3 (fun c4 => ?_) (fun c4 => ?_)
  · replace h := h.1 c4
    refine r_aload_n d_X12_ends_15 0 rfl rfl ?_
    refine r_callV0 (M' := M_X12_nextToken) (ci := 12) [] d_X12_ends_16 cl_X12_250 rfl (Nat.le_of_ble_eq_true rfl) (by decide) rfl (bs_ob bs_12) ?_
    refine Ct.mono h (fun r6 G5 h => ?_)
    show Rn _ M_X12_ends zN 19 [(0, (2, 311))] [] G5 Q
    refine r_iconst d_X12_ends_19 ?_
    exact r_zreturn d_X12_ends_20 rfl ⟨rfl, Nat.le_refl _, Nat.le_refl _⟩ (by decide) h
  · replace h := h.2 c4
    refine r_aload_n d_X12_ends_9 0 rfl rfl ?_
    refine r_iconst d_X12_ends_10 ?_
    refine r_callV0 (M' := M_X12_fails) (ci := 12) [(0, 1)] d_X12_ends_11 cl_X12_244 rfl (Nat.le_of_ble_eq_true rfl) (by decide) rfl (bs_ob bs_12) ?_
    refine Ct.mono h (fun r8 G7 h => ?_)
    show Rn _ M_X12_ends zN 14 [(0, (2, 311))] [(0, r8)] G7 Q
    exact r_zreturn d_X12_ends_14 rfl ⟨rfl, Nat.le_refl _, Nat.le_refl _⟩ h.1 h.2
theorem d_X12_kindAt_0 : decode M_X12_kindAt.2.1 0 = .ok (.aload_n 0, 1) := by decide +kernel
theorem d_X12_kindAt_1 : decode M_X12_kindAt.2.1 1 = .ok (.ldc2_w 298, 3) := by decide +kernel
theorem d_X12_kindAt_4 : decode M_X12_kindAt.2.1 4 = .ok (.invokevirtual 236, 3) := by decide +kernel
theorem d_X12_kindAt_7 : decode M_X12_kindAt.2.1 7 = .ok (.ifCond .eq 7, 3) := by decide +kernel
theorem d_X12_kindAt_10 : decode M_X12_kindAt.2.1 10 = .ok (.iconst 0, 1) := by decide +kernel
theorem d_X12_kindAt_11 : decode M_X12_kindAt.2.1 11 = .ok (.goto 60, 3) := by decide +kernel
theorem d_X12_kindAt_14 : decode M_X12_kindAt.2.1 14 = .ok (.aload_n 0, 1) := by decide +kernel
theorem d_X12_kindAt_15 : decode M_X12_kindAt.2.1 15 = .ok (.ldc2_w 300, 3) := by decide +kernel
theorem d_X12_kindAt_18 : decode M_X12_kindAt.2.1 18 = .ok (.invokevirtual 236, 3) := by decide +kernel
theorem d_X12_kindAt_21 : decode M_X12_kindAt.2.1 21 = .ok (.ifCond .eq 7, 3) := by decide +kernel
theorem d_X12_kindAt_24 : decode M_X12_kindAt.2.1 24 = .ok (.iconst 1, 1) := by decide +kernel
theorem d_X12_kindAt_25 : decode M_X12_kindAt.2.1 25 = .ok (.goto 46, 3) := by decide +kernel
theorem d_X12_kindAt_28 : decode M_X12_kindAt.2.1 28 = .ok (.aload_n 0, 1) := by decide +kernel
theorem d_X12_kindAt_29 : decode M_X12_kindAt.2.1 29 = .ok (.ldc2_w 302, 3) := by decide +kernel
theorem d_X12_kindAt_32 : decode M_X12_kindAt.2.1 32 = .ok (.invokevirtual 236, 3) := by decide +kernel
theorem d_X12_kindAt_35 : decode M_X12_kindAt.2.1 35 = .ok (.ifCond .eq 7, 3) := by decide +kernel
theorem d_X12_kindAt_38 : decode M_X12_kindAt.2.1 38 = .ok (.iconst 2, 1) := by decide +kernel
theorem d_X12_kindAt_39 : decode M_X12_kindAt.2.1 39 = .ok (.goto 32, 3) := by decide +kernel
theorem d_X12_kindAt_42 : decode M_X12_kindAt.2.1 42 = .ok (.aload_n 0, 1) := by decide +kernel
theorem d_X12_kindAt_43 : decode M_X12_kindAt.2.1 43 = .ok (.ldc2_w 304, 3) := by decide +kernel
theorem d_X12_kindAt_46 : decode M_X12_kindAt.2.1 46 = .ok (.invokevirtual 236, 3) := by decide +kernel
theorem d_X12_kindAt_49 : decode M_X12_kindAt.2.1 49 = .ok (.ifCond .eq 7, 3) := by decide +kernel
theorem d_X12_kindAt_52 : decode M_X12_kindAt.2.1 52 = .ok (.iconst 3, 1) := by decide +kernel
theorem d_X12_kindAt_53 : decode M_X12_kindAt.2.1 53 = .ok (.goto 18, 3) := by decide +kernel
theorem d_X12_kindAt_56 : decode M_X12_kindAt.2.1 56 = .ok (.aload_n 0, 1) := by decide +kernel
theorem d_X12_kindAt_57 : decode M_X12_kindAt.2.1 57 = .ok (.ldc2_w 306, 3) := by decide +kernel
theorem d_X12_kindAt_60 : decode M_X12_kindAt.2.1 60 = .ok (.invokevirtual 236, 3) := by decide +kernel
theorem d_X12_kindAt_63 : decode M_X12_kindAt.2.1 63 = .ok (.ifCond .eq 7, 3) := by decide +kernel
theorem d_X12_kindAt_66 : decode M_X12_kindAt.2.1 66 = .ok (.iconst 4, 1) := by decide +kernel
theorem d_X12_kindAt_67 : decode M_X12_kindAt.2.1 67 = .ok (.goto 4, 3) := by decide +kernel
theorem d_X12_kindAt_70 : decode M_X12_kindAt.2.1 70 = .ok (.iconst (-1), 1) := by decide +kernel
theorem d_X12_kindAt_71 : decode M_X12_kindAt.2.1 71 = .ok (.ireturn, 1) := by decide +kernel
set_option maxRecDepth 20000 in
theorem s_X12_kindAt_0 {d : Nat}  {G : Mem} {Q : Int → Mem → Prop}  (h : Ct d M_X12_isWord NT 0 0 (some lay) [(2, 311), (1, 8740238)] G (fun r2 G1 => (InR r2) ∧ ((r2 = 0) → Ct d M_X12_isWord NT 0 0 (some lay) [(2, 311), (1, 1813028985)] G1 (fun r6 G5 => (InR r6) ∧ ((r6 = 0) → Ct d M_X12_isWord NT 0 0 (some lay) [(2, 311), (1, 6559778)] G5 (fun r10 G9 => (InR r10) ∧ ((r10 = 0) → Ct d M_X12_isWord NT 0 0 (some lay) [(2, 311), (1, 394725)] G9 (fun r14 G13 => (InR r14) ∧ ((r14 = 0) → Ct d M_X12_isWord NT 0 0 (some lay) [(2, 311), (1, 2401198578)] G13 (fun r18 G17 => (InR r18) ∧ ((r18 = 0) → Q (-1) G17) ∧ (¬ (r18 = 0) → Q 4 G17))) ∧ (¬ (r14 = 0) → Q 3 G13))) ∧ (¬ (r10 = 0) → Q 2 G9))) ∧ (¬ (r6 = 0) → Q 1 G5))) ∧ (¬ (r2 = 0) → Q 0 G1))) : Rn (d + 1) M_X12_kindAt zN 0 [(0, (2, 311))] [] G Q := by
  refine r_aload_n d_X12_kindAt_0 0 rfl rfl ?_
  refine r_ldc2 (x := 8740238) d_X12_kindAt_1 cst_X12_298 ?_
  refine r_callV0 (M' := M_X12_isWord) (ci := 12) [(1, 8740238)] d_X12_kindAt_4 cl_X12_236 rfl (Nat.le_of_ble_eq_true rfl) (by decide) rfl (bs_ob bs_12) ?_
  refine Ct.mono h (fun r2 G1 h => ?_)
  show Rn _ M_X12_kindAt zN 7 [(0, (2, 311))] [(0, r2)] G1 Q
  obtain ⟨h3, h⟩ := h
  refine r_if_eq (tgt := 14) d_X12_kindAt_7 (by decide) h3 (fun c4 => ?_) (fun c4 => ?_)
  · replace h := h.1 c4
    refine r_aload_n d_X12_kindAt_14 0 rfl rfl ?_
    refine r_ldc2 (x := 1813028985) d_X12_kindAt_15 cst_X12_300 ?_
    refine r_callV0 (M' := M_X12_isWord) (ci := 12) [(1, 1813028985)] d_X12_kindAt_18 cl_X12_236 rfl (Nat.le_of_ble_eq_true rfl) (by decide) rfl (bs_ob bs_12) ?_
    refine Ct.mono h (fun r6 G5 h => ?_)
    show Rn _ M_X12_kindAt zN 21 [(0, (2, 311))] [(0, r6)] G5 Q
    obtain ⟨h7, h⟩ := h
    refine r_if_eq (tgt := 28) d_X12_kindAt_21 (by decide) h7 (fun c8 => ?_) (fun c8 => ?_)
    · replace h := h.1 c8
      refine r_aload_n d_X12_kindAt_28 0 rfl rfl ?_
      refine r_ldc2 (x := 6559778) d_X12_kindAt_29 cst_X12_302 ?_
      refine r_callV0 (M' := M_X12_isWord) (ci := 12) [(1, 6559778)] d_X12_kindAt_32 cl_X12_236 rfl (Nat.le_of_ble_eq_true rfl) (by decide) rfl (bs_ob bs_12) ?_
      refine Ct.mono h (fun r10 G9 h => ?_)
      show Rn _ M_X12_kindAt zN 35 [(0, (2, 311))] [(0, r10)] G9 Q
      obtain ⟨h11, h⟩ := h
      refine r_if_eq (tgt := 42) d_X12_kindAt_35 (by decide) h11 (fun c12 => ?_) (fun c12 => ?_)
      · replace h := h.1 c12
        refine r_aload_n d_X12_kindAt_42 0 rfl rfl ?_
        refine r_ldc2 (x := 394725) d_X12_kindAt_43 cst_X12_304 ?_
        refine r_callV0 (M' := M_X12_isWord) (ci := 12) [(1, 394725)] d_X12_kindAt_46 cl_X12_236 rfl (Nat.le_of_ble_eq_true rfl) (by decide) rfl (bs_ob bs_12) ?_
        refine Ct.mono h (fun r14 G13 h => ?_)
        show Rn _ M_X12_kindAt zN 49 [(0, (2, 311))] [(0, r14)] G13 Q
        obtain ⟨h15, h⟩ := h
        refine r_if_eq (tgt := 56) d_X12_kindAt_49 (by decide) h15 (fun c16 => ?_) (fun c16 => ?_)
        · replace h := h.1 c16
          refine r_aload_n d_X12_kindAt_56 0 rfl rfl ?_
          refine r_ldc2 (x := 2401198578) d_X12_kindAt_57 cst_X12_306 ?_
          refine r_callV0 (M' := M_X12_isWord) (ci := 12) [(1, 2401198578)] d_X12_kindAt_60 cl_X12_236 rfl (Nat.le_of_ble_eq_true rfl) (by decide) rfl (bs_ob bs_12) ?_
          refine Ct.mono h (fun r18 G17 h => ?_)
          show Rn _ M_X12_kindAt zN 63 [(0, (2, 311))] [(0, r18)] G17 Q
          obtain ⟨h19, h⟩ := h
          refine r_if_eq (tgt := 70) d_X12_kindAt_63 (by decide) h19 (fun c20 => ?_) (fun c20 => ?_)
          · replace h := h.1 c20
            refine r_iconst d_X12_kindAt_70 ?_
            exact r_ireturn d_X12_kindAt_71 rfl ⟨rfl, Nat.le_refl _, Nat.le_refl _⟩ h
          · replace h := h.2 c20
            refine r_iconst d_X12_kindAt_66 ?_
            refine r_goto (tgt := 71) d_X12_kindAt_67 (by decide) ?_
            exact r_ireturn d_X12_kindAt_71 rfl ⟨rfl, Nat.le_refl _, Nat.le_refl _⟩ h
        · replace h := h.2 c16
          refine r_iconst d_X12_kindAt_52 ?_
          refine r_goto (tgt := 71) d_X12_kindAt_53 (by decide) ?_
          exact r_ireturn d_X12_kindAt_71 rfl ⟨rfl, Nat.le_refl _, Nat.le_refl _⟩ h
      · replace h := h.2 c12
        refine r_iconst d_X12_kindAt_38 ?_
        refine r_goto (tgt := 71) d_X12_kindAt_39 (by decide) ?_
        exact r_ireturn d_X12_kindAt_71 rfl ⟨rfl, Nat.le_refl _, Nat.le_refl _⟩ h
    · replace h := h.2 c8
      refine r_iconst d_X12_kindAt_24 ?_
      refine r_goto (tgt := 71) d_X12_kindAt_25 (by decide) ?_
      exact r_ireturn d_X12_kindAt_71 rfl ⟨rfl, Nat.le_refl _, Nat.le_refl _⟩ h
  · replace h := h.2 c4
    refine r_iconst d_X12_kindAt_10 ?_
    refine r_goto (tgt := 71) d_X12_kindAt_11 (by decide) ?_
    exact r_ireturn d_X12_kindAt_71 rfl ⟨rfl, Nat.le_refl _, Nat.le_refl _⟩ h
theorem d_X12_isTaken_0 : decode M_X12_isTaken.2.1 0 = .ok (.iconst 5, 1) := by decide +kernel
theorem d_X12_isTaken_1 : decode M_X12_isTaken.2.1 1 = .ok (.istore_n 2, 1) := by decide +kernel
theorem d_X12_isTaken_2 : decode M_X12_isTaken.2.1 2 = .ok (.iload_n 2, 1) := by decide +kernel
theorem d_X12_isTaken_3 : decode M_X12_isTaken.2.1 3 = .ok (.iconst 5, 1) := by decide +kernel
theorem d_X12_isTaken_4 : decode M_X12_isTaken.2.1 4 = .ok (.aload_n 0, 1) := by decide +kernel
theorem d_X12_isTaken_5 : decode M_X12_isTaken.2.1 5 = .ok (.getfield 13, 3) := by decide +kernel
theorem d_X12_isTaken_8 : decode M_X12_isTaken.2.1 8 = .ok (.bipush 20, 2) := by decide +kernel
theorem d_X12_isTaken_10 : decode M_X12_isTaken.2.1 10 = .ok (.iaload, 1) := by decide +kernel
theorem d_X12_isTaken_11 : decode M_X12_isTaken.2.1 11 = .ok (.iadd, 1) := by decide +kernel
theorem d_X12_isTaken_12 : decode M_X12_isTaken.2.1 12 = .ok (.if_icmp .ge 21, 3) := by decide +kernel
theorem d_X12_isTaken_15 : decode M_X12_isTaken.2.1 15 = .ok (.aload_n 0, 1) := by decide +kernel
theorem d_X12_isTaken_16 : decode M_X12_isTaken.2.1 16 = .ok (.getfield 23, 3) := by decide +kernel
theorem d_X12_isTaken_19 : decode M_X12_isTaken.2.1 19 = .ok (.iload_n 2, 1) := by decide +kernel
theorem d_X12_isTaken_20 : decode M_X12_isTaken.2.1 20 = .ok (.iaload, 1) := by decide +kernel
theorem d_X12_isTaken_21 : decode M_X12_isTaken.2.1 21 = .ok (.iload_n 1, 1) := by decide +kernel
theorem d_X12_isTaken_22 : decode M_X12_isTaken.2.1 22 = .ok (.if_icmp .ne 5, 3) := by decide +kernel
theorem d_X12_isTaken_25 : decode M_X12_isTaken.2.1 25 = .ok (.iconst 1, 1) := by decide +kernel
theorem d_X12_isTaken_26 : decode M_X12_isTaken.2.1 26 = .ok (.ireturn, 1) := by decide +kernel
theorem d_X12_isTaken_27 : decode M_X12_isTaken.2.1 27 = .ok (.iinc 2 1, 3) := by decide +kernel
theorem d_X12_isTaken_30 : decode M_X12_isTaken.2.1 30 = .ok (.goto (-28), 3) := by decide +kernel
theorem d_X12_isTaken_33 : decode M_X12_isTaken.2.1 33 = .ok (.iconst 0, 1) := by decide +kernel
theorem d_X12_isTaken_34 : decode M_X12_isTaken.2.1 34 = .ok (.ireturn, 1) := by decide +kernel
set_option maxRecDepth 20000 in
theorem s_X12_isTaken_0 {d : Nat} {p0 : Int} {G : Mem} {Q : Int → Mem → Prop}  (h : Rn d M_X12_isTaken zN 2 [(0, (2, 311)), (1, (0, p0)), (2, (0, 5))] [] G Q) : Rn d M_X12_isTaken zN 0 [(0, (2, 311)), (1, (0, p0))] [] G Q := by
  refine r_iconst d_X12_isTaken_0 ?_
  refine r_istore_n (ls1 := [(2, (0, 5)), (0, (2, 311)), (1, (0, p0))]) d_X12_isTaken_1 rfl (by decide) rfl ?_
  exact Rn.sub [1, 2, 0] rfl h
set_option maxRecDepth 20000 in
theorem s_X12_isTaken_2 {d : Nat} {x1 : Int} {x2 : Int} {G : Mem} {Q : Int → Mem → Prop}  (h : (InR x2) ∧ (InR (5 + (G 313 20))) ∧ (((5 + (G 313 20)) ≤ x2) → Q 0 G) ∧ (¬ ((5 + (G 313 20)) ≤ x2) → (0 ≤ x2 ∧ x2 < 30) ∧ ((InR (G 316 x2)) ∧ (InR x1) ∧ (((G 316 x2) ≠ x1) → Rn d M_X12_isTaken zN 2 [(0, (2, 311)), (1, (0, x1)), (2, (0, (x2 + 1)))] [] G Q) ∧ (¬ ((G 316 x2) ≠ x1) → Q 1 G)))) : Rn d M_X12_isTaken zN 2 [(0, (2, 311)), (1, (0, x1)), (2, (0, x2))] [] G Q := by
  refine r_iload_n d_X12_isTaken_2 2 rfl rfl ?_
  refine r_iconst d_X12_isTaken_3 ?_
  refine r_aload_n d_X12_isTaken_4 0 rfl rfl ?_
  refine r_getL (v := 313) 12 10 10 rfl d_X12_isTaken_5 fl_X12_13 (by decide) (bs_ob bs_12) (ly_12_10 bs_12).1 (ly_12_10 bs_12).2.1 ?_
  refine r_bipush d_X12_isTaken_8 (by decide +kernel) ?_
  refine r_iaload d_X12_isTaken_10 (ly_12_10 bs_12).2.2 (by decide) ?_
  refine r_iadd d_X12_isTaken_11 ?_
  obtain ⟨h1, h⟩ := h
  obtain ⟨h2, h⟩ := h
  refine r_icmp_ge (tgt := 33) d_X12_isTaken_12 (by decide) h1 h2 (fun c3 => ?_) (fun c3 => ?_)
  · replace h := h.1 c3
    refine r_iconst d_X12_isTaken_33 ?_
    exact r_zreturn d_X12_isTaken_34 rfl ⟨rfl, Nat.le_refl _, Nat.le_refl _⟩ (by decide) h
  · replace h := h.2 c3
    refine r_aload_n d_X12_isTaken_15 0 rfl rfl ?_
    refine r_getL (v := 316) 12 13 13 rfl d_X12_isTaken_16 fl_X12_23 (by decide) (bs_ob bs_12) (ly_12_13 bs_12).1 (ly_12_13 bs_12).2.1 ?_
    refine r_iload_n d_X12_isTaken_19 2 rfl rfl ?_
    obtain ⟨h4, h⟩ := h
    refine r_iaload d_X12_isTaken_20 (ly_12_13 bs_12).2.2 h4 ?_
    refine r_iload_n d_X12_isTaken_21 1 rfl rfl ?_
    obtain ⟨h5, h⟩ := h
    obtain ⟨h6, h⟩ := h
    refine r_icmp_ne (tgt := 27) d_X12_isTaken_22 (by decide) h5 h6 (fun c7 => ?_) (fun c7 => ?_)
    · replace h := h.1 c7
      refine r_iinc (ls1 := [(2, (0, (x2 + 1))), (0, (2, 311)), (1, (0, x1))]) d_X12_isTaken_27 2 rfl (by decide) rfl ?_
      refine r_goto (tgt := 2) d_X12_isTaken_30 (by decide) ?_
      exact Rn.sub [1, 2, 0] rfl h
    · replace h := h.2 c7
      refine r_iconst d_X12_isTaken_25 ?_
      exact r_zreturn d_X12_isTaken_26 rfl ⟨rfl, Nat.le_refl _, Nat.le_refl _⟩ (by decide) h
theorem d_X12_readsSitter_0 : decode M_X12_readsSitter.2.1 0 = .ok (.aload_n 0, 1) := by decide +kernel
theorem d_X12_readsSitter_1 : decode M_X12_readsSitter.2.1 1 = .ok (.invokevirtual 250, 3) := by decide +kernel
theorem d_X12_readsSitter_4 : decode M_X12_readsSitter.2.1 4 = .ok (.aload_n 0, 1) := by decide +kernel
theorem d_X12_readsSitter_5 : decode M_X12_readsSitter.2.1 5 = .ok (.invokevirtual 322, 3) := by decide +kernel
theorem d_X12_readsSitter_8 : decode M_X12_readsSitter.2.1 8 = .ok (.ifCond .eq 9, 3) := by decide +kernel
theorem d_X12_readsSitter_11 : decode M_X12_readsSitter.2.1 11 = .ok (.aload_n 0, 1) := by decide +kernel
theorem d_X12_readsSitter_12 : decode M_X12_readsSitter.2.1 12 = .ok (.iconst 1, 1) := by decide +kernel
theorem d_X12_readsSitter_13 : decode M_X12_readsSitter.2.1 13 = .ok (.invokevirtual 244, 3) := by decide +kernel
theorem d_X12_readsSitter_16 : decode M_X12_readsSitter.2.1 16 = .ok (.ireturn, 1) := by decide +kernel
theorem d_X12_readsSitter_17 : decode M_X12_readsSitter.2.1 17 = .ok (.iconst 5, 1) := by decide +kernel
theorem d_X12_readsSitter_18 : decode M_X12_readsSitter.2.1 18 = .ok (.aload_n 0, 1) := by decide +kernel
theorem d_X12_readsSitter_19 : decode M_X12_readsSitter.2.1 19 = .ok (.getfield 13, 3) := by decide +kernel
theorem d_X12_readsSitter_22 : decode M_X12_readsSitter.2.1 22 = .ok (.bipush 20, 2) := by decide +kernel
theorem d_X12_readsSitter_24 : decode M_X12_readsSitter.2.1 24 = .ok (.iaload, 1) := by decide +kernel
theorem d_X12_readsSitter_25 : decode M_X12_readsSitter.2.1 25 = .ok (.iadd, 1) := by decide +kernel
theorem d_X12_readsSitter_26 : decode M_X12_readsSitter.2.1 26 = .ok (.istore_n 1, 1) := by decide +kernel
theorem d_X12_readsSitter_27 : decode M_X12_readsSitter.2.1 27 = .ok (.iconst 5, 1) := by decide +kernel
theorem d_X12_readsSitter_28 : decode M_X12_readsSitter.2.1 28 = .ok (.istore_n 2, 1) := by decide +kernel
theorem d_X12_readsSitter_29 : decode M_X12_readsSitter.2.1 29 = .ok (.iload_n 2, 1) := by decide +kernel
theorem d_X12_readsSitter_30 : decode M_X12_readsSitter.2.1 30 = .ok (.iload_n 1, 1) := by decide +kernel
theorem d_X12_readsSitter_31 : decode M_X12_readsSitter.2.1 31 = .ok (.if_icmp .ge 31, 3) := by decide +kernel
theorem d_X12_readsSitter_34 : decode M_X12_readsSitter.2.1 34 = .ok (.aload_n 0, 1) := by decide +kernel
theorem d_X12_readsSitter_35 : decode M_X12_readsSitter.2.1 35 = .ok (.getfield 16, 3) := by decide +kernel
theorem d_X12_readsSitter_38 : decode M_X12_readsSitter.2.1 38 = .ok (.iload_n 2, 1) := by decide +kernel
theorem d_X12_readsSitter_39 : decode M_X12_readsSitter.2.1 39 = .ok (.iconst 5, 1) := by decide +kernel
theorem d_X12_readsSitter_40 : decode M_X12_readsSitter.2.1 40 = .ok (.isub, 1) := by decide +kernel
theorem d_X12_readsSitter_41 : decode M_X12_readsSitter.2.1 41 = .ok (.laload, 1) := by decide +kernel
theorem d_X12_readsSitter_42 : decode M_X12_readsSitter.2.1 42 = .ok (.aload_n 0, 1) := by decide +kernel
theorem d_X12_readsSitter_43 : decode M_X12_readsSitter.2.1 43 = .ok (.getfield 187, 3) := by decide +kernel
theorem d_X12_readsSitter_46 : decode M_X12_readsSitter.2.1 46 = .ok (.lcmp, 1) := by decide +kernel
theorem d_X12_readsSitter_47 : decode M_X12_readsSitter.2.1 47 = .ok (.ifCond .ne 9, 3) := by decide +kernel
theorem d_X12_readsSitter_50 : decode M_X12_readsSitter.2.1 50 = .ok (.aload_n 0, 1) := by decide +kernel
theorem d_X12_readsSitter_51 : decode M_X12_readsSitter.2.1 51 = .ok (.iconst 3, 1) := by decide +kernel
theorem d_X12_readsSitter_52 : decode M_X12_readsSitter.2.1 52 = .ok (.invokevirtual 244, 3) := by decide +kernel
theorem d_X12_readsSitter_55 : decode M_X12_readsSitter.2.1 55 = .ok (.ireturn, 1) := by decide +kernel
theorem d_X12_readsSitter_56 : decode M_X12_readsSitter.2.1 56 = .ok (.iinc 2 1, 3) := by decide +kernel
theorem d_X12_readsSitter_59 : decode M_X12_readsSitter.2.1 59 = .ok (.goto (-30), 3) := by decide +kernel
theorem d_X12_readsSitter_62 : decode M_X12_readsSitter.2.1 62 = .ok (.aload_n 0, 1) := by decide +kernel
theorem d_X12_readsSitter_63 : decode M_X12_readsSitter.2.1 63 = .ok (.getfield 187, 3) := by decide +kernel
theorem d_X12_readsSitter_66 : decode M_X12_readsSitter.2.1 66 = .ok (.lstore_n 2, 1) := by decide +kernel
theorem d_X12_readsSitter_67 : decode M_X12_readsSitter.2.1 67 = .ok (.aload_n 0, 1) := by decide +kernel
theorem d_X12_readsSitter_68 : decode M_X12_readsSitter.2.1 68 = .ok (.invokevirtual 250, 3) := by decide +kernel
theorem d_X12_readsSitter_71 : decode M_X12_readsSitter.2.1 71 = .ok (.aload_n 0, 1) := by decide +kernel
theorem d_X12_readsSitter_72 : decode M_X12_readsSitter.2.1 72 = .ok (.invokevirtual 326, 3) := by decide +kernel
theorem d_X12_readsSitter_75 : decode M_X12_readsSitter.2.1 75 = .ok (.istore 4, 2) := by decide +kernel
theorem d_X12_readsSitter_77 : decode M_X12_readsSitter.2.1 77 = .ok (.iload 4, 2) := by decide +kernel
theorem d_X12_readsSitter_79 : decode M_X12_readsSitter.2.1 79 = .ok (.ifCond .ge 9, 3) := by decide +kernel
theorem d_X12_readsSitter_82 : decode M_X12_readsSitter.2.1 82 = .ok (.aload_n 0, 1) := by decide +kernel
theorem d_X12_readsSitter_83 : decode M_X12_readsSitter.2.1 83 = .ok (.iconst 1, 1) := by decide +kernel
theorem d_X12_readsSitter_84 : decode M_X12_readsSitter.2.1 84 = .ok (.invokevirtual 244, 3) := by decide +kernel
theorem d_X12_readsSitter_87 : decode M_X12_readsSitter.2.1 87 = .ok (.ireturn, 1) := by decide +kernel
theorem d_X12_readsSitter_88 : decode M_X12_readsSitter.2.1 88 = .ok (.aload_n 0, 1) := by decide +kernel
theorem d_X12_readsSitter_89 : decode M_X12_readsSitter.2.1 89 = .ok (.invokevirtual 250, 3) := by decide +kernel
theorem d_X12_readsSitter_92 : decode M_X12_readsSitter.2.1 92 = .ok (.aload_n 0, 1) := by decide +kernel
theorem d_X12_readsSitter_93 : decode M_X12_readsSitter.2.1 93 = .ok (.ldc2_w 272, 3) := by decide +kernel
theorem d_X12_readsSitter_96 : decode M_X12_readsSitter.2.1 96 = .ok (.invokevirtual 315, 3) := by decide +kernel
theorem d_X12_readsSitter_99 : decode M_X12_readsSitter.2.1 99 = .ok (.ifCond .ne 5, 3) := by decide +kernel
theorem d_X12_readsSitter_102 : decode M_X12_readsSitter.2.1 102 = .ok (.iconst 0, 1) := by decide +kernel
theorem d_X12_readsSitter_103 : decode M_X12_readsSitter.2.1 103 = .ok (.ireturn, 1) := by decide +kernel
theorem d_X12_readsSitter_104 : decode M_X12_readsSitter.2.1 104 = .ok (.aload_n 0, 1) := by decide +kernel
theorem d_X12_readsSitter_105 : decode M_X12_readsSitter.2.1 105 = .ok (.getfield 194, 3) := by decide +kernel
theorem d_X12_readsSitter_108 : decode M_X12_readsSitter.2.1 108 = .ok (.iconst 2, 1) := by decide +kernel
theorem d_X12_readsSitter_109 : decode M_X12_readsSitter.2.1 109 = .ok (.if_icmp .ne 40, 3) := by decide +kernel
theorem d_X12_readsSitter_112 : decode M_X12_readsSitter.2.1 112 = .ok (.aload_n 0, 1) := by decide +kernel
theorem d_X12_readsSitter_113 : decode M_X12_readsSitter.2.1 113 = .ok (.getfield 191, 3) := by decide +kernel
theorem d_X12_readsSitter_116 : decode M_X12_readsSitter.2.1 116 = .ok (.iconst 0, 1) := by decide +kernel
theorem d_X12_readsSitter_117 : decode M_X12_readsSitter.2.1 117 = .ok (.aload_n 0, 1) := by decide +kernel
theorem d_X12_readsSitter_118 : decode M_X12_readsSitter.2.1 118 = .ok (.getfield 13, 3) := by decide +kernel
theorem d_X12_readsSitter_121 : decode M_X12_readsSitter.2.1 121 = .ok (.bipush 12, 2) := by decide +kernel
theorem d_X12_readsSitter_123 : decode M_X12_readsSitter.2.1 123 = .ok (.iaload, 1) := by decide +kernel
theorem d_X12_readsSitter_124 : decode M_X12_readsSitter.2.1 124 = .ok (.iconst 1, 1) := by decide +kernel
theorem d_X12_readsSitter_125 : decode M_X12_readsSitter.2.1 125 = .ok (.isub, 1) := by decide +kernel
theorem d_X12_readsSitter_126 : decode M_X12_readsSitter.2.1 126 = .ok (.invokestatic 308, 3) := by decide +kernel
theorem d_X12_readsSitter_129 : decode M_X12_readsSitter.2.1 129 = .ok (.ifCond .eq 20, 3) := by decide +kernel
theorem d_X12_readsSitter_132 : decode M_X12_readsSitter.2.1 132 = .ok (.aload_n 0, 1) := by decide +kernel
theorem d_X12_readsSitter_133 : decode M_X12_readsSitter.2.1 133 = .ok (.aload_n 0, 1) := by decide +kernel
theorem d_X12_readsSitter_134 : decode M_X12_readsSitter.2.1 134 = .ok (.getfield 191, 3) := by decide +kernel
theorem d_X12_readsSitter_137 : decode M_X12_readsSitter.2.1 137 = .ok (.invokevirtual 329, 3) := by decide +kernel
theorem d_X12_readsSitter_140 : decode M_X12_readsSitter.2.1 140 = .ok (.ifCond .eq 9, 3) := by decide +kernel
theorem d_X12_readsSitter_143 : decode M_X12_readsSitter.2.1 143 = .ok (.aload_n 0, 1) := by decide +kernel
theorem d_X12_readsSitter_144 : decode M_X12_readsSitter.2.1 144 = .ok (.iconst 3, 1) := by decide +kernel
theorem d_X12_readsSitter_145 : decode M_X12_readsSitter.2.1 145 = .ok (.invokevirtual 244, 3) := by decide +kernel
theorem d_X12_readsSitter_148 : decode M_X12_readsSitter.2.1 148 = .ok (.ireturn, 1) := by decide +kernel
theorem d_X12_readsSitter_149 : decode M_X12_readsSitter.2.1 149 = .ok (.aload_n 0, 1) := by decide +kernel
theorem d_X12_readsSitter_150 : decode M_X12_readsSitter.2.1 150 = .ok (.iconst 0, 1) := by decide +kernel
theorem d_X12_readsSitter_151 : decode M_X12_readsSitter.2.1 151 = .ok (.aload_n 0, 1) := by decide +kernel
theorem d_X12_readsSitter_152 : decode M_X12_readsSitter.2.1 152 = .ok (.getfield 13, 3) := by decide +kernel
theorem d_X12_readsSitter_155 : decode M_X12_readsSitter.2.1 155 = .ok (.bipush 12, 2) := by decide +kernel
theorem d_X12_readsSitter_157 : decode M_X12_readsSitter.2.1 157 = .ok (.iaload, 1) := by decide +kernel
theorem d_X12_readsSitter_158 : decode M_X12_readsSitter.2.1 158 = .ok (.iconst 1, 1) := by decide +kernel
theorem d_X12_readsSitter_159 : decode M_X12_readsSitter.2.1 159 = .ok (.isub, 1) := by decide +kernel
theorem d_X12_readsSitter_160 : decode M_X12_readsSitter.2.1 160 = .ok (.invokevirtual 318, 3) := by decide +kernel
theorem d_X12_readsSitter_163 : decode M_X12_readsSitter.2.1 163 = .ok (.ifCond .ne 5, 3) := by decide +kernel
theorem d_X12_readsSitter_166 : decode M_X12_readsSitter.2.1 166 = .ok (.iconst 0, 1) := by decide +kernel
theorem d_X12_readsSitter_167 : decode M_X12_readsSitter.2.1 167 = .ok (.ireturn, 1) := by decide +kernel
theorem d_X12_readsSitter_168 : decode M_X12_readsSitter.2.1 168 = .ok (.aload_n 0, 1) := by decide +kernel
theorem d_X12_readsSitter_169 : decode M_X12_readsSitter.2.1 169 = .ok (.getfield 16, 3) := by decide +kernel
theorem d_X12_readsSitter_172 : decode M_X12_readsSitter.2.1 172 = .ok (.iload_n 1, 1) := by decide +kernel
theorem d_X12_readsSitter_173 : decode M_X12_readsSitter.2.1 173 = .ok (.iconst 5, 1) := by decide +kernel
theorem d_X12_readsSitter_174 : decode M_X12_readsSitter.2.1 174 = .ok (.isub, 1) := by decide +kernel
theorem d_X12_readsSitter_175 : decode M_X12_readsSitter.2.1 175 = .ok (.lload_n 2, 1) := by decide +kernel
theorem d_X12_readsSitter_176 : decode M_X12_readsSitter.2.1 176 = .ok (.lastore, 1) := by decide +kernel
theorem d_X12_readsSitter_177 : decode M_X12_readsSitter.2.1 177 = .ok (.aload_n 0, 1) := by decide +kernel
theorem d_X12_readsSitter_178 : decode M_X12_readsSitter.2.1 178 = .ok (.getfield 20, 3) := by decide +kernel
theorem d_X12_readsSitter_181 : decode M_X12_readsSitter.2.1 181 = .ok (.iload_n 1, 1) := by decide +kernel
theorem d_X12_readsSitter_182 : decode M_X12_readsSitter.2.1 182 = .ok (.iload 4, 2) := by decide +kernel
theorem d_X12_readsSitter_184 : decode M_X12_readsSitter.2.1 184 = .ok (.iastore, 1) := by decide +kernel
theorem d_X12_readsSitter_185 : decode M_X12_readsSitter.2.1 185 = .ok (.aload_n 0, 1) := by decide +kernel
theorem d_X12_readsSitter_186 : decode M_X12_readsSitter.2.1 186 = .ok (.getfield 23, 3) := by decide +kernel
theorem d_X12_readsSitter_189 : decode M_X12_readsSitter.2.1 189 = .ok (.iload_n 1, 1) := by decide +kernel
theorem d_X12_readsSitter_190 : decode M_X12_readsSitter.2.1 190 = .ok (.aload_n 0, 1) := by decide +kernel
theorem d_X12_readsSitter_191 : decode M_X12_readsSitter.2.1 191 = .ok (.getfield 312, 3) := by decide +kernel
theorem d_X12_readsSitter_194 : decode M_X12_readsSitter.2.1 194 = .ok (.iastore, 1) := by decide +kernel
theorem d_X12_readsSitter_195 : decode M_X12_readsSitter.2.1 195 = .ok (.aload_n 0, 1) := by decide +kernel
theorem d_X12_readsSitter_196 : decode M_X12_readsSitter.2.1 196 = .ok (.ldc2_w 274, 3) := by decide +kernel
theorem d_X12_readsSitter_199 : decode M_X12_readsSitter.2.1 199 = .ok (.iconst 0, 1) := by decide +kernel
theorem d_X12_readsSitter_200 : decode M_X12_readsSitter.2.1 200 = .ok (.bipush 9, 2) := by decide +kernel
theorem d_X12_readsSitter_202 : decode M_X12_readsSitter.2.1 202 = .ok (.invokevirtual 332, 3) := by decide +kernel
theorem d_X12_readsSitter_205 : decode M_X12_readsSitter.2.1 205 = .ok (.ifCond .ne 5, 3) := by decide +kernel
theorem d_X12_readsSitter_208 : decode M_X12_readsSitter.2.1 208 = .ok (.iconst 0, 1) := by decide +kernel
theorem d_X12_readsSitter_209 : decode M_X12_readsSitter.2.1 209 = .ok (.ireturn, 1) := by decide +kernel
theorem d_X12_readsSitter_210 : decode M_X12_readsSitter.2.1 210 = .ok (.aload_n 0, 1) := by decide +kernel
theorem d_X12_readsSitter_211 : decode M_X12_readsSitter.2.1 211 = .ok (.getfield 26, 3) := by decide +kernel
theorem d_X12_readsSitter_214 : decode M_X12_readsSitter.2.1 214 = .ok (.iload_n 1, 1) := by decide +kernel
theorem d_X12_readsSitter_215 : decode M_X12_readsSitter.2.1 215 = .ok (.aload_n 0, 1) := by decide +kernel
theorem d_X12_readsSitter_216 : decode M_X12_readsSitter.2.1 216 = .ok (.getfield 312, 3) := by decide +kernel
theorem d_X12_readsSitter_219 : decode M_X12_readsSitter.2.1 219 = .ok (.iastore, 1) := by decide +kernel
theorem d_X12_readsSitter_220 : decode M_X12_readsSitter.2.1 220 = .ok (.aload_n 0, 1) := by decide +kernel
theorem d_X12_readsSitter_221 : decode M_X12_readsSitter.2.1 221 = .ok (.ldc2_w 276, 3) := by decide +kernel
theorem d_X12_readsSitter_224 : decode M_X12_readsSitter.2.1 224 = .ok (.iconst 1, 1) := by decide +kernel
theorem d_X12_readsSitter_225 : decode M_X12_readsSitter.2.1 225 = .ok (.bipush 99, 2) := by decide +kernel
theorem d_X12_readsSitter_227 : decode M_X12_readsSitter.2.1 227 = .ok (.invokevirtual 332, 3) := by decide +kernel
theorem d_X12_readsSitter_230 : decode M_X12_readsSitter.2.1 230 = .ok (.ifCond .ne 5, 3) := by decide +kernel
theorem d_X12_readsSitter_233 : decode M_X12_readsSitter.2.1 233 = .ok (.iconst 0, 1) := by decide +kernel
theorem d_X12_readsSitter_234 : decode M_X12_readsSitter.2.1 234 = .ok (.ireturn, 1) := by decide +kernel
theorem d_X12_readsSitter_235 : decode M_X12_readsSitter.2.1 235 = .ok (.aload_n 0, 1) := by decide +kernel
theorem d_X12_readsSitter_236 : decode M_X12_readsSitter.2.1 236 = .ok (.getfield 29, 3) := by decide +kernel
theorem d_X12_readsSitter_239 : decode M_X12_readsSitter.2.1 239 = .ok (.iload_n 1, 1) := by decide +kernel
theorem d_X12_readsSitter_240 : decode M_X12_readsSitter.2.1 240 = .ok (.aload_n 0, 1) := by decide +kernel
theorem d_X12_readsSitter_241 : decode M_X12_readsSitter.2.1 241 = .ok (.getfield 312, 3) := by decide +kernel
theorem d_X12_readsSitter_244 : decode M_X12_readsSitter.2.1 244 = .ok (.iastore, 1) := by decide +kernel
theorem d_X12_readsSitter_245 : decode M_X12_readsSitter.2.1 245 = .ok (.aload_n 0, 1) := by decide +kernel
theorem d_X12_readsSitter_246 : decode M_X12_readsSitter.2.1 246 = .ok (.ldc2_w 278, 3) := by decide +kernel
theorem d_X12_readsSitter_249 : decode M_X12_readsSitter.2.1 249 = .ok (.iconst 1, 1) := by decide +kernel
theorem d_X12_readsSitter_250 : decode M_X12_readsSitter.2.1 250 = .ok (.bipush 99, 2) := by decide +kernel
theorem d_X12_readsSitter_252 : decode M_X12_readsSitter.2.1 252 = .ok (.invokevirtual 332, 3) := by decide +kernel
theorem d_X12_readsSitter_255 : decode M_X12_readsSitter.2.1 255 = .ok (.ifCond .ne 5, 3) := by decide +kernel
theorem d_X12_readsSitter_258 : decode M_X12_readsSitter.2.1 258 = .ok (.iconst 0, 1) := by decide +kernel
theorem d_X12_readsSitter_259 : decode M_X12_readsSitter.2.1 259 = .ok (.ireturn, 1) := by decide +kernel
theorem d_X12_readsSitter_260 : decode M_X12_readsSitter.2.1 260 = .ok (.aload_n 0, 1) := by decide +kernel
theorem d_X12_readsSitter_261 : decode M_X12_readsSitter.2.1 261 = .ok (.getfield 32, 3) := by decide +kernel
theorem d_X12_readsSitter_264 : decode M_X12_readsSitter.2.1 264 = .ok (.iload_n 1, 1) := by decide +kernel
theorem d_X12_readsSitter_265 : decode M_X12_readsSitter.2.1 265 = .ok (.aload_n 0, 1) := by decide +kernel
theorem d_X12_readsSitter_266 : decode M_X12_readsSitter.2.1 266 = .ok (.getfield 312, 3) := by decide +kernel
theorem d_X12_readsSitter_269 : decode M_X12_readsSitter.2.1 269 = .ok (.iastore, 1) := by decide +kernel
theorem d_X12_readsSitter_270 : decode M_X12_readsSitter.2.1 270 = .ok (.aload_n 0, 1) := by decide +kernel
theorem d_X12_readsSitter_271 : decode M_X12_readsSitter.2.1 271 = .ok (.ldc2_w 218, 3) := by decide +kernel
theorem d_X12_readsSitter_274 : decode M_X12_readsSitter.2.1 274 = .ok (.iconst 0, 1) := by decide +kernel
theorem d_X12_readsSitter_275 : decode M_X12_readsSitter.2.1 275 = .ok (.bipush 9, 2) := by decide +kernel
theorem d_X12_readsSitter_277 : decode M_X12_readsSitter.2.1 277 = .ok (.invokevirtual 332, 3) := by decide +kernel
theorem d_X12_readsSitter_280 : decode M_X12_readsSitter.2.1 280 = .ok (.ifCond .ne 5, 3) := by decide +kernel
theorem d_X12_readsSitter_283 : decode M_X12_readsSitter.2.1 283 = .ok (.iconst 0, 1) := by decide +kernel
theorem d_X12_readsSitter_284 : decode M_X12_readsSitter.2.1 284 = .ok (.ireturn, 1) := by decide +kernel
theorem d_X12_readsSitter_285 : decode M_X12_readsSitter.2.1 285 = .ok (.aload_n 0, 1) := by decide +kernel
theorem d_X12_readsSitter_286 : decode M_X12_readsSitter.2.1 286 = .ok (.getfield 35, 3) := by decide +kernel
theorem d_X12_readsSitter_289 : decode M_X12_readsSitter.2.1 289 = .ok (.iload_n 1, 1) := by decide +kernel
theorem d_X12_readsSitter_290 : decode M_X12_readsSitter.2.1 290 = .ok (.aload_n 0, 1) := by decide +kernel
theorem d_X12_readsSitter_291 : decode M_X12_readsSitter.2.1 291 = .ok (.getfield 312, 3) := by decide +kernel
theorem d_X12_readsSitter_294 : decode M_X12_readsSitter.2.1 294 = .ok (.iastore, 1) := by decide +kernel
theorem d_X12_readsSitter_295 : decode M_X12_readsSitter.2.1 295 = .ok (.aload_n 0, 1) := by decide +kernel
theorem d_X12_readsSitter_296 : decode M_X12_readsSitter.2.1 296 = .ok (.ldc2_w 220, 3) := by decide +kernel
theorem d_X12_readsSitter_299 : decode M_X12_readsSitter.2.1 299 = .ok (.bipush 20, 2) := by decide +kernel
theorem d_X12_readsSitter_301 : decode M_X12_readsSitter.2.1 301 = .ok (.bipush 40, 2) := by decide +kernel
theorem d_X12_readsSitter_303 : decode M_X12_readsSitter.2.1 303 = .ok (.invokevirtual 332, 3) := by decide +kernel
theorem d_X12_readsSitter_306 : decode M_X12_readsSitter.2.1 306 = .ok (.ifCond .ne 5, 3) := by decide +kernel
theorem d_X12_readsSitter_309 : decode M_X12_readsSitter.2.1 309 = .ok (.iconst 0, 1) := by decide +kernel
theorem d_X12_readsSitter_310 : decode M_X12_readsSitter.2.1 310 = .ok (.ireturn, 1) := by decide +kernel
theorem d_X12_readsSitter_311 : decode M_X12_readsSitter.2.1 311 = .ok (.aload_n 0, 1) := by decide +kernel
theorem d_X12_readsSitter_312 : decode M_X12_readsSitter.2.1 312 = .ok (.getfield 38, 3) := by decide +kernel
theorem d_X12_readsSitter_315 : decode M_X12_readsSitter.2.1 315 = .ok (.iload_n 1, 1) := by decide +kernel
theorem d_X12_readsSitter_316 : decode M_X12_readsSitter.2.1 316 = .ok (.aload_n 0, 1) := by decide +kernel
theorem d_X12_readsSitter_317 : decode M_X12_readsSitter.2.1 317 = .ok (.getfield 312, 3) := by decide +kernel
theorem d_X12_readsSitter_320 : decode M_X12_readsSitter.2.1 320 = .ok (.iastore, 1) := by decide +kernel
theorem d_X12_readsSitter_321 : decode M_X12_readsSitter.2.1 321 = .ok (.aload_n 0, 1) := by decide +kernel
theorem d_X12_readsSitter_322 : decode M_X12_readsSitter.2.1 322 = .ok (.ldc2_w 280, 3) := by decide +kernel
theorem d_X12_readsSitter_325 : decode M_X12_readsSitter.2.1 325 = .ok (.iconst 0, 1) := by decide +kernel
theorem d_X12_readsSitter_326 : decode M_X12_readsSitter.2.1 326 = .ok (.bipush 72, 2) := by decide +kernel
theorem d_X12_readsSitter_328 : decode M_X12_readsSitter.2.1 328 = .ok (.invokevirtual 332, 3) := by decide +kernel
theorem d_X12_readsSitter_331 : decode M_X12_readsSitter.2.1 331 = .ok (.ifCond .ne 5, 3) := by decide +kernel
theorem d_X12_readsSitter_334 : decode M_X12_readsSitter.2.1 334 = .ok (.iconst 0, 1) := by decide +kernel
theorem d_X12_readsSitter_335 : decode M_X12_readsSitter.2.1 335 = .ok (.ireturn, 1) := by decide +kernel
theorem d_X12_readsSitter_336 : decode M_X12_readsSitter.2.1 336 = .ok (.aload_n 0, 1) := by decide +kernel
theorem d_X12_readsSitter_337 : decode M_X12_readsSitter.2.1 337 = .ok (.getfield 41, 3) := by decide +kernel
theorem d_X12_readsSitter_340 : decode M_X12_readsSitter.2.1 340 = .ok (.iload_n 1, 1) := by decide +kernel
theorem d_X12_readsSitter_341 : decode M_X12_readsSitter.2.1 341 = .ok (.aload_n 0, 1) := by decide +kernel
theorem d_X12_readsSitter_342 : decode M_X12_readsSitter.2.1 342 = .ok (.getfield 312, 3) := by decide +kernel
theorem d_X12_readsSitter_345 : decode M_X12_readsSitter.2.1 345 = .ok (.iastore, 1) := by decide +kernel
theorem d_X12_readsSitter_346 : decode M_X12_readsSitter.2.1 346 = .ok (.aload_n 0, 1) := by decide +kernel
theorem d_X12_readsSitter_347 : decode M_X12_readsSitter.2.1 347 = .ok (.ldc2_w 282, 3) := by decide +kernel
theorem d_X12_readsSitter_350 : decode M_X12_readsSitter.2.1 350 = .ok (.aload_n 0, 1) := by decide +kernel
theorem d_X12_readsSitter_351 : decode M_X12_readsSitter.2.1 351 = .ok (.getfield 41, 3) := by decide +kernel
theorem d_X12_readsSitter_354 : decode M_X12_readsSitter.2.1 354 = .ok (.iload_n 1, 1) := by decide +kernel
theorem d_X12_readsSitter_355 : decode M_X12_readsSitter.2.1 355 = .ok (.iaload, 1) := by decide +kernel
theorem d_X12_readsSitter_356 : decode M_X12_readsSitter.2.1 356 = .ok (.bipush 72, 2) := by decide +kernel
theorem d_X12_readsSitter_358 : decode M_X12_readsSitter.2.1 358 = .ok (.invokevirtual 332, 3) := by decide +kernel
theorem d_X12_readsSitter_361 : decode M_X12_readsSitter.2.1 361 = .ok (.ifCond .ne 5, 3) := by decide +kernel
theorem d_X12_readsSitter_364 : decode M_X12_readsSitter.2.1 364 = .ok (.iconst 0, 1) := by decide +kernel
theorem d_X12_readsSitter_365 : decode M_X12_readsSitter.2.1 365 = .ok (.ireturn, 1) := by decide +kernel
theorem d_X12_readsSitter_366 : decode M_X12_readsSitter.2.1 366 = .ok (.aload_n 0, 1) := by decide +kernel
theorem d_X12_readsSitter_367 : decode M_X12_readsSitter.2.1 367 = .ok (.getfield 44, 3) := by decide +kernel
theorem d_X12_readsSitter_370 : decode M_X12_readsSitter.2.1 370 = .ok (.iload_n 1, 1) := by decide +kernel
theorem d_X12_readsSitter_371 : decode M_X12_readsSitter.2.1 371 = .ok (.aload_n 0, 1) := by decide +kernel
theorem d_X12_readsSitter_372 : decode M_X12_readsSitter.2.1 372 = .ok (.getfield 312, 3) := by decide +kernel
theorem d_X12_readsSitter_375 : decode M_X12_readsSitter.2.1 375 = .ok (.iastore, 1) := by decide +kernel
theorem d_X12_readsSitter_376 : decode M_X12_readsSitter.2.1 376 = .ok (.aload_n 0, 1) := by decide +kernel
theorem d_X12_readsSitter_377 : decode M_X12_readsSitter.2.1 377 = .ok (.getfield 13, 3) := by decide +kernel
theorem d_X12_readsSitter_380 : decode M_X12_readsSitter.2.1 380 = .ok (.bipush 20, 2) := by decide +kernel
theorem d_X12_readsSitter_382 : decode M_X12_readsSitter.2.1 382 = .ok (.dup2, 1) := by decide +kernel
theorem d_X12_readsSitter_383 : decode M_X12_readsSitter.2.1 383 = .ok (.iaload, 1) := by decide +kernel
theorem d_X12_readsSitter_384 : decode M_X12_readsSitter.2.1 384 = .ok (.iconst 1, 1) := by decide +kernel
theorem d_X12_readsSitter_385 : decode M_X12_readsSitter.2.1 385 = .ok (.iadd, 1) := by decide +kernel
theorem d_X12_readsSitter_386 : decode M_X12_readsSitter.2.1 386 = .ok (.iastore, 1) := by decide +kernel
theorem d_X12_readsSitter_387 : decode M_X12_readsSitter.2.1 387 = .ok (.aload_n 0, 1) := by decide +kernel
theorem d_X12_readsSitter_388 : decode M_X12_readsSitter.2.1 388 = .ok (.invokevirtual 336, 3) := by decide +kernel
theorem d_X12_readsSitter_391 : decode M_X12_readsSitter.2.1 391 = .ok (.ireturn, 1) := by decide +kernel
set_option maxRecDepth 20000 in
theorem s_X12_readsSitter_0 {d : Nat}  {G : Mem} {Q : Int → Mem → Prop}  (h : Ct d M_X12_nextToken NT 0 0 (some lay) [(2, 311)] G (fun r2 G1 => Ct d M_X12_isKept NT 0 0 (some lay) [(2, 311)] G1 (fun r4 G3 => (InR r4) ∧ ((r4 = 0) → Rn (d + 1) M_X12_readsSitter zN 29 [(0, (2, 311)), (1, (0, (5 + (G3 313 20)))), (2, (0, 5))] [] G3 Q) ∧ (¬ (r4 = 0) → Ct d M_X12_fails NT 0 0 (some lay) [(2, 311), (0, 1)] G3 (fun r8 G7 => (r8 = 0 ∨ r8 = 1) ∧ Q r8 G7))))) : Rn (d + 1) M_X12_readsSitter zN 0 [(0, (2, 311))] [] G Q := by
  refine r_aload_n d_X12_readsSitter_0 0 rfl rfl ?_
  refine r_callV0 (M' := M_X12_nextToken) (ci := 12) [] d_X12_readsSitter_1 cl_X12_250 rfl (Nat.le_of_ble_eq_true rfl) (by decide) rfl (bs_ob bs_12) ?_
  refine Ct.mono h (fun r2 G1 h => ?_)
  show Rn _ M_X12_readsSitter zN 4 [(0, (2, 311))] [] G1 Q
  refine r_aload_n d_X12_readsSitter_4 0 rfl rfl ?_
  refine r_callV0 (M' := M_X12_isKept) (ci := 12) [] d_X12_readsSitter_5 cl_X12_322 rfl (Nat.le_of_ble_eq_true rfl) (by decide) rfl (bs_ob bs_12) ?_
  refine Ct.mono h (fun r4 G3 h => ?_)
  show Rn _ M_X12_readsSitter zN 8 [(0, (2, 311))] [(0, r4)] G3 Q
  obtain ⟨h5, h⟩ := h
  refine r_if_eq (tgt := 17) d_X12_readsSitter_8 (by decide) h5 (fun c6 => ?_) (fun c6 => ?_)
  · replace h := h.1 c6
    refine r_iconst d_X12_readsSitter_17 ?_
    refine r_aload_n d_X12_readsSitter_18 0 rfl rfl ?_
    refine r_getL (v := 313) 12 10 10 rfl d_X12_readsSitter_19 fl_X12_13 (by decide) (bs_ob bs_12) (ly_12_10 bs_12).1 (ly_12_10 bs_12).2.1 ?_
    refine r_bipush d_X12_readsSitter_22 (by decide +kernel) ?_
    refine r_iaload d_X12_readsSitter_24 (ly_12_10 bs_12).2.2 (by decide) ?_
    refine r_iadd d_X12_readsSitter_25 ?_
    refine r_istore_n (ls1 := [(1, (0, (5 + (G3 313 20)))), (0, (2, 311))]) d_X12_readsSitter_26 rfl (by decide) rfl ?_
    refine r_iconst d_X12_readsSitter_27 ?_
    refine r_istore_n (ls1 := [(2, (0, 5)), (1, (0, (5 + (G3 313 20)))), (0, (2, 311))]) d_X12_readsSitter_28 rfl (by decide) rfl ?_
    exact Rn.sub [2, 1, 0] rfl h
  · replace h := h.2 c6
    refine r_aload_n d_X12_readsSitter_11 0 rfl rfl ?_
    refine r_iconst d_X12_readsSitter_12 ?_
    refine r_callV0 (M' := M_X12_fails) (ci := 12) [(0, 1)] d_X12_readsSitter_13 cl_X12_244 rfl (Nat.le_of_ble_eq_true rfl) (by decide) rfl (bs_ob bs_12) ?_
    refine Ct.mono h (fun r8 G7 h => ?_)
    show Rn _ M_X12_readsSitter zN 16 [(0, (2, 311))] [(0, r8)] G7 Q
    exact r_zreturn d_X12_readsSitter_16 rfl ⟨rfl, Nat.le_refl _, Nat.le_refl _⟩ h.1 h.2
set_option maxRecDepth 20000 in
theorem s_X12_readsSitter_29 {d : Nat} {x1 : Int} {x2 : Int} {G : Mem} {Q : Int → Mem → Prop}  (h : (InR x2) ∧ (InR x1) ∧ ((x1 ≤ x2) → Ct d M_X12_nextToken NT 0 0 (some lay) [(2, 311)] G (fun r5 G4 => Ct d M_X12_kindAt NT 0 0 (some lay) [(2, 311)] G4 (fun r7 G6 => (InR r7) ∧ ((0 ≤ r7) → Ct d M_X12_nextToken NT 0 0 (some lay) [(2, 311)] G6 (fun r11 G10 => Ct d M_X12_needsWord NT 0 0 (some lay) [(2, 311), (1, 47)] G10 (fun r13 G12 => (InR r13) ∧ ((r13 ≠ 0) → (InR (G12 311 6)) ∧ (((G12 311 6) ≠ 2) → Rn (d + 1) M_X12_readsSitter zN 149 [(0, (2, 311)), (1, (0, x1)), (2, (1, (G 311 7))), (4, (0, r7))] [] G12 Q) ∧ (¬ ((G12 311 6) ≠ 2) → Ct d M_X12_within NT 0 0 (some lay) [(0, (G12 311 8)), (0, 0), (0, ((G12 313 12) - 1))] G12 (fun r19 G18 => (InR r19) ∧ ((r19 = 0) → Rn (d + 1) M_X12_readsSitter zN 149 [(0, (2, 311)), (1, (0, x1)), (2, (1, (G 311 7))), (4, (0, r7))] [] G18 Q) ∧ (¬ (r19 = 0) → Ct d M_X12_isTaken NT 0 0 (some lay) [(2, 311), (0, (G18 311 8))] G18 (fun r23 G22 => (InR r23) ∧ ((r23 = 0) → Rn (d + 1) M_X12_readsSitter zN 149 [(0, (2, 311)), (1, (0, x1)), (2, (1, (G 311 7))), (4, (0, r7))] [] G22 Q) ∧ (¬ (r23 = 0) → Ct d M_X12_fails NT 0 0 (some lay) [(2, 311), (0, 3)] G22 (fun r27 G26 => (r27 = 0 ∨ r27 = 1) ∧ Q r27 G26))))))) ∧ (¬ (r13 ≠ 0) → Q 0 G12)))) ∧ (¬ (0 ≤ r7) → Ct d M_X12_fails NT 0 0 (some lay) [(2, 311), (0, 1)] G6 (fun r29 G28 => (r29 = 0 ∨ r29 = 1) ∧ Q r29 G28))))) ∧ (¬ (x1 ≤ x2) → (0 ≤ (x2 - 5) ∧ (x2 - 5) < 5) ∧ ((InL (G 314 (x2 - 5))) ∧ (InL (G 311 7)) ∧ (((G 314 (x2 - 5)) ≠ (G 311 7)) → Rn (d + 1) M_X12_readsSitter zN 29 [(0, (2, 311)), (1, (0, x1)), (2, (0, (x2 + 1)))] [] G Q) ∧ (¬ ((G 314 (x2 - 5)) ≠ (G 311 7)) → Ct d M_X12_fails NT 0 0 (some lay) [(2, 311), (0, 3)] G (fun r35 G34 => (r35 = 0 ∨ r35 = 1) ∧ Q r35 G34))))) : Rn (d + 1) M_X12_readsSitter zN 29 [(0, (2, 311)), (1, (0, x1)), (2, (0, x2))] [] G Q := by
  refine r_iload_n d_X12_readsSitter_29 2 rfl rfl ?_
  refine r_iload_n d_X12_readsSitter_30 1 rfl rfl ?_
  obtain ⟨h1, h⟩ := h
  obtain ⟨h2, h⟩ := h
  refine r_icmp_ge (tgt := 62) d_X12_readsSitter_31 (by decide) h1 h2 (fun c3 => ?_) (fun c3 => ?_)
  · replace h := h.1 c3
    refine r_aload_n d_X12_readsSitter_62 0 rfl rfl ?_
    refine r_getJ 12 7 7 rfl d_X12_readsSitter_63 fl_X12_187 (by decide) (bs_ob bs_12) ?_
    refine r_lstore_n (ls1 := [(2, (1, (G 311 7))), (0, (2, 311)), (1, (0, x1))]) d_X12_readsSitter_66 rfl (by decide) rfl ?_
    refine r_aload_n d_X12_readsSitter_67 1 rfl rfl ?_
    refine r_callV0 (M' := M_X12_nextToken) (ci := 12) [] d_X12_readsSitter_68 cl_X12_250 rfl (Nat.le_of_ble_eq_true rfl) (by decide) rfl (bs_ob bs_12) ?_
    refine Ct.mono h (fun r5 G4 h => ?_)
    show Rn _ M_X12_readsSitter zN 71 [(2, (1, (G 311 7))), (0, (2, 311)), (1, (0, x1))] [] G4 Q
    refine r_aload_n d_X12_readsSitter_71 1 rfl rfl ?_
    refine r_callV0 (M' := M_X12_kindAt) (ci := 12) [] d_X12_readsSitter_72 cl_X12_326 rfl (Nat.le_of_ble_eq_true rfl) (by decide) rfl (bs_ob bs_12) ?_
    refine Ct.mono h (fun r7 G6 h => ?_)
    show Rn _ M_X12_readsSitter zN 75 [(2, (1, (G 311 7))), (0, (2, 311)), (1, (0, x1))] [(0, r7)] G6 Q
    refine r_istore (ls1 := [(4, (0, r7)), (2, (1, (G 311 7))), (0, (2, 311)), (1, (0, x1))]) d_X12_readsSitter_75 (by decide) rfl ?_
    refine r_iload d_X12_readsSitter_77 0 rfl ?_
    obtain ⟨h8, h⟩ := h
    refine r_if_ge (tgt := 88) d_X12_readsSitter_79 (by decide) h8 (fun c9 => ?_) (fun c9 => ?_)
    · replace h := h.1 c9
      refine r_aload_n d_X12_readsSitter_88 2 rfl rfl ?_
      refine r_callV0 (M' := M_X12_nextToken) (ci := 12) [] d_X12_readsSitter_89 cl_X12_250 rfl (Nat.le_of_ble_eq_true rfl) (by decide) rfl (bs_ob bs_12) ?_
      refine Ct.mono h (fun r11 G10 h => ?_)
      show Rn _ M_X12_readsSitter zN 92 [(4, (0, r7)), (2, (1, (G 311 7))), (0, (2, 311)), (1, (0, x1))] [] G10 Q
      refine r_aload_n d_X12_readsSitter_92 2 rfl rfl ?_
      refine r_ldc2 (x := 47) d_X12_readsSitter_93 cst_X12_272 ?_
      refine r_callV0 (M' := M_X12_needsWord) (ci := 12) [(1, 47)] d_X12_readsSitter_96 cl_X12_315 rfl (Nat.le_of_ble_eq_true rfl) (by decide) rfl (bs_ob bs_12) ?_
      refine Ct.mono h (fun r13 G12 h => ?_)
      show Rn _ M_X12_readsSitter zN 99 [(4, (0, r7)), (2, (1, (G 311 7))), (0, (2, 311)), (1, (0, x1))] [(0, r13)] G12 Q
      obtain ⟨h14, h⟩ := h
      refine r_if_ne (tgt := 104) d_X12_readsSitter_99 (by decide) h14 (fun c15 => ?_) (fun c15 => ?_)
      · replace h := h.1 c15
        refine r_aload_n d_X12_readsSitter_104 2 rfl rfl ?_
        refine r_getI 12 6 6 rfl d_X12_readsSitter_105 fl_X12_194 (by decide) (bs_ob bs_12) ?_
        refine r_iconst d_X12_readsSitter_108 ?_
        obtain ⟨h16, h⟩ := h
        refine r_icmp_ne (tgt := 149) d_X12_readsSitter_109 (by decide) h16 ⟨by decide, by decide⟩ (fun c17 => ?_) (fun c17 => ?_)
        · replace h := h.1 c17
          exact Rn.sub [2, 3, 1, 0] rfl h
        · replace h := h.2 c17
          refine r_aload_n d_X12_readsSitter_112 2 rfl rfl ?_
          refine r_getI 12 8 8 rfl d_X12_readsSitter_113 fl_X12_191 (by decide) (bs_ob bs_12) ?_
          refine r_iconst d_X12_readsSitter_116 ?_
          refine r_aload_n d_X12_readsSitter_117 2 rfl rfl ?_
          refine r_getL (v := 313) 12 10 10 rfl d_X12_readsSitter_118 fl_X12_13 (by decide) (bs_ob bs_12) (ly_12_10 bs_12).1 (ly_12_10 bs_12).2.1 ?_
          refine r_bipush d_X12_readsSitter_121 (by decide +kernel) ?_
          refine r_iaload d_X12_readsSitter_123 (ly_12_10 bs_12).2.2 (by decide) ?_
          refine r_iconst d_X12_readsSitter_124 ?_
          refine r_isub d_X12_readsSitter_125 ?_
          refine r_callS0 (M' := M_X12_within) [(0, (G12 311 8)), (0, 0), (0, ((G12 313 12) - 1))] d_X12_readsSitter_126 cl_X12_308 rfl (Nat.le_of_ble_eq_true rfl) ?_
          refine Ct.mono h (fun r19 G18 h => ?_)
          show Rn _ M_X12_readsSitter zN 129 [(4, (0, r7)), (2, (1, (G 311 7))), (0, (2, 311)), (1, (0, x1))] [(0, r19)] G18 Q
          obtain ⟨h20, h⟩ := h
          refine r_if_eq (tgt := 149) d_X12_readsSitter_129 (by decide) h20 (fun c21 => ?_) (fun c21 => ?_)
          · replace h := h.1 c21
            exact Rn.sub [2, 3, 1, 0] rfl h
          · replace h := h.2 c21
            refine r_aload_n d_X12_readsSitter_132 2 rfl rfl ?_
            refine r_aload_n d_X12_readsSitter_133 2 rfl rfl ?_
            refine r_getI 12 8 8 rfl d_X12_readsSitter_134 fl_X12_191 (by decide) (bs_ob bs_12) ?_
            refine r_callV0 (M' := M_X12_isTaken) (ci := 12) [(0, (G18 311 8))] d_X12_readsSitter_137 cl_X12_329 rfl (Nat.le_of_ble_eq_true rfl) (by decide) rfl (bs_ob bs_12) ?_
            refine Ct.mono h (fun r23 G22 h => ?_)
            show Rn _ M_X12_readsSitter zN 140 [(4, (0, r7)), (2, (1, (G 311 7))), (0, (2, 311)), (1, (0, x1))] [(0, r23)] G22 Q
            obtain ⟨h24, h⟩ := h
            refine r_if_eq (tgt := 149) d_X12_readsSitter_140 (by decide) h24 (fun c25 => ?_) (fun c25 => ?_)
            · replace h := h.1 c25
              exact Rn.sub [2, 3, 1, 0] rfl h
            · replace h := h.2 c25
              refine r_aload_n d_X12_readsSitter_143 2 rfl rfl ?_
              refine r_iconst d_X12_readsSitter_144 ?_
              refine r_callV0 (M' := M_X12_fails) (ci := 12) [(0, 3)] d_X12_readsSitter_145 cl_X12_244 rfl (Nat.le_of_ble_eq_true rfl) (by decide) rfl (bs_ob bs_12) ?_
              refine Ct.mono h (fun r27 G26 h => ?_)
              show Rn _ M_X12_readsSitter zN 148 [(4, (0, r7)), (2, (1, (G 311 7))), (0, (2, 311)), (1, (0, x1))] [(0, r27)] G26 Q
              exact r_zreturn d_X12_readsSitter_148 rfl ⟨rfl, Nat.le_refl _, Nat.le_refl _⟩ h.1 h.2
      · replace h := h.2 c15
        refine r_iconst d_X12_readsSitter_102 ?_
        exact r_zreturn d_X12_readsSitter_103 rfl ⟨rfl, Nat.le_refl _, Nat.le_refl _⟩ (by decide) h
    · replace h := h.2 c9
      refine r_aload_n d_X12_readsSitter_82 2 rfl rfl ?_
      refine r_iconst d_X12_readsSitter_83 ?_
      refine r_callV0 (M' := M_X12_fails) (ci := 12) [(0, 1)] d_X12_readsSitter_84 cl_X12_244 rfl (Nat.le_of_ble_eq_true rfl) (by decide) rfl (bs_ob bs_12) ?_
      refine Ct.mono h (fun r29 G28 h => ?_)
      show Rn _ M_X12_readsSitter zN 87 [(4, (0, r7)), (2, (1, (G 311 7))), (0, (2, 311)), (1, (0, x1))] [(0, r29)] G28 Q
      exact r_zreturn d_X12_readsSitter_87 rfl ⟨rfl, Nat.le_refl _, Nat.le_refl _⟩ h.1 h.2
  · replace h := h.2 c3
    refine r_aload_n d_X12_readsSitter_34 0 rfl rfl ?_
    refine r_getL (v := 314) 12 11 11 rfl d_X12_readsSitter_35 fl_X12_16 (by decide) (bs_ob bs_12) (ly_12_11 bs_12).1 (ly_12_11 bs_12).2.1 ?_
    refine r_iload_n d_X12_readsSitter_38 2 rfl rfl ?_
    refine r_iconst d_X12_readsSitter_39 ?_
    refine r_isub d_X12_readsSitter_40 ?_
    obtain ⟨h30, h⟩ := h
    refine r_laload d_X12_readsSitter_41 (ly_12_11 bs_12).2.2 h30 ?_
    refine r_aload_n d_X12_readsSitter_42 0 rfl rfl ?_
    refine r_getJ 12 7 7 rfl d_X12_readsSitter_43 fl_X12_187 (by decide) (bs_ob bs_12) ?_
    obtain ⟨h31, h⟩ := h
    obtain ⟨h32, h⟩ := h
    refine r_lcmp_ne (tgt := 56) d_X12_readsSitter_46 d_X12_readsSitter_47 (by decide) h31 h32 (fun c33 => ?_) (fun c33 => ?_)
    · replace h := h.1 c33
      refine r_iinc (ls1 := [(2, (0, (x2 + 1))), (0, (2, 311)), (1, (0, x1))]) d_X12_readsSitter_56 2 rfl (by decide) rfl ?_
      refine r_goto (tgt := 29) d_X12_readsSitter_59 (by decide) ?_
      exact Rn.sub [1, 2, 0] rfl h
    · replace h := h.2 c33
      refine r_aload_n d_X12_readsSitter_50 0 rfl rfl ?_
      refine r_iconst d_X12_readsSitter_51 ?_
      refine r_callV0 (M' := M_X12_fails) (ci := 12) [(0, 3)] d_X12_readsSitter_52 cl_X12_244 rfl (Nat.le_of_ble_eq_true rfl) (by decide) rfl (bs_ob bs_12) ?_
      refine Ct.mono h (fun r35 G34 h => ?_)
      show Rn _ M_X12_readsSitter zN 55 [(0, (2, 311)), (1, (0, x1)), (2, (0, x2))] [(0, r35)] G34 Q
      exact r_zreturn d_X12_readsSitter_55 rfl ⟨rfl, Nat.le_refl _, Nat.le_refl _⟩ h.1 h.2
set_option maxRecDepth 20000 in
theorem s_X12_readsSitter_149 {d : Nat} {x1 : Int} {x2 : Int} {x4 : Int} {G : Mem} {Q : Int → Mem → Prop}  (h : Ct d M_X12_needsNumber NT 0 0 (some lay) [(2, 311), (0, 0), (0, ((G 313 12) - 1))] G (fun r2 G1 => (InR r2) ∧ ((r2 ≠ 0) → (0 ≤ (x1 - 5) ∧ (x1 - 5) < 5) ∧ (∀ G6 : Mem, G6 = st G1 314 (x1 - 5) x2 → (0 ≤ x1 ∧ x1 < 30) ∧ (∀ G8 : Mem, G8 = st G6 315 x1 x4 → (∀ G9 : Mem, G9 = st G8 316 x1 (G8 311 42) → Ct d M_X12_needsBoth NT 0 0 (some lay) [(2, 311), (1, 7542361), (0, 0), (0, 9)] G9 (fun r11 G10 => (InR r11) ∧ ((r11 ≠ 0) → (∀ G14 : Mem, G14 = st G10 317 x1 (G10 311 42) → Ct d M_X12_needsBoth NT 0 0 (some lay) [(2, 311), (1, 6564179), (0, 1), (0, 99)] G14 (fun r16 G15 => (InR r16) ∧ ((r16 ≠ 0) → (∀ G19 : Mem, G19 = st G15 318 x1 (G15 311 42) → Ct d M_X12_needsBoth NT 0 0 (some lay) [(2, 311), (1, 148870), (0, 1), (0, 99)] G19 (fun r21 G20 => (InR r21) ∧ ((r21 ≠ 0) → (∀ G24 : Mem, G24 = st G20 319 x1 (G20 311 42) → Ct d M_X12_needsBoth NT 0 0 (some lay) [(2, 311), (1, 2236391), (0, 0), (0, 9)] G24 (fun r26 G25 => (InR r26) ∧ ((r26 ≠ 0) → (∀ G29 : Mem, G29 = st G25 320 x1 (G25 311 42) → Ct d M_X12_needsBoth NT 0 0 (some lay) [(2, 311), (1, 240049), (0, 20), (0, 40)] G29 (fun r31 G30 => (InR r31) ∧ ((r31 ≠ 0) → (∀ G34 : Mem, G34 = st G30 321 x1 (G30 311 42) → Ct d M_X12_needsBoth NT 0 0 (some lay) [(2, 311), (1, 279109036), (0, 0), (0, 72)] G34 (fun r36 G35 => (InR r36) ∧ ((r36 ≠ 0) → (∀ G39 : Mem, G39 = st G35 322 x1 (G35 311 42) → Ct d M_X12_needsBoth NT 0 0 (some lay) [(2, 311), (1, 555), (0, (G39 322 x1)), (0, 72)] G39 (fun r41 G40 => (InR r41) ∧ ((r41 ≠ 0) → (∀ G44 : Mem, G44 = st G40 323 x1 (G40 311 42) → (∀ G45 : Mem, G45 = st G44 313 20 ((G44 313 20) + 1) → Ct d M_X12_ends NT 0 0 (some lay) [(2, 311)] G45 (fun r47 G46 => (r47 = 0 ∨ r47 = 1) ∧ Q r47 G46)))) ∧ (¬ (r41 ≠ 0) → Q 0 G40)))) ∧ (¬ (r36 ≠ 0) → Q 0 G35)))) ∧ (¬ (r31 ≠ 0) → Q 0 G30)))) ∧ (¬ (r26 ≠ 0) → Q 0 G25)))) ∧ (¬ (r21 ≠ 0) → Q 0 G20)))) ∧ (¬ (r16 ≠ 0) → Q 0 G15)))) ∧ (¬ (r11 ≠ 0) → Q 0 G10)))))) ∧ (¬ (r2 ≠ 0) → Q 0 G1))) : Rn (d + 1) M_X12_readsSitter zN 149 [(0, (2, 311)), (1, (0, x1)), (2, (1, x2)), (4, (0, x4))] [] G Q := by
  refine r_aload_n d_X12_readsSitter_149 0 rfl rfl ?_
  refine r_iconst d_X12_readsSitter_150 ?_
  refine r_aload_n d_X12_readsSitter_151 0 rfl rfl ?_
  refine r_getL (v := 313) 12 10 10 rfl d_X12_readsSitter_152 fl_X12_13 (by decide) (bs_ob bs_12) (ly_12_10 bs_12).1 (ly_12_10 bs_12).2.1 ?_
  refine r_bipush d_X12_readsSitter_155 (by decide +kernel) ?_
  refine r_iaload d_X12_readsSitter_157 (ly_12_10 bs_12).2.2 (by decide) ?_
  refine r_iconst d_X12_readsSitter_158 ?_
  refine r_isub d_X12_readsSitter_159 ?_
  refine r_callV0 (M' := M_X12_needsNumber) (ci := 12) [(0, 0), (0, ((G 313 12) - 1))] d_X12_readsSitter_160 cl_X12_318 rfl (Nat.le_of_ble_eq_true rfl) (by decide) rfl (bs_ob bs_12) ?_
  refine Ct.mono h (fun r2 G1 h => ?_)
  show Rn _ M_X12_readsSitter zN 163 [(0, (2, 311)), (1, (0, x1)), (2, (1, x2)), (4, (0, x4))] [(0, r2)] G1 Q
  obtain ⟨h3, h⟩ := h
  refine r_if_ne (tgt := 168) d_X12_readsSitter_163 (by decide) h3 (fun c4 => ?_) (fun c4 => ?_)
  · replace h := h.1 c4
    refine r_aload_n d_X12_readsSitter_168 0 rfl rfl ?_
    refine r_getL (v := 314) 12 11 11 rfl d_X12_readsSitter_169 fl_X12_16 (by decide) (bs_ob bs_12) (ly_12_11 bs_12).1 (ly_12_11 bs_12).2.1 ?_
    refine r_iload_n d_X12_readsSitter_172 1 rfl rfl ?_
    refine r_iconst d_X12_readsSitter_173 ?_
    refine r_isub d_X12_readsSitter_174 ?_
    refine r_lload_n d_X12_readsSitter_175 2 rfl rfl ?_
    obtain ⟨h5, h⟩ := h
    obtain ⟨G6, eG6⟩ : ∃ y : Mem, y = st G1 314 (x1 - 5) x2 := ⟨_, rfl⟩
    replace h := h G6 eG6
    refine r_lastore d_X12_readsSitter_176 (ly_12_11 bs_12).2.2 h5 ?_
    rw [← eG6]
    refine r_aload_n d_X12_readsSitter_177 0 rfl rfl ?_
    refine r_getL (v := 315) 12 12 12 rfl d_X12_readsSitter_178 fl_X12_20 (by decide) (bs_ob bs_12) (ly_12_12 bs_12).1 (ly_12_12 bs_12).2.1 ?_
    refine r_iload_n d_X12_readsSitter_181 1 rfl rfl ?_
    refine r_iload d_X12_readsSitter_182 3 rfl ?_
    obtain ⟨h7, h⟩ := h
    obtain ⟨G8, eG8⟩ : ∃ y : Mem, y = st G6 315 x1 x4 := ⟨_, rfl⟩
    replace h := h G8 eG8
    refine r_iastore d_X12_readsSitter_184 (ly_12_12 bs_12).2.2 h7 ?_
    rw [← eG8]
    refine r_aload_n d_X12_readsSitter_185 0 rfl rfl ?_
    refine r_getL (v := 316) 12 13 13 rfl d_X12_readsSitter_186 fl_X12_23 (by decide) (bs_ob bs_12) (ly_12_13 bs_12).1 (ly_12_13 bs_12).2.1 ?_
    refine r_iload_n d_X12_readsSitter_189 1 rfl rfl ?_
    refine r_aload_n d_X12_readsSitter_190 0 rfl rfl ?_
    refine r_getI 12 42 42 rfl d_X12_readsSitter_191 fl_X12_312 (by decide) (bs_ob bs_12) ?_
    obtain ⟨G9, eG9⟩ : ∃ y : Mem, y = st G8 316 x1 (G8 311 42) := ⟨_, rfl⟩
    replace h := h G9 eG9
    refine r_iastore d_X12_readsSitter_194 (ly_12_13 bs_12).2.2 h7 ?_
    rw [← eG9]
    refine r_aload_n d_X12_readsSitter_195 0 rfl rfl ?_
    refine r_ldc2 (x := 7542361) d_X12_readsSitter_196 cst_X12_274 ?_
    refine r_iconst d_X12_readsSitter_199 ?_
    refine r_bipush d_X12_readsSitter_200 (by decide +kernel) ?_
    refine r_callV0 (M' := M_X12_needsBoth) (ci := 12) [(1, 7542361), (0, 0), (0, 9)] d_X12_readsSitter_202 cl_X12_332 rfl (Nat.le_of_ble_eq_true rfl) (by decide) rfl (bs_ob bs_12) ?_
    refine Ct.mono h (fun r11 G10 h => ?_)
    show Rn _ M_X12_readsSitter zN 205 [(0, (2, 311)), (1, (0, x1)), (2, (1, x2)), (4, (0, x4))] [(0, r11)] G10 Q
    obtain ⟨h12, h⟩ := h
    refine r_if_ne (tgt := 210) d_X12_readsSitter_205 (by decide) h12 (fun c13 => ?_) (fun c13 => ?_)
    · replace h := h.1 c13
      refine r_aload_n d_X12_readsSitter_210 0 rfl rfl ?_
      refine r_getL (v := 317) 12 14 14 rfl d_X12_readsSitter_211 fl_X12_26 (by decide) (bs_ob bs_12) (ly_12_14 bs_12).1 (ly_12_14 bs_12).2.1 ?_
      refine r_iload_n d_X12_readsSitter_214 1 rfl rfl ?_
      refine r_aload_n d_X12_readsSitter_215 0 rfl rfl ?_
      refine r_getI 12 42 42 rfl d_X12_readsSitter_216 fl_X12_312 (by decide) (bs_ob bs_12) ?_
      obtain ⟨G14, eG14⟩ : ∃ y : Mem, y = st G10 317 x1 (G10 311 42) := ⟨_, rfl⟩
      replace h := h G14 eG14
      refine r_iastore d_X12_readsSitter_219 (ly_12_14 bs_12).2.2 h7 ?_
      rw [← eG14]
      refine r_aload_n d_X12_readsSitter_220 0 rfl rfl ?_
      refine r_ldc2 (x := 6564179) d_X12_readsSitter_221 cst_X12_276 ?_
      refine r_iconst d_X12_readsSitter_224 ?_
      refine r_bipush d_X12_readsSitter_225 (by decide +kernel) ?_
      refine r_callV0 (M' := M_X12_needsBoth) (ci := 12) [(1, 6564179), (0, 1), (0, 99)] d_X12_readsSitter_227 cl_X12_332 rfl (Nat.le_of_ble_eq_true rfl) (by decide) rfl (bs_ob bs_12) ?_
      refine Ct.mono h (fun r16 G15 h => ?_)
      show Rn _ M_X12_readsSitter zN 230 [(0, (2, 311)), (1, (0, x1)), (2, (1, x2)), (4, (0, x4))] [(0, r16)] G15 Q
      obtain ⟨h17, h⟩ := h
      refine r_if_ne (tgt := 235) d_X12_readsSitter_230 (by decide) h17 (fun c18 => ?_) (fun c18 => ?_)
      · replace h := h.1 c18
        refine r_aload_n d_X12_readsSitter_235 0 rfl rfl ?_
        refine r_getL (v := 318) 12 15 15 rfl d_X12_readsSitter_236 fl_X12_29 (by decide) (bs_ob bs_12) (ly_12_15 bs_12).1 (ly_12_15 bs_12).2.1 ?_
        refine r_iload_n d_X12_readsSitter_239 1 rfl rfl ?_
        refine r_aload_n d_X12_readsSitter_240 0 rfl rfl ?_
        refine r_getI 12 42 42 rfl d_X12_readsSitter_241 fl_X12_312 (by decide) (bs_ob bs_12) ?_
        obtain ⟨G19, eG19⟩ : ∃ y : Mem, y = st G15 318 x1 (G15 311 42) := ⟨_, rfl⟩
        replace h := h G19 eG19
        refine r_iastore d_X12_readsSitter_244 (ly_12_15 bs_12).2.2 h7 ?_
        rw [← eG19]
        refine r_aload_n d_X12_readsSitter_245 0 rfl rfl ?_
        refine r_ldc2 (x := 148870) d_X12_readsSitter_246 cst_X12_278 ?_
        refine r_iconst d_X12_readsSitter_249 ?_
        refine r_bipush d_X12_readsSitter_250 (by decide +kernel) ?_
        refine r_callV0 (M' := M_X12_needsBoth) (ci := 12) [(1, 148870), (0, 1), (0, 99)] d_X12_readsSitter_252 cl_X12_332 rfl (Nat.le_of_ble_eq_true rfl) (by decide) rfl (bs_ob bs_12) ?_
        refine Ct.mono h (fun r21 G20 h => ?_)
        show Rn _ M_X12_readsSitter zN 255 [(0, (2, 311)), (1, (0, x1)), (2, (1, x2)), (4, (0, x4))] [(0, r21)] G20 Q
        obtain ⟨h22, h⟩ := h
        refine r_if_ne (tgt := 260) d_X12_readsSitter_255 (by decide) h22 (fun c23 => ?_) (fun c23 => ?_)
        · replace h := h.1 c23
          refine r_aload_n d_X12_readsSitter_260 0 rfl rfl ?_
          refine r_getL (v := 319) 12 16 16 rfl d_X12_readsSitter_261 fl_X12_32 (by decide) (bs_ob bs_12) (ly_12_16 bs_12).1 (ly_12_16 bs_12).2.1 ?_
          refine r_iload_n d_X12_readsSitter_264 1 rfl rfl ?_
          refine r_aload_n d_X12_readsSitter_265 0 rfl rfl ?_
          refine r_getI 12 42 42 rfl d_X12_readsSitter_266 fl_X12_312 (by decide) (bs_ob bs_12) ?_
          obtain ⟨G24, eG24⟩ : ∃ y : Mem, y = st G20 319 x1 (G20 311 42) := ⟨_, rfl⟩
          replace h := h G24 eG24
          refine r_iastore d_X12_readsSitter_269 (ly_12_16 bs_12).2.2 h7 ?_
          rw [← eG24]
          refine r_aload_n d_X12_readsSitter_270 0 rfl rfl ?_
          refine r_ldc2 (x := 2236391) d_X12_readsSitter_271 cst_X12_218 ?_
          refine r_iconst d_X12_readsSitter_274 ?_
          refine r_bipush d_X12_readsSitter_275 (by decide +kernel) ?_
          refine r_callV0 (M' := M_X12_needsBoth) (ci := 12) [(1, 2236391), (0, 0), (0, 9)] d_X12_readsSitter_277 cl_X12_332 rfl (Nat.le_of_ble_eq_true rfl) (by decide) rfl (bs_ob bs_12) ?_
          refine Ct.mono h (fun r26 G25 h => ?_)
          show Rn _ M_X12_readsSitter zN 280 [(0, (2, 311)), (1, (0, x1)), (2, (1, x2)), (4, (0, x4))] [(0, r26)] G25 Q
          obtain ⟨h27, h⟩ := h
          refine r_if_ne (tgt := 285) d_X12_readsSitter_280 (by decide) h27 (fun c28 => ?_) (fun c28 => ?_)
          · replace h := h.1 c28
            refine r_aload_n d_X12_readsSitter_285 0 rfl rfl ?_
            refine r_getL (v := 320) 12 17 17 rfl d_X12_readsSitter_286 fl_X12_35 (by decide) (bs_ob bs_12) (ly_12_17 bs_12).1 (ly_12_17 bs_12).2.1 ?_
            refine r_iload_n d_X12_readsSitter_289 1 rfl rfl ?_
            refine r_aload_n d_X12_readsSitter_290 0 rfl rfl ?_
            refine r_getI 12 42 42 rfl d_X12_readsSitter_291 fl_X12_312 (by decide) (bs_ob bs_12) ?_
            obtain ⟨G29, eG29⟩ : ∃ y : Mem, y = st G25 320 x1 (G25 311 42) := ⟨_, rfl⟩
            replace h := h G29 eG29
            refine r_iastore d_X12_readsSitter_294 (ly_12_17 bs_12).2.2 h7 ?_
            rw [← eG29]
            refine r_aload_n d_X12_readsSitter_295 0 rfl rfl ?_
            refine r_ldc2 (x := 240049) d_X12_readsSitter_296 cst_X12_220 ?_
            refine r_bipush d_X12_readsSitter_299 (by decide +kernel) ?_
            refine r_bipush d_X12_readsSitter_301 (by decide +kernel) ?_
            refine r_callV0 (M' := M_X12_needsBoth) (ci := 12) [(1, 240049), (0, 20), (0, 40)] d_X12_readsSitter_303 cl_X12_332 rfl (Nat.le_of_ble_eq_true rfl) (by decide) rfl (bs_ob bs_12) ?_
            refine Ct.mono h (fun r31 G30 h => ?_)
            show Rn _ M_X12_readsSitter zN 306 [(0, (2, 311)), (1, (0, x1)), (2, (1, x2)), (4, (0, x4))] [(0, r31)] G30 Q
            obtain ⟨h32, h⟩ := h
            refine r_if_ne (tgt := 311) d_X12_readsSitter_306 (by decide) h32 (fun c33 => ?_) (fun c33 => ?_)
            · replace h := h.1 c33
              refine r_aload_n d_X12_readsSitter_311 0 rfl rfl ?_
              refine r_getL (v := 321) 12 18 18 rfl d_X12_readsSitter_312 fl_X12_38 (by decide) (bs_ob bs_12) (ly_12_18 bs_12).1 (ly_12_18 bs_12).2.1 ?_
              refine r_iload_n d_X12_readsSitter_315 1 rfl rfl ?_
              refine r_aload_n d_X12_readsSitter_316 0 rfl rfl ?_
              refine r_getI 12 42 42 rfl d_X12_readsSitter_317 fl_X12_312 (by decide) (bs_ob bs_12) ?_
              obtain ⟨G34, eG34⟩ : ∃ y : Mem, y = st G30 321 x1 (G30 311 42) := ⟨_, rfl⟩
              replace h := h G34 eG34
              refine r_iastore d_X12_readsSitter_320 (ly_12_18 bs_12).2.2 h7 ?_
              rw [← eG34]
              refine r_aload_n d_X12_readsSitter_321 0 rfl rfl ?_
              refine r_ldc2 (x := 279109036) d_X12_readsSitter_322 cst_X12_280 ?_
              refine r_iconst d_X12_readsSitter_325 ?_
              refine r_bipush d_X12_readsSitter_326 (by decide +kernel) ?_
              refine r_callV0 (M' := M_X12_needsBoth) (ci := 12) [(1, 279109036), (0, 0), (0, 72)] d_X12_readsSitter_328 cl_X12_332 rfl (Nat.le_of_ble_eq_true rfl) (by decide) rfl (bs_ob bs_12) ?_
              refine Ct.mono h (fun r36 G35 h => ?_)
              show Rn _ M_X12_readsSitter zN 331 [(0, (2, 311)), (1, (0, x1)), (2, (1, x2)), (4, (0, x4))] [(0, r36)] G35 Q
              obtain ⟨h37, h⟩ := h
              refine r_if_ne (tgt := 336) d_X12_readsSitter_331 (by decide) h37 (fun c38 => ?_) (fun c38 => ?_)
              · replace h := h.1 c38
                refine r_aload_n d_X12_readsSitter_336 0 rfl rfl ?_
                refine r_getL (v := 322) 12 19 19 rfl d_X12_readsSitter_337 fl_X12_41 (by decide) (bs_ob bs_12) (ly_12_19 bs_12).1 (ly_12_19 bs_12).2.1 ?_
                refine r_iload_n d_X12_readsSitter_340 1 rfl rfl ?_
                refine r_aload_n d_X12_readsSitter_341 0 rfl rfl ?_
                refine r_getI 12 42 42 rfl d_X12_readsSitter_342 fl_X12_312 (by decide) (bs_ob bs_12) ?_
                obtain ⟨G39, eG39⟩ : ∃ y : Mem, y = st G35 322 x1 (G35 311 42) := ⟨_, rfl⟩
                replace h := h G39 eG39
                refine r_iastore d_X12_readsSitter_345 (ly_12_19 bs_12).2.2 h7 ?_
                rw [← eG39]
                refine r_aload_n d_X12_readsSitter_346 0 rfl rfl ?_
                refine r_ldc2 (x := 555) d_X12_readsSitter_347 cst_X12_282 ?_
                refine r_aload_n d_X12_readsSitter_350 0 rfl rfl ?_
                refine r_getL (v := 322) 12 19 19 rfl d_X12_readsSitter_351 fl_X12_41 (by decide) (bs_ob bs_12) (ly_12_19 bs_12).1 (ly_12_19 bs_12).2.1 ?_
                refine r_iload_n d_X12_readsSitter_354 1 rfl rfl ?_
                refine r_iaload d_X12_readsSitter_355 (ly_12_19 bs_12).2.2 h7 ?_
                refine r_bipush d_X12_readsSitter_356 (by decide +kernel) ?_
                refine r_callV0 (M' := M_X12_needsBoth) (ci := 12) [(1, 555), (0, (G39 322 x1)), (0, 72)] d_X12_readsSitter_358 cl_X12_332 rfl (Nat.le_of_ble_eq_true rfl) (by decide) rfl (bs_ob bs_12) ?_
                refine Ct.mono h (fun r41 G40 h => ?_)
                show Rn _ M_X12_readsSitter zN 361 [(0, (2, 311)), (1, (0, x1)), (2, (1, x2)), (4, (0, x4))] [(0, r41)] G40 Q
                obtain ⟨h42, h⟩ := h
                refine r_if_ne (tgt := 366) d_X12_readsSitter_361 (by decide) h42 (fun c43 => ?_) (fun c43 => ?_)
                · replace h := h.1 c43
                  refine r_aload_n d_X12_readsSitter_366 0 rfl rfl ?_
                  refine r_getL (v := 323) 12 20 20 rfl d_X12_readsSitter_367 fl_X12_44 (by decide) (bs_ob bs_12) (ly_12_20 bs_12).1 (ly_12_20 bs_12).2.1 ?_
                  refine r_iload_n d_X12_readsSitter_370 1 rfl rfl ?_
                  refine r_aload_n d_X12_readsSitter_371 0 rfl rfl ?_
                  refine r_getI 12 42 42 rfl d_X12_readsSitter_372 fl_X12_312 (by decide) (bs_ob bs_12) ?_
                  obtain ⟨G44, eG44⟩ : ∃ y : Mem, y = st G40 323 x1 (G40 311 42) := ⟨_, rfl⟩
                  replace h := h G44 eG44
                  refine r_iastore d_X12_readsSitter_375 (ly_12_20 bs_12).2.2 h7 ?_
                  rw [← eG44]
                  refine r_aload_n d_X12_readsSitter_376 0 rfl rfl ?_
                  refine r_getL (v := 313) 12 10 10 rfl d_X12_readsSitter_377 fl_X12_13 (by decide) (bs_ob bs_12) (ly_12_10 bs_12).1 (ly_12_10 bs_12).2.1 ?_
                  refine r_bipush d_X12_readsSitter_380 (by decide +kernel) ?_
                  refine r_dup2 0 2 rfl rfl (by decide) (by decide) d_X12_readsSitter_382 ?_
                  refine r_iaload d_X12_readsSitter_383 (ly_12_10 bs_12).2.2 (by decide) ?_
                  refine r_iconst d_X12_readsSitter_384 ?_
                  refine r_iadd d_X12_readsSitter_385 ?_
                  obtain ⟨G45, eG45⟩ : ∃ y : Mem, y = st G44 313 20 ((G44 313 20) + 1) := ⟨_, rfl⟩
                  replace h := h G45 eG45
                  refine r_iastore d_X12_readsSitter_386 (ly_12_10 bs_12).2.2 (by decide) ?_
                  rw [← eG45]
                  refine r_aload_n d_X12_readsSitter_387 0 rfl rfl ?_
                  refine r_callV0 (M' := M_X12_ends) (ci := 12) [] d_X12_readsSitter_388 cl_X12_336 rfl (Nat.le_of_ble_eq_true rfl) (by decide) rfl (bs_ob bs_12) ?_
                  refine Ct.mono h (fun r47 G46 h => ?_)
                  show Rn _ M_X12_readsSitter zN 391 [(0, (2, 311)), (1, (0, x1)), (2, (1, x2)), (4, (0, x4))] [(0, r47)] G46 Q
                  exact r_zreturn d_X12_readsSitter_391 rfl ⟨rfl, Nat.le_refl _, Nat.le_refl _⟩ h.1 h.2
                · replace h := h.2 c43
                  refine r_iconst d_X12_readsSitter_364 ?_
                  exact r_zreturn d_X12_readsSitter_365 rfl ⟨rfl, Nat.le_refl _, Nat.le_refl _⟩ (by decide) h
              · replace h := h.2 c38
                refine r_iconst d_X12_readsSitter_334 ?_
                exact r_zreturn d_X12_readsSitter_335 rfl ⟨rfl, Nat.le_refl _, Nat.le_refl _⟩ (by decide) h
            · replace h := h.2 c33
              refine r_iconst d_X12_readsSitter_309 ?_
              exact r_zreturn d_X12_readsSitter_310 rfl ⟨rfl, Nat.le_refl _, Nat.le_refl _⟩ (by decide) h
          · replace h := h.2 c28
            refine r_iconst d_X12_readsSitter_283 ?_
            exact r_zreturn d_X12_readsSitter_284 rfl ⟨rfl, Nat.le_refl _, Nat.le_refl _⟩ (by decide) h
        · replace h := h.2 c23
          refine r_iconst d_X12_readsSitter_258 ?_
          exact r_zreturn d_X12_readsSitter_259 rfl ⟨rfl, Nat.le_refl _, Nat.le_refl _⟩ (by decide) h
      · replace h := h.2 c18
        refine r_iconst d_X12_readsSitter_233 ?_
        exact r_zreturn d_X12_readsSitter_234 rfl ⟨rfl, Nat.le_refl _, Nat.le_refl _⟩ (by decide) h
    · replace h := h.2 c13
      refine r_iconst d_X12_readsSitter_208 ?_
      exact r_zreturn d_X12_readsSitter_209 rfl ⟨rfl, Nat.le_refl _, Nat.le_refl _⟩ (by decide) h
  · replace h := h.2 c4
    refine r_iconst d_X12_readsSitter_166 ?_
    exact r_zreturn d_X12_readsSitter_167 rfl ⟨rfl, Nat.le_refl _, Nat.le_refl _⟩ (by decide) h
