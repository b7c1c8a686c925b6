/-! aisle and beer of the class: what they answer, when they throw -/
theorem d_X11_aisle_0 : decode cX11_aisle 0 = .ok (.aload_n 0, 1) := by decide +kernel
theorem d_X11_aisle_1 : decode cX11_aisle 1 = .ok (.iload_n 1, 1) := by decide +kernel
theorem d_X11_aisle_2 : decode cX11_aisle 2 = .ok (.invokevirtual 119, 3) := by decide +kernel
theorem d_X11_aisle_5 : decode cX11_aisle 5 = .ok (.ifCond .ne 14, 3) := by decide +kernel
theorem d_X11_aisle_8 : decode cX11_aisle 8 = .ok (.new 302, 3) := by decide +kernel
theorem d_X11_aisle_11 : decode cX11_aisle 11 = .ok (.dup, 1) := by decide +kernel
theorem d_X11_aisle_12 : decode cX11_aisle 12 = .ok (.ldc_w 304, 3) := by decide +kernel
theorem d_X11_aisle_15 : decode cX11_aisle 15 = .ok (.invokespecial 306, 3) := by decide +kernel
theorem d_X11_aisle_18 : decode cX11_aisle 18 = .ok (.athrow, 1) := by decide +kernel
theorem d_X11_aisle_19 : decode cX11_aisle 19 = .ok (.aload_n 0, 1) := by decide +kernel
theorem d_X11_aisle_20 : decode cX11_aisle 20 = .ok (.getfield 40, 3) := by decide +kernel
theorem d_X11_aisle_23 : decode cX11_aisle 23 = .ok (.aload_n 0, 1) := by decide +kernel
theorem d_X11_aisle_24 : decode cX11_aisle 24 = .ok (.getfield 54, 3) := by decide +kernel
theorem d_X11_aisle_27 : decode cX11_aisle 27 = .ok (.iload_n 1, 1) := by decide +kernel
theorem d_X11_aisle_28 : decode cX11_aisle 28 = .ok (.invokevirtual 309, 3) := by decide +kernel
theorem d_X11_aisle_31 : decode cX11_aisle 31 = .ok (.ireturn, 1) := by decide +kernel
theorem d_X11_beer_0 : decode cX11_beer 0 = .ok (.aload_n 0, 1) := by decide +kernel
theorem d_X11_beer_1 : decode cX11_beer 1 = .ok (.iload_n 1, 1) := by decide +kernel
theorem d_X11_beer_2 : decode cX11_beer 2 = .ok (.invokevirtual 119, 3) := by decide +kernel
theorem d_X11_beer_5 : decode cX11_beer 5 = .ok (.ifCond .eq 20, 3) := by decide +kernel
theorem d_X11_beer_8 : decode cX11_beer 8 = .ok (.aload_n 0, 1) := by decide +kernel
theorem d_X11_beer_9 : decode cX11_beer 9 = .ok (.getfield 54, 3) := by decide +kernel
theorem d_X11_beer_12 : decode cX11_beer 12 = .ok (.getfield 123, 3) := by decide +kernel
theorem d_X11_beer_15 : decode cX11_beer 15 = .ok (.iload_n 1, 1) := by decide +kernel
theorem d_X11_beer_16 : decode cX11_beer 16 = .ok (.aaload, 1) := by decide +kernel
theorem d_X11_beer_17 : decode cX11_beer 17 = .ok (.getfield 313, 3) := by decide +kernel
theorem d_X11_beer_20 : decode cX11_beer 20 = .ok (.bipush 9, 2) := by decide +kernel
theorem d_X11_beer_22 : decode cX11_beer 22 = .ok (.if_icmp .lt 14, 3) := by decide +kernel
theorem d_X11_beer_25 : decode cX11_beer 25 = .ok (.new 302, 3) := by decide +kernel
theorem d_X11_beer_28 : decode cX11_beer 28 = .ok (.dup, 1) := by decide +kernel
theorem d_X11_beer_29 : decode cX11_beer 29 = .ok (.ldc_w 316, 3) := by decide +kernel
theorem d_X11_beer_32 : decode cX11_beer 32 = .ok (.invokespecial 306, 3) := by decide +kernel
theorem d_X11_beer_35 : decode cX11_beer 35 = .ok (.athrow, 1) := by decide +kernel
theorem d_X11_beer_36 : decode cX11_beer 36 = .ok (.aload_n 0, 1) := by decide +kernel
theorem d_X11_beer_37 : decode cX11_beer 37 = .ok (.getfield 40, 3) := by decide +kernel
theorem d_X11_beer_40 : decode cX11_beer 40 = .ok (.aload_n 0, 1) := by decide +kernel
theorem d_X11_beer_41 : decode cX11_beer 41 = .ok (.getfield 54, 3) := by decide +kernel
theorem d_X11_beer_44 : decode cX11_beer 44 = .ok (.invokevirtual 269, 3) := by decide +kernel
theorem d_X11_beer_47 : decode cX11_beer 47 = .ok (.aload_n 0, 1) := by decide +kernel
theorem d_X11_beer_48 : decode cX11_beer 48 = .ok (.getfield 40, 3) := by decide +kernel
theorem d_X11_beer_51 : decode cX11_beer 51 = .ok (.aload_n 0, 1) := by decide +kernel
theorem d_X11_beer_52 : decode cX11_beer 52 = .ok (.getfield 54, 3) := by decide +kernel
theorem d_X11_beer_55 : decode cX11_beer 55 = .ok (.iconst (-1), 1) := by decide +kernel
theorem d_X11_beer_56 : decode cX11_beer 56 = .ok (.invokevirtual 272, 3) := by decide +kernel
theorem d_X11_beer_59 : decode cX11_beer 59 = .ok (.aload_n 0, 1) := by decide +kernel
theorem d_X11_beer_60 : decode cX11_beer 60 = .ok (.getfield 40, 3) := by decide +kernel
theorem d_X11_beer_63 : decode cX11_beer 63 = .ok (.aload_n 0, 1) := by decide +kernel
theorem d_X11_beer_64 : decode cX11_beer 64 = .ok (.getfield 54, 3) := by decide +kernel
theorem d_X11_beer_67 : decode cX11_beer 67 = .ok (.invokevirtual 284, 3) := by decide +kernel
theorem d_X11_beer_70 : decode cX11_beer 70 = .ok (.istore_n 2, 1) := by decide +kernel
theorem d_X11_beer_71 : decode cX11_beer 71 = .ok (.aload_n 0, 1) := by decide +kernel
theorem d_X11_beer_72 : decode cX11_beer 72 = .ok (.getfield 40, 3) := by decide +kernel
theorem d_X11_beer_75 : decode cX11_beer 75 = .ok (.aload_n 0, 1) := by decide +kernel
theorem d_X11_beer_76 : decode cX11_beer 76 = .ok (.getfield 54, 3) := by decide +kernel
theorem d_X11_beer_79 : decode cX11_beer 79 = .ok (.iload_n 1, 1) := by decide +kernel
theorem d_X11_beer_80 : decode cX11_beer 80 = .ok (.invokevirtual 272, 3) := by decide +kernel
theorem d_X11_beer_83 : decode cX11_beer 83 = .ok (.aload_n 0, 1) := by decide +kernel
theorem d_X11_beer_84 : decode cX11_beer 84 = .ok (.getfield 40, 3) := by decide +kernel
theorem d_X11_beer_87 : decode cX11_beer 87 = .ok (.aload_n 0, 1) := by decide +kernel
theorem d_X11_beer_88 : decode cX11_beer 88 = .ok (.getfield 54, 3) := by decide +kernel
theorem d_X11_beer_91 : decode cX11_beer 91 = .ok (.invokevirtual 284, 3) := by decide +kernel
theorem d_X11_beer_94 : decode cX11_beer 94 = .ok (.iload_n 2, 1) := by decide +kernel
theorem d_X11_beer_95 : decode cX11_beer 95 = .ok (.isub, 1) := by decide +kernel
theorem d_X11_beer_96 : decode cX11_beer 96 = .ok (.ireturn, 1) := by decide +kernel
theorem cl_X11_309 : clV RX11 309 M_X2_saved 2 := ⟨⟨by decide, gk6 92 rfl rfl, (gk1 6 rfl rfl), ⟨by decide +kernel, by decide +kernel, by decide +kernel⟩, (gk6 89 rfl rfl)⟩, (gk6 90 rfl rfl), (gk6 91 rfl rfl)⟩
theorem fl_X11_313 : flok RX11 313 7 2 := ⟨by decide, _, rfl, by decide, (gk2 104 rfl rfl)⟩
section XBODY
variable {d : Nat} {G : Mem} {Q : Int → Mem → Prop} {QX : Mem → Prop} {c : Int} {fs : Int → Law} {s : Int}
theorem x_aisle (hI : Inv0 G G c fs) (is : InR s) (h1 : 0 ≤ s ∧ s < G c 8 → ∀ r G1, AisR G c fs s r → ClF c G G1 → Q r G1) (h0 : ¬ (0 ≤ s ∧ s < G c 8) → QX G) : CtX (d + 8) M_X11_aisle 1 6 [(2, 0), (0, s)] G Q QX := by
  have hC := hI.cls
  have hc := hC.1
  refine CtX.of (by decide +kernel) (Nat.le_of_ble_eq_true rfl) ?_
  show Rg (rmD (d + 8) 1 6) KXx M_X11_aisle (NT, 0, 0, 0, 0, some lay) 0 [(0, (2, 0)), (1, (0, s))] [] G _
  refine g_aload_n d_X11_aisle_0 0 rfl rfl (g_iload_n d_X11_aisle_1 1 rfl rfl (g_callV (d := d + 7) (mc' := 0) (ms' := 0) (M' := M_X11_known) (ci := 11) [(0, s)] d_X11_aisle_2 cl_X11_119 rfl (Nat.le_of_ble_eq_true rfl) ⟨Nat.le_of_ble_eq_true rfl, Nat.le_of_ble_eq_true rfl⟩ ⟨Nat.le_refl _, Nat.le_refl _⟩ (by decide) rfl (bs_ob bs_11) (c_X11_known hC is (fun q => ?_) (fun q => ?_))))
  · show Rg (rmD (d + 8) 1 6) KXx M_X11_aisle (NT, 0, 0, 0, 0, some lay) 5 [(0, (2, 0)), (1, (0, s))] [(0, 1)] G _
    refine g_if_ne (tgt := 19) d_X11_aisle_5 (by decide) (by decide) (fun _ => ?_) (fun z => absurd (by decide) z)
    refine g_aload_n d_X11_aisle_19 0 rfl rfl (g_getL (v := 19) 11 4 4 rfl d_X11_aisle_20 fl_X11_40 (by decide) (bs_ob bs_11) (ly_11_4 bs_11).1 (ly_11_4 bs_11).2.1 (g_aload_n d_X11_aisle_23 0 rfl rfl (g_getM (v := c) 11 13 13 rfl d_X11_aisle_24 fl_X11_54 (by decide) (bs_ob bs_11) hc (bs_nn hC.2.1) (g_iload_n d_X11_aisle_27 1 rfl rfl (g_callV (d := d + 7) (mc' := 0) (ms' := 0) (M' := M_X2_saved) (ci := 2) [(2, c), (0, s)] d_X11_aisle_28 cl_X11_309 rfl (Nat.le_of_ble_eq_true rfl) ⟨Nat.le_of_ble_eq_true rfl, Nat.le_of_ble_eq_true rfl⟩ ⟨Nat.le_refl _, Nat.le_refl _⟩ (by decide) rfl (bs_ob (ly_11_4 bs_11).2.2) (c_saved hI q (fun r G1 hr hf => ?_)))))))
    exact x_ireturn d_X11_aisle_31 rfl ⟨Nat.le_of_ble_eq_true rfl, Nat.le_of_ble_eq_true rfl⟩ (h1 q r G1 hr hf)
  · show Rg (rmD (d + 8) 1 6) KXx M_X11_aisle (NT, 0, 0, 0, 0, some lay) 5 [(0, (2, 0)), (1, (0, s))] [(0, 0)] G _
    refine g_if_ne (tgt := 19) d_X11_aisle_5 (by decide) (by decide) (fun z => absurd rfl z) (fun _ => ?_)
    exact x_throw (is := 304) (text := "no such sitter") rfl (Or.inl ⟨rfl, rfl⟩) d_X11_aisle_8 d_X11_aisle_11 d_X11_aisle_12 d_X11_aisle_15 d_X11_aisle_18 ⟨by show 5 < d + 8; omega, by show 82 ≤ 64 * (d + 8); omega, Nat.le_refl _, Nat.le_refl _⟩ ⟨Nat.le_refl _, Nat.le_refl _⟩ (h0 q)
theorem x_beer (hI : Inv0 G G c fs) (is : InR s) (h1 : (0 ≤ s ∧ s < G c 8) ∧ G (c + 13 + s) 2 < 9 → ∀ r G1, BeeR G c fs s r → ClF c G G1 → Q r G1) (h0 : ¬ ((0 ≤ s ∧ s < G c 8) ∧ G (c + 13 + s) 2 < 9) → QX G) : CtX (d + 8) M_X11_beer 1 6 [(2, 0), (0, s)] G Q QX := by
  have hC := hI.cls
  have hc := hC.1
  have h37 := hI.1.2.2.1
  have r := hC.rng
  obtain ⟨fl, t11, on⟩ := toldOk hI
  have f1 : OnF G (cpy G (c + 2) 0 31 0 5) := OnF.cpy
  have hS1 := hI.hsx.on f1
  obtain ⟨T1, hT1⟩ : ∃ T1, T1 = cpy G (c + 2) 0 31 0 5 := ⟨_, rfl⟩
  rw [← hT1] at on fl f1 hS1 t11
  obtain ⟨k1, k2, k3, k4⟩ := flyT_ok (fs := fs) (th := -1) hI.2.1 fl
  have bad : ¬ ((0 ≤ s ∧ s < G c 8) ∧ G (c + 13 + s) 2 < 9) → Rg (rmD (d + 8) 1 6) KXx M_X11_beer (NT, 0, 0, 0, 0, some lay) 25 [(0, (2, 0)), (1, (0, s))] [] G (ZXx M_X11_beer 1 6 Q QX) := fun q =>
    x_throw (is := 316) (text := "no such sitter, or needs are 9") rfl (Or.inr ⟨rfl, rfl⟩) d_X11_beer_25 d_X11_beer_28 d_X11_beer_29 d_X11_beer_32 d_X11_beer_35 ⟨by show 5 < d + 8; omega, by show 82 ≤ 64 * (d + 8); omega, Nat.le_refl _, Nat.le_refl _⟩ ⟨Nat.le_refl _, Nat.le_refl _⟩ (h0 q)
  refine CtX.of (by decide +kernel) (Nat.le_of_ble_eq_true rfl) ?_
  show Rg (rmD (d + 8) 1 6) KXx M_X11_beer (NT, 0, 0, 0, 0, some lay) 0 [(0, (2, 0)), (1, (0, s))] [] G _
  refine g_aload_n d_X11_beer_0 0 rfl rfl (g_iload_n d_X11_beer_1 1 rfl rfl (g_callV (d := d + 7) (mc' := 0) (ms' := 0) (M' := M_X11_known) (ci := 11) [(0, s)] d_X11_beer_2 cl_X11_119 rfl (Nat.le_of_ble_eq_true rfl) ⟨Nat.le_of_ble_eq_true rfl, Nat.le_of_ble_eq_true rfl⟩ ⟨Nat.le_refl _, Nat.le_refl _⟩ (by decide) rfl (bs_ob bs_11) (c_X11_known hC is (fun q => ?_) (fun q => ?_))))
  rotate_left
  · show Rg (rmD (d + 8) 1 6) KXx M_X11_beer (NT, 0, 0, 0, 0, some lay) 5 [(0, (2, 0)), (1, (0, s))] [(0, 0)] G _
    exact g_if_eq (tgt := 25) d_X11_beer_5 (by decide) (by decide) (fun _ => bad (fun z => q z.1)) (fun z => absurd rfl z)
  show Rg (rmD (d + 8) 1 6) KXx M_X11_beer (NT, 0, 0, 0, 0, some lay) 5 [(0, (2, 0)), (1, (0, s))] [(0, 1)] G _
  have h9 := hC.2.1
  have so := (hI.2.1.sok q.1 q.2).2.2.1
  have s5 : 0 ≤ s ∧ s < 5 := by omega
  refine g_if_eq (tgt := 25) d_X11_beer_5 (by decide) (by decide) (fun z => absurd z (by decide)) (fun _ => ?_)
  refine g_aload_n d_X11_beer_8 0 rfl rfl (g_getM (v := c) 11 13 13 rfl d_X11_beer_9 fl_X11_54 (by decide) (bs_ob bs_11) hc (bs_nn h9) (g_getL (v := (c + 1)) 1 0 0 rfl d_X11_beer_12 fl_X11_123 (by decide) (bs_ob h9) (ly_1_0 h9).1 (ly_1_0 h9).2.1 (g_iload_n d_X11_beer_15 1 rfl rfl (g_aaloadL (v := ((c + 13) + s)) d_X11_beer_16 (ly_1_0 h9).2.2 (by decide) rfl s5 (el_1_0 h9 s5.1 s5.2).1 (el_1_0 h9 s5.1 s5.2).2.1 (g_getI 7 2 2 rfl d_X11_beer_17 fl_X11_313 (by decide) (bs_ob (el_1_0 h9 s5.1 s5.2).2.2) (g_bipush d_X11_beer_20 (by decide +kernel) (g_icmp_lt (tgt := 36) d_X11_beer_22 (by decide) (by omega) (by decide) (fun n9 => ?_) (fun n9 => bad (fun z => n9 z.2)))))))))
  refine g_aload_n d_X11_beer_36 0 rfl rfl (g_getL (v := 19) 11 4 4 rfl d_X11_beer_37 fl_X11_40 (by decide) (bs_ob bs_11) (ly_11_4 bs_11).1 (ly_11_4 bs_11).2.1 (g_aload_n d_X11_beer_40 0 rfl rfl (g_getM (v := c) 11 13 13 rfl d_X11_beer_41 fl_X11_54 (by decide) (bs_ob bs_11) hc (bs_nn h9) (g_callV (d := d + 7) (mc' := 0) (ms' := 0) (M' := M_X2_seatAsTold) (ci := 2) [(2, c)] d_X11_beer_44 cl_X11_269 rfl (Nat.le_of_ble_eq_true rfl) ⟨Nat.le_of_ble_eq_true rfl, Nat.le_of_ble_eq_true rfl⟩ ⟨Nat.le_refl _, Nat.le_refl _⟩ (by decide) rfl (bs_ob (ly_11_4 bs_11).2.2) (c_seatAsTold h9 ?_)))))
  rw [← hT1]
  show Rg (rmD (d + 8) 1 6) KXx M_X11_beer (NT, 0, 0, 0, 0, some lay) 47 [(0, (2, 0)), (1, (0, s))] [] T1 _
  have hc1 : T1 0 13 = c := by rw [f1 _ _ (by decide)]; exact hc
  refine g_aload_n d_X11_beer_47 0 rfl rfl (g_getL (v := 19) 11 4 4 rfl d_X11_beer_48 fl_X11_40 (by decide) (bs_ob bs_11) (ly_11_4 bs_11).1 (ly_11_4 bs_11).2.1 (g_aload_n d_X11_beer_51 0 rfl rfl (g_getM (v := c) 11 13 13 rfl d_X11_beer_52 fl_X11_54 (by decide) (bs_ob bs_11) hc1 (bs_nn h9) (g_iconst d_X11_beer_55 (g_callV (d := d + 7) (mc' := 0) (ms' := 0) (M' := M_X2_fly) (ci := 2) [(2, c), (0, (-1))] d_X11_beer_56 cl_X11_272 rfl (Nat.le_of_ble_eq_true rfl) ⟨Nat.le_of_ble_eq_true rfl, Nat.le_of_ble_eq_true rfl⟩ ⟨Nat.le_refl _, Nat.le_refl _⟩ (by decide) rfl (bs_ob (ly_11_4 bs_11).2.2) (c_fly hS1 HE.rf.hb fl.1 fl.2.1 fl.2.2 (by decide) (fun G3 f3 h3 => ?_)))))))
  show Rg (rmD (d + 8) 1 6) KXx M_X11_beer (NT, 0, 0, 0, 0, some lay) 59 [(0, (2, 0)), (1, (0, s))] [] G3 _
  have hS3 := hS1.mv f3
  have hc3 : G3 0 13 = c := hS3.1.1
  refine g_aload_n d_X11_beer_59 0 rfl rfl (g_getL (v := 19) 11 4 4 rfl d_X11_beer_60 fl_X11_40 (by decide) (bs_ob bs_11) (ly_11_4 bs_11).1 (ly_11_4 bs_11).2.1 (g_aload_n d_X11_beer_63 0 rfl rfl (g_getM (v := c) 11 13 13 rfl d_X11_beer_64 fl_X11_54 (by decide) (bs_ob bs_11) hc3 (bs_nn h9) (g_callV (d := d + 7) (mc' := 0) (ms' := 0) (M' := M_X2_pence) (ci := 2) [(2, c)] d_X11_beer_67 cl_X11_284 rfl (Nat.le_of_ble_eq_true rfl) ⟨Nat.le_of_ble_eq_true rfl, Nat.le_of_ble_eq_true rfl⟩ ⟨Nat.le_refl _, Nat.le_refl _⟩ (by decide) rfl (bs_ob (ly_11_4 bs_11).2.2) (c_pence_C hS3 h3 ?_)))))
  show Rg (rmD (d + 8) 1 6) KXx M_X11_beer (NT, 0, 0, 0, 0, some lay) 70 [(0, (2, 0)), (1, (0, s))] [(0, penT G c (flyT G c fs (-1) T1))] G3 _
  refine g_istore_n (ls1 := [(2, (0, penT G c (flyT G c fs (-1) T1))), (0, (2, 0)), (1, (0, s))]) d_X11_beer_70 rfl (by decide) rfl ?_
  have on3 : ∀ k, G3 31 k = T1 31 k := fun k => by
    by_cases q : 0 ≤ k ∧ k < G c 6
    · exact (h3.on q).trans (k3 k)
    · exact f3 31 k (by omega) (by omega) (by omega) (by omega)
  have d3 : G3 19 11 = 0 := by rw [h3.c11, k4, t11]
  have fl3 : FlOk G c G3 := ⟨fun k k0 k1 => by rw [on3 k]; exact fl.1 k k0 k1, fun z => by omega, Or.inl d3⟩
  refine g_aload_n d_X11_beer_71 1 rfl rfl (g_getL (v := 19) 11 4 4 rfl d_X11_beer_72 fl_X11_40 (by decide) (bs_ob bs_11) (ly_11_4 bs_11).1 (ly_11_4 bs_11).2.1 (g_aload_n d_X11_beer_75 1 rfl rfl (g_getM (v := c) 11 13 13 rfl d_X11_beer_76 fl_X11_54 (by decide) (bs_ob bs_11) hc3 (bs_nn h9) (g_iload_n d_X11_beer_79 2 rfl rfl (g_callV (d := d + 7) (mc' := 0) (ms' := 0) (M' := M_X2_fly) (ci := 2) [(2, c), (0, s)] d_X11_beer_80 cl_X11_272 rfl (Nat.le_of_ble_eq_true rfl) ⟨Nat.le_of_ble_eq_true rfl, Nat.le_of_ble_eq_true rfl⟩ ⟨Nat.le_refl _, Nat.le_refl _⟩ (by decide) rfl (bs_ob (ly_11_4 bs_11).2.2) (c_fly hS3 HE.rf.hb fl3.1 fl3.2.1 fl3.2.2 is (fun G6 f6 h6 => ?_)))))))
  show Rg (rmD (d + 8) 1 6) KXx M_X11_beer (NT, 0, 0, 0, 0, some lay) 83 [(2, (0, penT G c (flyT G c fs (-1) T1))), (0, (2, 0)), (1, (0, s))] [] G6 _
  have hS6 := hS3.mv f6
  have hc6 : G6 0 13 = c := hS6.1.1
  refine g_aload_n d_X11_beer_83 1 rfl rfl (g_getL (v := 19) 11 4 4 rfl d_X11_beer_84 fl_X11_40 (by decide) (bs_ob bs_11) (ly_11_4 bs_11).1 (ly_11_4 bs_11).2.1 (g_aload_n d_X11_beer_87 1 rfl rfl (g_getM (v := c) 11 13 13 rfl d_X11_beer_88 fl_X11_54 (by decide) (bs_ob bs_11) hc6 (bs_nn h9) (g_callV (d := d + 7) (mc' := 0) (ms' := 0) (M' := M_X2_pence) (ci := 2) [(2, c)] d_X11_beer_91 cl_X11_284 rfl (Nat.le_of_ble_eq_true rfl) ⟨Nat.le_of_ble_eq_true rfl, Nat.le_of_ble_eq_true rfl⟩ ⟨Nat.le_refl _, Nat.le_refl _⟩ (by decide) rfl (bs_ob (ly_11_4 bs_11).2.2) (c_pence_C hS6 h6 ?_)))))
  show Rg (rmD (d + 8) 1 6) KXx M_X11_beer (NT, 0, 0, 0, 0, some lay) 94 [(2, (0, penT G c (flyT G c fs (-1) T1))), (0, (2, 0)), (1, (0, s))] [(0, penT G c (flyT G c fs s G3))] G6 _
  refine g_iload_n d_X11_beer_94 0 rfl rfl (g_isub d_X11_beer_95 (x_ireturn d_X11_beer_96 rfl ⟨Nat.le_of_ble_eq_true rfl, Nat.le_of_ble_eq_true rfl⟩ (h1 ⟨q, n9⟩ _ G6 ⟨T1, G3, ⟨fl, t11, on⟩, ⟨fl3, d3, fun k k0 k1 => by rw [on3 k]; exact on k k0 k1⟩, rfl⟩ ?_)))
  exact (f1.cl.tr (f3.cl h37)).tr (f6.cl h37)
end XBODY
