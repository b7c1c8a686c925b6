/-! constructors of the classes that make arrays alone -/
theorem d_X0_init_0 : decode cX0_init 0 = .ok (.aload_n 0, 1) := by decide +kernel
theorem d_X0_init_1 : decode cX0_init 1 = .ok (.invokespecial 3, 3) := by decide +kernel
theorem d_X0_init_4 : decode cX0_init 4 = .ok (.aload_n 0, 1) := by decide +kernel
theorem d_X0_init_5 : decode cX0_init 5 = .ok (.iconst 5, 1) := by decide +kernel
theorem d_X0_init_6 : decode cX0_init 6 = .ok (.newarray .int, 2) := by decide +kernel
theorem d_X0_init_8 : decode cX0_init 8 = .ok (.putfield 9, 3) := by decide +kernel
theorem d_X0_init_11 : decode cX0_init 11 = .ok (.aload_n 0, 1) := by decide +kernel
theorem d_X0_init_12 : decode cX0_init 12 = .ok (.iconst 5, 1) := by decide +kernel
theorem d_X0_init_13 : decode cX0_init 13 = .ok (.newarray .int, 2) := by decide +kernel
theorem d_X0_init_15 : decode cX0_init 15 = .ok (.putfield 15, 3) := by decide +kernel
theorem d_X0_init_18 : decode cX0_init 18 = .ok (.aload_n 0, 1) := by decide +kernel
theorem d_X0_init_19 : decode cX0_init 19 = .ok (.bipush 10, 2) := by decide +kernel
theorem d_X0_init_21 : decode cX0_init 21 = .ok (.newarray .int, 2) := by decide +kernel
theorem d_X0_init_23 : decode cX0_init 23 = .ok (.putfield 18, 3) := by decide +kernel
theorem d_X0_init_26 : decode cX0_init 26 = .ok (.aload_n 0, 1) := by decide +kernel
theorem d_X0_init_27 : decode cX0_init 27 = .ok (.iconst 5, 1) := by decide +kernel
theorem d_X0_init_28 : decode cX0_init 28 = .ok (.newarray .int, 2) := by decide +kernel
theorem d_X0_init_30 : decode cX0_init 30 = .ok (.putfield 21, 3) := by decide +kernel
theorem d_X0_init_33 : decode cX0_init 33 = .ok (.aload_n 0, 1) := by decide +kernel
theorem d_X0_init_34 : decode cX0_init 34 = .ok (.iconst 4, 1) := by decide +kernel
theorem d_X0_init_35 : decode cX0_init 35 = .ok (.newarray .int, 2) := by decide +kernel
theorem d_X0_init_37 : decode cX0_init 37 = .ok (.putfield 24, 3) := by decide +kernel
theorem d_X0_init_40 : decode cX0_init 40 = .ok (.return_, 1) := by decide +kernel
theorem frq_0 : ∀ b ∈ basL.getD 0 [], ∀ k ∈ List.range (nf 0), ((k : Int) ∈ ([4, 3, 2, 1, 0] : List Int) ∨ dfl 0 (k : Int) = Fz b (k : Int)) := by decide +kernel
theorem i_0 {d : Nat} {G : Mem} {Q : Int → Mem → Prop} (hd : ∀ k : Nat, k < nf 0 → G 6 k = dfl 0 k) (h : ∀ G1, (∀ q k : Int, q < 6 → G1 q k = G q k) → Fr Fz G1 6 12 → Q 0 G1) : Ct (d + 1) M_X0_init 7 5 29 none [(2, 6)] G Q := by
  refine Ct.of (by decide +kernel) (Nat.le_of_ble_eq_true rfl) ?_
  show Rn (d + 1) M_X0_init (7, 0, 0, 5, 29, none) 0 [(0, (2, 6))] [] G Q
  have P0 : PA Fz 6 G G 7 [] := PA.rf (by omega)
  refine r_aload_n d_X0_init_0 0 rfl rfl (r_obj d_X0_init_1 (gk1 97 rfl rfl) (Nat.le_of_ble_eq_true rfl) ?_)
  refine r_aload_n d_X0_init_4 0 rfl rfl (r_iconst d_X0_init_5 (n_arr (ci := 0) (f := 0) (fI := 0) (len := 5) (t := 0) (q := 7) P0 rfl d_X0_init_6 d_X0_init_8 rfl (by decide) (gk1 91 rfl rfl) fl_X0_9 (by decide) (fun r hr => by cases hr; exact ⟨rfl, rfl⟩) rfl bs_0 (by omega) (by omega) (ly_0_0 bs_0).2.2 (Fz_lay (ly_0_0 bs_0)) (Fz_arr (ly_0_0 bs_0).2.2 (by decide)) (by decide) ⟨by decide, by decide⟩ (fun G1 P1 => ?_)))
  show Rn (d + 1) M_X0_init (8, 1, 5, 5, 29, none) 11 [(0, (2, 6))] [] G1 Q
  refine r_aload_n d_X0_init_11 0 rfl rfl (r_iconst d_X0_init_12 (n_arr (ci := 0) (f := 1) (fI := 1) (len := 5) (t := 0) (q := 8) P1 rfl d_X0_init_13 d_X0_init_15 rfl (by decide) (gk1 91 rfl rfl) fl_X0_15 (by decide) (fun r hr => by cases hr; exact ⟨rfl, rfl⟩) rfl bs_0 (by omega) (by omega) (ly_0_1 bs_0).2.2 (Fz_lay (ly_0_1 bs_0)) (Fz_arr (ly_0_1 bs_0).2.2 (by decide)) (by decide) ⟨by decide, by decide⟩ (fun G2 P2 => ?_)))
  show Rn (d + 1) M_X0_init (9, 2, 10, 5, 29, none) 18 [(0, (2, 6))] [] G2 Q
  refine r_aload_n d_X0_init_18 0 rfl rfl (r_bipush d_X0_init_19 (by decide +kernel) (n_arr (ci := 0) (f := 2) (fI := 2) (len := 10) (t := 0) (q := 9) P2 rfl d_X0_init_21 d_X0_init_23 rfl (by decide) (gk1 91 rfl rfl) fl_X0_18 (by decide) (fun r hr => by cases hr; exact ⟨rfl, rfl⟩) rfl bs_0 (by omega) (by omega) (ly_0_2 bs_0).2.2 (Fz_lay (ly_0_2 bs_0)) (Fz_arr (ly_0_2 bs_0).2.2 (by decide)) (by decide) ⟨by decide, by decide⟩ (fun G3 P3 => ?_)))
  show Rn (d + 1) M_X0_init (10, 3, 20, 5, 29, none) 26 [(0, (2, 6))] [] G3 Q
  refine r_aload_n d_X0_init_26 0 rfl rfl (r_iconst d_X0_init_27 (n_arr (ci := 0) (f := 3) (fI := 3) (len := 5) (t := 0) (q := 10) P3 rfl d_X0_init_28 d_X0_init_30 rfl (by decide) (gk1 91 rfl rfl) fl_X0_21 (by decide) (fun r hr => by cases hr; exact ⟨rfl, rfl⟩) rfl bs_0 (by omega) (by omega) (ly_0_3 bs_0).2.2 (Fz_lay (ly_0_3 bs_0)) (Fz_arr (ly_0_3 bs_0).2.2 (by decide)) (by decide) ⟨by decide, by decide⟩ (fun G4 P4 => ?_)))
  show Rn (d + 1) M_X0_init (11, 4, 25, 5, 29, none) 33 [(0, (2, 6))] [] G4 Q
  refine r_aload_n d_X0_init_33 0 rfl rfl (r_iconst d_X0_init_34 (n_arr (ci := 0) (f := 4) (fI := 4) (len := 4) (t := 0) (q := 11) P4 rfl d_X0_init_35 d_X0_init_37 rfl (by decide) (gk1 91 rfl rfl) fl_X0_24 (by decide) (fun r hr => by cases hr; exact ⟨rfl, rfl⟩) rfl bs_0 (by omega) (by omega) (ly_0_4 bs_0).2.2 (Fz_lay (ly_0_4 bs_0)) (Fz_arr (ly_0_4 bs_0).2.2 (by decide)) (by decide) ⟨by decide, by decide⟩ (fun G5 P5 => ?_)))
  show Rn (d + 1) M_X0_init (12, 5, 29, 5, 29, none) 40 [(0, (2, 6))] [] G5 Q
  refine r_ret d_X0_init_40 rfl ⟨by omega, Nat.le_refl _, Nat.le_refl _⟩ (h G5 P5.1 (fun q k q0 q1 k0 k1 => ?_))
  exact PA.fin frq_0 bs_0 P5 hd (by omega) q k q0 q1 k0 k1
theorem d_X3_init_0 : decode cX3_init 0 = .ok (.aload_n 0, 1) := by decide +kernel
theorem d_X3_init_1 : decode cX3_init 1 = .ok (.invokespecial 3, 3) := by decide +kernel
theorem d_X3_init_4 : decode cX3_init 4 = .ok (.aload_n 0, 1) := by decide +kernel
theorem d_X3_init_5 : decode cX3_init 5 = .ok (.bipush 8, 2) := by decide +kernel
theorem d_X3_init_7 : decode cX3_init 7 = .ok (.newarray .int, 2) := by decide +kernel
theorem d_X3_init_9 : decode cX3_init 9 = .ok (.putfield 11, 3) := by decide +kernel
theorem d_X3_init_12 : decode cX3_init 12 = .ok (.aload_n 0, 1) := by decide +kernel
theorem d_X3_init_13 : decode cX3_init 13 = .ok (.iconst 3, 1) := by decide +kernel
theorem d_X3_init_14 : decode cX3_init 14 = .ok (.newarray .int, 2) := by decide +kernel
theorem d_X3_init_16 : decode cX3_init 16 = .ok (.putfield 17, 3) := by decide +kernel
theorem d_X3_init_19 : decode cX3_init 19 = .ok (.aload_n 0, 1) := by decide +kernel
theorem d_X3_init_20 : decode cX3_init 20 = .ok (.iconst 3, 1) := by decide +kernel
theorem d_X3_init_21 : decode cX3_init 21 = .ok (.newarray .int, 2) := by decide +kernel
theorem d_X3_init_23 : decode cX3_init 23 = .ok (.putfield 20, 3) := by decide +kernel
theorem d_X3_init_26 : decode cX3_init 26 = .ok (.aload_n 0, 1) := by decide +kernel
theorem d_X3_init_27 : decode cX3_init 27 = .ok (.iconst 3, 1) := by decide +kernel
theorem d_X3_init_28 : decode cX3_init 28 = .ok (.newarray .int, 2) := by decide +kernel
theorem d_X3_init_30 : decode cX3_init 30 = .ok (.putfield 23, 3) := by decide +kernel
theorem d_X3_init_33 : decode cX3_init 33 = .ok (.aload_n 0, 1) := by decide +kernel
theorem d_X3_init_34 : decode cX3_init 34 = .ok (.sipush 1000, 3) := by decide +kernel
theorem d_X3_init_37 : decode cX3_init 37 = .ok (.newarray .int, 2) := by decide +kernel
theorem d_X3_init_39 : decode cX3_init 39 = .ok (.putfield 26, 3) := by decide +kernel
theorem d_X3_init_42 : decode cX3_init 42 = .ok (.aload_n 0, 1) := by decide +kernel
theorem d_X3_init_43 : decode cX3_init 43 = .ok (.bipush 40, 2) := by decide +kernel
theorem d_X3_init_45 : decode cX3_init 45 = .ok (.newarray .int, 2) := by decide +kernel
theorem d_X3_init_47 : decode cX3_init 47 = .ok (.putfield 29, 3) := by decide +kernel
theorem d_X3_init_50 : decode cX3_init 50 = .ok (.return_, 1) := by decide +kernel
theorem frq_3 : ∀ b ∈ basL.getD 3 [], ∀ k ∈ List.range (nf 3), ((k : Int) ∈ ([5, 4, 3, 2, 1, 0] : List Int) ∨ dfl 3 (k : Int) = Fz b (k : Int)) := by decide +kernel
theorem i_3 {d : Nat} {G : Mem} {Q : Int → Mem → Prop} {bN : Nat} (hb : Bs 3 (bN : Int)) (hd : ∀ k : Nat, k < nf 3 → G (bN : Int) k = dfl 3 k) (h : ∀ G1, (∀ q k : Int, q < (bN : Int) → G1 q k = G q k) → Fr Fz G1 (bN : Int) ((bN : Int) + 7) → Q 0 G1) : Ct (d + 1) M_X3_init (bN + 1) 6 1057 none [(2, (bN : Int))] G Q := by
  refine Ct.of (by decide +kernel) (Nat.le_of_ble_eq_true rfl) ?_
  show Rn (d + 1) M_X3_init ((bN + 1), 0, 0, 6, 1057, none) 0 [(0, (2, (bN : Int)))] [] G Q
  have P0 : PA Fz (bN : Int) G G (bN + 1) [] := PA.rf (by omega)
  refine r_aload_n d_X3_init_0 0 rfl rfl (r_obj d_X3_init_1 (gk2 63 rfl rfl) (Nat.le_of_ble_eq_true rfl) ?_)
  refine r_aload_n d_X3_init_4 0 rfl rfl (r_bipush d_X3_init_5 (by decide +kernel) (n_arr (ci := 3) (f := 0) (fI := 0) (len := 8) (t := 0) (q := ((bN : Int) + 1)) P0 rfl d_X3_init_7 d_X3_init_9 rfl (by decide) (gk1 91 rfl rfl) fl_X3_11 (by decide) (fun r hr => by cases hr; exact ⟨rfl, rfl⟩) rfl hb (by omega) (by omega) (ly_3_0 hb).2.2 (Fz_lay (ly_3_0 hb)) (Fz_arr (ly_3_0 hb).2.2 (by decide)) (by decide) ⟨by decide, by decide⟩ (fun G1 P1 => ?_)))
  show Rn (d + 1) M_X3_init (bN + 1 + 1, 1, 8, 6, 1057, none) 12 [(0, (2, (bN : Int)))] [] G1 Q
  refine r_aload_n d_X3_init_12 0 rfl rfl (r_iconst d_X3_init_13 (n_arr (ci := 3) (f := 1) (fI := 1) (len := 3) (t := 0) (q := ((bN : Int) + 2)) P1 rfl d_X3_init_14 d_X3_init_16 rfl (by decide) (gk1 91 rfl rfl) fl_X3_17 (by decide) (fun r hr => by cases hr; exact ⟨rfl, rfl⟩) rfl hb (by omega) (by omega) (ly_3_1 hb).2.2 (Fz_lay (ly_3_1 hb)) (Fz_arr (ly_3_1 hb).2.2 (by decide)) (by decide) ⟨by decide, by decide⟩ (fun G2 P2 => ?_)))
  show Rn (d + 1) M_X3_init (bN + 1 + 1 + 1, 2, 11, 6, 1057, none) 19 [(0, (2, (bN : Int)))] [] G2 Q
  refine r_aload_n d_X3_init_19 0 rfl rfl (r_iconst d_X3_init_20 (n_arr (ci := 3) (f := 2) (fI := 2) (len := 3) (t := 0) (q := ((bN : Int) + 3)) P2 rfl d_X3_init_21 d_X3_init_23 rfl (by decide) (gk1 91 rfl rfl) fl_X3_20 (by decide) (fun r hr => by cases hr; exact ⟨rfl, rfl⟩) rfl hb (by omega) (by omega) (ly_3_2 hb).2.2 (Fz_lay (ly_3_2 hb)) (Fz_arr (ly_3_2 hb).2.2 (by decide)) (by decide) ⟨by decide, by decide⟩ (fun G3 P3 => ?_)))
  show Rn (d + 1) M_X3_init (bN + 1 + 1 + 1 + 1, 3, 14, 6, 1057, none) 26 [(0, (2, (bN : Int)))] [] G3 Q
  refine r_aload_n d_X3_init_26 0 rfl rfl (r_iconst d_X3_init_27 (n_arr (ci := 3) (f := 3) (fI := 3) (len := 3) (t := 0) (q := ((bN : Int) + 4)) P3 rfl d_X3_init_28 d_X3_init_30 rfl (by decide) (gk1 91 rfl rfl) fl_X3_23 (by decide) (fun r hr => by cases hr; exact ⟨rfl, rfl⟩) rfl hb (by omega) (by omega) (ly_3_3 hb).2.2 (Fz_lay (ly_3_3 hb)) (Fz_arr (ly_3_3 hb).2.2 (by decide)) (by decide) ⟨by decide, by decide⟩ (fun G4 P4 => ?_)))
  show Rn (d + 1) M_X3_init (bN + 1 + 1 + 1 + 1 + 1, 4, 17, 6, 1057, none) 33 [(0, (2, (bN : Int)))] [] G4 Q
  refine r_aload_n d_X3_init_33 0 rfl rfl (r_sipush d_X3_init_34 (by decide +kernel) (n_arr (ci := 3) (f := 4) (fI := 4) (len := 1000) (t := 0) (q := ((bN : Int) + 5)) P4 rfl d_X3_init_37 d_X3_init_39 rfl (by decide) (gk1 91 rfl rfl) fl_X3_26 (by decide) (fun r hr => by cases hr; exact ⟨rfl, rfl⟩) rfl hb (by omega) (by omega) (ly_3_4 hb).2.2 (Fz_lay (ly_3_4 hb)) (Fz_arr (ly_3_4 hb).2.2 (by decide)) (by decide) ⟨by decide, by decide⟩ (fun G5 P5 => ?_)))
  show Rn (d + 1) M_X3_init (bN + 1 + 1 + 1 + 1 + 1 + 1, 5, 1017, 6, 1057, none) 42 [(0, (2, (bN : Int)))] [] G5 Q
  refine r_aload_n d_X3_init_42 0 rfl rfl (r_bipush d_X3_init_43 (by decide +kernel) (n_arr (ci := 3) (f := 5) (fI := 5) (len := 40) (t := 0) (q := ((bN : Int) + 6)) P5 rfl d_X3_init_45 d_X3_init_47 rfl (by decide) (gk1 91 rfl rfl) fl_X3_29 (by decide) (fun r hr => by cases hr; exact ⟨rfl, rfl⟩) rfl hb (by omega) (by omega) (ly_3_5 hb).2.2 (Fz_lay (ly_3_5 hb)) (Fz_arr (ly_3_5 hb).2.2 (by decide)) (by decide) ⟨by decide, by decide⟩ (fun G6 P6 => ?_)))
  show Rn (d + 1) M_X3_init (bN + 1 + 1 + 1 + 1 + 1 + 1 + 1, 6, 1057, 6, 1057, none) 50 [(0, (2, (bN : Int)))] [] G6 Q
  refine r_ret d_X3_init_50 rfl ⟨by omega, Nat.le_refl _, Nat.le_refl _⟩ (h G6 P6.1 (fun q k q0 q1 k0 k1 => ?_))
  exact PA.fin frq_3 hb P6 hd (by omega) q k q0 q1 k0 k1
theorem d_X4_init_0 : decode cX4_init 0 = .ok (.aload_n 0, 1) := by decide +kernel
theorem d_X4_init_1 : decode cX4_init 1 = .ok (.invokespecial 3, 3) := by decide +kernel
theorem d_X4_init_4 : decode cX4_init 4 = .ok (.aload_n 0, 1) := by decide +kernel
theorem d_X4_init_5 : decode cX4_init 5 = .ok (.bipush 73, 2) := by decide +kernel
theorem d_X4_init_7 : decode cX4_init 7 = .ok (.newarray .boolean, 2) := by decide +kernel
theorem d_X4_init_9 : decode cX4_init 9 = .ok (.putfield 9, 3) := by decide +kernel
theorem d_X4_init_12 : decode cX4_init 12 = .ok (.aload_n 0, 1) := by decide +kernel
theorem d_X4_init_13 : decode cX4_init 13 = .ok (.bipush 73, 2) := by decide +kernel
theorem d_X4_init_15 : decode cX4_init 15 = .ok (.newarray .int, 2) := by decide +kernel
theorem d_X4_init_17 : decode cX4_init 17 = .ok (.putfield 15, 3) := by decide +kernel
theorem d_X4_init_20 : decode cX4_init 20 = .ok (.aload_n 0, 1) := by decide +kernel
theorem d_X4_init_21 : decode cX4_init 21 = .ok (.bipush 73, 2) := by decide +kernel
theorem d_X4_init_23 : decode cX4_init 23 = .ok (.newarray .int, 2) := by decide +kernel
theorem d_X4_init_25 : decode cX4_init 25 = .ok (.putfield 19, 3) := by decide +kernel
theorem d_X4_init_28 : decode cX4_init 28 = .ok (.aload_n 0, 1) := by decide +kernel
theorem d_X4_init_29 : decode cX4_init 29 = .ok (.bipush 73, 2) := by decide +kernel
theorem d_X4_init_31 : decode cX4_init 31 = .ok (.newarray .int, 2) := by decide +kernel
theorem d_X4_init_33 : decode cX4_init 33 = .ok (.putfield 22, 3) := by decide +kernel
theorem d_X4_init_36 : decode cX4_init 36 = .ok (.aload_n 0, 1) := by decide +kernel
theorem d_X4_init_37 : decode cX4_init 37 = .ok (.bipush 73, 2) := by decide +kernel
theorem d_X4_init_39 : decode cX4_init 39 = .ok (.newarray .int, 2) := by decide +kernel
theorem d_X4_init_41 : decode cX4_init 41 = .ok (.putfield 25, 3) := by decide +kernel
theorem d_X4_init_44 : decode cX4_init 44 = .ok (.aload_n 0, 1) := by decide +kernel
theorem d_X4_init_45 : decode cX4_init 45 = .ok (.bipush 74, 2) := by decide +kernel
theorem d_X4_init_47 : decode cX4_init 47 = .ok (.newarray .int, 2) := by decide +kernel
theorem d_X4_init_49 : decode cX4_init 49 = .ok (.putfield 28, 3) := by decide +kernel
theorem d_X4_init_52 : decode cX4_init 52 = .ok (.return_, 1) := by decide +kernel
theorem frq_4 : ∀ b ∈ basL.getD 4 [], ∀ k ∈ List.range (nf 4), ((k : Int) ∈ ([7, 6, 5, 4, 3, 2] : List Int) ∨ dfl 4 (k : Int) = Fz b (k : Int)) := by decide +kernel
theorem i_4 {d : Nat} {G : Mem} {Q : Int → Mem → Prop} (hd : ∀ k : Nat, k < nf 4 → G 12 k = dfl 4 k) (h : ∀ G1, (∀ q k : Int, q < 12 → G1 q k = G q k) → Fr Fz G1 12 19 → Q 0 G1) : Ct (d + 1) M_X4_init 13 6 439 none [(2, 12)] G Q := by
  refine Ct.of (by decide +kernel) (Nat.le_of_ble_eq_true rfl) ?_
  show Rn (d + 1) M_X4_init (13, 0, 0, 6, 439, none) 0 [(0, (2, 12))] [] G Q
  have P0 : PA Fz 12 G G 13 [] := PA.rf (by omega)
  refine r_aload_n d_X4_init_0 0 rfl rfl (r_obj d_X4_init_1 (gk1 123 rfl rfl) (Nat.le_of_ble_eq_true rfl) ?_)
  refine r_aload_n d_X4_init_4 0 rfl rfl (r_bipush d_X4_init_5 (by decide +kernel) (n_arr (ci := 4) (f := 2) (fI := 2) (len := 73) (t := 1) (q := 13) P0 rfl d_X4_init_7 d_X4_init_9 rfl (by decide) (gk1 151 rfl rfl) fl_X4_9 (by decide) (fun r hr => by cases hr; exact ⟨rfl, rfl⟩) rfl bs_4 (by omega) (by omega) (ly_4_2 bs_4).2.2 (Fz_lay (ly_4_2 bs_4)) (Fz_arr (ly_4_2 bs_4).2.2 (by decide)) (by decide) ⟨by decide, by decide⟩ (fun G1 P1 => ?_)))
  show Rn (d + 1) M_X4_init (14, 1, 73, 6, 439, none) 12 [(0, (2, 12))] [] G1 Q
  refine r_aload_n d_X4_init_12 0 rfl rfl (r_bipush d_X4_init_13 (by decide +kernel) (n_arr (ci := 4) (f := 3) (fI := 3) (len := 73) (t := 0) (q := 14) P1 rfl d_X4_init_15 d_X4_init_17 rfl (by decide) (gk1 91 rfl rfl) fl_X4_15 (by decide) (fun r hr => by cases hr; exact ⟨rfl, rfl⟩) rfl bs_4 (by omega) (by omega) (ly_4_3 bs_4).2.2 (Fz_lay (ly_4_3 bs_4)) (Fz_arr (ly_4_3 bs_4).2.2 (by decide)) (by decide) ⟨by decide, by decide⟩ (fun G2 P2 => ?_)))
  show Rn (d + 1) M_X4_init (15, 2, 146, 6, 439, none) 20 [(0, (2, 12))] [] G2 Q
  refine r_aload_n d_X4_init_20 0 rfl rfl (r_bipush d_X4_init_21 (by decide +kernel) (n_arr (ci := 4) (f := 4) (fI := 4) (len := 73) (t := 0) (q := 15) P2 rfl d_X4_init_23 d_X4_init_25 rfl (by decide) (gk1 91 rfl rfl) fl_X4_19 (by decide) (fun r hr => by cases hr; exact ⟨rfl, rfl⟩) rfl bs_4 (by omega) (by omega) (ly_4_4 bs_4).2.2 (Fz_lay (ly_4_4 bs_4)) (Fz_arr (ly_4_4 bs_4).2.2 (by decide)) (by decide) ⟨by decide, by decide⟩ (fun G3 P3 => ?_)))
  show Rn (d + 1) M_X4_init (16, 3, 219, 6, 439, none) 28 [(0, (2, 12))] [] G3 Q
  refine r_aload_n d_X4_init_28 0 rfl rfl (r_bipush d_X4_init_29 (by decide +kernel) (n_arr (ci := 4) (f := 5) (fI := 5) (len := 73) (t := 0) (q := 16) P3 rfl d_X4_init_31 d_X4_init_33 rfl (by decide) (gk1 91 rfl rfl) fl_X4_22 (by decide) (fun r hr => by cases hr; exact ⟨rfl, rfl⟩) rfl bs_4 (by omega) (by omega) (ly_4_5 bs_4).2.2 (Fz_lay (ly_4_5 bs_4)) (Fz_arr (ly_4_5 bs_4).2.2 (by decide)) (by decide) ⟨by decide, by decide⟩ (fun G4 P4 => ?_)))
  show Rn (d + 1) M_X4_init (17, 4, 292, 6, 439, none) 36 [(0, (2, 12))] [] G4 Q
  refine r_aload_n d_X4_init_36 0 rfl rfl (r_bipush d_X4_init_37 (by decide +kernel) (n_arr (ci := 4) (f := 6) (fI := 6) (len := 73) (t := 0) (q := 17) P4 rfl d_X4_init_39 d_X4_init_41 rfl (by decide) (gk1 91 rfl rfl) fl_X4_25 (by decide) (fun r hr => by cases hr; exact ⟨rfl, rfl⟩) rfl bs_4 (by omega) (by omega) (ly_4_6 bs_4).2.2 (Fz_lay (ly_4_6 bs_4)) (Fz_arr (ly_4_6 bs_4).2.2 (by decide)) (by decide) ⟨by decide, by decide⟩ (fun G5 P5 => ?_)))
  show Rn (d + 1) M_X4_init (18, 5, 365, 6, 439, none) 44 [(0, (2, 12))] [] G5 Q
  refine r_aload_n d_X4_init_44 0 rfl rfl (r_bipush d_X4_init_45 (by decide +kernel) (n_arr (ci := 4) (f := 7) (fI := 7) (len := 74) (t := 0) (q := 18) P5 rfl d_X4_init_47 d_X4_init_49 rfl (by decide) (gk1 91 rfl rfl) fl_X4_28 (by decide) (fun r hr => by cases hr; exact ⟨rfl, rfl⟩) rfl bs_4 (by omega) (by omega) (ly_4_7 bs_4).2.2 (Fz_lay (ly_4_7 bs_4)) (Fz_arr (ly_4_7 bs_4).2.2 (by decide)) (by decide) ⟨by decide, by decide⟩ (fun G6 P6 => ?_)))
  show Rn (d + 1) M_X4_init (19, 6, 439, 6, 439, none) 52 [(0, (2, 12))] [] G6 Q
  refine r_ret d_X4_init_52 rfl ⟨by omega, Nat.le_refl _, Nat.le_refl _⟩ (h G6 P6.1 (fun q k q0 q1 k0 k1 => ?_))
  exact PA.fin frq_4 bs_4 P6 hd (by omega) q k q0 q1 k0 k1
theorem d_X5_init_0 : decode cX5_init 0 = .ok (.aload_n 0, 1) := by decide +kernel
theorem d_X5_init_1 : decode cX5_init 1 = .ok (.invokespecial 3, 3) := by decide +kernel
theorem d_X5_init_4 : decode cX5_init 4 = .ok (.aload_n 0, 1) := by decide +kernel
theorem d_X5_init_5 : decode cX5_init 5 = .ok (.iconst 5, 1) := by decide +kernel
theorem d_X5_init_6 : decode cX5_init 6 = .ok (.newarray .long, 2) := by decide +kernel
theorem d_X5_init_8 : decode cX5_init 8 = .ok (.putfield 9, 3) := by decide +kernel
theorem d_X5_init_11 : decode cX5_init 11 = .ok (.aload_n 0, 1) := by decide +kernel
theorem d_X5_init_12 : decode cX5_init 12 = .ok (.bipush 32, 2) := by decide +kernel
theorem d_X5_init_14 : decode cX5_init 14 = .ok (.newarray .int, 2) := by decide +kernel
theorem d_X5_init_16 : decode cX5_init 16 = .ok (.putfield 17, 3) := by decide +kernel
theorem d_X5_init_19 : decode cX5_init 19 = .ok (.return_, 1) := by decide +kernel
theorem frq_5 : ∀ b ∈ basL.getD 5 [], ∀ k ∈ List.range (nf 5), ((k : Int) ∈ ([1, 0] : List Int) ∨ dfl 5 (k : Int) = Fz b (k : Int)) := by decide +kernel
theorem i_5 {d : Nat} {G : Mem} {Q : Int → Mem → Prop} (hd : ∀ k : Nat, k < nf 5 → G 3 k = dfl 5 k) (h : ∀ G1, (∀ q k : Int, q < 3 → G1 q k = G q k) → Fr Fz G1 3 6 → Q 0 G1) : Ct (d + 1) M_X5_init 4 2 37 none [(2, 3)] G Q := by
  refine Ct.of (by decide +kernel) (Nat.le_of_ble_eq_true rfl) ?_
  show Rn (d + 1) M_X5_init (4, 0, 0, 2, 37, none) 0 [(0, (2, 3))] [] G Q
  have P0 : PA Fz 3 G G 4 [] := PA.rf (by omega)
  refine r_aload_n d_X5_init_0 0 rfl rfl (r_obj d_X5_init_1 (gk1 73 rfl rfl) (Nat.le_of_ble_eq_true rfl) ?_)
  refine r_aload_n d_X5_init_4 0 rfl rfl (r_iconst d_X5_init_5 (n_arr (ci := 5) (f := 0) (fI := 0) (len := 5) (t := 3) (q := 4) P0 rfl d_X5_init_6 d_X5_init_8 rfl (by decide) (gk1 90 rfl rfl) fl_X5_9 (by decide) (fun r hr => by cases hr; exact ⟨rfl, rfl⟩) rfl bs_5 (by omega) (by omega) (ly_5_0 bs_5).2.2 (Fz_lay (ly_5_0 bs_5)) (Fz_arr (ly_5_0 bs_5).2.2 (by decide)) (by decide) ⟨by decide, by decide⟩ (fun G1 P1 => ?_)))
  show Rn (d + 1) M_X5_init (5, 1, 5, 2, 37, none) 11 [(0, (2, 3))] [] G1 Q
  refine r_aload_n d_X5_init_11 0 rfl rfl (r_bipush d_X5_init_12 (by decide +kernel) (n_arr (ci := 5) (f := 1) (fI := 1) (len := 32) (t := 0) (q := 5) P1 rfl d_X5_init_14 d_X5_init_16 rfl (by decide) (gk1 91 rfl rfl) fl_X5_17 (by decide) (fun r hr => by cases hr; exact ⟨rfl, rfl⟩) rfl bs_5 (by omega) (by omega) (ly_5_1 bs_5).2.2 (Fz_lay (ly_5_1 bs_5)) (Fz_arr (ly_5_1 bs_5).2.2 (by decide)) (by decide) ⟨by decide, by decide⟩ (fun G2 P2 => ?_)))
  show Rn (d + 1) M_X5_init (6, 2, 37, 2, 37, none) 19 [(0, (2, 3))] [] G2 Q
  refine r_ret d_X5_init_19 rfl ⟨by omega, Nat.le_refl _, Nat.le_refl _⟩ (h G2 P2.1 (fun q k q0 q1 k0 k1 => ?_))
  exact PA.fin frq_5 bs_5 P2 hd (by omega) q k q0 q1 k0 k1
theorem d_X6_init_0 : decode cX6_init 0 = .ok (.aload_n 0, 1) := by decide +kernel
theorem d_X6_init_1 : decode cX6_init 1 = .ok (.invokespecial 3, 3) := by decide +kernel
theorem d_X6_init_4 : decode cX6_init 4 = .ok (.aload_n 0, 1) := by decide +kernel
theorem d_X6_init_5 : decode cX6_init 5 = .ok (.iconst 3, 1) := by decide +kernel
theorem d_X6_init_6 : decode cX6_init 6 = .ok (.newarray .int, 2) := by decide +kernel
theorem d_X6_init_8 : decode cX6_init 8 = .ok (.putfield 9, 3) := by decide +kernel
theorem d_X6_init_11 : decode cX6_init 11 = .ok (.aload_n 0, 1) := by decide +kernel
theorem d_X6_init_12 : decode cX6_init 12 = .ok (.bipush 36, 2) := by decide +kernel
theorem d_X6_init_14 : decode cX6_init 14 = .ok (.newarray .int, 2) := by decide +kernel
theorem d_X6_init_16 : decode cX6_init 16 = .ok (.putfield 15, 3) := by decide +kernel
theorem d_X6_init_19 : decode cX6_init 19 = .ok (.aload_n 0, 1) := by decide +kernel
theorem d_X6_init_20 : decode cX6_init 20 = .ok (.iconst 3, 1) := by decide +kernel
theorem d_X6_init_21 : decode cX6_init 21 = .ok (.newarray .int, 2) := by decide +kernel
theorem d_X6_init_23 : decode cX6_init 23 = .ok (.putfield 18, 3) := by decide +kernel
theorem d_X6_init_26 : decode cX6_init 26 = .ok (.return_, 1) := by decide +kernel
theorem frq_6 : ∀ b ∈ basL.getD 6 [], ∀ k ∈ List.range (nf 6), ((k : Int) ∈ ([2, 1, 0] : List Int) ∨ dfl 6 (k : Int) = Fz b (k : Int)) := by decide +kernel
theorem i_6 {d : Nat} {G : Mem} {Q : Int → Mem → Prop} (hd : ∀ k : Nat, k < nf 6 → G 33 k = dfl 6 k) (h : ∀ G1, (∀ q k : Int, q < 33 → G1 q k = G q k) → Fr Fz G1 33 37 → Q 0 G1) : Ct (d + 1) M_X6_init 34 3 42 none [(2, 33)] G Q := by
  refine Ct.of (by decide +kernel) (Nat.le_of_ble_eq_true rfl) ?_
  show Rn (d + 1) M_X6_init (34, 0, 0, 3, 42, none) 0 [(0, (2, 33))] [] G Q
  have P0 : PA Fz 33 G G 34 [] := PA.rf (by omega)
  refine r_aload_n d_X6_init_0 0 rfl rfl (r_obj d_X6_init_1 (gk2 36 rfl rfl) (Nat.le_of_ble_eq_true rfl) ?_)
  refine r_aload_n d_X6_init_4 0 rfl rfl (r_iconst d_X6_init_5 (n_arr (ci := 6) (f := 0) (fI := 0) (len := 3) (t := 0) (q := 34) P0 rfl d_X6_init_6 d_X6_init_8 rfl (by decide) (gk1 91 rfl rfl) fl_X6_9 (by decide) (fun r hr => by cases hr; exact ⟨rfl, rfl⟩) rfl bs_6 (by omega) (by omega) (ly_6_0 bs_6).2.2 (Fz_lay (ly_6_0 bs_6)) (Fz_arr (ly_6_0 bs_6).2.2 (by decide)) (by decide) ⟨by decide, by decide⟩ (fun G1 P1 => ?_)))
  show Rn (d + 1) M_X6_init (35, 1, 3, 3, 42, none) 11 [(0, (2, 33))] [] G1 Q
  refine r_aload_n d_X6_init_11 0 rfl rfl (r_bipush d_X6_init_12 (by decide +kernel) (n_arr (ci := 6) (f := 1) (fI := 1) (len := 36) (t := 0) (q := 35) P1 rfl d_X6_init_14 d_X6_init_16 rfl (by decide) (gk1 91 rfl rfl) fl_X6_15 (by decide) (fun r hr => by cases hr; exact ⟨rfl, rfl⟩) rfl bs_6 (by omega) (by omega) (ly_6_1 bs_6).2.2 (Fz_lay (ly_6_1 bs_6)) (Fz_arr (ly_6_1 bs_6).2.2 (by decide)) (by decide) ⟨by decide, by decide⟩ (fun G2 P2 => ?_)))
  show Rn (d + 1) M_X6_init (36, 2, 39, 3, 42, none) 19 [(0, (2, 33))] [] G2 Q
  refine r_aload_n d_X6_init_19 0 rfl rfl (r_iconst d_X6_init_20 (n_arr (ci := 6) (f := 2) (fI := 2) (len := 3) (t := 0) (q := 36) P2 rfl d_X6_init_21 d_X6_init_23 rfl (by decide) (gk1 91 rfl rfl) fl_X6_18 (by decide) (fun r hr => by cases hr; exact ⟨rfl, rfl⟩) rfl bs_6 (by omega) (by omega) (ly_6_2 bs_6).2.2 (Fz_lay (ly_6_2 bs_6)) (Fz_arr (ly_6_2 bs_6).2.2 (by decide)) (by decide) ⟨by decide, by decide⟩ (fun G3 P3 => ?_)))
  show Rn (d + 1) M_X6_init (37, 3, 42, 3, 42, none) 26 [(0, (2, 33))] [] G3 Q
  refine r_ret d_X6_init_26 rfl ⟨by omega, Nat.le_refl _, Nat.le_refl _⟩ (h G3 P3.1 (fun q k q0 q1 k0 k1 => ?_))
  exact PA.fin frq_6 bs_6 P3 hd (by omega) q k q0 q1 k0 k1
theorem d_X8_init_0 : decode cX8_init 0 = .ok (.aload_n 0, 1) := by decide +kernel
theorem d_X8_init_1 : decode cX8_init 1 = .ok (.invokespecial 3, 3) := by decide +kernel
theorem d_X8_init_4 : decode cX8_init 4 = .ok (.aload_n 0, 1) := by decide +kernel
theorem d_X8_init_5 : decode cX8_init 5 = .ok (.iconst 5, 1) := by decide +kernel
theorem d_X8_init_6 : decode cX8_init 6 = .ok (.newarray .int, 2) := by decide +kernel
theorem d_X8_init_8 : decode cX8_init 8 = .ok (.putfield 9, 3) := by decide +kernel
theorem d_X8_init_11 : decode cX8_init 11 = .ok (.aload_n 0, 1) := by decide +kernel
theorem d_X8_init_12 : decode cX8_init 12 = .ok (.iconst 5, 1) := by decide +kernel
theorem d_X8_init_13 : decode cX8_init 13 = .ok (.newarray .int, 2) := by decide +kernel
theorem d_X8_init_15 : decode cX8_init 15 = .ok (.putfield 15, 3) := by decide +kernel
theorem d_X8_init_18 : decode cX8_init 18 = .ok (.aload_n 0, 1) := by decide +kernel
theorem d_X8_init_19 : decode cX8_init 19 = .ok (.iconst 5, 1) := by decide +kernel
theorem d_X8_init_20 : decode cX8_init 20 = .ok (.newarray .int, 2) := by decide +kernel
theorem d_X8_init_22 : decode cX8_init 22 = .ok (.putfield 18, 3) := by decide +kernel
theorem d_X8_init_25 : decode cX8_init 25 = .ok (.aload_n 0, 1) := by decide +kernel
theorem d_X8_init_26 : decode cX8_init 26 = .ok (.iconst 5, 1) := by decide +kernel
theorem d_X8_init_27 : decode cX8_init 27 = .ok (.newarray .int, 2) := by decide +kernel
theorem d_X8_init_29 : decode cX8_init 29 = .ok (.putfield 21, 3) := by decide +kernel
theorem d_X8_init_32 : decode cX8_init 32 = .ok (.aload_n 0, 1) := by decide +kernel
theorem d_X8_init_33 : decode cX8_init 33 = .ok (.iconst 5, 1) := by decide +kernel
theorem d_X8_init_34 : decode cX8_init 34 = .ok (.newarray .int, 2) := by decide +kernel
theorem d_X8_init_36 : decode cX8_init 36 = .ok (.putfield 24, 3) := by decide +kernel
theorem d_X8_init_39 : decode cX8_init 39 = .ok (.aload_n 0, 1) := by decide +kernel
theorem d_X8_init_40 : decode cX8_init 40 = .ok (.iconst 5, 1) := by decide +kernel
theorem d_X8_init_41 : decode cX8_init 41 = .ok (.newarray .int, 2) := by decide +kernel
theorem d_X8_init_43 : decode cX8_init 43 = .ok (.putfield 27, 3) := by decide +kernel
theorem d_X8_init_46 : decode cX8_init 46 = .ok (.aload_n 0, 1) := by decide +kernel
theorem d_X8_init_47 : decode cX8_init 47 = .ok (.iconst 5, 1) := by decide +kernel
theorem d_X8_init_48 : decode cX8_init 48 = .ok (.newarray .int, 2) := by decide +kernel
theorem d_X8_init_50 : decode cX8_init 50 = .ok (.putfield 30, 3) := by decide +kernel
theorem d_X8_init_53 : decode cX8_init 53 = .ok (.return_, 1) := by decide +kernel
theorem frq_8 : ∀ b ∈ basL.getD 8 [], ∀ k ∈ List.range (nf 8), ((k : Int) ∈ ([6, 5, 4, 3, 2, 1, 0] : List Int) ∨ dfl 8 (k : Int) = Fz b (k : Int)) := by decide +kernel
theorem i_8 {d : Nat} {G : Mem} {Q : Int → Mem → Prop} {bN : Nat} (hb : Bs 8 (bN : Int)) (hd : ∀ k : Nat, k < nf 8 → G (bN : Int) k = dfl 8 k) (h : ∀ G1, (∀ q k : Int, q < (bN : Int) → G1 q k = G q k) → Fr Fz G1 (bN : Int) ((bN : Int) + 8) → Q 0 G1) : Ct (d + 1) M_X8_init (bN + 1) 7 35 none [(2, (bN : Int))] G Q := by
  refine Ct.of (by decide +kernel) (Nat.le_of_ble_eq_true rfl) ?_
  show Rn (d + 1) M_X8_init ((bN + 1), 0, 0, 7, 35, none) 0 [(0, (2, (bN : Int)))] [] G Q
  have P0 : PA Fz (bN : Int) G G (bN + 1) [] := PA.rf (by omega)
  refine r_aload_n d_X8_init_0 0 rfl rfl (r_obj d_X8_init_1 (gk1 163 rfl rfl) (Nat.le_of_ble_eq_true rfl) ?_)
  refine r_aload_n d_X8_init_4 0 rfl rfl (r_iconst d_X8_init_5 (n_arr (ci := 8) (f := 0) (fI := 0) (len := 5) (t := 0) (q := ((bN : Int) + 1)) P0 rfl d_X8_init_6 d_X8_init_8 rfl (by decide) (gk1 91 rfl rfl) fl_X8_9 (by decide) (fun r hr => by cases hr; exact ⟨rfl, rfl⟩) rfl hb (by omega) (by omega) (ly_8_0 hb).2.2 (Fz_lay (ly_8_0 hb)) (Fz_arr (ly_8_0 hb).2.2 (by decide)) (by decide) ⟨by decide, by decide⟩ (fun G1 P1 => ?_)))
  show Rn (d + 1) M_X8_init (bN + 1 + 1, 1, 5, 7, 35, none) 11 [(0, (2, (bN : Int)))] [] G1 Q
  refine r_aload_n d_X8_init_11 0 rfl rfl (r_iconst d_X8_init_12 (n_arr (ci := 8) (f := 1) (fI := 1) (len := 5) (t := 0) (q := ((bN : Int) + 2)) P1 rfl d_X8_init_13 d_X8_init_15 rfl (by decide) (gk1 91 rfl rfl) fl_X8_15 (by decide) (fun r hr => by cases hr; exact ⟨rfl, rfl⟩) rfl hb (by omega) (by omega) (ly_8_1 hb).2.2 (Fz_lay (ly_8_1 hb)) (Fz_arr (ly_8_1 hb).2.2 (by decide)) (by decide) ⟨by decide, by decide⟩ (fun G2 P2 => ?_)))
  show Rn (d + 1) M_X8_init (bN + 1 + 1 + 1, 2, 10, 7, 35, none) 18 [(0, (2, (bN : Int)))] [] G2 Q
  refine r_aload_n d_X8_init_18 0 rfl rfl (r_iconst d_X8_init_19 (n_arr (ci := 8) (f := 2) (fI := 2) (len := 5) (t := 0) (q := ((bN : Int) + 3)) P2 rfl d_X8_init_20 d_X8_init_22 rfl (by decide) (gk1 91 rfl rfl) fl_X8_18 (by decide) (fun r hr => by cases hr; exact ⟨rfl, rfl⟩) rfl hb (by omega) (by omega) (ly_8_2 hb).2.2 (Fz_lay (ly_8_2 hb)) (Fz_arr (ly_8_2 hb).2.2 (by decide)) (by decide) ⟨by decide, by decide⟩ (fun G3 P3 => ?_)))
  show Rn (d + 1) M_X8_init (bN + 1 + 1 + 1 + 1, 3, 15, 7, 35, none) 25 [(0, (2, (bN : Int)))] [] G3 Q
  refine r_aload_n d_X8_init_25 0 rfl rfl (r_iconst d_X8_init_26 (n_arr (ci := 8) (f := 3) (fI := 3) (len := 5) (t := 0) (q := ((bN : Int) + 4)) P3 rfl d_X8_init_27 d_X8_init_29 rfl (by decide) (gk1 91 rfl rfl) fl_X8_21 (by decide) (fun r hr => by cases hr; exact ⟨rfl, rfl⟩) rfl hb (by omega) (by omega) (ly_8_3 hb).2.2 (Fz_lay (ly_8_3 hb)) (Fz_arr (ly_8_3 hb).2.2 (by decide)) (by decide) ⟨by decide, by decide⟩ (fun G4 P4 => ?_)))
  show Rn (d + 1) M_X8_init (bN + 1 + 1 + 1 + 1 + 1, 4, 20, 7, 35, none) 32 [(0, (2, (bN : Int)))] [] G4 Q
  refine r_aload_n d_X8_init_32 0 rfl rfl (r_iconst d_X8_init_33 (n_arr (ci := 8) (f := 4) (fI := 4) (len := 5) (t := 0) (q := ((bN : Int) + 5)) P4 rfl d_X8_init_34 d_X8_init_36 rfl (by decide) (gk1 91 rfl rfl) fl_X8_24 (by decide) (fun r hr => by cases hr; exact ⟨rfl, rfl⟩) rfl hb (by omega) (by omega) (ly_8_4 hb).2.2 (Fz_lay (ly_8_4 hb)) (Fz_arr (ly_8_4 hb).2.2 (by decide)) (by decide) ⟨by decide, by decide⟩ (fun G5 P5 => ?_)))
  show Rn (d + 1) M_X8_init (bN + 1 + 1 + 1 + 1 + 1 + 1, 5, 25, 7, 35, none) 39 [(0, (2, (bN : Int)))] [] G5 Q
  refine r_aload_n d_X8_init_39 0 rfl rfl (r_iconst d_X8_init_40 (n_arr (ci := 8) (f := 5) (fI := 5) (len := 5) (t := 0) (q := ((bN : Int) + 6)) P5 rfl d_X8_init_41 d_X8_init_43 rfl (by decide) (gk1 91 rfl rfl) fl_X8_27 (by decide) (fun r hr => by cases hr; exact ⟨rfl, rfl⟩) rfl hb (by omega) (by omega) (ly_8_5 hb).2.2 (Fz_lay (ly_8_5 hb)) (Fz_arr (ly_8_5 hb).2.2 (by decide)) (by decide) ⟨by decide, by decide⟩ (fun G6 P6 => ?_)))
  show Rn (d + 1) M_X8_init (bN + 1 + 1 + 1 + 1 + 1 + 1 + 1, 6, 30, 7, 35, none) 46 [(0, (2, (bN : Int)))] [] G6 Q
  refine r_aload_n d_X8_init_46 0 rfl rfl (r_iconst d_X8_init_47 (n_arr (ci := 8) (f := 6) (fI := 6) (len := 5) (t := 0) (q := ((bN : Int) + 7)) P6 rfl d_X8_init_48 d_X8_init_50 rfl (by decide) (gk1 91 rfl rfl) fl_X8_30 (by decide) (fun r hr => by cases hr; exact ⟨rfl, rfl⟩) rfl hb (by omega) (by omega) (ly_8_6 hb).2.2 (Fz_lay (ly_8_6 hb)) (Fz_arr (ly_8_6 hb).2.2 (by decide)) (by decide) ⟨by decide, by decide⟩ (fun G7 P7 => ?_)))
  show Rn (d + 1) M_X8_init (bN + 1 + 1 + 1 + 1 + 1 + 1 + 1 + 1, 7, 35, 7, 35, none) 53 [(0, (2, (bN : Int)))] [] G7 Q
  refine r_ret d_X8_init_53 rfl ⟨by omega, Nat.le_refl _, Nat.le_refl _⟩ (h G7 P7.1 (fun q k q0 q1 k0 k1 => ?_))
  exact PA.fin frq_8 hb P7 hd (by omega) q k q0 q1 k0 k1
theorem d_X9_init_0 : decode cX9_init 0 = .ok (.aload_n 0, 1) := by decide +kernel
theorem d_X9_init_1 : decode cX9_init 1 = .ok (.invokespecial 3, 3) := by decide +kernel
theorem d_X9_init_4 : decode cX9_init 4 = .ok (.aload_n 0, 1) := by decide +kernel
theorem d_X9_init_5 : decode cX9_init 5 = .ok (.iconst 5, 1) := by decide +kernel
theorem d_X9_init_6 : decode cX9_init 6 = .ok (.newarray .int, 2) := by decide +kernel
theorem d_X9_init_8 : decode cX9_init 8 = .ok (.putfield 9, 3) := by decide +kernel
theorem d_X9_init_11 : decode cX9_init 11 = .ok (.aload_n 0, 1) := by decide +kernel
theorem d_X9_init_12 : decode cX9_init 12 = .ok (.iconst 5, 1) := by decide +kernel
theorem d_X9_init_13 : decode cX9_init 13 = .ok (.newarray .int, 2) := by decide +kernel
theorem d_X9_init_15 : decode cX9_init 15 = .ok (.putfield 15, 3) := by decide +kernel
theorem d_X9_init_18 : decode cX9_init 18 = .ok (.aload_n 0, 1) := by decide +kernel
theorem d_X9_init_19 : decode cX9_init 19 = .ok (.iconst 5, 1) := by decide +kernel
theorem d_X9_init_20 : decode cX9_init 20 = .ok (.newarray .int, 2) := by decide +kernel
theorem d_X9_init_22 : decode cX9_init 22 = .ok (.putfield 18, 3) := by decide +kernel
theorem d_X9_init_25 : decode cX9_init 25 = .ok (.aload_n 0, 1) := by decide +kernel
theorem d_X9_init_26 : decode cX9_init 26 = .ok (.bipush 60, 2) := by decide +kernel
theorem d_X9_init_28 : decode cX9_init 28 = .ok (.newarray .int, 2) := by decide +kernel
theorem d_X9_init_30 : decode cX9_init 30 = .ok (.putfield 21, 3) := by decide +kernel
theorem d_X9_init_33 : decode cX9_init 33 = .ok (.return_, 1) := by decide +kernel
theorem frq_9 : ∀ b ∈ basL.getD 9 [], ∀ k ∈ List.range (nf 9), ((k : Int) ∈ ([3, 2, 1, 0] : List Int) ∨ dfl 9 (k : Int) = Fz b (k : Int)) := by decide +kernel
theorem i_9 {d : Nat} {G : Mem} {Q : Int → Mem → Prop} {bN : Nat} (hb : Bs 9 (bN : Int)) (hd : ∀ k : Nat, k < nf 9 → G (bN : Int) k = dfl 9 k) (h : ∀ G1, (∀ q k : Int, q < (bN : Int) → G1 q k = G q k) → Fr Fz G1 (bN : Int) ((bN : Int) + 5) → Q 0 G1) : Ct (d + 1) M_X9_init (bN + 1) 4 75 none [(2, (bN : Int))] G Q := by
  refine Ct.of (by decide +kernel) (Nat.le_of_ble_eq_true rfl) ?_
  show Rn (d + 1) M_X9_init ((bN + 1), 0, 0, 4, 75, none) 0 [(0, (2, (bN : Int)))] [] G Q
  have P0 : PA Fz (bN : Int) G G (bN + 1) [] := PA.rf (by omega)
  refine r_aload_n d_X9_init_0 0 rfl rfl (r_obj d_X9_init_1 (gk2 235 rfl rfl) (Nat.le_of_ble_eq_true rfl) ?_)
  refine r_aload_n d_X9_init_4 0 rfl rfl (r_iconst d_X9_init_5 (n_arr (ci := 9) (f := 0) (fI := 0) (len := 5) (t := 0) (q := ((bN : Int) + 1)) P0 rfl d_X9_init_6 d_X9_init_8 rfl (by decide) (gk1 91 rfl rfl) fl_X9_9 (by decide) (fun r hr => by cases hr; exact ⟨rfl, rfl⟩) rfl hb (by omega) (by omega) (ly_9_0 hb).2.2 (Fz_lay (ly_9_0 hb)) (Fz_arr (ly_9_0 hb).2.2 (by decide)) (by decide) ⟨by decide, by decide⟩ (fun G1 P1 => ?_)))
  show Rn (d + 1) M_X9_init (bN + 1 + 1, 1, 5, 4, 75, none) 11 [(0, (2, (bN : Int)))] [] G1 Q
  refine r_aload_n d_X9_init_11 0 rfl rfl (r_iconst d_X9_init_12 (n_arr (ci := 9) (f := 1) (fI := 1) (len := 5) (t := 0) (q := ((bN : Int) + 2)) P1 rfl d_X9_init_13 d_X9_init_15 rfl (by decide) (gk1 91 rfl rfl) fl_X9_15 (by decide) (fun r hr => by cases hr; exact ⟨rfl, rfl⟩) rfl hb (by omega) (by omega) (ly_9_1 hb).2.2 (Fz_lay (ly_9_1 hb)) (Fz_arr (ly_9_1 hb).2.2 (by decide)) (by decide) ⟨by decide, by decide⟩ (fun G2 P2 => ?_)))
  show Rn (d + 1) M_X9_init (bN + 1 + 1 + 1, 2, 10, 4, 75, none) 18 [(0, (2, (bN : Int)))] [] G2 Q
  refine r_aload_n d_X9_init_18 0 rfl rfl (r_iconst d_X9_init_19 (n_arr (ci := 9) (f := 2) (fI := 2) (len := 5) (t := 0) (q := ((bN : Int) + 3)) P2 rfl d_X9_init_20 d_X9_init_22 rfl (by decide) (gk1 91 rfl rfl) fl_X9_18 (by decide) (fun r hr => by cases hr; exact ⟨rfl, rfl⟩) rfl hb (by omega) (by omega) (ly_9_2 hb).2.2 (Fz_lay (ly_9_2 hb)) (Fz_arr (ly_9_2 hb).2.2 (by decide)) (by decide) ⟨by decide, by decide⟩ (fun G3 P3 => ?_)))
  show Rn (d + 1) M_X9_init (bN + 1 + 1 + 1 + 1, 3, 15, 4, 75, none) 25 [(0, (2, (bN : Int)))] [] G3 Q
  refine r_aload_n d_X9_init_25 0 rfl rfl (r_bipush d_X9_init_26 (by decide +kernel) (n_arr (ci := 9) (f := 3) (fI := 3) (len := 60) (t := 0) (q := ((bN : Int) + 4)) P3 rfl d_X9_init_28 d_X9_init_30 rfl (by decide) (gk1 91 rfl rfl) fl_X9_21 (by decide) (fun r hr => by cases hr; exact ⟨rfl, rfl⟩) rfl hb (by omega) (by omega) (ly_9_3 hb).2.2 (Fz_lay (ly_9_3 hb)) (Fz_arr (ly_9_3 hb).2.2 (by decide)) (by decide) ⟨by decide, by decide⟩ (fun G4 P4 => ?_)))
  show Rn (d + 1) M_X9_init (bN + 1 + 1 + 1 + 1 + 1, 4, 75, 4, 75, none) 33 [(0, (2, (bN : Int)))] [] G4 Q
  refine r_ret d_X9_init_33 rfl ⟨by omega, Nat.le_refl _, Nat.le_refl _⟩ (h G4 P4.1 (fun q k q0 q1 k0 k1 => ?_))
  exact PA.fin frq_9 hb P4 hd (by omega) q k q0 q1 k0 k1
theorem d_X10_init_0 : decode cX10_init 0 = .ok (.aload_n 0, 1) := by decide +kernel
theorem d_X10_init_1 : decode cX10_init 1 = .ok (.invokespecial 3, 3) := by decide +kernel
theorem d_X10_init_4 : decode cX10_init 4 = .ok (.aload_n 0, 1) := by decide +kernel
theorem d_X10_init_5 : decode cX10_init 5 = .ok (.sipush 1000, 3) := by decide +kernel
theorem d_X10_init_8 : decode cX10_init 8 = .ok (.newarray .char, 2) := by decide +kernel
theorem d_X10_init_10 : decode cX10_init 10 = .ok (.putfield 9, 3) := by decide +kernel
theorem d_X10_init_13 : decode cX10_init 13 = .ok (.return_, 1) := by decide +kernel
theorem frq_10 : ∀ b ∈ basL.getD 10 [], ∀ k ∈ List.range (nf 10), ((k : Int) ∈ ([0] : List Int) ∨ dfl 10 (k : Int) = Fz b (k : Int)) := by decide +kernel
theorem i_10 {d : Nat} {G : Mem} {Q : Int → Mem → Prop} (hd : ∀ k : Nat, k < nf 10 → G 1 k = dfl 10 k) (h : ∀ G1, (∀ q k : Int, q < 1 → G1 q k = G q k) → Fr Fz G1 1 3 → Q 0 G1) : Ct (d + 1) M_X10_init 2 1 1000 none [(2, 1)] G Q := by
  refine Ct.of (by decide +kernel) (Nat.le_of_ble_eq_true rfl) ?_
  show Rn (d + 1) M_X10_init (2, 0, 0, 1, 1000, none) 0 [(0, (2, 1))] [] G Q
  have P0 : PA Fz 1 G G 2 [] := PA.rf (by omega)
  refine r_aload_n d_X10_init_0 0 rfl rfl (r_obj d_X10_init_1 (gk1 39 rfl rfl) (Nat.le_of_ble_eq_true rfl) ?_)
  refine r_aload_n d_X10_init_4 0 rfl rfl (r_sipush d_X10_init_5 (by decide +kernel) (n_arr (ci := 10) (f := 0) (fI := 0) (len := 1000) (t := 2) (q := 2) P0 rfl d_X10_init_8 d_X10_init_10 rfl (by decide) (gk1 67 rfl rfl) fl_X10_9 (by decide) (fun r hr => by cases hr; exact ⟨rfl, rfl⟩) rfl bs_10 (by omega) (by omega) (ly_10_0 bs_10).2.2 (Fz_lay (ly_10_0 bs_10)) (Fz_arr (ly_10_0 bs_10).2.2 (by decide)) (by decide) ⟨by decide, by decide⟩ (fun G1 P1 => ?_)))
  show Rn (d + 1) M_X10_init (3, 1, 1000, 1, 1000, none) 13 [(0, (2, 1))] [] G1 Q
  refine r_ret d_X10_init_13 rfl ⟨by omega, Nat.le_refl _, Nat.le_refl _⟩ (h G1 P1.1 (fun q k q0 q1 k0 k1 => ?_))
  exact PA.fin frq_10 bs_10 P1 hd (by omega) q k q0 q1 k0 k1
