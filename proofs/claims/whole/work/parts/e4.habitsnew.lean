/-! the sitter, the habits -/
theorem d_X7_init_0 : decode cX7_init 0 = .ok (.aload_n 0, 1) := by decide +kernel
theorem d_X7_init_1 : decode cX7_init 1 = .ok (.invokespecial 3, 3) := by decide +kernel
theorem d_X7_init_4 : decode cX7_init 4 = .ok (.return_, 1) := by decide +kernel
theorem frq_7 : ∀ b ∈ basL.getD 7 [], ∀ k ∈ List.range (nf 7), ((k : Int) ∈ ([] : List Int) ∨ dfl 7 (k : Int) = Fz b (k : Int)) := by decide +kernel
theorem i_7 {d : Nat} {G : Mem} {Q : Int → Mem → Prop} {bN : Nat} (hb : Bs 7 (bN : Int)) (hd : ∀ k : Nat, k < nf 7 → G (bN : Int) k = dfl 7 k) (h : ∀ G1, (∀ q k : Int, q < (bN : Int) → G1 q k = G q k) → Fr Fz G1 (bN : Int) ((bN : Int) + 1) → Q 0 G1) : Ct (d + 1) M_X7_init (bN + 1) 0 0 none [(2, (bN : Int))] G Q := by
  refine Ct.of (by decide +kernel) (Nat.le_of_ble_eq_true rfl) ?_
  show Rn (d + 1) M_X7_init (bN + 1, 0, 0, 0, 0, none) 0 [(0, (2, (bN : Int)))] [] G Q
  have P0 : PA Fz (bN : Int) G G (bN + 1) [] := PA.rf (by omega)
  refine r_aload_n d_X7_init_0 0 rfl rfl (r_obj d_X7_init_1 (gk2 90 rfl rfl) (Nat.le_of_ble_eq_true rfl) ?_)
  exact r_ret d_X7_init_4 rfl ⟨by omega, Nat.le_refl _, Nat.le_refl _⟩ (h G (fun _ _ _ => rfl) (PA.fin frq_7 hb P0 hd (by omega)))
theorem d_X2_init_0 : decode cX2_init 0 = .ok (.aload_n 0, 1) := by decide +kernel
theorem d_X2_init_1 : decode cX2_init 1 = .ok (.invokespecial 3, 3) := by decide +kernel
theorem d_X2_init_4 : decode cX2_init 4 = .ok (.aload_n 0, 1) := by decide +kernel
theorem d_X2_init_5 : decode cX2_init 5 = .ok (.new 9, 3) := by decide +kernel
theorem d_X2_init_8 : decode cX2_init 8 = .ok (.dup, 1) := by decide +kernel
theorem d_X2_init_9 : decode cX2_init 9 = .ok (.invokespecial 11, 3) := by decide +kernel
theorem d_X2_init_12 : decode cX2_init 12 = .ok (.putfield 12, 3) := by decide +kernel
theorem d_X2_init_15 : decode cX2_init 15 = .ok (.aload_n 0, 1) := by decide +kernel
theorem d_X2_init_16 : decode cX2_init 16 = .ok (.iconst 5, 1) := by decide +kernel
theorem d_X2_init_17 : decode cX2_init 17 = .ok (.newarray .int, 2) := by decide +kernel
theorem d_X2_init_19 : decode cX2_init 19 = .ok (.putfield 18, 3) := by decide +kernel
theorem d_X2_init_22 : decode cX2_init 22 = .ok (.aload_n 0, 1) := by decide +kernel
theorem d_X2_init_23 : decode cX2_init 23 = .ok (.iconst 5, 1) := by decide +kernel
theorem d_X2_init_24 : decode cX2_init 24 = .ok (.newarray .int, 2) := by decide +kernel
theorem d_X2_init_26 : decode cX2_init 26 = .ok (.putfield 22, 3) := by decide +kernel
theorem d_X2_init_29 : decode cX2_init 29 = .ok (.aload_n 0, 1) := by decide +kernel
theorem d_X2_init_30 : decode cX2_init 30 = .ok (.iconst 5, 1) := by decide +kernel
theorem d_X2_init_31 : decode cX2_init 31 = .ok (.newarray .int, 2) := by decide +kernel
theorem d_X2_init_33 : decode cX2_init 33 = .ok (.putfield 25, 3) := by decide +kernel
theorem d_X2_init_36 : decode cX2_init 36 = .ok (.aload_n 0, 1) := by decide +kernel
theorem d_X2_init_37 : decode cX2_init 37 = .ok (.iconst 5, 1) := by decide +kernel
theorem d_X2_init_38 : decode cX2_init 38 = .ok (.newarray .int, 2) := by decide +kernel
theorem d_X2_init_40 : decode cX2_init 40 = .ok (.putfield 28, 3) := by decide +kernel
theorem d_X2_init_43 : decode cX2_init 43 = .ok (.aload_n 0, 1) := by decide +kernel
theorem d_X2_init_44 : decode cX2_init 44 = .ok (.iconst 5, 1) := by decide +kernel
theorem d_X2_init_45 : decode cX2_init 45 = .ok (.newarray .int, 2) := by decide +kernel
theorem d_X2_init_47 : decode cX2_init 47 = .ok (.putfield 31, 3) := by decide +kernel
theorem d_X2_init_50 : decode cX2_init 50 = .ok (.return_, 1) := by decide +kernel
theorem nw_X2_9 : nwc RX2 9 8 := ⟨_, rfl, (gk1 158 rfl rfl), (gk1 159 rfl rfl), (gk1 7 rfl rfl)⟩
theorem cl_X2_11 : clNI RX2 11 M_X8_init 0 "PastSleep" := ⟨⟨by decide, gk1 162 rfl rfl, (gk1 7 rfl rfl), ⟨by decide +kernel, by decide +kernel, by decide +kernel⟩, List.mem_of_getElem? (i := 5) rfl⟩, rfl, (gk1 161 rfl rfl), rfl⟩
theorem frq_2 : ∀ b ∈ basL.getD 2 [], ∀ k ∈ List.range (nf 2), ((k : Int) ∈ ([9, 8, 3, 2, 1, 0] : List Int) ∨ dfl 2 (k : Int) = Fz b (k : Int)) := by decide +kernel
theorem b8N20 : Bs 8 ((20 : Nat) : Int) := by unfold Bs; decide +kernel
theorem i_2 {d : Nat} {G : Mem} {Q : Int → Mem → Prop} (hd : ∀ k : Nat, k < nf 2 → G 19 k = dfl 2 k) (h : ∀ G1, (∀ q k : Int, q < 19 → G1 q k = G q k) → Fr Fz G1 19 33 → Q 0 G1) : Ct (d + 2) M_X2_init 20 13 72 none [(2, 19)] G Q := by
  refine Ct.of (by decide +kernel) (Nat.le_of_ble_eq_true rfl) ?_
  show Rn (d + 2) M_X2_init (20, 0, 0, 13, 72, none) 0 [(0, (2, 19))] [] G Q
  have P0 : PA Fz 19 G G 20 [] := PA.rf (by omega)
  refine r_aload_n d_X2_init_0 0 rfl rfl (r_obj d_X2_init_1 (gk1 157 rfl rfl) (Nat.le_of_ble_eq_true rfl) ?_)
  refine r_aload_n d_X2_init_4 0 rfl rfl (n_newN (d := d + 1) (c2 := 8) (m2 := 7) (s2 := 35) d_X2_init_5 d_X2_init_8 d_X2_init_9 (by decide) b8N20 nw_X2_9 cl_X2_11 (by decide) ⟨by decide, by decide⟩ (fun hd8 => i_8 (bN := 20) b8N20 hd8 (fun G1 f1 r1 => ?_)))
  refine n_put (ci := 2) (f := 0) (fI := 0) (n' := 28) (q := 20) (hi := 28) P0 f1 r1 (fun _ _ _ _ _ _ => rfl) (by decide) (by decide) (by decide) (by decide) (Fz_lay (ly_2_0 bs_2)) rfl d_X2_init_12 fl_X2_12 (by decide) (fun r hr => by cases hr; exact ⟨rfl, rfl⟩) rfl bs_2 (fun G2 P1 => ?_)
  show Rn (d + 2) M_X2_init (28, 8, 47, 13, 72, none) 15 [(0, (2, 19))] [] G2 Q
  refine r_aload_n d_X2_init_15 0 rfl rfl (r_iconst d_X2_init_16 (n_arr (ci := 2) (f := 1) (fI := 1) (len := 5) (t := 0) (q := 28) P1 rfl d_X2_init_17 d_X2_init_19 rfl (by decide) (gk1 91 rfl rfl) fl_X2_18 (by decide) (fun r hr => by cases hr; exact ⟨rfl, rfl⟩) rfl bs_2 (by omega) (by omega) (ly_2_1 bs_2).2.2 (Fz_lay (ly_2_1 bs_2)) (Fz_arr (ly_2_1 bs_2).2.2 (by decide)) (by decide) ⟨by decide, by decide⟩ (fun G3 P2 => ?_)))
  show Rn (d + 2) M_X2_init (29, 9, 52, 13, 72, none) 22 [(0, (2, 19))] [] G3 Q
  refine r_aload_n d_X2_init_22 0 rfl rfl (r_iconst d_X2_init_23 (n_arr (ci := 2) (f := 2) (fI := 2) (len := 5) (t := 0) (q := 29) P2 rfl d_X2_init_24 d_X2_init_26 rfl (by decide) (gk1 91 rfl rfl) fl_X2_22 (by decide) (fun r hr => by cases hr; exact ⟨rfl, rfl⟩) rfl bs_2 (by omega) (by omega) (ly_2_2 bs_2).2.2 (Fz_lay (ly_2_2 bs_2)) (Fz_arr (ly_2_2 bs_2).2.2 (by decide)) (by decide) ⟨by decide, by decide⟩ (fun G4 P3 => ?_)))
  show Rn (d + 2) M_X2_init (30, 10, 57, 13, 72, none) 29 [(0, (2, 19))] [] G4 Q
  refine r_aload_n d_X2_init_29 0 rfl rfl (r_iconst d_X2_init_30 (n_arr (ci := 2) (f := 3) (fI := 3) (len := 5) (t := 0) (q := 30) P3 rfl d_X2_init_31 d_X2_init_33 rfl (by decide) (gk1 91 rfl rfl) fl_X2_25 (by decide) (fun r hr => by cases hr; exact ⟨rfl, rfl⟩) rfl bs_2 (by omega) (by omega) (ly_2_3 bs_2).2.2 (Fz_lay (ly_2_3 bs_2)) (Fz_arr (ly_2_3 bs_2).2.2 (by decide)) (by decide) ⟨by decide, by decide⟩ (fun G5 P4 => ?_)))
  show Rn (d + 2) M_X2_init (31, 11, 62, 13, 72, none) 36 [(0, (2, 19))] [] G5 Q
  refine r_aload_n d_X2_init_36 0 rfl rfl (r_iconst d_X2_init_37 (n_arr (ci := 2) (f := 8) (fI := 8) (len := 5) (t := 0) (q := 31) P4 rfl d_X2_init_38 d_X2_init_40 rfl (by decide) (gk1 91 rfl rfl) fl_X2_28 (by decide) (fun r hr => by cases hr; exact ⟨rfl, rfl⟩) rfl bs_2 (by omega) (by omega) (ly_2_8 bs_2).2.2 (Fz_lay (ly_2_8 bs_2)) (Fz_arr (ly_2_8 bs_2).2.2 (by decide)) (by decide) ⟨by decide, by decide⟩ (fun G6 P5 => ?_)))
  show Rn (d + 2) M_X2_init (32, 12, 67, 13, 72, none) 43 [(0, (2, 19))] [] G6 Q
  refine r_aload_n d_X2_init_43 0 rfl rfl (r_iconst d_X2_init_44 (n_arr (ci := 2) (f := 9) (fI := 9) (len := 5) (t := 0) (q := 32) P5 rfl d_X2_init_45 d_X2_init_47 rfl (by decide) (gk1 91 rfl rfl) fl_X2_31 (by decide) (fun r hr => by cases hr; exact ⟨rfl, rfl⟩) rfl bs_2 (by omega) (by omega) (ly_2_9 bs_2).2.2 (Fz_lay (ly_2_9 bs_2)) (Fz_arr (ly_2_9 bs_2).2.2 (by decide)) (by decide) ⟨by decide, by decide⟩ (fun G7 P6 => ?_)))
  show Rn (d + 2) M_X2_init (33, 13, 72, 13, 72, none) 50 [(0, (2, 19))] [] G7 Q
  exact r_ret d_X2_init_50 rfl ⟨by omega, Nat.le_refl _, Nat.le_refl _⟩ (h G7 P6.1 (PA.fin frq_2 bs_2 P6 hd (by decide)))
