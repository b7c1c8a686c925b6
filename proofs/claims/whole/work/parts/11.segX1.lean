theorem d_X1_clear_0 : decode M_X1_clear.2.1 0 = .ok (.aload_n 0, 1) := by decide +kernel
theorem d_X1_clear_1 : decode M_X1_clear.2.1 1 = .ok (.iconst 2, 1) := by decide +kernel
theorem d_X1_clear_2 : decode M_X1_clear.2.1 2 = .ok (.putfield 41, 3) := by decide +kernel
theorem d_X1_clear_5 : decode M_X1_clear.2.1 5 = .ok (.aload_n 0, 1) := by decide +kernel
theorem d_X1_clear_6 : decode M_X1_clear.2.1 6 = .ok (.iconst 1, 1) := by decide +kernel
theorem d_X1_clear_7 : decode M_X1_clear.2.1 7 = .ok (.putfield 45, 3) := by decide +kernel
theorem d_X1_clear_10 : decode M_X1_clear.2.1 10 = .ok (.aload_n 0, 1) := by decide +kernel
theorem d_X1_clear_11 : decode M_X1_clear.2.1 11 = .ok (.iconst 0, 1) := by decide +kernel
theorem d_X1_clear_12 : decode M_X1_clear.2.1 12 = .ok (.putfield 48, 3) := by decide +kernel
theorem d_X1_clear_15 : decode M_X1_clear.2.1 15 = .ok (.aload_n 0, 1) := by decide +kernel
theorem d_X1_clear_16 : decode M_X1_clear.2.1 16 = .ok (.bipush 11, 2) := by decide +kernel
theorem d_X1_clear_18 : decode M_X1_clear.2.1 18 = .ok (.putfield 51, 3) := by decide +kernel
theorem d_X1_clear_21 : decode M_X1_clear.2.1 21 = .ok (.aload_n 0, 1) := by decide +kernel
theorem d_X1_clear_22 : decode M_X1_clear.2.1 22 = .ok (.bipush 9, 2) := by decide +kernel
theorem d_X1_clear_24 : decode M_X1_clear.2.1 24 = .ok (.putfield 54, 3) := by decide +kernel
theorem d_X1_clear_27 : decode M_X1_clear.2.1 27 = .ok (.aload_n 0, 1) := by decide +kernel
theorem d_X1_clear_28 : decode M_X1_clear.2.1 28 = .ok (.getfield 17, 3) := by decide +kernel
theorem d_X1_clear_31 : decode M_X1_clear.2.1 31 = .ok (.iconst (-1), 1) := by decide +kernel
theorem d_X1_clear_32 : decode M_X1_clear.2.1 32 = .ok (.invokestatic 57, 3) := by decide +kernel
theorem d_X1_clear_35 : decode M_X1_clear.2.1 35 = .ok (.aload_n 0, 1) := by decide +kernel
theorem d_X1_clear_36 : decode M_X1_clear.2.1 36 = .ok (.getfield 21, 3) := by decide +kernel
theorem d_X1_clear_39 : decode M_X1_clear.2.1 39 = .ok (.iconst 0, 1) := by decide +kernel
theorem d_X1_clear_40 : decode M_X1_clear.2.1 40 = .ok (.invokestatic 57, 3) := by decide +kernel
theorem d_X1_clear_43 : decode M_X1_clear.2.1 43 = .ok (.aload_n 0, 1) := by decide +kernel
theorem d_X1_clear_44 : decode M_X1_clear.2.1 44 = .ok (.getfield 24, 3) := by decide +kernel
theorem d_X1_clear_47 : decode M_X1_clear.2.1 47 = .ok (.iconst 0, 1) := by decide +kernel
theorem d_X1_clear_48 : decode M_X1_clear.2.1 48 = .ok (.invokestatic 57, 3) := by decide +kernel
theorem d_X1_clear_51 : decode M_X1_clear.2.1 51 = .ok (.aload_n 0, 1) := by decide +kernel
theorem d_X1_clear_52 : decode M_X1_clear.2.1 52 = .ok (.getfield 27, 3) := by decide +kernel
theorem d_X1_clear_55 : decode M_X1_clear.2.1 55 = .ok (.iconst 1, 1) := by decide +kernel
theorem d_X1_clear_56 : decode M_X1_clear.2.1 56 = .ok (.invokestatic 57, 3) := by decide +kernel
theorem d_X1_clear_59 : decode M_X1_clear.2.1 59 = .ok (.aload_n 0, 1) := by decide +kernel
theorem d_X1_clear_60 : decode M_X1_clear.2.1 60 = .ok (.getfield 33, 3) := by decide +kernel
theorem d_X1_clear_63 : decode M_X1_clear.2.1 63 = .ok (.invokevirtual 63, 3) := by decide +kernel
theorem d_X1_clear_66 : decode M_X1_clear.2.1 66 = .ok (.return_, 1) := by decide +kernel
set_option maxRecDepth 20000 in
theorem s_X1_clear_0 {d : Nat} {n : Nat} {Ly : Option Mem} {t : Int} {G : Mem} {Q : Int → Mem → Prop} (bt : Ob n t 1) (h : (∀ G1 : Mem, G1 = st G t 6 2 → (∀ G2 : Mem, G2 = st G1 t 7 1 → (∀ G3 : Mem, G3 = st G2 t 8 0 → (∀ G4 : Mem, G4 = st G3 t 9 11 → (∀ G5 : Mem, G5 = st G4 t 10 9 → (0 ≤ (rl Ly G5 t 1)) ∧ (Ar n (rl Ly G5 t 1) 0 5) ∧ (Ct d M_J7_fill_53178 n 0 0 Ly [(2, (rl Ly G5 t 1)), (0, (-1))] G5 (fun r9 G8 => (0 ≤ (rl Ly G8 t 2)) ∧ (Ar n (rl Ly G8 t 2) 0 5) ∧ (Ct d M_J7_fill_53178 n 0 0 Ly [(2, (rl Ly G8 t 2)), (0, 0)] G8 (fun r13 G12 => (0 ≤ (rl Ly G12 t 3)) ∧ (Ar n (rl Ly G12 t 3) 0 72) ∧ (Ct d M_J7_fill_53178 n 0 0 Ly [(2, (rl Ly G12 t 3)), (0, 0)] G12 (fun r17 G16 => (0 ≤ (rl Ly G16 t 4)) ∧ (Ar n (rl Ly G16 t 4) 0 4) ∧ (Ct d M_J7_fill_53178 n 0 0 Ly [(2, (rl Ly G16 t 4)), (0, 1)] G16 (fun r21 G20 => (0 ≤ (rl Ly G20 t 5)) ∧ (Ob n (rl Ly G20 t 5) 3) ∧ (Ct d M_X3_clear n 0 0 Ly [(2, (rl Ly G20 t 5))] G20 (fun r25 G24 => Q 0 G24)))))))))))))))) : Rn (d + 1) M_X1_clear (n, 0, 0, 0, 0, Ly) 0 [(0, (2, t))] [] G Q := by
  refine r_aload_n d_X1_clear_0 0 rfl rfl ?_
  refine r_iconst d_X1_clear_1 ?_
  obtain ⟨G1, eG1⟩ : ∃ y : Mem, y = st G t 6 2 := ⟨_, rfl⟩
  replace h := h G1 eG1
  refine r_putI 1 6 6 rfl d_X1_clear_2 fl_X1_41 (by decide) nofin_1_6 bt ?_
  rw [← eG1]
  refine r_aload_n d_X1_clear_5 0 rfl rfl ?_
  refine r_iconst d_X1_clear_6 ?_
  obtain ⟨G2, eG2⟩ : ∃ y : Mem, y = st G1 t 7 1 := ⟨_, rfl⟩
  replace h := h G2 eG2
  refine r_putI 1 7 7 rfl d_X1_clear_7 fl_X1_45 (by decide) nofin_1_7 bt ?_
  rw [← eG2]
  refine r_aload_n d_X1_clear_10 0 rfl rfl ?_
  refine r_iconst d_X1_clear_11 ?_
  obtain ⟨G3, eG3⟩ : ∃ y : Mem, y = st G2 t 8 0 := ⟨_, rfl⟩
  replace h := h G3 eG3
  refine r_putI 1 8 8 rfl d_X1_clear_12 fl_X1_48 (by decide) nofin_1_8 bt ?_
  rw [← eG3]
  refine r_aload_n d_X1_clear_15 0 rfl rfl ?_
  refine r_bipush d_X1_clear_16 (by decide +kernel) ?_
  obtain ⟨G4, eG4⟩ : ∃ y : Mem, y = st G3 t 9 11 := ⟨_, rfl⟩
  replace h := h G4 eG4
  refine r_putI 1 9 9 rfl d_X1_clear_18 fl_X1_51 (by decide) nofin_1_9 bt ?_
  rw [← eG4]
  refine r_aload_n d_X1_clear_21 0 rfl rfl ?_
  refine r_bipush d_X1_clear_22 (by decide +kernel) ?_
  obtain ⟨G5, eG5⟩ : ∃ y : Mem, y = st G4 t 10 9 := ⟨_, rfl⟩
  replace h := h G5 eG5
  refine r_putI 1 10 10 rfl d_X1_clear_24 fl_X1_54 (by decide) nofin_1_10 bt ?_
  rw [← eG5]
  refine r_aload_n d_X1_clear_27 0 rfl rfl ?_
  obtain ⟨h6, h⟩ := h
  obtain ⟨a7, h⟩ := h
  refine r_getF 1 1 1 rfl d_X1_clear_28 fl_X1_17 (by decide) bt h6 ?_
  refine r_iconst d_X1_clear_31 ?_
  refine r_callS0 (M' := M_J7_fill_53178) [(2, (rl Ly G5 t 1)), (0, (-1))] d_X1_clear_32 cl_X1_57 rfl (Nat.le_of_ble_eq_true rfl) ?_
  refine Ct.mono h (fun r9 G8 h => ?_)
  show Rn _ M_X1_clear (n, 0, 0, 0, 0, Ly) 35 [(0, (2, t))] [] G8 Q
  refine r_aload_n d_X1_clear_35 0 rfl rfl ?_
  obtain ⟨h10, h⟩ := h
  obtain ⟨a11, h⟩ := h
  refine r_getF 1 2 2 rfl d_X1_clear_36 fl_X1_21 (by decide) bt h10 ?_
  refine r_iconst d_X1_clear_39 ?_
  refine r_callS0 (M' := M_J7_fill_53178) [(2, (rl Ly G8 t 2)), (0, 0)] d_X1_clear_40 cl_X1_57 rfl (Nat.le_of_ble_eq_true rfl) ?_
  refine Ct.mono h (fun r13 G12 h => ?_)
  show Rn _ M_X1_clear (n, 0, 0, 0, 0, Ly) 43 [(0, (2, t))] [] G12 Q
  refine r_aload_n d_X1_clear_43 0 rfl rfl ?_
  obtain ⟨h14, h⟩ := h
  obtain ⟨a15, h⟩ := h
  refine r_getF 1 3 3 rfl d_X1_clear_44 fl_X1_24 (by decide) bt h14 ?_
  refine r_iconst d_X1_clear_47 ?_
  refine r_callS0 (M' := M_J7_fill_53178) [(2, (rl Ly G12 t 3)), (0, 0)] d_X1_clear_48 cl_X1_57 rfl (Nat.le_of_ble_eq_true rfl) ?_
  refine Ct.mono h (fun r17 G16 h => ?_)
  show Rn _ M_X1_clear (n, 0, 0, 0, 0, Ly) 51 [(0, (2, t))] [] G16 Q
  refine r_aload_n d_X1_clear_51 0 rfl rfl ?_
  obtain ⟨h18, h⟩ := h
  obtain ⟨a19, h⟩ := h
  refine r_getF 1 4 4 rfl d_X1_clear_52 fl_X1_27 (by decide) bt h18 ?_
  refine r_iconst d_X1_clear_55 ?_
  refine r_callS0 (M' := M_J7_fill_53178) [(2, (rl Ly G16 t 4)), (0, 1)] d_X1_clear_56 cl_X1_57 rfl (Nat.le_of_ble_eq_true rfl) ?_
  refine Ct.mono h (fun r21 G20 h => ?_)
  show Rn _ M_X1_clear (n, 0, 0, 0, 0, Ly) 59 [(0, (2, t))] [] G20 Q
  refine r_aload_n d_X1_clear_59 0 rfl rfl ?_
  obtain ⟨h22, h⟩ := h
  obtain ⟨b23, h⟩ := h
  refine r_getF 1 5 5 rfl d_X1_clear_60 fl_X1_33 (by decide) bt h22 ?_
  refine r_callV0 (M' := M_X3_clear) (ci := 3) [] d_X1_clear_63 cl_X1_63 rfl (Nat.le_of_ble_eq_true rfl) (by decide) rfl b23 ?_
  refine Ct.mono h (fun r25 G24 h => ?_)
  show Rn _ M_X1_clear (n, 0, 0, 0, 0, Ly) 66 [(0, (2, t))] [] G24 Q
  exact r_ret d_X1_clear_66 rfl ⟨rfl, Nat.le_refl _, Nat.le_refl _⟩ h
theorem d_X1_take_0 : decode M_X1_take.2.1 0 = .ok (.aload_n 0, 1) := by decide +kernel
theorem d_X1_take_1 : decode M_X1_take.2.1 1 = .ok (.aload_n 1, 1) := by decide +kernel
theorem d_X1_take_2 : decode M_X1_take.2.1 2 = .ok (.getfield 41, 3) := by decide +kernel
theorem d_X1_take_5 : decode M_X1_take.2.1 5 = .ok (.putfield 41, 3) := by decide +kernel
theorem d_X1_take_8 : decode M_X1_take.2.1 8 = .ok (.aload_n 0, 1) := by decide +kernel
theorem d_X1_take_9 : decode M_X1_take.2.1 9 = .ok (.aload_n 1, 1) := by decide +kernel
theorem d_X1_take_10 : decode M_X1_take.2.1 10 = .ok (.getfield 45, 3) := by decide +kernel
theorem d_X1_take_13 : decode M_X1_take.2.1 13 = .ok (.putfield 45, 3) := by decide +kernel
theorem d_X1_take_16 : decode M_X1_take.2.1 16 = .ok (.aload_n 0, 1) := by decide +kernel
theorem d_X1_take_17 : decode M_X1_take.2.1 17 = .ok (.aload_n 1, 1) := by decide +kernel
theorem d_X1_take_18 : decode M_X1_take.2.1 18 = .ok (.getfield 48, 3) := by decide +kernel
theorem d_X1_take_21 : decode M_X1_take.2.1 21 = .ok (.putfield 48, 3) := by decide +kernel
theorem d_X1_take_24 : decode M_X1_take.2.1 24 = .ok (.aload_n 0, 1) := by decide +kernel
theorem d_X1_take_25 : decode M_X1_take.2.1 25 = .ok (.aload_n 1, 1) := by decide +kernel
theorem d_X1_take_26 : decode M_X1_take.2.1 26 = .ok (.getfield 51, 3) := by decide +kernel
theorem d_X1_take_29 : decode M_X1_take.2.1 29 = .ok (.putfield 51, 3) := by decide +kernel
theorem d_X1_take_32 : decode M_X1_take.2.1 32 = .ok (.aload_n 0, 1) := by decide +kernel
theorem d_X1_take_33 : decode M_X1_take.2.1 33 = .ok (.aload_n 1, 1) := by decide +kernel
theorem d_X1_take_34 : decode M_X1_take.2.1 34 = .ok (.getfield 54, 3) := by decide +kernel
theorem d_X1_take_37 : decode M_X1_take.2.1 37 = .ok (.putfield 54, 3) := by decide +kernel
theorem d_X1_take_40 : decode M_X1_take.2.1 40 = .ok (.iconst 0, 1) := by decide +kernel
theorem d_X1_take_41 : decode M_X1_take.2.1 41 = .ok (.istore_n 2, 1) := by decide +kernel
theorem d_X1_take_42 : decode M_X1_take.2.1 42 = .ok (.iload_n 2, 1) := by decide +kernel
theorem d_X1_take_43 : decode M_X1_take.2.1 43 = .ok (.iconst 5, 1) := by decide +kernel
theorem d_X1_take_44 : decode M_X1_take.2.1 44 = .ok (.if_icmp .ge 24, 3) := by decide +kernel
theorem d_X1_take_47 : decode M_X1_take.2.1 47 = .ok (.aload_n 0, 1) := by decide +kernel
theorem d_X1_take_48 : decode M_X1_take.2.1 48 = .ok (.getfield 11, 3) := by decide +kernel
theorem d_X1_take_51 : decode M_X1_take.2.1 51 = .ok (.iload_n 2, 1) := by decide +kernel
theorem d_X1_take_52 : decode M_X1_take.2.1 52 = .ok (.aaload, 1) := by decide +kernel
theorem d_X1_take_53 : decode M_X1_take.2.1 53 = .ok (.aload_n 1, 1) := by decide +kernel
theorem d_X1_take_54 : decode M_X1_take.2.1 54 = .ok (.getfield 11, 3) := by decide +kernel
theorem d_X1_take_57 : decode M_X1_take.2.1 57 = .ok (.iload_n 2, 1) := by decide +kernel
theorem d_X1_take_58 : decode M_X1_take.2.1 58 = .ok (.aaload, 1) := by decide +kernel
theorem d_X1_take_59 : decode M_X1_take.2.1 59 = .ok (.invokevirtual 64, 3) := by decide +kernel
theorem d_X1_take_62 : decode M_X1_take.2.1 62 = .ok (.iinc 2 1, 3) := by decide +kernel
theorem d_X1_take_65 : decode M_X1_take.2.1 65 = .ok (.goto (-23), 3) := by decide +kernel
theorem d_X1_take_68 : decode M_X1_take.2.1 68 = .ok (.aload_n 1, 1) := by decide +kernel
theorem d_X1_take_69 : decode M_X1_take.2.1 69 = .ok (.getfield 17, 3) := by decide +kernel
theorem d_X1_take_72 : decode M_X1_take.2.1 72 = .ok (.iconst 0, 1) := by decide +kernel
theorem d_X1_take_73 : decode M_X1_take.2.1 73 = .ok (.aload_n 0, 1) := by decide +kernel
theorem d_X1_take_74 : decode M_X1_take.2.1 74 = .ok (.getfield 17, 3) := by decide +kernel
theorem d_X1_take_77 : decode M_X1_take.2.1 77 = .ok (.iconst 0, 1) := by decide +kernel
theorem d_X1_take_78 : decode M_X1_take.2.1 78 = .ok (.aload_n 0, 1) := by decide +kernel
theorem d_X1_take_79 : decode M_X1_take.2.1 79 = .ok (.getfield 17, 3) := by decide +kernel
theorem d_X1_take_82 : decode M_X1_take.2.1 82 = .ok (.arraylength, 1) := by decide +kernel
theorem d_X1_take_83 : decode M_X1_take.2.1 83 = .ok (.invokestatic 68, 3) := by decide +kernel
theorem d_X1_take_86 : decode M_X1_take.2.1 86 = .ok (.aload_n 1, 1) := by decide +kernel
theorem d_X1_take_87 : decode M_X1_take.2.1 87 = .ok (.getfield 21, 3) := by decide +kernel
theorem d_X1_take_90 : decode M_X1_take.2.1 90 = .ok (.iconst 0, 1) := by decide +kernel
theorem d_X1_take_91 : decode M_X1_take.2.1 91 = .ok (.aload_n 0, 1) := by decide +kernel
theorem d_X1_take_92 : decode M_X1_take.2.1 92 = .ok (.getfield 21, 3) := by decide +kernel
theorem d_X1_take_95 : decode M_X1_take.2.1 95 = .ok (.iconst 0, 1) := by decide +kernel
theorem d_X1_take_96 : decode M_X1_take.2.1 96 = .ok (.aload_n 0, 1) := by decide +kernel
theorem d_X1_take_97 : decode M_X1_take.2.1 97 = .ok (.getfield 21, 3) := by decide +kernel
theorem d_X1_take_100 : decode M_X1_take.2.1 100 = .ok (.arraylength, 1) := by decide +kernel
theorem d_X1_take_101 : decode M_X1_take.2.1 101 = .ok (.invokestatic 68, 3) := by decide +kernel
theorem d_X1_take_104 : decode M_X1_take.2.1 104 = .ok (.aload_n 1, 1) := by decide +kernel
theorem d_X1_take_105 : decode M_X1_take.2.1 105 = .ok (.getfield 24, 3) := by decide +kernel
theorem d_X1_take_108 : decode M_X1_take.2.1 108 = .ok (.iconst 0, 1) := by decide +kernel
theorem d_X1_take_109 : decode M_X1_take.2.1 109 = .ok (.aload_n 0, 1) := by decide +kernel
theorem d_X1_take_110 : decode M_X1_take.2.1 110 = .ok (.getfield 24, 3) := by decide +kernel
theorem d_X1_take_113 : decode M_X1_take.2.1 113 = .ok (.iconst 0, 1) := by decide +kernel
theorem d_X1_take_114 : decode M_X1_take.2.1 114 = .ok (.aload_n 0, 1) := by decide +kernel
theorem d_X1_take_115 : decode M_X1_take.2.1 115 = .ok (.getfield 24, 3) := by decide +kernel
theorem d_X1_take_118 : decode M_X1_take.2.1 118 = .ok (.arraylength, 1) := by decide +kernel
theorem d_X1_take_119 : decode M_X1_take.2.1 119 = .ok (.invokestatic 68, 3) := by decide +kernel
theorem d_X1_take_122 : decode M_X1_take.2.1 122 = .ok (.aload_n 1, 1) := by decide +kernel
theorem d_X1_take_123 : decode M_X1_take.2.1 123 = .ok (.getfield 27, 3) := by decide +kernel
theorem d_X1_take_126 : decode M_X1_take.2.1 126 = .ok (.iconst 0, 1) := by decide +kernel
theorem d_X1_take_127 : decode M_X1_take.2.1 127 = .ok (.aload_n 0, 1) := by decide +kernel
theorem d_X1_take_128 : decode M_X1_take.2.1 128 = .ok (.getfield 27, 3) := by decide +kernel
theorem d_X1_take_131 : decode M_X1_take.2.1 131 = .ok (.iconst 0, 1) := by decide +kernel
theorem d_X1_take_132 : decode M_X1_take.2.1 132 = .ok (.aload_n 0, 1) := by decide +kernel
theorem d_X1_take_133 : decode M_X1_take.2.1 133 = .ok (.getfield 27, 3) := by decide +kernel
theorem d_X1_take_136 : decode M_X1_take.2.1 136 = .ok (.arraylength, 1) := by decide +kernel
theorem d_X1_take_137 : decode M_X1_take.2.1 137 = .ok (.invokestatic 68, 3) := by decide +kernel
theorem d_X1_take_140 : decode M_X1_take.2.1 140 = .ok (.aload_n 0, 1) := by decide +kernel
theorem d_X1_take_141 : decode M_X1_take.2.1 141 = .ok (.getfield 33, 3) := by decide +kernel
theorem d_X1_take_144 : decode M_X1_take.2.1 144 = .ok (.aload_n 1, 1) := by decide +kernel
theorem d_X1_take_145 : decode M_X1_take.2.1 145 = .ok (.getfield 33, 3) := by decide +kernel
theorem d_X1_take_148 : decode M_X1_take.2.1 148 = .ok (.invokevirtual 74, 3) := by decide +kernel
theorem d_X1_take_151 : decode M_X1_take.2.1 151 = .ok (.return_, 1) := by decide +kernel
set_option maxRecDepth 20000 in
theorem s_X1_take_0 {d : Nat} {t : Int} {p0 : Int} {G : Mem} {Q : Int → Mem → Prop} (bt : Bs 1 t) (bp0 : Bs 1 p0) (h : (∀ G1 : Mem, G1 = st G t 6 (G p0 6) → (∀ G2 : Mem, G2 = st G1 t 7 (G1 p0 7) → (∀ G3 : Mem, G3 = st G2 t 8 (G2 p0 8) → (∀ G4 : Mem, G4 = st G3 t 9 (G3 p0 9) → (∀ G5 : Mem, G5 = st G4 t 10 (G4 p0 10) → Rn d M_X1_take zN 42 [(0, (2, t)), (1, (2, p0)), (2, (0, 0))] [] G5 Q)))))) : Rn d M_X1_take zN 0 [(0, (2, t)), (1, (2, p0))] [] G Q := by
  refine r_aload_n d_X1_take_0 0 rfl rfl ?_
  refine r_aload_n d_X1_take_1 1 rfl rfl ?_
  refine r_getI 1 6 6 rfl d_X1_take_2 fl_X1_41 (by decide) (bs_ob bp0) ?_
  obtain ⟨G1, eG1⟩ : ∃ y : Mem, y = st G t 6 (G p0 6) := ⟨_, rfl⟩
  replace h := h G1 eG1
  refine r_putI 1 6 6 rfl d_X1_take_5 fl_X1_41 (by decide) nofin_1_6 (bs_ob bt) ?_
  rw [← eG1]
  refine r_aload_n d_X1_take_8 0 rfl rfl ?_
  refine r_aload_n d_X1_take_9 1 rfl rfl ?_
  refine r_getI 1 7 7 rfl d_X1_take_10 fl_X1_45 (by decide) (bs_ob bp0) ?_
  obtain ⟨G2, eG2⟩ : ∃ y : Mem, y = st G1 t 7 (G1 p0 7) := ⟨_, rfl⟩
  replace h := h G2 eG2
  refine r_putI 1 7 7 rfl d_X1_take_13 fl_X1_45 (by decide) nofin_1_7 (bs_ob bt) ?_
  rw [← eG2]
  refine r_aload_n d_X1_take_16 0 rfl rfl ?_
  refine r_aload_n d_X1_take_17 1 rfl rfl ?_
  refine r_getI 1 8 8 rfl d_X1_take_18 fl_X1_48 (by decide) (bs_ob bp0) ?_
  obtain ⟨G3, eG3⟩ : ∃ y : Mem, y = st G2 t 8 (G2 p0 8) := ⟨_, rfl⟩
  replace h := h G3 eG3
  refine r_putI 1 8 8 rfl d_X1_take_21 fl_X1_48 (by decide) nofin_1_8 (bs_ob bt) ?_
  rw [← eG3]
  refine r_aload_n d_X1_take_24 0 rfl rfl ?_
  refine r_aload_n d_X1_take_25 1 rfl rfl ?_
  refine r_getI 1 9 9 rfl d_X1_take_26 fl_X1_51 (by decide) (bs_ob bp0) ?_
  obtain ⟨G4, eG4⟩ : ∃ y : Mem, y = st G3 t 9 (G3 p0 9) := ⟨_, rfl⟩
  replace h := h G4 eG4
  refine r_putI 1 9 9 rfl d_X1_take_29 fl_X1_51 (by decide) nofin_1_9 (bs_ob bt) ?_
  rw [← eG4]
  refine r_aload_n d_X1_take_32 0 rfl rfl ?_
  refine r_aload_n d_X1_take_33 1 rfl rfl ?_
  refine r_getI 1 10 10 rfl d_X1_take_34 fl_X1_54 (by decide) (bs_ob bp0) ?_
  obtain ⟨G5, eG5⟩ : ∃ y : Mem, y = st G4 t 10 (G4 p0 10) := ⟨_, rfl⟩
  replace h := h G5 eG5
  refine r_putI 1 10 10 rfl d_X1_take_37 fl_X1_54 (by decide) nofin_1_10 (bs_ob bt) ?_
  rw [← eG5]
  refine r_iconst d_X1_take_40 ?_
  refine r_istore_n (ls1 := [(2, (0, 0)), (0, (2, t)), (1, (2, p0))]) d_X1_take_41 rfl (by decide) rfl ?_
  exact Rn.sub [1, 2, 0] rfl h
set_option maxRecDepth 20000 in
theorem s_X1_take_42 {d : Nat} {x0 : Int} {x1 : Int} {x2 : Int} {G : Mem} {Q : Int → Mem → Prop} (bx0 : Bs 1 x0) (bx1 : Bs 1 x1) (h : (InR x2) ∧ ((5 ≤ x2) → (CpOk 0 0 5 5 5) ∧ (∀ G4 : Mem, G4 = cpy G (x1 + 2) 0 (x0 + 2) 0 5 → (CpOk 0 0 5 5 5) ∧ (∀ G6 : Mem, G6 = cpy G4 (x1 + 3) 0 (x0 + 3) 0 5 → (CpOk 0 0 72 72 72) ∧ (∀ G8 : Mem, G8 = cpy G6 (x1 + 4) 0 (x0 + 4) 0 72 → (CpOk 0 0 4 4 4) ∧ (∀ G10 : Mem, G10 = cpy G8 (x1 + 5) 0 (x0 + 5) 0 4 → Ct d M_X3_take NT 0 0 (some lay) [(2, (x0 + 6)), (2, (x1 + 6))] G10 (fun r12 G11 => Q 0 G11)))))) ∧ (¬ (5 ≤ x2) → (0 ≤ x2 ∧ x2 < 5) ∧ (Ct d M_X7_take NT 0 0 (some lay) [(2, ((x0 + 13) + x2)), (2, ((x1 + 13) + x2))] G (fun r15 G14 => Rn (d + 1) M_X1_take zN 42 [(0, (2, x0)), (1, (2, x1)), (2, (0, (x2 + 1)))] [] G14 Q)))) : Rn (d + 1) M_X1_take zN 42 [(0, (2, x0)), (1, (2, x1)), (2, (0, x2))] [] G Q := by
  refine r_iload_n d_X1_take_42 2 rfl rfl ?_
  refine r_iconst d_X1_take_43 ?_
  obtain ⟨h1, h⟩ := h
  refine r_icmp_ge (tgt := 68) d_X1_take_44 (by decide) h1 ⟨by decide, by decide⟩ (fun c2 => ?_) (fun c2 => ?_)
  · replace h := h.1 c2
    refine r_aload_n d_X1_take_68 1 rfl rfl ?_
    refine r_getL (v := (x1 + 2)) 1 1 1 rfl d_X1_take_69 fl_X1_17 (by decide) (bs_ob bx1) (ly_1_1 bx1).1 (ly_1_1 bx1).2.1 ?_
    refine r_iconst d_X1_take_72 ?_
    refine r_aload_n d_X1_take_73 0 rfl rfl ?_
    refine r_getL (v := (x0 + 2)) 1 1 1 rfl d_X1_take_74 fl_X1_17 (by decide) (bs_ob bx0) (ly_1_1 bx0).1 (ly_1_1 bx0).2.1 ?_
    refine r_iconst d_X1_take_77 ?_
    refine r_aload_n d_X1_take_78 0 rfl rfl ?_
    refine r_getL (v := (x0 + 2)) 1 1 1 rfl d_X1_take_79 fl_X1_17 (by decide) (bs_ob bx0) (ly_1_1 bx0).1 (ly_1_1 bx0).2.1 ?_
    refine r_alen 5 rfl d_X1_take_82 (ly_1_1 bx0).2.2 ?_
    obtain ⟨h3, h⟩ := h
    obtain ⟨G4, eG4⟩ : ∃ y : Mem, y = cpy G (x1 + 2) 0 (x0 + 2) 0 5 := ⟨_, rfl⟩
    replace h := h G4 eG4
    refine r_acopy d_X1_take_83 ac_X1_68 (ly_1_1 bx1).2.2 (ly_1_1 bx0).2.2 h3 (Nat.le_of_ble_eq_true rfl) ?_
    rw [← eG4]
    refine r_aload_n d_X1_take_86 1 rfl rfl ?_
    refine r_getL (v := (x1 + 3)) 1 2 2 rfl d_X1_take_87 fl_X1_21 (by decide) (bs_ob bx1) (ly_1_2 bx1).1 (ly_1_2 bx1).2.1 ?_
    refine r_iconst d_X1_take_90 ?_
    refine r_aload_n d_X1_take_91 0 rfl rfl ?_
    refine r_getL (v := (x0 + 3)) 1 2 2 rfl d_X1_take_92 fl_X1_21 (by decide) (bs_ob bx0) (ly_1_2 bx0).1 (ly_1_2 bx0).2.1 ?_
    refine r_iconst d_X1_take_95 ?_
    refine r_aload_n d_X1_take_96 0 rfl rfl ?_
    refine r_getL (v := (x0 + 3)) 1 2 2 rfl d_X1_take_97 fl_X1_21 (by decide) (bs_ob bx0) (ly_1_2 bx0).1 (ly_1_2 bx0).2.1 ?_
    refine r_alen 5 rfl d_X1_take_100 (ly_1_2 bx0).2.2 ?_
    obtain ⟨h5, h⟩ := h
    obtain ⟨G6, eG6⟩ : ∃ y : Mem, y = cpy G4 (x1 + 3) 0 (x0 + 3) 0 5 := ⟨_, rfl⟩
    replace h := h G6 eG6
    refine r_acopy d_X1_take_101 ac_X1_68 (ly_1_2 bx1).2.2 (ly_1_2 bx0).2.2 h5 (Nat.le_of_ble_eq_true rfl) ?_
    rw [← eG6]
    refine r_aload_n d_X1_take_104 1 rfl rfl ?_
    refine r_getL (v := (x1 + 4)) 1 3 3 rfl d_X1_take_105 fl_X1_24 (by decide) (bs_ob bx1) (ly_1_3 bx1).1 (ly_1_3 bx1).2.1 ?_
    refine r_iconst d_X1_take_108 ?_
    refine r_aload_n d_X1_take_109 0 rfl rfl ?_
    refine r_getL (v := (x0 + 4)) 1 3 3 rfl d_X1_take_110 fl_X1_24 (by decide) (bs_ob bx0) (ly_1_3 bx0).1 (ly_1_3 bx0).2.1 ?_
    refine r_iconst d_X1_take_113 ?_
    refine r_aload_n d_X1_take_114 0 rfl rfl ?_
    refine r_getL (v := (x0 + 4)) 1 3 3 rfl d_X1_take_115 fl_X1_24 (by decide) (bs_ob bx0) (ly_1_3 bx0).1 (ly_1_3 bx0).2.1 ?_
    refine r_alen 72 rfl d_X1_take_118 (ly_1_3 bx0).2.2 ?_
    obtain ⟨h7, h⟩ := h
    obtain ⟨G8, eG8⟩ : ∃ y : Mem, y = cpy G6 (x1 + 4) 0 (x0 + 4) 0 72 := ⟨_, rfl⟩
    replace h := h G8 eG8
    refine r_acopy d_X1_take_119 ac_X1_68 (ly_1_3 bx1).2.2 (ly_1_3 bx0).2.2 h7 (Nat.le_of_ble_eq_true rfl) ?_
    rw [← eG8]
    refine r_aload_n d_X1_take_122 1 rfl rfl ?_
    refine r_getL (v := (x1 + 5)) 1 4 4 rfl d_X1_take_123 fl_X1_27 (by decide) (bs_ob bx1) (ly_1_4 bx1).1 (ly_1_4 bx1).2.1 ?_
    refine r_iconst d_X1_take_126 ?_
    refine r_aload_n d_X1_take_127 0 rfl rfl ?_
    refine r_getL (v := (x0 + 5)) 1 4 4 rfl d_X1_take_128 fl_X1_27 (by decide) (bs_ob bx0) (ly_1_4 bx0).1 (ly_1_4 bx0).2.1 ?_
    refine r_iconst d_X1_take_131 ?_
    refine r_aload_n d_X1_take_132 0 rfl rfl ?_
    refine r_getL (v := (x0 + 5)) 1 4 4 rfl d_X1_take_133 fl_X1_27 (by decide) (bs_ob bx0) (ly_1_4 bx0).1 (ly_1_4 bx0).2.1 ?_
    refine r_alen 4 rfl d_X1_take_136 (ly_1_4 bx0).2.2 ?_
    obtain ⟨h9, h⟩ := h
    obtain ⟨G10, eG10⟩ : ∃ y : Mem, y = cpy G8 (x1 + 5) 0 (x0 + 5) 0 4 := ⟨_, rfl⟩
    replace h := h G10 eG10
    refine r_acopy d_X1_take_137 ac_X1_68 (ly_1_4 bx1).2.2 (ly_1_4 bx0).2.2 h9 (Nat.le_of_ble_eq_true rfl) ?_
    rw [← eG10]
    refine r_aload_n d_X1_take_140 0 rfl rfl ?_
    refine r_getL (v := (x0 + 6)) 1 5 5 rfl d_X1_take_141 fl_X1_33 (by decide) (bs_ob bx0) (ly_1_5 bx0).1 (ly_1_5 bx0).2.1 ?_
    refine r_aload_n d_X1_take_144 1 rfl rfl ?_
    refine r_getL (v := (x1 + 6)) 1 5 5 rfl d_X1_take_145 fl_X1_33 (by decide) (bs_ob bx1) (ly_1_5 bx1).1 (ly_1_5 bx1).2.1 ?_
    refine r_callV0 (M' := M_X3_take) (ci := 3) [(2, (x1 + 6))] d_X1_take_148 cl_X1_74 rfl (Nat.le_of_ble_eq_true rfl) (by decide) rfl (bs_ob (ly_1_5 bx0).2.2) ?_
    refine Ct.mono h (fun r12 G11 h => ?_)
    show Rn _ M_X1_take zN 151 [(0, (2, x0)), (1, (2, x1)), (2, (0, x2))] [] G11 Q
    exact r_ret d_X1_take_151 rfl ⟨rfl, Nat.le_refl _, Nat.le_refl _⟩ h
  · replace h := h.2 c2
    refine r_aload_n d_X1_take_47 0 rfl rfl ?_
    refine r_getL (v := (x0 + 1)) 1 0 0 rfl d_X1_take_48 fl_X1_11 (by decide) (bs_ob bx0) (ly_1_0 bx0).1 (ly_1_0 bx0).2.1 ?_
    refine r_iload_n d_X1_take_51 2 rfl rfl ?_
    obtain ⟨h13, h⟩ := h
    refine r_aaloadL (v := ((x0 + 13) + x2)) d_X1_take_52 (ly_1_0 bx0).2.2 (by decide) rfl h13 (el_1_0 bx0 h13.1 h13.2).1 (el_1_0 bx0 h13.1 h13.2).2.1 ?_
    refine r_aload_n d_X1_take_53 1 rfl rfl ?_
    refine r_getL (v := (x1 + 1)) 1 0 0 rfl d_X1_take_54 fl_X1_11 (by decide) (bs_ob bx1) (ly_1_0 bx1).1 (ly_1_0 bx1).2.1 ?_
    refine r_iload_n d_X1_take_57 2 rfl rfl ?_
    refine r_aaloadL (v := ((x1 + 13) + x2)) d_X1_take_58 (ly_1_0 bx1).2.2 (by decide) rfl h13 (el_1_0 bx1 h13.1 h13.2).1 (el_1_0 bx1 h13.1 h13.2).2.1 ?_
    refine r_callV0 (M' := M_X7_take) (ci := 7) [(2, ((x1 + 13) + x2))] d_X1_take_59 cl_X1_64 rfl (Nat.le_of_ble_eq_true rfl) (by decide) rfl (bs_ob (el_1_0 bx0 h13.1 h13.2).2.2) ?_
    refine Ct.mono h (fun r15 G14 h => ?_)
    show Rn _ M_X1_take zN 62 [(0, (2, x0)), (1, (2, x1)), (2, (0, x2))] [] G14 Q
    refine r_iinc (ls1 := [(2, (0, (x2 + 1))), (0, (2, x0)), (1, (2, x1))]) d_X1_take_62 2 rfl (by decide) rfl ?_
    refine r_goto (tgt := 42) d_X1_take_65 (by decide) ?_
    exact Rn.sub [1, 2, 0] rfl h
theorem d_X1_closed_0 : decode M_X1_closed.2.1 0 = .ok (.iload_n 1, 1) := by decide +kernel
theorem d_X1_closed_1 : decode M_X1_closed.2.1 1 = .ok (.ifCond .lt 26, 3) := by decide +kernel
theorem d_X1_closed_4 : decode M_X1_closed.2.1 4 = .ok (.iload_n 1, 1) := by decide +kernel
theorem d_X1_closed_5 : decode M_X1_closed.2.1 5 = .ok (.aload_n 0, 1) := by decide +kernel
theorem d_X1_closed_6 : decode M_X1_closed.2.1 6 = .ok (.getfield 45, 3) := by decide +kernel
theorem d_X1_closed_9 : decode M_X1_closed.2.1 9 = .ok (.if_icmp .ge 18, 3) := by decide +kernel
theorem d_X1_closed_12 : decode M_X1_closed.2.1 12 = .ok (.iload_n 1, 1) := by decide +kernel
theorem d_X1_closed_13 : decode M_X1_closed.2.1 13 = .ok (.bipush 72, 2) := by decide +kernel
theorem d_X1_closed_15 : decode M_X1_closed.2.1 15 = .ok (.if_icmp .ge 12, 3) := by decide +kernel
theorem d_X1_closed_18 : decode M_X1_closed.2.1 18 = .ok (.aload_n 0, 1) := by decide +kernel
theorem d_X1_closed_19 : decode M_X1_closed.2.1 19 = .ok (.getfield 24, 3) := by decide +kernel
theorem d_X1_closed_22 : decode M_X1_closed.2.1 22 = .ok (.iload_n 1, 1) := by decide +kernel
theorem d_X1_closed_23 : decode M_X1_closed.2.1 23 = .ok (.iaload, 1) := by decide +kernel
theorem d_X1_closed_24 : decode M_X1_closed.2.1 24 = .ok (.ifCond .eq 7, 3) := by decide +kernel
theorem d_X1_closed_27 : decode M_X1_closed.2.1 27 = .ok (.iconst 1, 1) := by decide +kernel
theorem d_X1_closed_28 : decode M_X1_closed.2.1 28 = .ok (.goto 4, 3) := by decide +kernel
theorem d_X1_closed_31 : decode M_X1_closed.2.1 31 = .ok (.iconst 0, 1) := by decide +kernel
theorem d_X1_closed_32 : decode M_X1_closed.2.1 32 = .ok (.ireturn, 1) := by decide +kernel
set_option maxRecDepth 20000 in
theorem s_X1_closed_0 {d : Nat} {t : Int} {p0 : Int} {G : Mem} {Q : Int → Mem → Prop} (bt : Bs 1 t) (h : (InR p0) ∧ ((p0 < 0) → Q 1 G) ∧ (¬ (p0 < 0) → (InR (G t 7)) ∧ (((G t 7) ≤ p0) → Q 1 G) ∧ (¬ ((G t 7) ≤ p0) → ((72 ≤ p0) → Q 1 G) ∧ (¬ (72 ≤ p0) → (0 ≤ p0 ∧ p0 < 72) ∧ ((InR (G (t + 4) p0)) ∧ (((G (t + 4) p0) = 0) → Q 0 G) ∧ (¬ ((G (t + 4) p0) = 0) → Q 1 G)))))) : Rn d M_X1_closed zN 0 [(0, (2, t)), (1, (0, p0))] [] G Q := by
  refine r_iload_n d_X1_closed_0 1 rfl rfl ?_
  obtain ⟨h1, h⟩ := h
  refine r_if_lt (tgt := 27) d_X1_closed_1 (by decide) h1 (fun c2 => ?_) (fun c2 => ?_)
  · replace h := h.1 c2
    refine r_iconst d_X1_closed_27 ?_
    refine r_goto (tgt := 32) d_X1_closed_28 (by decide) ?_
    exact r_zreturn d_X1_closed_32 rfl ⟨rfl, Nat.le_refl _, Nat.le_refl _⟩ (by decide) h
  · replace h := h.2 c2
    refine r_iload_n d_X1_closed_4 1 rfl rfl ?_
    refine r_aload_n d_X1_closed_5 0 rfl rfl ?_
    refine r_getI 1 7 7 rfl d_X1_closed_6 fl_X1_45 (by decide) (bs_ob bt) ?_
    obtain ⟨h3, h⟩ := h
    refine r_icmp_ge (tgt := 27) d_X1_closed_9 (by decide) h1 h3 (fun c4 => ?_) (fun c4 => ?_)
    · replace h := h.1 c4
      refine r_iconst d_X1_closed_27 ?_
      refine r_goto (tgt := 32) d_X1_closed_28 (by decide) ?_
      exact r_zreturn d_X1_closed_32 rfl ⟨rfl, Nat.le_refl _, Nat.le_refl _⟩ (by decide) h
    · replace h := h.2 c4
      refine r_iload_n d_X1_closed_12 1 rfl rfl ?_
      refine r_bipush d_X1_closed_13 (by decide +kernel) ?_
      refine r_icmp_ge (tgt := 27) d_X1_closed_15 (by decide) h1 ⟨by decide, by decide⟩ (fun c5 => ?_) (fun c5 => ?_)
      · replace h := h.1 c5
        refine r_iconst d_X1_closed_27 ?_
        refine r_goto (tgt := 32) d_X1_closed_28 (by decide) ?_
        exact r_zreturn d_X1_closed_32 rfl ⟨rfl, Nat.le_refl _, Nat.le_refl _⟩ (by decide) h
      · replace h := h.2 c5
        refine r_aload_n d_X1_closed_18 0 rfl rfl ?_
        refine r_getL (v := (t + 4)) 1 3 3 rfl d_X1_closed_19 fl_X1_24 (by decide) (bs_ob bt) (ly_1_3 bt).1 (ly_1_3 bt).2.1 ?_
        refine r_iload_n d_X1_closed_22 1 rfl rfl ?_
        obtain ⟨h6, h⟩ := h
        refine r_iaload d_X1_closed_23 (ly_1_3 bt).2.2 h6 ?_
        obtain ⟨h7, h⟩ := h
        refine r_if_eq (tgt := 31) d_X1_closed_24 (by decide) h7 (fun c8 => ?_) (fun c8 => ?_)
        · replace h := h.1 c8
          refine r_iconst d_X1_closed_31 ?_
          exact r_zreturn d_X1_closed_32 rfl ⟨rfl, Nat.le_refl _, Nat.le_refl _⟩ (by decide) h
        · replace h := h.2 c8
          refine r_iconst d_X1_closed_27 ?_
          refine r_goto (tgt := 32) d_X1_closed_28 (by decide) ?_
          exact r_zreturn d_X1_closed_32 rfl ⟨rfl, Nat.le_refl _, Nat.le_refl _⟩ (by decide) h
theorem d_X1_waking_0 : decode M_X1_waking.2.1 0 = .ok (.aload_n 0, 1) := by decide +kernel
theorem d_X1_waking_1 : decode M_X1_waking.2.1 1 = .ok (.getfield 11, 3) := by decide +kernel
theorem d_X1_waking_4 : decode M_X1_waking.2.1 4 = .ok (.iload_n 2, 1) := by decide +kernel
theorem d_X1_waking_5 : decode M_X1_waking.2.1 5 = .ok (.aaload, 1) := by decide +kernel
theorem d_X1_waking_6 : decode M_X1_waking.2.1 6 = .ok (.astore 4, 2) := by decide +kernel
theorem d_X1_waking_8 : decode M_X1_waking.2.1 8 = .ok (.aload 4, 2) := by decide +kernel
theorem d_X1_waking_10 : decode M_X1_waking.2.1 10 = .ok (.getfield 77, 3) := by decide +kernel
theorem d_X1_waking_13 : decode M_X1_waking.2.1 13 = .ok (.iconst 4, 1) := by decide +kernel
theorem d_X1_waking_14 : decode M_X1_waking.2.1 14 = .ok (.if_icmp .ne 6, 3) := by decide +kernel
theorem d_X1_waking_17 : decode M_X1_waking.2.1 17 = .ok (.bipush 10, 2) := by decide +kernel
theorem d_X1_waking_19 : decode M_X1_waking.2.1 19 = .ok (.ireturn, 1) := by decide +kernel
theorem d_X1_waking_20 : decode M_X1_waking.2.1 20 = .ok (.aload_n 0, 1) := by decide +kernel
theorem d_X1_waking_21 : decode M_X1_waking.2.1 21 = .ok (.getfield 33, 3) := by decide +kernel
theorem d_X1_waking_24 : decode M_X1_waking.2.1 24 = .ok (.iconst 0, 1) := by decide +kernel
theorem d_X1_waking_25 : decode M_X1_waking.2.1 25 = .ok (.invokevirtual 80, 3) := by decide +kernel
theorem d_X1_waking_28 : decode M_X1_waking.2.1 28 = .ok (.ifCond .ne 12, 3) := by decide +kernel
theorem d_X1_waking_31 : decode M_X1_waking.2.1 31 = .ok (.bipush 10, 2) := by decide +kernel
theorem d_X1_waking_33 : decode M_X1_waking.2.1 33 = .ok (.aload 4, 2) := by decide +kernel
theorem d_X1_waking_35 : decode M_X1_waking.2.1 35 = .ok (.invokevirtual 84, 3) := by decide +kernel
theorem d_X1_waking_38 : decode M_X1_waking.2.1 38 = .ok (.isub, 1) := by decide +kernel
theorem d_X1_waking_39 : decode M_X1_waking.2.1 39 = .ok (.ireturn, 1) := by decide +kernel
theorem d_X1_waking_40 : decode M_X1_waking.2.1 40 = .ok (.aload_n 0, 1) := by decide +kernel
theorem d_X1_waking_41 : decode M_X1_waking.2.1 41 = .ok (.aload_n 1, 1) := by decide +kernel
theorem d_X1_waking_42 : decode M_X1_waking.2.1 42 = .ok (.iload_n 2, 1) := by decide +kernel
theorem d_X1_waking_43 : decode M_X1_waking.2.1 43 = .ok (.iload_n 3, 1) := by decide +kernel
theorem d_X1_waking_44 : decode M_X1_waking.2.1 44 = .ok (.invokevirtual 88, 3) := by decide +kernel
theorem d_X1_waking_47 : decode M_X1_waking.2.1 47 = .ok (.aload_n 0, 1) := by decide +kernel
theorem d_X1_waking_48 : decode M_X1_waking.2.1 48 = .ok (.getfield 33, 3) := by decide +kernel
theorem d_X1_waking_51 : decode M_X1_waking.2.1 51 = .ok (.iconst 0, 1) := by decide +kernel
theorem d_X1_waking_52 : decode M_X1_waking.2.1 52 = .ok (.invokevirtual 92, 3) := by decide +kernel
theorem d_X1_waking_55 : decode M_X1_waking.2.1 55 = .ok (.bipush 10, 2) := by decide +kernel
theorem d_X1_waking_57 : decode M_X1_waking.2.1 57 = .ok (.invokestatic 96, 3) := by decide +kernel
theorem d_X1_waking_60 : decode M_X1_waking.2.1 60 = .ok (.ireturn, 1) := by decide +kernel
set_option maxRecDepth 20000 in
theorem s_X1_waking_0 {d : Nat} {t : Int} {p0 : Int} {p1 : Int} {p2 : Int} {G : Mem} {Q : Int → Mem → Prop} (bt : Bs 1 t) (bp0 : Bs 8 p0) (h : (0 ≤ p1 ∧ p1 < 5) ∧ ((InR (G ((t + 13) + p1) 0)) ∧ (((G ((t + 13) + p1) 0) ≠ 4) → Ct d M_X3_isTold NT 0 0 (some lay) [(2, (t + 6)), (0, 0)] G (fun r5 G4 => (InR r5) ∧ ((r5 ≠ 0) → Ct d M_X1_setSleeper NT 0 0 (some lay) [(2, t), (2, p0), (0, p1), (0, p2)] G4 (fun r9 G8 => Ct d M_X3_result NT 0 0 (some lay) [(2, (t + 6)), (0, 0)] G8 (fun r11 G10 => Ct d M_X1_bounded NT 0 0 (some lay) [(0, r11), (0, 10)] G10 (fun r13 G12 => Q r13 G12)))) ∧ (¬ (r5 ≠ 0) → Ct d M_X7_deep NT 0 0 (some lay) [(2, ((t + 13) + p1))] G4 (fun r15 G14 => Q (10 - r15) G14)))) ∧ (¬ ((G ((t + 13) + p1) 0) ≠ 4) → Q 10 G))) : Rn (d + 1) M_X1_waking zN 0 [(0, (2, t)), (1, (2, p0)), (2, (0, p1)), (3, (0, p2))] [] G Q := by
  refine r_aload_n d_X1_waking_0 0 rfl rfl ?_
  refine r_getL (v := (t + 1)) 1 0 0 rfl d_X1_waking_1 fl_X1_11 (by decide) (bs_ob bt) (ly_1_0 bt).1 (ly_1_0 bt).2.1 ?_
  refine r_iload_n d_X1_waking_4 2 rfl rfl ?_
  obtain ⟨h1, h⟩ := h
  refine r_aaloadL (v := ((t + 13) + p1)) d_X1_waking_5 (ly_1_0 bt).2.2 (by decide) rfl h1 (el_1_0 bt h1.1 h1.2).1 (el_1_0 bt h1.1 h1.2).2.1 ?_
  refine r_astore (ls1 := [(4, (2, ((t + 13) + p1))), (0, (2, t)), (1, (2, p0)), (2, (0, p1)), (3, (0, p2))]) d_X1_waking_6 (by decide) rfl ?_
  refine r_aload d_X1_waking_8 0 rfl ?_
  refine r_getI 7 0 0 rfl d_X1_waking_10 fl_X1_77 (by decide) (bs_ob (el_1_0 bt h1.1 h1.2).2.2) ?_
  refine r_iconst d_X1_waking_13 ?_
  obtain ⟨h2, h⟩ := h
  refine r_icmp_ne (tgt := 20) d_X1_waking_14 (by decide) h2 ⟨by decide, by decide⟩ (fun c3 => ?_) (fun c3 => ?_)
  · replace h := h.1 c3
    refine r_aload_n d_X1_waking_20 1 rfl rfl ?_
    refine r_getL (v := (t + 6)) 1 5 5 rfl d_X1_waking_21 fl_X1_33 (by decide) (bs_ob bt) (ly_1_5 bt).1 (ly_1_5 bt).2.1 ?_
    refine r_iconst d_X1_waking_24 ?_
    refine r_callV0 (M' := M_X3_isTold) (ci := 3) [(0, 0)] d_X1_waking_25 cl_X1_80 rfl (Nat.le_of_ble_eq_true rfl) (by decide) rfl (bs_ob (ly_1_5 bt).2.2) ?_
    refine Ct.mono h (fun r5 G4 h => ?_)
    show Rn _ M_X1_waking zN 28 [(4, (2, ((t + 13) + p1))), (0, (2, t)), (1, (2, p0)), (2, (0, p1)), (3, (0, p2))] [(0, r5)] G4 Q
    obtain ⟨h6, h⟩ := h
    refine r_if_ne (tgt := 40) d_X1_waking_28 (by decide) h6 (fun c7 => ?_) (fun c7 => ?_)
    · replace h := h.1 c7
      refine r_aload_n d_X1_waking_40 1 rfl rfl ?_
      refine r_aload_n d_X1_waking_41 2 rfl rfl ?_
      refine r_iload_n d_X1_waking_42 3 rfl rfl ?_
      refine r_iload_n d_X1_waking_43 4 rfl rfl ?_
      refine r_callV0 (M' := M_X1_setSleeper) (ci := 1) [(2, p0), (0, p1), (0, p2)] d_X1_waking_44 cl_X1_88 rfl (Nat.le_of_ble_eq_true rfl) (by decide) rfl (bs_ob bt) ?_
      refine Ct.mono h (fun r9 G8 h => ?_)
      show Rn _ M_X1_waking zN 47 [(4, (2, ((t + 13) + p1))), (0, (2, t)), (1, (2, p0)), (2, (0, p1)), (3, (0, p2))] [] G8 Q
      refine r_aload_n d_X1_waking_47 1 rfl rfl ?_
      refine r_getL (v := (t + 6)) 1 5 5 rfl d_X1_waking_48 fl_X1_33 (by decide) (bs_ob bt) (ly_1_5 bt).1 (ly_1_5 bt).2.1 ?_
      refine r_iconst d_X1_waking_51 ?_
      refine r_callV0 (M' := M_X3_result) (ci := 3) [(0, 0)] d_X1_waking_52 cl_X1_92 rfl (Nat.le_of_ble_eq_true rfl) (by decide) rfl (bs_ob (ly_1_5 bt).2.2) ?_
      refine Ct.mono h (fun r11 G10 h => ?_)
      show Rn _ M_X1_waking zN 55 [(4, (2, ((t + 13) + p1))), (0, (2, t)), (1, (2, p0)), (2, (0, p1)), (3, (0, p2))] [(0, r11)] G10 Q
      refine r_bipush d_X1_waking_55 (by decide +kernel) ?_
      refine r_callS0 (M' := M_X1_bounded) [(0, r11), (0, 10)] d_X1_waking_57 cl_X1_96 rfl (Nat.le_of_ble_eq_true rfl) ?_
      refine Ct.mono h (fun r13 G12 h => ?_)
      show Rn _ M_X1_waking zN 60 [(4, (2, ((t + 13) + p1))), (0, (2, t)), (1, (2, p0)), (2, (0, p1)), (3, (0, p2))] [(0, r13)] G12 Q
      exact r_ireturn d_X1_waking_60 rfl ⟨rfl, Nat.le_refl _, Nat.le_refl _⟩ h
    · replace h := h.2 c7
      refine r_bipush d_X1_waking_31 (by decide +kernel) ?_
      refine r_aload d_X1_waking_33 0 rfl ?_
      refine r_callV0 (M' := M_X7_deep) (ci := 7) [] d_X1_waking_35 cl_X1_84 rfl (Nat.le_of_ble_eq_true rfl) (by decide) rfl (bs_ob (el_1_0 bt h1.1 h1.2).2.2) ?_
      refine Ct.mono h (fun r15 G14 h => ?_)
      show Rn _ M_X1_waking zN 38 [(4, (2, ((t + 13) + p1))), (0, (2, t)), (1, (2, p0)), (2, (0, p1)), (3, (0, p2))] [(0, r15), (0, 10)] G14 Q
      refine r_isub d_X1_waking_38 ?_
      exact r_ireturn d_X1_waking_39 rfl ⟨rfl, Nat.le_refl _, Nat.le_refl _⟩ h
  · replace h := h.2 c3
    refine r_bipush d_X1_waking_17 (by decide +kernel) ?_
    exact r_ireturn d_X1_waking_19 rfl ⟨rfl, Nat.le_refl _, Nat.le_refl _⟩ h
theorem d_X1_spilling_0 : decode M_X1_spilling.2.1 0 = .ok (.aload_n 0, 1) := by decide +kernel
theorem d_X1_spilling_1 : decode M_X1_spilling.2.1 1 = .ok (.getfield 33, 3) := by decide +kernel
theorem d_X1_spilling_4 : decode M_X1_spilling.2.1 4 = .ok (.iconst 1, 1) := by decide +kernel
theorem d_X1_spilling_5 : decode M_X1_spilling.2.1 5 = .ok (.invokevirtual 80, 3) := by decide +kernel
theorem d_X1_spilling_8 : decode M_X1_spilling.2.1 8 = .ok (.ifCond .ne 8, 3) := by decide +kernel
theorem d_X1_spilling_11 : decode M_X1_spilling.2.1 11 = .ok (.iconst 3, 1) := by decide +kernel
theorem d_X1_spilling_12 : decode M_X1_spilling.2.1 12 = .ok (.iload 4, 2) := by decide +kernel
theorem d_X1_spilling_14 : decode M_X1_spilling.2.1 14 = .ok (.iadd, 1) := by decide +kernel
theorem d_X1_spilling_15 : decode M_X1_spilling.2.1 15 = .ok (.ireturn, 1) := by decide +kernel
theorem d_X1_spilling_16 : decode M_X1_spilling.2.1 16 = .ok (.aload_n 0, 1) := by decide +kernel
theorem d_X1_spilling_17 : decode M_X1_spilling.2.1 17 = .ok (.aload_n 1, 1) := by decide +kernel
theorem d_X1_spilling_18 : decode M_X1_spilling.2.1 18 = .ok (.iload_n 2, 1) := by decide +kernel
theorem d_X1_spilling_19 : decode M_X1_spilling.2.1 19 = .ok (.iload_n 3, 1) := by decide +kernel
theorem d_X1_spilling_20 : decode M_X1_spilling.2.1 20 = .ok (.invokevirtual 88, 3) := by decide +kernel
theorem d_X1_spilling_23 : decode M_X1_spilling.2.1 23 = .ok (.aload_n 0, 1) := by decide +kernel
theorem d_X1_spilling_24 : decode M_X1_spilling.2.1 24 = .ok (.getfield 33, 3) := by decide +kernel
theorem d_X1_spilling_27 : decode M_X1_spilling.2.1 27 = .ok (.bipush 27, 2) := by decide +kernel
theorem d_X1_spilling_29 : decode M_X1_spilling.2.1 29 = .ok (.aload_n 0, 1) := by decide +kernel
theorem d_X1_spilling_30 : decode M_X1_spilling.2.1 30 = .ok (.getfield 51, 3) := by decide +kernel
theorem d_X1_spilling_33 : decode M_X1_spilling.2.1 33 = .ok (.invokevirtual 102, 3) := by decide +kernel
theorem d_X1_spilling_36 : decode M_X1_spilling.2.1 36 = .ok (.aload_n 0, 1) := by decide +kernel
theorem d_X1_spilling_37 : decode M_X1_spilling.2.1 37 = .ok (.getfield 33, 3) := by decide +kernel
theorem d_X1_spilling_40 : decode M_X1_spilling.2.1 40 = .ok (.bipush 30, 2) := by decide +kernel
theorem d_X1_spilling_42 : decode M_X1_spilling.2.1 42 = .ok (.iload 4, 2) := by decide +kernel
theorem d_X1_spilling_44 : decode M_X1_spilling.2.1 44 = .ok (.invokevirtual 102, 3) := by decide +kernel
theorem d_X1_spilling_47 : decode M_X1_spilling.2.1 47 = .ok (.aload_n 0, 1) := by decide +kernel
theorem d_X1_spilling_48 : decode M_X1_spilling.2.1 48 = .ok (.getfield 33, 3) := by decide +kernel
theorem d_X1_spilling_51 : decode M_X1_spilling.2.1 51 = .ok (.iconst 1, 1) := by decide +kernel
theorem d_X1_spilling_52 : decode M_X1_spilling.2.1 52 = .ok (.invokevirtual 92, 3) := by decide +kernel
theorem d_X1_spilling_55 : decode M_X1_spilling.2.1 55 = .ok (.bipush 10, 2) := by decide +kernel
theorem d_X1_spilling_57 : decode M_X1_spilling.2.1 57 = .ok (.invokestatic 96, 3) := by decide +kernel
theorem d_X1_spilling_60 : decode M_X1_spilling.2.1 60 = .ok (.ireturn, 1) := by decide +kernel
set_option maxRecDepth 20000 in
theorem s_X1_spilling_0 {d : Nat} {t : Int} {p0 : Int} {p1 : Int} {p2 : Int} {p3 : Int} {G : Mem} {Q : Int → Mem → Prop} (bt : Bs 1 t) (bp0 : Bs 8 p0) (h : Ct d M_X3_isTold NT 0 0 (some lay) [(2, (t + 6)), (0, 1)] G (fun r2 G1 => (InR r2) ∧ ((r2 ≠ 0) → Ct d M_X1_setSleeper NT 0 0 (some lay) [(2, t), (2, p0), (0, p1), (0, p2)] G1 (fun r6 G5 => Ct d M_X3_setFact NT 0 0 (some lay) [(2, (t + 6)), (0, 27), (0, (G5 t 9))] G5 (fun r8 G7 => Ct d M_X3_setFact NT 0 0 (some lay) [(2, (t + 6)), (0, 30), (0, p3)] G7 (fun r10 G9 => Ct d M_X3_result NT 0 0 (some lay) [(2, (t + 6)), (0, 1)] G9 (fun r12 G11 => Ct d M_X1_bounded NT 0 0 (some lay) [(0, r12), (0, 10)] G11 (fun r14 G13 => Q r14 G13)))))) ∧ (¬ (r2 ≠ 0) → Q (3 + p3) G1))) : Rn (d + 1) M_X1_spilling zN 0 [(0, (2, t)), (1, (2, p0)), (2, (0, p1)), (3, (0, p2)), (4, (0, p3))] [] G Q := by
  refine r_aload_n d_X1_spilling_0 0 rfl rfl ?_
  refine r_getL (v := (t + 6)) 1 5 5 rfl d_X1_spilling_1 fl_X1_33 (by decide) (bs_ob bt) (ly_1_5 bt).1 (ly_1_5 bt).2.1 ?_
  refine r_iconst d_X1_spilling_4 ?_
  refine r_callV0 (M' := M_X3_isTold) (ci := 3) [(0, 1)] d_X1_spilling_5 cl_X1_80 rfl (Nat.le_of_ble_eq_true rfl) (by decide) rfl (bs_ob (ly_1_5 bt).2.2) ?_
  refine Ct.mono h (fun r2 G1 h => ?_)
  show Rn _ M_X1_spilling zN 8 [(0, (2, t)), (1, (2, p0)), (2, (0, p1)), (3, (0, p2)), (4, (0, p3))] [(0, r2)] G1 Q
  obtain ⟨h3, h⟩ := h
  refine r_if_ne (tgt := 16) d_X1_spilling_8 (by decide) h3 (fun c4 => ?_) (fun c4 => ?_)
  · replace h := h.1 c4
    refine r_aload_n d_X1_spilling_16 0 rfl rfl ?_
    refine r_aload_n d_X1_spilling_17 1 rfl rfl ?_
    refine r_iload_n d_X1_spilling_18 2 rfl rfl ?_
    refine r_iload_n d_X1_spilling_19 3 rfl rfl ?_
    refine r_callV0 (M' := M_X1_setSleeper) (ci := 1) [(2, p0), (0, p1), (0, p2)] d_X1_spilling_20 cl_X1_88 rfl (Nat.le_of_ble_eq_true rfl) (by decide) rfl (bs_ob bt) ?_
    refine Ct.mono h (fun r6 G5 h => ?_)
    show Rn _ M_X1_spilling zN 23 [(0, (2, t)), (1, (2, p0)), (2, (0, p1)), (3, (0, p2)), (4, (0, p3))] [] G5 Q
    refine r_aload_n d_X1_spilling_23 0 rfl rfl ?_
    refine r_getL (v := (t + 6)) 1 5 5 rfl d_X1_spilling_24 fl_X1_33 (by decide) (bs_ob bt) (ly_1_5 bt).1 (ly_1_5 bt).2.1 ?_
    refine r_bipush d_X1_spilling_27 (by decide +kernel) ?_
    refine r_aload_n d_X1_spilling_29 0 rfl rfl ?_
    refine r_getI 1 9 9 rfl d_X1_spilling_30 fl_X1_51 (by decide) (bs_ob bt) ?_
    refine r_callV0 (M' := M_X3_setFact) (ci := 3) [(0, 27), (0, (G5 t 9))] d_X1_spilling_33 cl_X1_102 rfl (Nat.le_of_ble_eq_true rfl) (by decide) rfl (bs_ob (ly_1_5 bt).2.2) ?_
    refine Ct.mono h (fun r8 G7 h => ?_)
    show Rn _ M_X1_spilling zN 36 [(0, (2, t)), (1, (2, p0)), (2, (0, p1)), (3, (0, p2)), (4, (0, p3))] [] G7 Q
    refine r_aload_n d_X1_spilling_36 0 rfl rfl ?_
    refine r_getL (v := (t + 6)) 1 5 5 rfl d_X1_spilling_37 fl_X1_33 (by decide) (bs_ob bt) (ly_1_5 bt).1 (ly_1_5 bt).2.1 ?_
    refine r_bipush d_X1_spilling_40 (by decide +kernel) ?_
    refine r_iload d_X1_spilling_42 4 rfl ?_
    refine r_callV0 (M' := M_X3_setFact) (ci := 3) [(0, 30), (0, p3)] d_X1_spilling_44 cl_X1_102 rfl (Nat.le_of_ble_eq_true rfl) (by decide) rfl (bs_ob (ly_1_5 bt).2.2) ?_
    refine Ct.mono h (fun r10 G9 h => ?_)
    show Rn _ M_X1_spilling zN 47 [(0, (2, t)), (1, (2, p0)), (2, (0, p1)), (3, (0, p2)), (4, (0, p3))] [] G9 Q
    refine r_aload_n d_X1_spilling_47 0 rfl rfl ?_
    refine r_getL (v := (t + 6)) 1 5 5 rfl d_X1_spilling_48 fl_X1_33 (by decide) (bs_ob bt) (ly_1_5 bt).1 (ly_1_5 bt).2.1 ?_
    refine r_iconst d_X1_spilling_51 ?_
    refine r_callV0 (M' := M_X3_result) (ci := 3) [(0, 1)] d_X1_spilling_52 cl_X1_92 rfl (Nat.le_of_ble_eq_true rfl) (by decide) rfl (bs_ob (ly_1_5 bt).2.2) ?_
    refine Ct.mono h (fun r12 G11 h => ?_)
    show Rn _ M_X1_spilling zN 55 [(0, (2, t)), (1, (2, p0)), (2, (0, p1)), (3, (0, p2)), (4, (0, p3))] [(0, r12)] G11 Q
    refine r_bipush d_X1_spilling_55 (by decide +kernel) ?_
    refine r_callS0 (M' := M_X1_bounded) [(0, r12), (0, 10)] d_X1_spilling_57 cl_X1_96 rfl (Nat.le_of_ble_eq_true rfl) ?_
    refine Ct.mono h (fun r14 G13 h => ?_)
    show Rn _ M_X1_spilling zN 60 [(0, (2, t)), (1, (2, p0)), (2, (0, p1)), (3, (0, p2)), (4, (0, p3))] [(0, r14)] G13 Q
    exact r_ireturn d_X1_spilling_60 rfl ⟨rfl, Nat.le_refl _, Nat.le_refl _⟩ h
  · replace h := h.2 c4
    refine r_iconst d_X1_spilling_11 ?_
    refine r_iload d_X1_spilling_12 4 rfl ?_
    refine r_iadd d_X1_spilling_14 ?_
    exact r_ireturn d_X1_spilling_15 rfl ⟨rfl, Nat.le_refl _, Nat.le_refl _⟩ h
theorem d_X1_away_0 : decode M_X1_away.2.1 0 = .ok (.aload_n 0, 1) := by decide +kernel
theorem d_X1_away_1 : decode M_X1_away.2.1 1 = .ok (.getfield 33, 3) := by decide +kernel
theorem d_X1_away_4 : decode M_X1_away.2.1 4 = .ok (.iconst 2, 1) := by decide +kernel
theorem d_X1_away_5 : decode M_X1_away.2.1 5 = .ok (.invokevirtual 80, 3) := by decide +kernel
theorem d_X1_away_8 : decode M_X1_away.2.1 8 = .ok (.ifCond .ne 5, 3) := by decide +kernel
theorem d_X1_away_11 : decode M_X1_away.2.1 11 = .ok (.iconst 1, 1) := by decide +kernel
theorem d_X1_away_12 : decode M_X1_away.2.1 12 = .ok (.ireturn, 1) := by decide +kernel
theorem d_X1_away_13 : decode M_X1_away.2.1 13 = .ok (.aload_n 0, 1) := by decide +kernel
theorem d_X1_away_14 : decode M_X1_away.2.1 14 = .ok (.getfield 33, 3) := by decide +kernel
theorem d_X1_away_17 : decode M_X1_away.2.1 17 = .ok (.bipush 28, 2) := by decide +kernel
theorem d_X1_away_19 : decode M_X1_away.2.1 19 = .ok (.iload_n 1, 1) := by decide +kernel
theorem d_X1_away_20 : decode M_X1_away.2.1 20 = .ok (.invokevirtual 102, 3) := by decide +kernel
theorem d_X1_away_23 : decode M_X1_away.2.1 23 = .ok (.aload_n 0, 1) := by decide +kernel
theorem d_X1_away_24 : decode M_X1_away.2.1 24 = .ok (.getfield 33, 3) := by decide +kernel
theorem d_X1_away_27 : decode M_X1_away.2.1 27 = .ok (.bipush 31, 2) := by decide +kernel
theorem d_X1_away_29 : decode M_X1_away.2.1 29 = .ok (.iload_n 2, 1) := by decide +kernel
theorem d_X1_away_30 : decode M_X1_away.2.1 30 = .ok (.invokevirtual 102, 3) := by decide +kernel
theorem d_X1_away_33 : decode M_X1_away.2.1 33 = .ok (.iconst 1, 1) := by decide +kernel
theorem d_X1_away_34 : decode M_X1_away.2.1 34 = .ok (.aload_n 0, 1) := by decide +kernel
theorem d_X1_away_35 : decode M_X1_away.2.1 35 = .ok (.getfield 33, 3) := by decide +kernel
theorem d_X1_away_38 : decode M_X1_away.2.1 38 = .ok (.iconst 2, 1) := by decide +kernel
theorem d_X1_away_39 : decode M_X1_away.2.1 39 = .ok (.invokevirtual 92, 3) := by decide +kernel
theorem d_X1_away_42 : decode M_X1_away.2.1 42 = .ok (.bipush 9, 2) := by decide +kernel
theorem d_X1_away_44 : decode M_X1_away.2.1 44 = .ok (.invokestatic 96, 3) := by decide +kernel
theorem d_X1_away_47 : decode M_X1_away.2.1 47 = .ok (.iadd, 1) := by decide +kernel
theorem d_X1_away_48 : decode M_X1_away.2.1 48 = .ok (.ireturn, 1) := by decide +kernel
set_option maxRecDepth 20000 in
theorem s_X1_away_0 {d : Nat} {t : Int} {p0 : Int} {p1 : Int} {G : Mem} {Q : Int → Mem → Prop} (bt : Bs 1 t) (h : Ct d M_X3_isTold NT 0 0 (some lay) [(2, (t + 6)), (0, 2)] G (fun r2 G1 => (InR r2) ∧ ((r2 ≠ 0) → Ct d M_X3_setFact NT 0 0 (some lay) [(2, (t + 6)), (0, 28), (0, p0)] G1 (fun r6 G5 => Ct d M_X3_setFact NT 0 0 (some lay) [(2, (t + 6)), (0, 31), (0, p1)] G5 (fun r8 G7 => Ct d M_X3_result NT 0 0 (some lay) [(2, (t + 6)), (0, 2)] G7 (fun r10 G9 => Ct d M_X1_bounded NT 0 0 (some lay) [(0, r10), (0, 9)] G9 (fun r12 G11 => Q (1 + r12) G11))))) ∧ (¬ (r2 ≠ 0) → Q 1 G1))) : Rn (d + 1) M_X1_away zN 0 [(0, (2, t)), (1, (0, p0)), (2, (0, p1))] [] G Q := by
  refine r_aload_n d_X1_away_0 0 rfl rfl ?_
  refine r_getL (v := (t + 6)) 1 5 5 rfl d_X1_away_1 fl_X1_33 (by decide) (bs_ob bt) (ly_1_5 bt).1 (ly_1_5 bt).2.1 ?_
  refine r_iconst d_X1_away_4 ?_
  refine r_callV0 (M' := M_X3_isTold) (ci := 3) [(0, 2)] d_X1_away_5 cl_X1_80 rfl (Nat.le_of_ble_eq_true rfl) (by decide) rfl (bs_ob (ly_1_5 bt).2.2) ?_
  refine Ct.mono h (fun r2 G1 h => ?_)
  show Rn _ M_X1_away zN 8 [(0, (2, t)), (1, (0, p0)), (2, (0, p1))] [(0, r2)] G1 Q
  obtain ⟨h3, h⟩ := h
  refine r_if_ne (tgt := 13) d_X1_away_8 (by decide) h3 (fun c4 => ?_) (fun c4 => ?_)
  · replace h := h.1 c4
    refine r_aload_n d_X1_away_13 0 rfl rfl ?_
    refine r_getL (v := (t + 6)) 1 5 5 rfl d_X1_away_14 fl_X1_33 (by decide) (bs_ob bt) (ly_1_5 bt).1 (ly_1_5 bt).2.1 ?_
    refine r_bipush d_X1_away_17 (by decide +kernel) ?_
    refine r_iload_n d_X1_away_19 1 rfl rfl ?_
    refine r_callV0 (M' := M_X3_setFact) (ci := 3) [(0, 28), (0, p0)] d_X1_away_20 cl_X1_102 rfl (Nat.le_of_ble_eq_true rfl) (by decide) rfl (bs_ob (ly_1_5 bt).2.2) ?_
    refine Ct.mono h (fun r6 G5 h => ?_)
    show Rn _ M_X1_away zN 23 [(0, (2, t)), (1, (0, p0)), (2, (0, p1))] [] G5 Q
    refine r_aload_n d_X1_away_23 0 rfl rfl ?_
    refine r_getL (v := (t + 6)) 1 5 5 rfl d_X1_away_24 fl_X1_33 (by decide) (bs_ob bt) (ly_1_5 bt).1 (ly_1_5 bt).2.1 ?_
    refine r_bipush d_X1_away_27 (by decide +kernel) ?_
    refine r_iload_n d_X1_away_29 2 rfl rfl ?_
    refine r_callV0 (M' := M_X3_setFact) (ci := 3) [(0, 31), (0, p1)] d_X1_away_30 cl_X1_102 rfl (Nat.le_of_ble_eq_true rfl) (by decide) rfl (bs_ob (ly_1_5 bt).2.2) ?_
    refine Ct.mono h (fun r8 G7 h => ?_)
    show Rn _ M_X1_away zN 33 [(0, (2, t)), (1, (0, p0)), (2, (0, p1))] [] G7 Q
    refine r_iconst d_X1_away_33 ?_
    refine r_aload_n d_X1_away_34 0 rfl rfl ?_
    refine r_getL (v := (t + 6)) 1 5 5 rfl d_X1_away_35 fl_X1_33 (by decide) (bs_ob bt) (ly_1_5 bt).1 (ly_1_5 bt).2.1 ?_
    refine r_iconst d_X1_away_38 ?_
    refine r_callV0 (M' := M_X3_result) (ci := 3) [(0, 2)] d_X1_away_39 cl_X1_92 rfl (Nat.le_of_ble_eq_true rfl) (by decide) rfl (bs_ob (ly_1_5 bt).2.2) ?_
    refine Ct.mono h (fun r10 G9 h => ?_)
    show Rn _ M_X1_away zN 42 [(0, (2, t)), (1, (0, p0)), (2, (0, p1))] [(0, r10), (0, 1)] G9 Q
    refine r_bipush d_X1_away_42 (by decide +kernel) ?_
    refine r_callS0 (M' := M_X1_bounded) [(0, r10), (0, 9)] d_X1_away_44 cl_X1_96 rfl (Nat.le_of_ble_eq_true rfl) ?_
    refine Ct.mono h (fun r12 G11 h => ?_)
    show Rn _ M_X1_away zN 47 [(0, (2, t)), (1, (0, p0)), (2, (0, p1))] [(0, r12), (0, 1)] G11 Q
    refine r_iadd d_X1_away_47 ?_
    exact r_ireturn d_X1_away_48 rfl ⟨rfl, Nat.le_refl _, Nat.le_refl _⟩ h
  · replace h := h.2 c4
    refine r_iconst d_X1_away_11 ?_
    exact r_ireturn d_X1_away_12 rfl ⟨rfl, Nat.le_refl _, Nat.le_refl _⟩ h
theorem d_X1_setSleeper_0 : decode M_X1_setSleeper.2.1 0 = .ok (.aload_n 0, 1) := by decide +kernel
theorem d_X1_setSleeper_1 : decode M_X1_setSleeper.2.1 1 = .ok (.getfield 11, 3) := by decide +kernel
theorem d_X1_setSleeper_4 : decode M_X1_setSleeper.2.1 4 = .ok (.iload_n 2, 1) := by decide +kernel
theorem d_X1_setSleeper_5 : decode M_X1_setSleeper.2.1 5 = .ok (.aaload, 1) := by decide +kernel
theorem d_X1_setSleeper_6 : decode M_X1_setSleeper.2.1 6 = .ok (.astore 4, 2) := by decide +kernel
theorem d_X1_setSleeper_8 : decode M_X1_setSleeper.2.1 8 = .ok (.aload_n 0, 1) := by decide +kernel
theorem d_X1_setSleeper_9 : decode M_X1_setSleeper.2.1 9 = .ok (.getfield 33, 3) := by decide +kernel
theorem d_X1_setSleeper_12 : decode M_X1_setSleeper.2.1 12 = .ok (.bipush 28, 2) := by decide +kernel
theorem d_X1_setSleeper_14 : decode M_X1_setSleeper.2.1 14 = .ok (.iload_n 3, 1) := by decide +kernel
theorem d_X1_setSleeper_15 : decode M_X1_setSleeper.2.1 15 = .ok (.invokevirtual 102, 3) := by decide +kernel
theorem d_X1_setSleeper_18 : decode M_X1_setSleeper.2.1 18 = .ok (.aload_n 0, 1) := by decide +kernel
theorem d_X1_setSleeper_19 : decode M_X1_setSleeper.2.1 19 = .ok (.getfield 33, 3) := by decide +kernel
theorem d_X1_setSleeper_22 : decode M_X1_setSleeper.2.1 22 = .ok (.bipush 24, 2) := by decide +kernel
theorem d_X1_setSleeper_24 : decode M_X1_setSleeper.2.1 24 = .ok (.aload 4, 2) := by decide +kernel
theorem d_X1_setSleeper_26 : decode M_X1_setSleeper.2.1 26 = .ok (.invokevirtual 84, 3) := by decide +kernel
theorem d_X1_setSleeper_29 : decode M_X1_setSleeper.2.1 29 = .ok (.invokevirtual 102, 3) := by decide +kernel
theorem d_X1_setSleeper_32 : decode M_X1_setSleeper.2.1 32 = .ok (.aload_n 0, 1) := by decide +kernel
theorem d_X1_setSleeper_33 : decode M_X1_setSleeper.2.1 33 = .ok (.getfield 33, 3) := by decide +kernel
theorem d_X1_setSleeper_36 : decode M_X1_setSleeper.2.1 36 = .ok (.bipush 25, 2) := by decide +kernel
theorem d_X1_setSleeper_38 : decode M_X1_setSleeper.2.1 38 = .ok (.aload 4, 2) := by decide +kernel
theorem d_X1_setSleeper_40 : decode M_X1_setSleeper.2.1 40 = .ok (.invokevirtual 106, 3) := by decide +kernel
theorem d_X1_setSleeper_43 : decode M_X1_setSleeper.2.1 43 = .ok (.invokevirtual 102, 3) := by decide +kernel
theorem d_X1_setSleeper_46 : decode M_X1_setSleeper.2.1 46 = .ok (.aload_n 0, 1) := by decide +kernel
theorem d_X1_setSleeper_47 : decode M_X1_setSleeper.2.1 47 = .ok (.getfield 33, 3) := by decide +kernel
theorem d_X1_setSleeper_50 : decode M_X1_setSleeper.2.1 50 = .ok (.bipush 26, 2) := by decide +kernel
theorem d_X1_setSleeper_52 : decode M_X1_setSleeper.2.1 52 = .ok (.aload_n 1, 1) := by decide +kernel
theorem d_X1_setSleeper_53 : decode M_X1_setSleeper.2.1 53 = .ok (.getfield 109, 3) := by decide +kernel
theorem d_X1_setSleeper_56 : decode M_X1_setSleeper.2.1 56 = .ok (.aload 4, 2) := by decide +kernel
theorem d_X1_setSleeper_58 : decode M_X1_setSleeper.2.1 58 = .ok (.getfield 112, 3) := by decide +kernel
theorem d_X1_setSleeper_61 : decode M_X1_setSleeper.2.1 61 = .ok (.iaload, 1) := by decide +kernel
theorem d_X1_setSleeper_62 : decode M_X1_setSleeper.2.1 62 = .ok (.invokevirtual 102, 3) := by decide +kernel
theorem d_X1_setSleeper_65 : decode M_X1_setSleeper.2.1 65 = .ok (.aload_n 0, 1) := by decide +kernel
theorem d_X1_setSleeper_66 : decode M_X1_setSleeper.2.1 66 = .ok (.getfield 33, 3) := by decide +kernel
theorem d_X1_setSleeper_69 : decode M_X1_setSleeper.2.1 69 = .ok (.bipush 29, 2) := by decide +kernel
theorem d_X1_setSleeper_71 : decode M_X1_setSleeper.2.1 71 = .ok (.aload_n 1, 1) := by decide +kernel
theorem d_X1_setSleeper_72 : decode M_X1_setSleeper.2.1 72 = .ok (.getfield 115, 3) := by decide +kernel
theorem d_X1_setSleeper_75 : decode M_X1_setSleeper.2.1 75 = .ok (.iload_n 2, 1) := by decide +kernel
theorem d_X1_setSleeper_76 : decode M_X1_setSleeper.2.1 76 = .ok (.iaload, 1) := by decide +kernel
theorem d_X1_setSleeper_77 : decode M_X1_setSleeper.2.1 77 = .ok (.invokevirtual 102, 3) := by decide +kernel
theorem d_X1_setSleeper_80 : decode M_X1_setSleeper.2.1 80 = .ok (.return_, 1) := by decide +kernel
set_option maxRecDepth 20000 in
theorem s_X1_setSleeper_0 {d : Nat} {t : Int} {p0 : Int} {p1 : Int} {p2 : Int} {G : Mem} {Q : Int → Mem → Prop} (bt : Bs 1 t) (bp0 : Bs 8 p0) (h : (0 ≤ p1 ∧ p1 < 5) ∧ (Ct d M_X3_setFact NT 0 0 (some lay) [(2, (t + 6)), (0, 28), (0, p2)] G (fun r3 G2 => Ct d M_X7_deep NT 0 0 (some lay) [(2, ((t + 13) + p1))] G2 (fun r5 G4 => Ct d M_X3_setFact NT 0 0 (some lay) [(2, (t + 6)), (0, 24), (0, r5)] G4 (fun r7 G6 => Ct d M_X7_legsLong NT 0 0 (some lay) [(2, ((t + 13) + p1))] G6 (fun r9 G8 => Ct d M_X3_setFact NT 0 0 (some lay) [(2, (t + 6)), (0, 25), (0, r9)] G8 (fun r11 G10 => (0 ≤ (G10 ((t + 13) + p1) 1) ∧ (G10 ((t + 13) + p1) 1) < 5) ∧ (Ct d M_X3_setFact NT 0 0 (some lay) [(2, (t + 6)), (0, 26), (0, (G10 (p0 + 7) (G10 ((t + 13) + p1) 1)))] G10 (fun r14 G13 => Ct d M_X3_setFact NT 0 0 (some lay) [(2, (t + 6)), (0, 29), (0, (G13 (p0 + 4) p1))] G13 (fun r16 G15 => Q 0 G15)))))))))) : Rn (d + 1) M_X1_setSleeper zN 0 [(0, (2, t)), (1, (2, p0)), (2, (0, p1)), (3, (0, p2))] [] G Q := by
  refine r_aload_n d_X1_setSleeper_0 0 rfl rfl ?_
  refine r_getL (v := (t + 1)) 1 0 0 rfl d_X1_setSleeper_1 fl_X1_11 (by decide) (bs_ob bt) (ly_1_0 bt).1 (ly_1_0 bt).2.1 ?_
  refine r_iload_n d_X1_setSleeper_4 2 rfl rfl ?_
  obtain ⟨h1, h⟩ := h
  refine r_aaloadL (v := ((t + 13) + p1)) d_X1_setSleeper_5 (ly_1_0 bt).2.2 (by decide) rfl h1 (el_1_0 bt h1.1 h1.2).1 (el_1_0 bt h1.1 h1.2).2.1 ?_
  refine r_astore (ls1 := [(4, (2, ((t + 13) + p1))), (0, (2, t)), (1, (2, p0)), (2, (0, p1)), (3, (0, p2))]) d_X1_setSleeper_6 (by decide) rfl ?_
  refine r_aload_n d_X1_setSleeper_8 1 rfl rfl ?_
  refine r_getL (v := (t + 6)) 1 5 5 rfl d_X1_setSleeper_9 fl_X1_33 (by decide) (bs_ob bt) (ly_1_5 bt).1 (ly_1_5 bt).2.1 ?_
  refine r_bipush d_X1_setSleeper_12 (by decide +kernel) ?_
  refine r_iload_n d_X1_setSleeper_14 4 rfl rfl ?_
  refine r_callV0 (M' := M_X3_setFact) (ci := 3) [(0, 28), (0, p2)] d_X1_setSleeper_15 cl_X1_102 rfl (Nat.le_of_ble_eq_true rfl) (by decide) rfl (bs_ob (ly_1_5 bt).2.2) ?_
  refine Ct.mono h (fun r3 G2 h => ?_)
  show Rn _ M_X1_setSleeper zN 18 [(4, (2, ((t + 13) + p1))), (0, (2, t)), (1, (2, p0)), (2, (0, p1)), (3, (0, p2))] [] G2 Q
  refine r_aload_n d_X1_setSleeper_18 1 rfl rfl ?_
  refine r_getL (v := (t + 6)) 1 5 5 rfl d_X1_setSleeper_19 fl_X1_33 (by decide) (bs_ob bt) (ly_1_5 bt).1 (ly_1_5 bt).2.1 ?_
  refine r_bipush d_X1_setSleeper_22 (by decide +kernel) ?_
  refine r_aload d_X1_setSleeper_24 0 rfl ?_
  refine r_callV0 (M' := M_X7_deep) (ci := 7) [] d_X1_setSleeper_26 cl_X1_84 rfl (Nat.le_of_ble_eq_true rfl) (by decide) rfl (bs_ob (el_1_0 bt h1.1 h1.2).2.2) ?_
  refine Ct.mono h (fun r5 G4 h => ?_)
  show Rn _ M_X1_setSleeper zN 29 [(4, (2, ((t + 13) + p1))), (0, (2, t)), (1, (2, p0)), (2, (0, p1)), (3, (0, p2))] [(0, r5), (0, 24), (2, (t + 6))] G4 Q
  refine r_callV0 (M' := M_X3_setFact) (ci := 3) [(0, 24), (0, r5)] d_X1_setSleeper_29 cl_X1_102 rfl (Nat.le_of_ble_eq_true rfl) (by decide) rfl (bs_ob (ly_1_5 bt).2.2) ?_
  refine Ct.mono h (fun r7 G6 h => ?_)
  show Rn _ M_X1_setSleeper zN 32 [(4, (2, ((t + 13) + p1))), (0, (2, t)), (1, (2, p0)), (2, (0, p1)), (3, (0, p2))] [] G6 Q
  refine r_aload_n d_X1_setSleeper_32 1 rfl rfl ?_
  refine r_getL (v := (t + 6)) 1 5 5 rfl d_X1_setSleeper_33 fl_X1_33 (by decide) (bs_ob bt) (ly_1_5 bt).1 (ly_1_5 bt).2.1 ?_
  refine r_bipush d_X1_setSleeper_36 (by decide +kernel) ?_
  refine r_aload d_X1_setSleeper_38 0 rfl ?_
  refine r_callV0 (M' := M_X7_legsLong) (ci := 7) [] d_X1_setSleeper_40 cl_X1_106 rfl (Nat.le_of_ble_eq_true rfl) (by decide) rfl (bs_ob (el_1_0 bt h1.1 h1.2).2.2) ?_
  refine Ct.mono h (fun r9 G8 h => ?_)
  show Rn _ M_X1_setSleeper zN 43 [(4, (2, ((t + 13) + p1))), (0, (2, t)), (1, (2, p0)), (2, (0, p1)), (3, (0, p2))] [(0, r9), (0, 25), (2, (t + 6))] G8 Q
  refine r_callV0 (M' := M_X3_setFact) (ci := 3) [(0, 25), (0, r9)] d_X1_setSleeper_43 cl_X1_102 rfl (Nat.le_of_ble_eq_true rfl) (by decide) rfl (bs_ob (ly_1_5 bt).2.2) ?_
  refine Ct.mono h (fun r11 G10 h => ?_)
  show Rn _ M_X1_setSleeper zN 46 [(4, (2, ((t + 13) + p1))), (0, (2, t)), (1, (2, p0)), (2, (0, p1)), (3, (0, p2))] [] G10 Q
  refine r_aload_n d_X1_setSleeper_46 1 rfl rfl ?_
  refine r_getL (v := (t + 6)) 1 5 5 rfl d_X1_setSleeper_47 fl_X1_33 (by decide) (bs_ob bt) (ly_1_5 bt).1 (ly_1_5 bt).2.1 ?_
  refine r_bipush d_X1_setSleeper_50 (by decide +kernel) ?_
  refine r_aload_n d_X1_setSleeper_52 2 rfl rfl ?_
  refine r_getL (v := (p0 + 7)) 8 6 6 rfl d_X1_setSleeper_53 fl_X1_109 (by decide) (bs_ob bp0) (ly_8_6 bp0).1 (ly_8_6 bp0).2.1 ?_
  refine r_aload d_X1_setSleeper_56 0 rfl ?_
  refine r_getI 7 1 1 rfl d_X1_setSleeper_58 fl_X1_112 (by decide) (bs_ob (el_1_0 bt h1.1 h1.2).2.2) ?_
  obtain ⟨h12, h⟩ := h
  refine r_iaload d_X1_setSleeper_61 (ly_8_6 bp0).2.2 h12 ?_
  refine r_callV0 (M' := M_X3_setFact) (ci := 3) [(0, 26), (0, (G10 (p0 + 7) (G10 ((t + 13) + p1) 1)))] d_X1_setSleeper_62 cl_X1_102 rfl (Nat.le_of_ble_eq_true rfl) (by decide) rfl (bs_ob (ly_1_5 bt).2.2) ?_
  refine Ct.mono h (fun r14 G13 h => ?_)
  show Rn _ M_X1_setSleeper zN 65 [(4, (2, ((t + 13) + p1))), (0, (2, t)), (1, (2, p0)), (2, (0, p1)), (3, (0, p2))] [] G13 Q
  refine r_aload_n d_X1_setSleeper_65 1 rfl rfl ?_
  refine r_getL (v := (t + 6)) 1 5 5 rfl d_X1_setSleeper_66 fl_X1_33 (by decide) (bs_ob bt) (ly_1_5 bt).1 (ly_1_5 bt).2.1 ?_
  refine r_bipush d_X1_setSleeper_69 (by decide +kernel) ?_
  refine r_aload_n d_X1_setSleeper_71 2 rfl rfl ?_
  refine r_getL (v := (p0 + 4)) 8 3 3 rfl d_X1_setSleeper_72 fl_X1_115 (by decide) (bs_ob bp0) (ly_8_3 bp0).1 (ly_8_3 bp0).2.1 ?_
  refine r_iload_n d_X1_setSleeper_75 3 rfl rfl ?_
  refine r_iaload d_X1_setSleeper_76 (ly_8_3 bp0).2.2 h1 ?_
  refine r_callV0 (M' := M_X3_setFact) (ci := 3) [(0, 29), (0, (G13 (p0 + 4) p1))] d_X1_setSleeper_77 cl_X1_102 rfl (Nat.le_of_ble_eq_true rfl) (by decide) rfl (bs_ob (ly_1_5 bt).2.2) ?_
  refine Ct.mono h (fun r16 G15 h => ?_)
  show Rn _ M_X1_setSleeper zN 80 [(4, (2, ((t + 13) + p1))), (0, (2, t)), (1, (2, p0)), (2, (0, p1)), (3, (0, p2))] [] G15 Q
  exact r_ret d_X1_setSleeper_80 rfl ⟨rfl, Nat.le_refl _, Nat.le_refl _⟩ h
theorem d_X1_bounded_0 : decode M_X1_bounded.2.1 0 = .ok (.iconst 0, 1) := by decide +kernel
theorem d_X1_bounded_1 : decode M_X1_bounded.2.1 1 = .ok (.iload_n 1, 1) := by decide +kernel
theorem d_X1_bounded_2 : decode M_X1_bounded.2.1 2 = .ok (.iload_n 0, 1) := by decide +kernel
theorem d_X1_bounded_3 : decode M_X1_bounded.2.1 3 = .ok (.invokestatic 118, 3) := by decide +kernel
theorem d_X1_bounded_6 : decode M_X1_bounded.2.1 6 = .ok (.invokestatic 123, 3) := by decide +kernel
theorem d_X1_bounded_9 : decode M_X1_bounded.2.1 9 = .ok (.ireturn, 1) := by decide +kernel
set_option maxRecDepth 20000 in
theorem s_X1_bounded_0 {d : Nat} {p0 : Int} {p1 : Int} {G : Mem} {Q : Int → Mem → Prop}  (h : (InR p1) ∧ (InR p0) ∧ ((InR (min p1 p0)) ∧ (Q (max 0 (min p1 p0)) G))) : Rn (d + 1) M_X1_bounded zN 0 [(0, (0, p0)), (1, (0, p1))] [] G Q := by
  refine r_iconst d_X1_bounded_0 ?_
  refine r_iload_n d_X1_bounded_1 1 rfl rfl ?_
  refine r_iload_n d_X1_bounded_2 0 rfl rfl ?_
  obtain ⟨h1, h⟩ := h
  obtain ⟨h2, h⟩ := h
  refine r_mmin d_X1_bounded_3 ml_X1_118 h1 h2 (Nat.le_of_ble_eq_true rfl) ?_
  obtain ⟨h3, h⟩ := h
  refine r_mmax d_X1_bounded_6 ml_X1_123 ⟨by decide, by decide⟩ h3 (Nat.le_of_ble_eq_true rfl) ?_
  exact r_ireturn d_X1_bounded_9 rfl ⟨rfl, Nat.le_refl _, Nat.le_refl _⟩ h
theorem d_X0_look_0 : decode M_X0_look.2.1 0 = .ok (.aload_n 0, 1) := by decide +kernel
theorem d_X0_look_1 : decode M_X0_look.2.1 1 = .ok (.iconst 0, 1) := by decide +kernel
theorem d_X0_look_2 : decode M_X0_look.2.1 2 = .ok (.putfield 27, 3) := by decide +kernel
theorem d_X0_look_5 : decode M_X0_look.2.1 5 = .ok (.aload_n 1, 1) := by decide +kernel
theorem d_X0_look_6 : decode M_X0_look.2.1 6 = .ok (.getfield 31, 3) := by decide +kernel
theorem d_X0_look_9 : decode M_X0_look.2.1 9 = .ok (.iconst 0, 1) := by decide +kernel
theorem d_X0_look_10 : decode M_X0_look.2.1 10 = .ok (.aload_n 0, 1) := by decide +kernel
theorem d_X0_look_11 : decode M_X0_look.2.1 11 = .ok (.getfield 24, 3) := by decide +kernel
theorem d_X0_look_14 : decode M_X0_look.2.1 14 = .ok (.iconst 0, 1) := by decide +kernel
theorem d_X0_look_15 : decode M_X0_look.2.1 15 = .ok (.aload_n 0, 1) := by decide +kernel
theorem d_X0_look_16 : decode M_X0_look.2.1 16 = .ok (.getfield 24, 3) := by decide +kernel
theorem d_X0_look_19 : decode M_X0_look.2.1 19 = .ok (.arraylength, 1) := by decide +kernel
theorem d_X0_look_20 : decode M_X0_look.2.1 20 = .ok (.invokestatic 34, 3) := by decide +kernel
theorem d_X0_look_23 : decode M_X0_look.2.1 23 = .ok (.aload_n 1, 1) := by decide +kernel
theorem d_X0_look_24 : decode M_X0_look.2.1 24 = .ok (.getfield 40, 3) := by decide +kernel
theorem d_X0_look_27 : decode M_X0_look.2.1 27 = .ok (.iload_n 3, 1) := by decide +kernel
theorem d_X0_look_28 : decode M_X0_look.2.1 28 = .ok (.aaload, 1) := by decide +kernel
theorem d_X0_look_29 : decode M_X0_look.2.1 29 = .ok (.getfield 44, 3) := by decide +kernel
theorem d_X0_look_32 : decode M_X0_look.2.1 32 = .ok (.iconst 1, 1) := by decide +kernel
theorem d_X0_look_33 : decode M_X0_look.2.1 33 = .ok (.iadd, 1) := by decide +kernel
theorem d_X0_look_34 : decode M_X0_look.2.1 34 = .ok (.istore 5, 2) := by decide +kernel
theorem d_X0_look_36 : decode M_X0_look.2.1 36 = .ok (.iload 5, 2) := by decide +kernel
theorem d_X0_look_38 : decode M_X0_look.2.1 38 = .ok (.aload_n 1, 1) := by decide +kernel
theorem d_X0_look_39 : decode M_X0_look.2.1 39 = .ok (.getfield 49, 3) := by decide +kernel
theorem d_X0_look_42 : decode M_X0_look.2.1 42 = .ok (.if_icmp .ge 80, 3) := by decide +kernel
theorem d_X0_look_45 : decode M_X0_look.2.1 45 = .ok (.aload_n 1, 1) := by decide +kernel
theorem d_X0_look_46 : decode M_X0_look.2.1 46 = .ok (.getfield 52, 3) := by decide +kernel
theorem d_X0_look_49 : decode M_X0_look.2.1 49 = .ok (.iload 5, 2) := by decide +kernel
theorem d_X0_look_51 : decode M_X0_look.2.1 51 = .ok (.iaload, 1) := by decide +kernel
theorem d_X0_look_52 : decode M_X0_look.2.1 52 = .ok (.istore 6, 2) := by decide +kernel
theorem d_X0_look_54 : decode M_X0_look.2.1 54 = .ok (.iload 6, 2) := by decide +kernel
theorem d_X0_look_56 : decode M_X0_look.2.1 56 = .ok (.iconst (-1), 1) := by decide +kernel
theorem d_X0_look_57 : decode M_X0_look.2.1 57 = .ok (.if_icmp .eq 59, 3) := by decide +kernel
theorem d_X0_look_60 : decode M_X0_look.2.1 60 = .ok (.aload_n 2, 1) := by decide +kernel
theorem d_X0_look_61 : decode M_X0_look.2.1 61 = .ok (.aload_n 1, 1) := by decide +kernel
theorem d_X0_look_62 : decode M_X0_look.2.1 62 = .ok (.iload 6, 2) := by decide +kernel
theorem d_X0_look_64 : decode M_X0_look.2.1 64 = .ok (.iload 4, 2) := by decide +kernel
theorem d_X0_look_66 : decode M_X0_look.2.1 66 = .ok (.invokevirtual 55, 3) := by decide +kernel
theorem d_X0_look_69 : decode M_X0_look.2.1 69 = .ok (.ifCond .eq 47, 3) := by decide +kernel
theorem d_X0_look_72 : decode M_X0_look.2.1 72 = .ok (.aload_n 0, 1) := by decide +kernel
theorem d_X0_look_73 : decode M_X0_look.2.1 73 = .ok (.getfield 9, 3) := by decide +kernel
theorem d_X0_look_76 : decode M_X0_look.2.1 76 = .ok (.aload_n 0, 1) := by decide +kernel
theorem d_X0_look_77 : decode M_X0_look.2.1 77 = .ok (.getfield 27, 3) := by decide +kernel
theorem d_X0_look_80 : decode M_X0_look.2.1 80 = .ok (.iload 5, 2) := by decide +kernel
theorem d_X0_look_82 : decode M_X0_look.2.1 82 = .ok (.iastore, 1) := by decide +kernel
theorem d_X0_look_83 : decode M_X0_look.2.1 83 = .ok (.aload_n 0, 1) := by decide +kernel
theorem d_X0_look_84 : decode M_X0_look.2.1 84 = .ok (.aload_n 1, 1) := by decide +kernel
theorem d_X0_look_85 : decode M_X0_look.2.1 85 = .ok (.aload_n 2, 1) := by decide +kernel
theorem d_X0_look_86 : decode M_X0_look.2.1 86 = .ok (.iload 6, 2) := by decide +kernel
theorem d_X0_look_88 : decode M_X0_look.2.1 88 = .ok (.iload 4, 2) := by decide +kernel
theorem d_X0_look_90 : decode M_X0_look.2.1 90 = .ok (.invokevirtual 61, 3) := by decide +kernel
theorem d_X0_look_93 : decode M_X0_look.2.1 93 = .ok (.aload_n 1, 1) := by decide +kernel
theorem d_X0_look_94 : decode M_X0_look.2.1 94 = .ok (.aload_n 2, 1) := by decide +kernel
theorem d_X0_look_95 : decode M_X0_look.2.1 95 = .ok (.iload 6, 2) := by decide +kernel
theorem d_X0_look_97 : decode M_X0_look.2.1 97 = .ok (.iload 4, 2) := by decide +kernel
theorem d_X0_look_99 : decode M_X0_look.2.1 99 = .ok (.iconst 0, 1) := by decide +kernel
theorem d_X0_look_100 : decode M_X0_look.2.1 100 = .ok (.invokevirtual 65, 3) := by decide +kernel
theorem d_X0_look_103 : decode M_X0_look.2.1 103 = .ok (.aload_n 1, 1) := by decide +kernel
theorem d_X0_look_104 : decode M_X0_look.2.1 104 = .ok (.aload_n 2, 1) := by decide +kernel
theorem d_X0_look_105 : decode M_X0_look.2.1 105 = .ok (.iload 6, 2) := by decide +kernel
theorem d_X0_look_107 : decode M_X0_look.2.1 107 = .ok (.iload 4, 2) := by decide +kernel
theorem d_X0_look_109 : decode M_X0_look.2.1 109 = .ok (.iconst 1, 1) := by decide +kernel
theorem d_X0_look_110 : decode M_X0_look.2.1 110 = .ok (.invokevirtual 65, 3) := by decide +kernel
theorem d_X0_look_113 : decode M_X0_look.2.1 113 = .ok (.invokevirtual 69, 3) := by decide +kernel
theorem d_X0_look_116 : decode M_X0_look.2.1 116 = .ok (.iinc 5 1, 3) := by decide +kernel
theorem d_X0_look_119 : decode M_X0_look.2.1 119 = .ok (.goto (-83), 3) := by decide +kernel
theorem d_X0_look_122 : decode M_X0_look.2.1 122 = .ok (.return_, 1) := by decide +kernel
set_option maxRecDepth 20000 in
theorem s_X0_look_0 {d : Nat} {p0 : Int} {p1 : Int} {p2 : Int} {p3 : Int} {G : Mem} {Q : Int → Mem → Prop} (bp0 : Bs 1 p0) (bp1 : Bs 8 p1) (h : (∀ G1 : Mem, G1 = st G 6 5 0 → (CpOk 0 0 4 4 4) ∧ (∀ G3 : Mem, G3 = cpy G1 (p0 + 5) 0 11 0 4 → (0 ≤ p2 ∧ p2 < 5) ∧ (Rn (d + 1) M_X0_look zN 36 [(0, (2, 6)), (1, (2, p0)), (2, (2, p1)), (4, (0, p3)), (5, (0, ((G3 ((p0 + 13) + p2) 1) + 1)))] [] G3 Q)))) : Rn (d + 1) M_X0_look zN 0 [(0, (2, 6)), (1, (2, p0)), (2, (2, p1)), (3, (0, p2)), (4, (0, p3))] [] G Q := by
  refine r_aload_n d_X0_look_0 0 rfl rfl ?_
  refine r_iconst d_X0_look_1 ?_
  obtain ⟨G1, eG1⟩ : ∃ y : Mem, y = st G 6 5 0 := ⟨_, rfl⟩
  replace h := h G1 eG1
  refine r_putI 0 5 5 rfl d_X0_look_2 fl_X0_27 (by decide) nofin_0_5 (bs_ob bs_0) ?_
  rw [← eG1]
  refine r_aload_n d_X0_look_5 1 rfl rfl ?_
  refine r_getL (v := (p0 + 5)) 1 4 4 rfl d_X0_look_6 fl_X0_31 (by decide) (bs_ob bp0) (ly_1_4 bp0).1 (ly_1_4 bp0).2.1 ?_
  refine r_iconst d_X0_look_9 ?_
  refine r_aload_n d_X0_look_10 0 rfl rfl ?_
  refine r_getL (v := 11) 0 4 4 rfl d_X0_look_11 fl_X0_24 (by decide) (bs_ob bs_0) (ly_0_4 bs_0).1 (ly_0_4 bs_0).2.1 ?_
  refine r_iconst d_X0_look_14 ?_
  refine r_aload_n d_X0_look_15 0 rfl rfl ?_
  refine r_getL (v := 11) 0 4 4 rfl d_X0_look_16 fl_X0_24 (by decide) (bs_ob bs_0) (ly_0_4 bs_0).1 (ly_0_4 bs_0).2.1 ?_
  refine r_alen 4 rfl d_X0_look_19 (ly_0_4 bs_0).2.2 ?_
  obtain ⟨h2, h⟩ := h
  obtain ⟨G3, eG3⟩ : ∃ y : Mem, y = cpy G1 (p0 + 5) 0 11 0 4 := ⟨_, rfl⟩
  replace h := h G3 eG3
  refine r_acopy d_X0_look_20 ac_X0_34 (ly_1_4 bp0).2.2 (ly_0_4 bs_0).2.2 h2 (Nat.le_of_ble_eq_true rfl) ?_
  rw [← eG3]
  refine r_aload_n d_X0_look_23 1 rfl rfl ?_
  refine r_getL (v := (p0 + 1)) 1 0 0 rfl d_X0_look_24 fl_X0_40 (by decide) (bs_ob bp0) (ly_1_0 bp0).1 (ly_1_0 bp0).2.1 ?_
  refine r_iload_n d_X0_look_27 3 rfl rfl ?_
  obtain ⟨h4, h⟩ := h
  refine r_aaloadL (v := ((p0 + 13) + p2)) d_X0_look_28 (ly_1_0 bp0).2.2 (by decide) rfl h4 (el_1_0 bp0 h4.1 h4.2).1 (el_1_0 bp0 h4.1 h4.2).2.1 ?_
  refine r_getI 7 1 1 rfl d_X0_look_29 fl_X0_44 (by decide) (bs_ob (el_1_0 bp0 h4.1 h4.2).2.2) ?_
  refine r_iconst d_X0_look_32 ?_
  refine r_iadd d_X0_look_33 ?_
  refine r_istore (ls1 := [(5, (0, ((G3 ((p0 + 13) + p2) 1) + 1))), (0, (2, 6)), (1, (2, p0)), (2, (2, p1)), (3, (0, p2)), (4, (0, p3))]) d_X0_look_34 (by decide) rfl ?_
  exact Rn.sub [1, 2, 3, 5, 0] rfl h
set_option maxRecDepth 20000 in
theorem s_X0_look_36 {d : Nat} {x1 : Int} {x2 : Int} {x4 : Int} {x5 : Int} {G : Mem} {Q : Int → Mem → Prop} (bx1 : Bs 1 x1) (bx2 : Bs 8 x2) (h : (InR x5) ∧ (InR (G x1 6)) ∧ (((G x1 6) ≤ x5) → Q 0 G) ∧ (¬ ((G x1 6) ≤ x5) → (0 ≤ x5 ∧ x5 < 5) ∧ ((InR (G (x1 + 2) x5)) ∧ (((G (x1 + 2) x5) = (-1)) → Rn (d + 1) M_X0_look zN 36 [(0, (2, 6)), (1, (2, x1)), (2, (2, x2)), (4, (0, x4)), (5, (0, (x5 + 1)))] [] G Q) ∧ (¬ ((G (x1 + 2) x5) = (-1)) → Ct d M_X8_asleep NT 0 0 (some lay) [(2, x2), (2, x1), (0, (G (x1 + 2) x5)), (0, x4)] G (fun r8 G7 => (InR r8) ∧ ((r8 = 0) → Rn (d + 1) M_X0_look zN 36 [(0, (2, 6)), (1, (2, x1)), (2, (2, x2)), (4, (0, x4)), (5, (0, (x5 + 1)))] [] G7 Q) ∧ (¬ (r8 = 0) → (0 ≤ (G7 6 5) ∧ (G7 6 5) < 5) ∧ (∀ G12 : Mem, G12 = st G7 7 (G7 6 5) x5 → Ct d M_X1_waking NT 0 0 (some lay) [(2, x1), (2, x2), (0, (G (x1 + 2) x5)), (0, x4)] G12 (fun r14 G13 => Ct d M_X1_spilling NT 0 0 (some lay) [(2, x1), (2, x2), (0, (G (x1 + 2) x5)), (0, x4), (0, 0)] G13 (fun r16 G15 => Ct d M_X1_spilling NT 0 0 (some lay) [(2, x1), (2, x2), (0, (G (x1 + 2) x5)), (0, x4), (0, 1)] G15 (fun r18 G17 => Ct d M_X0_addSleeper NT 0 0 (some lay) [(2, 6), (0, r14), (0, r16), (0, r18)] G17 (fun r20 G19 => Rn (d + 1) M_X0_look zN 36 [(0, (2, 6)), (1, (2, x1)), (2, (2, x2)), (4, (0, x4)), (5, (0, (x5 + 1)))] [] G19 Q))))))))))) : Rn (d + 1) M_X0_look zN 36 [(0, (2, 6)), (1, (2, x1)), (2, (2, x2)), (4, (0, x4)), (5, (0, x5))] [] G Q := by
  refine r_iload d_X0_look_36 4 rfl ?_
  refine r_aload_n d_X0_look_38 1 rfl rfl ?_
  refine r_getI 1 6 6 rfl d_X0_look_39 fl_X0_49 (by decide) (bs_ob bx1) ?_
  obtain ⟨h1, h⟩ := h
  obtain ⟨h2, h⟩ := h
  refine r_icmp_ge (tgt := 122) d_X0_look_42 (by decide) h1 h2 (fun c3 => ?_) (fun c3 => ?_)
  · replace h := h.1 c3
    exact r_ret d_X0_look_122 rfl ⟨rfl, Nat.le_refl _, Nat.le_refl _⟩ h
  · replace h := h.2 c3
    refine r_aload_n d_X0_look_45 1 rfl rfl ?_
    refine r_getL (v := (x1 + 2)) 1 1 1 rfl d_X0_look_46 fl_X0_52 (by decide) (bs_ob bx1) (ly_1_1 bx1).1 (ly_1_1 bx1).2.1 ?_
    refine r_iload d_X0_look_49 4 rfl ?_
    obtain ⟨h4, h⟩ := h
    refine r_iaload d_X0_look_51 (ly_1_1 bx1).2.2 h4 ?_
    refine r_istore (ls1 := [(6, (0, (G (x1 + 2) x5))), (0, (2, 6)), (1, (2, x1)), (2, (2, x2)), (4, (0, x4)), (5, (0, x5))]) d_X0_look_52 (by decide) rfl ?_
    refine r_iload d_X0_look_54 0 rfl ?_
    refine r_iconst d_X0_look_56 ?_
    obtain ⟨h5, h⟩ := h
    refine r_icmp_eq (tgt := 116) d_X0_look_57 (by decide) h5 ⟨by decide, by decide⟩ (fun c6 => ?_) (fun c6 => ?_)
    · replace h := h.1 c6
      refine r_iinc (ls1 := [(5, (0, (x5 + 1))), (6, (0, (G (x1 + 2) x5))), (0, (2, 6)), (1, (2, x1)), (2, (2, x2)), (4, (0, x4))]) d_X0_look_116 5 rfl (by decide) rfl ?_
      refine r_goto (tgt := 36) d_X0_look_119 (by decide) ?_
      exact Rn.sub [2, 3, 4, 5, 0] rfl h
    · replace h := h.2 c6
      refine r_aload_n d_X0_look_60 3 rfl rfl ?_
      refine r_aload_n d_X0_look_61 2 rfl rfl ?_
      refine r_iload d_X0_look_62 0 rfl ?_
      refine r_iload d_X0_look_64 4 rfl ?_
      refine r_callV0 (M' := M_X8_asleep) (ci := 8) [(2, x1), (0, (G (x1 + 2) x5)), (0, x4)] d_X0_look_66 cl_X0_55 rfl (Nat.le_of_ble_eq_true rfl) (by decide) rfl (bs_ob bx2) ?_
      refine Ct.mono h (fun r8 G7 h => ?_)
      show Rn _ M_X0_look zN 69 [(6, (0, (G (x1 + 2) x5))), (0, (2, 6)), (1, (2, x1)), (2, (2, x2)), (4, (0, x4)), (5, (0, x5))] [(0, r8)] G7 Q
      obtain ⟨h9, h⟩ := h
      refine r_if_eq (tgt := 116) d_X0_look_69 (by decide) h9 (fun c10 => ?_) (fun c10 => ?_)
      · replace h := h.1 c10
        refine r_iinc (ls1 := [(5, (0, (x5 + 1))), (6, (0, (G (x1 + 2) x5))), (0, (2, 6)), (1, (2, x1)), (2, (2, x2)), (4, (0, x4))]) d_X0_look_116 5 rfl (by decide) rfl ?_
        refine r_goto (tgt := 36) d_X0_look_119 (by decide) ?_
        exact Rn.sub [2, 3, 4, 5, 0] rfl h
      · replace h := h.2 c10
        refine r_aload_n d_X0_look_72 1 rfl rfl ?_
        refine r_getL (v := 7) 0 0 0 rfl d_X0_look_73 fl_X0_9 (by decide) (bs_ob bs_0) (ly_0_0 bs_0).1 (ly_0_0 bs_0).2.1 ?_
        refine r_aload_n d_X0_look_76 1 rfl rfl ?_
        refine r_getI 0 5 5 rfl d_X0_look_77 fl_X0_27 (by decide) (bs_ob bs_0) ?_
        refine r_iload d_X0_look_80 5 rfl ?_
        obtain ⟨h11, h⟩ := h
        obtain ⟨G12, eG12⟩ : ∃ y : Mem, y = st G7 7 (G7 6 5) x5 := ⟨_, rfl⟩
        replace h := h G12 eG12
        refine r_iastore d_X0_look_82 (ly_0_0 bs_0).2.2 h11 ?_
        rw [← eG12]
        refine r_aload_n d_X0_look_83 1 rfl rfl ?_
        refine r_aload_n d_X0_look_84 2 rfl rfl ?_
        refine r_aload_n d_X0_look_85 3 rfl rfl ?_
        refine r_iload d_X0_look_86 0 rfl ?_
        refine r_iload d_X0_look_88 4 rfl ?_
        refine r_callV0 (M' := M_X1_waking) (ci := 1) [(2, x2), (0, (G (x1 + 2) x5)), (0, x4)] d_X0_look_90 cl_X0_61 rfl (Nat.le_of_ble_eq_true rfl) (by decide) rfl (bs_ob bx1) ?_
        refine Ct.mono h (fun r14 G13 h => ?_)
        show Rn _ M_X0_look zN 93 [(6, (0, (G (x1 + 2) x5))), (0, (2, 6)), (1, (2, x1)), (2, (2, x2)), (4, (0, x4)), (5, (0, x5))] [(0, r14), (2, 6)] G13 Q
        refine r_aload_n d_X0_look_93 2 rfl rfl ?_
        refine r_aload_n d_X0_look_94 3 rfl rfl ?_
        refine r_iload d_X0_look_95 0 rfl ?_
        refine r_iload d_X0_look_97 4 rfl ?_
        refine r_iconst d_X0_look_99 ?_
        refine r_callV0 (M' := M_X1_spilling) (ci := 1) [(2, x2), (0, (G (x1 + 2) x5)), (0, x4), (0, 0)] d_X0_look_100 cl_X0_65 rfl (Nat.le_of_ble_eq_true rfl) (by decide) rfl (bs_ob bx1) ?_
        refine Ct.mono h (fun r16 G15 h => ?_)
        show Rn _ M_X0_look zN 103 [(6, (0, (G (x1 + 2) x5))), (0, (2, 6)), (1, (2, x1)), (2, (2, x2)), (4, (0, x4)), (5, (0, x5))] [(0, r16), (0, r14), (2, 6)] G15 Q
        refine r_aload_n d_X0_look_103 2 rfl rfl ?_
        refine r_aload_n d_X0_look_104 3 rfl rfl ?_
        refine r_iload d_X0_look_105 0 rfl ?_
        refine r_iload d_X0_look_107 4 rfl ?_
        refine r_iconst d_X0_look_109 ?_
        refine r_callV0 (M' := M_X1_spilling) (ci := 1) [(2, x2), (0, (G (x1 + 2) x5)), (0, x4), (0, 1)] d_X0_look_110 cl_X0_65 rfl (Nat.le_of_ble_eq_true rfl) (by decide) rfl (bs_ob bx1) ?_
        refine Ct.mono h (fun r18 G17 h => ?_)
        show Rn _ M_X0_look zN 113 [(6, (0, (G (x1 + 2) x5))), (0, (2, 6)), (1, (2, x1)), (2, (2, x2)), (4, (0, x4)), (5, (0, x5))] [(0, r18), (0, r16), (0, r14), (2, 6)] G17 Q
        refine r_callV0 (M' := M_X0_addSleeper) (ci := 0) [(0, r14), (0, r16), (0, r18)] d_X0_look_113 cl_X0_69 rfl (Nat.le_of_ble_eq_true rfl) (by decide) rfl (bs_ob bs_0) ?_
        refine Ct.mono h (fun r20 G19 h => ?_)
        show Rn _ M_X0_look zN 116 [(6, (0, (G (x1 + 2) x5))), (0, (2, 6)), (1, (2, x1)), (2, (2, x2)), (4, (0, x4)), (5, (0, x5))] [] G19 Q
        refine r_iinc (ls1 := [(5, (0, (x5 + 1))), (6, (0, (G (x1 + 2) x5))), (0, (2, 6)), (1, (2, x1)), (2, (2, x2)), (4, (0, x4))]) d_X0_look_116 5 rfl (by decide) rfl ?_
        refine r_goto (tgt := 36) d_X0_look_119 (by decide) ?_
        exact Rn.sub [2, 3, 4, 5, 0] rfl h
theorem d_X0_addSleeper_0 : decode M_X0_addSleeper.2.1 0 = .ok (.aload_n 0, 1) := by decide +kernel
theorem d_X0_addSleeper_1 : decode M_X0_addSleeper.2.1 1 = .ok (.getfield 15, 3) := by decide +kernel
theorem d_X0_addSleeper_4 : decode M_X0_addSleeper.2.1 4 = .ok (.aload_n 0, 1) := by decide +kernel
theorem d_X0_addSleeper_5 : decode M_X0_addSleeper.2.1 5 = .ok (.getfield 27, 3) := by decide +kernel
theorem d_X0_addSleeper_8 : decode M_X0_addSleeper.2.1 8 = .ok (.iload_n 1, 1) := by decide +kernel
theorem d_X0_addSleeper_9 : decode M_X0_addSleeper.2.1 9 = .ok (.iastore, 1) := by decide +kernel
theorem d_X0_addSleeper_10 : decode M_X0_addSleeper.2.1 10 = .ok (.aload_n 0, 1) := by decide +kernel
theorem d_X0_addSleeper_11 : decode M_X0_addSleeper.2.1 11 = .ok (.getfield 18, 3) := by decide +kernel
theorem d_X0_addSleeper_14 : decode M_X0_addSleeper.2.1 14 = .ok (.aload_n 0, 1) := by decide +kernel
theorem d_X0_addSleeper_15 : decode M_X0_addSleeper.2.1 15 = .ok (.getfield 27, 3) := by decide +kernel
theorem d_X0_addSleeper_18 : decode M_X0_addSleeper.2.1 18 = .ok (.iconst 2, 1) := by decide +kernel
theorem d_X0_addSleeper_19 : decode M_X0_addSleeper.2.1 19 = .ok (.imul, 1) := by decide +kernel
theorem d_X0_addSleeper_20 : decode M_X0_addSleeper.2.1 20 = .ok (.iload_n 2, 1) := by decide +kernel
theorem d_X0_addSleeper_21 : decode M_X0_addSleeper.2.1 21 = .ok (.iastore, 1) := by decide +kernel
theorem d_X0_addSleeper_22 : decode M_X0_addSleeper.2.1 22 = .ok (.aload_n 0, 1) := by decide +kernel
theorem d_X0_addSleeper_23 : decode M_X0_addSleeper.2.1 23 = .ok (.getfield 18, 3) := by decide +kernel
theorem d_X0_addSleeper_26 : decode M_X0_addSleeper.2.1 26 = .ok (.aload_n 0, 1) := by decide +kernel
theorem d_X0_addSleeper_27 : decode M_X0_addSleeper.2.1 27 = .ok (.getfield 27, 3) := by decide +kernel
theorem d_X0_addSleeper_30 : decode M_X0_addSleeper.2.1 30 = .ok (.iconst 2, 1) := by decide +kernel
theorem d_X0_addSleeper_31 : decode M_X0_addSleeper.2.1 31 = .ok (.imul, 1) := by decide +kernel
theorem d_X0_addSleeper_32 : decode M_X0_addSleeper.2.1 32 = .ok (.iconst 1, 1) := by decide +kernel
theorem d_X0_addSleeper_33 : decode M_X0_addSleeper.2.1 33 = .ok (.iadd, 1) := by decide +kernel
theorem d_X0_addSleeper_34 : decode M_X0_addSleeper.2.1 34 = .ok (.iload_n 3, 1) := by decide +kernel
theorem d_X0_addSleeper_35 : decode M_X0_addSleeper.2.1 35 = .ok (.iastore, 1) := by decide +kernel
theorem d_X0_addSleeper_36 : decode M_X0_addSleeper.2.1 36 = .ok (.aload_n 0, 1) := by decide +kernel
theorem d_X0_addSleeper_37 : decode M_X0_addSleeper.2.1 37 = .ok (.getfield 21, 3) := by decide +kernel
theorem d_X0_addSleeper_40 : decode M_X0_addSleeper.2.1 40 = .ok (.aload_n 0, 1) := by decide +kernel
theorem d_X0_addSleeper_41 : decode M_X0_addSleeper.2.1 41 = .ok (.getfield 27, 3) := by decide +kernel
theorem d_X0_addSleeper_44 : decode M_X0_addSleeper.2.1 44 = .ok (.aload_n 0, 1) := by decide +kernel
theorem d_X0_addSleeper_45 : decode M_X0_addSleeper.2.1 45 = .ok (.getfield 24, 3) := by decide +kernel
theorem d_X0_addSleeper_48 : decode M_X0_addSleeper.2.1 48 = .ok (.iconst 1, 1) := by decide +kernel
theorem d_X0_addSleeper_49 : decode M_X0_addSleeper.2.1 49 = .ok (.iaload, 1) := by decide +kernel
theorem d_X0_addSleeper_50 : decode M_X0_addSleeper.2.1 50 = .ok (.iload_n 3, 1) := by decide +kernel
theorem d_X0_addSleeper_51 : decode M_X0_addSleeper.2.1 51 = .ok (.imul, 1) := by decide +kernel
theorem d_X0_addSleeper_52 : decode M_X0_addSleeper.2.1 52 = .ok (.aload_n 0, 1) := by decide +kernel
theorem d_X0_addSleeper_53 : decode M_X0_addSleeper.2.1 53 = .ok (.getfield 24, 3) := by decide +kernel
theorem d_X0_addSleeper_56 : decode M_X0_addSleeper.2.1 56 = .ok (.iconst 1, 1) := by decide +kernel
theorem d_X0_addSleeper_57 : decode M_X0_addSleeper.2.1 57 = .ok (.iaload, 1) := by decide +kernel
theorem d_X0_addSleeper_58 : decode M_X0_addSleeper.2.1 58 = .ok (.iload_n 2, 1) := by decide +kernel
theorem d_X0_addSleeper_59 : decode M_X0_addSleeper.2.1 59 = .ok (.imul, 1) := by decide +kernel
theorem d_X0_addSleeper_60 : decode M_X0_addSleeper.2.1 60 = .ok (.if_icmp .ge 7, 3) := by decide +kernel
theorem d_X0_addSleeper_63 : decode M_X0_addSleeper.2.1 63 = .ok (.iconst 2, 1) := by decide +kernel
theorem d_X0_addSleeper_64 : decode M_X0_addSleeper.2.1 64 = .ok (.goto 4, 3) := by decide +kernel
theorem d_X0_addSleeper_67 : decode M_X0_addSleeper.2.1 67 = .ok (.iconst 1, 1) := by decide +kernel
theorem d_X0_addSleeper_68 : decode M_X0_addSleeper.2.1 68 = .ok (.iastore, 1) := by decide +kernel
theorem d_X0_addSleeper_69 : decode M_X0_addSleeper.2.1 69 = .ok (.aload_n 0, 1) := by decide +kernel
theorem d_X0_addSleeper_70 : decode M_X0_addSleeper.2.1 70 = .ok (.dup, 1) := by decide +kernel
theorem d_X0_addSleeper_71 : decode M_X0_addSleeper.2.1 71 = .ok (.getfield 27, 3) := by decide +kernel
theorem d_X0_addSleeper_74 : decode M_X0_addSleeper.2.1 74 = .ok (.iconst 1, 1) := by decide +kernel
theorem d_X0_addSleeper_75 : decode M_X0_addSleeper.2.1 75 = .ok (.iadd, 1) := by decide +kernel
theorem d_X0_addSleeper_76 : decode M_X0_addSleeper.2.1 76 = .ok (.putfield 27, 3) := by decide +kernel
theorem d_X0_addSleeper_79 : decode M_X0_addSleeper.2.1 79 = .ok (.return_, 1) := by decide +kernel
set_option maxRecDepth 20000 in
theorem s_X0_addSleeper_0 {d : Nat} {p0 : Int} {p1 : Int} {p2 : Int} {G : Mem} {Q : Int → Mem → Prop}  (h : (0 ≤ (G 6 5) ∧ (G 6 5) < 5) ∧ (∀ G2 : Mem, G2 = st G 8 (G 6 5) p0 → (0 ≤ ((G2 6 5) * 2) ∧ ((G2 6 5) * 2) < 10) ∧ (∀ G4 : Mem, G4 = st G2 9 ((G2 6 5) * 2) p1 → (0 ≤ (((G4 6 5) * 2) + 1) ∧ (((G4 6 5) * 2) + 1) < 10) ∧ (∀ G6 : Mem, G6 = st G4 9 (((G4 6 5) * 2) + 1) p2 → (InR ((G6 11 1) * p2)) ∧ (InR ((G6 11 1) * p1)) ∧ ((((G6 11 1) * p1) ≤ ((G6 11 1) * p2)) → Rn d M_X0_addSleeper zN 68 [(0, (2, 6))] [(0, 1), (0, (G6 6 5)), (2, 10)] G6 Q) ∧ (¬ (((G6 11 1) * p1) ≤ ((G6 11 1) * p2)) → Rn d M_X0_addSleeper zN 68 [(0, (2, 6))] [(0, 2), (0, (G6 6 5)), (2, 10)] G6 Q))))) : Rn d M_X0_addSleeper zN 0 [(0, (2, 6)), (1, (0, p0)), (2, (0, p1)), (3, (0, p2))] [] G Q := by
  refine r_aload_n d_X0_addSleeper_0 0 rfl rfl ?_
  refine r_getL (v := 8) 0 1 1 rfl d_X0_addSleeper_1 fl_X0_15 (by decide) (bs_ob bs_0) (ly_0_1 bs_0).1 (ly_0_1 bs_0).2.1 ?_
  refine r_aload_n d_X0_addSleeper_4 0 rfl rfl ?_
  refine r_getI 0 5 5 rfl d_X0_addSleeper_5 fl_X0_27 (by decide) (bs_ob bs_0) ?_
  refine r_iload_n d_X0_addSleeper_8 1 rfl rfl ?_
  obtain ⟨h1, h⟩ := h
  obtain ⟨G2, eG2⟩ : ∃ y : Mem, y = st G 8 (G 6 5) p0 := ⟨_, rfl⟩
  replace h := h G2 eG2
  refine r_iastore d_X0_addSleeper_9 (ly_0_1 bs_0).2.2 h1 ?_
  rw [← eG2]
  refine r_aload_n d_X0_addSleeper_10 0 rfl rfl ?_
  refine r_getL (v := 9) 0 2 2 rfl d_X0_addSleeper_11 fl_X0_18 (by decide) (bs_ob bs_0) (ly_0_2 bs_0).1 (ly_0_2 bs_0).2.1 ?_
  refine r_aload_n d_X0_addSleeper_14 0 rfl rfl ?_
  refine r_getI 0 5 5 rfl d_X0_addSleeper_15 fl_X0_27 (by decide) (bs_ob bs_0) ?_
  refine r_iconst d_X0_addSleeper_18 ?_
  refine r_imul d_X0_addSleeper_19 ?_
  refine r_iload_n d_X0_addSleeper_20 2 rfl rfl ?_
  obtain ⟨h3, h⟩ := h
  obtain ⟨G4, eG4⟩ : ∃ y : Mem, y = st G2 9 ((G2 6 5) * 2) p1 := ⟨_, rfl⟩
  replace h := h G4 eG4
  refine r_iastore d_X0_addSleeper_21 (ly_0_2 bs_0).2.2 h3 ?_
  rw [← eG4]
  refine r_aload_n d_X0_addSleeper_22 0 rfl rfl ?_
  refine r_getL (v := 9) 0 2 2 rfl d_X0_addSleeper_23 fl_X0_18 (by decide) (bs_ob bs_0) (ly_0_2 bs_0).1 (ly_0_2 bs_0).2.1 ?_
  refine r_aload_n d_X0_addSleeper_26 0 rfl rfl ?_
  refine r_getI 0 5 5 rfl d_X0_addSleeper_27 fl_X0_27 (by decide) (bs_ob bs_0) ?_
  refine r_iconst d_X0_addSleeper_30 ?_
  refine r_imul d_X0_addSleeper_31 ?_
  refine r_iconst d_X0_addSleeper_32 ?_
  refine r_iadd d_X0_addSleeper_33 ?_
  refine r_iload_n d_X0_addSleeper_34 3 rfl rfl ?_
  obtain ⟨h5, h⟩ := h
  obtain ⟨G6, eG6⟩ : ∃ y : Mem, y = st G4 9 (((G4 6 5) * 2) + 1) p2 := ⟨_, rfl⟩
  replace h := h G6 eG6
  refine r_iastore d_X0_addSleeper_35 (ly_0_2 bs_0).2.2 h5 ?_
  rw [← eG6]
  refine r_aload_n d_X0_addSleeper_36 0 rfl rfl ?_
  refine r_getL (v := 10) 0 3 3 rfl d_X0_addSleeper_37 fl_X0_21 (by decide) (bs_ob bs_0) (ly_0_3 bs_0).1 (ly_0_3 bs_0).2.1 ?_
  refine r_aload_n d_X0_addSleeper_40 0 rfl rfl ?_
  refine r_getI 0 5 5 rfl d_X0_addSleeper_41 fl_X0_27 (by decide) (bs_ob bs_0) ?_
  refine r_aload_n d_X0_addSleeper_44 0 rfl rfl ?_
  refine r_getL (v := 11) 0 4 4 rfl d_X0_addSleeper_45 fl_X0_24 (by decide) (bs_ob bs_0) (ly_0_4 bs_0).1 (ly_0_4 bs_0).2.1 ?_
  refine r_iconst d_X0_addSleeper_48 ?_
  refine r_iaload d_X0_addSleeper_49 (ly_0_4 bs_0).2.2 (by decide) ?_
  refine r_iload_n d_X0_addSleeper_50 3 rfl rfl ?_
  refine r_imul d_X0_addSleeper_51 ?_
  refine r_aload_n d_X0_addSleeper_52 0 rfl rfl ?_
  refine r_getL (v := 11) 0 4 4 rfl d_X0_addSleeper_53 fl_X0_24 (by decide) (bs_ob bs_0) (ly_0_4 bs_0).1 (ly_0_4 bs_0).2.1 ?_
  refine r_iconst d_X0_addSleeper_56 ?_
  refine r_iaload d_X0_addSleeper_57 (ly_0_4 bs_0).2.2 (by decide) ?_
  refine r_iload_n d_X0_addSleeper_58 2 rfl rfl ?_
  refine r_imul d_X0_addSleeper_59 ?_
  obtain ⟨h7, h⟩ := h
  obtain ⟨h8, h⟩ := h
  refine r_icmp_ge (tgt := 67) d_X0_addSleeper_60 (by decide) h7 h8 (fun c9 => ?_) (fun c9 => ?_)
  · replace h := h.1 c9
    refine r_iconst d_X0_addSleeper_67 ?_
    exact Rn.sub [0] rfl h
  · replace h := h.2 c9
    refine r_iconst d_X0_addSleeper_63 ?_
    refine r_goto (tgt := 68) d_X0_addSleeper_64 (by decide) ?_
    exact Rn.sub [0] rfl h
set_option maxRecDepth 20000 in
theorem s_X0_addSleeper_68 {d : Nat} {s0 : Int} {s1 : Int} {G : Mem} {Q : Int → Mem → Prop}  (h : (0 ≤ s1 ∧ s1 < 5) ∧ (∀ G2 : Mem, G2 = st G 10 s1 s0 → (∀ G3 : Mem, G3 = st G2 6 5 ((G2 6 5) + 1) → Q 0 G3))) : Rn d M_X0_addSleeper zN 68 [(0, (2, 6))] [(0, s0), (0, s1), (2, 10)] G Q := by
  obtain ⟨h1, h⟩ := h
  obtain ⟨G2, eG2⟩ : ∃ y : Mem, y = st G 10 s1 s0 := ⟨_, rfl⟩
  replace h := h G2 eG2
  refine r_iastore d_X0_addSleeper_68 (ly_0_3 bs_0).2.2 h1 ?_
  rw [← eG2]
  refine r_aload_n d_X0_addSleeper_69 0 rfl rfl ?_
  refine r_dup 2 rfl (by decide) d_X0_addSleeper_70 ?_
  refine r_getI 0 5 5 rfl d_X0_addSleeper_71 fl_X0_27 (by decide) (bs_ob bs_0) ?_
  refine r_iconst d_X0_addSleeper_74 ?_
  refine r_iadd d_X0_addSleeper_75 ?_
  obtain ⟨G3, eG3⟩ : ∃ y : Mem, y = st G2 6 5 ((G2 6 5) + 1) := ⟨_, rfl⟩
  replace h := h G3 eG3
  refine r_putI 0 5 5 rfl d_X0_addSleeper_76 fl_X0_27 (by decide) nofin_0_5 (bs_ob bs_0) ?_
  rw [← eG3]
  exact r_ret d_X0_addSleeper_79 rfl ⟨rfl, Nat.le_refl _, Nat.le_refl _⟩ h
theorem d_X0_wayAt_0 : decode M_X0_wayAt.2.1 0 = .ok (.iload_n 0, 1) := by decide +kernel
theorem d_X0_wayAt_1 : decode M_X0_wayAt.2.1 1 = .ok (.getstatic 73, 3) := by decide +kernel
theorem d_X0_wayAt_4 : decode M_X0_wayAt.2.1 4 = .ok (.iload_n 1, 1) := by decide +kernel
theorem d_X0_wayAt_5 : decode M_X0_wayAt.2.1 5 = .ok (.iaload, 1) := by decide +kernel
theorem d_X0_wayAt_6 : decode M_X0_wayAt.2.1 6 = .ok (.idiv, 1) := by decide +kernel
theorem d_X0_wayAt_7 : decode M_X0_wayAt.2.1 7 = .ok (.iconst 3, 1) := by decide +kernel
theorem d_X0_wayAt_8 : decode M_X0_wayAt.2.1 8 = .ok (.irem, 1) := by decide +kernel
theorem d_X0_wayAt_9 : decode M_X0_wayAt.2.1 9 = .ok (.ireturn, 1) := by decide +kernel
set_option maxRecDepth 20000 in
theorem s_X0_wayAt_0 {d : Nat} {p0 : Int} {p1 : Int} {G : Mem} {Q : Int → Mem → Prop}  (h : (0 ≤ p1 ∧ p1 < 6) ∧ ((InR p0) ∧ (0 < (thr.getD (Int.toNat p1) 0) ∧ InR (thr.getD (Int.toNat p1) 0)) ∧ ((InR (Int.tdiv p0 (thr.getD (Int.toNat p1) 0))) ∧ (Q (Int.tmod (Int.tdiv p0 (thr.getD (Int.toNat p1) 0)) 3) G)))) : Rn d M_X0_wayAt zN 0 [(0, (0, p0)), (1, (0, p1))] [] G Q := by
  refine r_iload_n d_X0_wayAt_0 0 rfl rfl ?_
  refine r_thrN d_X0_wayAt_1 thr_X0_73 ?_
  refine r_iload_n d_X0_wayAt_4 1 rfl rfl ?_
  obtain ⟨h1, h⟩ := h
  refine r_thrld d_X0_wayAt_5 h1 ?_
  obtain ⟨h2, h⟩ := h
  obtain ⟨h3, h⟩ := h
  refine r_idiv d_X0_wayAt_6 h2 h3 ?_
  refine r_iconst d_X0_wayAt_7 ?_
  obtain ⟨h4, h⟩ := h
  refine r_irem d_X0_wayAt_8 h4 ⟨by decide, ⟨by decide, by decide⟩⟩ ?_
  exact r_ireturn d_X0_wayAt_9 rfl ⟨rfl, Nat.le_refl _, Nat.le_refl _⟩ h
theorem d_X0_through_0 : decode M_X0_through.2.1 0 = .ok (.sipush 10000, 3) := by decide +kernel
theorem d_X0_through_3 : decode M_X0_through.2.1 3 = .ok (.istore_n 3, 1) := by decide +kernel
theorem d_X0_through_4 : decode M_X0_through.2.1 4 = .ok (.iconst 0, 1) := by decide +kernel
theorem d_X0_through_5 : decode M_X0_through.2.1 5 = .ok (.istore 4, 2) := by decide +kernel
theorem d_X0_through_7 : decode M_X0_through.2.1 7 = .ok (.iload 4, 2) := by decide +kernel
theorem d_X0_through_9 : decode M_X0_through.2.1 9 = .ok (.aload_n 0, 1) := by decide +kernel
theorem d_X0_through_10 : decode M_X0_through.2.1 10 = .ok (.getfield 27, 3) := by decide +kernel
theorem d_X0_through_13 : decode M_X0_through.2.1 13 = .ok (.if_icmp .ge 70, 3) := by decide +kernel
theorem d_X0_through_16 : decode M_X0_through.2.1 16 = .ok (.iload_n 1, 1) := by decide +kernel
theorem d_X0_through_17 : decode M_X0_through.2.1 17 = .ok (.aload_n 0, 1) := by decide +kernel
theorem d_X0_through_18 : decode M_X0_through.2.1 18 = .ok (.getfield 9, 3) := by decide +kernel
theorem d_X0_through_21 : decode M_X0_through.2.1 21 = .ok (.iload 4, 2) := by decide +kernel
theorem d_X0_through_23 : decode M_X0_through.2.1 23 = .ok (.iaload, 1) := by decide +kernel
theorem d_X0_through_24 : decode M_X0_through.2.1 24 = .ok (.invokestatic 76, 3) := by decide +kernel
theorem d_X0_through_27 : decode M_X0_through.2.1 27 = .ok (.istore 5, 2) := by decide +kernel
theorem d_X0_through_29 : decode M_X0_through.2.1 29 = .ok (.iload 5, 2) := by decide +kernel
theorem d_X0_through_31 : decode M_X0_through.2.1 31 = .ok (.ifCond .ne 19, 3) := by decide +kernel
theorem d_X0_through_34 : decode M_X0_through.2.1 34 = .ok (.iload_n 3, 1) := by decide +kernel
theorem d_X0_through_35 : decode M_X0_through.2.1 35 = .ok (.aload_n 0, 1) := by decide +kernel
theorem d_X0_through_36 : decode M_X0_through.2.1 36 = .ok (.getfield 15, 3) := by decide +kernel
theorem d_X0_through_39 : decode M_X0_through.2.1 39 = .ok (.iload 4, 2) := by decide +kernel
theorem d_X0_through_41 : decode M_X0_through.2.1 41 = .ok (.iaload, 1) := by decide +kernel
theorem d_X0_through_42 : decode M_X0_through.2.1 42 = .ok (.imul, 1) := by decide +kernel
theorem d_X0_through_43 : decode M_X0_through.2.1 43 = .ok (.bipush 10, 2) := by decide +kernel
theorem d_X0_through_45 : decode M_X0_through.2.1 45 = .ok (.idiv, 1) := by decide +kernel
theorem d_X0_through_46 : decode M_X0_through.2.1 46 = .ok (.istore_n 3, 1) := by decide +kernel
theorem d_X0_through_47 : decode M_X0_through.2.1 47 = .ok (.goto 30, 3) := by decide +kernel
theorem d_X0_through_50 : decode M_X0_through.2.1 50 = .ok (.iload_n 2, 1) := by decide +kernel
theorem d_X0_through_51 : decode M_X0_through.2.1 51 = .ok (.ifCond .eq 26, 3) := by decide +kernel
theorem d_X0_through_54 : decode M_X0_through.2.1 54 = .ok (.iload_n 3, 1) := by decide +kernel
theorem d_X0_through_55 : decode M_X0_through.2.1 55 = .ok (.bipush 10, 2) := by decide +kernel
theorem d_X0_through_57 : decode M_X0_through.2.1 57 = .ok (.aload_n 0, 1) := by decide +kernel
theorem d_X0_through_58 : decode M_X0_through.2.1 58 = .ok (.getfield 18, 3) := by decide +kernel
theorem d_X0_through_61 : decode M_X0_through.2.1 61 = .ok (.iload 4, 2) := by decide +kernel
theorem d_X0_through_63 : decode M_X0_through.2.1 63 = .ok (.iconst 2, 1) := by decide +kernel
theorem d_X0_through_64 : decode M_X0_through.2.1 64 = .ok (.imul, 1) := by decide +kernel
theorem d_X0_through_65 : decode M_X0_through.2.1 65 = .ok (.iload 5, 2) := by decide +kernel
theorem d_X0_through_67 : decode M_X0_through.2.1 67 = .ok (.iadd, 1) := by decide +kernel
theorem d_X0_through_68 : decode M_X0_through.2.1 68 = .ok (.iconst 1, 1) := by decide +kernel
theorem d_X0_through_69 : decode M_X0_through.2.1 69 = .ok (.isub, 1) := by decide +kernel
theorem d_X0_through_70 : decode M_X0_through.2.1 70 = .ok (.iaload, 1) := by decide +kernel
theorem d_X0_through_71 : decode M_X0_through.2.1 71 = .ok (.isub, 1) := by decide +kernel
theorem d_X0_through_72 : decode M_X0_through.2.1 72 = .ok (.imul, 1) := by decide +kernel
theorem d_X0_through_73 : decode M_X0_through.2.1 73 = .ok (.bipush 10, 2) := by decide +kernel
theorem d_X0_through_75 : decode M_X0_through.2.1 75 = .ok (.idiv, 1) := by decide +kernel
theorem d_X0_through_76 : decode M_X0_through.2.1 76 = .ok (.istore_n 3, 1) := by decide +kernel
theorem d_X0_through_77 : decode M_X0_through.2.1 77 = .ok (.iinc 4 1, 3) := by decide +kernel
theorem d_X0_through_80 : decode M_X0_through.2.1 80 = .ok (.goto (-73), 3) := by decide +kernel
theorem d_X0_through_83 : decode M_X0_through.2.1 83 = .ok (.iload_n 3, 1) := by decide +kernel
theorem d_X0_through_84 : decode M_X0_through.2.1 84 = .ok (.ireturn, 1) := by decide +kernel
set_option maxRecDepth 20000 in
theorem s_X0_through_0 {d : Nat} {p0 : Int} {p1 : Int} {G : Mem} {Q : Int → Mem → Prop}  (h : Rn d M_X0_through zN 7 [(0, (2, 6)), (1, (0, p0)), (2, (0, p1)), (3, (0, 10000)), (4, (0, 0))] [] G Q) : Rn d M_X0_through zN 0 [(0, (2, 6)), (1, (0, p0)), (2, (0, p1))] [] G Q := by
  refine r_sipush d_X0_through_0 (by decide +kernel) ?_
  refine r_istore_n (ls1 := [(3, (0, 10000)), (0, (2, 6)), (1, (0, p0)), (2, (0, p1))]) d_X0_through_3 rfl (by decide) rfl ?_
  refine r_iconst d_X0_through_4 ?_
  refine r_istore (ls1 := [(4, (0, 0)), (3, (0, 10000)), (0, (2, 6)), (1, (0, p0)), (2, (0, p1))]) d_X0_through_5 (by decide) rfl ?_
  exact Rn.sub [2, 3, 4, 1, 0] rfl h
set_option maxRecDepth 20000 in
theorem s_X0_through_7 {d : Nat} {x1 : Int} {x2 : Int} {x3 : Int} {x4 : Int} {G : Mem} {Q : Int → Mem → Prop}  (h : (InR x4) ∧ (InR (G 6 5)) ∧ (((G 6 5) ≤ x4) → Q x3 G) ∧ (¬ ((G 6 5) ≤ x4) → (0 ≤ x4 ∧ x4 < 5) ∧ (Ct d M_X0_wayAt NT 0 0 (some lay) [(0, x1), (0, (G 7 x4))] G (fun r6 G5 => (InR r6) ∧ ((r6 ≠ 0) → (InR x2) ∧ ((x2 = 0) → Rn (d + 1) M_X0_through zN 7 [(0, (2, 6)), (1, (0, x1)), (2, (0, x2)), (3, (0, x3)), (4, (0, (x4 + 1)))] [] G5 Q) ∧ (¬ (x2 = 0) → (0 ≤ (((x4 * 2) + r6) - 1) ∧ (((x4 * 2) + r6) - 1) < 10) ∧ ((InR (x3 * (10 - (G5 9 (((x4 * 2) + r6) - 1))))) ∧ (Rn (d + 1) M_X0_through zN 7 [(0, (2, 6)), (1, (0, x1)), (2, (0, x2)), (3, (0, (Int.tdiv (x3 * (10 - (G5 9 (((x4 * 2) + r6) - 1)))) 10))), (4, (0, (x4 + 1)))] [] G5 Q)))) ∧ (¬ (r6 ≠ 0) → (InR (x3 * (G5 8 x4))) ∧ (Rn (d + 1) M_X0_through zN 7 [(0, (2, 6)), (1, (0, x1)), (2, (0, x2)), (3, (0, (Int.tdiv (x3 * (G5 8 x4)) 10))), (4, (0, (x4 + 1)))] [] G5 Q)))))) : Rn (d + 1) M_X0_through zN 7 [(0, (2, 6)), (1, (0, x1)), (2, (0, x2)), (3, (0, x3)), (4, (0, x4))] [] G Q := by
  refine r_iload d_X0_through_7 4 rfl ?_
  refine r_aload_n d_X0_through_9 0 rfl rfl ?_
  refine r_getI 0 5 5 rfl d_X0_through_10 fl_X0_27 (by decide) (bs_ob bs_0) ?_
  obtain ⟨h1, h⟩ := h
  obtain ⟨h2, h⟩ := h
  refine r_icmp_ge (tgt := 83) d_X0_through_13 (by decide) h1 h2 (fun c3 => ?_) (fun c3 => ?_)
  · replace h := h.1 c3
    refine r_iload_n d_X0_through_83 3 rfl rfl ?_
    exact r_ireturn d_X0_through_84 rfl ⟨rfl, Nat.le_refl _, Nat.le_refl _⟩ h
  · replace h := h.2 c3
    refine r_iload_n d_X0_through_16 1 rfl rfl ?_
    refine r_aload_n d_X0_through_17 0 rfl rfl ?_
    refine r_getL (v := 7) 0 0 0 rfl d_X0_through_18 fl_X0_9 (by decide) (bs_ob bs_0) (ly_0_0 bs_0).1 (ly_0_0 bs_0).2.1 ?_
    refine r_iload d_X0_through_21 4 rfl ?_
    obtain ⟨h4, h⟩ := h
    refine r_iaload d_X0_through_23 (ly_0_0 bs_0).2.2 h4 ?_
    refine r_callS0 (M' := M_X0_wayAt) [(0, x1), (0, (G 7 x4))] d_X0_through_24 cl_X0_76 rfl (Nat.le_of_ble_eq_true rfl) ?_
    refine Ct.mono h (fun r6 G5 h => ?_)
    show Rn _ M_X0_through zN 27 [(0, (2, 6)), (1, (0, x1)), (2, (0, x2)), (3, (0, x3)), (4, (0, x4))] [(0, r6)] G5 Q
    refine r_istore (ls1 := [(5, (0, r6)), (0, (2, 6)), (1, (0, x1)), (2, (0, x2)), (3, (0, x3)), (4, (0, x4))]) d_X0_through_27 (by decide) rfl ?_
    refine r_iload d_X0_through_29 0 rfl ?_
    obtain ⟨h7, h⟩ := h
    refine r_if_ne (tgt := 50) d_X0_through_31 (by decide) h7 (fun c8 => ?_) (fun c8 => ?_)
    · replace h := h.1 c8
      refine r_iload_n d_X0_through_50 3 rfl rfl ?_
      obtain ⟨h9, h⟩ := h
      refine r_if_eq (tgt := 77) d_X0_through_51 (by decide) h9 (fun c10 => ?_) (fun c10 => ?_)
      · replace h := h.1 c10
        refine r_iinc (ls1 := [(4, (0, (x4 + 1))), (5, (0, r6)), (0, (2, 6)), (1, (0, x1)), (2, (0, x2)), (3, (0, x3))]) d_X0_through_77 5 rfl (by decide) rfl ?_
        refine r_goto (tgt := 7) d_X0_through_80 (by decide) ?_
        exact Rn.sub [2, 3, 4, 5, 0] rfl h
      · replace h := h.2 c10
        refine r_iload_n d_X0_through_54 4 rfl rfl ?_
        refine r_bipush d_X0_through_55 (by decide +kernel) ?_
        refine r_aload_n d_X0_through_57 1 rfl rfl ?_
        refine r_getL (v := 9) 0 2 2 rfl d_X0_through_58 fl_X0_18 (by decide) (bs_ob bs_0) (ly_0_2 bs_0).1 (ly_0_2 bs_0).2.1 ?_
        refine r_iload d_X0_through_61 5 rfl ?_
        refine r_iconst d_X0_through_63 ?_
        refine r_imul d_X0_through_64 ?_
        refine r_iload d_X0_through_65 0 rfl ?_
        refine r_iadd d_X0_through_67 ?_
        refine r_iconst d_X0_through_68 ?_
        refine r_isub d_X0_through_69 ?_
        obtain ⟨h11, h⟩ := h
        refine r_iaload d_X0_through_70 (ly_0_2 bs_0).2.2 h11 ?_
        refine r_isub d_X0_through_71 ?_
        refine r_imul d_X0_through_72 ?_
        refine r_bipush d_X0_through_73 (by decide +kernel) ?_
        obtain ⟨h12, h⟩ := h
        refine r_idiv d_X0_through_75 h12 ⟨by decide, ⟨by decide, by decide⟩⟩ ?_
        refine r_istore_n (ls1 := [(3, (0, (Int.tdiv (x3 * (10 - (G5 9 (((x4 * 2) + r6) - 1)))) 10))), (5, (0, r6)), (0, (2, 6)), (1, (0, x1)), (2, (0, x2)), (4, (0, x4))]) d_X0_through_76 rfl (by decide) rfl ?_
        refine r_iinc (ls1 := [(4, (0, (x4 + 1))), (3, (0, (Int.tdiv (x3 * (10 - (G5 9 (((x4 * 2) + r6) - 1)))) 10))), (5, (0, r6)), (0, (2, 6)), (1, (0, x1)), (2, (0, x2))]) d_X0_through_77 5 rfl (by decide) rfl ?_
        refine r_goto (tgt := 7) d_X0_through_80 (by decide) ?_
        exact Rn.sub [3, 4, 5, 1, 0] rfl h
    · replace h := h.2 c8
      refine r_iload_n d_X0_through_34 4 rfl rfl ?_
      refine r_aload_n d_X0_through_35 1 rfl rfl ?_
      refine r_getL (v := 8) 0 1 1 rfl d_X0_through_36 fl_X0_15 (by decide) (bs_ob bs_0) (ly_0_1 bs_0).1 (ly_0_1 bs_0).2.1 ?_
      refine r_iload d_X0_through_39 5 rfl ?_
      refine r_iaload d_X0_through_41 (ly_0_1 bs_0).2.2 h4 ?_
      refine r_imul d_X0_through_42 ?_
      refine r_bipush d_X0_through_43 (by decide +kernel) ?_
      obtain ⟨h13, h⟩ := h
      refine r_idiv d_X0_through_45 h13 ⟨by decide, ⟨by decide, by decide⟩⟩ ?_
      refine r_istore_n (ls1 := [(3, (0, (Int.tdiv (x3 * (G5 8 x4)) 10))), (5, (0, r6)), (0, (2, 6)), (1, (0, x1)), (2, (0, x2)), (4, (0, x4))]) d_X0_through_46 rfl (by decide) rfl ?_
      refine r_goto (tgt := 77) d_X0_through_47 (by decide) ?_
      refine r_iinc (ls1 := [(4, (0, (x4 + 1))), (3, (0, (Int.tdiv (x3 * (G5 8 x4)) 10))), (5, (0, r6)), (0, (2, 6)), (1, (0, x1)), (2, (0, x2))]) d_X0_through_77 5 rfl (by decide) rfl ?_
      refine r_goto (tgt := 7) d_X0_through_80 (by decide) ?_
      exact Rn.sub [3, 4, 5, 1, 0] rfl h
theorem d_X0_paid_0 : decode M_X0_paid.2.1 0 = .ok (.iconst 0, 1) := by decide +kernel
theorem d_X0_paid_1 : decode M_X0_paid.2.1 1 = .ok (.istore_n 2, 1) := by decide +kernel
theorem d_X0_paid_2 : decode M_X0_paid.2.1 2 = .ok (.iconst 0, 1) := by decide +kernel
theorem d_X0_paid_3 : decode M_X0_paid.2.1 3 = .ok (.istore_n 3, 1) := by decide +kernel
theorem d_X0_paid_4 : decode M_X0_paid.2.1 4 = .ok (.iload_n 3, 1) := by decide +kernel
theorem d_X0_paid_5 : decode M_X0_paid.2.1 5 = .ok (.aload_n 0, 1) := by decide +kernel
theorem d_X0_paid_6 : decode M_X0_paid.2.1 6 = .ok (.getfield 27, 3) := by decide +kernel
theorem d_X0_paid_9 : decode M_X0_paid.2.1 9 = .ok (.if_icmp .ge 66, 3) := by decide +kernel
theorem d_X0_paid_12 : decode M_X0_paid.2.1 12 = .ok (.iload_n 1, 1) := by decide +kernel
theorem d_X0_paid_13 : decode M_X0_paid.2.1 13 = .ok (.aload_n 0, 1) := by decide +kernel
theorem d_X0_paid_14 : decode M_X0_paid.2.1 14 = .ok (.getfield 9, 3) := by decide +kernel
theorem d_X0_paid_17 : decode M_X0_paid.2.1 17 = .ok (.iload_n 3, 1) := by decide +kernel
theorem d_X0_paid_18 : decode M_X0_paid.2.1 18 = .ok (.iaload, 1) := by decide +kernel
theorem d_X0_paid_19 : decode M_X0_paid.2.1 19 = .ok (.invokestatic 76, 3) := by decide +kernel
theorem d_X0_paid_22 : decode M_X0_paid.2.1 22 = .ok (.istore 4, 2) := by decide +kernel
theorem d_X0_paid_24 : decode M_X0_paid.2.1 24 = .ok (.iload_n 2, 1) := by decide +kernel
theorem d_X0_paid_25 : decode M_X0_paid.2.1 25 = .ok (.iload 4, 2) := by decide +kernel
theorem d_X0_paid_27 : decode M_X0_paid.2.1 27 = .ok (.ifCond .ne 16, 3) := by decide +kernel
theorem d_X0_paid_30 : decode M_X0_paid.2.1 30 = .ok (.aload_n 0, 1) := by decide +kernel
theorem d_X0_paid_31 : decode M_X0_paid.2.1 31 = .ok (.getfield 24, 3) := by decide +kernel
theorem d_X0_paid_34 : decode M_X0_paid.2.1 34 = .ok (.iconst 0, 1) := by decide +kernel
theorem d_X0_paid_35 : decode M_X0_paid.2.1 35 = .ok (.iaload, 1) := by decide +kernel
theorem d_X0_paid_36 : decode M_X0_paid.2.1 36 = .ok (.sipush 10000, 3) := by decide +kernel
theorem d_X0_paid_39 : decode M_X0_paid.2.1 39 = .ok (.imul, 1) := by decide +kernel
theorem d_X0_paid_40 : decode M_X0_paid.2.1 40 = .ok (.goto 27, 3) := by decide +kernel
theorem d_X0_paid_43 : decode M_X0_paid.2.1 43 = .ok (.aload_n 0, 1) := by decide +kernel
theorem d_X0_paid_44 : decode M_X0_paid.2.1 44 = .ok (.getfield 24, 3) := by decide +kernel
theorem d_X0_paid_47 : decode M_X0_paid.2.1 47 = .ok (.iconst 1, 1) := by decide +kernel
theorem d_X0_paid_48 : decode M_X0_paid.2.1 48 = .ok (.iaload, 1) := by decide +kernel
theorem d_X0_paid_49 : decode M_X0_paid.2.1 49 = .ok (.aload_n 0, 1) := by decide +kernel
theorem d_X0_paid_50 : decode M_X0_paid.2.1 50 = .ok (.getfield 18, 3) := by decide +kernel
theorem d_X0_paid_53 : decode M_X0_paid.2.1 53 = .ok (.iload_n 3, 1) := by decide +kernel
theorem d_X0_paid_54 : decode M_X0_paid.2.1 54 = .ok (.iconst 2, 1) := by decide +kernel
theorem d_X0_paid_55 : decode M_X0_paid.2.1 55 = .ok (.imul, 1) := by decide +kernel
theorem d_X0_paid_56 : decode M_X0_paid.2.1 56 = .ok (.iload 4, 2) := by decide +kernel
theorem d_X0_paid_58 : decode M_X0_paid.2.1 58 = .ok (.iadd, 1) := by decide +kernel
theorem d_X0_paid_59 : decode M_X0_paid.2.1 59 = .ok (.iconst 1, 1) := by decide +kernel
theorem d_X0_paid_60 : decode M_X0_paid.2.1 60 = .ok (.isub, 1) := by decide +kernel
theorem d_X0_paid_61 : decode M_X0_paid.2.1 61 = .ok (.iaload, 1) := by decide +kernel
theorem d_X0_paid_62 : decode M_X0_paid.2.1 62 = .ok (.imul, 1) := by decide +kernel
theorem d_X0_paid_63 : decode M_X0_paid.2.1 63 = .ok (.sipush 1000, 3) := by decide +kernel
theorem d_X0_paid_66 : decode M_X0_paid.2.1 66 = .ok (.imul, 1) := by decide +kernel
theorem d_X0_paid_67 : decode M_X0_paid.2.1 67 = .ok (.iadd, 1) := by decide +kernel
theorem d_X0_paid_68 : decode M_X0_paid.2.1 68 = .ok (.istore_n 2, 1) := by decide +kernel
theorem d_X0_paid_69 : decode M_X0_paid.2.1 69 = .ok (.iinc 3 1, 3) := by decide +kernel
theorem d_X0_paid_72 : decode M_X0_paid.2.1 72 = .ok (.goto (-68), 3) := by decide +kernel
theorem d_X0_paid_75 : decode M_X0_paid.2.1 75 = .ok (.iload_n 2, 1) := by decide +kernel
theorem d_X0_paid_76 : decode M_X0_paid.2.1 76 = .ok (.ireturn, 1) := by decide +kernel
set_option maxRecDepth 20000 in
theorem s_X0_paid_0 {d : Nat} {p0 : Int} {G : Mem} {Q : Int → Mem → Prop}  (h : Rn d M_X0_paid zN 4 [(0, (2, 6)), (1, (0, p0)), (2, (0, 0)), (3, (0, 0))] [] G Q) : Rn d M_X0_paid zN 0 [(0, (2, 6)), (1, (0, p0))] [] G Q := by
  refine r_iconst d_X0_paid_0 ?_
  refine r_istore_n (ls1 := [(2, (0, 0)), (0, (2, 6)), (1, (0, p0))]) d_X0_paid_1 rfl (by decide) rfl ?_
  refine r_iconst d_X0_paid_2 ?_
  refine r_istore_n (ls1 := [(3, (0, 0)), (2, (0, 0)), (0, (2, 6)), (1, (0, p0))]) d_X0_paid_3 rfl (by decide) rfl ?_
  exact Rn.sub [2, 3, 1, 0] rfl h
set_option maxRecDepth 20000 in
theorem s_X0_paid_4 {d : Nat} {x1 : Int} {x2 : Int} {x3 : Int} {G : Mem} {Q : Int → Mem → Prop}  (h : (InR x3) ∧ (InR (G 6 5)) ∧ (((G 6 5) ≤ x3) → Q x2 G) ∧ (¬ ((G 6 5) ≤ x3) → (0 ≤ x3 ∧ x3 < 5) ∧ (Ct d M_X0_wayAt NT 0 0 (some lay) [(0, x1), (0, (G 7 x3))] G (fun r6 G5 => (InR r6) ∧ ((r6 ≠ 0) → (0 ≤ (((x3 * 2) + r6) - 1) ∧ (((x3 * 2) + r6) - 1) < 10) ∧ (Rn (d + 1) M_X0_paid zN 4 [(0, (2, 6)), (1, (0, x1)), (2, (0, (x2 + (((G5 11 1) * (G5 9 (((x3 * 2) + r6) - 1))) * 1000)))), (3, (0, (x3 + 1)))] [] G5 Q)) ∧ (¬ (r6 ≠ 0) → Rn (d + 1) M_X0_paid zN 4 [(0, (2, 6)), (1, (0, x1)), (2, (0, (x2 + ((G5 11 0) * 10000)))), (3, (0, (x3 + 1)))] [] G5 Q))))) : Rn (d + 1) M_X0_paid zN 4 [(0, (2, 6)), (1, (0, x1)), (2, (0, x2)), (3, (0, x3))] [] G Q := by
  refine r_iload_n d_X0_paid_4 3 rfl rfl ?_
  refine r_aload_n d_X0_paid_5 0 rfl rfl ?_
  refine r_getI 0 5 5 rfl d_X0_paid_6 fl_X0_27 (by decide) (bs_ob bs_0) ?_
  obtain ⟨h1, h⟩ := h
  obtain ⟨h2, h⟩ := h
  refine r_icmp_ge (tgt := 75) d_X0_paid_9 (by decide) h1 h2 (fun c3 => ?_) (fun c3 => ?_)
  · replace h := h.1 c3
    refine r_iload_n d_X0_paid_75 2 rfl rfl ?_
    exact r_ireturn d_X0_paid_76 rfl ⟨rfl, Nat.le_refl _, Nat.le_refl _⟩ h
  · replace h := h.2 c3
    refine r_iload_n d_X0_paid_12 1 rfl rfl ?_
    refine r_aload_n d_X0_paid_13 0 rfl rfl ?_
    refine r_getL (v := 7) 0 0 0 rfl d_X0_paid_14 fl_X0_9 (by decide) (bs_ob bs_0) (ly_0_0 bs_0).1 (ly_0_0 bs_0).2.1 ?_
    refine r_iload_n d_X0_paid_17 3 rfl rfl ?_
    obtain ⟨h4, h⟩ := h
    refine r_iaload d_X0_paid_18 (ly_0_0 bs_0).2.2 h4 ?_
    refine r_callS0 (M' := M_X0_wayAt) [(0, x1), (0, (G 7 x3))] d_X0_paid_19 cl_X0_76 rfl (Nat.le_of_ble_eq_true rfl) ?_
    refine Ct.mono h (fun r6 G5 h => ?_)
    show Rn _ M_X0_paid zN 22 [(0, (2, 6)), (1, (0, x1)), (2, (0, x2)), (3, (0, x3))] [(0, r6)] G5 Q
    refine r_istore (ls1 := [(4, (0, r6)), (0, (2, 6)), (1, (0, x1)), (2, (0, x2)), (3, (0, x3))]) d_X0_paid_22 (by decide) rfl ?_
    refine r_iload_n d_X0_paid_24 3 rfl rfl ?_
    refine r_iload d_X0_paid_25 0 rfl ?_
    obtain ⟨h7, h⟩ := h
    refine r_if_ne (tgt := 43) d_X0_paid_27 (by decide) h7 (fun c8 => ?_) (fun c8 => ?_)
    · replace h := h.1 c8
      refine r_aload_n d_X0_paid_43 1 rfl rfl ?_
      refine r_getL (v := 11) 0 4 4 rfl d_X0_paid_44 fl_X0_24 (by decide) (bs_ob bs_0) (ly_0_4 bs_0).1 (ly_0_4 bs_0).2.1 ?_
      refine r_iconst d_X0_paid_47 ?_
      refine r_iaload d_X0_paid_48 (ly_0_4 bs_0).2.2 (by decide) ?_
      refine r_aload_n d_X0_paid_49 1 rfl rfl ?_
      refine r_getL (v := 9) 0 2 2 rfl d_X0_paid_50 fl_X0_18 (by decide) (bs_ob bs_0) (ly_0_2 bs_0).1 (ly_0_2 bs_0).2.1 ?_
      refine r_iload_n d_X0_paid_53 4 rfl rfl ?_
      refine r_iconst d_X0_paid_54 ?_
      refine r_imul d_X0_paid_55 ?_
      refine r_iload d_X0_paid_56 0 rfl ?_
      refine r_iadd d_X0_paid_58 ?_
      refine r_iconst d_X0_paid_59 ?_
      refine r_isub d_X0_paid_60 ?_
      obtain ⟨h9, h⟩ := h
      refine r_iaload d_X0_paid_61 (ly_0_2 bs_0).2.2 h9 ?_
      refine r_imul d_X0_paid_62 ?_
      refine r_sipush d_X0_paid_63 (by decide +kernel) ?_
      refine r_imul d_X0_paid_66 ?_
      refine r_iadd d_X0_paid_67 ?_
      refine r_istore_n (ls1 := [(2, (0, (x2 + (((G5 11 1) * (G5 9 (((x3 * 2) + r6) - 1))) * 1000)))), (4, (0, r6)), (0, (2, 6)), (1, (0, x1)), (3, (0, x3))]) d_X0_paid_68 rfl (by decide) rfl ?_
      refine r_iinc (ls1 := [(3, (0, (x3 + 1))), (2, (0, (x2 + (((G5 11 1) * (G5 9 (((x3 * 2) + r6) - 1))) * 1000)))), (4, (0, r6)), (0, (2, 6)), (1, (0, x1))]) d_X0_paid_69 4 rfl (by decide) rfl ?_
      refine r_goto (tgt := 4) d_X0_paid_72 (by decide) ?_
      exact Rn.sub [3, 4, 1, 0] rfl h
    · replace h := h.2 c8
      refine r_aload_n d_X0_paid_30 1 rfl rfl ?_
      refine r_getL (v := 11) 0 4 4 rfl d_X0_paid_31 fl_X0_24 (by decide) (bs_ob bs_0) (ly_0_4 bs_0).1 (ly_0_4 bs_0).2.1 ?_
      refine r_iconst d_X0_paid_34 ?_
      refine r_iaload d_X0_paid_35 (ly_0_4 bs_0).2.2 (by decide) ?_
      refine r_sipush d_X0_paid_36 (by decide +kernel) ?_
      refine r_imul d_X0_paid_39 ?_
      refine r_goto (tgt := 67) d_X0_paid_40 (by decide) ?_
      refine r_iadd d_X0_paid_67 ?_
      refine r_istore_n (ls1 := [(2, (0, (x2 + ((G5 11 0) * 10000)))), (4, (0, r6)), (0, (2, 6)), (1, (0, x1)), (3, (0, x3))]) d_X0_paid_68 rfl (by decide) rfl ?_
      refine r_iinc (ls1 := [(3, (0, (x3 + 1))), (2, (0, (x2 + ((G5 11 0) * 10000)))), (4, (0, r6)), (0, (2, 6)), (1, (0, x1))]) d_X0_paid_69 4 rfl (by decide) rfl ?_
      refine r_goto (tgt := 4) d_X0_paid_72 (by decide) ?_
      exact Rn.sub [3, 4, 1, 0] rfl h
theorem d_X0_whole_0 : decode M_X0_whole.2.1 0 = .ok (.aload_n 0, 1) := by decide +kernel
theorem d_X0_whole_1 : decode M_X0_whole.2.1 1 = .ok (.iload_n 1, 1) := by decide +kernel
theorem d_X0_whole_2 : decode M_X0_whole.2.1 2 = .ok (.invokevirtual 80, 3) := by decide +kernel
theorem d_X0_whole_5 : decode M_X0_whole.2.1 5 = .ok (.aload_n 0, 1) := by decide +kernel
theorem d_X0_whole_6 : decode M_X0_whole.2.1 6 = .ok (.getfield 24, 3) := by decide +kernel
theorem d_X0_whole_9 : decode M_X0_whole.2.1 9 = .ok (.iconst 2, 1) := by decide +kernel
theorem d_X0_whole_10 : decode M_X0_whole.2.1 10 = .ok (.iaload, 1) := by decide +kernel
theorem d_X0_whole_11 : decode M_X0_whole.2.1 11 = .ok (.sipush 10000, 3) := by decide +kernel
theorem d_X0_whole_14 : decode M_X0_whole.2.1 14 = .ok (.aload_n 0, 1) := by decide +kernel
theorem d_X0_whole_15 : decode M_X0_whole.2.1 15 = .ok (.iload_n 1, 1) := by decide +kernel
theorem d_X0_whole_16 : decode M_X0_whole.2.1 16 = .ok (.iconst 0, 1) := by decide +kernel
theorem d_X0_whole_17 : decode M_X0_whole.2.1 17 = .ok (.invokevirtual 84, 3) := by decide +kernel
theorem d_X0_whole_20 : decode M_X0_whole.2.1 20 = .ok (.isub, 1) := by decide +kernel
theorem d_X0_whole_21 : decode M_X0_whole.2.1 21 = .ok (.imul, 1) := by decide +kernel
theorem d_X0_whole_22 : decode M_X0_whole.2.1 22 = .ok (.iadd, 1) := by decide +kernel
theorem d_X0_whole_23 : decode M_X0_whole.2.1 23 = .ok (.ireturn, 1) := by decide +kernel
set_option maxRecDepth 20000 in
theorem s_X0_whole_0 {d : Nat} {p0 : Int} {G : Mem} {Q : Int → Mem → Prop}  (h : Ct d M_X0_paid NT 0 0 (some lay) [(2, 6), (0, p0)] G (fun r2 G1 => Ct d M_X0_through NT 0 0 (some lay) [(2, 6), (0, p0), (0, 0)] G1 (fun r4 G3 => Q (r2 + ((G1 11 2) * (10000 - r4))) G3))) : Rn (d + 1) M_X0_whole zN 0 [(0, (2, 6)), (1, (0, p0))] [] G Q := by
  refine r_aload_n d_X0_whole_0 0 rfl rfl ?_
  refine r_iload_n d_X0_whole_1 1 rfl rfl ?_
  refine r_callV0 (M' := M_X0_paid) (ci := 0) [(0, p0)] d_X0_whole_2 cl_X0_80 rfl (Nat.le_of_ble_eq_true rfl) (by decide) rfl (bs_ob bs_0) ?_
  refine Ct.mono h (fun r2 G1 h => ?_)
  show Rn _ M_X0_whole zN 5 [(0, (2, 6)), (1, (0, p0))] [(0, r2)] G1 Q
  refine r_aload_n d_X0_whole_5 0 rfl rfl ?_
  refine r_getL (v := 11) 0 4 4 rfl d_X0_whole_6 fl_X0_24 (by decide) (bs_ob bs_0) (ly_0_4 bs_0).1 (ly_0_4 bs_0).2.1 ?_
  refine r_iconst d_X0_whole_9 ?_
  refine r_iaload d_X0_whole_10 (ly_0_4 bs_0).2.2 (by decide) ?_
  refine r_sipush d_X0_whole_11 (by decide +kernel) ?_
  refine r_aload_n d_X0_whole_14 0 rfl rfl ?_
  refine r_iload_n d_X0_whole_15 1 rfl rfl ?_
  refine r_iconst d_X0_whole_16 ?_
  refine r_callV0 (M' := M_X0_through) (ci := 0) [(0, p0), (0, 0)] d_X0_whole_17 cl_X0_84 rfl (Nat.le_of_ble_eq_true rfl) (by decide) rfl (bs_ob bs_0) ?_
  refine Ct.mono h (fun r4 G3 h => ?_)
  show Rn _ M_X0_whole zN 20 [(0, (2, 6)), (1, (0, p0))] [(0, r4), (0, 10000), (0, (G1 11 2)), (0, r2)] G3 Q
  refine r_isub d_X0_whole_20 ?_
  refine r_imul d_X0_whole_21 ?_
  refine r_iadd d_X0_whole_22 ?_
  exact r_ireturn d_X0_whole_23 rfl ⟨rfl, Nat.le_refl _, Nat.le_refl _⟩ h
theorem d_X0_cheapest_0 : decode M_X0_cheapest.2.1 0 = .ok (.iconst 0, 1) := by decide +kernel
theorem d_X0_cheapest_1 : decode M_X0_cheapest.2.1 1 = .ok (.istore_n 1, 1) := by decide +kernel
theorem d_X0_cheapest_2 : decode M_X0_cheapest.2.1 2 = .ok (.aload_n 0, 1) := by decide +kernel
theorem d_X0_cheapest_3 : decode M_X0_cheapest.2.1 3 = .ok (.iconst 0, 1) := by decide +kernel
theorem d_X0_cheapest_4 : decode M_X0_cheapest.2.1 4 = .ok (.invokevirtual 88, 3) := by decide +kernel
theorem d_X0_cheapest_7 : decode M_X0_cheapest.2.1 7 = .ok (.istore_n 2, 1) := by decide +kernel
theorem d_X0_cheapest_8 : decode M_X0_cheapest.2.1 8 = .ok (.iconst 1, 1) := by decide +kernel
theorem d_X0_cheapest_9 : decode M_X0_cheapest.2.1 9 = .ok (.istore_n 3, 1) := by decide +kernel
theorem d_X0_cheapest_10 : decode M_X0_cheapest.2.1 10 = .ok (.iload_n 3, 1) := by decide +kernel
theorem d_X0_cheapest_11 : decode M_X0_cheapest.2.1 11 = .ok (.iconst 1, 1) := by decide +kernel
theorem d_X0_cheapest_12 : decode M_X0_cheapest.2.1 12 = .ok (.aload_n 0, 1) := by decide +kernel
theorem d_X0_cheapest_13 : decode M_X0_cheapest.2.1 13 = .ok (.getfield 27, 3) := by decide +kernel
theorem d_X0_cheapest_16 : decode M_X0_cheapest.2.1 16 = .ok (.ishl, 1) := by decide +kernel
theorem d_X0_cheapest_17 : decode M_X0_cheapest.2.1 17 = .ok (.if_icmp .ge 36, 3) := by decide +kernel
theorem d_X0_cheapest_20 : decode M_X0_cheapest.2.1 20 = .ok (.aload_n 0, 1) := by decide +kernel
theorem d_X0_cheapest_21 : decode M_X0_cheapest.2.1 21 = .ok (.iload_n 3, 1) := by decide +kernel
theorem d_X0_cheapest_22 : decode M_X0_cheapest.2.1 22 = .ok (.invokevirtual 91, 3) := by decide +kernel
theorem d_X0_cheapest_25 : decode M_X0_cheapest.2.1 25 = .ok (.istore 4, 2) := by decide +kernel
theorem d_X0_cheapest_27 : decode M_X0_cheapest.2.1 27 = .ok (.aload_n 0, 1) := by decide +kernel
theorem d_X0_cheapest_28 : decode M_X0_cheapest.2.1 28 = .ok (.iload 4, 2) := by decide +kernel
theorem d_X0_cheapest_30 : decode M_X0_cheapest.2.1 30 = .ok (.invokevirtual 88, 3) := by decide +kernel
theorem d_X0_cheapest_33 : decode M_X0_cheapest.2.1 33 = .ok (.istore 5, 2) := by decide +kernel
theorem d_X0_cheapest_35 : decode M_X0_cheapest.2.1 35 = .ok (.iload 5, 2) := by decide +kernel
theorem d_X0_cheapest_37 : decode M_X0_cheapest.2.1 37 = .ok (.iload_n 2, 1) := by decide +kernel
theorem d_X0_cheapest_38 : decode M_X0_cheapest.2.1 38 = .ok (.if_icmp .ge 9, 3) := by decide +kernel
theorem d_X0_cheapest_41 : decode M_X0_cheapest.2.1 41 = .ok (.iload 4, 2) := by decide +kernel
theorem d_X0_cheapest_43 : decode M_X0_cheapest.2.1 43 = .ok (.istore_n 1, 1) := by decide +kernel
theorem d_X0_cheapest_44 : decode M_X0_cheapest.2.1 44 = .ok (.iload 5, 2) := by decide +kernel
theorem d_X0_cheapest_46 : decode M_X0_cheapest.2.1 46 = .ok (.istore_n 2, 1) := by decide +kernel
theorem d_X0_cheapest_47 : decode M_X0_cheapest.2.1 47 = .ok (.iinc 3 1, 3) := by decide +kernel
theorem d_X0_cheapest_50 : decode M_X0_cheapest.2.1 50 = .ok (.goto (-40), 3) := by decide +kernel
theorem d_X0_cheapest_53 : decode M_X0_cheapest.2.1 53 = .ok (.iload_n 1, 1) := by decide +kernel
theorem d_X0_cheapest_54 : decode M_X0_cheapest.2.1 54 = .ok (.ireturn, 1) := by decide +kernel
set_option maxRecDepth 20000 in
theorem s_X0_cheapest_0 {d : Nat}  {G : Mem} {Q : Int → Mem → Prop}  (h : Ct d M_X0_whole NT 0 0 (some lay) [(2, 6), (0, 0)] G (fun r2 G1 => Rn (d + 1) M_X0_cheapest zN 10 [(0, (2, 6)), (1, (0, 0)), (2, (0, r2)), (3, (0, 1))] [] G1 Q)) : Rn (d + 1) M_X0_cheapest zN 0 [(0, (2, 6))] [] G Q := by
  refine r_iconst d_X0_cheapest_0 ?_
  refine r_istore_n (ls1 := [(1, (0, 0)), (0, (2, 6))]) d_X0_cheapest_1 rfl (by decide) rfl ?_
  refine r_aload_n d_X0_cheapest_2 1 rfl rfl ?_
  refine r_iconst d_X0_cheapest_3 ?_
  refine r_callV0 (M' := M_X0_whole) (ci := 0) [(0, 0)] d_X0_cheapest_4 cl_X0_88 rfl (Nat.le_of_ble_eq_true rfl) (by decide) rfl (bs_ob bs_0) ?_
  refine Ct.mono h (fun r2 G1 h => ?_)
  show Rn _ M_X0_cheapest zN 7 [(1, (0, 0)), (0, (2, 6))] [(0, r2)] G1 Q
  refine r_istore_n (ls1 := [(2, (0, r2)), (1, (0, 0)), (0, (2, 6))]) d_X0_cheapest_7 rfl (by decide) rfl ?_
  refine r_iconst d_X0_cheapest_8 ?_
  refine r_istore_n (ls1 := [(3, (0, 1)), (2, (0, r2)), (1, (0, 0)), (0, (2, 6))]) d_X0_cheapest_9 rfl (by decide) rfl ?_
  exact Rn.sub [3, 2, 1, 0] rfl h
set_option maxRecDepth 20000 in
theorem s_X0_cheapest_10 {d : Nat} {x1 : Int} {x2 : Int} {x3 : Int} {G : Mem} {Q : Int → Mem → Prop}  (h : (InR x3) ∧ (InR (shlI 1 (G 6 5))) ∧ (((shlI 1 (G 6 5)) ≤ x3) → Q x1 G) ∧ (¬ ((shlI 1 (G 6 5)) ≤ x3) → Ct d M_X0_waysPast NT 0 0 (some lay) [(2, 6), (0, x3)] G (fun r5 G4 => Ct d M_X0_whole NT 0 0 (some lay) [(2, 6), (0, r5)] G4 (fun r7 G6 => (InR r7) ∧ (InR x2) ∧ ((x2 ≤ r7) → Rn (d + 1) M_X0_cheapest zN 10 [(0, (2, 6)), (1, (0, x1)), (2, (0, x2)), (3, (0, (x3 + 1)))] [] G6 Q) ∧ (¬ (x2 ≤ r7) → Rn (d + 1) M_X0_cheapest zN 10 [(0, (2, 6)), (1, (0, r5)), (2, (0, r7)), (3, (0, (x3 + 1)))] [] G6 Q))))) : Rn (d + 1) M_X0_cheapest zN 10 [(0, (2, 6)), (1, (0, x1)), (2, (0, x2)), (3, (0, x3))] [] G Q := by
  refine r_iload_n d_X0_cheapest_10 3 rfl rfl ?_
  refine r_iconst d_X0_cheapest_11 ?_
  refine r_aload_n d_X0_cheapest_12 0 rfl rfl ?_
  refine r_getI 0 5 5 rfl d_X0_cheapest_13 fl_X0_27 (by decide) (bs_ob bs_0) ?_
  refine r_ishl d_X0_cheapest_16 ?_
  obtain ⟨h1, h⟩ := h
  obtain ⟨h2, h⟩ := h
  refine r_icmp_ge (tgt := 53) d_X0_cheapest_17 (by decide) h1 h2 (fun c3 => ?_) (fun c3 => ?_)
  · replace h := h.1 c3
    refine r_iload_n d_X0_cheapest_53 1 rfl rfl ?_
    exact r_ireturn d_X0_cheapest_54 rfl ⟨rfl, Nat.le_refl _, Nat.le_refl _⟩ h
  · replace h := h.2 c3
    refine r_aload_n d_X0_cheapest_20 0 rfl rfl ?_
    refine r_iload_n d_X0_cheapest_21 3 rfl rfl ?_
    refine r_callV0 (M' := M_X0_waysPast) (ci := 0) [(0, x3)] d_X0_cheapest_22 cl_X0_91 rfl (Nat.le_of_ble_eq_true rfl) (by decide) rfl (bs_ob bs_0) ?_
    refine Ct.mono h (fun r5 G4 h => ?_)
    show Rn _ M_X0_cheapest zN 25 [(0, (2, 6)), (1, (0, x1)), (2, (0, x2)), (3, (0, x3))] [(0, r5)] G4 Q
    refine r_istore (ls1 := [(4, (0, r5)), (0, (2, 6)), (1, (0, x1)), (2, (0, x2)), (3, (0, x3))]) d_X0_cheapest_25 (by decide) rfl ?_
    refine r_aload_n d_X0_cheapest_27 1 rfl rfl ?_
    refine r_iload d_X0_cheapest_28 0 rfl ?_
    refine r_callV0 (M' := M_X0_whole) (ci := 0) [(0, r5)] d_X0_cheapest_30 cl_X0_88 rfl (Nat.le_of_ble_eq_true rfl) (by decide) rfl (bs_ob bs_0) ?_
    refine Ct.mono h (fun r7 G6 h => ?_)
    show Rn _ M_X0_cheapest zN 33 [(4, (0, r5)), (0, (2, 6)), (1, (0, x1)), (2, (0, x2)), (3, (0, x3))] [(0, r7)] G6 Q
    refine r_istore (ls1 := [(5, (0, r7)), (4, (0, r5)), (0, (2, 6)), (1, (0, x1)), (2, (0, x2)), (3, (0, x3))]) d_X0_cheapest_33 (by decide) rfl ?_
    refine r_iload d_X0_cheapest_35 0 rfl ?_
    refine r_iload_n d_X0_cheapest_37 4 rfl rfl ?_
    obtain ⟨h8, h⟩ := h
    obtain ⟨h9, h⟩ := h
    refine r_icmp_ge (tgt := 47) d_X0_cheapest_38 (by decide) h8 h9 (fun c10 => ?_) (fun c10 => ?_)
    · replace h := h.1 c10
      refine r_iinc (ls1 := [(3, (0, (x3 + 1))), (5, (0, r7)), (4, (0, r5)), (0, (2, 6)), (1, (0, x1)), (2, (0, x2))]) d_X0_cheapest_47 5 rfl (by decide) rfl ?_
      refine r_goto (tgt := 10) d_X0_cheapest_50 (by decide) ?_
      exact Rn.sub [3, 4, 5, 0] rfl h
    · replace h := h.2 c10
      refine r_iload d_X0_cheapest_41 1 rfl ?_
      refine r_istore_n (ls1 := [(1, (0, r5)), (5, (0, r7)), (4, (0, r5)), (0, (2, 6)), (2, (0, x2)), (3, (0, x3))]) d_X0_cheapest_43 rfl (by decide) rfl ?_
      refine r_iload d_X0_cheapest_44 1 rfl ?_
      refine r_istore_n (ls1 := [(2, (0, r7)), (1, (0, r5)), (5, (0, r7)), (4, (0, r5)), (0, (2, 6)), (3, (0, x3))]) d_X0_cheapest_46 rfl (by decide) rfl ?_
      refine r_iinc (ls1 := [(3, (0, (x3 + 1))), (2, (0, r7)), (1, (0, r5)), (5, (0, r7)), (4, (0, r5)), (0, (2, 6))]) d_X0_cheapest_47 5 rfl (by decide) rfl ?_
      refine r_goto (tgt := 10) d_X0_cheapest_50 (by decide) ?_
      exact Rn.sub [5, 2, 1, 0] rfl h
theorem d_X0_waysPast_0 : decode M_X0_waysPast.2.1 0 = .ok (.iconst 0, 1) := by decide +kernel
theorem d_X0_waysPast_1 : decode M_X0_waysPast.2.1 1 = .ok (.istore_n 2, 1) := by decide +kernel
theorem d_X0_waysPast_2 : decode M_X0_waysPast.2.1 2 = .ok (.iconst 0, 1) := by decide +kernel
theorem d_X0_waysPast_3 : decode M_X0_waysPast.2.1 3 = .ok (.istore_n 3, 1) := by decide +kernel
theorem d_X0_waysPast_4 : decode M_X0_waysPast.2.1 4 = .ok (.iload_n 3, 1) := by decide +kernel
theorem d_X0_waysPast_5 : decode M_X0_waysPast.2.1 5 = .ok (.aload_n 0, 1) := by decide +kernel
theorem d_X0_waysPast_6 : decode M_X0_waysPast.2.1 6 = .ok (.getfield 27, 3) := by decide +kernel
theorem d_X0_waysPast_9 : decode M_X0_waysPast.2.1 9 = .ok (.if_icmp .ge 35, 3) := by decide +kernel
theorem d_X0_waysPast_12 : decode M_X0_waysPast.2.1 12 = .ok (.iload_n 2, 1) := by decide +kernel
theorem d_X0_waysPast_13 : decode M_X0_waysPast.2.1 13 = .ok (.iload_n 1, 1) := by decide +kernel
theorem d_X0_waysPast_14 : decode M_X0_waysPast.2.1 14 = .ok (.iload_n 3, 1) := by decide +kernel
theorem d_X0_waysPast_15 : decode M_X0_waysPast.2.1 15 = .ok (.ishr, 1) := by decide +kernel
theorem d_X0_waysPast_16 : decode M_X0_waysPast.2.1 16 = .ok (.iconst 1, 1) := by decide +kernel
theorem d_X0_waysPast_17 : decode M_X0_waysPast.2.1 17 = .ok (.iand, 1) := by decide +kernel
theorem d_X0_waysPast_18 : decode M_X0_waysPast.2.1 18 = .ok (.aload_n 0, 1) := by decide +kernel
theorem d_X0_waysPast_19 : decode M_X0_waysPast.2.1 19 = .ok (.getfield 21, 3) := by decide +kernel
theorem d_X0_waysPast_22 : decode M_X0_waysPast.2.1 22 = .ok (.iload_n 3, 1) := by decide +kernel
theorem d_X0_waysPast_23 : decode M_X0_waysPast.2.1 23 = .ok (.iaload, 1) := by decide +kernel
theorem d_X0_waysPast_24 : decode M_X0_waysPast.2.1 24 = .ok (.imul, 1) := by decide +kernel
theorem d_X0_waysPast_25 : decode M_X0_waysPast.2.1 25 = .ok (.getstatic 73, 3) := by decide +kernel
theorem d_X0_waysPast_28 : decode M_X0_waysPast.2.1 28 = .ok (.aload_n 0, 1) := by decide +kernel
theorem d_X0_waysPast_29 : decode M_X0_waysPast.2.1 29 = .ok (.getfield 9, 3) := by decide +kernel
theorem d_X0_waysPast_32 : decode M_X0_waysPast.2.1 32 = .ok (.iload_n 3, 1) := by decide +kernel
theorem d_X0_waysPast_33 : decode M_X0_waysPast.2.1 33 = .ok (.iaload, 1) := by decide +kernel
theorem d_X0_waysPast_34 : decode M_X0_waysPast.2.1 34 = .ok (.iaload, 1) := by decide +kernel
theorem d_X0_waysPast_35 : decode M_X0_waysPast.2.1 35 = .ok (.imul, 1) := by decide +kernel
theorem d_X0_waysPast_36 : decode M_X0_waysPast.2.1 36 = .ok (.iadd, 1) := by decide +kernel
theorem d_X0_waysPast_37 : decode M_X0_waysPast.2.1 37 = .ok (.istore_n 2, 1) := by decide +kernel
theorem d_X0_waysPast_38 : decode M_X0_waysPast.2.1 38 = .ok (.iinc 3 1, 3) := by decide +kernel
theorem d_X0_waysPast_41 : decode M_X0_waysPast.2.1 41 = .ok (.goto (-37), 3) := by decide +kernel
theorem d_X0_waysPast_44 : decode M_X0_waysPast.2.1 44 = .ok (.iload_n 2, 1) := by decide +kernel
theorem d_X0_waysPast_45 : decode M_X0_waysPast.2.1 45 = .ok (.ireturn, 1) := by decide +kernel
set_option maxRecDepth 20000 in
theorem s_X0_waysPast_0 {d : Nat} {p0 : Int} {G : Mem} {Q : Int → Mem → Prop}  (h : Rn d M_X0_waysPast zN 4 [(0, (2, 6)), (1, (0, p0)), (2, (0, 0)), (3, (0, 0))] [] G Q) : Rn d M_X0_waysPast zN 0 [(0, (2, 6)), (1, (0, p0))] [] G Q := by
  refine r_iconst d_X0_waysPast_0 ?_
  refine r_istore_n (ls1 := [(2, (0, 0)), (0, (2, 6)), (1, (0, p0))]) d_X0_waysPast_1 rfl (by decide) rfl ?_
  refine r_iconst d_X0_waysPast_2 ?_
  refine r_istore_n (ls1 := [(3, (0, 0)), (2, (0, 0)), (0, (2, 6)), (1, (0, p0))]) d_X0_waysPast_3 rfl (by decide) rfl ?_
  exact Rn.sub [2, 3, 1, 0] rfl h
set_option maxRecDepth 20000 in
theorem s_X0_waysPast_4 {d : Nat} {x1 : Int} {x2 : Int} {x3 : Int} {G : Mem} {Q : Int → Mem → Prop}  (h : (InR x3) ∧ (InR (G 6 5)) ∧ (((G 6 5) ≤ x3) → Q x2 G) ∧ (¬ ((G 6 5) ≤ x3) → (0 ≤ x3 ∧ x3 < 5) ∧ ((0 ≤ (G 7 x3) ∧ (G 7 x3) < 6) ∧ (Rn d M_X0_waysPast zN 4 [(0, (2, 6)), (1, (0, x1)), (2, (0, (x2 + (((andI (shrI x1 x3) 1) * (G 10 x3)) * (thr.getD (Int.toNat (G 7 x3)) 0))))), (3, (0, (x3 + 1)))] [] G Q)))) : Rn d M_X0_waysPast zN 4 [(0, (2, 6)), (1, (0, x1)), (2, (0, x2)), (3, (0, x3))] [] G Q := by
  refine r_iload_n d_X0_waysPast_4 3 rfl rfl ?_
  refine r_aload_n d_X0_waysPast_5 0 rfl rfl ?_
  refine r_getI 0 5 5 rfl d_X0_waysPast_6 fl_X0_27 (by decide) (bs_ob bs_0) ?_
  obtain ⟨h1, h⟩ := h
  obtain ⟨h2, h⟩ := h
  refine r_icmp_ge (tgt := 44) d_X0_waysPast_9 (by decide) h1 h2 (fun c3 => ?_) (fun c3 => ?_)
  · replace h := h.1 c3
    refine r_iload_n d_X0_waysPast_44 2 rfl rfl ?_
    exact r_ireturn d_X0_waysPast_45 rfl ⟨rfl, Nat.le_refl _, Nat.le_refl _⟩ h
  · replace h := h.2 c3
    refine r_iload_n d_X0_waysPast_12 2 rfl rfl ?_
    refine r_iload_n d_X0_waysPast_13 1 rfl rfl ?_
    refine r_iload_n d_X0_waysPast_14 3 rfl rfl ?_
    refine r_ishr d_X0_waysPast_15 ?_
    refine r_iconst d_X0_waysPast_16 ?_
    refine r_iand d_X0_waysPast_17 ?_
    refine r_aload_n d_X0_waysPast_18 0 rfl rfl ?_
    refine r_getL (v := 10) 0 3 3 rfl d_X0_waysPast_19 fl_X0_21 (by decide) (bs_ob bs_0) (ly_0_3 bs_0).1 (ly_0_3 bs_0).2.1 ?_
    refine r_iload_n d_X0_waysPast_22 3 rfl rfl ?_
    obtain ⟨h4, h⟩ := h
    refine r_iaload d_X0_waysPast_23 (ly_0_3 bs_0).2.2 h4 ?_
    refine r_imul d_X0_waysPast_24 ?_
    refine r_thrN d_X0_waysPast_25 thr_X0_73 ?_
    refine r_aload_n d_X0_waysPast_28 0 rfl rfl ?_
    refine r_getL (v := 7) 0 0 0 rfl d_X0_waysPast_29 fl_X0_9 (by decide) (bs_ob bs_0) (ly_0_0 bs_0).1 (ly_0_0 bs_0).2.1 ?_
    refine r_iload_n d_X0_waysPast_32 3 rfl rfl ?_
    refine r_iaload d_X0_waysPast_33 (ly_0_0 bs_0).2.2 h4 ?_
    obtain ⟨h5, h⟩ := h
    refine r_thrld d_X0_waysPast_34 h5 ?_
    refine r_imul d_X0_waysPast_35 ?_
    refine r_iadd d_X0_waysPast_36 ?_
    refine r_istore_n (ls1 := [(2, (0, (x2 + (((andI (shrI x1 x3) 1) * (G 10 x3)) * (thr.getD (Int.toNat (G 7 x3)) 0))))), (0, (2, 6)), (1, (0, x1)), (3, (0, x3))]) d_X0_waysPast_37 rfl (by decide) rfl ?_
    refine r_iinc (ls1 := [(3, (0, (x3 + 1))), (2, (0, (x2 + (((andI (shrI x1 x3) 1) * (G 10 x3)) * (thr.getD (Int.toNat (G 7 x3)) 0))))), (0, (2, 6)), (1, (0, x1))]) d_X0_waysPast_38 3 rfl (by decide) rfl ?_
    refine r_goto (tgt := 4) d_X0_waysPast_41 (by decide) ?_
    exact Rn.sub [2, 3, 1, 0] rfl h
theorem d_X4_byCost_0 : decode M_X4_byCost.2.1 0 = .ok (.aload_n 2, 1) := by decide +kernel
theorem d_X4_byCost_1 : decode M_X4_byCost.2.1 1 = .ok (.getfield 31, 3) := by decide +kernel
theorem d_X4_byCost_4 : decode M_X4_byCost.2.1 4 = .ok (.istore 5, 2) := by decide +kernel
theorem d_X4_byCost_6 : decode M_X4_byCost.2.1 6 = .ok (.iload 5, 2) := by decide +kernel
theorem d_X4_byCost_8 : decode M_X4_byCost.2.1 8 = .ok (.aload_n 1, 1) := by decide +kernel
theorem d_X4_byCost_9 : decode M_X4_byCost.2.1 9 = .ok (.getfield 37, 3) := by decide +kernel
theorem d_X4_byCost_12 : decode M_X4_byCost.2.1 12 = .ok (.if_icmp .ge 58, 3) := by decide +kernel
theorem d_X4_byCost_15 : decode M_X4_byCost.2.1 15 = .ok (.aload 4, 2) := by decide +kernel
theorem d_X4_byCost_17 : decode M_X4_byCost.2.1 17 = .ok (.aload_n 1, 1) := by decide +kernel
theorem d_X4_byCost_18 : decode M_X4_byCost.2.1 18 = .ok (.aload_n 2, 1) := by decide +kernel
theorem d_X4_byCost_19 : decode M_X4_byCost.2.1 19 = .ok (.iload_n 3, 1) := by decide +kernel
theorem d_X4_byCost_20 : decode M_X4_byCost.2.1 20 = .ok (.iload 5, 2) := by decide +kernel
theorem d_X4_byCost_22 : decode M_X4_byCost.2.1 22 = .ok (.invokevirtual 42, 3) := by decide +kernel
theorem d_X4_byCost_25 : decode M_X4_byCost.2.1 25 = .ok (.aload 4, 2) := by decide +kernel
theorem d_X4_byCost_27 : decode M_X4_byCost.2.1 27 = .ok (.invokevirtual 48, 3) := by decide +kernel
theorem d_X4_byCost_30 : decode M_X4_byCost.2.1 30 = .ok (.istore 6, 2) := by decide +kernel
theorem d_X4_byCost_32 : decode M_X4_byCost.2.1 32 = .ok (.aload_n 0, 1) := by decide +kernel
theorem d_X4_byCost_33 : decode M_X4_byCost.2.1 33 = .ok (.getfield 15, 3) := by decide +kernel
theorem d_X4_byCost_36 : decode M_X4_byCost.2.1 36 = .ok (.iload 5, 2) := by decide +kernel
theorem d_X4_byCost_38 : decode M_X4_byCost.2.1 38 = .ok (.aload 4, 2) := by decide +kernel
theorem d_X4_byCost_40 : decode M_X4_byCost.2.1 40 = .ok (.iload 6, 2) := by decide +kernel
theorem d_X4_byCost_42 : decode M_X4_byCost.2.1 42 = .ok (.invokevirtual 52, 3) := by decide +kernel
theorem d_X4_byCost_45 : decode M_X4_byCost.2.1 45 = .ok (.bipush 10, 2) := by decide +kernel
theorem d_X4_byCost_47 : decode M_X4_byCost.2.1 47 = .ok (.idiv, 1) := by decide +kernel
theorem d_X4_byCost_48 : decode M_X4_byCost.2.1 48 = .ok (.iastore, 1) := by decide +kernel
theorem d_X4_byCost_49 : decode M_X4_byCost.2.1 49 = .ok (.aload_n 0, 1) := by decide +kernel
theorem d_X4_byCost_50 : decode M_X4_byCost.2.1 50 = .ok (.getfield 19, 3) := by decide +kernel
theorem d_X4_byCost_53 : decode M_X4_byCost.2.1 53 = .ok (.iload 5, 2) := by decide +kernel
theorem d_X4_byCost_55 : decode M_X4_byCost.2.1 55 = .ok (.aload 4, 2) := by decide +kernel
theorem d_X4_byCost_57 : decode M_X4_byCost.2.1 57 = .ok (.iload 6, 2) := by decide +kernel
theorem d_X4_byCost_59 : decode M_X4_byCost.2.1 59 = .ok (.iconst 0, 1) := by decide +kernel
theorem d_X4_byCost_60 : decode M_X4_byCost.2.1 60 = .ok (.invokevirtual 55, 3) := by decide +kernel
theorem d_X4_byCost_63 : decode M_X4_byCost.2.1 63 = .ok (.iastore, 1) := by decide +kernel
theorem d_X4_byCost_64 : decode M_X4_byCost.2.1 64 = .ok (.iinc 5 1, 3) := by decide +kernel
theorem d_X4_byCost_67 : decode M_X4_byCost.2.1 67 = .ok (.goto (-61), 3) := by decide +kernel
theorem d_X4_byCost_70 : decode M_X4_byCost.2.1 70 = .ok (.aload_n 0, 1) := by decide +kernel
theorem d_X4_byCost_71 : decode M_X4_byCost.2.1 71 = .ok (.aload_n 1, 1) := by decide +kernel
theorem d_X4_byCost_72 : decode M_X4_byCost.2.1 72 = .ok (.aload_n 2, 1) := by decide +kernel
theorem d_X4_byCost_73 : decode M_X4_byCost.2.1 73 = .ok (.iload_n 3, 1) := by decide +kernel
theorem d_X4_byCost_74 : decode M_X4_byCost.2.1 74 = .ok (.sipush 1000, 3) := by decide +kernel
theorem d_X4_byCost_77 : decode M_X4_byCost.2.1 77 = .ok (.aload_n 1, 1) := by decide +kernel
theorem d_X4_byCost_78 : decode M_X4_byCost.2.1 78 = .ok (.getfield 59, 3) := by decide +kernel
theorem d_X4_byCost_81 : decode M_X4_byCost.2.1 81 = .ok (.iconst 2, 1) := by decide +kernel
theorem d_X4_byCost_82 : decode M_X4_byCost.2.1 82 = .ok (.iaload, 1) := by decide +kernel
theorem d_X4_byCost_83 : decode M_X4_byCost.2.1 83 = .ok (.imul, 1) := by decide +kernel
theorem d_X4_byCost_84 : decode M_X4_byCost.2.1 84 = .ok (.invokevirtual 62, 3) := by decide +kernel
theorem d_X4_byCost_87 : decode M_X4_byCost.2.1 87 = .ok (.return_, 1) := by decide +kernel
set_option maxRecDepth 20000 in
theorem s_X4_byCost_0 {d : Nat} {p0 : Int} {p1 : Int} {p2 : Int} {G : Mem} {Q : Int → Mem → Prop} (bp0 : Bs 1 p0) (bp1 : Bs 8 p1) (h : Rn d M_X4_byCost zN 6 [(0, (2, 12)), (1, (2, p0)), (2, (2, p1)), (3, (0, p2)), (4, (2, 6)), (5, (0, (G p1 7)))] [] G Q) : Rn d M_X4_byCost zN 0 [(0, (2, 12)), (1, (2, p0)), (2, (2, p1)), (3, (0, p2)), (4, (2, 6))] [] G Q := by
  refine r_aload_n d_X4_byCost_0 2 rfl rfl ?_
  refine r_getI 8 7 7 rfl d_X4_byCost_1 fl_X4_31 (by decide) (bs_ob bp1) ?_
  refine r_istore (ls1 := [(5, (0, (G p1 7))), (0, (2, 12)), (1, (2, p0)), (2, (2, p1)), (3, (0, p2)), (4, (2, 6))]) d_X4_byCost_4 (by decide) rfl ?_
  exact Rn.sub [1, 2, 3, 4, 5, 0] rfl h
set_option maxRecDepth 20000 in
theorem s_X4_byCost_6 {d : Nat} {x1 : Int} {x2 : Int} {x3 : Int} {x5 : Int} {G : Mem} {Q : Int → Mem → Prop} (bx1 : Bs 1 x1) (bx2 : Bs 8 x2) (h : (InR x5) ∧ (InR (G x1 7)) ∧ (((G x1 7) ≤ x5) → Ct d M_X4_plan NT 0 0 (some lay) [(2, 12), (2, x1), (2, x2), (0, x3), (0, (1000 * (G (x1 + 5) 2)))] G (fun r5 G4 => Q 0 G4)) ∧ (¬ ((G x1 7) ≤ x5) → Ct d M_X0_look NT 0 0 (some lay) [(2, 6), (2, x1), (2, x2), (0, x3), (0, x5)] G (fun r7 G6 => Ct d M_X0_cheapest NT 0 0 (some lay) [(2, 6)] G6 (fun r9 G8 => Ct d M_X0_paid NT 0 0 (some lay) [(2, 6), (0, r9)] G8 (fun r11 G10 => (InR r11) ∧ ((0 ≤ x5 ∧ x5 < 73) ∧ (∀ G14 : Mem, G14 = st G10 14 x5 (Int.tdiv r11 10) → Ct d M_X0_through NT 0 0 (some lay) [(2, 6), (0, r9), (0, 0)] G14 (fun r16 G15 => (∀ G17 : Mem, G17 = st G15 15 x5 r16 → Rn (d + 1) M_X4_byCost zN 6 [(0, (2, 12)), (1, (2, x1)), (2, (2, x2)), (3, (0, x3)), (4, (2, 6)), (5, (0, (x5 + 1)))] [] G17 Q))))))))) : Rn (d + 1) M_X4_byCost zN 6 [(0, (2, 12)), (1, (2, x1)), (2, (2, x2)), (3, (0, x3)), (4, (2, 6)), (5, (0, x5))] [] G Q := by
  refine r_iload d_X4_byCost_6 5 rfl ?_
  refine r_aload_n d_X4_byCost_8 1 rfl rfl ?_
  refine r_getI 1 7 7 rfl d_X4_byCost_9 fl_X4_37 (by decide) (bs_ob bx1) ?_
  obtain ⟨h1, h⟩ := h
  obtain ⟨h2, h⟩ := h
  refine r_icmp_ge (tgt := 70) d_X4_byCost_12 (by decide) h1 h2 (fun c3 => ?_) (fun c3 => ?_)
  · replace h := h.1 c3
    refine r_aload_n d_X4_byCost_70 0 rfl rfl ?_
    refine r_aload_n d_X4_byCost_71 1 rfl rfl ?_
    refine r_aload_n d_X4_byCost_72 2 rfl rfl ?_
    refine r_iload_n d_X4_byCost_73 3 rfl rfl ?_
    refine r_sipush d_X4_byCost_74 (by decide +kernel) ?_
    refine r_aload_n d_X4_byCost_77 1 rfl rfl ?_
    refine r_getL (v := (x1 + 5)) 1 4 4 rfl d_X4_byCost_78 fl_X4_59 (by decide) (bs_ob bx1) (ly_1_4 bx1).1 (ly_1_4 bx1).2.1 ?_
    refine r_iconst d_X4_byCost_81 ?_
    refine r_iaload d_X4_byCost_82 (ly_1_4 bx1).2.2 (by decide) ?_
    refine r_imul d_X4_byCost_83 ?_
    refine r_callV0 (M' := M_X4_plan) (ci := 4) [(2, x1), (2, x2), (0, x3), (0, (1000 * (G (x1 + 5) 2)))] d_X4_byCost_84 cl_X4_62 rfl (Nat.le_of_ble_eq_true rfl) (by decide) rfl (bs_ob bs_4) ?_
    refine Ct.mono h (fun r5 G4 h => ?_)
    show Rn _ M_X4_byCost zN 87 [(0, (2, 12)), (1, (2, x1)), (2, (2, x2)), (3, (0, x3)), (4, (2, 6)), (5, (0, x5))] [] G4 Q
    exact r_ret d_X4_byCost_87 rfl ⟨rfl, Nat.le_refl _, Nat.le_refl _⟩ h
  · replace h := h.2 c3
    refine r_aload d_X4_byCost_15 4 rfl ?_
    refine r_aload_n d_X4_byCost_17 1 rfl rfl ?_
    refine r_aload_n d_X4_byCost_18 2 rfl rfl ?_
    refine r_iload_n d_X4_byCost_19 3 rfl rfl ?_
    refine r_iload d_X4_byCost_20 5 rfl ?_
    refine r_callV0 (M' := M_X0_look) (ci := 0) [(2, x1), (2, x2), (0, x3), (0, x5)] d_X4_byCost_22 cl_X4_42 rfl (Nat.le_of_ble_eq_true rfl) (by decide) rfl (bs_ob bs_0) ?_
    refine Ct.mono h (fun r7 G6 h => ?_)
    show Rn _ M_X4_byCost zN 25 [(0, (2, 12)), (1, (2, x1)), (2, (2, x2)), (3, (0, x3)), (4, (2, 6)), (5, (0, x5))] [] G6 Q
    refine r_aload d_X4_byCost_25 4 rfl ?_
    refine r_callV0 (M' := M_X0_cheapest) (ci := 0) [] d_X4_byCost_27 cl_X4_48 rfl (Nat.le_of_ble_eq_true rfl) (by decide) rfl (bs_ob bs_0) ?_
    refine Ct.mono h (fun r9 G8 h => ?_)
    show Rn _ M_X4_byCost zN 30 [(0, (2, 12)), (1, (2, x1)), (2, (2, x2)), (3, (0, x3)), (4, (2, 6)), (5, (0, x5))] [(0, r9)] G8 Q
    refine r_istore (ls1 := [(6, (0, r9)), (0, (2, 12)), (1, (2, x1)), (2, (2, x2)), (3, (0, x3)), (4, (2, 6)), (5, (0, x5))]) d_X4_byCost_30 (by decide) rfl ?_
    refine r_aload_n d_X4_byCost_32 1 rfl rfl ?_
    refine r_getL (v := 14) 4 3 3 rfl d_X4_byCost_33 fl_X4_15 (by decide) (bs_ob bs_4) (ly_4_3 bs_4).1 (ly_4_3 bs_4).2.1 ?_
    refine r_iload d_X4_byCost_36 6 rfl ?_
    refine r_aload d_X4_byCost_38 5 rfl ?_
    refine r_iload d_X4_byCost_40 0 rfl ?_
    refine r_callV0 (M' := M_X0_paid) (ci := 0) [(0, r9)] d_X4_byCost_42 cl_X4_52 rfl (Nat.le_of_ble_eq_true rfl) (by decide) rfl (bs_ob bs_0) ?_
    refine Ct.mono h (fun r11 G10 h => ?_)
    show Rn _ M_X4_byCost zN 45 [(6, (0, r9)), (0, (2, 12)), (1, (2, x1)), (2, (2, x2)), (3, (0, x3)), (4, (2, 6)), (5, (0, x5))] [(0, r11), (0, x5), (2, 14)] G10 Q
    refine r_bipush d_X4_byCost_45 (by decide +kernel) ?_
    obtain ⟨h12, h⟩ := h
    refine r_idiv d_X4_byCost_47 h12 ⟨by decide, ⟨by decide, by decide⟩⟩ ?_
    obtain ⟨h13, h⟩ := h
    obtain ⟨G14, eG14⟩ : ∃ y : Mem, y = st G10 14 x5 (Int.tdiv r11 10) := ⟨_, rfl⟩
    replace h := h G14 eG14
    refine r_iastore d_X4_byCost_48 (ly_4_3 bs_4).2.2 h13 ?_
    rw [← eG14]
    refine r_aload_n d_X4_byCost_49 1 rfl rfl ?_
    refine r_getL (v := 15) 4 4 4 rfl d_X4_byCost_50 fl_X4_19 (by decide) (bs_ob bs_4) (ly_4_4 bs_4).1 (ly_4_4 bs_4).2.1 ?_
    refine r_iload d_X4_byCost_53 6 rfl ?_
    refine r_aload d_X4_byCost_55 5 rfl ?_
    refine r_iload d_X4_byCost_57 0 rfl ?_
    refine r_iconst d_X4_byCost_59 ?_
    refine r_callV0 (M' := M_X0_through) (ci := 0) [(0, r9), (0, 0)] d_X4_byCost_60 cl_X4_55 rfl (Nat.le_of_ble_eq_true rfl) (by decide) rfl (bs_ob bs_0) ?_
    refine Ct.mono h (fun r16 G15 h => ?_)
    show Rn _ M_X4_byCost zN 63 [(6, (0, r9)), (0, (2, 12)), (1, (2, x1)), (2, (2, x2)), (3, (0, x3)), (4, (2, 6)), (5, (0, x5))] [(0, r16), (0, x5), (2, 15)] G15 Q
    obtain ⟨G17, eG17⟩ : ∃ y : Mem, y = st G15 15 x5 r16 := ⟨_, rfl⟩
    replace h := h G17 eG17
    refine r_iastore d_X4_byCost_63 (ly_4_4 bs_4).2.2 h13 ?_
    rw [← eG17]
    refine r_iinc (ls1 := [(5, (0, (x5 + 1))), (6, (0, r9)), (0, (2, 12)), (1, (2, x1)), (2, (2, x2)), (3, (0, x3)), (4, (2, 6))]) d_X4_byCost_64 6 rfl (by decide) rfl ?_
    refine r_goto (tgt := 6) d_X4_byCost_67 (by decide) ?_
    exact Rn.sub [2, 3, 4, 5, 6, 0] rfl h
theorem d_X4_byWakings_0 : decode M_X4_byWakings.2.1 0 = .ok (.aload_n 2, 1) := by decide +kernel
theorem d_X4_byWakings_1 : decode M_X4_byWakings.2.1 1 = .ok (.getfield 31, 3) := by decide +kernel
theorem d_X4_byWakings_4 : decode M_X4_byWakings.2.1 4 = .ok (.istore 5, 2) := by decide +kernel
theorem d_X4_byWakings_6 : decode M_X4_byWakings.2.1 6 = .ok (.iload 5, 2) := by decide +kernel
theorem d_X4_byWakings_8 : decode M_X4_byWakings.2.1 8 = .ok (.aload_n 1, 1) := by decide +kernel
theorem d_X4_byWakings_9 : decode M_X4_byWakings.2.1 9 = .ok (.getfield 37, 3) := by decide +kernel
theorem d_X4_byWakings_12 : decode M_X4_byWakings.2.1 12 = .ok (.if_icmp .ge 41, 3) := by decide +kernel
theorem d_X4_byWakings_15 : decode M_X4_byWakings.2.1 15 = .ok (.aload 4, 2) := by decide +kernel
theorem d_X4_byWakings_17 : decode M_X4_byWakings.2.1 17 = .ok (.aload_n 1, 1) := by decide +kernel
theorem d_X4_byWakings_18 : decode M_X4_byWakings.2.1 18 = .ok (.aload_n 2, 1) := by decide +kernel
theorem d_X4_byWakings_19 : decode M_X4_byWakings.2.1 19 = .ok (.iload_n 3, 1) := by decide +kernel
theorem d_X4_byWakings_20 : decode M_X4_byWakings.2.1 20 = .ok (.iload 5, 2) := by decide +kernel
theorem d_X4_byWakings_22 : decode M_X4_byWakings.2.1 22 = .ok (.invokevirtual 42, 3) := by decide +kernel
theorem d_X4_byWakings_25 : decode M_X4_byWakings.2.1 25 = .ok (.aload_n 0, 1) := by decide +kernel
theorem d_X4_byWakings_26 : decode M_X4_byWakings.2.1 26 = .ok (.getfield 15, 3) := by decide +kernel
theorem d_X4_byWakings_29 : decode M_X4_byWakings.2.1 29 = .ok (.iload 5, 2) := by decide +kernel
theorem d_X4_byWakings_31 : decode M_X4_byWakings.2.1 31 = .ok (.aload 4, 2) := by decide +kernel
theorem d_X4_byWakings_33 : decode M_X4_byWakings.2.1 33 = .ok (.getfield 65, 3) := by decide +kernel
theorem d_X4_byWakings_36 : decode M_X4_byWakings.2.1 36 = .ok (.iastore, 1) := by decide +kernel
theorem d_X4_byWakings_37 : decode M_X4_byWakings.2.1 37 = .ok (.aload_n 0, 1) := by decide +kernel
theorem d_X4_byWakings_38 : decode M_X4_byWakings.2.1 38 = .ok (.getfield 19, 3) := by decide +kernel
theorem d_X4_byWakings_41 : decode M_X4_byWakings.2.1 41 = .ok (.iload 5, 2) := by decide +kernel
theorem d_X4_byWakings_43 : decode M_X4_byWakings.2.1 43 = .ok (.sipush 10000, 3) := by decide +kernel
theorem d_X4_byWakings_46 : decode M_X4_byWakings.2.1 46 = .ok (.iastore, 1) := by decide +kernel
theorem d_X4_byWakings_47 : decode M_X4_byWakings.2.1 47 = .ok (.iinc 5 1, 3) := by decide +kernel
theorem d_X4_byWakings_50 : decode M_X4_byWakings.2.1 50 = .ok (.goto (-44), 3) := by decide +kernel
theorem d_X4_byWakings_53 : decode M_X4_byWakings.2.1 53 = .ok (.aload_n 0, 1) := by decide +kernel
theorem d_X4_byWakings_54 : decode M_X4_byWakings.2.1 54 = .ok (.aload_n 1, 1) := by decide +kernel
theorem d_X4_byWakings_55 : decode M_X4_byWakings.2.1 55 = .ok (.aload_n 2, 1) := by decide +kernel
theorem d_X4_byWakings_56 : decode M_X4_byWakings.2.1 56 = .ok (.iload_n 3, 1) := by decide +kernel
theorem d_X4_byWakings_57 : decode M_X4_byWakings.2.1 57 = .ok (.ldc 68, 2) := by decide +kernel
theorem d_X4_byWakings_59 : decode M_X4_byWakings.2.1 59 = .ok (.invokevirtual 62, 3) := by decide +kernel
theorem d_X4_byWakings_62 : decode M_X4_byWakings.2.1 62 = .ok (.return_, 1) := by decide +kernel
set_option maxRecDepth 20000 in
theorem s_X4_byWakings_0 {d : Nat} {p0 : Int} {p1 : Int} {p2 : Int} {G : Mem} {Q : Int → Mem → Prop} (bp0 : Bs 1 p0) (bp1 : Bs 8 p1) (h : Rn d M_X4_byWakings zN 6 [(0, (2, 12)), (1, (2, p0)), (2, (2, p1)), (3, (0, p2)), (4, (2, 6)), (5, (0, (G p1 7)))] [] G Q) : Rn d M_X4_byWakings zN 0 [(0, (2, 12)), (1, (2, p0)), (2, (2, p1)), (3, (0, p2)), (4, (2, 6))] [] G Q := by
  refine r_aload_n d_X4_byWakings_0 2 rfl rfl ?_
  refine r_getI 8 7 7 rfl d_X4_byWakings_1 fl_X4_31 (by decide) (bs_ob bp1) ?_
  refine r_istore (ls1 := [(5, (0, (G p1 7))), (0, (2, 12)), (1, (2, p0)), (2, (2, p1)), (3, (0, p2)), (4, (2, 6))]) d_X4_byWakings_4 (by decide) rfl ?_
  exact Rn.sub [1, 2, 3, 4, 5, 0] rfl h
set_option maxRecDepth 20000 in
theorem s_X4_byWakings_6 {d : Nat} {x1 : Int} {x2 : Int} {x3 : Int} {x5 : Int} {G : Mem} {Q : Int → Mem → Prop} (bx1 : Bs 1 x1) (bx2 : Bs 8 x2) (h : (InR x5) ∧ (InR (G x1 7)) ∧ (((G x1 7) ≤ x5) → Ct d M_X4_plan NT 0 0 (some lay) [(2, 12), (2, x1), (2, x2), (0, x3), (0, 1000000)] G (fun r5 G4 => Q 0 G4)) ∧ (¬ ((G x1 7) ≤ x5) → Ct d M_X0_look NT 0 0 (some lay) [(2, 6), (2, x1), (2, x2), (0, x3), (0, x5)] G (fun r7 G6 => (0 ≤ x5 ∧ x5 < 73) ∧ (∀ G9 : Mem, G9 = st G6 14 x5 (G6 6 5) → (∀ G10 : Mem, G10 = st G9 15 x5 10000 → Rn (d + 1) M_X4_byWakings zN 6 [(0, (2, 12)), (1, (2, x1)), (2, (2, x2)), (3, (0, x3)), (4, (2, 6)), (5, (0, (x5 + 1)))] [] G10 Q))))) : Rn (d + 1) M_X4_byWakings zN 6 [(0, (2, 12)), (1, (2, x1)), (2, (2, x2)), (3, (0, x3)), (4, (2, 6)), (5, (0, x5))] [] G Q := by
  refine r_iload d_X4_byWakings_6 5 rfl ?_
  refine r_aload_n d_X4_byWakings_8 1 rfl rfl ?_
  refine r_getI 1 7 7 rfl d_X4_byWakings_9 fl_X4_37 (by decide) (bs_ob bx1) ?_
  obtain ⟨h1, h⟩ := h
  obtain ⟨h2, h⟩ := h
  refine r_icmp_ge (tgt := 53) d_X4_byWakings_12 (by decide) h1 h2 (fun c3 => ?_) (fun c3 => ?_)
  · replace h := h.1 c3
    refine r_aload_n d_X4_byWakings_53 0 rfl rfl ?_
    refine r_aload_n d_X4_byWakings_54 1 rfl rfl ?_
    refine r_aload_n d_X4_byWakings_55 2 rfl rfl ?_
    refine r_iload_n d_X4_byWakings_56 3 rfl rfl ?_
    refine r_ldc (x := 1000000) d_X4_byWakings_57 cst_X4_68 ?_
    refine r_callV0 (M' := M_X4_plan) (ci := 4) [(2, x1), (2, x2), (0, x3), (0, 1000000)] d_X4_byWakings_59 cl_X4_62 rfl (Nat.le_of_ble_eq_true rfl) (by decide) rfl (bs_ob bs_4) ?_
    refine Ct.mono h (fun r5 G4 h => ?_)
    show Rn _ M_X4_byWakings zN 62 [(0, (2, 12)), (1, (2, x1)), (2, (2, x2)), (3, (0, x3)), (4, (2, 6)), (5, (0, x5))] [] G4 Q
    exact r_ret d_X4_byWakings_62 rfl ⟨rfl, Nat.le_refl _, Nat.le_refl _⟩ h
  · replace h := h.2 c3
    refine r_aload d_X4_byWakings_15 4 rfl ?_
    refine r_aload_n d_X4_byWakings_17 1 rfl rfl ?_
    refine r_aload_n d_X4_byWakings_18 2 rfl rfl ?_
    refine r_iload_n d_X4_byWakings_19 3 rfl rfl ?_
    refine r_iload d_X4_byWakings_20 5 rfl ?_
    refine r_callV0 (M' := M_X0_look) (ci := 0) [(2, x1), (2, x2), (0, x3), (0, x5)] d_X4_byWakings_22 cl_X4_42 rfl (Nat.le_of_ble_eq_true rfl) (by decide) rfl (bs_ob bs_0) ?_
    refine Ct.mono h (fun r7 G6 h => ?_)
    show Rn _ M_X4_byWakings zN 25 [(0, (2, 12)), (1, (2, x1)), (2, (2, x2)), (3, (0, x3)), (4, (2, 6)), (5, (0, x5))] [] G6 Q
    refine r_aload_n d_X4_byWakings_25 0 rfl rfl ?_
    refine r_getL (v := 14) 4 3 3 rfl d_X4_byWakings_26 fl_X4_15 (by decide) (bs_ob bs_4) (ly_4_3 bs_4).1 (ly_4_3 bs_4).2.1 ?_
    refine r_iload d_X4_byWakings_29 5 rfl ?_
    refine r_aload d_X4_byWakings_31 4 rfl ?_
    refine r_getI 0 5 5 rfl d_X4_byWakings_33 fl_X4_65 (by decide) (bs_ob bs_0) ?_
    obtain ⟨h8, h⟩ := h
    obtain ⟨G9, eG9⟩ : ∃ y : Mem, y = st G6 14 x5 (G6 6 5) := ⟨_, rfl⟩
    replace h := h G9 eG9
    refine r_iastore d_X4_byWakings_36 (ly_4_3 bs_4).2.2 h8 ?_
    rw [← eG9]
    refine r_aload_n d_X4_byWakings_37 0 rfl rfl ?_
    refine r_getL (v := 15) 4 4 4 rfl d_X4_byWakings_38 fl_X4_19 (by decide) (bs_ob bs_4) (ly_4_4 bs_4).1 (ly_4_4 bs_4).2.1 ?_
    refine r_iload d_X4_byWakings_41 5 rfl ?_
    refine r_sipush d_X4_byWakings_43 (by decide +kernel) ?_
    obtain ⟨G10, eG10⟩ : ∃ y : Mem, y = st G9 15 x5 10000 := ⟨_, rfl⟩
    replace h := h G10 eG10
    refine r_iastore d_X4_byWakings_46 (ly_4_4 bs_4).2.2 h8 ?_
    rw [← eG10]
    refine r_iinc (ls1 := [(5, (0, (x5 + 1))), (0, (2, 12)), (1, (2, x1)), (2, (2, x2)), (3, (0, x3)), (4, (2, 6))]) d_X4_byWakings_47 5 rfl (by decide) rfl ?_
    refine r_goto (tgt := 6) d_X4_byWakings_50 (by decide) ?_
    exact Rn.sub [1, 2, 3, 4, 5, 0] rfl h
theorem d_X4_plan_0 : decode M_X4_plan.2.1 0 = .ok (.aload_n 1, 1) := by decide +kernel
theorem d_X4_plan_1 : decode M_X4_plan.2.1 1 = .ok (.getfield 69, 3) := by decide +kernel
theorem d_X4_plan_4 : decode M_X4_plan.2.1 4 = .ok (.iload_n 3, 1) := by decide +kernel
theorem d_X4_plan_5 : decode M_X4_plan.2.1 5 = .ok (.aaload, 1) := by decide +kernel
theorem d_X4_plan_6 : decode M_X4_plan.2.1 6 = .ok (.astore 5, 2) := by decide +kernel
theorem d_X4_plan_8 : decode M_X4_plan.2.1 8 = .ok (.aload 5, 2) := by decide +kernel
theorem d_X4_plan_10 : decode M_X4_plan.2.1 10 = .ok (.iconst 0, 1) := by decide +kernel
theorem d_X4_plan_11 : decode M_X4_plan.2.1 11 = .ok (.invokevirtual 73, 3) := by decide +kernel
theorem d_X4_plan_14 : decode M_X4_plan.2.1 14 = .ok (.istore 6, 2) := by decide +kernel
theorem d_X4_plan_16 : decode M_X4_plan.2.1 16 = .ok (.aload_n 0, 1) := by decide +kernel
theorem d_X4_plan_17 : decode M_X4_plan.2.1 17 = .ok (.getfield 28, 3) := by decide +kernel
theorem d_X4_plan_20 : decode M_X4_plan.2.1 20 = .ok (.iconst 0, 1) := by decide +kernel
theorem d_X4_plan_21 : decode M_X4_plan.2.1 21 = .ok (.invokestatic 78, 3) := by decide +kernel
theorem d_X4_plan_24 : decode M_X4_plan.2.1 24 = .ok (.aload_n 0, 1) := by decide +kernel
theorem d_X4_plan_25 : decode M_X4_plan.2.1 25 = .ok (.iconst 0, 1) := by decide +kernel
theorem d_X4_plan_26 : decode M_X4_plan.2.1 26 = .ok (.putfield 84, 3) := by decide +kernel
theorem d_X4_plan_29 : decode M_X4_plan.2.1 29 = .ok (.aload_n 0, 1) := by decide +kernel
theorem d_X4_plan_30 : decode M_X4_plan.2.1 30 = .ok (.iconst (-1), 1) := by decide +kernel
theorem d_X4_plan_31 : decode M_X4_plan.2.1 31 = .ok (.putfield 87, 3) := by decide +kernel
theorem d_X4_plan_34 : decode M_X4_plan.2.1 34 = .ok (.aload_n 1, 1) := by decide +kernel
theorem d_X4_plan_35 : decode M_X4_plan.2.1 35 = .ok (.getfield 37, 3) := by decide +kernel
theorem d_X4_plan_38 : decode M_X4_plan.2.1 38 = .ok (.iconst 1, 1) := by decide +kernel
theorem d_X4_plan_39 : decode M_X4_plan.2.1 39 = .ok (.isub, 1) := by decide +kernel
theorem d_X4_plan_40 : decode M_X4_plan.2.1 40 = .ok (.istore 7, 2) := by decide +kernel
theorem d_X4_plan_42 : decode M_X4_plan.2.1 42 = .ok (.iload 7, 2) := by decide +kernel
theorem d_X4_plan_44 : decode M_X4_plan.2.1 44 = .ok (.aload_n 2, 1) := by decide +kernel
theorem d_X4_plan_45 : decode M_X4_plan.2.1 45 = .ok (.getfield 31, 3) := by decide +kernel
theorem d_X4_plan_48 : decode M_X4_plan.2.1 48 = .ok (.if_icmp .lt 262, 3) := by decide +kernel
theorem d_X4_plan_51 : decode M_X4_plan.2.1 51 = .ok (.aload_n 0, 1) := by decide +kernel
theorem d_X4_plan_52 : decode M_X4_plan.2.1 52 = .ok (.getfield 9, 3) := by decide +kernel
theorem d_X4_plan_55 : decode M_X4_plan.2.1 55 = .ok (.iload 7, 2) := by decide +kernel
theorem d_X4_plan_57 : decode M_X4_plan.2.1 57 = .ok (.aload_n 1, 1) := by decide +kernel
theorem d_X4_plan_58 : decode M_X4_plan.2.1 58 = .ok (.iload 7, 2) := by decide +kernel
theorem d_X4_plan_60 : decode M_X4_plan.2.1 60 = .ok (.invokevirtual 90, 3) := by decide +kernel
theorem d_X4_plan_63 : decode M_X4_plan.2.1 63 = .ok (.ifCond .ne 18, 3) := by decide +kernel
theorem d_X4_plan_66 : decode M_X4_plan.2.1 66 = .ok (.aload_n 2, 1) := by decide +kernel
theorem d_X4_plan_67 : decode M_X4_plan.2.1 67 = .ok (.aload_n 1, 1) := by decide +kernel
theorem d_X4_plan_68 : decode M_X4_plan.2.1 68 = .ok (.iload_n 3, 1) := by decide +kernel
theorem d_X4_plan_69 : decode M_X4_plan.2.1 69 = .ok (.iload 7, 2) := by decide +kernel
theorem d_X4_plan_71 : decode M_X4_plan.2.1 71 = .ok (.invokevirtual 94, 3) := by decide +kernel
theorem d_X4_plan_74 : decode M_X4_plan.2.1 74 = .ok (.ifCond .ne 7, 3) := by decide +kernel
theorem d_X4_plan_77 : decode M_X4_plan.2.1 77 = .ok (.iconst 1, 1) := by decide +kernel
theorem d_X4_plan_78 : decode M_X4_plan.2.1 78 = .ok (.goto 4, 3) := by decide +kernel
theorem d_X4_plan_81 : decode M_X4_plan.2.1 81 = .ok (.iconst 0, 1) := by decide +kernel
theorem d_X4_plan_82 : decode M_X4_plan.2.1 82 = .ok (.bastore, 1) := by decide +kernel
theorem d_X4_plan_83 : decode M_X4_plan.2.1 83 = .ok (.aload_n 0, 1) := by decide +kernel
theorem d_X4_plan_84 : decode M_X4_plan.2.1 84 = .ok (.getfield 22, 3) := by decide +kernel
theorem d_X4_plan_87 : decode M_X4_plan.2.1 87 = .ok (.iload 7, 2) := by decide +kernel
theorem d_X4_plan_89 : decode M_X4_plan.2.1 89 = .ok (.iload 7, 2) := by decide +kernel
theorem d_X4_plan_91 : decode M_X4_plan.2.1 91 = .ok (.aload_n 1, 1) := by decide +kernel
theorem d_X4_plan_92 : decode M_X4_plan.2.1 92 = .ok (.iload 7, 2) := by decide +kernel
theorem d_X4_plan_94 : decode M_X4_plan.2.1 94 = .ok (.iconst 0, 1) := by decide +kernel
theorem d_X4_plan_95 : decode M_X4_plan.2.1 95 = .ok (.invokevirtual 98, 3) := by decide +kernel
theorem d_X4_plan_98 : decode M_X4_plan.2.1 98 = .ok (.iadd, 1) := by decide +kernel
theorem d_X4_plan_99 : decode M_X4_plan.2.1 99 = .ok (.iastore, 1) := by decide +kernel
theorem d_X4_plan_100 : decode M_X4_plan.2.1 100 = .ok (.aload_n 0, 1) := by decide +kernel
theorem d_X4_plan_101 : decode M_X4_plan.2.1 101 = .ok (.getfield 22, 3) := by decide +kernel
theorem d_X4_plan_104 : decode M_X4_plan.2.1 104 = .ok (.iload 7, 2) := by decide +kernel
theorem d_X4_plan_106 : decode M_X4_plan.2.1 106 = .ok (.iaload, 1) := by decide +kernel
theorem d_X4_plan_107 : decode M_X4_plan.2.1 107 = .ok (.aload_n 1, 1) := by decide +kernel
theorem d_X4_plan_108 : decode M_X4_plan.2.1 108 = .ok (.getfield 37, 3) := by decide +kernel
theorem d_X4_plan_111 : decode M_X4_plan.2.1 111 = .ok (.if_icmp .ge 31, 3) := by decide +kernel
theorem d_X4_plan_114 : decode M_X4_plan.2.1 114 = .ok (.aload_n 0, 1) := by decide +kernel
theorem d_X4_plan_115 : decode M_X4_plan.2.1 115 = .ok (.getfield 15, 3) := by decide +kernel
theorem d_X4_plan_118 : decode M_X4_plan.2.1 118 = .ok (.aload_n 0, 1) := by decide +kernel
theorem d_X4_plan_119 : decode M_X4_plan.2.1 119 = .ok (.getfield 22, 3) := by decide +kernel
theorem d_X4_plan_122 : decode M_X4_plan.2.1 122 = .ok (.iload 7, 2) := by decide +kernel
theorem d_X4_plan_124 : decode M_X4_plan.2.1 124 = .ok (.iaload, 1) := by decide +kernel
theorem d_X4_plan_125 : decode M_X4_plan.2.1 125 = .ok (.iaload, 1) := by decide +kernel
theorem d_X4_plan_126 : decode M_X4_plan.2.1 126 = .ok (.aload_n 0, 1) := by decide +kernel
theorem d_X4_plan_127 : decode M_X4_plan.2.1 127 = .ok (.getfield 25, 3) := by decide +kernel
theorem d_X4_plan_130 : decode M_X4_plan.2.1 130 = .ok (.aload_n 0, 1) := by decide +kernel
theorem d_X4_plan_131 : decode M_X4_plan.2.1 131 = .ok (.getfield 22, 3) := by decide +kernel
theorem d_X4_plan_134 : decode M_X4_plan.2.1 134 = .ok (.iload 7, 2) := by decide +kernel
theorem d_X4_plan_136 : decode M_X4_plan.2.1 136 = .ok (.iaload, 1) := by decide +kernel
theorem d_X4_plan_137 : decode M_X4_plan.2.1 137 = .ok (.iaload, 1) := by decide +kernel
theorem d_X4_plan_138 : decode M_X4_plan.2.1 138 = .ok (.iadd, 1) := by decide +kernel
theorem d_X4_plan_139 : decode M_X4_plan.2.1 139 = .ok (.goto 4, 3) := by decide +kernel
theorem d_X4_plan_142 : decode M_X4_plan.2.1 142 = .ok (.iconst 0, 1) := by decide +kernel
theorem d_X4_plan_143 : decode M_X4_plan.2.1 143 = .ok (.istore 8, 2) := by decide +kernel
theorem d_X4_plan_145 : decode M_X4_plan.2.1 145 = .ok (.iconst 0, 1) := by decide +kernel
theorem d_X4_plan_146 : decode M_X4_plan.2.1 146 = .ok (.istore 9, 2) := by decide +kernel
theorem d_X4_plan_148 : decode M_X4_plan.2.1 148 = .ok (.iload 9, 2) := by decide +kernel
theorem d_X4_plan_150 : decode M_X4_plan.2.1 150 = .ok (.iload 7, 2) := by decide +kernel
theorem d_X4_plan_152 : decode M_X4_plan.2.1 152 = .ok (.if_icmp .gt 59, 3) := by decide +kernel
theorem d_X4_plan_155 : decode M_X4_plan.2.1 155 = .ok (.aload_n 0, 1) := by decide +kernel
theorem d_X4_plan_156 : decode M_X4_plan.2.1 156 = .ok (.getfield 28, 3) := by decide +kernel
theorem d_X4_plan_159 : decode M_X4_plan.2.1 159 = .ok (.iload 9, 2) := by decide +kernel
theorem d_X4_plan_161 : decode M_X4_plan.2.1 161 = .ok (.iconst 1, 1) := by decide +kernel
theorem d_X4_plan_162 : decode M_X4_plan.2.1 162 = .ok (.iadd, 1) := by decide +kernel
theorem d_X4_plan_163 : decode M_X4_plan.2.1 163 = .ok (.iaload, 1) := by decide +kernel
theorem d_X4_plan_164 : decode M_X4_plan.2.1 164 = .ok (.iload 6, 2) := by decide +kernel
theorem d_X4_plan_166 : decode M_X4_plan.2.1 166 = .ok (.iload 9, 2) := by decide +kernel
theorem d_X4_plan_168 : decode M_X4_plan.2.1 168 = .ok (.iconst 1, 1) := by decide +kernel
theorem d_X4_plan_169 : decode M_X4_plan.2.1 169 = .ok (.iadd, 1) := by decide +kernel
theorem d_X4_plan_170 : decode M_X4_plan.2.1 170 = .ok (.imul, 1) := by decide +kernel
theorem d_X4_plan_171 : decode M_X4_plan.2.1 171 = .ok (.aload 5, 2) := by decide +kernel
theorem d_X4_plan_173 : decode M_X4_plan.2.1 173 = .ok (.getfield 102, 3) := by decide +kernel
theorem d_X4_plan_176 : decode M_X4_plan.2.1 176 = .ok (.if_icmp .le 8, 3) := by decide +kernel
theorem d_X4_plan_179 : decode M_X4_plan.2.1 179 = .ok (.iload 4, 2) := by decide +kernel
theorem d_X4_plan_181 : decode M_X4_plan.2.1 181 = .ok (.goto 4, 3) := by decide +kernel
theorem d_X4_plan_184 : decode M_X4_plan.2.1 184 = .ok (.iconst 0, 1) := by decide +kernel
theorem d_X4_plan_185 : decode M_X4_plan.2.1 185 = .ok (.iadd, 1) := by decide +kernel
theorem d_X4_plan_186 : decode M_X4_plan.2.1 186 = .ok (.istore 10, 2) := by decide +kernel
theorem d_X4_plan_188 : decode M_X4_plan.2.1 188 = .ok (.aload_n 0, 1) := by decide +kernel
theorem d_X4_plan_189 : decode M_X4_plan.2.1 189 = .ok (.getfield 28, 3) := by decide +kernel
theorem d_X4_plan_192 : decode M_X4_plan.2.1 192 = .ok (.iload 9, 2) := by decide +kernel
theorem d_X4_plan_194 : decode M_X4_plan.2.1 194 = .ok (.aload_n 0, 1) := by decide +kernel
theorem d_X4_plan_195 : decode M_X4_plan.2.1 195 = .ok (.iload 7, 2) := by decide +kernel
theorem d_X4_plan_197 : decode M_X4_plan.2.1 197 = .ok (.iload 10, 2) := by decide +kernel
theorem d_X4_plan_199 : decode M_X4_plan.2.1 199 = .ok (.iload 8, 2) := by decide +kernel
theorem d_X4_plan_201 : decode M_X4_plan.2.1 201 = .ok (.invokevirtual 105, 3) := by decide +kernel
theorem d_X4_plan_204 : decode M_X4_plan.2.1 204 = .ok (.iastore, 1) := by decide +kernel
theorem d_X4_plan_205 : decode M_X4_plan.2.1 205 = .ok (.iinc 9 1, 3) := by decide +kernel
theorem d_X4_plan_208 : decode M_X4_plan.2.1 208 = .ok (.goto (-60), 3) := by decide +kernel
theorem d_X4_plan_211 : decode M_X4_plan.2.1 211 = .ok (.aload_n 0, 1) := by decide +kernel
theorem d_X4_plan_212 : decode M_X4_plan.2.1 212 = .ok (.getfield 25, 3) := by decide +kernel
theorem d_X4_plan_215 : decode M_X4_plan.2.1 215 = .ok (.iload 7, 2) := by decide +kernel
theorem d_X4_plan_217 : decode M_X4_plan.2.1 217 = .ok (.aload_n 0, 1) := by decide +kernel
theorem d_X4_plan_218 : decode M_X4_plan.2.1 218 = .ok (.getfield 28, 3) := by decide +kernel
theorem d_X4_plan_221 : decode M_X4_plan.2.1 221 = .ok (.iconst 0, 1) := by decide +kernel
theorem d_X4_plan_222 : decode M_X4_plan.2.1 222 = .ok (.iaload, 1) := by decide +kernel
theorem d_X4_plan_223 : decode M_X4_plan.2.1 223 = .ok (.iastore, 1) := by decide +kernel
theorem d_X4_plan_224 : decode M_X4_plan.2.1 224 = .ok (.aload_n 2, 1) := by decide +kernel
theorem d_X4_plan_225 : decode M_X4_plan.2.1 225 = .ok (.getfield 109, 3) := by decide +kernel
theorem d_X4_plan_228 : decode M_X4_plan.2.1 228 = .ok (.iload_n 3, 1) := by decide +kernel
theorem d_X4_plan_229 : decode M_X4_plan.2.1 229 = .ok (.iaload, 1) := by decide +kernel
theorem d_X4_plan_230 : decode M_X4_plan.2.1 230 = .ok (.iload 6, 2) := by decide +kernel
theorem d_X4_plan_232 : decode M_X4_plan.2.1 232 = .ok (.iload 7, 2) := by decide +kernel
theorem d_X4_plan_234 : decode M_X4_plan.2.1 234 = .ok (.aload_n 2, 1) := by decide +kernel
theorem d_X4_plan_235 : decode M_X4_plan.2.1 235 = .ok (.getfield 31, 3) := by decide +kernel
theorem d_X4_plan_238 : decode M_X4_plan.2.1 238 = .ok (.isub, 1) := by decide +kernel
theorem d_X4_plan_239 : decode M_X4_plan.2.1 239 = .ok (.iconst 1, 1) := by decide +kernel
theorem d_X4_plan_240 : decode M_X4_plan.2.1 240 = .ok (.iadd, 1) := by decide +kernel
theorem d_X4_plan_241 : decode M_X4_plan.2.1 241 = .ok (.imul, 1) := by decide +kernel
theorem d_X4_plan_242 : decode M_X4_plan.2.1 242 = .ok (.iadd, 1) := by decide +kernel
theorem d_X4_plan_243 : decode M_X4_plan.2.1 243 = .ok (.istore 9, 2) := by decide +kernel
theorem d_X4_plan_245 : decode M_X4_plan.2.1 245 = .ok (.aload_n 0, 1) := by decide +kernel
theorem d_X4_plan_246 : decode M_X4_plan.2.1 246 = .ok (.getfield 84, 3) := by decide +kernel
theorem d_X4_plan_249 : decode M_X4_plan.2.1 249 = .ok (.iload 9, 2) := by decide +kernel
theorem d_X4_plan_251 : decode M_X4_plan.2.1 251 = .ok (.aload 5, 2) := by decide +kernel
theorem d_X4_plan_253 : decode M_X4_plan.2.1 253 = .ok (.getfield 102, 3) := by decide +kernel
theorem d_X4_plan_256 : decode M_X4_plan.2.1 256 = .ok (.if_icmp .le 8, 3) := by decide +kernel
theorem d_X4_plan_259 : decode M_X4_plan.2.1 259 = .ok (.iload 4, 2) := by decide +kernel
theorem d_X4_plan_261 : decode M_X4_plan.2.1 261 = .ok (.goto 4, 3) := by decide +kernel
theorem d_X4_plan_264 : decode M_X4_plan.2.1 264 = .ok (.iconst 0, 1) := by decide +kernel
theorem d_X4_plan_265 : decode M_X4_plan.2.1 265 = .ok (.iadd, 1) := by decide +kernel
theorem d_X4_plan_266 : decode M_X4_plan.2.1 266 = .ok (.istore 10, 2) := by decide +kernel
theorem d_X4_plan_268 : decode M_X4_plan.2.1 268 = .ok (.aload_n 0, 1) := by decide +kernel
theorem d_X4_plan_269 : decode M_X4_plan.2.1 269 = .ok (.aload_n 0, 1) := by decide +kernel
theorem d_X4_plan_270 : decode M_X4_plan.2.1 270 = .ok (.iload 7, 2) := by decide +kernel
theorem d_X4_plan_272 : decode M_X4_plan.2.1 272 = .ok (.iload 10, 2) := by decide +kernel
theorem d_X4_plan_274 : decode M_X4_plan.2.1 274 = .ok (.iload 8, 2) := by decide +kernel
theorem d_X4_plan_276 : decode M_X4_plan.2.1 276 = .ok (.invokevirtual 105, 3) := by decide +kernel
theorem d_X4_plan_279 : decode M_X4_plan.2.1 279 = .ok (.putfield 84, 3) := by decide +kernel
theorem d_X4_plan_282 : decode M_X4_plan.2.1 282 = .ok (.aload_n 0, 1) := by decide +kernel
theorem d_X4_plan_283 : decode M_X4_plan.2.1 283 = .ok (.aload_n 0, 1) := by decide +kernel
theorem d_X4_plan_284 : decode M_X4_plan.2.1 284 = .ok (.getfield 84, 3) := by decide +kernel
theorem d_X4_plan_287 : decode M_X4_plan.2.1 287 = .ok (.iload 10, 2) := by decide +kernel
theorem d_X4_plan_289 : decode M_X4_plan.2.1 289 = .ok (.if_icmp .ge 8, 3) := by decide +kernel
theorem d_X4_plan_292 : decode M_X4_plan.2.1 292 = .ok (.iload 7, 2) := by decide +kernel
theorem d_X4_plan_294 : decode M_X4_plan.2.1 294 = .ok (.goto 7, 3) := by decide +kernel
theorem d_X4_plan_297 : decode M_X4_plan.2.1 297 = .ok (.aload_n 0, 1) := by decide +kernel
theorem d_X4_plan_298 : decode M_X4_plan.2.1 298 = .ok (.getfield 87, 3) := by decide +kernel
theorem d_X4_plan_301 : decode M_X4_plan.2.1 301 = .ok (.putfield 87, 3) := by decide +kernel
theorem d_X4_plan_304 : decode M_X4_plan.2.1 304 = .ok (.iinc 7 (-1), 3) := by decide +kernel
theorem d_X4_plan_307 : decode M_X4_plan.2.1 307 = .ok (.goto (-265), 3) := by decide +kernel
theorem d_X4_plan_310 : decode M_X4_plan.2.1 310 = .ok (.return_, 1) := by decide +kernel
set_option maxRecDepth 20000 in
theorem s_X4_plan_0 {d : Nat} {p0 : Int} {p1 : Int} {p2 : Int} {p3 : Int} {G : Mem} {Q : Int → Mem → Prop} (bp0 : Bs 1 p0) (bp1 : Bs 8 p1) (h : (0 ≤ p2 ∧ p2 < 5) ∧ (Ct d M_X7_growth NT 0 0 (some lay) [(2, ((p0 + 13) + p2)), (0, 0)] G (fun r3 G2 => Ct d M_J7_fill_53178 NT 0 0 (some lay) [(2, 18), (0, 0)] G2 (fun r5 G4 => (∀ G6 : Mem, G6 = st G4 12 0 0 → (∀ G7 : Mem, G7 = st G6 12 1 (-1) → Rn (d + 1) M_X4_plan zN 42 [(0, (2, 12)), (1, (2, p0)), (2, (2, p1)), (3, (0, p2)), (4, (0, p3)), (5, (2, ((p0 + 13) + p2))), (6, (0, r3)), (7, (0, ((G7 p0 7) - 1)))] [] G7 Q)))))) : Rn (d + 1) M_X4_plan zN 0 [(0, (2, 12)), (1, (2, p0)), (2, (2, p1)), (3, (0, p2)), (4, (0, p3))] [] G Q := by
  refine r_aload_n d_X4_plan_0 1 rfl rfl ?_
  refine r_getL (v := (p0 + 1)) 1 0 0 rfl d_X4_plan_1 fl_X4_69 (by decide) (bs_ob bp0) (ly_1_0 bp0).1 (ly_1_0 bp0).2.1 ?_
  refine r_iload_n d_X4_plan_4 3 rfl rfl ?_
  obtain ⟨h1, h⟩ := h
  refine r_aaloadL (v := ((p0 + 13) + p2)) d_X4_plan_5 (ly_1_0 bp0).2.2 (by decide) rfl h1 (el_1_0 bp0 h1.1 h1.2).1 (el_1_0 bp0 h1.1 h1.2).2.1 ?_
  refine r_astore (ls1 := [(5, (2, ((p0 + 13) + p2))), (0, (2, 12)), (1, (2, p0)), (2, (2, p1)), (3, (0, p2)), (4, (0, p3))]) d_X4_plan_6 (by decide) rfl ?_
  refine r_aload d_X4_plan_8 0 rfl ?_
  refine r_iconst d_X4_plan_10 ?_
  refine r_callV0 (M' := M_X7_growth) (ci := 7) [(0, 0)] d_X4_plan_11 cl_X4_73 rfl (Nat.le_of_ble_eq_true rfl) (by decide) rfl (bs_ob (el_1_0 bp0 h1.1 h1.2).2.2) ?_
  refine Ct.mono h (fun r3 G2 h => ?_)
  show Rn _ M_X4_plan zN 14 [(5, (2, ((p0 + 13) + p2))), (0, (2, 12)), (1, (2, p0)), (2, (2, p1)), (3, (0, p2)), (4, (0, p3))] [(0, r3)] G2 Q
  refine r_istore (ls1 := [(6, (0, r3)), (5, (2, ((p0 + 13) + p2))), (0, (2, 12)), (1, (2, p0)), (2, (2, p1)), (3, (0, p2)), (4, (0, p3))]) d_X4_plan_14 (by decide) rfl ?_
  refine r_aload_n d_X4_plan_16 2 rfl rfl ?_
  refine r_getL (v := 18) 4 7 7 rfl d_X4_plan_17 fl_X4_28 (by decide) (bs_ob bs_4) (ly_4_7 bs_4).1 (ly_4_7 bs_4).2.1 ?_
  refine r_iconst d_X4_plan_20 ?_
  refine r_callS0 (M' := M_J7_fill_53178) [(2, 18), (0, 0)] d_X4_plan_21 cl_X4_78 rfl (Nat.le_of_ble_eq_true rfl) ?_
  refine Ct.mono h (fun r5 G4 h => ?_)
  show Rn _ M_X4_plan zN 24 [(6, (0, r3)), (5, (2, ((p0 + 13) + p2))), (0, (2, 12)), (1, (2, p0)), (2, (2, p1)), (3, (0, p2)), (4, (0, p3))] [] G4 Q
  refine r_aload_n d_X4_plan_24 2 rfl rfl ?_
  refine r_iconst d_X4_plan_25 ?_
  obtain ⟨G6, eG6⟩ : ∃ y : Mem, y = st G4 12 0 0 := ⟨_, rfl⟩
  replace h := h G6 eG6
  refine r_putI 4 0 0 rfl d_X4_plan_26 fl_X4_84 (by decide) nofin_4_0 (bs_ob bs_4) ?_
  rw [← eG6]
  refine r_aload_n d_X4_plan_29 2 rfl rfl ?_
  refine r_iconst d_X4_plan_30 ?_
  obtain ⟨G7, eG7⟩ : ∃ y : Mem, y = st G6 12 1 (-1) := ⟨_, rfl⟩
  replace h := h G7 eG7
  refine r_putI 4 1 1 rfl d_X4_plan_31 fl_X4_87 (by decide) nofin_4_1 (bs_ob bs_4) ?_
  rw [← eG7]
  refine r_aload_n d_X4_plan_34 3 rfl rfl ?_
  refine r_getI 1 7 7 rfl d_X4_plan_35 fl_X4_37 (by decide) (bs_ob bp0) ?_
  refine r_iconst d_X4_plan_38 ?_
  refine r_isub d_X4_plan_39 ?_
  refine r_istore (ls1 := [(7, (0, ((G7 p0 7) - 1))), (6, (0, r3)), (5, (2, ((p0 + 13) + p2))), (0, (2, 12)), (1, (2, p0)), (2, (2, p1)), (3, (0, p2)), (4, (0, p3))]) d_X4_plan_40 (by decide) rfl ?_
  exact Rn.sub [3, 4, 5, 6, 7, 2, 1, 0] rfl h
set_option maxRecDepth 20000 in
theorem s_X4_plan_42 {d : Nat} {x1 : Int} {x2 : Int} {x3 : Int} {x4 : Int} {x5 : Int} {x6 : Int} {x7 : Int} {G : Mem} {Q : Int → Mem → Prop} (bx1 : Bs 1 x1) (bx2 : Bs 8 x2) (bx5 : Bs 7 x5) (h : (InR x7) ∧ (InR (G x2 7)) ∧ ((x7 < (G x2 7)) → Q 0 G) ∧ (¬ (x7 < (G x2 7)) → Ct d M_X1_closed NT 0 0 (some lay) [(2, x1), (0, x7)] G (fun r5 G4 => (InR r5) ∧ ((r5 ≠ 0) → Rn (d + 1) M_X4_plan zN 82 [(0, (2, 12)), (1, (2, x1)), (2, (2, x2)), (3, (0, x3)), (4, (0, x4)), (5, (2, x5)), (6, (0, x6)), (7, (0, x7))] [(0, 0), (0, x7), (2, 13)] G4 Q) ∧ (¬ (r5 ≠ 0) → Ct d M_X8_asleep NT 0 0 (some lay) [(2, x2), (2, x1), (0, x3), (0, x7)] G4 (fun r9 G8 => (InR r9) ∧ ((r9 ≠ 0) → Rn (d + 1) M_X4_plan zN 82 [(0, (2, 12)), (1, (2, x1)), (2, (2, x2)), (3, (0, x3)), (4, (0, x4)), (5, (2, x5)), (6, (0, x6)), (7, (0, x7))] [(0, 0), (0, x7), (2, 13)] G8 Q) ∧ (¬ (r9 ≠ 0) → Rn (d + 1) M_X4_plan zN 82 [(0, (2, 12)), (1, (2, x1)), (2, (2, x2)), (3, (0, x3)), (4, (0, x4)), (5, (2, x5)), (6, (0, x6)), (7, (0, x7))] [(0, 1), (0, x7), (2, 13)] G8 Q)))))) : Rn (d + 1) M_X4_plan zN 42 [(0, (2, 12)), (1, (2, x1)), (2, (2, x2)), (3, (0, x3)), (4, (0, x4)), (5, (2, x5)), (6, (0, x6)), (7, (0, x7))] [] G Q := by
  refine r_iload d_X4_plan_42 7 rfl ?_
  refine r_aload_n d_X4_plan_44 2 rfl rfl ?_
  refine r_getI 8 7 7 rfl d_X4_plan_45 fl_X4_31 (by decide) (bs_ob bx2) ?_
  obtain ⟨h1, h⟩ := h
  obtain ⟨h2, h⟩ := h
  refine r_icmp_lt (tgt := 310) d_X4_plan_48 (by decide) h1 h2 (fun c3 => ?_) (fun c3 => ?_)
  · replace h := h.1 c3
    exact r_ret d_X4_plan_310 rfl ⟨rfl, Nat.le_refl _, Nat.le_refl _⟩ h
  · replace h := h.2 c3
    refine r_aload_n d_X4_plan_51 0 rfl rfl ?_
    refine r_getL (v := 13) 4 2 2 rfl d_X4_plan_52 fl_X4_9 (by decide) (bs_ob bs_4) (ly_4_2 bs_4).1 (ly_4_2 bs_4).2.1 ?_
    refine r_iload d_X4_plan_55 7 rfl ?_
    refine r_aload_n d_X4_plan_57 1 rfl rfl ?_
    refine r_iload d_X4_plan_58 7 rfl ?_
    refine r_callV0 (M' := M_X1_closed) (ci := 1) [(0, x7)] d_X4_plan_60 cl_X4_90 rfl (Nat.le_of_ble_eq_true rfl) (by decide) rfl (bs_ob bx1) ?_
    refine Ct.mono h (fun r5 G4 h => ?_)
    show Rn _ M_X4_plan zN 63 [(0, (2, 12)), (1, (2, x1)), (2, (2, x2)), (3, (0, x3)), (4, (0, x4)), (5, (2, x5)), (6, (0, x6)), (7, (0, x7))] [(0, r5), (0, x7), (2, 13)] G4 Q
    obtain ⟨h6, h⟩ := h
    refine r_if_ne (tgt := 81) d_X4_plan_63 (by decide) h6 (fun c7 => ?_) (fun c7 => ?_)
    · replace h := h.1 c7
      refine r_iconst d_X4_plan_81 ?_
      exact h
    · replace h := h.2 c7
      refine r_aload_n d_X4_plan_66 2 rfl rfl ?_
      refine r_aload_n d_X4_plan_67 1 rfl rfl ?_
      refine r_iload_n d_X4_plan_68 3 rfl rfl ?_
      refine r_iload d_X4_plan_69 7 rfl ?_
      refine r_callV0 (M' := M_X8_asleep) (ci := 8) [(2, x1), (0, x3), (0, x7)] d_X4_plan_71 cl_X4_94 rfl (Nat.le_of_ble_eq_true rfl) (by decide) rfl (bs_ob bx2) ?_
      refine Ct.mono h (fun r9 G8 h => ?_)
      show Rn _ M_X4_plan zN 74 [(0, (2, 12)), (1, (2, x1)), (2, (2, x2)), (3, (0, x3)), (4, (0, x4)), (5, (2, x5)), (6, (0, x6)), (7, (0, x7))] [(0, r9), (0, x7), (2, 13)] G8 Q
      obtain ⟨h10, h⟩ := h
      refine r_if_ne (tgt := 81) d_X4_plan_74 (by decide) h10 (fun c11 => ?_) (fun c11 => ?_)
      · replace h := h.1 c11
        refine r_iconst d_X4_plan_81 ?_
        exact h
      · replace h := h.2 c11
        refine r_iconst d_X4_plan_77 ?_
        refine r_goto (tgt := 82) d_X4_plan_78 (by decide) ?_
        exact h
set_option maxRecDepth 20000 in
theorem s_X4_plan_82 {d : Nat} {x1 : Int} {x2 : Int} {x3 : Int} {x4 : Int} {x5 : Int} {x6 : Int} {x7 : Int} {s0 : Int} {s1 : Int} {G : Mem} {Q : Int → Mem → Prop} (bx1 : Bs 1 x1) (bx2 : Bs 8 x2) (bx5 : Bs 7 x5) (h : (0 ≤ s1 ∧ s1 < 73) ∧ (s0 = 0 ∨ s0 = 1) ∧ (∀ G3 : Mem, G3 = st G 13 s1 s0 → Ct d M_X1_away NT 0 0 (some lay) [(2, x1), (0, x7), (0, 0)] G3 (fun r5 G4 => (0 ≤ x7 ∧ x7 < 73) ∧ (∀ G7 : Mem, G7 = st G4 16 x7 (x7 + r5) → (InR (G7 16 x7)) ∧ (InR (G7 x1 7)) ∧ (((G7 x1 7) ≤ (G7 16 x7)) → Rn (d + 1) M_X4_plan zN 148 [(0, (2, 12)), (1, (2, x1)), (2, (2, x2)), (3, (0, x3)), (4, (0, x4)), (5, (2, x5)), (6, (0, x6)), (7, (0, x7)), (8, (0, 0)), (9, (0, 0))] [] G7 Q) ∧ (¬ ((G7 x1 7) ≤ (G7 16 x7)) → (0 ≤ (G7 16 x7) ∧ (G7 16 x7) < 73) ∧ (Rn (d + 1) M_X4_plan zN 148 [(0, (2, 12)), (1, (2, x1)), (2, (2, x2)), (3, (0, x3)), (4, (0, x4)), (5, (2, x5)), (6, (0, x6)), (7, (0, x7)), (8, (0, ((G7 14 (G7 16 x7)) + (G7 17 (G7 16 x7))))), (9, (0, 0))] [] G7 Q)))))) : Rn (d + 1) M_X4_plan zN 82 [(0, (2, 12)), (1, (2, x1)), (2, (2, x2)), (3, (0, x3)), (4, (0, x4)), (5, (2, x5)), (6, (0, x6)), (7, (0, x7))] [(0, s0), (0, s1), (2, 13)] G Q := by
  obtain ⟨h1, h⟩ := h
  obtain ⟨h2, h⟩ := h
  obtain ⟨G3, eG3⟩ : ∃ y : Mem, y = st G 13 s1 s0 := ⟨_, rfl⟩
  replace h := h G3 eG3
  refine r_zastore d_X4_plan_82 (ly_4_2 bs_4).2.2 h1 h2 ?_
  rw [← eG3]
  refine r_aload_n d_X4_plan_83 0 rfl rfl ?_
  refine r_getL (v := 16) 4 5 5 rfl d_X4_plan_84 fl_X4_22 (by decide) (bs_ob bs_4) (ly_4_5 bs_4).1 (ly_4_5 bs_4).2.1 ?_
  refine r_iload d_X4_plan_87 7 rfl ?_
  refine r_iload d_X4_plan_89 7 rfl ?_
  refine r_aload_n d_X4_plan_91 1 rfl rfl ?_
  refine r_iload d_X4_plan_92 7 rfl ?_
  refine r_iconst d_X4_plan_94 ?_
  refine r_callV0 (M' := M_X1_away) (ci := 1) [(0, x7), (0, 0)] d_X4_plan_95 cl_X4_98 rfl (Nat.le_of_ble_eq_true rfl) (by decide) rfl (bs_ob bx1) ?_
  refine Ct.mono h (fun r5 G4 h => ?_)
  show Rn _ M_X4_plan zN 98 [(0, (2, 12)), (1, (2, x1)), (2, (2, x2)), (3, (0, x3)), (4, (0, x4)), (5, (2, x5)), (6, (0, x6)), (7, (0, x7))] [(0, r5), (0, x7), (0, x7), (2, 16)] G4 Q
  refine r_iadd d_X4_plan_98 ?_
  obtain ⟨h6, h⟩ := h
  obtain ⟨G7, eG7⟩ : ∃ y : Mem, y = st G4 16 x7 (x7 + r5) := ⟨_, rfl⟩
  replace h := h G7 eG7
  refine r_iastore d_X4_plan_99 (ly_4_5 bs_4).2.2 h6 ?_
  rw [← eG7]
  refine r_aload_n d_X4_plan_100 0 rfl rfl ?_
  refine r_getL (v := 16) 4 5 5 rfl d_X4_plan_101 fl_X4_22 (by decide) (bs_ob bs_4) (ly_4_5 bs_4).1 (ly_4_5 bs_4).2.1 ?_
  refine r_iload d_X4_plan_104 7 rfl ?_
  refine r_iaload d_X4_plan_106 (ly_4_5 bs_4).2.2 h6 ?_
  refine r_aload_n d_X4_plan_107 1 rfl rfl ?_
  refine r_getI 1 7 7 rfl d_X4_plan_108 fl_X4_37 (by decide) (bs_ob bx1) ?_
  obtain ⟨h8, h⟩ := h
  obtain ⟨h9, h⟩ := h
  refine r_icmp_ge (tgt := 142) d_X4_plan_111 (by decide) h8 h9 (fun c10 => ?_) (fun c10 => ?_)
  · replace h := h.1 c10
    refine r_iconst d_X4_plan_142 ?_
    refine r_istore (ls1 := [(8, (0, 0)), (0, (2, 12)), (1, (2, x1)), (2, (2, x2)), (3, (0, x3)), (4, (0, x4)), (5, (2, x5)), (6, (0, x6)), (7, (0, x7))]) d_X4_plan_143 (by decide) rfl ?_
    refine r_iconst d_X4_plan_145 ?_
    refine r_istore (ls1 := [(9, (0, 0)), (8, (0, 0)), (0, (2, 12)), (1, (2, x1)), (2, (2, x2)), (3, (0, x3)), (4, (0, x4)), (5, (2, x5)), (6, (0, x6)), (7, (0, x7))]) d_X4_plan_146 (by decide) rfl ?_
    exact Rn.sub [2, 3, 4, 5, 6, 7, 8, 9, 1, 0] rfl h
  · replace h := h.2 c10
    refine r_aload_n d_X4_plan_114 0 rfl rfl ?_
    refine r_getL (v := 14) 4 3 3 rfl d_X4_plan_115 fl_X4_15 (by decide) (bs_ob bs_4) (ly_4_3 bs_4).1 (ly_4_3 bs_4).2.1 ?_
    refine r_aload_n d_X4_plan_118 0 rfl rfl ?_
    refine r_getL (v := 16) 4 5 5 rfl d_X4_plan_119 fl_X4_22 (by decide) (bs_ob bs_4) (ly_4_5 bs_4).1 (ly_4_5 bs_4).2.1 ?_
    refine r_iload d_X4_plan_122 7 rfl ?_
    refine r_iaload d_X4_plan_124 (ly_4_5 bs_4).2.2 h6 ?_
    obtain ⟨h11, h⟩ := h
    refine r_iaload d_X4_plan_125 (ly_4_3 bs_4).2.2 h11 ?_
    refine r_aload_n d_X4_plan_126 0 rfl rfl ?_
    refine r_getL (v := 17) 4 6 6 rfl d_X4_plan_127 fl_X4_25 (by decide) (bs_ob bs_4) (ly_4_6 bs_4).1 (ly_4_6 bs_4).2.1 ?_
    refine r_aload_n d_X4_plan_130 0 rfl rfl ?_
    refine r_getL (v := 16) 4 5 5 rfl d_X4_plan_131 fl_X4_22 (by decide) (bs_ob bs_4) (ly_4_5 bs_4).1 (ly_4_5 bs_4).2.1 ?_
    refine r_iload d_X4_plan_134 7 rfl ?_
    refine r_iaload d_X4_plan_136 (ly_4_5 bs_4).2.2 h6 ?_
    refine r_iaload d_X4_plan_137 (ly_4_6 bs_4).2.2 h11 ?_
    refine r_iadd d_X4_plan_138 ?_
    refine r_goto (tgt := 143) d_X4_plan_139 (by decide) ?_
    refine r_istore (ls1 := [(8, (0, ((G7 14 (G7 16 x7)) + (G7 17 (G7 16 x7))))), (0, (2, 12)), (1, (2, x1)), (2, (2, x2)), (3, (0, x3)), (4, (0, x4)), (5, (2, x5)), (6, (0, x6)), (7, (0, x7))]) d_X4_plan_143 (by decide) rfl ?_
    refine r_iconst d_X4_plan_145 ?_
    refine r_istore (ls1 := [(9, (0, 0)), (8, (0, ((G7 14 (G7 16 x7)) + (G7 17 (G7 16 x7))))), (0, (2, 12)), (1, (2, x1)), (2, (2, x2)), (3, (0, x3)), (4, (0, x4)), (5, (2, x5)), (6, (0, x6)), (7, (0, x7))]) d_X4_plan_146 (by decide) rfl ?_
    exact Rn.sub [2, 3, 4, 5, 6, 7, 8, 9, 1, 0] rfl h
set_option maxRecDepth 20000 in
theorem s_X4_plan_148 {d : Nat} {x1 : Int} {x2 : Int} {x3 : Int} {x4 : Int} {x5 : Int} {x6 : Int} {x7 : Int} {x8 : Int} {x9 : Int} {G : Mem} {Q : Int → Mem → Prop} (bx1 : Bs 1 x1) (bx2 : Bs 8 x2) (bx5 : Bs 7 x5) (h : (InR x9) ∧ (InR x7) ∧ ((x7 < x9) → (0 ≤ x7 ∧ x7 < 73) ∧ (∀ G5 : Mem, G5 = st G 17 x7 (G 18 0) → (0 ≤ x3 ∧ x3 < 5) ∧ ((InR ((G5 (x2 + 1) x3) + (x6 * ((x7 - (G5 x2 7)) + 1)))) ∧ (InR (G5 x5 3)) ∧ ((((G5 (x2 + 1) x3) + (x6 * ((x7 - (G5 x2 7)) + 1))) ≤ (G5 x5 3)) → Rn d M_X4_plan zN 265 [(0, (2, 12)), (1, (2, x1)), (2, (2, x2)), (3, (0, x3)), (4, (0, x4)), (5, (2, x5)), (6, (0, x6)), (7, (0, x7)), (8, (0, x8))] [(0, 0), (0, (G5 12 0))] G5 Q) ∧ (¬ (((G5 (x2 + 1) x3) + (x6 * ((x7 - (G5 x2 7)) + 1))) ≤ (G5 x5 3)) → Rn d M_X4_plan zN 265 [(0, (2, 12)), (1, (2, x1)), (2, (2, x2)), (3, (0, x3)), (4, (0, x4)), (5, (2, x5)), (6, (0, x6)), (7, (0, x7)), (8, (0, x8))] [(0, x4), (0, (G5 12 0))] G5 Q)))) ∧ (¬ (x7 < x9) → (0 ≤ (x9 + 1) ∧ (x9 + 1) < 74) ∧ ((InR (x6 * (x9 + 1))) ∧ (InR (G x5 3)) ∧ (((x6 * (x9 + 1)) ≤ (G x5 3)) → Rn d M_X4_plan zN 185 [(0, (2, 12)), (1, (2, x1)), (2, (2, x2)), (3, (0, x3)), (4, (0, x4)), (5, (2, x5)), (6, (0, x6)), (7, (0, x7)), (8, (0, x8)), (9, (0, x9))] [(0, 0), (0, (G 18 (x9 + 1)))] G Q) ∧ (¬ ((x6 * (x9 + 1)) ≤ (G x5 3)) → Rn d M_X4_plan zN 185 [(0, (2, 12)), (1, (2, x1)), (2, (2, x2)), (3, (0, x3)), (4, (0, x4)), (5, (2, x5)), (6, (0, x6)), (7, (0, x7)), (8, (0, x8)), (9, (0, x9))] [(0, x4), (0, (G 18 (x9 + 1)))] G Q)))) : Rn d M_X4_plan zN 148 [(0, (2, 12)), (1, (2, x1)), (2, (2, x2)), (3, (0, x3)), (4, (0, x4)), (5, (2, x5)), (6, (0, x6)), (7, (0, x7)), (8, (0, x8)), (9, (0, x9))] [] G Q := by
  refine r_iload d_X4_plan_148 9 rfl ?_
  refine r_iload d_X4_plan_150 7 rfl ?_
  obtain ⟨h1, h⟩ := h
  obtain ⟨h2, h⟩ := h
  refine r_icmp_gt (tgt := 211) d_X4_plan_152 (by decide) h1 h2 (fun c3 => ?_) (fun c3 => ?_)
  · replace h := h.1 c3
    refine r_aload_n d_X4_plan_211 0 rfl rfl ?_
    refine r_getL (v := 17) 4 6 6 rfl d_X4_plan_212 fl_X4_25 (by decide) (bs_ob bs_4) (ly_4_6 bs_4).1 (ly_4_6 bs_4).2.1 ?_
    refine r_iload d_X4_plan_215 7 rfl ?_
    refine r_aload_n d_X4_plan_217 0 rfl rfl ?_
    refine r_getL (v := 18) 4 7 7 rfl d_X4_plan_218 fl_X4_28 (by decide) (bs_ob bs_4) (ly_4_7 bs_4).1 (ly_4_7 bs_4).2.1 ?_
    refine r_iconst d_X4_plan_221 ?_
    refine r_iaload d_X4_plan_222 (ly_4_7 bs_4).2.2 (by decide) ?_
    obtain ⟨h4, h⟩ := h
    obtain ⟨G5, eG5⟩ : ∃ y : Mem, y = st G 17 x7 (G 18 0) := ⟨_, rfl⟩
    replace h := h G5 eG5
    refine r_iastore d_X4_plan_223 (ly_4_6 bs_4).2.2 h4 ?_
    rw [← eG5]
    refine r_aload_n d_X4_plan_224 2 rfl rfl ?_
    refine r_getL (v := (x2 + 1)) 8 0 0 rfl d_X4_plan_225 fl_X4_109 (by decide) (bs_ob bx2) (ly_8_0 bx2).1 (ly_8_0 bx2).2.1 ?_
    refine r_iload_n d_X4_plan_228 3 rfl rfl ?_
    obtain ⟨h6, h⟩ := h
    refine r_iaload d_X4_plan_229 (ly_8_0 bx2).2.2 h6 ?_
    refine r_iload d_X4_plan_230 6 rfl ?_
    refine r_iload d_X4_plan_232 7 rfl ?_
    refine r_aload_n d_X4_plan_234 2 rfl rfl ?_
    refine r_getI 8 7 7 rfl d_X4_plan_235 fl_X4_31 (by decide) (bs_ob bx2) ?_
    refine r_isub d_X4_plan_238 ?_
    refine r_iconst d_X4_plan_239 ?_
    refine r_iadd d_X4_plan_240 ?_
    refine r_imul d_X4_plan_241 ?_
    refine r_iadd d_X4_plan_242 ?_
    refine r_istore (ls1 := [(9, (0, ((G5 (x2 + 1) x3) + (x6 * ((x7 - (G5 x2 7)) + 1))))), (0, (2, 12)), (1, (2, x1)), (2, (2, x2)), (3, (0, x3)), (4, (0, x4)), (5, (2, x5)), (6, (0, x6)), (7, (0, x7)), (8, (0, x8))]) d_X4_plan_243 (by decide) rfl ?_
    refine r_aload_n d_X4_plan_245 1 rfl rfl ?_
    refine r_getI 4 0 0 rfl d_X4_plan_246 fl_X4_84 (by decide) (bs_ob bs_4) ?_
    refine r_iload d_X4_plan_249 0 rfl ?_
    refine r_aload d_X4_plan_251 6 rfl ?_
    refine r_getI 7 3 3 rfl d_X4_plan_253 fl_X4_102 (by decide) (bs_ob bx5) ?_
    obtain ⟨h7, h⟩ := h
    obtain ⟨h8, h⟩ := h
    refine r_icmp_le (tgt := 264) d_X4_plan_256 (by decide) h7 h8 (fun c9 => ?_) (fun c9 => ?_)
    · replace h := h.1 c9
      refine r_iconst d_X4_plan_264 ?_
      exact Rn.sub [1, 2, 3, 4, 5, 6, 7, 8, 9] rfl h
    · replace h := h.2 c9
      refine r_iload d_X4_plan_259 5 rfl ?_
      refine r_goto (tgt := 265) d_X4_plan_261 (by decide) ?_
      exact Rn.sub [1, 2, 3, 4, 5, 6, 7, 8, 9] rfl h
  · replace h := h.2 c3
    refine r_aload_n d_X4_plan_155 0 rfl rfl ?_
    refine r_getL (v := 18) 4 7 7 rfl d_X4_plan_156 fl_X4_28 (by decide) (bs_ob bs_4) (ly_4_7 bs_4).1 (ly_4_7 bs_4).2.1 ?_
    refine r_iload d_X4_plan_159 9 rfl ?_
    refine r_iconst d_X4_plan_161 ?_
    refine r_iadd d_X4_plan_162 ?_
    obtain ⟨h10, h⟩ := h
    refine r_iaload d_X4_plan_163 (ly_4_7 bs_4).2.2 h10 ?_
    refine r_iload d_X4_plan_164 6 rfl ?_
    refine r_iload d_X4_plan_166 9 rfl ?_
    refine r_iconst d_X4_plan_168 ?_
    refine r_iadd d_X4_plan_169 ?_
    refine r_imul d_X4_plan_170 ?_
    refine r_aload d_X4_plan_171 5 rfl ?_
    refine r_getI 7 3 3 rfl d_X4_plan_173 fl_X4_102 (by decide) (bs_ob bx5) ?_
    obtain ⟨h11, h⟩ := h
    obtain ⟨h12, h⟩ := h
    refine r_icmp_le (tgt := 184) d_X4_plan_176 (by decide) h11 h12 (fun c13 => ?_) (fun c13 => ?_)
    · replace h := h.1 c13
      refine r_iconst d_X4_plan_184 ?_
      exact h
    · replace h := h.2 c13
      refine r_iload d_X4_plan_179 4 rfl ?_
      refine r_goto (tgt := 185) d_X4_plan_181 (by decide) ?_
      exact h
set_option maxRecDepth 20000 in
theorem s_X4_plan_265 {d : Nat} {x1 : Int} {x2 : Int} {x3 : Int} {x4 : Int} {x5 : Int} {x6 : Int} {x7 : Int} {x8 : Int} {s0 : Int} {s1 : Int} {G : Mem} {Q : Int → Mem → Prop} (bx1 : Bs 1 x1) (bx2 : Bs 8 x2) (bx5 : Bs 7 x5) (h : Ct d M_X4_lesser NT 0 0 (some lay) [(2, 12), (0, x7), (0, (s1 + s0)), (0, x8)] G (fun r2 G1 => (∀ G3 : Mem, G3 = st G1 12 0 r2 → (InR (G3 12 0)) ∧ (InR (s1 + s0)) ∧ (((s1 + s0) ≤ (G3 12 0)) → (∀ G7 : Mem, G7 = st G3 12 1 (G3 12 1) → Rn (d + 1) M_X4_plan zN 42 [(0, (2, 12)), (1, (2, x1)), (2, (2, x2)), (3, (0, x3)), (4, (0, x4)), (5, (2, x5)), (6, (0, x6)), (7, (0, (x7 + (-1))))] [] G7 Q)) ∧ (¬ ((s1 + s0) ≤ (G3 12 0)) → (∀ G8 : Mem, G8 = st G3 12 1 x7 → Rn (d + 1) M_X4_plan zN 42 [(0, (2, 12)), (1, (2, x1)), (2, (2, x2)), (3, (0, x3)), (4, (0, x4)), (5, (2, x5)), (6, (0, x6)), (7, (0, (x7 + (-1))))] [] G8 Q))))) : Rn (d + 1) M_X4_plan zN 265 [(0, (2, 12)), (1, (2, x1)), (2, (2, x2)), (3, (0, x3)), (4, (0, x4)), (5, (2, x5)), (6, (0, x6)), (7, (0, x7)), (8, (0, x8))] [(0, s0), (0, s1)] G Q := by
  refine r_iadd d_X4_plan_265 ?_
  refine r_istore (ls1 := [(10, (0, (s1 + s0))), (0, (2, 12)), (1, (2, x1)), (2, (2, x2)), (3, (0, x3)), (4, (0, x4)), (5, (2, x5)), (6, (0, x6)), (7, (0, x7)), (8, (0, x8))]) d_X4_plan_266 (by decide) rfl ?_
  refine r_aload_n d_X4_plan_268 1 rfl rfl ?_
  refine r_aload_n d_X4_plan_269 1 rfl rfl ?_
  refine r_iload d_X4_plan_270 8 rfl ?_
  refine r_iload d_X4_plan_272 0 rfl ?_
  refine r_iload d_X4_plan_274 9 rfl ?_
  refine r_callV0 (M' := M_X4_lesser) (ci := 4) [(0, x7), (0, (s1 + s0)), (0, x8)] d_X4_plan_276 cl_X4_105 rfl (Nat.le_of_ble_eq_true rfl) (by decide) rfl (bs_ob bs_4) ?_
  refine Ct.mono h (fun r2 G1 h => ?_)
  show Rn _ M_X4_plan zN 279 [(10, (0, (s1 + s0))), (0, (2, 12)), (1, (2, x1)), (2, (2, x2)), (3, (0, x3)), (4, (0, x4)), (5, (2, x5)), (6, (0, x6)), (7, (0, x7)), (8, (0, x8))] [(0, r2), (2, 12)] G1 Q
  obtain ⟨G3, eG3⟩ : ∃ y : Mem, y = st G1 12 0 r2 := ⟨_, rfl⟩
  replace h := h G3 eG3
  refine r_putI 4 0 0 rfl d_X4_plan_279 fl_X4_84 (by decide) nofin_4_0 (bs_ob bs_4) ?_
  rw [← eG3]
  refine r_aload_n d_X4_plan_282 1 rfl rfl ?_
  refine r_aload_n d_X4_plan_283 1 rfl rfl ?_
  refine r_getI 4 0 0 rfl d_X4_plan_284 fl_X4_84 (by decide) (bs_ob bs_4) ?_
  refine r_iload d_X4_plan_287 0 rfl ?_
  obtain ⟨h4, h⟩ := h
  obtain ⟨h5, h⟩ := h
  refine r_icmp_ge (tgt := 297) d_X4_plan_289 (by decide) h4 h5 (fun c6 => ?_) (fun c6 => ?_)
  · replace h := h.1 c6
    refine r_aload_n d_X4_plan_297 1 rfl rfl ?_
    refine r_getI 4 1 1 rfl d_X4_plan_298 fl_X4_87 (by decide) (bs_ob bs_4) ?_
    obtain ⟨G7, eG7⟩ : ∃ y : Mem, y = st G3 12 1 (G3 12 1) := ⟨_, rfl⟩
    replace h := h G7 eG7
    refine r_putI 4 1 1 rfl d_X4_plan_301 fl_X4_87 (by decide) nofin_4_1 (bs_ob bs_4) ?_
    rw [← eG7]
    refine r_iinc (ls1 := [(7, (0, (x7 + (-1)))), (10, (0, (s1 + s0))), (0, (2, 12)), (1, (2, x1)), (2, (2, x2)), (3, (0, x3)), (4, (0, x4)), (5, (2, x5)), (6, (0, x6)), (8, (0, x8))]) d_X4_plan_304 8 rfl (by decide) rfl ?_
    refine r_goto (tgt := 42) d_X4_plan_307 (by decide) ?_
    exact Rn.sub [2, 3, 4, 5, 6, 7, 8, 0] rfl h
  · replace h := h.2 c6
    refine r_iload d_X4_plan_292 8 rfl ?_
    refine r_goto (tgt := 301) d_X4_plan_294 (by decide) ?_
    obtain ⟨G8, eG8⟩ : ∃ y : Mem, y = st G3 12 1 x7 := ⟨_, rfl⟩
    replace h := h G8 eG8
    refine r_putI 4 1 1 rfl d_X4_plan_301 fl_X4_87 (by decide) nofin_4_1 (bs_ob bs_4) ?_
    rw [← eG8]
    refine r_iinc (ls1 := [(7, (0, (x7 + (-1)))), (10, (0, (s1 + s0))), (0, (2, 12)), (1, (2, x1)), (2, (2, x2)), (3, (0, x3)), (4, (0, x4)), (5, (2, x5)), (6, (0, x6)), (8, (0, x8))]) d_X4_plan_304 8 rfl (by decide) rfl ?_
    refine r_goto (tgt := 42) d_X4_plan_307 (by decide) ?_
    exact Rn.sub [2, 3, 4, 5, 6, 7, 8, 0] rfl h
set_option maxRecDepth 20000 in
theorem s_X4_plan_185 {d : Nat} {x1 : Int} {x2 : Int} {x3 : Int} {x4 : Int} {x5 : Int} {x6 : Int} {x7 : Int} {x8 : Int} {x9 : Int} {s0 : Int} {s1 : Int} {G : Mem} {Q : Int → Mem → Prop} (bx1 : Bs 1 x1) (bx2 : Bs 8 x2) (bx5 : Bs 7 x5) (h : Ct d M_X4_lesser NT 0 0 (some lay) [(2, 12), (0, x7), (0, (s1 + s0)), (0, x8)] G (fun r2 G1 => (0 ≤ x9 ∧ x9 < 74) ∧ (∀ G4 : Mem, G4 = st G1 18 x9 r2 → Rn (d + 1) M_X4_plan zN 148 [(0, (2, 12)), (1, (2, x1)), (2, (2, x2)), (3, (0, x3)), (4, (0, x4)), (5, (2, x5)), (6, (0, x6)), (7, (0, x7)), (8, (0, x8)), (9, (0, (x9 + 1)))] [] G4 Q))) : Rn (d + 1) M_X4_plan zN 185 [(0, (2, 12)), (1, (2, x1)), (2, (2, x2)), (3, (0, x3)), (4, (0, x4)), (5, (2, x5)), (6, (0, x6)), (7, (0, x7)), (8, (0, x8)), (9, (0, x9))] [(0, s0), (0, s1)] G Q := by
  refine r_iadd d_X4_plan_185 ?_
  refine r_istore (ls1 := [(10, (0, (s1 + s0))), (0, (2, 12)), (1, (2, x1)), (2, (2, x2)), (3, (0, x3)), (4, (0, x4)), (5, (2, x5)), (6, (0, x6)), (7, (0, x7)), (8, (0, x8)), (9, (0, x9))]) d_X4_plan_186 (by decide) rfl ?_
  refine r_aload_n d_X4_plan_188 1 rfl rfl ?_
  refine r_getL (v := 18) 4 7 7 rfl d_X4_plan_189 fl_X4_28 (by decide) (bs_ob bs_4) (ly_4_7 bs_4).1 (ly_4_7 bs_4).2.1 ?_
  refine r_iload d_X4_plan_192 10 rfl ?_
  refine r_aload_n d_X4_plan_194 1 rfl rfl ?_
  refine r_iload d_X4_plan_195 8 rfl ?_
  refine r_iload d_X4_plan_197 0 rfl ?_
  refine r_iload d_X4_plan_199 9 rfl ?_
  refine r_callV0 (M' := M_X4_lesser) (ci := 4) [(0, x7), (0, (s1 + s0)), (0, x8)] d_X4_plan_201 cl_X4_105 rfl (Nat.le_of_ble_eq_true rfl) (by decide) rfl (bs_ob bs_4) ?_
  refine Ct.mono h (fun r2 G1 h => ?_)
  show Rn _ M_X4_plan zN 204 [(10, (0, (s1 + s0))), (0, (2, 12)), (1, (2, x1)), (2, (2, x2)), (3, (0, x3)), (4, (0, x4)), (5, (2, x5)), (6, (0, x6)), (7, (0, x7)), (8, (0, x8)), (9, (0, x9))] [(0, r2), (0, x9), (2, 18)] G1 Q
  obtain ⟨h3, h⟩ := h
  obtain ⟨G4, eG4⟩ : ∃ y : Mem, y = st G1 18 x9 r2 := ⟨_, rfl⟩
  replace h := h G4 eG4
  refine r_iastore d_X4_plan_204 (ly_4_7 bs_4).2.2 h3 ?_
  rw [← eG4]
  refine r_iinc (ls1 := [(9, (0, (x9 + 1))), (10, (0, (s1 + s0))), (0, (2, 12)), (1, (2, x1)), (2, (2, x2)), (3, (0, x3)), (4, (0, x4)), (5, (2, x5)), (6, (0, x6)), (7, (0, x7)), (8, (0, x8))]) d_X4_plan_205 10 rfl (by decide) rfl ?_
  refine r_goto (tgt := 148) d_X4_plan_208 (by decide) ?_
  exact Rn.sub [2, 3, 4, 5, 6, 7, 8, 9, 10, 0] rfl h
theorem d_X4_lesser_0 : decode M_X4_lesser.2.1 0 = .ok (.aload_n 0, 1) := by decide +kernel
theorem d_X4_lesser_1 : decode M_X4_lesser.2.1 1 = .ok (.getfield 9, 3) := by decide +kernel
theorem d_X4_lesser_4 : decode M_X4_lesser.2.1 4 = .ok (.iload_n 1, 1) := by decide +kernel
theorem d_X4_lesser_5 : decode M_X4_lesser.2.1 5 = .ok (.baload, 1) := by decide +kernel
theorem d_X4_lesser_6 : decode M_X4_lesser.2.1 6 = .ok (.ifCond .ne 5, 3) := by decide +kernel
theorem d_X4_lesser_9 : decode M_X4_lesser.2.1 9 = .ok (.iload_n 2, 1) := by decide +kernel
theorem d_X4_lesser_10 : decode M_X4_lesser.2.1 10 = .ok (.ireturn, 1) := by decide +kernel
theorem d_X4_lesser_11 : decode M_X4_lesser.2.1 11 = .ok (.aload_n 0, 1) := by decide +kernel
theorem d_X4_lesser_12 : decode M_X4_lesser.2.1 12 = .ok (.getfield 19, 3) := by decide +kernel
theorem d_X4_lesser_15 : decode M_X4_lesser.2.1 15 = .ok (.iload_n 1, 1) := by decide +kernel
theorem d_X4_lesser_16 : decode M_X4_lesser.2.1 16 = .ok (.iaload, 1) := by decide +kernel
theorem d_X4_lesser_17 : decode M_X4_lesser.2.1 17 = .ok (.i2l, 1) := by decide +kernel
theorem d_X4_lesser_18 : decode M_X4_lesser.2.1 18 = .ok (.iload_n 3, 1) := by decide +kernel
theorem d_X4_lesser_19 : decode M_X4_lesser.2.1 19 = .ok (.i2l, 1) := by decide +kernel
theorem d_X4_lesser_20 : decode M_X4_lesser.2.1 20 = .ok (.lmul, 1) := by decide +kernel
theorem d_X4_lesser_21 : decode M_X4_lesser.2.1 21 = .ok (.sipush 10000, 3) := by decide +kernel
theorem d_X4_lesser_24 : decode M_X4_lesser.2.1 24 = .ok (.aload_n 0, 1) := by decide +kernel
theorem d_X4_lesser_25 : decode M_X4_lesser.2.1 25 = .ok (.getfield 19, 3) := by decide +kernel
theorem d_X4_lesser_28 : decode M_X4_lesser.2.1 28 = .ok (.iload_n 1, 1) := by decide +kernel
theorem d_X4_lesser_29 : decode M_X4_lesser.2.1 29 = .ok (.iaload, 1) := by decide +kernel
theorem d_X4_lesser_30 : decode M_X4_lesser.2.1 30 = .ok (.isub, 1) := by decide +kernel
theorem d_X4_lesser_31 : decode M_X4_lesser.2.1 31 = .ok (.i2l, 1) := by decide +kernel
theorem d_X4_lesser_32 : decode M_X4_lesser.2.1 32 = .ok (.iload_n 2, 1) := by decide +kernel
theorem d_X4_lesser_33 : decode M_X4_lesser.2.1 33 = .ok (.i2l, 1) := by decide +kernel
theorem d_X4_lesser_34 : decode M_X4_lesser.2.1 34 = .ok (.lmul, 1) := by decide +kernel
theorem d_X4_lesser_35 : decode M_X4_lesser.2.1 35 = .ok (.ladd, 1) := by decide +kernel
theorem d_X4_lesser_36 : decode M_X4_lesser.2.1 36 = .ok (.lstore 4, 2) := by decide +kernel
theorem d_X4_lesser_38 : decode M_X4_lesser.2.1 38 = .ok (.iload_n 2, 1) := by decide +kernel
theorem d_X4_lesser_39 : decode M_X4_lesser.2.1 39 = .ok (.i2l, 1) := by decide +kernel
theorem d_X4_lesser_40 : decode M_X4_lesser.2.1 40 = .ok (.aload_n 0, 1) := by decide +kernel
theorem d_X4_lesser_41 : decode M_X4_lesser.2.1 41 = .ok (.getfield 15, 3) := by decide +kernel
theorem d_X4_lesser_44 : decode M_X4_lesser.2.1 44 = .ok (.iload_n 1, 1) := by decide +kernel
theorem d_X4_lesser_45 : decode M_X4_lesser.2.1 45 = .ok (.iaload, 1) := by decide +kernel
theorem d_X4_lesser_46 : decode M_X4_lesser.2.1 46 = .ok (.i2l, 1) := by decide +kernel
theorem d_X4_lesser_47 : decode M_X4_lesser.2.1 47 = .ok (.lload 4, 2) := by decide +kernel
theorem d_X4_lesser_49 : decode M_X4_lesser.2.1 49 = .ok (.ldc2_w 112, 3) := by decide +kernel
theorem d_X4_lesser_52 : decode M_X4_lesser.2.1 52 = .ok (.ldiv, 1) := by decide +kernel
theorem d_X4_lesser_53 : decode M_X4_lesser.2.1 53 = .ok (.ladd, 1) := by decide +kernel
theorem d_X4_lesser_54 : decode M_X4_lesser.2.1 54 = .ok (.invokestatic 114, 3) := by decide +kernel
theorem d_X4_lesser_57 : decode M_X4_lesser.2.1 57 = .ok (.l2i, 1) := by decide +kernel
theorem d_X4_lesser_58 : decode M_X4_lesser.2.1 58 = .ok (.ireturn, 1) := by decide +kernel
set_option maxRecDepth 20000 in
theorem s_X4_lesser_0 {d : Nat} {p0 : Int} {p1 : Int} {p2 : Int} {G : Mem} {Q : Int → Mem → Prop}  (h : (0 ≤ p0 ∧ p0 < 73) ∧ ((InR (G 13 p0)) ∧ (((G 13 p0) ≠ 0) → (InR (G 15 p0)) ∧ ((InR p2) ∧ ((InR (10000 - (G 15 p0))) ∧ ((InR p1) ∧ ((InR (G 14 p0)) ∧ ((InL (((G 15 p0) * p2) + ((10000 - (G 15 p0)) * p1))) ∧ ((InL p1) ∧ (InL ((G 14 p0) + (Int.tdiv (((G 15 p0) * p2) + ((10000 - (G 15 p0)) * p1)) 10000))) ∧ (Q (min p1 ((G 14 p0) + (Int.tdiv (((G 15 p0) * p2) + ((10000 - (G 15 p0)) * p1)) 10000))) G)))))))) ∧ (¬ ((G 13 p0) ≠ 0) → Q p1 G))) : Rn (d + 1) M_X4_lesser zN 0 [(0, (2, 12)), (1, (0, p0)), (2, (0, p1)), (3, (0, p2))] [] G Q := by
  refine r_aload_n d_X4_lesser_0 0 rfl rfl ?_
  refine r_getL (v := 13) 4 2 2 rfl d_X4_lesser_1 fl_X4_9 (by decide) (bs_ob bs_4) (ly_4_2 bs_4).1 (ly_4_2 bs_4).2.1 ?_
  refine r_iload_n d_X4_lesser_4 1 rfl rfl ?_
  obtain ⟨h1, h⟩ := h
  refine r_zaload d_X4_lesser_5 (ly_4_2 bs_4).2.2 h1 ?_
  obtain ⟨h2, h⟩ := h
  refine r_if_ne (tgt := 11) d_X4_lesser_6 (by decide) h2 (fun c3 => ?_) (fun c3 => ?_)
  · replace h := h.1 c3
    refine r_aload_n d_X4_lesser_11 0 rfl rfl ?_
    refine r_getL (v := 15) 4 4 4 rfl d_X4_lesser_12 fl_X4_19 (by decide) (bs_ob bs_4) (ly_4_4 bs_4).1 (ly_4_4 bs_4).2.1 ?_
    refine r_iload_n d_X4_lesser_15 1 rfl rfl ?_
    refine r_iaload d_X4_lesser_16 (ly_4_4 bs_4).2.2 h1 ?_
    obtain ⟨h4, h⟩ := h
    refine r_i2l d_X4_lesser_17 h4 ?_
    refine r_iload_n d_X4_lesser_18 3 rfl rfl ?_
    obtain ⟨h5, h⟩ := h
    refine r_i2l d_X4_lesser_19 h5 ?_
    refine r_lmul d_X4_lesser_20 ?_
    refine r_sipush d_X4_lesser_21 (by decide +kernel) ?_
    refine r_aload_n d_X4_lesser_24 0 rfl rfl ?_
    refine r_getL (v := 15) 4 4 4 rfl d_X4_lesser_25 fl_X4_19 (by decide) (bs_ob bs_4) (ly_4_4 bs_4).1 (ly_4_4 bs_4).2.1 ?_
    refine r_iload_n d_X4_lesser_28 1 rfl rfl ?_
    refine r_iaload d_X4_lesser_29 (ly_4_4 bs_4).2.2 h1 ?_
    refine r_isub d_X4_lesser_30 ?_
    obtain ⟨h6, h⟩ := h
    refine r_i2l d_X4_lesser_31 h6 ?_
    refine r_iload_n d_X4_lesser_32 2 rfl rfl ?_
    obtain ⟨h7, h⟩ := h
    refine r_i2l d_X4_lesser_33 h7 ?_
    refine r_lmul d_X4_lesser_34 ?_
    refine r_ladd d_X4_lesser_35 ?_
    refine r_lstore (ls1 := [(4, (1, (((G 15 p0) * p2) + ((10000 - (G 15 p0)) * p1)))), (0, (2, 12)), (1, (0, p0)), (2, (0, p1)), (3, (0, p2))]) d_X4_lesser_36 (by decide) rfl ?_
    refine r_iload_n d_X4_lesser_38 3 rfl rfl ?_
    refine r_i2l d_X4_lesser_39 h7 ?_
    refine r_aload_n d_X4_lesser_40 1 rfl rfl ?_
    refine r_getL (v := 14) 4 3 3 rfl d_X4_lesser_41 fl_X4_15 (by decide) (bs_ob bs_4) (ly_4_3 bs_4).1 (ly_4_3 bs_4).2.1 ?_
    refine r_iload_n d_X4_lesser_44 2 rfl rfl ?_
    refine r_iaload d_X4_lesser_45 (ly_4_3 bs_4).2.2 h1 ?_
    obtain ⟨h8, h⟩ := h
    refine r_i2l d_X4_lesser_46 h8 ?_
    refine r_lload d_X4_lesser_47 0 rfl ?_
    refine r_ldc2 (x := 10000) d_X4_lesser_49 cst_X4_112 ?_
    obtain ⟨h9, h⟩ := h
    refine r_ldiv d_X4_lesser_52 h9 ⟨by decide, ⟨by decide, by decide⟩⟩ ?_
    refine r_ladd d_X4_lesser_53 ?_
    obtain ⟨h10, h⟩ := h
    obtain ⟨h11, h⟩ := h
    refine r_mminL d_X4_lesser_54 ml_X4_114 h10 h11 (Nat.le_of_ble_eq_true rfl) ?_
    refine r_l2i d_X4_lesser_57 ?_
    exact r_ireturn d_X4_lesser_58 rfl ⟨rfl, Nat.le_refl _, Nat.le_refl _⟩ h
  · replace h := h.2 c3
    refine r_iload_n d_X4_lesser_9 2 rfl rfl ?_
    exact r_ireturn d_X4_lesser_10 rfl ⟨rfl, Nat.le_refl _, Nat.le_refl _⟩ h
theorem d_X6_choose_0 : decode M_X6_choose.2.1 0 = .ok (.iload_n 3, 1) := by decide +kernel
theorem d_X6_choose_1 : decode M_X6_choose.2.1 1 = .ok (.invokestatic 21, 3) := by decide +kernel
theorem d_X6_choose_4 : decode M_X6_choose.2.1 4 = .ok (.istore 4, 2) := by decide +kernel
theorem d_X6_choose_6 : decode M_X6_choose.2.1 6 = .ok (.iload_n 3, 1) := by decide +kernel
theorem d_X6_choose_7 : decode M_X6_choose.2.1 7 = .ok (.ifCond .lt 25, 3) := by decide +kernel
theorem d_X6_choose_10 : decode M_X6_choose.2.1 10 = .ok (.iload_n 3, 1) := by decide +kernel
theorem d_X6_choose_11 : decode M_X6_choose.2.1 11 = .ok (.iconst 1, 1) := by decide +kernel
theorem d_X6_choose_12 : decode M_X6_choose.2.1 12 = .ok (.aload_n 1, 1) := by decide +kernel
theorem d_X6_choose_13 : decode M_X6_choose.2.1 13 = .ok (.getfield 27, 3) := by decide +kernel
theorem d_X6_choose_16 : decode M_X6_choose.2.1 16 = .ok (.ishl, 1) := by decide +kernel
theorem d_X6_choose_17 : decode M_X6_choose.2.1 17 = .ok (.if_icmp .ge 15, 3) := by decide +kernel
theorem d_X6_choose_20 : decode M_X6_choose.2.1 20 = .ok (.iload 4, 2) := by decide +kernel
theorem d_X6_choose_22 : decode M_X6_choose.2.1 22 = .ok (.iconst 2, 1) := by decide +kernel
theorem d_X6_choose_23 : decode M_X6_choose.2.1 23 = .ok (.if_icmp .lt 9, 3) := by decide +kernel
theorem d_X6_choose_26 : decode M_X6_choose.2.1 26 = .ok (.iload 4, 2) := by decide +kernel
theorem d_X6_choose_28 : decode M_X6_choose.2.1 28 = .ok (.iconst 3, 1) := by decide +kernel
theorem d_X6_choose_29 : decode M_X6_choose.2.1 29 = .ok (.if_icmp .le 5, 3) := by decide +kernel
theorem d_X6_choose_32 : decode M_X6_choose.2.1 32 = .ok (.iconst 0, 1) := by decide +kernel
theorem d_X6_choose_33 : decode M_X6_choose.2.1 33 = .ok (.ireturn, 1) := by decide +kernel
theorem d_X6_choose_34 : decode M_X6_choose.2.1 34 = .ok (.aload_n 0, 1) := by decide +kernel
theorem d_X6_choose_35 : decode M_X6_choose.2.1 35 = .ok (.iconst 0, 1) := by decide +kernel
theorem d_X6_choose_36 : decode M_X6_choose.2.1 36 = .ok (.putfield 33, 3) := by decide +kernel
theorem d_X6_choose_39 : decode M_X6_choose.2.1 39 = .ok (.iconst 0, 1) := by decide +kernel
theorem d_X6_choose_40 : decode M_X6_choose.2.1 40 = .ok (.istore 5, 2) := by decide +kernel
theorem d_X6_choose_42 : decode M_X6_choose.2.1 42 = .ok (.iload 5, 2) := by decide +kernel
theorem d_X6_choose_44 : decode M_X6_choose.2.1 44 = .ok (.aload_n 1, 1) := by decide +kernel
theorem d_X6_choose_45 : decode M_X6_choose.2.1 45 = .ok (.getfield 27, 3) := by decide +kernel
theorem d_X6_choose_48 : decode M_X6_choose.2.1 48 = .ok (.if_icmp .ge 39, 3) := by decide +kernel
theorem d_X6_choose_51 : decode M_X6_choose.2.1 51 = .ok (.iload_n 3, 1) := by decide +kernel
theorem d_X6_choose_52 : decode M_X6_choose.2.1 52 = .ok (.iload 5, 2) := by decide +kernel
theorem d_X6_choose_54 : decode M_X6_choose.2.1 54 = .ok (.ishr, 1) := by decide +kernel
theorem d_X6_choose_55 : decode M_X6_choose.2.1 55 = .ok (.iconst 1, 1) := by decide +kernel
theorem d_X6_choose_56 : decode M_X6_choose.2.1 56 = .ok (.iand, 1) := by decide +kernel
theorem d_X6_choose_57 : decode M_X6_choose.2.1 57 = .ok (.iconst 1, 1) := by decide +kernel
theorem d_X6_choose_58 : decode M_X6_choose.2.1 58 = .ok (.if_icmp .ne 23, 3) := by decide +kernel
theorem d_X6_choose_61 : decode M_X6_choose.2.1 61 = .ok (.aload_n 0, 1) := by decide +kernel
theorem d_X6_choose_62 : decode M_X6_choose.2.1 62 = .ok (.getfield 33, 3) := by decide +kernel
theorem d_X6_choose_65 : decode M_X6_choose.2.1 65 = .ok (.aload_n 0, 1) := by decide +kernel
theorem d_X6_choose_66 : decode M_X6_choose.2.1 66 = .ok (.getfield 9, 3) := by decide +kernel
theorem d_X6_choose_69 : decode M_X6_choose.2.1 69 = .ok (.arraylength, 1) := by decide +kernel
theorem d_X6_choose_70 : decode M_X6_choose.2.1 70 = .ok (.if_icmp .ge 11, 3) := by decide +kernel
theorem d_X6_choose_73 : decode M_X6_choose.2.1 73 = .ok (.aload_n 0, 1) := by decide +kernel
theorem d_X6_choose_74 : decode M_X6_choose.2.1 74 = .ok (.aload_n 1, 1) := by decide +kernel
theorem d_X6_choose_75 : decode M_X6_choose.2.1 75 = .ok (.aload_n 2, 1) := by decide +kernel
theorem d_X6_choose_76 : decode M_X6_choose.2.1 76 = .ok (.iload 5, 2) := by decide +kernel
theorem d_X6_choose_78 : decode M_X6_choose.2.1 78 = .ok (.invokevirtual 34, 3) := by decide +kernel
theorem d_X6_choose_81 : decode M_X6_choose.2.1 81 = .ok (.iinc 5 1, 3) := by decide +kernel
theorem d_X6_choose_84 : decode M_X6_choose.2.1 84 = .ok (.goto (-42), 3) := by decide +kernel
theorem d_X6_choose_87 : decode M_X6_choose.2.1 87 = .ok (.iconst 1, 1) := by decide +kernel
theorem d_X6_choose_88 : decode M_X6_choose.2.1 88 = .ok (.ireturn, 1) := by decide +kernel
set_option maxRecDepth 20000 in
theorem s_X6_choose_0 {d : Nat} {p0 : Int} {p1 : Int} {p2 : Int} {G : Mem} {Q : Int → Mem → Prop} (bp0 : Bs 1 p0) (bp1 : Bs 8 p1) (h : Ct d M_J6_bitCount_0f7a4 NT 0 0 (some lay) [(0, p2)] G (fun r2 G1 => (InR p2) ∧ ((p2 < 0) → Q 0 G1) ∧ (¬ (p2 < 0) → (InR (shlI 1 (G1 p0 8))) ∧ (((shlI 1 (G1 p0 8)) ≤ p2) → Q 0 G1) ∧ (¬ ((shlI 1 (G1 p0 8)) ≤ p2) → (InR r2) ∧ ((r2 < 2) → Q 0 G1) ∧ (¬ (r2 < 2) → ((r2 ≤ 3) → (∀ G10 : Mem, G10 = st G1 33 3 0 → Rn (d + 1) M_X6_choose zN 42 [(0, (2, 33)), (1, (2, p0)), (2, (2, p1)), (3, (0, p2)), (5, (0, 0))] [] G10 Q)) ∧ (¬ (r2 ≤ 3) → Q 0 G1)))))) : Rn (d + 1) M_X6_choose zN 0 [(0, (2, 33)), (1, (2, p0)), (2, (2, p1)), (3, (0, p2))] [] G Q := by
  refine r_iload_n d_X6_choose_0 3 rfl rfl ?_
  refine r_callS0 (M' := M_J6_bitCount_0f7a4) [(0, p2)] d_X6_choose_1 cl_X6_21 rfl (Nat.le_of_ble_eq_true rfl) ?_
  refine Ct.mono h (fun r2 G1 h => ?_)
  show Rn _ M_X6_choose zN 4 [(0, (2, 33)), (1, (2, p0)), (2, (2, p1)), (3, (0, p2))] [(0, r2)] G1 Q
  refine r_istore (ls1 := [(4, (0, r2)), (0, (2, 33)), (1, (2, p0)), (2, (2, p1)), (3, (0, p2))]) d_X6_choose_4 (by decide) rfl ?_
  refine r_iload_n d_X6_choose_6 4 rfl rfl ?_
  obtain ⟨h3, h⟩ := h
  refine r_if_lt (tgt := 32) d_X6_choose_7 (by decide) h3 (fun c4 => ?_) (fun c4 => ?_)
  · replace h := h.1 c4
    refine r_iconst d_X6_choose_32 ?_
    exact r_zreturn d_X6_choose_33 rfl ⟨rfl, Nat.le_refl _, Nat.le_refl _⟩ (by decide) h
  · replace h := h.2 c4
    refine r_iload_n d_X6_choose_10 4 rfl rfl ?_
    refine r_iconst d_X6_choose_11 ?_
    refine r_aload_n d_X6_choose_12 2 rfl rfl ?_
    refine r_getI 1 8 8 rfl d_X6_choose_13 fl_X6_27 (by decide) (bs_ob bp0) ?_
    refine r_ishl d_X6_choose_16 ?_
    obtain ⟨h5, h⟩ := h
    refine r_icmp_ge (tgt := 32) d_X6_choose_17 (by decide) h3 h5 (fun c6 => ?_) (fun c6 => ?_)
    · replace h := h.1 c6
      refine r_iconst d_X6_choose_32 ?_
      exact r_zreturn d_X6_choose_33 rfl ⟨rfl, Nat.le_refl _, Nat.le_refl _⟩ (by decide) h
    · replace h := h.2 c6
      refine r_iload d_X6_choose_20 0 rfl ?_
      refine r_iconst d_X6_choose_22 ?_
      obtain ⟨h7, h⟩ := h
      refine r_icmp_lt (tgt := 32) d_X6_choose_23 (by decide) h7 ⟨by decide, by decide⟩ (fun c8 => ?_) (fun c8 => ?_)
      · replace h := h.1 c8
        refine r_iconst d_X6_choose_32 ?_
        exact r_zreturn d_X6_choose_33 rfl ⟨rfl, Nat.le_refl _, Nat.le_refl _⟩ (by decide) h
      · replace h := h.2 c8
        refine r_iload d_X6_choose_26 0 rfl ?_
        refine r_iconst d_X6_choose_28 ?_
        refine r_icmp_le (tgt := 34) d_X6_choose_29 (by decide) h7 ⟨by decide, by decide⟩ (fun c9 => ?_) (fun c9 => ?_)
        · replace h := h.1 c9
          refine r_aload_n d_X6_choose_34 1 rfl rfl ?_
          refine r_iconst d_X6_choose_35 ?_
          obtain ⟨G10, eG10⟩ : ∃ y : Mem, y = st G1 33 3 0 := ⟨_, rfl⟩
          replace h := h G10 eG10
          refine r_putI 6 3 3 rfl d_X6_choose_36 fl_X6_33 (by decide) nofin_6_3 (bs_ob bs_6) ?_
          rw [← eG10]
          refine r_iconst d_X6_choose_39 ?_
          refine r_istore (ls1 := [(5, (0, 0)), (4, (0, r2)), (0, (2, 33)), (1, (2, p0)), (2, (2, p1)), (3, (0, p2))]) d_X6_choose_40 (by decide) rfl ?_
          exact Rn.sub [2, 3, 4, 5, 0] rfl h
        · replace h := h.2 c9
          refine r_iconst d_X6_choose_32 ?_
          exact r_zreturn d_X6_choose_33 rfl ⟨rfl, Nat.le_refl _, Nat.le_refl _⟩ (by decide) h
set_option maxRecDepth 20000 in
theorem s_X6_choose_42 {d : Nat} {x1 : Int} {x2 : Int} {x3 : Int} {x5 : Int} {G : Mem} {Q : Int → Mem → Prop} (bx1 : Bs 1 x1) (bx2 : Bs 8 x2) (h : (InR x5) ∧ (InR (G x1 8)) ∧ (((G x1 8) ≤ x5) → Q 1 G) ∧ (¬ ((G x1 8) ≤ x5) → (InR (andI (shrI x3 x5) 1)) ∧ (((andI (shrI x3 x5) 1) ≠ 1) → Rn (d + 1) M_X6_choose zN 42 [(0, (2, 33)), (1, (2, x1)), (2, (2, x2)), (3, (0, x3)), (5, (0, (x5 + 1)))] [] G Q) ∧ (¬ ((andI (shrI x3 x5) 1) ≠ 1) → (InR (G 33 3)) ∧ ((3 ≤ (G 33 3)) → Rn (d + 1) M_X6_choose zN 42 [(0, (2, 33)), (1, (2, x1)), (2, (2, x2)), (3, (0, x3)), (5, (0, (x5 + 1)))] [] G Q) ∧ (¬ (3 ≤ (G 33 3)) → Ct d M_X6_addChooser NT 0 0 (some lay) [(2, 33), (2, x1), (2, x2), (0, x5)] G (fun r9 G8 => Rn (d + 1) M_X6_choose zN 42 [(0, (2, 33)), (1, (2, x1)), (2, (2, x2)), (3, (0, x3)), (5, (0, (x5 + 1)))] [] G8 Q))))) : Rn (d + 1) M_X6_choose zN 42 [(0, (2, 33)), (1, (2, x1)), (2, (2, x2)), (3, (0, x3)), (5, (0, x5))] [] G Q := by
  refine r_iload d_X6_choose_42 4 rfl ?_
  refine r_aload_n d_X6_choose_44 1 rfl rfl ?_
  refine r_getI 1 8 8 rfl d_X6_choose_45 fl_X6_27 (by decide) (bs_ob bx1) ?_
  obtain ⟨h1, h⟩ := h
  obtain ⟨h2, h⟩ := h
  refine r_icmp_ge (tgt := 87) d_X6_choose_48 (by decide) h1 h2 (fun c3 => ?_) (fun c3 => ?_)
  · replace h := h.1 c3
    refine r_iconst d_X6_choose_87 ?_
    exact r_zreturn d_X6_choose_88 rfl ⟨rfl, Nat.le_refl _, Nat.le_refl _⟩ (by decide) h
  · replace h := h.2 c3
    refine r_iload_n d_X6_choose_51 3 rfl rfl ?_
    refine r_iload d_X6_choose_52 4 rfl ?_
    refine r_ishr d_X6_choose_54 ?_
    refine r_iconst d_X6_choose_55 ?_
    refine r_iand d_X6_choose_56 ?_
    refine r_iconst d_X6_choose_57 ?_
    obtain ⟨h4, h⟩ := h
    refine r_icmp_ne (tgt := 81) d_X6_choose_58 (by decide) h4 ⟨by decide, by decide⟩ (fun c5 => ?_) (fun c5 => ?_)
    · replace h := h.1 c5
      refine r_iinc (ls1 := [(5, (0, (x5 + 1))), (0, (2, 33)), (1, (2, x1)), (2, (2, x2)), (3, (0, x3))]) d_X6_choose_81 4 rfl (by decide) rfl ?_
      refine r_goto (tgt := 42) d_X6_choose_84 (by decide) ?_
      exact Rn.sub [1, 2, 3, 4, 0] rfl h
    · replace h := h.2 c5
      refine r_aload_n d_X6_choose_61 0 rfl rfl ?_
      refine r_getI 6 3 3 rfl d_X6_choose_62 fl_X6_33 (by decide) (bs_ob bs_6) ?_
      refine r_aload_n d_X6_choose_65 0 rfl rfl ?_
      refine r_getL (v := 34) 6 0 0 rfl d_X6_choose_66 fl_X6_9 (by decide) (bs_ob bs_6) (ly_6_0 bs_6).1 (ly_6_0 bs_6).2.1 ?_
      refine r_alen 3 rfl d_X6_choose_69 (ly_6_0 bs_6).2.2 ?_
      obtain ⟨h6, h⟩ := h
      refine r_icmp_ge (tgt := 81) d_X6_choose_70 (by decide) h6 ⟨by decide, by decide⟩ (fun c7 => ?_) (fun c7 => ?_)
      · replace h := h.1 c7
        refine r_iinc (ls1 := [(5, (0, (x5 + 1))), (0, (2, 33)), (1, (2, x1)), (2, (2, x2)), (3, (0, x3))]) d_X6_choose_81 4 rfl (by decide) rfl ?_
        refine r_goto (tgt := 42) d_X6_choose_84 (by decide) ?_
        exact Rn.sub [1, 2, 3, 4, 0] rfl h
      · replace h := h.2 c7
        refine r_aload_n d_X6_choose_73 0 rfl rfl ?_
        refine r_aload_n d_X6_choose_74 1 rfl rfl ?_
        refine r_aload_n d_X6_choose_75 2 rfl rfl ?_
        refine r_iload d_X6_choose_76 4 rfl ?_
        refine r_callV0 (M' := M_X6_addChooser) (ci := 6) [(2, x1), (2, x2), (0, x5)] d_X6_choose_78 cl_X6_34 rfl (Nat.le_of_ble_eq_true rfl) (by decide) rfl (bs_ob bs_6) ?_
        refine Ct.mono h (fun r9 G8 h => ?_)
        show Rn _ M_X6_choose zN 81 [(0, (2, 33)), (1, (2, x1)), (2, (2, x2)), (3, (0, x3)), (5, (0, x5))] [] G8 Q
        refine r_iinc (ls1 := [(5, (0, (x5 + 1))), (0, (2, 33)), (1, (2, x1)), (2, (2, x2)), (3, (0, x3))]) d_X6_choose_81 4 rfl (by decide) rfl ?_
        refine r_goto (tgt := 42) d_X6_choose_84 (by decide) ?_
        exact Rn.sub [1, 2, 3, 4, 0] rfl h
theorem d_X6_addChooser_0 : decode M_X6_addChooser.2.1 0 = .ok (.aload_n 1, 1) := by decide +kernel
theorem d_X6_addChooser_1 : decode M_X6_addChooser.2.1 1 = .ok (.getfield 38, 3) := by decide +kernel
theorem d_X6_addChooser_4 : decode M_X6_addChooser.2.1 4 = .ok (.iload_n 3, 1) := by decide +kernel
theorem d_X6_addChooser_5 : decode M_X6_addChooser.2.1 5 = .ok (.aaload, 1) := by decide +kernel
theorem d_X6_addChooser_6 : decode M_X6_addChooser.2.1 6 = .ok (.getfield 42, 3) := by decide +kernel
theorem d_X6_addChooser_9 : decode M_X6_addChooser.2.1 9 = .ok (.istore 4, 2) := by decide +kernel
theorem d_X6_addChooser_11 : decode M_X6_addChooser.2.1 11 = .ok (.aload_n 0, 1) := by decide +kernel
theorem d_X6_addChooser_12 : decode M_X6_addChooser.2.1 12 = .ok (.getfield 9, 3) := by decide +kernel
theorem d_X6_addChooser_15 : decode M_X6_addChooser.2.1 15 = .ok (.aload_n 0, 1) := by decide +kernel
theorem d_X6_addChooser_16 : decode M_X6_addChooser.2.1 16 = .ok (.getfield 33, 3) := by decide +kernel
theorem d_X6_addChooser_19 : decode M_X6_addChooser.2.1 19 = .ok (.aload_n 1, 1) := by decide +kernel
theorem d_X6_addChooser_20 : decode M_X6_addChooser.2.1 20 = .ok (.getfield 38, 3) := by decide +kernel
theorem d_X6_addChooser_23 : decode M_X6_addChooser.2.1 23 = .ok (.iload_n 3, 1) := by decide +kernel
theorem d_X6_addChooser_24 : decode M_X6_addChooser.2.1 24 = .ok (.aaload, 1) := by decide +kernel
theorem d_X6_addChooser_25 : decode M_X6_addChooser.2.1 25 = .ok (.getfield 47, 3) := by decide +kernel
theorem d_X6_addChooser_28 : decode M_X6_addChooser.2.1 28 = .ok (.iastore, 1) := by decide +kernel
theorem d_X6_addChooser_29 : decode M_X6_addChooser.2.1 29 = .ok (.iconst 0, 1) := by decide +kernel
theorem d_X6_addChooser_30 : decode M_X6_addChooser.2.1 30 = .ok (.istore 5, 2) := by decide +kernel
theorem d_X6_addChooser_32 : decode M_X6_addChooser.2.1 32 = .ok (.iload 5, 2) := by decide +kernel
theorem d_X6_addChooser_34 : decode M_X6_addChooser.2.1 34 = .ok (.bipush 12, 2) := by decide +kernel
theorem d_X6_addChooser_36 : decode M_X6_addChooser.2.1 36 = .ok (.if_icmp .ge 54, 3) := by decide +kernel
theorem d_X6_addChooser_39 : decode M_X6_addChooser.2.1 39 = .ok (.aload_n 2, 1) := by decide +kernel
theorem d_X6_addChooser_40 : decode M_X6_addChooser.2.1 40 = .ok (.aload_n 1, 1) := by decide +kernel
theorem d_X6_addChooser_41 : decode M_X6_addChooser.2.1 41 = .ok (.iload_n 3, 1) := by decide +kernel
theorem d_X6_addChooser_42 : decode M_X6_addChooser.2.1 42 = .ok (.iload 5, 2) := by decide +kernel
theorem d_X6_addChooser_44 : decode M_X6_addChooser.2.1 44 = .ok (.invokevirtual 50, 3) := by decide +kernel
theorem d_X6_addChooser_47 : decode M_X6_addChooser.2.1 47 = .ok (.istore 6, 2) := by decide +kernel
theorem d_X6_addChooser_49 : decode M_X6_addChooser.2.1 49 = .ok (.aload_n 0, 1) := by decide +kernel
theorem d_X6_addChooser_50 : decode M_X6_addChooser.2.1 50 = .ok (.getfield 15, 3) := by decide +kernel
theorem d_X6_addChooser_53 : decode M_X6_addChooser.2.1 53 = .ok (.aload_n 0, 1) := by decide +kernel
theorem d_X6_addChooser_54 : decode M_X6_addChooser.2.1 54 = .ok (.getfield 33, 3) := by decide +kernel
theorem d_X6_addChooser_57 : decode M_X6_addChooser.2.1 57 = .ok (.bipush 12, 2) := by decide +kernel
theorem d_X6_addChooser_59 : decode M_X6_addChooser.2.1 59 = .ok (.imul, 1) := by decide +kernel
theorem d_X6_addChooser_60 : decode M_X6_addChooser.2.1 60 = .ok (.iload 5, 2) := by decide +kernel
theorem d_X6_addChooser_62 : decode M_X6_addChooser.2.1 62 = .ok (.iadd, 1) := by decide +kernel
theorem d_X6_addChooser_63 : decode M_X6_addChooser.2.1 63 = .ok (.iload 6, 2) := by decide +kernel
theorem d_X6_addChooser_65 : decode M_X6_addChooser.2.1 65 = .ok (.iload 4, 2) := by decide +kernel
theorem d_X6_addChooser_67 : decode M_X6_addChooser.2.1 67 = .ok (.if_icmp .le 8, 3) := by decide +kernel
theorem d_X6_addChooser_70 : decode M_X6_addChooser.2.1 70 = .ok (.bipush 20, 2) := by decide +kernel
theorem d_X6_addChooser_72 : decode M_X6_addChooser.2.1 72 = .ok (.goto 11, 3) := by decide +kernel
theorem d_X6_addChooser_75 : decode M_X6_addChooser.2.1 75 = .ok (.iload 4, 2) := by decide +kernel
theorem d_X6_addChooser_77 : decode M_X6_addChooser.2.1 77 = .ok (.iload 6, 2) := by decide +kernel
theorem d_X6_addChooser_79 : decode M_X6_addChooser.2.1 79 = .ok (.isub, 1) := by decide +kernel
theorem d_X6_addChooser_80 : decode M_X6_addChooser.2.1 80 = .ok (.bipush 10, 2) := by decide +kernel
theorem d_X6_addChooser_82 : decode M_X6_addChooser.2.1 82 = .ok (.idiv, 1) := by decide +kernel
theorem d_X6_addChooser_83 : decode M_X6_addChooser.2.1 83 = .ok (.iastore, 1) := by decide +kernel
theorem d_X6_addChooser_84 : decode M_X6_addChooser.2.1 84 = .ok (.iinc 5 1, 3) := by decide +kernel
theorem d_X6_addChooser_87 : decode M_X6_addChooser.2.1 87 = .ok (.goto (-55), 3) := by decide +kernel
theorem d_X6_addChooser_90 : decode M_X6_addChooser.2.1 90 = .ok (.aload_n 0, 1) := by decide +kernel
theorem d_X6_addChooser_91 : decode M_X6_addChooser.2.1 91 = .ok (.dup, 1) := by decide +kernel
theorem d_X6_addChooser_92 : decode M_X6_addChooser.2.1 92 = .ok (.getfield 33, 3) := by decide +kernel
theorem d_X6_addChooser_95 : decode M_X6_addChooser.2.1 95 = .ok (.iconst 1, 1) := by decide +kernel
theorem d_X6_addChooser_96 : decode M_X6_addChooser.2.1 96 = .ok (.iadd, 1) := by decide +kernel
theorem d_X6_addChooser_97 : decode M_X6_addChooser.2.1 97 = .ok (.putfield 33, 3) := by decide +kernel
theorem d_X6_addChooser_100 : decode M_X6_addChooser.2.1 100 = .ok (.return_, 1) := by decide +kernel
set_option maxRecDepth 20000 in
theorem s_X6_addChooser_0 {d : Nat} {p0 : Int} {p1 : Int} {p2 : Int} {G : Mem} {Q : Int → Mem → Prop} (bp0 : Bs 1 p0) (bp1 : Bs 8 p1) (h : (0 ≤ p2 ∧ p2 < 5) ∧ ((0 ≤ (G 33 3) ∧ (G 33 3) < 3) ∧ (∀ G3 : Mem, G3 = st G 34 (G 33 3) (G ((p0 + 13) + p2) 1) → Rn d M_X6_addChooser zN 32 [(0, (2, 33)), (1, (2, p0)), (2, (2, p1)), (3, (0, p2)), (4, (0, (G ((p0 + 13) + p2) 3))), (5, (0, 0))] [] G3 Q))) : Rn d M_X6_addChooser zN 0 [(0, (2, 33)), (1, (2, p0)), (2, (2, p1)), (3, (0, p2))] [] G Q := by
  refine r_aload_n d_X6_addChooser_0 1 rfl rfl ?_
  refine r_getL (v := (p0 + 1)) 1 0 0 rfl d_X6_addChooser_1 fl_X6_38 (by decide) (bs_ob bp0) (ly_1_0 bp0).1 (ly_1_0 bp0).2.1 ?_
  refine r_iload_n d_X6_addChooser_4 3 rfl rfl ?_
  obtain ⟨h1, h⟩ := h
  refine r_aaloadL (v := ((p0 + 13) + p2)) d_X6_addChooser_5 (ly_1_0 bp0).2.2 (by decide) rfl h1 (el_1_0 bp0 h1.1 h1.2).1 (el_1_0 bp0 h1.1 h1.2).2.1 ?_
  refine r_getI 7 3 3 rfl d_X6_addChooser_6 fl_X6_42 (by decide) (bs_ob (el_1_0 bp0 h1.1 h1.2).2.2) ?_
  refine r_istore (ls1 := [(4, (0, (G ((p0 + 13) + p2) 3))), (0, (2, 33)), (1, (2, p0)), (2, (2, p1)), (3, (0, p2))]) d_X6_addChooser_9 (by decide) rfl ?_
  refine r_aload_n d_X6_addChooser_11 1 rfl rfl ?_
  refine r_getL (v := 34) 6 0 0 rfl d_X6_addChooser_12 fl_X6_9 (by decide) (bs_ob bs_6) (ly_6_0 bs_6).1 (ly_6_0 bs_6).2.1 ?_
  refine r_aload_n d_X6_addChooser_15 1 rfl rfl ?_
  refine r_getI 6 3 3 rfl d_X6_addChooser_16 fl_X6_33 (by decide) (bs_ob bs_6) ?_
  refine r_aload_n d_X6_addChooser_19 2 rfl rfl ?_
  refine r_getL (v := (p0 + 1)) 1 0 0 rfl d_X6_addChooser_20 fl_X6_38 (by decide) (bs_ob bp0) (ly_1_0 bp0).1 (ly_1_0 bp0).2.1 ?_
  refine r_iload_n d_X6_addChooser_23 4 rfl rfl ?_
  refine r_aaloadL (v := ((p0 + 13) + p2)) d_X6_addChooser_24 (ly_1_0 bp0).2.2 (by decide) rfl h1 (el_1_0 bp0 h1.1 h1.2).1 (el_1_0 bp0 h1.1 h1.2).2.1 ?_
  refine r_getI 7 1 1 rfl d_X6_addChooser_25 fl_X6_47 (by decide) (bs_ob (el_1_0 bp0 h1.1 h1.2).2.2) ?_
  obtain ⟨h2, h⟩ := h
  obtain ⟨G3, eG3⟩ : ∃ y : Mem, y = st G 34 (G 33 3) (G ((p0 + 13) + p2) 1) := ⟨_, rfl⟩
  replace h := h G3 eG3
  refine r_iastore d_X6_addChooser_28 (ly_6_0 bs_6).2.2 h2 ?_
  rw [← eG3]
  refine r_iconst d_X6_addChooser_29 ?_
  refine r_istore (ls1 := [(5, (0, 0)), (4, (0, (G ((p0 + 13) + p2) 3))), (0, (2, 33)), (1, (2, p0)), (2, (2, p1)), (3, (0, p2))]) d_X6_addChooser_30 (by decide) rfl ?_
  exact Rn.sub [2, 3, 4, 5, 1, 0] rfl h
set_option maxRecDepth 20000 in
theorem s_X6_addChooser_32 {d : Nat} {x1 : Int} {x2 : Int} {x3 : Int} {x4 : Int} {x5 : Int} {G : Mem} {Q : Int → Mem → Prop} (bx1 : Bs 1 x1) (bx2 : Bs 8 x2) (h : (InR x5) ∧ ((12 ≤ x5) → (∀ G3 : Mem, G3 = st G 33 3 ((G 33 3) + 1) → Q 0 G3)) ∧ (¬ (12 ≤ x5) → Ct d M_X8_needIn NT 0 0 (some lay) [(2, x2), (2, x1), (0, x3), (0, x5)] G (fun r5 G4 => (InR r5) ∧ (InR x4) ∧ ((r5 ≤ x4) → (InR (x4 - r5)) ∧ ((0 ≤ (((G4 33 3) * 12) + x5) ∧ (((G4 33 3) * 12) + x5) < 36) ∧ (∀ G11 : Mem, G11 = st G4 35 (((G4 33 3) * 12) + x5) (Int.tdiv (x4 - r5) 10) → Rn (d + 1) M_X6_addChooser zN 32 [(0, (2, 33)), (1, (2, x1)), (2, (2, x2)), (3, (0, x3)), (4, (0, x4)), (5, (0, (x5 + 1)))] [] G11 Q))) ∧ (¬ (r5 ≤ x4) → (0 ≤ (((G4 33 3) * 12) + x5) ∧ (((G4 33 3) * 12) + x5) < 36) ∧ (∀ G13 : Mem, G13 = st G4 35 (((G4 33 3) * 12) + x5) 20 → Rn (d + 1) M_X6_addChooser zN 32 [(0, (2, 33)), (1, (2, x1)), (2, (2, x2)), (3, (0, x3)), (4, (0, x4)), (5, (0, (x5 + 1)))] [] G13 Q))))) : Rn (d + 1) M_X6_addChooser zN 32 [(0, (2, 33)), (1, (2, x1)), (2, (2, x2)), (3, (0, x3)), (4, (0, x4)), (5, (0, x5))] [] G Q := by
  refine r_iload d_X6_addChooser_32 5 rfl ?_
  refine r_bipush d_X6_addChooser_34 (by decide +kernel) ?_
  obtain ⟨h1, h⟩ := h
  refine r_icmp_ge (tgt := 90) d_X6_addChooser_36 (by decide) h1 ⟨by decide, by decide⟩ (fun c2 => ?_) (fun c2 => ?_)
  · replace h := h.1 c2
    refine r_aload_n d_X6_addChooser_90 0 rfl rfl ?_
    refine r_dup 2 rfl (by decide) d_X6_addChooser_91 ?_
    refine r_getI 6 3 3 rfl d_X6_addChooser_92 fl_X6_33 (by decide) (bs_ob bs_6) ?_
    refine r_iconst d_X6_addChooser_95 ?_
    refine r_iadd d_X6_addChooser_96 ?_
    obtain ⟨G3, eG3⟩ : ∃ y : Mem, y = st G 33 3 ((G 33 3) + 1) := ⟨_, rfl⟩
    replace h := h G3 eG3
    refine r_putI 6 3 3 rfl d_X6_addChooser_97 fl_X6_33 (by decide) nofin_6_3 (bs_ob bs_6) ?_
    rw [← eG3]
    exact r_ret d_X6_addChooser_100 rfl ⟨rfl, Nat.le_refl _, Nat.le_refl _⟩ h
  · replace h := h.2 c2
    refine r_aload_n d_X6_addChooser_39 2 rfl rfl ?_
    refine r_aload_n d_X6_addChooser_40 1 rfl rfl ?_
    refine r_iload_n d_X6_addChooser_41 3 rfl rfl ?_
    refine r_iload d_X6_addChooser_42 5 rfl ?_
    refine r_callV0 (M' := M_X8_needIn) (ci := 8) [(2, x1), (0, x3), (0, x5)] d_X6_addChooser_44 cl_X6_50 rfl (Nat.le_of_ble_eq_true rfl) (by decide) rfl (bs_ob bx2) ?_
    refine Ct.mono h (fun r5 G4 h => ?_)
    show Rn _ M_X6_addChooser zN 47 [(0, (2, 33)), (1, (2, x1)), (2, (2, x2)), (3, (0, x3)), (4, (0, x4)), (5, (0, x5))] [(0, r5)] G4 Q
    refine r_istore (ls1 := [(6, (0, r5)), (0, (2, 33)), (1, (2, x1)), (2, (2, x2)), (3, (0, x3)), (4, (0, x4)), (5, (0, x5))]) d_X6_addChooser_47 (by decide) rfl ?_
    refine r_aload_n d_X6_addChooser_49 1 rfl rfl ?_
    refine r_getL (v := 35) 6 1 1 rfl d_X6_addChooser_50 fl_X6_15 (by decide) (bs_ob bs_6) (ly_6_1 bs_6).1 (ly_6_1 bs_6).2.1 ?_
    refine r_aload_n d_X6_addChooser_53 1 rfl rfl ?_
    refine r_getI 6 3 3 rfl d_X6_addChooser_54 fl_X6_33 (by decide) (bs_ob bs_6) ?_
    refine r_bipush d_X6_addChooser_57 (by decide +kernel) ?_
    refine r_imul d_X6_addChooser_59 ?_
    refine r_iload d_X6_addChooser_60 6 rfl ?_
    refine r_iadd d_X6_addChooser_62 ?_
    refine r_iload d_X6_addChooser_63 0 rfl ?_
    refine r_iload d_X6_addChooser_65 5 rfl ?_
    obtain ⟨h6, h⟩ := h
    obtain ⟨h7, h⟩ := h
    refine r_icmp_le (tgt := 75) d_X6_addChooser_67 (by decide) h6 h7 (fun c8 => ?_) (fun c8 => ?_)
    · replace h := h.1 c8
      refine r_iload d_X6_addChooser_75 5 rfl ?_
      refine r_iload d_X6_addChooser_77 0 rfl ?_
      refine r_isub d_X6_addChooser_79 ?_
      refine r_bipush d_X6_addChooser_80 (by decide +kernel) ?_
      obtain ⟨h9, h⟩ := h
      refine r_idiv d_X6_addChooser_82 h9 ⟨by decide, ⟨by decide, by decide⟩⟩ ?_
      obtain ⟨h10, h⟩ := h
      obtain ⟨G11, eG11⟩ : ∃ y : Mem, y = st G4 35 (((G4 33 3) * 12) + x5) (Int.tdiv (x4 - r5) 10) := ⟨_, rfl⟩
      replace h := h G11 eG11
      refine r_iastore d_X6_addChooser_83 (ly_6_1 bs_6).2.2 h10 ?_
      rw [← eG11]
      refine r_iinc (ls1 := [(5, (0, (x5 + 1))), (6, (0, r5)), (0, (2, 33)), (1, (2, x1)), (2, (2, x2)), (3, (0, x3)), (4, (0, x4))]) d_X6_addChooser_84 6 rfl (by decide) rfl ?_
      refine r_goto (tgt := 32) d_X6_addChooser_87 (by decide) ?_
      exact Rn.sub [2, 3, 4, 5, 6, 0] rfl h
    · replace h := h.2 c8
      refine r_bipush d_X6_addChooser_70 (by decide +kernel) ?_
      refine r_goto (tgt := 83) d_X6_addChooser_72 (by decide) ?_
      obtain ⟨h12, h⟩ := h
      obtain ⟨G13, eG13⟩ : ∃ y : Mem, y = st G4 35 (((G4 33 3) * 12) + x5) 20 := ⟨_, rfl⟩
      replace h := h G13 eG13
      refine r_iastore d_X6_addChooser_83 (ly_6_1 bs_6).2.2 h12 ?_
      rw [← eG13]
      refine r_iinc (ls1 := [(5, (0, (x5 + 1))), (6, (0, r5)), (0, (2, 33)), (1, (2, x1)), (2, (2, x2)), (3, (0, x3)), (4, (0, x4))]) d_X6_addChooser_84 6 rfl (by decide) rfl ?_
      refine r_goto (tgt := 32) d_X6_addChooser_87 (by decide) ?_
      exact Rn.sub [2, 3, 4, 5, 6, 0] rfl h
theorem d_X6_choices_0 : decode M_X6_choices.2.1 0 = .ok (.aload_n 0, 1) := by decide +kernel
theorem d_X6_choices_1 : decode M_X6_choices.2.1 1 = .ok (.getfield 33, 3) := by decide +kernel
theorem d_X6_choices_4 : decode M_X6_choices.2.1 4 = .ok (.iconst 2, 1) := by decide +kernel
theorem d_X6_choices_5 : decode M_X6_choices.2.1 5 = .ok (.if_icmp .ne 9, 3) := by decide +kernel
theorem d_X6_choices_8 : decode M_X6_choices.2.1 8 = .ok (.sipush 144, 3) := by decide +kernel
theorem d_X6_choices_11 : decode M_X6_choices.2.1 11 = .ok (.goto 6, 3) := by decide +kernel
theorem d_X6_choices_14 : decode M_X6_choices.2.1 14 = .ok (.sipush 1728, 3) := by decide +kernel
theorem d_X6_choices_17 : decode M_X6_choices.2.1 17 = .ok (.ireturn, 1) := by decide +kernel
set_option maxRecDepth 20000 in
theorem s_X6_choices_0 {d : Nat}  {G : Mem} {Q : Int → Mem → Prop}  (h : (InR (G 33 3)) ∧ (((G 33 3) ≠ 2) → Q 1728 G) ∧ (¬ ((G 33 3) ≠ 2) → Q 144 G)) : Rn d M_X6_choices zN 0 [(0, (2, 33))] [] G Q := by
  refine r_aload_n d_X6_choices_0 0 rfl rfl ?_
  refine r_getI 6 3 3 rfl d_X6_choices_1 fl_X6_33 (by decide) (bs_ob bs_6) ?_
  refine r_iconst d_X6_choices_4 ?_
  obtain ⟨h1, h⟩ := h
  refine r_icmp_ne (tgt := 14) d_X6_choices_5 (by decide) h1 ⟨by decide, by decide⟩ (fun c2 => ?_) (fun c2 => ?_)
  · replace h := h.1 c2
    refine r_sipush d_X6_choices_14 (by decide +kernel) ?_
    exact r_ireturn d_X6_choices_17 rfl ⟨rfl, Nat.le_refl _, Nat.le_refl _⟩ h
  · replace h := h.2 c2
    refine r_sipush d_X6_choices_8 (by decide +kernel) ?_
    refine r_goto (tgt := 17) d_X6_choices_11 (by decide) ?_
    exact r_ireturn d_X6_choices_17 rfl ⟨rfl, Nat.le_refl _, Nat.le_refl _⟩ h
theorem d_X6_howMany_0 : decode M_X6_howMany.2.1 0 = .ok (.iconst 0, 1) := by decide +kernel
theorem d_X6_howMany_1 : decode M_X6_howMany.2.1 1 = .ok (.istore_n 1, 1) := by decide +kernel
theorem d_X6_howMany_2 : decode M_X6_howMany.2.1 2 = .ok (.iconst 0, 1) := by decide +kernel
theorem d_X6_howMany_3 : decode M_X6_howMany.2.1 3 = .ok (.istore_n 2, 1) := by decide +kernel
theorem d_X6_howMany_4 : decode M_X6_howMany.2.1 4 = .ok (.iload_n 2, 1) := by decide +kernel
theorem d_X6_howMany_5 : decode M_X6_howMany.2.1 5 = .ok (.aload_n 0, 1) := by decide +kernel
theorem d_X6_howMany_6 : decode M_X6_howMany.2.1 6 = .ok (.invokevirtual 56, 3) := by decide +kernel
theorem d_X6_howMany_9 : decode M_X6_howMany.2.1 9 = .ok (.if_icmp .ge 20, 3) := by decide +kernel
theorem d_X6_howMany_12 : decode M_X6_howMany.2.1 12 = .ok (.aload_n 0, 1) := by decide +kernel
theorem d_X6_howMany_13 : decode M_X6_howMany.2.1 13 = .ok (.iload_n 2, 1) := by decide +kernel
theorem d_X6_howMany_14 : decode M_X6_howMany.2.1 14 = .ok (.invokevirtual 60, 3) := by decide +kernel
theorem d_X6_howMany_17 : decode M_X6_howMany.2.1 17 = .ok (.ifCond .eq 6, 3) := by decide +kernel
theorem d_X6_howMany_20 : decode M_X6_howMany.2.1 20 = .ok (.iinc 1 1, 3) := by decide +kernel
theorem d_X6_howMany_23 : decode M_X6_howMany.2.1 23 = .ok (.iinc 2 1, 3) := by decide +kernel
theorem d_X6_howMany_26 : decode M_X6_howMany.2.1 26 = .ok (.goto (-22), 3) := by decide +kernel
theorem d_X6_howMany_29 : decode M_X6_howMany.2.1 29 = .ok (.iload_n 1, 1) := by decide +kernel
theorem d_X6_howMany_30 : decode M_X6_howMany.2.1 30 = .ok (.ireturn, 1) := by decide +kernel
set_option maxRecDepth 20000 in
theorem s_X6_howMany_0 {d : Nat}  {G : Mem} {Q : Int → Mem → Prop}  (h : Rn d M_X6_howMany zN 4 [(0, (2, 33)), (1, (0, 0)), (2, (0, 0))] [] G Q) : Rn d M_X6_howMany zN 0 [(0, (2, 33))] [] G Q := by
  refine r_iconst d_X6_howMany_0 ?_
  refine r_istore_n (ls1 := [(1, (0, 0)), (0, (2, 33))]) d_X6_howMany_1 rfl (by decide) rfl ?_
  refine r_iconst d_X6_howMany_2 ?_
  refine r_istore_n (ls1 := [(2, (0, 0)), (1, (0, 0)), (0, (2, 33))]) d_X6_howMany_3 rfl (by decide) rfl ?_
  exact Rn.sub [2, 1, 0] rfl h
set_option maxRecDepth 20000 in
theorem s_X6_howMany_4 {d : Nat} {x1 : Int} {x2 : Int} {G : Mem} {Q : Int → Mem → Prop}  (h : Ct d M_X6_choices NT 0 0 (some lay) [(2, 33)] G (fun r2 G1 => (InR x2) ∧ (InR r2) ∧ ((r2 ≤ x2) → Q x1 G1) ∧ (¬ (r2 ≤ x2) → Ct d M_X6_rest NT 0 0 (some lay) [(2, 33), (0, x2)] G1 (fun r7 G6 => (InR r7) ∧ ((r7 = 0) → Rn (d + 1) M_X6_howMany zN 4 [(0, (2, 33)), (1, (0, x1)), (2, (0, (x2 + 1)))] [] G6 Q) ∧ (¬ (r7 = 0) → Rn (d + 1) M_X6_howMany zN 4 [(0, (2, 33)), (1, (0, (x1 + 1))), (2, (0, (x2 + 1)))] [] G6 Q))))) : Rn (d + 1) M_X6_howMany zN 4 [(0, (2, 33)), (1, (0, x1)), (2, (0, x2))] [] G Q := by
  refine r_iload_n d_X6_howMany_4 2 rfl rfl ?_
  refine r_aload_n d_X6_howMany_5 0 rfl rfl ?_
  refine r_callV0 (M' := M_X6_choices) (ci := 6) [] d_X6_howMany_6 cl_X6_56 rfl (Nat.le_of_ble_eq_true rfl) (by decide) rfl (bs_ob bs_6) ?_
  refine Ct.mono h (fun r2 G1 h => ?_)
  show Rn _ M_X6_howMany zN 9 [(0, (2, 33)), (1, (0, x1)), (2, (0, x2))] [(0, r2), (0, x2)] G1 Q
  obtain ⟨h3, h⟩ := h
  obtain ⟨h4, h⟩ := h
  refine r_icmp_ge (tgt := 29) d_X6_howMany_9 (by decide) h3 h4 (fun c5 => ?_) (fun c5 => ?_)
  · replace h := h.1 c5
    refine r_iload_n d_X6_howMany_29 1 rfl rfl ?_
    exact r_ireturn d_X6_howMany_30 rfl ⟨rfl, Nat.le_refl _, Nat.le_refl _⟩ h
  · replace h := h.2 c5
    refine r_aload_n d_X6_howMany_12 0 rfl rfl ?_
    refine r_iload_n d_X6_howMany_13 2 rfl rfl ?_
    refine r_callV0 (M' := M_X6_rest) (ci := 6) [(0, x2)] d_X6_howMany_14 cl_X6_60 rfl (Nat.le_of_ble_eq_true rfl) (by decide) rfl (bs_ob bs_6) ?_
    refine Ct.mono h (fun r7 G6 h => ?_)
    show Rn _ M_X6_howMany zN 17 [(0, (2, 33)), (1, (0, x1)), (2, (0, x2))] [(0, r7)] G6 Q
    obtain ⟨h8, h⟩ := h
    refine r_if_eq (tgt := 23) d_X6_howMany_17 (by decide) h8 (fun c9 => ?_) (fun c9 => ?_)
    · replace h := h.1 c9
      refine r_iinc (ls1 := [(2, (0, (x2 + 1))), (0, (2, 33)), (1, (0, x1))]) d_X6_howMany_23 2 rfl (by decide) rfl ?_
      refine r_goto (tgt := 4) d_X6_howMany_26 (by decide) ?_
      exact Rn.sub [1, 2, 0] rfl h
    · replace h := h.2 c9
      refine r_iinc (ls1 := [(1, (0, (x1 + 1))), (0, (2, 33)), (2, (0, x2))]) d_X6_howMany_20 1 rfl (by decide) rfl ?_
      refine r_iinc (ls1 := [(2, (0, (x2 + 1))), (1, (0, (x1 + 1))), (0, (2, 33))]) d_X6_howMany_23 2 rfl (by decide) rfl ?_
      refine r_goto (tgt := 4) d_X6_howMany_26 (by decide) ?_
      exact Rn.sub [2, 1, 0] rfl h
theorem d_X6_find_0 : decode M_X6_find.2.1 0 = .ok (.iconst 0, 1) := by decide +kernel
theorem d_X6_find_1 : decode M_X6_find.2.1 1 = .ok (.istore_n 2, 1) := by decide +kernel
theorem d_X6_find_2 : decode M_X6_find.2.1 2 = .ok (.iconst 0, 1) := by decide +kernel
theorem d_X6_find_3 : decode M_X6_find.2.1 3 = .ok (.istore_n 3, 1) := by decide +kernel
theorem d_X6_find_4 : decode M_X6_find.2.1 4 = .ok (.iload_n 3, 1) := by decide +kernel
theorem d_X6_find_5 : decode M_X6_find.2.1 5 = .ok (.aload_n 0, 1) := by decide +kernel
theorem d_X6_find_6 : decode M_X6_find.2.1 6 = .ok (.invokevirtual 56, 3) := by decide +kernel
theorem d_X6_find_9 : decode M_X6_find.2.1 9 = .ok (.if_icmp .ge 27, 3) := by decide +kernel
theorem d_X6_find_12 : decode M_X6_find.2.1 12 = .ok (.aload_n 0, 1) := by decide +kernel
theorem d_X6_find_13 : decode M_X6_find.2.1 13 = .ok (.iload_n 3, 1) := by decide +kernel
theorem d_X6_find_14 : decode M_X6_find.2.1 14 = .ok (.invokevirtual 60, 3) := by decide +kernel
theorem d_X6_find_17 : decode M_X6_find.2.1 17 = .ok (.ifCond .eq 13, 3) := by decide +kernel
theorem d_X6_find_20 : decode M_X6_find.2.1 20 = .ok (.iload_n 2, 1) := by decide +kernel
theorem d_X6_find_21 : decode M_X6_find.2.1 21 = .ok (.iload_n 1, 1) := by decide +kernel
theorem d_X6_find_22 : decode M_X6_find.2.1 22 = .ok (.if_icmp .ne 5, 3) := by decide +kernel
theorem d_X6_find_25 : decode M_X6_find.2.1 25 = .ok (.iload_n 3, 1) := by decide +kernel
theorem d_X6_find_26 : decode M_X6_find.2.1 26 = .ok (.ireturn, 1) := by decide +kernel
theorem d_X6_find_27 : decode M_X6_find.2.1 27 = .ok (.iinc 2 1, 3) := by decide +kernel
theorem d_X6_find_30 : decode M_X6_find.2.1 30 = .ok (.iinc 3 1, 3) := by decide +kernel
theorem d_X6_find_33 : decode M_X6_find.2.1 33 = .ok (.goto (-29), 3) := by decide +kernel
theorem d_X6_find_36 : decode M_X6_find.2.1 36 = .ok (.iconst (-1), 1) := by decide +kernel
theorem d_X6_find_37 : decode M_X6_find.2.1 37 = .ok (.ireturn, 1) := by decide +kernel
set_option maxRecDepth 20000 in
theorem s_X6_find_0 {d : Nat} {p0 : Int} {G : Mem} {Q : Int → Mem → Prop}  (h : Rn d M_X6_find zN 4 [(0, (2, 33)), (1, (0, p0)), (2, (0, 0)), (3, (0, 0))] [] G Q) : Rn d M_X6_find zN 0 [(0, (2, 33)), (1, (0, p0))] [] G Q := by
  refine r_iconst d_X6_find_0 ?_
  refine r_istore_n (ls1 := [(2, (0, 0)), (0, (2, 33)), (1, (0, p0))]) d_X6_find_1 rfl (by decide) rfl ?_
  refine r_iconst d_X6_find_2 ?_
  refine r_istore_n (ls1 := [(3, (0, 0)), (2, (0, 0)), (0, (2, 33)), (1, (0, p0))]) d_X6_find_3 rfl (by decide) rfl ?_
  exact Rn.sub [2, 3, 1, 0] rfl h
set_option maxRecDepth 20000 in
theorem s_X6_find_4 {d : Nat} {x1 : Int} {x2 : Int} {x3 : Int} {G : Mem} {Q : Int → Mem → Prop}  (h : Ct d M_X6_choices NT 0 0 (some lay) [(2, 33)] G (fun r2 G1 => (InR x3) ∧ (InR r2) ∧ ((r2 ≤ x3) → Q (-1) G1) ∧ (¬ (r2 ≤ x3) → Ct d M_X6_rest NT 0 0 (some lay) [(2, 33), (0, x3)] G1 (fun r7 G6 => (InR r7) ∧ ((r7 = 0) → Rn (d + 1) M_X6_find zN 4 [(0, (2, 33)), (1, (0, x1)), (2, (0, x2)), (3, (0, (x3 + 1)))] [] G6 Q) ∧ (¬ (r7 = 0) → (InR x2) ∧ (InR x1) ∧ ((x2 ≠ x1) → Rn (d + 1) M_X6_find zN 4 [(0, (2, 33)), (1, (0, x1)), (2, (0, (x2 + 1))), (3, (0, (x3 + 1)))] [] G6 Q) ∧ (¬ (x2 ≠ x1) → Q x3 G6)))))) : Rn (d + 1) M_X6_find zN 4 [(0, (2, 33)), (1, (0, x1)), (2, (0, x2)), (3, (0, x3))] [] G Q := by
  refine r_iload_n d_X6_find_4 3 rfl rfl ?_
  refine r_aload_n d_X6_find_5 0 rfl rfl ?_
  refine r_callV0 (M' := M_X6_choices) (ci := 6) [] d_X6_find_6 cl_X6_56 rfl (Nat.le_of_ble_eq_true rfl) (by decide) rfl (bs_ob bs_6) ?_
  refine Ct.mono h (fun r2 G1 h => ?_)
  show Rn _ M_X6_find zN 9 [(0, (2, 33)), (1, (0, x1)), (2, (0, x2)), (3, (0, x3))] [(0, r2), (0, x3)] G1 Q
  obtain ⟨h3, h⟩ := h
  obtain ⟨h4, h⟩ := h
  refine r_icmp_ge (tgt := 36) d_X6_find_9 (by decide) h3 h4 (fun c5 => ?_) (fun c5 => ?_)
  · replace h := h.1 c5
    refine r_iconst d_X6_find_36 ?_
    exact r_ireturn d_X6_find_37 rfl ⟨rfl, Nat.le_refl _, Nat.le_refl _⟩ h
  · replace h := h.2 c5
    refine r_aload_n d_X6_find_12 0 rfl rfl ?_
    refine r_iload_n d_X6_find_13 3 rfl rfl ?_
    refine r_callV0 (M' := M_X6_rest) (ci := 6) [(0, x3)] d_X6_find_14 cl_X6_60 rfl (Nat.le_of_ble_eq_true rfl) (by decide) rfl (bs_ob bs_6) ?_
    refine Ct.mono h (fun r7 G6 h => ?_)
    show Rn _ M_X6_find zN 17 [(0, (2, 33)), (1, (0, x1)), (2, (0, x2)), (3, (0, x3))] [(0, r7)] G6 Q
    obtain ⟨h8, h⟩ := h
    refine r_if_eq (tgt := 30) d_X6_find_17 (by decide) h8 (fun c9 => ?_) (fun c9 => ?_)
    · replace h := h.1 c9
      refine r_iinc (ls1 := [(3, (0, (x3 + 1))), (0, (2, 33)), (1, (0, x1)), (2, (0, x2))]) d_X6_find_30 3 rfl (by decide) rfl ?_
      refine r_goto (tgt := 4) d_X6_find_33 (by decide) ?_
      exact Rn.sub [1, 2, 3, 0] rfl h
    · replace h := h.2 c9
      refine r_iload_n d_X6_find_20 2 rfl rfl ?_
      refine r_iload_n d_X6_find_21 1 rfl rfl ?_
      obtain ⟨h10, h⟩ := h
      obtain ⟨h11, h⟩ := h
      refine r_icmp_ne (tgt := 27) d_X6_find_22 (by decide) h10 h11 (fun c12 => ?_) (fun c12 => ?_)
      · replace h := h.1 c12
        refine r_iinc (ls1 := [(2, (0, (x2 + 1))), (0, (2, 33)), (1, (0, x1)), (3, (0, x3))]) d_X6_find_27 2 rfl (by decide) rfl ?_
        refine r_iinc (ls1 := [(3, (0, (x3 + 1))), (2, (0, (x2 + 1))), (0, (2, 33)), (1, (0, x1))]) d_X6_find_30 3 rfl (by decide) rfl ?_
        refine r_goto (tgt := 4) d_X6_find_33 (by decide) ?_
        exact Rn.sub [2, 3, 1, 0] rfl h
      · replace h := h.2 c12
        refine r_iload_n d_X6_find_25 3 rfl rfl ?_
        exact r_ireturn d_X6_find_26 rfl ⟨rfl, Nat.le_refl _, Nat.le_refl _⟩ h
theorem d_X6_rest_0 : decode M_X6_rest.2.1 0 = .ok (.iload_n 1, 1) := by decide +kernel
theorem d_X6_rest_1 : decode M_X6_rest.2.1 1 = .ok (.istore_n 2, 1) := by decide +kernel
theorem d_X6_rest_2 : decode M_X6_rest.2.1 2 = .ok (.aload_n 0, 1) := by decide +kernel
theorem d_X6_rest_3 : decode M_X6_rest.2.1 3 = .ok (.getfield 33, 3) := by decide +kernel
theorem d_X6_rest_6 : decode M_X6_rest.2.1 6 = .ok (.iconst 1, 1) := by decide +kernel
theorem d_X6_rest_7 : decode M_X6_rest.2.1 7 = .ok (.isub, 1) := by decide +kernel
theorem d_X6_rest_8 : decode M_X6_rest.2.1 8 = .ok (.istore_n 3, 1) := by decide +kernel
theorem d_X6_rest_9 : decode M_X6_rest.2.1 9 = .ok (.iload_n 3, 1) := by decide +kernel
theorem d_X6_rest_10 : decode M_X6_rest.2.1 10 = .ok (.ifCond .lt 24, 3) := by decide +kernel
theorem d_X6_rest_13 : decode M_X6_rest.2.1 13 = .ok (.aload_n 0, 1) := by decide +kernel
theorem d_X6_rest_14 : decode M_X6_rest.2.1 14 = .ok (.getfield 18, 3) := by decide +kernel
theorem d_X6_rest_17 : decode M_X6_rest.2.1 17 = .ok (.iload_n 3, 1) := by decide +kernel
theorem d_X6_rest_18 : decode M_X6_rest.2.1 18 = .ok (.iload_n 2, 1) := by decide +kernel
theorem d_X6_rest_19 : decode M_X6_rest.2.1 19 = .ok (.bipush 12, 2) := by decide +kernel
theorem d_X6_rest_21 : decode M_X6_rest.2.1 21 = .ok (.irem, 1) := by decide +kernel
theorem d_X6_rest_22 : decode M_X6_rest.2.1 22 = .ok (.iastore, 1) := by decide +kernel
theorem d_X6_rest_23 : decode M_X6_rest.2.1 23 = .ok (.iload_n 2, 1) := by decide +kernel
theorem d_X6_rest_24 : decode M_X6_rest.2.1 24 = .ok (.bipush 12, 2) := by decide +kernel
theorem d_X6_rest_26 : decode M_X6_rest.2.1 26 = .ok (.idiv, 1) := by decide +kernel
theorem d_X6_rest_27 : decode M_X6_rest.2.1 27 = .ok (.istore_n 2, 1) := by decide +kernel
theorem d_X6_rest_28 : decode M_X6_rest.2.1 28 = .ok (.iinc 3 (-1), 3) := by decide +kernel
theorem d_X6_rest_31 : decode M_X6_rest.2.1 31 = .ok (.goto (-22), 3) := by decide +kernel
theorem d_X6_rest_34 : decode M_X6_rest.2.1 34 = .ok (.iconst 0, 1) := by decide +kernel
theorem d_X6_rest_35 : decode M_X6_rest.2.1 35 = .ok (.istore_n 3, 1) := by decide +kernel
theorem d_X6_rest_36 : decode M_X6_rest.2.1 36 = .ok (.iload_n 3, 1) := by decide +kernel
theorem d_X6_rest_37 : decode M_X6_rest.2.1 37 = .ok (.aload_n 0, 1) := by decide +kernel
theorem d_X6_rest_38 : decode M_X6_rest.2.1 38 = .ok (.getfield 33, 3) := by decide +kernel
theorem d_X6_rest_41 : decode M_X6_rest.2.1 41 = .ok (.if_icmp .ge 52, 3) := by decide +kernel
theorem d_X6_rest_44 : decode M_X6_rest.2.1 44 = .ok (.aload_n 0, 1) := by decide +kernel
theorem d_X6_rest_45 : decode M_X6_rest.2.1 45 = .ok (.iload_n 3, 1) := by decide +kernel
theorem d_X6_rest_46 : decode M_X6_rest.2.1 46 = .ok (.aload_n 0, 1) := by decide +kernel
theorem d_X6_rest_47 : decode M_X6_rest.2.1 47 = .ok (.getfield 18, 3) := by decide +kernel
theorem d_X6_rest_50 : decode M_X6_rest.2.1 50 = .ok (.iload_n 3, 1) := by decide +kernel
theorem d_X6_rest_51 : decode M_X6_rest.2.1 51 = .ok (.iaload, 1) := by decide +kernel
theorem d_X6_rest_52 : decode M_X6_rest.2.1 52 = .ok (.invokevirtual 64, 3) := by decide +kernel
theorem d_X6_rest_55 : decode M_X6_rest.2.1 55 = .ok (.istore 4, 2) := by decide +kernel
theorem d_X6_rest_57 : decode M_X6_rest.2.1 57 = .ok (.iconst 0, 1) := by decide +kernel
theorem d_X6_rest_58 : decode M_X6_rest.2.1 58 = .ok (.istore 5, 2) := by decide +kernel
theorem d_X6_rest_60 : decode M_X6_rest.2.1 60 = .ok (.iload 5, 2) := by decide +kernel
theorem d_X6_rest_62 : decode M_X6_rest.2.1 62 = .ok (.bipush 12, 2) := by decide +kernel
theorem d_X6_rest_64 : decode M_X6_rest.2.1 64 = .ok (.if_icmp .ge 23, 3) := by decide +kernel
theorem d_X6_rest_67 : decode M_X6_rest.2.1 67 = .ok (.aload_n 0, 1) := by decide +kernel
theorem d_X6_rest_68 : decode M_X6_rest.2.1 68 = .ok (.iload_n 3, 1) := by decide +kernel
theorem d_X6_rest_69 : decode M_X6_rest.2.1 69 = .ok (.iload 5, 2) := by decide +kernel
theorem d_X6_rest_71 : decode M_X6_rest.2.1 71 = .ok (.invokevirtual 64, 3) := by decide +kernel
theorem d_X6_rest_74 : decode M_X6_rest.2.1 74 = .ok (.iload 4, 2) := by decide +kernel
theorem d_X6_rest_76 : decode M_X6_rest.2.1 76 = .ok (.if_icmp .ge 5, 3) := by decide +kernel
theorem d_X6_rest_79 : decode M_X6_rest.2.1 79 = .ok (.iconst 0, 1) := by decide +kernel
theorem d_X6_rest_80 : decode M_X6_rest.2.1 80 = .ok (.ireturn, 1) := by decide +kernel
theorem d_X6_rest_81 : decode M_X6_rest.2.1 81 = .ok (.iinc 5 1, 3) := by decide +kernel
theorem d_X6_rest_84 : decode M_X6_rest.2.1 84 = .ok (.goto (-24), 3) := by decide +kernel
theorem d_X6_rest_87 : decode M_X6_rest.2.1 87 = .ok (.iinc 3 1, 3) := by decide +kernel
theorem d_X6_rest_90 : decode M_X6_rest.2.1 90 = .ok (.goto (-54), 3) := by decide +kernel
theorem d_X6_rest_93 : decode M_X6_rest.2.1 93 = .ok (.iconst 1, 1) := by decide +kernel
theorem d_X6_rest_94 : decode M_X6_rest.2.1 94 = .ok (.ireturn, 1) := by decide +kernel
set_option maxRecDepth 20000 in
theorem s_X6_rest_0 {d : Nat} {p0 : Int} {G : Mem} {Q : Int → Mem → Prop}  (h : Rn d M_X6_rest zN 9 [(0, (2, 33)), (2, (0, p0)), (3, (0, ((G 33 3) - 1)))] [] G Q) : Rn d M_X6_rest zN 0 [(0, (2, 33)), (1, (0, p0))] [] G Q := by
  refine r_iload_n d_X6_rest_0 1 rfl rfl ?_
  refine r_istore_n (ls1 := [(2, (0, p0)), (0, (2, 33)), (1, (0, p0))]) d_X6_rest_1 rfl (by decide) rfl ?_
  refine r_aload_n d_X6_rest_2 1 rfl rfl ?_
  refine r_getI 6 3 3 rfl d_X6_rest_3 fl_X6_33 (by decide) (bs_ob bs_6) ?_
  refine r_iconst d_X6_rest_6 ?_
  refine r_isub d_X6_rest_7 ?_
  refine r_istore_n (ls1 := [(3, (0, ((G 33 3) - 1))), (2, (0, p0)), (0, (2, 33)), (1, (0, p0))]) d_X6_rest_8 rfl (by decide) rfl ?_
  exact Rn.sub [2, 1, 0] rfl h
set_option maxRecDepth 20000 in
theorem s_X6_rest_9 {d : Nat} {x2 : Int} {x3 : Int} {G : Mem} {Q : Int → Mem → Prop}  (h : (InR x3) ∧ ((x3 < 0) → Rn d M_X6_rest zN 36 [(0, (2, 33)), (3, (0, 0))] [] G Q) ∧ (¬ (x3 < 0) → (InR x2) ∧ ((0 ≤ x3 ∧ x3 < 3) ∧ (∀ G5 : Mem, G5 = st G 36 x3 (Int.tmod x2 12) → Rn d M_X6_rest zN 9 [(0, (2, 33)), (2, (0, (Int.tdiv x2 12))), (3, (0, (x3 + (-1))))] [] G5 Q)))) : Rn d M_X6_rest zN 9 [(0, (2, 33)), (2, (0, x2)), (3, (0, x3))] [] G Q := by
  refine r_iload_n d_X6_rest_9 2 rfl rfl ?_
  obtain ⟨h1, h⟩ := h
  refine r_if_lt (tgt := 34) d_X6_rest_10 (by decide) h1 (fun c2 => ?_) (fun c2 => ?_)
  · replace h := h.1 c2
    refine r_iconst d_X6_rest_34 ?_
    refine r_istore_n (ls1 := [(3, (0, 0)), (0, (2, 33)), (2, (0, x2))]) d_X6_rest_35 rfl (by decide) rfl ?_
    exact Rn.sub [1, 0] rfl h
  · replace h := h.2 c2
    refine r_aload_n d_X6_rest_13 0 rfl rfl ?_
    refine r_getL (v := 36) 6 2 2 rfl d_X6_rest_14 fl_X6_18 (by decide) (bs_ob bs_6) (ly_6_2 bs_6).1 (ly_6_2 bs_6).2.1 ?_
    refine r_iload_n d_X6_rest_17 2 rfl rfl ?_
    refine r_iload_n d_X6_rest_18 1 rfl rfl ?_
    refine r_bipush d_X6_rest_19 (by decide +kernel) ?_
    obtain ⟨h3, h⟩ := h
    refine r_irem d_X6_rest_21 h3 ⟨by decide, ⟨by decide, by decide⟩⟩ ?_
    obtain ⟨h4, h⟩ := h
    obtain ⟨G5, eG5⟩ : ∃ y : Mem, y = st G 36 x3 (Int.tmod x2 12) := ⟨_, rfl⟩
    replace h := h G5 eG5
    refine r_iastore d_X6_rest_22 (ly_6_2 bs_6).2.2 h4 ?_
    rw [← eG5]
    refine r_iload_n d_X6_rest_23 1 rfl rfl ?_
    refine r_bipush d_X6_rest_24 (by decide +kernel) ?_
    refine r_idiv d_X6_rest_26 h3 ⟨by decide, ⟨by decide, by decide⟩⟩ ?_
    refine r_istore_n (ls1 := [(2, (0, (Int.tdiv x2 12))), (0, (2, 33)), (3, (0, x3))]) d_X6_rest_27 rfl (by decide) rfl ?_
    refine r_iinc (ls1 := [(3, (0, (x3 + (-1)))), (2, (0, (Int.tdiv x2 12))), (0, (2, 33))]) d_X6_rest_28 2 rfl (by decide) rfl ?_
    refine r_goto (tgt := 9) d_X6_rest_31 (by decide) ?_
    exact Rn.sub [2, 1, 0] rfl h
set_option maxRecDepth 20000 in
theorem s_X6_rest_36 {d : Nat} {x3 : Int} {G : Mem} {Q : Int → Mem → Prop}  (h : (InR x3) ∧ (InR (G 33 3)) ∧ (((G 33 3) ≤ x3) → Q 1 G) ∧ (¬ ((G 33 3) ≤ x3) → (0 ≤ x3 ∧ x3 < 3) ∧ (Ct d M_X6_pays NT 0 0 (some lay) [(2, 33), (0, x3), (0, (G 36 x3))] G (fun r6 G5 => Rn (d + 1) M_X6_rest zN 60 [(0, (2, 33)), (3, (0, x3)), (4, (0, r6)), (5, (0, 0))] [] G5 Q)))) : Rn (d + 1) M_X6_rest zN 36 [(0, (2, 33)), (3, (0, x3))] [] G Q := by
  refine r_iload_n d_X6_rest_36 1 rfl rfl ?_
  refine r_aload_n d_X6_rest_37 0 rfl rfl ?_
  refine r_getI 6 3 3 rfl d_X6_rest_38 fl_X6_33 (by decide) (bs_ob bs_6) ?_
  obtain ⟨h1, h⟩ := h
  obtain ⟨h2, h⟩ := h
  refine r_icmp_ge (tgt := 93) d_X6_rest_41 (by decide) h1 h2 (fun c3 => ?_) (fun c3 => ?_)
  · replace h := h.1 c3
    refine r_iconst d_X6_rest_93 ?_
    exact r_zreturn d_X6_rest_94 rfl ⟨rfl, Nat.le_refl _, Nat.le_refl _⟩ (by decide) h
  · replace h := h.2 c3
    refine r_aload_n d_X6_rest_44 0 rfl rfl ?_
    refine r_iload_n d_X6_rest_45 1 rfl rfl ?_
    refine r_aload_n d_X6_rest_46 0 rfl rfl ?_
    refine r_getL (v := 36) 6 2 2 rfl d_X6_rest_47 fl_X6_18 (by decide) (bs_ob bs_6) (ly_6_2 bs_6).1 (ly_6_2 bs_6).2.1 ?_
    refine r_iload_n d_X6_rest_50 1 rfl rfl ?_
    obtain ⟨h4, h⟩ := h
    refine r_iaload d_X6_rest_51 (ly_6_2 bs_6).2.2 h4 ?_
    refine r_callV0 (M' := M_X6_pays) (ci := 6) [(0, x3), (0, (G 36 x3))] d_X6_rest_52 cl_X6_64 rfl (Nat.le_of_ble_eq_true rfl) (by decide) rfl (bs_ob bs_6) ?_
    refine Ct.mono h (fun r6 G5 h => ?_)
    show Rn _ M_X6_rest zN 55 [(0, (2, 33)), (3, (0, x3))] [(0, r6)] G5 Q
    refine r_istore (ls1 := [(4, (0, r6)), (0, (2, 33)), (3, (0, x3))]) d_X6_rest_55 (by decide) rfl ?_
    refine r_iconst d_X6_rest_57 ?_
    refine r_istore (ls1 := [(5, (0, 0)), (4, (0, r6)), (0, (2, 33)), (3, (0, x3))]) d_X6_rest_58 (by decide) rfl ?_
    exact Rn.sub [2, 3, 1, 0] rfl h
set_option maxRecDepth 20000 in
theorem s_X6_rest_60 {d : Nat} {x3 : Int} {x4 : Int} {x5 : Int} {G : Mem} {Q : Int → Mem → Prop}  (h : (InR x5) ∧ ((12 ≤ x5) → Rn (d + 1) M_X6_rest zN 36 [(0, (2, 33)), (3, (0, (x3 + 1)))] [] G Q) ∧ (¬ (12 ≤ x5) → Ct d M_X6_pays NT 0 0 (some lay) [(2, 33), (0, x3), (0, x5)] G (fun r4 G3 => (InR r4) ∧ (InR x4) ∧ ((x4 ≤ r4) → Rn (d + 1) M_X6_rest zN 60 [(0, (2, 33)), (3, (0, x3)), (4, (0, x4)), (5, (0, (x5 + 1)))] [] G3 Q) ∧ (¬ (x4 ≤ r4) → Q 0 G3)))) : Rn (d + 1) M_X6_rest zN 60 [(0, (2, 33)), (3, (0, x3)), (4, (0, x4)), (5, (0, x5))] [] G Q := by
  refine r_iload d_X6_rest_60 3 rfl ?_
  refine r_bipush d_X6_rest_62 (by decide +kernel) ?_
  obtain ⟨h1, h⟩ := h
  refine r_icmp_ge (tgt := 87) d_X6_rest_64 (by decide) h1 ⟨by decide, by decide⟩ (fun c2 => ?_) (fun c2 => ?_)
  · replace h := h.1 c2
    refine r_iinc (ls1 := [(3, (0, (x3 + 1))), (0, (2, 33)), (4, (0, x4)), (5, (0, x5))]) d_X6_rest_87 1 rfl (by decide) rfl ?_
    refine r_goto (tgt := 36) d_X6_rest_90 (by decide) ?_
    exact Rn.sub [1, 0] rfl h
  · replace h := h.2 c2
    refine r_aload_n d_X6_rest_67 0 rfl rfl ?_
    refine r_iload_n d_X6_rest_68 1 rfl rfl ?_
    refine r_iload d_X6_rest_69 3 rfl ?_
    refine r_callV0 (M' := M_X6_pays) (ci := 6) [(0, x3), (0, x5)] d_X6_rest_71 cl_X6_64 rfl (Nat.le_of_ble_eq_true rfl) (by decide) rfl (bs_ob bs_6) ?_
    refine Ct.mono h (fun r4 G3 h => ?_)
    show Rn _ M_X6_rest zN 74 [(0, (2, 33)), (3, (0, x3)), (4, (0, x4)), (5, (0, x5))] [(0, r4)] G3 Q
    refine r_iload d_X6_rest_74 2 rfl ?_
    obtain ⟨h5, h⟩ := h
    obtain ⟨h6, h⟩ := h
    refine r_icmp_ge (tgt := 81) d_X6_rest_76 (by decide) h5 h6 (fun c7 => ?_) (fun c7 => ?_)
    · replace h := h.1 c7
      refine r_iinc (ls1 := [(5, (0, (x5 + 1))), (0, (2, 33)), (3, (0, x3)), (4, (0, x4))]) d_X6_rest_81 3 rfl (by decide) rfl ?_
      refine r_goto (tgt := 60) d_X6_rest_84 (by decide) ?_
      exact Rn.sub [1, 2, 3, 0] rfl h
    · replace h := h.2 c7
      refine r_iconst d_X6_rest_79 ?_
      exact r_zreturn d_X6_rest_80 rfl ⟨rfl, Nat.le_refl _, Nat.le_refl _⟩ (by decide) h
theorem d_X6_pays_0 : decode M_X6_pays.2.1 0 = .ok (.aload_n 0, 1) := by decide +kernel
theorem d_X6_pays_1 : decode M_X6_pays.2.1 1 = .ok (.getfield 15, 3) := by decide +kernel
theorem d_X6_pays_4 : decode M_X6_pays.2.1 4 = .ok (.iload_n 1, 1) := by decide +kernel
theorem d_X6_pays_5 : decode M_X6_pays.2.1 5 = .ok (.bipush 12, 2) := by decide +kernel
theorem d_X6_pays_7 : decode M_X6_pays.2.1 7 = .ok (.imul, 1) := by decide +kernel
theorem d_X6_pays_8 : decode M_X6_pays.2.1 8 = .ok (.iload_n 2, 1) := by decide +kernel
theorem d_X6_pays_9 : decode M_X6_pays.2.1 9 = .ok (.iadd, 1) := by decide +kernel
theorem d_X6_pays_10 : decode M_X6_pays.2.1 10 = .ok (.iaload, 1) := by decide +kernel
theorem d_X6_pays_11 : decode M_X6_pays.2.1 11 = .ok (.istore_n 3, 1) := by decide +kernel
theorem d_X6_pays_12 : decode M_X6_pays.2.1 12 = .ok (.iconst 0, 1) := by decide +kernel
theorem d_X6_pays_13 : decode M_X6_pays.2.1 13 = .ok (.istore 4, 2) := by decide +kernel
theorem d_X6_pays_15 : decode M_X6_pays.2.1 15 = .ok (.iload 4, 2) := by decide +kernel
theorem d_X6_pays_17 : decode M_X6_pays.2.1 17 = .ok (.aload_n 0, 1) := by decide +kernel
theorem d_X6_pays_18 : decode M_X6_pays.2.1 18 = .ok (.getfield 33, 3) := by decide +kernel
theorem d_X6_pays_21 : decode M_X6_pays.2.1 21 = .ok (.if_icmp .ge 39, 3) := by decide +kernel
theorem d_X6_pays_24 : decode M_X6_pays.2.1 24 = .ok (.aload_n 0, 1) := by decide +kernel
theorem d_X6_pays_25 : decode M_X6_pays.2.1 25 = .ok (.getfield 9, 3) := by decide +kernel
theorem d_X6_pays_28 : decode M_X6_pays.2.1 28 = .ok (.iload 4, 2) := by decide +kernel
theorem d_X6_pays_30 : decode M_X6_pays.2.1 30 = .ok (.iaload, 1) := by decide +kernel
theorem d_X6_pays_31 : decode M_X6_pays.2.1 31 = .ok (.aload_n 0, 1) := by decide +kernel
theorem d_X6_pays_32 : decode M_X6_pays.2.1 32 = .ok (.getfield 9, 3) := by decide +kernel
theorem d_X6_pays_35 : decode M_X6_pays.2.1 35 = .ok (.iload_n 1, 1) := by decide +kernel
theorem d_X6_pays_36 : decode M_X6_pays.2.1 36 = .ok (.iaload, 1) := by decide +kernel
theorem d_X6_pays_37 : decode M_X6_pays.2.1 37 = .ok (.if_icmp .le 17, 3) := by decide +kernel
theorem d_X6_pays_40 : decode M_X6_pays.2.1 40 = .ok (.aload_n 0, 1) := by decide +kernel
theorem d_X6_pays_41 : decode M_X6_pays.2.1 41 = .ok (.getfield 18, 3) := by decide +kernel
theorem d_X6_pays_44 : decode M_X6_pays.2.1 44 = .ok (.iload 4, 2) := by decide +kernel
theorem d_X6_pays_46 : decode M_X6_pays.2.1 46 = .ok (.iaload, 1) := by decide +kernel
theorem d_X6_pays_47 : decode M_X6_pays.2.1 47 = .ok (.iload_n 2, 1) := by decide +kernel
theorem d_X6_pays_48 : decode M_X6_pays.2.1 48 = .ok (.if_icmp .eq 6, 3) := by decide +kernel
theorem d_X6_pays_51 : decode M_X6_pays.2.1 51 = .ok (.iinc 3 3, 3) := by decide +kernel
theorem d_X6_pays_54 : decode M_X6_pays.2.1 54 = .ok (.iinc 4 1, 3) := by decide +kernel
theorem d_X6_pays_57 : decode M_X6_pays.2.1 57 = .ok (.goto (-42), 3) := by decide +kernel
theorem d_X6_pays_60 : decode M_X6_pays.2.1 60 = .ok (.iload_n 3, 1) := by decide +kernel
theorem d_X6_pays_61 : decode M_X6_pays.2.1 61 = .ok (.ireturn, 1) := by decide +kernel
set_option maxRecDepth 20000 in
theorem s_X6_pays_0 {d : Nat} {p0 : Int} {p1 : Int} {G : Mem} {Q : Int → Mem → Prop}  (h : (0 ≤ ((p0 * 12) + p1) ∧ ((p0 * 12) + p1) < 36) ∧ (Rn d M_X6_pays zN 15 [(0, (2, 33)), (1, (0, p0)), (2, (0, p1)), (3, (0, (G 35 ((p0 * 12) + p1)))), (4, (0, 0))] [] G Q)) : Rn d M_X6_pays zN 0 [(0, (2, 33)), (1, (0, p0)), (2, (0, p1))] [] G Q := by
  refine r_aload_n d_X6_pays_0 0 rfl rfl ?_
  refine r_getL (v := 35) 6 1 1 rfl d_X6_pays_1 fl_X6_15 (by decide) (bs_ob bs_6) (ly_6_1 bs_6).1 (ly_6_1 bs_6).2.1 ?_
  refine r_iload_n d_X6_pays_4 1 rfl rfl ?_
  refine r_bipush d_X6_pays_5 (by decide +kernel) ?_
  refine r_imul d_X6_pays_7 ?_
  refine r_iload_n d_X6_pays_8 2 rfl rfl ?_
  refine r_iadd d_X6_pays_9 ?_
  obtain ⟨h1, h⟩ := h
  refine r_iaload d_X6_pays_10 (ly_6_1 bs_6).2.2 h1 ?_
  refine r_istore_n (ls1 := [(3, (0, (G 35 ((p0 * 12) + p1)))), (0, (2, 33)), (1, (0, p0)), (2, (0, p1))]) d_X6_pays_11 rfl (by decide) rfl ?_
  refine r_iconst d_X6_pays_12 ?_
  refine r_istore (ls1 := [(4, (0, 0)), (3, (0, (G 35 ((p0 * 12) + p1)))), (0, (2, 33)), (1, (0, p0)), (2, (0, p1))]) d_X6_pays_13 (by decide) rfl ?_
  exact Rn.sub [2, 3, 4, 1, 0] rfl h
set_option maxRecDepth 20000 in
theorem s_X6_pays_15 {d : Nat} {x1 : Int} {x2 : Int} {x3 : Int} {x4 : Int} {G : Mem} {Q : Int → Mem → Prop}  (h : (InR x4) ∧ (InR (G 33 3)) ∧ (((G 33 3) ≤ x4) → Q x3 G) ∧ (¬ ((G 33 3) ≤ x4) → (0 ≤ x4 ∧ x4 < 3) ∧ ((0 ≤ x1 ∧ x1 < 3) ∧ ((InR (G 34 x4)) ∧ (InR (G 34 x1)) ∧ (((G 34 x4) ≤ (G 34 x1)) → Rn d M_X6_pays zN 15 [(0, (2, 33)), (1, (0, x1)), (2, (0, x2)), (3, (0, x3)), (4, (0, (x4 + 1)))] [] G Q) ∧ (¬ ((G 34 x4) ≤ (G 34 x1)) → (InR (G 36 x4)) ∧ (InR x2) ∧ (((G 36 x4) = x2) → Rn d M_X6_pays zN 15 [(0, (2, 33)), (1, (0, x1)), (2, (0, x2)), (3, (0, x3)), (4, (0, (x4 + 1)))] [] G Q) ∧ (¬ ((G 36 x4) = x2) → Rn d M_X6_pays zN 15 [(0, (2, 33)), (1, (0, x1)), (2, (0, x2)), (3, (0, (x3 + 3))), (4, (0, (x4 + 1)))] [] G Q)))))) : Rn d M_X6_pays zN 15 [(0, (2, 33)), (1, (0, x1)), (2, (0, x2)), (3, (0, x3)), (4, (0, x4))] [] G Q := by
  refine r_iload d_X6_pays_15 4 rfl ?_
  refine r_aload_n d_X6_pays_17 0 rfl rfl ?_
  refine r_getI 6 3 3 rfl d_X6_pays_18 fl_X6_33 (by decide) (bs_ob bs_6) ?_
  obtain ⟨h1, h⟩ := h
  obtain ⟨h2, h⟩ := h
  refine r_icmp_ge (tgt := 60) d_X6_pays_21 (by decide) h1 h2 (fun c3 => ?_) (fun c3 => ?_)
  · replace h := h.1 c3
    refine r_iload_n d_X6_pays_60 3 rfl rfl ?_
    exact r_ireturn d_X6_pays_61 rfl ⟨rfl, Nat.le_refl _, Nat.le_refl _⟩ h
  · replace h := h.2 c3
    refine r_aload_n d_X6_pays_24 0 rfl rfl ?_
    refine r_getL (v := 34) 6 0 0 rfl d_X6_pays_25 fl_X6_9 (by decide) (bs_ob bs_6) (ly_6_0 bs_6).1 (ly_6_0 bs_6).2.1 ?_
    refine r_iload d_X6_pays_28 4 rfl ?_
    obtain ⟨h4, h⟩ := h
    refine r_iaload d_X6_pays_30 (ly_6_0 bs_6).2.2 h4 ?_
    refine r_aload_n d_X6_pays_31 0 rfl rfl ?_
    refine r_getL (v := 34) 6 0 0 rfl d_X6_pays_32 fl_X6_9 (by decide) (bs_ob bs_6) (ly_6_0 bs_6).1 (ly_6_0 bs_6).2.1 ?_
    refine r_iload_n d_X6_pays_35 1 rfl rfl ?_
    obtain ⟨h5, h⟩ := h
    refine r_iaload d_X6_pays_36 (ly_6_0 bs_6).2.2 h5 ?_
    obtain ⟨h6, h⟩ := h
    obtain ⟨h7, h⟩ := h
    refine r_icmp_le (tgt := 54) d_X6_pays_37 (by decide) h6 h7 (fun c8 => ?_) (fun c8 => ?_)
    · replace h := h.1 c8
      refine r_iinc (ls1 := [(4, (0, (x4 + 1))), (0, (2, 33)), (1, (0, x1)), (2, (0, x2)), (3, (0, x3))]) d_X6_pays_54 4 rfl (by decide) rfl ?_
      refine r_goto (tgt := 15) d_X6_pays_57 (by decide) ?_
      exact Rn.sub [1, 2, 3, 4, 0] rfl h
    · replace h := h.2 c8
      refine r_aload_n d_X6_pays_40 0 rfl rfl ?_
      refine r_getL (v := 36) 6 2 2 rfl d_X6_pays_41 fl_X6_18 (by decide) (bs_ob bs_6) (ly_6_2 bs_6).1 (ly_6_2 bs_6).2.1 ?_
      refine r_iload d_X6_pays_44 4 rfl ?_
      refine r_iaload d_X6_pays_46 (ly_6_2 bs_6).2.2 h4 ?_
      refine r_iload_n d_X6_pays_47 2 rfl rfl ?_
      obtain ⟨h9, h⟩ := h
      obtain ⟨h10, h⟩ := h
      refine r_icmp_eq (tgt := 54) d_X6_pays_48 (by decide) h9 h10 (fun c11 => ?_) (fun c11 => ?_)
      · replace h := h.1 c11
        refine r_iinc (ls1 := [(4, (0, (x4 + 1))), (0, (2, 33)), (1, (0, x1)), (2, (0, x2)), (3, (0, x3))]) d_X6_pays_54 4 rfl (by decide) rfl ?_
        refine r_goto (tgt := 15) d_X6_pays_57 (by decide) ?_
        exact Rn.sub [1, 2, 3, 4, 0] rfl h
      · replace h := h.2 c11
        refine r_iinc (ls1 := [(3, (0, (x3 + 3))), (0, (2, 33)), (1, (0, x1)), (2, (0, x2)), (4, (0, x4))]) d_X6_pays_51 3 rfl (by decide) rfl ?_
        refine r_iinc (ls1 := [(4, (0, (x4 + 1))), (3, (0, (x3 + 3))), (0, (2, 33)), (1, (0, x1)), (2, (0, x2))]) d_X6_pays_54 4 rfl (by decide) rfl ?_
        refine r_goto (tgt := 15) d_X6_pays_57 (by decide) ?_
        exact Rn.sub [2, 3, 4, 1, 0] rfl h
