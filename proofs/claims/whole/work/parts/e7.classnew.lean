/-! the constructor of the class -/
theorem d_X11_init_0 : decode cX11_init 0 = .ok (.aload_n 0, 1) := by decide +kernel
theorem d_X11_init_1 : decode cX11_init 1 = .ok (.invokespecial 1, 3) := by decide +kernel
theorem d_X11_init_4 : decode cX11_init 4 = .ok (.aload_n 0, 1) := by decide +kernel
theorem d_X11_init_5 : decode cX11_init 5 = .ok (.new 7, 3) := by decide +kernel
theorem d_X11_init_8 : decode cX11_init 8 = .ok (.dup, 1) := by decide +kernel
theorem d_X11_init_9 : decode cX11_init 9 = .ok (.invokespecial 9, 3) := by decide +kernel
theorem d_X11_init_12 : decode cX11_init 12 = .ok (.putfield 10, 3) := by decide +kernel
theorem d_X11_init_15 : decode cX11_init 15 = .ok (.aload_n 0, 1) := by decide +kernel
theorem d_X11_init_16 : decode cX11_init 16 = .ok (.new 16, 3) := by decide +kernel
theorem d_X11_init_19 : decode cX11_init 19 = .ok (.dup, 1) := by decide +kernel
theorem d_X11_init_20 : decode cX11_init 20 = .ok (.invokespecial 18, 3) := by decide +kernel
theorem d_X11_init_23 : decode cX11_init 23 = .ok (.putfield 19, 3) := by decide +kernel
theorem d_X11_init_26 : decode cX11_init 26 = .ok (.aload_n 0, 1) := by decide +kernel
theorem d_X11_init_27 : decode cX11_init 27 = .ok (.new 23, 3) := by decide +kernel
theorem d_X11_init_30 : decode cX11_init 30 = .ok (.dup, 1) := by decide +kernel
theorem d_X11_init_31 : decode cX11_init 31 = .ok (.invokespecial 25, 3) := by decide +kernel
theorem d_X11_init_34 : decode cX11_init 34 = .ok (.putfield 26, 3) := by decide +kernel
theorem d_X11_init_37 : decode cX11_init 37 = .ok (.aload_n 0, 1) := by decide +kernel
theorem d_X11_init_38 : decode cX11_init 38 = .ok (.new 30, 3) := by decide +kernel
theorem d_X11_init_41 : decode cX11_init 41 = .ok (.dup, 1) := by decide +kernel
theorem d_X11_init_42 : decode cX11_init 42 = .ok (.invokespecial 32, 3) := by decide +kernel
theorem d_X11_init_45 : decode cX11_init 45 = .ok (.putfield 33, 3) := by decide +kernel
theorem d_X11_init_48 : decode cX11_init 48 = .ok (.aload_n 0, 1) := by decide +kernel
theorem d_X11_init_49 : decode cX11_init 49 = .ok (.new 37, 3) := by decide +kernel
theorem d_X11_init_52 : decode cX11_init 52 = .ok (.dup, 1) := by decide +kernel
theorem d_X11_init_53 : decode cX11_init 53 = .ok (.invokespecial 39, 3) := by decide +kernel
theorem d_X11_init_56 : decode cX11_init 56 = .ok (.putfield 40, 3) := by decide +kernel
theorem d_X11_init_59 : decode cX11_init 59 = .ok (.aload_n 0, 1) := by decide +kernel
theorem d_X11_init_60 : decode cX11_init 60 = .ok (.new 44, 3) := by decide +kernel
theorem d_X11_init_63 : decode cX11_init 63 = .ok (.dup, 1) := by decide +kernel
theorem d_X11_init_64 : decode cX11_init 64 = .ok (.invokespecial 46, 3) := by decide +kernel
theorem d_X11_init_67 : decode cX11_init 67 = .ok (.putfield 47, 3) := by decide +kernel
theorem d_X11_init_70 : decode cX11_init 70 = .ok (.aload_n 0, 1) := by decide +kernel
theorem d_X11_init_71 : decode cX11_init 71 = .ok (.new 51, 3) := by decide +kernel
theorem d_X11_init_74 : decode cX11_init 74 = .ok (.dup, 1) := by decide +kernel
theorem d_X11_init_75 : decode cX11_init 75 = .ok (.invokespecial 53, 3) := by decide +kernel
theorem d_X11_init_78 : decode cX11_init 78 = .ok (.putfield 54, 3) := by decide +kernel
theorem d_X11_init_81 : decode cX11_init 81 = .ok (.aload_n 0, 1) := by decide +kernel
theorem d_X11_init_82 : decode cX11_init 82 = .ok (.new 51, 3) := by decide +kernel
theorem d_X11_init_85 : decode cX11_init 85 = .ok (.dup, 1) := by decide +kernel
theorem d_X11_init_86 : decode cX11_init 86 = .ok (.invokespecial 53, 3) := by decide +kernel
theorem d_X11_init_89 : decode cX11_init 89 = .ok (.putfield 58, 3) := by decide +kernel
theorem d_X11_init_92 : decode cX11_init 92 = .ok (.aload_n 0, 1) := by decide +kernel
theorem d_X11_init_93 : decode cX11_init 93 = .ok (.new 61, 3) := by decide +kernel
theorem d_X11_init_96 : decode cX11_init 96 = .ok (.dup, 1) := by decide +kernel
theorem d_X11_init_97 : decode cX11_init 97 = .ok (.invokespecial 63, 3) := by decide +kernel
theorem d_X11_init_100 : decode cX11_init 100 = .ok (.putfield 64, 3) := by decide +kernel
theorem d_X11_init_103 : decode cX11_init 103 = .ok (.aload_n 0, 1) := by decide +kernel
theorem d_X11_init_104 : decode cX11_init 104 = .ok (.new 68, 3) := by decide +kernel
theorem d_X11_init_107 : decode cX11_init 107 = .ok (.dup, 1) := by decide +kernel
theorem d_X11_init_108 : decode cX11_init 108 = .ok (.invokespecial 70, 3) := by decide +kernel
theorem d_X11_init_111 : decode cX11_init 111 = .ok (.putfield 71, 3) := by decide +kernel
theorem d_X11_init_114 : decode cX11_init 114 = .ok (.aload_n 0, 1) := by decide +kernel
theorem d_X11_init_115 : decode cX11_init 115 = .ok (.bipush 12, 2) := by decide +kernel
theorem d_X11_init_117 : decode cX11_init 117 = .ok (.anewarray 61, 3) := by decide +kernel
theorem d_X11_init_120 : decode cX11_init 120 = .ok (.putfield 75, 3) := by decide +kernel
theorem d_X11_init_123 : decode cX11_init 123 = .ok (.iconst 0, 1) := by decide +kernel
theorem d_X11_init_124 : decode cX11_init 124 = .ok (.istore_n 1, 1) := by decide +kernel
theorem d_X11_init_125 : decode cX11_init 125 = .ok (.iload_n 1, 1) := by decide +kernel
theorem d_X11_init_126 : decode cX11_init 126 = .ok (.bipush 12, 2) := by decide +kernel
theorem d_X11_init_128 : decode cX11_init 128 = .ok (.if_icmp .ge 22, 3) := by decide +kernel
theorem d_X11_init_131 : decode cX11_init 131 = .ok (.aload_n 0, 1) := by decide +kernel
theorem d_X11_init_132 : decode cX11_init 132 = .ok (.getfield 75, 3) := by decide +kernel
theorem d_X11_init_135 : decode cX11_init 135 = .ok (.iload_n 1, 1) := by decide +kernel
theorem d_X11_init_136 : decode cX11_init 136 = .ok (.new 61, 3) := by decide +kernel
theorem d_X11_init_139 : decode cX11_init 139 = .ok (.dup, 1) := by decide +kernel
theorem d_X11_init_140 : decode cX11_init 140 = .ok (.invokespecial 63, 3) := by decide +kernel
theorem d_X11_init_143 : decode cX11_init 143 = .ok (.aastore, 1) := by decide +kernel
theorem d_X11_init_144 : decode cX11_init 144 = .ok (.iinc 1 1, 3) := by decide +kernel
theorem d_X11_init_147 : decode cX11_init 147 = .ok (.goto (-22), 3) := by decide +kernel
theorem d_X11_init_150 : decode cX11_init 150 = .ok (.aload_n 0, 1) := by decide +kernel
theorem d_X11_init_151 : decode cX11_init 151 = .ok (.iconst 4, 1) := by decide +kernel
theorem d_X11_init_152 : decode cX11_init 152 = .ok (.newarray .boolean, 2) := by decide +kernel
theorem d_X11_init_154 : decode cX11_init 154 = .ok (.putfield 79, 3) := by decide +kernel
theorem d_X11_init_157 : decode cX11_init 157 = .ok (.aload_n 0, 1) := by decide +kernel
theorem d_X11_init_158 : decode cX11_init 158 = .ok (.iconst 4, 1) := by decide +kernel
theorem d_X11_init_159 : decode cX11_init 159 = .ok (.anewarray 51, 3) := by decide +kernel
theorem d_X11_init_162 : decode cX11_init 162 = .ok (.putfield 83, 3) := by decide +kernel
theorem d_X11_init_165 : decode cX11_init 165 = .ok (.aload_n 0, 1) := by decide +kernel
theorem d_X11_init_166 : decode cX11_init 166 = .ok (.iconst 4, 1) := by decide +kernel
theorem d_X11_init_167 : decode cX11_init 167 = .ok (.anewarray 61, 3) := by decide +kernel
theorem d_X11_init_170 : decode cX11_init 170 = .ok (.putfield 87, 3) := by decide +kernel
theorem d_X11_init_173 : decode cX11_init 173 = .ok (.aload_n 0, 1) := by decide +kernel
theorem d_X11_init_174 : decode cX11_init 174 = .ok (.iconst 4, 1) := by decide +kernel
theorem d_X11_init_175 : decode cX11_init 175 = .ok (.anewarray 68, 3) := by decide +kernel
theorem d_X11_init_178 : decode cX11_init 178 = .ok (.putfield 90, 3) := by decide +kernel
theorem d_X11_init_181 : decode cX11_init 181 = .ok (.iconst 0, 1) := by decide +kernel
theorem d_X11_init_182 : decode cX11_init 182 = .ok (.istore_n 1, 1) := by decide +kernel
theorem d_X11_init_183 : decode cX11_init 183 = .ok (.iload_n 1, 1) := by decide +kernel
theorem d_X11_init_184 : decode cX11_init 184 = .ok (.iconst 4, 1) := by decide +kernel
theorem d_X11_init_185 : decode cX11_init 185 = .ok (.if_icmp .ge 48, 3) := by decide +kernel
theorem d_X11_init_188 : decode cX11_init 188 = .ok (.aload_n 0, 1) := by decide +kernel
theorem d_X11_init_189 : decode cX11_init 189 = .ok (.getfield 83, 3) := by decide +kernel
theorem d_X11_init_192 : decode cX11_init 192 = .ok (.iload_n 1, 1) := by decide +kernel
theorem d_X11_init_193 : decode cX11_init 193 = .ok (.new 51, 3) := by decide +kernel
theorem d_X11_init_196 : decode cX11_init 196 = .ok (.dup, 1) := by decide +kernel
theorem d_X11_init_197 : decode cX11_init 197 = .ok (.invokespecial 53, 3) := by decide +kernel
theorem d_X11_init_200 : decode cX11_init 200 = .ok (.aastore, 1) := by decide +kernel
theorem d_X11_init_201 : decode cX11_init 201 = .ok (.aload_n 0, 1) := by decide +kernel
theorem d_X11_init_202 : decode cX11_init 202 = .ok (.getfield 87, 3) := by decide +kernel
theorem d_X11_init_205 : decode cX11_init 205 = .ok (.iload_n 1, 1) := by decide +kernel
theorem d_X11_init_206 : decode cX11_init 206 = .ok (.new 61, 3) := by decide +kernel
theorem d_X11_init_209 : decode cX11_init 209 = .ok (.dup, 1) := by decide +kernel
theorem d_X11_init_210 : decode cX11_init 210 = .ok (.invokespecial 63, 3) := by decide +kernel
theorem d_X11_init_213 : decode cX11_init 213 = .ok (.aastore, 1) := by decide +kernel
theorem d_X11_init_214 : decode cX11_init 214 = .ok (.aload_n 0, 1) := by decide +kernel
theorem d_X11_init_215 : decode cX11_init 215 = .ok (.getfield 90, 3) := by decide +kernel
theorem d_X11_init_218 : decode cX11_init 218 = .ok (.iload_n 1, 1) := by decide +kernel
theorem d_X11_init_219 : decode cX11_init 219 = .ok (.new 68, 3) := by decide +kernel
theorem d_X11_init_222 : decode cX11_init 222 = .ok (.dup, 1) := by decide +kernel
theorem d_X11_init_223 : decode cX11_init 223 = .ok (.invokespecial 70, 3) := by decide +kernel
theorem d_X11_init_226 : decode cX11_init 226 = .ok (.aastore, 1) := by decide +kernel
theorem d_X11_init_227 : decode cX11_init 227 = .ok (.iinc 1 1, 3) := by decide +kernel
theorem d_X11_init_230 : decode cX11_init 230 = .ok (.goto (-47), 3) := by decide +kernel
theorem d_X11_init_233 : decode cX11_init 233 = .ok (.return_, 1) := by decide +kernel
theorem nw_X11_7 : nwc RX11 7 10 := ⟨_, rfl, (gk1 34 rfl rfl), (gk1 35 rfl rfl), (gk1 2 rfl rfl)⟩
theorem nw_X11_16 : nwc RX11 16 5 := ⟨_, rfl, (gk1 68 rfl rfl), (gk1 69 rfl rfl), (gk1 3 rfl rfl)⟩
theorem nw_X11_23 : nwc RX11 23 0 := ⟨_, rfl, (gk1 92 rfl rfl), (gk1 93 rfl rfl), (gk1 4 rfl rfl)⟩
theorem nw_X11_30 : nwc RX11 30 4 := ⟨_, rfl, (gk1 118 rfl rfl), (gk1 119 rfl rfl), (gk1 5 rfl rfl)⟩
theorem nw_X11_37 : nwc RX11 37 2 := ⟨_, rfl, (gk1 152 rfl rfl), (gk1 153 rfl rfl), (gk1 6 rfl rfl)⟩
theorem nw_X11_44 : nwc RX11 44 6 := ⟨_, rfl, (gk2 31 rfl rfl), (gk2 32 rfl rfl), (gk1 8 rfl rfl)⟩
theorem nw_X11_51 : nwc RX11 51 1 := ⟨_, rfl, (gk2 50 rfl rfl), (gk2 51 rfl rfl), (gk1 9 rfl rfl)⟩
theorem nw_X11_61 : nwc RX11 61 8 := ⟨_, rfl, (gk2 228 rfl rfl), (gk1 159 rfl rfl), (gk1 7 rfl rfl)⟩
theorem nw_X11_68 : nwc RX11 68 9 := ⟨_, rfl, (gk2 230 rfl rfl), (gk2 231 rfl rfl), (gk1 13 rfl rfl)⟩
theorem cl_X11_9 : clNI RX11 9 M_X10_init 0 "PastSleep" := ⟨⟨by decide, gk1 38 rfl rfl, (gk1 2 rfl rfl), ⟨by decide +kernel, by decide +kernel, by decide +kernel⟩, List.mem_of_getElem? (i := 0) rfl⟩, rfl, (gk1 37 rfl rfl), rfl⟩
theorem cl_X11_18 : clNI RX11 18 M_X5_init 0 "PastSleep" := ⟨⟨by decide, gk1 72 rfl rfl, (gk1 3 rfl rfl), ⟨by decide +kernel, by decide +kernel, by decide +kernel⟩, List.mem_of_getElem? (i := 1) rfl⟩, rfl, (gk1 71 rfl rfl), rfl⟩
theorem cl_X11_25 : clNI RX11 25 M_X0_init 0 "PastSleep" := ⟨⟨by decide, gk1 96 rfl rfl, (gk1 4 rfl rfl), ⟨by decide +kernel, by decide +kernel, by decide +kernel⟩, List.mem_of_getElem? (i := 2) rfl⟩, rfl, (gk1 95 rfl rfl), rfl⟩
theorem cl_X11_32 : clNI RX11 32 M_X4_init 0 "PastSleep" := ⟨⟨by decide, gk1 122 rfl rfl, (gk1 5 rfl rfl), ⟨by decide +kernel, by decide +kernel, by decide +kernel⟩, List.mem_of_getElem? (i := 3) rfl⟩, rfl, (gk1 121 rfl rfl), rfl⟩
theorem cl_X11_39 : clNI RX11 39 M_X2_init 0 "PastSleep" := ⟨⟨by decide, gk1 156 rfl rfl, (gk1 6 rfl rfl), ⟨by decide +kernel, by decide +kernel, by decide +kernel⟩, List.mem_of_getElem? (i := 4) rfl⟩, rfl, (gk1 155 rfl rfl), rfl⟩
theorem cl_X11_46 : clNI RX11 46 M_X6_init 0 "PastSleep" := ⟨⟨by decide, gk2 35 rfl rfl, (gk1 8 rfl rfl), ⟨by decide +kernel, by decide +kernel, by decide +kernel⟩, List.mem_of_getElem? (i := 6) rfl⟩, rfl, (gk2 34 rfl rfl), rfl⟩
theorem cl_X11_63 : clNI RX11 63 M_X8_init 0 "PastSleep" := ⟨⟨by decide, gk1 162 rfl rfl, (gk1 7 rfl rfl), ⟨by decide +kernel, by decide +kernel, by decide +kernel⟩, List.mem_of_getElem? (i := 9) rfl⟩, rfl, (gk1 161 rfl rfl), rfl⟩
theorem cl_X11_70 : clNI RX11 70 M_X9_init 0 "PastSleep" := ⟨⟨by decide, gk2 234 rfl rfl, (gk1 13 rfl rfl), ⟨by decide +kernel, by decide +kernel, by decide +kernel⟩, List.mem_of_getElem? (i := 10) rfl⟩, rfl, (gk2 233 rfl rfl), rfl⟩
theorem cl_X11_53 : clI RX11 53 M_X1_init 0 := ⟨⟨by decide, gk2 54 rfl rfl, (gk1 9 rfl rfl), ⟨by decide +kernel, by decide +kernel, by decide +kernel⟩, (gk2 52 rfl rfl)⟩, rfl, (gk2 53 rfl rfl), rfl⟩
def Fs1 : Mem := fun q k => if q = 86 ∨ q = 184 ∨ q = 185 ∨ q = 186 then -1 else fr q k
def Fs2 : Mem := fun q k => if q = 184 ∨ q = 185 ∨ q = 186 then -1 else fr q k
theorem ex_nat : ∀ a ∈ List.range NT, (a < 37 ∨ (73 ≤ a ∧ a < 187) ∨ (187 ≤ a ∧ 18 ≤ (a - 187) % 31)) → exq (a : Int) = 0 := by decide +kernel
theorem ex_int {q : Int} (h0 : 0 ≤ q) (h1 : q < 364) (h : q < 37 ∨ (73 ≤ q ∧ q < 187) ∨ (187 ≤ q ∧ 18 ≤ (q - 187) % 31)) : exq q = 0 := by
  obtain ⟨a, rfl⟩ := Int.eq_ofNat_of_zero_le h0
  exact ex_nat a (List.mem_range.mpr (by show a < 364; omega)) (by omega)
theorem f1_fr {q : Int} (k : Int) (h : q ≠ 86 ∧ q ≠ 184 ∧ q ≠ 185 ∧ q ≠ 186) : Fs1 q k = fr q k := by
  unfold Fs1; rw [if_neg (by omega)]
theorem f2_fr {q : Int} (k : Int) (h : q ≠ 184 ∧ q ≠ 185 ∧ q ≠ 186) : Fs2 q k = fr q k := by
  unfold Fs2; rw [if_neg (by omega)]
theorem f1_Fz {q : Int} (k : Int) (h : q ≠ 86 ∧ q ≠ 184 ∧ q ≠ 185 ∧ q ≠ 186) (h0 : 0 < q) (h1 : q < 364) (hx : q < 37 ∨ (73 ≤ q ∧ q < 187) ∨ (187 ≤ q ∧ 18 ≤ (q - 187) % 31)) : Fz q k = Fs1 q k := by
  rw [f1_fr k h, fr_Fz (by omega) (ex_int (by omega) h1 hx)]
theorem f2_Fz {q : Int} (k : Int) (h : q ≠ 184 ∧ q ≠ 185 ∧ q ≠ 186) (h0 : 0 < q) (h1 : q < 364) (hx : q < 37 ∨ (73 ≤ q ∧ q < 187) ∨ (187 ≤ q ∧ 18 ≤ (q - 187) % 31)) : Fz q k = Fs2 q k := by
  rw [f2_fr k h, fr_Fz (by omega) (ex_int (by omega) h1 hx)]
theorem frq_11 : ∀ k ∈ List.range (nf 11), ((k : Int) ∈ ([9, 8, 7, 10, 6, 12, 11, 14, 13, 5, 4, 3, 2, 1, 0] : List Int) ∨ dfl 11 (k : Int) = fr 0 (k : Int)) := by decide +kernel
theorem lay_fr {q k v : Int} (h : lay q k = v) (h9 : 0 ≤ v) : fr q k = v := by
  unfold fr
  rw [h, if_pos h9]
theorem bq_1 : Bs 10 ((1 : Nat) : Int) := by unfold Bs; decide +kernel
theorem bq_3 : Bs 5 ((3 : Nat) : Int) := by unfold Bs; decide +kernel
theorem bq_6 : Bs 0 ((6 : Nat) : Int) := by unfold Bs; decide +kernel
theorem bq_12 : Bs 4 ((12 : Nat) : Int) := by unfold Bs; decide +kernel
theorem bq_19 : Bs 2 ((19 : Nat) : Int) := by unfold Bs; decide +kernel
theorem bq_33 : Bs 6 ((33 : Nat) : Int) := by unfold Bs; decide +kernel
theorem bq_37 : Bs 1 ((37 : Nat) : Int) := by unfold Bs; decide +kernel
theorem bq_55 : Bs 1 ((55 : Nat) : Int) := by unfold Bs; decide +kernel
theorem bq_73 : Bs 8 ((73 : Nat) : Int) := by unfold Bs; decide +kernel
theorem bq_81 : Bs 9 ((81 : Nat) : Int) := by unfold Bs; decide +kernel
section NEW11
variable {d : Nat} {G : Mem} {Q : Int → Mem → Prop}
theorem i_11 (hd : ∀ k : Nat, k < nf 11 → G 0 k = dfl 11 k) (h : ∀ G1, Fr fr G1 0 311 → Q 0 G1) : Ct (d + 4) M_X11_init 1 310 10150 none [(2, 0)] G Q := by
  refine Ct.of (by decide +kernel) (Nat.le_of_ble_eq_true rfl) ?_
  show Rn (d + 4) M_X11_init (1, 0, 0, 310, 10150, none) 0 [(0, (2, 0))] [] G Q
  have P0 : PA Fs1 0 G G 1 [] := PA.rf (by omega)
  refine r_aload_n d_X11_init_0 0 rfl rfl (r_obj d_X11_init_1 (gk1 31 rfl rfl) (Nat.le_of_ble_eq_true rfl) ?_)
  refine r_aload_n d_X11_init_4 0 rfl rfl (n_newN (d := d + 3) (c2 := 10) (m2 := 1) (s2 := 1000) d_X11_init_5 d_X11_init_8 d_X11_init_9 (by decide) bq_1 nw_X11_7 cl_X11_9 (by decide) ⟨by decide, by decide⟩ (fun hd8 => i_10 (d := d + 2) hd8 (fun G1 f1 r1 => ?_)))
  refine n_put (ci := 11) (f := 0) (fI := 0) (n' := 3) (q := 1) (hi := 3) P0 f1 r1 (fun a k a0 a1 _ _ => f1_Fz k (by omega) (by omega) (by omega) (by omega)) (by decide) (by decide) (by decide) (by decide) (by decide +kernel) rfl d_X11_init_12 fl_X11_10 (by decide) (fun r hr => by cases hr; exact ⟨rfl, rfl⟩) rfl bs_11 (fun G2 P1 => ?_)
  show Rn (d + 4) M_X11_init (3, 2, 1007, 310, 10150, none) 15 [(0, (2, 0))] [] G2 Q
  refine r_aload_n d_X11_init_15 0 rfl rfl (n_newN (d := d + 3) (c2 := 5) (m2 := 2) (s2 := 37) d_X11_init_16 d_X11_init_19 d_X11_init_20 (by decide) bq_3 nw_X11_16 cl_X11_18 (by decide) ⟨by decide, by decide⟩ (fun hd8 => i_5 (d := d + 2) hd8 (fun G3 f2 r2 => ?_)))
  refine n_put (ci := 11) (f := 1) (fI := 1) (n' := 6) (q := 3) (hi := 6) P1 f2 r2 (fun a k a0 a1 _ _ => f1_Fz k (by omega) (by omega) (by omega) (by omega)) (by decide) (by decide) (by decide) (by decide) (by decide +kernel) rfl d_X11_init_23 fl_X11_19 (by decide) (fun r hr => by cases hr; exact ⟨rfl, rfl⟩) rfl bs_11 (fun G4 P2 => ?_)
  show Rn (d + 4) M_X11_init (6, 5, 1049, 310, 10150, none) 26 [(0, (2, 0))] [] G4 Q
  refine r_aload_n d_X11_init_26 0 rfl rfl (n_newN (d := d + 3) (c2 := 0) (m2 := 5) (s2 := 29) d_X11_init_27 d_X11_init_30 d_X11_init_31 (by decide) bq_6 nw_X11_23 cl_X11_25 (by decide) ⟨by decide, by decide⟩ (fun hd8 => i_0 (d := d + 2) hd8 (fun G5 f3 r3 => ?_)))
  refine n_put (ci := 11) (f := 2) (fI := 2) (n' := 12) (q := 6) (hi := 12) P2 f3 r3 (fun a k a0 a1 _ _ => f1_Fz k (by omega) (by omega) (by omega) (by omega)) (by decide) (by decide) (by decide) (by decide) (by decide +kernel) rfl d_X11_init_34 fl_X11_26 (by decide) (fun r hr => by cases hr; exact ⟨rfl, rfl⟩) rfl bs_11 (fun G6 P3 => ?_)
  show Rn (d + 4) M_X11_init (12, 11, 1084, 310, 10150, none) 37 [(0, (2, 0))] [] G6 Q
  refine r_aload_n d_X11_init_37 0 rfl rfl (n_newN (d := d + 3) (c2 := 4) (m2 := 6) (s2 := 439) d_X11_init_38 d_X11_init_41 d_X11_init_42 (by decide) bq_12 nw_X11_30 cl_X11_32 (by decide) ⟨by decide, by decide⟩ (fun hd8 => i_4 (d := d + 2) hd8 (fun G7 f4 r4 => ?_)))
  refine n_put (ci := 11) (f := 3) (fI := 3) (n' := 19) (q := 12) (hi := 19) P3 f4 r4 (fun a k a0 a1 _ _ => f1_Fz k (by omega) (by omega) (by omega) (by omega)) (by decide) (by decide) (by decide) (by decide) (by decide +kernel) rfl d_X11_init_45 fl_X11_33 (by decide) (fun r hr => by cases hr; exact ⟨rfl, rfl⟩) rfl bs_11 (fun G8 P4 => ?_)
  show Rn (d + 4) M_X11_init (19, 18, 1531, 310, 10150, none) 48 [(0, (2, 0))] [] G8 Q
  refine r_aload_n d_X11_init_48 0 rfl rfl (n_newN (d := d + 3) (c2 := 2) (m2 := 13) (s2 := 72) d_X11_init_49 d_X11_init_52 d_X11_init_53 (by decide) bq_19 nw_X11_37 cl_X11_39 (by decide) ⟨by decide, by decide⟩ (fun hd8 => i_2 (d := d + 1) hd8 (fun G9 f5 r5 => ?_)))
  refine n_put (ci := 11) (f := 4) (fI := 4) (n' := 33) (q := 19) (hi := 33) P4 f5 r5 (fun a k a0 a1 _ _ => f1_Fz k (by omega) (by omega) (by omega) (by omega)) (by decide) (by decide) (by decide) (by decide) (by decide +kernel) rfl d_X11_init_56 fl_X11_40 (by decide) (fun r hr => by cases hr; exact ⟨rfl, rfl⟩) rfl bs_11 (fun G10 P5 => ?_)
  show Rn (d + 4) M_X11_init (33, 32, 1616, 310, 10150, none) 59 [(0, (2, 0))] [] G10 Q
  refine r_aload_n d_X11_init_59 0 rfl rfl (n_newN (d := d + 3) (c2 := 6) (m2 := 3) (s2 := 42) d_X11_init_60 d_X11_init_63 d_X11_init_64 (by decide) bq_33 nw_X11_44 cl_X11_46 (by decide) ⟨by decide, by decide⟩ (fun hd8 => i_6 (d := d + 2) hd8 (fun G11 f6 r6 => ?_)))
  refine n_put (ci := 11) (f := 5) (fI := 5) (n' := 37) (q := 33) (hi := 37) P5 f6 r6 (fun a k a0 a1 _ _ => f1_Fz k (by omega) (by omega) (by omega) (by omega)) (by decide) (by decide) (by decide) (by decide) (by decide +kernel) rfl d_X11_init_67 fl_X11_47 (by decide) (fun r hr => by cases hr; exact ⟨rfl, rfl⟩) rfl bs_11 (fun G12 P6 => ?_)
  show Rn (d + 4) M_X11_init (37, 36, 1662, 310, 10150, none) 70 [(0, (2, 0))] [] G12 Q
  refine r_aload_n d_X11_init_70 0 rfl rfl (n_newI (d := d + 3) (c2 := 1) (m2 := 17) (s2 := 1200) d_X11_init_71 d_X11_init_74 d_X11_init_75 (by decide) bq_37 nw_X11_51 cl_X11_53 (by decide) ⟨by decide, by decide⟩ (fun hd8 => i_1 (d := d) (bN := 37) bq_37 hd8 (fun G13 f7 r7 => ?_)))
  refine n_putR (ci := 11) (f := 13) (fI := 13) (n' := 55) (q := 37) (hi := 55) P6 f7 r7 (fun a k a0 a1 _ _ => (f1_fr k (by omega)).symm) (by decide) (by decide) (by decide) (by decide) (by decide +kernel) rfl d_X11_init_78 fl_X11_54 (by decide) (fun r hr => by cases hr; rfl) bs_11 (fun G14 P7 => ?_)
  show Rn (d + 4) M_X11_init (55, 54, 2873, 310, 10150, none) 81 [(0, (2, 0))] [] G14 Q
  refine r_aload_n d_X11_init_81 0 rfl rfl (n_newI (d := d + 3) (c2 := 1) (m2 := 17) (s2 := 1200) d_X11_init_82 d_X11_init_85 d_X11_init_86 (by decide) bq_55 nw_X11_51 cl_X11_53 (by decide) ⟨by decide, by decide⟩ (fun hd8 => i_1 (d := d) (bN := 55) bq_55 hd8 (fun G15 f8 r8 => ?_)))
  refine n_putR (ci := 11) (f := 14) (fI := 14) (n' := 73) (q := 55) (hi := 73) P7 f8 r8 (fun a k a0 a1 _ _ => (f1_fr k (by omega)).symm) (by decide) (by decide) (by decide) (by decide) (by decide +kernel) rfl d_X11_init_89 fl_X11_58 (by decide) (fun r hr => by cases hr; rfl) bs_11 (fun G16 P8 => ?_)
  show Rn (d + 4) M_X11_init (73, 72, 4084, 310, 10150, none) 92 [(0, (2, 0))] [] G16 Q
  refine r_aload_n d_X11_init_92 0 rfl rfl (n_newN (d := d + 3) (c2 := 8) (m2 := 7) (s2 := 35) d_X11_init_93 d_X11_init_96 d_X11_init_97 (by decide) bq_73 nw_X11_61 cl_X11_63 (by decide) ⟨by decide, by decide⟩ (fun hd8 => i_8 (d := d + 2) (bN := 73) bq_73 hd8 (fun G17 f9 r9 => ?_)))
  refine n_put (ci := 11) (f := 11) (fI := 11) (n' := 81) (q := 73) (hi := 81) P8 f9 r9 (fun a k a0 a1 _ _ => f1_Fz k (by omega) (by omega) (by omega) (by omega)) (by decide) (by decide) (by decide) (by decide) (by decide +kernel) rfl d_X11_init_100 fl_X11_64 (by decide) (fun r hr => by cases hr; exact ⟨rfl, rfl⟩) rfl bs_11 (fun G18 P9 => ?_)
  show Rn (d + 4) M_X11_init (81, 80, 4131, 310, 10150, none) 103 [(0, (2, 0))] [] G18 Q
  refine r_aload_n d_X11_init_103 0 rfl rfl (n_newN (d := d + 3) (c2 := 9) (m2 := 4) (s2 := 75) d_X11_init_104 d_X11_init_107 d_X11_init_108 (by decide) bq_81 nw_X11_68 cl_X11_70 (by decide) ⟨by decide, by decide⟩ (fun hd8 => i_9 (d := d + 2) (bN := 81) bq_81 hd8 (fun G19 f10 r10 => ?_)))
  refine n_put (ci := 11) (f := 12) (fI := 12) (n' := 86) (q := 81) (hi := 86) P9 f10 r10 (fun a k a0 a1 _ _ => f1_Fz k (by omega) (by omega) (by omega) (by omega)) (by decide) (by decide) (by decide) (by decide) (by decide +kernel) rfl d_X11_init_111 fl_X11_71 (by decide) (fun r hr => by cases hr; exact ⟨rfl, rfl⟩) rfl bs_11 (fun G20 P10 => ?_)
  show Rn (d + 4) M_X11_init (86, 85, 4210, 310, 10150, none) 114 [(0, (2, 0))] [] G20 Q
  refine r_aload_n d_X11_init_114 0 rfl rfl (r_bipush d_X11_init_115 (by decide +kernel) (n_anew (ci := 11) (f := 6) (fI := 6) (len := 12) (t := 4) (q := 86) P10 rfl d_X11_init_117 d_X11_init_120 (by decide) rfl (by decide) (gk2 228 rfl rfl) fl_X11_75 (by decide) (fun r hr => by cases hr; exact ⟨rfl, rfl⟩) rfl bs_11 (by decide) (by decide) (ly_11_6 bs_11).2.2 (by decide +kernel) (fun _ => rfl) (by decide) ⟨by decide, by decide⟩ (fun G21 P11 => ?_)))
  show Rn (d + 4) M_X11_init (87, 86, 4222, 310, 10150, none) 123 [(0, (2, 0))] [] G21 Q
  refine r_iconst d_X11_init_123 (r_istore_n (ls1 := [(1, (0, 0)), (0, (2, 0))]) d_X11_init_124 rfl (by decide) rfl ?_)
  -- the marked ones
  have key2 : ∀ (k i : Nat) (F GG : Mem), i + k = 4 → PA F 0 G GG (187 + 31 * i) [9, 8, 7, 10, 6, 12, 11, 14, 13, 5, 4, 3, 2, 1, 0] → (∀ q k : Int, q ≠ 184 → q ≠ 185 → q ≠ 186 → F q k = Fs2 q k) → (∀ j : Int, 0 ≤ j → j < i → F 184 j = lay 184 j ∧ F 185 j = lay 185 j ∧ F 186 j = lay 186 j) → Rn (d + 4) M_X11_init (187 + 31 * i, 186 + 31 * i, 4802 + 1337 * i, 310, 10150, none) 183 [(1, (0, (i : Int))), (0, (2, 0))] [] GG Q := by
    intro k
    induction k with
    | zero =>
      intro i F GG hi hP hF hA
      obtain rfl : i = 4 := by omega
      refine r_iload_n d_X11_init_183 0 rfl rfl (r_iconst d_X11_init_184 (r_icmp_ge (tgt := 233) d_X11_init_185 (by decide) (by decide) (by decide) (fun _ => ?_) (fun q => absurd (by decide) q)))
      have hP2 : PA fr 0 G GG 311 [9, 8, 7, 10, 6, 12, 11, 14, 13, 5, 4, 3, 2, 1, 0] := by
        refine hP.mono (fun k _ => (hF 0 k (by decide) (by decide) (by decide)).trans (f2_fr k (by decide))) (fun q k a1 a2 k0 k1 => ?_)
        by_cases e : q = 184 ∨ q = 185 ∨ q = 186
        · have k4 : k < 4 := by
            rcases e with e | e | e <;> subst e
            · rw [show (shp (184 : Int).toNat).2 = 4 by decide +kernel] at k1; exact k1
            · rw [show (shp (185 : Int).toNat).2 = 4 by decide +kernel] at k1; exact k1
            · rw [show (shp (186 : Int).toNat).2 = 4 by decide +kernel] at k1; exact k1
          have x := hA k k0 k4
          rcases e with e | e | e <;> subst e
          · rw [x.1]; exact (lay_fr rfl (by have := el_11_7 bs_11 k0 k4; omega)).symm
          · rw [x.2.1]; exact (lay_fr rfl (by have := el_11_8 bs_11 k0 k4; omega)).symm
          · rw [x.2.2]; exact (lay_fr rfl (by have := el_11_9 bs_11 k0 k4; omega)).symm
        · exact (hF q k (by omega) (by omega) (by omega)).trans (f2_fr k (by omega))
      exact r_ret d_X11_init_233 rfl ⟨by omega, by decide, by decide⟩ (h GG (PA.finF (hi := 311) frq_11 bs_11 hP2 hd (by decide)))
    | succ k ih =>
      intro i F GG hi hP hF hA
      have e7 := el_11_7 bs_11 (i := (i : Int)) (by omega) (by omega)
      have e8 := el_11_8 bs_11 (i := (i : Int)) (by omega) (by omega)
      have e9 := el_11_9 bs_11 (i := (i : Int)) (by omega) (by omega)
      have b1 : Bs 1 ((187 + 31 * i : Nat) : Int) := by
        rw [show ((187 + 31 * i : Nat) : Int) = 187 + 31 * (i : Int) by omega]; exact e7.2.2
      have b8 : Bs 8 ((205 + 31 * i : Nat) : Int) := by
        rw [show ((205 + 31 * i : Nat) : Int) = 205 + 31 * (i : Int) by omega]; exact e8.2.2
      have b9 : Bs 9 ((213 + 31 * i : Nat) : Int) := by
        rw [show ((213 + 31 * i : Nat) : Int) = 213 + 31 * (i : Int) by omega]; exact e9.2.2
      have done : ∀ (F' GG' : Mem) (n : Nat), PA F' 0 G GG' n [9, 8, 7, 10, 6, 12, 11, 14, 13, 5, 4, 3, 2, 1, 0] → (∀ k, F' 0 k = Fs2 0 k) → GG' 0 7 = 184 ∧ GG' 0 8 = 185 ∧ GG' 0 9 = 186 := fun F' GG' n hp hf => by
        refine ⟨?_, ?_, ?_⟩
        · rw [hp.2.1 7 (by decide), hf]; decide +kernel
        · rw [hp.2.1 8 (by decide), hf]; decide +kernel
        · rw [hp.2.1 9 (by decide), hf]; decide +kernel
      refine r_iload_n d_X11_init_183 0 rfl rfl (r_iconst d_X11_init_184 (r_icmp_ge (tgt := 233) d_X11_init_185 (by decide) ⟨by omega, by omega⟩ (by decide) (fun q => absurd q (by omega)) (fun _ => ?_)))
      have o0 : ∀ n : Nat, 187 ≤ n → Ob n 0 11 := fun n hn => ⟨by decide, by show 0 < n; omega, (bs_ob bs_11).2.2⟩
      -- the cabin
      refine r_aload_n d_X11_init_188 1 rfl rfl (n_getF (v := 184) 11 7 7 rfl d_X11_init_189 fl_X11_83 (by decide) (o0 _ (by omega)) (done _ _ _ hP (fun k => hF 0 k (by decide) (by decide) (by decide))).1 (by decide) (r_iload_n d_X11_init_192 0 rfl rfl ?_))
      refine n_newI (d := d + 3) (c2 := 1) (m2 := 17) (s2 := 1200) d_X11_init_193 d_X11_init_196 d_X11_init_197 (by decide) b1 nw_X11_51 cl_X11_53 (Nat.le_of_ble_eq_true rfl) ⟨by omega, by show 4802 + 1337 * i + 11 + 1200 ≤ 10150; omega⟩ (fun hd8 => i_1 (d := d) (bN := 187 + 31 * i) b1 hd8 (fun GA f1 r1 => ?_))
      have aC := (ly_11_7 bs_11).2.2
      refine r_aast (ci := 1) d_X11_init_200 (i := (i : Int)) (t := 5) (len := 4) ⟨aC.1, by show 184 < _; omega, aC.2.2⟩ (by decide) ⟨by omega, by omega⟩ ⟨by omega, by omega, (bs_ob b1).2.2⟩ ⟨_, rfl, rfl⟩ ?_
      have P1 := PA.sto (a := 184) (i := (i : Int)) (q := 187 + 31 * (i : Int)) (hi := 205 + 31 * (i : Int)) (n' := 205 + 31 * i) hP (by omega) (by decide) (by omega) f1 (fun q k a1 a2 => r1 q k a1 (by omega)) (fun a k a1 _ _ _ => ((hF a k (by omega) (by omega) (by omega)).trans (f2_fr k (by omega))).symm) (by omega)
      rw [show ((187 + 31 * i : Nat) : Int) = 187 + 31 * (i : Int) by omega]
      generalize hGB : st GA 184 (i : Int) (187 + 31 * (i : Int)) = GB at P1 ⊢
      have hF1 : ∀ q k : Int, q ≠ 184 → q ≠ 185 → q ≠ 186 → st F 184 (i : Int) (187 + 31 * (i : Int)) q k = Fs2 q k := fun q k x1 x2 x3 => by rw [st_nq _ _ _ _ x1]; exact hF q k x1 x2 x3
      rw [show 187 + 31 * i + 1 + 17 = 205 + 31 * i by omega]
      -- the state
      refine r_aload_n d_X11_init_201 1 rfl rfl (n_getF (v := 185) 11 8 8 rfl d_X11_init_202 fl_X11_87 (by decide) (o0 _ (by omega)) (done _ _ _ P1 (fun k => hF1 0 k (by decide) (by decide) (by decide))).2.1 (by decide) (r_iload_n d_X11_init_205 0 rfl rfl ?_))
      refine n_newN (d := d + 3) (c2 := 8) (m2 := 7) (s2 := 35) d_X11_init_206 d_X11_init_209 d_X11_init_210 (by decide) b8 nw_X11_61 cl_X11_63 (Nat.le_of_ble_eq_true rfl) ⟨by omega, by show 4802 + 1337 * i + 11 + 1200 + 12 + 35 ≤ 10150; omega⟩ (fun hd8 => i_8 (d := d + 2) (bN := 205 + 31 * i) b8 hd8 (fun GC f2 r2 => ?_))
      have aS := (ly_11_8 bs_11).2.2
      refine r_aast (ci := 8) d_X11_init_213 (i := (i : Int)) (t := 4) (len := 4) ⟨aS.1, by show 185 < _; omega, aS.2.2⟩ (by decide) ⟨by omega, by omega⟩ ⟨by omega, by omega, (bs_ob b8).2.2⟩ ⟨_, rfl, rfl⟩ ?_
      have P2 := PA.sto (a := 185) (i := (i : Int)) (q := 205 + 31 * (i : Int)) (hi := 213 + 31 * (i : Int)) (n' := 213 + 31 * i) P1 (by omega) (by decide) (by omega) f2 (fun q k a1 a2 => r2 q k a1 (by omega)) (fun a k a1 _ _ _ => (f2_Fz k (by omega) (by omega) (by omega) (by omega)).trans (hF1 a k (by omega) (by omega) (by omega)).symm) (by omega)
      rw [show ((205 + 31 * i : Nat) : Int) = 205 + 31 * (i : Int) by omega]
      generalize hGD : st GC 185 (i : Int) (205 + 31 * (i : Int)) = GD at P2 ⊢
      have hF2 : ∀ q k : Int, q ≠ 184 → q ≠ 185 → q ≠ 186 → st (st F 184 (i : Int) (187 + 31 * (i : Int))) 185 (i : Int) (205 + 31 * (i : Int)) q k = Fs2 q k := fun q k x1 x2 x3 => by rw [st_nq _ _ _ _ x2]; exact hF1 q k x1 x2 x3
      rw [show 205 + 31 * i + 1 + 7 = 213 + 31 * i by omega]
      -- the tells
      refine r_aload_n d_X11_init_214 1 rfl rfl (n_getF (v := 186) 11 9 9 rfl d_X11_init_215 fl_X11_90 (by decide) (o0 _ (by omega)) (done _ _ _ P2 (fun k => hF2 0 k (by decide) (by decide) (by decide))).2.2 (by decide) (r_iload_n d_X11_init_218 0 rfl rfl ?_))
      refine n_newN (d := d + 3) (c2 := 9) (m2 := 4) (s2 := 75) d_X11_init_219 d_X11_init_222 d_X11_init_223 (by decide) b9 nw_X11_68 cl_X11_70 (Nat.le_of_ble_eq_true rfl) ⟨by omega, by show 4802 + 1337 * i + 11 + 1200 + 12 + 35 + 4 + 75 ≤ 10150; omega⟩ (fun hd8 => i_9 (d := d + 2) (bN := 213 + 31 * i) b9 hd8 (fun GE f3 r3 => ?_))
      have aT := (ly_11_9 bs_11).2.2
      refine r_aast (ci := 9) d_X11_init_226 (i := (i : Int)) (t := 6) (len := 4) ⟨aT.1, by show 186 < _; omega, aT.2.2⟩ (by decide) ⟨by omega, by omega⟩ ⟨by omega, by omega, (bs_ob b9).2.2⟩ ⟨_, rfl, rfl⟩ ?_
      have P3 := PA.sto (a := 186) (i := (i : Int)) (q := 213 + 31 * (i : Int)) (hi := 218 + 31 * (i : Int)) (n' := 187 + 31 * (i + 1)) P2 (by omega) (by decide) (by omega) f3 (fun q k a1 a2 => r3 q k a1 (by omega)) (fun a k a1 _ _ _ => (f2_Fz k (by omega) (by omega) (by omega) (by omega)).trans (hF2 a k (by omega) (by omega) (by omega)).symm) (by omega)
      rw [show ((213 + 31 * i : Nat) : Int) = 213 + 31 * (i : Int) by omega]
      refine r_iinc (ls1 := [(1, (0, (i : Int) + 1)), (0, (2, 0))]) d_X11_init_227 0 rfl (by decide) rfl (r_goto (tgt := 183) d_X11_init_230 (by decide) ?_)
      have hk := ih (i + 1) _ _ (by omega) P3 (fun q k x1 x2 x3 => by rw [st_nq _ _ _ _ x3]; exact hF2 q k x1 x2 x3) (fun j j0 j1 => by
        by_cases e : j = (i : Int)
        · subst e
          refine ⟨?_, ?_, ?_⟩
          · rw [st_nq _ _ _ _ (by decide), st_nq _ _ _ _ (by decide), st_same, e7.1]
          · rw [st_nq _ _ _ _ (by decide), st_same, e8.1]
          · rw [st_same, e9.1]
        · have hj := hA j j0 (by omega)
          refine ⟨?_, ?_, ?_⟩
          · rw [st_nq _ _ _ _ (by decide), st_nq _ _ _ _ (by decide), st_nk _ _ _ e]; exact hj.1
          · rw [st_nq _ _ _ _ (by decide), st_nk _ _ _ e, st_nq _ _ _ _ (by decide)]; exact hj.2.1
          · rw [st_nk _ _ _ e, st_nq _ _ _ _ (by decide), st_nq _ _ _ _ (by decide)]; exact hj.2.2)
      rw [show 186 + 31 * (i + 1) = 186 + 31 * i + 1 + 17 + 1 + 7 + 1 + 4 by omega, show 4802 + 1337 * (i + 1) = 4802 + 1337 * i + nf 1 + 1200 + nf 8 + 35 + nf 9 + 75 from by show _ = 4802 + 1337 * i + 11 + 1200 + 12 + 35 + 4 + 75; omega, show ((i + 1 : Nat) : Int) = (i : Int) + 1 by omega, show 187 + 31 * (i + 1) = 213 + 31 * i + 1 + 4 by omega] at hk
      exact hk
  -- behind the past
  have mid : ∀ GG : Mem, PA Fs2 0 G GG 183 [6, 12, 11, 14, 13, 5, 4, 3, 2, 1, 0] → Rn (d + 4) M_X11_init (183, 182, 4786, 310, 10150, none) 150 [(1, (0, 12)), (0, (2, 0))] [] GG Q := fun GG hP => by
    refine r_aload_n d_X11_init_150 1 rfl rfl (r_iconst d_X11_init_151 (n_arr (ci := 11) (f := 10) (fI := 10) (len := 4) (t := 1) (q := 183) hP rfl d_X11_init_152 d_X11_init_154 rfl (by decide) (gk1 151 rfl rfl) fl_X11_79 (by decide) (fun r hr => by cases hr; exact ⟨rfl, rfl⟩) rfl bs_11 (by decide) (by decide) (ly_11_10 bs_11).2.2 (by decide +kernel) (fun k => (f2_Fz k (by decide) (by decide) (by decide) (by decide)).symm.trans (Fz_arr (ly_11_10 bs_11).2.2 (by decide) k)) (by decide) ⟨by decide, by decide⟩ (fun G1 P1 => ?_)))
    show Rn (d + 4) M_X11_init (184, 183, 4790, 310, 10150, none) 157 [(1, (0, 12)), (0, (2, 0))] [] G1 Q
    refine r_aload_n d_X11_init_157 1 rfl rfl (r_iconst d_X11_init_158 (n_anew (ci := 11) (f := 7) (fI := 7) (len := 4) (t := 5) (q := 184) P1 rfl d_X11_init_159 d_X11_init_162 (by decide) rfl (by decide) (gk2 50 rfl rfl) fl_X11_83 (by decide) (fun r hr => by cases hr; exact ⟨rfl, rfl⟩) rfl bs_11 (by decide) (by decide) (ly_11_7 bs_11).2.2 (by decide +kernel) (fun _ => rfl) (by decide) ⟨by decide, by decide⟩ (fun G2 P2 => ?_)))
    show Rn (d + 4) M_X11_init (185, 184, 4794, 310, 10150, none) 165 [(1, (0, 12)), (0, (2, 0))] [] G2 Q
    refine r_aload_n d_X11_init_165 1 rfl rfl (r_iconst d_X11_init_166 (n_anew (ci := 11) (f := 8) (fI := 8) (len := 4) (t := 4) (q := 185) P2 rfl d_X11_init_167 d_X11_init_170 (by decide) rfl (by decide) (gk2 228 rfl rfl) fl_X11_87 (by decide) (fun r hr => by cases hr; exact ⟨rfl, rfl⟩) rfl bs_11 (by decide) (by decide) (ly_11_8 bs_11).2.2 (by decide +kernel) (fun _ => rfl) (by decide) ⟨by decide, by decide⟩ (fun G3 P3 => ?_)))
    show Rn (d + 4) M_X11_init (186, 185, 4798, 310, 10150, none) 173 [(1, (0, 12)), (0, (2, 0))] [] G3 Q
    refine r_aload_n d_X11_init_173 1 rfl rfl (r_iconst d_X11_init_174 (n_anew (ci := 11) (f := 9) (fI := 9) (len := 4) (t := 6) (q := 186) P3 rfl d_X11_init_175 d_X11_init_178 (by decide) rfl (by decide) (gk2 230 rfl rfl) fl_X11_90 (by decide) (fun r hr => by cases hr; exact ⟨rfl, rfl⟩) rfl bs_11 (by decide) (by decide) (ly_11_9 bs_11).2.2 (by decide +kernel) (fun _ => rfl) (by decide) ⟨by decide, by decide⟩ (fun G4 P4 => ?_)))
    show Rn (d + 4) M_X11_init (187, 186, 4802, 310, 10150, none) 181 [(1, (0, 12)), (0, (2, 0))] [] G4 Q
    refine r_iconst d_X11_init_181 (r_istore_n (ls1 := [(1, (0, 0)), (0, (2, 0))]) d_X11_init_182 rfl (by decide) rfl ?_)
    exact key2 4 0 _ _ rfl P4 (fun _ _ _ _ _ => rfl) (fun j j0 j1 => by omega)
  have key1 : ∀ (k i : Nat) (F GG : Mem), i + k = 12 → PA F 0 G GG (87 + 8 * i) [6, 12, 11, 14, 13, 5, 4, 3, 2, 1, 0] → (∀ q k : Int, q ≠ 86 → F q k = Fs1 q k) → (∀ j : Int, 0 ≤ j → j < i → F 86 j = lay 86 j) → Rn (d + 4) M_X11_init (87 + 8 * i, 86 + 8 * i, 4222 + 47 * i, 310, 10150, none) 125 [(1, (0, (i : Int))), (0, (2, 0))] [] GG Q := by
    intro k
    induction k with
    | zero =>
      intro i F GG hi hP hF hA
      obtain rfl : i = 12 := by omega
      refine r_iload_n d_X11_init_125 0 rfl rfl (r_bipush d_X11_init_126 (by decide +kernel) (r_icmp_ge (tgt := 150) d_X11_init_128 (by decide) (by decide) (by decide) (fun _ => ?_) (fun q => absurd (by decide) q)))
      refine mid GG (hP.mono (fun k _ => (hF 0 k (by decide)).trans ((f1_fr k (by decide)).trans (f2_fr k (by decide)).symm)) (fun q k a1 a2 k0 k1 => ?_))
      by_cases e : q = 86
      · subst e
        rw [show (shp (86 : Int).toNat).2 = 12 by decide +kernel] at k1
        rw [hA k k0 k1, f2_fr k (by decide)]
        exact (lay_fr rfl (by have := el_11_6 bs_11 k0 k1; omega)).symm
      · have a2' : q < 183 := a2
        rw [hF q k e, f1_fr k (by omega), f2_fr k (by omega)]
    | succ k ih =>
      intro i F GG hi hP hF hA
      have el := el_11_6 bs_11 (i := (i : Int)) (by omega) (by omega)
      have b8 : Bs 8 ((87 + 8 * i : Nat) : Int) := by
        rw [show ((87 + 8 * i : Nat) : Int) = 87 + 8 * (i : Int) by omega]; exact el.2.2
      refine r_iload_n d_X11_init_125 0 rfl rfl (r_bipush d_X11_init_126 (by decide +kernel) (r_icmp_ge (tgt := 150) d_X11_init_128 (by decide) ⟨by omega, by omega⟩ (by decide) (fun q => absurd q (by omega)) (fun _ => ?_)))
      have g0 : GG 0 6 = 86 := by
        rw [hP.2.1 6 (by decide), hF _ _ (by decide)]; decide +kernel
      refine r_aload_n d_X11_init_131 1 rfl rfl (n_getF (v := 86) 11 6 6 rfl d_X11_init_132 fl_X11_75 (by decide) ⟨by decide, by show 0 < 87 + 8 * i; omega, (bs_ob bs_11).2.2⟩ g0 (by decide) (r_iload_n d_X11_init_135 0 rfl rfl ?_))
      refine n_newN (d := d + 3) (c2 := 8) (m2 := 7) (s2 := 35) d_X11_init_136 d_X11_init_139 d_X11_init_140 (by decide) b8 nw_X11_61 cl_X11_63 (Nat.le_of_ble_eq_true rfl) ⟨by omega, by show 4222 + 47 * i + 12 + 35 ≤ 10150; omega⟩ (fun hd8 => i_8 (d := d + 2) (bN := 87 + 8 * i) b8 hd8 (fun G6 f6 r6 => ?_))
      have a1 := (ly_11_6 bs_11).2.2
      refine r_aast (ci := 8) d_X11_init_143 (i := (i : Int)) (t := 4) (len := 12) ⟨a1.1, by show 86 < _; omega, a1.2.2⟩ (by decide) ⟨by omega, by omega⟩ ⟨by omega, by omega, (bs_ob b8).2.2⟩ ⟨_, rfl, rfl⟩ ?_
      refine r_iinc (ls1 := [(1, (0, (i : Int) + 1)), (0, (2, 0))]) d_X11_init_144 0 rfl (by decide) rfl (r_goto (tgt := 125) d_X11_init_147 (by decide) ?_)
      have hS := PA.sto (a := 86) (i := (i : Int)) (q := 87 + 8 * (i : Int)) (hi := 95 + 8 * (i : Int)) (n' := 87 + 8 * (i + 1)) hP (by omega) (by decide) (by omega) f6 (fun q k a1 a2 => r6 q k a1 (by omega)) (fun a k a1 _ _ _ => (f1_Fz k (by omega) (by omega) (by omega) (by omega)).trans (hF a k (by omega)).symm) (by omega)
      rw [show ((87 + 8 * i : Nat) : Int) = 87 + 8 * (i : Int) by omega]
      have hk := ih (i + 1) _ _ (by omega) hS (fun q k e => by rw [st_nq _ _ _ _ e]; exact hF q k e) (fun j j0 j1 => by
        by_cases e : j = (i : Int)
        · rw [e, st_same, el.1]
        · rw [st_nk _ _ _ e]
          exact hA j j0 (by omega))
      rw [show 86 + 8 * (i + 1) = 86 + 8 * i + 1 + 7 by omega, show 4222 + 47 * (i + 1) = 4222 + 47 * i + nf 8 + 35 from by show _ = 4222 + 47 * i + 12 + 35; omega, show ((i + 1 : Nat) : Int) = (i : Int) + 1 by omega, show 87 + 8 * (i + 1) = 87 + 8 * i + 1 + 7 by omega] at hk
      exact hk
  exact key1 12 0 _ _ rfl P11 (fun _ _ _ => rfl) (fun j j0 j1 => by omega)
end NEW11
