/-! the helpers' bodies; rows of the law -/
theorem d_La_0 : decode method_3_code 0 = .ok (.aload_n 2, 1) := by decide +kernel
theorem d_La_1 : decode method_3_code 1 = .ok (.iconst 0, 1) := by decide +kernel
theorem d_La_2 : decode method_3_code 2 = .ok (.aload_n 0, 1) := by decide +kernel
theorem d_La_3 : decode method_3_code 3 = .ok (.iload_n 1, 1) := by decide +kernel
theorem d_La_4 : decode method_3_code 4 = .ok (.invokevirtual 7, 3) := by decide +kernel
theorem d_La_7 : decode method_3_code 7 = .ok (.i2l, 1) := by decide +kernel
theorem d_La_8 : decode method_3_code 8 = .ok (.lastore, 1) := by decide +kernel
theorem d_La_9 : decode method_3_code 9 = .ok (.goto 6, 3) := by decide +kernel
theorem d_La_12 : decode method_3_code 12 = .ok (.astore_n 3, 1) := by decide +kernel
theorem d_La_13 : decode method_3_code 13 = .ok (.iconst 1, 1) := by decide +kernel
theorem d_La_14 : decode method_3_code 14 = .ok (.ireturn, 1) := by decide +kernel
theorem d_La_15 : decode method_3_code 15 = .ok (.iconst 0, 1) := by decide +kernel
theorem d_La_16 : decode method_3_code 16 = .ok (.ireturn, 1) := by decide +kernel
theorem d_Lb_0 : decode method_4_code 0 = .ok (.aload_n 2, 1) := by decide +kernel
theorem d_Lb_1 : decode method_4_code 1 = .ok (.iconst 0, 1) := by decide +kernel
theorem d_Lb_2 : decode method_4_code 2 = .ok (.aload_n 0, 1) := by decide +kernel
theorem d_Lb_3 : decode method_4_code 3 = .ok (.iload_n 1, 1) := by decide +kernel
theorem d_Lb_4 : decode method_4_code 4 = .ok (.invokevirtual 15, 3) := by decide +kernel
theorem d_Lb_7 : decode method_4_code 7 = .ok (.i2l, 1) := by decide +kernel
theorem d_Lb_8 : decode method_4_code 8 = .ok (.lastore, 1) := by decide +kernel
theorem d_Lb_9 : decode method_4_code 9 = .ok (.goto 6, 3) := by decide +kernel
theorem d_Lb_12 : decode method_4_code 12 = .ok (.astore_n 3, 1) := by decide +kernel
theorem d_Lb_13 : decode method_4_code 13 = .ok (.iconst 1, 1) := by decide +kernel
theorem d_Lb_14 : decode method_4_code 14 = .ok (.ireturn, 1) := by decide +kernel
theorem d_Lb_15 : decode method_4_code 15 = .ok (.iconst 0, 1) := by decide +kernel
theorem d_Lb_16 : decode method_4_code 16 = .ok (.ireturn, 1) := by decide +kernel
theorem cl_L_24 : clV "PastSleepLaw" 24 M_X11_feed 3 := ⟨⟨by decide, gk3 67 rfl rfl, (gk1 1 rfl rfl), ⟨by decide +kernel, by decide +kernel, by decide +kernel⟩, (gk3 64 rfl rfl)⟩, (gk3 65 rfl rfl), (gk3 66 rfl rfl)⟩
theorem cl_L_29 : clV "PastSleepLaw" 29 M_X11_cabin 0 := ⟨⟨by decide, gk3 76 rfl rfl, (gk1 1 rfl rfl), ⟨by decide +kernel, by decide +kernel, by decide +kernel⟩, (gk3 73 rfl rfl)⟩, (gk3 74 rfl rfl), (gk3 75 rfl rfl)⟩
theorem cl_L_34 : clV "PastSleepLaw" 34 M_X11_sitter 2 := ⟨⟨by decide, gk4 41 rfl rfl, (gk1 1 rfl rfl), ⟨by decide +kernel, by decide +kernel, by decide +kernel⟩, (gk4 38 rfl rfl)⟩, (gk4 39 rfl rfl), (gk4 40 rfl rfl)⟩
theorem cl_L_39 : clV "PastSleepLaw" 39 M_X11_seat 2 := ⟨⟨by decide, gk4 61 rfl rfl, (gk1 1 rfl rfl), ⟨by decide +kernel, by decide +kernel, by decide +kernel⟩, (gk4 58 rfl rfl)⟩, (gk4 59 rfl rfl), (gk4 60 rfl rfl)⟩
theorem cl_L_43 : clV "PastSleepLaw" 43 M_X11_shut 1 := ⟨⟨by decide, gk4 65 rfl rfl, (gk1 1 rfl rfl), ⟨by decide +kernel, by decide +kernel, by decide +kernel⟩, (gk4 62 rfl rfl)⟩, (gk4 63 rfl rfl), (gk4 64 rfl rfl)⟩
theorem cl_L_47 : clV "PastSleepLaw" 47 M_X11_go 3 := ⟨⟨by decide, gk4 73 rfl rfl, (gk1 1 rfl rfl), ⟨by decide +kernel, by decide +kernel, by decide +kernel⟩, (gk4 70 rfl rfl)⟩, (gk4 71 rfl rfl), (gk4 72 rfl rfl)⟩
theorem cl_L_52 : clV "PastSleepLaw" 52 M_X11_back 3 := ⟨⟨by decide, gk4 158 rfl rfl, (gk1 1 rfl rfl), ⟨by decide +kernel, by decide +kernel, by decide +kernel⟩, (gk4 155 rfl rfl)⟩, (gk4 156 rfl rfl), (gk4 157 rfl rfl)⟩
theorem cl_L_56 : clV "PastSleepLaw" 56 M_X11_undo 0 := ⟨⟨by decide, gk4 166 rfl rfl, (gk1 1 rfl rfl), ⟨by decide +kernel, by decide +kernel, by decide +kernel⟩, (gk4 163 rfl rfl)⟩, (gk4 164 rfl rfl), (gk4 165 rfl rfl)⟩
theorem cl_L_61 : clV "PastSleepLaw" 61 M_X11_ticks 1 := ⟨⟨by decide, gk4 170 rfl rfl, (gk1 1 rfl rfl), ⟨by decide +kernel, by decide +kernel, by decide +kernel⟩, (gk4 167 rfl rfl)⟩, (gk4 168 rfl rfl), (gk4 169 rfl rfl)⟩
theorem cl_L_65 : clV "PastSleepLaw" 65 M_X11_length 1 := ⟨⟨by decide, gk4 183 rfl rfl, (gk1 1 rfl rfl), ⟨by decide +kernel, by decide +kernel, by decide +kernel⟩, (gk4 180 rfl rfl)⟩, (gk4 181 rfl rfl), (gk4 182 rfl rfl)⟩
theorem cl_L_69 : clV "PastSleepLaw" 69 M_X11_sleep 1 := ⟨⟨by decide, gk4 192 rfl rfl, (gk1 1 rfl rfl), ⟨by decide +kernel, by decide +kernel, by decide +kernel⟩, (gk4 189 rfl rfl)⟩, (gk4 190 rfl rfl), (gk4 191 rfl rfl)⟩
theorem cl_L_73 : clV "PastSleepLaw" 73 M_X11_odds 2 := ⟨⟨by decide, gk4 196 rfl rfl, (gk1 1 rfl rfl), ⟨by decide +kernel, by decide +kernel, by decide +kernel⟩, (gk4 193 rfl rfl)⟩, (gk4 194 rfl rfl), (gk4 195 rfl rfl)⟩
theorem cl_L_77 : clV "PastSleepLaw" 77 M_X11_chance 3 := ⟨⟨by decide, gk4 214 rfl rfl, (gk1 1 rfl rfl), ⟨by decide +kernel, by decide +kernel, by decide +kernel⟩, (gk4 211 rfl rfl)⟩, (gk4 212 rfl rfl), (gk4 213 rfl rfl)⟩
theorem cl_L_82 : clV "PastSleepLaw" 82 M_X11_cost 2 := ⟨⟨by decide, gk4 239 rfl rfl, (gk1 1 rfl rfl), ⟨by decide +kernel, by decide +kernel, by decide +kernel⟩, (gk4 236 rfl rfl)⟩, (gk4 237 rfl rfl), (gk4 238 rfl rfl)⟩
theorem cl_L_86 : clV "PastSleepLaw" 86 M_X11_best 1 := ⟨⟨by decide, gk5 12 rfl rfl, (gk1 1 rfl rfl), ⟨by decide +kernel, by decide +kernel, by decide +kernel⟩, (gk5 9 rfl rfl)⟩, (gk5 10 rfl rfl), (gk5 11 rfl rfl)⟩
theorem cl_L_90 : clV "PastSleepLaw" 90 M_X11_side 1 := ⟨⟨by decide, gk5 25 rfl rfl, (gk1 1 rfl rfl), ⟨by decide +kernel, by decide +kernel, by decide +kernel⟩, (gk5 22 rfl rfl)⟩, (gk5 23 rfl rfl), (gk5 24 rfl rfl)⟩
theorem cl_L_94 : clV "PastSleepLaw" 94 M_X11_regime 2 := ⟨⟨by decide, gk5 29 rfl rfl, (gk1 1 rfl rfl), ⟨by decide +kernel, by decide +kernel, by decide +kernel⟩, (gk5 26 rfl rfl)⟩, (gk5 27 rfl rfl), (gk5 28 rfl rfl)⟩
theorem cl_L_98 : clV "PastSleepLaw" 98 M_X11_fewest 2 := ⟨⟨by decide, gk5 58 rfl rfl, (gk1 1 rfl rfl), ⟨by decide +kernel, by decide +kernel, by decide +kernel⟩, (gk5 55 rfl rfl)⟩, (gk5 56 rfl rfl), (gk5 57 rfl rfl)⟩
theorem cl_L_102 : clV "PastSleepLaw" 102 M_X11_before 1 := ⟨⟨by decide, gk5 68 rfl rfl, (gk1 1 rfl rfl), ⟨by decide +kernel, by decide +kernel, by decide +kernel⟩, (gk5 65 rfl rfl)⟩, (gk5 66 rfl rfl), (gk5 67 rfl rfl)⟩
theorem cl_L_106 : clV "PastSleepLaw" 106 M_X11_standing 1 := ⟨⟨by decide, gk5 72 rfl rfl, (gk1 1 rfl rfl), ⟨by decide +kernel, by decide +kernel, by decide +kernel⟩, (gk5 69 rfl rfl)⟩, (gk5 70 rfl rfl), (gk5 71 rfl rfl)⟩
theorem cl_L_110 : clV "PastSleepLaw" 110 M_X11_habits 2 := ⟨⟨by decide, gk5 77 rfl rfl, (gk1 1 rfl rfl), ⟨by decide +kernel, by decide +kernel, by decide +kernel⟩, (gk5 74 rfl rfl)⟩, (gk5 75 rfl rfl), (gk5 76 rfl rfl)⟩
theorem cl_L_114 : clV "PastSleepLaw" 114 M_X11_seated 1 := ⟨⟨by decide, gk5 122 rfl rfl, (gk1 1 rfl rfl), ⟨by decide +kernel, by decide +kernel, by decide +kernel⟩, (gk5 119 rfl rfl)⟩, (gk5 120 rfl rfl), (gk5 121 rfl rfl)⟩
theorem cl_L_130 : clV "PastSleepLaw" 130 M_X11_rests 2 := ⟨⟨by decide, gk5 144 rfl rfl, (gk1 1 rfl rfl), ⟨by decide +kernel, by decide +kernel, by decide +kernel⟩, (gk5 141 rfl rfl)⟩, (gk5 142 rfl rfl), (gk5 143 rfl rfl)⟩
theorem cl_L_134 : clV "PastSleepLaw" 134 M_X11_touch 2 := ⟨⟨by decide, gk5 183 rfl rfl, (gk1 1 rfl rfl), ⟨by decide +kernel, by decide +kernel, by decide +kernel⟩, (gk5 180 rfl rfl)⟩, (gk5 181 rfl rfl), (gk5 182 rfl rfl)⟩
theorem cl_L_139 : clV "PastSleepLaw" 139 M_X11_truly 2 := ⟨⟨by decide, gk5 191 rfl rfl, (gk1 1 rfl rfl), ⟨by decide +kernel, by decide +kernel, by decide +kernel⟩, (gk5 188 rfl rfl)⟩, (gk5 189 rfl rfl), (gk5 190 rfl rfl)⟩
theorem cl_L_144 : clV "PastSleepLaw" 144 M_X11_went 2 := ⟨⟨by decide, gk5 203 rfl rfl, (gk1 1 rfl rfl), ⟨by decide +kernel, by decide +kernel, by decide +kernel⟩, (gk5 200 rfl rfl)⟩, (gk5 201 rfl rfl), (gk5 202 rfl rfl)⟩
theorem cl_L_149 : clV "PastSleepLaw" 149 M_X11_fits 2 := ⟨⟨by decide, gk5 211 rfl rfl, (gk1 1 rfl rfl), ⟨by decide +kernel, by decide +kernel, by decide +kernel⟩, (gk5 208 rfl rfl)⟩, (gk5 209 rfl rfl), (gk5 210 rfl rfl)⟩
theorem cl_L_153 : clV "PastSleepLaw" 153 M_X11_flights 3 := ⟨⟨by decide, gk5 219 rfl rfl, (gk1 1 rfl rfl), ⟨by decide +kernel, by decide +kernel, by decide +kernel⟩, (gk5 216 rfl rfl)⟩, (gk5 217 rfl rfl), (gk5 218 rfl rfl)⟩
theorem cl_L_157 : clV "PastSleepLaw" 157 M_X11_mark 2 := ⟨⟨by decide, gk5 228 rfl rfl, (gk1 1 rfl rfl), ⟨by decide +kernel, by decide +kernel, by decide +kernel⟩, (gk5 225 rfl rfl)⟩, (gk5 226 rfl rfl), (gk5 227 rfl rfl)⟩
theorem cl_L_161 : clV "PastSleepLaw" 161 M_X11_count 1 := ⟨⟨by decide, gk6 11 rfl rfl, (gk1 1 rfl rfl), ⟨by decide +kernel, by decide +kernel, by decide +kernel⟩, (gk6 8 rfl rfl)⟩, (gk6 9 rfl rfl), (gk6 10 rfl rfl)⟩
theorem cl_L_7 : clV "PastSleepLaw" 7 M_X11_aisle 1 := ⟨⟨by decide, gk6 23 rfl rfl, (gk1 1 rfl rfl), ⟨by decide +kernel, by decide +kernel, by decide +kernel⟩, (gk6 20 rfl rfl)⟩, (gk6 21 rfl rfl), (gk6 22 rfl rfl)⟩
theorem cl_L_15 : clV "PastSleepLaw" 15 M_X11_beer 1 := ⟨⟨by decide, gk6 103 rfl rfl, (gk1 1 rfl rfl), ⟨by decide +kernel, by decide +kernel, by decide +kernel⟩, (gk6 100 rfl rfl)⟩, (gk6 101 rfl rfl), (gk6 102 rfl rfl)⟩
theorem cl_L_124 : clV "PastSleepLaw" 124 M_X12_thrown 0 := ⟨⟨by decide, gk7 107 rfl rfl, (gk1 14 rfl rfl), ⟨by decide +kernel, by decide +kernel, by decide +kernel⟩, (gk7 104 rfl rfl)⟩, (gk7 105 rfl rfl), (gk7 106 rfl rfl)⟩
theorem cl_L_28 : clV "PastSleepLaw" 28 M_X12_feed 3 := ⟨⟨by decide, gk7 111 rfl rfl, (gk1 14 rfl rfl), ⟨by decide +kernel, by decide +kernel, by decide +kernel⟩, (gk7 108 rfl rfl)⟩, (gk7 109 rfl rfl), (gk7 110 rfl rfl)⟩
theorem cl_L_33 : clV "PastSleepLaw" 33 M_X12_cabin 0 := ⟨⟨by decide, gk7 116 rfl rfl, (gk1 14 rfl rfl), ⟨by decide +kernel, by decide +kernel, by decide +kernel⟩, (gk7 113 rfl rfl)⟩, (gk7 114 rfl rfl), (gk7 115 rfl rfl)⟩
theorem cl_L_38 : clV "PastSleepLaw" 38 M_X12_sitter 2 := ⟨⟨by decide, gk8 16 rfl rfl, (gk1 14 rfl rfl), ⟨by decide +kernel, by decide +kernel, by decide +kernel⟩, (gk8 13 rfl rfl)⟩, (gk8 14 rfl rfl), (gk8 15 rfl rfl)⟩
theorem cl_L_42 : clV "PastSleepLaw" 42 M_X12_seat 2 := ⟨⟨by decide, gk8 40 rfl rfl, (gk1 14 rfl rfl), ⟨by decide +kernel, by decide +kernel, by decide +kernel⟩, (gk8 37 rfl rfl)⟩, (gk8 38 rfl rfl), (gk8 39 rfl rfl)⟩
theorem cl_L_46 : clV "PastSleepLaw" 46 M_X12_shut 1 := ⟨⟨by decide, gk8 52 rfl rfl, (gk1 14 rfl rfl), ⟨by decide +kernel, by decide +kernel, by decide +kernel⟩, (gk8 49 rfl rfl)⟩, (gk8 50 rfl rfl), (gk8 51 rfl rfl)⟩
theorem cl_L_51 : clV "PastSleepLaw" 51 M_X12_go 3 := ⟨⟨by decide, gk8 60 rfl rfl, (gk1 14 rfl rfl), ⟨by decide +kernel, by decide +kernel, by decide +kernel⟩, (gk8 57 rfl rfl)⟩, (gk8 58 rfl rfl), (gk8 59 rfl rfl)⟩
theorem cl_L_55 : clV "PastSleepLaw" 55 M_X12_back 3 := ⟨⟨by decide, gk8 120 rfl rfl, (gk1 14 rfl rfl), ⟨by decide +kernel, by decide +kernel, by decide +kernel⟩, (gk8 117 rfl rfl)⟩, (gk8 118 rfl rfl), (gk8 119 rfl rfl)⟩
theorem cl_L_60 : clV "PastSleepLaw" 60 M_X12_undo 0 := ⟨⟨by decide, gk8 124 rfl rfl, (gk1 14 rfl rfl), ⟨by decide +kernel, by decide +kernel, by decide +kernel⟩, (gk8 121 rfl rfl)⟩, (gk8 122 rfl rfl), (gk8 123 rfl rfl)⟩
theorem cl_L_64 : clV "PastSleepLaw" 64 M_X12_ticks 1 := ⟨⟨by decide, gk8 128 rfl rfl, (gk1 14 rfl rfl), ⟨by decide +kernel, by decide +kernel, by decide +kernel⟩, (gk8 125 rfl rfl)⟩, (gk8 126 rfl rfl), (gk8 127 rfl rfl)⟩
theorem cl_L_68 : clV "PastSleepLaw" 68 M_X12_length 1 := ⟨⟨by decide, gk8 141 rfl rfl, (gk1 14 rfl rfl), ⟨by decide +kernel, by decide +kernel, by decide +kernel⟩, (gk8 138 rfl rfl)⟩, (gk8 139 rfl rfl), (gk8 140 rfl rfl)⟩
theorem cl_L_72 : clV "PastSleepLaw" 72 M_X12_sleep 1 := ⟨⟨by decide, gk8 149 rfl rfl, (gk1 14 rfl rfl), ⟨by decide +kernel, by decide +kernel, by decide +kernel⟩, (gk8 146 rfl rfl)⟩, (gk8 147 rfl rfl), (gk8 148 rfl rfl)⟩
theorem cl_L_76 : clV "PastSleepLaw" 76 M_X12_odds 2 := ⟨⟨by decide, gk8 153 rfl rfl, (gk1 14 rfl rfl), ⟨by decide +kernel, by decide +kernel, by decide +kernel⟩, (gk8 150 rfl rfl)⟩, (gk8 151 rfl rfl), (gk8 152 rfl rfl)⟩
theorem cl_L_81 : clV "PastSleepLaw" 81 M_X12_chance 3 := ⟨⟨by decide, gk8 173 rfl rfl, (gk1 14 rfl rfl), ⟨by decide +kernel, by decide +kernel, by decide +kernel⟩, (gk8 170 rfl rfl)⟩, (gk8 171 rfl rfl), (gk8 172 rfl rfl)⟩
theorem cl_L_85 : clV "PastSleepLaw" 85 M_X12_cost 2 := ⟨⟨by decide, gk8 185 rfl rfl, (gk1 14 rfl rfl), ⟨by decide +kernel, by decide +kernel, by decide +kernel⟩, (gk8 182 rfl rfl)⟩, (gk8 183 rfl rfl), (gk8 184 rfl rfl)⟩
theorem cl_L_89 : clV "PastSleepLaw" 89 M_X12_best 1 := ⟨⟨by decide, gk8 193 rfl rfl, (gk1 14 rfl rfl), ⟨by decide +kernel, by decide +kernel, by decide +kernel⟩, (gk8 190 rfl rfl)⟩, (gk8 191 rfl rfl), (gk8 192 rfl rfl)⟩
theorem cl_L_93 : clV "PastSleepLaw" 93 M_X12_side 1 := ⟨⟨by decide, gk8 201 rfl rfl, (gk1 14 rfl rfl), ⟨by decide +kernel, by decide +kernel, by decide +kernel⟩, (gk8 198 rfl rfl)⟩, (gk8 199 rfl rfl), (gk8 200 rfl rfl)⟩
theorem cl_L_97 : clV "PastSleepLaw" 97 M_X12_regime 2 := ⟨⟨by decide, gk8 205 rfl rfl, (gk1 14 rfl rfl), ⟨by decide +kernel, by decide +kernel, by decide +kernel⟩, (gk8 202 rfl rfl)⟩, (gk8 203 rfl rfl), (gk8 204 rfl rfl)⟩
theorem cl_L_101 : clV "PastSleepLaw" 101 M_X12_fewest 2 := ⟨⟨by decide, gk8 214 rfl rfl, (gk1 14 rfl rfl), ⟨by decide +kernel, by decide +kernel, by decide +kernel⟩, (gk8 211 rfl rfl)⟩, (gk8 212 rfl rfl), (gk8 213 rfl rfl)⟩
theorem cl_L_105 : clV "PastSleepLaw" 105 M_X12_before 1 := ⟨⟨by decide, gk8 227 rfl rfl, (gk1 14 rfl rfl), ⟨by decide +kernel, by decide +kernel, by decide +kernel⟩, (gk8 224 rfl rfl)⟩, (gk8 225 rfl rfl), (gk8 226 rfl rfl)⟩
theorem cl_L_109 : clV "PastSleepLaw" 109 M_X12_standing 1 := ⟨⟨by decide, gk8 231 rfl rfl, (gk1 14 rfl rfl), ⟨by decide +kernel, by decide +kernel, by decide +kernel⟩, (gk8 228 rfl rfl)⟩, (gk8 229 rfl rfl), (gk8 230 rfl rfl)⟩
theorem cl_L_113 : clV "PastSleepLaw" 113 M_X12_habits 2 := ⟨⟨by decide, gk8 235 rfl rfl, (gk1 14 rfl rfl), ⟨by decide +kernel, by decide +kernel, by decide +kernel⟩, (gk8 232 rfl rfl)⟩, (gk8 233 rfl rfl), (gk8 234 rfl rfl)⟩
theorem cl_L_117 : clV "PastSleepLaw" 117 M_X12_seated 1 := ⟨⟨by decide, gk9 39 rfl rfl, (gk1 14 rfl rfl), ⟨by decide +kernel, by decide +kernel, by decide +kernel⟩, (gk9 36 rfl rfl)⟩, (gk9 37 rfl rfl), (gk9 38 rfl rfl)⟩
theorem cl_L_123 : clV "PastSleepLaw" 123 M_X12_aisle 1 := ⟨⟨by decide, gk9 47 rfl rfl, (gk1 14 rfl rfl), ⟨by decide +kernel, by decide +kernel, by decide +kernel⟩, (gk9 44 rfl rfl)⟩, (gk9 45 rfl rfl), (gk9 46 rfl rfl)⟩
theorem cl_L_129 : clV "PastSleepLaw" 129 M_X12_beer 1 := ⟨⟨by decide, gk9 55 rfl rfl, (gk1 14 rfl rfl), ⟨by decide +kernel, by decide +kernel, by decide +kernel⟩, (gk9 52 rfl rfl)⟩, (gk9 53 rfl rfl), (gk9 54 rfl rfl)⟩
theorem cl_L_133 : clV "PastSleepLaw" 133 M_X12_rests 2 := ⟨⟨by decide, gk9 59 rfl rfl, (gk1 14 rfl rfl), ⟨by decide +kernel, by decide +kernel, by decide +kernel⟩, (gk9 56 rfl rfl)⟩, (gk9 57 rfl rfl), (gk9 58 rfl rfl)⟩
theorem cl_L_138 : clV "PastSleepLaw" 138 M_X12_touch 2 := ⟨⟨by decide, gk9 71 rfl rfl, (gk1 14 rfl rfl), ⟨by decide +kernel, by decide +kernel, by decide +kernel⟩, (gk9 68 rfl rfl)⟩, (gk9 69 rfl rfl), (gk9 70 rfl rfl)⟩
theorem cl_L_143 : clV "PastSleepLaw" 143 M_X12_truly 2 := ⟨⟨by decide, gk9 75 rfl rfl, (gk1 14 rfl rfl), ⟨by decide +kernel, by decide +kernel, by decide +kernel⟩, (gk9 72 rfl rfl)⟩, (gk9 73 rfl rfl), (gk9 74 rfl rfl)⟩
theorem cl_L_148 : clV "PastSleepLaw" 148 M_X12_went 2 := ⟨⟨by decide, gk9 87 rfl rfl, (gk1 14 rfl rfl), ⟨by decide +kernel, by decide +kernel, by decide +kernel⟩, (gk9 84 rfl rfl)⟩, (gk9 85 rfl rfl), (gk9 86 rfl rfl)⟩
theorem cl_L_152 : clV "PastSleepLaw" 152 M_X12_fits 2 := ⟨⟨by decide, gk9 91 rfl rfl, (gk1 14 rfl rfl), ⟨by decide +kernel, by decide +kernel, by decide +kernel⟩, (gk9 88 rfl rfl)⟩, (gk9 89 rfl rfl), (gk9 90 rfl rfl)⟩
theorem cl_L_156 : clV "PastSleepLaw" 156 M_X12_flights 3 := ⟨⟨by decide, gk9 99 rfl rfl, (gk1 14 rfl rfl), ⟨by decide +kernel, by decide +kernel, by decide +kernel⟩, (gk9 96 rfl rfl)⟩, (gk9 97 rfl rfl), (gk9 98 rfl rfl)⟩
theorem cl_L_160 : clV "PastSleepLaw" 160 M_X12_mark 2 := ⟨⟨by decide, gk9 103 rfl rfl, (gk1 14 rfl rfl), ⟨by decide +kernel, by decide +kernel, by decide +kernel⟩, (gk9 100 rfl rfl)⟩, (gk9 101 rfl rfl), (gk9 102 rfl rfl)⟩
theorem cl_L_164 : clV "PastSleepLaw" 164 M_X12_count 1 := ⟨⟨by decide, gk9 107 rfl rfl, (gk1 14 rfl rfl), ⟨by decide +kernel, by decide +kernel, by decide +kernel⟩, (gk9 104 rfl rfl)⟩, (gk9 105 rfl rfl), (gk9 106 rfl rfl)⟩
section HBODY
variable {d : Nat} {G : Mem} {Q : Int → Mem → Prop} {c : Int} {fs : Int → Law} {s : Int}
theorem h_aisle (hI : Inv0 G G c fs) (is : InR s) (h1 : 0 ≤ s ∧ s < G c 8 → ∀ r G1, AisR G c fs s r → ClF c G G1 → Q 0 (st G1 363 0 (wr r))) (h0 : ¬ (0 ≤ s ∧ s < G c 8) → Q 1 G) : CtH (d + 9) M_La 1 6 [(2, 0), (0, s), (2, 363)] G Q := by
  refine CtH.of (by decide +kernel) (Nat.le_of_ble_eq_true rfl) ?_
  show Rg (rmD (d + 9) 1 6) KH M_La (NT, 0, 0, 0, 0, some lay) 0 [(0, (2, 0)), (1, (0, s)), (2, (2, 363))] [] G _
  refine g_aload_n d_La_0 2 rfl rfl (g_iconst d_La_1 (g_aload_n d_La_2 0 rfl rfl (g_iload_n d_La_3 1 rfl rfl (h_callX (d := d + 8) (mc' := 1) (ms' := 6) (M' := M_X11_aisle) (ci := 11) [(0, s)] rfl d_La_4 (by decide) cl_L_7 rfl (Nat.le_of_ble_eq_true rfl) ⟨Nat.le_of_ble_eq_true rfl, Nat.le_of_ble_eq_true rfl⟩ ⟨Nat.le_refl _, Nat.le_refl _⟩ (by decide) rfl (bs_ob bs_11) (x_aisle (Q := fun r G1 => (0 ≤ s ∧ s < G c 8) ∧ AisR G c fs s r ∧ ClF c G G1) (QX := fun G1 => G1 = G ∧ ¬ (0 ≤ s ∧ s < G c 8)) hI is (fun q r G1 a b => ⟨q, a, b⟩) (fun q => ⟨rfl, q⟩)) d_La_12 rfl (fun r G1 hq => ?_) (fun G1 hq => ?_)))))
  · show Rg (rmD (d + 9) 1 6) KH M_La (NT, 1, 6, 0, 0, some lay) 7 [(0, (2, 0)), (1, (0, s)), (2, (2, 363))] [(0, r), (0, 0), (2, 363)] G1 _
    exact g_i2lW d_La_7 (g_lastore (len := 1) d_La_8 (by unfold Ar; decide +kernel) (by decide) (g_goto (tgt := 15) d_La_9 (by decide) (g_iconst d_La_15 (h_ireturn d_La_16 rfl ⟨Nat.le_refl _, Nat.le_refl _⟩ (h1 hq.1 r G1 hq.2.1 hq.2.2)))))
  · obtain ⟨rfl, hn⟩ := hq
    show Rg (rmD (d + 9) 1 6) KH M_La (NT, 1, 6, 0, 0, some lay) 13 [] [] G1 _
    exact g_iconst d_La_13 (h_ireturn d_La_14 rfl ⟨Nat.le_refl _, Nat.le_refl _⟩ (h0 hn))
theorem h_beer (hI : Inv0 G G c fs) (is : InR s) (h1 : (0 ≤ s ∧ s < G c 8) ∧ G (c + 13 + s) 2 < 9 → ∀ r G1, BeeR G c fs s r → ClF c G G1 → Q 0 (st G1 363 0 (wr r))) (h0 : ¬ ((0 ≤ s ∧ s < G c 8) ∧ G (c + 13 + s) 2 < 9) → Q 1 G) : CtH (d + 9) M_Lb 1 6 [(2, 0), (0, s), (2, 363)] G Q := by
  refine CtH.of (by decide +kernel) (Nat.le_of_ble_eq_true rfl) ?_
  show Rg (rmD (d + 9) 1 6) KH M_Lb (NT, 0, 0, 0, 0, some lay) 0 [(0, (2, 0)), (1, (0, s)), (2, (2, 363))] [] G _
  refine g_aload_n d_Lb_0 2 rfl rfl (g_iconst d_Lb_1 (g_aload_n d_Lb_2 0 rfl rfl (g_iload_n d_Lb_3 1 rfl rfl (h_callX (d := d + 8) (mc' := 1) (ms' := 6) (M' := M_X11_beer) (ci := 11) [(0, s)] rfl d_Lb_4 (by decide) cl_L_15 rfl (Nat.le_of_ble_eq_true rfl) ⟨Nat.le_of_ble_eq_true rfl, Nat.le_of_ble_eq_true rfl⟩ ⟨Nat.le_refl _, Nat.le_refl _⟩ (by decide) rfl (bs_ob bs_11) (x_beer (Q := fun r G1 => ((0 ≤ s ∧ s < G c 8) ∧ G (c + 13 + s) 2 < 9) ∧ BeeR G c fs s r ∧ ClF c G G1) (QX := fun G1 => G1 = G ∧ ¬ ((0 ≤ s ∧ s < G c 8) ∧ G (c + 13 + s) 2 < 9)) hI is (fun q r G1 a b => ⟨q, a, b⟩) (fun q => ⟨rfl, q⟩)) d_Lb_12 rfl (fun r G1 hq => ?_) (fun G1 hq => ?_)))))
  · show Rg (rmD (d + 9) 1 6) KH M_Lb (NT, 1, 6, 0, 0, some lay) 7 [(0, (2, 0)), (1, (0, s)), (2, (2, 363))] [(0, r), (0, 0), (2, 363)] G1 _
    exact g_i2lW d_Lb_7 (g_lastore (len := 1) d_Lb_8 (by unfold Ar; decide +kernel) (by decide) (g_goto (tgt := 15) d_Lb_9 (by decide) (g_iconst d_Lb_15 (h_ireturn d_Lb_16 rfl ⟨Nat.le_refl _, Nat.le_refl _⟩ (h1 hq.1 r G1 hq.2.1 hq.2.2)))))
  · obtain ⟨rfl, hn⟩ := hq
    show Rg (rmD (d + 9) 1 6) KH M_Lb (NT, 1, 6, 0, 0, some lay) 13 [] [] G1 _
    exact g_iconst d_Lb_13 (h_ireturn d_Lb_14 rfl ⟨Nat.le_refl _, Nat.le_refl _⟩ (h0 hn))
end HBODY
def clH (own : String) (idx : Nat) (M' : Mth) (na : Nat) : Prop := M'.2.2.1 ≤ 45 ∧ Cond.codeWith M'.1 M'.2.1 M'.2.2.1 M'.2.2.2 hhL ∈ lw_tbl.filter goodWord ∧ Cond.initialized M'.1.cls ∈ lw_tbl.filter goodWord ∧ (M'.1.cls ≠ "java/lang/invoke/MethodHandle" ∧ M'.1.cls ≠ "java/lang/invoke/VarHandle" ∧ (parseMethodDescriptor M'.1.desc).map (fun d => d.parameters.length) = some na) ∧ Cond.methodLink own idx M'.1 ∈ lw_tbl.filter goodWord ∧ Cond.static M'.1 ∈ lw_tbl.filter goodWord
theorem cl_L_118 : clH "PastSleepLaw" 118 M_La 3 := ⟨by decide, (gk6 18 rfl rfl), (gk1 0 rfl rfl), ⟨by decide +kernel, by decide +kernel, by decide +kernel⟩, (gk6 16 rfl rfl), (gk6 17 rfl rfl)⟩
theorem cl_L_127 : clH "PastSleepLaw" 127 M_Lb 3 := ⟨by decide, (gk6 99 rfl rfl), (gk1 0 rfl rfl), ⟨by decide +kernel, by decide +kernel, by decide +kernel⟩, (gk6 97 rfl rfl), (gk6 98 rfl rfl)⟩
section LROWS
variable {R : Room} {K : Kt} {M : Mth} {z : Zt} {pc : Nat} {ls : List (Nat × AV)} {sk : List AV} {G : Mem} {Z : Zp}
theorem wsH_good {M' : Mth} (hc : Cond.codeWith M'.1 M'.2.1 M'.2.2.1 M'.2.2.2 hhL ∈ lw_tbl.filter goodWord) : GoodIn (lw_tbl.filter goodWord) (wsH M') := by
  intro w hw
  rcases List.mem_cons.mp hw with rfl | hw
  · exact tbl_good _ hc
  · exact tbl_good _ hw
theorem g_callH {d k w x y : Nat} {M' : Mth} {idx na : Nat} {Q : Int → Mem → Prop} (as : List AV) (hd : decode M.2.1 pc = .ok (.invokestatic idx, 3)) (hcl : clH M.1.cls idx M' na) (hna : as.length = na) (hroom : csum sk ≤ 8) (hb : k + 1 ≤ R.cells ∧ w + 6 ≤ R.slots) (hR : d + 1 ≤ R.frames ∧ 64 * (d + 1) ≤ R.locals) (hKt : ∀ l c s a E, K l c s a E → l.stackTraces = false)
    (h : CtH d M' 1 6 as G Q) (k1 : ∀ r G1, Q r G1 → Rg R K M (NT, k + 1, w + 6, x, y, some lay) (pc + 3) ls (rvs M'.2.2.2 r ++ sk) G1 Z) : Rg R K M (NT, k, w, x, y, some lay) pc ls (as.reverse ++ sk) G Z := by
  intro p l e s m args below meth c D E cA hc hK9 H locs lc hw hs hl
  have hts := hc.2.2.2.2.1
  have cw : vx_CSW R s args M.1.cls idx M'.1 M'.2.1 M'.2.2.1 M'.2.2.2 hhL (wsH M') (rmD d 1 6) 1 6 na := by
    refine ⟨⟨rfl, rfl, hR.1, by show 8 + (M'.2.2.1 + 11) + 64 * d ≤ R.locals; have := hcl.1; omega, pay_in hts (wsH_good hcl.2.1), List.mem_cons_self⟩, hts _ hcl.2.1, hts _ hcl.2.2.1, ⟨hcl.2.2.2.1.1, hcl.2.2.2.1.2.1⟩, fun sig h => ?_, hts _ hcl.2.2.2.2.1, hts _ hcl.2.2.2.2.2⟩
    have h2 := hcl.2.2.2.1.2.2
    rw [h] at h2
    exact (Option.some.inj h2).symm
  rw [List.map_append, List.map_reverse]
  exact gcall_on (n := 363) (M' := M') (mc' := 1) (ms' := 6) hs (vx_runSW (As := as.map (cv E)) ⟨hc.1, hc.2.1, hc.2.2.1, hc.2.2.2.1, hts⟩ (h l D E cA (hKt _ _ _ _ _ hK9)) cw ⟨PcM_blind D E cA (some lay) NT as G, PcM_at hw hs hc.2.2.2.2.2.2.2.2.1 hc.2.2.2.2.2.2.2.2.2.1⟩ rfl (by rw [List.length_map]; exact hna) hl.1 rfl (lv_room (by rw [csum_cat]; exact hroom)) hd hb) (fun r G1 H1 locs1 hq hw1 hs1 => k1 r G1 hq p l e s m args below meth c D E cA hc hK9 H1 locs1 lc hw1 hs1 hl)
theorem g_less {ls' : List (Nat × AV)} (hs9 : ∀ q ∈ ls', q ∈ ls) (h : Rg R K M z pc ls' sk G Z) : Rg R K M z pc ls sk G Z := by
  intro p l e s m args below meth c D E cA hc hK9 H locs lc hw hs hl
  refine h p l e s m args below meth c D E cA hc hK9 H locs lc hw hs ⟨hl.1, hl.2.1, fun q hq => ?_⟩
  obtain ⟨a, ha, rfl⟩ := List.mem_map.mp hq
  exact hl.2.2 _ (List.mem_map.mpr ⟨a, hs9 a ha, rfl⟩)
theorem g_wide {n k w k' w' x y : Nat} {Ly : Option Mem} (hk : k ≤ k' ∧ w ≤ w') (h : Rg R K M (n, k', w', x, y, Ly) pc ls sk G Z) : Rg R K M (n, k, w, x, y, Ly) pc ls sk G Z := by
  intro p l e s m args below meth c D E cA hc hK9 H locs lc hw hs hl
  exact W.widen hk.1 hk.2 (h p l e s m args below meth c D E cA hc hK9 H locs lc hw hs hl)
theorem g_icmp_same {a b off : Int} {tgt : Nat} (hd : decode M.2.1 pc = .ok (.if_icmp .eq off, 3)) (ht : (pc : Int) + off = (tgt : Int)) (hab : a = b) (h1 : Rg R K M z tgt ls sk G Z) : Rg R K M z pc ls ((0, b) :: (0, a) :: sk) G Z := by
  subst hab
  intro p l e s m args below meth c D E cA hc hK9 H locs lc hw hs hl
  exact lv_icmp_eq hc.1 hc.2.1 hd ht (fun _ => h1 p l e s m args below meth c D E cA hc hK9 H locs lc hw hs hl) (fun q => absurd rfl q)
theorem g_lcmp_same {a b off : Int} {tgt : Nat} (hd : decode M.2.1 pc = .ok (.lcmp, 1)) (hd2 : decode M.2.1 (pc + 1) = .ok (.ifCond .eq off, 3)) (ht : ((pc + 1 : Nat) : Int) + off = (tgt : Int)) (hab : a = b) (h1 : Rg R K M z tgt ls sk G Z) : Rg R K M z pc ls ((1, b) :: (1, a) :: sk) G Z := by
  subst hab
  intro p l e s m args below meth c D E cA hc hK9 H locs lc hw hs hl
  have a2 : (Int64.ofInt a).toInt = (Int64.ofInt (Int64.ofInt a).toInt).toInt := by rw [Int64.ofInt_toInt]
  have r : InL (Int64.ofInt a).toInt := ⟨Int64.le_toInt _, Int64.toInt_lt _⟩
  have e9 : cv E (1, a) = cv E (1, (Int64.ofInt a).toInt) := by show Value.long _ = Value.long _; rw [Int64.ofInt_toInt]
  have k := g_lcmp_eq (R := R) (K := K) (M := M) (z := z) (pc := pc) (ls := ls) (sk := sk) (G := G) (Z := Z) (a := (Int64.ofInt a).toInt) (b := (Int64.ofInt a).toInt) hd hd2 ht r r (fun _ => h1) (fun q => absurd rfl q) p l e s m args below meth c D E cA hc hK9 H locs lc hw hs hl
  rw [List.map_cons, List.map_cons, ← e9] at k
  exact k
theorem g_neq0 {a : Int} (d0 : decode M.2.1 pc = .ok (.ifCond .eq 7, 3)) (d3 : decode M.2.1 (pc + 3) = .ok (.iconst 1, 1)) (d4 : decode M.2.1 (pc + 4) = .ok (.goto 4, 3)) (d7 : decode M.2.1 (pc + 7) = .ok (.iconst 0, 1)) (ha : InR a) (h : Rg R K M z (pc + 8) ls ((0, if a = 0 then 0 else 1) :: sk) G Z) : Rg R K M z pc ls ((0, a) :: sk) G Z := by
  refine g_if_eq (tgt := pc + 7) d0 (by omega) ha (fun q => g_iconst d7 ?_) (fun q => g_iconst d3 (g_goto (tgt := pc + 8) d4 (by omega) ?_))
  · rw [if_pos q] at h; exact h
  · rw [if_neg q] at h; exact h
end LROWS
def xsI (xs : Nat → Int32) (j : Int) : Int := (xs j.toNat).toInt
theorem xsI_in (xs : Nat → Int32) (j : Int) : InR (xsI xs j) := ⟨Int32.le_toInt _, Int32.toInt_lt _⟩
theorem bit_in (a : Int) : InR (if a = 0 then 0 else 1) := by split <;> decide
def KL (b L : Nat) (xs : Nat → Int32) : Kt := fun l _ s args E => l.stackTraces = false ∧ args = #[Value.ref b] ∧ va_X b L xs s s.heap ∧ b < s.heap.size ∧ E.1 = s.heap.size
theorem KL_st {b L : Nat} {xs : Nat → Int32} : ∀ l c s a E, KL b L xs l c s a E → l.stackTraces = false := fun _ _ _ _ _ h => h.1
section SROWS
variable {R : Room} {M : Mth} {z : Zt} {pc : Nat} {ls : List (Nat × AV)} {sk : List AV} {G : Mem} {Z : Zp} {b L : Nat} {xs : Nat → Int32}
theorem g_aload7 {j : Fin 4} {i : Nat} {K : Kt} {x : Int} (hd : decode M.2.1 pc = .ok (.aload_n j, 1)) (k : Nat) (hi : (j : Nat) = i) (hk : ls[k]? = some (i, (7, x))) (h : Rg R K M z (pc + 1) ls ((7, x) :: sk) G Z) : Rg R K M z pc ls sk G Z := by
  intro p l e s m args below meth c D E cA hc hK9 H locs lc hw hs hl
  exact lv_aload_n hc.1 hc.2.1 hd hi (ls_at E hl hk) (h p l e s m args below meth c D E cA hc hK9 H locs lc hw hs hl)
theorem g_sld {i : Int} (hd : decode M.2.1 pc = .ok (.iaload, 1)) (hi : 0 ≤ i ∧ i < L) (hL : L ≤ 3584) (h : Rg R (KL b L xs) M z (pc + 1) ls ((0, xsI xs i) :: sk) G Z) : Rg R (KL b L xs) M z pc ls ((0, i) :: (7, (b : Int)) :: sk) G Z := by
  intro p l e s m args below meth c D E cA hc hK9 H locs lc hw hs hl
  have k := h p l e s m args below meth c D E cA hc hK9 H locs lc hw hs hl
  have hlt : L < 2147483648 := by omega
  have e1 : (Int32.ofInt i).toNatClampNeg = i.toNat := tcl hi.1 hi.2 hlt
  refine va_sld (A := Ow E) hc.1 hc.2.1 hK9.2.2.1 hK9.2.2.2.1 (fun q => ?_) hs (vpin hi.1 hi.2 hlt) hd ?_
  · have q' : E.1 ≤ b := q
    have := hK9.2.2.2.1
    have := hK9.2.2.2.2
    omega
  · rw [e1]
    rw [List.map_cons, cv0, xsI, Int32.ofInt_toInt] at k
    exact k
theorem g_slen (hd : decode M.2.1 pc = .ok (.arraylength, 1)) (h : Rg R (KL b L xs) M z (pc + 1) ls ((0, (L : Int)) :: sk) G Z) : Rg R (KL b L xs) M z pc ls ((7, (b : Int)) :: sk) G Z := by
  intro p l e s m args below meth c D E cA hc hK9 H locs lc hw hs hl
  have k := h p l e s m args below meth c D E cA hc hK9 H locs lc hw hs hl
  refine va_slen (A := Ow E) hc.1 hc.2.1 hK9.2.2.1 hK9.2.2.2.1 (fun q => ?_) hs hd ?_
  · have q' : E.1 ≤ b := q
    have := hK9.2.2.2.1
    have := hK9.2.2.2.2
    omega
  · exact k
theorem g_arg {i n : Int} (h0 : decode M.2.1 pc = .ok (.aload_n 0, 1)) (h1 : decode M.2.1 (pc + 1) = .ok (.iload 4, 2)) (h3 : decode M.2.1 (pc + 3) = .ok (.iconst n, 1)) (h4 : decode M.2.1 (pc + 4) = .ok (.iadd, 1)) (h5 : decode M.2.1 (pc + 5) = .ok (.iaload, 1)) (k0 k4 : Nat) (e0 : ls[k0]? = some (0, (7, (b : Int)))) (e4 : ls[k4]? = some (4, (0, i))) (hi : 0 ≤ i ∧ i + 7 ≤ L) (hn : 0 ≤ n ∧ n < 7) (hL : L ≤ 3584) (h : Rg R (KL b L xs) M z (pc + 6) ls ((0, xsI xs (i + n)) :: sk) G Z) : Rg R (KL b L xs) M z pc ls sk G Z :=
  g_aload7 h0 k0 rfl e0 (g_iload h1 k4 e4 (g_iconst h3 (g_iadd h4 (g_sld h5 ⟨by omega, by omega⟩ hL h))))
theorem g_argB {i n : Int} (h0 : decode M.2.1 pc = .ok (.aload_n 0, 1)) (h1 : decode M.2.1 (pc + 1) = .ok (.iload 4, 2)) (h3 : decode M.2.1 (pc + 3) = .ok (.bipush n, 2)) (h4 : decode M.2.1 (pc + 5) = .ok (.iadd, 1)) (h5 : decode M.2.1 (pc + 6) = .ok (.iaload, 1)) (k0 k4 : Nat) (e0 : ls[k0]? = some (0, (7, (b : Int)))) (e4 : ls[k4]? = some (4, (0, i))) (hb : (Int8.ofInt n).toInt32 = Int32.ofInt n) (hi : 0 ≤ i ∧ i + 7 ≤ L) (hn : 0 ≤ n ∧ n < 7) (hL : L ≤ 3584) (h : Rg R (KL b L xs) M z (pc + 7) ls ((0, xsI xs (i + n)) :: sk) G Z) : Rg R (KL b L xs) M z pc ls sk G Z :=
  g_aload7 h0 k0 rfl e0 (g_iload h1 k4 e4 (g_bipush h3 hb (g_iadd h4 (g_sld h5 ⟨by omega, by omega⟩ hL h))))
end SROWS
