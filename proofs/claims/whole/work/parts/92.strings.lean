/-! the string of the words: the JDK's own methods over it -/
section STRS
variable {d : Nat} {M : Mth} {z : Zt} {pc : Nat} {ls : List (Nat × AV)} {sk : List AV} {G : Mem} {Q : Int → Mem → Prop}
theorem r_ldcS (hd : decode M.2.1 pc = .ok (.ldc 64, 2)) (hm : M.1.cls = RX10) (h : Rn d M z (pc + 2) ls ((4, 0) :: sk) G Q) : Rn d M z pc ls sk G Q := by
  intro p l e s m args below meth c D E cA hc H locs lc hw hs hl
  exact va_ldcS hc.1 hc.2.1 hc.2.2.2.1 (by rw [hm]; exact hc.2.2.2.2.2.2.2.2.2.1.2.2.2.1) hd (h p l e s m args below meth c D E cA hc H locs lc hw hs hl)
theorem r_sval {idx : Nat} (hd : decode M.2.1 pc = .ok (.getfield idx, 3)) (hm : Cond.fieldLink M.1.cls idx "java/lang/String" "value" "[B" ∈ lw_tbl.filter goodWord) (h : Rn d M z (pc + 3) ls ((5, 0) :: sk) G Q) : Rn d M z pc ls ((4, 0) :: sk) G Q := by
  intro p l e s m args below meth c D E cA hc H locs lc hw hs hl
  exact vk_getf hc.1 hc.2.1 (hc.2.2.2.2.2.2.2.2.2.1.2.2.1.1 0 (by decide)).2.2.1 hs hc.2.2.2.1 (hc.2.2.2.2.1 _ hm) (fun _ h => h) hd (h p l e s m args below meth c D E cA hc H locs lc hw hs hl)
theorem r_scod {idx : Nat} (hd : decode M.2.1 pc = .ok (.getfield idx, 3)) (hm : Cond.fieldLink M.1.cls idx "java/lang/String" "coder" "B" ∈ lw_tbl.filter goodWord) (h : Rn d M z (pc + 3) ls ((0, 0) :: sk) G Q) : Rn d M z pc ls ((4, 0) :: sk) G Q := by
  intro p l e s m args below meth c D E cA hc H locs lc hw hs hl
  exact vk_getf hc.1 hc.2.1 (hc.2.2.2.2.2.2.2.2.2.1.2.2.1.1 0 (by decide)).2.1 hs hc.2.2.2.1 (hc.2.2.2.2.1 _ hm) (fun _ h => h) hd (h p l e s m args below meth c D E cA hc H locs lc hw hs hl)
theorem r_comp {idx : Nat} (hd : decode M.2.1 pc = .ok (.getstatic idx, 3)) (hm : Cond.fieldLink M.1.cls idx "java/lang/String" "COMPACT_STRINGS" "Z" ∈ lw_tbl.filter goodWord) (h : Rn d M z (pc + 3) ls ((0, 1) :: sk) G Q) : Rn d M z pc ls sk G Q := by
  intro p l e s m args below meth c D E cA hc H locs lc hw hs hl
  exact va_gets hc.1 hc.2.1 hc.2.2.2.2.2.2.2.2.2.1.2.2.2.2.1.1 hs hc.2.2.2.1 (hc.2.2.2.2.1 _ hm) (fun _ h => h) hd (h p l e s m args below meth c D E cA hc H locs lc hw hs hl)
theorem r_fmt {idx : Nat} (hd : decode M.2.1 pc = .ok (.getstatic idx, 3)) (hm : Cond.fieldLink M.1.cls idx "jdk/internal/util/Preconditions" "SIOOBE_FORMATTER" "Ljava/util/function/BiFunction;" ∈ lw_tbl.filter goodWord) (h : ∀ v : AV, v.1 = 6 ∨ v.1 = 7 → Rn d M z (pc + 3) ls (v :: sk) G Q) : Rn d M z pc ls sk G Q := by
  intro p l e s m args below meth c D E cA hc H locs lc hw hs hl
  rcases hc.2.2.2.2.2.2.2.2.2.1.2.2.2.2.1.2.1 with hz | ⟨t, hz⟩
  · exact va_gets hc.1 hc.2.1 hz hs hc.2.2.2.1 (hc.2.2.2.2.1 _ hm) (fun _ h => h) hd (h (6, 0) (Or.inl rfl) p l e s m args below meth c D E cA hc H locs lc hw hs hl)
  · exact va_gets hc.1 hc.2.1 hz hs hc.2.2.2.1 (hc.2.2.2.2.1 _ hm) (fun _ h => h) hd (h (7, (t : Int)) (Or.inr rfl) p l e s m args below meth c D E cA hc H locs lc hw hs hl)
theorem r_blen (hd : decode M.2.1 pc = .ok (.arraylength, 1)) (h : Rn d M z (pc + 1) ls ((0, 173) :: sk) G Q) : Rn d M z pc ls ((5, 0) :: sk) G Q := by
  intro p l e s m args below meth c D E cA hc H locs lc hw hs hl
  exact va_tlen hc.1 hc.2.1 (hc.2.2.2.2.2.2.2.2.2.1.2.2.1.1 0 (by decide)).2.2.2 hs (v := Int32.ofInt 173) rfl hd (h p l e s m args below meth c D E cA hc H locs lc hw hs hl)
/-- the bytes -/
def bI (i : Int) : Int := ((sByt.getD 0 []).getD i.toNat 0).toInt
theorem r_bld {i : Int} (hd : decode M.2.1 pc = .ok (.baload, 1)) (hi : 0 ≤ i ∧ i < 173) (h : Rn d M z (pc + 1) ls ((0, bI i) :: sk) G Q) : Rn d M z pc ls ((0, i) :: (5, 0) :: sk) G Q := by
  intro p l e s m args below meth c D E cA hc H locs lc hw hs hl
  refine va_tb hc.1 hc.2.1 (hc.2.2.2.2.2.2.2.2.2.1.2.2.1.1 0 (by decide)).2.2.2 hs (i := Int32.ofInt i) (vpin (n := 173) hi.1 hi.2 (by decide)) (v := cv E (0, bI i)) ?_ hd (h p l e s m args below meth c D E cA hc H locs lc hw hs hl)
  rw [tcl (n := 173) hi.1 hi.2 (by decide)]
  show Value.int _ = Value.int (Int32.ofInt (bI i))
  unfold bI
  rw [Int32.ofInt_toInt]
theorem r_creturn {n k w mc ms : Nat} {Ly : Option Mem} {r : Int} (hd : decode M.2.1 pc = .ok (.ireturn, 1)) (hr : M.2.2.2 = some .char) (hz : n - k + mc = n ∧ k ≤ mc ∧ w ≤ ms) (h9 : narrow .char (.int (Int32.ofInt r)) = .int (Int32.ofInt r)) (h : Q r G) : Rn d M (n, k, w, mc, ms, Ly) pc ls [(0, r)] G Q := by
  intro p l e s m args below meth c D E cA hc H locs lc hw hs hl
  refine W.widen hz.2.1 hz.2.2 (W.zret hc.1 hc.2.1 (ty := .char) (by rw [hc.2.2.2.2.2.1, hr]) h9 (fun t ht hW => ⟨⟨r, G, by rw [hr]; rfl, h, by rw [ht]; show Wd D E cA Ly (n - k + mc) G H; rw [hz.1]; exact hw⟩, hs.F ht⟩) hs.2.2 hd hc.2.2.2.2.2.2.1)
theorem r_yreturn {n k w mc ms : Nat} {Ly : Option Mem} {r : Int} (hd : decode M.2.1 pc = .ok (.ireturn, 1)) (hr : M.2.2.2 = some .byte) (hz : n - k + mc = n ∧ k ≤ mc ∧ w ≤ ms) (h9 : r = 0) (h : Q r G) : Rn d M (n, k, w, mc, ms, Ly) pc ls [(0, r)] G Q := by
  intro p l e s m args below meth c D E cA hc H locs lc hw hs hl
  refine W.widen hz.2.1 hz.2.2 (W.zret hc.1 hc.2.1 (ty := .byte) (by rw [hc.2.2.2.2.2.1, hr]) (by rw [h9]; rfl) (fun t ht hW => ⟨⟨r, G, by rw [hr]; rfl, h, by rw [ht]; show Wd D E cA Ly (n - k + mc) G H; rw [hz.1]; exact hw⟩, hs.F ht⟩) hs.2.2 hd hc.2.2.2.2.2.2.1)
theorem r_callStr {n k w mc ms : Nat} {Ly : Option Mem} {M' : Mth} {idx na mc' ms' : Nat} (as : List AV) (hd : decode M.2.1 pc = .ok (.invokevirtual idx, 3)) (hcl : clV M.1.cls idx M' na) (hC : M'.1.cls = "java/lang/String") (hna : as.length = na) (hroom : csum sk ≤ 8) (hb : k + mc' ≤ mc ∧ w + ms' ≤ ms)
    (h : Ct d M' n mc' ms' Ly ((4, 0) :: as) G (fun r G1 => Rn (d + 1) M (n + mc', k + mc', w + ms', mc, ms, Ly) (pc + 3) ls (rvs M'.2.2.2 r ++ sk) G1 Q)) : Rn (d + 1) M (n, k, w, mc, ms, Ly) pc ls (as.reverse ++ (4, 0) :: sk) G Q := by
  intro p l e s m args below meth c D E cA hc H locs lc hw hs hl
  have hts := hc.2.2.2.2.1
  have hK := hc.2.2.2.2.2.2.2.2.1
  have hrecv := vk_recv (i := 0) hc.2.2.2.2.2.2.2.2.2.1.2.2.1 (by decide) hs
  rw [← hC] at hrecv
  rw [List.map_append, List.map_reverse, List.map_cons]
  refine call_on (M' := M') (mc' := mc') (ms' := ms') hs hw.2.1 (va_runV (As := as.map (cv E)) (C := M'.1.cls) ⟨hc.1, hc.2.1, hc.2.2.1, hc.2.2.2.1, hts⟩ (h l D E cA) ⟨clB.at hcl.1 hts, hts _ hcl.2.1, hts _ hcl.2.2⟩ ⟨PcM_blind D E cA Ly n _ G, hrecv, PcM_at (as := (4, 0) :: as) hw hs hK hc.2.2.2.2.2.2.2.2.2.1⟩ rfl (by rw [List.length_map]; exact hna) hl.1 rfl (lv_room (by rw [csum_cat]; exact hroom)) hd hb) (fun r G1 H1 locs1 hq hw1 hs1 => ?_)
  have h1 := hq p l e s m args below meth c D E cA hc H1 locs1 lc hw1 hs1 hl
  rw [show n + mc' - (k + mc') = n - k from by omega] at h1
  exact h1
def M_J0_length : Mth := (yJ0_length_8abf5, cJ0_length_8abf5, 1, some .int)
def M_J0_coder : Mth := (yJ0_coder_7d493, cJ0_coder_7d493, 1, some .byte)
def M_J0_charAt : Mth := (yJ0_charAt_5068e, cJ0_charAt_5068e, 2, some .char)
def M_J0_isLatin1 : Mth := (yJ0_isLatin1_aae02, cJ0_isLatin1_aae02, 1, some .boolean)
def M_J0_checkIndex : Mth := (yJ0_checkIndex_df160, cJ0_checkIndex_df160, 2, none)
def M_J1_charAt : Mth := (yJ1_charAt_3b067, cJ1_charAt_3b067, 2, some .char)
def M_J3_checkIndex : Mth := (yJ3_checkIndex_8e157, cJ3_checkIndex_8e157, 3, some .int)
theorem cl_X10_66 : clV RX10 66 M_J0_length 0 := ⟨⟨by decide, gk3 107 rfl rfl, gk1 15 rfl rfl, ⟨by decide +kernel, by decide +kernel, by decide +kernel⟩, gk3 104 rfl rfl⟩, gk3 105 rfl rfl, gk3 106 rfl rfl⟩
theorem cl_X10_72 : clV RX10 72 M_J0_charAt 1 := ⟨⟨by decide, gk3 117 rfl rfl, gk1 15 rfl rfl, ⟨by decide +kernel, by decide +kernel, by decide +kernel⟩, gk3 114 rfl rfl⟩, gk3 115 rfl rfl, gk3 116 rfl rfl⟩
theorem cl_J0_335 : clV RJ0 335 M_J0_coder 0 := ⟨⟨by decide, gk3 111 rfl rfl, gk1 15 rfl rfl, ⟨by decide +kernel, by decide +kernel, by decide +kernel⟩, gk3 108 rfl rfl⟩, gk3 109 rfl rfl, gk3 110 rfl rfl⟩
theorem cl_J0_492 : clV RJ0 492 M_J0_isLatin1 0 := ⟨⟨by decide, gk3 121 rfl rfl, gk1 15 rfl rfl, ⟨by decide +kernel, by decide +kernel, by decide +kernel⟩, gk3 118 rfl rfl⟩, gk3 119 rfl rfl, gk3 120 rfl rfl⟩
theorem cl_J0_495 : clS RJ0 495 M_J1_charAt 2 := ⟨⟨by decide, gk3 124 rfl rfl, gk1 16 rfl rfl, ⟨by decide +kernel, by decide +kernel, by decide +kernel⟩, gk3 122 rfl rfl⟩, gk3 123 rfl rfl⟩
theorem cl_J1_9 : clS RJ1 9 M_J0_checkIndex 2 := ⟨⟨by decide, gk3 127 rfl rfl, gk1 15 rfl rfl, ⟨by decide +kernel, by decide +kernel, by decide +kernel⟩, gk3 125 rfl rfl⟩, gk3 126 rfl rfl⟩
theorem cl_J0_1059 : clS RJ0 1059 M_J3_checkIndex 3 := ⟨⟨by decide, gk3 132 rfl rfl, gk1 17 rfl rfl, ⟨by decide +kernel, by decide +kernel, by decide +kernel⟩, gk3 130 rfl rfl⟩, gk3 131 rfl rfl⟩
theorem fl_J0_9 : Cond.fieldLink RJ0 9 "java/lang/String" "value" "[B" ∈ lw_tbl.filter goodWord := gk9 126 rfl rfl
theorem fl_J0_15 : Cond.fieldLink RJ0 15 "java/lang/String" "coder" "B" ∈ lw_tbl.filter goodWord := gk9 127 rfl rfl
theorem fl_J0_38 : Cond.fieldLink RJ0 38 "java/lang/String" "COMPACT_STRINGS" "Z" ∈ lw_tbl.filter goodWord := gk3 112 rfl rfl
theorem fl_J0_1053 : Cond.fieldLink RJ0 1053 "jdk/internal/util/Preconditions" "SIOOBE_FORMATTER" "Ljava/util/function/BiFunction;" ∈ lw_tbl.filter goodWord := gk3 128 rfl rfl
theorem c_sCoder (h : Q 0 G) : Ct d M_J0_coder NT 0 0 (some lay) [(4, 0)] G Q := by
  refine ctof ?_
  refine r_comp (pc := 0) (idx := 38) (by decide +kernel) fl_J0_38 ?_
  refine r_if_eq (off := 10) (tgt := 13) (by decide +kernel) (by decide) (by decide) (fun x => absurd x (by decide)) (fun _ => ?_)
  refine r_aload_nS (j := 0) (by decide +kernel) 0 rfl rfl ?_
  refine r_scod (idx := 15) (by decide +kernel) fl_J0_15 ?_
  refine r_goto (off := 4) (tgt := 14) (by decide +kernel) (by decide) ?_
  exact r_yreturn (by decide +kernel) rfl ⟨rfl, Nat.le_refl _, Nat.le_refl _⟩ rfl h
theorem c_sLen (h : Q 173 G) : Ct (d + 1) M_J0_length NT 0 0 (some lay) [(4, 0)] G Q := by
  refine ctof ?_
  refine r_aload_nS (j := 0) (by decide +kernel) 0 rfl rfl ?_
  refine r_sval (idx := 9) (by decide +kernel) fl_J0_9 ?_
  refine r_blen (by decide +kernel) ?_
  refine r_aload_nS (j := 0) (by decide +kernel) 0 rfl rfl ?_
  refine r_callStr (M' := M_J0_coder) (idx := 335) (mc' := 0) (ms' := 0) [] (by decide +kernel) cl_J0_335 rfl rfl (by decide) ⟨Nat.le_refl _, Nat.le_refl _⟩ (c_sCoder ?_)
  refine r_ishr (a := 173) (b := 0) (by decide +kernel) ?_
  rw [show shrI 173 0 = 173 by decide +kernel]
  exact r_ireturn (by decide +kernel) rfl ⟨rfl, Nat.le_refl _, Nat.le_refl _⟩ h
theorem c_sLatin (h : Q 1 G) : Ct d M_J0_isLatin1 NT 0 0 (some lay) [(4, 0)] G Q := by
  refine ctof ?_
  refine r_comp (pc := 0) (idx := 38) (by decide +kernel) fl_J0_38 ?_
  refine r_if_eq (off := 14) (tgt := 17) (by decide +kernel) (by decide) (by decide) (fun x => absurd x (by decide)) (fun _ => ?_)
  refine r_aload_nS (j := 0) (by decide +kernel) 0 rfl rfl ?_
  refine r_scod (idx := 15) (by decide +kernel) fl_J0_15 ?_
  refine r_if_ne (off := 7) (tgt := 17) (by decide +kernel) (by decide) (by decide) (fun x => absurd rfl x) (fun _ => ?_)
  refine r_iconst (n := 1) (by decide +kernel) ?_
  refine r_goto (off := 4) (tgt := 18) (by decide +kernel) (by decide) ?_
  exact r_zreturn (by decide +kernel) rfl ⟨rfl, Nat.le_refl _, Nat.le_refl _⟩ (Or.inr rfl) h
theorem c_pIndex {i n : Int} {v : AV} (hv : v.1 = 6 ∨ v.1 = 7) (hi : 0 ≤ i ∧ i < n) (hn : InR n) (h : Q i G) : Ct d M_J3_checkIndex NT 0 0 (some lay) [(0, i), (0, n), v] G Q := by
  obtain ⟨k, x⟩ := v
  have cs : csum [(0, i), (0, n), (k, x)] = 3 := by
    rcases hv with rfl | rfl <;> rfl
  have la : lvA 0 [(0, i), (0, n), (k, x)] = [(0, (0, i)), (1, (0, n)), (2, (k, x))] := rfl
  refine ctof ?_ (hc := ?_)
  rotate_left
  · first | exact cs | (rw [cs]; decide)
  refine r_iload_n (j := 0) (by decide +kernel) 0 rfl rfl ?_
  refine r_if_lt (off := 8) (tgt := 9) (by decide +kernel) (by decide) (by omega) (fun x => absurd x (by omega)) (fun _ => ?_)
  refine r_iload_n (j := 0) (by decide +kernel) 0 rfl rfl ?_
  refine r_iload_n (j := 1) (by decide +kernel) 1 rfl rfl ?_
  refine r_icmp_lt (off := 10) (tgt := 16) (by decide +kernel) (by decide) (by omega) hn (fun _ => ?_) (fun x => absurd hi.2 x)
  refine r_iload_n (j := 0) (by decide +kernel) 0 rfl rfl ?_
  exact r_ireturn (by decide +kernel) rfl ⟨rfl, Nat.le_refl _, Nat.le_refl _⟩ h
theorem c_sIndex {i n : Int} (hi : 0 ≤ i ∧ i < n) (hn : InR n) (h : Q 0 G) : Ct (d + 1) M_J0_checkIndex NT 0 0 (some lay) [(0, i), (0, n)] G Q := by
  refine ctof ?_
  refine r_iload_n (j := 0) (by decide +kernel) 0 rfl rfl ?_
  refine r_iload_n (j := 1) (by decide +kernel) 1 rfl rfl ?_
  refine r_fmt (idx := 1053) (by decide +kernel) fl_J0_1053 (fun v hv => ?_)
  refine r_callS (M' := M_J3_checkIndex) (idx := 1059) (mc' := 0) (ms' := 0) [(0, i), (0, n), v] (by decide +kernel) cl_J0_1059 rfl (by decide) ⟨Nat.le_refl _, Nat.le_refl _⟩ (c_pIndex hv hi hn ?_)
  refine r_pop 0 rfl (by decide) (by decide +kernel) ?_
  exact r_ret (by decide +kernel) rfl ⟨rfl, Nat.le_refl _, Nat.le_refl _⟩ h
def wdc (i : Int) : Int := andI (bI i) 255
theorem wdc_in : ∀ i : Nat, i < 173 → 0 ≤ wdc (i : Int) ∧ wdc (i : Int) < 65536 ∧ narrow .char (.int (Int32.ofInt (wdc (i : Int)))) = .int (Int32.ofInt (wdc (i : Int))) := by
  have a : ∀ i : Nat, i < 173 → 0 ≤ wdc (i : Int) ∧ wdc (i : Int) < 65536 ∧ (Int32.ofInt (wdc (i : Int))).toUInt32.toUInt16.toUInt32.toInt32 = Int32.ofInt (wdc (i : Int)) := by
    unfold wdc bI
    decide +kernel
  intro i hi
  obtain ⟨x, y, w⟩ := a i hi
  exact ⟨x, y, by show Value.int _ = Value.int _; rw [w]⟩
theorem c_sL1 {i : Int} (hi : 0 ≤ i ∧ i < 173) (h : Q (wdc i) G) : Ct (d + 2) M_J1_charAt NT 0 0 (some lay) [(5, 0), (0, i)] G Q := by
  have w := wdc_in i.toNat (by omega)
  rw [show ((i.toNat : Nat) : Int) = i by omega] at w
  refine ctof ?_
  refine r_iload_n (j := 1) (by decide +kernel) 1 rfl rfl ?_
  refine r_aload_nB (j := 0) (by decide +kernel) 0 rfl rfl ?_
  refine r_blen (by decide +kernel) ?_
  refine r_callS (M' := M_J0_checkIndex) (idx := 9) (mc' := 0) (ms' := 0) [(0, i), (0, 173)] (by decide +kernel) cl_J1_9 rfl (by decide) ⟨Nat.le_refl _, Nat.le_refl _⟩ (c_sIndex hi (by decide) ?_)
  refine r_aload_nB (j := 0) (by decide +kernel) 0 rfl rfl ?_
  refine r_iload_n (j := 1) (by decide +kernel) 1 rfl rfl ?_
  refine r_bld (by decide +kernel) hi ?_
  refine r_sipush (n := 255) (by decide +kernel) (by decide +kernel) ?_
  refine r_iand (by decide +kernel) ?_
  refine r_i2c (by decide +kernel) ⟨w.1, w.2.1⟩ ?_
  exact r_creturn (by decide +kernel) rfl ⟨rfl, Nat.le_refl _, Nat.le_refl _⟩ w.2.2 h
theorem c_sChar {i : Int} (hi : 0 ≤ i ∧ i < 173) (h : Q (wdc i) G) : Ct (d + 3) M_J0_charAt NT 0 0 (some lay) [(4, 0), (0, i)] G Q := by
  have w := wdc_in i.toNat (by omega)
  rw [show ((i.toNat : Nat) : Int) = i by omega] at w
  refine ctof ?_
  refine r_aload_nS (j := 0) (by decide +kernel) 0 rfl rfl ?_
  refine r_callStr (M' := M_J0_isLatin1) (idx := 492) (mc' := 0) (ms' := 0) [] (by decide +kernel) cl_J0_492 rfl rfl (by decide) ⟨Nat.le_refl _, Nat.le_refl _⟩ (c_sLatin ?_)
  refine r_if_eq (a := 1) (off := 12) (tgt := 16) (by decide +kernel) (by decide) (by decide) (fun x => absurd x (by decide)) (fun _ => ?_)
  refine r_aload_nS (j := 0) (by decide +kernel) 0 rfl rfl ?_
  refine r_sval (idx := 9) (by decide +kernel) fl_J0_9 ?_
  refine r_iload_n (j := 1) (by decide +kernel) 1 rfl rfl ?_
  refine r_callS (M' := M_J1_charAt) (idx := 495) (mc' := 0) (ms' := 0) [(5, 0), (0, i)] (by decide +kernel) cl_J0_495 rfl (by decide) ⟨Nat.le_refl _, Nat.le_refl _⟩ (c_sL1 hi ?_)
  exact r_creturn (by decide +kernel) rfl ⟨rfl, Nat.le_refl _, Nat.le_refl _⟩ w.2.2 h
end STRS
