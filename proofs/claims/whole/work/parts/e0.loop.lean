/-! the law's loop and its end -/
theorem andI31 (a : Int) : 0 ≤ andI a 31 ∧ andI a 31 < 32 := by
  have h1 : (Int32.ofInt a &&& Int32.ofInt 31).toBitVec.toNat ≤ 31 := by
    rw [Int32.toBitVec_and, BitVec.toNat_and]
    exact Nat.and_le_right
  have h2 : andI a 31 = ((Int32.ofInt a &&& Int32.ofInt 31).toBitVec.toNat : Int) := by
    show (Int32.ofInt a &&& Int32.ofInt 31).toBitVec.toInt = _
    exact BitVec.toInt_eq_toNat_of_lt (by omega)
  rw [h2]
  omega
def ZL : Zp := fun _ _ _ s _ args below _ _ _ _ _ => lw_Z below args s
section LOOP
variable {nm : String} {b L : Nat} {xs : Nat → Int32} {i : Int} {k w : Nat} {G : Mem} {Z : Zp}
theorem law_step (hLI : LI G) (hi : 0 ≤ i ∧ i + 7 ≤ L) (hL : L ≤ 3584) (hk9 : k + 1 ≤ 601024 ∧ w + 6 ≤ 7293034) (hk : ∀ G2, LI G2 → Rg room_1 (KL b L xs) (M_law nm) (NT, k + 1, w + 6, 0, 0, some lay) 1445 (lsL b i) [] G2 Z) : Rg room_1 (KL b L xs) (M_law nm) (NT, k, w, 0, 0, some lay) 33 (lsL b i) [] G Z := by
  refine g_aload7 d_L_33 4 rfl rfl (g_iload d_L_34 0 rfl (g_sld d_L_36 ⟨hi.1, by omega⟩ hL (g_bipush d_L_37 (by decide +kernel) (g_iand d_L_39 ?_))))
  show Rg room_1 (KL b L xs) (M_law nm) (NT, k, w, 0, 0, some lay) 40 (lsL b i) [(0, andI (xsI xs i) 31)] G Z
  obtain ⟨c, fs, hI, hK⟩ := hLI
  have r := andI31 (xsI xs i)
  generalize andI (xsI xs i) 31 = v at r ⊢
  rcases (show v = 0 ∨ v = 1 ∨ v = 2 ∨ v = 3 ∨ v = 4 ∨ v = 5 ∨ v = 6 ∨ v = 7 ∨ v = 8 ∨ v = 9 ∨ v = 10 ∨ v = 11 ∨ v = 12 ∨ v = 13 ∨ v = 14 ∨ v = 15 ∨ v = 16 ∨ v = 17 ∨ v = 18 ∨ v = 19 ∨ v = 20 ∨ v = 21 ∨ v = 22 ∨ v = 23 ∨ v = 24 ∨ v = 25 ∨ v = 26 ∨ v = 27 ∨ v = 28 ∨ v = 29 ∨ v = 30 ∨ v = 31 by omega) with e | e | e | e | e | e | e | e | e | e | e | e | e | e | e | e | e | e | e | e | e | e | e | e | e | e | e | e | e | e | e | e
  · exact g_tsIn (off := 144) (tgt := 184) (j := 0) d_L_40 e (by decide) (by decide) rfl (by decide) (case_0 hI hK hi hL hk9 hk)
  · exact g_tsIn (off := 291) (tgt := 331) (j := 1) d_L_40 e (by decide) (by decide) rfl (by decide) (case_1 hI hK hi hL hk9 hk)
  · exact g_tsIn (off := 304) (tgt := 344) (j := 2) d_L_40 e (by decide) (by decide) rfl (by decide) (case_2 hI hK hi hL hk9 hk)
  · exact g_tsIn (off := 341) (tgt := 381) (j := 3) d_L_40 e (by decide) (by decide) rfl (by decide) (case_3 hI hK hi hL hk9 hk)
  · exact g_tsIn (off := 378) (tgt := 418) (j := 4) d_L_40 e (by decide) (by decide) rfl (by decide) (case_4 hI hK hi hL hk9 hk)
  · exact g_tsIn (off := 403) (tgt := 443) (j := 5) d_L_40 e (by decide) (by decide) rfl (by decide) (case_5 hI hK hi hL hk9 hk)
  · exact g_tsIn (off := 452) (tgt := 492) (j := 6) d_L_40 e (by decide) (by decide) rfl (by decide) (case_6 hI hK hi hL hk9 hk)
  · exact g_tsIn (off := 501) (tgt := 541) (j := 7) d_L_40 e (by decide) (by decide) rfl (by decide) (case_7 hI hK hi hL hk9 hk)
  · exact g_tsIn (off := 514) (tgt := 554) (j := 8) d_L_40 e (by decide) (by decide) rfl (by decide) (case_8 hI hK hi hL hk9 hk)
  · exact g_tsIn (off := 539) (tgt := 579) (j := 9) d_L_40 e (by decide) (by decide) rfl (by decide) (case_9 hI hK hi hL hk9 hk)
  · exact g_tsIn (off := 564) (tgt := 604) (j := 10) d_L_40 e (by decide) (by decide) rfl (by decide) (case_10 hI hK hi hL hk9 hk)
  · exact g_tsIn (off := 589) (tgt := 629) (j := 11) d_L_40 e (by decide) (by decide) rfl (by decide) (case_11 hI hK hi hL hk9 hk)
  · exact g_tsIn (off := 626) (tgt := 666) (j := 12) d_L_40 e (by decide) (by decide) rfl (by decide) (case_12 hI hK hi hL hk9 hk)
  · exact g_tsIn (off := 691) (tgt := 731) (j := 13) d_L_40 e (by decide) (by decide) rfl (by decide) (case_13 hI hK hi hL hk9 hk)
  · exact g_tsIn (off := 728) (tgt := 768) (j := 14) d_L_40 e (by decide) (by decide) rfl (by decide) (case_14 hI hK hi hL hk9 hk)
  · exact g_tsIn (off := 753) (tgt := 793) (j := 15) d_L_40 e (by decide) (by decide) rfl (by decide) (case_15 hI hK hi hL hk9 hk)
  · exact g_tsIn (off := 778) (tgt := 818) (j := 16) d_L_40 e (by decide) (by decide) rfl (by decide) (case_16 hI hK hi hL hk9 hk)
  · exact g_tsIn (off := 815) (tgt := 855) (j := 17) d_L_40 e (by decide) (by decide) rfl (by decide) (case_17 hI hK hi hL hk9 hk)
  · exact g_tsIn (off := 852) (tgt := 892) (j := 18) d_L_40 e (by decide) (by decide) rfl (by decide) (case_18 hI hK hi hL hk9 hk)
  · exact g_tsIn (off := 877) (tgt := 917) (j := 19) d_L_40 e (by decide) (by decide) rfl (by decide) (case_19 hI hK hi hL hk9 hk)
  · exact g_tsIn (off := 902) (tgt := 942) (j := 20) d_L_40 e (by decide) (by decide) rfl (by decide) (case_20 hI hK hi hL hk9 hk)
  · exact g_tsIn (off := 939) (tgt := 979) (j := 21) d_L_40 e (by decide) (by decide) rfl (by decide) (case_21 hI hK hi hL hk9 hk)
  · exact g_tsIn (off := 964) (tgt := 1004) (j := 22) d_L_40 e (by decide) (by decide) rfl (by decide) (case_22 hI hK hi hL hk9 hk)
  · exact g_tsIn (off := 1020) (tgt := 1060) (j := 23) d_L_40 e (by decide) (by decide) rfl (by decide) (case_23 hI hK hi hL hk9 hk)
  · exact g_tsIn (off := 1076) (tgt := 1116) (j := 24) d_L_40 e (by decide) (by decide) rfl (by decide) (case_24 hI hK hi hL hk9 hk)
  · exact g_tsIn (off := 1113) (tgt := 1153) (j := 25) d_L_40 e (by decide) (by decide) rfl (by decide) (case_25 hI hK hi hL hk9 hk)
  · exact g_tsIn (off := 1166) (tgt := 1206) (j := 26) d_L_40 e (by decide) (by decide) rfl (by decide) (case_26 hI hK hi hL hk9 hk)
  · exact g_tsIn (off := 1204) (tgt := 1244) (j := 27) d_L_40 e (by decide) (by decide) rfl (by decide) (case_27 hI hK hi hL hk9 hk)
  · exact g_tsIn (off := 1241) (tgt := 1281) (j := 28) d_L_40 e (by decide) (by decide) rfl (by decide) (case_28 hI hK hi hL hk9 hk)
  · exact g_tsIn (off := 1278) (tgt := 1318) (j := 29) d_L_40 e (by decide) (by decide) rfl (by decide) (case_29 hI hK hi hL hk9 hk)
  · exact g_tsIn (off := 1327) (tgt := 1367) (j := 30) d_L_40 e (by decide) (by decide) rfl (by decide) (case_30 hI hK hi hL hk9 hk)
  · exact g_tsIn (off := 1380) (tgt := 1420) (j := 31) d_L_40 e (by decide) (by decide) rfl (by decide) (case_31 hI hK hi hL hk9 hk)
theorem law_end (hk9 : k ≤ 601024 ∧ w ≤ 7293034) : Rg room_1 (KL b L xs) (M_law nm) (NT, k, w, 0, 0, some lay) 1451 (lsL b i) [] G ZL := by
  intro p l e s m args below meth c D E cA hc hK9 H locs lc hw hs hl
  obtain ⟨_, rfl, hX, hbl, hE⟩ := hK9
  refine lv_iconst (v := 1) hc.1 hc.2.1 d_L_1451 rfl (va_forget (fun q hq => ?_) (W.widen hk9.1 hk9.2 (lw_ret hc.1 hc.2.1 hc.2.2.2.2.2.1 hc.2.2.2.2.2.2.1 d_L_1452)))
  have := hs.2.2 q hq
  have q' : E.1 ≤ q.base := this
  omega
theorem law_loop {W0 : Nat} (hL : L ≤ 3584) (hW : W0 ≤ 7000000) : ∀ (n m : Nat) (G : Mem), LI G → L < 7 * (m + n) + 7 → m ≤ 512 → Rg room_1 (KL b L xs) (M_law nm) (NT, 364 + m, W0 + 6 * m, 0, 0, some lay) 23 (lsL b (7 * (m : Int))) [] G ZL := by
  intro n
  induction n with
  | zero =>
    intro m G hG hn hm
    exact g_iload d_L_23 0 rfl (g_aload7 d_L_25 4 rfl rfl (g_slen d_L_26 (g_bipush d_L_27 (by decide +kernel) (g_isub d_L_29 (g_icmp_gt (tgt := 1451) d_L_30 (by decide) ⟨by omega, by omega⟩ ⟨by omega, by omega⟩ (fun _ => law_end ⟨by omega, by omega⟩) (fun q => absurd (by omega) q))))))
  | succ n ih =>
    intro m G hG hn hm
    refine g_iload d_L_23 0 rfl (g_aload7 d_L_25 4 rfl rfl (g_slen d_L_26 (g_bipush d_L_27 (by decide +kernel) (g_isub d_L_29 (g_icmp_gt (tgt := 1451) d_L_30 (by decide) ⟨by omega, by omega⟩ ⟨by omega, by omega⟩ (fun _ => law_end ⟨by omega, by omega⟩) (fun q => ?_))))))
    refine law_step hG ⟨by omega, by omega⟩ hL ⟨by omega, by omega⟩ (fun G2 h2 => ?_)
    refine g_iinc (ls1 := lsL b (7 * (m : Int) + 7)) d_L_1445 0 rfl (Nat.le_of_ble_eq_true rfl) rfl (g_goto (tgt := 23) d_L_1448 (by decide) ?_)
    have k := ih (m + 1) G2 h2 (by omega) (by omega)
    rw [show 364 + (m + 1) = 364 + m + 1 by omega, show W0 + 6 * (m + 1) = W0 + 6 * m + 6 by omega, show 7 * ((m + 1 : Nat) : Int) = 7 * (m : Int) + 7 by omega] at k
    exact k
end LOOP
