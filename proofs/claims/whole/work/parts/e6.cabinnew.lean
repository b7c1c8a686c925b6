/-! the cabin's constructor -/
theorem d_X1_init_0 : decode cX1_init 0 = .ok (.aload_n 0, 1) := by decide +kernel
theorem d_X1_init_1 : decode cX1_init 1 = .ok (.invokespecial 3, 3) := by decide +kernel
theorem d_X1_init_4 : decode cX1_init 4 = .ok (.aload_n 0, 1) := by decide +kernel
theorem d_X1_init_5 : decode cX1_init 5 = .ok (.iconst 5, 1) := by decide +kernel
theorem d_X1_init_6 : decode cX1_init 6 = .ok (.anewarray 9, 3) := by decide +kernel
theorem d_X1_init_9 : decode cX1_init 9 = .ok (.putfield 11, 3) := by decide +kernel
theorem d_X1_init_12 : decode cX1_init 12 = .ok (.aload_n 0, 1) := by decide +kernel
theorem d_X1_init_13 : decode cX1_init 13 = .ok (.iconst 5, 1) := by decide +kernel
theorem d_X1_init_14 : decode cX1_init 14 = .ok (.newarray .int, 2) := by decide +kernel
theorem d_X1_init_16 : decode cX1_init 16 = .ok (.putfield 17, 3) := by decide +kernel
theorem d_X1_init_19 : decode cX1_init 19 = .ok (.aload_n 0, 1) := by decide +kernel
theorem d_X1_init_20 : decode cX1_init 20 = .ok (.iconst 5, 1) := by decide +kernel
theorem d_X1_init_21 : decode cX1_init 21 = .ok (.newarray .int, 2) := by decide +kernel
theorem d_X1_init_23 : decode cX1_init 23 = .ok (.putfield 21, 3) := by decide +kernel
theorem d_X1_init_26 : decode cX1_init 26 = .ok (.aload_n 0, 1) := by decide +kernel
theorem d_X1_init_27 : decode cX1_init 27 = .ok (.bipush 72, 2) := by decide +kernel
theorem d_X1_init_29 : decode cX1_init 29 = .ok (.newarray .int, 2) := by decide +kernel
theorem d_X1_init_31 : decode cX1_init 31 = .ok (.putfield 24, 3) := by decide +kernel
theorem d_X1_init_34 : decode cX1_init 34 = .ok (.aload_n 0, 1) := by decide +kernel
theorem d_X1_init_35 : decode cX1_init 35 = .ok (.iconst 4, 1) := by decide +kernel
theorem d_X1_init_36 : decode cX1_init 36 = .ok (.newarray .int, 2) := by decide +kernel
theorem d_X1_init_38 : decode cX1_init 38 = .ok (.putfield 27, 3) := by decide +kernel
theorem d_X1_init_41 : decode cX1_init 41 = .ok (.aload_n 0, 1) := by decide +kernel
theorem d_X1_init_42 : decode cX1_init 42 = .ok (.new 30, 3) := by decide +kernel
theorem d_X1_init_45 : decode cX1_init 45 = .ok (.dup, 1) := by decide +kernel
theorem d_X1_init_46 : decode cX1_init 46 = .ok (.invokespecial 32, 3) := by decide +kernel
theorem d_X1_init_49 : decode cX1_init 49 = .ok (.putfield 33, 3) := by decide +kernel
theorem d_X1_init_52 : decode cX1_init 52 = .ok (.iconst 0, 1) := by decide +kernel
theorem d_X1_init_53 : decode cX1_init 53 = .ok (.istore_n 1, 1) := by decide +kernel
theorem d_X1_init_54 : decode cX1_init 54 = .ok (.iload_n 1, 1) := by decide +kernel
theorem d_X1_init_55 : decode cX1_init 55 = .ok (.iconst 5, 1) := by decide +kernel
theorem d_X1_init_56 : decode cX1_init 56 = .ok (.if_icmp .ge 22, 3) := by decide +kernel
theorem d_X1_init_59 : decode cX1_init 59 = .ok (.aload_n 0, 1) := by decide +kernel
theorem d_X1_init_60 : decode cX1_init 60 = .ok (.getfield 11, 3) := by decide +kernel
theorem d_X1_init_63 : decode cX1_init 63 = .ok (.iload_n 1, 1) := by decide +kernel
theorem d_X1_init_64 : decode cX1_init 64 = .ok (.new 9, 3) := by decide +kernel
theorem d_X1_init_67 : decode cX1_init 67 = .ok (.dup, 1) := by decide +kernel
theorem d_X1_init_68 : decode cX1_init 68 = .ok (.invokespecial 37, 3) := by decide +kernel
theorem d_X1_init_71 : decode cX1_init 71 = .ok (.aastore, 1) := by decide +kernel
theorem d_X1_init_72 : decode cX1_init 72 = .ok (.iinc 1 1, 3) := by decide +kernel
theorem d_X1_init_75 : decode cX1_init 75 = .ok (.goto (-21), 3) := by decide +kernel
theorem d_X1_init_78 : decode cX1_init 78 = .ok (.aload_n 0, 1) := by decide +kernel
theorem d_X1_init_79 : decode cX1_init 79 = .ok (.invokevirtual 38, 3) := by decide +kernel
theorem d_X1_init_82 : decode cX1_init 82 = .ok (.return_, 1) := by decide +kernel
theorem nw_X1_30 : nwc RX1 30 3 := ⟨_, rfl, (gk2 58 rfl rfl), (gk2 59 rfl rfl), (gk1 10 rfl rfl)⟩
theorem nw_X1_9 : nwc RX1 9 7 := ⟨_, rfl, (gk2 56 rfl rfl), (gk2 86 rfl rfl), (gk1 11 rfl rfl)⟩
theorem cl_X1_32 : clNI RX1 32 M_X3_init 0 "PastSleep" := ⟨⟨by decide, gk2 62 rfl rfl, (gk1 10 rfl rfl), ⟨by decide +kernel, by decide +kernel, by decide +kernel⟩, List.mem_of_getElem? (i := 7) rfl⟩, rfl, (gk2 61 rfl rfl), rfl⟩
theorem cl_X1_37 : clNI RX1 37 M_X7_init 0 "PastSleep" := ⟨⟨by decide, gk2 89 rfl rfl, (gk1 11 rfl rfl), ⟨by decide +kernel, by decide +kernel, by decide +kernel⟩, List.mem_of_getElem? (i := 8) rfl⟩, rfl, (gk2 88 rfl rfl), rfl⟩
theorem cl_X1_38 : clV RX1 38 M_X1_clear 0 := ⟨⟨by decide, gk2 148 rfl rfl, (gk1 9 rfl rfl), ⟨by decide +kernel, by decide +kernel, by decide +kernel⟩, (gk2 145 rfl rfl)⟩, (gk2 146 rfl rfl), (gk2 147 rfl rfl)⟩
theorem frq_1 : ∀ b ∈ basL.getD 1 [], ∀ k ∈ List.range (nf 1), ((k : Int) ∈ ([5, 4, 3, 2, 1, 0] : List Int) ∨ dfl 1 (k : Int) = Fz b (k : Int)) := by decide +kernel
theorem n_getF {d : Nat} {M : Mth} {pc : Nat} {ls : List (Nat × AV)} {sk : List AV} {G : Mem} {Q : Int → Mem → Prop} {n k w mc ms idx : Nat} {q v : Int} (ci f : Nat) (fI : Int) (hfI : (f : Int) = fI) (hd : decode M.2.1 pc = .ok (.getfield idx, 3)) (hf : flok M.1.cls idx ci f) (hk9 : fk ci f = 5) (hq : Ob n q ci) (hv : G q fI = v) (h9 : 0 ≤ v) (h : Rn d M (n, k, w, mc, ms, none) (pc + 3) ls ((2, v) :: sk) G Q) : Rn d M (n, k, w, mc, ms, none) pc ls ((2, q) :: sk) G Q := by
  subst hv
  exact r_getF ci f fI hfI hd hf hk9 hq h9 h
def FA (b : Int) : Mem := fun q k => if q = b + 1 then -1 else Fz q k
section CABNEW
variable {d bN : Nat} {G : Mem} {Q : Int → Mem → Prop}
theorem i_1 (hb : Bs 1 (bN : Int)) (hd : ∀ k : Nat, k < nf 1 → G (bN : Int) k = dfl 1 k) (h : ∀ G1, (∀ q k : Int, q < (bN : Int) → G1 q k = G q k) → Fr fr G1 (bN : Int) ((bN : Int) + 18) → Q 0 G1) : Ct (d + 3) M_X1_init (bN + 1) 17 1200 none [(2, (bN : Int))] G Q := by
  refine Ct.of (by decide +kernel) (Nat.le_of_ble_eq_true rfl) ?_
  show Rn (d + 3) M_X1_init (bN + 1, 0, 0, 17, 1200, none) 0 [(0, (2, (bN : Int)))] [] G Q
  have nF : ∀ q k : Int, q ≠ (bN : Int) + 1 → FA (bN : Int) q k = Fz q k := fun q k e => by unfold FA; rw [if_neg e]
  have aF : ∀ k : Int, FA (bN : Int) ((bN : Int) + 1) k = -1 := fun k => by unfold FA; rw [if_pos rfl]
  have P0 : PA (FA (bN : Int)) (bN : Int) G G (bN + 1) [] := PA.rf (by omega)
  refine r_aload_n d_X1_init_0 0 rfl rfl (r_obj d_X1_init_1 (gk2 55 rfl rfl) (Nat.le_of_ble_eq_true rfl) ?_)
  refine r_aload_n d_X1_init_4 0 rfl rfl (r_iconst d_X1_init_5 (n_anew (ci := 1) (f := 0) (fI := 0) (len := 5) (t := 7) (q := (bN : Int) + 1) P0 rfl d_X1_init_6 d_X1_init_9 (by decide) rfl (by decide) (gk2 56 rfl rfl) fl_X1_11 (by decide) (fun r hr => by cases hr; exact ⟨rfl, rfl⟩) rfl hb (by omega) (by omega) (ly_1_0 hb).2.2 ((nF _ _ (by omega)).trans (Fz_lay (ly_1_0 hb))) aF (by decide) ⟨by decide, by decide⟩ (fun G1 P1 => ?_)))
  show Rn (d + 3) M_X1_init (bN + 2, 1, 5, 17, 1200, none) 12 [(0, (2, (bN : Int)))] [] G1 Q
  refine r_aload_n d_X1_init_12 0 rfl rfl (r_iconst d_X1_init_13 (n_arr (ci := 1) (f := 1) (fI := 1) (len := 5) (t := 0) (q := (bN : Int) + 2) P1 rfl d_X1_init_14 d_X1_init_16 rfl (by decide) (gk1 91 rfl rfl) fl_X1_17 (by decide) (fun r hr => by cases hr; exact ⟨rfl, rfl⟩) rfl hb (by omega) (by omega) (ly_1_1 hb).2.2 ((nF _ _ (by omega)).trans (Fz_lay (ly_1_1 hb))) (fun k => (nF _ k (by omega)).trans (Fz_arr (ly_1_1 hb).2.2 (by decide) k)) (by decide) ⟨by decide, by decide⟩ (fun G2 P2 => ?_)))
  show Rn (d + 3) M_X1_init (bN + 3, 2, 10, 17, 1200, none) 19 [(0, (2, (bN : Int)))] [] G2 Q
  refine r_aload_n d_X1_init_19 0 rfl rfl (r_iconst d_X1_init_20 (n_arr (ci := 1) (f := 2) (fI := 2) (len := 5) (t := 0) (q := (bN : Int) + 3) P2 rfl d_X1_init_21 d_X1_init_23 rfl (by decide) (gk1 91 rfl rfl) fl_X1_21 (by decide) (fun r hr => by cases hr; exact ⟨rfl, rfl⟩) rfl hb (by omega) (by omega) (ly_1_2 hb).2.2 ((nF _ _ (by omega)).trans (Fz_lay (ly_1_2 hb))) (fun k => (nF _ k (by omega)).trans (Fz_arr (ly_1_2 hb).2.2 (by decide) k)) (by decide) ⟨by decide, by decide⟩ (fun G3 P3 => ?_)))
  show Rn (d + 3) M_X1_init (bN + 4, 3, 15, 17, 1200, none) 26 [(0, (2, (bN : Int)))] [] G3 Q
  refine r_aload_n d_X1_init_26 0 rfl rfl (r_bipush d_X1_init_27 (by decide +kernel) (n_arr (ci := 1) (f := 3) (fI := 3) (len := 72) (t := 0) (q := (bN : Int) + 4) P3 rfl d_X1_init_29 d_X1_init_31 rfl (by decide) (gk1 91 rfl rfl) fl_X1_24 (by decide) (fun r hr => by cases hr; exact ⟨rfl, rfl⟩) rfl hb (by omega) (by omega) (ly_1_3 hb).2.2 ((nF _ _ (by omega)).trans (Fz_lay (ly_1_3 hb))) (fun k => (nF _ k (by omega)).trans (Fz_arr (ly_1_3 hb).2.2 (by decide) k)) (by decide) ⟨by decide, by decide⟩ (fun G4 P4 => ?_)))
  show Rn (d + 3) M_X1_init (bN + 5, 4, 87, 17, 1200, none) 34 [(0, (2, (bN : Int)))] [] G4 Q
  refine r_aload_n d_X1_init_34 0 rfl rfl (r_iconst d_X1_init_35 (n_arr (ci := 1) (f := 4) (fI := 4) (len := 4) (t := 0) (q := (bN : Int) + 5) P4 rfl d_X1_init_36 d_X1_init_38 rfl (by decide) (gk1 91 rfl rfl) fl_X1_27 (by decide) (fun r hr => by cases hr; exact ⟨rfl, rfl⟩) rfl hb (by omega) (by omega) (ly_1_4 hb).2.2 ((nF _ _ (by omega)).trans (Fz_lay (ly_1_4 hb))) (fun k => (nF _ k (by omega)).trans (Fz_arr (ly_1_4 hb).2.2 (by decide) k)) (by decide) ⟨by decide, by decide⟩ (fun G5 P5 => ?_)))
  show Rn (d + 3) M_X1_init (bN + 6, 5, 91, 17, 1200, none) 41 [(0, (2, (bN : Int)))] [] G5 Q
  have b6 : Bs 3 ((bN + 6 : Nat) : Int) := by
    have e : ((bN + 6 : Nat) : Int) = (bN : Int) + 6 := by omega
    rw [e]
    exact (ly_1_5 hb).2.2
  refine r_aload_n d_X1_init_41 0 rfl rfl (n_newN (d := d + 2) (c2 := 3) (m2 := 6) (s2 := 1057) d_X1_init_42 d_X1_init_45 d_X1_init_46 (by decide) b6 nw_X1_30 cl_X1_32 (Nat.le_of_ble_eq_true rfl) ⟨by decide, by decide⟩ (fun hd8 => i_3 (d := d + 1) (bN := bN + 6) b6 hd8 (fun G6 f6 r6 => ?_)))
  refine n_put (ci := 1) (f := 5) (fI := 5) (n' := bN + 13) (q := (bN : Int) + 6) (hi := (bN : Int) + 13) P5 f6 (fun q k a1 a2 => r6 q k a1 (by omega)) (fun a k a1 _ _ _ => (nF a k (by omega)).symm) (by omega) (by omega) (by omega) (by omega) ((nF _ _ (by omega)).trans (Fz_lay (ly_1_5 hb))) rfl d_X1_init_49 fl_X1_33 (by decide) (fun r hr => by cases hr; exact ⟨rfl, rfl⟩) rfl hb (fun G7 P7 => ?_)
  refine r_iconst d_X1_init_52 (r_istore_n (ls1 := [(1, (0, 0)), (0, (2, (bN : Int)))]) d_X1_init_53 rfl (by decide) rfl ?_)
  have key : ∀ (k i : Nat) (F GG : Mem), i + k = 5 → PA F (bN : Int) G GG (bN + 13 + i) [5, 4, 3, 2, 1, 0] → (∀ q k : Int, q ≠ (bN : Int) + 1 → F q k = Fz q k) → (∀ j : Int, 0 ≤ j → j < i → F ((bN : Int) + 1) j = lay ((bN : Int) + 1) j) → Rn (d + 3) M_X1_init (bN + 13 + i, 12 + i, 1155 + 9 * i, 17, 1200, none) 54 [(1, (0, (i : Int))), (0, (2, (bN : Int)))] [] GG Q := by
    intro k
    induction k with
    | zero =>
      intro i F GG hi hP hF hA
      obtain rfl : i = 5 := by omega
      refine r_iload_n d_X1_init_54 0 rfl rfl (r_iconst d_X1_init_55 (r_icmp_ge (tgt := 78) d_X1_init_56 (by decide) (by decide) (by decide) (fun _ => ?_) (fun q => absurd (by decide) q)))
      have hP2 : PA Fz (bN : Int) G GG (bN + 18) [5, 4, 3, 2, 1, 0] := by
        refine hP.mono (fun k _ => hF _ k (by omega)) (fun q k a1 a2 k0 k1 => ?_)
        by_cases e : q = (bN : Int) + 1
        · rw [e] at k1 ⊢
          rw [show (shp ((bN : Int) + 1).toNat).2 = 5 by rw [(ly_1_0 hb).2.2.2.2.1]] at k1
          rw [hA k k0 (by omega)]
          have l := el_1_0 hb k0 (show k < 5 by omega)
          unfold Fz
          rw [if_pos (by rw [l.1]; exact l.2.1)]
        · exact hF q k e
      have hFr := PA.fin (hi := (bN : Int) + 18) frq_1 hb hP2 hd (by omega)
      have ref : ∀ k : Int, 0 ≤ k → k < 6 → GG (bN : Int) k = lay (bN : Int) k := fun k k0 k6 => by
        rw [hFr _ k (by omega) (by omega) k0 (by rw [(bs_ob hb).2.2]; show k < 11; omega)]
        have w : k = 0 ∨ k = 1 ∨ k = 2 ∨ k = 3 ∨ k = 4 ∨ k = 5 := by omega
        rcases w with e | e | e | e | e | e
        · rw [e, Fz_lay (ly_1_0 hb), (ly_1_0 hb).1]
        · rw [e, Fz_lay (ly_1_1 hb), (ly_1_1 hb).1]
        · rw [e, Fz_lay (ly_1_2 hb), (ly_1_2 hb).1]
        · rw [e, Fz_lay (ly_1_3 hb), (ly_1_3 hb).1]
        · rw [e, Fz_lay (ly_1_4 hb), (ly_1_4 hb).1]
        · rw [e, Fz_lay (ly_1_5 hb), (ly_1_5 hb).1]
      have l3 := (ly_1_5 hb).2.2
      have ref8 : GG ((bN : Int) + 6) 1 = (bN : Int) + 8 := by
        rw [hFr _ 1 (by omega) (by omega) (by omega) (by rw [(bs_ob l3).2.2]; decide), Fz_lay (ly_3_1 l3)]
        omega
      show Rn (d + 3) M_X1_init (bN + 18, 17, 1200, 17, 1200, none) 78 [(1, (0, 5)), (0, (2, (bN : Int)))] [] GG Q
      refine r_aload_n d_X1_init_78 1 rfl rfl (r_callV (d := d + 2) (ci := 1) (mc' := 0) (ms' := 0) (M' := M_X1_clear) [] d_X1_init_79 cl_X1_38 rfl (by decide) ⟨by decide, by decide⟩ (by decide) rfl ⟨by omega, by omega, (bs_ob hb).2.2⟩ (c_clear0 hb (by omega) ref ref8 (fun G9 h9 => ?_)))
      show Rn (d + 3) M_X1_init (bN + 18, 17, 1200, 17, 1200, none) 82 [(1, (0, 5)), (0, (2, (bN : Int)))] [] G9 Q
      refine r_ret d_X1_init_82 rfl ⟨by omega, Nat.le_refl _, Nat.le_refl _⟩ (h G9 (fun q k hq => ?_) (ClZ.fr hb hFr h9))
      rw [h9.2.2.2.2.2.2.2.2 q k (by omega) (by omega) (by omega) (by omega) (by omega) (by omega) (by omega)]
      exact hP.1 q k hq
    | succ k ih =>
      intro i F GG hi hP hF hA
      have el := el_1_0 hb (i := (i : Int)) (by omega) (by omega)
      have b7 : Bs 7 ((bN + 13 + i : Nat) : Int) := by
        rw [show ((bN + 13 + i : Nat) : Int) = (bN : Int) + 13 + (i : Int) by omega]
        exact el.2.2
      refine r_iload_n d_X1_init_54 0 rfl rfl (r_iconst d_X1_init_55 (r_icmp_ge (tgt := 78) d_X1_init_56 (by decide) ⟨by omega, by omega⟩ (by decide) (fun q => absurd q (by omega)) (fun _ => ?_)))
      have g0 : GG (bN : Int) 0 = (bN : Int) + 1 := by
        rw [hP.2.1 0 (by decide), hF _ _ (by omega)]
        exact Fz_lay (ly_1_0 hb)
      refine r_aload_n d_X1_init_59 1 rfl rfl (n_getF (v := (bN : Int) + 1) 1 0 0 rfl d_X1_init_60 fl_X1_11 (by decide) ⟨by omega, by omega, (bs_ob hb).2.2⟩ g0 (by omega) (r_iload_n d_X1_init_63 0 rfl rfl ?_))
      refine n_newN (d := d + 2) (c2 := 7) (m2 := 0) (s2 := 0) d_X1_init_64 d_X1_init_67 d_X1_init_68 (by decide) b7 nw_X1_9 cl_X1_37 (Nat.le_of_ble_eq_true rfl) ⟨by omega, by show 1155 + 9 * i + 9 + 0 ≤ 1200; omega⟩ (fun hd8 => i_7 (d := d + 1) (bN := bN + 13 + i) b7 hd8 (fun G6 f6 r6 => ?_))
      have a1 := (ly_1_0 hb).2.2
      refine r_aast (ci := 7) d_X1_init_71 (i := (i : Int)) (t := 7) (len := 5) ⟨a1.1, by omega, a1.2.2⟩ (by decide) ⟨by omega, by omega⟩ ⟨by omega, by omega, (bs_ob b7).2.2⟩ ⟨_, rfl, rfl⟩ ?_
      refine r_iinc (ls1 := [(1, (0, (i : Int) + 1)), (0, (2, (bN : Int)))]) d_X1_init_72 0 rfl (by decide) rfl (r_goto (tgt := 54) d_X1_init_75 (by decide) ?_)
      have hS := PA.sto (a := (bN : Int) + 1) (i := (i : Int)) (q := (bN : Int) + 13 + i) (hi := (bN : Int) + 13 + i + 1) (n' := bN + 13 + (i + 1)) hP (by omega) (by omega) (by omega) f6 (fun q k a1 a2 => r6 q k a1 (by omega)) (fun a k a1 _ _ _ => (hF a k (by omega)).symm) (by omega)
      have e1 : (((bN + 13 + i : Nat)) : Int) = (bN : Int) + 13 + (i : Int) := by omega
      rw [e1]
      have hk := ih (i + 1) _ _ (by omega) hS (fun q k e => by rw [st_nq _ _ _ _ e]; exact hF q k e) (fun j j0 j1 => by
        by_cases e : j = (i : Int)
        · rw [e, st_same, el.1]
        · rw [st_nk _ _ _ e]
          exact hA j j0 (by omega))
      rw [show 12 + (i + 1) = 12 + i + 1 + 0 by omega, show 1155 + 9 * (i + 1) = 1155 + 9 * i + nf 7 + 0 from by show _ = 1155 + 9 * i + 9 + 0; omega, show ((i + 1 : Nat) : Int) = (i : Int) + 1 by omega, show bN + 13 + (i + 1) = bN + 13 + i + 1 + 0 by omega] at hk
      exact hk
  exact key 5 0 _ _ rfl P7 nF (fun j j0 j1 => by omega)
end CABNEW
