/-! the law from its entry -/
theorem d_L_0 : decode code 0 = .ok (.new 8, 3) := by decide +kernel
theorem d_L_3 : decode code 3 = .ok (.dup, 1) := by decide +kernel
theorem d_L_4 : decode code 4 = .ok (.invokespecial 18, 3) := by decide +kernel
theorem d_L_7 : decode code 7 = .ok (.astore_n 1, 1) := by decide +kernel
theorem d_L_8 : decode code 8 = .ok (.new 19, 3) := by decide +kernel
theorem d_L_11 : decode code 11 = .ok (.dup, 1) := by decide +kernel
theorem d_L_12 : decode code 12 = .ok (.invokespecial 21, 3) := by decide +kernel
theorem d_L_15 : decode code 15 = .ok (.astore_n 2, 1) := by decide +kernel
theorem d_L_16 : decode code 16 = .ok (.iconst 1, 1) := by decide +kernel
theorem d_L_17 : decode code 17 = .ok (.newarray .long, 2) := by decide +kernel
theorem d_L_19 : decode code 19 = .ok (.astore_n 3, 1) := by decide +kernel
theorem d_L_20 : decode code 20 = .ok (.iconst 0, 1) := by decide +kernel
theorem d_L_21 : decode code 21 = .ok (.istore 4, 2) := by decide +kernel
theorem cl_L_18 : clI "PastSleepLaw" 18 M_X11_init 0 := ⟨⟨by decide, gk1 30 rfl rfl, (gk1 1 rfl rfl), ⟨by decide +kernel, by decide +kernel, by decide +kernel⟩, (gk1 28 rfl rfl)⟩, rfl, (gk1 29 rfl rfl), rfl⟩
theorem cl_L_21 : clI "PastSleepLaw" 21 M_X12_init 0 := ⟨⟨by decide, gk6 109 rfl rfl, (gk1 14 rfl rfl), ⟨by decide +kernel, by decide +kernel, by decide +kernel⟩, (gk6 107 rfl rfl)⟩, rfl, (gk6 108 rfl rfl), rfl⟩
theorem nw_L_8 : nwc "PastSleepLaw" 8 11 := ⟨_, rfl, (gk1 26 rfl rfl), (gk1 27 rfl rfl), (gk1 1 rfl rfl)⟩
theorem nw_L_19 : nwc "PastSleepLaw" 19 12 := ⟨_, rfl, (gk6 105 rfl rfl), (gk6 106 rfl rfl), (gk1 14 rfl rfl)⟩
theorem first_ls (b : Nat) : sto1 [(3, (2, 363)), (2, (2, 311)), (1, (2, 0)), (0, (7, (b : Int)))] 4 (0, 0) = lsL b 0 := rfl
theorem law_first {nm : String} {b L : Nat} {xs : Nat → Int32} (hL : L ≤ 3584) : Rg room_1 (KL b L xs) (M_law nm) (0, 0, 0, 0, 0, none) 0 [(0, (7, (b : Int)))] [] (fun _ _ => 0) ZL := by
  refine g_new (n := 0) (ci := 11) d_L_0 (by decide) (by decide +kernel) (by decide) nw_L_8 ⟨Nat.le_of_ble_eq_true rfl, Nat.le_of_ble_eq_true rfl⟩ (g_dup 2 rfl (by decide) d_L_3 ?_)
  refine g_callI (d := 104) (mc' := 310) (ms' := 10150) (M' := M_X11_init) [] d_L_4 cl_L_18 rfl (Nat.le_of_ble_eq_true rfl) ⟨Nat.le_of_ble_eq_true rfl, Nat.le_of_ble_eq_true rfl⟩ ⟨Nat.le_of_ble_eq_true rfl, Nat.le_of_ble_eq_true rfl⟩ (i_11 (d := 100) (fun j _ => nwf_at _) (fun G1 h1 => ?_))
  show Rg room_1 (KL b L xs) (M_law nm) (311, 311, 10167, 0, 0, none) 7 [(0, (7, (b : Int)))] [(2, 0)] G1 ZL
  refine g_astore_n (ls1 := [(1, (2, 0)), (0, (7, (b : Int)))]) d_L_7 rfl (Nat.le_of_ble_eq_true rfl) rfl ?_
  refine g_new (n := 311) (ci := 12) d_L_8 (by decide) (by decide +kernel) (by decide) nw_L_19 ⟨Nat.le_of_ble_eq_true rfl, Nat.le_of_ble_eq_true rfl⟩ (g_dup 2 rfl (by decide) d_L_11 ?_)
  refine g_callI (d := 101) (mc' := 51) (ms' := 38989) (M' := M_X12_init) [] d_L_12 cl_L_21 rfl (Nat.le_of_ble_eq_true rfl) ⟨Nat.le_of_ble_eq_true rfl, Nat.le_of_ble_eq_true rfl⟩ ⟨Nat.le_of_ble_eq_true rfl, Nat.le_of_ble_eq_true rfl⟩ (i_12 (d := 100) (fun j _ => nwf_at _) (fun Ga G2 fa fra pn => ?_))
  show Rg room_1 (KL b L xs) (M_law nm) (363, 363, 49232, 0, 0, none) 15 [(1, (2, 0)), (0, (7, (b : Int)))] [(2, 311)] G2 ZL
  refine g_astore_n (ls1 := [(2, (2, 311)), (1, (2, 0)), (0, (7, (b : Int)))]) d_L_15 rfl (Nat.le_of_ble_eq_true rfl) rfl (g_iconst d_L_16 ?_)
  refine g_newlong (n := 363) (len := 1) d_L_17 (gk1 90 rfl rfl) (by decide) (by decide) (by decide +kernel) ⟨Nat.le_of_ble_eq_true rfl, Nat.le_of_ble_eq_true rfl⟩ ?_
  show Rg room_1 (KL b L xs) (M_law nm) (NT, 364, 49233, 0, 0, none) 19 [(2, (2, 311)), (1, (2, 0)), (0, (7, (b : Int)))] [(2, 363)] (nwf G2 363 (fun _ => 0)) ZL
  have A : Fr fr G2 0 311 := fun q k q0 q1 k0 k1 => by
    rw [pn.2.2.2 q k (by omega) (by omega) (by omega), fa q k q1]
    show (if q = ((311 : Nat) : Int) then _ else G1 q k) = _
    rw [if_neg (by omega)]
    exact h1 q k q0 q1 k0 k1
  have B : ∀ k : Int, 0 ≤ k → k < 76 → G2 311 k = Fz 311 k := fun k k0 k1 => by
    rw [pn.2.2.2 311 k (by omega) (by omega) (by omega)]
    exact fra 311 k (by decide) (by decide) k0 (by rw [show (shp (311 : Int).toNat).2 = 76 by decide +kernel]; exact k1)
  have o3 : ∀ q k : Int, q ≠ 363 → nwf G2 363 (fun _ => 0) q k = G2 q k := fun q k e => by
    show (if q = ((363 : Nat) : Int) then _ else G2 q k) = _
    rw [if_neg (by omega)]
  have inv := inv_new A fra pn
  have hLI : LI (nwf G2 363 (fun _ => 0)) := LI.out ⟨37, _, inv.1, inv.2⟩ o3
  have A3 : Fr fr (nwf G2 363 (fun _ => 0)) 0 311 := fun q k q0 q1 k0 k1 => by
    rw [o3 q k (by omega)]
    exact A q k q0 q1 k0 k1
  refine g_lay (refs_ok A3 (fun k k0 k1 => by rw [o3 311 k (by decide)]; exact B k k0 k1)) ?_
  refine g_astore_n (ls1 := [(3, (2, 363)), (2, (2, 311)), (1, (2, 0)), (0, (7, (b : Int)))]) d_L_19 rfl (Nat.le_of_ble_eq_true rfl) rfl (g_iconst d_L_20 (g_istore (ls1 := lsL b 0) d_L_21 (Nat.le_of_ble_eq_true rfl) rfl ?_))
  exact law_loop (W0 := 49233) hL (by decide) 512 0 _ hLI (by omega) (by decide)
theorem whole_start {p : Program} {e : Env} {s : State} {m : MethodId} {below : List Frame} {meth : Method} {c : Code} (l : Launch) (hflags : l.flags = flags0) {b L : Nat} {xs : Nat → Int32} (hL : L ≤ 3584) (C0 : lw_At p s m meth c b L xs) : W p l e room_1 s m #[Value.ref b] below meth c s.heap [] 0 0 (lw_Z below #[Value.ref b] s) (entryFrame m ([Value.ref b] : List Value).toArray 7) := by
  obtain ⟨hx, hb, hr, hml, hown, hts, hX, hbl, hlocks, hgv⟩ := C0
  have hst : l.stackTraces = false := by
    unfold Launch.stackTraces
    rw [hflags]
    decide +kernel
  have hg : ∀ w ∈ flatC (Jvm.Cond.and given_1 narrow_1), w.before #[Value.ref b] s = true := flat_of_before _ hgv
  obtain ⟨D, cA, hK⟩ := k_start hts
  obtain ⟨E, hE, hS⟩ := sw_start hts hg
  have hl := lv_entry ([.ref b]) (n := 7) (Nat.le_of_ble_eq_true rfl)
  rw [lg_entry_eq]
  have hc : Cx 0 (M_law meth.name) 0 0 p s m #[Value.ref b] meth c D E cA := ⟨hx, hb, hml, hown, fun w hw => hts w (List.mem_filter.mp hw).1, hr, hlocks, rfl, hK, hS, by rw [hE]; exact Nat.le_refl _⟩
  have hw : Wd D E cA none 0 (fun _ _ => 0) s.heap := ⟨fun k q h => by simp [wsl] at h, by rw [hE]; exact Nat.le_refl _, fun _ => by rw [hE]; rfl⟩
  exact law_first (nm := meth.name) (b := b) (L := L) (xs := xs) hL p l e s m #[Value.ref b] below meth c D E cA hc ⟨hst, rfl, hX, hbl, hE⟩ s.heap [] _ hw va_S.rf hl
