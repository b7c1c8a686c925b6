section RANK
variable {d : Nat} {S S' T T' G G' H : Mem} {Q : Int → Mem → Prop} {c : Int} {fs : Int → Law} {th : Int}
def rkF (pen : List Int → Int) : List (List Int) → Int × List Int → Int × List Int
  | [], a => a
  | L :: Ls, a => rkF pen Ls (if a.1 = -1 ∨ pen L < a.1 then (pen L, L) else a)
theorem rkF_app (pen : List Int → Int) : ∀ (A B : List (List Int)) (a : Int × List Int), rkF pen (A ++ B) a = rkF pen B (rkF pen A a) := by
  intro A
  induction A with
  | nil => intro B a; rfl
  | cons L A ih => intro B a; exact ih B _
noncomputable def penO (S : Mem) (c : Int) (fs : Int → Law) (L : List Int) : Int := penT S c (flyT S c fs (-1) (seatT S c L))
/-- an order: as many as there are sitters, each one of them -/
def OrdOk (n : Nat) (L : List Int) : Prop := L.length = n ∧ ∀ i : Int, 0 ≤ i → i < n → 0 ≤ lsi L i ∧ lsi L i < n
theorem okP_at {n : Nat} {Ls : List (List Int)} (h : okP n Ls = true) : (∀ L ∈ Ls, OrdOk n L) ∧ Ls.length ≤ 120 ∧ Ls.head? = some ((List.range n).map Int.ofNat) := by
  unfold okP at h
  simp only [Bool.and_eq_true, decide_eq_true_eq, List.all_eq_true] at h
  refine ⟨fun L hL => ?_, h.2.1, h.2.2⟩
  obtain ⟨a, b⟩ := h.1 L hL
  refine ⟨a, fun i i0 i1 => ?_⟩
  have hi : i.toNat < L.length := by omega
  have e : lsi L i = L[i.toNat] := by
    unfold lsi
    rw [List.getD_eq_getElem?_getD, List.getElem?_eq_getElem hi]; rfl
  rw [e]
  exact b _ (List.getElem_mem hi)
theorem seatT_ok (hC : CbOk S c) {n : Nat} (hn : S c 8 = n) {L : List Int} (hL : OrdOk n L) : FlOk S c (seatT S c L) := by
  have h6 := hC.1
  refine ⟨fun s s0 s6 => ?_, fun x => ?_, Or.inl ?_⟩
  · unfold seatT
    rw [if_pos rfl]
    by_cases h : S (c + 2) s = -1
    · rw [if_pos h]; exact Or.inl rfl
    · rw [if_neg h]
      have := idx_lt hC s0 (by omega) h
      have := hL.2 (idxF S c s.toNat) (by omega) (by omega)
      exact Or.inr (by omega)
  · unfold seatT at x; simp at x
  · unfold seatT; simp
theorem penO_in (hR : Cu S G c) {n : Nat} (hn : S c 8 = n) {L : List Int} (hL : OrdOk n L) : 0 ≤ penO S c fs L ∧ penO S c fs L ≤ 320760 :=
  penT_in hR (flyT_ok hR (seatT_ok hR.2.1 hn hL)).2.1
theorem CbOk.penT_in (hC : CbOk S c) (h : Cnt T 2880 360) : 0 ≤ penT S c T ∧ penT S c T ≤ 320760 := by
  have p := hC.2.2.2.2.2.2.2.2.2
  have a := mul_bd (p 0 (by omega) (by omega)) h.1
  have b := mul_bd (p 2 (by omega) (by omega)) h.2.1
  unfold penT
  omega
/-- a best so far is none, or what some flight came to -/
def BsOk (a : Int × List Int) : Prop := a.1 = -1 ∨ (0 ≤ a.1 ∧ a.1 ≤ 320760)
/-- what ranking writes -/
def RnF (c : Int) (G G' : Mem) : Prop := ∀ q k : Int, q ≠ c + 7 → q ≠ c + 12 → ¬ (q = 19 ∧ (k = 4 ∨ k = 10 ∨ k = 12)) → ¬ (20 ≤ q ∧ q ≤ 32) → G' q k = G q k
theorem RnF.rfl' : RnF c G G := fun _ _ _ _ _ _ => rfl
theorem RnF.tr {G2 : Mem} (h : RnF c G G') (h' : RnF c G' G2) : RnF c G G2 := fun q k a b e f => (h' q k a b e f).trans (h q k a b e f)
theorem HbF.rn (h : HbF c G G') : RnF c G G' := fun q k a b e f => h q k a b (by omega) (by omega)
theorem TrF.rn (h : TrF G G') : RnF c G G' := fun q k _ _ _ f => h q k (by omega)
theorem HSx.rn (h : HSx S c fs G) (f : RnF c G G') : HSx S c fs G' := by
  obtain ⟨hC, ⟨H, hL⟩, cc, h37⟩ := h
  have fc : CorC c G G' := fun q k a b e g => f q k e g (by omega) (by omega)
  have e3 : StEq G G' 73 73 := ⟨fun k _ _ => f _ _ (by omega) (by omega) (by omega) (by omega), fun j _ _ i _ _ => f _ _ (by omega) (by omega) (by omega) (by omega)⟩
  refine ⟨⟨by rw [f 0 13 (by omega) (by omega) (by omega) (by omega)]; exact hC.1, hC.2.1, hC.2.2.1.cp fc.eq, hC.2.2.2.1.cp e3, by rw [f 73 7 (by omega) (by omega) (by omega) (by omega), f c 7 (by omega) (by omega) (by omega) (by omega)]; exact hC.2.2.2.2⟩, ⟨H, hL.extC fc⟩, fun q k a b e g => (fc q k a b e g).trans (cc q k a b e g), h37⟩
theorem c_seatAsTried {n : Nat} {L : List Int} (hS : HSx S c fs G) (hn : S c 8 = n) (ht : ∀ i, 0 ≤ i → i < (n : Int) → G 32 i = lsi L i) (h : ∀ G', OnF G G' → (∀ s, 0 ≤ s → s < S c 6 → G' 31 s = seatT S c L 31 s) → Q 0 G') : Ct d M_X2_seatAsTried NT 0 0 (some lay) [(2, 19), (2, c)] G Q := by
  obtain ⟨hC, -, cc, h37⟩ := id hS
  have r := hC.rng
  have e6 : G c 6 = S c 6 := HSx.cab hS (by omega)
  have e8 : G c 8 = S c 8 := HSx.cab hS (by omega)
  have hCb : CbOk S c := by
    have e : CbEq G S c c := ⟨fun k _ _ => (HSx.cab hS (by omega)).symm, fun i _ _ => ⟨(HSx.cab hS (by omega)).symm, (HSx.cab hS (by omega)).symm⟩, fun i _ _ => (HSx.cab hS (by omega)).symm, fun i _ _ => (HSx.cab hS (by omega)).symm, fun i k _ _ _ _ => (HSx.cab hS (by omega)).symm⟩
    exact hC.2.2.1.cp e
  have key : ∀ (m : Nat) (p : Nat) (G1 : Mem), (p : Int) + m = S c 6 → OnF G G1 → (∀ s, 0 ≤ s → s < (p : Int) → G1 31 s = seatT S c L 31 s) → Rn d M_X2_seatAsTried zN 4 [(0, (2, 19)), (1, (2, c)), (2, (0, idxF S c p)), (3, (0, (p : Int)))] [] G1 Q := by
    intro m
    induction m with
    | zero =>
      intro p G1 hp f1 a1
      have g6 : G1 c 6 = S c 6 := HSx.cab (hS.on f1) (by omega)
      exact s_X2_seatAsTried_4 hC.2.1 ⟨by omega, by omega, fun _ => h G1 f1 (fun s s0 s1 => a1 s s0 (by omega)), fun x => absurd (by omega) x⟩
    | succ m ih =>
      intro p G1 hp f1 a1
      have hS1 := hS.on f1
      have g6 : G1 c 6 = S c 6 := HSx.cab hS1 (by omega)
      have c0 := cb_lt hC.2.1
      have on := hCb.2.2.2.2.2.2.1 (p : Int) (by omega) (by omega)
      have st' : seatT S c L 31 (p : Int) = if S (c + 2) (p : Int) = -1 then -1 else lsi L (idxF S c p) := by unfold seatT; rw [if_pos rfl, Int.toNat_natCast]
      have ix : idxF S c (p + 1) = idxF S c p + (if S (c + 2) (p : Int) = -1 then 0 else 1) := rfl
      refine s_X2_seatAsTried_4 hC.2.1 ⟨by omega, by omega, fun x => absurd x (by omega), fun _ => ⟨by omega, fun G5 e5 => ?_⟩⟩
      have f5 : OnF G1 G5 := fun q k hq => by rw [e5, st_nq _ _ _ _ hq]
      have g2 : G5 (c + 2) (p : Int) = S (c + 2) (p : Int) := HSx.cab (hS1.on f5) (by omega)
      have g8 : G5 c 8 = S c 8 := HSx.cab (hS1.on f5) (by omega)
      rw [g2, g8]
      have f15 : OnF G G5 := fun q k hq => (f5 q k hq).trans (f1 q k hq)
      refine ⟨by omega, fun x => ?_, fun x => ?_⟩
      · rw [if_pos x] at st' ix
        have y := ih (p + 1) G5 (by omega) f15 (fun s s0 s1 => by
          by_cases hs : s = (p : Int)
          · subst hs; rw [e5, st_same, st']
          · rw [e5, st_nk _ _ _ hs]; exact a1 s s0 (by omega))
        rw [ix, Int.add_zero] at y
        exact y
      · rw [if_neg x] at st' ix
        have il := idx_lt hCb (s := (p : Int)) (by omega) (by omega) x
        rw [Int.toNat_natCast] at il
        refine ⟨by omega, by omega, fun z => absurd z (by omega), fun _ => ⟨by omega, fun G12 e12 => ?_⟩⟩
        have a32 : G5 32 (idxF S c p) = lsi L (idxF S c p) := by rw [f15 _ _ (by decide)]; exact ht _ (by omega) (by omega)
        rw [a32] at e12
        have y := ih (p + 1) G12 (by omega) (fun q k hq => by rw [e12, st_nq _ _ _ _ hq]; exact f15 q k hq) (fun s s0 s1 => by
          by_cases hs : s = (p : Int)
          · subst hs; rw [e12, st_same, st']
          · rw [e12, st_nk _ _ _ hs, e5, st_nk _ _ _ hs]; exact a1 s s0 (by omega))
        rw [ix] at y
        exact y
  exact ctof (s_X2_seatAsTried_0 hC.2.1 (key (S c 6).toNat 0 G (by omega) (fun _ _ _ => rfl) (fun s a b => by omega)))
/-- the kept order: what ranking leaves -/
def RkV (S : Mem) (c : Int) (fs : Int → Law) (n : Nat) (G : Mem) : Prop := G 19 4 = (rkF (penO S c fs) (lvs n n 0 []) (-1, [])).1 ∧ ∀ i, 0 ≤ i → i < (n : Int) → G 30 i = lsi (rkF (penO S c fs) (lvs n n 0 []) (-1, [])).2 i
theorem c_rank {n : Nat} (hS : HSx S c fs G) (hn : S c 8 = n) (hn1 : 1 ≤ n ∧ n ≤ 5) (hd : G 19 11 = 0) (hr : G 19 10 = 0 ∨ (G 19 10 = 1 ∧ RkV S c fs n G)) (h : ∀ G', RnF c G G' → G' 19 10 = 1 → RkV S c fs n G' → Q 0 G') : Ct (d + 6) M_X2_rank NT 0 0 (some lay) [(2, 19), (2, c)] G Q := by
  obtain ⟨hC, -, cc, h37⟩ := id hS
  have r := hC.rng
  have e8 : G c 8 = S c 8 := HSx.cab hS (by omega)
  have hCb : CbOk S c := by
    have e : CbEq G S c c := ⟨fun k _ _ => (HSx.cab hS (by omega)).symm, fun i _ _ => ⟨(HSx.cab hS (by omega)).symm, (HSx.cab hS (by omega)).symm⟩, fun i _ _ => (HSx.cab hS (by omega)).symm, fun i _ _ => (HSx.cab hS (by omega)).symm, fun i k _ _ _ _ => (HSx.cab hS (by omega)).symm⟩
    exact hC.2.2.1.cp e
  obtain ⟨pc, po⟩ := prm hn1
  obtain ⟨po1, po2, po3⟩ := okP_at po
  have ok5 : CpOk 0 0 5 5 5 := by unfold CpOk; omega
  have pin : ∀ L, OrdOk n L → 0 ≤ penO S c fs L ∧ penO S c fs L ≤ 320760 := fun L hL => by
    have fl := seatT_ok hCb hn hL
    have cupS := hCb.2.2.2.2.2.2.2.1
    obtain ⟨ok0, cn0, t0⟩ := bgT_ok (S := S) (c := c) (T := seatT S c L) cupS fl.1 fl.2.1 fl.2.2
    have cn := tksT_cnt (fs := fs) (th := -1) hCb.1.2 hCb.2.2.1 (S c 7).toNat _ _ _ cn0
    have h7 := hCb.2.1
    exact hCb.penT_in (cn.le (by omega) (by omega))
  -- one order is tried
  have proc : ∀ (L : List Int) (i : Nat) (G1 : Mem) (a : Int × List Int), OrdOk n L → i < 120 → RnF c G G1 → G1 19 10 = 1 → (∀ j, 0 ≤ j → j < (n : Int) → G1 32 j = lsi L j) → BsOk a → G1 19 4 = a.1 → (a.1 ≠ -1 → ∀ j, 0 ≤ j → j < (n : Int) → G1 30 j = lsi a.2 j) →
      (∀ (G2 : Mem) (b : Int × List Int), b = (if a.1 = -1 ∨ penO S c fs L < a.1 then (penO S c fs L, L) else a) → RnF c G G2 → G2 19 10 = 1 → (∀ j, 0 ≤ j → j < (n : Int) → G2 32 j = lsi L j) → BsOk b → G2 19 4 = b.1 → (b.1 ≠ -1 → ∀ j, 0 ≤ j → j < (n : Int) → G2 30 j = lsi b.2 j) → Rn (d + 6) M_X2_rank zN 114 [(0, (2, 19)), (1, (2, c)), (3, (0, (i : Int)))] [] G2 Q) → Rn (d + 6) M_X2_rank zN 45 [(0, (2, 19)), (1, (2, c)), (2, (0, 1)), (3, (0, (i : Int)))] [] G1 Q := by
    intro L i G1 a hL hi f1 x10 x32 ba x4 x30 hq
    have hS1 := hS.rn f1
    have fl := seatT_ok hCb hn hL
    have pl := pin L hL
    refine s_X2_rank_45 hC.2.1 ⟨by omega, fun x => absurd x (by omega), fun _ => ⟨by omega, fun x => absurd x (by decide), fun _ => c_seatAsTried hS1 hn x32 (fun G5 f5 a5 => ?_)⟩⟩
    have hS5 := hS1.on f5
    have t11 : seatT S c L 19 11 = 0 := by unfold seatT; simp
    have d5 : G5 19 11 = 0 := by rw [f5 _ _ (by decide), f1 _ _ (by omega) (by omega) (by omega) (by omega)]; exact hd
    refine c_fly hS5 (T := seatT S c L) ⟨fun k k0 k1 => a5 k k0 k1, by rw [d5, t11], fun x => by omega⟩ fl.1 fl.2.1 fl.2.2 (by omega) (fun G7 f7 h7 => c_pence_C (hS5.mv f7) h7 ?_)
    have f17 : RnF c G G7 := (f1.tr (fun q k _ _ _ e => f5 q k (by omega))).tr f7.rn
    have y10 : G7 19 10 = 1 := by rw [f7 _ _ (by omega) (by omega) (by omega) (by omega), f5 _ _ (by decide)]; exact x10
    have y4 : G7 19 4 = a.1 := by rw [f7 _ _ (by omega) (by omega) (by omega) (by omega), f5 _ _ (by decide)]; exact x4
    have y32 : ∀ j, 0 ≤ j → j < (n : Int) → G7 32 j = lsi L j := fun j j0 j1 => by rw [f7 _ _ (by omega) (by omega) (by omega) (by omega), f5 _ _ (by decide)]; exact x32 j j0 j1
    have y30 : a.1 ≠ -1 → ∀ j, 0 ≤ j → j < (n : Int) → G7 30 j = lsi a.2 j := fun x j j0 j1 => by rw [f7 _ _ (by omega) (by omega) (by omega) (by omega), f5 _ _ (by decide)]; exact x30 x j j0 j1
    have pe : penT S c (flyT S c fs (-1) (seatT S c L)) = penO S c fs L := rfl
    rw [pe, y4]
    have up : (a.1 = -1 ∨ penO S c fs L < a.1) → Rn (d + 6) M_X2_rank zN 90 [(0, (2, 19)), (1, (2, c)), (3, (0, (i : Int))), (4, (0, penO S c fs L))] [] G7 Q := by
      intro hu
      refine s_X2_rank_90 hC.2.1 (fun G8 e8' => ⟨ok5, fun G9 e9 => hq G9 (penO S c fs L, L) (by rw [if_pos hu]) (f17.tr (fun q k a b e f => by rw [e9, cpy_nq _ _ _ _ _ _ (by omega), e8', st_ne _ _ (by omega)])) ?_ (fun j j0 j1 => ?_) (Or.inr pl) ?_ (fun _ j j0 j1 => ?_)⟩)
      · rw [e9, cpy_nq _ _ _ _ _ _ (by decide), e8', st_nk _ _ _ (by decide)]; exact y10
      · rw [e9, cpy_nq _ _ _ _ _ _ (by decide), e8', st_nq _ _ _ _ (by decide)]; exact y32 j j0 j1
      · rw [e9, cpy_nq _ _ _ _ _ _ (by decide), e8', st_same]
      · rw [e9, cpy0_in _ _ _ j0 (by omega), e8', st_nq _ _ _ _ (by decide)]; exact y32 j j0 j1
    have b' : InR a.1 := by unfold BsOk at ba; omega
    refine ⟨b', fun x => up (Or.inl x), fun x => ⟨by omega, fun y => hq G7 a (by rw [if_neg (by omega)]) f17 y10 y32 ba y4 y30, fun y => up (Or.inr (by omega))⟩⟩
  have trs : ∀ {L : List Int} {G2 : Mem}, OrdOk n L → (∀ j, 0 ≤ j → j < (n : Int) → G2 32 j = lsi L j) → ∀ i, 0 ≤ i → i < (n : Int) → G2 32 i = lsi L i ∧ 0 ≤ lsi L i ∧ lsi L i < 5 := fun hL hr i i0 i1 => ⟨hr i i0 i1, by have := hL.2 i i0 i1; omega⟩
  have L45 : ∀ (Ls : List (List Int)) (L : List Int) (i : Nat) (G1 : Mem) (a : Int × List Int), (∀ X ∈ L :: Ls, OrdOk n X) → chkP n (L :: Ls) = true → i + (Ls.length + 1) ≤ 120 → RnF c G G1 → G1 19 10 = 1 → (∀ j, 0 ≤ j → j < (n : Int) → G1 32 j = lsi L j) → BsOk a → G1 19 4 = a.1 → (a.1 ≠ -1 → ∀ j, 0 ≤ j → j < (n : Int) → G1 30 j = lsi a.2 j) → rkF (penO S c fs) (lvs n n 0 []) (-1, []) = rkF (penO S c fs) (L :: Ls) a → Rn (d + 6) M_X2_rank zN 45 [(0, (2, 19)), (1, (2, c)), (2, (0, 1)), (3, (0, (i : Int)))] [] G1 Q := by
    intro Ls
    induction Ls with
    | nil =>
      intro L i G1 a hall hchk hi f1 x10 x32 ba x4 x30 e
      have hL := hall L (List.mem_cons_self ..)
      refine proc L i G1 a hL (by omega) f1 x10 x32 ba x4 x30 (fun G2 b hb f2 z10 z32 bb z4 z30 => s_X2_rank_114 hC.2.1 ?_)
      have g8 : G2 c 8 = n := by rw [HSx.cab (hS.rn f2) (by omega)]; exact hn
      have e : rkF (penO S c fs) (lvs n n 0 []) (-1, []) = b := by rw [e, hb]; rfl
      have lt : atF (lsi L) (n - 1) < 0 := by
        have hchk : decide (atF (lsi L) (n - 1) < 0) = true := hchk
        exact of_decide_eq_true hchk
      have bn : b.1 ≠ -1 := by
        have := pin L hL
        rw [hb]
        split
        · show penO S c fs L ≠ -1; omega
        · rename_i hh; exact fun z => hh (Or.inl z)
      rw [g8]
      exact c_next hn1 (trs hL z32) (fun _ => s_X2_rank_45 hC.2.1 ⟨by omega, fun _ => h G2 f2 z10 ⟨by rw [e]; exact z4, by rw [e]; exact z30 bn⟩, fun _ => ⟨by omega, fun _ => h G2 f2 z10 ⟨by rw [e]; exact z4, by rw [e]; exact z30 bn⟩, fun x => absurd rfl x⟩⟩) (fun x => absurd x (by omega))
    | cons L2 Ls ih =>
      intro L i G1 a hall hchk hi f1 x10 x32 ba x4 x30 e
      have hL := hall L (List.mem_cons_self ..)
      simp only [List.length_cons] at hi
      refine proc L i G1 a hL (by omega) f1 x10 x32 ba x4 x30 (fun G2 b hb f2 z10 z32 bb z4 z30 => s_X2_rank_114 hC.2.1 ?_)
      have g8 : G2 c 8 = n := by rw [HSx.cab (hS.rn f2) (by omega)]; exact hn
      have hchk : ((decide (0 ≤ atF (lsi L) (n - 1)) && (List.range n).all (fun i => decide (ntF (lsi L) n i = lsi L2 i))) && chkP n (L2 :: Ls)) = true := hchk
      simp only [Bool.and_eq_true, decide_eq_true_eq, List.all_eq_true] at hchk
      rw [g8]
      refine c_next hn1 (trs hL z32) (fun x => absurd x (by omega)) (fun _ G3 f3 e3 => ?_)
      refine ih L2 (i + 1) G3 b (fun X hX => hall X (List.mem_cons_of_mem _ hX)) hchk.2 (by omega) (f2.tr f3.rn) (by rw [f3 _ _ (by decide)]; exact z10) (fun j j0 j1 => ?_) bb (by rw [f3 _ _ (by decide)]; exact z4) (fun x j j0 j1 => by rw [f3 _ _ (by decide)]; exact z30 x j j0 j1) ?_
      · rw [e3 j j0 j1]
        have := hchk.1.2 j.toNat (List.mem_range.mpr (by omega))
        rw [show ((j.toNat : Nat) : Int) = j by omega] at this
        exact this
      · rw [e, hb]; rfl
  have L15 : ∀ (m : Nat) (i : Int) (G1 : Mem), i + m = n → 0 ≤ i → RnF c G G1 → G1 19 10 = 1 → (∀ j, 0 ≤ j → j < i → G1 32 j = j) → Rn (d + 6) M_X2_rank zN 15 [(0, (2, 19)), (1, (2, c)), (2, (0, i))] [] G1 Q := by
    intro m
    induction m with
    | zero =>
      intro i G1 hi i0 f1 x10 x32
      have g8 : G1 c 8 = n := by rw [HSx.cab (hS.rn f1) (by omega)]; exact hn
      refine s_X2_rank_15 hC.2.1 ⟨by omega, by omega, fun _ G4 e4 => ?_, fun x => absurd (by omega) x⟩
      have f4 : RnF c G G4 := f1.tr (fun q k a b e f => by rw [e4, st_ne _ _ (by omega)])
      cases hLs : lvs n n 0 [] with
      | nil => rw [hLs] at po3; exact absurd po3 (by simp)
      | cons L Ls =>
        rw [hLs] at pc po1 po2 po3
        simp only [List.head?_cons, Option.some.injEq] at po3
        simp only [List.length_cons] at po2
        refine L45 Ls L 0 G4 (-1, []) po1 pc (by omega) f4 (by rw [e4, st_nk _ _ _ (by decide)]; exact x10) (fun j j0 j1 => ?_) (Or.inl rfl) (by rw [e4, st_same]) (fun x => absurd rfl x) (by rw [hLs])
        rw [e4, st_nq _ _ _ _ (by decide), x32 j j0 (by omega), po3]
        have hj : j.toNat < n := by omega
        unfold lsi
        rw [List.getD_eq_getElem?_getD, List.getElem?_map, List.getElem?_range hj]
        show j = Int.ofNat j.toNat
        simp; omega
    | succ m ih =>
      intro i G1 hi i0 f1 x10 x32
      have g8 : G1 c 8 = n := by rw [HSx.cab (hS.rn f1) (by omega)]; exact hn
      refine s_X2_rank_15 hC.2.1 ⟨by omega, by omega, fun x => absurd x (by omega), fun _ => ⟨by omega, fun G6 e6 => ih (i + 1) G6 (by omega) (by omega) (f1.tr (fun q k a b e f => by rw [e6, st_nq _ _ _ _ (by omega)])) (by rw [e6, st_nq _ _ _ _ (by decide)]; exact x10) (fun j j0 j1 => ?_)⟩⟩
      by_cases hj : j = i
      · subst hj; rw [e6, st_same]
      · rw [e6, st_nk _ _ _ hj]; exact x32 j j0 (by omega)
  refine ctof (s_X2_rank_0 hC.2.1 ⟨by omega, fun x G3 e3 => L15 n 0 G3 (by omega) (by omega) (fun q k a b e f => by rw [e3, st_ne _ _ (by omega)]) (by rw [e3, st_same]) (fun j a b => by omega), fun x => ?_⟩)
  rcases hr with hr | hr
  · exact absurd hr x
  · exact h G RnF.rfl' hr.1 hr.2
end RANK
