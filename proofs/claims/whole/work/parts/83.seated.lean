section SEATED
variable {d : Nat} {S S' T T' G G' H M0 : Mem} {Q : Int → Mem → Prop} {c : Int} {fs : Int → Law} {th : Int}
/-- what the model's orders write -/
def OdF (G G' : Mem) : Prop := ∀ q k : Int, ¬ (332 ≤ q ∧ q ≤ 341) → ¬ (349 ≤ q ∧ q ≤ 357) → q ≠ 359 → ¬ (q = 311 ∧ (k = 63 ∨ k = 64 ∨ k = 65 ∨ k = 68 ∨ k = 71)) → G' q k = G q k
theorem OdF.rfl' : OdF G G := fun _ _ _ _ _ _ => rfl
theorem OdF.tr {G2 : Mem} (h : OdF G G') (h' : OdF G' G2) : OdF G G2 := fun q k a b e f => (h' q k a b e f).trans (h q k a b e f)
theorem OdF.cor (h : OdF G G') : CorM G G' := fun q k hq => h q k (by omega) (by omega) (by omega) (by omega)
theorem OdF.ml (h : OdF G G') : MlF G G' := ⟨fun q k a b => h q k (by omega) (by omega) (by omega) (by omega), fun q k a => h q k (by omega) (by omega) (by omega) (by omega)⟩
theorem HmF.od (h : HmF G G') : OdF G G' := fun q k a b e f => h q k a (by omega) (by omega)
def OrR (S : Mem) (c : Int) (M : Mem) (cur : List Int) : Prop := (∀ k, 0 ≤ k → k < (cur.length : Int) → M 350 (M 358 k) = lsi cur k ∧ M 349 (lsi cur k) = M 358 k) ∧ ∀ s, 0 ≤ s → s < S c 6 → S (c + 2) s = -1 → M 350 s = -1
def TsP (S : Mem) (c : Int) (M : Mem) (n : Int) : Prop := (∀ k, 0 ≤ k → k < n → (0 ≤ M 358 k ∧ M 358 k < S c 6) ∧ S (c + 2) (M 358 k) ≠ -1 ∧ idxF S c (M 358 k).toNat = k) ∧ ∀ s, 0 ≤ s → s < S c 6 → S (c + 2) s ≠ -1 → idxF S c s.toNat < n → M 358 (idxF S c s.toNat) = s
def UB (n u : Nat) (cur : List Int) : Prop := ∀ k, 0 ≤ k → k < (cur.length : Int) → (0 ≤ lsi cur k ∧ lsi cur k < n) ∧ u / 2 ^ (lsi cur k).toNat % 2 = 1
theorem orp : ∀ u : Nat, u < 32 → ∀ p : Nat, p < 5 → orI (u : Int) (shlI 1 (p : Int)) = ((u ||| 2 ^ p : Nat) : Int) ∧ (u ||| 2 ^ p) < 32 := by
  unfold orI shlI
  decide +kernel
theorem orb : ∀ u : Nat, u < 32 → ∀ p : Nat, p < 5 → ∀ q : Nat, q < 5 → (u ||| 2 ^ p) / 2 ^ q % 2 = if q = p then 1 else u / 2 ^ q % 2 := by decide +kernel
theorem lsi_app {cur : List Int} {x k : Int} (h0 : 0 ≤ k) : (k < (cur.length : Int) → lsi (cur ++ [x]) k = lsi cur k) ∧ (k = (cur.length : Int) → lsi (cur ++ [x]) k = x) := by
  unfold lsi
  refine ⟨fun h => ?_, fun h => ?_⟩
  · rw [List.getD_eq_getElem?_getD, List.getD_eq_getElem?_getD, List.getElem?_append_left (by omega)]
  · rw [List.getD_eq_getElem?_getD, show k.toNat = cur.length by omega, List.getElem?_concat_length]; rfl
theorem c_orders {n : Nat} (hR : Cu S M0 c) (hL : LawsR S M0 c 0 fs) (hn : S c 8 = n) (hts : TsP S c M0 n) (h66 : M0 311 66 = -1) (h67 : M0 311 67 = 0) : ∀ (m u : Nat) (cur : List Int) (best : Int × List Int) (M : Mem) (Q : Int → Mem → Prop), cur.length + m = n → u < 32 → UB n u cur → OdF M0 M → OrR S c M cur → M 311 71 = best.1 → (best.1 ≠ -1 → ∀ k, 0 ≤ k → k < (n : Int) → M 359 k = lsi best.2 k) → BsOk best →
    (∀ M', OdF M0 M' → OrR S c M' cur → M' 311 71 = (rkF (penO S c fs) (lvs n m u cur) best).1 → ((rkF (penO S c fs) (lvs n m u cur) best).1 ≠ -1 → ∀ k, 0 ≤ k → k < (n : Int) → M' 359 k = lsi (rkF (penO S c fs) (lvs n m u cur) best).2 k) → BsOk (rkF (penO S c fs) (lvs n m u cur) best) → Q 0 M') → Ct (d + 9 + m) M_X12_orders NT 0 0 (some lay) [(2, 311), (0, (cur.length : Int)), (0, (u : Int))] M Q := by
  have r := hR.rng
  have se := hR.seats
  have n5 : n ≤ 5 := by omega
  intro m
  induction m with
  | zero =>
    intro u cur best M Q hlen hu hub f1 hor hb hbo bb hq
    have e8 : M 313 8 = n := by rw [f1 _ _ (by omega) (by omega) (by omega) (by omega), se.2.2.2.2, hn]
    have ordok : OrdOk n cur := ⟨by omega, fun i i0 i1 => (hub i i0 (by omega)).1⟩
    have fl := seatT_ok hR.2.1 hn ordok
    have t11 : seatT S c cur 19 11 = 0 := by unfold seatT; simp
    have hms : HMs S c (seatT S c cur) M := by
      refine ⟨fun s s0 s1 => ?_, fun x => by omega⟩
      have e : seatT S c cur 31 s = if S (c + 2) s = -1 then -1 else lsi cur (idxF S c s.toNat) := by unfold seatT; rw [if_pos rfl]
      rw [e]
      by_cases x : S (c + 2) s = -1
      · rw [if_pos x]; exact ⟨hor.2 s s0 s1 x, fun y => absurd y (by decide)⟩
      · rw [if_neg x]
        have il := idx_lt hR.2.1 s0 (by omega) x
        have ts := hts.2 s s0 s1 x (by omega)
        have ts' : M 358 (idxF S c s.toNat) = s := by rw [f1 _ _ (by omega) (by omega) (by omega) (by omega)]; exact ts
        obtain ⟨a, b⟩ := hor.1 (idxF S c s.toNat) il.1 (by omega)
        rw [ts'] at a b
        exact ⟨a, fun _ => b⟩
    have lv : lvs n 0 u cur = [cur] := rfl
    rw [lv] at hq
    have rk : rkF (penO S c fs) [cur] best = if best.1 = -1 ∨ penO S c fs cur < best.1 then (penO S c fs cur, cur) else best := rfl
    rw [rk] at hq
    have pl := penO_in (fs := fs) hR hn ordok
    refine ctof (s_X12_orders_0 ⟨by omega, by omega, fun x => absurd (by omega) x, fun _ => ?_⟩)
    refine c_pence_M (hR.ext f1.cor) (hL.ext f1.cor) fl t11 (th := -1) (by omega) hms ⟨by rw [f1 _ _ (by omega) (by omega) (by omega) (by omega)]; exact h67, by rw [f1 _ _ (by omega) (by omega) (by omega) (by omega)]; exact h66⟩ (fun G4 f4 h4 => ?_)
    have pe : penT S c (flyT S c fs (-1) (seatT S c cur)) = penO S c fs cur := rfl
    rw [pe]
    have f14 := f1.tr f4.od
    have b71 : G4 311 71 = best.1 := by rw [f4 _ _ (by omega) (by omega) (by omega)]; exact hb
    have bin : InR best.1 := by unfold BsOk at bb; omega
    have or4 : OrR S c G4 cur := ⟨fun k k0 k1 => by rw [f4 358 _ (by omega) (by omega) (by omega), f4 350 _ (by omega) (by omega) (by omega), f4 349 _ (by omega) (by omega) (by omega)]; exact hor.1 k k0 k1, fun s s0 s1 x => by rw [f4 350 _ (by omega) (by omega) (by omega)]; exact hor.2 s s0 s1 x⟩
    have up : (best.1 = -1 ∨ penO S c fs cur < best.1) → ∀ G8, G8 = st G4 311 71 (penO S c fs cur) → Rn (d + 9 + 0) M_X12_orders zN 40 [(0, (2, 311)), (1, (0, (cur.length : Int))), (4, (0, 0))] [] G8 Q := by
      intro hu' G8 e8'
      rw [if_pos hu'] at hq
      have key : ∀ (j i : Nat) (G9 : Mem), i + j = n → (∀ q k : Int, q ≠ 359 → G9 q k = G8 q k) → (∀ k, 0 ≤ k → k < (i : Int) → G9 359 k = lsi cur k) → Rn (d + 9 + 0) M_X12_orders zN 40 [(0, (2, 311)), (1, (0, (cur.length : Int))), (4, (0, (i : Int)))] [] G9 Q := by
        intro j
        induction j with
        | zero =>
          intro i G9 hi o9 a9
          refine s_X12_orders_40 ⟨by omega, by omega, fun _ => hq G9 (f14.tr (fun q k a b e f => by rw [o9 q k e, e8', st_ne _ _ (by omega)])) ?_ ?_ (fun _ k k0 k1 => a9 k k0 (by omega)) (Or.inr pl), fun x => absurd (by omega) x⟩
          · refine ⟨fun k k0 k1 => ?_, fun s s0 s1 x => ?_⟩
            · rw [o9 358 _ (by decide), o9 350 _ (by decide), o9 349 _ (by decide), e8', st_nq _ _ _ _ (by decide), st_nq _ _ _ _ (by decide), st_nq _ _ _ _ (by decide)]
              exact or4.1 k k0 k1
            · rw [o9 350 _ (by decide), e8', st_nq _ _ _ _ (by decide)]; exact or4.2 s s0 s1 x
          · rw [o9 311 _ (by decide), e8', st_same]
        | succ j ih =>
          intro i G9 hi o9 a9
          have tk := hts.1 (i : Int) (by omega) (by omega)
          have s58 : G9 358 (i : Int) = M0 358 (i : Int) := by rw [o9 358 _ (by decide), e8', st_nq _ _ _ _ (by decide), f14 _ _ (by omega) (by omega) (by omega) (by omega)]
          have e50 : G9 350 (G9 358 (i : Int)) = lsi cur (i : Int) := by
            have x := (or4.1 (i : Int) (by omega) (by omega)).1
            rw [o9 358 _ (by decide), o9 350 _ (by decide), e8', st_nq _ _ _ _ (by decide), st_nq _ _ _ _ (by decide)]
            exact x
          refine s_X12_orders_40 ⟨by omega, by omega, fun x => absurd x (by omega), fun _ => ⟨by omega, by omega, fun G6 e6 => ih (i + 1) G6 (by omega) (fun q k a => by rw [e6, st_nq _ _ _ _ a]; exact o9 q k a) (fun k k0 k1 => ?_)⟩⟩
          rw [e50] at e6
          by_cases hk : k = (i : Int)
          · subst hk; rw [e6, st_same]
          · rw [e6, st_nk _ _ _ hk]; exact a9 k k0 (by omega)
      exact key n 0 G8 (by omega) (fun _ _ _ => rfl) (fun k a b => by omega)
    rw [b71]
    refine ⟨bin, fun x => up (Or.inl (by unfold BsOk at bb; omega)), fun x => ⟨by omega, fun y => up (Or.inr y), fun y => ?_⟩⟩
    rw [if_neg (by omega)] at hq
    exact hq G4 f14 or4 b71 (fun z k k0 k1 => by rw [f4 _ _ (by omega) (by omega) (by omega)]; exact hbo z k k0 k1) bb
  | succ m ih =>
    intro u cur best M Q hlen hu hub f1 hor hb hbo bb hq
    have e8 : M 313 8 = n := by rw [f1 _ _ (by omega) (by omega) (by omega) (by omega), se.2.2.2.2, hn]
    have lv : lvs n (m + 1) u cur = lvJ (fun p => lvs n m (u ||| 2 ^ p) (cur ++ [(p : Int)])) n u n := rfl
    have key : ∀ (j p : Nat) (M1 : Mem) (b1 : Int × List Int), p + j = n → OdF M0 M1 → OrR S c M1 cur → M1 311 71 = b1.1 → (b1.1 ≠ -1 → ∀ k, 0 ≤ k → k < (n : Int) → M1 359 k = lsi b1.2 k) → BsOk b1 → rkF (penO S c fs) (lvs n (m + 1) u cur) best = rkF (penO S c fs) (lvJ (fun p => lvs n m (u ||| 2 ^ p) (cur ++ [(p : Int)])) n u j) b1 → Rn (d + 9 + (m + 1)) M_X12_orders zN 74 [(0, (2, 311)), (1, (0, (cur.length : Int))), (2, (0, (u : Int))), (3, (0, (p : Int)))] [] M1 Q := by
      intro j
      induction j with
      | zero =>
        intro p M1 b1 hp g1 or1 x71 x59 bb1 e
        have e : rkF (penO S c fs) (lvs n (m + 1) u cur) best = b1 := e
        have y8 : M1 313 8 = n := by rw [g1 _ _ (by omega) (by omega) (by omega) (by omega), se.2.2.2.2, hn]
        rw [e] at hq
        exact s_X12_orders_74 ⟨by omega, by omega, fun _ => hq M1 g1 or1 x71 x59 bb1, fun x => absurd (by omega) x⟩
      | succ j ihj =>
        intro p M1 b1 hp g1 or1 x71 x59 bb1 e
        have y8 : M1 313 8 = n := by rw [g1 _ _ (by omega) (by omega) (by omega) (by omega), se.2.2.2.2, hn]
        have e : rkF (penO S c fs) (lvs n (m + 1) u cur) best = rkF (penO S c fs) ((if u / 2 ^ p % 2 = 1 then [] else lvs n m (u ||| 2 ^ p) (cur ++ [(p : Int)])) ++ lvJ (fun p => lvs n m (u ||| 2 ^ p) (cur ++ [(p : Int)])) n u j) b1 := by
          rw [e, show p = n - (j + 1) by omega]; rfl
        have bk := bitk u hu p (by omega)
        refine s_X12_orders_74 ⟨by omega, by omega, fun x => absurd x (by omega), fun _ => ⟨by rw [bk]; omega, fun x => ?_, fun x => ?_⟩⟩
        · rw [bk] at x
          rw [if_neg (by omega), rkF_app] at e
          obtain ⟨o1, o2⟩ := orp u hu p (by omega)
          have tk := hts.1 (cur.length : Int) (by omega) (by omega)
          have s58 : M1 358 (cur.length : Int) = M0 358 (cur.length : Int) := g1 _ _ (by omega) (by omega) (by omega) (by omega)
          refine ⟨by omega, by omega, fun G8 e8' => ?_⟩
          have t58 : G8 358 (cur.length : Int) = M0 358 (cur.length : Int) := by rw [e8', st_nq _ _ _ _ (by decide)]; exact s58
          rw [t58]
          refine ⟨by omega, fun G10 e10 => ?_⟩
          rw [o1]
          have f10 : OdF M0 G10 := g1.tr (fun q k a b e f => by rw [e10, st_nq _ _ _ _ (by omega), e8', st_nq _ _ _ _ (by omega)])
          have nz : ∀ k, 0 ≤ k → k < (cur.length : Int) → lsi cur k ≠ (p : Int) := fun k k0 k1 y => by
            have z := (hub k k0 k1).2
            rw [y, Int.toNat_natCast] at z
            omega
          have or10 : OrR S c G10 (cur ++ [(p : Int)]) := by
            refine ⟨fun k k0 k1 => ?_, fun s s0 s1 xs => ?_⟩
            · have k58 : G10 358 k = M0 358 k := f10 _ _ (by omega) (by omega) (by omega) (by omega)
              have la := lsi_app (cur := cur) (x := (p : Int)) k0
              have k1' : k < (cur.length : Int) + 1 := by simpa using k1
              rw [k58]
              by_cases hk : k = (cur.length : Int)
              · rw [la.2 hk, hk, e10, st_same, st_nq _ _ _ _ (by decide), e8', st_same]
                exact ⟨rfl, s58⟩
              · have tk2 := hts.1 k k0 (by omega)
                have ne : M0 358 k ≠ M0 358 (cur.length : Int) := fun y => by
                  have a := tk.2.2
                  rw [← y, tk2.2.2] at a
                  exact hk a
                have og := or1.1 k k0 (by omega)
                have c58 : M1 358 k = M0 358 k := g1 _ _ (by omega) (by omega) (by omega) (by omega)
                rw [c58] at og
                rw [la.1 (by omega), e10, st_nk _ _ _ ne, st_nq _ _ _ _ (by decide), e8', st_nq _ _ _ _ (by decide), st_nk _ _ _ (nz k k0 (by omega))]
                exact og
            · have ne : s ≠ M0 358 (cur.length : Int) := fun y => tk.2.1 (by rw [← y]; exact xs)
              rw [e10, st_nk _ _ _ ne, e8', st_nq _ _ _ _ (by decide)]
              exact or1.2 s s0 s1 xs
          have ub10 : UB n (u ||| 2 ^ p) (cur ++ [(p : Int)]) := by
            intro k k0 k1
            have la := lsi_app (cur := cur) (x := (p : Int)) k0
            have k1' : k < (cur.length : Int) + 1 := by simpa using k1
            by_cases hk : k = (cur.length : Int)
            · rw [la.2 hk]
              refine ⟨by omega, ?_⟩
              rw [Int.toNat_natCast, orb u hu p (by omega) p (by omega), if_pos rfl]
            · obtain ⟨z1, z2⟩ := hub k k0 (by omega)
              rw [la.1 (by omega)]
              refine ⟨z1, ?_⟩
              rw [orb u hu p (by omega) _ (by omega)]
              split
              · rfl
              · exact z2
          have ln : (((cur ++ [(p : Int)]).length : Nat) : Int) = (cur.length : Int) + 1 := by simp
          have x10 : G10 311 71 = b1.1 := by rw [e10, st_nq _ _ _ _ (by decide), e8', st_nq _ _ _ _ (by decide)]; exact x71
          have rcc := ih (u ||| 2 ^ p) (cur ++ [(p : Int)]) b1 G10 (fun _ G11 => Rn (d + 9 + (m + 1)) M_X12_orders zN 74 [(0, (2, 311)), (1, (0, (cur.length : Int))), (2, (0, (u : Int))), (3, (0, (p : Int) + 1))] [] G11 Q) (by simp; omega) o2 ub10 f10 or10 x10 (fun z k k0 k1 => by rw [e10, st_nq _ _ _ _ (by decide), e8', st_nq _ _ _ _ (by decide)]; exact x59 z k k0 k1) bb1 (fun M' g' or' y71 y59 bb' => ?_)
          · rw [ln] at rcc
            exact rcc
          · refine ihj (p + 1) M' _ (by omega) g' ⟨fun k k0 k1 => ?_, or'.2⟩ y71 y59 bb' e
            have z := or'.1 k k0 (by rw [ln]; omega)
            rw [(lsi_app (cur := cur) (x := (p : Int)) k0).1 k1] at z
            exact z
        · rw [bk] at x
          rw [if_pos (by omega), List.nil_append] at e
          exact ihj (p + 1) M1 b1 (by omega) g1 or1 x71 x59 bb1 e
    exact ctof (s_X12_orders_0 ⟨by omega, by omega, fun _ => key n 0 M best (by omega) f1 hor hb hbo bb (by rw [lv]), fun x => absurd (show (cur.length : Int) ≠ M 313 8 by omega) x⟩)
/-! the kept order -/
def RkC (G : Mem) (c : Int) (fs : Int → Law) : Prop := G 19 10 = 0 ∨ (G 19 10 = 1 ∧ 1 ≤ G c 8 ∧ RkV G c fs (G c 8).toNat G)
theorem rkF_cg {p p' : List Int → Int} : ∀ (Ls : List (List Int)) (a : Int × List Int), (∀ L ∈ Ls, p' L = p L) → rkF p' Ls a = rkF p Ls a := by
  intro Ls
  induction Ls with
  | nil => intro a _; rfl
  | cons L Ls ih =>
    intro a h
    unfold rkF
    rw [h L (List.mem_cons_self ..), ih _ (fun X hX => h X (List.mem_cons_of_mem _ hX))]
theorem penO_cg (hC : CbOk S c) (e : CorC c S S') {n : Nat} (hn : S c 8 = n) {L : List Int} (hL : OrdOk n L) : penO S' c fs L = penO S c fs L := by
  have ix : ∀ k : Nat, idxF S' c k = idxF S c k := by
    intro k
    induction k with
    | zero => rfl
    | succ k ih => unfold idxF; rw [ih, cor_at e (q := c + 2) (by omega)]
  have st' : seatT S' c L = seatT S c L := by
    funext q k
    unfold seatT
    rw [cor_at e (q := c + 2) (by omega), ix]
  unfold penO
  rw [st', fly_cg hC e (seatT_ok hC hn hL), pen_cg e]
theorem RkC.ext (hC : CbOk G c) (h : RkC G c fs) (f : RkF c G G') : RkC G' c fs := by
  obtain ⟨cc, f4, f10, f30⟩ := f
  have h8 := hC.2.2.1
  have e8 := cor_at cc (q := c) (k := 8) (by omega)
  rcases h with h | ⟨h1, h2, h3⟩
  · exact Or.inl (by rw [f10]; exact h)
  · refine Or.inr ⟨by rw [f10]; exact h1, by rw [e8]; exact h2, ?_⟩
    have e : rkF (penO G' c fs) (lvs (G c 8).toNat (G c 8).toNat 0 []) (-1, []) = rkF (penO G c fs) (lvs (G c 8).toNat (G c 8).toNat 0 []) (-1, []) := rkF_cg _ _ (fun L hL => penO_cg hC cc (n := (G c 8).toNat) (by omega) ((okP_at (prm (by omega)).2).1 L hL))
    unfold RkV at h3 ⊢
    rw [e8, e, f4]
    exact ⟨h3.1, fun i i0 i1 => by rw [f30]; exact h3.2 i i0 i1⟩
/-- the answer, and all stands, the kept order too -/
def Ok3 (c : Int) (fs : Int → Law) (v : Int) : Int → Mem → Prop := fun v2 G2 => v = v2 ∧ Inv0 G2 G2 c fs ∧ RkC G2 c fs
theorem Ok2.ok3 {v v2 : Int} {G2 : Mem} (hI : Inv0 G G c fs) (hK : RkC G c fs) (h : Ok2 c fs G v v2 G2) : Ok3 c fs v v2 G2 := ⟨h.1, h.2.1, hK.ext hI.2.1.2.1 h.2.2⟩
theorem RnF.cl (hc : c = 37 ∨ c = 55) (h : RnF c G G') : ∀ q k : Int, q < 311 → ¬ (q = c + 7 ∨ q = c + 12 ∨ (q = 19 ∧ (k = 4 ∨ k = 10 ∨ k = 12)) ∨ (20 ≤ q ∧ q ≤ 32)) → G' q k = G q k := fun q k a b => h q k (by omega) (by omega) (by omega) (by omega)
theorem Inv0.rn {S1 : Mem} (hI : Inv0 S G c fs) (h : RnF c S S1) : Inv0 S1 G c fs := by
  obtain ⟨⟨a1, a2, a3, a4⟩, hC, hL, hU, hT, hM, hP⟩ := hI
  have e := RnF.cl a3 h
  have cc : CorC c S S1 := fun q k q0 q1 q7 q12 => e q k (by omega) (by omega)
  have e3 : StEq S S1 73 73 := ⟨fun k _ _ => e _ _ (by omega) (by omega), fun j _ _ i _ _ => e _ _ (by omega) (by omega)⟩
  have e4 : SrEq G G 342 0 342 0 := ⟨fun k _ _ => rfl, fun k _ _ => rfl⟩
  refine ⟨⟨by rw [e 0 13 (by omega) (by omega)]; exact a1, by rw [e 0 14 (by omega) (by omega)]; exact a2, a3, by rw [e 19 11 (by omega) (by omega)]; exact a4⟩, ?_, hL.extC cc, ?_, ?_, ?_, ?_⟩
  · exact hC.st cc (hC.2.2.1.cp e3) (by rw [e 73 7 (by omega) (by omega)]; exact hC.2.2.2.1) (fun q k hq => rfl) (hC.2.2.2.2.2.cp hC.2.1.2.2.1.2 e3 e4)
  · exact hU.ext hC.2.1.2.2.1.2 (fun q k hq => e q k (by omega) (by omega)) (fun q k hq => rfl)
  · exact hT.cp (fun j k _ _ _ _ _ => e _ _ (by omega) (by omega)) (fun k _ _ => rfl)
  · exact hM.ext (fun q k _ _ => e q k (by omega) (by omega)) (fun q k hq => rfl)
  · exact hP.ext (fun q k hq => e q k (by omega) (by omega)) (fun q k hq => rfl)
end SEATED
