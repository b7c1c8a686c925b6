section FLYB
variable {d : Nat} {S S' T T' G G' H : Mem} {Q : Int → Mem → Prop} {c : Int} {fs : Int → Law}
theorem nne_he (hS : HSx S c fs G) (hE : HE (S c 6) T G) {i th : Int} (h0 : 0 ≤ i) (h1 : i < S c 8) (h5 : S c 8 ≤ 5) : nneed G 20 c th i = nneT S T c th i ∧ nout G 20 i = nouT T i ∧ nlate G 20 c th i = nlaT S T c th i := by
  have hc := cb_lt hS.1.2.1
  have a1 : G (20 + 1) i = T 21 i := hE.row (by omega) (by omega)
  have a2 : G (20 + 2) i = T 22 i := hE.row (by omega) (by omega)
  have b2 : G (c + 13 + i) 2 = S (c + 13 + i) 2 := HSx.cab hS (by omega)
  have b0 : G (c + 13 + i) 0 = S (c + 13 + i) 0 := HSx.cab hS (by omega)
  have b3 : G (c + 13 + i) 3 = S (c + 13 + i) 3 := HSx.cab hS (by omega)
  have n : nneed G 20 c th i = nneT S T c th i := by
    unfold nneed nneT grow
    rw [a1, a2, b2, b0]
  refine ⟨n, ?_, ?_⟩
  · unfold nout nouT
    rw [a2]
  · unfold nlate nlaT
    rw [n, b3]
theorem lte_he (hS : HSx S c fs G) (hE : HE (S c 6) T G) {th : Int} (h5 : S c 8 ≤ 5) : ∀ n : Nat, (n : Int) ≤ S c 8 → lateN G 20 c th n = lteT S T c th n := by
  intro n
  induction n with
  | zero => intro _; rfl
  | succ n ih =>
    intro hn
    unfold lateN lteT
    rw [ih (by omega), (nne_he hS hE (th := th) (i := (n : Int)) (by omega) (by omega) h5).2.2]
theorem c_pass20 {th : Int} (hS : HSx S c fs G) (hT : TOk S c T) (hE : HE (S c 6) T G) (hth : InR th) (h : ∀ G2, HbF c G G2 → HE (S c 6) (psT S c th T) G2 → Q 0 G2) : Ct (d + 2) M_X8_pass NT 0 0 (some lay) [(2, 20), (2, c), (0, th)] G Q := by
  obtain ⟨hC, -, cc, h37⟩ := id hS
  have r := hC.rng
  have e8 : G c 8 = S c 8 := HSx.cab hS (by omega)
  have so : StOk G 20 := by
    refine ⟨by rw [hE.c20 (by omega)]; exact hT.1.1, fun i i0 i5 => ?_⟩
    have x := hT.1.2 i i0 i5
    unfold RwOk at x ⊢
    rw [hE.row (q := 20 + 1) (by omega) ⟨i0, i5⟩, hE.row (q := 20 + 2) (by omega) ⟨i0, i5⟩, hE.row (q := 20 + 3) (by omega) ⟨i0, i5⟩, hE.row (q := 20 + 7) (by omega) ⟨i0, i5⟩]
    exact x
  refine c_X8_pass b8_20 hC.2.1 (n := (S c 8).toNat) (by omega) (by omega) hth so (fun i i0 i1 => hC.sok i0 (by omega)) (fun G' hp => ?_)
  obtain ⟨p1, p2, p3⟩ := hp
  refine h _ (fun q k a b e f => ?_) ⟨fun q k hq => ?_, fun x => ?_⟩
  · rw [st_nq _ _ _ _ (by omega)]
    exact p3 q k (by omega) (by omega)
  · unfold HC at hq
    rw [psT_at]
    by_cases x7 : q = 20 ∧ k = 7
    · rw [if_pos x7, x7.1, x7.2, st_same, hE.c20 (by omega)]
    · rw [if_neg x7, st_ne _ _ x7]
      by_cases x11 : q = 20 ∧ k = 11
      · rw [if_pos x11, x11.1, x11.2, p1, hE.c20 (by omega), lte_he hS hE (by omega) _ (by omega)]
      · rw [if_neg x11]
        by_cases xr : 0 ≤ k ∧ k < S c 8 ∧ (q = 21 ∨ q = 22 ∨ q = 26)
        · obtain ⟨z1, z2, z3⟩ := p2 k xr.1 (by omega)
          obtain ⟨n1, n2, n3⟩ := nne_he hS hE (th := th) (i := k) xr.1 xr.2.1 (by omega)
          rcases xr.2.2 with rfl | rfl | rfl
          · rw [if_pos ⟨xr.1, xr.2.1, rfl⟩, ← n1]; exact z1
          · rw [if_neg (by omega), if_pos ⟨xr.1, xr.2.1, rfl⟩, ← n2]; exact z2
          · have e26 : G (20 + 6) k = T 26 k := hE.row (by omega) (by omega)
            rw [if_neg (by omega), if_neg (by omega), if_pos ⟨xr.1, xr.2.1, rfl⟩, ← n3, ← e26]; exact z3
        · rw [if_neg (by omega), if_neg (by omega), if_neg (by omega), p3 q k (by omega) (by omega)]
          exact hE.1 q k hq
  · have d11 : psT S c th T 19 11 = T 19 11 := by rw [psT_at]; simp
    have d12 : psT S c th T 19 12 = T 19 12 := by rw [psT_at]; simp
    rw [d11] at x
    rw [d12, st_nq _ _ _ _ (by decide), p3 19 12 (by omega) (by omega)]
    exact hE.2 x
/-- what a flight reads of how it stood -/
def HB (n : Int) (T G : Mem) : Prop := (∀ k, 0 ≤ k → k < n → G 31 k = T 31 k) ∧ G 19 11 = T 19 11 ∧ (T 19 11 = 1 → G 19 12 = T 19 12)
theorem HE.hb {n : Int} (h : HE n T G) : HB n T G := ⟨fun k a b => h.on ⟨a, b⟩, h.c11, h.2⟩
theorem c_fly {th : Int} (hS : HSx S c fs G) (hB : HB (S c 6) T G) (ho : ∀ s, 0 ≤ s → s < S c 6 → T 31 s = -1 ∨ (0 ≤ T 31 s ∧ T 31 s < S c 8)) (hg : T 19 11 = 1 → 0 ≤ T 19 12 ∧ T 19 12 < 2147483648) (hd : T 19 11 = 0 ∨ T 19 11 = 1) (hth : InR th) (h : ∀ G2, HbF c G G2 → HE (S c 6) (flyT S c fs th T) G2 → Q 0 G2) : Ct (d + 5) M_X2_fly NT 0 0 (some lay) [(2, 19), (2, c), (0, th)] G Q := by
  obtain ⟨hC, -, cc, h37⟩ := id hS
  have r := hC.rng
  have e6 : G c 6 = S c 6 := HSx.cab hS (by omega)
  have e7 : G c 7 = S c 7 := HSx.cab hS (by omega)
  have e8 : G c 8 = S c 8 := HSx.cab hS (by omega)
  have sokS : ∀ i, 0 ≤ i → i < S c 8 → SitOk S (c + 13 + i) := fun i i0 i1 => (hC.sok i0 (by omega)).cp (fun k _ _ => (HSx.cab hS (by omega)).symm)
  have cupS : ∀ s, 0 ≤ s → s < 5 → 0 ≤ S (c + 3) s ∧ S (c + 3) s ≤ 1 := fun s s0 s5 => by
    have := hC.2.2.1.2.2.2.2.2.2.2.1 s s0 s5
    rw [HSx.cab hS (by omega)] at this
    exact this
  unfold flyT at h
  obtain ⟨ok0, -, t0⟩ := bgT_ok (S := S) (c := c) (T := T) cupS ho hg hd
  have L26 : ∀ (m : Nat) (T1 G1 : Mem), T1 20 7 + m = S c 7 → HbF c G G1 → TOk S c T1 → HE (S c 6) T1 G1 → (∀ G2, HbF c G G2 → HE (S c 6) (tksT S c fs th m T1) G2 → Q 0 G2) → Rn (d + 5) M_X2_fly zN 26 [(0, (2, 19)), (1, (2, c)), (2, (0, th)), (3, (0, T1 20 7))] [] G1 Q := by
    intro m
    induction m with
    | zero =>
      intro T1 G1 hm f1 ok1 h1 hq
      have g7 : G1 c 7 = S c 7 := HSx.cab (hS.mv f1) (by omega)
      exact s_X2_fly_26 hC.2.1 ⟨by have := ok1.1.1; omega, by omega, fun _ => hq G1 f1 h1, fun x => absurd (by omega) x⟩
    | succ m ih =>
      intro T1 G1 hm f1 ok1 h1 hq
      have g7 : G1 c 7 = S c 7 := HSx.cab (hS.mv f1) (by omega)
      have g6 : G1 c 6 = S c 6 := HSx.cab (hS.mv f1) (by omega)
      have tb := ok1.1.1
      unfold tksT at hq
      -- the tick passes
      have L94 : ∀ (T2 G2 : Mem), HbF c G G2 → TOk S c T2 → HE (S c 6) T2 G2 → T2 20 7 = T1 20 7 → tkT S c fs th T1 = psT S c th T2 → Rn (d + 5) M_X2_fly zN 94 [(0, (2, 19)), (1, (2, c)), (2, (0, th)), (3, (0, T1 20 7))] [] G2 Q := by
        intro T2 G2 f2 ok2 h2 t2 e
        refine s_X2_fly_94 hC.2.1 (c_pass20 (hS.mv f2) ok2 h2 hth (fun G3 f3 h3 => ?_))
        obtain ⟨k1, k2, k3, k4⟩ := psT_ok (th := th) sokS ok2 (by omega)
        rw [e] at hq
        have y := ih (psT S c th T2) G3 (by rw [k2]; omega) (f2.tr f3) k1 h3 hq
        rw [k2, t2] at y
        exact y
      have L68 : ∀ (k : Nat) (T2 G2 : Mem), (k : Int) ≤ S c 6 → HbF c G G2 → TOk S c T2 → HE (S c 6) T2 G2 → T2 20 7 = T1 20 7 → tkT S c fs th T1 = psT S c th (if clsd S c (T1 20 7) then T2 else gos S c fs k T2) → Rn (d + 5) M_X2_fly zN 68 [(0, (2, 19)), (1, (2, c)), (2, (0, th)), (3, (0, T1 20 7)), (4, (0, (k : Int) - 1))] [] G2 Q := by
        intro k
        induction k with
        | zero =>
          intro T2 G2 hk f2 ok2 h2 t2 e
          refine s_X2_fly_68 hC.2.1 ⟨by omega, fun _ => L94 T2 G2 f2 ok2 h2 t2 ?_, fun x => absurd (by omega) x⟩
          rw [e]
          split <;> rfl
        | succ k ihk =>
          intro T2 G2 hk f2 ok2 h2 t2 e
          have hS2 := hS.mv f2
          have cd : clsd G2 c (T1 20 7) ↔ clsd S c (T1 20 7) := by
            unfold clsd
            rw [HSx.cab hS2 (q := c) (k := 7) (by omega), HSx.cab hS2 (q := c + 4) (by omega)]
          refine s_X2_fly_68 hC.2.1 ⟨by omega, fun x => absurd x (by omega), fun _ => c_clo hS2.1 (by omega) (fun x => ⟨by omega, fun _ => L94 T2 G2 f2 ok2 h2 t2 (by rw [e, if_pos (cd.mp x)]), fun z => absurd (show (1 : Int) ≠ 0 by decide) z⟩) (fun x => ⟨by omega, fun z => absurd rfl z, fun _ => ?_⟩)⟩
          rw [show ((k + 1 : Nat) : Int) - 1 = (k : Int) by omega]
          refine c_goOut hS2 ok2 h2 (by omega) (fun G3 f3 h3 => ?_)
          obtain ⟨k1, k2, k3, k4⟩ := goT_ok (fs := fs) (p := (k : Int)) ok2
          have nx : ¬ clsd S c (T1 20 7) := fun y => x (cd.mpr y)
          have y := ihk (goT S c fs T2 k) G3 (by omega) (f2.tr f3) k1 h3 (k2.trans t2) (by rw [e, if_neg nx, if_neg nx]; rfl)
          rw [show (k : Int) + (-1) = (k : Int) - 1 by omega]
          exact y
      have L42 : ∀ (k : Nat) (T2 G2 : Mem), (k : Int) ≤ S c 6 → HbF c G G2 → TOk S c T2 → HE (S c 6) T2 G2 → T2 20 7 = T1 20 7 → cbs S c fs (S c 6).toNat T1 = cbs S c fs k T2 → Rn (d + 5) M_X2_fly zN 42 [(0, (2, 19)), (1, (2, c)), (2, (0, th)), (3, (0, T1 20 7)), (4, (0, (k : Int) - 1))] [] G2 Q := by
        intro k
        induction k with
        | zero =>
          intro T2 G2 hk f2 ok2 h2 t2 e
          have e : cbs S c fs (S c 6).toNat T1 = T2 := e
          have q6 : G2 c 6 = S c 6 := HSx.cab (hS.mv f2) (by omega)
          refine s_X2_fly_42 hC.2.1 ⟨by omega, fun _ => ?_, fun x => absurd (by omega) x⟩
          rw [q6]
          have y := L68 (S c 6).toNat T2 G2 (by omega) f2 ok2 h2 t2 (by unfold tkT; rw [e])
          rw [show ((S c 6).toNat : Int) = S c 6 by omega] at y
          exact y
        | succ k ihk =>
          intro T2 G2 hk f2 ok2 h2 t2 e
          refine s_X2_fly_42 hC.2.1 ⟨by omega, fun x => absurd x (by omega), fun _ => ?_⟩
          rw [show ((k + 1 : Nat) : Int) - 1 = (k : Int) by omega]
          refine c_comeBack (hS.mv f2) ok2 h2 (by omega) (fun G3 f3 h3 => ?_)
          obtain ⟨k1, k2, k3, k4⟩ := cbT_ok (fs := fs) (p := (k : Int)) ok2
          have y := ihk (cbT S c fs T2 k) G3 (by omega) (f2.tr f3) k1 h3 (k2.trans t2) (by rw [e]; rfl)
          rw [show (k : Int) + (-1) = (k : Int) - 1 by omega]
          exact y
      refine s_X2_fly_26 hC.2.1 ⟨by omega, by omega, fun x => absurd x (by omega), fun _ => ?_⟩
      rw [g6]
      have y := L42 (S c 6).toNat T1 G1 (by omega) f1 ok1 h1 rfl rfl
      rw [show ((S c 6).toNat : Int) = S c 6 by omega] at y
      exact y
  have a28 : Ar NT 28 0 5 := by unfold Ar; decide +kernel
  have a29 : Ar NT 29 0 5 := by unfold Ar; decide +kernel
  refine ctof (s_X2_fly_0 hC.2.1 (c_X8_begin b8_20 hC.2.1 (fun G1 b1 b2 b3 b4 => c_fill a28 (c_fill a29 ?_))))
  have f1 : HbF c G (upA (upA G1 28 (5 : Nat) (fun _ => 0)) 29 (5 : Nat) (fun _ => 0)) := fun q k a b e f => by rw [upA_nq _ _ _ _ (by omega), upA_nq _ _ _ _ (by omega)]; exact b4 q k (by omega)
  have h1 : HE (S c 6) (bgT S c T) (upA (upA G1 28 (5 : Nat) (fun _ => 0)) 29 (5 : Nat) (fun _ => 0)) := by
    refine ⟨fun q k hq => ?_, fun x => ?_⟩
    rotate_left
    · have d11 : bgT S c T 19 11 = T 19 11 := by unfold bgT; simp
      have d12 : bgT S c T 19 12 = T 19 12 := by unfold bgT; simp
      rw [d11] at x
      rw [d12, upA_nq _ _ _ _ (by decide), upA_nq _ _ _ _ (by decide), b4 19 12 (by omega)]
      exact hB.2.2 x
    unfold HC at hq
    unfold bgT
    by_cases x29 : q = 29
    · subst x29
      rw [upA_in _ _ _ (by omega) (by omega)]; simp
    · rw [upA_nq _ _ _ _ x29]
      by_cases x28 : q = 28
      · subst x28
        rw [upA_in _ _ _ (by omega) (by omega)]; simp
      · rw [upA_nq _ _ _ _ x28]
        by_cases x20 : q = 20
        · subst x20
          rw [b1 k (by omega) (by omega), if_pos rfl]
        · rw [if_neg x20]
          by_cases x27 : q = 27
          · subst x27
            have y := b3 k (by omega) (by omega)
            rw [HSx.cab hS (by omega)] at y
            rw [if_neg (by decide), if_pos rfl]
            exact y
          · by_cases xr : 21 ≤ q ∧ q ≤ 26
            · have y := b2 (q - 20) (by omega) (by omega) k (by omega) (by omega)
              rw [show 20 + (q - 20) = q by omega] at y
              rw [y]
              by_cases x23 : q = 23
              · subst x23; simp
              · rw [if_neg (by omega), if_neg x23, if_neg x27, if_pos (by omega)]
            · rw [if_neg (by omega), if_neg x27, if_neg (by omega), b4 q k (by omega)]
              by_cases x31 : q = 31
              · subst x31; exact hB.1 k (by omega) (by omega)
              · have x19 : q = 19 ∧ k = 11 := by omega
                rw [x19.1, x19.2]; exact hB.2.1
  have y := L26 (S c 7).toNat (bgT S c T) _ (by rw [t0]; omega) f1 ok0 h1 h
  rw [t0] at y
  exact y
end FLYB
