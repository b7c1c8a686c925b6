section FEED
variable {d : Nat} {S S' G G' H : Mem} {Q : Int → Mem → Prop} {c : Int} {fs : Int → Law}
theorem andL_255 (y : Int) : 0 ≤ andL y 255 ∧ andL y 255 ≤ 255 := by
  have h : ∀ b : BitVec 64, 0 ≤ (b &&& 255#64).toInt ∧ (b &&& 255#64).toInt ≤ 255 := fun b => by
    have n : (b &&& 255#64).toNat ≤ 255 := by
      rw [BitVec.toNat_and]
      exact Nat.le_trans Nat.and_le_right (by decide)
    rw [BitVec.toInt_eq_toNat_of_lt (by omega)]
    omega
  exact h (Int64.ofInt y).toBitVec
theorem andI_7 : ∀ k : Nat, k < 24 → andI (k : Int) 7 = ((k % 8 : Nat) : Int) := by
  unfold andI
  decide +kernel
def okB (x : Int) : Prop := x = 10 ∨ (32 ≤ x ∧ x ≤ 126)
/-- a sign more -/
def fd1 (x : Int) (p : Int × (Int → Int)) : Int × (Int → Int) := if (x = 10 ∨ (32 ≤ x ∧ x ≤ 126)) ∧ p.1 < 1000 then (p.1 + 1, fun k => if k = p.1 then x else p.2 k) else p
theorem fd1_y {x : Int} {p : Int × (Int → Int)} (h : okB x ∧ p.1 < 1000) : fd1 x p = (p.1 + 1, fun k => if k = p.1 then x else p.2 k) := if_pos h
theorem fd1_n {x : Int} {p : Int × (Int → Int)} (h : ¬ (okB x ∧ p.1 < 1000)) : fd1 x p = p := if_neg h
def fdN (b : Nat → Int) : Nat → Int × (Int → Int) → Int × (Int → Int)
  | 0, p => p
  | k + 1, p => fd1 (b k) (fdN b k p)
theorem fdN_cg {b b' : Nat → Int} {p : Int × (Int → Int)} : ∀ k : Nat, (∀ j, j < k → b j = b' j) → fdN b k p = fdN b' k p := by
  intro k
  induction k with
  | zero => intro _; rfl
  | succ k ih => intro h; unfold fdN; rw [ih (fun j hj => h j (by omega)), h k (by omega)]
theorem fdN_add {b : Nat → Int} {p : Int × (Int → Int)} {m : Nat} : ∀ k : Nat, fdN b (m + k) p = fdN (fun j => b (m + j)) k (fdN b m p) := by
  intro k
  induction k with
  | zero => rfl
  | succ k ih =>
    show fd1 (b (m + k)) (fdN b (m + k) p) = fd1 (b (m + k)) (fdN (fun j => b (m + j)) k (fdN b m p))
    rw [ih]
def POk (p : Int × (Int → Int)) : Prop := (0 ≤ p.1 ∧ p.1 ≤ 1000) ∧ ∀ k, 0 ≤ k → k < p.1 → okB (p.2 k)
theorem fd1_ok {x : Int} {p : Int × (Int → Int)} (h : POk p) : POk (fd1 x p) := by
  have h1 := h.1
  by_cases hx : okB x ∧ p.1 < 1000
  · rw [fd1_y hx]
    refine ⟨⟨by show 0 ≤ p.1 + 1; omega, by show p.1 + 1 ≤ 1000; omega⟩, fun k k0 k1 => ?_⟩
    have k1 : k < p.1 + 1 := k1
    show okB (if k = p.1 then x else p.2 k)
    by_cases hk : k = p.1
    · rw [if_pos hk]; exact hx.1
    · rw [if_neg hk]; exact h.2 k k0 (by omega)
  · rw [fd1_n hx]; exact h
theorem fdN_ok {b : Nat → Int} {p : Int × (Int → Int)} (h : POk p) : ∀ k : Nat, POk (fdN b k p) := by
  intro k
  induction k with
  | zero => exact h
  | succ k ih => exact fd1_ok ih
/-- the byte at a place of eight -/
def fb (w : Int) (k : Nat) : Int := andL (ushrL w (56 - 8 * (k : Int))) 255
theorem fb_in (w : Int) (k : Nat) : 0 ≤ fb w k ∧ fb w k ≤ 255 := andL_255 _
/-- the class's tape -/
def TpC (G : Mem) (p : Int × (Int → Int)) : Prop := G 1 1 = p.1 ∧ ∀ k : Int, G 2 k = p.2 k
def TpF (G G' : Mem) : Prop := ∀ q k : Int, ¬ (q = 1 ∧ k = 1) → q ≠ 2 → G' q k = G q k
theorem TpF.tr {G2 : Mem} (h : TpF G G') (h' : TpF G' G2) : TpF G G2 := fun q k a b => (h' q k a b).trans (h q k a b)
theorem c_put {w : Int} {p : Int × (Int → Int)} (ht : TpC G p) (hp : POk p) (h : ∀ G2, TpF G G2 → TpC G2 (fdN (fb w) 8 p) → Q 0 G2) : Ct d M_X10_put NT 0 0 (some lay) [(2, 1), (1, w)] G (fun _ G2 => Q 0 G2) := by
  have key : ∀ (n k : Nat) (G1 : Mem), k + n = 8 → TpF G G1 → TpC G1 (fdN (fb w) k p) → Rn d M_X10_put zN 3 [(0, (2, 1)), (1, (1, w)), (3, (0, 56 - 8 * (k : Int)))] [] G1 (fun _ G2 => Q 0 G2) := by
    intro n
    induction n with
    | zero =>
      intro k G1 hk f1 t1
      obtain rfl : k = 8 := by omega
      exact s_X10_put_3 ⟨by omega, fun _ => h G1 f1 t1, fun x => absurd (by omega) x⟩
    | succ n ih =>
      intro k G1 hk f1 t1
      have ok := fdN_ok (b := fb w) hp k
      have fi := fb_in w k
      have e : fdN (fb w) (k + 1) p = fd1 (fb w k) (fdN (fb w) k p) := rfl
      have y := fun G2 f2 t2 => ih (k + 1) G2 (by omega) f2 t2
      rw [show (56 : Int) - 8 * ((k + 1 : Nat) : Int) = 56 - 8 * (k : Int) + (-8) by omega] at y
      generalize hp2 : fdN (fb w) k p = p2 at *
      have nx : ¬ (okB (fb w k) ∧ p2.1 < 1000) → Rn d M_X10_put zN 3 [(0, (2, 1)), (1, (1, w)), (3, (0, 56 - 8 * (k : Int) + (-8)))] [] G1 (fun _ G2 => Q 0 G2) := fun z => y G1 f1 (by rw [e]; rw [fd1_n z]; exact t1)
      have yes : okB (fb w k) → Rn d M_X10_put zN 38 [(0, (2, 1)), (1, (1, w)), (3, (0, 56 - 8 * (k : Int))), (4, (0, fb w k))] [] G1 (fun _ G2 => Q 0 G2) := fun z => by
        have o1 := ok.1
        refine s_X10_put_38 ⟨by rw [t1.1]; omega, fun u => nx (fun v => by rw [t1.1] at u; omega), fun u => ⟨by omega, ⟨by rw [t1.1] at *; omega, fun G5 e5 G6 e6 => ?_⟩⟩⟩
        rw [t1.1] at u e5
        have a5 : G5 1 1 = p2.1 := by rw [e5, st_nq _ _ _ _ (by decide)]; exact t1.1
        refine y G6 (f1.tr (fun q i a b => by rw [e6, st_ne _ _ a, e5, st_nq _ _ _ _ b])) ?_
        rw [e, fd1_y ⟨z, by omega⟩]
        refine ⟨by rw [e6, st_same, a5], fun i => ?_⟩
        rw [e6, st_nq _ _ _ _ (by decide), e5]
        show _ = if i = p2.1 then fb w k else p2.2 i
        by_cases hi : i = p2.1
        · rw [if_pos hi, hi, st_same]
        · rw [if_neg hi, st_nk _ _ _ hi]; exact t1.2 i
      refine s_X10_put_3 ⟨by omega, fun x => absurd x (by omega), fun _ => ?_⟩
      show InR (fb w k) ∧ (fb w k = 10 → _) ∧ (¬ fb w k = 10 → (fb w k < 32 → _) ∧ (¬ fb w k < 32 → (126 < fb w k → _) ∧ (¬ 126 < fb w k → _)))
      exact ⟨by omega, fun x => yes (Or.inl x), fun x => ⟨fun z => nx (fun v => by have := v.1; unfold okB at this; omega), fun z => ⟨fun u => nx (fun v => by have := v.1; unfold okB at this; omega), fun u => yes (Or.inr (by omega))⟩⟩⟩
  exact ctof (s_X10_put_0 (key 8 0 G (by omega) (fun _ _ _ _ => rfl) ht))
/-- the model's bytes -/
def mb (a b e : Int) (k : Nat) : Int := if k < 8 then fb a k else if k < 16 then fb b (k - 8) else fb e (k - 16)
theorem mb_24 {a b e : Int} {p : Int × (Int → Int)} : fdN (mb a b e) 24 p = fdN (fb e) 8 (fdN (fb b) 8 (fdN (fb a) 8 p)) := by
  rw [show (24 : Nat) = 8 + (8 + 8) from rfl, fdN_add, fdN_add]
  have h1 : fdN (mb a b e) 8 p = fdN (fb a) 8 p := fdN_cg 8 (fun j hj => by unfold mb; rw [if_pos hj])
  have h2 : ∀ p, fdN (fun j => mb a b e (8 + j)) 8 p = fdN (fb b) 8 p := fun p => fdN_cg 8 (fun j hj => by unfold mb; rw [if_neg (by omega), if_pos (by omega), Nat.add_sub_cancel_left])
  have h3 : ∀ p, fdN (fun j => mb a b e (8 + (8 + j))) 8 p = fdN (fb e) 8 p := fun p => fdN_cg 8 (fun j hj => by unfold mb; rw [if_neg (by omega), if_neg (by omega), show 8 + (8 + j) - 16 = j by omega])
  rw [h1, h2, h3]
/-- the model's tape -/
def TpM (G : Mem) (p : Int × (Int → Int)) : Prop := G 311 1 = p.1 ∧ ∀ k : Int, 0 ≤ k → k < p.1 → G 312 k = p.2 k
def TmF (G G' : Mem) : Prop := ∀ q k : Int, ¬ (q = 311 ∧ (k = 0 ∨ k = 1)) → q ≠ 312 → G' q k = G q k
theorem TmF.tr {G2 : Mem} (h : TmF G G') (h' : TmF G' G2) : TmF G G2 := fun q k a b => (h' q k a b).trans (h q k a b)
theorem c_feedM {a b e : Int} {p : Int × (Int → Int)} (ht : TpM G p) (hp : POk p) (h : ∀ G2, TmF G G2 → TpM G2 (fdN (mb a b e) 24 p) → Q (fdN (mb a b e) 24 p).1 G2) : Ct d M_X12_feed NT 0 0 (some lay) [(2, 311), (1, a), (1, b), (1, e)] G Q := by
  have key : ∀ (n k : Nat) (G1 : Mem), k + n = 24 → TmF G G1 → TpM G1 (fdN (mb a b e) k p) → Rn d M_X12_feed zN 8 [(0, (2, 311)), (1, (1, a)), (3, (1, b)), (5, (1, e)), (7, (0, (k : Int)))] [] G1 Q := by
    intro n
    induction n with
    | zero =>
      intro k G1 hk f1 t1
      obtain rfl : k = 24 := by omega
      exact s_X12_feed_8 ⟨by omega, fun _ => by rw [t1.1]; exact h G1 f1 t1, fun x => absurd (by omega) x⟩
    | succ n ih =>
      intro k G1 hk f1 t1
      have ok := fdN_ok (b := mb a b e) hp k
      have ee : fdN (mb a b e) (k + 1) p = fd1 (mb a b e k) (fdN (mb a b e) k p) := rfl
      have y := fun G2 f2 t2 => ih (k + 1) G2 (by omega) f2 t2
      rw [show (((k + 1 : Nat)) : Int) = (k : Int) + 1 by omega] at y
      generalize hp2 : fdN (mb a b e) k p = p2 at *
      have o1 := ok.1
      have nx : ¬ (okB (mb a b e k) ∧ p2.1 < 1000) → Rn d M_X12_feed zN 8 [(0, (2, 311)), (1, (1, a)), (3, (1, b)), (5, (1, e)), (7, (0, (k : Int) + 1))] [] G1 Q := fun z => y G1 f1 (by rw [ee]; rw [fd1_n z]; exact t1)
      have yes : okB (mb a b e k) → p2.1 < 1000 → Rn d M_X12_feed zN 93 [(0, (2, 311)), (1, (1, a)), (3, (1, b)), (5, (1, e)), (7, (0, (k : Int))), (10, (0, mb a b e k))] [] G1 Q := fun z u => by
        refine s_X12_feed_93 ⟨by rw [t1.1]; omega, fun G2 e2 G3 e3 => ?_⟩
        rw [t1.1] at e2
        have a2 : G2 311 1 = p2.1 := by rw [e2, st_nq _ _ _ _ (by decide)]; exact t1.1
        refine y G3 (f1.tr (fun q i v w => by rw [e3, st_ne _ _ (by omega), e2, st_nq _ _ _ _ w])) ?_
        rw [ee, fd1_y ⟨z, u⟩]
        refine ⟨by rw [e3, st_same, a2], fun i i0 i1 => ?_⟩
        have i1 : i < p2.1 + 1 := i1
        rw [e3, st_nq _ _ _ _ (by decide), e2]
        show _ = if i = p2.1 then mb a b e k else p2.2 i
        by_cases hi : i = p2.1
        · rw [if_pos hi, hi, st_same]
        · rw [if_neg hi, st_nk _ _ _ hi]; exact t1.2 i i0 (by omega)
      have st39 : ∀ w : Int, fb w (k % 8) = mb a b e k → Rn d M_X12_feed zN 39 [(0, (2, 311)), (1, (1, a)), (3, (1, b)), (5, (1, e)), (7, (0, (k : Int)))] [(1, w)] G1 Q := fun w hw => by
        have fi := fb_in w (k % 8)
        rw [hw] at fi
        have ew : andL (ushrL w (56 - 8 * andI (k : Int) 7)) 255 = mb a b e k := by rw [andI_7 k (by omega)]; exact hw
        refine s_X12_feed_39 ?_
        rw [ew, t1.1]
        exact ⟨by omega, fun u => nx (fun v => by omega), fun u => ⟨by omega, fun x => yes (Or.inl x) (by omega), fun x => ⟨fun z => nx (fun v => by have := v.1; unfold okB at this; omega), fun z => ⟨fun u => nx (fun v => by have := v.1; unfold okB at this; omega), fun u2 => yes (Or.inr (by omega)) (by omega)⟩⟩⟩⟩
      refine s_X12_feed_8 ⟨by omega, fun x => absurd x (by omega), fun _ => ⟨fun x8 => ⟨fun x16 => st39 e ?_, fun x16 => st39 b ?_⟩, fun x8 => st39 a ?_⟩⟩
      · unfold mb; rw [if_neg (by omega), if_neg (by omega), show k % 8 = k - 16 by omega]
      · unfold mb; rw [if_neg (by omega), if_pos (by omega), show k % 8 = k - 8 by omega]
      · unfold mb; rw [if_pos (by omega), show k % 8 = k by omega]
  refine ctof (s_X12_feed_0 (fun G1 e1 => ?_))
  exact key 24 0 G1 (by omega) (fun q k u v => by rw [e1, st_ne _ _ (by omega)]) ⟨by rw [e1, st_nk _ _ _ (by decide)]; exact ht.1, fun k k0 k1 => by rw [e1, st_nq _ _ _ _ (by decide)]; exact ht.2 k k0 k1⟩
/-- the tapes are others -/
theorem Inv0.tape (h : Inv0 S G c fs) (eS : TpF S S') (eG : TmF G G') (hP : TpR S' G') : Inv0 S' G' c fs := by
  obtain ⟨⟨a1, a2, a3, a4⟩, hC, hL, hU, hT, hM, -⟩ := h
  have cc : CorC c S S' := fun q k q0 q1 q7 q12 => eS q k (by omega) (by omega)
  have cm : CorM G G' := fun q k hq => eG q k (by omega) (by omega)
  have e3 : StEq S S' 73 73 := ⟨fun k _ _ => eS _ _ (by omega) (by omega), fun j _ _ i _ _ => eS _ _ (by omega) (by omega)⟩
  have e4 : SrEq G G' 342 0 342 0 := ⟨fun k _ _ => eG _ _ (by omega) (by omega), fun k _ _ => eG _ _ (by omega) (by omega)⟩
  refine ⟨⟨by rw [eS 0 13 (by omega) (by omega)]; exact a1, by rw [eS 0 14 (by omega) (by omega)]; exact a2, a3, by rw [eS 19 11 (by omega) (by omega)]; exact a4⟩, ?_, (hL.ext cm).extC cc, ?_, ?_, ?_, hP⟩
  · exact hC.st cc (hC.2.2.1.cp e3) (by rw [eS 73 7 (by omega) (by omega)]; exact hC.2.2.2.1) (fun q k hq => eG q k (by omega) (by omega)) (hC.2.2.2.2.2.cp hC.2.1.2.2.1.2 e3 e4)
  · exact hU.ext hC.2.1.2.2.1.2 (fun q k hq => eS q k (by omega) (by omega)) (fun q k hq => eG q k (by omega) (by omega))
  · exact hT.cp (fun j k _ _ _ _ _ => eS _ _ (by omega) (by omega)) (fun k _ _ => eG _ _ (by omega) (by omega))
  · exact hM.ext (fun q k _ _ => eS q k (by omega) (by omega)) (fun q k hq => eG q k (by omega) (by omega))
theorem t_feed {p0 p1 p2 : Int} (hI : Inv0 G G c fs) : Ct (d + 1) M_X11_feed NT 0 0 (some lay) [(2, 0), (1, p0), (1, p1), (1, p2)] G (fun v G1 => Ct d M_X12_feed NT 0 0 (some lay) [(2, 311), (1, p0), (1, p1), (1, p2)] G1 (Ok2 c fs G v)) := by
  obtain ⟨h1, h2, h3⟩ := hI.2.2.2.2.2.2
  have po : POk (G 1 1, G 2) := ⟨h1, fun k k0 k1 => (h3 k k0 k1).2⟩
  have o1 := fdN_ok (b := fb p0) po 8
  have o2 := fdN_ok (b := fb p1) o1 8
  have o3 := fdN_ok (b := fb p2) o2 8
  refine ctof (s_X11_feed_0 ?_)
  refine c_put (p := (G 1 1, G 2)) ⟨rfl, fun _ => rfl⟩ po (Q := fun _ G2 => Ct d M_X10_put NT 0 0 (some lay) [(2, 1), (1, p1)] G2 (fun _ G3 => Ct d M_X10_put NT 0 0 (some lay) [(2, 1), (1, p2)] G3 (fun _ G5 => Ct d M_X12_feed NT 0 0 (some lay) [(2, 311), (1, p0), (1, p1), (1, p2)] G5 (Ok2 c fs G (G5 1 1))))) (fun G1 f1 t1 => ?_)
  refine c_put t1 o1 (Q := fun _ G3 => Ct d M_X10_put NT 0 0 (some lay) [(2, 1), (1, p2)] G3 (fun _ G5 => Ct d M_X12_feed NT 0 0 (some lay) [(2, 311), (1, p0), (1, p1), (1, p2)] G5 (Ok2 c fs G (G5 1 1)))) (fun G2 f2 t2 => ?_)
  refine c_put t2 o2 (Q := fun _ G5 => Ct d M_X12_feed NT 0 0 (some lay) [(2, 311), (1, p0), (1, p1), (1, p2)] G5 (Ok2 c fs G (G5 1 1))) (fun G3 f3 t3 => ?_)
  have f := (f1.tr f2).tr f3
  refine c_feedM (p := (G 1 1, G 2)) ⟨by rw [f 311 1 (by decide) (by decide)]; exact h2, fun k k0 k1 => by rw [f 312 k (by omega) (by decide)]; exact (h3 k k0 k1).1⟩ po (fun G4 f4 t4 => ?_)
  rw [mb_24] at t4 ⊢
  generalize fdN (fb p2) 8 (fdN (fb p1) 8 (fdN (fb p0) 8 (G 1 1, G 2))) = p at *
  have e1 : G4 1 1 = p.1 := by rw [f4 1 1 (by decide) (by decide)]; exact t3.1
  have tp : TpR G4 G4 := ⟨by rw [e1]; exact o3.1, by rw [e1]; exact t4.1, fun k k0 k1 => by
    rw [e1] at k1
    rw [f4 2 k (by omega) (by decide), t3.2 k, t4.2 k k0 k1]
    exact ⟨rfl, o3.2 k k0 k1⟩⟩
  -- the class's cells at the end, the model's at the end
  have eS : ∀ q k : Int, q < 311 → ¬ (q = 1 ∧ k = 1) → q ≠ 2 → G4 q k = G q k := fun q k a b e => (f4 q k (by omega) (by omega)).trans (f q k b e)
  have eG : ∀ q k : Int, 311 ≤ q → ¬ (q = 311 ∧ (k = 0 ∨ k = 1)) → q ≠ 312 → G4 q k = G q k := fun q k a b e => (f4 q k b e).trans (f q k (by omega) (by omega))
  refine ⟨t3.1, ?_, ?_⟩
  · have x := hI.tape (S' := fun q k => if q < 311 then G4 q k else G q k) (G' := fun q k => if q < 311 then G q k else G4 q k) (fun q k a b => ?_) (fun q k a b => ?_) (tp.ext (fun q k hq => if_pos (by omega)) (fun q k hq => if_neg (by omega)))
    · have e5 : QtC c (fun q k => if q < 311 then G4 q k else G q k) G4 := fun q k a _ => (if_pos a).symm
      have e6 : QtM (fun q k => if q < 311 then G q k else G4 q k) G4 := fun q k a _ => (if_neg (by omega)).symm
      exact x.ext e5 e6
    · show (if q < 311 then G4 q k else G q k) = _
      by_cases hq : q < 311
      · rw [if_pos hq]; exact eS q k hq a b
      · rw [if_neg hq]
    · show (if q < 311 then G q k else G4 q k) = _
      by_cases hq : q < 311
      · rw [if_pos hq]
      · rw [if_neg hq]; exact eG q k (by omega) a b
  · have h37 := hI.1.2.2.1
    exact ⟨fun q k _ _ _ _ => eS q k (by omega) (by omega) (by omega), eS _ _ (by omega) (by omega) (by omega), eS _ _ (by omega) (by omega) (by omega), fun k => eS _ _ (by omega) (by omega) (by omega)⟩
end FEED
