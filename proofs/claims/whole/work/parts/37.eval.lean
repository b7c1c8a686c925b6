section EVAL
variable {d : Nat} {G : Mem} {Q : Int → Mem → Prop}
/-! what a law comes to, in the class and in the model -/
def ev (t dp lg cp ak gp sd ou : Int) : Int → Int := fun j => if j = 0 then wr dp else if j = 1 then wr lg else if j = 2 then wr cp else if j = 3 then wr gp else if j = 4 then wr t else if j = 5 then wr ak else if j = 6 then wr sd else wr ou
theorem ev_in (t dp lg cp ak gp sd ou j : Int) : InR (ev t dp lg cp ak gp sd ou j) := by
  unfold ev
  repeat' split
  all_goals exact wr_in _
abbrev Law : Type := (Int → Int) → Int
def LawR (S G : Mem) (c r l : Int) (f : Law) : Prop :=
  (S (c + 8) l = 0 ∧ G 327 (3 * r + l) = G 328 (3 * r + l) ∧ (1000 * r ≤ G 327 (3 * r + l) ∧ G 327 (3 * r + l) ≤ 1000 * r + 1000)) ∨
  (S (c + 8) l = 1 ∧ ∃ ts ps, Den l 0 0 ts ps f ∧ 0 ≤ S (c + 9) l ∧ S (c + 10) l = S (c + 9) l + (ps.length : Int) ∧ S (c + 10) l ≤ S (c + 6) 6 ∧ At (fun k => S (c + 11) k) (S (c + 9) l) ps ∧ 1000 * r ≤ G 327 (3 * r + l) ∧ G 328 (3 * r + l) = G 327 (3 * r + l) + (ts.length : Int) ∧ G 328 (3 * r + l) ≤ 1000 * r + 1000 ∧ At (fun k => G 329 k) (G 327 (3 * r + l)) ts)
def LawsR (S G : Mem) (c r : Int) (fs : Int → Law) : Prop := (0 ≤ S (c + 6) 6 ∧ S (c + 6) 6 ≤ 1000) ∧ ∀ l, 0 ≤ l → l < 3 → LawR S G c r l (fs l)
def EvC (c : Int) (G G' : Mem) : Prop := ∀ q k : Int, q ≠ c + 7 → q ≠ c + 12 → G' q k = G q k
def EvM (G G' : Mem) : Prop := ∀ q k : Int, ¬ (332 ≤ q ∧ q ≤ 341) → G' q k = G q k
theorem c_result {L l a : Int} {ts ps : List Int} {f : Law} (hL : Bs 3 L) (hl : 0 ≤ l ∧ l < 3) (hfa : ∀ j, allw a j → InR (G (L + 1) j)) (hD : Den a 0 0 ts ps f) (h0 : 0 ≤ G (L + 3) l) (h1 : G (L + 4) l = G (L + 3) l + (ps.length : Int)) (h2 : G (L + 4) l ≤ 1000) (hA : At (fun k => G (L + 5) k) (G (L + 3) l) ps)
    (h : ∀ G', (∀ q k : Int, q ≠ L + 6 → G' q k = G q k) → Q (f (fun j => G (L + 1) j)) G') : Ct (d + 1) M_X3_result NT 0 0 (some lay) [(2, L), (0, l)] G Q := by
  have hto : InR (G (L + 4) l) := by omega
  have hx : XD d Q L l G 0 0 ts ps f := X3_run hL hl hto hfa hD
  refine ctof (s_X3_result_0 hL ⟨hl, ?_⟩)
  refine hx.2 (by omega) (by omega) 0 (G (L + 3) l) G (by omega) (by omega) (fun _ _ _ => rfl) hA h0 (by omega) (by omega) (fun G' g1 _ g3 => ?_)
  have e4 : G' (L + 4) l = G (L + 4) l := g1 _ _ (by omega)
  refine s_X3_result_9 hL ⟨hl, by omega, by omega, fun _ => ?_, fun c => absurd (by omega) c⟩
  rw [g3]
  exact h G' g1
theorem c_worked {ln a : Int} {ts ps : List Int} {f : Law} (hln : 0 ≤ ln ∧ ln < 18) (hfa : ∀ j, allw a j → InR (G 341 (fcode j))) (hD : Den a 0 0 ts ps f) (h0 : 0 ≤ G 327 ln) (h1 : G 328 ln = G 327 ln + (ts.length : Int)) (h2 : G 328 ln ≤ 6000) (hA : At (fun k => G 329 k) (G 327 ln) ts)
    (h : ∀ G', WFr G G' → Q (f (fun j => G 341 (fcode j))) G') : Ct (d + 2) M_X12_worked NT 0 0 (some lay) [(2, 311), (0, ln)] G Q := by
  have hw : WPD d Q ln G 0 0 ts ps f := worked_all hln h2 hfa hD
  refine ctof (s_X12_worked_0 (c_opens (by omega) (fun G1 o3 o5 o6 o7 o9 of => ⟨hln, ?_⟩)))
  have e7 : G1 327 ln = G 327 ln := of _ _ (by omega)
  rw [e7]
  refine hw.2.2.2.2.2 rfl (by omega) (G 327 ln) G1 (fun q k hq => of q k (by omega)) hA h0 (by omega) (Or.inl rfl) o3 o5 o6 o7 o9 (fun G' g1 _ _ g7 g5 g4 g3 g2 gv => ?_)
  have e8 : G' 328 ln = G 328 ln := g1 _ _ (by omega)
  refine s_X12_worked_14 ⟨hln, by omega, by omega, fun _ => ?_, fun c => absurd (by omega) c⟩
  have g7 : G' 337 0 = 20 ∨ G' 337 0 = 21 := g7
  have g5 : G' 335 0 = 0 ∨ G' 335 0 = 24 ∨ G' 335 0 = 25 := g5
  have g3 : G' 333 0 = 0 ∨ G' 333 0 = 26 ∨ G' 333 0 = 27 := g3
  refine c_tests (by omega) (by omega) (by omega) g4 (by omega) g2 (fun G5 t2 _ _ _ _ tf => ?_)
  have gv' : keptV (G' 333 0) (G' 332 0) (tstV G' 0) = f fun j => G 341 (fcode j) := gv
  rw [t2, gv']
  exact h G5 (fun q k hq => by rw [tf _ _ (by omega)]; exact g1 q k hq)
theorem c_X1_bounded {v m : Int} (hv : InR v) (hm : 0 ≤ m ∧ m ≤ 10) (h : Q (max 0 (min m v)) G) : Ct (d + 1) M_X1_bounded NT 0 0 (some lay) [(0, v), (0, m)] G Q :=
  ctof (s_X1_bounded_0 ⟨by omega, hv, by omega, h⟩)
theorem c_X1_setSleeper {c b w t : Int} (hc : Bs 1 c) (hb : Bs 8 b) (hw : 0 ≤ w ∧ w < 5) (hk : SitOk G (c + 13 + w))
    (h : ∀ G', (∀ q k : Int, q ≠ c + 7 → G' q k = G q k) → (∀ gp sd ou j, (j = 0 ∨ j = 1 ∨ j = 2 ∨ j = 4 ∨ j = 5) → G' (c + 7) j = ev t (deepf G (c + 13 + w)) (legsf G (c + 13 + w)) (G (b + 7) (G (c + 13 + w) 1)) (G (b + 4) w) gp sd ou j) → Q 0 G') : Ct (d + 1) M_X1_setSleeper NT 0 0 (some lay) [(2, c), (2, b), (0, w), (0, t)] G Q := by
  have ha := st_cb_apart b hb.st c hc.cb
  have h3 := (ly_1_5 hc).2.2
  have h7 := (el_1_0 hc hw.1 hw.2).2.2
  obtain ⟨k0, k1, -, -, -, k5, k6, -, -⟩ := hk
  have z : c + 6 + 1 = c + 7 := by omega
  refine ctof (s_X1_setSleeper_0 hc hb ⟨hw, c_X3_setFact h3 (by omega) (c_X7_deep h7 ?_ ?_ (c_X3_setFact h3 (by omega) (c_X7_legsLong h7 ?_ (c_X3_setFact h3 (by omega) ⟨?_, c_X3_setFact h3 (by omega) (c_X3_setFact h3 (by omega) ?_)⟩))))⟩)
  · rw [z, st_nq _ _ _ _ (by omega)]; omega
  · rw [z, st_nq _ _ _ _ (by omega)]; omega
  · rw [z, st_nq _ _ _ _ (by omega), st_nq _ _ _ _ (by omega)]; omega
  · rw [z, st_nq _ _ _ _ (by omega), st_nq _ _ _ _ (by omega), st_nq _ _ _ _ (by omega)]; omega
  · have d1 : ∀ v i, deepf (st G (c + 7) i v) (c + 13 + w) = deepf G (c + 13 + w) := fun v i => by unfold deepf; simp (disch := omega) only [st_nq]
    have l1 : ∀ (G : Mem) v i, legsf (st G (c + 7) i v) (c + 13 + w) = legsf G (c + 13 + w) := fun G v i => by unfold legsf; simp (disch := omega) only [st_nq]
    rw [z]
    simp (disch := omega) only [st_nq, d1, l1, Int.reduceSub]
    refine h _ (fun q k hq => by simp (disch := omega) only [st_nq]) (fun gp sd ou j hj => ?_)
    unfold ev
    rcases hj with rfl | rfl | rfl | rfl | rfl <;> simp [st_same, st]
end EVAL
