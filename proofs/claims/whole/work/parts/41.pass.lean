section PASS
variable {d : Nat} {S G H : Mem} {Q : Int → Mem → Prop} {c : Int}
theorem andI_in (a b : Int) : InR (andI a b) := ⟨Int32.le_toInt _, Int32.toInt_lt _⟩
def spillG (S : Mem) (b w p : Int) : Mem := wakeG (st (st (st S (b + 5) w (S (b + 5) w + 1)) b 10 (S b 10 + 1)) (b + 7) p 0) b w
theorem c_X8_spillOn {b w p : Int} (hb : Bs 8 b) (hw : 0 ≤ w ∧ w < 5) (hp : 0 ≤ p ∧ p < 5) (h : Q 0 (spillG G b w p)) : Ct (d + 1) M_X8_spillOn NT 0 0 (some lay) [(2, b), (0, w), (0, p)] G Q := by
  refine ctof (s_X8_spillOn_0 hb ⟨hw, fun G2 e2 G3 e3 => ⟨hp, fun G5 e5 => c_X8_wake hb hw ?_⟩⟩)
  have e : G2 b 10 = G b 10 := by rw [e2, st_nq _ _ _ _ (by omega)]
  rw [e5, e3, e, e2]
  exact h
/-! past one in a seat: the state behind it, and whether one comes by -/
def cbM (S : Mem) (c w p y l : Int) : Mem := if aslp S 73 c w (S 73 7) then (if y = 0 then askG S 73 w l else if l = 0 then spillG S 73 w p else S) else S
def cbA (S : Mem) (c w y l : Int) : Int := if aslp S 73 c w (S 73 7) ∧ y = 0 then l else 1
theorem cbA_01 {w y l : Int} (hl : l = 0 ∨ l = 1) : cbA S c w y l = 0 ∨ cbA S c w y l = 1 := by
  unfold cbA
  split <;> omega
theorem wakeG_fr {b w : Int} {q k : Int} (h : ¬ (b ≤ q ∧ q < b + 8)) : wakeG S b w q k = S q k := by
  unfold wakeG
  rw [st_nq _ _ _ _ (by omega), st_nq _ _ _ _ (by omega)]
theorem askG_fr {b w l : Int} {q k : Int} (h : ¬ (b ≤ q ∧ q < b + 8)) : askG S b w l q k = S q k := by
  unfold askG
  split
  · rw [st_nq _ _ _ _ (by omega), st_nq _ _ _ _ (by omega)]
  · rw [wakeG_fr h, st_nq _ _ _ _ (by omega)]
theorem spillG_fr {b w p : Int} {q k : Int} (h : ¬ (b ≤ q ∧ q < b + 8)) : spillG S b w p q k = S q k := by
  unfold spillG
  rw [wakeG_fr h, st_nq _ _ _ _ (by omega), st_nq _ _ _ _ (by omega), st_nq _ _ _ _ (by omega)]
theorem cbM_fr {w p y l : Int} {q k : Int} (h : ¬ (73 ≤ q ∧ q < 81)) : cbM S c w p y l q k = S q k := by
  unfold cbM
  repeat' split
  · exact askG_fr h
  · exact spillG_fr h
  · rfl
  · rfl
/-- every place of the state behind an asking -/
theorem askG_at {w l q k : Int} : askG S 73 w l q k = if l = 0 then (if q = 77 ∧ k = w then S 77 w + 1 else if q = 73 ∧ k = 9 then S 73 9 + 1 else S q k) else (if q = 77 ∧ k = w then S 77 w + 1 else if q = 76 ∧ k = w then S 73 7 else if q = 73 ∧ k = 8 then S 73 8 + 1 else S q k) := by
  unfold askG wakeG
  simp only [show (73 : Int) + 4 = 77 from rfl, show (73 : Int) + 3 = 76 from rfl, st]
  by_cases hl : l = 0
  · simp only [hl, if_true, st]
    repeat' split
    all_goals first | rfl | omega
  · simp only [hl, if_false, st]
    simp only [show ¬ (73 : Int) = 77 from by decide, false_and, if_false]
    repeat' split
    all_goals first | rfl | omega
theorem spillG_at {w p q k : Int} : spillG S 73 w p q k = if q = 78 ∧ k = w then S 78 w + 1 else if q = 73 ∧ k = 10 then S 73 10 + 1 else if q = 80 ∧ k = p then 0 else if q = 76 ∧ k = w then S 73 7 else if q = 73 ∧ k = 8 then S 73 8 + 1 else S q k := by
  unfold spillG wakeG
  simp only [show (73 : Int) + 5 = 78 from rfl, show (73 : Int) + 7 = 80 from rfl, show (73 : Int) + 3 = 76 from rfl, st]
  simp only [show ¬ (73 : Int) = 78 from by decide, show ¬ (73 : Int) = 80 from by decide, show ¬ (7 : Int) = 10 from by decide, show ¬ (8 : Int) = 10 from by decide, false_and, and_false, if_false]
  repeat' split
  all_goals first | rfl | omega
theorem askG_ok {w l : Int} (h : StOk S 73) : StOk (askG S 73 w l) 73 ∧ askG S 73 w l 73 7 = S 73 7 := by
  have t : askG S 73 w l 73 7 = S 73 7 := by rw [askG_at]; simp
  refine ⟨⟨by rw [t]; exact h.1, fun i i0 i5 => ?_⟩, t⟩
  have x := h.2 i i0 i5
  have y := h.1
  unfold RwOk at x ⊢
  simp only [Int.reduceAdd, askG_at] at x ⊢
  simp only [show ¬ (74 : Int) = 77 from by decide, show ¬ (74 : Int) = 73 from by decide, show ¬ (74 : Int) = 76 from by decide, show ¬ (75 : Int) = 77 from by decide, show ¬ (75 : Int) = 73 from by decide, show ¬ (75 : Int) = 76 from by decide, show ¬ (76 : Int) = 77 from by decide, show ¬ (76 : Int) = 73 from by decide, show ¬ (80 : Int) = 77 from by decide, show ¬ (80 : Int) = 73 from by decide, show ¬ (80 : Int) = 76 from by decide, false_and, if_false, true_and]
  refine ⟨by split <;> omega, by split <;> omega, ?_, by split <;> omega, by split <;> omega⟩
  repeat' split
  all_goals omega
theorem spillG_ok {w p : Int} (h : StOk S 73) : StOk (spillG S 73 w p) 73 ∧ spillG S 73 w p 73 7 = S 73 7 := by
  have t : spillG S 73 w p 73 7 = S 73 7 := by rw [spillG_at]; simp
  refine ⟨⟨by rw [t]; exact h.1, fun i i0 i5 => ?_⟩, t⟩
  have x := h.2 i i0 i5
  have y := h.1
  unfold RwOk at x ⊢
  simp only [Int.reduceAdd, spillG_at] at x ⊢
  simp only [show ¬ (74 : Int) = 78 from by decide, show ¬ (74 : Int) = 73 from by decide, show ¬ (74 : Int) = 76 from by decide, show ¬ (74 : Int) = 80 from by decide, show ¬ (75 : Int) = 78 from by decide, show ¬ (75 : Int) = 80 from by decide, show ¬ (75 : Int) = 73 from by decide, show ¬ (75 : Int) = 76 from by decide, show ¬ (76 : Int) = 78 from by decide, show ¬ (76 : Int) = 80 from by decide, show ¬ (76 : Int) = 73 from by decide, show ¬ (80 : Int) = 78 from by decide, show ¬ (80 : Int) = 73 from by decide, show ¬ (80 : Int) = 76 from by decide, false_and, if_false, true_and]
  refine ⟨by omega, by omega, ?_, ?_, by omega⟩
  · split <;> omega
  · split <;> omega
theorem cbM_ok {w p y l : Int} (h : StOk S 73) : StOk (cbM S c w p y l) 73 ∧ cbM S c w p y l 73 7 = S 73 7 := by
  unfold cbM
  repeat' split
  · exact askG_ok h
  · exact spillG_ok h
  · exact ⟨h, rfl⟩
  · exact ⟨h, rfl⟩
theorem CorC.of_st {S' : Mem} (hb : Bs 1 c) (h : ∀ q k : Int, ¬ (73 ≤ q ∧ q < 81) → S' q k = S q k) : CorC c S S' := by
  have a := st_cb_apart 73 (by decide) c hb.cb
  exact fun q k q0 q1 _ _ => h q k (by omega)
/-! the class's seat -/
theorem c_passSeat {p w l : Int} (hC : Cls G c) (hp : 0 ≤ p ∧ p < 5) (hw : 0 ≤ w ∧ w ≤ 2147483647) (h1 : G (c + 2) p < 0 → Q 1 G) (h : 0 ≤ G (c + 2) p → Q (cbA G c (G (c + 2) p) (dg w p) (bitL l p)) (cbM G c (G (c + 2) p) p (dg w p) (bitL l p))) : Ct (d + 2) M_X11_passSeat NT 0 0 (some lay) [(2, 0), (0, p), (0, w), (0, l)] G Q := by
  have hc := hC.1
  have hb := hC.2.1
  have r := hC.rng
  have o := hC.on hp.1 hp.2
  have b8 : Bs 8 73 := by unfold Bs; decide +kernel
  have t := hC.tick
  refine ctof (s_X11_passSeat_0 (fun b hb1 => ?_))
  rw [hc] at hb1
  subst hb1
  refine ⟨hb, hp, c_X11_known hC (by omega) (fun q => ⟨by omega, fun x => absurd x (by decide), fun _ b9 h9 => ?_⟩) (fun q => ⟨by omega, fun _ => h1 (by omega), fun x => absurd rfl x⟩)⟩
  rw [hc] at h9
  subst h9
  have h := h q.1
  have so := hC.sok q.1 q.2
  have ro := hC.rok (i := G (b9 + 2) p) (by omega) (by omega)
  have s7 := so.2.2.2.2.2.2.2
  refine ⟨hb, c_X8_asleep b8 hb (by omega) (show InR (G 75 _) by omega) (by omega) (by omega) (by omega) (show InR (_ - G 76 _) by omega) (fun ha => ⟨by omega, fun _ => ?_, fun x => absurd (show (1 : Int) ≠ 0 by decide) x⟩) (fun ha => ⟨by omega, fun x => absurd rfl x, fun _ => ?_⟩)⟩
  · have dq := dg_q (p := p) (by omega) hw
    unfold cbA cbM at h
    rw [if_pos ha] at h
    have fin : ∀ s, s = bitL l p → Rn (d + 2) M_X11_passSeat zN 59 [(0, (2, 0)), (1, (0, p)), (2, (0, w)), (4, (0, G (b9 + 2) p))] [(0, s)] G Q := by
      intro s hs
      have h01 := bitL_01 l p
      rw [← hs] at h h01
      refine s_X11_passSeat_59 (c_X0_wayAt (by omega) hw ⟨by omega, fun hy => ⟨by omega, fun hs1 => ?_, fun hs1 => ?_⟩, fun hy => ?_⟩)
      · rw [if_neg (fun x => hy x.2), if_neg hy, if_neg hs1] at h
        exact h
      · rw [if_neg (fun x => hy x.2), if_neg hy, if_pos (by omega)] at h
        exact c_X8_spillOn b8 (by omega) hp h
      · rw [if_pos ⟨ha, by omega⟩, if_pos (by omega)] at h
        exact c_X8_ask b8 (by omega) h01 ⟨h01, h⟩
    refine ⟨andI_in _ _, fun x => fin 0 ?_, fun x => fin 1 ?_⟩
    · unfold bitL; rw [if_neg x]
    · unfold bitL; rw [if_pos (Decidable.not_not.mp x)]
  · unfold cbA cbM at h
    rw [if_neg (fun x => ha x.1), if_neg ha] at h
    exact h
end PASS
