noncomputable def pSit (t : Int → Int) (n : Int) (r : PR) : PR := bnd r (fun b D => pSitI t n (min (D 0 8) 4) (.inr (b, D)))
noncomputable def pGap (t : Int → Int) (n : Int) (r : PR) : PR := pN t n (fun _ => 5) (fun _ => 20) (fun _ => 0) (fun _ => 9) (pW t n 27 r)
noncomputable def pFei (t : Int → Int) (n : Int) (r : PR) : PR := pN t n (fun _ => 0) (fun _ => 10) (fun _ => 0) (fun _ => 10) (pW t n 12 r)
noncomputable def pItem (t : Int → Int) (n w : Int) (r : PR) : PR := if w = 2 then pSit t n r else if w = 26 then pCup t n r else if w = 9 ∨ w = 10 then pShut t n w r else if w = 27 then pGap t n r else if w = 11 then pPr t n 4 (pW t n 11 r) else if w = 12 then pFei t n r else if w = 13 then pLaw t n 0 r else if w = 14 then pLaw t n 1 r else if w = 15 then pLaw t n 2 r else pF 1 r
def wdO (t : Int → Int) (n b : Int) : Int := if tkd t n b = 2 then widx (twd t n b) else -1
noncomputable def pMain (t : Int → Int) (n : Int) : Nat → PR → PR
  | 0, r => r
  | k + 1, r => bnd r (fun b D => if tkd t n b = 0 then .inr (b, D) else pMain t n k (pS t n 59 (pItem t n (wdO t n b) (pT (wdO t n b) (.inr (b, D))))))
section MAIN
variable {d : Nat} {G G' G0 : Mem} {Q : Int → Mem → Prop} {t : Int → Int} {n b K cc l : Int} {D : Mem} {r : PR}
theorem pMain_l {k : Nat} {e : Int} : pMain t n k (.inl e) = .inl e := by
  cases k with
  | zero => rfl
  | succ k => rfl
theorem c_sitterX (hO : TpO t n) (hX : RdX K cc t n G0 r G) (h : ∀ G2, RdX K cc t n G0 (pSit t n r) G2 → Q 0 G2) : Ct (d + 8) M_X5_readSitter NT 0 0 (some lay) [(2, 3)] G Q := by
  refine c_sitter hO hX (fun G2 h2 => h G2 ?_)
  rcases pr_cases r with ⟨e, rfl⟩ | ⟨b, D, rfl⟩
  · exact h2
  · have s8 := hX.inr.2.2.2.1.1 0 8 (by omega) (by omega)
    rw [Int.add_zero] at s8
    have e : pSit t n (.inr (b, D)) = pSitI t n (min (D 0 8) 4) (.inr (b, D)) := rfl
    rw [e, ← s8]
    exact h2
theorem c_item {w : Int} {Y : Mem → Prop} (hO : TpO t n) (hX : RdX K cc t n G0 r G) (h : ∀ G2, RdX K cc t n G0 (pItem t n w r) G2 → Y G2) :
    (w = 2 → Ct (d + 45) M_X5_readSitter NT 0 0 (some lay) [(2, 3)] G (fun _ G2 => Y G2)) ∧ (w = 26 → Ct (d + 45) M_X5_readCup NT 0 0 (some lay) [(2, 3)] G (fun _ G2 => Y G2)) ∧ (w = 9 ∨ w = 10 → Ct (d + 45) M_X5_readShut NT 0 0 (some lay) [(2, 3), (0, w)] G (fun _ G2 => Y G2)) ∧ (w = 11 → Ct (d + 45) M_X5_readPrices NT 0 0 (some lay) [(2, 3)] G (fun _ G2 => Y G2)) ∧
    (w = 13 → Ct (d + 45) M_X5_readLaw NT 0 0 (some lay) [(2, 3), (0, 0)] G (fun _ G2 => Y G2)) ∧ (w = 14 → Ct (d + 45) M_X5_readLaw NT 0 0 (some lay) [(2, 3), (0, 1)] G (fun _ G2 => Y G2)) ∧ (w = 15 → Ct (d + 45) M_X5_readLaw NT 0 0 (some lay) [(2, 3), (0, 2)] G (fun _ G2 => Y G2)) ∧
    (w = 12 → Ct (d + 45) M_X5_readWord NT 0 0 (some lay) [(2, 3), (0, w)] G (fun _ G28 => ∀ b30 : Int, b30 = G28 3 3 → (Bs 1 b30 ∧ Ct (d + 45) M_X5_readNumber NT 0 0 (some lay) [(2, 3), (0, 0), (0, 10)] G28 (fun r34 G33 => ∀ G35, G35 = st G33 b30 10 r34 → Y G35)))) ∧
    (w = 27 → Ct (d + 45) M_X5_readWord NT 0 0 (some lay) [(2, 3), (0, w)] G (fun _ G28 => ∀ b30 : Int, b30 = G28 3 3 → (Bs 1 b30 ∧ Ct (d + 45) M_X5_readNumber NT 0 0 (some lay) [(2, 3), (0, 5), (0, 20)] G28 (fun r34 G33 => ∀ G35, G35 = st G33 b30 9 r34 → Y G35)))) ∧
    (¬ (w = 2 ∨ w = 26 ∨ w = 9 ∨ w = 10 ∨ w = 27 ∨ w = 11 ∨ w = 12 ∨ w = 13 ∨ w = 14 ∨ w = 15) → Ct (d + 45) M_X5_wrong NT 0 0 (some lay) [(2, 3), (0, 1)] G (fun _ G2 => Y G2)) := by
  unfold pItem at h
  refine ⟨fun e => ?_, fun e => ?_, fun e => ?_, fun e => ?_, fun e => ?_, fun e => ?_, fun e => ?_, fun e => ?_, fun e => ?_, fun e => ?_⟩
  · rw [if_pos e] at h
    exact c_sitterX (d := d + 37) hO hX h
  · rw [if_neg (by omega), if_pos e] at h
    exact c_cup (d := d + 37) hO hX h
  · rw [if_neg (by omega), if_neg (by omega), if_pos e] at h
    exact c_shut (d := d + 38) hO (by omega) hX h
  · rw [if_neg (by omega), if_neg (by omega), if_neg (by omega), if_neg (by omega), if_pos e] at h
    exact c_prices (d := d + 38) hO hX h
  · rw [if_neg (by omega), if_neg (by omega), if_neg (by omega), if_neg (by omega), if_neg (by omega), if_neg (by omega), if_pos e] at h
    exact c_lawX (d := d) hO (by omega) hX h
  · rw [if_neg (by omega), if_neg (by omega), if_neg (by omega), if_neg (by omega), if_neg (by omega), if_neg (by omega), if_neg (by omega), if_pos e] at h
    exact c_lawX (d := d) hO (by omega) hX h
  · rw [if_neg (by omega), if_neg (by omega), if_neg (by omega), if_neg (by omega), if_neg (by omega), if_neg (by omega), if_neg (by omega), if_neg (by omega), if_pos e] at h
    exact c_lawX (d := d) hO (by omega) hX h
  · rw [if_neg (by omega), if_neg (by omega), if_neg (by omega), if_neg (by omega), if_neg (by omega), if_pos e] at h
    subst e
    refine c_rdWord (d := d + 39) hO hX (by omega) (fun G28 h28 b30 e30 => ?_)
    rw [h28.1.2.2.2.1] at e30
    subst e30
    exact ⟨h28.1.1, c_num (d := d + 39) (lo := fun _ => 0) (hi := fun _ => 10) (q := fun _ => 0) (k := fun _ => 10) (q0 := 0) hO h28 (by omega) (by omega) (by omega) (by omega) (fun _ _ _ => ⟨rfl, rfl, by decide, by decide⟩) (fun _ _ _ _ => ⟨rfl, rfl⟩) (fun _ _ v _ v0 v1 hd => dok_0 (dok_st hd (by decide)) (Or.inr (Or.inr (Or.inr ⟨rfl, v0, v1⟩)))) h⟩
  · rw [if_neg (by omega), if_neg (by omega), if_neg (by omega), if_pos e] at h
    subst e
    refine c_rdWord (d := d + 39) hO hX (by omega) (fun G28 h28 b30 e30 => ?_)
    rw [h28.1.2.2.2.1] at e30
    subst e30
    exact ⟨h28.1.1, c_num (d := d + 39) (lo := fun _ => 5) (hi := fun _ => 20) (q := fun _ => 0) (k := fun _ => 9) (q0 := 0) hO h28 (by omega) (by omega) (by omega) (by omega) (fun _ _ _ => ⟨rfl, rfl, by decide, by decide⟩) (fun _ _ _ _ => ⟨rfl, rfl⟩) (fun _ _ v _ v0 v1 hd => dok_0 (dok_st hd (by decide)) (Or.inr (Or.inr (Or.inl ⟨rfl, v0, v1⟩)))) h⟩
  · rw [if_neg (by omega), if_neg (by omega), if_neg (by omega), if_neg (by omega), if_neg (by omega), if_neg (by omega), if_neg (by omega), if_neg (by omega), if_neg (by omega)] at h
    exact c_wrongX hX hO.1.2 (by omega) h
theorem c_mainX (hO : TpO t n) : ∀ (k i : Nat) (r : PR) (G : Mem), i + k = 1000 → RdX (i : Int) cc t n G0 r G → (∀ K G2, RdX K cc t n G0 (pMain t n k r) G2 → Q (G2 3 4) G2) → Rn (d + 46) M_X5_read zN 43 [(0, (2, 3)), (3, (0, (i : Int)))] [] G Q := by
  intro k
  induction k with
  | zero =>
    intro i r G hi hX h
    exact s_X5_read_43 ⟨by omega, fun _ => h _ G hX, fun x => absurd (by omega) x⟩
  | succ k ih =>
    intro i r G hi hX h
    refine s_X5_read_43 ⟨by omega, fun x => absurd x (by omega), fun _ => ⟨hX.f34, fun x => ?_, fun x => ?_⟩⟩
    · rcases pr_cases r with ⟨e, rfl⟩ | ⟨b, D, rfl⟩
      · exact h _ G hX
      · exact absurd hX.inr.1 x
    · rcases pr_cases r with ⟨e, rfl⟩ | ⟨b, D, rfl⟩
      · exact absurd (show G 3 4 ≠ 0 by rw [hX.inl.1]; exact hX.inl.2.1) x
      · obtain ⟨a, a0, ak, ac, ad⟩ := hX.inr
        have kr := tkd_r (t := t) (n := n) (b := b)
        have wi := widx_in (twd t n b)
        have e0 : pMain t n (k + 1) (.inr (b, D)) = if tkd t n b = 0 then .inr (b, D) else pMain t n k (pS t n 59 (pItem t n (wdO t n b) (pT (wdO t n b) (.inr (b, D))))) := rfl
        rw [e0] at h
        rw [ak.2.2.1]
        have L89 : ∀ w, w = wdO t n b → InR w → tkd t n b ≠ 0 → Rn (d + 46) M_X5_read zN 89 [(0, (2, 3)), (3, (0, (i : Int)))] [(0, w)] G Q := fun w ew iw k0 => by
          rw [if_neg k0, ← ew] at h
          have nx : ∀ G5, RdX ((i : Int) + 1) cc t n G0 (pItem t n w (pT w (.inr (b, D)))) G5 → Rn (d + 46) M_X5_read zN 330 [(0, (2, 3)), (3, (0, (i : Int)))] [] G5 Q := fun G5 h5 => by
            refine s_X5_read_330 (c_rdSign (d := d + 39) hO h5 (by decide) (fun G6 h6 => ?_))
            rw [show (i : Int) + 1 = ((i + 1 : Nat) : Int) by omega] at h6 ⊢
            exact ih (i + 1) _ G6 (by omega) h6 h
          refine s_X5_read_89 (c_times (d := d + 44) hO (by omega) hX iw (fun G1 h1 => ?_))
          obtain ⟨i2, i26, i9, i11, i13, i14, i15, i12, i27, iw1⟩ := c_item (d := d) (w := w) (Y := fun G5 => Rn (d + 46) M_X5_read zN 330 [(0, (2, 3)), (3, (0, (i : Int)))] [] G5 Q) hO h1 nx
          exact ⟨iw, fun y => iw1 (by omega), i2, fun y => iw1 (by omega), fun y => iw1 (by omega), fun y => iw1 (by omega), fun y => iw1 (by omega), fun y => iw1 (by omega), fun y => iw1 (by omega), fun y => i9 (Or.inl y), fun y => i9 (Or.inr y), i11, i12, i13, i14, i15, fun y => iw1 (by omega), fun y => iw1 (by omega), fun y => iw1 (by omega), fun y => iw1 (by omega), fun y => iw1 (by omega), fun y => iw1 (by omega), fun y => iw1 (by omega), fun y => iw1 (by omega), fun y => iw1 (by omega), fun y => iw1 (by omega), i26, i27⟩
        refine ⟨hX.1.2.2.1, by omega, fun y => ?_, fun y => ⟨fun z => L89 (-1) (by unfold wdO; rw [if_neg z]) (by decide) y, fun z => ?_⟩⟩
        · rw [if_pos y] at h
          exact h _ G hX
        · have k2 : tkd t n b = 2 := by omega
          rw [(ak.2.2.2.1 k2).1]
          exact L89 _ (by unfold wdO; rw [if_pos k2]) (by omega) y
end MAIN
