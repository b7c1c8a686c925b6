section MKEPT
variable {d : Nat} {G G' : Mem} {Q : Int → Mem → Prop} {t : Int → Int} {n b : Int} {D : Mem}
theorem c_isKept (hm : MdX t n b G) (h1 : tkd t n b ≠ 2 ∨ (0 ≤ widx (twd t n b) ∧ widx (twd t n b) < 28) → Q 1 G) (h0 : ¬ (tkd t n b ≠ 2 ∨ (0 ≤ widx (twd t n b) ∧ widx (twd t n b) < 28)) → Q 0 G) : Ct d M_X12_isKept NT 0 0 (some lay) [(2, 311)] G Q := by
  have r := mkd_iff (tkd_r (t := t) (n := n) (b := b))
  refine ctof (s_X12_isKept_0 ?_)
  rw [hm.2.2.2.2.1]
  refine ⟨by omega, fun x => ?_, fun x => h1 (Or.inl (fun z => by omega))⟩
  have k2 : tkd t n b = 2 := by omega
  have ok := twd_ok k2
  have b1 := fR_in (B := 27) (by decide) _ ok.1
  have b2 := pow8 ok.2
  rw [hm.2.2.2.2.2.1 k2]
  have yes : ∀ (w : Nat) (c : Int), w < 28 → fR 27 ((vocF.getD w []).reverse) = c → fR 27 (twd t n b) = c → Q 1 G := fun w c hw hc e => by
    have z := (isW_num (t := t) (n := n) (b := b) (w := w) (by omega) hc).mpr ⟨k2, e⟩
    exact h1 (Or.inr (by rw [z.2]; omega))
  have no : ∀ (w : Nat) (c : Int), w < 28 → fR 27 ((vocF.getD w []).reverse) = c → ¬ fR 27 (twd t n b) = c → ¬ isW t n (w : Int) b := fun w c hw hc e z => e ((isW_num (t := t) (n := n) (b := b) (w := w) (by omega) hc).mp z).2
  refine ⟨by omega, fun y => yes 0 _ (by decide) (by decide) y, fun e0 => ⟨fun y => yes 1 _ (by decide) (by decide) y, fun e1 => ⟨fun y => yes 2 _ (by decide) (by decide) y, fun e2 => ⟨fun y => yes 3 _ (by decide) (by decide) y, fun e3 => ⟨fun y => yes 4 _ (by decide) (by decide) y, fun e4 => ⟨fun y => yes 5 _ (by decide) (by decide) y, fun e5 => ⟨fun y => yes 6 _ (by decide) (by decide) y, fun e6 => ⟨fun y => yes 24 _ (by decide) (by decide) y, fun e24 => ⟨fun y => yes 25 _ (by decide) (by decide) y, fun e25 => ⟨fun y => yes 7 _ (by decide) (by decide) y, fun e7 => ⟨fun y => yes 8 _ (by decide) (by decide) y, fun e8 => ⟨fun y => yes 26 _ (by decide) (by decide) y, fun e26 => ⟨fun y => yes 9 _ (by decide) (by decide) y, fun e9 => ⟨fun y => yes 10 _ (by decide) (by decide) y, fun e10 => ⟨fun y => yes 27 _ (by decide) (by decide) y, fun e27 => ⟨fun y => yes 11 _ (by decide) (by decide) y, fun e11 => ⟨fun y => yes 12 _ (by decide) (by decide) y, fun e12 => ⟨fun y => yes 13 _ (by decide) (by decide) y, fun e13 => ⟨fun y => yes 14 _ (by decide) (by decide) y, fun e14 => ⟨fun y => yes 15 _ (by decide) (by decide) y, fun e15 => ⟨fun y => yes 16 _ (by decide) (by decide) y, fun e16 => ⟨fun y => yes 17 _ (by decide) (by decide) y, fun e17 => ⟨fun y => yes 18 _ (by decide) (by decide) y, fun e18 => ⟨fun y => yes 19 _ (by decide) (by decide) y, fun e19 => ⟨fun y => yes 20 _ (by decide) (by decide) y, fun e20 => ⟨fun y => yes 21 _ (by decide) (by decide) y, fun e21 => ⟨fun y => yes 22 _ (by decide) (by decide) y, fun e22 => ⟨fun e23 => h0 (fun z => ?_), fun y => yes 23 _ (by decide) (by decide) (Decidable.not_not.mp y)⟩⟩⟩⟩⟩⟩⟩⟩⟩⟩⟩⟩⟩⟩⟩⟩⟩⟩⟩⟩⟩⟩⟩⟩⟩⟩⟩⟩
  rcases z with z | z
  · exact z k2
  · obtain ⟨w, hw⟩ := Int.eq_ofNat_of_zero_le z.1
    have iw : isW t n (w : Int) b := ⟨k2, hw⟩
    have w28 : w < 28 := by omega
    have hc : w = 0 ∨ w = 1 ∨ w = 2 ∨ w = 3 ∨ w = 4 ∨ w = 5 ∨ w = 6 ∨ w = 7 ∨ w = 8 ∨ w = 9 ∨ w = 10 ∨ w = 11 ∨ w = 12 ∨ w = 13 ∨ w = 14 ∨ w = 15 ∨ w = 16 ∨ w = 17 ∨ w = 18 ∨ w = 19 ∨ w = 20 ∨ w = 21 ∨ w = 22 ∨ w = 23 ∨ w = 24 ∨ w = 25 ∨ w = 26 ∨ w = 27 := by omega
    rcases hc with rfl | rfl | rfl | rfl | rfl | rfl | rfl | rfl | rfl | rfl | rfl | rfl | rfl | rfl | rfl | rfl | rfl | rfl | rfl | rfl | rfl | rfl | rfl | rfl | rfl | rfl | rfl | rfl
    · exact no 0 _ (by decide) (by decide) e0 iw
    · exact no 1 _ (by decide) (by decide) e1 iw
    · exact no 2 _ (by decide) (by decide) e2 iw
    · exact no 3 _ (by decide) (by decide) e3 iw
    · exact no 4 _ (by decide) (by decide) e4 iw
    · exact no 5 _ (by decide) (by decide) e5 iw
    · exact no 6 _ (by decide) (by decide) e6 iw
    · exact no 7 _ (by decide) (by decide) e7 iw
    · exact no 8 _ (by decide) (by decide) e8 iw
    · exact no 9 _ (by decide) (by decide) e9 iw
    · exact no 10 _ (by decide) (by decide) e10 iw
    · exact no 11 _ (by decide) (by decide) e11 iw
    · exact no 12 _ (by decide) (by decide) e12 iw
    · exact no 13 _ (by decide) (by decide) e13 iw
    · exact no 14 _ (by decide) (by decide) e14 iw
    · exact no 15 _ (by decide) (by decide) e15 iw
    · exact no 16 _ (by decide) (by decide) e16 iw
    · exact no 17 _ (by decide) (by decide) e17 iw
    · exact no 18 _ (by decide) (by decide) e18 iw
    · exact no 19 _ (by decide) (by decide) e19 iw
    · exact no 20 _ (by decide) (by decide) e20 iw
    · exact no 21 _ (by decide) (by decide) e21 iw
    · exact no 22 _ (by decide) (by decide) e22 iw
    · exact no 23 _ (by decide) (by decide) e23 iw
    · exact no 24 _ (by decide) (by decide) e24 iw
    · exact no 25 _ (by decide) (by decide) e25 iw
    · exact no 26 _ (by decide) (by decide) e26 iw
    · exact no 27 _ (by decide) (by decide) e27 iw
theorem c_kindAt (hm : MdX t n b G) (h1 : tkd t n b = 2 → 16 ≤ widx (twd t n b) → widx (twd t n b) ≤ 20 → Q (widx (twd t n b) - 16) G) (h0 : (tkd t n b ≠ 2 ∨ widx (twd t n b) < 16 ∨ 20 < widx (twd t n b)) → Q (-1) G) : Ct (d + 1) M_X12_kindAt NT 0 0 (some lay) [(2, 311)] G Q := by
  have yes : ∀ (w : Nat) (c : Int), 16 ≤ w ∧ w ≤ 20 → fR 27 ((vocF.getD w []).reverse) = c → tkd t n b = 2 → fR 27 (twd t n b) = c → Q ((w : Int) - 16) G := fun w c hw hc k2 e => by
    have z := (isW_num (t := t) (n := n) (b := b) (w := w) (by omega) hc).mpr ⟨k2, e⟩
    have g := h1 k2 (by rw [z.2]; omega) (by rw [z.2]; omega)
    rwa [z.2] at g
  have no : ∀ (w : Nat) (c : Int), 16 ≤ w ∧ w ≤ 20 → fR 27 ((vocF.getD w []).reverse) = c → ¬ (tkd t n b = 2 ∧ fR 27 (twd t n b) = c) → ¬ isW t n (w : Int) b := fun w c hw hc e z => e ((isW_num (t := t) (n := n) (b := b) (w := w) (by omega) hc).mp z)
  refine ctof (s_X12_kindAt_0 ?_)
  refine c_isWord hm.2.2 (by decide) (fun k2 e => ⟨by decide, fun z => absurd z (by decide), fun _ => yes 16 _ (by decide) (by decide) k2 e⟩) (fun e16 => ⟨by decide, fun _ => c_isWord hm.2.2 (by decide) (fun k2 e => ⟨by decide, fun z => absurd z (by decide), fun _ => yes 17 _ (by decide) (by decide) k2 e⟩) (fun e17 => ⟨by decide, fun _ => c_isWord hm.2.2 (by decide) (fun k2 e => ⟨by decide, fun z => absurd z (by decide), fun _ => yes 18 _ (by decide) (by decide) k2 e⟩) (fun e18 => ⟨by decide, fun _ => c_isWord hm.2.2 (by decide) (fun k2 e => ⟨by decide, fun z => absurd z (by decide), fun _ => yes 19 _ (by decide) (by decide) k2 e⟩) (fun e19 => ⟨by decide, fun _ => c_isWord hm.2.2 (by decide) (fun k2 e => ⟨by decide, fun z => absurd z (by decide), fun _ => yes 20 _ (by decide) (by decide) k2 e⟩) (fun e20 => ⟨by decide, fun _ => h0 ?_, fun z => absurd rfl z⟩), fun z => absurd rfl z⟩), fun z => absurd rfl z⟩), fun z => absurd rfl z⟩), fun z => absurd rfl z⟩)
  by_cases k2 : tkd t n b = 2
  · refine Or.inr ?_
    by_cases c : 16 ≤ widx (twd t n b) ∧ widx (twd t n b) ≤ 20
    · exfalso
      obtain ⟨w, hw⟩ := Int.eq_ofNat_of_zero_le (show 0 ≤ widx (twd t n b) by omega)
      have iw : isW t n (w : Int) b := ⟨k2, hw⟩
      have hc : w = 16 ∨ w = 17 ∨ w = 18 ∨ w = 19 ∨ w = 20 := by omega
      rcases hc with rfl | rfl | rfl | rfl | rfl
      · exact no 16 _ (by decide) (by decide) e16 iw
      · exact no 17 _ (by decide) (by decide) e17 iw
      · exact no 18 _ (by decide) (by decide) e18 iw
      · exact no 19 _ (by decide) (by decide) e19 iw
      · exact no 20 _ (by decide) (by decide) e20 iw
    · omega
  · exact Or.inl k2
end MKEPT
