section COUNT
variable {d : Nat} {S S' G G' H : Mem} {Q : Int → Mem → Prop} {c : Int} {fs : Int → Law}
def cntV (S : Mem) (c w : Int) : Int := if w < 0 ∨ 11 < w then -1 else if w = 0 then S c 6 else if w = 1 then S c 7 else if w = 2 then S c 8 else if w = 3 then S 73 7 else if w = 4 then S 73 8 else if w = 5 then S 73 9 else if w = 6 then S 73 10 else if w = 7 then S 73 11 else if w = 8 then cupsf S 73 else if w = 9 then S c 9 else if w = 10 then S 0 16 else S 1 1
theorem t_count {w : Int} (hI : Inv0 G G c fs) (iw : InR w) : Ct (d + 1) M_X11_count NT 0 0 (some lay) [(2, 0), (0, w)] G (fun v G1 => Ct (d + 1) M_X12_count NT 0 0 (some lay) [(2, 311), (0, w)] G1 (Ok2 c fs G v)) := by
  have hC := hI.cls
  have r := hC.rng
  have hc := hC.1
  have m : ∀ v, v = cntV G c w → Ct (d + 1) M_X12_count NT 0 0 (some lay) [(2, 311), (0, w)] G (Ok2 c fs G v) := by
    intro v hv
    refine ctof (s_X12_count_0 (fun G1 e1 => ?_))
    have f1 : ThF G G1 := by rw [e1]; exact ThF.st
    have hR := f1.cu hI.2.1
    have ok : Ok2 c fs G v v G1 := hI.ok ClF.rfl' f1.ml
    have nm := hR.nums
    have se := hR.seats
    have d46 : G1 311 46 = G 0 16 := by rw [f1 _ _ (by omega)]; exact hI.2.2.2.1.2.2.1
    have d1 : G1 311 1 = G 1 1 := by rw [f1 _ _ (by omega)]; exact hI.2.2.2.2.2.2.2.1
    have fin : ∀ u, u = cntV G c w → Ok2 c fs G v u G1 := fun u hu => by rw [hu, ← hv]; exact ok
    unfold cntV at fin
    refine c_within iw (by omega) (by omega) (fun q => ⟨by omega, fun _ => ⟨iw, fun x4 => ⟨fun x8 => ?_, fun x8 => ⟨by omega, fin _ ?_⟩⟩, fun x4 => ⟨fun x2 => ⟨fun y => fin _ ?_, fun y => fin _ ?_⟩, fun x2 => ⟨by omega, fin _ ?_⟩⟩⟩, fun x => absurd (show (1 : Int) ≠ 0 by decide) x⟩) (fun q => ⟨by omega, fun x => absurd rfl x, fun _ => fin _ ?_⟩)
    · have step : ∀ (x i : Int), 0 ≤ i → i < 5 → Rn (d + 1) M_X12_count zN 81 [(0, (2, 311)), (1, (0, w)), (2, (0, x + G 80 i)), (3, (0, i + 1))] [] G1 (Ok2 c fs G v) → Rn (d + 1) M_X12_count zN 81 [(0, (2, 311)), (1, (0, w)), (2, (0, x)), (3, (0, i))] [] G1 (Ok2 c fs G v) := fun x i h0 h5 hr =>
        s_X12_count_81 ⟨by omega, fun c1 => by omega, fun _ => ⟨by omega, by rw [hR.cup h0 h5]; exact hr⟩⟩
      refine step 0 0 (by omega) (by omega) (step _ 1 (by omega) (by omega) (step _ 2 (by omega) (by omega) (step _ 3 (by omega) (by omega) (step _ 4 (by omega) (by omega) (s_X12_count_81 ⟨by omega, fun _ => ⟨iw, fun y8 => ⟨fun y9 => ⟨fun y10 => fin _ ?_, fun y10 => fin _ ?_⟩, fun y9 => fin _ ?_⟩, fun y8 => fin _ ?_⟩, fun c1 => by omega⟩)))))
      · obtain rfl : w = 11 := by omega
        rw [d1]; simp
      · obtain rfl : w = 10 := by omega
        rw [d46]; simp
      · obtain rfl : w = 9 := by omega
        rw [se.2.2.1]; simp
      · obtain rfl : w = 8 := by omega
        simp [cupsf]
    · rcases (by omega : w = 4 ∨ w = 5 ∨ w = 6 ∨ w = 7) with rfl | rfl | rfl | rfl <;> simp [nm]
    · obtain rfl : w = 3 := by omega
      simp [nm]
    · obtain rfl : w = 2 := by omega
      simp [se]
    · rcases (by omega : w = 0 ∨ w = 1) with rfl | rfl <;> simp [se]
    · rw [if_pos (by omega)]
  unfold cntV at m
  refine ctof (s_X11_count_0 ⟨iw, fun x => m _ (by rw [if_pos x]), fun x b hb => ?_, fun x b hb => ?_, fun x b hb => ?_, fun x => m _ (by subst x; simp), fun x => m _ (by subst x; simp), fun x => m _ (by subst x; simp), fun x => m _ (by subst x; simp), fun x => m _ (by subst x; simp), fun x => c_X8_cups b8_73 (m _ (by subst x; simp)), fun x b hb => ?_, fun x => m _ (by subst x; simp), fun x => m _ (by subst x; simp)⟩)
  all_goals
    rw [hc] at hb
    subst hb
    exact ⟨hC.2.1, m _ (by subst x; simp)⟩
end COUNT
