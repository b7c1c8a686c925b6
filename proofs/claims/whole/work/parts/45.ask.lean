section ASK
variable {d : Nat} {S G H : Mem} {Q : Int → Mem → Prop} {c : Int} {fs : Int → Law}
theorem b8_73 : Bs 8 73 := by unfold Bs; decide +kernel
theorem c_asl {w t : Int} (hC : Cls G c) (hw : 0 ≤ w ∧ w < G c 8) (ht : 0 ≤ t ∧ t ≤ 1000) (h1 : aslp G 73 c w t → Q 1 G) (h0 : ¬ aslp G 73 c w t → Q 0 G) : Ct d M_X8_asleep NT 0 0 (some lay) [(2, 73), (2, c), (0, w), (0, t)] G Q := by
  have r := hC.rng
  have so := hC.sok hw.1 hw.2
  have s7 := so.2.2.2.2.2.2.2
  have ro := hC.rok (i := w) (by omega) (by omega)
  exact c_X8_asleep b8_73 hC.2.1 (by omega) (show InR (G 75 _) by omega) (by omega) (by omega) (by omega) (show InR (_ - G 76 _) by omega) h1 h0
theorem c_clo {t : Int} (hC : Cls G c) (ht : InR t) (h1 : clsd G c t → Q 1 G) (h0 : ¬ clsd G c t → Q 0 G) : Ct d M_X1_closed NT 0 0 (some lay) [(2, c), (0, t)] G Q := by
  have r := hC.rng
  exact c_X1_closed hC.2.1 ht (by omega) (fun q => by have := hC.2.2.1.2.2.2.2.2.2.2.2.1 t q.1 q.2; omega) h1 h0
/-- the answer, and all stands as it stood -/
def Ok2 (c : Int) (fs : Int → Law) (G : Mem) (v : Int) : Int → Mem → Prop := fun v2 G2 => v = v2 ∧ Inv0 G2 G2 c fs ∧ RkF c G G2
def ThF (G G' : Mem) : Prop := ∀ q k : Int, ¬ (q = 311 ∧ k = 0) → G' q k = G q k
theorem ThF.st : ThF G (st G 311 0 0) := fun _ _ h => st_ne _ _ h
theorem ThF.cu {G' : Mem} (h : ThF G G') (hR : Cu S G c) : Cu S G' c := hR.ext (fun q k hq => h q k (by omega))
theorem ThF.lw {G' : Mem} {r : Int} (h : ThF G G') (hL : LawsR S G c r fs) : LawsR S G' c r fs := hL.ext (fun q k hq => h q k (by omega))
/-- the class changed nothing of the model's, the model nothing of the class's -/
def ClF (c : Int) (G G' : Mem) : Prop := QtC c G G' ∧ ∀ q k : Int, 311 ≤ q → G' q k = G q k
def MlF (G G' : Mem) : Prop := QtM G G' ∧ ∀ q k : Int, q < 311 → G' q k = G q k
theorem ClF.rfl' : ClF c G G := ⟨QtC.rfl', fun _ _ _ => rfl⟩
theorem ClF.tr {G1 G2 : Mem} (h : ClF c G G1) (h' : ClF c G1 G2) : ClF c G G2 := ⟨h.1.tr h'.1, fun q k a => (h'.2 q k a).trans (h.2 q k a)⟩
theorem MlF.tr {G1 G2 : Mem} (h : MlF G G1) (h' : MlF G1 G2) : MlF G G2 := ⟨h.1.tr h'.1, fun q k a => (h'.2 q k a).trans (h.2 q k a)⟩
theorem ThF.ml {G' : Mem} (h : ThF G G') : MlF G G' := ⟨fun q k _ b => h q k (by omega), fun q k a => h q k (by omega)⟩
theorem EvM.ml {G' : Mem} (h : EvM G G') : MlF G G' := ⟨fun q k _ b => h q k (by omega), fun q k a => h q k (by omega)⟩
theorem EvC.cl {G' : Mem} (hc : c = 37 ∨ c = 55) (h : EvC c G G') : ClF c G G' := ⟨fun q k a b => h q k (by omega) (by omega), fun q k a => h q k (by omega) (by omega)⟩
theorem Inv0.ok {G1 G2 : Mem} {v : Int} (h : Inv0 G G c fs) (h1 : ClF c G G1) (h2 : MlF G1 G2) : Ok2 c fs G v v G2 := ⟨rfl, h.quiet h1.1 h1.2 h2.1 h2.2⟩
theorem Inv0.cu1 {G1 : Mem} (h : Inv0 G G c fs) (h1 : ClF c G G1) : Cu G G1 c := h.2.1.ext (fun q k hq => h1.2 q k (by omega))
theorem Inv0.lw1 {G1 : Mem} (h : Inv0 G G c fs) (h1 : ClF c G G1) : LawsR G G1 c 0 fs := h.2.2.1.ext (fun q k hq => h1.2 q k (by omega))
/-! sitter -/
def sitV (S : Mem) (c s w : Int) : Int := if ¬ (0 ≤ s ∧ s < S c 8) then -1 else if w < 0 ∨ 9 < w then -1 else if w = 0 then S (c + 13 + s) 0 else if w = 1 then S (c + 13 + s) 1 else if w = 2 then S 74 s else if w = 3 then (if aslp S 73 c s (S 73 7) then 1 else 0) else if w = 4 then S 75 s else if w = 5 then deepf S (c + 13 + s) else if w = 6 then legsf S (c + 13 + s) else if w = 7 then S 77 s else if w = 8 then S 78 s else S 79 s
theorem q_sitter_C {s w : Int} (hC : Cls G c) (is : InR s) (iw : InR w) (h : Q (sitV G c s w) G) : Ct (d + 1) M_X11_sitter NT 0 0 (some lay) [(2, 0), (0, s), (0, w)] G Q := by
  have r := hC.rng
  have hc := hC.1
  have tk := hC.tick
  unfold sitV at h
  refine ctof (s_X11_sitter_0 (c_X11_known hC is (fun q => ⟨by omega, fun _ b hb => ?_, fun x => absurd (show (1 : Int) ≠ 0 by decide) x⟩) (fun q => ⟨by omega, fun x => absurd rfl x, fun _ => ?_⟩)))
  · rw [hc] at hb
    subst hb
    rw [if_neg (fun x => x q)] at h
    have so := hC.sok q.1 q.2
    have e7 := (el_1_0 hC.2.1 (i := s) (by omega) (by omega)).2.2
    refine ⟨hC.2.1, by omega, iw, fun x => ?_, fun x => ?_, fun x => ?_, fun x => ?_, fun x b3 h3 => ?_, fun x => ?_, fun x => ?_, fun x => ?_, fun x => ?_, fun x => ?_, fun x => ?_⟩
    · rw [if_pos x] at h; exact h
    all_goals rw [if_neg (by omega)] at h; subst x
    · exact h
    · exact h
    · exact h
    · rw [hc] at h3
      subst h3
      refine ⟨hC.2.1, c_asl hC q (by omega) (fun a => ⟨by omega, fun y => absurd y (by decide), fun _ => ?_⟩) (fun a => ⟨by omega, fun _ => ?_, fun y => absurd rfl y⟩)⟩
      · simp only [Int.reduceEq, if_false, if_true, if_pos a] at h; exact h
      · simp only [Int.reduceEq, if_false, if_true, if_neg a] at h; exact h
    · exact h
    · exact c_X7_deep e7 (by have := so.1; omega) (by have := so.2.2.2.2.2.1; omega) h
    · exact c_X7_legsLong e7 (by have := so.1; omega) h
    · exact h
    · exact h
    · exact h
  · rw [if_pos q] at h
    exact h
theorem q_sitter_M {s w : Int} (hR : Cu S G c) (is : InR s) (iw : InR w) (h : ∀ G2, ThF G G2 → Q (sitV S c s w) G2) : Ct (d + 2) M_X12_sitter NT 0 0 (some lay) [(2, 311), (0, s), (0, w)] G Q := by
  unfold sitV at h
  refine ctof (s_X12_sitter_0 (fun G1 e1 => ?_))
  have f1 : ThF G G1 := by rw [e1]; exact ThF.st
  have hR := f1.cu hR
  have h := h G1 f1
  have r := hR.rng
  refine c_isSitter hR is (fun q => ⟨by omega, fun x => absurd x (by decide), fun _ => ?_⟩) (fun q => ⟨by omega, fun _ => ?_, fun x => absurd rfl x⟩)
  · rw [if_neg (fun x => x q)] at h
    obtain ⟨w1, w2, -, w4, w5, w6⟩ := hR.row q.1 q.2
    obtain ⟨v1, v2, -⟩ := hR.sit q.1 q.2
    refine c_within iw (by omega) (by omega) (fun q2 => ⟨by omega, fun _ => ?_, fun x => absurd (show (1 : Int) ≠ 0 by decide) x⟩) (fun q2 => ⟨by omega, fun x => absurd rfl x, fun _ => ?_⟩)
    · rw [if_neg (by omega)] at h
      refine ⟨iw, fun x3 => ⟨fun x7 => ⟨fun y7 => ⟨fun y8 => ⟨by omega, ?_⟩, fun y8 => ⟨by omega, ?_⟩⟩, fun y7 => ⟨by omega, ?_⟩⟩, fun x7 => ⟨fun y3 => ⟨fun y4 => ⟨fun y5 => ?_, fun y5 => ?_⟩, fun y4 => ⟨by omega, ?_⟩⟩, fun y3 => ?_⟩⟩, fun x3 => ⟨fun y0 => ⟨fun y1 => ⟨by omega, ?_⟩, fun y1 => ⟨by omega, ?_⟩⟩, fun y0 => ⟨by omega, ?_⟩⟩⟩
      · obtain rfl : w = 9 := by omega
        rw [w6]; exact h
      · obtain rfl : w = 8 := by omega
        rw [w5]; exact h
      · obtain rfl : w = 7 := by omega
        rw [w4]; exact h
      · obtain rfl : w = 6 := by omega
        exact c_legsOf hR q h
      · obtain rfl : w = 5 := by omega
        exact c_depthOf hR q h
      · obtain rfl : w = 4 := by omega
        rw [w2]; exact h
      · obtain rfl : w = 3 := by omega
        refine c_isAsleep hR q (fun a => ⟨by omega, fun y => absurd y (by decide), fun _ => ?_⟩) (fun a => ⟨by omega, fun _ => ?_, fun y => absurd rfl y⟩)
        · simp only [Int.reduceEq, if_false, if_true, if_pos a] at h; exact h
        · simp only [Int.reduceEq, if_false, if_true, if_neg a] at h; exact h
      · obtain rfl : w = 2 := by omega
        rw [w1]; exact h
      · obtain rfl : w = 1 := by omega
        rw [v2]; exact h
      · obtain rfl : w = 0 := by omega
        rw [v1]; exact h
    · rw [if_pos (by omega)] at h
      exact h
  · rw [if_pos q] at h
    exact h
theorem t_sitter {s w : Int} (hI : Inv0 G G c fs) (is : InR s) (iw : InR w) : Ct (d + 1) M_X11_sitter NT 0 0 (some lay) [(2, 0), (0, s), (0, w)] G (fun v G1 => Ct (d + 2) M_X12_sitter NT 0 0 (some lay) [(2, 311), (0, s), (0, w)] G1 (Ok2 c fs G v)) :=
  q_sitter_C hI.cls is iw (q_sitter_M hI.2.1 is iw (fun _ f => hI.ok ClF.rfl' f.ml))
/-! seat -/
def seatV (S : Mem) (c p w : Int) : Int := if ¬ (0 ≤ p ∧ p < S c 6) then -1 else if w < 0 ∨ 2 < w then -1 else if w = 0 then S (c + 2) p else if w = 1 then S 80 p else if 0 ≤ inSt S c p then 1 else 0
theorem q_seat_C {p w : Int} (hC : Cls G c) (ip : InR p) (iw : InR w) (h : Q (seatV G c p w) G) : Ct (d + 1) M_X11_seat NT 0 0 (some lay) [(2, 0), (0, p), (0, w)] G Q := by
  have r := hC.rng
  have hc := hC.1
  unfold seatV at h
  refine ctof (s_X11_seat_0 ⟨ip, fun x => ?_, fun x b hb => ?_⟩)
  · rw [if_pos (by omega)] at h; exact h
  rw [hc] at hb
  subst hb
  refine ⟨hC.2.1, by omega, fun x6 b8 h8 => ?_, fun x6 => ?_⟩
  · rw [hc] at h8
    subst h8
    rw [if_neg (by omega)] at h
    have o := hC.on (s := p) (by omega) (by omega)
    refine ⟨hC.2.1, by omega, iw, fun y => ?_, fun y => ?_, fun y => ?_, fun y => ?_⟩
    · rw [if_pos y] at h; exact h
    all_goals rw [if_neg (by omega)] at h; subst y
    · exact h
    · exact h
    · have h : Q (if 0 ≤ inSt G b8 p then 1 else 0) G := h
      unfold inSt at h
      refine c_X11_known hC (by omega) (fun q => ⟨by omega, fun z => absurd z (by decide), fun _ => ⟨by omega, ?_⟩⟩) (fun q => ⟨by omega, fun _ => ?_, fun z => absurd rfl z⟩)
      · have ro := (hC.rok (i := G (b8 + 2) p) (by omega) (by omega)).2.1
        rw [if_neg (show ¬ G (b8 + 2) p < 0 by omega)] at h
        refine ⟨by omega, fun z => ?_, fun z => ?_⟩
        · rw [if_neg z, if_neg (by decide)] at h; exact h
        · rw [if_pos (Decidable.not_not.mp z), if_pos (by omega)] at h; exact h
      · rw [if_pos (show G (b8 + 2) p < 0 by omega), if_neg (by decide)] at h; exact h
  · rw [if_pos (by omega)] at h; exact h
theorem q_seat_M {p w : Int} (hR : Cu S G c) (ip : InR p) (iw : InR w) (h : ∀ G2, ThF G G2 → Q (seatV S c p w) G2) : Ct (d + 2) M_X12_seat NT 0 0 (some lay) [(2, 311), (0, p), (0, w)] G Q := by
  unfold seatV at h
  refine ctof (s_X12_seat_0 (fun G1 e1 => ?_))
  have f1 : ThF G G1 := by rw [e1]; exact ThF.st
  have hR := f1.cu hR
  have h := h G1 f1
  have r := hR.rng
  have e := hR.seats.1
  rw [e]
  refine c_within ip (by omega) (by omega) (fun q => ⟨by omega, fun x => absurd x (by decide), fun _ => ?_⟩) (fun q => ⟨by omega, fun _ => ?_, fun x => absurd rfl x⟩)
  · rw [if_neg (by omega)] at h
    refine c_within iw (by omega) (by omega) (fun q2 => ⟨by omega, fun _ => ?_, fun x => absurd (show (1 : Int) ≠ 0 by decide) x⟩) (fun q2 => ⟨by omega, fun x => absurd rfl x, fun _ => ?_⟩)
    · rw [if_neg (by omega)] at h
      refine ⟨iw, fun y0 => ⟨fun y1 => ?_, fun y1 => ⟨by omega, ?_⟩⟩, fun y0 => ?_⟩
      · rw [if_neg y0, if_neg y1] at h
        have io : InR (inSt S c p) := by
          have o := hR.on (s := p) (by omega) (by omega)
          unfold inSt
          repeat' split
          all_goals omega
        refine c_inSeat hR (by omega) ⟨io, fun z => ?_, fun z => ?_⟩
        · rw [if_neg (by omega)] at h; exact h
        · rw [if_pos (by omega)] at h; exact h
      · rw [if_neg y0, if_pos (by omega)] at h
        rw [hR.cup (by omega) (by omega)]; exact h
      · rw [if_pos (by omega)] at h
        exact c_sitterOf hR (by omega) h
    · rw [if_pos (by omega)] at h
      exact h
  · rw [if_pos (by omega)] at h
    exact h
theorem t_seat {p w : Int} (hI : Inv0 G G c fs) (ip : InR p) (iw : InR w) : Ct (d + 1) M_X11_seat NT 0 0 (some lay) [(2, 0), (0, p), (0, w)] G (fun v G1 => Ct (d + 2) M_X12_seat NT 0 0 (some lay) [(2, 311), (0, p), (0, w)] G1 (Ok2 c fs G v)) :=
  q_seat_C hI.cls ip iw (q_seat_M hI.2.1 ip iw (fun _ f => hI.ok ClF.rfl' f.ml))
/-! shut -/
def shutV (S : Mem) (c t : Int) : Int := if ¬ (0 ≤ t ∧ t < S c 7) then -1 else if clsd S c t then 1 else 0
theorem t_shut {t : Int} (hI : Inv0 G G c fs) (it : InR t) : Ct (d + 1) M_X11_shut NT 0 0 (some lay) [(2, 0), (0, t)] G (fun v G1 => Ct (d + 2) M_X12_shut NT 0 0 (some lay) [(2, 311), (0, t)] G1 (Ok2 c fs G v)) := by
  have hC := hI.cls
  have r := hC.rng
  have hc := hC.1
  have m : ∀ v, v = shutV G c t → Ct (d + 2) M_X12_shut NT 0 0 (some lay) [(2, 311), (0, t)] G (Ok2 c fs G v) := by
    intro v hv
    refine ctof (s_X12_shut_0 (fun G1 e1 => ?_))
    have f1 : ThF G G1 := by rw [e1]; exact ThF.st
    have hR := f1.cu hI.2.1
    have e := hR.seats.2.1
    rw [e]
    unfold shutV at hv
    refine c_within it (by omega) (by omega) (fun q => ⟨by omega, fun x => absurd x (by decide), fun _ => ?_⟩) (fun q => ⟨by omega, fun _ => ?_, fun x => absurd rfl x⟩)
    · rw [if_neg (by omega)] at hv
      refine c_isShut hR (by omega) (fun q2 => ⟨by omega, fun x => absurd x (by decide), fun _ => ?_⟩) (fun q2 => ⟨by omega, fun _ => ?_, fun x => absurd rfl x⟩)
      · rw [if_pos q2] at hv; rw [hv]; exact hI.ok ClF.rfl' f1.ml
      · rw [if_neg q2] at hv; rw [hv]; exact hI.ok ClF.rfl' f1.ml
    · rw [if_pos (by omega)] at hv
      rw [hv]; exact hI.ok ClF.rfl' f1.ml
  unfold shutV at m
  refine ctof (s_X11_shut_0 ⟨it, fun x => m _ (by rw [if_pos (by omega)]), fun x b hb => ?_⟩)
  rw [hc] at hb
  subst hb
  refine ⟨hC.2.1, by omega, fun x7 b8 h8 => ?_, fun x7 => m _ (by rw [if_pos (by omega)])⟩
  rw [hc] at h8
  subst h8
  refine ⟨hC.2.1, c_clo hC it (fun q => ⟨by omega, fun x => absurd x (by decide), fun _ => m _ (by rw [if_neg (by omega), if_pos q])⟩) (fun q => ⟨by omega, fun _ => m _ (by rw [if_neg (by omega), if_neg q]), fun x => absurd rfl x⟩)⟩
end ASK
