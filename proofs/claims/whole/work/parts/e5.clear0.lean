/-! a fresh cabin -/
def exq (q : Int) : Nat := if CbB.contains q then 2 else if CbB.contains (q - 2) then 3 else if CbB.contains (q - 5) then 4 else 0
/-- what the class's cells hold behind its constructor -/
def fr (q k : Int) : Int := if 0 ≤ lay q k then lay q k else if q = 3 ∧ (k = 2 ∨ k = 3) then -1 else if q = 0 ∧ k = 13 then 37 else if q = 0 ∧ k = 14 then 55 else if exq q = 2 then (if k = 6 then 2 else if k = 7 then 1 else if k = 9 then 11 else if k = 10 then 9 else 0) else if exq q = 3 then -1 else if exq q = 4 then 1 else 0
theorem exq_1 : ∀ b ∈ basL.getD 1 [], exq b = 2 ∧ exq (b + 2) = 3 ∧ exq (b + 5) = 4 ∧ ∀ j ∈ List.range 18, j = 0 ∨ j = 2 ∨ j = 5 ∨ exq (b + (j : Int)) = 0 := by decide +kernel
theorem lay1_6 : ∀ b ∈ basL.getD 1 [], ∀ k ∈ List.range 11, k < 6 ∨ lay b (k : Int) < 0 := by decide +kernel
theorem fr_Fz {q k : Int} (h0 : q ≠ 0) (hx : exq q = 0) : fr q k = Fz q k := by
  unfold fr Fz
  rw [if_neg (fun z => h0 z.1 : ¬ (q = 0 ∧ k = 13)), if_neg (fun z => h0 z.1 : ¬ (q = 0 ∧ k = 14)), if_neg (by omega : ¬ exq q = 2), if_neg (by omega : ¬ exq q = 3), if_neg (by omega : ¬ exq q = 4)]
theorem frq6 : ∀ b ∈ basL.getD 1 [], Fz (b + 6) 6 = 0 := by decide +kernel
def ClZ (cc : Int) (G G' : Mem) : Prop := (G' cc 6 = 2 ∧ G' cc 7 = 1 ∧ G' cc 8 = 0 ∧ G' cc 9 = 11 ∧ G' cc 10 = 9) ∧ (∀ i, 0 ≤ i → i < 5 → G' (cc + 2) i = -1 ∧ G' (cc + 3) i = 0) ∧ (∀ i, 0 ≤ i → i < 72 → G' (cc + 4) i = 0) ∧ (∀ i, 0 ≤ i → i < 4 → G' (cc + 5) i = 1) ∧ G' (cc + 6) 6 = 0 ∧ (∀ i, 0 ≤ i → i < 3 → G' (cc + 8) i = 0) ∧ (∀ k, k < 6 → G' cc k = G cc k) ∧ (∀ k, k ≠ 6 → G' (cc + 6) k = G (cc + 6) k) ∧ ∀ q k : Int, q ≠ cc → q ≠ cc + 2 → q ≠ cc + 3 → q ≠ cc + 4 → q ≠ cc + 5 → q ≠ cc + 6 → q ≠ cc + 8 → G' q k = G q k
section CLEAR0
variable {d n : Nat} {G : Mem} {Q : Int → Mem → Prop} {cc : Int}
theorem c_clear0 (hc : Bs 1 cc) (hn : cc + 18 ≤ n) (hr : ∀ k, 0 ≤ k → k < 6 → G cc k = lay cc k) (hl : G (cc + 6) 1 = cc + 8) (h : ∀ G', ClZ cc G G' → Q 0 G') : Ct (d + 2) M_X1_clear n 0 0 none [(2, cc)] G Q := by
  have b3 := (ly_1_5 hc).2.2
  have nn := bs_nn hc
  have ar : ∀ {q : Int} {t len : Nat}, Ar NT q t len → q < cc + 18 → Ar n q t len := fun a e => ⟨a.1, by have := a.1; omega, a.2.2⟩
  have o1 : Ob n cc 1 := ⟨nn, by omega, (bs_ob hc).2.2⟩
  have o3 : Ob n (cc + 6) 3 := ⟨by omega, by omega, (bs_ob b3).2.2⟩
  refine Ct.of (by decide +kernel) (Nat.le_of_ble_eq_true rfl) (s_X1_clear_0 o1 (fun G1 e1 G2 e2 G3 e3 G4 e4 G5 e5 => ?_))
  have g5 : ∀ k, 0 ≤ k → k < 6 → G5 cc k = lay cc k := fun k k0 k6 => by
    rw [e5, e4, e3, e2, e1]
    simp (disch := omega) only [st_nk]
    exact hr k k0 k6
  have h5 : ∀ k, G5 (cc + 6) k = G (cc + 6) k := fun k => by
    rw [e5, e4, e3, e2, e1]
    simp (disch := omega) only [st_nq]
  have a2 := ar (ly_1_1 hc).2.2 (by omega)
  have a3 := ar (ly_1_2 hc).2.2 (by omega)
  have a4 := ar (ly_1_3 hc).2.2 (by omega)
  have a5 := ar (ly_1_4 hc).2.2 (by omega)
  have a8 : Ar n (cc + 8) 0 3 := ar (by have := (ly_3_1 b3).2.2; rw [show cc + 6 + 2 = cc + 8 by omega] at this; exact this) (by omega)
  rw [show rl none G5 cc 1 = cc + 2 from (g5 1 (by decide) (by decide)).trans (ly_1_1 hc).1]
  refine ⟨(ly_1_1 hc).2.1, a2, c_fill a2 ?_⟩
  obtain ⟨G8, e8⟩ : ∃ y, y = upA G5 (cc + 2) ((5 : Nat) : Int) (fun _ => -1) := ⟨_, rfl⟩
  have g8 : ∀ q k : Int, q ≠ cc + 2 → G8 q k = G5 q k := fun q k e => by rw [e8]; exact upA_nq _ _ _ _ e
  show 0 ≤ rl none (upA G5 (cc + 2) ((5 : Nat) : Int) (fun _ => -1)) cc 2 ∧ _
  rw [← e8]
  rw [show rl none G8 cc 2 = cc + 3 from (g8 cc 2 (by omega)).trans ((g5 2 (by decide) (by decide)).trans (ly_1_2 hc).1)]
  refine ⟨(ly_1_2 hc).2.1, a3, c_fill a3 ?_⟩
  obtain ⟨G12, e12⟩ : ∃ y, y = upA G8 (cc + 3) ((5 : Nat) : Int) (fun _ => 0) := ⟨_, rfl⟩
  have g12 : ∀ q k : Int, q ≠ cc + 3 → G12 q k = G8 q k := fun q k e => by rw [e12]; exact upA_nq _ _ _ _ e
  show 0 ≤ rl none (upA G8 (cc + 3) ((5 : Nat) : Int) (fun _ => 0)) cc 3 ∧ _
  rw [← e12]
  rw [show rl none G12 cc 3 = cc + 4 from (g12 cc 3 (by omega)).trans ((g8 cc 3 (by omega)).trans ((g5 3 (by decide) (by decide)).trans (ly_1_3 hc).1))]
  refine ⟨(ly_1_3 hc).2.1, a4, c_fill a4 ?_⟩
  obtain ⟨G16, e16⟩ : ∃ y, y = upA G12 (cc + 4) ((72 : Nat) : Int) (fun _ => 0) := ⟨_, rfl⟩
  have g16 : ∀ q k : Int, q ≠ cc + 4 → G16 q k = G12 q k := fun q k e => by rw [e16]; exact upA_nq _ _ _ _ e
  show 0 ≤ rl none (upA G12 (cc + 4) ((72 : Nat) : Int) (fun _ => 0)) cc 4 ∧ _
  rw [← e16]
  rw [show rl none G16 cc 4 = cc + 5 from (g16 cc 4 (by omega)).trans ((g12 cc 4 (by omega)).trans ((g8 cc 4 (by omega)).trans ((g5 4 (by decide) (by decide)).trans (ly_1_4 hc).1)))]
  refine ⟨(ly_1_4 hc).2.1, a5, c_fill a5 ?_⟩
  obtain ⟨G20, e20⟩ : ∃ y, y = upA G16 (cc + 5) ((4 : Nat) : Int) (fun _ => 1) := ⟨_, rfl⟩
  have g20 : ∀ q k : Int, q ≠ cc + 5 → G20 q k = G16 q k := fun q k e => by rw [e20]; exact upA_nq _ _ _ _ e
  show 0 ≤ rl none (upA G16 (cc + 5) ((4 : Nat) : Int) (fun _ => 1)) cc 5 ∧ _
  rw [← e20]
  have t20 : ∀ q k : Int, q ≠ cc + 2 → q ≠ cc + 3 → q ≠ cc + 4 → q ≠ cc + 5 → G20 q k = G5 q k := fun q k x2 x3 x4 x5 => by rw [g20 q k x5, g16 q k x4, g12 q k x3, g8 q k x2]
  rw [show rl none G20 cc 5 = cc + 6 from (t20 cc 5 (by omega) (by omega) (by omega) (by omega)).trans ((g5 5 (by decide) (by decide)).trans (ly_1_5 hc).1)]
  refine ⟨(ly_1_5 hc).2.1, o3, Ct.of (by decide +kernel) (Nat.le_of_ble_eq_true rfl) (s_X3_clear_0 o3 (fun G6 e6 => ?_))⟩
  rw [show rl none G6 (cc + 6) 1 = cc + 8 from by
    show G6 (cc + 6) 1 = cc + 8
    rw [e6, st_nk _ _ _ (by decide), t20 _ _ (by omega) (by omega) (by omega) (by omega), h5]
    exact hl]
  refine ⟨by omega, a8, c_fill a8 (h _ ?_)⟩
  have z8 : ∀ q k : Int, q ≠ cc + 8 → upA G6 (cc + 8) ((3 : Nat) : Int) (fun _ => 0) q k = G6 q k := fun q k e => upA_nq _ _ _ _ e
  have z6 : ∀ q k : Int, q ≠ cc + 6 → G6 q k = G20 q k := fun q k e => by rw [e6]; exact st_nq _ _ _ _ e
  have s5 : ∀ k, k < 6 → G5 cc k = G cc k := fun k k6 => by
    rw [e5, e4, e3, e2, e1]
    simp (disch := omega) only [st_nk]
  refine ⟨⟨?_, ?_, ?_, ?_, ?_⟩, fun i i0 i5 => ⟨?_, ?_⟩, fun i i0 i1 => ?_, fun i i0 i1 => ?_, ?_, fun i i0 i1 => ?_, fun k k6 => ?_, fun k k6 => ?_, fun q k q0 q2 q3 q4 q5 q6 q8 => ?_⟩
  · rw [z8 _ _ (by omega), z6 _ _ (by omega), t20 _ _ (by omega) (by omega) (by omega) (by omega), e5, e4, e3, e2, e1]
    simp (disch := omega) only [st_nk, st_same]
  · rw [z8 _ _ (by omega), z6 _ _ (by omega), t20 _ _ (by omega) (by omega) (by omega) (by omega), e5, e4, e3, e2, e1]
    simp (disch := omega) only [st_nk, st_same]
  · rw [z8 _ _ (by omega), z6 _ _ (by omega), t20 _ _ (by omega) (by omega) (by omega) (by omega), e5, e4, e3, e2, e1]
    simp (disch := omega) only [st_nk, st_same]
  · rw [z8 _ _ (by omega), z6 _ _ (by omega), t20 _ _ (by omega) (by omega) (by omega) (by omega), e5, e4, e3, e2, e1]
    simp (disch := omega) only [st_nk, st_same]
  · rw [z8 _ _ (by omega), z6 _ _ (by omega), t20 _ _ (by omega) (by omega) (by omega) (by omega), e5, e4, e3, e2, e1]
    simp (disch := omega) only [st_nk, st_same]
  · rw [z8 _ _ (by omega), z6 _ _ (by omega), g20 _ _ (by omega), g16 _ _ (by omega), g12 _ _ (by omega), e8]
    exact upA_in _ _ _ i0 (by omega)
  · rw [z8 _ _ (by omega), z6 _ _ (by omega), g20 _ _ (by omega), g16 _ _ (by omega), e12]
    exact upA_in _ _ _ i0 (by omega)
  · rw [z8 _ _ (by omega), z6 _ _ (by omega), g20 _ _ (by omega), e16]
    exact upA_in _ _ _ i0 (by omega)
  · rw [z8 _ _ (by omega), z6 _ _ (by omega), e20]
    exact upA_in _ _ _ i0 (by omega)
  · rw [z8 _ _ (by omega), e6, st_same]
  · exact upA_in _ _ _ i0 (by omega)
  · rw [z8 _ _ (by omega), z6 _ _ (by omega), t20 _ _ (by omega) (by omega) (by omega) (by omega)]
    exact s5 k k6
  · rw [z8 _ _ (by omega), e6, st_nk _ _ _ k6, t20 _ _ (by omega) (by omega) (by omega) (by omega)]
    exact h5 k
  · rw [z8 _ _ q8, z6 _ _ q6, t20 _ _ q2 q3 q4 q5, e5, e4, e3, e2, e1]
    simp (disch := omega) only [st_nq]
/-- behind the clearing all is as fr says -/
theorem ClZ.fr {b : Int} {G1 G2 : Mem} (hb : Bs 1 b) (h : Fr Fz G1 b (b + 18)) (c : ClZ b G1 G2) : Fr fr G2 b (b + 18) := by
  obtain ⟨⟨c6, c7, c8, c9, c10⟩, c23, c4, c5, l6, l8, rb, r6, rr⟩ := c
  have ex := exq_1 b hb
  have nn := bs_nn hb
  have n0 : b ≠ 0 := fun e => by
    rw [e] at hb
    exact absurd hb (by unfold Bs; decide +kernel)
  have n3 : b ≠ 3 ∧ b + 2 ≠ 3 ∧ b + 5 ≠ 3 := by
    refine ⟨fun e => ?_, fun e => ?_, fun e => ?_⟩
    · rw [e] at hb; exact absurd hb (by unfold Bs; decide +kernel)
    · rw [show b = 1 by omega] at hb; exact absurd hb (by unfold Bs; decide +kernel)
    · omega
  have b3 := (ly_1_5 hb).2.2
  intro q k q0 q1 k0 k1
  by_cases e0 : q = b
  · subst e0
    rw [(bs_ob hb).2.2] at k1
    have k11 : k < 11 := k1
    by_cases k6 : k < 6
    · rw [rb k k6, h q k (by omega) (by omega) k0 (by rw [(bs_ob hb).2.2]; exact k1)]
      have l9 : 0 ≤ lay q k := by
        have w : k = 0 ∨ k = 1 ∨ k = 2 ∨ k = 3 ∨ k = 4 ∨ k = 5 := by omega
        rcases w with e | e | e | e | e | e
        · rw [e, (ly_1_0 hb).1]; exact (ly_1_0 hb).2.1
        · rw [e, (ly_1_1 hb).1]; exact (ly_1_1 hb).2.1
        · rw [e, (ly_1_2 hb).1]; exact (ly_1_2 hb).2.1
        · rw [e, (ly_1_3 hb).1]; exact (ly_1_3 hb).2.1
        · rw [e, (ly_1_4 hb).1]; exact (ly_1_4 hb).2.1
        · rw [e, (ly_1_5 hb).1]; exact (ly_1_5 hb).2.1
      unfold _root_.Jvm.Pilot.CPastSleepLaw_law_r5169_f371cb.fr Fz
      rw [if_pos l9, if_pos l9]
    · have l9 := (lay1_6 q hb k.toNat (List.mem_range.mpr (by omega))).resolve_left (by omega)
      rw [show ((k.toNat : Nat) : Int) = k by omega] at l9
      unfold _root_.Jvm.Pilot.CPastSleepLaw_law_r5169_f371cb.fr
      rw [if_neg (by omega), if_neg (fun z => n3.1 z.1), if_neg (fun z => n0 z.1), if_neg (fun z => n0 z.1), if_pos ex.1]
      have w : k = 6 ∨ k = 7 ∨ k = 8 ∨ k = 9 ∨ k = 10 := by omega
      rcases w with e | e | e | e | e <;> subst e <;> first | exact c6 | exact c7 | exact c8 | exact c9 | exact c10
  have far : ∀ (j : Nat), q = b + (j : Int) → j < 18 → j ≠ 0 → j ≠ 2 → j ≠ 5 → _root_.Jvm.Pilot.CPastSleepLaw_law_r5169_f371cb.fr q k = Fz q k := fun j ej j18 j0 j2 j5 => by
    have x := ex.2.2.2 j (List.mem_range.mpr j18)
    have y := ((x.resolve_left j0).resolve_left j2).resolve_left j5
    exact fr_Fz (by omega) (by rw [ej]; exact y)
  have h1 := h q k q0 q1 k0 k1
  by_cases e2 : q = b + 2
  · rw [e2] at k1 ⊢
    rw [show (shp (b + 2).toNat).2 = 5 by rw [(ly_1_1 hb).2.2.2.2.1]] at k1
    rw [(c23 k k0 (by omega)).1]
    unfold _root_.Jvm.Pilot.CPastSleepLaw_law_r5169_f371cb.fr
    rw [lay_arr (ly_1_1 hb).2.2 (by decide), if_neg (by decide), if_neg (fun z => n3.2.1 z.1), if_neg (fun z => by omega), if_neg (fun z => by omega), if_neg (by rw [ex.2.1]; decide), if_pos ex.2.1]
  by_cases e5 : q = b + 5
  · rw [e5] at k1 ⊢
    rw [show (shp (b + 5).toNat).2 = 4 by rw [(ly_1_4 hb).2.2.2.2.1]] at k1
    rw [c5 k k0 (by omega)]
    unfold _root_.Jvm.Pilot.CPastSleepLaw_law_r5169_f371cb.fr
    rw [lay_arr (ly_1_4 hb).2.2 (by decide), if_neg (by decide), if_neg (fun z => n3.2.2 z.1), if_neg (fun z => by omega), if_neg (fun z => by omega), if_neg (by rw [ex.2.2.1]; decide), if_neg (by rw [ex.2.2.1]; decide), if_pos ex.2.2.1]
  rw [far (q - b).toNat (by omega) (by omega) (by omega) (by omega) (by omega), ← h1]
  by_cases e3 : q = b + 3
  · rw [h1]
    subst e3
    rw [show (shp (b + 3).toNat).2 = 5 by rw [(ly_1_2 hb).2.2.2.2.1]] at k1
    rw [(c23 k k0 (by omega)).2, Fz_arr (ly_1_2 hb).2.2 (by decide)]
  by_cases e4 : q = b + 4
  · rw [h1]
    subst e4
    rw [show (shp (b + 4).toNat).2 = 72 by rw [(ly_1_3 hb).2.2.2.2.1]] at k1
    rw [c4 k k0 (by omega), Fz_arr (ly_1_3 hb).2.2 (by decide)]
  by_cases e6 : q = b + 6
  · by_cases k6 : k = 6
    · rw [h1, e6, k6, l6]
      exact (frq6 b hb).symm
    · rw [e6]; exact r6 k k6
  by_cases e8 : q = b + 8
  · have a8 := (ly_3_1 b3).2.2
    rw [show b + 6 + 2 = b + 8 by omega] at a8
    rw [h1]
    subst e8
    have z9 : (shp (b + 8).toNat).2 = 3 := by rw [a8.2.2.1]
    have k3 : k < 3 := by omega
    rw [l8 k k0 k3, Fz_arr a8 (by decide)]
  · exact rr q k e0 e2 e3 e4 e5 e6 e8
end CLEAR0
