section SAVED
variable {d : Nat} {S T T1 T2 G G' M : Mem} {Q : Int → Mem → Prop} {c : Int} {fs : Int → Law} {s : Int}
/-- of one: his wakings and what came too late, in pence -/
def pAs (S : Mem) (c s : Int) (T : Mem) : Int := S (c + 5) 0 * T 29 s + S (c + 5) 2 * T 26 s
/-- the seats behind the change -/
def SwR (S : Mem) (c s e : Int) (T1 T2 : Mem) : Prop := (0 ≤ e ∧ e < S c 6) ∧ 0 ≤ T1 31 e ∧ (∀ k, e < k → k < S c 6 → T1 31 k = -1) ∧ ∀ k, 0 ≤ k → k < 5 → T2 31 k = if k = e then s else if k = S (c + 13 + s) 1 then T1 31 e else T1 31 k
def AisR (S : Mem) (c : Int) (fs : Int → Law) (s r : Int) : Prop := ∃ T1 T2 e, (FlOk S c T1 ∧ T1 19 11 = 0 ∧ ∀ k, 0 ≤ k → k < 5 → T1 31 k = S (c + 2) k) ∧ (FlOk S c T2 ∧ T2 19 11 = 0 ∧ SwR S c s e T1 T2) ∧ r = pAs S c s (flyT S c fs (-1) T1) - pAs S c s (flyT S c fs (-1) T2)
def BeeR (S : Mem) (c : Int) (fs : Int → Law) (s r : Int) : Prop := ∃ T1 T2, (FlOk S c T1 ∧ T1 19 11 = 0 ∧ ∀ k, 0 ≤ k → k < 5 → T1 31 k = S (c + 2) k) ∧ (FlOk S c T2 ∧ T2 19 11 = 0 ∧ ∀ k, 0 ≤ k → k < 5 → T2 31 k = S (c + 2) k) ∧ r = penT S c (flyT S c fs s T2) - penT S c (flyT S c fs (-1) T1)
theorem c_penceOf_C {n : Int} (hS : HSx S c fs G) (hs : 0 ≤ s ∧ s < 5) (hE : HE n T G) (h : Q (pAs S c s T) G) : Ct d M_X2_penceOf NT 0 0 (some lay) [(2, 19), (2, c), (0, s)] G Q := by
  have c0 := cb_lt hS.1.2.1
  refine ctof (s_X2_penceOf_0 hS.1.2.1 ⟨hs, ?_⟩)
  rw [HSx.cab hS (q := c + 5) (by omega), HSx.cab hS (q := c + 5) (by omega), hE.row (by omega) hs, hE.row (by omega) hs]
  exact h
theorem toldOk (hI : Inv0 G G c fs) : (FlOk G c (cpy G (c + 2) 0 31 0 5) ∧ cpy G (c + 2) 0 31 0 5 19 11 = 0 ∧ ∀ k, 0 ≤ k → k < 5 → cpy G (c + 2) 0 31 0 5 31 k = G (c + 2) k) := by
  obtain ⟨on, fl⟩ := onTold hI
  exact ⟨fl, by rw [cpy_nq _ _ _ _ _ _ (by decide)]; exact hI.1.2.2.2, on⟩
theorem c_saved (hI : Inv0 G G c fs) (hs : 0 ≤ s ∧ s < G c 8) (h : ∀ r G1, AisR G c fs s r → ClF c G G1 → Q r G1) : Ct (d + 7) M_X2_saved NT 0 0 (some lay) [(2, 19), (2, c), (0, s)] G Q := by
  have hC := hI.cls
  have r := hC.rng
  have h37 := hI.1.2.2.1
  have so := (hI.2.1.sok hs.1 hs.2).2.1
  have hse := hI.2.1.seat hs.1 hs.2
  obtain ⟨fl, t11, on⟩ := toldOk hI
  have f1 : OnF G (cpy G (c + 2) 0 31 0 5) := OnF.cpy
  have hS1 := hI.hsx.on f1
  refine ctof (s_X2_saved_0 hC.2.1 (c_seatAsTold hC.2.1 ?_))
  obtain ⟨T1, hT1⟩ : ∃ T1, T1 = cpy G (c + 2) 0 31 0 5 := ⟨_, rfl⟩
  rw [← hT1] at on fl f1 hS1 t11 ⊢
  refine c_fly hS1 HE.rf.hb fl.1 fl.2.1 fl.2.2 (by omega) (fun G3 f3 h3 => ?_)
  have hS3 := hS1.mv f3
  obtain ⟨k1, k2, k3, k4⟩ := flyT_ok (fs := fs) (th := -1) hI.2.1 fl
  refine c_penceOf_C hS3 ⟨hs.1, by omega⟩ h3 ?_
  have e6 : G3 c 6 = G c 6 := HSx.cab hS3 (q := c) (by omega)
  rw [e6]
  have on3 : ∀ k, 0 ≤ k → k < G c 6 → G3 31 k = T1 31 k := fun k k0 k1 => (h3.on ⟨k0, k1⟩).trans (k3 k)
  have rest3 : ∀ k, k < 0 ∨ G c 6 ≤ k → G3 31 k = T1 31 k := fun k hk => f3 31 k (by omega) (by omega) (by omega) (by omega)
  have all3 : ∀ k, G3 31 k = T1 31 k := fun k => by
    by_cases q : 0 ≤ k ∧ k < G c 6
    · exact on3 k q.1 q.2
    · exact rest3 k (by omega)
  -- behind the search
  have B : ∀ e : Int, 0 ≤ e → e < G c 6 → 0 ≤ T1 31 e → (∀ k, e < k → k < G c 6 → T1 31 k = -1) → Rn (d + 7) M_X2_saved zN 48 [(0, (2, 19)), (1, (2, c)), (2, (0, s)), (3, (0, pAs G c s (flyT G c fs (-1) T1))), (4, (0, e))] [] G3 Q := fun e e0 e1 eo en => by
    have s1 : G3 (c + 13 + s) 1 = G (c + 13 + s) 1 := HSx.cab hS3 (q := c + 13 + s) (by omega)
    refine s_X2_saved_48 hC.2.1 ⟨⟨hs.1, by omega⟩, ⟨e0, by omega⟩, by rw [s1]; omega, fun G4 e4 G5 e5 => ?_⟩
    rw [s1] at e4
    have f5 : ∀ q k : Int, q ≠ 31 → G5 q k = G3 q k := fun q k a => by rw [e5, st_nq _ _ _ _ a, e4, st_nq _ _ _ _ a]
    have hS5 : HSx G c fs G5 := hS3.on f5
    have o5 : ∀ k, 0 ≤ k → k < 5 → G5 31 k = if k = e then s else if k = G (c + 13 + s) 1 then T1 31 e else T1 31 k := fun k _ _ => by
      rw [e5]
      by_cases q : k = e
      · rw [q, st_same, if_pos rfl]
      · rw [if_neg q, st_nk _ _ _ q, e4, all3 e]
        by_cases q2 : k = G (c + 13 + s) 1
        · rw [q2, st_same, if_pos rfl]
        · rw [if_neg q2, st_nk _ _ _ q2, all3 k]
    have d5 : G5 19 11 = 0 := by rw [f5 _ _ (by decide), h3.c11, k4, t11]
    have fl5 : FlOk G c G5 := by
      refine ⟨fun k k0 k1 => ?_, fun z => by omega, Or.inl d5⟩
      rw [o5 k k0 (by omega)]
      have a1 := fl.1 k k0 k1
      have a2 := fl.1 e e0 e1
      split
      · omega
      · split <;> omega
    refine c_fly hS5 HE.rf.hb fl5.1 fl5.2.1 fl5.2.2 (by omega) (fun G6 f6 h6 => ?_)
    refine c_penceOf_C (hS5.mv f6) ⟨hs.1, by omega⟩ h6 (h _ G6 ⟨T1, G5, e, ⟨fl, t11, on⟩, ⟨fl5, d5, ⟨e0, e1⟩, eo, en, o5⟩, rfl⟩ ?_)
    exact ((f1.cl.tr (f3.cl h37)).tr (OnF.cl f5)).tr (f6.cl h37)
  have key : ∀ (k : Nat) (e : Int), e = (k : Int) → e < G c 6 → (∀ j, e < j → j < G c 6 → T1 31 j = -1) → Rn (d + 7) M_X2_saved zN 26 [(0, (2, 19)), (1, (2, c)), (2, (0, s)), (3, (0, pAs G c s (flyT G c fs (-1) T1))), (4, (0, e))] [] G3 Q := by
    intro k
    induction k with
    | zero =>
      intro e he e1 en
      refine s_X2_saved_26 hC.2.1 ⟨by omega, fun _ => B e (by omega) e1 ?_ en, fun z => absurd (by omega) z⟩
      have o1 := on (G (c + 13 + s) 1) (by omega) (by omega)
      rw [hse.2] at o1
      by_cases q : G (c + 13 + s) 1 = e
      · rw [← q]; omega
      · have := en (G (c + 13 + s) 1) (by omega) hse.1; omega
    | succ k ih =>
      intro e he e1 en
      have a := fl.1 e (by omega) e1
      refine s_X2_saved_26 hC.2.1 ⟨by omega, fun z => absurd z (by omega), fun _ => ⟨by omega, by rw [all3]; omega, fun z => B e (by omega) e1 (by rw [all3] at z; omega) en, fun z => ?_⟩⟩
      rw [all3] at z
      rw [show e + -1 = (k : Int) by omega]
      exact ih (k : Int) rfl (by omega) (fun j j0 j1 => by
        by_cases q : j = e
        · rw [q]; omega
        · exact en j (by omega) j1)
  exact key (G c 6 - 1).toNat (G c 6 - 1) (by omega) (by omega) (fun j j0 j1 => by omega)
end SAVED
