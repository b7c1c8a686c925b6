section VALUE
/-! wait or go, in numbers: fr: free to go; pd: paid; od: the odds; th: there again; g: what needs grow; lm: the limit; lt: what a tick too late is; fl: the flight's end -/
def lsF (fr : Int → Bool) (pd od : Int → Int) (t w b : Int) : Int := if fr t = true then min w (pd t + Int.tdiv (od t * b + (10000 - od t) * w) 10000) else w
noncomputable def VF (fr : Int → Bool) (pd od th : Int → Int) (g lm lt fl : Int) (t n : Int) : Int :=
  if h : t < fl then lsF fr pd od t (VF fr pd od th g lm lt fl (t + 1) (n + g) + (if lm < n + g then lt else 0)) (if h2 : t < th t ∧ th t < fl then pd (th t) + VF fr pd od th g lm lt fl (th t) 0 else 0) else 0
termination_by (fl - t).toNat
decreasing_by all_goals omega
noncomputable def wtF (fr : Int → Bool) (pd od th : Int → Int) (g lm lt fl : Int) (t n : Int) : Int := VF fr pd od th g lm lt fl (t + 1) (n + g) + (if lm < n + g then lt else 0)
noncomputable def bhF (fr : Int → Bool) (pd od th : Int → Int) (g lm lt fl : Int) (t : Int) : Int := if th t < fl then pd (th t) + VF fr pd od th g lm lt fl (th t) 0 else 0
variable {fr : Int → Bool} {pd od th : Int → Int} {g lm lt fl now : Int}
theorem VF_lt {t n : Int} (h : t < fl) (ht : t < th t) : VF fr pd od th g lm lt fl t n = lsF fr pd od t (wtF fr pd od th g lm lt fl t n) (bhF fr pd od th g lm lt fl t) := by
  rw [VF, dif_pos h]
  unfold wtF bhF
  by_cases h2 : th t < fl
  · rw [dif_pos ⟨ht, h2⟩, if_pos h2]
  · rw [dif_neg (fun x => h2 x.2), if_neg h2]
theorem VF_end {t n : Int} (h : fl ≤ t) : VF fr pd od th g lm lt fl t n = 0 := by
  rw [VF, dif_neg (by omega)]
/-- what is true of the numbers -/
def VOk (pd od th : Int → Int) (g lm lt fl now : Int) : Prop := (∀ t, now ≤ t → t < fl → (0 ≤ pd t ∧ pd t ≤ 1000000) ∧ (0 ≤ od t ∧ od t ≤ 10000) ∧ t < th t) ∧ (0 ≤ g ∧ g ≤ 20) ∧ lm ≤ 99 ∧ (0 ≤ lt ∧ lt ≤ 1000000) ∧ (0 ≤ now ∧ fl ≤ 72)
theorem lsF_in {t w b W : Int} (hp : 0 ≤ pd t ∧ pd t ≤ 1000000) (ho : 0 ≤ od t ∧ od t ≤ 10000) (hw : 0 ≤ w ∧ w ≤ W) (hb : 0 ≤ b ∧ b ≤ 200000000) (hW : W ≤ 200000000) : (0 ≤ lsF fr pd od t w b ∧ lsF fr pd od t w b ≤ w) ∧ (0 ≤ od t * b + (10000 - od t) * w ∧ od t * b + (10000 - od t) * w ≤ 4000000000000) ∧ 0 ≤ Int.tdiv (od t * b + (10000 - od t) * w) 10000 ∧ Int.tdiv (od t * b + (10000 - od t) * w) 10000 ≤ 400000000 := by
  have m1 := mul_bd ho hb
  have m2 := mul_bd (a := 10000 - od t) (b := w) (A := 10000) (B := 200000000) (by omega) (by omega)
  have m3 : 0 ≤ Int.tdiv (od t * b + (10000 - od t) * w) 10000 ∧ Int.tdiv (od t * b + (10000 - od t) * w) 10000 ≤ 400000000 := by
    rw [Int.tdiv_eq_ediv_of_nonneg (by omega)]
    omega
  refine ⟨?_, by omega, m3⟩
  unfold lsF
  split <;> omega
theorem VF_in (ok : VOk pd od th g lm lt fl now) : ∀ (m : Nat) (t n : Int), now ≤ t → t + m = fl → 0 ≤ VF fr pd od th g lm lt fl t n ∧ VF fr pd od th g lm lt fl t n ≤ 1000000 * m := by
  obtain ⟨h1, h2, h3, h4, h5⟩ := ok
  intro m
  induction m using Nat.strongRecOn with
  | ind m ih =>
    intro t n ht hm
    by_cases h0 : t < fl
    · obtain ⟨k, rfl⟩ : ∃ k, m = k + 1 := ⟨m - 1, by omega⟩
      obtain ⟨p1, p2, p3⟩ := h1 t ht h0
      rw [VF_lt h0 p3]
      have i1 := ih k (by omega) (t + 1) (n + g) (by omega) (by omega)
      have wb : 0 ≤ wtF fr pd od th g lm lt fl t n ∧ wtF fr pd od th g lm lt fl t n ≤ 1000000 * (k + 1 : Nat) := by unfold wtF; split <;> omega
      have bb : 0 ≤ bhF fr pd od th g lm lt fl t ∧ bhF fr pd od th g lm lt fl t ≤ 200000000 := by
        unfold bhF
        by_cases x : th t < fl
        · rw [if_pos x]
          have q := (h1 (th t) (by omega) x).1
          have i2 := ih (fl - th t).toNat (by omega) (th t) 0 (by omega) (by omega)
          omega
        · rw [if_neg x]; omega
      have z := lsF_in (fr := fr) (t := t) (W := 1000000 * (k + 1 : Nat)) p1 p2 wb bb (by omega)
      omega
    · rw [VF_end (by omega)]; omega
theorem VF_b (ok : VOk pd od th g lm lt fl now) {t n : Int} (ht : now ≤ t) : 0 ≤ VF fr pd od th g lm lt fl t n ∧ VF fr pd od th g lm lt fl t n ≤ 72000000 := by
  have h5 := ok.2.2.2.2
  by_cases h : t < fl
  · have := VF_in (fr := fr) ok (fl - t).toNat t n ht (by omega)
    omega
  · rw [VF_end (by omega)]; omega
theorem bhF_b (ok : VOk pd od th g lm lt fl now) {t : Int} (ht : now ≤ t) (h : t < fl) : 0 ≤ bhF fr pd od th g lm lt fl t ∧ bhF fr pd od th g lm lt fl t ≤ 73000000 := by
  unfold bhF
  by_cases x : th t < fl
  · rw [if_pos x]
    have p3 := (ok.1 t ht h).2.2
    have q := (ok.1 (th t) (by omega) x).1
    have i2 := VF_b (fr := fr) ok (t := th t) (n := 0) (by omega)
    omega
  · rw [if_neg x]; omega
theorem wtF_b (ok : VOk pd od th g lm lt fl now) {t n : Int} (ht : now ≤ t) : 0 ≤ wtF fr pd od th g lm lt fl t n ∧ wtF fr pd od th g lm lt fl t n ≤ 73000000 := by
  have i2 := VF_b (fr := fr) ok (t := t + 1) (n := n + g) (by omega)
  have := ok.2.2.2.1
  unfold wtF
  split <;> omega
/-- beyond the limit all needs are alike -/
theorem VF_cap (ok : VOk pd od th g lm lt fl now) : ∀ (m : Nat) (t n n' : Int), now ≤ t → t + m = fl → 100 ≤ n → 100 ≤ n' → VF fr pd od th g lm lt fl t n = VF fr pd od th g lm lt fl t n' := by
  obtain ⟨h1, h2, h3, h4, h5⟩ := ok
  intro m
  induction m with
  | zero => intro t n n' ht hm _ _; rw [VF_end (by omega), VF_end (by omega)]
  | succ m ih =>
    intro t n n' ht hm hn hn'
    have p3 := (h1 t ht (by omega)).2.2
    rw [VF_lt (by omega) p3, VF_lt (by omega) p3]
    unfold wtF
    rw [if_pos (by omega), if_pos (by omega), ih (t + 1) (n + g) (n' + g) (by omega) (by omega) (by omega) (by omega)]
theorem VF_min (ok : VOk pd od th g lm lt fl now) {t n : Int} (ht : now ≤ t) : VF fr pd od th g lm lt fl t (min 199 n) = VF fr pd od th g lm lt fl t n := by
  by_cases h : t < fl
  · by_cases hn : n ≤ 199
    · rw [Int.min_eq_right hn]
    · exact VF_cap ok (fl - t).toNat t _ _ ht (by omega) (by omega) (by omega)
  · rw [VF_end (by omega), VF_end (by omega)]
theorem wtF_min (ok : VOk pd od th g lm lt fl now) {t n : Int} (ht : now ≤ t) : wtF fr pd od th g lm lt fl t (min 199 n) = wtF fr pd od th g lm lt fl t n := by
  have h3 := ok.2.2.1
  have h2 := ok.2.1
  unfold wtF
  by_cases hn : n ≤ 199
  · rw [Int.min_eq_right hn]
  · rw [if_pos (by omega), if_pos (by omega)]
    rw [← VF_min ok (t := t + 1) (n := min 199 n + g) (by omega), ← VF_min ok (t := t + 1) (n := n + g) (by omega), show min 199 (min 199 n + g) = min 199 (n + g) by omega]
/-- the first tick at which one goes, waiting till then -/
noncomputable def FSF (fr : Int → Bool) (pd od th : Int → Int) (g lm lt fl : Int) (n0 now : Int) : Nat → Int
  | 0 => -1
  | m + 1 => if VF fr pd od th g lm lt fl (fl - (m + 1 : Nat)) (n0 + g * (fl - (m + 1 : Nat) - now)) < wtF fr pd od th g lm lt fl (fl - (m + 1 : Nat)) (n0 + g * (fl - (m + 1 : Nat) - now)) then fl - (m + 1 : Nat) else FSF fr pd od th g lm lt fl n0 now m
theorem FSF_in {n0 : Int} : ∀ m : Nat, FSF fr pd od th g lm lt fl n0 now m = -1 ∨ (fl - m ≤ FSF fr pd od th g lm lt fl n0 now m ∧ FSF fr pd od th g lm lt fl n0 now m < fl) := by
  intro m
  induction m with
  | zero => exact Or.inl rfl
  | succ m ih =>
    unfold FSF
    split
    · exact Or.inr (by omega)
    · omega
theorem VF_le {t n : Int} (h : t < fl) (ht : t < th t) : VF fr pd od th g lm lt fl t n ≤ wtF fr pd od th g lm lt fl t n := by
  rw [VF_lt h ht]
  unfold lsF
  split <;> omega
end VALUE
