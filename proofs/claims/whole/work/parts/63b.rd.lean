section LKRD
variable {d : Nat} {S S' G G' H : Mem} {Q : Int → Mem → Prop} {c : Int} {fs : Int → Law}
theorem Hd.cg {sl : Int → Bool} {wk s0 s1 cl wk' s0' s1' cl' : Int → Int} (h : ∀ q, sl q = true → wk q = wk' q ∧ s0 q = s0' q ∧ s1 q = s1' q ∧ cl q = cl' q) : ∀ (n : Nat) (p i : Int), Hd G sl wk s0 s1 cl n p i → Hd G sl wk' s0' s1' cl' n p i := by
  intro n
  induction n with
  | zero => intro p i h; exact h
  | succ n ih =>
    intro p i x
    unfold Hd at x ⊢
    by_cases hs : sl p = true
    · rw [if_pos hs] at x ⊢
      obtain ⟨a, b, e, f⟩ := h p hs
      rw [← a, ← b, ← e, ← f]
      exact ⟨x.1, ih _ _ x.2⟩
    · rw [if_neg hs] at x ⊢
      exact ih _ _ x
/-- what a later look found is what stood at first -/
theorem HdT.rd {S1 : Mem} {t p : Int} {n : Nat} (hC : Cls S c) (rd : RdF c S S1) (h : HdT G S1 c fs t n p) : HdT G S c fs t n p := by
  obtain ⟨hH, ⟨p0, p1, p2⟩, ha, hb, hc', hd, he, hf'⟩ := h
  have sle := slB_rd (t := t) hC rd
  have o : ∀ k, S1 (c + 5) k = S (c + 5) k := fun k => rd.1 _ _ (by omega) (by omega) (by omega) (by omega)
  rw [sle] at hH ha
  rw [o] at p0 hb p1 hc' hH p2 hd
  refine ⟨Hd.cg (fun q hs => ?_) n p 0 hH, ⟨p0, p1, p2⟩, ahOk hC, hb, hc', hd, he, hf'⟩
  unfold clF
  rw [wkD_rd hC hs rd, spD_rd hC hs rd, spD_rd hC hs rd]
  exact ⟨rfl, rfl, rfl, rfl⟩
noncomputable def bwF (S : Mem) (c : Int) (fs : Int → Law) (n : Nat) (p t : Int) : Int := Classical.epsilon (fun v => Bst (slB S c t) (wkD S c fs t) (spD S c fs t 0) (spD S c fs t 1) (S (c + 5) 0) (S (c + 5) 1) (S (c + 5) 2) n p v)
theorem bwF_eq {n : Nat} {p t v : Int} (h : Bst (slB S c t) (wkD S c fs t) (spD S c fs t 0) (spD S c fs t 1) (S (c + 5) 0) (S (c + 5) 1) (S (c + 5) 2) n p v) : v = bwF S c fs n p t := by
  have x := Classical.epsilon_spec (p := fun v => Bst (slB S c t) (wkD S c fs t) (spD S c fs t 0) (spD S c fs t 1) (S (c + 5) 0) (S (c + 5) 1) (S (c + 5) 2) n p v) ⟨v, h⟩
  exact h.one x
noncomputable def pdR (S : Mem) (c : Int) (fs : Int → Law) (n : Nat) (p t : Int) : Int := pdF (slB S c t) (spD S c fs t 0) (spD S c fs t 1) (S (c + 5) 0) (S (c + 5) 1) (fun q => dg (bwF S c fs n p t) q) n p
noncomputable def odR (S : Mem) (c : Int) (fs : Int → Law) (n : Nat) (p t : Int) : Int := thF (slB S c t) (wkD S c fs t) (spD S c fs t 0) (spD S c fs t 1) 0 (fun q => dg (bwF S c fs n p t) q) n p 10000
def frB (S : Mem) (c w t : Int) : Bool := decide (¬ clsd S c t ∧ ¬ aslp S 73 c w t)
def thR (S : Mem) (c : Int) (fs : Int → Law) (t : Int) : Int := t + (1 + queV S c fs t 0)
end LKRD
