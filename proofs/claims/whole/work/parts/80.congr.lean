section CONGR
variable {d : Nat} {S S' T T' G G' H : Mem} {Q : Int → Mem → Prop} {c : Int} {fs : Int → Law} {th : Int}
/-! a flight by habits reads the cabin alone -/
theorem cor_at (e : CorC c S S') {q k : Int} (h : c ≤ q ∧ q < c + 18 ∧ q ≠ c + 7 ∧ q ≠ c + 12) : S' q k = S q k := e q k h.1 h.2.1 h.2.2.1 h.2.2.2
theorem asl_cg (e : CorC c S S') {w : Int} (hw : 0 ≤ w ∧ w < 5) : aslT S' T c w ↔ aslT S T c w := by
  unfold aslT
  rw [cor_at e (q := c + 13 + w) (k := 7) (by omega), cor_at e (q := c + 13 + w) (k := 8) (by omega)]
theorem rsW_cg (e : CorC c S S') {w : Int} (hw : 0 ≤ w ∧ w < 5) : rsW S' c fs T w = rsW S c fs T w := by
  unfold rsW
  rw [wakV_ext hw e, cor_at e (q := c + 13 + w) (k := 1) (by omega)]
theorem rs_cg (e : CorC c S S') {w : Int} (hw : w = -1 ∨ (0 ≤ w ∧ w < 5)) : rsM S' c fs T w = rsM S c fs T w ∧ rsA S' c fs T w = rsA S c fs T w := by
  unfold rsM rsA
  by_cases h1 : w = -1
  · rw [if_pos (Or.inl h1), if_pos (Or.inl h1), if_pos (Or.inl h1), if_pos (Or.inl h1)]
    exact ⟨rfl, rfl⟩
  · have hw : 0 ≤ w ∧ w < 5 := by omega
    have a := asl_cg (T := T) e hw
    rw [rsW_cg e hw]
    by_cases h2 : aslT S T c w
    · have n1 : ¬ (w = -1 ∨ ¬ aslT S T c w) := fun z => by rcases z with z | z; exact h1 z; exact z h2
      have n2 : ¬ (w = -1 ∨ ¬ aslT S' T c w) := fun z => by rcases z with z | z; exact h1 z; exact z (a.mpr h2)
      rw [if_neg n1, if_neg n2, if_neg n1, if_neg n2]
      exact ⟨rfl, rfl⟩
    · rw [if_pos (Or.inr h2), if_pos (Or.inr (fun z => h2 (a.mp z))), if_pos (Or.inr h2), if_pos (Or.inr (fun z => h2 (a.mp z)))]
      exact ⟨rfl, rfl⟩
theorem hg_cg (e : CorC c S S') (h8 : S c 8 ≤ 5) {f : Int → Int} : ∀ (n : Nat) (i : Int) (T : Mem), TOk S c T → (∀ j, i ≤ j → j < i + n → 0 ≤ f j ∧ f j < S c 6) → hgL S' c fs f n i T = hgL S c fs f n i T ∧ hgA S' c fs f n i T = hgA S c fs f n i T := by
  intro n
  induction n with
  | zero => intro i T _ _; exact ⟨rfl, rfl⟩
  | succ n ih =>
    intro i T hT hf
    have fr := hf i (by omega) (by omega)
    have on := hT.2.2.1 (f i) fr.1 fr.2
    obtain ⟨a, b⟩ := rs_cg (fs := fs) (T := T) e (w := T 31 (f i)) (by omega)
    have x := ih (i + 1) (rsM S c fs T (T 31 (f i))) (rsM_ok hT).1 (fun j j0 j1 => hf j (by omega) (by omega))
    unfold hgL hgA
    rw [a, b, x.1, x.2]
    exact ⟨rfl, rfl⟩
theorem lv_cg (e : CorC c S S') {w : Int} : lvT S' c fs T w = lvT S c fs T w := by
  unfold lvT
  rw [queV_ext e, cor_at e (q := c) (k := 8) (by omega)]
theorem cb_cg (e : CorC c S S') (h8 : S c 8 ≤ 5) {p : Int} (hp : 0 ≤ p) (hT : TOk S c T) : cbT S' c fs T p = cbT S c fs T p := by
  have e6 := cor_at e (q := c) (k := 6) (by omega)
  obtain ⟨a, b⟩ := hg_cg (fs := fs) e h8 (f := fun i => S c 6 - 1 - i) (S c 6 - 1 - p).toNat 0 T hT (fun j j0 j1 => by show 0 ≤ S c 6 - 1 - j ∧ S c 6 - 1 - j < S c 6; omega)
  unfold cbT
  rw [e6, a, b]
theorem go_cg (e : CorC c S S') (h8 : S c 8 ≤ 5) {p : Int} (hp : 0 ≤ p ∧ p < S c 6) (hT : TOk S c T) : goT S' c fs T p = goT S c fs T p := by
  have e6 := cor_at e (q := c) (k := 6) (by omega)
  obtain ⟨a, b⟩ := hg_cg (fs := fs) e h8 (f := fun i => p + 1 + i) (S c 6 - 1 - p).toNat 0 T hT (fun j j0 j1 => by show 0 ≤ p + 1 + j ∧ p + 1 + j < S c 6; omega)
  have on := hT.2.2.1 p hp.1 hp.2
  unfold goT
  rw [e6, a, b, lv_cg e]
  by_cases h1 : T 31 p = -1
  · rw [if_pos (Or.inl h1), if_pos (Or.inl h1)]
  · have s := asl_cg (T := T) e (w := T 31 p) (by omega)
    have g4 := cor_at e (q := c + 13 + T 31 p) (k := 4) (by omega)
    rw [g4]
    by_cases h2 : aslT S T c (T 31 p)
    · rw [if_pos (Or.inr (Or.inr (Or.inr h2))), if_pos (Or.inr (Or.inr (Or.inr (s.mpr h2))))]
    · by_cases h3 : T 22 (T 31 p) ≠ 0 ∨ T 21 (T 31 p) < S (c + 13 + T 31 p) 4
      · rw [if_pos (Or.inr (by rcases h3 with h3 | h3; exact Or.inl h3; exact Or.inr (Or.inl h3))), if_pos (Or.inr (by rcases h3 with h3 | h3; exact Or.inl h3; exact Or.inr (Or.inl h3)))]
      · have n1 : ¬ (T 31 p = -1 ∨ T 22 (T 31 p) ≠ 0 ∨ T 21 (T 31 p) < S (c + 13 + T 31 p) 4 ∨ aslT S T c (T 31 p)) := fun z => by
          rcases z with z | z | z | z
          · exact h1 z
          · exact h3 (Or.inl z)
          · exact h3 (Or.inr z)
          · exact h2 z
        have n2 : ¬ (T 31 p = -1 ∨ T 22 (T 31 p) ≠ 0 ∨ T 21 (T 31 p) < S (c + 13 + T 31 p) 4 ∨ aslT S' T c (T 31 p)) := fun z => by
          rcases z with z | z | z | z
          · exact h1 z
          · exact h3 (Or.inl z)
          · exact h3 (Or.inr z)
          · exact h2 (s.mp z)
        rw [if_neg n1, if_neg n2]
theorem cbs_cg (e : CorC c S S') (h8 : S c 8 ≤ 5) : ∀ (k : Nat) (T : Mem), TOk S c T → cbs S' c fs k T = cbs S c fs k T := by
  intro k
  induction k with
  | zero => intro T _; rfl
  | succ k ih =>
    intro T hT
    show cbs S' c fs k (cbT S' c fs T k) = cbs S c fs k (cbT S c fs T k)
    rw [cb_cg e h8 (by omega) hT, ih _ (cbT_ok hT).1]
theorem gos_cg (e : CorC c S S') (h8 : S c 8 ≤ 5) : ∀ (k : Nat) (T : Mem), (k : Int) ≤ S c 6 → TOk S c T → gos S' c fs k T = gos S c fs k T := by
  intro k
  induction k with
  | zero => intro T _ _; rfl
  | succ k ih =>
    intro T hk hT
    show gos S' c fs k (goT S' c fs T k) = gos S c fs k (goT S c fs T k)
    rw [go_cg e h8 (by omega) hT, ih _ (by omega) (goT_ok hT).1]
theorem nne_cg (e : CorC c S S') {i : Int} (hi : 0 ≤ i ∧ i < 5) : nneT S' T c th i = nneT S T c th i ∧ nlaT S' T c th i = nlaT S T c th i := by
  have a : nneT S' T c th i = nneT S T c th i := by
    unfold nneT grow
    rw [cor_at e (q := c + 13 + i) (k := 2) (by omega), cor_at e (q := c + 13 + i) (k := 0) (by omega)]
  refine ⟨a, ?_⟩
  unfold nlaT
  rw [a, cor_at e (q := c + 13 + i) (k := 3) (by omega)]
theorem lte_cg (e : CorC c S S') : ∀ n : Nat, n ≤ 5 → lteT S' T c th n = lteT S T c th n := by
  intro n
  induction n with
  | zero => intro _; rfl
  | succ n ih =>
    intro hn
    unfold lteT
    rw [ih (by omega), (nne_cg (th := th) (T := T) e (i := (n : Int)) (by omega)).2]
theorem ps_cg (e : CorC c S S') (h8 : S c 8 ≤ 5) : psT S' c th T = psT S c th T := by
  have e8 := cor_at e (q := c) (k := 8) (by omega)
  funext q k
  rw [psT_at, psT_at, e8, lte_cg e _ (by omega)]
  by_cases hk : 0 ≤ k ∧ k < S c 8
  · obtain ⟨a, b⟩ := nne_cg (th := th) (T := T) e (i := k) (by omega)
    rw [a, b]
  · have h1 : ∀ P : Prop, ¬ (0 ≤ k ∧ k < S c 8 ∧ P) := fun P z => hk ⟨z.1, z.2.1⟩
    simp only [h1, if_false]
theorem tk_cg (e : CorC c S S') (h6 : S c 6 ≤ 5) (h8 : S c 8 ≤ 5) (h0 : 0 ≤ S c 6) (hT : TOk S c T) : tkT S' c fs th T = tkT S c fs th T := by
  have e6 := cor_at e (q := c) (k := 6) (by omega)
  have a1 := cbs_ok (fs := fs) (S c 6).toNat T hT
  have cd : clsd S' c (T 20 7) ↔ clsd S c (T 20 7) := by
    unfold clsd
    rw [cor_at e (q := c) (k := 7) (by omega), cor_at e (q := c + 4) (by omega)]
  unfold tkT
  rw [e6, cbs_cg e h8 _ _ hT, gos_cg e h8 _ _ (by omega) a1.1]
  by_cases h : clsd S c (T 20 7)
  · rw [if_pos h, if_pos (cd.mpr h), ps_cg e h8]
  · rw [if_neg h, if_neg (fun z => h (cd.mp z)), ps_cg e h8]
theorem tks_cg (hC : ∀ i, 0 ≤ i → i < S c 8 → SitOk S (c + 13 + i)) (e : CorC c S S') (h6 : S c 6 ≤ 5) (h8 : S c 8 ≤ 5) (h0 : 0 ≤ S c 6) : ∀ (m : Nat) (T : Mem), TOk S c T → T 20 7 + m ≤ 72 → tksT S' c fs th m T = tksT S c fs th m T := by
  intro m
  induction m with
  | zero => intro T _ _; rfl
  | succ m ih =>
    intro T hT ht
    have t1 := tksT_ok (fs := fs) (th := th) hC 1 T hT (by omega)
    have t1' : TOk S c (tkT S c fs th T) ∧ tkT S c fs th T 20 7 = T 20 7 + 1 := ⟨t1.1, t1.2.1⟩
    show tksT S' c fs th m (tkT S' c fs th T) = tksT S c fs th m (tkT S c fs th T)
    rw [tk_cg e h6 h8 h0 hT, ih _ t1'.1 (by omega)]
theorem fly_cg (hC : CbOk S c) (e : CorC c S S') (h : FlOk S c T) : flyT S' c fs th T = flyT S c fs th T := by
  have h6 := hC.1
  have h7 := hC.2.1
  have h8 := hC.2.2.1
  have e7 := cor_at e (q := c) (k := 7) (by omega)
  have cupS := hC.2.2.2.2.2.2.2.1
  obtain ⟨ok0, -, t0⟩ := bgT_ok (S := S) (c := c) (T := T) cupS h.1 h.2.1 h.2.2
  have eb : bgT S' c T = bgT S c T := by
    funext q k
    unfold bgT
    rw [cor_at e (q := c + 3) (by omega)]
  unfold flyT
  rw [e7, eb, tks_cg (fun i i0 i1 => (hC.2.2.2.2.2.1 i i0 i1).1) e h6.2 h8.2 (by omega) _ _ ok0 (by omega)]
theorem pen_cg (e : CorC c S S') : penT S' c T = penT S c T := by
  unfold penT
  rw [cor_at e (q := c + 5) (k := 0) (by omega), cor_at e (q := c + 5) (k := 2) (by omega)]
end CONGR
