section HABITS
variable {d : Nat} {S S' T T' G G' H : Mem} {Q : Int → Mem → Prop} {c : Int} {fs : Int → Law}
/-! a flight by habits, in numbers alone: S: the cabin; T: how it stands in cells 19 (11, 12), 20 to 29, 31 -/
abbrev aslT (S T : Mem) (c w : Int) : Prop := T 22 w = 0 ∧ S (c + 13 + w) 7 ≤ T 20 7 ∧ T 20 7 < S (c + 13 + w) 8 ∧ 3 < T 20 7 - T 23 w
def dgn (T : Mem) : Int := (T 19 12 * 1103515245 + 12345) % 2147483648
def rsW (S : Mem) (c : Int) (fs : Int → Law) (T : Mem) (w : Int) : Int := if T 19 11 = 0 then 1 else if dgn T / 65536 % 10 < wakV S c fs w (T 20 7) (T 27 (S (c + 13 + w) 1)) (T 24 w) then 1 else 0
def rsG (T : Mem) : Mem := if T 19 11 = 0 then T else st T 19 12 (dgn T)
def rsM (S : Mem) (c : Int) (fs : Int → Law) (T : Mem) (w : Int) : Mem := if w = -1 ∨ ¬ aslT S T c w then T else if rsW S c fs T w = 0 then askG (rsG T) 20 w 0 else askG (st (rsG T) 29 w (T 29 w + 1)) 20 w 1
def rsA (S : Mem) (c : Int) (fs : Int → Law) (T : Mem) (w : Int) : Int := if w = -1 ∨ ¬ aslT S T c w then 1 else rsW S c fs T w
def hgL (S : Mem) (c : Int) (fs : Int → Law) (f : Int → Int) : Nat → Int → Mem → Mem
  | 0, _, T => T
  | n + 1, i, T => if rsA S c fs T (T 31 (f i)) = 0 then rsM S c fs T (T 31 (f i)) else hgL S c fs f n (i + 1) (rsM S c fs T (T 31 (f i)))
def hgA (S : Mem) (c : Int) (fs : Int → Law) (f : Int → Int) : Nat → Int → Mem → Int
  | 0, _, _ => 1
  | n + 1, i, T => if rsA S c fs T (T 31 (f i)) = 0 then 0 else hgA S c fs f n (i + 1) (rsM S c fs T (T 31 (f i)))
def cbT (S : Mem) (c : Int) (fs : Int → Law) (T : Mem) (p : Int) : Mem := if T 31 p = -1 ∨ T 22 (T 31 p) ≠ -1 then T else if hgA S c fs (fun i => S c 6 - 1 - i) (S c 6 - 1 - p).toNat 0 T = 0 then hgL S c fs (fun i => S c 6 - 1 - i) (S c 6 - 1 - p).toNat 0 T else st (hgL S c fs (fun i => S c 6 - 1 - i) (S c 6 - 1 - p).toNat 0 T) 22 (T 31 p) 0
def lvT (S : Mem) (c : Int) (fs : Int → Law) (X : Mem) (w : Int) : Mem := st (st (st X 22 w (1 + queV S c fs (X 20 7) (outsf X 20 (S c 8).toNat))) 21 w 0) 28 w (X 28 w + 1)
def goT (S : Mem) (c : Int) (fs : Int → Law) (T : Mem) (p : Int) : Mem := if T 31 p = -1 ∨ T 22 (T 31 p) ≠ 0 ∨ T 21 (T 31 p) < S (c + 13 + T 31 p) 4 ∨ aslT S T c (T 31 p) then T else if hgA S c fs (fun i => p + 1 + i) (S c 6 - 1 - p).toNat 0 T = 0 then hgL S c fs (fun i => p + 1 + i) (S c 6 - 1 - p).toNat 0 T else lvT S c fs (hgL S c fs (fun i => p + 1 + i) (S c 6 - 1 - p).toNat 0 T) (T 31 p)
def cbs (S : Mem) (c : Int) (fs : Int → Law) : Nat → Mem → Mem
  | 0, T => T
  | k + 1, T => cbs S c fs k (cbT S c fs T k)
def gos (S : Mem) (c : Int) (fs : Int → Law) : Nat → Mem → Mem
  | 0, T => T
  | k + 1, T => gos S c fs k (goT S c fs T k)
/-- needs grow by those told in S -/
def nneT (S T : Mem) (c th i : Int) : Int := if T 22 i ≤ 0 then min 199 (T 21 i + grow S (c + 13 + i) (if i = th then 1 else 0)) else T 21 i
def nouT (T : Mem) (i : Int) : Int := if T 22 i ≤ 0 then T 22 i else if T 22 i = 1 then -1 else T 22 i - 1
def nlaT (S T : Mem) (c th i : Int) : Int := if S (c + 13 + i) 3 < nneT S T c th i then 1 else 0
def lteT (S T : Mem) (c th : Int) : Nat → Int
  | 0 => 0
  | n + 1 => lteT S T c th n + nlaT S T c th n
def psT (S : Mem) (c th : Int) (T : Mem) : Mem := fun q k => if q = 20 ∧ k = 7 then T 20 7 + 1 else if q = 20 ∧ k = 11 then T 20 11 + lteT S T c th (S c 8).toNat else if 0 ≤ k ∧ k < S c 8 ∧ q = 21 then nneT S T c th k else if 0 ≤ k ∧ k < S c 8 ∧ q = 22 then nouT T k else if 0 ≤ k ∧ k < S c 8 ∧ q = 26 then T 26 k + nlaT S T c th k else T q k
def tkT (S : Mem) (c : Int) (fs : Int → Law) (th : Int) (T : Mem) : Mem := psT S c th (if clsd S c (T 20 7) then cbs S c fs (S c 6).toNat T else gos S c fs (S c 6).toNat (cbs S c fs (S c 6).toNat T))
def tksT (S : Mem) (c : Int) (fs : Int → Law) (th : Int) : Nat → Mem → Mem
  | 0, T => T
  | k + 1, T => tksT S c fs th k (tkT S c fs th T)
def bgT (S : Mem) (c : Int) (T : Mem) : Mem := fun q k => if q = 20 then 0 else if q = 23 then -100 else if q = 27 then S (c + 3) k else if 21 ≤ q ∧ q ≤ 29 then 0 else T q k
def flyT (S : Mem) (c : Int) (fs : Int → Law) (th : Int) (T : Mem) : Mem := tksT S c fs th (S c 7).toNat (bgT S c T)
/-! what stays true of it -/
def TOk (S : Mem) (c : Int) (T : Mem) : Prop := StOk T 20 ∧ (∀ i, 0 ≤ i → i < 5 → T 27 i = S (c + 3) i) ∧ (∀ s, 0 ≤ s → s < S c 6 → T 31 s = -1 ∨ (0 ≤ T 31 s ∧ T 31 s < S c 8)) ∧ (T 19 11 = 1 → 0 ≤ T 19 12 ∧ T 19 12 < 2147483648) ∧ (T 19 11 = 0 ∨ T 19 11 = 1)
/-- how many were woken, and were too late -/
def Cnt (T : Mem) (a b : Int) : Prop := (0 ≤ T 20 8 ∧ T 20 8 ≤ a) ∧ (0 ≤ T 20 11 ∧ T 20 11 ≤ b) ∧ ∀ i, 0 ≤ i → i < 5 → (0 ≤ T 29 i ∧ T 29 i ≤ T 20 8) ∧ (0 ≤ T 26 i ∧ T 26 i ≤ T 20 11)
theorem rsW_01 {w : Int} : rsW S c fs T w = 0 ∨ rsW S c fs T w = 1 := by
  unfold rsW
  repeat' split
  all_goals first | exact Or.inl rfl | exact Or.inr rfl
theorem rsA_01 {w : Int} : rsA S c fs T w = 0 ∨ rsA S c fs T w = 1 := by
  unfold rsA
  split
  · exact Or.inr rfl
  · exact rsW_01
theorem dgn_in : 0 ≤ dgn T ∧ dgn T < 2147483648 := by unfold dgn; omega
/-- every place behind a rousing -/
theorem rsM_at {w : Int} (h : ¬ (w = -1 ∨ ¬ aslT S T c w)) (q k : Int) : rsM S c fs T w q k = if q = 24 ∧ k = w then T 24 w + 1 else if q = 19 ∧ k = 12 then (if T 19 11 = 0 then T 19 12 else dgn T) else if rsW S c fs T w = 0 then (if q = 20 ∧ k = 9 then T 20 9 + 1 else T q k) else if q = 29 ∧ k = w then T 29 w + 1 else if q = 23 ∧ k = w then T 20 7 else if q = 20 ∧ k = 8 then T 20 8 + 1 else T q k := by
  unfold rsM
  rw [if_neg h]
  have rg : ∀ q k : Int, rsG T q k = if q = 19 ∧ k = 12 then (if T 19 11 = 0 then T 19 12 else dgn T) else T q k := by
    intro q k
    unfold rsG
    split
    · split
      · rename_i h1 h2
        rw [h2.1, h2.2]
      · rfl
    · rfl
  by_cases hw : rsW S c fs T w = 0
  · rw [if_pos hw]
    unfold askG
    rw [if_pos rfl]
    simp only [st, rg, Int.reduceAdd, if_pos hw, Int.reduceEq, false_and, and_false, if_false]
    repeat' split
    all_goals first | rfl | omega
  · rw [if_neg hw]
    unfold askG wakeG
    rw [if_neg (by decide)]
    simp only [st, rg, Int.reduceAdd, if_neg hw, Int.reduceEq, false_and, and_false, if_false]
    repeat' split
    all_goals first | rfl | omega
theorem rsM_id {w : Int} (h : w = -1 ∨ ¬ aslT S T c w) : rsM S c fs T w = T := by unfold rsM; rw [if_pos h]
theorem rsM_ok {w : Int} (h : TOk S c T) : TOk S c (rsM S c fs T w) ∧ rsM S c fs T w 20 7 = T 20 7 ∧ (∀ s, rsM S c fs T w 31 s = T 31 s) ∧ rsM S c fs T w 19 11 = T 19 11 ∧ (∀ i, rsM S c fs T w 22 i = T 22 i ∧ rsM S c fs T w 21 i = T 21 i) := by
  by_cases hx : w = -1 ∨ ¬ aslT S T c w
  · rw [rsM_id hx]; exact ⟨h, rfl, fun _ => rfl, rfl, fun _ => ⟨rfl, rfl⟩⟩
  · obtain ⟨⟨h7, hr⟩, hc, ho, hg, hd⟩ := h
    have a := rsM_at (fs := fs) hx
    have t : rsM S c fs T w 20 7 = T 20 7 := by rw [a]; simp
    have o : ∀ s, rsM S c fs T w 31 s = T 31 s := fun s => by rw [a]; simp
    have dd : rsM S c fs T w 19 11 = T 19 11 := by rw [a]; simp
    have u : ∀ i, rsM S c fs T w 22 i = T 22 i ∧ rsM S c fs T w 21 i = T 21 i := fun i => by rw [a, a]; simp
    have dn := dgn_in (T := T)
    refine ⟨⟨⟨by rw [t]; exact h7, fun i i0 i5 => ?_⟩, fun i i0 i5 => ?_, fun s s0 s5 => by rw [o]; exact ho s s0 s5, fun x => ?_, by rw [dd]; exact hd⟩, t, o, dd, u⟩
    · have x := hr i i0 i5
      unfold RwOk at x ⊢
      simp only [Int.reduceAdd] at x ⊢
      rw [(u i).1, (u i).2, a 23 i, a 27 i]
      simp only [Int.reduceEq, false_and, true_and, if_false]
      refine ⟨x.1, x.2.1, ?_, ?_, x.2.2.2.2⟩
      · repeat' split
        all_goals omega
      · repeat' split
        all_goals omega
    · rw [a]
      simp only [Int.reduceEq, false_and, if_false, ite_self]
      exact hc i i0 i5
    · rw [dd] at x
      have hg := hg x
      rw [a]
      simp only [Int.reduceEq, false_and, true_and, if_true, if_false]
      split <;> omega
theorem rsM_cnt {w a b : Int} (h : Cnt T a b) : Cnt (rsM S c fs T w) (a + 1) b := by
  obtain ⟨h1, h2, h3⟩ := h
  by_cases hx : w = -1 ∨ ¬ aslT S T c w
  · rw [rsM_id hx]; exact ⟨by omega, h2, h3⟩
  · have x := rsM_at (fs := fs) hx
    have t8 : rsM S c fs T w 20 8 = if rsW S c fs T w = 0 then T 20 8 else T 20 8 + 1 := by
      rw [x]
      simp only [Int.reduceEq, false_and, and_false, true_and, if_false, if_true]
    have t11 : rsM S c fs T w 20 11 = T 20 11 := by rw [x]; simp
    refine ⟨by rw [t8]; split <;> omega, by rw [t11]; exact h2, fun i i0 i5 => ?_⟩
    have y := h3 i i0 i5
    have t26 : rsM S c fs T w 26 i = T 26 i := by rw [x]; simp
    have t29 : rsM S c fs T w 29 i = if rsW S c fs T w = 0 then T 29 i else if i = w then T 29 w + 1 else T 29 i := by
      rw [x]
      simp only [Int.reduceEq, false_and, and_false, true_and, if_false]
    rw [t8, t11, t26, t29]
    refine ⟨?_, y.2⟩
    repeat' split
    all_goals first | omega | (subst_vars; omega)
theorem hgL_ok {f : Int → Int} : ∀ (n : Nat) (i : Int) (T : Mem), TOk S c T → TOk S c (hgL S c fs f n i T) ∧ hgL S c fs f n i T 20 7 = T 20 7 ∧ (∀ s, hgL S c fs f n i T 31 s = T 31 s) ∧ hgL S c fs f n i T 19 11 = T 19 11 ∧ (∀ j, hgL S c fs f n i T 22 j = T 22 j ∧ hgL S c fs f n i T 21 j = T 21 j) := by
  intro n
  induction n with
  | zero => intro i T h; exact ⟨h, rfl, fun _ => rfl, rfl, fun _ => ⟨rfl, rfl⟩⟩
  | succ n ih =>
    intro i T h
    unfold hgL
    obtain ⟨a1, a2, a3, a4, a5⟩ := rsM_ok (fs := fs) (w := T 31 (f i)) h
    split
    · exact ⟨a1, a2, a3, a4, a5⟩
    · obtain ⟨b1, b2, b3, b4, b5⟩ := ih (i + 1) _ a1
      exact ⟨b1, b2.trans a2, fun s => (b3 s).trans (a3 s), b4.trans a4, fun j => ⟨(b5 j).1.trans (a5 j).1, (b5 j).2.trans (a5 j).2⟩⟩
theorem hgL_cnt {f : Int → Int} {b : Int} : ∀ (n : Nat) (i a : Int) (T : Mem), Cnt T a b → Cnt (hgL S c fs f n i T) (a + n) b := by
  intro n
  induction n with
  | zero => intro i a T h; rw [show a + ((0 : Nat) : Int) = a by omega]; exact h
  | succ n ih =>
    intro i a T h
    have x := rsM_cnt (S := S) (c := c) (fs := fs) (w := T 31 (f i)) h
    unfold hgL
    split
    · exact ⟨by have := x.1; omega, x.2⟩
    · have y := ih (i + 1) (a + 1) _ x
      rw [show a + ((n + 1 : Nat) : Int) = a + 1 + n by omega]
      exact y
theorem hgA_01 {f : Int → Int} : ∀ (n : Nat) (i : Int) (T : Mem), hgA S c fs f n i T = 0 ∨ hgA S c fs f n i T = 1 := by
  intro n
  induction n with
  | zero => intro i T; exact Or.inr rfl
  | succ n ih =>
    intro i T
    unfold hgA
    split
    · exact Or.inl rfl
    · exact ih _ _
theorem TOk.st22 {w v : Int} (h : TOk S c T) (hv : v = 0 ∨ (0 < v ∧ v ≤ 10 ∧ T 21 w = 0)) : TOk S c (st T 22 w v) := by
  obtain ⟨⟨h7, hr⟩, hc, ho, hg, hd⟩ := h
  refine ⟨⟨by rw [st_nq _ _ _ _ (by decide)]; exact h7, fun i i0 i5 => ?_⟩, fun i i0 i5 => by rw [st_nq _ _ _ _ (by decide)]; exact hc i i0 i5, fun s s0 s5 => by rw [st_nq _ _ _ _ (by decide)]; exact ho s s0 s5, by rw [st_nq _ _ _ _ (by decide), st_nq _ _ _ _ (by decide)]; exact hg, by rw [st_nq _ _ _ _ (by decide)]; exact hd⟩
  have x := hr i i0 i5
  unfold RwOk at x ⊢
  simp only [Int.reduceAdd] at x ⊢
  rw [st_nq _ _ _ _ (show (21 : Int) ≠ 22 by decide), st_nq _ _ _ _ (show (23 : Int) ≠ 22 by decide), st_nq _ _ _ _ (show (27 : Int) ≠ 22 by decide)]
  by_cases hi : i = w
  · subst hi
    rw [st_same]
    refine ⟨x.1, by omega, x.2.2.1, x.2.2.2.1, fun y => by omega⟩
  · rw [st_nk _ _ _ hi]
    exact x
theorem TOk.st21 {w : Int} (h : TOk S c T) : TOk S c (st T 21 w 0) := by
  obtain ⟨⟨h7, hr⟩, hc, ho, hg, hd⟩ := h
  refine ⟨⟨by rw [st_nq _ _ _ _ (by decide)]; exact h7, fun i i0 i5 => ?_⟩, fun i i0 i5 => by rw [st_nq _ _ _ _ (by decide)]; exact hc i i0 i5, fun s s0 s5 => by rw [st_nq _ _ _ _ (by decide)]; exact ho s s0 s5, by rw [st_nq _ _ _ _ (by decide), st_nq _ _ _ _ (by decide)]; exact hg, by rw [st_nq _ _ _ _ (by decide)]; exact hd⟩
  have x := hr i i0 i5
  unfold RwOk at x ⊢
  simp only [Int.reduceAdd] at x ⊢
  rw [st_nq _ _ _ _ (show (22 : Int) ≠ 21 by decide), st_nq _ _ _ _ (show (23 : Int) ≠ 21 by decide), st_nq _ _ _ _ (show (27 : Int) ≠ 21 by decide)]
  by_cases hi : i = w
  · subst hi
    rw [st_same]
    exact ⟨by omega, x.2.1, x.2.2.1, x.2.2.2.1, fun _ => rfl⟩
  · rw [st_nk _ _ _ hi]
    exact x
theorem TOk.st28 {w v : Int} (h : TOk S c T) : TOk S c (st T 28 w v) := by
  obtain ⟨⟨h7, hr⟩, hc, ho, hg, hd⟩ := h
  refine ⟨⟨by rw [st_nq _ _ _ _ (by decide)]; exact h7, fun i i0 i5 => ?_⟩, fun i i0 i5 => by rw [st_nq _ _ _ _ (by decide)]; exact hc i i0 i5, fun s s0 s5 => by rw [st_nq _ _ _ _ (by decide)]; exact ho s s0 s5, by rw [st_nq _ _ _ _ (by decide), st_nq _ _ _ _ (by decide)]; exact hg, by rw [st_nq _ _ _ _ (by decide)]; exact hd⟩
  have x := hr i i0 i5
  unfold RwOk at x ⊢
  simp only [Int.reduceAdd] at x ⊢
  rw [st_nq _ _ _ _ (by decide), st_nq _ _ _ _ (by decide), st_nq _ _ _ _ (by decide), st_nq _ _ _ _ (by decide)]
  exact x
theorem lvT_ok {w : Int} (h : TOk S c T) : TOk S c (lvT S c fs T w) := by
  have q := queV_in (S := S) (c := c) (fs := fs) (t := T 20 7) (ou := outsf T 20 (S c 8).toNat)
  unfold lvT
  -- need first, then out
  have e : st (st T 22 w (1 + queV S c fs (T 20 7) (outsf T 20 (S c 8).toNat))) 21 w 0 = st (st T 21 w 0) 22 w (1 + queV S c fs (T 20 7) (outsf T 20 (S c 8).toNat)) := by
    funext a b
    simp only [st]
    repeat' split
    all_goals first | rfl | omega
  rw [e]
  exact ((h.st21 (w := w)).st22 (Or.inr ⟨by omega, by omega, st_same _ _ _ _⟩)).st28
theorem cbT_ok {p : Int} (h : TOk S c T) : TOk S c (cbT S c fs T p) ∧ cbT S c fs T p 20 7 = T 20 7 ∧ (∀ s, cbT S c fs T p 31 s = T 31 s) ∧ cbT S c fs T p 19 11 = T 19 11 := by
  obtain ⟨b1, b2, b3, b4, b5⟩ := hgL_ok (fs := fs) (f := fun i => S c 6 - 1 - i) (S c 6 - 1 - p).toNat 0 T h
  unfold cbT
  repeat' split
  · exact ⟨h, rfl, fun _ => rfl, rfl⟩
  · exact ⟨b1, b2, b3, b4⟩
  · exact ⟨b1.st22 (Or.inl rfl), by rw [st_nq _ _ _ _ (by decide)]; exact b2, fun s => by rw [st_nq _ _ _ _ (by decide)]; exact b3 s, by rw [st_nq _ _ _ _ (by decide)]; exact b4⟩
theorem goT_ok {p : Int} (h : TOk S c T) : TOk S c (goT S c fs T p) ∧ goT S c fs T p 20 7 = T 20 7 ∧ (∀ s, goT S c fs T p 31 s = T 31 s) ∧ goT S c fs T p 19 11 = T 19 11 := by
  obtain ⟨b1, b2, b3, b4, b5⟩ := hgL_ok (fs := fs) (f := fun i => p + 1 + i) (S c 6 - 1 - p).toNat 0 T h
  unfold goT
  repeat' split
  · exact ⟨h, rfl, fun _ => rfl, rfl⟩
  · exact ⟨b1, b2, b3, b4⟩
  · refine ⟨lvT_ok b1, ?_, fun s => ?_, ?_⟩
    · unfold lvT; rw [st_nq _ _ _ _ (by decide), st_nq _ _ _ _ (by decide), st_nq _ _ _ _ (by decide)]; exact b2
    · unfold lvT; rw [st_nq _ _ _ _ (by decide), st_nq _ _ _ _ (by decide), st_nq _ _ _ _ (by decide)]; exact b3 s
    · unfold lvT; rw [st_nq _ _ _ _ (by decide), st_nq _ _ _ _ (by decide), st_nq _ _ _ _ (by decide)]; exact b4
theorem Cnt.st {a b q w v : Int} (h : Cnt T a b) (hq : q = 21 ∨ q = 22 ∨ q = 28) : Cnt (st T q w v) a b := by
  obtain ⟨h1, h2, h3⟩ := h
  refine ⟨by rw [st_nq _ _ _ _ (by omega)]; exact h1, by rw [st_nq _ _ _ _ (by omega)]; exact h2, fun i i0 i5 => ?_⟩
  rw [st_nq _ _ _ _ (by omega), st_nq _ _ _ _ (by omega), st_nq _ _ _ _ (by omega), st_nq _ _ _ _ (by omega)]
  exact h3 i i0 i5
theorem Cnt.le {a a' b b' : Int} (h : Cnt T a b) (h1 : a ≤ a') (h2 : b ≤ b') : Cnt T a' b' := ⟨by have := h.1; omega, by have := h.2.1; omega, h.2.2⟩
theorem cbT_cnt {p a b : Int} (hs : S c 6 ≤ 5) (hp : 0 ≤ p) (h : Cnt T a b) : Cnt (cbT S c fs T p) (a + 4) b := by
  have x := hgL_cnt (S := S) (c := c) (fs := fs) (f := fun i => S c 6 - 1 - i) (S c 6 - 1 - p).toNat 0 a T h
  have y := x.le (a' := a + 4) (b' := b) (by omega) (Int.le_refl _)
  unfold cbT
  repeat' split
  · exact h.le (by omega) (Int.le_refl _)
  · exact y
  · exact y.st (Or.inr (Or.inl rfl))
theorem goT_cnt {p a b : Int} (hs : S c 6 ≤ 5) (hp : 0 ≤ p) (h : Cnt T a b) : Cnt (goT S c fs T p) (a + 4) b := by
  have x := hgL_cnt (S := S) (c := c) (fs := fs) (f := fun i => p + 1 + i) (S c 6 - 1 - p).toNat 0 a T h
  have y := x.le (a' := a + 4) (b' := b) (by omega) (Int.le_refl _)
  unfold goT
  repeat' split
  · exact h.le (by omega) (Int.le_refl _)
  · exact y
  · unfold lvT
    exact ((y.st (Or.inr (Or.inl rfl))).st (Or.inl rfl)).st (Or.inr (Or.inr rfl))
theorem cbs_ok : ∀ (k : Nat) (T : Mem), TOk S c T → TOk S c (cbs S c fs k T) ∧ cbs S c fs k T 20 7 = T 20 7 ∧ (∀ s, cbs S c fs k T 31 s = T 31 s) ∧ cbs S c fs k T 19 11 = T 19 11 := by
  intro k
  induction k with
  | zero => intro T h; exact ⟨h, rfl, fun _ => rfl, rfl⟩
  | succ k ih =>
    intro T h
    obtain ⟨a1, a2, a3, a4⟩ := cbT_ok (fs := fs) (p := k) h
    obtain ⟨b1, b2, b3, b4⟩ := ih _ a1
    exact ⟨b1, b2.trans a2, fun s => (b3 s).trans (a3 s), b4.trans a4⟩
theorem gos_ok : ∀ (k : Nat) (T : Mem), TOk S c T → TOk S c (gos S c fs k T) ∧ gos S c fs k T 20 7 = T 20 7 ∧ (∀ s, gos S c fs k T 31 s = T 31 s) ∧ gos S c fs k T 19 11 = T 19 11 := by
  intro k
  induction k with
  | zero => intro T h; exact ⟨h, rfl, fun _ => rfl, rfl⟩
  | succ k ih =>
    intro T h
    obtain ⟨a1, a2, a3, a4⟩ := goT_ok (fs := fs) (p := k) h
    obtain ⟨b1, b2, b3, b4⟩ := ih _ a1
    exact ⟨b1, b2.trans a2, fun s => (b3 s).trans (a3 s), b4.trans a4⟩
theorem cbs_cnt {b : Int} (hs : S c 6 ≤ 5) : ∀ (k : Nat) (T : Mem) (a : Int), Cnt T a b → Cnt (cbs S c fs k T) (a + 4 * k) b := by
  intro k
  induction k with
  | zero => intro T a h; rw [show a + 4 * ((0 : Nat) : Int) = a by omega]; exact h
  | succ k ih =>
    intro T a h
    have x := ih _ _ (cbT_cnt (fs := fs) (p := k) hs (by omega) h)
    rw [show a + 4 * ((k + 1 : Nat) : Int) = a + 4 + 4 * k by omega]
    exact x
theorem gos_cnt {b : Int} (hs : S c 6 ≤ 5) : ∀ (k : Nat) (T : Mem) (a : Int), Cnt T a b → Cnt (gos S c fs k T) (a + 4 * k) b := by
  intro k
  induction k with
  | zero => intro T a h; rw [show a + 4 * ((0 : Nat) : Int) = a by omega]; exact h
  | succ k ih =>
    intro T a h
    have x := ih _ _ (goT_cnt (fs := fs) (p := k) hs (by omega) h)
    rw [show a + 4 * ((k + 1 : Nat) : Int) = a + 4 + 4 * k by omega]
    exact x
theorem lte_in {th : Int} : ∀ n : Nat, 0 ≤ lteT S T c th n ∧ lteT S T c th n ≤ n ∧ ∀ i : Nat, i < n → nlaT S T c th i ≤ lteT S T c th n := by
  intro n
  induction n with
  | zero => unfold lteT; exact ⟨by omega, by omega, fun i hi => by omega⟩
  | succ n ih =>
    have b : nlaT S T c th n = 0 ∨ nlaT S T c th n = 1 := by unfold nlaT; split <;> omega
    unfold lteT
    refine ⟨by omega, by omega, fun i hi => ?_⟩
    by_cases h : i = n
    · subst h; omega
    · have := ih.2.2 i (by omega); omega
theorem psT_at {th q k : Int} : psT S c th T q k = if q = 20 ∧ k = 7 then T 20 7 + 1 else if q = 20 ∧ k = 11 then T 20 11 + lteT S T c th (S c 8).toNat else if 0 ≤ k ∧ k < S c 8 ∧ q = 21 then nneT S T c th k else if 0 ≤ k ∧ k < S c 8 ∧ q = 22 then nouT T k else if 0 ≤ k ∧ k < S c 8 ∧ q = 26 then T 26 k + nlaT S T c th k else T q k := rfl
theorem psT_ok {th : Int} (hC : ∀ i, 0 ≤ i → i < S c 8 → SitOk S (c + 13 + i)) (h : TOk S c T) (ht : T 20 7 < 72) : TOk S c (psT S c th T) ∧ psT S c th T 20 7 = T 20 7 + 1 ∧ (∀ s, psT S c th T 31 s = T 31 s) ∧ psT S c th T 19 11 = T 19 11 := by
  obtain ⟨⟨h7, hr⟩, hc, ho, hg, hd⟩ := h
  have t : psT S c th T 20 7 = T 20 7 + 1 := by rw [psT_at]; simp
  have o : ∀ s, psT S c th T 31 s = T 31 s := fun s => by rw [psT_at]; simp
  have dd : psT S c th T 19 11 = T 19 11 := by rw [psT_at]; simp
  refine ⟨⟨⟨by omega, fun i i0 i5 => ?_⟩, fun i i0 i5 => by rw [psT_at]; simp; exact hc i i0 i5, fun s s0 s5 => by rw [o]; exact ho s s0 s5, fun x => by rw [dd] at x; rw [psT_at]; simp; exact hg x, by rw [dd]; exact hd⟩, t, o, dd⟩
  have x := hr i i0 i5
  unfold RwOk at x ⊢
  simp only [Int.reduceAdd] at x ⊢
  have e23 : psT S c th T 23 i = T 23 i := by rw [psT_at]; simp
  have e27 : psT S c th T 27 i = T 27 i := by rw [psT_at]; simp
  have e21 : psT S c th T 21 i = if i < S c 8 then nneT S T c th i else T 21 i := by rw [psT_at]; simp [i0]
  have e22 : psT S c th T 22 i = if i < S c 8 then nouT T i else T 22 i := by rw [psT_at]; simp [i0]
  rw [e21, e22, e23, e27]
  by_cases hi : i < S c 8
  · rw [if_pos hi, if_pos hi]
    have gb := grow_bd (hC i i0 hi) (m := if i = th then 1 else 0) (by split <;> omega)
    unfold nneT nouT
    generalize grow S (c + 13 + i) (if i = th then 1 else 0) = gr at *
    refine ⟨?_, ?_, x.2.2.1, x.2.2.2.1, ?_⟩ <;> (repeat' split) <;> omega
  · rw [if_neg hi, if_neg hi]
    exact x
theorem psT_cnt {th a b : Int} (hm : 0 ≤ S c 8 ∧ S c 8 ≤ 5) (h : Cnt T a b) : Cnt (psT S c th T) a (b + 5) := by
  obtain ⟨h1, h2, h3⟩ := h
  have l := lte_in (S := S) (T := T) (c := c) (th := th) (S c 8).toNat
  have e8 : psT S c th T 20 8 = T 20 8 := by rw [psT_at]; simp
  have e11 : psT S c th T 20 11 = T 20 11 + lteT S T c th (S c 8).toNat := by rw [psT_at]; simp
  refine ⟨by rw [e8]; exact h1, by rw [e11]; omega, fun i i0 i5 => ?_⟩
  have y := h3 i i0 i5
  have e29 : psT S c th T 29 i = T 29 i := by rw [psT_at]; simp
  have e26 : psT S c th T 26 i = if i < S c 8 then T 26 i + nlaT S T c th i else T 26 i := by rw [psT_at]; simp [i0]
  rw [e8, e11, e29, e26]
  refine ⟨y.1, ?_⟩
  by_cases hi : i < S c 8
  · have z := l.2.2 i.toNat (by omega)
    rw [show ((i.toNat : Nat) : Int) = i by omega] at z
    have b01 : 0 ≤ nlaT S T c th i := by unfold nlaT; split <;> omega
    rw [if_pos hi]; omega
  · rw [if_neg hi]; omega
theorem bgT_ok (hc : ∀ s, 0 ≤ s → s < 5 → 0 ≤ S (c + 3) s ∧ S (c + 3) s ≤ 1) (ho : ∀ s, 0 ≤ s → s < S c 6 → T 31 s = -1 ∨ (0 ≤ T 31 s ∧ T 31 s < S c 8)) (hg : T 19 11 = 1 → 0 ≤ T 19 12 ∧ T 19 12 < 2147483648) (hd : T 19 11 = 0 ∨ T 19 11 = 1) : TOk S c (bgT S c T) ∧ Cnt (bgT S c T) 0 0 ∧ bgT S c T 20 7 = 0 := by
  refine ⟨⟨⟨by unfold bgT; simp, fun i i0 i5 => ?_⟩, fun i i0 i5 => by unfold bgT; simp, fun s s0 s5 => ?_, ?_, ?_⟩, ⟨by unfold bgT; simp, by unfold bgT; simp, fun i i0 i5 => by unfold bgT; simp⟩, by unfold bgT; simp⟩
  · have x := hc i i0 i5
    unfold RwOk bgT
    simp
    omega
  · have x := ho s s0 s5
    unfold bgT
    simpa using x
  · unfold bgT
    simpa using hg
  · unfold bgT
    simpa using hd
end HABITS
