/-! THE TOKENS of a tape t of n signs, from a place p on: where one begins, its kind, where the next may begin -/
def spn (P : Int → Bool) (t : Int → Int) : Nat → Int → Int
  | 0, p => p
  | k + 1, p => if P (t p) = true then spn P t k (p + 1) else p
def spE (P : Int → Bool) (t : Int → Int) (n p : Int) : Int := spn P t (n - p).toNat p
def bkB (x : Int) : Bool := decide (x = 10 ∨ x = 32)
def ltB (x : Int) : Bool := decide (97 ≤ x ∧ x ≤ 122)
def dgB (x : Int) : Bool := decide (48 ≤ x ∧ x ≤ 57)
def sgB (x : Int) : Bool := decide ((40 ≤ x ∧ x ≤ 43) ∨ x = 45 ∨ (59 ≤ x ∧ x ≤ 61))
section SPAN
variable {P : Int → Bool} {t : Int → Int} {n p : Int}
theorem spE_t (hp : p < n) (h : P (t p) = true) : spE P t n p = spE P t n (p + 1) := by
  unfold spE
  obtain ⟨k, hk⟩ : ∃ k : Nat, (n - p).toNat = k + 1 := ⟨(n - p).toNat - 1, by omega⟩
  rw [hk, show (n - (p + 1)).toNat = k by omega]
  exact if_pos h
theorem spE_f (h : n ≤ p ∨ P (t p) = false) : spE P t n p = p := by
  unfold spE
  rcases Nat.eq_zero_or_pos (n - p).toNat with hk | hk
  · rw [hk]; rfl
  · obtain ⟨k, hk⟩ : ∃ k : Nat, (n - p).toNat = k + 1 := ⟨(n - p).toNat - 1, by omega⟩
    rw [hk]
    rcases h with h | h
    · omega
    · exact if_neg (by rw [h]; decide)
theorem spn_in : ∀ (k : Nat) (p : Int), p ≤ spn P t k p ∧ spn P t k p ≤ p + k ∧ (∀ j, p ≤ j → j < spn P t k p → P (t j) = true) ∧ (spn P t k p < p + k → P (t (spn P t k p)) = false) := by
  intro k
  induction k with
  | zero => intro p; exact ⟨by show p ≤ p; omega, by show p ≤ p + 0; omega, fun j a b => absurd (show j < p from b) (by omega), fun z => absurd (show p < p + 0 from z) (by omega)⟩
  | succ k ih =>
    intro p
    by_cases h : P (t p) = true
    · have e : spn P t (k + 1) p = spn P t k (p + 1) := if_pos h
      obtain ⟨a, b, c, f⟩ := ih (p + 1)
      rw [e]
      refine ⟨by omega, by omega, fun j j0 j1 => ?_, fun z => f (by omega)⟩
      by_cases hj : j = p
      · rw [hj]; exact h
      · exact c j (by omega) j1
    · have e : spn P t (k + 1) p = p := if_neg h
      rw [e]
      exact ⟨by omega, by omega, fun j a b => by omega, fun _ => by simpa using h⟩
theorem spE_in : p ≤ spE P t n p ∧ (p ≤ n → spE P t n p ≤ n) := by
  have h := spn_in (P := P) (t := t) (n - p).toNat p
  unfold spE
  exact ⟨h.1, fun z => by have := h.2.1; omega⟩
theorem spE_all {j : Int} (h0 : p ≤ j) (h1 : j < spE P t n p) : P (t j) = true := (spn_in (P := P) (t := t) (n - p).toNat p).2.2.1 j h0 h1
theorem spE_end (h0 : p ≤ n) (h1 : spE P t n p < n) : P (t (spE P t n p)) = false := (spn_in (P := P) (t := t) (n - p).toNat p).2.2.2 (by unfold spE at h1; omega)
end SPAN
def rwl (t : Int → Int) (b : Int) : Nat → List Int
  | 0 => []
  | k + 1 => t (b + k) :: rwl t b k
def fR (B : Int) : List Int → Int
  | [] => 0
  | x :: xs => fR B xs * B + (x - 96)
def fD : List Int → Int
  | [] => 0
  | x :: xs => fD xs * 10 + (x - 48)
def WdOk (L : List Int) : Prop := ∀ x ∈ L, 97 ≤ x ∧ x ≤ 122
theorem fR_in {B : Int} (hB : 27 ≤ B) : ∀ L : List Int, WdOk L → 0 ≤ fR B L ∧ fR B L + 1 ≤ B ^ L.length := by
  intro L
  induction L with
  | nil => intro _; exact ⟨by show (0 : Int) ≤ 0; omega, by show (0 : Int) + 1 ≤ B ^ 0; rw [Int.pow_zero]; omega⟩
  | cons x xs ih =>
    intro h
    have hx := h x (List.mem_cons_self ..)
    obtain ⟨a, b⟩ := ih (fun y hy => h y (List.mem_cons_of_mem _ hy))
    have e : fR B (x :: xs) = fR B xs * B + (x - 96) := rfl
    rw [e, List.length_cons, Int.pow_succ]
    have m1 : 0 ≤ fR B xs * B := Int.mul_nonneg a (by omega)
    have m2 : (fR B xs + 1) * B ≤ B ^ xs.length * B := Int.mul_le_mul_of_nonneg_right b (by omega)
    rw [Int.add_mul, Int.one_mul] at m2
    omega
theorem fR_inj {B : Int} (hB : 27 ≤ B) : ∀ L M : List Int, WdOk L → WdOk M → fR B L = fR B M → L = M := by
  intro L
  induction L with
  | nil =>
    intro M _ hM e
    cases M with
    | nil => rfl
    | cons y ys =>
      have hy := hM y (List.mem_cons_self ..)
      have a := (fR_in hB ys (fun z hz => hM z (List.mem_cons_of_mem _ hz))).1
      have m1 : 0 ≤ fR B ys * B := Int.mul_nonneg a (by omega)
      have e : (0 : Int) = fR B ys * B + (y - 96) := e
      omega
  | cons x xs ih =>
    intro M hL hM e
    have hx := hL x (List.mem_cons_self ..)
    have hxs : WdOk xs := fun z hz => hL z (List.mem_cons_of_mem _ hz)
    have a := (fR_in hB xs hxs).1
    have m0 : 0 ≤ fR B xs * B := Int.mul_nonneg a (by omega)
    cases M with
    | nil =>
      have e : fR B xs * B + (x - 96) = 0 := e
      omega
    | cons y ys =>
      have hy := hM y (List.mem_cons_self ..)
      have hys : WdOk ys := fun z hz => hM z (List.mem_cons_of_mem _ hz)
      have e : fR B xs * B + (x - 96) = fR B ys * B + (y - 96) := e
      have e1 : (fR B xs * B + (x - 96)) % B = x - 96 := by rw [Int.add_comm, Int.add_mul_emod_self_right]; exact Int.emod_eq_of_lt (by omega) (by omega)
      have e2 : (fR B ys * B + (y - 96)) % B = y - 96 := by rw [Int.add_comm, Int.add_mul_emod_self_right]; exact Int.emod_eq_of_lt (by omega) (by omega)
      have exy : x = y := by rw [e, e2] at e1; omega
      have e3 : fR B xs * B = fR B ys * B := by omega
      have e4 : fR B xs = fR B ys := Int.eq_of_mul_eq_mul_right (by omega) e3
      rw [exy, ih ys hxs hys e4]
theorem rwl_ok {t : Int → Int} {b : Int} : ∀ k : Nat, (∀ j, b ≤ j → j < b + k → ltB (t j) = true) → WdOk (rwl t b k) ∧ (rwl t b k).length = k := by
  intro k
  induction k with
  | zero => intro _; exact ⟨fun x hx => (by cases hx), rfl⟩
  | succ k ih =>
    intro h
    obtain ⟨a, e⟩ := ih (fun j j0 j1 => h j j0 (by omega))
    have hk := h (b + k) (by omega) (by omega)
    unfold ltB at hk
    have hk := of_decide_eq_true hk
    refine ⟨fun x hx => ?_, by show (rwl t b k).length + 1 = k + 1; rw [e]⟩
    rcases List.mem_cons.mp hx with hx | hx
    · rw [hx]; exact hk
    · exact a x hx
theorem fD_in {t : Int → Int} {b : Int} : ∀ k : Nat, (∀ j, b ≤ j → j < b + k → dgB (t j) = true) → 0 ≤ fD (rwl t b k) ∧ fD (rwl t b k) + 1 ≤ 10 ^ k := by
  intro k
  induction k with
  | zero => intro _; exact ⟨by show (0 : Int) ≤ 0; omega, by show (0 : Int) + 1 ≤ 10 ^ 0; rw [Int.pow_zero]; omega⟩
  | succ k ih =>
    intro h
    obtain ⟨a, e⟩ := ih (fun j j0 j1 => h j j0 (by omega))
    have hk := h (b + k) (by omega) (by omega)
    unfold dgB at hk
    have hk := of_decide_eq_true hk
    have ee : fD (rwl t b (k + 1)) = fD (rwl t b k) * 10 + (t (b + k) - 48) := rfl
    rw [ee, Int.pow_succ]
    omega
/-! a token that begins at b: 0 none, 1 strange, 2 a word, 3 a number, 4 a sign -/
def tbg (t : Int → Int) (n p : Int) : Int := spE bkB t n p
def twe (t : Int → Int) (n b : Int) : Int := spE ltB t n b
def tne (t : Int → Int) (n b : Int) : Int := spE dgB t n b
def tkd (t : Int → Int) (n b : Int) : Int := if n ≤ b then 0 else if ltB (t b) = true then (if twe t n b - b ≤ 8 then 2 else 1) else if dgB (t b) = true then (if tne t n b - b ≤ 4 then 3 else 1) else if sgB (t b) = true then 4 else 1
def tnx (t : Int → Int) (n b : Int) : Int := if n ≤ b then b else if ltB (t b) = true then twe t n b else if dgB (t b) = true then tne t n b else b + 1
def twd (t : Int → Int) (n b : Int) : List Int := rwl t b (twe t n b - b).toNat
def tnm (t : Int → Int) (n b : Int) : Int := fD (rwl t b (tne t n b - b).toNat)
/-- the token behind it -/
def nxt (t : Int → Int) (n b : Int) : Int := tbg t n (tnx t n b)
section TOKP
variable {t : Int → Int} {n b p : Int}
theorem tbg_in (h : 0 ≤ p ∧ p ≤ n) : p ≤ tbg t n p ∧ tbg t n p ≤ n := ⟨spE_in.1, spE_in.2 h.2⟩
theorem twe_in (hb : b < n) : b ≤ twe t n b ∧ twe t n b ≤ n ∧ (ltB (t b) = true → b < twe t n b) := by
  refine ⟨spE_in.1, spE_in.2 (by omega), fun z => ?_⟩
  have e : twe t n b = spE ltB t n (b + 1) := spE_t hb z
  have := (spE_in (P := ltB) (t := t) (n := n) (p := b + 1)).1
  omega
theorem tne_in (hb : b < n) : b ≤ tne t n b ∧ tne t n b ≤ n ∧ (dgB (t b) = true → b < tne t n b) := by
  refine ⟨spE_in.1, spE_in.2 (by omega), fun z => ?_⟩
  have e : tne t n b = spE dgB t n (b + 1) := spE_t hb z
  have := (spE_in (P := dgB) (t := t) (n := n) (p := b + 1)).1
  omega
theorem tnx_in (h : 0 ≤ b ∧ b ≤ n) : b ≤ tnx t n b ∧ tnx t n b ≤ n ∧ (b < n → b < tnx t n b) := by
  unfold tnx
  by_cases h0 : n ≤ b
  · rw [if_pos h0]; omega
  · rw [if_neg h0]
    have a := twe_in (t := t) (n := n) (b := b) (by omega)
    have e := tne_in (t := t) (n := n) (b := b) (by omega)
    by_cases h1 : ltB (t b) = true
    · rw [if_pos h1]; have := a.2.2 h1; omega
    · rw [if_neg h1]
      by_cases h2 : dgB (t b) = true
      · rw [if_pos h2]; have := e.2.2 h2; omega
      · rw [if_neg h2]; omega
theorem nxt_in (h : 0 ≤ b ∧ b ≤ n) : b ≤ nxt t n b ∧ nxt t n b ≤ n ∧ (b < n → b < nxt t n b) := by
  have a := tnx_in (t := t) h
  have e := tbg_in (t := t) (n := n) (p := tnx t n b) (by omega)
  unfold nxt
  exact ⟨by omega, by omega, fun z => by have := a.2.2 z; omega⟩
theorem tkd_w (h : tkd t n b = 2) : b < n ∧ ltB (t b) = true ∧ twe t n b - b ≤ 8 := by
  unfold tkd at h
  by_cases h0 : n ≤ b
  · rw [if_pos h0] at h; omega
  · rw [if_neg h0] at h
    by_cases h1 : ltB (t b) = true
    · rw [if_pos h1] at h
      by_cases h2 : twe t n b - b ≤ 8
      · exact ⟨by omega, h1, h2⟩
      · rw [if_neg h2] at h; omega
    · rw [if_neg h1] at h
      by_cases h2 : dgB (t b) = true
      · rw [if_pos h2] at h; split at h <;> omega
      · rw [if_neg h2] at h; split at h <;> omega
theorem tkd_n (h : tkd t n b = 3) : b < n ∧ dgB (t b) = true ∧ tne t n b - b ≤ 4 := by
  unfold tkd at h
  by_cases h0 : n ≤ b
  · rw [if_pos h0] at h; omega
  · rw [if_neg h0] at h
    by_cases h1 : ltB (t b) = true
    · rw [if_pos h1] at h; split at h <;> omega
    · rw [if_neg h1] at h
      by_cases h2 : dgB (t b) = true
      · rw [if_pos h2] at h
        by_cases h3 : tne t n b - b ≤ 4
        · exact ⟨by omega, h2, h3⟩
        · rw [if_neg h3] at h; omega
      · rw [if_neg h2] at h; split at h <;> omega
theorem twd_ok (h : tkd t n b = 2) : WdOk (twd t n b) ∧ (twd t n b).length ≤ 8 := by
  obtain ⟨h0, h1, h2⟩ := tkd_w h
  have a := twe_in (t := t) (n := n) (b := b) h0
  have x := rwl_ok (t := t) (b := b) (twe t n b - b).toNat (fun j j0 j1 => spE_all (n := n) j0 (by unfold twe at *; omega))
  unfold twd
  exact ⟨x.1, by rw [x.2]; omega⟩
theorem tnm_in (h : tkd t n b = 3) : 0 ≤ tnm t n b ∧ tnm t n b ≤ 9999 := by
  obtain ⟨h0, h1, h2⟩ := tkd_n h
  have a := tne_in (t := t) (n := n) (b := b) h0
  have x := fD_in (t := t) (b := b) (tne t n b - b).toNat (fun j j0 j1 => spE_all (n := n) j0 (by unfold tne at *; omega))
  unfold tnm
  have p4 : (10 : Int) ^ (tne t n b - b).toNat ≤ 10000 := by
    have : (tne t n b - b).toNat ≤ 4 := by omega
    generalize (tne t n b - b).toNat = k at *
    match k, this with
    | 0, _ => decide
    | 1, _ => decide
    | 2, _ => decide
    | 3, _ => decide
    | 4, _ => decide
  omega
theorem tkd_r : 0 ≤ tkd t n b ∧ tkd t n b ≤ 4 := by
  unfold tkd
  repeat' split
  all_goals omega
theorem tkd_0 : tkd t n b = 0 ↔ n ≤ b := by
  constructor
  · intro h
    unfold tkd at h
    by_cases h0 : n ≤ b
    · exact h0
    · rw [if_neg h0] at h
      exfalso
      revert h
      repeat' split
      all_goals omega
  · intro h; unfold tkd; exact if_pos h
end TOKP
