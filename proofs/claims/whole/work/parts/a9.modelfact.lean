/-! THE MODEL READS AN E: its small methods, and what is written on the way -/
def dpN (O : Int → Int) : Nat → Nat
  | 0 => 0
  | k + 1 => if O ((k : Int) + 1) = 1 then dpN O k else k + 1
theorem dpN_ext {O O' : Int → Int} : ∀ k : Nat, (∀ i : Int, 1 ≤ i → i ≤ (k : Int) → O' i = O i) → dpN O' k = dpN O k := by
  intro k
  induction k with
  | zero => intro _; rfl
  | succ k ih =>
    intro h
    have e : ∀ O : Int → Int, dpN O (k + 1) = if O ((k : Int) + 1) = 1 then dpN O k else k + 1 := fun _ => rfl
    rw [e, e, h _ (by omega) (by omega), ih (fun i i0 i1 => h i i0 (by omega))]
theorem dpN_1 {O : Int → Int} {k : Nat} (h : O ((k : Int) + 1) = 1) : dpN O (k + 1) = dpN O k := if_pos h
theorem dpN_2 {O : Int → Int} {k : Nat} (h : O ((k : Int) + 1) ≠ 1) : dpN O (k + 1) = k + 1 := if_neg h
theorem dpN_le (O : Int → Int) : ∀ k : Nat, dpN O k ≤ k := by
  intro k
  induction k with
  | zero => exact Nat.le_refl _
  | succ k ih =>
    by_cases h : O ((k : Int) + 1) = 1
    · rw [dpN_1 h]; omega
    · rw [dpN_2 h]; omega
/-- the code of a join of the class -/
def jcd (x : Int) : Int := if x = -8 then 22 else if x = -7 then 21 else if x = -6 then 20 else if x = -5 then 25 else if x = -4 then 24 else if x = -3 then 27 else 26
def put1 (G : Mem) (v : Int) : Mem := st (st G 329 (G 311 27) v) 311 27 (G 311 27 + 1)
section MFACT
variable {d : Nat} {G G' : Mem} {Q : Int → Mem → Prop} {t : Int → Int} {n b l : Int} {D : Mem}
theorem c_puts {v : Int} (hc : 0 ≤ G 311 27 ∧ G 311 27 < 6000) (h : Q 0 (put1 G v)) : Ct d M_X12_puts NT 0 0 (some lay) [(2, 311), (0, v)] G Q := by
  refine ctof (s_X12_puts_0 ⟨hc, fun G2 e2 G3 e3 => ?_⟩)
  have z : G2 311 27 = G 311 27 := by rw [e2, st_nq _ _ _ _ (by decide)]
  rw [e3, z, e2]
  exact h
theorem c_fact (hm : MdX t n b G) (hl : G 311 29 = l) (hl3 : 0 ≤ l ∧ l < 3) (h1 : isF t n l b → Q (fcode (widx (twd t n b) - 24)) G) (h0 : ¬ isF t n l b → Q 0 G) : Ct d M_X12_fact NT 0 0 (some lay) [(2, 311)] G Q := by
  have r := mkd_iff (tkd_r (t := t) (n := n) (b := b))
  refine ctof (s_X12_fact_0 ?_)
  rw [hm.2.2.2.2.1, hl]
  refine ⟨by omega, fun x => ?_, fun x => h0 (fun z => by have := z.1; omega)⟩
  have k2 : tkd t n b = 2 := by omega
  have ok := twd_ok k2
  have b1 := fR_in (B := 27) (by decide) _ ok.1
  have b2 := pow8 ok.2
  rw [hm.2.2.2.2.2.1 k2]
  have yes : ∀ (w : Nat) (c v : Int), w < 32 → fR 27 ((vocF.getD w []).reverse) = c → fcode ((w : Int) - 24) = v → allw l ((w : Int) - 24) → fR 27 (twd t n b) = c → Q v G := fun w c v hw hc hv ha e => by
    have z := (isW_num (t := t) (n := n) (b := b) hw hc).mpr ⟨k2, e⟩
    have g := h1 ⟨k2, by rw [z.2]; exact ha⟩
    rw [z.2, hv] at g
    exact g
  have no : ∀ (w : Nat) (c : Int), w < 32 → fR 27 ((vocF.getD w []).reverse) = c → ¬ fR 27 (twd t n b) = c → ¬ widx (twd t n b) = (w : Int) := fun w c hw hc e z => e ((isW_num (t := t) (n := n) (b := b) hw hc).mp ⟨k2, z⟩).2
  refine ⟨by omega, fun e28 => ⟨by omega, fun l2 => ⟨fun e24 => ⟨fun e25 => ⟨fun e26 => ⟨fun e29 => ⟨fun l0 => ⟨fun e27 => ⟨fun e30 => h0 ?_, fun y => yes 30 _ _ (by decide) (by decide) (by decide) (by unfold allw; omega) (Decidable.not_not.mp y)⟩, fun y => yes 27 _ _ (by decide) (by decide) (by decide) (by unfold allw; omega) (Decidable.not_not.mp y)⟩, fun l0 => h0 ?_⟩, fun y => yes 29 _ _ (by decide) (by decide) (by decide) (by unfold allw; omega) (Decidable.not_not.mp y)⟩, fun y => yes 26 _ _ (by decide) (by decide) (by decide) (by unfold allw; omega) (Decidable.not_not.mp y)⟩, fun y => yes 25 _ _ (by decide) (by decide) (by decide) (by unfold allw; omega) (Decidable.not_not.mp y)⟩, fun y => yes 24 _ _ (by decide) (by decide) (by decide) (by unfold allw; omega) (Decidable.not_not.mp y)⟩, fun l2 => ⟨fun e31 => h0 ?_, fun y => yes 31 _ _ (by decide) (by decide) (by decide) (by unfold allw; omega) (Decidable.not_not.mp y)⟩⟩, fun y => yes 28 _ _ (by decide) (by decide) (by decide) (by unfold allw; omega) (Decidable.not_not.mp y)⟩
  · rintro ⟨-, ha⟩
    have n28 := no 28 _ (by decide) (by decide) e28
    have n24 := no 24 _ (by decide) (by decide) e24
    have n25 := no 25 _ (by decide) (by decide) e25
    have n26 := no 26 _ (by decide) (by decide) e26
    have n29 := no 29 _ (by decide) (by decide) e29
    have n27 := no 27 _ (by decide) (by decide) e27
    have n30 := no 30 _ (by decide) (by decide) e30
    unfold allw at ha
    omega
  · rintro ⟨-, ha⟩
    have n28 := no 28 _ (by decide) (by decide) e28
    have n24 := no 24 _ (by decide) (by decide) e24
    have n25 := no 25 _ (by decide) (by decide) e25
    have n26 := no 26 _ (by decide) (by decide) e26
    have n29 := no 29 _ (by decide) (by decide) e29
    unfold allw at ha
    omega
  · rintro ⟨-, ha⟩
    have n28 := no 28 _ (by decide) (by decide) e28
    have n31 := no 31 _ (by decide) (by decide) e31
    unfold allw at ha
    omega
theorem pop152 {x2 : Int} : ∀ k : Nat, k ≤ 5 → (∀ i : Int, 1 ≤ i → i ≤ (k : Int) → G 330 i = 1 ∨ G 330 i = 2) → Rn d M_X12_reads zN 172 [(0, (2, 311)), (1, (0, (dpN (G 330) k : Int))), (2, (0, x2))] [] G Q → Rn d M_X12_reads zN 152 [(0, (2, 311)), (1, (0, (k : Int))), (2, (0, x2))] [] G Q := by
  intro k
  induction k with
  | zero => intro _ _ h; exact s_X12_reads_152 ⟨by omega, fun _ => h, fun x => absurd (by omega) x⟩
  | succ k ih =>
    intro hk ho h
    have o := ho ((k + 1 : Nat) : Int) (by omega) (by omega)
    have e1 : ((k + 1 : Nat) : Int) = (k : Int) + 1 := by omega
    refine s_X12_reads_152 ⟨by omega, fun x => absurd x (by omega), fun _ => ⟨by omega, by rcases o with o | o <;> rw [o] <;> decide, fun y => ?_, fun y => ?_⟩⟩
    · rw [e1] at y
      rw [dpN_2 y] at h
      exact h
    · rw [e1] at y
      rw [dpN_1 (Decidable.not_not.mp y)] at h
      have z := ih (by omega) (fun i i0 i1 => ho i i0 (by omega)) h
      rwa [show ((k + 1 : Nat) : Int) + -1 = (k : Int) by omega]
theorem pop379 {x2 : Int} : ∀ k : Nat, k ≤ 5 → (∀ i : Int, 1 ≤ i → i ≤ (k : Int) → G 330 i = 1 ∨ G 330 i = 2) → Rn d M_X12_reads zN 424 [(0, (2, 311)), (1, (0, (dpN (G 330) k : Int))), (2, (0, x2))] [] G Q → Rn d M_X12_reads zN 379 [(0, (2, 311)), (1, (0, (k : Int))), (2, (0, x2))] [] G Q := by
  intro k
  induction k with
  | zero => intro _ _ h; exact s_X12_reads_379 ⟨by omega, fun _ => h, fun x => absurd (by omega) x⟩
  | succ k ih =>
    intro hk ho h
    have o := ho ((k + 1 : Nat) : Int) (by omega) (by omega)
    have e1 : ((k + 1 : Nat) : Int) = (k : Int) + 1 := by omega
    refine s_X12_reads_379 ⟨by omega, fun x => absurd x (by omega), fun _ => ⟨by omega, by rcases o with o | o <;> rw [o] <;> decide, fun y => ?_, fun y => ?_⟩⟩
    · rw [e1] at y
      rw [dpN_2 y] at h
      exact h
    · rw [e1] at y
      rw [dpN_1 (Decidable.not_not.mp y)] at h
      have z := ih (by omega) (fun i i0 i1 => ho i i0 (by omega)) h
      rwa [show ((k + 1 : Nat) : Int) + -1 = (k : Int) by omega]
end MFACT
section GREL
variable {d : Nat} {G G' M M1 M2 D D1 D2 : Mem} {Q : Int → Mem → Prop} {t : Int → Int} {n b b1 b2 l x c p : Int} {ts ps ts' ps' : List Int}
/-- what reading an E from depth x and code c on may write -/
def EF (x c : Int) (M M' : Mem) : Prop := ∀ q k : Int, ¬ (q = 311 ∧ ((4 ≤ k ∧ k ≤ 9) ∨ k = 27 ∨ k = 42)) → ¬ (q = 329 ∧ c ≤ k ∧ k < 2000) → ¬ (q = 330 ∧ x < k) → ¬ (q = 331 ∧ x ≤ k) → M' q k = M q k
theorem EF.rfl' : EF x c M M := fun _ _ _ _ _ _ => rfl
theorem EF.tr (h : EF x c M M1) (h' : EF x c M1 M2) : EF x c M M2 := fun q k a e f g => (h' q k a e f g).trans (h q k a e f g)
theorem EF.mono {x' c' : Int} (h : EF x' c' M M1) (hx : x ≤ x') (hc : c ≤ c') : EF x c M M1 := fun q k a e f g => h q k a (by omega) (by omega) (by omega)
theorem NtF.ef (h : NtF M M1) : EF x c M M1 := fun q k a _ _ _ => h q k (by omega)
theorem MdF.ef (h : MdF M M1) : EF x c M M1 := fun q k a _ _ _ => h q k (by omega)
def EFd (p : Int) (D D' : Mem) : Prop := ∀ q k : Int, ¬ (q = 11 ∧ p ≤ k) → ¬ (q = 6 ∧ k = 6) → D' q k = D q k
theorem EFd.rfl' : EFd p D D := fun _ _ _ _ => rfl
theorem EFd.tr (h : EFd p D D1) (h' : EFd p D1 D2) : EFd p D D2 := fun q k a e => (h' q k a e).trans (h q k a e)
theorem EFd.mono {p' : Int} (h : EFd p' D D1) (hp : p ≤ p') : EFd p D D1 := fun q k a e => h q k (by omega) e
/-- from a place b to a place b1: codes ts of the model, steps ps of the class -/
def GR (x c p : Int) (ts ps : List Int) (b : Int) (D M : Mem) (b' : Int) (D' M' : Mem) : Prop :=
  EF x c M M' ∧ EFd p D D' ∧ (M 311 27 = c ∧ M' 311 27 = c + (ts.length : Int)) ∧ At (fun k => M' 329 k) c ts ∧ (D 6 6 = p ∧ D' 6 6 = p + (ps.length : Int)) ∧ At (fun k => D' 11 k) p ps ∧ b + (ts.length : Int) ≤ b'
theorem GR.comp (h : GR x c p ts ps b D M b1 D1 M1) (h' : GR x (c + (ts.length : Int)) (p + (ps.length : Int)) ts' ps' b1 D1 M1 b2 D2 M2) : GR x c p (ts ++ ts') (ps ++ ps') b D M b2 D2 M2 := by
  obtain ⟨a1, a2, a3, a4, a5, a6, a7⟩ := h
  obtain ⟨e1, e2, e3, e4, e5, e6, e7⟩ := h'
  refine ⟨a1.tr (e1.mono (by omega) (by omega)), a2.tr (e2.mono (by omega)), ⟨a3.1, ?_⟩, (At_app _ _ _).mpr ⟨At_ext _ _ (fun k k0 k1 => (e1 329 k (by omega) (by omega) (by omega) (by omega)).symm) a4, e4⟩, ⟨a5.1, ?_⟩, (At_app _ _ _).mpr ⟨At_ext _ _ (fun k k0 k1 => (e2 11 k (by omega) (by omega)).symm) a6, e6⟩, ?_⟩
  · rw [e3.2, List.length_append]; omega
  · rw [e5.2, List.length_append]; omega
  · rw [List.length_append]; omega
theorem GR.mono {x' : Int} (h : GR x' c p ts ps b D M b1 D1 M1) (hx : x ≤ x') : GR x c p ts ps b D M b1 D1 M1 := ⟨h.1.mono hx (Int.le_refl _), h.2⟩
theorem GR.eq {c' p' : Int} (h : GR x c p ts ps b D M b1 D1 M1) (hc : c' = c) (hp : p' = p) : GR x c' p' ts ps b D M b1 D1 M1 := by subst hc; subst hp; exact h
/-- a step of the class -/
def adD (v : Int) (D : Mem) : Mem := st (st D 11 (D 6 6) v) 6 6 (D 6 6 + 1)
theorem GR.add {v : Int} : GR x (M 311 27) (D 6 6) [] [v] b D M b (adD v D) M := by
  refine ⟨EF.rfl', fun q k a e => ?_, ⟨rfl, by simp⟩, trivial, ⟨rfl, ?_⟩, ⟨?_, trivial⟩, by simp⟩
  · unfold adD
    rw [st_ne _ _ e]
    by_cases hq : q = 11
    · subst hq; rw [st_nk _ _ _ (by omega)]
    · rw [st_nq _ _ _ _ hq]
  · unfold adD; rw [st_same]; simp
  · show adD v D 11 (D 6 6) = v
    unfold adD; rw [st_nq _ _ _ _ (by decide), st_same]
/-- a code of the model; one token is gone past -/
theorem GR.put {v : Int} (hb : b + 1 ≤ b1) (h2 : M 311 27 < 2000) (f : EF x (M 311 27) (put1 M v) M1) (f27 : M1 311 27 = M 311 27 + 1) (f29 : M1 329 (M 311 27) = v) : GR x (M 311 27) (D 6 6) [v] [] b D M b1 D M1 := by
  refine ⟨EF.tr (fun q k a e _ _ => ?_) f, EFd.rfl', ⟨rfl, by simpa using f27⟩, ⟨f29, trivial⟩, ⟨rfl, by simp⟩, trivial, by simpa using hb⟩
  unfold put1
  rw [st_ne _ _ (by omega), st_ne _ _ (by omega)]
theorem Den.len {r w : Nat} {f : Law} (h : Den l r w ts ps f) : ps.length ≤ ts.length := by
  refine h (fun _ _ ts ps _ => ps.length ≤ ts.length) ⟨?_, ?_, ?_, ?_, ?_, ?_, ?_, ?_, ?_, ?_, ?_, ?_⟩ <;> intros <;> simp_all <;> omega
/-- where both stand while an E is read -/
def EI (t : Int → Int) (n l b : Int) (D M : Mem) : Prop := MdX t n b M ∧ M 311 29 = l ∧ (1000 ≤ M 311 27 ∧ M 311 27 ≤ 1000 + b) ∧ (0 ≤ D 6 6 ∧ D 6 6 ≤ b)
def PO (t : Int → Int) (n x l : Int) (r w : Nat) (b : Int) (D M : Mem) (b' : Int) (D' M' : Mem) : Prop := MdX t n b' M' ∧ ∃ ts ps f, Den l r w ts ps f ∧ GR x (M 311 27) (D 6 6) ts ps b D M b' D' M'
theorem EI.gr (h : EI t n l b D M) (hm : MdX t n b1 M1) (hg : GR x c p ts ps b D M b1 D1 M1) (hl : ps.length ≤ ts.length) : EI t n l b1 D1 M1 := by
  obtain ⟨a1, a2, a3, a4, a5, a6, a7⟩ := hg
  obtain ⟨e1, e2, e3, e4⟩ := h
  have := a1 311 29 (by omega) (by omega) (by omega) (by omega)
  exact ⟨hm, by omega, by omega, by omega⟩
theorem EI.po {r w : Nat} (h : EI t n l b D M) (hp : PO t n x l r w b D M b1 D1 M1) : EI t n l b1 D1 M1 := by
  obtain ⟨hm, ts, ps, f, hd, hg⟩ := hp
  exact h.gr hm hg hd.len
end GREL
