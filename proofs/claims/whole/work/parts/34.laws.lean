/-! THE E: what is told, as steps of the class and codes of the model, and what it comes to -/
abbrev DR : Type := Nat → Nat → List Int → List Int → ((Int → Int) → Int) → Prop
def fcode (j : Int) : Int := ([2, 3, 4, 6, 1, 5, 7, 8] : List Int).getD j.toNat 0
/-- the facts of a law: 0 wake, 1 spill, 2 queue -/
def allw (l j : Int) : Prop := (l ≠ 2 ∧ (j = 0 ∨ j = 1 ∨ j = 2 ∨ j = 5)) ∨ j = 4 ∨ (l = 1 ∧ (j = 3 ∨ j = 6)) ∨ (l = 2 ∧ j = 7)
def DenCl (l : Int) (P : DR) : Prop :=
  (∀ w v, w < 5 → 0 ≤ v → v ≤ 9999 → P 4 w [100 + v] [v] (fun _ => v)) ∧
  (∀ w j, w < 5 → allw l j → P 4 w [fcode j] [-9 - j] (fun fa => fa j)) ∧
  (∀ w ts ps f, w < 5 → P 4 (w + 1) ts ps f → P 4 w (30 :: ts) (ps ++ [-1]) (fun fa => if f fa = 0 then 1 else 0)) ∧
  (∀ w ts ps f, w < 5 → P 0 (w + 1) ts ps f → P 4 w (28 :: (ts ++ [29])) ps f) ∧
  (∀ r w ts ps f, r < 4 → P (r + 1) w ts ps f → P r w ts ps f) ∧
  (∀ w t1 p1 f1 t2 p2 f2, P 3 w t1 p1 f1 → P 4 w t2 p2 f2 → P 3 w (t1 ++ 22 :: t2) (p1 ++ (p2 ++ [-8])) (fun fa => wr (f1 fa * f2 fa))) ∧
  (∀ w t1 p1 f1 t2 p2 f2, P 2 w t1 p1 f1 → P 3 w t2 p2 f2 → P 2 w (t1 ++ 20 :: t2) (p1 ++ (p2 ++ [-6])) (fun fa => wr (f1 fa + f2 fa))) ∧
  (∀ w t1 p1 f1 t2 p2 f2, P 2 w t1 p1 f1 → P 3 w t2 p2 f2 → P 2 w (t1 ++ 21 :: t2) (p1 ++ (p2 ++ [-7])) (fun fa => wr (f1 fa - f2 fa))) ∧
  (∀ w t1 p1 f1 t2 p2 f2, P 2 w t1 p1 f1 → P 2 w t2 p2 f2 → P 1 w (t1 ++ 24 :: t2) (p1 ++ (p2 ++ [-4])) (fun fa => if f1 fa < f2 fa then 1 else 0)) ∧
  (∀ w t1 p1 f1 t2 p2 f2, P 2 w t1 p1 f1 → P 2 w t2 p2 f2 → P 1 w (t1 ++ 25 :: t2) (p1 ++ (p2 ++ [-5])) (fun fa => if f1 fa = f2 fa then 1 else 0)) ∧
  (∀ w t1 p1 f1 t2 p2 f2, P 0 w t1 p1 f1 → P 1 w t2 p2 f2 → P 0 w (t1 ++ 26 :: t2) (p1 ++ (p2 ++ [-2])) (fun fa => if f1 fa ≠ 0 ∧ f2 fa ≠ 0 then 1 else 0)) ∧
  (∀ w t1 p1 f1 t2 p2 f2, P 0 w t1 p1 f1 → P 1 w t2 p2 f2 → P 0 w (t1 ++ 27 :: t2) (p1 ++ (p2 ++ [-3])) (fun fa => if f1 fa ≠ 0 ∨ f2 fa ≠ 0 then 1 else 0))
/-- the least such relation -/
def Den (l : Int) : DR := fun r w ts ps f => ∀ P : DR, DenCl l P → P r w ts ps f
theorem Den.cl (l : Int) : DenCl l (Den l) :=
  ⟨fun w v h1 h2 h3 P hP => hP.1 w v h1 h2 h3, fun w j h1 h2 P hP => hP.2.1 w j h1 h2, fun w ts ps f h1 h2 P hP => hP.2.2.1 w ts ps f h1 (h2 P hP), fun w ts ps f h1 h2 P hP => hP.2.2.2.1 w ts ps f h1 (h2 P hP),
   fun r w ts ps f h1 h2 P hP => hP.2.2.2.2.1 r w ts ps f h1 (h2 P hP), fun w t1 p1 f1 t2 p2 f2 h1 h2 P hP => hP.2.2.2.2.2.1 w t1 p1 f1 t2 p2 f2 (h1 P hP) (h2 P hP),
   fun w t1 p1 f1 t2 p2 f2 h1 h2 P hP => hP.2.2.2.2.2.2.1 w t1 p1 f1 t2 p2 f2 (h1 P hP) (h2 P hP), fun w t1 p1 f1 t2 p2 f2 h1 h2 P hP => hP.2.2.2.2.2.2.2.1 w t1 p1 f1 t2 p2 f2 (h1 P hP) (h2 P hP),
   fun w t1 p1 f1 t2 p2 f2 h1 h2 P hP => hP.2.2.2.2.2.2.2.2.1 w t1 p1 f1 t2 p2 f2 (h1 P hP) (h2 P hP), fun w t1 p1 f1 t2 p2 f2 h1 h2 P hP => hP.2.2.2.2.2.2.2.2.2.1 w t1 p1 f1 t2 p2 f2 (h1 P hP) (h2 P hP),
   fun w t1 p1 f1 t2 p2 f2 h1 h2 P hP => hP.2.2.2.2.2.2.2.2.2.2.1 w t1 p1 f1 t2 p2 f2 (h1 P hP) (h2 P hP), fun w t1 p1 f1 t2 p2 f2 h1 h2 P hP => hP.2.2.2.2.2.2.2.2.2.2.2 w t1 p1 f1 t2 p2 f2 (h1 P hP) (h2 P hP)⟩
theorem allw_rng {l j : Int} (h : allw l j) : 0 ≤ j ∧ j < 8 := by
  unfold allw at h
  omega
/-- what it comes to is an int -/
theorem Den.inr {l : Int} {r w : Nat} {ts ps : List Int} {f : (Int → Int) → Int} (h : Den l r w ts ps f) {fa : Int → Int} (hf : ∀ j, allw l j → InR (fa j)) : InR (f fa) := by
  have b01 : ∀ (p : Prop) [Decidable p], InR (if p then (1 : Int) else 0) := fun p _ => by split <;> omega
  exact h (fun _ _ _ _ f => InR (f fa)) ⟨fun _ v _ h2 h3 => show InR v from ⟨by omega, by omega⟩, fun _ j _ hj => hf j hj, fun _ _ _ f _ _ => b01 _, fun _ _ _ _ _ h => h, fun _ _ _ _ _ _ h => h,
    fun _ _ _ _ _ _ _ _ _ => wr_in _, fun _ _ _ _ _ _ _ _ _ => wr_in _, fun _ _ _ _ _ _ _ _ _ => wr_in _, fun _ _ _ _ _ _ _ _ _ => b01 _, fun _ _ _ _ _ _ _ _ _ => b01 _, fun _ _ _ _ _ _ _ _ _ => b01 _, fun _ _ _ _ _ _ _ _ _ => b01 _⟩
/-- it depends on the law's facts alone -/
theorem Den.ext {l : Int} {r w : Nat} {ts ps : List Int} {f : (Int → Int) → Int} (h : Den l r w ts ps f) {fa fb : Int → Int} (hf : ∀ j, allw l j → fa j = fb j) : f fa = f fb := by
  refine h (fun _ _ _ _ f => f fa = f fb) ⟨fun _ _ _ _ _ => rfl, fun _ j _ hj => hf j hj, fun _ _ _ f _ h => ?_, fun _ _ _ _ _ h => h, fun _ _ _ _ _ _ h => h, ?_, ?_, ?_, ?_, ?_, ?_, ?_⟩
  · show (if f fa = 0 then (1 : Int) else 0) = if f fb = 0 then 1 else 0
    rw [h]
  all_goals
    intro _ _ _ f1 _ _ f2 h1 h2
    show _ = _
    simp only [h1, h2]
theorem Den.ne {l : Int} {r w : Nat} {ts ps : List Int} {f : (Int → Int) → Int} (h : Den l r w ts ps f) : 1 ≤ ts.length ∧ 1 ≤ ps.length := by
  refine h (fun _ _ ts ps _ => 1 ≤ ts.length ∧ 1 ≤ ps.length) ⟨?_, ?_, ?_, ?_, ?_, ?_, ?_, ?_, ?_, ?_, ?_, ?_⟩ <;> intros <;> simp_all <;> omega
/-- a list stands in an array from i on -/
def At (F : Int → Int) : Int → List Int → Prop
  | _, [] => True
  | i, x :: xs => F i = x ∧ At F (i + 1) xs
theorem At_app {F : Int → Int} : ∀ (a b : List Int) (i : Int), At F i (a ++ b) ↔ At F i a ∧ At F (i + a.length) b := by
  intro a
  induction a with
  | nil => intro b i; simp [At]
  | cons x xs ih =>
    intro b i
    simp only [List.cons_append, At, ih, List.length_cons, and_assoc]
    rw [show i + 1 + (xs.length : Int) = i + ((xs.length + 1 : Nat) : Int) from by omega]
theorem At_ext {F F' : Int → Int} : ∀ (a : List Int) (i : Int), (∀ k, i ≤ k → k < i + a.length → F k = F' k) → At F i a → At F' i a := by
  intro a
  induction a with
  | nil => intro i _ _; trivial
  | cons x xs ih =>
    intro i h ha
    refine ⟨by rw [← h i (Int.le_refl _) (by simp; omega)]; exact ha.1, ih (i + 1) (fun k h1 h2 => h k (by omega) (by simp; omega)) ha.2⟩
theorem At_shift {F F' : Int → Int} {e : Int} : ∀ (a : List Int) (i : Int), (∀ k, i ≤ k → k < i + a.length → F k = F' (k + e)) → At F i a → At F' (i + e) a := by
  intro a
  induction a with
  | nil => intro i _ _; trivial
  | cons x xs ih =>
    intro i h ha
    refine ⟨by rw [← h i (Int.le_refl _) (by simp; omega)]; exact ha.1, ?_⟩
    have := ih (i + 1) (fun k h1 h2 => h k (by omega) (by simp; omega)) ha.2
    rwa [show i + 1 + e = i + e + 1 from by omega] at this
section LAWS
variable {d : Nat} {G : Mem} {Q : Int → Mem → Prop}
theorem c_X3_isTold {t l : Int} (ht : Bs 3 t) (hl : 0 ≤ l ∧ l < 3) (hi : InR (G (t + 2) l)) (h1 : G (t + 2) l ≠ 0 → Q 1 G) (h0 : G (t + 2) l = 0 → Q 0 G) : Ct d M_X3_isTold NT 0 0 (some lay) [(2, t), (0, l)] G Q :=
  ctof (s_X3_isTold_0 ht ⟨hl, hi, h0, h1⟩)
theorem c_X3_setFact {t w v : Int} (ht : Bs 3 t) (hw : 24 ≤ w ∧ w < 32) (h : Q 0 (st G (t + 1) (w - 24) (wr v))) : Ct d M_X3_setFact NT 0 0 (some lay) [(2, t), (0, w), (0, v)] G Q :=
  ctof (s_X3_setFact_0 ht ⟨by omega, fun G2 e2 => by rw [e2]; exact h⟩)
theorem c_X3_factOf {t p : Int} (ht : Bs 3 t) (hp : -16 ≤ p ∧ p ≤ -9) (h : Q (G (t + 1) (-9 - p)) G) : Ct d M_X3_factOf NT 0 0 (some lay) [(2, t), (0, p)] G Q :=
  ctof (s_X3_factOf_0 ht ⟨by omega, fun c1 => by omega, fun _ => ⟨fun c2 => by omega, fun _ => ⟨by omega, h⟩⟩⟩)
def jnd (j a b : Int) : Int := if j = -2 then (if a ≠ 0 ∧ b ≠ 0 then 1 else 0) else if j = -3 then (if a ≠ 0 ∨ b ≠ 0 then 1 else 0) else if j = -4 then (if a < b then 1 else 0) else if j = -5 then (if a = b then 1 else 0) else if j = -6 then a + b else if j = -7 then a - b else a * b
theorem c_X3_joined {j a b : Int} (hj : -8 ≤ j ∧ j ≤ -2) (ha : InR a) (hb : InR b) (h : Q (jnd j a b) G) : Ct d M_X3_joined NT 0 0 (some lay) [(0, j), (0, a), (0, b)] G Q := by
  unfold jnd at h
  refine ctof (s_X3_joined_0 ⟨by omega, fun c => ?_, fun c => ?_, fun c => ?_, fun c => ⟨ha, hb, fun c2 => ?_, fun c2 => ?_⟩, fun c => ⟨ha, hb, fun c2 => ?_, fun c2 => ?_⟩, fun c => ⟨ha, fun c2 => ?_, fun c2 => ⟨hb, fun c3 => ?_, fun c3 => ?_⟩⟩, fun c => ⟨ha, fun c2 => ?_, fun c2 => ⟨hb, fun c3 => ?_, fun c3 => ?_⟩⟩⟩)
  · simpa (disch := omega) only [if_neg] using h
  · subst c; simpa using h
  · subst c; simpa using h
  · subst c; simpa [c2] using h
  · subst c; simpa [Decidable.not_not.mp c2] using h
  · subst c; simpa [show ¬ a < b from by omega] using h
  · subst c; simpa [show a < b from by omega] using h
  · subst c; simpa [c2] using h
  · subst c; simpa [Decidable.not_not.mp c2, c3] using h
  · subst c; simpa [Decidable.not_not.mp c2, c3] using h
  · subst c; simpa [c2] using h
  · subst c; simpa [c2, c3] using h
  · subst c; simpa [c2, c3] using h
/-- the class works its steps on the stack: whatever is told as ps comes to v on top -/
def XFr (L : Int) (G0 G : Mem) : Prop := ∀ q k : Int, q ≠ L + 6 → G q k = G0 q k
abbrev XRn (d : Nat) (Q : Int → Mem → Prop) (L l : Int) (G : Mem) (t i : Int) : Prop := Rn (d + 1) M_X3_result zN 9 [(0, (2, L)), (1, (0, l)), (2, (0, t)), (3, (0, i))] [] G Q
def XS (d : Nat) (Q : Int → Mem → Prop) (L l : Int) (G0 : Mem) (r w : Nat) (ps : List Int) (v : Int) : Prop :=
  w < 6 → r ≤ 4 → ∀ (t i : Int) (G : Mem), 0 ≤ t → t ≤ 4 * w + r → XFr L G0 G → At (fun k => G0 (L + 5) k) i ps → 0 ≤ i → i + ps.length ≤ 1000 → i + ps.length ≤ G0 (L + 4) l →
    (∀ G' : Mem, XFr L G0 G' → (∀ s, s < t → G' (L + 6) s = G (L + 6) s) → G' (L + 6) t = v → XRn d Q L l G' (t + 1) (i + ps.length)) → XRn d Q L l G t i
def XD (d : Nat) (Q : Int → Mem → Prop) (L l : Int) (G0 : Mem) : DR := fun r w _ ps f => InR (f (fun j => G0 (L + 1) j)) ∧ XS d Q L l G0 r w ps (f (fun j => G0 (L + 1) j))
theorem XS.up {d : Nat} {Q : Int → Mem → Prop} {L l : Int} {G0 : Mem} {r r' w : Nat} {ps : List Int} {v : Int} (h : XS d Q L l G0 r' w ps v) (hr : r ≤ r') (hr4 : r' ≤ 4) : XS d Q L l G0 r w ps v := by
  intro hw _ t i G t0 t1
  exact h hw hr4 t i G t0 (by omega)
theorem X3_step {L l : Int} {G0 : Mem} (hL : Bs 3 L) (hl : 0 ≤ l ∧ l < 3) (hto : InR (G0 (L + 4) l)) (i t x : Int) (G : Mem) (h0 : 0 ≤ t) (h40 : t < 40) (hG : XFr L G0 G) (i0 : 0 ≤ i) (i1 : i < 1000) (i2 : i < G0 (L + 4) l) (hx : G0 (L + 5) i = x) (hr : (0 ≤ x ∧ x ≤ 9999) ∨ (-16 ≤ x ∧ x ≤ -9))
    (hn : XRn d Q L l (st G (L + 6) t (wr (if 0 ≤ x then x else G0 (L + 1) (-9 - x)))) (t + 1) (i + 1)) : XRn d Q L l G t i := by
  have e4 : G (L + 4) l = G0 (L + 4) l := hG _ _ (by omega)
  have e5 : G (L + 5) i = x := by rw [hG _ _ (by omega)]; exact hx
  have L39 : Rn (d + 1) M_X3_result zN 39 [(0, (2, L)), (1, (0, l)), (2, (0, t)), (3, (0, i)), (4, (0, G (L + 5) i))] [] G Q := by
    rw [e5]
    refine s_X3_result_39 hL ⟨by omega, fun c => by omega, fun _ => ⟨by omega, fun c => ?_, fun c => ⟨by omega, fun G10 e10 => ?_⟩⟩⟩
    · refine c_X3_factOf hL (by omega) ⟨by omega, fun G8 e8 => ?_⟩
      rw [if_neg (by omega), ← hG _ _ (by omega : L + 1 ≠ L + 6)] at hn
      rw [e8]; exact hn
    · rw [if_pos (by omega)] at hn
      rw [e10]; exact hn
  refine s_X3_result_9 hL ⟨hl, by omega, by omega, fun c => by omega, fun _ => ⟨by omega, by omega, fun _ => L39, fun c => ⟨fun c2 => by omega, fun _ => L39⟩⟩⟩
theorem X3_bin {L l : Int} {G0 : Mem} (hL : Bs 3 L) (hl : 0 ≤ l ∧ l < 3) (hto : InR (G0 (L + 4) l)) (j i t x y : Int) (G : Mem) (j1 : -8 ≤ j) (j2 : j ≤ -2) (h0 : 0 ≤ t) (h39 : t < 39) (hG : XFr L G0 G) (i0 : 0 ≤ i) (i1 : i < 1000) (i2 : i < G0 (L + 4) l) (hj : G0 (L + 5) i = j) (hx : G (L + 6) t = x) (hy : G (L + 6) (t + 1) = y) (ix : InR x) (iy : InR y)
    (hn : XRn d Q L l (st G (L + 6) t (wr (jnd j x y))) (t + 1) (i + 1)) : XRn d Q L l G (t + 1 + 1) i := by
  have e4 : G (L + 4) l = G0 (L + 4) l := hG _ _ (by omega)
  have e5 : G (L + 5) i = j := by rw [hG _ _ (by omega)]; exact hj
  have z1 : t + 1 + 1 + (-1) = t + 1 := by omega
  refine s_X3_result_9 hL ⟨hl, by omega, by omega, fun c => by omega, fun _ => ⟨by omega, by omega, fun c => by omega, fun _ => ⟨fun _ => ⟨fun _ => ⟨by omega, fun c => by omega, fun _ => ⟨by omega, by omega, ?_⟩⟩, fun c => by omega⟩, fun c => by omega⟩⟩⟩
  rw [z1, show t + 1 - 1 = t from by omega, e5, hx, hy]
  exact c_X3_joined (by omega) ix iy (fun G16 e16 => by rw [e16]; exact hn)
theorem X3_not {L l : Int} {G0 : Mem} (hL : Bs 3 L) (hl : 0 ≤ l ∧ l < 3) (hto : InR (G0 (L + 4) l)) (i t x : Int) (G : Mem) (h0 : 0 ≤ t) (h39 : t < 39) (hG : XFr L G0 G) (i0 : 0 ≤ i) (i1 : i < 1000) (i2 : i < G0 (L + 4) l) (hj : G0 (L + 5) i = -1) (hx : G (L + 6) t = x) (ix : InR x)
    (hn : XRn d Q L l (st G (L + 6) t (if x = 0 then 1 else 0)) (t + 1) (i + 1)) : XRn d Q L l G (t + 1) i := by
  have e4 : G (L + 4) l = G0 (L + 4) l := hG _ _ (by omega)
  have e5 : G (L + 5) i = -1 := by rw [hG _ _ (by omega)]; exact hj
  have z1 : t + 1 - 1 = t := by omega
  refine s_X3_result_9 hL ⟨hl, by omega, by omega, fun c => by omega, fun _ => ⟨by omega, by omega, fun c => by omega, fun _ => ⟨fun _ => ⟨fun c => absurd e5 c, fun _ => ⟨by omega, fun c => by omega, fun _ => ?_⟩⟩, fun c => by omega⟩⟩⟩
  rw [z1, hx]
  refine ⟨by omega, ix, fun c G22 e22 => ?_, fun c G23 e23 => ?_⟩
  · rw [if_neg c] at hn
    rw [e22]; exact hn
  · rw [if_pos (Decidable.not_not.mp c)] at hn
    rw [e23]; exact hn
theorem XFr.st {L t v : Int} {G0 G : Mem} (h : XFr L G0 G) : XFr L G0 (st G (L + 6) t v) := fun q k hq => by rw [st_nq _ _ _ _ hq]; exact h q k hq
theorem X3_join {L l : Int} {G0 : Mem} (hL : Bs 3 L) (hl : 0 ≤ l ∧ l < 3) (hto : InR (G0 (L + 4) l)) (j : Int) (g : Int → Int → Int) (j1 : -8 ≤ j) (j2 : j ≤ -2) (hg : ∀ x y, InR x → InR y → wr (jnd j x y) = g x y) (w : Nat) (p1 p2 : List Int) (v1 v2 : Int) (r : Nat) (hr : r ≤ 3) (H1 : XS d Q L l G0 r w p1 v1) (i1 : InR v1) (H2 : XS d Q L l G0 (r + 1) w p2 v2) (i2 : InR v2) :
    XS d Q L l G0 r w (p1 ++ (p2 ++ [j])) (g v1 v2) := by
  intro hw _ t i G t0 t1 hG hA i0 i1' i2' hk
  rw [At_app, At_app] at hA
  obtain ⟨a1, a2, a3, -⟩ := hA
  simp only [List.length_append, List.length_cons, List.length_nil, Int.natCast_add, Int.natCast_one, Int.natCast_zero] at i1' i2' hk
  refine H1 hw (by omega) t i G t0 t1 hG a1 i0 (by omega) (by omega) (fun G1 g1 g2 g3 => ?_)
  refine H2 hw (by omega) (t + 1) (i + p1.length) G1 (by omega) (by omega) g1 a2 (by omega) (by omega) (by omega) (fun G2 q1 q2 q3 => ?_)
  refine X3_bin hL hl hto j _ t _ _ G2 j1 j2 t0 (by omega) q1 (by omega) (by omega) (by omega) a3 (by rw [q2 _ (by omega)]; exact g3) q3 i1 i2 ?_
  rw [hg _ _ i1 i2]
  have := hk (st G2 (L + 6) t (g v1 v2)) q1.st (fun s hs => by rw [st_nk _ _ _ (by omega), q2 _ (by omega), g2 _ hs]) (st_same _ _ _ _)
  rw [show i + p1.length + p2.length + 1 = i + (p1.length + (p2.length + (0 + 1))) from by omega]
  exact this
theorem b01 (p : Prop) [Decidable p] : InR (if p then (1 : Int) else 0) := by split <;> omega
theorem w01 (p : Prop) [Decidable p] : wr (if p then (1 : Int) else 0) = if p then 1 else 0 := wr_id (b01 p)
theorem X3_run {L l a : Int} {G0 : Mem} (hL : Bs 3 L) (hl : 0 ≤ l ∧ l < 3) (hto : InR (G0 (L + 4) l)) (hfa : ∀ j, allw a j → InR (G0 (L + 1) j)) {r w : Nat} {ts ps : List Int} {f : (Int → Int) → Int} (hD : Den a r w ts ps f) : XD d Q L l G0 r w ts ps f := by
  refine hD (XD d Q L l G0) ⟨?_, ?_, ?_, ?_, ?_, ?_, ?_, ?_, ?_, ?_, ?_, ?_⟩
  · intro w v hw v0 v1
    refine ⟨show InR v from ⟨by omega, by omega⟩, fun _ _ t i G t0 t1 hG hA i0 i1 i2 hk => ?_⟩
    simp only [List.length_cons, List.length_nil, Int.natCast_add, Int.natCast_one, Int.natCast_zero, Int.zero_add] at i1 i2 hk
    refine X3_step hL hl hto i t v G t0 (by omega) hG i0 (by omega) (by omega) hA.1 (Or.inl ⟨v0, v1⟩) ?_
    rw [if_pos v0, wr_id (by omega)]
    exact hk _ hG.st (fun s hs => st_nk _ _ _ (by omega)) (st_same _ _ _ _)
  · intro w j hw hj
    refine ⟨hfa j hj, fun _ _ t i G t0 t1 hG hA i0 i1 i2 hk => ?_⟩
    have hr := allw_rng hj
    simp only [List.length_cons, List.length_nil, Int.natCast_add, Int.natCast_one, Int.natCast_zero, Int.zero_add] at i1 i2 hk
    refine X3_step hL hl hto i t (-9 - j) G t0 (by omega) hG i0 (by omega) (by omega) hA.1 (Or.inr (by omega)) ?_
    rw [if_neg (by omega), show -9 - (-9 - j) = j from by omega, wr_id (hfa j hj)]
    exact hk _ hG.st (fun s hs => st_nk _ _ _ (by omega)) (st_same _ _ _ _)
  · intro w ts ps f hw H
    refine ⟨b01 _, fun _ _ t i G t0 t1 hG hA i0 i1 i2 hk => ?_⟩
    rw [At_app] at hA
    obtain ⟨a1, a2, -⟩ := hA
    simp only [List.length_append, List.length_cons, List.length_nil, Int.natCast_add, Int.natCast_one, Int.natCast_zero, Int.zero_add] at i1 i2 hk
    refine H.2 (by omega) (by omega) t i G t0 (by omega) hG a1 i0 (by omega) (by omega) (fun G1 g1 g2 g3 => ?_)
    refine X3_not hL hl hto _ t _ G1 t0 (by omega) g1 (by omega) (by omega) (by omega) a2 g3 H.1 ?_
    have := hk (st G1 (L + 6) t (if f (fun j => G0 (L + 1) j) = 0 then 1 else 0)) g1.st (fun s hs => by rw [st_nk _ _ _ (by omega), g2 _ hs]) (st_same _ _ _ _)
    rw [show i + ps.length + 1 = i + (ps.length + 1) from by omega]
    exact this
  · intro w ts ps f hw H
    exact ⟨H.1, fun _ _ t i G t0 t1 => H.2 (by omega) (by omega) t i G t0 (by omega)⟩
  · intro r w ts ps f hr H
    exact ⟨H.1, H.2.up (by omega) (by omega)⟩
  · intro w t1 p1 f1 t2 p2 f2 H1 H2
    exact ⟨wr_in _, X3_join hL hl hto (-8) (fun x y => wr (x * y)) (by omega) (by omega) (fun x y _ _ => by simp [jnd]) w p1 p2 _ _ 3 (by omega) H1.2 H1.1 H2.2 H2.1⟩
  · intro w t1 p1 f1 t2 p2 f2 H1 H2
    exact ⟨wr_in _, X3_join hL hl hto (-6) (fun x y => wr (x + y)) (by omega) (by omega) (fun x y _ _ => by simp [jnd]) w p1 p2 _ _ 2 (by omega) H1.2 H1.1 H2.2 H2.1⟩
  · intro w t1 p1 f1 t2 p2 f2 H1 H2
    exact ⟨wr_in _, X3_join hL hl hto (-7) (fun x y => wr (x - y)) (by omega) (by omega) (fun x y _ _ => by simp [jnd]) w p1 p2 _ _ 2 (by omega) H1.2 H1.1 H2.2 H2.1⟩
  · intro w t1 p1 f1 t2 p2 f2 H1 H2
    exact ⟨b01 _, X3_join hL hl hto (-4) (fun x y => if x < y then 1 else 0) (by omega) (by omega) (fun x y _ _ => by unfold jnd; simp only [show ((-4 : Int) = -2) = False from by decide, show ((-4 : Int) = -3) = False from by decide, if_false, if_true]; exact w01 _) w p1 p2 _ _ 1 (by omega) (H1.2.up (by omega) (by omega)) H1.1 H2.2 H2.1⟩
  · intro w t1 p1 f1 t2 p2 f2 H1 H2
    exact ⟨b01 _, X3_join hL hl hto (-5) (fun x y => if x = y then 1 else 0) (by omega) (by omega) (fun x y _ _ => by unfold jnd; simp only [show ((-5 : Int) = -2) = False from by decide, show ((-5 : Int) = -3) = False from by decide, show ((-5 : Int) = -4) = False from by decide, if_false, if_true]; exact w01 _) w p1 p2 _ _ 1 (by omega) (H1.2.up (by omega) (by omega)) H1.1 H2.2 H2.1⟩
  · intro w t1 p1 f1 t2 p2 f2 H1 H2
    exact ⟨b01 _, X3_join hL hl hto (-2) (fun x y => if x ≠ 0 ∧ y ≠ 0 then 1 else 0) (by omega) (by omega) (fun x y _ _ => by unfold jnd; rw [if_pos rfl]; exact w01 _) w p1 p2 _ _ 0 (by omega) H1.2 H1.1 H2.2 H2.1⟩
  · intro w t1 p1 f1 t2 p2 f2 H1 H2
    exact ⟨b01 _, X3_join hL hl hto (-3) (fun x y => if x ≠ 0 ∨ y ≠ 0 then 1 else 0) (by omega) (by omega) (fun x y _ _ => by unfold jnd; rw [if_neg (by decide), if_pos rfl]; exact w01 _) w p1 p2 _ _ 0 (by omega) H1.2 H1.1 H2.2 H2.1⟩
end LAWS
