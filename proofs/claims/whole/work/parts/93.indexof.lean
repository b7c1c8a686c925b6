/-! the words by their numbers -/
def vocF : List (List Int) := [[114, 111, 119], [102, 108, 105, 103, 104, 116], [115, 105, 116, 116, 101, 114], [97, 116], [110, 101, 101, 100, 115], [108, 105, 109, 105, 116], [103, 111, 101, 115], [115, 108, 101, 101, 112, 115], [116, 111], [98, 101, 108, 116], [116, 114, 111, 108, 108, 101, 121], [112, 114, 105, 99, 101], [102, 101, 105, 103, 110], [119, 97, 107, 101], [115, 112, 105, 108, 108], [113, 117, 101, 117, 101], [112, 108, 97, 105, 110], [100, 114, 105, 110, 107, 101, 114], [108, 105, 103, 104, 116], [116, 97, 108, 108], [102, 101, 105, 103, 110, 101, 114], [110, 111, 116], [97, 110, 100], [111, 114], [100, 101, 112, 116, 104], [108, 101, 103, 115], [99, 117, 112], [103, 97, 112], [116, 105, 99, 107], [97, 115, 107, 101, 100], [115, 105, 100, 101], [111, 117, 116]]
def flatW : List (List Int) → List Int
  | [] => []
  | w :: ws => w ++ 32 :: flatW ws
def idxL : List (List Int) → List Int → Int → Int
  | [], _, _ => -1
  | v :: vs, R, k => if R = v.reverse then k else idxL vs R (k + 1)
/-- which word it is that stands there (backwards) -/
def widx (R : List Int) : Int := idxL vocF R 0
section SCAN
variable {t : Int → Int} {f to : Int}
def scnL (t : Int → Int) (f to : Int) : List Int → Int → Int → Int → Int
  | [], _, _, _ => -1
  | c :: cs, ix, a, sm => if c = 32 then (if sm = 1 ∧ a = to then ix else scnL t f to cs (ix + 1) f 1) else scnL t f to cs ix (a + 1) (if sm = 1 ∧ a < to ∧ t a = c then 1 else 0)
theorem scn_word {rest : List Int} {ix : Int} : ∀ (w : List Int) (a sm : Int), (∀ x ∈ w, x ≠ 32) → scnL t f to (w ++ 32 :: rest) ix a sm = @ite _ (sm = 1 ∧ a + (w.length : Int) = to ∧ At (fun k => t k) a w) (Classical.propDecidable _) ix (scnL t f to rest (ix + 1) f 1) := by
  intro w
  induction w with
  | nil =>
    intro a sm _
    have e : scnL t f to ([] ++ 32 :: rest) ix a sm = if sm = 1 ∧ a = to then ix else scnL t f to rest (ix + 1) f 1 := rfl
    rw [e]
    by_cases h : sm = 1 ∧ a = to
    · rw [if_pos h, if_pos ⟨h.1, by simpa using h.2, trivial⟩]
    · rw [if_neg h, if_neg (fun z => h ⟨z.1, by simpa using z.2.1⟩)]
  | cons c cs ih =>
    intro a sm h
    have hc : c ≠ 32 := h c (List.mem_cons_self ..)
    have e : scnL t f to ((c :: cs) ++ 32 :: rest) ix a sm = if c = 32 then (if sm = 1 ∧ a = to then ix else scnL t f to (cs ++ 32 :: rest) (ix + 1) f 1) else scnL t f to (cs ++ 32 :: rest) ix (a + 1) (if sm = 1 ∧ a < to ∧ t a = c then 1 else 0) := rfl
    rw [e, if_neg hc, ih (a + 1) _ (fun x hx => h x (List.mem_cons_of_mem _ hx))]
    have iff : ((if sm = 1 ∧ a < to ∧ t a = c then (1 : Int) else 0) = 1 ∧ a + 1 + (cs.length : Int) = to ∧ At (fun k => t k) (a + 1) cs) ↔ (sm = 1 ∧ a + ((c :: cs).length : Int) = to ∧ At (fun k => t k) a (c :: cs)) := by
      have ln : ((c :: cs).length : Int) = (cs.length : Int) + 1 := by simp
      rw [ln]
      constructor
      · rintro ⟨h1, h2, h3⟩
        by_cases q : sm = 1 ∧ a < to ∧ t a = c
        · exact ⟨q.1, by omega, q.2.2, h3⟩
        · rw [if_neg q] at h1; omega
      · rintro ⟨h1, h2, h3, h4⟩
        have h3 : t a = c := h3
        exact ⟨if_pos ⟨h1, by omega, h3⟩, by omega, h4⟩
    by_cases q : (if sm = 1 ∧ a < to ∧ t a = c then (1 : Int) else 0) = 1 ∧ a + 1 + (cs.length : Int) = to ∧ At (fun k => t k) (a + 1) cs
    · rw [if_pos q, if_pos (iff.mp q)]
    · rw [if_neg q, if_neg (fun z => q (iff.mpr z))]
def fwd (t : Int → Int) (b : Int) : Nat → List Int
  | 0 => []
  | k + 1 => t b :: fwd t (b + 1) k
theorem fwd_snoc : ∀ (k : Nat) (b : Int), fwd t b (k + 1) = fwd t b k ++ [t (b + k)] := by
  intro k
  induction k with
  | zero => intro b; show [t b] = [t (b + ((0 : Nat) : Int))]; simp
  | succ k ih =>
    intro b
    show t b :: fwd t (b + 1) (k + 1) = (t b :: fwd t (b + 1) k) ++ [t (b + ((k + 1 : Nat) : Int))]
    rw [ih (b + 1), List.cons_append, show b + 1 + (k : Int) = b + ((k + 1 : Nat) : Int) by omega]
theorem rwl_fwd : ∀ (k : Nat) (b : Int), rwl t b k = (fwd t b k).reverse := by
  intro k
  induction k with
  | zero => intro b; rfl
  | succ k ih =>
    intro b
    rw [fwd_snoc, List.reverse_append]
    show t (b + k) :: rwl t b k = [t (b + k)].reverse ++ (fwd t b k).reverse
    rw [ih b]
    rfl
theorem At_fwd : ∀ (w : List Int) (b : Int), At (fun k => t k) b w ↔ fwd t b w.length = w := by
  intro w
  induction w with
  | nil => intro b; exact ⟨fun _ => rfl, fun _ => trivial⟩
  | cons x xs ih =>
    intro b
    show (t b = x ∧ At (fun k => t k) (b + 1) xs) ↔ t b :: fwd t (b + 1) xs.length = x :: xs
    rw [ih (b + 1)]
    exact ⟨fun h => by rw [h.1, h.2], fun h => by injection h with h1 h2; exact ⟨h1, h2⟩⟩
theorem fwd_len : ∀ (k : Nat) (b : Int), (fwd t b k).length = k := by
  intro k
  induction k with
  | zero => intro b; rfl
  | succ k ih => intro b; show (fwd t (b + 1) k).length + 1 = k + 1; rw [ih]
theorem scn_all (hf : f ≤ to) : ∀ (ws : List (List Int)) (ix : Int), (∀ w ∈ ws, ∀ x ∈ w, x ≠ 32) → scnL t f to (flatW ws) ix f 1 = idxL ws (rwl t f (to - f).toNat) ix := by
  intro ws
  induction ws with
  | nil => intro ix _; rfl
  | cons w ws ih =>
    intro ix h
    have e : flatW (w :: ws) = w ++ 32 :: flatW ws := rfl
    have e2 : idxL (w :: ws) (rwl t f (to - f).toNat) ix = if rwl t f (to - f).toNat = w.reverse then ix else idxL ws (rwl t f (to - f).toNat) (ix + 1) := rfl
    rw [e, e2, scn_word w f 1 (h w (List.mem_cons_self ..)), ih (ix + 1) (fun v hv => h v (List.mem_cons_of_mem _ hv)), rwl_fwd]
    have iff : ((1 : Int) = 1 ∧ f + (w.length : Int) = to ∧ At (fun k => t k) f w) ↔ (fwd t f (to - f).toNat).reverse = w.reverse := by
      rw [List.reverse_inj, At_fwd]
      constructor
      · rintro ⟨-, h1, h2⟩
        rw [show (to - f).toNat = w.length by omega]; exact h2
      · intro h2
        have h3 := congrArg List.length h2
        rw [fwd_len] at h3
        exact ⟨rfl, by omega, by rw [← h3]; exact h2⟩
    by_cases q : (fwd t f (to - f).toNat).reverse = w.reverse
    · rw [if_pos q, if_pos (iff.mpr q)]
    · rw [if_neg q, if_neg (fun z => q (iff.mp z))]
theorem At_of {F : Int → Int} : ∀ (cs : List Int) (i : Int), (∀ j : Nat, j < cs.length → F (i + j) = cs.getD j 0) → At F i cs := by
  intro cs
  induction cs with
  | nil => intro _ _; trivial
  | cons x xs ih =>
    intro i h
    refine ⟨?_, ih (i + 1) (fun j hj => ?_)⟩
    · have := h 0 (by simp)
      simpa using this
    · have := h (j + 1) (by simp; omega)
      rw [show i + 1 + (j : Int) = i + ((j + 1 : Nat) : Int) by omega, this]
      rfl
theorem wds_at : At (fun k => wdc k) 0 (flatW vocF) ∧ (flatW vocF).length = 173 := by
  have l : (flatW vocF).length = 173 := by decide +kernel
  refine ⟨At_of _ _ (fun j hj => ?_), l⟩
  rw [l] at hj
  have : ∀ j : Nat, j < 173 → wdc ((0 : Int) + (j : Int)) = (flatW vocF).getD j 0 := by unfold wdc bI; decide +kernel
  exact this j hj
theorem voc_32 : ∀ w ∈ vocF, ∀ x ∈ w, x ≠ 32 := by decide +kernel
end SCAN
section IXOF
variable {d : Nat} {G : Mem} {Q : Int → Mem → Prop} {t : Int → Int} {n f to : Int}
theorem c_indexOf (ht : ∀ k, 0 ≤ k → k < n → G 2 k = t k ∧ InR (t k)) (hn : n ≤ 1000) (hf : 0 ≤ f ∧ f ≤ to) (hto : to ≤ n) (h : Q (widx (rwl t f (to - f).toNat)) G) : Ct (d + 4) M_X10_indexOf NT 0 0 (some lay) [(2, 2), (0, f), (0, to)] G Q := by
  have key : ∀ (cs : List Int) (i : Nat) (ix a sm : Int), i + cs.length = 173 → At (fun k => wdc k) (i : Int) cs → (0 ≤ ix ∧ ix ≤ i) → (f ≤ a ∧ a ≤ f + i) → (sm = 0 ∨ sm = 1) → Q (scnL t f to cs ix a sm) G → Rn (d + 4) M_X10_indexOf zN 11 [(0, (2, 2)), (1, (0, f)), (2, (0, to)), (3, (0, ix)), (4, (0, a)), (5, (0, sm)), (6, (0, (i : Int)))] [] G Q := by
    intro cs
    induction cs with
    | nil =>
      intro i ix a sm hi hA hx ha hs hq
      have hi : i + 0 = 173 := hi
      refine r_iload (i := 6) (by decide +kernel) 6 rfl ?_
      refine r_ldcS (by decide +kernel) rfl ?_
      refine r_callStr (M' := M_J0_length) (idx := 66) (mc' := 0) (ms' := 0) [] (by decide +kernel) cl_X10_66 rfl rfl (Nat.le_of_ble_eq_true rfl) ⟨Nat.le_refl _, Nat.le_refl _⟩ (c_sLen ?_)
      refine r_icmp_ge (a := (i : Int)) (b := 173) (off := 80) (tgt := 98) (by decide +kernel) (by decide) (by omega) (by decide) (fun _ => ?_) (fun x => absurd (by omega) x)
      refine r_iconst (n := -1) (by decide +kernel) ?_
      exact r_ireturn (by decide +kernel) rfl ⟨rfl, Nat.le_refl _, Nat.le_refl _⟩ hq
    | cons c cs ih =>
      intro i ix a sm hi hA hx ha hs hq
      have hi : i + (cs.length + 1) = 173 := hi
      have hc : wdc (i : Int) = c := hA.1
      have hA2 : At (fun k => wdc k) ((i + 1 : Nat) : Int) cs := by
        have := hA.2
        rwa [show (i : Int) + 1 = ((i + 1 : Nat) : Int) by omega] at this
      have wi := wdc_in i (by omega)
      have hq : Q (if c = 32 then (if sm = 1 ∧ a = to then ix else scnL t f to cs (ix + 1) f 1) else scnL t f to cs ix (a + 1) (if sm = 1 ∧ a < to ∧ t a = c then 1 else 0)) G := hq
      refine r_iload (i := 6) (by decide +kernel) 6 rfl ?_
      refine r_ldcS (by decide +kernel) rfl ?_
      refine r_callStr (M' := M_J0_length) (idx := 66) (mc' := 0) (ms' := 0) [] (by decide +kernel) cl_X10_66 rfl rfl (Nat.le_of_ble_eq_true rfl) ⟨Nat.le_refl _, Nat.le_refl _⟩ (c_sLen ?_)
      refine r_icmp_ge (a := (i : Int)) (b := 173) (off := 80) (tgt := 98) (by decide +kernel) (by decide) (by omega) (by decide) (fun x => absurd x (by omega)) (fun _ => ?_)
      refine r_ldcS (by decide +kernel) rfl ?_
      refine r_iload (i := 6) (by decide +kernel) 6 rfl ?_
      refine r_callStr (M' := M_J0_charAt) (idx := 72) (mc' := 0) (ms' := 0) [(0, (i : Int))] (by decide +kernel) cl_X10_72 rfl rfl (Nat.le_of_ble_eq_true rfl) ⟨Nat.le_refl _, Nat.le_refl _⟩ (c_sChar (by omega) ?_)
      rw [hc] at wi ⊢
      refine r_istore (i := 7) (ls1 := [(7, (0, c)), (0, (2, 2)), (1, (0, f)), (2, (0, to)), (3, (0, ix)), (4, (0, a)), (5, (0, sm)), (6, (0, (i : Int)))]) (by decide +kernel) (by decide) rfl ?_
      refine r_iload (i := 7) (by decide +kernel) 0 rfl ?_
      refine r_bipush (n := 32) (by decide +kernel) (by decide +kernel) ?_
      have L50 : Q (scnL t f to cs (ix + 1) f 1) G → Rn (d + 4) M_X10_indexOf zN 50 [(7, (0, c)), (0, (2, 2)), (1, (0, f)), (2, (0, to)), (3, (0, ix)), (4, (0, a)), (5, (0, sm)), (6, (0, (i : Int)))] [] G Q := fun hq => by
        refine r_iinc (i := 3) (n := 1) (ls1 := [(3, (0, ix + 1)), (7, (0, c)), (0, (2, 2)), (1, (0, f)), (2, (0, to)), (4, (0, a)), (5, (0, sm)), (6, (0, (i : Int)))]) (by decide +kernel) 4 rfl (by decide) rfl ?_
        refine r_iload_n (j := 1) (by decide +kernel) 3 rfl rfl ?_
        refine r_istore (i := 4) (ls1 := [(4, (0, f)), (3, (0, ix + 1)), (7, (0, c)), (0, (2, 2)), (1, (0, f)), (2, (0, to)), (5, (0, sm)), (6, (0, (i : Int)))]) (by decide +kernel) (by decide) rfl ?_
        refine r_iconst (n := 1) (by decide +kernel) ?_
        refine r_istore (i := 5) (ls1 := [(5, (0, 1)), (4, (0, f)), (3, (0, ix + 1)), (7, (0, c)), (0, (2, 2)), (1, (0, f)), (2, (0, to)), (6, (0, (i : Int)))]) (by decide +kernel) (by decide) rfl ?_
        refine r_goto (off := 33) (tgt := 92) (by decide +kernel) (by decide) ?_
        refine r_iinc (i := 6) (n := 1) (ls1 := [(6, (0, (i : Int) + 1)), (5, (0, 1)), (4, (0, f)), (3, (0, ix + 1)), (7, (0, c)), (0, (2, 2)), (1, (0, f)), (2, (0, to))]) (by decide +kernel) 7 rfl (by decide) rfl ?_
        refine r_goto (off := -84) (tgt := 11) (by decide +kernel) (by decide) ?_
        refine Rn.sub [5, 6, 7, 3, 2, 1, 0] rfl ?_
        exact ih (i + 1) (ix + 1) f 1 (by omega) hA2 (by omega) (by omega) (Or.inr rfl) hq
      have L87 : ∀ s2 : Int, (s2 = 0 ∨ s2 = 1) → Q (scnL t f to cs ix (a + 1) s2) G → Rn (d + 4) M_X10_indexOf zN 87 [(7, (0, c)), (0, (2, 2)), (1, (0, f)), (2, (0, to)), (3, (0, ix)), (4, (0, a)), (5, (0, sm)), (6, (0, (i : Int)))] [(0, s2)] G Q := fun s2 h2 hq => by
        refine r_istore (i := 5) (ls1 := [(5, (0, s2)), (7, (0, c)), (0, (2, 2)), (1, (0, f)), (2, (0, to)), (3, (0, ix)), (4, (0, a)), (6, (0, (i : Int)))]) (by decide +kernel) (by decide) rfl ?_
        refine r_iinc (i := 4) (n := 1) (ls1 := [(4, (0, a + 1)), (5, (0, s2)), (7, (0, c)), (0, (2, 2)), (1, (0, f)), (2, (0, to)), (3, (0, ix)), (6, (0, (i : Int)))]) (by decide +kernel) 6 rfl (by decide) rfl ?_
        refine r_iinc (i := 6) (n := 1) (ls1 := [(6, (0, (i : Int) + 1)), (4, (0, a + 1)), (5, (0, s2)), (7, (0, c)), (0, (2, 2)), (1, (0, f)), (2, (0, to)), (3, (0, ix))]) (by decide +kernel) 7 rfl (by decide) rfl ?_
        refine r_goto (off := -84) (tgt := 11) (by decide +kernel) (by decide) ?_
        refine Rn.sub [4, 5, 6, 7, 1, 2, 0] rfl ?_
        exact ih (i + 1) ix (a + 1) s2 (by omega) hA2 (by omega) (by omega) h2 hq
      have L86 : ¬ (sm = 1 ∧ a < to ∧ t a = c) → c ≠ 32 → Rn (d + 4) M_X10_indexOf zN 86 [(7, (0, c)), (0, (2, 2)), (1, (0, f)), (2, (0, to)), (3, (0, ix)), (4, (0, a)), (5, (0, sm)), (6, (0, (i : Int)))] [] G Q := fun z hc => by
        refine r_iconst (n := 0) (by decide +kernel) ?_
        rw [if_neg hc, if_neg z] at hq
        exact L87 0 (Or.inl rfl) hq
      refine r_icmp_ne (off := 28) (tgt := 62) (by decide +kernel) (by decide) (by omega) (by decide) (fun c32 => ?_) (fun c32 => ?_)
      · refine r_iload (i := 5) (by decide +kernel) 6 rfl ?_
        refine r_if_eq (off := 22) (tgt := 86) (by decide +kernel) (by decide) (by omega) (fun s0 => L86 (fun z => by omega) c32) (fun s1 => ?_)
        refine r_iload (i := 4) (by decide +kernel) 5 rfl ?_
        refine r_iload_n (j := 2) (by decide +kernel) 3 rfl rfl ?_
        refine r_icmp_ge (off := 16) (tgt := 86) (by decide +kernel) (by decide) (by omega) (by omega) (fun y => L86 (fun z => by omega) c32) (fun y => ?_)
        have ta := ht a (by omega) (by omega)
        refine r_aload_n (j := 0) (by decide +kernel) 1 rfl rfl ?_
        refine r_iload (i := 4) (by decide +kernel) 5 rfl ?_
        refine r_caload (len := 1000) (by decide +kernel) (ly_10_0 bs_10).2.2 (by omega) ?_
        refine r_iload (i := 7) (by decide +kernel) 0 rfl ?_
        rw [ta.1]
        refine r_icmp_ne (off := 7) (tgt := 86) (by decide +kernel) (by decide) ta.2 (by omega) (fun w => L86 (fun z => w z.2.2) c32) (fun w => ?_)
        refine r_iconst (n := 1) (by decide +kernel) ?_
        refine r_goto (off := 4) (tgt := 87) (by decide +kernel) (by decide) ?_
        rw [if_neg c32, if_pos ⟨by omega, by omega, Decidable.not_not.mp w⟩] at hq
        exact L87 1 (Or.inr rfl) hq
      · have c32 := Decidable.not_not.mp c32
        rw [if_pos c32] at hq
        refine r_iload (i := 5) (by decide +kernel) 6 rfl ?_
        refine r_if_eq (off := 11) (tgt := 50) (by decide +kernel) (by decide) (by omega) (fun s0 => L50 (by rw [if_neg (fun z => by omega)] at hq; exact hq)) (fun s1 => ?_)
        refine r_iload (i := 4) (by decide +kernel) 5 rfl ?_
        refine r_iload_n (j := 2) (by decide +kernel) 3 rfl rfl ?_
        refine r_icmp_ne (off := 5) (tgt := 50) (by decide +kernel) (by decide) (by omega) (by omega) (fun y => L50 (by rw [if_neg (fun z => by omega)] at hq; exact hq)) (fun y => ?_)
        refine r_iload_n (j := 3) (by decide +kernel) 4 rfl rfl ?_
        rw [if_pos ⟨by omega, by omega⟩] at hq
        exact r_ireturn (by decide +kernel) rfl ⟨rfl, Nat.le_refl _, Nat.le_refl _⟩ hq
  refine ctof ?_
  refine r_iconst (pc := 0) (n := 0) (by decide +kernel) ?_
  refine r_istore_n (j := 3) (i := 3) (ls1 := [(3, (0, 0)), (0, (2, 2)), (1, (0, f)), (2, (0, to))]) (by decide +kernel) rfl (by decide) rfl ?_
  refine r_iload_n (j := 1) (by decide +kernel) 2 rfl rfl ?_
  refine r_istore (i := 4) (ls1 := [(4, (0, f)), (3, (0, 0)), (0, (2, 2)), (1, (0, f)), (2, (0, to))]) (by decide +kernel) (by decide) rfl ?_
  refine r_iconst (n := 1) (by decide +kernel) ?_
  refine r_istore (i := 5) (ls1 := [(5, (0, 1)), (4, (0, f)), (3, (0, 0)), (0, (2, 2)), (1, (0, f)), (2, (0, to))]) (by decide +kernel) (by decide) rfl ?_
  refine r_iconst (n := 0) (by decide +kernel) ?_
  refine r_istore (i := 6) (ls1 := [(6, (0, 0)), (5, (0, 1)), (4, (0, f)), (3, (0, 0)), (0, (2, 2)), (1, (0, f)), (2, (0, to))]) (by decide +kernel) (by decide) rfl ?_
  refine Rn.sub [4, 5, 6, 3, 2, 1, 0] rfl ?_
  refine key (flatW vocF) 0 0 f 1 (by rw [wds_at.2]) wds_at.1 (by omega) (by omega) (Or.inr rfl) ?_
  rw [scn_all hf.2 vocF 0 voc_32]
  exact h
end IXOF
