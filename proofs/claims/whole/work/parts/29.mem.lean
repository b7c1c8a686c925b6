/-! reading a memory behind stores -/
theorem st_nk (G : Mem) {q i b : Int} (v a : Int) (h : b ≠ i) : st G q i v a b = G a b := by simp [st, h]
theorem cpy_nq (G : Mem) (src sp : Int) {dst a : Int} (dp n b : Int) (h : a ≠ dst) : cpy G src sp dst dp n a b = G a b := by simp [cpy, h]
theorem cpy_in (G : Mem) (src sp dst : Int) {dp n b : Int} (h1 : dp ≤ b) (h2 : b < dp + n) : cpy G src sp dst dp n dst b = G src (sp + (b - dp)) := by
  unfold cpy
  rw [if_pos ⟨rfl, h1, h2⟩]
theorem cpy0_in (G : Mem) (src dst : Int) {n b : Int} (h1 : 0 ≤ b) (h2 : b < n) : cpy G src 0 dst 0 n dst b = G src b := by
  rw [cpy_in G src 0 dst h1 (by omega)]
  congr 1
  omega
theorem cpy_out (G : Mem) (src sp : Int) {a dst dp n b : Int} (h : b < dp ∨ dp + n ≤ b) : cpy G src sp dst dp n a b = G a b := by
  unfold cpy
  rw [if_neg (by omega)]
/-- an array's first n places put for v -/
def upA (G : Mem) (q n : Int) (f : Int → Int) : Mem := fun a b => if a = q ∧ 0 ≤ b ∧ b < n then f b else G a b
theorem upA_nq (G : Mem) {q a : Int} (n : Int) (f : Int → Int) (b : Int) (h : a ≠ q) : upA G q n f a b = G a b := by simp [upA, h]
theorem upA_in (G : Mem) (q : Int) {n : Int} (f : Int → Int) {b : Int} (h1 : 0 ≤ b) (h2 : b < n) : upA G q n f q b = f b := by
  unfold upA
  rw [if_pos ⟨rfl, h1, h2⟩]
theorem upA_out (G : Mem) (q : Int) {n : Int} (f : Int → Int) {a b : Int} (h : b < 0 ∨ n ≤ b) : upA G q n f a b = G a b := by
  unfold upA
  rw [if_neg (by omega)]
/-- Arrays.fill -/
theorem c_fill {d n : Nat} {Ly : Option Mem} {G : Mem} {Q : Int → Mem → Prop} {a v : Int} {L : Nat} (ha : Ar n a 0 L) (h : Q 0 (upA G a L (fun _ => v))) : Ct d M_J7_fill_53178 n 0 0 Ly [(2, a), (0, v)] G Q := by
  have hL := ha.2.2.2.2
  refine Ct.of (by decide +kernel) (Nat.le_of_ble_eq_true rfl) (s_J7_fill_53178_0 ha ?_)
  have key : ∀ (k i : Nat) (G1 : Mem), i + k = L → G1 = upA G a i (fun _ => v) → Rn d M_J7_fill_53178 (n, 0, 0, 0, 0, Ly) 5 [(0, (2, a)), (1, (0, v)), (2, (0, (i : Int))), (3, (0, (L : Int)))] [] G1 Q := by
    intro k
    induction k with
    | zero =>
      intro i G1 hi e
      refine s_J7_fill_53178_5 ha ⟨by omega, by omega, fun _ => ?_, fun c => absurd (by omega) c⟩
      rw [e, show i = L by omega]
      exact h
    | succ k ih =>
      intro i G1 hi e
      refine s_J7_fill_53178_5 ha ⟨by omega, by omega, fun c => by omega, fun _ => ⟨by omega, fun G2 e2 => ?_⟩⟩
      refine ih (i + 1) G2 (by omega) ?_
      rw [e2, e]
      funext x y
      simp only [st, upA]
      by_cases hx : x = a
      · by_cases hy : y = i
        · subst hx; subst hy
          rw [if_pos ⟨rfl, rfl⟩, if_pos ⟨rfl, by omega, by omega⟩]
        · rw [if_neg (fun q => hy q.2)]
          by_cases hz : 0 ≤ y ∧ y < (i : Int)
          · rw [if_pos ⟨hx, hz⟩, if_pos ⟨hx, by omega, by omega⟩]
          · rw [if_neg (fun q => hz q.2), if_neg (fun q => hz ⟨q.2.1, by omega⟩)]
      · rw [if_neg (fun q => hx q.1), if_neg (fun q => hx q.1), if_neg (fun q => hx q.1)]
  refine key L 0 G (by omega) ?_
  funext x y
  unfold upA
  rw [if_neg (by omega)]
