/-! rows over any room and any end: for bodies that throw, and for the law -/
abbrev Zp : Type := Program → Launch → Env → State → MethodId → Array Value → List Frame → Method → Code → va_G → En → (Nat → ClassId) → State → Prop
abbrev Kt : Type := Launch → Code → State → Array Value → En → Prop
/-- as Rn; R the room, K what else is known of launch and code, Z what is owed -/
def Rg (R : Room) (K : Kt) (M : Mth) (z : Zt) (pc : Nat) (ls : List (Nat × AV)) (sk : List AV) (G : Mem) (Z : Zp) : Prop :=
  ∀ (p : Program) (l : Launch) (e : Env) (s : State) (m : MethodId) (args : Array Value) (below : List Frame) (meth : Method) (c : Code) (D : va_G) (E : En) (cA : Nat → ClassId),
    Cx 0 M 0 0 p s m args meth c D E cA → K l c s args E → ∀ (H : Heap) (locs : List Loc) (lc : Array Slot), Wd D E cA z.2.2.2.2.2 z.1 G H → va_S (Ow E) s.heap H locs → lv_has lc M.2.2.1 (ls.map fun q => (q.1, cv E q.2)) →
      W p l e R s m args below meth c H locs z.2.1 z.2.2.1 (Z p l e s m args below meth c D E cA) (F0 m pc lc (sk.map (cv E)))
section GROWS
variable {R : Room} {K : Kt} {M : Mth} {z : Zt} {pc : Nat} {ls : List (Nat × AV)} {sk : List AV} {G : Mem} {Z : Zp}
theorem g_iconst {n : Int} (hd : decode M.2.1 pc = .ok (.iconst n, 1)) (h : Rg R K M z (pc + 1) ls ((0, n) :: sk) G Z) : Rg R K M z pc ls sk G Z := by
  intro p l e s m args below meth c D E cA hc hK9 H locs lc hw hs hl
  exact lv_iconst hc.1 hc.2.1 hd rfl (h p l e s m args below meth c D E cA hc hK9 H locs lc hw hs hl)
theorem g_bipush {n : Int} (hd : decode M.2.1 pc = .ok (.bipush n, 2)) (hn : (Int8.ofInt n).toInt32 = Int32.ofInt n) (h : Rg R K M z (pc + 2) ls ((0, n) :: sk) G Z) : Rg R K M z pc ls sk G Z := by
  intro p l e s m args below meth c D E cA hc hK9 H locs lc hw hs hl
  exact lv_bipush hc.1 hc.2.1 hd hn (h p l e s m args below meth c D E cA hc hK9 H locs lc hw hs hl)
theorem g_ldc2 {idx : Nat} {x : Int} (hd : decode M.2.1 pc = .ok (.ldc2_w idx, 3)) (hm : Cond.constantLong M.1.cls idx (Int64.ofInt x) ∈ lw_tbl.filter goodWord) (h : Rg R K M z (pc + 3) ls ((1, x) :: sk) G Z) : Rg R K M z pc ls sk G Z := by
  intro p l e s m args below meth c D E cA hc hK9 H locs lc hw hs hl
  exact lv_ldc2 hc.1 hc.2.1 hc.2.2.2.1 (hc.2.2.2.2.1 _ hm) hd (h p l e s m args below meth c D E cA hc hK9 H locs lc hw hs hl)
theorem g_iload_n {j : Fin 4} {i : Nat} {x : Int} (hd : decode M.2.1 pc = .ok (.iload_n j, 1)) (k : Nat) (hi : (j : Nat) = i) (hk : ls[k]? = some (i, (0, x))) (h : Rg R K M z (pc + 1) ls ((0, x) :: sk) G Z) : Rg R K M z pc ls sk G Z := by
  intro p l e s m args below meth c D E cA hc hK9 H locs lc hw hs hl
  exact lv_iload_n hc.1 hc.2.1 hd hi (ls_at E hl hk) (h p l e s m args below meth c D E cA hc hK9 H locs lc hw hs hl)
theorem g_iload {i : Nat} {x : Int} (hd : decode M.2.1 pc = .ok (.iload i, 2)) (k : Nat) (hk : ls[k]? = some (i, (0, x))) (h : Rg R K M z (pc + 2) ls ((0, x) :: sk) G Z) : Rg R K M z pc ls sk G Z := by
  intro p l e s m args below meth c D E cA hc hK9 H locs lc hw hs hl
  exact lv_iload hc.1 hc.2.1 hd (ls_at E hl hk) (h p l e s m args below meth c D E cA hc hK9 H locs lc hw hs hl)
theorem g_aload_n {j : Fin 4} {i : Nat} {x : Int} (hd : decode M.2.1 pc = .ok (.aload_n j, 1)) (k : Nat) (hi : (j : Nat) = i) (hk : ls[k]? = some (i, (2, x))) (h : Rg R K M z (pc + 1) ls ((2, x) :: sk) G Z) : Rg R K M z pc ls sk G Z := by
  intro p l e s m args below meth c D E cA hc hK9 H locs lc hw hs hl
  exact lv_aload_n hc.1 hc.2.1 hd hi (ls_at E hl hk) (h p l e s m args below meth c D E cA hc hK9 H locs lc hw hs hl)
theorem g_istore_n {j : Fin 4} {i : Nat} {x : Int} {ls1 : List (Nat × AV)} (hd : decode M.2.1 pc = .ok (.istore_n j, 1)) (hi : (j : Nat) = i) (hn : i < M.2.2.1) (he : sto1 ls i (0, x) = ls1) (h : Rg R K M z (pc + 1) ls1 sk G Z) : Rg R K M z pc ls ((0, x) :: sk) G Z := by
  intro p l e s m args below meth c D E cA hc hK9 H locs lc hw hs hl
  subst he
  exact lv_istore_n hc.1 hc.2.1 hd hi hl hn (sto1_map E ls i (0, x)) (fun lc' hl' => h p l e s m args below meth c D E cA hc hK9 H locs lc' hw hs hl')
theorem g_istore {i : Nat} {x : Int} {ls1 : List (Nat × AV)} (hd : decode M.2.1 pc = .ok (.istore i, 2)) (hn : i < M.2.2.1) (he : sto1 ls i (0, x) = ls1) (h : Rg R K M z (pc + 2) ls1 sk G Z) : Rg R K M z pc ls ((0, x) :: sk) G Z := by
  intro p l e s m args below meth c D E cA hc hK9 H locs lc hw hs hl
  subst he
  exact lv_istore hc.1 hc.2.1 hd hl hn (sto1_map E ls i (0, x)) (fun lc' hl' => h p l e s m args below meth c D E cA hc hK9 H locs lc' hw hs hl')
theorem g_astore_n {j : Fin 4} {i : Nat} {x : Int} {ls1 : List (Nat × AV)} (hd : decode M.2.1 pc = .ok (.astore_n j, 1)) (hi : (j : Nat) = i) (hn : i < M.2.2.1) (he : sto1 ls i (2, x) = ls1) (h : Rg R K M z (pc + 1) ls1 sk G Z) : Rg R K M z pc ls ((2, x) :: sk) G Z := by
  intro p l e s m args below meth c D E cA hc hK9 H locs lc hw hs hl
  subst he
  exact lv_astore_n hc.1 hc.2.1 hd hi hl hn (sto1_map E ls i (2, x)) (fun lc' hl' => h p l e s m args below meth c D E cA hc hK9 H locs lc' hw hs hl')
theorem g_iinc {i : Nat} {n x : Int} {ls1 : List (Nat × AV)} (hd : decode M.2.1 pc = .ok (.iinc i n, 3)) (k : Nat) (hk : ls[k]? = some (i, (0, x))) (hn : i < M.2.2.1) (he : sto1 ls i (0, x + n) = ls1) (h : Rg R K M z (pc + 3) ls1 sk G Z) : Rg R K M z pc ls sk G Z := by
  intro p l e s m args below meth c D E cA hc hK9 H locs lc hw hs hl
  subst he
  exact lv_iinc (k := k) (x := Int32.ofInt x) (v := Int32.ofInt (x + n)) hc.1 hc.2.1 hd hl (by rw [List.getElem?_map, hk]; rfl) (Int32.ofInt_add x n).symm hn (sto1_map E ls i (0, x + n)) (fun lc' hl' => h p l e s m args below meth c D E cA hc hK9 H locs lc' hw hs hl')
theorem g_iadd {a b : Int} (hd : decode M.2.1 pc = .ok (.iadd, 1)) (h : Rg R K M z (pc + 1) ls ((0, a + b) :: sk) G Z) : Rg R K M z pc ls ((0, b) :: (0, a) :: sk) G Z := by
  intro p l e s m args below meth c D E cA hc hK9 H locs lc hw hs hl
  have h1 := h p l e s m args below meth c D E cA hc hK9 H locs lc hw hs hl
  simp only [List.map_cons, cv0, Int32.ofInt_add] at h1
  exact lv_iadd hc.1 hc.2.1 hd h1
theorem g_isub {a b : Int} (hd : decode M.2.1 pc = .ok (.isub, 1)) (h : Rg R K M z (pc + 1) ls ((0, a - b) :: sk) G Z) : Rg R K M z pc ls ((0, b) :: (0, a) :: sk) G Z := by
  intro p l e s m args below meth c D E cA hc hK9 H locs lc hw hs hl
  have h1 := h p l e s m args below meth c D E cA hc hK9 H locs lc hw hs hl
  simp only [List.map_cons, cv0, Int32.ofInt_sub] at h1
  exact lv_isub hc.1 hc.2.1 hd h1
theorem g_iand {a b : Int} (hd : decode M.2.1 pc = .ok (.iand, 1)) (h : Rg R K M z (pc + 1) ls ((0, andI a b) :: sk) G Z) : Rg R K M z pc ls ((0, b) :: (0, a) :: sk) G Z := by
  intro p l e s m args below meth c D E cA hc hK9 H locs lc hw hs hl
  have h1 := h p l e s m args below meth c D E cA hc hK9 H locs lc hw hs hl
  simp only [List.map_cons, cv0, andI, Int32.ofInt_toInt] at h1
  exact lv_iand hc.1 hc.2.1 hd h1
theorem g_land {a b : Int} (hd : decode M.2.1 pc = .ok (.land, 1)) (h : Rg R K M z (pc + 1) ls ((1, andL a b) :: sk) G Z) : Rg R K M z pc ls ((1, b) :: (1, a) :: sk) G Z := by
  intro p l e s m args below meth c D E cA hc hK9 H locs lc hw hs hl
  have h1 := h p l e s m args below meth c D E cA hc hK9 H locs lc hw hs hl
  simp only [List.map_cons, cv1, andL, Int64.ofInt_toInt] at h1
  exact lv_land hc.1 hc.2.1 hd h1
theorem g_lor {a b : Int} (hd : decode M.2.1 pc = .ok (.lor, 1)) (h : Rg R K M z (pc + 1) ls ((1, orL a b) :: sk) G Z) : Rg R K M z pc ls ((1, b) :: (1, a) :: sk) G Z := by
  intro p l e s m args below meth c D E cA hc hK9 H locs lc hw hs hl
  have h1 := h p l e s m args below meth c D E cA hc hK9 H locs lc hw hs hl
  simp only [List.map_cons, cv1, orL, Int64.ofInt_toInt] at h1
  exact lv_lor hc.1 hc.2.1 hd h1
theorem g_lshl {a b : Int} (hd : decode M.2.1 pc = .ok (.lshl, 1)) (h : Rg R K M z (pc + 1) ls ((1, shlL a b) :: sk) G Z) : Rg R K M z pc ls ((0, b) :: (1, a) :: sk) G Z := by
  intro p l e s m args below meth c D E cA hc hK9 H locs lc hw hs hl
  have h1 := h p l e s m args below meth c D E cA hc hK9 H locs lc hw hs hl
  simp only [List.map_cons, cv1, shlL, Int64.ofInt_toInt] at h1
  exact lv_lshl hc.1 hc.2.1 hd rfl h1
theorem g_i2l {a : Int} (hd : decode M.2.1 pc = .ok (.i2l, 1)) (ha : InR a) (h : Rg R K M z (pc + 1) ls ((1, a) :: sk) G Z) : Rg R K M z pc ls ((0, a) :: sk) G Z := by
  intro p l e s m args below meth c D E cA hc hK9 H locs lc hw hs hl
  exact lv_i2l hc.1 hc.2.1 hd (by rw [← Int64.toInt_inj, Int32.toInt_toInt64, ofI_toInt ha, ofL_toInt ⟨by have := ha.1; omega, by have := ha.2; omega⟩]) (h p l e s m args below meth c D E cA hc hK9 H locs lc hw hs hl)
theorem g_dup {v : AV} (kd : Nat) (hk : v.1 = kd) (hv0 : kd ≠ 1) (hd : decode M.2.1 pc = .ok (.dup, 1)) (h : Rg R K M z (pc + 1) ls (v :: v :: sk) G Z) : Rg R K M z pc ls (v :: sk) G Z := by
  intro p l e s m args below meth c D E cA hc hK9 H locs lc hw hs hl
  exact lv_dup hc.1 hc.2.1 hd (by rw [cv_cat, if_neg (by rw [hk]; exact hv0)]) (h p l e s m args below meth c D E cA hc hK9 H locs lc hw hs hl)
theorem g_goto {off : Int} {tgt : Nat} (hd : decode M.2.1 pc = .ok (.goto off, 3)) (ht : (pc : Int) + off = (tgt : Int)) (h : Rg R K M z tgt ls sk G Z) : Rg R K M z pc ls sk G Z := by
  intro p l e s m args below meth c D E cA hc hK9 H locs lc hw hs hl
  exact lv_goto hc.1 hc.2.1 hd ht (h p l e s m args below meth c D E cA hc hK9 H locs lc hw hs hl)
theorem g_if_eq {a off : Int} {tgt : Nat} (hd : decode M.2.1 pc = .ok (.ifCond .eq off, 3)) (ht : (pc : Int) + off = (tgt : Int)) (ha : InR a) (h1 : a = 0 → Rg R K M z tgt ls sk G Z) (h2 : ¬ (a = 0) → Rg R K M z (pc + 3) ls sk G Z) : Rg R K M z pc ls ((0, a) :: sk) G Z := by
  intro p l e s m args below meth c D E cA hc hK9 H locs lc hw hs hl
  exact lv_if_eq hc.1 hc.2.1 hd ht (fun q => h1 ((ofI_inj ha InR0).mp q) p l e s m args below meth c D E cA hc hK9 H locs lc hw hs hl) (fun q => h2 (fun r => q ((ofI_inj ha InR0).mpr r)) p l e s m args below meth c D E cA hc hK9 H locs lc hw hs hl)
theorem g_if_ne {a off : Int} {tgt : Nat} (hd : decode M.2.1 pc = .ok (.ifCond .ne off, 3)) (ht : (pc : Int) + off = (tgt : Int)) (ha : InR a) (h1 : a ≠ 0 → Rg R K M z tgt ls sk G Z) (h2 : ¬ (a ≠ 0) → Rg R K M z (pc + 3) ls sk G Z) : Rg R K M z pc ls ((0, a) :: sk) G Z := by
  intro p l e s m args below meth c D E cA hc hK9 H locs lc hw hs hl
  exact lv_if_ne hc.1 hc.2.1 hd ht (fun q => h1 (fun r => q ((ofI_inj ha InR0).mpr r)) p l e s m args below meth c D E cA hc hK9 H locs lc hw hs hl) (fun q => h2 (fun r => r ((ofI_inj ha InR0).mp q)) p l e s m args below meth c D E cA hc hK9 H locs lc hw hs hl)
theorem g_if_gt {a off : Int} {tgt : Nat} (hd : decode M.2.1 pc = .ok (.ifCond .gt off, 3)) (ht : (pc : Int) + off = (tgt : Int)) (ha : InR a) (h1 : 0 < a → Rg R K M z tgt ls sk G Z) (h2 : ¬ (0 < a) → Rg R K M z (pc + 3) ls sk G Z) : Rg R K M z pc ls ((0, a) :: sk) G Z := by
  intro p l e s m args below meth c D E cA hc hK9 H locs lc hw hs hl
  exact lv_if_gt hc.1 hc.2.1 hd ht (fun q => h1 ((ofI_lt InR0 ha).mp q) p l e s m args below meth c D E cA hc hK9 H locs lc hw hs hl) (fun q => h2 (fun r => q ((ofI_lt InR0 ha).mpr r)) p l e s m args below meth c D E cA hc hK9 H locs lc hw hs hl)
theorem g_icmp_eq {a b off : Int} {tgt : Nat} (hd : decode M.2.1 pc = .ok (.if_icmp .eq off, 3)) (ht : (pc : Int) + off = (tgt : Int)) (ha : InR a) (hb : InR b) (h1 : a = b → Rg R K M z tgt ls sk G Z) (h2 : ¬ (a = b) → Rg R K M z (pc + 3) ls sk G Z) : Rg R K M z pc ls ((0, b) :: (0, a) :: sk) G Z := by
  intro p l e s m args below meth c D E cA hc hK9 H locs lc hw hs hl
  exact lv_icmp_eq hc.1 hc.2.1 hd ht (fun q => h1 ((ofI_inj ha hb).mp q) p l e s m args below meth c D E cA hc hK9 H locs lc hw hs hl) (fun q => h2 (fun r => q ((ofI_inj ha hb).mpr r)) p l e s m args below meth c D E cA hc hK9 H locs lc hw hs hl)
theorem g_icmp_ne {a b off : Int} {tgt : Nat} (hd : decode M.2.1 pc = .ok (.if_icmp .ne off, 3)) (ht : (pc : Int) + off = (tgt : Int)) (ha : InR a) (hb : InR b) (h1 : a ≠ b → Rg R K M z tgt ls sk G Z) (h2 : ¬ (a ≠ b) → Rg R K M z (pc + 3) ls sk G Z) : Rg R K M z pc ls ((0, b) :: (0, a) :: sk) G Z := by
  intro p l e s m args below meth c D E cA hc hK9 H locs lc hw hs hl
  exact lv_icmp_ne hc.1 hc.2.1 hd ht (fun q => h1 (fun r => q ((ofI_inj ha hb).mpr r)) p l e s m args below meth c D E cA hc hK9 H locs lc hw hs hl) (fun q => h2 (fun r => r ((ofI_inj ha hb).mp q)) p l e s m args below meth c D E cA hc hK9 H locs lc hw hs hl)
theorem g_icmp_lt {a b off : Int} {tgt : Nat} (hd : decode M.2.1 pc = .ok (.if_icmp .lt off, 3)) (ht : (pc : Int) + off = (tgt : Int)) (ha : InR a) (hb : InR b) (h1 : a < b → Rg R K M z tgt ls sk G Z) (h2 : ¬ (a < b) → Rg R K M z (pc + 3) ls sk G Z) : Rg R K M z pc ls ((0, b) :: (0, a) :: sk) G Z := by
  intro p l e s m args below meth c D E cA hc hK9 H locs lc hw hs hl
  exact lv_icmp_lt hc.1 hc.2.1 hd ht (fun q => h1 ((ofI_lt ha hb).mp q) p l e s m args below meth c D E cA hc hK9 H locs lc hw hs hl) (fun q => h2 (fun r => q ((ofI_lt ha hb).mpr r)) p l e s m args below meth c D E cA hc hK9 H locs lc hw hs hl)
theorem g_icmp_gt {a b off : Int} {tgt : Nat} (hd : decode M.2.1 pc = .ok (.if_icmp .gt off, 3)) (ht : (pc : Int) + off = (tgt : Int)) (ha : InR a) (hb : InR b) (h1 : b < a → Rg R K M z tgt ls sk G Z) (h2 : ¬ (b < a) → Rg R K M z (pc + 3) ls sk G Z) : Rg R K M z pc ls ((0, b) :: (0, a) :: sk) G Z := by
  intro p l e s m args below meth c D E cA hc hK9 H locs lc hw hs hl
  exact lv_icmp_gt hc.1 hc.2.1 hd ht (fun q => h1 ((ofI_lt hb ha).mp q) p l e s m args below meth c D E cA hc hK9 H locs lc hw hs hl) (fun q => h2 (fun r => q ((ofI_lt hb ha).mpr r)) p l e s m args below meth c D E cA hc hK9 H locs lc hw hs hl)
theorem g_lcmp_eq {a b off : Int} {tgt : Nat} (hd : decode M.2.1 pc = .ok (.lcmp, 1)) (hd2 : decode M.2.1 (pc + 1) = .ok (.ifCond .eq off, 3)) (ht : ((pc + 1 : Nat) : Int) + off = (tgt : Int)) (ha : InL a) (hb : InL b) (h1 : a = b → Rg R K M z tgt ls sk G Z) (h2 : ¬ (a = b) → Rg R K M z (pc + 4) ls sk G Z) : Rg R K M z pc ls ((1, b) :: (1, a) :: sk) G Z := by
  intro p l e s m args below meth c D E cA hc hK9 H locs lc hw hs hl
  refine W.lcmp hc.1 hc.2.1 hd (lv_if_eq hc.1 hc.2.1 hd2 ht (fun q => h1 ?_ p l e s m args below meth c D E cA hc hK9 H locs lc hw hs hl) (fun q => h2 ?_ p l e s m args below meth c D E cA hc hK9 H locs lc hw hs hl))
  · exact (lcmp_eq ha hb).mp q
  · exact fun r => q ((lcmp_eq ha hb).mpr r)
theorem g_lcmp_ne {a b off : Int} {tgt : Nat} (hd : decode M.2.1 pc = .ok (.lcmp, 1)) (hd2 : decode M.2.1 (pc + 1) = .ok (.ifCond .ne off, 3)) (ht : ((pc + 1 : Nat) : Int) + off = (tgt : Int)) (ha : InL a) (hb : InL b) (h1 : a ≠ b → Rg R K M z tgt ls sk G Z) (h2 : ¬ (a ≠ b) → Rg R K M z (pc + 4) ls sk G Z) : Rg R K M z pc ls ((1, b) :: (1, a) :: sk) G Z := by
  intro p l e s m args below meth c D E cA hc hK9 H locs lc hw hs hl
  refine W.lcmp hc.1 hc.2.1 hd (lv_if_ne hc.1 hc.2.1 hd2 ht (fun q => h1 ?_ p l e s m args below meth c D E cA hc hK9 H locs lc hw hs hl) (fun q => h2 ?_ p l e s m args below meth c D E cA hc hK9 H locs lc hw hs hl))
  · exact (lcmp_ne ha hb).mp q
  · exact fun r => r ((lcmp_eq ha hb).mp q)
theorem g_getI {idx : Nat} {q : Int} (ci k : Nat) (kI : Int) (hkI : (k : Int) = kI) (hd : decode M.2.1 pc = .ok (.getfield idx, 3)) (hf : flok M.1.cls idx ci k) (hk9 : fk ci k = 0) (hq : Ob z.1 q ci) (h : Rg R K M z (pc + 3) ls ((0, G q kI) :: sk) G Z) : Rg R K M z pc ls ((2, q) :: sk) G Z := by
  subst hkI
  intro p l e s m args below meth c D E cA hc hK9 H locs lc hw hs hl
  obtain ⟨hci, ⟨rC, rT, rN⟩, hr, hk, hlk⟩ := hf
  have hN : rN = nf ci := (vwCl_ty ci hci _ hr).1
  have hk' : k < rN := hk
  refine va_get (D := D) (cl := vwCl) (tys := tysA cA) (Ts := lw_tbl.filter goodWord) (v := .int (Int32.ofInt (G q (k : Int)))) hc.1 hc.2.1 hc.2.2.2.2.1 (vwCl_in _ (List.mem_of_getElem? hr)) hc.2.2.2.1 hc.2.2.2.2.2.2.2.2.1 hw.1 q.toNat (ob_get hq) hr k hk (hc.2.2.2.2.1 _ hlk) (fun _ h => h) ?_ hd (h p l e s m args below meth c D E cA hc hK9 H locs lc hw hs hl)
  rw [List.getElem?_map, List.getElem?_range (by omega)]
  simp [fv, hk9]
theorem g_getR {idx : Nat} {q : Int} (ci k : Nat) (kI : Int) (hkI : (k : Int) = kI) (hd : decode M.2.1 pc = .ok (.getfield idx, 3)) (hf : flok M.1.cls idx ci k) (hk9 : fk ci k = 2) (hq : Ob z.1 q ci) (h9 : 0 ≤ G q kI) (h : Rg R K M z (pc + 3) ls ((2, G q kI) :: sk) G Z) : Rg R K M z pc ls ((2, q) :: sk) G Z := by
  subst hkI
  intro p l e s m args below meth c D E cA hc hK9 H locs lc hw hs hl
  obtain ⟨hci, ⟨rC, rT, rN⟩, hr, hk, hlk⟩ := hf
  have hN : rN = nf ci := (vwCl_ty ci hci _ hr).1
  have hk' : k < rN := hk
  refine va_get (D := D) (cl := vwCl) (tys := tysA cA) (Ts := lw_tbl.filter goodWord) (v := .ref (E.1 + (G q (k : Int)).toNat)) hc.1 hc.2.1 hc.2.2.2.2.1 (vwCl_in _ (List.mem_of_getElem? hr)) hc.2.2.2.1 hc.2.2.2.2.2.2.2.2.1 hw.1 q.toNat (ob_get hq) hr k hk (hc.2.2.2.2.1 _ hlk) (fun _ h => h) ?_ hd (h p l e s m args below meth c D E cA hc hK9 H locs lc hw hs hl)
  rw [List.getElem?_map, List.getElem?_range (by omega)]
  simp [fv, hk9, if_neg (by omega : ¬ G q (k : Int) < 0)]
theorem g_getF {idx : Nat} {q : Int} (ci k : Nat) (kI : Int) (hkI : (k : Int) = kI) (hd : decode M.2.1 pc = .ok (.getfield idx, 3)) (hf : flok M.1.cls idx ci k) (hk9 : fk ci k = 5) (hq : Ob z.1 q ci) (h9 : 0 ≤ rl z.2.2.2.2.2 G q kI) (h : Rg R K M z (pc + 3) ls ((2, rl z.2.2.2.2.2 G q kI) :: sk) G Z) : Rg R K M z pc ls ((2, q) :: sk) G Z := by
  subst hkI
  intro p l e s m args below meth c D E cA hc hK9 H locs lc hw hs hl
  obtain ⟨hci, ⟨rC, rT, rN⟩, hr, hk, hlk⟩ := hf
  have hN : rN = nf ci := (vwCl_ty ci hci _ hr).1
  have hk' : k < rN := hk
  refine va_get (D := D) (cl := vwCl) (tys := tysA cA) (Ts := lw_tbl.filter goodWord) (v := .ref (E.1 + (rl z.2.2.2.2.2 G q (k : Int)).toNat)) hc.1 hc.2.1 hc.2.2.2.2.1 (vwCl_in _ (List.mem_of_getElem? hr)) hc.2.2.2.1 hc.2.2.2.2.2.2.2.2.1 hw.1 q.toNat (ob_get hq) hr k hk (hc.2.2.2.2.1 _ hlk) (fun _ h => h) ?_ hd (h p l e s m args below meth c D E cA hc hK9 H locs lc hw hs hl)
  rw [List.getElem?_map, List.getElem?_range (by omega)]
  simp [fv, hk9, if_neg (by omega : ¬ rl z.2.2.2.2.2 G q (k : Int) < 0)]
theorem g_laload {q i : Int} {len : Nat} (hd : decode M.2.1 pc = .ok (.laload, 1)) (ha : Ar z.1 q 3 len) (hi : 0 ≤ i ∧ i < len) (h : Rg R K M z (pc + 1) ls ((1, G q i) :: sk) G Z) : Rg R K M z pc ls ((0, i) :: (2, q) :: sk) G Z := by
  intro p l e s m args below meth c D E cA hc hK9 H locs lc hw hs hl
  have h1 := h p l e s m args below meth c D E cA hc hK9 H locs lc hw hs hl
  refine va_lald hc.1 hc.2.1 hc.2.2.2.2.2.2.2.2.1 hw.1 q.toNat 3 (ar_get ha) (tysA_get cA ha.2.2.2.1) (vpin hi.1 hi.2 ha.2.2.2.2) hd ?_
  rw [tcl hi.1 hi.2 ha.2.2.2.2]
  simp only [Int.toNat_of_nonneg hi.1]
  exact h1
theorem g_aaload {q i : Int} {t len : Nat} {C : String} (hd : decode M.2.1 pc = .ok (.aaload, 1)) (ha : Ar z.1 q t len) (ht : 4 ≤ t) (hC : tyA t = .object C) (hi : 0 ≤ i ∧ i < len) (h9 : 0 ≤ rl z.2.2.2.2.2 G q i) (h : Rg R K M z (pc + 1) ls ((2, rl z.2.2.2.2.2 G q i) :: sk) G Z) : Rg R K M z pc ls ((0, i) :: (2, q) :: sk) G Z := by
  intro p l e s m args below meth c D E cA hc hK9 H locs lc hw hs hl
  have h1 := h p l e s m args below meth c D E cA hc hK9 H locs lc hw hs hl
  have hg := ar_get (E := E) (cA := cA) (Ly := z.2.2.2.2.2) (G := G) ha
  rw [if_neg (by omega : ¬ t < 4)] at hg
  have e : arrC E t (rl z.2.2.2.2.2 G q) = .inr (.inr (.inr (.inr fun (j : Nat) => if rl z.2.2.2.2.2 G q j < 0 then none else some (E.1 + (rl z.2.2.2.2.2 G q j).toNat)))) := by
    unfold arrC
    rw [if_neg (by omega), if_neg (by omega)]
  rw [e] at hg
  refine va_aldq (C := C) hc.1 hc.2.1 hc.2.2.2.2.2.2.2.2.1 hw.1 q.toNat t hg (by rw [tysA_get cA ha.2.2.2.1, hC]) (vpin hi.1 hi.2 ha.2.2.2.2) hd ?_
  rw [tcl hi.1 hi.2 ha.2.2.2.2]
  simp only [Int.toNat_of_nonneg hi.1, if_neg (by omega : ¬ rl z.2.2.2.2.2 G q i < 0)]
  exact h1
theorem g_lastore {q i v : Int} {len : Nat} (hd : decode M.2.1 pc = .ok (.lastore, 1)) (ha : Ar z.1 q 3 len) (hi : 0 ≤ i ∧ i < len) (h : Rg R K M z (pc + 1) ls sk (st G q i v) Z) : Rg R K M z pc ls ((1, v) :: (0, i) :: (2, q) :: sk) G Z := by
  intro p l e s m args below meth c D E cA hc hK9 H locs lc hw hs hl
  have hb := ha.2.2.2.2
  refine W.last hc.1 hc.2.1 (hw.1 q.toNat _ (ar_get ha)) ((hc.2.2.2.2.2.2.2.2.1.2 3 _ (tysA_get cA ha.2.2.2.1)).1 len (fun j => .long (Int64.ofInt (G q j)))) (fun q => by cases q) (by show ¬ (_ < 0 ∨ (arrV _ _ _).slots.size ≤ _); rw [arrV_size]; exact vpin hi.1 hi.2 hb) rfl rfl hd fun H1 e1 z1 o1 => ?_
  have e2 : H1[E.1 + q.toNat]? = some (vp_cell (cA 3) (len, arrC E 3 (st G q i v q))) := by
    rw [show arrC E 3 (st G q i v q) = .inr (.inl fun (j : Nat) => Int64.ofInt (st G q i v q j)) from rfl, vp_cell_l]
    have e3 := e1
    change H1[E.1 + q.toNat]? = some ((arrV (cA 3) len (fun j => .long (Int64.ofInt (G q j)))).setSlot _ _) at e3
    rw [arrV_store, tcl hi.1 hi.2 hb] at e3
    rw [e3]
    congr 2
    funext j
    by_cases hj : (j : Int) = i
    · subst hj
      simp [updV, st]
    · have hj' : ¬ j = i.toNat := by omega
      simp [updV, st, hj, hj']
  obtain ⟨hw1, hs1⟩ := arr_at (j := (Int32.ofInt i).toNatClampNeg) hw hs ha (fun h => by omega) e2 z1 o1
  exact h p l e s m args below meth c D E cA hc hK9 H1 _ lc hw1 hs1 hl
end GROWS
