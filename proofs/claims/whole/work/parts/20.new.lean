/-! makings -/
def nwf (G : Mem) (n : Nat) (v : Int → Int) : Mem := fun a b => if a = n then v b else G a b
def dfl (ci : Nat) : Int → Int := fun b => if fk ci b.toNat = 2 ∨ fk ci b.toNat = 5 then -1 else 0
theorem nwf_lt {E : En} {cA : Nat → ClassId} {G : Mem} {n : Nat} {v : Int → Int} {q : Nat} (h : q < n) : mcell E cA none (nwf G n v) q = mcell E cA none G q := by
  have e : nwf G n v (q : Int) = G (q : Int) := by
    funext b
    simp only [nwf]
    rw [if_neg (by omega)]
  unfold mcell
  simp only [rl, e]
theorem nwf_wsl {E : En} {cA : Nat → ClassId} {G : Mem} {n : Nat} {v : Int → Int} : wsl E cA none (nwf G n v) (n + 1) = wsl E cA none G n ++ [(E.1 + n, mcell E cA none (nwf G n v) n)] := by
  rw [← wsl_push]
  congr 1
  unfold wsl
  apply List.map_congr_left
  intro q hq
  rw [nwf_lt (List.mem_range.mp hq)]
theorem fk_no9 : ∀ ci, ci < 13 → ∀ k, k < nf ci → fk ci k ≠ 9 := by decide +kernel
theorem dfl_ok {E : En} {ty : FieldType} {fin : Bool} {kd : Nat} (h : kd = fkO ty fin) (h9 : kd ≠ 9) : fv E kd (if kd = 2 ∨ kd = 5 then -1 else 0) = defaultValue ty := by
  subst h
  cases ty <;> cases fin <;> first | rfl | exact absurd rfl h9
theorem new_world {D : va_G} {E : En} {cA : Nat → ClassId} {G : Mem} {n : Nat} {v : Int → Int} {H H1 : Heap} (hw : Wd D E cA none n G H) (hz : H1.size = H.size + 1) (ho : ∀ q, q < H.size → H1[q]? = H[q]?) (hat : va_at D vwCl (E.1 + n, mcell E cA none (nwf G n v) n) H1) (hH : H.size = E.1 + n) : Wd D E cA none (n + 1) (nwf G n v) H1 := by
  refine ⟨?_, by omega, fun _ => by omega⟩
  rw [nwf_wsl]
  refine (hw.1.kept fun k q hk => ho q.1 ((hw.1 k q hk).lt)).app (fun k q hk => ?_)
  have hz : k < 1 := (List.getElem?_eq_some_iff.mp hk).1
  rw [show k = 0 by omega] at hk
  cases hk
  exact hat
theorem S_new {E : En} {H0 H H1 : Heap} {locs : List Loc} (hs : va_S (Ow E) H0 H locs) (hz : H1.size = H.size + 1) (ho : ∀ q, q < H.size → H1[q]? = H[q]?) : va_S (Ow E) H0 H1 locs :=
  ⟨Nat.le_trans hs.1 (by omega), fun q h1 h2 => (ho q (Nat.lt_of_lt_of_le h1 hs.1)).trans (hs.2.1 q h1 h2), hs.2.2⟩
section NROWS
variable {d : Nat} {M : Mth} {pc : Nat} {ls : List (Nat × AV)} {sk : List AV} {G : Mem} {Q : Int → Mem → Prop} {n k w mc ms : Nat}
theorem r_new {idx ci : Nat} (hd : decode M.2.1 pc = .ok (.new idx, 3)) (hn : n < NT) (hsh : shp n = (20 + ci, nf ci)) (hci : ci < 13) (hcl : ∃ r : vw_C, vwCl[ci]? = some r ∧ Cond.classLink M.1.cls idx r.1 ∈ lw_tbl.filter goodWord ∧ Cond.instantiable r.1 r.2.2 ∈ lw_tbl.filter goodWord ∧ Cond.initialized r.1 ∈ lw_tbl.filter goodWord) (hb : k + 1 ≤ mc ∧ w + nf ci ≤ ms)
    (h : Rn d M (n + 1, k + 1, w + nf ci, mc, ms, none) (pc + 3) ls ((2, (n : Int)) :: sk) (nwf G n (dfl ci)) Q) : Rn d M (n, k, w, mc, ms, none) pc ls sk G Q := by
  intro p l e s m args below meth c D E cA hc H locs lc hw hs hl
  obtain ⟨⟨rC, rT, rN⟩, hr, h1, h2, h3⟩ := hcl
  have hts := hc.2.2.2.2.1
  have hK := hc.2.2.2.2.2.2.2.2.1
  have hKn := hK.1 ci _ hr
  have ht := vwCl_ty ci hci _ hr
  have hN : rN = nf ci := ht.1
  have hH := hw.2.2 hn
  refine W.newcK hc.1 hc.2.1 hc.2.2.2.1 (hts _ h1) (hts _ h2) (hts _ h3) rfl hd (by exact hb.1) (by rw [hN]; exact hb.2) hKn.2.1 rfl fun H1 kC hkC e1 z1 o1 => ?_
  rw [hH] at e1
  have hw1 : Wd D E cA none (n + 1) (nwf G n (dfl ci)) H1 := by
    refine new_world hw z1 o1 ?_ hH
    have hm : mcell E cA none (nwf G n (dfl ci)) n = .inr (ci, (List.range (nf ci)).map fun (j : Nat) => fv E (fk ci j) (dfl ci j)) := by
      unfold mcell
      rw [hsh]
      simp only [rl, ite_self]
      rw [if_neg (by omega)]
      have e : ∀ j : Int, nwf G n (dfl ci) (n : Int) j = dfl ci j := fun j => by simp [nwf]
      simp only [e]
      simp
    rw [hm]
    refine ⟨_, hr, (u_born (tyX ci) hts (vwCl_in _ (List.mem_of_getElem? hr)) hKn hkC e1 ht.2.1).to (fun j hj => ?_)⟩
    have hj' : j < rN := hj
    have hj2 : j < nf ci := by omega
    simp only [vp_V, List.getD_eq_getElem?_getD, List.getElem?_map, List.getElem?_range hj2, Option.map_some, Option.getD_some]
    unfold dfl
    simp only [Int.toNat_natCast]
    exact (dfl_ok (ht.2.2.2 j hj') (fk_no9 ci hci j hj2)).symm
  have h9 := h p l e s m args below meth c D E cA hc H1 locs lc hw1 (S_new hs z1 o1) hl
  have e9 : n + 1 - (k + 1) = n - k := by omega
  simp only [e9] at h9
  rw [hN, hH]
  exact h9
theorem r_newarr {i : Int} {t len : Nat} {aty : ArrayType} (hd : decode M.2.1 pc = .ok (.newarray aty, 2)) (hty : newarray.typeOf aty = tyA t) (ht : t < 4) (harr : Cond.arrayClass (newarray.typeOf aty) ∈ lw_tbl.filter goodWord) (hi : i = len) (hlen : len ≤ 60000) (hn : n < NT) (hsh : shp n = (t, len)) (hb : k + 1 ≤ mc ∧ w + len ≤ ms)
    (h : Rn d M (n + 1, k + 1, w + len, mc, ms, none) (pc + 2) ls ((2, (n : Int)) :: sk) (nwf G n (fun _ => 0)) Q) : Rn d M (n, k, w, mc, ms, none) pc ls ((0, i) :: sk) G Q := by
  subst hi
  intro p l e s m args below meth c D E cA hc H locs lc hw hs hl
  have hts := hc.2.2.2.2.1
  have hK := hc.2.2.2.2.2.2.2.2.1
  have hH := hw.2.2 hn
  have hcl : (Int32.ofInt (len : Int)).toNatClampNeg = len := by
    rw [Int32.toNatClampNeg_ofInt_of_le (by omega) (by omega)]
    simp
  refine va_newaK (N := len) hc.1 hc.2.1 (hts _ harr) rfl hd rfl (fun q => ?_) hcl ?_ (by exact hb.1) (by exact hb.2) rfl fun H1 cA1 e1 z1 o1 hAr hNm => ?_
  · rw [← ofI_0, ofI_lt ⟨by omega, by omega⟩ InR0] at q
    omega
  · have : componentBytes (newarray.typeOf aty) ≤ 8 := by cases aty <;> decide
    exact Nat.le_trans (Nat.mul_le_mul hlen this) (by decide)
  · rw [hH] at e1
    have hcA : cA1 = cA t := by
      have h2 := (hK.2 t _ (tysA_get cA (by omega))).2
      rw [hty] at hNm
      match t, ht, h2, hNm with
      | 0, _, h2, hNm => exact Option.some.inj (hNm.symm.trans h2)
      | 1, _, h2, hNm => exact Option.some.inj (hNm.symm.trans h2)
      | 2, _, h2, hNm => exact Option.some.inj (hNm.symm.trans h2)
      | 3, _, h2, hNm => exact Option.some.inj (hNm.symm.trans h2)
    have hw1 : Wd D E cA none (n + 1) (nwf G n (fun _ => 0)) H1 := by
      refine new_world hw z1 o1 ?_ hH
      have hm : mcell E cA none (nwf G n (fun _ => 0)) n = .inl (cA t, len, arrC E t (fun _ => 0)) := by
        unfold mcell
        rw [hsh]
        simp only [rl, ite_self]
        rw [if_pos (by omega)]
        have e : nwf G n (fun _ => 0) (n : Int) = fun _ => 0 := by funext b; simp [nwf]
        rw [e]
      rw [hm]
      show H1[E.1 + n]? = some (vp_cell _ _)
      rw [e1, hcA, hty]
      match t, ht with
      | 0, _ => rfl
      | 1, _ => rfl
      | 2, _ => rfl
      | 3, _ => rfl
    have h9 := h p l e s m args below meth c D E cA hc H1 locs lc hw1 (S_new hs z1 o1) hl
    have e9 : n + 1 - (k + 1) = n - k := by omega
    simp only [e9] at h9
    rw [hH]
    exact h9
theorem r_anew {idx : Nat} {i : Int} {t len : Nat} {C : String} (hd : decode M.2.1 pc = .ok (.anewarray idx, 3)) (ht : 4 ≤ t ∧ t < 8) (hC : tyA t = .object C) (hao : C ∈ aoC) (hcl : Cond.classLink M.1.cls idx C ∈ lw_tbl.filter goodWord) (hi : i = len) (hlen : len ≤ 60000) (hn : n < NT) (hsh : shp n = (t, len)) (hb : k + 1 ≤ mc ∧ w + len ≤ ms)
    (h : Rn d M (n + 1, k + 1, w + len, mc, ms, none) (pc + 3) ls ((2, (n : Int)) :: sk) (nwf G n (fun _ => -1)) Q) : Rn d M (n, k, w, mc, ms, none) pc ls ((0, i) :: sk) G Q := by
  subst hi
  intro p l e s m args below meth c D E cA hc H locs lc hw hs hl
  have hts := hc.2.2.2.2.1
  have hK := hc.2.2.2.2.2.2.2.2.1
  have hH := hw.2.2 hn
  have hclm : (Int32.ofInt (len : Int)).toNatClampNeg = len := by
    rw [Int32.toNatClampNeg_ofInt_of_le (by omega) (by omega)]
    simp
  refine W.anew hc.1 hc.2.1 hc.2.2.2.1 (hts _ hcl) (va_AO.use (hc.2.2.2.2.2.2.2.2.2.1.2.2.2.2.2.2.2 C hao)) rfl hd (n := Int32.ofInt (len : Int)) rfl (fun q => ?_) (by rw [hclm]; omega) (by exact hb.1) (by rw [hclm]; exact hb.2) fun cA1 kA comp f1 f2 f3 f4 => ?_
  · rw [← ofI_0, ofI_lt ⟨by omega, by omega⟩ InR0] at q
    omega
  · rw [hclm]
    generalize hH1 : H.push ({ cls := cA1, slots := Array.replicate len .null, vm := .none } : Cell) = H1
    have z1 : H1.size = H.size + 1 := by rw [← hH1, Array.size_push]
    have e1 : H1[E.1 + n]? = some (arrV cA1 len (fun _ => .null)) := by rw [← hH1, ← hH, Array.getElem?_push_size, ← arrV_new]
    have o1 : ∀ q : Nat, q < H.size → H1[q]? = H[q]? := fun q hq => by rw [← hH1, Array.getElem?_push, if_neg (Nat.ne_of_lt hq)]
    have hcA : cA1 = cA t := by
      have h2 := (hK.2 t _ (tysA_get cA ht.2)).2
      rw [hC] at h2
      obtain ⟨_, _, _, _, _, h3⟩ := h2
      exact Option.some.inj (f1.symm.trans h3)
    have hw1 : Wd D E cA none (n + 1) (nwf G n (fun _ => -1)) H1 := by
      refine new_world hw z1 o1 ?_ hH
      have hm : mcell E cA none (nwf G n (fun _ => -1)) n = .inl (cA t, len, .inr (.inr (.inr (.inr fun _ => none)))) := by
        unfold mcell
        rw [hsh]
        simp only [rl, ite_self]
        rw [if_pos (by omega)]
        have e : nwf G n (fun _ => -1) (n : Int) = fun _ => -1 := by funext b; simp [nwf]
        rw [e]
        unfold arrC
        rw [if_neg (by omega), if_neg (by omega)]
        simp
      rw [hm]
      show H1[E.1 + n]? = some (vp_cell _ _)
      rw [e1, hcA, vp_cell_q]
      rfl
    have h9 := h p l e s m args below meth c D E cA hc H1 locs lc hw1 (S_new hs z1 o1) hl
    have e9 : n + 1 - (k + 1) = n - k := by omega
    simp only [e9] at h9
    rw [hH]
    exact h9
theorem r_aast {q i v : Int} {t len ci : Nat} (hd : decode M.2.1 pc = .ok (.aastore, 1)) (ha : Ar n q t len) (ht : 4 ≤ t) (hi : 0 ≤ i ∧ i < len) (hv : Ob n v ci) (hr : ∃ r : vw_C, vwCl[ci]? = some r ∧ tyA t = .object r.1)
    (h : Rn d M (n, k, w, mc, ms, none) (pc + 1) ls sk (st G q i v) Q) : Rn d M (n, k, w, mc, ms, none) pc ls ((2, v) :: (0, i) :: (2, q) :: sk) G Q := by
  intro p l e s m args below meth c D E cA hc H locs lc hw hs hl
  have hK := hc.2.2.2.2.2.2.2.2.1
  have hb := ha.2.2.2.2
  obtain ⟨r, hr, hC⟩ := hr
  obtain ⟨r', hr', cellV, g1, g2, g3, -⟩ := hw.1 v.toNat _ (ob_get hv)
  have hcls := (hK.1 ci r hr).2
  have hRA := (hK.2 t _ (tysA_get cA ha.2.2.2.1)).2
  rw [hC] at hRA
  obtain ⟨kA, comp, k1, k2, k3, -⟩ := hRA
  have hcomp : comp = D.1 ci := Option.some.inj (k3.symm.trans hcls.1)
  subst hcomp
  obtain ⟨kC, hkC, -⟩ := hcls.2
  have hg := ar_get (E := E) (cA := cA) (Ly := none) (G := G) ha
  rw [if_neg (by omega : ¬ t < 4)] at hg
  have earr : ∀ f : Int → Int, arrC E t f = .inr (.inr (.inr (.inr fun (j : Nat) => if f j < 0 then none else some (E.1 + (f j).toNat)))) := by
    intro f
    unfold arrC
    rw [if_neg (by omega), if_neg (by omega)]
  rw [earr] at hg
  have hti := tcl hi.1 hi.2 hb
  have h0 : ¬ Int32.ofInt i < 0 := fun q => vpin hi.1 hi.2 hb (Or.inl q)
  have hsz : (Int32.ofInt i).toNatClampNeg < (vp_cell (cA t) (len, .inr (.inr (.inr (.inr fun (j : Nat) => if rl none G q j < 0 then none else some (E.1 + (rl none G q j).toNat)))))).slots.size := by
    rw [vp_cell_q, arrV_size, hti]
    have h1 := hi.1
    have h2 := hi.2
    omega
  refine W.aast hc.1 hc.2.1 (hw.1 q.toNat _ hg) (fun q h => by cases h) (fun h => by cases h) k1 k2 rfl hkC ⟨h0, hsz⟩ g1 (fun q h => by rw [g3] at h; cases h) (by rw [g2]; exact hkC) (by rw [g2]; exact va_assign hcls) rfl rfl hd fun H1 e1 z1 o1 => ?_
  have e2 : H1[E.1 + q.toNat]? = some (vp_cell (cA t) (len, arrC E t (st G q i v q))) := by
    rw [earr, vp_cell_q, e1]
    show some ((vp_cell (cA t) (len, .inr (.inr (.inr (.inr _))))).setSlot _ _) = _
    rw [vp_cell_q, arrV_store, hti]
    congr 2
    funext j
    by_cases hj : (j : Int) = i
    · subst hj
      have hv0 := hv.1
      simp [updV, st, if_neg (by omega : ¬ v < 0), va_rf]
    · have hj' : ¬ j = i.toNat := by omega
      simp only [updV, if_neg hj']
      rw [st_ne _ _ (fun z => hj z.2)]
      rfl
  obtain ⟨hw1, hs1⟩ := arr_at (j := (Int32.ofInt i).toNatClampNeg) hw hs ha (fun _ => rfl) e2 z1 o1
  exact h p l e s m args below meth c D E cA hc H1 _ lc hw1 hs1 hl
end NROWS
