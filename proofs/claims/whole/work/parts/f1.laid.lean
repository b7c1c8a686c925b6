/-! the references as laid; makings in the law -/
theorem arrV_cg {c : ClassId} {N : Nat} {f g : Nat → Value} (h : ∀ j, j < N → f j = g j) : arrV c N f = arrV c N g := by
  unfold arrV
  congr 1
  congr 1
  funext j
  exact h j.val j.isLt
theorem wd_lay {D : va_G} {E : En} {cA : Nat → ClassId} {G : Mem} {H : Heap} (hw : Wd D E cA none NT G H) (hr : ∀ q : Nat, q < NT → ∀ k : Nat, k < (shp q).2 → (20 ≤ (shp q).1 → fk ((shp q).1 - 20) k = 5 → G (q : Int) (k : Int) = lay (q : Int) (k : Int)) ∧ (4 ≤ (shp q).1 → (shp q).1 < 20 → G (q : Int) (k : Int) = lay (q : Int) (k : Int))) : Wd D E cA (some lay) NT G H := by
  refine ⟨fun k p hp => ?_, hw.2⟩
  obtain ⟨hk, rfl⟩ := wsl_inv hp
  have a := hw.1 k _ (wsl_get hk)
  have hr := hr k hk
  by_cases h20 : (shp k).1 < 20
  · by_cases h4 : (shp k).1 < 4
    · have e : mcell E cA (some lay) G k = mcell E cA none G k := by
        unfold mcell
        rw [if_pos h20, if_pos h20, if_pos h4, if_pos h4]
      rw [e]
      exact a
    · have e1 : mcell E cA none G k = .inl (cA (shp k).1, (shp k).2, .inr (.inr (.inr (.inr fun j => if G (k : Int) (j : Int) < 0 then none else some (E.1 + (G (k : Int) (j : Int)).toNat))))) := by
        unfold mcell
        rw [if_pos h20, if_neg h4]
        unfold arrC
        rw [if_neg (by omega), if_neg (by omega)]
        rfl
      have e2 : mcell E cA (some lay) G k = .inl (cA (shp k).1, (shp k).2, .inr (.inr (.inr (.inr fun j => if lay (k : Int) (j : Int) < 0 then none else some (E.1 + (lay (k : Int) (j : Int)).toNat))))) := by
        unfold mcell
        rw [if_pos h20, if_neg h4]
        unfold arrC
        rw [if_neg (by omega), if_neg (by omega)]
        rfl
      rw [e1] at a
      rw [e2]
      show H[E.1 + k]? = some (vp_cell _ _)
      have a' : H[E.1 + k]? = some (vp_cell _ _) := a
      rw [a', vp_cell_q, vp_cell_q]
      congr 1
      exact arrV_cg (fun j hj => by rw [(hr j hj).2 (by omega) h20])
  · have e : mcell E cA (some lay) G k = mcell E cA none G k := by
      unfold mcell
      rw [if_neg h20, if_neg h20]
      congr 2
      apply List.map_congr_left
      intro j hj
      by_cases h5 : fk ((shp k).1 - 20) j = 5
      · rw [if_pos h5, if_pos h5]
        show fv E _ (lay (k : Int) (j : Int)) = fv E _ (G (k : Int) (j : Int))
        rw [(hr j (List.mem_range.mp hj)).1 (by omega) h5]
      · rw [if_neg h5, if_neg h5]
    rw [e]
    exact a
theorem ref_lay : ∀ q ∈ List.range NT, (shp q).1 < 4 ∨ ∀ k ∈ List.range (shp q).2, (20 ≤ (shp q).1 ∧ fk ((shp q).1 - 20) k ≠ 5) ∨ 0 ≤ lay (q : Int) (k : Int) := by decide +kernel
theorem obj_hi : ∀ q ∈ List.range NT, q < 311 ∨ q = 311 ∨ (shp q).1 < 4 := by decide +kernel
theorem refs_ok {G : Mem} (A : Fr fr G 0 311) (B : ∀ k : Int, 0 ≤ k → k < 76 → G 311 k = Fz 311 k) : ∀ q : Nat, q < NT → ∀ k : Nat, k < (shp q).2 → (20 ≤ (shp q).1 → fk ((shp q).1 - 20) k = 5 → G (q : Int) (k : Int) = lay (q : Int) (k : Int)) ∧ (4 ≤ (shp q).1 → (shp q).1 < 20 → G (q : Int) (k : Int) = lay (q : Int) (k : Int)) := by
  intro q hq k hk
  have key : ¬ (shp q).1 < 4 → ¬ (20 ≤ (shp q).1 ∧ fk ((shp q).1 - 20) k ≠ 5) → G (q : Int) (k : Int) = lay (q : Int) (k : Int) := fun h4 h5 => by
    have l := ((ref_lay q (List.mem_range.mpr hq)).resolve_left h4 k (List.mem_range.mpr hk)).resolve_left h5
    rcases obj_hi q (List.mem_range.mpr hq) with h | h | h
    · rw [A (q : Int) (k : Int) (by omega) (by omega) (by omega) (by rw [Int.toNat_natCast]; exact_mod_cast hk)]
      exact lay_fr rfl l
    · subst h
      have hk' : k < 76 := by rw [show (shp 311).2 = 76 by decide +kernel] at hk; exact hk
      rw [show ((311 : Nat) : Int) = 311 from rfl] at l ⊢
      rw [B (k : Int) (by omega) (by omega)]
      exact Fz_lay (P := True) ⟨rfl, l, trivial⟩
    · exact absurd h h4
  exact ⟨fun h h5 => key (by omega) (fun z => z.2 h5), fun h h20 => key (by omega) (fun z => by omega)⟩
section GNEW
variable {R : Room} {K : Kt} {M : Mth} {pc n k w x y : Nat} {ls : List (Nat × AV)} {sk : List AV} {G : Mem} {Z : Zp}
theorem g_new {idx ci : Nat} (hd : decode M.2.1 pc = .ok (.new idx, 3)) (hn : n < NT) (hsh : shp n = (20 + ci, nf ci)) (hci : ci < 13) (hcl : nwc M.1.cls idx ci) (hb : k + 1 ≤ R.cells ∧ w + nf ci ≤ R.slots)
    (h : Rg R K M (n + 1, k + 1, w + nf ci, x, y, none) (pc + 3) ls ((2, (n : Int)) :: sk) (nwf G n (dfl ci)) Z) : Rg R K M (n, k, w, x, y, none) pc ls sk G Z := by
  intro p l e s m args below meth c D E cA hc hK9 H locs lc hw hs hl
  obtain ⟨⟨rC, rT, rN⟩, hr, h1, h2, h3⟩ := hcl
  have hts := hc.2.2.2.2.1
  have hK := hc.2.2.2.2.2.2.2.2.1
  have hKn := hK.1 ci _ hr
  have ht := vwCl_ty ci hci _ hr
  have hN : rN = nf ci := ht.1
  have hH := hw.2.2 hn
  refine W.newcK hc.1 hc.2.1 hc.2.2.2.1 (hts _ h1) (hts _ h2) (hts _ h3) rfl hd (by exact hb.1) (by rw [hN]; exact hb.2) hKn.2.1 rfl fun H1 kC hkC e1 z1 o1 => ?_
  rw [hH] at e1
  have hw1 : Wd D E cA none (n + 1) (nwf G n (dfl ci)) H1 := by
    refine new_world hw z1 o1 ?_ hH
    have hm : mcell E cA none (nwf G n (dfl ci)) n = .inr (ci, (List.range (nf ci)).map fun (j : Nat) => fv E (fk ci j) (dfl ci j)) := by
      unfold mcell
      rw [hsh]
      simp only [rl, ite_self]
      rw [if_neg (by omega)]
      have e : ∀ j : Int, nwf G n (dfl ci) (n : Int) j = dfl ci j := fun j => by simp [nwf]
      simp only [e]
      simp
    rw [hm]
    refine ⟨_, hr, (u_born (tyX ci) hts (vwCl_in _ (List.mem_of_getElem? hr)) hKn hkC e1 ht.2.1).to (fun j hj => ?_)⟩
    have hj' : j < rN := hj
    have hj2 : j < nf ci := by omega
    simp only [vp_V, List.getD_eq_getElem?_getD, List.getElem?_map, List.getElem?_range hj2, Option.map_some, Option.getD_some]
    unfold dfl
    simp only [Int.toNat_natCast]
    exact (dfl_ok (ht.2.2.2 j hj') (fk_no9 ci hci j hj2)).symm
  have h9 := h p l e s m args below meth c D E cA hc hK9 H1 locs lc hw1 (S_new hs z1 o1) hl
  rw [hN, hH]
  exact h9
theorem g_newlong {len : Nat} (hd : decode M.2.1 pc = .ok (.newarray .long, 2)) (harr : Cond.arrayClass .long ∈ lw_tbl.filter goodWord) (hlen : len ≤ 60000) (hn : n < NT) (hsh : shp n = (3, len)) (hb : k + 1 ≤ R.cells ∧ w + len ≤ R.slots)
    (h : Rg R K M (n + 1, k + 1, w + len, x, y, none) (pc + 2) ls ((2, (n : Int)) :: sk) (nwf G n (fun _ => 0)) Z) : Rg R K M (n, k, w, x, y, none) pc ls ((0, (len : Int)) :: sk) G Z := by
  intro p l e s m args below meth c D E cA hc hK9 H locs lc hw hs hl
  have hts := hc.2.2.2.2.1
  have hK := hc.2.2.2.2.2.2.2.2.1
  have hH := hw.2.2 hn
  have hcl : (Int32.ofInt (len : Int)).toNatClampNeg = len := by
    rw [Int32.toNatClampNeg_ofInt_of_le (by omega) (by omega)]
    simp
  refine va_newaK (N := len) (atype := .long) hc.1 hc.2.1 (hts _ harr) rfl hd rfl (fun q => ?_) hcl ?_ (by exact hb.1) (by exact hb.2) rfl fun H1 cA1 e1 z1 o1 hAr hNm => ?_
  · rw [← ofI_0, ofI_lt ⟨by omega, by omega⟩ InR0] at q
    omega
  · exact Nat.le_trans (Nat.mul_le_mul hlen (show componentBytes (newarray.typeOf .long) ≤ 8 by decide)) (by decide)
  · rw [hH] at e1
    have hcA : cA1 = cA 3 := by
      have h2 := (hK.2 3 _ (tysA_get cA (by omega))).2
      exact Option.some.inj (hNm.symm.trans h2)
    have hw1 : Wd D E cA none (n + 1) (nwf G n (fun _ => 0)) H1 := by
      refine new_world hw z1 o1 ?_ hH
      have hm : mcell E cA none (nwf G n (fun _ => 0)) n = .inl (cA 3, len, arrC E 3 (fun _ => 0)) := by
        unfold mcell
        rw [hsh]
        simp only [rl, ite_self]
        rw [if_pos (by omega)]
        have e : nwf G n (fun _ => 0) (n : Int) = fun _ => 0 := by funext b; simp [nwf]
        rw [e]
      rw [hm]
      show H1[E.1 + n]? = some (vp_cell _ _)
      rw [e1, hcA]
      rfl
    have h9 := h p l e s m args below meth c D E cA hc hK9 H1 locs lc hw1 (S_new hs z1 o1) hl
    rw [hH]
    exact h9
theorem g_lay (hr : ∀ q : Nat, q < NT → ∀ k : Nat, k < (shp q).2 → (20 ≤ (shp q).1 → fk ((shp q).1 - 20) k = 5 → G (q : Int) (k : Int) = lay (q : Int) (k : Int)) ∧ (4 ≤ (shp q).1 → (shp q).1 < 20 → G (q : Int) (k : Int) = lay (q : Int) (k : Int))) (h : Rg R K M (NT, k, w, x, y, some lay) pc ls sk G Z) : Rg R K M (NT, k, w, x, y, none) pc ls sk G Z := by
  intro p l e s m args below meth c D E cA hc hK9 H locs lc hw hs hl
  exact h p l e s m args below meth c D E cA hc hK9 H locs lc (wd_lay hw hr) hs hl
end GNEW
