/-! heap rows -/
def flok (own : String) (idx ci k : Nat) : Prop := ci < 13 ∧ ∃ r : vw_C, vwCl[ci]? = some r ∧ k < r.2.2 ∧ Cond.fieldLink own idx (r.2.1 k).1 (r.2.1 k).2.1 (r.2.1 k).2.2.1 ∈ lw_tbl.filter goodWord
def Ob (n : Nat) (q : Int) (ci : Nat) : Prop := 0 ≤ q ∧ q.toNat < n ∧ shp q.toNat = (20 + ci, nf ci)
def Ar (n : Nat) (q : Int) (t len : Nat) : Prop := 0 ≤ q ∧ q.toNat < n ∧ shp q.toNat = (t, len) ∧ t < 8 ∧ len < 2147483648
theorem mcell_ob {E : En} {cA : Nat → ClassId} {Ly : Option Mem} {G : Mem} {n : Nat} {q : Int} {ci : Nat} (h : Ob n q ci) : mcell E cA Ly G q.toNat = .inr (ci, (List.range (nf ci)).map fun (k : Nat) => fv E (fk ci k) (if fk ci k = 5 then rl Ly G q k else G q k)) := by
  obtain ⟨h0, -, hs⟩ := h
  unfold mcell
  rw [hs]
  have e : ((q.toNat : Nat) : Int) = q := Int.toNat_of_nonneg h0
  simp only [e]
  rw [if_neg (by omega)]
  simp
theorem mcell_ar {E : En} {cA : Nat → ClassId} {Ly : Option Mem} {G : Mem} {n : Nat} {q : Int} {t len : Nat} (h : Ar n q t len) : mcell E cA Ly G q.toNat = .inl (cA t, len, arrC E t (if t < 4 then G q else rl Ly G q)) := by
  obtain ⟨h0, -, hs, ht, -⟩ := h
  unfold mcell
  rw [hs]
  have e : ((q.toNat : Nat) : Int) = q := Int.toNat_of_nonneg h0
  simp only [e]
  rw [if_pos (by omega)]
theorem ob_get {E : En} {cA : Nat → ClassId} {Ly : Option Mem} {G : Mem} {n : Nat} {q : Int} {ci : Nat} (h : Ob n q ci) : (wsl E cA Ly G n)[q.toNat]? = some (E.1 + q.toNat, .inr (ci, (List.range (nf ci)).map fun (k : Nat) => fv E (fk ci k) (if fk ci k = 5 then rl Ly G q k else G q k))) := by
  rw [wsl_get h.2.1, mcell_ob h]
theorem ar_get {E : En} {cA : Nat → ClassId} {Ly : Option Mem} {G : Mem} {n : Nat} {q : Int} {t len : Nat} (h : Ar n q t len) : (wsl E cA Ly G n)[q.toNat]? = some (E.1 + q.toNat, .inl (cA t, len, arrC E t (if t < 4 then G q else rl Ly G q))) := by
  rw [wsl_get h.2.1, mcell_ar h]
theorem tysA_get (cA : Nat → ClassId) {t : Nat} (h : t < 8) : (tysA cA)[t]? = some (cA t, tyA t) := by
  simp [tysA, h]
theorem mcell_other {E : En} {cA : Nat → ClassId} {Ly : Option Mem} {G : Mem} {q i v : Int} {k : Nat} (h : (k : Int) ≠ q) : mcell E cA Ly G k = mcell E cA Ly (st G q i v) k := by
  have e : st G q i v (k : Int) = G (k : Int) := by
    funext b
    exact st_nq G i v b h
  have e2 : rl Ly (st G q i v) (k : Int) = rl Ly G (k : Int) := by
    cases Ly with
    | none => exact e
    | some L => rfl
  unfold mcell
  rw [e, e2]
theorem wsl_stO {E : En} {cA : Nat → ClassId} {Ly : Option Mem} {G : Mem} {n : Nat} {q : Int} {ci k : Nat} {v : Int} (h : Ob n q ci) (hk : k < nf ci) (h5 : fk ci k = 5 → Ly = none) :
    (wsl E cA Ly G n).set q.toNat (E.1 + q.toNat, .inr (ci, ((List.range (nf ci)).map fun (k : Nat) => fv E (fk ci k) (if fk ci k = 5 then rl Ly G q k else G q k)).set k (fv E (fk ci k) v))) = wsl E cA Ly (st G q k v) n := by
  apply wsl_set
  · rw [mcell_ob h]
    congr 2
    apply List.ext_getElem?
    intro j
    by_cases hj : j = k
    · subst hj
      rw [List.getElem?_set_self (by simp [hk])]
      simp only [List.getElem?_map, List.getElem?_range hk, Option.map_some]
      congr 2
      by_cases h9 : fk ci j = 5
      · rw [if_pos h9, h5 h9]; simp [rl, st]
      · rw [if_neg h9]; simp [st]
    · rw [List.getElem?_set_ne (Ne.symm hj)]
      by_cases hl : j < nf ci
      · simp only [List.getElem?_map, List.getElem?_range hl, Option.map_some]
        have hji : ¬ (j : Int) = (k : Int) := by omega
        congr 2
        have e1 : st G q k v q j = G q j := by simp [st, hji]
        have e2 : rl Ly (st G q k v) q j = rl Ly G q j := by
          cases Ly with
          | none => exact e1
          | some L => rfl
        rw [e1, e2]
      · rw [List.getElem?_eq_none (by simp; omega), List.getElem?_eq_none (by simp; omega)]
  · intro j _ hj
    have h0 := h.1
    exact mcell_other (by omega)
theorem wsl_stA {E : En} {cA : Nat → ClassId} {Ly : Option Mem} {G : Mem} {n : Nat} {q : Int} {t len : Nat} {i v : Int} {x : (Nat → Int32) ⊕ (Nat → Int64) ⊕ (Nat → UInt32) ⊕ (Nat → UInt64) ⊕ (Nat → Option Nat)} (h : Ar n q t len) (h5 : 4 ≤ t → Ly = none) (hx : x = arrC E t (st G q i v q)) :
    (wsl E cA Ly G n).set q.toNat (E.1 + q.toNat, .inl (cA t, len, x)) = wsl E cA Ly (st G q i v) n := by
  apply wsl_set
  · rw [mcell_ar h, hx]
    by_cases h4 : t < 4
    · rw [if_pos h4]
    · rw [if_neg h4, h5 (by omega)]; rfl
  · intro j _ hj
    have h0 := h.1
    exact mcell_other (by omega)
theorem Wd.put {D : va_G} {E : En} {cA : Nat → ClassId} {Ly : Option Mem} {n : Nat} {G G' : Mem} {H H1 : Heap} {w : va_W} {H0 : Heap} {locs locs1 : List Loc} (hw : Wd D E cA Ly n G H) (hP : va_P D vwCl w H1) (he : w = wsl E cA Ly G' n) (hz : H1.size = H.size) : Wd D E cA Ly n G' H1 := by
  subst he
  exact ⟨hP, by rw [hz]; exact hw.2.1, fun h => by rw [hz]; exact hw.2.2 h⟩
theorem fkO_0 {ty : FieldType} {fin : Bool} (h : fkO ty fin = 0) : ty = .int := by
  cases ty <;> cases fin <;> simp_all [fkO]
theorem fkO_1 {ty : FieldType} {fin : Bool} (h : fkO ty fin = 1) : ty = .long := by
  cases ty <;> cases fin <;> simp_all [fkO]
theorem fkO_3 {ty : FieldType} {fin : Bool} (h : fkO ty fin = 3) : ty = .boolean := by
  cases ty <;> cases fin <;> simp_all [fkO]
theorem fkO_2 {ty : FieldType} {fin : Bool} (h : fkO ty fin = 2) (a : Nat) : fin = false ∧ narrow ty (.ref a) = .ref a ∧ fits ty (.ref a) = true := by
  cases ty <;> cases fin <;> simp_all [fkO, narrow, fits]
theorem fkO_5 {ty : FieldType} {fin : Bool} (h : fkO ty fin = 5) (a : Nat) : fin = true ∧ narrow ty (.ref a) = .ref a ∧ fits ty (.ref a) = true := by
  cases ty <;> cases fin <;> simp_all [fkO, narrow, fits]
theorem upd_st {G : Mem} {q i v : Int} (h0 : 0 ≤ i) : upd (fun j => Int32.ofInt (G q j)) i.toNat (Int32.ofInt v) = fun (j : Nat) => Int32.ofInt (st G q i v q j) := by
  funext j
  by_cases h : (j : Int) = i
  · subst h
    simp [upd, st]
  · have h' : ¬ j = i.toNat := by omega
    simp [upd, st, h, h']
theorem updL_st {G : Mem} {q i v : Int} (h0 : 0 ≤ i) : vp_updL (fun j => Int64.ofInt (G q j)) i.toNat (Int64.ofInt v) = fun (j : Nat) => Int64.ofInt (st G q i v q j) := by
  funext j
  by_cases h : (j : Int) = i
  · subst h
    simp [vp_updL, st]
  · have h' : ¬ j = i.toNat := by omega
    simp [vp_updL, st, h, h']
theorem nar_c {v : Int} (h : 0 ≤ v ∧ v < 65536) : narrow .char (.int (Int32.ofInt v)) = .int (Int32.ofInt v) := by
  obtain ⟨n, rfl⟩ := Int.eq_ofNat_of_zero_le h.1
  have hn : n < 65536 := by omega
  have e : (Int32.ofInt (n : Int)).toUInt32 = UInt32.ofNat n := by
    rw [Int32.ofInt_eq_ofNat]; rfl
  show Value.int ((Int32.ofInt (n : Int)).toUInt32.toUInt16.toUInt32.toInt32) = _
  rw [e]
  have e2 : (UInt32.ofNat n).toUInt16.toUInt32 = UInt32.ofNat n := by
    apply UInt32.toNat_inj.mp
    simp
    omega
  rw [e2, Int32.ofInt_eq_ofNat]; rfl
theorem arr_at {D : va_G} {E : En} {cA : Nat → ClassId} {Ly : Option Mem} {n : Nat} {G : Mem} {H H' : Heap} {H0 : Heap} {locs : List Loc} {q i v : Int} {t len j : Nat} (hw : Wd D E cA Ly n G H) (hs : va_S (Ow E) H0 H locs) (ha : Ar n q t len) (h5 : 4 ≤ t → Ly = none)
    (e1 : H'[E.1 + q.toNat]? = some (vp_cell (cA t) (len, arrC E t (st G q i v q)))) (hz : H'.size = H.size) (ho : ∀ r, r ≠ E.1 + q.toNat → H'[r]? = H[r]?) : Wd D E cA Ly n (st G q i v) H' ∧ va_S (Ow E) H0 H' (locs ++ [⟨E.1 + q.toNat, j⟩]) := by
  refine ⟨⟨?_, by rw [hz]; exact hw.2.1, fun h => by rw [hz]; exact hw.2.2 h⟩, hs.put hz ho (Nat.le_add_right _ _)⟩
  have h1 := hw.1.set (wsl_D E cA Ly G n) (ar_get ha) (e := .inl (cA t, len, arrC E t (st G q i v q))) e1 ho
  rwa [wsl_stA ha h5 rfl] at h1
section HROWS2
variable {d : Nat} {M : Mth} {z : Zt} {pc : Nat} {ls : List (Nat × AV)} {sk : List AV} {G : Mem} {Q : Int → Mem → Prop}
theorem W_put {p : Program} {l : Launch} {e : Env} {R : Room} {s : State} {m : MethodId} {args : Array Value} {below : List Frame} {meth : Method} {c : Code} {H : Heap} {locs : List Loc} {cells slots mc ms : Nat} {Qs : State → Prop} {D : va_G} {E : En} {cA : Nat → ClassId} {Ly : Option Mem} {n : Nat} {lc : Array Slot} {rest : List Value}
    (hc : Cx d M mc ms p s m args meth c D E cA) (hw : Wd D E cA Ly n G H) (hs : va_S (Ow E) s.heap H locs) {idx ci k : Nat} {q x : Int} {v : Value} (hf : flok M.1.cls idx ci k) (hfin : ∀ r : vw_C, vwCl[ci]? = some r → (r.2.1 k).2.2.2 = false) (hq : Ob n q ci) (hn : narrow (tyX ci k) v = v) (hfit : fits (tyX ci k) v = true) (hv : fv E (fk ci k) x = v) (h5 : ¬ fk ci k = 5)
    (hd : decode M.2.1 pc = .ok (.putfield idx, 3)) (kk : ∀ (H1 : Heap) (locs1 : List Loc), Wd D E cA Ly n (st G q k x) H1 → va_S (Ow E) s.heap H1 locs1 → W p l e R s m args below meth c H1 locs1 cells slots Qs (F0 m (pc + 3) lc rest)) : W p l e R s m args below meth c H locs cells slots Qs (F0 m pc lc (v :: .ref (E.1 + q.toNat) :: rest)) := by
  obtain ⟨hx, hb, hml, hown, hts, -, -, -, hK, -, -⟩ := hc
  obtain ⟨hci, ⟨rC, rT, rN⟩, hr, hk, hlk⟩ := hf
  have ht := vwCl_ty ci hci _ hr
  have hN : rN = nf ci := ht.1
  have hin := vwCl_in _ (List.mem_of_getElem? hr)
  have hap := va_apart (own := M.1.cls) hts hin (tyX ci) ht.2.1 ht.2.2.1 hK hr
  obtain ⟨r', h1, cell, q1, q2, q3, q4⟩ := hw.1 q.toNat _ (ob_get hq)
  have hr' : r' = (rC, rT, rN) := Option.some.inj (h1.symm.trans hr)
  subst hr'
  obtain ⟨hS, hfc, kC, hkC, hkind⟩ := hK.1 ci _ hr
  obtain ⟨cf, kf, fi, f, hi, hsl⟩ := hS k hk
  have hlay := hts _ (hin _ (u_in_lay hk))
  unfold u_lay at hlay
  rw [if_neg (by rw [hfin _ hr]; decide)] at hlay
  have hst := (u_facts hfc hkC (u_lays hts hin hk) hi).1
  have h6 := u_store hfc hkC hkind hlay hi (ht.2.1 k hk) hn hfit
  refine W.putK hx hb (f := f) ⟨hown, hts _ hlk, ⟨_, _, _, hi⟩, hst⟩ (by rw [q2]; exact h6) q1 q3 (by rw [hsl]; exact k2_hasslot (q4 k hk)) rfl rfl hd fun H' e1 e2 e3 => ?_
  rw [hsl] at e1 ⊢
  have hk' : k < rN := hk
  generalize hfs : ((List.range (nf ci)).map fun (k : Nat) => fv E (fk ci k) (if fk ci k = 5 then rl Ly G q k else G q k)) = fs at q4
  have hlen : k < fs.length := by rw [← hfs]; simp; omega
  have hP1 := hw.1.set (wsl_D E cA Ly G n) (ob_get hq) (e := .inr (ci, fs.set k v)) ⟨_, hr, t_OB.to (V := updV (vp_V fs) k v) ⟨_, e1, q2, q3, t_set q4 hap hk v⟩ (fun j _ => vp_updV_set hlen v j)⟩ e3
  rw [← hfs, ← hv, wsl_stO hq (by omega) (fun h => absurd h h5)] at hP1
  exact kk H' _ ⟨hP1, by rw [e2]; exact hw.2.1, fun h => by rw [e2]; exact hw.2.2 h⟩ (hs.put e2 e3 (Nat.le_add_right _ _))
theorem W_putF {p : Program} {l : Launch} {e : Env} {R : Room} {s : State} {m : MethodId} {args : Array Value} {below : List Frame} {meth : Method} {c : Code} {H : Heap} {locs : List Loc} {cells slots mc ms : Nat} {Qs : State → Prop} {D : va_G} {E : En} {cA : Nat → ClassId} {n : Nat} {lc : Array Slot} {rest : List Value}
    (hc : Cx d M mc ms p s m args meth c D E cA) (hw : Wd D E cA none n G H) (hs : va_S (Ow E) s.heap H locs) {idx ci k : Nat} {q x : Int} {v : Value} (hf : flok M.1.cls idx ci k) (hfin : ∀ r : vw_C, vwCl[ci]? = some r → (r.2.1 k).2.2.2 = true ∧ (r.2.1 k).1 = M.1.cls) (hname : M.1.name = "<init>") (hq : Ob n q ci) (hn : narrow (tyX ci k) v = v) (hfit : fits (tyX ci k) v = true) (hv : fv E (fk ci k) x = v)
    (hd : decode M.2.1 pc = .ok (.putfield idx, 3)) (kk : ∀ (H1 : Heap) (locs1 : List Loc), Wd D E cA none n (st G q k x) H1 → va_S (Ow E) s.heap H1 locs1 → W p l e R s m args below meth c H1 locs1 cells slots Qs (F0 m (pc + 3) lc rest)) : W p l e R s m args below meth c H locs cells slots Qs (F0 m pc lc (v :: .ref (E.1 + q.toNat) :: rest)) := by
  obtain ⟨hx, hb, hml, hown, hts, -, -, hnm, hK, -, -⟩ := hc
  obtain ⟨hci, ⟨rC, rT, rN⟩, hr, hk, hlk⟩ := hf
  have ht := vwCl_ty ci hci _ hr
  have hN : rN = nf ci := ht.1
  have hin := vwCl_in _ (List.mem_of_getElem? hr)
  have hap := va_apart (own := M.1.cls) hts hin (tyX ci) ht.2.1 ht.2.2.1 hK hr
  obtain ⟨r', h1, cell, q1, q2, q3, q4⟩ := hw.1 q.toNat _ (ob_get hq)
  have hr' : r' = (rC, rT, rN) := Option.some.inj (h1.symm.trans hr)
  subst hr'
  obtain ⟨hS, hfc, kC, hkC, hkind⟩ := hK.1 ci _ hr
  obtain ⟨cf, kf, fi, f, hi, hsl⟩ := hS k hk
  have hlay := hts _ (hin _ (u_in_lay hk))
  unfold u_lay at hlay
  rw [if_pos (hfin _ hr).1] at hlay
  have hst := (u_facts hfc hkC (u_lays hts hin hk) hi).1
  have hcf : m.cls = cf := by
    obtain ⟨_, _, c', _, _, _, -, -, hf', -, -, -, hown2, -⟩ := Cond.laysFinal_spec hlay
    have e1 : c' = cf := by have := hi.symm.trans hf'; simp at this; exact this.1.symm
    rw [(hfin _ hr).2] at hown2
    rw [← e1]; exact Option.some.inj (hown.symm.trans hown2)
  have h6 := u_fits hfc hkC hkind (Or.inr hlay) hi (ht.2.1 k hk) hn hfit
  refine W.putFinK hx hb hown (hts _ hlk) hi hst hcf (hnm.trans hname) (by rw [q2]; exact h6) q1 q3 (by rw [hsl]; exact k2_hasslot (q4 k hk)) rfl rfl hd fun H' e1 e2 e3 => ?_
  rw [hsl] at e1 ⊢
  have hk' : k < rN := hk
  generalize hfs : ((List.range (nf ci)).map fun (k : Nat) => fv E (fk ci k) (if fk ci k = 5 then rl none G q k else G q k)) = fs at q4
  have hlen : k < fs.length := by rw [← hfs]; simp; omega
  have hP1 := hw.1.set (wsl_D E cA none G n) (ob_get hq) (e := .inr (ci, fs.set k v)) ⟨_, hr, t_OB.to (V := updV (vp_V fs) k v) ⟨_, e1, q2, q3, t_set q4 hap hk v⟩ (fun j _ => vp_updV_set hlen v j)⟩ e3
  rw [← hfs, ← hv, wsl_stO hq (by omega) (fun _ => rfl)] at hP1
  exact kk H' _ ⟨hP1, by rw [e2]; exact hw.2.1, fun h => by rw [e2]; exact hw.2.2 h⟩ (hs.put e2 e3 (Nat.le_add_right _ _))
theorem r_getI {idx : Nat} {q : Int} (ci k : Nat) (kI : Int) (hkI : (k : Int) = kI) (hd : decode M.2.1 pc = .ok (.getfield idx, 3)) (hf : flok M.1.cls idx ci k) (hk9 : fk ci k = 0) (hq : Ob z.1 q ci) (h : Rn d M z (pc + 3) ls ((0, G q kI) :: sk) G Q) : Rn d M z pc ls ((2, q) :: sk) G Q := by
  subst hkI
  intro p l e s m args below meth c D E cA hc H locs lc hw hs hl
  obtain ⟨hci, ⟨rC, rT, rN⟩, hr, hk, hlk⟩ := hf
  have hN : rN = nf ci := (vwCl_ty ci hci _ hr).1
  have hk' : k < rN := hk
  refine va_get (D := D) (cl := vwCl) (tys := tysA cA) (Ts := lw_tbl.filter goodWord) (v := .int (Int32.ofInt (G q (k : Int)))) hc.1 hc.2.1 hc.2.2.2.2.1 (vwCl_in _ (List.mem_of_getElem? hr)) hc.2.2.2.1 hc.2.2.2.2.2.2.2.2.1 hw.1 q.toNat (ob_get hq) hr k hk (hc.2.2.2.2.1 _ hlk) (fun _ h => h) ?_ hd (h p l e s m args below meth c D E cA hc H locs lc hw hs hl)
  rw [List.getElem?_map, List.getElem?_range (by omega)]
  simp [fv, hk9]
theorem r_getZ {idx : Nat} {q : Int} (ci k : Nat) (kI : Int) (hkI : (k : Int) = kI) (hd : decode M.2.1 pc = .ok (.getfield idx, 3)) (hf : flok M.1.cls idx ci k) (hk9 : fk ci k = 3) (hq : Ob z.1 q ci) (h : Rn d M z (pc + 3) ls ((0, G q kI) :: sk) G Q) : Rn d M z pc ls ((2, q) :: sk) G Q := by
  subst hkI
  intro p l e s m args below meth c D E cA hc H locs lc hw hs hl
  obtain ⟨hci, ⟨rC, rT, rN⟩, hr, hk, hlk⟩ := hf
  have hN : rN = nf ci := (vwCl_ty ci hci _ hr).1
  have hk' : k < rN := hk
  refine va_get (D := D) (cl := vwCl) (tys := tysA cA) (Ts := lw_tbl.filter goodWord) (v := .int (Int32.ofInt (G q (k : Int)))) hc.1 hc.2.1 hc.2.2.2.2.1 (vwCl_in _ (List.mem_of_getElem? hr)) hc.2.2.2.1 hc.2.2.2.2.2.2.2.2.1 hw.1 q.toNat (ob_get hq) hr k hk (hc.2.2.2.2.1 _ hlk) (fun _ h => h) ?_ hd (h p l e s m args below meth c D E cA hc H locs lc hw hs hl)
  rw [List.getElem?_map, List.getElem?_range (by omega)]
  simp [fv, hk9]
theorem r_getJ {idx : Nat} {q : Int} (ci k : Nat) (kI : Int) (hkI : (k : Int) = kI) (hd : decode M.2.1 pc = .ok (.getfield idx, 3)) (hf : flok M.1.cls idx ci k) (hk9 : fk ci k = 1) (hq : Ob z.1 q ci) (h : Rn d M z (pc + 3) ls ((1, G q kI) :: sk) G Q) : Rn d M z pc ls ((2, q) :: sk) G Q := by
  subst hkI
  intro p l e s m args below meth c D E cA hc H locs lc hw hs hl
  obtain ⟨hci, ⟨rC, rT, rN⟩, hr, hk, hlk⟩ := hf
  have hN : rN = nf ci := (vwCl_ty ci hci _ hr).1
  have hk' : k < rN := hk
  refine va_get (D := D) (cl := vwCl) (tys := tysA cA) (Ts := lw_tbl.filter goodWord) (v := .long (Int64.ofInt (G q (k : Int)))) hc.1 hc.2.1 hc.2.2.2.2.1 (vwCl_in _ (List.mem_of_getElem? hr)) hc.2.2.2.1 hc.2.2.2.2.2.2.2.2.1 hw.1 q.toNat (ob_get hq) hr k hk (hc.2.2.2.2.1 _ hlk) (fun _ h => h) ?_ hd (h p l e s m args below meth c D E cA hc H locs lc hw hs hl)
  rw [List.getElem?_map, List.getElem?_range (by omega)]
  simp [fv, hk9]
theorem r_getR {idx : Nat} {q : Int} (ci k : Nat) (kI : Int) (hkI : (k : Int) = kI) (hd : decode M.2.1 pc = .ok (.getfield idx, 3)) (hf : flok M.1.cls idx ci k) (hk9 : fk ci k = 2) (hq : Ob z.1 q ci) (h9 : 0 ≤ G q kI) (h : Rn d M z (pc + 3) ls ((2, G q kI) :: sk) G Q) : Rn d M z pc ls ((2, q) :: sk) G Q := by
  subst hkI
  intro p l e s m args below meth c D E cA hc H locs lc hw hs hl
  obtain ⟨hci, ⟨rC, rT, rN⟩, hr, hk, hlk⟩ := hf
  have hN : rN = nf ci := (vwCl_ty ci hci _ hr).1
  have hk' : k < rN := hk
  refine va_get (D := D) (cl := vwCl) (tys := tysA cA) (Ts := lw_tbl.filter goodWord) (v := .ref (E.1 + (G q (k : Int)).toNat)) hc.1 hc.2.1 hc.2.2.2.2.1 (vwCl_in _ (List.mem_of_getElem? hr)) hc.2.2.2.1 hc.2.2.2.2.2.2.2.2.1 hw.1 q.toNat (ob_get hq) hr k hk (hc.2.2.2.2.1 _ hlk) (fun _ h => h) ?_ hd (h p l e s m args below meth c D E cA hc H locs lc hw hs hl)
  rw [List.getElem?_map, List.getElem?_range (by omega)]
  simp [fv, hk9, if_neg (by omega : ¬ G q (k : Int) < 0)]
theorem r_getF {idx : Nat} {q : Int} (ci k : Nat) (kI : Int) (hkI : (k : Int) = kI) (hd : decode M.2.1 pc = .ok (.getfield idx, 3)) (hf : flok M.1.cls idx ci k) (hk9 : fk ci k = 5) (hq : Ob z.1 q ci) (h9 : 0 ≤ rl z.2.2.2.2.2 G q kI) (h : Rn d M z (pc + 3) ls ((2, rl z.2.2.2.2.2 G q kI) :: sk) G Q) : Rn d M z pc ls ((2, q) :: sk) G Q := by
  subst hkI
  intro p l e s m args below meth c D E cA hc H locs lc hw hs hl
  obtain ⟨hci, ⟨rC, rT, rN⟩, hr, hk, hlk⟩ := hf
  have hN : rN = nf ci := (vwCl_ty ci hci _ hr).1
  have hk' : k < rN := hk
  refine va_get (D := D) (cl := vwCl) (tys := tysA cA) (Ts := lw_tbl.filter goodWord) (v := .ref (E.1 + (rl z.2.2.2.2.2 G q (k : Int)).toNat)) hc.1 hc.2.1 hc.2.2.2.2.1 (vwCl_in _ (List.mem_of_getElem? hr)) hc.2.2.2.1 hc.2.2.2.2.2.2.2.2.1 hw.1 q.toNat (ob_get hq) hr k hk (hc.2.2.2.2.1 _ hlk) (fun _ h => h) ?_ hd (h p l e s m args below meth c D E cA hc H locs lc hw hs hl)
  rw [List.getElem?_map, List.getElem?_range (by omega)]
  simp [fv, hk9, if_neg (by omega : ¬ rl z.2.2.2.2.2 G q (k : Int) < 0)]
theorem r_putI {idx : Nat} {q v : Int} (ci k : Nat) (kI : Int) (hkI : (k : Int) = kI) (hd : decode M.2.1 pc = .ok (.putfield idx, 3)) (hf : flok M.1.cls idx ci k) (hk9 : fk ci k = 0) (hfin : ∀ r : vw_C, vwCl[ci]? = some r → (r.2.1 k).2.2.2 = false) (hq : Ob z.1 q ci) (h : Rn d M z (pc + 3) ls sk (st G q kI v) Q) : Rn d M z pc ls ((0, v) :: (2, q) :: sk) G Q := by
  subst hkI
  intro p l e s m args below meth c D E cA hc H locs lc hw hs hl
  have hnf : narrow (tyX ci k) (.int (Int32.ofInt v)) = .int (Int32.ofInt v) ∧ fits (tyX ci k) (.int (Int32.ofInt v)) = true := by
    obtain ⟨hci, r, hr, hk, -⟩ := hf
    have ht := vwCl_ty ci hci _ hr
    have hty : tyX ci k = .int := fkO_0 (fin := (r.2.1 k).2.2.2) (by rw [← hk9]; exact (ht.2.2.2 k hk).symm)
    have hnf : narrow (tyX ci k) (.int (Int32.ofInt v)) = .int (Int32.ofInt v) ∧ fits (tyX ci k) (.int (Int32.ofInt v)) = true := by
      rw [hty]
      exact ⟨rfl, rfl⟩
    exact hnf
  exact W_put hc hw hs hf hfin hq hnf.1 hnf.2 (by rw [hk9]; rfl) (by rw [hk9]; decide) hd (fun H1 locs1 hw1 hs1 => h p l e s m args below meth c D E cA hc H1 locs1 lc hw1 hs1 hl)
theorem r_putZ {idx : Nat} {q v : Int} (ci k : Nat) (kI : Int) (hkI : (k : Int) = kI) (hd : decode M.2.1 pc = .ok (.putfield idx, 3)) (hf : flok M.1.cls idx ci k) (hk9 : fk ci k = 3) (hfin : ∀ r : vw_C, vwCl[ci]? = some r → (r.2.1 k).2.2.2 = false) (hq : Ob z.1 q ci) (h9 : v = 0 ∨ v = 1) (h : Rn d M z (pc + 3) ls sk (st G q kI v) Q) : Rn d M z pc ls ((0, v) :: (2, q) :: sk) G Q := by
  subst hkI
  intro p l e s m args below meth c D E cA hc H locs lc hw hs hl
  have hnf : narrow (tyX ci k) (.int (Int32.ofInt v)) = .int (Int32.ofInt v) ∧ fits (tyX ci k) (.int (Int32.ofInt v)) = true := by
    obtain ⟨hci, r, hr, hk, -⟩ := hf
    have ht := vwCl_ty ci hci _ hr
    have hty : tyX ci k = .boolean := fkO_3 (fin := (r.2.1 k).2.2.2) (by rw [← hk9]; exact (ht.2.2.2 k hk).symm)
    have hnf : narrow (tyX ci k) (.int (Int32.ofInt v)) = .int (Int32.ofInt v) ∧ fits (tyX ci k) (.int (Int32.ofInt v)) = true := by
      rw [hty]
      rcases h9 with rfl | rfl <;> exact ⟨rfl, rfl⟩
    exact hnf
  exact W_put hc hw hs hf hfin hq hnf.1 hnf.2 (by rw [hk9]; rfl) (by rw [hk9]; decide) hd (fun H1 locs1 hw1 hs1 => h p l e s m args below meth c D E cA hc H1 locs1 lc hw1 hs1 hl)
theorem r_putJ {idx : Nat} {q v : Int} (ci k : Nat) (kI : Int) (hkI : (k : Int) = kI) (hd : decode M.2.1 pc = .ok (.putfield idx, 3)) (hf : flok M.1.cls idx ci k) (hk9 : fk ci k = 1) (hfin : ∀ r : vw_C, vwCl[ci]? = some r → (r.2.1 k).2.2.2 = false) (hq : Ob z.1 q ci) (h : Rn d M z (pc + 3) ls sk (st G q kI v) Q) : Rn d M z pc ls ((1, v) :: (2, q) :: sk) G Q := by
  subst hkI
  intro p l e s m args below meth c D E cA hc H locs lc hw hs hl
  have hnf : narrow (tyX ci k) (.long (Int64.ofInt v)) = .long (Int64.ofInt v) ∧ fits (tyX ci k) (.long (Int64.ofInt v)) = true := by
    obtain ⟨hci, r, hr, hk, -⟩ := hf
    have ht := vwCl_ty ci hci _ hr
    have hty : tyX ci k = .long := fkO_1 (fin := (r.2.1 k).2.2.2) (by rw [← hk9]; exact (ht.2.2.2 k hk).symm)
    have hnf : narrow (tyX ci k) (.long (Int64.ofInt v)) = .long (Int64.ofInt v) ∧ fits (tyX ci k) (.long (Int64.ofInt v)) = true := by
      rw [hty]
      exact ⟨rfl, rfl⟩
    exact hnf
  exact W_put hc hw hs hf hfin hq hnf.1 hnf.2 (by rw [hk9]; rfl) (by rw [hk9]; decide) hd (fun H1 locs1 hw1 hs1 => h p l e s m args below meth c D E cA hc H1 locs1 lc hw1 hs1 hl)
theorem r_putR {idx : Nat} {q v : Int} (ci k : Nat) (kI : Int) (hkI : (k : Int) = kI) (hd : decode M.2.1 pc = .ok (.putfield idx, 3)) (hf : flok M.1.cls idx ci k) (hk9 : fk ci k = 2) (hfin : ∀ r : vw_C, vwCl[ci]? = some r → (r.2.1 k).2.2.2 = false) (hq : Ob z.1 q ci) (h9 : 0 ≤ v) (h : Rn d M z (pc + 3) ls sk (st G q kI v) Q) : Rn d M z pc ls ((2, v) :: (2, q) :: sk) G Q := by
  subst hkI
  intro p l e s m args below meth c D E cA hc H locs lc hw hs hl
  have hnf : narrow (tyX ci k) (.ref (E.1 + v.toNat)) = .ref (E.1 + v.toNat) ∧ fits (tyX ci k) (.ref (E.1 + v.toNat)) = true := by
    obtain ⟨hci, r, hr, hk, -⟩ := hf
    have ht := vwCl_ty ci hci _ hr
    have hnf : narrow (tyX ci k) (.ref (E.1 + v.toNat)) = .ref (E.1 + v.toNat) ∧ fits (tyX ci k) (.ref (E.1 + v.toNat)) = true := (fkO_2 (fin := (r.2.1 k).2.2.2) (by rw [← hk9]; exact (ht.2.2.2 k hk).symm) _).2
    exact hnf
  exact W_put hc hw hs hf hfin hq hnf.1 hnf.2 (by rw [hk9]; show (if v < 0 then _ else _) = _; rw [if_neg (by omega)]; rfl) (by rw [hk9]; decide) hd (fun H1 locs1 hw1 hs1 => h p l e s m args below meth c D E cA hc H1 locs1 lc hw1 hs1 hl)
theorem r_putF {idx n k9 w9 mc ms : Nat} {q v : Int} (ci k : Nat) (kI : Int) (hkI : (k : Int) = kI) (hd : decode M.2.1 pc = .ok (.putfield idx, 3)) (hf : flok M.1.cls idx ci k) (hk9 : fk ci k = 5) (hfin : ∀ r : vw_C, vwCl[ci]? = some r → (r.2.1 k).2.2.2 = true ∧ (r.2.1 k).1 = M.1.cls) (hname : M.1.name = "<init>") (hq : Ob n q ci) (h9 : 0 ≤ v) (h : Rn d M (n, k9, w9, mc, ms, none) (pc + 3) ls sk (st G q kI v) Q) : Rn d M (n, k9, w9, mc, ms, none) pc ls ((2, v) :: (2, q) :: sk) G Q := by
  subst hkI
  intro p l e s m args below meth c D E cA hc H locs lc hw hs hl
  have hnf : narrow (tyX ci k) (.ref (E.1 + v.toNat)) = .ref (E.1 + v.toNat) ∧ fits (tyX ci k) (.ref (E.1 + v.toNat)) = true := by
    obtain ⟨hci, r, hr, hk, -⟩ := hf
    have ht := vwCl_ty ci hci _ hr
    exact (fkO_5 (fin := (r.2.1 k).2.2.2) (by rw [← hk9]; exact (ht.2.2.2 k hk).symm) _).2
  exact W_putF hc hw hs hf hfin hname hq hnf.1 hnf.2 (by rw [hk9]; show (if v < 0 then _ else _) = _; rw [if_neg (by omega)]; rfl) hd (fun H1 locs1 hw1 hs1 => h p l e s m args below meth c D E cA hc H1 locs1 lc hw1 hs1 hl)
theorem r_iaload {q i : Int} {len : Nat} (hd : decode M.2.1 pc = .ok (.iaload, 1)) (ha : Ar z.1 q 0 len) (hi : 0 ≤ i ∧ i < len) (h : Rn d M z (pc + 1) ls ((0, G q i) :: sk) G Q) : Rn d M z pc ls ((0, i) :: (2, q) :: sk) G Q := by
  intro p l e s m args below meth c D E cA hc H locs lc hw hs hl
  have h1 := h p l e s m args below meth c D E cA hc H locs lc hw hs hl
  refine va_iald hc.1 hc.2.1 hc.2.2.2.2.2.2.2.2.1 hw.1 q.toNat 0 (ar_get ha) (tysA_get cA ha.2.2.2.1) (vpin hi.1 hi.2 ha.2.2.2.2) hd ?_
  rw [tcl hi.1 hi.2 ha.2.2.2.2]
  simp only [Int.toNat_of_nonneg hi.1]
  exact h1
theorem r_zaload {q i : Int} {len : Nat} (hd : decode M.2.1 pc = .ok (.baload, 1)) (ha : Ar z.1 q 1 len) (hi : 0 ≤ i ∧ i < len) (h : Rn d M z (pc + 1) ls ((0, G q i) :: sk) G Q) : Rn d M z pc ls ((0, i) :: (2, q) :: sk) G Q := by
  intro p l e s m args below meth c D E cA hc H locs lc hw hs hl
  have h1 := h p l e s m args below meth c D E cA hc H locs lc hw hs hl
  refine va_zald hc.1 hc.2.1 hc.2.2.2.2.2.2.2.2.1 hw.1 q.toNat 1 (ar_get ha) (tysA_get cA ha.2.2.2.1) (vpin hi.1 hi.2 ha.2.2.2.2) hd ?_
  rw [tcl hi.1 hi.2 ha.2.2.2.2]
  simp only [Int.toNat_of_nonneg hi.1]
  exact h1
theorem r_caload {q i : Int} {len : Nat} (hd : decode M.2.1 pc = .ok (.caload, 1)) (ha : Ar z.1 q 2 len) (hi : 0 ≤ i ∧ i < len) (h : Rn d M z (pc + 1) ls ((0, G q i) :: sk) G Q) : Rn d M z pc ls ((0, i) :: (2, q) :: sk) G Q := by
  intro p l e s m args below meth c D E cA hc H locs lc hw hs hl
  have h1 := h p l e s m args below meth c D E cA hc H locs lc hw hs hl
  refine va_cald hc.1 hc.2.1 hc.2.2.2.2.2.2.2.2.1 hw.1 q.toNat 2 (ar_get ha) (tysA_get cA ha.2.2.2.1) (vpin hi.1 hi.2 ha.2.2.2.2) hd ?_
  rw [tcl hi.1 hi.2 ha.2.2.2.2]
  simp only [Int.toNat_of_nonneg hi.1]
  exact h1
theorem r_laload {q i : Int} {len : Nat} (hd : decode M.2.1 pc = .ok (.laload, 1)) (ha : Ar z.1 q 3 len) (hi : 0 ≤ i ∧ i < len) (h : Rn d M z (pc + 1) ls ((1, G q i) :: sk) G Q) : Rn d M z pc ls ((0, i) :: (2, q) :: sk) G Q := by
  intro p l e s m args below meth c D E cA hc H locs lc hw hs hl
  have h1 := h p l e s m args below meth c D E cA hc H locs lc hw hs hl
  refine va_lald hc.1 hc.2.1 hc.2.2.2.2.2.2.2.2.1 hw.1 q.toNat 3 (ar_get ha) (tysA_get cA ha.2.2.2.1) (vpin hi.1 hi.2 ha.2.2.2.2) hd ?_
  rw [tcl hi.1 hi.2 ha.2.2.2.2]
  simp only [Int.toNat_of_nonneg hi.1]
  exact h1
theorem r_aaload {q i : Int} {t len : Nat} {C : String} (hd : decode M.2.1 pc = .ok (.aaload, 1)) (ha : Ar z.1 q t len) (ht : 4 ≤ t) (hC : tyA t = .object C) (hi : 0 ≤ i ∧ i < len) (h9 : 0 ≤ rl z.2.2.2.2.2 G q i) (h : Rn d M z (pc + 1) ls ((2, rl z.2.2.2.2.2 G q i) :: sk) G Q) : Rn d M z pc ls ((0, i) :: (2, q) :: sk) G Q := by
  intro p l e s m args below meth c D E cA hc H locs lc hw hs hl
  have h1 := h p l e s m args below meth c D E cA hc H locs lc hw hs hl
  have hg := ar_get (E := E) (cA := cA) (Ly := z.2.2.2.2.2) (G := G) ha
  rw [if_neg (by omega : ¬ t < 4)] at hg
  have e : arrC E t (rl z.2.2.2.2.2 G q) = .inr (.inr (.inr (.inr fun (j : Nat) => if rl z.2.2.2.2.2 G q j < 0 then none else some (E.1 + (rl z.2.2.2.2.2 G q j).toNat)))) := by
    unfold arrC
    rw [if_neg (by omega), if_neg (by omega)]
  rw [e] at hg
  refine va_aldq (C := C) hc.1 hc.2.1 hc.2.2.2.2.2.2.2.2.1 hw.1 q.toNat t hg (by rw [tysA_get cA ha.2.2.2.1, hC]) (vpin hi.1 hi.2 ha.2.2.2.2) hd ?_
  rw [tcl hi.1 hi.2 ha.2.2.2.2]
  simp only [Int.toNat_of_nonneg hi.1, if_neg (by omega : ¬ rl z.2.2.2.2.2 G q i < 0)]
  exact h1
theorem r_alen {q : Int} {t len : Nat} (n9 : Int) (hn9 : (len : Int) = n9) (hd : decode M.2.1 pc = .ok (.arraylength, 1)) (ha : Ar z.1 q t len) (h : Rn d M z (pc + 1) ls ((0, n9) :: sk) G Q) : Rn d M z pc ls ((2, q) :: sk) G Q := by
  subst hn9
  intro p l e s m args below meth c D E cA hc H locs lc hw hs hl
  exact va_alen hc.1 hc.2.1 hc.2.2.2.2.2.2.2.2.1 hw.1 q.toNat t (ar_get ha) (tysA_get cA ha.2.2.2.1) (v := Int32.ofInt (len : Int)) (by rw [Int32.ofInt_eq_ofNat]) hd (h p l e s m args below meth c D E cA hc H locs lc hw hs hl)
theorem r_iastore {q i v : Int} {len : Nat} (hd : decode M.2.1 pc = .ok (.iastore, 1)) (ha : Ar z.1 q 0 len) (hi : 0 ≤ i ∧ i < len) (h : Rn d M z (pc + 1) ls sk (st G q i v) Q) : Rn d M z pc ls ((0, v) :: (0, i) :: (2, q) :: sk) G Q := by
  intro p l e s m args below meth c D E cA hc H locs lc hw hs hl
  have hb := ha.2.2.2.2
  refine W.iast hc.1 hc.2.1 (hw.1 q.toNat _ (ar_get ha)) ((hc.2.2.2.2.2.2.2.2.1.2 0 _ (tysA_get cA ha.2.2.2.1)).1 len (fun j => .int (Int32.ofInt (G q j)))) (fun q => by cases q) (by show ¬ (_ < 0 ∨ (arrV _ _ _).slots.size ≤ _); rw [arrV_size]; exact vpin hi.1 hi.2 hb) rfl rfl hd fun H1 e1 z1 o1 => ?_
  have e2 : H1[E.1 + q.toNat]? = some (vp_cell (cA 0) (len, arrC E 0 (st G q i v q))) := by
    rw [show arrC E 0 (st G q i v q) = .inl (fun (j : Nat) => Int32.ofInt (st G q i v q j)) from rfl, vp_cell_i]
    have e3 := e1
    change H1[E.1 + q.toNat]? = some ((arrV (cA 0) len (fun j => .int (Int32.ofInt (G q j)))).setSlot _ _) at e3
    rw [arrV_store, tcl hi.1 hi.2 hb] at e3
    rw [e3]
    congr 2
    funext j
    by_cases hj : (j : Int) = i
    · subst hj
      simp [updV, st]
    · have hj' : ¬ j = i.toNat := by omega
      simp [updV, st, hj, hj']
  obtain ⟨hw1, hs1⟩ := arr_at (j := (Int32.ofInt i).toNatClampNeg) hw hs ha (fun h => by omega) e2 z1 o1
  exact h p l e s m args below meth c D E cA hc H1 _ lc hw1 hs1 hl
theorem r_zastore {q i v : Int} {len : Nat} (hd : decode M.2.1 pc = .ok (.bastore, 1)) (ha : Ar z.1 q 1 len) (hi : 0 ≤ i ∧ i < len) (h9 : v = 0 ∨ v = 1) (h : Rn d M z (pc + 1) ls sk (st G q i v) Q) : Rn d M z pc ls ((0, v) :: (0, i) :: (2, q) :: sk) G Q := by
  intro p l e s m args below meth c D E cA hc H locs lc hw hs hl
  have hb := ha.2.2.2.2
  refine W.zast hc.1 hc.2.1 (hw.1 q.toNat _ (ar_get ha)) ((hc.2.2.2.2.2.2.2.2.1.2 1 _ (tysA_get cA ha.2.2.2.1)).1 len (fun j => .int (Int32.ofInt (G q j)))) (fun q => by cases q) (by show ¬ (_ < 0 ∨ (arrV _ _ _).slots.size ≤ _); rw [arrV_size]; exact vpin hi.1 hi.2 hb) rfl rfl hd fun H1 e1 z1 o1 => ?_
  rw [show narrow .boolean (.int (Int32.ofInt v)) = .int (Int32.ofInt v) from by rcases h9 with rfl | rfl <;> rfl] at e1
  have e2 : H1[E.1 + q.toNat]? = some (vp_cell (cA 1) (len, arrC E 1 (st G q i v q))) := by
    rw [show arrC E 1 (st G q i v q) = .inl (fun (j : Nat) => Int32.ofInt (st G q i v q j)) from rfl, vp_cell_i]
    have e3 := e1
    change H1[E.1 + q.toNat]? = some ((arrV (cA 1) len (fun j => .int (Int32.ofInt (G q j)))).setSlot _ _) at e3
    rw [arrV_store, tcl hi.1 hi.2 hb] at e3
    rw [e3]
    congr 2
    funext j
    by_cases hj : (j : Int) = i
    · subst hj
      simp [updV, st]
    · have hj' : ¬ j = i.toNat := by omega
      simp [updV, st, hj, hj']
  obtain ⟨hw1, hs1⟩ := arr_at (j := (Int32.ofInt i).toNatClampNeg) hw hs ha (fun h => by omega) e2 z1 o1
  exact h p l e s m args below meth c D E cA hc H1 _ lc hw1 hs1 hl
theorem r_castore {q i v : Int} {len : Nat} (hd : decode M.2.1 pc = .ok (.castore, 1)) (ha : Ar z.1 q 2 len) (hi : 0 ≤ i ∧ i < len) (h9 : 0 ≤ v ∧ v < 65536) (h : Rn d M z (pc + 1) ls sk (st G q i v) Q) : Rn d M z pc ls ((0, v) :: (0, i) :: (2, q) :: sk) G Q := by
  intro p l e s m args below meth c D E cA hc H locs lc hw hs hl
  have hb := ha.2.2.2.2
  refine W.cast hc.1 hc.2.1 (hw.1 q.toNat _ (ar_get ha)) ((hc.2.2.2.2.2.2.2.2.1.2 2 _ (tysA_get cA ha.2.2.2.1)).1 len (fun j => .int (Int32.ofInt (G q j)))) (fun q => by cases q) (by show ¬ (_ < 0 ∨ (arrV _ _ _).slots.size ≤ _); rw [arrV_size]; exact vpin hi.1 hi.2 hb) rfl rfl hd fun H1 e1 z1 o1 => ?_
  rw [show narrow .char (.int (Int32.ofInt v)) = .int (Int32.ofInt v) from nar_c h9] at e1
  have e2 : H1[E.1 + q.toNat]? = some (vp_cell (cA 2) (len, arrC E 2 (st G q i v q))) := by
    rw [show arrC E 2 (st G q i v q) = .inl (fun (j : Nat) => Int32.ofInt (st G q i v q j)) from rfl, vp_cell_i]
    have e3 := e1
    change H1[E.1 + q.toNat]? = some ((arrV (cA 2) len (fun j => .int (Int32.ofInt (G q j)))).setSlot _ _) at e3
    rw [arrV_store, tcl hi.1 hi.2 hb] at e3
    rw [e3]
    congr 2
    funext j
    by_cases hj : (j : Int) = i
    · subst hj
      simp [updV, st]
    · have hj' : ¬ j = i.toNat := by omega
      simp [updV, st, hj, hj']
  obtain ⟨hw1, hs1⟩ := arr_at (j := (Int32.ofInt i).toNatClampNeg) hw hs ha (fun h => by omega) e2 z1 o1
  exact h p l e s m args below meth c D E cA hc H1 _ lc hw1 hs1 hl
theorem r_lastore {q i v : Int} {len : Nat} (hd : decode M.2.1 pc = .ok (.lastore, 1)) (ha : Ar z.1 q 3 len) (hi : 0 ≤ i ∧ i < len) (h : Rn d M z (pc + 1) ls sk (st G q i v) Q) : Rn d M z pc ls ((1, v) :: (0, i) :: (2, q) :: sk) G Q := by
  intro p l e s m args below meth c D E cA hc H locs lc hw hs hl
  have hb := ha.2.2.2.2
  refine W.last hc.1 hc.2.1 (hw.1 q.toNat _ (ar_get ha)) ((hc.2.2.2.2.2.2.2.2.1.2 3 _ (tysA_get cA ha.2.2.2.1)).1 len (fun j => .long (Int64.ofInt (G q j)))) (fun q => by cases q) (by show ¬ (_ < 0 ∨ (arrV _ _ _).slots.size ≤ _); rw [arrV_size]; exact vpin hi.1 hi.2 hb) rfl rfl hd fun H1 e1 z1 o1 => ?_
  have e2 : H1[E.1 + q.toNat]? = some (vp_cell (cA 3) (len, arrC E 3 (st G q i v q))) := by
    rw [show arrC E 3 (st G q i v q) = .inr (.inl fun (j : Nat) => Int64.ofInt (st G q i v q j)) from rfl, vp_cell_l]
    have e3 := e1
    change H1[E.1 + q.toNat]? = some ((arrV (cA 3) len (fun j => .long (Int64.ofInt (G q j)))).setSlot _ _) at e3
    rw [arrV_store, tcl hi.1 hi.2 hb] at e3
    rw [e3]
    congr 2
    funext j
    by_cases hj : (j : Int) = i
    · subst hj
      simp [updV, st]
    · have hj' : ¬ j = i.toNat := by omega
      simp [updV, st, hj, hj']
  obtain ⟨hw1, hs1⟩ := arr_at (j := (Int32.ofInt i).toNatClampNeg) hw hs ha (fun h => by omega) e2 z1 o1
  exact h p l e s m args below meth c D E cA hc H1 _ lc hw1 hs1 hl
end HROWS2
