/-! objects within objects -/
theorem PA.mono {F F' : Mem} {b : Int} {G0 G : Mem} {n : Nat} {done : List Int} (h : PA F b G0 G n done) (h1 : ∀ k ∈ done, F b k = F' b k) (h2 : ∀ q k : Int, b < q → q < n → 0 ≤ k → k < (shp q.toNat).2 → F q k = F' q k) : PA F' b G0 G n done :=
  ⟨h.1, fun k hk => (h.2.1 k hk).trans (h1 k hk), h.2.2.1, fun q k a1 a2 k0 k1 => (h.2.2.2 q k a1 a2 k0 k1).trans (h2 q k a1 a2 k0 k1)⟩
theorem PA.arrV {F : Mem} {b f q v : Int} {G0 G : Mem} {n : Nat} {done : List Int} (h : PA F b G0 G n done) (hq : (n : Int) = q) (hb : b < q) (hF : F b f = q) (hz : ∀ k, F q k = v) : PA F b G0 (st (nwf G n (fun _ => v)) b f q) (n + 1) (f :: done) := by
  obtain ⟨h1, h2, h3, h4⟩ := h
  subst hq
  have nw : ∀ a k : Int, a ≠ n → nwf G n (fun _ => v) a k = G a k := fun a k e => by simp [nwf, e]
  refine ⟨fun a k ha => ?_, fun k hk => ?_, fun k hk => ?_, fun a k a1 a2 k0 k1 => ?_⟩
  · rw [st_nq _ _ _ _ (by omega), nw a k (by omega)]; exact h1 a k ha
  · by_cases e : k = f
    · rw [e, st_same, hF]
    · rw [st_nk _ _ _ e, nw b k (by omega)]
      exact h2 k ((List.mem_cons.mp hk).resolve_left e)
  · rw [st_nk _ _ _ (fun e => hk (by rw [e]; exact List.mem_cons_self)), nw b k (by omega)]
    exact h3 k (fun e => hk (List.mem_cons_of_mem _ e))
  · rw [st_nq _ _ _ _ (by omega)]
    by_cases e : a = n
    · rw [e, hz]
      simp [nwf]
    · rw [nw a k e]
      exact h4 a k a1 (by omega) k0 k1
theorem PA.sub {F Fx : Mem} {b f q hi : Int} {G0 G G1 : Mem} {n n' : Nat} {done : List Int} {v : Int → Int} (h : PA F b G0 G n done) (hq : (n : Int) = q) (hb : b < q) (hF : F b f = q) (h1 : ∀ a k : Int, a < n → G1 a k = nwf G n v a k) (h2 : Fr Fx G1 n hi) (hx : ∀ a k : Int, q ≤ a → a < hi → 0 ≤ k → k < (shp a.toNat).2 → Fx a k = F a k) (hn : (n' : Int) = hi) : PA F b G0 (st G1 b f q) n' (f :: done) := by
  obtain ⟨p1, p2, p3, p4⟩ := h
  subst hq
  have nw : ∀ a k : Int, a < n → G1 a k = G a k := fun a k e => by
    rw [h1 a k e]
    have e2 : a ≠ n := by omega
    simp [nwf, e2]
  refine ⟨fun a k ha => ?_, fun k hk => ?_, fun k hk => ?_, fun a k a1 a2 k0 k1 => ?_⟩
  · rw [st_nq _ _ _ _ (by omega), nw a k (by omega)]; exact p1 a k ha
  · by_cases e : k = f
    · rw [e, st_same, hF]
    · rw [st_nk _ _ _ e, nw b k (by omega)]
      exact p2 k ((List.mem_cons.mp hk).resolve_left e)
  · rw [st_nk _ _ _ (fun e => hk (by rw [e]; exact List.mem_cons_self)), nw b k (by omega)]
    exact p3 k (fun e => hk (List.mem_cons_of_mem _ e))
  · rw [st_nq _ _ _ _ (by omega)]
    by_cases e : a < n
    · rw [nw a k e]
      exact p4 a k a1 e k0 k1
    · rw [h2 a k (by omega) (by omega) k0 k1]
      exact hx a k (by omega) (by omega) k0 k1
theorem PA.sto {F Fx : Mem} {b a i q hi : Int} {G0 G G1 : Mem} {n n' : Nat} {done : List Int} {v : Int → Int} (h : PA F b G0 G n done) (hq : (n : Int) = q) (hb : b < a) (haq : a < q) (h1 : ∀ a k : Int, a < n → G1 a k = nwf G n v a k) (h2 : Fr Fx G1 n hi) (hx : ∀ a k : Int, q ≤ a → a < hi → 0 ≤ k → k < (shp a.toNat).2 → Fx a k = F a k) (hn : (n' : Int) = hi) : PA (st F a i q) b G0 (st G1 a i q) n' done := by
  obtain ⟨p1, p2, p3, p4⟩ := h
  subst hq
  have nw : ∀ a k : Int, a < n → G1 a k = G a k := fun a k e => by
    rw [h1 a k e]
    have e2 : a ≠ n := by omega
    simp [nwf, e2]
  refine ⟨fun x k hx' => ?_, fun k hk => ?_, fun k hk => ?_, fun x k a1 a2 k0 k1 => ?_⟩
  · rw [st_nq _ _ _ _ (by omega), nw x k (by omega)]; exact p1 x k hx'
  · rw [st_nq _ _ _ _ (by omega), st_nq _ _ _ _ (by omega), nw b k (by omega)]
    exact p2 k hk
  · rw [st_nq _ _ _ _ (by omega), nw b k (by omega)]
    exact p3 k hk
  · by_cases e9 : x = a ∧ k = i
    · rw [e9.1, e9.2, st_same, st_same]
    · rw [st_ne _ _ e9, st_ne _ _ e9]
      by_cases e : x < n
      · rw [nw x k e]
        exact p4 x k a1 e k0 k1
      · rw [h2 x k (by omega) (by omega) k0 k1]
        exact hx x k (by omega) (by omega) k0 k1
theorem PA.finF {F : Mem} {ci : Nat} {b : Int} {G0 G : Mem} {n : Nat} {done : List Int} (hz : ∀ k ∈ List.range (nf ci), ((k : Int) ∈ done ∨ dfl ci (k : Int) = F b (k : Int))) (hb : Bs ci b) (h : PA F b G0 G n done) (hd : ∀ k : Nat, k < nf ci → G0 b k = dfl ci k) {hi : Int} (hn : (n : Int) = hi) : Fr F G b hi := by
  intro q k q0 q1 k0 k1
  by_cases e : q = b
  · subst e
    rw [(bs_ob hb).2.2] at k1
    have k1' : k < nf ci := k1
    have a := hz k.toNat (List.mem_range.mpr (by omega))
    have d1 := hd k.toNat (by omega)
    rw [show ((k.toNat : Nat) : Int) = k by omega] at a d1
    by_cases e2 : k ∈ done
    · exact h.2.1 k e2
    · rw [h.2.2.1 k e2, d1, a.resolve_left e2]
  · exact h.2.2.2 q k (by omega) (by omega) k0 k1
theorem nwf_at {G : Mem} {n : Nat} {v : Int → Int} (k : Int) : nwf G n v (n : Int) k = v k := by simp [nwf]
def nwc (own : String) (idx c2 : Nat) : Prop := ∃ r : vw_C, vwCl[c2]? = some r ∧ Cond.classLink own idx r.1 ∈ lw_tbl.filter goodWord ∧ Cond.instantiable r.1 r.2.2 ∈ lw_tbl.filter goodWord ∧ Cond.initialized r.1 ∈ lw_tbl.filter goodWord
section NSUB
variable {d : Nat} {M : Mth} {pc : Nat} {ls : List (Nat × AV)} {sk : List AV} {G0 G : Mem} {Q : Int → Mem → Prop} {n k w mc ms : Nat} {F : Mem}
theorem n_newN {c2 idx idx2 m2 s2 : Nat} {M' : Mth} {host : String} (dn : decode M.2.1 pc = .ok (.new idx, 3)) (dd : decode M.2.1 (pc + 3) = .ok (.dup, 1)) (dc : decode M.2.1 (pc + 4) = .ok (.invokespecial idx2, 3)) (hci : c2 < 13) (hbs : Bs c2 (n : Int)) (hcl : nwc M.1.cls idx c2) (hcl2 : clNI M.1.cls idx2 M' 0 host) (hroom : csum sk ≤ 7) (hb : k + (1 + m2) ≤ mc ∧ w + nf c2 + s2 ≤ ms)
    (h : (∀ j : Nat, j < nf c2 → nwf G n (dfl c2) (n : Int) j = dfl c2 j) → Ct d M' (n + 1) m2 s2 none [(2, (n : Int))] (nwf G n (dfl c2)) (fun _ G1 => Rn (d + 1) M (n + 1 + m2, k + 1 + m2, w + nf c2 + s2, mc, ms, none) (pc + 7) ls ((2, (n : Int)) :: sk) G1 Q)) : Rn (d + 1) M (n, k, w, mc, ms, none) pc ls sk G Q := by
  have ho := bs_ob hbs
  refine r_new (ci := c2) dn (by have := ho.2.1; omega) (by have := ho.2.2; simpa using this) hci hcl ⟨by omega, by omega⟩ (r_dup 2 rfl (by decide) dd (r_callN (mc' := m2) (ms' := s2) (M' := M') [] dc hcl2 rfl ?_ ⟨by omega, by omega⟩ (h (fun j _ => nwf_at _))))
  show csum ((2, (n : Int)) :: sk) ≤ 8
  simp only [csum, List.map_cons, List.sum_cons] at hroom ⊢
  simp
  omega
theorem n_newI {c2 idx idx2 m2 s2 : Nat} {M' : Mth} (dn : decode M.2.1 pc = .ok (.new idx, 3)) (dd : decode M.2.1 (pc + 3) = .ok (.dup, 1)) (dc : decode M.2.1 (pc + 4) = .ok (.invokespecial idx2, 3)) (hci : c2 < 13) (hbs : Bs c2 (n : Int)) (hcl : nwc M.1.cls idx c2) (hcl2 : clI M.1.cls idx2 M' 0) (hroom : csum sk ≤ 7) (hb : k + (1 + m2) ≤ mc ∧ w + nf c2 + s2 ≤ ms)
    (h : (∀ j : Nat, j < nf c2 → nwf G n (dfl c2) (n : Int) j = dfl c2 j) → Ct d M' (n + 1) m2 s2 none [(2, (n : Int))] (nwf G n (dfl c2)) (fun _ G1 => Rn (d + 1) M (n + 1 + m2, k + 1 + m2, w + nf c2 + s2, mc, ms, none) (pc + 7) ls ((2, (n : Int)) :: sk) G1 Q)) : Rn (d + 1) M (n, k, w, mc, ms, none) pc ls sk G Q := by
  have ho := bs_ob hbs
  refine r_new (ci := c2) dn (by have := ho.2.1; omega) (by have := ho.2.2; simpa using this) hci hcl ⟨by omega, by omega⟩ (r_dup 2 rfl (by decide) dd (r_callI (mc' := m2) (ms' := s2) (M' := M') [] dc hcl2 rfl ?_ ⟨by omega, by omega⟩ (h (fun j _ => nwf_at _))))
  show csum ((2, (n : Int)) :: sk) ≤ 8
  simp only [csum, List.map_cons, List.sum_cons] at hroom ⊢
  simp
  omega
/-- the made object into a final field -/
theorem n_put {Fx G1 : Mem} {ci f idx n' : Nat} {b q hi fI : Int} {done : List Int} {v : Int → Int} {k' w' : Nat} (hP : PA F b G0 G n done) (h1 : ∀ a k : Int, a < n → G1 a k = nwf G n v a k) (h2 : Fr Fx G1 n hi) (hx : ∀ a k : Int, q ≤ a → a < hi → 0 ≤ k → k < (shp a.toNat).2 → Fx a k = F a k) (hn : (n' : Int) = hi) (hq : (n : Int) = q) (hbn : b < q) (hlt : q < hi) (hF : F b fI = q) (hfI : (f : Int) = fI) (dp : decode M.2.1 pc = .ok (.putfield idx, 3)) (hf : flok M.1.cls idx ci f) (hk9 : fk ci f = 5) (hfin : ∀ r : vw_C, vwCl[ci]? = some r → (r.2.1 f).2.2.2 = true ∧ (r.2.1 f).1 = M.1.cls) (hname : M.1.name = "<init>") (hb : Bs ci b)
    (h : ∀ G2, PA F b G0 G2 n' (fI :: done) → Rn d M (n', k', w', mc, ms, none) (pc + 3) ls [] G2 Q) : Rn d M (n', k', w', mc, ms, none) pc ls [(2, (n : Int)), (2, b)] G1 Q := by
  have ho := bs_ob hb
  refine r_putF ci f fI hfI dp hf hk9 hfin hname ⟨ho.1, by omega, ho.2.2⟩ (by omega) ?_
  rw [hq]
  exact h _ (hP.sub hq hbn hF h1 h2 hx hn)
/-- into a field that changes -/
theorem n_putR {Fx G1 : Mem} {ci f idx n' : Nat} {b q hi fI : Int} {done : List Int} {v : Int → Int} {k' w' : Nat} (hP : PA F b G0 G n done) (h1 : ∀ a k : Int, a < n → G1 a k = nwf G n v a k) (h2 : Fr Fx G1 n hi) (hx : ∀ a k : Int, q ≤ a → a < hi → 0 ≤ k → k < (shp a.toNat).2 → Fx a k = F a k) (hn : (n' : Int) = hi) (hq : (n : Int) = q) (hbn : b < q) (hlt : q < hi) (hF : F b fI = q) (hfI : (f : Int) = fI) (dp : decode M.2.1 pc = .ok (.putfield idx, 3)) (hf : flok M.1.cls idx ci f) (hk9 : fk ci f = 2) (hfin : ∀ r : vw_C, vwCl[ci]? = some r → (r.2.1 f).2.2.2 = false) (hb : Bs ci b)
    (h : ∀ G2, PA F b G0 G2 n' (fI :: done) → Rn d M (n', k', w', mc, ms, none) (pc + 3) ls [] G2 Q) : Rn d M (n', k', w', mc, ms, none) pc ls [(2, (n : Int)), (2, b)] G1 Q := by
  have ho := bs_ob hb
  refine r_putR ci f fI hfI dp hf hk9 hfin ⟨ho.1, by show b.toNat < n'; omega, ho.2.2⟩ (by omega) ?_
  rw [hq]
  exact h _ (hP.sub hq hbn hF h1 h2 hx hn)
/-- a row of references into a final field -/
theorem n_anew {ci f len t idx ix : Nat} {b q fI : Int} {C : String} {done : List Int} (hP : PA F b G0 G n done) (hfI : (f : Int) = fI) (d2 : decode M.2.1 pc = .ok (.anewarray ix, 3)) (d4 : decode M.2.1 (pc + 3) = .ok (.putfield idx, 3)) (ht : 4 ≤ t ∧ t < 8) (hC : tyA t = .object C) (hao : C ∈ aoC) (hcl : Cond.classLink M.1.cls ix C ∈ lw_tbl.filter goodWord) (hf : flok M.1.cls idx ci f) (hk9 : fk ci f = 5) (hfin : ∀ r : vw_C, vwCl[ci]? = some r → (r.2.1 f).2.2.2 = true ∧ (r.2.1 f).1 = M.1.cls) (hname : M.1.name = "<init>") (hb : Bs ci b) (hq : (n : Int) = q) (hbn : b < q) (ha : Ar NT q t len) (hF : F b fI = q) (hz : ∀ k, F q k = -1) (hlen : len ≤ 60000) (hroom : k + 1 ≤ mc ∧ w + len ≤ ms)
    (h : ∀ G1, PA F b G0 G1 (n + 1) (fI :: done) → Rn d M (n + 1, k + 1, w + len, mc, ms, none) (pc + 6) ls [] G1 Q) : Rn d M (n, k, w, mc, ms, none) pc ls [(0, (len : Int)), (2, b)] G Q := by
  have hqn : q.toNat = n := by omega
  have ho := bs_ob hb
  refine r_anew d2 ht hC hao hcl rfl hlen (by rw [← hqn]; exact ha.2.1) (by rw [← hqn]; exact ha.2.2.1) hroom ?_
  refine r_putF ci f fI hfI d4 hf hk9 hfin hname ⟨ho.1, by omega, ho.2.2⟩ (by omega) ?_
  rw [hq]
  exact h _ (hP.arrV hq hbn hF hz)
end NSUB
