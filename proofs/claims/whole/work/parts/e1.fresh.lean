/-! the constructors: what a fresh object is -/
def Fz (q k : Int) : Int := if 0 ≤ lay q k then lay q k else if q = 3 ∧ (k = 2 ∨ k = 3) then -1 else 0
/-- under construction: b the object, G0 its memory at the start, n the next cell, done the fields set -/
def PA (F : Mem) (b : Int) (G0 G : Mem) (n : Nat) (done : List Int) : Prop := (∀ q k : Int, q < b → G q k = G0 q k) ∧ (∀ k ∈ done, G b k = F b k) ∧ (∀ k, k ∉ done → G b k = G0 b k) ∧ ∀ q k : Int, b < q → q < n → 0 ≤ k → k < (shp q.toNat).2 → G q k = F q k
def Fr (F : Mem) (G : Mem) (lo hi : Int) : Prop := ∀ q k : Int, lo ≤ q → q < hi → 0 ≤ k → k < (shp q.toNat).2 → G q k = F q k
theorem PA.rf {F : Mem} {b : Int} {G : Mem} {n : Nat} (hn : (n : Int) = b + 1) : PA F b G G n [] := ⟨fun _ _ _ => rfl, fun _ h => absurd h List.not_mem_nil, fun _ _ => rfl, fun q k h1 h2 => by omega⟩
theorem layn : ∀ q ∈ List.range NT, (shp q).1 < 4 → layL.getD q [] = [] := by decide +kernel
theorem lay_arr {q : Int} {t len : Nat} (ha : Ar NT q t len) (ht : t < 4) (k : Int) : lay q k = -1 := by
  have h := layn q.toNat (List.mem_range.mpr ha.2.1) (by rw [ha.2.2.1]; exact ht)
  unfold lay
  rw [h]
  rfl
theorem Fz_arr {q : Int} {t len : Nat} (ha : Ar NT q t len) (ht : t < 4) (k : Int) : Fz q k = 0 := by
  have n3 : q ≠ 3 := fun e => by
    have h := ha.2.2.1
    rw [e] at h
    have h2 : (shp (3 : Int).toNat).1 = t := by rw [h]
    have h3 : (shp (3 : Int).toNat).1 = 25 := by decide +kernel
    omega
  unfold Fz
  rw [lay_arr ha ht, if_neg (by decide), if_neg (fun z => n3 z.1)]
theorem Fz_lay {b k q : Int} {P : Prop} (h : lay b k = q ∧ 0 ≤ q ∧ P) : Fz b k = q := by
  unfold Fz
  rw [h.1, if_pos h.2.1]
theorem PA.arr {F : Mem} {b f q : Int} {G0 G : Mem} {n : Nat} {done : List Int} (h : PA F b G0 G n done) (hq : (n : Int) = q) (hb : b < q) (hF : F b f = q) (hz : ∀ k, F q k = 0) : PA F b G0 (st (nwf G n (fun _ => 0)) b f q) (n + 1) (f :: done) := by
  obtain ⟨h1, h2, h3, h4⟩ := h
  subst hq
  have nw : ∀ a k : Int, a ≠ n → nwf G n (fun _ => 0) a k = G a k := fun a k e => by simp [nwf, e]
  refine ⟨fun a k ha => ?_, fun k hk => ?_, fun k hk => ?_, fun a k a1 a2 k0 k1 => ?_⟩
  · rw [st_nq _ _ _ _ (by omega), nw a k (by omega)]; exact h1 a k ha
  · by_cases e : k = f
    · rw [e, st_same, hF]
    · rw [st_nk _ _ _ e, nw b k (by omega)]
      exact h2 k ((List.mem_cons.mp hk).resolve_left e)
  · rw [st_nk _ _ _ (fun e => hk (by rw [e]; exact List.mem_cons_self)), nw b k (by omega)]
    exact h3 k (fun e => hk (List.mem_cons_of_mem _ e))
  · rw [st_nq _ _ _ _ (by omega)]
    by_cases e : a = n
    · rw [e, hz]
      simp [nwf]
    · rw [nw a k e]
      exact h4 a k a1 (by omega) k0 k1
section NFLD
variable {d : Nat} {M : Mth} {pc : Nat} {ls : List (Nat × AV)} {G0 G : Mem} {Q : Int → Mem → Prop} {n k w mc ms : Nat} {F : Mem}
theorem n_arr {ci f len t idx : Nat} {b q fI : Int} {aty : ArrayType} {done : List Int} (hP : PA F b G0 G n done) (hfI : (f : Int) = fI) (d2 : decode M.2.1 pc = .ok (.newarray aty, 2)) (d4 : decode M.2.1 (pc + 2) = .ok (.putfield idx, 3)) (hty : newarray.typeOf aty = tyA t) (ht : t < 4) (harr : Cond.arrayClass (newarray.typeOf aty) ∈ lw_tbl.filter goodWord) (hf : flok M.1.cls idx ci f) (hk9 : fk ci f = 5) (hfin : ∀ r : vw_C, vwCl[ci]? = some r → (r.2.1 f).2.2.2 = true ∧ (r.2.1 f).1 = M.1.cls) (hname : M.1.name = "<init>") (hb : Bs ci b) (hq : (n : Int) = q) (hbn : b < q) (ha : Ar NT q t len) (hF : F b fI = q) (hz : ∀ k, F q k = 0) (hlen : len ≤ 60000) (hroom : k + 1 ≤ mc ∧ w + len ≤ ms)
    (h : ∀ G1, PA F b G0 G1 (n + 1) (fI :: done) → Rn d M (n + 1, k + 1, w + len, mc, ms, none) (pc + 5) ls [] G1 Q) : Rn d M (n, k, w, mc, ms, none) pc ls [(0, (len : Int)), (2, b)] G Q := by
  have hqn : q.toNat = n := by omega
  have ho := bs_ob hb
  refine r_newarr d2 hty ht harr rfl hlen (by rw [← hqn]; exact ha.2.1) (by rw [← hqn]; exact ha.2.2.1) hroom ?_
  refine r_putF ci f fI hfI d4 hf hk9 hfin hname ⟨ho.1, by omega, ho.2.2⟩ (by omega) ?_
  rw [hq]
  exact h _ (hP.arr hq hbn hF hz)
end NFLD
theorem PA.fin {ci : Nat} {b : Int} {G0 G : Mem} {n : Nat} {done : List Int} (hz : ∀ b ∈ basL.getD ci [], ∀ k ∈ List.range (nf ci), ((k : Int) ∈ done ∨ dfl ci (k : Int) = Fz b (k : Int))) (hb : Bs ci b) (h : PA Fz b G0 G n done) (hd : ∀ k : Nat, k < nf ci → G0 b k = dfl ci k) {hi : Int} (hn : (n : Int) = hi) : Fr Fz G b hi := by
  intro q k q0 q1 k0 k1
  by_cases e : q = b
  · subst e
    rw [(bs_ob hb).2.2] at k1
    have k1' : k < nf ci := k1
    have a := hz q hb k.toNat (List.mem_range.mpr (by omega))
    have d1 := hd k.toNat (by omega)
    rw [show ((k.toNat : Nat) : Int) = k by omega] at a d1
    by_cases e2 : k ∈ done
    · exact h.2.1 k e2
    · have a2 := a.resolve_left e2
      rw [h.2.2.1 k e2, d1, a2]
  · exact h.2.2.2 q k (by omega) (by omega) k0 k1
