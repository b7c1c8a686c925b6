section GCALLS
variable {d : Nat} {R : Room} {K : Kt} {M : Mth} {z : Zt} {pc : Nat} {ls : List (Nat × AV)} {sk : List AV} {G : Mem} {Z : Zp} {n k w x y : Nat} {Ly : Option Mem}
theorem g_getL {idx : Nat} {q v : Int} (ci k9 : Nat) (kI : Int) (hkI : (k9 : Int) = kI) (hd : decode M.2.1 pc = .ok (.getfield idx, 3)) (hf : flok M.1.cls idx ci k9) (hk9 : fk ci k9 = 5) (hq : Ob NT q ci) (hl : lay q kI = v) (h9 : 0 ≤ v) (h : Rg R K M (NT, k, w, x, y, some lay) (pc + 3) ls ((2, v) :: sk) G Z) : Rg R K M (NT, k, w, x, y, some lay) pc ls ((2, q) :: sk) G Z := by
  subst hl
  exact g_getF ci k9 kI hkI hd hf hk9 hq h9 h
theorem g_getM {idx : Nat} {q v : Int} (ci k9 : Nat) (kI : Int) (hkI : (k9 : Int) = kI) (hd : decode M.2.1 pc = .ok (.getfield idx, 3)) (hf : flok M.1.cls idx ci k9) (hk9 : fk ci k9 = 2) (hq : Ob NT q ci) (hl : G q kI = v) (h9 : 0 ≤ v) (h : Rg R K M (NT, k, w, x, y, Ly) (pc + 3) ls ((2, v) :: sk) G Z) : Rg R K M (NT, k, w, x, y, Ly) pc ls ((2, q) :: sk) G Z := by
  subst hl
  exact g_getR ci k9 kI hkI hd hf hk9 hq h9 h
theorem g_aaloadL {q i v : Int} {t len : Nat} {C : String} (hd : decode M.2.1 pc = .ok (.aaload, 1)) (ha : Ar NT q t len) (ht : 4 ≤ t) (hC : tyA t = .object C) (hi : 0 ≤ i ∧ i < len) (hl : lay q i = v) (h9 : 0 ≤ v) (h : Rg R K M (NT, k, w, x, y, some lay) (pc + 1) ls ((2, v) :: sk) G Z) : Rg R K M (NT, k, w, x, y, some lay) pc ls ((0, i) :: (2, q) :: sk) G Z := by
  subst hl
  exact g_aaload hd ha ht hC hi h9 h
theorem g_tsIn {dflt lo hi v off j : Int} {offs : Array Int} {len tgt : Nat} (hd : decode M.2.1 pc = .ok (.tableswitch dflt lo hi offs, len)) (hx : v = j) (h1 : InR j) (h2 : ¬ j < lo ∧ ¬ hi < j) (ho : offs[(j - lo).toNat]? = some off) (ht : (pc : Int) + off = (tgt : Int)) (h : Rg R K M z tgt ls sk G Z) : Rg R K M z pc ls ((0, v) :: sk) G Z := by
  subst hx
  intro p l e s m args below meth c D E cA hc hK9 H locs lc hw hs hl
  exact lv_tableIn (off := off) hc.1 hc.2.1 hd (by rw [ofI_toInt h1]; exact h2.1) (by rw [ofI_toInt h1]; exact h2.2) (by rw [ofI_toInt h1]; exact ho) ht (h p l e s m args below meth c D E cA hc hK9 H locs lc hw hs hl)
theorem clB.atR {mc' ms' : Nat} {own : String} {idx na : Nat} {M' : Mth} {s : State} {args : Array Value} (h : clB own idx M' na) (hR : d + 1 ≤ R.frames ∧ 64 * (d + 1) ≤ R.locals) (hts : ∀ w ∈ lw_tbl.filter goodWord, w.before args s = true) :
    CallB R s args own idx M'.1 M'.2.1 M'.2.2.1 M'.2.2.2 (wsM M') (rmD d mc' ms') mc' ms' na :=
  callB_of na hts (wsM_good h.2.1) rfl rfl rfl (hts _ h.2.2.1) (hts _ h.2.2.2.2) h.2.2.2.1 ⟨hR.1, by show 8 + (M'.2.2.1 + 11) + 64 * d ≤ R.locals; have := h.1; omega⟩
theorem gcall_on {M' : Mth} {mc' ms' : Nat} {Q' : Int → Mem → Prop} {p : Program} {l : Launch} {e : Env} {s : State} {m : MethodId} {args : Array Value} {below : List Frame} {meth : Method} {c : Code} {D : va_G} {E : En} {cA : Nat → ClassId} {H : Heap} {locs : List Loc} {lc : Array Slot} {st0 : List Value} {av : Array Value} {Qs : State → Prop}
    (hs : va_S (Ow E) s.heap H locs) (hr : va_Run p l e R s m args below meth c H locs k w mc' ms' (F0 m pc lc st0) (sk.map (cv E)) (QcM D E cA Ly (n + mc') M'.2.2.2 Q' av) (Ow E))
    (kk : ∀ (r : Int) (G1 : Mem) (H1 : Heap) (locs1 : List Loc), Q' r G1 → Wd D E cA Ly (n + mc') G1 H1 → va_S (Ow E) s.heap H1 locs1 → W p l e R s m args below meth c H1 locs1 (k + mc') (w + ms') Qs (F0 m (pc + 3) lc ((rvs M'.2.2.2 r ++ sk).map (cv E)))) :
    W p l e R s m args below meth c H locs k w Qs (F0 m pc lc st0) := by
  intro T hT X
  obtain ⟨v, st₀, t, T', L, h0, X', hL, e1, e2, ⟨⟨r, G1, hv, hQ, hW⟩, hz, hk⟩, stp⟩ := hr T hT X
  have hv' : v = rv E M'.2.2.2 r := by
    have := hv
    injection this
  subst hv'
  rw [h0] at hz hk
  have hS : va_S (Ow E) s.heap T'.heap (locs ++ L) := by
    refine ⟨Nat.le_trans hs.1 (by rw [e1]; exact hz), fun q h1 h2 => ?_, fun q hq => ?_⟩
    · rw [e1, hk q (Nat.lt_of_lt_of_le h1 hs.1) h2]
      exact hs.2.1 q h1 h2
    · rcases List.mem_append.mp hq with h | h
      · exact hs.2.2 q h
      · exact hL q h
  obtain ⟨t2, a1, b1⟩ := kk r G1 T'.heap (locs ++ L) hQ (by rw [e1]; exact hW) hS T' rfl X'
  refine ⟨t2, stp t2 ?_, b1⟩
  rw [rvs_cv]
  rw [List.map_append] at a1
  exact a1
theorem g_callV {M' : Mth} {idx na mc' ms' ci : Nat} {q : Int} (as : List AV) (hd : decode M.2.1 pc = .ok (.invokevirtual idx, 3)) (hcl : clV M.1.cls idx M' na) (hna : as.length = na) (hroom : csum sk ≤ 8) (hb : k + mc' ≤ R.cells ∧ w + ms' ≤ R.slots) (hR : d + 1 ≤ R.frames ∧ 64 * (d + 1) ≤ R.locals) (hci : ci < 13) (hcn : (vwCl[ci]?).map (·.1) = some M'.1.cls) (hq : Ob n q ci)
    (h : Ct d M' n mc' ms' Ly ((2, q) :: as) G (fun r G1 => Rg R K M (n + mc', k + mc', w + ms', x, y, Ly) (pc + 3) ls (rvs M'.2.2.2 r ++ sk) G1 Z)) : Rg R K M (n, k, w, x, y, Ly) pc ls (as.reverse ++ (2, q) :: sk) G Z := by
  intro p l e s m args below meth c D E cA hc hK9 H locs lc hw hs hl
  have hts := hc.2.2.2.2.1
  have hK := hc.2.2.2.2.2.2.2.2.1
  obtain ⟨r, hr, hrc⟩ : ∃ r, vwCl[ci]? = some r ∧ r.1 = M'.1.cls := by
    cases hx : vwCl[ci]? with
    | none => rw [hx] at hcn; cases hcn
    | some r => rw [hx] at hcn; exact ⟨r, rfl, Option.some.inj hcn⟩
  have hrecv := va_recv hK hw.1 hr (ob_get hq)
  rw [hrc] at hrecv
  rw [List.map_append, List.map_reverse, List.map_cons]
  exact gcall_on (M' := M') (mc' := mc') (ms' := ms') hs (va_runV (As := as.map (cv E)) (C := M'.1.cls) ⟨hc.1, hc.2.1, hc.2.2.1, hc.2.2.2.1, hts⟩ (h l D E cA) ⟨clB.atR hcl.1 hR hts, hts _ hcl.2.1, hts _ hcl.2.2⟩ ⟨PcM_blind D E cA Ly n _ G, hrecv, PcM_at (as := (2, q) :: as) hw hs hK hc.2.2.2.2.2.2.2.2.2.1⟩ rfl (by rw [List.length_map]; exact hna) hl.1 rfl (lv_room (by rw [csum_cat]; exact hroom)) hd hb) (fun r G1 H1 locs1 hq hw1 hs1 => hq p l e s m args below meth c D E cA hc hK9 H1 locs1 lc hw1 hs1 hl)
theorem g_callI {M' : Mth} {idx na mc' ms' : Nat} {q : Int} (as : List AV) (hd : decode M.2.1 pc = .ok (.invokespecial idx, 3)) (hcl : clI M.1.cls idx M' na) (hna : as.length = na) (hroom : csum sk ≤ 8) (hb : k + mc' ≤ R.cells ∧ w + ms' ≤ R.slots) (hR : d + 1 ≤ R.frames ∧ 64 * (d + 1) ≤ R.locals)
    (h : Ct d M' n mc' ms' Ly ((2, q) :: as) G (fun _ G1 => Rg R K M (n + mc', k + mc', w + ms', x, y, Ly) (pc + 3) ls sk G1 Z)) : Rg R K M (n, k, w, x, y, Ly) pc ls (as.reverse ++ (2, q) :: sk) G Z := by
  intro p l e s m args below meth c D E cA hc hK9 H locs lc hw hs hl
  have hts := hc.2.2.2.2.1
  have hB : CallB R s args M.1.cls idx M'.1 M'.2.1 M'.2.2.1 none (wsM M') (rmD d mc' ms') mc' ms' na := by
    have := clB.atR (d := d) (R := R) (mc' := mc') (ms' := ms') hcl.1 hR hts
    rwa [hcl.2.2.2] at this
  rw [List.map_append, List.map_reverse, List.map_cons]
  refine gcall_on (M' := M') (mc' := mc') (ms' := ms') hs (va_runI (As := as.map (cv E)) ⟨hc.1, hc.2.1, hc.2.2.1, hc.2.2.2.1, hts⟩ (h l D E cA) ⟨hB, hcl.2.1, hts _ hcl.2.2.1⟩ ⟨PcM_blind D E cA Ly n _ G, PcM_at (as := (2, q) :: as) hw hs hc.2.2.2.2.2.2.2.2.1 hc.2.2.2.2.2.2.2.2.2.1⟩ rfl (by rw [List.length_map]; exact hna) hl.1 rfl (lv_room (by rw [csum_cat]; exact hroom)) hd hb) (fun r G1 H1 locs1 hq hw1 hs1 => ?_)
  rw [hcl.2.2.2]
  exact hq p l e s m args below meth c D E cA hc hK9 H1 locs1 lc hw1 hs1 hl
end GCALLS
section THROWN
/-! a method of the class that may throw -/
def XcM (D : va_G) (E : En) (cA : Nat → ClassId) (QX : Mem → Prop) : String → State → State → Prop := fun X st t => X = xN ∧ (∃ G, QX G ∧ Wd D E cA (some lay) NT G t.heap) ∧ va_F (Ow E) st t
def CtX (d : Nat) (M : Mth) (mc ms : Nat) (args : List AV) (G : Mem) (Q : Int → Mem → Prop) (QX : Mem → Prop) : Prop :=
  ∀ (l : Launch) (D : va_G) (E : En) (cA : Nat → ClassId), l.stackTraces = false → vx_Met l M.1 (wsM M) (rmD d mc ms) (PcM D E cA (some lay) NT args G) (QcM D E cA (some lay) NT M.2.2.2 Q) (XcM D E cA QX) mc ms (Ow E)
def KXx : Kt := fun l c _ _ _ => l.stackTraces = false ∧ ∀ x ∈ c.exceptionTable.toList, False
def ZXx (M : Mth) (mc ms : Nat) (Q : Int → Mem → Prop) (QX : Mem → Prop) : Zp := fun _ _ _ s _ args below _ _ D E cA => vx_MQ below (QcM D E cA (some lay) NT M.2.2.2 Q) (XcM D E cA QX) args s mc ms (Ow E)
variable {d : Nat} {M : Mth} {mc ms k w x y pc : Nat} {ls : List (Nat × AV)} {as : List AV} {G : Mem} {Q : Int → Mem → Prop} {QX : Mem → Prop}
theorem CtX.of (hp : plainName M.1.cls = true) (hlen : csum as ≤ M.2.2.1) (h : Rg (rmD d mc ms) KXx M (NT, 0, 0, 0, 0, some lay) 0 (lvA 0 as) [] G (ZXx M mc ms Q QX)) : CtX d M mc ms as G Q QX := by
  intro l D E cA hlx
  refine vx_ofW (cc := M.2.1) (maxL := M.2.2.1) (ret := M.2.2.2) hp rfl ?_
  intro p e s m args below meth c s₁ B hml ht hv
  obtain ⟨rfl, hW, hK, hS⟩ := hv
  have hts := atoms_spec (ws := wsM M) B.pre
  have hl := lv_entry (as.map (cv E)) (n := M.2.2.1) (by rw [lg_len]; exact hlen)
  rw [lvA_map] at hl
  rw [lg_entry_eq]
  have hc : Cx 0 M 0 0 p s m (as.map (cv E)).toArray meth c D E cA := ⟨B.exec, B.bytes, hml, findClass_of_methodNamed B.named, fun w hw => hts w (List.mem_cons_of_mem _ hw), B.returns, B.notSynchronized, (name_of_methodNamed B.named B.method).1, hK, hS, Nat.le_trans (Nat.le_add_right _ NT) hW.2.1⟩
  exact h p l e s m _ below meth c D E cA hc ⟨hlx, ht⟩ s.heap [] _ hW va_S.rf hl
theorem x_ireturn {r : Int} {R : Room} {K : Kt} (hd : decode M.2.1 pc = .ok (.ireturn, 1)) (hr : M.2.2.2 = some .int) (hz : k ≤ mc ∧ w ≤ ms) (h : Q r G) : Rg R K M (NT, k, w, x, y, some lay) pc ls [(0, r)] G (ZXx M mc ms Q QX) := by
  intro p l e s m args below meth c D E cA hc _ H locs lc hw hs hl
  exact vx_ret (W.widen hz.1 hz.2 (W.iret hc.1 hc.2.1 (by rw [hc.2.2.2.2.2.1, hr]) (fun t ht hW => ⟨⟨r, G, by rw [hr]; rfl, h, by rw [ht]; exact hw⟩, hs.F ht⟩) hs.2.2 hd hc.2.2.2.2.2.2.1))
theorem x_throw {R : Room} {is : Nat} {text : String} (hown : M.1.cls = "PastSleep") (hst : (is = 304 ∧ text = "no such sitter") ∨ (is = 316 ∧ text = "no such sitter, or needs are 9")) (d0 : decode M.2.1 pc = .ok (.new 302, 3)) (d3 : decode M.2.1 (pc + 3) = .ok (.dup, 1)) (d4 : decode M.2.1 (pc + 4) = .ok (.ldc_w is, 3)) (d7 : decode M.2.1 (pc + 7) = .ok (.invokespecial 306, 3)) (d10 : decode M.2.1 (pc + 10) = .ok (.athrow, 1))
    (hR : 5 < R.frames ∧ 82 ≤ R.locals ∧ k + 1 ≤ R.cells ∧ w + 6 ≤ R.slots) (hz : k + 1 ≤ mc ∧ w + 6 ≤ ms) (h : QX G) : Rg R KXx M (NT, k, w, x, y, some lay) pc ls [] G (ZXx M mc ms Q QX) := by
  intro p l e s m args below meth c D E cA hc hK9 H locs lc hw hs hl
  have hts := hc.2.2.2.2.1
  have hSj := hc.2.2.2.2.2.2.2.2.2.1.2.2.2.2.1
  have hc4 := hc.2.2.2.1
  rw [hown] at hc4
  obtain ⟨sa, hsa⟩ : ∃ a, vk_R "PastSleep" is text a s := by
    rcases hst with ⟨rfl, rfl⟩ | ⟨rfl, rfl⟩
    · exact hSj.2.2.2.2.1
    · exact hSj.2.2.2.2.2.1
  refine x_make (A := Ow E) (own := "PastSleep") (cls := xN) (text := text) (Y1 := "java/lang/RuntimeException") (names := ["java/lang/Exception"]) (ik := 302) (is := is) (ic := 306) (sa := sa) (ix := 13) (rx := xBytes) hc.1 hc.2.1 hK9.1 (by decide +kernel) (by decide +kernel) (by decide +kernel) (by decide +kernel) (by decide +kernel) hc4 (by decide +kernel) (by decide +kernel) (hts _ (gk6 24 rfl rfl)) (hts _ (gk1 24 rfl rfl)) hsa (xL_at hts hSj.2.2.2.2.2.2) xL_ot hSj.2.2.1 hSj.2.2.2.1 hs (by rw [hc.2.2.1]; exact hl.1) d0 d3 d4 d7 hR.1 hR.2.1 hR.2.2.1 hR.2.2.2 (fun q ce H1 g1 g2 g3 g4 g5 g6 => vx_athrow hc.1 hc.2.1 d10 (vx_out (E := xN) (fun z hz => (hK9.2 z hz).elim) hc.2.2.2.2.2.2.1 g1 g2 g3 (fun t ht _ => ⟨rfl, ⟨G, h, ?_⟩, g6.F ht⟩) g6.2.2 hz.1 hz.2))
  rw [ht]
  exact ⟨hw.1.kept (fun k q hk => g5 q.1 ((hw.1 k q hk).lt)), Nat.le_trans hw.2.1 g4, fun z => absurd z (Nat.lt_irrefl _)⟩
end THROWN
