/-! calls, answers, makings -/
def clB (own : String) (idx : Nat) (M' : Mth) (na : Nat) : Prop := M'.2.2.1 ≤ 45 ∧ Cond.code M'.1 M'.2.1 M'.2.2.1 M'.2.2.2 ∈ lw_tbl.filter goodWord ∧ Cond.initialized M'.1.cls ∈ lw_tbl.filter goodWord ∧ (M'.1.cls ≠ "java/lang/invoke/MethodHandle" ∧ M'.1.cls ≠ "java/lang/invoke/VarHandle" ∧ (parseMethodDescriptor M'.1.desc).map (fun d => d.parameters.length) = some na) ∧ Cond.methodLink own idx M'.1 ∈ lw_tbl.filter goodWord
def clS (own : String) (idx : Nat) (M' : Mth) (na : Nat) : Prop := clB own idx M' na ∧ Cond.static M'.1 ∈ lw_tbl.filter goodWord
def clV (own : String) (idx : Nat) (M' : Mth) (na : Nat) : Prop := clB own idx M' na ∧ Cond.instanceMethod M'.1 ∈ lw_tbl.filter goodWord ∧ Cond.selects M'.1.cls M'.1 M'.1 ∈ lw_tbl.filter goodWord
def clI (own : String) (idx : Nat) (M' : Mth) (na : Nat) : Prop := clB own idx M' na ∧ M'.1.name = "<init>" ∧ Cond.instanceMethod M'.1 ∈ lw_tbl.filter goodWord ∧ M'.2.2.2 = none
def clNI (own : String) (idx : Nat) (M' : Mth) (na : Nat) (host : String) : Prop := (M'.2.2.1 ≤ 45 ∧ Cond.code M'.1 M'.2.1 M'.2.2.1 M'.2.2.2 ∈ lw_tbl.filter goodWord ∧ Cond.initialized M'.1.cls ∈ lw_tbl.filter goodWord ∧ (M'.1.cls ≠ "java/lang/invoke/MethodHandle" ∧ M'.1.cls ≠ "java/lang/invoke/VarHandle" ∧ (parseMethodDescriptor M'.1.desc).map (fun d => d.parameters.length) = some na) ∧ (own, idx, M'.1, host) ∈ nestsM) ∧ M'.1.name = "<init>" ∧ Cond.instanceMethod M'.1 ∈ lw_tbl.filter goodWord ∧ M'.2.2.2 = none
theorem tbl_good (w : Cond) (h : w ∈ lw_tbl.filter goodWord) : w ∈ lw_tbl.filter goodWord ∧ ((w.onTables && w.keeps) = true ∨ ∃ ty, w = .arrayClass ty) := ⟨h, good_of_word (List.mem_filter.mp h).2⟩
theorem wsM_good {M' : Mth} (hc : Cond.code M'.1 M'.2.1 M'.2.2.1 M'.2.2.2 ∈ lw_tbl.filter goodWord) : GoodIn (lw_tbl.filter goodWord) (wsM M') := by
  intro w hw
  rcases List.mem_cons.mp hw with rfl | hw
  · exact tbl_good _ hc
  · exact tbl_good _ hw
theorem clB.at {d mc' ms' mc ms : Nat} {own : String} {idx na : Nat} {M' : Mth} {s : State} {args : Array Value} (h : clB own idx M' na) (hts : ∀ w ∈ lw_tbl.filter goodWord, w.before args s = true) :
    CallB (rmD (d + 1) mc ms) s args own idx M'.1 M'.2.1 M'.2.2.1 M'.2.2.2 (wsM M') (rmD d mc' ms') mc' ms' na :=
  callB_of na hts (wsM_good h.2.1) rfl rfl rfl (hts _ h.2.2.1) (hts _ h.2.2.2.2) h.2.2.2.1 ⟨Nat.le_refl _, by show 8 + (M'.2.2.1 + 11) + 64 * d ≤ 64 * (d + 1); have := h.1; omega⟩
def rvs (ret : Option FieldType) (r : Int) : List AV := match ret with
  | none => []
  | some .long => [(1, r)]
  | some _ => [(0, r)]
theorem rvs_cv (E : En) (ret : Option FieldType) (r : Int) : (rv E ret r).toList = (rvs ret r).map (cv E) := by
  cases ret with
  | none => rfl
  | some t => cases t <;> rfl
section CROWS
variable {d : Nat} {M : Mth} {pc : Nat} {ls : List (Nat × AV)} {sk : List AV} {G : Mem} {Q : Int → Mem → Prop} {n k w mc ms : Nat} {Ly : Option Mem}
/-- behind a call -/
theorem call_on {M' : Mth} {mc' ms' : Nat} {Q' : Int → Mem → Prop} {p : Program} {l : Launch} {e : Env} {s : State} {m : MethodId} {args : Array Value} {below : List Frame} {meth : Method} {c : Code} {D : va_G} {E : En} {cA : Nat → ClassId} {H : Heap} {locs : List Loc} {lc : Array Slot} {st0 : List Value} {av : Array Value} {Qs : State → Prop}
    (hs : va_S (Ow E) s.heap H locs) (hE : E.1 + n ≤ H.size) (hr : va_Run p l e (rmD (d + 1) mc ms) s m args below meth c H locs k w mc' ms' (F0 m pc lc st0) (sk.map (cv E)) (QcM D E cA Ly (n + mc') M'.2.2.2 Q' av) (Ow E))
    (kk : ∀ (r : Int) (G1 : Mem) (H1 : Heap) (locs1 : List Loc), Q' r G1 → Wd D E cA Ly (n + mc') G1 H1 → va_S (Ow E) s.heap H1 locs1 → W p l e (rmD (d + 1) mc ms) s m args below meth c H1 locs1 (k + mc') (w + ms') Qs (F0 m (pc + 3) lc ((rvs M'.2.2.2 r ++ sk).map (cv E)))) :
    W p l e (rmD (d + 1) mc ms) s m args below meth c H locs k w Qs (F0 m pc lc st0) := by
  intro T hT X
  obtain ⟨v, st₀, t, T', L, h0, X', hL, e1, e2, ⟨⟨r, G1, hv, hQ, hW⟩, hz, hk⟩, stp⟩ := hr T hT X
  have hv' : v = rv E M'.2.2.2 r := by
    have := hv
    injection this
  subst hv'
  rw [h0] at hz hk
  have hS : va_S (Ow E) s.heap T'.heap (locs ++ L) := by
    refine ⟨Nat.le_trans hs.1 (by rw [e1]; exact hz), fun q h1 h2 => ?_, fun q hq => ?_⟩
    · rw [e1, hk q (Nat.lt_of_lt_of_le h1 hs.1) h2]
      exact hs.2.1 q h1 h2
    · rcases List.mem_append.mp hq with h | h
      · exact hs.2.2 q h
      · exact hL q h
  obtain ⟨t2, a1, b1⟩ := kk r G1 T'.heap (locs ++ L) hQ (by rw [e1]; exact hW) hS T' rfl X'
  refine ⟨t2, stp t2 ?_, b1⟩
  rw [rvs_cv]
  rw [List.map_append] at a1
  exact a1
theorem r_callS {M' : Mth} {idx na mc' ms' : Nat} (as : List AV) (hd : decode M.2.1 pc = .ok (.invokestatic idx, 3)) (hcl : clS M.1.cls idx M' na) (hna : as.length = na) (hroom : csum sk ≤ 8) (hb : k + mc' ≤ mc ∧ w + ms' ≤ ms)
    (h : Ct d M' n mc' ms' Ly as G (fun r G1 => Rn (d + 1) M (n + mc', k + mc', w + ms', mc, ms, Ly) (pc + 3) ls (rvs M'.2.2.2 r ++ sk) G1 Q)) : Rn (d + 1) M (n, k, w, mc, ms, Ly) pc ls (as.reverse ++ sk) G Q := by
  intro p l e s m args below meth c D E cA hc H locs lc hw hs hl
  have hts := hc.2.2.2.2.1
  rw [List.map_append, List.map_reverse]
  refine call_on (M' := M') (mc' := mc') (ms' := ms') hs hw.2.1 (va_runS (As := as.map (cv E)) ⟨hc.1, hc.2.1, hc.2.2.1, hc.2.2.2.1, hts⟩ (h l D E cA) ⟨clB.at hcl.1 hts, hts _ hcl.2⟩ ⟨PcM_blind D E cA Ly n as G, PcM_at hw hs hc.2.2.2.2.2.2.2.2.1 hc.2.2.2.2.2.2.2.2.2.1⟩ rfl (by rw [List.length_map]; exact hna) hl.1 rfl (lv_room (by rw [csum_cat]; exact hroom)) hd hb) (fun r G1 H1 locs1 hq hw1 hs1 => ?_)
  have h1 := hq p l e s m args below meth c D E cA hc H1 locs1 lc hw1 hs1 hl
  rw [show n + mc' - (k + mc') = n - k from by omega] at h1
  exact h1
theorem r_callV {M' : Mth} {idx na mc' ms' ci : Nat} {q : Int} (as : List AV) (hd : decode M.2.1 pc = .ok (.invokevirtual idx, 3)) (hcl : clV M.1.cls idx M' na) (hna : as.length = na) (hroom : csum sk ≤ 8) (hb : k + mc' ≤ mc ∧ w + ms' ≤ ms) (hci : ci < 13) (hcn : (vwCl[ci]?).map (·.1) = some M'.1.cls) (hq : Ob n q ci)
    (h : Ct d M' n mc' ms' Ly ((2, q) :: as) G (fun r G1 => Rn (d + 1) M (n + mc', k + mc', w + ms', mc, ms, Ly) (pc + 3) ls (rvs M'.2.2.2 r ++ sk) G1 Q)) : Rn (d + 1) M (n, k, w, mc, ms, Ly) pc ls (as.reverse ++ (2, q) :: sk) G Q := by
  intro p l e s m args below meth c D E cA hc H locs lc hw hs hl
  have hts := hc.2.2.2.2.1
  have hK := hc.2.2.2.2.2.2.2.2.1
  obtain ⟨r, hr, hrc⟩ : ∃ r, vwCl[ci]? = some r ∧ r.1 = M'.1.cls := by
    cases hx : vwCl[ci]? with
    | none => rw [hx] at hcn; cases hcn
    | some r => rw [hx] at hcn; exact ⟨r, rfl, Option.some.inj hcn⟩
  have hrecv := va_recv hK hw.1 hr (ob_get hq)
  rw [hrc] at hrecv
  rw [List.map_append, List.map_reverse, List.map_cons]
  refine call_on (M' := M') (mc' := mc') (ms' := ms') hs hw.2.1 (va_runV (As := as.map (cv E)) (C := M'.1.cls) ⟨hc.1, hc.2.1, hc.2.2.1, hc.2.2.2.1, hts⟩ (h l D E cA) ⟨clB.at hcl.1 hts, hts _ hcl.2.1, hts _ hcl.2.2⟩ ⟨PcM_blind D E cA Ly n _ G, hrecv, PcM_at (as := (2, q) :: as) hw hs hK hc.2.2.2.2.2.2.2.2.2.1⟩ rfl (by rw [List.length_map]; exact hna) hl.1 rfl (lv_room (by rw [csum_cat]; exact hroom)) hd hb) (fun r G1 H1 locs1 hq hw1 hs1 => ?_)
  have h1 := hq p l e s m args below meth c D E cA hc H1 locs1 lc hw1 hs1 hl
  rw [show n + mc' - (k + mc') = n - k from by omega] at h1
  exact h1
theorem r_callI {M' : Mth} {idx na mc' ms' : Nat} {q : Int} (as : List AV) (hd : decode M.2.1 pc = .ok (.invokespecial idx, 3)) (hcl : clI M.1.cls idx M' na) (hna : as.length = na) (hroom : csum sk ≤ 8) (hb : k + mc' ≤ mc ∧ w + ms' ≤ ms)
    (h : Ct d M' n mc' ms' Ly ((2, q) :: as) G (fun _ G1 => Rn (d + 1) M (n + mc', k + mc', w + ms', mc, ms, Ly) (pc + 3) ls sk G1 Q)) : Rn (d + 1) M (n, k, w, mc, ms, Ly) pc ls (as.reverse ++ (2, q) :: sk) G Q := by
  intro p l e s m args below meth c D E cA hc H locs lc hw hs hl
  have hts := hc.2.2.2.2.1
  have hB : CallB (rmD (d + 1) mc ms) s args M.1.cls idx M'.1 M'.2.1 M'.2.2.1 none (wsM M') (rmD d mc' ms') mc' ms' na := by
    have := clB.at (d := d) (mc' := mc') (ms' := ms') (mc := mc) (ms := ms) hcl.1 hts
    rwa [hcl.2.2.2] at this
  rw [List.map_append, List.map_reverse, List.map_cons]
  refine call_on (M' := M') (mc' := mc') (ms' := ms') hs hw.2.1 (va_runI (As := as.map (cv E)) ⟨hc.1, hc.2.1, hc.2.2.1, hc.2.2.2.1, hts⟩ (h l D E cA) ⟨hB, hcl.2.1, hts _ hcl.2.2.1⟩ ⟨PcM_blind D E cA Ly n _ G, PcM_at (as := (2, q) :: as) hw hs hc.2.2.2.2.2.2.2.2.1 hc.2.2.2.2.2.2.2.2.2.1⟩ rfl (by rw [List.length_map]; exact hna) hl.1 rfl (lv_room (by rw [csum_cat]; exact hroom)) hd hb) (fun r G1 H1 locs1 hq hw1 hs1 => ?_)
  have h1 := hq p l e s m args below meth c D E cA hc H1 locs1 lc hw1 hs1 hl
  rw [show n + mc' - (k + mc') = n - k from by omega] at h1
  rw [hcl.2.2.2]
  exact h1
theorem r_callN {M' : Mth} {idx na mc' ms' : Nat} {q : Int} {host : String} (as : List AV) (hd : decode M.2.1 pc = .ok (.invokespecial idx, 3)) (hcl : clNI M.1.cls idx M' na host) (hna : as.length = na) (hroom : csum sk ≤ 8) (hb : k + mc' ≤ mc ∧ w + ms' ≤ ms)
    (h : Ct d M' n mc' ms' Ly ((2, q) :: as) G (fun _ G1 => Rn (d + 1) M (n + mc', k + mc', w + ms', mc, ms, Ly) (pc + 3) ls sk G1 Q)) : Rn (d + 1) M (n, k, w, mc, ms, Ly) pc ls (as.reverse ++ (2, q) :: sk) G Q := by
  intro p l e s m args below meth c D E cA hc H locs lc hw hs hl
  have hts := hc.2.2.2.2.1
  have hcl1 := hcl.1
  have hB : va_CN (rmD (d + 1) mc ms) s args M.1.cls idx M'.1 host M'.2.1 M'.2.2.1 none (wsM M') (rmD d mc' ms') mc' ms' na :=
    va_cnB na hts (wsM_good hcl1.2.1) (by unfold wsM; rw [hcl.2.2.2]) rfl rfl (hc.2.2.2.2.2.2.2.2.2.1.2.2.2.2.2.2.1 _ hcl1.2.2.2.2) (hts _ hcl1.2.2.1) hcl1.2.2.2.1 ⟨Nat.le_refl _, by show 8 + (M'.2.2.1 + 11) + 64 * d ≤ 64 * (d + 1); have := hcl1.1; omega⟩
  rw [List.map_append, List.map_reverse, List.map_cons]
  refine call_on (M' := M') (mc' := mc') (ms' := ms') hs hw.2.1 (va_runIN (As := as.map (cv E)) ⟨hc.1, hc.2.1, hc.2.2.1, hc.2.2.2.1, hts⟩ (h l D E cA) ⟨hB, hcl.2.1, hts _ hcl.2.2.1⟩ ⟨PcM_blind D E cA Ly n _ G, PcM_at (as := (2, q) :: as) hw hs hc.2.2.2.2.2.2.2.2.1 hc.2.2.2.2.2.2.2.2.2.1⟩ rfl (by rw [List.length_map]; exact hna) hl.1 rfl (lv_room (by rw [csum_cat]; exact hroom)) hd hb) (fun r G1 H1 locs1 hq hw1 hs1 => ?_)
  have h1 := hq p l e s m args below meth c D E cA hc H1 locs1 lc hw1 hs1 hl
  rw [show n + mc' - (k + mc') = n - k from by omega] at h1
  rw [hcl.2.2.2]
  exact h1
/-- Object's own constructor -/
theorem r_obj {idx : Nat} {q : Int} (hd : decode M.2.1 pc = .ok (.invokespecial idx, 3)) (hm : Cond.methodLink M.1.cls idx objectInit ∈ lw_tbl.filter goodWord) (hroom : csum sk ≤ 8) (h : Rn (d + 1) M (n, k, w, mc, ms, Ly) (pc + 3) ls sk G Q) : Rn (d + 1) M (n, k, w, mc, ms, Ly) pc ls ((2, q) :: sk) G Q := by
  intro p l e s m args below meth c D E cA hc H locs lc hw hs hl
  have hts := hc.2.2.2.2.1
  refine W.objInit hc.1 hc.2.1 hc.2.2.2.1 (hts _ hm) (hts _ (gm (by decide +kernel) rfl)) (hts _ (gm (by decide +kernel) rfl)) rfl (by rw [hc.2.2.1]; exact hl.1) rfl hd (by show 1 ≤ d + 1; omega) ?_ (h p l e s m args below meth c D E cA hc H locs lc hw hs hl)
  show 2 * (F0 m pc lc (cv E (2, q) :: sk.map (cv E))).monitorRoom + _ + 12 ≤ 64 * (d + 1)
  have h1 := lv_room (m := m) (pc := pc) (ls := lc) (rest := cv E (2, q) :: sk.map (cv E)) (st := sk.map (cv E)) (by rw [csum_cat]; exact hroom)
  omega
/-- answers -/
theorem r_ret (hd : decode M.2.1 pc = .ok (.return_, 1)) (hr : M.2.2.2 = none) (hz : n - k + mc = n ∧ k ≤ mc ∧ w ≤ ms) (h : Q 0 G) : Rn d M (n, k, w, mc, ms, Ly) pc ls [] G Q := by
  intro p l e s m args below meth c D E cA hc H locs lc hw hs hl
  refine W.widen hz.2.1 hz.2.2 (W.vret hc.1 hc.2.1 (by rw [hc.2.2.2.2.2.1, hr]) (fun t ht hW => ⟨⟨0, G, by rw [hr]; rfl, h, by rw [ht]; show Wd D E cA Ly (n - k + mc) G H; rw [hz.1]; exact hw⟩, hs.F ht⟩) hs.2.2 hd hc.2.2.2.2.2.2.1)
theorem r_ireturn {r : Int} (hd : decode M.2.1 pc = .ok (.ireturn, 1)) (hr : M.2.2.2 = some .int) (hz : n - k + mc = n ∧ k ≤ mc ∧ w ≤ ms) (h : Q r G) : Rn d M (n, k, w, mc, ms, Ly) pc ls [(0, r)] G Q := by
  intro p l e s m args below meth c D E cA hc H locs lc hw hs hl
  refine W.widen hz.2.1 hz.2.2 (W.iret hc.1 hc.2.1 (by rw [hc.2.2.2.2.2.1, hr]) (fun t ht hW => ⟨⟨r, G, by rw [hr]; rfl, h, by rw [ht]; show Wd D E cA Ly (n - k + mc) G H; rw [hz.1]; exact hw⟩, hs.F ht⟩) hs.2.2 hd hc.2.2.2.2.2.2.1)
theorem r_zreturn {r : Int} (hd : decode M.2.1 pc = .ok (.ireturn, 1)) (hr : M.2.2.2 = some .boolean) (hz : n - k + mc = n ∧ k ≤ mc ∧ w ≤ ms) (h9 : r = 0 ∨ r = 1) (h : Q r G) : Rn d M (n, k, w, mc, ms, Ly) pc ls [(0, r)] G Q := by
  intro p l e s m args below meth c D E cA hc H locs lc hw hs hl
  refine W.widen hz.2.1 hz.2.2 (W.zret hc.1 hc.2.1 (ty := .boolean) (by rw [hc.2.2.2.2.2.1, hr]) (by rcases h9 with rfl | rfl <;> rfl) (fun t ht hW => ⟨⟨r, G, by rw [hr]; rfl, h, by rw [ht]; show Wd D E cA Ly (n - k + mc) G H; rw [hz.1]; exact hw⟩, hs.F ht⟩) hs.2.2 hd hc.2.2.2.2.2.2.1)
theorem r_lreturn {r : Int} (hd : decode M.2.1 pc = .ok (.lreturn, 1)) (hr : M.2.2.2 = some .long) (hz : n - k + mc = n ∧ k ≤ mc ∧ w ≤ ms) (h : Q r G) : Rn d M (n, k, w, mc, ms, Ly) pc ls [(1, r)] G Q := by
  intro p l e s m args below meth c D E cA hc H locs lc hw hs hl
  refine W.widen hz.2.1 hz.2.2 (W.lret hc.1 hc.2.1 (by rw [hc.2.2.2.2.2.1, hr]) (fun t ht hW => ⟨⟨r, G, by rw [hr]; rfl, h, by rw [ht]; show Wd D E cA Ly (n - k + mc) G H; rw [hz.1]; exact hw⟩, hs.F ht⟩) hs.2.2 hd hc.2.2.2.2.2.2.1)
/-- the row of threes -/
theorem r_thr {idx : Nat} (hd : decode M.2.1 pc = .ok (.getstatic idx, 3)) (hm : ∃ ref : String, Cond.fieldLink M.1.cls idx ref "THREES" "[I" ∈ lw_tbl.filter goodWord ∧ ref = "PastSleep") (h : Rn d M (n, k, w, mc, ms, Ly) (pc + 3) ls ((3, 0) :: sk) G Q) : Rn d M (n, k, w, mc, ms, Ly) pc ls sk G Q := by
  intro p l e s m args below meth c D E cA hc H locs lc hw hs hl
  obtain ⟨ref, hm, rfl⟩ := hm
  exact va_gets hc.1 hc.2.1 hc.2.2.2.2.2.2.2.2.2.1.1 hs hc.2.2.2.1 (hc.2.2.2.2.1 _ hm) (fun _ h => h) hd (h p l e s m args below meth c D E cA hc H locs lc hw hs hl)
theorem r_thrld {i x : Int} (hd : decode M.2.1 pc = .ok (.iaload, 1)) (hi : 0 ≤ i ∧ i < 6) (h : Rn d M (n, k, w, mc, ms, Ly) (pc + 1) ls ((0, thr.getD i.toNat 0) :: sk) G Q) : Rn d M (n, k, w, mc, ms, Ly) pc ls ((0, i) :: (3, x) :: sk) G Q := by
  intro p l e s m args below meth c D E cA hc H locs lc hw hs hl
  obtain ⟨cell, h1, h2, h3, h4, h5, h6, h7⟩ := hc.2.2.2.2.2.2.2.2.2.1.2.1
  have hlt : E.2.1 < s.heap.size := (Array.getElem?_eq_some_iff.mp h1).1
  have et := tcl (n := 6) hi.1 hi.2 (by decide)
  exact W.iald (v := .int (Int32.ofInt (thr.getD i.toNat 0))) hc.1 hc.2.1 (a := E.2.1) (by rw [hs.2.1 _ hlt h7]; exact h1) h2 h3 (fun q => by
    rcases q with q | q
    · exact vpin (n := 6) hi.1 hi.2 (by decide) (Or.inl q)
    · rw [et] at q; omega) (by rw [et]; exact h6 _ (by omega)) rfl rfl hd (h p l e s m args below meth c D E cA hc H locs lc hw hs hl)
end CROWS
theorem Rn.sub {d : Nat} {M : Mth} {z : Zt} {pc : Nat} {ls ls1 : List (Nat × AV)} {sk : List AV} {G : Mem} {Q : Int → Mem → Prop} (ks : List Nat) (he : ks.filterMap (fun i => ls[i]?) = ls1) (h : Rn d M z pc ls1 sk G Q) : Rn d M z pc ls sk G Q := by
  intro p l e s m args below meth c D E cA hc H locs lc hw hs hl
  refine h p l e s m args below meth c D E cA hc H locs lc hw hs ⟨hl.1, hl.2.1, fun q hq => ?_⟩
  subst he
  obtain ⟨x, hx, rfl⟩ := List.mem_map.mp hq
  obtain ⟨i, -, hi⟩ := List.mem_filterMap.mp hx
  exact hl.2.2 _ (List.mem_map.mpr ⟨x, List.mem_of_getElem? hi, rfl⟩)
theorem Ct.mono {d : Nat} {M : Mth} {n mc ms : Nat} {Ly : Option Mem} {as : List AV} {G : Mem} {Q Q' : Int → Mem → Prop} (h : Ct d M n mc ms Ly as G Q) (hQ : ∀ r G1, Q r G1 → Q' r G1) : Ct d M n mc ms Ly as G Q' := by
  intro l D E cA
  refine MetFree.mono (h l D E cA) (fun _ _ h => h) (fun _ _ _ _ _ h => h) ?_
  rintro a s o t - ⟨⟨⟨r, G1, h1, h2, h3⟩, h4⟩, h5⟩
  exact ⟨⟨⟨r, G1, h1, hQ r G1 h2, h3⟩, h4⟩, h5⟩
