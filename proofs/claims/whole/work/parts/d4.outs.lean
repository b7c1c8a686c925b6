/-! the law's own cell 363; its two helpers that catch -/
section OUTS
variable {G G' G1 : Mem} {c : Int} {fs : Int → Law}
theorem Inv0.out (h : Inv0 G G c fs) (f : ∀ q k : Int, q ≠ 363 → G' q k = G q k) : Inv0 G' G' c fs := by
  obtain ⟨⟨a1, a2, a3, a4⟩, hC, hL, hU, hT, hM, hP⟩ := h
  have cc : CorC c G G' := fun q k q0 q1 q7 q12 => f q k (by omega)
  have cm : CorM G G' := fun q k hq => f q k (by omega)
  have e3 : StEq G G' 73 73 := ⟨fun k _ _ => f _ _ (by omega), fun j _ _ i _ _ => f _ _ (by omega)⟩
  have e4 : SrEq G G' 342 0 342 0 := ⟨fun k _ _ => f _ _ (by omega), fun k _ _ => f _ _ (by omega)⟩
  refine ⟨⟨by rw [f 0 13 (by omega)]; exact a1, by rw [f 0 14 (by omega)]; exact a2, a3, by rw [f 19 11 (by omega)]; exact a4⟩, ?_, (hL.ext cm).extC cc, ?_, ?_, ?_, ?_⟩
  · exact hC.st cc (hC.2.2.1.cp e3) (by rw [f 73 7 (by omega)]; exact hC.2.2.2.1) (fun q k hq => f q k (by omega)) (hC.2.2.2.2.2.cp hC.2.1.2.2.1.2 e3 e4)
  · exact hU.ext hC.2.1.2.2.1.2 (fun q k hq => f q k (by omega)) (fun q k hq => f q k (by omega))
  · exact hT.cp (fun j k _ _ _ _ _ => f _ _ (by omega)) (fun k _ _ => f _ _ (by omega))
  · exact hM.ext (fun q k _ _ => f q k (by omega)) (fun q k hq => f q k (by omega))
  · exact hP.ext (fun q k hq => f q k (by omega)) (fun q k hq => f q k (by omega))
theorem RkC.out (h : Inv0 G G c fs) (hK : RkC G c fs) (f : ∀ q k : Int, q ≠ 363 → G' q k = G q k) : RkC G' c fs := by
  have a3 := h.1.2.2.1
  exact hK.ext h.2.1.2.1 ⟨fun q k q0 q1 _ _ => f q k (by omega), f _ _ (by omega), f _ _ (by omega), fun k => f _ _ (by omega)⟩
/-- what stands between two calls of the law -/
def LI (G : Mem) : Prop := ∃ c fs, Inv0 G G c fs ∧ RkC G c fs
theorem LI.out (h : LI G) (f : ∀ q k : Int, q ≠ 363 → G' q k = G q k) : LI G' := by
  obtain ⟨c, fs, hI, hK⟩ := h
  exact ⟨c, fs, hI.out f, RkC.out hI hK f⟩
theorem cl363 {v : Int} (h : ClF c G G1) : ClF c (st G 363 0 v) (st G1 363 0 v) := by
  refine ⟨fun q k a b => ?_, fun q k a => ?_⟩
  · rw [st_nq _ _ _ _ (by omega), st_nq _ _ _ _ (by omega)]
    exact h.1 q k a b
  · by_cases e : q = 363 ∧ k = 0
    · rw [e.1, e.2, st_same, st_same]
    · rw [st_ne _ _ e, st_ne _ _ e]
      exact h.2 q k a
theorem LI.clml {G2 : Mem} {v : Int} (hI : Inv0 G G c fs) (hK : RkC G c fs) (h1 : ClF c G G1) (h2 : MlF (st G1 363 0 v) G2) : LI G2 := by
  have f : ∀ q k : Int, q ≠ 363 → st G 363 0 v q k = G q k := fun q k a => st_nq _ _ _ _ a
  have a := (hI.out f).ok (v := 0) (cl363 h1) h2
  have b := Ok2.okx (hI.out f) (RkC.out hI hK f) a
  exact b.2
theorem LI.clml0 {G2 : Mem} (hI : Inv0 G G c fs) (hK : RkC G c fs) (h1 : ClF c G G1) (h2 : MlF G1 G2) : LI G2 := (Ok2.okx hI hK (hI.ok (v := 0) h1 h2)).2
end OUTS
section HELP
variable {R : Room} {K : Kt} {M : Mth} {z : Zt} {pc : Nat} {ls : List (Nat × AV)} {sk : List AV} {G : Mem} {Z : Zp}
theorem g_i2lW {a : Int} (hd : decode M.2.1 pc = .ok (.i2l, 1)) (h : Rg R K M z (pc + 1) ls ((1, wr a) :: sk) G Z) : Rg R K M z pc ls ((0, a) :: sk) G Z := by
  intro p l e s m args below meth c D E cA hc hK9 H locs lc hw hs hl
  refine lv_i2l hc.1 hc.2.1 hd ?_ (h p l e s m args below meth c D E cA hc hK9 H locs lc hw hs hl)
  have w := wr_in a
  rw [← Int64.toInt_inj, Int32.toInt_toInt64, ofL_toInt ⟨by have := w.1; omega, by have := w.2; omega⟩]
  rfl
def yLa : MethodName := ⟨"PastSleepLaw", "aisle", "(LPastSleep;I[J)I"⟩
def yLb : MethodName := ⟨"PastSleepLaw", "beer", "(LPastSleep;I[J)I"⟩
def M_La : Mth := (yLa, method_3_code, 4, some .int)
def M_Lb : Mth := (yLb, method_4_code, 4, some .int)
def hhL : List (Nat × Nat × Nat × Nat) := [(0, 9, 12, 13)]
def wsH (M : Mth) : List Cond := .codeWith M.1 M.2.1 M.2.2.1 M.2.2.2 hhL :: lw_tbl.filter goodWord
def CtH (d : Nat) (M : Mth) (mc ms : Nat) (args : List AV) (G : Mem) (Q : Int → Mem → Prop) : Prop :=
  ∀ (l : Launch) (D : va_G) (E : En) (cA : Nat → ClassId), l.stackTraces = false → Met l M.1 (wsH M) (rmD d mc ms) (PcM D E cA (some lay) NT args G) (QcM D E cA (some lay) NT M.2.2.2 Q) mc ms (Ow E)
def KH : Kt := fun l c _ _ _ => l.stackTraces = false ∧ c.exceptionTable.toList = tableOf hhL
def ZH (M : Mth) (mc ms : Nat) (Q : Int → Mem → Prop) : Zp := fun _ _ _ s _ args below _ _ D E cA => MQ below (QcM D E cA (some lay) NT M.2.2.2 Q) args s mc ms (Ow E)
theorem CtH.of {d mc ms : Nat} {as : List AV} {Q : Int → Mem → Prop} (hp : plainName M.1.cls = true) (hlen : csum as ≤ M.2.2.1) (h : Rg (rmD d mc ms) KH M (NT, 0, 0, 0, 0, some lay) 0 (lvA 0 as) [] G (ZH M mc ms Q)) : CtH d M mc ms as G Q := by
  intro l D E cA hlx
  refine MetFree.of_bodyS (code := M.2.1) (maxLocals := M.2.2.1) (ret := M.2.2.2) hp ?_ ?_
  · intro args s m h hn
    obtain ⟨m9, meth, c, hn9, h1, h2, h3, h4, -, h5, h6, -⟩ := Cond.codeWith_spec (atoms_spec (ws := wsH M) h _ List.mem_cons_self)
    cases hn.symm.trans hn9
    exact ⟨meth, c, h1, h2, h3, h4, h5, h6⟩
  · intro p e s m args below meth c s₁ B hml hv _
    have hh0 : s₁.heap = s.heap := by rw [B.state]; rfl
    obtain ⟨rfl, hW, hK, hS⟩ := hv
    have hts := atoms_spec (ws := wsH M) B.pre
    have ht := vx_table (x := M.1) B (hts _ List.mem_cons_self)
    have hl := lv_entry (as.map (cv E)) (n := M.2.2.1) (by rw [lg_len]; exact hlen)
    rw [lvA_map] at hl
    have hc : Cx 0 M 0 0 p s m (as.map (cv E)).toArray meth c D E cA := ⟨B.exec, B.bytes, hml, findClass_of_methodNamed B.named, fun w hw => hts w (List.mem_cons_of_mem _ hw), B.returns, B.notSynchronized, (name_of_methodNamed B.named B.method).1, hK, hS, Nat.le_trans (Nat.le_add_right _ NT) hW.2.1⟩
    have k := h p l e s m _ below meth c D E cA hc ⟨hlx, ht⟩ s.heap [] _ hW va_S.rf hl
    rw [lg_entry_eq]
    obtain ⟨t, a1, o, b1, b2, b3⟩ := k s₁ hh0 (Stand.of_body B)
    exact ⟨t, o, a1, b1, b2, ⟨b3.1, b3.2⟩⟩
theorem h_ireturn {r : Int} {mc ms k w x y : Nat} {Q : Int → Mem → Prop} (hd : decode M.2.1 pc = .ok (.ireturn, 1)) (hr : M.2.2.2 = some .int) (hz : k ≤ mc ∧ w ≤ ms) (h : Q r G) : Rg R K M (NT, k, w, x, y, some lay) pc ls [(0, r)] G (ZH M mc ms Q) := by
  intro p l e s m args below meth c D E cA hc _ H locs lc hw hs hl
  exact W.widen hz.1 hz.2 (W.iret hc.1 hc.2.1 (by rw [hc.2.2.2.2.2.1, hr]) (fun t ht hW => ⟨⟨r, G, by rw [hr]; rfl, h, by rw [ht]; exact hw⟩, hs.F ht⟩) hs.2.2 hd hc.2.2.2.2.2.2.1)
/-- a call that may throw, under the one handler of the helpers -/
theorem h_callX {d idx na mc' ms' ci k w x y : Nat} {M' : Mth} {q : Int} {Q : Int → Mem → Prop} {QX : Mem → Prop} (as : List AV) (hown : M.1.cls = "PastSleepLaw") (hd : decode M.2.1 pc = .ok (.invokevirtual idx, 3)) (hpc : 0 ≤ pc ∧ pc < 9) (hcl : clV M.1.cls idx M' na) (hna : as.length = na) (hroom : csum sk ≤ 8) (hb : k + mc' ≤ R.cells ∧ w + ms' ≤ R.slots) (hR : d + 1 ≤ R.frames ∧ 64 * (d + 1) ≤ R.locals) (hci : ci < 13) (hcn : (vwCl[ci]?).map (·.1) = some M'.1.cls) (hq : Ob NT q ci)
    (h : CtX d M' mc' ms' ((2, q) :: as) G Q QX) (h12 : decode M.2.1 12 = .ok (.astore_n 3, 1)) (h4 : M.2.2.1 = 4)
    (k1 : ∀ r G1, Q r G1 → Rg R KH M (NT, k + mc', w + ms', x, y, some lay) (pc + 3) ls (rvs M'.2.2.2 r ++ sk) G1 Z)
    (k2 : ∀ G1, QX G1 → Rg R KH M (NT, k + mc', w + ms', x, y, some lay) 13 [] [] G1 Z) : Rg R KH M (NT, k, w, x, y, some lay) pc ls (as.reverse ++ (2, q) :: sk) G Z := by
  intro p l e s m args below meth c D E cA hc hK9 H locs lc hw hs hl
  have hts := hc.2.2.2.2.1
  have hK := hc.2.2.2.2.2.2.2.2.1
  obtain ⟨r, hr, hrc⟩ : ∃ r, vwCl[ci]? = some r ∧ r.1 = M'.1.cls := by
    cases hx : vwCl[ci]? with
    | none => rw [hx] at hcn; cases hcn
    | some r => rw [hx] at hcn; exact ⟨r, rfl, Option.some.inj hcn⟩
  have hrecv := va_recv hK hw.1 hr (ob_get hq)
  rw [hrc] at hrecv
  have hrun := vx_runV (l := l) (e := e) (below := below) (meth := meth) (locs := locs) (cells := k) (slots := w) (mc := mc') (ms := ms') (rest := sk.map (cv E)) (g := F0 m pc lc ((as.map (cv E)).reverse ++ .ref (E.1 + q.toNat) :: sk.map (cv E))) (As := as.map (cv E)) (C := M'.1.cls) ⟨hc.1, hc.2.1, hc.2.2.1, hc.2.2.2.1, hts⟩ (h l D E cA hK9.1) ⟨clB.atR hcl.1 hR hts, hts _ hcl.2.1, hts _ hcl.2.2⟩ ⟨PcM_blind D E cA (some lay) NT _ G, hrecv, PcM_at (as := (2, q) :: as) hw hs hK hc.2.2.2.2.2.2.2.2.2.1⟩ rfl (by rw [List.length_map]; exact hna) hl.1 rfl (lv_room (by rw [csum_cat]; exact hroom)) hd hb
  rw [List.map_append, List.map_reverse, List.map_cons]
  intro T hT X
  rcases hrun T hT X with ⟨v, st₀, t, T', L, h0, X', hL, e1, e2, ⟨⟨r, G1, hv, hQ, hW⟩, hz, hk⟩, stp⟩ | ⟨a, st₀, t, T', L, E9, ce, h0, X', hL, e1, e2, ⟨hE, ⟨G1, hQ, hW⟩, hz, hk⟩, hce, hcv, hcl9, stp⟩
  · have hv' : v = rv E M'.2.2.2 r := by
      have := hv
      injection this
    subst hv'
    rw [h0] at hz hk
    have hS : va_S (Ow E) s.heap T'.heap (locs ++ L) := by
      refine ⟨Nat.le_trans hs.1 (by rw [e1]; exact hz), fun q h1 h2 => ?_, fun q hq => ?_⟩
      · rw [e1, hk q (Nat.lt_of_lt_of_le h1 hs.1) h2]
        exact hs.2.1 q h1 h2
      · rcases List.mem_append.mp hq with h | h
        · exact hs.2.2 q h
        · exact hL q h
    obtain ⟨t2, a1, b1⟩ := k1 r G1 hQ p l e s m args below meth c D E cA hc hK9 T'.heap (locs ++ L) lc (by rw [e1]; exact hW) hS hl T' rfl X'
    refine ⟨t2, stp t2 ?_, b1⟩
    rw [rvs_cv]
    rw [List.map_append] at a1
    exact a1
  · rw [h0] at hz hk
    have hS : va_S (Ow E) s.heap T'.heap (locs ++ L) := by
      refine ⟨Nat.le_trans hs.1 (by rw [e1]; exact hz), fun q h1 h2 => ?_, fun q hq => ?_⟩
      · rw [e1, hk q (Nat.lt_of_lt_of_le h1 hs.1) h2]
        exact hs.2.1 q h1 h2
      · rcases List.mem_append.mp hq with h | h
        · exact hs.2.2 q h
        · exact hL q h
    subst hE
    have hcast : (Cond.castable xN xN).before args s = true := va_Nw.use rfl hc.2.2.2.2.2.2.2.2.2.1.2.2.2.2.1.2.2.2.2.2.2.1
    have hc4 := hc.2.2.2.1
    rw [hown] at hc4
    have hlnk : (Cond.classLink "PastSleepLaw" 13 xN).before args s = true := hts _ (gk6 19 rfl rfl)
    have key : vx_W p l e R s m args below meth c T'.heap (locs ++ L) (k + mc') (w + ms') (Z p l e s m args below meth c D E cA) (F0 m pc lc (sk.map (cv E))) a := by
      refine vx_catch (own := "PastSleepLaw") (name := xN) (E := xN) (ce := ce) hc4 [] ⟨0, 9, 12, 13⟩ [] hK9.2 (fun z hz => absurd hz List.not_mem_nil) ?_ (by decide) hlnk hcast (by rw [e1]; exact hce) hcv hcl9 ?_
      · simp [covers]; omega
      · exact lv_astore_n (lv' := (3, Value.ref a) :: (ls.map (cl2 E)).filter (fun q => !(q.1 == 3) && !(q.1 + 1 == 3 && q.2.category == 2))) hc.1 hc.2.1 h12 rfl hl (by rw [h4]; decide) rfl (fun lc' hl' => k2 G1 hQ p l e s m args below meth c D E cA hc hK9 T'.heap (locs ++ L) lc' (by rw [e1]; exact hW) hS ⟨hl'.1, hl'.2.1, fun z hz => absurd hz List.not_mem_nil⟩)
    obtain ⟨t2, a1, b1⟩ := key T' rfl X'
    exact ⟨t2, stp.trans a1, b1⟩
end HELP
