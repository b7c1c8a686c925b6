section MWORD
variable {d : Nat} {G G' : Mem} {Q : Int → Mem → Prop} {t : Int → Int} {n b : Int}
theorem idxL_at : ∀ (vs : List (List Int)) (R : List Int) (k j : Int), 0 ≤ k → idxL vs R k = j → j ≠ -1 → k ≤ j ∧ R = (vs.getD (j - k).toNat []).reverse := by
  intro vs
  induction vs with
  | nil => intro R k j _ h hj; exact absurd (show j = -1 from h.symm) hj
  | cons v vs ih =>
    intro R k j hk h hj
    have e : idxL (v :: vs) R k = if R = v.reverse then k else idxL vs R (k + 1) := rfl
    rw [e] at h
    by_cases c : R = v.reverse
    · rw [if_pos c] at h
      subst h
      refine ⟨by omega, ?_⟩
      rw [show (k - k).toNat = 0 by omega]
      exact c
    · rw [if_neg c] at h
      obtain ⟨a, g⟩ := ih R (k + 1) j (by omega) h hj
      refine ⟨by omega, ?_⟩
      rw [show (j - k).toNat = (j - (k + 1)).toNat + 1 by omega]
      exact g
theorem voc_ok : ∀ w : Nat, w < 32 → widx ((vocF.getD w []).reverse) = (w : Int) ∧ ∀ x ∈ (vocF.getD w []).reverse, 97 ≤ x ∧ x ≤ 122 := by decide +kernel
/-- a word of the vocabulary by the model's number -/
theorem isW_num {w : Nat} {c : Int} (hw : w < 32) (hc : fR 27 ((vocF.getD w []).reverse) = c) : isW t n (w : Int) b ↔ (tkd t n b = 2 ∧ fR 27 (twd t n b) = c) := by
  obtain ⟨v1, v2⟩ := voc_ok w hw
  constructor
  · rintro ⟨h1, h2⟩
    obtain ⟨-, g⟩ := idxL_at vocF (twd t n b) 0 (w : Int) (by omega) h2 (by omega)
    rw [show ((w : Int) - 0).toNat = w by omega] at g
    exact ⟨h1, by rw [g]; exact hc⟩
  · rintro ⟨h1, h2⟩
    have g : twd t n b = (vocF.getD w []).reverse := fR_inj (B := 27) (by decide) _ _ (twd_ok h1).1 v2 (by rw [h2, hc])
    exact ⟨h1, by rw [g]; exact v1⟩
/-- where the model stands in its tape -/
def MdX (t : Int → Int) (n b : Int) (G : Mem) : Prop := TpX t n G ∧ (0 ≤ b ∧ b ≤ n) ∧ TkM t n b G
def MdF (G G' : Mem) : Prop := ∀ q k : Int, ¬ (q = 311 ∧ ((4 ≤ k ∧ k ≤ 9) ∨ k = 42)) → G' q k = G q k
theorem MdF.rfl' : MdF G G := fun _ _ _ => rfl
theorem MdF.tr {G2 : Mem} (h : MdF G G') (h' : MdF G' G2) : MdF G G2 := fun q k a => (h' q k a).trans (h q k a)
theorem NtF.md (h : NtF G G') : MdF G G' := fun q k a => h q k (by omega)
theorem c_nextX (hO : TpO t n) (hm : MdX t n b G) (h : ∀ G2, NtF G G2 → MdX t n (nxt t n b) G2 → Q 0 G2) : Ct (d + 1) M_X12_nextToken NT 0 0 (some lay) [(2, 311)] G Q := by
  have ti := tnx_in (t := t) hm.2.1
  have ni := nxt_in (t := t) hm.2.1
  have b0 := hm.2.1
  exact c_nextToken hO hm.1 (p := tnx t n b) ⟨by omega, ti.2.1⟩ hm.2.2.2.1 (fun G2 f2 k2 => h G2 f2 ⟨hm.1.nt f2, ⟨by omega, ni.2.1⟩, k2⟩)
theorem c_failsX {k : Int} (hm : MdX t n b G) (h : ∀ G2, MdF G G2 → G2 311 9 = k + 16 * b → Q 0 G2) : Ct d M_X12_fails NT 0 0 (some lay) [(2, 311), (0, k)] G Q := by
  refine ctof (s_X12_fails_0 (fun G1 e1 => h G1 (fun q j a => by rw [e1, st_ne _ _ (by omega)]) ?_))
  rw [e1, st_same, hm.2.2.1]
theorem c_needsWord {w : Nat} {c : Int} (hO : TpO t n) (hm : MdX t n b G) (hw : w < 32) (hc : fR 27 ((vocF.getD w []).reverse) = c) (ic : InL c) (h1 : isW t n (w : Int) b → ∀ G2, NtF G G2 → MdX t n (nxt t n b) G2 → Q 1 G2) (h0 : ¬ isW t n (w : Int) b → ∀ G2, MdF G G2 → G2 311 9 = 1 + 16 * b → Q 0 G2) : Ct (d + 2) M_X12_needsWord NT 0 0 (some lay) [(2, 311), (1, c)] G Q := by
  have iff := isW_num (t := t) (n := n) (b := b) hw hc
  exact ctof (s_X12_needsWord_0 (c_isWord hm.2.2 ic (fun x y => ⟨by omega, fun _ => c_nextX hO hm (fun G2 f2 m2 => h1 (iff.mpr ⟨x, y⟩) G2 f2 m2), fun z => absurd (by decide) z⟩) (fun x => ⟨by omega, fun z => absurd rfl z, fun _ => c_failsX hm (fun G2 f2 e2 => ⟨Or.inl rfl, h0 (fun z => x (iff.mp z)) G2 f2 e2⟩)⟩)))
theorem c_needsNumber {lo hi : Int} (hO : TpO t n) (hm : MdX t n b G) (il : InR lo) (ih : InR hi) (h1 : tkd t n b = 3 → lo ≤ tnm t n b → tnm t n b ≤ hi → ∀ G2, MdF G G2 → MdX t n (nxt t n b) G2 → G2 311 42 = tnm t n b → Q 1 G2) (h0 : tkd t n b ≠ 3 → ∀ G2, MdF G G2 → G2 311 9 = 1 + 16 * b → Q 0 G2) (h4 : tkd t n b = 3 → ¬ (lo ≤ tnm t n b ∧ tnm t n b ≤ hi) → ∀ G2, MdF G G2 → G2 311 9 = 4 + 16 * b → Q 0 G2) : Ct (d + 2) M_X12_needsNumber NT 0 0 (some lay) [(2, 311), (0, lo), (0, hi)] G Q := by
  have r := mkd_iff (tkd_r (t := t) (n := n) (b := b))
  refine ctof (s_X12_needsNumber_0 ?_)
  rw [hm.2.2.2.2.1]
  refine ⟨by omega, fun x => ?_, fun x => c_failsX hm (fun G2 f2 e2 => ⟨Or.inl rfl, h0 (by omega) G2 f2 e2⟩)⟩
  have k3 : tkd t n b = 3 := by omega
  have tm := tnm_in k3
  rw [hm.2.2.2.2.2.2 k3]
  refine c_within (by omega) il ih (fun y => ⟨by omega, fun _ G7 e7 => ?_, fun z => absurd (by decide) z⟩) (fun y => ⟨by omega, fun z => absurd rfl z, fun _ => c_failsX hm (fun G2 f2 e2 => ⟨Or.inl rfl, h4 k3 y G2 f2 e2⟩)⟩)
  rw [hm.2.2.2.2.2.2 k3] at e7
  have f7 : ∀ q k : Int, ¬ (q = 311 ∧ k = 42) → G7 q k = G q k := fun q k z => by rw [e7, st_ne _ _ z]
  have m7 : MdX t n b G7 := by
    obtain ⟨⟨t1, t2⟩, b0, k1, k2, k3', k4, k5⟩ := hm
    exact ⟨⟨by rw [f7 _ _ (by omega)]; exact t1, fun k a e => by rw [f7 _ _ (by omega)]; exact t2 k a e⟩, b0, by rw [f7 _ _ (by omega)]; exact k1, by rw [f7 _ _ (by omega)]; exact k2, by rw [f7 _ _ (by omega)]; exact k3', fun z => by rw [f7 _ _ (by omega)]; exact k4 z, fun z => by rw [f7 _ _ (by omega)]; exact k5 z⟩
  refine c_nextX hO m7 (fun G8 f8 m8 => h1 k3 y.1 y.2 G8 (fun q k a => by rw [f8 q k (by omega), f7 q k (by omega)]) m8 ?_)
  rw [f8 311 42 (by omega), e7, st_same]
theorem c_ends (hO : TpO t n) (hm : MdX t n b G) (h1 : isS t n 59 b → ∀ G2, NtF G G2 → MdX t n (nxt t n b) G2 → Q 1 G2) (h0 : ¬ isS t n 59 b → ∀ G2, MdF G G2 → G2 311 9 = 1 + 16 * b → Q 0 G2) : Ct (d + 2) M_X12_ends NT 0 0 (some lay) [(2, 311)] G Q :=
  ctof (s_X12_ends_0 (c_isSign hO hm.1 hm.2.2 hm.2.1.1 (by decide) (fun x y => ⟨by omega, fun _ => c_nextX hO hm (fun G2 f2 m2 => h1 ⟨x, y⟩ G2 f2 m2), fun z => absurd (by decide) z⟩) (fun x => ⟨by omega, fun z => absurd rfl z, fun _ => c_failsX hm (fun G2 f2 e2 => ⟨Or.inl rfl, h0 x G2 f2 e2⟩)⟩)))
end MWORD
