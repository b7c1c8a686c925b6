section MNUM
variable {d : Nat} {G G' : Mem} {Q : Int → Mem → Prop} {t : Int → Int} {n b : Int} {D : Mem}
theorem c_nNum {lo hi : Mem → Int} {l m : Int} (hO : TpO t n) (hm : MdX t n b G) (el : lo D = l) (eh : hi D = m) (il : InR l) (ih : InR m) (h1 : ∀ v, pV t n lo hi (.inr (b, D)) = .inr (nxt t n b, st D 30 0 v) → l ≤ v → v ≤ m → ∀ G2, MdF G G2 → MdX t n (nxt t n b) G2 → G2 311 42 = v → Q 1 G2) (h0 : ∀ e, pV t n lo hi (.inr (b, D)) = .inl e → ∀ G2, MdF G G2 → G2 311 9 = e → Q 0 G2) : Ct (d + 2) M_X12_needsNumber NT 0 0 (some lay) [(2, 311), (0, l), (0, m)] G Q := by
  subst el
  subst eh
  refine c_needsNumber hO hm il ih (fun k3 v0 v1 G2 f2 m2 e2 => h1 _ ?_ v0 v1 G2 f2 m2 e2) (fun k3 G2 f2 e2 => h0 _ ?_ G2 f2 e2) (fun k3 hv G2 f2 e2 => h0 _ ?_ G2 f2 e2)
  · unfold pV; rw [bnd_r, if_neg (by omega), if_neg (by omega)]
  · unfold pV; rw [bnd_r, if_pos k3]; rfl
  · unfold pV; rw [bnd_r, if_neg (by omega), if_pos (by omega)]; rfl
theorem c_nWord {w : Nat} {c : Int} (hO : TpO t n) (hm : MdX t n b G) (hw : w < 32) (hc : fR 27 ((vocF.getD w []).reverse) = c) (ic : InL c) (h1 : pW t n (w : Int) (.inr (b, D)) = .inr (nxt t n b, D) → ∀ G2, NtF G G2 → MdX t n (nxt t n b) G2 → Q 1 G2) (h0 : ∀ e, pW t n (w : Int) (.inr (b, D)) = .inl e → ∀ G2, MdF G G2 → G2 311 9 = e → Q 0 G2) : Ct (d + 2) M_X12_needsWord NT 0 0 (some lay) [(2, 311), (1, c)] G Q := by
  refine c_needsWord hO hm hw hc ic (fun x => h1 ?_) (fun x => h0 _ ?_)
  · unfold pW; rw [bnd_r, if_pos x]
  · unfold pW; rw [bnd_r, if_neg x]; rfl
theorem c_nEnds (hO : TpO t n) (hm : MdX t n b G) (h1 : pS t n 59 (.inr (b, D)) = .inr (nxt t n b, D) → ∀ G2, NtF G G2 → MdX t n (nxt t n b) G2 → Q 1 G2) (h0 : ∀ e, pS t n 59 (.inr (b, D)) = .inl e → ∀ G2, MdF G G2 → G2 311 9 = e → Q 0 G2) : Ct (d + 2) M_X12_ends NT 0 0 (some lay) [(2, 311)] G Q := by
  refine c_ends hO hm (fun x => h1 ?_) (fun x => h0 _ ?_)
  · unfold pS; rw [bnd_r, if_pos x]
  · unfold pS; rw [bnd_r, if_neg x]; rfl
theorem c_nBoth {w : Nat} {c l m : Int} {lo hi : Mem → Int} (hO : TpO t n) (hm : MdX t n b G) (hw : w < 32) (hc : fR 27 ((vocF.getD w []).reverse) = c) (ic : InL c) (el : lo D = l) (eh : hi D = m) (il : InR l) (ih : InR m) (h1 : ∀ v, pV t n lo hi (pW t n (w : Int) (.inr (b, D))) = .inr (nxt t n (nxt t n b), st D 30 0 v) → l ≤ v → v ≤ m → ∀ G2, MdF G G2 → MdX t n (nxt t n (nxt t n b)) G2 → G2 311 42 = v → Q 1 G2) (h0 : ∀ e, pV t n lo hi (pW t n (w : Int) (.inr (b, D))) = .inl e → ∀ G2, MdF G G2 → G2 311 9 = e → Q 0 G2) : Ct (d + 3) M_X12_needsBoth NT 0 0 (some lay) [(2, 311), (1, c), (0, l), (0, m)] G Q := by
  refine ctof (s_X12_needsBoth_0 (c_nWord (D := D) hO hm hw hc ic (fun e1 G1 f1 m1 => ⟨by decide, fun z => absurd z (by decide), fun _ => c_nNum (D := D) (lo := lo) (hi := hi) hO m1 el eh il ih (fun v e2 v0 v1 G2 f2 m2 g2 => ⟨by decide, fun z => absurd z (by decide), fun _ => h1 v (by rw [e1]; exact e2) v0 v1 G2 (f1.md.tr f2) m2 g2⟩) (fun e e2 G2 f2 g2 => ⟨by decide, fun _ => h0 e (by rw [e1]; exact e2) G2 (f1.md.tr f2) g2, fun z => absurd rfl z⟩)⟩) (fun e e1 G1 f1 g1 => ⟨by decide, fun _ => h0 e (by rw [e1]; rfl) G1 f1 g1, fun z => absurd rfl z⟩)))
end MNUM
