section HEADS
variable {d : Nat} {M M' : Mem} {Q : Int → Mem → Prop} {t : Int → Int} {n b l : Int} {D : Mem} {w : Nat}
abbrev HD (d : Nat) (Q : Int → Mem → Prop) (w : Nat) (x : Int) (M : Mem) : Prop := Rn (d + 2) M_X12_reads zN 11 [(0, (2, 311)), (1, (0, (w : Int))), (2, (0, x))] [] M Q
theorem MdX.fr (h : MdX t n b M) (e : ∀ k : Int, 3 ≤ k → k ≤ 8 → M' 311 k = M 311 k) (e2 : ∀ k : Int, M' 312 k = M 312 k) : MdX t n b M' := by
  obtain ⟨⟨t1, t2⟩, b0, k1, k2, k3, k4, k5⟩ := h
  exact ⟨⟨by rw [e 3 (by omega) (by omega)]; exact t1, fun k a c => by rw [e2]; exact t2 k a c⟩, b0, by rw [e 5 (by omega) (by omega)]; exact k1, by rw [e 4 (by omega) (by omega)]; exact k2, by rw [e 6 (by omega) (by omega)]; exact k3, fun z => by rw [e 7 (by omega) (by omega)]; exact k4 z, fun z => by rw [e 8 (by omega) (by omega)]; exact k5 z⟩
theorem c_sgT {s : Int} (hO : TpO t n) (hm : MdX t n b M) (iw : InR s) (hs : isS t n s b) (h : Q 1 M) : Ct d M_X12_isSign NT 0 0 (some lay) [(2, 311), (0, s)] M Q := c_isSign hO hm.1 hm.2.2 hm.2.1.1 iw (fun _ _ => h) (fun z => absurd hs z)
theorem c_sgF {s : Int} (hO : TpO t n) (hm : MdX t n b M) (iw : InR s) (hs : ¬ isS t n s b) (h : Q 0 M) : Ct d M_X12_isSign NT 0 0 (some lay) [(2, 311), (0, s)] M Q := c_isSign hO hm.1 hm.2.2 hm.2.1.1 iw (fun a e => absurd ⟨a, e⟩ hs) (fun _ => h)
theorem c_wdT (k : Nat) {c : Int} (hm : MdX t n b M) (hk : k < 32) (hc : fR 27 ((vocF.getD k []).reverse) = c) (ic : InL c) (hs : isW t n (k : Int) b) (h : Q 1 M) : Ct d M_X12_isWord NT 0 0 (some lay) [(2, 311), (1, c)] M Q := c_isWord hm.2.2 ic (fun _ _ => h) (fun z => absurd ((isW_num hk hc).mp hs) z)
theorem c_wdF (k : Nat) {c : Int} (hm : MdX t n b M) (hk : k < 32) (hc : fR 27 ((vocF.getD k []).reverse) = c) (ic : InL c) (hs : ¬ isW t n (k : Int) b) (h : Q 0 M) : Ct d M_X12_isWord NT 0 0 (some lay) [(2, 311), (1, c)] M Q := c_isWord hm.2.2 ic (fun a e => absurd ((isW_num hk hc).mpr ⟨a, e⟩) hs) (fun _ => h)
theorem isS_ne {s s' : Int} (h : isS t n s b) (hs : s' ≠ s) : ¬ isS t n s' b := fun z => hs (by have := h.2; have := z.2; omega)
theorem isW_ns {w s : Int} (h : isW t n w b) : ¬ isS t n s b := fun z => by have := h.1; have := z.1; omega
theorem isS_nw {w s : Int} (h : isS t n s b) : ¬ isW t n w b := fun z => by have := h.1; have := z.1; omega
theorem isW_ne {w w' : Int} (h : isW t n w b) (hs : w' ≠ w) : ¬ isW t n w' b := fun z => hs (by have := h.2; have := z.2; omega)
theorem jnO_all {k : Int} : (jnO t n k b = -2 ∧ k = 0 ∧ isW t n 22 b) ∨ (jnO t n k b = -3 ∧ k = 0 ∧ isW t n 23 b) ∨ (jnO t n k b = -4 ∧ k = 1 ∧ isS t n 60 b) ∨ (jnO t n k b = -5 ∧ k = 1 ∧ isS t n 61 b) ∨ (jnO t n k b = -6 ∧ k = 2 ∧ isS t n 43 b) ∨ (jnO t n k b = -7 ∧ k = 2 ∧ isS t n 45 b) ∨ (jnO t n k b = -8 ∧ k = 3 ∧ isS t n 42 b) ∨ (jnO t n k b = 0 ∧ (k = 0 → ¬ isW t n 22 b ∧ ¬ isW t n 23 b) ∧ (k = 1 → ¬ isS t n 60 b ∧ ¬ isS t n 61 b) ∧ (k = 2 → ¬ isS t n 43 b ∧ ¬ isS t n 45 b) ∧ (k = 3 → ¬ isS t n 42 b)) := by
  unfold jnO
  by_cases h1 : k = 0 ∧ isW t n 22 b
  · rw [cite_t h1]; exact Or.inl ⟨rfl, h1⟩
  rw [cite_f h1]
  by_cases h2 : k = 0 ∧ isW t n 23 b
  · rw [cite_t h2]; exact Or.inr (Or.inl ⟨rfl, h2⟩)
  rw [cite_f h2]
  by_cases h3 : k = 1 ∧ isS t n 60 b
  · rw [cite_t h3]; exact Or.inr (Or.inr (Or.inl ⟨rfl, h3⟩))
  rw [cite_f h3]
  by_cases h4 : k = 1 ∧ isS t n 61 b
  · rw [cite_t h4]; exact Or.inr (Or.inr (Or.inr (Or.inl ⟨rfl, h4⟩)))
  rw [cite_f h4]
  by_cases h5 : k = 2 ∧ isS t n 43 b
  · rw [cite_t h5]; exact Or.inr (Or.inr (Or.inr (Or.inr (Or.inl ⟨rfl, h5⟩))))
  rw [cite_f h5]
  by_cases h6 : k = 2 ∧ isS t n 45 b
  · rw [cite_t h6]; exact Or.inr (Or.inr (Or.inr (Or.inr (Or.inr (Or.inl ⟨rfl, h6⟩)))))
  rw [cite_f h6]
  by_cases h7 : k = 3 ∧ isS t n 42 b
  · rw [cite_t h7]; exact Or.inr (Or.inr (Or.inr (Or.inr (Or.inr (Or.inr (Or.inl ⟨rfl, h7⟩))))))
  rw [cite_f h7]
  exact Or.inr (Or.inr (Or.inr (Or.inr (Or.inr (Or.inr (Or.inr ⟨rfl, fun e => ⟨fun z => h1 ⟨e, z⟩, fun z => h2 ⟨e, z⟩⟩, fun e => ⟨fun z => h3 ⟨e, z⟩, fun z => h4 ⟨e, z⟩⟩, fun e => ⟨fun z => h5 ⟨e, z⟩, fun z => h6 ⟨e, z⟩⟩, fun e z => h7 ⟨e, z⟩⟩))))))
theorem hd304 (hO : TpO t n) (hm : MdX t n b M) (n43 : ¬ isS t n 43 b) (n45 : ¬ isS t n 45 b) (n42 : ¬ isS t n 42 b) (c01 : M 331 (w : Int) = 0 ∨ M 331 (w : Int) = 1) (hw : w ≤ 5) (h60 : isS t n 60 b ∨ isS t n 61 b → M 331 (w : Int) = 1) (h : Rn (d + 2) M_X12_reads zN 304 [(0, (2, 311)), (1, (0, (w : Int))), (2, (0, 0))] [] M Q) : HD d Q w 0 M := by
  have c1 : InR (M 331 (w : Int)) := by rcases c01 with c | c <;> rw [c] <;> decide
  refine s_X12_reads_11 ⟨by decide, fun _ => c_sgF hO hm (by decide) n43 ⟨by decide, fun z => absurd rfl z, fun _ => c_sgF hO hm (by decide) n45 ⟨by decide, fun z => absurd rfl z, fun _ => c_sgF hO hm (by decide) n42 ⟨by decide, fun _ => ?_, fun z => absurd rfl z⟩⟩⟩, fun z => absurd rfl z⟩
  by_cases s60 : isS t n 60 b
  · exact c_sgT hO hm (by decide) s60 ⟨by decide, fun _ => s_X12_reads_263 ⟨by omega, c1, fun _ => h, fun z => absurd (by rw [h60 (Or.inl s60)]; decide) z⟩, fun z => absurd (by decide) z⟩
  · refine c_sgF hO hm (by decide) s60 ⟨by decide, fun z => absurd rfl z, fun _ => ?_⟩
    by_cases s61 : isS t n 61 b
    · exact c_sgT hO hm (by decide) s61 ⟨by decide, fun z => absurd z (by decide), fun _ => s_X12_reads_263 ⟨by omega, c1, fun _ => h, fun z => absurd (by rw [h60 (Or.inr s61)]; decide) z⟩⟩
    · exact c_sgF hO hm (by decide) s61 ⟨by decide, fun _ => h, fun z => absurd rfl z⟩
theorem put1_fr (v : Int) : (∀ q k : Int, q ≠ 329 → ¬ (q = 311 ∧ k = 27) → put1 M v q k = M q k) ∧ put1 M v 311 27 = M 311 27 + 1 ∧ put1 M v 329 (M 311 27) = v := by
  unfold put1
  exact ⟨fun q k a e => by rw [st_ne _ _ e, st_nq _ _ _ _ a], st_same _ _ _ _, by rw [st_nq _ _ _ _ (by decide), st_same]⟩
/-- a join is gone past -/
theorem hd_join {k x : Int} (hO : TpO t n) (hE : EI t n l b D M) (c01 : M 331 (w : Int) = 0 ∨ M 331 (w : Int) = 1) (hw : w ≤ 5) (hx : jnO t n k b = x) (x0 : x ≠ 0) (hc : k = 1 → M 331 (w : Int) = 0)
    (h : ∀ M', MdX t n (nxt t n b) M' → GR (w : Int) (M 311 27) (D 6 6) [jcd x] [] b D M (nxt t n b) D M' → (2 ≤ k → M' 331 (w : Int) = M 331 (w : Int)) → (k = 1 → M' 331 (w : Int) = 1) → (k = 0 → M' 331 (w : Int) = 0) → HD d Q w 1 M') : HD d Q w 0 M := by
  obtain ⟨hm, hl, hcd, -⟩ := hE
  have o := hO.1
  have c1 : InR (M 331 (w : Int)) := by rcases c01 with c | c <;> rw [c] <;> decide
  have ni := nxt_in (t := t) hm.2.1
  have bn : tkd t n b ≠ 0 → b + 1 ≤ nxt t n b ∧ M 311 27 < 2000 := fun z => by
    have : ¬ n ≤ b := fun y => z (tkd_0.mpr y)
    have := ni.2.2 (by omega)
    omega
  have T : ∀ (M3 : Mem), tkd t n b ≠ 0 → (∀ q k : Int, ¬ (q = 331 ∧ k = (w : Int)) → M3 q k = put1 M (jcd x) q k) → (2 ≤ k → M3 331 (w : Int) = M 331 (w : Int)) → (k = 1 → M3 331 (w : Int) = 1) → (k = 0 → M3 331 (w : Int) = 0) → Rn (d + 2) M_X12_reads zN 424 [(0, (2, 311)), (1, (0, (w : Int))), (2, (0, 1))] [] M3 Q := fun M3 hk f3 h2 h1 h0 => by
    obtain ⟨p1, p2, p3⟩ := put1_fr (M := M) (jcd x)
    have m3 : MdX t n b M3 := hm.fr (fun j j0 j1 => by rw [f3 _ _ (by omega), p1 _ _ (by omega) (by omega)]) (fun j => by rw [f3 _ _ (by omega), p1 _ _ (by omega) (by omega)])
    refine s_X12_reads_424 (c_nextX hO m3 (fun M4 f4 m4 => h M4 m4 (GR.put (bn hk).1 (bn hk).2 (fun q j a e f g => ?_) ?_ ?_) (fun z => by rw [f4 _ _ (by omega)]; exact h2 z) (fun z => by rw [f4 _ _ (by omega)]; exact h1 z) (fun z => by rw [f4 _ _ (by omega)]; exact h0 z)))
    · rw [f4 _ _ (by omega), f3 _ _ (by omega)]
    · rw [f4 _ _ (by omega), f3 _ _ (by omega), p2]
    · rw [f4 _ _ (by omega), f3 _ _ (by omega), p3]
  have hcd6 : 0 ≤ M 311 27 ∧ M 311 27 < 6000 := by have := hm.2.1; omega
  have p331 : ∀ v : Int, put1 M v 331 (w : Int) = M 331 (w : Int) := fun v => (put1_fr v).1 _ _ (by decide) (by omega)
  rcases jnO_all (t := t) (n := n) (b := b) (k := k) with ⟨e, hk, hs⟩ | ⟨e, hk, hs⟩ | ⟨e, hk, hs⟩ | ⟨e, hk, hs⟩ | ⟨e, hk, hs⟩ | ⟨e, hk, hs⟩ | ⟨e, hk, hs⟩ | ⟨e, -⟩
  · obtain rfl : x = -2 := by omega
    have k0 : tkd t n b ≠ 0 := by have := hs.1; omega
    refine hd304 hO hm (isW_ns hs) (isW_ns hs) (isW_ns hs) c01 hw (fun z => absurd z (fun z => z.elim (isW_ns hs) (isW_ns hs))) ?_
    refine s_X12_reads_304 (c_wdT 22 hm (by decide) (by decide) (by decide) hs ⟨by decide, fun _ => s_X12_reads_324 (c_wdT 22 hm (by decide) (by decide) (by decide) hs ⟨by decide, fun z => absurd z (by decide), fun _ => s_X12_reads_342 (c_puts hcd6 ⟨by omega, fun M4 e4 => T M4 k0 (fun q j a => by rw [e4, st_ne _ _ a]; rfl) (fun z => by omega) (fun z => by omega) (fun z => by rw [e4, st_same])⟩)⟩), fun z => absurd (by decide) z⟩)
  · obtain rfl : x = -3 := by omega
    have k0 : tkd t n b ≠ 0 := by have := hs.1; omega
    have n22 : ¬ isW t n 22 b := isW_ne hs (by decide)
    refine hd304 hO hm (isW_ns hs) (isW_ns hs) (isW_ns hs) c01 hw (fun z => absurd z (fun z => z.elim (isW_ns hs) (isW_ns hs))) ?_
    refine s_X12_reads_304 (c_wdF 22 hm (by decide) (by decide) (by decide) n22 ⟨by decide, fun z => absurd rfl z, fun _ => c_wdT 23 hm (by decide) (by decide) (by decide) hs ⟨by decide, fun z => absurd z (by decide), fun _ => s_X12_reads_324 (c_wdF 22 hm (by decide) (by decide) (by decide) n22 ⟨by decide, fun _ => s_X12_reads_342 (c_puts hcd6 ⟨by omega, fun M4 e4 => T M4 k0 (fun q j a => by rw [e4, st_ne _ _ a]; rfl) (fun z => by omega) (fun z => by omega) (fun z => by rw [e4, st_same])⟩), fun z => absurd rfl z⟩)⟩⟩)
  · obtain rfl : x = -4 := by omega
    have k0 : tkd t n b ≠ 0 := by have := hs.1; omega
    have z1 : ¬ M 331 (w : Int) ≠ 0 := fun z => z (hc hk)
    refine s_X12_reads_11 ⟨by decide, fun _ => c_sgF hO hm (by decide) (isS_ne hs (by decide)) ⟨by decide, fun z => absurd rfl z, fun _ => c_sgF hO hm (by decide) (isS_ne hs (by decide)) ⟨by decide, fun z => absurd rfl z, fun _ => c_sgF hO hm (by decide) (isS_ne hs (by decide)) ⟨by decide, fun _ => c_sgT hO hm (by decide) hs ⟨by decide, fun _ => s_X12_reads_263 ⟨by omega, c1, fun z => absurd z z1, fun _ => c_sgT hO hm (by decide) hs ⟨by decide, fun z => absurd z (by decide), fun _ => s_X12_reads_289 (c_puts hcd6 ⟨by omega, fun M4 e4 => T M4 k0 (fun q j a => by rw [e4, st_ne _ _ a]; rfl) (fun z => by omega) (fun z => by rw [e4, st_same]) (fun z => by omega)⟩)⟩⟩, fun z => absurd (by decide) z⟩, fun z => absurd rfl z⟩⟩⟩, fun z => absurd rfl z⟩
  · obtain rfl : x = -5 := by omega
    have k0 : tkd t n b ≠ 0 := by have := hs.1; omega
    have z1 : ¬ M 331 (w : Int) ≠ 0 := fun z => z (hc hk)
    have n60 : ¬ isS t n 60 b := isS_ne hs (by decide)
    refine s_X12_reads_11 ⟨by decide, fun _ => c_sgF hO hm (by decide) (isS_ne hs (by decide)) ⟨by decide, fun z => absurd rfl z, fun _ => c_sgF hO hm (by decide) (isS_ne hs (by decide)) ⟨by decide, fun z => absurd rfl z, fun _ => c_sgF hO hm (by decide) (isS_ne hs (by decide)) ⟨by decide, fun _ => c_sgF hO hm (by decide) n60 ⟨by decide, fun z => absurd rfl z, fun _ => c_sgT hO hm (by decide) hs ⟨by decide, fun z => absurd z (by decide), fun _ => s_X12_reads_263 ⟨by omega, c1, fun z => absurd z z1, fun _ => c_sgF hO hm (by decide) n60 ⟨by decide, fun _ => s_X12_reads_289 (c_puts hcd6 ⟨by omega, fun M4 e4 => T M4 k0 (fun q j a => by rw [e4, st_ne _ _ a]; rfl) (fun z => by omega) (fun z => by rw [e4, st_same]) (fun z => by omega)⟩), fun z => absurd rfl z⟩⟩⟩⟩, fun z => absurd rfl z⟩⟩⟩, fun z => absurd rfl z⟩
  · obtain rfl : x = -6 := by omega
    have k0 : tkd t n b ≠ 0 := by have := hs.1; omega
    refine s_X12_reads_11 ⟨by decide, fun _ => c_sgT hO hm (by decide) hs ⟨by decide, fun _ => s_X12_reads_206 (c_sgT hO hm (by decide) hs ⟨by decide, fun z => absurd z (by decide), fun _ => s_X12_reads_237 (c_puts hcd6 (T _ k0 (fun q j a => rfl) (fun z => p331 _) (fun z => by omega) (fun z => by omega)))⟩), fun z => absurd (by decide) z⟩, fun z => absurd rfl z⟩
  · obtain rfl : x = -7 := by omega
    have k0 : tkd t n b ≠ 0 := by have := hs.1; omega
    have n43 : ¬ isS t n 43 b := isS_ne hs (by decide)
    refine s_X12_reads_11 ⟨by decide, fun _ => c_sgF hO hm (by decide) n43 ⟨by decide, fun z => absurd rfl z, fun _ => c_sgT hO hm (by decide) hs ⟨by decide, fun _ => s_X12_reads_206 (c_sgF hO hm (by decide) n43 ⟨by decide, fun _ => c_sgT hO hm (by decide) hs ⟨by decide, fun z => absurd z (by decide), fun _ => s_X12_reads_237 (c_puts hcd6 (T _ k0 (fun q j a => rfl) (fun z => p331 _) (fun z => by omega) (fun z => by omega)))⟩, fun z => absurd rfl z⟩), fun z => absurd (by decide) z⟩⟩, fun z => absurd rfl z⟩
  · obtain rfl : x = -8 := by omega
    have k0 : tkd t n b ≠ 0 := by have := hs.1; omega
    have n43 : ¬ isS t n 43 b := isS_ne hs (by decide)
    have n45 : ¬ isS t n 45 b := isS_ne hs (by decide)
    refine s_X12_reads_11 ⟨by decide, fun _ => c_sgF hO hm (by decide) n43 ⟨by decide, fun z => absurd rfl z, fun _ => c_sgF hO hm (by decide) n45 ⟨by decide, fun z => absurd rfl z, fun _ => c_sgT hO hm (by decide) hs ⟨by decide, fun z => absurd z (by decide), fun _ => s_X12_reads_206 (c_sgF hO hm (by decide) n43 ⟨by decide, fun _ => c_sgF hO hm (by decide) n45 ⟨by decide, fun _ => s_X12_reads_237 (c_puts hcd6 (T _ k0 (fun q j a => rfl) (fun z => p331 _) (fun z => by omega) (fun z => by omega))), fun z => absurd rfl z⟩, fun z => absurd rfl z⟩)⟩⟩⟩, fun z => absurd rfl z⟩
  · exact absurd (by omega) x0
end HEADS
