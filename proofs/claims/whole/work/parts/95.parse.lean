/-! THE PARSER as a function: where the token begins and what was told so far (D: the cells of a cabin from 0 on; 20 names, 21 times, 30 the number read last), or the fault -/
abbrev PR : Type := Int ⊕ (Int × Mem)
def bnd (r : PR) (f : Int → Mem → PR) : PR := match r with
  | .inl e => .inl e
  | .inr x => f x.1 x.2
def isW (t : Int → Int) (n w b : Int) : Prop := tkd t n b = 2 ∧ widx (twd t n b) = w
def isS (t : Int → Int) (n s b : Int) : Prop := tkd t n b = 4 ∧ t b = s
def fl (k b : Int) : PR := .inl (k + 16 * b)
noncomputable def pW (t : Int → Int) (n w : Int) (r : PR) : PR := bnd r (fun b D => @ite PR (isW t n w b) (Classical.propDecidable _) (.inr (nxt t n b, D)) (fl 1 b))
noncomputable def pS (t : Int → Int) (n s : Int) (r : PR) : PR := bnd r (fun b D => @ite PR (isS t n s b) (Classical.propDecidable _) (.inr (nxt t n b, D)) (fl 1 b))
/-- a number from lo to hi -/
def pV (t : Int → Int) (n : Int) (lo hi : Mem → Int) (r : PR) : PR := bnd r (fun b D => if tkd t n b ≠ 3 then fl 1 b else if tnm t n b < lo D ∨ hi D < tnm t n b then fl 4 b else .inr (nxt t n b, st D 30 0 (tnm t n b)))
/-- .. put away -/
def pN (t : Int → Int) (n : Int) (lo hi : Mem → Int) (q k : Mem → Int) (r : PR) : PR := bnd (pV t n lo hi r) (fun b D => .inr (b, st D (q D) (k D) (D 30 0)))
def pF (k : Int) (r : PR) : PR := bnd r (fun b _ => fl k b)
section PARSE
variable {d : Nat} {G G' G0 : Mem} {Q : Int → Mem → Prop} {t : Int → Int} {n b K cc : Int} {D : Mem} {r : PR}
theorem bnd_l {e : Int} {f : Int → Mem → PR} : bnd (.inl e) f = .inl e := rfl
theorem bnd_r {f : Int → Mem → PR} : bnd (.inr (b, D)) f = f b D := rfl
theorem idxL_in : ∀ (vs : List (List Int)) (R : List Int) (k : Int), 0 ≤ k → -1 ≤ idxL vs R k ∧ idxL vs R k < k + vs.length := by
  intro vs
  induction vs with
  | nil => intro R k hk; exact ⟨by show (-1 : Int) ≤ -1; omega, by show (-1 : Int) < k + 0; omega⟩
  | cons v vs ih =>
    intro R k hk
    have e : idxL (v :: vs) R k = if R = v.reverse then k else idxL vs R (k + 1) := rfl
    have i := ih R (k + 1) (by omega)
    rw [e, List.length_cons]
    by_cases h : R = v.reverse
    · rw [if_pos h]; omega
    · rw [if_neg h]; omega
theorem widx_in (R : List Int) : -1 ≤ widx R ∧ widx R < 32 := by
  have h := idxL_in vocF R 0 (by omega)
  have l : vocF.length = 32 := by decide
  rw [l] at h
  unfold widx
  omega
def CD (cc : Int) (D G : Mem) : Prop := (∀ q k : Int, 0 ≤ q → q < 18 → G (cc + q) k = D q k) ∧ (∀ k : Int, G 4 k = D 20 k) ∧ ∀ k : Int, G 5 k = D 21 k
def DOk (K : Int) (D : Mem) : Prop := (2 ≤ D 0 6 ∧ D 0 6 ≤ 5) ∧ (1 ≤ D 0 7 ∧ D 0 7 ≤ 72) ∧ (0 ≤ D 0 8 ∧ D 0 8 ≤ 5) ∧ (5 ≤ D 0 9 ∧ D 0 9 ≤ 20) ∧ (0 ≤ D 0 10 ∧ D 0 10 ≤ 10) ∧ (∀ s, 0 ≤ s → s < 5 → -1 ≤ D 2 s ∧ D 2 s ≤ 4) ∧ (∀ s, 0 ≤ s → s < 5 → 0 ≤ D 3 s ∧ D 3 s ≤ 1) ∧ (0 ≤ D 6 6 ∧ D 6 6 ≤ 1000) ∧ (∀ i, 0 ≤ i → i < D 0 8 → InL (D 20 i)) ∧ ∀ w, 0 ≤ w → w < 32 → 0 ≤ D 21 w ∧ D 21 w ≤ K
def FrR (cc : Int) (G0 G : Mem) : Prop := ∀ q k : Int, ¬ (q = 1 ∧ 2 ≤ k ∧ k ≤ 6) → ¬ (3 ≤ q ∧ q ≤ 5) → ¬ (cc ≤ q ∧ q < cc + 18) → G q k = G0 q k
def RdB (cc : Int) (t : Int → Int) (n : Int) (G0 G : Mem) : Prop := Bs 1 cc ∧ TpY t n G ∧ G 3 2 = 1 ∧ G 3 3 = cc ∧ (0 ≤ G cc 8 ∧ G cc 8 ≤ 5) ∧ (0 ≤ G (cc + 6) 6 ∧ G (cc + 6) 6 ≤ 1000) ∧ FrR cc G0 G
/-- where the class stands: what the parser says stands in its cells -/
def RdX (K cc : Int) (t : Int → Int) (n : Int) (G0 : Mem) (r : PR) (G : Mem) : Prop := RdB cc t n G0 G ∧ match r with
  | .inl e => G 3 4 = e ∧ e ≠ 0 ∧ InR e
  | .inr x => G 3 4 = 0 ∧ (0 ≤ x.1 ∧ x.1 ≤ n) ∧ TkC t n x.1 G ∧ CD cc x.2 G ∧ DOk K x.2
theorem RdX.inl {e : Int} (h : RdX K cc t n G0 (.inl e) G) : G 3 4 = e ∧ e ≠ 0 ∧ InR e := h.2
theorem RdX.inr (h : RdX K cc t n G0 (.inr (b, D)) G) : G 3 4 = 0 ∧ (0 ≤ b ∧ b ≤ n) ∧ TkC t n b G ∧ CD cc D G ∧ DOk K D := h.2
theorem pr_cases (r : PR) : (∃ e, r = .inl e) ∨ ∃ b D, r = .inr (b, D) := by
  match r with
  | .inl e => exact Or.inl ⟨e, rfl⟩
  | .inr (b, D) => exact Or.inr ⟨b, D, rfl⟩
theorem RdX.f34 (h : RdX K cc t n G0 r G) : InR (G 3 4) := by
  rcases pr_cases r with ⟨e, rfl⟩ | ⟨b, D, rfl⟩
  · have := h.inl; rw [this.1]; exact this.2.2
  · have := h.inr.1; rw [this]; decide
theorem cc_in (h : Bs 1 cc) : 37 ≤ cc ∧ cc ≤ 280 := by
  have : ∀ b ∈ basL.getD 1 [], 37 ≤ b ∧ b ≤ 280 := by decide +kernel
  exact this cc h
/-- a step of the tokens -/
theorem c_stepX (hO : TpO t n) (hB : RdB cc t n G0 G) (hb : 0 ≤ b ∧ b ≤ n) (h34 : G 3 4 = 0) (hk : TkC t n b G) (hc : CD cc D G) (hd : DOk K D) (h : ∀ G2, RdX K cc t n G0 (.inr (nxt t n b, D)) G2 → (∀ q k : Int, q ≠ 1 → G2 q k = G q k) → Q 0 G2) : Ct (d + 5) M_X10_step NT 0 0 (some lay) [(2, 1)] G Q := by
  have hn := tnx_in (t := t) hb
  have ccI := cc_in hB.1
  refine c_step hO hB.2.1 (p := tnx t n b) ⟨by omega, hn.2.1⟩ hk.2.1 (fun G2 f2 k2 => h G2 ⟨⟨hB.1, hB.2.1.nt f2, ?_, ?_, ?_, ?_, ?_⟩, ?_, ?_, k2, ⟨fun q k q0 q1 => ?_, fun k => ?_, fun k => ?_⟩, hd⟩ (fun q k hq => f2 q k (by omega)))
  · rw [f2 3 2 (by omega)]; exact hB.2.2.1
  · rw [f2 3 3 (by omega)]; exact hB.2.2.2.1
  · rw [f2 cc 8 (by omega)]; exact hB.2.2.2.2.1
  · rw [f2 (cc + 6) 6 (by omega)]; exact hB.2.2.2.2.2.1
  · exact fun q k a e g => (f2 q k a).trans (hB.2.2.2.2.2.2 q k a e g)
  · rw [f2 3 4 (by omega)]; exact h34
  · have := nxt_in (t := t) hb; exact ⟨by show 0 ≤ nxt t n b; omega, this.2.1⟩
  · rw [f2 _ _ (by omega)]; exact hc.1 q k q0 q1
  · rw [f2 _ _ (by omega)]; exact hc.2.1 k
  · rw [f2 _ _ (by omega)]; exact hc.2.2 k
/-- a fault -/
theorem c_wrongX {k : Int} (hX : RdX K cc t n G0 r G) (hn : n ≤ 1000) (hk : 1 ≤ k ∧ k ≤ 15) (h : ∀ G2, RdX K cc t n G0 (pF k r) G2 → Q 0 G2) : Ct d M_X5_wrong NT 0 0 (some lay) [(2, 3), (0, k)] G Q := by
  have ccI := cc_in hX.1.1
  rcases pr_cases r with ⟨e, rfl⟩ | ⟨b, D, rfl⟩
  · obtain ⟨a, a0, a1⟩ := hX.inl
    refine ctof (s_X5_wrong_0 ⟨by rw [a]; exact a1, fun _ => h G hX, fun x => absurd (by rw [a]; exact a0) x⟩)
  · obtain ⟨a, a0, ak, ac, ad⟩ := hX.inr
    obtain ⟨B1, B2, B3, B4, B5, B6, B7⟩ := hX.1
    refine ctof (s_X5_wrong_0 ⟨by omega, fun x => absurd a x, fun _ => ⟨B3, fun G4 e4 => h G4 ?_⟩⟩)
    rw [ak.1] at e4
    have f4 : ∀ q k : Int, ¬ (q = 3 ∧ k = 4) → G4 q k = G q k := fun q k z => by rw [e4, st_ne _ _ z]
    refine ⟨⟨B1, ⟨by rw [f4 1 1 (by omega)]; exact B2.1, fun k k0 k1 => by rw [f4 2 k (by omega)]; exact B2.2 k k0 k1⟩, by rw [f4 3 2 (by omega)]; exact B3, by rw [f4 3 3 (by omega)]; exact B4, by rw [f4 cc 8 (by omega)]; exact B5, by rw [f4 (cc + 6) 6 (by omega)]; exact B6, fun q k x y z => (f4 q k (by omega)).trans (B7 q k x y z)⟩, ?_⟩
    show G4 3 4 = k + 16 * b ∧ k + 16 * b ≠ 0 ∧ InR (k + 16 * b)
    exact ⟨by rw [e4, st_same], by omega, by omega⟩
theorem c_standsW {w : Int} (hX : RdX K cc t n G0 r G) (hw : 0 ≤ w ∧ w < 32) (h1 : ∀ b D, r = .inr (b, D) → isW t n w b → Q 1 G) (h0 : (∀ b D, r = .inr (b, D) → ¬ isW t n w b) → Q 0 G) : Ct d M_X5_stands NT 0 0 (some lay) [(2, 3), (0, 2), (0, w)] G Q := by
  rcases pr_cases r with ⟨e, rfl⟩ | ⟨b, D, rfl⟩
  · obtain ⟨a, a0, a1⟩ := hX.inl
    exact ctof (s_X5_stands_0 ⟨by rw [a]; exact a1, fun _ => h0 (fun b D z => by cases z), fun x => absurd (by rw [a]; exact a0) x⟩)
  · obtain ⟨a, a0, ak, ac, ad⟩ := hX.inr
    have kr := tkd_r (t := t) (n := n) (b := b)
    refine ctof (s_X5_stands_0 ⟨by omega, fun x => absurd a x, fun _ => ⟨hX.1.2.2.1, ?_⟩⟩)
    rw [ak.2.2.1]
    refine ⟨by omega, by omega, fun x => h0 (fun b' D' z => by cases z; exact fun y => x y.1), fun x => ?_⟩
    have k2 : tkd t n b = 2 := by omega
    have wi := widx_in (twd t n b)
    rw [(ak.2.2.2.1 k2).1]
    exact ⟨by omega, by omega, fun y => h0 (fun b' D' z => by cases z; exact fun u => y u.2), fun y => h1 b D rfl ⟨k2, Decidable.not_not.mp y⟩⟩
theorem c_standsS {w : Int} (hO : TpO t n) (hX : RdX K cc t n G0 r G) (hw : InR w) (h1 : ∀ b D, r = .inr (b, D) → isS t n w b → Q 1 G) (h0 : (∀ b D, r = .inr (b, D) → ¬ isS t n w b) → Q 0 G) : Ct d M_X5_stands NT 0 0 (some lay) [(2, 3), (0, 4), (0, w)] G Q := by
  rcases pr_cases r with ⟨e, rfl⟩ | ⟨b, D, rfl⟩
  · obtain ⟨a, a0, a1⟩ := hX.inl
    exact ctof (s_X5_stands_0 ⟨by rw [a]; exact a1, fun _ => h0 (fun b D z => by cases z), fun x => absurd (by rw [a]; exact a0) x⟩)
  · obtain ⟨a, a0, ak, ac, ad⟩ := hX.inr
    have kr := tkd_r (t := t) (n := n) (b := b)
    refine ctof (s_X5_stands_0 ⟨by omega, fun x => absurd a x, fun _ => ⟨hX.1.2.2.1, ?_⟩⟩)
    rw [ak.2.2.1]
    refine ⟨by omega, by omega, fun x => h0 (fun b' D' z => by cases z; exact fun y => x y.1), fun x => ?_⟩
    have k4 : tkd t n b = 4 := by omega
    have bn : b < n := by
      have : ¬ n ≤ b := fun z => by have := (tkd_0 (t := t)).mpr z; omega
      omega
    have tb := hO.2 b a0.1 bn
    rw [ak.2.2.2.2.2 k4]
    exact ⟨by omega, hw, fun y => h0 (fun b' D' z => by cases z; exact fun u => y u.2), fun y => h1 b D rfl ⟨k4, Decidable.not_not.mp y⟩⟩
theorem c_rdWord {w : Int} (hO : TpO t n) (hX : RdX K cc t n G0 r G) (hw : 0 ≤ w ∧ w < 32) (h : ∀ G2, RdX K cc t n G0 (pW t n w r) G2 → Q 0 G2) : Ct (d + 6) M_X5_readWord NT 0 0 (some lay) [(2, 3), (0, w)] G Q := by
  refine ctof (s_X5_readWord_0 (c_standsW hX hw (fun b D e hs => ⟨by omega, fun x => absurd x (by decide), fun _ => ⟨hX.1.2.2.1, ?_⟩⟩) (fun hs => ⟨by omega, fun _ => c_wrongX hX hO.1.2 (by omega) (fun G2 h2 => h G2 ?_), fun x => absurd rfl x⟩)))
  · subst e
    obtain ⟨a, a0, ak, ac, ad⟩ := hX.inr
    exact c_stepX hO hX.1 a0 a ak ac ad (fun G2 h2 _ => h G2 (by unfold pW; rw [bnd_r, if_pos hs]; exact h2))
  · rcases pr_cases r with ⟨e, rfl⟩ | ⟨b, D, rfl⟩
    · exact h2
    · unfold pW; rw [bnd_r, if_neg (hs b D rfl)]; exact h2
theorem c_rdSign {w : Int} (hO : TpO t n) (hX : RdX K cc t n G0 r G) (hw : InR w) (h : ∀ G2, RdX K cc t n G0 (pS t n w r) G2 → Q 0 G2) : Ct (d + 6) M_X5_readSign NT 0 0 (some lay) [(2, 3), (0, w)] G Q := by
  refine ctof (s_X5_readSign_0 (c_standsS hO hX hw (fun b D e hs => ⟨by omega, fun x => absurd x (by decide), fun _ => ⟨hX.1.2.2.1, ?_⟩⟩) (fun hs => ⟨by omega, fun _ => c_wrongX hX hO.1.2 (by omega) (fun G2 h2 => h G2 ?_), fun x => absurd rfl x⟩)))
  · subst e
    obtain ⟨a, a0, ak, ac, ad⟩ := hX.inr
    exact c_stepX hO hX.1 a0 a ak ac ad (fun G2 h2 _ => h G2 (by unfold pS; rw [bnd_r, if_pos hs]; exact h2))
  · rcases pr_cases r with ⟨e, rfl⟩ | ⟨b, D, rfl⟩
    · exact h2
    · unfold pS; rw [bnd_r, if_neg (hs b D rfl)]; exact h2
theorem RdX.d30 {v : Int} (h : RdX K cc t n G0 (.inr (b, D)) G) : RdX K cc t n G0 (.inr (b, st D 30 0 v)) G := by
  have e : ∀ q k : Int, q ≠ 30 → st D 30 0 v q k = D q k := fun q k z => st_nq _ _ _ _ z
  obtain ⟨hB, a, a0, ak, ac, ad⟩ := h
  refine ⟨hB, a, a0, ak, ⟨fun q k q0 q1 => (ac.1 q k q0 q1).trans (e _ _ (by omega)).symm, fun k => (ac.2.1 k).trans (e _ _ (by omega)).symm, fun k => (ac.2.2 k).trans (e _ _ (by omega)).symm⟩, ?_⟩
  show DOk K (st D 30 0 v)
  unfold DOk
  simp (disch := decide) only [st_nq]
  exact ad
/-- a number -/
theorem c_rdNum {lo hi : Mem → Int} {l m : Int} (hO : TpO t n) (hX : RdX K cc t n G0 r G) (hl : ∀ b D, r = .inr (b, D) → lo D = l ∧ hi D = m ∧ InR l ∧ InR m) (h : ∀ v G2, RdX K cc t n G0 (pV t n lo hi r) G2 → (∀ b D, pV t n lo hi r = .inr (b, D) → v = D 30 0 ∧ l ≤ v ∧ v ≤ m) → (∀ e, pV t n lo hi r = .inl e → v = l) → (∀ q k : Int, q ≠ 1 → ¬ (q = 3 ∧ k = 4) → G2 q k = G q k) → Q v G2) : Ct (d + 6) M_X5_readNumber NT 0 0 (some lay) [(2, 3), (0, l), (0, m)] G Q := by
  rcases pr_cases r with ⟨e, rfl⟩ | ⟨b, D, rfl⟩
  · obtain ⟨a, a0, a1⟩ := hX.inl
    refine ctof (s_X5_readNumber_0 ⟨hX.f34, fun x => absurd x (by omega), fun _ => h l G hX (fun b D z => by cases z) (fun _ _ => rfl) (fun _ _ _ _ => rfl)⟩)
  · obtain ⟨a, a0, ak, ac, ad⟩ := hX.inr
    obtain ⟨el, eh, il, ih⟩ := hl b D rfl
    have kr := tkd_r (t := t) (n := n) (b := b)
    have wr : ∀ (k : Int) (G2 : Mem), pV t n lo hi (.inr (b, D)) = fl k b → RdX K cc t n G0 (pF k (.inr (b, D))) G2 → (∀ q k : Int, q ≠ 1 → ¬ (q = 3 ∧ k = 4) → G2 q k = G q k) → Q l G2 := fun k G2 e h2 f2 => h l G2 (by rw [e]; exact h2) (fun b D z => by rw [e] at z; cases z) (fun _ _ => rfl) f2
    have wrong : ∀ k : Int, 1 ≤ k ∧ k ≤ 15 → pV t n lo hi (.inr (b, D)) = fl k b → Ct (d + 5) M_X5_wrong NT 0 0 (some lay) [(2, 3), (0, k)] G (fun _ G2 => Q l G2) := fun k hk e => by
      refine ctof (s_X5_wrong_0 ⟨by omega, fun x => absurd a x, fun _ => ⟨hX.1.2.2.1, fun G4 e4 => ?_⟩⟩)
      rw [ak.1] at e4
      have f4 : ∀ q k : Int, ¬ (q = 3 ∧ k = 4) → G4 q k = G q k := fun q k z => by rw [e4, st_ne _ _ z]
      have ccI := cc_in hX.1.1
      have on := hO.1.2
      obtain ⟨B1, B2, B3, B4, B5, B6, B7⟩ := hX.1
      refine wr k G4 e ⟨⟨B1, ⟨by rw [f4 1 1 (by omega)]; exact B2.1, fun k k0 k1 => by rw [f4 2 k (by omega)]; exact B2.2 k k0 k1⟩, by rw [f4 3 2 (by omega)]; exact B3, by rw [f4 3 3 (by omega)]; exact B4, by rw [f4 cc 8 (by omega)]; exact B5, by rw [f4 (cc + 6) 6 (by omega)]; exact B6, fun q k x y z => (f4 q k (by omega)).trans (B7 q k x y z)⟩, ?_⟩ (fun q k _ z => f4 q k z)
      show G4 3 4 = k + 16 * b ∧ k + 16 * b ≠ 0 ∧ InR (k + 16 * b)
      exact ⟨by rw [e4, st_same], by omega, by omega⟩
    refine ctof (s_X5_readNumber_0 ⟨by omega, fun _ => ⟨hX.1.2.2.1, ?_⟩, fun x => absurd a x⟩)
    rw [ak.2.2.1]
    refine ⟨by omega, fun k3 => ?_, fun k3 => wrong 1 (by omega) (by unfold pV; rw [bnd_r, if_pos k3])⟩
    have tm := tnm_in (t := t) k3
    rw [ak.2.2.2.2.1 k3]
    refine ⟨by omega, il, fun x => s_X5_readNumber_46 (wrong 4 (by omega) (by unfold pV; rw [bnd_r, if_neg (by omega), if_pos (by omega)])), fun x => ⟨ih, fun y => ?_, fun y => s_X5_readNumber_46 (wrong 4 (by omega) (by unfold pV; rw [bnd_r, if_neg (by omega), if_pos (by omega)]))⟩⟩
    have e : pV t n lo hi (.inr (b, D)) = .inr (nxt t n b, st D 30 0 (tnm t n b)) := by unfold pV; rw [bnd_r, if_neg (by omega), if_neg (by omega)]
    refine c_stepX hO hX.1 a0 a ak ac ad (fun G2 h2 f2 => h _ G2 (by rw [e]; exact h2.d30) (fun b' D' z => ?_) (fun e' z => by rw [e] at z; cases z) (fun q k x _ => f2 q k x))
    rw [e] at z
    cases z
    exact ⟨by rw [st_same], by omega, by omega⟩
end PARSE
