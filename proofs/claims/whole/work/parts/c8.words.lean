/-! 'throw new NoSuchElementException(text)': the words of it -/
def xAtoms (own : String) (ic : Nat) (X : String) (ix : Nat) (rx : ByteArray) (Y : String) (names : List String) : List Cond :=
  Bundle.throwableAtoms ++ Bundle.throwableSAtoms ++ (Bundle.passSAtoms X Y ix rx ++ Bundle.chainSAtoms Y names) ++
  [.methodLink own ic (Bundle.initS X), .instantiable X 6, .castable X X, .selects X Bundle.tFill0 Bundle.tFill0, .selects X Bundle.tFill Bundle.tFill,
   .lays X Bundle.tN "cause" "Ljava/lang/Throwable;", .lays X Bundle.tN "stackTrace" Bundle.steD, .lays X Bundle.tN "suppressedExceptions" Bundle.listD, .lays X Bundle.tN "detailMessage" "Ljava/lang/String;",
   .isRef (.static Bundle.tN "UNASSIGNED_STACK" Bundle.steD), .isRef (.static Bundle.tN "SUPPRESSED_SENTINEL" Bundle.listD),
   .fieldLink Bundle.tN 198 Bundle.tN "backtrace" "Ljava/lang/Object;", .lays Bundle.tN Bundle.tN "backtrace" "Ljava/lang/Object;", .lays X Bundle.tN "backtrace" "Ljava/lang/Object;"]
def xN : String := "java/util/NoSuchElementException"
def xBytes : ByteArray := ⟨#[0x2a, 0x2b, 0xb7, 0x00, 0x0d, 0xb1]⟩
def xL : List Cond := (xAtoms "PastSleep" 306 xN 13 xBytes "java/lang/RuntimeException" ["java/lang/Exception"]).filter vx_no
def xIx : List (Nat × Nat) := [(1, 21), (6, 46), (6, 55), (6, 57), (6, 60), (6, 62), (6, 47), (6, 48), (1, 32), (1, 33), (6, 49), (6, 54), (6, 58), (6, 78), (6, 36), (6, 79), (6, 38), (6, 80), (6, 40), (6, 50), (6, 52), (6, 42), (6, 74), (6, 75), (6, 77), (6, 42), (6, 65), (6, 66), (6, 67), (6, 68), (6, 28), (6, 68), (6, 69), (6, 70), (6, 71), (6, 30), (6, 71), (6, 72), (6, 73), (6, 74), (6, 32), (6, 64), (6, 25), (6, 26), (6, 33), (6, 34), (6, 35), (6, 37), (6, 39), (6, 41), (6, 45), (6, 44), (6, 43)]
def xAt (q : Nat × Nat) : Option Cond := match q.1 with
  | 0 => (k2_sels lw_privs)[q.2]?
  | 1 => tables_1_1[q.2]?
  | 2 => tables_1_2[q.2]?
  | 3 => tables_1_3[q.2]?
  | 4 => tables_1_4[q.2]?
  | 5 => tables_1_5[q.2]?
  | 6 => tables_1_6[q.2]?
  | 7 => tables_1_7[q.2]?
  | 8 => tables_1_8[q.2]?
  | _ => tables_1_9[q.2]?
theorem xAt_in {q : Nat × Nat} {w : Cond} (h : xAt q = some w) (hg : goodWord w = true) : w ∈ lw_tbl.filter goodWord := by
  obtain ⟨a, i⟩ := q
  match a, h with
  | 0, h => exact gk0 i h hg
  | 1, h => exact gk1 i h hg
  | 2, h => exact gk2 i h hg
  | 3, h => exact gk3 i h hg
  | 4, h => exact gk4 i h hg
  | 5, h => exact gk5 i h hg
  | 6, h => exact gk6 i h hg
  | 7, h => exact gk7 i h hg
  | 8, h => exact gk8 i h hg
  | n + 9, h => exact gk9 i h hg
theorem xL_eq : xL.map some = xIx.map xAt := by decide +kernel
def xB : List Cond := [.declares ⟨"java/lang/RuntimeException", "<init>", "(Ljava/lang/String;)V"⟩, .declares ⟨"java/lang/Exception", "<init>", "(Ljava/lang/String;)V"⟩, .declares ⟨"java/lang/Throwable", "<init>", "(Ljava/lang/String;)V"⟩, .castable xN xN]
theorem xL_bad : xL.filter (fun w => !goodWord w) = xB := by decide +kernel
theorem xL_in : ∀ w ∈ xL.filter goodWord, w ∈ lw_tbl.filter goodWord := by
  intro w hw
  obtain ⟨hw, hg⟩ := List.mem_filter.mp hw
  have h1 : some w ∈ xL.map some := List.mem_map.mpr ⟨w, hw, rfl⟩
  rw [xL_eq] at h1
  obtain ⟨q, -, hq⟩ := List.mem_map.mp h1
  exact xAt_in hq hg
theorem xL_at {args : Array Value} {s : State} (hts : ∀ w ∈ lw_tbl.filter goodWord, w.before args s = true) (hx : xCast s) : ∀ w ∈ xL, w.before args s = true := by
  refine vx_hat (B := xB) (fun w hw => hts w (xL_in w hw)) (fun w hw => by rw [xL_bad] at hw; exact hw) ?_
  exact vx_c (va_Nw.use rfl (hx.2 _ (by decide))) (vx_c (va_Nw.use rfl (hx.2 _ (by decide))) (vx_c (va_Nw.use rfl (hx.2 _ (by decide))) (vx_c (va_Nw.use rfl hx.1) vx_n)))
theorem xL_ot : ∀ w ∈ Cond.classLink "PastSleep" 302 xN :: Cond.initialized xN :: xL, vx_ot w = true := by
  have h : (Cond.classLink "PastSleep" 302 xN :: Cond.initialized xN :: xL).all vx_ot = true := by decide +kernel
  exact List.all_eq_true.mp h
