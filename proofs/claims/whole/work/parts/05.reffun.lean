/-! What the reference's small methods answer, told over the table. -/
abbrev gt (τ : TS) (mp i : Nat) : Int32 := τ 3 (64 * mp + i)
def gN (τ : TS) (mp i : Nat) : Nat := (gt τ mp i).toNatClampNeg
theorem nat_lt (x : Int32) : x.toNatClampNeg < 2 ^ 31 := by
  rcases pk_ix x (n := 2 ^ 31 - 1) (by decide) with h | h | ⟨j, hj, rfl⟩
  · have : x.toInt < 0 := by simpa using Int32.lt_iff_toInt_lt.mp h
    have h2 : x.toNatClampNeg = x.toInt.toNat := rfl
    rw [h2]
    omega
  · have h1 := Int32.le_iff_toInt_le.mp h
    have h2 : x.toNatClampNeg = x.toInt.toNat := rfl
    have h3 := Int32.toInt_lt x
    rw [h2]
    omega
  · rw [nI_clamp (by omega)]
    omega
theorem nat_eq {x : Int32} (h : ¬ x < 0) : x = nI x.toNatClampNeg := by
  obtain ⟨j, hj, rfl⟩ := nI_of h
  rw [nI_clamp hj]
def WFm (τ : TS) (mp : Nat) : Prop := (∀ i, i < 64 → i ≠ 60 → ¬ gt τ mp i < 0) ∧ ∀ v, v < 4 → gN τ mp (15 * v) ≤ 4 ∧ gN τ mp (15 * v) * gN τ mp (15 * v + 2) ≤ 12
def exN (τ : TS) (mp v : Nat) : Nat := gN τ mp (15 * v) * gN τ mp (15 * v + 2)
theorem WFm.n {τ : TS} {mp i : Nat} (h : WFm τ mp) (hi : i < 64) (h0 : i ≠ 60) : gt τ mp i = nI (gN τ mp i) := nat_eq (h.1 i hi h0)
theorem WFm.ex {τ : TS} {mp v : Nat} (h : WFm τ mp) (hv : v < 4) : exN τ mp v ≤ 12 := (h.2 v hv).2
theorem gN_lt (τ : TS) (mp i : Nat) : gN τ mp i < 2 ^ 31 := nat_lt _
def cpT (τ : TS) (a b i : Nat) : TS := va_up τ 3 (fun j => if 64 * b ≤ j ∧ j < 64 * b + i then τ 3 (64 * a + (j - 64 * b)) else τ 3 j)
theorem cpT_0 (τ : TS) (a b : Nat) : cpT τ a b 0 = τ := by
  have h : (fun j => if 64 * b ≤ j ∧ j < 64 * b + 0 then τ 3 (64 * a + (j - 64 * b)) else τ 3 j) = τ 3 := by
    funext j
    rw [if_neg (by omega)]
  unfold cpT
  rw [h, va_up_id]
theorem cpT_s {τ : TS} {a b i : Nat} (hi : i < 64) : cpT τ a b (i + 1) = ts (cpT τ a b i) 3 (64 * b + i) (cpT τ a b i 3 (64 * a + i)) := by
  unfold ts cpT
  rw [va_up_self, va_up_up]
  congr 1
  funext j
  by_cases h : j = 64 * b + i
  · subst h
    rw [pk_us, if_pos (by omega), if_neg (by omega)]
    congr 1
    omega
  · rw [pk_un h]
    by_cases h2 : 64 * b ≤ j ∧ j < 64 * b + i
    · rw [if_pos h2, if_pos (by omega)]
    · rw [if_neg h2, if_neg (by omega)]
def qU (τ : TS) (mp id v k : Nat) : Bool := decide (gt τ mp (15 * v + 3 + k) = nI id)
def uL (τ : TS) (mp id : Nat) : Nat → Bool
  | 0 => !decide (gt τ mp 60 < 0) && decide (gt τ mp 62 = nI id)
  | v + 1 => orA (uL τ mp id v) (exN τ mp v) (qU τ mp id v)
abbrev usedB (τ : TS) (mp id : Nat) : Bool := uL τ mp id 4
def qF (τ : TS) (mp d e : Nat) : Bool := !usedB τ mp (16 * d + e)
def frN (τ : TS) (E mp d : Nat) : Nat := cntL E (qF τ mp d)
theorem frN_le (τ : TS) (E mp d : Nat) : frN τ E mp d ≤ E := cntL_le _ _
def lfI (τ : TS) (E mp d : Nat) : Int32 := if fsL (qF τ mp d) E < E then nI (16 * d + fsL (qF τ mp d) E) else -1
theorem lfI_hit {τ : TS} {E mp d e : Nat} (h : ∀ j, j < e → qF τ mp d j = false) (he : qF τ mp d e = true) (hE : e < E) : nI (16 * d + e) = lfI τ E mp d := by
  unfold lfI
  rw [fsL_hit he h E hE, if_pos hE]
theorem lfI_miss {τ : TS} {E mp d : Nat} (h : ∀ j, j < E → qF τ mp d j = false) : -1 = lfI τ E mp d := by
  unfold lfI
  rw [fsL_miss h, if_neg (Nat.lt_irrefl _)]
def frH (τ : TS) (E x : Nat) : Nat := if tb (τ 1 x) then frN τ E 16 x else 0
def qB (τ : TS) (E d x : Nat) : Bool := decide (¬ x = d) && (decide (frN τ E 16 d < frH τ E x) || (decide (frH τ E x = frN τ E 16 d) && decide (x < d)))
def qH (τ : TS) (d : Nat) : Bool := tb (τ 1 d)
def quB (n k : Nat) : Bool := decide (n < 2 * k)
def fewB (τ : TS) (n : Nat) : Bool := !quB n (cntL n (qH τ))
def volB (τ : TS) (v : Int32) : Bool := !decide (v < 0) && (!decide (nI 4 ≤ v) && !decide (gt τ 15 (15 * v.toNatClampNeg + 2) ≤ 0))
theorem ix_of {v : Int32} {N : Nat} (hN : N < 2 ^ 31) (h0 : ¬ v < 0) (h4 : ¬ nI N ≤ v) : ∃ j : Nat, j < N ∧ v = nI j ∧ v.toNatClampNeg = j := by
  rcases pk_ix v hN with h | h | ⟨j, hj, rfl⟩
  · exact absurd h h0
  · exact absurd h h4
  · exact ⟨j, hj, rfl, nI_clamp (by omega)⟩
theorem volB_t {τ : TS} {v : Int32} (h : volB τ v = true) : ∃ j : Nat, j < 4 ∧ v = nI j ∧ v.toNatClampNeg = j ∧ ¬ gt τ 15 (15 * j + 2) ≤ 0 := by
  simp only [volB, Bool.and_eq_true, Bool.not_eq_true', decide_eq_false_iff_not] at h
  obtain ⟨j, hj, h1, h2⟩ := ix_of (by decide) h.1 h.2.1
  rw [h2] at h
  exact ⟨j, hj, h1, h2, h.2.2⟩
def mvB (τ : TS) (v : Int32) : Bool := decide (gt τ 15 60 = v)
def dkB (n : Nat) (d : Int32) : Bool := !decide (d < 0) && !decide (nI n ≤ d)
theorem dkB_t {n : Nat} {d : Int32} (hn : n < 2 ^ 31) (h : dkB n d = true) : ∃ j : Nat, j < n ∧ d = nI j ∧ d.toNatClampNeg = j := by
  simp only [dkB, Bool.and_eq_true, Bool.not_eq_true', decide_eq_false_iff_not] at h
  exact ix_of hn h.1 h.2
def exB (τ : TS) (v k : Int32) : Bool := volB τ v && (!decide (k < 0) && !decide (nI (exN τ 15 v.toNatClampNeg) ≤ k))
def stB (τ : TS) : Bool := tb (τ 0 7) && decide (τ 0 8 = 0)
def stT (τ : TS) : TS := if stB τ then ts (ts (ts τ 0 8 (τ 0 8 - nI 1)) 0 7 (nI 0)) 0 5 (nI 0) else ts τ 0 8 (τ 0 8 - nI 1)
def wrN (τ : TS) (d : Nat) : Nat := (τ 6 d).toNatClampNeg
def nxN (τ : TS) (d : Nat) : Nat := 3 * d + wrN τ d % 3
def sbL (τ : TS) (d : Nat) : Nat → Nat
  | 0 => nxN τ d
  | j + 1 => if τ 4 (3 * d + j) = τ 0 2 ∧ τ 5 (3 * d + j) = τ 0 3 then 3 * d + (j + 1) % 3 else sbL τ d j
theorem sbL_b (τ : TS) (d : Nat) : ∀ j, 3 * d ≤ sbL τ d j ∧ sbL τ d j < 3 * d + 3
  | 0 => by
    show 3 * d ≤ nxN τ d ∧ nxN τ d < 3 * d + 3
    unfold nxN
    omega
  | j + 1 => by
    have h := sbL_b τ d j
    unfold sbL
    split <;> omega
def wc1 (τ : TS) (k mp : Nat) : TS := cpT (ts (stT τ) 6 (k / 3) ((stT τ) 6 (k / 3) + nI 1)) mp k 64
def wcT (τ : TS) (k mp : Nat) (num mark : Int32) : TS := if stB τ then ts (ts (wc1 τ k mp) 4 k (-11)) 5 k (nI 0) else ts (ts (wc1 τ k mp) 4 k num) 5 k mark
theorem stT_row {τ : TS} {i : Nat} (h : i ≠ 0) : stT τ i = τ i := by
  unfold stT
  split
  · rw [ts_ne h, ts_ne h, ts_ne h]
  · rw [ts_ne h]
theorem cpT_row {τ : TS} {a b i j : Nat} (h : j ≠ 3) : cpT τ a b i j = τ j := va_up_ne _ _ h
theorem wc1_6 {τ : TS} {k mp d : Nat} (h : d ≠ k / 3) : wc1 τ k mp 6 d = τ 6 d := by
  unfold wc1
  rw [cpT_row (by decide), ts_off h, stT_row (by decide)]
theorem wcT_6 {τ : TS} {k mp d : Nat} {num mark : Int32} (h : d ≠ k / 3) : wcT τ k mp num mark 6 d = τ 6 d := by
  unfold wcT
  split <;> rw [ts_ne (by decide), ts_ne (by decide), wc1_6 h]
def cmT (τ : TS) : Nat → TS
  | 0 => ts τ 0 4 (τ 0 4 + nI 1)
  | d + 1 => if tb (cmT τ d 1 d) then wcT (cmT τ d) (sbL (cmT τ d) d 3) 16 (cmT τ d 0 2 + nI 1) (τ 0 4 + nI 1) else cmT τ d
theorem cmT_6 (τ : TS) : ∀ d j, d ≤ j → cmT τ d 6 j = τ 6 j
  | 0, j, _ => by
    show ts τ 0 4 _ 6 j = _
    rw [ts_ne (by decide)]
  | d + 1, j, h => by
    have hb := sbL_b (cmT τ d) d 3
    unfold cmT
    split
    · rw [wcT_6 (by omega), cmT_6 τ d j (by omega)]
    · exact cmT_6 τ d j (by omega)
def qC (τ : TS) (d : Nat) : Bool := tb (cmT τ d 1 d) && stB (cmT τ d)
def cmB (τ : TS) (n : Nat) : Bool := !decide (fsL (qC τ) n < n)
def cmW (τ : TS) (n : Nat) : TS := if fsL (qC τ) n < n then cmT τ (fsL (qC τ) n + 1) else cpT (ts (ts (cmT τ n) 0 2 ((cmT τ n) 0 2 + nI 1)) 0 3 (τ 0 4 + nI 1)) 16 15 64
theorem cm_stop {τ : TS} {n d : Nat} (hG : ∀ j, j < d → qC τ j = false) (hd : d < n) (h1 : tb (cmT τ d 1 d) = true) (h2 : (!stB (cmT τ d)) = false) : cmB τ n = false ∧ cmW τ n = wcT (cmT τ d) (sbL (cmT τ d) d 3) 16 (cmT τ d 0 2 + nI 1) (τ 0 4 + nI 1) := by
  have hq : qC τ d = true := by
    unfold qC
    rw [h1]
    simpa using h2
  unfold cmB cmW
  rw [fsL_hit hq hG n hd, if_pos hd]
  refine ⟨by simp [hd], ?_⟩
  show (if tb (cmT τ d 1 d) then _ else _) = _
  rw [h1, if_pos rfl]
theorem cm_done {τ : TS} {n : Nat} (hG : ∀ j, j < n → qC τ j = false) : cmB τ n = true ∧ cmW τ n = cpT (ts (ts (cmT τ n) 0 2 ((cmT τ n) 0 2 + nI 1)) 0 3 (τ 0 4 + nI 1)) 16 15 64 := by
  unfold cmB cmW
  rw [fsL_miss hG, if_neg (Nat.lt_irrefl _)]
  exact ⟨by simp, rfl⟩
def caN (id c : Nat) : Nat := 64 * (id / 16) + 4 * (id % 16) + c
def eoN (w s b : Nat) : Nat := w * (b / (4 * w)) + b % (4 * w) / s % w
def coN (w s b : Nat) : Nat := b % (4 * w) / s / w * s + b % (4 * w) % s
def blB (τ : TS) (v b : Int32) : Bool := volB τ v && (!decide (b < 0) && !decide (nI (4 * exN τ 15 v.toNatClampNeg) ≤ b))
def qO (τ : TS) (d : Nat) (num mark : Int32) (j : Nat) : Bool := decide (τ 4 (3 * d + j) = num) && decide (τ 5 (3 * d + j) = mark)
def hoB (τ : TS) (d : Nat) (num mark : Int32) : Bool := orA false 3 (qO τ d num mark)
def qN (τ : TS) (k d : Nat) : Bool := tb (τ 1 d) && hoB τ d (τ 4 k) (τ 5 k)
def mayB (τ : TS) (n k : Nat) : Bool := tb (τ 1 (k / 3)) && (!decide (τ 4 k ≤ 0) && quB n (cntL n (qN τ k)))
def chL (τ : TS) (n : Nat) : Nat → Option Nat
  | 0 => none
  | k + 1 => if mayB τ n k then (match chL τ n k with
    | none => some k
    | some b => if τ 4 k ≤ τ 4 b then some b else some k) else chL τ n k
def chI : Option Nat → Int32
  | none => -1
  | some k => nI k
theorem chL_lt (τ : TS) (n : Nat) : ∀ k b, chL τ n k = some b → b < k
  | 0, b, h => by simp [chL] at h
  | k + 1, b, h => by
    unfold chL at h
    split at h
    · split at h
      · cases h; omega
      · split at h
        · cases h
          have := chL_lt τ n k _ (by assumption)
          omega
        · cases h; omega
    · have := chL_lt τ n k b h
      omega
theorem chI_some {o : Option Nat} (h : ¬ chI o < 0) : ∃ b, o = some b := by
  cases o with
  | none => exact absurd (by decide) h
  | some b => exact ⟨b, rfl⟩
theorem chI_none {o : Option Nat} (ho : ∀ b, o = some b → b < 2 ^ 31) (h : chI o < 0) : o = none := by
  cases o with
  | none => rfl
  | some b => exact absurd h (nI_pos (ho b rfl))
def seT (τ : TS) (num : Int32) (d : Nat) : Nat → TS
  | 0 => τ
  | j + 1 => if seT τ num d j 4 (3 * d + j) ≤ num then seT τ num d j else ts (ts (stT (seT τ num d j)) 4 (3 * d + j) (nI 0)) 5 (3 * d + j) (nI 0)
def qS (τ : TS) (num : Int32) (d j : Nat) : Bool := !decide (seT τ num d j 4 (3 * d + j) ≤ num) && stB (seT τ num d j)
theorem seT_6 (τ : TS) (num : Int32) (d : Nat) : ∀ j, seT τ num d j 6 = τ 6
  | 0 => rfl
  | j + 1 => by
    unfold seT
    split
    · exact seT_6 τ num d j
    · rw [ts_ne (by decide), ts_ne (by decide), stT_row (by decide), seT_6 τ num d j]
def slP (τ : TS) (d : Nat) (num mark : Int32) : Bool × TS := if fsL (qS τ num d) 3 < 3 then (false, stT (seT τ num d (fsL (qS τ num d) 3))) else if hoB (seT τ num d 3) d num mark then (true, seT τ num d 3) else (!stB (seT τ num d 3), wcT (seT τ num d 3) (nxN (seT τ num d 3) d) 16 num mark)
theorem sl_stop {τ : TS} {num mark : Int32} {d j : Nat} (hG : ∀ i, i < j → qS τ num d i = false) (hj : j < 3) (h1 : ¬ seT τ num d j 4 (3 * d + j) ≤ num) (h2 : stB (seT τ num d j) = true) : slP τ d num mark = (false, stT (seT τ num d j)) := by
  have hq : qS τ num d j = true := by
    unfold qS
    rw [h2]
    simp [h1]
  unfold slP
  rw [fsL_hit hq hG 3 hj, if_pos hj]
theorem sl_done {τ : TS} {num mark : Int32} {d : Nat} (hG : ∀ i, i < 3 → qS τ num d i = false) : slP τ d num mark = if hoB (seT τ num d 3) d num mark then (true, seT τ num d 3) else (!stB (seT τ num d 3), wcT (seT τ num d 3) (nxN (seT τ num d 3) d) 16 num mark) := by
  unfold slP
  rw [fsL_miss hG, if_neg (by decide)]
/-! the public methods that change little -/
def puP (τ : TS) (n : Nat) (d : Int32) : Bool × TS := if dkB n d && tb (τ 1 d.toNatClampNeg) then (true, ts τ 1 d.toNatClampNeg (nI 0)) else (false, τ)
def plP (τ : TS) (n : Nat) (d : Int32) : Bool × TS := if dkB n d && !tb (τ 1 d.toNatClampNeg) then (true, ts τ 1 d.toNatClampNeg (nI 1)) else (false, τ)
def amP (τ : TS) (k : Int32) : Bool × TS := if k < 0 ∨ ¬ k ≤ nI 100 then (false, τ) else (true, ts (ts τ 0 7 (nI 1)) 0 8 k)
def crP (τ : TS) : Bool × TS := if tb (τ 0 5) then (true, ts (ts τ 0 5 (nI 0)) 0 7 (nI 0)) else (false, τ)
def whI (τ : TS) (v k : Int32) : Int32 := if tb (τ 0 5) then (if exB τ v k then gt τ 15 (15 * v.toNatClampNeg + 3 + k.toNatClampNeg) else -1) else -2
def roI (τ : TS) (v : Int32) : Int32 := if tb (τ 0 5) then (if volB τ v then gt τ 15 (15 * v.toNatClampNeg + 2) else -1) else -2
def feI (τ : TS) (n E : Nat) (d : Int32) : Int32 := if tb (τ 0 5) then (if dkB n d then nI (frN τ E 15 d.toNatClampNeg) else -1) else -2
def moI (τ : TS) : Int32 := if tb (τ 0 5) then (if 0 ≤ gt τ 15 60 then nI 128 * gt τ 15 60 + nI 16 * τ 0 6 + gt τ 15 61 else -8) else -2
def sqI (τ : TS) : Int32 := if tb (τ 0 5) then τ 0 2 else -2
def soI (τ : TS) (n : Nat) (d k : Int32) : Int32 := if dkB n d && (!decide (k < 0) && !decide (nI 3 ≤ k)) then τ 4 (3 * d.toNatClampNeg + k.toNatClampNeg) else -1
theorem exB_t {τ : TS} {v k : Int32} (hw : WFm τ 15) (h : exB τ v k = true) : ∃ i j : Nat, i < 4 ∧ v = nI i ∧ v.toNatClampNeg = i ∧ j < exN τ 15 i ∧ k = nI j ∧ k.toNatClampNeg = j := by
  simp only [exB, Bool.and_eq_true, Bool.not_eq_true', decide_eq_false_iff_not] at h
  obtain ⟨i, hi, h1, h2, h3⟩ := volB_t h.1
  rw [h2] at h
  have hx := hw.ex hi
  obtain ⟨j, hj, h4, h5⟩ := ix_of (by omega) h.2.1 h.2.2
  exact ⟨i, j, hi, h1, h2, hj, h4, h5⟩
def WFx (n E : Nat) (τ : TS) (mp : Nat) : Prop := WFm τ mp ∧ (∀ v, v < 4 → ¬ gt τ mp (15 * v + 2) ≤ 0 → 1 ≤ gN τ mp (15 * v) ∧ (gN τ mp (15 * v + 1) = 1 ∨ gN τ mp (15 * v + 1) = 2 ∨ gN τ mp (15 * v + 1) = 4)) ∧
  (∀ v, v < 4 → ∀ k, k < exN τ mp v → gN τ mp (15 * v + 3 + k) / 16 < n ∧ gN τ mp (15 * v + 3 + k) % 16 < E) ∧
  (¬ gt τ mp 60 < 0 → gN τ mp 60 < 4 ∧ gN τ mp 61 < exN τ mp (gN τ mp 60) ∧ gN τ mp 62 / 16 < n ∧ gN τ mp 62 % 16 < E)
theorem coN_tab : ((List.range 5).all fun w => (List.range 5).all fun s => (List.range 16).all fun c => decide ((¬ (0 < w ∧ (s = 1 ∨ s = 2 ∨ s = 4) ∧ c < 4 * w)) ∨ c / s / w * s + c % s < 4)) = true := by decide +kernel
theorem coN_all (w : Nat) (hw : w < 5) (s : Nat) (hs : s < 5) (c : Nat) (hc : c < 16) : (¬ (0 < w ∧ (s = 1 ∨ s = 2 ∨ s = 4) ∧ c < 4 * w)) ∨ c / s / w * s + c % s < 4 :=
  of_decide_eq_true (List.all_eq_true.mp (List.all_eq_true.mp (List.all_eq_true.mp coN_tab w (List.mem_range.mpr hw)) s (List.mem_range.mpr hs)) c (List.mem_range.mpr hc))
theorem coN_lt {w s b : Nat} (hw : 0 < w) (hw4 : w ≤ 4) (hs : s = 1 ∨ s = 2 ∨ s = 4) : coN w s b < 4 := by
  have h := Nat.mod_lt b (show 0 < 4 * w by omega)
  rcases coN_all w (by omega) s (by omega) (b % (4 * w)) (by omega) with h1 | h1
  · exact absurd ⟨hw, hs, h⟩ h1
  · exact h1
theorem eoN_lt {w s b r : Nat} (hw : 0 < w) (hb : b < 4 * (w * r)) : eoN w s b < w * r := by
  have h1 : b / (4 * w) < r := by
    rw [Nat.div_lt_iff_lt_mul (by omega)]
    calc b < 4 * (w * r) := hb
      _ = r * (4 * w) := by rw [Nat.mul_comm r (4 * w), Nat.mul_assoc]
  have h2 := Nat.mod_lt (b % (4 * w) / s) hw
  have h3 : w * (b / (4 * w)) + w ≤ w * r := by
    rw [← Nat.mul_succ]
    exact Nat.mul_le_mul_left w h1
  unfold eoN
  omega
theorem caN_lt {n E id c : Nat} (hn : n ≤ 5) (hE : E ≤ 10) (h1 : id / 16 < n) (h2 : id % 16 < E) (hc : c < 4) : caN id c < 320 := by
  unfold caN
  omega
theorem blB_t {τ : TS} {v b : Int32} (hw : WFm τ 15) (h : blB τ v b = true) : ∃ i j : Nat, i < 4 ∧ v = nI i ∧ v.toNatClampNeg = i ∧ j < 4 * exN τ 15 i ∧ b = nI j ∧ b.toNatClampNeg = j ∧ ¬ gt τ 15 (15 * i + 2) ≤ 0 := by
  simp only [blB, Bool.and_eq_true, Bool.not_eq_true', decide_eq_false_iff_not] at h
  obtain ⟨i, hi, h1, h2, h3⟩ := volB_t h.1
  rw [h2] at h
  have hx := hw.ex hi
  obtain ⟨j, hj, h4, h5⟩ := ix_of (by omega) h.2.1 h.2.2
  exact ⟨i, j, hi, h1, h2, hj, h4, h5, h3⟩
/-- the place of a block, and its cell in it -/
def bpN (τ : TS) (v b : Nat) : Nat := gN τ 15 (15 * v + 3 + eoN (gN τ 15 (15 * v)) (gN τ 15 (15 * v + 1)) b)
def bcN (τ : TS) (v b : Nat) : Nat := coN (gN τ 15 (15 * v)) (gN τ 15 (15 * v + 1)) b
def rdI (τ : TS) (v b : Int32) : Int32 := if tb (τ 0 5) then (if blB τ v b then (if tb (τ 1 (bpN τ v.toNatClampNeg b.toNatClampNeg / 16)) then τ 2 (caN (bpN τ v.toNatClampNeg b.toNatClampNeg) (bcN τ v.toNatClampNeg b.toNatClampNeg)) else -6) else -1) else -2
/-- what is told of a block that there is -/
theorem bk_t {n E : Nat} {τ : TS} {v b : Nat} (hw : WFx n E τ 15) (hv : v < 4) (hr : ¬ gt τ 15 (15 * v + 2) ≤ 0) (hb : b < 4 * exN τ 15 v) : 0 < gN τ 15 (15 * v) ∧ 0 < gN τ 15 (15 * v + 1) ∧ eoN (gN τ 15 (15 * v)) (gN τ 15 (15 * v + 1)) b < exN τ 15 v ∧ bcN τ v b < 4 ∧ bpN τ v b / 16 < n ∧ bpN τ v b % 16 < E := by
  obtain ⟨h1, h2⟩ := hw.2.1 v hv hr
  have h4 := (hw.1.2 v hv).1
  have h3 : eoN (gN τ 15 (15 * v)) (gN τ 15 (15 * v + 1)) b < exN τ 15 v := eoN_lt (by omega) hb
  have h5 := hw.2.2.1 v hv _ h3
  exact ⟨by omega, by omega, h3, coN_lt (by omega) h4 h2, h5.1, h5.2⟩
/-! the public methods that commit, and write -/
theorem mvB_n {τ : TS} {i : Nat} (hi : i < 2 ^ 31) (h : mvB τ (nI i) = true) : ¬ gt τ 15 60 < 0 := by
  have h1 : gt τ 15 60 = nI i := by simpa [mvB] using h
  rw [h1]
  exact nI_pos hi
def twB (τ : TS) (v : Int32) (b : Nat) : Bool := mvB τ v && (decide (gt τ 15 61 = nI (eoN (gN τ 15 (15 * v.toNatClampNeg)) (gN τ 15 (15 * v.toNatClampNeg + 1)) b)) && !decide (τ 0 6 ≤ nI (bcN τ v.toNatClampNeg b)))
def wr1 (τ : TS) (i j : Nat) (x : Int32) : TS := ts (stT τ) 2 (caN (bpN τ i j) (bcN τ i j)) x
def wr2 (τ : TS) (i j : Nat) (x : Int32) : TS := ts (stT (wr1 τ i j x)) 2 (caN (gN τ 15 62) (bcN τ i j)) x
def wrP (τ : TS) (v b x : Int32) : Int32 × TS :=
  if tb (τ 0 5) then
    (if blB τ v b && decide (0 ≤ x) then
      (if tb (τ 1 (bpN τ v.toNatClampNeg b.toNatClampNeg / 16)) && (!twB τ v b.toNatClampNeg || tb (τ 1 (gN τ 15 62 / 16))) then
        (if stB τ then (-7, stT τ) else
          if twB τ v b.toNatClampNeg then
            (if stB (wr1 τ v.toNatClampNeg b.toNatClampNeg x) then (-7, stT (wr1 τ v.toNatClampNeg b.toNatClampNeg x)) else (nI 2, wr2 τ v.toNatClampNeg b.toNatClampNeg x))
          else (nI 1, wr1 τ v.toNatClampNeg b.toNatClampNeg x))
      else (-6, τ))
    else (-1, τ))
  else (-2, τ)
theorem stT_06 (τ : TS) : stT τ 0 6 = τ 0 6 := by
  unfold stT
  split
  · rw [ts_off (by decide), ts_off (by decide), ts_off (by decide)]
  · rw [ts_off (by decide)]
def cpN (τ : TS) : Nat := (τ 0 6).toNatClampNeg
def srN (τ : TS) : Nat := gN τ 15 (15 * gN τ 15 60 + 3 + gN τ 15 61)
theorem cp_lo {τ : TS} {a m i : Nat} (hm : m < 16) (hi : i < 64) : gt (cpT τ a 16 64) m i = gt τ m i := by
  unfold gt cpT
  rw [va_up_self, if_neg (by omega)]
def sp1 (τ : TS) : TS := ts (ts (stT τ) 2 (caN (gN τ 15 62) (cpN τ)) ((stT τ) 2 (caN (srN τ) (cpN τ)))) 0 6 (nI (cpN τ + 1))
def sp2 (τ : TS) : TS := ts (ts (cpT τ 15 16 64) 3 (64 * 16 + (15 * gN τ 15 60 + 3 + gN τ 15 61)) (nI (gN τ 15 62))) 3 (64 * 16 + 60) (-1)
def spP (τ : TS) (n : Nat) : Int32 × TS :=
  if tb (τ 0 5) then (if 0 ≤ gt τ 15 60 then (if fewB τ n then (-3, τ) else
    if tb (τ 1 (srN τ / 16)) && tb (τ 1 (gN τ 15 62 / 16)) then
      (if 4 ≤ cpN τ then (if cmB (sp2 τ) n then (nI 4, cmW (sp2 τ) n) else (-7, cmW (sp2 τ) n)) else
        if stB τ then (-7, stT τ) else (nI (4 - (cpN τ + 1)), sp1 τ))
    else (-6, τ)) else (-8, τ)) else (-2, τ)
def ca1 (τ : TS) : TS := ts (cpT τ 15 16 64) 3 (64 * 16 + 60) (-1)
def caP (τ : TS) (n : Nat) : Int32 × TS :=
  if tb (τ 0 5) then (if 0 ≤ gt τ 15 60 then (if fewB τ n then (-3, τ) else if cmB (ca1 τ) n then (nI 0, cmW (ca1 τ) n) else (-7, cmW (ca1 τ) n)) else (-8, τ)) else (-2, τ)
def re1 (τ : TS) (j : Nat) (r : Int32) : TS := ts (cpT τ 15 16 64) 3 (64 * 16 + (15 * j + 2)) (gt (cpT τ 15 16 64) 15 (15 * j + 2) - r)
def reP (τ : TS) (n : Nat) (v r : Int32) : Int32 × TS :=
  if tb (τ 0 5) then (if volB τ v && (!decide (r < nI 1) && decide (r ≤ gt τ 15 (15 * v.toNatClampNeg + 2))) then (if fewB τ n then (-3, τ) else if mvB τ v then (-4, τ) else
    if cmB (re1 τ v.toNatClampNeg r) n then (gt (cmW (re1 τ v.toNatClampNeg r) n) 15 (15 * v.toNatClampNeg + 2), cmW (re1 τ v.toNatClampNeg r) n) else (-7, cmW (re1 τ v.toNatClampNeg r) n)) else (-1, τ)) else (-2, τ)
def mo1 (τ : TS) (E : Nat) (v k : Int32) (d : Nat) : TS := ts (ts (ts (cpT τ 15 16 64) 3 (64 * 16 + 60) v) 3 (64 * 16 + 61) k) 3 (64 * 16 + 62) (lfI τ E 15 d)
def moP (τ : TS) (n E : Nat) (v k d : Int32) : Int32 × TS :=
  if tb (τ 0 5) then (if exB τ v k && (!decide (d < 0) && decide (d < nI n)) then (if fewB τ n then (-3, τ) else if gt τ 15 60 < 0 then
    (if tb (τ 1 (gN τ 15 (15 * v.toNatClampNeg + 3 + k.toNatClampNeg) / 16)) && tb (τ 1 d.toNatClampNeg) then (if 0 ≤ lfI τ E 15 d.toNatClampNeg then
      (if cmB (mo1 τ E v k d.toNatClampNeg) n then (nI 0, ts (cmW (mo1 τ E v k d.toNatClampNeg) n) 0 6 (nI 0)) else (-7, cmW (mo1 τ E v k d.toNatClampNeg) n)) else (-5, τ)) else (-6, τ))
    else (-4, τ)) else (-1, τ)) else (-2, τ)
def acT (τ : TS) (num mark : Int32) : Nat → TS
  | 0 => τ
  | d + 1 => if tb (acT τ num mark d 1 d) then (slP (acT τ num mark d) d num mark).2 else acT τ num mark d
theorem slP_6 {τ : TS} {d j : Nat} {num mark : Int32} (h : j ≠ d) : (slP τ d num mark).2 6 j = τ 6 j := by
  unfold slP
  split
  · show stT _ 6 j = _
    rw [stT_row (by decide), seT_6]
  · split
    · show seT _ _ _ _ 6 j = _
      rw [seT_6]
    · show wcT _ _ _ _ _ 6 j = _
      rw [wcT_6 (by unfold nxN; omega), seT_6]
theorem acT_6 (τ : TS) (num mark : Int32) : ∀ d j, d ≤ j → acT τ num mark d 6 j = τ 6 j
  | 0, _, _ => rfl
  | d + 1, j, h => by
    unfold acT
    split
    · rw [slP_6 (by omega), acT_6 τ num mark d j (by omega)]
    · exact acT_6 τ num mark d j (by omega)
def qA (τ : TS) (num mark : Int32) (d : Nat) : Bool := tb (acT τ num mark d 1 d) && !(slP (acT τ num mark d) d num mark).1
def ac1 (τ : TS) (num mark : Int32) : TS := ts (ts (ts (ts (cpT τ 16 15 64) 0 2 num) 0 3 mark) 0 6 (nI 0)) 0 5 (nI 1)
def acQ (τ : TS) (n : Nat) (num mark : Int32) : Int32 × TS := if fsL (qA τ num mark) n < n then (-7, acT τ num mark (fsL (qA τ num mark) n + 1)) else (num, ac1 (acT τ num mark n) num mark)
def acP (τ : TS) (n : Nat) : Int32 × TS := if tb (τ 0 5) then (-9, τ) else (match chL τ n (3 * n) with
  | none => (-3, τ)
  | some b => acQ (cpT τ b 16 64) n (τ 4 b) (τ 5 b))
theorem ac_stop {τ : TS} {n d : Nat} {num mark : Int32} (hG : ∀ j, j < d → qA τ num mark j = false) (hd : d < n) (h1 : tb (acT τ num mark d 1 d) = true) (h2 : (slP (acT τ num mark d) d num mark).1 = false) : acQ τ n num mark = (-7, (slP (acT τ num mark d) d num mark).2) := by
  have hq : qA τ num mark d = true := by
    unfold qA
    rw [h1, h2]
    rfl
  unfold acQ
  rw [fsL_hit hq hG n hd, if_pos hd]
  show (_, if tb (acT τ num mark d 1 d) then _ else _) = _
  rw [h1, if_pos rfl]
theorem ac_done {τ : TS} {n : Nat} {num mark : Int32} (hG : ∀ j, j < n → qA τ num mark j = false) : acQ τ n num mark = (num, ac1 (acT τ num mark n) num mark) := by
  unfold acQ
  rw [fsL_miss hG, if_neg (Nat.lt_irrefl _)]
/-! rows that are added -/
theorem sh_1 : ∀ d, d < 5 → nI 1 <<< (nI d &&& 31) = nI (2 ^ d) := by decide +kernel
theorem or_2' : ∀ d, d < 5 → ∀ a, a < 2 ^ d → nI a ||| nI (2 ^ d) = nI (a + 2 ^ d) := by decide +kernel
theorem or_0' : ∀ a, a < 32 → nI a ||| nI 0 = nI a := by decide +kernel
theorem sh_r : ∀ a, a < 32 → ∀ d, d < 5 → (nI a >>> (nI d &&& 31)) &&& nI 1 = nI (a / 2 ^ d % 2) := by decide +kernel
def mkL (q : Nat → Bool) : Nat → Nat
  | 0 => 0
  | d + 1 => mkL q d + (if q d then 2 ^ d else 0)
theorem mkL_lt (q : Nat → Bool) : ∀ d, mkL q d < 2 ^ d
  | 0 => by show 0 < 1; decide
  | d + 1 => by
    have h := mkL_lt q d
    have h2 : 2 ^ (d + 1) = 2 ^ d + 2 ^ d := by rw [Nat.pow_succ]; omega
    unfold mkL
    split <;> omega
theorem mkL_32 (q : Nat → Bool) {d : Nat} (hd : d ≤ 5) : mkL q d < 32 := Nat.lt_of_lt_of_le (mkL_lt q d) (Nat.pow_le_pow_right (by decide) hd)
theorem mk_bit (q : Nat → Bool) : ∀ n d, d < n → mkL q n / 2 ^ d % 2 = if q d then 1 else 0
  | 0, d, h => absurd h (by omega)
  | n + 1, d, h => by
    have hp : 0 < 2 ^ d := Nat.two_pow_pos d
    by_cases hd : d = n
    · subst hd
      have hl := mkL_lt q d
      unfold mkL
      by_cases hq : q d = true
      · rw [if_pos hq, if_pos hq, Nat.add_div_right _ hp, Nat.div_eq_of_lt hl]
      · rw [if_neg hq, if_neg hq, Nat.add_zero, Nat.div_eq_of_lt hl]
    · have ih := mk_bit q n d (by omega)
      unfold mkL
      by_cases hq : q n = true
      · rw [if_pos hq, ← ih]
        obtain ⟨m, hm⟩ : ∃ m, n = d + (m + 1) := ⟨n - d - 1, by omega⟩
        have h2 : 2 ^ n = 2 ^ d * (2 ^ m * 2) := by rw [hm, Nat.pow_add, Nat.pow_succ]
        rw [h2, Nat.add_mul_div_left _ _ hp, Nat.add_mul_mod_self_right]
      · rw [if_neg hq, Nat.add_zero, ih]
theorem mk_f {q : Nat → Bool} {n d : Nat} (hd : d < n) (h : ¬ mkL q n / 2 ^ d % 2 = 1) : q d = false := by
  rw [mk_bit q n d hd] at h
  cases hq : q d with
  | false => rfl
  | true => rw [hq] at h; exact absurd rfl h
theorem mk_t {q : Nat → Bool} {n d : Nat} (hd : d < n) (h : mkL q n / 2 ^ d % 2 = 1) : q d = true := by
  rw [mk_bit q n d hd] at h
  cases hq : q d with
  | true => rfl
  | false => rw [hq] at h; exact absurd h (by decide)
def fitB (τ : TS) (E d : Nat) : Bool := tb (τ 1 d) && decide (0 < frN τ E 16 d)
def chB (τ : TS) (E n w d : Nat) : Bool := fitB τ E d && decide (cntL n (qB τ E d) < w)
def arT (τ : TS) (E : Nat) (q : Nat → Bool) (a0 : Nat) : Nat → TS
  | 0 => τ
  | d + 1 => if q d then ts (arT τ E q a0 d) 3 (64 * 16 + (a0 + cntL d q)) (lfI (arT τ E q a0 d) E 16 d) else arT τ E q a0 d
abbrev arQ (τ : TS) (n E v : Nat) : Nat → Bool := chB τ E n (gN τ 16 (15 * v))
abbrev arW (τ : TS) (n E v : Nat) : Nat → TS := arT τ E (arQ τ n E v) (15 * v + 3 + exN τ 16 v)
def arP (τ : TS) (n E v : Nat) : Bool × TS := if cntL n (fitB τ E) < gN τ 16 (15 * v) then (false, τ) else (true, ts (arW τ n E v n) 3 (64 * 16 + (15 * v + 2)) (gt (arW τ n E v n) 16 (15 * v + 2) + nI 1))
def ArOk (τ : TS) (n E v : Nat) : Prop := WFm τ 16 ∧ exN τ 16 v ≤ 11 ∧ ∀ d, d ≤ n → WFm (arW τ n E v d) 16
def adT (τ : TS) (n E v : Nat) : Nat → TS
  | 0 => τ
  | i + 1 => (arP (adT τ n E v i) n E v).2
def qR (τ : TS) (n E v i : Nat) : Bool := !(arP (adT τ n E v i) n E v).1
/-- all of r rows are added, then it's committed -/
def adP (τ : TS) (n E v r : Nat) (a : TS → Int32) : Int32 × TS := if fsL (qR τ n E v) r < r then (-5, adT τ n E v (fsL (qR τ n E v) r + 1)) else if cmB (adT τ n E v r) n then (a (cmW (adT τ n E v r) n), cmW (adT τ n E v r) n) else (-7, cmW (adT τ n E v r) n)
theorem ad_stop {τ : TS} {n E v r i : Nat} {a : TS → Int32} (hG : ∀ j, j < i → qR τ n E v j = false) (hi : i < r) (h : (arP (adT τ n E v i) n E v).1 = false) : adP τ n E v r a = (-5, (arP (adT τ n E v i) n E v).2) := by
  have hq : qR τ n E v i = true := by
    unfold qR
    rw [h]
    rfl
  unfold adP
  rw [fsL_hit hq hG r hi, if_pos hi]
  rfl
theorem ad_done {τ : TS} {n E v r : Nat} {a : TS → Int32} (hG : ∀ j, j < r → qR τ n E v j = false) : adP τ n E v r a = if cmB (adT τ n E v r) n then (a (cmW (adT τ n E v r) n), cmW (adT τ n E v r) n) else (-7, cmW (adT τ n E v r) n) := by
  unfold adP
  rw [fsL_miss hG, if_neg (Nat.lt_irrefl _)]
def xtP (τ : TS) (n E : Nat) (v r : Int32) : Int32 × TS :=
  if tb (τ 0 5) then (if volB τ v && (!decide (r < nI 1) && decide (r ≤ nI (12 / gN τ 15 (15 * v.toNatClampNeg) - gN τ 15 (15 * v.toNatClampNeg + 2)))) then (if fewB τ n then (-3, τ) else if mvB τ v then (-4, τ) else
    adP (cpT τ 15 16 64) n E v.toNatClampNeg r.toNatClampNeg (fun σ => gt σ 15 (15 * v.toNatClampNeg + 2))) else (-1, τ)) else (-2, τ)
def qV (τ : TS) (v : Nat) : Bool := decide (gt τ 15 (15 * v + 2) ≤ 0)
def cr0 (τ : TS) (v : Nat) (w c : Int32) : TS := ts (ts (ts (cpT τ 15 16 64) 3 (64 * 16 + 15 * v) w) 3 (64 * 16 + (15 * v + 1)) c) 3 (64 * 16 + (15 * v + 2)) (nI 0)
def shB (w c r : Int32) : Bool := !decide (w < nI 1) && (!decide (nI 4 < w) && (decide (c = nI 1 ∨ c = nI 2 ∨ c = nI 4) && (!decide (r < nI 1) && decide (r ≤ nI (12 / w.toNatClampNeg)))))
def ctP (τ : TS) (n E : Nat) (w c r : Int32) : Int32 × TS :=
  if tb (τ 0 5) then (if shB w c r then (if fewB τ n then (-3, τ) else if fsL (qV τ) 4 < 4 then
    adP (cr0 τ (fsL (qV τ) 4) w c) n E (fsL (qV τ) 4) r.toNatClampNeg (fun _ => nI (fsL (qV τ) 4)) else (-10, τ)) else (-1, τ)) else (-2, τ)
theorem rg_of {w : Int32} {N : Nat} (hN : N < 2 ^ 31) (h1 : ¬ w < nI 1) (h2 : w ≤ nI N) : ∃ j : Nat, 1 ≤ j ∧ j ≤ N ∧ w = nI j ∧ w.toNatClampNeg = j := by
  have h0 : ¬ w < 0 := fun q => h1 (Int32.lt_of_lt_of_le q (by decide))
  obtain ⟨j, hj, rfl⟩ := nI_of h0
  refine ⟨j, ?_, (nI_leI hj hN).mp h2, rfl, nI_clamp hj⟩
  exact Nat.not_lt.mp (fun q => h1 ((nI_ltI hj (by decide)).mpr q))
