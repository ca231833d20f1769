/-! Bringing disks to what is chosen: the state along the way. -/
theorem seT_s {τ : TS} {num : Int32} {d j : Nat} : seT τ num d (j + 1) = if seT τ num d j 4 (3 * d + j) ≤ num then seT τ num d j else ts (ts (stT (seT τ num d j)) 4 (3 * d + j) (nI 0)) 5 (3 * d + j) (nI 0) := rfl
theorem seK_s {τ : TS} {κ : Nat → Option Nat} {num : Int32} {d j : Nat} : seK τ κ num d (j + 1) = if seT τ num d j 4 (3 * d + j) ≤ num then seK τ κ num d j else va_up (seK τ κ num d j) (1 + 3 * d + j) none := rfl
theorem hac_se {τ : TS} {num : Int32} {d : Nat} (hac : tb (τ 0 7) = true → ¬ τ 0 8 < 0) : ∀ j, (∀ i, i < j → qS τ num d i = false) → tb (seT τ num d j 0 7) = true → ¬ seT τ num d j 0 8 < 0
  | 0, _ => hac
  | j + 1, hG => by
    have ih := hac_se hac j (fun i hi => hG i (by omega))
    rw [seT_s]
    split
    · exact ih
    · rename_i hn
      have hq := hG j (by omega)
      have hs : stB (seT τ num d j) = false := by
        unfold qS at hq
        simpa [hn] using hq
      rw [ts_ne (by decide), ts_ne (by decide)]
      exact ac_st ih hs
def brK (τ : TS) (κ : Nat → Option Nat) (d a : Nat) (num mark : Int32) : Nat → Option Nat := if fsL (qS τ num d) 3 < 3 then seK τ κ num d (fsL (qS τ num d) 3) else if hoB (seT τ num d 3) d num mark then seK τ κ num d 3 else pkK (seT τ num d 3) (seK τ κ num d 3) d (wrN (seT τ num d 3) d % 3) a
theorem br_stop {τ : TS} {κ : Nat → Option Nat} {num mark : Int32} {d j a : Nat} (hG : ∀ i, i < j → qS τ num d i = false) (hj : j < 3) (h1 : ¬ seT τ num d j 4 (3 * d + j) ≤ num) (h2 : stB (seT τ num d j) = true) : brK τ κ d a num mark = seK τ κ num d j := by
  have hq : qS τ num d j = true := by
    unfold qS
    rw [h2]
    simp [h1]
  unfold brK
  rw [fsL_hit hq hG 3 hj, if_pos hj]
theorem br_done {τ : TS} {κ : Nat → Option Nat} {num mark : Int32} {d a : Nat} (hG : ∀ i, i < 3 → qS τ num d i = false) : brK τ κ d a num mark = if hoB (seT τ num d 3) d num mark then seK τ κ num d 3 else pkK (seT τ num d 3) (seK τ κ num d 3) d (wrN (seT τ num d 3) d % 3) a := by
  unfold brK
  rw [fsL_miss hG, if_neg (by decide)]
theorem gt11 {x num : Int32} (hn : 0 < num) (h : ¬ x ≤ num) : ¬ x = -11 := pos11 (Int32.lt_trans hn (Int32.not_le.mp h))
theorem se_next {bx rl : Nat → Nat} {ca : Nat → ClassId} {n E d j : Nat} {num : Int32} {τ : TS} {κ : Nat → Option Nat} {tk : Nat → Int32} {h : Nat → Option va_E} (hn : 0 < num) (h1 : ¬ seT τ num d j 4 (3 * d + j) ≤ num) : cw bx rl ca n E (seT τ num d (j + 1)) (seK τ κ num d (j + 1)) tk h = cw bx rl ca n E (stT (seT τ num d j)) (va_up (seK τ κ num d j) (1 + 3 * d + j) none) tk h := by
  rw [seT_s, seK_s, if_neg h1, if_neg h1]
  exact cw_45 (by rw [stT_row (by decide)]; exact gt11 hn h1) (by decide)
theorem se_keep {bx rl : Nat → Nat} {ca : Nat → ClassId} {n E d j : Nat} {num : Int32} {τ : TS} {κ : Nat → Option Nat} {tk : Nat → Int32} {h : Nat → Option va_E} (h1 : seT τ num d j 4 (3 * d + j) ≤ num) : cw bx rl ca n E (seT τ num d (j + 1)) (seK τ κ num d (j + 1)) tk h = cw bx rl ca n E (seT τ num d j) (seK τ κ num d j) tk h := by
  rw [seT_s, seK_s, if_pos h1, if_pos h1]
theorem sl_le {τ : TS} {κ : Nat → Option Nat} {h : Nat → Option va_E} {d i : Nat} {num : Int32} (hs : SlOk τ κ h d i) (hn : 0 < num) (hk : κ (1 + 3 * d + i) = none) : τ 4 (3 * d + i) ≤ num := by
  rcases hs with ⟨-, h2⟩ | ⟨a, q, h1, -⟩
  · exact Int32.le_of_lt (Int32.lt_of_le_of_lt (Int32.not_lt.mp h2) hn)
  · rw [hk] at h1; cases h1
def acK (τ : TS) (κ : Nat → Option Nat) (a : Nat) (num mark : Int32) : Nat → Nat → Option Nat
  | 0 => κ
  | d + 1 => if tb (acT τ num mark d 1 d) then brK (acT τ num mark d) (acK τ κ a num mark d) d a num mark else acK τ κ a num mark d
theorem acT_s {τ : TS} {num mark : Int32} {d : Nat} : acT τ num mark (d + 1) = if tb (acT τ num mark d 1 d) then (slP (acT τ num mark d) d num mark).2 else acT τ num mark d := rfl
theorem acK_s {τ : TS} {κ : Nat → Option Nat} {num mark : Int32} {a d : Nat} : acK τ κ a num mark (d + 1) = if tb (acT τ num mark d 1 d) then brK (acT τ num mark d) (acK τ κ a num mark d) d a num mark else acK τ κ a num mark d := rfl
theorem seT_45 {τ : TS} {num : Int32} {d s : Nat} (hs : s / 3 ≠ d) : ∀ j, j ≤ 3 → seT τ num d j 4 s = τ 4 s ∧ seT τ num d j 5 s = τ 5 s
  | 0, _ => ⟨rfl, rfl⟩
  | j + 1, hj => by
    have ih := seT_45 (τ := τ) (num := num) hs j (by omega)
    rw [seT_s]
    split
    · exact ih
    · rw [ts_ne (by decide), ts_off (by omega), ts_off (by omega), ts_ne (by decide), stT_row (by decide), stT_row (by decide)]
      exact ih
theorem seK_k {τ : TS} {κ : Nat → Option Nat} {num : Int32} {d s : Nat} (hs : s / 3 ≠ d) : ∀ j, j ≤ 3 → seK τ κ num d j (1 + s) = κ (1 + s)
  | 0, _ => rfl
  | j + 1, hj => by
    have ih := seK_k (τ := τ) (κ := κ) (num := num) hs j (by omega)
    rw [seK_s]
    split
    · exact ih
    · rw [va_up_ne _ _ (by omega)]
      exact ih
theorem wcT_45 {τ : TS} {k mp s : Nat} {num mark : Int32} (hs : s ≠ k) : wcT τ k mp num mark 4 s = τ 4 s ∧ wcT τ k mp num mark 5 s = τ 5 s := by
  unfold wcT wc1
  split <;> rw [ts_ne (show (4 : Nat) ≠ 5 by decide), ts_off hs, ts_off hs, ts_ne (show (5 : Nat) ≠ 4 by decide), cpT_row (by decide), cpT_row (by decide), ts_ne (by decide), ts_ne (by decide), stT_row (by decide), stT_row (by decide)] <;> exact ⟨rfl, rfl⟩
theorem slP_45 {τ : TS} {d s : Nat} {num mark : Int32} (hs : s / 3 ≠ d) : (slP τ d num mark).2 4 s = τ 4 s ∧ (slP τ d num mark).2 5 s = τ 5 s := by
  unfold slP
  split
  · show stT _ 4 s = _ ∧ stT _ 5 s = _
    rw [stT_row (by decide), stT_row (by decide)]
    exact seT_45 hs _ (fsL_le _ _)
  · split
    · exact seT_45 hs 3 (by decide)
    · have h1 := seT_45 (τ := τ) (num := num) hs 3 (by decide)
      have h2 := wcT_45 (τ := seT τ num d 3) (k := nxN (seT τ num d 3) d) (mp := 16) (num := num) (mark := mark) (s := s) (by unfold nxN; omega)
      exact ⟨h2.1.trans h1.1, h2.2.trans h1.2⟩
theorem brK_k {τ : TS} {κ : Nat → Option Nat} {d a s : Nat} {num mark : Int32} (hs : s / 3 ≠ d) : brK τ κ d a num mark (1 + s) = κ (1 + s) := by
  unfold brK
  split
  · exact seK_k hs _ (fsL_le _ _)
  · split
    · exact seK_k hs 3 (by decide)
    · unfold pkK
      rw [va_up_ne _ _ (by omega)]
      exact seK_k hs 3 (by decide)
theorem brK_0 {τ : TS} {κ : Nat → Option Nat} {d a : Nat} {num mark : Int32} : brK τ κ d a num mark 0 = κ 0 := by
  have hse : ∀ j, seK τ κ num d j 0 = κ 0 := fun j => by
    induction j with
    | zero => rfl
    | succ j ih =>
      rw [seK_s]
      split
      · exact ih
      · rw [va_up_ne _ _ (by omega)]
        exact ih
  unfold brK
  split
  · exact hse _
  · split
    · exact hse _
    · unfold pkK
      rw [va_up_ne _ _ (by omega)]
      exact hse _
theorem ac_rest (τ : TS) (κ : Nat → Option Nat) (a : Nat) (num mark : Int32) : ∀ d s, d ≤ s / 3 → (acT τ num mark d 4 s = τ 4 s ∧ acT τ num mark d 5 s = τ 5 s) ∧ acK τ κ a num mark d (1 + s) = κ (1 + s)
  | 0, s, _ => ⟨⟨rfl, rfl⟩, rfl⟩
  | d + 1, s, h => by
    have ih := ac_rest τ κ a num mark d s (by omega)
    rw [acT_s, acK_s]
    split
    · have h1 := slP_45 (τ := acT τ num mark d) (num := num) (mark := mark) (d := d) (s := s) (by omega)
      have h2 := brK_k (τ := acT τ num mark d) (κ := acK τ κ a num mark d) (a := a) (num := num) (mark := mark) (d := d) (s := s) (by omega)
      exact ⟨⟨h1.1.trans ih.1.1, h1.2.trans ih.1.2⟩, h2.trans ih.2⟩
    · exact ih
theorem acSl {τ : TS} {κ : Nat → Option Nat} {h : Nat → Option va_E} {a d i : Nat} {num mark : Int32} (hS : SlOk τ κ h d i) (hi : i < 3) : SlOk (acT τ num mark d) (acK τ κ a num mark d) h d i := by
  have h1 := ac_rest τ κ a num mark d (3 * d + i) (by omega)
  have e1 : 1 + (3 * d + i) = 1 + 3 * d + i := by omega
  rw [e1] at h1
  unfold SlOk
  rw [h1.1.1, h1.1.2, h1.2]
  exact hS
theorem sl_hac {τ : TS} {num mark : Int32} {d : Nat} (hac : tb (τ 0 7) = true → ¬ τ 0 8 < 0) (hb : (slP τ d num mark).1 = true) : tb ((slP τ d num mark).2 0 7) = true → ¬ (slP τ d num mark).2 0 8 < 0 := by
  unfold slP at hb ⊢
  split at hb
  · cases hb
  · rename_i hf
    have hG : ∀ i, i < 3 → qS τ num d i = false := fun i hi => by
      cases hq : qS τ num d i with
      | false => rfl
      | true => exact absurd ((fsL_lt 3).mpr ⟨i, hi, hq⟩) hf
    have h3 := hac_se (num := num) (d := d) hac 3 hG
    rw [if_neg hf]
    split at hb
    · rename_i hh
      rw [if_pos hh]
      exact h3
    · rename_i hh
      rw [if_neg hh]
      have hs : stB (seT τ num d 3) = false := by simpa using hb
      show tb (wcT _ _ _ _ _ 0 7) = true → ¬ wcT _ _ _ _ _ 0 8 < 0
      unfold wcT wc1
      rw [if_neg (by rw [hs]; decide), ts_ne (by decide), ts_ne (by decide), cpT_row (by decide), ts_ne (by decide)]
      exact ac_st h3 hs
theorem ac_hac {τ : TS} {num mark : Int32} (hac : tb (τ 0 7) = true → ¬ τ 0 8 < 0) : ∀ d, (∀ j, j < d → qA τ num mark j = false) → tb (acT τ num mark d 0 7) = true → ¬ acT τ num mark d 0 8 < 0
  | 0, _ => hac
  | d + 1, hG => by
    have ih := ac_hac hac d (fun j hj => hG j (by omega))
    rw [acT_s]
    split
    · rename_i h1
      have hq := hG d (by omega)
      unfold qA at hq
      rw [h1] at hq
      exact sl_hac ih (by simpa using hq)
    · exact ih
def aqK (τ : TS) (κ : Nat → Option Nat) (n a : Nat) (num mark : Int32) : Nat → Option Nat := if fsL (qA τ num mark) n < n then acK τ κ a num mark (fsL (qA τ num mark) n + 1) else va_up (acK τ κ a num mark n) 0 (some a)
def apK (τ : TS) (κ : Nat → Option Nat) (n : Nat) : Nat → Option Nat := if tb (τ 0 5) then κ else (match chL τ n (3 * n) with
  | none => κ
  | some b => aqK (cpT τ b 16 64) κ n ((κ (1 + b)).getD 0) (τ 4 b) (τ 5 b))
theorem aq_stop {τ : TS} {κ : Nat → Option Nat} {n d a : Nat} {num mark : Int32} (hG : ∀ j, j < d → qA τ num mark j = false) (hd : d < n) (h1 : tb (acT τ num mark d 1 d) = true) (h2 : (slP (acT τ num mark d) d num mark).1 = false) : aqK τ κ n a num mark = brK (acT τ num mark d) (acK τ κ a num mark d) d a num mark := by
  have hq : qA τ num mark d = true := by
    unfold qA
    rw [h1, h2]
    rfl
  unfold aqK
  rw [fsL_hit hq hG n hd, if_pos hd, acK_s, h1, if_pos rfl]
theorem aq_done {τ : TS} {κ : Nat → Option Nat} {n a : Nat} {num mark : Int32} (hG : ∀ j, j < n → qA τ num mark j = false) : aqK τ κ n a num mark = va_up (acK τ κ a num mark n) 0 (some a) := by
  unfold aqK
  rw [fsL_miss hG, if_neg (Nat.lt_irrefl _)]
theorem ac_next {bx rl : Nat → Nat} {ca : Nat → ClassId} {n E d a : Nat} {num mark : Int32} {τ : TS} {κ : Nat → Option Nat} {tk : Nat → Int32} {h : Nat → Option va_E} (h1 : tb (acT τ num mark d 1 d) = true) : cw bx rl ca n E (acT τ num mark (d + 1)) (acK τ κ a num mark (d + 1)) tk h = cw bx rl ca n E (slP (acT τ num mark d) d num mark).2 (brK (acT τ num mark d) (acK τ κ a num mark d) d a num mark) tk h := by
  rw [acT_s, acK_s, h1, if_pos rfl, if_pos rfl]
theorem ac_keep {bx rl : Nat → Nat} {ca : Nat → ClassId} {n E d a : Nat} {num mark : Int32} {τ : TS} {κ : Nat → Option Nat} {tk : Nat → Int32} {h : Nat → Option va_E} (h1 : tb (acT τ num mark d 1 d) = false) : cw bx rl ca n E (acT τ num mark (d + 1)) (acK τ κ a num mark (d + 1)) tk h = cw bx rl ca n E (acT τ num mark d) (acK τ κ a num mark d) tk h := by
  rw [acT_s, acK_s, h1, if_neg (by decide), if_neg (by decide)]
theorem cw_ac1 {bx rl : Nat → Nat} {ca : Nat → ClassId} {n E : Nat} {num mark : Int32} {τ : TS} {κ : Nat → Option Nat} {tk : Nat → Int32} {h : Nat → Option va_E} : cw bx rl ca n E (ts (ts τ 0 6 (nI 0)) 0 5 (nI 1)) κ tk h = cw bx rl ca n E (ac1 τ num mark) κ tk h := by
  have e0 : ∀ j, j ≠ 2 → j ≠ 3 → (ts (ts τ 0 6 (nI 0)) 0 5 (nI 1)) 0 j = (ac1 τ num mark) 0 j := fun j h2 h3 => by
    unfold ac1
    by_cases h5 : j = 5
    · subst h5
      rw [ts_at, ts_at]
    · rw [ts_off h5, ts_off h5]
      by_cases h6 : j = 6
      · subst h6
        rw [ts_at, ts_at]
      · rw [ts_off h6, ts_off h6, ts_off h3, ts_off h2, cpT_row (by decide)]
  have er : ∀ r, r ≠ 0 → r ≠ 3 → (ts (ts τ 0 6 (nI 0)) 0 5 (nI 1)) r = (ac1 τ num mark) r := fun r h0 h3 => by
    unfold ac1
    rw [ts_ne h0, ts_ne h0, ts_ne h0, ts_ne h0, ts_ne h0, ts_ne h0, cpT_row h3]
  refine cw_same ?_ (er 1 (by decide) (by decide)) (er 2 (by decide) (by decide)) (cw_t_eq (er 4 (by decide) (by decide))) (er 6 (by decide) (by decide))
  unfold cw_e acI
  rw [e0 4 (by decide) (by decide), e0 5 (by decide) (by decide), e0 6 (by decide) (by decide), e0 7 (by decide) (by decide), e0 8 (by decide) (by decide)]
