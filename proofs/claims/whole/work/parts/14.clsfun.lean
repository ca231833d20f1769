/-! What the class's small methods answer. -/
def SlOk (τ : TS) (κ : Nat → Option Nat) (h : Nat → Option va_E) (d i : Nat) : Prop := (κ (1 + 3 * d + i) = none ∧ ¬ 0 < τ 4 (3 * d + i)) ∨ ∃ a q, κ (1 + 3 * d + i) = some a ∧ 0 < τ 4 (3 * d + i) ∧ h a = some (.inr (0, [.int (τ 4 (3 * d + i)), .int (τ 5 (3 * d + i)), .ref q]))
theorem SlOk.some {τ : TS} {κ : Nat → Option Nat} {h : Nat → Option va_E} {d i a : Nat} (hs : SlOk τ κ h d i) (ha : κ (1 + 3 * d + i) = some a) : ∃ q, 0 < τ 4 (3 * d + i) ∧ h a = some (.inr (0, [.int (τ 4 (3 * d + i)), .int (τ 5 (3 * d + i)), .ref q])) := by
  rcases hs with ⟨h1, -⟩ | ⟨a', q, h1, h2, h3⟩
  · rw [ha] at h1; cases h1
  · rw [ha] at h1
    cases h1
    exact ⟨q, h2, h3⟩
def qW (τ : TS) (κ : Nat → Option Nat) (d : Nat) (nb sb : Int32) (i : Nat) : Bool := (κ (1 + 3 * d + i)).isSome && (decide (τ 4 (3 * d + i) = nb) && decide (τ 5 (3 * d + i) = sb))
def swI (τ : TS) (κ : Nat → Option Nat) (d : Nat) (nb sb : Int32) : Int32 := if fsL (qW τ κ d nb sb) 3 < 3 then nI (fsL (qW τ κ d nb sb) 3) else -1
theorem sw_hit {τ : TS} {κ : Nat → Option Nat} {d i : Nat} {nb sb : Int32} (hG : ∀ j, j < i → qW τ κ d nb sb j = false) (hq : qW τ κ d nb sb i = true) (hi : i < 3) : nI i = swI τ κ d nb sb := by
  unfold swI
  rw [fsL_hit hq hG 3 hi, if_pos hi]
theorem sw_miss {τ : TS} {κ : Nat → Option Nat} {d : Nat} {nb sb : Int32} (hG : ∀ j, j < 3 → qW τ κ d nb sb j = false) : -1 = swI τ κ d nb sb := by
  unfold swI
  rw [fsL_miss hG, if_neg (by decide)]
def bhN (τ : TS) (κ : Nat → Option Nat) (d : Nat) (nb sb : Int32) : Nat := if fsL (qW τ κ d nb sb) 3 < 3 then (fsL (qW τ κ d nb sb) 3 + 1) % 3 else wrN τ d % 3
theorem swI_some {τ : TS} {κ : Nat → Option Nat} {d : Nat} {nb sb : Int32} (h : ¬ swI τ κ d nb sb = -1) : ∃ q, q < 3 ∧ nI q = swI τ κ d nb sb ∧ (q + 1) % 3 = bhN τ κ d nb sb := by
  unfold swI at h
  split at h
  · rename_i hq
    refine ⟨_, hq, ?_, ?_⟩
    · unfold swI
      rw [if_pos hq]
    · unfold bhN
      rw [if_pos hq]
  · exact absurd rfl h
theorem swI_none {τ : TS} {κ : Nat → Option Nat} {d : Nat} {nb sb : Int32} (h : swI τ κ d nb sb = -1) : wrN τ d % 3 = bhN τ κ d nb sb := by
  unfold bhN
  split
  · rename_i hq
    unfold swI at h
    rw [if_pos hq] at h
    have h3 : ∀ q, q < 3 → ¬ nI q = -1 := by decide +kernel
    exact absurd h (h3 _ hq)
  · rfl
def vaQ (g : Nat → Option Nat) (v : Int32) : Option Nat := if v < 0 ∨ nI 4 ≤ v then none else g v.toNatClampNeg
def laI (g : Nat → Option Nat) : Int32 := if fsL (fun i => (g i).isNone) 4 < 4 then nI (fsL (fun i => (g i).isNone) 4) else -1
theorem la_hit {g : Nat → Option Nat} {i : Nat} (hG : ∀ j, j < i → (fun i => (g i).isNone) j = false) (hq : (g i).isNone = true) (hi : i < 4) : nI i = laI g := by
  unfold laI
  rw [fsL_hit (q := fun i => (g i).isNone) hq hG 4 hi, if_pos hi]
theorem la_miss {g : Nat → Option Nat} (hG : ∀ j, j < 4 → (fun i => (g i).isNone) j = false) : -1 = laI g := by
  unfold laI
  rw [fsL_miss hG, if_neg (by decide)]
theorem cw_eq {bx rl : Nat → Nat} {ca : Nat → ClassId} {n E : Nat} {τ τ' : TS} {κ : Nat → Option Nat} {tk : Nat → Int32} {h : Nat → Option va_E} (h0 : cw_e bx E τ' κ = cw_e bx E τ κ) (hτ : τ' 1 = τ 1 ∧ τ' 2 = τ 2 ∧ τ' 4 = τ 4 ∧ τ' 6 = τ 6) : cw bx rl ca n E τ' κ tk h = cw bx rl ca n E τ κ tk h := by
  have hc : cw_c bx ca n E τ' κ tk = cw_c bx ca n E τ κ tk := by
    funext j
    by_cases hj : j = 0
    · subst hj
      show (Sum.inr (4, cw_e bx E τ' κ) : va_E) = _
      rw [h0]
      rfl
    · exact cw_others hτ (fun _ => rfl) j hj
  unfold cw
  rw [hc]
/-- the armed stop, as both sides keep it -/
theorem ac_0 {τ : TS} (h : acI τ = 0) : stB τ = true := by
  unfold acI at h
  split at h
  · rename_i ha
    unfold stB
    rw [ha, h]
    rfl
  · exact absurd h (by decide)
theorem ac_n {τ : TS} (h : ¬ acI τ = 0) : stB τ = false := by
  unfold acI at h
  unfold stB
  split at h
  · rename_i ha
    simp [h]
  · rename_i ha
    simp [ha]
def goT (τ : TS) : TS := ts (ts τ 0 5 (nI 0)) 0 7 (nI 0)
theorem stT_rows (τ : TS) : stT τ 1 = τ 1 ∧ stT τ 2 = τ 2 ∧ stT τ 4 = τ 4 ∧ stT τ 6 = τ 6 := ⟨stT_row (by decide), stT_row (by decide), stT_row (by decide), stT_row (by decide)⟩
theorem goT_rows (τ : TS) : goT τ 1 = τ 1 ∧ goT τ 2 = τ 2 ∧ goT τ 4 = τ 4 ∧ goT τ 6 = τ 6 := ⟨rfl, rfl, rfl, rfl⟩
theorem go_st {bx rl : Nat → Nat} {ca : Nat → ClassId} {n E : Nat} {τ : TS} {κ : Nat → Option Nat} {tk : Nat → Int32} {h : Nat → Option va_E} (hs : stB τ = true) : cw bx rl ca n E (goT τ) κ tk h = cw bx rl ca n E (stT τ) κ tk h := by
  refine cw_eq ?_ ?_
  · unfold stT
    rw [if_pos hs]
    rfl
  · have h1 := stT_rows τ
    rw [h1.1, h1.2.1, h1.2.2.1, h1.2.2.2]
    exact goT_rows τ
theorem un_st {bx rl : Nat → Nat} {ca : Nat → ClassId} {n E : Nat} {τ : TS} {κ : Nat → Option Nat} {tk : Nat → Int32} {h : Nat → Option va_E} (ha : tb (τ 0 7) = false) : cw bx rl ca n E τ κ tk h = cw bx rl ca n E (stT τ) κ tk h := by
  have hs : stB τ = false := by simp [stB, ha]
  refine (cw_eq ?_ (stT_rows τ)).symm
  unfold stT
  rw [if_neg (by rw [hs]; decide)]
  have h7 : (ts τ 0 8 (τ 0 8 - nI 1)) 0 7 = τ 0 7 := ts_off (by decide)
  unfold cw_e acI
  rw [h7, ha]
  rfl
theorem ac_le {τ : TS} (ha : tb (τ 0 7) = true → ¬ τ 0 8 < 0) (h0 : ¬ acI τ = 0) (h1 : acI τ ≤ 0) : tb (τ 0 7) = false := by
  cases hb : tb (τ 0 7) with
  | false => rfl
  | true =>
    have e1 : acI τ = τ 0 8 := by unfold acI; rw [hb]; rfl
    rw [e1] at h0 h1
    rcases Int32.le_iff_lt_or_eq.mp h1 with h2 | h2
    · exact absurd h2 (ha hb)
    · exact absurd h2 h0
theorem ac_gt {bx : Nat → Nat} {E : Nat} {τ : TS} {κ : Nat → Option Nat} (h0 : ¬ acI τ = 0) (h1 : ¬ acI τ ≤ 0) : cw_e bx E (stT τ) κ = (cw_e bx E τ κ).set 7 (.int (acI τ - nI 1)) := by
  have hb : tb (τ 0 7) = true := by
    cases hb : tb (τ 0 7) with
    | true => rfl
    | false =>
      have : acI τ = -1 := by unfold acI; rw [hb]; rfl
      rw [this] at h1
      exact absurd (by decide) h1
  have e1 : acI τ = τ 0 8 := by unfold acI; rw [hb]; rfl
  have hs := ac_n h0
  unfold stT
  rw [if_neg (by rw [hs]; decide), e1]
  have h7 : (ts τ 0 8 (τ 0 8 - nI 1)) 0 7 = τ 0 7 := ts_off (by decide)
  have e2 : acI (ts τ 0 8 (τ 0 8 - nI 1)) = τ 0 8 - nI 1 := by unfold acI; rw [h7, hb]; rfl
  unfold cw_e
  rw [e2]
  rfl
def pcT (τ : TS) (p c : Nat) (v : Int32) : TS := if stB τ then stT τ else ts (stT τ) 2 (caN p c) v
