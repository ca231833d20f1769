/-! What is chosen, and how a disk is brought to it: the class's way against the reference's. -/
def cbQ (τ : TS) (κ : Nat → Option Nat) (n s : Nat) : Option Nat := (chL τ n s).bind (fun b => κ (1 + b))
theorem sl_flat {τ : TS} {κ : Nat → Option Nat} {h : Nat → Option va_E} {n s : Nat} (hS : ∀ d, d < n → ∀ i, i < 3 → SlOk τ κ h d i) (hs : s < 3 * n) : (κ (1 + s) = none ∧ ¬ 0 < τ 4 s) ∨ ∃ a q, κ (1 + s) = some a ∧ 0 < τ 4 s ∧ h a = some (.inr (0, [.int (τ 4 s), .int (τ 5 s), .ref q])) := by
  have h1 := hS (s / 3) (by omega) (s % 3) (by omega)
  unfold SlOk at h1
  have e1 : 3 * (s / 3) + s % 3 = s := by omega
  have e2 : 1 + 3 * (s / 3) + s % 3 = 1 + s := by omega
  rw [e1, e2] at h1
  exact h1
theorem chL_may (τ : TS) (n : Nat) : ∀ k b, chL τ n k = some b → mayB τ n b = true
  | 0, b, h => by simp [chL] at h
  | k + 1, b, h => by
    unfold chL at h
    split at h
    · rename_i hm
      split at h
      · cases h; exact hm
      · split at h
        · cases h
          exact chL_may τ n k _ (by assumption)
        · cases h; exact hm
    · exact chL_may τ n k b h
theorem may_pos {τ : TS} {n s : Nat} (h : mayB τ n s = true) : 0 < τ 4 s := by
  unfold mayB at h
  simp only [Bool.and_eq_true, Bool.not_eq_true', decide_eq_false_iff_not] at h
  exact Int32.not_le.mp h.2.1
theorem cb_some {τ : TS} {κ : Nat → Option Nat} {h : Nat → Option va_E} {n s a : Nat} (hS : ∀ d, d < n → ∀ i, i < 3 → SlOk τ κ h d i) (hs : s ≤ 3 * n) (hq : cbQ τ κ n s = some a) : ∃ b q, chL τ n s = some b ∧ b < s ∧ κ (1 + b) = some a ∧ 0 < τ 4 b ∧ h a = some (.inr (0, [.int (τ 4 b), .int (τ 5 b), .ref q])) := by
  unfold cbQ at hq
  cases hc : chL τ n s with
  | none => rw [hc] at hq; cases hq
  | some b =>
    rw [hc] at hq
    have hb := chL_lt τ n s b hc
    have hk : κ (1 + b) = some a := hq
    rcases sl_flat hS (show b < 3 * n by omega) with ⟨h1, -⟩ | ⟨a', q, h1, h2, h3⟩
    · rw [hk] at h1; cases h1
    · rw [hk] at h1
      cases h1
      exact ⟨b, q, rfl, hb, hk, h2, h3⟩
theorem cb_none {τ : TS} {κ : Nat → Option Nat} {h : Nat → Option va_E} {n s : Nat} (hS : ∀ d, d < n → ∀ i, i < 3 → SlOk τ κ h d i) (hs : s ≤ 3 * n) (hq : cbQ τ κ n s = none) : chL τ n s = none := by
  cases hc : chL τ n s with
  | none => rfl
  | some b =>
    unfold cbQ at hq
    rw [hc] at hq
    have hk : κ (1 + b) = none := hq
    have hb := chL_lt τ n s b hc
    rcases sl_flat hS (show b < 3 * n by omega) with ⟨-, h1⟩ | ⟨a', q, h1, -⟩
    · exact absurd (may_pos (chL_may τ n s b hc)) h1
    · rw [hk] at h1; cases h1
theorem cb_skip {τ : TS} {κ : Nat → Option Nat} {n s : Nat} (hm : mayB τ n s = false) : cbQ τ κ n (s + 1) = cbQ τ κ n s := by
  unfold cbQ
  rw [show chL τ n (s + 1) = chL τ n s by rw [chL, hm]; rfl]
theorem cb_first {τ : TS} {κ : Nat → Option Nat} {n s : Nat} (hm : mayB τ n s = true) (hn : chL τ n s = none) : cbQ τ κ n (s + 1) = κ (1 + s) := by
  unfold cbQ
  rw [show chL τ n (s + 1) = some s by rw [chL, hm, hn]; rfl]
  rfl
theorem cb_gt {τ : TS} {κ : Nat → Option Nat} {n s b : Nat} (hm : mayB τ n s = true) (hn : chL τ n s = some b) (hg : ¬ τ 4 s ≤ τ 4 b) : cbQ τ κ n (s + 1) = κ (1 + s) := by
  unfold cbQ
  rw [show chL τ n (s + 1) = some s by rw [chL, hm, hn]; show (if τ 4 s ≤ τ 4 b then some b else some s) = _; rw [if_neg hg]]
  rfl
theorem cb_le {τ : TS} {κ : Nat → Option Nat} {n s b : Nat} (hn : chL τ n s = some b) (hg : τ 4 s ≤ τ 4 b) : cbQ τ κ n (s + 1) = cbQ τ κ n s := by
  cases hm : mayB τ n s with
  | false => exact cb_skip hm
  | true =>
    unfold cbQ
    rw [show chL τ n (s + 1) = chL τ n s by rw [chL, hm, hn]; show (if τ 4 s ≤ τ 4 b then some b else some s) = _; rw [if_pos hg]]
theorem cb_abs {τ : TS} {κ : Nat → Option Nat} {n d : Nat} (ha : tb (τ 1 d) = false) : ∀ k, k ≤ 3 → cbQ τ κ n (3 * (d + 1)) = cbQ τ κ n (3 * d + k) := by
  have hm : ∀ k, k < 3 → mayB τ n (3 * d + k) = false := fun k hk => by
    unfold mayB
    rw [show (3 * d + k) / 3 = d by omega, ha]
    rfl
  have h3 : cbQ τ κ n (3 * (d + 1)) = cbQ τ κ n (3 * d + 3) := rfl
  have e2 : cbQ τ κ n (3 * d + 3) = cbQ τ κ n (3 * d + 2) := cb_skip (hm 2 (by decide))
  have e1 : cbQ τ κ n (3 * d + 2) = cbQ τ κ n (3 * d + 1) := cb_skip (hm 1 (by decide))
  have e0 : cbQ τ κ n (3 * d + 1) = cbQ τ κ n (3 * d + 0) := cb_skip (hm 0 (by decide))
  intro k hk
  rcases (show k = 0 ∨ k = 1 ∨ k = 2 ∨ k = 3 by omega) with rfl | rfl | rfl | rfl
  · rw [h3, e2, e1, e0]
  · rw [h3, e2, e1]
  · rw [h3, e2]
  · rw [h3]
theorem fsL_lt {q : Nat → Bool} : ∀ n, fsL q n < n ↔ ∃ i, i < n ∧ q i = true
  | n => by
    constructor
    · intro h
      refine Classical.byContradiction fun hn => ?_
      have h1 : ∀ j, j < n → q j = false := fun j hj => by
        cases hq : q j with
        | false => rfl
        | true => exact absurd ⟨j, hj, hq⟩ hn
      rw [fsL_miss h1] at h
      omega
    · intro h
      obtain ⟨k, ⟨hk, hq⟩, hm⟩ := pk_least (fun i => i < n ∧ q i = true) h
      have h1 : ∀ j, j < k → q j = false := fun j hj => by
        cases hq2 : q j with
        | false => rfl
        | true => exact absurd ⟨by omega, hq2⟩ (hm j hj)
      rw [fsL_hit hq h1 n hk]
      exact hk
theorem sw_ho {τ : TS} {κ : Nat → Option Nat} {h : Nat → Option va_E} {d : Nat} {num mark : Int32} (hS : ∀ i, i < 3 → SlOk τ κ h d i) (hn : 0 < num) : decide (fsL (qW τ κ d num mark) 3 < 3) = hoB τ d num mark := by
  have h1 : ∀ i, i < 3 → qW τ κ d num mark i = qO τ d num mark i := fun i hi => by
    unfold qW qO
    rcases hS i hi with ⟨h1, h2⟩ | ⟨a, q, h1, h2, h3⟩
    · rw [h1, decide_eq_false (fun q => h2 (by rw [q]; exact hn))]
      rfl
    · rw [h1]
      rfl
  rw [Bool.eq_iff_iff, decide_eq_true_iff, fsL_lt]
  unfold hoB
  rw [orA_iff]
  constructor
  · rintro ⟨i, hi, hq⟩
    exact Or.inr ⟨i, hi, by rw [← h1 i hi]; exact hq⟩
  · rintro (h2 | ⟨i, hi, hq⟩)
    · cases h2
    · exact ⟨i, hi, by rw [h1 i hi]; exact hq⟩
theorem hold_eq {τ : TS} {κ : Nat → Option Nat} {h : Nat → Option va_E} {n s : Nat} (hS : ∀ d, d < n → ∀ i, i < 3 → SlOk τ κ h d i) (hn : 0 < τ 4 s) : cntL n (qP τ κ (τ 4 s) (τ 5 s)) = cntL n (qN τ s) := cntL_congr fun d hd => by
  unfold qP qN
  rw [sw_ho (hS d hd) hn]
theorem may_of {τ : TS} {κ : Nat → Option Nat} {h : Nat → Option va_E} {n d k : Nat} {b : Bool} (hk : k < 3) (hS : ∀ d, d < n → ∀ i, i < 3 → SlOk τ κ h d i) (hn : 0 < τ 4 (3 * d + k)) (ha : tb (τ 1 d) = true) (hq : quB n (cntL n (qP τ κ (τ 4 (3 * d + k)) (τ 5 (3 * d + k)))) = b) : mayB τ n (3 * d + k) = b := by
  unfold mayB
  rw [show (3 * d + k) / 3 = d by omega, ha, ← hold_eq hS hn, hq, decide_eq_false (Int32.not_le.mpr hn)]
  cases b <;> rfl
theorem may_0 {τ : TS} {n s : Nat} (h : ¬ 0 < τ 4 s) : mayB τ n s = false := by
  cases hm : mayB τ n s with
  | false => rfl
  | true => exact absurd (may_pos hm) h
/-- the slots of a disk behind the dropping of greater numbers -/
def seK (τ : TS) (κ : Nat → Option Nat) (num : Int32) (d : Nat) : Nat → Nat → Option Nat
  | 0 => κ
  | j + 1 => if seT τ num d j 4 (3 * d + j) ≤ num then seK τ κ num d j else va_up (seK τ κ num d j) (1 + 3 * d + j) none
theorem seSl {τ : TS} {κ : Nat → Option Nat} {h : Nat → Option va_E} {num : Int32} {d : Nat} (hS : ∀ i, i < 3 → SlOk τ κ h d i) : ∀ j, j ≤ 3 → ∀ i, i < 3 → SlOk (seT τ num d j) (seK τ κ num d j) h d i
  | 0, _, i, hi => hS i hi
  | j + 1, hj, i, hi => by
    have ih := seSl (num := num) hS j (by omega) i hi
    unfold seT seK
    split
    · exact ih
    · by_cases hij : i = j
      · subst hij
        refine Or.inl ⟨va_up_self _ _ _, ?_⟩
        rw [ts_ne (by decide), ts_at]
        decide
      · unfold SlOk
        rw [va_up_ne _ _ (by omega), ts_ne (by decide), ts_off (by omega), ts_off (by omega), ts_ne (by decide), stT_row (by decide), stT_row (by decide)]
        exact ih
theorem ho_sw {τ : TS} {κ : Nat → Option Nat} {h : Nat → Option va_E} {d : Nat} {num mark : Int32} (hS : ∀ i, i < 3 → SlOk τ κ h d i) (hn : 0 < num) (hq : swI τ κ d num mark = -1) : hoB τ d num mark = false := by rw [← sw_ho hS hn]; exact sw_f hq
theorem ho_sw' {τ : TS} {κ : Nat → Option Nat} {h : Nat → Option va_E} {d : Nat} {num mark : Int32} (hS : ∀ i, i < 3 → SlOk τ κ h d i) (hn : 0 < num) (hq : ¬ swI τ κ d num mark = -1) : hoB τ d num mark = true := by rw [← sw_ho hS hn]; exact sw_t hq
/-- worlds that tell the same of the skeleton -/
theorem cw_same {bx rl : Nat → Nat} {ca : Nat → ClassId} {n E : Nat} {τ τ' : TS} {κ : Nat → Option Nat} {tk : Nat → Int32} {h : Nat → Option va_E} (h0 : cw_e bx E τ' κ = cw_e bx E τ κ) (h1 : τ' 1 = τ 1) (h2 : τ' 2 = τ 2) (h4 : cw_t τ' = cw_t τ) (h6 : τ' 6 = τ 6) : cw bx rl ca n E τ' κ tk h = cw bx rl ca n E τ κ tk h := by
  have hc : cw_c bx ca n E τ' κ tk = cw_c bx ca n E τ κ tk := by
    funext j
    match j with
    | 0 => show (Sum.inr (4, cw_e bx E τ' κ) : va_E) = Sum.inr (4, cw_e bx E τ κ); rw [h0]
    | 1 => rfl
    | 2 => rfl
    | r + 3 =>
      show cw_r bx ca E τ' κ (r / 4) (r % 4) = cw_r bx ca E τ κ (r / 4) (r % 4)
      rcases lt4 (Nat.mod_lt r (show 0 < 4 by decide)) with e | e | e | e <;> rw [e]
      · rw [cw_r0, cw_r0, cw_d_eq h1 h6]
      · rw [cw_r1, cw_r1, cw_z_eq h2]
      · rw [cw_r2, cw_r2]
      · rw [cw_r3, cw_r3, h4]
  unfold cw
  rw [hc]
theorem cw_row3 {bx rl : Nat → Nat} {ca : Nat → ClassId} {n E a b i : Nat} {τ : TS} {κ : Nat → Option Nat} {tk : Nat → Int32} {h : Nat → Option va_E} : cw bx rl ca n E (cpT τ a b i) κ tk h = cw bx rl ca n E τ κ tk h := by
  refine cw_same ?_ (cpT_row (by decide)) (cpT_row (by decide)) (cw_t_eq (cpT_row (by decide))) (cpT_row (by decide))
  unfold cw_e acI
  rw [cpT_row (show (0 : Nat) ≠ 3 by decide)]
theorem t11 {x y : Int32} (hx : ¬ x = -11) (hy : ¬ y = -11) : bI (decide (x = -11)) = bI (decide (y = -11)) := by rw [decide_eq_false hx, decide_eq_false hy]
theorem cw_45 {bx rl : Nat → Nat} {ca : Nat → ClassId} {n E s : Nat} {x y : Int32} {τ : TS} {κ : Nat → Option Nat} {tk : Nat → Int32} {h : Nat → Option va_E} (h1 : ¬ τ 4 s = -11) (h2 : ¬ x = -11) : cw bx rl ca n E (ts (ts τ 4 s x) 5 s y) κ tk h = cw bx rl ca n E τ κ tk h := by
  refine cw_same ?_ (by rw [ts_ne (by decide), ts_ne (by decide)]) (by rw [ts_ne (by decide), ts_ne (by decide)]) ?_ (by rw [ts_ne (by decide), ts_ne (by decide)])
  · unfold cw_e acI
    rw [ts_ne (show (0 : Nat) ≠ 5 by decide), ts_ne (show (0 : Nat) ≠ 4 by decide)]
  · funext d i
    unfold cw_t
    split
    · rw [ts_ne (by decide)]
      by_cases hs : 3 * d + i = s
      · subst hs
        rw [ts_at]
        exact t11 h2 h1
      · rw [ts_off hs]
    · rfl
theorem cw_pk {bx rl : Nat → Nat} {ca : Nat → ClassId} {n E d i mp : Nat} {na mark : Int32} {τ : TS} {κ : Nat → Option Nat} {tk : Nat → Int32} {h : Nat → Option va_E} (hi : i < 3) : cw bx rl ca n E (pkT τ d i na) κ tk h = cw bx rl ca n E (wcT τ (3 * d + i) mp na mark) κ tk h := by
  have hd : (3 * d + i) / 3 = d := by omega
  have hr : ∀ r, r ≠ 4 → r ≠ 6 → pkT τ d i na r = stT τ r := fun r h4 h6 => by
    unfold pkT pk1
    rw [ts_ne h6, ts_ne h4]
  have hw : ∀ r, r ≠ 3 → r ≠ 4 → r ≠ 5 → r ≠ 6 → wcT τ (3 * d + i) mp na mark r = stT τ r := fun r h3 h4 h5 h6 => by
    unfold wcT wc1
    split <;> rw [ts_ne h5, ts_ne h4, cpT_row h3, ts_ne h6]
  have h4 : pkT τ d i na 4 = wcT τ (3 * d + i) mp na mark 4 := by
    unfold pkT pk1 wcT wc1
    rw [ts_ne (by decide)]
    split <;> rw [ts_ne (show (4 : Nat) ≠ 5 by decide), ts_row, ts_row, cpT_row (by decide), ts_ne (show (4 : Nat) ≠ 6 by decide)]
  have h6 : pkT τ d i na 6 = wcT τ (3 * d + i) mp na mark 6 := by
    unfold pkT wcT wc1
    have e1 : pk1 τ d i na 6 = τ 6 := by funext j; exact pk1_6
    rw [hd]
    split <;> rw [ts_ne (show (6 : Nat) ≠ 5 by decide), ts_ne (show (6 : Nat) ≠ 4 by decide), cpT_row (by decide), ts_row, ts_row, e1, stT_row (by decide)]
  refine cw_same ?_ ?_ ?_ (cw_t_eq h4) h6
  · unfold cw_e acI
    rw [hr 0 (by decide) (by decide), hw 0 (by decide) (by decide) (by decide) (by decide)]
  · rw [hr 1 (by decide) (by decide), hw 1 (by decide) (by decide) (by decide) (by decide)]
  · rw [hr 2 (by decide) (by decide), hw 2 (by decide) (by decide) (by decide) (by decide)]
