/-! Rows that are taken: the class's marks and places along the way. -/
def trU (u : Nat → Bool) (E : Nat) (Q : Nat → Bool) : Nat → Nat → Bool
  | 0 => u
  | d + 1 => if Q d then (fun x => trU u E Q d x || decide (x = (lfU (trU u E Q d) E d).toNatClampNeg)) else trU u E Q d
def trP (u : Nat → Bool) (E : Nat) (Q : Nat → Bool) (P : Nat → Int32) (fr : Nat) : Nat → Nat → Int32
  | 0 => P
  | d + 1 => if Q d then upd (trP u E Q P fr d) (fr + cntL d Q) (lfU (trU u E Q d) E d) else trP u E Q P fr d
theorem trU_s {u : Nat → Bool} {E d : Nat} {Q : Nat → Bool} : trU u E Q (d + 1) = if Q d then (fun x => trU u E Q d x || decide (x = (lfU (trU u E Q d) E d).toNatClampNeg)) else trU u E Q d := rfl
theorem trP_s {u : Nat → Bool} {E d fr : Nat} {Q : Nat → Bool} {P : Nat → Int32} : trP u E Q P fr (d + 1) = if Q d then upd (trP u E Q P fr d) (fr + cntL d Q) (lfU (trU u E Q d) E d) else trP u E Q P fr d := rfl
theorem lfU_nat {u : Nat → Bool} {E d : Nat} (hd : d < 5) (hE : E ≤ 10) (h : fsL (fun e => !u (16 * d + e)) E < E) : lfU u E d = nI (16 * d + fsL (fun e => !u (16 * d + e)) E) ∧ (lfU u E d).toNatClampNeg = 16 * d + fsL (fun e => !u (16 * d + e)) E := by
  have e1 : lfU u E d = nI (16 * d + fsL (fun e => !u (16 * d + e)) E) := by unfold lfU; rw [if_pos h]
  exact ⟨e1, by rw [e1, nI_clamp (by omega)]⟩
theorem fsL_congr {q r : Nat → Bool} : ∀ n, (∀ i, i < n → q i = r i) → fsL q n = fsL r n
  | 0, _ => rfl
  | n + 1, h => by
    have ih := fsL_congr n (fun i hi => h i (by omega))
    show (if fsL q n < n then fsL q n else if q n then n else n + 1) = if fsL r n < n then fsL r n else if r n then n else n + 1
    rw [ih, h n (by omega)]
/-- the marks of disks that come later are as they were -/
theorem trU_hi {u : Nat → Bool} {E : Nat} {Q : Nat → Bool} (hE : E ≤ 10) (hf : ∀ d, d < 5 → Q d = true → fsL (fun e => !u (16 * d + e)) E < E) : ∀ d, d ≤ 5 → ∀ x, d ≤ x / 16 → trU u E Q d x = u x
  | 0, _, _, _ => rfl
  | d + 1, hd, x, hx => by
    have ih := trU_hi hE hf d (by omega)
    rw [trU_s]
    split
    · rename_i hq
      have h1 : fsL (fun e => !trU u E Q d (16 * d + e)) E < E := by
        rw [fsL_congr (r := fun e => !u (16 * d + e)) E (fun i hi => by show (!trU u E Q d (16 * d + i)) = _; rw [ih (16 * d + i) (by omega)])]
        exact hf d (by omega) hq
      have h2 := (lfU_nat (u := trU u E Q d) (by omega) hE h1).2
      show (trU u E Q d x || decide (x = _)) = u x
      rw [h2, ih x (by omega), decide_eq_false (by omega), Bool.or_false]
    · exact ih x (by omega)
theorem trU_free {u : Nat → Bool} {E d : Nat} {Q : Nat → Bool} (hE : E ≤ 10) (hf : ∀ d, d < 5 → Q d = true → fsL (fun e => !u (16 * d + e)) E < E) (hd : d < 5) (hq : Q d = true) : fsL (fun e => !trU u E Q d (16 * d + e)) E < E := by
  rw [fsL_congr (r := fun e => !u (16 * d + e)) E (fun i hi => by show (!trU u E Q d (16 * d + i)) = _; rw [trU_hi hE hf d (by omega) (16 * d + i) (by omega)])]
  exact hf d hd hq
theorem cntL_mono {q : Nat → Bool} : ∀ {a b : Nat}, a ≤ b → cntL a q ≤ cntL b q
  | a, 0, h => by
    obtain rfl : a = 0 := by omega
    exact Nat.le_refl _
  | a, b + 1, h => by
    by_cases e : a = b + 1
    · subst e; exact Nat.le_refl _
    · have := cntL_mono (q := q) (show a ≤ b by omega)
      rw [cntL_s]
      omega
theorem tr_rest {u : Nat → Bool} {E d fr : Nat} {Q : Nat → Bool} {P : Nat → Int32} : ∀ k, (∀ j, d ≤ j → j < d + k → Q j = false) → trU u E Q (d + k) = trU u E Q d ∧ trP u E Q P fr (d + k) = trP u E Q P fr d
  | 0, _ => ⟨rfl, rfl⟩
  | k + 1, h => by
    have ih := tr_rest (u := u) (E := E) (fr := fr) (P := P) k (fun j h1 h2 => h j h1 (by omega))
    have hq := h (d + k) (by omega) (by omega)
    show trU u E Q ((d + k) + 1) = _ ∧ trP u E Q P fr ((d + k) + 1) = _
    rw [trU_s, trP_s, hq, if_neg (by decide), if_neg (by decide)]
    exact ih
theorem cnt_tail {Q : Nat → Bool} {d n : Nat} (hd : d ≤ n) (h : cntL n Q ≤ cntL d Q) : ∀ j, d ≤ j → j < n → Q j = false := fun j h1 h2 => by
  cases hq : Q j with
  | false => rfl
  | true =>
    have e1 : cntL (j + 1) Q = cntL j Q + 1 := by rw [cntL_s, hq]; rfl
    have e2 := cntL_mono (q := Q) (show j + 1 ≤ n by omega)
    have e3 := cntL_mono (q := Q) h1
    omega
theorem tr_end {u : Nat → Bool} {E d n fr N : Nat} {Q : Nat → Bool} {P : Nat → Int32} (hd : d ≤ n) (hN : fr + cntL n Q ≤ N) (h : N ≤ fr + cntL d Q) : trU u E Q n = trU u E Q d ∧ trP u E Q P fr n = trP u E Q P fr d := by
  have h1 := tr_rest (u := u) (E := E) (d := d) (fr := fr) (P := P) (n - d) (fun j h1 h2 => cnt_tail (Q := Q) (n := n) hd (by omega) j h1 (by omega))
  rw [show d + (n - d) = n by omega] at h1
  exact h1
/-- the rows so far: marks and places -/
def twU (τ : TS) (n E w : Nat) : Nat → Nat → Bool
  | 0 => usedB τ 15
  | i + 1 => trU (twU τ n E w i) E (pkS τ (twU τ n E w i) n E w) n
def twP (τ : TS) (n E w f0 : Nat) (P : Nat → Int32) : Nat → Nat → Int32
  | 0 => P
  | i + 1 => trP (twU τ n E w i) E (pkS τ (twU τ n E w i) n E w) (twP τ n E w f0 P i) ((f0 + i) * w) n
def qT (τ : TS) (n E w i : Nat) : Bool := decide (fsL (qK τ (twU τ n E w i) n E) w < w)
theorem mkL_pos {Q : Nat → Bool} : ∀ {n d : Nat}, d < n → Q d = true → 0 < mkL Q n
  | 0, _, h, _ => absurd h (by omega)
  | n + 1, d, h, hq => by
    unfold mkL
    by_cases e : d = n
    · subst e
      rw [hq, if_pos rfl]
      have := Nat.two_pow_pos d
      omega
    · have := mkL_pos (Q := Q) (show d < n by omega) hq
      omega
theorem rmQ_lt {τ : TS} {u : Nat → Bool} {n E b : Nat} {P : Nat → Bool} (h : rmQ τ u n E P = some b) : b < n := rmL_lt τ u E P n b h
theorem pkS_mono {τ : TS} {u : Nat → Bool} {n E d : Nat} : ∀ {i j : Nat}, i ≤ j → pkS τ u n E i d = true → pkS τ u n E j d = true
  | i, 0, h, hq => by
    obtain rfl : i = 0 := by omega
    exact hq
  | i, j + 1, h, hq => by
    by_cases e : i = j + 1
    · subst e; exact hq
    · have := pkS_mono (τ := τ) (u := u) (n := n) (E := E) (d := d) (show i ≤ j by omega) hq
      show (pkS τ u n E j d || _) = true
      rw [this]
      rfl
theorem pk_nz {τ : TS} {u : Nat → Bool} {n E w : Nat} (hw : 0 < w) (hn : n ≤ 5) : (pkI τ u n E w = 0) ↔ fsL (qK τ u n E) w < w := by
  constructor
  · intro h
    refine Classical.byContradiction fun hc => ?_
    unfold pkI at h
    rw [if_neg hc] at h
    have hq0 : qK τ u n E 0 = false := by
      cases hq : qK τ u n E 0 with
      | false => rfl
      | true => exact absurd ((fsL_lt w).mpr ⟨0, hw, hq⟩) hc
    unfold qK at hq0
    cases hr : rmQ τ u n E (pkS τ u n E 0) with
    | none => rw [hr] at hq0; cases hq0
    | some b =>
      have hb := rmQ_lt hr
      have h1 : pkS τ u n E 1 b = true := by
        show (pkS τ u n E 0 b || decide (rmQ τ u n E (pkS τ u n E 0) = some b)) = true
        rw [hr]
        simp
      have h2 := mkL_pos hb (pkS_mono (show 1 ≤ w by omega) h1)
      have h3 := mkL_32 (pkS τ u n E w) hn
      exact nI_ne0 h2 (by omega) h
  · intro h
    unfold pkI
    rw [if_pos h]
    exact nI_0
/-- a picked disk has room, and is there -/
theorem rm_room {τ : TS} {u : Nat → Bool} {E : Nat} {P : Nat → Bool} : ∀ d b, (rmL τ u E P d).1 = some b → 0 < frU u E b ∧ tb (τ 1 b) = true ∧ P b = false
  | 0, b, h => by simp [rmL] at h
  | d + 1, b, h => by
    unfold rmL at h
    split at h
    · rename_i hc
      cases h
      simp only [Bool.and_eq_true, Bool.not_eq_true', decide_eq_true_eq] at hc
      exact ⟨by omega, hc.1, hc.2.1⟩
    · exact rm_room d b h
theorem pkS_room {τ : TS} {u : Nat → Bool} {n E d : Nat} : ∀ i, pkS τ u n E i d = true → 0 < frU u E d ∧ tb (τ 1 d) = true ∧ d < n
  | 0, h => by cases h
  | i + 1, h => by
    rcases Bool.or_eq_true _ _ ▸ h with h1 | h1
    · exact pkS_room i h1
    · have h2 := of_decide_eq_true h1
      have h3 := rm_room n d h2
      exact ⟨h3.1, h3.2.1, rmQ_lt h2⟩
theorem frU_fs {u : Nat → Bool} {E d : Nat} (h : 0 < frU u E d) : fsL (fun e => !u (16 * d + e)) E < E := by
  refine Classical.byContradiction fun hc => ?_
  have h1 : ∀ j, j < E → (fun e => !u (16 * d + e)) j = false := fun j hj => by
    cases hq : (fun e => !u (16 * d + e)) j with
    | false => rfl
    | true => exact absurd ((fsL_lt E).mpr ⟨j, hj, hq⟩) hc
  have h2 : frU u E d = 0 := by
    unfold frU
    have : cntL E (fun e => !u (16 * d + e)) = cntL E (fun _ => false) := cntL_congr h1
    rw [this]
    have h3 := cntL_more (q := fun _ => false) (E := 0) E (fun _ _ => rfl)
    rw [Nat.zero_add] at h3
    exact h3
  omega
/-- each pick adds one -/
theorem cntL_add1 {q : Nat → Bool} {n b : Nat} (hb : b < n) (hq : q b = false) : cntL n (fun d => q d || decide (b = d)) = cntL n q + 1 := by
  induction n with
  | zero => omega
  | succ n ih =>
    rw [cntL_s, cntL_s]
    by_cases e : b = n
    · subst e
      have h1 : cntL b (fun d => q d || decide (b = d)) = cntL b q := cntL_congr (fun i hi => by rw [decide_eq_false (by omega), Bool.or_false])
      rw [h1, hq]
      simp
    · rw [ih (by omega)]
      have : (q n || decide (b = n)) = q n := by rw [decide_eq_false e, Bool.or_false]
      rw [this]
      omega
theorem pkS_cnt {τ : TS} {u : Nat → Bool} {n E : Nat} : ∀ i, (∀ j, j < i → qK τ u n E j = false) → cntL n (pkS τ u n E i) = i
  | 0, _ => by
    show cntL n (fun _ => false) = 0
    have := cntL_more (q := fun _ => false) (E := 0) n (fun _ _ => rfl)
    rw [Nat.zero_add] at this
    exact this
  | i + 1, h => by
    have ih := pkS_cnt (τ := τ) (u := u) (E := E) i (fun j hj => h j (by omega))
    have hq := h i (by omega)
    unfold qK at hq
    cases hr : rmQ τ u n E (pkS τ u n E i) with
    | none => rw [hr] at hq; cases hq
    | some b =>
      have hb := rmQ_lt hr
      have h3 := (rm_room n b hr).2.2
      have e1 : cntL n (pkS τ u n E (i + 1)) = cntL n (fun d => pkS τ u n E i d || decide (b = d)) := cntL_congr (fun d _ => by
        show (pkS τ u n E i d || decide (rmQ τ u n E (pkS τ u n E i) = some d)) = _
        rw [hr]
        congr 1
        exact decide_eq_decide.mpr ⟨fun q => Option.some.inj q, fun q => by rw [q]⟩)
      rw [e1, cntL_add1 hb h3, ih]
