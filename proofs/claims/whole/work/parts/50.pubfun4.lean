/-! create and extend: what their walks need. -/
theorem SameR.ad {σ τ : TS} {n E v : Nat} (h : SameR σ τ) (i : Nat) : SameR (adT σ n E v i) τ := by
  obtain ⟨h0, h1, h2, h4, h5, h6⟩ := h
  exact ⟨(adT_row (by decide) i).trans h0, (adT_row (by decide) i).trans h1, (adT_row (by decide) i).trans h2, (adT_row (by decide) i).trans h4, (adT_row (by decide) i).trans h5, (adT_row (by decide) i).trans h6⟩
theorem shB_eq {w c r : Int32} : shB w c r = ((!decide (w < nI 1) && (!decide (nI 4 < w) && decide (c = nI 1 ∨ c = nI 2 ∨ c = nI 4))) && (!decide (r < nI 1) && decide (r ≤ nI (12 / w.toNatClampNeg)))) := by
  unfold shB
  rw [Bool.and_assoc, Bool.and_assoc]
theorem sh_t {w c : Int32} (h : (!decide (w < nI 1) && (!decide (nI 4 < w) && decide (c = nI 1 ∨ c = nI 2 ∨ c = nI 4))) = true) : ∃ w' : Nat, 1 ≤ w' ∧ w' ≤ 4 ∧ w = nI w' ∧ w.toNatClampNeg = w' ∧ (c = nI 1 ∨ c = nI 2 ∨ c = nI 4) ∧ ¬ c < 0 := by
  simp only [Bool.and_eq_true, Bool.not_eq_true', decide_eq_false_iff_not, decide_eq_true_eq] at h
  obtain ⟨w', h1, h2, h3, h4⟩ := rg_of (by decide) h.1 (Int32.not_lt.mp h.2.1)
  refine ⟨w', h1, h2, h3, h4, h.2.2, ?_⟩
  rcases h.2.2 with e | e | e <;> subst e <;> decide
theorem fsL_q {q : Nat → Bool} : ∀ {n : Nat}, fsL q n < n → q (fsL q n) = true
  | 0, h => absurd h (by omega)
  | n + 1, h => by
    have e : fsL q (n + 1) = if fsL q n < n then fsL q n else if q n then n else n + 1 := rfl
    rw [e] at h ⊢
    by_cases h1 : fsL q n < n
    · rw [if_pos h1]
      exact fsL_q h1
    · rw [if_neg h1] at h ⊢
      by_cases h2 : q n = true
      · rw [if_pos h2]
        exact h2
      · rw [if_neg h2] at h
        omega
theorem fsL_b {q : Nat → Bool} : ∀ {n : Nat} {j : Nat}, j < fsL q n → q j = false
  | 0, j, h => absurd h (by show ¬ j < 0; omega)
  | n + 1, j, h => by
    have e : fsL q (n + 1) = if fsL q n < n then fsL q n else if q n then n else n + 1 := rfl
    rw [e] at h
    by_cases h1 : fsL q n < n
    · rw [if_pos h1] at h
      exact fsL_b h
    · rw [if_neg h1] at h
      have h3 := fsL_all h1
      by_cases h2 : q n = true
      · rw [if_pos h2] at h
        exact h3 j h
      · by_cases e2 : j = n
        · subst e2
          simpa using h2
        · rw [if_neg h2] at h
          exact h3 j (by omega)
theorem qv_none {h : Nat → Option va_E} {ca : Nat → ClassId} {τ : TS} {g : Nat → Option Nat} (hV : ∀ v, v < 4 → VlOk h ca τ 15 v (g v)) : fsL (fun i => (g i).isNone) 4 = fsL (qV τ) 4 := fsL_congr 4 fun i hi => by
  unfold qV
  rcases hV i hi with ⟨h1, h2⟩ | ⟨a, pl, P, h1, h2, -⟩
  · show (g i).isNone = _
    rw [h1, decide_eq_true h2]
    rfl
  · show (g i).isNone = _
    rw [h1, decide_eq_false h2]
    rfl
theorem la_t {h : Nat → Option va_E} {ca : Nat → ClassId} {τ : TS} {g : Nat → Option Nat} (hV : ∀ v, v < 4 → VlOk h ca τ 15 v (g v)) (hl : ¬ laI g = -1) : ∃ j, fsL (qV τ) 4 = j ∧ j < 4 ∧ gt τ 15 (15 * j + 2) ≤ 0 ∧ laI g = nI j := by
  unfold laI at hl ⊢
  rw [qv_none hV] at hl ⊢
  by_cases e : fsL (qV τ) 4 < 4
  · rw [if_pos e]
    refine ⟨_, rfl, e, ?_, rfl⟩
    have h1 : qV τ (fsL (qV τ) 4) = true := fsL_q e
    exact of_decide_eq_true h1
  · rw [if_neg e] at hl
    exact absurd rfl hl
theorem la_f {h : Nat → Option va_E} {ca : Nat → ClassId} {τ : TS} {g : Nat → Option Nat} (hV : ∀ v, v < 4 → VlOk h ca τ 15 v (g v)) (hl : laI g = -1) : ¬ fsL (qV τ) 4 < 4 := fun e => by
  unfold laI at hl
  rw [qv_none hV, if_pos e] at hl
  have h1 := nI_pos (n := fsL (qV τ) 4) (by omega)
  rw [hl] at h1
  exact h1 (by decide)
theorem cr_mv {n E : Nat} {τ : TS} {j : Nat} (hw : WFx n E τ 15) (hj : j < 4) (h0 : gt τ 15 (15 * j + 2) ≤ 0) : ¬ gt τ 15 60 < 0 → gN τ 15 60 < 4 ∧ gN τ 15 60 ≠ j ∧ gN τ 15 61 < 12 := fun hq => by
  obtain ⟨h1, h2, -⟩ := hw.2.2.2 hq
  have h3 := hw.1.ex h1
  refine ⟨h1, fun e => ?_, by omega⟩
  rw [e] at h2
  have h4 : exN τ 15 j = 0 := by unfold exN; rw [gN_le0 hw.1 (i := 15 * j + 2) (by omega) (by omega) h0, Nat.mul_zero]
  omega
theorem tr_no {τ : TS} {n E w k : Nat} (h : trB τ n E w k = false) : fsL (qT τ n E w) k < k := by
  unfold trB at h
  simpa using h
theorem tr_yes {τ : TS} {n E w k : Nat} (h : trB τ n E w k = true) : ¬ fsL (qT τ n E w) k < k ∧ fsL (qT τ n E w) k = k := by
  unfold trB at h
  have h1 : ¬ fsL (qT τ n E w) k < k := by simpa using h
  have h2 := fsL_le (qT τ n E w) k
  exact ⟨h1, by omega⟩
theorem ad_few {τ : TS} {n E v r : Nat} {a : TS → Int32} (h : fsL (qR τ n E v) r < r) : adP τ n E v r a = (-5, adT τ n E v (fsL (qR τ n E v) r + 1)) := by
  unfold adP
  rw [if_pos h]
theorem ad_ok {τ : TS} {n E v r : Nat} {a : TS → Int32} {b : Bool} (h : ¬ fsL (qR τ n E v) r < r) (hb : cmB (adT τ n E v r) n = b) : adP τ n E v r a = (if b then a (cmW (adT τ n E v r) n) else -7, cmW (adT τ n E v r) n) := by
  unfold adP
  rw [if_neg h, hb]
  cases b <;> rfl
