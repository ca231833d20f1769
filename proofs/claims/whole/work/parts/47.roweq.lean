/-! A row that is added by the reference is the row that the class takes. -/
theorem mV_iff {τ : TS} {mp x : Nat} : ∀ V, mV τ mp x V = true ↔ ∃ v, v < V ∧ ∃ k, k < exN τ mp v ∧ x = gN τ mp (15 * v + 3 + k)
  | 0 => by
    constructor
    · intro h; cases h
    · rintro ⟨v, hv, -⟩; omega
  | V + 1 => by
    show orA (mV τ mp x V) (exN τ mp V) (fun k => decide (x = gN τ mp (15 * V + 3 + k))) = true ↔ _
    rw [orA_iff, mV_iff V]
    constructor
    · rintro (⟨v, hv, k, hk, h⟩ | ⟨k, hk, h⟩)
      · exact ⟨v, by omega, k, hk, h⟩
      · exact ⟨V, by omega, k, hk, of_decide_eq_true h⟩
    · rintro ⟨v, hv, k, hk, h⟩
      by_cases e : v = V
      · subst e; exact Or.inr ⟨k, hk, decide_eq_true h⟩
      · exact Or.inl ⟨v, by omega, k, hk, h⟩
theorem used_iff {τ : TS} {mp x : Nat} (hw : WFm τ mp) (hx : x < 2 ^ 31) : usedB τ mp x = true ↔ (¬ gt τ mp 60 < 0 ∧ x = gN τ mp 62) ∨ ∃ v, v < 4 ∧ ∃ k, k < exN τ mp v ∧ x = gN τ mp (15 * v + 3 + k) := by
  show uL τ mp x 4 = true ↔ _
  rw [uL_mV hw hx 4 (Nat.le_refl _), Bool.or_eq_true, mV_iff]
  refine or_congr ?_ Iff.rfl
  show (!decide (gt τ mp 60 < 0) && decide (gt τ mp 62 = nI x)) = true ↔ _
  rw [hw.n (i := 62) (by omega) (by omega)]
  simp only [Bool.and_eq_true, Bool.not_eq_true', decide_eq_false_iff_not, decide_eq_true_eq]
  refine and_congr Iff.rfl ⟨fun q => ((nI_eq (gN_lt _ _ _) hx).mp q).symm, fun q => by rw [q]⟩
theorem bool_eq {a b : Bool} (h : a = true ↔ b = true) : a = b := by
  cases a <;> cases b <;> simp at h ⊢
section ARQ
variable {σ : TS} {n E v : Nat} {Q : Nat → Bool} {a0 : Nat}
theorem arT_s {d : Nat} : arT σ E Q a0 (d + 1) = if Q d then ts (arT σ E Q a0 d) 3 (64 * 16 + (a0 + cntL d Q)) (lfI (arT σ E Q a0 d) E 16 d) else arT σ E Q a0 d := rfl
theorem arT_row {r : Nat} (hr : r ≠ 3) : ∀ d, arT σ E Q a0 d r = σ r
  | 0 => rfl
  | d + 1 => by
    rw [arT_s]
    split
    · rw [ts_ne hr]; exact arT_row hr d
    · exact arT_row hr d
theorem arT_off {m i : Nat} (hi : i < 64) (hm : m ≤ 16) (ha : a0 ≤ 60) : ∀ d, d ≤ 5 → (m = 16 → i < a0 ∨ a0 + cntL d Q ≤ i) → gt (arT σ E Q a0 d) m i = gt σ m i
  | 0, _, _ => rfl
  | d + 1, hd, hne => by
    have hc := cntL_le d Q
    have hmo : cntL d Q ≤ cntL (d + 1) Q := cntL_mono (by omega)
    have ih := arT_off (m := m) (i := i) hi hm ha d (by omega) (fun q => by have := hne q; omega)
    rw [arT_s]
    split
    · rename_i hq
      have h1 : cntL (d + 1) Q = cntL d Q + 1 := by rw [cntL_s, hq]; rfl
      rw [ts3_off (m := m) (i := i) (m' := 16) (j := a0 + cntL d Q) (by
        by_cases e : m = 16
        · have := hne e
          omega
        · omega)]
      exact ih
    · exact ih
/-- what is in use is not changed while a row's places are put down -/
theorem arT_used (hw : WFm σ 16) (hv : v < 4) (ha0 : a0 = 15 * v + 3 + exN σ 16 v) {d : Nat} (hd : d ≤ 5) (hfit : exN σ 16 v + cntL d Q ≤ 12) (hwd : WFm (arT σ E Q a0 d) 16) {x : Nat} (hx : x < 2 ^ 31) : usedB (arT σ E Q a0 d) 16 x = usedB σ 16 x := by
  have hof : ∀ i, i < 64 → (i < a0 ∨ a0 + cntL d Q ≤ i) → gt (arT σ E Q a0 d) 16 i = gt σ 16 i := fun i hi hne => arT_off hi (Nat.le_refl _) (by omega) d hd (fun _ => hne)
  have hex : ∀ v', v' < 4 → exN (arT σ E Q a0 d) 16 v' = exN σ 16 v' := fun v' hv' => by
    have h0 := gN_eq (hof (15 * v') (by omega) (by omega))
    have h2 := gN_eq (hof (15 * v' + 2) (by omega) (by omega))
    show gN _ 16 (15 * v') * gN _ 16 (15 * v' + 2) = _
    rw [h0, h2]
    rfl
  have hpl : ∀ v', v' < 4 → ∀ k, k < exN σ 16 v' → gN (arT σ E Q a0 d) 16 (15 * v' + 3 + k) = gN σ 16 (15 * v' + 3 + k) := fun v' hv' k hk => by
    have hx12 := hw.ex hv'
    refine gN_eq (hof _ (by omega) ?_)
    by_cases e : v' = v
    · subst e; omega
    · omega
  refine bool_eq ?_
  rw [used_iff hwd hx, used_iff hw hx, hof 60 (by decide) (by omega), gN_eq (hof 62 (by decide) (by omega))]
  refine or_congr Iff.rfl ⟨?_, ?_⟩
  · rintro ⟨v', hv', k, hk, h⟩
    rw [hex v' hv'] at hk
    exact ⟨v', hv', k, hk, by rw [hpl v' hv' k hk] at h; exact h⟩
  · rintro ⟨v', hv', k, hk, h⟩
    exact ⟨v', hv', k, by rw [hex v' hv']; exact hk, by rw [hpl v' hv' k hk]; exact h⟩
theorem lfI_congr {σ τ : TS} {E mp mp' d : Nat} (hE : E ≤ 10) (hd : d < 5) (h : ∀ x, x < 2 ^ 31 → usedB σ mp x = usedB τ mp' x) : lfI σ E mp d = lfI τ E mp' d := by
  unfold lfI
  have h1 : fsL (qF σ mp d) E = fsL (qF τ mp' d) E := fsL_congr E (fun i hi => by unfold qF; rw [h _ (by omega)])
  rw [h1]
theorem lfI_lfU {σ : TS} {u : Nat → Bool} {E d : Nat} (hE : E ≤ 10) (hd : d < 5) (h : ∀ x, x < 2 ^ 31 → usedB σ 16 x = u x) : lfI σ E 16 d = lfU u E d := by
  unfold lfI lfU
  have h1 : fsL (qF σ 16 d) E = fsL (fun e => !u (16 * d + e)) E := fsL_congr E (fun i hi => by unfold qF; rw [h _ (by omega)])
  rw [h1]
/-- the places of the row, and that the map stays well made -/
theorem arT_wf (hw : WFm σ 16) (hv : v < 4) (hE : E ≤ 10) (ha0 : a0 = 15 * v + 3 + exN σ 16 v) (hf : ∀ d, d < 5 → Q d = true → fsL (qF σ 16 d) E < E) : ∀ d, d ≤ 5 → exN σ 16 v + cntL d Q ≤ 12 → WFm (arT σ E Q a0 d) 16 ∧ ∀ d', d' < d → Q d' = true → gt (arT σ E Q a0 d) 16 (a0 + cntL d' Q) = lfI σ E 16 d'
  | 0, _, _ => ⟨hw, fun d' h => absurd h (by omega)⟩
  | d + 1, hd, hfit => by
    have hmo : cntL d Q ≤ cntL (d + 1) Q := cntL_mono (by omega)
    obtain ⟨ih1, ih2⟩ := arT_wf hw hv hE ha0 hf d (by omega) (by omega)
    have hus := fun x hx => arT_used (Q := Q) (E := E) hw hv ha0 (show d ≤ 5 by omega) (by omega) ih1 (x := x) hx
    have hlf : lfI (arT σ E Q a0 d) E 16 d = lfI σ E 16 d := lfI_congr hE (by omega) hus
    rw [arT_s]
    by_cases hq : Q d = true
    · rw [if_pos hq, hlf]
      have hc1 : cntL (d + 1) Q = cntL d Q + 1 := by rw [cntL_s, hq]; rfl
      have hl : lfI σ E 16 d = nI (16 * d + fsL (qF σ 16 d) E) := by unfold lfI; rw [if_pos (hf d (by omega) hq)]
      have hfs := hf d (by omega) hq
      have hoff : ∀ i, i < 64 → i ≠ a0 + cntL d Q → gt (ts (arT σ E Q a0 d) 3 (64 * 16 + (a0 + cntL d Q)) (lfI σ E 16 d)) 16 i = gt (arT σ E Q a0 d) 16 i := fun i hi hne => ts3_off (by omega)
      refine ⟨⟨fun i hi h60 => ?_, fun v' hv' => ?_⟩, fun d' hd' hq' => ?_⟩
      · by_cases e : i = a0 + cntL d Q
        · rw [e, ts3_at, hl]
          exact nI_pos (by omega)
        · rw [hoff i hi e]
          exact ih1.1 i hi h60
      · have h0 := gN_eq (hoff (15 * v') (by omega) (by omega))
        have h2 := gN_eq (hoff (15 * v' + 2) (by omega) (by omega))
        rw [h0, h2]
        exact ih1.2 v' hv'
      · by_cases e : d' = d
        · subst e
          rw [ts3_at]
        · have h3 : cntL (d' + 1) Q ≤ cntL d Q := cntL_mono (by omega)
          have h4 : cntL (d' + 1) Q = cntL d' Q + 1 := by rw [cntL_s, hq']; rfl
          rw [hoff _ (by omega) (by omega)]
          exact ih2 d' (by omega) hq'
    · rw [if_neg hq]
      refine ⟨ih1, fun d' hd' hq' => ?_⟩
      by_cases e : d' = d
      · subst e; exact absurd hq' hq
      · exact ih2 d' (by omega) hq'
end ARQ
/-- the class's places of the row -/
theorem trP_at {u : Nat → Bool} {E fr : Nat} {Q : Nat → Bool} {P : Nat → Int32} (hE : E ≤ 10) (hf : ∀ d, d < 5 → Q d = true → fsL (fun e => !u (16 * d + e)) E < E) : ∀ d, d ≤ 5 → (∀ d', d' < d → Q d' = true → trP u E Q P fr d (fr + cntL d' Q) = lfU u E d') ∧ ∀ k, (k < fr ∨ fr + cntL d Q ≤ k) → trP u E Q P fr d k = P k
  | 0, _ => ⟨fun d' h => absurd h (by omega), fun k _ => rfl⟩
  | d + 1, hd => by
    obtain ⟨ih1, ih2⟩ := trP_at (P := P) (fr := fr) hE hf d (by omega)
    have hmo : cntL d Q ≤ cntL (d + 1) Q := cntL_mono (by omega)
    rw [trP_s]
    by_cases hq : Q d = true
    · have hc1 : cntL (d + 1) Q = cntL d Q + 1 := by rw [cntL_s, hq]; rfl
      have hlf : lfU (trU u E Q d) E d = lfU u E d := by
        unfold lfU
        rw [fsL_congr (r := fun e => !u (16 * d + e)) E (fun i hi => by show (!trU u E Q d (16 * d + i)) = _; rw [trU_hi hE hf d (by omega) (16 * d + i) (by omega)])]
      rw [if_pos hq, hlf]
      refine ⟨fun d' hd' hq' => ?_, fun k hk => ?_⟩
      · by_cases e : d' = d
        · subst e; rw [pk_us]
        · have h3 : cntL (d' + 1) Q ≤ cntL d Q := cntL_mono (by omega)
          have h4 : cntL (d' + 1) Q = cntL d' Q + 1 := by rw [cntL_s, hq']; rfl
          rw [pk_un (by omega)]
          exact ih1 d' (by omega) hq'
      · rw [pk_un (by omega)]
        exact ih2 k (by omega)
    · rw [if_neg hq]
      refine ⟨fun d' hd' hq' => ?_, fun k hk => ih2 k (by omega)⟩
      by_cases e : d' = d
      · subst e; exact absurd hq' hq
      · exact ih1 d' (by omega) hq'
/-- the marks behind the row -/
theorem trU_iff {u : Nat → Bool} {E : Nat} {Q : Nat → Bool} (hE : E ≤ 10) (hf : ∀ d, d < 5 → Q d = true → fsL (fun e => !u (16 * d + e)) E < E) {x : Nat} : ∀ d, d ≤ 5 → (trU u E Q d x = true ↔ u x = true ∨ ∃ d', d' < d ∧ Q d' = true ∧ x = (lfU u E d').toNatClampNeg)
  | 0, _ => ⟨fun h => Or.inl h, fun h => by
      rcases h with h | ⟨d', hd', -⟩
      · exact h
      · omega⟩
  | d + 1, hd => by
    have ih := trU_iff (x := x) hE hf d (by omega)
    rw [trU_s]
    by_cases hq : Q d = true
    · have hlf : lfU (trU u E Q d) E d = lfU u E d := by
        unfold lfU
        rw [fsL_congr (r := fun e => !u (16 * d + e)) E (fun i hi => by show (!trU u E Q d (16 * d + i)) = _; rw [trU_hi hE hf d (by omega) (16 * d + i) (by omega)])]
      rw [if_pos hq, hlf]
      show (trU u E Q d x || decide (x = (lfU u E d).toNatClampNeg)) = true ↔ _
      rw [Bool.or_eq_true, ih, decide_eq_true_eq]
      constructor
      · rintro ((h | ⟨d', h1, h2, h3⟩) | h)
        · exact Or.inl h
        · exact Or.inr ⟨d', by omega, h2, h3⟩
        · exact Or.inr ⟨d, by omega, hq, h⟩
      · rintro (h | ⟨d', h1, h2, h3⟩)
        · exact Or.inl (Or.inl h)
        · by_cases e : d' = d
          · subst e; exact Or.inr h3
          · exact Or.inl (Or.inr ⟨d', by omega, h2, h3⟩)
    · rw [if_neg hq, ih]
      refine or_congr Iff.rfl ⟨?_, ?_⟩
      · rintro ⟨d', h1, h2, h3⟩
        exact ⟨d', by omega, h2, h3⟩
      · rintro ⟨d', h1, h2, h3⟩
        by_cases e : d' = d
        · subst e; exact absurd h2 hq
        · exact ⟨d', by omega, h2, h3⟩
