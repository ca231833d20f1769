/-! All rows: the reference's draft and the class's volume from the first row to the last. -/
theorem adT_row {σ : TS} {n E v r : Nat} (hr : r ≠ 3) : ∀ i, adT σ n E v i r = σ r
  | 0 => rfl
  | i + 1 => by
    show (arP (adT σ n E v i) n E v).2 r = σ r
    unfold arP
    split
    · exact adT_row hr i
    · show ts (arW (adT σ n E v i) n E v n) 3 _ _ r = _
      rw [ts_ne hr]
      exact (arT_row hr n).trans (adT_row hr i)
section AGU
variable {τ σ : TS} {u : Nat → Bool} {P : Nat → Int32} {n E v w R f0 rc : Nat} {c : Int32}
theorem AG.q {i : Nat} (hn : n ≤ 5) (hE : E ≤ 10) (h : AG τ (adT σ n E v i) (twU τ n E w i) P v w R c) : qR σ n E v i = qT τ n E w i := by
  have h1 := h.few hn hE
  unfold qR qT arP
  by_cases e : cntL n (fitB (adT σ n E v i) E) < gN (adT σ n E v i) 16 (15 * v)
  · rw [if_pos e, decide_eq_true (h1.mp e)]
    rfl
  · rw [if_neg e, decide_eq_false (fun q => e (h1.mpr q))]
    rfl
theorem AG.run (hn : n ≤ 5) (hE : E ≤ 10) (hv : v < 4) (hw0 : 0 < w) (hw4 : w ≤ 4) (h12 : w * rc ≤ 12) (hb : AG τ σ (usedB τ 15) P v w f0 c) : ∀ i, f0 + i ≤ rc → (∀ k, k < i → qR σ n E v k = false) → AG τ (adT σ n E v i) (twU τ n E w i) (twP τ n E w f0 P i) v w (f0 + i) c
  | 0, _, _ => hb
  | i + 1, hi, hq => by
    have ih := AG.run hn hE hv hw0 hw4 h12 hb i (by omega) (fun k hk => hq k (by omega))
    have h1 : ¬ fsL (qK τ (twU τ n E w i) n E) w < w := by
      have h2 := ih.q hn hE
      rw [hq i (by omega)] at h2
      exact of_decide_eq_false h2.symm
    have h3 : w * (f0 + i) + w ≤ 12 := by
      have h4 : w * (f0 + i + 1) ≤ w * rc := Nat.mul_le_mul_left _ (by omega)
      rw [Nat.mul_succ] at h4
      omega
    exact (ih.step hn hE hv hw0 hw4 h3 h1).2
theorem AG.fs (hn : n ≤ 5) (hE : E ≤ 10) (hv : v < 4) (hw0 : 0 < w) (hw4 : w ≤ 4) (h12 : w * rc ≤ 12) (hb : AG τ σ (usedB τ 15) P v w f0 c) : ∀ k, f0 + k ≤ rc → fsL (qR σ n E v) k = fsL (qT τ n E w) k
  | 0, _ => rfl
  | k + 1, hk => by
    have ih := AG.fs hn hE hv hw0 hw4 h12 hb k (by omega)
    show (if fsL (qR σ n E v) k < k then fsL (qR σ n E v) k else if qR σ n E v k then k else k + 1) = if fsL (qT τ n E w) k < k then fsL (qT τ n E w) k else if qT τ n E w k then k else k + 1
    by_cases e : fsL (qR σ n E v) k < k
    · rw [← ih, if_pos e, if_pos e]
    · have h1 := (AG.run hn hE hv hw0 hw4 h12 hb k (by omega) (fsL_all e)).q hn hE
      rw [← ih, h1]
theorem AG.oki (hn : n ≤ 5) (hE : E ≤ 10) (hv : v < 4) (hw0 : 0 < w) (hw4 : w ≤ 4) (h12 : w * rc ≤ 12) (hb : AG τ σ (usedB τ 15) P v w f0 c) {i : Nat} (hi : f0 + i < rc) (hq : ∀ k, k < i → qR σ n E v k = false) : ArOk (adT σ n E v i) n E v := by
  have h4 : w * (f0 + i + 1) ≤ w * rc := Nat.mul_le_mul_left _ (by omega)
  rw [Nat.mul_succ] at h4
  exact (AG.run hn hE hv hw0 hw4 h12 hb i (by omega) hq).ok hn hE hv hw0 (by omega)
/-- places in range -/
def RgP (n E : Nat) (P : Nat → Int32) (K : Nat) : Prop := ∀ k, k < K → (P k).toNatClampNeg / 16 < n ∧ (P k).toNatClampNeg % 16 < E
theorem trP_rg {Q : Nat → Bool} {fr : Nat} (hn : n ≤ 5) (hE : E ≤ 10) (hf : ∀ d, d < 5 → Q d = true → fsL (fun e => !u (16 * d + e)) E < E) (h : RgP n E P fr) : ∀ d, d ≤ n → RgP n E (trP u E Q P fr d) (fr + cntL d Q)
  | 0, _ => h
  | d + 1, hd => by
    have ih := trP_rg hn hE hf h d (by omega)
    intro k hk
    rw [cntL_s] at hk
    rw [trP_s]
    by_cases hq : Q d = true
    · rw [if_pos hq] at hk
      rw [if_pos hq]
      by_cases e : k = fr + cntL d Q
      · subst e
        rw [pk_us]
        have h1 := trU_free hE hf (by omega) hq
        rw [(lfU_nat (by omega) hE h1).2]
        omega
      · rw [pk_un e]
        exact ih k (by omega)
    · rw [if_neg hq] at hk
      rw [if_neg hq]
      exact ih k (by omega)
theorem twP_rg (hn : n ≤ 5) (hE : E ≤ 10) (h : RgP n E P (f0 * w)) : ∀ i, (∀ k, k < i → qT τ n E w k = false) → RgP n E (twP τ n E w f0 P i) ((f0 + i) * w)
  | 0, _ => h
  | i + 1, hq => by
    have ih := twP_rg hn hE h i (fun k hk => hq k (by omega))
    have h1 : ¬ fsL (qK τ (twU τ n E w i) n E) w < w := of_decide_eq_false (hq i (by omega))
    have h2 := pkS_cnt w (fsL_all h1)
    have h3 := trP_rg hn hE (Q := pkS τ (twU τ n E w i) n E w) (fun d _ hd => frU_fs (pkS_room w hd).1) ih n (Nat.le_refl _)
    rw [h2] at h3
    have h4 : (f0 + (i + 1)) * w = (f0 + i) * w + w := by rw [← Nat.add_assoc, Nat.add_mul, Nat.one_mul]
    rw [h4]
    exact h3
theorem AG.wx (hw : WFx n E τ 15) (hv : v < 4) (hw0 : 0 < w) (hc : c = nI 1 ∨ c = nI 2 ∨ c = nI 4) (h : AG τ σ u P v w R c) (h12 : w * R ≤ 12) (hR : RgP n E P (w * R)) (hmv : ¬ gt τ 15 60 < 0 → gN τ 15 60 < 4 ∧ gN τ 15 60 ≠ v ∧ gN τ 15 61 < 12) : WFx n E σ 16 := by
  have o := h.2.2.2.2.2
  have hex := h.ex
  have ho : ∀ v', v' < 4 → v' ≠ v → ∀ i, 15 * v' ≤ i → i < 15 * v' + 15 → gt σ 16 i = gt τ 15 i := fun v' h1 h2 i h3 h4 => o i (by omega) (by omega)
  have hexo : ∀ v', v' < 4 → v' ≠ v → exN σ 16 v' = exN τ 15 v' := fun v' h1 h2 => by
    unfold exN
    rw [gN_eq (ho v' h1 h2 (15 * v') (by omega) (by omega)), gN_eq (ho v' h1 h2 (15 * v' + 2) (by omega) (by omega))]
  refine ⟨h.1, fun v' hv' hr => ?_, fun v' hv' k hk => ?_, fun hq => ?_⟩
  · by_cases e : v' = v
    · subst e
      rw [h.2.2.1.1]
      refine ⟨hw0, ?_⟩
      show (gt σ 16 (15 * v' + 1)).toNatClampNeg = 1 ∨ (gt σ 16 (15 * v' + 1)).toNatClampNeg = 2 ∨ (gt σ 16 (15 * v' + 1)).toNatClampNeg = 4
      rw [h.2.2.1.2.1]
      rcases hc with rfl | rfl | rfl
      · exact Or.inl (by decide)
      · exact Or.inr (Or.inl (by decide))
      · exact Or.inr (Or.inr (by decide))
    · rw [ho v' hv' e _ (by omega) (by omega)] at hr
      rw [gN_eq (ho v' hv' e (15 * v') (by omega) (by omega)), gN_eq (ho v' hv' e (15 * v' + 1) (by omega) (by omega))]
      exact hw.2.1 v' hv' hr
  · by_cases e : v' = v
    · subst e
      rw [hex] at hk
      have h1 := hR k hk
      rw [h.2.2.2.2.1 k hk] at h1
      exact h1
    · rw [hexo v' hv' e] at hk
      have hx := hw.1.ex hv'
      rw [gN_eq (ho v' hv' e (15 * v' + 3 + k) (by omega) (by omega))]
      exact hw.2.2.1 v' hv' k hk
  · have e60 := o 60 (by decide) (by omega)
    have e61 := o 61 (by decide) (by omega)
    have e62 := o 62 (by decide) (by omega)
    rw [e60] at hq
    obtain ⟨m1, m2, m3⟩ := hmv hq
    obtain ⟨w1, w2, w3⟩ := hw.2.2.2 hq
    rw [gN_eq e60, gN_eq e61, gN_eq e62, hexo _ m1 m2]
    exact ⟨w1, w2, w3⟩
theorem AG.vl {h1 : Nat → Option va_E} {ca : Nat → ClassId} {a pl : Nat} (h : AG τ σ u P v w R c) (hv : v < 4) (hw0 : 0 < w) (hR0 : 0 < R) (h12 : w * R ≤ 12) (ha : h1 a = some (.inr (3, [.int (nI w), .int c, .int (nI R), .ref pl]))) (hpl : h1 pl = some (.inl (ca 0, w * R, .inl P))) : VlOk h1 ca σ 16 v (some a) := by
  have hex := h.ex
  have hR12 : R ≤ 12 := by
    have := Nat.le_mul_of_pos_left R hw0
    omega
  refine Or.inr ⟨a, pl, P, rfl, ?_, ?_, ⟨by rw [hex]; exact hpl, by rw [hex]; omega⟩, fun k hk => ?_⟩
  · rw [h.1.n (by omega) (by omega), h.2.2.1.2.2]
    exact nI_nle hR0 (by omega)
  · rw [h.2.2.1.1, h.2.2.1.2.2, ← h.1.n (i := 15 * v + 1) (by omega) (by omega), h.2.2.1.2.1]
    exact ha
  · rw [hex] at hk
    rw [h.2.2.2.2.1 k hk, h.1.n (by omega) (by omega)]
end AGU
/-! where it begins -/
section AGB
variable {τ : TS} {P : Nat → Int32} {v w : Nat} {c : Int32}
theorem cr_w {x : Int32} : gt (cr0 τ v x c) 16 (15 * v) = x ∧ gt (cr0 τ v x c) 16 (15 * v + 1) = c ∧ gt (cr0 τ v x c) 16 (15 * v + 2) = nI 0 := by
  unfold cr0
  refine ⟨?_, ?_, ts3_at⟩
  · rw [ts3_off (by omega), ts3_off (by omega), ts3_at]
  · rw [ts3_off (by omega), ts3_at]
theorem cr_off {x : Int32} {i : Nat} (hi : i < 64) (h : i < 15 * v ∨ 15 * v + 3 ≤ i) : gt (cr0 τ v x c) 16 i = gt τ 15 i := by
  unfold cr0
  rw [ts3_off (by omega), ts3_off (by omega), ts3_off (by omega), cp_hi hi]
theorem cr_lo {x : Int32} {m i : Nat} (hv : v < 4) (hm : m < 16) (hi : i < 64) : gt (cr0 τ v x c) m i = gt τ m i := by
  unfold cr0
  rw [ts3_off (by omega), ts3_off (by omega), ts3_off (by omega), cp_lo hm hi]
theorem cr_same {x : Int32} : SameR (cr0 τ v x c) τ := SameR.cp.ts3.ts3.ts3
theorem gN_le0 {mp i : Nat} (hw : WFm τ mp) (hi : i < 64) (h60 : i ≠ 60) (h : gt τ mp i ≤ 0) : gN τ mp i = 0 := by
  rw [hw.n hi h60, ← nI_0] at h
  exact Nat.le_zero.mp ((nI_leI (gN_lt _ _ _) (by decide)).mp h)
theorem AG.cr (hw : WFm τ 15) (hv : v < 4) (hw4 : w ≤ 4) (hc : ¬ c < 0) (h0 : gt τ 15 (15 * v + 2) ≤ 0) : AG τ (cr0 τ v (nI w) c) (usedB τ 15) P v w 0 c := by
  obtain ⟨c0, c1, c2⟩ := cr_w (τ := τ) (v := v) (c := c) (x := nI w)
  have g0 : gN (cr0 τ v (nI w) c) 16 (15 * v) = w := gN_nI c0 (by omega)
  have g2 : gN (cr0 τ v (nI w) c) 16 (15 * v + 2) = 0 := gN_nI c2 (by decide)
  have z0 := gN_le0 hw (i := 15 * v + 2) (by omega) (by omega) h0
  have exv : exN (cr0 τ v (nI w) c) 16 v = 0 := by unfold exN; rw [g2, Nat.mul_zero]
  have ezv : exN τ 15 v = 0 := by unfold exN; rw [z0, Nat.mul_zero]
  have exo : ∀ v', v' < 4 → v' ≠ v → exN (cr0 τ v (nI w) c) 16 v' = exN τ 15 v' := fun v' h1 h2 => by
    unfold exN
    rw [gN_eq (cr_off (by omega) (by omega)), gN_eq (cr_off (by omega) (by omega))]
  have hWF : WFm (cr0 τ v (nI w) c) 16 := by
    refine ⟨fun i hi h60 => ?_, fun v' hv' => ?_⟩
    · by_cases e : i < 15 * v ∨ 15 * v + 3 ≤ i
      · rw [cr_off hi e]
        exact hw.1 i hi h60
      · have e2 : i = 15 * v ∨ i = 15 * v + 1 ∨ i = 15 * v + 2 := by omega
        rcases e2 with e2 | e2 | e2
        · rw [e2, c0]; exact nI_pos (by omega)
        · rw [e2, c1]; exact hc
        · rw [e2, c2]; exact nI_pos (by decide)
    · by_cases e : v' = v
      · subst e
        rw [g0, g2]
        omega
      · rw [gN_eq (cr_off (i := 15 * v') (by omega) (by omega)), gN_eq (cr_off (i := 15 * v' + 2) (by omega) (by omega))]
        exact hw.2 v' hv'
  refine ⟨hWF, ⟨fun r hr => ?_, fun m i hm hi => cr_lo hv hm hi⟩, ⟨g0, c1, g2⟩, fun x hx => ?_, fun k hk => absurd hk (by rw [Nat.mul_zero]; omega), fun i hi h1 => cr_off hi (by omega)⟩
  · unfold cr0
    rw [ts_ne hr, ts_ne hr, ts_ne hr]
    exact cpT_row hr
  · refine bool_eq ?_
    rw [used_iff hWF hx, used_iff hw hx, cr_off (i := 60) (by decide) (by omega), gN_eq (cr_off (i := 62) (by decide) (by omega))]
    refine or_congr Iff.rfl ⟨fun ⟨v', hv', k, hk, h1⟩ => ?_, fun ⟨v', hv', k, hk, h1⟩ => ?_⟩
    · by_cases e : v' = v
      · subst e
        rw [exv] at hk
        omega
      · rw [exo v' hv' e] at hk
        have hx2 := hw.ex hv'
        rw [gN_eq (cr_off (i := 15 * v' + 3 + k) (by omega) (by omega))] at h1
        exact ⟨v', hv', k, hk, h1⟩
    · by_cases e : v' = v
      · subst e
        rw [ezv] at hk
        omega
      · have hx2 := hw.ex hv'
        refine ⟨v', hv', k, by rw [exo v' hv' e]; exact hk, ?_⟩
        rw [gN_eq (cr_off (i := 15 * v' + 3 + k) (by omega) (by omega))]
        exact h1
theorem AG.xt (hw : WFm τ 15) (hv : v < 4) (hP : ∀ k, k < exN τ 15 v → P k = gt τ 15 (15 * v + 3 + k)) : AG τ (cpT τ 15 16 64) (usedB τ 15) P v (gN τ 15 (15 * v)) (gN τ 15 (15 * v + 2)) (gt τ 15 (15 * v + 1)) := by
  have hh : ∀ i, i < 64 → gt (cpT τ 15 16 64) 16 i = gt τ 15 i := fun i hi => cp_hi hi
  have ex : ∀ v', v' < 4 → exN (cpT τ 15 16 64) 16 v' = exN τ 15 v' := fun v' h1 => by
    unfold exN
    rw [gN_eq (hh _ (by omega)), gN_eq (hh _ (by omega))]
  have hWF : WFm (cpT τ 15 16 64) 16 := by
    refine ⟨fun i hi h60 => ?_, fun v' hv' => ?_⟩
    · rw [hh i hi]
      exact hw.1 i hi h60
    · rw [gN_eq (hh (15 * v') (by omega)), gN_eq (hh (15 * v' + 2) (by omega))]
      exact hw.2 v' hv'
  have hxv := hw.ex hv
  refine ⟨hWF, ⟨fun r hr => cpT_row hr, fun m i hm hi => cp_lo hm hi⟩, ⟨gN_eq (hh _ (by omega)), hh _ (by omega), gN_eq (hh _ (by omega))⟩, fun x hx => ?_, fun k hk => ?_, fun i hi h1 => hh i hi⟩
  · refine bool_eq ?_
    rw [used_iff hWF hx, used_iff hw hx, hh 60 (by decide), gN_eq (hh 62 (by decide))]
    refine or_congr Iff.rfl ⟨fun ⟨v', hv', k, hk, h1⟩ => ?_, fun ⟨v', hv', k, hk, h1⟩ => ?_⟩
    · rw [ex v' hv'] at hk
      have hx2 := hw.ex hv'
      rw [gN_eq (hh (15 * v' + 3 + k) (by omega))] at h1
      exact ⟨v', hv', k, hk, h1⟩
    · have hx2 := hw.ex hv'
      refine ⟨v', hv', k, by rw [ex v' hv']; exact hk, ?_⟩
      rw [gN_eq (hh (15 * v' + 3 + k) (by omega))]
      exact h1
  · have hk2 : k < exN τ 15 v := hk
    rw [hP k hk2, hh _ (by omega)]
end AGB
