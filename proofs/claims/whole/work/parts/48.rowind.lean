/-! Row by row: what the reference's draft and the class's volume have in common. -/
def AG (τ σ : TS) (u : Nat → Bool) (P : Nat → Int32) (v w R : Nat) (c : Int32) : Prop := WFm σ 16 ∧ ((∀ r, r ≠ 3 → σ r = τ r) ∧ ∀ m i, m < 16 → i < 64 → gt σ m i = gt τ m i) ∧ (gN σ 16 (15 * v) = w ∧ gt σ 16 (15 * v + 1) = c ∧ gN σ 16 (15 * v + 2) = R) ∧ (∀ x, x < 2 ^ 31 → usedB σ 16 x = u x) ∧ (∀ k, k < w * R → P k = gt σ 16 (15 * v + 3 + k)) ∧ ∀ i, i < 64 → (i < 15 * v ∨ 15 * v + 15 ≤ i) → gt σ 16 i = gt τ 15 i
theorem cnt_nth {Q : Nat → Bool} {c0 : Nat} : ∀ n, c0 < cntL n Q → ∃ d, d < n ∧ Q d = true ∧ cntL d Q = c0
  | 0, h => by rw [cntL_0] at h; omega
  | n + 1, h => by
    by_cases hl : c0 < cntL n Q
    · obtain ⟨d, h1, h2, h3⟩ := cnt_nth n hl
      exact ⟨d, by omega, h2, h3⟩
    · rw [cntL_s] at h
      cases hq : Q n with
      | false => rw [hq] at h; simp at h; omega
      | true =>
        rw [hq] at h
        simp at h
        exact ⟨n, by omega, hq, by omega⟩
section AGS
variable {τ σ : TS} {u : Nat → Bool} {P : Nat → Int32} {n E v w R : Nat} {c : Int32}
theorem AG.fr (hE : E ≤ 10) (h : AG τ σ u P v w R c) {d : Nat} (hd : d < 5) : frN σ E 16 d = frU u E d := cntL_congr fun e he => by
  unfold qF
  rw [h.2.2.2.1 _ (by omega)]
theorem AG.fit (hE : E ≤ 10) (h : AG τ σ u P v w R c) {d : Nat} (hd : d < 5) : fitB σ E d = fiB τ u E d := by
  unfold fitB fiB
  rw [h.fr hE hd, h.2.1.1 1 (by decide)]
theorem AG.ch (hn : n ≤ 5) (hE : E ≤ 10) (h : AG τ σ u P v w R c) {d : Nat} (hd : d < n) : chB σ E n w d = (fiB τ u E d && decide (rkN τ u n E d < w)) := by
  unfold chB
  rw [h.fit hE (by omega)]
  cases hf : fiB τ u E d with
  | false => rfl
  | true =>
    have ht : tb (τ 1 d) = true := by
      unfold fiB at hf
      simp only [Bool.and_eq_true] at hf
      exact hf.1
    have h1 : cntL n (qB σ E d) = rkN τ u n E d := cntL_congr fun x hx => by
      have e1 : frH σ E x = fhN τ u E x := by
        unfold frH fhN
        rw [h.2.1.1 1 (by decide), h.fr hE (by omega)]
      have e2 : frN σ E 16 d = fhN τ u E d := by
        unfold fhN
        rw [h.fr hE (by omega), ht]
        rfl
      unfold qB
      rw [e1, e2]
      by_cases ex : x = d
      · subst ex
        rw [bf_ir]
        simp
      · unfold bfB
        simp [ex]
    rw [h1]
theorem AG.few (hn : n ≤ 5) (hE : E ≤ 10) (h : AG τ σ u P v w R c) : cntL n (fitB σ E) < gN σ 16 (15 * v) ↔ fsL (qK τ u n E) w < w := by
  rw [h.2.2.1.1, pk_few]
  have h1 : cntL n (fitB σ E) = cntL n (fiB τ u E) := cntL_congr fun d hd => h.fit hE (by omega)
  rw [h1]
theorem AG.cnt (hn : n ≤ 5) (hE : E ≤ 10) (h : AG τ σ u P v w R c) : cntL n (arQ σ n E v) ≤ w := by
  have hq : cntL n (arQ σ n E v) = cntL n (fun d => fiB τ u E d && decide (rkN τ u n E d < w)) := cntL_congr fun d hd => by
    show chB σ E n (gN σ 16 (15 * v)) d = _
    rw [h.2.2.1.1]
    exact h.ch hn hE hd
  rw [hq]
  by_cases hf : fsL (qK τ u n E) w < w
  · have h1 := pk_few.mp hf
    have h2 : cntL n (fun d => fiB τ u E d && decide (rkN τ u n E d < w)) ≤ cntL n (fiB τ u E) := cntL_sub fun d _ hd => by
      simp only [Bool.and_eq_true] at hd
      exact hd.1
    omega
  · have hG := fsL_all hf
    have h1 : cntL n (fun d => fiB τ u E d && decide (rkN τ u n E d < w)) = cntL n (pkS τ u n E w) := cntL_congr fun d hd => (pk_rank w hG d hd).symm
    rw [h1, pkS_cnt w hG]
    exact Nat.le_refl _
theorem AG.qf (hn : n ≤ 5) (hE : E ≤ 10) (h : AG τ σ u P v w R c) {d : Nat} (hd : d < n) (hq : arQ σ n E v d = true) : fsL (qF σ 16 d) E < E := by
  have h1 : fitB σ E d = true := by
    unfold arQ chB at hq
    simp only [Bool.and_eq_true] at hq
    exact hq.1
  unfold fitB at h1
  simp only [Bool.and_eq_true, decide_eq_true_eq] at h1
  exact frU_fs (u := usedB σ 16) h1.2
theorem AG.ex (h : AG τ σ u P v w R c) : exN σ 16 v = w * R := by
  show gN σ 16 (15 * v) * gN σ 16 (15 * v + 2) = _
  rw [h.2.2.1.1, h.2.2.1.2.2]
end AGS
/-- disks past the last have no part in a row -/
def cutQ (n : Nat) (Q : Nat → Bool) : Nat → Bool := fun d => decide (d < n) && Q d
theorem arT_cut {σ : TS} {E a0 n : Nat} {Q : Nat → Bool} : ∀ d, d ≤ n → arT σ E (cutQ n Q) a0 d = arT σ E Q a0 d ∧ cntL d (cutQ n Q) = cntL d Q
  | 0, _ => ⟨rfl, rfl⟩
  | d + 1, hd => by
    obtain ⟨h1, h2⟩ := arT_cut (σ := σ) (E := E) (a0 := a0) (n := n) (Q := Q) d (by omega)
    have h3 : cutQ n Q d = Q d := by unfold cutQ; rw [decide_eq_true (by omega), Bool.true_and]
    refine ⟨?_, by rw [cntL_s, cntL_s, h2, h3]⟩
    rw [arT_s, arT_s, h1, h2, h3]
section AGT
variable {τ σ : TS} {u : Nat → Bool} {P : Nat → Int32} {n E v w R : Nat} {c : Int32}
theorem AG.wfd (hn : n ≤ 5) (hE : E ≤ 10) (hv : v < 4) (h12 : w * R + w ≤ 12) (h : AG τ σ u P v w R c) {d : Nat} (hd : d ≤ n) : WFm (arW σ n E v d) 16 ∧ ∀ d', d' < d → arQ σ n E v d' = true → gt (arW σ n E v d) 16 (15 * v + 3 + exN σ 16 v + cntL d' (arQ σ n E v)) = lfI σ E 16 d' := by
  have hc := h.cnt hn hE
  have hm : cntL d (arQ σ n E v) ≤ cntL n (arQ σ n E v) := cntL_mono hd
  have h1 := arT_wf (Q := cutQ n (arQ σ n E v)) (E := E) h.1 hv hE rfl (fun d' _ hq => by
    unfold cutQ at hq
    simp only [Bool.and_eq_true, decide_eq_true_eq] at hq
    exact h.qf hn hE hq.1 hq.2) d (by omega) (by rw [(arT_cut (σ := σ) (E := E) (a0 := 0) d hd).2, h.ex]; omega)
  rw [(arT_cut (σ := σ) (E := E) d hd).1] at h1
  refine ⟨h1.1, fun d' hd' hq => ?_⟩
  have h2 := h1.2 d' hd' (by unfold cutQ; rw [decide_eq_true (by omega), hq]; rfl)
  rw [(arT_cut (σ := σ) (E := E) (a0 := 0) d' (by omega)).2] at h2
  exact h2
theorem AG.ok (hn : n ≤ 5) (hE : E ≤ 10) (hv : v < 4) (hw0 : 0 < w) (h12 : w * R + w ≤ 12) (h : AG τ σ u P v w R c) : ArOk σ n E v := ⟨h.1, by rw [h.ex]; omega, fun d hd => (h.wfd hn hE hv h12 hd).1⟩
/-- a row more -/
theorem AG.step (hn : n ≤ 5) (hE : E ≤ 10) (hv : v < 4) (hw0 : 0 < w) (hw4 : w ≤ 4) (h12 : w * R + w ≤ 12) (h : AG τ σ u P v w R c) (hok : ¬ fsL (qK τ u n E) w < w) : (arP σ n E v).1 = true ∧ AG τ (arP σ n E v).2 (trU u E (pkS τ u n E w) n) (trP u E (pkS τ u n E w) P (R * w) n) v w (R + 1) c := by
  have hfew : ¬ cntL n (fitB σ E) < gN σ 16 (15 * v) := fun q => hok ((h.few hn hE).mp q)
  have hG := fsL_all hok
  have hQ : ∀ d, d < n → arQ σ n E v d = pkS τ u n E w d := fun d hd => by
    show chB σ E n (gN σ 16 (15 * v)) d = _
    rw [h.2.2.1.1, h.ch hn hE hd, pk_rank w hG d hd]
  have hcn : ∀ d, d ≤ n → cntL d (arQ σ n E v) = cntL d (pkS τ u n E w) := fun d hd => cntL_congr fun i hi => hQ i (by omega)
  have hcw : cntL n (pkS τ u n E w) = w := pkS_cnt w hG
  have hf : ∀ d, d < 5 → pkS τ u n E w d = true → fsL (fun e => !u (16 * d + e)) E < E := fun d _ hq => frU_fs (pkS_room w hq).1
  have hlf : ∀ d, d < 5 → lfI σ E 16 d = lfU u E d := fun d hd => lfI_lfU hE hd h.2.2.2.1
  obtain ⟨hwf, hat⟩ := h.wfd hn hE hv h12 (Nat.le_refl n)
  have hex := h.ex
  have hoff : ∀ m i, i < 64 → m ≤ 16 → (m = 16 → i < 15 * v + 3 + w * R ∨ 15 * v + 3 + w * R + w ≤ i) → gt (arW σ n E v n) m i = gt σ m i := fun m i hi hm hne => arT_off hi hm (by rw [hex]; omega) n hn (fun q => by rw [hex, hcn n (Nat.le_refl _), hcw]; exact hne q)
  have hP := trP_at (P := P) (fr := R * w) hE hf n hn
  have hR : gt (arW σ n E v n) 16 (15 * v + 2) = nI R := by
    rw [hoff 16 _ (by omega) (Nat.le_refl _) (by omega), h.1.n (by omega) (by omega), h.2.2.1.2.2]
  have hRl : R < 2 ^ 31 := by rw [← h.2.2.1.2.2]; exact gN_lt _ _ _
  have hR12 : R ≤ 12 := by
    have := Nat.le_mul_of_pos_left R hw0
    omega
  have hs : arP σ n E v = (true, ts (arW σ n E v n) 3 (64 * 16 + (15 * v + 2)) (nI (R + 1))) := by
    unfold arP
    rw [if_neg hfew, hR, nI_add]
  rw [hs]
  refine ⟨rfl, ?_⟩
  show AG τ (ts (arW σ n E v n) 3 (64 * 16 + (15 * v + 2)) (nI (R + 1))) _ _ v w (R + 1) c
  have o1 : ∀ m i, i < 64 → m ≤ 16 → (m = 16 → i ≠ 15 * v + 2) → gt (ts (arW σ n E v n) 3 (64 * 16 + (15 * v + 2)) (nI (R + 1))) m i = gt (arW σ n E v n) m i := fun m i hi hm hne => ts3_off (by
    by_cases e : m = 16
    · have := hne e
      omega
    · omega)
  have o2 : ∀ i, i < 64 → i ≠ 15 * v + 2 → (i < 15 * v + 3 + w * R ∨ 15 * v + 3 + w * R + w ≤ i) → gt (ts (arW σ n E v n) 3 (64 * 16 + (15 * v + 2)) (nI (R + 1))) 16 i = gt σ 16 i := fun i hi h1 h2 => by rw [o1 16 i hi (Nat.le_refl _) (fun _ => h1), hoff 16 i hi (Nat.le_refl _) (fun _ => h2)]
  have hrow : gN (ts (arW σ n E v n) 3 (64 * 16 + (15 * v + 2)) (nI (R + 1))) 16 (15 * v + 2) = R + 1 := gN_nI ts3_at (by omega)
  have hwid : gN (ts (arW σ n E v n) 3 (64 * 16 + (15 * v + 2)) (nI (R + 1))) 16 (15 * v) = w := by rw [gN_eq (o2 (15 * v) (by omega) (by omega) (by omega))]; exact h.2.2.1.1
  have hmul : w * (R + 1) = w * R + w := Nat.mul_succ w R
  have hnew : ∀ c0, c0 < w → ∃ d, d < n ∧ pkS τ u n E w d = true ∧ cntL d (pkS τ u n E w) = c0 ∧ gt (ts (arW σ n E v n) 3 (64 * 16 + (15 * v + 2)) (nI (R + 1))) 16 (15 * v + 3 + (w * R + c0)) = lfU u E d := fun c0 hc0 => by
    obtain ⟨d, h1, h2, h3⟩ := cnt_nth (Q := pkS τ u n E w) n (by omega : c0 < cntL n (pkS τ u n E w))
    refine ⟨d, h1, h2, h3, ?_⟩
    have h4 := hat d h1 (by rw [hQ d h1]; exact h2)
    rw [hex, hcn d (by omega), h3, hlf d (by omega)] at h4
    rw [o1 16 _ (by omega) (Nat.le_refl _) (fun _ => by omega), show 15 * v + 3 + (w * R + c0) = 15 * v + 3 + w * R + c0 by omega]
    exact h4
  have hold : ∀ k, k < w * R → gt (ts (arW σ n E v n) 3 (64 * 16 + (15 * v + 2)) (nI (R + 1))) 16 (15 * v + 3 + k) = gt σ 16 (15 * v + 3 + k) := fun k hk => o2 _ (by omega) (by omega) (by omega)
  have hexo : ∀ v', v' < 4 → v' ≠ v → exN (ts (arW σ n E v n) 3 (64 * 16 + (15 * v + 2)) (nI (R + 1))) 16 v' = exN σ 16 v' := fun v' hv' hne => by
    show gN _ 16 (15 * v') * gN _ 16 (15 * v' + 2) = _
    rw [gN_eq (o2 (15 * v') (by omega) (by omega) (by omega)), gN_eq (o2 (15 * v' + 2) (by omega) (by omega) (by omega))]
    rfl
  have hexv : exN (ts (arW σ n E v n) 3 (64 * 16 + (15 * v + 2)) (nI (R + 1))) 16 v = w * (R + 1) := by
    show gN _ 16 (15 * v) * gN _ 16 (15 * v + 2) = _
    rw [hwid, hrow]
  have hWF : WFm (ts (arW σ n E v n) 3 (64 * 16 + (15 * v + 2)) (nI (R + 1))) 16 := by
    refine ⟨fun i hi h60 => ?_, fun v' hv' => ?_⟩
    · by_cases e : i = 15 * v + 2
      · subst e
        rw [ts3_at]
        exact nI_pos (by omega)
      · rw [o1 16 i hi (Nat.le_refl _) (fun _ => e)]
        exact hwf.1 i hi h60
    · by_cases e : v' = v
      · subst e
        rw [hwid, hrow]
        omega
      · rw [gN_eq (o2 (15 * v') (by omega) (by omega) (by omega)), gN_eq (o2 (15 * v' + 2) (by omega) (by omega) (by omega))]
        exact h.1.2 v' hv'
  refine ⟨hWF, ⟨fun r hr => by rw [ts_ne hr]; exact (arT_row hr n).trans (h.2.1.1 r hr), fun m i hm hi => ?_⟩, ⟨hwid, ?_, hrow⟩, fun x hx => ?_, fun k hk => ?_, fun i hi hne => ?_⟩
  · rw [o1 m i hi (by omega) (by omega), hoff m i hi (by omega) (by omega)]
    exact h.2.1.2 m i hm hi
  · rw [o2 _ (by omega) (by omega) (by omega)]
    exact h.2.2.1.2.1
  · refine bool_eq ?_
    rw [used_iff hWF hx, trU_iff hE hf n hn, ← h.2.2.2.1 x hx, used_iff h.1 hx, o2 60 (by decide) (by omega) (by omega), gN_eq (o2 62 (by decide) (by omega) (by omega))]
    constructor
    · rintro (h1 | ⟨v', hv', k, hk, h1⟩)
      · exact Or.inl (Or.inl h1)
      · by_cases e : v' = v
        · subst e
          rw [hexv] at hk
          by_cases hk2 : k < w * R
          · rw [gN_eq (hold k hk2)] at h1
            exact Or.inl (Or.inr ⟨v', hv', k, by rw [hex]; exact hk2, h1⟩)
          · obtain ⟨d, d1, d2, d3, d4⟩ := hnew (k - w * R) (by omega)
            refine Or.inr ⟨d, d1, d2, ?_⟩
            rw [h1]
            show (gt _ 16 _).toNatClampNeg = _
            rw [← d4, show w * R + (k - w * R) = k by omega]
        · have hx12 := h.1.ex hv'
          rw [hexo v' hv' e] at hk
          rw [gN_eq (o2 (15 * v' + 3 + k) (by omega) (by omega) (by omega))] at h1
          exact Or.inl (Or.inr ⟨v', hv', k, hk, h1⟩)
    · rintro ((h1 | ⟨v', hv', k, hk, h1⟩) | ⟨d, d1, d2, d3⟩)
      · exact Or.inl h1
      · refine Or.inr ⟨v', hv', k, ?_⟩
        have hx12 := h.1.ex hv'
        by_cases e : v' = v
        · subst e
          rw [hex] at hk
          exact ⟨by rw [hexv]; omega, by rw [gN_eq (hold k hk)]; exact h1⟩
        · exact ⟨by rw [hexo v' hv' e]; exact hk, by rw [gN_eq (o2 (15 * v' + 3 + k) (by omega) (by omega) (by omega))]; exact h1⟩
      · have h5 : cntL (d + 1) (pkS τ u n E w) ≤ cntL n (pkS τ u n E w) := cntL_mono (by omega)
        have h6 : cntL (d + 1) (pkS τ u n E w) = cntL d (pkS τ u n E w) + 1 := by rw [cntL_s, d2]; rfl
        refine Or.inr ⟨v, hv, w * R + cntL d (pkS τ u n E w), by rw [hexv]; omega, ?_⟩
        have h4 := hat d d1 (by rw [hQ d d1]; exact d2)
        rw [hex, hcn d (by omega), hlf d (by omega)] at h4
        rw [d3]
        show _ = (gt _ 16 _).toNatClampNeg
        rw [o1 16 _ (by omega) (Nat.le_refl _) (fun _ => by omega), show 15 * v + 3 + (w * R + cntL d (pkS τ u n E w)) = 15 * v + 3 + w * R + cntL d (pkS τ u n E w) by omega, h4]
  · by_cases hk2 : k < w * R
    · rw [hP.2 k (Or.inl (by rw [Nat.mul_comm R w]; exact hk2)), hold k hk2]
      exact h.2.2.2.2.1 k hk2
    · obtain ⟨d, d1, d2, d3, d4⟩ := hnew (k - w * R) (by omega)
      have h7 := hP.1 d d1 d2
      rw [d3, Nat.mul_comm R w, show w * R + (k - w * R) = k by omega] at h7
      rw [show w * R + (k - w * R) = k by omega] at d4
      rw [d4, Nat.mul_comm R w]
      exact h7
  · rw [o2 i hi (by omega) (by omega)]
    exact h.2.2.2.2.2 i hi hne
end AGT
