/-! The drafts that are committed are well formed; each public method keeps the invariant. -/
section DRAFTS
variable {n E mp mp' : Nat} {σ τ : TS}
theorem WFx.lo (h : WFx n E τ mp) (hm : ∀ i, i < 60 → gt σ mp' i = gt τ mp i) (h61 : ∀ i, 60 < i → i < 64 → ¬ gt σ mp' i < 0) (hmv : ¬ gt σ mp' 60 < 0 → gN σ mp' 60 < 4 ∧ gN σ mp' 61 < exN τ mp (gN σ mp' 60) ∧ gN σ mp' 62 / 16 < n ∧ gN σ mp' 62 % 16 < E) : WFx n E σ mp' := by
  have ex : ∀ v, v < 4 → exN σ mp' v = exN τ mp v := fun v hv => by
    unfold exN
    rw [gN_eq (hm (15 * v) (by omega)), gN_eq (hm (15 * v + 2) (by omega))]
  refine ⟨⟨fun i hi h60 => ?_, fun v hv => ?_⟩, fun v hv hr => ?_, fun v hv k hk => ?_, fun hq => ?_⟩
  · by_cases e : i < 60
    · rw [hm i e]
      exact h.1.1 i hi h60
    · exact h61 i (by omega) hi
  · rw [gN_eq (hm (15 * v) (by omega)), gN_eq (hm (15 * v + 2) (by omega))]
    exact h.1.2 v hv
  · rw [hm (15 * v + 2) (by omega)] at hr
    rw [gN_eq (hm (15 * v) (by omega)), gN_eq (hm (15 * v + 1) (by omega))]
    exact h.2.1 v hv hr
  · rw [ex v hv] at hk
    have hx := h.1.ex hv
    rw [gN_eq (hm (15 * v + 3 + k) (by omega))]
    exact h.2.2.1 v hv k hk
  · obtain ⟨h1, h2, h3⟩ := hmv hq
    exact ⟨h1, by rw [ex _ h1]; exact h2, h3⟩
theorem ca1_wx (hw : WFx n E τ 15) : WFx n E (ca1 τ) 16 := by
  have hm : ∀ i, i < 64 → i ≠ 60 → gt (ca1 τ) 16 i = gt τ 15 i := fun i hi h => by
    unfold ca1
    rw [ts3_off (by omega), cp_hi hi]
  refine hw.lo (fun i hi => hm i (by omega) (by omega)) (fun i h1 h2 => by rw [hm i h2 (by omega)]; exact hw.1.1 i h2 (by omega)) (fun hq => absurd ?_ hq)
  unfold ca1
  rw [ts3_at]
  decide
theorem mo1_63 {d : Nat} {v k : Int32} : gt (mo1 τ E v k d) 16 63 = gt τ 15 63 := by
  unfold mo1
  rw [ts3_off (by decide), ts3_off (by decide), ts3_off (by decide), cp_hi (by decide)]
theorem mo1_wx {i j d : Nat} (hw : WFx n E τ 15) (hi : i < 4) (hj : j < exN τ 15 i) (hd : d < n) (hn : n ≤ 5) (hE : E ≤ 10) (hl : 0 ≤ lfI τ E 15 d) : WFx n E (mo1 τ E (nI i) (nI j) d) 16 := by
  obtain ⟨h60, h61, h62⟩ := mo1_60 (τ := τ) (E := E) (d := d) (v := nI i) (k := nI j)
  have hx := hw.1.ex hi
  have hl2 : ∃ e, lfI τ E 15 d = nI (16 * d + e) ∧ e < E := by
    unfold lfI at hl ⊢
    by_cases e : fsL (qF τ 15 d) E < E
    · rw [if_pos e]
      exact ⟨_, rfl, e⟩
    · rw [if_neg e] at hl
      exact absurd hl (by decide)
  obtain ⟨e, el, he⟩ := hl2
  rw [el] at h62
  have g60 := gN_nI h60 (by omega)
  have g61 := gN_nI h61 (by omega)
  have g62 := gN_nI h62 (by omega)
  refine hw.lo (fun x hx => mo1_lo hx) (fun x h1 h2 => ?_) (fun _ => ?_)
  · rcases (show x = 61 ∨ x = 62 ∨ x = 63 by omega) with rfl | rfl | rfl
    · rw [h61]; exact nI_pos (by omega)
    · rw [h62]; exact nI_pos (by omega)
    · rw [mo1_63]; exact hw.1.1 63 (by decide) (by decide)
  · rw [g60, g61, g62]
    exact ⟨hi, hj, by omega, by omega⟩
theorem re1_wx {j r' : Nat} (hw : WFx n E τ 15) (hj : j < 4) (hr : r' ≤ gN τ 15 (15 * j + 2)) (hmv : ¬ gt τ 15 60 < 0 → gN τ 15 60 ≠ j) : WFx n E (re1 τ j (nI r')) 16 := by
  have o := fun i (hi : i < 64) (h : i ≠ 15 * j + 2) => re1_off (τ := τ) (j := j) (r := nI r') hi h
  have g2 := re_gN hw.1 hj hr
  have hle : exN (re1 τ j (nI r')) 16 j ≤ exN τ 15 j := by
    unfold exN
    rw [gN_eq (o (15 * j) (by omega) (by omega)), g2]
    exact Nat.mul_le_mul_left _ (by omega)
  have hex : ∀ v, v < 4 → v ≠ j → exN (re1 τ j (nI r')) 16 v = exN τ 15 v := fun v h1 h2 => by
    unfold exN
    rw [gN_eq (o (15 * v) (by omega) (by omega)), gN_eq (o (15 * v + 2) (by omega) (by omega))]
  have hlv : ∀ v, v < 4 → exN (re1 τ j (nI r')) 16 v ≤ exN τ 15 v := fun v h1 => by
    by_cases e : v = j
    · subst e; exact hle
    · exact Nat.le_of_eq (hex v h1 e)
  refine ⟨⟨fun i hi h60 => ?_, fun v hv => ?_⟩, fun v hv hq => ?_, fun v hv k hk => ?_, fun hq => ?_⟩
  · by_cases e : i = 15 * j + 2
    · have hl := gN_lt τ 15 (15 * j + 2)
      rw [e, re1_at hj, hw.1.n (by omega) (by omega), pk_sub hr]
      exact nI_pos (by omega)
    · rw [o i hi e]
      exact hw.1.1 i hi h60
  · refine ⟨?_, Nat.le_trans (hlv v hv) (hw.1.ex hv)⟩
    rw [gN_eq (o (15 * v) (by omega) (by omega))]
    exact (hw.1.2 v hv).1
  · rw [gN_eq (o (15 * v) (by omega) (by omega)), gN_eq (o (15 * v + 1) (by omega) (by omega))]
    refine hw.2.1 v hv (fun q => ?_)
    by_cases e : v = j
    · subst e
      have z := gN_le0 hw.1 (i := 15 * v + 2) (by omega) (by omega) q
      refine hq ?_
      rw [re1_at hv, hw.1.n (by omega) (by omega), z, pk_sub (by omega)]
      rw [show 0 - r' = 0 by omega]
      decide
    · rw [o (15 * v + 2) (by omega) (by omega)] at hq
      exact hq q
  · have h1 := hlv v hv
    have h2 := hw.1.ex hv
    rw [gN_eq (o (15 * v + 3 + k) (by omega) (by omega))]
    exact hw.2.2.1 v hv k (by omega)
  · rw [o 60 (by decide) (by omega)] at hq
    obtain ⟨h1, h2, h3⟩ := hw.2.2.2 hq
    rw [gN_eq (o 60 (by decide) (by omega)), gN_eq (o 61 (by decide) (by omega)), gN_eq (o 62 (by decide) (by omega)), hex _ h1 (hmv hq)]
    exact ⟨h1, h2, h3⟩
theorem sp2_wx (hw : WFx n E τ 15) (h60 : ¬ gt τ 15 60 < 0) : WFx n E (sp2 τ) 16 := by
  obtain ⟨h1, h2, h3, h4⟩ := hw.2.2.2 h60
  have hx := hw.1.ex h1
  have hl := gN_lt τ 15 62
  have at60 : gt (sp2 τ) 16 60 = -1 := by
    unfold sp2
    exact ts3_at
  have atp : gt (sp2 τ) 16 (15 * gN τ 15 60 + 3 + gN τ 15 61) = nI (gN τ 15 62) := by
    unfold sp2
    rw [ts3_off (by omega), ts3_at]
  have o : ∀ i, i < 64 → i ≠ 60 → i ≠ 15 * gN τ 15 60 + 3 + gN τ 15 61 → gt (sp2 τ) 16 i = gt τ 15 i := fun i hi a b => by
    unfold sp2
    rw [ts3_off (by omega), ts3_off (by omega), cp_hi hi]
  have ex : ∀ v, v < 4 → exN (sp2 τ) 16 v = exN τ 15 v := fun v hv => by
    unfold exN
    rw [gN_eq (o (15 * v) (by omega) (by omega) (by omega)), gN_eq (o (15 * v + 2) (by omega) (by omega) (by omega))]
  refine ⟨⟨fun i hi q60 => ?_, fun v hv => ?_⟩, fun v hv hr => ?_, fun v hv k hk => ?_, fun hq => absurd (by rw [at60]; decide) hq⟩
  · by_cases e : i = 15 * gN τ 15 60 + 3 + gN τ 15 61
    · rw [e, atp]
      exact nI_pos hl
    · rw [o i hi q60 e]
      exact hw.1.1 i hi q60
  · rw [gN_eq (o (15 * v) (by omega) (by omega) (by omega)), gN_eq (o (15 * v + 2) (by omega) (by omega) (by omega))]
    exact hw.1.2 v hv
  · rw [o (15 * v + 2) (by omega) (by omega) (by omega)] at hr
    rw [gN_eq (o (15 * v) (by omega) (by omega) (by omega)), gN_eq (o (15 * v + 1) (by omega) (by omega) (by omega))]
    exact hw.2.1 v hv hr
  · rw [ex v hv] at hk
    have hx2 := hw.1.ex hv
    by_cases e : 15 * v + 3 + k = 15 * gN τ 15 60 + 3 + gN τ 15 61
    · rw [e, gN_nI atp hl]
      exact ⟨h3, h4⟩
    · rw [gN_eq (o (15 * v + 3 + k) (by omega) (by omega) e)]
      exact hw.2.2.1 v hv k hk
end DRAFTS
section PUBS
variable {bx : Nat → Nat} {ca : Nat → ClassId} {n E C : Nat} {σ τ : TS} {κ κ' : Nat → Option Nat} {h h' : Nat → Option va_E}
theorem INV.hac (H : INV bx ca n E C τ κ h) : tb (τ 0 7) = true → ¬ τ 0 8 < 0 := by
  obtain ⟨S, -, -, hI⟩ := H.2.2.2.2.1
  exact hI.1
theorem INV.sr (H : INV bx ca n E C τ κ h) (hn : n ≤ 5) (hd : HD bx n h') (x : Ext h h') (hs : SameR σ τ) (hm : ∀ m i, m < 16 → i < 64 → gt σ m i = gt τ m i) : INV bx ca n E (C + 1) σ κ h' := by
  obtain ⟨s0, s1, s2, s4, s5, s6⟩ := hs
  exact H.same hn hd x (by rw [s0]) (by rw [s0]) (by rw [s0]) (by rw [s0]; exact H.2.2.2.2.2.2) (by rw [s0]; exact H.hac) s4 s5 s6 hm
theorem INV.cancel {b : Bool} (hb : b = (tb (τ 0 5) && (decide (0 ≤ gt τ 15 60) && !fewB τ n))) (H : INV bx ca n E C τ κ h) (hn : n ≤ 5) (hC : C + 1 < 2 ^ 31) (hR : PubRes bx ca n (ca1 τ) κ h b κ' h') : INV bx ca n E (C + 1) (caP τ n).2 κ' h' := by
  rcases hR with ⟨e, rfl, x, hd⟩ | ⟨e, hR⟩
  · have e2 : (caP τ n).2 = τ := by
      rw [hb] at e
      unfold caP
      cases h1 : tb (τ 0 5) with
      | false => rfl
      | true =>
        rw [h1] at e
        by_cases h2 : 0 ≤ gt τ 15 60
        · rw [decide_eq_true h2] at e
          have h3 : fewB τ n = true := by simpa using e
          simp [h2, h3]
        · simp [h2]
    rw [e2]
    exact H.sr hn hd x SameR.rf (fun _ _ _ _ => rfl)
  · rw [hb] at e
    simp only [Bool.and_eq_true, Bool.not_eq_true', decide_eq_true_eq] at e
    have e2 : (caP τ n).2 = cmW (ca1 τ) n := by
      unfold caP
      rw [e.1, e.2.2]
      simp [e.2.1]
      split <;> rfl
    rw [e2]
    exact H.commit hn hC ca1_same (fun m i hm hi => by unfold ca1; rw [ts3_off (by omega), cp_lo hm hi]) (ca1_wx H.2.2.1) hR
theorem INV.reduce {b : Bool} {v r : Int32} (hb : b = (tb (τ 0 5) && (volB τ v && (!decide (r < nI 1) && decide (r ≤ gt τ 15 (15 * v.toNatClampNeg + 2)))) && (!fewB τ n && !mvB τ v))) (H : INV bx ca n E C τ κ h) (hn : n ≤ 5) (hC : C + 1 < 2 ^ 31) (hR : PubRes bx ca n (re1 τ v.toNatClampNeg r) κ h b κ' h') : INV bx ca n E (C + 1) (reP τ n v r).2 κ' h' := by
  rcases hR with ⟨e, rfl, x, hd⟩ | ⟨e, hR⟩
  · have e2 : (reP τ n v r).2 = τ := by
      rw [hb] at e
      unfold reP
      cases h1 : tb (τ 0 5) with
      | false => rfl
      | true =>
        cases h2 : (volB τ v && (!decide (r < nI 1) && decide (r ≤ gt τ 15 (15 * v.toNatClampNeg + 2)))) with
        | false => rfl
        | true =>
          rw [h1, h2] at e
          cases h3 : fewB τ n with
          | true => rfl
          | false =>
            cases h4 : mvB τ v with
            | true => rfl
            | false => rw [h3, h4] at e; cases e
    rw [e2]
    exact H.sr hn hd x SameR.rf (fun _ _ _ _ => rfl)
  · rw [hb] at e
    have e2 : (reP τ n v r).2 = cmW (re1 τ v.toNatClampNeg r) n := by
      simp only [Bool.and_eq_true, Bool.not_eq_true', decide_eq_true_eq, decide_eq_false_iff_not] at e
      unfold reP
      simp [e.1.1, e.1.2.1, e.1.2.2.1, e.1.2.2.2, e.2.1, e.2.2]
      split <;> rfl
    simp only [Bool.and_eq_true, Bool.not_eq_true', decide_eq_true_eq, decide_eq_false_iff_not] at e
    obtain ⟨j, hj, rfl, cj, pj⟩ := volB_t e.1.2.1
    have hw := H.2.2.1
    rw [cj] at e hR e2
    have hg := hw.1.n (i := 15 * j + 2) (by omega) (by omega)
    obtain ⟨r', r1, r2, rfl, cr⟩ := rg_of (gN_lt τ 15 (15 * j + 2)) e.1.2.2.1 (by rw [← hg]; exact e.1.2.2.2)
    rw [e2]
    exact H.commit hn hC re1_same (fun m i hm hi => by unfold re1; rw [ts3_off (by omega), cp_lo hm hi]) (re1_wx hw hj r2 (fun q => (mv_ne hw hj e.2.2 q).2.1)) hR
theorem INV.move {b : Bool} {v k d : Int32} (hE : E ≤ 10) (hb : b = (tb (τ 0 5) && (exB τ v k && dkB n d) && (!fewB τ n && decide (gt τ 15 60 < 0)) && (tb (τ 1 (gN τ 15 (15 * v.toNatClampNeg + 3 + k.toNatClampNeg) / 16)) && tb (τ 1 d.toNatClampNeg) && decide (0 ≤ lfI τ E 15 d.toNatClampNeg)))) (H : INV bx ca n E C τ κ h) (hn : n ≤ 5) (hC : C + 1 < 2 ^ 31) (hR : PubRes bx ca n (mo1 τ E v k d.toNatClampNeg) κ h b κ' h') : INV bx ca n E (C + 1) (moP τ n E v k d).2 κ' h' := by
  have hdk : (!decide (d < 0) && decide (d < nI n)) = dkB n d := by
    unfold dkB
    congr 1
    by_cases q : nI n ≤ d
    · rw [decide_eq_true q, decide_eq_false (Int32.not_lt.mpr q)]; rfl
    · rw [decide_eq_false q, decide_eq_true (Int32.not_le.mp q)]; rfl
  rcases hR with ⟨e, rfl, x, hd⟩ | ⟨e, hR⟩
  · have e2 : (moP τ n E v k d).2 = τ := by
      rw [hb] at e
      unfold moP
      rw [hdk]
      cases h1 : tb (τ 0 5) with
      | false => rfl
      | true =>
        cases h2 : (exB τ v k && dkB n d) with
        | false => rfl
        | true =>
          rw [h1, h2] at e
          cases h3 : fewB τ n with
          | true => rfl
          | false =>
            rw [h3] at e
            by_cases h4 : gt τ 15 60 < 0
            · rw [decide_eq_true h4] at e
              cases h5 : (tb (τ 1 (gN τ 15 (15 * v.toNatClampNeg + 3 + k.toNatClampNeg) / 16)) && tb (τ 1 d.toNatClampNeg)) with
              | false => simp [h4]
              | true =>
                rw [h5] at e
                have h6 : ¬ 0 ≤ lfI τ E 15 d.toNatClampNeg := by simpa using e
                simp [h4, h6]
            · simp [h4]
    rw [e2]
    exact H.sr hn hd x SameR.rf (fun _ _ _ _ => rfl)
  · rw [hb] at e
    have e2 : (moP τ n E v k d).2 = ts (cmW (mo1 τ E v k d.toNatClampNeg) n) 0 6 (nI 0) ∨ (moP τ n E v k d).2 = cmW (mo1 τ E v k d.toNatClampNeg) n := by
      simp only [Bool.and_eq_true, Bool.not_eq_true', decide_eq_true_eq, decide_eq_false_iff_not] at e
      unfold moP
      rw [hdk]
      simp only [e.1.1.1, e.1.1.2.1, e.1.1.2.2, e.1.2.1, e.1.2.2, e.2.1.1, e.2.1.2, e.2.2, Bool.and_self, if_true]
      cases cmB (mo1 τ E v k d.toNatClampNeg) n
      · right; rfl
      · left; rfl
    simp only [Bool.and_eq_true, Bool.not_eq_true', decide_eq_true_eq, decide_eq_false_iff_not] at e
    have hw := H.2.2.1
    obtain ⟨i, j, hi, rfl, ci, hj, rfl, cj⟩ := exB_t hw.1 e.1.1.2.1
    obtain ⟨d', hd', rfl, cd⟩ := dkB_t (by omega) e.1.1.2.2
    rw [cd] at e2 e hR
    have H1 := H.commit hn hC mo1_same (fun m x hm hx => by unfold mo1; rw [ts3_off (by omega), ts3_off (by omega), ts3_off (by omega), cp_lo hm hx]) (mo1_wx hw hi hj hd' hn hE e.2.2) hR
    rcases e2 with e2 | e2
    · rw [e2]
      obtain ⟨a1, a2, a3, a4, ⟨S, a5, a6, hI⟩, a7, -⟩ := H1
      have o : ∀ j, j ≠ 6 → ts (cmW (mo1 τ E (nI i) (nI j) d') n) 0 6 (nI 0) 0 j = cmW (mo1 τ E (nI i) (nI j) d') n 0 j := fun j h => ts_off h
      refine ⟨a1, ?_, a3.map (fun x _ => congrFun (ts_ne (by decide)) _), ?_, ⟨S, ?_, a6, hI.same ?_ (ts_ne (by decide)) (ts_ne (by decide)) (fun m x _ _ => congrFun (ts_ne (by decide)) _) (fun _ => rfl) hn⟩, ?_, ⟨0, ts_at, by decide⟩⟩
      · obtain ⟨pa, q, va, mv, g, hP⟩ := a2
        refine ⟨pa, q, va, mv, g, hP.1, ?_, hP.2.2.map a3 (fun x _ => congrFun (ts_ne (by decide)) _)⟩
        rw [ts_off (by decide), ts_off (by decide)]
        exact hP.2.1
      · rw [ts_off (by decide)]
        exact a4
      · rw [ts_off (by decide)]
        exact a5
      · rw [ts_off (by decide), ts_off (by decide)]
        exact hI.1
      · rw [ts_ne (by decide)]
        exact a7
    · rw [e2]
      exact H1
theorem INV.step {b : Bool} (hb : b = (tb (τ 0 5) && (decide (0 ≤ gt τ 15 60) && !fewB τ n) && (tb (τ 1 (srN τ / 16)) && tb (τ 1 (gN τ 15 62 / 16)) && decide (4 ≤ cpN τ)))) (H : INV bx ca n E C τ κ h) (hn : n ≤ 5) (hC : C + 1 < 2 ^ 31) (hR : PubRes bx ca n (sp2 τ) κ h b κ' h') : INV bx ca n E (C + 1) (spP τ n).2 κ' h' := by
  rcases hR with ⟨e, rfl, x, hd⟩ | ⟨e, hR⟩
  · have H0 : INV bx ca n E (C + 1) τ κ' h' := H.sr hn hd x SameR.rf (fun _ _ _ _ => rfl)
    have HS : INV bx ca n E (C + 1) (stT τ) κ' h' := H.same hn hd x (stT_02 (by decide) (by decide) (by decide)) (stT_02 (by decide) (by decide) (by decide)) (stT_02 (by decide) (by decide) (by decide)) (by rw [stT_06]; exact H.2.2.2.2.2.2) (ac_stp H.hac) (stT_row (by decide)) (stT_row (by decide)) (stT_row (by decide)) (fun m i _ _ => congrFun (stT_row (by decide)) _)
    have hc : ¬ 4 ≤ cpN τ → INV bx ca n E (C + 1) (sp1 τ) κ' h' := fun hc4 => by
      have r0 : ∀ j, j ≠ 6 → sp1 τ 0 j = stT τ 0 j := fun j hj => by
        unfold sp1
        rw [ts_off hj, ts_ne (by decide)]
      have rr : ∀ j, j ≠ 0 → j ≠ 2 → sp1 τ j = τ j := fun j a b => by
        unfold sp1
        rw [ts_ne a, ts_ne b, stT_row a]
      refine H.same hn hd x ?_ ?_ ?_ ⟨cpN τ + 1, by unfold sp1; exact ts_at, by omega⟩ ?_ (rr 4 (by decide) (by decide)) (rr 5 (by decide) (by decide)) (rr 6 (by decide) (by decide)) (fun m i _ _ => congrFun (rr 3 (by decide) (by decide)) _)
      · rw [r0 2 (by decide)]; exact stT_02 (by decide) (by decide) (by decide)
      · rw [r0 3 (by decide)]; exact stT_02 (by decide) (by decide) (by decide)
      · rw [r0 4 (by decide)]; exact stT_02 (by decide) (by decide) (by decide)
      · rw [r0 7 (by decide), r0 8 (by decide)]; exact ac_stp H.hac
    rw [hb] at e
    unfold spP
    cases h1 : tb (τ 0 5) with
    | false => exact H0
    | true =>
      rw [h1] at e
      by_cases h2 : 0 ≤ gt τ 15 60
      · rw [decide_eq_true h2] at e
        rw [if_pos rfl, if_pos h2]
        cases h3 : fewB τ n with
        | true => exact H0
        | false =>
          rw [h3] at e
          rw [if_neg (by decide)]
          cases h4 : (tb (τ 1 (srN τ / 16)) && tb (τ 1 (gN τ 15 62 / 16))) with
          | false => exact H0
          | true =>
            rw [h4] at e
            have h5 : ¬ 4 ≤ cpN τ := by simpa using e
            rw [if_pos rfl, if_neg h5]
            cases stB τ with
            | true => exact HS
            | false => exact hc h5
      · rw [if_pos rfl, if_neg h2]
        exact H0
  · rw [hb] at e
    simp only [Bool.and_eq_true, Bool.not_eq_true', decide_eq_true_eq, decide_eq_false_iff_not] at e
    have e2 : (spP τ n).2 = cmW (sp2 τ) n := by
      unfold spP
      simp only [e.1.1, e.1.2.1, e.1.2.2, e.2.1.1, e.2.1.2, e.2.2, Bool.and_self, if_true]
      cases cmB (sp2 τ) n <;> rfl
    rw [e2]
    have h60 : ¬ gt τ 15 60 < 0 := Int32.not_lt.mpr e.1.2.1
    have hq := H.2.2.1.2.2.2 h60
    have hx := H.2.2.1.1.ex hq.1
    exact H.commit hn hC sp2_same (fun m i hm hi => by unfold sp2; rw [ts3_off (by omega), ts3_off (by omega), cp_lo hm hi]) (sp2_wx H.2.2.1 h60) hR
end PUBS
