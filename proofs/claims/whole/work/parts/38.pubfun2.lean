/-! Maps along a commit; a volume that is changed. -/
theorem wcT_3 {τ : TS} {k mp m i : Nat} {num mark : Int32} (hk : k < 15) (hm : 15 ≤ m) (hi : i < 64) : gt (wcT τ k mp num mark) m i = gt τ m i := by
  have h1 : gt (wc1 τ k mp) m i = gt τ m i := by
    unfold wc1 gt cpT
    rw [va_up_self, if_neg (by omega), ts_ne (by decide), stT_row (by decide)]
  unfold wcT
  split
  · show ts (ts _ 4 _ _) 5 _ _ 3 _ = _
    rw [ts_ne (by decide), ts_ne (by decide)]
    exact h1
  · show ts (ts _ 4 _ _) 5 _ _ 3 _ = _
    rw [ts_ne (by decide), ts_ne (by decide)]
    exact h1
theorem cmT_3 {τ : TS} {m i : Nat} (hm : 15 ≤ m) (hi : i < 64) : ∀ d, d ≤ 5 → gt (cmT τ d) m i = gt τ m i
  | 0, _ => by
    show ts τ 0 4 _ 3 _ = _
    rw [ts_ne (by decide)]
  | d + 1, hd => by
    have hb := sbL_b (cmT τ d) d 3
    rw [cmT_s]
    split
    · rw [wcT_3 (by omega) hm hi]
      exact cmT_3 hm hi d (by omega)
    · exact cmT_3 hm hi d (by omega)
theorem cpT_15 {τ : TS} {i : Nat} (hi : i < 64) : gt (cpT τ 16 15 64) 15 i = gt τ 16 i := by
  unfold gt cpT
  rw [va_up_self, if_pos (by omega), show 64 * 15 + i - 64 * 15 = i by omega]
theorem cmW_15 {σ : TS} {n i : Nat} (hn : n ≤ 5) (hi : i < 64) (hb : cmB σ n = true) : gt (cmW σ n) 15 i = gt σ 16 i := by
  have hf : ¬ fsL (qC σ) n < n := by
    unfold cmB at hb
    simpa using hb
  unfold cmW
  rw [if_neg hf, cpT_15 hi]
  show ts (ts (cmT σ n) 0 2 _) 0 3 _ 3 _ = _
  rw [ts_ne (by decide), ts_ne (by decide)]
  exact cmT_3 (by decide) hi n hn
theorem mg_mv {τ : TS} {i : Nat} (hi : i < 2 ^ 31) : mgB τ (nI i) = mvB τ (nI i) := by
  unfold mgB mvB
  by_cases hq : gt τ 15 60 = nI i
  · rw [hq]
    simp [nI_pos hi]
  · simp [hq]
theorem MvOk.map {h : Nat → Option va_E} {σ τ : TS} {mp mp' : Nat} {o : Option Nat} (h60 : gt σ mp' 60 = gt τ mp 60) (h61 : gt σ mp' 61 = gt τ mp 61) (h62 : gt σ mp' 62 = gt τ mp 62) (hp : ¬ gt τ mp 60 < 0 → gt σ mp' (15 * gN τ mp 60 + 3 + gN τ mp 61) = gt τ mp (15 * gN τ mp 60 + 3 + gN τ mp 61)) (hv : MvOk h τ mp o) : MvOk h σ mp' o := by
  rcases hv with ⟨h1, h2⟩ | ⟨a, h1, h2, h3⟩
  · exact Or.inl ⟨h1, by rw [h60]; exact h2⟩
  · refine Or.inr ⟨a, h1, by rw [h60]; exact h2, ?_⟩
    rw [gN_eq h60, gN_eq h61, gN_eq h62, gN_eq (hp h2)]
    exact h3
theorem nI_if {i j : Nat} {α : Type} {x y : α} (hi : i < 4) (hj : j < 4) : (if nI i = nI j then x else y) = if i = j then x else y := by
  by_cases e : i = j
  · subst e
    rw [if_pos rfl, if_pos rfl]
  · rw [if_neg (fun q => e ((nI_eq (by omega) (by omega)).mp q)), if_neg e]
/-- a map whose volume j has become another -/
theorem ly_vol {h h1 : Nat → Option va_E} {ca : Nat → ClassId} {σ τ : TS} {q va r va' j : Nat} {mv o : Option Nat} {g g' : Nat → Option Nat} (hw : WFm τ 15) (hj : j < 4) (hL : LyOk h ca τ 15 q va mv g) (e : Ext h h1) (hr : h1 r = some (.inr (2, [.ref va', va_rf mv]))) (hva : h1 va' = some (.inl (ca 4, 4, .inr (.inr (.inr (.inr g')))))) (hg : ∀ i, i < 4 → g' i = if nI i = nI j then o else g i) (hm : ∀ i, i < 64 → (i < 15 * j ∨ 15 * j + 15 ≤ i) → gt σ 16 i = gt τ 15 i) (ho : VlOk h1 ca σ 16 j o)
    (hmv : ¬ gt τ 15 60 < 0 → gN τ 15 60 < 4 ∧ gN τ 15 60 ≠ j ∧ gN τ 15 61 < 12) : LyOk h1 ca σ 16 r va' mv g' := by
  refine ⟨hr, hva, fun v hv => ?_, ?_⟩
  · rw [hg v hv, nI_if hv hj]
    by_cases e1 : v = j
    · subst e1
      rw [if_pos rfl]
      exact ho
    · rw [if_neg e1]
      exact ((hL.2.2.1 v hv).map hw hv (fun i h1 h2 => hm i (by omega) (by omega))).ext e
  · refine (hL.2.2.2.map (hm 60 (by decide) (by omega)) (hm 61 (by decide) (by omega)) (hm 62 (by decide) (by omega)) (fun hq => ?_)).ext e
    obtain ⟨h1, h2, h3⟩ := hmv hq
    exact hm _ (by omega) (by omega)
theorem re1_same {τ : TS} {j : Nat} {r : Int32} : SameR (re1 τ j r) τ := SameR.cp.ts3
theorem re1_at {τ : TS} {j : Nat} {r : Int32} (hj : j < 4) : gt (re1 τ j r) 16 (15 * j + 2) = gt τ 15 (15 * j + 2) - r := by
  unfold re1
  rw [ts3_at, cp_lo (by decide) (by omega)]
theorem re1_off {τ : TS} {i j : Nat} {r : Int32} (hi : i < 64) (hne : i ≠ 15 * j + 2) : gt (re1 τ j r) 16 i = gt τ 15 i := by
  unfold re1
  rw [ts3_off (by omega), cp_hi hi]
theorem mv_ne {n E : Nat} {τ : TS} {j : Nat} (hw : WFx n E τ 15) (hj : j < 4) (hm : mvB τ (nI j) = false) : ¬ gt τ 15 60 < 0 → gN τ 15 60 < 4 ∧ gN τ 15 60 ≠ j ∧ gN τ 15 61 < 12 := fun hq => by
  obtain ⟨h1, h2, -⟩ := hw.2.2.2 hq
  have h3 := hw.1.ex h1
  refine ⟨h1, fun e => ?_, by omega⟩
  unfold mvB at hm
  have h4 : gt τ 15 60 = nI (gN τ 15 60) := nat_eq hq
  rw [h4, e] at hm
  simp at hm
theorem re_none {h : Nat → Option va_E} {ca : Nat → ClassId} {τ : TS} {j r' : Nat} (hw : WFm τ 15) (hj : j < 4) (h0 : gN τ 15 (15 * j + 2) - r' = 0) (hr : r' ≤ gN τ 15 (15 * j + 2)) : VlOk h ca (re1 τ j (nI r')) 16 j none := by
  refine Or.inl ⟨rfl, ?_⟩
  rw [re1_at hj, hw.n (i := 15 * j + 2) (by omega) (by omega), pk_sub hr, h0]
  decide
theorem re_gN {τ : TS} {j r' : Nat} (hw : WFm τ 15) (hj : j < 4) (hr : r' ≤ gN τ 15 (15 * j + 2)) : gN (re1 τ j (nI r')) 16 (15 * j + 2) = gN τ 15 (15 * j + 2) - r' := by
  have hl := gN_lt τ 15 (15 * j + 2)
  show (gt (re1 τ j (nI r')) 16 (15 * j + 2)).toNatClampNeg = _
  rw [re1_at hj, hw.n (i := 15 * j + 2) (by omega) (by omega), pk_sub hr, nI_clamp (by omega)]
theorem re_some {h : Nat → Option va_E} {ca : Nat → ClassId} {τ : TS} {j r' a pl : Nat} {P P' : Nat → Int32} (hw : WFm τ 15) (hj : j < 4) (h0 : 0 < gN τ 15 (15 * j + 2) - r') (hr : r' ≤ gN τ 15 (15 * j + 2)) (ha : h a = some (.inr (3, [.int (nI (gN τ 15 (15 * j))), .int (nI (gN τ 15 (15 * j + 1))), .int (nI (gN τ 15 (15 * j + 2) - r')), .ref pl]))) (hp : h pl = some (.inl (ca 0, gN τ 15 (15 * j) * (gN τ 15 (15 * j + 2) - r'), .inl P'))) (hPk : ∀ k, k < exN τ 15 j → P k = nI (gN τ 15 (15 * j + 3 + k))) (hP' : ∀ i, i < gN τ 15 (15 * j) * (gN τ 15 (15 * j + 2) - r') → P' i = if i < exN τ 15 j then P i else 0) : VlOk h ca (re1 τ j (nI r')) 16 j (some a) := by
  have e0 := gN_eq (re1_off (τ := τ) (j := j) (r := nI r') (i := 15 * j) (by omega) (by omega))
  have e1 := gN_eq (re1_off (τ := τ) (j := j) (r := nI r') (i := 15 * j + 1) (by omega) (by omega))
  have e2 := re_gN hw hj hr
  have hl := gN_lt τ 15 (15 * j + 2)
  have hx := hw.ex hj
  have hle : gN τ 15 (15 * j) * (gN τ 15 (15 * j + 2) - r') ≤ exN τ 15 j := Nat.mul_le_mul_left _ (by omega)
  have ex : exN (re1 τ j (nI r')) 16 j = gN τ 15 (15 * j) * (gN τ 15 (15 * j + 2) - r') := by unfold exN; rw [e0, e2]
  refine Or.inr ⟨a, pl, P', rfl, ?_, by rw [e0, e1, e2]; exact ha, ⟨by rw [ex]; exact hp, by rw [ex]; omega⟩, fun k hk => ?_⟩
  · rw [re1_at hj, hw.n (i := 15 * j + 2) (by omega) (by omega), pk_sub hr]
    exact nI_nle h0 (by omega)
  · rw [ex] at hk
    rw [hP' k hk, if_pos (by omega), hPk k (by omega), gN_eq (re1_off (τ := τ) (j := j) (r := nI r') (i := 15 * j + 3 + k) (by omega) (by omega))]
theorem re_ans {τ : TS} {n j r' : Nat} (hn : n ≤ 5) (hw : WFm τ 15) (hj : j < 4) (hr : r' ≤ gN τ 15 (15 * j + 2)) (hb : cmB (re1 τ j (nI r')) n = true) : gt (cmW (re1 τ j (nI r')) n) 15 (15 * j + 2) = nI (gN τ 15 (15 * j + 2) - r') := by
  rw [cmW_15 hn (by omega) hb, re1_at hj, hw.n (i := 15 * j + 2) (by omega) (by omega), pk_sub hr]
/-! a move begun, a move done -/
theorem mo1_same {τ : TS} {E d : Nat} {v k : Int32} : SameR (mo1 τ E v k d) τ := SameR.cp.ts3.ts3.ts3
theorem mo1_lo {τ : TS} {E d i : Nat} {v k : Int32} (hi : i < 60) : gt (mo1 τ E v k d) 16 i = gt τ 15 i := by
  unfold mo1
  rw [ts3_off (by omega), ts3_off (by omega), ts3_off (by omega), cp_hi (by omega)]
theorem mo1_60 {τ : TS} {E d : Nat} {v k : Int32} : gt (mo1 τ E v k d) 16 60 = v ∧ gt (mo1 τ E v k d) 16 61 = k ∧ gt (mo1 τ E v k d) 16 62 = lfI τ E 15 d := by
  unfold mo1
  refine ⟨?_, ?_, ts3_at⟩
  · rw [ts3_off (by decide), ts3_off (by decide), ts3_at]
  · rw [ts3_off (by decide), ts3_at]
theorem gN_nI {σ : TS} {m i x : Nat} (h : gt σ m i = nI x) (hx : x < 2 ^ 31) : gN σ m i = x := by
  unfold gN
  rw [h, nI_clamp hx]
theorem lf_nn {τ : TS} {E mp d : Nat} (hd : d < 5) (hE : E ≤ 10) (h : ¬ lfI τ E mp d = -1) : lfI τ E mp d = nI (lfI τ E mp d).toNatClampNeg ∧ ¬ lfI τ E mp d < 0 := by
  have h1 : ¬ lfI τ E mp d < 0 := by
    unfold lfI at h ⊢
    split
    · exact nI_pos (by omega)
    · rename_i hq
      rw [if_neg hq] at h
      exact absurd rfl h
  exact ⟨nat_eq h1, h1⟩
theorem mo_mv {h : Nat → Option va_E} {τ : TS} {E d i j a : Nat} (hi : i < 4) (hj : j < 12) (hd : d < 5) (hE : E ≤ 10) (hl : ¬ lfI τ E 15 d = -1) (ha : h a = some (.inr (5, [.int (nI i), .int (nI j), .int (nI (gN τ 15 (15 * i + 3 + j))), .int (lfI τ E 15 d)]))) : MvOk h (mo1 τ E (nI i) (nI j) d) 16 (some a) := by
  obtain ⟨h60, h61, h62⟩ := mo1_60 (τ := τ) (E := E) (d := d) (v := nI i) (k := nI j)
  obtain ⟨hl1, hl2⟩ := lf_nn hd hE hl
  refine Or.inr ⟨a, rfl, by rw [h60]; exact nI_pos (by omega), ?_⟩
  have e60 := gN_nI h60 (by omega)
  have e61 := gN_nI h61 (by omega)
  have e62 : nI (gN (mo1 τ E (nI i) (nI j) d) 16 62) = lfI τ E 15 d := by
    show nI (gt (mo1 τ E (nI i) (nI j) d) 16 62).toNatClampNeg = _
    rw [h62]
    exact hl1.symm
  rw [e60, e61, e62, gN_eq (mo1_lo (τ := τ) (E := E) (d := d) (v := nI i) (k := nI j) (i := 15 * i + 3 + j) (by omega))]
  exact ha
theorem sp2_same {τ : TS} : SameR (sp2 τ) τ := SameR.cp.ts3.ts3
