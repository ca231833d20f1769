/-! A move done, a cell copied. -/
theorem sp2_lo {τ : TS} {i : Nat} (hi : i < 64) (h60 : i ≠ 60) (hne : i ≠ 15 * gN τ 15 60 + 3 + gN τ 15 61) : gt (sp2 τ) 16 i = gt τ 15 i := by
  unfold sp2
  rw [ts3_off (by omega), ts3_off (by omega), cp_hi hi]
theorem sp2_at {τ : TS} (h4 : gN τ 15 60 < 4) (h12 : gN τ 15 61 < 12) : gt (sp2 τ) 16 (15 * gN τ 15 60 + 3 + gN τ 15 61) = nI (gN τ 15 62) := by
  unfold sp2
  rw [ts3_off (by omega), ts3_at]
theorem sp2_60 {τ : TS} : gt (sp2 τ) 16 60 = -1 := ts3_at
/-- the map of a move that is done -/
theorem ly_done {h h1 : Nat → Option va_E} {ca : Nat → ClassId} {τ : TS} {q va r va' a p : Nat} {mv : Option Nat} {g g' : Nat → Option Nat} {P' : Nat → Int32} (hw : WFm τ 15) (hr3 : ¬ gt τ 15 (15 * gN τ 15 60 + 2) ≤ 0) (h4 : gN τ 15 60 < 4) (h61 : gN τ 15 61 < exN τ 15 (gN τ 15 60)) (hL : LyOk h ca τ 15 q va mv g) (e : Ext h h1) (hr : h1 r = some (.inr (2, [.ref va', va_rf none]))) (hva : h1 va' = some (.inl (ca 4, 4, .inr (.inr (.inr (.inr g')))))) (hg : ∀ i, i < 4 → g' i = if nI i = nI (gN τ 15 60) then some a else g i)
    (ha : h1 a = some (.inr (3, [.int (nI (gN τ 15 (15 * gN τ 15 60))), .int (nI (gN τ 15 (15 * gN τ 15 60 + 1))), .int (nI (gN τ 15 (15 * gN τ 15 60 + 2))), .ref p]))) (hp : h1 p = some (.inl (ca 0, exN τ 15 (gN τ 15 60), .inl P'))) (hP : ∀ k, k < exN τ 15 (gN τ 15 60) → P' k = if k = gN τ 15 61 then nI (gN τ 15 62) else nI (gN τ 15 (15 * gN τ 15 60 + 3 + k))) : LyOk h1 ca (sp2 τ) 16 r va' none g' := by
  have hx := hw.ex h4
  refine ⟨hr, hva, fun v hv => ?_, Or.inl ⟨rfl, by rw [sp2_60]; decide⟩⟩
  rw [hg v hv, nI_if hv h4]
  by_cases e1 : v = gN τ 15 60
  · rw [if_pos e1]
    subst e1
    have e0 := gN_eq (sp2_lo (τ := τ) (i := 15 * gN τ 15 60) (by omega) (by omega) (by omega))
    have e1 := gN_eq (sp2_lo (τ := τ) (i := 15 * gN τ 15 60 + 1) (by omega) (by omega) (by omega))
    have e2' := sp2_lo (τ := τ) (i := 15 * gN τ 15 60 + 2) (by omega) (by omega) (by omega)
    have e2 := gN_eq e2'
    have ex : exN (sp2 τ) 16 (gN τ 15 60) = exN τ 15 (gN τ 15 60) := by unfold exN; rw [e0, e2]
    refine Or.inr ⟨a, p, P', rfl, by rw [e2']; exact hr3, by rw [e0, e1, e2]; exact ha, by rw [ex]; exact ⟨hp, by omega⟩, fun k hk => ?_⟩
    rw [ex] at hk
    rw [hP k hk]
    by_cases ek : k = gN τ 15 61
    · rw [if_pos ek]
      subst ek
      rw [gN_nI (sp2_at h4 (by omega)) (gN_lt _ _ _)]
    · rw [if_neg ek, gN_eq (sp2_lo (τ := τ) (i := 15 * gN τ 15 60 + 3 + k) (by omega) (by omega) (by omega))]
  · rw [if_neg e1]
    exact ((hL.2.2.1 v hv).map hw hv (fun i h1 h2 => sp2_lo (by omega) (by omega) (by omega))).ext e
theorem sp_w {bx rl : Nat → Nat} {ca : Nat → ClassId} {n E : Nat} {τ : TS} {κ : Nat → Option Nat} {tk : Nat → Int32} {h : Nat → Option va_E} (hs : stB τ = false) : cw bx rl ca n E (ts (pcT τ (gN τ 15 62) (cpN τ) (τ 2 (caN (srN τ) (cpN τ)))) 0 6 (nI (cpN τ + 1))) κ tk h = cw bx rl ca n E (sp1 τ) κ tk h := by
  unfold sp1 pcT
  rw [if_neg (by rw [hs]; decide), stT_row (show (2 : Nat) ≠ 0 by decide)]
theorem mo_ans {τ : TS} {E d : Nat} (hd : d < 5) (hE : E ≤ 10) (h : ¬ lfI τ E 15 d = -1) : 0 ≤ lfI τ E 15 d := Int32.not_lt.mp (lf_nn hd hE h).2
theorem dk_lt {n : Nat} {d : Int32} : (!decide (d < 0) && decide (d < nI n)) = dkB n d := by
  unfold dkB
  congr 1
  by_cases hq : nI n ≤ d
  · simp [hq, Int32.not_lt.mpr hq]
  · simp [hq, Int32.not_le.mp hq]
theorem ly_move {h h1 : Nat → Option va_E} {ca : Nat → ClassId} {τ : TS} {E d i j q va r a : Nat} {mv : Option Nat} {g : Nat → Option Nat} (hw : WFm τ 15) (hL : LyOk h ca τ 15 q va mv g) (e : Ext h h1) (hr : h1 r = some (.inr (2, [.ref va, va_rf (some a)]))) (hi : i < 4) (hj : j < 12) (hd : d < 5) (hE : E ≤ 10) (hl : ¬ lfI τ E 15 d = -1) (ha : h1 a = some (.inr (5, [.int (nI i), .int (nI j), .int (nI (gN τ 15 (15 * i + 3 + j))), .int (lfI τ E 15 d)]))) : LyOk h1 ca (mo1 τ E (nI i) (nI j) d) 16 r va (some a) g := ⟨hr, e _ _ hL.2.1, fun v hv => ((hL.2.2.1 v hv).map hw hv (fun i h1 h2 => mo1_lo (by omega))).ext e, mo_mv hi hj hd hE hl ha⟩
