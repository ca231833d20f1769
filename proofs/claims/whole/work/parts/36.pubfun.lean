/-! What the public methods that commit need, and give. -/
def CmOk (n : Nat) (τ : TS) (κ : Nat → Option Nat) (h : Nat → Option va_E) : Prop := (∀ d, d < n → ∀ i, i < 3 → SlOk τ κ h d i) ∧ (tb (τ 0 7) = true → ¬ τ 0 8 < 0) ∧ (∀ d, d < 5 → ¬ τ 6 d < 0) ∧ (∀ d, d < 5 → wrN τ d + 1 < 2 ^ 31) ∧ 0 < τ 0 2 ∧ 0 < τ 0 2 + nI 1 ∧ ∀ d, d < n → UqOk τ d
def SameR (σ τ : TS) : Prop := σ 0 = τ 0 ∧ σ 1 = τ 1 ∧ σ 2 = τ 2 ∧ σ 4 = τ 4 ∧ σ 5 = τ 5 ∧ σ 6 = τ 6
theorem SameR.ts3 {σ τ : TS} {a : Nat} {x : Int32} (h : SameR σ τ) : SameR (ts σ 3 a x) τ := by
  obtain ⟨h0, h1, h2, h4, h5, h6⟩ := h
  exact ⟨by rw [ts_ne (by decide)]; exact h0, by rw [ts_ne (by decide)]; exact h1, by rw [ts_ne (by decide)]; exact h2, by rw [ts_ne (by decide)]; exact h4, by rw [ts_ne (by decide)]; exact h5, by rw [ts_ne (by decide)]; exact h6⟩
theorem SameR.cp {τ : TS} {a b i : Nat} : SameR (cpT τ a b i) τ := ⟨cpT_row (by decide), cpT_row (by decide), cpT_row (by decide), cpT_row (by decide), cpT_row (by decide), cpT_row (by decide)⟩
theorem SameR.rf {τ : TS} : SameR τ τ := ⟨rfl, rfl, rfl, rfl, rfl, rfl⟩
theorem CmOk.same {n : Nat} {σ τ : TS} {κ : Nat → Option Nat} {h h' : Nat → Option va_E} (hs : SameR σ τ) (e : Ext h h') (hc : CmOk n τ κ h) : CmOk n σ κ h' := by
  obtain ⟨h0, h1, h2, h4, h5, h6⟩ := hs
  obtain ⟨c1, c2, c3, c4, c5, c6, c7⟩ := hc
  refine ⟨fun d hd i hi => ?_, by rw [h0]; exact c2, by rw [h6]; exact c3, fun d hd => ?_, by rw [h0]; exact c5, by rw [h0]; exact c6, fun d hd => ?_⟩
  · unfold SlOk
    rw [h4, h5]
    exact (c1 d hd i hi).ext e
  · have := c4 d hd
    unfold wrN at this ⊢
    rw [h6]
    exact this
  · unfold UqOk
    rw [h4, h5, h0]
    exact c7 d hd
theorem cw_sr {bx rl : Nat → Nat} {ca : Nat → ClassId} {n E : Nat} {σ τ : TS} {κ : Nat → Option Nat} {tk : Nat → Int32} {h : Nat → Option va_E} (hs : SameR σ τ) : cw bx rl ca n E σ κ tk h = cw bx rl ca n E τ κ tk h := by
  obtain ⟨h0, h1, h2, h4, h5, h6⟩ := hs
  refine cw_same ?_ h1 h2 (cw_t_eq h4) h6
  unfold cw_e acI
  rw [h0]
theorem gN_eq {σ τ : TS} {m m' i : Nat} (h : gt σ m' i = gt τ m i) : gN σ m' i = gN τ m i := by
  unfold gN
  rw [h]
theorem VlOk.map {h : Nat → Option va_E} {ca : Nat → ClassId} {σ τ : TS} {mp mp' v : Nat} {o : Option Nat} (hw : WFm τ mp) (hv4 : v < 4) (hm : ∀ i, 15 * v ≤ i → i < 15 * v + 15 → gt σ mp' i = gt τ mp i) (hv : VlOk h ca τ mp v o) : VlOk h ca σ mp' v o := by
  have e0 := gN_eq (hm (15 * v) (by omega) (by omega))
  have e1 := gN_eq (hm (15 * v + 1) (by omega) (by omega))
  have e2 := gN_eq (hm (15 * v + 2) (by omega) (by omega))
  have ex : exN σ mp' v = exN τ mp v := by unfold exN; rw [e0, e2]
  have hx := hw.ex hv4
  rcases hv with ⟨h1, h2⟩ | ⟨a, pl, P, h1, h2, h3, h4, h5⟩
  · exact Or.inl ⟨h1, by rw [hm (15 * v + 2) (by omega) (by omega)]; exact h2⟩
  · refine Or.inr ⟨a, pl, P, h1, by rw [hm (15 * v + 2) (by omega) (by omega)]; exact h2, by rw [e0, e1, e2]; exact h3, by rw [ex]; exact h4, fun k hk => ?_⟩
    rw [ex] at hk
    rw [h5 k hk, gN_eq (hm (15 * v + 3 + k) (by omega) (by omega))]
/-- what a commit leaves: r is the new copy, of the map that the layout ly represents -/
def CmRes (bx : Nat → Nat) (ca : Nat → ClassId) (n : Nat) (σ : TS) (κ : Nat → Option Nat) (h : Nat → Option va_E) (κ' : Nat → Option Nat) (h' : Nat → Option va_E) : Prop := ∃ (ly va : Nat) (mv : Option Nat) (g : Nat → Option Nat) (h1 : Nat → Option va_E) (r : Nat), Ext h h1 ∧ HD bx n h1 ∧ LyOk h1 ca σ 16 ly va mv g ∧ h1 r = none ∧ HD bx n h' ∧ h' = va_up h1 r (some (.inr (0, [.int (σ 0 2 + nI 1), .int (σ 0 4 + nI 1), .ref ly]))) ∧ κ' = cmF σ κ n r
/-- what a public method leaves, that may have committed σ -/
def PubRes (bx : Nat → Nat) (ca : Nat → ClassId) (n : Nat) (σ : TS) (κ : Nat → Option Nat) (h : Nat → Option va_E) (b : Bool) (κ' : Nat → Option Nat) (h' : Nat → Option va_E) : Prop := (b = false ∧ κ' = κ ∧ Ext h h' ∧ HD bx n h') ∨ (b = true ∧ CmRes bx ca n σ κ h κ' h')
theorem ca1_same {τ : TS} : SameR (ca1 τ) τ := SameR.cp.ts3
theorem cp_hi {τ : TS} {a i : Nat} (hi : i < 64) : gt (cpT τ a 16 64) 16 i = gt τ a i := by
  unfold gt cpT
  rw [va_up_self, if_pos (by omega), show 64 * 16 + i - 64 * 16 = i by omega]
theorem ts3_off {τ : TS} {m m' i j : Nat} {x : Int32} (hne : 64 * m + i ≠ 64 * m' + j) : gt (ts τ 3 (64 * m' + j) x) m i = gt τ m i := ts_off hne
theorem ts3_at {τ : TS} {m i : Nat} {x : Int32} : gt (ts τ 3 (64 * m + i) x) m i = x := ts_at
