/-! A start keeps the invariant. -/
theorem FR.clr {τ : TS} {κ : Nat → Option Nat} {s s' j : Nat} {x y : Int32} : FR τ (ts (ts τ 4 s x) 5 s' y) κ (va_up κ (1 + j) none) := ⟨fun j _ _ _ => by rw [ts_ne (by decide), ts_ne (by decide)], fun m i _ _ => by
  unfold gt
  rw [ts_ne (by decide), ts_ne (by decide)], va_up_ne _ _ (by omega), by rw [ts_ne (by decide), ts_ne (by decide)]⟩
theorem ho_f {τ : TS} {d : Nat} {num mark : Int32} (h : hoB τ d num mark = false) : ∀ j, j < 3 → ¬ (τ 4 (3 * d + j) = num ∧ τ 5 (3 * d + j) = mark) := fun j hj hq => by
  have h1 : hoB τ d num mark = true := by
    unfold hoB
    rw [orA_iff]
    refine Or.inr ⟨j, hj, ?_⟩
    unfold qO
    rw [decide_eq_true hq.1, decide_eq_true hq.2]
    rfl
  rw [h] at h1
  cases h1
section ACI
variable {n E N S C : Nat} {ca : Nat → ClassId} {h : Nat → Option va_E} {σ τ : TS} {κ : Nat → Option Nat} {num mark : Int32} {d : Nat}
theorem se_inv (H : SI n E ca h N S τ κ) (hn : n ≤ 5) (hd : d < n) : ∀ j, j ≤ 3 → SI n E ca h N S (seT τ num d j) (seK τ κ num d j) ∧ FR τ (seT τ num d j) κ (seK τ κ num d j)
  | 0, _ => ⟨H, FR.rf⟩
  | j + 1, hj => by
    obtain ⟨ih, fr⟩ := se_inv H hn hd j (by omega)
    rw [seT_s, seK_s]
    split
    · exact ⟨ih, fr⟩
    · refine ⟨(ih.st hn).clr hn hd (by omega), fr.tr (FR.st.tr ?_)⟩
      rw [show 1 + 3 * d + j = 1 + (3 * d + j) by omega]
      exact FR.clr
theorem sl_inv {a q va k t : Nat} {mv : Option Nat} {g : Nat → Option Nat} (H : SI n E ca h N S τ κ) (hn : n ≤ 5) (hN : N < 2 ^ 31) (hd : d < n) (en : num = nI k) (em : mark = nI t) (k1 : 1 ≤ k) (k2 : k ≤ N) (tS : t ≤ S) (ha : h a = some (.inr (0, [.int (nI k), .int (nI t), .ref q]))) (hL : LyOk h ca τ 16 q va mv g) (hW : WFx n E τ 16) : SI n E ca h N S (slP τ d num mark).2 (brK τ κ d a num mark) ∧ FR τ (slP τ d num mark).2 κ (brK τ κ d a num mark) := by
  unfold slP brK
  by_cases e1 : fsL (qS τ num d) 3 < 3
  · obtain ⟨I1, I2⟩ := se_inv (num := num) H hn hd (fsL (qS τ num d) 3) (by omega)
    rw [if_pos e1, if_pos e1]
    exact ⟨I1.st hn, I2.tr FR.st⟩
  · obtain ⟨I1, I2⟩ := se_inv (num := num) H hn hd 3 (Nat.le_refl _)
    rw [if_neg e1, if_neg e1]
    cases e2 : hoB (seT τ num d 3) d num mark with
    | true =>
      rw [if_pos rfl, if_pos rfl]
      exact ⟨I1, I2⟩
    | false =>
      rw [if_neg (by decide), if_neg (by decide)]
      have hu := ho_f e2
      subst en
      subst em
      have hm16 : ∀ i, i < 64 → gt (seT τ (nI k) d 3) 16 i = gt τ 16 i := fun i hi => I2.2.1 16 i (by decide) hi
      have hl : wrN (seT τ (nI k) d 3) d % 3 < 3 := Nat.mod_lt _ (by decide)
      exact ⟨I1.wc hd hn hl k1 k2 tS hN ha (hL.map hW hm16) (hW.map hm16) (fun j hj _ => hu j hj), I2.tr (FR.wc (by omega) hl)⟩
theorem ac_inv {a q va k t : Nat} {mv : Option Nat} {g : Nat → Option Nat} (H : SI n E ca h N S τ κ) (hn : n ≤ 5) (hN : N < 2 ^ 31) (en : num = nI k) (em : mark = nI t) (k1 : 1 ≤ k) (k2 : k ≤ N) (tS : t ≤ S) (ha : h a = some (.inr (0, [.int (nI k), .int (nI t), .ref q]))) (hL : LyOk h ca τ 16 q va mv g) (hW : WFx n E τ 16) : ∀ d, d ≤ n → SI n E ca h N S (acT τ num mark d) (acK τ κ a num mark d) ∧ FR τ (acT τ num mark d) κ (acK τ κ a num mark d)
  | 0, _ => ⟨H, FR.rf⟩
  | d + 1, hd => by
    obtain ⟨ih, fr⟩ := ac_inv H hn hN en em k1 k2 tS ha hL hW d (by omega)
    rw [acT_s, acK_s]
    split
    · have hm16 : ∀ i, i < 64 → gt (acT τ num mark d) 16 i = gt τ 16 i := fun i hi => fr.2.1 16 i (by decide) hi
      obtain ⟨J1, J2⟩ := sl_inv ih hn hN (show d < n by omega) en em k1 k2 tS ha (hL.map hW hm16) (hW.map hm16)
      exact ⟨J1, fr.tr J2⟩
    · exact ⟨ih, fr⟩
theorem slP_6d : (slP τ d num mark).2 6 d = τ 6 d ∨ (slP τ d num mark).2 6 d = τ 6 d + nI 1 := by
  unfold slP
  split
  · left
    show stT _ 6 d = _
    rw [stT_row (by decide), seT_6]
  · split
    · left
      show seT _ _ _ _ 6 d = _
      rw [seT_6]
    · right
      show wcT _ _ _ _ _ 6 d = _
      have h1 := wcT_6a (τ := seT τ num d 3) (k := nxN (seT τ num d 3) d) (mp := 16) (num := num) (mark := mark)
      have h2 : nxN (seT τ num d 3) d / 3 = d := by unfold nxN; omega
      rw [h2, seT_6] at h1
      exact h1
theorem ac_wr (h6 : ∀ d, d < 5 → ∃ k, τ 6 d = nI k ∧ k ≤ C) : ∀ d j, j < 5 → ∃ k, acT τ num mark d 6 j = nI k ∧ k ≤ C + 1
  | 0, j, hj => by
    obtain ⟨k, h1, h2⟩ := h6 j hj
    exact ⟨k, h1, by omega⟩
  | d + 1, j, hj => by
    rw [acT_s]
    split
    · by_cases e : j = d
      · subst e
        obtain ⟨k, h1, h2⟩ := h6 j hj
        have h3 := acT_6 τ num mark j j (Nat.le_refl _)
        rcases slP_6d (τ := acT τ num mark j) (num := num) (mark := mark) (d := j) with h4 | h4
        · exact ⟨k, by rw [h4, h3]; exact h1, by omega⟩
        · exact ⟨k + 1, by rw [h4, h3, h1, nI_add], by omega⟩
      · rw [slP_6 e]
        exact ac_wr h6 d j hj
    · exact ac_wr h6 d j hj
end ACI
section ACV
variable {bx : Nat → Nat} {ca : Nat → ClassId} {n E C : Nat} {τ : TS} {κ : Nat → Option Nat} {h : Nat → Option va_E}
theorem INV.more (H : INV bx ca n E C τ κ h) (hn : n ≤ 5) : INV bx ca n E (C + 1) τ κ h := H.same hn H.1 Ext.rf rfl rfl rfl H.2.2.2.2.2.2 (by obtain ⟨S, -, -, hI⟩ := H.2.2.2.2.1; exact hI.1) rfl rfl rfl (fun _ _ _ _ => rfl)
theorem INV.activate (H : INV bx ca n E C τ κ h) (hn : n ≤ 5) (hC : C + 1 < 2 ^ 31) : INV bx ca n E (C + 1) (acP τ n).2 (apK τ κ n) h := by
  have Hm := H.more hn
  unfold acP apK
  cases hup : tb (τ 0 5) with
  | true =>
    rw [if_pos rfl, if_pos rfl]
    exact Hm
  | false =>
    rw [if_neg (by decide), if_neg (by decide)]
    cases hc : chL τ n (3 * n) with
    | none => exact Hm
    | some b =>
      obtain ⟨hd, ⟨pa, q0, va0, mv0, g0, hP⟩, hw, ⟨k0, e2, k1, k2⟩, ⟨S, e4, sC, hI⟩, h6, ⟨kc, e6, kc4⟩⟩ := H
      have hb := chL_lt τ n (3 * n) b hc
      have hp := may_pos (chL_may τ n (3 * n) b hc)
      have h1 := (hI.2.1 (b / 3) (by omega)).1 (b % 3) (by omega)
      unfold SLI at h1
      rw [show 1 + 3 * (b / 3) + b % 3 = 1 + b by omega, show 3 * (b / 3) + b % 3 = b by omega] at h1
      rcases h1 with ⟨-, h2 | h2⟩ | ⟨a, q, va, mv, g, k, t, hk, ⟨en, kk1, kk2⟩, ⟨em, tS⟩, ha, hL, hW⟩
      · rw [h2] at hp
        exact absurd hp (by decide)
      · rw [h2] at hp
        exact absurd hp (by decide)
      · have hI1 : SI n E ca h C S (cpT τ b 16 64) κ := hI.same (by rw [cpT_row (by decide)]; exact hI.1) (cpT_row (by decide)) (cpT_row (by decide)) (fun m i a b => cp_lo (by omega) b) (fun _ => rfl) hn
        have hm16 : ∀ i, i < 64 → gt (cpT τ b 16 64) 16 i = gt τ b i := fun i hi => cp_hi hi
        have key := ac_inv (num := τ 4 b) (mark := τ 5 b) hI1 hn (by omega) en em kk1 kk2 tS ha (hL.map hW hm16) (hW.map hm16)
        have hwr := ac_wr (τ := cpT τ b 16 64) (num := τ 4 b) (mark := τ 5 b) (C := C) (by rw [cpT_row (by decide)]; exact h6)
        have ea : (κ (1 + b)).getD 0 = a := by rw [hk]; rfl
        show INV bx ca n E (C + 1) (acQ (cpT τ b 16 64) n (τ 4 b) (τ 5 b)).2 (aqK (cpT τ b 16 64) κ n ((κ (1 + b)).getD 0) (τ 4 b) (τ 5 b)) h
        rw [ea]
        unfold acQ aqK
        by_cases hf : fsL (qA (cpT τ b 16 64) (τ 4 b) (τ 5 b)) n < n
        · rw [if_pos hf, if_pos hf]
          obtain ⟨I1, I2⟩ := key (fsL (qA (cpT τ b 16 64) (τ 4 b) (τ 5 b)) n + 1) (by omega)
          have gj : ∀ j, j ≠ 5 → j ≠ 7 → j ≠ 8 → acT (cpT τ b 16 64) (τ 4 b) (τ 5 b) (fsL (qA (cpT τ b 16 64) (τ 4 b) (τ 5 b)) n + 1) 0 j = τ 0 j := fun j a b c => by
            rw [I2.1 j a b c, cpT_row (by decide)]
          have hm15 : ∀ i, i < 64 → gt (acT (cpT τ b 16 64) (τ 4 b) (τ 5 b) (fsL (qA (cpT τ b 16 64) (τ 4 b) (τ 5 b)) n + 1)) 15 i = gt τ 15 i := fun i hi => (I2.2.1 15 i (by decide) hi).trans (cp_lo (by decide) hi)
          refine ⟨hd, ⟨pa, q0, va0, mv0, g0, ?_, ?_, hP.2.2.map hw hm15⟩, hw.map hm15, ⟨k0, ?_, k1, by omega⟩, ⟨S, ?_, by omega, I1.ext Ext.rf (by omega) (Nat.le_refl _)⟩, hwr _, ⟨kc, ?_, kc4⟩⟩
          · rw [I2.2.2.1]
            exact hP.1
          · show h pa = some (.inr (0, [.int (acT _ _ _ _ 0 2), .int (acT _ _ _ _ 0 3), .ref q0]))
            rw [gj 2 (by decide) (by decide) (by decide), gj 3 (by decide) (by decide) (by decide)]
            exact hP.2.1
          · exact (gj 2 (by decide) (by decide) (by decide)).trans e2
          · exact (gj 4 (by decide) (by decide) (by decide)).trans e4
          · exact (gj 6 (by decide) (by decide) (by decide)).trans e6
        · rw [if_neg hf, if_neg hf]
          obtain ⟨I1, I2⟩ := key n (Nat.le_refl _)
          show INV bx ca n E (C + 1) (ac1 (acT (cpT τ b 16 64) (τ 4 b) (τ 5 b) n) (τ 4 b) (τ 5 b)) (va_up (acK (cpT τ b 16 64) κ a (τ 4 b) (τ 5 b) n) 0 (some a)) h
          have hT6 := hwr n
          generalize acT (cpT τ b 16 64) (τ 4 b) (τ 5 b) n = T at I1 I2 hT6 ⊢
          have er : ∀ j, j ≠ 3 → j ≠ 0 → ac1 T (τ 4 b) (τ 5 b) j = T j := fun j a b => by
            unfold ac1
            rw [ts_ne b, ts_ne b, ts_ne b, ts_ne b, cpT_row a]
          have e0 : ∀ j, j ≠ 2 → j ≠ 3 → j ≠ 5 → j ≠ 6 → ac1 T (τ 4 b) (τ 5 b) 0 j = T 0 j := fun j a b c d => by
            unfold ac1
            rw [ts_off c, ts_off d, ts_off b, ts_off a, cpT_row (by decide)]
          have e02 : ac1 T (τ 4 b) (τ 5 b) 0 2 = nI k := by
            unfold ac1
            rw [ts_off (by decide), ts_off (by decide), ts_off (by decide), ts_at]
            exact en
          have e03 : ac1 T (τ 4 b) (τ 5 b) 0 3 = nI t := by
            unfold ac1
            rw [ts_off (by decide), ts_off (by decide), ts_at]
            exact em
          have e06 : ac1 T (τ 4 b) (τ 5 b) 0 6 = nI 0 := by
            unfold ac1
            rw [ts_off (by decide), ts_at]
          have em3 : ∀ m i, m < 15 → i < 64 → gt (ac1 T (τ 4 b) (τ 5 b)) m i = gt T m i := fun m i a b => by
            unfold gt ac1
            rw [ts_ne (by decide), ts_ne (by decide), ts_ne (by decide), ts_ne (by decide)]
            unfold cpT
            rw [va_up_self, if_neg (by omega)]
          have hm15 : ∀ i, i < 64 → gt (ac1 T (τ 4 b) (τ 5 b)) 15 i = gt τ b i := fun i hi => by
            have q1 : gt (ac1 T (τ 4 b) (τ 5 b)) 15 i = gt T 16 i := by
              unfold gt ac1
              rw [ts_ne (by decide), ts_ne (by decide), ts_ne (by decide), ts_ne (by decide)]
              exact cpT_15 hi
            rw [q1, I2.2.1 16 i (by decide) hi]
            exact hm16 i hi
          refine ⟨hd, ⟨a, q, va, mv, g, va_up_self _ _ _, ?_, hL.map hW hm15⟩, hW.map hm15, ⟨k, e02, kk1, by omega⟩, ⟨S, ?_, by omega, ?_⟩, fun d hd5 => ?_, ⟨0, e06, by decide⟩⟩
          · rw [e02, e03]
            exact ha
          · rw [e0 4 (by decide) (by decide) (by decide) (by decide), I2.1 4 (by decide) (by decide) (by decide), cpT_row (by decide)]
            exact e4
          · refine (I1.ext Ext.rf (show C ≤ C + 1 by omega) (Nat.le_refl _)).same ?_ (er 4 (by decide) (by decide)) (er 5 (by decide) (by decide)) em3 (fun j => va_up_ne _ _ (by omega)) hn
            rw [e0 7 (by decide) (by decide) (by decide) (by decide), e0 8 (by decide) (by decide) (by decide) (by decide)]
            exact I1.1
          · rw [er 6 (by decide) (by decide)]
            exact hT6 d hd5
end ACV
