/-! The invariant; a commit keeps it. -/
section CMI
variable {n E N S C : Nat} {ca : Nat → ClassId} {h : Nat → Option va_E} {σ τ : TS} {κ : Nat → Option Nat}
theorem UQ.uq {d : Nat} (hu : UQ τ d) (hp : 0 < τ 0 2) : UqOk τ d := fun i j hi hj hne h4 h5 hq => hu i j hi hj hne (by rw [h4]; exact hp) ⟨h4.trans hq.1.symm, h5.trans hq.2.symm⟩
/-- a copy with a newer stamp is in no slot -/
theorem SLI.new {d i k : Nat} (H : SLI n E ca h N S τ κ d i) (hk : 1 ≤ k) (hk2 : k < 2 ^ 31) (hS : S + 1 < 2 ^ 31) : ¬ (τ 4 (3 * d + i) = nI k ∧ τ 5 (3 * d + i) = nI (S + 1)) := fun hq => by
  have hg := nI_gt hk hk2
  rcases H with ⟨-, h2 | h2⟩ | ⟨a, q, va, mv, g, k', t, -, -, h6, -⟩
  · rw [← hq.1, h2] at hg
    exact absurd hg (by decide)
  · rw [← hq.1, h2] at hg
    exact absurd hg (by decide)
  · have h7 := hq.2
    rw [h6.1] at h7
    have h8 := (nI_eq (by omega) hS).mp h7
    omega
theorem cm_inv {r ly va k0 : Nat} {mv : Option Nat} {g : Nat → Option Nat} (H : SI n E ca h N S σ κ) (hn : n ≤ 5) (hN : N + 1 < 2 ^ 31) (hS1 : S + 1 < 2 ^ 31) (h2 : σ 0 2 = nI k0) (hk1 : 1 ≤ k0) (hk2 : k0 ≤ N) (h4 : σ 0 4 = nI S) (hr : h r = some (.inr (0, [.int (nI (k0 + 1)), .int (nI (S + 1)), .ref ly]))) (hL : LyOk h ca σ 16 ly va mv g) (hW : WFx n E σ 16) : ∀ d, d ≤ n → SI n E ca h (N + 1) (S + 1) (cmT σ d) (cmK σ κ r d) ∧ FR (cmT σ 0) (cmT σ d) κ (cmK σ κ r d)
  | 0, _ => by
    refine ⟨?_, FR.rf⟩
    have e : cmT σ 0 = ts σ 0 4 (σ 0 4 + nI 1) := rfl
    rw [e]
    refine SI.ext Ext.rf (Nat.le_succ _) (Nat.le_succ _) (H.same ?_ (ts_ne (by decide)) (ts_ne (by decide)) (fun m i _ _ => congrFun (ts_ne (by decide)) _) (fun _ => rfl) hn)
    rw [ts_off (by decide), ts_off (by decide)]
    exact H.1
  | d + 1, hd => by
    obtain ⟨ih, fr⟩ := cm_inv H hn hN hS1 h2 hk1 hk2 h4 hr hL hW d (by omega)
    rw [cmT_s, cmK_s]
    split
    · rename_i h1
      have e2 : cmT σ d 0 2 = σ 0 2 := cmT_0j (by decide) (by decide) (by decide) (by decide) d
      have e3 : cmT σ d 0 3 = σ 0 3 := cmT_0j (by decide) (by decide) (by decide) (by decide) d
      have hp : 0 < cmT σ d 0 2 := by rw [e2, h2]; exact nI_gt hk1 (by omega)
      have hb := bh_sb (σ := cmT σ d) (κ := cmK σ κ r d) (h := h) (fun i hi => ((ih.2.1 d (by omega)).1 i hi).sl (by omega)) hp ((ih.2.1 d (by omega)).2.uq hp)
      rw [e2, e3] at hb
      have hl := bhN_lt (cmT σ d) (cmK σ κ r d) d (σ 0 2) (σ 0 3)
      rw [← hb, e2, h2, h4, nI_add, nI_add]
      rw [h2] at hl
      have hm16 : ∀ i, i < 64 → gt (cmT σ d) 16 i = gt σ 16 i := fun i hi => cmT_3 (by decide) hi d (by omega)
      refine ⟨ih.wc (by omega) hn hl (by omega) (by omega) (Nat.le_refl _) hN hr (hL.map hW hm16) (hW.map hm16) (fun j hj _ => ?_), fr.tr (FR.wc (by omega) hl)⟩
      have h5 := (cm_rest σ κ r d (3 * d + j) (by omega)).1
      rw [h5.1, h5.2]
      exact ((H.2.1 d (by omega)).1 j hj).new (by omega) (by omega) hS1
    · exact ⟨ih, fr⟩
theorem cm_wr (h6 : ∀ d, d < 5 → ∃ k, σ 6 d = nI k ∧ k ≤ C) : ∀ d j, j < 5 → ∃ k, cmT σ d 6 j = nI k ∧ k ≤ C + 1
  | 0, j, hj => by
    obtain ⟨k, h1, h2⟩ := h6 j hj
    exact ⟨k, by show ts σ 0 4 _ 6 j = _; rw [ts_ne (by decide)]; exact h1, by omega⟩
  | d + 1, j, hj => by
    have hb := sbL_b (cmT σ d) d 3
    rw [cmT_s]
    split
    · by_cases e : j = d
      · subst e
        obtain ⟨k, h1, h2⟩ := h6 j hj
        have h3 : sbL (cmT σ j) j 3 / 3 = j := by omega
        have h4 := wcT_6a (τ := cmT σ j) (k := sbL (cmT σ j) j 3) (mp := 16) (num := cmT σ j 0 2 + nI 1) (mark := σ 0 4 + nI 1)
        rw [h3, cmT_6 σ j j (Nat.le_refl _), h1, nI_add] at h4
        exact ⟨k + 1, h4, by omega⟩
      · rw [wcT_6 (by omega)]
        exact cm_wr h6 d j hj
    · exact cm_wr h6 d j hj
end CMI
def INV (bx : Nat → Nat) (ca : Nat → ClassId) (n E C : Nat) (τ : TS) (κ : Nat → Option Nat) (h : Nat → Option va_E) : Prop := HD bx n h ∧ (∃ pa q va mv g, PrOk h ca τ κ pa q va mv g) ∧ WFx n E τ 15 ∧ (∃ k, τ 0 2 = nI k ∧ 1 ≤ k ∧ k ≤ C) ∧ (∃ S, τ 0 4 = nI S ∧ S ≤ C ∧ SI n E ca h C S τ κ) ∧ (∀ d, d < 5 → ∃ k, τ 6 d = nI k ∧ k ≤ C) ∧ ∃ k, τ 0 6 = nI k ∧ k ≤ 4
section INVS
variable {bx : Nat → Nat} {ca : Nat → ClassId} {n E C : Nat} {σ τ : TS} {κ κ' : Nat → Option Nat} {h h' : Nat → Option va_E}
theorem INV.commit (H : INV bx ca n E C τ κ h) (hn : n ≤ 5) (hC : C + 1 < 2 ^ 31) (hs : SameR σ τ) (hm : ∀ m i, m < 16 → i < 64 → gt σ m i = gt τ m i) (hW : WFx n E σ 16) (hR : CmRes bx ca n σ κ h κ' h') : INV bx ca n E (C + 1) (cmW σ n) κ' h' := by
  obtain ⟨hd, ⟨pa, q, va0, mv0, g0, hP⟩, hw, ⟨k0, e2, k1, k2⟩, ⟨S, e4, sC, hI⟩, h6, ⟨kc, e6, kc4⟩⟩ := H
  obtain ⟨ly, va, mv, g, h1, r, x1, hd1, hL, nr, hd2, eh, ek⟩ := hR
  obtain ⟨s0, s1, s2, s4, s5, s6⟩ := hs
  have f2 : σ 0 2 = nI k0 := by rw [s0]; exact e2
  have f4 : σ 0 4 = nI S := by rw [s0]; exact e4
  have x2 : Ext h1 h' := by rw [eh]; exact Ext.up nr
  have x := x1.tr x2
  have hr : h' r = some (.inr (0, [.int (nI (k0 + 1)), .int (nI (S + 1)), .ref ly])) := by rw [eh, va_up_self, f2, f4, nI_add, nI_add]
  have hI1 : SI n E ca h' C S σ κ := (hI.same (by rw [s0]; exact hI.1) s4 s5 (fun m i a b => hm m i (by omega) b) (fun _ => rfl) hn).ext x (Nat.le_refl _) (Nat.le_refl _)
  have hL2 := hL.ext x2
  have key := cm_inv hI1 hn hC (by omega) f2 k1 k2 f4 hr hL2 hW
  have hwr := cm_wr (σ := σ) (C := C) (by rw [s6]; exact h6)
  have g4 : ∀ d, d ≤ n → cmT σ d 0 4 = nI (S + 1) := fun d hd => by
    rw [(key d hd).2.1 4 (by decide) (by decide) (by decide)]
    show ts σ 0 4 _ 0 4 = _
    rw [ts_at, f4, nI_add]
  have gj : ∀ j, j ≠ 4 → j ≠ 5 → j ≠ 7 → j ≠ 8 → ∀ d, cmT σ d 0 j = τ 0 j := fun j a b c e d => by
    rw [cmT_0j a b c e d, s0]
  by_cases hf : fsL (qC σ) n < n
  · have ew : cmW σ n = cmT σ (fsL (qC σ) n + 1) := by unfold cmW; rw [if_pos hf]
    have ekk : κ' = cmK σ κ r (fsL (qC σ) n + 1) := by rw [ek]; unfold cmF; rw [if_pos hf]
    obtain ⟨I1, I2⟩ := key (fsL (qC σ) n + 1) (by omega)
    have hm15 : ∀ i, i < 64 → gt (cmT σ (fsL (qC σ) n + 1)) 15 i = gt τ 15 i := fun i hi => (cmT_3 (by decide) hi _ (by omega)).trans (hm 15 i (by decide) hi)
    rw [ew, ekk]
    refine ⟨hd2, ⟨pa, q, va0, mv0, g0, ?_, ?_, (hP.2.2.map hw hm15).ext x⟩, hw.map hm15, ⟨k0, ?_, k1, by omega⟩, ⟨S + 1, g4 _ (by omega), by omega, I1⟩, hwr _, ⟨kc, ?_, kc4⟩⟩
    · rw [I2.2.2.1]
      exact hP.1
    · rw [gj 2 (by decide) (by decide) (by decide) (by decide), gj 3 (by decide) (by decide) (by decide) (by decide)]
      exact x _ _ hP.2.1
    · rw [gj 2 (by decide) (by decide) (by decide) (by decide)]
      exact e2
    · rw [gj 6 (by decide) (by decide) (by decide) (by decide)]
      exact e6
  · have ew : cmW σ n = cpT (ts (ts (cmT σ n) 0 2 ((cmT σ n) 0 2 + nI 1)) 0 3 (σ 0 4 + nI 1)) 16 15 64 := by unfold cmW; rw [if_neg hf]
    have ekk : κ' = va_up (cmK σ κ r n) 0 (some r) := by rw [ek]; unfold cmF; rw [if_neg hf]
    have hb : cmB σ n = true := by unfold cmB; rw [decide_eq_false hf]; rfl
    obtain ⟨I1, I2⟩ := key n (Nat.le_refl _)
    have hm15 : ∀ i, i < 64 → gt (cmW σ n) 15 i = gt σ 16 i := fun i hi => cmW_15 hn hi hb
    have er : ∀ j, j ≠ 3 → j ≠ 0 → cmW σ n j = cmT σ n j := fun j a b => by
      rw [ew, cpT_row a, ts_ne b, ts_ne b]
    have e0 : ∀ j, j ≠ 2 → j ≠ 3 → cmW σ n 0 j = cmT σ n 0 j := fun j a b => by
      rw [ew, cpT_row (by decide), ts_off b, ts_off a]
    have e02 : cmW σ n 0 2 = nI (k0 + 1) := by
      rw [ew, cpT_row (by decide), ts_off (by decide), ts_at, gj 2 (by decide) (by decide) (by decide) (by decide), e2, nI_add]
    have e03 : cmW σ n 0 3 = nI (S + 1) := by
      rw [ew, cpT_row (by decide), ts_at, f4, nI_add]
    have em : ∀ m i, m < 15 → i < 64 → gt (cmW σ n) m i = gt (cmT σ n) m i := fun m i a b => by
      unfold gt
      rw [ew]
      unfold cpT
      rw [va_up_self, if_neg (by omega), ts_ne (by decide), ts_ne (by decide)]
    refine ⟨hd2, ⟨r, ly, va, mv, g, ?_, ?_, hL2.map hW hm15⟩, hW.map hm15, ⟨k0 + 1, e02, by omega, by omega⟩, ⟨S + 1, ?_, by omega, ?_⟩, fun d hd5 => ?_, ⟨kc, ?_, kc4⟩⟩
    · rw [ekk]
      exact va_up_self _ _ _
    · rw [e02, e03]
      exact hr
    · rw [e0 4 (by decide) (by decide)]
      exact g4 n (Nat.le_refl _)
    · refine I1.same ?_ (er 4 (by decide) (by decide)) (er 5 (by decide) (by decide)) em (fun j => ?_) hn
      · rw [e0 7 (by decide) (by decide), e0 8 (by decide) (by decide)]
        exact I1.1
      · rw [ekk]
        exact va_up_ne _ _ (by omega)
    · rw [er 6 (by decide) (by decide)]
      exact hwr n d hd5
    · rw [e0 6 (by decide) (by decide), gj 6 (by decide) (by decide) (by decide) (by decide)]
      exact e6
/-- what no commit is in -/
theorem INV.same (H : INV bx ca n E C τ κ h) (hn : n ≤ 5) (hd : HD bx n h') (x : Ext h h') (e2 : σ 0 2 = τ 0 2) (e3 : σ 0 3 = τ 0 3) (e4 : σ 0 4 = τ 0 4) (e6 : ∃ k, σ 0 6 = nI k ∧ k ≤ 4) (hac : tb (σ 0 7) = true → ¬ σ 0 8 < 0) (r4 : σ 4 = τ 4) (r5 : σ 5 = τ 5) (r6 : σ 6 = τ 6) (hm : ∀ m i, m < 16 → i < 64 → gt σ m i = gt τ m i) : INV bx ca n E (C + 1) σ κ h' := by
  obtain ⟨-, ⟨pa, q, va0, mv0, g0, hP⟩, hw, ⟨k0, a2, k1, k2⟩, ⟨S, a4, sC, hI⟩, h6, -⟩ := H
  have h15 : ∀ i, i < 64 → gt σ 15 i = gt τ 15 i := fun i hi => hm 15 i (by decide) hi
  refine ⟨hd, ⟨pa, q, va0, mv0, g0, hP.1, ?_, (hP.2.2.map hw h15).ext x⟩, hw.map h15, ⟨k0, by rw [e2]; exact a2, k1, by omega⟩, ⟨S, by rw [e4]; exact a4, by omega, (hI.same hac r4 r5 (fun m i a b => hm m i (by omega) b) (fun _ => rfl) hn).ext x (by omega) (Nat.le_refl _)⟩, fun d hd5 => ?_, e6⟩
  · rw [e2, e3]
    exact x _ _ hP.2.1
  · rw [r6]
    obtain ⟨k, b1, b2⟩ := h6 d hd5
    exact ⟨k, b1, by omega⟩
theorem INV.cm (H : INV bx ca n E C τ κ h) (hn : n ≤ 5) (hC : C + 1 < 2 ^ 31) : CmOk n τ κ h := by
  obtain ⟨-, -, -, ⟨k0, a2, k1, k2⟩, ⟨S, a4, sC, hI⟩, h6, -⟩ := H
  have hp : 0 < τ 0 2 := by rw [a2]; exact nI_gt k1 (by omega)
  refine ⟨fun d hd i hi => ((hI.2.1 d hd).1 i hi).sl (by omega), hI.1, fun d hd => ?_, fun d hd => ?_, hp, ?_, fun d hd => (hI.2.1 d hd).2.uq hp⟩
  · obtain ⟨k, b1, b2⟩ := h6 d hd
    rw [b1]
    exact nI_pos (by omega)
  · obtain ⟨k, b1, b2⟩ := h6 d hd
    unfold wrN
    rw [b1, nI_clamp (by omega)]
    omega
  · rw [a2, nI_add]
    exact nI_gt (by omega) (by omega)
theorem INV.sl (H : INV bx ca n E C τ κ h) (hC : C + 1 < 2 ^ 31) : ∀ s, s < 15 → τ 4 s = -11 ∨ 0 ≤ τ 4 s := fun s hs => by
  obtain ⟨-, -, -, -, ⟨S, a4, sC, hI⟩, -, -⟩ := H
  by_cases e : 3 * n ≤ s
  · rw [hI.2.2 s e]
    exact Or.inr (by decide)
  · have e1 : 3 * (s / 3) + s % 3 = s := by omega
    have h1 := (hI.2.1 (s / 3) (by omega)).1 (s % 3) (by omega)
    unfold SLI at h1
    rw [e1] at h1
    rcases h1 with ⟨-, h2 | h2⟩ | ⟨a, q, va, mv, g, k, t, -, h2, -⟩
    · exact Or.inl h2
    · rw [h2]
      exact Or.inr (by decide)
    · rw [h2.1]
      exact Or.inr (nI_pos' (by omega))
end INVS
