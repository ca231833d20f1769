/-! Committing: the class's way against the reference's. -/
def UqOk (σ : TS) (d : Nat) : Prop := ∀ i j, i < 3 → j < 3 → i ≠ j → σ 4 (3 * d + i) = σ 0 2 → σ 5 (3 * d + i) = σ 0 3 → ¬ (σ 4 (3 * d + j) = σ 0 2 ∧ σ 5 (3 * d + j) = σ 0 3)
theorem qW_qO {τ : TS} {κ : Nat → Option Nat} {h : Nat → Option va_E} {d : Nat} {num mark : Int32} (hS : ∀ i, i < 3 → SlOk τ κ h d i) (hn : 0 < num) (i : Nat) (hi : i < 3) : qW τ κ d num mark i = qO τ d num mark i := by
  unfold qW qO
  rcases hS i hi with ⟨h1, h2⟩ | ⟨a, q, h1, h2, h3⟩
  · rw [h1, decide_eq_false (fun q => h2 (by rw [q]; exact hn))]
    rfl
  · rw [h1]
    rfl
theorem bhN_lt (τ : TS) (κ : Nat → Option Nat) (d : Nat) (nb sb : Int32) : bhN τ κ d nb sb < 3 := by
  unfold bhN
  split <;> omega
theorem bh_sb {σ : TS} {κ : Nat → Option Nat} {h : Nat → Option va_E} {d : Nat} (hS : ∀ i, i < 3 → SlOk σ κ h d i) (hn : 0 < σ 0 2) (hu : UqOk σ d) : 3 * d + bhN σ κ d (σ 0 2) (σ 0 3) = sbL σ d 3 := by
  have hq : ∀ i, i < 3 → qW σ κ d (σ 0 2) (σ 0 3) i = qO σ d (σ 0 2) (σ 0 3) i := qW_qO hS hn
  have hO : ∀ i, qO σ d (σ 0 2) (σ 0 3) i = true ↔ σ 4 (3 * d + i) = σ 0 2 ∧ σ 5 (3 * d + i) = σ 0 3 := fun i => by unfold qO; simp
  have hF : ∀ i, ¬ (σ 4 (3 * d + i) = σ 0 2 ∧ σ 5 (3 * d + i) = σ 0 3) → qO σ d (σ 0 2) (σ 0 3) i = false := fun i hi => by
    cases hb : qO σ d (σ 0 2) (σ 0 3) i with
    | false => rfl
    | true => exact absurd ((hO i).mp hb) hi
  have hsb : sbL σ d 3 = if σ 4 (3 * d + 2) = σ 0 2 ∧ σ 5 (3 * d + 2) = σ 0 3 then 3 * d + 0 else if σ 4 (3 * d + 1) = σ 0 2 ∧ σ 5 (3 * d + 1) = σ 0 3 then 3 * d + 2 else if σ 4 (3 * d + 0) = σ 0 2 ∧ σ 5 (3 * d + 0) = σ 0 3 then 3 * d + 1 else nxN σ d := rfl
  rw [hsb]
  unfold bhN
  by_cases m0 : σ 4 (3 * d + 0) = σ 0 2 ∧ σ 5 (3 * d + 0) = σ 0 3
  · have f0 : fsL (qW σ κ d (σ 0 2) (σ 0 3)) 3 = 0 := fsL_hit (by rw [hq 0 (by decide)]; exact (hO 0).mpr m0) (fun j hj => absurd hj (by omega)) 3 (by decide)
    rw [f0, if_pos (by decide), if_neg (hu 0 2 (by decide) (by decide) (by decide) m0.1 m0.2), if_neg (hu 0 1 (by decide) (by decide) (by decide) m0.1 m0.2), if_pos m0]
  · by_cases m1 : σ 4 (3 * d + 1) = σ 0 2 ∧ σ 5 (3 * d + 1) = σ 0 3
    · have f1 : fsL (qW σ κ d (σ 0 2) (σ 0 3)) 3 = 1 := fsL_hit (by rw [hq 1 (by decide)]; exact (hO 1).mpr m1) (fun j hj => by
        obtain rfl : j = 0 := by omega
        rw [hq 0 (by decide)]
        exact hF 0 m0) 3 (by decide)
      rw [f1, if_pos (by decide), if_neg (hu 1 2 (by decide) (by decide) (by decide) m1.1 m1.2), if_pos m1]
    · by_cases m2 : σ 4 (3 * d + 2) = σ 0 2 ∧ σ 5 (3 * d + 2) = σ 0 3
      · have f2 : fsL (qW σ κ d (σ 0 2) (σ 0 3)) 3 = 2 := fsL_hit (by rw [hq 2 (by decide)]; exact (hO 2).mpr m2) (fun j hj => by
          rcases (show j = 0 ∨ j = 1 by omega) with rfl | rfl
          · rw [hq 0 (by decide)]; exact hF 0 m0
          · rw [hq 1 (by decide)]; exact hF 1 m1) 3 (by decide)
        rw [f2, if_pos (by decide), if_pos m2]
      · have f3 : fsL (qW σ κ d (σ 0 2) (σ 0 3)) 3 = 3 := fsL_miss (fun j hj => by
          rcases (show j = 0 ∨ j = 1 ∨ j = 2 by omega) with rfl | rfl | rfl
          · rw [hq 0 (by decide)]; exact hF 0 m0
          · rw [hq 1 (by decide)]; exact hF 1 m1
          · rw [hq 2 (by decide)]; exact hF 2 m2)
        rw [f3, if_neg (by decide), if_neg m2, if_neg m1, if_neg m0]
        rfl
theorem stT_02 {τ : TS} {j : Nat} (h5 : j ≠ 5) (h7 : j ≠ 7) (h8 : j ≠ 8) : stT τ 0 j = τ 0 j := by
  unfold stT
  split
  · rw [ts_off h5, ts_off h7, ts_off h8]
  · rw [ts_off h8]
theorem wcT_0 {τ : TS} {k mp : Nat} {num mark : Int32} : wcT τ k mp num mark 0 = stT τ 0 := by
  unfold wcT wc1
  split <;> rw [ts_ne (by decide), ts_ne (by decide), cpT_row (by decide), ts_ne (by decide)]
theorem wcT_1 {τ : TS} {k mp : Nat} {num mark : Int32} : wcT τ k mp num mark 1 = τ 1 := by
  unfold wcT wc1
  split <;> rw [ts_ne (by decide), ts_ne (by decide), cpT_row (by decide), ts_ne (by decide), stT_row (by decide)]
theorem cmT_s {τ : TS} {d : Nat} : cmT τ (d + 1) = if tb (cmT τ d 1 d) then wcT (cmT τ d) (sbL (cmT τ d) d 3) 16 (cmT τ d 0 2 + nI 1) (τ 0 4 + nI 1) else cmT τ d := rfl
theorem cmT_0j {τ : TS} {j : Nat} (h4 : j ≠ 4) (h5 : j ≠ 5) (h7 : j ≠ 7) (h8 : j ≠ 8) : ∀ d, cmT τ d 0 j = τ 0 j
  | 0 => ts_off h4
  | d + 1 => by
    rw [cmT_s]
    split
    · rw [wcT_0, stT_02 h5 h7 h8, cmT_0j h4 h5 h7 h8 d]
    · exact cmT_0j h4 h5 h7 h8 d
def cmK (τ : TS) (κ : Nat → Option Nat) (r : Nat) : Nat → Nat → Option Nat
  | 0 => κ
  | d + 1 => if tb (cmT τ d 1 d) then pkK (cmT τ d) (cmK τ κ r d) d (bhN (cmT τ d) (cmK τ κ r d) d (τ 0 2) (τ 0 3)) r else cmK τ κ r d
theorem cmK_s {τ : TS} {κ : Nat → Option Nat} {r d : Nat} : cmK τ κ r (d + 1) = if tb (cmT τ d 1 d) then pkK (cmT τ d) (cmK τ κ r d) d (bhN (cmT τ d) (cmK τ κ r d) d (τ 0 2) (τ 0 3)) r else cmK τ κ r d := rfl
theorem cmK_0 (τ : TS) (κ : Nat → Option Nat) (r : Nat) : ∀ d, cmK τ κ r d 0 = κ 0
  | 0 => rfl
  | d + 1 => by
    rw [cmK_s]
    split
    · unfold pkK
      rw [va_up_ne _ _ (by omega)]
      exact cmK_0 τ κ r d
    · exact cmK_0 τ κ r d
theorem cm_rest (τ : TS) (κ : Nat → Option Nat) (r : Nat) : ∀ d s, d ≤ s / 3 → (cmT τ d 4 s = τ 4 s ∧ cmT τ d 5 s = τ 5 s) ∧ cmK τ κ r d (1 + s) = κ (1 + s)
  | 0, s, _ => ⟨⟨congrFun (ts_ne (by decide)) s, congrFun (ts_ne (by decide)) s⟩, rfl⟩
  | d + 1, s, h => by
    have ih := cm_rest τ κ r d s (by omega)
    have hb := sbL_b (cmT τ d) d 3
    rw [cmT_s, cmK_s]
    split
    · have h1 := wcT_45 (τ := cmT τ d) (k := sbL (cmT τ d) d 3) (mp := 16) (num := cmT τ d 0 2 + nI 1) (mark := τ 0 4 + nI 1) (s := s) (by omega)
      have h2 := bhN_lt (cmT τ d) (cmK τ κ r d) d (τ 0 2) (τ 0 3)
      refine ⟨⟨h1.1.trans ih.1.1, h1.2.trans ih.1.2⟩, ?_⟩
      unfold pkK
      rw [va_up_ne _ _ (by omega)]
      exact ih.2
    · exact ih
theorem cmSl {τ : TS} {κ : Nat → Option Nat} {h : Nat → Option va_E} {r d i : Nat} (hS : SlOk τ κ h d i) (hi : i < 3) : SlOk (cmT τ d) (cmK τ κ r d) h d i := by
  have h1 := cm_rest τ κ r d (3 * d + i) (by omega)
  have e1 : 1 + (3 * d + i) = 1 + 3 * d + i := by omega
  rw [e1] at h1
  unfold SlOk
  rw [h1.1.1, h1.1.2, h1.2]
  exact hS
theorem cmUq {τ : TS} {d : Nat} (hu : UqOk τ d) : UqOk (cmT τ d) d := by
  intro i j hi hj hne
  have h1 := (cm_rest τ (fun _ => none) 0 d (3 * d + i) (by omega)).1
  have h2 := (cm_rest τ (fun _ => none) 0 d (3 * d + j) (by omega)).1
  rw [h1.1, h1.2, h2.1, h2.2, cmT_0j (by decide) (by decide) (by decide) (by decide), cmT_0j (by decide) (by decide) (by decide) (by decide)]
  exact hu i j hi hj hne
theorem cm_hac {τ : TS} (hac : tb (τ 0 7) = true → ¬ τ 0 8 < 0) : ∀ d, (∀ j, j < d → qC τ j = false) → tb (cmT τ d 0 7) = true → ¬ cmT τ d 0 8 < 0
  | 0, _ => by
    show tb (ts τ 0 4 _ 0 7) = true → ¬ ts τ 0 4 _ 0 8 < 0
    rw [ts_off (by decide), ts_off (by decide)]
    exact hac
  | d + 1, hG => by
    have ih := cm_hac hac d (fun j hj => hG j (by omega))
    rw [cmT_s]
    split
    · rename_i h1
      have hq := hG d (by omega)
      unfold qC at hq
      rw [h1] at hq
      rw [wcT_0]
      exact ac_st ih (by simpa using hq)
    · exact ih
def cmF (τ : TS) (κ : Nat → Option Nat) (n r : Nat) : Nat → Option Nat := if fsL (qC τ) n < n then cmK τ κ r (fsL (qC τ) n + 1) else va_up (cmK τ κ r n) 0 (some r)
section CMW
variable {bx rl : Nat → Nat} {ca : Nat → ClassId} {n E d r : Nat} {τ : TS} {κ : Nat → Option Nat} {tk : Nat → Int32} {h hw : Nat → Option va_E}
theorem cm_next (hS : ∀ i, i < 3 → SlOk τ κ h d i) (hn : 0 < τ 0 2) (hu : UqOk τ d) (h1 : tb (cmT τ d 1 d) = true) : cw bx rl ca n E (cmT τ (d + 1)) (cmK τ κ r (d + 1)) tk hw = cw bx rl ca n E (pkT (cmT τ d) d (bhN (cmT τ d) (cmK τ κ r d) d (τ 0 2) (τ 0 3)) (τ 0 2 + nI 1)) (pkK (cmT τ d) (cmK τ κ r d) d (bhN (cmT τ d) (cmK τ κ r d) d (τ 0 2) (τ 0 3)) r) tk hw := by
  have e2 : cmT τ d 0 2 = τ 0 2 := cmT_0j (by decide) (by decide) (by decide) (by decide) d
  have e3 : cmT τ d 0 3 = τ 0 3 := cmT_0j (by decide) (by decide) (by decide) (by decide) d
  have hb := bh_sb (σ := cmT τ d) (κ := cmK τ κ r d) (h := h) (fun i hi => cmSl (hS i hi) hi) (by rw [e2]; exact hn) (cmUq hu)
  rw [e2, e3] at hb
  rw [cmT_s, cmK_s, h1, if_pos rfl, if_pos rfl, e2, ← hb]
  exact (cw_pk (bhN_lt _ _ _ _ _)).symm
theorem cmw_keep (h1 : tb (cmT τ d 1 d) = false) : cw bx rl ca n E (cmT τ (d + 1)) (cmK τ κ r (d + 1)) tk hw = cw bx rl ca n E (cmT τ d) (cmK τ κ r d) tk hw := by
  rw [cmT_s, cmK_s, h1, if_neg (by decide), if_neg (by decide)]
theorem cm_stopw (hG : ∀ j, j < d → qC τ j = false) (hd : d < n) (h1 : tb (cmT τ d 1 d) = true) (h2 : (!stB (cmT τ d)) = false) : cw bx rl ca n E (cmT τ (d + 1)) (cmK τ κ r (d + 1)) tk hw = cw bx rl ca n E (cmW τ n) (cmF τ κ n r) tk hw := by
  have hq : qC τ d = true := by
    unfold qC
    rw [h1]
    simpa using h2
  unfold cmW cmF
  rw [fsL_hit hq hG n hd, if_pos hd, if_pos hd]
theorem cm_donew (hG : ∀ j, j < n → qC τ j = false) : cw bx rl ca n E (cmT τ n) (va_up (cmK τ κ r n) 0 (some r)) tk hw = cw bx rl ca n E (cmW τ n) (cmF τ κ n r) tk hw := by
  rw [(cm_done hG).2]
  unfold cmF
  rw [fsL_miss hG, if_neg (Nat.lt_irrefl _), cw_row3]
  refine (cw_same ?_ (by rw [ts_ne (by decide), ts_ne (by decide)]) (by rw [ts_ne (by decide), ts_ne (by decide)]) (cw_t_eq (by rw [ts_ne (by decide), ts_ne (by decide)])) (by rw [ts_ne (by decide), ts_ne (by decide)])).symm
  have e0 : ∀ j, j ≠ 2 → j ≠ 3 → ts (ts (cmT τ n) 0 2 (cmT τ n 0 2 + nI 1)) 0 3 (τ 0 4 + nI 1) 0 j = cmT τ n 0 j := fun j h2 h3 => by rw [ts_off h3, ts_off h2]
  unfold cw_e acI
  rw [e0 4 (by decide) (by decide), e0 5 (by decide) (by decide), e0 6 (by decide) (by decide), e0 7 (by decide) (by decide), e0 8 (by decide) (by decide)]
end CMW
