variable {l : Launch} {D : va_G} {tys : List (ClassId × FieldType)} {A : Nat → Prop} {bx rl : Nat → Nat} {ca : Nat → ClassId} {n E : Nat} {τ : TS} {κ : Nat → Option Nat} {tk : Nat → Int32} {h : Nat → Option va_E}
theorem ct_C_isSame (hx : CX bx rl ca tys n E) (hh : HD bx n h) {a la b lb : Nat} {na sa nb sb : Int32} (ha : h a = some (.inr (0, [.int na, .int sa, .ref la]))) (hb : h b = some (.inr (0, [.int nb, .int sb, .ref lb]))) : CC l y_C_isSame c_C_isSame 2 (some .boolean) 0 D tys A (cw bx rl ca n E τ κ tk h) [.ref a, .ref b] (some (.int (bI (decide (na = nb) && decide (sa = sb))))) (cw bx rl ca n E τ κ tk h) := by
  obtain ⟨hn2, hn5⟩ := hx.2.2.1
  obtain ⟨hE2, hE10⟩ := hx.2.2.2
  refine CC.of (own := R_C) rfl (by decide) (Nat.le_of_ble_eq_true rfl) (cat_all rfl) ?_
  intro pp ee ss mm aa bb me cd hc hK hO hr hk hA
  refine AW.to (lv' := [some (.ref a), some (.ref b)]) rfl rfl rfl ?_
  refine a_aload_n (pc' := 1) hc d_C_isSame_0 rfl rfl rfl ?_
  refine c_getH (pc' := 4) hc hK in_C rfl hh ha 0 (v := .int na) (by decide) rfl fl_C_7 d_C_isSame_1 rfl ?_
  refine a_aload_n (pc' := 5) hc d_C_isSame_4 rfl rfl rfl ?_
  refine c_getH (pc' := 8) hc hK in_C rfl hh hb 0 (v := .int nb) (by decide) rfl fl_C_7 d_C_isSame_5 rfl ?_
  refine a_icmp_ne (pc' := 11) (tgt := 26) hc d_C_isSame_8 rfl rfl (fun h8 => ?_) (fun h8 => ?_)
  · skip
    refine a_iconst (pc' := 27) (v := nI 0) hc d_C_isSame_26 rfl (by decide) ?_
    exact a_zret hc hr hk (Or.inl rfl) d_C_isSame_27 (e_i (by first | rfl | (simp only [bI, h8]; done) | (simp [bI, h8]; done)) (rfl))
  · skip
    refine a_aload_n (pc' := 12) hc d_C_isSame_11 rfl rfl rfl ?_
    refine c_getH (pc' := 15) hc hK in_C rfl hh ha 1 (v := .int sa) (by decide) rfl fl_C_13 d_C_isSame_12 rfl ?_
    refine a_aload_n (pc' := 16) hc d_C_isSame_15 rfl rfl rfl ?_
    refine c_getH (pc' := 19) hc hK in_C rfl hh hb 1 (v := .int sb) (by decide) rfl fl_C_13 d_C_isSame_16 rfl ?_
    refine a_icmp_ne (pc' := 22) (tgt := 26) hc d_C_isSame_19 rfl rfl (fun h19 => ?_) (fun h19 => ?_)
    · skip
      refine a_iconst (pc' := 27) (v := nI 0) hc d_C_isSame_26 rfl (by decide) ?_
      exact a_zret hc hr hk (Or.inl rfl) d_C_isSame_27 (e_i (by first | rfl | (simp only [bI, h8, h19]; done) | (simp [bI, h8, h19]; done)) (rfl))
    · skip
      refine a_iconst (pc' := 23) (v := nI 1) hc d_C_isSame_22 rfl (by decide) ?_
      refine a_goto (tgt := 27) hc d_C_isSame_23 rfl ?_
      exact a_zret hc hr hk (Or.inr rfl) d_C_isSame_27 (e_i (by first | rfl | (simp only [bI, h8, h19]; done) | (simp [bI, h8, h19]; done)) (rfl))
theorem ct_D_slotWith (hx : CX bx rl ca tys n E) (hh : HD bx n h) {d b lb : Nat} {nb sb : Int32} (hd : d < n) (hS : ∀ i, i < 3 → SlOk τ κ h d i) (hb : h b = some (.inr (0, [.int nb, .int sb, .ref lb]))) : CC l y_D_slotWith c_D_slotWith 3 (some .int) 1 D tys A (cw bx rl ca n E τ κ tk h) [.ref (bx (3 + 4 * d)), .ref b] (some (.int (swI τ κ d nb sb))) (cw bx rl ca n E τ κ tk h) := by
  obtain ⟨hn2, hn5⟩ := hx.2.2.1
  obtain ⟨hE2, hE10⟩ := hx.2.2.2
  refine CC.of (own := R_D) rfl (by decide) (Nat.le_of_ble_eq_true rfl) (cat_all rfl) ?_
  intro pp ee ss mm aa bb me cd hc hK hO hr hk hA
  refine AW.to (lv' := [some (.ref (bx (3 + 4 * d))), some (.ref b), none]) rfl rfl rfl ?_
  refine a_iconst (pc' := 1) (v := nI 0) hc d_D_slotWith_0 rfl (by decide) ?_
  refine a_istore_n (pc' := 2) hc d_D_slotWith_1 rfl rfl (by decide) ?_
  refine AW.loopG 3 0 (fun i2 => cw bx rl ca n E τ κ tk h) (fun i2 => [some (.ref (bx (3 + 4 * d))), some (.ref b), some (.int (nI i2))]) (fun i2 => ∀ j, j < i2 → qW τ κ d nb sb j = false) (Nat.zero_le _) (fun j hj => absurd hj (by omega)) rfl rfl (fun i2 hle2 hG2 ih2 => ?_)
  try dsimp only at hG2 ih2 ⊢
  refine a_iload_n (pc' := 3) hc d_D_slotWith_2 rfl rfl rfl ?_
  refine a_iconst (pc' := 4) (v := nI 3) hc d_D_slotWith_3 rfl (by decide) ?_
  refine a_ncmp_ge (pc' := 7) (tgt := 37) hc d_D_slotWith_4 rfl rfl (by omega) (by omega) (fun h4 => ?_) (fun h4 => ?_)
  · skip
    have hex4 : i2 = 3 := by omega
    subst i2
    refine a_iconst (pc' := 38) (v := -1) hc d_D_slotWith_37 rfl (by decide) ?_
    exact a_iret hc hr hk d_D_slotWith_38 (e_i (sw_miss hG2) (rfl))
  · skip
    refine a_aload_n (pc' := 8) hc d_D_slotWith_7 rfl rfl rfl ?_
    refine c_getD (pc' := 11) hc hK hx d 1 (v := .ref (bx (5 + 4 * d))) (by omega) (by decide) rfl fl_D_17 d_D_slotWith_8 rfl ?_
    refine a_iload_n (pc' := 12) hc d_D_slotWith_11 rfl rfl rfl ?_
    refine c_kald (pc' := 13) hc hK hx d i2 (by omega) (by omega) d_D_slotWith_12 rfl ?_
    refine a_ifnull (pc' := 16) (tgt := 31) hc d_D_slotWith_13 rfl rfl (fun h13 => ?_) (fun a13 h13 => ?_)
    · skip
      try rw [h13]
      refine a_ninc (pc' := 34) hc d_D_slotWith_31 rfl rfl (by decide) ?_
      refine a_goto (tgt := 2) hc d_D_slotWith_34 rfl ?_
      exact AW.to rfl rfl rfl (ih2 (by omega) (allf_s hG2 (by unfold qW; rw [h13]; rfl)))
    · skip
      try rw [h13]
      obtain ⟨l13, hp13, hC13⟩ := (hS i2 (by omega)).some h13
      refine a_aload_n (pc' := 17) hc d_D_slotWith_16 rfl rfl rfl ?_
      refine c_getD (pc' := 20) hc hK hx d 1 (v := .ref (bx (5 + 4 * d))) (by omega) (by decide) rfl fl_D_17 d_D_slotWith_17 rfl ?_
      refine a_iload_n (pc' := 21) hc d_D_slotWith_20 rfl rfl rfl ?_
      refine c_kald (pc' := 22) hc hK hx d i2 (by omega) (by omega) d_D_slotWith_21 rfl ?_
      refine AW.top (y := .ref a13) (by rw [h13]; rfl) ?_
      refine a_aload_n (pc' := 23) hc d_D_slotWith_22 rfl rfl rfl ?_
      refine c_calli (pc' := 26) hc hK hO hA (a13) [.ref b] [] (ct_C_isSame hx hh (τ := τ) (κ := κ) (tk := tk) (h := h) (a := a13) (la := l13) (b := b) (lb := lb) (na := τ 4 (3 * d + i2)) (sa := τ 5 (3 * d + i2)) (nb := nb) (sb := sb) hC13 hb) ml_D_33 hd_C_isSame ⟨by decide, by decide⟩ rfl rfl (Nat.le_of_ble_eq_true rfl) (cw_h hh hC13) rfl rfl d_D_slotWith_23 rfl ?_
      refine a_ifb_eq (pc' := 29) (tgt := 31) hc d_D_slotWith_26 rfl rfl (fun h26 => ?_) (fun h26 => ?_)
      · skip
        refine a_ninc (pc' := 34) hc d_D_slotWith_31 rfl rfl (by decide) ?_
        refine a_goto (tgt := 2) hc d_D_slotWith_34 rfl ?_
        exact AW.to rfl rfl rfl (ih2 (by omega) (allf_s hG2 (by unfold qW; rw [h26, Bool.and_false])))
      · skip
        refine a_iload_n (pc' := 30) hc d_D_slotWith_29 rfl rfl rfl ?_
        exact a_iret hc hr hk d_D_slotWith_30 (e_i (sw_hit hG2 (by unfold qW; rw [h13, h26]; rfl) (by omega)) (rfl))
theorem ct_D_slotBehind (hx : CX bx rl ca tys n E) (hh : HD bx n h) {d b lb : Nat} {nb sb : Int32} (hd : d < n) (hS : ∀ i, i < 3 → SlOk τ κ h d i) (hb : h b = some (.inr (0, [.int nb, .int sb, .ref lb]))) : CC l y_D_slotBehind c_D_slotBehind 3 (some .int) 2 D tys A (cw bx rl ca n E τ κ tk h) [.ref (bx (3 + 4 * d)), .ref b] (some (.int (nI (bhN τ κ d nb sb)))) (cw bx rl ca n E τ κ tk h) := by
  obtain ⟨hn2, hn5⟩ := hx.2.2.1
  obtain ⟨hE2, hE10⟩ := hx.2.2.2
  refine CC.of (own := R_D) rfl (by decide) (Nat.le_of_ble_eq_true rfl) (cat_all rfl) ?_
  intro pp ee ss mm aa bb me cd hc hK hO hr hk hA
  refine AW.to (lv' := [some (.ref (bx (3 + 4 * d))), some (.ref b), none]) rfl rfl rfl ?_
  refine a_aload_n (pc' := 1) hc d_D_slotBehind_0 rfl rfl rfl ?_
  refine a_aload_n (pc' := 2) hc d_D_slotBehind_1 rfl rfl rfl ?_
  refine c_calli (pc' := 5) hc hK hO hA (bx (3 + 4 * d)) [.ref b] [] (ct_D_slotWith hx hh (τ := τ) (κ := κ) (tk := tk) (h := h) (d := d) (b := b) (lb := lb) (nb := nb) (sb := sb) (by omega) hS hb) ml_D_37 hd_D_slotWith ⟨by decide, by decide⟩ rfl rfl (Nat.le_of_ble_eq_true rfl) (cw_d0 hx (by omega)) rfl rfl d_D_slotBehind_2 rfl ?_
  refine a_istore_n (pc' := 6) hc d_D_slotBehind_5 rfl rfl (by decide) ?_
  refine a_iload_n (pc' := 7) hc d_D_slotBehind_6 rfl rfl rfl ?_
  refine a_iconst (pc' := 8) (v := -1) hc d_D_slotBehind_7 rfl (by decide) ?_
  refine a_icmp_ne (pc' := 11) (tgt := 18) hc d_D_slotBehind_8 rfl rfl (fun h8 => ?_) (fun h8 => ?_)
  · skip
    obtain ⟨q, hq3, eq1, eq2⟩ := swI_some h8
    refine AW.lvi 2 (y := nI q) rfl eq1 ?_
    refine a_iload_n (pc' := 19) hc d_D_slotBehind_18 rfl rfl rfl ?_
    refine a_iconst (pc' := 20) (v := nI 1) hc d_D_slotBehind_19 rfl (by decide) ?_
    refine a_nadd (pc' := 21) hc d_D_slotBehind_20 rfl ?_
    refine a_iconst (pc' := 22) (v := nI 3) hc d_D_slotBehind_21 rfl (by decide) ?_
    refine a_nrem (pc' := 23) hc d_D_slotBehind_22 rfl (by omega) (by omega) (by omega) ?_
    exact a_iret hc hr hk d_D_slotBehind_23 (e_i (by first | rw [eq2] | rw [swI_none h8]) (rfl))
  · skip
    refine a_aload_n (pc' := 12) hc d_D_slotBehind_11 rfl rfl rfl ?_
    refine c_getD (pc' := 15) hc hK hx d 3 (v := .int (nI (wrN τ d % 3))) (by omega) (by decide) rfl fl_D_25 d_D_slotBehind_12 rfl ?_
    refine a_goto (tgt := 23) hc d_D_slotBehind_15 rfl ?_
    exact a_iret hc hr hk d_D_slotBehind_23 (e_i (by first | rw [eq2] | rw [swI_none h8]) (rfl))
theorem ct_L_volumeAt (hx : CX bx rl ca tys n E) (hh : HD bx n h) {a va : Nat} {mv : Option Nat} {g : Nat → Option Nat} {v : Int32} (ha : h a = some (.inr (2, [.ref va, va_rf mv]))) (hva : h va = some (.inl (ca 4, 4, .inr (.inr (.inr (.inr g)))))) : CC l y_L_volumeAt c_L_volumeAt 2 (some (.object "ExtentGroup$Volume")) 0 D tys A (cw bx rl ca n E τ κ tk h) [.ref a, .int v] (some (va_rf (vaQ g v))) (cw bx rl ca n E τ κ tk h) := by
  obtain ⟨hn2, hn5⟩ := hx.2.2.1
  obtain ⟨hE2, hE10⟩ := hx.2.2.2
  refine CC.of (own := R_L) rfl (by decide) (Nat.le_of_ble_eq_true rfl) (cat_all rfl) ?_
  intro pp ee ss mm aa bb me cd hc hK hO hr hk hA
  refine AW.to (lv' := [some (.ref a), some (.int v)]) rfl rfl rfl ?_
  refine a_iload_n (pc' := 1) hc d_L_volumeAt_0 rfl rfl rfl ?_
  refine a_if_lt (pc' := 4) (tgt := 18) hc d_L_volumeAt_1 rfl rfl (fun h1 => ?_) (fun h1 => ?_)
  · skip
    refine a_null (pc' := 19) hc d_L_volumeAt_18 rfl ?_
    exact a_aret (x := none) hc hr (Or.inl ⟨_, rfl⟩) hk d_L_volumeAt_19 (e_r (by first | rfl | (simp only [vaQ, h1]; done) | (simp [vaQ, h1]; done)) (rfl))
  · skip
    refine a_iload_n (pc' := 5) hc d_L_volumeAt_4 rfl rfl rfl ?_
    refine a_iconst (pc' := 6) (v := nI 4) hc d_L_volumeAt_5 rfl (by decide) ?_
    refine a_icmp_ge (pc' := 9) (tgt := 18) hc d_L_volumeAt_6 rfl rfl (fun h6 => ?_) (fun h6 => ?_)
    · skip
      refine a_null (pc' := 19) hc d_L_volumeAt_18 rfl ?_
      exact a_aret (x := none) hc hr (Or.inl ⟨_, rfl⟩) hk d_L_volumeAt_19 (e_r (by first | rfl | (simp only [vaQ, h1, h6]; done) | (simp [vaQ, h1, h6]; done)) (rfl))
    · skip
      obtain ⟨j, hj, ej, cj⟩ := ix_of (by decide) h1 h6
      subst ej
      refine a_aload_n (pc' := 10) hc d_L_volumeAt_9 rfl rfl rfl ?_
      refine c_getH (pc' := 13) hc hK in_L rfl hh ha 0 (v := .ref va) (by decide) rfl fl_L_9 d_L_volumeAt_10 rfl ?_
      refine a_iload_n (pc' := 14) hc d_L_volumeAt_13 rfl rfl rfl ?_
      refine c_aaldH (pc' := 15) hc hK hx hh hva j (by omega) d_L_volumeAt_14 rfl ?_
      refine a_goto (tgt := 19) hc d_L_volumeAt_15 rfl ?_
      exact a_aret (x := g j) hc hr (Or.inl ⟨_, rfl⟩) hk d_L_volumeAt_19 (e_r (by first | rfl | (simp only [vaQ, h1, h6, cj]; done) | (simp [vaQ, h1, h6, cj]; done)) (rfl))
theorem ct_L_leastAbsent (hx : CX bx rl ca tys n E) (hh : HD bx n h) {a va : Nat} {mv : Option Nat} {g : Nat → Option Nat} (ha : h a = some (.inr (2, [.ref va, va_rf mv]))) (hva : h va = some (.inl (ca 4, 4, .inr (.inr (.inr (.inr g)))))) : CC l y_L_leastAbsent c_L_leastAbsent 2 (some .int) 0 D tys A (cw bx rl ca n E τ κ tk h) [.ref a] (some (.int (laI g))) (cw bx rl ca n E τ κ tk h) := by
  obtain ⟨hn2, hn5⟩ := hx.2.2.1
  obtain ⟨hE2, hE10⟩ := hx.2.2.2
  refine CC.of (own := R_L) rfl (by decide) (Nat.le_of_ble_eq_true rfl) (cat_all rfl) ?_
  intro pp ee ss mm aa bb me cd hc hK hO hr hk hA
  refine AW.to (lv' := [some (.ref a), none]) rfl rfl rfl ?_
  refine a_iconst (pc' := 1) (v := nI 0) hc d_L_leastAbsent_0 rfl (by decide) ?_
  refine a_istore_n (pc' := 2) hc d_L_leastAbsent_1 rfl rfl (by decide) ?_
  refine AW.loopG 4 0 (fun i2 => cw bx rl ca n E τ κ tk h) (fun i2 => [some (.ref a), some (.int (nI i2))]) (fun i2 => ∀ j, j < i2 → (fun i => (g i).isNone) j = false) (Nat.zero_le _) (fun j hj => absurd hj (by omega)) rfl rfl (fun i2 hle2 hG2 ih2 => ?_)
  try dsimp only at hG2 ih2 ⊢
  refine a_iload_n (pc' := 3) hc d_L_leastAbsent_2 rfl rfl rfl ?_
  refine a_iconst (pc' := 4) (v := nI 4) hc d_L_leastAbsent_3 rfl (by decide) ?_
  refine a_ncmp_ge (pc' := 7) (tgt := 24) hc d_L_leastAbsent_4 rfl rfl (by omega) (by omega) (fun h4 => ?_) (fun h4 => ?_)
  · skip
    have hex4 : i2 = 4 := by omega
    subst i2
    refine a_iconst (pc' := 25) (v := -1) hc d_L_leastAbsent_24 rfl (by decide) ?_
    exact a_iret hc hr hk d_L_leastAbsent_25 (e_i (la_miss hG2) (rfl))
  · skip
    refine a_aload_n (pc' := 8) hc d_L_leastAbsent_7 rfl rfl rfl ?_
    refine c_getH (pc' := 11) hc hK in_L rfl hh ha 0 (v := .ref va) (by decide) rfl fl_L_9 d_L_leastAbsent_8 rfl ?_
    refine a_iload_n (pc' := 12) hc d_L_leastAbsent_11 rfl rfl rfl ?_
    refine c_aaldH (pc' := 13) hc hK hx hh hva i2 (by omega) d_L_leastAbsent_12 rfl ?_
    refine a_ifnonnull (pc' := 16) (tgt := 18) hc d_L_leastAbsent_13 rfl rfl (fun a13 h13 => ?_) (fun h13 => ?_)
    · skip
      try rw [h13]
      refine a_ninc (pc' := 21) hc d_L_leastAbsent_18 rfl rfl (by decide) ?_
      refine a_goto (tgt := 2) hc d_L_leastAbsent_21 rfl ?_
      exact AW.to rfl rfl rfl (ih2 (by omega) (allf_s (q := fun i => (g i).isNone) hG2 (by show (g i2).isNone = false; rw [h13]; rfl)))
    · skip
      try rw [h13]
      refine a_iload_n (pc' := 17) hc d_L_leastAbsent_16 rfl rfl rfl ?_
      exact a_iret hc hr hk d_L_leastAbsent_17 (e_i (la_hit hG2 (by rw [h13]; rfl) (by omega)) (rfl))
theorem ct_U_hasExtent (hx : CX bx rl ca tys n E) (hh : HD bx n h) {a pl pn : Nat} {w s rc k : Int32} {g : Nat → Int32} (ha : h a = some (.inr (3, [.int w, .int s, .int rc, .ref pl]))) (hpl : h pl = some (.inl (ca 0, pn, .inl g)) ∧ pn < 2 ^ 31) : CC l y_U_hasExtent c_U_hasExtent 2 (some .boolean) 0 D tys A (cw bx rl ca n E τ κ tk h) [.ref a, .int k] (some (.int (bI (!decide (k < 0) && !decide (nI pn ≤ k))))) (cw bx rl ca n E τ κ tk h) := by
  obtain ⟨hn2, hn5⟩ := hx.2.2.1
  obtain ⟨hE2, hE10⟩ := hx.2.2.2
  refine CC.of (own := R_U) rfl (by decide) (Nat.le_of_ble_eq_true rfl) (cat_all rfl) ?_
  intro pp ee ss mm aa bb me cd hc hK hO hr hk hA
  refine AW.to (lv' := [some (.ref a), some (.int k)]) rfl rfl rfl ?_
  refine a_iload_n (pc' := 1) hc d_U_hasExtent_0 rfl rfl rfl ?_
  refine a_if_lt (pc' := 4) (tgt := 17) hc d_U_hasExtent_1 rfl rfl (fun h1 => ?_) (fun h1 => ?_)
  · skip
    refine a_iconst (pc' := 18) (v := nI 0) hc d_U_hasExtent_17 rfl (by decide) ?_
    exact a_zret hc hr hk (Or.inl rfl) d_U_hasExtent_18 (e_i (by first | rfl | (simp only [bI, h1]; done) | (simp [bI, h1]; done)) (rfl))
  · skip
    refine a_iload_n (pc' := 5) hc d_U_hasExtent_4 rfl rfl rfl ?_
    refine a_aload_n (pc' := 6) hc d_U_hasExtent_5 rfl rfl rfl ?_
    refine c_getH (pc' := 9) hc hK in_U rfl hh ha 3 (v := .ref pl) (by decide) rfl fl_U_21 d_U_hasExtent_6 rfl ?_
    refine c_alenH (pc' := 10) hc hK hx hh hpl d_U_hasExtent_9 rfl ?_
    refine a_icmp_ge (pc' := 13) (tgt := 17) hc d_U_hasExtent_10 rfl rfl (fun h10 => ?_) (fun h10 => ?_)
    · skip
      refine a_iconst (pc' := 18) (v := nI 0) hc d_U_hasExtent_17 rfl (by decide) ?_
      exact a_zret hc hr hk (Or.inl rfl) d_U_hasExtent_18 (e_i (by first | rfl | (simp only [bI, h1, h10]; done) | (simp [bI, h1, h10]; done)) (rfl))
    · skip
      refine a_iconst (pc' := 14) (v := nI 1) hc d_U_hasExtent_13 rfl (by decide) ?_
      refine a_goto (tgt := 18) hc d_U_hasExtent_14 rfl ?_
      exact a_zret hc hr hk (Or.inr rfl) d_U_hasExtent_18 (e_i (by first | rfl | (simp only [bI, h1, h10]; done) | (simp [bI, h1, h10]; done)) (rfl))
theorem ct_U_hasBlock (hx : CX bx rl ca tys n E) (hh : HD bx n h) {a pl pn : Nat} {w s rc k : Int32} {g : Nat → Int32} (ha : h a = some (.inr (3, [.int w, .int s, .int rc, .ref pl]))) (hpl : h pl = some (.inl (ca 0, pn, .inl g)) ∧ pn < 2 ^ 31) : CC l y_U_hasBlock c_U_hasBlock 2 (some .boolean) 0 D tys A (cw bx rl ca n E τ κ tk h) [.ref a, .int k] (some (.int (bI (!decide (k < 0) && !decide (nI (4 * pn) ≤ k))))) (cw bx rl ca n E τ κ tk h) := by
  obtain ⟨hn2, hn5⟩ := hx.2.2.1
  obtain ⟨hE2, hE10⟩ := hx.2.2.2
  refine CC.of (own := R_U) rfl (by decide) (Nat.le_of_ble_eq_true rfl) (cat_all rfl) ?_
  intro pp ee ss mm aa bb me cd hc hK hO hr hk hA
  refine AW.to (lv' := [some (.ref a), some (.int k)]) rfl rfl rfl ?_
  refine a_iload_n (pc' := 1) hc d_U_hasBlock_0 rfl rfl rfl ?_
  refine a_if_lt (pc' := 4) (tgt := 19) hc d_U_hasBlock_1 rfl rfl (fun h1 => ?_) (fun h1 => ?_)
  · skip
    refine a_iconst (pc' := 20) (v := nI 0) hc d_U_hasBlock_19 rfl (by decide) ?_
    exact a_zret hc hr hk (Or.inl rfl) d_U_hasBlock_20 (e_i (by first | rfl | (simp only [bI, h1]; done) | (simp [bI, h1]; done)) (rfl))
  · skip
    refine a_iload_n (pc' := 5) hc d_U_hasBlock_4 rfl rfl rfl ?_
    refine a_iconst (pc' := 6) (v := nI 4) hc d_U_hasBlock_5 rfl (by decide) ?_
    refine a_aload_n (pc' := 7) hc d_U_hasBlock_6 rfl rfl rfl ?_
    refine c_getH (pc' := 10) hc hK in_U rfl hh ha 3 (v := .ref pl) (by decide) rfl fl_U_21 d_U_hasBlock_7 rfl ?_
    refine c_alenH (pc' := 11) hc hK hx hh hpl d_U_hasBlock_10 rfl ?_
    refine a_nmul (pc' := 12) hc d_U_hasBlock_11 rfl ?_
    refine a_icmp_ge (pc' := 15) (tgt := 19) hc d_U_hasBlock_12 rfl rfl (fun h12 => ?_) (fun h12 => ?_)
    · skip
      refine a_iconst (pc' := 20) (v := nI 0) hc d_U_hasBlock_19 rfl (by decide) ?_
      exact a_zret hc hr hk (Or.inl rfl) d_U_hasBlock_20 (e_i (by first | rfl | (simp only [bI, h1, h12]; done) | (simp [bI, h1, h12]; done)) (rfl))
    · skip
      refine a_iconst (pc' := 16) (v := nI 1) hc d_U_hasBlock_15 rfl (by decide) ?_
      refine a_goto (tgt := 20) hc d_U_hasBlock_16 rfl ?_
      exact a_zret hc hr hk (Or.inr rfl) d_U_hasBlock_20 (e_i (by first | rfl | (simp only [bI, h1, h12]; done) | (simp [bI, h1, h12]; done)) (rfl))
theorem ct_U_extentOf (hx : CX bx rl ca tys n E) (hh : HD bx n h) {a pl w s b : Nat} {rc : Int32} (ha : h a = some (.inr (3, [.int (nI w), .int (nI s), .int rc, .ref pl]))) (hw0 : 0 < w) (hw4 : w ≤ 4) (hs0 : 0 < s) (hs4 : s ≤ 4) (hb : b < 2 ^ 30) : CC l y_U_extentOf c_U_extentOf 4 (some .int) 0 D tys A (cw bx rl ca n E τ κ tk h) [.ref a, .int (nI b)] (some (.int (nI (eoN w s b)))) (cw bx rl ca n E τ κ tk h) := by
  obtain ⟨hn2, hn5⟩ := hx.2.2.1
  obtain ⟨hE2, hE10⟩ := hx.2.2.2
  have hmd : b % (4 * w) < 4 * w := Nat.mod_lt _ (by omega)
  have hdv : b % (4 * w) / s ≤ b % (4 * w) := Nat.div_le_self _ _
  refine CC.of (own := R_U) rfl (by decide) (Nat.le_of_ble_eq_true rfl) (cat_all rfl) ?_
  intro pp ee ss mm aa bb me cd hc hK hO hr hk hA
  refine AW.to (lv' := [some (.ref a), some (.int (nI b)), none, none]) rfl rfl rfl ?_
  refine a_iload_n (pc' := 1) hc d_U_extentOf_0 rfl rfl rfl ?_
  refine a_iconst (pc' := 2) (v := nI 4) hc d_U_extentOf_1 rfl (by decide) ?_
  refine a_aload_n (pc' := 3) hc d_U_extentOf_2 rfl rfl rfl ?_
  refine c_getH (pc' := 6) hc hK in_U rfl hh ha 0 (v := .int (nI w)) (by decide) rfl fl_U_9 d_U_extentOf_3 rfl ?_
  refine a_nmul (pc' := 7) hc d_U_extentOf_6 rfl ?_
  refine a_ndiv (pc' := 8) hc d_U_extentOf_7 rfl (by omega) (by omega) (by omega) ?_
  refine a_istore_n (pc' := 9) hc d_U_extentOf_8 rfl rfl (by decide) ?_
  refine a_iload_n (pc' := 10) hc d_U_extentOf_9 rfl rfl rfl ?_
  refine a_iconst (pc' := 11) (v := nI 4) hc d_U_extentOf_10 rfl (by decide) ?_
  refine a_aload_n (pc' := 12) hc d_U_extentOf_11 rfl rfl rfl ?_
  refine c_getH (pc' := 15) hc hK in_U rfl hh ha 0 (v := .int (nI w)) (by decide) rfl fl_U_9 d_U_extentOf_12 rfl ?_
  refine a_nmul (pc' := 16) hc d_U_extentOf_15 rfl ?_
  refine a_nrem (pc' := 17) hc d_U_extentOf_16 rfl (by omega) (by omega) (by omega) ?_
  refine a_istore_n (pc' := 18) hc d_U_extentOf_17 rfl rfl (by decide) ?_
  refine a_aload_n (pc' := 19) hc d_U_extentOf_18 rfl rfl rfl ?_
  refine c_getH (pc' := 22) hc hK in_U rfl hh ha 0 (v := .int (nI w)) (by decide) rfl fl_U_9 d_U_extentOf_19 rfl ?_
  refine a_iload_n (pc' := 23) hc d_U_extentOf_22 rfl rfl rfl ?_
  refine a_nmul (pc' := 24) hc d_U_extentOf_23 rfl ?_
  refine a_iload_n (pc' := 25) hc d_U_extentOf_24 rfl rfl rfl ?_
  refine a_aload_n (pc' := 26) hc d_U_extentOf_25 rfl rfl rfl ?_
  refine c_getH (pc' := 29) hc hK in_U rfl hh ha 1 (v := .int (nI s)) (by decide) rfl fl_U_15 d_U_extentOf_26 rfl ?_
  refine a_ndiv (pc' := 30) hc d_U_extentOf_29 rfl (by omega) (by omega) (by omega) ?_
  refine a_aload_n (pc' := 31) hc d_U_extentOf_30 rfl rfl rfl ?_
  refine c_getH (pc' := 34) hc hK in_U rfl hh ha 0 (v := .int (nI w)) (by decide) rfl fl_U_9 d_U_extentOf_31 rfl ?_
  refine a_nrem (pc' := 35) hc d_U_extentOf_34 rfl (by omega) (by omega) (by omega) ?_
  refine a_nadd (pc' := 36) hc d_U_extentOf_35 rfl ?_
  exact a_iret hc hr hk d_U_extentOf_36 (e_i (by first | rfl | (simp only []; done) | (simp []; done)) (rfl))
theorem ct_U_cellOf (hx : CX bx rl ca tys n E) (hh : HD bx n h) {a pl w s b : Nat} {rc : Int32} (ha : h a = some (.inr (3, [.int (nI w), .int (nI s), .int rc, .ref pl]))) (hw0 : 0 < w) (hw4 : w ≤ 4) (hs0 : 0 < s) (hs4 : s ≤ 4) (hb : b < 2 ^ 30) : CC l y_U_cellOf c_U_cellOf 3 (some .int) 0 D tys A (cw bx rl ca n E τ κ tk h) [.ref a, .int (nI b)] (some (.int (nI (coN w s b)))) (cw bx rl ca n E τ κ tk h) := by
  obtain ⟨hn2, hn5⟩ := hx.2.2.1
  obtain ⟨hE2, hE10⟩ := hx.2.2.2
  have hmd : b % (4 * w) < 4 * w := Nat.mod_lt _ (by omega)
  have hdv : b % (4 * w) / s ≤ b % (4 * w) := Nat.div_le_self _ _
  refine CC.of (own := R_U) rfl (by decide) (Nat.le_of_ble_eq_true rfl) (cat_all rfl) ?_
  intro pp ee ss mm aa bb me cd hc hK hO hr hk hA
  refine AW.to (lv' := [some (.ref a), some (.int (nI b)), none]) rfl rfl rfl ?_
  refine a_iload_n (pc' := 1) hc d_U_cellOf_0 rfl rfl rfl ?_
  refine a_iconst (pc' := 2) (v := nI 4) hc d_U_cellOf_1 rfl (by decide) ?_
  refine a_aload_n (pc' := 3) hc d_U_cellOf_2 rfl rfl rfl ?_
  refine c_getH (pc' := 6) hc hK in_U rfl hh ha 0 (v := .int (nI w)) (by decide) rfl fl_U_9 d_U_cellOf_3 rfl ?_
  refine a_nmul (pc' := 7) hc d_U_cellOf_6 rfl ?_
  refine a_nrem (pc' := 8) hc d_U_cellOf_7 rfl (by omega) (by omega) (by omega) ?_
  refine a_istore_n (pc' := 9) hc d_U_cellOf_8 rfl rfl (by decide) ?_
  refine a_iload_n (pc' := 10) hc d_U_cellOf_9 rfl rfl rfl ?_
  refine a_aload_n (pc' := 11) hc d_U_cellOf_10 rfl rfl rfl ?_
  refine c_getH (pc' := 14) hc hK in_U rfl hh ha 1 (v := .int (nI s)) (by decide) rfl fl_U_15 d_U_cellOf_11 rfl ?_
  refine a_ndiv (pc' := 15) hc d_U_cellOf_14 rfl (by omega) (by omega) (by omega) ?_
  refine a_aload_n (pc' := 16) hc d_U_cellOf_15 rfl rfl rfl ?_
  refine c_getH (pc' := 19) hc hK in_U rfl hh ha 0 (v := .int (nI w)) (by decide) rfl fl_U_9 d_U_cellOf_16 rfl ?_
  refine a_ndiv (pc' := 20) hc d_U_cellOf_19 rfl (by omega) (by omega) (by omega) ?_
  refine a_aload_n (pc' := 21) hc d_U_cellOf_20 rfl rfl rfl ?_
  refine c_getH (pc' := 24) hc hK in_U rfl hh ha 1 (v := .int (nI s)) (by decide) rfl fl_U_15 d_U_cellOf_21 rfl ?_
  refine a_nmul (pc' := 25) hc d_U_cellOf_24 rfl ?_
  refine a_iload_n (pc' := 26) hc d_U_cellOf_25 rfl rfl rfl ?_
  refine a_aload_n (pc' := 27) hc d_U_cellOf_26 rfl rfl rfl ?_
  refine c_getH (pc' := 30) hc hK in_U rfl hh ha 1 (v := .int (nI s)) (by decide) rfl fl_U_15 d_U_cellOf_27 rfl ?_
  refine a_nrem (pc' := 31) hc d_U_cellOf_30 rfl (by omega) (by omega) (by omega) ?_
  refine a_nadd (pc' := 32) hc d_U_cellOf_31 rfl ?_
  exact a_iret hc hr hk d_U_cellOf_32 (e_i (by first | rfl | (simp only []; done) | (simp []; done)) (rfl))
theorem ct_E_isDisk (hx : CX bx rl ca tys n E) (hh : HD bx n h) {d : Int32} : CC l y_E_isDisk c_E_isDisk 2 (some .boolean) 0 D tys A (cw bx rl ca n E τ κ tk h) [.ref (bx 0), .int d] (some (.int (bI (dkB n d)))) (cw bx rl ca n E τ κ tk h) := by
  obtain ⟨hn2, hn5⟩ := hx.2.2.1
  obtain ⟨hE2, hE10⟩ := hx.2.2.2
  refine CC.of (own := R_E) rfl (by decide) (Nat.le_of_ble_eq_true rfl) (cat_all rfl) ?_
  intro pp ee ss mm aa bb me cd hc hK hO hr hk hA
  refine AW.to (lv' := [some (.ref (bx 0)), some (.int d)]) rfl rfl rfl ?_
  refine a_iload_n (pc' := 1) hc d_E_isDisk_0 rfl rfl rfl ?_
  refine a_if_lt (pc' := 4) (tgt := 17) hc d_E_isDisk_1 rfl rfl (fun h1 => ?_) (fun h1 => ?_)
  · skip
    refine a_iconst (pc' := 18) (v := nI 0) hc d_E_isDisk_17 rfl (by decide) ?_
    exact a_zret hc hr hk (Or.inl rfl) d_E_isDisk_18 (e_i (by first | rfl | (simp only [dkB, bI, h1]; done) | (simp [dkB, bI, h1]; done)) (rfl))
  · skip
    refine a_iload_n (pc' := 5) hc d_E_isDisk_4 rfl rfl rfl ?_
    refine a_aload_n (pc' := 6) hc d_E_isDisk_5 rfl rfl rfl ?_
    refine c_getE (pc' := 9) hc hK hx 1 (v := .ref (bx 1)) (by decide) (rfl) fl_E_36 d_E_isDisk_6 rfl ?_
    refine c_dlen (pc' := 10) hc hK hx d_E_isDisk_9 rfl ?_
    refine a_icmp_ge (pc' := 13) (tgt := 17) hc d_E_isDisk_10 rfl rfl (fun h10 => ?_) (fun h10 => ?_)
    · skip
      refine a_iconst (pc' := 18) (v := nI 0) hc d_E_isDisk_17 rfl (by decide) ?_
      exact a_zret hc hr hk (Or.inl rfl) d_E_isDisk_18 (e_i (by first | rfl | (simp only [dkB, bI, h1, h10]; done) | (simp [dkB, bI, h1, h10]; done)) (rfl))
    · skip
      refine a_iconst (pc' := 14) (v := nI 1) hc d_E_isDisk_13 rfl (by decide) ?_
      refine a_goto (tgt := 18) hc d_E_isDisk_14 rfl ?_
      exact a_zret hc hr hk (Or.inr rfl) d_E_isDisk_18 (e_i (by first | rfl | (simp only [dkB, bI, h1, h10]; done) | (simp [dkB, bI, h1, h10]; done)) (rfl))
theorem ct_E_diskOf (hx : CX bx rl ca tys n E) (hh : HD bx n h) {q : Nat} (hq : q / 16 < n) (hq2 : q < 2 ^ 31) : CC l y_E_diskOf c_E_diskOf 2 (some (.object "ExtentGroup$Disk")) 0 D tys A (cw bx rl ca n E τ κ tk h) [.ref (bx 0), .int (nI q)] (some (.ref (bx (3 + 4 * (q / 16))))) (cw bx rl ca n E τ κ tk h) := by
  obtain ⟨hn2, hn5⟩ := hx.2.2.1
  obtain ⟨hE2, hE10⟩ := hx.2.2.2
  refine CC.of (own := R_E) rfl (by decide) (Nat.le_of_ble_eq_true rfl) (cat_all rfl) ?_
  intro pp ee ss mm aa bb me cd hc hK hO hr hk hA
  refine AW.to (lv' := [some (.ref (bx 0)), some (.int (nI q))]) rfl rfl rfl ?_
  refine a_aload_n (pc' := 1) hc d_E_diskOf_0 rfl rfl rfl ?_
  refine c_getE (pc' := 4) hc hK hx 1 (v := .ref (bx 1)) (by decide) (rfl) fl_E_36 d_E_diskOf_1 rfl ?_
  refine a_iload_n (pc' := 5) hc d_E_diskOf_4 rfl rfl rfl ?_
  refine a_bipush (pc' := 7) (v := nI 16) hc d_E_diskOf_5 rfl (by decide) ?_
  refine a_ndiv (pc' := 8) hc d_E_diskOf_7 rfl (by omega) (by omega) (by omega) ?_
  refine c_ald (pc' := 9) hc hK hx (q / 16) (by omega) d_E_diskOf_8 rfl ?_
  exact a_aret (x := some (bx (3 + 4 * (q / 16)))) hc hr (Or.inl ⟨_, rfl⟩) hk d_E_diskOf_9 (e_r (rfl) (rfl))
theorem ct_E_isQuorum (hx : CX bx rl ca tys n E) (hh : HD bx n h) {q : Nat} (hq : q < 2 ^ 29) : CC l y_E_isQuorum c_E_isQuorum 2 (some .boolean) 0 D tys A (cw bx rl ca n E τ κ tk h) [.ref (bx 0), .int (nI q)] (some (.int (bI (quB n q)))) (cw bx rl ca n E τ κ tk h) := by
  obtain ⟨hn2, hn5⟩ := hx.2.2.1
  obtain ⟨hE2, hE10⟩ := hx.2.2.2
  refine CC.of (own := R_E) rfl (by decide) (Nat.le_of_ble_eq_true rfl) (cat_all rfl) ?_
  intro pp ee ss mm aa bb me cd hc hK hO hr hk hA
  refine AW.to (lv' := [some (.ref (bx 0)), some (.int (nI q))]) rfl rfl rfl ?_
  refine a_iconst (pc' := 1) (v := nI 2) hc d_E_isQuorum_0 rfl (by decide) ?_
  refine a_iload_n (pc' := 2) hc d_E_isQuorum_1 rfl rfl rfl ?_
  refine a_nmul (pc' := 3) hc d_E_isQuorum_2 rfl ?_
  refine a_aload_n (pc' := 4) hc d_E_isQuorum_3 rfl rfl rfl ?_
  refine c_getE (pc' := 7) hc hK hx 1 (v := .ref (bx 1)) (by decide) (rfl) fl_E_36 d_E_isQuorum_4 rfl ?_
  refine c_dlen (pc' := 8) hc hK hx d_E_isQuorum_7 rfl ?_
  refine a_ncmp_le (pc' := 11) (tgt := 15) hc d_E_isQuorum_8 rfl rfl (by omega) (by omega) (fun h8 => ?_) (fun h8 => ?_)
  · skip
    refine a_iconst (pc' := 16) (v := nI 0) hc d_E_isQuorum_15 rfl (by decide) ?_
    exact a_zret hc hr hk (Or.inl rfl) d_E_isQuorum_16 (e_i (by first | rfl | (simp [quB, bI, h8]; done) | (simp [quB, bI, h8]; omega)) (rfl))
  · skip
    refine a_iconst (pc' := 12) (v := nI 1) hc d_E_isQuorum_11 rfl (by decide) ?_
    refine a_goto (tgt := 16) hc d_E_isQuorum_12 rfl ?_
    exact a_zret hc hr hk (Or.inr rfl) d_E_isQuorum_16 (e_i (by first | rfl | (simp [quB, bI, h8]; done) | (simp [quB, bI, h8]; omega)) (rfl))
theorem ct_E_isFew (hx : CX bx rl ca tys n E) (hh : HD bx n h)  : CC l y_E_isFew c_E_isFew 3 (some .boolean) 1 D tys A (cw bx rl ca n E τ κ tk h) [.ref (bx 0)] (some (.int (bI (fewB τ n)))) (cw bx rl ca n E τ κ tk h) := by
  obtain ⟨hn2, hn5⟩ := hx.2.2.1
  obtain ⟨hE2, hE10⟩ := hx.2.2.2
  refine CC.of (own := R_E) rfl (by decide) (Nat.le_of_ble_eq_true rfl) (cat_all rfl) ?_
  intro pp ee ss mm aa bb me cd hc hK hO hr hk hA
  refine AW.to (lv' := [some (.ref (bx 0)), none, none]) rfl rfl rfl ?_
  refine a_iconst (pc' := 1) (v := nI 0) hc d_E_isFew_0 rfl (by decide) ?_
  refine a_istore_n (pc' := 2) hc d_E_isFew_1 rfl rfl (by decide) ?_
  refine a_iconst (pc' := 3) (v := nI 0) hc d_E_isFew_2 rfl (by decide) ?_
  refine a_istore_n (pc' := 4) hc d_E_isFew_3 rfl rfl (by decide) ?_
  refine AW.lvi 1 (y := nI (cntL 0 (qH τ))) rfl (by first | rfl | (simp only [cntL_s, cntL_0, qH, fewB, bI]; done) | (simp [cntL_s, cntL_0, qH, fewB, bI]; done)) ?_
  refine AW.loop n 0 (fun d4 => cw bx rl ca n E τ κ tk h) (fun d4 => [some (.ref (bx 0)), some (.int (nI (cntL d4 (qH τ)))), some (.int (nI d4))]) (Nat.zero_le _) rfl rfl (fun d4 hle4 ih4 => ?_)
  try dsimp only at ih4 ⊢
  refine a_iload_n (pc' := 5) hc d_E_isFew_4 rfl rfl rfl ?_
  refine a_aload_n (pc' := 6) hc d_E_isFew_5 rfl rfl rfl ?_
  refine c_getE (pc' := 9) hc hK hx 1 (v := .ref (bx 1)) (by decide) (rfl) fl_E_36 d_E_isFew_6 rfl ?_
  refine c_dlen (pc' := 10) hc hK hx d_E_isFew_9 rfl ?_
  refine a_ncmp_ge (pc' := 13) (tgt := 34) hc d_E_isFew_10 rfl rfl (by omega) (by omega) (fun h10 => ?_) (fun h10 => ?_)
  · skip
    have hex10 : d4 = n := by omega
    subst d4
    have hc9 := cntL_le n (qH τ)
    refine a_aload_n (pc' := 35) hc d_E_isFew_34 rfl rfl rfl ?_
    refine a_iload_n (pc' := 36) hc d_E_isFew_35 rfl rfl rfl ?_
    refine c_calli (pc' := 39) hc hK hO hA (bx 0) [.int (nI (cntL n (qH τ)))] [] (ct_E_isQuorum hx hh (τ := τ) (κ := κ) (tk := tk) (h := h) (q := cntL n (qH τ)) (by omega)) ml_E_212 hd_E_isQuorum ⟨by decide, by decide⟩ rfl rfl (Nat.le_of_ble_eq_true rfl) (cw_at hx.1 (by omega)) rfl rfl d_E_isFew_36 rfl ?_
    refine a_ifb_ne (pc' := 42) (tgt := 46) hc d_E_isFew_39 rfl rfl (fun h39 => ?_) (fun h39 => ?_)
    · skip
      refine a_iconst (pc' := 47) (v := nI 0) hc d_E_isFew_46 rfl (by decide) ?_
      exact a_zret hc hr hk (Or.inl rfl) d_E_isFew_47 (e_i (by first | rfl | (simp only [cntL_s, cntL_0, qH, fewB, bI, h10, h39]; done) | (simp [cntL_s, cntL_0, qH, fewB, bI, h10, h39]; done)) (rfl))
    · skip
      refine a_iconst (pc' := 43) (v := nI 1) hc d_E_isFew_42 rfl (by decide) ?_
      refine a_goto (tgt := 47) hc d_E_isFew_43 rfl ?_
      exact a_zret hc hr hk (Or.inr rfl) d_E_isFew_47 (e_i (by first | rfl | (simp only [cntL_s, cntL_0, qH, fewB, bI, h10, h39]; done) | (simp [cntL_s, cntL_0, qH, fewB, bI, h10, h39]; done)) (rfl))
  · skip
    refine a_aload_n (pc' := 14) hc d_E_isFew_13 rfl rfl rfl ?_
    refine c_getE (pc' := 17) hc hK hx 1 (v := .ref (bx 1)) (by decide) (rfl) fl_E_36 d_E_isFew_14 rfl ?_
    refine a_iload_n (pc' := 18) hc d_E_isFew_17 rfl rfl rfl ?_
    refine c_ald (pc' := 19) hc hK hx d4 (by omega) d_E_isFew_18 rfl ?_
    refine c_getD (pc' := 22) hc hK hx d4 4 (v := .int (bI (tb (τ 1 d4)))) (by omega) (by decide) rfl fl_E_132 d_E_isFew_19 rfl ?_
    refine a_ifb_eq (pc' := 25) (tgt := 28) hc d_E_isFew_22 rfl rfl (fun h22 => ?_) (fun h22 => ?_)
    · skip
      refine a_ninc (pc' := 31) hc d_E_isFew_28 rfl rfl (by decide) ?_
      refine a_goto (tgt := 4) hc d_E_isFew_31 rfl ?_
      refine AW.lvi 1 (y := nI (cntL (d4 + 1) (qH τ))) rfl (by first | rfl | (simp only [cntL_s, cntL_0, qH, fewB, bI, h10, h22]; done) | (simp [cntL_s, cntL_0, qH, fewB, bI, h10, h22]; done)) ?_
      exact AW.to rfl rfl rfl (ih4 (by omega))
    · skip
      refine a_ninc (pc' := 28) hc d_E_isFew_25 rfl rfl (by decide) ?_
      refine a_ninc (pc' := 31) hc d_E_isFew_28 rfl rfl (by decide) ?_
      refine a_goto (tgt := 4) hc d_E_isFew_31 rfl ?_
      refine AW.lvi 1 (y := nI (cntL (d4 + 1) (qH τ))) rfl (by first | rfl | (simp only [cntL_s, cntL_0, qH, fewB, bI, h10, h22]; done) | (simp [cntL_s, cntL_0, qH, fewB, bI, h10, h22]; done)) ?_
      exact AW.to rfl rfl rfl (ih4 (by omega))
theorem ct_E_goDown (hx : CX bx rl ca tys n E) (hh : HD bx n h)  : CC l y_E_goDown c_E_goDown 1 none 0 D tys A (cw bx rl ca n E τ κ tk h) [.ref (bx 0)] none (cw bx rl ca n E (goT τ) κ tk h) := by
  obtain ⟨hn2, hn5⟩ := hx.2.2.1
  obtain ⟨hE2, hE10⟩ := hx.2.2.2
  refine CC.of (own := R_E) rfl (by decide) (Nat.le_of_ble_eq_true rfl) (cat_all rfl) ?_
  intro pp ee ss mm aa bb me cd hc hK hO hr hk hA
  refine AW.to (lv' := [some (.ref (bx 0))]) rfl rfl rfl ?_
  refine a_aload_n (pc' := 1) hc d_E_goDown_0 rfl rfl rfl ?_
  refine a_iconst (pc' := 2) (v := nI 0) hc d_E_goDown_1 rfl (by decide) ?_
  refine c_putE (pc' := 5) hc hK hx (τ' := ts τ 0 5 (nI 0)) (κ' := κ) 6 (by decide) (rfl) (⟨rfl, rfl, rfl, rfl⟩) (fun _ => rfl) rfl (rfl) (rfl) fl_E_60 d_E_goDown_2 rfl ?_
  refine a_aload_n (pc' := 6) hc d_E_goDown_5 rfl rfl rfl ?_
  refine a_iconst (pc' := 7) (v := -1) hc d_E_goDown_6 rfl (by decide) ?_
  refine c_putE (pc' := 10) hc hK hx (τ' := goT τ) (κ' := κ) 7 (by decide) (rfl) (⟨rfl, rfl, rfl, rfl⟩) (fun _ => rfl) rfl (rfl) (rfl) fl_E_64 d_E_goDown_7 rfl ?_
  exact a_vret hc hr hk d_E_goDown_10 (e_v (rfl))
theorem ct_E_mayAct (hx : CX bx rl ca tys n E) (hh : HD bx n h) (hac : tb (τ 0 7) = true → ¬ τ 0 8 < 0) : CC l y_E_mayAct c_E_mayAct 1 (some .boolean) 1 D tys A (cw bx rl ca n E τ κ tk h) [.ref (bx 0)] (some (.int (bI (!stB τ)))) (cw bx rl ca n E (stT τ) κ tk h) := by
  obtain ⟨hn2, hn5⟩ := hx.2.2.1
  obtain ⟨hE2, hE10⟩ := hx.2.2.2
  refine CC.of (own := R_E) rfl (by decide) (Nat.le_of_ble_eq_true rfl) (cat_all rfl) ?_
  intro pp ee ss mm aa bb me cd hc hK hO hr hk hA
  refine AW.to (lv' := [some (.ref (bx 0))]) rfl rfl rfl ?_
  refine a_aload_n (pc' := 1) hc d_E_mayAct_0 rfl rfl rfl ?_
  refine c_getE (pc' := 4) hc hK hx 7 (v := .int (acI τ)) (by decide) (rfl) fl_E_64 d_E_mayAct_1 rfl ?_
  refine a_if_ne (pc' := 7) (tgt := 13) hc d_E_mayAct_4 rfl rfl (fun h4 => ?_) (fun h4 => ?_)
  · skip
    refine a_aload_n (pc' := 14) hc d_E_mayAct_13 rfl rfl rfl ?_
    refine c_getE (pc' := 17) hc hK hx 7 (v := .int (acI τ)) (by decide) (rfl) fl_E_64 d_E_mayAct_14 rfl ?_
    refine a_if_le (pc' := 20) (tgt := 30) hc d_E_mayAct_17 rfl rfl (fun h17 => ?_) (fun h17 => ?_)
    · skip
      refine a_iconst (pc' := 31) (v := nI 1) hc d_E_mayAct_30 rfl (by decide) ?_
      exact a_zret hc hr hk (Or.inr rfl) d_E_mayAct_31 (e_i (by rw [ac_n h4]; rfl) (by first | rfl | exact un_st (ac_le hac h4 h17)))
    · skip
      refine a_aload_n (pc' := 21) hc d_E_mayAct_20 rfl rfl rfl ?_
      refine a_dup (pc' := 22) hc d_E_mayAct_21 rfl rfl ?_
      refine c_getE (pc' := 25) hc hK hx 7 (v := .int (acI τ)) (by decide) (rfl) fl_E_64 d_E_mayAct_22 rfl ?_
      refine a_iconst (pc' := 26) (v := nI 1) hc d_E_mayAct_25 rfl (by decide) ?_
      refine a_isub (pc' := 27) hc d_E_mayAct_26 rfl ?_
      refine c_putE (pc' := 30) hc hK hx (τ' := stT τ) (κ' := κ) 7 (by decide) (ac_gt h4 h17) (stT_rows τ) (fun _ => rfl) rfl (rfl) (rfl) fl_E_64 d_E_mayAct_27 rfl ?_
      refine a_iconst (pc' := 31) (v := nI 1) hc d_E_mayAct_30 rfl (by decide) ?_
      exact a_zret hc hr hk (Or.inr rfl) d_E_mayAct_31 (e_i (by rw [ac_n h4]; rfl) (by first | rfl | exact un_st (ac_le hac h4 h17)))
  · skip
    refine a_aload_n (pc' := 8) hc d_E_mayAct_7 rfl rfl rfl ?_
    refine c_callv (pc' := 11) hc hK hO hA (bx 0) [] [] (ct_E_goDown hx hh (τ := τ) (κ := κ) (tk := tk) (h := h)) ml_E_181 hd_E_goDown ⟨by decide, by decide⟩ rfl rfl (Nat.le_of_ble_eq_true rfl) (cw_at hx.1 (by omega)) rfl rfl d_E_mayAct_8 rfl ?_
    refine a_iconst (pc' := 12) (v := nI 0) hc d_E_mayAct_11 rfl (by decide) ?_
    exact a_zret hc hr hk (Or.inl rfl) d_E_mayAct_12 (e_i (by rw [ac_0 h4]; rfl) (go_st (ac_0 h4)))
theorem ct_E_cellAt (hx : CX bx rl ca tys n E) (hh : HD bx n h) {q c : Nat} (hq : q / 16 < n) (hq1 : q % 16 < E) (hq2 : q < 2 ^ 31) (hc4 : c < 4) : CC l y_E_cellAt c_E_cellAt 3 (some .int) 1 D tys A (cw bx rl ca n E τ κ tk h) [.ref (bx 0), .int (nI q), .int (nI c)] (some (.int (τ 2 (caN q c)))) (cw bx rl ca n E τ κ tk h) := by
  obtain ⟨hn2, hn5⟩ := hx.2.2.1
  obtain ⟨hE2, hE10⟩ := hx.2.2.2
  refine CC.of (own := R_E) rfl (by decide) (Nat.le_of_ble_eq_true rfl) (cat_all rfl) ?_
  intro pp ee ss mm aa bb me cd hc hK hO hr hk hA
  refine AW.to (lv' := [some (.ref (bx 0)), some (.int (nI q)), some (.int (nI c))]) rfl rfl rfl ?_
  refine a_aload_n (pc' := 1) hc d_E_cellAt_0 rfl rfl rfl ?_
  refine a_iload_n (pc' := 2) hc d_E_cellAt_1 rfl rfl rfl ?_
  refine c_callr (pc' := 5) hc hK hO hA (bx 0) [.int (nI q)] [] (ct_E_diskOf hx hh (τ := τ) (κ := κ) (tk := tk) (h := h) (q := q) (by omega) (by omega)) ml_E_128 hd_E_diskOf ⟨by decide, by decide⟩ rfl rfl (Nat.le_of_ble_eq_true rfl) (cw_at hx.1 (by omega)) rfl rfl d_E_cellAt_2 rfl ?_
  refine c_getD (pc' := 8) hc hK hx (q / 16) 0 (v := .ref (bx (4 + 4 * (q / 16)))) (by omega) (by decide) rfl fl_E_215 d_E_cellAt_5 rfl ?_
  refine a_iload_n (pc' := 9) hc d_E_cellAt_8 rfl rfl rfl ?_
  refine a_bipush (pc' := 11) (v := nI 16) hc d_E_cellAt_9 rfl (by decide) ?_
  refine a_nrem (pc' := 12) hc d_E_cellAt_11 rfl (by omega) (by omega) (by omega) ?_
  refine a_iconst (pc' := 13) (v := nI 4) hc d_E_cellAt_12 rfl (by decide) ?_
  refine a_nmul (pc' := 14) hc d_E_cellAt_13 rfl ?_
  refine a_iload_n (pc' := 15) hc d_E_cellAt_14 rfl rfl rfl ?_
  refine a_nadd (pc' := 16) hc d_E_cellAt_15 rfl ?_
  refine c_cald (pc' := 17) hc hK hx (q / 16) (((q % 16) * 4) + c) (by omega) (by omega) d_E_cellAt_16 rfl ?_
  exact a_iret hc hr hk d_E_cellAt_17 (e_i (congrArg (τ 2) (by unfold caN; omega)) (rfl))
theorem ct_E_putCell (hx : CX bx rl ca tys n E) (hh : HD bx n h) {q c : Nat} {v : Int32} (hac : tb (τ 0 7) = true → ¬ τ 0 8 < 0) (hq : q / 16 < n) (hq1 : q % 16 < E) (hq2 : q < 2 ^ 31) (hc4 : c < 4) : CC l y_E_putCell c_E_putCell 4 (some .boolean) 2 D tys A (cw bx rl ca n E τ κ tk h) [.ref (bx 0), .int (nI q), .int (nI c), .int v] (some (.int (bI (!stB τ)))) (cw bx rl ca n E (pcT τ q c v) κ tk h) := by
  obtain ⟨hn2, hn5⟩ := hx.2.2.1
  obtain ⟨hE2, hE10⟩ := hx.2.2.2
  refine CC.of (own := R_E) rfl (by decide) (Nat.le_of_ble_eq_true rfl) (cat_all rfl) ?_
  intro pp ee ss mm aa bb me cd hc hK hO hr hk hA
  refine AW.to (lv' := [some (.ref (bx 0)), some (.int (nI q)), some (.int (nI c)), some (.int v)]) rfl rfl rfl ?_
  refine a_aload_n (pc' := 1) hc d_E_putCell_0 rfl rfl rfl ?_
  refine c_calli (pc' := 4) hc hK hO hA (bx 0) [] [] (ct_E_mayAct hx hh (τ := τ) (κ := κ) (tk := tk) (h := h) hac) ml_E_218 hd_E_mayAct ⟨by decide, by decide⟩ rfl rfl (Nat.le_of_ble_eq_true rfl) (cw_at hx.1 (by omega)) rfl rfl d_E_putCell_1 rfl ?_
  refine a_ifb_ne (pc' := 7) (tgt := 9) hc d_E_putCell_4 rfl rfl (fun h4 => ?_) (fun h4 => ?_)
  · skip
    refine a_aload_n (pc' := 10) hc d_E_putCell_9 rfl rfl rfl ?_
    refine a_iload_n (pc' := 11) hc d_E_putCell_10 rfl rfl rfl ?_
    refine c_callr (pc' := 14) hc hK hO hA (bx 0) [.int (nI q)] [] (ct_E_diskOf hx hh (τ := stT τ) (κ := κ) (tk := tk) (h := h) (q := q) (by omega) (by omega)) ml_E_128 hd_E_diskOf ⟨by decide, by decide⟩ rfl rfl (Nat.le_of_ble_eq_true rfl) (cw_at hx.1 (by omega)) rfl rfl d_E_putCell_11 rfl ?_
    refine c_getD (pc' := 17) hc hK hx (q / 16) 0 (v := .ref (bx (4 + 4 * (q / 16)))) (by omega) (by decide) rfl fl_E_215 d_E_putCell_14 rfl ?_
    refine a_iload_n (pc' := 18) hc d_E_putCell_17 rfl rfl rfl ?_
    refine a_bipush (pc' := 20) (v := nI 16) hc d_E_putCell_18 rfl (by decide) ?_
    refine a_nrem (pc' := 21) hc d_E_putCell_20 rfl (by omega) (by omega) (by omega) ?_
    refine a_iconst (pc' := 22) (v := nI 4) hc d_E_putCell_21 rfl (by decide) ?_
    refine a_nmul (pc' := 23) hc d_E_putCell_22 rfl ?_
    refine a_iload_n (pc' := 24) hc d_E_putCell_23 rfl rfl rfl ?_
    refine a_nadd (pc' := 25) hc d_E_putCell_24 rfl ?_
    refine a_iload_n (pc' := 26) hc d_E_putCell_25 rfl rfl rfl ?_
    refine c_cast (pc' := 27) hc hK hx (q / 16) (((q % 16) * 4) + c) (by omega) (by omega) d_E_putCell_26 rfl ?_
    refine a_iconst (pc' := 28) (v := nI 1) hc d_E_putCell_27 rfl (by decide) ?_
    exact a_zret hc hr hk (Or.inr rfl) d_E_putCell_28 (e_i (by rw [h4]; rfl) (by simp at h4; rw [pcT, if_neg (by rw [h4]; decide)]; congr 2; unfold caN; omega))
  · skip
    refine a_iconst (pc' := 8) (v := nI 0) hc d_E_putCell_7 rfl (by decide) ?_
    exact a_zret hc hr hk (Or.inl rfl) d_E_putCell_8 (e_i (by rw [h4]; rfl) (by simp at h4; simp [pcT, h4]))
