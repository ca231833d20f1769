variable {l : Launch} {D : va_G} {tys : List (ClassId × FieldType)} {A : Nat → Prop} {bx rl : Nat → Nat} {ca : Nat → ClassId} {n E : Nat} {τ : TS} {κ : Nat → Option Nat} {tk : Nat → Int32} {h : Nat → Option va_E}
theorem ct_E_activate (hx : CX bx rl ca tys n E) (hh : HD bx n h) (hS : ∀ d, d < n → ∀ i, i < 3 → SlOk τ κ h d i) (hac : tb (τ 0 7) = true → ¬ τ 0 8 < 0) (h6 : ∀ d, d < 5 → ¬ τ 6 d < 0) (hb6 : ∀ d, d < 5 → wrN τ d + 1 < 2 ^ 31) : CC l y_E_activate c_E_activate 3 (some .int) 4 D tys A (cw bx rl ca n E τ κ tk h) [.ref (bx 0)] (some (.int ((acP τ n).1))) (cw bx rl ca n E ((acP τ n).2) (apK τ κ n) tk h) := by
  obtain ⟨hn2, hn5⟩ := hx.2.2.1
  obtain ⟨hE2, hE10⟩ := hx.2.2.2
  refine CC.of (own := R_E) rfl (by decide) (Nat.le_of_ble_eq_true rfl) (cat_all rfl) ?_
  intro pp ee ss mm aa bb me cd hc hK hO hr hk hA
  refine AW.to (lv' := [some (.ref (bx 0)), none, none]) rfl rfl rfl ?_
  refine a_aload_n (pc' := 1) hc d_E_activate_0 rfl rfl rfl ?_
  refine c_getE (pc' := 4) hc hK hx 6 (v := .int (bI (tb (τ 0 5)))) (by decide) (rfl) fl_E_60 d_E_activate_1 rfl ?_
  refine a_ifb_eq (pc' := 7) (tgt := 10) hc d_E_activate_4 rfl rfl (fun h4 => ?_) (fun h4 => ?_)
  · skip
    refine a_aload_n (pc' := 11) hc d_E_activate_10 rfl rfl rfl ?_
    refine c_callr (pc' := 14) hc hK hO hA (bx 0) [] [] (ct_E_choose hx hh (τ := τ) (κ := κ) (tk := tk) (h := h) hS) ml_E_184 hd_E_choose ⟨by decide, by decide⟩ rfl rfl (Nat.le_of_ble_eq_true rfl) (cw_at hx.1 (by omega)) rfl rfl d_E_activate_11 rfl ?_
    refine a_astore_nq (pc' := 15) hc d_E_activate_14 rfl rfl (by decide) ?_
    refine a_aload_nq (pc' := 16) hc d_E_activate_15 rfl rfl rfl ?_
    refine a_ifnonnull (pc' := 19) (tgt := 22) hc d_E_activate_16 rfl rfl (fun a16 h16 => ?_) (fun h16 => ?_)
    · skip
      try rw [h16]
      obtain ⟨b, q16, c16, hb16, hk16, hp16, hC16⟩ := cb_some hS (Nat.le_refl _) h16
      refine a_iconst (pc' := 23) (v := nI 0) hc d_E_activate_22 rfl (by decide) ?_
      refine a_istore_n (pc' := 24) hc d_E_activate_23 rfl rfl (by decide) ?_
      refine AW.to (f' := cw bx rl ca n E (acT (cpT τ b 16 64) (τ 4 b) (τ 5 b) 0) (acK (cpT τ b 16 64) κ a16 (τ 4 b) (τ 5 b) 0) tk h) (cw_row3) rfl rfl ?_
      refine AW.loopG n 0 (fun d24 => cw bx rl ca n E (acT (cpT τ b 16 64) (τ 4 b) (τ 5 b) d24) (acK (cpT τ b 16 64) κ a16 (τ 4 b) (τ 5 b) d24) tk h) (fun d24 => [some (.ref (bx 0)), some (.ref a16), some (.int (nI d24))]) (fun d24 => ∀ j, j < d24 → qA (cpT τ b 16 64) (τ 4 b) (τ 5 b) j = false) (Nat.zero_le _) (fun j hj => absurd hj (by omega)) rfl rfl (fun d24 hle24 hG24 ih24 => ?_)
      try dsimp only at hG24 ih24 ⊢
      refine a_iload_n (pc' := 25) hc d_E_activate_24 rfl rfl rfl ?_
      refine a_aload_n (pc' := 26) hc d_E_activate_25 rfl rfl rfl ?_
      refine c_getE (pc' := 29) hc hK hx 1 (v := .ref (bx 1)) (by decide) (rfl) fl_E_36 d_E_activate_26 rfl ?_
      refine c_dlen (pc' := 30) hc hK hx d_E_activate_29 rfl ?_
      refine a_ncmp_ge (pc' := 33) (tgt := 68) hc d_E_activate_30 rfl rfl (by omega) (by omega) (fun h30 => ?_) (fun h30 => ?_)
      · skip
        have hex30 : d24 = n := by omega
        subst d24
        refine a_aload_n (pc' := 69) hc d_E_activate_68 rfl rfl rfl ?_
        refine a_aload_n (pc' := 70) hc d_E_activate_69 rfl rfl rfl ?_
        refine c_putE (pc' := 73) hc hK hx (τ' := acT (cpT τ b 16 64) (τ 4 b) (τ 5 b) n) (κ' := va_up (acK (cpT τ b 16 64) κ a16 (τ 4 b) (τ 5 b) n) 0 (some a16)) 3 (by decide) (e_k0) (⟨rfl, rfl, rfl, rfl⟩) (k0_o) rfl (rfl) (rfl) fl_E_47 d_E_activate_70 rfl ?_
        refine a_aload_n (pc' := 74) hc d_E_activate_73 rfl rfl rfl ?_
        refine a_iconst (pc' := 75) (v := nI 0) hc d_E_activate_74 rfl (by decide) ?_
        refine c_putE (pc' := 78) hc hK hx (τ' := ts (acT (cpT τ b 16 64) (τ 4 b) (τ 5 b) n) 0 6 (nI 0)) (κ' := va_up (acK (cpT τ b 16 64) κ a16 (τ 4 b) (τ 5 b) n) 0 (some a16)) 4 (by decide) (e_06) (row0) (fun _ => rfl) rfl (rfl) (rfl) fl_E_51 d_E_activate_75 rfl ?_
        refine a_aload_n (pc' := 79) hc d_E_activate_78 rfl rfl rfl ?_
        refine a_iconst (pc' := 80) (v := nI 1) hc d_E_activate_79 rfl (by decide) ?_
        refine c_putE (pc' := 83) hc hK hx (τ' := ts (ts (acT (cpT τ b 16 64) (τ 4 b) (τ 5 b) n) 0 6 (nI 0)) 0 5 (nI 1)) (κ' := va_up (acK (cpT τ b 16 64) κ a16 (τ 4 b) (τ 5 b) n) 0 (some a16)) 6 (by decide) (e_05 (Or.inr rfl)) (row0) (fun _ => rfl) rfl (by decide) (by decide) fl_E_60 d_E_activate_80 rfl ?_
        refine a_aload_n (pc' := 84) hc d_E_activate_83 rfl rfl rfl ?_
        refine c_getH (pc' := 87) hc hK in_C rfl hh hC16 0 (v := .int (τ 4 b)) (by decide) rfl fl_E_192 d_E_activate_84 rfl ?_
        exact a_iret hc hr hk d_E_activate_87 (e_i (by simp [acP, h4, c16, ac_done hG24]) (ac_fin h4 c16 hk16 hG24))
      · skip
        refine a_aload_n (pc' := 34) hc d_E_activate_33 rfl rfl rfl ?_
        refine c_getE (pc' := 37) hc hK hx 1 (v := .ref (bx 1)) (by decide) (rfl) fl_E_36 d_E_activate_34 rfl ?_
        refine a_iload_n (pc' := 38) hc d_E_activate_37 rfl rfl rfl ?_
        refine c_ald (pc' := 39) hc hK hx d24 (by omega) d_E_activate_38 rfl ?_
        refine c_getD (pc' := 42) hc hK hx d24 4 (v := .int (bI (tb ((acT (cpT τ b 16 64) (τ 4 b) (τ 5 b) d24) 1 d24)))) (by omega) (by decide) rfl fl_E_132 d_E_activate_39 rfl ?_
        refine a_ifb_eq (pc' := 45) (tgt := 62) hc d_E_activate_42 rfl rfl (fun h42 => ?_) (fun h42 => ?_)
        · skip
          refine a_ninc (pc' := 65) hc d_E_activate_62 rfl rfl (by decide) ?_
          refine a_goto (tgt := 24) hc d_E_activate_65 rfl ?_
          refine AW.to (f' := cw bx rl ca n E (acT (cpT τ b 16 64) (τ 4 b) (τ 5 b) (d24 + 1)) (acK (cpT τ b 16 64) κ a16 (τ 4 b) (τ 5 b) (d24 + 1)) tk h) (ac_keep h42) rfl rfl ?_
          exact AW.to rfl rfl rfl (ih24 (by omega) (allf_s hG24 (by simp [qA, h42])))
        · skip
          refine a_aload_n (pc' := 46) hc d_E_activate_45 rfl rfl rfl ?_
          refine a_aload_n (pc' := 47) hc d_E_activate_46 rfl rfl rfl ?_
          refine c_getE (pc' := 50) hc hK hx 1 (v := .ref (bx 1)) (by decide) (rfl) fl_E_36 d_E_activate_47 rfl ?_
          refine a_iload_n (pc' := 51) hc d_E_activate_50 rfl rfl rfl ?_
          refine c_ald (pc' := 52) hc hK hx d24 (by omega) d_E_activate_51 rfl ?_
          refine a_aload_n (pc' := 53) hc d_E_activate_52 rfl rfl rfl ?_
          refine c_calli (pc' := 56) hc hK hO hA (bx 0) [.ref (bx (3 + 4 * d24)), .ref a16] [] (ct_E_bringTo hx hh (τ := acT (cpT τ b 16 64) (τ 4 b) (τ 5 b) d24) (κ := acK (cpT τ b 16 64) κ a16 (τ 4 b) (τ 5 b) d24) (tk := tk) (h := h) (d := d24) (a := a16) (la := q16) (num := τ 4 b) (mark := τ 5 b) (ac_hac (by rw [cpT_row (by decide)]; exact hac) d24 hG24) (by omega) (fun i hi => acSl (sl_cp (hS d24 h30 i hi)) hi) hC16 hp16 (by rw [acT_6 _ _ _ d24 d24 (Nat.le_refl _), cpT_row (by decide)]; exact h6 _ (by omega)) (by show ((acT (cpT τ b 16 64) (τ 4 b) (τ 5 b) d24) 6 d24).toNatClampNeg + 1 < 2 ^ 31; rw [acT_6 _ _ _ d24 d24 (Nat.le_refl _), cpT_row (by decide)]; exact hb6 _ (by omega))) ml_E_188 hd_E_bringTo ⟨by decide, by decide⟩ rfl rfl (Nat.le_of_ble_eq_true rfl) (cw_at hx.1 (by omega)) rfl rfl d_E_activate_53 rfl ?_
          refine a_ifb_ne (pc' := 59) (tgt := 62) hc d_E_activate_56 rfl rfl (fun h56 => ?_) (fun h56 => ?_)
          · skip
            refine a_ninc (pc' := 65) hc d_E_activate_62 rfl rfl (by decide) ?_
            refine a_goto (tgt := 24) hc d_E_activate_65 rfl ?_
            refine AW.to (f' := cw bx rl ca n E (acT (cpT τ b 16 64) (τ 4 b) (τ 5 b) (d24 + 1)) (acK (cpT τ b 16 64) κ a16 (τ 4 b) (τ 5 b) (d24 + 1)) tk h) (ac_next h42) rfl rfl ?_
            exact AW.to rfl rfl rfl (ih24 (by omega) (allf_s hG24 (by simp [qA, h42, h56])))
          · skip
            refine a_bipush (pc' := 61) (v := -7) hc d_E_activate_59 rfl (by decide) ?_
            exact a_iret hc hr hk d_E_activate_61 (e_i (by simp [acP, h4, c16, ac_stop hG24 (by omega) h42 h56]) (by simp [acP, apK, h4, c16, hk16, ac_stop hG24 (by omega) h42 h56, aq_stop hG24 (by omega) h42 h56]))
    · skip
      try rw [h16]
      have n16 := cb_none hS (Nat.le_refl _) h16
      refine a_bipush (pc' := 21) (v := -3) hc d_E_activate_19 rfl (by decide) ?_
      exact a_iret hc hr hk d_E_activate_21 (e_i (by first | rfl | (simp only [acP, apK, h4, h16, n16]; done) | (simp [acP, apK, h4, h16, n16]; done)) (by first | rfl | (simp only [acP, apK, h4, h16, n16]; done) | (simp [acP, apK, h4, h16, n16]; done)))
  · skip
    refine a_bipush (pc' := 9) (v := -9) hc d_E_activate_7 rfl (by decide) ?_
    exact a_iret hc hr hk d_E_activate_9 (e_i (by first | rfl | (simp only [acP, apK, h4]; done) | (simp [acP, apK, h4]; done)) (by first | rfl | (simp only [acP, apK, h4]; done) | (simp [acP, apK, h4]; done)))
theorem ct_E_arm (hx : CX bx rl ca tys n E) (hh : HD bx n h) {k : Int32} : CC l y_E_arm c_E_arm 2 (some .boolean) 0 D tys A (cw bx rl ca n E τ κ tk h) [.ref (bx 0), .int k] (some (.int (bI ((amP τ k).1)))) (cw bx rl ca n E ((amP τ k).2) κ tk h) := by
  obtain ⟨hn2, hn5⟩ := hx.2.2.1
  obtain ⟨hE2, hE10⟩ := hx.2.2.2
  refine CC.of (own := R_E) rfl (by decide) (Nat.le_of_ble_eq_true rfl) (cat_all rfl) ?_
  intro pp ee ss mm aa bb me cd hc hK hO hr hk hA
  refine AW.to (lv' := [some (.ref (bx 0)), some (.int k)]) rfl rfl rfl ?_
  refine a_iload_n (pc' := 1) hc d_E_arm_0 rfl rfl rfl ?_
  refine a_if_lt (pc' := 4) (tgt := 10) hc d_E_arm_1 rfl rfl (fun h1 => ?_) (fun h1 => ?_)
  · skip
    refine a_iconst (pc' := 11) (v := nI 0) hc d_E_arm_10 rfl (by decide) ?_
    exact a_zret hc hr hk (Or.inl rfl) d_E_arm_11 (e_i (by first | rfl | (simp only [amP, bI, h1]; done) | (simp [amP, bI, h1]; done)) (by first | rfl | (simp only [amP, bI, h1]; done) | (simp [amP, bI, h1]; done)))
  · skip
    refine a_iload_n (pc' := 5) hc d_E_arm_4 rfl rfl rfl ?_
    refine a_bipush (pc' := 7) (v := nI 100) hc d_E_arm_5 rfl (by decide) ?_
    refine a_icmp_le (pc' := 10) (tgt := 12) hc d_E_arm_7 rfl rfl (fun h7 => ?_) (fun h7 => ?_)
    · skip
      refine a_aload_n (pc' := 13) hc d_E_arm_12 rfl rfl rfl ?_
      refine a_iload_n (pc' := 14) hc d_E_arm_13 rfl rfl rfl ?_
      refine c_putE (pc' := 17) hc hK hx (τ' := ts (ts τ 0 7 (nI 1)) 0 8 k) (κ' := κ) 7 (by decide) (arm_hs) (⟨by rw [ts_ne (by decide), ts_ne (by decide)], by rw [ts_ne (by decide), ts_ne (by decide)], by rw [ts_ne (by decide), ts_ne (by decide)], by rw [ts_ne (by decide), ts_ne (by decide)]⟩) (fun _ => rfl) rfl (rfl) (rfl) fl_E_64 d_E_arm_14 rfl ?_
      refine a_iconst (pc' := 18) (v := nI 1) hc d_E_arm_17 rfl (by decide) ?_
      exact a_zret hc hr hk (Or.inr rfl) d_E_arm_18 (e_i (by first | rfl | (simp only [amP, bI, h1, h7]; done) | (simp [amP, bI, h1, h7]; done)) (by first | rfl | (simp only [amP, bI, h1, h7]; done) | (simp [amP, bI, h1, h7]; done)))
    · skip
      refine a_iconst (pc' := 11) (v := nI 0) hc d_E_arm_10 rfl (by decide) ?_
      exact a_zret hc hr hk (Or.inl rfl) d_E_arm_11 (e_i (by first | rfl | (simp only [amP, bI, h1, h7]; done) | (simp [amP, bI, h1, h7]; done)) (by first | rfl | (simp only [amP, bI, h1, h7]; done) | (simp [amP, bI, h1, h7]; done)))
theorem ct_E_isShape (hx : CX bx rl ca tys n E) (hh : HD bx n h) {w c : Int32} : CC l y_E_isShape c_E_isShape 2 (some .boolean) 0 D tys A (cw bx rl ca n E τ κ tk h) [.int w, .int c] (some (.int (bI (!decide (w < nI 1) && (!decide (nI 4 < w) && decide (c = nI 1 ∨ c = nI 2 ∨ c = nI 4)))))) (cw bx rl ca n E τ κ tk h) := by
  obtain ⟨hn2, hn5⟩ := hx.2.2.1
  obtain ⟨hE2, hE10⟩ := hx.2.2.2
  refine CC.of (own := R_E) rfl (by decide) (Nat.le_of_ble_eq_true rfl) (cat_all rfl) ?_
  intro pp ee ss mm aa bb me cd hc hK hO hr hk hA
  refine AW.to (lv' := [some (.int w), some (.int c)]) rfl rfl rfl ?_
  refine a_iload_n (pc' := 1) hc d_E_isShape_0 rfl rfl rfl ?_
  refine a_iconst (pc' := 2) (v := nI 1) hc d_E_isShape_1 rfl (by decide) ?_
  refine a_icmp_lt (pc' := 5) (tgt := 29) hc d_E_isShape_2 rfl rfl (fun h2 => ?_) (fun h2 => ?_)
  · skip
    refine a_iconst (pc' := 30) (v := nI 0) hc d_E_isShape_29 rfl (by decide) ?_
    exact a_zret hc hr hk (Or.inl rfl) d_E_isShape_30 (e_i (by first | rfl | (simp only [bI, h2]; done) | (simp [bI, h2]; done)) (rfl))
  · skip
    refine a_iload_n (pc' := 6) hc d_E_isShape_5 rfl rfl rfl ?_
    refine a_iconst (pc' := 7) (v := nI 4) hc d_E_isShape_6 rfl (by decide) ?_
    refine a_icmp_gt (pc' := 10) (tgt := 29) hc d_E_isShape_7 rfl rfl (fun h7 => ?_) (fun h7 => ?_)
    · skip
      refine a_iconst (pc' := 30) (v := nI 0) hc d_E_isShape_29 rfl (by decide) ?_
      exact a_zret hc hr hk (Or.inl rfl) d_E_isShape_30 (e_i (by first | rfl | (simp only [bI, h2, h7]; done) | (simp [bI, h2, h7]; done)) (rfl))
    · skip
      refine a_iload_n (pc' := 11) hc d_E_isShape_10 rfl rfl rfl ?_
      refine a_iconst (pc' := 12) (v := nI 1) hc d_E_isShape_11 rfl (by decide) ?_
      refine a_icmp_eq (pc' := 15) (tgt := 25) hc d_E_isShape_12 rfl rfl (fun h12 => ?_) (fun h12 => ?_)
      · skip
        refine a_iconst (pc' := 26) (v := nI 1) hc d_E_isShape_25 rfl (by decide) ?_
        refine a_goto (tgt := 30) hc d_E_isShape_26 rfl ?_
        exact a_zret hc hr hk (Or.inr rfl) d_E_isShape_30 (e_i (by first | rfl | (simp only [bI, h2, h7, h12]; done) | (simp [bI, h2, h7, h12]; done)) (rfl))
      · skip
        refine a_iload_n (pc' := 16) hc d_E_isShape_15 rfl rfl rfl ?_
        refine a_iconst (pc' := 17) (v := nI 2) hc d_E_isShape_16 rfl (by decide) ?_
        refine a_icmp_eq (pc' := 20) (tgt := 25) hc d_E_isShape_17 rfl rfl (fun h17 => ?_) (fun h17 => ?_)
        · skip
          refine a_iconst (pc' := 26) (v := nI 1) hc d_E_isShape_25 rfl (by decide) ?_
          refine a_goto (tgt := 30) hc d_E_isShape_26 rfl ?_
          exact a_zret hc hr hk (Or.inr rfl) d_E_isShape_30 (e_i (by first | rfl | (simp only [bI, h2, h7, h12, h17]; done) | (simp [bI, h2, h7, h12, h17]; done)) (rfl))
        · skip
          refine a_iload_n (pc' := 21) hc d_E_isShape_20 rfl rfl rfl ?_
          refine a_iconst (pc' := 22) (v := nI 4) hc d_E_isShape_21 rfl (by decide) ?_
          refine a_icmp_ne (pc' := 25) (tgt := 29) hc d_E_isShape_22 rfl rfl (fun h22 => ?_) (fun h22 => ?_)
          · skip
            refine a_iconst (pc' := 30) (v := nI 0) hc d_E_isShape_29 rfl (by decide) ?_
            exact a_zret hc hr hk (Or.inl rfl) d_E_isShape_30 (e_i (by first | rfl | (simp only [bI, h2, h7, h12, h17, h22]; done) | (simp [bI, h2, h7, h12, h17, h22]; done)) (rfl))
          · skip
            refine a_iconst (pc' := 26) (v := nI 1) hc d_E_isShape_25 rfl (by decide) ?_
            refine a_goto (tgt := 30) hc d_E_isShape_26 rfl ?_
            exact a_zret hc hr hk (Or.inr rfl) d_E_isShape_30 (e_i (by first | rfl | (simp only [bI, h2, h7, h12, h17, h22]; done) | (simp [bI, h2, h7, h12, h17, h22]; done)) (rfl))
