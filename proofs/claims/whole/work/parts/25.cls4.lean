variable {l : Launch} {D : va_G} {tys : List (ClassId × FieldType)} {A : Nat → Prop} {bx rl : Nat → Nat} {ca : Nat → ClassId} {n E : Nat} {τ : TS} {κ : Nat → Option Nat} {tk : Nat → Int32} {h : Nat → Option va_E}
theorem ct_E_choose (hx : CX bx rl ca tys n E) (hh : HD bx n h) (hS : ∀ d, d < n → ∀ i, i < 3 → SlOk τ κ h d i) : CC l y_E_choose c_E_choose 6 (some (.object "ExtentGroup$Copy")) 3 D tys A (cw bx rl ca n E τ κ tk h) [.ref (bx 0)] (some (va_rf (cbQ τ κ n (3 * n)))) (cw bx rl ca n E τ κ tk h) := by
  obtain ⟨hn2, hn5⟩ := hx.2.2.1
  obtain ⟨hE2, hE10⟩ := hx.2.2.2
  refine CC.of (own := R_E) rfl (by decide) (Nat.le_of_ble_eq_true rfl) (cat_all rfl) ?_
  intro pp ee ss mm aa bb me cd hc hK hO hr hk hA
  refine AW.to (lv' := [some (.ref (bx 0)), none, none, none, none, none]) rfl rfl rfl ?_
  refine a_null (pc' := 1) hc d_E_choose_0 rfl ?_
  refine a_astore_nN (pc' := 2) hc d_E_choose_1 rfl rfl (by decide) ?_
  refine a_iconst (pc' := 3) (v := nI 0) hc d_E_choose_2 rfl (by decide) ?_
  refine a_istore_n (pc' := 4) hc d_E_choose_3 rfl rfl (by decide) ?_
  refine AW.lvq 1 (x := none) (y := cbQ τ κ n (3 * 0)) rfl (rfl) ?_
  refine AW.loop n 0 (fun d4 => cw bx rl ca n E τ κ tk h) (fun d4 => [some (.ref (bx 0)), some (va_rf (cbQ τ κ n (3 * d4))), some (.int (nI d4)), none, none, none]) (Nat.zero_le _) rfl rfl (fun d4 hle4 ih4 => ?_)
  try dsimp only at ih4 ⊢
  refine a_iload_n (pc' := 5) hc d_E_choose_4 rfl rfl rfl ?_
  refine a_aload_n (pc' := 6) hc d_E_choose_5 rfl rfl rfl ?_
  refine c_getE (pc' := 9) hc hK hx 1 (v := .ref (bx 1)) (by decide) (rfl) fl_E_36 d_E_choose_6 rfl ?_
  refine c_dlen (pc' := 10) hc hK hx d_E_choose_9 rfl ?_
  refine a_ncmp_ge (pc' := 13) (tgt := 106) hc d_E_choose_10 rfl rfl (by omega) (by omega) (fun h10 => ?_) (fun h10 => ?_)
  · skip
    have hex10 : d4 = n := by omega
    subst d4
    refine a_aload_nq (pc' := 107) hc d_E_choose_106 rfl rfl rfl ?_
    exact a_aret (x := cbQ τ κ n (3 * n)) hc hr (Or.inl ⟨_, rfl⟩) hk d_E_choose_107 (e_r (rfl) (rfl))
  · skip
    refine a_iconst (pc' := 14) (v := nI 0) hc d_E_choose_13 rfl (by decide) ?_
    refine a_istore_n (pc' := 15) hc d_E_choose_14 rfl rfl (by decide) ?_
    refine AW.lvq 1 (x := cbQ τ κ n (3 * d4)) (y := cbQ τ κ n (3 * d4 + 0)) rfl (rfl) ?_
    refine AW.loop 3 0 (fun k15 => cw bx rl ca n E τ κ tk h) (fun k15 => [some (.ref (bx 0)), some (va_rf (cbQ τ κ n (3 * d4 + k15))), some (.int (nI d4)), some (.int (nI k15)), none, none]) (Nat.zero_le _) rfl rfl (fun k15 hle15 ih15 => ?_)
    try dsimp only at ih15 ⊢
    refine a_aload_n (pc' := 16) hc d_E_choose_15 rfl rfl rfl ?_
    refine c_getE (pc' := 19) hc hK hx 1 (v := .ref (bx 1)) (by decide) (rfl) fl_E_36 d_E_choose_16 rfl ?_
    refine a_iload_n (pc' := 20) hc d_E_choose_19 rfl rfl rfl ?_
    refine c_ald (pc' := 21) hc hK hx d4 (by omega) d_E_choose_20 rfl ?_
    refine c_getD (pc' := 24) hc hK hx d4 4 (v := .int (bI (tb (τ 1 d4)))) (by omega) (by decide) rfl fl_E_132 d_E_choose_21 rfl ?_
    refine a_ifb_eq (pc' := 27) (tgt := 100) hc d_E_choose_24 rfl rfl (fun h24 => ?_) (fun h24 => ?_)
    · skip
      refine a_ninc (pc' := 103) hc d_E_choose_100 rfl rfl (by decide) ?_
      refine a_goto (tgt := 4) hc d_E_choose_103 rfl ?_
      refine AW.mask [true, true, true, false, false, false] ?_
      refine AW.lvq 1 (x := cbQ τ κ n (3 * d4 + k15)) (y := cbQ τ κ n (3 * (d4 + 1))) rfl (cb_abs h24 _ (by omega)) ?_
      exact AW.to rfl rfl rfl (ih4 (by omega))
    · skip
      refine a_iload_n (pc' := 28) hc d_E_choose_27 rfl rfl rfl ?_
      refine a_iconst (pc' := 29) (v := nI 3) hc d_E_choose_28 rfl (by decide) ?_
      refine a_ncmp_ge (pc' := 32) (tgt := 100) hc d_E_choose_29 rfl rfl (by omega) (by omega) (fun h29 => ?_) (fun h29 => ?_)
      · skip
        have hex29 : k15 = 3 := by omega
        subst k15
        refine a_ninc (pc' := 103) hc d_E_choose_100 rfl rfl (by decide) ?_
        refine a_goto (tgt := 4) hc d_E_choose_103 rfl ?_
        refine AW.mask [true, true, true, false, false, false] ?_
        refine AW.lvq 1 (x := cbQ τ κ n (3 * d4 + 3)) (y := cbQ τ κ n (3 * (d4 + 1))) rfl (rfl) ?_
        exact AW.to rfl rfl rfl (ih4 (by omega))
      · skip
        refine a_aload_n (pc' := 33) hc d_E_choose_32 rfl rfl rfl ?_
        refine c_getE (pc' := 36) hc hK hx 1 (v := .ref (bx 1)) (by decide) (rfl) fl_E_36 d_E_choose_33 rfl ?_
        refine a_iload_n (pc' := 37) hc d_E_choose_36 rfl rfl rfl ?_
        refine c_ald (pc' := 38) hc hK hx d4 (by omega) d_E_choose_37 rfl ?_
        refine c_getD (pc' := 41) hc hK hx d4 1 (v := .ref (bx (5 + 4 * d4))) (by omega) (by decide) rfl fl_E_208 d_E_choose_38 rfl ?_
        refine a_iload_n (pc' := 42) hc d_E_choose_41 rfl rfl rfl ?_
        refine c_kald (pc' := 43) hc hK hx d4 k15 (by omega) (by omega) d_E_choose_42 rfl ?_
        refine a_astoreq (pc' := 45) hc d_E_choose_43 rfl (by decide) ?_
        refine a_aloadq (pc' := 47) hc d_E_choose_45 rfl rfl ?_
        refine a_ifnull (pc' := 50) (tgt := 70) hc d_E_choose_47 rfl rfl (fun h47 => ?_) (fun a47 h47 => ?_)
        · skip
          try rw [h47]
          have z47 : ¬ 0 < τ 4 (3 * d4 + k15) := by rcases hS d4 h10 k15 h29 with ⟨-, q⟩ | ⟨a, q, q1, -⟩; exact q; rw [h47] at q1; cases q1
          refine a_iconst (pc' := 71) (v := nI 0) hc d_E_choose_70 rfl (by decide) ?_
          refine a_istore (pc' := 73) hc d_E_choose_71 rfl (by decide) ?_
          refine a_iload (pc' := 75) hc d_E_choose_73 rfl rfl ?_
          refine a_ifn_eq (pc' := 78) (tgt := 94) hc d_E_choose_75 rfl rfl (by omega) (fun h75 => ?_) (fun h75 => absurd h75 (by omega))
          refine a_ninc (pc' := 97) hc d_E_choose_94 rfl rfl (by decide) ?_
          refine a_goto (tgt := 15) hc d_E_choose_97 rfl ?_
          refine AW.mask [true, true, true, true, false, false] ?_
          refine AW.lvq 1 (x := cbQ τ κ n (3 * d4 + k15)) (y := cbQ τ κ n (3 * d4 + (k15 + 1))) rfl (cb_skip (may_0 z47)) ?_
          exact AW.to rfl rfl rfl (ih15 (by omega))
        · skip
          try rw [h47]
          obtain ⟨l47, hp47, hC47⟩ := (hS d4 h10 k15 h29).some h47
          refine a_aload_nq (pc' := 51) hc d_E_choose_50 rfl rfl rfl ?_
          refine a_ifnull (pc' := 54) (tgt := 66) hc d_E_choose_51 rfl rfl (fun h51 => ?_) (fun a51 h51 => ?_)
          · skip
            try rw [h51]
            have n51 := cb_none hS (by omega) h51
            refine a_iconst (pc' := 67) (v := nI 1) hc d_E_choose_66 rfl (by decide) ?_
            refine a_goto (tgt := 71) hc d_E_choose_67 rfl ?_
            refine a_istore (pc' := 73) hc d_E_choose_71 rfl (by decide) ?_
            refine a_iload (pc' := 75) hc d_E_choose_73 rfl rfl ?_
            refine a_ifn_eq (pc' := 78) (tgt := 94) hc d_E_choose_75 rfl rfl (by omega) (fun h75 => absurd h75 (by omega)) (fun h75 => ?_)
            refine a_aload_n (pc' := 79) hc d_E_choose_78 rfl rfl rfl ?_
            refine a_aload_n (pc' := 80) hc d_E_choose_79 rfl rfl rfl ?_
            refine a_aload (pc' := 82) hc d_E_choose_80 rfl rfl ?_
            refine c_calli (pc' := 85) hc hK hO hA (bx 0) [.ref a47] [.ref (bx 0)] (ct_E_presentHolders hx hh (τ := τ) (κ := κ) (tk := tk) (h := h) (b := a47) (lb := l47) (nb := τ 4 (3 * d4 + k15)) (sb := τ 5 (3 * d4 + k15)) hS hC47) ml_E_232 hd_E_presentHolders ⟨by decide, by decide⟩ rfl rfl (Nat.le_of_ble_eq_true rfl) (cw_at hx.1 (by omega)) rfl rfl d_E_choose_82 rfl ?_
            have hc82 := cntL_le n (qP τ κ (τ 4 (3 * d4 + k15)) (τ 5 (3 * d4 + k15)))
            refine c_calli (pc' := 88) hc hK hO hA (bx 0) [.int (nI (cntL n (qP τ κ (τ 4 (3 * d4 + k15)) (τ 5 (3 * d4 + k15)))))] [] (ct_E_isQuorum hx hh (τ := τ) (κ := κ) (tk := tk) (h := h) (q := cntL n (qP τ κ (τ 4 (3 * d4 + k15)) (τ 5 (3 * d4 + k15)))) (by omega)) ml_E_212 hd_E_isQuorum ⟨by decide, by decide⟩ rfl rfl (Nat.le_of_ble_eq_true rfl) (cw_at hx.1 (by omega)) rfl rfl d_E_choose_85 rfl ?_
            refine a_ifb_eq (pc' := 91) (tgt := 94) hc d_E_choose_88 rfl rfl (fun h88 => ?_) (fun h88 => ?_)
            · skip
              have m88 := may_of h29 hS hp47 h24 h88
              refine a_ninc (pc' := 97) hc d_E_choose_94 rfl rfl (by decide) ?_
              refine a_goto (tgt := 15) hc d_E_choose_97 rfl ?_
              refine AW.mask [true, true, true, true, false, false] ?_
              refine AW.lvq 1 (x := none) (y := cbQ τ κ n (3 * d4 + (k15 + 1))) rfl ((cb_skip m88).trans h51) ?_
              exact AW.to rfl rfl rfl (ih15 (by omega))
            · skip
              have m88 := may_of h29 hS hp47 h24 h88
              refine a_aload (pc' := 93) hc d_E_choose_91 rfl rfl ?_
              refine a_astore_n (pc' := 94) hc d_E_choose_93 rfl rfl (by decide) ?_
              refine a_ninc (pc' := 97) hc d_E_choose_94 rfl rfl (by decide) ?_
              refine a_goto (tgt := 15) hc d_E_choose_97 rfl ?_
              refine AW.mask [true, true, true, true, false, false] ?_
              refine AW.lvq 1 (x := some a47) (y := cbQ τ κ n (3 * d4 + (k15 + 1))) rfl ((cb_first m88 n51).trans (by rw [show 1 + (3 * d4 + k15) = 1 + 3 * d4 + k15 by omega]; exact h47)) ?_
              exact AW.to rfl rfl rfl (ih15 (by omega))
          · skip
            try rw [h51]
            obtain ⟨b51, q51, c51, hb51, hk51, hp51, hC51⟩ := cb_some hS (by omega) h51
            refine a_aload (pc' := 56) hc d_E_choose_54 rfl rfl ?_
            refine c_getH (pc' := 59) hc hK in_C rfl hh hC47 0 (v := .int (τ 4 (3 * d4 + k15))) (by decide) rfl fl_E_192 d_E_choose_56 rfl ?_
            refine a_aload_n (pc' := 60) hc d_E_choose_59 rfl rfl rfl ?_
            refine c_getH (pc' := 63) hc hK in_C rfl hh hC51 0 (v := .int (τ 4 b51)) (by decide) rfl fl_E_192 d_E_choose_60 rfl ?_
            refine a_icmp_le (pc' := 66) (tgt := 70) hc d_E_choose_63 rfl rfl (fun h63 => ?_) (fun h63 => ?_)
            · skip
              refine a_iconst (pc' := 71) (v := nI 0) hc d_E_choose_70 rfl (by decide) ?_
              refine a_istore (pc' := 73) hc d_E_choose_71 rfl (by decide) ?_
              refine a_iload (pc' := 75) hc d_E_choose_73 rfl rfl ?_
              refine a_ifn_eq (pc' := 78) (tgt := 94) hc d_E_choose_75 rfl rfl (by omega) (fun h75 => ?_) (fun h75 => absurd h75 (by omega))
              refine a_ninc (pc' := 97) hc d_E_choose_94 rfl rfl (by decide) ?_
              refine a_goto (tgt := 15) hc d_E_choose_97 rfl ?_
              refine AW.mask [true, true, true, true, false, false] ?_
              refine AW.lvq 1 (x := some a51) (y := cbQ τ κ n (3 * d4 + (k15 + 1))) rfl ((cb_le c51 h63).trans h51) ?_
              exact AW.to rfl rfl rfl (ih15 (by omega))
            · skip
              refine a_iconst (pc' := 67) (v := nI 1) hc d_E_choose_66 rfl (by decide) ?_
              refine a_goto (tgt := 71) hc d_E_choose_67 rfl ?_
              refine a_istore (pc' := 73) hc d_E_choose_71 rfl (by decide) ?_
              refine a_iload (pc' := 75) hc d_E_choose_73 rfl rfl ?_
              refine a_ifn_eq (pc' := 78) (tgt := 94) hc d_E_choose_75 rfl rfl (by omega) (fun h75 => absurd h75 (by omega)) (fun h75 => ?_)
              refine a_aload_n (pc' := 79) hc d_E_choose_78 rfl rfl rfl ?_
              refine a_aload_n (pc' := 80) hc d_E_choose_79 rfl rfl rfl ?_
              refine a_aload (pc' := 82) hc d_E_choose_80 rfl rfl ?_
              refine c_calli (pc' := 85) hc hK hO hA (bx 0) [.ref a47] [.ref (bx 0)] (ct_E_presentHolders hx hh (τ := τ) (κ := κ) (tk := tk) (h := h) (b := a47) (lb := l47) (nb := τ 4 (3 * d4 + k15)) (sb := τ 5 (3 * d4 + k15)) hS hC47) ml_E_232 hd_E_presentHolders ⟨by decide, by decide⟩ rfl rfl (Nat.le_of_ble_eq_true rfl) (cw_at hx.1 (by omega)) rfl rfl d_E_choose_82 rfl ?_
              have hc82 := cntL_le n (qP τ κ (τ 4 (3 * d4 + k15)) (τ 5 (3 * d4 + k15)))
              refine c_calli (pc' := 88) hc hK hO hA (bx 0) [.int (nI (cntL n (qP τ κ (τ 4 (3 * d4 + k15)) (τ 5 (3 * d4 + k15)))))] [] (ct_E_isQuorum hx hh (τ := τ) (κ := κ) (tk := tk) (h := h) (q := cntL n (qP τ κ (τ 4 (3 * d4 + k15)) (τ 5 (3 * d4 + k15)))) (by omega)) ml_E_212 hd_E_isQuorum ⟨by decide, by decide⟩ rfl rfl (Nat.le_of_ble_eq_true rfl) (cw_at hx.1 (by omega)) rfl rfl d_E_choose_85 rfl ?_
              refine a_ifb_eq (pc' := 91) (tgt := 94) hc d_E_choose_88 rfl rfl (fun h88 => ?_) (fun h88 => ?_)
              · skip
                have m88 := may_of h29 hS hp47 h24 h88
                refine a_ninc (pc' := 97) hc d_E_choose_94 rfl rfl (by decide) ?_
                refine a_goto (tgt := 15) hc d_E_choose_97 rfl ?_
                refine AW.mask [true, true, true, true, false, false] ?_
                refine AW.lvq 1 (x := some a51) (y := cbQ τ κ n (3 * d4 + (k15 + 1))) rfl ((cb_skip m88).trans h51) ?_
                exact AW.to rfl rfl rfl (ih15 (by omega))
              · skip
                have m88 := may_of h29 hS hp47 h24 h88
                refine a_aload (pc' := 93) hc d_E_choose_91 rfl rfl ?_
                refine a_astore_n (pc' := 94) hc d_E_choose_93 rfl rfl (by decide) ?_
                refine a_ninc (pc' := 97) hc d_E_choose_94 rfl rfl (by decide) ?_
                refine a_goto (tgt := 15) hc d_E_choose_97 rfl ?_
                refine AW.mask [true, true, true, true, false, false] ?_
                refine AW.lvq 1 (x := some a47) (y := cbQ τ κ n (3 * d4 + (k15 + 1))) rfl ((cb_gt m88 c51 h63).trans (by rw [show 1 + (3 * d4 + k15) = 1 + 3 * d4 + k15 by omega]; exact h47)) ?_
                exact AW.to rfl rfl rfl (ih15 (by omega))
theorem ct_E_bringTo (hx : CX bx rl ca tys n E) (hh : HD bx n h) {d a la : Nat} {num mark : Int32} (hac : tb (τ 0 7) = true → ¬ τ 0 8 < 0) (hd : d < n) (hS : ∀ i, i < 3 → SlOk τ κ h d i) (ha : h a = some (.inr (0, [.int num, .int mark, .ref la]))) (hna : 0 < num) (h6 : ¬ τ 6 d < 0) (hb6 : wrN τ d + 1 < 2 ^ 31) : CC l y_E_bringTo c_E_bringTo 5 (some .boolean) 3 D tys A (cw bx rl ca n E τ κ tk h) [.ref (bx 0), .ref (bx (3 + 4 * d)), .ref a] (some (.int (bI ((slP τ d num mark).1)))) (cw bx rl ca n E ((slP τ d num mark).2) (brK τ κ d a num mark) tk h) := by
  obtain ⟨hn2, hn5⟩ := hx.2.2.1
  obtain ⟨hE2, hE10⟩ := hx.2.2.2
  refine CC.of (own := R_E) rfl (by decide) (Nat.le_of_ble_eq_true rfl) (cat_all rfl) ?_
  intro pp ee ss mm aa bb me cd hc hK hO hr hk hA
  refine AW.to (lv' := [some (.ref (bx 0)), some (.ref (bx (3 + 4 * d))), some (.ref a), none, none]) rfl rfl rfl ?_
  refine a_iconst (pc' := 1) (v := nI 0) hc d_E_bringTo_0 rfl (by decide) ?_
  refine a_istore_n (pc' := 2) hc d_E_bringTo_1 rfl rfl (by decide) ?_
  refine AW.to (f' := cw bx rl ca n E (seT τ num d 0) (seK τ κ num d 0) tk h) (rfl) rfl rfl ?_
  refine AW.loopG 3 0 (fun j2 => cw bx rl ca n E (seT τ num d j2) (seK τ κ num d j2) tk h) (fun j2 => [some (.ref (bx 0)), some (.ref (bx (3 + 4 * d))), some (.ref a), some (.int (nI j2)), none]) (fun j2 => ∀ i, i < j2 → qS τ num d i = false) (Nat.zero_le _) (fun j hj => absurd hj (by omega)) rfl rfl (fun j2 hle2 hG2 ih2 => ?_)
  try dsimp only at hG2 ih2 ⊢
  have hSj := seSl (num := num) hS j2 hle2
  refine a_iload_n (pc' := 3) hc d_E_bringTo_2 rfl rfl rfl ?_
  refine a_iconst (pc' := 4) (v := nI 3) hc d_E_bringTo_3 rfl (by decide) ?_
  refine a_ncmp_ge (pc' := 7) (tgt := 54) hc d_E_bringTo_4 rfl rfl (by omega) (by omega) (fun h4 => ?_) (fun h4 => ?_)
  · skip
    have hex4 : j2 = 3 := by omega
    subst j2
    have hs12 := sl_done (mark := mark) hG2
    have hk12 := br_done (κ := κ) (mark := mark) (a := a) hG2
    have hac3 := hac_se (num := num) (d := d) hac 3 hG2
    refine a_aload_n (pc' := 55) hc d_E_bringTo_54 rfl rfl rfl ?_
    refine a_aload_n (pc' := 56) hc d_E_bringTo_55 rfl rfl rfl ?_
    refine c_calli (pc' := 59) hc hK hO hA (bx (3 + 4 * d)) [.ref a] [] (ct_D_slotWith hx hh (τ := seT τ num d 3) (κ := seK τ κ num d 3) (tk := tk) (h := h) (d := d) (b := a) (lb := la) (nb := num) (sb := mark) (by omega) hSj ha) ml_E_235 hd_D_slotWith ⟨by decide, by decide⟩ rfl rfl (Nat.le_of_ble_eq_true rfl) (cw_d0 hx (by omega)) rfl rfl d_E_bringTo_56 rfl ?_
    refine a_iconst (pc' := 60) (v := -1) hc d_E_bringTo_59 rfl (by decide) ?_
    refine a_icmp_ne (pc' := 63) (tgt := 76) hc d_E_bringTo_60 rfl rfl (fun h60 => ?_) (fun h60 => ?_)
    · skip
      have o60 := ho_sw' hSj hna h60
      refine a_iconst (pc' := 77) (v := nI 1) hc d_E_bringTo_76 rfl (by decide) ?_
      refine a_goto (tgt := 81) hc d_E_bringTo_77 rfl ?_
      exact a_zret hc hr hk (Or.inr rfl) d_E_bringTo_81 (e_i (by first | (rw [hs12, o60]; rfl) | (rw [hs12, o60]; show _ = bI (!stB (seT τ num d 3)); rw [h73]; rfl)) (by first | (rw [hs12, hk12, o60, if_pos rfl, if_pos rfl]; done) | (rw [hs12, hk12, o60, if_neg (by decide), if_neg (by decide)]; exact cw_pk (by omega))))
    · skip
      have o60 := ho_sw hSj hna h60
      refine a_aload_n (pc' := 64) hc d_E_bringTo_63 rfl rfl rfl ?_
      refine a_aload_n (pc' := 65) hc d_E_bringTo_64 rfl rfl rfl ?_
      refine a_aload_n (pc' := 66) hc d_E_bringTo_65 rfl rfl rfl ?_
      refine c_getD (pc' := 69) hc hK hx d 3 (v := .int (nI (wrN (seT τ num d 3) d % 3))) (by omega) (by decide) rfl fl_E_221 d_E_bringTo_66 rfl ?_
      refine a_aload_n (pc' := 70) hc d_E_bringTo_69 rfl rfl rfl ?_
      refine c_calli (pc' := 73) hc hK hO hA (bx 0) [.ref (bx (3 + 4 * d)), .int (nI (wrN (seT τ num d 3) d % 3)), .ref a] [] (ct_E_putCopy hx hh (τ := seT τ num d 3) (κ := seK τ κ num d 3) (tk := tk) (h := h) (d := d) (i := wrN (seT τ num d 3) d % 3) (a := a) (la := la) (na := num) (sa := mark) hac3 (by omega) (by omega) ha hna (by rw [seT_6]; exact h6) (by show (seT τ num d 3 6 d).toNatClampNeg + 1 < 2 ^ 31; rw [seT_6]; exact hb6)) ml_E_228 hd_E_putCopy ⟨by decide, by decide⟩ rfl rfl (Nat.le_of_ble_eq_true rfl) (cw_at hx.1 (by omega)) rfl rfl d_E_bringTo_70 rfl ?_
      refine a_ifb_eq (pc' := 76) (tgt := 80) hc d_E_bringTo_73 rfl rfl (fun h73 => ?_) (fun h73 => ?_)
      · skip
        refine a_iconst (pc' := 81) (v := nI 0) hc d_E_bringTo_80 rfl (by decide) ?_
        exact a_zret hc hr hk (Or.inl rfl) d_E_bringTo_81 (e_i (by first | (rw [hs12, o60]; rfl) | (rw [hs12, o60]; show _ = bI (!stB (seT τ num d 3)); rw [h73]; rfl)) (by first | (rw [hs12, hk12, o60, if_pos rfl, if_pos rfl]; done) | (rw [hs12, hk12, o60, if_neg (by decide), if_neg (by decide)]; exact cw_pk (by omega))))
      · skip
        refine a_iconst (pc' := 77) (v := nI 1) hc d_E_bringTo_76 rfl (by decide) ?_
        refine a_goto (tgt := 81) hc d_E_bringTo_77 rfl ?_
        exact a_zret hc hr hk (Or.inr rfl) d_E_bringTo_81 (e_i (by first | (rw [hs12, o60]; rfl) | (rw [hs12, o60]; show _ = bI (!stB (seT τ num d 3)); rw [h73]; rfl)) (by first | (rw [hs12, hk12, o60, if_pos rfl, if_pos rfl]; done) | (rw [hs12, hk12, o60, if_neg (by decide), if_neg (by decide)]; exact cw_pk (by omega))))
  · skip
    refine a_aload_n (pc' := 8) hc d_E_bringTo_7 rfl rfl rfl ?_
    refine c_getD (pc' := 11) hc hK hx d 1 (v := .ref (bx (5 + 4 * d))) (by omega) (by decide) rfl fl_E_208 d_E_bringTo_8 rfl ?_
    refine a_iload_n (pc' := 12) hc d_E_bringTo_11 rfl rfl rfl ?_
    refine c_kald (pc' := 13) hc hK hx d j2 (by omega) (by omega) d_E_bringTo_12 rfl ?_
    refine a_astoreq (pc' := 15) hc d_E_bringTo_13 rfl (by decide) ?_
    refine a_aloadq (pc' := 17) hc d_E_bringTo_15 rfl rfl ?_
    refine a_ifnull (pc' := 20) (tgt := 48) hc d_E_bringTo_17 rfl rfl (fun h17 => ?_) (fun a17 h17 => ?_)
    · skip
      try rw [h17]
      have e17 := sl_le (hSj j2 h4) hna h17
      refine a_ninc (pc' := 51) hc d_E_bringTo_48 rfl rfl (by decide) ?_
      refine a_goto (tgt := 2) hc d_E_bringTo_51 rfl ?_
      refine AW.mask [true, true, true, true, false] ?_
      refine AW.to (f' := cw bx rl ca n E (seT τ num d (j2 + 1)) (seK τ κ num d (j2 + 1)) tk h) (se_keep e17) rfl rfl ?_
      exact AW.to rfl rfl rfl (ih2 (by omega) (allf_s hG2 (by simp [qS, e17])))
    · skip
      try rw [h17]
      obtain ⟨l17, hp17, hC17⟩ := (hSj j2 h4).some h17
      refine a_aload (pc' := 22) hc d_E_bringTo_20 rfl rfl ?_
      refine c_getH (pc' := 25) hc hK in_C rfl hh hC17 0 (v := .int (seT τ num d j2 4 (3 * d + j2))) (by decide) rfl fl_E_192 d_E_bringTo_22 rfl ?_
      refine a_aload_n (pc' := 26) hc d_E_bringTo_25 rfl rfl rfl ?_
      refine c_getH (pc' := 29) hc hK in_C rfl hh ha 0 (v := .int num) (by decide) rfl fl_E_192 d_E_bringTo_26 rfl ?_
      refine a_icmp_le (pc' := 32) (tgt := 48) hc d_E_bringTo_29 rfl rfl (fun h29 => ?_) (fun h29 => ?_)
      · skip
        refine a_ninc (pc' := 51) hc d_E_bringTo_48 rfl rfl (by decide) ?_
        refine a_goto (tgt := 2) hc d_E_bringTo_51 rfl ?_
        refine AW.mask [true, true, true, true, false] ?_
        refine AW.to (f' := cw bx rl ca n E (seT τ num d (j2 + 1)) (seK τ κ num d (j2 + 1)) tk h) (se_keep h29) rfl rfl ?_
        exact AW.to rfl rfl rfl (ih2 (by omega) (allf_s hG2 (by simp [qS, h29])))
      · skip
        refine a_aload_n (pc' := 33) hc d_E_bringTo_32 rfl rfl rfl ?_
        refine c_calli (pc' := 36) hc hK hO hA (bx 0) [] [] (ct_E_mayAct hx hh (τ := seT τ num d j2) (κ := seK τ κ num d j2) (tk := tk) (h := h) (hac_se hac j2 hG2)) ml_E_218 hd_E_mayAct ⟨by decide, by decide⟩ rfl rfl (Nat.le_of_ble_eq_true rfl) (cw_at hx.1 (by omega)) rfl rfl d_E_bringTo_33 rfl ?_
        refine a_ifb_ne (pc' := 39) (tgt := 41) hc d_E_bringTo_36 rfl rfl (fun h36 => ?_) (fun h36 => ?_)
        · skip
          refine a_aload_n (pc' := 42) hc d_E_bringTo_41 rfl rfl rfl ?_
          refine c_getD (pc' := 45) hc hK hx d 1 (v := .ref (bx (5 + 4 * d))) (by omega) (by decide) rfl fl_E_208 d_E_bringTo_42 rfl ?_
          refine a_iload_n (pc' := 46) hc d_E_bringTo_45 rfl rfl rfl ?_
          refine a_null (pc' := 47) hc d_E_bringTo_46 rfl ?_
          refine c_kastN (pc' := 48) hc hK hx d j2 (by omega) (by omega) d_E_bringTo_47 rfl ?_
          refine a_ninc (pc' := 51) hc d_E_bringTo_48 rfl rfl (by decide) ?_
          refine a_goto (tgt := 2) hc d_E_bringTo_51 rfl ?_
          refine AW.mask [true, true, true, true, false] ?_
          refine AW.to (f' := cw bx rl ca n E (seT τ num d (j2 + 1)) (seK τ κ num d (j2 + 1)) tk h) (se_next hna h29) rfl rfl ?_
          exact AW.to rfl rfl rfl (ih2 (by omega) (allf_s hG2 (by simp at h36; simp [qS, h36])))
        · skip
          have s36 : stB (seT τ num d j2) = true := by simpa using h36
          refine a_iconst (pc' := 40) (v := nI 0) hc d_E_bringTo_39 rfl (by decide) ?_
          exact a_zret hc hr hk (Or.inl rfl) d_E_bringTo_40 (e_i (by rw [sl_stop hG2 (by omega) h29 s36]; rfl) (by rw [sl_stop hG2 (by omega) h29 s36, br_stop hG2 (by omega) h29 s36]))
