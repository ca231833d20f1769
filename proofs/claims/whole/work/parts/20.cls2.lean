variable {l : Launch} {D : va_G} {tys : List (ClassId × FieldType)} {A : Nat → Prop} {bx rl : Nat → Nat} {ca : Nat → ClassId} {n E : Nat} {τ : TS} {κ : Nat → Option Nat} {tk : Nat → Int32} {h : Nat → Option va_E}
theorem ct_E_take (hx : CX bx rl ca tys n E) (hh : HD bx n h) {q : Nat} {u : Nat → Bool} (hq : q / 16 < n) (hq1 : q % 16 < E) (hq2 : q < 2 ^ 31) : CC l y_E_take c_E_take 2 none 0 D tys A (cw bx rl ca n E τ κ (tkF u E) h) [.ref (bx 0), .int (nI q)] none (cw bx rl ca n E τ κ (tkF (fun x => u x || decide (x = q)) E) h) := by
  obtain ⟨hn2, hn5⟩ := hx.2.2.1
  obtain ⟨hE2, hE10⟩ := hx.2.2.2
  refine CC.of (own := R_E) rfl (by decide) (Nat.le_of_ble_eq_true rfl) (cat_all rfl) ?_
  intro pp ee ss mm aa bb me cd hc hK hO hr hk hA
  refine AW.to (lv' := [some (.ref (bx 0)), some (.int (nI q))]) rfl rfl rfl ?_
  refine a_aload_n (pc' := 1) hc d_E_take_0 rfl rfl rfl ?_
  refine c_getE (pc' := 4) hc hK hx 2 (v := .ref (bx 2)) (by decide) (rfl) fl_E_43 d_E_take_1 rfl ?_
  refine a_iload_n (pc' := 5) hc d_E_take_4 rfl rfl rfl ?_
  refine a_bipush (pc' := 7) (v := nI 16) hc d_E_take_5 rfl (by decide) ?_
  refine a_ndiv (pc' := 8) hc d_E_take_7 rfl (by omega) (by omega) (by omega) ?_
  refine a_dup2 (pc' := 9) hc d_E_take_8 rfl rfl rfl ?_
  refine c_mald (pc' := 10) hc hK hx (q / 16) (by omega) d_E_take_9 rfl ?_
  refine a_iconst (pc' := 11) (v := nI 1) hc d_E_take_10 rfl (by decide) ?_
  refine a_iload_n (pc' := 12) hc d_E_take_11 rfl rfl rfl ?_
  refine a_bipush (pc' := 14) (v := nI 16) hc d_E_take_12 rfl (by decide) ?_
  refine a_nrem (pc' := 15) hc d_E_take_14 rfl (by omega) (by omega) (by omega) ?_
  refine a_ishl (pc' := 16) hc d_E_take_15 rfl ?_
  refine a_ior (pc' := 17) hc d_E_take_16 rfl ?_
  refine c_mast (pc' := 18) hc hK hx (q / 16) (by omega) d_E_take_17 rfl ?_
  exact a_vret hc hr hk d_E_take_18 (e_v (by rw [tk_take hE10 hq1]))
theorem ct_E_freeCount (hx : CX bx rl ca tys n E) (hh : HD bx n h) {d : Nat} {u : Nat → Bool} (hd : d < n) : CC l y_E_freeCount c_E_freeCount 2 (some .int) 1 D tys A (cw bx rl ca n E τ κ (tkF u E) h) [.ref (bx 0), .int (nI d)] (some (.int (nI (frU u E d)))) (cw bx rl ca n E τ κ (tkF u E) h) := by
  obtain ⟨hn2, hn5⟩ := hx.2.2.1
  obtain ⟨hE2, hE10⟩ := hx.2.2.2
  refine CC.of (own := R_E) rfl (by decide) (Nat.le_of_ble_eq_true rfl) (cat_all rfl) ?_
  intro pp ee ss mm aa bb me cd hc hK hO hr hk hA
  refine AW.to (lv' := [some (.ref (bx 0)), some (.int (nI d))]) rfl rfl rfl ?_
  refine a_aload_n (pc' := 1) hc d_E_freeCount_0 rfl rfl rfl ?_
  refine c_getE (pc' := 4) hc hK hx 0 (v := .int (nI E)) (by decide) (rfl) fl_E_16 d_E_freeCount_1 rfl ?_
  refine a_aload_n (pc' := 5) hc d_E_freeCount_4 rfl rfl rfl ?_
  refine c_getE (pc' := 8) hc hK hx 2 (v := .ref (bx 2)) (by decide) (rfl) fl_E_43 d_E_freeCount_5 rfl ?_
  refine a_iload_n (pc' := 9) hc d_E_freeCount_8 rfl rfl rfl ?_
  refine c_mald (pc' := 10) hc hK hx d (by omega) d_E_freeCount_9 rfl ?_
  refine c_calls (pc' := 13) hc hK hO hA [.int ((tkF u E) d)] [.int (nI E)] (ct_JI_bitCount (x := (tkF u E) d)) ml_E_248 hd_JI_bitCount ⟨by decide, by decide⟩ rfl rfl (Nat.le_of_ble_eq_true rfl) d_E_freeCount_10 rfl ?_
  refine AW.topi (y := nI (cntL E (fun e => u (16 * d + e)))) (tk_cnt hE10) ?_
  refine a_nsub (pc' := 14) hc d_E_freeCount_13 rfl (cntL_le _ _) ?_
  exact a_iret hc hr hk d_E_freeCount_14 (e_i (congrArg nI (by have := cntL_not (fun e => u (16 * d + e)) E; unfold frU; omega)) (rfl))
theorem ct_E_leastFree (hx : CX bx rl ca tys n E) (hh : HD bx n h) {d : Nat} {u : Nat → Bool} (hd : d < n) : CC l y_E_leastFree c_E_leastFree 3 (some .int) 0 D tys A (cw bx rl ca n E τ κ (tkF u E) h) [.ref (bx 0), .int (nI d)] (some (.int (lfU u E d))) (cw bx rl ca n E τ κ (tkF u E) h) := by
  obtain ⟨hn2, hn5⟩ := hx.2.2.1
  obtain ⟨hE2, hE10⟩ := hx.2.2.2
  refine CC.of (own := R_E) rfl (by decide) (Nat.le_of_ble_eq_true rfl) (cat_all rfl) ?_
  intro pp ee ss mm aa bb me cd hc hK hO hr hk hA
  refine AW.to (lv' := [some (.ref (bx 0)), some (.int (nI d)), none]) rfl rfl rfl ?_
  refine a_iconst (pc' := 1) (v := nI 0) hc d_E_leastFree_0 rfl (by decide) ?_
  refine a_istore_n (pc' := 2) hc d_E_leastFree_1 rfl rfl (by decide) ?_
  refine AW.loopG E 0 (fun e2 => cw bx rl ca n E τ κ (tkF u E) h) (fun e2 => [some (.ref (bx 0)), some (.int (nI d)), some (.int (nI e2))]) (fun e2 => ∀ j, j < e2 → (fun e => !u (16 * d + e)) j = false) (Nat.zero_le _) (fun j hj => absurd hj (by omega)) rfl rfl (fun e2 hle2 hG2 ih2 => ?_)
  try dsimp only at hG2 ih2 ⊢
  refine a_iload_n (pc' := 3) hc d_E_leastFree_2 rfl rfl rfl ?_
  refine a_aload_n (pc' := 4) hc d_E_leastFree_3 rfl rfl rfl ?_
  refine c_getE (pc' := 7) hc hK hx 0 (v := .int (nI E)) (by decide) (rfl) fl_E_16 d_E_leastFree_4 rfl ?_
  refine a_ncmp_ge (pc' := 10) (tgt := 36) hc d_E_leastFree_7 rfl rfl (by omega) (by omega) (fun h7 => ?_) (fun h7 => ?_)
  · skip
    have hex7 : e2 = E := by omega
    subst e2
    refine a_iconst (pc' := 37) (v := -1) hc d_E_leastFree_36 rfl (by decide) ?_
    exact a_iret hc hr hk d_E_leastFree_37 (e_i (lfU_miss hG2) (rfl))
  · skip
    refine a_aload_n (pc' := 11) hc d_E_leastFree_10 rfl rfl rfl ?_
    refine c_getE (pc' := 14) hc hK hx 2 (v := .ref (bx 2)) (by decide) (rfl) fl_E_43 d_E_leastFree_11 rfl ?_
    refine a_iload_n (pc' := 15) hc d_E_leastFree_14 rfl rfl rfl ?_
    refine c_mald (pc' := 16) hc hK hx d (by omega) d_E_leastFree_15 rfl ?_
    refine a_iconst (pc' := 17) (v := nI 1) hc d_E_leastFree_16 rfl (by decide) ?_
    refine a_iload_n (pc' := 18) hc d_E_leastFree_17 rfl rfl rfl ?_
    refine a_ishl (pc' := 19) hc d_E_leastFree_18 rfl ?_
    refine a_iand (pc' := 20) hc d_E_leastFree_19 rfl ?_
    refine a_if_ne (pc' := 23) (tgt := 30) hc d_E_leastFree_20 rfl rfl (fun h20 => ?_) (fun h20 => ?_)
    · skip
      refine a_ninc (pc' := 33) hc d_E_leastFree_30 rfl rfl (by decide) ?_
      refine a_goto (tgt := 2) hc d_E_leastFree_33 rfl ?_
      exact AW.to rfl rfl rfl (ih2 (by omega) (allf_s (q := fun e => !u (16 * d + e)) hG2 (by show (!u (16 * d + e2)) = false; cases hu : u (16 * d + e2) with | true => rfl | false => exact absurd ((tk_bit hE10 h7).mpr hu) h20)))
    · skip
      refine a_bipush (pc' := 25) (v := nI 16) hc d_E_leastFree_23 rfl (by decide) ?_
      refine a_iload_n (pc' := 26) hc d_E_leastFree_25 rfl rfl rfl ?_
      refine a_nmul (pc' := 27) hc d_E_leastFree_26 rfl ?_
      refine a_iload_n (pc' := 28) hc d_E_leastFree_27 rfl rfl rfl ?_
      refine a_nadd (pc' := 29) hc d_E_leastFree_28 rfl ?_
      exact a_iret hc hr hk d_E_leastFree_29 (e_i (lfU_hit hG2 ((tk_bit hE10 h7).mp h20) (by omega)) (rfl))
theorem ct_E_roomiest (hx : CX bx rl ca tys n E) (hh : HD bx n h) {P u : Nat → Bool} : CC l y_E_roomiest c_E_roomiest 6 (some .int) 2 D tys A (cw bx rl ca n E τ κ (tkF u E) h) [.ref (bx 0), .int (nI (mkL P n))] (some (.int (chI (rmQ τ u n E P)))) (cw bx rl ca n E τ κ (tkF u E) h) := by
  obtain ⟨hn2, hn5⟩ := hx.2.2.1
  obtain ⟨hE2, hE10⟩ := hx.2.2.2
  refine CC.of (own := R_E) rfl (by decide) (Nat.le_of_ble_eq_true rfl) (cat_all rfl) ?_
  intro pp ee ss mm aa bb me cd hc hK hO hr hk hA
  refine AW.to (lv' := [some (.ref (bx 0)), some (.int (nI (mkL P n))), none, none, none, none]) rfl rfl rfl ?_
  refine a_iconst (pc' := 1) (v := -1) hc d_E_roomiest_0 rfl (by decide) ?_
  refine a_istore_n (pc' := 2) hc d_E_roomiest_1 rfl rfl (by decide) ?_
  refine a_iconst (pc' := 3) (v := nI 0) hc d_E_roomiest_2 rfl (by decide) ?_
  refine a_istore_n (pc' := 4) hc d_E_roomiest_3 rfl rfl (by decide) ?_
  refine a_iconst (pc' := 5) (v := nI 0) hc d_E_roomiest_4 rfl (by decide) ?_
  refine a_istore (pc' := 7) hc d_E_roomiest_5 rfl (by decide) ?_
  refine AW.lvi 2 (y := chI (rmL τ u E P 0).1) rfl (by first | rfl | (simp only []; done) | (simp []; done)) ?_
  refine AW.lvi 3 (y := nI ((rmL τ u E P 0).2)) rfl (by first | rfl | (simp only []; done) | (simp []; done)) ?_
  refine AW.loop n 0 (fun d7 => cw bx rl ca n E τ κ (tkF u E) h) (fun d7 => [some (.ref (bx 0)), some (.int (nI (mkL P n))), some (.int (chI (rmL τ u E P d7).1)), some (.int (nI ((rmL τ u E P d7).2))), some (.int (nI d7)), none]) (Nat.zero_le _) rfl rfl (fun d7 hle7 ih7 => ?_)
  try dsimp only at ih7 ⊢
  refine a_iload (pc' := 9) hc d_E_roomiest_7 rfl rfl ?_
  refine a_aload_n (pc' := 10) hc d_E_roomiest_9 rfl rfl rfl ?_
  refine c_getE (pc' := 13) hc hK hx 1 (v := .ref (bx 1)) (by decide) (rfl) fl_E_36 d_E_roomiest_10 rfl ?_
  refine c_dlen (pc' := 14) hc hK hx d_E_roomiest_13 rfl ?_
  refine a_ncmp_ge (pc' := 17) (tgt := 77) hc d_E_roomiest_14 rfl rfl (by omega) (by omega) (fun h14 => ?_) (fun h14 => ?_)
  · skip
    have hex14 : d7 = n := by omega
    subst d7
    refine a_iload_n (pc' := 78) hc d_E_roomiest_77 rfl rfl rfl ?_
    exact a_iret hc hr hk d_E_roomiest_78 (e_i (by first | rfl | (simp only [h14]; done) | (simp [h14]; done)) (rfl))
  · skip
    have hm7 := rmL_le τ u E P d7
    refine a_aload_n (pc' := 18) hc d_E_roomiest_17 rfl rfl rfl ?_
    refine c_getE (pc' := 21) hc hK hx 1 (v := .ref (bx 1)) (by decide) (rfl) fl_E_36 d_E_roomiest_18 rfl ?_
    refine a_iload (pc' := 23) hc d_E_roomiest_21 rfl rfl ?_
    refine c_ald (pc' := 24) hc hK hx d7 (by omega) d_E_roomiest_23 rfl ?_
    refine c_getD (pc' := 27) hc hK hx d7 4 (v := .int (bI (tb (τ 1 d7)))) (by omega) (by decide) rfl fl_E_132 d_E_roomiest_24 rfl ?_
    refine a_ifb_eq (pc' := 30) (tgt := 43) hc d_E_roomiest_27 rfl rfl (fun h27 => ?_) (fun h27 => ?_)
    · skip
      refine a_iconst (pc' := 44) (v := nI 0) hc d_E_roomiest_43 rfl (by decide) ?_
      refine a_istore (pc' := 46) hc d_E_roomiest_44 rfl (by decide) ?_
      refine a_iload (pc' := 48) hc d_E_roomiest_46 rfl rfl ?_
      refine a_ifn_eq (pc' := 51) (tgt := 71) hc d_E_roomiest_48 rfl rfl (by omega) (fun h48 => ?_) (fun h48 => absurd h48 (by omega))
      refine a_ninc (pc' := 74) hc d_E_roomiest_71 rfl rfl (by decide) ?_
      refine a_goto (tgt := 7) hc d_E_roomiest_74 rfl ?_
      refine AW.mask [true, true, true, true, true, false] ?_
      refine AW.lvi 2 (y := chI (rmL τ u E P (d7 + 1)).1) rfl (by first | (simp [rmL, h14, h27]; done) | (simp [rmL, chI, h14, h27]; done)) ?_
      refine AW.lvi 3 (y := nI ((rmL τ u E P (d7 + 1)).2)) rfl (by first | (simp [rmL, h14, h27]; done)) ?_
      exact AW.to rfl rfl rfl (ih7 (by omega))
    · skip
      refine a_iload_n (pc' := 31) hc d_E_roomiest_30 rfl rfl rfl ?_
      refine a_iconst (pc' := 32) (v := nI 1) hc d_E_roomiest_31 rfl (by decide) ?_
      refine a_iload (pc' := 34) hc d_E_roomiest_32 rfl rfl ?_
      refine a_ishl (pc' := 35) hc d_E_roomiest_34 rfl ?_
      refine a_iand (pc' := 36) hc d_E_roomiest_35 rfl ?_
      refine a_if_ne (pc' := 39) (tgt := 43) hc d_E_roomiest_36 rfl rfl (fun h36 => ?_) (fun h36 => ?_)
      · skip
        have p36 : P d7 = true := by cases hp : P d7 with | true => rfl | false => exact absurd ((mk_and (q := P) h14 (by omega)).mpr hp) h36
        refine a_iconst (pc' := 44) (v := nI 0) hc d_E_roomiest_43 rfl (by decide) ?_
        refine a_istore (pc' := 46) hc d_E_roomiest_44 rfl (by decide) ?_
        refine a_iload (pc' := 48) hc d_E_roomiest_46 rfl rfl ?_
        refine a_ifn_eq (pc' := 51) (tgt := 71) hc d_E_roomiest_48 rfl rfl (by omega) (fun h48 => ?_) (fun h48 => absurd h48 (by omega))
        refine a_ninc (pc' := 74) hc d_E_roomiest_71 rfl rfl (by decide) ?_
        refine a_goto (tgt := 7) hc d_E_roomiest_74 rfl ?_
        refine AW.mask [true, true, true, true, true, false] ?_
        refine AW.lvi 2 (y := chI (rmL τ u E P (d7 + 1)).1) rfl (by first | (simp [rmL, h14, h27, h36, p36]; done) | (simp [rmL, chI, h14, h27, h36, p36]; done)) ?_
        refine AW.lvi 3 (y := nI ((rmL τ u E P (d7 + 1)).2)) rfl (by first | (simp [rmL, h14, h27, h36, p36]; done)) ?_
        exact AW.to rfl rfl rfl (ih7 (by omega))
      · skip
        have p36 : P d7 = false := (mk_and (q := P) h14 (by omega)).mp h36
        refine a_iconst (pc' := 40) (v := nI 1) hc d_E_roomiest_39 rfl (by decide) ?_
        refine a_goto (tgt := 44) hc d_E_roomiest_40 rfl ?_
        refine a_istore (pc' := 46) hc d_E_roomiest_44 rfl (by decide) ?_
        refine a_iload (pc' := 48) hc d_E_roomiest_46 rfl rfl ?_
        refine a_ifn_eq (pc' := 51) (tgt := 71) hc d_E_roomiest_48 rfl rfl (by omega) (fun h48 => absurd h48 (by omega)) (fun h48 => ?_)
        refine a_aload_n (pc' := 52) hc d_E_roomiest_51 rfl rfl rfl ?_
        refine a_iload (pc' := 54) hc d_E_roomiest_52 rfl rfl ?_
        refine c_calli (pc' := 57) hc hK hO hA (bx 0) [.int (nI d7)] [] (ct_E_freeCount hx hh (τ := τ) (κ := κ) (h := h) (d := d7) (u := u) (by omega)) ml_E_195 hd_E_freeCount ⟨by decide, by decide⟩ rfl rfl (Nat.le_of_ble_eq_true rfl) (cw_at hx.1 (by omega)) rfl rfl d_E_roomiest_54 rfl ?_
        have hf54 := frU_le u E d7
        refine a_iload_n (pc' := 58) hc d_E_roomiest_57 rfl rfl rfl ?_
        refine a_ncmp_le (pc' := 61) (tgt := 71) hc d_E_roomiest_58 rfl rfl (by omega) (by omega) (fun h58 => ?_) (fun h58 => ?_)
        · skip
          have n58 := Nat.not_lt.mpr h58
          refine a_ninc (pc' := 74) hc d_E_roomiest_71 rfl rfl (by decide) ?_
          refine a_goto (tgt := 7) hc d_E_roomiest_74 rfl ?_
          refine AW.mask [true, true, true, true, true, false] ?_
          refine AW.lvi 2 (y := chI (rmL τ u E P (d7 + 1)).1) rfl (by first | (simp [rmL, h14, h27, h36, p36, h58, n58]; done) | (simp [rmL, chI, h14, h27, h36, p36, h58, n58]; done)) ?_
          refine AW.lvi 3 (y := nI ((rmL τ u E P (d7 + 1)).2)) rfl (by first | (simp [rmL, h14, h27, h36, p36, h58, n58]; done)) ?_
          exact AW.to rfl rfl rfl (ih7 (by omega))
        · skip
          refine a_iload (pc' := 63) hc d_E_roomiest_61 rfl rfl ?_
          refine a_istore_n (pc' := 64) hc d_E_roomiest_63 rfl rfl (by decide) ?_
          refine a_aload_n (pc' := 65) hc d_E_roomiest_64 rfl rfl rfl ?_
          refine a_iload (pc' := 67) hc d_E_roomiest_65 rfl rfl ?_
          refine c_calli (pc' := 70) hc hK hO hA (bx 0) [.int (nI d7)] [] (ct_E_freeCount hx hh (τ := τ) (κ := κ) (h := h) (d := d7) (u := u) (by omega)) ml_E_195 hd_E_freeCount ⟨by decide, by decide⟩ rfl rfl (Nat.le_of_ble_eq_true rfl) (cw_at hx.1 (by omega)) rfl rfl d_E_roomiest_67 rfl ?_
          refine a_istore_n (pc' := 71) hc d_E_roomiest_70 rfl rfl (by decide) ?_
          refine a_ninc (pc' := 74) hc d_E_roomiest_71 rfl rfl (by decide) ?_
          refine a_goto (tgt := 7) hc d_E_roomiest_74 rfl ?_
          refine AW.mask [true, true, true, true, true, false] ?_
          refine AW.lvi 2 (y := chI (rmL τ u E P (d7 + 1)).1) rfl (by first | (simp [rmL, h14, h27, h36, p36, h58]; done) | (simp [rmL, chI, h14, h27, h36, p36, h58]; done)) ?_
          refine AW.lvi 3 (y := nI ((rmL τ u E P (d7 + 1)).2)) rfl (by first | (simp [rmL, h14, h27, h36, p36, h58]; done)) ?_
          exact AW.to rfl rfl rfl (ih7 (by omega))
theorem ct_E_pickDisks (hx : CX bx rl ca tys n E) (hh : HD bx n h) {w : Nat} {u : Nat → Bool} (hw : w < 2 ^ 31) : CC l y_E_pickDisks c_E_pickDisks 5 (some .int) 3 D tys A (cw bx rl ca n E τ κ (tkF u E) h) [.ref (bx 0), .int (nI w)] (some (.int (pkI τ u n E w))) (cw bx rl ca n E τ κ (tkF u E) h) := by
  obtain ⟨hn2, hn5⟩ := hx.2.2.1
  obtain ⟨hE2, hE10⟩ := hx.2.2.2
  refine CC.of (own := R_E) rfl (by decide) (Nat.le_of_ble_eq_true rfl) (cat_all rfl) ?_
  intro pp ee ss mm aa bb me cd hc hK hO hr hk hA
  refine AW.to (lv' := [some (.ref (bx 0)), some (.int (nI w)), none, none, none]) rfl rfl rfl ?_
  refine a_iconst (pc' := 1) (v := nI 0) hc d_E_pickDisks_0 rfl (by decide) ?_
  refine a_istore_n (pc' := 2) hc d_E_pickDisks_1 rfl rfl (by decide) ?_
  refine a_iconst (pc' := 3) (v := nI 0) hc d_E_pickDisks_2 rfl (by decide) ?_
  refine a_istore_n (pc' := 4) hc d_E_pickDisks_3 rfl rfl (by decide) ?_
  refine AW.lvi 2 (y := nI (mkL (pkS τ u n E 0) n)) rfl (by rw [show pkS τ u n E 0 = fun _ => false from rfl, mkL_f]) ?_
  refine AW.loopG w 0 (fun i4 => cw bx rl ca n E τ κ (tkF u E) h) (fun i4 => [some (.ref (bx 0)), some (.int (nI w)), some (.int (nI (mkL (pkS τ u n E i4) n))), some (.int (nI i4)), none]) (fun i4 => ∀ j, j < i4 → qK τ u n E j = false) (Nat.zero_le _) (fun j hj => absurd hj (by omega)) rfl rfl (fun i4 hle4 hG4 ih4 => ?_)
  try dsimp only at hG4 ih4 ⊢
  refine a_iload_n (pc' := 5) hc d_E_pickDisks_4 rfl rfl rfl ?_
  refine a_iload_n (pc' := 6) hc d_E_pickDisks_5 rfl rfl rfl ?_
  refine a_ncmp_ge (pc' := 9) (tgt := 37) hc d_E_pickDisks_6 rfl rfl (by omega) (by omega) (fun h6 => ?_) (fun h6 => ?_)
  · skip
    have hex6 : i4 = w := by omega
    subst i4
    refine a_iload_n (pc' := 38) hc d_E_pickDisks_37 rfl rfl rfl ?_
    exact a_iret hc hr hk d_E_pickDisks_38 (e_i (pk_done hG4) (rfl))
  · skip
    refine a_aload_n (pc' := 10) hc d_E_pickDisks_9 rfl rfl rfl ?_
    refine a_iload_n (pc' := 11) hc d_E_pickDisks_10 rfl rfl rfl ?_
    refine c_calli (pc' := 14) hc hK hO hA (bx 0) [.int (nI (mkL (pkS τ u n E i4) n))] [] (ct_E_roomiest hx hh (τ := τ) (κ := κ) (h := h) (P := pkS τ u n E i4) (u := u)) ml_E_260 hd_E_roomiest ⟨by decide, by decide⟩ rfl rfl (Nat.le_of_ble_eq_true rfl) (cw_at hx.1 (by omega)) rfl rfl d_E_pickDisks_11 rfl ?_
    refine a_istore (pc' := 16) hc d_E_pickDisks_14 rfl (by decide) ?_
    refine a_iload (pc' := 18) hc d_E_pickDisks_16 rfl rfl ?_
    refine a_iconst (pc' := 19) (v := -1) hc d_E_pickDisks_18 rfl (by decide) ?_
    refine a_icmp_ne (pc' := 22) (tgt := 24) hc d_E_pickDisks_19 rfl rfl (fun h19 => ?_) (fun h19 => ?_)
    · skip
      obtain ⟨b, e19⟩ := ch_s h19
      have hb19 := rmL_lt τ u E (pkS τ u n E i4) n b e19
      refine AW.lvi 4 (y := nI b) rfl (by rw [e19]; rfl) ?_
      refine a_iload_n (pc' := 25) hc d_E_pickDisks_24 rfl rfl rfl ?_
      refine a_iconst (pc' := 26) (v := nI 1) hc d_E_pickDisks_25 rfl (by decide) ?_
      refine a_iload (pc' := 28) hc d_E_pickDisks_26 rfl rfl ?_
      refine a_ishl (pc' := 29) hc d_E_pickDisks_28 rfl ?_
      refine a_ior (pc' := 30) hc d_E_pickDisks_29 rfl ?_
      refine a_istore_n (pc' := 31) hc d_E_pickDisks_30 rfl rfl (by decide) ?_
      refine a_ninc (pc' := 34) hc d_E_pickDisks_31 rfl rfl (by decide) ?_
      refine a_goto (tgt := 4) hc d_E_pickDisks_34 rfl ?_
      refine AW.mask [true, true, true, true, false] ?_
      refine AW.lvi 2 (y := nI (mkL (pkS τ u n E (i4 + 1)) n)) rfl (pk_s e19 hb19 (by omega)) ?_
      exact AW.to rfl rfl rfl (ih4 (by omega) (allf_s hG4 (by unfold qK; rw [e19]; rfl)))
    · skip
      have e19 := ch_n (fun b hb => by have := rmL_lt τ u E (pkS τ u n E i4) n b hb; omega) h19
      refine a_iconst (pc' := 23) (v := nI 0) hc d_E_pickDisks_22 rfl (by decide) ?_
      exact a_iret hc hr hk d_E_pickDisks_23 (e_i (pk_stop hG4 (by omega) e19) (rfl))
theorem ct_E_isMoving (hx : CX bx rl ca tys n E) (hh : HD bx n h) {pa q va : Nat} {mv : Option Nat} {g : Nat → Option Nat} (hP : PrOk h ca τ κ pa q va mv g) {v : Int32} : CC l y_E_isMoving c_E_isMoving 3 (some .boolean) 0 D tys A (cw bx rl ca n E τ κ tk h) [.ref (bx 0), .int v] (some (.int (bI (mgB τ v)))) (cw bx rl ca n E τ κ tk h) := by
  obtain ⟨hn2, hn5⟩ := hx.2.2.1
  obtain ⟨hE2, hE10⟩ := hx.2.2.2
  refine CC.of (own := R_E) rfl (by decide) (Nat.le_of_ble_eq_true rfl) (cat_all rfl) ?_
  intro pp ee ss mm aa bb me cd hc hK hO hr hk hA
  refine AW.to (lv' := [some (.ref (bx 0)), some (.int v), none]) rfl rfl rfl ?_
  refine a_aload_n (pc' := 1) hc d_E_isMoving_0 rfl rfl rfl ?_
  refine c_getE (pc' := 4) hc hK hx 3 (v := .ref pa) (by decide) (by show some (va_rf (κ 0)) = _; rw [hP.1]; rfl) fl_E_47 d_E_isMoving_1 rfl ?_
  refine c_getH (pc' := 7) hc hK in_C rfl hh hP.2.1 2 (v := .ref q) (by decide) rfl fl_E_75 d_E_isMoving_4 rfl ?_
  refine c_getH (pc' := 10) hc hK in_L rfl hh hP.2.2.1 1 (v := va_rf mv) (by decide) rfl fl_E_121 d_E_isMoving_7 rfl ?_
  refine a_astore_nq (pc' := 11) hc d_E_isMoving_10 rfl rfl (by decide) ?_
  refine a_aload_nq (pc' := 12) hc d_E_isMoving_11 rfl rfl rfl ?_
  refine a_ifnull (pc' := 15) (tgt := 27) hc d_E_isMoving_12 rfl rfl (fun h12 => ?_) (fun a12 h12 => ?_)
  · skip
    subst h12
    have n60 := hP.2.2.2.2.2.none
    refine a_iconst (pc' := 28) (v := nI 0) hc d_E_isMoving_27 rfl (by decide) ?_
    exact a_zret hc hr hk (Or.inl rfl) d_E_isMoving_28 (e_i (by first | (simp [mgB, n60, bI]; done) | (rw [← q60] at h20; simp [mgB, p60, h20, bI]; done) | (rw [← q60] at h20; subst h20; simp [mgB, p60, bI]; done)) (rfl))
  · skip
    subst h12
    obtain ⟨p60, hM12⟩ := hP.2.2.2.2.2.some
    have q60 : gt τ 15 60 = nI (gN τ 15 60) := nat_eq p60
    refine a_aload_n (pc' := 16) hc d_E_isMoving_15 rfl rfl rfl ?_
    refine c_getH (pc' := 19) hc hK in_V rfl hh hM12 0 (v := .int (nI (gN τ 15 60))) (by decide) rfl fl_E_198 d_E_isMoving_16 rfl ?_
    refine a_iload_n (pc' := 20) hc d_E_isMoving_19 rfl rfl rfl ?_
    refine a_icmp_ne (pc' := 23) (tgt := 27) hc d_E_isMoving_20 rfl rfl (fun h20 => ?_) (fun h20 => ?_)
    · skip
      refine a_iconst (pc' := 28) (v := nI 0) hc d_E_isMoving_27 rfl (by decide) ?_
      exact a_zret hc hr hk (Or.inl rfl) d_E_isMoving_28 (e_i (by first | (simp [mgB, n60, bI]; done) | (rw [← q60] at h20; simp [mgB, p60, h20, bI]; done) | (rw [← q60] at h20; subst h20; simp [mgB, p60, bI]; done)) (rfl))
    · skip
      refine a_iconst (pc' := 24) (v := nI 1) hc d_E_isMoving_23 rfl (by decide) ?_
      refine a_goto (tgt := 28) hc d_E_isMoving_24 rfl ?_
      exact a_zret hc hr hk (Or.inr rfl) d_E_isMoving_28 (e_i (by first | (simp [mgB, n60, bI]; done) | (rw [← q60] at h20; simp [mgB, p60, h20, bI]; done) | (rw [← q60] at h20; subst h20; simp [mgB, p60, bI]; done)) (rfl))
theorem ct_E_copiedTo (hx : CX bx rl ca tys n E) (hh : HD bx n h) {pa q va : Nat} {mv : Option Nat} {g : Nat → Option Nat} (hP : PrOk h ca τ κ pa q va mv g) {v k c : Int32} (h61 : ¬ gt τ 15 61 < 0) (h62 : ¬ gt τ 15 62 < 0) : CC l y_E_copiedTo c_E_copiedTo 5 (some .int) 0 D tys A (cw bx rl ca n E τ κ tk h) [.ref (bx 0), .int v, .int k, .int c] (some (.int (ctI τ v k c))) (cw bx rl ca n E τ κ tk h) := by
  obtain ⟨hn2, hn5⟩ := hx.2.2.1
  obtain ⟨hE2, hE10⟩ := hx.2.2.2
  have q61 : gt τ 15 61 = nI (gN τ 15 61) := nat_eq h61
  have q62 : gt τ 15 62 = nI (gN τ 15 62) := nat_eq h62
  refine CC.of (own := R_E) rfl (by decide) (Nat.le_of_ble_eq_true rfl) (cat_all rfl) ?_
  intro pp ee ss mm aa bb me cd hc hK hO hr hk hA
  refine AW.to (lv' := [some (.ref (bx 0)), some (.int v), some (.int k), some (.int c), none]) rfl rfl rfl ?_
  refine a_aload_n (pc' := 1) hc d_E_copiedTo_0 rfl rfl rfl ?_
  refine c_getE (pc' := 4) hc hK hx 3 (v := .ref pa) (by decide) (by show some (va_rf (κ 0)) = _; rw [hP.1]; rfl) fl_E_47 d_E_copiedTo_1 rfl ?_
  refine c_getH (pc' := 7) hc hK in_C rfl hh hP.2.1 2 (v := .ref q) (by decide) rfl fl_E_75 d_E_copiedTo_4 rfl ?_
  refine c_getH (pc' := 10) hc hK in_L rfl hh hP.2.2.1 1 (v := va_rf mv) (by decide) rfl fl_E_121 d_E_copiedTo_7 rfl ?_
  refine a_astoreq (pc' := 12) hc d_E_copiedTo_10 rfl (by decide) ?_
  refine a_aloadq (pc' := 14) hc d_E_copiedTo_12 rfl rfl ?_
  refine a_ifnull (pc' := 17) (tgt := 43) hc d_E_copiedTo_14 rfl rfl (fun h14 => ?_) (fun a14 h14 => ?_)
  · skip
    subst h14
    have n60 := hP.2.2.2.2.2.none
    refine a_iconst (pc' := 44) (v := -1) hc d_E_copiedTo_43 rfl (by decide) ?_
    exact a_iret hc hr hk d_E_copiedTo_44 (e_i (by first | (simp [ctI, mgB, n60]; done) | (rw [← q60] at h23; simp [ctI, mgB, p60, h23]; done) | (rw [← q60] at h23; rw [← q61] at h32; simp [ctI, mgB, p60, h23, h32]; done) | (rw [← q60] at h23; rw [← q61] at h32; simp [ctI, mgB, p60, h23, h32, h40]; done)) (rfl))
  · skip
    subst h14
    obtain ⟨p60, hM14⟩ := hP.2.2.2.2.2.some
    have q60 : gt τ 15 60 = nI (gN τ 15 60) := nat_eq p60
    refine a_aload (pc' := 19) hc d_E_copiedTo_17 rfl rfl ?_
    refine c_getH (pc' := 22) hc hK in_V rfl hh hM14 0 (v := .int (nI (gN τ 15 60))) (by decide) rfl fl_E_198 d_E_copiedTo_19 rfl ?_
    refine a_iload_n (pc' := 23) hc d_E_copiedTo_22 rfl rfl rfl ?_
    refine a_icmp_ne (pc' := 26) (tgt := 43) hc d_E_copiedTo_23 rfl rfl (fun h23 => ?_) (fun h23 => ?_)
    · skip
      refine a_iconst (pc' := 44) (v := -1) hc d_E_copiedTo_43 rfl (by decide) ?_
      exact a_iret hc hr hk d_E_copiedTo_44 (e_i (by first | (simp [ctI, mgB, n60]; done) | (rw [← q60] at h23; simp [ctI, mgB, p60, h23]; done) | (rw [← q60] at h23; rw [← q61] at h32; simp [ctI, mgB, p60, h23, h32]; done) | (rw [← q60] at h23; rw [← q61] at h32; simp [ctI, mgB, p60, h23, h32, h40]; done)) (rfl))
    · skip
      refine a_aload (pc' := 28) hc d_E_copiedTo_26 rfl rfl ?_
      refine c_getH (pc' := 31) hc hK in_V rfl hh hM14 1 (v := .int (nI (gN τ 15 61))) (by decide) rfl fl_E_201 d_E_copiedTo_28 rfl ?_
      refine a_iload_n (pc' := 32) hc d_E_copiedTo_31 rfl rfl rfl ?_
      refine a_icmp_ne (pc' := 35) (tgt := 43) hc d_E_copiedTo_32 rfl rfl (fun h32 => ?_) (fun h32 => ?_)
      · skip
        refine a_iconst (pc' := 44) (v := -1) hc d_E_copiedTo_43 rfl (by decide) ?_
        exact a_iret hc hr hk d_E_copiedTo_44 (e_i (by first | (simp [ctI, mgB, n60]; done) | (rw [← q60] at h23; simp [ctI, mgB, p60, h23]; done) | (rw [← q60] at h23; rw [← q61] at h32; simp [ctI, mgB, p60, h23, h32]; done) | (rw [← q60] at h23; rw [← q61] at h32; simp [ctI, mgB, p60, h23, h32, h40]; done)) (rfl))
      · skip
        refine a_iload_n (pc' := 36) hc d_E_copiedTo_35 rfl rfl rfl ?_
        refine a_aload_n (pc' := 37) hc d_E_copiedTo_36 rfl rfl rfl ?_
        refine c_getE (pc' := 40) hc hK hx 4 (v := .int (τ 0 6)) (by decide) (rfl) fl_E_51 d_E_copiedTo_37 rfl ?_
        refine a_icmp_lt (pc' := 43) (tgt := 45) hc d_E_copiedTo_40 rfl rfl (fun h40 => ?_) (fun h40 => ?_)
        · skip
          refine a_aload (pc' := 47) hc d_E_copiedTo_45 rfl rfl ?_
          refine c_getH (pc' := 50) hc hK in_V rfl hh hM14 3 (v := .int (nI (gN τ 15 62))) (by decide) rfl fl_E_154 d_E_copiedTo_47 rfl ?_
          exact a_iret hc hr hk d_E_copiedTo_50 (e_i (by rw [← q60] at h23; rw [← q61] at h32; rw [← q62]; subst h23; subst h32; simp [ctI, mgB, p60, h40]) (rfl))
        · skip
          refine a_iconst (pc' := 44) (v := -1) hc d_E_copiedTo_43 rfl (by decide) ?_
          exact a_iret hc hr hk d_E_copiedTo_44 (e_i (by first | (simp [ctI, mgB, n60]; done) | (rw [← q60] at h23; simp [ctI, mgB, p60, h23]; done) | (rw [← q60] at h23; rw [← q61] at h32; simp [ctI, mgB, p60, h23, h32]; done) | (rw [← q60] at h23; rw [← q61] at h32; simp [ctI, mgB, p60, h23, h32, h40]; done)) (rfl))
theorem ct_E_putCopy (hx : CX bx rl ca tys n E) (hh : HD bx n h) {d i a la : Nat} {na sa : Int32} (hac : tb (τ 0 7) = true → ¬ τ 0 8 < 0) (hd : d < n) (hi : i < 3) (ha : h a = some (.inr (0, [.int na, .int sa, .ref la]))) (hna : 0 < na) (h6 : ¬ τ 6 d < 0) (hb6 : wrN τ d + 1 < 2 ^ 31) : CC l y_E_putCopy c_E_putCopy 5 (some .boolean) 2 D tys A (cw bx rl ca n E τ κ tk h) [.ref (bx 0), .ref (bx (3 + 4 * d)), .int (nI i), .ref a] (some (.int (bI (!stB τ)))) (cw bx rl ca n E (pkT τ d i na) (pkK τ κ d i a) tk h) := by
  obtain ⟨hn2, hn5⟩ := hx.2.2.1
  obtain ⟨hE2, hE10⟩ := hx.2.2.2
  refine CC.of (own := R_E) rfl (by decide) (Nat.le_of_ble_eq_true rfl) (cat_all rfl) ?_
  intro pp ee ss mm aa bb me cd hc hK hO hr hk hA
  refine AW.to (lv' := [some (.ref (bx 0)), some (.ref (bx (3 + 4 * d))), some (.int (nI i)), some (.ref a), none]) rfl rfl rfl ?_
  refine a_aload_n (pc' := 1) hc d_E_putCopy_0 rfl rfl rfl ?_
  refine c_calli (pc' := 4) hc hK hO hA (bx 0) [] [] (ct_E_mayAct hx hh (τ := τ) (κ := κ) (tk := tk) (h := h) hac) ml_E_218 hd_E_mayAct ⟨by decide, by decide⟩ rfl rfl (Nat.le_of_ble_eq_true rfl) (cw_at hx.1 (by omega)) rfl rfl d_E_putCopy_1 rfl ?_
  refine a_istore (pc' := 6) hc d_E_putCopy_4 rfl (by decide) ?_
  refine a_aload_n (pc' := 7) hc d_E_putCopy_6 rfl rfl rfl ?_
  refine c_getD (pc' := 10) hc hK hx d 1 (v := .ref (bx (5 + 4 * d))) (by omega) (by decide) rfl fl_E_208 d_E_putCopy_7 rfl ?_
  refine a_iload_n (pc' := 11) hc d_E_putCopy_10 rfl rfl rfl ?_
  refine a_iload (pc' := 13) hc d_E_putCopy_11 rfl rfl ?_
  refine a_ifb_eq (pc' := 16) (tgt := 20) hc d_E_putCopy_13 rfl rfl (fun h13 => ?_) (fun h13 => ?_)
  · skip
    refine a_null (pc' := 21) hc d_E_putCopy_20 rfl ?_
    refine c_kastN (pc' := 22) hc hK hx d i (by omega) (by omega) d_E_putCopy_21 rfl ?_
    refine a_aload_n (pc' := 23) hc d_E_putCopy_22 rfl rfl rfl ?_
    refine c_getD (pc' := 26) hc hK hx d 2 (v := .ref (bx (6 + 4 * d))) (by omega) (by decide) rfl fl_E_204 d_E_putCopy_23 rfl ?_
    refine a_iload_n (pc' := 27) hc d_E_putCopy_26 rfl rfl rfl ?_
    refine a_iload (pc' := 29) hc d_E_putCopy_27 rfl rfl ?_
    refine a_ifb_ne (pc' := 32) (tgt := 36) hc d_E_putCopy_29 rfl rfl (fun h29 => absurd (h13.symm.trans h29) (by decide)) (fun h29 => ?_)
    refine a_iconst (pc' := 33) (v := nI 1) hc d_E_putCopy_32 rfl (by decide) ?_
    refine a_goto (tgt := 37) hc d_E_putCopy_33 rfl ?_
    refine c_tast (pc' := 38) hc hK hx d i (x := -11) (by rfl) (by omega) (by omega) d_E_putCopy_37 rfl ?_
    refine a_aload_n (pc' := 39) hc d_E_putCopy_38 rfl rfl rfl ?_
    refine a_aload_n (pc' := 40) hc d_E_putCopy_39 rfl rfl rfl ?_
    refine c_getD (pc' := 43) hc hK hx d 3 (v := .int (nI (wrN (ts (stT τ) 4 (3 * d + i) (-11)) d % 3))) (by omega) (by decide) rfl fl_E_221 d_E_putCopy_40 rfl ?_
    refine a_iconst (pc' := 44) (v := nI 1) hc d_E_putCopy_43 rfl (by decide) ?_
    refine a_nadd (pc' := 45) hc d_E_putCopy_44 rfl ?_
    refine a_iconst (pc' := 46) (v := nI 3) hc d_E_putCopy_45 rfl (by decide) ?_
    refine a_nrem (pc' := 47) hc d_E_putCopy_46 rfl (by omega) (by omega) (by omega) ?_
    refine c_putD (pc' := 50) hc hK hx (τ' := ts (ts (stT τ) 4 (3 * d + i) (-11)) 6 d ((ts (stT τ) 4 (3 * d + i) (-11)) 6 d + nI 1)) d 3 (by omega) (by decide) (pk_hs (by rw [ts_ne (by decide), stT_row (by decide)]; exact h6) (by show ((ts (stT τ) 4 _ _) 6 d).toNatClampNeg + 1 < 2 ^ 31; rw [ts_ne (by decide), stT_row (by decide)]; exact hb6)) (pk_ho) (⟨rfl, rfl, rfl⟩) rfl (rfl) (rfl) fl_E_221 d_E_putCopy_47 rfl ?_
    refine a_iload (pc' := 52) hc d_E_putCopy_50 rfl rfl ?_
    exact a_zret hc hr hk (bI_or _) d_E_putCopy_52 (e_i (rfl) (by simp at h13; simp [pkT, pk1, pkK, h13]))
  · skip
    refine a_aload_n (pc' := 17) hc d_E_putCopy_16 rfl rfl rfl ?_
    refine a_goto (tgt := 21) hc d_E_putCopy_17 rfl ?_
    refine c_kast (pc' := 22) hc hK hx hh d i ha (by omega) (by omega) d_E_putCopy_21 rfl ?_
    refine a_aload_n (pc' := 23) hc d_E_putCopy_22 rfl rfl rfl ?_
    refine c_getD (pc' := 26) hc hK hx d 2 (v := .ref (bx (6 + 4 * d))) (by omega) (by decide) rfl fl_E_204 d_E_putCopy_23 rfl ?_
    refine a_iload_n (pc' := 27) hc d_E_putCopy_26 rfl rfl rfl ?_
    refine a_iload (pc' := 29) hc d_E_putCopy_27 rfl rfl ?_
    refine a_ifb_ne (pc' := 32) (tgt := 36) hc d_E_putCopy_29 rfl rfl (fun h29 => ?_) (fun h29 => absurd (h13.symm.trans h29) (by decide))
    refine a_iconst (pc' := 37) (v := nI 0) hc d_E_putCopy_36 rfl (by decide) ?_
    refine c_tast (pc' := 38) hc hK hx d i (x := na) (by rw [decide_eq_false (pos11 hna)]; rfl) (by omega) (by omega) d_E_putCopy_37 rfl ?_
    refine a_aload_n (pc' := 39) hc d_E_putCopy_38 rfl rfl rfl ?_
    refine a_aload_n (pc' := 40) hc d_E_putCopy_39 rfl rfl rfl ?_
    refine c_getD (pc' := 43) hc hK hx d 3 (v := .int (nI (wrN (ts (stT τ) 4 (3 * d + i) na) d % 3))) (by omega) (by decide) rfl fl_E_221 d_E_putCopy_40 rfl ?_
    refine a_iconst (pc' := 44) (v := nI 1) hc d_E_putCopy_43 rfl (by decide) ?_
    refine a_nadd (pc' := 45) hc d_E_putCopy_44 rfl ?_
    refine a_iconst (pc' := 46) (v := nI 3) hc d_E_putCopy_45 rfl (by decide) ?_
    refine a_nrem (pc' := 47) hc d_E_putCopy_46 rfl (by omega) (by omega) (by omega) ?_
    refine c_putD (pc' := 50) hc hK hx (τ' := ts (ts (stT τ) 4 (3 * d + i) na) 6 d ((ts (stT τ) 4 (3 * d + i) na) 6 d + nI 1)) d 3 (by omega) (by decide) (pk_hs (by rw [ts_ne (by decide), stT_row (by decide)]; exact h6) (by show ((ts (stT τ) 4 _ _) 6 d).toNatClampNeg + 1 < 2 ^ 31; rw [ts_ne (by decide), stT_row (by decide)]; exact hb6)) (pk_ho) (⟨rfl, rfl, rfl⟩) rfl (rfl) (rfl) fl_E_221 d_E_putCopy_47 rfl ?_
    refine a_iload (pc' := 52) hc d_E_putCopy_50 rfl rfl ?_
    exact a_zret hc hr hk (bI_or _) d_E_putCopy_52 (e_i (rfl) (by simp at h13; simp [pkT, pk1, pkK, h13]))
theorem ct_E_presentHolders (hx : CX bx rl ca tys n E) (hh : HD bx n h) {b lb : Nat} {nb sb : Int32} (hS : ∀ d, d < n → ∀ i, i < 3 → SlOk τ κ h d i) (hb : h b = some (.inr (0, [.int nb, .int sb, .ref lb]))) : CC l y_E_presentHolders c_E_presentHolders 4 (some .int) 2 D tys A (cw bx rl ca n E τ κ tk h) [.ref (bx 0), .ref b] (some (.int (nI (cntL n (qP τ κ nb sb))))) (cw bx rl ca n E τ κ tk h) := by
  obtain ⟨hn2, hn5⟩ := hx.2.2.1
  obtain ⟨hE2, hE10⟩ := hx.2.2.2
  refine CC.of (own := R_E) rfl (by decide) (Nat.le_of_ble_eq_true rfl) (cat_all rfl) ?_
  intro pp ee ss mm aa bb me cd hc hK hO hr hk hA
  refine AW.to (lv' := [some (.ref (bx 0)), some (.ref b), none, none]) rfl rfl rfl ?_
  refine a_iconst (pc' := 1) (v := nI 0) hc d_E_presentHolders_0 rfl (by decide) ?_
  refine a_istore_n (pc' := 2) hc d_E_presentHolders_1 rfl rfl (by decide) ?_
  refine a_iconst (pc' := 3) (v := nI 0) hc d_E_presentHolders_2 rfl (by decide) ?_
  refine a_istore_n (pc' := 4) hc d_E_presentHolders_3 rfl rfl (by decide) ?_
  refine AW.lvi 2 (y := nI (cntL 0 (qP τ κ nb sb))) rfl (by first | rfl | (simp only [cntL_s, cntL_0, qP]; done) | (simp [cntL_s, cntL_0, qP]; done)) ?_
  refine AW.loop n 0 (fun d4 => cw bx rl ca n E τ κ tk h) (fun d4 => [some (.ref (bx 0)), some (.ref b), some (.int (nI (cntL d4 (qP τ κ nb sb)))), some (.int (nI d4))]) (Nat.zero_le _) rfl rfl (fun d4 hle4 ih4 => ?_)
  try dsimp only at ih4 ⊢
  refine a_iload_n (pc' := 5) hc d_E_presentHolders_4 rfl rfl rfl ?_
  refine a_aload_n (pc' := 6) hc d_E_presentHolders_5 rfl rfl rfl ?_
  refine c_getE (pc' := 9) hc hK hx 1 (v := .ref (bx 1)) (by decide) (rfl) fl_E_36 d_E_presentHolders_6 rfl ?_
  refine c_dlen (pc' := 10) hc hK hx d_E_presentHolders_9 rfl ?_
  refine a_ncmp_ge (pc' := 13) (tgt := 48) hc d_E_presentHolders_10 rfl rfl (by omega) (by omega) (fun h10 => ?_) (fun h10 => ?_)
  · skip
    have hex10 : d4 = n := by omega
    subst d4
    refine a_iload_n (pc' := 49) hc d_E_presentHolders_48 rfl rfl rfl ?_
    exact a_iret hc hr hk d_E_presentHolders_49 (e_i (rfl) (rfl))
  · skip
    refine a_aload_n (pc' := 14) hc d_E_presentHolders_13 rfl rfl rfl ?_
    refine c_getE (pc' := 17) hc hK hx 1 (v := .ref (bx 1)) (by decide) (rfl) fl_E_36 d_E_presentHolders_14 rfl ?_
    refine a_iload_n (pc' := 18) hc d_E_presentHolders_17 rfl rfl rfl ?_
    refine c_ald (pc' := 19) hc hK hx d4 (by omega) d_E_presentHolders_18 rfl ?_
    refine c_getD (pc' := 22) hc hK hx d4 4 (v := .int (bI (tb (τ 1 d4)))) (by omega) (by decide) rfl fl_E_132 d_E_presentHolders_19 rfl ?_
    refine a_ifb_eq (pc' := 25) (tgt := 42) hc d_E_presentHolders_22 rfl rfl (fun h22 => ?_) (fun h22 => ?_)
    · skip
      refine a_ninc (pc' := 45) hc d_E_presentHolders_42 rfl rfl (by decide) ?_
      refine a_goto (tgt := 4) hc d_E_presentHolders_45 rfl ?_
      refine AW.lvi 2 (y := nI (cntL (d4 + 1) (qP τ κ nb sb))) rfl (by first | rfl | (simp only [cntL_s, cntL_0, qP, h10, h22]; done) | (simp [cntL_s, cntL_0, qP, h10, h22]; done)) ?_
      exact AW.to rfl rfl rfl (ih4 (by omega))
    · skip
      refine a_aload_n (pc' := 26) hc d_E_presentHolders_25 rfl rfl rfl ?_
      refine c_getE (pc' := 29) hc hK hx 1 (v := .ref (bx 1)) (by decide) (rfl) fl_E_36 d_E_presentHolders_26 rfl ?_
      refine a_iload_n (pc' := 30) hc d_E_presentHolders_29 rfl rfl rfl ?_
      refine c_ald (pc' := 31) hc hK hx d4 (by omega) d_E_presentHolders_30 rfl ?_
      refine a_aload_n (pc' := 32) hc d_E_presentHolders_31 rfl rfl rfl ?_
      refine c_calli (pc' := 35) hc hK hO hA (bx (3 + 4 * d4)) [.ref b] [] (ct_D_slotWith hx hh (τ := τ) (κ := κ) (tk := tk) (h := h) (d := d4) (b := b) (lb := lb) (nb := nb) (sb := sb) (by omega) (hS d4 (by omega)) hb) ml_E_235 hd_D_slotWith ⟨by decide, by decide⟩ rfl rfl (Nat.le_of_ble_eq_true rfl) (cw_d0 hx (by omega)) rfl rfl d_E_presentHolders_32 rfl ?_
      refine a_iconst (pc' := 36) (v := -1) hc d_E_presentHolders_35 rfl (by decide) ?_
      refine a_icmp_eq (pc' := 39) (tgt := 42) hc d_E_presentHolders_36 rfl rfl (fun h36 => ?_) (fun h36 => ?_)
      · skip
        have e36 := sw_f h36
        refine a_ninc (pc' := 45) hc d_E_presentHolders_42 rfl rfl (by decide) ?_
        refine a_goto (tgt := 4) hc d_E_presentHolders_45 rfl ?_
        refine AW.lvi 2 (y := nI (cntL (d4 + 1) (qP τ κ nb sb))) rfl (by first | rfl | (simp only [cntL_s, cntL_0, qP, h10, h22, h36, e36]; done) | (simp [cntL_s, cntL_0, qP, h10, h22, h36, e36]; done)) ?_
        exact AW.to rfl rfl rfl (ih4 (by omega))
      · skip
        have e36 := sw_t h36
        refine a_ninc (pc' := 42) hc d_E_presentHolders_39 rfl rfl (by decide) ?_
        refine a_ninc (pc' := 45) hc d_E_presentHolders_42 rfl rfl (by decide) ?_
        refine a_goto (tgt := 4) hc d_E_presentHolders_45 rfl ?_
        refine AW.lvi 2 (y := nI (cntL (d4 + 1) (qP τ κ nb sb))) rfl (by first | rfl | (simp only [cntL_s, cntL_0, qP, h10, h22, h36, e36]; done) | (simp [cntL_s, cntL_0, qP, h10, h22, h36, e36]; done)) ?_
        exact AW.to rfl rfl rfl (ih4 (by omega))
