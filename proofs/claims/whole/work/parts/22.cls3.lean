variable {l : Launch} {D : va_G} {tys : List (ClassId × FieldType)} {A : Nat → Prop} {bx rl : Nat → Nat} {ca : Nat → ClassId} {n E : Nat} {τ : TS} {κ : Nat → Option Nat} {tk : Nat → Int32} {h : Nat → Option va_E}
theorem ct_E_markTaken (hx : CX bx rl ca tys n E) (hh : HD bx n h) {pa q va : Nat} {mv : Option Nat} {g : Nat → Option Nat} (hP : PrOk h ca τ κ pa q va mv g) (hw : WFx n E τ 15) : CC l y_E_markTaken c_E_markTaken 4 none 1 D tys A (cw bx rl ca n E τ κ tk h) [.ref (bx 0)] none (cw bx rl ca n E τ κ (tkF (usedB τ 15) E) h) := by
  obtain ⟨hn2, hn5⟩ := hx.2.2.1
  obtain ⟨hE2, hE10⟩ := hx.2.2.2
  refine CC.of (own := R_E) rfl (by decide) (Nat.le_of_ble_eq_true rfl) (cat_all rfl) ?_
  intro pp ee ss mm aa bb me cd hc hK hO hr hk hA
  refine AW.to (lv' := [some (.ref (bx 0)), none, none, none]) rfl rfl rfl ?_
  refine a_aload_n (pc' := 1) hc d_E_markTaken_0 rfl rfl rfl ?_
  refine c_getE (pc' := 4) hc hK hx 2 (v := .ref (bx 2)) (by decide) (rfl) fl_E_43 d_E_markTaken_1 rfl ?_
  refine a_iconst (pc' := 5) (v := nI 0) hc d_E_markTaken_4 rfl (by decide) ?_
  refine c_fill (pc' := 8) hc hK hO hA hx [] ml_E_238 (by decide) (Nat.le_of_ble_eq_true rfl) d_E_markTaken_5 rfl ?_
  refine a_iconst (pc' := 9) (v := nI 0) hc d_E_markTaken_8 rfl (by decide) ?_
  refine a_istore_n (pc' := 10) hc d_E_markTaken_9 rfl rfl (by decide) ?_
  refine AW.to (f' := cw bx rl ca n E τ κ (tkF (fun x => mV τ 15 x 0) E) h) (rfl) rfl rfl ?_
  refine AW.loop 4 0 (fun i10 => cw bx rl ca n E τ κ (tkF (fun x => mV τ 15 x i10) E) h) (fun i10 => [some (.ref (bx 0)), some (.int (nI i10)), none, none]) (Nat.zero_le _) rfl rfl (fun i10 hle10 ih10 => ?_)
  try dsimp only at ih10 ⊢
  refine a_iload_n (pc' := 11) hc d_E_markTaken_10 rfl rfl rfl ?_
  refine a_iconst (pc' := 12) (v := nI 4) hc d_E_markTaken_11 rfl (by decide) ?_
  refine a_ncmp_ge (pc' := 15) (tgt := 64) hc d_E_markTaken_12 rfl rfl (by omega) (by omega) (fun h12 => ?_) (fun h12 => ?_)
  · skip
    have hex12 : i10 = 4 := by omega
    subst i10
    refine a_aload_n (pc' := 65) hc d_E_markTaken_64 rfl rfl rfl ?_
    refine c_getE (pc' := 68) hc hK hx 3 (v := .ref pa) (by decide) (by show some (va_rf (κ 0)) = _; rw [hP.1]; rfl) fl_E_47 d_E_markTaken_65 rfl ?_
    refine c_getH (pc' := 71) hc hK in_C rfl hh hP.2.1 2 (v := .ref q) (by decide) rfl fl_E_75 d_E_markTaken_68 rfl ?_
    refine c_getH (pc' := 74) hc hK in_L rfl hh hP.2.2.1 1 (v := va_rf mv) (by decide) rfl fl_E_121 d_E_markTaken_71 rfl ?_
    refine a_ifnull (pc' := 77) (tgt := 94) hc d_E_markTaken_74 rfl rfl (fun h74 => ?_) (fun a74 h74 => ?_)
    · skip
      try rw [h74]
      have n60 := mv_noneq hP.2.2.2.2.2 h74
      refine c_tks (tk' := tkF (usedB τ 15) E) hx (fun d hd => tkF_congr (fun e he => us_none hw.1 (by omega) n60)) ?_
      exact a_vret hc hr hk d_E_markTaken_94 (e_v (rfl))
    · skip
      try rw [h74]
      obtain ⟨p60, hM74⟩ := mv_someq hP.2.2.2.2.2 h74
      obtain ⟨hq1, hq2, hq3, hq4⟩ := hw.2.2.2 p60
      have hq5 := gN_lt τ 15 62
      refine a_aload_n (pc' := 78) hc d_E_markTaken_77 rfl rfl rfl ?_
      refine a_aload_n (pc' := 79) hc d_E_markTaken_78 rfl rfl rfl ?_
      refine c_getE (pc' := 82) hc hK hx 3 (v := .ref pa) (by decide) (by show some (va_rf (κ 0)) = _; rw [hP.1]; rfl) fl_E_47 d_E_markTaken_79 rfl ?_
      refine c_getH (pc' := 85) hc hK in_C rfl hh hP.2.1 2 (v := .ref q) (by decide) rfl fl_E_75 d_E_markTaken_82 rfl ?_
      refine c_getH (pc' := 88) hc hK in_L rfl hh hP.2.2.1 1 (v := va_rf mv) (by decide) rfl fl_E_121 d_E_markTaken_85 rfl ?_
      refine AW.top (y := .ref a74) (by rw [h74]; rfl) ?_
      refine c_getH (pc' := 91) hc hK in_V rfl hh hM74 3 (v := .int (nI (gN τ 15 62))) (by decide) rfl fl_E_154 d_E_markTaken_88 rfl ?_
      refine c_callv (pc' := 94) hc hK hO hA (bx 0) [.int (nI (gN τ 15 62))] [] (ct_E_take hx hh (τ := τ) (κ := κ) (h := h) (q := gN τ 15 62) (u := (fun x => mV τ 15 x 4)) (by omega) (by omega) (by omega)) ml_E_244 hd_E_take ⟨by decide, by decide⟩ rfl rfl (Nat.le_of_ble_eq_true rfl) (cw_at hx.1 (by omega)) rfl rfl d_E_markTaken_91 rfl ?_
      refine c_tks (tk' := tkF (usedB τ 15) E) hx (fun d hd => tkF_congr (fun e he => us_some hw.1 (by omega) p60)) ?_
      exact a_vret hc hr hk d_E_markTaken_94 (e_v (rfl))
  · skip
    have hx12 := hw.1.ex h12
    refine a_aload_n (pc' := 16) hc d_E_markTaken_15 rfl rfl rfl ?_
    refine c_getE (pc' := 19) hc hK hx 3 (v := .ref pa) (by decide) (by show some (va_rf (κ 0)) = _; rw [hP.1]; rfl) fl_E_47 d_E_markTaken_16 rfl ?_
    refine c_getH (pc' := 22) hc hK in_C rfl hh hP.2.1 2 (v := .ref q) (by decide) rfl fl_E_75 d_E_markTaken_19 rfl ?_
    refine a_iload_n (pc' := 23) hc d_E_markTaken_22 rfl rfl rfl ?_
    refine c_callr (pc' := 26) hc hK hO hA (q) [.int (nI i10)] [] (ct_L_volumeAt hx hh (τ := τ) (κ := κ) (tk := tkF (fun x => mV τ 15 x i10) E) (h := h) (a := q) (va := va) (mv := mv) (g := g) (v := nI i10) hP.2.2.1 hP.2.2.2.1) ml_E_98 hd_L_volumeAt ⟨by decide, by decide⟩ rfl rfl (Nat.le_of_ble_eq_true rfl) (cw_h hh hP.2.2.1) rfl rfl d_E_markTaken_23 rfl ?_
    refine a_astore_nq (pc' := 27) hc d_E_markTaken_26 rfl rfl (by decide) ?_
    refine a_iconst (pc' := 28) (v := nI 0) hc d_E_markTaken_27 rfl (by decide) ?_
    refine a_istore_n (pc' := 29) hc d_E_markTaken_28 rfl rfl (by decide) ?_
    refine AW.to (f' := cw bx rl ca n E τ κ (tkF (fun x => orA (mV τ 15 x i10) 0 (fun k => decide (x = gN τ 15 (15 * i10 + 3 + k)))) E) h) (rfl) rfl rfl ?_
    refine AW.loop (exN τ 15 i10) 0 (fun e29 => cw bx rl ca n E τ κ (tkF (fun x => orA (mV τ 15 x i10) e29 (fun k => decide (x = gN τ 15 (15 * i10 + 3 + k)))) E) h) (fun e29 => [some (.ref (bx 0)), some (.int (nI i10)), some (va_rf (vaQ g (nI i10))), some (.int (nI e29))]) (Nat.zero_le _) rfl rfl (fun e29 hle29 ih29 => ?_)
    try dsimp only at ih29 ⊢
    refine a_aload_nq (pc' := 30) hc d_E_markTaken_29 rfl rfl rfl ?_
    refine a_ifnull (pc' := 33) (tgt := 58) hc d_E_markTaken_30 rfl rfl (fun h30 => ?_) (fun a30 h30 => ?_)
    · skip
      try rw [h30]
      have z30 := vl_none hP.2.2.2.2.1 h12 h30
      have e30 : e29 = 0 := by omega
      subst e29
      refine a_ninc (pc' := 61) hc d_E_markTaken_58 rfl rfl (by decide) ?_
      refine a_goto (tgt := 10) hc d_E_markTaken_61 rfl ?_
      refine AW.mask [true, true, false, false] ?_
      refine AW.to (f' := cw bx rl ca n E τ κ (tkF (fun x => mV τ 15 x (i10 + 1)) E) h) (by first | exact congrArg (fun t => cw bx rl ca n E τ κ t h) (congrArg (fun u => tkF u E) (funext fun x => by show orA _ (exN τ 15 i10) _ = _; rw [z30])) | rfl) rfl rfl ?_
      exact AW.to rfl rfl rfl (ih10 (by omega))
    · skip
      try rw [h30]
      obtain ⟨pl, P, pj, hU, hpl, hPk⟩ := vl_some hP.2.2.2.2.1 h12 h30
      refine a_iload_n (pc' := 34) hc d_E_markTaken_33 rfl rfl rfl ?_
      refine a_aload_n (pc' := 35) hc d_E_markTaken_34 rfl rfl rfl ?_
      refine c_getH (pc' := 38) hc hK in_U rfl hh hU 3 (v := .ref pl) (by decide) rfl fl_E_125 d_E_markTaken_35 rfl ?_
      refine c_alenH (pc' := 39) hc hK hx hh hpl d_E_markTaken_38 rfl ?_
      refine a_ncmp_ge (pc' := 42) (tgt := 58) hc d_E_markTaken_39 rfl rfl (by omega) (by omega) (fun h39 => ?_) (fun h39 => ?_)
      · skip
        have hex39 : e29 = exN τ 15 i10 := by omega
        subst e29
        refine a_ninc (pc' := 61) hc d_E_markTaken_58 rfl rfl (by decide) ?_
        refine a_goto (tgt := 10) hc d_E_markTaken_61 rfl ?_
        refine AW.mask [true, true, false, false] ?_
        refine AW.to (f' := cw bx rl ca n E τ κ (tkF (fun x => mV τ 15 x (i10 + 1)) E) h) (by first | exact congrArg (fun t => cw bx rl ca n E τ κ t h) (congrArg (fun u => tkF u E) (funext fun x => by show orA _ (exN τ 15 i10) _ = _; rw [z30])) | rfl) rfl rfl ?_
        exact AW.to rfl rfl rfl (ih10 (by omega))
      · skip
        refine a_aload_n (pc' := 43) hc d_E_markTaken_42 rfl rfl rfl ?_
        refine a_aload_n (pc' := 44) hc d_E_markTaken_43 rfl rfl rfl ?_
        refine c_getH (pc' := 47) hc hK in_U rfl hh hU 3 (v := .ref pl) (by decide) rfl fl_E_125 d_E_markTaken_44 rfl ?_
        refine a_iload_n (pc' := 48) hc d_E_markTaken_47 rfl rfl rfl ?_
        refine c_ialdH (pc' := 49) hc hK hx hh hpl e29 (by omega) d_E_markTaken_48 rfl ?_
        refine AW.topi (y := nI (gN τ 15 (15 * i10 + 3 + e29))) (hPk e29 (by omega)) ?_
        have hq48 := hw.2.2.1 i10 h12 e29 (by omega)
        have hl48 := gN_lt τ 15 (15 * i10 + 3 + e29)
        refine c_callv (pc' := 52) hc hK hO hA (bx 0) [.int (nI (gN τ 15 (15 * i10 + 3 + e29)))] [] (ct_E_take hx hh (τ := τ) (κ := κ) (h := h) (q := gN τ 15 (15 * i10 + 3 + e29)) (u := (fun x => orA (mV τ 15 x i10) e29 (fun k => decide (x = gN τ 15 (15 * i10 + 3 + k))))) (by omega) (by omega) (by omega)) ml_E_244 hd_E_take ⟨by decide, by decide⟩ rfl rfl (Nat.le_of_ble_eq_true rfl) (cw_at hx.1 (by omega)) rfl rfl d_E_markTaken_49 rfl ?_
        refine a_ninc (pc' := 55) hc d_E_markTaken_52 rfl rfl (by decide) ?_
        refine a_goto (tgt := 29) hc d_E_markTaken_55 rfl ?_
        refine AW.lvq 2 (x := some a30) (y := vaQ g (nI i10)) rfl (by first | rfl | (simp only [h12, h30, h39]; done) | (simp [h12, h30, h39]; done)) ?_
        refine AW.to (f' := cw bx rl ca n E τ κ (tkF (fun x => orA (mV τ 15 x i10) (e29 + 1) (fun k => decide (x = gN τ 15 (15 * i10 + 3 + k)))) E) h) (rfl) rfl rfl ?_
        exact AW.to rfl rfl rfl (ih29 (by omega))
theorem ct_E_pull (hx : CX bx rl ca tys n E) (hh : HD bx n h) {d : Int32} : CC l y_E_pull c_E_pull 2 (some .boolean) 1 D tys A (cw bx rl ca n E τ κ tk h) [.ref (bx 0), .int d] (some (.int (bI ((puP τ n d).1)))) (cw bx rl ca n E ((puP τ n d).2) κ tk h) := by
  obtain ⟨hn2, hn5⟩ := hx.2.2.1
  obtain ⟨hE2, hE10⟩ := hx.2.2.2
  refine CC.of (own := R_E) rfl (by decide) (Nat.le_of_ble_eq_true rfl) (cat_all rfl) ?_
  intro pp ee ss mm aa bb me cd hc hK hO hr hk hA
  refine AW.to (lv' := [some (.ref (bx 0)), some (.int d)]) rfl rfl rfl ?_
  refine a_aload_n (pc' := 1) hc d_E_pull_0 rfl rfl rfl ?_
  refine a_iload_n (pc' := 2) hc d_E_pull_1 rfl rfl rfl ?_
  refine c_calli (pc' := 5) hc hK hO hA (bx 0) [.int d] [] (ct_E_isDisk hx hh (τ := τ) (κ := κ) (tk := tk) (h := h) (d := d)) ml_E_118 hd_E_isDisk ⟨by decide, by decide⟩ rfl rfl (Nat.le_of_ble_eq_true rfl) (cw_at hx.1 (by omega)) rfl rfl d_E_pull_2 rfl ?_
  refine a_ifb_eq (pc' := 8) (tgt := 20) hc d_E_pull_5 rfl rfl (fun h5 => ?_) (fun h5 => ?_)
  · skip
    refine a_iconst (pc' := 21) (v := nI 0) hc d_E_pull_20 rfl (by decide) ?_
    exact a_zret hc hr hk (Or.inl rfl) d_E_pull_21 (e_i (by first | rfl | (simp only [puP, bI, h5]; done) | (simp [puP, bI, h5]; done)) (by first | rfl | (simp only [puP, bI, h5]; done) | (simp [puP, bI, h5]; done)))
  · skip
    obtain ⟨j, hj, ej, cj⟩ := dkB_t (by omega) h5
    subst ej
    refine a_aload_n (pc' := 9) hc d_E_pull_8 rfl rfl rfl ?_
    refine c_getE (pc' := 12) hc hK hx 1 (v := .ref (bx 1)) (by decide) (rfl) fl_E_36 d_E_pull_9 rfl ?_
    refine a_iload_n (pc' := 13) hc d_E_pull_12 rfl rfl rfl ?_
    refine c_ald (pc' := 14) hc hK hx j (by omega) d_E_pull_13 rfl ?_
    refine c_getD (pc' := 17) hc hK hx j 4 (v := .int (bI (tb (τ 1 j)))) (by omega) (by decide) rfl fl_E_132 d_E_pull_14 rfl ?_
    refine a_ifb_ne (pc' := 20) (tgt := 22) hc d_E_pull_17 rfl rfl (fun h17 => ?_) (fun h17 => ?_)
    · skip
      refine a_aload_n (pc' := 23) hc d_E_pull_22 rfl rfl rfl ?_
      refine c_getE (pc' := 26) hc hK hx 1 (v := .ref (bx 1)) (by decide) (rfl) fl_E_36 d_E_pull_23 rfl ?_
      refine a_iload_n (pc' := 27) hc d_E_pull_26 rfl rfl rfl ?_
      refine c_ald (pc' := 28) hc hK hx j (by omega) d_E_pull_27 rfl ?_
      refine a_iconst (pc' := 29) (v := nI 0) hc d_E_pull_28 rfl (by decide) ?_
      refine c_putD (pc' := 32) hc hK hx (τ' := ts τ 1 j (nI 0)) j 4 (by omega) (by decide) (putD1 (Or.inl rfl)) (putD1o) (⟨rfl, rfl, rfl⟩) rfl (by decide) (by decide) fl_E_132 d_E_pull_29 rfl ?_
      refine a_iconst (pc' := 33) (v := nI 1) hc d_E_pull_32 rfl (by decide) ?_
      exact a_zret hc hr hk (Or.inr rfl) d_E_pull_33 (e_i (by first | rfl | (simp only [puP, bI, h5, cj, h17]; done) | (simp [puP, bI, h5, cj, h17]; done)) (by first | rfl | (simp only [puP, bI, h5, cj, h17]; done) | (simp [puP, bI, h5, cj, h17]; done)))
    · skip
      refine a_iconst (pc' := 21) (v := nI 0) hc d_E_pull_20 rfl (by decide) ?_
      exact a_zret hc hr hk (Or.inl rfl) d_E_pull_21 (e_i (by first | rfl | (simp only [puP, bI, h5, cj, h17]; done) | (simp [puP, bI, h5, cj, h17]; done)) (by first | rfl | (simp only [puP, bI, h5, cj, h17]; done) | (simp [puP, bI, h5, cj, h17]; done)))
theorem ct_E_plug (hx : CX bx rl ca tys n E) (hh : HD bx n h) {d : Int32} : CC l y_E_plug c_E_plug 2 (some .boolean) 1 D tys A (cw bx rl ca n E τ κ tk h) [.ref (bx 0), .int d] (some (.int (bI ((plP τ n d).1)))) (cw bx rl ca n E ((plP τ n d).2) κ tk h) := by
  obtain ⟨hn2, hn5⟩ := hx.2.2.1
  obtain ⟨hE2, hE10⟩ := hx.2.2.2
  refine CC.of (own := R_E) rfl (by decide) (Nat.le_of_ble_eq_true rfl) (cat_all rfl) ?_
  intro pp ee ss mm aa bb me cd hc hK hO hr hk hA
  refine AW.to (lv' := [some (.ref (bx 0)), some (.int d)]) rfl rfl rfl ?_
  refine a_aload_n (pc' := 1) hc d_E_plug_0 rfl rfl rfl ?_
  refine a_iload_n (pc' := 2) hc d_E_plug_1 rfl rfl rfl ?_
  refine c_calli (pc' := 5) hc hK hO hA (bx 0) [.int d] [] (ct_E_isDisk hx hh (τ := τ) (κ := κ) (tk := tk) (h := h) (d := d)) ml_E_118 hd_E_isDisk ⟨by decide, by decide⟩ rfl rfl (Nat.le_of_ble_eq_true rfl) (cw_at hx.1 (by omega)) rfl rfl d_E_plug_2 rfl ?_
  refine a_ifb_eq (pc' := 8) (tgt := 20) hc d_E_plug_5 rfl rfl (fun h5 => ?_) (fun h5 => ?_)
  · skip
    refine a_iconst (pc' := 21) (v := nI 0) hc d_E_plug_20 rfl (by decide) ?_
    exact a_zret hc hr hk (Or.inl rfl) d_E_plug_21 (e_i (by first | rfl | (simp only [plP, bI, h5]; done) | (simp [plP, bI, h5]; done)) (by first | rfl | (simp only [plP, bI, h5]; done) | (simp [plP, bI, h5]; done)))
  · skip
    obtain ⟨j, hj, ej, cj⟩ := dkB_t (by omega) h5
    subst ej
    refine a_aload_n (pc' := 9) hc d_E_plug_8 rfl rfl rfl ?_
    refine c_getE (pc' := 12) hc hK hx 1 (v := .ref (bx 1)) (by decide) (rfl) fl_E_36 d_E_plug_9 rfl ?_
    refine a_iload_n (pc' := 13) hc d_E_plug_12 rfl rfl rfl ?_
    refine c_ald (pc' := 14) hc hK hx j (by omega) d_E_plug_13 rfl ?_
    refine c_getD (pc' := 17) hc hK hx j 4 (v := .int (bI (tb (τ 1 j)))) (by omega) (by decide) rfl fl_E_132 d_E_plug_14 rfl ?_
    refine a_ifb_eq (pc' := 20) (tgt := 22) hc d_E_plug_17 rfl rfl (fun h17 => ?_) (fun h17 => ?_)
    · skip
      refine a_aload_n (pc' := 23) hc d_E_plug_22 rfl rfl rfl ?_
      refine c_getE (pc' := 26) hc hK hx 1 (v := .ref (bx 1)) (by decide) (rfl) fl_E_36 d_E_plug_23 rfl ?_
      refine a_iload_n (pc' := 27) hc d_E_plug_26 rfl rfl rfl ?_
      refine c_ald (pc' := 28) hc hK hx j (by omega) d_E_plug_27 rfl ?_
      refine a_iconst (pc' := 29) (v := nI 1) hc d_E_plug_28 rfl (by decide) ?_
      refine c_putD (pc' := 32) hc hK hx (τ' := ts τ 1 j (nI 1)) j 4 (by omega) (by decide) (putD1 (Or.inr rfl)) (putD1o) (⟨rfl, rfl, rfl⟩) rfl (by decide) (by decide) fl_E_132 d_E_plug_29 rfl ?_
      refine a_iconst (pc' := 33) (v := nI 1) hc d_E_plug_32 rfl (by decide) ?_
      exact a_zret hc hr hk (Or.inr rfl) d_E_plug_33 (e_i (by first | rfl | (simp only [plP, bI, h5, cj, h17]; done) | (simp [plP, bI, h5, cj, h17]; done)) (by first | rfl | (simp only [plP, bI, h5, cj, h17]; done) | (simp [plP, bI, h5, cj, h17]; done)))
    · skip
      refine a_iconst (pc' := 21) (v := nI 0) hc d_E_plug_20 rfl (by decide) ?_
      exact a_zret hc hr hk (Or.inl rfl) d_E_plug_21 (e_i (by first | rfl | (simp only [plP, bI, h5, cj, h17]; done) | (simp [plP, bI, h5, cj, h17]; done)) (by first | rfl | (simp only [plP, bI, h5, cj, h17]; done) | (simp [plP, bI, h5, cj, h17]; done)))
theorem ct_E_crash (hx : CX bx rl ca tys n E) (hh : HD bx n h)  : CC l y_E_crash c_E_crash 1 (some .boolean) 1 D tys A (cw bx rl ca n E τ κ tk h) [.ref (bx 0)] (some (.int (bI ((crP τ).1)))) (cw bx rl ca n E ((crP τ).2) κ tk h) := by
  obtain ⟨hn2, hn5⟩ := hx.2.2.1
  obtain ⟨hE2, hE10⟩ := hx.2.2.2
  refine CC.of (own := R_E) rfl (by decide) (Nat.le_of_ble_eq_true rfl) (cat_all rfl) ?_
  intro pp ee ss mm aa bb me cd hc hK hO hr hk hA
  refine AW.to (lv' := [some (.ref (bx 0))]) rfl rfl rfl ?_
  refine a_aload_n (pc' := 1) hc d_E_crash_0 rfl rfl rfl ?_
  refine c_getE (pc' := 4) hc hK hx 6 (v := .int (bI (tb (τ 0 5)))) (by decide) (rfl) fl_E_60 d_E_crash_1 rfl ?_
  refine a_ifb_ne (pc' := 7) (tgt := 9) hc d_E_crash_4 rfl rfl (fun h4 => ?_) (fun h4 => ?_)
  · skip
    refine a_aload_n (pc' := 10) hc d_E_crash_9 rfl rfl rfl ?_
    refine c_callv (pc' := 13) hc hK hO hA (bx 0) [] [] (ct_E_goDown hx hh (τ := τ) (κ := κ) (tk := tk) (h := h)) ml_E_181 hd_E_goDown ⟨by decide, by decide⟩ rfl rfl (Nat.le_of_ble_eq_true rfl) (cw_at hx.1 (by omega)) rfl rfl d_E_crash_10 rfl ?_
    refine a_iconst (pc' := 14) (v := nI 1) hc d_E_crash_13 rfl (by decide) ?_
    exact a_zret hc hr hk (Or.inr rfl) d_E_crash_14 (e_i (by first | rfl | (simp only [crP, goT, bI, h4]; done) | (simp [crP, goT, bI, h4]; done)) (by first | rfl | (simp only [crP, goT, bI, h4]; done) | (simp [crP, goT, bI, h4]; done)))
  · skip
    refine a_iconst (pc' := 8) (v := nI 0) hc d_E_crash_7 rfl (by decide) ?_
    exact a_zret hc hr hk (Or.inl rfl) d_E_crash_8 (e_i (by first | rfl | (simp only [crP, goT, bI, h4]; done) | (simp [crP, goT, bI, h4]; done)) (by first | rfl | (simp only [crP, goT, bI, h4]; done) | (simp [crP, goT, bI, h4]; done)))
theorem ct_E_sequence (hx : CX bx rl ca tys n E) (hh : HD bx n h) {pa q va : Nat} {mv : Option Nat} {g : Nat → Option Nat} (hP : PrOk h ca τ κ pa q va mv g) : CC l y_E_sequence c_E_sequence 1 (some .int) 0 D tys A (cw bx rl ca n E τ κ tk h) [.ref (bx 0)] (some (.int (sqI τ))) (cw bx rl ca n E τ κ tk h) := by
  obtain ⟨hn2, hn5⟩ := hx.2.2.1
  obtain ⟨hE2, hE10⟩ := hx.2.2.2
  refine CC.of (own := R_E) rfl (by decide) (Nat.le_of_ble_eq_true rfl) (cat_all rfl) ?_
  intro pp ee ss mm aa bb me cd hc hK hO hr hk hA
  refine AW.to (lv' := [some (.ref (bx 0))]) rfl rfl rfl ?_
  refine a_aload_n (pc' := 1) hc d_E_sequence_0 rfl rfl rfl ?_
  refine c_getE (pc' := 4) hc hK hx 6 (v := .int (bI (tb (τ 0 5)))) (by decide) (rfl) fl_E_60 d_E_sequence_1 rfl ?_
  refine a_ifb_eq (pc' := 7) (tgt := 17) hc d_E_sequence_4 rfl rfl (fun h4 => ?_) (fun h4 => ?_)
  · skip
    refine a_bipush (pc' := 19) (v := -2) hc d_E_sequence_17 rfl (by decide) ?_
    exact a_iret hc hr hk d_E_sequence_19 (e_i (by first | rfl | (simp only [sqI, h4]; done) | (simp [sqI, h4]; done)) (rfl))
  · skip
    refine a_aload_n (pc' := 8) hc d_E_sequence_7 rfl rfl rfl ?_
    refine c_getE (pc' := 11) hc hK hx 3 (v := .ref pa) (by decide) (by show some (va_rf (κ 0)) = _; rw [hP.1]; rfl) fl_E_47 d_E_sequence_8 rfl ?_
    refine c_getH (pc' := 14) hc hK in_C rfl hh hP.2.1 0 (v := .int (τ 0 2)) (by decide) rfl fl_E_192 d_E_sequence_11 rfl ?_
    refine a_goto (tgt := 19) hc d_E_sequence_14 rfl ?_
    exact a_iret hc hr hk d_E_sequence_19 (e_i (by first | rfl | (simp only [sqI, h4]; done) | (simp [sqI, h4]; done)) (rfl))
theorem ct_E_slot (hx : CX bx rl ca tys n E) (hh : HD bx n h) {d k : Int32} (hS : ∀ d, d < n → ∀ i, i < 3 → SlOk τ κ h d i) (h0 : ∀ s, s < 15 → τ 4 s = -11 ∨ 0 ≤ τ 4 s) : CC l y_E_slot c_E_slot 4 (some .int) 1 D tys A (cw bx rl ca n E τ κ tk h) [.ref (bx 0), .int d, .int k] (some (.int (soI τ n d k))) (cw bx rl ca n E τ κ tk h) := by
  obtain ⟨hn2, hn5⟩ := hx.2.2.1
  obtain ⟨hE2, hE10⟩ := hx.2.2.2
  refine CC.of (own := R_E) rfl (by decide) (Nat.le_of_ble_eq_true rfl) (cat_all rfl) ?_
  intro pp ee ss mm aa bb me cd hc hK hO hr hk hA
  refine AW.to (lv' := [some (.ref (bx 0)), some (.int d), some (.int k), none]) rfl rfl rfl ?_
  refine a_aload_n (pc' := 1) hc d_E_slot_0 rfl rfl rfl ?_
  refine a_iload_n (pc' := 2) hc d_E_slot_1 rfl rfl rfl ?_
  refine c_calli (pc' := 5) hc hK hO hA (bx 0) [.int d] [] (ct_E_isDisk hx hh (τ := τ) (κ := κ) (tk := tk) (h := h) (d := d)) ml_E_118 hd_E_isDisk ⟨by decide, by decide⟩ rfl rfl (Nat.le_of_ble_eq_true rfl) (cw_at hx.1 (by omega)) rfl rfl d_E_slot_2 rfl ?_
  refine a_ifb_eq (pc' := 8) (tgt := 17) hc d_E_slot_5 rfl rfl (fun h5 => ?_) (fun h5 => ?_)
  · skip
    refine a_iconst (pc' := 18) (v := -1) hc d_E_slot_17 rfl (by decide) ?_
    exact a_iret hc hr hk d_E_slot_18 (e_i (by first | rfl | (simp only [soI, h5]; done) | (simp [soI, h5]; done)) (rfl))
  · skip
    obtain ⟨j, hj, ej, cj⟩ := dkB_t (by omega) h5
    subst ej
    refine a_iload_n (pc' := 9) hc d_E_slot_8 rfl rfl rfl ?_
    refine a_if_lt (pc' := 12) (tgt := 17) hc d_E_slot_9 rfl rfl (fun h9 => ?_) (fun h9 => ?_)
    · skip
      refine a_iconst (pc' := 18) (v := -1) hc d_E_slot_17 rfl (by decide) ?_
      exact a_iret hc hr hk d_E_slot_18 (e_i (by first | rfl | (simp only [soI, h5, cj, h9]; done) | (simp [soI, h5, cj, h9]; done)) (rfl))
    · skip
      refine a_iload_n (pc' := 13) hc d_E_slot_12 rfl rfl rfl ?_
      refine a_iconst (pc' := 14) (v := nI 3) hc d_E_slot_13 rfl (by decide) ?_
      refine a_icmp_lt (pc' := 17) (tgt := 19) hc d_E_slot_14 rfl rfl (fun h14 => ?_) (fun h14 => ?_)
      · skip
        have n14 := Int32.not_le.mpr h14
        obtain ⟨i, hi, ei, ci⟩ := ix_of (N := 3) (by decide) h9 n14
        subst ei
        refine a_aload_n (pc' := 20) hc d_E_slot_19 rfl rfl rfl ?_
        refine c_getE (pc' := 23) hc hK hx 1 (v := .ref (bx 1)) (by decide) (rfl) fl_E_36 d_E_slot_20 rfl ?_
        refine a_iload_n (pc' := 24) hc d_E_slot_23 rfl rfl rfl ?_
        refine c_ald (pc' := 25) hc hK hx j (by omega) d_E_slot_24 rfl ?_
        refine c_getD (pc' := 28) hc hK hx j 2 (v := .ref (bx (6 + 4 * j))) (by omega) (by decide) rfl fl_E_204 d_E_slot_25 rfl ?_
        refine a_iload_n (pc' := 29) hc d_E_slot_28 rfl rfl rfl ?_
        refine c_tald (pc' := 30) hc hK hx j i (by omega) (by omega) d_E_slot_29 rfl ?_
        refine a_ifb_eq (pc' := 33) (tgt := 36) hc d_E_slot_30 rfl rfl (fun h30 => ?_) (fun h30 => ?_)
        · skip
          refine a_aload_n (pc' := 37) hc d_E_slot_36 rfl rfl rfl ?_
          refine c_getE (pc' := 40) hc hK hx 1 (v := .ref (bx 1)) (by decide) (rfl) fl_E_36 d_E_slot_37 rfl ?_
          refine a_iload_n (pc' := 41) hc d_E_slot_40 rfl rfl rfl ?_
          refine c_ald (pc' := 42) hc hK hx j (by omega) d_E_slot_41 rfl ?_
          refine c_getD (pc' := 45) hc hK hx j 1 (v := .ref (bx (5 + 4 * j))) (by omega) (by decide) rfl fl_E_208 d_E_slot_42 rfl ?_
          refine a_iload_n (pc' := 46) hc d_E_slot_45 rfl rfl rfl ?_
          refine c_kald (pc' := 47) hc hK hx j i (by omega) (by omega) d_E_slot_46 rfl ?_
          refine a_astore_nq (pc' := 48) hc d_E_slot_47 rfl rfl (by decide) ?_
          refine a_aload_nq (pc' := 49) hc d_E_slot_48 rfl rfl rfl ?_
          refine a_ifnonnull (pc' := 52) (tgt := 56) hc d_E_slot_49 rfl rfl (fun a49 h49 => ?_) (fun h49 => ?_)
          · skip
            try rw [h49]
            obtain ⟨l49, hp49, hC49⟩ := (hS j hj i hi).some h49
            refine a_aload_n (pc' := 57) hc d_E_slot_56 rfl rfl rfl ?_
            refine c_getH (pc' := 60) hc hK in_C rfl hh hC49 0 (v := .int (τ 4 (3 * j + i))) (by decide) rfl fl_E_192 d_E_slot_57 rfl ?_
            exact a_iret hc hr hk d_E_slot_60 (e_i (by first | (simp [soI, h5, h9, n14, cj, ci, z49]; done) | (simp [soI, h5, h9, n14, cj, ci]; done)) (rfl))
          · skip
            try rw [h49]
            have z49 := so_none (hS j hj i hi) (h0 _ (by omega)) h30 h49
            refine a_iconst (pc' := 53) (v := nI 0) hc d_E_slot_52 rfl (by decide) ?_
            refine a_goto (tgt := 60) hc d_E_slot_53 rfl ?_
            exact a_iret hc hr hk d_E_slot_60 (e_i (by first | (simp [soI, h5, h9, n14, cj, ci, z49]; done) | (simp [soI, h5, h9, n14, cj, ci]; done)) (rfl))
        · skip
          refine a_bipush (pc' := 35) (v := -11) hc d_E_slot_33 rfl (by decide) ?_
          exact a_iret hc hr hk d_E_slot_35 (e_i (by simp [soI, h5, h9, n14, cj, ci, of_decide_eq_true h30]) (rfl))
      · skip
        have n14 := Int32.not_lt.mp h14
        refine a_iconst (pc' := 18) (v := -1) hc d_E_slot_17 rfl (by decide) ?_
        exact a_iret hc hr hk d_E_slot_18 (e_i (by first | rfl | (simp only [soI, h5, cj, h9, h14, n14]; done) | (simp [soI, h5, cj, h9, h14, n14]; done)) (rfl))
theorem ct_E_rows (hx : CX bx rl ca tys n E) (hh : HD bx n h) {pa q va : Nat} {mv : Option Nat} {g : Nat → Option Nat} (hP : PrOk h ca τ κ pa q va mv g) (hw : WFx n E τ 15) {v : Int32} : CC l y_E_rows c_E_rows 3 (some .int) 1 D tys A (cw bx rl ca n E τ κ tk h) [.ref (bx 0), .int v] (some (.int (roI τ v))) (cw bx rl ca n E τ κ tk h) := by
  obtain ⟨hn2, hn5⟩ := hx.2.2.1
  obtain ⟨hE2, hE10⟩ := hx.2.2.2
  refine CC.of (own := R_E) rfl (by decide) (Nat.le_of_ble_eq_true rfl) (cat_all rfl) ?_
  intro pp ee ss mm aa bb me cd hc hK hO hr hk hA
  refine AW.to (lv' := [some (.ref (bx 0)), some (.int v), none]) rfl rfl rfl ?_
  refine a_aload_n (pc' := 1) hc d_E_rows_0 rfl rfl rfl ?_
  refine c_getE (pc' := 4) hc hK hx 6 (v := .int (bI (tb (τ 0 5)))) (by decide) (rfl) fl_E_60 d_E_rows_1 rfl ?_
  refine a_ifb_ne (pc' := 7) (tgt := 10) hc d_E_rows_4 rfl rfl (fun h4 => ?_) (fun h4 => ?_)
  · skip
    refine a_aload_n (pc' := 11) hc d_E_rows_10 rfl rfl rfl ?_
    refine c_getE (pc' := 14) hc hK hx 3 (v := .ref pa) (by decide) (by show some (va_rf (κ 0)) = _; rw [hP.1]; rfl) fl_E_47 d_E_rows_11 rfl ?_
    refine c_getH (pc' := 17) hc hK in_C rfl hh hP.2.1 2 (v := .ref q) (by decide) rfl fl_E_75 d_E_rows_14 rfl ?_
    refine a_iload_n (pc' := 18) hc d_E_rows_17 rfl rfl rfl ?_
    refine c_callr (pc' := 21) hc hK hO hA (q) [.int v] [] (ct_L_volumeAt hx hh (τ := τ) (κ := κ) (tk := tk) (h := h) (a := q) (va := va) (mv := mv) (g := g) (v := v) hP.2.2.1 hP.2.2.2.1) ml_E_98 hd_L_volumeAt ⟨by decide, by decide⟩ rfl rfl (Nat.le_of_ble_eq_true rfl) (cw_h hh hP.2.2.1) rfl rfl d_E_rows_18 rfl ?_
    refine a_astore_nq (pc' := 22) hc d_E_rows_21 rfl rfl (by decide) ?_
    refine a_aload_nq (pc' := 23) hc d_E_rows_22 rfl rfl rfl ?_
    refine a_ifnonnull (pc' := 26) (tgt := 30) hc d_E_rows_23 rfl rfl (fun a23 h23 => ?_) (fun h23 => ?_)
    · skip
      try rw [h23]
      obtain ⟨j, pl, P, hj, ej, cj, b23, pj, hU, hpl, hPk⟩ := va_some hP.2.2.2.2.1 h23
      subst ej
      have hx16 := hw.1.ex hj
      refine a_aload_n (pc' := 31) hc d_E_rows_30 rfl rfl rfl ?_
      refine c_getH (pc' := 34) hc hK in_U rfl hh hU 2 (v := .int (nI (gN τ 15 (15 * j + 2)))) (by decide) rfl fl_E_105 d_E_rows_31 rfl ?_
      exact a_iret hc hr hk d_E_rows_34 (e_i (by first | (simp [roI, h4, h23, b23, cj]; done) | (rw [← hw.1.n (by omega) (by omega)]; simp [roI, h4, h23, b23, cj]; done)) (rfl))
    · skip
      try rw [h23]
      have b23 := va_none hP.2.2.2.2.1 h23
      refine a_iconst (pc' := 27) (v := -1) hc d_E_rows_26 rfl (by decide) ?_
      refine a_goto (tgt := 34) hc d_E_rows_27 rfl ?_
      exact a_iret hc hr hk d_E_rows_34 (e_i (by first | (simp [roI, h4, h23, b23]; done) | (rw [← hw.1.n (by omega) (by omega)]; simp [roI, h4, h23, b23]; done)) (rfl))
  · skip
    refine a_bipush (pc' := 9) (v := -2) hc d_E_rows_7 rfl (by decide) ?_
    exact a_iret hc hr hk d_E_rows_9 (e_i (by first | rfl | (simp only [roI, h4]; done) | (simp [roI, h4]; done)) (rfl))
theorem ct_E_where (hx : CX bx rl ca tys n E) (hh : HD bx n h) {pa q va : Nat} {mv : Option Nat} {g : Nat → Option Nat} (hP : PrOk h ca τ κ pa q va mv g) (hw : WFx n E τ 15) {v k : Int32} : CC l y_E_where c_E_where 4 (some .int) 1 D tys A (cw bx rl ca n E τ κ tk h) [.ref (bx 0), .int v, .int k] (some (.int (whI τ v k))) (cw bx rl ca n E τ κ tk h) := by
  obtain ⟨hn2, hn5⟩ := hx.2.2.1
  obtain ⟨hE2, hE10⟩ := hx.2.2.2
  refine CC.of (own := R_E) rfl (by decide) (Nat.le_of_ble_eq_true rfl) (cat_all rfl) ?_
  intro pp ee ss mm aa bb me cd hc hK hO hr hk hA
  refine AW.to (lv' := [some (.ref (bx 0)), some (.int v), some (.int k), none]) rfl rfl rfl ?_
  refine a_aload_n (pc' := 1) hc d_E_where_0 rfl rfl rfl ?_
  refine c_getE (pc' := 4) hc hK hx 6 (v := .int (bI (tb (τ 0 5)))) (by decide) (rfl) fl_E_60 d_E_where_1 rfl ?_
  refine a_ifb_ne (pc' := 7) (tgt := 10) hc d_E_where_4 rfl rfl (fun h4 => ?_) (fun h4 => ?_)
  · skip
    refine a_aload_n (pc' := 11) hc d_E_where_10 rfl rfl rfl ?_
    refine c_getE (pc' := 14) hc hK hx 3 (v := .ref pa) (by decide) (by show some (va_rf (κ 0)) = _; rw [hP.1]; rfl) fl_E_47 d_E_where_11 rfl ?_
    refine c_getH (pc' := 17) hc hK in_C rfl hh hP.2.1 2 (v := .ref q) (by decide) rfl fl_E_75 d_E_where_14 rfl ?_
    refine a_iload_n (pc' := 18) hc d_E_where_17 rfl rfl rfl ?_
    refine c_callr (pc' := 21) hc hK hO hA (q) [.int v] [] (ct_L_volumeAt hx hh (τ := τ) (κ := κ) (tk := tk) (h := h) (a := q) (va := va) (mv := mv) (g := g) (v := v) hP.2.2.1 hP.2.2.2.1) ml_E_98 hd_L_volumeAt ⟨by decide, by decide⟩ rfl rfl (Nat.le_of_ble_eq_true rfl) (cw_h hh hP.2.2.1) rfl rfl d_E_where_18 rfl ?_
    refine a_astore_nq (pc' := 22) hc d_E_where_21 rfl rfl (by decide) ?_
    refine a_aload_nq (pc' := 23) hc d_E_where_22 rfl rfl rfl ?_
    refine a_ifnull (pc' := 26) (tgt := 34) hc d_E_where_23 rfl rfl (fun h23 => ?_) (fun a23 h23 => ?_)
    · skip
      try rw [h23]
      have b23 := va_none hP.2.2.2.2.1 h23
      refine a_iconst (pc' := 35) (v := -1) hc d_E_where_34 rfl (by decide) ?_
      refine a_goto (tgt := 44) hc d_E_where_35 rfl ?_
      exact a_iret hc hr hk d_E_where_44 (e_i (by first | (simp [whI, exB, h4, h23, b23]; done) | (rw [hPk i hi, ← hw.1.n (by omega) (by omega)]; simp at h31; simp [whI, exB, h4, h23, b23]; done)) (rfl))
    · skip
      try rw [h23]
      obtain ⟨j, pl, P, hj, ej, cj, b23, pj, hU, hpl, hPk⟩ := va_some hP.2.2.2.2.1 h23
      subst ej
      have hx16 := hw.1.ex hj
      refine a_aload_n (pc' := 27) hc d_E_where_26 rfl rfl rfl ?_
      refine a_iload_n (pc' := 28) hc d_E_where_27 rfl rfl rfl ?_
      refine c_calli (pc' := 31) hc hK hO hA (a23) [.int k] [] (ct_U_hasExtent hx hh (τ := τ) (κ := κ) (tk := tk) (h := h) (a := a23) (pl := pl) (pn := exN τ 15 j) (w := nI (gN τ 15 (15 * j))) (s := nI (gN τ 15 (15 * j + 1))) (rc := nI (gN τ 15 (15 * j + 2))) (k := k) (g := P) hU hpl) ml_E_115 hd_U_hasExtent ⟨by decide, by decide⟩ rfl rfl (Nat.le_of_ble_eq_true rfl) (cw_h hh hU) rfl rfl d_E_where_28 rfl ?_
      refine a_ifb_ne (pc' := 34) (tgt := 38) hc d_E_where_31 rfl rfl (fun h31 => ?_) (fun h31 => ?_)
      · skip
        obtain ⟨i, hi, ei, ci⟩ := hx_t (by omega) h31
        subst ei
        refine a_aload_n (pc' := 39) hc d_E_where_38 rfl rfl rfl ?_
        refine c_getH (pc' := 42) hc hK in_U rfl hh hU 3 (v := .ref pl) (by decide) rfl fl_E_125 d_E_where_39 rfl ?_
        refine a_iload_n (pc' := 43) hc d_E_where_42 rfl rfl rfl ?_
        refine c_ialdH (pc' := 44) hc hK hx hh hpl i (by omega) d_E_where_43 rfl ?_
        exact a_iret hc hr hk d_E_where_44 (e_i (by first | (simp [whI, exB, h4, h23, b23, cj, h31, ci]; done) | (rw [hPk i hi, ← hw.1.n (by omega) (by omega)]; simp at h31; simp [whI, exB, h4, h23, b23, cj, h31, ci]; done)) (rfl))
      · skip
        refine a_iconst (pc' := 35) (v := -1) hc d_E_where_34 rfl (by decide) ?_
        refine a_goto (tgt := 44) hc d_E_where_35 rfl ?_
        exact a_iret hc hr hk d_E_where_44 (e_i (by first | (simp [whI, exB, h4, h23, b23, cj, h31]; done) | (rw [hPk i hi, ← hw.1.n (by omega) (by omega)]; simp at h31; simp [whI, exB, h4, h23, b23, cj, h31]; done)) (rfl))
  · skip
    refine a_bipush (pc' := 9) (v := -2) hc d_E_where_7 rfl (by decide) ?_
    exact a_iret hc hr hk d_E_where_9 (e_i (by first | rfl | (simp only [whI, exB, h4]; done) | (simp [whI, exB, h4]; done)) (rfl))
theorem ct_E_moving (hx : CX bx rl ca tys n E) (hh : HD bx n h) {pa q va : Nat} {mv : Option Nat} {g : Nat → Option Nat} (hP : PrOk h ca τ κ pa q va mv g) (hw : WFx n E τ 15) : CC l y_E_moving c_E_moving 2 (some .int) 0 D tys A (cw bx rl ca n E τ κ tk h) [.ref (bx 0)] (some (.int (moI τ))) (cw bx rl ca n E τ κ tk h) := by
  obtain ⟨hn2, hn5⟩ := hx.2.2.1
  obtain ⟨hE2, hE10⟩ := hx.2.2.2
  refine CC.of (own := R_E) rfl (by decide) (Nat.le_of_ble_eq_true rfl) (cat_all rfl) ?_
  intro pp ee ss mm aa bb me cd hc hK hO hr hk hA
  refine AW.to (lv' := [some (.ref (bx 0)), none]) rfl rfl rfl ?_
  refine a_aload_n (pc' := 1) hc d_E_moving_0 rfl rfl rfl ?_
  refine c_getE (pc' := 4) hc hK hx 6 (v := .int (bI (tb (τ 0 5)))) (by decide) (rfl) fl_E_60 d_E_moving_1 rfl ?_
  refine a_ifb_ne (pc' := 7) (tgt := 10) hc d_E_moving_4 rfl rfl (fun h4 => ?_) (fun h4 => ?_)
  · skip
    refine a_aload_n (pc' := 11) hc d_E_moving_10 rfl rfl rfl ?_
    refine c_getE (pc' := 14) hc hK hx 3 (v := .ref pa) (by decide) (by show some (va_rf (κ 0)) = _; rw [hP.1]; rfl) fl_E_47 d_E_moving_11 rfl ?_
    refine c_getH (pc' := 17) hc hK in_C rfl hh hP.2.1 2 (v := .ref q) (by decide) rfl fl_E_75 d_E_moving_14 rfl ?_
    refine c_getH (pc' := 20) hc hK in_L rfl hh hP.2.2.1 1 (v := va_rf mv) (by decide) rfl fl_E_121 d_E_moving_17 rfl ?_
    refine a_astore_nq (pc' := 21) hc d_E_moving_20 rfl rfl (by decide) ?_
    refine a_aload_nq (pc' := 22) hc d_E_moving_21 rfl rfl rfl ?_
    refine a_ifnonnull (pc' := 25) (tgt := 30) hc d_E_moving_22 rfl rfl (fun a22 h22 => ?_) (fun h22 => ?_)
    · skip
      try rw [h22]
      obtain ⟨p60, hM22⟩ := mv_someq hP.2.2.2.2.2 h22
      have m60 : 0 ≤ gt τ 15 60 := Int32.not_lt.mp p60
      refine a_sipush (pc' := 33) (v := nI 128) hc d_E_moving_30 rfl (by decide) ?_
      refine a_aload_n (pc' := 34) hc d_E_moving_33 rfl rfl rfl ?_
      refine c_getH (pc' := 37) hc hK in_V rfl hh hM22 0 (v := .int (nI (gN τ 15 60))) (by decide) rfl fl_E_198 d_E_moving_34 rfl ?_
      refine a_nmul (pc' := 38) hc d_E_moving_37 rfl ?_
      refine a_bipush (pc' := 40) (v := nI 16) hc d_E_moving_38 rfl (by decide) ?_
      refine a_aload_n (pc' := 41) hc d_E_moving_40 rfl rfl rfl ?_
      refine c_getE (pc' := 44) hc hK hx 4 (v := .int (τ 0 6)) (by decide) (rfl) fl_E_51 d_E_moving_41 rfl ?_
      refine a_imul (pc' := 45) hc d_E_moving_44 rfl ?_
      refine a_iadd (pc' := 46) hc d_E_moving_45 rfl ?_
      refine a_aload_n (pc' := 47) hc d_E_moving_46 rfl rfl rfl ?_
      refine c_getH (pc' := 50) hc hK in_V rfl hh hM22 1 (v := .int (nI (gN τ 15 61))) (by decide) rfl fl_E_201 d_E_moving_47 rfl ?_
      refine a_iadd (pc' := 51) hc d_E_moving_50 rfl ?_
      exact a_iret hc hr hk d_E_moving_51 (e_i (by first | (simp [moI, h4, h22, m60]; done) | (rw [moI, if_pos h4, if_pos m60, nat_eq p60, hw.1.n (i := 61) (by omega) (by omega), pk_mul]; rfl)) (rfl))
    · skip
      try rw [h22]
      have m60 := Int32.not_le.mpr (mv_noneq hP.2.2.2.2.2 h22)
      refine a_bipush (pc' := 27) (v := -8) hc d_E_moving_25 rfl (by decide) ?_
      refine a_goto (tgt := 51) hc d_E_moving_27 rfl ?_
      exact a_iret hc hr hk d_E_moving_51 (e_i (by first | (simp [moI, h4, h22, m60]; done) | (rw [moI, if_pos h4, if_pos m60, nat_eq p60, hw.1.n (i := 61) (by omega) (by omega), pk_mul]; rfl)) (rfl))
  · skip
    refine a_bipush (pc' := 9) (v := -2) hc d_E_moving_7 rfl (by decide) ?_
    exact a_iret hc hr hk d_E_moving_9 (e_i (by first | rfl | (simp only [moI, h4]; done) | (simp [moI, h4]; done)) (rfl))
theorem ct_E_read (hx : CX bx rl ca tys n E) (hh : HD bx n h) {pa q va : Nat} {mv : Option Nat} {g : Nat → Option Nat} (hP : PrOk h ca τ κ pa q va mv g) (hw : WFx n E τ 15) {v b : Int32} : CC l y_E_read c_E_read 5 (some .int) 2 D tys A (cw bx rl ca n E τ κ tk h) [.ref (bx 0), .int v, .int b] (some (.int (rdI τ v b))) (cw bx rl ca n E τ κ tk h) := by
  obtain ⟨hn2, hn5⟩ := hx.2.2.1
  obtain ⟨hE2, hE10⟩ := hx.2.2.2
  refine CC.of (own := R_E) rfl (by decide) (Nat.le_of_ble_eq_true rfl) (cat_all rfl) ?_
  intro pp ee ss mm aa bb me cd hc hK hO hr hk hA
  refine AW.to (lv' := [some (.ref (bx 0)), some (.int v), some (.int b), none, none]) rfl rfl rfl ?_
  refine a_aload_n (pc' := 1) hc d_E_read_0 rfl rfl rfl ?_
  refine c_getE (pc' := 4) hc hK hx 6 (v := .int (bI (tb (τ 0 5)))) (by decide) (rfl) fl_E_60 d_E_read_1 rfl ?_
  refine a_ifb_ne (pc' := 7) (tgt := 10) hc d_E_read_4 rfl rfl (fun h4 => ?_) (fun h4 => ?_)
  · skip
    refine a_aload_n (pc' := 11) hc d_E_read_10 rfl rfl rfl ?_
    refine c_getE (pc' := 14) hc hK hx 3 (v := .ref pa) (by decide) (by show some (va_rf (κ 0)) = _; rw [hP.1]; rfl) fl_E_47 d_E_read_11 rfl ?_
    refine c_getH (pc' := 17) hc hK in_C rfl hh hP.2.1 2 (v := .ref q) (by decide) rfl fl_E_75 d_E_read_14 rfl ?_
    refine a_iload_n (pc' := 18) hc d_E_read_17 rfl rfl rfl ?_
    refine c_callr (pc' := 21) hc hK hO hA (q) [.int v] [] (ct_L_volumeAt hx hh (τ := τ) (κ := κ) (tk := tk) (h := h) (a := q) (va := va) (mv := mv) (g := g) (v := v) hP.2.2.1 hP.2.2.2.1) ml_E_98 hd_L_volumeAt ⟨by decide, by decide⟩ rfl rfl (Nat.le_of_ble_eq_true rfl) (cw_h hh hP.2.2.1) rfl rfl d_E_read_18 rfl ?_
    refine a_astore_nq (pc' := 22) hc d_E_read_21 rfl rfl (by decide) ?_
    refine a_aload_nq (pc' := 23) hc d_E_read_22 rfl rfl rfl ?_
    refine a_ifnull (pc' := 26) (tgt := 34) hc d_E_read_23 rfl rfl (fun h23 => ?_) (fun a23 h23 => ?_)
    · skip
      try rw [h23]
      have b23 := va_none hP.2.2.2.2.1 h23
      refine a_iconst (pc' := 35) (v := -1) hc d_E_read_34 rfl (by decide) ?_
      exact a_iret hc hr hk d_E_read_35 (e_i (by first | rfl | (simp only [rdI, blB, h4, h23, b23]; done) | (simp [rdI, blB, h4, h23, b23]; done)) (rfl))
    · skip
      try rw [h23]
      obtain ⟨j, pl, P, hj, ej, cj, b23, pj, hU, hpl, hPk⟩ := va_some hP.2.2.2.2.1 h23
      subst ej
      have hx16 := hw.1.ex hj
      refine a_aload_n (pc' := 27) hc d_E_read_26 rfl rfl rfl ?_
      refine a_iload_n (pc' := 28) hc d_E_read_27 rfl rfl rfl ?_
      refine c_calli (pc' := 31) hc hK hO hA (a23) [.int b] [] (ct_U_hasBlock hx hh (τ := τ) (κ := κ) (tk := tk) (h := h) (a := a23) (pl := pl) (pn := exN τ 15 j) (w := nI (gN τ 15 (15 * j))) (s := nI (gN τ 15 (15 * j + 1))) (rc := nI (gN τ 15 (15 * j + 2))) (k := b) (g := P) hU hpl) ml_E_168 hd_U_hasBlock ⟨by decide, by decide⟩ rfl rfl (Nat.le_of_ble_eq_true rfl) (cw_h hh hU) rfl rfl d_E_read_28 rfl ?_
      refine a_ifb_ne (pc' := 34) (tgt := 36) hc d_E_read_31 rfl rfl (fun h31 => ?_) (fun h31 => ?_)
      · skip
        obtain ⟨i, hi, ei, ci⟩ := hx_t (N := 4 * exN τ 15 j) (by omega) h31
        subst ei
        obtain ⟨hb1, hb2, hb3, hb4, hb5, hb6⟩ := bk_t hw hj pj hi
        have hw4 := (hw.1.2 j hj).1
        have hs4 : gN τ 15 (15 * j + 1) ≤ 4 := by have := (hw.2.1 j hj pj).2; omega
        have hid : bpN τ j i < 2 ^ 31 := gN_lt _ _ _
        have g31 := h31
        simp at g31
        refine a_aload_n (pc' := 37) hc d_E_read_36 rfl rfl rfl ?_
        refine c_getH (pc' := 40) hc hK in_U rfl hh hU 3 (v := .ref pl) (by decide) rfl fl_E_125 d_E_read_37 rfl ?_
        refine a_aload_n (pc' := 41) hc d_E_read_40 rfl rfl rfl ?_
        refine a_iload_n (pc' := 42) hc d_E_read_41 rfl rfl rfl ?_
        refine c_calli (pc' := 45) hc hK hO hA (a23) [.int (nI i)] [.ref pl] (ct_U_extentOf hx hh (τ := τ) (κ := κ) (tk := tk) (h := h) (a := a23) (pl := pl) (w := gN τ 15 (15 * j)) (s := gN τ 15 (15 * j + 1)) (b := i) (rc := nI (gN τ 15 (15 * j + 2))) hU (by omega) (by omega) (by omega) (by omega) (by omega)) ml_E_171 hd_U_extentOf ⟨by decide, by decide⟩ rfl rfl (Nat.le_of_ble_eq_true rfl) (cw_h hh hU) rfl rfl d_E_read_42 rfl ?_
        refine c_ialdH (pc' := 46) hc hK hx hh hpl (eoN (gN τ 15 (15 * j)) (gN τ 15 (15 * j + 1)) i) (hb3) d_E_read_45 rfl ?_
        refine AW.topi (y := nI (bpN τ j i)) (hPk _ hb3) ?_
        refine a_istore (pc' := 48) hc d_E_read_46 rfl (by decide) ?_
        refine a_aload_n (pc' := 49) hc d_E_read_48 rfl rfl rfl ?_
        refine a_iload (pc' := 51) hc d_E_read_49 rfl rfl ?_
        refine c_callr (pc' := 54) hc hK hO hA (bx 0) [.int (nI (bpN τ j i))] [] (ct_E_diskOf hx hh (τ := τ) (κ := κ) (tk := tk) (h := h) (q := bpN τ j i) (by omega) (by omega)) ml_E_128 hd_E_diskOf ⟨by decide, by decide⟩ rfl rfl (Nat.le_of_ble_eq_true rfl) (cw_at hx.1 (by omega)) rfl rfl d_E_read_51 rfl ?_
        refine c_getD (pc' := 57) hc hK hx ((bpN τ j i) / 16) 4 (v := .int (bI (tb (τ 1 ((bpN τ j i) / 16))))) (by omega) (by decide) rfl fl_E_132 d_E_read_54 rfl ?_
        refine a_ifb_eq (pc' := 60) (tgt := 74) hc d_E_read_57 rfl rfl (fun h57 => ?_) (fun h57 => ?_)
        · skip
          refine a_bipush (pc' := 76) (v := -6) hc d_E_read_74 rfl (by decide) ?_
          exact a_iret hc hr hk d_E_read_76 (e_i (by first | rfl | (simp only [rdI, blB, h4, h23, b23, cj, h31, ci, g31, h57]; done) | (simp [rdI, blB, h4, h23, b23, cj, h31, ci, g31, h57]; done)) (rfl))
        · skip
          refine a_aload_n (pc' := 61) hc d_E_read_60 rfl rfl rfl ?_
          refine a_iload (pc' := 63) hc d_E_read_61 rfl rfl ?_
          refine a_aload_n (pc' := 64) hc d_E_read_63 rfl rfl rfl ?_
          refine a_iload_n (pc' := 65) hc d_E_read_64 rfl rfl rfl ?_
          refine c_calli (pc' := 68) hc hK hO hA (a23) [.int (nI i)] [.int (nI (bpN τ j i)), .ref (bx 0)] (ct_U_cellOf hx hh (τ := τ) (κ := κ) (tk := tk) (h := h) (a := a23) (pl := pl) (w := gN τ 15 (15 * j)) (s := gN τ 15 (15 * j + 1)) (b := i) (rc := nI (gN τ 15 (15 * j + 2))) hU (by omega) (by omega) (by omega) (by omega) (by omega)) ml_E_174 hd_U_cellOf ⟨by decide, by decide⟩ rfl rfl (Nat.le_of_ble_eq_true rfl) (cw_h hh hU) rfl rfl d_E_read_65 rfl ?_
          refine AW.topi (y := nI (bcN τ j i)) rfl ?_
          refine c_calli (pc' := 71) hc hK hO hA (bx 0) [.int (nI (bpN τ j i)), .int (nI (bcN τ j i))] [] (ct_E_cellAt hx hh (τ := τ) (κ := κ) (tk := tk) (h := h) (q := bpN τ j i) (c := bcN τ j i) hb5 hb6 hid hb4) ml_E_161 hd_E_cellAt ⟨by decide, by decide⟩ rfl rfl (Nat.le_of_ble_eq_true rfl) (cw_at hx.1 (by omega)) rfl rfl d_E_read_68 rfl ?_
          refine a_goto (tgt := 76) hc d_E_read_71 rfl ?_
          exact a_iret hc hr hk d_E_read_76 (e_i (by first | rfl | (simp only [rdI, blB, h4, h23, b23, cj, h31, ci, g31, h57]; done) | (simp [rdI, blB, h4, h23, b23, cj, h31, ci, g31, h57]; done)) (rfl))
      · skip
        have g31 := h31
        simp at g31
        refine a_iconst (pc' := 35) (v := -1) hc d_E_read_34 rfl (by decide) ?_
        exact a_iret hc hr hk d_E_read_35 (e_i (by first | rfl | (simp only [rdI, blB, h4, h23, b23, cj, h31, g31]; done) | (simp [rdI, blB, h4, h23, b23, cj, h31, g31]; done)) (rfl))
  · skip
    refine a_bipush (pc' := 9) (v := -2) hc d_E_read_7 rfl (by decide) ?_
    exact a_iret hc hr hk d_E_read_9 (e_i (by first | rfl | (simp only [rdI, blB, h4]; done) | (simp [rdI, blB, h4]; done)) (rfl))
theorem ct_E_write (hx : CX bx rl ca tys n E) (hh : HD bx n h) {pa q va : Nat} {mv : Option Nat} {g : Nat → Option Nat} (hP : PrOk h ca τ κ pa q va mv g) (hw : WFx n E τ 15) {v b x : Int32} (hac : tb (τ 0 7) = true → ¬ τ 0 8 < 0) : CC l y_E_write c_E_write 9 (some .int) 3 D tys A (cw bx rl ca n E τ κ tk h) [.ref (bx 0), .int v, .int b, .int x] (some (.int ((wrP τ v b x).1))) (cw bx rl ca n E ((wrP τ v b x).2) κ tk h) := by
  obtain ⟨hn2, hn5⟩ := hx.2.2.1
  obtain ⟨hE2, hE10⟩ := hx.2.2.2
  have h62 : ¬ gt τ 15 62 < 0 := hw.1.1 62 (by omega) (by omega)
  have h61 : ¬ gt τ 15 61 < 0 := hw.1.1 61 (by omega) (by omega)
  refine CC.of (own := R_E) rfl (by decide) (Nat.le_of_ble_eq_true rfl) (cat_all rfl) ?_
  intro pp ee ss mm aa bb me cd hc hK hO hr hk hA
  refine AW.to (lv' := [some (.ref (bx 0)), some (.int v), some (.int b), some (.int x), none, none, none, none, none]) rfl rfl rfl ?_
  refine a_aload_n (pc' := 1) hc d_E_write_0 rfl rfl rfl ?_
  refine c_getE (pc' := 4) hc hK hx 6 (v := .int (bI (tb (τ 0 5)))) (by decide) (rfl) fl_E_60 d_E_write_1 rfl ?_
  refine a_ifb_ne (pc' := 7) (tgt := 10) hc d_E_write_4 rfl rfl (fun h4 => ?_) (fun h4 => ?_)
  · skip
    refine a_aload_n (pc' := 11) hc d_E_write_10 rfl rfl rfl ?_
    refine c_getE (pc' := 14) hc hK hx 3 (v := .ref pa) (by decide) (by show some (va_rf (κ 0)) = _; rw [hP.1]; rfl) fl_E_47 d_E_write_11 rfl ?_
    refine c_getH (pc' := 17) hc hK in_C rfl hh hP.2.1 2 (v := .ref q) (by decide) rfl fl_E_75 d_E_write_14 rfl ?_
    refine a_iload_n (pc' := 18) hc d_E_write_17 rfl rfl rfl ?_
    refine c_callr (pc' := 21) hc hK hO hA (q) [.int v] [] (ct_L_volumeAt hx hh (τ := τ) (κ := κ) (tk := tk) (h := h) (a := q) (va := va) (mv := mv) (g := g) (v := v) hP.2.2.1 hP.2.2.2.1) ml_E_98 hd_L_volumeAt ⟨by decide, by decide⟩ rfl rfl (Nat.le_of_ble_eq_true rfl) (cw_h hh hP.2.2.1) rfl rfl d_E_write_18 rfl ?_
    refine a_astoreq (pc' := 23) hc d_E_write_21 rfl (by decide) ?_
    refine a_aloadq (pc' := 25) hc d_E_write_23 rfl rfl ?_
    refine a_ifnull (pc' := 28) (tgt := 41) hc d_E_write_25 rfl rfl (fun h25 => ?_) (fun a25 h25 => ?_)
    · skip
      try rw [h25]
      have b25 := va_none hP.2.2.2.2.1 h25
      refine a_iconst (pc' := 42) (v := -1) hc d_E_write_41 rfl (by decide) ?_
      exact a_iret hc hr hk d_E_write_42 (e_i (by first | rfl | (simp only [wrP, blB, wr1, wr2, pcT, h4, h25, b25]; done) | (simp [wrP, blB, wr1, wr2, pcT, h4, h25, b25]; done)) (by first | rfl | (simp only [wrP, blB, wr1, wr2, pcT, h4, h25, b25]; done) | (simp [wrP, blB, wr1, wr2, pcT, h4, h25, b25]; done)))
    · skip
      try rw [h25]
      obtain ⟨j, pl, P, hj, ej, cj, b25, pj, hU, hpl, hPk⟩ := va_some hP.2.2.2.2.1 h25
      subst ej
      have hx16 := hw.1.ex hj
      refine a_aload (pc' := 30) hc d_E_write_28 rfl rfl ?_
      refine a_iload_n (pc' := 31) hc d_E_write_30 rfl rfl rfl ?_
      refine c_calli (pc' := 34) hc hK hO hA (a25) [.int b] [] (ct_U_hasBlock hx hh (τ := τ) (κ := κ) (tk := tk) (h := h) (a := a25) (pl := pl) (pn := exN τ 15 j) (w := nI (gN τ 15 (15 * j))) (s := nI (gN τ 15 (15 * j + 1))) (rc := nI (gN τ 15 (15 * j + 2))) (k := b) (g := P) hU hpl) ml_E_168 hd_U_hasBlock ⟨by decide, by decide⟩ rfl rfl (Nat.le_of_ble_eq_true rfl) (cw_h hh hU) rfl rfl d_E_write_31 rfl ?_
      refine a_ifb_eq (pc' := 37) (tgt := 41) hc d_E_write_34 rfl rfl (fun h34 => ?_) (fun h34 => ?_)
      · skip
        have g34 := h34
        simp at g34
        refine a_iconst (pc' := 42) (v := -1) hc d_E_write_41 rfl (by decide) ?_
        exact a_iret hc hr hk d_E_write_42 (e_i (by first | rfl | (simp only [wrP, blB, wr1, wr2, pcT, h4, h25, b25, cj, h34, g34]; done) | (simp [wrP, blB, wr1, wr2, pcT, h4, h25, b25, cj, h34, g34]; done)) (by first | rfl | (simp only [wrP, blB, wr1, wr2, pcT, h4, h25, b25, cj, h34, g34]; done) | (simp [wrP, blB, wr1, wr2, pcT, h4, h25, b25, cj, h34, g34]; done)))
      · skip
        obtain ⟨i, hi, ei, ci⟩ := hx_t (N := 4 * exN τ 15 j) (by omega) h34
        subst ei
        obtain ⟨hb1, hb2, hb3, hb4, hb5, hb6⟩ := bk_t hw hj pj hi
        have hw4 := (hw.1.2 j hj).1
        have hs4 : gN τ 15 (15 * j + 1) ≤ 4 := by have := (hw.2.1 j hj pj).2; omega
        have hid : bpN τ j i < 2 ^ 31 := gN_lt _ _ _
        have g34 := h34
        simp at g34
        refine a_iload_n (pc' := 38) hc d_E_write_37 rfl rfl rfl ?_
        refine a_if_ge (pc' := 41) (tgt := 43) hc d_E_write_38 rfl rfl (fun h38 => ?_) (fun h38 => ?_)
        · skip
          refine a_aload (pc' := 45) hc d_E_write_43 rfl rfl ?_
          refine a_iload_n (pc' := 46) hc d_E_write_45 rfl rfl rfl ?_
          refine c_calli (pc' := 49) hc hK hO hA (a25) [.int (nI i)] [] (ct_U_extentOf hx hh (τ := τ) (κ := κ) (tk := tk) (h := h) (a := a25) (pl := pl) (w := gN τ 15 (15 * j)) (s := gN τ 15 (15 * j + 1)) (b := i) (rc := nI (gN τ 15 (15 * j + 2))) hU (by omega) (by omega) (by omega) (by omega) (by omega)) ml_E_171 hd_U_extentOf ⟨by decide, by decide⟩ rfl rfl (Nat.le_of_ble_eq_true rfl) (cw_h hh hU) rfl rfl d_E_write_46 rfl ?_
          refine a_istore (pc' := 51) hc d_E_write_49 rfl (by decide) ?_
          refine a_aload (pc' := 53) hc d_E_write_51 rfl rfl ?_
          refine a_iload_n (pc' := 54) hc d_E_write_53 rfl rfl rfl ?_
          refine c_calli (pc' := 57) hc hK hO hA (a25) [.int (nI i)] [] (ct_U_cellOf hx hh (τ := τ) (κ := κ) (tk := tk) (h := h) (a := a25) (pl := pl) (w := gN τ 15 (15 * j)) (s := gN τ 15 (15 * j + 1)) (b := i) (rc := nI (gN τ 15 (15 * j + 2))) hU (by omega) (by omega) (by omega) (by omega) (by omega)) ml_E_174 hd_U_cellOf ⟨by decide, by decide⟩ rfl rfl (Nat.le_of_ble_eq_true rfl) (cw_h hh hU) rfl rfl d_E_write_54 rfl ?_
          refine AW.topi (y := nI (bcN τ j i)) rfl ?_
          refine a_istore (pc' := 59) hc d_E_write_57 rfl (by decide) ?_
          refine a_aload (pc' := 61) hc d_E_write_59 rfl rfl ?_
          refine c_getH (pc' := 64) hc hK in_U rfl hh hU 3 (v := .ref pl) (by decide) rfl fl_E_125 d_E_write_61 rfl ?_
          refine a_iload (pc' := 66) hc d_E_write_64 rfl rfl ?_
          refine c_ialdH (pc' := 67) hc hK hx hh hpl (eoN (gN τ 15 (15 * j)) (gN τ 15 (15 * j + 1)) i) (hb3) d_E_write_66 rfl ?_
          refine AW.topi (y := nI (bpN τ j i)) (hPk _ hb3) ?_
          refine a_istore (pc' := 69) hc d_E_write_67 rfl (by decide) ?_
          refine a_aload_n (pc' := 70) hc d_E_write_69 rfl rfl rfl ?_
          refine a_iload_n (pc' := 71) hc d_E_write_70 rfl rfl rfl ?_
          refine a_iload (pc' := 73) hc d_E_write_71 rfl rfl ?_
          refine a_iload (pc' := 75) hc d_E_write_73 rfl rfl ?_
          refine c_calli (pc' := 78) hc hK hO hA (bx 0) [.int (nI j), .int (nI (eoN (gN τ 15 (15 * j)) (gN τ 15 (15 * j + 1)) i)), .int (nI (bcN τ j i))] [] (ct_E_copiedTo hx hh (τ := τ) (κ := κ) (tk := tk) (h := h) (pa := pa) (q := q) (va := va) (mv := mv) (g := g) (v := nI j) (k := nI (eoN (gN τ 15 (15 * j)) (gN τ 15 (15 * j + 1)) i)) (c := nI (bcN τ j i)) hP h61 h62) ml_E_177 hd_E_copiedTo ⟨by decide, by decide⟩ rfl rfl (Nat.le_of_ble_eq_true rfl) (cw_at hx.1 (by omega)) rfl rfl d_E_write_75 rfl ?_
          refine AW.topi (y := wrC τ j i) rfl ?_
          refine a_istore (pc' := 80) hc d_E_write_78 rfl (by decide) ?_
          refine a_aload_n (pc' := 81) hc d_E_write_80 rfl rfl rfl ?_
          refine a_iload (pc' := 83) hc d_E_write_81 rfl rfl ?_
          refine c_callr (pc' := 86) hc hK hO hA (bx 0) [.int (nI (bpN τ j i))] [] (ct_E_diskOf hx hh (τ := τ) (κ := κ) (tk := tk) (h := h) (q := bpN τ j i) (by omega) (by omega)) ml_E_128 hd_E_diskOf ⟨by decide, by decide⟩ rfl rfl (Nat.le_of_ble_eq_true rfl) (cw_at hx.1 (by omega)) rfl rfl d_E_write_83 rfl ?_
          refine c_getD (pc' := 89) hc hK hx ((bpN τ j i) / 16) 4 (v := .int (bI (tb (τ 1 ((bpN τ j i) / 16))))) (by omega) (by decide) rfl fl_E_132 d_E_write_86 rfl ?_
          refine a_ifb_eq (pc' := 92) (tgt := 110) hc d_E_write_89 rfl rfl (fun h89 => ?_) (fun h89 => ?_)
          · skip
            refine a_bipush (pc' := 112) (v := -6) hc d_E_write_110 rfl (by decide) ?_
            exact a_iret hc hr hk d_E_write_112 (e_i (by first | rfl | (simp only [wrP, blB, wr1, wr2, pcT, h4, h25, b25, cj, h34, ci, g34, h38, h89]; done) | (simp [wrP, blB, wr1, wr2, pcT, h4, h25, b25, cj, h34, ci, g34, h38, h89]; done)) (by first | rfl | (simp only [wrP, blB, wr1, wr2, pcT, h4, h25, b25, cj, h34, ci, g34, h38, h89]; done) | (simp [wrP, blB, wr1, wr2, pcT, h4, h25, b25, cj, h34, ci, g34, h38, h89]; done)))
          · skip
            refine a_iload (pc' := 94) hc d_E_write_92 rfl rfl ?_
            refine a_iconst (pc' := 95) (v := -1) hc d_E_write_94 rfl (by decide) ?_
            refine a_icmp_eq (pc' := 98) (tgt := 113) hc d_E_write_95 rfl rfl (fun h95 => ?_) (fun h95 => ?_)
            · skip
              have t95 := twc_f hj h62 h95
              refine a_aload_n (pc' := 114) hc d_E_write_113 rfl rfl rfl ?_
              refine a_iload (pc' := 116) hc d_E_write_114 rfl rfl ?_
              refine a_iload (pc' := 118) hc d_E_write_116 rfl rfl ?_
              refine a_iload_n (pc' := 119) hc d_E_write_118 rfl rfl rfl ?_
              refine c_calli (pc' := 122) hc hK hO hA (bx 0) [.int (nI (bpN τ j i)), .int (nI (bcN τ j i)), .int x] [] (ct_E_putCell hx hh (τ := τ) (κ := κ) (tk := tk) (h := h) (q := bpN τ j i) (c := bcN τ j i) (v := x) hac hb5 hb6 hid hb4) ml_E_164 hd_E_putCell ⟨by decide, by decide⟩ rfl rfl (Nat.le_of_ble_eq_true rfl) (cw_at hx.1 (by omega)) rfl rfl d_E_write_119 rfl ?_
              refine a_ifb_ne (pc' := 125) (tgt := 128) hc d_E_write_122 rfl rfl (fun h122 => ?_) (fun h122 => ?_)
              · skip
                have s122 : stB τ = false := by simpa using h122
                refine a_iload (pc' := 130) hc d_E_write_128 rfl rfl ?_
                refine a_iconst (pc' := 131) (v := -1) hc d_E_write_130 rfl (by decide) ?_
                refine a_icmp_ne (pc' := 134) (tgt := 136) hc d_E_write_131 rfl rfl (fun h131 => absurd h95 h131) (fun h131 => ?_)
                refine a_iconst (pc' := 135) (v := nI 1) hc d_E_write_134 rfl (by decide) ?_
                exact a_iret hc hr hk d_E_write_135 (e_i (by first | rfl | (simp only [wrP, blB, wr1, wr2, pcT, h4, h25, b25, cj, h34, ci, g34, h38, h89, h95, t95, h122, s122]; done) | (simp [wrP, blB, wr1, wr2, pcT, h4, h25, b25, cj, h34, ci, g34, h38, h89, h95, t95, h122, s122]; done)) (by first | rfl | (simp only [wrP, blB, wr1, wr2, pcT, h4, h25, b25, cj, h34, ci, g34, h38, h89, h95, t95, h122, s122]; done) | (simp [wrP, blB, wr1, wr2, pcT, h4, h25, b25, cj, h34, ci, g34, h38, h89, h95, t95, h122, s122]; done)))
              · skip
                have s122 : stB τ = true := by simpa using h122
                refine a_bipush (pc' := 127) (v := -7) hc d_E_write_125 rfl (by decide) ?_
                exact a_iret hc hr hk d_E_write_127 (e_i (by first | rfl | (simp only [wrP, blB, wr1, wr2, pcT, h4, h25, b25, cj, h34, ci, g34, h38, h89, h95, t95, h122, s122]; done) | (simp [wrP, blB, wr1, wr2, pcT, h4, h25, b25, cj, h34, ci, g34, h38, h89, h95, t95, h122, s122]; done)) (by first | rfl | (simp only [wrP, blB, wr1, wr2, pcT, h4, h25, b25, cj, h34, ci, g34, h38, h89, h95, t95, h122, s122]; done) | (simp [wrP, blB, wr1, wr2, pcT, h4, h25, b25, cj, h34, ci, g34, h38, h89, h95, t95, h122, s122]; done)))
            · skip
              obtain ⟨t95, ct95⟩ := twc_t hj h62 h95
              obtain ⟨hm1, hm2, hm3, hm4⟩ := hw.2.2.2 (tw_mv hj t95)
              have hm5 := gN_lt τ 15 62
              refine AW.lvi 8 (y := nI (gN τ 15 62)) rfl ct95 ?_
              refine a_aload_n (pc' := 99) hc d_E_write_98 rfl rfl rfl ?_
              refine a_iload (pc' := 101) hc d_E_write_99 rfl rfl ?_
              refine c_callr (pc' := 104) hc hK hO hA (bx 0) [.int (nI (gN τ 15 62))] [] (ct_E_diskOf hx hh (τ := τ) (κ := κ) (tk := tk) (h := h) (q := gN τ 15 62) (by omega) (by omega)) ml_E_128 hd_E_diskOf ⟨by decide, by decide⟩ rfl rfl (Nat.le_of_ble_eq_true rfl) (cw_at hx.1 (by omega)) rfl rfl d_E_write_101 rfl ?_
              refine c_getD (pc' := 107) hc hK hx ((gN τ 15 62) / 16) 4 (v := .int (bI (tb (τ 1 ((gN τ 15 62) / 16))))) (by omega) (by decide) rfl fl_E_132 d_E_write_104 rfl ?_
              refine a_ifb_ne (pc' := 110) (tgt := 113) hc d_E_write_107 rfl rfl (fun h107 => ?_) (fun h107 => ?_)
              · skip
                refine a_aload_n (pc' := 114) hc d_E_write_113 rfl rfl rfl ?_
                refine a_iload (pc' := 116) hc d_E_write_114 rfl rfl ?_
                refine a_iload (pc' := 118) hc d_E_write_116 rfl rfl ?_
                refine a_iload_n (pc' := 119) hc d_E_write_118 rfl rfl rfl ?_
                refine c_calli (pc' := 122) hc hK hO hA (bx 0) [.int (nI (bpN τ j i)), .int (nI (bcN τ j i)), .int x] [] (ct_E_putCell hx hh (τ := τ) (κ := κ) (tk := tk) (h := h) (q := bpN τ j i) (c := bcN τ j i) (v := x) hac hb5 hb6 hid hb4) ml_E_164 hd_E_putCell ⟨by decide, by decide⟩ rfl rfl (Nat.le_of_ble_eq_true rfl) (cw_at hx.1 (by omega)) rfl rfl d_E_write_119 rfl ?_
                refine a_ifb_ne (pc' := 125) (tgt := 128) hc d_E_write_122 rfl rfl (fun h122 => ?_) (fun h122 => ?_)
                · skip
                  have s122 : stB τ = false := by simpa using h122
                  refine a_iload (pc' := 130) hc d_E_write_128 rfl rfl ?_
                  refine a_iconst (pc' := 131) (v := -1) hc d_E_write_130 rfl (by decide) ?_
                  refine a_icmp_ne (pc' := 134) (tgt := 136) hc d_E_write_131 rfl rfl (fun h131 => ?_) (fun h131 => absurd h131 (nI_m1 hm5))
                  refine a_aload_n (pc' := 137) hc d_E_write_136 rfl rfl rfl ?_
                  refine a_iload (pc' := 139) hc d_E_write_137 rfl rfl ?_
                  refine a_iload (pc' := 141) hc d_E_write_139 rfl rfl ?_
                  refine a_iload_n (pc' := 142) hc d_E_write_141 rfl rfl rfl ?_
                  refine c_calli (pc' := 145) hc hK hO hA (bx 0) [.int (nI (gN τ 15 62)), .int (nI (bcN τ j i)), .int x] [] (ct_E_putCell hx hh (τ := pcT τ (bpN τ j i) (bcN τ j i) x) (κ := κ) (tk := tk) (h := h) (q := gN τ 15 62) (c := bcN τ j i) (v := x) (by rw [pcT, if_neg (by rw [s122]; decide), ts_ne (by decide)]; exact ac_st hac s122) hm3 hm4 hm5 hb4) ml_E_164 hd_E_putCell ⟨by decide, by decide⟩ rfl rfl (Nat.le_of_ble_eq_true rfl) (cw_at hx.1 (by omega)) rfl rfl d_E_write_142 rfl ?_
                  refine a_ifb_eq (pc' := 148) (tgt := 152) hc d_E_write_145 rfl rfl (fun h145 => ?_) (fun h145 => ?_)
                  · skip
                    have s145 : stB (ts (stT τ) 2 (caN (bpN τ j i) (bcN τ j i)) x) = true := by have q := h145; rw [pcT, if_neg (by rw [s122]; decide)] at q; simpa using q
                    refine a_bipush (pc' := 154) (v := -7) hc d_E_write_152 rfl (by decide) ?_
                    exact a_iret hc hr hk d_E_write_154 (e_i (by first | rfl | (simp only [wrP, blB, wr1, wr2, pcT, h4, h25, b25, cj, h34, ci, g34, h38, h89, h95, t95, h107, h122, s122, h145, s145]; done) | (simp [wrP, blB, wr1, wr2, pcT, h4, h25, b25, cj, h34, ci, g34, h38, h89, h95, t95, h107, h122, s122, h145, s145]; done)) (by first | rfl | (simp only [wrP, blB, wr1, wr2, pcT, h4, h25, b25, cj, h34, ci, g34, h38, h89, h95, t95, h107, h122, s122, h145, s145]; done) | (simp [wrP, blB, wr1, wr2, pcT, h4, h25, b25, cj, h34, ci, g34, h38, h89, h95, t95, h107, h122, s122, h145, s145]; done)))
                  · skip
                    have s145 : stB (ts (stT τ) 2 (caN (bpN τ j i) (bcN τ j i)) x) = false := by have q := h145; rw [pcT, if_neg (by rw [s122]; decide)] at q; simpa using q
                    refine a_iconst (pc' := 149) (v := nI 2) hc d_E_write_148 rfl (by decide) ?_
                    refine a_goto (tgt := 154) hc d_E_write_149 rfl ?_
                    exact a_iret hc hr hk d_E_write_154 (e_i (by first | rfl | (simp only [wrP, blB, wr1, wr2, pcT, h4, h25, b25, cj, h34, ci, g34, h38, h89, h95, t95, h107, h122, s122, h145, s145]; done) | (simp [wrP, blB, wr1, wr2, pcT, h4, h25, b25, cj, h34, ci, g34, h38, h89, h95, t95, h107, h122, s122, h145, s145]; done)) (by first | rfl | (simp only [wrP, blB, wr1, wr2, pcT, h4, h25, b25, cj, h34, ci, g34, h38, h89, h95, t95, h107, h122, s122, h145, s145]; done) | (simp [wrP, blB, wr1, wr2, pcT, h4, h25, b25, cj, h34, ci, g34, h38, h89, h95, t95, h107, h122, s122, h145, s145]; done)))
                · skip
                  have s122 : stB τ = true := by simpa using h122
                  refine a_bipush (pc' := 127) (v := -7) hc d_E_write_125 rfl (by decide) ?_
                  exact a_iret hc hr hk d_E_write_127 (e_i (by first | rfl | (simp only [wrP, blB, wr1, wr2, pcT, h4, h25, b25, cj, h34, ci, g34, h38, h89, h95, t95, h107, h122, s122]; done) | (simp [wrP, blB, wr1, wr2, pcT, h4, h25, b25, cj, h34, ci, g34, h38, h89, h95, t95, h107, h122, s122]; done)) (by first | rfl | (simp only [wrP, blB, wr1, wr2, pcT, h4, h25, b25, cj, h34, ci, g34, h38, h89, h95, t95, h107, h122, s122]; done) | (simp [wrP, blB, wr1, wr2, pcT, h4, h25, b25, cj, h34, ci, g34, h38, h89, h95, t95, h107, h122, s122]; done)))
              · skip
                refine a_bipush (pc' := 112) (v := -6) hc d_E_write_110 rfl (by decide) ?_
                exact a_iret hc hr hk d_E_write_112 (e_i (by first | rfl | (simp only [wrP, blB, wr1, wr2, pcT, h4, h25, b25, cj, h34, ci, g34, h38, h89, h95, t95, h107]; done) | (simp [wrP, blB, wr1, wr2, pcT, h4, h25, b25, cj, h34, ci, g34, h38, h89, h95, t95, h107]; done)) (by first | rfl | (simp only [wrP, blB, wr1, wr2, pcT, h4, h25, b25, cj, h34, ci, g34, h38, h89, h95, t95, h107]; done) | (simp [wrP, blB, wr1, wr2, pcT, h4, h25, b25, cj, h34, ci, g34, h38, h89, h95, t95, h107]; done)))
        · skip
          refine a_iconst (pc' := 42) (v := -1) hc d_E_write_41 rfl (by decide) ?_
          exact a_iret hc hr hk d_E_write_42 (e_i (by first | rfl | (simp only [wrP, blB, wr1, wr2, pcT, h4, h25, b25, cj, h34, ci, g34, h38]; done) | (simp [wrP, blB, wr1, wr2, pcT, h4, h25, b25, cj, h34, ci, g34, h38]; done)) (by first | rfl | (simp only [wrP, blB, wr1, wr2, pcT, h4, h25, b25, cj, h34, ci, g34, h38]; done) | (simp [wrP, blB, wr1, wr2, pcT, h4, h25, b25, cj, h34, ci, g34, h38]; done)))
  · skip
    refine a_bipush (pc' := 9) (v := -2) hc d_E_write_7 rfl (by decide) ?_
    exact a_iret hc hr hk d_E_write_9 (e_i (by first | rfl | (simp only [wrP, blB, wr1, wr2, pcT, h4]; done) | (simp [wrP, blB, wr1, wr2, pcT, h4]; done)) (by first | rfl | (simp only [wrP, blB, wr1, wr2, pcT, h4]; done) | (simp [wrP, blB, wr1, wr2, pcT, h4]; done)))
theorem ct_E_free (hx : CX bx rl ca tys n E) (hh : HD bx n h) {pa q va : Nat} {mv : Option Nat} {g : Nat → Option Nat} (hP : PrOk h ca τ κ pa q va mv g) (hw : WFx n E τ 15) {d : Int32} : CC l y_E_free c_E_free 2 (some .int) 2 D tys A (cw bx rl ca n E τ κ tk h) [.ref (bx 0), .int d] (some (.int (feI τ n E d))) (cw bx rl ca n E τ κ (if tb (τ 0 5) && dkB n d then tkF (usedB τ 15) E else tk) h) := by
  obtain ⟨hn2, hn5⟩ := hx.2.2.1
  obtain ⟨hE2, hE10⟩ := hx.2.2.2
  refine CC.of (own := R_E) rfl (by decide) (Nat.le_of_ble_eq_true rfl) (cat_all rfl) ?_
  intro pp ee ss mm aa bb me cd hc hK hO hr hk hA
  refine AW.to (lv' := [some (.ref (bx 0)), some (.int d)]) rfl rfl rfl ?_
  refine a_aload_n (pc' := 1) hc d_E_free_0 rfl rfl rfl ?_
  refine c_getE (pc' := 4) hc hK hx 6 (v := .int (bI (tb (τ 0 5)))) (by decide) (rfl) fl_E_60 d_E_free_1 rfl ?_
  refine a_ifb_ne (pc' := 7) (tgt := 10) hc d_E_free_4 rfl rfl (fun h4 => ?_) (fun h4 => ?_)
  · skip
    refine a_aload_n (pc' := 11) hc d_E_free_10 rfl rfl rfl ?_
    refine a_iload_n (pc' := 12) hc d_E_free_11 rfl rfl rfl ?_
    refine c_calli (pc' := 15) hc hK hO hA (bx 0) [.int d] [] (ct_E_isDisk hx hh (τ := τ) (κ := κ) (tk := tk) (h := h) (d := d)) ml_E_118 hd_E_isDisk ⟨by decide, by decide⟩ rfl rfl (Nat.le_of_ble_eq_true rfl) (cw_at hx.1 (by omega)) rfl rfl d_E_free_12 rfl ?_
    refine a_ifb_ne (pc' := 18) (tgt := 20) hc d_E_free_15 rfl rfl (fun h15 => ?_) (fun h15 => ?_)
    · skip
      obtain ⟨j, hj, ej, cj⟩ := dkB_t (by omega) h15
      subst ej
      refine a_aload_n (pc' := 21) hc d_E_free_20 rfl rfl rfl ?_
      refine c_callv (pc' := 24) hc hK hO hA (bx 0) [] [] (ct_E_markTaken hx hh (τ := τ) (κ := κ) (tk := tk) (h := h) (pa := pa) (q := q) (va := va) (mv := mv) (g := g) hP hw) ml_E_135 hd_E_markTaken ⟨by decide, by decide⟩ rfl rfl (Nat.le_of_ble_eq_true rfl) (cw_at hx.1 (by omega)) rfl rfl d_E_free_21 rfl ?_
      refine a_aload_n (pc' := 25) hc d_E_free_24 rfl rfl rfl ?_
      refine a_iload_n (pc' := 26) hc d_E_free_25 rfl rfl rfl ?_
      refine c_calli (pc' := 29) hc hK hO hA (bx 0) [.int (nI j)] [] (ct_E_freeCount hx hh (τ := τ) (κ := κ) (h := h) (d := j) (u := (usedB τ 15)) (by omega)) ml_E_195 hd_E_freeCount ⟨by decide, by decide⟩ rfl rfl (Nat.le_of_ble_eq_true rfl) (cw_at hx.1 (by omega)) rfl rfl d_E_free_26 rfl ?_
      exact a_iret hc hr hk d_E_free_29 (e_i (by simp [feI, h4, h15, cj, frU_used]) (by first | rfl | (simp only [feI, h4, h15, cj]; done) | (simp [feI, h4, h15, cj]; done)))
    · skip
      refine a_iconst (pc' := 19) (v := -1) hc d_E_free_18 rfl (by decide) ?_
      exact a_iret hc hr hk d_E_free_19 (e_i (by first | rfl | (simp only [feI, h4, h15]; done) | (simp [feI, h4, h15]; done)) (by first | rfl | (simp only [feI, h4, h15]; done) | (simp [feI, h4, h15]; done)))
  · skip
    refine a_bipush (pc' := 9) (v := -2) hc d_E_free_7 rfl (by decide) ?_
    exact a_iret hc hr hk d_E_free_9 (e_i (by first | rfl | (simp only [feI, h4]; done) | (simp [feI, h4]; done)) (by first | rfl | (simp only [feI, h4]; done) | (simp [feI, h4]; done)))
