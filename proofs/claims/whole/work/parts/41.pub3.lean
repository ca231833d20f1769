variable {l : Launch} {D : va_G} {tys : List (ClassId × FieldType)} {A : Nat → Prop} {bx rl : Nat → Nat} {ca : Nat → ClassId} {n E : Nat} {τ : TS} {κ : Nat → Option Nat} {tk : Nat → Int32} {h : Nat → Option va_E}
theorem ct_L_withMoveDone (hx : CX bx rl ca tys n E) (hh : HD bx n h) {pa q va : Nat} {mv : Option Nat} {g : Nat → Option Nat} (hP : PrOk h ca τ κ pa q va mv g) (hw : WFx n E τ 15) (h60 : ¬ gt τ 15 60 < 0) : CT l y_L_withMoveDone (Cond.code y_L_withMoveDone c_L_withMoveDone 2 (some (.object "ExtentGroup$Layout")) :: WS) (ra 4 4 22) D vcl tys A (cw bx rl ca n E τ κ tk h) [.ref q] (fun v' f' => ∃ (r va' a' p' : Nat) (h' : Nat → Option va_E) (g' : Nat → Option Nat) (P' : Nat → Int32), v' = some (.ref r) ∧ Grown bx rl ca n E τ κ tk h f' h' ∧ h' r = some (.inr (2, [.ref va', va_rf none])) ∧ h' va' = some (.inl (ca 4, 4, .inr (.inr (.inr (.inr (g')))))) ∧ (∀ i, i < 4 → g' i = if nI i = nI (gN τ 15 60) then some a' else g i) ∧ h' a' = some (.inr (3, [.int (nI (gN τ 15 (15 * gN τ 15 60))), .int (nI (gN τ 15 (15 * gN τ 15 60 + 1))), .int (nI (gN τ 15 (15 * gN τ 15 60 + 2))), .ref p'])) ∧ h' p' = some (.inl (ca 0, exN τ 15 (gN τ 15 60), .inl P')) ∧ ¬ gt τ 15 (15 * gN τ 15 60 + 2) ≤ 0 ∧ ∀ k, k < exN τ 15 (gN τ 15 60) → P' k = if k = gN τ 15 61 then nI (gN τ 15 62) else nI (gN τ 15 (15 * gN τ 15 60 + 3 + k))) 4 22 := by
  obtain ⟨hn2, hn5⟩ := hx.2.2.1
  obtain ⟨hE2, hE10⟩ := hx.2.2.2
  obtain ⟨hq1, hq2, hq3, hq4⟩ := hw.2.2.2 h60
  have hx16 := hw.1.ex hq1
  have hhA := hh
  refine CT.of (own := R_L) rfl (by decide) (Nat.le_of_ble_eq_true rfl) (cat_all rfl) ?_
  intro pp ee ss mm aa bb me cd hc hK hO hr hk hA
  refine AW.to (lv' := [some (.ref q), none]) rfl rfl rfl ?_
  refine a_aload_n (pc' := 1) hc d_L_withMoveDone_0 rfl rfl rfl ?_
  refine c_getH (pc' := 4) hc hK in_L rfl hh hP.2.2.1 1 (v := va_rf mv) (by decide) rfl fl_L_15 d_L_withMoveDone_1 rfl ?_
  refine a_ifnonnull (pc' := 7) (tgt := 11) hc d_L_withMoveDone_4 rfl rfl (fun a4 h4 => ?_) (fun h4 => ?_)
  · skip
    try rw [h4]
    obtain ⟨p60, hM4⟩ := mv_someq hP.2.2.2.2.2 h4
    refine a_aload_n (pc' := 12) hc d_L_withMoveDone_11 rfl rfl rfl ?_
    refine a_aload_n (pc' := 13) hc d_L_withMoveDone_12 rfl rfl rfl ?_
    refine c_getH (pc' := 16) hc hK in_L rfl hh hP.2.2.1 1 (v := va_rf mv) (by decide) rfl fl_L_15 d_L_withMoveDone_13 rfl ?_
    refine AW.top (y := .ref a4) (by rw [h4]; rfl) ?_
    refine c_getH (pc' := 19) hc hK in_V rfl hh hM4 0 (v := .int (nI (gN τ 15 60))) (by decide) rfl fl_L_26 d_L_withMoveDone_16 rfl ?_
    refine c_call (pc' := 22) hc hK hO hA (q) [.int (nI (gN τ 15 60))] [] (ct_L_volumeAt hx hh (τ := τ) (κ := κ) (tk := tk) (h := h) (a := q) (va := va) (mv := mv) (g := g) (v := nI (gN τ 15 60)) hP.2.2.1 hP.2.2.2.1) ml_L_32 hd_L_volumeAt ⟨by decide, by decide⟩ rfl rfl (Nat.le_of_ble_eq_true rfl) (cw_h hh hP.2.2.1) rfl rfl d_L_withMoveDone_19 rfl ⟨by first | decide | (show _ ≤ _; simp only [ra]; omega), by first | decide | (show _ ≤ _; simp only [ra]; omega)⟩ ?_
    refine AW.to (st' := [va_rf (vaQ g (nI (gN τ 15 60)))]) rfl rfl rfl ?_
    refine a_astore_nq (pc' := 23) hc d_L_withMoveDone_22 rfl rfl (by decide) ?_
    refine a_aload_nq (pc' := 24) hc d_L_withMoveDone_23 rfl rfl rfl ?_
    refine a_ifnonnull (pc' := 27) (tgt := 29) hc d_L_withMoveDone_24 rfl rfl (fun a24 h24 => ?_) (fun h24 => ?_)
    · skip
      try rw [h24]
      obtain ⟨pl, P, pj, hU, hpl, hPk⟩ := vl_some hP.2.2.2.2.1 hq1 h24
      refine c_new (pc' := 32) (ci := 2) hc hK hA hx hh in_L ty_L ty_L_ok cl_L_10 mk_L rfl [.null, .null] (by decide) (by decide) (by decide) d_L_withMoveDone_29 rfl (fun q29 n29 hh29 => ?_)
      have x29 := Ext.up (x := some (.inr (2, [.null, .null]))) n29
      have hh := hh29
      have hP0 := hP
      have hP := hP.ext x29
      have hM4 := x29 _ _ hM4
      have hU := x29 _ _ hU
      have hpl := And.intro (x29 _ _ hpl.1) hpl.2
      have hq29 : (va_up h q29 (some (.inr (2, [.null, .null])))) q29 = some (.inr (2, [.null, .null])) := va_up_self _ _ _
      refine AW.to (st' := [.ref q29]) rfl rfl rfl ?_
      refine a_dup (pc' := 33) hc d_L_withMoveDone_32 rfl rfl ?_
      refine a_aload_n (pc' := 34) hc d_L_withMoveDone_33 rfl rfl rfl ?_
      refine a_aload_n (pc' := 35) hc d_L_withMoveDone_34 rfl rfl rfl ?_
      refine c_getH (pc' := 38) hc hK in_L rfl hh hP.2.2.1 1 (v := va_rf mv) (by decide) rfl fl_L_15 d_L_withMoveDone_35 rfl ?_
      refine AW.top (y := .ref a4) (by rw [h4]; rfl) ?_
      refine c_getH (pc' := 41) hc hK in_V rfl hh hM4 0 (v := .int (nI (gN τ 15 60))) (by decide) rfl fl_L_26 d_L_withMoveDone_38 rfl ?_
      refine a_aload_n (pc' := 42) hc d_L_withMoveDone_41 rfl rfl rfl ?_
      refine a_aload_n (pc' := 43) hc d_L_withMoveDone_42 rfl rfl rfl ?_
      refine c_getH (pc' := 46) hc hK in_L rfl hh hP.2.2.1 1 (v := va_rf mv) (by decide) rfl fl_L_15 d_L_withMoveDone_43 rfl ?_
      refine AW.top (y := .ref a4) (by rw [h4]; rfl) ?_
      refine c_getH (pc' := 49) hc hK in_V rfl hh hM4 1 (v := .int (nI (gN τ 15 61))) (by decide) rfl fl_L_36 d_L_withMoveDone_46 rfl ?_
      refine a_aload_n (pc' := 50) hc d_L_withMoveDone_49 rfl rfl rfl ?_
      refine c_getH (pc' := 53) hc hK in_L rfl hh hP.2.2.1 1 (v := va_rf mv) (by decide) rfl fl_L_15 d_L_withMoveDone_50 rfl ?_
      refine AW.top (y := .ref a4) (by rw [h4]; rfl) ?_
      refine c_getH (pc' := 56) hc hK in_V rfl hh hM4 3 (v := .int (nI (gN τ 15 62))) (by decide) rfl fl_L_39 d_L_withMoveDone_53 rfl ?_
      refine a_cV (pc' := 59) hc hK hO hA (As := [.int (nI (gN τ 15 61)), .int (nI (gN τ 15 62))]) (rest := [.int (nI (gN τ 15 60)), .ref q, .ref q29, .ref q29]) (ct_U_withPlace hx hh (τ := τ) (κ := κ) (tk := tk) (h := va_up h q29 (some (.inr (2, [.null, .null])))) (a := a24) (pl := pl) (w := gN τ 15 (15 * gN τ 15 60)) (s := gN τ 15 (15 * gN τ 15 60 + 1)) (rc := gN τ 15 (15 * gN τ 15 60 + 2)) (k := gN τ 15 61) (x := nI (gN τ 15 62)) (P := P) hU hpl hx16 hq2) ml_L_42 hd_U_withPlace rfl rfl ⟨by decide, by decide⟩ (cw_h hh hU) rfl rfl rfl rfl (Nat.le_of_ble_eq_true rfl) d_L_withMoveDone_56 rfl ⟨by decide, by decide⟩ (fun v56 f56 hq56 => ?_)
      obtain ⟨r56, p56, h56, P56, rfl, ⟨rfl, x56, hh56⟩, hr56, hp56, np56, nr56, hP56⟩ := hq56
      have hh := hh56
      have hP := hP.ext x56
      have hq29 := x56 _ _ hq29
      refine AW.to (st' := [.ref r56, .int (nI (gN τ 15 60)), .ref q, .ref q29, .ref q29]) rfl rfl rfl ?_
      refine a_cV (pc' := 62) hc hK hO hA (As := [.int (nI (gN τ 15 60)), va_rf (some r56)]) (rest := [.ref q29, .ref q29]) (ct_L_volumesWith hx hh56 (τ := τ) (κ := κ) (tk := tk) (h := h56) (a := q) (va := va) (mv := mv) (g := g) (v := nI (gN τ 15 60)) (o := some r56) hP.2.2.1 hP.2.2.2.1 (fun b hb => by cases hb; exact ⟨_, hr56⟩) hP.2.2.vols) ml_L_19 hd_L_volumesWith rfl rfl ⟨by decide, by decide⟩ (cw_h hh56 hP.2.2.1) rfl rfl rfl rfl (Nat.le_of_ble_eq_true rfl) d_L_withMoveDone_59 rfl ⟨by decide, by decide⟩ (fun v59 f59 hq59 => ?_)
      obtain ⟨r59, h59, g59, rfl, ⟨rfl, x59, hh59⟩, hr59, hg59⟩ := hq59
      have hh := hh59
      have hq29 := x59 _ _ hq29
      have hr56 := x59 _ _ hr56
      have hp56 := x59 _ _ hp56
      have na : r56 ≠ q29 := fun e => by rw [e, hq29] at hr56; cases hr56
      have np : p56 ≠ q29 := fun e => by rw [e, hq29] at hp56; cases hp56
      have nv : r59 ≠ q29 := fun e => by rw [e, hq29] at hr59; cases hr59
      refine AW.to (st' := [.ref r59, .ref q29, .ref q29]) rfl rfl rfl ?_
      refine a_null (pc' := 63) hc d_L_withMoveDone_62 rfl ?_
      refine a_cI (pc' := 66) hc hK hO hA (As := [.ref r59, va_rf none]) (rest := [.ref q29]) (ct_L_init hx hh59 (τ := τ) (κ := κ) (tk := tk) (h := h59) (a := q29) (va := r59) (mv := none) hq29) ml_L_23 rfl hd_L_init rfl rfl ⟨by decide, by decide⟩ rfl rfl (Nat.le_of_ble_eq_true rfl) d_L_withMoveDone_63 rfl ⟨by decide, by decide⟩ (fun v9 f9 hq9 => ?_)
      obtain ⟨rfl, rfl⟩ := hq9
      refine AW.to (st' := [.ref q29]) rfl rfl rfl ?_
      refine AW.widen (k' := 4) (n' := 22) (by omega) (by omega) ?_
      exact a_aret (x := some q29) hc hr (Or.inl ⟨_, rfl⟩) hk d_L_withMoveDone_66 (⟨q29, r59, r56, p56, _, g59, P56, rfl, ⟨rfl, ((x29.tr x56).tr x59).upx n29, hh59.up (hh59.off hq29)⟩, va_up_self _ _ _, by rw [va_up_ne _ _ nv]; exact hr59, hg59, by rw [va_up_ne _ _ na]; exact hr56, by rw [va_up_ne _ _ np]; exact hp56, pj, fun k hk' => by rw [hP56 k hk', hPk k hk']⟩)
    · skip
      try rw [h24]
      have z24 := vl_none hP.2.2.2.2.1 hq1 h24
      omega
  · skip
    try rw [h4]
    exact absurd (mv_noneq hP.2.2.2.2.2 h4) h60
theorem ct_E_step (hx : CX bx rl ca tys n E) (hh : HD bx n h) {pa q va : Nat} {mv : Option Nat} {g : Nat → Option Nat} (hP : PrOk h ca τ κ pa q va mv g) (hw : WFx n E τ 15) (hm : CmOk n τ κ h) (h0 : ¬ τ 0 6 < 0) (hc4 : cpN τ ≤ 4) : CT l y_E_step (Cond.code y_E_step c_E_step 2 (some .int) :: WS) (ra 6 5 25) D vcl tys A (cw bx rl ca n E τ κ tk h) [.ref (bx 0)] (fun v' f' => ∃ (κ' : Nat → Option Nat) (tk' : Nat → Int32) (h' : Nat → Option va_E), v' = some (.int (spP τ n).1) ∧ f' = cw bx rl ca n E (spP τ n).2 κ' tk' h' ∧ PubRes bx ca n (sp2 τ) κ h (tb (τ 0 5) && (decide (0 ≤ gt τ 15 60) && !fewB τ n) && (tb (τ 1 (srN τ / 16)) && tb (τ 1 (gN τ 15 62 / 16)) && decide (4 ≤ cpN τ))) κ' h') 5 25 := by
  obtain ⟨hn2, hn5⟩ := hx.2.2.1
  obtain ⟨hE2, hE10⟩ := hx.2.2.2
  refine CT.of (own := R_E) rfl (by decide) (Nat.le_of_ble_eq_true rfl) (cat_all rfl) ?_
  intro pp ee ss mm aa bb me cd hc hK hO hr hk hA
  refine AW.to (lv' := [some (.ref (bx 0)), none]) rfl rfl rfl ?_
  refine a_aload_n (pc' := 1) hc d_E_step_0 rfl rfl rfl ?_
  refine c_getE (pc' := 4) hc hK hx 6 (v := .int (bI (tb (τ 0 5)))) (by decide) (rfl) fl_E_60 d_E_step_1 rfl ?_
  refine a_ifb_ne (pc' := 7) (tgt := 10) hc d_E_step_4 rfl rfl (fun h4 => ?_) (fun h4 => ?_)
  · skip
    refine a_aload_n (pc' := 11) hc d_E_step_10 rfl rfl rfl ?_
    refine c_getE (pc' := 14) hc hK hx 3 (v := .ref pa) (by decide) (by show some (va_rf (κ 0)) = _; rw [hP.1]; rfl) fl_E_47 d_E_step_11 rfl ?_
    refine c_getH (pc' := 17) hc hK in_C rfl hh hP.2.1 2 (v := .ref q) (by decide) rfl fl_E_75 d_E_step_14 rfl ?_
    refine c_getH (pc' := 20) hc hK in_L rfl hh hP.2.2.1 1 (v := va_rf mv) (by decide) rfl fl_E_121 d_E_step_17 rfl ?_
    refine a_astore_nq (pc' := 21) hc d_E_step_20 rfl rfl (by decide) ?_
    refine a_aload_nq (pc' := 22) hc d_E_step_21 rfl rfl rfl ?_
    refine a_ifnonnull (pc' := 25) (tgt := 28) hc d_E_step_22 rfl rfl (fun a22 h22 => ?_) (fun h22 => ?_)
    · skip
      try rw [h22]
      obtain ⟨p60, hM22⟩ := mv_someq hP.2.2.2.2.2 h22
      have m60 : 0 ≤ gt τ 15 60 := Int32.not_lt.mp p60
      obtain ⟨hq1, hq2, hq3, hq4⟩ := hw.2.2.2 p60
      have hq5 := hw.1.ex hq1
      have hq6 := hw.2.2.1 _ hq1 _ hq2
      have hq7 : srN τ / 16 < n := hq6.1
      have hq8 : srN τ % 16 < E := hq6.2
      have hq9 : srN τ < 2 ^ 31 := gN_lt _ _ _
      have hq10 := gN_lt τ 15 62
      refine a_aload_n (pc' := 29) hc d_E_step_28 rfl rfl rfl ?_
      refine c_call (pc' := 32) hc hK hO hA (bx 0) [] [] (ct_E_isFew hx hh (τ := τ) (κ := κ) (tk := tk) (h := h)) ml_E_71 hd_E_isFew ⟨by decide, by decide⟩ rfl rfl (Nat.le_of_ble_eq_true rfl) (cw_at hx.1 (by omega)) rfl rfl d_E_step_29 rfl ⟨by first | decide | (show _ ≤ _; simp only [ra]; omega), by first | decide | (show _ ≤ _; simp only [ra]; omega)⟩ ?_
      refine AW.to (st' := [.int (bI (fewB τ n))]) rfl rfl rfl ?_
      refine a_ifb_eq (pc' := 35) (tgt := 38) hc d_E_step_32 rfl rfl (fun h32 => ?_) (fun h32 => ?_)
      · skip
        refine a_aload_n (pc' := 39) hc d_E_step_38 rfl rfl rfl ?_
        refine a_aload_n (pc' := 40) hc d_E_step_39 rfl rfl rfl ?_
        refine c_getH (pc' := 43) hc hK in_V rfl hh hM22 2 (v := .int (nI (srN τ))) (by decide) rfl fl_E_151 d_E_step_40 rfl ?_
        refine c_call (pc' := 46) hc hK hO hA (bx 0) [.int (nI (srN τ))] [] (ct_E_diskOf hx hh (τ := τ) (κ := κ) (tk := tk) (h := h) (q := srN τ) (by omega) (by omega)) ml_E_128 hd_E_diskOf ⟨by decide, by decide⟩ rfl rfl (Nat.le_of_ble_eq_true rfl) (cw_at hx.1 (by omega)) rfl rfl d_E_step_43 rfl ⟨by first | decide | (show _ ≤ _; simp only [ra]; omega), by first | decide | (show _ ≤ _; simp only [ra]; omega)⟩ ?_
        refine AW.to (st' := [.ref (bx (3 + 4 * ((srN τ) / 16)))]) rfl rfl rfl ?_
        refine c_getD (pc' := 49) hc hK hx ((srN τ) / 16) 4 (v := .int (bI (tb (τ 1 ((srN τ) / 16))))) (by omega) (by decide) rfl fl_E_132 d_E_step_46 rfl ?_
        refine a_ifb_eq (pc' := 52) (tgt := 66) hc d_E_step_49 rfl rfl (fun h49 => ?_) (fun h49 => ?_)
        · skip
          refine a_bipush (pc' := 68) (v := -6) hc d_E_step_66 rfl (by decide) ?_
          refine AW.widen (k' := 5) (n' := 25) (by omega) (by omega) ?_
          exact a_iret hc hr hk d_E_step_68 (⟨κ, tk, h, by simp [spP, h4, h32, h49, m60], by simp [spP, h4, h32, h49, m60], Or.inl ⟨by simp [h4, h32, h49, m60], rfl, Ext.rf, hh⟩⟩)
        · skip
          refine a_aload_n (pc' := 53) hc d_E_step_52 rfl rfl rfl ?_
          refine a_aload_n (pc' := 54) hc d_E_step_53 rfl rfl rfl ?_
          refine c_getH (pc' := 57) hc hK in_V rfl hh hM22 3 (v := .int (nI (gN τ 15 62))) (by decide) rfl fl_E_154 d_E_step_54 rfl ?_
          refine c_call (pc' := 60) hc hK hO hA (bx 0) [.int (nI (gN τ 15 62))] [] (ct_E_diskOf hx hh (τ := τ) (κ := κ) (tk := tk) (h := h) (q := gN τ 15 62) (by omega) (by omega)) ml_E_128 hd_E_diskOf ⟨by decide, by decide⟩ rfl rfl (Nat.le_of_ble_eq_true rfl) (cw_at hx.1 (by omega)) rfl rfl d_E_step_57 rfl ⟨by first | decide | (show _ ≤ _; simp only [ra]; omega), by first | decide | (show _ ≤ _; simp only [ra]; omega)⟩ ?_
          refine AW.to (st' := [.ref (bx (3 + 4 * ((gN τ 15 62) / 16)))]) rfl rfl rfl ?_
          refine c_getD (pc' := 63) hc hK hx ((gN τ 15 62) / 16) 4 (v := .int (bI (tb (τ 1 ((gN τ 15 62) / 16))))) (by omega) (by decide) rfl fl_E_132 d_E_step_60 rfl ?_
          refine a_ifb_ne (pc' := 66) (tgt := 69) hc d_E_step_63 rfl rfl (fun h63 => ?_) (fun h63 => ?_)
          · skip
            refine a_aload_n (pc' := 70) hc d_E_step_69 rfl rfl rfl ?_
            refine c_getE (pc' := 73) hc hK hx 4 (v := .int (τ 0 6)) (by decide) (rfl) fl_E_51 d_E_step_70 rfl ?_
            refine AW.topi (y := nI (cpN τ)) (nat_eq h0) ?_
            refine a_iconst (pc' := 74) (v := nI 4) hc d_E_step_73 rfl (by decide) ?_
            refine a_ncmp_ne (pc' := 77) (tgt := 101) hc d_E_step_74 rfl rfl (by omega) (by omega) (fun h74 => ?_) (fun h74 => ?_)
            · skip
              have n74 : ¬ 4 ≤ cpN τ := by omega
              refine a_aload_n (pc' := 102) hc d_E_step_101 rfl rfl rfl ?_
              refine a_aload_n (pc' := 103) hc d_E_step_102 rfl rfl rfl ?_
              refine c_getH (pc' := 106) hc hK in_V rfl hh hM22 3 (v := .int (nI (gN τ 15 62))) (by decide) rfl fl_E_154 d_E_step_103 rfl ?_
              refine a_aload_n (pc' := 107) hc d_E_step_106 rfl rfl rfl ?_
              refine c_getE (pc' := 110) hc hK hx 4 (v := .int (τ 0 6)) (by decide) (rfl) fl_E_51 d_E_step_107 rfl ?_
              refine AW.topi (y := nI (cpN τ)) (nat_eq h0) ?_
              refine a_aload_n (pc' := 111) hc d_E_step_110 rfl rfl rfl ?_
              refine a_aload_n (pc' := 112) hc d_E_step_111 rfl rfl rfl ?_
              refine c_getH (pc' := 115) hc hK in_V rfl hh hM22 2 (v := .int (nI (srN τ))) (by decide) rfl fl_E_151 d_E_step_112 rfl ?_
              refine a_aload_n (pc' := 116) hc d_E_step_115 rfl rfl rfl ?_
              refine c_getE (pc' := 119) hc hK hx 4 (v := .int (τ 0 6)) (by decide) (rfl) fl_E_51 d_E_step_116 rfl ?_
              refine AW.topi (y := nI (cpN τ)) (nat_eq h0) ?_
              refine c_call (pc' := 122) hc hK hO hA (bx 0) [.int (nI (srN τ)), .int (nI (cpN τ))] [.int (nI (cpN τ)), .int (nI (gN τ 15 62)), .ref (bx 0)] (ct_E_cellAt hx hh (τ := τ) (κ := κ) (tk := tk) (h := h) (q := srN τ) (c := cpN τ) hq7 hq8 hq9 (by omega)) ml_E_161 hd_E_cellAt ⟨by decide, by decide⟩ rfl rfl (Nat.le_of_ble_eq_true rfl) (cw_at hx.1 (by omega)) rfl rfl d_E_step_119 rfl ⟨by first | decide | (show _ ≤ _; simp only [ra]; omega), by first | decide | (show _ ≤ _; simp only [ra]; omega)⟩ ?_
              refine AW.to (st' := [.int (τ 2 (caN (srN τ) (cpN τ))), .int (nI (cpN τ)), .int (nI (gN τ 15 62)), .ref (bx 0)]) rfl rfl rfl ?_
              refine c_call (pc' := 125) hc hK hO hA (bx 0) [.int (nI (gN τ 15 62)), .int (nI (cpN τ)), .int (τ 2 (caN (srN τ) (cpN τ)))] [] (ct_E_putCell hx hh (τ := τ) (κ := κ) (tk := tk) (h := h) (q := gN τ 15 62) (c := cpN τ) (v := τ 2 (caN (srN τ) (cpN τ))) hm.2.1 hq3 hq4 hq10 (by omega)) ml_E_164 hd_E_putCell ⟨by decide, by decide⟩ rfl rfl (Nat.le_of_ble_eq_true rfl) (cw_at hx.1 (by omega)) rfl rfl d_E_step_122 rfl ⟨by first | decide | (show _ ≤ _; simp only [ra]; omega), by first | decide | (show _ ≤ _; simp only [ra]; omega)⟩ ?_
              refine AW.to (st' := [.int (bI (!stB τ))]) rfl rfl rfl ?_
              refine a_ifb_ne (pc' := 128) (tgt := 131) hc d_E_step_125 rfl rfl (fun h125 => ?_) (fun h125 => ?_)
              · skip
                have s125 : stB τ = false := by simpa using h125
                refine a_aload_n (pc' := 132) hc d_E_step_131 rfl rfl rfl ?_
                refine a_dup (pc' := 133) hc d_E_step_132 rfl rfl ?_
                refine c_getE (pc' := 136) hc hK hx 4 (v := .int ((pcT τ (gN τ 15 62) (cpN τ) (τ 2 (caN (srN τ) (cpN τ)))) 0 6)) (by decide) (rfl) fl_E_51 d_E_step_133 rfl ?_
                refine AW.topi (y := nI (cpN τ)) (by rw [pcT, if_neg (by rw [s125]; decide), ts_ne (by decide), stT_06]; exact nat_eq h0) ?_
                refine a_iconst (pc' := 137) (v := nI 1) hc d_E_step_136 rfl (by decide) ?_
                refine a_nadd (pc' := 138) hc d_E_step_137 rfl ?_
                refine c_putE (pc' := 141) hc hK hx (τ' := ts (pcT τ (gN τ 15 62) (cpN τ) (τ 2 (caN (srN τ) (cpN τ)))) 0 6 (nI (cpN τ + 1))) (κ' := κ) 4 (by decide) (e_06) (row0) (fun _ => rfl) rfl (rfl) (rfl) fl_E_51 d_E_step_138 rfl ?_
                refine a_iconst (pc' := 142) (v := nI 4) hc d_E_step_141 rfl (by decide) ?_
                refine a_aload_n (pc' := 143) hc d_E_step_142 rfl rfl rfl ?_
                refine c_getE (pc' := 146) hc hK hx 4 (v := .int ((ts (pcT τ (gN τ 15 62) (cpN τ) (τ 2 (caN (srN τ) (cpN τ)))) 0 6 (nI (cpN τ + 1))) 0 6)) (by decide) (rfl) fl_E_51 d_E_step_143 rfl ?_
                refine AW.topi (y := nI (cpN τ + 1)) ts_at ?_
                refine a_nsub (pc' := 147) hc d_E_step_146 rfl (by omega) ?_
                refine AW.widen (k' := 5) (n' := 25) (by omega) (by omega) ?_
                exact a_iret hc hr hk d_E_step_147 (⟨κ, tk, h, by simp [spP, h4, m60, h32, h49, h63, n74, s125], (sp_w s125).trans (by simp [spP, h4, m60, h32, h49, h63, n74, s125]), Or.inl ⟨by simp [n74], rfl, Ext.rf, hh⟩⟩)
              · skip
                have s125 : stB τ = true := by simpa using h125
                refine a_bipush (pc' := 130) (v := -7) hc d_E_step_128 rfl (by decide) ?_
                refine AW.widen (k' := 5) (n' := 25) (by omega) (by omega) ?_
                exact a_iret hc hr hk d_E_step_130 (⟨κ, tk, h, by simp [spP, h4, m60, h32, h49, h63, n74, s125], by simp [spP, h4, m60, h32, h49, h63, n74, s125, pcT], Or.inl ⟨by simp [n74], rfl, Ext.rf, hh⟩⟩)
            · skip
              have n74 : 4 ≤ cpN τ := by omega
              refine a_aload_n (pc' := 78) hc d_E_step_77 rfl rfl rfl ?_
              refine a_aload_n (pc' := 79) hc d_E_step_78 rfl rfl rfl ?_
              refine c_getE (pc' := 82) hc hK hx 3 (v := .ref pa) (by decide) (by show some (va_rf (κ 0)) = _; rw [hP.1]; rfl) fl_E_47 d_E_step_79 rfl ?_
              refine c_getH (pc' := 85) hc hK in_C rfl hh hP.2.1 2 (v := .ref q) (by decide) rfl fl_E_75 d_E_step_82 rfl ?_
              refine a_cV (pc' := 88) hc hK hO hA (As := []) (rest := [.ref (bx 0)]) (ct_L_withMoveDone hx hh (τ := τ) (κ := κ) (tk := tk) (h := h) (pa := pa) (q := q) (va := va) (mv := mv) (g := g) hP hw p60) ml_E_157 hd_L_withMoveDone rfl rfl ⟨by decide, by decide⟩ (cw_h hh hP.2.2.1) rfl rfl rfl rfl (Nat.le_of_ble_eq_true rfl) d_E_step_85 rfl ⟨by decide, by decide⟩ (fun v85 f85 hq85 => ?_)
              obtain ⟨r85, va85, a85, p85, h85, g85, P85, rfl, ⟨rfl, x85, hh85⟩, hr85, hva85, hg85, ha85, hp85, pj85, hP85⟩ := hq85
              have ly85 := ly_done hw.1 pj85 hq1 hq2 hP.2.2 x85 hr85 hva85 hg85 ha85 hp85 hP85
              refine AW.to (st' := [.ref r85, .ref (bx 0)]) rfl rfl rfl ?_
              refine AW.to (f' := cw bx rl ca n E (sp2 τ) κ tk h85) (cw_sr sp2_same) rfl rfl ?_
              have cm88 := hm.same (σ := sp2 τ) sp2_same x85
              refine a_cV (pc' := 91) hc hK hO hA (As := [.ref r85]) (rest := []) (ct_E_commit hx hh85 (τ := sp2 τ) (κ := κ) (tk := tk) (h := h85) (pa := pa) (q := q) (ly := r85) ⟨hP.1, x85 _ _ hP.2.1⟩ cm88.1 cm88.2.1 cm88.2.2.1 cm88.2.2.2.1 cm88.2.2.2.2.1 cm88.2.2.2.2.2.1 cm88.2.2.2.2.2.2) ml_E_94 hd_E_commit rfl rfl ⟨by decide, by decide⟩ (cw_at hx.1 (by omega)) rfl rfl rfl rfl (Nat.le_of_ble_eq_true rfl) d_E_step_88 rfl ⟨by decide, by decide⟩ (fun v88 f88 hq88 => ?_)
              obtain ⟨r88, nr88, hh88, rfl, rfl⟩ := hq88
              refine AW.to (st' := [.int (bI (cmB (sp2 τ) n))]) rfl rfl rfl ?_
              refine a_ifb_eq (pc' := 94) (tgt := 98) hc d_E_step_91 rfl rfl (fun h91 => ?_) (fun h91 => ?_)
              · skip
                refine a_bipush (pc' := 100) (v := -7) hc d_E_step_98 rfl (by decide) ?_
                refine AW.widen (k' := 5) (n' := 25) (by omega) (by omega) ?_
                exact a_iret hc hr hk d_E_step_100 (⟨cmF (sp2 τ) κ n r88, tk, va_up h85 r88 (some (.inr (0, [.int ((sp2 τ) 0 2 + nI 1), .int ((sp2 τ) 0 4 + nI 1), .ref r85]))), by simp [spP, h4, m60, h32, h49, h63, n74, h91], by simp [spP, h4, m60, h32, h49, h63, n74, h91], Or.inr ⟨by simp [h4, m60, h32, h49, h63, n74], ⟨_, _, _, _, _, r88, x85, hh85, ly85, nr88, hh88, rfl, rfl⟩⟩⟩)
              · skip
                refine a_iconst (pc' := 95) (v := nI 4) hc d_E_step_94 rfl (by decide) ?_
                refine a_goto (tgt := 100) hc d_E_step_95 rfl ?_
                refine AW.widen (k' := 5) (n' := 25) (by omega) (by omega) ?_
                exact a_iret hc hr hk d_E_step_100 (⟨cmF (sp2 τ) κ n r88, tk, va_up h85 r88 (some (.inr (0, [.int ((sp2 τ) 0 2 + nI 1), .int ((sp2 τ) 0 4 + nI 1), .ref r85]))), by simp [spP, h4, m60, h32, h49, h63, n74, h91], by simp [spP, h4, m60, h32, h49, h63, n74, h91], Or.inr ⟨by simp [h4, m60, h32, h49, h63, n74], ⟨_, _, _, _, _, r88, x85, hh85, ly85, nr88, hh88, rfl, rfl⟩⟩⟩)
          · skip
            refine a_bipush (pc' := 68) (v := -6) hc d_E_step_66 rfl (by decide) ?_
            refine AW.widen (k' := 5) (n' := 25) (by omega) (by omega) ?_
            exact a_iret hc hr hk d_E_step_68 (⟨κ, tk, h, by simp [spP, h4, h32, h49, h63, m60], by simp [spP, h4, h32, h49, h63, m60], Or.inl ⟨by simp [h4, h32, h49, h63, m60], rfl, Ext.rf, hh⟩⟩)
      · skip
        refine a_bipush (pc' := 37) (v := -3) hc d_E_step_35 rfl (by decide) ?_
        refine AW.widen (k' := 5) (n' := 25) (by omega) (by omega) ?_
        exact a_iret hc hr hk d_E_step_37 (⟨κ, tk, h, by simp [spP, h4, m60, h32], by simp [spP, h4, m60, h32], Or.inl ⟨by simp [h4, m60, h32], rfl, Ext.rf, hh⟩⟩)
    · skip
      try rw [h22]
      have m60 := Int32.not_le.mpr (mv_noneq hP.2.2.2.2.2 h22)
      refine a_bipush (pc' := 27) (v := -8) hc d_E_step_25 rfl (by decide) ?_
      refine AW.widen (k' := 5) (n' := 25) (by omega) (by omega) ?_
      exact a_iret hc hr hk d_E_step_27 (⟨κ, tk, h, by simp [spP, h4, m60], by simp [spP, h4, m60], Or.inl ⟨by simp [h4, m60], rfl, Ext.rf, hh⟩⟩)
  · skip
    refine a_bipush (pc' := 9) (v := -2) hc d_E_step_7 rfl (by decide) ?_
    refine AW.widen (k' := 5) (n' := 25) (by omega) (by omega) ?_
    exact a_iret hc hr hk d_E_step_9 (⟨κ, tk, h, by simp [spP, h4], by simp [spP, h4], Or.inl ⟨by simp [h4], rfl, Ext.rf, hh⟩⟩)
