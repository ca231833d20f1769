variable {l : Launch} {D : va_G} {tys : List (ClassId × FieldType)} {A : Nat → Prop} {bx rl : Nat → Nat} {ca : Nat → ClassId} {n E : Nat} {τ : TS} {κ : Nat → Option Nat} {tk : Nat → Int32} {h : Nat → Option va_E}
theorem ct_E_reduce (hx : CX bx rl ca tys n E) (hh : HD bx n h) {pa q va : Nat} {mv : Option Nat} {g : Nat → Option Nat} (hP : PrOk h ca τ κ pa q va mv g) (hw : WFx n E τ 15) (hm : CmOk n τ κ h) {v r : Int32} : CT l y_E_reduce (Cond.code y_E_reduce c_E_reduce 6 (some .int) :: WS) (ra 6 5 25) D vcl tys A (cw bx rl ca n E τ κ tk h) [.ref (bx 0), .int v, .int r] (fun v' f' => ∃ (κ' : Nat → Option Nat) (tk' : Nat → Int32) (h' : Nat → Option va_E), v' = some (.int (reP τ n v r).1) ∧ f' = cw bx rl ca n E (reP τ n v r).2 κ' tk' h' ∧ PubRes bx ca n (re1 τ v.toNatClampNeg r) κ h (tb (τ 0 5) && (volB τ v && (!decide (r < nI 1) && decide (r ≤ gt τ 15 (15 * v.toNatClampNeg + 2)))) && (!fewB τ n && !mvB τ v)) κ' h') 5 25 := by
  obtain ⟨hn2, hn5⟩ := hx.2.2.1
  obtain ⟨hE2, hE10⟩ := hx.2.2.2
  refine CT.of (own := R_E) rfl (by decide) (Nat.le_of_ble_eq_true rfl) (cat_all rfl) ?_
  intro pp ee ss mm aa bb me cd hc hK hO hr hk hA
  refine AW.to (lv' := [some (.ref (bx 0)), some (.int v), some (.int r), none, none, none]) rfl rfl rfl ?_
  refine a_aload_n (pc' := 1) hc d_E_reduce_0 rfl rfl rfl ?_
  refine c_getE (pc' := 4) hc hK hx 6 (v := .int (bI (tb (τ 0 5)))) (by decide) (rfl) fl_E_60 d_E_reduce_1 rfl ?_
  refine a_ifb_ne (pc' := 7) (tgt := 10) hc d_E_reduce_4 rfl rfl (fun h4 => ?_) (fun h4 => ?_)
  · skip
    refine a_aload_n (pc' := 11) hc d_E_reduce_10 rfl rfl rfl ?_
    refine c_getE (pc' := 14) hc hK hx 3 (v := .ref pa) (by decide) (by show some (va_rf (κ 0)) = _; rw [hP.1]; rfl) fl_E_47 d_E_reduce_11 rfl ?_
    refine c_getH (pc' := 17) hc hK in_C rfl hh hP.2.1 2 (v := .ref q) (by decide) rfl fl_E_75 d_E_reduce_14 rfl ?_
    refine a_iload_n (pc' := 18) hc d_E_reduce_17 rfl rfl rfl ?_
    refine c_call (pc' := 21) hc hK hO hA (q) [.int v] [] (ct_L_volumeAt hx hh (τ := τ) (κ := κ) (tk := tk) (h := h) (a := q) (va := va) (mv := mv) (g := g) (v := v) hP.2.2.1 hP.2.2.2.1) ml_E_98 hd_L_volumeAt ⟨by decide, by decide⟩ rfl rfl (Nat.le_of_ble_eq_true rfl) (cw_h hh hP.2.2.1) rfl rfl d_E_reduce_18 rfl ⟨by first | decide | (show _ ≤ _; simp only [ra]; omega), by first | decide | (show _ ≤ _; simp only [ra]; omega)⟩ ?_
    refine AW.to (st' := [va_rf (vaQ g v)]) rfl rfl rfl ?_
    refine a_astore_nq (pc' := 22) hc d_E_reduce_21 rfl rfl (by decide) ?_
    refine a_aload_nq (pc' := 23) hc d_E_reduce_22 rfl rfl rfl ?_
    refine a_ifnull (pc' := 26) (tgt := 39) hc d_E_reduce_23 rfl rfl (fun h23 => ?_) (fun a23 h23 => ?_)
    · skip
      try rw [h23]
      have b23 := va_none hP.2.2.2.2.1 h23
      refine a_iconst (pc' := 40) (v := -1) hc d_E_reduce_39 rfl (by decide) ?_
      refine AW.widen (k' := 5) (n' := 25) (by omega) (by omega) ?_
      exact a_iret hc hr hk d_E_reduce_40 (⟨κ, tk, h, by simp [reP, h4, b23], by simp [reP, h4, b23], Or.inl ⟨by simp [h4, b23], rfl, Ext.rf, hh⟩⟩)
    · skip
      try rw [h23]
      obtain ⟨j, pl, P, hj, ej, cj, b23, pj, hU, hpl, hPk⟩ := va_some hP.2.2.2.2.1 h23
      subst ej
      have hx16 := hw.1.ex hj
      refine a_iload_n (pc' := 27) hc d_E_reduce_26 rfl rfl rfl ?_
      refine a_iconst (pc' := 28) (v := nI 1) hc d_E_reduce_27 rfl (by decide) ?_
      refine a_icmp_lt (pc' := 31) (tgt := 39) hc d_E_reduce_28 rfl rfl (fun h28 => ?_) (fun h28 => ?_)
      · skip
        refine a_iconst (pc' := 40) (v := -1) hc d_E_reduce_39 rfl (by decide) ?_
        refine AW.widen (k' := 5) (n' := 25) (by omega) (by omega) ?_
        exact a_iret hc hr hk d_E_reduce_40 (⟨κ, tk, h, by simp [reP, h4, b23, cj, h28], by simp [reP, h4, b23, cj, h28], Or.inl ⟨by simp [h4, b23, cj, h28], rfl, Ext.rf, hh⟩⟩)
      · skip
        refine a_iload_n (pc' := 32) hc d_E_reduce_31 rfl rfl rfl ?_
        refine a_aload_n (pc' := 33) hc d_E_reduce_32 rfl rfl rfl ?_
        refine c_getH (pc' := 36) hc hK in_U rfl hh hU 2 (v := .int (nI (gN τ 15 (15 * j + 2)))) (by decide) rfl fl_E_105 d_E_reduce_33 rfl ?_
        refine a_icmp_le (pc' := 39) (tgt := 41) hc d_E_reduce_36 rfl rfl (fun h36 => ?_) (fun h36 => ?_)
        · skip
          have hl36 := gN_lt τ 15 (15 * j + 2)
          obtain ⟨r', hr1, hr2, er, cr⟩ := rg_of (gN_lt _ _ _) h28 h36
          have g36 : r ≤ gt τ 15 (15 * j + 2) := by rw [hw.1.n (by omega) (by omega)]; exact h36
          subst er
          refine a_aload_n (pc' := 42) hc d_E_reduce_41 rfl rfl rfl ?_
          refine c_call (pc' := 45) hc hK hO hA (bx 0) [] [] (ct_E_isFew hx hh (τ := τ) (κ := κ) (tk := tk) (h := h)) ml_E_71 hd_E_isFew ⟨by decide, by decide⟩ rfl rfl (Nat.le_of_ble_eq_true rfl) (cw_at hx.1 (by omega)) rfl rfl d_E_reduce_42 rfl ⟨by first | decide | (show _ ≤ _; simp only [ra]; omega), by first | decide | (show _ ≤ _; simp only [ra]; omega)⟩ ?_
          refine AW.to (st' := [.int (bI (fewB τ n))]) rfl rfl rfl ?_
          refine a_ifb_eq (pc' := 48) (tgt := 51) hc d_E_reduce_45 rfl rfl (fun h45 => ?_) (fun h45 => ?_)
          · skip
            refine a_aload_n (pc' := 52) hc d_E_reduce_51 rfl rfl rfl ?_
            refine a_iload_n (pc' := 53) hc d_E_reduce_52 rfl rfl rfl ?_
            refine c_call (pc' := 56) hc hK hO hA (bx 0) [.int (nI j)] [] (ct_E_isMoving hx hh (τ := τ) (κ := κ) (tk := tk) (h := h) (pa := pa) (q := q) (va := va) (mv := mv) (g := g) (v := nI j) hP) ml_E_108 hd_E_isMoving ⟨by decide, by decide⟩ rfl rfl (Nat.le_of_ble_eq_true rfl) (cw_at hx.1 (by omega)) rfl rfl d_E_reduce_53 rfl ⟨by first | decide | (show _ ≤ _; simp only [ra]; omega), by first | decide | (show _ ≤ _; simp only [ra]; omega)⟩ ?_
            refine AW.to (st' := [.int (bI (mgB τ (nI j)))]) rfl rfl rfl ?_
            refine a_ifb_eq (pc' := 59) (tgt := 62) hc d_E_reduce_56 rfl rfl (fun h56 => ?_) (fun h56 => ?_)
            · skip
              have e56 : mvB τ (nI j) = false := by rw [← mg_mv (by omega)]; exact h56
              refine a_aload_n (pc' := 63) hc d_E_reduce_62 rfl rfl rfl ?_
              refine c_getH (pc' := 66) hc hK in_U rfl hh hU 2 (v := .int (nI (gN τ 15 (15 * j + 2)))) (by decide) rfl fl_E_105 d_E_reduce_63 rfl ?_
              refine a_iload_n (pc' := 67) hc d_E_reduce_66 rfl rfl rfl ?_
              refine a_nsub (pc' := 68) hc d_E_reduce_67 rfl (hr2) ?_
              refine a_istore (pc' := 70) hc d_E_reduce_68 rfl (by decide) ?_
              refine a_iload (pc' := 72) hc d_E_reduce_70 rfl rfl ?_
              refine a_ifn_ne (pc' := 75) (tgt := 79) hc d_E_reduce_72 rfl rfl (by omega) (fun h72 => ?_) (fun h72 => ?_)
              · skip
                have hle72 : gN τ 15 (15 * j) * (gN τ 15 (15 * j + 2) - r') ≤ 12 := Nat.le_trans (Nat.mul_le_mul_left _ (by omega)) hx16
                refine a_aload_n (pc' := 80) hc d_E_reduce_79 rfl rfl rfl ?_
                refine a_iload (pc' := 82) hc d_E_reduce_80 rfl rfl ?_
                refine a_cV (pc' := 85) hc hK hO hA (As := [.int (nI (gN τ 15 (15 * j + 2) - r'))]) (rest := []) (ct_U_withRows hx hh (τ := τ) (κ := κ) (tk := tk) (h := h) (a := a23) (pl := pl) (pn := exN τ 15 j) (w := gN τ 15 (15 * j)) (s := gN τ 15 (15 * j + 1)) (rc := gN τ 15 (15 * j + 2)) (c := gN τ 15 (15 * j + 2) - r') (P := P) hU hpl hx16 hle72) ml_E_112 hd_U_withRows rfl rfl ⟨by decide, by decide⟩ (cw_h hh hU) rfl rfl rfl rfl (Nat.le_of_ble_eq_true rfl) d_E_reduce_82 rfl ⟨by decide, by decide⟩ (fun v82 f82 hq82 => ?_)
                obtain ⟨r82, p82, h82, P82, rfl, ⟨rfl, x82, hh82⟩, hr82, hp82, np82, nr82, hP82⟩ := hq82
                have hh0 := hh
                have hP0 := hP
                have hh := hh82
                have hP := hP.ext x82
                refine AW.to (st' := [.ref r82]) rfl rfl rfl ?_
                refine a_astore (pc' := 87) hc d_E_reduce_85 rfl (by decide) ?_
                refine a_aload_n (pc' := 88) hc d_E_reduce_87 rfl rfl rfl ?_
                refine a_aload_n (pc' := 89) hc d_E_reduce_88 rfl rfl rfl ?_
                refine c_getE (pc' := 92) hc hK hx 3 (v := .ref pa) (by decide) (by show some (va_rf (κ 0)) = _; rw [hP.1]; rfl) fl_E_47 d_E_reduce_89 rfl ?_
                refine c_getH (pc' := 95) hc hK in_C rfl hh hP.2.1 2 (v := .ref q) (by decide) rfl fl_E_75 d_E_reduce_92 rfl ?_
                refine a_iload_n (pc' := 96) hc d_E_reduce_95 rfl rfl rfl ?_
                refine a_aload (pc' := 98) hc d_E_reduce_96 rfl rfl ?_
                have hP := hP0
                refine a_cV (pc' := 101) hc hK hO hA (As := [.int (nI j), va_rf (some r82)]) (rest := [.ref (bx 0)]) (ct_L_withVolume hx hh82 (τ := τ) (κ := κ) (tk := tk) (h := h82) (a := q) (va := va) (mv := mv) (g := g) (v := nI j) (o := (some r82)) (x82 _ _ hP.2.2.1) (x82 _ _ hP.2.2.2.1) (fun b hb => by cases hb; exact ⟨_, hr82⟩) (hP.2.2.vols.ext x82)) ml_E_90 hd_L_withVolume rfl rfl ⟨by decide, by decide⟩ (cw_h hh82 (x82 _ _ hP.2.2.1)) rfl rfl rfl rfl (Nat.le_of_ble_eq_true rfl) d_E_reduce_98 rfl ⟨by decide, by decide⟩ (fun v98 f98 hq98 => ?_)
                obtain ⟨r98, va98, h98, g98, rfl, ⟨rfl, x98', hh98⟩, hr98, hva98, hg98⟩ := hq98
                have x98 := x82.tr x98'
                have ly98 := ly_vol (σ := re1 τ j (nI r')) hw.1 hj hP.2.2 x98 hr98 hva98 hg98 (fun i hi hne => re1_off hi (by omega)) (re_some (P := P) hw.1 hj h72 hr2 (x98' _ _ hr82) (x98' _ _ hp82) hPk hP82) (mv_ne hw hj e56)
                refine AW.to (st' := [.ref r98, .ref (bx 0)]) rfl rfl rfl ?_
                refine AW.to (f' := cw bx rl ca n E (re1 τ j (nI r')) κ tk h98) (cw_sr re1_same) rfl rfl ?_
                have cm101 := hm.same (σ := re1 τ j (nI r')) re1_same x98
                refine a_cV (pc' := 104) hc hK hO hA (As := [.ref r98]) (rest := []) (ct_E_commit hx hh98 (τ := re1 τ j (nI r')) (κ := κ) (tk := tk) (h := h98) (pa := pa) (q := q) (ly := r98) ⟨hP.1, x98 _ _ hP.2.1⟩ cm101.1 cm101.2.1 cm101.2.2.1 cm101.2.2.2.1 cm101.2.2.2.2.1 cm101.2.2.2.2.2.1 cm101.2.2.2.2.2.2) ml_E_94 hd_E_commit rfl rfl ⟨by decide, by decide⟩ (cw_at hx.1 (by omega)) rfl rfl rfl rfl (Nat.le_of_ble_eq_true rfl) d_E_reduce_101 rfl ⟨by decide, by decide⟩ (fun v101 f101 hq101 => ?_)
                obtain ⟨r101, nr101, hh101, rfl, rfl⟩ := hq101
                refine AW.to (st' := [.int (bI (cmB (re1 τ j (nI r')) n))]) rfl rfl rfl ?_
                refine a_ifb_eq (pc' := 107) (tgt := 112) hc d_E_reduce_104 rfl rfl (fun h104 => ?_) (fun h104 => ?_)
                · skip
                  refine a_bipush (pc' := 114) (v := -7) hc d_E_reduce_112 rfl (by decide) ?_
                  refine AW.widen (k' := 5) (n' := 25) (by omega) (by omega) ?_
                  exact a_iret hc hr hk d_E_reduce_114 (⟨cmF (re1 τ j (nI r')) κ n r101, tk, va_up h98 r101 (some (.inr (0, [.int ((re1 τ j (nI r')) 0 2 + nI 1), .int ((re1 τ j (nI r')) 0 4 + nI 1), .ref r98]))), by first | (simp [reP, h4, b23, cj, cr, h28, g36, h45, e56, h104]; done) | (simp [reP, h4, b23, cj, cr, h28, g36, h45, e56, h104, re_ans hn5 hw.1 hj hr2 h104]; done), by simp [reP, h4, b23, cj, cr, h28, g36, h45, e56, h104], Or.inr ⟨by simp [h4, b23, cj, h28, g36, h45, e56], by rw [cj]; exact ⟨_, _, _, _, _, r101, x98, hh98, ly98, nr101, hh101, rfl, rfl⟩⟩⟩)
                · skip
                  refine a_iload (pc' := 109) hc d_E_reduce_107 rfl rfl ?_
                  refine a_goto (tgt := 114) hc d_E_reduce_109 rfl ?_
                  refine AW.widen (k' := 5) (n' := 25) (by omega) (by omega) ?_
                  exact a_iret hc hr hk d_E_reduce_114 (⟨cmF (re1 τ j (nI r')) κ n r101, tk, va_up h98 r101 (some (.inr (0, [.int ((re1 τ j (nI r')) 0 2 + nI 1), .int ((re1 τ j (nI r')) 0 4 + nI 1), .ref r98]))), by first | (simp [reP, h4, b23, cj, cr, h28, g36, h45, e56, h104]; done) | (simp [reP, h4, b23, cj, cr, h28, g36, h45, e56, h104, re_ans hn5 hw.1 hj hr2 h104]; done), by simp [reP, h4, b23, cj, cr, h28, g36, h45, e56, h104], Or.inr ⟨by simp [h4, b23, cj, h28, g36, h45, e56], by rw [cj]; exact ⟨_, _, _, _, _, r101, x98, hh98, ly98, nr101, hh101, rfl, rfl⟩⟩⟩)
              · skip
                refine a_null (pc' := 76) hc d_E_reduce_75 rfl ?_
                refine a_goto (tgt := 85) hc d_E_reduce_76 rfl ?_
                refine a_astoreN (pc' := 87) hc d_E_reduce_85 rfl (by decide) ?_
                refine a_aload_n (pc' := 88) hc d_E_reduce_87 rfl rfl rfl ?_
                refine a_aload_n (pc' := 89) hc d_E_reduce_88 rfl rfl rfl ?_
                refine c_getE (pc' := 92) hc hK hx 3 (v := .ref pa) (by decide) (by show some (va_rf (κ 0)) = _; rw [hP.1]; rfl) fl_E_47 d_E_reduce_89 rfl ?_
                refine c_getH (pc' := 95) hc hK in_C rfl hh hP.2.1 2 (v := .ref q) (by decide) rfl fl_E_75 d_E_reduce_92 rfl ?_
                refine a_iload_n (pc' := 96) hc d_E_reduce_95 rfl rfl rfl ?_
                refine a_aloadN (pc' := 98) hc d_E_reduce_96 rfl rfl ?_
                skip
                refine a_cV (pc' := 101) hc hK hO hA (As := [.int (nI j), va_rf none]) (rest := [.ref (bx 0)]) (ct_L_withVolume hx hh (τ := τ) (κ := κ) (tk := tk) (h := h) (a := q) (va := va) (mv := mv) (g := g) (v := nI j) (o := none) (Ext.rf _ _ hP.2.2.1) (Ext.rf _ _ hP.2.2.2.1) (fun b hb => by cases hb) (hP.2.2.vols.ext Ext.rf)) ml_E_90 hd_L_withVolume rfl rfl ⟨by decide, by decide⟩ (cw_h hh (Ext.rf _ _ hP.2.2.1)) rfl rfl rfl rfl (Nat.le_of_ble_eq_true rfl) d_E_reduce_98 rfl ⟨by decide, by decide⟩ (fun v98 f98 hq98 => ?_)
                obtain ⟨r98, va98, h98, g98, rfl, ⟨rfl, x98', hh98⟩, hr98, hva98, hg98⟩ := hq98
                have x98 := Ext.rf.tr x98'
                have ly98 := ly_vol (σ := re1 τ j (nI r')) hw.1 hj hP.2.2 x98 hr98 hva98 hg98 (fun i hi hne => re1_off hi (by omega)) (re_none hw.1 hj h72 hr2) (mv_ne hw hj e56)
                refine AW.to (st' := [.ref r98, .ref (bx 0)]) rfl rfl rfl ?_
                refine AW.to (f' := cw bx rl ca n E (re1 τ j (nI r')) κ tk h98) (cw_sr re1_same) rfl rfl ?_
                have cm101 := hm.same (σ := re1 τ j (nI r')) re1_same x98
                refine a_cV (pc' := 104) hc hK hO hA (As := [.ref r98]) (rest := []) (ct_E_commit hx hh98 (τ := re1 τ j (nI r')) (κ := κ) (tk := tk) (h := h98) (pa := pa) (q := q) (ly := r98) ⟨hP.1, x98 _ _ hP.2.1⟩ cm101.1 cm101.2.1 cm101.2.2.1 cm101.2.2.2.1 cm101.2.2.2.2.1 cm101.2.2.2.2.2.1 cm101.2.2.2.2.2.2) ml_E_94 hd_E_commit rfl rfl ⟨by decide, by decide⟩ (cw_at hx.1 (by omega)) rfl rfl rfl rfl (Nat.le_of_ble_eq_true rfl) d_E_reduce_101 rfl ⟨by decide, by decide⟩ (fun v101 f101 hq101 => ?_)
                obtain ⟨r101, nr101, hh101, rfl, rfl⟩ := hq101
                refine AW.to (st' := [.int (bI (cmB (re1 τ j (nI r')) n))]) rfl rfl rfl ?_
                refine a_ifb_eq (pc' := 107) (tgt := 112) hc d_E_reduce_104 rfl rfl (fun h104 => ?_) (fun h104 => ?_)
                · skip
                  refine a_bipush (pc' := 114) (v := -7) hc d_E_reduce_112 rfl (by decide) ?_
                  refine AW.widen (k' := 5) (n' := 25) (by omega) (by omega) ?_
                  exact a_iret hc hr hk d_E_reduce_114 (⟨cmF (re1 τ j (nI r')) κ n r101, tk, va_up h98 r101 (some (.inr (0, [.int ((re1 τ j (nI r')) 0 2 + nI 1), .int ((re1 τ j (nI r')) 0 4 + nI 1), .ref r98]))), by first | (simp [reP, h4, b23, cj, cr, h28, g36, h45, e56, h104]; done) | (simp [reP, h4, b23, cj, cr, h28, g36, h45, e56, h104, re_ans hn5 hw.1 hj hr2 h104]; done), by simp [reP, h4, b23, cj, cr, h28, g36, h45, e56, h104], Or.inr ⟨by simp [h4, b23, cj, h28, g36, h45, e56], by rw [cj]; exact ⟨_, _, _, _, _, r101, x98, hh98, ly98, nr101, hh101, rfl, rfl⟩⟩⟩)
                · skip
                  refine a_iload (pc' := 109) hc d_E_reduce_107 rfl rfl ?_
                  refine a_goto (tgt := 114) hc d_E_reduce_109 rfl ?_
                  refine AW.widen (k' := 5) (n' := 25) (by omega) (by omega) ?_
                  exact a_iret hc hr hk d_E_reduce_114 (⟨cmF (re1 τ j (nI r')) κ n r101, tk, va_up h98 r101 (some (.inr (0, [.int ((re1 τ j (nI r')) 0 2 + nI 1), .int ((re1 τ j (nI r')) 0 4 + nI 1), .ref r98]))), by first | (simp [reP, h4, b23, cj, cr, h28, g36, h45, e56, h104]; done) | (simp [reP, h4, b23, cj, cr, h28, g36, h45, e56, h104, re_ans hn5 hw.1 hj hr2 h104]; done), by simp [reP, h4, b23, cj, cr, h28, g36, h45, e56, h104], Or.inr ⟨by simp [h4, b23, cj, h28, g36, h45, e56], by rw [cj]; exact ⟨_, _, _, _, _, r101, x98, hh98, ly98, nr101, hh101, rfl, rfl⟩⟩⟩)
            · skip
              have e56 : mvB τ (nI j) = true := by rw [← mg_mv (by omega)]; exact h56
              refine a_bipush (pc' := 61) (v := -4) hc d_E_reduce_59 rfl (by decide) ?_
              refine AW.widen (k' := 5) (n' := 25) (by omega) (by omega) ?_
              exact a_iret hc hr hk d_E_reduce_61 (⟨κ, tk, h, by simp [reP, h4, b23, cj, h28, g36, h45, e56], by simp [reP, h4, b23, cj, h28, g36, h45, e56], Or.inl ⟨by simp [h4, b23, cj, h28, g36, h45, e56], rfl, Ext.rf, hh⟩⟩)
          · skip
            refine a_bipush (pc' := 50) (v := -3) hc d_E_reduce_48 rfl (by decide) ?_
            refine AW.widen (k' := 5) (n' := 25) (by omega) (by omega) ?_
            exact a_iret hc hr hk d_E_reduce_50 (⟨κ, tk, h, by simp [reP, h4, b23, cj, h28, g36, h45], by simp [reP, h4, b23, cj, h28, g36, h45], Or.inl ⟨by simp [h4, b23, cj, h28, g36, h45], rfl, Ext.rf, hh⟩⟩)
        · skip
          have g36 : ¬ r ≤ gt τ 15 (15 * j + 2) := by rw [hw.1.n (by omega) (by omega)]; exact h36
          refine a_iconst (pc' := 40) (v := -1) hc d_E_reduce_39 rfl (by decide) ?_
          refine AW.widen (k' := 5) (n' := 25) (by omega) (by omega) ?_
          exact a_iret hc hr hk d_E_reduce_40 (⟨κ, tk, h, by simp [reP, h4, b23, cj, h28, g36], by simp [reP, h4, b23, cj, h28, g36], Or.inl ⟨by simp [h4, b23, cj, h28, g36], rfl, Ext.rf, hh⟩⟩)
  · skip
    refine a_bipush (pc' := 9) (v := -2) hc d_E_reduce_7 rfl (by decide) ?_
    refine AW.widen (k' := 5) (n' := 25) (by omega) (by omega) ?_
    exact a_iret hc hr hk d_E_reduce_9 (⟨κ, tk, h, by simp [reP, h4], by simp [reP, h4], Or.inl ⟨by simp [h4], rfl, Ext.rf, hh⟩⟩)
