variable {l : Launch} {D : va_G} {tys : List (ClassId × FieldType)} {A : Nat → Prop} {bx rl : Nat → Nat} {ca : Nat → ClassId} {n E : Nat} {τ : TS} {κ : Nat → Option Nat} {tk : Nat → Int32} {h : Nat → Option va_E}
theorem ct_E_move (hx : CX bx rl ca tys n E) (hh : HD bx n h) {pa q va : Nat} {mv : Option Nat} {g : Nat → Option Nat} (hP : PrOk h ca τ κ pa q va mv g) (hw : WFx n E τ 15) (hm : CmOk n τ κ h) {v k d : Int32} : CT l y_E_move (Cond.code y_E_move c_E_move 7 (some .int) :: WS) (ra 6 3 9) D vcl tys A (cw bx rl ca n E τ κ tk h) [.ref (bx 0), .int v, .int k, .int d] (fun v' f' => ∃ (κ' : Nat → Option Nat) (tk' : Nat → Int32) (h' : Nat → Option va_E), v' = some (.int (moP τ n E v k d).1) ∧ f' = cw bx rl ca n E (moP τ n E v k d).2 κ' tk' h' ∧ PubRes bx ca n (mo1 τ E v k d.toNatClampNeg) κ h (tb (τ 0 5) && (exB τ v k && dkB n d) && (!fewB τ n && decide (gt τ 15 60 < 0)) && (tb (τ 1 (gN τ 15 (15 * v.toNatClampNeg + 3 + k.toNatClampNeg) / 16)) && tb (τ 1 d.toNatClampNeg) && decide (0 ≤ lfI τ E 15 d.toNatClampNeg))) κ' h') 3 9 := by
  obtain ⟨hn2, hn5⟩ := hx.2.2.1
  obtain ⟨hE2, hE10⟩ := hx.2.2.2
  refine CT.of (own := R_E) rfl (by decide) (Nat.le_of_ble_eq_true rfl) (cat_all rfl) ?_
  intro pp ee ss mm aa bb me cd hc hK hO hr hk hA
  refine AW.to (lv' := [some (.ref (bx 0)), some (.int v), some (.int k), some (.int d), none, none, none]) rfl rfl rfl ?_
  refine a_aload_n (pc' := 1) hc d_E_move_0 rfl rfl rfl ?_
  refine c_getE (pc' := 4) hc hK hx 6 (v := .int (bI (tb (τ 0 5)))) (by decide) (rfl) fl_E_60 d_E_move_1 rfl ?_
  refine a_ifb_ne (pc' := 7) (tgt := 10) hc d_E_move_4 rfl rfl (fun h4 => ?_) (fun h4 => ?_)
  · skip
    refine a_aload_n (pc' := 11) hc d_E_move_10 rfl rfl rfl ?_
    refine c_getE (pc' := 14) hc hK hx 3 (v := .ref pa) (by decide) (by show some (va_rf (κ 0)) = _; rw [hP.1]; rfl) fl_E_47 d_E_move_11 rfl ?_
    refine c_getH (pc' := 17) hc hK in_C rfl hh hP.2.1 2 (v := .ref q) (by decide) rfl fl_E_75 d_E_move_14 rfl ?_
    refine a_iload_n (pc' := 18) hc d_E_move_17 rfl rfl rfl ?_
    refine c_call (pc' := 21) hc hK hO hA (q) [.int v] [] (ct_L_volumeAt hx hh (τ := τ) (κ := κ) (tk := tk) (h := h) (a := q) (va := va) (mv := mv) (g := g) (v := v) hP.2.2.1 hP.2.2.2.1) ml_E_98 hd_L_volumeAt ⟨by decide, by decide⟩ rfl rfl (Nat.le_of_ble_eq_true rfl) (cw_h hh hP.2.2.1) rfl rfl d_E_move_18 rfl ⟨by first | decide | (show _ ≤ _; simp only [ra]; omega), by first | decide | (show _ ≤ _; simp only [ra]; omega)⟩ ?_
    refine AW.to (st' := [va_rf (vaQ g v)]) rfl rfl rfl ?_
    refine a_astoreq (pc' := 23) hc d_E_move_21 rfl (by decide) ?_
    refine a_aloadq (pc' := 25) hc d_E_move_23 rfl rfl ?_
    refine a_ifnull (pc' := 28) (tgt := 45) hc d_E_move_25 rfl rfl (fun h25 => ?_) (fun a25 h25 => ?_)
    · skip
      try rw [h25]
      have b25 := va_none hP.2.2.2.2.1 h25
      have x25 : exB τ v k = false := by unfold exB; rw [b25]; rfl
      refine a_iconst (pc' := 46) (v := -1) hc d_E_move_45 rfl (by decide) ?_
      refine AW.widen (k' := 3) (n' := 9) (by omega) (by omega) ?_
      exact a_iret hc hr hk d_E_move_46 (⟨κ, tk, h, by simp [moP, dk_lt, h4, x25], by simp [moP, dk_lt, h4, x25], Or.inl ⟨by simp [h4, x25], rfl, Ext.rf, hh⟩⟩)
    · skip
      try rw [h25]
      obtain ⟨j, pl, P, hj, ej, cj, b25, pj, hU, hpl, hPk⟩ := va_some hP.2.2.2.2.1 h25
      subst ej
      have hx16 := hw.1.ex hj
      refine a_aload (pc' := 30) hc d_E_move_28 rfl rfl ?_
      refine a_iload_n (pc' := 31) hc d_E_move_30 rfl rfl rfl ?_
      refine c_call (pc' := 34) hc hK hO hA (a25) [.int k] [] (ct_U_hasExtent hx hh (τ := τ) (κ := κ) (tk := tk) (h := h) (a := a25) (pl := pl) (pn := exN τ 15 j) (w := nI (gN τ 15 (15 * j))) (s := nI (gN τ 15 (15 * j + 1))) (rc := nI (gN τ 15 (15 * j + 2))) (k := k) (g := P) hU hpl) ml_E_115 hd_U_hasExtent ⟨by decide, by decide⟩ rfl rfl (Nat.le_of_ble_eq_true rfl) (cw_h hh hU) rfl rfl d_E_move_31 rfl ⟨by first | decide | (show _ ≤ _; simp only [ra]; omega), by first | decide | (show _ ≤ _; simp only [ra]; omega)⟩ ?_
      refine AW.to (st' := [.int (bI (!decide (k < 0) && !decide (nI (exN τ 15 j) ≤ k)))]) rfl rfl rfl ?_
      refine a_ifb_eq (pc' := 37) (tgt := 45) hc d_E_move_34 rfl rfl (fun h34 => ?_) (fun h34 => ?_)
      · skip
        have x25 : exB τ (nI j) k = false := by unfold exB; rw [b25, cj, h34]; rfl
        refine a_iconst (pc' := 46) (v := -1) hc d_E_move_45 rfl (by decide) ?_
        refine AW.widen (k' := 3) (n' := 9) (by omega) (by omega) ?_
        exact a_iret hc hr hk d_E_move_46 (⟨κ, tk, h, by simp [moP, dk_lt, h4, x25], by simp [moP, dk_lt, h4, x25], Or.inl ⟨by simp [h4, x25], rfl, Ext.rf, hh⟩⟩)
      · skip
        have x25 : exB τ (nI j) k = true := by unfold exB; rw [b25, cj, h34]; rfl
        obtain ⟨i, hi, ei, ci⟩ := hx_t (by omega) h34
        subst ei
        refine a_aload_n (pc' := 38) hc d_E_move_37 rfl rfl rfl ?_
        refine a_iload_n (pc' := 39) hc d_E_move_38 rfl rfl rfl ?_
        refine c_call (pc' := 42) hc hK hO hA (bx 0) [.int d] [] (ct_E_isDisk hx hh (τ := τ) (κ := κ) (tk := tk) (h := h) (d := d)) ml_E_118 hd_E_isDisk ⟨by decide, by decide⟩ rfl rfl (Nat.le_of_ble_eq_true rfl) (cw_at hx.1 (by omega)) rfl rfl d_E_move_39 rfl ⟨by first | decide | (show _ ≤ _; simp only [ra]; omega), by first | decide | (show _ ≤ _; simp only [ra]; omega)⟩ ?_
        refine AW.to (st' := [.int (bI (dkB n d))]) rfl rfl rfl ?_
        refine a_ifb_ne (pc' := 45) (tgt := 47) hc d_E_move_42 rfl rfl (fun h42 => ?_) (fun h42 => ?_)
        · skip
          obtain ⟨d', hd', ed, cd'⟩ := dkB_t (by omega) h42
          subst ed
          refine a_aload_n (pc' := 48) hc d_E_move_47 rfl rfl rfl ?_
          refine c_call (pc' := 51) hc hK hO hA (bx 0) [] [] (ct_E_isFew hx hh (τ := τ) (κ := κ) (tk := tk) (h := h)) ml_E_71 hd_E_isFew ⟨by decide, by decide⟩ rfl rfl (Nat.le_of_ble_eq_true rfl) (cw_at hx.1 (by omega)) rfl rfl d_E_move_48 rfl ⟨by first | decide | (show _ ≤ _; simp only [ra]; omega), by first | decide | (show _ ≤ _; simp only [ra]; omega)⟩ ?_
          refine AW.to (st' := [.int (bI (fewB τ n))]) rfl rfl rfl ?_
          refine a_ifb_eq (pc' := 54) (tgt := 57) hc d_E_move_51 rfl rfl (fun h51 => ?_) (fun h51 => ?_)
          · skip
            refine a_aload_n (pc' := 58) hc d_E_move_57 rfl rfl rfl ?_
            refine c_getE (pc' := 61) hc hK hx 3 (v := .ref pa) (by decide) (by show some (va_rf (κ 0)) = _; rw [hP.1]; rfl) fl_E_47 d_E_move_58 rfl ?_
            refine c_getH (pc' := 64) hc hK in_C rfl hh hP.2.1 2 (v := .ref q) (by decide) rfl fl_E_75 d_E_move_61 rfl ?_
            refine c_getH (pc' := 67) hc hK in_L rfl hh hP.2.2.1 1 (v := va_rf mv) (by decide) rfl fl_E_121 d_E_move_64 rfl ?_
            refine a_ifnull (pc' := 70) (tgt := 73) hc d_E_move_67 rfl rfl (fun h67 => ?_) (fun a67 h67 => ?_)
            · skip
              try rw [h67]
              have n60 := mv_noneq hP.2.2.2.2.2 h67
              have hp16 := hw.2.2.1 j hj i hi
              have hl16 := gN_lt τ 15 (15 * j + 3 + i)
              refine a_aload (pc' := 75) hc d_E_move_73 rfl rfl ?_
              refine c_getH (pc' := 78) hc hK in_U rfl hh hU 3 (v := .ref pl) (by decide) rfl fl_E_125 d_E_move_75 rfl ?_
              refine a_iload_n (pc' := 79) hc d_E_move_78 rfl rfl rfl ?_
              refine c_ialdH (pc' := 80) hc hK hx hh hpl i (hi) d_E_move_79 rfl ?_
              refine AW.topi (y := nI (gN τ 15 (15 * j + 3 + i))) (hPk i hi) ?_
              refine a_istore (pc' := 82) hc d_E_move_80 rfl (by decide) ?_
              refine a_aload_n (pc' := 83) hc d_E_move_82 rfl rfl rfl ?_
              refine a_iload (pc' := 85) hc d_E_move_83 rfl rfl ?_
              refine c_call (pc' := 88) hc hK hO hA (bx 0) [.int (nI (gN τ 15 (15 * j + 3 + i)))] [] (ct_E_diskOf hx hh (τ := τ) (κ := κ) (tk := tk) (h := h) (q := gN τ 15 (15 * j + 3 + i)) (by omega) (by omega)) ml_E_128 hd_E_diskOf ⟨by decide, by decide⟩ rfl rfl (Nat.le_of_ble_eq_true rfl) (cw_at hx.1 (by omega)) rfl rfl d_E_move_85 rfl ⟨by first | decide | (show _ ≤ _; simp only [ra]; omega), by first | decide | (show _ ≤ _; simp only [ra]; omega)⟩ ?_
              refine AW.to (st' := [.ref (bx (3 + 4 * ((gN τ 15 (15 * j + 3 + i)) / 16)))]) rfl rfl rfl ?_
              refine c_getD (pc' := 91) hc hK hx ((gN τ 15 (15 * j + 3 + i)) / 16) 4 (v := .int (bI (tb (τ 1 ((gN τ 15 (15 * j + 3 + i)) / 16))))) (by omega) (by decide) rfl fl_E_132 d_E_move_88 rfl ?_
              refine a_ifb_eq (pc' := 94) (tgt := 106) hc d_E_move_91 rfl rfl (fun h91 => ?_) (fun h91 => ?_)
              · skip
                refine a_bipush (pc' := 108) (v := -6) hc d_E_move_106 rfl (by decide) ?_
                refine AW.widen (k' := 3) (n' := 9) (by omega) (by omega) ?_
                exact a_iret hc hr hk d_E_move_108 (⟨κ, tk, h, by simp [moP, dk_lt, h4, x25, h42, h51, n60, cj, ci, cd', h91], by simp [moP, dk_lt, h4, x25, h42, h51, n60, cj, ci, cd', h91], Or.inl ⟨by simp [h4, x25, h42, h51, n60, cj, ci, cd', h91], rfl, Ext.rf, hh⟩⟩)
              · skip
                refine a_aload_n (pc' := 95) hc d_E_move_94 rfl rfl rfl ?_
                refine c_getE (pc' := 98) hc hK hx 1 (v := .ref (bx 1)) (by decide) (rfl) fl_E_36 d_E_move_95 rfl ?_
                refine a_iload_n (pc' := 99) hc d_E_move_98 rfl rfl rfl ?_
                refine c_ald (pc' := 100) hc hK hx d' (by omega) d_E_move_99 rfl ?_
                refine c_getD (pc' := 103) hc hK hx d' 4 (v := .int (bI (tb (τ 1 d')))) (by omega) (by decide) rfl fl_E_132 d_E_move_100 rfl ?_
                refine a_ifb_ne (pc' := 106) (tgt := 109) hc d_E_move_103 rfl rfl (fun h103 => ?_) (fun h103 => ?_)
                · skip
                  refine a_aload_n (pc' := 110) hc d_E_move_109 rfl rfl rfl ?_
                  refine c_call (pc' := 113) hc hK hO hA (bx 0) [] [] (ct_E_markTaken hx hh (τ := τ) (κ := κ) (tk := tk) (h := h) (pa := pa) (q := q) (va := va) (mv := mv) (g := g) hP hw) ml_E_135 hd_E_markTaken ⟨by decide, by decide⟩ rfl rfl (Nat.le_of_ble_eq_true rfl) (cw_at hx.1 (by omega)) rfl rfl d_E_move_110 rfl ⟨by first | decide | (show _ ≤ _; simp only [ra]; omega), by first | decide | (show _ ≤ _; simp only [ra]; omega)⟩ ?_
                  refine AW.to (st' := []) rfl rfl rfl ?_
                  refine a_aload_n (pc' := 114) hc d_E_move_113 rfl rfl rfl ?_
                  refine a_iload_n (pc' := 115) hc d_E_move_114 rfl rfl rfl ?_
                  refine c_call (pc' := 118) hc hK hO hA (bx 0) [.int (nI d')] [] (ct_E_leastFree hx hh (τ := τ) (κ := κ) (h := h) (d := d') (u := (usedB τ 15)) (by omega)) ml_E_138 hd_E_leastFree ⟨by decide, by decide⟩ rfl rfl (Nat.le_of_ble_eq_true rfl) (cw_at hx.1 (by omega)) rfl rfl d_E_move_115 rfl ⟨by first | decide | (show _ ≤ _; simp only [ra]; omega), by first | decide | (show _ ≤ _; simp only [ra]; omega)⟩ ?_
                  refine AW.to (st' := [.int (lfU (usedB τ 15) E d')]) rfl rfl rfl ?_
                  refine AW.topi (y := lfI τ E 15 d') rfl ?_
                  refine a_istore (pc' := 120) hc d_E_move_118 rfl (by decide) ?_
                  refine a_iload (pc' := 122) hc d_E_move_120 rfl rfl ?_
                  refine a_iconst (pc' := 123) (v := -1) hc d_E_move_122 rfl (by decide) ?_
                  refine a_icmp_ne (pc' := 126) (tgt := 129) hc d_E_move_123 rfl rfl (fun h123 => ?_) (fun h123 => ?_)
                  · skip
                    have m123 := mo_ans (by omega) hE10 h123
                    refine a_aload_n (pc' := 130) hc d_E_move_129 rfl rfl rfl ?_
                    refine a_aload_n (pc' := 131) hc d_E_move_130 rfl rfl rfl ?_
                    refine c_getE (pc' := 134) hc hK hx 3 (v := .ref pa) (by decide) (by show some (va_rf (κ 0)) = _; rw [hP.1]; rfl) fl_E_47 d_E_move_131 rfl ?_
                    refine c_getH (pc' := 137) hc hK in_C rfl hh hP.2.1 2 (v := .ref q) (by decide) rfl fl_E_75 d_E_move_134 rfl ?_
                    refine c_new (pc' := 140) (ci := 5) hc hK hA hx hh in_V ty_V ty_V_ok cl_E_142 mk_V rfl [.int 0, .int 0, .int 0, .int 0] (by decide) (by decide) (by decide) d_E_move_137 rfl (fun q137 n137 hh137 => ?_)
                    have hh0 := hh
                    have hP0 := hP
                    refine AW.to (st' := [.ref q137, .ref q, .ref (bx 0)]) rfl rfl rfl ?_
                    refine a_dup (pc' := 141) hc d_E_move_140 rfl rfl ?_
                    refine a_iload_n (pc' := 142) hc d_E_move_141 rfl rfl rfl ?_
                    refine a_iload_n (pc' := 143) hc d_E_move_142 rfl rfl rfl ?_
                    refine a_iload (pc' := 145) hc d_E_move_143 rfl rfl ?_
                    refine a_iload (pc' := 147) hc d_E_move_145 rfl rfl ?_
                    refine a_cI (pc' := 150) hc hK hO hA (As := [.int (nI j), .int (nI i), .int (nI (gN τ 15 (15 * j + 3 + i))), .int (lfI τ E 15 d')]) (rest := [.ref q137, .ref q, .ref (bx 0)]) (ct_V_init hx hh137 (τ := τ) (κ := κ) (tk := tkF (usedB τ 15) E) (h := va_up h q137 (some (.inr (5, [.int 0, .int 0, .int 0, .int 0])))) (a := q137) (x0 := nI j) (x1 := nI i) (x2 := nI (gN τ 15 (15 * j + 3 + i))) (x3 := lfI τ E 15 d') (va_up_self _ _ _)) ml_E_144 rfl hd_V_init rfl rfl ⟨by decide, by decide⟩ rfl rfl (Nat.le_of_ble_eq_true rfl) d_E_move_147 rfl ⟨by decide, by decide⟩ (fun v9 f9 hq9 => ?_)
                    obtain ⟨rfl, rfl⟩ := hq9
                    rw [va_up_up]
                    have hh : HD bx n (va_up h q137 (some (.inr (5, [.int (nI j), .int (nI i), .int (nI (gN τ 15 (15 * j + 3 + i))), .int (lfI τ E 15 d')])))) := hh0.up (hh137.off (va_up_self _ _ _))
                    have x147 := Ext.up (x := some (.inr (5, [.int (nI j), .int (nI i), .int (nI (gN τ 15 (15 * j + 3 + i))), .int (lfI τ E 15 d')]))) n137
                    have hP := hP0.ext x147
                    refine AW.to (st' := [.ref q137, .ref q, .ref (bx 0)]) rfl rfl rfl ?_
                    refine a_cV (pc' := 153) hc hK hO hA (As := [va_rf (some q137)]) (rest := [.ref (bx 0)]) (ct_L_withMove hx hh (τ := τ) (κ := κ) (tk := tkF (usedB τ 15) E) (h := va_up h q137 (some (.inr (5, [.int (nI j), .int (nI i), .int (nI (gN τ 15 (15 * j + 3 + i))), .int (lfI τ E 15 d')])))) (a := q) (va := va) (mv := mv) (g := g) (o := some q137) hP.2.2.1 hP.2.2.2.1) ml_E_147 hd_L_withMove rfl rfl ⟨by decide, by decide⟩ (cw_h hh hP.2.2.1) rfl rfl rfl rfl (Nat.le_of_ble_eq_true rfl) d_E_move_150 rfl ⟨by decide, by decide⟩ (fun v150 f150 hq150 => ?_)
                    obtain ⟨r150, h150, rfl, ⟨rfl, x150', hh150⟩, hr150⟩ := hq150
                    have x150 := x147.tr x150'
                    have hP := hP0
                    have ly150 := ly_move (d := d') hw.1 hP.2.2 x150 hr150 hj (by omega) (by omega) hE10 h123 (x150' _ _ (va_up_self _ _ _))
                    refine AW.to (st' := [.ref r150, .ref (bx 0)]) rfl rfl rfl ?_
                    refine AW.to (f' := cw bx rl ca n E (mo1 τ E (nI j) (nI i) d') κ (tkF (usedB τ 15) E) h150) (cw_sr mo1_same) rfl rfl ?_
                    have cm153 := hm.same (σ := mo1 τ E (nI j) (nI i) d') mo1_same x150
                    refine a_cV (pc' := 156) hc hK hO hA (As := [.ref r150]) (rest := []) (ct_E_commit hx hh150 (τ := mo1 τ E (nI j) (nI i) d') (κ := κ) (tk := tkF (usedB τ 15) E) (h := h150) (pa := pa) (q := q) (ly := r150) ⟨hP.1, x150 _ _ hP.2.1⟩ cm153.1 cm153.2.1 cm153.2.2.1 cm153.2.2.2.1 cm153.2.2.2.2.1 cm153.2.2.2.2.2.1 cm153.2.2.2.2.2.2) ml_E_94 hd_E_commit rfl rfl ⟨by decide, by decide⟩ (cw_at hx.1 (by omega)) rfl rfl rfl rfl (Nat.le_of_ble_eq_true rfl) d_E_move_153 rfl ⟨by decide, by decide⟩ (fun v153 f153 hq153 => ?_)
                    obtain ⟨r153, nr153, hh153, rfl, rfl⟩ := hq153
                    refine AW.to (st' := [.int (bI (cmB (mo1 τ E (nI j) (nI i) d') n))]) rfl rfl rfl ?_
                    refine a_ifb_ne (pc' := 159) (tgt := 162) hc d_E_move_156 rfl rfl (fun h156 => ?_) (fun h156 => ?_)
                    · skip
                      refine a_aload_n (pc' := 163) hc d_E_move_162 rfl rfl rfl ?_
                      refine a_iconst (pc' := 164) (v := nI 0) hc d_E_move_163 rfl (by decide) ?_
                      refine c_putE (pc' := 167) hc hK hx (τ' := ts (cmW (mo1 τ E (nI j) (nI i) d') n) 0 6 (nI 0)) (κ' := cmF (mo1 τ E (nI j) (nI i) d') κ n r153) 4 (by decide) (e_06) (row0) (fun _ => rfl) rfl (rfl) (rfl) fl_E_51 d_E_move_164 rfl ?_
                      refine a_iconst (pc' := 168) (v := nI 0) hc d_E_move_167 rfl (by decide) ?_
                      refine AW.widen (k' := 3) (n' := 9) (by omega) (by omega) ?_
                      exact a_iret hc hr hk d_E_move_168 (⟨cmF (mo1 τ E (nI j) (nI i) d') κ n r153, tkF (usedB τ 15) E, va_up h150 r153 (some (.inr (0, [.int ((mo1 τ E (nI j) (nI i) d') 0 2 + nI 1), .int ((mo1 τ E (nI j) (nI i) d') 0 4 + nI 1), .ref r150]))), by simp [moP, dk_lt, h4, x25, h42, h51, n60, cj, ci, cd', h91, h103, m123, h156], by simp [moP, dk_lt, h4, x25, h42, h51, n60, cj, ci, cd', h91, h103, m123, h156], Or.inr ⟨by simp [h4, x25, h42, h51, n60, cj, ci, cd', h91, h103, m123], by rw [cd']; exact ⟨_, _, _, _, _, r153, x150, hh150, ly150, nr153, hh153, rfl, rfl⟩⟩⟩)
                    · skip
                      refine a_bipush (pc' := 161) (v := -7) hc d_E_move_159 rfl (by decide) ?_
                      refine AW.widen (k' := 3) (n' := 9) (by omega) (by omega) ?_
                      exact a_iret hc hr hk d_E_move_161 (⟨cmF (mo1 τ E (nI j) (nI i) d') κ n r153, tkF (usedB τ 15) E, va_up h150 r153 (some (.inr (0, [.int ((mo1 τ E (nI j) (nI i) d') 0 2 + nI 1), .int ((mo1 τ E (nI j) (nI i) d') 0 4 + nI 1), .ref r150]))), by simp [moP, dk_lt, h4, x25, h42, h51, n60, cj, ci, cd', h91, h103, m123, h156], by simp [moP, dk_lt, h4, x25, h42, h51, n60, cj, ci, cd', h91, h103, m123, h156], Or.inr ⟨by simp [h4, x25, h42, h51, n60, cj, ci, cd', h91, h103, m123], by rw [cd']; exact ⟨_, _, _, _, _, r153, x150, hh150, ly150, nr153, hh153, rfl, rfl⟩⟩⟩)
                  · skip
                    have m123 : ¬ 0 ≤ lfI τ E 15 d' := by rw [h123]; decide
                    refine a_bipush (pc' := 128) (v := -5) hc d_E_move_126 rfl (by decide) ?_
                    refine AW.widen (k' := 3) (n' := 9) (by omega) (by omega) ?_
                    exact a_iret hc hr hk d_E_move_128 (⟨κ, tkF (usedB τ 15) E, h, by simp [moP, dk_lt, h4, x25, h42, h51, n60, cj, ci, cd', h91, h103, m123], by simp [moP, dk_lt, h4, x25, h42, h51, n60, cj, ci, cd', h91, h103, m123], Or.inl ⟨by simp [h4, x25, h42, h51, n60, cj, ci, cd', h91, h103, m123], rfl, Ext.rf, hh⟩⟩)
                · skip
                  refine a_bipush (pc' := 108) (v := -6) hc d_E_move_106 rfl (by decide) ?_
                  refine AW.widen (k' := 3) (n' := 9) (by omega) (by omega) ?_
                  exact a_iret hc hr hk d_E_move_108 (⟨κ, tk, h, by simp [moP, dk_lt, h4, x25, h42, h51, n60, cj, ci, cd', h91, h103], by simp [moP, dk_lt, h4, x25, h42, h51, n60, cj, ci, cd', h91, h103], Or.inl ⟨by simp [h4, x25, h42, h51, n60, cj, ci, cd', h91, h103], rfl, Ext.rf, hh⟩⟩)
            · skip
              try rw [h67]
              obtain ⟨n60, hM67⟩ := mv_someq hP.2.2.2.2.2 h67
              refine a_bipush (pc' := 72) (v := -4) hc d_E_move_70 rfl (by decide) ?_
              refine AW.widen (k' := 3) (n' := 9) (by omega) (by omega) ?_
              exact a_iret hc hr hk d_E_move_72 (⟨κ, tk, h, by simp [moP, dk_lt, h4, x25, h42, h51, n60], by simp [moP, dk_lt, h4, x25, h42, h51, n60], Or.inl ⟨by simp [h4, x25, h42, h51, n60], rfl, Ext.rf, hh⟩⟩)
          · skip
            refine a_bipush (pc' := 56) (v := -3) hc d_E_move_54 rfl (by decide) ?_
            refine AW.widen (k' := 3) (n' := 9) (by omega) (by omega) ?_
            exact a_iret hc hr hk d_E_move_56 (⟨κ, tk, h, by simp [moP, dk_lt, h4, x25, h42, h51], by simp [moP, dk_lt, h4, x25, h42, h51], Or.inl ⟨by simp [h4, x25, h42, h51], rfl, Ext.rf, hh⟩⟩)
        · skip
          refine a_iconst (pc' := 46) (v := -1) hc d_E_move_45 rfl (by decide) ?_
          refine AW.widen (k' := 3) (n' := 9) (by omega) (by omega) ?_
          exact a_iret hc hr hk d_E_move_46 (⟨κ, tk, h, by simp [moP, dk_lt, h4, x25, h42], by simp [moP, dk_lt, h4, x25, h42], Or.inl ⟨by simp [h4, x25, h42], rfl, Ext.rf, hh⟩⟩)
  · skip
    refine a_bipush (pc' := 9) (v := -2) hc d_E_move_7 rfl (by decide) ?_
    refine AW.widen (k' := 3) (n' := 9) (by omega) (by omega) ?_
    exact a_iret hc hr hk d_E_move_9 (⟨κ, tk, h, by simp [moP, dk_lt, h4], by simp [moP, dk_lt, h4], Or.inl ⟨by simp [h4], rfl, Ext.rf, hh⟩⟩)
