variable {l : Launch} {D : va_G} {tys : List (ClassId × FieldType)} {A : Nat → Prop} {bx rl : Nat → Nat} {ca : Nat → ClassId} {n E : Nat} {τ : TS} {κ : Nat → Option Nat} {tk : Nat → Int32} {h : Nat → Option va_E}
theorem ct_E_cancel (hx : CX bx rl ca tys n E) (hh : HD bx n h) {pa q va : Nat} {mv : Option Nat} {g : Nat → Option Nat} (hP : PrOk h ca τ κ pa q va mv g) (hw : WFx n E τ 15) (hm : CmOk n τ κ h) : CT l y_E_cancel (Cond.code y_E_cancel c_E_cancel 1 (some .int) :: WS) (ra 6 2 5) D vcl tys A (cw bx rl ca n E τ κ tk h) [.ref (bx 0)] (fun v' f' => ∃ (κ' : Nat → Option Nat) (tk' : Nat → Int32) (h' : Nat → Option va_E), v' = some (.int (caP τ n).1) ∧ f' = cw bx rl ca n E (caP τ n).2 κ' tk' h' ∧ PubRes bx ca n (ca1 τ) κ h (tb (τ 0 5) && (decide (0 ≤ gt τ 15 60) && !fewB τ n)) κ' h') 2 5 := by
  obtain ⟨hn2, hn5⟩ := hx.2.2.1
  obtain ⟨hE2, hE10⟩ := hx.2.2.2
  refine CT.of (own := R_E) rfl (by decide) (Nat.le_of_ble_eq_true rfl) (cat_all rfl) ?_
  intro pp ee ss mm aa bb me cd hc hK hO hr hk hA
  refine AW.to (lv' := [some (.ref (bx 0))]) rfl rfl rfl ?_
  refine a_aload_n (pc' := 1) hc d_E_cancel_0 rfl rfl rfl ?_
  refine c_getE (pc' := 4) hc hK hx 6 (v := .int (bI (tb (τ 0 5)))) (by decide) (rfl) fl_E_60 d_E_cancel_1 rfl ?_
  refine a_ifb_ne (pc' := 7) (tgt := 10) hc d_E_cancel_4 rfl rfl (fun h4 => ?_) (fun h4 => ?_)
  · skip
    refine a_aload_n (pc' := 11) hc d_E_cancel_10 rfl rfl rfl ?_
    refine c_getE (pc' := 14) hc hK hx 3 (v := .ref pa) (by decide) (by show some (va_rf (κ 0)) = _; rw [hP.1]; rfl) fl_E_47 d_E_cancel_11 rfl ?_
    refine c_getH (pc' := 17) hc hK in_C rfl hh hP.2.1 2 (v := .ref q) (by decide) rfl fl_E_75 d_E_cancel_14 rfl ?_
    refine c_getH (pc' := 20) hc hK in_L rfl hh hP.2.2.1 1 (v := va_rf mv) (by decide) rfl fl_E_121 d_E_cancel_17 rfl ?_
    refine a_ifnonnull (pc' := 23) (tgt := 26) hc d_E_cancel_20 rfl rfl (fun a20 h20 => ?_) (fun h20 => ?_)
    · skip
      try rw [h20]
      obtain ⟨p60, hM20⟩ := mv_someq hP.2.2.2.2.2 h20
      have m60 : 0 ≤ gt τ 15 60 := Int32.not_lt.mp p60
      refine a_aload_n (pc' := 27) hc d_E_cancel_26 rfl rfl rfl ?_
      refine c_call (pc' := 30) hc hK hO hA (bx 0) [] [] (ct_E_isFew hx hh (τ := τ) (κ := κ) (tk := tk) (h := h)) ml_E_71 hd_E_isFew ⟨by decide, by decide⟩ rfl rfl (Nat.le_of_ble_eq_true rfl) (cw_at hx.1 (by omega)) rfl rfl d_E_cancel_27 rfl ⟨by first | decide | (show _ ≤ _; simp only [ra]; omega), by first | decide | (show _ ≤ _; simp only [ra]; omega)⟩ ?_
      refine AW.to (st' := [.int (bI (fewB τ n))]) rfl rfl rfl ?_
      refine a_ifb_eq (pc' := 33) (tgt := 36) hc d_E_cancel_30 rfl rfl (fun h30 => ?_) (fun h30 => ?_)
      · skip
        refine a_aload_n (pc' := 37) hc d_E_cancel_36 rfl rfl rfl ?_
        refine a_aload_n (pc' := 38) hc d_E_cancel_37 rfl rfl rfl ?_
        refine c_getE (pc' := 41) hc hK hx 3 (v := .ref pa) (by decide) (by show some (va_rf (κ 0)) = _; rw [hP.1]; rfl) fl_E_47 d_E_cancel_38 rfl ?_
        refine c_getH (pc' := 44) hc hK in_C rfl hh hP.2.1 2 (v := .ref q) (by decide) rfl fl_E_75 d_E_cancel_41 rfl ?_
        refine a_null (pc' := 45) hc d_E_cancel_44 rfl ?_
        refine a_cV (pc' := 48) hc hK hO hA (As := [va_rf none]) (rest := [.ref (bx 0)]) (ct_L_withMove hx hh (τ := τ) (κ := κ) (tk := tk) (h := h) (a := q) (va := va) (mv := mv) (g := g) (o := none) hP.2.2.1 hP.2.2.2.1) ml_E_147 hd_L_withMove rfl rfl ⟨by decide, by decide⟩ (cw_h hh hP.2.2.1) rfl rfl rfl rfl (Nat.le_of_ble_eq_true rfl) d_E_cancel_45 rfl ⟨by decide, by decide⟩ (fun v45 f45 hq45 => ?_)
        obtain ⟨r45, h45, rfl, ⟨rfl, x45, hh45⟩, hr45⟩ := hq45
        have ly45 : LyOk h45 ca (ca1 τ) 16 r45 va none g := ⟨hr45, x45 _ _ hP.2.2.2.1, fun v hv => ((hP.2.2.2.2.1 v hv).map hw.1 hv (fun i h1 h2 => by rw [ca1, ts3_off (by omega), cp_hi (by omega)])).ext x45, Or.inl ⟨rfl, by rw [ca1, ts3_at]; decide⟩⟩
        refine AW.to (st' := [.ref r45, .ref (bx 0)]) rfl rfl rfl ?_
        refine AW.to (f' := cw bx rl ca n E (ca1 τ) κ tk h45) (cw_sr ca1_same) rfl rfl ?_
        have cm48 := hm.same (σ := ca1 τ) ca1_same x45
        refine a_cV (pc' := 51) hc hK hO hA (As := [.ref r45]) (rest := []) (ct_E_commit hx hh45 (τ := ca1 τ) (κ := κ) (tk := tk) (h := h45) (pa := pa) (q := q) (ly := r45) ⟨hP.1, x45 _ _ hP.2.1⟩ cm48.1 cm48.2.1 cm48.2.2.1 cm48.2.2.2.1 cm48.2.2.2.2.1 cm48.2.2.2.2.2.1 cm48.2.2.2.2.2.2) ml_E_94 hd_E_commit rfl rfl ⟨by decide, by decide⟩ (cw_at hx.1 (by omega)) rfl rfl rfl rfl (Nat.le_of_ble_eq_true rfl) d_E_cancel_48 rfl ⟨by decide, by decide⟩ (fun v48 f48 hq48 => ?_)
        obtain ⟨r48, nr48, hh48, rfl, rfl⟩ := hq48
        refine AW.to (st' := [.int (bI (cmB (ca1 τ) n))]) rfl rfl rfl ?_
        refine a_ifb_eq (pc' := 54) (tgt := 58) hc d_E_cancel_51 rfl rfl (fun h51 => ?_) (fun h51 => ?_)
        · skip
          refine a_bipush (pc' := 60) (v := -7) hc d_E_cancel_58 rfl (by decide) ?_
          refine AW.widen (k' := 2) (n' := 5) (by omega) (by omega) ?_
          exact a_iret hc hr hk d_E_cancel_60 (⟨_, tk, _, by simp [caP, h4, m60, h30, h51], by simp [caP, h4, m60, h30, h51], Or.inr ⟨by simp [h4, m60, h30], ⟨_, _, _, _, _, r48, x45, hh45, ly45, nr48, hh48, rfl, rfl⟩⟩⟩)
        · skip
          refine a_iconst (pc' := 55) (v := nI 0) hc d_E_cancel_54 rfl (by decide) ?_
          refine a_goto (tgt := 60) hc d_E_cancel_55 rfl ?_
          refine AW.widen (k' := 2) (n' := 5) (by omega) (by omega) ?_
          exact a_iret hc hr hk d_E_cancel_60 (⟨_, tk, _, by simp [caP, h4, m60, h30, h51], by simp [caP, h4, m60, h30, h51], Or.inr ⟨by simp [h4, m60, h30], ⟨_, _, _, _, _, r48, x45, hh45, ly45, nr48, hh48, rfl, rfl⟩⟩⟩)
      · skip
        refine a_bipush (pc' := 35) (v := -3) hc d_E_cancel_33 rfl (by decide) ?_
        refine AW.widen (k' := 2) (n' := 5) (by omega) (by omega) ?_
        exact a_iret hc hr hk d_E_cancel_35 (⟨κ, tk, h, by simp [caP, h4, m60, h30], by simp [caP, h4, m60, h30], Or.inl ⟨by simp [h4, m60, h30], rfl, Ext.rf, hh⟩⟩)
    · skip
      try rw [h20]
      have m60 := Int32.not_le.mpr (mv_noneq hP.2.2.2.2.2 h20)
      refine a_bipush (pc' := 25) (v := -8) hc d_E_cancel_23 rfl (by decide) ?_
      refine AW.widen (k' := 2) (n' := 5) (by omega) (by omega) ?_
      exact a_iret hc hr hk d_E_cancel_25 (⟨κ, tk, h, by simp [caP, h4, m60], by simp [caP, h4, m60], Or.inl ⟨by simp [h4, m60], rfl, Ext.rf, hh⟩⟩)
  · skip
    refine a_bipush (pc' := 9) (v := -2) hc d_E_cancel_7 rfl (by decide) ?_
    refine AW.widen (k' := 2) (n' := 5) (by omega) (by omega) ?_
    exact a_iret hc hr hk d_E_cancel_9 (⟨κ, tk, h, by simp [caP, h4], by simp [caP, h4], Or.inl ⟨by simp [h4], rfl, Ext.rf, hh⟩⟩)
