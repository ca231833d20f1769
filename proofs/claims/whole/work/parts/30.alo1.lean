variable {l : Launch} {D : va_G} {tys : List (ClassId × FieldType)} {A : Nat → Prop} {bx rl : Nat → Nat} {ca : Nat → ClassId} {n E : Nat} {τ : TS} {κ : Nat → Option Nat} {tk : Nat → Int32} {h : Nat → Option va_E}
theorem ct_L_volumesWith (hx : CX bx rl ca tys n E) (hh : HD bx n h) {a va : Nat} {mv : Option Nat} {g : Nat → Option Nat} {v : Int32} {o : Option Nat} (ha : h a = some (.inr (2, [.ref va, va_rf mv]))) (hva : h va = some (.inl (ca 4, 4, .inr (.inr (.inr (.inr g)))))) (ho : ∀ b, o = some b → ∃ fs, h b = some (.inr (3, fs))) (hg : VolsAt h g) : CT l y_L_volumesWith (Cond.code y_L_volumesWith c_L_volumesWith 5 (some (.array (.object "ExtentGroup$Volume"))) :: WS) (ra 0 1 4) D vcl tys A (cw bx rl ca n E τ κ tk h) [.ref a, .int v, va_rf o] (fun v' f' => ∃ (r : Nat) (h' : Nat → Option va_E) (g' : Nat → Option Nat), v' = some (.ref r) ∧ Grown bx rl ca n E τ κ tk h f' h' ∧ h' r = some (.inl (ca 4, 4, .inr (.inr (.inr (.inr (g')))))) ∧ ∀ j, j < 4 → g' j = if nI j = v then o else g j) 1 4 := by
  obtain ⟨hn2, hn5⟩ := hx.2.2.1
  obtain ⟨hE2, hE10⟩ := hx.2.2.2
  refine CT.of (own := R_L) rfl (by decide) (by cases o <;> exact Nat.le_of_ble_eq_true rfl) (cat_q (As := [.ref a, .int v]) (Bs := []) rfl rfl) ?_
  intro pp ee ss mm aa bb me cd hc hK hO hr hk hA
  refine AW.to (lv' := [some (.ref a), some (.int v), some (va_rf o), none, none]) rfl rfl rfl ?_
  refine a_iconst (pc' := 1) (v := nI 4) hc d_L_volumesWith_0 rfl (by decide) ?_
  refine c_newv (pc' := 4) hc hK hO hA hx hh cl_L_43 (by decide) (by decide) d_L_volumesWith_1 rfl (fun q1 n1 hh1 => ?_)
  have hh0 := hh
  have o1 := hh1.off (va_up_self _ _ _)
  refine AW.to (st' := [.ref q1]) rfl rfl rfl ?_
  refine a_astore_n (pc' := 5) hc d_L_volumesWith_4 rfl rfl (by decide) ?_
  refine a_iconst (pc' := 6) (v := nI 0) hc d_L_volumesWith_5 rfl (by decide) ?_
  refine a_istore (pc' := 8) hc d_L_volumesWith_6 rfl (by decide) ?_
  refine AW.to (f' := cw bx rl ca n E τ κ tk (va_up h q1 (some (.inl (ca 4, 4, .inr (.inr (.inr (.inr (vwG v o g 0))))))))) (by rw [vwG_0]) rfl rfl ?_
  refine AW.loop 4 0 (fun i8 => cw bx rl ca n E τ κ tk (va_up h q1 (some (.inl (ca 4, 4, .inr (.inr (.inr (.inr (vwG v o g i8))))))))) (fun i8 => [some (.ref a), some (.int v), some (va_rf o), some (.ref q1), some (.int (nI i8))]) (Nat.zero_le _) rfl rfl (fun i8 hle8 ih8 => ?_)
  try dsimp only at ih8 ⊢
  have hh := hh0.up (x := (.inl (ca 4, 4, .inr (.inr (.inr (.inr (vwG v o g i8))))))) o1
  have ha := Ext.up (x := some (.inl (ca 4, 4, .inr (.inr (.inr (.inr (vwG v o g i8))))))) n1 _ _ ha
  have hva := Ext.up (x := some (.inl (ca 4, 4, .inr (.inr (.inr (.inr (vwG v o g i8))))))) n1 _ _ hva
  refine a_iload (pc' := 10) hc d_L_volumesWith_8 rfl rfl ?_
  refine a_iconst (pc' := 11) (v := nI 4) hc d_L_volumesWith_10 rfl (by decide) ?_
  refine a_ncmp_ge (pc' := 14) (tgt := 41) hc d_L_volumesWith_11 rfl rfl (by omega) (by omega) (fun h11 => ?_) (fun h11 => ?_)
  · skip
    have hex11 : i8 = 4 := by omega
    subst i8
    refine a_aload_n (pc' := 42) hc d_L_volumesWith_41 rfl rfl rfl ?_
    refine AW.widen (k' := 1) (n' := 4) (by omega) (by omega) ?_
    exact a_aret (x := some q1) hc hr (Or.inr ⟨_, rfl⟩) hk d_L_volumesWith_42 (⟨q1, _, vwG v o g 4, rfl, ⟨rfl, Ext.up n1, hh⟩, va_up_self _ _ _, fun j hj => vwG_4 hj⟩)
  · skip
    refine a_aload_n (pc' := 15) hc d_L_volumesWith_14 rfl rfl rfl ?_
    refine a_iload (pc' := 17) hc d_L_volumesWith_15 rfl rfl ?_
    refine a_iload (pc' := 19) hc d_L_volumesWith_17 rfl rfl ?_
    refine a_iload_n (pc' := 20) hc d_L_volumesWith_19 rfl rfl rfl ?_
    refine a_icmp_ne (pc' := 23) (tgt := 27) hc d_L_volumesWith_20 rfl rfl (fun h20 => ?_) (fun h20 => ?_)
    · skip
      refine a_aload_n (pc' := 28) hc d_L_volumesWith_27 rfl rfl rfl ?_
      refine c_getH (pc' := 31) hc hK in_L rfl hh ha 0 (v := .ref va) (by decide) rfl fl_L_9 d_L_volumesWith_28 rfl ?_
      refine a_iload (pc' := 33) hc d_L_volumesWith_31 rfl rfl ?_
      refine c_aaldH (pc' := 34) hc hK hx hh hva i8 (by omega) d_L_volumesWith_33 rfl ?_
      refine c_vst (pc' := 35) hc hK hx hh (va_up_self _ _ _) i8 (by omega) (x := g i8) (fun b hb => (hg i8 (by omega) b hb).imp (fun fs hq => Ext.up n1 _ _ hq)) d_L_volumesWith_34 rfl ?_
      refine AW.to (st' := []) rfl rfl rfl ?_
      refine a_ninc (pc' := 38) hc d_L_volumesWith_35 rfl rfl (by decide) ?_
      refine a_goto (tgt := 8) hc d_L_volumesWith_38 rfl ?_
      refine AW.to (f' := cw bx rl ca n E τ κ tk (va_up h q1 (some (.inl (ca 4, 4, .inr (.inr (.inr (.inr (vwG v o g (i8 + 1)))))))))) (by rw [va_up_up]; exact congrArg (fun t => cw bx rl ca n E τ κ tk (va_up h q1 (some (.inl (ca 4, 4, .inr (.inr (.inr (.inr t)))))))) (vwG_s (by first | rw [if_pos h20] | rw [if_neg h20]))) rfl rfl ?_
      exact AW.to rfl rfl rfl (ih8 (by omega))
    · skip
      refine a_aload_nq (pc' := 24) hc d_L_volumesWith_23 rfl rfl rfl ?_
      refine a_goto (tgt := 34) hc d_L_volumesWith_24 rfl ?_
      refine c_vst (pc' := 35) hc hK hx hh (va_up_self _ _ _) i8 (by omega) (x := o) (fun b hb => (ho b hb).imp (fun fs hq => Ext.up n1 _ _ hq)) d_L_volumesWith_34 rfl ?_
      refine AW.to (st' := []) rfl rfl rfl ?_
      refine a_ninc (pc' := 38) hc d_L_volumesWith_35 rfl rfl (by decide) ?_
      refine a_goto (tgt := 8) hc d_L_volumesWith_38 rfl ?_
      refine AW.to (f' := cw bx rl ca n E τ κ tk (va_up h q1 (some (.inl (ca 4, 4, .inr (.inr (.inr (.inr (vwG v o g (i8 + 1)))))))))) (by rw [va_up_up]; exact congrArg (fun t => cw bx rl ca n E τ κ tk (va_up h q1 (some (.inl (ca 4, 4, .inr (.inr (.inr (.inr t)))))))) (vwG_s (by first | rw [if_pos h20] | rw [if_neg h20]))) rfl rfl ?_
      exact AW.to rfl rfl rfl (ih8 (by omega))
theorem ct_L_withMove (hx : CX bx rl ca tys n E) (hh : HD bx n h) {a va : Nat} {mv : Option Nat} {g : Nat → Option Nat} {o : Option Nat} (ha : h a = some (.inr (2, [.ref va, va_rf mv]))) (hva : h va = some (.inl (ca 4, 4, .inr (.inr (.inr (.inr g)))))) : CT l y_L_withMove (Cond.code y_L_withMove c_L_withMove 2 (some (.object "ExtentGroup$Layout")) :: WS) (ra 2 1 2) D vcl tys A (cw bx rl ca n E τ κ tk h) [.ref a, va_rf o] (fun v' f' => ∃ (r : Nat) (h' : Nat → Option va_E), v' = some (.ref r) ∧ Grown bx rl ca n E τ κ tk h f' h' ∧ h' r = some (.inr (2, [.ref va, va_rf o]))) 1 2 := by
  obtain ⟨hn2, hn5⟩ := hx.2.2.1
  obtain ⟨hE2, hE10⟩ := hx.2.2.2
  refine CT.of (own := R_L) rfl (by decide) (by cases o <;> exact Nat.le_of_ble_eq_true rfl) (cat_q (As := [.ref a]) (Bs := []) rfl rfl) ?_
  intro pp ee ss mm aa bb me cd hc hK hO hr hk hA
  refine AW.to (lv' := [some (.ref a), some (va_rf o)]) rfl rfl rfl ?_
  refine c_new (pc' := 3) (ci := 2) hc hK hA hx hh in_L ty_L ty_L_ok cl_L_10 mk_L rfl [.null, .null] (by decide) (by decide) (by decide) d_L_withMove_0 rfl (fun q0 n0 hh0 => ?_)
  have hhA := hh
  have hh := hh0
  have ha := Ext.up (x := some (.inr (2, [.null, .null]))) n0 _ _ ha
  refine AW.to (st' := [.ref q0]) rfl rfl rfl ?_
  refine a_dup (pc' := 4) hc d_L_withMove_3 rfl rfl ?_
  refine a_aload_n (pc' := 5) hc d_L_withMove_4 rfl rfl rfl ?_
  refine c_getH (pc' := 8) hc hK in_L rfl hh ha 0 (v := .ref va) (by decide) rfl fl_L_9 d_L_withMove_5 rfl ?_
  refine a_aload_nq (pc' := 9) hc d_L_withMove_8 rfl rfl rfl ?_
  refine a_cI (pc' := 12) hc hK hO hA (As := [.ref va, va_rf o]) (rest := [.ref q0]) (ct_L_init hx hh (τ := τ) (κ := κ) (tk := tk) (h := va_up h q0 (some (.inr (2, [.null, .null])))) (a := q0) (va := va) (mv := o) (va_up_self _ _ _)) ml_L_23 rfl hd_L_init rfl rfl ⟨by decide, by decide⟩ rfl rfl (Nat.le_of_ble_eq_true rfl) d_L_withMove_9 rfl ⟨by decide, by decide⟩ (fun v9 f9 hq9 => ?_)
  obtain ⟨rfl, rfl⟩ := hq9
  refine AW.to (st' := [.ref q0]) rfl rfl rfl ?_
  refine AW.widen (k' := 1) (n' := 2) (by omega) (by omega) ?_
  exact a_aret (x := some q0) hc hr (Or.inl ⟨_, rfl⟩) hk d_L_withMove_12 (⟨q0, _, rfl, ⟨rfl, (Ext.up n0).upx n0, hh.up (hh.off (va_up_self _ _ _))⟩, va_up_self _ _ _⟩)
theorem ct_L_withVolume (hx : CX bx rl ca tys n E) (hh : HD bx n h) {a va : Nat} {mv : Option Nat} {g : Nat → Option Nat} {v : Int32} {o : Option Nat} (ha : h a = some (.inr (2, [.ref va, va_rf mv]))) (hva : h va = some (.inl (ca 4, 4, .inr (.inr (.inr (.inr g)))))) (ho : ∀ b, o = some b → ∃ fs, h b = some (.inr (3, fs))) (hg : VolsAt h g) : CT l y_L_withVolume (Cond.code y_L_withVolume c_L_withVolume 3 (some (.object "ExtentGroup$Layout")) :: WS) (ra 2 2 6) D vcl tys A (cw bx rl ca n E τ κ tk h) [.ref a, .int v, va_rf o] (fun v' f' => ∃ (r va' : Nat) (h' : Nat → Option va_E) (g' : Nat → Option Nat), v' = some (.ref r) ∧ Grown bx rl ca n E τ κ tk h f' h' ∧ h' r = some (.inr (2, [.ref va', va_rf mv])) ∧ h' va' = some (.inl (ca 4, 4, .inr (.inr (.inr (.inr (g')))))) ∧ ∀ j, j < 4 → g' j = if nI j = v then o else g j) 2 6 := by
  obtain ⟨hn2, hn5⟩ := hx.2.2.1
  obtain ⟨hE2, hE10⟩ := hx.2.2.2
  refine CT.of (own := R_L) rfl (by decide) (by cases o <;> exact Nat.le_of_ble_eq_true rfl) (cat_q (As := [.ref a, .int v]) (Bs := []) rfl rfl) ?_
  intro pp ee ss mm aa bb me cd hc hK hO hr hk hA
  refine AW.to (lv' := [some (.ref a), some (.int v), some (va_rf o)]) rfl rfl rfl ?_
  refine c_new (pc' := 3) (ci := 2) hc hK hA hx hh in_L ty_L ty_L_ok cl_L_10 mk_L rfl [.null, .null] (by decide) (by decide) (by decide) d_L_withVolume_0 rfl (fun q0 n0 hh0 => ?_)
  have x0 := Ext.up (x := some (.inr (2, [.null, .null]))) n0
  have ha0 := x0 _ _ ha
  have hva0 := x0 _ _ hva
  refine AW.to (st' := [.ref q0]) rfl rfl rfl ?_
  refine a_dup (pc' := 4) hc d_L_withVolume_3 rfl rfl ?_
  refine a_aload_n (pc' := 5) hc d_L_withVolume_4 rfl rfl rfl ?_
  refine a_iload_n (pc' := 6) hc d_L_withVolume_5 rfl rfl rfl ?_
  refine a_aload_nq (pc' := 7) hc d_L_withVolume_6 rfl rfl rfl ?_
  refine a_cV (pc' := 10) hc hK hO hA (As := [.int v, va_rf o]) (rest := [.ref q0, .ref q0]) (ct_L_volumesWith hx hh0 (τ := τ) (κ := κ) (tk := tk) (h := va_up h q0 (some (.inr (2, [.null, .null])))) (a := a) (va := va) (mv := mv) (g := g) (v := v) (o := o) ha0 hva0 (fun b hb => (ho b hb).imp (fun fs hq => x0 _ _ hq)) (hg.ext x0)) ml_L_19 hd_L_volumesWith rfl rfl ⟨by decide, by decide⟩ (cw_h hh0 ha0) rfl rfl rfl rfl (Nat.le_of_ble_eq_true rfl) d_L_withVolume_7 rfl ⟨by decide, by decide⟩ (fun v7 f7 hq7 => ?_)
  obtain ⟨r7, h7, g7, rfl, ⟨rfl, x7, hh7⟩, hr7, hg7⟩ := hq7
  have hq0 := x7 _ _ (va_up_self h q0 (some (.inr (2, [.null, .null]))))
  have ne7 : r7 ≠ q0 := fun e => by rw [e, hq0] at hr7; cases hr7
  have hh := hh7
  have ha := x7 _ _ ha0
  refine AW.to (st' := [.ref r7, .ref q0, .ref q0]) rfl rfl rfl ?_
  refine a_aload_n (pc' := 11) hc d_L_withVolume_10 rfl rfl rfl ?_
  refine c_getH (pc' := 14) hc hK in_L rfl hh ha 1 (v := va_rf mv) (by decide) rfl fl_L_15 d_L_withVolume_11 rfl ?_
  refine a_cI (pc' := 17) hc hK hO hA (As := [.ref r7, va_rf mv]) (rest := [.ref q0]) (ct_L_init hx hh7 (τ := τ) (κ := κ) (tk := tk) (h := h7) (a := q0) (va := r7) (mv := mv) hq0) ml_L_23 rfl hd_L_init rfl rfl ⟨by decide, by decide⟩ rfl rfl (Nat.le_of_ble_eq_true rfl) d_L_withVolume_14 rfl ⟨by decide, by decide⟩ (fun v9 f9 hq9 => ?_)
  obtain ⟨rfl, rfl⟩ := hq9
  refine AW.to (st' := [.ref q0]) rfl rfl rfl ?_
  refine AW.widen (k' := 2) (n' := 6) (by omega) (by omega) ?_
  exact a_aret (x := some q0) hc hr (Or.inl ⟨_, rfl⟩) hk d_L_withVolume_17 (⟨q0, r7, _, g7, rfl, ⟨rfl, (x0.tr x7).upx n0, hh7.up (hh7.off hq0)⟩, va_up_self _ _ _, by rw [va_up_ne _ _ ne7]; exact hr7, hg7⟩)
