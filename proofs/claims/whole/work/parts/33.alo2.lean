variable {l : Launch} {D : va_G} {tys : List (ClassId × FieldType)} {A : Nat → Prop} {bx rl : Nat → Nat} {ca : Nat → ClassId} {n E : Nat} {τ : TS} {κ : Nat → Option Nat} {tk : Nat → Int32} {h : Nat → Option va_E}
theorem ct_U_withRows (hx : CX bx rl ca tys n E) (hh : HD bx n h) {a pl pn w s rc c : Nat} {P : Nat → Int32} (ha : h a = some (.inr (3, [.int (nI w), .int (nI s), .int (nI rc), .ref pl]))) (hpl : h pl = some (.inl (ca 0, pn, .inl P)) ∧ pn < 2 ^ 31) (hpn : pn ≤ 12) (hwc : w * c ≤ 12) : CT l y_U_withRows (Cond.code y_U_withRows c_U_withRows 2 (some (.object "ExtentGroup$Volume")) :: WS) (ra 2 2 16) D vcl tys A (cw bx rl ca n E τ κ tk h) [.ref a, .int (nI c)] (fun v' f' => ∃ (r pl' : Nat) (h' : Nat → Option va_E) (P' : Nat → Int32), v' = some (.ref r) ∧ Grown bx rl ca n E τ κ tk h f' h' ∧ h' r = some (.inr (3, [.int (nI w), .int (nI s), .int (nI c), .ref pl'])) ∧ h' pl' = some (.inl (ca 0, w * c, .inl P')) ∧ h pl' = none ∧ h r = none ∧ ∀ i, i < w * c → P' i = if i < pn then P i else 0) 2 16 := by
  obtain ⟨hn2, hn5⟩ := hx.2.2.1
  obtain ⟨hE2, hE10⟩ := hx.2.2.2
  refine CT.of (own := R_U) rfl (by decide) (Nat.le_of_ble_eq_true rfl) (cat_all rfl) ?_
  intro pp ee ss mm aa bb me cd hc hK hO hr hk hA
  refine AW.to (lv' := [some (.ref a), some (.int (nI c))]) rfl rfl rfl ?_
  refine c_new (pc' := 3) (ci := 3) hc hK hA hx hh in_U ty_U ty_U_ok cl_U_10 mk_U rfl [.int 0, .int 0, .int 0, .null] (by decide) (by decide) (by decide) d_U_withRows_0 rfl (fun q0 n0 hh0 => ?_)
  have x0 := Ext.up (x := some (.inr (3, [.int 0, .int 0, .int 0, .null]))) n0
  have ha := x0 _ _ ha
  have hpl0 := x0 _ _ hpl.1
  have hh := hh0
  refine AW.to (st' := [.ref q0]) rfl rfl rfl ?_
  refine a_dup (pc' := 4) hc d_U_withRows_3 rfl rfl ?_
  refine a_aload_n (pc' := 5) hc d_U_withRows_4 rfl rfl rfl ?_
  refine c_getH (pc' := 8) hc hK in_U rfl hh ha 0 (v := .int (nI w)) (by decide) rfl fl_U_9 d_U_withRows_5 rfl ?_
  refine a_aload_n (pc' := 9) hc d_U_withRows_8 rfl rfl rfl ?_
  refine c_getH (pc' := 12) hc hK in_U rfl hh ha 1 (v := .int (nI s)) (by decide) rfl fl_U_15 d_U_withRows_9 rfl ?_
  refine a_iload_n (pc' := 13) hc d_U_withRows_12 rfl rfl rfl ?_
  refine a_aload_n (pc' := 14) hc d_U_withRows_13 rfl rfl rfl ?_
  refine c_getH (pc' := 17) hc hK in_U rfl hh ha 3 (v := .ref pl) (by decide) rfl fl_U_21 d_U_withRows_14 rfl ?_
  refine a_aload_n (pc' := 18) hc d_U_withRows_17 rfl rfl rfl ?_
  refine c_getH (pc' := 21) hc hK in_U rfl hh ha 0 (v := .int (nI w)) (by decide) rfl fl_U_9 d_U_withRows_18 rfl ?_
  refine a_iload_n (pc' := 22) hc d_U_withRows_21 rfl rfl rfl ?_
  refine a_nmul (pc' := 23) hc d_U_withRows_22 rfl ?_
  refine a_cS (pc' := 26) hc hK hO hA (As := [.ref pl, .int (nI (w * c))]) (rest := [.int (nI c), .int (nI s), .int (nI w), .ref q0, .ref q0]) (ct_JA_copyOf hx.2.1.1 hpn hwc (cw_h hh0 hpl0)) ml_U_25 hd_JA_copyOf rfl rfl ⟨by decide, by decide⟩ rfl rfl (Nat.le_of_ble_eq_true rfl) d_U_withRows_23 rfl ⟨by decide, by decide⟩ (fun v7 f7 hq7 => ?_)
  obtain ⟨f8, ⟨r7, P7, rfl, ne7, rfl, hP7⟩, rfl, hj7⟩ := hq7
  have hn7 := hj7 r7 _ (va_up_self _ _ _) (va_up_ne _ _ ne7)
  have hr7 := cw_none hx.1 hn7
  have o7 := cw_new hx.1 hn7
  have ne8 : r7 ≠ q0 := fun e => by rw [e, va_up_self] at hr7; cases hr7
  have n7 : h r7 = none := by rw [va_up_ne _ _ ne8] at hr7; exact hr7
  refine AW.to (f' := cw bx rl ca n E τ κ tk (va_up (va_up h q0 (some (.inr (3, [.int 0, .int 0, .int 0, .null])))) r7 (some (.inl (ca 0, w * c, .inl P7))))) (join_cw hx.1 (cw_h hh0 hpl0) hn7).symm rfl rfl ?_
  have hh1 := hh0.up (x := .inl (ca 0, w * c, .inl P7)) o7
  have hq0 : va_up (va_up h q0 (some (.inr (3, [.int 0, .int 0, .int 0, .null])))) r7 (some (.inl (ca 0, w * c, .inl P7))) q0 = some (.inr (3, [.int 0, .int 0, .int 0, .null])) := by rw [va_up_ne _ _ ne8.symm]; exact va_up_self _ _ _
  refine AW.to (st' := [.ref r7, .int (nI c), .int (nI s), .int (nI w), .ref q0, .ref q0]) rfl rfl rfl ?_
  refine a_cI (pc' := 29) hc hK hO hA (As := [.int (nI w), .int (nI s), .int (nI c), .ref r7]) (rest := [.ref q0]) (ct_U_init hx hh1 (τ := τ) (κ := κ) (tk := tk) (h := va_up (va_up h q0 (some (.inr (3, [.int 0, .int 0, .int 0, .null])))) r7 (some (.inl (ca 0, w * c, .inl P7)))) (a := q0) (w := nI w) (s := nI s) (rc := nI c) (pl := r7) hq0) ml_U_31 rfl hd_U_init rfl rfl ⟨by decide, by decide⟩ rfl rfl (Nat.le_of_ble_eq_true rfl) d_U_withRows_26 rfl ⟨by decide, by decide⟩ (fun v9 f9 hq9 => ?_)
  obtain ⟨rfl, rfl⟩ := hq9
  refine AW.to (st' := [.ref q0]) rfl rfl rfl ?_
  refine AW.widen (k' := 2) (n' := 16) (by omega) (by omega) ?_
  exact a_aret (x := some q0) hc hr (Or.inl ⟨_, rfl⟩) hk d_U_withRows_29 (⟨q0, r7, _, P7, rfl, ⟨rfl, (x0.upx n7).upx n0, hh1.up (hh1.off hq0)⟩, va_up_self _ _ _, by rw [va_up_ne _ _ ne8]; exact va_up_self _ _ _, n7, n0, hP7⟩)
theorem ct_U_withPlace (hx : CX bx rl ca tys n E) (hh : HD bx n h) {a pl w s rc k : Nat} {x : Int32} {P : Nat → Int32} (ha : h a = some (.inr (3, [.int (nI w), .int (nI s), .int (nI rc), .ref pl]))) (hpl : h pl = some (.inl (ca 0, w * rc, .inl P)) ∧ w * rc < 2 ^ 31) (hwc : w * rc ≤ 12) (hk0 : k < w * rc) : CT l y_U_withPlace (Cond.code y_U_withPlace c_U_withPlace 4 (some (.object "ExtentGroup$Volume")) :: WS) (ra 3 2 16) D vcl tys A (cw bx rl ca n E τ κ tk h) [.ref a, .int (nI k), .int x] (fun v' f' => ∃ (r pl' : Nat) (h' : Nat → Option va_E) (P' : Nat → Int32), v' = some (.ref r) ∧ Grown bx rl ca n E τ κ tk h f' h' ∧ h' r = some (.inr (3, [.int (nI w), .int (nI s), .int (nI rc), .ref pl'])) ∧ h' pl' = some (.inl (ca 0, w * rc, .inl P')) ∧ h pl' = none ∧ h r = none ∧ ∀ i, i < w * rc → P' i = if i = k then x else P i) 2 16 := by
  obtain ⟨hn2, hn5⟩ := hx.2.2.1
  obtain ⟨hE2, hE10⟩ := hx.2.2.2
  refine CT.of (own := R_U) rfl (by decide) (Nat.le_of_ble_eq_true rfl) (cat_all rfl) ?_
  intro pp ee ss mm aa bb me cd hc hK hO hr hk hA
  refine AW.to (lv' := [some (.ref a), some (.int (nI k)), some (.int x), none]) rfl rfl rfl ?_
  refine a_aload_n (pc' := 1) hc d_U_withPlace_0 rfl rfl rfl ?_
  refine a_aload_n (pc' := 2) hc d_U_withPlace_1 rfl rfl rfl ?_
  refine c_getH (pc' := 5) hc hK in_U rfl hh ha 2 (v := .int (nI rc)) (by decide) rfl fl_U_18 d_U_withPlace_2 rfl ?_
  refine a_cV (pc' := 8) hc hK hO hA (As := [.int (nI rc)]) (rest := []) (ct_U_withRows hx hh (τ := τ) (κ := κ) (tk := tk) (h := h) (a := a) (pl := pl) (pn := w * rc) (w := w) (s := s) (rc := rc) (c := rc) (P := P) ha hpl hwc hwc) ml_U_34 hd_U_withRows rfl rfl ⟨by decide, by decide⟩ (cw_h hh ha) rfl rfl rfl rfl (Nat.le_of_ble_eq_true rfl) d_U_withPlace_5 rfl ⟨by decide, by decide⟩ (fun v5 f5 hq5 => ?_)
  obtain ⟨r5, p5, h5, P5, rfl, ⟨rfl, x5, hh5⟩, hr5, hp5, np5, nr5, hP5⟩ := hq5
  have hh0 := hh
  have hh := hh5
  have ha := x5 _ _ ha
  have hpl := (⟨x5 _ _ hpl.1, hpl.2⟩ : h5 pl = some (.inl (ca 0, w * rc, .inl P)) ∧ w * rc < 2 ^ 31)
  have ne5 : r5 ≠ p5 := fun e => by rw [e, hp5] at hr5; cases hr5
  refine AW.to (st' := [.ref r5]) rfl rfl rfl ?_
  refine a_astore_n (pc' := 9) hc d_U_withPlace_8 rfl rfl (by decide) ?_
  refine a_aload_n (pc' := 10) hc d_U_withPlace_9 rfl rfl rfl ?_
  refine a_iload_n (pc' := 11) hc d_U_withPlace_10 rfl rfl rfl ?_
  refine c_call (pc' := 14) hc hK hO hA (a) [.int (nI k)] [] (ct_U_hasExtent hx hh (τ := τ) (κ := κ) (tk := tk) (h := h5) (a := a) (pl := pl) (pn := w * rc) (w := nI w) (s := nI s) (rc := nI rc) (k := nI k) (g := P) ha hpl) ml_U_38 hd_U_hasExtent ⟨by decide, by decide⟩ rfl rfl (Nat.le_of_ble_eq_true rfl) (cw_h hh ha) rfl rfl d_U_withPlace_11 rfl ⟨by first | decide | (show _ ≤ _; simp only [ra]; omega), by first | decide | (show _ ≤ _; simp only [ra]; omega)⟩ ?_
  refine AW.to (st' := [.int (bI (!decide ((nI k) < 0) && !decide (nI (w * rc) ≤ (nI k))))]) rfl rfl rfl ?_
  refine a_ifb_eq (pc' := 17) (tgt := 24) hc d_U_withPlace_14 rfl rfl (fun h14 => absurd h14 (by simp [nI_pos (show k < 2 ^ 31 by omega), nI_ge hk0 (show w * rc < 2 ^ 31 by omega)])) (fun h14 => ?_)
  refine a_aload_n (pc' := 18) hc d_U_withPlace_17 rfl rfl rfl ?_
  refine c_getH (pc' := 21) hc hK in_U rfl hh hr5 3 (v := .ref p5) (by decide) rfl fl_U_21 d_U_withPlace_18 rfl ?_
  refine a_iload_n (pc' := 22) hc d_U_withPlace_21 rfl rfl rfl ?_
  refine a_iload_n (pc' := 23) hc d_U_withPlace_22 rfl rfl rfl ?_
  refine c_pst (pc' := 24) hc hK hx hh (q := p5) (N := w * rc) ⟨hp5, by omega⟩ k hk0 d_U_withPlace_23 rfl ?_
  refine AW.to (st' := []) rfl rfl rfl ?_
  refine a_aload_n (pc' := 25) hc d_U_withPlace_24 rfl rfl rfl ?_
  refine AW.widen (k' := 2) (n' := 16) (by omega) (by omega) ?_
  exact a_aret (x := some r5) hc hr (Or.inl ⟨_, rfl⟩) hk d_U_withPlace_25 (⟨r5, p5, _, upd P5 k x, rfl, ⟨rfl, x5.upx np5, hh5.up (hh5.off hp5)⟩, by rw [va_up_ne _ _ ne5]; exact hr5, va_up_self _ _ _, np5, nr5, fun i hi => by
          by_cases e : i = k
          · subst e; rw [pk_us, if_pos rfl]
          · rw [pk_un e, if_neg e, hP5 i hi, if_pos hi]⟩)
