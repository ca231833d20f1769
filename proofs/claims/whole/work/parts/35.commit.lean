variable {l : Launch} {D : va_G} {tys : List (ClassId × FieldType)} {A : Nat → Prop} {bx rl : Nat → Nat} {ca : Nat → ClassId} {n E : Nat} {τ : TS} {κ : Nat → Option Nat} {tk : Nat → Int32} {h : Nat → Option va_E}
theorem ct_E_commit (hx : CX bx rl ca tys n E) (hh : HD bx n h) {pa q ly : Nat} (hP : κ 0 = some pa ∧ h pa = some (.inr (0, [.int (τ 0 2), .int (τ 0 3), .ref q]))) (hS : ∀ d, d < n → ∀ i, i < 3 → SlOk τ κ h d i) (hac : tb (τ 0 7) = true → ¬ τ 0 8 < 0) (h6 : ∀ d, d < 5 → ¬ τ 6 d < 0) (hb6 : ∀ d, d < 5 → wrN τ d + 1 < 2 ^ 31) (hn0 : 0 < τ 0 2) (hn1 : 0 < τ 0 2 + nI 1) (hu : ∀ d, d < n → UqOk τ d) : CT l y_E_commit (Cond.code y_E_commit c_E_commit 5 (some .boolean) :: WS) (ra 4 1 3) D vcl tys A (cw bx rl ca n E τ κ tk h) [.ref (bx 0), .ref ly] (fun v' f' => ∃ r, h r = none ∧ HD bx n (va_up h r (some (.inr (0, [.int (τ 0 2 + nI 1), .int (τ 0 4 + nI 1), .ref ly])))) ∧ v' = some (.int (bI (cmB τ n))) ∧ f' = cw bx rl ca n E (cmW τ n) (cmF τ κ n r) tk (va_up h r (some (.inr (0, [.int (τ 0 2 + nI 1), .int (τ 0 4 + nI 1), .ref ly]))))) 1 3 := by
  obtain ⟨hn2, hn5⟩ := hx.2.2.1
  obtain ⟨hE2, hE10⟩ := hx.2.2.2
  refine CT.of (own := R_E) rfl (by decide) (Nat.le_of_ble_eq_true rfl) (cat_all rfl) ?_
  intro pp ee ss mm aa bb me cd hc hK hO hr hk hA
  refine AW.to (lv' := [some (.ref (bx 0)), some (.ref ly), none, none, none]) rfl rfl rfl ?_
  refine a_aload_n (pc' := 1) hc d_E_commit_0 rfl rfl rfl ?_
  refine a_dup (pc' := 2) hc d_E_commit_1 rfl rfl ?_
  refine c_getE (pc' := 5) hc hK hx 5 (v := .int (τ 0 4)) (by decide) (rfl) fl_E_57 d_E_commit_2 rfl ?_
  refine a_iconst (pc' := 6) (v := nI 1) hc d_E_commit_5 rfl (by decide) ?_
  refine a_iadd (pc' := 7) hc d_E_commit_6 rfl ?_
  refine c_putE (pc' := 10) hc hK hx (τ' := ts τ 0 4 (τ 0 4 + nI 1)) (κ' := κ) 5 (by decide) (e_04) (row0) (fun _ => rfl) rfl (rfl) (rfl) fl_E_57 d_E_commit_7 rfl ?_
  refine c_new (pc' := 13) (ci := 0) hc hK hA hx hh in_C ty_C ty_C_ok cl_E_22 mk_C rfl [.int 0, .int 0, .null] (by decide) (by decide) (by decide) d_E_commit_10 rfl (fun q10 n10 hh10 => ?_)
  have hh0 := hh
  have hP0 := hP
  have hh := hh10
  have hP := And.intro hP.1 (Ext.up (x := some (.inr (0, [.int 0, .int 0, .null]))) n10 _ _ hP.2)
  refine AW.to (st' := [.ref q10]) rfl rfl rfl ?_
  refine a_dup (pc' := 14) hc d_E_commit_13 rfl rfl ?_
  refine a_aload_n (pc' := 15) hc d_E_commit_14 rfl rfl rfl ?_
  refine c_getE (pc' := 18) hc hK hx 3 (v := .ref pa) (by decide) (by show some (va_rf (κ 0)) = _; rw [hP.1]; rfl) fl_E_47 d_E_commit_15 rfl ?_
  refine c_getH (pc' := 21) hc hK in_C rfl hh hP.2 0 (v := .int (τ 0 2)) (by decide) rfl fl_E_192 d_E_commit_18 rfl ?_
  refine a_iconst (pc' := 22) (v := nI 1) hc d_E_commit_21 rfl (by decide) ?_
  refine a_iadd (pc' := 23) hc d_E_commit_22 rfl ?_
  refine a_aload_n (pc' := 24) hc d_E_commit_23 rfl rfl rfl ?_
  refine c_getE (pc' := 27) hc hK hx 5 (v := .int ((ts τ 0 4 (τ 0 4 + nI 1)) 0 4)) (by decide) (rfl) fl_E_57 d_E_commit_24 rfl ?_
  refine AW.topi (y := τ 0 4 + nI 1) ts_at ?_
  refine a_aload_n (pc' := 28) hc d_E_commit_27 rfl rfl rfl ?_
  refine a_cI (pc' := 31) hc hK hO hA (As := [.int (τ 0 2 + nI 1), .int (τ 0 4 + nI 1), .ref ly]) (rest := [.ref q10]) (ct_C_init hx hh10 (τ := ts τ 0 4 (τ 0 4 + nI 1)) (κ := κ) (tk := tk) (h := va_up h q10 (some (.inr (0, [.int 0, .int 0, .null])))) (a := q10) (num := τ 0 2 + nI 1) (mark := τ 0 4 + nI 1) (la := ly) (va_up_self _ _ _)) ml_E_31 rfl hd_C_init rfl rfl ⟨by decide, by decide⟩ rfl rfl (Nat.le_of_ble_eq_true rfl) d_E_commit_28 rfl ⟨by decide, by decide⟩ (fun v9 f9 hq9 => ?_)
  obtain ⟨rfl, rfl⟩ := hq9
  rw [va_up_up]
  have hh : HD bx n (va_up h q10 (some (.inr (0, [.int (τ 0 2 + nI 1), .int (τ 0 4 + nI 1), .ref ly])))) := hh0.up (hh10.off (va_up_self _ _ _))
  have x28 := Ext.up (x := some (.inr (0, [.int (τ 0 2 + nI 1), .int (τ 0 4 + nI 1), .ref ly]))) n10
  have hP := And.intro hP0.1 (x28 _ _ hP0.2)
  have hN : (va_up h q10 (some (.inr (0, [.int (τ 0 2 + nI 1), .int (τ 0 4 + nI 1), .ref ly])))) q10 = some (.inr (0, [.int (τ 0 2 + nI 1), .int (τ 0 4 + nI 1), .ref ly])) := va_up_self _ _ _
  refine AW.to (st' := [.ref q10]) rfl rfl rfl ?_
  refine a_astore_n (pc' := 32) hc d_E_commit_31 rfl rfl (by decide) ?_
  refine a_iconst (pc' := 33) (v := nI 0) hc d_E_commit_32 rfl (by decide) ?_
  refine a_istore_n (pc' := 34) hc d_E_commit_33 rfl rfl (by decide) ?_
  refine AW.to (f' := cw bx rl ca n E (cmT τ 0) (cmK τ κ q10 0) tk (va_up h q10 (some (.inr (0, [.int (τ 0 2 + nI 1), .int (τ 0 4 + nI 1), .ref ly]))))) (rfl) rfl rfl ?_
  refine AW.loopG n 0 (fun d34 => cw bx rl ca n E (cmT τ d34) (cmK τ κ q10 d34) tk (va_up h q10 (some (.inr (0, [.int (τ 0 2 + nI 1), .int (τ 0 4 + nI 1), .ref ly]))))) (fun d34 => [some (.ref (bx 0)), some (.ref ly), some (.ref q10), some (.int (nI d34)), none]) (fun d34 => ∀ j, j < d34 → qC τ j = false) (Nat.zero_le _) (fun j hj => absurd hj (by omega)) rfl rfl (fun d34 hle34 hG34 ih34 => ?_)
  try dsimp only at hG34 ih34 ⊢
  refine a_iload_n (pc' := 35) hc d_E_commit_34 rfl rfl rfl ?_
  refine a_aload_n (pc' := 36) hc d_E_commit_35 rfl rfl rfl ?_
  refine c_getE (pc' := 39) hc hK hx 1 (v := .ref (bx 1)) (by decide) (rfl) fl_E_36 d_E_commit_36 rfl ?_
  refine c_dlen (pc' := 40) hc hK hx d_E_commit_39 rfl ?_
  refine a_ncmp_ge (pc' := 43) (tgt := 86) hc d_E_commit_40 rfl rfl (by omega) (by omega) (fun h40 => ?_) (fun h40 => ?_)
  · skip
    have hex40 : d34 = n := by omega
    subst d34
    refine a_aload_n (pc' := 87) hc d_E_commit_86 rfl rfl rfl ?_
    refine a_aload_n (pc' := 88) hc d_E_commit_87 rfl rfl rfl ?_
    refine c_putE (pc' := 91) hc hK hx (τ' := cmT τ n) (κ' := va_up (cmK τ κ q10 n) 0 (some q10)) 3 (by decide) (e_k0) (⟨rfl, rfl, rfl, rfl⟩) (k0_o) rfl (rfl) (rfl) fl_E_47 d_E_commit_88 rfl ?_
    refine a_iconst (pc' := 92) (v := nI 1) hc d_E_commit_91 rfl (by decide) ?_
    refine AW.widen (k' := 1) (n' := 3) (by omega) (by omega) ?_
    exact a_zret hc hr hk (Or.inr rfl) d_E_commit_92 (⟨q10, n10, hh, by rw [(cm_done hG34).1]; rfl, cm_donew hG34⟩)
  · skip
    refine a_aload_n (pc' := 44) hc d_E_commit_43 rfl rfl rfl ?_
    refine c_getE (pc' := 47) hc hK hx 1 (v := .ref (bx 1)) (by decide) (rfl) fl_E_36 d_E_commit_44 rfl ?_
    refine a_iload_n (pc' := 48) hc d_E_commit_47 rfl rfl rfl ?_
    refine c_ald (pc' := 49) hc hK hx d34 (by omega) d_E_commit_48 rfl ?_
    refine a_astore (pc' := 51) hc d_E_commit_49 rfl (by decide) ?_
    refine a_aload (pc' := 53) hc d_E_commit_51 rfl rfl ?_
    refine c_getD (pc' := 56) hc hK hx d34 4 (v := .int (bI (tb ((cmT τ d34) 1 d34)))) (by omega) (by decide) rfl fl_E_132 d_E_commit_53 rfl ?_
    refine a_ifb_eq (pc' := 59) (tgt := 80) hc d_E_commit_56 rfl rfl (fun h56 => ?_) (fun h56 => ?_)
    · skip
      refine a_ninc (pc' := 83) hc d_E_commit_80 rfl rfl (by decide) ?_
      refine a_goto (tgt := 34) hc d_E_commit_83 rfl ?_
      refine AW.mask [true, true, true, true, false] ?_
      refine AW.to (f' := cw bx rl ca n E (cmT τ (d34 + 1)) (cmK τ κ q10 (d34 + 1)) tk (va_up h q10 (some (.inr (0, [.int (τ 0 2 + nI 1), .int (τ 0 4 + nI 1), .ref ly]))))) (cmw_keep h56) rfl rfl ?_
      exact AW.to rfl rfl rfl (ih34 (by omega) (allf_s hG34 (by simp [qC, h56])))
    · skip
      refine a_aload_n (pc' := 60) hc d_E_commit_59 rfl rfl rfl ?_
      refine a_aload (pc' := 62) hc d_E_commit_60 rfl rfl ?_
      refine a_aload (pc' := 64) hc d_E_commit_62 rfl rfl ?_
      refine a_aload_n (pc' := 65) hc d_E_commit_64 rfl rfl rfl ?_
      refine c_getE (pc' := 68) hc hK hx 3 (v := .ref pa) (by decide) (by show some (va_rf ((cmK τ κ q10 d34) 0)) = _; rw [cmK_0 _ _ _ _, hP.1]; rfl) fl_E_47 d_E_commit_65 rfl ?_
      refine c_call (pc' := 71) hc hK hO hA (bx (3 + 4 * d34)) [.ref pa] [.ref (bx (3 + 4 * d34)), .ref (bx 0)] (ct_D_slotBehind hx hh (τ := cmT τ d34) (κ := cmK τ κ q10 d34) (tk := tk) (h := va_up h q10 (some (.inr (0, [.int (τ 0 2 + nI 1), .int (τ 0 4 + nI 1), .ref ly])))) (d := d34) (b := pa) (lb := q) (nb := τ 0 2) (sb := τ 0 3) (by omega) (fun i hi => (cmSl (hS d34 h40 i hi) hi).ext x28) hP.2) ml_E_224 hd_D_slotBehind ⟨by decide, by decide⟩ rfl rfl (Nat.le_of_ble_eq_true rfl) (cw_d0 hx (by omega)) rfl rfl d_E_commit_68 rfl ⟨by first | decide | (show _ ≤ _; simp only [ra]; omega), by first | decide | (show _ ≤ _; simp only [ra]; omega)⟩ ?_
      refine AW.to (st' := [.int (nI (bhN (cmT τ d34) (cmK τ κ q10 d34) d34 (τ 0 2) (τ 0 3))), .ref (bx (3 + 4 * d34)), .ref (bx 0)]) rfl rfl rfl ?_
      have hb68 := bhN_lt (cmT τ d34) (cmK τ κ q10 d34) d34 (τ 0 2) (τ 0 3)
      refine a_aload_n (pc' := 72) hc d_E_commit_71 rfl rfl rfl ?_
      refine c_call (pc' := 75) hc hK hO hA (bx 0) [.ref (bx (3 + 4 * d34)), .int (nI (bhN (cmT τ d34) (cmK τ κ q10 d34) d34 (τ 0 2) (τ 0 3))), .ref q10] [] (ct_E_putCopy hx hh (τ := cmT τ d34) (κ := cmK τ κ q10 d34) (tk := tk) (h := va_up h q10 (some (.inr (0, [.int (τ 0 2 + nI 1), .int (τ 0 4 + nI 1), .ref ly])))) (d := d34) (i := bhN (cmT τ d34) (cmK τ κ q10 d34) d34 (τ 0 2) (τ 0 3)) (a := q10) (la := ly) (na := τ 0 2 + nI 1) (sa := τ 0 4 + nI 1) (cm_hac hac d34 hG34) (by omega) hb68 hN hn1 (by rw [cmT_6 τ d34 d34 (Nat.le_refl _)]; exact h6 _ (by omega)) (by show ((cmT τ d34) 6 d34).toNatClampNeg + 1 < 2 ^ 31; rw [cmT_6 τ d34 d34 (Nat.le_refl _)]; exact hb6 _ (by omega))) ml_E_228 hd_E_putCopy ⟨by decide, by decide⟩ rfl rfl (Nat.le_of_ble_eq_true rfl) (cw_at hx.1 (by omega)) rfl rfl d_E_commit_72 rfl ⟨by first | decide | (show _ ≤ _; simp only [ra]; omega), by first | decide | (show _ ≤ _; simp only [ra]; omega)⟩ ?_
      refine AW.to (st' := [.int (bI (!stB (cmT τ d34)))]) rfl rfl rfl ?_
      refine a_ifb_ne (pc' := 78) (tgt := 80) hc d_E_commit_75 rfl rfl (fun h75 => ?_) (fun h75 => ?_)
      · skip
        refine a_ninc (pc' := 83) hc d_E_commit_80 rfl rfl (by decide) ?_
        refine a_goto (tgt := 34) hc d_E_commit_83 rfl ?_
        refine AW.mask [true, true, true, true, false] ?_
        refine AW.to (f' := cw bx rl ca n E (cmT τ (d34 + 1)) (cmK τ κ q10 (d34 + 1)) tk (va_up h q10 (some (.inr (0, [.int (τ 0 2 + nI 1), .int (τ 0 4 + nI 1), .ref ly]))))) (cm_next (hS d34 h40) hn0 (hu d34 h40) h56) rfl rfl ?_
        exact AW.to rfl rfl rfl (ih34 (by omega) (allf_s hG34 (by simp at h75; simp [qC, h75])))
      · skip
        refine a_iconst (pc' := 79) (v := nI 0) hc d_E_commit_78 rfl (by decide) ?_
        refine AW.widen (k' := 1) (n' := 3) (by omega) (by omega) ?_
        exact a_zret hc hr hk (Or.inl rfl) d_E_commit_79 (⟨q10, n10, hh, by rw [(cm_stop hG34 (by omega) h56 h75).1]; rfl, ((cm_next (hS d34 h40) hn0 (hu d34 h40) h56).symm).trans (cm_stopw hG34 (by omega) h56 h75)⟩)
