variable {l : Launch} {D : va_G} {tys : List (ClassId × FieldType)} {A : Nat → Prop} {bx rl : Nat → Nat} {ca : Nat → ClassId} {n E : Nat} {τ : TS} {κ : Nat → Option Nat} {tk : Nat → Int32} {h : Nat → Option va_E}
theorem ct_E_takeRow (hx : CX bx rl ca tys n E) (hh : HD bx n h) {pl M fr : Nat} {P : Nat → Int32} {Q u : Nat → Bool} (hpl : h pl = some (.inl (ca 0, M, .inl P)) ∧ M < 2 ^ 31) (hN : fr + cntL n Q ≤ M) (hfree : ∀ d, d < 5 → Q d = true → fsL (fun e => !u (16 * d + e)) E < E) : CC l y_E_takeRow c_E_takeRow 6 none 1 D tys A (cw bx rl ca n E τ κ (tkF u E) h) [.ref (bx 0), .int (nI (mkL Q n)), .ref pl, .int (nI fr)] none (cw bx rl ca n E τ κ (tkF (trU u E Q n) E) (va_up h pl (some (.inl (ca 0, M, .inl (trP u E Q P fr n)))))) := by
  obtain ⟨hn2, hn5⟩ := hx.2.2.1
  obtain ⟨hE2, hE10⟩ := hx.2.2.2
  have hh0 := hh
  have hz : va_up h pl (some (.inl (ca 0, M, .inl P))) = h := by rw [← hpl.1, va_up_id]
  refine CC.of (own := R_E) rfl (by decide) (Nat.le_of_ble_eq_true rfl) (cat_all rfl) ?_
  intro pp ee ss mm aa bb me cd hc hK hO hr hk hA
  refine AW.to (lv' := [some (.ref (bx 0)), some (.int (nI (mkL Q n))), some (.ref pl), some (.int (nI fr)), none, none]) rfl rfl rfl ?_
  refine a_iload_n (pc' := 1) hc d_E_takeRow_0 rfl rfl rfl ?_
  refine a_istore (pc' := 3) hc d_E_takeRow_1 rfl (by decide) ?_
  refine a_iconst (pc' := 4) (v := nI 0) hc d_E_takeRow_3 rfl (by decide) ?_
  refine a_istore (pc' := 6) hc d_E_takeRow_4 rfl (by decide) ?_
  refine AW.lvi 4 (y := nI (fr + cntL 0 Q)) rfl (rfl) ?_
  refine AW.to (f' := cw bx rl ca n E τ κ (tkF (trU u E Q 0) E) (va_up h pl (some (.inl (ca 0, M, .inl (trP u E Q P fr 0)))))) (congrArg (cw bx rl ca n E τ κ (tkF u E)) hz) rfl rfl ?_
  refine AW.loop n 0 (fun d6 => cw bx rl ca n E τ κ (tkF (trU u E Q d6) E) (va_up h pl (some (.inl (ca 0, M, .inl (trP u E Q P fr d6)))))) (fun d6 => [some (.ref (bx 0)), some (.int (nI (mkL Q n))), some (.ref pl), some (.int (nI fr)), some (.int (nI (fr + cntL d6 Q))), some (.int (nI d6))]) (Nat.zero_le _) rfl rfl (fun d6 hle6 ih6 => ?_)
  try dsimp only at ih6 ⊢
  have hh := hh0.up (x := (.inl (ca 0, M, .inl (trP u E Q P fr d6)))) (hh0.off hpl.1)
  have hpl6 : (va_up h pl (some (.inl (ca 0, M, .inl (trP u E Q P fr d6))))) pl = some (.inl (ca 0, M, .inl (trP u E Q P fr d6))) ∧ M < 2 ^ 31 := ⟨va_up_self _ _ _, hpl.2⟩
  have hc6 := cntL_mono (q := Q) hle6
  refine a_iload (pc' := 8) hc d_E_takeRow_6 rfl rfl ?_
  refine a_aload_n (pc' := 9) hc d_E_takeRow_8 rfl rfl rfl ?_
  refine c_getE (pc' := 12) hc hK hx 1 (v := .ref (bx 1)) (by decide) (rfl) fl_E_36 d_E_takeRow_9 rfl ?_
  refine c_dlen (pc' := 13) hc hK hx d_E_takeRow_12 rfl ?_
  refine a_ncmp_ge (pc' := 16) (tgt := 59) hc d_E_takeRow_13 rfl rfl (by omega) (by omega) (fun h13 => ?_) (fun h13 => ?_)
  · skip
    have hex13 : d6 = n := by omega
    subst d6
    exact a_vret hc hr hk d_E_takeRow_59 (e_v (rfl))
  · skip
    refine a_iload (pc' := 18) hc d_E_takeRow_16 rfl rfl ?_
    refine a_aload_n (pc' := 19) hc d_E_takeRow_18 rfl rfl rfl ?_
    refine c_alenH (pc' := 20) hc hK hx hh hpl6 d_E_takeRow_19 rfl ?_
    refine a_ncmp_ge (pc' := 23) (tgt := 59) hc d_E_takeRow_20 rfl rfl (by omega) (by omega) (fun h20 => ?_) (fun h20 => ?_)
    · skip
      obtain ⟨t20, p20⟩ := tr_end (u := u) (E := E) (P := P) hle6 hN h20
      exact a_vret hc hr hk d_E_takeRow_59 (e_v (by rw [t20, p20]))
    · skip
      refine a_iload_n (pc' := 24) hc d_E_takeRow_23 rfl rfl rfl ?_
      refine a_iconst (pc' := 25) (v := nI 1) hc d_E_takeRow_24 rfl (by decide) ?_
      refine a_iload (pc' := 27) hc d_E_takeRow_25 rfl rfl ?_
      refine a_ishl (pc' := 28) hc d_E_takeRow_27 rfl ?_
      refine a_iand (pc' := 29) hc d_E_takeRow_28 rfl ?_
      refine a_if_eq (pc' := 32) (tgt := 53) hc d_E_takeRow_29 rfl rfl (fun h29 => ?_) (fun h29 => ?_)
      · skip
        have q29 : Q d6 = false := (mk_and (q := Q) h13 (by omega)).mp h29
        refine a_ninc (pc' := 56) hc d_E_takeRow_53 rfl rfl (by decide) ?_
        refine a_goto (tgt := 6) hc d_E_takeRow_56 rfl ?_
        refine AW.lvi 4 (y := nI (fr + cntL (d6 + 1) Q)) rfl (by rw [cntL_s, q29]; rfl) ?_
        refine AW.to (f' := cw bx rl ca n E τ κ (tkF (trU u E Q (d6 + 1)) E) (va_up h pl (some (.inl (ca 0, M, .inl (trP u E Q P fr (d6 + 1))))))) (by rw [trU_s, trP_s, q29, if_neg (by decide), if_neg (by decide)]) rfl rfl ?_
        exact AW.to rfl rfl rfl (ih6 (by omega))
      · skip
        have q29 : Q d6 = true := by cases hq : Q d6 with | true => rfl | false => exact absurd ((mk_and (q := Q) h13 (by omega)).mpr hq) h29
        have f29 := trU_free hE10 hfree (show d6 < 5 by omega) q29
        obtain ⟨l29, m29⟩ := lfU_nat (show d6 < 5 by omega) hE10 f29
        refine a_aload_n (pc' := 33) hc d_E_takeRow_32 rfl rfl rfl ?_
        refine a_iload (pc' := 35) hc d_E_takeRow_33 rfl rfl ?_
        refine a_aload_n (pc' := 36) hc d_E_takeRow_35 rfl rfl rfl ?_
        refine a_iload (pc' := 38) hc d_E_takeRow_36 rfl rfl ?_
        refine c_calli (pc' := 41) hc hK hO hA (bx 0) [.int (nI d6)] [.int (nI (fr + cntL d6 Q)), .ref pl] (ct_E_leastFree hx hh (τ := τ) (κ := κ) (h := va_up h pl (some (.inl (ca 0, M, .inl (trP u E Q P fr d6))))) (d := d6) (u := (trU u E Q d6)) (by omega)) ml_E_138 hd_E_leastFree ⟨by decide, by decide⟩ rfl rfl (Nat.le_of_ble_eq_true rfl) (cw_at hx.1 (by omega)) rfl rfl d_E_takeRow_38 rfl ?_
        refine c_pst (pc' := 42) hc hK hx hh hpl6 (fr + cntL d6 Q) h20 d_E_takeRow_41 rfl ?_
        rw [va_up_up]
        have hh := hh0.up (x := .inl (ca 0, M, .inl (upd (trP u E Q P fr d6) (fr + cntL d6 Q) (lfU (trU u E Q d6) E d6)))) (hh0.off hpl.1)
        have hpl7 : (va_up h pl (some (.inl (ca 0, M, .inl (upd (trP u E Q P fr d6) (fr + cntL d6 Q) (lfU (trU u E Q d6) E d6))))) ) pl = some (.inl (ca 0, M, .inl (upd (trP u E Q P fr d6) (fr + cntL d6 Q) (lfU (trU u E Q d6) E d6)))) ∧ M < 2 ^ 31 := ⟨va_up_self _ _ _, hpl.2⟩
        refine AW.to (st' := []) rfl rfl rfl ?_
        refine a_aload_n (pc' := 43) hc d_E_takeRow_42 rfl rfl rfl ?_
        refine a_aload_n (pc' := 44) hc d_E_takeRow_43 rfl rfl rfl ?_
        refine a_iload (pc' := 46) hc d_E_takeRow_44 rfl rfl ?_
        refine c_ialdH (pc' := 47) hc hK hx hh hpl7 (fr + cntL d6 Q) (h20) d_E_takeRow_46 rfl ?_
        refine AW.topi (y := nI ((lfU (trU u E Q d6) E d6).toNatClampNeg)) (by rw [pk_us, m29]; exact l29) ?_
        refine c_callv (pc' := 50) hc hK hO hA (bx 0) [.int (nI ((lfU (trU u E Q d6) E d6).toNatClampNeg))] [] (ct_E_take hx hh (τ := τ) (κ := κ) (h := va_up h pl (some (.inl (ca 0, M, .inl (upd (trP u E Q P fr d6) (fr + cntL d6 Q) (lfU (trU u E Q d6) E d6)))))) (q := (lfU (trU u E Q d6) E d6).toNatClampNeg) (u := (trU u E Q d6)) (by rw [m29]; omega) (by rw [m29]; omega) (by rw [m29]; omega)) ml_E_244 hd_E_take ⟨by decide, by decide⟩ rfl rfl (Nat.le_of_ble_eq_true rfl) (cw_at hx.1 (by omega)) rfl rfl d_E_takeRow_47 rfl ?_
        refine a_ninc (pc' := 53) hc d_E_takeRow_50 rfl rfl (by decide) ?_
        refine a_ninc (pc' := 56) hc d_E_takeRow_53 rfl rfl (by decide) ?_
        refine a_goto (tgt := 6) hc d_E_takeRow_56 rfl ?_
        refine AW.lvi 4 (y := nI (fr + cntL (d6 + 1) Q)) rfl (by rw [cntL_s, q29]; rfl) ?_
        refine AW.to (f' := cw bx rl ca n E τ κ (tkF (trU u E Q (d6 + 1)) E) (va_up h pl (some (.inl (ca 0, M, .inl (trP u E Q P fr (d6 + 1))))))) (by rw [trU_s, trP_s, q29, if_pos rfl, if_pos rfl]) rfl rfl ?_
        exact AW.to rfl rfl rfl (ih6 (by omega))
theorem ct_E_takeRows (hx : CX bx rl ca tys n E) (hh : HD bx n h) {pa q va : Nat} {mv : Option Nat} {g : Nat → Option Nat} {h0 : Nat → Option va_E} (hP : PrOk h0 ca τ κ pa q va mv g) (hw : WFx n E τ 15) {a pl M w rc f0 : Nat} {s : Int32} {P : Nat → Int32} (ha : h a = some (.inr (3, [.int (nI w), .int s, .int (nI rc), .ref pl]))) (hpl : h pl = some (.inl (ca 0, M, .inl P)) ∧ M < 2 ^ 31) (e0 : Ext h0 h) (hM : M = w * rc) (hM12 : M ≤ 12) (hw0 : 0 < w) (hw4 : w ≤ 4) (hrc : rc ≤ 12) (hf0 : f0 ≤ rc) : CC l y_E_takeRows c_E_takeRows 5 (some .boolean) 4 D tys A (cw bx rl ca n E τ κ tk h) [.ref (bx 0), .ref a, .int (nI f0)] (some (.int (bI (trB τ n E w (rc - f0))))) (cw bx rl ca n E τ κ (tkF (twU τ n E w (fsL (qT τ n E w) (rc - f0))) E) (va_up h pl (some (.inl (ca 0, M, .inl (twP τ n E w f0 P (fsL (qT τ n E w) (rc - f0)))))))) := by
  obtain ⟨hn2, hn5⟩ := hx.2.2.1
  obtain ⟨hE2, hE10⟩ := hx.2.2.2
  have hh0 := hh
  have hz : va_up h pl (some (.inl (ca 0, M, .inl P))) = h := by rw [← hpl.1, va_up_id]
  have na : a ≠ pl := fun e => by rw [e, hpl.1] at ha; cases ha
  refine CC.of (own := R_E) rfl (by decide) (Nat.le_of_ble_eq_true rfl) (cat_all rfl) ?_
  intro pp ee ss mm aa bb me cd hc hK hO hr hk hA
  refine AW.to (lv' := [some (.ref (bx 0)), some (.ref a), some (.int (nI f0)), none, none]) rfl rfl rfl ?_
  refine a_aload_n (pc' := 1) hc d_E_takeRows_0 rfl rfl rfl ?_
  refine c_callv (pc' := 4) hc hK hO hA (bx 0) [] [] (ct_E_markTaken hx hh (τ := τ) (κ := κ) (tk := tk) (h := h) (pa := pa) (q := q) (va := va) (mv := mv) (g := g) (hP.ext e0) hw) ml_E_135 hd_E_markTaken ⟨by decide, by decide⟩ rfl rfl (Nat.le_of_ble_eq_true rfl) (cw_at hx.1 (by omega)) rfl rfl d_E_takeRows_1 rfl ?_
  refine a_iload_n (pc' := 5) hc d_E_takeRows_4 rfl rfl rfl ?_
  refine a_istore_n (pc' := 6) hc d_E_takeRows_5 rfl rfl (by decide) ?_
  refine AW.lvi 3 (y := nI (f0 + 0)) rfl (rfl) ?_
  refine AW.to (f' := cw bx rl ca n E τ κ (tkF (twU τ n E w 0) E) (va_up h pl (some (.inl (ca 0, M, .inl (twP τ n E w f0 P 0)))))) (congrArg (cw bx rl ca n E τ κ (tkF (usedB τ 15) E)) hz) rfl rfl ?_
  refine AW.loopG (rc - f0) 0 (fun i6 => cw bx rl ca n E τ κ (tkF (twU τ n E w i6) E) (va_up h pl (some (.inl (ca 0, M, .inl (twP τ n E w f0 P i6)))))) (fun i6 => [some (.ref (bx 0)), some (.ref a), some (.int (nI f0)), some (.int (nI (f0 + i6))), none]) (fun i6 => ∀ j, j < i6 → qT τ n E w j = false) (Nat.zero_le _) (fun j hj => absurd hj (by omega)) rfl rfl (fun i6 hle6 hG6 ih6 => ?_)
  try dsimp only at hG6 ih6 ⊢
  have hh := hh0.up (x := (.inl (ca 0, M, .inl (twP τ n E w f0 P i6)))) (hh0.off hpl.1)
  have hpl6 : (va_up h pl (some (.inl (ca 0, M, .inl (twP τ n E w f0 P i6))))) pl = some (.inl (ca 0, M, .inl (twP τ n E w f0 P i6))) ∧ M < 2 ^ 31 := ⟨va_up_self _ _ _, hpl.2⟩
  have ha6 : (va_up h pl (some (.inl (ca 0, M, .inl (twP τ n E w f0 P i6))))) a = some (.inr (3, [.int (nI w), .int s, .int (nI rc), .ref pl])) := by rw [va_up_ne _ _ na]; exact ha
  refine a_iload_n (pc' := 7) hc d_E_takeRows_6 rfl rfl rfl ?_
  refine a_aload_n (pc' := 8) hc d_E_takeRows_7 rfl rfl rfl ?_
  refine c_getH (pc' := 11) hc hK in_U rfl hh ha6 2 (v := .int (nI rc)) (by decide) rfl fl_E_105 d_E_takeRows_8 rfl ?_
  refine a_ncmp_ge (pc' := 14) (tgt := 53) hc d_E_takeRows_11 rfl rfl (by omega) (by omega) (fun h11 => ?_) (fun h11 => ?_)
  · skip
    have hex11 : i6 = rc - f0 := by omega
    subst i6
    obtain ⟨b11, e11⟩ := tr_done hG6
    refine a_iconst (pc' := 54) (v := nI 1) hc d_E_takeRows_53 rfl (by decide) ?_
    exact a_zret hc hr hk (Or.inr rfl) d_E_takeRows_54 (e_i (by rw [b11]; rfl) (by rw [e11]))
  · skip
    refine a_aload_n (pc' := 15) hc d_E_takeRows_14 rfl rfl rfl ?_
    refine a_aload_n (pc' := 16) hc d_E_takeRows_15 rfl rfl rfl ?_
    refine c_getH (pc' := 19) hc hK in_U rfl hh ha6 0 (v := .int (nI w)) (by decide) rfl fl_E_102 d_E_takeRows_16 rfl ?_
    refine c_calli (pc' := 22) hc hK hO hA (bx 0) [.int (nI w)] [] (ct_E_pickDisks hx hh (τ := τ) (κ := κ) (h := va_up h pl (some (.inl (ca 0, M, .inl (twP τ n E w f0 P i6))))) (w := w) (u := (twU τ n E w i6)) (by omega)) ml_E_253 hd_E_pickDisks ⟨by decide, by decide⟩ rfl rfl (Nat.le_of_ble_eq_true rfl) (cw_at hx.1 (by omega)) rfl rfl d_E_takeRows_19 rfl ?_
    refine a_istore (pc' := 24) hc d_E_takeRows_22 rfl (by decide) ?_
    refine a_iload (pc' := 26) hc d_E_takeRows_24 rfl rfl ?_
    refine a_if_ne (pc' := 29) (tgt := 31) hc d_E_takeRows_26 rfl rfl (fun h26 => ?_) (fun h26 => ?_)
    · skip
      have k26 : ¬ fsL (qK τ (twU τ n E w i6) n E) w < w := fun q => h26 ((pk_nz hw0 hn5).mpr q)
      have g26 := fsL_all k26
      refine AW.lvi 4 (y := nI (mkL (pkS τ (twU τ n E w i6) n E w) n)) rfl (pk_done g26) ?_
      refine a_aload_n (pc' := 32) hc d_E_takeRows_31 rfl rfl rfl ?_
      refine a_iload (pc' := 34) hc d_E_takeRows_32 rfl rfl ?_
      refine a_aload_n (pc' := 35) hc d_E_takeRows_34 rfl rfl rfl ?_
      refine c_getH (pc' := 38) hc hK in_U rfl hh ha6 3 (v := .ref pl) (by decide) rfl fl_E_125 d_E_takeRows_35 rfl ?_
      refine a_iload_n (pc' := 39) hc d_E_takeRows_38 rfl rfl rfl ?_
      refine a_aload_n (pc' := 40) hc d_E_takeRows_39 rfl rfl rfl ?_
      refine c_getH (pc' := 43) hc hK in_U rfl hh ha6 0 (v := .int (nI w)) (by decide) rfl fl_E_102 d_E_takeRows_40 rfl ?_
      refine a_nmul (pc' := 44) hc d_E_takeRows_43 rfl ?_
      refine c_callv (pc' := 47) hc hK hO hA (bx 0) [.int (nI (mkL (pkS τ (twU τ n E w i6) n E w) n)), .ref pl, .int (nI ((f0 + i6) * w))] [] (ct_E_takeRow hx hh (τ := τ) (κ := κ) (h := va_up h pl (some (.inl (ca 0, M, .inl (twP τ n E w f0 P i6))))) (pl := pl) (M := M) (fr := (f0 + i6) * w) (P := twP τ n E w f0 P i6) (Q := pkS τ (twU τ n E w i6) n E w) (u := twU τ n E w i6) hpl6 (row_fit hM (by omega) (pkS_cnt w g26)) (fun d _ hq => frU_fs (pkS_room w hq).1)) ml_E_256 hd_E_takeRow ⟨by decide, by decide⟩ rfl rfl (Nat.le_of_ble_eq_true rfl) (cw_at hx.1 (by omega)) rfl rfl d_E_takeRows_44 rfl ?_
      rw [va_up_up]
      refine a_ninc (pc' := 50) hc d_E_takeRows_47 rfl rfl (by decide) ?_
      refine a_goto (tgt := 6) hc d_E_takeRows_50 rfl ?_
      refine AW.mask [true, true, true, true, false] ?_
      refine AW.lvi 3 (y := nI (f0 + (i6 + 1))) rfl (rfl) ?_
      exact AW.to rfl rfl rfl (ih6 (by omega) (allf_s hG6 (decide_eq_false k26)))
    · skip
      obtain ⟨b26, e26⟩ := tr_stop (k := rc - f0) hG6 (by omega) ((pk_nz hw0 hn5).mp h26)
      refine a_iconst (pc' := 30) (v := nI 0) hc d_E_takeRows_29 rfl (by decide) ?_
      exact a_zret hc hr hk (Or.inl rfl) d_E_takeRows_30 (e_i (by rw [b26]; rfl) (by rw [e26]))
