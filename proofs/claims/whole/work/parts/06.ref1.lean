variable {l : Launch} {D : va_G} {tys : List (ClassId × FieldType)} {A : Nat → Prop} {ax rl : Nat → Nat} {ca : Nat → ClassId} {n E : Nat}
theorem ct_M_get (hx : MX ax rl ca tys n E) {τ : TS} {mp : Nat} {i : Nat} (hm : mp < 17) (hi : i < 64) : MC l y_M_get c_M_get 3 (some .int) 0 D tys A ax rl ca n E τ [.int (nI mp), .int (nI i)] (some (.int (gt τ mp i))) τ := by
  obtain ⟨hn2, hn5⟩ := hx.2.2.2.1
  obtain ⟨hE2, hE10⟩ := hx.2.2.2.2
  refine MC.of rfl (Nat.le_of_ble_eq_true rfl) (cat_all rfl) ?_
  intro pp ee ss mm aa bb me cd hc hK hO hr hk hA
  refine AW.to (lv' := [some (.ref (ax 0)), some (.int (nI mp)), some (.int (nI i))]) rfl rfl rfl ?_
  refine a_aload_n (pc' := 1) hc d_M_get_0 rfl rfl rfl ?_
  refine r_get (pc' := 4) hc hK hx 4 (v := .ref (ax 3)) (by decide) rfl fl_M_17 d_M_get_1 rfl ?_
  refine a_bipush (pc' := 6) (v := nI 64) hc d_M_get_4 rfl (by decide) ?_
  refine a_iload_n (pc' := 7) hc d_M_get_6 rfl rfl rfl ?_
  refine a_nmul (pc' := 8) hc d_M_get_7 rfl ?_
  refine a_iload_n (pc' := 9) hc d_M_get_8 rfl rfl rfl ?_
  refine a_nadd (pc' := 10) hc d_M_get_9 rfl ?_
  refine r_iald (pc' := 11) (N := 1088) hc hK hx 3 ((64 * mp) + i) (by decide) rfl (by omega) d_M_get_10 rfl ?_
  exact a_iret hc hr hk d_M_get_11 (m_i (by first | rfl | (simp only []; done) | (simp []; done)) (rfl))
theorem ct_M_set (hx : MX ax rl ca tys n E) {τ : TS} {mp : Nat} {i : Nat} {v : Int32} (hm : mp < 17) (hi : i < 64) : MC l y_M_set c_M_set 4 none 0 D tys A ax rl ca n E τ [.int (nI mp), .int (nI i), .int v] none (ts τ 3 (64 * mp + i) v) := by
  obtain ⟨hn2, hn5⟩ := hx.2.2.2.1
  obtain ⟨hE2, hE10⟩ := hx.2.2.2.2
  refine MC.of rfl (Nat.le_of_ble_eq_true rfl) (cat_all rfl) ?_
  intro pp ee ss mm aa bb me cd hc hK hO hr hk hA
  refine AW.to (lv' := [some (.ref (ax 0)), some (.int (nI mp)), some (.int (nI i)), some (.int v)]) rfl rfl rfl ?_
  refine a_aload_n (pc' := 1) hc d_M_set_0 rfl rfl rfl ?_
  refine r_get (pc' := 4) hc hK hx 4 (v := .ref (ax 3)) (by decide) rfl fl_M_17 d_M_set_1 rfl ?_
  refine a_bipush (pc' := 6) (v := nI 64) hc d_M_set_4 rfl (by decide) ?_
  refine a_iload_n (pc' := 7) hc d_M_set_6 rfl rfl rfl ?_
  refine a_nmul (pc' := 8) hc d_M_set_7 rfl ?_
  refine a_iload_n (pc' := 9) hc d_M_set_8 rfl rfl rfl ?_
  refine a_nadd (pc' := 10) hc d_M_set_9 rfl ?_
  refine a_iload_n (pc' := 11) hc d_M_set_10 rfl rfl rfl ?_
  refine r_iast (pc' := 12) (N := 1088) hc hK hx 3 ((64 * mp) + i) (by decide) rfl (by omega) d_M_set_11 rfl ?_
  exact a_vret hc hr hk d_M_set_12 (m_v (by first | rfl | (simp only []; done) | (simp []; done)))
theorem ct_M_copyMap (hx : MX ax rl ca tys n E) {τ : TS} {a : Nat} {b : Nat} (ha : a < 17) (hb : b < 17) : MC l y_M_copyMap c_M_copyMap 4 none 0 D tys A ax rl ca n E τ [.int (nI a), .int (nI b)] none (cpT τ a b 64) := by
  obtain ⟨hn2, hn5⟩ := hx.2.2.2.1
  obtain ⟨hE2, hE10⟩ := hx.2.2.2.2
  refine MC.of rfl (Nat.le_of_ble_eq_true rfl) (cat_all rfl) ?_
  intro pp ee ss mm aa bb me cd hc hK hO hr hk hA
  refine AW.to (lv' := [some (.ref (ax 0)), some (.int (nI a)), some (.int (nI b)), none]) rfl rfl rfl ?_
  refine a_iconst (pc' := 1) (v := nI 0) hc d_M_copyMap_0 rfl (by decide) ?_
  refine a_istore_n (pc' := 2) hc d_M_copyMap_1 rfl rfl (by decide) ?_
  refine AW.tw (τ1 := cpT τ a b 0) (cpT_0 _ _ _) ?_
  refine AW.loop 64 0 (fun i2 => tw ax rl ca n E (cpT τ a b i2)) (fun i2 => [some (.ref (ax 0)), some (.int (nI a)), some (.int (nI b)), some (.int (nI i2))]) (Nat.zero_le _) rfl rfl (fun i2 hle2 ih2 => ?_)
  try dsimp only at ih2 ⊢
  refine a_iload_n (pc' := 3) hc d_M_copyMap_2 rfl rfl rfl ?_
  refine a_bipush (pc' := 5) (v := nI 64) hc d_M_copyMap_3 rfl (by decide) ?_
  refine a_ncmp_ge (pc' := 8) (tgt := 36) hc d_M_copyMap_5 rfl rfl (by omega) (by omega) (fun h5 => ?_) (fun h5 => ?_)
  · skip
    have hex5 : i2 = 64 := by omega
    subst i2
    exact a_vret hc hr hk d_M_copyMap_36 (m_v (rfl))
  · skip
    refine a_aload_n (pc' := 9) hc d_M_copyMap_8 rfl rfl rfl ?_
    refine r_get (pc' := 12) hc hK hx 4 (v := .ref (ax 3)) (by decide) rfl fl_M_17 d_M_copyMap_9 rfl ?_
    refine a_bipush (pc' := 14) (v := nI 64) hc d_M_copyMap_12 rfl (by decide) ?_
    refine a_iload_n (pc' := 15) hc d_M_copyMap_14 rfl rfl rfl ?_
    refine a_nmul (pc' := 16) hc d_M_copyMap_15 rfl ?_
    refine a_iload_n (pc' := 17) hc d_M_copyMap_16 rfl rfl rfl ?_
    refine a_nadd (pc' := 18) hc d_M_copyMap_17 rfl ?_
    refine a_aload_n (pc' := 19) hc d_M_copyMap_18 rfl rfl rfl ?_
    refine r_get (pc' := 22) hc hK hx 4 (v := .ref (ax 3)) (by decide) rfl fl_M_17 d_M_copyMap_19 rfl ?_
    refine a_bipush (pc' := 24) (v := nI 64) hc d_M_copyMap_22 rfl (by decide) ?_
    refine a_iload_n (pc' := 25) hc d_M_copyMap_24 rfl rfl rfl ?_
    refine a_nmul (pc' := 26) hc d_M_copyMap_25 rfl ?_
    refine a_iload_n (pc' := 27) hc d_M_copyMap_26 rfl rfl rfl ?_
    refine a_nadd (pc' := 28) hc d_M_copyMap_27 rfl ?_
    refine r_iald (pc' := 29) (N := 1088) hc hK hx 3 ((64 * a) + i2) (by decide) rfl (by omega) d_M_copyMap_28 rfl ?_
    refine r_iast (pc' := 30) (N := 1088) hc hK hx 3 ((64 * b) + i2) (by decide) rfl (by omega) d_M_copyMap_29 rfl ?_
    refine a_ninc (pc' := 33) hc d_M_copyMap_30 rfl rfl (by decide) ?_
    refine a_goto (tgt := 2) hc d_M_copyMap_33 rfl ?_
    refine AW.tw (τ1 := cpT τ a b (i2 + 1)) (cpT_s (by omega)) ?_
    exact AW.to rfl rfl rfl (ih2 (by omega))
theorem ct_M_width (hx : MX ax rl ca tys n E) {τ : TS} {mp : Nat} {v : Nat} (hm : mp < 17) (hv : v < 4) : MC l y_M_width c_M_width 3 (some .int) 1 D tys A ax rl ca n E τ [.int (nI mp), .int (nI v)] (some (.int (gt τ mp (15 * v)))) τ := by
  obtain ⟨hn2, hn5⟩ := hx.2.2.2.1
  obtain ⟨hE2, hE10⟩ := hx.2.2.2.2
  refine MC.of rfl (Nat.le_of_ble_eq_true rfl) (cat_all rfl) ?_
  intro pp ee ss mm aa bb me cd hc hK hO hr hk hA
  refine AW.to (lv' := [some (.ref (ax 0)), some (.int (nI mp)), some (.int (nI v))]) rfl rfl rfl ?_
  refine a_aload_n (pc' := 1) hc d_M_width_0 rfl rfl rfl ?_
  refine a_iload_n (pc' := 2) hc d_M_width_1 rfl rfl rfl ?_
  refine a_bipush (pc' := 4) (v := nI 15) hc d_M_width_2 rfl (by decide) ?_
  refine a_iload_n (pc' := 5) hc d_M_width_4 rfl rfl rfl ?_
  refine a_nmul (pc' := 6) hc d_M_width_5 rfl ?_
  refine r_calli (pc' := 9) hc hK hO hA hx [.int (nI mp), .int (nI (15 * v))] [] (ct_M_get hx (τ := τ) (mp := mp) (i := 15 * v) (by omega) (by omega)) ml_M_49 hd_M_get ⟨by decide, by decide⟩ rfl rfl (Nat.le_of_ble_eq_true rfl) d_M_width_6 rfl ?_
  exact a_iret hc hr hk d_M_width_9 (m_i (rfl) (rfl))
theorem ct_M_rowsOf (hx : MX ax rl ca tys n E) {τ : TS} {mp : Nat} {v : Nat} (hm : mp < 17) (hv : v < 4) : MC l y_M_rowsOf c_M_rowsOf 3 (some .int) 1 D tys A ax rl ca n E τ [.int (nI mp), .int (nI v)] (some (.int (gt τ mp (15 * v + 2)))) τ := by
  obtain ⟨hn2, hn5⟩ := hx.2.2.2.1
  obtain ⟨hE2, hE10⟩ := hx.2.2.2.2
  refine MC.of rfl (Nat.le_of_ble_eq_true rfl) (cat_all rfl) ?_
  intro pp ee ss mm aa bb me cd hc hK hO hr hk hA
  refine AW.to (lv' := [some (.ref (ax 0)), some (.int (nI mp)), some (.int (nI v))]) rfl rfl rfl ?_
  refine a_aload_n (pc' := 1) hc d_M_rowsOf_0 rfl rfl rfl ?_
  refine a_iload_n (pc' := 2) hc d_M_rowsOf_1 rfl rfl rfl ?_
  refine a_bipush (pc' := 4) (v := nI 15) hc d_M_rowsOf_2 rfl (by decide) ?_
  refine a_iload_n (pc' := 5) hc d_M_rowsOf_4 rfl rfl rfl ?_
  refine a_nmul (pc' := 6) hc d_M_rowsOf_5 rfl ?_
  refine a_iconst (pc' := 7) (v := nI 2) hc d_M_rowsOf_6 rfl (by decide) ?_
  refine a_nadd (pc' := 8) hc d_M_rowsOf_7 rfl ?_
  refine r_calli (pc' := 11) hc hK hO hA hx [.int (nI mp), .int (nI ((15 * v) + 2))] [] (ct_M_get hx (τ := τ) (mp := mp) (i := (15 * v) + 2) (by omega) (by omega)) ml_M_49 hd_M_get ⟨by decide, by decide⟩ rfl rfl (Nat.le_of_ble_eq_true rfl) d_M_rowsOf_8 rfl ?_
  exact a_iret hc hr hk d_M_rowsOf_11 (m_i (by first | rfl | (simp only []; done) | (simp []; done)) (rfl))
theorem ct_M_isVolume (hx : MX ax rl ca tys n E) {τ : TS} {v : Int32}  : MC l y_M_isVolume c_M_isVolume 2 (some .boolean) 2 D tys A ax rl ca n E τ [.int v] (some (.int (bI (volB τ v)))) τ := by
  obtain ⟨hn2, hn5⟩ := hx.2.2.2.1
  obtain ⟨hE2, hE10⟩ := hx.2.2.2.2
  refine MC.of rfl (Nat.le_of_ble_eq_true rfl) (cat_all rfl) ?_
  intro pp ee ss mm aa bb me cd hc hK hO hr hk hA
  refine AW.to (lv' := [some (.ref (ax 0)), some (.int v)]) rfl rfl rfl ?_
  refine a_iload_n (pc' := 1) hc d_M_isVolume_0 rfl rfl rfl ?_
  refine a_if_lt (pc' := 4) (tgt := 23) hc d_M_isVolume_1 rfl rfl (fun h1 => ?_) (fun h1 => ?_)
  · skip
    refine a_iconst (pc' := 24) (v := nI 0) hc d_M_isVolume_23 rfl (by decide) ?_
    exact a_zret hc hr hk (Or.inl rfl) d_M_isVolume_24 (m_i (by first | rfl | (simp only [volB, bI, h1]; done) | (simp [volB, bI, h1]; done)) (rfl))
  · skip
    refine a_iload_n (pc' := 5) hc d_M_isVolume_4 rfl rfl rfl ?_
    refine a_iconst (pc' := 6) (v := nI 4) hc d_M_isVolume_5 rfl (by decide) ?_
    refine a_icmp_ge (pc' := 9) (tgt := 23) hc d_M_isVolume_6 rfl rfl (fun h6 => ?_) (fun h6 => ?_)
    · skip
      refine a_iconst (pc' := 24) (v := nI 0) hc d_M_isVolume_23 rfl (by decide) ?_
      exact a_zret hc hr hk (Or.inl rfl) d_M_isVolume_24 (m_i (by first | rfl | (simp only [volB, bI, h1, h6]; done) | (simp [volB, bI, h1, h6]; done)) (rfl))
    · skip
      obtain ⟨j, hj, ej, cj⟩ := ix_of (by decide) h1 h6
      subst ej
      refine a_aload_n (pc' := 10) hc d_M_isVolume_9 rfl rfl rfl ?_
      refine a_bipush (pc' := 12) (v := nI 15) hc d_M_isVolume_10 rfl (by decide) ?_
      refine a_iload_n (pc' := 13) hc d_M_isVolume_12 rfl rfl rfl ?_
      refine r_calli (pc' := 16) hc hK hO hA hx [.int (nI 15), .int (nI j)] [] (ct_M_rowsOf hx (τ := τ) (mp := 15) (v := j) (by omega) (by omega)) ml_M_53 hd_M_rowsOf ⟨by decide, by decide⟩ rfl rfl (Nat.le_of_ble_eq_true rfl) d_M_isVolume_13 rfl ?_
      refine a_if_le (pc' := 19) (tgt := 23) hc d_M_isVolume_16 rfl rfl (fun h16 => ?_) (fun h16 => ?_)
      · skip
        refine a_iconst (pc' := 24) (v := nI 0) hc d_M_isVolume_23 rfl (by decide) ?_
        exact a_zret hc hr hk (Or.inl rfl) d_M_isVolume_24 (m_i (by first | rfl | (simp only [volB, bI, h1, h6, cj, h16]; done) | (simp [volB, bI, h1, h6, cj, h16]; done)) (rfl))
      · skip
        refine a_iconst (pc' := 20) (v := nI 1) hc d_M_isVolume_19 rfl (by decide) ?_
        refine a_goto (tgt := 24) hc d_M_isVolume_20 rfl ?_
        exact a_zret hc hr hk (Or.inr rfl) d_M_isVolume_24 (m_i (by first | rfl | (simp only [volB, bI, h1, h6, cj, h16]; done) | (simp [volB, bI, h1, h6, cj, h16]; done)) (rfl))
theorem ct_M_extentsOf (hx : MX ax rl ca tys n E) {τ : TS} {mp : Nat} {v : Nat} (hm : mp < 17) (hv : v < 4) (hw : WFm τ mp) : MC l y_M_extentsOf c_M_extentsOf 3 (some .int) 2 D tys A ax rl ca n E τ [.int (nI mp), .int (nI v)] (some (.int (nI (exN τ mp v)))) τ := by
  obtain ⟨hn2, hn5⟩ := hx.2.2.2.1
  obtain ⟨hE2, hE10⟩ := hx.2.2.2.2
  refine MC.of rfl (Nat.le_of_ble_eq_true rfl) (cat_all rfl) ?_
  intro pp ee ss mm aa bb me cd hc hK hO hr hk hA
  refine AW.to (lv' := [some (.ref (ax 0)), some (.int (nI mp)), some (.int (nI v))]) rfl rfl rfl ?_
  refine a_aload_n (pc' := 1) hc d_M_extentsOf_0 rfl rfl rfl ?_
  refine a_iload_n (pc' := 2) hc d_M_extentsOf_1 rfl rfl rfl ?_
  refine a_iload_n (pc' := 3) hc d_M_extentsOf_2 rfl rfl rfl ?_
  refine r_calli (pc' := 6) hc hK hO hA hx [.int (nI mp), .int (nI v)] [] (ct_M_width hx (τ := τ) (mp := mp) (v := v) (by omega) (by omega)) ml_M_56 hd_M_width ⟨by decide, by decide⟩ rfl rfl (Nat.le_of_ble_eq_true rfl) d_M_extentsOf_3 rfl ?_
  refine AW.topi (y := nI (gN τ mp (15 * v))) (hw.n (by omega) (by omega)) ?_
  refine a_aload_n (pc' := 7) hc d_M_extentsOf_6 rfl rfl rfl ?_
  refine a_iload_n (pc' := 8) hc d_M_extentsOf_7 rfl rfl rfl ?_
  refine a_iload_n (pc' := 9) hc d_M_extentsOf_8 rfl rfl rfl ?_
  refine r_calli (pc' := 12) hc hK hO hA hx [.int (nI mp), .int (nI v)] [.int (nI (gN τ mp (15 * v)))] (ct_M_rowsOf hx (τ := τ) (mp := mp) (v := v) (by omega) (by omega)) ml_M_53 hd_M_rowsOf ⟨by decide, by decide⟩ rfl rfl (Nat.le_of_ble_eq_true rfl) d_M_extentsOf_9 rfl ?_
  refine AW.topi (y := nI (gN τ mp (15 * v + 2))) (hw.n (by omega) (by omega)) ?_
  refine a_nmul (pc' := 13) hc d_M_extentsOf_12 rfl ?_
  exact a_iret hc hr hk d_M_extentsOf_13 (m_i (by first | rfl | (simp only []; done) | (simp []; done)) (rfl))
theorem ct_M_used (hx : MX ax rl ca tys n E) {τ : TS} {mp : Nat} {id : Nat} (hm : mp < 17) (hid : id < 2 ^ 31) (hw : WFm τ mp) : MC l y_M_used c_M_used 7 (some .boolean) 3 D tys A ax rl ca n E τ [.int (nI mp), .int (nI id)] (some (.int (bI (usedB τ mp id)))) τ := by
  obtain ⟨hn2, hn5⟩ := hx.2.2.2.1
  obtain ⟨hE2, hE10⟩ := hx.2.2.2.2
  refine MC.of rfl (Nat.le_of_ble_eq_true rfl) (cat_all rfl) ?_
  intro pp ee ss mm aa bb me cd hc hK hO hr hk hA
  refine AW.to (lv' := [some (.ref (ax 0)), some (.int (nI mp)), some (.int (nI id)), none, none, none, none]) rfl rfl rfl ?_
  refine AW.cut (f1 := tw ax rl ca n E τ) (pc1 := 26) (lv1 := [some (.ref (ax 0)), some (.int (nI mp)), some (.int (nI id)), none, none, none, none]) (st1 := [.int (bI (uL τ mp id 0))]) ?_ (fun kcut0 => ?_)
  · skip
    refine a_istore_n (pc' := 27) hc d_M_used_26 rfl rfl (by decide) ?_
    refine a_iconst (pc' := 28) (v := nI 0) hc d_M_used_27 rfl (by decide) ?_
    refine a_istore (pc' := 30) hc d_M_used_28 rfl (by decide) ?_
    refine AW.loop 4 0 (fun v30 => tw ax rl ca n E τ) (fun v30 => [some (.ref (ax 0)), some (.int (nI mp)), some (.int (nI id)), some (.int (bI (uL τ mp id v30))), some (.int (nI v30)), none, none]) (Nat.zero_le _) rfl rfl (fun v30 hle30 ih30 => ?_)
    try dsimp only at ih30 ⊢
    refine a_iload (pc' := 32) hc d_M_used_30 rfl rfl ?_
    refine a_iconst (pc' := 33) (v := nI 4) hc d_M_used_32 rfl (by decide) ?_
    refine a_ncmp_ge (pc' := 36) (tgt := 96) hc d_M_used_33 rfl rfl (by omega) (by omega) (fun h33 => ?_) (fun h33 => ?_)
    · skip
      have hex33 : v30 = 4 := by omega
      subst v30
      refine a_iload_n (pc' := 97) hc d_M_used_96 rfl rfl rfl ?_
      exact a_zret hc hr hk (bI_or _) d_M_used_97 (m_i (by first | rfl | (simp only [uL, orA_s, orA_0, qU, bI, h33]; done) | (simp [uL, orA_s, orA_0, qU, bI, h33]; done)) (rfl))
    · skip
      refine a_aload_n (pc' := 37) hc d_M_used_36 rfl rfl rfl ?_
      refine a_iload_n (pc' := 38) hc d_M_used_37 rfl rfl rfl ?_
      refine a_iload (pc' := 40) hc d_M_used_38 rfl rfl ?_
      refine r_calli (pc' := 43) hc hK hO hA hx [.int (nI mp), .int (nI v30)] [] (ct_M_extentsOf hx (τ := τ) (mp := mp) (v := v30) (by omega) (by omega) hw) ml_M_59 hd_M_extentsOf ⟨by decide, by decide⟩ rfl rfl (Nat.le_of_ble_eq_true rfl) d_M_used_40 rfl ?_
      have hx40 := hw.ex (v := v30) (by omega)
      refine a_istore (pc' := 45) hc d_M_used_43 rfl (by decide) ?_
      refine a_iconst (pc' := 46) (v := nI 0) hc d_M_used_45 rfl (by decide) ?_
      refine a_istore (pc' := 48) hc d_M_used_46 rfl (by decide) ?_
      refine AW.lvi 3 (y := bI (orA (uL τ mp id v30) 0 (qU τ mp id v30))) rfl (by first | rfl | (simp only [uL, orA_s, orA_0, qU, bI, h33]; done) | (simp [uL, orA_s, orA_0, qU, bI, h33]; done)) ?_
      refine AW.loop (exN τ mp v30) 0 (fun k48 => tw ax rl ca n E τ) (fun k48 => [some (.ref (ax 0)), some (.int (nI mp)), some (.int (nI id)), some (.int (bI (orA (uL τ mp id v30) k48 (qU τ mp id v30)))), some (.int (nI v30)), some (.int (nI (exN τ mp v30))), some (.int (nI k48))]) (Nat.zero_le _) rfl rfl (fun k48 hle48 ih48 => ?_)
      try dsimp only at ih48 ⊢
      refine a_iload (pc' := 50) hc d_M_used_48 rfl rfl ?_
      refine a_iload (pc' := 52) hc d_M_used_50 rfl rfl ?_
      refine a_ncmp_ge (pc' := 55) (tgt := 90) hc d_M_used_52 rfl rfl (by omega) (by omega) (fun h52 => ?_) (fun h52 => ?_)
      · skip
        have hex52 : k48 = exN τ mp v30 := by omega
        subst k48
        refine a_ninc (pc' := 93) hc d_M_used_90 rfl rfl (by decide) ?_
        refine a_goto (tgt := 30) hc d_M_used_93 rfl ?_
        refine AW.mask [true, true, true, true, true, false, false] ?_
        refine AW.lvi 3 (y := bI (uL τ mp id (v30 + 1))) rfl (by first | rfl | (simp only [uL, orA_s, orA_0, qU, bI, h33, h52]; done) | (simp [uL, orA_s, orA_0, qU, bI, h33, h52]; done)) ?_
        exact AW.to rfl rfl rfl (ih30 (by omega))
      · skip
        refine a_iload_n (pc' := 56) hc d_M_used_55 rfl rfl rfl ?_
        refine a_ifb_ne (pc' := 59) (tgt := 78) hc d_M_used_56 rfl rfl (fun h56 => ?_) (fun h56 => ?_)
        · skip
          refine a_iconst (pc' := 79) (v := nI 1) hc d_M_used_78 rfl (by decide) ?_
          refine a_goto (tgt := 83) hc d_M_used_79 rfl ?_
          refine a_istore_n (pc' := 84) hc d_M_used_83 rfl rfl (by decide) ?_
          refine a_ninc (pc' := 87) hc d_M_used_84 rfl rfl (by decide) ?_
          refine a_goto (tgt := 48) hc d_M_used_87 rfl ?_
          refine AW.lvi 3 (y := bI (orA (uL τ mp id v30) (k48 + 1) (qU τ mp id v30))) rfl (by first | rfl | (simp only [uL, orA_s, orA_0, qU, bI, h33, h52, h56]; done) | (simp [uL, orA_s, orA_0, qU, bI, h33, h52, h56]; done)) ?_
          exact AW.to rfl rfl rfl (ih48 (by omega))
        · skip
          refine a_aload_n (pc' := 60) hc d_M_used_59 rfl rfl rfl ?_
          refine a_iload_n (pc' := 61) hc d_M_used_60 rfl rfl rfl ?_
          refine a_bipush (pc' := 63) (v := nI 15) hc d_M_used_61 rfl (by decide) ?_
          refine a_iload (pc' := 65) hc d_M_used_63 rfl rfl ?_
          refine a_nmul (pc' := 66) hc d_M_used_65 rfl ?_
          refine a_iconst (pc' := 67) (v := nI 3) hc d_M_used_66 rfl (by decide) ?_
          refine a_nadd (pc' := 68) hc d_M_used_67 rfl ?_
          refine a_iload (pc' := 70) hc d_M_used_68 rfl rfl ?_
          refine a_nadd (pc' := 71) hc d_M_used_70 rfl ?_
          refine r_calli (pc' := 74) hc hK hO hA hx [.int (nI mp), .int (nI (((15 * v30) + 3) + k48))] [] (ct_M_get hx (τ := τ) (mp := mp) (i := ((15 * v30) + 3) + k48) (by omega) (by omega)) ml_M_49 hd_M_get ⟨by decide, by decide⟩ rfl rfl (Nat.le_of_ble_eq_true rfl) d_M_used_71 rfl ?_
          refine a_iload_n (pc' := 75) hc d_M_used_74 rfl rfl rfl ?_
          refine a_icmp_ne (pc' := 78) (tgt := 82) hc d_M_used_75 rfl rfl (fun h75 => ?_) (fun h75 => ?_)
          · skip
            refine a_iconst (pc' := 83) (v := nI 0) hc d_M_used_82 rfl (by decide) ?_
            refine a_istore_n (pc' := 84) hc d_M_used_83 rfl rfl (by decide) ?_
            refine a_ninc (pc' := 87) hc d_M_used_84 rfl rfl (by decide) ?_
            refine a_goto (tgt := 48) hc d_M_used_87 rfl ?_
            refine AW.lvi 3 (y := bI (orA (uL τ mp id v30) (k48 + 1) (qU τ mp id v30))) rfl (by first | rfl | (simp only [uL, orA_s, orA_0, qU, bI, h33, h52, h56, h75]; done) | (simp [uL, orA_s, orA_0, qU, bI, h33, h52, h56, h75]; done)) ?_
            exact AW.to rfl rfl rfl (ih48 (by omega))
          · skip
            refine a_iconst (pc' := 79) (v := nI 1) hc d_M_used_78 rfl (by decide) ?_
            refine a_goto (tgt := 83) hc d_M_used_79 rfl ?_
            refine a_istore_n (pc' := 84) hc d_M_used_83 rfl rfl (by decide) ?_
            refine a_ninc (pc' := 87) hc d_M_used_84 rfl rfl (by decide) ?_
            refine a_goto (tgt := 48) hc d_M_used_87 rfl ?_
            refine AW.lvi 3 (y := bI (orA (uL τ mp id v30) (k48 + 1) (qU τ mp id v30))) rfl (by first | rfl | (simp only [uL, orA_s, orA_0, qU, bI, h33, h52, h56, h75]; done) | (simp [uL, orA_s, orA_0, qU, bI, h33, h52, h56, h75]; done)) ?_
            exact AW.to rfl rfl rfl (ih48 (by omega))
  · skip
    refine a_aload_n (pc' := 1) hc d_M_used_0 rfl rfl rfl ?_
    refine a_iload_n (pc' := 2) hc d_M_used_1 rfl rfl rfl ?_
    refine a_bipush (pc' := 4) (v := nI 60) hc d_M_used_2 rfl (by decide) ?_
    refine r_calli (pc' := 7) hc hK hO hA hx [.int (nI mp), .int (nI 60)] [] (ct_M_get hx (τ := τ) (mp := mp) (i := 60) (by omega) (by omega)) ml_M_49 hd_M_get ⟨by decide, by decide⟩ rfl rfl (Nat.le_of_ble_eq_true rfl) d_M_used_4 rfl ?_
    refine a_if_lt (pc' := 10) (tgt := 25) hc d_M_used_7 rfl rfl (fun h7 => ?_) (fun h7 => ?_)
    · skip
      refine a_iconst (pc' := 26) (v := nI 0) hc d_M_used_25 rfl (by decide) ?_
      refine AW.topi (y := bI (uL τ mp id 0)) (by first | rfl | (simp only [uL, orA_s, orA_0, qU, bI, h7]; done) | (simp [uL, orA_s, orA_0, qU, bI, h7]; done)) ?_
      exact AW.to rfl rfl rfl (kcut0)
    · skip
      refine a_aload_n (pc' := 11) hc d_M_used_10 rfl rfl rfl ?_
      refine a_iload_n (pc' := 12) hc d_M_used_11 rfl rfl rfl ?_
      refine a_bipush (pc' := 14) (v := nI 62) hc d_M_used_12 rfl (by decide) ?_
      refine r_calli (pc' := 17) hc hK hO hA hx [.int (nI mp), .int (nI 62)] [] (ct_M_get hx (τ := τ) (mp := mp) (i := 62) (by omega) (by omega)) ml_M_49 hd_M_get ⟨by decide, by decide⟩ rfl rfl (Nat.le_of_ble_eq_true rfl) d_M_used_14 rfl ?_
      refine a_iload_n (pc' := 18) hc d_M_used_17 rfl rfl rfl ?_
      refine a_icmp_ne (pc' := 21) (tgt := 25) hc d_M_used_18 rfl rfl (fun h18 => ?_) (fun h18 => ?_)
      · skip
        refine a_iconst (pc' := 26) (v := nI 0) hc d_M_used_25 rfl (by decide) ?_
        refine AW.topi (y := bI (uL τ mp id 0)) (by first | rfl | (simp only [uL, orA_s, orA_0, qU, bI, h7, h18]; done) | (simp [uL, orA_s, orA_0, qU, bI, h7, h18]; done)) ?_
        exact AW.to rfl rfl rfl (kcut0)
      · skip
        refine a_iconst (pc' := 22) (v := nI 1) hc d_M_used_21 rfl (by decide) ?_
        refine a_goto (tgt := 26) hc d_M_used_22 rfl ?_
        refine AW.topi (y := bI (uL τ mp id 0)) (by first | rfl | (simp only [uL, orA_s, orA_0, qU, bI, h7, h18]; done) | (simp [uL, orA_s, orA_0, qU, bI, h7, h18]; done)) ?_
        exact AW.to rfl rfl rfl (kcut0)
theorem ct_M_freeOf (hx : MX ax rl ca tys n E) {τ : TS} {mp : Nat} {d : Nat} (hm : mp < 17) (hd : d < 5) (hw : WFm τ mp) : MC l y_M_freeOf c_M_freeOf 5 (some .int) 4 D tys A ax rl ca n E τ [.int (nI mp), .int (nI d)] (some (.int (nI (frN τ E mp d)))) τ := by
  obtain ⟨hn2, hn5⟩ := hx.2.2.2.1
  obtain ⟨hE2, hE10⟩ := hx.2.2.2.2
  refine MC.of rfl (Nat.le_of_ble_eq_true rfl) (cat_all rfl) ?_
  intro pp ee ss mm aa bb me cd hc hK hO hr hk hA
  refine AW.to (lv' := [some (.ref (ax 0)), some (.int (nI mp)), some (.int (nI d)), none, none]) rfl rfl rfl ?_
  refine a_iconst (pc' := 1) (v := nI 0) hc d_M_freeOf_0 rfl (by decide) ?_
  refine a_istore_n (pc' := 2) hc d_M_freeOf_1 rfl rfl (by decide) ?_
  refine a_iconst (pc' := 3) (v := nI 0) hc d_M_freeOf_2 rfl (by decide) ?_
  refine a_istore (pc' := 5) hc d_M_freeOf_3 rfl (by decide) ?_
  refine AW.lvi 3 (y := nI (cntL 0 (qF τ mp d))) rfl (by first | rfl | (simp only [cntL_s, cntL_0, qF]; done) | (simp [cntL_s, cntL_0, qF]; done)) ?_
  refine AW.loop E 0 (fun e5 => tw ax rl ca n E τ) (fun e5 => [some (.ref (ax 0)), some (.int (nI mp)), some (.int (nI d)), some (.int (nI (cntL e5 (qF τ mp d)))), some (.int (nI e5))]) (Nat.zero_le _) rfl rfl (fun e5 hle5 ih5 => ?_)
  try dsimp only at ih5 ⊢
  refine a_iload (pc' := 7) hc d_M_freeOf_5 rfl rfl ?_
  refine a_aload_n (pc' := 8) hc d_M_freeOf_7 rfl rfl rfl ?_
  refine r_get (pc' := 11) hc hK hx 1 (v := .int (nI E)) (by decide) rfl fl_M_33 d_M_freeOf_8 rfl ?_
  refine a_ncmp_ge (pc' := 14) (tgt := 43) hc d_M_freeOf_11 rfl rfl (by omega) (by omega) (fun h11 => ?_) (fun h11 => ?_)
  · skip
    have hex11 : e5 = E := by omega
    subst e5
    refine a_iload_n (pc' := 44) hc d_M_freeOf_43 rfl rfl rfl ?_
    exact a_iret hc hr hk d_M_freeOf_44 (m_i (by first | rfl | (simp only [cntL_s, cntL_0, qF, h11]; done) | (simp [cntL_s, cntL_0, qF, h11]; done)) (rfl))
  · skip
    refine a_iload_n (pc' := 15) hc d_M_freeOf_14 rfl rfl rfl ?_
    refine a_aload_n (pc' := 16) hc d_M_freeOf_15 rfl rfl rfl ?_
    refine a_iload_n (pc' := 17) hc d_M_freeOf_16 rfl rfl rfl ?_
    refine a_bipush (pc' := 19) (v := nI 16) hc d_M_freeOf_17 rfl (by decide) ?_
    refine a_iload_n (pc' := 20) hc d_M_freeOf_19 rfl rfl rfl ?_
    refine a_nmul (pc' := 21) hc d_M_freeOf_20 rfl ?_
    refine a_iload (pc' := 23) hc d_M_freeOf_21 rfl rfl ?_
    refine a_nadd (pc' := 24) hc d_M_freeOf_23 rfl ?_
    refine r_calli (pc' := 27) hc hK hO hA hx [.int (nI mp), .int (nI ((16 * d) + e5))] [.int (nI (cntL e5 (qF τ mp d)))] (ct_M_used hx (τ := τ) (mp := mp) (id := (16 * d) + e5) (by omega) (by omega) hw) ml_M_62 hd_M_used ⟨by decide, by decide⟩ rfl rfl (Nat.le_of_ble_eq_true rfl) d_M_freeOf_24 rfl ?_
    refine a_ifb_eq (pc' := 30) (tgt := 34) hc d_M_freeOf_27 rfl rfl (fun h27 => ?_) (fun h27 => ?_)
    · skip
      refine a_iconst (pc' := 35) (v := nI 1) hc d_M_freeOf_34 rfl (by decide) ?_
      refine a_nadd (pc' := 36) hc d_M_freeOf_35 rfl ?_
      refine a_istore_n (pc' := 37) hc d_M_freeOf_36 rfl rfl (by decide) ?_
      refine a_ninc (pc' := 40) hc d_M_freeOf_37 rfl rfl (by decide) ?_
      refine a_goto (tgt := 5) hc d_M_freeOf_40 rfl ?_
      refine AW.lvi 3 (y := nI (cntL (e5 + 1) (qF τ mp d))) rfl (by first | rfl | (simp only [cntL_s, cntL_0, qF, h11, h27]; done) | (simp [cntL_s, cntL_0, qF, h11, h27]; done)) ?_
      exact AW.to rfl rfl rfl (ih5 (by omega))
    · skip
      refine a_iconst (pc' := 31) (v := nI 0) hc d_M_freeOf_30 rfl (by decide) ?_
      refine a_goto (tgt := 35) hc d_M_freeOf_31 rfl ?_
      refine a_nadd (pc' := 36) hc d_M_freeOf_35 rfl ?_
      refine a_istore_n (pc' := 37) hc d_M_freeOf_36 rfl rfl (by decide) ?_
      refine a_ninc (pc' := 40) hc d_M_freeOf_37 rfl rfl (by decide) ?_
      refine a_goto (tgt := 5) hc d_M_freeOf_40 rfl ?_
      refine AW.lvi 3 (y := nI (cntL (e5 + 1) (qF τ mp d))) rfl (by first | rfl | (simp only [cntL_s, cntL_0, qF, h11, h27]; done) | (simp [cntL_s, cntL_0, qF, h11, h27]; done)) ?_
      exact AW.to rfl rfl rfl (ih5 (by omega))
theorem ct_M_leastFree (hx : MX ax rl ca tys n E) {τ : TS} {mp : Nat} {d : Nat} (hm : mp < 17) (hd : d < 5) (hw : WFm τ mp) : MC l y_M_leastFree c_M_leastFree 4 (some .int) 4 D tys A ax rl ca n E τ [.int (nI mp), .int (nI d)] (some (.int (lfI τ E mp d))) τ := by
  obtain ⟨hn2, hn5⟩ := hx.2.2.2.1
  obtain ⟨hE2, hE10⟩ := hx.2.2.2.2
  refine MC.of rfl (Nat.le_of_ble_eq_true rfl) (cat_all rfl) ?_
  intro pp ee ss mm aa bb me cd hc hK hO hr hk hA
  refine AW.to (lv' := [some (.ref (ax 0)), some (.int (nI mp)), some (.int (nI d)), none]) rfl rfl rfl ?_
  refine a_iconst (pc' := 1) (v := nI 0) hc d_M_leastFree_0 rfl (by decide) ?_
  refine a_istore_n (pc' := 2) hc d_M_leastFree_1 rfl rfl (by decide) ?_
  refine AW.loopG E 0 (fun e2 => tw ax rl ca n E τ) (fun e2 => [some (.ref (ax 0)), some (.int (nI mp)), some (.int (nI d)), some (.int (nI e2))]) (fun e2 => ∀ j, j < e2 → qF τ mp d j = false) (Nat.zero_le _) (fun j hj => absurd hj (by omega)) rfl rfl (fun e2 hle2 hG2 ih2 => ?_)
  try dsimp only at hG2 ih2 ⊢
  refine a_iload_n (pc' := 3) hc d_M_leastFree_2 rfl rfl rfl ?_
  refine a_aload_n (pc' := 4) hc d_M_leastFree_3 rfl rfl rfl ?_
  refine r_get (pc' := 7) hc hK hx 1 (v := .int (nI E)) (by decide) rfl fl_M_33 d_M_leastFree_4 rfl ?_
  refine a_ncmp_ge (pc' := 10) (tgt := 37) hc d_M_leastFree_7 rfl rfl (by omega) (by omega) (fun h7 => ?_) (fun h7 => ?_)
  · skip
    have hex7 : e2 = E := by omega
    subst e2
    refine a_iconst (pc' := 38) (v := -1) hc d_M_leastFree_37 rfl (by decide) ?_
    exact a_iret hc hr hk d_M_leastFree_38 (m_i (lfI_miss hG2) (rfl))
  · skip
    refine a_aload_n (pc' := 11) hc d_M_leastFree_10 rfl rfl rfl ?_
    refine a_iload_n (pc' := 12) hc d_M_leastFree_11 rfl rfl rfl ?_
    refine a_bipush (pc' := 14) (v := nI 16) hc d_M_leastFree_12 rfl (by decide) ?_
    refine a_iload_n (pc' := 15) hc d_M_leastFree_14 rfl rfl rfl ?_
    refine a_nmul (pc' := 16) hc d_M_leastFree_15 rfl ?_
    refine a_iload_n (pc' := 17) hc d_M_leastFree_16 rfl rfl rfl ?_
    refine a_nadd (pc' := 18) hc d_M_leastFree_17 rfl ?_
    refine r_calli (pc' := 21) hc hK hO hA hx [.int (nI mp), .int (nI ((16 * d) + e2))] [] (ct_M_used hx (τ := τ) (mp := mp) (id := (16 * d) + e2) (by omega) (by omega) hw) ml_M_62 hd_M_used ⟨by decide, by decide⟩ rfl rfl (Nat.le_of_ble_eq_true rfl) d_M_leastFree_18 rfl ?_
    refine a_ifb_ne (pc' := 24) (tgt := 31) hc d_M_leastFree_21 rfl rfl (fun h21 => ?_) (fun h21 => ?_)
    · skip
      refine a_ninc (pc' := 34) hc d_M_leastFree_31 rfl rfl (by decide) ?_
      refine a_goto (tgt := 2) hc d_M_leastFree_34 rfl ?_
      exact AW.to rfl rfl rfl (ih2 (by omega) (allf_s hG2 (by simp [qF, h21])))
    · skip
      refine a_bipush (pc' := 26) (v := nI 16) hc d_M_leastFree_24 rfl (by decide) ?_
      refine a_iload_n (pc' := 27) hc d_M_leastFree_26 rfl rfl rfl ?_
      refine a_nmul (pc' := 28) hc d_M_leastFree_27 rfl ?_
      refine a_iload_n (pc' := 29) hc d_M_leastFree_28 rfl rfl rfl ?_
      refine a_nadd (pc' := 30) hc d_M_leastFree_29 rfl ?_
      exact a_iret hc hr hk d_M_leastFree_30 (m_i (lfI_hit hG2 (by simp [qF, h21]) (by omega)) (rfl))
theorem ct_M_before (hx : MX ax rl ca tys n E) {τ : TS} {d : Nat} (hd : d < 5) (hw : WFm τ 16) : MC l y_M_before c_M_before 6 (some .int) 5 D tys A ax rl ca n E τ [.int (nI d)] (some (.int (nI (cntL n (qB τ E d))))) τ := by
  obtain ⟨hn2, hn5⟩ := hx.2.2.2.1
  obtain ⟨hE2, hE10⟩ := hx.2.2.2.2
  refine MC.of rfl (Nat.le_of_ble_eq_true rfl) (cat_all rfl) ?_
  intro pp ee ss mm aa bb me cd hc hK hO hr hk hA
  refine AW.to (lv' := [some (.ref (ax 0)), some (.int (nI d)), none, none, none, none]) rfl rfl rfl ?_
  refine a_aload_n (pc' := 1) hc d_M_before_0 rfl rfl rfl ?_
  refine a_bipush (pc' := 3) (v := nI 16) hc d_M_before_1 rfl (by decide) ?_
  refine a_iload_n (pc' := 4) hc d_M_before_3 rfl rfl rfl ?_
  refine r_calli (pc' := 7) hc hK hO hA hx [.int (nI 16), .int (nI d)] [] (ct_M_freeOf hx (τ := τ) (mp := 16) (d := d) (by omega) (by omega) hw) ml_M_66 hd_M_freeOf ⟨by decide, by decide⟩ rfl rfl (Nat.le_of_ble_eq_true rfl) d_M_before_4 rfl ?_
  have hf4 := frN_le τ E 16 d
  refine a_istore_n (pc' := 8) hc d_M_before_7 rfl rfl (by decide) ?_
  refine a_iconst (pc' := 9) (v := nI 0) hc d_M_before_8 rfl (by decide) ?_
  refine a_istore_n (pc' := 10) hc d_M_before_9 rfl rfl (by decide) ?_
  refine a_iconst (pc' := 11) (v := nI 0) hc d_M_before_10 rfl (by decide) ?_
  refine a_istore (pc' := 13) hc d_M_before_11 rfl (by decide) ?_
  refine AW.lvi 3 (y := nI (cntL 0 (qB τ E d))) rfl (by first | rfl | (rw [cntL_s, show qB τ E d x13 = true by first | (simp [qB, frH, h29]; done) | (simp [qB, frH, h29]; omega)]; rfl) | (rw [cntL_s, show qB τ E d x13 = false by first | (simp [qB, frH, h29]; done) | (simp [qB, frH, h29]; omega)]; rfl)) ?_
  refine AW.loop n 0 (fun x13 => tw ax rl ca n E τ) (fun x13 => [some (.ref (ax 0)), some (.int (nI d)), some (.int (nI (frN τ E 16 d))), some (.int (nI (cntL x13 (qB τ E d)))), some (.int (nI x13)), none]) (Nat.zero_le _) rfl rfl (fun x13 hle13 ih13 => ?_)
  try dsimp only at ih13 ⊢
  refine a_iload (pc' := 15) hc d_M_before_13 rfl rfl ?_
  refine a_aload_n (pc' := 16) hc d_M_before_15 rfl rfl rfl ?_
  refine r_get (pc' := 19) hc hK hx 0 (v := .int (nI n)) (by decide) rfl fl_M_29 d_M_before_16 rfl ?_
  refine a_ncmp_ge (pc' := 22) (tgt := 84) hc d_M_before_19 rfl rfl (by omega) (by omega) (fun h19 => ?_) (fun h19 => ?_)
  · skip
    have hex19 : x13 = n := by omega
    subst x13
    refine a_iload_n (pc' := 85) hc d_M_before_84 rfl rfl rfl ?_
    exact a_iret hc hr hk d_M_before_85 (m_i (rfl) (rfl))
  · skip
    refine a_aload_n (pc' := 23) hc d_M_before_22 rfl rfl rfl ?_
    refine r_get (pc' := 26) hc hK hx 2 (v := .ref (ax 1)) (by decide) rfl fl_M_7 d_M_before_23 rfl ?_
    refine a_iload (pc' := 28) hc d_M_before_26 rfl rfl ?_
    refine r_zald (pc' := 29) hc hK hx x13 (by omega) d_M_before_28 rfl ?_
    refine a_ifb_eq (pc' := 32) (tgt := 43) hc d_M_before_29 rfl rfl (fun h29 => ?_) (fun h29 => ?_)
    · skip
      refine a_iconst (pc' := 44) (v := nI 0) hc d_M_before_43 rfl (by decide) ?_
      refine a_istore (pc' := 46) hc d_M_before_44 rfl (by decide) ?_
      refine a_iload_n (pc' := 47) hc d_M_before_46 rfl rfl rfl ?_
      refine a_iload (pc' := 49) hc d_M_before_47 rfl rfl ?_
      refine a_iload_n (pc' := 50) hc d_M_before_49 rfl rfl rfl ?_
      refine a_ncmp_eq (pc' := 53) (tgt := 75) hc d_M_before_50 rfl rfl (by omega) (by omega) (fun h50 => ?_) (fun h50 => ?_)
      · skip
        refine a_iconst (pc' := 76) (v := nI 0) hc d_M_before_75 rfl (by decide) ?_
        refine a_nadd (pc' := 77) hc d_M_before_76 rfl ?_
        refine a_istore_n (pc' := 78) hc d_M_before_77 rfl rfl (by decide) ?_
        refine a_ninc (pc' := 81) hc d_M_before_78 rfl rfl (by decide) ?_
        refine a_goto (tgt := 13) hc d_M_before_81 rfl ?_
        refine AW.mask [true, true, true, true, true, false] ?_
        refine AW.lvi 3 (y := nI (cntL (x13 + 1) (qB τ E d))) rfl (by first | rfl | (rw [cntL_s, show qB τ E d x13 = true by first | (simp [qB, frH, h29]; done) | (simp [qB, frH, h29]; omega)]; rfl) | (rw [cntL_s, show qB τ E d x13 = false by first | (simp [qB, frH, h29]; done) | (simp [qB, frH, h29]; omega)]; rfl)) ?_
        exact AW.to rfl rfl rfl (ih13 (by omega))
      · skip
        refine a_iload (pc' := 55) hc d_M_before_53 rfl rfl ?_
        refine a_iload_n (pc' := 56) hc d_M_before_55 rfl rfl rfl ?_
        refine a_ncmp_gt (pc' := 59) (tgt := 71) hc d_M_before_56 rfl rfl (by omega) (by omega) (fun h56 => ?_) (fun h56 => ?_)
        · skip
          refine a_iconst (pc' := 72) (v := nI 1) hc d_M_before_71 rfl (by decide) ?_
          refine a_goto (tgt := 76) hc d_M_before_72 rfl ?_
          refine a_nadd (pc' := 77) hc d_M_before_76 rfl ?_
          refine a_istore_n (pc' := 78) hc d_M_before_77 rfl rfl (by decide) ?_
          refine a_ninc (pc' := 81) hc d_M_before_78 rfl rfl (by decide) ?_
          refine a_goto (tgt := 13) hc d_M_before_81 rfl ?_
          refine AW.mask [true, true, true, true, true, false] ?_
          refine AW.lvi 3 (y := nI (cntL (x13 + 1) (qB τ E d))) rfl (by first | rfl | (rw [cntL_s, show qB τ E d x13 = true by first | (simp [qB, frH, h29]; done) | (simp [qB, frH, h29]; omega)]; rfl) | (rw [cntL_s, show qB τ E d x13 = false by first | (simp [qB, frH, h29]; done) | (simp [qB, frH, h29]; omega)]; rfl)) ?_
          exact AW.to rfl rfl rfl (ih13 (by omega))
        · skip
          refine a_iload (pc' := 61) hc d_M_before_59 rfl rfl ?_
          refine a_iload_n (pc' := 62) hc d_M_before_61 rfl rfl rfl ?_
          refine a_ncmp_ne (pc' := 65) (tgt := 75) hc d_M_before_62 rfl rfl (by omega) (by omega) (fun h62 => ?_) (fun h62 => ?_)
          · skip
            refine a_iconst (pc' := 76) (v := nI 0) hc d_M_before_75 rfl (by decide) ?_
            refine a_nadd (pc' := 77) hc d_M_before_76 rfl ?_
            refine a_istore_n (pc' := 78) hc d_M_before_77 rfl rfl (by decide) ?_
            refine a_ninc (pc' := 81) hc d_M_before_78 rfl rfl (by decide) ?_
            refine a_goto (tgt := 13) hc d_M_before_81 rfl ?_
            refine AW.mask [true, true, true, true, true, false] ?_
            refine AW.lvi 3 (y := nI (cntL (x13 + 1) (qB τ E d))) rfl (by first | rfl | (rw [cntL_s, show qB τ E d x13 = true by first | (simp [qB, frH, h29]; done) | (simp [qB, frH, h29]; omega)]; rfl) | (rw [cntL_s, show qB τ E d x13 = false by first | (simp [qB, frH, h29]; done) | (simp [qB, frH, h29]; omega)]; rfl)) ?_
            exact AW.to rfl rfl rfl (ih13 (by omega))
          · skip
            refine a_iload (pc' := 67) hc d_M_before_65 rfl rfl ?_
            refine a_iload_n (pc' := 68) hc d_M_before_67 rfl rfl rfl ?_
            refine a_ncmp_ge (pc' := 71) (tgt := 75) hc d_M_before_68 rfl rfl (by omega) (by omega) (fun h68 => ?_) (fun h68 => ?_)
            · skip
              refine a_iconst (pc' := 76) (v := nI 0) hc d_M_before_75 rfl (by decide) ?_
              refine a_nadd (pc' := 77) hc d_M_before_76 rfl ?_
              refine a_istore_n (pc' := 78) hc d_M_before_77 rfl rfl (by decide) ?_
              refine a_ninc (pc' := 81) hc d_M_before_78 rfl rfl (by decide) ?_
              refine a_goto (tgt := 13) hc d_M_before_81 rfl ?_
              refine AW.mask [true, true, true, true, true, false] ?_
              refine AW.lvi 3 (y := nI (cntL (x13 + 1) (qB τ E d))) rfl (by first | rfl | (rw [cntL_s, show qB τ E d x13 = true by first | (simp [qB, frH, h29]; done) | (simp [qB, frH, h29]; omega)]; rfl) | (rw [cntL_s, show qB τ E d x13 = false by first | (simp [qB, frH, h29]; done) | (simp [qB, frH, h29]; omega)]; rfl)) ?_
              exact AW.to rfl rfl rfl (ih13 (by omega))
            · skip
              refine a_iconst (pc' := 72) (v := nI 1) hc d_M_before_71 rfl (by decide) ?_
              refine a_goto (tgt := 76) hc d_M_before_72 rfl ?_
              refine a_nadd (pc' := 77) hc d_M_before_76 rfl ?_
              refine a_istore_n (pc' := 78) hc d_M_before_77 rfl rfl (by decide) ?_
              refine a_ninc (pc' := 81) hc d_M_before_78 rfl rfl (by decide) ?_
              refine a_goto (tgt := 13) hc d_M_before_81 rfl ?_
              refine AW.mask [true, true, true, true, true, false] ?_
              refine AW.lvi 3 (y := nI (cntL (x13 + 1) (qB τ E d))) rfl (by first | rfl | (rw [cntL_s, show qB τ E d x13 = true by first | (simp [qB, frH, h29]; done) | (simp [qB, frH, h29]; omega)]; rfl) | (rw [cntL_s, show qB τ E d x13 = false by first | (simp [qB, frH, h29]; done) | (simp [qB, frH, h29]; omega)]; rfl)) ?_
              exact AW.to rfl rfl rfl (ih13 (by omega))
    · skip
      refine a_aload_n (pc' := 33) hc d_M_before_32 rfl rfl rfl ?_
      refine a_bipush (pc' := 35) (v := nI 16) hc d_M_before_33 rfl (by decide) ?_
      refine a_iload (pc' := 37) hc d_M_before_35 rfl rfl ?_
      refine r_calli (pc' := 40) hc hK hO hA hx [.int (nI 16), .int (nI x13)] [] (ct_M_freeOf hx (τ := τ) (mp := 16) (d := x13) (by omega) (by omega) hw) ml_M_66 hd_M_freeOf ⟨by decide, by decide⟩ rfl rfl (Nat.le_of_ble_eq_true rfl) d_M_before_37 rfl ?_
      have hf37 := frN_le τ E 16 x13
      refine a_goto (tgt := 44) hc d_M_before_40 rfl ?_
      refine a_istore (pc' := 46) hc d_M_before_44 rfl (by decide) ?_
      refine a_iload_n (pc' := 47) hc d_M_before_46 rfl rfl rfl ?_
      refine a_iload (pc' := 49) hc d_M_before_47 rfl rfl ?_
      refine a_iload_n (pc' := 50) hc d_M_before_49 rfl rfl rfl ?_
      refine a_ncmp_eq (pc' := 53) (tgt := 75) hc d_M_before_50 rfl rfl (by omega) (by omega) (fun h50 => ?_) (fun h50 => ?_)
      · skip
        refine a_iconst (pc' := 76) (v := nI 0) hc d_M_before_75 rfl (by decide) ?_
        refine a_nadd (pc' := 77) hc d_M_before_76 rfl ?_
        refine a_istore_n (pc' := 78) hc d_M_before_77 rfl rfl (by decide) ?_
        refine a_ninc (pc' := 81) hc d_M_before_78 rfl rfl (by decide) ?_
        refine a_goto (tgt := 13) hc d_M_before_81 rfl ?_
        refine AW.mask [true, true, true, true, true, false] ?_
        refine AW.lvi 3 (y := nI (cntL (x13 + 1) (qB τ E d))) rfl (by first | rfl | (rw [cntL_s, show qB τ E d x13 = true by first | (simp [qB, frH, h29]; done) | (simp [qB, frH, h29]; omega)]; rfl) | (rw [cntL_s, show qB τ E d x13 = false by first | (simp [qB, frH, h29]; done) | (simp [qB, frH, h29]; omega)]; rfl)) ?_
        exact AW.to rfl rfl rfl (ih13 (by omega))
      · skip
        refine a_iload (pc' := 55) hc d_M_before_53 rfl rfl ?_
        refine a_iload_n (pc' := 56) hc d_M_before_55 rfl rfl rfl ?_
        refine a_ncmp_gt (pc' := 59) (tgt := 71) hc d_M_before_56 rfl rfl (by omega) (by omega) (fun h56 => ?_) (fun h56 => ?_)
        · skip
          refine a_iconst (pc' := 72) (v := nI 1) hc d_M_before_71 rfl (by decide) ?_
          refine a_goto (tgt := 76) hc d_M_before_72 rfl ?_
          refine a_nadd (pc' := 77) hc d_M_before_76 rfl ?_
          refine a_istore_n (pc' := 78) hc d_M_before_77 rfl rfl (by decide) ?_
          refine a_ninc (pc' := 81) hc d_M_before_78 rfl rfl (by decide) ?_
          refine a_goto (tgt := 13) hc d_M_before_81 rfl ?_
          refine AW.mask [true, true, true, true, true, false] ?_
          refine AW.lvi 3 (y := nI (cntL (x13 + 1) (qB τ E d))) rfl (by first | rfl | (rw [cntL_s, show qB τ E d x13 = true by first | (simp [qB, frH, h29]; done) | (simp [qB, frH, h29]; omega)]; rfl) | (rw [cntL_s, show qB τ E d x13 = false by first | (simp [qB, frH, h29]; done) | (simp [qB, frH, h29]; omega)]; rfl)) ?_
          exact AW.to rfl rfl rfl (ih13 (by omega))
        · skip
          refine a_iload (pc' := 61) hc d_M_before_59 rfl rfl ?_
          refine a_iload_n (pc' := 62) hc d_M_before_61 rfl rfl rfl ?_
          refine a_ncmp_ne (pc' := 65) (tgt := 75) hc d_M_before_62 rfl rfl (by omega) (by omega) (fun h62 => ?_) (fun h62 => ?_)
          · skip
            refine a_iconst (pc' := 76) (v := nI 0) hc d_M_before_75 rfl (by decide) ?_
            refine a_nadd (pc' := 77) hc d_M_before_76 rfl ?_
            refine a_istore_n (pc' := 78) hc d_M_before_77 rfl rfl (by decide) ?_
            refine a_ninc (pc' := 81) hc d_M_before_78 rfl rfl (by decide) ?_
            refine a_goto (tgt := 13) hc d_M_before_81 rfl ?_
            refine AW.mask [true, true, true, true, true, false] ?_
            refine AW.lvi 3 (y := nI (cntL (x13 + 1) (qB τ E d))) rfl (by first | rfl | (rw [cntL_s, show qB τ E d x13 = true by first | (simp [qB, frH, h29]; done) | (simp [qB, frH, h29]; omega)]; rfl) | (rw [cntL_s, show qB τ E d x13 = false by first | (simp [qB, frH, h29]; done) | (simp [qB, frH, h29]; omega)]; rfl)) ?_
            exact AW.to rfl rfl rfl (ih13 (by omega))
          · skip
            refine a_iload (pc' := 67) hc d_M_before_65 rfl rfl ?_
            refine a_iload_n (pc' := 68) hc d_M_before_67 rfl rfl rfl ?_
            refine a_ncmp_ge (pc' := 71) (tgt := 75) hc d_M_before_68 rfl rfl (by omega) (by omega) (fun h68 => ?_) (fun h68 => ?_)
            · skip
              refine a_iconst (pc' := 76) (v := nI 0) hc d_M_before_75 rfl (by decide) ?_
              refine a_nadd (pc' := 77) hc d_M_before_76 rfl ?_
              refine a_istore_n (pc' := 78) hc d_M_before_77 rfl rfl (by decide) ?_
              refine a_ninc (pc' := 81) hc d_M_before_78 rfl rfl (by decide) ?_
              refine a_goto (tgt := 13) hc d_M_before_81 rfl ?_
              refine AW.mask [true, true, true, true, true, false] ?_
              refine AW.lvi 3 (y := nI (cntL (x13 + 1) (qB τ E d))) rfl (by first | rfl | (rw [cntL_s, show qB τ E d x13 = true by first | (simp [qB, frH, h29]; done) | (simp [qB, frH, h29]; omega)]; rfl) | (rw [cntL_s, show qB τ E d x13 = false by first | (simp [qB, frH, h29]; done) | (simp [qB, frH, h29]; omega)]; rfl)) ?_
              exact AW.to rfl rfl rfl (ih13 (by omega))
            · skip
              refine a_iconst (pc' := 72) (v := nI 1) hc d_M_before_71 rfl (by decide) ?_
              refine a_goto (tgt := 76) hc d_M_before_72 rfl ?_
              refine a_nadd (pc' := 77) hc d_M_before_76 rfl ?_
              refine a_istore_n (pc' := 78) hc d_M_before_77 rfl rfl (by decide) ?_
              refine a_ninc (pc' := 81) hc d_M_before_78 rfl rfl (by decide) ?_
              refine a_goto (tgt := 13) hc d_M_before_81 rfl ?_
              refine AW.mask [true, true, true, true, true, false] ?_
              refine AW.lvi 3 (y := nI (cntL (x13 + 1) (qB τ E d))) rfl (by first | rfl | (rw [cntL_s, show qB τ E d x13 = true by first | (simp [qB, frH, h29]; done) | (simp [qB, frH, h29]; omega)]; rfl) | (rw [cntL_s, show qB τ E d x13 = false by first | (simp [qB, frH, h29]; done) | (simp [qB, frH, h29]; omega)]; rfl)) ?_
              exact AW.to rfl rfl rfl (ih13 (by omega))
theorem ct_M_quorum (hx : MX ax rl ca tys n E) {τ : TS} {q : Nat} (hq : q < 2 ^ 29) : MC l y_M_quorum c_M_quorum 2 (some .boolean) 0 D tys A ax rl ca n E τ [.int (nI q)] (some (.int (bI (quB n q)))) τ := by
  obtain ⟨hn2, hn5⟩ := hx.2.2.2.1
  obtain ⟨hE2, hE10⟩ := hx.2.2.2.2
  refine MC.of rfl (Nat.le_of_ble_eq_true rfl) (cat_all rfl) ?_
  intro pp ee ss mm aa bb me cd hc hK hO hr hk hA
  refine AW.to (lv' := [some (.ref (ax 0)), some (.int (nI q))]) rfl rfl rfl ?_
  refine a_iconst (pc' := 1) (v := nI 2) hc d_M_quorum_0 rfl (by decide) ?_
  refine a_iload_n (pc' := 2) hc d_M_quorum_1 rfl rfl rfl ?_
  refine a_nmul (pc' := 3) hc d_M_quorum_2 rfl ?_
  refine a_aload_n (pc' := 4) hc d_M_quorum_3 rfl rfl rfl ?_
  refine r_get (pc' := 7) hc hK hx 0 (v := .int (nI n)) (by decide) rfl fl_M_29 d_M_quorum_4 rfl ?_
  refine a_ncmp_le (pc' := 10) (tgt := 14) hc d_M_quorum_7 rfl rfl (by omega) (by omega) (fun h7 => ?_) (fun h7 => ?_)
  · skip
    refine a_iconst (pc' := 15) (v := nI 0) hc d_M_quorum_14 rfl (by decide) ?_
    exact a_zret hc hr hk (Or.inl rfl) d_M_quorum_15 (m_i (by first | rfl | (simp [quB, bI, h7]; done) | (simp [quB, bI, h7]; omega)) (rfl))
  · skip
    refine a_iconst (pc' := 11) (v := nI 1) hc d_M_quorum_10 rfl (by decide) ?_
    refine a_goto (tgt := 15) hc d_M_quorum_11 rfl ?_
    exact a_zret hc hr hk (Or.inr rfl) d_M_quorum_15 (m_i (by first | rfl | (simp [quB, bI, h7]; done) | (simp [quB, bI, h7]; omega)) (rfl))
theorem ct_M_few (hx : MX ax rl ca tys n E) {τ : TS}  : MC l y_M_few c_M_few 3 (some .boolean) 1 D tys A ax rl ca n E τ [] (some (.int (bI (fewB τ n)))) τ := by
  obtain ⟨hn2, hn5⟩ := hx.2.2.2.1
  obtain ⟨hE2, hE10⟩ := hx.2.2.2.2
  refine MC.of rfl (Nat.le_of_ble_eq_true rfl) (cat_all rfl) ?_
  intro pp ee ss mm aa bb me cd hc hK hO hr hk hA
  refine AW.to (lv' := [some (.ref (ax 0)), none, none]) rfl rfl rfl ?_
  refine a_iconst (pc' := 1) (v := nI 0) hc d_M_few_0 rfl (by decide) ?_
  refine a_istore_n (pc' := 2) hc d_M_few_1 rfl rfl (by decide) ?_
  refine a_iconst (pc' := 3) (v := nI 0) hc d_M_few_2 rfl (by decide) ?_
  refine a_istore_n (pc' := 4) hc d_M_few_3 rfl rfl (by decide) ?_
  refine AW.lvi 1 (y := nI (cntL 0 (qH τ))) rfl (by first | rfl | (simp only [cntL_s, cntL_0, qH, fewB, bI]; done) | (simp [cntL_s, cntL_0, qH, fewB, bI]; done)) ?_
  refine AW.loop n 0 (fun d4 => tw ax rl ca n E τ) (fun d4 => [some (.ref (ax 0)), some (.int (nI (cntL d4 (qH τ)))), some (.int (nI d4))]) (Nat.zero_le _) rfl rfl (fun d4 hle4 ih4 => ?_)
  try dsimp only at ih4 ⊢
  refine a_iload_n (pc' := 5) hc d_M_few_4 rfl rfl rfl ?_
  refine a_aload_n (pc' := 6) hc d_M_few_5 rfl rfl rfl ?_
  refine r_get (pc' := 9) hc hK hx 0 (v := .int (nI n)) (by decide) rfl fl_M_29 d_M_few_6 rfl ?_
  refine a_ncmp_ge (pc' := 12) (tgt := 35) hc d_M_few_9 rfl rfl (by omega) (by omega) (fun h9 => ?_) (fun h9 => ?_)
  · skip
    have hex9 : d4 = n := by omega
    subst d4
    have hc9 := cntL_le n (qH τ)
    refine a_aload_n (pc' := 36) hc d_M_few_35 rfl rfl rfl ?_
    refine a_iload_n (pc' := 37) hc d_M_few_36 rfl rfl rfl ?_
    refine r_calli (pc' := 40) hc hK hO hA hx [.int (nI (cntL n (qH τ)))] [] (ct_M_quorum hx (τ := τ) (q := cntL n (qH τ)) (by omega)) ml_M_104 hd_M_quorum ⟨by decide, by decide⟩ rfl rfl (Nat.le_of_ble_eq_true rfl) d_M_few_37 rfl ?_
    refine a_ifb_ne (pc' := 43) (tgt := 47) hc d_M_few_40 rfl rfl (fun h40 => ?_) (fun h40 => ?_)
    · skip
      refine a_iconst (pc' := 48) (v := nI 0) hc d_M_few_47 rfl (by decide) ?_
      exact a_zret hc hr hk (Or.inl rfl) d_M_few_48 (m_i (by first | rfl | (simp only [cntL_s, cntL_0, qH, fewB, bI, h9, h40]; done) | (simp [cntL_s, cntL_0, qH, fewB, bI, h9, h40]; done)) (rfl))
    · skip
      refine a_iconst (pc' := 44) (v := nI 1) hc d_M_few_43 rfl (by decide) ?_
      refine a_goto (tgt := 48) hc d_M_few_44 rfl ?_
      exact a_zret hc hr hk (Or.inr rfl) d_M_few_48 (m_i (by first | rfl | (simp only [cntL_s, cntL_0, qH, fewB, bI, h9, h40]; done) | (simp [cntL_s, cntL_0, qH, fewB, bI, h9, h40]; done)) (rfl))
  · skip
    refine a_iload_n (pc' := 13) hc d_M_few_12 rfl rfl rfl ?_
    refine a_aload_n (pc' := 14) hc d_M_few_13 rfl rfl rfl ?_
    refine r_get (pc' := 17) hc hK hx 2 (v := .ref (ax 1)) (by decide) rfl fl_M_7 d_M_few_14 rfl ?_
    refine a_iload_n (pc' := 18) hc d_M_few_17 rfl rfl rfl ?_
    refine r_zald (pc' := 19) hc hK hx d4 (by omega) d_M_few_18 rfl ?_
    refine a_ifb_eq (pc' := 22) (tgt := 26) hc d_M_few_19 rfl rfl (fun h19 => ?_) (fun h19 => ?_)
    · skip
      refine a_iconst (pc' := 27) (v := nI 0) hc d_M_few_26 rfl (by decide) ?_
      refine a_nadd (pc' := 28) hc d_M_few_27 rfl ?_
      refine a_istore_n (pc' := 29) hc d_M_few_28 rfl rfl (by decide) ?_
      refine a_ninc (pc' := 32) hc d_M_few_29 rfl rfl (by decide) ?_
      refine a_goto (tgt := 4) hc d_M_few_32 rfl ?_
      refine AW.lvi 1 (y := nI (cntL (d4 + 1) (qH τ))) rfl (by first | rfl | (simp only [cntL_s, cntL_0, qH, fewB, bI, h9, h19]; done) | (simp [cntL_s, cntL_0, qH, fewB, bI, h9, h19]; done)) ?_
      exact AW.to rfl rfl rfl (ih4 (by omega))
    · skip
      refine a_iconst (pc' := 23) (v := nI 1) hc d_M_few_22 rfl (by decide) ?_
      refine a_goto (tgt := 27) hc d_M_few_23 rfl ?_
      refine a_nadd (pc' := 28) hc d_M_few_27 rfl ?_
      refine a_istore_n (pc' := 29) hc d_M_few_28 rfl rfl (by decide) ?_
      refine a_ninc (pc' := 32) hc d_M_few_29 rfl rfl (by decide) ?_
      refine a_goto (tgt := 4) hc d_M_few_32 rfl ?_
      refine AW.lvi 1 (y := nI (cntL (d4 + 1) (qH τ))) rfl (by first | rfl | (simp only [cntL_s, cntL_0, qH, fewB, bI, h9, h19]; done) | (simp [cntL_s, cntL_0, qH, fewB, bI, h9, h19]; done)) ?_
      exact AW.to rfl rfl rfl (ih4 (by omega))
theorem ct_M_isMoved (hx : MX ax rl ca tys n E) {τ : TS} {v : Int32}  : MC l y_M_isMoved c_M_isMoved 2 (some .boolean) 1 D tys A ax rl ca n E τ [.int v] (some (.int (bI (mvB τ v)))) τ := by
  obtain ⟨hn2, hn5⟩ := hx.2.2.2.1
  obtain ⟨hE2, hE10⟩ := hx.2.2.2.2
  refine MC.of rfl (Nat.le_of_ble_eq_true rfl) (cat_all rfl) ?_
  intro pp ee ss mm aa bb me cd hc hK hO hr hk hA
  refine AW.to (lv' := [some (.ref (ax 0)), some (.int v)]) rfl rfl rfl ?_
  refine a_aload_n (pc' := 1) hc d_M_isMoved_0 rfl rfl rfl ?_
  refine a_bipush (pc' := 3) (v := nI 15) hc d_M_isMoved_1 rfl (by decide) ?_
  refine a_bipush (pc' := 5) (v := nI 60) hc d_M_isMoved_3 rfl (by decide) ?_
  refine r_calli (pc' := 8) hc hK hO hA hx [.int (nI 15), .int (nI 60)] [] (ct_M_get hx (τ := τ) (mp := 15) (i := 60) (by omega) (by omega)) ml_M_49 hd_M_get ⟨by decide, by decide⟩ rfl rfl (Nat.le_of_ble_eq_true rfl) d_M_isMoved_5 rfl ?_
  refine a_iload_n (pc' := 9) hc d_M_isMoved_8 rfl rfl rfl ?_
  refine a_icmp_ne (pc' := 12) (tgt := 16) hc d_M_isMoved_9 rfl rfl (fun h9 => ?_) (fun h9 => ?_)
  · skip
    refine a_iconst (pc' := 17) (v := nI 0) hc d_M_isMoved_16 rfl (by decide) ?_
    exact a_zret hc hr hk (Or.inl rfl) d_M_isMoved_17 (m_i (by first | rfl | (simp only [mvB, bI, h9]; done) | (simp [mvB, bI, h9]; done)) (rfl))
  · skip
    refine a_iconst (pc' := 13) (v := nI 1) hc d_M_isMoved_12 rfl (by decide) ?_
    refine a_goto (tgt := 17) hc d_M_isMoved_13 rfl ?_
    exact a_zret hc hr hk (Or.inr rfl) d_M_isMoved_17 (m_i (by first | rfl | (simp only [mvB, bI, h9]; done) | (simp [mvB, bI, h9]; done)) (rfl))
theorem ct_M_isDisk (hx : MX ax rl ca tys n E) {τ : TS} {d : Int32}  : MC l y_M_isDisk c_M_isDisk 2 (some .boolean) 0 D tys A ax rl ca n E τ [.int d] (some (.int (bI (dkB n d)))) τ := by
  obtain ⟨hn2, hn5⟩ := hx.2.2.2.1
  obtain ⟨hE2, hE10⟩ := hx.2.2.2.2
  refine MC.of rfl (Nat.le_of_ble_eq_true rfl) (cat_all rfl) ?_
  intro pp ee ss mm aa bb me cd hc hK hO hr hk hA
  refine AW.to (lv' := [some (.ref (ax 0)), some (.int d)]) rfl rfl rfl ?_
  refine a_iload_n (pc' := 1) hc d_M_isDisk_0 rfl rfl rfl ?_
  refine a_if_lt (pc' := 4) (tgt := 16) hc d_M_isDisk_1 rfl rfl (fun h1 => ?_) (fun h1 => ?_)
  · skip
    refine a_iconst (pc' := 17) (v := nI 0) hc d_M_isDisk_16 rfl (by decide) ?_
    exact a_zret hc hr hk (Or.inl rfl) d_M_isDisk_17 (m_i (by first | rfl | (simp only [dkB, bI, h1]; done) | (simp [dkB, bI, h1]; done)) (rfl))
  · skip
    refine a_iload_n (pc' := 5) hc d_M_isDisk_4 rfl rfl rfl ?_
    refine a_aload_n (pc' := 6) hc d_M_isDisk_5 rfl rfl rfl ?_
    refine r_get (pc' := 9) hc hK hx 0 (v := .int (nI n)) (by decide) rfl fl_M_29 d_M_isDisk_6 rfl ?_
    refine a_icmp_ge (pc' := 12) (tgt := 16) hc d_M_isDisk_9 rfl rfl (fun h9 => ?_) (fun h9 => ?_)
    · skip
      refine a_iconst (pc' := 17) (v := nI 0) hc d_M_isDisk_16 rfl (by decide) ?_
      exact a_zret hc hr hk (Or.inl rfl) d_M_isDisk_17 (m_i (by first | rfl | (simp only [dkB, bI, h1, h9]; done) | (simp [dkB, bI, h1, h9]; done)) (rfl))
    · skip
      refine a_iconst (pc' := 13) (v := nI 1) hc d_M_isDisk_12 rfl (by decide) ?_
      refine a_goto (tgt := 17) hc d_M_isDisk_13 rfl ?_
      exact a_zret hc hr hk (Or.inr rfl) d_M_isDisk_17 (m_i (by first | rfl | (simp only [dkB, bI, h1, h9]; done) | (simp [dkB, bI, h1, h9]; done)) (rfl))
theorem ct_M_stops (hx : MX ax rl ca tys n E) {τ : TS}  : MC l y_M_stops c_M_stops 2 (some .boolean) 0 D tys A ax rl ca n E τ [] (some (.int (bI (stB τ)))) (stT τ) := by
  obtain ⟨hn2, hn5⟩ := hx.2.2.2.1
  obtain ⟨hE2, hE10⟩ := hx.2.2.2.2
  refine MC.of rfl (Nat.le_of_ble_eq_true rfl) (cat_all rfl) ?_
  intro pp ee ss mm aa bb me cd hc hK hO hr hk hA
  refine AW.to (lv' := [some (.ref (ax 0)), none]) rfl rfl rfl ?_
  refine a_aload_n (pc' := 1) hc d_M_stops_0 rfl rfl rfl ?_
  refine r_get (pc' := 4) hc hK hx 13 (v := .int (bI (tb (τ 0 7)))) (by decide) rfl fl_M_80 d_M_stops_1 rfl ?_
  refine a_ifb_eq (pc' := 7) (tgt := 18) hc d_M_stops_4 rfl rfl (fun h4 => ?_) (fun h4 => ?_)
  · skip
    refine a_iconst (pc' := 19) (v := nI 0) hc d_M_stops_18 rfl (by decide) ?_
    refine a_istore_n (pc' := 20) hc d_M_stops_19 rfl rfl (by decide) ?_
    refine a_aload_n (pc' := 21) hc d_M_stops_20 rfl rfl rfl ?_
    refine a_dup (pc' := 22) hc d_M_stops_21 rfl rfl ?_
    refine r_get (pc' := 25) hc hK hx 14 (v := .int (τ 0 8)) (by decide) rfl fl_M_83 d_M_stops_22 rfl ?_
    refine a_iconst (pc' := 26) (v := nI 1) hc d_M_stops_25 rfl (by decide) ?_
    refine a_isub (pc' := 27) hc d_M_stops_26 rfl ?_
    refine r_put (pc' := 30) hc hK hx 14 (by decide) fl_M_83 d_M_stops_27 rfl ?_
    refine a_iload_n (pc' := 31) hc d_M_stops_30 rfl rfl rfl ?_
    refine a_ifn_eq (pc' := 34) (tgt := 44) hc d_M_stops_31 rfl rfl (by omega) (fun h31 => ?_) (fun h31 => absurd h31 (by omega))
    refine a_iload_n (pc' := 45) hc d_M_stops_44 rfl rfl rfl ?_
    exact a_zret hc hr hk (Or.inl rfl) d_M_stops_45 (m_i (by first | rfl | (simp only [stT, stB, bI, h4]; done) | (simp [stT, stB, bI, h4]; done)) (by first | rfl | (simp only [stT, stB, bI, h4]; done) | (simp [stT, stB, bI, h4]; done)))
  · skip
    refine a_aload_n (pc' := 8) hc d_M_stops_7 rfl rfl rfl ?_
    refine r_get (pc' := 11) hc hK hx 14 (v := .int (τ 0 8)) (by decide) rfl fl_M_83 d_M_stops_8 rfl ?_
    refine a_if_ne (pc' := 14) (tgt := 18) hc d_M_stops_11 rfl rfl (fun h11 => ?_) (fun h11 => ?_)
    · skip
      refine a_iconst (pc' := 19) (v := nI 0) hc d_M_stops_18 rfl (by decide) ?_
      refine a_istore_n (pc' := 20) hc d_M_stops_19 rfl rfl (by decide) ?_
      refine a_aload_n (pc' := 21) hc d_M_stops_20 rfl rfl rfl ?_
      refine a_dup (pc' := 22) hc d_M_stops_21 rfl rfl ?_
      refine r_get (pc' := 25) hc hK hx 14 (v := .int (τ 0 8)) (by decide) rfl fl_M_83 d_M_stops_22 rfl ?_
      refine a_iconst (pc' := 26) (v := nI 1) hc d_M_stops_25 rfl (by decide) ?_
      refine a_isub (pc' := 27) hc d_M_stops_26 rfl ?_
      refine r_put (pc' := 30) hc hK hx 14 (by decide) fl_M_83 d_M_stops_27 rfl ?_
      refine a_iload_n (pc' := 31) hc d_M_stops_30 rfl rfl rfl ?_
      refine a_ifn_eq (pc' := 34) (tgt := 44) hc d_M_stops_31 rfl rfl (by omega) (fun h31 => ?_) (fun h31 => absurd h31 (by omega))
      refine a_iload_n (pc' := 45) hc d_M_stops_44 rfl rfl rfl ?_
      exact a_zret hc hr hk (Or.inl rfl) d_M_stops_45 (m_i (by first | rfl | (simp only [stT, stB, bI, h4, h11]; done) | (simp [stT, stB, bI, h4, h11]; done)) (by first | rfl | (simp only [stT, stB, bI, h4, h11]; done) | (simp [stT, stB, bI, h4, h11]; done)))
    · skip
      refine a_iconst (pc' := 15) (v := nI 1) hc d_M_stops_14 rfl (by decide) ?_
      refine a_goto (tgt := 19) hc d_M_stops_15 rfl ?_
      refine a_istore_n (pc' := 20) hc d_M_stops_19 rfl rfl (by decide) ?_
      refine a_aload_n (pc' := 21) hc d_M_stops_20 rfl rfl rfl ?_
      refine a_dup (pc' := 22) hc d_M_stops_21 rfl rfl ?_
      refine r_get (pc' := 25) hc hK hx 14 (v := .int (τ 0 8)) (by decide) rfl fl_M_83 d_M_stops_22 rfl ?_
      refine a_iconst (pc' := 26) (v := nI 1) hc d_M_stops_25 rfl (by decide) ?_
      refine a_isub (pc' := 27) hc d_M_stops_26 rfl ?_
      refine r_put (pc' := 30) hc hK hx 14 (by decide) fl_M_83 d_M_stops_27 rfl ?_
      refine a_iload_n (pc' := 31) hc d_M_stops_30 rfl rfl rfl ?_
      refine a_ifn_eq (pc' := 34) (tgt := 44) hc d_M_stops_31 rfl rfl (by omega) (fun h31 => absurd h31 (by omega)) (fun h31 => ?_)
      refine a_aload_n (pc' := 35) hc d_M_stops_34 rfl rfl rfl ?_
      refine a_iconst (pc' := 36) (v := nI 0) hc d_M_stops_35 rfl (by decide) ?_
      refine r_putz (pc' := 39) hc hK hx 13 (Or.inl rfl) (by decide) fl_M_80 d_M_stops_36 rfl ?_
      refine a_aload_n (pc' := 40) hc d_M_stops_39 rfl rfl rfl ?_
      refine a_iconst (pc' := 41) (v := nI 0) hc d_M_stops_40 rfl (by decide) ?_
      refine r_putz (pc' := 44) hc hK hx 11 (Or.inl rfl) (by decide) fl_M_45 d_M_stops_41 rfl ?_
      refine a_iload_n (pc' := 45) hc d_M_stops_44 rfl rfl rfl ?_
      exact a_zret hc hr hk (Or.inr rfl) d_M_stops_45 (m_i (by first | rfl | (simp only [stT, stB, bI, h4, h11]; done) | (simp [stT, stB, bI, h4, h11]; done)) (by first | rfl | (simp only [stT, stB, bI, h4, h11]; done) | (simp [stT, stB, bI, h4, h11]; done)))
