variable {l : Launch} {D : va_G} {tys : List (ClassId × FieldType)} {A : Nat → Prop} {ax rl : Nat → Nat} {ca : Nat → ClassId} {n E : Nat}
theorem ct_M_pull (hx : MX ax rl ca tys n E) {τ : TS} {d : Int32}  : MC l y_M_pull c_M_pull 2 (some .boolean) 1 D tys A ax rl ca n E τ [.int d] (some (.int (bI ((puP τ n d).1)))) ((puP τ n d).2) := by
  obtain ⟨hn2, hn5⟩ := hx.2.2.2.1
  obtain ⟨hE2, hE10⟩ := hx.2.2.2.2
  refine MC.of rfl (Nat.le_of_ble_eq_true rfl) (cat_all rfl) ?_
  intro pp ee ss mm aa bb me cd hc hK hO hr hk hA
  refine AW.to (lv' := [some (.ref (ax 0)), some (.int d)]) rfl rfl rfl ?_
  refine a_aload_n (pc' := 1) hc d_M_pull_0 rfl rfl rfl ?_
  refine a_iload_n (pc' := 2) hc d_M_pull_1 rfl rfl rfl ?_
  refine r_calli (pc' := 5) hc hK hO hA hx [.int d] [] (ct_M_isDisk hx (τ := τ) (d := d) ) ml_M_148 hd_M_isDisk ⟨by decide, by decide⟩ rfl rfl (Nat.le_of_ble_eq_true rfl) d_M_pull_2 rfl ?_
  refine a_ifb_eq (pc' := 8) (tgt := 17) hc d_M_pull_5 rfl rfl (fun h5 => ?_) (fun h5 => ?_)
  · skip
    refine a_iconst (pc' := 18) (v := nI 0) hc d_M_pull_17 rfl (by decide) ?_
    exact a_zret hc hr hk (Or.inl rfl) d_M_pull_18 (m_i (by first | rfl | (simp only [puP, bI, h5]; done) | (simp [puP, bI, h5]; done)) (by first | rfl | (simp only [puP, bI, h5]; done) | (simp [puP, bI, h5]; done)))
  · skip
    obtain ⟨j, hj, ej, cj⟩ := dkB_t (by omega) h5
    subst ej
    refine a_aload_n (pc' := 9) hc d_M_pull_8 rfl rfl rfl ?_
    refine r_get (pc' := 12) hc hK hx 2 (v := .ref (ax 1)) (by decide) rfl fl_M_7 d_M_pull_9 rfl ?_
    refine a_iload_n (pc' := 13) hc d_M_pull_12 rfl rfl rfl ?_
    refine r_zald (pc' := 14) hc hK hx j (by omega) d_M_pull_13 rfl ?_
    refine a_ifb_ne (pc' := 17) (tgt := 19) hc d_M_pull_14 rfl rfl (fun h14 => ?_) (fun h14 => ?_)
    · skip
      refine a_aload_n (pc' := 20) hc d_M_pull_19 rfl rfl rfl ?_
      refine r_get (pc' := 23) hc hK hx 2 (v := .ref (ax 1)) (by decide) rfl fl_M_7 d_M_pull_20 rfl ?_
      refine a_iload_n (pc' := 24) hc d_M_pull_23 rfl rfl rfl ?_
      refine a_iconst (pc' := 25) (v := nI 0) hc d_M_pull_24 rfl (by decide) ?_
      refine r_zast (pc' := 26) hc hK hx j (Or.inl rfl) (by omega) d_M_pull_25 rfl ?_
      refine a_iconst (pc' := 27) (v := nI 1) hc d_M_pull_26 rfl (by decide) ?_
      exact a_zret hc hr hk (Or.inr rfl) d_M_pull_27 (m_i (by first | rfl | (simp only [puP, bI, h5, cj, h14]; done) | (simp [puP, bI, h5, cj, h14]; done)) (by first | rfl | (simp only [puP, bI, h5, cj, h14]; done) | (simp [puP, bI, h5, cj, h14]; done)))
    · skip
      refine a_iconst (pc' := 18) (v := nI 0) hc d_M_pull_17 rfl (by decide) ?_
      exact a_zret hc hr hk (Or.inl rfl) d_M_pull_18 (m_i (by first | rfl | (simp only [puP, bI, h5, cj, h14]; done) | (simp [puP, bI, h5, cj, h14]; done)) (by first | rfl | (simp only [puP, bI, h5, cj, h14]; done) | (simp [puP, bI, h5, cj, h14]; done)))
theorem ct_M_plug (hx : MX ax rl ca tys n E) {τ : TS} {d : Int32}  : MC l y_M_plug c_M_plug 2 (some .boolean) 1 D tys A ax rl ca n E τ [.int d] (some (.int (bI ((plP τ n d).1)))) ((plP τ n d).2) := by
  obtain ⟨hn2, hn5⟩ := hx.2.2.2.1
  obtain ⟨hE2, hE10⟩ := hx.2.2.2.2
  refine MC.of rfl (Nat.le_of_ble_eq_true rfl) (cat_all rfl) ?_
  intro pp ee ss mm aa bb me cd hc hK hO hr hk hA
  refine AW.to (lv' := [some (.ref (ax 0)), some (.int d)]) rfl rfl rfl ?_
  refine a_aload_n (pc' := 1) hc d_M_plug_0 rfl rfl rfl ?_
  refine a_iload_n (pc' := 2) hc d_M_plug_1 rfl rfl rfl ?_
  refine r_calli (pc' := 5) hc hK hO hA hx [.int d] [] (ct_M_isDisk hx (τ := τ) (d := d) ) ml_M_148 hd_M_isDisk ⟨by decide, by decide⟩ rfl rfl (Nat.le_of_ble_eq_true rfl) d_M_plug_2 rfl ?_
  refine a_ifb_eq (pc' := 8) (tgt := 17) hc d_M_plug_5 rfl rfl (fun h5 => ?_) (fun h5 => ?_)
  · skip
    refine a_iconst (pc' := 18) (v := nI 0) hc d_M_plug_17 rfl (by decide) ?_
    exact a_zret hc hr hk (Or.inl rfl) d_M_plug_18 (m_i (by first | rfl | (simp only [plP, bI, h5]; done) | (simp [plP, bI, h5]; done)) (by first | rfl | (simp only [plP, bI, h5]; done) | (simp [plP, bI, h5]; done)))
  · skip
    obtain ⟨j, hj, ej, cj⟩ := dkB_t (by omega) h5
    subst ej
    refine a_aload_n (pc' := 9) hc d_M_plug_8 rfl rfl rfl ?_
    refine r_get (pc' := 12) hc hK hx 2 (v := .ref (ax 1)) (by decide) rfl fl_M_7 d_M_plug_9 rfl ?_
    refine a_iload_n (pc' := 13) hc d_M_plug_12 rfl rfl rfl ?_
    refine r_zald (pc' := 14) hc hK hx j (by omega) d_M_plug_13 rfl ?_
    refine a_ifb_eq (pc' := 17) (tgt := 19) hc d_M_plug_14 rfl rfl (fun h14 => ?_) (fun h14 => ?_)
    · skip
      refine a_aload_n (pc' := 20) hc d_M_plug_19 rfl rfl rfl ?_
      refine r_get (pc' := 23) hc hK hx 2 (v := .ref (ax 1)) (by decide) rfl fl_M_7 d_M_plug_20 rfl ?_
      refine a_iload_n (pc' := 24) hc d_M_plug_23 rfl rfl rfl ?_
      refine a_iconst (pc' := 25) (v := nI 1) hc d_M_plug_24 rfl (by decide) ?_
      refine r_zast (pc' := 26) hc hK hx j (Or.inr rfl) (by omega) d_M_plug_25 rfl ?_
      refine a_iconst (pc' := 27) (v := nI 1) hc d_M_plug_26 rfl (by decide) ?_
      exact a_zret hc hr hk (Or.inr rfl) d_M_plug_27 (m_i (by first | rfl | (simp only [plP, bI, h5, cj, h14]; done) | (simp [plP, bI, h5, cj, h14]; done)) (by first | rfl | (simp only [plP, bI, h5, cj, h14]; done) | (simp [plP, bI, h5, cj, h14]; done)))
    · skip
      refine a_iconst (pc' := 18) (v := nI 0) hc d_M_plug_17 rfl (by decide) ?_
      exact a_zret hc hr hk (Or.inl rfl) d_M_plug_18 (m_i (by first | rfl | (simp only [plP, bI, h5, cj, h14]; done) | (simp [plP, bI, h5, cj, h14]; done)) (by first | rfl | (simp only [plP, bI, h5, cj, h14]; done) | (simp [plP, bI, h5, cj, h14]; done)))
theorem ct_M_arm (hx : MX ax rl ca tys n E) {τ : TS} {k : Int32}  : MC l y_M_arm c_M_arm 2 (some .boolean) 0 D tys A ax rl ca n E τ [.int k] (some (.int (bI ((amP τ k).1)))) ((amP τ k).2) := by
  obtain ⟨hn2, hn5⟩ := hx.2.2.2.1
  obtain ⟨hE2, hE10⟩ := hx.2.2.2.2
  refine MC.of rfl (Nat.le_of_ble_eq_true rfl) (cat_all rfl) ?_
  intro pp ee ss mm aa bb me cd hc hK hO hr hk hA
  refine AW.to (lv' := [some (.ref (ax 0)), some (.int k)]) rfl rfl rfl ?_
  refine a_iload_n (pc' := 1) hc d_M_arm_0 rfl rfl rfl ?_
  refine a_if_lt (pc' := 4) (tgt := 10) hc d_M_arm_1 rfl rfl (fun h1 => ?_) (fun h1 => ?_)
  · skip
    refine a_iconst (pc' := 11) (v := nI 0) hc d_M_arm_10 rfl (by decide) ?_
    exact a_zret hc hr hk (Or.inl rfl) d_M_arm_11 (m_i (by first | rfl | (simp only [amP, bI, h1]; done) | (simp [amP, bI, h1]; done)) (by first | rfl | (simp only [amP, bI, h1]; done) | (simp [amP, bI, h1]; done)))
  · skip
    refine a_iload_n (pc' := 5) hc d_M_arm_4 rfl rfl rfl ?_
    refine a_bipush (pc' := 7) (v := nI 100) hc d_M_arm_5 rfl (by decide) ?_
    refine a_icmp_le (pc' := 10) (tgt := 12) hc d_M_arm_7 rfl rfl (fun h7 => ?_) (fun h7 => ?_)
    · skip
      refine a_aload_n (pc' := 13) hc d_M_arm_12 rfl rfl rfl ?_
      refine a_iconst (pc' := 14) (v := nI 1) hc d_M_arm_13 rfl (by decide) ?_
      refine r_putz (pc' := 17) hc hK hx 13 (Or.inr rfl) (by decide) fl_M_80 d_M_arm_14 rfl ?_
      refine a_aload_n (pc' := 18) hc d_M_arm_17 rfl rfl rfl ?_
      refine a_iload_n (pc' := 19) hc d_M_arm_18 rfl rfl rfl ?_
      refine r_put (pc' := 22) hc hK hx 14 (by decide) fl_M_83 d_M_arm_19 rfl ?_
      refine a_iconst (pc' := 23) (v := nI 1) hc d_M_arm_22 rfl (by decide) ?_
      exact a_zret hc hr hk (Or.inr rfl) d_M_arm_23 (m_i (by first | rfl | (simp only [amP, bI, h1, h7]; done) | (simp [amP, bI, h1, h7]; done)) (by first | rfl | (simp only [amP, bI, h1, h7]; done) | (simp [amP, bI, h1, h7]; done)))
    · skip
      refine a_iconst (pc' := 11) (v := nI 0) hc d_M_arm_10 rfl (by decide) ?_
      exact a_zret hc hr hk (Or.inl rfl) d_M_arm_11 (m_i (by first | rfl | (simp only [amP, bI, h1, h7]; done) | (simp [amP, bI, h1, h7]; done)) (by first | rfl | (simp only [amP, bI, h1, h7]; done) | (simp [amP, bI, h1, h7]; done)))
theorem ct_M_crash (hx : MX ax rl ca tys n E) {τ : TS}  : MC l y_M_crash c_M_crash 1 (some .boolean) 0 D tys A ax rl ca n E τ [] (some (.int (bI ((crP τ).1)))) ((crP τ).2) := by
  obtain ⟨hn2, hn5⟩ := hx.2.2.2.1
  obtain ⟨hE2, hE10⟩ := hx.2.2.2.2
  refine MC.of rfl (Nat.le_of_ble_eq_true rfl) (cat_all rfl) ?_
  intro pp ee ss mm aa bb me cd hc hK hO hr hk hA
  refine AW.to (lv' := [some (.ref (ax 0))]) rfl rfl rfl ?_
  refine a_aload_n (pc' := 1) hc d_M_crash_0 rfl rfl rfl ?_
  refine r_get (pc' := 4) hc hK hx 11 (v := .int (bI (tb (τ 0 5)))) (by decide) rfl fl_M_45 d_M_crash_1 rfl ?_
  refine a_ifb_ne (pc' := 7) (tgt := 9) hc d_M_crash_4 rfl rfl (fun h4 => ?_) (fun h4 => ?_)
  · skip
    refine a_aload_n (pc' := 10) hc d_M_crash_9 rfl rfl rfl ?_
    refine a_iconst (pc' := 11) (v := nI 0) hc d_M_crash_10 rfl (by decide) ?_
    refine r_putz (pc' := 14) hc hK hx 11 (Or.inl rfl) (by decide) fl_M_45 d_M_crash_11 rfl ?_
    refine a_aload_n (pc' := 15) hc d_M_crash_14 rfl rfl rfl ?_
    refine a_iconst (pc' := 16) (v := nI 0) hc d_M_crash_15 rfl (by decide) ?_
    refine r_putz (pc' := 19) hc hK hx 13 (Or.inl rfl) (by decide) fl_M_80 d_M_crash_16 rfl ?_
    refine a_iconst (pc' := 20) (v := nI 1) hc d_M_crash_19 rfl (by decide) ?_
    exact a_zret hc hr hk (Or.inr rfl) d_M_crash_20 (m_i (by first | rfl | (simp only [crP, bI, h4]; done) | (simp [crP, bI, h4]; done)) (by first | rfl | (simp only [crP, bI, h4]; done) | (simp [crP, bI, h4]; done)))
  · skip
    refine a_iconst (pc' := 8) (v := nI 0) hc d_M_crash_7 rfl (by decide) ?_
    exact a_zret hc hr hk (Or.inl rfl) d_M_crash_8 (m_i (by first | rfl | (simp only [crP, bI, h4]; done) | (simp [crP, bI, h4]; done)) (by first | rfl | (simp only [crP, bI, h4]; done) | (simp [crP, bI, h4]; done)))
theorem ct_M_where (hx : MX ax rl ca tys n E) {τ : TS} {v : Int32} {k : Int32} (hw : WFm τ 15) : MC l y_M_where c_M_where 3 (some .int) 4 D tys A ax rl ca n E τ [.int v, .int k] (some (.int (whI τ v k))) τ := by
  obtain ⟨hn2, hn5⟩ := hx.2.2.2.1
  obtain ⟨hE2, hE10⟩ := hx.2.2.2.2
  refine MC.of rfl (Nat.le_of_ble_eq_true rfl) (cat_all rfl) ?_
  intro pp ee ss mm aa bb me cd hc hK hO hr hk hA
  refine AW.to (lv' := [some (.ref (ax 0)), some (.int v), some (.int k)]) rfl rfl rfl ?_
  refine a_aload_n (pc' := 1) hc d_M_where_0 rfl rfl rfl ?_
  refine r_get (pc' := 4) hc hK hx 11 (v := .int (bI (tb (τ 0 5)))) (by decide) rfl fl_M_45 d_M_where_1 rfl ?_
  refine a_ifb_ne (pc' := 7) (tgt := 10) hc d_M_where_4 rfl rfl (fun h4 => ?_) (fun h4 => ?_)
  · skip
    refine a_aload_n (pc' := 11) hc d_M_where_10 rfl rfl rfl ?_
    refine a_iload_n (pc' := 12) hc d_M_where_11 rfl rfl rfl ?_
    refine a_iload_n (pc' := 13) hc d_M_where_12 rfl rfl rfl ?_
    refine r_calli (pc' := 16) hc hK hO hA hx [.int v, .int k] [] (ct_M_isExtent hx (τ := τ) (v := v) (k := k) hw) ml_M_123 hd_M_isExtent ⟨by decide, by decide⟩ rfl rfl (Nat.le_of_ble_eq_true rfl) d_M_where_13 rfl ?_
    refine a_ifb_eq (pc' := 19) (tgt := 36) hc d_M_where_16 rfl rfl (fun h16 => ?_) (fun h16 => ?_)
    · skip
      refine a_iconst (pc' := 37) (v := -1) hc d_M_where_36 rfl (by decide) ?_
      exact a_iret hc hr hk d_M_where_37 (m_i (by first | rfl | (simp only [whI, h4, h16]; done) | (simp [whI, h4, h16]; done)) (rfl))
    · skip
      obtain ⟨i, j, hi, ei, ci, hj, ej, cj⟩ := exB_t hw h16
      subst ei
      subst ej
      have hx16 := hw.ex hi
      refine a_aload_n (pc' := 20) hc d_M_where_19 rfl rfl rfl ?_
      refine a_bipush (pc' := 22) (v := nI 15) hc d_M_where_20 rfl (by decide) ?_
      refine a_bipush (pc' := 24) (v := nI 15) hc d_M_where_22 rfl (by decide) ?_
      refine a_iload_n (pc' := 25) hc d_M_where_24 rfl rfl rfl ?_
      refine a_nmul (pc' := 26) hc d_M_where_25 rfl ?_
      refine a_iconst (pc' := 27) (v := nI 3) hc d_M_where_26 rfl (by decide) ?_
      refine a_nadd (pc' := 28) hc d_M_where_27 rfl ?_
      refine a_iload_n (pc' := 29) hc d_M_where_28 rfl rfl rfl ?_
      refine a_nadd (pc' := 30) hc d_M_where_29 rfl ?_
      refine r_calli (pc' := 33) hc hK hO hA hx [.int (nI 15), .int (nI (((15 * i) + 3) + j))] [] (ct_M_get hx (τ := τ) (mp := 15) (i := ((15 * i) + 3) + j) (by omega) (by omega)) ml_M_49 hd_M_get ⟨by decide, by decide⟩ rfl rfl (Nat.le_of_ble_eq_true rfl) d_M_where_30 rfl ?_
      refine a_goto (tgt := 37) hc d_M_where_33 rfl ?_
      exact a_iret hc hr hk d_M_where_37 (m_i (by first | rfl | (simp only [whI, h4, h16, ci, cj]; done) | (simp [whI, h4, h16, ci, cj]; done)) (rfl))
  · skip
    refine a_bipush (pc' := 9) (v := -2) hc d_M_where_7 rfl (by decide) ?_
    exact a_iret hc hr hk d_M_where_9 (m_i (by first | rfl | (simp only [whI, h4]; done) | (simp [whI, h4]; done)) (rfl))
theorem ct_M_rows (hx : MX ax rl ca tys n E) {τ : TS} {v : Int32}  : MC l y_M_rows c_M_rows 2 (some .int) 3 D tys A ax rl ca n E τ [.int v] (some (.int (roI τ v))) τ := by
  obtain ⟨hn2, hn5⟩ := hx.2.2.2.1
  obtain ⟨hE2, hE10⟩ := hx.2.2.2.2
  refine MC.of rfl (Nat.le_of_ble_eq_true rfl) (cat_all rfl) ?_
  intro pp ee ss mm aa bb me cd hc hK hO hr hk hA
  refine AW.to (lv' := [some (.ref (ax 0)), some (.int v)]) rfl rfl rfl ?_
  refine a_aload_n (pc' := 1) hc d_M_rows_0 rfl rfl rfl ?_
  refine r_get (pc' := 4) hc hK hx 11 (v := .int (bI (tb (τ 0 5)))) (by decide) rfl fl_M_45 d_M_rows_1 rfl ?_
  refine a_ifb_ne (pc' := 7) (tgt := 12) hc d_M_rows_4 rfl rfl (fun h4 => ?_) (fun h4 => ?_)
  · skip
    refine a_aload_n (pc' := 13) hc d_M_rows_12 rfl rfl rfl ?_
    refine a_iload_n (pc' := 14) hc d_M_rows_13 rfl rfl rfl ?_
    refine r_calli (pc' := 17) hc hK hO hA hx [.int v] [] (ct_M_isVolume hx (τ := τ) (v := v) ) ml_M_117 hd_M_isVolume ⟨by decide, by decide⟩ rfl rfl (Nat.le_of_ble_eq_true rfl) d_M_rows_14 rfl ?_
    refine a_ifb_eq (pc' := 20) (tgt := 30) hc d_M_rows_17 rfl rfl (fun h17 => ?_) (fun h17 => ?_)
    · skip
      refine a_iconst (pc' := 31) (v := -1) hc d_M_rows_30 rfl (by decide) ?_
      exact a_iret hc hr hk d_M_rows_31 (m_i (by first | rfl | (simp only [roI, h4, h17]; done) | (simp [roI, h4, h17]; done)) (rfl))
    · skip
      obtain ⟨j, hj, ej, cj, pj⟩ := volB_t h17
      subst ej
      refine a_aload_n (pc' := 21) hc d_M_rows_20 rfl rfl rfl ?_
      refine a_bipush (pc' := 23) (v := nI 15) hc d_M_rows_21 rfl (by decide) ?_
      refine a_iload_n (pc' := 24) hc d_M_rows_23 rfl rfl rfl ?_
      refine r_calli (pc' := 27) hc hK hO hA hx [.int (nI 15), .int (nI j)] [] (ct_M_rowsOf hx (τ := τ) (mp := 15) (v := j) (by omega) (by omega)) ml_M_53 hd_M_rowsOf ⟨by decide, by decide⟩ rfl rfl (Nat.le_of_ble_eq_true rfl) d_M_rows_24 rfl ?_
      refine a_goto (tgt := 31) hc d_M_rows_27 rfl ?_
      exact a_iret hc hr hk d_M_rows_31 (m_i (by first | rfl | (simp only [roI, h4, h17, cj]; done) | (simp [roI, h4, h17, cj]; done)) (rfl))
  · skip
    refine a_bipush (pc' := 9) (v := -2) hc d_M_rows_7 rfl (by decide) ?_
    refine a_goto (tgt := 31) hc d_M_rows_9 rfl ?_
    exact a_iret hc hr hk d_M_rows_31 (m_i (by first | rfl | (simp only [roI, h4]; done) | (simp [roI, h4]; done)) (rfl))
theorem ct_M_free (hx : MX ax rl ca tys n E) {τ : TS} {d : Int32} (hw : WFm τ 15) : MC l y_M_free c_M_free 2 (some .int) 5 D tys A ax rl ca n E τ [.int d] (some (.int (feI τ n E d))) τ := by
  obtain ⟨hn2, hn5⟩ := hx.2.2.2.1
  obtain ⟨hE2, hE10⟩ := hx.2.2.2.2
  refine MC.of rfl (Nat.le_of_ble_eq_true rfl) (cat_all rfl) ?_
  intro pp ee ss mm aa bb me cd hc hK hO hr hk hA
  refine AW.to (lv' := [some (.ref (ax 0)), some (.int d)]) rfl rfl rfl ?_
  refine a_aload_n (pc' := 1) hc d_M_free_0 rfl rfl rfl ?_
  refine r_get (pc' := 4) hc hK hx 11 (v := .int (bI (tb (τ 0 5)))) (by decide) rfl fl_M_45 d_M_free_1 rfl ?_
  refine a_ifb_ne (pc' := 7) (tgt := 12) hc d_M_free_4 rfl rfl (fun h4 => ?_) (fun h4 => ?_)
  · skip
    refine a_aload_n (pc' := 13) hc d_M_free_12 rfl rfl rfl ?_
    refine a_iload_n (pc' := 14) hc d_M_free_13 rfl rfl rfl ?_
    refine r_calli (pc' := 17) hc hK hO hA hx [.int d] [] (ct_M_isDisk hx (τ := τ) (d := d) ) ml_M_148 hd_M_isDisk ⟨by decide, by decide⟩ rfl rfl (Nat.le_of_ble_eq_true rfl) d_M_free_14 rfl ?_
    refine a_ifb_eq (pc' := 20) (tgt := 30) hc d_M_free_17 rfl rfl (fun h17 => ?_) (fun h17 => ?_)
    · skip
      refine a_iconst (pc' := 31) (v := -1) hc d_M_free_30 rfl (by decide) ?_
      exact a_iret hc hr hk d_M_free_31 (m_i (by first | rfl | (simp only [feI, h4, h17]; done) | (simp [feI, h4, h17]; done)) (rfl))
    · skip
      obtain ⟨j, hj, ej, cj⟩ := dkB_t (by omega) h17
      subst ej
      refine a_aload_n (pc' := 21) hc d_M_free_20 rfl rfl rfl ?_
      refine a_bipush (pc' := 23) (v := nI 15) hc d_M_free_21 rfl (by decide) ?_
      refine a_iload_n (pc' := 24) hc d_M_free_23 rfl rfl rfl ?_
      refine r_calli (pc' := 27) hc hK hO hA hx [.int (nI 15), .int (nI j)] [] (ct_M_freeOf hx (τ := τ) (mp := 15) (d := j) (by omega) (by omega) hw) ml_M_66 hd_M_freeOf ⟨by decide, by decide⟩ rfl rfl (Nat.le_of_ble_eq_true rfl) d_M_free_24 rfl ?_
      refine a_goto (tgt := 31) hc d_M_free_27 rfl ?_
      exact a_iret hc hr hk d_M_free_31 (m_i (by first | rfl | (simp only [feI, h4, h17, cj]; done) | (simp [feI, h4, h17, cj]; done)) (rfl))
  · skip
    refine a_bipush (pc' := 9) (v := -2) hc d_M_free_7 rfl (by decide) ?_
    refine a_goto (tgt := 31) hc d_M_free_9 rfl ?_
    exact a_iret hc hr hk d_M_free_31 (m_i (by first | rfl | (simp only [feI, h4]; done) | (simp [feI, h4]; done)) (rfl))
theorem ct_M_moving (hx : MX ax rl ca tys n E) {τ : TS}  : MC l y_M_moving c_M_moving 2 (some .int) 1 D tys A ax rl ca n E τ [] (some (.int (moI τ))) τ := by
  obtain ⟨hn2, hn5⟩ := hx.2.2.2.1
  obtain ⟨hE2, hE10⟩ := hx.2.2.2.2
  refine MC.of rfl (Nat.le_of_ble_eq_true rfl) (cat_all rfl) ?_
  intro pp ee ss mm aa bb me cd hc hK hO hr hk hA
  refine AW.to (lv' := [some (.ref (ax 0)), none]) rfl rfl rfl ?_
  refine a_aload_n (pc' := 1) hc d_M_moving_0 rfl rfl rfl ?_
  refine r_get (pc' := 4) hc hK hx 11 (v := .int (bI (tb (τ 0 5)))) (by decide) rfl fl_M_45 d_M_moving_1 rfl ?_
  refine a_ifb_ne (pc' := 7) (tgt := 10) hc d_M_moving_4 rfl rfl (fun h4 => ?_) (fun h4 => ?_)
  · skip
    refine a_aload_n (pc' := 11) hc d_M_moving_10 rfl rfl rfl ?_
    refine a_bipush (pc' := 13) (v := nI 15) hc d_M_moving_11 rfl (by decide) ?_
    refine a_bipush (pc' := 15) (v := nI 60) hc d_M_moving_13 rfl (by decide) ?_
    refine r_calli (pc' := 18) hc hK hO hA hx [.int (nI 15), .int (nI 60)] [] (ct_M_get hx (τ := τ) (mp := 15) (i := 60) (by omega) (by omega)) ml_M_49 hd_M_get ⟨by decide, by decide⟩ rfl rfl (Nat.le_of_ble_eq_true rfl) d_M_moving_15 rfl ?_
    refine a_istore_n (pc' := 19) hc d_M_moving_18 rfl rfl (by decide) ?_
    refine a_iload_n (pc' := 20) hc d_M_moving_19 rfl rfl rfl ?_
    refine a_if_ge (pc' := 23) (tgt := 28) hc d_M_moving_20 rfl rfl (fun h20 => ?_) (fun h20 => ?_)
    · skip
      refine a_sipush (pc' := 31) (v := nI 128) hc d_M_moving_28 rfl (by decide) ?_
      refine a_iload_n (pc' := 32) hc d_M_moving_31 rfl rfl rfl ?_
      refine a_imul (pc' := 33) hc d_M_moving_32 rfl ?_
      refine a_bipush (pc' := 35) (v := nI 16) hc d_M_moving_33 rfl (by decide) ?_
      refine a_aload_n (pc' := 36) hc d_M_moving_35 rfl rfl rfl ?_
      refine r_get (pc' := 39) hc hK hx 12 (v := .int (τ 0 6)) (by decide) rfl fl_M_126 d_M_moving_36 rfl ?_
      refine a_imul (pc' := 40) hc d_M_moving_39 rfl ?_
      refine a_iadd (pc' := 41) hc d_M_moving_40 rfl ?_
      refine a_aload_n (pc' := 42) hc d_M_moving_41 rfl rfl rfl ?_
      refine a_bipush (pc' := 44) (v := nI 15) hc d_M_moving_42 rfl (by decide) ?_
      refine a_bipush (pc' := 46) (v := nI 61) hc d_M_moving_44 rfl (by decide) ?_
      refine r_calli (pc' := 49) hc hK hO hA hx [.int (nI 15), .int (nI 61)] [.int (((nI 128) * (gt τ 15 60)) + ((nI 16) * (τ 0 6)))] (ct_M_get hx (τ := τ) (mp := 15) (i := 61) (by omega) (by omega)) ml_M_49 hd_M_get ⟨by decide, by decide⟩ rfl rfl (Nat.le_of_ble_eq_true rfl) d_M_moving_46 rfl ?_
      refine a_iadd (pc' := 50) hc d_M_moving_49 rfl ?_
      exact a_iret hc hr hk d_M_moving_50 (m_i (by first | rfl | (simp only [moI, h4, h20]; done) | (simp [moI, h4, h20]; done)) (rfl))
    · skip
      refine a_bipush (pc' := 25) (v := -8) hc d_M_moving_23 rfl (by decide) ?_
      refine a_goto (tgt := 50) hc d_M_moving_25 rfl ?_
      exact a_iret hc hr hk d_M_moving_50 (m_i (by first | rfl | (simp only [moI, h4, h20]; done) | (simp [moI, h4, h20]; done)) (rfl))
  · skip
    refine a_bipush (pc' := 9) (v := -2) hc d_M_moving_7 rfl (by decide) ?_
    exact a_iret hc hr hk d_M_moving_9 (m_i (by first | rfl | (simp only [moI, h4]; done) | (simp [moI, h4]; done)) (rfl))
theorem ct_M_sequence (hx : MX ax rl ca tys n E) {τ : TS}  : MC l y_M_sequence c_M_sequence 1 (some .int) 0 D tys A ax rl ca n E τ [] (some (.int (sqI τ))) τ := by
  obtain ⟨hn2, hn5⟩ := hx.2.2.2.1
  obtain ⟨hE2, hE10⟩ := hx.2.2.2.2
  refine MC.of rfl (Nat.le_of_ble_eq_true rfl) (cat_all rfl) ?_
  intro pp ee ss mm aa bb me cd hc hK hO hr hk hA
  refine AW.to (lv' := [some (.ref (ax 0))]) rfl rfl rfl ?_
  refine a_aload_n (pc' := 1) hc d_M_sequence_0 rfl rfl rfl ?_
  refine r_get (pc' := 4) hc hK hx 11 (v := .int (bI (tb (τ 0 5)))) (by decide) rfl fl_M_45 d_M_sequence_1 rfl ?_
  refine a_ifb_eq (pc' := 7) (tgt := 14) hc d_M_sequence_4 rfl rfl (fun h4 => ?_) (fun h4 => ?_)
  · skip
    refine a_bipush (pc' := 16) (v := -2) hc d_M_sequence_14 rfl (by decide) ?_
    exact a_iret hc hr hk d_M_sequence_16 (m_i (by first | rfl | (simp only [sqI, h4]; done) | (simp [sqI, h4]; done)) (rfl))
  · skip
    refine a_aload_n (pc' := 8) hc d_M_sequence_7 rfl rfl rfl ?_
    refine r_get (pc' := 11) hc hK hx 8 (v := .int (τ 0 2)) (by decide) rfl fl_M_36 d_M_sequence_8 rfl ?_
    refine a_goto (tgt := 16) hc d_M_sequence_11 rfl ?_
    exact a_iret hc hr hk d_M_sequence_16 (m_i (by first | rfl | (simp only [sqI, h4]; done) | (simp [sqI, h4]; done)) (rfl))
theorem ct_M_slot (hx : MX ax rl ca tys n E) {τ : TS} {d : Int32} {k : Int32}  : MC l y_M_slot c_M_slot 3 (some .int) 1 D tys A ax rl ca n E τ [.int d, .int k] (some (.int (soI τ n d k))) τ := by
  obtain ⟨hn2, hn5⟩ := hx.2.2.2.1
  obtain ⟨hE2, hE10⟩ := hx.2.2.2.2
  refine MC.of rfl (Nat.le_of_ble_eq_true rfl) (cat_all rfl) ?_
  intro pp ee ss mm aa bb me cd hc hK hO hr hk hA
  refine AW.to (lv' := [some (.ref (ax 0)), some (.int d), some (.int k)]) rfl rfl rfl ?_
  refine a_aload_n (pc' := 1) hc d_M_slot_0 rfl rfl rfl ?_
  refine a_iload_n (pc' := 2) hc d_M_slot_1 rfl rfl rfl ?_
  refine r_calli (pc' := 5) hc hK hO hA hx [.int d] [] (ct_M_isDisk hx (τ := τ) (d := d) ) ml_M_148 hd_M_isDisk ⟨by decide, by decide⟩ rfl rfl (Nat.le_of_ble_eq_true rfl) d_M_slot_2 rfl ?_
  refine a_ifb_eq (pc' := 8) (tgt := 30) hc d_M_slot_5 rfl rfl (fun h5 => ?_) (fun h5 => ?_)
  · skip
    refine a_iconst (pc' := 31) (v := -1) hc d_M_slot_30 rfl (by decide) ?_
    exact a_iret hc hr hk d_M_slot_31 (m_i (by first | rfl | (simp only [soI, h5]; done) | (simp [soI, h5]; done)) (rfl))
  · skip
    obtain ⟨j, hj, ej, cj⟩ := dkB_t (by omega) h5
    subst ej
    refine a_iload_n (pc' := 9) hc d_M_slot_8 rfl rfl rfl ?_
    refine a_if_lt (pc' := 12) (tgt := 30) hc d_M_slot_9 rfl rfl (fun h9 => ?_) (fun h9 => ?_)
    · skip
      refine a_iconst (pc' := 31) (v := -1) hc d_M_slot_30 rfl (by decide) ?_
      exact a_iret hc hr hk d_M_slot_31 (m_i (by first | rfl | (simp only [soI, h5, cj, h9]; done) | (simp [soI, h5, cj, h9]; done)) (rfl))
    · skip
      refine a_iload_n (pc' := 13) hc d_M_slot_12 rfl rfl rfl ?_
      refine a_iconst (pc' := 14) (v := nI 3) hc d_M_slot_13 rfl (by decide) ?_
      refine a_icmp_ge (pc' := 17) (tgt := 30) hc d_M_slot_14 rfl rfl (fun h14 => ?_) (fun h14 => ?_)
      · skip
        refine a_iconst (pc' := 31) (v := -1) hc d_M_slot_30 rfl (by decide) ?_
        exact a_iret hc hr hk d_M_slot_31 (m_i (by first | rfl | (simp only [soI, h5, cj, h9, h14]; done) | (simp [soI, h5, cj, h9, h14]; done)) (rfl))
      · skip
        obtain ⟨i, hi, ei, ci⟩ := ix_of (by decide) h9 h14
        subst ei
        refine a_aload_n (pc' := 18) hc d_M_slot_17 rfl rfl rfl ?_
        refine r_get (pc' := 21) hc hK hx 5 (v := .ref (ax 4)) (by decide) rfl fl_M_20 d_M_slot_18 rfl ?_
        refine a_iconst (pc' := 22) (v := nI 3) hc d_M_slot_21 rfl (by decide) ?_
        refine a_iload_n (pc' := 23) hc d_M_slot_22 rfl rfl rfl ?_
        refine a_nmul (pc' := 24) hc d_M_slot_23 rfl ?_
        refine a_iload_n (pc' := 25) hc d_M_slot_24 rfl rfl rfl ?_
        refine a_nadd (pc' := 26) hc d_M_slot_25 rfl ?_
        refine r_iald (pc' := 27) (N := 15) hc hK hx 4 ((3 * j) + i) (by decide) rfl (by omega) d_M_slot_26 rfl ?_
        refine a_goto (tgt := 31) hc d_M_slot_27 rfl ?_
        exact a_iret hc hr hk d_M_slot_31 (m_i (by first | rfl | (simp only [soI, h5, cj, h9, h14, ci]; done) | (simp [soI, h5, cj, h9, h14, ci]; done)) (rfl))
theorem ct_M_read (hx : MX ax rl ca tys n E) {τ : TS} {v : Int32} {b : Int32} (hw : WFx n E τ 15) : MC l y_M_read c_M_read 5 (some .int) 4 D tys A ax rl ca n E τ [.int v, .int b] (some (.int (rdI τ v b))) τ := by
  obtain ⟨hn2, hn5⟩ := hx.2.2.2.1
  obtain ⟨hE2, hE10⟩ := hx.2.2.2.2
  refine MC.of rfl (Nat.le_of_ble_eq_true rfl) (cat_all rfl) ?_
  intro pp ee ss mm aa bb me cd hc hK hO hr hk hA
  refine AW.to (lv' := [some (.ref (ax 0)), some (.int v), some (.int b), none, none]) rfl rfl rfl ?_
  refine a_aload_n (pc' := 1) hc d_M_read_0 rfl rfl rfl ?_
  refine r_get (pc' := 4) hc hK hx 11 (v := .int (bI (tb (τ 0 5)))) (by decide) rfl fl_M_45 d_M_read_1 rfl ?_
  refine a_ifb_ne (pc' := 7) (tgt := 10) hc d_M_read_4 rfl rfl (fun h4 => ?_) (fun h4 => ?_)
  · skip
    refine a_aload_n (pc' := 11) hc d_M_read_10 rfl rfl rfl ?_
    refine a_iload_n (pc' := 12) hc d_M_read_11 rfl rfl rfl ?_
    refine a_iload_n (pc' := 13) hc d_M_read_12 rfl rfl rfl ?_
    refine r_calli (pc' := 16) hc hK hO hA hx [.int v, .int b] [] (ct_M_isBlock hx (τ := τ) (v := v) (b := b) hw.1) ml_M_139 hd_M_isBlock ⟨by decide, by decide⟩ rfl rfl (Nat.le_of_ble_eq_true rfl) d_M_read_13 rfl ?_
    refine a_ifb_ne (pc' := 19) (tgt := 21) hc d_M_read_16 rfl rfl (fun h16 => ?_) (fun h16 => ?_)
    · skip
      obtain ⟨i, j, hi, ei, ci, hj, ej, cj, pj⟩ := blB_t hw.1 h16
      subst ei
      subst ej
      have hx16 := hw.1.ex hi
      obtain ⟨hb1, hb2, hb3, hb4, hb5, hb6⟩ := bk_t hw hi pj hj
      refine a_aload_n (pc' := 22) hc d_M_read_21 rfl rfl rfl ?_
      refine a_bipush (pc' := 24) (v := nI 15) hc d_M_read_22 rfl (by decide) ?_
      refine a_bipush (pc' := 26) (v := nI 15) hc d_M_read_24 rfl (by decide) ?_
      refine a_iload_n (pc' := 27) hc d_M_read_26 rfl rfl rfl ?_
      refine a_nmul (pc' := 28) hc d_M_read_27 rfl ?_
      refine a_iconst (pc' := 29) (v := nI 3) hc d_M_read_28 rfl (by decide) ?_
      refine a_nadd (pc' := 30) hc d_M_read_29 rfl ?_
      refine a_aload_n (pc' := 31) hc d_M_read_30 rfl rfl rfl ?_
      refine a_iload_n (pc' := 32) hc d_M_read_31 rfl rfl rfl ?_
      refine a_iload_n (pc' := 33) hc d_M_read_32 rfl rfl rfl ?_
      refine r_calli (pc' := 36) hc hK hO hA hx [.int (nI i), .int (nI j)] [.int (nI ((15 * i) + 3)), .int (nI 15), .ref (ax 0)] (ct_M_extentOf hx (τ := τ) (v := i) (b := j) (by omega) (by omega) hw.1 hb1 hb2) ml_M_142 hd_M_extentOf ⟨by decide, by decide⟩ rfl rfl (Nat.le_of_ble_eq_true rfl) d_M_read_33 rfl ?_
      refine a_nadd (pc' := 37) hc d_M_read_36 rfl ?_
      refine r_calli (pc' := 40) hc hK hO hA hx [.int (nI 15), .int (nI (((15 * i) + 3) + (eoN (gN τ 15 (15 * i)) (gN τ 15 (15 * i + 1)) j)))] [] (ct_M_get hx (τ := τ) (mp := 15) (i := ((15 * i) + 3) + (eoN (gN τ 15 (15 * i)) (gN τ 15 (15 * i + 1)) j)) (by omega) (by omega)) ml_M_49 hd_M_get ⟨by decide, by decide⟩ rfl rfl (Nat.le_of_ble_eq_true rfl) d_M_read_37 rfl ?_
      refine AW.topi (y := nI (bpN τ i j)) (hw.1.n (by omega) (by omega)) ?_
      have hid := gN_lt τ 15 (15 * i + 3 + eoN (gN τ 15 (15 * i)) (gN τ 15 (15 * i + 1)) j)
      have hid : bpN τ i j < 2 ^ 31 := hid
      refine a_istore_n (pc' := 41) hc d_M_read_40 rfl rfl (by decide) ?_
      refine a_aload_n (pc' := 42) hc d_M_read_41 rfl rfl rfl ?_
      refine a_iload_n (pc' := 43) hc d_M_read_42 rfl rfl rfl ?_
      refine a_iload_n (pc' := 44) hc d_M_read_43 rfl rfl rfl ?_
      refine r_calli (pc' := 47) hc hK hO hA hx [.int (nI i), .int (nI j)] [] (ct_M_cellOf hx (τ := τ) (v := i) (b := j) (by omega) (by omega) hw.1 hb1 hb2) ml_M_145 hd_M_cellOf ⟨by decide, by decide⟩ rfl rfl (Nat.le_of_ble_eq_true rfl) d_M_read_44 rfl ?_
      refine AW.topi (y := nI (bcN τ i j)) rfl ?_
      refine a_istore (pc' := 49) hc d_M_read_47 rfl (by decide) ?_
      refine a_aload_n (pc' := 50) hc d_M_read_49 rfl rfl rfl ?_
      refine r_get (pc' := 53) hc hK hx 2 (v := .ref (ax 1)) (by decide) rfl fl_M_7 d_M_read_50 rfl ?_
      refine a_iload_n (pc' := 54) hc d_M_read_53 rfl rfl rfl ?_
      refine a_bipush (pc' := 56) (v := nI 16) hc d_M_read_54 rfl (by decide) ?_
      refine a_ndiv (pc' := 57) hc d_M_read_56 rfl (by omega) (by omega) (by omega) ?_
      refine r_zald (pc' := 58) hc hK hx ((bpN τ i j) / 16) (by omega) d_M_read_57 rfl ?_
      refine a_ifb_eq (pc' := 61) (tgt := 76) hc d_M_read_58 rfl rfl (fun h58 => ?_) (fun h58 => ?_)
      · skip
        refine a_bipush (pc' := 78) (v := -6) hc d_M_read_76 rfl (by decide) ?_
        exact a_iret hc hr hk d_M_read_78 (m_i (by first | rfl | (simp only [rdI, h4, h16, ci, cj, h58]; done) | (simp [rdI, h4, h16, ci, cj, h58]; done)) (rfl))
      · skip
        refine a_aload_n (pc' := 62) hc d_M_read_61 rfl rfl rfl ?_
        refine r_get (pc' := 65) hc hK hx 3 (v := .ref (ax 2)) (by decide) rfl fl_M_13 d_M_read_62 rfl ?_
        refine a_aload_n (pc' := 66) hc d_M_read_65 rfl rfl rfl ?_
        refine a_iload_n (pc' := 67) hc d_M_read_66 rfl rfl rfl ?_
        refine a_iload (pc' := 69) hc d_M_read_67 rfl rfl ?_
        refine r_calli (pc' := 72) hc hK hO hA hx [.int (nI (bpN τ i j)), .int (nI (bcN τ i j))] [.ref (ax 2)] (ct_M_cellAt hx (τ := τ) (id := bpN τ i j) (c := bcN τ i j) hid) ml_M_136 hd_M_cellAt ⟨by decide, by decide⟩ rfl rfl (Nat.le_of_ble_eq_true rfl) d_M_read_69 rfl ?_
        refine r_iald (pc' := 73) (N := 320) hc hK hx 2 (caN (bpN τ i j) (bcN τ i j)) (by decide) rfl (caN_lt hn5 hE10 hb5 hb6 hb4) d_M_read_72 rfl ?_
        refine a_goto (tgt := 78) hc d_M_read_73 rfl ?_
        exact a_iret hc hr hk d_M_read_78 (m_i (by first | rfl | (simp only [rdI, h4, h16, ci, cj, h58]; done) | (simp [rdI, h4, h16, ci, cj, h58]; done)) (rfl))
    · skip
      refine a_iconst (pc' := 20) (v := -1) hc d_M_read_19 rfl (by decide) ?_
      exact a_iret hc hr hk d_M_read_20 (m_i (by first | rfl | (simp only [rdI, h4, h16]; done) | (simp [rdI, h4, h16]; done)) (rfl))
  · skip
    refine a_bipush (pc' := 9) (v := -2) hc d_M_read_7 rfl (by decide) ?_
    exact a_iret hc hr hk d_M_read_9 (m_i (by first | rfl | (simp only [rdI, h4]; done) | (simp [rdI, h4]; done)) (rfl))
