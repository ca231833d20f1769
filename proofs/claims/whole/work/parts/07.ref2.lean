variable {l : Launch} {D : va_G} {tys : List (ClassId × FieldType)} {A : Nat → Prop} {ax rl : Nat → Nat} {ca : Nat → ClassId} {n E : Nat}
theorem ct_M_nextSlot (hx : MX ax rl ca tys n E) {τ : TS} {d : Nat} (hd : d < 5) (h6 : ¬ τ 6 d < 0) : MC l y_M_nextSlot c_M_nextSlot 2 (some .int) 0 D tys A ax rl ca n E τ [.int (nI d)] (some (.int (nI (nxN τ d)))) τ := by
  obtain ⟨hn2, hn5⟩ := hx.2.2.2.1
  obtain ⟨hE2, hE10⟩ := hx.2.2.2.2
  have hwl : wrN τ d < 2 ^ 31 := nat_lt _
  refine MC.of rfl (Nat.le_of_ble_eq_true rfl) (cat_all rfl) ?_
  intro pp ee ss mm aa bb me cd hc hK hO hr hk hA
  refine AW.to (lv' := [some (.ref (ax 0)), some (.int (nI d))]) rfl rfl rfl ?_
  refine a_iconst (pc' := 1) (v := nI 3) hc d_M_nextSlot_0 rfl (by decide) ?_
  refine a_iload_n (pc' := 2) hc d_M_nextSlot_1 rfl rfl rfl ?_
  refine a_nmul (pc' := 3) hc d_M_nextSlot_2 rfl ?_
  refine a_aload_n (pc' := 4) hc d_M_nextSlot_3 rfl rfl rfl ?_
  refine r_get (pc' := 7) hc hK hx 7 (v := .ref (ax 6)) (by decide) rfl fl_M_26 d_M_nextSlot_4 rfl ?_
  refine a_iload_n (pc' := 8) hc d_M_nextSlot_7 rfl rfl rfl ?_
  refine r_iald (pc' := 9) (N := 5) hc hK hx 6 d (by decide) rfl (by omega) d_M_nextSlot_8 rfl ?_
  refine AW.topi (y := nI (wrN τ d)) (nat_eq h6) ?_
  refine a_iconst (pc' := 10) (v := nI 3) hc d_M_nextSlot_9 rfl (by decide) ?_
  refine a_nrem (pc' := 11) hc d_M_nextSlot_10 rfl (by omega) (by omega) (by omega) ?_
  refine a_nadd (pc' := 12) hc d_M_nextSlot_11 rfl ?_
  exact a_iret hc hr hk d_M_nextSlot_12 (m_i (by first | rfl | (simp only []; done) | (simp []; done)) (rfl))
theorem ct_M_slotBehind (hx : MX ax rl ca tys n E) {τ : TS} {d : Nat} (hd : d < 5) (h6 : ¬ τ 6 d < 0) : MC l y_M_slotBehind c_M_slotBehind 4 (some .int) 1 D tys A ax rl ca n E τ [.int (nI d)] (some (.int (nI (sbL τ d 3)))) τ := by
  obtain ⟨hn2, hn5⟩ := hx.2.2.2.1
  obtain ⟨hE2, hE10⟩ := hx.2.2.2.2
  refine MC.of rfl (Nat.le_of_ble_eq_true rfl) (cat_all rfl) ?_
  intro pp ee ss mm aa bb me cd hc hK hO hr hk hA
  refine AW.to (lv' := [some (.ref (ax 0)), some (.int (nI d)), none, none]) rfl rfl rfl ?_
  refine a_aload_n (pc' := 1) hc d_M_slotBehind_0 rfl rfl rfl ?_
  refine a_iload_n (pc' := 2) hc d_M_slotBehind_1 rfl rfl rfl ?_
  refine r_calli (pc' := 5) hc hK hO hA hx [.int (nI d)] [] (ct_M_nextSlot hx (τ := τ) (d := d) (by omega) h6) ml_M_94 hd_M_nextSlot ⟨by decide, by decide⟩ rfl rfl (Nat.le_of_ble_eq_true rfl) d_M_slotBehind_2 rfl ?_
  refine a_istore_n (pc' := 6) hc d_M_slotBehind_5 rfl rfl (by decide) ?_
  refine a_iconst (pc' := 7) (v := nI 0) hc d_M_slotBehind_6 rfl (by decide) ?_
  refine a_istore_n (pc' := 8) hc d_M_slotBehind_7 rfl rfl (by decide) ?_
  refine AW.lvi 2 (y := nI (sbL τ d 0)) rfl (by first | rfl | (simp only [sbL]; done) | (simp [sbL]; done)) ?_
  refine AW.loop 3 0 (fun j8 => tw ax rl ca n E τ) (fun j8 => [some (.ref (ax 0)), some (.int (nI d)), some (.int (nI (sbL τ d j8))), some (.int (nI j8))]) (Nat.zero_le _) rfl rfl (fun j8 hle8 ih8 => ?_)
  try dsimp only at ih8 ⊢
  refine a_iload_n (pc' := 9) hc d_M_slotBehind_8 rfl rfl rfl ?_
  refine a_iconst (pc' := 10) (v := nI 3) hc d_M_slotBehind_9 rfl (by decide) ?_
  refine a_ncmp_ge (pc' := 13) (tgt := 67) hc d_M_slotBehind_10 rfl rfl (by omega) (by omega) (fun h10 => ?_) (fun h10 => ?_)
  · skip
    have hex10 : j8 = 3 := by omega
    subst j8
    refine a_iload_n (pc' := 68) hc d_M_slotBehind_67 rfl rfl rfl ?_
    exact a_iret hc hr hk d_M_slotBehind_68 (m_i (rfl) (rfl))
  · skip
    refine a_aload_n (pc' := 14) hc d_M_slotBehind_13 rfl rfl rfl ?_
    refine r_get (pc' := 17) hc hK hx 5 (v := .ref (ax 4)) (by decide) rfl fl_M_20 d_M_slotBehind_14 rfl ?_
    refine a_iconst (pc' := 18) (v := nI 3) hc d_M_slotBehind_17 rfl (by decide) ?_
    refine a_iload_n (pc' := 19) hc d_M_slotBehind_18 rfl rfl rfl ?_
    refine a_nmul (pc' := 20) hc d_M_slotBehind_19 rfl ?_
    refine a_iload_n (pc' := 21) hc d_M_slotBehind_20 rfl rfl rfl ?_
    refine a_nadd (pc' := 22) hc d_M_slotBehind_21 rfl ?_
    refine r_iald (pc' := 23) (N := 15) hc hK hx 4 ((3 * d) + j8) (by decide) rfl (by omega) d_M_slotBehind_22 rfl ?_
    refine a_aload_n (pc' := 24) hc d_M_slotBehind_23 rfl rfl rfl ?_
    refine r_get (pc' := 27) hc hK hx 8 (v := .int (τ 0 2)) (by decide) rfl fl_M_36 d_M_slotBehind_24 rfl ?_
    refine a_icmp_ne (pc' := 30) (tgt := 59) hc d_M_slotBehind_27 rfl rfl (fun h27 => ?_) (fun h27 => ?_)
    · skip
      refine a_iload_n (pc' := 60) hc d_M_slotBehind_59 rfl rfl rfl ?_
      refine a_istore_n (pc' := 61) hc d_M_slotBehind_60 rfl rfl (by decide) ?_
      refine a_ninc (pc' := 64) hc d_M_slotBehind_61 rfl rfl (by decide) ?_
      refine a_goto (tgt := 8) hc d_M_slotBehind_64 rfl ?_
      refine AW.lvi 2 (y := nI (sbL τ d (j8 + 1))) rfl (by first | rfl | (simp only [sbL, h10, h27]; done) | (simp [sbL, h10, h27]; done)) ?_
      exact AW.to rfl rfl rfl (ih8 (by omega))
    · skip
      refine a_aload_n (pc' := 31) hc d_M_slotBehind_30 rfl rfl rfl ?_
      refine r_get (pc' := 34) hc hK hx 6 (v := .ref (ax 5)) (by decide) rfl fl_M_23 d_M_slotBehind_31 rfl ?_
      refine a_iconst (pc' := 35) (v := nI 3) hc d_M_slotBehind_34 rfl (by decide) ?_
      refine a_iload_n (pc' := 36) hc d_M_slotBehind_35 rfl rfl rfl ?_
      refine a_nmul (pc' := 37) hc d_M_slotBehind_36 rfl ?_
      refine a_iload_n (pc' := 38) hc d_M_slotBehind_37 rfl rfl rfl ?_
      refine a_nadd (pc' := 39) hc d_M_slotBehind_38 rfl ?_
      refine r_iald (pc' := 40) (N := 15) hc hK hx 5 ((3 * d) + j8) (by decide) rfl (by omega) d_M_slotBehind_39 rfl ?_
      refine a_aload_n (pc' := 41) hc d_M_slotBehind_40 rfl rfl rfl ?_
      refine r_get (pc' := 44) hc hK hx 9 (v := .int (τ 0 3)) (by decide) rfl fl_M_39 d_M_slotBehind_41 rfl ?_
      refine a_icmp_ne (pc' := 47) (tgt := 59) hc d_M_slotBehind_44 rfl rfl (fun h44 => ?_) (fun h44 => ?_)
      · skip
        refine a_iload_n (pc' := 60) hc d_M_slotBehind_59 rfl rfl rfl ?_
        refine a_istore_n (pc' := 61) hc d_M_slotBehind_60 rfl rfl (by decide) ?_
        refine a_ninc (pc' := 64) hc d_M_slotBehind_61 rfl rfl (by decide) ?_
        refine a_goto (tgt := 8) hc d_M_slotBehind_64 rfl ?_
        refine AW.lvi 2 (y := nI (sbL τ d (j8 + 1))) rfl (by first | rfl | (simp only [sbL, h10, h27, h44]; done) | (simp [sbL, h10, h27, h44]; done)) ?_
        exact AW.to rfl rfl rfl (ih8 (by omega))
      · skip
        refine a_iconst (pc' := 48) (v := nI 3) hc d_M_slotBehind_47 rfl (by decide) ?_
        refine a_iload_n (pc' := 49) hc d_M_slotBehind_48 rfl rfl rfl ?_
        refine a_nmul (pc' := 50) hc d_M_slotBehind_49 rfl ?_
        refine a_iload_n (pc' := 51) hc d_M_slotBehind_50 rfl rfl rfl ?_
        refine a_iconst (pc' := 52) (v := nI 1) hc d_M_slotBehind_51 rfl (by decide) ?_
        refine a_nadd (pc' := 53) hc d_M_slotBehind_52 rfl ?_
        refine a_iconst (pc' := 54) (v := nI 3) hc d_M_slotBehind_53 rfl (by decide) ?_
        refine a_nrem (pc' := 55) hc d_M_slotBehind_54 rfl (by omega) (by omega) (by omega) ?_
        refine a_nadd (pc' := 56) hc d_M_slotBehind_55 rfl ?_
        refine a_goto (tgt := 60) hc d_M_slotBehind_56 rfl ?_
        refine a_istore_n (pc' := 61) hc d_M_slotBehind_60 rfl rfl (by decide) ?_
        refine a_ninc (pc' := 64) hc d_M_slotBehind_61 rfl rfl (by decide) ?_
        refine a_goto (tgt := 8) hc d_M_slotBehind_64 rfl ?_
        refine AW.lvi 2 (y := nI (sbL τ d (j8 + 1))) rfl (by first | rfl | (simp only [sbL, h10, h27, h44]; done) | (simp [sbL, h10, h27, h44]; done)) ?_
        exact AW.to rfl rfl rfl (ih8 (by omega))
theorem ct_M_writeCopy (hx : MX ax rl ca tys n E) {τ : TS} {k : Nat} {mp : Nat} {num : Int32} {mark : Int32} (hk' : k < 15) (hm : mp < 17) : MC l y_M_writeCopy c_M_writeCopy 7 (some .boolean) 1 D tys A ax rl ca n E τ [.int (nI k), .int (nI mp), .int num, .int mark] (some (.int (bI (!stB τ)))) (wcT τ k mp num mark) := by
  obtain ⟨hn2, hn5⟩ := hx.2.2.2.1
  obtain ⟨hE2, hE10⟩ := hx.2.2.2.2
  refine MC.of rfl (Nat.le_of_ble_eq_true rfl) (cat_all rfl) ?_
  intro pp ee ss mm aa bb me cd hc hK hO hr hk hA
  refine AW.to (lv' := [some (.ref (ax 0)), some (.int (nI k)), some (.int (nI mp)), some (.int num), some (.int mark), none, none]) rfl rfl rfl ?_
  refine a_iload_n (pc' := 1) hc d_M_writeCopy_0 rfl rfl rfl ?_
  refine a_iconst (pc' := 2) (v := nI 3) hc d_M_writeCopy_1 rfl (by decide) ?_
  refine a_ndiv (pc' := 3) hc d_M_writeCopy_2 rfl (by omega) (by omega) (by omega) ?_
  refine a_istore (pc' := 5) hc d_M_writeCopy_3 rfl (by decide) ?_
  refine a_aload_n (pc' := 6) hc d_M_writeCopy_5 rfl rfl rfl ?_
  refine r_calli (pc' := 9) hc hK hO hA hx [] [] (ct_M_stops hx (τ := τ) ) ml_M_86 hd_M_stops ⟨by decide, by decide⟩ rfl rfl (Nat.le_of_ble_eq_true rfl) d_M_writeCopy_6 rfl ?_
  refine a_istore (pc' := 11) hc d_M_writeCopy_9 rfl (by decide) ?_
  refine a_aload_n (pc' := 12) hc d_M_writeCopy_11 rfl rfl rfl ?_
  refine r_get (pc' := 15) hc hK hx 7 (v := .ref (ax 6)) (by decide) rfl fl_M_26 d_M_writeCopy_12 rfl ?_
  refine a_iload (pc' := 17) hc d_M_writeCopy_15 rfl rfl ?_
  refine a_dup2 (pc' := 18) hc d_M_writeCopy_17 rfl rfl rfl ?_
  refine r_iald (pc' := 19) (N := 5) hc hK hx 6 (k / 3) (by decide) rfl (by omega) d_M_writeCopy_18 rfl ?_
  refine a_iconst (pc' := 20) (v := nI 1) hc d_M_writeCopy_19 rfl (by decide) ?_
  refine a_iadd (pc' := 21) hc d_M_writeCopy_20 rfl ?_
  refine r_iast (pc' := 22) (N := 5) hc hK hx 6 (k / 3) (by decide) rfl (by omega) d_M_writeCopy_21 rfl ?_
  refine a_aload_n (pc' := 23) hc d_M_writeCopy_22 rfl rfl rfl ?_
  refine a_iload_n (pc' := 24) hc d_M_writeCopy_23 rfl rfl rfl ?_
  refine a_iload_n (pc' := 25) hc d_M_writeCopy_24 rfl rfl rfl ?_
  refine r_callv (pc' := 28) hc hK hO hA hx [.int (nI mp), .int (nI k)] [] (ct_M_copyMap hx (τ := ts (stT τ) 6 (k / 3) (((stT τ) 6 (k / 3)) + (nI 1))) (a := mp) (b := k) (by omega) (by omega)) ml_M_90 hd_M_copyMap ⟨by decide, by decide⟩ rfl rfl (Nat.le_of_ble_eq_true rfl) d_M_writeCopy_25 rfl ?_
  refine a_aload_n (pc' := 29) hc d_M_writeCopy_28 rfl rfl rfl ?_
  refine r_get (pc' := 32) hc hK hx 5 (v := .ref (ax 4)) (by decide) rfl fl_M_20 d_M_writeCopy_29 rfl ?_
  refine a_iload_n (pc' := 33) hc d_M_writeCopy_32 rfl rfl rfl ?_
  refine a_iload (pc' := 35) hc d_M_writeCopy_33 rfl rfl ?_
  refine a_ifb_eq (pc' := 38) (tgt := 43) hc d_M_writeCopy_35 rfl rfl (fun h35 => ?_) (fun h35 => ?_)
  · skip
    refine a_iload_n (pc' := 44) hc d_M_writeCopy_43 rfl rfl rfl ?_
    refine r_iast (pc' := 45) (N := 15) hc hK hx 4 k (by decide) rfl (by omega) d_M_writeCopy_44 rfl ?_
    refine a_aload_n (pc' := 46) hc d_M_writeCopy_45 rfl rfl rfl ?_
    refine r_get (pc' := 49) hc hK hx 6 (v := .ref (ax 5)) (by decide) rfl fl_M_23 d_M_writeCopy_46 rfl ?_
    refine a_iload_n (pc' := 50) hc d_M_writeCopy_49 rfl rfl rfl ?_
    refine a_iload (pc' := 52) hc d_M_writeCopy_50 rfl rfl ?_
    refine a_ifb_eq (pc' := 55) (tgt := 59) hc d_M_writeCopy_52 rfl rfl (fun h52 => ?_) (fun h52 => absurd (h35.symm.trans h52) (by decide))
    refine a_iload (pc' := 61) hc d_M_writeCopy_59 rfl rfl ?_
    refine r_iast (pc' := 62) (N := 15) hc hK hx 5 k (by decide) rfl (by omega) d_M_writeCopy_61 rfl ?_
    refine a_iload (pc' := 64) hc d_M_writeCopy_62 rfl rfl ?_
    refine a_ifb_ne (pc' := 67) (tgt := 71) hc d_M_writeCopy_64 rfl rfl (fun h64 => absurd (h35.symm.trans h64) (by decide)) (fun h64 => ?_)
    refine a_iconst (pc' := 68) (v := nI 1) hc d_M_writeCopy_67 rfl (by decide) ?_
    refine a_goto (tgt := 72) hc d_M_writeCopy_68 rfl ?_
    exact a_zret hc hr hk (Or.inr rfl) d_M_writeCopy_72 (m_i (by first | rfl | (simp only [wcT, wc1, bI, h35]; done) | (simp [wcT, wc1, bI, h35]; done)) (by first | rfl | (simp only [wcT, wc1, bI, h35]; done) | (simp [wcT, wc1, bI, h35]; done)))
  · skip
    refine a_bipush (pc' := 40) (v := -11) hc d_M_writeCopy_38 rfl (by decide) ?_
    refine a_goto (tgt := 44) hc d_M_writeCopy_40 rfl ?_
    refine r_iast (pc' := 45) (N := 15) hc hK hx 4 k (by decide) rfl (by omega) d_M_writeCopy_44 rfl ?_
    refine a_aload_n (pc' := 46) hc d_M_writeCopy_45 rfl rfl rfl ?_
    refine r_get (pc' := 49) hc hK hx 6 (v := .ref (ax 5)) (by decide) rfl fl_M_23 d_M_writeCopy_46 rfl ?_
    refine a_iload_n (pc' := 50) hc d_M_writeCopy_49 rfl rfl rfl ?_
    refine a_iload (pc' := 52) hc d_M_writeCopy_50 rfl rfl ?_
    refine a_ifb_eq (pc' := 55) (tgt := 59) hc d_M_writeCopy_52 rfl rfl (fun h52 => absurd (h35.symm.trans h52) (by decide)) (fun h52 => ?_)
    refine a_iconst (pc' := 56) (v := nI 0) hc d_M_writeCopy_55 rfl (by decide) ?_
    refine a_goto (tgt := 61) hc d_M_writeCopy_56 rfl ?_
    refine r_iast (pc' := 62) (N := 15) hc hK hx 5 k (by decide) rfl (by omega) d_M_writeCopy_61 rfl ?_
    refine a_iload (pc' := 64) hc d_M_writeCopy_62 rfl rfl ?_
    refine a_ifb_ne (pc' := 67) (tgt := 71) hc d_M_writeCopy_64 rfl rfl (fun h64 => ?_) (fun h64 => absurd (h35.symm.trans h64) (by decide))
    refine a_iconst (pc' := 72) (v := nI 0) hc d_M_writeCopy_71 rfl (by decide) ?_
    exact a_zret hc hr hk (Or.inl rfl) d_M_writeCopy_72 (m_i (by first | rfl | (simp only [wcT, wc1, bI, h35]; done) | (simp [wcT, wc1, bI, h35]; done)) (by first | rfl | (simp only [wcT, wc1, bI, h35]; done) | (simp [wcT, wc1, bI, h35]; done)))
theorem ct_M_commit (hx : MX ax rl ca tys n E) {τ : TS} (h6 : ∀ d, d < 5 → ¬ τ 6 d < 0) : MC l y_M_commit c_M_commit 3 (some .boolean) 2 D tys A ax rl ca n E τ [] (some (.int (bI (cmB τ n)))) (cmW τ n) := by
  obtain ⟨hn2, hn5⟩ := hx.2.2.2.1
  obtain ⟨hE2, hE10⟩ := hx.2.2.2.2
  refine MC.of rfl (Nat.le_of_ble_eq_true rfl) (cat_all rfl) ?_
  intro pp ee ss mm aa bb me cd hc hK hO hr hk hA
  refine AW.to (lv' := [some (.ref (ax 0)), none, none]) rfl rfl rfl ?_
  refine a_aload_n (pc' := 1) hc d_M_commit_0 rfl rfl rfl ?_
  refine a_dup (pc' := 2) hc d_M_commit_1 rfl rfl ?_
  refine r_get (pc' := 5) hc hK hx 10 (v := .int (τ 0 4)) (by decide) rfl fl_M_42 d_M_commit_2 rfl ?_
  refine a_iconst (pc' := 6) (v := nI 1) hc d_M_commit_5 rfl (by decide) ?_
  refine a_iadd (pc' := 7) hc d_M_commit_6 rfl ?_
  refine r_put (pc' := 10) hc hK hx 10 (by decide) fl_M_42 d_M_commit_7 rfl ?_
  refine a_aload_n (pc' := 11) hc d_M_commit_10 rfl rfl rfl ?_
  refine r_get (pc' := 14) hc hK hx 10 (v := .int ((ts τ 0 4 ((τ 0 4) + (nI 1))) 0 4)) (by decide) rfl fl_M_42 d_M_commit_11 rfl ?_
  refine AW.topi (y := τ 0 4 + nI 1) ts_at ?_
  refine a_istore_n (pc' := 15) hc d_M_commit_14 rfl rfl (by decide) ?_
  refine a_iconst (pc' := 16) (v := nI 0) hc d_M_commit_15 rfl (by decide) ?_
  refine a_istore_n (pc' := 17) hc d_M_commit_16 rfl rfl (by decide) ?_
  refine AW.tw (τ1 := cmT τ 0) (by first | rfl | (simp only [cmT]; done) | (simp [cmT]; done)) ?_
  refine AW.loopG n 0 (fun d17 => tw ax rl ca n E (cmT τ d17)) (fun d17 => [some (.ref (ax 0)), some (.int (τ 0 4 + nI 1)), some (.int (nI d17))]) (fun d17 => ∀ j, j < d17 → qC τ j = false) (Nat.zero_le _) (fun j hj => absurd hj (by omega)) rfl rfl (fun d17 hle17 hG17 ih17 => ?_)
  try dsimp only at hG17 ih17 ⊢
  refine a_iload_n (pc' := 18) hc d_M_commit_17 rfl rfl rfl ?_
  refine a_aload_n (pc' := 19) hc d_M_commit_18 rfl rfl rfl ?_
  refine r_get (pc' := 22) hc hK hx 0 (v := .int (nI n)) (by decide) rfl fl_M_29 d_M_commit_19 rfl ?_
  refine a_ncmp_ge (pc' := 25) (tgt := 63) hc d_M_commit_22 rfl rfl (by omega) (by omega) (fun h22 => ?_) (fun h22 => ?_)
  · skip
    have hex22 : d17 = n := by omega
    subst d17
    refine a_aload_n (pc' := 64) hc d_M_commit_63 rfl rfl rfl ?_
    refine a_dup (pc' := 65) hc d_M_commit_64 rfl rfl ?_
    refine r_get (pc' := 68) hc hK hx 8 (v := .int ((cmT τ n) 0 2)) (by decide) rfl fl_M_36 d_M_commit_65 rfl ?_
    refine a_iconst (pc' := 69) (v := nI 1) hc d_M_commit_68 rfl (by decide) ?_
    refine a_iadd (pc' := 70) hc d_M_commit_69 rfl ?_
    refine r_put (pc' := 73) hc hK hx 8 (by decide) fl_M_36 d_M_commit_70 rfl ?_
    refine a_aload_n (pc' := 74) hc d_M_commit_73 rfl rfl rfl ?_
    refine a_iload_n (pc' := 75) hc d_M_commit_74 rfl rfl rfl ?_
    refine r_put (pc' := 78) hc hK hx 9 (by decide) fl_M_39 d_M_commit_75 rfl ?_
    refine a_aload_n (pc' := 79) hc d_M_commit_78 rfl rfl rfl ?_
    refine a_bipush (pc' := 81) (v := nI 16) hc d_M_commit_79 rfl (by decide) ?_
    refine a_bipush (pc' := 83) (v := nI 15) hc d_M_commit_81 rfl (by decide) ?_
    refine r_callv (pc' := 86) hc hK hO hA hx [.int (nI 16), .int (nI 15)] [] (ct_M_copyMap hx (τ := ts (ts (cmT τ n) 0 2 (((cmT τ n) 0 2) + (nI 1))) 0 3 (τ 0 4 + nI 1)) (a := 16) (b := 15) (by omega) (by omega)) ml_M_90 hd_M_copyMap ⟨by decide, by decide⟩ rfl rfl (Nat.le_of_ble_eq_true rfl) d_M_commit_83 rfl ?_
    refine a_iconst (pc' := 87) (v := nI 1) hc d_M_commit_86 rfl (by decide) ?_
    exact a_zret hc hr hk (Or.inr rfl) d_M_commit_87 (m_i (by rw [(cm_done hG17).1]; rfl) ((cm_done hG17).2.symm))
  · skip
    refine a_aload_n (pc' := 26) hc d_M_commit_25 rfl rfl rfl ?_
    refine r_get (pc' := 29) hc hK hx 2 (v := .ref (ax 1)) (by decide) rfl fl_M_7 d_M_commit_26 rfl ?_
    refine a_iload_n (pc' := 30) hc d_M_commit_29 rfl rfl rfl ?_
    refine r_zald (pc' := 31) hc hK hx d17 (by omega) d_M_commit_30 rfl ?_
    refine a_ifb_eq (pc' := 34) (tgt := 57) hc d_M_commit_31 rfl rfl (fun h31 => ?_) (fun h31 => ?_)
    · skip
      refine a_ninc (pc' := 60) hc d_M_commit_57 rfl rfl (by decide) ?_
      refine a_goto (tgt := 17) hc d_M_commit_60 rfl ?_
      refine AW.tw (τ1 := cmT τ (d17 + 1)) (by first | rfl | (simp only [cmT, h22, h31]; done) | (simp [cmT, h22, h31]; done)) ?_
      exact AW.to rfl rfl rfl (ih17 (by omega) (allf_s hG17 (by first | (simp [qC, h31]; done) | (simp at h52; simp [qC, h31, h52]))))
    · skip
      refine a_aload_n (pc' := 35) hc d_M_commit_34 rfl rfl rfl ?_
      refine a_aload_n (pc' := 36) hc d_M_commit_35 rfl rfl rfl ?_
      refine a_iload_n (pc' := 37) hc d_M_commit_36 rfl rfl rfl ?_
      refine r_calli (pc' := 40) hc hK hO hA hx [.int (nI d17)] [.ref (ax 0)] (ct_M_slotBehind hx (τ := cmT τ d17) (d := d17) (by omega) (by rw [cmT_6 τ d17 d17 (Nat.le_refl _)]; exact h6 _ (by omega))) ml_M_97 hd_M_slotBehind ⟨by decide, by decide⟩ rfl rfl (Nat.le_of_ble_eq_true rfl) d_M_commit_37 rfl ?_
      have hb37 := sbL_b (cmT τ d17) d17 3
      refine a_bipush (pc' := 42) (v := nI 16) hc d_M_commit_40 rfl (by decide) ?_
      refine a_aload_n (pc' := 43) hc d_M_commit_42 rfl rfl rfl ?_
      refine r_get (pc' := 46) hc hK hx 8 (v := .int ((cmT τ d17) 0 2)) (by decide) rfl fl_M_36 d_M_commit_43 rfl ?_
      refine a_iconst (pc' := 47) (v := nI 1) hc d_M_commit_46 rfl (by decide) ?_
      refine a_iadd (pc' := 48) hc d_M_commit_47 rfl ?_
      refine a_iload_n (pc' := 49) hc d_M_commit_48 rfl rfl rfl ?_
      refine r_calli (pc' := 52) hc hK hO hA hx [.int (nI (sbL (cmT τ d17) d17 3)), .int (nI 16), .int (((cmT τ d17) 0 2) + (nI 1)), .int (τ 0 4 + nI 1)] [] (ct_M_writeCopy hx (τ := cmT τ d17) (k := sbL (cmT τ d17) d17 3) (mp := 16) (num := ((cmT τ d17) 0 2) + (nI 1)) (mark := τ 0 4 + nI 1) (by omega) (by omega)) ml_M_100 hd_M_writeCopy ⟨by decide, by decide⟩ rfl rfl (Nat.le_of_ble_eq_true rfl) d_M_commit_49 rfl ?_
      refine a_ifb_ne (pc' := 55) (tgt := 57) hc d_M_commit_52 rfl rfl (fun h52 => ?_) (fun h52 => ?_)
      · skip
        refine a_ninc (pc' := 60) hc d_M_commit_57 rfl rfl (by decide) ?_
        refine a_goto (tgt := 17) hc d_M_commit_60 rfl ?_
        refine AW.tw (τ1 := cmT τ (d17 + 1)) (by first | rfl | (simp only [cmT, h22, h31, h52]; done) | (simp [cmT, h22, h31, h52]; done)) ?_
        exact AW.to rfl rfl rfl (ih17 (by omega) (allf_s hG17 (by first | (simp [qC, h31]; done) | (simp at h52; simp [qC, h31, h52]))))
      · skip
        refine a_iconst (pc' := 56) (v := nI 0) hc d_M_commit_55 rfl (by decide) ?_
        exact a_zret hc hr hk (Or.inl rfl) d_M_commit_56 (m_i (by rw [(cm_stop hG17 (by omega) h31 h52).1]; rfl) ((cm_stop hG17 (by omega) h31 h52).2.symm))
theorem ct_M_target (hx : MX ax rl ca tys n E) {τ : TS}  : MC l y_M_target c_M_target 1 (some .int) 1 D tys A ax rl ca n E τ [] (some (.int (gt τ 15 62))) τ := by
  obtain ⟨hn2, hn5⟩ := hx.2.2.2.1
  obtain ⟨hE2, hE10⟩ := hx.2.2.2.2
  refine MC.of rfl (Nat.le_of_ble_eq_true rfl) (cat_all rfl) ?_
  intro pp ee ss mm aa bb me cd hc hK hO hr hk hA
  refine AW.to (lv' := [some (.ref (ax 0))]) rfl rfl rfl ?_
  refine a_aload_n (pc' := 1) hc d_M_target_0 rfl rfl rfl ?_
  refine a_bipush (pc' := 3) (v := nI 15) hc d_M_target_1 rfl (by decide) ?_
  refine a_bipush (pc' := 5) (v := nI 62) hc d_M_target_3 rfl (by decide) ?_
  refine r_calli (pc' := 8) hc hK hO hA hx [.int (nI 15), .int (nI 62)] [] (ct_M_get hx (τ := τ) (mp := 15) (i := 62) (by omega) (by omega)) ml_M_49 hd_M_get ⟨by decide, by decide⟩ rfl rfl (Nat.le_of_ble_eq_true rfl) d_M_target_5 rfl ?_
  exact a_iret hc hr hk d_M_target_8 (m_i (rfl) (rfl))
theorem ct_M_source (hx : MX ax rl ca tys n E) {τ : TS} (hw : WFm τ 15) (h60 : ¬ gt τ 15 60 < 0) (h4 : gN τ 15 60 < 4) (h61 : gN τ 15 61 < 12) : MC l y_M_source c_M_source 1 (some .int) 1 D tys A ax rl ca n E τ [] (some (.int (gt τ 15 (15 * gN τ 15 60 + 3 + gN τ 15 61)))) τ := by
  obtain ⟨hn2, hn5⟩ := hx.2.2.2.1
  obtain ⟨hE2, hE10⟩ := hx.2.2.2.2
  refine MC.of rfl (Nat.le_of_ble_eq_true rfl) (cat_all rfl) ?_
  intro pp ee ss mm aa bb me cd hc hK hO hr hk hA
  refine AW.to (lv' := [some (.ref (ax 0))]) rfl rfl rfl ?_
  refine a_aload_n (pc' := 1) hc d_M_source_0 rfl rfl rfl ?_
  refine a_bipush (pc' := 3) (v := nI 15) hc d_M_source_1 rfl (by decide) ?_
  refine a_bipush (pc' := 5) (v := nI 15) hc d_M_source_3 rfl (by decide) ?_
  refine a_aload_n (pc' := 6) hc d_M_source_5 rfl rfl rfl ?_
  refine a_bipush (pc' := 8) (v := nI 15) hc d_M_source_6 rfl (by decide) ?_
  refine a_bipush (pc' := 10) (v := nI 60) hc d_M_source_8 rfl (by decide) ?_
  refine r_calli (pc' := 13) hc hK hO hA hx [.int (nI 15), .int (nI 60)] [.int (nI 15), .int (nI 15), .ref (ax 0)] (ct_M_get hx (τ := τ) (mp := 15) (i := 60) (by omega) (by omega)) ml_M_49 hd_M_get ⟨by decide, by decide⟩ rfl rfl (Nat.le_of_ble_eq_true rfl) d_M_source_10 rfl ?_
  refine AW.topi (y := nI (gN τ 15 60)) (nat_eq h60) ?_
  refine a_nmul (pc' := 14) hc d_M_source_13 rfl ?_
  refine a_iconst (pc' := 15) (v := nI 3) hc d_M_source_14 rfl (by decide) ?_
  refine a_nadd (pc' := 16) hc d_M_source_15 rfl ?_
  refine a_aload_n (pc' := 17) hc d_M_source_16 rfl rfl rfl ?_
  refine a_bipush (pc' := 19) (v := nI 15) hc d_M_source_17 rfl (by decide) ?_
  refine a_bipush (pc' := 21) (v := nI 61) hc d_M_source_19 rfl (by decide) ?_
  refine r_calli (pc' := 24) hc hK hO hA hx [.int (nI 15), .int (nI 61)] [.int (nI ((15 * (gN τ 15 60)) + 3)), .int (nI 15), .ref (ax 0)] (ct_M_get hx (τ := τ) (mp := 15) (i := 61) (by omega) (by omega)) ml_M_49 hd_M_get ⟨by decide, by decide⟩ rfl rfl (Nat.le_of_ble_eq_true rfl) d_M_source_21 rfl ?_
  refine AW.topi (y := nI (gN τ 15 61)) (hw.n (by omega) (by omega)) ?_
  refine a_nadd (pc' := 25) hc d_M_source_24 rfl ?_
  refine r_calli (pc' := 28) hc hK hO hA hx [.int (nI 15), .int (nI (((15 * (gN τ 15 60)) + 3) + (gN τ 15 61)))] [] (ct_M_get hx (τ := τ) (mp := 15) (i := ((15 * (gN τ 15 60)) + 3) + (gN τ 15 61)) (by omega) (by omega)) ml_M_49 hd_M_get ⟨by decide, by decide⟩ rfl rfl (Nat.le_of_ble_eq_true rfl) d_M_source_25 rfl ?_
  exact a_iret hc hr hk d_M_source_28 (m_i (by first | rfl | (simp only []; done) | (simp []; done)) (rfl))
theorem ct_M_isExtent (hx : MX ax rl ca tys n E) {τ : TS} {v : Int32} {k : Int32} (hw : WFm τ 15) : MC l y_M_isExtent c_M_isExtent 3 (some .boolean) 3 D tys A ax rl ca n E τ [.int v, .int k] (some (.int (bI (exB τ v k)))) τ := by
  obtain ⟨hn2, hn5⟩ := hx.2.2.2.1
  obtain ⟨hE2, hE10⟩ := hx.2.2.2.2
  refine MC.of rfl (Nat.le_of_ble_eq_true rfl) (cat_all rfl) ?_
  intro pp ee ss mm aa bb me cd hc hK hO hr hk hA
  refine AW.to (lv' := [some (.ref (ax 0)), some (.int v), some (.int k)]) rfl rfl rfl ?_
  refine a_aload_n (pc' := 1) hc d_M_isExtent_0 rfl rfl rfl ?_
  refine a_iload_n (pc' := 2) hc d_M_isExtent_1 rfl rfl rfl ?_
  refine r_calli (pc' := 5) hc hK hO hA hx [.int v] [] (ct_M_isVolume hx (τ := τ) (v := v) ) ml_M_117 hd_M_isVolume ⟨by decide, by decide⟩ rfl rfl (Nat.le_of_ble_eq_true rfl) d_M_isExtent_2 rfl ?_
  refine a_ifb_eq (pc' := 8) (tgt := 27) hc d_M_isExtent_5 rfl rfl (fun h5 => ?_) (fun h5 => ?_)
  · skip
    refine a_iconst (pc' := 28) (v := nI 0) hc d_M_isExtent_27 rfl (by decide) ?_
    exact a_zret hc hr hk (Or.inl rfl) d_M_isExtent_28 (m_i (by first | rfl | (simp only [exB, bI, h5]; done) | (simp [exB, bI, h5]; done)) (rfl))
  · skip
    obtain ⟨j, hj, ej, cj, pj⟩ := volB_t h5
    subst ej
    refine a_iload_n (pc' := 9) hc d_M_isExtent_8 rfl rfl rfl ?_
    refine a_if_lt (pc' := 12) (tgt := 27) hc d_M_isExtent_9 rfl rfl (fun h9 => ?_) (fun h9 => ?_)
    · skip
      refine a_iconst (pc' := 28) (v := nI 0) hc d_M_isExtent_27 rfl (by decide) ?_
      exact a_zret hc hr hk (Or.inl rfl) d_M_isExtent_28 (m_i (by first | rfl | (simp only [exB, bI, h5, cj, h9]; done) | (simp [exB, bI, h5, cj, h9]; done)) (rfl))
    · skip
      refine a_iload_n (pc' := 13) hc d_M_isExtent_12 rfl rfl rfl ?_
      refine a_aload_n (pc' := 14) hc d_M_isExtent_13 rfl rfl rfl ?_
      refine a_bipush (pc' := 16) (v := nI 15) hc d_M_isExtent_14 rfl (by decide) ?_
      refine a_iload_n (pc' := 17) hc d_M_isExtent_16 rfl rfl rfl ?_
      refine r_calli (pc' := 20) hc hK hO hA hx [.int (nI 15), .int (nI j)] [.int k] (ct_M_extentsOf hx (τ := τ) (mp := 15) (v := j) (by omega) (by omega) hw) ml_M_59 hd_M_extentsOf ⟨by decide, by decide⟩ rfl rfl (Nat.le_of_ble_eq_true rfl) d_M_isExtent_17 rfl ?_
      refine a_icmp_ge (pc' := 23) (tgt := 27) hc d_M_isExtent_20 rfl rfl (fun h20 => ?_) (fun h20 => ?_)
      · skip
        refine a_iconst (pc' := 28) (v := nI 0) hc d_M_isExtent_27 rfl (by decide) ?_
        exact a_zret hc hr hk (Or.inl rfl) d_M_isExtent_28 (m_i (by first | rfl | (simp only [exB, bI, h5, cj, h9, h20]; done) | (simp [exB, bI, h5, cj, h9, h20]; done)) (rfl))
      · skip
        refine a_iconst (pc' := 24) (v := nI 1) hc d_M_isExtent_23 rfl (by decide) ?_
        refine a_goto (tgt := 28) hc d_M_isExtent_24 rfl ?_
        exact a_zret hc hr hk (Or.inr rfl) d_M_isExtent_28 (m_i (by first | rfl | (simp only [exB, bI, h5, cj, h9, h20]; done) | (simp [exB, bI, h5, cj, h9, h20]; done)) (rfl))
theorem ct_M_isBlock (hx : MX ax rl ca tys n E) {τ : TS} {v : Int32} {b : Int32} (hw : WFm τ 15) : MC l y_M_isBlock c_M_isBlock 3 (some .boolean) 3 D tys A ax rl ca n E τ [.int v, .int b] (some (.int (bI (blB τ v b)))) τ := by
  obtain ⟨hn2, hn5⟩ := hx.2.2.2.1
  obtain ⟨hE2, hE10⟩ := hx.2.2.2.2
  refine MC.of rfl (Nat.le_of_ble_eq_true rfl) (cat_all rfl) ?_
  intro pp ee ss mm aa bb me cd hc hK hO hr hk hA
  refine AW.to (lv' := [some (.ref (ax 0)), some (.int v), some (.int b)]) rfl rfl rfl ?_
  refine a_aload_n (pc' := 1) hc d_M_isBlock_0 rfl rfl rfl ?_
  refine a_iload_n (pc' := 2) hc d_M_isBlock_1 rfl rfl rfl ?_
  refine r_calli (pc' := 5) hc hK hO hA hx [.int v] [] (ct_M_isVolume hx (τ := τ) (v := v) ) ml_M_117 hd_M_isVolume ⟨by decide, by decide⟩ rfl rfl (Nat.le_of_ble_eq_true rfl) d_M_isBlock_2 rfl ?_
  refine a_ifb_eq (pc' := 8) (tgt := 29) hc d_M_isBlock_5 rfl rfl (fun h5 => ?_) (fun h5 => ?_)
  · skip
    refine a_iconst (pc' := 30) (v := nI 0) hc d_M_isBlock_29 rfl (by decide) ?_
    exact a_zret hc hr hk (Or.inl rfl) d_M_isBlock_30 (m_i (by first | rfl | (simp only [blB, bI, h5]; done) | (simp [blB, bI, h5]; done)) (rfl))
  · skip
    obtain ⟨j, hj, ej, cj, pj⟩ := volB_t h5
    subst ej
    refine a_iload_n (pc' := 9) hc d_M_isBlock_8 rfl rfl rfl ?_
    refine a_if_lt (pc' := 12) (tgt := 29) hc d_M_isBlock_9 rfl rfl (fun h9 => ?_) (fun h9 => ?_)
    · skip
      refine a_iconst (pc' := 30) (v := nI 0) hc d_M_isBlock_29 rfl (by decide) ?_
      exact a_zret hc hr hk (Or.inl rfl) d_M_isBlock_30 (m_i (by first | rfl | (simp only [blB, bI, h5, cj, h9]; done) | (simp [blB, bI, h5, cj, h9]; done)) (rfl))
    · skip
      refine a_iload_n (pc' := 13) hc d_M_isBlock_12 rfl rfl rfl ?_
      refine a_iconst (pc' := 14) (v := nI 4) hc d_M_isBlock_13 rfl (by decide) ?_
      refine a_aload_n (pc' := 15) hc d_M_isBlock_14 rfl rfl rfl ?_
      refine a_bipush (pc' := 17) (v := nI 15) hc d_M_isBlock_15 rfl (by decide) ?_
      refine a_iload_n (pc' := 18) hc d_M_isBlock_17 rfl rfl rfl ?_
      refine r_calli (pc' := 21) hc hK hO hA hx [.int (nI 15), .int (nI j)] [.int (nI 4), .int b] (ct_M_extentsOf hx (τ := τ) (mp := 15) (v := j) (by omega) (by omega) hw) ml_M_59 hd_M_extentsOf ⟨by decide, by decide⟩ rfl rfl (Nat.le_of_ble_eq_true rfl) d_M_isBlock_18 rfl ?_
      refine a_nmul (pc' := 22) hc d_M_isBlock_21 rfl ?_
      refine a_icmp_ge (pc' := 25) (tgt := 29) hc d_M_isBlock_22 rfl rfl (fun h22 => ?_) (fun h22 => ?_)
      · skip
        refine a_iconst (pc' := 30) (v := nI 0) hc d_M_isBlock_29 rfl (by decide) ?_
        exact a_zret hc hr hk (Or.inl rfl) d_M_isBlock_30 (m_i (by first | rfl | (simp only [blB, bI, h5, cj, h9, h22]; done) | (simp [blB, bI, h5, cj, h9, h22]; done)) (rfl))
      · skip
        refine a_iconst (pc' := 26) (v := nI 1) hc d_M_isBlock_25 rfl (by decide) ?_
        refine a_goto (tgt := 30) hc d_M_isBlock_26 rfl ?_
        exact a_zret hc hr hk (Or.inr rfl) d_M_isBlock_30 (m_i (by first | rfl | (simp only [blB, bI, h5, cj, h9, h22]; done) | (simp [blB, bI, h5, cj, h9, h22]; done)) (rfl))
theorem ct_M_cellAt (hx : MX ax rl ca tys n E) {τ : TS} {id : Nat} {c : Nat} (hid : id < 2 ^ 31) : MC l y_M_cellAt c_M_cellAt 3 (some .int) 0 D tys A ax rl ca n E τ [.int (nI id), .int (nI c)] (some (.int (nI (caN id c)))) τ := by
  obtain ⟨hn2, hn5⟩ := hx.2.2.2.1
  obtain ⟨hE2, hE10⟩ := hx.2.2.2.2
  refine MC.of rfl (Nat.le_of_ble_eq_true rfl) (cat_all rfl) ?_
  intro pp ee ss mm aa bb me cd hc hK hO hr hk hA
  refine AW.to (lv' := [some (.ref (ax 0)), some (.int (nI id)), some (.int (nI c))]) rfl rfl rfl ?_
  refine a_bipush (pc' := 2) (v := nI 64) hc d_M_cellAt_0 rfl (by decide) ?_
  refine a_iload_n (pc' := 3) hc d_M_cellAt_2 rfl rfl rfl ?_
  refine a_bipush (pc' := 5) (v := nI 16) hc d_M_cellAt_3 rfl (by decide) ?_
  refine a_ndiv (pc' := 6) hc d_M_cellAt_5 rfl (by omega) (by omega) (by omega) ?_
  refine a_nmul (pc' := 7) hc d_M_cellAt_6 rfl ?_
  refine a_iconst (pc' := 8) (v := nI 4) hc d_M_cellAt_7 rfl (by decide) ?_
  refine a_iload_n (pc' := 9) hc d_M_cellAt_8 rfl rfl rfl ?_
  refine a_bipush (pc' := 11) (v := nI 16) hc d_M_cellAt_9 rfl (by decide) ?_
  refine a_nrem (pc' := 12) hc d_M_cellAt_11 rfl (by omega) (by omega) (by omega) ?_
  refine a_nmul (pc' := 13) hc d_M_cellAt_12 rfl ?_
  refine a_nadd (pc' := 14) hc d_M_cellAt_13 rfl ?_
  refine a_iload_n (pc' := 15) hc d_M_cellAt_14 rfl rfl rfl ?_
  refine a_nadd (pc' := 16) hc d_M_cellAt_15 rfl ?_
  exact a_iret hc hr hk d_M_cellAt_16 (m_i (by first | rfl | (simp only []; done) | (simp []; done)) (rfl))
theorem ct_M_extentOf (hx : MX ax rl ca tys n E) {τ : TS} {v : Nat} {b : Nat} (hv : v < 4) (hb : b < 2 ^ 30) (hw : WFm τ 15) (h1 : 0 < gN τ 15 (15 * v)) (hs : 0 < gN τ 15 (15 * v + 1)) : MC l y_M_extentOf c_M_extentOf 6 (some .int) 2 D tys A ax rl ca n E τ [.int (nI v), .int (nI b)] (some (.int (nI (eoN (gN τ 15 (15 * v)) (gN τ 15 (15 * v + 1)) b)))) τ := by
  obtain ⟨hn2, hn5⟩ := hx.2.2.2.1
  obtain ⟨hE2, hE10⟩ := hx.2.2.2.2
  have hw4 := (hw.2 v hv).1
  have hsl := gN_lt τ 15 (15 * v + 1)
  have hmd : b % (4 * gN τ 15 (15 * v)) < 4 * gN τ 15 (15 * v) := Nat.mod_lt _ (by omega)
  have hdv : b % (4 * gN τ 15 (15 * v)) / gN τ 15 (15 * v + 1) ≤ b % (4 * gN τ 15 (15 * v)) := Nat.div_le_self _ _
  refine MC.of rfl (Nat.le_of_ble_eq_true rfl) (cat_all rfl) ?_
  intro pp ee ss mm aa bb me cd hc hK hO hr hk hA
  refine AW.to (lv' := [some (.ref (ax 0)), some (.int (nI v)), some (.int (nI b)), none, none, none]) rfl rfl rfl ?_
  refine a_aload_n (pc' := 1) hc d_M_extentOf_0 rfl rfl rfl ?_
  refine a_bipush (pc' := 3) (v := nI 15) hc d_M_extentOf_1 rfl (by decide) ?_
  refine a_iload_n (pc' := 4) hc d_M_extentOf_3 rfl rfl rfl ?_
  refine r_calli (pc' := 7) hc hK hO hA hx [.int (nI 15), .int (nI v)] [] (ct_M_width hx (τ := τ) (mp := 15) (v := v) (by omega) (by omega)) ml_M_56 hd_M_width ⟨by decide, by decide⟩ rfl rfl (Nat.le_of_ble_eq_true rfl) d_M_extentOf_4 rfl ?_
  refine AW.topi (y := nI (gN τ 15 (15 * v))) (hw.n (by omega) (by omega)) ?_
  refine a_istore_n (pc' := 8) hc d_M_extentOf_7 rfl rfl (by decide) ?_
  refine a_aload_n (pc' := 9) hc d_M_extentOf_8 rfl rfl rfl ?_
  refine a_bipush (pc' := 11) (v := nI 15) hc d_M_extentOf_9 rfl (by decide) ?_
  refine a_bipush (pc' := 13) (v := nI 15) hc d_M_extentOf_11 rfl (by decide) ?_
  refine a_iload_n (pc' := 14) hc d_M_extentOf_13 rfl rfl rfl ?_
  refine a_nmul (pc' := 15) hc d_M_extentOf_14 rfl ?_
  refine a_iconst (pc' := 16) (v := nI 1) hc d_M_extentOf_15 rfl (by decide) ?_
  refine a_nadd (pc' := 17) hc d_M_extentOf_16 rfl ?_
  refine r_calli (pc' := 20) hc hK hO hA hx [.int (nI 15), .int (nI ((15 * v) + 1))] [] (ct_M_get hx (τ := τ) (mp := 15) (i := (15 * v) + 1) (by omega) (by omega)) ml_M_49 hd_M_get ⟨by decide, by decide⟩ rfl rfl (Nat.le_of_ble_eq_true rfl) d_M_extentOf_17 rfl ?_
  refine AW.topi (y := nI (gN τ 15 (15 * v + 1))) (hw.n (by omega) (by omega)) ?_
  refine a_istore (pc' := 22) hc d_M_extentOf_20 rfl (by decide) ?_
  refine a_iload_n (pc' := 23) hc d_M_extentOf_22 rfl rfl rfl ?_
  refine a_iconst (pc' := 24) (v := nI 4) hc d_M_extentOf_23 rfl (by decide) ?_
  refine a_iload_n (pc' := 25) hc d_M_extentOf_24 rfl rfl rfl ?_
  refine a_nmul (pc' := 26) hc d_M_extentOf_25 rfl ?_
  refine a_nrem (pc' := 27) hc d_M_extentOf_26 rfl (by omega) (by omega) (by omega) ?_
  refine a_istore (pc' := 29) hc d_M_extentOf_27 rfl (by decide) ?_
  refine a_iload_n (pc' := 30) hc d_M_extentOf_29 rfl rfl rfl ?_
  refine a_iload_n (pc' := 31) hc d_M_extentOf_30 rfl rfl rfl ?_
  refine a_iconst (pc' := 32) (v := nI 4) hc d_M_extentOf_31 rfl (by decide) ?_
  refine a_iload_n (pc' := 33) hc d_M_extentOf_32 rfl rfl rfl ?_
  refine a_nmul (pc' := 34) hc d_M_extentOf_33 rfl ?_
  refine a_ndiv (pc' := 35) hc d_M_extentOf_34 rfl (by omega) (by omega) (by omega) ?_
  refine a_nmul (pc' := 36) hc d_M_extentOf_35 rfl ?_
  refine a_iload (pc' := 38) hc d_M_extentOf_36 rfl rfl ?_
  refine a_iload (pc' := 40) hc d_M_extentOf_38 rfl rfl ?_
  refine a_ndiv (pc' := 41) hc d_M_extentOf_40 rfl (by omega) (by omega) (by omega) ?_
  refine a_iload_n (pc' := 42) hc d_M_extentOf_41 rfl rfl rfl ?_
  refine a_nrem (pc' := 43) hc d_M_extentOf_42 rfl (by omega) (by omega) (by omega) ?_
  refine a_nadd (pc' := 44) hc d_M_extentOf_43 rfl ?_
  exact a_iret hc hr hk d_M_extentOf_44 (m_i (by first | rfl | (simp only []; done) | (simp []; done)) (rfl))
theorem ct_M_cellOf (hx : MX ax rl ca tys n E) {τ : TS} {v : Nat} {b : Nat} (hv : v < 4) (hb : b < 2 ^ 30) (hw : WFm τ 15) (h1 : 0 < gN τ 15 (15 * v)) (hs : 0 < gN τ 15 (15 * v + 1)) : MC l y_M_cellOf c_M_cellOf 6 (some .int) 2 D tys A ax rl ca n E τ [.int (nI v), .int (nI b)] (some (.int (nI (coN (gN τ 15 (15 * v)) (gN τ 15 (15 * v + 1)) b)))) τ := by
  obtain ⟨hn2, hn5⟩ := hx.2.2.2.1
  obtain ⟨hE2, hE10⟩ := hx.2.2.2.2
  have hw4 := (hw.2 v hv).1
  have hsl := gN_lt τ 15 (15 * v + 1)
  have hmd : b % (4 * gN τ 15 (15 * v)) < 4 * gN τ 15 (15 * v) := Nat.mod_lt _ (by omega)
  have hdv : b % (4 * gN τ 15 (15 * v)) / gN τ 15 (15 * v + 1) ≤ b % (4 * gN τ 15 (15 * v)) := Nat.div_le_self _ _
  refine MC.of rfl (Nat.le_of_ble_eq_true rfl) (cat_all rfl) ?_
  intro pp ee ss mm aa bb me cd hc hK hO hr hk hA
  refine AW.to (lv' := [some (.ref (ax 0)), some (.int (nI v)), some (.int (nI b)), none, none, none]) rfl rfl rfl ?_
  refine a_aload_n (pc' := 1) hc d_M_cellOf_0 rfl rfl rfl ?_
  refine a_bipush (pc' := 3) (v := nI 15) hc d_M_cellOf_1 rfl (by decide) ?_
  refine a_iload_n (pc' := 4) hc d_M_cellOf_3 rfl rfl rfl ?_
  refine r_calli (pc' := 7) hc hK hO hA hx [.int (nI 15), .int (nI v)] [] (ct_M_width hx (τ := τ) (mp := 15) (v := v) (by omega) (by omega)) ml_M_56 hd_M_width ⟨by decide, by decide⟩ rfl rfl (Nat.le_of_ble_eq_true rfl) d_M_cellOf_4 rfl ?_
  refine AW.topi (y := nI (gN τ 15 (15 * v))) (hw.n (by omega) (by omega)) ?_
  refine a_istore_n (pc' := 8) hc d_M_cellOf_7 rfl rfl (by decide) ?_
  refine a_aload_n (pc' := 9) hc d_M_cellOf_8 rfl rfl rfl ?_
  refine a_bipush (pc' := 11) (v := nI 15) hc d_M_cellOf_9 rfl (by decide) ?_
  refine a_bipush (pc' := 13) (v := nI 15) hc d_M_cellOf_11 rfl (by decide) ?_
  refine a_iload_n (pc' := 14) hc d_M_cellOf_13 rfl rfl rfl ?_
  refine a_nmul (pc' := 15) hc d_M_cellOf_14 rfl ?_
  refine a_iconst (pc' := 16) (v := nI 1) hc d_M_cellOf_15 rfl (by decide) ?_
  refine a_nadd (pc' := 17) hc d_M_cellOf_16 rfl ?_
  refine r_calli (pc' := 20) hc hK hO hA hx [.int (nI 15), .int (nI ((15 * v) + 1))] [] (ct_M_get hx (τ := τ) (mp := 15) (i := (15 * v) + 1) (by omega) (by omega)) ml_M_49 hd_M_get ⟨by decide, by decide⟩ rfl rfl (Nat.le_of_ble_eq_true rfl) d_M_cellOf_17 rfl ?_
  refine AW.topi (y := nI (gN τ 15 (15 * v + 1))) (hw.n (by omega) (by omega)) ?_
  refine a_istore (pc' := 22) hc d_M_cellOf_20 rfl (by decide) ?_
  refine a_iload_n (pc' := 23) hc d_M_cellOf_22 rfl rfl rfl ?_
  refine a_iconst (pc' := 24) (v := nI 4) hc d_M_cellOf_23 rfl (by decide) ?_
  refine a_iload_n (pc' := 25) hc d_M_cellOf_24 rfl rfl rfl ?_
  refine a_nmul (pc' := 26) hc d_M_cellOf_25 rfl ?_
  refine a_nrem (pc' := 27) hc d_M_cellOf_26 rfl (by omega) (by omega) (by omega) ?_
  refine a_istore (pc' := 29) hc d_M_cellOf_27 rfl (by decide) ?_
  refine a_iload (pc' := 31) hc d_M_cellOf_29 rfl rfl ?_
  refine a_iload (pc' := 33) hc d_M_cellOf_31 rfl rfl ?_
  refine a_ndiv (pc' := 34) hc d_M_cellOf_33 rfl (by omega) (by omega) (by omega) ?_
  refine a_iload_n (pc' := 35) hc d_M_cellOf_34 rfl rfl rfl ?_
  refine a_ndiv (pc' := 36) hc d_M_cellOf_35 rfl (by omega) (by omega) (by omega) ?_
  refine a_iload (pc' := 38) hc d_M_cellOf_36 rfl rfl ?_
  refine a_nmul (pc' := 39) hc d_M_cellOf_38 rfl ?_
  refine a_iload (pc' := 41) hc d_M_cellOf_39 rfl rfl ?_
  refine a_iload (pc' := 43) hc d_M_cellOf_41 rfl rfl ?_
  refine a_nrem (pc' := 44) hc d_M_cellOf_43 rfl (by omega) (by omega) (by omega) ?_
  refine a_nadd (pc' := 45) hc d_M_cellOf_44 rfl ?_
  exact a_iret hc hr hk d_M_cellOf_45 (m_i (by first | rfl | (simp only []; done) | (simp []; done)) (rfl))
theorem ct_M_holds (hx : MX ax rl ca tys n E) {τ : TS} {d : Nat} {num : Int32} {mark : Int32} (hd : d < 5) : MC l y_M_holds c_M_holds 6 (some .boolean) 0 D tys A ax rl ca n E τ [.int (nI d), .int num, .int mark] (some (.int (bI (hoB τ d num mark)))) τ := by
  obtain ⟨hn2, hn5⟩ := hx.2.2.2.1
  obtain ⟨hE2, hE10⟩ := hx.2.2.2.2
  refine MC.of rfl (Nat.le_of_ble_eq_true rfl) (cat_all rfl) ?_
  intro pp ee ss mm aa bb me cd hc hK hO hr hk hA
  refine AW.to (lv' := [some (.ref (ax 0)), some (.int (nI d)), some (.int num), some (.int mark), none, none]) rfl rfl rfl ?_
  refine a_iconst (pc' := 1) (v := nI 0) hc d_M_holds_0 rfl (by decide) ?_
  refine a_istore (pc' := 3) hc d_M_holds_1 rfl (by decide) ?_
  refine a_iconst (pc' := 4) (v := nI 3) hc d_M_holds_3 rfl (by decide) ?_
  refine a_iload_n (pc' := 5) hc d_M_holds_4 rfl rfl rfl ?_
  refine a_nmul (pc' := 6) hc d_M_holds_5 rfl ?_
  refine a_istore (pc' := 8) hc d_M_holds_6 rfl (by decide) ?_
  refine AW.lvi 4 (y := bI (orA false 0 (qO τ d num mark))) rfl (by first | rfl | (simp only [orA_s, orA_0, qO, bI]; done) | (simp [orA_s, orA_0, qO, bI]; done)) ?_
  refine AW.lvi 5 (y := nI (3 * d + 0)) rfl (by first | rfl | (simp only [orA_s, orA_0, qO, bI]; done) | (simp [orA_s, orA_0, qO, bI]; done)) ?_
  refine AW.loop 3 0 (fun j8 => tw ax rl ca n E τ) (fun j8 => [some (.ref (ax 0)), some (.int (nI d)), some (.int num), some (.int mark), some (.int (bI (orA false j8 (qO τ d num mark)))), some (.int (nI (3 * d + j8)))]) (Nat.zero_le _) rfl rfl (fun j8 hle8 ih8 => ?_)
  try dsimp only at ih8 ⊢
  refine a_iload (pc' := 10) hc d_M_holds_8 rfl rfl ?_
  refine a_iconst (pc' := 11) (v := nI 3) hc d_M_holds_10 rfl (by decide) ?_
  refine a_iload_n (pc' := 12) hc d_M_holds_11 rfl rfl rfl ?_
  refine a_nmul (pc' := 13) hc d_M_holds_12 rfl ?_
  refine a_iconst (pc' := 14) (v := nI 3) hc d_M_holds_13 rfl (by decide) ?_
  refine a_nadd (pc' := 15) hc d_M_holds_14 rfl ?_
  refine a_ncmp_ge (pc' := 18) (tgt := 58) hc d_M_holds_15 rfl rfl (by omega) (by omega) (fun h15 => ?_) (fun h15 => ?_)
  · skip
    have hex15 : j8 = 3 := by omega
    subst j8
    refine a_iload (pc' := 60) hc d_M_holds_58 rfl rfl ?_
    exact a_zret hc hr hk (bI_or _) d_M_holds_60 (m_i (by first | rfl | (simp only [orA_s, orA_0, qO, bI, h15]; done) | (simp [orA_s, orA_0, qO, bI, h15]; done)) (rfl))
  · skip
    refine a_iload (pc' := 20) hc d_M_holds_18 rfl rfl ?_
    refine a_ifb_ne (pc' := 23) (tgt := 45) hc d_M_holds_20 rfl rfl (fun h20 => ?_) (fun h20 => ?_)
    · skip
      refine a_iconst (pc' := 46) (v := nI 1) hc d_M_holds_45 rfl (by decide) ?_
      refine a_goto (tgt := 50) hc d_M_holds_46 rfl ?_
      refine a_istore (pc' := 52) hc d_M_holds_50 rfl (by decide) ?_
      refine a_ninc (pc' := 55) hc d_M_holds_52 rfl rfl (by decide) ?_
      refine a_goto (tgt := 8) hc d_M_holds_55 rfl ?_
      refine AW.lvi 4 (y := bI (orA false (j8 + 1) (qO τ d num mark))) rfl (by first | rfl | (simp only [orA_s, orA_0, qO, bI, h15, h20]; done) | (simp [orA_s, orA_0, qO, bI, h15, h20]; done)) ?_
      refine AW.lvi 5 (y := nI (3 * d + (j8 + 1))) rfl (by first | rfl | (simp only [orA_s, orA_0, qO, bI, h15, h20]; done) | (simp [orA_s, orA_0, qO, bI, h15, h20]; done)) ?_
      exact AW.to rfl rfl rfl (ih8 (by omega))
    · skip
      refine a_aload_n (pc' := 24) hc d_M_holds_23 rfl rfl rfl ?_
      refine r_get (pc' := 27) hc hK hx 5 (v := .ref (ax 4)) (by decide) rfl fl_M_20 d_M_holds_24 rfl ?_
      refine a_iload (pc' := 29) hc d_M_holds_27 rfl rfl ?_
      refine r_iald (pc' := 30) (N := 15) hc hK hx 4 (3 * d + j8) (by decide) rfl (by omega) d_M_holds_29 rfl ?_
      refine a_iload_n (pc' := 31) hc d_M_holds_30 rfl rfl rfl ?_
      refine a_icmp_ne (pc' := 34) (tgt := 49) hc d_M_holds_31 rfl rfl (fun h31 => ?_) (fun h31 => ?_)
      · skip
        refine a_iconst (pc' := 50) (v := nI 0) hc d_M_holds_49 rfl (by decide) ?_
        refine a_istore (pc' := 52) hc d_M_holds_50 rfl (by decide) ?_
        refine a_ninc (pc' := 55) hc d_M_holds_52 rfl rfl (by decide) ?_
        refine a_goto (tgt := 8) hc d_M_holds_55 rfl ?_
        refine AW.lvi 4 (y := bI (orA false (j8 + 1) (qO τ d num mark))) rfl (by first | rfl | (simp only [orA_s, orA_0, qO, bI, h15, h20, h31]; done) | (simp [orA_s, orA_0, qO, bI, h15, h20, h31]; done)) ?_
        refine AW.lvi 5 (y := nI (3 * d + (j8 + 1))) rfl (by first | rfl | (simp only [orA_s, orA_0, qO, bI, h15, h20, h31]; done) | (simp [orA_s, orA_0, qO, bI, h15, h20, h31]; done)) ?_
        exact AW.to rfl rfl rfl (ih8 (by omega))
      · skip
        refine a_aload_n (pc' := 35) hc d_M_holds_34 rfl rfl rfl ?_
        refine r_get (pc' := 38) hc hK hx 6 (v := .ref (ax 5)) (by decide) rfl fl_M_23 d_M_holds_35 rfl ?_
        refine a_iload (pc' := 40) hc d_M_holds_38 rfl rfl ?_
        refine r_iald (pc' := 41) (N := 15) hc hK hx 5 (3 * d + j8) (by decide) rfl (by omega) d_M_holds_40 rfl ?_
        refine a_iload_n (pc' := 42) hc d_M_holds_41 rfl rfl rfl ?_
        refine a_icmp_ne (pc' := 45) (tgt := 49) hc d_M_holds_42 rfl rfl (fun h42 => ?_) (fun h42 => ?_)
        · skip
          refine a_iconst (pc' := 50) (v := nI 0) hc d_M_holds_49 rfl (by decide) ?_
          refine a_istore (pc' := 52) hc d_M_holds_50 rfl (by decide) ?_
          refine a_ninc (pc' := 55) hc d_M_holds_52 rfl rfl (by decide) ?_
          refine a_goto (tgt := 8) hc d_M_holds_55 rfl ?_
          refine AW.lvi 4 (y := bI (orA false (j8 + 1) (qO τ d num mark))) rfl (by first | rfl | (simp only [orA_s, orA_0, qO, bI, h15, h20, h31, h42]; done) | (simp [orA_s, orA_0, qO, bI, h15, h20, h31, h42]; done)) ?_
          refine AW.lvi 5 (y := nI (3 * d + (j8 + 1))) rfl (by first | rfl | (simp only [orA_s, orA_0, qO, bI, h15, h20, h31, h42]; done) | (simp [orA_s, orA_0, qO, bI, h15, h20, h31, h42]; done)) ?_
          exact AW.to rfl rfl rfl (ih8 (by omega))
        · skip
          refine a_iconst (pc' := 46) (v := nI 1) hc d_M_holds_45 rfl (by decide) ?_
          refine a_goto (tgt := 50) hc d_M_holds_46 rfl ?_
          refine a_istore (pc' := 52) hc d_M_holds_50 rfl (by decide) ?_
          refine a_ninc (pc' := 55) hc d_M_holds_52 rfl rfl (by decide) ?_
          refine a_goto (tgt := 8) hc d_M_holds_55 rfl ?_
          refine AW.lvi 4 (y := bI (orA false (j8 + 1) (qO τ d num mark))) rfl (by first | rfl | (simp only [orA_s, orA_0, qO, bI, h15, h20, h31, h42]; done) | (simp [orA_s, orA_0, qO, bI, h15, h20, h31, h42]; done)) ?_
          refine AW.lvi 5 (y := nI (3 * d + (j8 + 1))) rfl (by first | rfl | (simp only [orA_s, orA_0, qO, bI, h15, h20, h31, h42]; done) | (simp [orA_s, orA_0, qO, bI, h15, h20, h31, h42]; done)) ?_
          exact AW.to rfl rfl rfl (ih8 (by omega))
theorem ct_M_choose (hx : MX ax rl ca tys n E) {τ : TS}  : MC l y_M_choose c_M_choose 5 (some .int) 1 D tys A ax rl ca n E τ [] (some (.int (chI (chL τ n (3 * n))))) τ := by
  obtain ⟨hn2, hn5⟩ := hx.2.2.2.1
  obtain ⟨hE2, hE10⟩ := hx.2.2.2.2
  refine MC.of rfl (Nat.le_of_ble_eq_true rfl) (cat_all rfl) ?_
  intro pp ee ss mm aa bb me cd hc hK hO hr hk hA
  refine AW.to (lv' := [some (.ref (ax 0)), none, none, none, none]) rfl rfl rfl ?_
  refine a_iconst (pc' := 1) (v := -1) hc d_M_choose_0 rfl (by decide) ?_
  refine a_istore_n (pc' := 2) hc d_M_choose_1 rfl rfl (by decide) ?_
  refine a_iconst (pc' := 3) (v := nI 0) hc d_M_choose_2 rfl (by decide) ?_
  refine a_istore_n (pc' := 4) hc d_M_choose_3 rfl rfl (by decide) ?_
  refine AW.lvi 1 (y := chI (chL τ n 0)) rfl (by first | rfl | (simp only [cntL_s, cntL_0, qN, bI]; done) | (simp [cntL_s, cntL_0, qN, bI]; done)) ?_
  refine AW.loop (3 * n) 0 (fun k4 => tw ax rl ca n E τ) (fun k4 => [some (.ref (ax 0)), some (.int (chI (chL τ n k4))), some (.int (nI k4)), none, none]) (Nat.zero_le _) rfl rfl (fun k4 hle4 ih4 => ?_)
  try dsimp only at ih4 ⊢
  refine a_iload_n (pc' := 5) hc d_M_choose_4 rfl rfl rfl ?_
  refine a_iconst (pc' := 6) (v := nI 3) hc d_M_choose_5 rfl (by decide) ?_
  refine a_aload_n (pc' := 7) hc d_M_choose_6 rfl rfl rfl ?_
  refine r_get (pc' := 10) hc hK hx 0 (v := .int (nI n)) (by decide) rfl fl_M_29 d_M_choose_7 rfl ?_
  refine a_nmul (pc' := 11) hc d_M_choose_10 rfl ?_
  refine a_ncmp_ge (pc' := 14) (tgt := 140) hc d_M_choose_11 rfl rfl (by omega) (by omega) (fun h11 => ?_) (fun h11 => ?_)
  · skip
    have hex11 : k4 = 3 * n := by omega
    subst k4
    refine a_iload_n (pc' := 141) hc d_M_choose_140 rfl rfl rfl ?_
    exact a_iret hc hr hk d_M_choose_141 (m_i (rfl) (rfl))
  · skip
    refine a_iconst (pc' := 15) (v := nI 0) hc d_M_choose_14 rfl (by decide) ?_
    refine a_istore_n (pc' := 16) hc d_M_choose_15 rfl rfl (by decide) ?_
    refine a_iconst (pc' := 17) (v := nI 0) hc d_M_choose_16 rfl (by decide) ?_
    refine a_istore (pc' := 19) hc d_M_choose_17 rfl (by decide) ?_
    refine AW.lvi 3 (y := nI (cntL 0 (qN τ k4))) rfl (by first | rfl | (simp only [cntL_s, cntL_0, qN, bI, h11]; done) | (simp [cntL_s, cntL_0, qN, bI, h11]; done)) ?_
    refine AW.loop n 0 (fun d19 => tw ax rl ca n E τ) (fun d19 => [some (.ref (ax 0)), some (.int (chI (chL τ n k4))), some (.int (nI k4)), some (.int (nI (cntL d19 (qN τ k4)))), some (.int (nI d19))]) (Nat.zero_le _) rfl rfl (fun d19 hle19 ih19 => ?_)
    try dsimp only at ih19 ⊢
    refine a_iload (pc' := 21) hc d_M_choose_19 rfl rfl ?_
    refine a_aload_n (pc' := 22) hc d_M_choose_21 rfl rfl rfl ?_
    refine r_get (pc' := 25) hc hK hx 0 (v := .int (nI n)) (by decide) rfl fl_M_29 d_M_choose_22 rfl ?_
    refine a_ncmp_ge (pc' := 28) (tgt := 73) hc d_M_choose_25 rfl rfl (by omega) (by omega) (fun h25 => ?_) (fun h25 => ?_)
    · skip
      have hex25 : d19 = n := by omega
      subst d19
      have hc25 := cntL_le n (qN τ k4)
      refine a_aload_n (pc' := 74) hc d_M_choose_73 rfl rfl rfl ?_
      refine r_get (pc' := 77) hc hK hx 2 (v := .ref (ax 1)) (by decide) rfl fl_M_7 d_M_choose_74 rfl ?_
      refine a_iload_n (pc' := 78) hc d_M_choose_77 rfl rfl rfl ?_
      refine a_iconst (pc' := 79) (v := nI 3) hc d_M_choose_78 rfl (by decide) ?_
      refine a_ndiv (pc' := 80) hc d_M_choose_79 rfl (by omega) (by omega) (by omega) ?_
      refine r_zald (pc' := 81) hc hK hx (k4 / 3) (by omega) d_M_choose_80 rfl ?_
      refine a_ifb_eq (pc' := 84) (tgt := 105) hc d_M_choose_81 rfl rfl (fun h81 => ?_) (fun h81 => ?_)
      · skip
        refine a_iconst (pc' := 106) (v := nI 0) hc d_M_choose_105 rfl (by decide) ?_
        refine a_istore (pc' := 108) hc d_M_choose_106 rfl (by decide) ?_
        refine a_iload (pc' := 110) hc d_M_choose_108 rfl rfl ?_
        refine a_ifn_eq (pc' := 113) (tgt := 134) hc d_M_choose_110 rfl rfl (by omega) (fun h110 => ?_) (fun h110 => absurd h110 (by omega))
        refine a_ninc (pc' := 137) hc d_M_choose_134 rfl rfl (by decide) ?_
        refine a_goto (tgt := 4) hc d_M_choose_137 rfl ?_
        refine AW.mask [true, true, true, false, false] ?_
        refine AW.lvi 1 (y := chI (chL τ n (k4 + 1))) rfl (by first | (simp [chL, mayB, cntL_s, cntL_0, qN, bI, h11, h25, h81]; done) | (simp [chL, mayB, chI, cntL_s, cntL_0, qN, bI, h11, h25, h81]; done)) ?_
        exact AW.to rfl rfl rfl (ih4 (by omega))
      · skip
        refine a_aload_n (pc' := 85) hc d_M_choose_84 rfl rfl rfl ?_
        refine r_get (pc' := 88) hc hK hx 5 (v := .ref (ax 4)) (by decide) rfl fl_M_20 d_M_choose_85 rfl ?_
        refine a_iload_n (pc' := 89) hc d_M_choose_88 rfl rfl rfl ?_
        refine r_iald (pc' := 90) (N := 15) hc hK hx 4 k4 (by decide) rfl (by omega) d_M_choose_89 rfl ?_
        refine a_if_le (pc' := 93) (tgt := 105) hc d_M_choose_90 rfl rfl (fun h90 => ?_) (fun h90 => ?_)
        · skip
          refine a_iconst (pc' := 106) (v := nI 0) hc d_M_choose_105 rfl (by decide) ?_
          refine a_istore (pc' := 108) hc d_M_choose_106 rfl (by decide) ?_
          refine a_iload (pc' := 110) hc d_M_choose_108 rfl rfl ?_
          refine a_ifn_eq (pc' := 113) (tgt := 134) hc d_M_choose_110 rfl rfl (by omega) (fun h110 => ?_) (fun h110 => absurd h110 (by omega))
          refine a_ninc (pc' := 137) hc d_M_choose_134 rfl rfl (by decide) ?_
          refine a_goto (tgt := 4) hc d_M_choose_137 rfl ?_
          refine AW.mask [true, true, true, false, false] ?_
          refine AW.lvi 1 (y := chI (chL τ n (k4 + 1))) rfl (by first | (simp [chL, mayB, cntL_s, cntL_0, qN, bI, h11, h25, h81, h90]; done) | (simp [chL, mayB, chI, cntL_s, cntL_0, qN, bI, h11, h25, h81, h90]; done)) ?_
          exact AW.to rfl rfl rfl (ih4 (by omega))
        · skip
          refine a_aload_n (pc' := 94) hc d_M_choose_93 rfl rfl rfl ?_
          refine a_iload_n (pc' := 95) hc d_M_choose_94 rfl rfl rfl ?_
          refine r_calli (pc' := 98) hc hK hO hA hx [.int (nI (cntL n (qN τ k4)))] [] (ct_M_quorum hx (τ := τ) (q := cntL n (qN τ k4)) (by omega)) ml_M_104 hd_M_quorum ⟨by decide, by decide⟩ rfl rfl (Nat.le_of_ble_eq_true rfl) d_M_choose_95 rfl ?_
          refine a_ifb_eq (pc' := 101) (tgt := 105) hc d_M_choose_98 rfl rfl (fun h98 => ?_) (fun h98 => ?_)
          · skip
            refine a_iconst (pc' := 106) (v := nI 0) hc d_M_choose_105 rfl (by decide) ?_
            refine a_istore (pc' := 108) hc d_M_choose_106 rfl (by decide) ?_
            refine a_iload (pc' := 110) hc d_M_choose_108 rfl rfl ?_
            refine a_ifn_eq (pc' := 113) (tgt := 134) hc d_M_choose_110 rfl rfl (by omega) (fun h110 => ?_) (fun h110 => absurd h110 (by omega))
            refine a_ninc (pc' := 137) hc d_M_choose_134 rfl rfl (by decide) ?_
            refine a_goto (tgt := 4) hc d_M_choose_137 rfl ?_
            refine AW.mask [true, true, true, false, false] ?_
            refine AW.lvi 1 (y := chI (chL τ n (k4 + 1))) rfl (by first | (simp [chL, mayB, cntL_s, cntL_0, qN, bI, h11, h25, h81, h90, h98]; done) | (simp [chL, mayB, chI, cntL_s, cntL_0, qN, bI, h11, h25, h81, h90, h98]; done)) ?_
            exact AW.to rfl rfl rfl (ih4 (by omega))
          · skip
            refine a_iconst (pc' := 102) (v := nI 1) hc d_M_choose_101 rfl (by decide) ?_
            refine a_goto (tgt := 106) hc d_M_choose_102 rfl ?_
            refine a_istore (pc' := 108) hc d_M_choose_106 rfl (by decide) ?_
            refine a_iload (pc' := 110) hc d_M_choose_108 rfl rfl ?_
            refine a_ifn_eq (pc' := 113) (tgt := 134) hc d_M_choose_110 rfl rfl (by omega) (fun h110 => absurd h110 (by omega)) (fun h110 => ?_)
            refine a_iload_n (pc' := 114) hc d_M_choose_113 rfl rfl rfl ?_
            refine a_if_lt (pc' := 117) (tgt := 132) hc d_M_choose_114 rfl rfl (fun h114 => ?_) (fun h114 => ?_)
            · skip
              have e114 := chI_none (fun b hb => by have := chL_lt τ n k4 b hb; omega) h114
              refine a_iload_n (pc' := 133) hc d_M_choose_132 rfl rfl rfl ?_
              refine a_istore_n (pc' := 134) hc d_M_choose_133 rfl rfl (by decide) ?_
              refine a_ninc (pc' := 137) hc d_M_choose_134 rfl rfl (by decide) ?_
              refine a_goto (tgt := 4) hc d_M_choose_137 rfl ?_
              refine AW.mask [true, true, true, false, false] ?_
              refine AW.lvi 1 (y := chI (chL τ n (k4 + 1))) rfl (by first | (simp [chL, mayB, cntL_s, cntL_0, qN, bI, h11, h25, h81, h90, h98, h114, e114]; done) | (simp [chL, mayB, chI, cntL_s, cntL_0, qN, bI, h11, h25, h81, h90, h98, h114, e114]; done)) ?_
              exact AW.to rfl rfl rfl (ih4 (by omega))
            · skip
              obtain ⟨b, e114⟩ := chI_some h114
              have hb114 := chL_lt τ n k4 b e114
              refine AW.lvi 1 (y := nI b) rfl (by rw [e114]; rfl) ?_
              refine a_aload_n (pc' := 118) hc d_M_choose_117 rfl rfl rfl ?_
              refine r_get (pc' := 121) hc hK hx 5 (v := .ref (ax 4)) (by decide) rfl fl_M_20 d_M_choose_118 rfl ?_
              refine a_iload_n (pc' := 122) hc d_M_choose_121 rfl rfl rfl ?_
              refine r_iald (pc' := 123) (N := 15) hc hK hx 4 k4 (by decide) rfl (by omega) d_M_choose_122 rfl ?_
              refine a_aload_n (pc' := 124) hc d_M_choose_123 rfl rfl rfl ?_
              refine r_get (pc' := 127) hc hK hx 5 (v := .ref (ax 4)) (by decide) rfl fl_M_20 d_M_choose_124 rfl ?_
              refine a_iload_n (pc' := 128) hc d_M_choose_127 rfl rfl rfl ?_
              refine r_iald (pc' := 129) (N := 15) hc hK hx 4 b (by decide) rfl (by omega) d_M_choose_128 rfl ?_
              refine a_icmp_le (pc' := 132) (tgt := 134) hc d_M_choose_129 rfl rfl (fun h129 => ?_) (fun h129 => ?_)
              · skip
                refine a_ninc (pc' := 137) hc d_M_choose_134 rfl rfl (by decide) ?_
                refine a_goto (tgt := 4) hc d_M_choose_137 rfl ?_
                refine AW.mask [true, true, true, false, false] ?_
                refine AW.lvi 1 (y := chI (chL τ n (k4 + 1))) rfl (by first | (simp [chL, mayB, cntL_s, cntL_0, qN, bI, h11, h25, h81, h90, h98, h114, e114, h129]; done) | (simp [chL, mayB, chI, cntL_s, cntL_0, qN, bI, h11, h25, h81, h90, h98, h114, e114, h129]; done)) ?_
                exact AW.to rfl rfl rfl (ih4 (by omega))
              · skip
                refine a_iload_n (pc' := 133) hc d_M_choose_132 rfl rfl rfl ?_
                refine a_istore_n (pc' := 134) hc d_M_choose_133 rfl rfl (by decide) ?_
                refine a_ninc (pc' := 137) hc d_M_choose_134 rfl rfl (by decide) ?_
                refine a_goto (tgt := 4) hc d_M_choose_137 rfl ?_
                refine AW.mask [true, true, true, false, false] ?_
                refine AW.lvi 1 (y := chI (chL τ n (k4 + 1))) rfl (by first | (simp [chL, mayB, cntL_s, cntL_0, qN, bI, h11, h25, h81, h90, h98, h114, e114, h129]; done) | (simp [chL, mayB, chI, cntL_s, cntL_0, qN, bI, h11, h25, h81, h90, h98, h114, e114, h129]; done)) ?_
                exact AW.to rfl rfl rfl (ih4 (by omega))
    · skip
      refine a_iload_n (pc' := 29) hc d_M_choose_28 rfl rfl rfl ?_
      refine a_aload_n (pc' := 30) hc d_M_choose_29 rfl rfl rfl ?_
      refine r_get (pc' := 33) hc hK hx 2 (v := .ref (ax 1)) (by decide) rfl fl_M_7 d_M_choose_30 rfl ?_
      refine a_iload (pc' := 35) hc d_M_choose_33 rfl rfl ?_
      refine r_zald (pc' := 36) hc hK hx d19 (by omega) d_M_choose_35 rfl ?_
      refine a_ifb_eq (pc' := 39) (tgt := 64) hc d_M_choose_36 rfl rfl (fun h36 => ?_) (fun h36 => ?_)
      · skip
        refine a_iconst (pc' := 65) (v := nI 0) hc d_M_choose_64 rfl (by decide) ?_
        refine a_nadd (pc' := 66) hc d_M_choose_65 rfl ?_
        refine a_istore_n (pc' := 67) hc d_M_choose_66 rfl rfl (by decide) ?_
        refine a_ninc (pc' := 70) hc d_M_choose_67 rfl rfl (by decide) ?_
        refine a_goto (tgt := 19) hc d_M_choose_70 rfl ?_
        refine AW.lvi 3 (y := nI (cntL (d19 + 1) (qN τ k4))) rfl (by first | rfl | (simp only [cntL_s, cntL_0, qN, bI, h11, h25, h36]; done) | (simp [cntL_s, cntL_0, qN, bI, h11, h25, h36]; done)) ?_
        exact AW.to rfl rfl rfl (ih19 (by omega))
      · skip
        refine a_aload_n (pc' := 40) hc d_M_choose_39 rfl rfl rfl ?_
        refine a_iload (pc' := 42) hc d_M_choose_40 rfl rfl ?_
        refine a_aload_n (pc' := 43) hc d_M_choose_42 rfl rfl rfl ?_
        refine r_get (pc' := 46) hc hK hx 5 (v := .ref (ax 4)) (by decide) rfl fl_M_20 d_M_choose_43 rfl ?_
        refine a_iload_n (pc' := 47) hc d_M_choose_46 rfl rfl rfl ?_
        refine r_iald (pc' := 48) (N := 15) hc hK hx 4 k4 (by decide) rfl (by omega) d_M_choose_47 rfl ?_
        refine a_aload_n (pc' := 49) hc d_M_choose_48 rfl rfl rfl ?_
        refine r_get (pc' := 52) hc hK hx 6 (v := .ref (ax 5)) (by decide) rfl fl_M_23 d_M_choose_49 rfl ?_
        refine a_iload_n (pc' := 53) hc d_M_choose_52 rfl rfl rfl ?_
        refine r_iald (pc' := 54) (N := 15) hc hK hx 5 k4 (by decide) rfl (by omega) d_M_choose_53 rfl ?_
        refine r_calli (pc' := 57) hc hK hO hA hx [.int (nI d19), .int (τ 4 k4), .int (τ 5 k4)] [.int (nI (cntL d19 (qN τ k4)))] (ct_M_holds hx (τ := τ) (d := d19) (num := τ 4 k4) (mark := τ 5 k4) (by omega)) ml_M_151 hd_M_holds ⟨by decide, by decide⟩ rfl rfl (Nat.le_of_ble_eq_true rfl) d_M_choose_54 rfl ?_
        refine a_ifb_eq (pc' := 60) (tgt := 64) hc d_M_choose_57 rfl rfl (fun h57 => ?_) (fun h57 => ?_)
        · skip
          refine a_iconst (pc' := 65) (v := nI 0) hc d_M_choose_64 rfl (by decide) ?_
          refine a_nadd (pc' := 66) hc d_M_choose_65 rfl ?_
          refine a_istore_n (pc' := 67) hc d_M_choose_66 rfl rfl (by decide) ?_
          refine a_ninc (pc' := 70) hc d_M_choose_67 rfl rfl (by decide) ?_
          refine a_goto (tgt := 19) hc d_M_choose_70 rfl ?_
          refine AW.lvi 3 (y := nI (cntL (d19 + 1) (qN τ k4))) rfl (by first | rfl | (simp only [cntL_s, cntL_0, qN, bI, h11, h25, h36, h57]; done) | (simp [cntL_s, cntL_0, qN, bI, h11, h25, h36, h57]; done)) ?_
          exact AW.to rfl rfl rfl (ih19 (by omega))
        · skip
          refine a_iconst (pc' := 61) (v := nI 1) hc d_M_choose_60 rfl (by decide) ?_
          refine a_goto (tgt := 65) hc d_M_choose_61 rfl ?_
          refine a_nadd (pc' := 66) hc d_M_choose_65 rfl ?_
          refine a_istore_n (pc' := 67) hc d_M_choose_66 rfl rfl (by decide) ?_
          refine a_ninc (pc' := 70) hc d_M_choose_67 rfl rfl (by decide) ?_
          refine a_goto (tgt := 19) hc d_M_choose_70 rfl ?_
          refine AW.lvi 3 (y := nI (cntL (d19 + 1) (qN τ k4))) rfl (by first | rfl | (simp only [cntL_s, cntL_0, qN, bI, h11, h25, h36, h57]; done) | (simp [cntL_s, cntL_0, qN, bI, h11, h25, h36, h57]; done)) ?_
          exact AW.to rfl rfl rfl (ih19 (by omega))
theorem ct_M_settle (hx : MX ax rl ca tys n E) {τ : TS} {d : Nat} {num : Int32} {mark : Int32} (hd : d < 5) (h6 : ¬ τ 6 d < 0) : MC l y_M_settle c_M_settle 5 (some .boolean) 2 D tys A ax rl ca n E τ [.int (nI d), .int num, .int mark] (some (.int (bI ((slP τ d num mark).1)))) ((slP τ d num mark).2) := by
  obtain ⟨hn2, hn5⟩ := hx.2.2.2.1
  obtain ⟨hE2, hE10⟩ := hx.2.2.2.2
  refine MC.of rfl (Nat.le_of_ble_eq_true rfl) (cat_all rfl) ?_
  intro pp ee ss mm aa bb me cd hc hK hO hr hk hA
  refine AW.to (lv' := [some (.ref (ax 0)), some (.int (nI d)), some (.int num), some (.int mark), none]) rfl rfl rfl ?_
  refine a_iconst (pc' := 1) (v := nI 3) hc d_M_settle_0 rfl (by decide) ?_
  refine a_iload_n (pc' := 2) hc d_M_settle_1 rfl rfl rfl ?_
  refine a_nmul (pc' := 3) hc d_M_settle_2 rfl ?_
  refine a_istore (pc' := 5) hc d_M_settle_3 rfl (by decide) ?_
  refine AW.lvi 4 (y := nI (3 * d + 0)) rfl (by first | rfl | (simp only [seT, bI]; done) | (simp [seT, bI]; done)) ?_
  refine AW.tw (τ1 := seT τ num d 0) (by first | rfl | (simp only [seT, bI]; done) | (simp [seT, bI]; done)) ?_
  refine AW.loopG 3 0 (fun j5 => tw ax rl ca n E (seT τ num d j5)) (fun j5 => [some (.ref (ax 0)), some (.int (nI d)), some (.int num), some (.int mark), some (.int (nI (3 * d + j5)))]) (fun j5 => ∀ j, j < j5 → qS τ num d j = false) (Nat.zero_le _) (fun j hj => absurd hj (by omega)) rfl rfl (fun j5 hle5 hG5 ih5 => ?_)
  try dsimp only at hG5 ih5 ⊢
  refine a_iload (pc' := 7) hc d_M_settle_5 rfl rfl ?_
  refine a_iconst (pc' := 8) (v := nI 3) hc d_M_settle_7 rfl (by decide) ?_
  refine a_iload_n (pc' := 9) hc d_M_settle_8 rfl rfl rfl ?_
  refine a_nmul (pc' := 10) hc d_M_settle_9 rfl ?_
  refine a_iconst (pc' := 11) (v := nI 3) hc d_M_settle_10 rfl (by decide) ?_
  refine a_nadd (pc' := 12) hc d_M_settle_11 rfl ?_
  refine a_ncmp_ge (pc' := 15) (tgt := 57) hc d_M_settle_12 rfl rfl (by omega) (by omega) (fun h12 => ?_) (fun h12 => ?_)
  · skip
    have hex12 : j5 = 3 := by omega
    subst j5
    have hs12 := sl_done (mark := mark) hG5
    refine a_aload_n (pc' := 58) hc d_M_settle_57 rfl rfl rfl ?_
    refine a_iload_n (pc' := 59) hc d_M_settle_58 rfl rfl rfl ?_
    refine a_iload_n (pc' := 60) hc d_M_settle_59 rfl rfl rfl ?_
    refine a_iload_n (pc' := 61) hc d_M_settle_60 rfl rfl rfl ?_
    refine r_calli (pc' := 64) hc hK hO hA hx [.int (nI d), .int num, .int mark] [] (ct_M_holds hx (τ := seT τ num d 3) (d := d) (num := num) (mark := mark) (by omega)) ml_M_151 hd_M_holds ⟨by decide, by decide⟩ rfl rfl (Nat.le_of_ble_eq_true rfl) d_M_settle_61 rfl ?_
    refine a_ifb_ne (pc' := 67) (tgt := 83) hc d_M_settle_64 rfl rfl (fun h64 => ?_) (fun h64 => ?_)
    · skip
      refine a_iconst (pc' := 84) (v := nI 1) hc d_M_settle_83 rfl (by decide) ?_
      refine a_goto (tgt := 88) hc d_M_settle_84 rfl ?_
      exact a_zret hc hr hk (Or.inr rfl) d_M_settle_88 (m_i (by first | (rw [hs12, h64]; rfl) | (rw [hs12, h64]; show _ = bI (!stB (seT τ num d 3)); rw [h80]; rfl)) (by rw [hs12, h64]; rfl))
    · skip
      refine a_aload_n (pc' := 68) hc d_M_settle_67 rfl rfl rfl ?_
      refine a_aload_n (pc' := 69) hc d_M_settle_68 rfl rfl rfl ?_
      refine a_iload_n (pc' := 70) hc d_M_settle_69 rfl rfl rfl ?_
      refine r_calli (pc' := 73) hc hK hO hA hx [.int (nI d)] [.ref (ax 0)] (ct_M_nextSlot hx (τ := seT τ num d 3) (d := d) (by omega) (by rw [seT_6]; exact h6)) ml_M_94 hd_M_nextSlot ⟨by decide, by decide⟩ rfl rfl (Nat.le_of_ble_eq_true rfl) d_M_settle_70 rfl ?_
      have hb70 : nxN (seT τ num d 3) d < 3 * d + 3 := by unfold nxN; omega
      refine a_bipush (pc' := 75) (v := nI 16) hc d_M_settle_73 rfl (by decide) ?_
      refine a_iload_n (pc' := 76) hc d_M_settle_75 rfl rfl rfl ?_
      refine a_iload_n (pc' := 77) hc d_M_settle_76 rfl rfl rfl ?_
      refine r_calli (pc' := 80) hc hK hO hA hx [.int (nI (nxN (seT τ num d 3) d)), .int (nI 16), .int num, .int mark] [] (ct_M_writeCopy hx (τ := seT τ num d 3) (k := nxN (seT τ num d 3) d) (mp := 16) (num := num) (mark := mark) (by omega) (by omega)) ml_M_100 hd_M_writeCopy ⟨by decide, by decide⟩ rfl rfl (Nat.le_of_ble_eq_true rfl) d_M_settle_77 rfl ?_
      refine a_ifb_eq (pc' := 83) (tgt := 87) hc d_M_settle_80 rfl rfl (fun h80 => ?_) (fun h80 => ?_)
      · skip
        refine a_iconst (pc' := 88) (v := nI 0) hc d_M_settle_87 rfl (by decide) ?_
        exact a_zret hc hr hk (Or.inl rfl) d_M_settle_88 (m_i (by first | (rw [hs12, h64]; rfl) | (rw [hs12, h64]; show _ = bI (!stB (seT τ num d 3)); rw [h80]; rfl)) (by rw [hs12, h64]; rfl))
      · skip
        refine a_iconst (pc' := 84) (v := nI 1) hc d_M_settle_83 rfl (by decide) ?_
        refine a_goto (tgt := 88) hc d_M_settle_84 rfl ?_
        exact a_zret hc hr hk (Or.inr rfl) d_M_settle_88 (m_i (by first | (rw [hs12, h64]; rfl) | (rw [hs12, h64]; show _ = bI (!stB (seT τ num d 3)); rw [h80]; rfl)) (by rw [hs12, h64]; rfl))
  · skip
    refine a_aload_n (pc' := 16) hc d_M_settle_15 rfl rfl rfl ?_
    refine r_get (pc' := 19) hc hK hx 5 (v := .ref (ax 4)) (by decide) rfl fl_M_20 d_M_settle_16 rfl ?_
    refine a_iload (pc' := 21) hc d_M_settle_19 rfl rfl ?_
    refine r_iald (pc' := 22) (N := 15) hc hK hx 4 (3 * d + j5) (by decide) rfl (by omega) d_M_settle_21 rfl ?_
    refine a_iload_n (pc' := 23) hc d_M_settle_22 rfl rfl rfl ?_
    refine a_icmp_le (pc' := 26) (tgt := 51) hc d_M_settle_23 rfl rfl (fun h23 => ?_) (fun h23 => ?_)
    · skip
      refine a_ninc (pc' := 54) hc d_M_settle_51 rfl rfl (by decide) ?_
      refine a_goto (tgt := 5) hc d_M_settle_54 rfl ?_
      refine AW.lvi 4 (y := nI (3 * d + (j5 + 1))) rfl (by first | rfl | (simp only [seT, bI, h12, h23]; done) | (simp [seT, bI, h12, h23]; done)) ?_
      refine AW.tw (τ1 := seT τ num d (j5 + 1)) (by first | rfl | (simp only [seT, bI, h12, h23]; done) | (simp [seT, bI, h12, h23]; done)) ?_
      exact AW.to rfl rfl rfl (ih5 (by omega) (allf_s hG5 (by first | (simp [qS, h23]; done) | (simp [qS, h23, h30]; done))))
    · skip
      refine a_aload_n (pc' := 27) hc d_M_settle_26 rfl rfl rfl ?_
      refine r_calli (pc' := 30) hc hK hO hA hx [] [] (ct_M_stops hx (τ := seT τ num d j5) ) ml_M_86 hd_M_stops ⟨by decide, by decide⟩ rfl rfl (Nat.le_of_ble_eq_true rfl) d_M_settle_27 rfl ?_
      refine a_ifb_eq (pc' := 33) (tgt := 35) hc d_M_settle_30 rfl rfl (fun h30 => ?_) (fun h30 => ?_)
      · skip
        refine a_aload_n (pc' := 36) hc d_M_settle_35 rfl rfl rfl ?_
        refine r_get (pc' := 39) hc hK hx 5 (v := .ref (ax 4)) (by decide) rfl fl_M_20 d_M_settle_36 rfl ?_
        refine a_iload (pc' := 41) hc d_M_settle_39 rfl rfl ?_
        refine a_iconst (pc' := 42) (v := nI 0) hc d_M_settle_41 rfl (by decide) ?_
        refine r_iast (pc' := 43) (N := 15) hc hK hx 4 (3 * d + j5) (by decide) rfl (by omega) d_M_settle_42 rfl ?_
        refine a_aload_n (pc' := 44) hc d_M_settle_43 rfl rfl rfl ?_
        refine r_get (pc' := 47) hc hK hx 6 (v := .ref (ax 5)) (by decide) rfl fl_M_23 d_M_settle_44 rfl ?_
        refine a_iload (pc' := 49) hc d_M_settle_47 rfl rfl ?_
        refine a_iconst (pc' := 50) (v := nI 0) hc d_M_settle_49 rfl (by decide) ?_
        refine r_iast (pc' := 51) (N := 15) hc hK hx 5 (3 * d + j5) (by decide) rfl (by omega) d_M_settle_50 rfl ?_
        refine a_ninc (pc' := 54) hc d_M_settle_51 rfl rfl (by decide) ?_
        refine a_goto (tgt := 5) hc d_M_settle_54 rfl ?_
        refine AW.lvi 4 (y := nI (3 * d + (j5 + 1))) rfl (by first | rfl | (simp only [seT, bI, h12, h23, h30]; done) | (simp [seT, bI, h12, h23, h30]; done)) ?_
        refine AW.tw (τ1 := seT τ num d (j5 + 1)) (by first | rfl | (simp only [seT, bI, h12, h23, h30]; done) | (simp [seT, bI, h12, h23, h30]; done)) ?_
        exact AW.to rfl rfl rfl (ih5 (by omega) (allf_s hG5 (by first | (simp [qS, h23]; done) | (simp [qS, h23, h30]; done))))
      · skip
        refine a_iconst (pc' := 34) (v := nI 0) hc d_M_settle_33 rfl (by decide) ?_
        exact a_zret hc hr hk (Or.inl rfl) d_M_settle_34 (m_i (by rw [sl_stop hG5 (by omega) h23 h30]; rfl) (by rw [sl_stop hG5 (by omega) h23 h30]))
