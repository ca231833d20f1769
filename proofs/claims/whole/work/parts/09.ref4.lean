variable {l : Launch} {D : va_G} {tys : List (ClassId × FieldType)} {A : Nat → Prop} {ax rl : Nat → Nat} {ca : Nat → ClassId} {n E : Nat}
theorem ct_M_cancel (hx : MX ax rl ca tys n E) {τ : TS} (h6 : ∀ d, d < 5 → ¬ τ 6 d < 0) : MC l y_M_cancel c_M_cancel 1 (some .int) 3 D tys A ax rl ca n E τ [] (some (.int ((caP τ n).1))) ((caP τ n).2) := by
  obtain ⟨hn2, hn5⟩ := hx.2.2.2.1
  obtain ⟨hE2, hE10⟩ := hx.2.2.2.2
  refine MC.of rfl (Nat.le_of_ble_eq_true rfl) (cat_all rfl) ?_
  intro pp ee ss mm aa bb me cd hc hK hO hr hk hA
  refine AW.to (lv' := [some (.ref (ax 0))]) rfl rfl rfl ?_
  refine a_aload_n (pc' := 1) hc d_M_cancel_0 rfl rfl rfl ?_
  refine r_get (pc' := 4) hc hK hx 11 (v := .int (bI (tb (τ 0 5)))) (by decide) rfl fl_M_45 d_M_cancel_1 rfl ?_
  refine a_ifb_ne (pc' := 7) (tgt := 10) hc d_M_cancel_4 rfl rfl (fun h4 => ?_) (fun h4 => ?_)
  · skip
    refine a_aload_n (pc' := 11) hc d_M_cancel_10 rfl rfl rfl ?_
    refine a_bipush (pc' := 13) (v := nI 15) hc d_M_cancel_11 rfl (by decide) ?_
    refine a_bipush (pc' := 15) (v := nI 60) hc d_M_cancel_13 rfl (by decide) ?_
    refine r_calli (pc' := 18) hc hK hO hA hx [.int (nI 15), .int (nI 60)] [] (ct_M_get hx (τ := τ) (mp := 15) (i := 60) (by omega) (by omega)) ml_M_49 hd_M_get ⟨by decide, by decide⟩ rfl rfl (Nat.le_of_ble_eq_true rfl) d_M_cancel_15 rfl ?_
    refine a_if_ge (pc' := 21) (tgt := 24) hc d_M_cancel_18 rfl rfl (fun h18 => ?_) (fun h18 => ?_)
    · skip
      refine a_aload_n (pc' := 25) hc d_M_cancel_24 rfl rfl rfl ?_
      refine r_calli (pc' := 28) hc hK hO hA hx [] [] (ct_M_few hx (τ := τ) ) ml_M_108 hd_M_few ⟨by decide, by decide⟩ rfl rfl (Nat.le_of_ble_eq_true rfl) d_M_cancel_25 rfl ?_
      refine a_ifb_eq (pc' := 31) (tgt := 34) hc d_M_cancel_28 rfl rfl (fun h28 => ?_) (fun h28 => ?_)
      · skip
        refine a_aload_n (pc' := 35) hc d_M_cancel_34 rfl rfl rfl ?_
        refine a_bipush (pc' := 37) (v := nI 15) hc d_M_cancel_35 rfl (by decide) ?_
        refine a_bipush (pc' := 39) (v := nI 16) hc d_M_cancel_37 rfl (by decide) ?_
        refine r_callv (pc' := 42) hc hK hO hA hx [.int (nI 15), .int (nI 16)] [] (ct_M_copyMap hx (τ := τ) (a := 15) (b := 16) (by omega) (by omega)) ml_M_90 hd_M_copyMap ⟨by decide, by decide⟩ rfl rfl (Nat.le_of_ble_eq_true rfl) d_M_cancel_39 rfl ?_
        refine a_aload_n (pc' := 43) hc d_M_cancel_42 rfl rfl rfl ?_
        refine a_bipush (pc' := 45) (v := nI 16) hc d_M_cancel_43 rfl (by decide) ?_
        refine a_bipush (pc' := 47) (v := nI 60) hc d_M_cancel_45 rfl (by decide) ?_
        refine a_iconst (pc' := 48) (v := -1) hc d_M_cancel_47 rfl (by decide) ?_
        refine r_callv (pc' := 51) hc hK hO hA hx [.int (nI 16), .int (nI 60), .int (-1)] [] (ct_M_set hx (τ := cpT τ 15 16 64) (mp := 16) (i := 60) (v := (-1)) (by omega) (by omega)) ml_M_76 hd_M_set ⟨by decide, by decide⟩ rfl rfl (Nat.le_of_ble_eq_true rfl) d_M_cancel_48 rfl ?_
        refine a_aload_n (pc' := 52) hc d_M_cancel_51 rfl rfl rfl ?_
        refine r_calli (pc' := 55) hc hK hO hA hx [] [] (ct_M_commit hx (τ := ts (cpT τ 15 16 64) 3 (64 * 16 + 60) (-1)) (fun d hd => h6 d hd)) ml_M_114 hd_M_commit ⟨by decide, by decide⟩ rfl rfl (Nat.le_of_ble_eq_true rfl) d_M_cancel_52 rfl ?_
        refine a_ifb_eq (pc' := 58) (tgt := 62) hc d_M_cancel_55 rfl rfl (fun h55 => ?_) (fun h55 => ?_)
        · skip
          refine a_bipush (pc' := 64) (v := -7) hc d_M_cancel_62 rfl (by decide) ?_
          exact a_iret hc hr hk d_M_cancel_64 (m_i (by first | rfl | (simp only [caP, ca1, h4, h18, h28, h55]; done) | (simp [caP, ca1, h4, h18, h28, h55]; done)) (by first | rfl | (simp only [caP, ca1, h4, h18, h28, h55]; done) | (simp [caP, ca1, h4, h18, h28, h55]; done)))
        · skip
          refine a_iconst (pc' := 59) (v := nI 0) hc d_M_cancel_58 rfl (by decide) ?_
          refine a_goto (tgt := 64) hc d_M_cancel_59 rfl ?_
          exact a_iret hc hr hk d_M_cancel_64 (m_i (by first | rfl | (simp only [caP, ca1, h4, h18, h28, h55]; done) | (simp [caP, ca1, h4, h18, h28, h55]; done)) (by first | rfl | (simp only [caP, ca1, h4, h18, h28, h55]; done) | (simp [caP, ca1, h4, h18, h28, h55]; done)))
      · skip
        refine a_bipush (pc' := 33) (v := -3) hc d_M_cancel_31 rfl (by decide) ?_
        exact a_iret hc hr hk d_M_cancel_33 (m_i (by first | rfl | (simp only [caP, ca1, h4, h18, h28]; done) | (simp [caP, ca1, h4, h18, h28]; done)) (by first | rfl | (simp only [caP, ca1, h4, h18, h28]; done) | (simp [caP, ca1, h4, h18, h28]; done)))
    · skip
      refine a_bipush (pc' := 23) (v := -8) hc d_M_cancel_21 rfl (by decide) ?_
      exact a_iret hc hr hk d_M_cancel_23 (m_i (by first | rfl | (simp only [caP, ca1, h4, h18]; done) | (simp [caP, ca1, h4, h18]; done)) (by first | rfl | (simp only [caP, ca1, h4, h18]; done) | (simp [caP, ca1, h4, h18]; done)))
  · skip
    refine a_bipush (pc' := 9) (v := -2) hc d_M_cancel_7 rfl (by decide) ?_
    exact a_iret hc hr hk d_M_cancel_9 (m_i (by first | rfl | (simp only [caP, ca1, h4]; done) | (simp [caP, ca1, h4]; done)) (by first | rfl | (simp only [caP, ca1, h4]; done) | (simp [caP, ca1, h4]; done)))
theorem ct_M_reduce (hx : MX ax rl ca tys n E) {τ : TS} {v : Int32} {r : Int32} (h6 : ∀ d, d < 5 → ¬ τ 6 d < 0) : MC l y_M_reduce c_M_reduce 3 (some .int) 3 D tys A ax rl ca n E τ [.int v, .int r] (some (.int ((reP τ n v r).1))) ((reP τ n v r).2) := by
  obtain ⟨hn2, hn5⟩ := hx.2.2.2.1
  obtain ⟨hE2, hE10⟩ := hx.2.2.2.2
  refine MC.of rfl (Nat.le_of_ble_eq_true rfl) (cat_all rfl) ?_
  intro pp ee ss mm aa bb me cd hc hK hO hr hk hA
  refine AW.to (lv' := [some (.ref (ax 0)), some (.int v), some (.int r)]) rfl rfl rfl ?_
  refine a_aload_n (pc' := 1) hc d_M_reduce_0 rfl rfl rfl ?_
  refine r_get (pc' := 4) hc hK hx 11 (v := .int (bI (tb (τ 0 5)))) (by decide) rfl fl_M_45 d_M_reduce_1 rfl ?_
  refine a_ifb_ne (pc' := 7) (tgt := 10) hc d_M_reduce_4 rfl rfl (fun h4 => ?_) (fun h4 => ?_)
  · skip
    refine a_aload_n (pc' := 11) hc d_M_reduce_10 rfl rfl rfl ?_
    refine a_iload_n (pc' := 12) hc d_M_reduce_11 rfl rfl rfl ?_
    refine r_calli (pc' := 15) hc hK hO hA hx [.int v] [] (ct_M_isVolume hx (τ := τ) (v := v) ) ml_M_117 hd_M_isVolume ⟨by decide, by decide⟩ rfl rfl (Nat.le_of_ble_eq_true rfl) d_M_reduce_12 rfl ?_
    refine a_ifb_eq (pc' := 18) (tgt := 34) hc d_M_reduce_15 rfl rfl (fun h15 => ?_) (fun h15 => ?_)
    · skip
      refine a_iconst (pc' := 35) (v := -1) hc d_M_reduce_34 rfl (by decide) ?_
      exact a_iret hc hr hk d_M_reduce_35 (m_i (by first | rfl | (simp only [reP, re1, h4, h15]; done) | (simp [reP, re1, h4, h15]; done)) (by first | rfl | (simp only [reP, re1, h4, h15]; done) | (simp [reP, re1, h4, h15]; done)))
    · skip
      obtain ⟨j, hj, ej, cj, pj⟩ := volB_t h15
      subst ej
      refine a_iload_n (pc' := 19) hc d_M_reduce_18 rfl rfl rfl ?_
      refine a_iconst (pc' := 20) (v := nI 1) hc d_M_reduce_19 rfl (by decide) ?_
      refine a_icmp_lt (pc' := 23) (tgt := 34) hc d_M_reduce_20 rfl rfl (fun h20 => ?_) (fun h20 => ?_)
      · skip
        refine a_iconst (pc' := 35) (v := -1) hc d_M_reduce_34 rfl (by decide) ?_
        exact a_iret hc hr hk d_M_reduce_35 (m_i (by first | rfl | (simp only [reP, re1, h4, h15, cj, h20]; done) | (simp [reP, re1, h4, h15, cj, h20]; done)) (by first | rfl | (simp only [reP, re1, h4, h15, cj, h20]; done) | (simp [reP, re1, h4, h15, cj, h20]; done)))
      · skip
        refine a_iload_n (pc' := 24) hc d_M_reduce_23 rfl rfl rfl ?_
        refine a_aload_n (pc' := 25) hc d_M_reduce_24 rfl rfl rfl ?_
        refine a_bipush (pc' := 27) (v := nI 15) hc d_M_reduce_25 rfl (by decide) ?_
        refine a_iload_n (pc' := 28) hc d_M_reduce_27 rfl rfl rfl ?_
        refine r_calli (pc' := 31) hc hK hO hA hx [.int (nI 15), .int (nI j)] [.int r] (ct_M_rowsOf hx (τ := τ) (mp := 15) (v := j) (by omega) (by omega)) ml_M_53 hd_M_rowsOf ⟨by decide, by decide⟩ rfl rfl (Nat.le_of_ble_eq_true rfl) d_M_reduce_28 rfl ?_
        refine a_icmp_le (pc' := 34) (tgt := 36) hc d_M_reduce_31 rfl rfl (fun h31 => ?_) (fun h31 => ?_)
        · skip
          refine a_aload_n (pc' := 37) hc d_M_reduce_36 rfl rfl rfl ?_
          refine r_calli (pc' := 40) hc hK hO hA hx [] [] (ct_M_few hx (τ := τ) ) ml_M_108 hd_M_few ⟨by decide, by decide⟩ rfl rfl (Nat.le_of_ble_eq_true rfl) d_M_reduce_37 rfl ?_
          refine a_ifb_eq (pc' := 43) (tgt := 46) hc d_M_reduce_40 rfl rfl (fun h40 => ?_) (fun h40 => ?_)
          · skip
            refine a_aload_n (pc' := 47) hc d_M_reduce_46 rfl rfl rfl ?_
            refine a_iload_n (pc' := 48) hc d_M_reduce_47 rfl rfl rfl ?_
            refine r_calli (pc' := 51) hc hK hO hA hx [.int (nI j)] [] (ct_M_isMoved hx (τ := τ) (v := nI j) ) ml_M_120 hd_M_isMoved ⟨by decide, by decide⟩ rfl rfl (Nat.le_of_ble_eq_true rfl) d_M_reduce_48 rfl ?_
            refine a_ifb_eq (pc' := 54) (tgt := 57) hc d_M_reduce_51 rfl rfl (fun h51 => ?_) (fun h51 => ?_)
            · skip
              refine a_aload_n (pc' := 58) hc d_M_reduce_57 rfl rfl rfl ?_
              refine a_bipush (pc' := 60) (v := nI 15) hc d_M_reduce_58 rfl (by decide) ?_
              refine a_bipush (pc' := 62) (v := nI 16) hc d_M_reduce_60 rfl (by decide) ?_
              refine r_callv (pc' := 65) hc hK hO hA hx [.int (nI 15), .int (nI 16)] [] (ct_M_copyMap hx (τ := τ) (a := 15) (b := 16) (by omega) (by omega)) ml_M_90 hd_M_copyMap ⟨by decide, by decide⟩ rfl rfl (Nat.le_of_ble_eq_true rfl) d_M_reduce_62 rfl ?_
              refine a_aload_n (pc' := 66) hc d_M_reduce_65 rfl rfl rfl ?_
              refine a_bipush (pc' := 68) (v := nI 16) hc d_M_reduce_66 rfl (by decide) ?_
              refine a_bipush (pc' := 70) (v := nI 15) hc d_M_reduce_68 rfl (by decide) ?_
              refine a_iload_n (pc' := 71) hc d_M_reduce_70 rfl rfl rfl ?_
              refine a_nmul (pc' := 72) hc d_M_reduce_71 rfl ?_
              refine a_iconst (pc' := 73) (v := nI 2) hc d_M_reduce_72 rfl (by decide) ?_
              refine a_nadd (pc' := 74) hc d_M_reduce_73 rfl ?_
              refine a_aload_n (pc' := 75) hc d_M_reduce_74 rfl rfl rfl ?_
              refine a_bipush (pc' := 77) (v := nI 15) hc d_M_reduce_75 rfl (by decide) ?_
              refine a_iload_n (pc' := 78) hc d_M_reduce_77 rfl rfl rfl ?_
              refine r_calli (pc' := 81) hc hK hO hA hx [.int (nI 15), .int (nI j)] [.int (nI ((15 * j) + 2)), .int (nI 16), .ref (ax 0)] (ct_M_rowsOf hx (τ := cpT τ 15 16 64) (mp := 15) (v := j) (by omega) (by omega)) ml_M_53 hd_M_rowsOf ⟨by decide, by decide⟩ rfl rfl (Nat.le_of_ble_eq_true rfl) d_M_reduce_78 rfl ?_
              refine a_iload_n (pc' := 82) hc d_M_reduce_81 rfl rfl rfl ?_
              refine a_isub (pc' := 83) hc d_M_reduce_82 rfl ?_
              refine r_callv (pc' := 86) hc hK hO hA hx [.int (nI 16), .int (nI ((15 * j) + 2)), .int ((gt (cpT τ 15 16 64) 15 (15 * j + 2)) - r)] [] (ct_M_set hx (τ := cpT τ 15 16 64) (mp := 16) (i := (15 * j) + 2) (v := (gt (cpT τ 15 16 64) 15 (15 * j + 2)) - r) (by omega) (by omega)) ml_M_76 hd_M_set ⟨by decide, by decide⟩ rfl rfl (Nat.le_of_ble_eq_true rfl) d_M_reduce_83 rfl ?_
              refine a_aload_n (pc' := 87) hc d_M_reduce_86 rfl rfl rfl ?_
              refine r_calli (pc' := 90) hc hK hO hA hx [] [] (ct_M_commit hx (τ := ts (cpT τ 15 16 64) 3 (64 * 16 + ((15 * j) + 2)) ((gt (cpT τ 15 16 64) 15 (15 * j + 2)) - r)) (fun d hd => h6 d hd)) ml_M_114 hd_M_commit ⟨by decide, by decide⟩ rfl rfl (Nat.le_of_ble_eq_true rfl) d_M_reduce_87 rfl ?_
              refine a_ifb_eq (pc' := 93) (tgt := 103) hc d_M_reduce_90 rfl rfl (fun h90 => ?_) (fun h90 => ?_)
              · skip
                refine a_bipush (pc' := 105) (v := -7) hc d_M_reduce_103 rfl (by decide) ?_
                exact a_iret hc hr hk d_M_reduce_105 (m_i (by first | rfl | (simp only [reP, re1, h4, h15, cj, h20, h31, h40, h51, h90]; done) | (simp [reP, re1, h4, h15, cj, h20, h31, h40, h51, h90]; done)) (by first | rfl | (simp only [reP, re1, h4, h15, cj, h20, h31, h40, h51, h90]; done) | (simp [reP, re1, h4, h15, cj, h20, h31, h40, h51, h90]; done)))
              · skip
                refine a_aload_n (pc' := 94) hc d_M_reduce_93 rfl rfl rfl ?_
                refine a_bipush (pc' := 96) (v := nI 15) hc d_M_reduce_94 rfl (by decide) ?_
                refine a_iload_n (pc' := 97) hc d_M_reduce_96 rfl rfl rfl ?_
                refine r_calli (pc' := 100) hc hK hO hA hx [.int (nI 15), .int (nI j)] [] (ct_M_rowsOf hx (τ := cmW (ts (cpT τ 15 16 64) 3 (64 * 16 + ((15 * j) + 2)) ((gt (cpT τ 15 16 64) 15 (15 * j + 2)) - r)) n) (mp := 15) (v := j) (by omega) (by omega)) ml_M_53 hd_M_rowsOf ⟨by decide, by decide⟩ rfl rfl (Nat.le_of_ble_eq_true rfl) d_M_reduce_97 rfl ?_
                refine a_goto (tgt := 105) hc d_M_reduce_100 rfl ?_
                exact a_iret hc hr hk d_M_reduce_105 (m_i (by first | rfl | (simp only [reP, re1, h4, h15, cj, h20, h31, h40, h51, h90]; done) | (simp [reP, re1, h4, h15, cj, h20, h31, h40, h51, h90]; done)) (by first | rfl | (simp only [reP, re1, h4, h15, cj, h20, h31, h40, h51, h90]; done) | (simp [reP, re1, h4, h15, cj, h20, h31, h40, h51, h90]; done)))
            · skip
              refine a_bipush (pc' := 56) (v := -4) hc d_M_reduce_54 rfl (by decide) ?_
              exact a_iret hc hr hk d_M_reduce_56 (m_i (by first | rfl | (simp only [reP, re1, h4, h15, cj, h20, h31, h40, h51]; done) | (simp [reP, re1, h4, h15, cj, h20, h31, h40, h51]; done)) (by first | rfl | (simp only [reP, re1, h4, h15, cj, h20, h31, h40, h51]; done) | (simp [reP, re1, h4, h15, cj, h20, h31, h40, h51]; done)))
          · skip
            refine a_bipush (pc' := 45) (v := -3) hc d_M_reduce_43 rfl (by decide) ?_
            exact a_iret hc hr hk d_M_reduce_45 (m_i (by first | rfl | (simp only [reP, re1, h4, h15, cj, h20, h31, h40]; done) | (simp [reP, re1, h4, h15, cj, h20, h31, h40]; done)) (by first | rfl | (simp only [reP, re1, h4, h15, cj, h20, h31, h40]; done) | (simp [reP, re1, h4, h15, cj, h20, h31, h40]; done)))
        · skip
          refine a_iconst (pc' := 35) (v := -1) hc d_M_reduce_34 rfl (by decide) ?_
          exact a_iret hc hr hk d_M_reduce_35 (m_i (by first | rfl | (simp only [reP, re1, h4, h15, cj, h20, h31]; done) | (simp [reP, re1, h4, h15, cj, h20, h31]; done)) (by first | rfl | (simp only [reP, re1, h4, h15, cj, h20, h31]; done) | (simp [reP, re1, h4, h15, cj, h20, h31]; done)))
  · skip
    refine a_bipush (pc' := 9) (v := -2) hc d_M_reduce_7 rfl (by decide) ?_
    exact a_iret hc hr hk d_M_reduce_9 (m_i (by first | rfl | (simp only [reP, re1, h4]; done) | (simp [reP, re1, h4]; done)) (by first | rfl | (simp only [reP, re1, h4]; done) | (simp [reP, re1, h4]; done)))
theorem ct_M_step (hx : MX ax rl ca tys n E) {τ : TS} (h6 : ∀ d, d < 5 → ¬ τ 6 d < 0) (hw : WFx n E τ 15) (h0 : ¬ τ 0 6 < 0) (h4 : cpN τ ≤ 4) : MC l y_M_step c_M_step 3 (some .int) 3 D tys A ax rl ca n E τ [] (some (.int ((spP τ n).1))) ((spP τ n).2) := by
  obtain ⟨hn2, hn5⟩ := hx.2.2.2.1
  obtain ⟨hE2, hE10⟩ := hx.2.2.2.2
  refine MC.of rfl (Nat.le_of_ble_eq_true rfl) (cat_all rfl) ?_
  intro pp ee ss mm aa bb me cd hc hK hO hr hk hA
  refine AW.to (lv' := [some (.ref (ax 0)), none, none]) rfl rfl rfl ?_
  refine a_aload_n (pc' := 1) hc d_M_step_0 rfl rfl rfl ?_
  refine r_get (pc' := 4) hc hK hx 11 (v := .int (bI (tb (τ 0 5)))) (by decide) rfl fl_M_45 d_M_step_1 rfl ?_
  refine a_ifb_ne (pc' := 7) (tgt := 10) hc d_M_step_4 rfl rfl (fun h4 => ?_) (fun h4 => ?_)
  · skip
    refine a_aload_n (pc' := 11) hc d_M_step_10 rfl rfl rfl ?_
    refine a_bipush (pc' := 13) (v := nI 15) hc d_M_step_11 rfl (by decide) ?_
    refine a_bipush (pc' := 15) (v := nI 60) hc d_M_step_13 rfl (by decide) ?_
    refine r_calli (pc' := 18) hc hK hO hA hx [.int (nI 15), .int (nI 60)] [] (ct_M_get hx (τ := τ) (mp := 15) (i := 60) (by omega) (by omega)) ml_M_49 hd_M_get ⟨by decide, by decide⟩ rfl rfl (Nat.le_of_ble_eq_true rfl) d_M_step_15 rfl ?_
    refine a_if_ge (pc' := 21) (tgt := 24) hc d_M_step_18 rfl rfl (fun h18 => ?_) (fun h18 => ?_)
    · skip
      have hm18 : ¬ gt τ 15 60 < 0 := Int32.not_lt.mpr h18
      obtain ⟨hq1, hq2, hq3, hq4⟩ := hw.2.2.2 hm18
      have hq5 := hw.1.ex hq1
      have hq6 := hw.2.2.1 _ hq1 _ hq2
      have hq7 : srN τ / 16 < n := hq6.1
      have hq8 : srN τ % 16 < E := hq6.2
      have hq9 : srN τ < 2 ^ 31 := gN_lt _ _ _
      have hq10 := gN_lt τ 15 62
      refine a_aload_n (pc' := 25) hc d_M_step_24 rfl rfl rfl ?_
      refine r_calli (pc' := 28) hc hK hO hA hx [] [] (ct_M_few hx (τ := τ) ) ml_M_108 hd_M_few ⟨by decide, by decide⟩ rfl rfl (Nat.le_of_ble_eq_true rfl) d_M_step_25 rfl ?_
      refine a_ifb_eq (pc' := 31) (tgt := 34) hc d_M_step_28 rfl rfl (fun h28 => ?_) (fun h28 => ?_)
      · skip
        refine a_aload_n (pc' := 35) hc d_M_step_34 rfl rfl rfl ?_
        refine r_calli (pc' := 38) hc hK hO hA hx [] [] (ct_M_source hx (τ := τ) hw.1 hm18 hq1 (by omega)) ml_M_129 hd_M_source ⟨by decide, by decide⟩ rfl rfl (Nat.le_of_ble_eq_true rfl) d_M_step_35 rfl ?_
        refine AW.topi (y := nI (srN τ)) (hw.1.n (by omega) (by omega)) ?_
        refine a_istore_n (pc' := 39) hc d_M_step_38 rfl rfl (by decide) ?_
        refine a_aload_n (pc' := 40) hc d_M_step_39 rfl rfl rfl ?_
        refine r_calli (pc' := 43) hc hK hO hA hx [] [] (ct_M_target hx (τ := τ) ) ml_M_133 hd_M_target ⟨by decide, by decide⟩ rfl rfl (Nat.le_of_ble_eq_true rfl) d_M_step_40 rfl ?_
        refine AW.topi (y := nI (gN τ 15 62)) (hw.1.n (by omega) (by omega)) ?_
        refine a_istore_n (pc' := 44) hc d_M_step_43 rfl rfl (by decide) ?_
        refine a_aload_n (pc' := 45) hc d_M_step_44 rfl rfl rfl ?_
        refine r_get (pc' := 48) hc hK hx 2 (v := .ref (ax 1)) (by decide) rfl fl_M_7 d_M_step_45 rfl ?_
        refine a_iload_n (pc' := 49) hc d_M_step_48 rfl rfl rfl ?_
        refine a_bipush (pc' := 51) (v := nI 16) hc d_M_step_49 rfl (by decide) ?_
        refine a_ndiv (pc' := 52) hc d_M_step_51 rfl (by omega) (by omega) (by omega) ?_
        refine r_zald (pc' := 53) hc hK hx ((srN τ) / 16) (by omega) d_M_step_52 rfl ?_
        refine a_ifb_eq (pc' := 56) (tgt := 68) hc d_M_step_53 rfl rfl (fun h53 => ?_) (fun h53 => ?_)
        · skip
          refine a_bipush (pc' := 70) (v := -6) hc d_M_step_68 rfl (by decide) ?_
          exact a_iret hc hr hk d_M_step_70 (m_i (by first | rfl | (simp only [spP, sp1, sp2, h4, h18, h28, h53]; done) | (simp [spP, sp1, sp2, h4, h18, h28, h53]; done)) (by first | rfl | (simp only [spP, sp1, sp2, h4, h18, h28, h53]; done) | (simp [spP, sp1, sp2, h4, h18, h28, h53]; done)))
        · skip
          refine a_aload_n (pc' := 57) hc d_M_step_56 rfl rfl rfl ?_
          refine r_get (pc' := 60) hc hK hx 2 (v := .ref (ax 1)) (by decide) rfl fl_M_7 d_M_step_57 rfl ?_
          refine a_iload_n (pc' := 61) hc d_M_step_60 rfl rfl rfl ?_
          refine a_bipush (pc' := 63) (v := nI 16) hc d_M_step_61 rfl (by decide) ?_
          refine a_ndiv (pc' := 64) hc d_M_step_63 rfl (by omega) (by omega) (by omega) ?_
          refine r_zald (pc' := 65) hc hK hx ((gN τ 15 62) / 16) (by omega) d_M_step_64 rfl ?_
          refine a_ifb_ne (pc' := 68) (tgt := 71) hc d_M_step_65 rfl rfl (fun h65 => ?_) (fun h65 => ?_)
          · skip
            refine a_aload_n (pc' := 72) hc d_M_step_71 rfl rfl rfl ?_
            refine r_get (pc' := 75) hc hK hx 12 (v := .int (τ 0 6)) (by decide) rfl fl_M_126 d_M_step_72 rfl ?_
            refine AW.topi (y := nI (cpN τ)) (nat_eq h0) ?_
            refine a_iconst (pc' := 76) (v := nI 4) hc d_M_step_75 rfl (by decide) ?_
            refine a_ncmp_ge (pc' := 79) (tgt := 134) hc d_M_step_76 rfl rfl (by omega) (by omega) (fun h76 => ?_) (fun h76 => ?_)
            · skip
              refine a_aload_n (pc' := 135) hc d_M_step_134 rfl rfl rfl ?_
              refine a_bipush (pc' := 137) (v := nI 15) hc d_M_step_135 rfl (by decide) ?_
              refine a_bipush (pc' := 139) (v := nI 16) hc d_M_step_137 rfl (by decide) ?_
              refine r_callv (pc' := 142) hc hK hO hA hx [.int (nI 15), .int (nI 16)] [] (ct_M_copyMap hx (τ := τ) (a := 15) (b := 16) (by omega) (by omega)) ml_M_90 hd_M_copyMap ⟨by decide, by decide⟩ rfl rfl (Nat.le_of_ble_eq_true rfl) d_M_step_139 rfl ?_
              refine a_aload_n (pc' := 143) hc d_M_step_142 rfl rfl rfl ?_
              refine a_bipush (pc' := 145) (v := nI 16) hc d_M_step_143 rfl (by decide) ?_
              refine a_bipush (pc' := 147) (v := nI 15) hc d_M_step_145 rfl (by decide) ?_
              refine a_aload_n (pc' := 148) hc d_M_step_147 rfl rfl rfl ?_
              refine a_bipush (pc' := 150) (v := nI 15) hc d_M_step_148 rfl (by decide) ?_
              refine a_bipush (pc' := 152) (v := nI 60) hc d_M_step_150 rfl (by decide) ?_
              refine r_calli (pc' := 155) hc hK hO hA hx [.int (nI 15), .int (nI 60)] [.int (nI 15), .int (nI 16), .ref (ax 0)] (ct_M_get hx (τ := cpT τ 15 16 64) (mp := 15) (i := 60) (by omega) (by omega)) ml_M_49 hd_M_get ⟨by decide, by decide⟩ rfl rfl (Nat.le_of_ble_eq_true rfl) d_M_step_152 rfl ?_
              refine AW.topi (y := nI (gN τ 15 60)) (by rw [cp_lo (by omega) (by omega)]; exact nat_eq hm18) ?_
              refine a_nmul (pc' := 156) hc d_M_step_155 rfl ?_
              refine a_iconst (pc' := 157) (v := nI 3) hc d_M_step_156 rfl (by decide) ?_
              refine a_nadd (pc' := 158) hc d_M_step_157 rfl ?_
              refine a_aload_n (pc' := 159) hc d_M_step_158 rfl rfl rfl ?_
              refine a_bipush (pc' := 161) (v := nI 15) hc d_M_step_159 rfl (by decide) ?_
              refine a_bipush (pc' := 163) (v := nI 61) hc d_M_step_161 rfl (by decide) ?_
              refine r_calli (pc' := 166) hc hK hO hA hx [.int (nI 15), .int (nI 61)] [.int (nI ((15 * (gN τ 15 60)) + 3)), .int (nI 16), .ref (ax 0)] (ct_M_get hx (τ := cpT τ 15 16 64) (mp := 15) (i := 61) (by omega) (by omega)) ml_M_49 hd_M_get ⟨by decide, by decide⟩ rfl rfl (Nat.le_of_ble_eq_true rfl) d_M_step_163 rfl ?_
              refine AW.topi (y := nI (gN τ 15 61)) (by rw [cp_lo (by omega) (by omega)]; exact hw.1.n (by omega) (by omega)) ?_
              refine a_nadd (pc' := 167) hc d_M_step_166 rfl ?_
              refine a_iload_n (pc' := 168) hc d_M_step_167 rfl rfl rfl ?_
              refine r_callv (pc' := 171) hc hK hO hA hx [.int (nI 16), .int (nI (((15 * (gN τ 15 60)) + 3) + (gN τ 15 61))), .int (nI (gN τ 15 62))] [] (ct_M_set hx (τ := cpT τ 15 16 64) (mp := 16) (i := ((15 * (gN τ 15 60)) + 3) + (gN τ 15 61)) (v := nI (gN τ 15 62)) (by omega) (by omega)) ml_M_76 hd_M_set ⟨by decide, by decide⟩ rfl rfl (Nat.le_of_ble_eq_true rfl) d_M_step_168 rfl ?_
              refine a_aload_n (pc' := 172) hc d_M_step_171 rfl rfl rfl ?_
              refine a_bipush (pc' := 174) (v := nI 16) hc d_M_step_172 rfl (by decide) ?_
              refine a_bipush (pc' := 176) (v := nI 60) hc d_M_step_174 rfl (by decide) ?_
              refine a_iconst (pc' := 177) (v := -1) hc d_M_step_176 rfl (by decide) ?_
              refine r_callv (pc' := 180) hc hK hO hA hx [.int (nI 16), .int (nI 60), .int (-1)] [] (ct_M_set hx (τ := ts (cpT τ 15 16 64) 3 (64 * 16 + (((15 * (gN τ 15 60)) + 3) + (gN τ 15 61))) (nI (gN τ 15 62))) (mp := 16) (i := 60) (v := (-1)) (by omega) (by omega)) ml_M_76 hd_M_set ⟨by decide, by decide⟩ rfl rfl (Nat.le_of_ble_eq_true rfl) d_M_step_177 rfl ?_
              refine a_aload_n (pc' := 181) hc d_M_step_180 rfl rfl rfl ?_
              refine r_calli (pc' := 184) hc hK hO hA hx [] [] (ct_M_commit hx (τ := ts (ts (cpT τ 15 16 64) 3 (64 * 16 + (((15 * (gN τ 15 60)) + 3) + (gN τ 15 61))) (nI (gN τ 15 62))) 3 (64 * 16 + 60) (-1)) (fun d hd => h6 d hd)) ml_M_114 hd_M_commit ⟨by decide, by decide⟩ rfl rfl (Nat.le_of_ble_eq_true rfl) d_M_step_181 rfl ?_
              refine a_ifb_eq (pc' := 187) (tgt := 191) hc d_M_step_184 rfl rfl (fun h184 => ?_) (fun h184 => ?_)
              · skip
                refine a_bipush (pc' := 193) (v := -7) hc d_M_step_191 rfl (by decide) ?_
                exact a_iret hc hr hk d_M_step_193 (m_i (by first | rfl | (simp only [spP, sp1, sp2, h4, h18, h28, h53, h65, h76, h184]; done) | (simp [spP, sp1, sp2, h4, h18, h28, h53, h65, h76, h184]; done)) (by first | rfl | (simp only [spP, sp1, sp2, h4, h18, h28, h53, h65, h76, h184]; done) | (simp [spP, sp1, sp2, h4, h18, h28, h53, h65, h76, h184]; done)))
              · skip
                refine a_iconst (pc' := 188) (v := nI 4) hc d_M_step_187 rfl (by decide) ?_
                refine a_goto (tgt := 193) hc d_M_step_188 rfl ?_
                exact a_iret hc hr hk d_M_step_193 (m_i (by first | rfl | (simp only [spP, sp1, sp2, h4, h18, h28, h53, h65, h76, h184]; done) | (simp [spP, sp1, sp2, h4, h18, h28, h53, h65, h76, h184]; done)) (by first | rfl | (simp only [spP, sp1, sp2, h4, h18, h28, h53, h65, h76, h184]; done) | (simp [spP, sp1, sp2, h4, h18, h28, h53, h65, h76, h184]; done)))
            · skip
              have n76 := Nat.not_le.mpr h76
              refine a_aload_n (pc' := 80) hc d_M_step_79 rfl rfl rfl ?_
              refine r_calli (pc' := 83) hc hK hO hA hx [] [] (ct_M_stops hx (τ := τ) ) ml_M_86 hd_M_stops ⟨by decide, by decide⟩ rfl rfl (Nat.le_of_ble_eq_true rfl) d_M_step_80 rfl ?_
              refine a_ifb_eq (pc' := 86) (tgt := 89) hc d_M_step_83 rfl rfl (fun h83 => ?_) (fun h83 => ?_)
              · skip
                refine a_aload_n (pc' := 90) hc d_M_step_89 rfl rfl rfl ?_
                refine r_get (pc' := 93) hc hK hx 3 (v := .ref (ax 2)) (by decide) rfl fl_M_13 d_M_step_90 rfl ?_
                refine a_aload_n (pc' := 94) hc d_M_step_93 rfl rfl rfl ?_
                refine a_iload_n (pc' := 95) hc d_M_step_94 rfl rfl rfl ?_
                refine a_aload_n (pc' := 96) hc d_M_step_95 rfl rfl rfl ?_
                refine r_get (pc' := 99) hc hK hx 12 (v := .int ((stT τ) 0 6)) (by decide) rfl fl_M_126 d_M_step_96 rfl ?_
                refine AW.topi (y := nI (cpN τ)) (by rw [stT_06]; exact nat_eq h0) ?_
                refine r_calli (pc' := 102) hc hK hO hA hx [.int (nI (gN τ 15 62)), .int (nI (cpN τ))] [.ref (ax 2)] (ct_M_cellAt hx (τ := stT τ) (id := gN τ 15 62) (c := cpN τ) (by omega)) ml_M_136 hd_M_cellAt ⟨by decide, by decide⟩ rfl rfl (Nat.le_of_ble_eq_true rfl) d_M_step_99 rfl ?_
                refine a_aload_n (pc' := 103) hc d_M_step_102 rfl rfl rfl ?_
                refine r_get (pc' := 106) hc hK hx 3 (v := .ref (ax 2)) (by decide) rfl fl_M_13 d_M_step_103 rfl ?_
                refine a_aload_n (pc' := 107) hc d_M_step_106 rfl rfl rfl ?_
                refine a_iload_n (pc' := 108) hc d_M_step_107 rfl rfl rfl ?_
                refine a_aload_n (pc' := 109) hc d_M_step_108 rfl rfl rfl ?_
                refine r_get (pc' := 112) hc hK hx 12 (v := .int ((stT τ) 0 6)) (by decide) rfl fl_M_126 d_M_step_109 rfl ?_
                refine AW.topi (y := nI (cpN τ)) (by rw [stT_06]; exact nat_eq h0) ?_
                refine r_calli (pc' := 115) hc hK hO hA hx [.int (nI (srN τ)), .int (nI (cpN τ))] [.ref (ax 2), .int (nI (caN (gN τ 15 62) (cpN τ))), .ref (ax 2)] (ct_M_cellAt hx (τ := stT τ) (id := srN τ) (c := cpN τ) (by omega)) ml_M_136 hd_M_cellAt ⟨by decide, by decide⟩ rfl rfl (Nat.le_of_ble_eq_true rfl) d_M_step_112 rfl ?_
                refine r_iald (pc' := 116) (N := 320) hc hK hx 2 (caN (srN τ) (cpN τ)) (by decide) rfl (caN_lt hn5 hE10 hq7 hq8 (by omega)) d_M_step_115 rfl ?_
                refine r_iast (pc' := 117) (N := 320) hc hK hx 2 (caN (gN τ 15 62) (cpN τ)) (by decide) rfl (caN_lt hn5 hE10 hq3 hq4 (by omega)) d_M_step_116 rfl ?_
                refine a_aload_n (pc' := 118) hc d_M_step_117 rfl rfl rfl ?_
                refine a_dup (pc' := 119) hc d_M_step_118 rfl rfl ?_
                refine r_get (pc' := 122) hc hK hx 12 (v := .int ((ts (stT τ) 2 (caN (gN τ 15 62) (cpN τ)) ((stT τ) 2 (caN (srN τ) (cpN τ)))) 0 6)) (by decide) rfl fl_M_126 d_M_step_119 rfl ?_
                refine AW.topi (y := nI (cpN τ)) (by rw [ts_ne (by decide), stT_06]; exact nat_eq h0) ?_
                refine a_iconst (pc' := 123) (v := nI 1) hc d_M_step_122 rfl (by decide) ?_
                refine a_nadd (pc' := 124) hc d_M_step_123 rfl ?_
                refine r_put (pc' := 127) hc hK hx 12 (by decide) fl_M_126 d_M_step_124 rfl ?_
                refine a_iconst (pc' := 128) (v := nI 4) hc d_M_step_127 rfl (by decide) ?_
                refine a_aload_n (pc' := 129) hc d_M_step_128 rfl rfl rfl ?_
                refine r_get (pc' := 132) hc hK hx 12 (v := .int ((ts (ts (stT τ) 2 (caN (gN τ 15 62) (cpN τ)) ((stT τ) 2 (caN (srN τ) (cpN τ)))) 0 6 (nI ((cpN τ) + 1))) 0 6)) (by decide) rfl fl_M_126 d_M_step_129 rfl ?_
                refine AW.topi (y := nI (cpN τ + 1)) ts_at ?_
                refine a_nsub (pc' := 133) hc d_M_step_132 rfl (by omega) ?_
                exact a_iret hc hr hk d_M_step_133 (m_i (by first | rfl | (simp only [spP, sp1, sp2, h4, h18, h28, h53, h65, h76, n76, h83]; done) | (simp [spP, sp1, sp2, h4, h18, h28, h53, h65, h76, n76, h83]; done)) (by first | rfl | (simp only [spP, sp1, sp2, h4, h18, h28, h53, h65, h76, n76, h83]; done) | (simp [spP, sp1, sp2, h4, h18, h28, h53, h65, h76, n76, h83]; done)))
              · skip
                refine a_bipush (pc' := 88) (v := -7) hc d_M_step_86 rfl (by decide) ?_
                exact a_iret hc hr hk d_M_step_88 (m_i (by first | rfl | (simp only [spP, sp1, sp2, h4, h18, h28, h53, h65, h76, n76, h83]; done) | (simp [spP, sp1, sp2, h4, h18, h28, h53, h65, h76, n76, h83]; done)) (by first | rfl | (simp only [spP, sp1, sp2, h4, h18, h28, h53, h65, h76, n76, h83]; done) | (simp [spP, sp1, sp2, h4, h18, h28, h53, h65, h76, n76, h83]; done)))
          · skip
            refine a_bipush (pc' := 70) (v := -6) hc d_M_step_68 rfl (by decide) ?_
            exact a_iret hc hr hk d_M_step_70 (m_i (by first | rfl | (simp only [spP, sp1, sp2, h4, h18, h28, h53, h65]; done) | (simp [spP, sp1, sp2, h4, h18, h28, h53, h65]; done)) (by first | rfl | (simp only [spP, sp1, sp2, h4, h18, h28, h53, h65]; done) | (simp [spP, sp1, sp2, h4, h18, h28, h53, h65]; done)))
      · skip
        refine a_bipush (pc' := 33) (v := -3) hc d_M_step_31 rfl (by decide) ?_
        exact a_iret hc hr hk d_M_step_33 (m_i (by first | rfl | (simp only [spP, sp1, sp2, h4, h18, h28]; done) | (simp [spP, sp1, sp2, h4, h18, h28]; done)) (by first | rfl | (simp only [spP, sp1, sp2, h4, h18, h28]; done) | (simp [spP, sp1, sp2, h4, h18, h28]; done)))
    · skip
      refine a_bipush (pc' := 23) (v := -8) hc d_M_step_21 rfl (by decide) ?_
      exact a_iret hc hr hk d_M_step_23 (m_i (by first | rfl | (simp only [spP, sp1, sp2, h4, h18]; done) | (simp [spP, sp1, sp2, h4, h18]; done)) (by first | rfl | (simp only [spP, sp1, sp2, h4, h18]; done) | (simp [spP, sp1, sp2, h4, h18]; done)))
  · skip
    refine a_bipush (pc' := 9) (v := -2) hc d_M_step_7 rfl (by decide) ?_
    exact a_iret hc hr hk d_M_step_9 (m_i (by first | rfl | (simp only [spP, sp1, sp2, h4]; done) | (simp [spP, sp1, sp2, h4]; done)) (by first | rfl | (simp only [spP, sp1, sp2, h4]; done) | (simp [spP, sp1, sp2, h4]; done)))
theorem ct_M_move (hx : MX ax rl ca tys n E) {τ : TS} {v : Int32} {k : Int32} {d : Int32} (h6 : ∀ d, d < 5 → ¬ τ 6 d < 0) (hw : WFx n E τ 15) : MC l y_M_move c_M_move 6 (some .int) 5 D tys A ax rl ca n E τ [.int v, .int k, .int d] (some (.int ((moP τ n E v k d).1))) ((moP τ n E v k d).2) := by
  obtain ⟨hn2, hn5⟩ := hx.2.2.2.1
  obtain ⟨hE2, hE10⟩ := hx.2.2.2.2
  refine MC.of rfl (Nat.le_of_ble_eq_true rfl) (cat_all rfl) ?_
  intro pp ee ss mm aa bb me cd hc hK hO hr hk hA
  refine AW.to (lv' := [some (.ref (ax 0)), some (.int v), some (.int k), some (.int d), none, none]) rfl rfl rfl ?_
  refine a_aload_n (pc' := 1) hc d_M_move_0 rfl rfl rfl ?_
  refine r_get (pc' := 4) hc hK hx 11 (v := .int (bI (tb (τ 0 5)))) (by decide) rfl fl_M_45 d_M_move_1 rfl ?_
  refine a_ifb_ne (pc' := 7) (tgt := 10) hc d_M_move_4 rfl rfl (fun h4 => ?_) (fun h4 => ?_)
  · skip
    refine a_aload_n (pc' := 11) hc d_M_move_10 rfl rfl rfl ?_
    refine a_iload_n (pc' := 12) hc d_M_move_11 rfl rfl rfl ?_
    refine a_iload_n (pc' := 13) hc d_M_move_12 rfl rfl rfl ?_
    refine r_calli (pc' := 16) hc hK hO hA hx [.int v, .int k] [] (ct_M_isExtent hx (τ := τ) (v := v) (k := k) hw.1) ml_M_123 hd_M_isExtent ⟨by decide, by decide⟩ rfl rfl (Nat.le_of_ble_eq_true rfl) d_M_move_13 rfl ?_
    refine a_ifb_eq (pc' := 19) (tgt := 31) hc d_M_move_16 rfl rfl (fun h16 => ?_) (fun h16 => ?_)
    · skip
      refine a_iconst (pc' := 32) (v := -1) hc d_M_move_31 rfl (by decide) ?_
      exact a_iret hc hr hk d_M_move_32 (m_i (by first | rfl | (simp only [moP, mo1, h4, h16]; done) | (simp [moP, mo1, h4, h16]; done)) (by first | rfl | (simp only [moP, mo1, h4, h16]; done) | (simp [moP, mo1, h4, h16]; done)))
    · skip
      obtain ⟨i, j, hi, ei, ci, hj, ej, cj⟩ := exB_t hw.1 h16
      subst ei
      subst ej
      have hx16 := hw.1.ex hi
      have hp16 := hw.2.2.1 i hi j hj
      have hl16 := gN_lt τ 15 (15 * i + 3 + j)
      refine a_iload_n (pc' := 20) hc d_M_move_19 rfl rfl rfl ?_
      refine a_if_lt (pc' := 23) (tgt := 31) hc d_M_move_20 rfl rfl (fun h20 => ?_) (fun h20 => ?_)
      · skip
        refine a_iconst (pc' := 32) (v := -1) hc d_M_move_31 rfl (by decide) ?_
        exact a_iret hc hr hk d_M_move_32 (m_i (by first | rfl | (simp only [moP, mo1, h4, h16, ci, cj, h20]; done) | (simp [moP, mo1, h4, h16, ci, cj, h20]; done)) (by first | rfl | (simp only [moP, mo1, h4, h16, ci, cj, h20]; done) | (simp [moP, mo1, h4, h16, ci, cj, h20]; done)))
      · skip
        refine a_iload_n (pc' := 24) hc d_M_move_23 rfl rfl rfl ?_
        refine a_aload_n (pc' := 25) hc d_M_move_24 rfl rfl rfl ?_
        refine r_get (pc' := 28) hc hK hx 0 (v := .int (nI n)) (by decide) rfl fl_M_29 d_M_move_25 rfl ?_
        refine a_icmp_lt (pc' := 31) (tgt := 33) hc d_M_move_28 rfl rfl (fun h28 => ?_) (fun h28 => ?_)
        · skip
          obtain ⟨d', hd', ed, cd'⟩ := ix_of (N := n) (by omega) h20 (Int32.not_le.mpr h28)
          subst ed
          refine a_aload_n (pc' := 34) hc d_M_move_33 rfl rfl rfl ?_
          refine r_calli (pc' := 37) hc hK hO hA hx [] [] (ct_M_few hx (τ := τ) ) ml_M_108 hd_M_few ⟨by decide, by decide⟩ rfl rfl (Nat.le_of_ble_eq_true rfl) d_M_move_34 rfl ?_
          refine a_ifb_eq (pc' := 40) (tgt := 43) hc d_M_move_37 rfl rfl (fun h37 => ?_) (fun h37 => ?_)
          · skip
            refine a_aload_n (pc' := 44) hc d_M_move_43 rfl rfl rfl ?_
            refine a_bipush (pc' := 46) (v := nI 15) hc d_M_move_44 rfl (by decide) ?_
            refine a_bipush (pc' := 48) (v := nI 60) hc d_M_move_46 rfl (by decide) ?_
            refine r_calli (pc' := 51) hc hK hO hA hx [.int (nI 15), .int (nI 60)] [] (ct_M_get hx (τ := τ) (mp := 15) (i := 60) (by omega) (by omega)) ml_M_49 hd_M_get ⟨by decide, by decide⟩ rfl rfl (Nat.le_of_ble_eq_true rfl) d_M_move_48 rfl ?_
            refine a_if_lt (pc' := 54) (tgt := 57) hc d_M_move_51 rfl rfl (fun h51 => ?_) (fun h51 => ?_)
            · skip
              refine a_aload_n (pc' := 58) hc d_M_move_57 rfl rfl rfl ?_
              refine a_bipush (pc' := 60) (v := nI 15) hc d_M_move_58 rfl (by decide) ?_
              refine a_bipush (pc' := 62) (v := nI 15) hc d_M_move_60 rfl (by decide) ?_
              refine a_iload_n (pc' := 63) hc d_M_move_62 rfl rfl rfl ?_
              refine a_nmul (pc' := 64) hc d_M_move_63 rfl ?_
              refine a_iconst (pc' := 65) (v := nI 3) hc d_M_move_64 rfl (by decide) ?_
              refine a_nadd (pc' := 66) hc d_M_move_65 rfl ?_
              refine a_iload_n (pc' := 67) hc d_M_move_66 rfl rfl rfl ?_
              refine a_nadd (pc' := 68) hc d_M_move_67 rfl ?_
              refine r_calli (pc' := 71) hc hK hO hA hx [.int (nI 15), .int (nI (((15 * i) + 3) + j))] [] (ct_M_get hx (τ := τ) (mp := 15) (i := ((15 * i) + 3) + j) (by omega) (by omega)) ml_M_49 hd_M_get ⟨by decide, by decide⟩ rfl rfl (Nat.le_of_ble_eq_true rfl) d_M_move_68 rfl ?_
              refine AW.topi (y := nI (gN τ 15 (15 * i + 3 + j))) (hw.1.n (by omega) (by omega)) ?_
              refine a_istore (pc' := 73) hc d_M_move_71 rfl (by decide) ?_
              refine a_aload_n (pc' := 74) hc d_M_move_73 rfl rfl rfl ?_
              refine r_get (pc' := 77) hc hK hx 2 (v := .ref (ax 1)) (by decide) rfl fl_M_7 d_M_move_74 rfl ?_
              refine a_iload (pc' := 79) hc d_M_move_77 rfl rfl ?_
              refine a_bipush (pc' := 81) (v := nI 16) hc d_M_move_79 rfl (by decide) ?_
              refine a_ndiv (pc' := 82) hc d_M_move_81 rfl (by omega) (by omega) (by omega) ?_
              refine r_zald (pc' := 83) hc hK hx ((gN τ 15 (15 * i + 3 + j)) / 16) (by omega) d_M_move_82 rfl ?_
              refine a_ifb_eq (pc' := 86) (tgt := 95) hc d_M_move_83 rfl rfl (fun h83 => ?_) (fun h83 => ?_)
              · skip
                refine a_bipush (pc' := 97) (v := -6) hc d_M_move_95 rfl (by decide) ?_
                exact a_iret hc hr hk d_M_move_97 (m_i (by first | rfl | (simp only [moP, mo1, h4, h16, ci, cj, h20, h28, cd', h37, h51, h83]; done) | (simp [moP, mo1, h4, h16, ci, cj, h20, h28, cd', h37, h51, h83]; done)) (by first | rfl | (simp only [moP, mo1, h4, h16, ci, cj, h20, h28, cd', h37, h51, h83]; done) | (simp [moP, mo1, h4, h16, ci, cj, h20, h28, cd', h37, h51, h83]; done)))
              · skip
                refine a_aload_n (pc' := 87) hc d_M_move_86 rfl rfl rfl ?_
                refine r_get (pc' := 90) hc hK hx 2 (v := .ref (ax 1)) (by decide) rfl fl_M_7 d_M_move_87 rfl ?_
                refine a_iload_n (pc' := 91) hc d_M_move_90 rfl rfl rfl ?_
                refine r_zald (pc' := 92) hc hK hx d' (by omega) d_M_move_91 rfl ?_
                refine a_ifb_ne (pc' := 95) (tgt := 98) hc d_M_move_92 rfl rfl (fun h92 => ?_) (fun h92 => ?_)
                · skip
                  refine a_aload_n (pc' := 99) hc d_M_move_98 rfl rfl rfl ?_
                  refine a_bipush (pc' := 101) (v := nI 15) hc d_M_move_99 rfl (by decide) ?_
                  refine a_iload_n (pc' := 102) hc d_M_move_101 rfl rfl rfl ?_
                  refine r_calli (pc' := 105) hc hK hO hA hx [.int (nI 15), .int (nI d')] [] (ct_M_leastFree hx (τ := τ) (mp := 15) (d := d') (by omega) (by omega) hw.1) ml_M_73 hd_M_leastFree ⟨by decide, by decide⟩ rfl rfl (Nat.le_of_ble_eq_true rfl) d_M_move_102 rfl ?_
                  refine a_istore (pc' := 107) hc d_M_move_105 rfl (by decide) ?_
                  refine a_iload (pc' := 109) hc d_M_move_107 rfl rfl ?_
                  refine a_if_ge (pc' := 112) (tgt := 115) hc d_M_move_109 rfl rfl (fun h109 => ?_) (fun h109 => ?_)
                  · skip
                    refine a_aload_n (pc' := 116) hc d_M_move_115 rfl rfl rfl ?_
                    refine a_bipush (pc' := 118) (v := nI 15) hc d_M_move_116 rfl (by decide) ?_
                    refine a_bipush (pc' := 120) (v := nI 16) hc d_M_move_118 rfl (by decide) ?_
                    refine r_callv (pc' := 123) hc hK hO hA hx [.int (nI 15), .int (nI 16)] [] (ct_M_copyMap hx (τ := τ) (a := 15) (b := 16) (by omega) (by omega)) ml_M_90 hd_M_copyMap ⟨by decide, by decide⟩ rfl rfl (Nat.le_of_ble_eq_true rfl) d_M_move_120 rfl ?_
                    refine a_aload_n (pc' := 124) hc d_M_move_123 rfl rfl rfl ?_
                    refine a_bipush (pc' := 126) (v := nI 16) hc d_M_move_124 rfl (by decide) ?_
                    refine a_bipush (pc' := 128) (v := nI 60) hc d_M_move_126 rfl (by decide) ?_
                    refine a_iload_n (pc' := 129) hc d_M_move_128 rfl rfl rfl ?_
                    refine r_callv (pc' := 132) hc hK hO hA hx [.int (nI 16), .int (nI 60), .int (nI i)] [] (ct_M_set hx (τ := cpT τ 15 16 64) (mp := 16) (i := 60) (v := nI i) (by omega) (by omega)) ml_M_76 hd_M_set ⟨by decide, by decide⟩ rfl rfl (Nat.le_of_ble_eq_true rfl) d_M_move_129 rfl ?_
                    refine a_aload_n (pc' := 133) hc d_M_move_132 rfl rfl rfl ?_
                    refine a_bipush (pc' := 135) (v := nI 16) hc d_M_move_133 rfl (by decide) ?_
                    refine a_bipush (pc' := 137) (v := nI 61) hc d_M_move_135 rfl (by decide) ?_
                    refine a_iload_n (pc' := 138) hc d_M_move_137 rfl rfl rfl ?_
                    refine r_callv (pc' := 141) hc hK hO hA hx [.int (nI 16), .int (nI 61), .int (nI j)] [] (ct_M_set hx (τ := ts (cpT τ 15 16 64) 3 (64 * 16 + 60) (nI i)) (mp := 16) (i := 61) (v := nI j) (by omega) (by omega)) ml_M_76 hd_M_set ⟨by decide, by decide⟩ rfl rfl (Nat.le_of_ble_eq_true rfl) d_M_move_138 rfl ?_
                    refine a_aload_n (pc' := 142) hc d_M_move_141 rfl rfl rfl ?_
                    refine a_bipush (pc' := 144) (v := nI 16) hc d_M_move_142 rfl (by decide) ?_
                    refine a_bipush (pc' := 146) (v := nI 62) hc d_M_move_144 rfl (by decide) ?_
                    refine a_iload (pc' := 148) hc d_M_move_146 rfl rfl ?_
                    refine r_callv (pc' := 151) hc hK hO hA hx [.int (nI 16), .int (nI 62), .int (lfI τ E 15 d')] [] (ct_M_set hx (τ := ts (ts (cpT τ 15 16 64) 3 (64 * 16 + 60) (nI i)) 3 (64 * 16 + 61) (nI j)) (mp := 16) (i := 62) (v := lfI τ E 15 d') (by omega) (by omega)) ml_M_76 hd_M_set ⟨by decide, by decide⟩ rfl rfl (Nat.le_of_ble_eq_true rfl) d_M_move_148 rfl ?_
                    refine a_aload_n (pc' := 152) hc d_M_move_151 rfl rfl rfl ?_
                    refine r_calli (pc' := 155) hc hK hO hA hx [] [] (ct_M_commit hx (τ := ts (ts (ts (cpT τ 15 16 64) 3 (64 * 16 + 60) (nI i)) 3 (64 * 16 + 61) (nI j)) 3 (64 * 16 + 62) (lfI τ E 15 d')) (fun d hd => h6 d hd)) ml_M_114 hd_M_commit ⟨by decide, by decide⟩ rfl rfl (Nat.le_of_ble_eq_true rfl) d_M_move_152 rfl ?_
                    refine a_ifb_ne (pc' := 158) (tgt := 161) hc d_M_move_155 rfl rfl (fun h155 => ?_) (fun h155 => ?_)
                    · skip
                      refine a_aload_n (pc' := 162) hc d_M_move_161 rfl rfl rfl ?_
                      refine a_iconst (pc' := 163) (v := nI 0) hc d_M_move_162 rfl (by decide) ?_
                      refine r_put (pc' := 166) hc hK hx 12 (by decide) fl_M_126 d_M_move_163 rfl ?_
                      refine a_iconst (pc' := 167) (v := nI 0) hc d_M_move_166 rfl (by decide) ?_
                      exact a_iret hc hr hk d_M_move_167 (m_i (by first | rfl | (simp only [moP, mo1, h4, h16, ci, cj, h20, h28, cd', h37, h51, h83, h92, h109, h155]; done) | (simp [moP, mo1, h4, h16, ci, cj, h20, h28, cd', h37, h51, h83, h92, h109, h155]; done)) (by first | rfl | (simp only [moP, mo1, h4, h16, ci, cj, h20, h28, cd', h37, h51, h83, h92, h109, h155]; done) | (simp [moP, mo1, h4, h16, ci, cj, h20, h28, cd', h37, h51, h83, h92, h109, h155]; done)))
                    · skip
                      refine a_bipush (pc' := 160) (v := -7) hc d_M_move_158 rfl (by decide) ?_
                      exact a_iret hc hr hk d_M_move_160 (m_i (by first | rfl | (simp only [moP, mo1, h4, h16, ci, cj, h20, h28, cd', h37, h51, h83, h92, h109, h155]; done) | (simp [moP, mo1, h4, h16, ci, cj, h20, h28, cd', h37, h51, h83, h92, h109, h155]; done)) (by first | rfl | (simp only [moP, mo1, h4, h16, ci, cj, h20, h28, cd', h37, h51, h83, h92, h109, h155]; done) | (simp [moP, mo1, h4, h16, ci, cj, h20, h28, cd', h37, h51, h83, h92, h109, h155]; done)))
                  · skip
                    refine a_bipush (pc' := 114) (v := -5) hc d_M_move_112 rfl (by decide) ?_
                    exact a_iret hc hr hk d_M_move_114 (m_i (by first | rfl | (simp only [moP, mo1, h4, h16, ci, cj, h20, h28, cd', h37, h51, h83, h92, h109]; done) | (simp [moP, mo1, h4, h16, ci, cj, h20, h28, cd', h37, h51, h83, h92, h109]; done)) (by first | rfl | (simp only [moP, mo1, h4, h16, ci, cj, h20, h28, cd', h37, h51, h83, h92, h109]; done) | (simp [moP, mo1, h4, h16, ci, cj, h20, h28, cd', h37, h51, h83, h92, h109]; done)))
                · skip
                  refine a_bipush (pc' := 97) (v := -6) hc d_M_move_95 rfl (by decide) ?_
                  exact a_iret hc hr hk d_M_move_97 (m_i (by first | rfl | (simp only [moP, mo1, h4, h16, ci, cj, h20, h28, cd', h37, h51, h83, h92]; done) | (simp [moP, mo1, h4, h16, ci, cj, h20, h28, cd', h37, h51, h83, h92]; done)) (by first | rfl | (simp only [moP, mo1, h4, h16, ci, cj, h20, h28, cd', h37, h51, h83, h92]; done) | (simp [moP, mo1, h4, h16, ci, cj, h20, h28, cd', h37, h51, h83, h92]; done)))
            · skip
              refine a_bipush (pc' := 56) (v := -4) hc d_M_move_54 rfl (by decide) ?_
              exact a_iret hc hr hk d_M_move_56 (m_i (by first | rfl | (simp only [moP, mo1, h4, h16, ci, cj, h20, h28, cd', h37, h51]; done) | (simp [moP, mo1, h4, h16, ci, cj, h20, h28, cd', h37, h51]; done)) (by first | rfl | (simp only [moP, mo1, h4, h16, ci, cj, h20, h28, cd', h37, h51]; done) | (simp [moP, mo1, h4, h16, ci, cj, h20, h28, cd', h37, h51]; done)))
          · skip
            refine a_bipush (pc' := 42) (v := -3) hc d_M_move_40 rfl (by decide) ?_
            exact a_iret hc hr hk d_M_move_42 (m_i (by first | rfl | (simp only [moP, mo1, h4, h16, ci, cj, h20, h28, cd', h37]; done) | (simp [moP, mo1, h4, h16, ci, cj, h20, h28, cd', h37]; done)) (by first | rfl | (simp only [moP, mo1, h4, h16, ci, cj, h20, h28, cd', h37]; done) | (simp [moP, mo1, h4, h16, ci, cj, h20, h28, cd', h37]; done)))
        · skip
          refine a_iconst (pc' := 32) (v := -1) hc d_M_move_31 rfl (by decide) ?_
          exact a_iret hc hr hk d_M_move_32 (m_i (by first | rfl | (simp only [moP, mo1, h4, h16, ci, cj, h20, h28]; done) | (simp [moP, mo1, h4, h16, ci, cj, h20, h28]; done)) (by first | rfl | (simp only [moP, mo1, h4, h16, ci, cj, h20, h28]; done) | (simp [moP, mo1, h4, h16, ci, cj, h20, h28]; done)))
  · skip
    refine a_bipush (pc' := 9) (v := -2) hc d_M_move_7 rfl (by decide) ?_
    exact a_iret hc hr hk d_M_move_9 (m_i (by first | rfl | (simp only [moP, mo1, h4]; done) | (simp [moP, mo1, h4]; done)) (by first | rfl | (simp only [moP, mo1, h4]; done) | (simp [moP, mo1, h4]; done)))
theorem ct_M_write (hx : MX ax rl ca tys n E) {τ : TS} {v : Int32} {b : Int32} {x : Int32} (hw : WFx n E τ 15) : MC l y_M_write c_M_write 8 (some .int) 4 D tys A ax rl ca n E τ [.int v, .int b, .int x] (some (.int ((wrP τ v b x).1))) ((wrP τ v b x).2) := by
  obtain ⟨hn2, hn5⟩ := hx.2.2.2.1
  obtain ⟨hE2, hE10⟩ := hx.2.2.2.2
  refine MC.of rfl (Nat.le_of_ble_eq_true rfl) (cat_all rfl) ?_
  intro pp ee ss mm aa bb me cd hc hK hO hr hk hA
  refine AW.to (lv' := [some (.ref (ax 0)), some (.int v), some (.int b), some (.int x), none, none, none, none]) rfl rfl rfl ?_
  refine a_aload_n (pc' := 1) hc d_M_write_0 rfl rfl rfl ?_
  refine r_get (pc' := 4) hc hK hx 11 (v := .int (bI (tb (τ 0 5)))) (by decide) rfl fl_M_45 d_M_write_1 rfl ?_
  refine a_ifb_ne (pc' := 7) (tgt := 10) hc d_M_write_4 rfl rfl (fun h4 => ?_) (fun h4 => ?_)
  · skip
    refine a_aload_n (pc' := 11) hc d_M_write_10 rfl rfl rfl ?_
    refine a_iload_n (pc' := 12) hc d_M_write_11 rfl rfl rfl ?_
    refine a_iload_n (pc' := 13) hc d_M_write_12 rfl rfl rfl ?_
    refine r_calli (pc' := 16) hc hK hO hA hx [.int v, .int b] [] (ct_M_isBlock hx (τ := τ) (v := v) (b := b) hw.1) ml_M_139 hd_M_isBlock ⟨by decide, by decide⟩ rfl rfl (Nat.le_of_ble_eq_true rfl) d_M_write_13 rfl ?_
    refine a_ifb_eq (pc' := 19) (tgt := 23) hc d_M_write_16 rfl rfl (fun h16 => ?_) (fun h16 => ?_)
    · skip
      refine a_iconst (pc' := 24) (v := -1) hc d_M_write_23 rfl (by decide) ?_
      exact a_iret hc hr hk d_M_write_24 (m_i (by first | rfl | (simp only [wrP, twB, wr1, wr2, h4, h16]; done) | (simp [wrP, twB, wr1, wr2, h4, h16]; done)) (by first | rfl | (simp only [wrP, twB, wr1, wr2, h4, h16]; done) | (simp [wrP, twB, wr1, wr2, h4, h16]; done)))
    · skip
      obtain ⟨i, j, hi, ei, ci, hj, ej, cj, pj⟩ := blB_t hw.1 h16
      subst ei
      subst ej
      have hx16 := hw.1.ex hi
      obtain ⟨hb1, hb2, hb3, hb4, hb5, hb6⟩ := bk_t hw hi pj hj
      have hid : bpN τ i j < 2 ^ 31 := gN_lt _ _ _
      refine a_iload_n (pc' := 20) hc d_M_write_19 rfl rfl rfl ?_
      refine a_if_ge (pc' := 23) (tgt := 25) hc d_M_write_20 rfl rfl (fun h20 => ?_) (fun h20 => ?_)
      · skip
        refine a_aload_n (pc' := 26) hc d_M_write_25 rfl rfl rfl ?_
        refine a_iload_n (pc' := 27) hc d_M_write_26 rfl rfl rfl ?_
        refine a_iload_n (pc' := 28) hc d_M_write_27 rfl rfl rfl ?_
        refine r_calli (pc' := 31) hc hK hO hA hx [.int (nI i), .int (nI j)] [] (ct_M_extentOf hx (τ := τ) (v := i) (b := j) (by omega) (by omega) hw.1 hb1 hb2) ml_M_142 hd_M_extentOf ⟨by decide, by decide⟩ rfl rfl (Nat.le_of_ble_eq_true rfl) d_M_write_28 rfl ?_
        refine a_istore (pc' := 33) hc d_M_write_31 rfl (by decide) ?_
        refine a_aload_n (pc' := 34) hc d_M_write_33 rfl rfl rfl ?_
        refine a_iload_n (pc' := 35) hc d_M_write_34 rfl rfl rfl ?_
        refine a_iload_n (pc' := 36) hc d_M_write_35 rfl rfl rfl ?_
        refine r_calli (pc' := 39) hc hK hO hA hx [.int (nI i), .int (nI j)] [] (ct_M_cellOf hx (τ := τ) (v := i) (b := j) (by omega) (by omega) hw.1 hb1 hb2) ml_M_145 hd_M_cellOf ⟨by decide, by decide⟩ rfl rfl (Nat.le_of_ble_eq_true rfl) d_M_write_36 rfl ?_
        refine AW.topi (y := nI (bcN τ i j)) rfl ?_
        refine a_istore (pc' := 41) hc d_M_write_39 rfl (by decide) ?_
        refine a_aload_n (pc' := 42) hc d_M_write_41 rfl rfl rfl ?_
        refine a_bipush (pc' := 44) (v := nI 15) hc d_M_write_42 rfl (by decide) ?_
        refine a_bipush (pc' := 46) (v := nI 15) hc d_M_write_44 rfl (by decide) ?_
        refine a_iload_n (pc' := 47) hc d_M_write_46 rfl rfl rfl ?_
        refine a_nmul (pc' := 48) hc d_M_write_47 rfl ?_
        refine a_iconst (pc' := 49) (v := nI 3) hc d_M_write_48 rfl (by decide) ?_
        refine a_nadd (pc' := 50) hc d_M_write_49 rfl ?_
        refine a_iload (pc' := 52) hc d_M_write_50 rfl rfl ?_
        refine a_nadd (pc' := 53) hc d_M_write_52 rfl ?_
        refine r_calli (pc' := 56) hc hK hO hA hx [.int (nI 15), .int (nI (((15 * i) + 3) + (eoN (gN τ 15 (15 * i)) (gN τ 15 (15 * i + 1)) j)))] [] (ct_M_get hx (τ := τ) (mp := 15) (i := ((15 * i) + 3) + (eoN (gN τ 15 (15 * i)) (gN τ 15 (15 * i + 1)) j)) (by omega) (by omega)) ml_M_49 hd_M_get ⟨by decide, by decide⟩ rfl rfl (Nat.le_of_ble_eq_true rfl) d_M_write_53 rfl ?_
        refine AW.topi (y := nI (bpN τ i j)) (hw.1.n (by omega) (by omega)) ?_
        refine a_istore (pc' := 58) hc d_M_write_56 rfl (by decide) ?_
        refine a_aload_n (pc' := 59) hc d_M_write_58 rfl rfl rfl ?_
        refine a_iload_n (pc' := 60) hc d_M_write_59 rfl rfl rfl ?_
        refine r_calli (pc' := 63) hc hK hO hA hx [.int (nI i)] [] (ct_M_isMoved hx (τ := τ) (v := nI i) ) ml_M_120 hd_M_isMoved ⟨by decide, by decide⟩ rfl rfl (Nat.le_of_ble_eq_true rfl) d_M_write_60 rfl ?_
        refine a_ifb_eq (pc' := 66) (tgt := 92) hc d_M_write_63 rfl rfl (fun h63 => ?_) (fun h63 => ?_)
        · skip
          refine a_iconst (pc' := 93) (v := nI 0) hc d_M_write_92 rfl (by decide) ?_
          refine a_istore (pc' := 95) hc d_M_write_93 rfl (by decide) ?_
          refine a_aload_n (pc' := 96) hc d_M_write_95 rfl rfl rfl ?_
          refine r_get (pc' := 99) hc hK hx 2 (v := .ref (ax 1)) (by decide) rfl fl_M_7 d_M_write_96 rfl ?_
          refine a_iload (pc' := 101) hc d_M_write_99 rfl rfl ?_
          refine a_bipush (pc' := 103) (v := nI 16) hc d_M_write_101 rfl (by decide) ?_
          refine a_ndiv (pc' := 104) hc d_M_write_103 rfl (by omega) (by omega) (by omega) ?_
          refine r_zald (pc' := 105) hc hK hx ((bpN τ i j) / 16) (by omega) d_M_write_104 rfl ?_
          refine a_ifb_eq (pc' := 108) (tgt := 128) hc d_M_write_105 rfl rfl (fun h105 => ?_) (fun h105 => ?_)
          · skip
            refine a_bipush (pc' := 130) (v := -6) hc d_M_write_128 rfl (by decide) ?_
            exact a_iret hc hr hk d_M_write_130 (m_i (by first | rfl | (simp only [wrP, twB, wr1, wr2, h4, h16, ci, cj, h20, h63, h105]; done) | (simp [wrP, twB, wr1, wr2, h4, h16, ci, cj, h20, h63, h105]; done)) (by first | rfl | (simp only [wrP, twB, wr1, wr2, h4, h16, ci, cj, h20, h63, h105]; done) | (simp [wrP, twB, wr1, wr2, h4, h16, ci, cj, h20, h63, h105]; done)))
          · skip
            refine a_iload (pc' := 110) hc d_M_write_108 rfl rfl ?_
            refine a_ifn_eq (pc' := 113) (tgt := 131) hc d_M_write_110 rfl rfl (by omega) (fun h110 => ?_) (fun h110 => absurd h110 (by omega))
            refine a_aload_n (pc' := 132) hc d_M_write_131 rfl rfl rfl ?_
            refine r_calli (pc' := 135) hc hK hO hA hx [] [] (ct_M_stops hx (τ := τ) ) ml_M_86 hd_M_stops ⟨by decide, by decide⟩ rfl rfl (Nat.le_of_ble_eq_true rfl) d_M_write_132 rfl ?_
            refine a_ifb_eq (pc' := 138) (tgt := 141) hc d_M_write_135 rfl rfl (fun h135 => ?_) (fun h135 => ?_)
            · skip
              refine a_aload_n (pc' := 142) hc d_M_write_141 rfl rfl rfl ?_
              refine r_get (pc' := 145) hc hK hx 3 (v := .ref (ax 2)) (by decide) rfl fl_M_13 d_M_write_142 rfl ?_
              refine a_aload_n (pc' := 146) hc d_M_write_145 rfl rfl rfl ?_
              refine a_iload (pc' := 148) hc d_M_write_146 rfl rfl ?_
              refine a_iload (pc' := 150) hc d_M_write_148 rfl rfl ?_
              refine r_calli (pc' := 153) hc hK hO hA hx [.int (nI (bpN τ i j)), .int (nI (bcN τ i j))] [.ref (ax 2)] (ct_M_cellAt hx (τ := stT τ) (id := bpN τ i j) (c := bcN τ i j) hid) ml_M_136 hd_M_cellAt ⟨by decide, by decide⟩ rfl rfl (Nat.le_of_ble_eq_true rfl) d_M_write_150 rfl ?_
              refine a_iload_n (pc' := 154) hc d_M_write_153 rfl rfl rfl ?_
              refine r_iast (pc' := 155) (N := 320) hc hK hx 2 (caN (bpN τ i j) (bcN τ i j)) (by decide) rfl (caN_lt hn5 hE10 hb5 hb6 hb4) d_M_write_154 rfl ?_
              refine a_iload (pc' := 157) hc d_M_write_155 rfl rfl ?_
              refine a_ifn_ne (pc' := 160) (tgt := 162) hc d_M_write_157 rfl rfl (by omega) (fun h157 => absurd h157 (by omega)) (fun h157 => ?_)
              refine a_iconst (pc' := 161) (v := nI 1) hc d_M_write_160 rfl (by decide) ?_
              exact a_iret hc hr hk d_M_write_161 (m_i (by first | rfl | (simp only [wrP, twB, wr1, wr2, h4, h16, ci, cj, h20, h63, h105, h135]; done) | (simp [wrP, twB, wr1, wr2, h4, h16, ci, cj, h20, h63, h105, h135]; done)) (by first | rfl | (simp only [wrP, twB, wr1, wr2, h4, h16, ci, cj, h20, h63, h105, h135]; done) | (simp [wrP, twB, wr1, wr2, h4, h16, ci, cj, h20, h63, h105, h135]; done)))
            · skip
              refine a_bipush (pc' := 140) (v := -7) hc d_M_write_138 rfl (by decide) ?_
              exact a_iret hc hr hk d_M_write_140 (m_i (by first | rfl | (simp only [wrP, twB, wr1, wr2, h4, h16, ci, cj, h20, h63, h105, h135]; done) | (simp [wrP, twB, wr1, wr2, h4, h16, ci, cj, h20, h63, h105, h135]; done)) (by first | rfl | (simp only [wrP, twB, wr1, wr2, h4, h16, ci, cj, h20, h63, h105, h135]; done) | (simp [wrP, twB, wr1, wr2, h4, h16, ci, cj, h20, h63, h105, h135]; done)))
        · skip
          obtain ⟨hm1, hm2, hm3, hm4⟩ := hw.2.2.2 (mvB_n (by omega) h63)
          have hm5 := gN_lt τ 15 62
          refine a_aload_n (pc' := 67) hc d_M_write_66 rfl rfl rfl ?_
          refine a_bipush (pc' := 69) (v := nI 15) hc d_M_write_67 rfl (by decide) ?_
          refine a_bipush (pc' := 71) (v := nI 61) hc d_M_write_69 rfl (by decide) ?_
          refine r_calli (pc' := 74) hc hK hO hA hx [.int (nI 15), .int (nI 61)] [] (ct_M_get hx (τ := τ) (mp := 15) (i := 61) (by omega) (by omega)) ml_M_49 hd_M_get ⟨by decide, by decide⟩ rfl rfl (Nat.le_of_ble_eq_true rfl) d_M_write_71 rfl ?_
          refine a_iload (pc' := 76) hc d_M_write_74 rfl rfl ?_
          refine a_icmp_ne (pc' := 79) (tgt := 92) hc d_M_write_76 rfl rfl (fun h76 => ?_) (fun h76 => ?_)
          · skip
            refine a_iconst (pc' := 93) (v := nI 0) hc d_M_write_92 rfl (by decide) ?_
            refine a_istore (pc' := 95) hc d_M_write_93 rfl (by decide) ?_
            refine a_aload_n (pc' := 96) hc d_M_write_95 rfl rfl rfl ?_
            refine r_get (pc' := 99) hc hK hx 2 (v := .ref (ax 1)) (by decide) rfl fl_M_7 d_M_write_96 rfl ?_
            refine a_iload (pc' := 101) hc d_M_write_99 rfl rfl ?_
            refine a_bipush (pc' := 103) (v := nI 16) hc d_M_write_101 rfl (by decide) ?_
            refine a_ndiv (pc' := 104) hc d_M_write_103 rfl (by omega) (by omega) (by omega) ?_
            refine r_zald (pc' := 105) hc hK hx ((bpN τ i j) / 16) (by omega) d_M_write_104 rfl ?_
            refine a_ifb_eq (pc' := 108) (tgt := 128) hc d_M_write_105 rfl rfl (fun h105 => ?_) (fun h105 => ?_)
            · skip
              refine a_bipush (pc' := 130) (v := -6) hc d_M_write_128 rfl (by decide) ?_
              exact a_iret hc hr hk d_M_write_130 (m_i (by first | rfl | (simp only [wrP, twB, wr1, wr2, h4, h16, ci, cj, h20, h63, h76, h105]; done) | (simp [wrP, twB, wr1, wr2, h4, h16, ci, cj, h20, h63, h76, h105]; done)) (by first | rfl | (simp only [wrP, twB, wr1, wr2, h4, h16, ci, cj, h20, h63, h76, h105]; done) | (simp [wrP, twB, wr1, wr2, h4, h16, ci, cj, h20, h63, h76, h105]; done)))
            · skip
              refine a_iload (pc' := 110) hc d_M_write_108 rfl rfl ?_
              refine a_ifn_eq (pc' := 113) (tgt := 131) hc d_M_write_110 rfl rfl (by omega) (fun h110 => ?_) (fun h110 => absurd h110 (by omega))
              refine a_aload_n (pc' := 132) hc d_M_write_131 rfl rfl rfl ?_
              refine r_calli (pc' := 135) hc hK hO hA hx [] [] (ct_M_stops hx (τ := τ) ) ml_M_86 hd_M_stops ⟨by decide, by decide⟩ rfl rfl (Nat.le_of_ble_eq_true rfl) d_M_write_132 rfl ?_
              refine a_ifb_eq (pc' := 138) (tgt := 141) hc d_M_write_135 rfl rfl (fun h135 => ?_) (fun h135 => ?_)
              · skip
                refine a_aload_n (pc' := 142) hc d_M_write_141 rfl rfl rfl ?_
                refine r_get (pc' := 145) hc hK hx 3 (v := .ref (ax 2)) (by decide) rfl fl_M_13 d_M_write_142 rfl ?_
                refine a_aload_n (pc' := 146) hc d_M_write_145 rfl rfl rfl ?_
                refine a_iload (pc' := 148) hc d_M_write_146 rfl rfl ?_
                refine a_iload (pc' := 150) hc d_M_write_148 rfl rfl ?_
                refine r_calli (pc' := 153) hc hK hO hA hx [.int (nI (bpN τ i j)), .int (nI (bcN τ i j))] [.ref (ax 2)] (ct_M_cellAt hx (τ := stT τ) (id := bpN τ i j) (c := bcN τ i j) hid) ml_M_136 hd_M_cellAt ⟨by decide, by decide⟩ rfl rfl (Nat.le_of_ble_eq_true rfl) d_M_write_150 rfl ?_
                refine a_iload_n (pc' := 154) hc d_M_write_153 rfl rfl rfl ?_
                refine r_iast (pc' := 155) (N := 320) hc hK hx 2 (caN (bpN τ i j) (bcN τ i j)) (by decide) rfl (caN_lt hn5 hE10 hb5 hb6 hb4) d_M_write_154 rfl ?_
                refine a_iload (pc' := 157) hc d_M_write_155 rfl rfl ?_
                refine a_ifn_ne (pc' := 160) (tgt := 162) hc d_M_write_157 rfl rfl (by omega) (fun h157 => absurd h157 (by omega)) (fun h157 => ?_)
                refine a_iconst (pc' := 161) (v := nI 1) hc d_M_write_160 rfl (by decide) ?_
                exact a_iret hc hr hk d_M_write_161 (m_i (by first | rfl | (simp only [wrP, twB, wr1, wr2, h4, h16, ci, cj, h20, h63, h76, h105, h135]; done) | (simp [wrP, twB, wr1, wr2, h4, h16, ci, cj, h20, h63, h76, h105, h135]; done)) (by first | rfl | (simp only [wrP, twB, wr1, wr2, h4, h16, ci, cj, h20, h63, h76, h105, h135]; done) | (simp [wrP, twB, wr1, wr2, h4, h16, ci, cj, h20, h63, h76, h105, h135]; done)))
              · skip
                refine a_bipush (pc' := 140) (v := -7) hc d_M_write_138 rfl (by decide) ?_
                exact a_iret hc hr hk d_M_write_140 (m_i (by first | rfl | (simp only [wrP, twB, wr1, wr2, h4, h16, ci, cj, h20, h63, h76, h105, h135]; done) | (simp [wrP, twB, wr1, wr2, h4, h16, ci, cj, h20, h63, h76, h105, h135]; done)) (by first | rfl | (simp only [wrP, twB, wr1, wr2, h4, h16, ci, cj, h20, h63, h76, h105, h135]; done) | (simp [wrP, twB, wr1, wr2, h4, h16, ci, cj, h20, h63, h76, h105, h135]; done)))
          · skip
            refine a_iload (pc' := 81) hc d_M_write_79 rfl rfl ?_
            refine a_aload_n (pc' := 82) hc d_M_write_81 rfl rfl rfl ?_
            refine r_get (pc' := 85) hc hK hx 12 (v := .int (τ 0 6)) (by decide) rfl fl_M_126 d_M_write_82 rfl ?_
            refine a_icmp_ge (pc' := 88) (tgt := 92) hc d_M_write_85 rfl rfl (fun h85 => ?_) (fun h85 => ?_)
            · skip
              refine a_iconst (pc' := 93) (v := nI 0) hc d_M_write_92 rfl (by decide) ?_
              refine a_istore (pc' := 95) hc d_M_write_93 rfl (by decide) ?_
              refine a_aload_n (pc' := 96) hc d_M_write_95 rfl rfl rfl ?_
              refine r_get (pc' := 99) hc hK hx 2 (v := .ref (ax 1)) (by decide) rfl fl_M_7 d_M_write_96 rfl ?_
              refine a_iload (pc' := 101) hc d_M_write_99 rfl rfl ?_
              refine a_bipush (pc' := 103) (v := nI 16) hc d_M_write_101 rfl (by decide) ?_
              refine a_ndiv (pc' := 104) hc d_M_write_103 rfl (by omega) (by omega) (by omega) ?_
              refine r_zald (pc' := 105) hc hK hx ((bpN τ i j) / 16) (by omega) d_M_write_104 rfl ?_
              refine a_ifb_eq (pc' := 108) (tgt := 128) hc d_M_write_105 rfl rfl (fun h105 => ?_) (fun h105 => ?_)
              · skip
                refine a_bipush (pc' := 130) (v := -6) hc d_M_write_128 rfl (by decide) ?_
                exact a_iret hc hr hk d_M_write_130 (m_i (by first | rfl | (simp only [wrP, twB, wr1, wr2, h4, h16, ci, cj, h20, h63, h76, h85, h105]; done) | (simp [wrP, twB, wr1, wr2, h4, h16, ci, cj, h20, h63, h76, h85, h105]; done)) (by first | rfl | (simp only [wrP, twB, wr1, wr2, h4, h16, ci, cj, h20, h63, h76, h85, h105]; done) | (simp [wrP, twB, wr1, wr2, h4, h16, ci, cj, h20, h63, h76, h85, h105]; done)))
              · skip
                refine a_iload (pc' := 110) hc d_M_write_108 rfl rfl ?_
                refine a_ifn_eq (pc' := 113) (tgt := 131) hc d_M_write_110 rfl rfl (by omega) (fun h110 => ?_) (fun h110 => absurd h110 (by omega))
                refine a_aload_n (pc' := 132) hc d_M_write_131 rfl rfl rfl ?_
                refine r_calli (pc' := 135) hc hK hO hA hx [] [] (ct_M_stops hx (τ := τ) ) ml_M_86 hd_M_stops ⟨by decide, by decide⟩ rfl rfl (Nat.le_of_ble_eq_true rfl) d_M_write_132 rfl ?_
                refine a_ifb_eq (pc' := 138) (tgt := 141) hc d_M_write_135 rfl rfl (fun h135 => ?_) (fun h135 => ?_)
                · skip
                  refine a_aload_n (pc' := 142) hc d_M_write_141 rfl rfl rfl ?_
                  refine r_get (pc' := 145) hc hK hx 3 (v := .ref (ax 2)) (by decide) rfl fl_M_13 d_M_write_142 rfl ?_
                  refine a_aload_n (pc' := 146) hc d_M_write_145 rfl rfl rfl ?_
                  refine a_iload (pc' := 148) hc d_M_write_146 rfl rfl ?_
                  refine a_iload (pc' := 150) hc d_M_write_148 rfl rfl ?_
                  refine r_calli (pc' := 153) hc hK hO hA hx [.int (nI (bpN τ i j)), .int (nI (bcN τ i j))] [.ref (ax 2)] (ct_M_cellAt hx (τ := stT τ) (id := bpN τ i j) (c := bcN τ i j) hid) ml_M_136 hd_M_cellAt ⟨by decide, by decide⟩ rfl rfl (Nat.le_of_ble_eq_true rfl) d_M_write_150 rfl ?_
                  refine a_iload_n (pc' := 154) hc d_M_write_153 rfl rfl rfl ?_
                  refine r_iast (pc' := 155) (N := 320) hc hK hx 2 (caN (bpN τ i j) (bcN τ i j)) (by decide) rfl (caN_lt hn5 hE10 hb5 hb6 hb4) d_M_write_154 rfl ?_
                  refine a_iload (pc' := 157) hc d_M_write_155 rfl rfl ?_
                  refine a_ifn_ne (pc' := 160) (tgt := 162) hc d_M_write_157 rfl rfl (by omega) (fun h157 => absurd h157 (by omega)) (fun h157 => ?_)
                  refine a_iconst (pc' := 161) (v := nI 1) hc d_M_write_160 rfl (by decide) ?_
                  exact a_iret hc hr hk d_M_write_161 (m_i (by first | rfl | (simp only [wrP, twB, wr1, wr2, h4, h16, ci, cj, h20, h63, h76, h85, h105, h135]; done) | (simp [wrP, twB, wr1, wr2, h4, h16, ci, cj, h20, h63, h76, h85, h105, h135]; done)) (by first | rfl | (simp only [wrP, twB, wr1, wr2, h4, h16, ci, cj, h20, h63, h76, h85, h105, h135]; done) | (simp [wrP, twB, wr1, wr2, h4, h16, ci, cj, h20, h63, h76, h85, h105, h135]; done)))
                · skip
                  refine a_bipush (pc' := 140) (v := -7) hc d_M_write_138 rfl (by decide) ?_
                  exact a_iret hc hr hk d_M_write_140 (m_i (by first | rfl | (simp only [wrP, twB, wr1, wr2, h4, h16, ci, cj, h20, h63, h76, h85, h105, h135]; done) | (simp [wrP, twB, wr1, wr2, h4, h16, ci, cj, h20, h63, h76, h85, h105, h135]; done)) (by first | rfl | (simp only [wrP, twB, wr1, wr2, h4, h16, ci, cj, h20, h63, h76, h85, h105, h135]; done) | (simp [wrP, twB, wr1, wr2, h4, h16, ci, cj, h20, h63, h76, h85, h105, h135]; done)))
            · skip
              refine a_iconst (pc' := 89) (v := nI 1) hc d_M_write_88 rfl (by decide) ?_
              refine a_goto (tgt := 93) hc d_M_write_89 rfl ?_
              refine a_istore (pc' := 95) hc d_M_write_93 rfl (by decide) ?_
              refine a_aload_n (pc' := 96) hc d_M_write_95 rfl rfl rfl ?_
              refine r_get (pc' := 99) hc hK hx 2 (v := .ref (ax 1)) (by decide) rfl fl_M_7 d_M_write_96 rfl ?_
              refine a_iload (pc' := 101) hc d_M_write_99 rfl rfl ?_
              refine a_bipush (pc' := 103) (v := nI 16) hc d_M_write_101 rfl (by decide) ?_
              refine a_ndiv (pc' := 104) hc d_M_write_103 rfl (by omega) (by omega) (by omega) ?_
              refine r_zald (pc' := 105) hc hK hx ((bpN τ i j) / 16) (by omega) d_M_write_104 rfl ?_
              refine a_ifb_eq (pc' := 108) (tgt := 128) hc d_M_write_105 rfl rfl (fun h105 => ?_) (fun h105 => ?_)
              · skip
                refine a_bipush (pc' := 130) (v := -6) hc d_M_write_128 rfl (by decide) ?_
                exact a_iret hc hr hk d_M_write_130 (m_i (by first | rfl | (simp only [wrP, twB, wr1, wr2, h4, h16, ci, cj, h20, h63, h76, h85, h105]; done) | (simp [wrP, twB, wr1, wr2, h4, h16, ci, cj, h20, h63, h76, h85, h105]; done)) (by first | rfl | (simp only [wrP, twB, wr1, wr2, h4, h16, ci, cj, h20, h63, h76, h85, h105]; done) | (simp [wrP, twB, wr1, wr2, h4, h16, ci, cj, h20, h63, h76, h85, h105]; done)))
              · skip
                refine a_iload (pc' := 110) hc d_M_write_108 rfl rfl ?_
                refine a_ifn_eq (pc' := 113) (tgt := 131) hc d_M_write_110 rfl rfl (by omega) (fun h110 => absurd h110 (by omega)) (fun h110 => ?_)
                refine a_aload_n (pc' := 114) hc d_M_write_113 rfl rfl rfl ?_
                refine r_get (pc' := 117) hc hK hx 2 (v := .ref (ax 1)) (by decide) rfl fl_M_7 d_M_write_114 rfl ?_
                refine a_aload_n (pc' := 118) hc d_M_write_117 rfl rfl rfl ?_
                refine r_calli (pc' := 121) hc hK hO hA hx [] [.ref (ax 1)] (ct_M_target hx (τ := τ) ) ml_M_133 hd_M_target ⟨by decide, by decide⟩ rfl rfl (Nat.le_of_ble_eq_true rfl) d_M_write_118 rfl ?_
                refine AW.topi (y := nI (gN τ 15 62)) (hw.1.n (by omega) (by omega)) ?_
                refine a_bipush (pc' := 123) (v := nI 16) hc d_M_write_121 rfl (by decide) ?_
                refine a_ndiv (pc' := 124) hc d_M_write_123 rfl (by omega) (by omega) (by omega) ?_
                refine r_zald (pc' := 125) hc hK hx ((gN τ 15 62) / 16) (by omega) d_M_write_124 rfl ?_
                refine a_ifb_ne (pc' := 128) (tgt := 131) hc d_M_write_125 rfl rfl (fun h125 => ?_) (fun h125 => ?_)
                · skip
                  refine a_aload_n (pc' := 132) hc d_M_write_131 rfl rfl rfl ?_
                  refine r_calli (pc' := 135) hc hK hO hA hx [] [] (ct_M_stops hx (τ := τ) ) ml_M_86 hd_M_stops ⟨by decide, by decide⟩ rfl rfl (Nat.le_of_ble_eq_true rfl) d_M_write_132 rfl ?_
                  refine a_ifb_eq (pc' := 138) (tgt := 141) hc d_M_write_135 rfl rfl (fun h135 => ?_) (fun h135 => ?_)
                  · skip
                    refine a_aload_n (pc' := 142) hc d_M_write_141 rfl rfl rfl ?_
                    refine r_get (pc' := 145) hc hK hx 3 (v := .ref (ax 2)) (by decide) rfl fl_M_13 d_M_write_142 rfl ?_
                    refine a_aload_n (pc' := 146) hc d_M_write_145 rfl rfl rfl ?_
                    refine a_iload (pc' := 148) hc d_M_write_146 rfl rfl ?_
                    refine a_iload (pc' := 150) hc d_M_write_148 rfl rfl ?_
                    refine r_calli (pc' := 153) hc hK hO hA hx [.int (nI (bpN τ i j)), .int (nI (bcN τ i j))] [.ref (ax 2)] (ct_M_cellAt hx (τ := stT τ) (id := bpN τ i j) (c := bcN τ i j) hid) ml_M_136 hd_M_cellAt ⟨by decide, by decide⟩ rfl rfl (Nat.le_of_ble_eq_true rfl) d_M_write_150 rfl ?_
                    refine a_iload_n (pc' := 154) hc d_M_write_153 rfl rfl rfl ?_
                    refine r_iast (pc' := 155) (N := 320) hc hK hx 2 (caN (bpN τ i j) (bcN τ i j)) (by decide) rfl (caN_lt hn5 hE10 hb5 hb6 hb4) d_M_write_154 rfl ?_
                    refine a_iload (pc' := 157) hc d_M_write_155 rfl rfl ?_
                    refine a_ifn_ne (pc' := 160) (tgt := 162) hc d_M_write_157 rfl rfl (by omega) (fun h157 => ?_) (fun h157 => absurd h157 (by omega))
                    refine a_aload_n (pc' := 163) hc d_M_write_162 rfl rfl rfl ?_
                    refine r_calli (pc' := 166) hc hK hO hA hx [] [] (ct_M_stops hx (τ := ts (stT τ) 2 (caN (bpN τ i j) (bcN τ i j)) x) ) ml_M_86 hd_M_stops ⟨by decide, by decide⟩ rfl rfl (Nat.le_of_ble_eq_true rfl) d_M_write_163 rfl ?_
                    refine a_ifb_eq (pc' := 169) (tgt := 172) hc d_M_write_166 rfl rfl (fun h166 => ?_) (fun h166 => ?_)
                    · skip
                      refine a_aload_n (pc' := 173) hc d_M_write_172 rfl rfl rfl ?_
                      refine r_get (pc' := 176) hc hK hx 3 (v := .ref (ax 2)) (by decide) rfl fl_M_13 d_M_write_173 rfl ?_
                      refine a_aload_n (pc' := 177) hc d_M_write_176 rfl rfl rfl ?_
                      refine a_aload_n (pc' := 178) hc d_M_write_177 rfl rfl rfl ?_
                      refine r_calli (pc' := 181) hc hK hO hA hx [] [.ref (ax 0), .ref (ax 2)] (ct_M_target hx (τ := stT (ts (stT τ) 2 (caN (bpN τ i j) (bcN τ i j)) x)) ) ml_M_133 hd_M_target ⟨by decide, by decide⟩ rfl rfl (Nat.le_of_ble_eq_true rfl) d_M_write_178 rfl ?_
                      refine AW.topi (y := nI (gN τ 15 62)) (by show stT (ts (stT τ) 2 _ _) 3 (64 * 15 + 62) = _; rw [stT_row (by decide), ts_ne (by decide), stT_row (by decide)]; exact hw.1.n (by omega) (by omega)) ?_
                      refine a_iload (pc' := 183) hc d_M_write_181 rfl rfl ?_
                      refine r_calli (pc' := 186) hc hK hO hA hx [.int (nI (gN τ 15 62)), .int (nI (bcN τ i j))] [.ref (ax 2)] (ct_M_cellAt hx (τ := stT (ts (stT τ) 2 (caN (bpN τ i j) (bcN τ i j)) x)) (id := gN τ 15 62) (c := bcN τ i j) hm5) ml_M_136 hd_M_cellAt ⟨by decide, by decide⟩ rfl rfl (Nat.le_of_ble_eq_true rfl) d_M_write_183 rfl ?_
                      refine a_iload_n (pc' := 187) hc d_M_write_186 rfl rfl rfl ?_
                      refine r_iast (pc' := 188) (N := 320) hc hK hx 2 (caN (gN τ 15 62) (bcN τ i j)) (by decide) rfl (caN_lt hn5 hE10 hm3 hm4 hb4) d_M_write_187 rfl ?_
                      refine a_iconst (pc' := 189) (v := nI 2) hc d_M_write_188 rfl (by decide) ?_
                      exact a_iret hc hr hk d_M_write_189 (m_i (by first | rfl | (simp only [wrP, twB, wr1, wr2, h4, h16, ci, cj, h20, h63, h76, h85, h105, h125, h135, h166]; done) | (simp [wrP, twB, wr1, wr2, h4, h16, ci, cj, h20, h63, h76, h85, h105, h125, h135, h166]; done)) (by first | rfl | (simp only [wrP, twB, wr1, wr2, h4, h16, ci, cj, h20, h63, h76, h85, h105, h125, h135, h166]; done) | (simp [wrP, twB, wr1, wr2, h4, h16, ci, cj, h20, h63, h76, h85, h105, h125, h135, h166]; done)))
                    · skip
                      refine a_bipush (pc' := 171) (v := -7) hc d_M_write_169 rfl (by decide) ?_
                      exact a_iret hc hr hk d_M_write_171 (m_i (by first | rfl | (simp only [wrP, twB, wr1, wr2, h4, h16, ci, cj, h20, h63, h76, h85, h105, h125, h135, h166]; done) | (simp [wrP, twB, wr1, wr2, h4, h16, ci, cj, h20, h63, h76, h85, h105, h125, h135, h166]; done)) (by first | rfl | (simp only [wrP, twB, wr1, wr2, h4, h16, ci, cj, h20, h63, h76, h85, h105, h125, h135, h166]; done) | (simp [wrP, twB, wr1, wr2, h4, h16, ci, cj, h20, h63, h76, h85, h105, h125, h135, h166]; done)))
                  · skip
                    refine a_bipush (pc' := 140) (v := -7) hc d_M_write_138 rfl (by decide) ?_
                    exact a_iret hc hr hk d_M_write_140 (m_i (by first | rfl | (simp only [wrP, twB, wr1, wr2, h4, h16, ci, cj, h20, h63, h76, h85, h105, h125, h135]; done) | (simp [wrP, twB, wr1, wr2, h4, h16, ci, cj, h20, h63, h76, h85, h105, h125, h135]; done)) (by first | rfl | (simp only [wrP, twB, wr1, wr2, h4, h16, ci, cj, h20, h63, h76, h85, h105, h125, h135]; done) | (simp [wrP, twB, wr1, wr2, h4, h16, ci, cj, h20, h63, h76, h85, h105, h125, h135]; done)))
                · skip
                  refine a_bipush (pc' := 130) (v := -6) hc d_M_write_128 rfl (by decide) ?_
                  exact a_iret hc hr hk d_M_write_130 (m_i (by first | rfl | (simp only [wrP, twB, wr1, wr2, h4, h16, ci, cj, h20, h63, h76, h85, h105, h125]; done) | (simp [wrP, twB, wr1, wr2, h4, h16, ci, cj, h20, h63, h76, h85, h105, h125]; done)) (by first | rfl | (simp only [wrP, twB, wr1, wr2, h4, h16, ci, cj, h20, h63, h76, h85, h105, h125]; done) | (simp [wrP, twB, wr1, wr2, h4, h16, ci, cj, h20, h63, h76, h85, h105, h125]; done)))
      · skip
        refine a_iconst (pc' := 24) (v := -1) hc d_M_write_23 rfl (by decide) ?_
        exact a_iret hc hr hk d_M_write_24 (m_i (by first | rfl | (simp only [wrP, twB, wr1, wr2, h4, h16, ci, cj, h20]; done) | (simp [wrP, twB, wr1, wr2, h4, h16, ci, cj, h20]; done)) (by first | rfl | (simp only [wrP, twB, wr1, wr2, h4, h16, ci, cj, h20]; done) | (simp [wrP, twB, wr1, wr2, h4, h16, ci, cj, h20]; done)))
  · skip
    refine a_bipush (pc' := 9) (v := -2) hc d_M_write_7 rfl (by decide) ?_
    exact a_iret hc hr hk d_M_write_9 (m_i (by first | rfl | (simp only [wrP, twB, wr1, wr2, h4]; done) | (simp [wrP, twB, wr1, wr2, h4]; done)) (by first | rfl | (simp only [wrP, twB, wr1, wr2, h4]; done) | (simp [wrP, twB, wr1, wr2, h4]; done)))
theorem ct_M_activate (hx : MX ax rl ca tys n E) {τ : TS} (h6 : ∀ d, d < 5 → ¬ τ 6 d < 0) : MC l y_M_activate c_M_activate 5 (some .int) 3 D tys A ax rl ca n E τ [] (some (.int ((acP τ n).1))) ((acP τ n).2) := by
  obtain ⟨hn2, hn5⟩ := hx.2.2.2.1
  obtain ⟨hE2, hE10⟩ := hx.2.2.2.2
  refine MC.of rfl (Nat.le_of_ble_eq_true rfl) (cat_all rfl) ?_
  intro pp ee ss mm aa bb me cd hc hK hO hr hk hA
  refine AW.to (lv' := [some (.ref (ax 0)), none, none, none, none]) rfl rfl rfl ?_
  refine a_aload_n (pc' := 1) hc d_M_activate_0 rfl rfl rfl ?_
  refine r_get (pc' := 4) hc hK hx 11 (v := .int (bI (tb (τ 0 5)))) (by decide) rfl fl_M_45 d_M_activate_1 rfl ?_
  refine a_ifb_eq (pc' := 7) (tgt := 10) hc d_M_activate_4 rfl rfl (fun h4 => ?_) (fun h4 => ?_)
  · skip
    refine a_aload_n (pc' := 11) hc d_M_activate_10 rfl rfl rfl ?_
    refine r_calli (pc' := 14) hc hK hO hA hx [] [] (ct_M_choose hx (τ := τ) ) ml_M_155 hd_M_choose ⟨by decide, by decide⟩ rfl rfl (Nat.le_of_ble_eq_true rfl) d_M_activate_11 rfl ?_
    refine a_istore_n (pc' := 15) hc d_M_activate_14 rfl rfl (by decide) ?_
    refine a_iload_n (pc' := 16) hc d_M_activate_15 rfl rfl rfl ?_
    refine a_if_ge (pc' := 19) (tgt := 22) hc d_M_activate_16 rfl rfl (fun h16 => ?_) (fun h16 => ?_)
    · skip
      obtain ⟨b, e16⟩ := chI_some (Int32.not_lt.mpr h16)
      have hb16 := chL_lt τ n (3 * n) b e16
      refine AW.lvi 1 (y := nI b) rfl (by rw [e16]; rfl) ?_
      refine a_aload_n (pc' := 23) hc d_M_activate_22 rfl rfl rfl ?_
      refine r_get (pc' := 26) hc hK hx 5 (v := .ref (ax 4)) (by decide) rfl fl_M_20 d_M_activate_23 rfl ?_
      refine a_iload_n (pc' := 27) hc d_M_activate_26 rfl rfl rfl ?_
      refine r_iald (pc' := 28) (N := 15) hc hK hx 4 b (by decide) rfl (by omega) d_M_activate_27 rfl ?_
      refine a_istore_n (pc' := 29) hc d_M_activate_28 rfl rfl (by decide) ?_
      refine a_aload_n (pc' := 30) hc d_M_activate_29 rfl rfl rfl ?_
      refine r_get (pc' := 33) hc hK hx 6 (v := .ref (ax 5)) (by decide) rfl fl_M_23 d_M_activate_30 rfl ?_
      refine a_iload_n (pc' := 34) hc d_M_activate_33 rfl rfl rfl ?_
      refine r_iald (pc' := 35) (N := 15) hc hK hx 5 b (by decide) rfl (by omega) d_M_activate_34 rfl ?_
      refine a_istore_n (pc' := 36) hc d_M_activate_35 rfl rfl (by decide) ?_
      refine a_aload_n (pc' := 37) hc d_M_activate_36 rfl rfl rfl ?_
      refine a_iload_n (pc' := 38) hc d_M_activate_37 rfl rfl rfl ?_
      refine a_bipush (pc' := 40) (v := nI 16) hc d_M_activate_38 rfl (by decide) ?_
      refine r_callv (pc' := 43) hc hK hO hA hx [.int (nI b), .int (nI 16)] [] (ct_M_copyMap hx (τ := τ) (a := b) (b := 16) (by omega) (by omega)) ml_M_90 hd_M_copyMap ⟨by decide, by decide⟩ rfl rfl (Nat.le_of_ble_eq_true rfl) d_M_activate_40 rfl ?_
      refine a_iconst (pc' := 44) (v := nI 0) hc d_M_activate_43 rfl (by decide) ?_
      refine a_istore (pc' := 46) hc d_M_activate_44 rfl (by decide) ?_
      refine AW.tw (τ1 := acT (cpT τ b 16 64) (τ 4 b) (τ 5 b) 0) (by first | rfl | (simp only [acP, h4, h16, e16]; done) | (simp [acP, h4, h16, e16]; done)) ?_
      refine AW.loopG n 0 (fun d46 => tw ax rl ca n E (acT (cpT τ b 16 64) (τ 4 b) (τ 5 b) d46)) (fun d46 => [some (.ref (ax 0)), some (.int (nI b)), some (.int (τ 4 b)), some (.int (τ 5 b)), some (.int (nI d46))]) (fun d46 => ∀ j, j < d46 → qA (cpT τ b 16 64) (τ 4 b) (τ 5 b) j = false) (Nat.zero_le _) (fun j hj => absurd hj (by omega)) rfl rfl (fun d46 hle46 hG46 ih46 => ?_)
      try dsimp only at hG46 ih46 ⊢
      refine a_iload (pc' := 48) hc d_M_activate_46 rfl rfl ?_
      refine a_aload_n (pc' := 49) hc d_M_activate_48 rfl rfl rfl ?_
      refine r_get (pc' := 52) hc hK hx 0 (v := .int (nI n)) (by decide) rfl fl_M_29 d_M_activate_49 rfl ?_
      refine a_ncmp_ge (pc' := 55) (tgt := 85) hc d_M_activate_52 rfl rfl (by omega) (by omega) (fun h52 => ?_) (fun h52 => ?_)
      · skip
        have hex52 : d46 = n := by omega
        subst d46
        refine a_aload_n (pc' := 86) hc d_M_activate_85 rfl rfl rfl ?_
        refine a_bipush (pc' := 88) (v := nI 16) hc d_M_activate_86 rfl (by decide) ?_
        refine a_bipush (pc' := 90) (v := nI 15) hc d_M_activate_88 rfl (by decide) ?_
        refine r_callv (pc' := 93) hc hK hO hA hx [.int (nI 16), .int (nI 15)] [] (ct_M_copyMap hx (τ := acT (cpT τ b 16 64) (τ 4 b) (τ 5 b) n) (a := 16) (b := 15) (by omega) (by omega)) ml_M_90 hd_M_copyMap ⟨by decide, by decide⟩ rfl rfl (Nat.le_of_ble_eq_true rfl) d_M_activate_90 rfl ?_
        refine a_aload_n (pc' := 94) hc d_M_activate_93 rfl rfl rfl ?_
        refine a_iload_n (pc' := 95) hc d_M_activate_94 rfl rfl rfl ?_
        refine r_put (pc' := 98) hc hK hx 8 (by decide) fl_M_36 d_M_activate_95 rfl ?_
        refine a_aload_n (pc' := 99) hc d_M_activate_98 rfl rfl rfl ?_
        refine a_iload_n (pc' := 100) hc d_M_activate_99 rfl rfl rfl ?_
        refine r_put (pc' := 103) hc hK hx 9 (by decide) fl_M_39 d_M_activate_100 rfl ?_
        refine a_aload_n (pc' := 104) hc d_M_activate_103 rfl rfl rfl ?_
        refine a_iconst (pc' := 105) (v := nI 0) hc d_M_activate_104 rfl (by decide) ?_
        refine r_put (pc' := 108) hc hK hx 12 (by decide) fl_M_126 d_M_activate_105 rfl ?_
        refine a_aload_n (pc' := 109) hc d_M_activate_108 rfl rfl rfl ?_
        refine a_iconst (pc' := 110) (v := nI 1) hc d_M_activate_109 rfl (by decide) ?_
        refine r_putz (pc' := 113) hc hK hx 11 (Or.inr rfl) (by decide) fl_M_45 d_M_activate_110 rfl ?_
        refine a_iload_n (pc' := 114) hc d_M_activate_113 rfl rfl rfl ?_
        exact a_iret hc hr hk d_M_activate_114 (m_i (by simp [acP, h4, e16, ac_done hG46]) (by simp [acP, h4, e16, ac_done hG46, ac1]))
      · skip
        refine a_aload_n (pc' := 56) hc d_M_activate_55 rfl rfl rfl ?_
        refine r_get (pc' := 59) hc hK hx 2 (v := .ref (ax 1)) (by decide) rfl fl_M_7 d_M_activate_56 rfl ?_
        refine a_iload (pc' := 61) hc d_M_activate_59 rfl rfl ?_
        refine r_zald (pc' := 62) hc hK hx d46 (by omega) d_M_activate_61 rfl ?_
        refine a_ifb_eq (pc' := 65) (tgt := 79) hc d_M_activate_62 rfl rfl (fun h62 => ?_) (fun h62 => ?_)
        · skip
          refine a_ninc (pc' := 82) hc d_M_activate_79 rfl rfl (by decide) ?_
          refine a_goto (tgt := 46) hc d_M_activate_82 rfl ?_
          refine AW.tw (τ1 := acT (cpT τ b 16 64) (τ 4 b) (τ 5 b) (d46 + 1)) (by first | (simp [acT, h62]; done)) ?_
          exact AW.to rfl rfl rfl (ih46 (by omega) (allf_s hG46 (by first | (simp [qA, h62]; done) | (simp [qA, h62, h73]; done))))
        · skip
          refine a_aload_n (pc' := 66) hc d_M_activate_65 rfl rfl rfl ?_
          refine a_iload (pc' := 68) hc d_M_activate_66 rfl rfl ?_
          refine a_iload_n (pc' := 69) hc d_M_activate_68 rfl rfl rfl ?_
          refine a_iload_n (pc' := 70) hc d_M_activate_69 rfl rfl rfl ?_
          refine r_calli (pc' := 73) hc hK hO hA hx [.int (nI d46), .int (τ 4 b), .int (τ 5 b)] [] (ct_M_settle hx (τ := acT (cpT τ b 16 64) (τ 4 b) (τ 5 b) d46) (d := d46) (num := τ 4 b) (mark := τ 5 b) (by omega) (by rw [acT_6 _ _ _ d46 d46 (Nat.le_refl _), cpT_row (by decide)]; exact h6 _ (by omega))) ml_M_158 hd_M_settle ⟨by decide, by decide⟩ rfl rfl (Nat.le_of_ble_eq_true rfl) d_M_activate_70 rfl ?_
          refine a_ifb_ne (pc' := 76) (tgt := 79) hc d_M_activate_73 rfl rfl (fun h73 => ?_) (fun h73 => ?_)
          · skip
            refine a_ninc (pc' := 82) hc d_M_activate_79 rfl rfl (by decide) ?_
            refine a_goto (tgt := 46) hc d_M_activate_82 rfl ?_
            refine AW.tw (τ1 := acT (cpT τ b 16 64) (τ 4 b) (τ 5 b) (d46 + 1)) (by first | (simp [acT, h62]; done)) ?_
            exact AW.to rfl rfl rfl (ih46 (by omega) (allf_s hG46 (by first | (simp [qA, h62]; done) | (simp [qA, h62, h73]; done))))
          · skip
            refine a_bipush (pc' := 78) (v := -7) hc d_M_activate_76 rfl (by decide) ?_
            exact a_iret hc hr hk d_M_activate_78 (m_i (by simp [acP, h4, e16, ac_stop hG46 (by omega) h62 h73]) (by simp [acP, h4, e16, ac_stop hG46 (by omega) h62 h73]))
    · skip
      have e16 := chI_none (fun b hb => by have := chL_lt τ n (3 * n) b hb; omega) (Int32.not_le.mp h16)
      refine a_bipush (pc' := 21) (v := -3) hc d_M_activate_19 rfl (by decide) ?_
      exact a_iret hc hr hk d_M_activate_21 (m_i (by first | rfl | (simp only [acP, h4, h16, e16]; done) | (simp [acP, h4, h16, e16]; done)) (by first | rfl | (simp only [acP, h4, h16, e16]; done) | (simp [acP, h4, h16, e16]; done)))
  · skip
    refine a_bipush (pc' := 9) (v := -9) hc d_M_activate_7 rfl (by decide) ?_
    exact a_iret hc hr hk d_M_activate_9 (m_i (by first | rfl | (simp only [acP, h4]; done) | (simp [acP, h4]; done)) (by first | rfl | (simp only [acP, h4]; done) | (simp [acP, h4]; done)))
