variable {l : Launch} {D : va_G} {tys : List (ClassId × FieldType)} {A : Nat → Prop} {ax rl : Nat → Nat} {ca : Nat → ClassId} {n E : Nat}
theorem ct_M_addRow (hx : MX ax rl ca tys n E) {τ : TS} {v : Nat} (hv : v < 4) (hok : ArOk τ n E v) : MC l y_M_addRow c_M_addRow 7 (some .boolean) 6 D tys A ax rl ca n E τ [.int (nI v)] (some (.int (bI ((arP τ n E v).1)))) ((arP τ n E v).2) := by
  obtain ⟨hn2, hn5⟩ := hx.2.2.2.1
  obtain ⟨hE2, hE10⟩ := hx.2.2.2.2
  obtain ⟨hw, he11, hW⟩ := hok
  have hw4 := (hw.2 v hv).1
  refine MC.of rfl (Nat.le_of_ble_eq_true rfl) (cat_all rfl) ?_
  intro pp ee ss mm aa bb me cd hc hK hO hr hk hA
  refine AW.to (lv' := [some (.ref (ax 0)), some (.int (nI v)), none, none, none, none, none]) rfl rfl rfl ?_
  refine a_aload_n (pc' := 1) hc d_M_addRow_0 rfl rfl rfl ?_
  refine a_bipush (pc' := 3) (v := nI 16) hc d_M_addRow_1 rfl (by decide) ?_
  refine a_iload_n (pc' := 4) hc d_M_addRow_3 rfl rfl rfl ?_
  refine r_calli (pc' := 7) hc hK hO hA hx [.int (nI 16), .int (nI v)] [] (ct_M_width hx (τ := τ) (mp := 16) (v := v) (by omega) (by omega)) ml_M_56 hd_M_width ⟨by decide, by decide⟩ rfl rfl (Nat.le_of_ble_eq_true rfl) d_M_addRow_4 rfl ?_
  refine AW.topi (y := nI (gN τ 16 (15 * v))) (hw.n (by omega) (by omega)) ?_
  refine a_istore_n (pc' := 8) hc d_M_addRow_7 rfl rfl (by decide) ?_
  refine a_iconst (pc' := 9) (v := nI 0) hc d_M_addRow_8 rfl (by decide) ?_
  refine a_istore_n (pc' := 10) hc d_M_addRow_9 rfl rfl (by decide) ?_
  refine a_iconst (pc' := 11) (v := nI 0) hc d_M_addRow_10 rfl (by decide) ?_
  refine a_istore (pc' := 13) hc d_M_addRow_11 rfl (by decide) ?_
  refine a_iconst (pc' := 14) (v := nI 0) hc d_M_addRow_13 rfl (by decide) ?_
  refine a_istore (pc' := 16) hc d_M_addRow_14 rfl (by decide) ?_
  refine AW.lvi 3 (y := nI (cntL 0 (fitB τ E))) rfl (rfl) ?_
  refine AW.lvi 4 (y := nI (mkL (arQ τ n E v) 0)) rfl (rfl) ?_
  refine AW.loop n 0 (fun d16 => tw ax rl ca n E τ) (fun d16 => [some (.ref (ax 0)), some (.int (nI v)), some (.int (nI (gN τ 16 (15 * v)))), some (.int (nI (cntL d16 (fitB τ E)))), some (.int (nI (mkL (arQ τ n E v) d16))), some (.int (nI d16)), none]) (Nat.zero_le _) rfl rfl (fun d16 hle16 ih16 => ?_)
  try dsimp only at ih16 ⊢
  refine a_iload (pc' := 18) hc d_M_addRow_16 rfl rfl ?_
  refine a_aload_n (pc' := 19) hc d_M_addRow_18 rfl rfl rfl ?_
  refine r_get (pc' := 22) hc hK hx 0 (v := .int (nI n)) (by decide) rfl fl_M_29 d_M_addRow_19 rfl ?_
  refine a_ncmp_ge (pc' := 25) (tgt := 100) hc d_M_addRow_22 rfl rfl (by omega) (by omega) (fun h22 => ?_) (fun h22 => ?_)
  · skip
    have hex22 : d16 = n := by omega
    subst d16
    have hcn := cntL_le n (fitB τ E)
    refine a_iload_n (pc' := 101) hc d_M_addRow_100 rfl rfl rfl ?_
    refine a_iload_n (pc' := 102) hc d_M_addRow_101 rfl rfl rfl ?_
    refine a_ncmp_ge (pc' := 105) (tgt := 107) hc d_M_addRow_102 rfl rfl (by omega) (by omega) (fun h102 => ?_) (fun h102 => ?_)
    · skip
      refine a_bipush (pc' := 109) (v := nI 15) hc d_M_addRow_107 rfl (by decide) ?_
      refine a_iload_n (pc' := 110) hc d_M_addRow_109 rfl rfl rfl ?_
      refine a_nmul (pc' := 111) hc d_M_addRow_110 rfl ?_
      refine a_iconst (pc' := 112) (v := nI 3) hc d_M_addRow_111 rfl (by decide) ?_
      refine a_nadd (pc' := 113) hc d_M_addRow_112 rfl ?_
      refine a_aload_n (pc' := 114) hc d_M_addRow_113 rfl rfl rfl ?_
      refine a_bipush (pc' := 116) (v := nI 16) hc d_M_addRow_114 rfl (by decide) ?_
      refine a_iload_n (pc' := 117) hc d_M_addRow_116 rfl rfl rfl ?_
      refine r_calli (pc' := 120) hc hK hO hA hx [.int (nI 16), .int (nI v)] [.int (nI ((15 * v) + 3))] (ct_M_extentsOf hx (τ := τ) (mp := 16) (v := v) (by omega) (by omega) hw) ml_M_59 hd_M_extentsOf ⟨by decide, by decide⟩ rfl rfl (Nat.le_of_ble_eq_true rfl) d_M_addRow_117 rfl ?_
      refine a_nadd (pc' := 121) hc d_M_addRow_120 rfl ?_
      refine a_istore (pc' := 123) hc d_M_addRow_121 rfl (by decide) ?_
      refine a_iconst (pc' := 124) (v := nI 0) hc d_M_addRow_123 rfl (by decide) ?_
      refine a_istore (pc' := 126) hc d_M_addRow_124 rfl (by decide) ?_
      refine AW.lvi 5 (y := nI (15 * v + 3 + exN τ 16 v + cntL 0 (arQ τ n E v))) rfl (rfl) ?_
      refine AW.tw (τ1 := arW τ n E v 0) (rfl) ?_
      refine AW.loop n 0 (fun d126 => tw ax rl ca n E (arW τ n E v d126)) (fun d126 => [some (.ref (ax 0)), some (.int (nI v)), some (.int (nI (gN τ 16 (15 * v)))), some (.int (nI (cntL n (fitB τ E)))), some (.int (nI (mkL (arQ τ n E v) n))), some (.int (nI (15 * v + 3 + exN τ 16 v + cntL d126 (arQ τ n E v)))), some (.int (nI d126))]) (Nat.zero_le _) rfl rfl (fun d126 hle126 ih126 => ?_)
      try dsimp only at ih126 ⊢
      refine a_iload (pc' := 128) hc d_M_addRow_126 rfl rfl ?_
      refine a_aload_n (pc' := 129) hc d_M_addRow_128 rfl rfl rfl ?_
      refine r_get (pc' := 132) hc hK hx 0 (v := .int (nI n)) (by decide) rfl fl_M_29 d_M_addRow_129 rfl ?_
      refine a_ncmp_ge (pc' := 135) (tgt := 171) hc d_M_addRow_132 rfl rfl (by omega) (by omega) (fun h132 => ?_) (fun h132 => ?_)
      · skip
        have hex132 : d126 = n := by omega
        subst d126
        refine a_aload_n (pc' := 172) hc d_M_addRow_171 rfl rfl rfl ?_
        refine a_bipush (pc' := 174) (v := nI 16) hc d_M_addRow_172 rfl (by decide) ?_
        refine a_bipush (pc' := 176) (v := nI 15) hc d_M_addRow_174 rfl (by decide) ?_
        refine a_iload_n (pc' := 177) hc d_M_addRow_176 rfl rfl rfl ?_
        refine a_nmul (pc' := 178) hc d_M_addRow_177 rfl ?_
        refine a_iconst (pc' := 179) (v := nI 2) hc d_M_addRow_178 rfl (by decide) ?_
        refine a_nadd (pc' := 180) hc d_M_addRow_179 rfl ?_
        refine a_aload_n (pc' := 181) hc d_M_addRow_180 rfl rfl rfl ?_
        refine a_bipush (pc' := 183) (v := nI 16) hc d_M_addRow_181 rfl (by decide) ?_
        refine a_iload_n (pc' := 184) hc d_M_addRow_183 rfl rfl rfl ?_
        refine r_calli (pc' := 187) hc hK hO hA hx [.int (nI 16), .int (nI v)] [.int (nI ((15 * v) + 2)), .int (nI 16), .ref (ax 0)] (ct_M_rowsOf hx (τ := arW τ n E v n) (mp := 16) (v := v) (by omega) (by omega)) ml_M_53 hd_M_rowsOf ⟨by decide, by decide⟩ rfl rfl (Nat.le_of_ble_eq_true rfl) d_M_addRow_184 rfl ?_
        refine a_iconst (pc' := 188) (v := nI 1) hc d_M_addRow_187 rfl (by decide) ?_
        refine a_iadd (pc' := 189) hc d_M_addRow_188 rfl ?_
        refine r_callv (pc' := 192) hc hK hO hA hx [.int (nI 16), .int (nI ((15 * v) + 2)), .int ((gt (arW τ n E v n) 16 (15 * v + 2)) + (nI 1))] [] (ct_M_set hx (τ := arW τ n E v n) (mp := 16) (i := (15 * v) + 2) (v := (gt (arW τ n E v n) 16 (15 * v + 2)) + (nI 1)) (by omega) (by omega)) ml_M_76 hd_M_set ⟨by decide, by decide⟩ rfl rfl (Nat.le_of_ble_eq_true rfl) d_M_addRow_189 rfl ?_
        refine a_iconst (pc' := 193) (v := nI 1) hc d_M_addRow_192 rfl (by decide) ?_
        exact a_zret hc hr hk (Or.inr rfl) d_M_addRow_193 (m_i (by simp [arP, Nat.not_lt.mpr h102, bI]) (by simp [arP, Nat.not_lt.mpr h102]))
      · skip
        refine a_iload (pc' := 137) hc d_M_addRow_135 rfl rfl ?_
        refine a_iload (pc' := 139) hc d_M_addRow_137 rfl rfl ?_
        refine a_ishr (pc' := 140) hc d_M_addRow_139 rfl ?_
        refine a_iconst (pc' := 141) (v := nI 1) hc d_M_addRow_140 rfl (by decide) ?_
        refine a_iand (pc' := 142) hc d_M_addRow_141 rfl ?_
        refine AW.topi (y := nI (mkL (arQ τ n E v) n / 2 ^ d126 % 2)) (sh_r _ (mkL_32 _ (by omega)) _ (by omega)) ?_
        refine a_iconst (pc' := 143) (v := nI 1) hc d_M_addRow_142 rfl (by decide) ?_
        refine a_ncmp_ne (pc' := 146) (tgt := 165) hc d_M_addRow_143 rfl rfl (by omega) (by omega) (fun h143 => ?_) (fun h143 => ?_)
        · skip
          have hq143 := mk_f (q := (arQ τ n E v)) (by omega) h143
          refine a_ninc (pc' := 168) hc d_M_addRow_165 rfl rfl (by decide) ?_
          refine a_goto (tgt := 126) hc d_M_addRow_168 rfl ?_
          refine AW.lvi 5 (y := nI (15 * v + 3 + exN τ 16 v + cntL (d126 + 1) (arQ τ n E v))) rfl (by rw [cntL_s, hq143]; rfl) ?_
          refine AW.tw (τ1 := arW τ n E v (d126 + 1)) (by simp [arT, hq143]) ?_
          exact AW.to rfl rfl rfl (ih126 (by omega))
        · skip
          have hq143 := mk_t (q := (arQ τ n E v)) (by omega) h143
          have hc143 := cntL_le d126 (arQ τ n E v)
          refine a_aload_n (pc' := 147) hc d_M_addRow_146 rfl rfl rfl ?_
          refine a_bipush (pc' := 149) (v := nI 16) hc d_M_addRow_147 rfl (by decide) ?_
          refine a_iload (pc' := 151) hc d_M_addRow_149 rfl rfl ?_
          refine a_aload_n (pc' := 152) hc d_M_addRow_151 rfl rfl rfl ?_
          refine a_bipush (pc' := 154) (v := nI 16) hc d_M_addRow_152 rfl (by decide) ?_
          refine a_iload (pc' := 156) hc d_M_addRow_154 rfl rfl ?_
          refine r_calli (pc' := 159) hc hK hO hA hx [.int (nI 16), .int (nI d126)] [.int (nI (15 * v + 3 + exN τ 16 v + cntL d126 (arQ τ n E v))), .int (nI 16), .ref (ax 0)] (ct_M_leastFree hx (τ := arW τ n E v d126) (mp := 16) (d := d126) (by omega) (by omega) (hW _ (by omega))) ml_M_73 hd_M_leastFree ⟨by decide, by decide⟩ rfl rfl (Nat.le_of_ble_eq_true rfl) d_M_addRow_156 rfl ?_
          refine r_callv (pc' := 162) hc hK hO hA hx [.int (nI 16), .int (nI (15 * v + 3 + exN τ 16 v + cntL d126 (arQ τ n E v))), .int (lfI (arW τ n E v d126) E 16 d126)] [] (ct_M_set hx (τ := arW τ n E v d126) (mp := 16) (i := 15 * v + 3 + exN τ 16 v + cntL d126 (arQ τ n E v)) (v := lfI (arW τ n E v d126) E 16 d126) (by omega) (by omega)) ml_M_76 hd_M_set ⟨by decide, by decide⟩ rfl rfl (Nat.le_of_ble_eq_true rfl) d_M_addRow_159 rfl ?_
          refine a_ninc (pc' := 165) hc d_M_addRow_162 rfl rfl (by decide) ?_
          refine a_ninc (pc' := 168) hc d_M_addRow_165 rfl rfl (by decide) ?_
          refine a_goto (tgt := 126) hc d_M_addRow_168 rfl ?_
          refine AW.lvi 5 (y := nI (15 * v + 3 + exN τ 16 v + cntL (d126 + 1) (arQ τ n E v))) rfl (by rw [cntL_s, hq143]; rfl) ?_
          refine AW.tw (τ1 := arW τ n E v (d126 + 1)) (by simp [arT, hq143]) ?_
          exact AW.to rfl rfl rfl (ih126 (by omega))
    · skip
      refine a_iconst (pc' := 106) (v := nI 0) hc d_M_addRow_105 rfl (by decide) ?_
      exact a_zret hc hr hk (Or.inl rfl) d_M_addRow_106 (m_i (by simp [arP, h102, bI]) (by simp [arP, h102]))
  · skip
    refine a_aload_n (pc' := 26) hc d_M_addRow_25 rfl rfl rfl ?_
    refine r_get (pc' := 29) hc hK hx 2 (v := .ref (ax 1)) (by decide) rfl fl_M_7 d_M_addRow_26 rfl ?_
    refine a_iload (pc' := 31) hc d_M_addRow_29 rfl rfl ?_
    refine r_zald (pc' := 32) hc hK hx d16 (by omega) d_M_addRow_31 rfl ?_
    refine a_ifb_eq (pc' := 35) (tgt := 50) hc d_M_addRow_32 rfl rfl (fun h32 => ?_) (fun h32 => ?_)
    · skip
      refine a_iconst (pc' := 51) (v := nI 0) hc d_M_addRow_50 rfl (by decide) ?_
      refine a_istore (pc' := 53) hc d_M_addRow_51 rfl (by decide) ?_
      refine a_iload_n (pc' := 54) hc d_M_addRow_53 rfl rfl rfl ?_
      refine a_iload (pc' := 56) hc d_M_addRow_54 rfl rfl ?_
      refine a_ifn_eq (pc' := 59) (tgt := 63) hc d_M_addRow_56 rfl rfl (by omega) (fun h56 => ?_) (fun h56 => absurd h56 (by omega))
      refine a_iconst (pc' := 64) (v := nI 0) hc d_M_addRow_63 rfl (by decide) ?_
      refine a_nadd (pc' := 65) hc d_M_addRow_64 rfl ?_
      refine a_istore_n (pc' := 66) hc d_M_addRow_65 rfl rfl (by decide) ?_
      refine a_iload (pc' := 68) hc d_M_addRow_66 rfl rfl ?_
      refine a_iload (pc' := 70) hc d_M_addRow_68 rfl rfl ?_
      refine a_ifn_eq (pc' := 73) (tgt := 90) hc d_M_addRow_70 rfl rfl (by omega) (fun h70 => ?_) (fun h70 => absurd h70 (by omega))
      refine a_iconst (pc' := 91) (v := nI 0) hc d_M_addRow_90 rfl (by decide) ?_
      refine a_ior (pc' := 92) hc d_M_addRow_91 rfl ?_
      refine AW.topi (y := nI (mkL (arQ τ n E v) d16)) (or_0' _ (mkL_32 _ (by omega))) ?_
      refine a_istore (pc' := 94) hc d_M_addRow_92 rfl (by decide) ?_
      refine a_ninc (pc' := 97) hc d_M_addRow_94 rfl rfl (by decide) ?_
      refine a_goto (tgt := 16) hc d_M_addRow_97 rfl ?_
      refine AW.mask [true, true, true, true, true, true, false] ?_
      refine AW.lvi 3 (y := nI (cntL (d16 + 1) (fitB τ E))) rfl (by first | rfl | (simp [cntL_s, fitB, bI, h22, h32]; done)) ?_
      refine AW.lvi 4 (y := nI (mkL (arQ τ n E v) (d16 + 1))) rfl (by first | rfl | (simp [mkL, chB, fitB, bI, h22, h32]; done)) ?_
      exact AW.to rfl rfl rfl (ih16 (by omega))
    · skip
      refine a_aload_n (pc' := 36) hc d_M_addRow_35 rfl rfl rfl ?_
      refine a_bipush (pc' := 38) (v := nI 16) hc d_M_addRow_36 rfl (by decide) ?_
      refine a_iload (pc' := 40) hc d_M_addRow_38 rfl rfl ?_
      refine r_calli (pc' := 43) hc hK hO hA hx [.int (nI 16), .int (nI d16)] [] (ct_M_freeOf hx (τ := τ) (mp := 16) (d := d16) (by omega) (by omega) hw) ml_M_66 hd_M_freeOf ⟨by decide, by decide⟩ rfl rfl (Nat.le_of_ble_eq_true rfl) d_M_addRow_40 rfl ?_
      have hf40 := frN_le τ E 16 d16
      refine a_ifn_le (pc' := 46) (tgt := 50) hc d_M_addRow_43 rfl rfl (by omega) (fun h43 => ?_) (fun h43 => ?_)
      · skip
        refine a_iconst (pc' := 51) (v := nI 0) hc d_M_addRow_50 rfl (by decide) ?_
        refine a_istore (pc' := 53) hc d_M_addRow_51 rfl (by decide) ?_
        refine a_iload_n (pc' := 54) hc d_M_addRow_53 rfl rfl rfl ?_
        refine a_iload (pc' := 56) hc d_M_addRow_54 rfl rfl ?_
        refine a_ifn_eq (pc' := 59) (tgt := 63) hc d_M_addRow_56 rfl rfl (by omega) (fun h56 => ?_) (fun h56 => absurd h56 (by omega))
        refine a_iconst (pc' := 64) (v := nI 0) hc d_M_addRow_63 rfl (by decide) ?_
        refine a_nadd (pc' := 65) hc d_M_addRow_64 rfl ?_
        refine a_istore_n (pc' := 66) hc d_M_addRow_65 rfl rfl (by decide) ?_
        refine a_iload (pc' := 68) hc d_M_addRow_66 rfl rfl ?_
        refine a_iload (pc' := 70) hc d_M_addRow_68 rfl rfl ?_
        refine a_ifn_eq (pc' := 73) (tgt := 90) hc d_M_addRow_70 rfl rfl (by omega) (fun h70 => ?_) (fun h70 => absurd h70 (by omega))
        refine a_iconst (pc' := 91) (v := nI 0) hc d_M_addRow_90 rfl (by decide) ?_
        refine a_ior (pc' := 92) hc d_M_addRow_91 rfl ?_
        refine AW.topi (y := nI (mkL (arQ τ n E v) d16)) (or_0' _ (mkL_32 _ (by omega))) ?_
        refine a_istore (pc' := 94) hc d_M_addRow_92 rfl (by decide) ?_
        refine a_ninc (pc' := 97) hc d_M_addRow_94 rfl rfl (by decide) ?_
        refine a_goto (tgt := 16) hc d_M_addRow_97 rfl ?_
        refine AW.mask [true, true, true, true, true, true, false] ?_
        refine AW.lvi 3 (y := nI (cntL (d16 + 1) (fitB τ E))) rfl (by first | rfl | (simp [cntL_s, fitB, bI, h22, h32, h43]; done)) ?_
        refine AW.lvi 4 (y := nI (mkL (arQ τ n E v) (d16 + 1))) rfl (by first | rfl | (simp [mkL, chB, fitB, bI, h22, h32, h43]; done)) ?_
        exact AW.to rfl rfl rfl (ih16 (by omega))
      · skip
        refine a_iconst (pc' := 47) (v := nI 1) hc d_M_addRow_46 rfl (by decide) ?_
        refine a_goto (tgt := 51) hc d_M_addRow_47 rfl ?_
        refine a_istore (pc' := 53) hc d_M_addRow_51 rfl (by decide) ?_
        refine a_iload_n (pc' := 54) hc d_M_addRow_53 rfl rfl rfl ?_
        refine a_iload (pc' := 56) hc d_M_addRow_54 rfl rfl ?_
        refine a_ifn_eq (pc' := 59) (tgt := 63) hc d_M_addRow_56 rfl rfl (by omega) (fun h56 => absurd h56 (by omega)) (fun h56 => ?_)
        refine a_iconst (pc' := 60) (v := nI 1) hc d_M_addRow_59 rfl (by decide) ?_
        refine a_goto (tgt := 64) hc d_M_addRow_60 rfl ?_
        refine a_nadd (pc' := 65) hc d_M_addRow_64 rfl ?_
        refine a_istore_n (pc' := 66) hc d_M_addRow_65 rfl rfl (by decide) ?_
        refine a_iload (pc' := 68) hc d_M_addRow_66 rfl rfl ?_
        refine a_iload (pc' := 70) hc d_M_addRow_68 rfl rfl ?_
        refine a_ifn_eq (pc' := 73) (tgt := 90) hc d_M_addRow_70 rfl rfl (by omega) (fun h70 => absurd h70 (by omega)) (fun h70 => ?_)
        refine a_aload_n (pc' := 74) hc d_M_addRow_73 rfl rfl rfl ?_
        refine a_iload (pc' := 76) hc d_M_addRow_74 rfl rfl ?_
        refine r_calli (pc' := 79) hc hK hO hA hx [.int (nI d16)] [.int (nI (mkL (arQ τ n E v) d16))] (ct_M_before hx (τ := τ) (d := d16) (by omega) hw) ml_M_69 hd_M_before ⟨by decide, by decide⟩ rfl rfl (Nat.le_of_ble_eq_true rfl) d_M_addRow_76 rfl ?_
        have hb76 := cntL_le n (qB τ E d16)
        refine a_iload_n (pc' := 80) hc d_M_addRow_79 rfl rfl rfl ?_
        refine a_ncmp_ge (pc' := 83) (tgt := 90) hc d_M_addRow_80 rfl rfl (by omega) (by omega) (fun h80 => ?_) (fun h80 => ?_)
        · skip
          have n80 := Nat.not_lt.mpr h80
          refine a_iconst (pc' := 91) (v := nI 0) hc d_M_addRow_90 rfl (by decide) ?_
          refine a_ior (pc' := 92) hc d_M_addRow_91 rfl ?_
          refine AW.topi (y := nI (mkL (arQ τ n E v) d16)) (or_0' _ (mkL_32 _ (by omega))) ?_
          refine a_istore (pc' := 94) hc d_M_addRow_92 rfl (by decide) ?_
          refine a_ninc (pc' := 97) hc d_M_addRow_94 rfl rfl (by decide) ?_
          refine a_goto (tgt := 16) hc d_M_addRow_97 rfl ?_
          refine AW.mask [true, true, true, true, true, true, false] ?_
          refine AW.lvi 3 (y := nI (cntL (d16 + 1) (fitB τ E))) rfl (by first | rfl | (simp [cntL_s, fitB, bI, h22, h32, h43, h80, n80]; done)) ?_
          refine AW.lvi 4 (y := nI (mkL (arQ τ n E v) (d16 + 1))) rfl (by first | rfl | (simp [mkL, chB, fitB, bI, h22, h32, h43, h80, n80]; done)) ?_
          exact AW.to rfl rfl rfl (ih16 (by omega))
        · skip
          refine a_iconst (pc' := 84) (v := nI 1) hc d_M_addRow_83 rfl (by decide) ?_
          refine a_iload (pc' := 86) hc d_M_addRow_84 rfl rfl ?_
          refine a_ishl (pc' := 87) hc d_M_addRow_86 rfl ?_
          refine AW.topi (y := nI (2 ^ d16)) (sh_1 _ (by omega)) ?_
          refine a_goto (tgt := 91) hc d_M_addRow_87 rfl ?_
          refine a_ior (pc' := 92) hc d_M_addRow_91 rfl ?_
          refine AW.topi (y := nI (mkL (arQ τ n E v) d16 + 2 ^ d16)) (or_2' _ (by omega) _ (mkL_lt _ _)) ?_
          refine a_istore (pc' := 94) hc d_M_addRow_92 rfl (by decide) ?_
          refine a_ninc (pc' := 97) hc d_M_addRow_94 rfl rfl (by decide) ?_
          refine a_goto (tgt := 16) hc d_M_addRow_97 rfl ?_
          refine AW.mask [true, true, true, true, true, true, false] ?_
          refine AW.lvi 3 (y := nI (cntL (d16 + 1) (fitB τ E))) rfl (by first | rfl | (simp [cntL_s, fitB, bI, h22, h32, h43, h80]; done)) ?_
          refine AW.lvi 4 (y := nI (mkL (arQ τ n E v) (d16 + 1))) rfl (by first | rfl | (simp [mkL, chB, fitB, bI, h22, h32, h43, h80]; done)) ?_
          exact AW.to rfl rfl rfl (ih16 (by omega))
theorem ct_M_extend (hx : MX ax rl ca tys n E) {τ : TS} {v : Int32} {r : Int32} (hw : WFx n E τ 15) (h6 : ∀ j i d : Nat, v = nI j → d < 5 → ¬ adT (cpT τ 15 16 64) n E j i 6 d < 0) (hok : ∀ j r' i : Nat, v = nI j → r = nI r' → j < 4 → ¬ gt τ 15 (15 * j + 2) ≤ 0 → r' + gN τ 15 (15 * j + 2) ≤ 12 / gN τ 15 (15 * j) → i < r' → (∀ k, k < i → qR (cpT τ 15 16 64) n E j k = false) → ArOk (adT (cpT τ 15 16 64) n E j i) n E j) : MC l y_M_extend c_M_extend 4 (some .int) 7 D tys A ax rl ca n E τ [.int v, .int r] (some (.int ((xtP τ n E v r).1))) ((xtP τ n E v r).2) := by
  obtain ⟨hn2, hn5⟩ := hx.2.2.2.1
  obtain ⟨hE2, hE10⟩ := hx.2.2.2.2
  refine MC.of rfl (Nat.le_of_ble_eq_true rfl) (cat_all rfl) ?_
  intro pp ee ss mm aa bb me cd hc hK hO hr hk hA
  refine AW.to (lv' := [some (.ref (ax 0)), some (.int v), some (.int r), none]) rfl rfl rfl ?_
  refine a_aload_n (pc' := 1) hc d_M_extend_0 rfl rfl rfl ?_
  refine r_get (pc' := 4) hc hK hx 11 (v := .int (bI (tb (τ 0 5)))) (by decide) rfl fl_M_45 d_M_extend_1 rfl ?_
  refine a_ifb_ne (pc' := 7) (tgt := 10) hc d_M_extend_4 rfl rfl (fun h4 => ?_) (fun h4 => ?_)
  · skip
    refine a_aload_n (pc' := 11) hc d_M_extend_10 rfl rfl rfl ?_
    refine a_iload_n (pc' := 12) hc d_M_extend_11 rfl rfl rfl ?_
    refine r_calli (pc' := 15) hc hK hO hA hx [.int v] [] (ct_M_isVolume hx (τ := τ) (v := v) ) ml_M_117 hd_M_isVolume ⟨by decide, by decide⟩ rfl rfl (Nat.le_of_ble_eq_true rfl) d_M_extend_12 rfl ?_
    refine a_ifb_eq (pc' := 18) (tgt := 45) hc d_M_extend_15 rfl rfl (fun h15 => ?_) (fun h15 => ?_)
    · skip
      refine a_iconst (pc' := 46) (v := -1) hc d_M_extend_45 rfl (by decide) ?_
      exact a_iret hc hr hk d_M_extend_46 (m_i (by first | rfl | (simp only [xtP, h4, h15]; done) | (simp [xtP, h4, h15]; done)) (by first | rfl | (simp only [xtP, h4, h15]; done) | (simp [xtP, h4, h15]; done)))
    · skip
      obtain ⟨j, hj, ej, cj, pj⟩ := volB_t h15
      subst ej
      obtain ⟨hs1, hs2⟩ := hw.2.1 j hj pj
      have hs3 := (hw.1.2 j hj)
      have hs4 : gN τ 15 (15 * j + 2) ≤ 12 / gN τ 15 (15 * j) := (Nat.le_div_iff_mul_le (by omega)).mpr (by rw [Nat.mul_comm]; exact hs3.2)
      have hs5 : 12 / gN τ 15 (15 * j) ≤ 12 := Nat.div_le_self _ _
      refine a_iload_n (pc' := 19) hc d_M_extend_18 rfl rfl rfl ?_
      refine a_iconst (pc' := 20) (v := nI 1) hc d_M_extend_19 rfl (by decide) ?_
      refine a_icmp_lt (pc' := 23) (tgt := 45) hc d_M_extend_20 rfl rfl (fun h20 => ?_) (fun h20 => ?_)
      · skip
        refine a_iconst (pc' := 46) (v := -1) hc d_M_extend_45 rfl (by decide) ?_
        exact a_iret hc hr hk d_M_extend_46 (m_i (by first | rfl | (simp only [xtP, h4, h15, cj, h20]; done) | (simp [xtP, h4, h15, cj, h20]; done)) (by first | rfl | (simp only [xtP, h4, h15, cj, h20]; done) | (simp [xtP, h4, h15, cj, h20]; done)))
      · skip
        refine a_iload_n (pc' := 24) hc d_M_extend_23 rfl rfl rfl ?_
        refine a_bipush (pc' := 26) (v := nI 12) hc d_M_extend_24 rfl (by decide) ?_
        refine a_aload_n (pc' := 27) hc d_M_extend_26 rfl rfl rfl ?_
        refine a_bipush (pc' := 29) (v := nI 15) hc d_M_extend_27 rfl (by decide) ?_
        refine a_iload_n (pc' := 30) hc d_M_extend_29 rfl rfl rfl ?_
        refine r_calli (pc' := 33) hc hK hO hA hx [.int (nI 15), .int (nI j)] [.int (nI 12), .int r] (ct_M_width hx (τ := τ) (mp := 15) (v := j) (by omega) (by omega)) ml_M_56 hd_M_width ⟨by decide, by decide⟩ rfl rfl (Nat.le_of_ble_eq_true rfl) d_M_extend_30 rfl ?_
        refine AW.topi (y := nI (gN τ 15 (15 * j))) (hw.1.n (by omega) (by omega)) ?_
        refine a_ndiv (pc' := 34) hc d_M_extend_33 rfl (by omega) (by omega) (by omega) ?_
        refine a_aload_n (pc' := 35) hc d_M_extend_34 rfl rfl rfl ?_
        refine a_bipush (pc' := 37) (v := nI 15) hc d_M_extend_35 rfl (by decide) ?_
        refine a_iload_n (pc' := 38) hc d_M_extend_37 rfl rfl rfl ?_
        refine r_calli (pc' := 41) hc hK hO hA hx [.int (nI 15), .int (nI j)] [.int (nI (12 / (gN τ 15 (15 * j)))), .int r] (ct_M_rowsOf hx (τ := τ) (mp := 15) (v := j) (by omega) (by omega)) ml_M_53 hd_M_rowsOf ⟨by decide, by decide⟩ rfl rfl (Nat.le_of_ble_eq_true rfl) d_M_extend_38 rfl ?_
        refine AW.topi (y := nI (gN τ 15 (15 * j + 2))) (hw.1.n (by omega) (by omega)) ?_
        refine a_nsub (pc' := 42) hc d_M_extend_41 rfl (hs4) ?_
        refine a_icmp_le (pc' := 45) (tgt := 47) hc d_M_extend_42 rfl rfl (fun h42 => ?_) (fun h42 => ?_)
        · skip
          obtain ⟨r', hr1, hr2, er, cr⟩ := rg_of (by omega) h20 h42
          subst er
          refine a_aload_n (pc' := 48) hc d_M_extend_47 rfl rfl rfl ?_
          refine r_calli (pc' := 51) hc hK hO hA hx [] [] (ct_M_few hx (τ := τ) ) ml_M_108 hd_M_few ⟨by decide, by decide⟩ rfl rfl (Nat.le_of_ble_eq_true rfl) d_M_extend_48 rfl ?_
          refine a_ifb_eq (pc' := 54) (tgt := 57) hc d_M_extend_51 rfl rfl (fun h51 => ?_) (fun h51 => ?_)
          · skip
            refine a_aload_n (pc' := 58) hc d_M_extend_57 rfl rfl rfl ?_
            refine a_iload_n (pc' := 59) hc d_M_extend_58 rfl rfl rfl ?_
            refine r_calli (pc' := 62) hc hK hO hA hx [.int (nI j)] [] (ct_M_isMoved hx (τ := τ) (v := nI j) ) ml_M_120 hd_M_isMoved ⟨by decide, by decide⟩ rfl rfl (Nat.le_of_ble_eq_true rfl) d_M_extend_59 rfl ?_
            refine a_ifb_eq (pc' := 65) (tgt := 68) hc d_M_extend_62 rfl rfl (fun h62 => ?_) (fun h62 => ?_)
            · skip
              refine a_aload_n (pc' := 69) hc d_M_extend_68 rfl rfl rfl ?_
              refine a_bipush (pc' := 71) (v := nI 15) hc d_M_extend_69 rfl (by decide) ?_
              refine a_bipush (pc' := 73) (v := nI 16) hc d_M_extend_71 rfl (by decide) ?_
              refine r_callv (pc' := 76) hc hK hO hA hx [.int (nI 15), .int (nI 16)] [] (ct_M_copyMap hx (τ := τ) (a := 15) (b := 16) (by omega) (by omega)) ml_M_90 hd_M_copyMap ⟨by decide, by decide⟩ rfl rfl (Nat.le_of_ble_eq_true rfl) d_M_extend_73 rfl ?_
              refine a_iconst (pc' := 77) (v := nI 0) hc d_M_extend_76 rfl (by decide) ?_
              refine a_istore_n (pc' := 78) hc d_M_extend_77 rfl rfl (by decide) ?_
              refine AW.tw (τ1 := adT (cpT τ 15 16 64) n E j 0) (rfl) ?_
              refine AW.loopG r' 0 (fun i78 => tw ax rl ca n E (adT (cpT τ 15 16 64) n E j i78)) (fun i78 => [some (.ref (ax 0)), some (.int (nI j)), some (.int (nI r')), some (.int (nI i78))]) (fun i78 => ∀ k, k < i78 → qR (cpT τ 15 16 64) n E j k = false) (Nat.zero_le _) (fun k hk' => absurd hk' (by omega)) rfl rfl (fun i78 hle78 hG78 ih78 => ?_)
              try dsimp only at hG78 ih78 ⊢
              refine a_iload_n (pc' := 79) hc d_M_extend_78 rfl rfl rfl ?_
              refine a_iload_n (pc' := 80) hc d_M_extend_79 rfl rfl rfl ?_
              refine a_ncmp_ge (pc' := 83) (tgt := 100) hc d_M_extend_80 rfl rfl (by omega) (by omega) (fun h80 => ?_) (fun h80 => ?_)
              · skip
                have hex80 : i78 = r' := by omega
                subst i78
                refine a_aload_n (pc' := 101) hc d_M_extend_100 rfl rfl rfl ?_
                refine r_calli (pc' := 104) hc hK hO hA hx [] [] (ct_M_commit hx (τ := adT (cpT τ 15 16 64) n E j r') (fun d hd => h6 j _ d rfl hd)) ml_M_114 hd_M_commit ⟨by decide, by decide⟩ rfl rfl (Nat.le_of_ble_eq_true rfl) d_M_extend_101 rfl ?_
                refine a_ifb_eq (pc' := 107) (tgt := 117) hc d_M_extend_104 rfl rfl (fun h104 => ?_) (fun h104 => ?_)
                · skip
                  refine a_bipush (pc' := 119) (v := -7) hc d_M_extend_117 rfl (by decide) ?_
                  exact a_iret hc hr hk d_M_extend_119 (m_i (by simp [xtP, h4, h15, cj, h20, h42, cr, h51, h62, h80, h104, ad_done hG78]) (by simp [xtP, h4, h15, cj, h20, h42, cr, h51, h62, h80, h104, ad_done hG78]))
                · skip
                  refine a_aload_n (pc' := 108) hc d_M_extend_107 rfl rfl rfl ?_
                  refine a_bipush (pc' := 110) (v := nI 15) hc d_M_extend_108 rfl (by decide) ?_
                  refine a_iload_n (pc' := 111) hc d_M_extend_110 rfl rfl rfl ?_
                  refine r_calli (pc' := 114) hc hK hO hA hx [.int (nI 15), .int (nI j)] [] (ct_M_rowsOf hx (τ := cmW (adT (cpT τ 15 16 64) n E j r') n) (mp := 15) (v := j) (by omega) (by omega)) ml_M_53 hd_M_rowsOf ⟨by decide, by decide⟩ rfl rfl (Nat.le_of_ble_eq_true rfl) d_M_extend_111 rfl ?_
                  refine a_goto (tgt := 119) hc d_M_extend_114 rfl ?_
                  exact a_iret hc hr hk d_M_extend_119 (m_i (by simp [xtP, h4, h15, cj, h20, h42, cr, h51, h62, h80, h104, ad_done hG78]) (by simp [xtP, h4, h15, cj, h20, h42, cr, h51, h62, h80, h104, ad_done hG78]))
              · skip
                refine a_aload_n (pc' := 84) hc d_M_extend_83 rfl rfl rfl ?_
                refine a_iload_n (pc' := 85) hc d_M_extend_84 rfl rfl rfl ?_
                refine r_calli (pc' := 88) hc hK hO hA hx [.int (nI j)] [] (ct_M_addRow hx (τ := adT (cpT τ 15 16 64) n E j i78) (v := j) (by omega) (hok j r' i78 rfl rfl hj pj (by omega) (by omega) hG78)) ml_M_111 hd_M_addRow ⟨by decide, by decide⟩ rfl rfl (Nat.le_of_ble_eq_true rfl) d_M_extend_85 rfl ?_
                refine a_ifb_ne (pc' := 91) (tgt := 94) hc d_M_extend_88 rfl rfl (fun h88 => ?_) (fun h88 => ?_)
                · skip
                  refine a_ninc (pc' := 97) hc d_M_extend_94 rfl rfl (by decide) ?_
                  refine a_goto (tgt := 78) hc d_M_extend_97 rfl ?_
                  refine AW.tw (τ1 := adT (cpT τ 15 16 64) n E j (i78 + 1)) (rfl) ?_
                  exact AW.to rfl rfl rfl (ih78 (by omega) (allf_s hG78 (by simp [qR, h88])))
                · skip
                  refine a_bipush (pc' := 93) (v := -5) hc d_M_extend_91 rfl (by decide) ?_
                  exact a_iret hc hr hk d_M_extend_93 (m_i (by simp [xtP, h4, h15, cj, h20, h42, cr, h51, h62, h80, h88, ad_stop hG78 (by omega) h88]) (by simp [xtP, h4, h15, cj, h20, h42, cr, h51, h62, h80, h88, ad_stop hG78 (by omega) h88]))
            · skip
              refine a_bipush (pc' := 67) (v := -4) hc d_M_extend_65 rfl (by decide) ?_
              exact a_iret hc hr hk d_M_extend_67 (m_i (by first | rfl | (simp only [xtP, h4, h15, cj, h20, h42, cr, h51, h62]; done) | (simp [xtP, h4, h15, cj, h20, h42, cr, h51, h62]; done)) (by first | rfl | (simp only [xtP, h4, h15, cj, h20, h42, cr, h51, h62]; done) | (simp [xtP, h4, h15, cj, h20, h42, cr, h51, h62]; done)))
          · skip
            refine a_bipush (pc' := 56) (v := -3) hc d_M_extend_54 rfl (by decide) ?_
            exact a_iret hc hr hk d_M_extend_56 (m_i (by first | rfl | (simp only [xtP, h4, h15, cj, h20, h42, cr, h51]; done) | (simp [xtP, h4, h15, cj, h20, h42, cr, h51]; done)) (by first | rfl | (simp only [xtP, h4, h15, cj, h20, h42, cr, h51]; done) | (simp [xtP, h4, h15, cj, h20, h42, cr, h51]; done)))
        · skip
          refine a_iconst (pc' := 46) (v := -1) hc d_M_extend_45 rfl (by decide) ?_
          exact a_iret hc hr hk d_M_extend_46 (m_i (by first | rfl | (simp only [xtP, h4, h15, cj, h20, h42]; done) | (simp [xtP, h4, h15, cj, h20, h42]; done)) (by first | rfl | (simp only [xtP, h4, h15, cj, h20, h42]; done) | (simp [xtP, h4, h15, cj, h20, h42]; done)))
  · skip
    refine a_bipush (pc' := 9) (v := -2) hc d_M_extend_7 rfl (by decide) ?_
    exact a_iret hc hr hk d_M_extend_9 (m_i (by first | rfl | (simp only [xtP, h4]; done) | (simp [xtP, h4]; done)) (by first | rfl | (simp only [xtP, h4]; done) | (simp [xtP, h4]; done)))
theorem ct_M_create (hx : MX ax rl ca tys n E) {τ : TS} {w : Int32} {c : Int32} {r : Int32} (h6 : ∀ v i d : Nat, d < 5 → ¬ adT (cr0 τ v w c) n E v i 6 d < 0) (hok : ∀ v w' r' i : Nat, w = nI w' → (c = nI 1 ∨ c = nI 2 ∨ c = nI 4) → r = nI r' → v < 4 → gt τ 15 (15 * v + 2) ≤ 0 → 1 ≤ w' → w' ≤ 4 → r' ≤ 12 / w' → i < r' → (∀ k, k < i → qR (cr0 τ v w c) n E v k = false) → ArOk (adT (cr0 τ v w c) n E v i) n E v) : MC l y_M_create c_M_create 6 (some .int) 7 D tys A ax rl ca n E τ [.int w, .int c, .int r] (some (.int ((ctP τ n E w c r).1))) ((ctP τ n E w c r).2) := by
  obtain ⟨hn2, hn5⟩ := hx.2.2.2.1
  obtain ⟨hE2, hE10⟩ := hx.2.2.2.2
  refine MC.of rfl (Nat.le_of_ble_eq_true rfl) (cat_all rfl) ?_
  intro pp ee ss mm aa bb me cd hc hK hO hr hk hA
  refine AW.to (lv' := [some (.ref (ax 0)), some (.int w), some (.int c), some (.int r), none, none]) rfl rfl rfl ?_
  refine a_aload_n (pc' := 1) hc d_M_create_0 rfl rfl rfl ?_
  refine r_get (pc' := 4) hc hK hx 11 (v := .int (bI (tb (τ 0 5)))) (by decide) rfl fl_M_45 d_M_create_1 rfl ?_
  refine a_ifb_ne (pc' := 7) (tgt := 10) hc d_M_create_4 rfl rfl (fun h4 => ?_) (fun h4 => ?_)
  · skip
    refine a_iload_n (pc' := 11) hc d_M_create_10 rfl rfl rfl ?_
    refine a_iconst (pc' := 12) (v := nI 1) hc d_M_create_11 rfl (by decide) ?_
    refine a_icmp_lt (pc' := 15) (tgt := 48) hc d_M_create_12 rfl rfl (fun h12 => ?_) (fun h12 => ?_)
    · skip
      refine a_iconst (pc' := 49) (v := -1) hc d_M_create_48 rfl (by decide) ?_
      exact a_iret hc hr hk d_M_create_49 (m_i (by first | rfl | (simp only [ctP, shB, h4, h12]; done) | (simp [ctP, shB, h4, h12]; done)) (by first | rfl | (simp only [ctP, shB, h4, h12]; done) | (simp [ctP, shB, h4, h12]; done)))
    · skip
      refine a_iload_n (pc' := 16) hc d_M_create_15 rfl rfl rfl ?_
      refine a_iconst (pc' := 17) (v := nI 4) hc d_M_create_16 rfl (by decide) ?_
      refine a_icmp_gt (pc' := 20) (tgt := 48) hc d_M_create_17 rfl rfl (fun h17 => ?_) (fun h17 => ?_)
      · skip
        refine a_iconst (pc' := 49) (v := -1) hc d_M_create_48 rfl (by decide) ?_
        exact a_iret hc hr hk d_M_create_49 (m_i (by first | rfl | (simp only [ctP, shB, h4, h12, h17]; done) | (simp [ctP, shB, h4, h12, h17]; done)) (by first | rfl | (simp only [ctP, shB, h4, h12, h17]; done) | (simp [ctP, shB, h4, h12, h17]; done)))
      · skip
        obtain ⟨w', hw1, hw2, ew, cw⟩ := rg_of (N := 4) (by decide) h12 (Int32.not_lt.mp h17)
        subst ew
        have hs5 : 12 / w' ≤ 12 := Nat.div_le_self _ _
        refine AW.cutP (P := c = nI 1 ∨ c = nI 2 ∨ c = nI 4) (f1 := tw ax rl ca n E τ) (pc1 := 35) (lv1 := [some (.ref (ax 0)), some (.int (nI w')), some (.int c), some (.int r), none, none]) (st1 := []) (fun hp20 => ?_) (fun kcut20 => ?_)
        · skip
          refine a_iload_n (pc' := 36) hc d_M_create_35 rfl rfl rfl ?_
          refine a_iconst (pc' := 37) (v := nI 1) hc d_M_create_36 rfl (by decide) ?_
          refine a_icmp_lt (pc' := 40) (tgt := 48) hc d_M_create_37 rfl rfl (fun h37 => ?_) (fun h37 => ?_)
          · skip
            refine a_iconst (pc' := 49) (v := -1) hc d_M_create_48 rfl (by decide) ?_
            exact a_iret hc hr hk d_M_create_49 (m_i (by first | rfl | (simp only [ctP, shB, h4, h12, h17, cw, hp20, h37]; done) | (simp [ctP, shB, h4, h12, h17, cw, hp20, h37]; done)) (by first | rfl | (simp only [ctP, shB, h4, h12, h17, cw, hp20, h37]; done) | (simp [ctP, shB, h4, h12, h17, cw, hp20, h37]; done)))
          · skip
            refine a_iload_n (pc' := 41) hc d_M_create_40 rfl rfl rfl ?_
            refine a_bipush (pc' := 43) (v := nI 12) hc d_M_create_41 rfl (by decide) ?_
            refine a_iload_n (pc' := 44) hc d_M_create_43 rfl rfl rfl ?_
            refine a_ndiv (pc' := 45) hc d_M_create_44 rfl (by omega) (by omega) (by omega) ?_
            refine a_icmp_le (pc' := 48) (tgt := 50) hc d_M_create_45 rfl rfl (fun h45 => ?_) (fun h45 => ?_)
            · skip
              obtain ⟨r', hr1, hr2, er, cr⟩ := rg_of (by omega) h37 h45
              subst er
              refine a_aload_n (pc' := 51) hc d_M_create_50 rfl rfl rfl ?_
              refine r_calli (pc' := 54) hc hK hO hA hx [] [] (ct_M_few hx (τ := τ) ) ml_M_108 hd_M_few ⟨by decide, by decide⟩ rfl rfl (Nat.le_of_ble_eq_true rfl) d_M_create_51 rfl ?_
              refine a_ifb_eq (pc' := 57) (tgt := 60) hc d_M_create_54 rfl rfl (fun h54 => ?_) (fun h54 => ?_)
              · skip
                refine a_iconst (pc' := 61) (v := nI 0) hc d_M_create_60 rfl (by decide) ?_
                refine a_istore (pc' := 63) hc d_M_create_61 rfl (by decide) ?_
                refine AW.loopG 4 0 (fun v63 => tw ax rl ca n E τ) (fun v63 => [some (.ref (ax 0)), some (.int (nI w')), some (.int c), some (.int (nI r')), some (.int (nI v63)), none]) (fun v63 => ∀ k, k < v63 → qV τ k = false) (Nat.zero_le _) (fun k hk' => absurd hk' (by omega)) rfl rfl (fun v63 hle63 hG63 ih63 => ?_)
                try dsimp only at hG63 ih63 ⊢
                refine a_iload (pc' := 65) hc d_M_create_63 rfl rfl ?_
                refine a_iconst (pc' := 66) (v := nI 4) hc d_M_create_65 rfl (by decide) ?_
                refine a_ncmp_ge (pc' := 69) (tgt := 86) hc d_M_create_66 rfl rfl (by omega) (by omega) (fun h66 => ?_) (fun h66 => ?_)
                · skip
                  have hex66 : v63 = 4 := by omega
                  subst v63
                  have hv66 := fsL_miss hG63
                  refine a_iload (pc' := 88) hc d_M_create_86 rfl rfl ?_
                  refine a_iconst (pc' := 89) (v := nI 4) hc d_M_create_88 rfl (by decide) ?_
                  refine a_ncmp_ne (pc' := 92) (tgt := 95) hc d_M_create_89 rfl rfl (by omega) (by omega) (fun h89 => absurd h89 (by omega)) (fun h89 => ?_)
                  refine a_bipush (pc' := 94) (v := -10) hc d_M_create_92 rfl (by decide) ?_
                  exact a_iret hc hr hk d_M_create_94 (m_i (by first | rfl | (simp only [ctP, shB, h4, h12, h17, cw, hp20, h37, h45, cr, h54, h66, hv66]; done) | (simp [ctP, shB, h4, h12, h17, cw, hp20, h37, h45, cr, h54, h66, hv66]; done)) (by first | rfl | (simp only [ctP, shB, h4, h12, h17, cw, hp20, h37, h45, cr, h54, h66, hv66]; done) | (simp [ctP, shB, h4, h12, h17, cw, hp20, h37, h45, cr, h54, h66, hv66]; done)))
                · skip
                  refine a_aload_n (pc' := 70) hc d_M_create_69 rfl rfl rfl ?_
                  refine a_bipush (pc' := 72) (v := nI 15) hc d_M_create_70 rfl (by decide) ?_
                  refine a_iload (pc' := 74) hc d_M_create_72 rfl rfl ?_
                  refine r_calli (pc' := 77) hc hK hO hA hx [.int (nI 15), .int (nI v63)] [] (ct_M_rowsOf hx (τ := τ) (mp := 15) (v := v63) (by omega) (by omega)) ml_M_53 hd_M_rowsOf ⟨by decide, by decide⟩ rfl rfl (Nat.le_of_ble_eq_true rfl) d_M_create_74 rfl ?_
                  refine a_if_le (pc' := 80) (tgt := 86) hc d_M_create_77 rfl rfl (fun h77 => ?_) (fun h77 => ?_)
                  · skip
                    have hv66 := fsL_hit (q := qV τ) (by simp [qV, h77]) hG63 4 (by omega)
                    refine a_iload (pc' := 88) hc d_M_create_86 rfl rfl ?_
                    refine a_iconst (pc' := 89) (v := nI 4) hc d_M_create_88 rfl (by decide) ?_
                    refine a_ncmp_ne (pc' := 92) (tgt := 95) hc d_M_create_89 rfl rfl (by omega) (by omega) (fun h89 => ?_) (fun h89 => ?_)
                    · skip
                      refine a_aload_n (pc' := 96) hc d_M_create_95 rfl rfl rfl ?_
                      refine a_bipush (pc' := 98) (v := nI 15) hc d_M_create_96 rfl (by decide) ?_
                      refine a_bipush (pc' := 100) (v := nI 16) hc d_M_create_98 rfl (by decide) ?_
                      refine r_callv (pc' := 103) hc hK hO hA hx [.int (nI 15), .int (nI 16)] [] (ct_M_copyMap hx (τ := τ) (a := 15) (b := 16) (by omega) (by omega)) ml_M_90 hd_M_copyMap ⟨by decide, by decide⟩ rfl rfl (Nat.le_of_ble_eq_true rfl) d_M_create_100 rfl ?_
                      refine a_aload_n (pc' := 104) hc d_M_create_103 rfl rfl rfl ?_
                      refine a_bipush (pc' := 106) (v := nI 16) hc d_M_create_104 rfl (by decide) ?_
                      refine a_bipush (pc' := 108) (v := nI 15) hc d_M_create_106 rfl (by decide) ?_
                      refine a_iload (pc' := 110) hc d_M_create_108 rfl rfl ?_
                      refine a_nmul (pc' := 111) hc d_M_create_110 rfl ?_
                      refine a_iload_n (pc' := 112) hc d_M_create_111 rfl rfl rfl ?_
                      refine r_callv (pc' := 115) hc hK hO hA hx [.int (nI 16), .int (nI (15 * v63)), .int (nI w')] [] (ct_M_set hx (τ := cpT τ 15 16 64) (mp := 16) (i := 15 * v63) (v := nI w') (by omega) (by omega)) ml_M_76 hd_M_set ⟨by decide, by decide⟩ rfl rfl (Nat.le_of_ble_eq_true rfl) d_M_create_112 rfl ?_
                      refine a_aload_n (pc' := 116) hc d_M_create_115 rfl rfl rfl ?_
                      refine a_bipush (pc' := 118) (v := nI 16) hc d_M_create_116 rfl (by decide) ?_
                      refine a_bipush (pc' := 120) (v := nI 15) hc d_M_create_118 rfl (by decide) ?_
                      refine a_iload (pc' := 122) hc d_M_create_120 rfl rfl ?_
                      refine a_nmul (pc' := 123) hc d_M_create_122 rfl ?_
                      refine a_iconst (pc' := 124) (v := nI 1) hc d_M_create_123 rfl (by decide) ?_
                      refine a_nadd (pc' := 125) hc d_M_create_124 rfl ?_
                      refine a_iload_n (pc' := 126) hc d_M_create_125 rfl rfl rfl ?_
                      refine r_callv (pc' := 129) hc hK hO hA hx [.int (nI 16), .int (nI ((15 * v63) + 1)), .int c] [] (ct_M_set hx (τ := ts (cpT τ 15 16 64) 3 (64 * 16 + (15 * v63)) (nI w')) (mp := 16) (i := (15 * v63) + 1) (v := c) (by omega) (by omega)) ml_M_76 hd_M_set ⟨by decide, by decide⟩ rfl rfl (Nat.le_of_ble_eq_true rfl) d_M_create_126 rfl ?_
                      refine a_aload_n (pc' := 130) hc d_M_create_129 rfl rfl rfl ?_
                      refine a_bipush (pc' := 132) (v := nI 16) hc d_M_create_130 rfl (by decide) ?_
                      refine a_bipush (pc' := 134) (v := nI 15) hc d_M_create_132 rfl (by decide) ?_
                      refine a_iload (pc' := 136) hc d_M_create_134 rfl rfl ?_
                      refine a_nmul (pc' := 137) hc d_M_create_136 rfl ?_
                      refine a_iconst (pc' := 138) (v := nI 2) hc d_M_create_137 rfl (by decide) ?_
                      refine a_nadd (pc' := 139) hc d_M_create_138 rfl ?_
                      refine a_iconst (pc' := 140) (v := nI 0) hc d_M_create_139 rfl (by decide) ?_
                      refine r_callv (pc' := 143) hc hK hO hA hx [.int (nI 16), .int (nI ((15 * v63) + 2)), .int (nI 0)] [] (ct_M_set hx (τ := ts (ts (cpT τ 15 16 64) 3 (64 * 16 + (15 * v63)) (nI w')) 3 (64 * 16 + ((15 * v63) + 1)) c) (mp := 16) (i := (15 * v63) + 2) (v := nI 0) (by omega) (by omega)) ml_M_76 hd_M_set ⟨by decide, by decide⟩ rfl rfl (Nat.le_of_ble_eq_true rfl) d_M_create_140 rfl ?_
                      refine a_iconst (pc' := 144) (v := nI 0) hc d_M_create_143 rfl (by decide) ?_
                      refine a_istore (pc' := 146) hc d_M_create_144 rfl (by decide) ?_
                      refine AW.tw (τ1 := adT (cr0 τ v63 (nI w') c) n E v63 0) (rfl) ?_
                      refine AW.loopG r' 0 (fun i146 => tw ax rl ca n E (adT (cr0 τ v63 (nI w') c) n E v63 i146)) (fun i146 => [some (.ref (ax 0)), some (.int (nI w')), some (.int c), some (.int (nI r')), some (.int (nI v63)), some (.int (nI i146))]) (fun i146 => ∀ k, k < i146 → qR (cr0 τ v63 (nI w') c) n E v63 k = false) (Nat.zero_le _) (fun k hk' => absurd hk' (by omega)) rfl rfl (fun i146 hle146 hG146 ih146 => ?_)
                      try dsimp only at hG146 ih146 ⊢
                      refine a_iload (pc' := 148) hc d_M_create_146 rfl rfl ?_
                      refine a_iload_n (pc' := 149) hc d_M_create_148 rfl rfl rfl ?_
                      refine a_ncmp_ge (pc' := 152) (tgt := 170) hc d_M_create_149 rfl rfl (by omega) (by omega) (fun h149 => ?_) (fun h149 => ?_)
                      · skip
                        have hex149 : i146 = r' := by omega
                        subst i146
                        refine a_aload_n (pc' := 171) hc d_M_create_170 rfl rfl rfl ?_
                        refine r_calli (pc' := 174) hc hK hO hA hx [] [] (ct_M_commit hx (τ := adT (cr0 τ v63 (nI w') c) n E v63 r') (fun d hd => h6 v63 _ d hd)) ml_M_114 hd_M_commit ⟨by decide, by decide⟩ rfl rfl (Nat.le_of_ble_eq_true rfl) d_M_create_171 rfl ?_
                        refine a_ifb_eq (pc' := 177) (tgt := 182) hc d_M_create_174 rfl rfl (fun h174 => ?_) (fun h174 => ?_)
                        · skip
                          refine a_bipush (pc' := 184) (v := -7) hc d_M_create_182 rfl (by decide) ?_
                          exact a_iret hc hr hk d_M_create_184 (m_i (by simp [ctP, shB, h4, h12, h17, cw, hp20, h37, h45, cr, h54, h66, h77, hv66, h89, h149, h174, ad_done hG146]) (by simp [ctP, shB, h4, h12, h17, cw, hp20, h37, h45, cr, h54, h66, h77, hv66, h89, h149, h174, ad_done hG146]))
                        · skip
                          refine a_iload (pc' := 179) hc d_M_create_177 rfl rfl ?_
                          refine a_goto (tgt := 184) hc d_M_create_179 rfl ?_
                          exact a_iret hc hr hk d_M_create_184 (m_i (by simp [ctP, shB, h4, h12, h17, cw, hp20, h37, h45, cr, h54, h66, h77, hv66, h89, h149, h174, ad_done hG146]) (by simp [ctP, shB, h4, h12, h17, cw, hp20, h37, h45, cr, h54, h66, h77, hv66, h89, h149, h174, ad_done hG146]))
                      · skip
                        refine a_aload_n (pc' := 153) hc d_M_create_152 rfl rfl rfl ?_
                        refine a_iload (pc' := 155) hc d_M_create_153 rfl rfl ?_
                        refine r_calli (pc' := 158) hc hK hO hA hx [.int (nI v63)] [] (ct_M_addRow hx (τ := adT (cr0 τ v63 (nI w') c) n E v63 i146) (v := v63) (by omega) (hok v63 w' r' i146 rfl hp20 rfl (by omega) h77 hw1 hw2 hr2 (by omega) hG146)) ml_M_111 hd_M_addRow ⟨by decide, by decide⟩ rfl rfl (Nat.le_of_ble_eq_true rfl) d_M_create_155 rfl ?_
                        refine a_ifb_ne (pc' := 161) (tgt := 164) hc d_M_create_158 rfl rfl (fun h158 => ?_) (fun h158 => ?_)
                        · skip
                          refine a_ninc (pc' := 167) hc d_M_create_164 rfl rfl (by decide) ?_
                          refine a_goto (tgt := 146) hc d_M_create_167 rfl ?_
                          refine AW.tw (τ1 := adT (cr0 τ v63 (nI w') c) n E v63 (i146 + 1)) (rfl) ?_
                          exact AW.to rfl rfl rfl (ih146 (by omega) (allf_s hG146 (by simp [qR, h158])))
                        · skip
                          refine a_bipush (pc' := 163) (v := -5) hc d_M_create_161 rfl (by decide) ?_
                          exact a_iret hc hr hk d_M_create_163 (m_i (by simp [ctP, shB, h4, h12, h17, cw, hp20, h37, h45, cr, h54, h66, h77, hv66, h89, h149, h158, ad_stop hG146 (by omega) h158]) (by simp [ctP, shB, h4, h12, h17, cw, hp20, h37, h45, cr, h54, h66, h77, hv66, h89, h149, h158, ad_stop hG146 (by omega) h158]))
                    · skip
                      refine a_bipush (pc' := 94) (v := -10) hc d_M_create_92 rfl (by decide) ?_
                      exact a_iret hc hr hk d_M_create_94 (m_i (by first | rfl | (simp only [ctP, shB, h4, h12, h17, cw, hp20, h37, h45, cr, h54, h66, h77, hv66, h89]; done) | (simp [ctP, shB, h4, h12, h17, cw, hp20, h37, h45, cr, h54, h66, h77, hv66, h89]; done)) (by first | rfl | (simp only [ctP, shB, h4, h12, h17, cw, hp20, h37, h45, cr, h54, h66, h77, hv66, h89]; done) | (simp [ctP, shB, h4, h12, h17, cw, hp20, h37, h45, cr, h54, h66, h77, hv66, h89]; done)))
                  · skip
                    refine a_ninc (pc' := 83) hc d_M_create_80 rfl rfl (by decide) ?_
                    refine a_goto (tgt := 63) hc d_M_create_83 rfl ?_
                    exact AW.to rfl rfl rfl (ih63 (by omega) (allf_s hG63 (by simp [qV, h77])))
              · skip
                refine a_bipush (pc' := 59) (v := -3) hc d_M_create_57 rfl (by decide) ?_
                exact a_iret hc hr hk d_M_create_59 (m_i (by first | rfl | (simp only [ctP, shB, h4, h12, h17, cw, hp20, h37, h45, cr, h54]; done) | (simp [ctP, shB, h4, h12, h17, cw, hp20, h37, h45, cr, h54]; done)) (by first | rfl | (simp only [ctP, shB, h4, h12, h17, cw, hp20, h37, h45, cr, h54]; done) | (simp [ctP, shB, h4, h12, h17, cw, hp20, h37, h45, cr, h54]; done)))
            · skip
              refine a_iconst (pc' := 49) (v := -1) hc d_M_create_48 rfl (by decide) ?_
              exact a_iret hc hr hk d_M_create_49 (m_i (by first | rfl | (simp only [ctP, shB, h4, h12, h17, cw, hp20, h37, h45]; done) | (simp [ctP, shB, h4, h12, h17, cw, hp20, h37, h45]; done)) (by first | rfl | (simp only [ctP, shB, h4, h12, h17, cw, hp20, h37, h45]; done) | (simp [ctP, shB, h4, h12, h17, cw, hp20, h37, h45]; done)))
        · skip
          refine a_iload_n (pc' := 21) hc d_M_create_20 rfl rfl rfl ?_
          refine a_iconst (pc' := 22) (v := nI 1) hc d_M_create_21 rfl (by decide) ?_
          refine a_icmp_eq (pc' := 25) (tgt := 35) hc d_M_create_22 rfl rfl (fun h22 => ?_) (fun h22 => ?_)
          · skip
            exact AW.to rfl rfl rfl (kcut20 (by simp [ctP, shB, h4, h12, h17, cw, h22]))
          · skip
            refine a_iload_n (pc' := 26) hc d_M_create_25 rfl rfl rfl ?_
            refine a_iconst (pc' := 27) (v := nI 2) hc d_M_create_26 rfl (by decide) ?_
            refine a_icmp_eq (pc' := 30) (tgt := 35) hc d_M_create_27 rfl rfl (fun h27 => ?_) (fun h27 => ?_)
            · skip
              exact AW.to rfl rfl rfl (kcut20 (by simp [ctP, shB, h4, h12, h17, cw, h22, h27]))
            · skip
              refine a_iload_n (pc' := 31) hc d_M_create_30 rfl rfl rfl ?_
              refine a_iconst (pc' := 32) (v := nI 4) hc d_M_create_31 rfl (by decide) ?_
              refine a_icmp_ne (pc' := 35) (tgt := 48) hc d_M_create_32 rfl rfl (fun h32 => ?_) (fun h32 => ?_)
              · skip
                refine a_iconst (pc' := 49) (v := -1) hc d_M_create_48 rfl (by decide) ?_
                exact a_iret hc hr hk d_M_create_49 (m_i (by first | rfl | (simp only [ctP, shB, h4, h12, h17, cw, h22, h27, h32]; done) | (simp [ctP, shB, h4, h12, h17, cw, h22, h27, h32]; done)) (by first | rfl | (simp only [ctP, shB, h4, h12, h17, cw, h22, h27, h32]; done) | (simp [ctP, shB, h4, h12, h17, cw, h22, h27, h32]; done)))
              · skip
                exact AW.to rfl rfl rfl (kcut20 (by simp [ctP, shB, h4, h12, h17, cw, h22, h27, h32]))
  · skip
    refine a_bipush (pc' := 9) (v := -2) hc d_M_create_7 rfl (by decide) ?_
    exact a_iret hc hr hk d_M_create_9 (m_i (by first | rfl | (simp only [ctP, shB, h4]; done) | (simp [ctP, shB, h4]; done)) (by first | rfl | (simp only [ctP, shB, h4]; done) | (simp [ctP, shB, h4]; done)))
