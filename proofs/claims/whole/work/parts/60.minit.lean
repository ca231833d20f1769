variable {l : Launch} {D : va_G} {tys : List (ClassId × FieldType)} {A : Nat → Prop} {ca : Nat → ClassId} {f : Nat → Option va_E}
theorem ct_M_init (hty : TYS tys ca) {o n E : Nat} {x y : Int32} (en : n = clN 5 x) (eE : E = clN 10 y) (h0 : f o = some (.inr (6, [.int 0, .int 0, .null, .null, .null, .null, .null, .null, .int 0, .int 0, .int 0, .int 0, .int 0, .int 0, .int 0]))) : CT l y_M_init (Cond.code y_M_init c_M_init 4 none :: WS) (ra 1 6 1448) D vcl tys A f [.ref o, .int x, .int y] (fun v' f' => v' = none ∧ ∃ ax rl : Nat → Nat, ax 0 = o ∧ MX ax rl ca tys n E ∧ f' = tw ax rl ca n E (t1 n)) 6 1448 := by
  have rf0 : RF f (fun _ => o) (fun _ => 0) (va_up (fun _ => none) 0 (some (.inr (6, [.int 0, .int 0, .null, .null, .null, .null, .null, .null, .int 0, .int 0, .int 0, .int 0, .int 0, .int 0, .int 0])))) := fun i x hi => by
    by_cases e : i = 0
    · subst e; rw [va_up_self] at hi; cases hi; exact ⟨h0, rfl⟩
    · rw [va_up_ne _ _ e] at hi; cases hi
  obtain ⟨hn2, hn5⟩ : 2 ≤ n ∧ n ≤ 5 := by rw [en]; exact clN_b (by decide) (by decide) x
  obtain ⟨hE2, hE10⟩ : 2 ≤ E ∧ E ≤ 10 := by rw [eE]; exact clN_b (by decide) (by decide) y
  refine CT.ofN (own := R_M) rfl (by decide) (Nat.le_of_ble_eq_true rfl) (cat_all rfl) ?_
  intro pp ee ss mm aa bb me cd hc hK hO hr hk hnm hA
  refine AW.to (lv' := [some (.ref o), some (.int x), some (.int y), none]) rfl rfl rfl ?_
  refine a_aload_n (pc' := 1) hc d_M_init_0 rfl rfl rfl ?_
  refine c_oinit (pc' := 4) hc oi_M (by decide) (by decide) d_M_init_1 rfl ?_
  refine AW.to (st' := []) rfl rfl rfl ?_
  refine a_aload_n (pc' := 5) hc d_M_init_4 rfl rfl rfl ?_
  refine a_iconst (pc' := 6) (v := nI 5) hc d_M_init_5 rfl (by decide) ?_
  refine a_newa (pc' := 8) (atype := .boolean) (N' := 5) hc hK hA (hc.2.2.2.2 _ (List.mem_cons_of_mem _ kc_arr_boolean)) 1 hty.2.1 rfl (fun h => h) (a0 := (5, .inl (fun _ => 0))) rfl rfl (by omega) (by decide) (by decide) (by decide) d_M_init_6 rfl (fun q1 n1 _ => ?_)
  refine AW.to (st' := [.ref q1, .ref o]) rfl rfl rfl ?_
  refine n_after hc hK in_M ty_M ty_M_ok nm_M rfl h0 n1 2 (by decide) fl_M_7 ⟨rfl, hnm, rfl⟩ rfl rfl (Nat.le_of_ble_eq_true rfl) d_M_init_8 rfl (fun f1 x1 o1 a1 => ?_)
  have o1 : f1 o = some (.inr (6, [.int 0, .int 0, .ref q1, .null, .null, .null, .null, .null, .int 0, .int 0, .int 0, .int 0, .int 0, .int 0, .int 0])) := o1
  have rf1 := rf0.addset (r := 1) (s := 0) (va_up_self _ _ _) n1 x1 o1 a1 rfl
  refine AW.to (st' := []) rfl rfl rfl ?_
  refine a_aload_n (pc' := 12) hc d_M_init_11 rfl rfl rfl ?_
  refine a_sipush (pc' := 15) (v := nI 320) hc d_M_init_12 rfl (by decide) ?_
  refine a_newa (pc' := 17) (atype := .int) (N' := 320) hc hK hA (hc.2.2.2.2 _ (List.mem_cons_of_mem _ kc_arr_int)) 0 hty.1 rfl (fun h => h) (a0 := (320, .inl (fun _ => 0))) rfl rfl (by omega) (by decide) (by decide) (by decide) d_M_init_15 rfl (fun q2 n2 _ => ?_)
  refine AW.to (st' := [.ref q2, .ref o]) rfl rfl rfl ?_
  refine n_after hc hK in_M ty_M ty_M_ok nm_M rfl o1 n2 3 (by decide) fl_M_13 ⟨rfl, hnm, rfl⟩ rfl rfl (Nat.le_of_ble_eq_true rfl) d_M_init_17 rfl (fun f2 x2 o2 a2 => ?_)
  have o2 : f2 o = some (.inr (6, [.int 0, .int 0, .ref q1, .ref q2, .null, .null, .null, .null, .int 0, .int 0, .int 0, .int 0, .int 0, .int 0, .int 0])) := o2
  have rf2 := rf1.addset (r := 2) (s := 0) (va_up_self _ _ _) n2 x2 o2 a2 rfl
  refine AW.to (st' := []) rfl rfl rfl ?_
  refine a_aload_n (pc' := 21) hc d_M_init_20 rfl rfl rfl ?_
  refine a_sipush (pc' := 24) (v := nI 1088) hc d_M_init_21 rfl (by decide) ?_
  refine a_newa (pc' := 26) (atype := .int) (N' := 1088) hc hK hA (hc.2.2.2.2 _ (List.mem_cons_of_mem _ kc_arr_int)) 0 hty.1 rfl (fun h => h) (a0 := (1088, .inl (fun _ => 0))) rfl rfl (by omega) (by decide) (by decide) (by decide) d_M_init_24 rfl (fun q3 n3 _ => ?_)
  refine AW.to (st' := [.ref q3, .ref o]) rfl rfl rfl ?_
  refine n_after hc hK in_M ty_M ty_M_ok nm_M rfl o2 n3 4 (by decide) fl_M_17 ⟨rfl, hnm, rfl⟩ rfl rfl (Nat.le_of_ble_eq_true rfl) d_M_init_26 rfl (fun f3 x3 o3 a3 => ?_)
  have o3 : f3 o = some (.inr (6, [.int 0, .int 0, .ref q1, .ref q2, .ref q3, .null, .null, .null, .int 0, .int 0, .int 0, .int 0, .int 0, .int 0, .int 0])) := o3
  have rf3 := rf2.addset (r := 3) (s := 0) (va_up_self _ _ _) n3 x3 o3 a3 rfl
  refine AW.to (st' := []) rfl rfl rfl ?_
  refine a_aload_n (pc' := 30) hc d_M_init_29 rfl rfl rfl ?_
  refine a_bipush (pc' := 32) (v := nI 15) hc d_M_init_30 rfl (by decide) ?_
  refine a_newa (pc' := 34) (atype := .int) (N' := 15) hc hK hA (hc.2.2.2.2 _ (List.mem_cons_of_mem _ kc_arr_int)) 0 hty.1 rfl (fun h => h) (a0 := (15, .inl (fun _ => 0))) rfl rfl (by omega) (by decide) (by decide) (by decide) d_M_init_32 rfl (fun q4 n4 _ => ?_)
  refine AW.to (st' := [.ref q4, .ref o]) rfl rfl rfl ?_
  refine n_after hc hK in_M ty_M ty_M_ok nm_M rfl o3 n4 5 (by decide) fl_M_20 ⟨rfl, hnm, rfl⟩ rfl rfl (Nat.le_of_ble_eq_true rfl) d_M_init_34 rfl (fun f4 x4 o4 a4 => ?_)
  have o4 : f4 o = some (.inr (6, [.int 0, .int 0, .ref q1, .ref q2, .ref q3, .ref q4, .null, .null, .int 0, .int 0, .int 0, .int 0, .int 0, .int 0, .int 0])) := o4
  have rf4 := rf3.addset (r := 4) (s := 0) (va_up_self _ _ _) n4 x4 o4 a4 rfl
  refine AW.to (st' := []) rfl rfl rfl ?_
  refine a_aload_n (pc' := 38) hc d_M_init_37 rfl rfl rfl ?_
  refine a_bipush (pc' := 40) (v := nI 15) hc d_M_init_38 rfl (by decide) ?_
  refine a_newa (pc' := 42) (atype := .int) (N' := 15) hc hK hA (hc.2.2.2.2 _ (List.mem_cons_of_mem _ kc_arr_int)) 0 hty.1 rfl (fun h => h) (a0 := (15, .inl (fun _ => 0))) rfl rfl (by omega) (by decide) (by decide) (by decide) d_M_init_40 rfl (fun q5 n5 _ => ?_)
  refine AW.to (st' := [.ref q5, .ref o]) rfl rfl rfl ?_
  refine n_after hc hK in_M ty_M ty_M_ok nm_M rfl o4 n5 6 (by decide) fl_M_23 ⟨rfl, hnm, rfl⟩ rfl rfl (Nat.le_of_ble_eq_true rfl) d_M_init_42 rfl (fun f5 x5 o5 a5 => ?_)
  have o5 : f5 o = some (.inr (6, [.int 0, .int 0, .ref q1, .ref q2, .ref q3, .ref q4, .ref q5, .null, .int 0, .int 0, .int 0, .int 0, .int 0, .int 0, .int 0])) := o5
  have rf5 := rf4.addset (r := 5) (s := 0) (va_up_self _ _ _) n5 x5 o5 a5 rfl
  refine AW.to (st' := []) rfl rfl rfl ?_
  refine a_aload_n (pc' := 46) hc d_M_init_45 rfl rfl rfl ?_
  refine a_iconst (pc' := 47) (v := nI 5) hc d_M_init_46 rfl (by decide) ?_
  refine a_newa (pc' := 49) (atype := .int) (N' := 5) hc hK hA (hc.2.2.2.2 _ (List.mem_cons_of_mem _ kc_arr_int)) 0 hty.1 rfl (fun h => h) (a0 := (5, .inl (fun _ => 0))) rfl rfl (by omega) (by decide) (by decide) (by decide) d_M_init_47 rfl (fun q6 n6 _ => ?_)
  refine AW.to (st' := [.ref q6, .ref o]) rfl rfl rfl ?_
  refine n_after hc hK in_M ty_M ty_M_ok nm_M rfl o5 n6 7 (by decide) fl_M_26 ⟨rfl, hnm, rfl⟩ rfl rfl (Nat.le_of_ble_eq_true rfl) d_M_init_49 rfl (fun f6 x6 o6 a6 => ?_)
  have o6 : f6 o = some (.inr (6, [.int 0, .int 0, .ref q1, .ref q2, .ref q3, .ref q4, .ref q5, .ref q6, .int 0, .int 0, .int 0, .int 0, .int 0, .int 0, .int 0])) := o6
  have rf6 := rf5.addset (r := 6) (s := 0) (va_up_self _ _ _) n6 x6 o6 a6 rfl
  refine AW.to (st' := []) rfl rfl rfl ?_
  refine a_aload_n (pc' := 53) hc d_M_init_52 rfl rfl rfl ?_
  refine AW.cut (f1 := f6) (pc1 := 72) (lv1 := [some (.ref o), some (.int x), some (.int y), none]) (st1 := [.int (nI n), .ref o]) ?_ (fun kcut53 => ?_)
  · skip
    refine n_puti hc hK in_M ty_M ty_M_ok nm_M rfl o6 0 (by decide) fl_M_29 (Or.inr ⟨rfl, hnm, rfl⟩) (rfl) (rfl) (Nat.le_of_ble_eq_true rfl) d_M_init_72 rfl (fun f7 x7 o7 => ?_)
    have o7 : f7 o = some (.inr (6, [.int (nI n), .int 0, .ref q1, .ref q2, .ref q3, .ref q4, .ref q5, .ref q6, .int 0, .int 0, .int 0, .int 0, .int 0, .int 0, .int 0])) := o7
    have rf7 := rf6.set (r := 0) (va_up_self _ _ _) x7 o7
    refine AW.to (st' := []) rfl rfl rfl ?_
    refine a_aload_n (pc' := 76) hc d_M_init_75 rfl rfl rfl ?_
    refine AW.cut (f1 := f7) (pc1 := 97) (lv1 := [some (.ref o), some (.int x), some (.int y), none]) (st1 := [.int (nI E), .ref o]) ?_ (fun kcut76 => ?_)
    · skip
      refine n_puti hc hK in_M ty_M ty_M_ok nm_M rfl o7 1 (by decide) fl_M_33 (Or.inr ⟨rfl, hnm, rfl⟩) (rfl) (rfl) (Nat.le_of_ble_eq_true rfl) d_M_init_97 rfl (fun f8 x8 o8 => ?_)
      have o8 : f8 o = some (.inr (6, [.int (nI n), .int (nI E), .ref q1, .ref q2, .ref q3, .ref q4, .ref q5, .ref q6, .int 0, .int 0, .int 0, .int 0, .int 0, .int 0, .int 0])) := o8
      have rf8 := rf7.set (r := 0) (va_up_self _ _ _) x8 o8
      obtain ⟨ax, rl, hax, hx, hsub⟩ := tw_of (ca := ca) (n := n) (E := E) (tys := tys) rf8 rfl (fun i hi => by
    rcases (show i = 0 ∨ i = 1 ∨ i = 2 ∨ i = 3 ∨ i = 4 ∨ i = 5 ∨ i = 6 by omega) with rfl | rfl | rfl | rfl | rfl | rfl | rfl <;> rfl) hty ⟨hn2, hn5⟩ ⟨hE2, hE10⟩
      subst hax
      refine AW.sub (f' := tw ax rl ca n E tz) hsub ?_
      refine a_iconst (pc' := 101) (v := nI 0) hc d_M_init_100 rfl (by decide) ?_
      refine a_istore_n (pc' := 102) hc d_M_init_101 rfl rfl (by decide) ?_
      refine AW.tw (τ1 := tM 0) (tM_0) ?_
      refine AW.loop 17 0 (fun i102 => tw ax rl ca n E (tM i102)) (fun i102 => [some (.ref (ax 0)), some (.int x), some (.int y), some (.int (nI i102))]) (Nat.zero_le _) rfl rfl (fun i102 hle102 ih102 => ?_)
      try dsimp only at ih102 ⊢
      refine a_iload_n (pc' := 103) hc d_M_init_102 rfl rfl rfl ?_
      refine a_bipush (pc' := 105) (v := nI 17) hc d_M_init_103 rfl (by decide) ?_
      refine a_ncmp_ge (pc' := 108) (tgt := 127) hc d_M_init_105 rfl rfl (by omega) (by omega) (fun h105 => ?_) (fun h105 => ?_)
      · skip
        have hex105 : i102 = 17 := by omega
        subst i102
        refine a_iconst (pc' := 128) (v := nI 0) hc d_M_init_127 rfl (by decide) ?_
        refine a_istore_n (pc' := 129) hc d_M_init_128 rfl rfl (by decide) ?_
        refine AW.tw (τ1 := tN 0) (tN_0) ?_
        refine AW.loop n 0 (fun d129 => tw ax rl ca n E (tN d129)) (fun d129 => [some (.ref (ax 0)), some (.int x), some (.int y), some (.int (nI d129))]) (Nat.zero_le _) rfl rfl (fun d129 hle129 ih129 => ?_)
        try dsimp only at ih129 ⊢
        refine a_iload_n (pc' := 130) hc d_M_init_129 rfl rfl rfl ?_
        refine a_aload_n (pc' := 131) hc d_M_init_130 rfl rfl rfl ?_
        refine r_get (pc' := 134) hc hK hx 0 (v := .int (nI n)) (by decide) rfl fl_M_29 d_M_init_131 rfl ?_
        refine a_ncmp_ge (pc' := 137) (tgt := 175) hc d_M_init_134 rfl rfl (by omega) (by omega) (fun h134 => ?_) (fun h134 => ?_)
        · skip
          have hex134 : d129 = n := by omega
          subst d129
          refine a_aload_n (pc' := 176) hc d_M_init_175 rfl rfl rfl ?_
          refine a_iconst (pc' := 177) (v := nI 1) hc d_M_init_176 rfl (by decide) ?_
          refine r_put (pc' := 180) hc hK hx 8 (by decide) fl_M_36 d_M_init_177 rfl ?_
          refine a_aload_n (pc' := 181) hc d_M_init_180 rfl rfl rfl ?_
          refine a_iconst (pc' := 182) (v := nI 1) hc d_M_init_181 rfl (by decide) ?_
          refine r_put (pc' := 185) hc hK hx 9 (by decide) fl_M_39 d_M_init_182 rfl ?_
          refine a_aload_n (pc' := 186) hc d_M_init_185 rfl rfl rfl ?_
          refine a_iconst (pc' := 187) (v := nI 1) hc d_M_init_186 rfl (by decide) ?_
          refine r_put (pc' := 190) hc hK hx 10 (by decide) fl_M_42 d_M_init_187 rfl ?_
          refine a_aload_n (pc' := 191) hc d_M_init_190 rfl rfl rfl ?_
          refine a_iconst (pc' := 192) (v := nI 1) hc d_M_init_191 rfl (by decide) ?_
          refine r_putz (pc' := 195) hc hK hx 11 (Or.inr rfl) (by decide) fl_M_45 d_M_init_192 rfl ?_
          refine AW.widen (k' := 6) (n' := 1448) (by omega) (by omega) ?_
          exact a_vret hc hr hk d_M_init_195 (⟨rfl, ax, rl, rfl, hx, rfl⟩)
        · skip
          refine a_aload_n (pc' := 138) hc d_M_init_137 rfl rfl rfl ?_
          refine r_get (pc' := 141) hc hK hx 2 (v := .ref (ax 1)) (by decide) rfl fl_M_7 d_M_init_138 rfl ?_
          refine a_iload_n (pc' := 142) hc d_M_init_141 rfl rfl rfl ?_
          refine a_iconst (pc' := 143) (v := nI 1) hc d_M_init_142 rfl (by decide) ?_
          refine r_zast (pc' := 144) hc hK hx d129 (Or.inr rfl) (by omega) d_M_init_143 rfl ?_
          refine a_aload_n (pc' := 145) hc d_M_init_144 rfl rfl rfl ?_
          refine r_get (pc' := 148) hc hK hx 5 (v := .ref (ax 4)) (by decide) rfl fl_M_20 d_M_init_145 rfl ?_
          refine a_iconst (pc' := 149) (v := nI 3) hc d_M_init_148 rfl (by decide) ?_
          refine a_iload_n (pc' := 150) hc d_M_init_149 rfl rfl rfl ?_
          refine a_nmul (pc' := 151) hc d_M_init_150 rfl ?_
          refine a_iconst (pc' := 152) (v := nI 1) hc d_M_init_151 rfl (by decide) ?_
          refine r_iast (pc' := 153) (N := 15) hc hK hx 4 (3 * d129) (by decide) rfl (by omega) d_M_init_152 rfl ?_
          refine a_aload_n (pc' := 154) hc d_M_init_153 rfl rfl rfl ?_
          refine r_get (pc' := 157) hc hK hx 6 (v := .ref (ax 5)) (by decide) rfl fl_M_23 d_M_init_154 rfl ?_
          refine a_iconst (pc' := 158) (v := nI 3) hc d_M_init_157 rfl (by decide) ?_
          refine a_iload_n (pc' := 159) hc d_M_init_158 rfl rfl rfl ?_
          refine a_nmul (pc' := 160) hc d_M_init_159 rfl ?_
          refine a_iconst (pc' := 161) (v := nI 1) hc d_M_init_160 rfl (by decide) ?_
          refine r_iast (pc' := 162) (N := 15) hc hK hx 5 (3 * d129) (by decide) rfl (by omega) d_M_init_161 rfl ?_
          refine a_aload_n (pc' := 163) hc d_M_init_162 rfl rfl rfl ?_
          refine r_get (pc' := 166) hc hK hx 7 (v := .ref (ax 6)) (by decide) rfl fl_M_26 d_M_init_163 rfl ?_
          refine a_iload_n (pc' := 167) hc d_M_init_166 rfl rfl rfl ?_
          refine a_iconst (pc' := 168) (v := nI 1) hc d_M_init_167 rfl (by decide) ?_
          refine r_iast (pc' := 169) (N := 5) hc hK hx 6 d129 (by decide) rfl (by omega) d_M_init_168 rfl ?_
          refine a_ninc (pc' := 172) hc d_M_init_169 rfl rfl (by decide) ?_
          refine a_goto (tgt := 129) hc d_M_init_172 rfl ?_
          refine AW.tw (τ1 := tN (d129 + 1)) (tN_s) ?_
          exact AW.to rfl rfl rfl (ih129 (by omega))
      · skip
        refine a_aload_n (pc' := 109) hc d_M_init_108 rfl rfl rfl ?_
        refine r_get (pc' := 112) hc hK hx 4 (v := .ref (ax 3)) (by decide) rfl fl_M_17 d_M_init_109 rfl ?_
        refine a_bipush (pc' := 114) (v := nI 64) hc d_M_init_112 rfl (by decide) ?_
        refine a_iload_n (pc' := 115) hc d_M_init_114 rfl rfl rfl ?_
        refine a_nmul (pc' := 116) hc d_M_init_115 rfl ?_
        refine a_bipush (pc' := 118) (v := nI 60) hc d_M_init_116 rfl (by decide) ?_
        refine a_nadd (pc' := 119) hc d_M_init_118 rfl ?_
        refine a_iconst (pc' := 120) (v := -1) hc d_M_init_119 rfl (by decide) ?_
        refine r_iast (pc' := 121) (N := 1088) hc hK hx 3 ((64 * i102) + 60) (by decide) rfl (by omega) d_M_init_120 rfl ?_
        refine a_ninc (pc' := 124) hc d_M_init_121 rfl rfl (by decide) ?_
        refine a_goto (tgt := 102) hc d_M_init_124 rfl ?_
        refine AW.tw (τ1 := tM (i102 + 1)) (tM_s) ?_
        exact AW.to rfl rfl rfl (ih102 (by omega))
    · skip
      refine a_iload_n (pc' := 77) hc d_M_init_76 rfl rfl rfl ?_
      refine a_iconst (pc' := 78) (v := nI 2) hc d_M_init_77 rfl (by decide) ?_
      refine a_icmp_ge (pc' := 81) (tgt := 85) hc d_M_init_78 rfl rfl (fun h78 => ?_) (fun h78 => ?_)
      · skip
        refine a_iload_n (pc' := 86) hc d_M_init_85 rfl rfl rfl ?_
        refine a_bipush (pc' := 88) (v := nI 10) hc d_M_init_86 rfl (by decide) ?_
        refine a_icmp_le (pc' := 91) (tgt := 96) hc d_M_init_88 rfl rfl (fun h88 => ?_) (fun h88 => ?_)
        · skip
          refine a_iload_n (pc' := 97) hc d_M_init_96 rfl rfl rfl ?_
          refine AW.topi (y := nI E) (by rw [eE]; refine Eq.symm ?_; first | exact clN_lo (Int32.not_le.mp h78) | exact clN_hi (Int32.not_lt.mpr h78) (Int32.not_le.mp h88) | exact clN_in (Int32.not_lt.mpr h78) (Int32.not_lt.mpr h88)) ?_
          exact AW.to rfl rfl rfl (kcut76)
        · skip
          refine a_bipush (pc' := 93) (v := nI 10) hc d_M_init_91 rfl (by decide) ?_
          refine a_goto (tgt := 97) hc d_M_init_93 rfl ?_
          refine AW.topi (y := nI E) (by rw [eE]; refine Eq.symm ?_; first | exact clN_lo (Int32.not_le.mp h78) | exact clN_hi (Int32.not_lt.mpr h78) (Int32.not_le.mp h88) | exact clN_in (Int32.not_lt.mpr h78) (Int32.not_lt.mpr h88)) ?_
          exact AW.to rfl rfl rfl (kcut76)
      · skip
        refine a_iconst (pc' := 82) (v := nI 2) hc d_M_init_81 rfl (by decide) ?_
        refine a_goto (tgt := 97) hc d_M_init_82 rfl ?_
        refine AW.topi (y := nI E) (by rw [eE]; refine Eq.symm ?_; first | exact clN_lo (Int32.not_le.mp h78) | exact clN_hi (Int32.not_lt.mpr h78) (Int32.not_le.mp h88) | exact clN_in (Int32.not_lt.mpr h78) (Int32.not_lt.mpr h88)) ?_
        exact AW.to rfl rfl rfl (kcut76)
  · skip
    refine a_iload_n (pc' := 54) hc d_M_init_53 rfl rfl rfl ?_
    refine a_iconst (pc' := 55) (v := nI 2) hc d_M_init_54 rfl (by decide) ?_
    refine a_icmp_ge (pc' := 58) (tgt := 62) hc d_M_init_55 rfl rfl (fun h55 => ?_) (fun h55 => ?_)
    · skip
      refine a_iload_n (pc' := 63) hc d_M_init_62 rfl rfl rfl ?_
      refine a_iconst (pc' := 64) (v := nI 5) hc d_M_init_63 rfl (by decide) ?_
      refine a_icmp_le (pc' := 67) (tgt := 71) hc d_M_init_64 rfl rfl (fun h64 => ?_) (fun h64 => ?_)
      · skip
        refine a_iload_n (pc' := 72) hc d_M_init_71 rfl rfl rfl ?_
        refine AW.topi (y := nI n) (by rw [en]; refine Eq.symm ?_; first | exact clN_lo (Int32.not_le.mp h55) | exact clN_hi (Int32.not_lt.mpr h55) (Int32.not_le.mp h64) | exact clN_in (Int32.not_lt.mpr h55) (Int32.not_lt.mpr h64)) ?_
        exact AW.to rfl rfl rfl (kcut53)
      · skip
        refine a_iconst (pc' := 68) (v := nI 5) hc d_M_init_67 rfl (by decide) ?_
        refine a_goto (tgt := 72) hc d_M_init_68 rfl ?_
        refine AW.topi (y := nI n) (by rw [en]; refine Eq.symm ?_; first | exact clN_lo (Int32.not_le.mp h55) | exact clN_hi (Int32.not_lt.mpr h55) (Int32.not_le.mp h64) | exact clN_in (Int32.not_lt.mpr h55) (Int32.not_lt.mpr h64)) ?_
        exact AW.to rfl rfl rfl (kcut53)
    · skip
      refine a_iconst (pc' := 59) (v := nI 2) hc d_M_init_58 rfl (by decide) ?_
      refine a_goto (tgt := 72) hc d_M_init_59 rfl ?_
      refine AW.topi (y := nI n) (by rw [en]; refine Eq.symm ?_; first | exact clN_lo (Int32.not_le.mp h55) | exact clN_hi (Int32.not_lt.mpr h55) (Int32.not_le.mp h64) | exact clN_in (Int32.not_lt.mpr h55) (Int32.not_lt.mpr h64)) ?_
      exact AW.to rfl rfl rfl (kcut53)
