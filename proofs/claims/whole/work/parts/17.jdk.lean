variable {l : Launch} {D : va_G} {tys : List (ClassId × FieldType)} {A : Nat → Prop} {f : Nat → Option va_E}
theorem ct_JI_bitCount {x : Int32} : CC l y_JI_bitCount c_JI_bitCount 1 (some .int) 0 D tys A (f) [.int x] (some (.int (bcE x))) (f) := by
  refine CC.of (own := R_JI) rfl (by decide) (Nat.le_of_ble_eq_true rfl) (cat_all rfl) ?_
  intro pp ee ss mm aa bb me cd hc hK hO hr hk hA
  refine AW.to (lv' := [some (.int x)]) rfl rfl rfl ?_
  refine a_iload_n (pc' := 1) hc d_JI_bitCount_0 rfl rfl rfl ?_
  refine a_iload_n (pc' := 2) hc d_JI_bitCount_1 rfl rfl rfl ?_
  refine a_iconst (pc' := 3) (v := nI 1) hc d_JI_bitCount_2 rfl (by decide) ?_
  refine a_iushr (pc' := 4) hc d_JI_bitCount_3 rfl ?_
  refine a_ldcw (pc' := 7) hc kc_JI_265 d_JI_bitCount_4 rfl ?_
  refine a_iand (pc' := 8) hc d_JI_bitCount_7 rfl ?_
  refine a_isub (pc' := 9) hc d_JI_bitCount_8 rfl ?_
  refine a_istore_n (pc' := 10) hc d_JI_bitCount_9 rfl rfl (by decide) ?_
  refine a_iload_n (pc' := 11) hc d_JI_bitCount_10 rfl rfl rfl ?_
  refine a_ldcw (pc' := 14) hc kc_JI_266 d_JI_bitCount_11 rfl ?_
  refine a_iand (pc' := 15) hc d_JI_bitCount_14 rfl ?_
  refine a_iload_n (pc' := 16) hc d_JI_bitCount_15 rfl rfl rfl ?_
  refine a_iconst (pc' := 17) (v := nI 2) hc d_JI_bitCount_16 rfl (by decide) ?_
  refine a_iushr (pc' := 18) hc d_JI_bitCount_17 rfl ?_
  refine a_ldcw (pc' := 21) hc kc_JI_266 d_JI_bitCount_18 rfl ?_
  refine a_iand (pc' := 22) hc d_JI_bitCount_21 rfl ?_
  refine a_iadd (pc' := 23) hc d_JI_bitCount_22 rfl ?_
  refine a_istore_n (pc' := 24) hc d_JI_bitCount_23 rfl rfl (by decide) ?_
  refine a_iload_n (pc' := 25) hc d_JI_bitCount_24 rfl rfl rfl ?_
  refine a_iload_n (pc' := 26) hc d_JI_bitCount_25 rfl rfl rfl ?_
  refine a_iconst (pc' := 27) (v := nI 4) hc d_JI_bitCount_26 rfl (by decide) ?_
  refine a_iushr (pc' := 28) hc d_JI_bitCount_27 rfl ?_
  refine a_iadd (pc' := 29) hc d_JI_bitCount_28 rfl ?_
  refine a_ldcw (pc' := 32) hc kc_JI_267 d_JI_bitCount_29 rfl ?_
  refine a_iand (pc' := 33) hc d_JI_bitCount_32 rfl ?_
  refine a_istore_n (pc' := 34) hc d_JI_bitCount_33 rfl rfl (by decide) ?_
  refine a_iload_n (pc' := 35) hc d_JI_bitCount_34 rfl rfl rfl ?_
  refine a_iload_n (pc' := 36) hc d_JI_bitCount_35 rfl rfl rfl ?_
  refine a_bipush (pc' := 38) (v := nI 8) hc d_JI_bitCount_36 rfl (by decide) ?_
  refine a_iushr (pc' := 39) hc d_JI_bitCount_38 rfl ?_
  refine a_iadd (pc' := 40) hc d_JI_bitCount_39 rfl ?_
  refine a_istore_n (pc' := 41) hc d_JI_bitCount_40 rfl rfl (by decide) ?_
  refine a_iload_n (pc' := 42) hc d_JI_bitCount_41 rfl rfl rfl ?_
  refine a_iload_n (pc' := 43) hc d_JI_bitCount_42 rfl rfl rfl ?_
  refine a_bipush (pc' := 45) (v := nI 16) hc d_JI_bitCount_43 rfl (by decide) ?_
  refine a_iushr (pc' := 46) hc d_JI_bitCount_45 rfl ?_
  refine a_iadd (pc' := 47) hc d_JI_bitCount_46 rfl ?_
  refine a_istore_n (pc' := 48) hc d_JI_bitCount_47 rfl rfl (by decide) ?_
  refine a_iload_n (pc' := 49) hc d_JI_bitCount_48 rfl rfl rfl ?_
  refine a_bipush (pc' := 51) (v := nI 63) hc d_JI_bitCount_49 rfl (by decide) ?_
  refine a_iand (pc' := 52) hc d_JI_bitCount_51 rfl ?_
  exact a_iret hc hr hk d_JI_bitCount_52 (e_i (by first | rfl | (simp only []; done) | (simp []; done)) (rfl))
theorem ct_JA_fill {ca0 : ClassId} {a N : Nat} {g : Nat → Int32} {v : Int32} (h0 : tys[0]? = some (ca0, .int)) (hN : N < 2 ^ 31) (ha : f a = some (.inl (ca0, N, .inl g))) : CC l y_JA_fill c_JA_fill 4 none 0 D tys A f [.ref a, .int v] none (va_up f a (some (.inl (ca0, N, .inl (fun j => if j < N then v else g j))))) := by
  have hz : va_up f a (some (.inl (ca0, N, .inl (fun j => if j < 0 then v else g j)))) = f := by
    have e1 : (fun j => if j < 0 then v else g j) = g := by
      funext j
      rw [if_neg (by omega)]
    rw [e1, ← ha, va_up_id]
  refine CC.of (own := R_JA) rfl (by decide) (Nat.le_of_ble_eq_true rfl) (cat_all rfl) ?_
  intro pp ee ss mm aa bb me cd hc hK hO hr hk hA
  refine AW.to (lv' := [some (.ref a), some (.int v), none, none]) rfl rfl rfl ?_
  refine a_iconst (v := nI 0) (pc' := 1) hc d_JA_fill_0 rfl (by decide) ?_
  refine a_istore_n (pc' := 2) hc d_JA_fill_1 rfl rfl (by decide) ?_
  refine a_aload_n (pc' := 3) hc d_JA_fill_2 rfl rfl rfl ?_
  refine a_alen (pc' := 4) (x := (N, .inl g)) hc hK 0 ha h0 d_JA_fill_3 rfl ?_
  refine a_istore_n (pc' := 5) hc d_JA_fill_4 rfl rfl (by decide) ?_
  refine AW.loop N 0 (fun i => va_up f a (some (.inl (ca0, N, .inl (fun j => if j < i then v else g j))))) (fun i => [some (.ref a), some (.int v), some (.int (nI i)), some (.int (nI N))]) (Nat.zero_le _) hz rfl (fun i hle ih => ?_)
  try dsimp only at ih ⊢
  refine a_iload_n (pc' := 6) hc d_JA_fill_5 rfl rfl rfl ?_
  refine a_iload_n (pc' := 7) hc d_JA_fill_6 rfl rfl rfl ?_
  refine a_ncmp_ge (pc' := 10) (tgt := 20) hc d_JA_fill_7 rfl rfl (by omega) (by omega) (fun h7 => ?_) (fun h7 => ?_)
  · have hi : i = N := by omega
    subst i
    exact a_vret hc hr hk d_JA_fill_20 (e_v rfl)
  · refine a_aload_n (pc' := 11) hc d_JA_fill_10 rfl rfl rfl ?_
    refine a_iload_n (pc' := 12) hc d_JA_fill_11 rfl rfl rfl ?_
    refine a_iload_n (pc' := 13) hc d_JA_fill_12 rfl rfl rfl ?_
    refine a_iast (pc' := 14) hc hK (N := N) (g := fun j => if j < i then v else g j) 0 (va_up_self _ _ _) h0 (vp_in_nI h7 hN) d_JA_fill_13 rfl ?_
    rw [nI_clamp (by omega), va_up_up]
    have e2 : upd (fun j => if j < i then v else g j) i v = fun j => if j < i + 1 then v else g j := by
      funext j
      by_cases hj : j = i
      · subst hj
        rw [pk_us, if_pos (by omega)]
      · rw [pk_un hj]
        by_cases h2 : j < i
        · rw [if_pos h2, if_pos (by omega)]
        · rw [if_neg h2, if_neg (by omega)]
    rw [e2]
    refine a_ninc (pc' := 17) hc d_JA_fill_14 rfl rfl (by decide) ?_
    refine a_goto (tgt := 5) hc d_JA_fill_17 rfl ?_
    exact AW.to rfl rfl rfl (ih (by omega))
