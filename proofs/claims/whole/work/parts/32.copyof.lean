/-! Arrays.copyOf, and what it leaves of the class's world. -/
def CpPost (cA : ClassId) (q N M : Nat) (P : Nat → Int32) : Option Value → (Nat → Option va_E) → Prop := fun v f1 => ∃ (r : Nat) (P' : Nat → Int32), v = some (.ref r) ∧ r ≠ q ∧ f1 = va_up (one q (.inl (cA, N, .inl P))) r (some (.inl (cA, M, .inl P'))) ∧ ∀ i, i < M → P' i = if i < N then P i else 0
theorem ct_JA_copyOf {l : Launch} {D : va_G} {tys : List (ClassId × FieldType)} {A : Nat → Prop} {f : Nat → Option va_E} {cA : ClassId} {q N M : Nat} {P : Nat → Int32} (h0 : tys[0]? = some (cA, .int)) (hN : N ≤ 12) (hM : M ≤ 12) (hf : f q = some (.inl (cA, N, .inl P))) : CT l y_JA_copyOf (Cond.code y_JA_copyOf c_JA_copyOf 3 (some (.array .int)) :: WS) (ra 1 1 12) D vcl tys A f [.ref q, .int (nI M)] (JP f (one q (.inl (cA, N, .inl P))) (CpPost cA q N M P)) 1 12 := by
  refine CT.ofSmall (own := R_JA) rfl (by decide) (Nat.le_of_ble_eq_true rfl) (cat_all rfl) (fun a x ha => by obtain ⟨rfl, rfl⟩ := one_eq ha; exact hf) ?_
  intro pp ee ss mm aa bb me cd hc hK hO hr hk hA
  refine AW.to (lv' := [some (.ref q), some (.int (nI M)), none]) rfl rfl rfl ?_
  refine a_iload_n (pc' := 1) hc d_JA_copyOf_0 rfl rfl rfl ?_
  refine a_aload_n (pc' := 2) hc d_JA_copyOf_1 rfl rfl rfl ?_
  refine a_alen (pc' := 3) (x := (N, .inl P)) hc hK 0 one_at h0 d_JA_copyOf_2 rfl ?_
  refine a_ncmp_ne (a := M) (b := N) (pc' := 6) (tgt := 14) hc d_JA_copyOf_3 rfl rfl (by omega) (by omega) (fun h3 => ?_) (fun h3 => ?_)
  · refine a_iload_n (pc' := 15) hc d_JA_copyOf_14 rfl rfl rfl ?_
    refine a_newa (pc' := 17) (atype := .int) (N' := M) hc hK hA (hc.2.2.2.2 _ (List.mem_cons_of_mem _ kc_arr_int)) 0 h0 rfl (fun h => h) (a0 := (M, .inl (fun _ => 0))) rfl rfl (by omega) (by decide) (by decide) (by show 0 + M ≤ 12; omega) d_JA_copyOf_15 rfl (fun r hr0 _ => ?_)
    have hne : r ≠ q := fun e => by rw [e, one_at] at hr0; cases hr0
    refine a_astore_n (pc' := 18) hc d_JA_copyOf_17 rfl rfl (by decide) ?_
    refine a_aload_n (pc' := 19) hc d_JA_copyOf_18 rfl rfl rfl ?_
    refine a_iconst (pc' := 20) (v := nI 0) hc d_JA_copyOf_19 rfl (by decide) ?_
    refine a_aload_n (pc' := 21) hc d_JA_copyOf_20 rfl rfl rfl ?_
    refine a_iconst (pc' := 22) (v := nI 0) hc d_JA_copyOf_21 rfl (by decide) ?_
    refine a_aload_n (pc' := 23) hc d_JA_copyOf_22 rfl rfl rfl ?_
    refine a_alen (pc' := 24) (x := (N, .inl P)) hc hK 0 (by rw [va_up_ne _ _ hne.symm]; exact one_at) h0 d_JA_copyOf_23 rfl ?_
    refine a_iload_n (pc' := 25) hc d_JA_copyOf_24 rfl rfl rfl ?_
    refine a_mmin (pc' := 28) (x := nI N) (y := nI M) hc ml_JA_304 (by decide) (Nat.le_of_ble_eq_true rfl) (by decide) (by show 0 + M ≤ 12; omega) d_JA_copyOf_25 rfl ?_
    refine AW.topi (y := nI (if M < N then M else N)) (by
      by_cases h : M < N
      · rw [if_pos ((nI_ltI (by omega) (by omega)).mpr h), if_pos h]
      · rw [if_neg (fun q => h ((nI_ltI (by omega) (by omega)).mp q)), if_neg h]) ?_
    have hmin : (if M < N then M else N) ≤ N ∧ (if M < N then M else N) ≤ M := by split <;> omega
    refine a_copyi (pc' := 31) hc hK h0 (M := M) (g1 := fun _ => 0) hne hmin.1 hmin.2 (by omega) (by decide) (by decide +kernel) d_JA_copyOf_28 rfl ?_
    refine a_aload_n (pc' := 32) hc d_JA_copyOf_31 rfl rfl rfl ?_
    refine AW.widen (k' := 1) (n' := 12) (by omega) (by omega) ?_
    refine a_aret (x := some r) hc hr (Or.inr ⟨_, rfl⟩) hk d_JA_copyOf_32 ⟨r, _, rfl, hne, rfl, fun i hi => ?_⟩
    by_cases h : i < (if M < N then M else N)
    · rw [pk_cpy_in (by omega) (by omega), if_pos (by omega)]
      congr 1
      omega
    · rw [pk_cpy_out (by omega)]
      have : ¬ i < N := by
        intro hq
        split at h <;> omega
      rw [if_neg this]
  · subst h3
    refine a_aload_n (pc' := 7) hc d_JA_copyOf_6 rfl rfl rfl ?_
    refine a_clone (pc' := 10) hc hK hO hA h0 (by decide) (by decide) (by decide) (by show 0 + M ≤ 12; omega) d_JA_copyOf_7 rfl (fun r hne => ?_)
    refine a_castI (pc' := 13) hc hK h0 (va_up_self _ _ _) d_JA_copyOf_10 rfl ?_
    refine AW.widen (k' := 1) (n' := 12) (by omega) (by omega) ?_
    exact a_aret (x := some r) hc hr (Or.inr ⟨_, rfl⟩) hk d_JA_copyOf_13 ⟨r, P, rfl, hne, rfl, fun i hi => by rw [if_pos hi]⟩
theorem join_cw {bx rl : Nat → Nat} {ca : Nat → ClassId} {n E q r : Nat} {τ : TS} {κ : Nat → Option Nat} {tk : Nat → Int32} {h : Nat → Option va_E} {X Y : va_E} (hx : ∀ i, i < 3 + 4 * n → rl (bx i) = i) (hq : cw bx rl ca n E τ κ tk h q = some X) (hr : cw bx rl ca n E τ κ tk h r = none) : join (cw bx rl ca n E τ κ tk h) (one q X) (va_up (one q X) r (some Y)) = cw bx rl ca n E τ κ tk (va_up h r (some Y)) := by
  rw [cw_uph (cw_new hx hr)]
  funext a
  by_cases h1 : a = r
  · subst h1
    rw [join_some (va_up_self _ _ _), va_up_self]
  · rw [va_up_ne _ _ h1]
    by_cases h2 : a = q
    · subst h2
      rw [join_some (x := X) (by rw [va_up_ne _ _ h1]; exact one_at), hq]
    · have e1 : one q X a = none := va_up_ne _ _ h2
      rw [join_none (by rw [va_up_ne _ _ h1]; exact e1) e1]
