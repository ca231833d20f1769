variable {l : Launch} {D : va_G} {tys : List (ClassId × FieldType)} {A : Nat → Prop} {ca : Nat → ClassId} {f : Nat → Option va_E}
theorem ctg_L_init {a va : Nat} (ha : f a = some (.inr (2, [.null, .null]))) : CT l y_L_init (Cond.code y_L_init c_L_init 3 none :: WS) (ra 1 0 0) D vcl tys A f [.ref a, .ref va, .null] (fun v' f' => v' = none ∧ Keep f f' a ∧ f' a = some (.inr (2, [.ref va, .null]))) 0 0 := by
  refine CT.ofN (own := R_L) rfl (by decide) (Nat.le_of_ble_eq_true rfl) (cat_all rfl) ?_
  intro pp ee ss mm aa bb me cd hc hK hO hr hk hnm hA
  refine AW.to (lv' := [some (.ref a), some (.ref va), some (.null)]) rfl rfl rfl ?_
  refine a_aload_n (pc' := 1) hc d_L_init_0 rfl rfl rfl ?_
  refine c_oinit (pc' := 4) hc oi_L (by decide) (by decide) d_L_init_1 rfl ?_
  refine AW.to (st' := []) rfl rfl rfl ?_
  refine a_aload_n (pc' := 5) hc d_L_init_4 rfl rfl rfl ?_
  refine a_aload_n (pc' := 6) hc d_L_init_5 rfl rfl rfl ?_
  refine n_puti hc hK in_L ty_L ty_L_ok nm_L rfl ha 0 (by decide) fl_L_9 (Or.inr ⟨rfl, hnm, rfl⟩) (rfl) (rfl) (Nat.le_of_ble_eq_true rfl) d_L_init_6 rfl (fun f1 x1 o1 => ?_)
  have o1 : f1 a = some (.inr (2, [.ref va, .null])) := o1
  refine AW.to (st' := []) rfl rfl rfl ?_
  refine a_aload_n (pc' := 10) hc d_L_init_9 rfl rfl rfl ?_
  refine a_aload_nN (pc' := 11) hc d_L_init_10 rfl rfl rfl ?_
  refine n_puti hc hK in_L ty_L ty_L_ok nm_L rfl o1 1 (by decide) fl_L_15 (Or.inr ⟨rfl, hnm, rfl⟩) (rfl) (rfl) (Nat.le_of_ble_eq_true rfl) d_L_init_11 rfl (fun f2 x2 o2 => ?_)
  have o2 : f2 a = some (.inr (2, [.ref va, .null])) := o2
  refine AW.to (st' := []) rfl rfl rfl ?_
  refine AW.widen (k' := 0) (n' := 0) (by omega) (by omega) ?_
  exact a_vret hc hr hk d_L_init_14 (⟨rfl, fun b x h1 h2 => x2 b x h1 (x1 b x h1 h2), o2⟩)
theorem ctg_C_init {a q x y : Nat} (ha : f a = some (.inr (0, [.int 0, .int 0, .null]))) : CT l y_C_init (Cond.code y_C_init c_C_init 4 none :: WS) (ra 1 0 0) D vcl tys A f [.ref a, .int (nI x), .int (nI y), .ref q] (fun v' f' => v' = none ∧ Keep f f' a ∧ f' a = some (.inr (0, [.int (nI x), .int (nI y), .ref q]))) 0 0 := by
  refine CT.ofN (own := R_C) rfl (by decide) (Nat.le_of_ble_eq_true rfl) (cat_all rfl) ?_
  intro pp ee ss mm aa bb me cd hc hK hO hr hk hnm hA
  refine AW.to (lv' := [some (.ref a), some (.int (nI x)), some (.int (nI y)), some (.ref q)]) rfl rfl rfl ?_
  refine a_aload_n (pc' := 1) hc d_C_init_0 rfl rfl rfl ?_
  refine c_oinit (pc' := 4) hc oi_C (by decide) (by decide) d_C_init_1 rfl ?_
  refine AW.to (st' := []) rfl rfl rfl ?_
  refine a_aload_n (pc' := 5) hc d_C_init_4 rfl rfl rfl ?_
  refine a_iload_n (pc' := 6) hc d_C_init_5 rfl rfl rfl ?_
  refine n_puti hc hK in_C ty_C ty_C_ok nm_C rfl ha 0 (by decide) fl_C_7 (Or.inr ⟨rfl, hnm, rfl⟩) (rfl) (rfl) (Nat.le_of_ble_eq_true rfl) d_C_init_6 rfl (fun f1 x1 o1 => ?_)
  have o1 : f1 a = some (.inr (0, [.int (nI x), .int 0, .null])) := o1
  refine AW.to (st' := []) rfl rfl rfl ?_
  refine a_aload_n (pc' := 10) hc d_C_init_9 rfl rfl rfl ?_
  refine a_iload_n (pc' := 11) hc d_C_init_10 rfl rfl rfl ?_
  refine n_puti hc hK in_C ty_C ty_C_ok nm_C rfl o1 1 (by decide) fl_C_13 (Or.inr ⟨rfl, hnm, rfl⟩) (rfl) (rfl) (Nat.le_of_ble_eq_true rfl) d_C_init_11 rfl (fun f2 x2 o2 => ?_)
  have o2 : f2 a = some (.inr (0, [.int (nI x), .int (nI y), .null])) := o2
  refine AW.to (st' := []) rfl rfl rfl ?_
  refine a_aload_n (pc' := 15) hc d_C_init_14 rfl rfl rfl ?_
  refine a_aload_n (pc' := 16) hc d_C_init_15 rfl rfl rfl ?_
  refine n_puti hc hK in_C ty_C ty_C_ok nm_C rfl o2 2 (by decide) fl_C_16 (Or.inr ⟨rfl, hnm, rfl⟩) (rfl) (rfl) (Nat.le_of_ble_eq_true rfl) d_C_init_16 rfl (fun f3 x3 o3 => ?_)
  have o3 : f3 a = some (.inr (0, [.int (nI x), .int (nI y), .ref q])) := o3
  refine AW.to (st' := []) rfl rfl rfl ?_
  refine AW.widen (k' := 0) (n' := 0) (by omega) (by omega) ?_
  exact a_vret hc hr hk d_C_init_19 (⟨rfl, fun b x h1 h2 => x3 b x h1 (x2 b x h1 (x1 b x h1 h2)), o3⟩)
theorem ct_D_init (hty : TYS tys ca) {E c q0 : Nat} {fsC : List Value} (hE : E ≤ 10) (h0 : f q0 = some (.inr (1, [.null, .null, .null, .int 0, .int 0]))) (hC : f c = some (.inr (0, fsC))) : CT l y_D_init (Cond.code y_D_init c_D_init 3 none :: WS) (ra 1 3 46) D vcl tys A f [.ref q0, .int (nI E), .ref c] (fun v' f' => v' = none ∧ ∃ q1 q2 q3 : Nat, (f q1 = none ∧ f q2 = none ∧ f q3 = none) ∧ (q2 ≠ q1 ∧ q3 ≠ q1 ∧ q3 ≠ q2) ∧ Keep f f' q0 ∧ f' q0 = some (.inr (1, [.ref q1, .ref q2, .ref q3, .int (nI 1), .int (nI 1)])) ∧ f' q1 = some (.inl (ca 0, 4 * E, .inl (fun _ => 0))) ∧ f' q2 = some (.inl (ca 3, 3, .inr (.inr (.inr (.inr (va_up (fun _ => none) 0 (some c))))))) ∧ f' q3 = some (.inl (ca 1, 3, .inl (fun _ => 0)))) 3 46 := by
  have nc : c ≠ q0 := fun e => by rw [e, h0] at hC; cases hC
  refine CT.ofN (own := R_D) rfl (by decide) (Nat.le_of_ble_eq_true rfl) (cat_all rfl) ?_
  intro pp ee ss mm aa bb me cd hc hK hO hr hk hnm hA
  refine AW.to (lv' := [some (.ref q0), some (.int (nI E)), some (.ref c)]) rfl rfl rfl ?_
  refine a_aload_n (pc' := 1) hc d_D_init_0 rfl rfl rfl ?_
  refine c_oinit (pc' := 4) hc oi_D (by decide) (by decide) d_D_init_1 rfl ?_
  refine AW.to (st' := []) rfl rfl rfl ?_
  refine a_aload_n (pc' := 5) hc d_D_init_4 rfl rfl rfl ?_
  refine a_iload_n (pc' := 6) hc d_D_init_5 rfl rfl rfl ?_
  refine a_iconst (pc' := 7) (v := nI 4) hc d_D_init_6 rfl (by decide) ?_
  refine a_nmul (pc' := 8) hc d_D_init_7 rfl ?_
  refine AW.topi (y := nI (4 * E)) (by rw [Nat.mul_comm]) ?_
  refine a_newa (pc' := 10) (atype := .int) (N' := 4 * E) hc hK hA (hc.2.2.2.2 _ (List.mem_cons_of_mem _ kc_arr_int)) 0 hty.1 rfl (fun h => h) (a0 := (4 * E, .inl (fun _ => 0))) rfl rfl (by omega) (by decide) (by decide) (by show 0 + 4 * E ≤ 46; omega) d_D_init_8 rfl (fun q1 n1 _ => ?_)
  refine AW.widen (k' := 1) (n' := 40) (by omega) (by omega) ?_
  refine AW.to (st' := [.ref q1, .ref q0]) rfl rfl rfl ?_
  refine n_after hc hK in_D ty_D ty_D_ok nm_D rfl h0 n1 0 (by decide) fl_D_9 ⟨rfl, hnm, rfl⟩ rfl rfl (Nat.le_of_ble_eq_true rfl) d_D_init_10 rfl (fun f1 x1 o1 a1 => ?_)
  have o1 : f1 q0 = some (.inr (1, [.ref q1, .null, .null, .int 0, .int 0])) := o1
  refine AW.to (st' := []) rfl rfl rfl ?_
  refine a_aload_n (pc' := 14) hc d_D_init_13 rfl rfl rfl ?_
  refine a_iconst (pc' := 15) (v := nI 3) hc d_D_init_14 rfl (by decide) ?_
  refine a_newq (pc' := 18) (N' := 3) hc hK hA (hc.2.2.2.2 _ (List.mem_cons_of_mem _ cl_D_15)) hO.2.1.use 3 hty.2.2.2.1 rfl (by omega) (by decide) (by decide) d_D_init_15 rfl (fun q2 n2 _ => ?_)
  refine AW.to (st' := [.ref q2, .ref q0]) rfl rfl rfl ?_
  refine n_after hc hK in_D ty_D ty_D_ok nm_D rfl o1 n2 1 (by decide) fl_D_17 ⟨rfl, hnm, rfl⟩ rfl rfl (Nat.le_of_ble_eq_true rfl) d_D_init_18 rfl (fun f2 x2 o2 a2 => ?_)
  have o2 : f2 q0 = some (.inr (1, [.ref q1, .ref q2, .null, .int 0, .int 0])) := o2
  refine AW.to (st' := []) rfl rfl rfl ?_
  refine a_aload_n (pc' := 22) hc d_D_init_21 rfl rfl rfl ?_
  refine a_iconst (pc' := 23) (v := nI 3) hc d_D_init_22 rfl (by decide) ?_
  refine a_newa (pc' := 25) (atype := .boolean) (N' := 3) hc hK hA (hc.2.2.2.2 _ (List.mem_cons_of_mem _ kc_arr_boolean)) 1 hty.2.1 rfl (fun h => h) (a0 := (3, .inl (fun _ => 0))) rfl rfl (by omega) (by decide) (by decide) (by decide) d_D_init_23 rfl (fun q3 n3 _ => ?_)
  refine AW.to (st' := [.ref q3, .ref q0]) rfl rfl rfl ?_
  refine n_after hc hK in_D ty_D ty_D_ok nm_D rfl o2 n3 2 (by decide) fl_D_21 ⟨rfl, hnm, rfl⟩ rfl rfl (Nat.le_of_ble_eq_true rfl) d_D_init_25 rfl (fun f3 x3 o3 a3 => ?_)
  have o3 : f3 q0 = some (.inr (1, [.ref q1, .ref q2, .ref q3, .int 0, .int 0])) := o3
  refine AW.to (st' := []) rfl rfl rfl ?_
  refine a_aload_n (pc' := 29) hc d_D_init_28 rfl rfl rfl ?_
  have e1 : q1 ≠ q0 := fun e => by rw [e, h0] at n1; cases n1
  have e2 : q2 ≠ q0 := fun e => by rw [e, o1] at n2; cases n2
  have e3 : q3 ≠ q0 := fun e => by rw [e, o2] at n3; cases n3
  have e21 : q2 ≠ q1 := fun e => by rw [e, a1] at n2; cases n2
  have a12 := x2 _ _ e1 a1
  have e31 : q3 ≠ q1 := fun e => by rw [e, a12] at n3; cases n3
  have e32 : q3 ≠ q2 := fun e => by rw [e, a2] at n3; cases n3
  have m2 : f q2 = none := by
    cases hq : f q2 with
    | none => rfl
    | some y => rw [x1 _ _ e2 hq] at n2; cases n2
  have m3 : f q3 = none := by
    cases hq : f q3 with
    | none => rfl
    | some y => rw [x2 _ _ e3 (x1 _ _ e3 hq)] at n3; cases n3
  have C3 := x3 _ _ nc (x2 _ _ nc (x1 _ _ nc hC))
  refine a_get (pc' := 32) hc hK (C := R_D) (T := T_D) (N := 5) (ci := 1) (fun w h => List.mem_cons_of_mem _ (in_D w h)) o3 rfl 1 (by decide) (hc.2.2.2.2 _ (List.mem_cons_of_mem _ fl_D_17)) rfl (v := .ref q2) rfl d_D_init_29 rfl ?_
  refine AW.to (st' := [.ref q2]) rfl rfl rfl ?_
  refine a_iconst (pc' := 33) (v := nI 0) hc d_D_init_32 rfl (by decide) ?_
  refine a_aload_n (pc' := 34) hc d_D_init_33 rfl rfl rfl ?_
  have a23 := x3 _ _ e2 a2
  refine a_aast (pc' := 35) hc hK (N := 3) (ci := 0) (r := (R_C, T_C, 3)) (vs := fsC) 3 a23 hty.2.2.2.1 C3 rfl (i := nI 0) (vp_in_nI (by decide) (by decide)) d_D_init_34 rfl (AW.at (fun f4 x4 a4 => ?_))
  have o4 := x4 _ _ e2.symm o3
  refine AW.to (st' := []) rfl rfl rfl ?_
  refine a_aload_n (pc' := 36) hc d_D_init_35 rfl rfl rfl ?_
  refine a_iconst (pc' := 37) (v := nI 1) hc d_D_init_36 rfl (by decide) ?_
  refine n_puti hc hK in_D ty_D ty_D_ok nm_D rfl o4 3 (by decide) fl_D_25 (Or.inl rfl) (rfl) (rfl) (Nat.le_of_ble_eq_true rfl) d_D_init_37 rfl (fun f5 x5 o5 => ?_)
  have o5 : f5 q0 = some (.inr (1, [.ref q1, .ref q2, .ref q3, .int (nI 1), .int 0])) := o5
  refine AW.to (st' := []) rfl rfl rfl ?_
  refine a_aload_n (pc' := 41) hc d_D_init_40 rfl rfl rfl ?_
  refine a_iconst (pc' := 42) (v := nI 1) hc d_D_init_41 rfl (by decide) ?_
  refine n_puti hc hK in_D ty_D ty_D_ok nm_D rfl o5 4 (by decide) fl_D_29 (Or.inl rfl) (by decide) (by decide) (Nat.le_of_ble_eq_true rfl) d_D_init_42 rfl (fun f6 x6 o6 => ?_)
  have o6 : f6 q0 = some (.inr (1, [.ref q1, .ref q2, .ref q3, .int (nI 1), .int (nI 1)])) := o6
  refine AW.to (st' := []) rfl rfl rfl ?_
  refine AW.widen (k' := 3) (n' := 46) (by omega) (by omega) ?_
  refine a_vret hc hr hk d_D_init_45 (⟨rfl, q1, q2, q3, ⟨n1, m2, m3⟩, ⟨e21, e31, e32⟩, fun b x h1 h2 => ?_, o6, x6 _ _ e1 (x5 _ _ e1 (x4 _ _ e21.symm (x3 _ _ e1 a12))), x6 _ _ e2 (x5 _ _ e2 a4), x6 _ _ e3 (x5 _ _ e3 (x4 _ _ e32 a3))⟩)
  have hb : b ≠ q2 := fun e => by rw [e, m2] at h2; cases h2
  exact x6 _ _ h1 (x5 _ _ h1 (x4 _ _ hb (x3 _ _ h1 (x2 _ _ h1 (x1 _ _ h1 h2)))))
