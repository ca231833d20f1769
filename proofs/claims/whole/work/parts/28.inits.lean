theorem CC.ofN {l : Launch} {D : va_G} {tys : List (ClassId × FieldType)} {A : Nat → Prop} {k : Nat} {f f1 : Nat → Option va_E} {cc : ByteArray} {own : String} {y : MethodName} {maxL : Nat} {ret : Option FieldType} {As : List Value} {v : Option Value} (ho : y.cls = own) (hpl : plainName own = true) (hlen : (lg_sl As).length ≤ maxL) (hcat : ∀ v ∈ As, v.category = 1)
    (body : ∀ (p : Program) (e : Env) (s : State) (m : MethodId) (args : Array Value) (below : List Frame) (meth : Method) (c : Code), CallFix p m c cc maxL s args (Cond.code y cc maxL ret :: WS) own → va_K D vcl tys s → AO3 s → meth.sig.returnType = ret → meth.locks = false → meth.name = y.name → (∀ q : Nat, s.heap.size ≤ q → A q) →
      AW p l e (rk k) s m args below meth c D vcl A maxL (MQ below (CQ D vcl A (fun v' f' => v' = v ∧ f' = f1)) args s 0 0 A) f 0 0 0 (al_in As maxL) []) : CC l y cc maxL ret k D tys A f As v f1 :=
  CT.ofAW (by rw [ho]; exact hpl) rfl hlen hcat (fun p e s m args below meth c hc hK hO hr hk hnm hA => body p e s m args below meth c (by rw [ho] at hc; exact hc) hK hO hr hk hnm hA)
theorem CT.of {l : Launch} {D : va_G} {tys : List (ClassId × FieldType)} {A : Nat → Prop} {k mc ms : Nat} {f : Nat → Option va_E} {cc : ByteArray} {own : String} {y : MethodName} {maxL : Nat} {ret : Option FieldType} {As : List Value} {post : Option Value → (Nat → Option va_E) → Prop} (ho : y.cls = own) (hpl : plainName own = true) (hlen : (lg_sl As).length ≤ maxL) (hcat : ∀ v ∈ As, v.category = 1)
    (body : ∀ (p : Program) (e : Env) (s : State) (m : MethodId) (args : Array Value) (below : List Frame) (meth : Method) (c : Code), CallFix p m c cc maxL s args (Cond.code y cc maxL ret :: WS) own → va_K D vcl tys s → AO3 s → meth.sig.returnType = ret → meth.locks = false → (∀ q : Nat, s.heap.size ≤ q → A q) →
      AW p l e (ra k mc ms) s m args below meth c D vcl A maxL (MQ below (CQ D vcl A post) args s mc ms A) f 0 0 0 (al_in As maxL) []) : CT l y (Cond.code y cc maxL ret :: WS) (ra k mc ms) D vcl tys A f As post mc ms :=
  CT.ofAW (by rw [ho]; exact hpl) rfl hlen hcat (fun p e s m args below meth c hc hK hO hr hk _ hA => body p e s m args below meth c (by rw [ho] at hc; exact hc) hK hO hr hk hA)
variable {l : Launch} {D : va_G} {tys : List (ClassId × FieldType)} {A : Nat → Prop} {bx rl : Nat → Nat} {ca : Nat → ClassId} {n E : Nat} {τ : TS} {κ : Nat → Option Nat} {tk : Nat → Int32} {h : Nat → Option va_E}
theorem ct_C_init (hx : CX bx rl ca tys n E) (hh : HD bx n h) {a : Nat} {num : Int32} {mark : Int32} {la : Nat} (ha : h a = some (.inr (0, [.int 0, .int 0, .null]))) : CC l y_C_init c_C_init 4 none 1 D tys A (cw bx rl ca n E τ κ tk h) [.ref a, .int num, .int mark, .ref la] none (cw bx rl ca n E τ κ tk (va_up h a (some (.inr (0, [.int num, .int mark, .ref la]))))) := by
  refine CC.ofN (own := R_C) rfl (by decide) (Nat.le_of_ble_eq_true rfl) (cat_all rfl) ?_
  intro pp ee ss mm aa bb me cd hc hK hO hr hk hnm hA
  refine AW.to (lv' := [some (.ref a), some (.int num), some (.int mark), some (.ref la)]) rfl rfl rfl ?_
  refine a_aload_n (pc' := 1) hc d_C_init_0 rfl rfl rfl ?_
  refine c_oinit (pc' := 4) hc oi_C (by decide) (by decide) d_C_init_1 rfl ?_
  refine a_aload_n (pc' := 5) hc d_C_init_4 rfl rfl rfl ?_
  refine a_iload_n (pc' := 6) hc d_C_init_5 rfl rfl rfl ?_
  refine c_putH (pc' := 9) hc hK in_C ty_C ty_C_ok nm_C rfl hh ha 0 (by decide) ⟨rfl, hnm, rfl⟩ (rfl) (rfl) (Nat.le_of_ble_eq_true rfl) fl_C_7 d_C_init_6 rfl ?_
  refine AW.to (f' := cw bx rl ca n E τ κ tk (va_up h a (some (.inr (0, [.int num, .int 0, .null]))))) (rfl) rfl rfl ?_
  refine a_aload_n (pc' := 10) hc d_C_init_9 rfl rfl rfl ?_
  refine a_iload_n (pc' := 11) hc d_C_init_10 rfl rfl rfl ?_
  refine c_putH (pc' := 14) hc hK in_C ty_C ty_C_ok nm_C rfl (hh.up (hh.off ha)) (va_up_self _ _ _) 1 (by decide) ⟨rfl, hnm, rfl⟩ (rfl) (rfl) (Nat.le_of_ble_eq_true rfl) fl_C_13 d_C_init_11 rfl ?_
  refine AW.to (f' := cw bx rl ca n E τ κ tk (va_up h a (some (.inr (0, [.int num, .int mark, .null]))))) (congrArg (cw bx rl ca n E τ κ tk) (va_up_up _ _ _ _).symm) rfl rfl ?_
  refine a_aload_n (pc' := 15) hc d_C_init_14 rfl rfl rfl ?_
  refine a_aload_n (pc' := 16) hc d_C_init_15 rfl rfl rfl ?_
  refine c_putH (pc' := 19) hc hK in_C ty_C ty_C_ok nm_C rfl (hh.up (hh.off ha)) (va_up_self _ _ _) 2 (by decide) ⟨rfl, hnm, rfl⟩ (rfl) (rfl) (Nat.le_of_ble_eq_true rfl) fl_C_16 d_C_init_16 rfl ?_
  refine AW.to (f' := cw bx rl ca n E τ κ tk (va_up h a (some (.inr (0, [.int num, .int mark, .ref la]))))) (congrArg (cw bx rl ca n E τ κ tk) (va_up_up _ _ _ _).symm) rfl rfl ?_
  exact a_vret hc hr hk d_C_init_19 (e_v rfl)
theorem ct_L_init (hx : CX bx rl ca tys n E) (hh : HD bx n h) {a : Nat} {va : Nat} {mv : Option Nat} (ha : h a = some (.inr (2, [.null, .null]))) : CC l y_L_init c_L_init 3 none 1 D tys A (cw bx rl ca n E τ κ tk h) [.ref a, .ref va, va_rf mv] none (cw bx rl ca n E τ κ tk (va_up h a (some (.inr (2, [.ref va, va_rf mv]))))) := by
  refine CC.ofN (own := R_L) rfl (by decide) (by cases mv <;> exact Nat.le_of_ble_eq_true rfl) (fun v hv => by simp only [List.mem_cons, List.not_mem_nil, or_false] at hv; rcases hv with rfl | rfl | rfl <;> first | rfl | (cases mv <;> rfl)) ?_
  intro pp ee ss mm aa bb me cd hc hK hO hr hk hnm hA
  refine AW.to (lv' := [some (.ref a), some (.ref va), some (va_rf mv)]) rfl rfl rfl ?_
  refine a_aload_n (pc' := 1) hc d_L_init_0 rfl rfl rfl ?_
  refine c_oinit (pc' := 4) hc oi_L (by decide) (by decide) d_L_init_1 rfl ?_
  refine a_aload_n (pc' := 5) hc d_L_init_4 rfl rfl rfl ?_
  refine a_aload_n (pc' := 6) hc d_L_init_5 rfl rfl rfl ?_
  refine c_putH (pc' := 9) hc hK in_L ty_L ty_L_ok nm_L rfl hh ha 0 (by decide) ⟨rfl, hnm, rfl⟩ (rfl) (rfl) (Nat.le_of_ble_eq_true rfl) fl_L_9 d_L_init_6 rfl ?_
  refine AW.to (f' := cw bx rl ca n E τ κ tk (va_up h a (some (.inr (2, [.ref va, .null]))))) (rfl) rfl rfl ?_
  refine a_aload_n (pc' := 10) hc d_L_init_9 rfl rfl rfl ?_
  refine a_aload_nq (pc' := 11) hc d_L_init_10 rfl rfl rfl ?_
  refine c_putH (pc' := 14) hc hK in_L ty_L ty_L_ok nm_L rfl (hh.up (hh.off ha)) (va_up_self _ _ _) 1 (by decide) ⟨rfl, hnm, rfl⟩ (by cases mv <;> rfl) (by cases mv <;> rfl) (Nat.le_of_ble_eq_true rfl) fl_L_15 d_L_init_11 rfl ?_
  refine AW.to (f' := cw bx rl ca n E τ κ tk (va_up h a (some (.inr (2, [.ref va, va_rf mv]))))) (congrArg (cw bx rl ca n E τ κ tk) (va_up_up _ _ _ _).symm) rfl rfl ?_
  exact a_vret hc hr hk d_L_init_14 (e_v rfl)
theorem ct_U_init (hx : CX bx rl ca tys n E) (hh : HD bx n h) {a : Nat} {w : Int32} {s : Int32} {rc : Int32} {pl : Nat} (ha : h a = some (.inr (3, [.int 0, .int 0, .int 0, .null]))) : CC l y_U_init c_U_init 5 none 1 D tys A (cw bx rl ca n E τ κ tk h) [.ref a, .int w, .int s, .int rc, .ref pl] none (cw bx rl ca n E τ κ tk (va_up h a (some (.inr (3, [.int w, .int s, .int rc, .ref pl]))))) := by
  refine CC.ofN (own := R_U) rfl (by decide) (Nat.le_of_ble_eq_true rfl) (cat_all rfl) ?_
  intro pp ee ss mm aa bb me cd hc hK hO hr hk hnm hA
  refine AW.to (lv' := [some (.ref a), some (.int w), some (.int s), some (.int rc), some (.ref pl)]) rfl rfl rfl ?_
  refine a_aload_n (pc' := 1) hc d_U_init_0 rfl rfl rfl ?_
  refine c_oinit (pc' := 4) hc oi_U (by decide) (by decide) d_U_init_1 rfl ?_
  refine a_aload_n (pc' := 5) hc d_U_init_4 rfl rfl rfl ?_
  refine a_iload_n (pc' := 6) hc d_U_init_5 rfl rfl rfl ?_
  refine c_putH (pc' := 9) hc hK in_U ty_U ty_U_ok nm_U rfl hh ha 0 (by decide) ⟨rfl, hnm, rfl⟩ (rfl) (rfl) (Nat.le_of_ble_eq_true rfl) fl_U_9 d_U_init_6 rfl ?_
  refine AW.to (f' := cw bx rl ca n E τ κ tk (va_up h a (some (.inr (3, [.int w, .int 0, .int 0, .null]))))) (rfl) rfl rfl ?_
  refine a_aload_n (pc' := 10) hc d_U_init_9 rfl rfl rfl ?_
  refine a_iload_n (pc' := 11) hc d_U_init_10 rfl rfl rfl ?_
  refine c_putH (pc' := 14) hc hK in_U ty_U ty_U_ok nm_U rfl (hh.up (hh.off ha)) (va_up_self _ _ _) 1 (by decide) ⟨rfl, hnm, rfl⟩ (rfl) (rfl) (Nat.le_of_ble_eq_true rfl) fl_U_15 d_U_init_11 rfl ?_
  refine AW.to (f' := cw bx rl ca n E τ κ tk (va_up h a (some (.inr (3, [.int w, .int s, .int 0, .null]))))) (congrArg (cw bx rl ca n E τ κ tk) (va_up_up _ _ _ _).symm) rfl rfl ?_
  refine a_aload_n (pc' := 15) hc d_U_init_14 rfl rfl rfl ?_
  refine a_iload_n (pc' := 16) hc d_U_init_15 rfl rfl rfl ?_
  refine c_putH (pc' := 19) hc hK in_U ty_U ty_U_ok nm_U rfl (hh.up (hh.off ha)) (va_up_self _ _ _) 2 (by decide) ⟨rfl, hnm, rfl⟩ (rfl) (rfl) (Nat.le_of_ble_eq_true rfl) fl_U_18 d_U_init_16 rfl ?_
  refine AW.to (f' := cw bx rl ca n E τ κ tk (va_up h a (some (.inr (3, [.int w, .int s, .int rc, .null]))))) (congrArg (cw bx rl ca n E τ κ tk) (va_up_up _ _ _ _).symm) rfl rfl ?_
  refine a_aload_n (pc' := 20) hc d_U_init_19 rfl rfl rfl ?_
  refine a_aload (pc' := 22) hc d_U_init_20 rfl rfl ?_
  refine c_putH (pc' := 25) hc hK in_U ty_U ty_U_ok nm_U rfl (hh.up (hh.off ha)) (va_up_self _ _ _) 3 (by decide) ⟨rfl, hnm, rfl⟩ (rfl) (rfl) (Nat.le_of_ble_eq_true rfl) fl_U_21 d_U_init_22 rfl ?_
  refine AW.to (f' := cw bx rl ca n E τ κ tk (va_up h a (some (.inr (3, [.int w, .int s, .int rc, .ref pl]))))) (congrArg (cw bx rl ca n E τ κ tk) (va_up_up _ _ _ _).symm) rfl rfl ?_
  exact a_vret hc hr hk d_U_init_25 (e_v rfl)
theorem ct_V_init (hx : CX bx rl ca tys n E) (hh : HD bx n h) {a : Nat} {x0 : Int32} {x1 : Int32} {x2 : Int32} {x3 : Int32} (ha : h a = some (.inr (5, [.int 0, .int 0, .int 0, .int 0]))) : CC l y_V_init c_V_init 5 none 1 D tys A (cw bx rl ca n E τ κ tk h) [.ref a, .int x0, .int x1, .int x2, .int x3] none (cw bx rl ca n E τ κ tk (va_up h a (some (.inr (5, [.int x0, .int x1, .int x2, .int x3]))))) := by
  refine CC.ofN (own := R_V) rfl (by decide) (Nat.le_of_ble_eq_true rfl) (cat_all rfl) ?_
  intro pp ee ss mm aa bb me cd hc hK hO hr hk hnm hA
  refine AW.to (lv' := [some (.ref a), some (.int x0), some (.int x1), some (.int x2), some (.int x3)]) rfl rfl rfl ?_
  refine a_aload_n (pc' := 1) hc d_V_init_0 rfl rfl rfl ?_
  refine c_oinit (pc' := 4) hc oi_V (by decide) (by decide) d_V_init_1 rfl ?_
  refine a_aload_n (pc' := 5) hc d_V_init_4 rfl rfl rfl ?_
  refine a_iload_n (pc' := 6) hc d_V_init_5 rfl rfl rfl ?_
  refine c_putH (pc' := 9) hc hK in_V ty_V ty_V_ok nm_V rfl hh ha 0 (by decide) ⟨rfl, hnm, rfl⟩ (rfl) (rfl) (Nat.le_of_ble_eq_true rfl) fl_V_7 d_V_init_6 rfl ?_
  refine AW.to (f' := cw bx rl ca n E τ κ tk (va_up h a (some (.inr (5, [.int x0, .int 0, .int 0, .int 0]))))) (rfl) rfl rfl ?_
  refine a_aload_n (pc' := 10) hc d_V_init_9 rfl rfl rfl ?_
  refine a_iload_n (pc' := 11) hc d_V_init_10 rfl rfl rfl ?_
  refine c_putH (pc' := 14) hc hK in_V ty_V ty_V_ok nm_V rfl (hh.up (hh.off ha)) (va_up_self _ _ _) 1 (by decide) ⟨rfl, hnm, rfl⟩ (rfl) (rfl) (Nat.le_of_ble_eq_true rfl) fl_V_13 d_V_init_11 rfl ?_
  refine AW.to (f' := cw bx rl ca n E τ κ tk (va_up h a (some (.inr (5, [.int x0, .int x1, .int 0, .int 0]))))) (congrArg (cw bx rl ca n E τ κ tk) (va_up_up _ _ _ _).symm) rfl rfl ?_
  refine a_aload_n (pc' := 15) hc d_V_init_14 rfl rfl rfl ?_
  refine a_iload_n (pc' := 16) hc d_V_init_15 rfl rfl rfl ?_
  refine c_putH (pc' := 19) hc hK in_V ty_V ty_V_ok nm_V rfl (hh.up (hh.off ha)) (va_up_self _ _ _) 2 (by decide) ⟨rfl, hnm, rfl⟩ (rfl) (rfl) (Nat.le_of_ble_eq_true rfl) fl_V_16 d_V_init_16 rfl ?_
  refine AW.to (f' := cw bx rl ca n E τ κ tk (va_up h a (some (.inr (5, [.int x0, .int x1, .int x2, .int 0]))))) (congrArg (cw bx rl ca n E τ κ tk) (va_up_up _ _ _ _).symm) rfl rfl ?_
  refine a_aload_n (pc' := 20) hc d_V_init_19 rfl rfl rfl ?_
  refine a_iload (pc' := 22) hc d_V_init_20 rfl rfl ?_
  refine c_putH (pc' := 25) hc hK in_V ty_V ty_V_ok nm_V rfl (hh.up (hh.off ha)) (va_up_self _ _ _) 3 (by decide) ⟨rfl, hnm, rfl⟩ (rfl) (rfl) (Nat.le_of_ble_eq_true rfl) fl_V_19 d_V_init_22 rfl ?_
  refine AW.to (f' := cw bx rl ca n E τ κ tk (va_up h a (some (.inr (5, [.int x0, .int x1, .int x2, .int x3]))))) (congrArg (cw bx rl ca n E τ κ tk) (va_up_up _ _ _ _).symm) rfl rfl ?_
  exact a_vret hc hr hk d_V_init_25 (e_v rfl)
