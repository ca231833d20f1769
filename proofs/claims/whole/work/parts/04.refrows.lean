/-! Rows of a walk over the reference's world, and what a contract of the reference is. -/
def MC (l : Launch) (y : MethodName) (bytes : ByteArray) (maxL : Nat) (ret : Option FieldType) (k : Nat) (D : va_G) (tys : List (ClassId × FieldType)) (A : Nat → Prop) (ax rl : Nat → Nat) (ca : Nat → ClassId) (n E : Nat) (τ : TS) (As : List Value) (v : Option Value) (τ1 : TS) : Prop :=
  CT l y (Cond.code y bytes maxL ret :: WS) (rk k) D vcl tys A (tw ax rl ca n E τ) (.ref (ax 0) :: As) (fun v' f' => v' = v ∧ f' = tw ax rl ca n E τ1) 0 0
section RWS
variable {p : Program} {l : Launch} {e : Env} {R : Room} {s : State} {m : MethodId} {args : Array Value} {below : List Frame} {meth : Method} {c : Code} {D : va_G} {A : Nat → Prop} {nL : Nat} {Q : State → Prop}
variable {k nn pc pc' : Nat} {lv : List (Option Value)} {st : List Value} {cc : ByteArray} {c0 : Cond} {tys : List (ClassId × FieldType)} {ax rl : Nat → Nat} {ca : Nat → ClassId} {n E : Nat} {τ τ' : TS}
theorem r_get (hc : CallFix p m c cc nL s args (c0 :: WS) R_M) (hK : va_K D vcl tys s) (hx : MX ax rl ca tys n E) {index : Nat} (j : Nat) {v : Value} (hj : j < 15) (hv : (tw_f ax n E τ)[j]? = some v) (hlink : Cond.fieldLink R_M index (T_M j).1 (T_M j).2.1 (T_M j).2.2.1 ∈ WS) (hdg : decode cc pc = .ok (.getfield index, 3)) (hp : pc + 3 = pc') (kk : AW p l e R s m args below meth c D vcl A nL Q (tw ax rl ca n E τ) k nn pc' lv (v :: st)) : AW p l e R s m args below meth c D vcl A nL Q (tw ax rl ca n E τ) k nn pc lv (.ref (ax 0) :: st) :=
  a_get hc hK (C := R_M) (T := T_M) (N := 15) (ci := 6) (fun w h => List.mem_cons_of_mem _ (in_M w h)) (tw_at hx.1 (by decide)) rfl j hj (hc.2.2.2.2 _ (List.mem_cons_of_mem _ hlink)) rfl hv hdg hp kk
theorem r_put (hc : CallFix p m c cc nL s args (c0 :: WS) R_M) (hK : va_K D vcl tys s) (hx : MX ax rl ca tys n E) {index : Nat} (j : Nat) {x : Int32} (hj : j = 8 ∨ j = 9 ∨ j = 10 ∨ j = 12 ∨ j = 14) (hlink : Cond.fieldLink R_M index (T_M j).1 (T_M j).2.1 (T_M j).2.2.1 ∈ WS) (hdg : decode cc pc = .ok (.putfield index, 3)) (hp : pc + 3 = pc') (kk : AW p l e R s m args below meth c D vcl A nL Q (tw ax rl ca n E (ts τ 0 (j - 6) x)) k nn pc' lv st) : AW p l e R s m args below meth c D vcl A nL Q (tw ax rl ca n E τ) k nn pc lv (.int x :: .ref (ax 0) :: st) := by
  rcases hj with rfl | rfl | rfl | rfl | rfl
  all_goals
    refine a_put hc hK (C := R_M) (T := T_M) (N := 15) (ci := 6) (fun w h => List.mem_cons_of_mem _ (in_M w h)) ty_M ty_M_ok nm_M (tw_at hx.1 (by decide)) rfl _ (by decide) (hc.2.2.2.2 _ (List.mem_cons_of_mem _ hlink)) rfl (Or.inl rfl) rfl rfl (Nat.le_of_ble_eq_true rfl) hdg hp (AW.to ?_ rfl rfl kk)
    exact tw_up hx.1 (by decide) rfl (fun j hj => tw_c_off hj)
theorem r_putz (hc : CallFix p m c cc nL s args (c0 :: WS) R_M) (hK : va_K D vcl tys s) (hx : MX ax rl ca tys n E) {index : Nat} (j : Nat) {x : Int32} (hb : x = nI 0 ∨ x = nI 1) (hj : j = 11 ∨ j = 13) (hlink : Cond.fieldLink R_M index (T_M j).1 (T_M j).2.1 (T_M j).2.2.1 ∈ WS) (hdg : decode cc pc = .ok (.putfield index, 3)) (hp : pc + 3 = pc') (kk : AW p l e R s m args below meth c D vcl A nL Q (tw ax rl ca n E (ts τ 0 (j - 6) x)) k nn pc' lv st) : AW p l e R s m args below meth c D vcl A nL Q (tw ax rl ca n E τ) k nn pc lv (.int x :: .ref (ax 0) :: st) := by
  rcases hj with rfl | rfl
  all_goals
    refine a_put hc hK (C := R_M) (T := T_M) (N := 15) (ci := 6) (fun w h => List.mem_cons_of_mem _ (in_M w h)) ty_M ty_M_ok nm_M (tw_at hx.1 (by decide)) rfl _ (by decide) (hc.2.2.2.2 _ (List.mem_cons_of_mem _ hlink)) rfl (Or.inl rfl) (by rcases hb with h | h <;> subst h <;> decide) (by rcases hb with h | h <;> subst h <;> decide) (Nat.le_of_ble_eq_true rfl) hdg hp (AW.to ?_ rfl rfl kk)
    refine tw_up hx.1 (by decide) ?_ (fun j hj => tw_c_off hj)
    rcases hb with h | h <;> subst h <;> rfl
theorem tw_row {i : Nat} (hi : 2 ≤ i) : tw_c ax ca n E τ i = .inl (ca 0, rowN i, .inl (τ i)) := by
  match i, hi with
  | i + 2, _ => rfl
theorem r_iald (hc : CallFix p m c cc nL s args (c0 :: WS) R_M) (hK : va_K D vcl tys s) (hx : MX ax rl ca tys n E) (i x : Nat) {N : Nat} (hi : 2 ≤ i ∧ i < 7) (hN : rowN i = N) (hlt : x < N) (hdg : decode cc pc = .ok (.iaload, 1)) (hp : pc + 1 = pc') (kk : AW p l e R s m args below meth c D vcl A nL Q (tw ax rl ca n E τ) k nn pc' lv (.int (τ i x) :: st)) : AW p l e R s m args below meth c D vcl A nL Q (tw ax rl ca n E τ) k nn pc lv (.int (nI x) :: .ref (ax i) :: st) := by
  have hN2 : N < 2 ^ 31 := by subst hN; unfold rowN; split <;> decide
  refine a_iald hc hK (N := N) (g := τ i) 0 ((tw_at hx.1 hi.2).trans (by rw [tw_row hi.1, hN])) hx.2.1 (vp_in_nI hlt hN2) hdg hp ?_
  rw [nI_clamp (by omega)]
  exact kk
theorem r_iast (hc : CallFix p m c cc nL s args (c0 :: WS) R_M) (hK : va_K D vcl tys s) (hx : MX ax rl ca tys n E) (i x : Nat) {N : Nat} {v : Int32} (hi : 2 ≤ i ∧ i < 7) (hN : rowN i = N) (hlt : x < N) (hdg : decode cc pc = .ok (.iastore, 1)) (hp : pc + 1 = pc') (kk : AW p l e R s m args below meth c D vcl A nL Q (tw ax rl ca n E (ts τ i x v)) k nn pc' lv st) : AW p l e R s m args below meth c D vcl A nL Q (tw ax rl ca n E τ) k nn pc lv (.int v :: .int (nI x) :: .ref (ax i) :: st) := by
  have hN2 : N < 2 ^ 31 := by subst hN; unfold rowN; split <;> decide
  refine a_iast hc hK (N := N) (g := τ i) 0 ((tw_at hx.1 hi.2).trans (by rw [tw_row hi.1, hN])) hx.2.1 (vp_in_nI hlt hN2) hdg hp ?_
  rw [nI_clamp (by omega)]
  refine AW.to ?_ rfl rfl kk
  exact tw_up hx.1 hi.2 (by rw [tw_row hi.1, hN, ts_row]) (fun j hj => tw_c_off hj)
theorem r_zald (hc : CallFix p m c cc nL s args (c0 :: WS) R_M) (hK : va_K D vcl tys s) (hx : MX ax rl ca tys n E) (x : Nat) (hlt : x < 5) (hdg : decode cc pc = .ok (.baload, 1)) (hp : pc + 1 = pc') (kk : AW p l e R s m args below meth c D vcl A nL Q (tw ax rl ca n E τ) k nn pc' lv (.int (bI (tb (τ 1 x))) :: st)) : AW p l e R s m args below meth c D vcl A nL Q (tw ax rl ca n E τ) k nn pc lv (.int (nI x) :: .ref (ax 1) :: st) := by
  refine a_zald hc hK (N := 5) (g := fun d => bI (tb (τ 1 d))) 1 (tw_at hx.1 (by decide)) hx.2.2.1 (vp_in_nI hlt (by decide)) hdg hp ?_
  rw [nI_clamp (by omega)]
  exact kk
theorem r_zast (hc : CallFix p m c cc nL s args (c0 :: WS) R_M) (hK : va_K D vcl tys s) (hx : MX ax rl ca tys n E) (x : Nat) {v : Int32} (hb : v = nI 0 ∨ v = nI 1) (hlt : x < 5) (hdg : decode cc pc = .ok (.bastore, 1)) (hp : pc + 1 = pc') (kk : AW p l e R s m args below meth c D vcl A nL Q (tw ax rl ca n E (ts τ 1 x v)) k nn pc' lv st) : AW p l e R s m args below meth c D vcl A nL Q (tw ax rl ca n E τ) k nn pc lv (.int v :: .int (nI x) :: .ref (ax 1) :: st) := by
  refine a_zast hc hK (N := 5) (g := fun d => bI (tb (τ 1 d))) 1 (tw_at hx.1 (by decide)) hx.2.2.1 hb (vp_in_nI hlt (by decide)) hdg hp ?_
  rw [nI_clamp (by omega)]
  refine AW.to ?_ rfl rfl kk
  refine tw_up hx.1 (by decide) ?_ (fun j hj => tw_c_off hj)
  have h1 : (fun d => bI (tb (ts τ 1 x v 1 d))) = upd (fun d => bI (tb (τ 1 d))) x v := by
    funext d
    by_cases hd : d = x
    · subst hd
      rw [ts_at, bI_tb hb]
      simp [upd]
    · rw [ts_off hd]
      simp [upd, hd]
  show (Sum.inl (ca 1, 5, .inl (fun d => bI (tb (ts τ 1 x v 1 d)))) : va_E) = _
  rw [h1]
theorem AW.tw {τ1 : TS} (h : τ1 = τ) (kk : AW p l e R s m args below meth c D vcl A nL Q (tw ax rl ca n E τ1) k nn pc lv st) : AW p l e R s m args below meth c D vcl A nL Q (tw ax rl ca n E τ) k nn pc lv st := by
  subst h
  exact kk
theorem r_calli (hc : CallFix p m c cc nL s args (c0 :: WS) R_M) (hK : va_K D vcl tys s) (hO : AO3 s) (hA : ∀ q : Nat, s.heap.size ≤ q → A q) (hx : MX ax rl ca tys n E) {y : MethodName} {bytes : ByteArray} {maxL : Nat} {ret : Option FieldType} {k1 kR nA index : Nat} (As rest : List Value) {x : Int32} {τ1 : TS}
    (hM : MC l y bytes maxL ret k1 D tys A ax rl ca n E τ As (some (.int x)) τ1) (hml : (Cond.methodLink R_M index y ∈ WS ∧ Cond.code y bytes maxL ret ∈ WS ∧ Cond.initialized R_M ∈ WS) ∧ Cond.instanceMethod y ∈ WS ∧ Cond.selects R_M y y ∈ WS)
    (hd : y.cls = R_M ∧ y.cls ≠ "java/lang/invoke/MethodHandle" ∧ y.cls ≠ "java/lang/invoke/VarHandle" ∧ (parseMethodDescriptor y.desc).map (fun d => d.parameters.length) = some nA) (hR : k1 + 1 ≤ kR ∧ maxL ≤ 21) (hn : As.length = nA) (hst : st = As.reverse ++ .ref (ax 0) :: rest) (hW : (rest.map fun v => v.category).sum ≤ 8) (hdg : decode cc pc = .ok (.invokevirtual index, 3)) (hp : pc + 3 = pc')
    (kk : AW p l e (rk kR) s m args below meth c D vcl A nL Q (tw ax rl ca n E τ1) 0 0 pc' lv (.int x :: rest)) : AW p l e (rk kR) s m args below meth c D vcl A nL Q (tw ax rl ca n E τ) 0 0 pc lv st :=
  a_cV hc hK hO hA hM hml hd rfl rfl ⟨hR.1, by show 8 + (maxL + 11) + 40 * k1 ≤ 40 * kR; omega⟩ (tw_at hx.1 (by decide)) rfl rfl hn hst hW hdg hp ⟨Nat.le_refl _, Nat.le_refl _⟩ (fun v f' h => by obtain ⟨rfl, rfl⟩ := h; exact kk)
theorem r_callv (hc : CallFix p m c cc nL s args (c0 :: WS) R_M) (hK : va_K D vcl tys s) (hO : AO3 s) (hA : ∀ q : Nat, s.heap.size ≤ q → A q) (hx : MX ax rl ca tys n E) {y : MethodName} {bytes : ByteArray} {maxL : Nat} {ret : Option FieldType} {k1 kR nA index : Nat} (As rest : List Value) {τ1 : TS}
    (hM : MC l y bytes maxL ret k1 D tys A ax rl ca n E τ As none τ1) (hml : (Cond.methodLink R_M index y ∈ WS ∧ Cond.code y bytes maxL ret ∈ WS ∧ Cond.initialized R_M ∈ WS) ∧ Cond.instanceMethod y ∈ WS ∧ Cond.selects R_M y y ∈ WS)
    (hd : y.cls = R_M ∧ y.cls ≠ "java/lang/invoke/MethodHandle" ∧ y.cls ≠ "java/lang/invoke/VarHandle" ∧ (parseMethodDescriptor y.desc).map (fun d => d.parameters.length) = some nA) (hR : k1 + 1 ≤ kR ∧ maxL ≤ 21) (hn : As.length = nA) (hst : st = As.reverse ++ .ref (ax 0) :: rest) (hW : (rest.map fun v => v.category).sum ≤ 8) (hdg : decode cc pc = .ok (.invokevirtual index, 3)) (hp : pc + 3 = pc')
    (kk : AW p l e (rk kR) s m args below meth c D vcl A nL Q (tw ax rl ca n E τ1) 0 0 pc' lv rest) : AW p l e (rk kR) s m args below meth c D vcl A nL Q (tw ax rl ca n E τ) 0 0 pc lv st :=
  a_cV hc hK hO hA hM hml hd rfl rfl ⟨hR.1, by show 8 + (maxL + 11) + 40 * k1 ≤ 40 * kR; omega⟩ (tw_at hx.1 (by decide)) rfl rfl hn hst hW hdg hp ⟨Nat.le_refl _, Nat.le_refl _⟩ (fun v f' h => by obtain ⟨rfl, rfl⟩ := h; exact kk)
theorem m_i {x X : Int32} {τ1 : TS} (h1 : x = X) (h2 : τ = τ1) : some (Value.int x) = some (Value.int X) ∧ tw ax rl ca n E τ = tw ax rl ca n E τ1 := by
  subst h1
  subst h2
  exact ⟨rfl, rfl⟩
theorem m_v {τ1 : TS} (h2 : τ = τ1) : (none : Option Value) = none ∧ tw ax rl ca n E τ = tw ax rl ca n E τ1 := by
  subst h2
  exact ⟨rfl, rfl⟩
theorem MC.of {y : MethodName} {maxL : Nat} {ret : Option FieldType} {As : List Value} {v : Option Value} {τ1 : TS} (ho : y.cls = R_M) (hlen : (lg_sl (.ref (ax 0) :: As)).length ≤ maxL) (hcat : ∀ v ∈ (Value.ref (ax 0) :: As), v.category = 1)
    (body : ∀ (p : Program) (e : Env) (s : State) (m : MethodId) (args : Array Value) (below : List Frame) (meth : Method) (c : Code), CallFix p m c cc maxL s args (Cond.code y cc maxL ret :: WS) R_M → va_K D vcl tys s → AO3 s → meth.sig.returnType = ret → meth.locks = false → (∀ q : Nat, s.heap.size ≤ q → A q) →
      AW p l e (rk k) s m args below meth c D vcl A maxL (MQ below (CQ D vcl A (fun v' f' => v' = v ∧ f' = tw ax rl ca n E τ1)) args s 0 0 A) (tw ax rl ca n E τ) 0 0 0 (al_in (.ref (ax 0) :: As) maxL) []) : MC l y cc maxL ret k D tys A ax rl ca n E τ As v τ1 :=
  CT.ofAW (by rw [ho]; decide) rfl hlen hcat (fun p e s m args below meth c hc hK hO hr hk _ hA => body p e s m args below meth c (by rw [ho] at hc; exact hc) hK hO hr hk hA)
end RWS
