/-! The law's cell; each public method, told for the law. -/
theorem INV.cp {bx : Nat → Nat} {ca : Nat → ClassId} {n E C : Nat} {τ : TS} {κ : Nat → Option Nat} {h : Nat → Option va_E} (H : INV bx ca n E C τ κ h) : ¬ τ 0 6 < 0 ∧ cpN τ ≤ 4 := by
  obtain ⟨k, h1, h2⟩ := H.2.2.2.2.2.2
  unfold cpN
  rw [h1]
  exact ⟨nI_pos (by omega), by rw [nI_clamp (by omega)]; exact h2⟩
def cv (xs : Nat → Int32) (L j : Nat) : Int32 := if j < L then xs j else nI 0
def XP (b L : Nat) (xs : Nat → Int32) (k : Int32) (sz : Nat) : Array Value → State → Prop := va_Pc [.ref b, .int k] (fun U => U.heap.size = sz ∧ va_X b L xs U U.heap)
theorem XP.blind {b L : Nat} {xs : Nat → Int32} {k : Int32} {sz : Nat} : FrameBlind (XP b L xs k sz) := fun a U g mk q => by
  obtain ⟨q0, q1, qX⟩ := q
  exact ⟨q0, q1, va_X.moved (u := U) (U := U.calling g mk a) (Vm.Alike.refl U.vm) qX⟩
theorem met_cell {l : Launch} {D : va_G} {b L j sz : Nat} {xs : Nat → Int32} (hL : L < 2 ^ 31) (hj : j < 2 ^ 31) : Met l y_W_cell (Cond.code y_W_cell c_W_cell 2 (some .int) :: WS) (rk 0) (XP b L xs (nI j) sz) (CQ D vcl (sA (fun _ => none) sz) (fun v f' => v = some (.int (cv xs L j)) ∧ f' = fun _ => none)) 0 0 (sA (fun _ => none) sz) := by
  refine Met.ofW (cc := c_W_cell) (maxL := 2) (ret := some .int) (by decide) rfl ?_
  intro p e s m args below meth c s₁ B hml hv
  obtain ⟨rfl, hsz, hX⟩ := hv
  have hts := atoms_spec (ws := Cond.code y_W_cell c_W_cell 2 (some .int) :: WS) B.pre
  have hown : s.vm.findClass R_W = some m.cls := findClass_of_methodNamed B.named
  subst hsz
  have hbl : b < s.heap.size := by
    obtain ⟨scr, h1, -⟩ := hX
    exact (Array.getElem?_eq_some_iff.mp h1).1
  have hbA : ¬ sA (fun _ => none) s.heap.size b := fun q => by
    rcases q with q | q
    · omega
    · cases q
  have hl := lv_entry [Value.ref b, Value.int (nI j)] (n := 2) (Nat.le_of_ble_eq_true rfl)
  rw [lg_entry_eq]
  generalize (lg_sl [Value.ref b, Value.int (nI j)] ++ List.replicate (2 - (lg_sl [Value.ref b, Value.int (nI j)]).length) Slot.unset).toArray = ls at hl ⊢
  have hc : CallFix p m c c_W_cell 2 s [Value.ref b, Value.int (nI j)].toArray (Cond.code y_W_cell c_W_cell 2 (some .int) :: WS) R_W := ⟨B.exec, B.bytes, hml, hown, hts⟩
  have key : AW p l e (rk 0) s m [Value.ref b, Value.int (nI j)].toArray below meth c D vcl (sA (fun _ => none) s.heap.size) 2 (MQ below (CQ D vcl (sA (fun _ => none) s.heap.size) (fun v f' => v = some (.int (cv xs L j)) ∧ f' = fun _ => none)) [Value.ref b, Value.int (nI j)].toArray s 0 0 (sA (fun _ => none) s.heap.size)) (fun _ => none) 0 0 0 [some (.ref b), some (.int (nI j))] [] := by
    refine a_iload_n (pc' := 1) hc d_W_cell_0 rfl rfl rfl ?_
    refine a_aload_n (pc' := 2) hc d_W_cell_1 rfl rfl rfl ?_
    refine a_slen (pc' := 3) hc hX hbl hbA d_W_cell_2 rfl ?_
    refine a_ncmp_ge (pc' := 6) (tgt := 12) hc d_W_cell_3 rfl rfl hj hL (fun h3 => ?_) (fun h3 => ?_)
    · refine a_iconst (pc' := 13) (v := nI 0) hc d_W_cell_12 rfl (by decide) ?_
      exact a_iret hc B.returns B.notSynchronized d_W_cell_13 ⟨by unfold cv; rw [if_neg (by omega)], rfl⟩
    · refine a_aload_n (pc' := 7) hc d_W_cell_6 rfl rfl rfl ?_
      refine a_iload_n (pc' := 8) hc d_W_cell_7 rfl rfl rfl ?_
      refine a_sld (pc' := 9) hc hX hbl hbA hL j h3 d_W_cell_8 rfl ?_
      refine a_goto (tgt := 13) hc d_W_cell_9 rfl ?_
      exact a_iret hc B.returns B.notSynchronized d_W_cell_13 ⟨by unfold cv; rw [if_pos h3], rfl⟩
  exact key s.heap [] ls (fun a x ha => by cases ha) (fun a x ha => by cases ha) va_S.rf (al_entry hl (cat_all rfl))
section CEL
variable {p : Program} {l : Launch} {e : Env} {R : Room} {s : State} {m : MethodId} {args : Array Value} {below : List Frame} {meth : Method} {c : Code} {D : va_G} {A : Nat → Prop} {nL : Nat} {Q : State → Prop}
variable {f g : Nat → Option va_E} {k nn pc pc' : Nat} {lv : List (Option Value)} {st : List Value} {cc : ByteArray} {c0 : Cond} {tys : List (ClassId × FieldType)}
theorem a_cell (hc : CallFix p m c cc nL s args (c0 :: WS) R_W) {b L : Nat} {xs : Nat → Int32} (hX : va_X b L xs s s.heap) (hbl : b < s.heap.size) (hbA : ¬ A b) (hA : ∀ q : Nat, s.heap.size ≤ q → A q) (hL : L < 2 ^ 31) (j : Nat) (hj : j < 2 ^ 31) (hR : 0 + 1 ≤ R.frames ∧ 8 + (2 + 11) + 40 * 0 ≤ R.locals) (hW : (st.map fun v => v.category).sum ≤ 8) (hdg : decode cc pc = .ok (.invokestatic 9, 3)) (hp : pc + 3 = pc') (hf0 : k + 0 ≤ R.cells ∧ nn + 0 ≤ R.slots) (kk : AW p l e R s m args below meth c D vcl A nL Q f k nn pc' lv (.int (cv xs L j) :: st)) : AW p l e R s m args below meth c D vcl A nL Q f k nn pc lv (.int (nI j) :: .ref b :: st) := by
  subst hp
  have ok : ∀ {w : Cond}, w ∈ WS → w.before args s = true := fun h => hc.2.2.2.2 _ (List.mem_cons_of_mem _ h)
  intro H locs ls hf hd hS hl
  have hXH : va_X b L xs s H := hX.kept (hS.2.1 b hbl hbA)
  refine a_runF (f0 := fun _ => none) (fun a x h => by cases h) hf hd hA (va_runS (As := [.ref b, .int (nI j)]) hc (met_cell (D := D) (sz := H.size) hL hj) ⟨callB_of 2 hc.2.2.2.2 (ws_in ml_W_9.1.2.1) rfl rfl rfl (ok ml_W_9.1.2.2) (ok ml_W_9.1.1) hd_W_cell.2 hR, ok ml_W_9.2⟩ ⟨XP.blind, fun U hU hW => ⟨rfl, by rw [hU], by rw [hU]; exact hXH.moved hW.alike⟩⟩ rfl rfl hl.1 rfl (lv_room hW) hdg hf0) hS (fun v f' H1 locs1 h1 h2 h3 h4 => ?_)
  obtain ⟨f1, ⟨rfl, rfl⟩, rfl, -⟩ := h1
  have ej : join f (fun _ => none) (fun _ => none) = f := funext fun a => join_none rfl rfl
  rw [ej] at h2 h3
  exact kk H1 locs1 ls h2 h3 h4 hl
end CEL
def EOp (l : Launch) (D : va_G) (tys : List (ClassId × FieldType)) (bx rl : Nat → Nat) (ca : Nat → ClassId) (n E C : Nat) (τ : TS) (κ : Nat → Option Nat) (tk : Nat → Int32) (h : Nat → Option va_E) (y : MethodName) (bytes : ByteArray) (maxL : Nat) (ret : Option FieldType) (mc ms k : Nat) (As : List Value) (x : Int32) (τ1 : TS) : Prop := ∃ post : Option Value → (Nat → Option va_E) → Prop, (∀ A', CT l y (Cond.code y bytes maxL ret :: WS) (ra k mc ms) D vcl tys A' (cw bx rl ca n E τ κ tk h) (.ref (bx 0) :: As) post mc ms) ∧ ∀ v f1, post v f1 → ∃ κ' tk' h', v = some (.int x) ∧ f1 = cw bx rl ca n E τ1 κ' tk' h' ∧ INV bx ca n E (C + 1) τ1 κ' h'
section WCA
variable {p : Program} {l : Launch} {e : Env} {R : Room} {s : State} {m : MethodId} {args : Array Value} {below : List Frame} {meth : Method} {c : Code} {D : va_G} {A : Nat → Prop} {nL : Nat} {Q : State → Prop}
variable {g : Nat → Option va_E} {k nn pc pc' : Nat} {lv : List (Option Value)} {st : List Value} {cc : ByteArray} {c0 : Cond} {own : String} {tys : List (ClassId × FieldType)} {bx rl ax rm : Nat → Nat} {ca : Nat → ClassId} {n E C : Nat} {τ τ1 : TS} {κ : Nat → Option Nat} {tk : Nat → Int32} {h : Nat → Option va_E}
theorem w_callE (hc : CallFix p m c cc nL s args (c0 :: WS) own) (hK : va_K D vcl tys s) (hO : AO3 s) (hA : ∀ q : Nat, s.heap.size ≤ q → A q) (hx : CX bx rl ca tys n E) {y : MethodName} {bytes : ByteArray} {maxL : Nat} {ret : Option FieldType} {mc ms k1 nA index : Nat} {x : Int32} (As rest : List Value) (hop : EOp l D tys bx rl ca n E C τ κ tk h y bytes maxL ret mc ms k1 As x τ1) (hmc : mc ≤ 5) (hms : ms ≤ 25) (hml : (Cond.methodLink own index y ∈ WS ∧ Cond.code y bytes maxL ret ∈ WS ∧ Cond.initialized R_E ∈ WS) ∧ Cond.instanceMethod y ∈ WS ∧ Cond.selects R_E y y ∈ WS)
    (hd : y.cls = R_E ∧ y.cls ≠ "java/lang/invoke/MethodHandle" ∧ y.cls ≠ "java/lang/invoke/VarHandle" ∧ (parseMethodDescriptor y.desc).map (fun d => d.parameters.length) = some nA) (hR : k1 + 1 ≤ R.frames ∧ 8 + (maxL + 11) + 40 * k1 ≤ R.locals) (hn : As.length = nA) (hst : st = As.reverse ++ .ref (bx 0) :: rest) (hW : (rest.map fun v => v.category).sum ≤ 8) (hdg : decode cc pc = .ok (.invokevirtual index, 3)) (hp : pc + 3 = pc') (hf0 : k + 5 ≤ R.cells ∧ nn + 25 ≤ R.slots) (hdj : Dj (cw bx rl ca n E τ κ tk h) g)
    (kk : ∀ κ' tk' h', INV bx ca n E (C + 1) τ1 κ' h' → Dj (cw bx rl ca n E τ1 κ' tk' h') g → AW p l e R s m args below meth c D vcl A nL Q (un (cw bx rl ca n E τ1 κ' tk' h') g) (k + 5) (nn + 25) pc' lv (.int x :: rest)) : AW p l e R s m args below meth c D vcl A nL Q (un (cw bx rl ca n E τ κ tk h) g) k nn pc lv st := by
  obtain ⟨post, hM, hpost⟩ := hop
  refine a_cVF (f0 := cw bx rl ca n E τ κ tk h) hc hK hO hA (fun a x h => un_l h) hM hml hd rfl rfl hR (cw_at hx.1 (by omega)) rfl rfl hn hst hW hdg hp ⟨by omega, by omega⟩ (fun v f' hq => ?_)
  obtain ⟨f1, h1, rfl, h3⟩ := hq
  obtain ⟨κ', tk', h', rfl, rfl, hI⟩ := hpost v f1 h1
  obtain ⟨e1, e2⟩ := un_joinL hdj h3
  rw [e1]
  exact AW.widen (by omega) (by omega) (kk κ' tk' h' hI e2)
theorem w_callM {f : Nat → Option va_E} (hc : CallFix p m c cc nL s args (c0 :: WS) own) (hK : va_K D vcl tys s) (hO : AO3 s) (hA : ∀ q : Nat, s.heap.size ≤ q → A q) (hx : MX ax rm ca tys n E) {y : MethodName} {bytes : ByteArray} {maxL : Nat} {ret : Option FieldType} {k1 nA index : Nat} {x : Int32} (As rest : List Value) (hM : ∀ A', MC l y bytes maxL ret k1 D tys A' ax rm ca n E τ As (some (.int x)) τ1) (hml : (Cond.methodLink own index y ∈ WS ∧ Cond.code y bytes maxL ret ∈ WS ∧ Cond.initialized R_M ∈ WS) ∧ Cond.instanceMethod y ∈ WS ∧ Cond.selects R_M y y ∈ WS)
    (hd : y.cls = R_M ∧ y.cls ≠ "java/lang/invoke/MethodHandle" ∧ y.cls ≠ "java/lang/invoke/VarHandle" ∧ (parseMethodDescriptor y.desc).map (fun d => d.parameters.length) = some nA) (hR : k1 + 1 ≤ R.frames ∧ 8 + (maxL + 11) + 40 * k1 ≤ R.locals) (hn : As.length = nA) (hst : st = As.reverse ++ .ref (ax 0) :: rest) (hW : (rest.map fun v => v.category).sum ≤ 8) (hdg : decode cc pc = .ok (.invokevirtual index, 3)) (hp : pc + 3 = pc') (hf0 : k + 0 ≤ R.cells ∧ nn + 0 ≤ R.slots) (hdj : Dj f (tw ax rm ca n E τ))
    (kk : Dj f (tw ax rm ca n E τ1) → AW p l e R s m args below meth c D vcl A nL Q (un f (tw ax rm ca n E τ1)) k nn pc' lv (.int x :: rest)) : AW p l e R s m args below meth c D vcl A nL Q (un f (tw ax rm ca n E τ)) k nn pc lv st := by
  refine a_cVF (f0 := tw ax rm ca n E τ) hc hK hO hA (fun a x h => by rw [un_r (hdj a x h)]; exact h) hM hml hd rfl rfl hR (tw_at hx.1 (by decide)) rfl rfl hn hst hW hdg hp hf0 (fun v f' hq => ?_)
  obtain ⟨f1, ⟨rfl, rfl⟩, rfl, -⟩ := hq
  obtain ⟨e1, e2⟩ := un_joinR hdj (g1 := tw ax rm ca n E τ1) (fun a => tw_dom a)
  rw [e1]
  exact kk e2
end WCA

section OPS
variable {l : Launch} {D : va_G} {tys : List (ClassId × FieldType)} {bx rl ax rm : Nat → Nat} {ca : Nat → ClassId} {n E C : Nat} {τ : TS} {κ : Nat → Option Nat} {tk : Nat → Int32} {h : Nat → Option va_E}
theorem eo_create (hx : CX bx rl ca tys n E) (H : INV bx ca n E C τ κ h) (hC : C + 1 < 2 ^ 31) {w : Int32} {c : Int32} {r : Int32} : EOp l D tys bx rl ca n E C τ κ tk h y_E_create c_E_create 6 (some .int) 5 25 6 [.int w, .int c, .int r] ((ctP τ n E w c r).1) ((ctP τ n E w c r).2) := by
  obtain ⟨hn2, hn5⟩ := hx.2.2.1
  obtain ⟨hE2, hE10⟩ := hx.2.2.2
  obtain ⟨pa, q, va, mv, g, hP⟩ := H.2.1
  refine ⟨_, fun A' => ct_E_create hx H.1 hP H.2.2.1 (H.cm hn5 hC), fun v' f' hq => ?_⟩
  obtain ⟨κ', tk', h', e1, e2, hR⟩ := hq
  exact ⟨κ', tk', h', e1, e2, INV.create hE10 rfl H hn5 hC hR⟩
theorem mo_create (hx : MX ax rm ca tys n E) (H : INV bx ca n E C τ κ h) (hC : C + 1 < 2 ^ 31) {w : Int32} {c : Int32} {r : Int32} : ∀ A', MC l y_M_create c_M_create 6 (some .int) 7 D tys A' ax rm ca n E τ [.int w, .int c, .int r] (some (.int ((ctP τ n E w c r).1))) ((ctP τ n E w c r).2) := by
  obtain ⟨hn2, hn5⟩ := hx.2.2.2.1
  obtain ⟨hE2, hE10⟩ := hx.2.2.2.2
  exact fun A' => ct_M_create hx (H.c6 hC) (H.cok hn5 hE10)
theorem eo_extend (hx : CX bx rl ca tys n E) (H : INV bx ca n E C τ κ h) (hC : C + 1 < 2 ^ 31) {v : Int32} {r : Int32} : EOp l D tys bx rl ca n E C τ κ tk h y_E_extend c_E_extend 5 (some .int) 5 25 6 [.int v, .int r] ((xtP τ n E v r).1) ((xtP τ n E v r).2) := by
  obtain ⟨hn2, hn5⟩ := hx.2.2.1
  obtain ⟨hE2, hE10⟩ := hx.2.2.2
  obtain ⟨pa, q, va, mv, g, hP⟩ := H.2.1
  refine ⟨_, fun A' => ct_E_extend hx H.1 hP H.2.2.1 (H.cm hn5 hC), fun v' f' hq => ?_⟩
  obtain ⟨κ', tk', h', e1, e2, hR⟩ := hq
  exact ⟨κ', tk', h', e1, e2, INV.extend hE10 rfl H hn5 hC hR⟩
theorem mo_extend (hx : MX ax rm ca tys n E) (H : INV bx ca n E C τ κ h) (hC : C + 1 < 2 ^ 31) {v : Int32} {r : Int32} : ∀ A', MC l y_M_extend c_M_extend 4 (some .int) 7 D tys A' ax rm ca n E τ [.int v, .int r] (some (.int ((xtP τ n E v r).1))) ((xtP τ n E v r).2) := by
  obtain ⟨hn2, hn5⟩ := hx.2.2.2.1
  obtain ⟨hE2, hE10⟩ := hx.2.2.2.2
  exact fun A' => ct_M_extend hx H.2.2.1 (H.x6 hC) (H.xok hn5 hE10)
theorem eo_reduce (hx : CX bx rl ca tys n E) (H : INV bx ca n E C τ κ h) (hC : C + 1 < 2 ^ 31) {v : Int32} {r : Int32} : EOp l D tys bx rl ca n E C τ κ tk h y_E_reduce c_E_reduce 6 (some .int) 5 25 6 [.int v, .int r] ((reP τ n v r).1) ((reP τ n v r).2) := by
  obtain ⟨hn2, hn5⟩ := hx.2.2.1
  obtain ⟨hE2, hE10⟩ := hx.2.2.2
  obtain ⟨pa, q, va, mv, g, hP⟩ := H.2.1
  refine ⟨_, fun A' => ct_E_reduce hx H.1 hP H.2.2.1 (H.cm hn5 hC), fun v' f' hq => ?_⟩
  obtain ⟨κ', tk', h', e1, e2, hR⟩ := hq
  exact ⟨κ', tk', h', e1, e2, INV.reduce rfl H hn5 hC hR⟩
theorem mo_reduce (hx : MX ax rm ca tys n E) (H : INV bx ca n E C τ κ h) (hC : C + 1 < 2 ^ 31) {v : Int32} {r : Int32} : ∀ A', MC l y_M_reduce c_M_reduce 3 (some .int) 3 D tys A' ax rm ca n E τ [.int v, .int r] (some (.int ((reP τ n v r).1))) ((reP τ n v r).2) := by
  obtain ⟨hn2, hn5⟩ := hx.2.2.2.1
  obtain ⟨hE2, hE10⟩ := hx.2.2.2.2
  exact fun A' => ct_M_reduce hx (H.h6 hC)
theorem eo_move (hx : CX bx rl ca tys n E) (H : INV bx ca n E C τ κ h) (hC : C + 1 < 2 ^ 31) {v : Int32} {k : Int32} {d : Int32} : EOp l D tys bx rl ca n E C τ κ tk h y_E_move c_E_move 7 (some .int) 3 9 6 [.int v, .int k, .int d] ((moP τ n E v k d).1) ((moP τ n E v k d).2) := by
  obtain ⟨hn2, hn5⟩ := hx.2.2.1
  obtain ⟨hE2, hE10⟩ := hx.2.2.2
  obtain ⟨pa, q, va, mv, g, hP⟩ := H.2.1
  refine ⟨_, fun A' => ct_E_move hx H.1 hP H.2.2.1 (H.cm hn5 hC), fun v' f' hq => ?_⟩
  obtain ⟨κ', tk', h', e1, e2, hR⟩ := hq
  exact ⟨κ', tk', h', e1, e2, INV.move hE10 rfl H hn5 hC hR⟩
theorem mo_move (hx : MX ax rm ca tys n E) (H : INV bx ca n E C τ κ h) (hC : C + 1 < 2 ^ 31) {v : Int32} {k : Int32} {d : Int32} : ∀ A', MC l y_M_move c_M_move 6 (some .int) 5 D tys A' ax rm ca n E τ [.int v, .int k, .int d] (some (.int ((moP τ n E v k d).1))) ((moP τ n E v k d).2) := by
  obtain ⟨hn2, hn5⟩ := hx.2.2.2.1
  obtain ⟨hE2, hE10⟩ := hx.2.2.2.2
  exact fun A' => ct_M_move hx (H.h6 hC) H.2.2.1
theorem eo_step (hx : CX bx rl ca tys n E) (H : INV bx ca n E C τ κ h) (hC : C + 1 < 2 ^ 31) : EOp l D tys bx rl ca n E C τ κ tk h y_E_step c_E_step 2 (some .int) 5 25 6 [] ((spP τ n).1) ((spP τ n).2) := by
  obtain ⟨hn2, hn5⟩ := hx.2.2.1
  obtain ⟨hE2, hE10⟩ := hx.2.2.2
  obtain ⟨pa, q, va, mv, g, hP⟩ := H.2.1
  obtain ⟨hc0, hc4⟩ := H.cp
  refine ⟨_, fun A' => ct_E_step hx H.1 hP H.2.2.1 (H.cm hn5 hC) hc0 hc4, fun v' f' hq => ?_⟩
  obtain ⟨κ', tk', h', e1, e2, hR⟩ := hq
  exact ⟨κ', tk', h', e1, e2, INV.step rfl H hn5 hC hR⟩
theorem mo_step (hx : MX ax rm ca tys n E) (H : INV bx ca n E C τ κ h) (hC : C + 1 < 2 ^ 31) : ∀ A', MC l y_M_step c_M_step 3 (some .int) 3 D tys A' ax rm ca n E τ [] (some (.int ((spP τ n).1))) ((spP τ n).2) := by
  obtain ⟨hn2, hn5⟩ := hx.2.2.2.1
  obtain ⟨hE2, hE10⟩ := hx.2.2.2.2
  obtain ⟨hc0, hc4⟩ := H.cp
  exact fun A' => ct_M_step hx (H.h6 hC) H.2.2.1 hc0 hc4
theorem eo_cancel (hx : CX bx rl ca tys n E) (H : INV bx ca n E C τ κ h) (hC : C + 1 < 2 ^ 31) : EOp l D tys bx rl ca n E C τ κ tk h y_E_cancel c_E_cancel 1 (some .int) 2 5 6 [] ((caP τ n).1) ((caP τ n).2) := by
  obtain ⟨hn2, hn5⟩ := hx.2.2.1
  obtain ⟨hE2, hE10⟩ := hx.2.2.2
  obtain ⟨pa, q, va, mv, g, hP⟩ := H.2.1
  refine ⟨_, fun A' => ct_E_cancel hx H.1 hP H.2.2.1 (H.cm hn5 hC), fun v' f' hq => ?_⟩
  obtain ⟨κ', tk', h', e1, e2, hR⟩ := hq
  exact ⟨κ', tk', h', e1, e2, INV.cancel rfl H hn5 hC hR⟩
theorem mo_cancel (hx : MX ax rm ca tys n E) (H : INV bx ca n E C τ κ h) (hC : C + 1 < 2 ^ 31) : ∀ A', MC l y_M_cancel c_M_cancel 1 (some .int) 3 D tys A' ax rm ca n E τ [] (some (.int ((caP τ n).1))) ((caP τ n).2) := by
  obtain ⟨hn2, hn5⟩ := hx.2.2.2.1
  obtain ⟨hE2, hE10⟩ := hx.2.2.2.2
  exact fun A' => ct_M_cancel hx (H.h6 hC)
theorem eo_read (hx : CX bx rl ca tys n E) (H : INV bx ca n E C τ κ h) (hC : C + 1 < 2 ^ 31) {v : Int32} {b : Int32} : EOp l D tys bx rl ca n E C τ κ tk h y_E_read c_E_read 5 (some .int) 0 0 2 [.int v, .int b] (rdI τ v b) (τ) := by
  obtain ⟨hn2, hn5⟩ := hx.2.2.1
  obtain ⟨pa, q, va, mv, g, hP⟩ := H.2.1
  have hm := H.cm hn5 hC
  exact ⟨_, fun A' => ct_E_read hx H.1 hP H.2.2.1, fun v' f' hq => ⟨κ, _, h, hq.1, hq.2, H.more hn5⟩⟩
theorem mo_read (hx : MX ax rm ca tys n E) (H : INV bx ca n E C τ κ h) (hC : C + 1 < 2 ^ 31) {v : Int32} {b : Int32} : ∀ A', MC l y_M_read c_M_read 5 (some .int) 4 D tys A' ax rm ca n E τ [.int v, .int b] (some (.int (rdI τ v b))) (τ) := by
  obtain ⟨hn2, hn5⟩ := hx.2.2.2.1
  obtain ⟨hE2, hE10⟩ := hx.2.2.2.2
  exact fun A' => ct_M_read hx H.2.2.1
theorem eo_write (hx : CX bx rl ca tys n E) (H : INV bx ca n E C τ κ h) (hC : C + 1 < 2 ^ 31) {v : Int32} {b : Int32} {x : Int32} : EOp l D tys bx rl ca n E C τ κ tk h y_E_write c_E_write 9 (some .int) 0 0 3 [.int v, .int b, .int x] ((wrP τ v b x).1) ((wrP τ v b x).2) := by
  obtain ⟨hn2, hn5⟩ := hx.2.2.1
  obtain ⟨pa, q, va, mv, g, hP⟩ := H.2.1
  have hm := H.cm hn5 hC
  exact ⟨_, fun A' => ct_E_write hx H.1 hP H.2.2.1 H.hac, fun v' f' hq => ⟨κ, _, h, hq.1, hq.2, H.write hn5⟩⟩
theorem mo_write (hx : MX ax rm ca tys n E) (H : INV bx ca n E C τ κ h) (hC : C + 1 < 2 ^ 31) {v : Int32} {b : Int32} {x : Int32} : ∀ A', MC l y_M_write c_M_write 8 (some .int) 4 D tys A' ax rm ca n E τ [.int v, .int b, .int x] (some (.int ((wrP τ v b x).1))) ((wrP τ v b x).2) := by
  obtain ⟨hn2, hn5⟩ := hx.2.2.2.1
  obtain ⟨hE2, hE10⟩ := hx.2.2.2.2
  exact fun A' => ct_M_write hx H.2.2.1
theorem eo_pull (hx : CX bx rl ca tys n E) (H : INV bx ca n E C τ κ h) (hC : C + 1 < 2 ^ 31) {d : Int32} : EOp l D tys bx rl ca n E C τ κ tk h y_E_pull c_E_pull 2 (some .boolean) 0 0 1 [.int d] (bI ((puP τ n d).1)) ((puP τ n d).2) := by
  obtain ⟨hn2, hn5⟩ := hx.2.2.1
  obtain ⟨pa, q, va, mv, g, hP⟩ := H.2.1
  have hm := H.cm hn5 hC
  exact ⟨_, fun A' => ct_E_pull hx H.1 , fun v' f' hq => ⟨κ, _, h, hq.1, hq.2, H.pull hn5⟩⟩
theorem mo_pull (hx : MX ax rm ca tys n E) (H : INV bx ca n E C τ κ h) (hC : C + 1 < 2 ^ 31) {d : Int32} : ∀ A', MC l y_M_pull c_M_pull 2 (some .boolean) 1 D tys A' ax rm ca n E τ [.int d] (some (.int (bI ((puP τ n d).1)))) ((puP τ n d).2) := by
  obtain ⟨hn2, hn5⟩ := hx.2.2.2.1
  obtain ⟨hE2, hE10⟩ := hx.2.2.2.2
  exact fun A' => ct_M_pull hx 
theorem eo_plug (hx : CX bx rl ca tys n E) (H : INV bx ca n E C τ κ h) (hC : C + 1 < 2 ^ 31) {d : Int32} : EOp l D tys bx rl ca n E C τ κ tk h y_E_plug c_E_plug 2 (some .boolean) 0 0 1 [.int d] (bI ((plP τ n d).1)) ((plP τ n d).2) := by
  obtain ⟨hn2, hn5⟩ := hx.2.2.1
  obtain ⟨pa, q, va, mv, g, hP⟩ := H.2.1
  have hm := H.cm hn5 hC
  exact ⟨_, fun A' => ct_E_plug hx H.1 , fun v' f' hq => ⟨κ, _, h, hq.1, hq.2, H.plug hn5⟩⟩
theorem mo_plug (hx : MX ax rm ca tys n E) (H : INV bx ca n E C τ κ h) (hC : C + 1 < 2 ^ 31) {d : Int32} : ∀ A', MC l y_M_plug c_M_plug 2 (some .boolean) 1 D tys A' ax rm ca n E τ [.int d] (some (.int (bI ((plP τ n d).1)))) ((plP τ n d).2) := by
  obtain ⟨hn2, hn5⟩ := hx.2.2.2.1
  obtain ⟨hE2, hE10⟩ := hx.2.2.2.2
  exact fun A' => ct_M_plug hx 
theorem eo_arm (hx : CX bx rl ca tys n E) (H : INV bx ca n E C τ κ h) (hC : C + 1 < 2 ^ 31) {k : Int32} : EOp l D tys bx rl ca n E C τ κ tk h y_E_arm c_E_arm 2 (some .boolean) 0 0 0 [.int k] (bI ((amP τ k).1)) ((amP τ k).2) := by
  obtain ⟨hn2, hn5⟩ := hx.2.2.1
  obtain ⟨pa, q, va, mv, g, hP⟩ := H.2.1
  have hm := H.cm hn5 hC
  exact ⟨_, fun A' => ct_E_arm hx H.1 , fun v' f' hq => ⟨κ, _, h, hq.1, hq.2, H.arm hn5⟩⟩
theorem mo_arm (hx : MX ax rm ca tys n E) (H : INV bx ca n E C τ κ h) (hC : C + 1 < 2 ^ 31) {k : Int32} : ∀ A', MC l y_M_arm c_M_arm 2 (some .boolean) 0 D tys A' ax rm ca n E τ [.int k] (some (.int (bI ((amP τ k).1)))) ((amP τ k).2) := by
  obtain ⟨hn2, hn5⟩ := hx.2.2.2.1
  obtain ⟨hE2, hE10⟩ := hx.2.2.2.2
  exact fun A' => ct_M_arm hx 
theorem eo_crash (hx : CX bx rl ca tys n E) (H : INV bx ca n E C τ κ h) (hC : C + 1 < 2 ^ 31) : EOp l D tys bx rl ca n E C τ κ tk h y_E_crash c_E_crash 1 (some .boolean) 0 0 1 [] (bI ((crP τ).1)) ((crP τ).2) := by
  obtain ⟨hn2, hn5⟩ := hx.2.2.1
  obtain ⟨pa, q, va, mv, g, hP⟩ := H.2.1
  have hm := H.cm hn5 hC
  exact ⟨_, fun A' => ct_E_crash hx H.1 , fun v' f' hq => ⟨κ, _, h, hq.1, hq.2, H.crash hn5⟩⟩
theorem mo_crash (hx : MX ax rm ca tys n E) (H : INV bx ca n E C τ κ h) (hC : C + 1 < 2 ^ 31) : ∀ A', MC l y_M_crash c_M_crash 1 (some .boolean) 0 D tys A' ax rm ca n E τ [] (some (.int (bI ((crP τ).1)))) ((crP τ).2) := by
  obtain ⟨hn2, hn5⟩ := hx.2.2.2.1
  obtain ⟨hE2, hE10⟩ := hx.2.2.2.2
  exact fun A' => ct_M_crash hx 
theorem eo_activate (hx : CX bx rl ca tys n E) (H : INV bx ca n E C τ κ h) (hC : C + 1 < 2 ^ 31) : EOp l D tys bx rl ca n E C τ κ tk h y_E_activate c_E_activate 3 (some .int) 0 0 4 [] ((acP τ n).1) ((acP τ n).2) := by
  obtain ⟨hn2, hn5⟩ := hx.2.2.1
  obtain ⟨pa, q, va, mv, g, hP⟩ := H.2.1
  have hm := H.cm hn5 hC
  exact ⟨_, fun A' => ct_E_activate hx H.1 hm.1 H.hac hm.2.2.1 hm.2.2.2.1, fun v' f' hq => ⟨apK τ κ n, _, h, hq.1, hq.2, H.activate hn5 hC⟩⟩
theorem mo_activate (hx : MX ax rm ca tys n E) (H : INV bx ca n E C τ κ h) (hC : C + 1 < 2 ^ 31) : ∀ A', MC l y_M_activate c_M_activate 5 (some .int) 3 D tys A' ax rm ca n E τ [] (some (.int ((acP τ n).1))) ((acP τ n).2) := by
  obtain ⟨hn2, hn5⟩ := hx.2.2.2.1
  obtain ⟨hE2, hE10⟩ := hx.2.2.2.2
  exact fun A' => ct_M_activate hx (H.h6 hC)
theorem eo_where (hx : CX bx rl ca tys n E) (H : INV bx ca n E C τ κ h) (hC : C + 1 < 2 ^ 31) {v : Int32} {k : Int32} : EOp l D tys bx rl ca n E C τ κ tk h y_E_where c_E_where 4 (some .int) 0 0 1 [.int v, .int k] (whI τ v k) (τ) := by
  obtain ⟨hn2, hn5⟩ := hx.2.2.1
  obtain ⟨pa, q, va, mv, g, hP⟩ := H.2.1
  have hm := H.cm hn5 hC
  exact ⟨_, fun A' => ct_E_where hx H.1 hP H.2.2.1, fun v' f' hq => ⟨κ, _, h, hq.1, hq.2, H.more hn5⟩⟩
theorem mo_where (hx : MX ax rm ca tys n E) (H : INV bx ca n E C τ κ h) (hC : C + 1 < 2 ^ 31) {v : Int32} {k : Int32} : ∀ A', MC l y_M_where c_M_where 3 (some .int) 4 D tys A' ax rm ca n E τ [.int v, .int k] (some (.int (whI τ v k))) (τ) := by
  obtain ⟨hn2, hn5⟩ := hx.2.2.2.1
  obtain ⟨hE2, hE10⟩ := hx.2.2.2.2
  exact fun A' => ct_M_where hx H.2.2.1.1
theorem eo_rows (hx : CX bx rl ca tys n E) (H : INV bx ca n E C τ κ h) (hC : C + 1 < 2 ^ 31) {v : Int32} : EOp l D tys bx rl ca n E C τ κ tk h y_E_rows c_E_rows 3 (some .int) 0 0 1 [.int v] (roI τ v) (τ) := by
  obtain ⟨hn2, hn5⟩ := hx.2.2.1
  obtain ⟨pa, q, va, mv, g, hP⟩ := H.2.1
  have hm := H.cm hn5 hC
  exact ⟨_, fun A' => ct_E_rows hx H.1 hP H.2.2.1, fun v' f' hq => ⟨κ, _, h, hq.1, hq.2, H.more hn5⟩⟩
theorem mo_rows (hx : MX ax rm ca tys n E) (H : INV bx ca n E C τ κ h) (hC : C + 1 < 2 ^ 31) {v : Int32} : ∀ A', MC l y_M_rows c_M_rows 2 (some .int) 3 D tys A' ax rm ca n E τ [.int v] (some (.int (roI τ v))) (τ) := by
  obtain ⟨hn2, hn5⟩ := hx.2.2.2.1
  obtain ⟨hE2, hE10⟩ := hx.2.2.2.2
  exact fun A' => ct_M_rows hx 
theorem eo_free (hx : CX bx rl ca tys n E) (H : INV bx ca n E C τ κ h) (hC : C + 1 < 2 ^ 31) {d : Int32} : EOp l D tys bx rl ca n E C τ κ tk h y_E_free c_E_free 2 (some .int) 0 0 2 [.int d] (feI τ n E d) (τ) := by
  obtain ⟨hn2, hn5⟩ := hx.2.2.1
  obtain ⟨pa, q, va, mv, g, hP⟩ := H.2.1
  have hm := H.cm hn5 hC
  exact ⟨_, fun A' => ct_E_free hx H.1 hP H.2.2.1, fun v' f' hq => ⟨κ, _, h, hq.1, hq.2, H.more hn5⟩⟩
theorem mo_free (hx : MX ax rm ca tys n E) (H : INV bx ca n E C τ κ h) (hC : C + 1 < 2 ^ 31) {d : Int32} : ∀ A', MC l y_M_free c_M_free 2 (some .int) 5 D tys A' ax rm ca n E τ [.int d] (some (.int (feI τ n E d))) (τ) := by
  obtain ⟨hn2, hn5⟩ := hx.2.2.2.1
  obtain ⟨hE2, hE10⟩ := hx.2.2.2.2
  exact fun A' => ct_M_free hx H.2.2.1.1
theorem eo_moving (hx : CX bx rl ca tys n E) (H : INV bx ca n E C τ κ h) (hC : C + 1 < 2 ^ 31) : EOp l D tys bx rl ca n E C τ κ tk h y_E_moving c_E_moving 2 (some .int) 0 0 0 [] (moI τ) (τ) := by
  obtain ⟨hn2, hn5⟩ := hx.2.2.1
  obtain ⟨pa, q, va, mv, g, hP⟩ := H.2.1
  have hm := H.cm hn5 hC
  exact ⟨_, fun A' => ct_E_moving hx H.1 hP H.2.2.1, fun v' f' hq => ⟨κ, _, h, hq.1, hq.2, H.more hn5⟩⟩
theorem mo_moving (hx : MX ax rm ca tys n E) (H : INV bx ca n E C τ κ h) (hC : C + 1 < 2 ^ 31) : ∀ A', MC l y_M_moving c_M_moving 2 (some .int) 1 D tys A' ax rm ca n E τ [] (some (.int (moI τ))) (τ) := by
  obtain ⟨hn2, hn5⟩ := hx.2.2.2.1
  obtain ⟨hE2, hE10⟩ := hx.2.2.2.2
  exact fun A' => ct_M_moving hx 
theorem eo_sequence (hx : CX bx rl ca tys n E) (H : INV bx ca n E C τ κ h) (hC : C + 1 < 2 ^ 31) : EOp l D tys bx rl ca n E C τ κ tk h y_E_sequence c_E_sequence 1 (some .int) 0 0 0 [] (sqI τ) (τ) := by
  obtain ⟨hn2, hn5⟩ := hx.2.2.1
  obtain ⟨pa, q, va, mv, g, hP⟩ := H.2.1
  have hm := H.cm hn5 hC
  exact ⟨_, fun A' => ct_E_sequence hx H.1 hP, fun v' f' hq => ⟨κ, _, h, hq.1, hq.2, H.more hn5⟩⟩
theorem mo_sequence (hx : MX ax rm ca tys n E) (H : INV bx ca n E C τ κ h) (hC : C + 1 < 2 ^ 31) : ∀ A', MC l y_M_sequence c_M_sequence 1 (some .int) 0 D tys A' ax rm ca n E τ [] (some (.int (sqI τ))) (τ) := by
  obtain ⟨hn2, hn5⟩ := hx.2.2.2.1
  obtain ⟨hE2, hE10⟩ := hx.2.2.2.2
  exact fun A' => ct_M_sequence hx 
theorem eo_slot (hx : CX bx rl ca tys n E) (H : INV bx ca n E C τ κ h) (hC : C + 1 < 2 ^ 31) {d : Int32} {k : Int32} : EOp l D tys bx rl ca n E C τ κ tk h y_E_slot c_E_slot 4 (some .int) 0 0 1 [.int d, .int k] (soI τ n d k) (τ) := by
  obtain ⟨hn2, hn5⟩ := hx.2.2.1
  obtain ⟨pa, q, va, mv, g, hP⟩ := H.2.1
  have hm := H.cm hn5 hC
  exact ⟨_, fun A' => ct_E_slot hx H.1 hm.1 (H.sl hC), fun v' f' hq => ⟨κ, _, h, hq.1, hq.2, H.more hn5⟩⟩
theorem mo_slot (hx : MX ax rm ca tys n E) (H : INV bx ca n E C τ κ h) (hC : C + 1 < 2 ^ 31) {d : Int32} {k : Int32} : ∀ A', MC l y_M_slot c_M_slot 3 (some .int) 1 D tys A' ax rm ca n E τ [.int d, .int k] (some (.int (soI τ n d k))) (τ) := by
  obtain ⟨hn2, hn5⟩ := hx.2.2.2.1
  obtain ⟨hE2, hE10⟩ := hx.2.2.2.2
  exact fun A' => ct_M_slot hx 
end OPS
