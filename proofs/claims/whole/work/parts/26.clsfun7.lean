/-! Fields of the object that are set; rows of the room that a method with makings has. -/
theorem e_06 {bx : Nat → Nat} {E : Nat} {τ : TS} {κ : Nat → Option Nat} {x : Int32} : cw_e bx E (ts τ 0 6 x) κ = (cw_e bx E τ κ).set 4 (.int x) := by
  unfold cw_e acI
  rw [ts_at, ts_off (show (4 : Nat) ≠ 6 by decide), ts_off (show (5 : Nat) ≠ 6 by decide), ts_off (show (7 : Nat) ≠ 6 by decide), ts_off (show (8 : Nat) ≠ 6 by decide)]
  rfl
theorem e_04 {bx : Nat → Nat} {E : Nat} {τ : TS} {κ : Nat → Option Nat} {x : Int32} : cw_e bx E (ts τ 0 4 x) κ = (cw_e bx E τ κ).set 5 (.int x) := by
  unfold cw_e acI
  rw [ts_at, ts_off (show (6 : Nat) ≠ 4 by decide), ts_off (show (5 : Nat) ≠ 4 by decide), ts_off (show (7 : Nat) ≠ 4 by decide), ts_off (show (8 : Nat) ≠ 4 by decide)]
  rfl
theorem e_05 {bx : Nat → Nat} {E : Nat} {τ : TS} {κ : Nat → Option Nat} {x : Int32} (hb : x = nI 0 ∨ x = nI 1) : cw_e bx E (ts τ 0 5 x) κ = (cw_e bx E τ κ).set 6 (.int x) := by
  unfold cw_e acI
  rw [ts_at, ts_off (show (6 : Nat) ≠ 5 by decide), ts_off (show (4 : Nat) ≠ 5 by decide), ts_off (show (7 : Nat) ≠ 5 by decide), ts_off (show (8 : Nat) ≠ 5 by decide), bI_tb hb]
  rfl
theorem e_k0 {bx : Nat → Nat} {E a : Nat} {τ : TS} {κ : Nat → Option Nat} : cw_e bx E τ (va_up κ 0 (some a)) = (cw_e bx E τ κ).set 3 (.ref a) := by
  unfold cw_e
  rw [va_up_self]
  rfl
theorem k0_o {κ : Nat → Option Nat} {x : Option Nat} : ∀ i, va_up κ 0 x (i + 1) = κ (i + 1) := fun i => va_up_ne _ _ (by omega)
theorem row0 {τ : TS} {j : Nat} {x : Int32} : ts τ 0 j x 1 = τ 1 ∧ ts τ 0 j x 2 = τ 2 ∧ ts τ 0 j x 4 = τ 4 ∧ ts τ 0 j x 6 = τ 6 := ⟨ts_ne (by decide), ts_ne (by decide), ts_ne (by decide), ts_ne (by decide)⟩
theorem sl_cp {τ : TS} {κ : Nat → Option Nat} {h : Nat → Option va_E} {d i a b j : Nat} (hS : SlOk τ κ h d i) : SlOk (cpT τ a b j) κ h d i := by
  unfold SlOk
  rw [cpT_row (by decide), cpT_row (by decide)]
  exact hS
def ra (k mc ms : Nat) : Room := { frames := k, cells := mc, slots := ms, locals := 40 * k }
def Ext (h h' : Nat → Option va_E) : Prop := ∀ a x, h a = some x → h' a = some x
theorem Ext.rf {h : Nat → Option va_E} : Ext h h := fun _ _ q => q
theorem Ext.tr {h h1 h2 : Nat → Option va_E} (a : Ext h h1) (b : Ext h1 h2) : Ext h h2 := fun q x hq => b q x (a q x hq)
theorem Ext.up {h : Nat → Option va_E} {q : Nat} {x : Option va_E} (hq : h q = none) : Ext h (va_up h q x) := fun a y ha => by
  by_cases e : a = q
  · subst e
    rw [hq] at ha
    cases ha
  · rw [va_up_ne _ _ e]
    exact ha
/-- further on over something that was not there before -/
theorem Ext.upx {h h1 : Nat → Option va_E} {q : Nat} {x : Option va_E} (e : Ext h h1) (hq : h q = none) : Ext h (va_up h1 q x) := fun a y ha => by
  by_cases e1 : a = q
  · subst e1
    rw [hq] at ha
    cases ha
  · rw [va_up_ne _ _ e1]
    exact e a y ha
theorem VlOk.ext {h h' : Nat → Option va_E} {ca : Nat → ClassId} {τ : TS} {mp v : Nat} {o : Option Nat} (e : Ext h h') (hv : VlOk h ca τ mp v o) : VlOk h' ca τ mp v o := by
  rcases hv with h1 | ⟨a, pl, P, h1, h2, h3, h4, h5⟩
  · exact Or.inl h1
  · exact Or.inr ⟨a, pl, P, h1, h2, e _ _ h3, ⟨e _ _ h4.1, h4.2⟩, h5⟩
theorem MvOk.ext {h h' : Nat → Option va_E} {τ : TS} {mp : Nat} {o : Option Nat} (e : Ext h h') (hv : MvOk h τ mp o) : MvOk h' τ mp o := by
  rcases hv with h1 | ⟨a, h1, h2, h3⟩
  · exact Or.inl h1
  · exact Or.inr ⟨a, h1, h2, e _ _ h3⟩
theorem LyOk.ext {h h' : Nat → Option va_E} {ca : Nat → ClassId} {τ : TS} {mp q va : Nat} {mv : Option Nat} {g : Nat → Option Nat} (e : Ext h h') (hv : LyOk h ca τ mp q va mv g) : LyOk h' ca τ mp q va mv g := ⟨e _ _ hv.1, e _ _ hv.2.1, fun v hl => (hv.2.2.1 v hl).ext e, hv.2.2.2.ext e⟩
theorem PrOk.ext {h h' : Nat → Option va_E} {ca : Nat → ClassId} {τ : TS} {κ : Nat → Option Nat} {pa q va : Nat} {mv : Option Nat} {g : Nat → Option Nat} (e : Ext h h') (hv : PrOk h ca τ κ pa q va mv g) : PrOk h' ca τ κ pa q va mv g := ⟨hv.1, e _ _ hv.2.1, hv.2.2.ext e⟩
theorem SlOk.ext {τ : TS} {κ : Nat → Option Nat} {h h' : Nat → Option va_E} {d i : Nat} (e : Ext h h') (hs : SlOk τ κ h d i) : SlOk τ κ h' d i := by
  rcases hs with h1 | ⟨a, q, h1, h2, h3⟩
  · exact Or.inl h1
  · exact Or.inr ⟨a, q, h1, h2, e _ _ h3⟩
section CRN
variable {p : Program} {l : Launch} {e : Env} {R : Room} {s : State} {m : MethodId} {args : Array Value} {below : List Frame} {meth : Method} {c : Code} {D : va_G} {A : Nat → Prop} {nL : Nat} {Q : State → Prop}
variable {k nn pc pc' : Nat} {lv : List (Option Value)} {st : List Value} {cc : ByteArray} {c0 : Cond} {tys : List (ClassId × FieldType)} {bx rl : Nat → Nat} {ca : Nat → ClassId} {n E : Nat} {τ : TS} {κ : Nat → Option Nat} {tk : Nat → Int32} {h : Nat → Option va_E} {own : String}
/-- an object is made -/
theorem c_new (hc : CallFix p m c cc nL s args (c0 :: WS) own) (hK : va_K D vcl tys s) (hA : ∀ q : Nat, s.heap.size ≤ q → A q) (hx : CX bx rl ca tys n E) (hh : HD bx n h) {index ci N mc ms kR : Nat} {C : String} {T : u_T} (hin : ∀ w ∈ u_ws C T N, w ∈ WS) (ty : Nat → FieldType) (hty : ∀ k, k < N → parseFieldDescriptor (T k).2.2.1 = some (ty k)) (hcl : Cond.classLink own index C ∈ WS) (hmk : Cond.instantiable C N ∈ WS ∧ Cond.initialized C ∈ WS) (hci : vcl[ci]? = some (C, T, N)) (fs : List Value) (hfs : ∀ j, j < N → defaultValue (ty j) = vp_V fs j) (hcells : k + 1 ≤ mc) (hslots : nn + N ≤ ms) (hdg : decode cc pc = .ok (.new index, 3)) (hp : pc + 3 = pc')
    (kk : ∀ q : Nat, h q = none → HD bx n (va_up h q (some (.inr (ci, fs)))) → AW p l e (ra kR mc ms) s m args below meth c D vcl A nL Q (cw bx rl ca n E τ κ tk (va_up h q (some (.inr (ci, fs))))) (k + 1) (nn + N) pc' lv (.ref q :: st)) : AW p l e (ra kR mc ms) s m args below meth c D vcl A nL Q (cw bx rl ca n E τ κ tk h) k nn pc lv st := by
  refine a_new hc hK hA (fun w h => List.mem_cons_of_mem _ (hin w h)) ty hty (hc.2.2.2.2 _ (List.mem_cons_of_mem _ hcl)) (hc.2.2.2.2 _ (List.mem_cons_of_mem _ hmk.1)) (hc.2.2.2.2 _ (List.mem_cons_of_mem _ hmk.2)) hci hfs hcells hslots hdg hp (fun q hq _ => ?_)
  have hr := cw_new hx.1 hq
  exact AW.to (cw_uph hr) rfl rfl (kk q (cw_none hx.1 hq) (hh.up hr))
/-- an array of ints is made -/
theorem c_newa (hc : CallFix p m c cc nL s args (c0 :: WS) own) (hK : va_K D vcl tys s) (hA : ∀ q : Nat, s.heap.size ≤ q → A q) (hx : CX bx rl ca tys n E) (hh : HD bx n h) {mc ms kR : Nat} (N : Nat) (hN : N * 8 < 536870912) (hcells : k + 1 ≤ mc) (hslots : nn + N ≤ ms) (hdg : decode cc pc = .ok (.newarray .int, 2)) (hp : pc + 2 = pc')
    (kk : ∀ q : Nat, h q = none → HD bx n (va_up h q (some (.inl (ca 0, N, .inl (fun _ => 0))))) → AW p l e (ra kR mc ms) s m args below meth c D vcl A nL Q (cw bx rl ca n E τ κ tk (va_up h q (some (.inl (ca 0, N, .inl (fun _ => 0)))))) (k + 1) (nn + N) pc' lv (.ref q :: st)) : AW p l e (ra kR mc ms) s m args below meth c D vcl A nL Q (cw bx rl ca n E τ κ tk h) k nn pc lv (.int (nI N) :: st) := by
  refine a_newa (atype := .int) hc hK hA (hc.2.2.2.2 _ (List.mem_cons_of_mem _ kc_arr_int)) 0 hx.2.1.1 rfl (fun h => h) (a0 := (N, .inl (fun _ => 0))) rfl rfl hN (by decide) hcells hslots hdg hp (fun q hq _ => ?_)
  have hr := cw_new hx.1 hq
  exact AW.to (cw_uph hr) rfl rfl (kk q (cw_none hx.1 hq) (hh.up hr))
/-- an array of volumes is made -/
theorem c_newv (hc : CallFix p m c cc nL s args (c0 :: WS) own) (hK : va_K D vcl tys s) (hO : AO3 s) (hA : ∀ q : Nat, s.heap.size ≤ q → A q) (hx : CX bx rl ca tys n E) (hh : HD bx n h) {index mc ms kR : Nat} (hcl : Cond.classLink own index R_U ∈ WS) (hcells : k + 1 ≤ mc) (hslots : nn + 4 ≤ ms) (hdg : decode cc pc = .ok (.anewarray index, 3)) (hp : pc + 3 = pc')
    (kk : ∀ q : Nat, h q = none → HD bx n (va_up h q (some (.inl (ca 4, 4, .inr (.inr (.inr (.inr (fun _ => none)))))))) → AW p l e (ra kR mc ms) s m args below meth c D vcl A nL Q (cw bx rl ca n E τ κ tk (va_up h q (some (.inl (ca 4, 4, .inr (.inr (.inr (.inr (fun _ => none))))))))) (k + 1) (nn + 4) pc' lv (.ref q :: st)) : AW p l e (ra kR mc ms) s m args below meth c D vcl A nL Q (cw bx rl ca n E τ κ tk h) k nn pc lv (.int (nI 4) :: st) := by
  refine a_newq hc hK hA (hc.2.2.2.2 _ (List.mem_cons_of_mem _ hcl)) hO.2.2.1.use 4 hx.2.1.2.2.2.2 (N' := 4) rfl (by decide) hcells hslots hdg hp (fun q hq _ => ?_)
  have hr := cw_new hx.1 hq
  exact AW.to (cw_uph hr) rfl rfl (kk q (cw_none hx.1 hq) (hh.up hr))
/-- a final field of an object in the making -/
theorem c_putH (hc : CallFix p m c cc nL s args (c0 :: WS) own) (hK : va_K D vcl tys s) {index a ci N : Nat} {C : String} {T : u_T} {fs : List Value} (hin : ∀ w ∈ u_ws C T N, w ∈ WS) (ty0 : Nat → FieldType) (hty : ∀ k, k < N → parseFieldDescriptor (T k).2.2.1 = some (ty0 k)) (hnm : ∀ a, a < N → ∀ b, b < N → a ≠ b → (T a).2.1 ≠ (T b).2.1) (hci : vcl[ci]? = some (C, T, N)) (hd : HD bx n h) (ha : h a = some (.inr (ci, fs))) (j : Nat) {v : Value} (hj : j < N) (hfin : (T j).2.2.2 = true ∧ meth.name = "<init>" ∧ (T j).1 = own) (hn : narrow (ty0 j) v = v) (hfit : fits (ty0 j) v = true) (hl0 : j < fs.length) (hlink : Cond.fieldLink own index (T j).1 (T j).2.1 (T j).2.2.1 ∈ WS) (hdg : decode cc pc = .ok (.putfield index, 3)) (hp : pc + 3 = pc') (kk : AW p l e R s m args below meth c D vcl A nL Q (cw bx rl ca n E τ κ tk (va_up h a (some (.inr (ci, fs.set j v))))) k nn pc' lv st) : AW p l e R s m args below meth c D vcl A nL Q (cw bx rl ca n E τ κ tk h) k nn pc lv (v :: .ref a :: st) :=
  a_put hc hK (fun w h => List.mem_cons_of_mem _ (hin w h)) ty0 hty hnm (cw_h hd ha) hci j hj (hc.2.2.2.2 _ (List.mem_cons_of_mem _ hlink)) rfl (Or.inr hfin) hn hfit hl0 hdg hp (AW.to (cw_uph (hd.off ha)) rfl rfl kk)
theorem c_oinit (hc : CallFix p m c cc nL s args (c0 :: WS) own) {f : Nat → Option va_E} {idx a : Nat} (hw : Cond.methodLink own idx Lib.objectInit ∈ WS) (hfr : 1 ≤ R.frames) (hlo : (st.map fun v => v.category).sum + 12 ≤ R.locals) (hdg : decode cc pc = .ok (.invokespecial idx, 3)) (hp : pc + 3 = pc') (kk : AW p l e R s m args below meth c D vcl A nL Q f k nn pc' lv st) : AW p l e R s m args below meth c D vcl A nL Q f k nn pc lv (.ref a :: st) :=
  a_objInit hc (hc.2.2.2.2 _ (List.mem_cons_of_mem _ hw)) (hc.2.2.2.2 _ (List.mem_cons_of_mem _ oi_inst)) (hc.2.2.2.2 _ (List.mem_cons_of_mem _ oi_code)) hdg hp hfr hlo kk
/-- a constructor's call, its words out of WS -/
theorem a_cI (hc : CallFix p m c cc nL s args (c0 :: WS) own) (hK : va_K D vcl tys s) (hO : AO3 s) (hA : ∀ q : Nat, s.heap.size ≤ q → A q) {f : Nat → Option va_E} {y : MethodName} {bytes : ByteArray} {maxL : Nat} {rm : Room} {mc ms nA index b : Nat} {C : String} {As rest : List Value} {post : Option Value → (Nat → Option va_E) → Prop}
    (hM : CT l y (Cond.code y bytes maxL none :: WS) rm D vcl tys A f (.ref b :: As) post mc ms) (hml : (Cond.methodLink own index y ∈ WS ∧ Cond.code y bytes maxL none ∈ WS ∧ Cond.initialized C ∈ WS) ∧ Cond.instanceMethod y ∈ WS) (hy : y.name = "<init>")
    (hd : y.cls = C ∧ y.cls ≠ "java/lang/invoke/MethodHandle" ∧ y.cls ≠ "java/lang/invoke/VarHandle" ∧ (parseMethodDescriptor y.desc).map (fun d => d.parameters.length) = some nA) (hrc : rm.cells = mc) (hrs : rm.slots = ms) (hR : rm.frames + 1 ≤ R.frames ∧ 8 + (maxL + 11) + rm.locals ≤ R.locals)
    (hn : As.length = nA) (hst : st = As.reverse ++ .ref b :: rest) (hW : (rest.map fun v => v.category).sum ≤ 8) (hdg : decode cc pc = .ok (.invokespecial index, 3)) (hp : pc + 3 = pc') (hf0 : k + mc ≤ R.cells ∧ nn + ms ≤ R.slots)
    (kk : ∀ (v : Option Value) (f' : Nat → Option va_E), post v f' → AW p l e R s m args below meth c D vcl A nL Q f' (k + mc) (nn + ms) pc' lv (v.toList ++ rest)) : AW p l e R s m args below meth c D vcl A nL Q f k nn pc lv st := by
  have ok : ∀ {w : Cond}, w ∈ WS → w.before args s = true := fun h => hc.2.2.2.2 _ (List.mem_cons_of_mem _ h)
  refine a_callI hc hK hO hA hM ⟨callB_of nA hc.2.2.2.2 (ws_in hml.1.2.1) rfl hrc hrs ?_ (ok hml.1.1) hd.2 hR, hy, ok hml.2⟩ hn hst hW hdg hp hf0 kk
  rw [hd.1]
  exact ok hml.1.2.2
end CRN
theorem ac_fin {bx rl : Nat → Nat} {ca : Nat → ClassId} {n E b a : Nat} {τ : TS} {κ : Nat → Option Nat} {tk : Nat → Int32} {h : Nat → Option va_E} (h4 : tb (τ 0 5) = false) (hc : chL τ n (3 * n) = some b) (hk : κ (1 + b) = some a) (hG : ∀ j, j < n → qA (cpT τ b 16 64) (τ 4 b) (τ 5 b) j = false) : cw bx rl ca n E (ts (ts (acT (cpT τ b 16 64) (τ 4 b) (τ 5 b) n) 0 6 (nI 0)) 0 5 (nI 1)) (va_up (acK (cpT τ b 16 64) κ a (τ 4 b) (τ 5 b) n) 0 (some a)) tk h = cw bx rl ca n E (acP τ n).2 (apK τ κ n) tk h := by
  have e1 : (acP τ n).2 = ac1 (acT (cpT τ b 16 64) (τ 4 b) (τ 5 b) n) (τ 4 b) (τ 5 b) := by simp [acP, h4, hc, ac_done hG]
  have e2 : apK τ κ n = va_up (acK (cpT τ b 16 64) κ a (τ 4 b) (τ 5 b) n) 0 (some a) := by simp [apK, h4, hc, hk, aq_done hG]
  rw [e1, e2]
  exact cw_ac1
