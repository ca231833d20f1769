/-! Rows for the law: the script, the switch, calls beside each other. -/
theorem lw_at {b : Nat} {s : State} (hts : ∀ w ∈ lw_tbl, w.before #[Value.ref b] s = true) {w : Cond} (i : Nat) (h : lw_tbl[i]? = some w) : w.before #[Value.ref b] s = true := hts w (List.mem_of_getElem? h)
theorem law_O {b : Nat} {s : State} (hts : ∀ w ∈ lw_tbl, w.before #[Value.ref b] s = true) : AO3 s := ⟨va_AO.of (lw_at hts 117 rfl), va_AO.of (lw_at hts 124 rfl), va_AO.of (lw_at hts 86 rfl), va_Nw.of rfl (lw_at hts 318 rfl)⟩
theorem arr_i {args : Array Value} {s : State} {ty : FieldType} (h : (Cond.arrayClass ty).before args s = true) (hp : ∀ c, va_RA s c ty ↔ s.vm.findClass ("[" ++ ty.toString) = some c) : ∃ c, ArrOfT s c ty ∧ va_RA s c ty := by
  obtain ⟨c, k, comp, h1, h2, h3⟩ := Cond.arrayClass_spec h
  exact ⟨c, fun n z => ⟨fun k h => (by cases h), k, h2, comp, h3⟩, (hp c).mpr h1⟩
theorem arr_q {s : State} {C : String} (h : va_AO C s) : ∃ c, ArrOfT s c (.object C) ∧ va_RA s c (.object C) := by
  obtain ⟨comp, c, k, h1, -, h3, h4, h5⟩ := Cond.arrayOver_spec h
  exact ⟨c, fun n z => ⟨fun k h => (by cases h), k, h3, comp, h4⟩, k, comp, h3, h4, h1, h5⟩
theorem law_K {b : Nat} {s : State} (hts : ∀ w ∈ lw_tbl, w.before #[Value.ref b] s = true) : ∃ (D : va_G) (tys : List (ClassId × FieldType)) (ca : Nat → ClassId), va_K D vcl tys s ∧ TYS tys ca := by
  have ok : ∀ w ∈ WS, w.before #[Value.ref b] s = true := fun w h => hts w (List.mem_filter.mp h).1
  obtain ⟨d0, i0, k0⟩ := u_known ok in_C (ok _ mk_C.1)
  obtain ⟨d1, i1, k1⟩ := u_known ok in_D (ok _ mk_D.1)
  obtain ⟨d2, i2, k2⟩ := u_known ok in_L (ok _ mk_L.1)
  obtain ⟨d3, i3, k3⟩ := u_known ok in_U (ok _ mk_U.1)
  obtain ⟨d4, i4, k4⟩ := u_known ok in_E (ok _ mk_E.1)
  obtain ⟨d5, i5, k5⟩ := u_known ok in_V (ok _ mk_V.1)
  obtain ⟨d6, i6, k6⟩ := u_known ok in_M (ok _ mk_M.1)
  obtain ⟨c0, a0, r0⟩ := arr_i (ok _ kc_arr_int) (fun c => Iff.rfl)
  obtain ⟨c1, a1, r1⟩ := arr_i (ok _ kc_arr_boolean) (fun c => Iff.rfl)
  have hO := law_O hts
  obtain ⟨c2, a2, r2⟩ := arr_q hO.1
  obtain ⟨c3, a3, r3⟩ := arr_q hO.2.1
  obtain ⟨c4, a4, r4⟩ := arr_q hO.2.2.1
  refine ⟨(fun c => [d0, d1, d2, d3, d4, d5, d6].getD c d0, fun c => [i0, i1, i2, i3, i4, i5, i6].getD c i0), [(c0, .int), (c1, .boolean), (c2, .object R_D), (c3, .object R_C), (c4, .object R_U)], fun c => [c0, c1, c2, c3, c4].getD c c0, ⟨fun c q hq => ?_, fun k q hq => ?_⟩, rfl, rfl, rfl, rfl, rfl⟩
  · match c, hq with
    | 0, hq => cases hq; exact k0
    | 1, hq => cases hq; exact k1
    | 2, hq => cases hq; exact k2
    | 3, hq => cases hq; exact k3
    | 4, hq => cases hq; exact k4
    | 5, hq => cases hq; exact k5
    | 6, hq => cases hq; exact k6
    | c + 7, hq => simp at hq
  · match k, hq with
    | 0, hq => cases hq; exact ⟨a0, r0⟩
    | 1, hq => cases hq; exact ⟨a1, r1⟩
    | 2, hq => cases hq; exact ⟨a2, r2⟩
    | 3, hq => cases hq; exact ⟨a3, r3⟩
    | 4, hq => cases hq; exact ⟨a4, r4⟩
    | k + 5, hq => simp at hq
/-! two worlds side by side -/
def un (f g : Nat → Option va_E) : Nat → Option va_E := fun a => match f a with
  | some x => some x
  | none => g a
def Dj (f g : Nat → Option va_E) : Prop := ∀ a x, g a = some x → f a = none
section UNS
variable {f g f1 g1 : Nat → Option va_E} {a : Nat} {x : va_E}
theorem un_l (h : f a = some x) : un f g a = some x := by
  unfold un
  rw [h]
theorem un_r (h : f a = none) : un f g a = g a := by
  unfold un
  rw [h]
theorem un_joinL (hd : Dj f g) (hf : ∀ a x, f1 a = some x → f a = none → un f g a = none) : join (un f g) f f1 = un f1 g ∧ Dj f1 g := by
  have hd1 : Dj f1 g := fun a x ha => by
    cases h1 : f1 a with
    | none => rfl
    | some y =>
      have h2 := hd a x ha
      have h3 := hf a y h1 h2
      rw [un_r h2, ha] at h3
      cases h3
  refine ⟨?_, hd1⟩
  funext a
  cases h1 : f1 a with
  | some y => rw [join_some h1, un_l h1]
  | none =>
    rw [un_r h1]
    cases h0 : f a with
    | some z =>
      rw [join_gone h1 h0]
      cases hg : g a with
      | none => rfl
      | some x =>
        rw [hd a x hg] at h0
        cases h0
    | none => rw [join_none h1 h0, un_r h0]
theorem un_joinR (hd : Dj f g) (hs : ∀ a, (g1 a).isSome = (g a).isSome) : join (un f g) g g1 = un f g1 ∧ Dj f g1 := by
  have hg : ∀ a, g1 a = none → g a = none := fun a h => by
    have := hs a
    rw [h] at this
    cases h2 : g a with
    | none => rfl
    | some y => rw [h2] at this; cases this
  have hd1 : Dj f g1 := fun a x ha => by
    have := hs a
    rw [ha] at this
    cases h2 : g a with
    | none => rw [h2] at this; cases this
    | some y => exact hd a y h2
  refine ⟨?_, hd1⟩
  funext a
  cases h1 : g1 a with
  | some y => rw [join_some h1, un_r (hd1 a y h1), h1]
  | none =>
    rw [join_none h1 (hg a h1)]
    cases h0 : f a with
    | some z => rw [un_l h0, un_l h0]
    | none => rw [un_r h0, un_r h0, hg a h1, h1]
/-- the second one made beside the first -/
theorem un_new {q : Nat} {X : va_E} (nq : f q = none) (hq : (g q).isSome = true) (hf : ∀ a x, g a = some x → one q X a = none → va_up f q (some X) a = none) : join (va_up f q (some X)) (one q X) g = un f g ∧ Dj f g := by
  have hd : Dj f g := fun a x ha => by
    by_cases e : a = q
    · subst e; exact nq
    · have h1 := hf a x ha (va_up_ne _ _ e)
      rw [va_up_ne _ _ e] at h1
      exact h1
  refine ⟨?_, hd⟩
  funext a
  cases h1 : g a with
  | some y => rw [join_some h1, un_r (hd a y h1), h1]
  | none =>
    have e : a ≠ q := fun e => by rw [← e, h1] at hq; cases hq
    rw [join_none h1 (va_up_ne _ _ e), va_up_ne _ _ e]
    cases h0 : f a with
    | some z => rw [un_l h0]
    | none => rw [un_r h0, h1]
end UNS
theorem tw_dom {ax rl : Nat → Nat} {ca : Nat → ClassId} {n E : Nat} {τ τ' : TS} (a : Nat) : (tw ax rl ca n E τ' a).isSome = (tw ax rl ca n E τ a).isSome := by
  unfold tw
  split <;> rfl
section LWR
variable {p : Program} {l : Launch} {e : Env} {R : Room} {s : State} {m : MethodId} {args : Array Value} {below : List Frame} {meth : Method} {c : Code} {D : va_G} {A : Nat → Prop} {nL : Nat} {Q : State → Prop}
variable {f g : Nat → Option va_E} {k nn pc pc' : Nat} {lv : List (Option Value)} {st : List Value} {cc : ByteArray} {c0 : Cond} {own : String} {tys : List (ClassId × FieldType)}
theorem a_slen (hc : CallFix p m c cc nL s args (c0 :: WS) own) {b L : Nat} {xs : Nat → Int32} (hX : va_X b L xs s s.heap) (hbl : b < s.heap.size) (hbA : ¬ A b) (hdg : decode cc pc = .ok (.arraylength, 1)) (hp : pc + 1 = pc') (kk : AW p l e R s m args below meth c D vcl A nL Q f k nn pc' lv (.int (nI L) :: st)) : AW p l e R s m args below meth c D vcl A nL Q f k nn pc lv (.ref b :: st) := by
  subst hp
  exact fun H locs ls hf hd hS hl => va_slen hc.1 hc.2.1 hX hbl hbA hS hdg (kk H locs ls hf hd hS hl)
theorem a_sld (hc : CallFix p m c cc nL s args (c0 :: WS) own) {b L : Nat} {xs : Nat → Int32} (hX : va_X b L xs s s.heap) (hbl : b < s.heap.size) (hbA : ¬ A b) (hL : L < 2 ^ 31) (i : Nat) (hi : i < L) (hdg : decode cc pc = .ok (.iaload, 1)) (hp : pc + 1 = pc') (kk : AW p l e R s m args below meth c D vcl A nL Q f k nn pc' lv (.int (xs i) :: st)) : AW p l e R s m args below meth c D vcl A nL Q f k nn pc lv (.int (nI i) :: .ref b :: st) := by
  subst hp
  intro H locs ls hf hd hS hl
  refine va_sld hc.1 hc.2.1 hX hbl hbA hS (vp_in_nI hi hL) hdg ?_
  rw [nI_clamp (by omega)]
  exact kk H locs ls hf hd hS hl
/-- script[i + j] -/
theorem w_arg (hc : CallFix p m c cc nL s args (c0 :: WS) own) {b L : Nat} {xs : Nat → Int32} (hX : va_X b L xs s s.heap) (hbl : b < s.heap.size) (hbA : ¬ A b) (hL : L < 2 ^ 31) (i j : Nat) (hij : i + j < L) (h0 : lv[0]? = some (some (.ref b))) (h3 : lv[3]? = some (some (.int (nI i)))) {z : Int} (d0 : decode cc pc = .ok (.aload_n 0, 1)) (d1 : decode cc (pc + 1) = .ok (.iload_n 3, 1)) (d2 : decode cc (pc + 1 + 1) = .ok (.iconst z, 1)) (hz : Int32.ofInt z = nI j) (d3 : decode cc (pc + 1 + 1 + 1) = .ok (.iadd, 1)) (d4 : decode cc (pc + 1 + 1 + 1 + 1) = .ok (.iaload, 1)) (hp : pc + 5 = pc') (kk : AW p l e R s m args below meth c D vcl A nL Q f k nn pc' lv (.int (xs (i + j)) :: st)) : AW p l e R s m args below meth c D vcl A nL Q f k nn pc lv st := by
  refine a_aload_n hc d0 rfl rfl h0 (a_iload_n hc d1 rfl rfl h3 (a_iconst hc d2 rfl hz (a_nadd hc d3 rfl (a_sld hc hX hbl hbA hL (i + j) hij d4 ?_ kk))))
  omega
theorem a_tabIn (hc : CallFix p m c cc nL s args (c0 :: WS) own) {dflt lo hi : Int} {offs : Array Int} {len : Nat} {x : Int32} {off : Int} {tgt : Nat} (hdg : decode cc pc = .ok (.tableswitch dflt lo hi offs, len)) (h1 : ¬ x.toInt < lo) (h2 : ¬ hi < x.toInt) (ho : offs[(x.toInt - lo).toNat]? = some off) (ht : (pc : Int) + off = (tgt : Int)) (kk : AW p l e R s m args below meth c D vcl A nL Q f k nn tgt lv st) : AW p l e R s m args below meth c D vcl A nL Q f k nn pc lv (.int x :: st) := fun H locs ls hf hd hS hl => lv_tableIn hc.1 hc.2.1 hdg h1 h2 ho ht (kk H locs ls hf hd hS hl)
theorem a_tabOut (hc : CallFix p m c cc nL s args (c0 :: WS) own) {dflt lo hi : Int} {offs : Array Int} {len : Nat} {x : Int32} {tgt : Nat} (hdg : decode cc pc = .ok (.tableswitch dflt lo hi offs, len)) (h : x.toInt < lo ∨ hi < x.toInt) (ht : (pc : Int) + dflt = (tgt : Int)) (kk : AW p l e R s m args below meth c D vcl A nL Q f k nn tgt lv st) : AW p l e R s m args below meth c D vcl A nL Q f k nn pc lv (.int x :: st) := fun H locs ls hf hd hS hl => lv_tableOut hc.1 hc.2.1 hdg h ht (kk H locs ls hf hd hS hl)
/-- calls over a part of the world, their words out of WS -/
theorem a_cVF {f0 : Nat → Option va_E} (hc : CallFix p m c cc nL s args (c0 :: WS) own) (hK : va_K D vcl tys s) (hO : AO3 s) (hA : ∀ q : Nat, s.heap.size ≤ q → A q) {y : MethodName} {bytes : ByteArray} {maxL : Nat} {ret : Option FieldType} {rm : Room} {mc ms nA index ci b : Nat} {C : String} {r : vw_C} {fs As rest : List Value} {post : Option Value → (Nat → Option va_E) → Prop} (hsub : ∀ a x, f0 a = some x → f a = some x)
    (hM : ∀ A', CT l y (Cond.code y bytes maxL ret :: WS) rm D vcl tys A' f0 (.ref b :: As) post mc ms) (hml : (Cond.methodLink own index y ∈ WS ∧ Cond.code y bytes maxL ret ∈ WS ∧ Cond.initialized C ∈ WS) ∧ Cond.instanceMethod y ∈ WS ∧ Cond.selects C y y ∈ WS)
    (hd : y.cls = C ∧ y.cls ≠ "java/lang/invoke/MethodHandle" ∧ y.cls ≠ "java/lang/invoke/VarHandle" ∧ (parseMethodDescriptor y.desc).map (fun d => d.parameters.length) = some nA) (hrc : rm.cells = mc) (hrs : rm.slots = ms) (hR : rm.frames + 1 ≤ R.frames ∧ 8 + (maxL + 11) + rm.locals ≤ R.locals)
    (he : f0 b = some (.inr (ci, fs))) (hci : vcl[ci]? = some r) (hC : r.1 = C) (hn : As.length = nA) (hst : st = As.reverse ++ .ref b :: rest) (hW : (rest.map fun v => v.category).sum ≤ 8) (hdg : decode cc pc = .ok (.invokevirtual index, 3)) (hp : pc + 3 = pc') (hf0 : k + mc ≤ R.cells ∧ nn + ms ≤ R.slots)
    (kk : ∀ (v : Option Value) (f' : Nat → Option va_E), JP f f0 post v f' → AW p l e R s m args below meth c D vcl A nL Q f' (k + mc) (nn + ms) pc' lv (v.toList ++ rest)) : AW p l e R s m args below meth c D vcl A nL Q f k nn pc lv st := by
  have ok : ∀ {w : Cond}, w ∈ WS → w.before args s = true := fun h => hc.2.2.2.2 _ (List.mem_cons_of_mem _ h)
  refine a_callVF hc hK hO hA hsub hM ⟨callB_of nA hc.2.2.2.2 (ws_in hml.1.2.1) rfl hrc hrs ?_ (ok hml.1.1) hd.2 hR, ok hml.2.1, ok hml.2.2⟩ he hci hC hn hst hW hdg hp hf0 kk
  rw [hd.1]
  exact ok hml.1.2.2
theorem a_cIF {f0 : Nat → Option va_E} (hc : CallFix p m c cc nL s args (c0 :: WS) own) (hK : va_K D vcl tys s) (hO : AO3 s) (hA : ∀ q : Nat, s.heap.size ≤ q → A q) {y : MethodName} {bytes : ByteArray} {maxL : Nat} {rm : Room} {mc ms nA index b : Nat} {C : String} {As rest : List Value} {post : Option Value → (Nat → Option va_E) → Prop} (hsub : ∀ a x, f0 a = some x → f a = some x)
    (hM : ∀ A', CT l y (Cond.code y bytes maxL none :: WS) rm D vcl tys A' f0 (.ref b :: As) post mc ms) (hml : (Cond.methodLink own index y ∈ WS ∧ Cond.code y bytes maxL none ∈ WS ∧ Cond.initialized C ∈ WS) ∧ Cond.instanceMethod y ∈ WS) (hy : y.name = "<init>")
    (hd : y.cls = C ∧ y.cls ≠ "java/lang/invoke/MethodHandle" ∧ y.cls ≠ "java/lang/invoke/VarHandle" ∧ (parseMethodDescriptor y.desc).map (fun d => d.parameters.length) = some nA) (hrc : rm.cells = mc) (hrs : rm.slots = ms) (hR : rm.frames + 1 ≤ R.frames ∧ 8 + (maxL + 11) + rm.locals ≤ R.locals)
    (hn : As.length = nA) (hst : st = As.reverse ++ .ref b :: rest) (hW : (rest.map fun v => v.category).sum ≤ 8) (hdg : decode cc pc = .ok (.invokespecial index, 3)) (hp : pc + 3 = pc') (hf0 : k + mc ≤ R.cells ∧ nn + ms ≤ R.slots)
    (kk : ∀ (v : Option Value) (f' : Nat → Option va_E), JP f f0 post v f' → AW p l e R s m args below meth c D vcl A nL Q f' (k + mc) (nn + ms) pc' lv (v.toList ++ rest)) : AW p l e R s m args below meth c D vcl A nL Q f k nn pc lv st := by
  have ok : ∀ {w : Cond}, w ∈ WS → w.before args s = true := fun h => hc.2.2.2.2 _ (List.mem_cons_of_mem _ h)
  refine a_callIF hc hK hO hA hsub hM ⟨callB_of nA hc.2.2.2.2 (ws_in hml.1.2.1) rfl hrc hrs ?_ (ok hml.1.1) hd.2 hR, hy, ok hml.2⟩ hn hst hW hdg hp hf0 kk
  rw [hd.1]
  exact ok hml.1.2.2
end LWR
