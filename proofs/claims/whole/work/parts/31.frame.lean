/-! The frame rule: what is told over a part of the world holds beside the rest of it. -/
def join (f f0 f1 : Nat → Option va_E) : Nat → Option va_E := fun a => match f1 a with
  | some x => some x
  | none => if (f0 a).isSome then none else f a
theorem join_some {f f0 f1 : Nat → Option va_E} {a : Nat} {x : va_E} (h : f1 a = some x) : join f f0 f1 a = some x := by
  unfold join
  rw [h]
theorem join_none {f f0 f1 : Nat → Option va_E} {a : Nat} (h : f1 a = none) (h0 : f0 a = none) : join f f0 f1 a = f a := by
  unfold join
  rw [h, h0]
  rfl
theorem join_gone {f f0 f1 : Nat → Option va_E} {a : Nat} {y : va_E} (h : f1 a = none) (h0 : f0 a = some y) : join f f0 f1 a = none := by
  unfold join
  rw [h, h0]
  rfl
def sA (f0 : Nat → Option va_E) (sz : Nat) : Nat → Prop := fun q => sz ≤ q ∨ (f0 q).isSome = true
def JP (f f0 : Nat → Option va_E) (post : Option Value → (Nat → Option va_E) → Prop) : Option Value → (Nat → Option va_E) → Prop := fun v f' => ∃ f1, post v f1 ∧ f' = join f f0 f1 ∧ ∀ a x, f1 a = some x → f0 a = none → f a = none
/-- the end of a call over a part of the world, told over the whole -/
theorem join_end {D : va_G} {cl : List vw_C} {A : Nat → Prop} {f f0 f1 : Nat → Option va_E} {H H1 : Heap} (hf : fw D cl f H) (hsub : ∀ a x, f0 a = some x → f a = some x) (hA : ∀ q : Nat, H.size ≤ q → A q) (hd : ∀ a x, f a = some x → A a) (h1 : fw D cl f1 H1) (hd1 : ∀ a x, f1 a = some x → sA f0 H.size a) (hk : ∀ q : Nat, q < H.size → ¬ sA f0 H.size q → H1[q]? = H[q]?) :
    fw D cl (join f f0 f1) H1 ∧ (∀ a x, join f f0 f1 a = some x → A a) ∧ ∀ a x, f1 a = some x → f0 a = none → f a = none := by
  have hs : ∀ q, sA f0 H.size q → A q := fun q hq => by
    rcases hq with h | h
    · exact hA q h
    · obtain ⟨x, hx⟩ := Option.isSome_iff_exists.mp h
      exact hd q x (hsub q x hx)
  refine ⟨fun a x ha => ?_, fun a x ha => ?_, fun a x ha h0 => ?_⟩
  · cases e1 : f1 a with
    | some y =>
      rw [join_some e1] at ha
      cases ha
      exact h1 a _ e1
    | none =>
      cases e0 : f0 a with
      | some y => rw [join_gone e1 e0] at ha; cases ha
      | none =>
        rw [join_none e1 e0] at ha
        have hl := (hf a x ha).lt
        refine (hf a x ha).kept (hk a hl ?_)
        rintro (h | h)
        · exact absurd hl (Nat.not_lt.mpr h)
        · rw [e0] at h; cases h
  · cases e1 : f1 a with
    | some y => exact hs a (hd1 a y e1)
    | none =>
      cases e0 : f0 a with
      | some y => rw [join_gone e1 e0] at ha; cases ha
      | none =>
        rw [join_none e1 e0] at ha
        exact hd a x ha
  · cases e : f a with
    | none => rfl
    | some y =>
      rcases hd1 a x ha with h | h
      · exact absurd (hf a y e).lt (Nat.not_lt.mpr h)
      · rw [h0] at h; cases h
theorem CT.ofSmall {l : Launch} {D : va_G} {cl : List vw_C} {tys : List (ClassId × FieldType)} {A : Nat → Prop} {f f0 : Nat → Option va_E} {own : String} {y : MethodName} {ws' : List Cond} {rm : Room} {cc : ByteArray} {maxL : Nat} {ret : Option FieldType} {av : List Value} {post : Option Value → (Nat → Option va_E) → Prop} {mc ms : Nat}
    (ho : y.cls = own) (hy : plainName own = true) (hlen : (lg_sl av).length ≤ maxL) (hcat : ∀ v ∈ av, v.category = 1) (hsub : ∀ a x, f0 a = some x → f a = some x)
    (body : ∀ (p : Program) (e : Env) (s : State) (m : MethodId) (args : Array Value) (below : List Frame) (meth : Method) (c : Code), CallFix p m c cc maxL s args (Cond.code y cc maxL ret :: ws') own → va_K D cl tys s → AO3 s → meth.sig.returnType = ret → meth.locks = false → (∀ q : Nat, s.heap.size ≤ q → sA f0 s.heap.size q) →
      AW p l e rm s m args below meth c D cl (sA f0 s.heap.size) maxL (MQ below (CQ D cl (sA f0 s.heap.size) post) args s mc ms (sA f0 s.heap.size)) f0 0 0 0 (al_in av maxL) []) : CT l y (Cond.code y cc maxL ret :: ws') rm D cl tys A f av (JP f f0 post) mc ms := by
  intro sz hA hd
  refine Met.ofW (cc := cc) (maxL := maxL) (ret := ret) (by rw [ho]; exact hy) rfl ?_
  intro p e s m args below meth c s₁ B hml hv
  obtain ⟨rfl, hsz, hF, hK, hO⟩ := hv
  have hts := atoms_spec (ws := Cond.code y cc maxL ret :: ws') B.pre
  have hown : s.vm.findClass y.cls = some m.cls := findClass_of_methodNamed B.named
  subst hsz
  have hs : ∀ q, sA f0 s.heap.size q → A q := fun q hq => by
    rcases hq with h | h
    · exact hA q h
    · obtain ⟨x, hx⟩ := Option.isSome_iff_exists.mp h
      exact hd q x (hsub q x hx)
  have hl := lv_entry av (n := maxL) hlen
  rw [lg_entry_eq]
  generalize (lg_sl av ++ List.replicate (maxL - (lg_sl av).length) Slot.unset).toArray = ls at hl ⊢
  have w := body p e s m av.toArray below meth c ⟨B.exec, B.bytes, hml, by rw [← ho]; exact hown, hts⟩ hK hO B.returns B.notSynchronized (fun q hq => Or.inl hq) s.heap [] ls (fun a x ha => hF a x (hsub a x ha)) (fun a x ha => Or.inr (by rw [ha]; rfl)) va_S.rf (al_entry hl hcat)
  intro T hT X
  obtain ⟨t, st, o, ht, hE, ⟨⟨v, f1, ho1, hp, hF1, hd1⟩, hz, hk⟩, L, hL, hLf⟩ := w T hT X
  obtain ⟨j1, j2, j3⟩ := join_end hF hsub hA hd hF1 hd1 hk
  exact ⟨t, st, o, ht, hE, ⟨⟨v, join f f0 f1, ho1, ⟨f1, hp, rfl, j3⟩, j1, j2⟩, hz, fun q h1 h2 => hk q h1 (fun h => h2 (hs q h))⟩, L, hL, fun q hq => hs _ (hLf q hq)⟩
section FRC
variable {p : Program} {l : Launch} {e : Env} {R : Room} {s : State} {m : MethodId} {args : Array Value} {below : List Frame} {meth : Method} {c : Code} {D : va_G} {cl : List vw_C} {A : Nat → Prop} {nL : Nat} {Q : State → Prop}
variable {f f0 : Nat → Option va_E} {k n pc pc' : Nat} {lv : List (Option Value)} {st : List Value} {cc : ByteArray} {Ts : List Cond} {own : String} {tys : List (ClassId × FieldType)}
theorem a_runF {post : Option Value → (Nat → Option va_E) → Prop} {H : Heap} {locs : List Loc} {ls : Array Slot} {mc ms : Nat} {st0 rest : List Value} {av : Array Value} (hsub : ∀ a x, f0 a = some x → f a = some x) (hf : fw D cl f H) (hd : ∀ a x, f a = some x → A a) (hA : ∀ q : Nat, s.heap.size ≤ q → A q) (hr : va_Run p l e R s m args below meth c H locs k n mc ms (F0 m pc ls st0) rest (CQ D cl (sA f0 H.size) post av) (sA f0 H.size)) (hS : va_S A s.heap H locs)
    (kk : ∀ (v : Option Value) (f' : Nat → Option va_E) (H1 : Heap) (locs1 : List Loc), JP f f0 post v f' → fw D cl f' H1 → (∀ (a : Nat) (x : va_E), f' a = some x → A a) → va_S A s.heap H1 locs1 → W p l e R s m args below meth c H1 locs1 (k + mc) (n + ms) Q (F0 m (pc + 3) ls (v.toList ++ rest))) : W p l e R s m args below meth c H locs k n Q (F0 m pc ls st0) := by
  have hAH : ∀ q : Nat, H.size ≤ q → A q := fun q hq => hA q (Nat.le_trans hS.1 hq)
  have hs : ∀ q, sA f0 H.size q → A q := fun q hq => by
    rcases hq with h | h
    · exact hAH q h
    · obtain ⟨x, hx⟩ := Option.isSome_iff_exists.mp h
      exact hd q x (hsub q x hx)
  intro T hT X
  obtain ⟨v, st₀, t, T', L, h0, X', hL, e1, e2, ⟨⟨v', f1, hv, hp, hF, hd1⟩, hz, hk⟩, st⟩ := hr T hT X
  cases hv
  rw [h0] at hz hk
  obtain ⟨j1, j2, j3⟩ := join_end hf hsub hAH hd hF hd1 hk
  obtain ⟨t2, a1, b1⟩ := kk v (join f f0 f1) T'.heap (locs ++ L) ⟨f1, hp, rfl, j3⟩ (by rw [e1]; exact j1) j2 ⟨Nat.le_trans hS.1 (by rw [e1]; exact hz), fun q h1 h2 => by rw [e1, hk q (Nat.lt_of_lt_of_le h1 hS.1) (fun hq => h2 (hs q hq))]; exact hS.2.1 q h1 h2, fun q hq => by
      rcases List.mem_append.mp hq with h | h
      · exact hS.2.2 q h
      · exact hs _ (hL q h)⟩ T' rfl X'
  exact ⟨t2, st t2 a1, b1⟩
/-- calls over a part of the world -/
theorem a_callVF (hc : CallFix p m c cc nL s args Ts own) (hK : va_K D cl tys s) (hO : AO3 s) (hA : ∀ q : Nat, s.heap.size ≤ q → A q) {y : MethodName} {bytes : ByteArray} {maxL : Nat} {ret : Option FieldType} {ws : List Cond} {rm : Room} {mc ms nA index ci b : Nat} {C : String} {r : vw_C} {fs As rest : List Value} {post : Option Value → (Nat → Option va_E) → Prop} (hsub : ∀ a x, f0 a = some x → f a = some x)
    (hM : ∀ A', CT l y ws rm D cl tys A' f0 (.ref b :: As) post mc ms) (cw : CallW R s args own C index y bytes maxL ret ws rm mc ms nA) (he : f0 b = some (.inr (ci, fs))) (hci : cl[ci]? = some r) (hC : r.1 = C) (hn : As.length = nA) (hst : st = As.reverse ++ .ref b :: rest) (hW : (rest.map fun v => v.category).sum ≤ 8) (hdg : decode cc pc = .ok (.invokevirtual index, 3)) (hp : pc + 3 = pc') (hf0 : k + mc ≤ R.cells ∧ n + ms ≤ R.slots)
    (kk : ∀ (v : Option Value) (f' : Nat → Option va_E), JP f f0 post v f' → AW p l e R s m args below meth c D cl A nL Q f' (k + mc) (n + ms) pc' lv (v.toList ++ rest)) : AW p l e R s m args below meth c D cl A nL Q f k n pc lv st := by
  subst hp
  subst hst
  subst hC
  intro H locs ls hf hd hS hl
  exact a_runF hsub hf hd hA (va_runV hc (hM (sA f0 H.size) H.size (fun q hq => Or.inl hq) (fun a x ha => Or.inr (by rw [ha]; rfl))) cw ⟨CP.blind, va_recv hK (hf.one (hsub _ _ he)) hci (q0 := 0) rfl, fun U hU hW => ⟨rfl, by rw [hU], by rw [hU]; exact fun a x ha => hf a x (hsub a x ha), va_K.moved hW.alike hK, hO.warm hW⟩⟩ rfl hn hl.1 rfl (lv_room hW) hdg hf0) hS (fun v f' H1 locs1 h1 h2 h3 h4 => kk v f' h1 H1 locs1 ls h2 h3 h4 hl)
theorem a_callIF (hc : CallFix p m c cc nL s args Ts own) (hK : va_K D cl tys s) (hO : AO3 s) (hA : ∀ q : Nat, s.heap.size ≤ q → A q) {y : MethodName} {bytes : ByteArray} {maxL : Nat} {ws : List Cond} {rm : Room} {mc ms nA index b : Nat} {As rest : List Value} {post : Option Value → (Nat → Option va_E) → Prop} (hsub : ∀ a x, f0 a = some x → f a = some x)
    (hM : ∀ A', CT l y ws rm D cl tys A' f0 (.ref b :: As) post mc ms) (cw : CallB R s args own index y bytes maxL none ws rm mc ms nA ∧ y.name = "<init>" ∧ (Cond.instanceMethod y).before args s = true) (hn : As.length = nA) (hst : st = As.reverse ++ .ref b :: rest) (hW : (rest.map fun v => v.category).sum ≤ 8) (hdg : decode cc pc = .ok (.invokespecial index, 3)) (hp : pc + 3 = pc') (hf0 : k + mc ≤ R.cells ∧ n + ms ≤ R.slots)
    (kk : ∀ (v : Option Value) (f' : Nat → Option va_E), JP f f0 post v f' → AW p l e R s m args below meth c D cl A nL Q f' (k + mc) (n + ms) pc' lv (v.toList ++ rest)) : AW p l e R s m args below meth c D cl A nL Q f k n pc lv st := by
  subst hp
  subst hst
  intro H locs ls hf hd hS hl
  exact a_runF hsub hf hd hA (va_runI hc (hM (sA f0 H.size) H.size (fun q hq => Or.inl hq) (fun a x ha => Or.inr (by rw [ha]; rfl))) cw ⟨CP.blind, fun U hU hW => ⟨rfl, by rw [hU], by rw [hU]; exact fun a x ha => hf a x (hsub a x ha), va_K.moved hW.alike hK, hO.warm hW⟩⟩ rfl hn hl.1 rfl (lv_room hW) hdg hf0) hS (fun v f' H1 locs1 h1 h2 h3 h4 => kk v f' h1 H1 locs1 ls h2 h3 h4 hl)
end FRC
/-! a world of one array, and of two -/
def one (a : Nat) (x : va_E) : Nat → Option va_E := va_up (fun _ => none) a (some x)
theorem one_at {a : Nat} {x : va_E} : one a x a = some x := va_up_self _ _ _
theorem one_eq {a b : Nat} {x y : va_E} (h : one a x b = some y) : b = a ∧ y = x := by
  unfold one at h
  by_cases e : b = a
  · subst e
    rw [va_up_self] at h
    cases h
    exact ⟨rfl, rfl⟩
  · rw [va_up_ne _ _ e] at h
    cases h
theorem fits_i {cA : ClassId} {N : Nat} {g : Nat → Int32} (i : Nat) (v : Value) (h : (vp_cell cA (N, .inl g)).slots[i]? = some v) : fits .int v = true := by
  rw [vp_cell_i] at h
  by_cases hi : i < N
  · rw [arrV_read cA _ hi] at h
    cases h
    rfl
  · rw [Array.getElem?_eq_none (by rw [arrV_size]; omega)] at h
    cases h
section ONE
variable {p : Program} {l : Launch} {e : Env} {R : Room} {s : State} {m : MethodId} {args : Array Value} {below : List Frame} {meth : Method} {c : Code} {D : va_G} {cl : List vw_C} {A : Nat → Prop} {nL : Nat} {Q : State → Prop}
variable {k n pc pc' : Nat} {lv : List (Option Value)} {st : List Value} {cc : ByteArray} {c0 : Cond} {own : String} {tys : List (ClassId × FieldType)} {cA : ClassId} {a N : Nat} {g : Nat → Int32}
theorem a_clone (hc : CallFix p m c cc nL s args (c0 :: WS) R_JA) (hK : va_K D cl tys s) (hO : AO3 s) (hA : ∀ q : Nat, s.heap.size ≤ q → A q) (ht : tys[0]? = some (cA, .int)) (hframes : 1 ≤ R.frames) (hlocals : (st.map fun v => v.category).sum + 14 ≤ R.locals) (hcells : k + 1 ≤ R.cells) (hslots : n + N ≤ R.slots) (hdg : decode cc pc = .ok (.invokevirtual 316, 3)) (hp : pc + 3 = pc')
    (kk : ∀ q : Nat, q ≠ a → AW p l e R s m args below meth c D cl A nL Q (va_up (one a (.inl (cA, N, .inl g))) q (some (.inl (cA, N, .inl g)))) (k + 1) (n + N) pc' lv (.ref q :: st)) : AW p l e R s m args below meth c D cl A nL Q (one a (.inl (cA, N, .inl g))) k n pc lv (.ref a :: st) := by
  subst hp
  intro H locs ls hf hd hS hl
  have ok : ∀ {w : Cond}, w ∈ WS → w.before args s = true := fun h => hc.2.2.2.2 _ (List.mem_cons_of_mem _ h)
  refine va_clone (ad := "[I") hc.1 hc.2.1 (by rw [hc.2.2.1]; exact hl.1.symm) hc.2.2.2.1 (ok kc_clone_1) (ok kc_clone_2) (ok kc_clone_3) (ok kc_clone_4) (ok kc_clone_5) hO.2.2.2 hK (hf.one one_at) ⟨fun i j x y hi hj _ => ?_, fun i x hi => ?_⟩ hS hA 0 0 rfl ht (hK.2 0 _ ht).2 fits_i hframes hlocals hcells hslots hdg (fun q H1 hK1 hP1 hD1 hS1 => ?_)
  · cases i with
    | succ i => simp at hi
    | zero =>
      cases j with
      | succ j => simp at hj
      | zero => rfl
  · cases i with
    | succ i => simp at hi
    | zero =>
      simp at hi
      subst hi
      exact hd _ _ one_at
  · have hne : q ≠ a := fun e1 => by
      have := hD1.1 1 0 _ _ rfl rfl e1
      exact absurd this (by decide)
    refine kk q hne H1 locs ls (fun b x hb => ?_) (fun b x hb => ?_) hS1 hl
    · by_cases e1 : b = q
      · subst e1
        rw [va_up_self] at hb
        cases hb
        exact hP1 1 _ rfl
      · rw [va_up_ne _ _ e1] at hb
        obtain ⟨rfl, rfl⟩ := one_eq hb
        exact hP1 0 _ rfl
    · by_cases e1 : b = q
      · subst e1
        exact hD1.2 1 _ rfl
      · rw [va_up_ne _ _ e1] at hb
        exact hd b x hb
theorem a_castI (hc : CallFix p m c cc nL s args (c0 :: WS) R_JA) (hK : va_K D cl tys s) (ht : tys[0]? = some (cA, .int)) {f : Nat → Option va_E} {q : Nat} {x : vp_A} (hq : f q = some (.inl (cA, x))) (hdg : decode cc pc = .ok (.checkcast 317, 3)) (hp : pc + 3 = pc') (kk : AW p l e R s m args below meth c D cl A nL Q f k n pc' lv (.ref q :: st)) : AW p l e R s m args below meth c D cl A nL Q f k n pc lv (.ref q :: st) := by
  subst hp
  exact fun H locs ls hf hd hS hl => va_castA hc.1 hc.2.1 hc.2.2.2.1 (hc.2.2.2.2 _ (List.mem_cons_of_mem _ cl_JA_317)) (hf.one hq) 0 rfl (hK.2 0 _ ht).2 hdg (kk H locs ls hf hd hS hl)
theorem a_mmin (hc : CallFix p m c cc nL s args (c0 :: WS) own) {f : Nat → Option va_E} {index : Nat} {x y : Int32} (hml : (Cond.methodLink own index y_JM_min ∈ WS ∧ Cond.code y_JM_min c_JM_min 2 (some .int) ∈ WS ∧ Cond.initialized R_JM ∈ WS) ∧ Cond.static y_JM_min ∈ WS) (hframes : 1 ≤ R.frames) (hlocals : (st.map fun v => v.category).sum + 13 ≤ R.locals) (hcl : k ≤ R.cells) (hsl : n ≤ R.slots) (hdg : decode cc pc = .ok (.invokestatic index, 3)) (hp : pc + 3 = pc') (kk : AW p l e R s m args below meth c D cl A nL Q f k n pc' lv (.int (if y < x then y else x) :: st)) : AW p l e R s m args below meth c D cl A nL Q f k n pc lv (.int y :: .int x :: st) := by
  subst hp
  have ok : ∀ {w : Cond}, w ∈ WS → w.before args s = true := fun h => hc.2.2.2.2 _ (List.mem_cons_of_mem _ h)
  exact fun H locs ls hf hd hS hl => va_mmin hc.1 hc.2.1 (by rw [hc.2.2.1]; exact hl.1.symm) hc.2.2.2.1 (ok hml.1.1) (ok hml.2) (ok hml.1.2.2) (ok hml.1.2.1) hframes hlocals hcl hsl hdg (kk H locs ls hf hd hS hl)
theorem a_mmax (hc : CallFix p m c cc nL s args (c0 :: WS) own) {f : Nat → Option va_E} {index : Nat} {x y : Int32} (hml : (Cond.methodLink own index y_JM_max ∈ WS ∧ Cond.code y_JM_max c_JM_max 2 (some .int) ∈ WS ∧ Cond.initialized R_JM ∈ WS) ∧ Cond.static y_JM_max ∈ WS) (hframes : 1 ≤ R.frames) (hlocals : (st.map fun v => v.category).sum + 13 ≤ R.locals) (hcl : k ≤ R.cells) (hsl : n ≤ R.slots) (hdg : decode cc pc = .ok (.invokestatic index, 3)) (hp : pc + 3 = pc') (kk : AW p l e R s m args below meth c D cl A nL Q f k n pc' lv (.int (if x < y then y else x) :: st)) : AW p l e R s m args below meth c D cl A nL Q f k n pc lv (.int y :: .int x :: st) := by
  subst hp
  have ok : ∀ {w : Cond}, w ∈ WS → w.before args s = true := fun h => hc.2.2.2.2 _ (List.mem_cons_of_mem _ h)
  exact fun H locs ls hf hd hS hl => va_mmax hc.1 hc.2.1 (by rw [hc.2.2.1]; exact hl.1.symm) hc.2.2.2.1 (ok hml.1.1) (ok hml.2) (ok hml.1.2.2) (ok hml.1.2.1) hframes hlocals hcl hsl hdg (kk H locs ls hf hd hS hl)
/-- the copying from one array to another, the two alone in the world -/
theorem a_copyi (hc : CallFix p m c cc nL s args (c0 :: WS) R_JA) (hK : va_K D cl tys s) (ht : tys[0]? = some (cA, .int)) {b M c1 : Nat} {g1 : Nat → Int32} (hne : b ≠ a) (h4 : c1 ≤ N) (h5 : c1 ≤ M) (hc1 : c1 < 2 ^ 31) (hframes : 1 ≤ R.frames) (hlocals : (st.map fun v => v.category).sum + (nativeFrameWords "java/lang/System" "arraycopy" 5 + 11) ≤ R.locals) (hdg : decode cc pc = .ok (.invokestatic 150, 3)) (hp : pc + 3 = pc')
    (kk : AW p l e R s m args below meth c D cl A nL Q (va_up (one a (.inl (cA, N, .inl g))) b (some (.inl (cA, M, .inl (va_cpy g g1 0 0 c1))))) k n pc' lv st) : AW p l e R s m args below meth c D cl A nL Q (va_up (one a (.inl (cA, N, .inl g))) b (some (.inl (cA, M, .inl g1)))) k n pc lv (.int (nI c1) :: .int (nI 0) :: .ref b :: .int (nI 0) :: .ref a :: st) := by
  subst hp
  intro H locs ls hf hd hS hl
  have ok : ∀ {w : Cond}, w ∈ WS → w.before args s = true := fun h => hc.2.2.2.2 _ (List.mem_cons_of_mem _ h)
  have ha : va_up (one a (.inl (cA, N, .inl g))) b (some (.inl (cA, M, .inl g1))) a = some (.inl (cA, N, .inl g)) := by rw [va_up_ne _ _ hne.symm]; exact one_at
  have hb : va_up (one a (.inl (cA, N, .inl g))) b (some (.inl (cA, M, .inl g1))) b = some (.inl (cA, M, .inl g1)) := va_up_self _ _ _
  have hP : va_P D cl [(a, .inl (cA, N, .inl g)), (b, .inl (cA, M, .inl g1))] H := fun i q hi => by
    match i, hi with
    | 0, hi => cases hi; exact hf a _ ha
    | 1, hi => cases hi; exact hf b _ hb
    | i + 2, hi => simp at hi
  have hD : va_D A [(a, .inl (cA, N, .inl g)), (b, .inl (cA, M, .inl g1))] := ⟨fun i j x y hi hj hxy => by
    match i, j, hi, hj with
    | 0, 0, _, _ => rfl
    | 1, 1, _, _ => rfl
    | 0, 1, hi, hj => cases hi; cases hj; exact absurd hxy.symm hne
    | 1, 0, hi, hj => cases hi; cases hj; exact absurd hxy hne
    | i + 2, _, hi, _ => simp at hi
    | _, j + 2, _, hj => simp at hj, fun i q hi => by
    match i, hi with
    | 0, hi => cases hi; exact hd a _ ha
    | 1, hi => cases hi; exact hd b _ hb
    | i + 2, hi => simp at hi⟩
  refine va_copyi hc.1 hc.2.1 (by rw [hc.2.2.1]; exact hl.1.symm) hc.2.2.2.1 (ok kc_acopy_1) (ok kc_acopy_2) (ok kc_acopy_3) (ok kc_acopy_4) hK hP hD hS 0 1 0 0 rfl rfl ht ht rfl (nI_pos (by decide)) (nI_pos (by decide)) (nI_pos hc1) (by rw [nI_clamp hc1, nI_clamp (by decide)]; omega) (by rw [nI_clamp hc1, nI_clamp (by decide)]; omega) (fun i _ => rfl) hframes hlocals hdg (fun H1 locs1 hP1 hD1 hS1 => ?_)
  rw [nI_clamp hc1, nI_clamp (show 0 < 2 ^ 31 by decide)] at hP1 hD1
  refine kk H1 locs1 ls (fun x y hxy => ?_) (fun x y hxy => ?_) hS1 hl
  · by_cases e1 : x = b
    · subst e1
      rw [va_up_self] at hxy
      cases hxy
      exact hP1 1 _ rfl
    · rw [va_up_ne _ _ e1] at hxy
      obtain ⟨rfl, rfl⟩ := one_eq hxy
      exact hP1 0 _ rfl
  · by_cases e1 : x = b
    · subst e1
      exact hd _ _ hb
    · rw [va_up_ne _ _ e1] at hxy
      obtain ⟨rfl, rfl⟩ := one_eq hxy
      exact hd _ _ ha
end ONE
