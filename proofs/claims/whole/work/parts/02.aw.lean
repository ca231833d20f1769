/-! A world as a map from addresses to cells, and a walk over it that names neither heap nor frame. -/
def fw (D : va_G) (cl : List vw_C) (f : Nat → Option va_E) (H : Heap) : Prop := ∀ (a : Nat) (x : va_E), f a = some x → va_at D cl (a, x) H
theorem fw.set {D : va_G} {cl : List vw_C} {f : Nat → Option va_E} {H H1 : Heap} {a : Nat} {x : va_E} (h : fw D cl f H) (he : va_at D cl (a, x) H1) (oq : ∀ q : Nat, q ≠ a → H1[q]? = H[q]?) : fw D cl (va_up f a (some x)) H1 := by
  intro b y hb
  by_cases hba : b = a
  · subst hba
    rw [va_up_self] at hb
    cases hb
    exact he
  · rw [va_up_ne _ _ hba] at hb
    exact (h b y hb).kept (oq b hba)
theorem fw.push {D : va_G} {cl : List vw_C} {f : Nat → Option va_E} {H H1 : Heap} {x : va_E} (h : fw D cl f H) (he : va_at D cl (H.size, x) H1) (oq : ∀ q : Nat, q < H.size → H1[q]? = H[q]?) : fw D cl (va_up f H.size (some x)) H1 := by
  intro b y hb
  by_cases hba : b = H.size
  · subst hba
    rw [va_up_self] at hb
    cases hb
    exact he
  · rw [va_up_ne _ _ hba] at hb
    exact (h b y hb).kept (oq b ((h b y hb).lt))
theorem fw.one {D : va_G} {cl : List vw_C} {f : Nat → Option va_E} {H : Heap} {a : Nat} {x : va_E} (h : fw D cl f H) (ha : f a = some x) : va_P D cl [(a, x)] H := by
  intro k q hk
  cases k with
  | zero =>
    rw [List.getElem?_cons_zero] at hk
    cases hk
    exact h a x ha
  | succ k =>
    rw [List.getElem?_cons_succ] at hk
    simp at hk
theorem fw.fresh {D : va_G} {cl : List vw_C} {f : Nat → Option va_E} {H : Heap} (h : fw D cl f H) : f H.size = none := by
  cases hx : f H.size with
  | none => rfl
  | some x => exact absurd (h _ x hx).lt (Nat.lt_irrefl _)
theorem fw.kept {D : va_G} {cl : List vw_C} {f : Nat → Option va_E} {H H1 : Heap} (h : fw D cl f H) (hq : ∀ (a : Nat) (x : va_E), f a = some x → H1[a]? = H[a]?) : fw D cl f H1 := fun a x ha => (h a x ha).kept (hq a x ha)
/-! the places of a frame, by number -/
def al_has (ls : Array Slot) (nL : Nat) (lv : List (Option Value)) : Prop := ls.size = nL ∧ lv_wf ls ∧ ∀ (i : Nat) (v : Value), lv[i]? = some (some v) → ls[i]? = some (.val v) ∧ v.category = 1
def al_l (lv : List (Option Value)) : List (Nat × Value) := lv.zipIdx.filterMap (fun q => q.1.map (fun v => (q.2, v)))
theorem al_mem {lv : List (Option Value)} {i : Nat} {v : Value} : (i, v) ∈ al_l lv ↔ lv[i]? = some (some v) := by
  unfold al_l
  rw [List.mem_filterMap]
  constructor
  · rintro ⟨⟨o, j⟩, h1, h2⟩
    rw [List.mk_mem_zipIdx_iff_getElem?] at h1
    cases o with
    | none => simp at h2
    | some w =>
      simp at h2
      obtain ⟨rfl, rfl⟩ := h2
      exact h1
  · intro h
    exact ⟨(some v, i), List.mk_mem_zipIdx_iff_getElem?.mpr h, rfl⟩
theorem al_has.toL {ls : Array Slot} {nL : Nat} {lv : List (Option Value)} (h : al_has ls nL lv) : lv_has ls nL (al_l lv) := ⟨h.1, h.2.1, fun q hq => by
  obtain ⟨i, v⟩ := q
  exact (h.2.2 i v (al_mem.mp hq)).1⟩
theorem al_has.put {ls ls' : Array Slot} {nL : Nat} {lv : List (Option Value)} {i : Nat} {v : Value} (h : al_has ls nL lv) (hv : v.category = 1) (h' : lv_has ls' nL ((i, v) :: (al_l lv).filter (fun q => !(q.1 == i) && !(q.1 + 1 == i && q.2.category == 2)))) : al_has ls' nL (lv.set i (some v)) := by
  refine ⟨h'.1, h'.2.1, fun j w hj => ?_⟩
  by_cases hji : j = i
  · subst hji
    rw [List.getElem?_set, if_pos rfl] at hj
    by_cases hl : j < lv.length
    · rw [if_pos hl] at hj
      cases hj
      exact ⟨h'.2.2 (j, v) List.mem_cons_self, hv⟩
    · rw [if_neg hl] at hj
      cases hj
  · rw [List.getElem?_set, if_neg (fun q => hji q.symm)] at hj
    have hc := (h.2.2 j w hj).2
    refine ⟨h'.2.2 (j, w) (List.mem_cons_of_mem _ (List.mem_filter.mpr ⟨al_mem.mpr hj, ?_⟩)), hc⟩
    simp [hji, hc]
theorem al_args : ∀ (vs : List Value) (i0 : Nat), (∀ v ∈ vs, v.category = 1) → ∀ (j : Nat) (v : Value), vs[j]? = some v → (i0 + j, v) ∈ lv_args i0 vs
  | [], _, _, j, v, h => by simp at h
  | w :: vs, i0, hc, j, v, h => by
    have hw : ¬ w.category = 2 := by rw [hc w List.mem_cons_self]; decide
    cases j with
    | zero =>
      rw [List.getElem?_cons_zero] at h
      cases h
      exact List.mem_cons_self
    | succ j =>
      rw [List.getElem?_cons_succ] at h
      have h1 := al_args vs (i0 + 1) (fun v hv => hc v (List.mem_cons_of_mem _ hv)) j v h
      have e1 : i0 + 1 + j = i0 + (j + 1) := by omega
      rw [e1] at h1
      refine List.mem_cons_of_mem _ ?_
      rw [if_neg hw]
      exact h1
def al_in (av : List Value) (nL : Nat) : List (Option Value) := av.map some ++ List.replicate (nL - av.length) none
theorem al_entry {ls : Array Slot} {nL : Nat} {av : List Value} (h : lv_has ls nL (lv_args 0 av)) (hc : ∀ v ∈ av, v.category = 1) : al_has ls nL (al_in av nL) := by
  refine ⟨h.1, h.2.1, fun i v hi => ?_⟩
  unfold al_in at hi
  have hv : av[i]? = some v := by
    by_cases hl : i < av.length
    · rw [List.getElem?_append_left (by simpa using hl), List.getElem?_map] at hi
      cases hx : av[i]? with
      | none => rw [hx] at hi; simp at hi
      | some y =>
        rw [hx] at hi
        simp at hi
        rw [hi]
    · rw [List.getElem?_append_right (by simpa using hl), List.getElem?_replicate] at hi
      split at hi <;> simp at hi
  have h1 := al_args av 0 hc i v hv
  rw [Nat.zero_add] at h1
  exact ⟨h.2.2 (i, v) h1, hc v (List.mem_of_getElem? hv)⟩
/-! the walk, and contracts -/
def AO3 (U : State) : Prop := va_AO "ExtentGroup$Disk" U ∧ va_AO "ExtentGroup$Copy" U ∧ va_AO "ExtentGroup$Volume" U ∧ va_Nw (.castable "[I" "java/lang/Cloneable") U
theorem AO3.warm {s U : State} (hW : s.WarmedH U.vm) (h : AO3 s) : AO3 U := ⟨h.1.moved hW.alike, h.2.1.moved hW.alike, h.2.2.1.moved hW.alike, h.2.2.2.warmC hW⟩
theorem AO3.same {u U : State} (hv : u.vm = U.vm) (h : AO3 u) : AO3 U := by
  have ha : u.vm.Alike U.vm := by rw [hv]; exact Vm.Alike.refl _
  exact ⟨h.1.moved ha, h.2.1.moved ha, h.2.2.1.moved ha, h.2.2.2.same rfl hv⟩
def AW (p : Program) (l : Launch) (e : Env) (R : Room) (s : State) (m : MethodId) (args : Array Value) (below : List Frame) (meth : Method) (c : Code) (D : va_G) (cl : List vw_C) (A : Nat → Prop) (nL : Nat) (Q : State → Prop) (f : Nat → Option va_E) (k n pc : Nat) (lv : List (Option Value)) (st : List Value) : Prop :=
  ∀ (H : Heap) (locs : List Loc) (ls : Array Slot), fw D cl f H → (∀ (a : Nat) (x : va_E), f a = some x → A a) → va_S A s.heap H locs → al_has ls nL lv → W p l e R s m args below meth c H locs k n Q (F0 m pc ls st)
def CP (D : va_G) (cl : List vw_C) (tys : List (ClassId × FieldType)) (av : List Value) (f : Nat → Option va_E) (sz : Nat) : Array Value → State → Prop := va_Pc av (fun U => U.heap.size = sz ∧ fw D cl f U.heap ∧ va_K D cl tys U ∧ AO3 U)
def CQ (D : va_G) (cl : List vw_C) (A : Nat → Prop) (post : Option Value → (Nat → Option va_E) → Prop) : Array Value → State → Outcome → State → Prop := fun _ st oc t => (∃ (v : Option Value) (f' : Nat → Option va_E), oc = .returned v ∧ post v f' ∧ fw D cl f' t.heap ∧ ∀ (a : Nat) (x : va_E), f' a = some x → A a) ∧ va_F A st t
def CT (l : Launch) (y : MethodName) (ws : List Cond) (rm : Room) (D : va_G) (cl : List vw_C) (tys : List (ClassId × FieldType)) (A : Nat → Prop) (f : Nat → Option va_E) (av : List Value) (post : Option Value → (Nat → Option va_E) → Prop) (mc ms : Nat) : Prop :=
  ∀ sz : Nat, (∀ q : Nat, sz ≤ q → A q) → (∀ (a : Nat) (x : va_E), f a = some x → A a) → Met l y ws rm (CP D cl tys av f sz) (CQ D cl A post) mc ms A
theorem CP.blind {D : va_G} {cl : List vw_C} {tys : List (ClassId × FieldType)} {av : List Value} {f : Nat → Option va_E} {sz : Nat} : FrameBlind (CP D cl tys av f sz) := fun a U g mk q => by
  obtain ⟨q0, q1, qF, qK, qO⟩ := q
  exact ⟨q0, q1, qF, va_K.moved (u := U) (U := U.calling g mk a) (Vm.Alike.refl U.vm) qK, AO3.same (u := U) (U := U.calling g mk a) rfl qO⟩
theorem up_loop {P : Nat → Prop} (N : Nat) (h : ∀ d, d ≤ N → (d < N → P (d + 1)) → P d) : ∀ d, d ≤ N → P d := by
  intro d hd
  obtain ⟨j, hj⟩ : ∃ j, j = N - d := ⟨_, rfl⟩
  induction j generalizing d with
  | zero => exact h d hd (fun q => absurd q (by omega))
  | succ j ih => exact h d hd (fun q => ih (d + 1) (by omega) (by omega))
section AWS
variable {p : Program} {l : Launch} {e : Env} {R : Room} {s : State} {m : MethodId} {args : Array Value} {below : List Frame} {meth : Method} {c : Code} {D : va_G} {cl : List vw_C} {A : Nat → Prop} {nL : Nat} {Q : State → Prop}
variable {f : Nat → Option va_E} {k n pc pc' : Nat} {lv : List (Option Value)} {st : List Value} {cc : ByteArray} {Ts : List Cond} {own : String} {tys : List (ClassId × FieldType)}
theorem CT.ofAW {y : MethodName} {ws ws' : List Cond} {rm : Room} {cc : ByteArray} {maxL : Nat} {ret : Option FieldType} {av : List Value} {post : Option Value → (Nat → Option va_E) → Prop} {mc ms : Nat}
    (hy : plainName y.cls = true) (hw : ws = Cond.code y cc maxL ret :: ws') (hlen : (lg_sl av).length ≤ maxL) (hcat : ∀ v ∈ av, v.category = 1)
    (body : ∀ (p : Program) (e : Env) (s : State) (m : MethodId) (args : Array Value) (below : List Frame) (meth : Method) (c : Code), CallFix p m c cc maxL s args ws y.cls → va_K D cl tys s → AO3 s → meth.sig.returnType = ret → meth.locks = false → meth.name = y.name → (∀ q : Nat, s.heap.size ≤ q → A q) →
      AW p l e rm s m args below meth c D cl A maxL (MQ below (CQ D cl A post) args s mc ms A) f 0 0 0 (al_in av maxL) []) : CT l y ws rm D cl tys A f av post mc ms := by
  intro sz hA hd
  refine Met.ofW (cc := cc) (maxL := maxL) (ret := ret) hy hw ?_
  intro p e s m args below meth c s₁ B hml hv
  obtain ⟨rfl, hsz, hF, hK, hO⟩ := hv
  have hts := atoms_spec (ws := ws) B.pre
  have hown : s.vm.findClass y.cls = some m.cls := findClass_of_methodNamed B.named
  have hnm := (name_of_methodNamed B.named B.method).1
  subst hsz
  have hl := lv_entry av (n := maxL) hlen
  rw [lg_entry_eq]
  generalize (lg_sl av ++ List.replicate (maxL - (lg_sl av).length) Slot.unset).toArray = ls at hl ⊢
  exact body p e s m av.toArray below meth c ⟨B.exec, B.bytes, hml, hown, hts⟩ hK hO B.returns B.notSynchronized hnm hA s.heap [] ls hF hd va_S.rf (al_entry hl hcat)

theorem AW.to {f' : Nat → Option va_E} {lv' : List (Option Value)} {st' : List Value} (h1 : f' = f) (h2 : lv' = lv) (h3 : st' = st) (kk : AW p l e R s m args below meth c D cl A nL Q f' k n pc lv' st') : AW p l e R s m args below meth c D cl A nL Q f k n pc lv st := by
  subst h1; subst h2; subst h3
  exact kk
theorem AW.top {x y : Value} (h : y = x) (kk : AW p l e R s m args below meth c D cl A nL Q f k n pc lv (y :: st)) : AW p l e R s m args below meth c D cl A nL Q f k n pc lv (x :: st) := by
  subst h
  exact kk
theorem AW.topi {x y : Int32} (h : x = y) (kk : AW p l e R s m args below meth c D cl A nL Q f k n pc lv (.int y :: st)) : AW p l e R s m args below meth c D cl A nL Q f k n pc lv (.int x :: st) := by
  subst h
  exact kk
theorem AW.widen {k' n' : Nat} (h1 : k ≤ k') (h2 : n ≤ n') (kk : AW p l e R s m args below meth c D cl A nL Q f k' n' pc lv st) : AW p l e R s m args below meth c D cl A nL Q f k n pc lv st := fun H locs ls hf hd hS hl => W.widen h1 h2 (kk H locs ls hf hd hS hl)
/-- a smaller picture of the same cells -/
theorem AW.less {g : Nat → Option va_E} (h : ∀ (a : Nat) (x : va_E), g a = some x → f a = some x) (kk : AW p l e R s m args below meth c D cl A nL Q g k n pc lv st) : AW p l e R s m args below meth c D cl A nL Q f k n pc lv st := fun H locs ls hf hd hS hl => kk H locs ls (fun a x ha => hf a x (h a x ha)) (fun a x ha => hd a x (h a x ha)) hS hl
theorem a_iconst (hc : CallFix p m c cc nL s args Ts own) {z : Int} {v : Int32} (hdg : decode cc pc = .ok (.iconst z, 1)) (hp : pc + 1 = pc') (hv : Int32.ofInt z = v) (kk : AW p l e R s m args below meth c D cl A nL Q f k n pc' lv (.int v :: st)) : AW p l e R s m args below meth c D cl A nL Q f k n pc lv (st) := by
  subst hp
  exact fun H locs ls hf hd hS hl => lv_iconst hc.1 hc.2.1 hdg hv (kk H locs ls hf hd hS hl)
theorem a_bipush (hc : CallFix p m c cc nL s args Ts own) {z : Int} {v : Int32} (hdg : decode cc pc = .ok (.bipush z, 2)) (hp : pc + 2 = pc') (hv : (Int8.ofInt z).toInt32 = v) (kk : AW p l e R s m args below meth c D cl A nL Q f k n pc' lv (.int v :: st)) : AW p l e R s m args below meth c D cl A nL Q f k n pc lv (st) := by
  subst hp
  exact fun H locs ls hf hd hS hl => lv_bipush hc.1 hc.2.1 hdg hv (kk H locs ls hf hd hS hl)
theorem a_sipush (hc : CallFix p m c cc nL s args Ts own) {z : Int} {v : Int32} (hdg : decode cc pc = .ok (.sipush z, 3)) (hp : pc + 3 = pc') (hv : (Int16.ofInt z).toInt32 = v) (kk : AW p l e R s m args below meth c D cl A nL Q f k n pc' lv (.int v :: st)) : AW p l e R s m args below meth c D cl A nL Q f k n pc lv (st) := by
  subst hp
  exact fun H locs ls hf hd hS hl => lv_sipush hc.1 hc.2.1 hdg hv (kk H locs ls hf hd hS hl)
theorem a_null (hc : CallFix p m c cc nL s args Ts own)  (hdg : decode cc pc = .ok (.aconst_null, 1)) (hp : pc + 1 = pc')  (kk : AW p l e R s m args below meth c D cl A nL Q f k n pc' lv (.null :: st)) : AW p l e R s m args below meth c D cl A nL Q f k n pc lv (st) := by
  subst hp
  exact fun H locs ls hf hd hS hl => lv_null hc.1 hc.2.1 hdg (kk H locs ls hf hd hS hl)
theorem a_iload_n (hc : CallFix p m c cc nL s args Ts own) {i : Fin 4} {j : Nat} {x : Int32} (hdg : decode cc pc = .ok (.iload_n i, 1)) (hp : pc + 1 = pc') (hi : (i : Nat) = j) (hx : lv[j]? = some (some (.int x))) (kk : AW p l e R s m args below meth c D cl A nL Q f k n pc' lv (.int x :: st)) : AW p l e R s m args below meth c D cl A nL Q f k n pc lv (st) := by
  subst hp
  exact fun H locs ls hf hd hS hl => lv_iload_n hc.1 hc.2.1 hdg hi (hl.2.2 j _ hx).1 (kk H locs ls hf hd hS hl)
theorem a_iload (hc : CallFix p m c cc nL s args Ts own) {j : Nat} {x : Int32} (hdg : decode cc pc = .ok (.iload j, 2)) (hp : pc + 2 = pc') (hx : lv[j]? = some (some (.int x))) (kk : AW p l e R s m args below meth c D cl A nL Q f k n pc' lv (.int x :: st)) : AW p l e R s m args below meth c D cl A nL Q f k n pc lv (st) := by
  subst hp
  exact fun H locs ls hf hd hS hl => lv_iload hc.1 hc.2.1 hdg (hl.2.2 j _ hx).1 (kk H locs ls hf hd hS hl)
theorem a_aload_n (hc : CallFix p m c cc nL s args Ts own) {i : Fin 4} {j : Nat} {x : Nat} (hdg : decode cc pc = .ok (.aload_n i, 1)) (hp : pc + 1 = pc') (hi : (i : Nat) = j) (hx : lv[j]? = some (some (.ref x))) (kk : AW p l e R s m args below meth c D cl A nL Q f k n pc' lv (.ref x :: st)) : AW p l e R s m args below meth c D cl A nL Q f k n pc lv (st) := by
  subst hp
  exact fun H locs ls hf hd hS hl => lv_aload_n hc.1 hc.2.1 hdg hi (hl.2.2 j _ hx).1 (kk H locs ls hf hd hS hl)
theorem a_aload (hc : CallFix p m c cc nL s args Ts own) {j : Nat} {x : Nat} (hdg : decode cc pc = .ok (.aload j, 2)) (hp : pc + 2 = pc') (hx : lv[j]? = some (some (.ref x))) (kk : AW p l e R s m args below meth c D cl A nL Q f k n pc' lv (.ref x :: st)) : AW p l e R s m args below meth c D cl A nL Q f k n pc lv (st) := by
  subst hp
  exact fun H locs ls hf hd hS hl => lv_aload hc.1 hc.2.1 hdg (hl.2.2 j _ hx).1 (kk H locs ls hf hd hS hl)
theorem a_aload_nN (hc : CallFix p m c cc nL s args Ts own) {i : Fin 4} {j : Nat} (hdg : decode cc pc = .ok (.aload_n i, 1)) (hp : pc + 1 = pc') (hi : (i : Nat) = j) (hx : lv[j]? = some (some .null)) (kk : AW p l e R s m args below meth c D cl A nL Q f k n pc' lv (.null :: st)) : AW p l e R s m args below meth c D cl A nL Q f k n pc lv (st) := by
  subst hp
  exact fun H locs ls hf hd hS hl => lv_aload_nN hc.1 hc.2.1 hdg hi (hl.2.2 j _ hx).1 (kk H locs ls hf hd hS hl)
theorem a_aloadN (hc : CallFix p m c cc nL s args Ts own) {j : Nat} (hdg : decode cc pc = .ok (.aload j, 2)) (hp : pc + 2 = pc') (hx : lv[j]? = some (some .null)) (kk : AW p l e R s m args below meth c D cl A nL Q f k n pc' lv (.null :: st)) : AW p l e R s m args below meth c D cl A nL Q f k n pc lv (st) := by
  subst hp
  exact fun H locs ls hf hd hS hl => lv_aloadN hc.1 hc.2.1 hdg (hl.2.2 j _ hx).1 (kk H locs ls hf hd hS hl)
theorem a_aload_nq (hc : CallFix p m c cc nL s args Ts own) {i : Fin 4} {j : Nat} {x : Option Nat} (hdg : decode cc pc = .ok (.aload_n i, 1)) (hp : pc + 1 = pc') (hi : (i : Nat) = j) (hx : lv[j]? = some (some (va_rf x))) (kk : AW p l e R s m args below meth c D cl A nL Q f k n pc' lv (va_rf x :: st)) : AW p l e R s m args below meth c D cl A nL Q f k n pc lv st := by
  cases x with
  | none => exact a_aload_nN hc hdg hp hi hx kk
  | some a => exact a_aload_n hc hdg hp hi hx kk
theorem a_aloadq (hc : CallFix p m c cc nL s args Ts own) {j : Nat} {x : Option Nat} (hdg : decode cc pc = .ok (.aload j, 2)) (hp : pc + 2 = pc') (hx : lv[j]? = some (some (va_rf x))) (kk : AW p l e R s m args below meth c D cl A nL Q f k n pc' lv (va_rf x :: st)) : AW p l e R s m args below meth c D cl A nL Q f k n pc lv st := by
  cases x with
  | none => exact a_aloadN hc hdg hp hx kk
  | some a => exact a_aload hc hdg hp hx kk
theorem a_istore_n (hc : CallFix p m c cc nL s args Ts own) {i : Fin 4} {j : Nat} {x : Int32} (hdg : decode cc pc = .ok (.istore_n i, 1)) (hp : pc + 1 = pc') (hi : (i : Nat) = j) (hn : j < nL) (kk : AW p l e R s m args below meth c D cl A nL Q f k n pc' (lv.set j (some (.int x))) st) : AW p l e R s m args below meth c D cl A nL Q f k n pc lv (.int x :: st) := by
  subst hp
  exact fun H locs ls hf hd hS hl => lv_istore_n hc.1 hc.2.1 hdg hi hl.toL hn rfl (fun ls' h' => kk H locs ls' hf hd hS (hl.put rfl h'))
theorem a_istore (hc : CallFix p m c cc nL s args Ts own) {j : Nat} {x : Int32} (hdg : decode cc pc = .ok (.istore j, 2)) (hp : pc + 2 = pc')  (hn : j < nL) (kk : AW p l e R s m args below meth c D cl A nL Q f k n pc' (lv.set j (some (.int x))) st) : AW p l e R s m args below meth c D cl A nL Q f k n pc lv (.int x :: st) := by
  subst hp
  exact fun H locs ls hf hd hS hl => lv_istore hc.1 hc.2.1 hdg hl.toL hn rfl (fun ls' h' => kk H locs ls' hf hd hS (hl.put rfl h'))
theorem a_astore_n (hc : CallFix p m c cc nL s args Ts own) {i : Fin 4} {j : Nat} {x : Nat} (hdg : decode cc pc = .ok (.astore_n i, 1)) (hp : pc + 1 = pc') (hi : (i : Nat) = j) (hn : j < nL) (kk : AW p l e R s m args below meth c D cl A nL Q f k n pc' (lv.set j (some (.ref x))) st) : AW p l e R s m args below meth c D cl A nL Q f k n pc lv (.ref x :: st) := by
  subst hp
  exact fun H locs ls hf hd hS hl => lv_astore_n hc.1 hc.2.1 hdg hi hl.toL hn rfl (fun ls' h' => kk H locs ls' hf hd hS (hl.put rfl h'))
theorem a_astore (hc : CallFix p m c cc nL s args Ts own) {j : Nat} {x : Nat} (hdg : decode cc pc = .ok (.astore j, 2)) (hp : pc + 2 = pc')  (hn : j < nL) (kk : AW p l e R s m args below meth c D cl A nL Q f k n pc' (lv.set j (some (.ref x))) st) : AW p l e R s m args below meth c D cl A nL Q f k n pc lv (.ref x :: st) := by
  subst hp
  exact fun H locs ls hf hd hS hl => lv_astore hc.1 hc.2.1 hdg hl.toL hn rfl (fun ls' h' => kk H locs ls' hf hd hS (hl.put rfl h'))
theorem a_astore_nN (hc : CallFix p m c cc nL s args Ts own) {i : Fin 4} {j : Nat} (hdg : decode cc pc = .ok (.astore_n i, 1)) (hp : pc + 1 = pc') (hi : (i : Nat) = j) (hn : j < nL) (kk : AW p l e R s m args below meth c D cl A nL Q f k n pc' (lv.set j (some (.null))) st) : AW p l e R s m args below meth c D cl A nL Q f k n pc lv (.null :: st) := by
  subst hp
  exact fun H locs ls hf hd hS hl => lv_astore_nN hc.1 hc.2.1 hdg hi hl.toL hn rfl (fun ls' h' => kk H locs ls' hf hd hS (hl.put rfl h'))
theorem a_astoreN (hc : CallFix p m c cc nL s args Ts own) {j : Nat} (hdg : decode cc pc = .ok (.astore j, 2)) (hp : pc + 2 = pc')  (hn : j < nL) (kk : AW p l e R s m args below meth c D cl A nL Q f k n pc' (lv.set j (some (.null))) st) : AW p l e R s m args below meth c D cl A nL Q f k n pc lv (.null :: st) := by
  subst hp
  exact fun H locs ls hf hd hS hl => lv_astoreN hc.1 hc.2.1 hdg hl.toL hn rfl (fun ls' h' => kk H locs ls' hf hd hS (hl.put rfl h'))
theorem a_astore_nq (hc : CallFix p m c cc nL s args Ts own) {i : Fin 4} {j : Nat} {x : Option Nat} (hdg : decode cc pc = .ok (.astore_n i, 1)) (hp : pc + 1 = pc') (hi : (i : Nat) = j) (hn : j < nL) (kk : AW p l e R s m args below meth c D cl A nL Q f k n pc' (lv.set j (some (va_rf x))) st) : AW p l e R s m args below meth c D cl A nL Q f k n pc lv (va_rf x :: st) := by
  cases x with
  | none => exact a_astore_nN hc hdg hp hi hn kk
  | some a => exact a_astore_n hc hdg hp hi hn kk
theorem a_astoreq (hc : CallFix p m c cc nL s args Ts own) {j : Nat} {x : Option Nat} (hdg : decode cc pc = .ok (.astore j, 2)) (hp : pc + 2 = pc') (hn : j < nL) (kk : AW p l e R s m args below meth c D cl A nL Q f k n pc' (lv.set j (some (va_rf x))) st) : AW p l e R s m args below meth c D cl A nL Q f k n pc lv (va_rf x :: st) := by
  cases x with
  | none => exact a_astoreN hc hdg hp hn kk
  | some a => exact a_astore hc hdg hp hn kk
theorem a_iinc (hc : CallFix p m c cc nL s args Ts own) {j : Nat} {z : Int} {x v : Int32} (hdg : decode cc pc = .ok (.iinc j z, 3)) (hp : pc + 3 = pc') (hx : lv[j]? = some (some (.int x))) (hv : x + Int32.ofInt z = v) (hn : j < nL) (kk : AW p l e R s m args below meth c D cl A nL Q f k n pc' (lv.set j (some (.int v))) st) : AW p l e R s m args below meth c D cl A nL Q f k n pc lv st := by
  subst hp
  intro H locs ls hf hd hS hl
  obtain ⟨i, hi⟩ := List.getElem?_of_mem (al_mem.mpr hx)
  exact lv_iinc hc.1 hc.2.1 hdg hl.toL hi hv hn rfl (fun ls' h' => kk H locs ls' hf hd hS (hl.put rfl h'))
theorem a_ninc (hc : CallFix p m c cc nL s args Ts own) {j a : Nat} (hdg : decode cc pc = .ok (.iinc j 1, 3)) (hp : pc + 3 = pc') (hx : lv[j]? = some (some (.int (nI a)))) (hn : j < nL) (kk : AW p l e R s m args below meth c D cl A nL Q f k n pc' (lv.set j (some (.int (nI (a + 1))))) st) : AW p l e R s m args below meth c D cl A nL Q f k n pc lv st :=
  a_iinc hc hdg hp hx (v := nI (a + 1)) (nI_1 a) hn kk
theorem a_iadd (hc : CallFix p m c cc nL s args Ts own) {x y : Int32} (hdg : decode cc pc = .ok (.iadd, 1)) (hp : pc + 1 = pc')  (kk : AW p l e R s m args below meth c D cl A nL Q f k n pc' lv (.int (x + y) :: st)) : AW p l e R s m args below meth c D cl A nL Q f k n pc lv (.int y :: .int x :: st) := by
  subst hp
  exact fun H locs ls hf hd hS hl => lv_iadd hc.1 hc.2.1 hdg (kk H locs ls hf hd hS hl)
theorem a_isub (hc : CallFix p m c cc nL s args Ts own) {x y : Int32} (hdg : decode cc pc = .ok (.isub, 1)) (hp : pc + 1 = pc')  (kk : AW p l e R s m args below meth c D cl A nL Q f k n pc' lv (.int (x - y) :: st)) : AW p l e R s m args below meth c D cl A nL Q f k n pc lv (.int y :: .int x :: st) := by
  subst hp
  exact fun H locs ls hf hd hS hl => lv_isub hc.1 hc.2.1 hdg (kk H locs ls hf hd hS hl)
theorem a_imul (hc : CallFix p m c cc nL s args Ts own) {x y : Int32} (hdg : decode cc pc = .ok (.imul, 1)) (hp : pc + 1 = pc')  (kk : AW p l e R s m args below meth c D cl A nL Q f k n pc' lv (.int (x * y) :: st)) : AW p l e R s m args below meth c D cl A nL Q f k n pc lv (.int y :: .int x :: st) := by
  subst hp
  exact fun H locs ls hf hd hS hl => lv_imul hc.1 hc.2.1 hdg (kk H locs ls hf hd hS hl)
theorem a_iand (hc : CallFix p m c cc nL s args Ts own) {x y : Int32} (hdg : decode cc pc = .ok (.iand, 1)) (hp : pc + 1 = pc')  (kk : AW p l e R s m args below meth c D cl A nL Q f k n pc' lv (.int (x &&& y) :: st)) : AW p l e R s m args below meth c D cl A nL Q f k n pc lv (.int y :: .int x :: st) := by
  subst hp
  exact fun H locs ls hf hd hS hl => lv_iand hc.1 hc.2.1 hdg (kk H locs ls hf hd hS hl)
theorem a_ior (hc : CallFix p m c cc nL s args Ts own) {x y : Int32} (hdg : decode cc pc = .ok (.ior, 1)) (hp : pc + 1 = pc')  (kk : AW p l e R s m args below meth c D cl A nL Q f k n pc' lv (.int (x ||| y) :: st)) : AW p l e R s m args below meth c D cl A nL Q f k n pc lv (.int y :: .int x :: st) := by
  subst hp
  exact fun H locs ls hf hd hS hl => lv_ior hc.1 hc.2.1 hdg (kk H locs ls hf hd hS hl)
theorem a_ishl (hc : CallFix p m c cc nL s args Ts own) {x y : Int32} (hdg : decode cc pc = .ok (.ishl, 1)) (hp : pc + 1 = pc')  (kk : AW p l e R s m args below meth c D cl A nL Q f k n pc' lv (.int (x <<< (y &&& 31)) :: st)) : AW p l e R s m args below meth c D cl A nL Q f k n pc lv (.int y :: .int x :: st) := by
  subst hp
  exact fun H locs ls hf hd hS hl => lv_ishl hc.1 hc.2.1 hdg (kk H locs ls hf hd hS hl)
theorem a_ishr (hc : CallFix p m c cc nL s args Ts own) {x y : Int32} (hdg : decode cc pc = .ok (.ishr, 1)) (hp : pc + 1 = pc')  (kk : AW p l e R s m args below meth c D cl A nL Q f k n pc' lv (.int (x >>> (y &&& 31)) :: st)) : AW p l e R s m args below meth c D cl A nL Q f k n pc lv (.int y :: .int x :: st) := by
  subst hp
  exact fun H locs ls hf hd hS hl => lv_ishr hc.1 hc.2.1 hdg (kk H locs ls hf hd hS hl)
theorem a_idiv (hc : CallFix p m c cc nL s args Ts own) {x y : Int32} (hdg : decode cc pc = .ok (.idiv, 1)) (hp : pc + 1 = pc') (hne : ¬ y = 0) (kk : AW p l e R s m args below meth c D cl A nL Q f k n pc' lv (.int (x / y) :: st)) : AW p l e R s m args below meth c D cl A nL Q f k n pc lv (.int y :: .int x :: st) := by
  subst hp
  exact fun H locs ls hf hd hS hl => lv_idiv hc.1 hc.2.1 hdg hne (kk H locs ls hf hd hS hl)
theorem a_irem (hc : CallFix p m c cc nL s args Ts own) {x y : Int32} (hdg : decode cc pc = .ok (.irem, 1)) (hp : pc + 1 = pc') (hne : ¬ y = 0) (kk : AW p l e R s m args below meth c D cl A nL Q f k n pc' lv (.int (x - x / y * y) :: st)) : AW p l e R s m args below meth c D cl A nL Q f k n pc lv (.int y :: .int x :: st) := by
  subst hp
  exact fun H locs ls hf hd hS hl => lv_irem hc.1 hc.2.1 hdg hne (kk H locs ls hf hd hS hl)
theorem a_iushr (hc : CallFix p m c cc nL s args Ts own) {x y : Int32} (hdg : decode cc pc = .ok (.iushr, 1)) (hp : pc + 1 = pc')  (kk : AW p l e R s m args below meth c D cl A nL Q f k n pc' lv (.int ((x.toUInt32 >>> (y.toUInt32 &&& Int32.toUInt32 31)).toInt32) :: st)) : AW p l e R s m args below meth c D cl A nL Q f k n pc lv (.int y :: .int x :: st) := by
  subst hp
  exact fun H locs ls hf hd hS hl => lv_iushr hc.1 hc.2.1 hdg rfl (kk H locs ls hf hd hS hl)
theorem a_nadd (hc : CallFix p m c cc nL s args Ts own) {a b : Nat} (hdg : decode cc pc = .ok (.iadd, 1)) (hp : pc + 1 = pc') (kk : AW p l e R s m args below meth c D cl A nL Q f k n pc' lv (.int (nI (a + b)) :: st)) : AW p l e R s m args below meth c D cl A nL Q f k n pc lv (.int (nI b) :: .int (nI a) :: st) := a_iadd hc hdg hp (by rw [nI_add]; exact kk)
theorem a_nmul (hc : CallFix p m c cc nL s args Ts own) {a b : Nat} (hdg : decode cc pc = .ok (.imul, 1)) (hp : pc + 1 = pc') (kk : AW p l e R s m args below meth c D cl A nL Q f k n pc' lv (.int (nI (a * b)) :: st)) : AW p l e R s m args below meth c D cl A nL Q f k n pc lv (.int (nI b) :: .int (nI a) :: st) := a_imul hc hdg hp (by rw [pk_mul]; exact kk)
theorem a_nsub (hc : CallFix p m c cc nL s args Ts own) {a b : Nat} (hdg : decode cc pc = .ok (.isub, 1)) (hp : pc + 1 = pc') (h : b ≤ a) (kk : AW p l e R s m args below meth c D cl A nL Q f k n pc' lv (.int (nI (a - b)) :: st)) : AW p l e R s m args below meth c D cl A nL Q f k n pc lv (.int (nI b) :: .int (nI a) :: st) := a_isub hc hdg hp (by rw [pk_sub h]; exact kk)
theorem a_ndiv (hc : CallFix p m c cc nL s args Ts own) {a b : Nat} (hdg : decode cc pc = .ok (.idiv, 1)) (hp : pc + 1 = pc') (ha : a < 2 ^ 31) (h0 : 0 < b) (hb : b < 2 ^ 31) (kk : AW p l e R s m args below meth c D cl A nL Q f k n pc' lv (.int (nI (a / b)) :: st)) : AW p l e R s m args below meth c D cl A nL Q f k n pc lv (.int (nI b) :: .int (nI a) :: st) := a_idiv hc hdg hp (nI_ne0 h0 hb) (by rw [pk_div ha h0 hb]; exact kk)
theorem a_nrem (hc : CallFix p m c cc nL s args Ts own) {a b : Nat} (hdg : decode cc pc = .ok (.irem, 1)) (hp : pc + 1 = pc') (ha : a < 2 ^ 31) (h0 : 0 < b) (hb : b < 2 ^ 31) (kk : AW p l e R s m args below meth c D cl A nL Q f k n pc' lv (.int (nI (a % b)) :: st)) : AW p l e R s m args below meth c D cl A nL Q f k n pc lv (.int (nI b) :: .int (nI a) :: st) := a_irem hc hdg hp (nI_ne0 h0 hb) (by rw [pk_rem ha h0 hb]; exact kk)
theorem a_dup (hc : CallFix p m c cc nL s args Ts own) {v : Value} (hdg : decode cc pc = .ok (.dup, 1)) (hp : pc + 1 = pc') (hv : v.category = 1) (kk : AW p l e R s m args below meth c D cl A nL Q f k n pc' lv (v :: v :: st)) : AW p l e R s m args below meth c D cl A nL Q f k n pc lv (v :: st) := by
  subst hp
  exact fun H locs ls hf hd hS hl => lv_dup hc.1 hc.2.1 hdg hv (kk H locs ls hf hd hS hl)
theorem a_pop (hc : CallFix p m c cc nL s args Ts own) {v : Value} (hdg : decode cc pc = .ok (.pop, 1)) (hp : pc + 1 = pc') (hv : v.category = 1) (kk : AW p l e R s m args below meth c D cl A nL Q f k n pc' lv (st)) : AW p l e R s m args below meth c D cl A nL Q f k n pc lv (v :: st) := by
  subst hp
  exact fun H locs ls hf hd hS hl => lv_pop hc.1 hc.2.1 hdg hv (kk H locs ls hf hd hS hl)
theorem a_dup_x1 (hc : CallFix p m c cc nL s args Ts own) {v u : Value} (hdg : decode cc pc = .ok (.dup_x1, 1)) (hp : pc + 1 = pc') (hv : v.category = 1) (hu : u.category = 1) (kk : AW p l e R s m args below meth c D cl A nL Q f k n pc' lv (v :: u :: v :: st)) : AW p l e R s m args below meth c D cl A nL Q f k n pc lv (v :: u :: st) := by
  subst hp
  exact fun H locs ls hf hd hS hl => lv_dup_x1 hc.1 hc.2.1 hdg hv hu (kk H locs ls hf hd hS hl)
theorem a_dup2 (hc : CallFix p m c cc nL s args Ts own) {v u : Value} (hdg : decode cc pc = .ok (.dup2, 1)) (hp : pc + 1 = pc') (hv : v.category = 1) (hu : u.category = 1) (kk : AW p l e R s m args below meth c D cl A nL Q f k n pc' lv (v :: u :: v :: u :: st)) : AW p l e R s m args below meth c D cl A nL Q f k n pc lv (v :: u :: st) := by
  subst hp
  exact fun H locs ls hf hd hS hl => lv_dup2_11 hc.1 hc.2.1 hdg hv hu (kk H locs ls hf hd hS hl)
theorem a_if_eq (hc : CallFix p m c cc nL s args Ts own) {x : Int32} {off : Int} {tgt : Nat} (hdg : decode cc pc = .ok (.ifCond .eq off, 3)) (ht : (pc : Int) + off = (tgt : Int)) (hp : pc + 3 = pc') (kt : x = 0 → AW p l e R s m args below meth c D cl A nL Q f k n tgt lv st) (kf : ¬ x = 0 → AW p l e R s m args below meth c D cl A nL Q f k n pc' lv st) : AW p l e R s m args below meth c D cl A nL Q f k n pc lv (.int x :: st) := by
  subst hp
  exact fun H locs ls hf hd hS hl => lv_if_eq hc.1 hc.2.1 hdg ht (fun h => kt h H locs ls hf hd hS hl) (fun h => kf h H locs ls hf hd hS hl)
theorem a_if_ne (hc : CallFix p m c cc nL s args Ts own) {x : Int32} {off : Int} {tgt : Nat} (hdg : decode cc pc = .ok (.ifCond .ne off, 3)) (ht : (pc : Int) + off = (tgt : Int)) (hp : pc + 3 = pc') (kt : ¬ x = 0 → AW p l e R s m args below meth c D cl A nL Q f k n tgt lv st) (kf : x = 0 → AW p l e R s m args below meth c D cl A nL Q f k n pc' lv st) : AW p l e R s m args below meth c D cl A nL Q f k n pc lv (.int x :: st) := by
  subst hp
  exact fun H locs ls hf hd hS hl => lv_if_ne hc.1 hc.2.1 hdg ht (fun h => kt h H locs ls hf hd hS hl) (fun h => kf h H locs ls hf hd hS hl)
theorem a_if_lt (hc : CallFix p m c cc nL s args Ts own) {x : Int32} {off : Int} {tgt : Nat} (hdg : decode cc pc = .ok (.ifCond .lt off, 3)) (ht : (pc : Int) + off = (tgt : Int)) (hp : pc + 3 = pc') (kt : x < 0 → AW p l e R s m args below meth c D cl A nL Q f k n tgt lv st) (kf : ¬ x < 0 → AW p l e R s m args below meth c D cl A nL Q f k n pc' lv st) : AW p l e R s m args below meth c D cl A nL Q f k n pc lv (.int x :: st) := by
  subst hp
  exact fun H locs ls hf hd hS hl => lv_if_lt hc.1 hc.2.1 hdg ht (fun h => kt h H locs ls hf hd hS hl) (fun h => kf h H locs ls hf hd hS hl)
theorem a_if_ge (hc : CallFix p m c cc nL s args Ts own) {x : Int32} {off : Int} {tgt : Nat} (hdg : decode cc pc = .ok (.ifCond .ge off, 3)) (ht : (pc : Int) + off = (tgt : Int)) (hp : pc + 3 = pc') (kt : 0 ≤ x → AW p l e R s m args below meth c D cl A nL Q f k n tgt lv st) (kf : ¬ 0 ≤ x → AW p l e R s m args below meth c D cl A nL Q f k n pc' lv st) : AW p l e R s m args below meth c D cl A nL Q f k n pc lv (.int x :: st) := by
  subst hp
  exact fun H locs ls hf hd hS hl => lv_if_ge hc.1 hc.2.1 hdg ht (fun h => kt h H locs ls hf hd hS hl) (fun h => kf h H locs ls hf hd hS hl)
theorem a_if_gt (hc : CallFix p m c cc nL s args Ts own) {x : Int32} {off : Int} {tgt : Nat} (hdg : decode cc pc = .ok (.ifCond .gt off, 3)) (ht : (pc : Int) + off = (tgt : Int)) (hp : pc + 3 = pc') (kt : 0 < x → AW p l e R s m args below meth c D cl A nL Q f k n tgt lv st) (kf : ¬ 0 < x → AW p l e R s m args below meth c D cl A nL Q f k n pc' lv st) : AW p l e R s m args below meth c D cl A nL Q f k n pc lv (.int x :: st) := by
  subst hp
  exact fun H locs ls hf hd hS hl => lv_if_gt hc.1 hc.2.1 hdg ht (fun h => kt h H locs ls hf hd hS hl) (fun h => kf h H locs ls hf hd hS hl)
theorem a_if_le (hc : CallFix p m c cc nL s args Ts own) {x : Int32} {off : Int} {tgt : Nat} (hdg : decode cc pc = .ok (.ifCond .le off, 3)) (ht : (pc : Int) + off = (tgt : Int)) (hp : pc + 3 = pc') (kt : x ≤ 0 → AW p l e R s m args below meth c D cl A nL Q f k n tgt lv st) (kf : ¬ x ≤ 0 → AW p l e R s m args below meth c D cl A nL Q f k n pc' lv st) : AW p l e R s m args below meth c D cl A nL Q f k n pc lv (.int x :: st) := by
  subst hp
  exact fun H locs ls hf hd hS hl => lv_if_le hc.1 hc.2.1 hdg ht (fun h => kt h H locs ls hf hd hS hl) (fun h => kf h H locs ls hf hd hS hl)
theorem a_icmp_eq (hc : CallFix p m c cc nL s args Ts own) {x y : Int32} {off : Int} {tgt : Nat} (hdg : decode cc pc = .ok (.if_icmp .eq off, 3)) (ht : (pc : Int) + off = (tgt : Int)) (hp : pc + 3 = pc') (kt : x = y → AW p l e R s m args below meth c D cl A nL Q f k n tgt lv st) (kf : ¬ x = y → AW p l e R s m args below meth c D cl A nL Q f k n pc' lv st) : AW p l e R s m args below meth c D cl A nL Q f k n pc lv (.int y :: .int x :: st) := by
  subst hp
  exact fun H locs ls hf hd hS hl => lv_icmp_eq hc.1 hc.2.1 hdg ht (fun h => kt h H locs ls hf hd hS hl) (fun h => kf h H locs ls hf hd hS hl)
theorem a_icmp_ne (hc : CallFix p m c cc nL s args Ts own) {x y : Int32} {off : Int} {tgt : Nat} (hdg : decode cc pc = .ok (.if_icmp .ne off, 3)) (ht : (pc : Int) + off = (tgt : Int)) (hp : pc + 3 = pc') (kt : ¬ x = y → AW p l e R s m args below meth c D cl A nL Q f k n tgt lv st) (kf : x = y → AW p l e R s m args below meth c D cl A nL Q f k n pc' lv st) : AW p l e R s m args below meth c D cl A nL Q f k n pc lv (.int y :: .int x :: st) := by
  subst hp
  exact fun H locs ls hf hd hS hl => lv_icmp_ne hc.1 hc.2.1 hdg ht (fun h => kt h H locs ls hf hd hS hl) (fun h => kf h H locs ls hf hd hS hl)
theorem a_icmp_lt (hc : CallFix p m c cc nL s args Ts own) {x y : Int32} {off : Int} {tgt : Nat} (hdg : decode cc pc = .ok (.if_icmp .lt off, 3)) (ht : (pc : Int) + off = (tgt : Int)) (hp : pc + 3 = pc') (kt : x < y → AW p l e R s m args below meth c D cl A nL Q f k n tgt lv st) (kf : ¬ x < y → AW p l e R s m args below meth c D cl A nL Q f k n pc' lv st) : AW p l e R s m args below meth c D cl A nL Q f k n pc lv (.int y :: .int x :: st) := by
  subst hp
  exact fun H locs ls hf hd hS hl => lv_icmp_lt hc.1 hc.2.1 hdg ht (fun h => kt h H locs ls hf hd hS hl) (fun h => kf h H locs ls hf hd hS hl)
theorem a_icmp_ge (hc : CallFix p m c cc nL s args Ts own) {x y : Int32} {off : Int} {tgt : Nat} (hdg : decode cc pc = .ok (.if_icmp .ge off, 3)) (ht : (pc : Int) + off = (tgt : Int)) (hp : pc + 3 = pc') (kt : y ≤ x → AW p l e R s m args below meth c D cl A nL Q f k n tgt lv st) (kf : ¬ y ≤ x → AW p l e R s m args below meth c D cl A nL Q f k n pc' lv st) : AW p l e R s m args below meth c D cl A nL Q f k n pc lv (.int y :: .int x :: st) := by
  subst hp
  exact fun H locs ls hf hd hS hl => lv_icmp_ge hc.1 hc.2.1 hdg ht (fun h => kt h H locs ls hf hd hS hl) (fun h => kf h H locs ls hf hd hS hl)
theorem a_icmp_gt (hc : CallFix p m c cc nL s args Ts own) {x y : Int32} {off : Int} {tgt : Nat} (hdg : decode cc pc = .ok (.if_icmp .gt off, 3)) (ht : (pc : Int) + off = (tgt : Int)) (hp : pc + 3 = pc') (kt : y < x → AW p l e R s m args below meth c D cl A nL Q f k n tgt lv st) (kf : ¬ y < x → AW p l e R s m args below meth c D cl A nL Q f k n pc' lv st) : AW p l e R s m args below meth c D cl A nL Q f k n pc lv (.int y :: .int x :: st) := by
  subst hp
  exact fun H locs ls hf hd hS hl => lv_icmp_gt hc.1 hc.2.1 hdg ht (fun h => kt h H locs ls hf hd hS hl) (fun h => kf h H locs ls hf hd hS hl)
theorem a_icmp_le (hc : CallFix p m c cc nL s args Ts own) {x y : Int32} {off : Int} {tgt : Nat} (hdg : decode cc pc = .ok (.if_icmp .le off, 3)) (ht : (pc : Int) + off = (tgt : Int)) (hp : pc + 3 = pc') (kt : x ≤ y → AW p l e R s m args below meth c D cl A nL Q f k n tgt lv st) (kf : ¬ x ≤ y → AW p l e R s m args below meth c D cl A nL Q f k n pc' lv st) : AW p l e R s m args below meth c D cl A nL Q f k n pc lv (.int y :: .int x :: st) := by
  subst hp
  exact fun H locs ls hf hd hS hl => lv_icmp_le hc.1 hc.2.1 hdg ht (fun h => kt h H locs ls hf hd hS hl) (fun h => kf h H locs ls hf hd hS hl)
theorem a_ncmp_eq (hc : CallFix p m c cc nL s args Ts own) {a b : Nat} {off : Int} {tgt : Nat} (hdg : decode cc pc = .ok (.if_icmp .eq off, 3)) (ht : (pc : Int) + off = (tgt : Int)) (hp : pc + 3 = pc') (ha : a < 2 ^ 31) (hb : b < 2 ^ 31) (kt : a = b → AW p l e R s m args below meth c D cl A nL Q f k n tgt lv st) (kf : ¬ a = b → AW p l e R s m args below meth c D cl A nL Q f k n pc' lv st) : AW p l e R s m args below meth c D cl A nL Q f k n pc lv (.int (nI b) :: .int (nI a) :: st) :=
  a_icmp_eq hc hdg ht hp (fun h => kt ((nI_eq ha hb).mp h)) (fun h => kf (fun q => h ((nI_eq ha hb).mpr q)))
theorem a_ncmp_ne (hc : CallFix p m c cc nL s args Ts own) {a b : Nat} {off : Int} {tgt : Nat} (hdg : decode cc pc = .ok (.if_icmp .ne off, 3)) (ht : (pc : Int) + off = (tgt : Int)) (hp : pc + 3 = pc') (ha : a < 2 ^ 31) (hb : b < 2 ^ 31) (kt : ¬ a = b → AW p l e R s m args below meth c D cl A nL Q f k n tgt lv st) (kf : a = b → AW p l e R s m args below meth c D cl A nL Q f k n pc' lv st) : AW p l e R s m args below meth c D cl A nL Q f k n pc lv (.int (nI b) :: .int (nI a) :: st) :=
  a_icmp_ne hc hdg ht hp (fun h => kt (fun q => h ((nI_eq ha hb).mpr q))) (fun h => kf ((nI_eq ha hb).mp h))
theorem a_ncmp_lt (hc : CallFix p m c cc nL s args Ts own) {a b : Nat} {off : Int} {tgt : Nat} (hdg : decode cc pc = .ok (.if_icmp .lt off, 3)) (ht : (pc : Int) + off = (tgt : Int)) (hp : pc + 3 = pc') (ha : a < 2 ^ 31) (hb : b < 2 ^ 31) (kt : a < b → AW p l e R s m args below meth c D cl A nL Q f k n tgt lv st) (kf : b ≤ a → AW p l e R s m args below meth c D cl A nL Q f k n pc' lv st) : AW p l e R s m args below meth c D cl A nL Q f k n pc lv (.int (nI b) :: .int (nI a) :: st) :=
  a_icmp_lt hc hdg ht hp (fun h => kt ((nI_ltI ha hb).mp h)) (fun h => kf (Nat.not_lt.mp (fun q => h ((nI_ltI ha hb).mpr q))))
theorem a_ncmp_ge (hc : CallFix p m c cc nL s args Ts own) {a b : Nat} {off : Int} {tgt : Nat} (hdg : decode cc pc = .ok (.if_icmp .ge off, 3)) (ht : (pc : Int) + off = (tgt : Int)) (hp : pc + 3 = pc') (ha : a < 2 ^ 31) (hb : b < 2 ^ 31) (kt : b ≤ a → AW p l e R s m args below meth c D cl A nL Q f k n tgt lv st) (kf : a < b → AW p l e R s m args below meth c D cl A nL Q f k n pc' lv st) : AW p l e R s m args below meth c D cl A nL Q f k n pc lv (.int (nI b) :: .int (nI a) :: st) :=
  a_icmp_ge hc hdg ht hp (fun h => kt ((nI_leI hb ha).mp h)) (fun h => kf (Nat.not_le.mp (fun q => h ((nI_leI hb ha).mpr q))))
theorem a_ncmp_gt (hc : CallFix p m c cc nL s args Ts own) {a b : Nat} {off : Int} {tgt : Nat} (hdg : decode cc pc = .ok (.if_icmp .gt off, 3)) (ht : (pc : Int) + off = (tgt : Int)) (hp : pc + 3 = pc') (ha : a < 2 ^ 31) (hb : b < 2 ^ 31) (kt : b < a → AW p l e R s m args below meth c D cl A nL Q f k n tgt lv st) (kf : a ≤ b → AW p l e R s m args below meth c D cl A nL Q f k n pc' lv st) : AW p l e R s m args below meth c D cl A nL Q f k n pc lv (.int (nI b) :: .int (nI a) :: st) :=
  a_icmp_gt hc hdg ht hp (fun h => kt ((nI_ltI hb ha).mp h)) (fun h => kf (Nat.not_lt.mp (fun q => h ((nI_ltI hb ha).mpr q))))
theorem a_ncmp_le (hc : CallFix p m c cc nL s args Ts own) {a b : Nat} {off : Int} {tgt : Nat} (hdg : decode cc pc = .ok (.if_icmp .le off, 3)) (ht : (pc : Int) + off = (tgt : Int)) (hp : pc + 3 = pc') (ha : a < 2 ^ 31) (hb : b < 2 ^ 31) (kt : a ≤ b → AW p l e R s m args below meth c D cl A nL Q f k n tgt lv st) (kf : b < a → AW p l e R s m args below meth c D cl A nL Q f k n pc' lv st) : AW p l e R s m args below meth c D cl A nL Q f k n pc lv (.int (nI b) :: .int (nI a) :: st) :=
  a_icmp_le hc hdg ht hp (fun h => kt ((nI_leI ha hb).mp h)) (fun h => kf (Nat.not_le.mp (fun q => h ((nI_leI ha hb).mpr q))))
theorem a_goto (hc : CallFix p m c cc nL s args Ts own) {off : Int} {tgt : Nat} (hdg : decode cc pc = .ok (.goto off, 3)) (ht : (pc : Int) + off = (tgt : Int)) (kk : AW p l e R s m args below meth c D cl A nL Q f k n tgt lv st) : AW p l e R s m args below meth c D cl A nL Q f k n pc lv st := fun H locs ls hf hd hS hl => lv_goto hc.1 hc.2.1 hdg ht (kk H locs ls hf hd hS hl)
theorem a_ifnull (hc : CallFix p m c cc nL s args Ts own) {x : Option Nat} {off : Int} {tgt : Nat} (hdg : decode cc pc = .ok (.ifnull off, 3)) (ht : (pc : Int) + off = (tgt : Int)) (hp : pc + 3 = pc') (kt : x = none → AW p l e R s m args below meth c D cl A nL Q f k n tgt lv st) (kf : ∀ a, x = some a → AW p l e R s m args below meth c D cl A nL Q f k n pc' lv st) : AW p l e R s m args below meth c D cl A nL Q f k n pc lv (va_rf x :: st) := by
  subst hp
  intro H locs ls hf hd hS hl
  cases x with
  | none => exact lv_ifnullN hc.1 hc.2.1 hdg ht (kt rfl H locs ls hf hd hS hl)
  | some a => exact lv_ifnull hc.1 hc.2.1 hdg (kf a rfl H locs ls hf hd hS hl)
theorem a_ifnonnull (hc : CallFix p m c cc nL s args Ts own) {x : Option Nat} {off : Int} {tgt : Nat} (hdg : decode cc pc = .ok (.ifnonnull off, 3)) (ht : (pc : Int) + off = (tgt : Int)) (hp : pc + 3 = pc') (kt : ∀ a, x = some a → AW p l e R s m args below meth c D cl A nL Q f k n tgt lv st) (kf : x = none → AW p l e R s m args below meth c D cl A nL Q f k n pc' lv st) : AW p l e R s m args below meth c D cl A nL Q f k n pc lv (va_rf x :: st) := by
  subst hp
  intro H locs ls hf hd hS hl
  cases x with
  | none => exact lv_ifnonnullN hc.1 hc.2.1 hdg (kf rfl H locs ls hf hd hS hl)
  | some a => exact lv_ifnonnull hc.1 hc.2.1 hdg ht (kt a rfl H locs ls hf hd hS hl)
theorem a_get (hc : CallFix p m c cc nL s args Ts own) (hK : va_K D cl tys s) {ref C : String} {T : u_T} {N ci index a : Nat} (hin : ∀ w ∈ u_ws C T N, w ∈ Ts) {fs : List Value} (he : f a = some (.inr (ci, fs))) (hci : cl[ci]? = some (C, T, N)) (j : Nat) (hj : j < N) (hlink : (Cond.fieldLink own index ref (T j).2.1 (T j).2.2.1).before args s = true) (hsame : ref = (T j).1) {v : Value} (hv : fs[j]? = some v) (hdg : decode cc pc = .ok (.getfield index, 3)) (hp : pc + 3 = pc') (kk : AW p l e R s m args below meth c D cl A nL Q f k n pc' lv (v :: st)) : AW p l e R s m args below meth c D cl A nL Q f k n pc lv (.ref a :: st) := by
  subst hp
  subst hsame
  exact fun H locs ls hf hd hS hl => va_get hc.1 hc.2.1 hc.2.2.2.2 hin hc.2.2.2.1 hK (hf.one he) 0 rfl hci j hj hlink (fun _ h => h) hv hdg (kk H locs ls hf hd hS hl)
theorem a_put (hc : CallFix p m c cc nL s args Ts own) (hK : va_K D cl tys s) {ref C : String} {T : u_T} {N ci index a : Nat} (hin : ∀ w ∈ u_ws C T N, w ∈ Ts) (ty0 : Nat → FieldType) (hty : ∀ k, k < N → parseFieldDescriptor (T k).2.2.1 = some (ty0 k)) (hnm : ∀ a, a < N → ∀ b, b < N → a ≠ b → (T a).2.1 ≠ (T b).2.1) {fs : List Value} (he : f a = some (.inr (ci, fs))) (hci : cl[ci]? = some (C, T, N)) (j : Nat) (hj : j < N) (hlink : (Cond.fieldLink own index ref (T j).2.1 (T j).2.2.1).before args s = true) (hsame : ref = (T j).1) (hfin : (T j).2.2.2 = false ∨ ((T j).2.2.2 = true ∧ meth.name = "<init>" ∧ (T j).1 = own)) {v : Value} (hn : narrow (ty0 j) v = v) (hfit : fits (ty0 j) v = true) (hl0 : j < fs.length) (hdg : decode cc pc = .ok (.putfield index, 3)) (hp : pc + 3 = pc') (kk : AW p l e R s m args below meth c D cl A nL Q (va_up f a (some (.inr (ci, fs.set j v)))) k n pc' lv st) : AW p l e R s m args below meth c D cl A nL Q f k n pc lv (v :: .ref a :: st) := by
  subst hp
  subst hsame
  intro H locs ls hf hd hS0 hl
  have hd' : ∀ (b : Nat) (x : va_E), va_up f a (some (.inr (ci, fs.set j v))) b = some x → A b := by
    intro b x hb
    by_cases hba : b = a
    · subst hba
      exact hd _ _ he
    · rw [va_up_ne _ _ hba] at hb
      exact hd b x hb
  have hap := va_apart (own := own) hc.2.2.2.2 hin ty0 hty hnm hK hci
  obtain ⟨r, h1, cell, q1, q2, q3, q4⟩ := hf a _ he
  have hr : r = (C, T, N) := Option.some.inj (h1.symm.trans hci)
  subst hr
  obtain ⟨hS, hfc, kC, hkC, hkind⟩ := hK.1 ci _ hci
  obtain ⟨cf, kf, fi, fd, hi, hsl⟩ := hS j hj
  have hst := (u_facts hfc hkC (u_lays hc.2.2.2.2 hin hj) hi).1
  have done : ∀ H' : Heap, H'[a]? = some (cell.setSlot fd.slot v) → H'.size = H.size → (∀ q, q ≠ a → H'[q]? = H[q]?) → W p l e R s m args below meth c H' (locs ++ [⟨a, fd.slot⟩]) k n Q (F0 m (pc + 3) ls st) := by
    intro H' e1 e2 e3
    rw [hsl] at e1 ⊢
    exact kk H' _ ls (hf.set ⟨_, hci, t_OB.to (V := updV (vp_V fs) j v) ⟨_, e1, q2, q3, t_set q4 hap hj v⟩ (fun i _ => vp_updV_set hl0 v i)⟩ e3) hd' (hS0.put e2 e3 (hd _ _ he)) hl
  have hlay := hc.2.2.2.2 _ (hin _ (u_in_lay hj))
  unfold u_lay at hlay
  rcases hfin with hfin | ⟨hfin, hin2, hdecl⟩
  · rw [if_neg (by rw [hfin]; decide)] at hlay
    have h6 := u_store hfc hkC hkind hlay hi (hty j hj) hn hfit
    exact W.putK hc.1 hc.2.1 (f := fd) ⟨hc.2.2.2.1, hlink, ⟨_, _, _, hi⟩, hst⟩ (by rw [q2]; exact h6) q1 q3 (by rw [hsl]; exact k2_hasslot (q4 j hj)) rfl rfl hdg done
  · rw [if_pos hfin] at hlay
    have hcf : m.cls = cf := by
      obtain ⟨_, _, c', _, _, _, -, -, hf', -, -, -, hown2, -⟩ := Cond.laysFinal_spec hlay
      have e1 : c' = cf := by have := hi.symm.trans hf'; simp at this; exact this.1.symm
      rw [hdecl] at hown2
      rw [← e1]; exact Option.some.inj (hc.2.2.2.1.symm.trans hown2)
    have h6 := u_fits hfc hkC hkind (Or.inr hlay) hi (hty j hj) hn hfit
    exact W.putFinK hc.1 hc.2.1 hc.2.2.2.1 hlink hi hst hcf hin2 (by rw [q2]; exact h6) q1 q3 (by rw [hsl]; exact k2_hasslot (q4 j hj)) rfl rfl hdg done
theorem a_iald (hc : CallFix p m c cc nL s args Ts own) (hK : va_K D cl tys s) {a N : Nat} {cA : ClassId} {g : Nat → Int32} (t0 : Nat) (he : f a = some (.inl (cA, N, .inl g))) (ht : tys[t0]? = some (cA, .int)) {i : Int32} (hi : vp_in i N) (hdg : decode cc pc = .ok (.iaload, 1)) (hp : pc + 1 = pc') (kk : AW p l e R s m args below meth c D cl A nL Q f k n pc' lv (.int (g i.toNatClampNeg) :: st)) : AW p l e R s m args below meth c D cl A nL Q f k n pc lv (.int i :: .ref a :: st) := by
  subst hp
  exact fun H locs ls hf hd hS hl => va_iald hc.1 hc.2.1 hK (hf.one he) 0 t0 rfl ht hi hdg (kk H locs ls hf hd hS hl)
theorem a_zald (hc : CallFix p m c cc nL s args Ts own) (hK : va_K D cl tys s) {a N : Nat} {cA : ClassId} {g : Nat → Int32} (t0 : Nat) (he : f a = some (.inl (cA, N, .inl g))) (ht : tys[t0]? = some (cA, .boolean)) {i : Int32} (hi : vp_in i N) (hdg : decode cc pc = .ok (.baload, 1)) (hp : pc + 1 = pc') (kk : AW p l e R s m args below meth c D cl A nL Q f k n pc' lv (.int (g i.toNatClampNeg) :: st)) : AW p l e R s m args below meth c D cl A nL Q f k n pc lv (.int i :: .ref a :: st) := by
  subst hp
  exact fun H locs ls hf hd hS hl => va_zald hc.1 hc.2.1 hK (hf.one he) 0 t0 rfl ht hi hdg (kk H locs ls hf hd hS hl)
theorem a_aald (hc : CallFix p m c cc nL s args Ts own) (hK : va_K D cl tys s) {a N : Nat} {cA : ClassId} {C : String} {g : Nat → Option Nat} (t0 : Nat) (he : f a = some (.inl (cA, N, .inr (.inr (.inr (.inr g)))))) (ht : tys[t0]? = some (cA, .object C)) {i : Int32} (hi : vp_in i N) (hdg : decode cc pc = .ok (.aaload, 1)) (hp : pc + 1 = pc') (kk : AW p l e R s m args below meth c D cl A nL Q f k n pc' lv (va_rf (g i.toNatClampNeg) :: st)) : AW p l e R s m args below meth c D cl A nL Q f k n pc lv (.int i :: .ref a :: st) := by
  subst hp
  exact fun H locs ls hf hd hS hl => va_aldq hc.1 hc.2.1 hK (hf.one he) 0 t0 rfl ht hi hdg (kk H locs ls hf hd hS hl)
theorem a_alen (hc : CallFix p m c cc nL s args Ts own) (hK : va_K D cl tys s) {a : Nat} {cA : ClassId} {x : vp_A} {ty : FieldType} (t0 : Nat) (he : f a = some (.inl (cA, x))) (ht : tys[t0]? = some (cA, ty)) (hdg : decode cc pc = .ok (.arraylength, 1)) (hp : pc + 1 = pc') (kk : AW p l e R s m args below meth c D cl A nL Q f k n pc' lv (.int (nI x.1) :: st)) : AW p l e R s m args below meth c D cl A nL Q f k n pc lv (.ref a :: st) := by
  subst hp
  exact fun H locs ls hf hd hS hl => va_alen hc.1 hc.2.1 hK (hf.one he) 0 t0 rfl ht rfl hdg (kk H locs ls hf hd hS hl)
theorem a_up_dom {a : Nat} {x0 x : va_E} (hd : ∀ (b : Nat) (y : va_E), f b = some y → A b) (he : f a = some x0) : ∀ (b : Nat) (y : va_E), va_up f a (some x) b = some y → A b := by
  intro b y hb
  by_cases hba : b = a
  · subst hba
    exact hd _ _ he
  · rw [va_up_ne _ _ hba] at hb
    exact hd b y hb
theorem a_iast (hc : CallFix p m c cc nL s args Ts own) (hK : va_K D cl tys s) {a N : Nat} {cA : ClassId} {g : Nat → Int32} (t0 : Nat) (he : f a = some (.inl (cA, N, .inl g))) (ht : tys[t0]? = some (cA, .int)) {i x : Int32} (hi : vp_in i N) (hdg : decode cc pc = .ok (.iastore, 1)) (hp : pc + 1 = pc') (kk : AW p l e R s m args below meth c D cl A nL Q (va_up f a (some (.inl (cA, N, .inl (upd g i.toNatClampNeg x))))) k n pc' lv st) : AW p l e R s m args below meth c D cl A nL Q f k n pc lv (.int x :: .int i :: .ref a :: st) := by
  subst hp
  intro H locs ls hf hd hS hl
  refine W.iast hc.1 hc.2.1 (hf a _ he) ((hK.2 t0 _ ht).1 N (fun j => .int (g j))) (fun q => by cases q) (by show ¬ (i < 0 ∨ (arrV _ _ _).slots.size ≤ _); rw [arrV_size]; exact hi) rfl rfl hdg fun H1 e z oq => ?_
  refine kk H1 _ ls (hf.set ?_ oq) (a_up_dom hd he) (hS.put z oq (hd _ _ he)) hl
  show H1[a]? = some (vp_cell _ _)
  rw [e]
  rw [vp_cell_i, vp_cell_i, arrV_store]
  congr 2
  funext q
  by_cases hq : q = i.toNatClampNeg
  · subst hq
    simp [updV, upd]
  · simp [updV, upd, hq]
theorem a_zast (hc : CallFix p m c cc nL s args Ts own) (hK : va_K D cl tys s) {a N : Nat} {cA : ClassId} {g : Nat → Int32} (t0 : Nat) (he : f a = some (.inl (cA, N, .inl g))) (ht : tys[t0]? = some (cA, .boolean)) {i x : Int32} (hx : x = nI 0 ∨ x = nI 1) (hi : vp_in i N) (hdg : decode cc pc = .ok (.bastore, 1)) (hp : pc + 1 = pc') (kk : AW p l e R s m args below meth c D cl A nL Q (va_up f a (some (.inl (cA, N, .inl (upd g i.toNatClampNeg x))))) k n pc' lv st) : AW p l e R s m args below meth c D cl A nL Q f k n pc lv (.int x :: .int i :: .ref a :: st) := by
  subst hp
  intro H locs ls hf hd hS hl
  have hx' : vp_nar .boolean x = x := by rcases hx with h | h <;> subst h <;> decide
  refine W.zast hc.1 hc.2.1 (hf a _ he) ((hK.2 t0 _ ht).1 N (fun j => .int (g j))) (fun q => by cases q) (by show ¬ (i < 0 ∨ (arrV _ _ _).slots.size ≤ _); rw [arrV_size]; exact hi) rfl rfl hdg fun H1 e z oq => ?_
  refine kk H1 _ ls (hf.set ?_ oq) (a_up_dom hd he) (hS.put z oq (hd _ _ he)) hl
  show H1[a]? = some (vp_cell _ _)
  rw [e]
  rw [vp_cell_i, vp_cell_i, arrV_store]
  congr 2
  funext q
  by_cases hq : q = i.toNatClampNeg
  · subst hq
    rw [show upd g i.toNatClampNeg x i.toNatClampNeg = vp_nar .boolean x by rw [hx']; simp [upd]]
    simp [updV, vp_nar]
    try rfl
  · simp [updV, upd, hq]
theorem a_aast (hc : CallFix p m c cc nL s args Ts own) (hK : va_K D cl tys s) {a N ci y : Nat} {cA : ClassId} {r : vw_C} {vs : List Value} {g : Nat → Option Nat} (t0 : Nat) (he : f a = some (.inl (cA, N, .inr (.inr (.inr (.inr g)))))) (ht : tys[t0]? = some (cA, .object r.1)) (hv : f y = some (.inr (ci, vs))) (hci : cl[ci]? = some r) {i : Int32} (hi : vp_in i N) (hdg : decode cc pc = .ok (.aastore, 1)) (hp : pc + 1 = pc') (kk : AW p l e R s m args below meth c D cl A nL Q (va_up f a (some (.inl (cA, N, .inr (.inr (.inr (.inr (va_up g i.toNatClampNeg (some y))))))))) k n pc' lv st) : AW p l e R s m args below meth c D cl A nL Q f k n pc lv (.ref y :: .int i :: .ref a :: st) := by
  subst hp
  intro H locs ls hf hd hS hl
  have hlt : i.toNatClampNeg < N := Nat.not_le.mp fun q => hi (Or.inr q)
  have h0 : ¬ i < 0 := fun q => hi (Or.inl q)
  obtain ⟨r', hr', cellV, g1, g2, g3, -⟩ := hf y _ hv
  have hcls := (hK.1 ci r hci).2
  obtain ⟨kA, comp, k1, k2, k3, -⟩ := (hK.2 t0 _ ht).2
  have hcomp : comp = D.1 ci := Option.some.inj (k3.symm.trans hcls.1)
  subst hcomp
  obtain ⟨kC, hkC, -⟩ := hcls.2
  refine W.aast hc.1 hc.2.1 (hf a _ he) (fun q h => by cases h) (fun h => by cases h) k1 k2 rfl hkC ⟨h0, by show _ < (arrV _ _ _).slots.size; rw [arrV_size]; exact hlt⟩ g1 (fun q h => by rw [g3] at h; cases h) (by rw [g2]; exact hkC) (by rw [g2]; exact va_assign hcls) rfl rfl hdg fun H1 e z oq => ?_
  refine kk H1 _ ls (hf.set ?_ oq) (a_up_dom hd he) (hS.put z oq (hd _ _ he)) hl
  show H1[a]? = some (vp_cell _ _)
  rw [e]
  rw [vp_cell_q, vp_cell_q, arrV_store]
  congr 2
  funext q
  by_cases hq : q = i.toNatClampNeg
  · subst hq
    simp [updV, va_up, va_rf]
  · simp [updV, va_up, hq]
theorem a_aastN (hc : CallFix p m c cc nL s args Ts own) (hK : va_K D cl tys s) {a N : Nat} {cA : ClassId} {C : String} {g : Nat → Option Nat} (t0 : Nat) (he : f a = some (.inl (cA, N, .inr (.inr (.inr (.inr g)))))) (ht : tys[t0]? = some (cA, .object C)) {i : Int32} (hi : vp_in i N) (hdg : decode cc pc = .ok (.aastore, 1)) (hp : pc + 1 = pc') (kk : AW p l e R s m args below meth c D cl A nL Q (va_up f a (some (.inl (cA, N, .inr (.inr (.inr (.inr (va_up g i.toNatClampNeg none)))))))) k n pc' lv st) : AW p l e R s m args below meth c D cl A nL Q f k n pc lv (.null :: .int i :: .ref a :: st) := by
  subst hp
  intro H locs ls hf hd hS hl
  refine va_WaastN (C := C) hc.1 hc.2.1 (hf a _ he) ((hK.2 t0 _ ht).1 N (fun j => va_rf (g j))) (fun h => by cases h) (by show ¬ (i < 0 ∨ (arrV _ _ _).slots.size ≤ _); rw [arrV_size]; exact hi) rfl rfl hdg fun H1 e z oq => ?_
  refine kk H1 _ ls (hf.set ?_ oq) (a_up_dom hd he) (hS.put z oq (hd _ _ he)) hl
  show H1[a]? = some (vp_cell _ _)
  rw [e]
  rw [vp_cell_q, vp_cell_q, arrV_store]
  congr 2
  funext q
  by_cases hq : q = i.toNatClampNeg
  · subst hq
    simp [updV, va_up, va_rf]
  · simp [updV, va_up, hq]
theorem a_push_dom {x : va_E} {q0 : Nat} (hd : ∀ (b : Nat) (y : va_E), f b = some y → A b) (hA : A q0) : ∀ (b : Nat) (y : va_E), va_up f q0 (some x) b = some y → A b := by
  intro b y hb
  by_cases hba : b = q0
  · subst hba
    exact hA
  · rw [va_up_ne _ _ hba] at hb
    exact hd b y hb
theorem a_new (hc : CallFix p m c cc nL s args Ts own) (hK : va_K D cl tys s) (hA : ∀ q : Nat, s.heap.size ≤ q → A q) {C : String} {T : u_T} {N ci index : Nat} (hin : ∀ w ∈ u_ws C T N, w ∈ Ts) (ty : Nat → FieldType) (hty : ∀ k, k < N → parseFieldDescriptor (T k).2.2.1 = some (ty k)) (hcl : (Cond.classLink own index C).before args s = true) (hinst : (Cond.instantiable C N).before args s = true) (hini : (Cond.initialized C).before args s = true) (hci : cl[ci]? = some (C, T, N)) {fs : List Value} (hfs : ∀ j, j < N → defaultValue (ty j) = vp_V fs j) (hcells : k + 1 ≤ R.cells) (hslots : n + N ≤ R.slots) (hdg : decode cc pc = .ok (.new index, 3)) (hp : pc + 3 = pc') (kk : ∀ q : Nat, f q = none → s.heap.size ≤ q → AW p l e R s m args below meth c D cl A nL Q (va_up f q (some (.inr (ci, fs)))) (k + 1) (n + N) pc' lv (.ref q :: st)) : AW p l e R s m args below meth c D cl A nL Q f k n pc lv st := by
  subst hp
  intro H locs ls hf hd hS hl
  have hKn := hK.1 ci _ hci
  refine W.newcK hc.1 hc.2.1 hc.2.2.2.1 hcl hinst hini rfl hdg hcells hslots hKn.2.1 rfl fun H1 kC hkC e1 z1 o1 => ?_
  refine kk H.size hf.fresh hS.1 H1 locs ls (hf.push ⟨_, hci, (u_born ty hc.2.2.2.2 hin hKn hkC e1 hty).to hfs⟩ o1) (a_push_dom hd (hA _ hS.1)) ⟨Nat.le_trans hS.1 (by omega), fun x h1 h2 => (o1 x (Nat.lt_of_lt_of_le h1 hS.1)).trans (hS.2.1 x h1 h2), hS.2.2⟩ hl
theorem a_newa (hc : CallFix p m c cc nL s args Ts own) (hK : va_K D cl tys s) (hA : ∀ q : Nat, s.heap.size ≤ q → A q) {atype : ArrayType} (harr : (Cond.arrayClass (newarray.typeOf atype)).before args s = true) {cA : ClassId} {ty : FieldType} (t0 : Nat) (ht : tys[t0]? = some (cA, ty)) (hty : newarray.typeOf atype = ty) (hra : va_RA s cA ty → s.vm.findClass ("[" ++ ty.toString) = some cA) {x : Int32} {N' : Nat} {a0 : vp_A} (ha : vp_cell cA a0 = arrV cA N' (fun _ => defaultValue ty)) (hx : x = nI N') (hN : N' * 8 < 536870912) (hcb : componentBytes ty ≤ 8) (hcells : k + 1 ≤ R.cells) (hslots : n + N' ≤ R.slots) (hdg : decode cc pc = .ok (.newarray atype, 2)) (hp : pc + 2 = pc') (kk : ∀ q : Nat, f q = none → s.heap.size ≤ q → AW p l e R s m args below meth c D cl A nL Q (va_up f q (some (.inl (cA, a0)))) (k + 1) (n + N') pc' lv (.ref q :: st)) : AW p l e R s m args below meth c D cl A nL Q f k n pc lv (.int x :: st) := by
  subst hp
  subst hty
  subst hx
  intro H locs ls hf hd hS hl
  have hb2 : N' * componentBytes (newarray.typeOf atype) ≤ 536870912 := Nat.le_trans (Nat.mul_le_mul_left _ hcb) (Nat.le_of_lt hN)
  refine va_newaK hc.1 hc.2.1 harr rfl hdg rfl (nI_pos (by omega)) (nI_clamp (by omega)) hb2 hcells hslots rfl fun H1 cB e1 z1 o1 hAr hNm => ?_
  have hcB : cB = cA := Option.some.inj (hNm.symm.trans (hra (hK.2 t0 _ ht).2))
  subst hcB
  refine kk H.size hf.fresh hS.1 H1 locs ls (hf.push ?_ o1) (a_push_dom hd (hA _ hS.1)) ⟨Nat.le_trans hS.1 (by omega), fun x h1 h2 => (o1 x (Nat.lt_of_lt_of_le h1 hS.1)).trans (hS.2.1 x h1 h2), hS.2.2⟩ hl
  show H1[H.size]? = some (vp_cell _ _)
  rw [ha]
  exact e1
theorem a_newq (hc : CallFix p m c cc nL s args Ts own) (hK : va_K D cl tys s) (hA : ∀ q : Nat, s.heap.size ≤ q → A q) {C : String} {index : Nat} (hclink : (Cond.classLink own index C).before args s = true) (hover : (Cond.arrayOver (.object C)).before args s = true) {cA : ClassId} (t0 : Nat) (ht : tys[t0]? = some (cA, .object C)) {x : Int32} {N' : Nat} (hx : x = nI N') (hN : N' * 8 < 536870912) (hcells : k + 1 ≤ R.cells) (hslots : n + N' ≤ R.slots) (hdg : decode cc pc = .ok (.anewarray index, 3)) (hp : pc + 3 = pc') (kk : ∀ q : Nat, f q = none → s.heap.size ≤ q → AW p l e R s m args below meth c D cl A nL Q (va_up f q (some (.inl (cA, N', .inr (.inr (.inr (.inr (fun _ => none)))))))) (k + 1) (n + N') pc' lv (.ref q :: st)) : AW p l e R s m args below meth c D cl A nL Q f k n pc lv (.int x :: st) := by
  subst hp
  subst hx
  intro H locs ls hf hd hS hl
  have hcl : (nI N').toNatClampNeg = N' := nI_clamp (by omega)
  refine W.anew hc.1 hc.2.1 hc.2.2.2.1 hclink hover rfl hdg rfl (nI_pos (by omega)) (by rw [hcl]; omega) hcells (by rw [hcl]; exact hslots) fun cB kA comp f1 f2 f3 f4 => ?_
  obtain ⟨kA', comp', -, -, -, k4⟩ := (hK.2 t0 _ ht).2
  have hcB : cB = cA := Option.some.inj (f1.symm.trans k4)
  subst hcB
  rw [hcl]
  generalize hH1 : H.push ({ cls := cB, slots := Array.replicate N' .null, vm := .none } : Cell) = H1
  have z1 : H1.size = H.size + 1 := by rw [← hH1, Array.size_push]
  have e1 : H1[H.size]? = some (arrV cB N' (fun _ => .null)) := by rw [← hH1, Array.getElem?_push_size, ← arrV_new]
  have o1 : ∀ q : Nat, q < H.size → H1[q]? = H[q]? := fun q hq => by rw [← hH1, Array.getElem?_push, if_neg (Nat.ne_of_lt hq)]
  refine kk H.size hf.fresh hS.1 H1 locs ls (hf.push ?_ o1) (a_push_dom hd (hA _ hS.1)) ⟨Nat.le_trans hS.1 (by omega), fun x h1 h2 => (o1 x (Nat.lt_of_lt_of_le h1 hS.1)).trans (hS.2.1 x h1 h2), hS.2.2⟩ hl
  show H1[H.size]? = some (vp_cell _ _)
  rw [vp_cell_q]
  exact e1
theorem a_iret (hc : CallFix p m c cc nL s args Ts own) {post : Option Value → (Nat → Option va_E) → Prop} (hr : meth.sig.returnType = some .int) (hk : meth.locks = false) {v : Int32} (hdg : decode cc pc = .ok (.ireturn, 1)) (hq : post (some (.int v)) f) : AW p l e R s m args below meth c D cl A nL (MQ below (CQ D cl A post) args s k n A) f k n pc lv [.int v] := fun H locs ls hf hd hS hl => W.iret hc.1 hc.2.1 hr (fun t ht hW => ⟨⟨some (.int v), f, rfl, hq, by rw [ht]; exact hf, hd⟩, hS.F ht⟩) hS.2.2 hdg hk
theorem a_zret (hc : CallFix p m c cc nL s args Ts own) {post : Option Value → (Nat → Option va_E) → Prop} (hr : meth.sig.returnType = some .boolean) (hk : meth.locks = false) {v : Int32} (hv : v = nI 0 ∨ v = nI 1) (hdg : decode cc pc = .ok (.ireturn, 1)) (hq : post (some (.int v)) f) : AW p l e R s m args below meth c D cl A nL (MQ below (CQ D cl A post) args s k n A) f k n pc lv [.int v] := fun H locs ls hf hd hS hl => W.zret hc.1 hc.2.1 hr (by rcases hv with h | h <;> subst h <;> decide) (fun t ht hW => ⟨⟨some (.int v), f, rfl, hq, by rw [ht]; exact hf, hd⟩, hS.F ht⟩) hS.2.2 hdg hk
theorem a_vret (hc : CallFix p m c cc nL s args Ts own) {post : Option Value → (Nat → Option va_E) → Prop} (hr : meth.sig.returnType = none) (hk : meth.locks = false) (hdg : decode cc pc = .ok (.return_, 1)) (hq : post none f) : AW p l e R s m args below meth c D cl A nL (MQ below (CQ D cl A post) args s k n A) f k n pc lv [] := fun H locs ls hf hd hS hl => W.vret hc.1 hc.2.1 hr (fun t ht hW => ⟨⟨none, f, rfl, hq, by rw [ht]; exact hf, hd⟩, hS.F ht⟩) hS.2.2 hdg hk
theorem a_aret (hc : CallFix p m c cc nL s args Ts own) {post : Option Value → (Nat → Option va_E) → Prop} {rt : FieldType} (hr : meth.sig.returnType = some rt) (hrt : (∃ n, rt = .object n) ∨ ∃ t, rt = .array t) (hk : meth.locks = false) {x : Option Nat} (hdg : decode cc pc = .ok (.areturn, 1)) (hq : post (some (va_rf x)) f) : AW p l e R s m args below meth c D cl A nL (MQ below (CQ D cl A post) args s k n A) f k n pc lv [va_rf x] := fun H locs ls hf hd hS hl => W.aret hc.1 hc.2.1 hr hrt (va_rf_or x) (fun t ht hW => ⟨⟨some (va_rf x), f, rfl, hq, by rw [ht]; exact hf, hd⟩, hS.F ht⟩) hS.2.2 hdg hk
theorem a_run {post : Option Value → (Nat → Option va_E) → Prop} {H : Heap} {locs : List Loc} {ls : Array Slot} {mc ms : Nat} {st0 rest : List Value} {av : Array Value} (hr : va_Run p l e R s m args below meth c H locs k n mc ms (F0 m pc ls st0) rest (CQ D cl A post av) A) (hS : va_S A s.heap H locs)
    (kk : ∀ (v : Option Value) (f' : Nat → Option va_E) (H1 : Heap) (locs1 : List Loc), post v f' → fw D cl f' H1 → (∀ (a : Nat) (x : va_E), f' a = some x → A a) → va_S A s.heap H1 locs1 → W p l e R s m args below meth c H1 locs1 (k + mc) (n + ms) Q (F0 m (pc + 3) ls (v.toList ++ rest))) : W p l e R s m args below meth c H locs k n Q (F0 m pc ls st0) := by
  intro T hT X
  obtain ⟨v, st₀, t, T', L, h0, X', hL, e1, e2, ⟨⟨v', f', hv, hp, hF, hd⟩, hz, hk⟩, st⟩ := hr T hT X
  cases hv
  rw [h0] at hz hk
  obtain ⟨t2, a1, b1⟩ := kk v f' T'.heap (locs ++ L) hp (by rw [e1]; exact hF) hd ⟨Nat.le_trans hS.1 (by rw [e1]; exact hz), fun q h1 h2 => by rw [e1, hk q (Nat.lt_of_lt_of_le h1 hS.1) h2]; exact hS.2.1 q h1 h2, fun q hq => by
      rcases List.mem_append.mp hq with h | h
      · exact hS.2.2 q h
      · exact hL q h⟩ T' rfl X'
  exact ⟨t2, st t2 a1, b1⟩
theorem a_callV (hc : CallFix p m c cc nL s args Ts own) (hK : va_K D cl tys s) (hO : AO3 s) (hA : ∀ q : Nat, s.heap.size ≤ q → A q) {y : MethodName} {bytes : ByteArray} {maxL : Nat} {ret : Option FieldType} {ws : List Cond} {rm : Room} {mc ms nA index ci b : Nat} {C : String} {r : vw_C} {fs As rest : List Value} {post : Option Value → (Nat → Option va_E) → Prop}
    (hM : CT l y ws rm D cl tys A f (.ref b :: As) post mc ms) (cw : CallW R s args own C index y bytes maxL ret ws rm mc ms nA) (he : f b = some (.inr (ci, fs))) (hci : cl[ci]? = some r) (hC : r.1 = C) (hn : As.length = nA) (hst : st = As.reverse ++ .ref b :: rest) (hW : (rest.map fun v => v.category).sum ≤ 8) (hdg : decode cc pc = .ok (.invokevirtual index, 3)) (hp : pc + 3 = pc') (hf0 : k + mc ≤ R.cells ∧ n + ms ≤ R.slots)
    (kk : ∀ (v : Option Value) (f' : Nat → Option va_E), post v f' → AW p l e R s m args below meth c D cl A nL Q f' (k + mc) (n + ms) pc' lv (v.toList ++ rest)) : AW p l e R s m args below meth c D cl A nL Q f k n pc lv st := by
  subst hp
  subst hst
  subst hC
  intro H locs ls hf hd hS hl
  exact a_run (va_runV hc (hM H.size (fun q hq => hA q (Nat.le_trans hS.1 hq)) hd) cw ⟨CP.blind, va_recv hK (hf.one he) hci (q0 := 0) rfl, fun U hU hW => ⟨rfl, by rw [hU], by rw [hU]; exact hf, va_K.moved hW.alike hK, hO.warm hW⟩⟩ rfl hn hl.1 rfl (lv_room hW) hdg hf0) hS (fun v f' H1 locs1 h1 h2 h3 h4 => kk v f' h1 H1 locs1 ls h2 h3 h4 hl)
theorem a_callS (hc : CallFix p m c cc nL s args Ts own) (hK : va_K D cl tys s) (hO : AO3 s) (hA : ∀ q : Nat, s.heap.size ≤ q → A q) {y : MethodName} {bytes : ByteArray} {maxL : Nat} {ret : Option FieldType} {ws : List Cond} {rm : Room} {mc ms nA index : Nat} {As rest : List Value} {post : Option Value → (Nat → Option va_E) → Prop}
    (hM : CT l y ws rm D cl tys A f As post mc ms) (cw : CallB R s args own index y bytes maxL ret ws rm mc ms nA ∧ (Cond.static y).before args s = true) (hn : As.length = nA) (hst : st = As.reverse ++ rest) (hW : (rest.map fun v => v.category).sum ≤ 8) (hdg : decode cc pc = .ok (.invokestatic index, 3)) (hp : pc + 3 = pc') (hf0 : k + mc ≤ R.cells ∧ n + ms ≤ R.slots)
    (kk : ∀ (v : Option Value) (f' : Nat → Option va_E), post v f' → AW p l e R s m args below meth c D cl A nL Q f' (k + mc) (n + ms) pc' lv (v.toList ++ rest)) : AW p l e R s m args below meth c D cl A nL Q f k n pc lv st := by
  subst hp
  subst hst
  intro H locs ls hf hd hS hl
  exact a_run (va_runS hc (hM H.size (fun q hq => hA q (Nat.le_trans hS.1 hq)) hd) cw ⟨CP.blind, fun U hU hW => ⟨rfl, by rw [hU], by rw [hU]; exact hf, va_K.moved hW.alike hK, hO.warm hW⟩⟩ rfl hn hl.1 rfl (lv_room hW) hdg hf0) hS (fun v f' H1 locs1 h1 h2 h3 h4 => kk v f' h1 H1 locs1 ls h2 h3 h4 hl)
theorem a_callI (hc : CallFix p m c cc nL s args Ts own) (hK : va_K D cl tys s) (hO : AO3 s) (hA : ∀ q : Nat, s.heap.size ≤ q → A q) {y : MethodName} {bytes : ByteArray} {maxL : Nat} {ws : List Cond} {rm : Room} {mc ms nA index b : Nat} {As rest : List Value} {post : Option Value → (Nat → Option va_E) → Prop}
    (hM : CT l y ws rm D cl tys A f (.ref b :: As) post mc ms) (cw : CallB R s args own index y bytes maxL none ws rm mc ms nA ∧ y.name = "<init>" ∧ (Cond.instanceMethod y).before args s = true) (hn : As.length = nA) (hst : st = As.reverse ++ .ref b :: rest) (hW : (rest.map fun v => v.category).sum ≤ 8) (hdg : decode cc pc = .ok (.invokespecial index, 3)) (hp : pc + 3 = pc') (hf0 : k + mc ≤ R.cells ∧ n + ms ≤ R.slots)
    (kk : ∀ (v : Option Value) (f' : Nat → Option va_E), post v f' → AW p l e R s m args below meth c D cl A nL Q f' (k + mc) (n + ms) pc' lv (v.toList ++ rest)) : AW p l e R s m args below meth c D cl A nL Q f k n pc lv st := by
  subst hp
  subst hst
  intro H locs ls hf hd hS hl
  exact a_run (va_runI hc (hM H.size (fun q hq => hA q (Nat.le_trans hS.1 hq)) hd) cw ⟨CP.blind, fun U hU hW => ⟨rfl, by rw [hU], by rw [hU]; exact hf, va_K.moved hW.alike hK, hO.warm hW⟩⟩ rfl hn hl.1 rfl (lv_room hW) hdg hf0) hS (fun v f' H1 locs1 h1 h2 h3 h4 => kk v f' h1 H1 locs1 ls h2 h3 h4 hl)
theorem a_objInit (hc : CallFix p m c cc nL s args Ts own) {idx a : Nat} (hlink : (Cond.methodLink own idx Lib.objectInit).before args s = true) (hinst : (Cond.instanceMethod Lib.objectInit).before args s = true) (hcode : (Cond.code Lib.objectInit ⟨#[0xb1]⟩ 1 none).before args s = true) (hdg : decode cc pc = .ok (.invokespecial idx, 3)) (hp : pc + 3 = pc') (hfr : 1 ≤ R.frames) (hlo : (st.map fun v => v.category).sum + 12 ≤ R.locals) (kk : AW p l e R s m args below meth c D cl A nL Q f k n pc' lv st) : AW p l e R s m args below meth c D cl A nL Q f k n pc lv (.ref a :: st) := by
  subst hp
  exact fun H locs ls hf hd hS hl => W.objInit hc.1 hc.2.1 hc.2.2.2.1 hlink hinst hcode rfl (by rw [hc.2.2.1]; exact hl.1) rfl hdg hfr (by show 2 * 0 + _ + 12 ≤ _; omega) (kk H locs ls hf hd hS hl)
end AWS
