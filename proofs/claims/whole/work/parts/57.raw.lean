/-! Worlds in the making: what is known of them, by addresses and by roles. -/
def TYS (tys : List (ClassId × FieldType)) (ca : Nat → ClassId) : Prop := tys[0]? = some (ca 0, .int) ∧ tys[1]? = some (ca 1, .boolean) ∧ tys[2]? = some (ca 2, .object R_D) ∧ tys[3]? = some (ca 3, .object R_C) ∧ tys[4]? = some (ca 4, .object R_U)
def Keep (f f' : Nat → Option va_E) (o : Nat) : Prop := ∀ a x, a ≠ o → f a = some x → f' a = some x
theorem CT.ofN {l : Launch} {D : va_G} {tys : List (ClassId × FieldType)} {A : Nat → Prop} {k mc ms : Nat} {f : Nat → Option va_E} {cc : ByteArray} {own : String} {y : MethodName} {maxL : Nat} {ret : Option FieldType} {As : List Value} {post : Option Value → (Nat → Option va_E) → Prop} (ho : y.cls = own) (hpl : plainName own = true) (hlen : (lg_sl As).length ≤ maxL) (hcat : ∀ v ∈ As, v.category = 1)
    (body : ∀ (p : Program) (e : Env) (s : State) (m : MethodId) (args : Array Value) (below : List Frame) (meth : Method) (c : Code), CallFix p m c cc maxL s args (Cond.code y cc maxL ret :: WS) own → va_K D vcl tys s → AO3 s → meth.sig.returnType = ret → meth.locks = false → meth.name = y.name → (∀ q : Nat, s.heap.size ≤ q → A q) →
      AW p l e (ra k mc ms) s m args below meth c D vcl A maxL (MQ below (CQ D vcl A post) args s mc ms A) f 0 0 0 (al_in As maxL) []) : CT l y (Cond.code y cc maxL ret :: WS) (ra k mc ms) D vcl tys A f As post mc ms :=
  CT.ofAW (by rw [ho]; exact hpl) rfl hlen hcat (fun p e s m args below meth c hc hK hO hr hk hnm hA => body p e s m args below meth c (by rw [ho] at hc; exact hc) hK hO hr hk hnm hA)
section RAW
variable {p : Program} {l : Launch} {e : Env} {R : Room} {s : State} {m : MethodId} {args : Array Value} {below : List Frame} {meth : Method} {c : Code} {D : va_G} {A : Nat → Prop} {nL : Nat} {Q : State → Prop}
variable {f : Nat → Option va_E} {k nn pc pc' : Nat} {lv : List (Option Value)} {st : List Value} {cc : ByteArray} {c0 : Cond} {own : String} {tys : List (ClassId × FieldType)}
theorem AW.sub {f' : Nat → Option va_E} (h : ∀ a x, f' a = some x → f a = some x) (kk : AW p l e R s m args below meth c D vcl A nL Q f' k nn pc lv st) : AW p l e R s m args below meth c D vcl A nL Q f k nn pc lv st := fun H locs ls hf hd hS hl => kk H locs ls (fun a x ha => hf a x (h a x ha)) (fun a x ha => hd a x (h a x ha)) hS hl
/-- an array just made goes to a final field -/
theorem n_after (hc : CallFix p m c cc nL s args (c0 :: WS) own) (hK : va_K D vcl tys s) {C : String} {T : u_T} {N ci index o q : Nat} (hin : ∀ w ∈ u_ws C T N, w ∈ WS) (ty0 : Nat → FieldType) (hty : ∀ k, k < N → parseFieldDescriptor (T k).2.2.1 = some (ty0 k)) (hnm : ∀ a, a < N → ∀ b, b < N → a ≠ b → (T a).2.1 ≠ (T b).2.1) (hci : vcl[ci]? = some (C, T, N)) {fs : List Value} (he : f o = some (.inr (ci, fs))) (nq : f q = none) {X : va_E} (j : Nat) (hj : j < N) (hlink : Cond.fieldLink own index (T j).1 (T j).2.1 (T j).2.2.1 ∈ WS) (hfin : (T j).2.2.2 = true ∧ meth.name = "<init>" ∧ (T j).1 = own) (hn : narrow (ty0 j) (.ref q) = .ref q) (hfit : fits (ty0 j) (.ref q) = true) (hl0 : j < fs.length) (hdg : decode cc pc = .ok (.putfield index, 3)) (hp : pc + 3 = pc')
    (kk : ∀ f', Keep f f' o → f' o = some (.inr (ci, fs.set j (.ref q))) → f' q = some X → AW p l e R s m args below meth c D vcl A nL Q f' k nn pc' lv st) : AW p l e R s m args below meth c D vcl A nL Q (va_up f q (some X)) k nn pc lv (.ref q :: .ref o :: st) := by
  have ne : o ≠ q := fun e => by rw [e, nq] at he; cases he
  refine a_put hc hK (fun w h => List.mem_cons_of_mem _ (hin w h)) ty0 hty hnm (by rw [va_up_ne _ _ ne]; exact he) hci j hj (hc.2.2.2.2 _ (List.mem_cons_of_mem _ hlink)) rfl (Or.inr hfin) hn hfit hl0 hdg hp (kk _ (fun a x h1 h2 => ?_) (va_up_self _ _ _) (by rw [va_up_ne _ _ ne.symm]; exact va_up_self _ _ _))
  rw [va_up_ne _ _ h1, va_up_ne _ _ (fun e => by rw [e, nq] at h2; cases h2)]
  exact h2
theorem n_puti (hc : CallFix p m c cc nL s args (c0 :: WS) own) (hK : va_K D vcl tys s) {C : String} {T : u_T} {N ci index o : Nat} (hin : ∀ w ∈ u_ws C T N, w ∈ WS) (ty0 : Nat → FieldType) (hty : ∀ k, k < N → parseFieldDescriptor (T k).2.2.1 = some (ty0 k)) (hnm : ∀ a, a < N → ∀ b, b < N → a ≠ b → (T a).2.1 ≠ (T b).2.1) (hci : vcl[ci]? = some (C, T, N)) {fs : List Value} (he : f o = some (.inr (ci, fs))) (j : Nat) (hj : j < N) (hlink : Cond.fieldLink own index (T j).1 (T j).2.1 (T j).2.2.1 ∈ WS) {v : Value} (hfin : (T j).2.2.2 = false ∨ ((T j).2.2.2 = true ∧ meth.name = "<init>" ∧ (T j).1 = own)) (hn : narrow (ty0 j) v = v) (hfit : fits (ty0 j) v = true) (hl0 : j < fs.length) (hdg : decode cc pc = .ok (.putfield index, 3)) (hp : pc + 3 = pc')
    (kk : ∀ f', Keep f f' o → f' o = some (.inr (ci, fs.set j v)) → AW p l e R s m args below meth c D vcl A nL Q f' k nn pc' lv st) : AW p l e R s m args below meth c D vcl A nL Q f k nn pc lv (v :: .ref o :: st) := by
  refine a_put hc hK (fun w h => List.mem_cons_of_mem _ (hin w h)) ty0 hty hnm he hci j hj (hc.2.2.2.2 _ (List.mem_cons_of_mem _ hlink)) rfl hfin hn hfit hl0 hdg hp (kk _ (fun a x h1 h2 => ?_) (va_up_self _ _ _))
  rw [va_up_ne _ _ h1]
  exact h2
/-- a world changed at one place, told by facts -/
theorem AW.at {a : Nat} {X : va_E} (kk : ∀ f', Keep f f' a → f' a = some X → AW p l e R s m args below meth c D vcl A nL Q f' k nn pc lv st) : AW p l e R s m args below meth c D vcl A nL Q (va_up f a (some X)) k nn pc lv st := kk _ (fun b x h1 h2 => by rw [va_up_ne _ _ h1]; exact h2) (va_up_self _ _ _)
end RAW
/-- roles: cl tells the cells by role, B their addresses, R the roles of addresses -/
def RF (f : Nat → Option va_E) (B R : Nat → Nat) (cl : Nat → Option va_E) : Prop := ∀ i x, cl i = some x → f (B i) = some x ∧ R (B i) = i
section RFS
variable {f f' : Nat → Option va_E} {B R : Nat → Nat} {cl : Nat → Option va_E} {r q : Nat} {X x0 : va_E}
theorem RF.add (H : RF f B R cl) (nq : f q = none) (h1 : ∀ a x, f a = some x → f' a = some x) (h2 : f' q = some X) (hr : cl r = none) : RF f' (va_up B r q) (va_up R q r) (va_up cl r (some X)) := by
  intro i x hi
  by_cases e : i = r
  · subst e
    rw [va_up_self] at hi ⊢
    cases hi
    exact ⟨h2, va_up_self _ _ _⟩
  · rw [va_up_ne _ _ e] at hi ⊢
    obtain ⟨g1, g2⟩ := H i x hi
    have ne : B i ≠ q := fun e2 => by rw [e2, nq] at g1; cases g1
    exact ⟨h1 _ _ g1, by rw [va_up_ne _ _ ne]; exact g2⟩
theorem RF.set (H : RF f B R cl) (h0 : cl r = some x0) (h1 : Keep f f' (B r)) (h2 : f' (B r) = some X) : RF f' B R (va_up cl r (some X)) := by
  intro i x hi
  obtain ⟨z1, z2⟩ := H r x0 h0
  by_cases e : i = r
  · subst e
    rw [va_up_self] at hi
    cases hi
    exact ⟨h2, z2⟩
  · rw [va_up_ne _ _ e] at hi
    obtain ⟨g1, g2⟩ := H i x hi
    refine ⟨h1 _ _ (fun e2 => e ?_) g1, g2⟩
    rw [← g2, e2, z2]
/-- something new, of role r, and the object of role s changed -/
theorem RF.addset {s : Nat} {Y : va_E} (H : RF f B R cl) (h0 : cl s = some x0) (nq : f q = none) (h1 : Keep f f' (B s)) (h2 : f' (B s) = some Y) (h3 : f' q = some X) (hr : cl r = none) : RF f' (va_up B r q) (va_up R q r) (va_up (va_up cl r (some X)) s (some Y)) := by
  intro i x hi
  obtain ⟨z1, z2⟩ := H s x0 h0
  have hrs : r ≠ s := fun e => by rw [e, h0] at hr; cases hr
  by_cases e1 : i = s
  · subst e1
    rw [va_up_self] at hi
    cases hi
    rw [va_up_ne _ _ (fun e => hrs e.symm)]
    have ne : B i ≠ q := fun e2 => by rw [e2, nq] at z1; cases z1
    exact ⟨h2, by rw [va_up_ne _ _ ne]; exact z2⟩
  · rw [va_up_ne _ _ e1] at hi
    by_cases e : i = r
    · subst e
      rw [va_up_self] at hi ⊢
      cases hi
      exact ⟨h3, va_up_self _ _ _⟩
    · rw [va_up_ne _ _ e] at hi ⊢
      obtain ⟨g1, g2⟩ := H i x hi
      have ne : B i ≠ q := fun e2 => by rw [e2, nq] at g1; cases g1
      refine ⟨h1 _ _ (fun e2 => e1 ?_) g1, by rw [va_up_ne _ _ ne]; exact g2⟩
      rw [← g2, e2, z2]
end RFS
/-- between two bounds -/
def clN (hi : Nat) (x : Int32) : Nat := if x < nI 2 then 2 else if nI hi < x then hi else x.toNatClampNeg
theorem clN_b {hi : Nat} (h2 : 2 ≤ hi) (h3 : hi < 2 ^ 31) (x : Int32) : 2 ≤ clN hi x ∧ clN hi x ≤ hi := by
  unfold clN
  split
  · omega
  · split
    · omega
    · rename_i h4 h5
      obtain ⟨j, j1, j2, rfl, j3⟩ := rg_of h3 (fun q => h4 (Int32.lt_of_lt_of_le q (by decide))) (Int32.not_lt.mp h5)
      rw [j3]
      refine ⟨?_, j2⟩
      exact Nat.not_lt.mp (fun q => h4 ((nI_ltI (by omega) (by decide)).mpr q))
theorem clN_lo {hi : Nat} {x : Int32} (h : x < nI 2) : nI (clN hi x) = nI 2 := by unfold clN; rw [if_pos h]
theorem clN_hi {hi : Nat} {x : Int32} (h : ¬ x < nI 2) (h2 : nI hi < x) : nI (clN hi x) = nI hi := by unfold clN; rw [if_neg h, if_pos h2]
theorem clN_in {hi : Nat} {x : Int32} (h : ¬ x < nI 2) (h2 : ¬ nI hi < x) : nI (clN hi x) = x := by
  unfold clN
  rw [if_neg h, if_neg h2]
  refine (nat_eq (fun q => h ?_)).symm
  exact Int32.lt_of_lt_of_le q (by decide)
