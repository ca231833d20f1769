/-! Arrays and objects in the making. -/
def vwG (v : Int32) (o : Option Nat) (g : Nat → Option Nat) (i : Nat) : Nat → Option Nat := fun j => if j < i then (if nI j = v then o else g j) else none
theorem vwG_0 {v : Int32} {o : Option Nat} {g : Nat → Option Nat} : vwG v o g 0 = fun _ => none := by
  funext j
  unfold vwG
  rw [if_neg (by omega)]
theorem vwG_s {v : Int32} {o x : Option Nat} {g : Nat → Option Nat} {i : Nat} (hx : x = if nI i = v then o else g i) : vwG v o g (i + 1) = va_up (vwG v o g i) i x := by
  funext j
  by_cases hj : j = i
  · subst hj
    rw [va_up_self, hx]
    unfold vwG
    rw [if_pos (by omega)]
  · rw [va_up_ne _ _ hj]
    unfold vwG
    by_cases h2 : j < i
    · rw [if_pos h2, if_pos (by omega)]
    · rw [if_neg h2, if_neg (by omega)]
theorem vwG_4 {v : Int32} {o : Option Nat} {g : Nat → Option Nat} {j : Nat} (hj : j < 4) : vwG v o g 4 j = if nI j = v then o else g j := by
  unfold vwG
  rw [if_pos hj]
section CAV
variable {p : Program} {l : Launch} {e : Env} {R : Room} {s : State} {m : MethodId} {args : Array Value} {below : List Frame} {meth : Method} {c : Code} {D : va_G} {A : Nat → Prop} {nL : Nat} {Q : State → Prop}
variable {k nn pc pc' : Nat} {lv : List (Option Value)} {st : List Value} {cc : ByteArray} {c0 : Cond} {tys : List (ClassId × FieldType)} {bx rl : Nat → Nat} {ca : Nat → ClassId} {n E : Nat} {τ : TS} {κ : Nat → Option Nat} {tk : Nat → Int32} {h : Nat → Option va_E} {own : String}
theorem c_vst (hc : CallFix p m c cc nL s args (c0 :: WS) own) (hK : va_K D vcl tys s) (hx : CX bx rl ca tys n E) (hh : HD bx n h) {q : Nat} {g' : Nat → Option Nat} (ha : h q = some (.inl (ca 4, 4, .inr (.inr (.inr (.inr g')))))) (i : Nat) (hi : i < 4) {x : Option Nat} (hv : ∀ b, x = some b → ∃ fs, h b = some (.inr (3, fs))) (hdg : decode cc pc = .ok (.aastore, 1)) (hp : pc + 1 = pc') (kk : AW p l e R s m args below meth c D vcl A nL Q (cw bx rl ca n E τ κ tk (va_up h q (some (.inl (ca 4, 4, .inr (.inr (.inr (.inr (va_up g' i x)))))))) ) k nn pc' lv st) : AW p l e R s m args below meth c D vcl A nL Q (cw bx rl ca n E τ κ tk h) k nn pc lv (va_rf x :: .int (nI i) :: .ref q :: st) := by
  have hr := hh.off ha
  cases x with
  | none =>
    refine a_aastN hc hK (N := 4) (g := g') 4 (cw_h hh ha) hx.2.1.2.2.2.2 (vp_in_nI hi (by decide)) hdg hp ?_
    rw [nI_clamp (by omega)]
    exact AW.to (cw_uph hr) rfl rfl kk
  | some b =>
    obtain ⟨fs, hb⟩ := hv b rfl
    refine a_aast hc hK (N := 4) (g := g') (r := (R_U, T_U, 4)) 4 (cw_h hh ha) hx.2.1.2.2.2.2 (cw_h hh hb) rfl (vp_in_nI hi (by decide)) hdg hp ?_
    rw [nI_clamp (by omega)]
    exact AW.to (cw_uph hr) rfl rfl kk
/-- a place in an array of ints in the making -/
theorem c_pst (hc : CallFix p m c cc nL s args (c0 :: WS) own) (hK : va_K D vcl tys s) (hx : CX bx rl ca tys n E) (hh : HD bx n h) {q N : Nat} {g' : Nat → Int32} (ha : h q = some (.inl (ca 0, N, .inl g')) ∧ N < 2 ^ 31) (i : Nat) (hi : i < N) {x : Int32} (hdg : decode cc pc = .ok (.iastore, 1)) (hp : pc + 1 = pc') (kk : AW p l e R s m args below meth c D vcl A nL Q (cw bx rl ca n E τ κ tk (va_up h q (some (.inl (ca 0, N, .inl (upd g' i x)))))) k nn pc' lv st) : AW p l e R s m args below meth c D vcl A nL Q (cw bx rl ca n E τ κ tk h) k nn pc lv (.int x :: .int (nI i) :: .ref q :: st) := by
  refine a_iast hc hK (N := N) (g := g') 0 (cw_h hh ha.1) hx.2.1.1 (vp_in_nI hi ha.2) hdg hp ?_
  rw [nI_clamp (by have := ha.2; omega)]
  exact AW.to (cw_uph (hh.off ha.1)) rfl rfl kk
end CAV
theorem cat_q {As Bs : List Value} {o : Option Nat} (h1 : As.all (fun v => v.category == 1) = true) (h2 : Bs.all (fun v => v.category == 1) = true) : ∀ v ∈ As ++ va_rf o :: Bs, v.category = 1 := fun v hv => by
  rcases List.mem_append.mp hv with h | h
  · exact cat_all h1 v h
  · rcases List.mem_cons.mp h with rfl | h
    · cases o <;> rfl
    · exact cat_all h2 v h
def VolsAt (h : Nat → Option va_E) (g : Nat → Option Nat) : Prop := ∀ j, j < 4 → ∀ b, g j = some b → ∃ fs, h b = some (.inr (3, fs))
theorem VolsAt.ext {h h' : Nat → Option va_E} {g : Nat → Option Nat} (e : Ext h h') (hv : VolsAt h g) : VolsAt h' g := fun j hj b hb => by
  obtain ⟨fs, hq⟩ := hv j hj b hb
  exact ⟨fs, e _ _ hq⟩
theorem LyOk.vols {h : Nat → Option va_E} {ca : Nat → ClassId} {τ : TS} {mp q va : Nat} {mv : Option Nat} {g : Nat → Option Nat} (hv : LyOk h ca τ mp q va mv g) : VolsAt h g := fun j hj b hb => by
  rcases hv.2.2.1 j hj with ⟨h1, -⟩ | ⟨a, pl, P, h1, -, h3, -⟩
  · rw [hb] at h1; cases h1
  · rw [hb] at h1
    cases h1
    exact ⟨_, h3⟩
/-- what a method that makes something gives back: an object r in a world that has grown -/
def Grown (bx rl : Nat → Nat) (ca : Nat → ClassId) (n E : Nat) (τ : TS) (κ : Nat → Option Nat) (tk : Nat → Int32) (h : Nat → Option va_E) (f' : Nat → Option va_E) (h' : Nat → Option va_E) : Prop := f' = cw bx rl ca n E τ κ tk h' ∧ Ext h h' ∧ HD bx n h'
