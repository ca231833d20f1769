/-! The class's world: its skeleton (object, disks, their arrays) is told by the reference's table, by the addresses of the copies
(κ 0 the present one, κ (1 + 3 d + k) a slot's) and by the marks tk; what is never changed once made lies in h. -/
def acI (τ : TS) : Int32 := if tb (τ 0 7) then τ 0 8 else -1
def cw_e (bx : Nat → Nat) (E : Nat) (τ : TS) (κ : Nat → Option Nat) : List Value := [.int (nI E), .ref (bx 1), .ref (bx 2), va_rf (κ 0), .int (τ 0 6), .int (τ 0 4), .int (bI (tb (τ 0 5))), .int (acI τ)]
def cw_d (bx : Nat → Nat) (τ : TS) (d : Nat) : List Value := [.ref (bx (4 + 4 * d)), .ref (bx (5 + 4 * d)), .ref (bx (6 + 4 * d)), .int (nI (wrN τ d % 3)), .int (bI (tb (τ 1 d)))]
def cw_n (n : Nat) (bx : Nat → Nat) : Nat → Option Nat := fun d => if d < n then some (bx (3 + 4 * d)) else none
def cw_z (E : Nat) (τ : TS) (d : Nat) : Nat → Int32 := fun i => if i < 4 * E then τ 2 (64 * d + i) else 0
def cw_k (κ : Nat → Option Nat) (d : Nat) : Nat → Option Nat := fun k => if k < 3 then κ (1 + 3 * d + k) else none
def cw_t (τ : TS) (d : Nat) : Nat → Int32 := fun k => if k < 3 then bI (decide (τ 4 (3 * d + k) = -11)) else 0
def cw_r (bx : Nat → Nat) (ca : Nat → ClassId) (E : Nat) (τ : TS) (κ : Nat → Option Nat) (d : Nat) : Nat → va_E
  | 0 => .inr (1, cw_d bx τ d)
  | 1 => .inl (ca 0, 4 * E, .inl (cw_z E τ d))
  | 2 => .inl (ca 3, 3, .inr (.inr (.inr (.inr (cw_k κ d)))))
  | _ => .inl (ca 1, 3, .inl (cw_t τ d))
def cw_c (bx : Nat → Nat) (ca : Nat → ClassId) (n E : Nat) (τ : TS) (κ : Nat → Option Nat) (tk : Nat → Int32) : Nat → va_E
  | 0 => .inr (4, cw_e bx E τ κ)
  | 1 => .inl (ca 2, n, .inr (.inr (.inr (.inr (cw_n n bx)))))
  | 2 => .inl (ca 0, n, .inl tk)
  | r + 3 => cw_r bx ca E τ κ (r / 4) (r % 4)
def cw (bx rl : Nat → Nat) (ca : Nat → ClassId) (n E : Nat) (τ : TS) (κ : Nat → Option Nat) (tk : Nat → Int32) (h : Nat → Option va_E) : Nat → Option va_E := fun a => if rl a < 3 + 4 * n ∧ bx (rl a) = a then some (cw_c bx ca n E τ κ tk (rl a)) else h a
def CX (bx rl : Nat → Nat) (ca : Nat → ClassId) (tys : List (ClassId × FieldType)) (n E : Nat) : Prop := (∀ i, i < 3 + 4 * n → rl (bx i) = i) ∧ (tys[0]? = some (ca 0, .int) ∧ tys[1]? = some (ca 1, .boolean) ∧ tys[2]? = some (ca 2, .object R_D) ∧ tys[3]? = some (ca 3, .object R_C) ∧ tys[4]? = some (ca 4, .object R_U)) ∧ (2 ≤ n ∧ n ≤ 5) ∧ 2 ≤ E ∧ E ≤ 10
def HD (bx : Nat → Nat) (n : Nat) (h : Nat → Option va_E) : Prop := ∀ r, r < 3 + 4 * n → h (bx r) = none
section CWS
variable {bx rl : Nat → Nat} {ca : Nat → ClassId} {n E : Nat} {τ τ' : TS} {κ κ' : Nat → Option Nat} {tk tk' : Nat → Int32} {h : Nat → Option va_E}
theorem cw_at (hx : ∀ i, i < 3 + 4 * n → rl (bx i) = i) {r : Nat} (hr : r < 3 + 4 * n) : cw bx rl ca n E τ κ tk h (bx r) = some (cw_c bx ca n E τ κ tk r) := by
  unfold cw
  rw [hx r hr, if_pos ⟨hr, rfl⟩]
theorem cw_h (hd : HD bx n h) {a : Nat} {x : va_E} (ha : h a = some x) : cw bx rl ca n E τ κ tk h a = some x := by
  unfold cw
  rw [if_neg, ha]
  intro q
  have := hd _ q.1
  rw [q.2, ha] at this
  cases this
theorem cw_up (hx : ∀ i, i < 3 + 4 * n → rl (bx i) = i) {r : Nat} (hr : r < 3 + 4 * n) {x : va_E} (hs : cw_c bx ca n E τ' κ' tk' r = x) (ho : ∀ j, j < 3 + 4 * n → j ≠ r → cw_c bx ca n E τ' κ' tk' j = cw_c bx ca n E τ κ tk j) : cw bx rl ca n E τ' κ' tk' h = va_up (cw bx rl ca n E τ κ tk h) (bx r) (some x) := by
  funext a
  by_cases h1 : a = bx r
  · subst h1
    rw [va_up_self, cw_at hx hr, hs]
  · rw [va_up_ne _ _ h1]
    unfold cw
    by_cases h2 : rl a < 3 + 4 * n ∧ bx (rl a) = a
    · rw [if_pos h2, if_pos h2, ho _ h2.1 (fun q => h1 (by rw [← h2.2, q]))]
    · rw [if_neg h2, if_neg h2]
theorem cw_uph {a : Nat} {x : va_E} (ha : ∀ r, r < 3 + 4 * n → bx r ≠ a) : cw bx rl ca n E τ κ tk (va_up h a (some x)) = va_up (cw bx rl ca n E τ κ tk h) a (some x) := by
  funext b
  by_cases h1 : b = a
  · subst h1
    rw [va_up_self]
    unfold cw
    rw [if_neg (fun q => ha _ q.1 q.2), va_up_self]
  · rw [va_up_ne _ _ h1]
    unfold cw
    by_cases h2 : rl b < 3 + 4 * n ∧ bx (rl b) = b
    · rw [if_pos h2, if_pos h2]
    · rw [if_neg h2, if_neg h2, va_up_ne _ _ h1]
theorem HD.off (hd : HD bx n h) {a : Nat} {x : va_E} (ha : h a = some x) : ∀ r, r < 3 + 4 * n → bx r ≠ a := fun r hr q => by
  have := hd r hr
  rw [q, ha] at this
  cases this
theorem cw_new (hx : ∀ i, i < 3 + 4 * n → rl (bx i) = i) {a : Nat} (ha : cw bx rl ca n E τ κ tk h a = none) : ∀ r, r < 3 + 4 * n → bx r ≠ a := fun r hr q => by
  subst q
  rw [cw_at hx hr] at ha
  cases ha
theorem HD.up (hd : HD bx n h) {a : Nat} {x : va_E} (ha : ∀ r, r < 3 + 4 * n → bx r ≠ a) : HD bx n (va_up h a (some x)) := fun r hr => by
  rw [va_up_ne _ _ (ha r hr)]
  exact hd r hr
theorem cw_none (hx : ∀ i, i < 3 + 4 * n → rl (bx i) = i) {a : Nat} (ha : cw bx rl ca n E τ κ tk h a = none) : h a = none := by
  unfold cw at ha
  split at ha
  · cases ha
  · exact ha
theorem cw_cd (r d : Nat) (hr : r < 4) : cw_c bx ca n E τ κ tk (3 + r + 4 * d) = cw_r bx ca E τ κ d r := by
  have e : 3 + r + 4 * d = (r + 4 * d) + 3 := by omega
  rw [e]
  show cw_r bx ca E τ κ ((r + 4 * d) / 4) ((r + 4 * d) % 4) = _
  have e1 : (r + 4 * d) / 4 = d := by omega
  have e2 : (r + 4 * d) % 4 = r := by omega
  rw [e1, e2]
end CWS
section CRS
variable {p : Program} {l : Launch} {e : Env} {R : Room} {s : State} {m : MethodId} {args : Array Value} {below : List Frame} {meth : Method} {c : Code} {D : va_G} {A : Nat → Prop} {nL : Nat} {Q : State → Prop}
variable {k nn pc pc' : Nat} {lv : List (Option Value)} {st : List Value} {cc : ByteArray} {c0 : Cond} {tys : List (ClassId × FieldType)} {bx rl : Nat → Nat} {ca : Nat → ClassId} {n E : Nat} {τ τ' : TS} {κ κ' : Nat → Option Nat} {tk : Nat → Int32} {h : Nat → Option va_E} {own : String}
theorem c_getE (hc : CallFix p m c cc nL s args (c0 :: WS) own) (hK : va_K D vcl tys s) (hx : CX bx rl ca tys n E) {index : Nat} (j : Nat) {v : Value} (hj : j < 8) (hv : (cw_e bx E τ κ)[j]? = some v) (hlink : Cond.fieldLink own index (T_E j).1 (T_E j).2.1 (T_E j).2.2.1 ∈ WS) (hdg : decode cc pc = .ok (.getfield index, 3)) (hp : pc + 3 = pc') (kk : AW p l e R s m args below meth c D vcl A nL Q (cw bx rl ca n E τ κ tk h) k nn pc' lv (v :: st)) : AW p l e R s m args below meth c D vcl A nL Q (cw bx rl ca n E τ κ tk h) k nn pc lv (.ref (bx 0) :: st) :=
  a_get hc hK (C := R_E) (T := T_E) (N := 8) (ci := 4) (fun w h => List.mem_cons_of_mem _ (in_E w h)) (cw_at hx.1 (by omega)) rfl j hj (hc.2.2.2.2 _ (List.mem_cons_of_mem _ hlink)) rfl hv hdg hp kk
theorem cw_z_eq (h2 : τ' 2 = τ 2) : cw_z E τ' = cw_z E τ := by
  funext d
  unfold cw_z
  rw [h2]
theorem cw_t_eq (h4 : τ' 4 = τ 4) : cw_t τ' = cw_t τ := by
  funext d
  unfold cw_t
  rw [h4]
theorem cw_d_eq (h1 : τ' 1 = τ 1) (h6 : τ' 6 = τ 6) : cw_d bx τ' = cw_d bx τ := by
  funext d
  unfold cw_d wrN
  rw [h1, h6]
theorem cw_others (hτ : τ' 1 = τ 1 ∧ τ' 2 = τ 2 ∧ τ' 4 = τ 4 ∧ τ' 6 = τ 6) (hκ : ∀ i, κ' (i + 1) = κ (i + 1)) : ∀ j, j ≠ 0 → cw_c bx ca n E τ' κ' tk j = cw_c bx ca n E τ κ tk j := by
  intro j hj
  match j, hj with
  | 1, _ => rfl
  | 2, _ => rfl
  | r + 3, _ =>
    have e0 : cw_d bx τ' (r / 4) = cw_d bx τ (r / 4) := by rw [cw_d_eq hτ.1 hτ.2.2.2]
    have e1 : cw_z E τ' (r / 4) = cw_z E τ (r / 4) := by rw [cw_z_eq hτ.2.1]
    have e2 : cw_k κ' (r / 4) = cw_k κ (r / 4) := by
      funext i
      have : 1 + 3 * (r / 4) + i = (3 * (r / 4) + i) + 1 := by omega
      unfold cw_k
      rw [this, hκ]
    have e3 : cw_t τ' (r / 4) = cw_t τ (r / 4) := by rw [cw_t_eq hτ.2.2.1]
    show cw_r bx ca E τ' κ' (r / 4) (r % 4) = cw_r bx ca E τ κ (r / 4) (r % 4)
    unfold cw_r
    rw [e0, e1, e2, e3]
theorem c_putE (hc : CallFix p m c cc nL s args (c0 :: WS) own) (hK : va_K D vcl tys s) (hx : CX bx rl ca tys n E) {index : Nat} (j : Nat) {v : Value} (hj : j < 8) (hs : cw_e bx E τ' κ' = (cw_e bx E τ κ).set j v) (hτ : τ' 1 = τ 1 ∧ τ' 2 = τ 2 ∧ τ' 4 = τ 4 ∧ τ' 6 = τ 6) (hκ : ∀ i, κ' (i + 1) = κ (i + 1)) (hfin : (T_E j).2.2.2 = false) (hn : narrow (ty_E j) v = v) (hfit : fits (ty_E j) v = true) (hlink : Cond.fieldLink own index (T_E j).1 (T_E j).2.1 (T_E j).2.2.1 ∈ WS) (hdg : decode cc pc = .ok (.putfield index, 3)) (hp : pc + 3 = pc') (kk : AW p l e R s m args below meth c D vcl A nL Q (cw bx rl ca n E τ' κ' tk h) k nn pc' lv st) : AW p l e R s m args below meth c D vcl A nL Q (cw bx rl ca n E τ κ tk h) k nn pc lv (v :: .ref (bx 0) :: st) := by
  refine a_put hc hK (C := R_E) (T := T_E) (N := 8) (ci := 4) (fs := cw_e bx E τ κ) (fun w h => List.mem_cons_of_mem _ (in_E w h)) ty_E ty_E_ok nm_E (cw_at hx.1 (by omega)) rfl j hj (hc.2.2.2.2 _ (List.mem_cons_of_mem _ hlink)) rfl (Or.inl hfin) hn hfit hj hdg hp (AW.to ?_ rfl rfl kk)
  exact cw_up hx.1 (by omega) (by show (Sum.inr (4, cw_e bx E τ' κ') : va_E) = _; rw [hs]) (fun j _ hj => cw_others hτ hκ j hj)
theorem c_ald (hc : CallFix p m c cc nL s args (c0 :: WS) own) (hK : va_K D vcl tys s) (hx : CX bx rl ca tys n E) (d : Nat) (hd : d < n) (hdg : decode cc pc = .ok (.aaload, 1)) (hp : pc + 1 = pc') (kk : AW p l e R s m args below meth c D vcl A nL Q (cw bx rl ca n E τ κ tk h) k nn pc' lv (.ref (bx (3 + 4 * d)) :: st)) : AW p l e R s m args below meth c D vcl A nL Q (cw bx rl ca n E τ κ tk h) k nn pc lv (.int (nI d) :: .ref (bx 1) :: st) := by
  obtain ⟨hn2, hn5⟩ := hx.2.2.1
  refine a_aald hc hK (N := n) (g := cw_n n bx) 2 (cw_at hx.1 (by omega)) hx.2.1.2.2.1 (vp_in_nI hd (by omega)) hdg hp ?_
  rw [nI_clamp (by omega), cw_n, if_pos hd]
  exact kk
theorem c_dlen (hc : CallFix p m c cc nL s args (c0 :: WS) own) (hK : va_K D vcl tys s) (hx : CX bx rl ca tys n E) (hdg : decode cc pc = .ok (.arraylength, 1)) (hp : pc + 1 = pc') (kk : AW p l e R s m args below meth c D vcl A nL Q (cw bx rl ca n E τ κ tk h) k nn pc' lv (.int (nI n) :: st)) : AW p l e R s m args below meth c D vcl A nL Q (cw bx rl ca n E τ κ tk h) k nn pc lv (.ref (bx 1) :: st) :=
  a_alen hc hK (x := (n, .inr (.inr (.inr (.inr (cw_n n bx)))))) 2 (cw_at hx.1 (by omega)) hx.2.1.2.2.1 hdg hp kk
theorem cw_d0 {d : Nat} (hx : CX bx rl ca tys n E) (hd : d < n) : cw bx rl ca n E τ κ tk h (bx (3 + 4 * d)) = some (.inr (1, cw_d bx τ d)) := (cw_at hx.1 (by omega)).trans (by rw [show 3 + 4 * d = 3 + 0 + 4 * d by omega, cw_cd 0 d (by decide)]; rfl)
theorem cw_d1 {d : Nat} (hx : CX bx rl ca tys n E) (hd : d < n) : cw bx rl ca n E τ κ tk h (bx (4 + 4 * d)) = some (.inl (ca 0, 4 * E, .inl (cw_z E τ d))) := (cw_at hx.1 (by omega)).trans (by rw [show 4 + 4 * d = 3 + 1 + 4 * d by omega, cw_cd 1 d (by decide)]; rfl)
theorem cw_d2 {d : Nat} (hx : CX bx rl ca tys n E) (hd : d < n) : cw bx rl ca n E τ κ tk h (bx (5 + 4 * d)) = some (.inl (ca 3, 3, .inr (.inr (.inr (.inr (cw_k κ d)))))) := (cw_at hx.1 (by omega)).trans (by rw [show 5 + 4 * d = 3 + 2 + 4 * d by omega, cw_cd 2 d (by decide)]; rfl)
theorem cw_d3 {d : Nat} (hx : CX bx rl ca tys n E) (hd : d < n) : cw bx rl ca n E τ κ tk h (bx (6 + 4 * d)) = some (.inl (ca 1, 3, .inl (cw_t τ d))) := (cw_at hx.1 (by omega)).trans (by rw [show 6 + 4 * d = 3 + 3 + 4 * d by omega, cw_cd 3 d (by decide)]; rfl)
theorem c_getD (hc : CallFix p m c cc nL s args (c0 :: WS) own) (hK : va_K D vcl tys s) (hx : CX bx rl ca tys n E) {index : Nat} (d j : Nat) {v : Value} (hd : d < n) (hj : j < 5) (hv : (cw_d bx τ d)[j]? = some v) (hlink : Cond.fieldLink own index (T_D j).1 (T_D j).2.1 (T_D j).2.2.1 ∈ WS) (hdg : decode cc pc = .ok (.getfield index, 3)) (hp : pc + 3 = pc') (kk : AW p l e R s m args below meth c D vcl A nL Q (cw bx rl ca n E τ κ tk h) k nn pc' lv (v :: st)) : AW p l e R s m args below meth c D vcl A nL Q (cw bx rl ca n E τ κ tk h) k nn pc lv (.ref (bx (3 + 4 * d)) :: st) :=
  a_get hc hK (C := R_D) (T := T_D) (N := 5) (ci := 1) (fun w h => List.mem_cons_of_mem _ (in_D w h)) (cw_d0 hx hd) rfl j hj (hc.2.2.2.2 _ (List.mem_cons_of_mem _ hlink)) rfl hv hdg hp kk
theorem c_getH (hc : CallFix p m c cc nL s args (c0 :: WS) own) (hK : va_K D vcl tys s) {index a ci N : Nat} {C : String} {T : u_T} {fs : List Value} (hin : ∀ w ∈ u_ws C T N, w ∈ WS) (hci : vcl[ci]? = some (C, T, N)) (hd : HD bx n h) (ha : h a = some (.inr (ci, fs))) (j : Nat) {v : Value} (hj : j < N) (hv : fs[j]? = some v) (hlink : Cond.fieldLink own index (T j).1 (T j).2.1 (T j).2.2.1 ∈ WS) (hdg : decode cc pc = .ok (.getfield index, 3)) (hp : pc + 3 = pc') (kk : AW p l e R s m args below meth c D vcl A nL Q (cw bx rl ca n E τ κ tk h) k nn pc' lv (v :: st)) : AW p l e R s m args below meth c D vcl A nL Q (cw bx rl ca n E τ κ tk h) k nn pc lv (.ref a :: st) :=
  a_get hc hK (fun w h => List.mem_cons_of_mem _ (hin w h)) (cw_h hd ha) hci j hj (hc.2.2.2.2 _ (List.mem_cons_of_mem _ hlink)) rfl hv hdg hp kk
theorem c_kald (hc : CallFix p m c cc nL s args (c0 :: WS) own) (hK : va_K D vcl tys s) (hx : CX bx rl ca tys n E) (d i : Nat) (hd : d < n) (hi : i < 3) (hdg : decode cc pc = .ok (.aaload, 1)) (hp : pc + 1 = pc') (kk : AW p l e R s m args below meth c D vcl A nL Q (cw bx rl ca n E τ κ tk h) k nn pc' lv (va_rf (κ (1 + 3 * d + i)) :: st)) : AW p l e R s m args below meth c D vcl A nL Q (cw bx rl ca n E τ κ tk h) k nn pc lv (.int (nI i) :: .ref (bx (5 + 4 * d)) :: st) := by
  refine a_aald hc hK (N := 3) (g := cw_k κ d) 3 (cw_d2 hx hd) hx.2.1.2.2.2.1 (vp_in_nI hi (by decide)) hdg hp ?_
  rw [nI_clamp (by omega), cw_k, if_pos hi]
  exact kk
theorem c_cald (hc : CallFix p m c cc nL s args (c0 :: WS) own) (hK : va_K D vcl tys s) (hx : CX bx rl ca tys n E) (d i : Nat) (hd : d < n) (hi : i < 4 * E) (hdg : decode cc pc = .ok (.iaload, 1)) (hp : pc + 1 = pc') (kk : AW p l e R s m args below meth c D vcl A nL Q (cw bx rl ca n E τ κ tk h) k nn pc' lv (.int (τ 2 (64 * d + i)) :: st)) : AW p l e R s m args below meth c D vcl A nL Q (cw bx rl ca n E τ κ tk h) k nn pc lv (.int (nI i) :: .ref (bx (4 + 4 * d)) :: st) := by
  obtain ⟨hE2, hE10⟩ := hx.2.2.2
  refine a_iald hc hK (N := 4 * E) (g := cw_z E τ d) 0 (cw_d1 hx hd) hx.2.1.1 (vp_in_nI hi (by omega)) hdg hp ?_
  rw [nI_clamp (by omega), cw_z, if_pos hi]
  exact kk
theorem c_tald (hc : CallFix p m c cc nL s args (c0 :: WS) own) (hK : va_K D vcl tys s) (hx : CX bx rl ca tys n E) (d i : Nat) (hd : d < n) (hi : i < 3) (hdg : decode cc pc = .ok (.baload, 1)) (hp : pc + 1 = pc') (kk : AW p l e R s m args below meth c D vcl A nL Q (cw bx rl ca n E τ κ tk h) k nn pc' lv (.int (bI (decide (τ 4 (3 * d + i) = -11))) :: st)) : AW p l e R s m args below meth c D vcl A nL Q (cw bx rl ca n E τ κ tk h) k nn pc lv (.int (nI i) :: .ref (bx (6 + 4 * d)) :: st) := by
  refine a_zald hc hK (N := 3) (g := cw_t τ d) 1 (cw_d3 hx hd) hx.2.1.2.1 (vp_in_nI hi (by decide)) hdg hp ?_
  rw [nI_clamp (by omega), cw_t, if_pos hi]
  exact kk
theorem c_mald (hc : CallFix p m c cc nL s args (c0 :: WS) own) (hK : va_K D vcl tys s) (hx : CX bx rl ca tys n E) (d : Nat) (hd : d < n) (hdg : decode cc pc = .ok (.iaload, 1)) (hp : pc + 1 = pc') (kk : AW p l e R s m args below meth c D vcl A nL Q (cw bx rl ca n E τ κ tk h) k nn pc' lv (.int (tk d) :: st)) : AW p l e R s m args below meth c D vcl A nL Q (cw bx rl ca n E τ κ tk h) k nn pc lv (.int (nI d) :: .ref (bx 2) :: st) := by
  obtain ⟨hn2, hn5⟩ := hx.2.2.1
  refine a_iald hc hK (N := n) (g := tk) 0 (cw_at hx.1 (by omega)) hx.2.1.1 (vp_in_nI hd (by omega)) hdg hp ?_
  rw [nI_clamp (by omega)]
  exact kk
end CRS
