/-! Rows that store into the class's skeleton, and rows over what is never changed. -/
section CRT
variable {p : Program} {l : Launch} {e : Env} {R : Room} {s : State} {m : MethodId} {args : Array Value} {below : List Frame} {meth : Method} {c : Code} {D : va_G} {A : Nat → Prop} {nL : Nat} {Q : State → Prop}
variable {k nn pc pc' : Nat} {lv : List (Option Value)} {st : List Value} {cc : ByteArray} {c0 : Cond} {tys : List (ClassId × FieldType)} {bx rl : Nat → Nat} {ca : Nat → ClassId} {n E : Nat} {τ τ' : TS} {κ κ' : Nat → Option Nat} {tk : Nat → Int32} {h : Nat → Option va_E} {own : String}
theorem cw_oth0 {d : Nat} (he : cw_e bx E τ' κ' = cw_e bx E τ κ) (hoth : ∀ d' r', r' < 4 → (d' ≠ d ∨ r' ≠ 0) → cw_r bx ca E τ' κ' d' r' = cw_r bx ca E τ κ d' r') : ∀ j, j < 3 + 4 * n → j ≠ 3 + 4 * d → cw_c bx ca n E τ' κ' tk j = cw_c bx ca n E τ κ tk j := by
  intro j hj hne
  match j, hj, hne with
  | 0, _, _ => show (Sum.inr (4, cw_e bx E τ' κ') : va_E) = _; rw [he]; rfl
  | 1, _, _ => rfl
  | 2, _, _ => rfl
  | q + 3, hj, hne => exact hoth (q / 4) (q % 4) (by omega) (by omega)
theorem cw_c0 (d : Nat) : cw_c bx ca n E τ κ tk (3 + 4 * d) = .inr (1, cw_d bx τ d) := by
  have h1 := cw_cd (bx := bx) (ca := ca) (n := n) (E := E) (τ := τ) (κ := κ) (tk := tk) 0 d (by decide)
  have e1 : 3 + 0 + 4 * d = 3 + 4 * d := by omega
  rw [e1] at h1
  exact h1
theorem cw_oth {d r : Nat} (hr : r < 4) (he : cw_e bx E τ' κ' = cw_e bx E τ κ) (hoth : ∀ d' r', r' < 4 → (d' ≠ d ∨ r' ≠ r) → cw_r bx ca E τ' κ' d' r' = cw_r bx ca E τ κ d' r') : ∀ j, j < 3 + 4 * n → j ≠ 3 + r + 4 * d → cw_c bx ca n E τ' κ' tk j = cw_c bx ca n E τ κ tk j := by
  intro j hj hne
  match j, hj, hne with
  | 0, _, _ => show (Sum.inr (4, cw_e bx E τ' κ') : va_E) = _; rw [he]; rfl
  | 1, _, _ => rfl
  | 2, _, _ => rfl
  | q + 3, hj, hne => exact hoth (q / 4) (q % 4) (by omega) (by omega)
theorem cw_r_of (h0 : cw_d bx τ' = cw_d bx τ) (h1 : cw_z E τ' = cw_z E τ) (h2 : cw_k κ' = cw_k κ) (h3 : cw_t τ' = cw_t τ) (d r : Nat) : cw_r bx ca E τ' κ' d r = cw_r bx ca E τ κ d r := by
  unfold cw_r
  rw [h0, h1, h2, h3]
/-- a cell of a disk -/
theorem c_cast (hc : CallFix p m c cc nL s args (c0 :: WS) own) (hK : va_K D vcl tys s) (hx : CX bx rl ca tys n E) (d i : Nat) {v : Int32} (hd : d < n) (hi : i < 4 * E) (hdg : decode cc pc = .ok (.iastore, 1)) (hp : pc + 1 = pc') (kk : AW p l e R s m args below meth c D vcl A nL Q (cw bx rl ca n E (ts τ 2 (64 * d + i) v) κ tk h) k nn pc' lv st) : AW p l e R s m args below meth c D vcl A nL Q (cw bx rl ca n E τ κ tk h) k nn pc lv (.int v :: .int (nI i) :: .ref (bx (4 + 4 * d)) :: st) := by
  obtain ⟨hE2, hE10⟩ := hx.2.2.2
  refine a_iast hc hK (N := 4 * E) (g := cw_z E τ d) 0 (cw_d1 hx hd) hx.2.1.1 (vp_in_nI hi (by omega)) hdg hp ?_
  rw [nI_clamp (by omega)]
  refine AW.to ?_ rfl rfl kk
  have e1 : 4 + 4 * d = 3 + 1 + 4 * d := by omega
  have hz : cw_z E (ts τ 2 (64 * d + i) v) d = upd (cw_z E τ d) i v := by
    funext j
    by_cases hj : j = i
    · subst hj
      rw [pk_us, cw_z, if_pos hi, ts_at]
    · rw [pk_un hj]
      unfold cw_z
      split
      · rw [ts_off (by omega)]
      · rfl
  rw [e1]
  refine cw_up hx.1 (by omega) (by rw [cw_cd 1 d (by decide)]; show (Sum.inl (ca 0, 4 * E, .inl (cw_z E (ts τ 2 (64 * d + i) v) d)) : va_E) = _; rw [hz]) (cw_oth (by decide) ?_ ?_)
  · simp only [cw_e, acI, ts_ne (show (0 : Nat) ≠ 2 by decide)]
  · intro d' r' hr' hne
    match r', hr', hne with
    | 0, _, _ => simp only [cw_r, cw_d_eq (bx := bx) (ts_ne (τ := τ) (show (1 : Nat) ≠ 2 by decide)) (ts_ne (τ := τ) (show (6 : Nat) ≠ 2 by decide))]
    | 1, _, hne =>
      have hz2 : cw_z E (ts τ 2 (64 * d + i) v) d' = cw_z E τ d' := by
        funext j
        unfold cw_z
        split
        · rw [ts_off (by omega)]
        · rfl
      simp only [cw_r, hz2]
    | 2, _, _ => rfl
    | 3, _, _ => simp only [cw_r, cw_t_eq (ts_ne (τ := τ) (show (4 : Nat) ≠ 2 by decide))]
/-- a slot of a disk -/
theorem c_kup {d i : Nat} {x : Option Nat} (hx : CX bx rl ca tys n E) (hd : d < n) (hi : i < 3) : cw bx rl ca n E τ (va_up κ (1 + 3 * d + i) x) tk h = va_up (cw bx rl ca n E τ κ tk h) (bx (5 + 4 * d)) (some (.inl (ca 3, 3, .inr (.inr (.inr (.inr (va_up (cw_k κ d) i x))))))) := by
  have e1 : 5 + 4 * d = 3 + 2 + 4 * d := by omega
  have hz : cw_k (va_up κ (1 + 3 * d + i) x) d = va_up (cw_k κ d) i x := by
    funext j
    by_cases hj : j = i
    · subst hj
      rw [va_up_self, cw_k, if_pos hi, va_up_self]
    · rw [va_up_ne _ _ hj]
      unfold cw_k
      split
      · rw [va_up_ne _ _ (by omega)]
      · rfl
  rw [e1]
  refine cw_up hx.1 (by omega) (by rw [cw_cd 2 d (by decide)]; show (Sum.inl (ca 3, 3, .inr (.inr (.inr (.inr (cw_k (va_up κ (1 + 3 * d + i) x) d))))) : va_E) = _; rw [hz]) (cw_oth (by decide) ?_ ?_)
  · simp only [cw_e, va_up_ne κ x (show (0 : Nat) ≠ 1 + 3 * d + i by omega)]
  · intro d' r' hr' hne
    match r', hr', hne with
    | 0, _, _ => rfl
    | 1, _, _ => rfl
    | 2, _, hne =>
      have hz2 : cw_k (va_up κ (1 + 3 * d + i) x) d' = cw_k κ d' := by
        funext j
        unfold cw_k
        split
        · rw [va_up_ne _ _ (by omega)]
        · rfl
      simp only [cw_r, hz2]
    | 3, _, _ => rfl
theorem c_kast (hc : CallFix p m c cc nL s args (c0 :: WS) own) (hK : va_K D vcl tys s) (hx : CX bx rl ca tys n E) (hh : HD bx n h) (d i : Nat) {a : Nat} {fs : List Value} (ha : h a = some (.inr (0, fs))) (hd : d < n) (hi : i < 3) (hdg : decode cc pc = .ok (.aastore, 1)) (hp : pc + 1 = pc') (kk : AW p l e R s m args below meth c D vcl A nL Q (cw bx rl ca n E τ (va_up κ (1 + 3 * d + i) (some a)) tk h) k nn pc' lv st) : AW p l e R s m args below meth c D vcl A nL Q (cw bx rl ca n E τ κ tk h) k nn pc lv (.ref a :: .int (nI i) :: .ref (bx (5 + 4 * d)) :: st) := by
  refine a_aast hc hK (N := 3) (g := cw_k κ d) (r := (R_C, T_C, 3)) 3 (cw_d2 hx hd) hx.2.1.2.2.2.1 (cw_h hh ha) rfl (vp_in_nI hi (by decide)) hdg hp ?_
  rw [nI_clamp (by omega)]
  exact AW.to (c_kup hx hd hi) rfl rfl kk
theorem c_kastN (hc : CallFix p m c cc nL s args (c0 :: WS) own) (hK : va_K D vcl tys s) (hx : CX bx rl ca tys n E) (d i : Nat) (hd : d < n) (hi : i < 3) (hdg : decode cc pc = .ok (.aastore, 1)) (hp : pc + 1 = pc') (kk : AW p l e R s m args below meth c D vcl A nL Q (cw bx rl ca n E τ (va_up κ (1 + 3 * d + i) none) tk h) k nn pc' lv st) : AW p l e R s m args below meth c D vcl A nL Q (cw bx rl ca n E τ κ tk h) k nn pc lv (.null :: .int (nI i) :: .ref (bx (5 + 4 * d)) :: st) := by
  refine a_aastN hc hK (N := 3) (g := cw_k κ d) 3 (cw_d2 hx hd) hx.2.1.2.2.2.1 (vp_in_nI hi (by decide)) hdg hp ?_
  rw [nI_clamp (by omega)]
  exact AW.to (c_kup hx hd hi) rfl rfl kk
/-- whether a slot is torn: any number that is, or isn't, TORN -/
theorem c_tast (hc : CallFix p m c cc nL s args (c0 :: WS) own) (hK : va_K D vcl tys s) (hx : CX bx rl ca tys n E) (d i : Nat) {x v : Int32} (hv : bI (decide (x = -11)) = v) (hd : d < n) (hi : i < 3) (hdg : decode cc pc = .ok (.bastore, 1)) (hp : pc + 1 = pc') (kk : AW p l e R s m args below meth c D vcl A nL Q (cw bx rl ca n E (ts τ 4 (3 * d + i) x) κ tk h) k nn pc' lv st) : AW p l e R s m args below meth c D vcl A nL Q (cw bx rl ca n E τ κ tk h) k nn pc lv (.int v :: .int (nI i) :: .ref (bx (6 + 4 * d)) :: st) := by
  subst hv
  refine a_zast hc hK (N := 3) (g := cw_t τ d) 1 (cw_d3 hx hd) hx.2.1.2.1 (bI_or _) (vp_in_nI hi (by decide)) hdg hp ?_
  rw [nI_clamp (by omega)]
  refine AW.to ?_ rfl rfl kk
  have e1 : 6 + 4 * d = 3 + 3 + 4 * d := by omega
  have hz : cw_t (ts τ 4 (3 * d + i) x) d = upd (cw_t τ d) i (bI (decide (x = -11))) := by
    funext j
    by_cases hj : j = i
    · subst hj
      rw [pk_us, cw_t, if_pos hi, ts_at]
    · rw [pk_un hj]
      unfold cw_t
      split
      · rw [ts_off (by omega)]
      · rfl
  rw [e1]
  refine cw_up hx.1 (by omega) (by rw [cw_cd 3 d (by decide)]; show (Sum.inl (ca 1, 3, .inl (cw_t (ts τ 4 (3 * d + i) x) d)) : va_E) = _; rw [hz]) (cw_oth (by decide) ?_ ?_)
  · simp only [cw_e, acI, ts_ne (show (0 : Nat) ≠ 4 by decide)]
  · intro d' r' hr' hne
    match r', hr', hne with
    | 0, _, _ => simp only [cw_r, cw_d_eq (bx := bx) (ts_ne (τ := τ) (show (1 : Nat) ≠ 4 by decide)) (ts_ne (τ := τ) (show (6 : Nat) ≠ 4 by decide))]
    | 1, _, _ => simp only [cw_r, cw_z_eq (E := E) (ts_ne (τ := τ) (show (2 : Nat) ≠ 4 by decide))]
    | 2, _, _ => rfl
    | 3, _, hne =>
      have hz2 : cw_t (ts τ 4 (3 * d + i) x) d' = cw_t τ d' := by
        funext j
        unfold cw_t
        split
        · rw [ts_off (by omega)]
        · rfl
      simp only [cw_r, hz2]
/-- a disk's own fields: the next slot (row 6), presence (row 1) -/
theorem cw_e_eq (h0 : τ' 0 = τ 0) : cw_e bx E τ' κ = cw_e bx E τ κ := by
  unfold cw_e acI
  rw [h0]
theorem cw_r0 (d' : Nat) : cw_r bx ca E τ κ d' 0 = .inr (1, cw_d bx τ d') := rfl
theorem cw_r1 (d' : Nat) : cw_r bx ca E τ κ d' 1 = .inl (ca 0, 4 * E, .inl (cw_z E τ d')) := rfl
theorem cw_r2 (d' : Nat) : cw_r bx ca E τ κ d' 2 = .inl (ca 3, 3, .inr (.inr (.inr (.inr (cw_k κ d'))))) := rfl
theorem cw_r3 (d' : Nat) : cw_r bx ca E τ κ d' 3 = .inl (ca 1, 3, .inl (cw_t τ d')) := rfl
theorem cw_q0 {d' : Nat} (h0 : cw_d bx τ' d' = cw_d bx τ d') : cw_r bx ca E τ' κ d' 0 = cw_r bx ca E τ κ d' 0 := by rw [cw_r0, cw_r0, h0]
theorem cw_q1 {d' : Nat} (h2 : cw_z E τ' d' = cw_z E τ d') : cw_r bx ca E τ' κ d' 1 = cw_r bx ca E τ κ d' 1 := by rw [cw_r1, cw_r1, h2]
theorem cw_q2 {d' : Nat} : cw_r bx ca E τ' κ d' 2 = cw_r bx ca E τ κ d' 2 := by rw [cw_r2, cw_r2]
theorem cw_q3 {d' : Nat} (h4 : cw_t τ' d' = cw_t τ d') : cw_r bx ca E τ' κ d' 3 = cw_r bx ca E τ κ d' 3 := by rw [cw_r3, cw_r3, h4]
theorem lt4 {r : Nat} (h : r < 4) : r = 0 ∨ r = 1 ∨ r = 2 ∨ r = 3 := by omega
theorem cw_putD1 {d : Nat} (ho : ∀ d', d' ≠ d → cw_d bx τ' d' = cw_d bx τ d') (h2 : τ' 2 = τ 2) (h4 : τ' 4 = τ 4) (d' r' : Nat) (hr' : r' < 4) (hne : d' ≠ d ∨ r' ≠ 0) : cw_r bx ca E τ' κ d' r' = cw_r bx ca E τ κ d' r' := by
  rcases lt4 hr' with rfl | rfl | rfl | rfl
  · exact cw_q0 (ho d' (hne.resolve_right (fun q => q rfl)))
  · exact cw_q1 (congrFun (cw_z_eq h2) d')
  · exact cw_q2
  · exact cw_q3 (congrFun (cw_t_eq h4) d')
theorem cw_putD {d j : Nat} {v : Value} (hx : CX bx rl ca tys n E) (hd : d < n) (hs : cw_d bx τ' d = (cw_d bx τ d).set j v) (ho : ∀ d', d' ≠ d → cw_d bx τ' d' = cw_d bx τ d') (hτ : τ' 0 = τ 0 ∧ τ' 2 = τ 2 ∧ τ' 4 = τ 4) : cw bx rl ca n E τ' κ tk h = va_up (cw bx rl ca n E τ κ tk h) (bx (3 + 4 * d)) (some (.inr (1, (cw_d bx τ d).set j v))) := by
  have hc := cw_c0 (bx := bx) (ca := ca) (n := n) (E := E) (τ := τ') (κ := κ) (tk := tk) d
  rw [hs] at hc
  exact cw_up hx.1 (by omega) hc (cw_oth0 (cw_e_eq hτ.1) (cw_putD1 ho hτ.2.1 hτ.2.2))
theorem c_putD (hc : CallFix p m c cc nL s args (c0 :: WS) own) (hK : va_K D vcl tys s) (hx : CX bx rl ca tys n E) {index : Nat} (d j : Nat) {v : Value} (hd : d < n) (hj : j < 5) (hs : cw_d bx τ' d = (cw_d bx τ d).set j v) (ho : ∀ d', d' ≠ d → cw_d bx τ' d' = cw_d bx τ d') (hτ : τ' 0 = τ 0 ∧ τ' 2 = τ 2 ∧ τ' 4 = τ 4) (hfin : (T_D j).2.2.2 = false) (hn : narrow (ty_D j) v = v) (hfit : fits (ty_D j) v = true) (hlink : Cond.fieldLink own index (T_D j).1 (T_D j).2.1 (T_D j).2.2.1 ∈ WS) (hdg : decode cc pc = .ok (.putfield index, 3)) (hp : pc + 3 = pc') (kk : AW p l e R s m args below meth c D vcl A nL Q (cw bx rl ca n E τ' κ tk h) k nn pc' lv st) : AW p l e R s m args below meth c D vcl A nL Q (cw bx rl ca n E τ κ tk h) k nn pc lv (v :: .ref (bx (3 + 4 * d)) :: st) :=
  a_put hc hK (C := R_D) (T := T_D) (N := 5) (ci := 1) (fs := cw_d bx τ d) (fun w h => List.mem_cons_of_mem _ (in_D w h)) ty_D ty_D_ok nm_D (cw_d0 hx hd) rfl j hj (hc.2.2.2.2 _ (List.mem_cons_of_mem _ hlink)) rfl (Or.inl hfin) hn hfit hj hdg hp (AW.to (cw_putD hx hd hs ho hτ) rfl rfl kk)
/-- a disk's marks -/
theorem c_mast (hc : CallFix p m c cc nL s args (c0 :: WS) own) (hK : va_K D vcl tys s) (hx : CX bx rl ca tys n E) (d : Nat) {v : Int32} (hd : d < n) (hdg : decode cc pc = .ok (.iastore, 1)) (hp : pc + 1 = pc') (kk : AW p l e R s m args below meth c D vcl A nL Q (cw bx rl ca n E τ κ (upd tk d v) h) k nn pc' lv st) : AW p l e R s m args below meth c D vcl A nL Q (cw bx rl ca n E τ κ tk h) k nn pc lv (.int v :: .int (nI d) :: .ref (bx 2) :: st) := by
  obtain ⟨hn2, hn5⟩ := hx.2.2.1
  refine a_iast hc hK (N := n) (g := tk) 0 (cw_at hx.1 (by omega)) hx.2.1.1 (vp_in_nI hd (by omega)) hdg hp ?_
  rw [nI_clamp (by omega)]
  refine AW.to ?_ rfl rfl kk
  refine cw_up hx.1 (by omega) rfl (fun j _ hj => ?_)
  match j, hj with
  | 0, _ => rfl
  | 1, _ => rfl
  | r + 3, _ => rfl
end CRT
