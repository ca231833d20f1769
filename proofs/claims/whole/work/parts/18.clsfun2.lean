/-! Marks of the places in use, as masks; rows for calls of static methods, and for marks. -/
def tkF (u : Nat → Bool) (E d : Nat) : Int32 := nI (mkL (fun e => u (16 * d + e)) E)
theorem tk_take {u : Nat → Bool} {E q : Nat} (hE : E ≤ 10) (hq : q % 16 < E) : upd (tkF u E) (q / 16) (tkF u E (q / 16) ||| nI 1 <<< (nI (q % 16) &&& 31)) = tkF (fun x => u x || decide (x = q)) E := by
  funext d
  by_cases hd : d = q / 16
  · subst hd
    rw [pk_us]
    unfold tkF
    rw [mk_or hq (by omega)]
    congr 1
    refine mkL_congr fun i hi => ?_
    have : decide (i = q % 16) = decide (16 * (q / 16) + i = q) := decide_eq_decide.mpr (by omega)
    rw [this]
  · rw [pk_un hd]
    unfold tkF
    congr 1
    refine mkL_congr fun i hi => ?_
    have : decide (16 * d + i = q) = false := decide_eq_false (by omega)
    show u (16 * d + i) = (u (16 * d + i) || decide (16 * d + i = q))
    rw [this, Bool.or_false]
def frU (u : Nat → Bool) (E d : Nat) : Nat := cntL E (fun e => !u (16 * d + e))
theorem frU_le (u : Nat → Bool) (E d : Nat) : frU u E d ≤ E := cntL_le _ _
theorem tk_cnt {u : Nat → Bool} {E d : Nat} (hE : E ≤ 10) : bcE (tkF u E d) = nI (cntL E (fun e => u (16 * d + e))) := by
  unfold tkF
  rw [bc_ok (Nat.lt_of_lt_of_le (mkL_lt _ E) (Nat.le_trans (Nat.pow_le_pow_right (by decide) hE) (by decide))), pc_mk hE]
def lfU (u : Nat → Bool) (E d : Nat) : Int32 := if fsL (fun e => !u (16 * d + e)) E < E then nI (16 * d + fsL (fun e => !u (16 * d + e)) E) else -1
theorem lfU_hit {u : Nat → Bool} {E d e : Nat} (h : ∀ j, j < e → (fun e => !u (16 * d + e)) j = false) (he : u (16 * d + e) = false) (hE : e < E) : nI (16 * d + e) = lfU u E d := by
  unfold lfU
  rw [fsL_hit (q := fun e => !u (16 * d + e)) (by show (!u (16 * d + e)) = true; rw [he]; rfl) h E hE, if_pos hE]
theorem lfU_miss {u : Nat → Bool} {E d : Nat} (h : ∀ j, j < E → (fun e => !u (16 * d + e)) j = false) : -1 = lfU u E d := by
  unfold lfU
  rw [fsL_miss h, if_neg (Nat.lt_irrefl _)]
theorem tk_bit {u : Nat → Bool} {E d e : Nat} (hE : E ≤ 10) (he : e < E) : (tkF u E d &&& nI 1 <<< (nI e &&& 31)) = 0 ↔ u (16 * d + e) = false := mk_and (q := fun e => u (16 * d + e)) he (by omega)
def mV (τ : TS) (mp q : Nat) : Nat → Bool
  | 0 => false
  | v + 1 => orA (mV τ mp q v) (exN τ mp v) (fun k => decide (q = gN τ mp (15 * v + 3 + k)))
theorem orA_b (b : Bool) : ∀ (n : Nat) (q : Nat → Bool), orA b n q = (b || orA false n q)
  | 0, q => by simp [orA]
  | n + 1, q => by rw [orA_s, orA_s, orA_b b n q, Bool.or_assoc]
theorem orA_congr {b : Bool} {n : Nat} {q r : Nat → Bool} (h : ∀ i, i < n → q i = r i) : orA b n q = orA b n r := by
  induction n with
  | zero => rfl
  | succ n ih => rw [orA_s, orA_s, ih (fun i hi => h i (by omega)), h n (by omega)]
theorem uL_mV {τ : TS} {mp q : Nat} (hw : WFm τ mp) (hq : q < 2 ^ 31) : ∀ v, v ≤ 4 → uL τ mp q v = (uL τ mp q 0 || mV τ mp q v)
  | 0, _ => by
    show _ = (_ || false)
    rw [Bool.or_false]
  | v + 1, hv => by
    have hx := hw.ex (v := v) (by omega)
    have h1 : ∀ i, i < exN τ mp v → qU τ mp q v i = decide (q = gN τ mp (15 * v + 3 + i)) := fun i hi => by
      unfold qU
      rw [hw.n (i := 15 * v + 3 + i) (by omega) (by omega)]
      refine decide_eq_decide.mpr ⟨fun h => ((nI_eq (gN_lt _ _ _) hq).mp h).symm, fun h => by rw [← h]⟩
    show orA (uL τ mp q v) (exN τ mp v) (qU τ mp q v) = (_ || orA (mV τ mp q v) (exN τ mp v) _)
    rw [orA_congr h1, orA_b, uL_mV hw hq v (by omega), orA_b (mV τ mp q v), Bool.or_assoc]
/-- the roomiest disk: (best, most) after d disks -/
def rmL (τ : TS) (u : Nat → Bool) (E : Nat) (P : Nat → Bool) : Nat → Option Nat × Nat
  | 0 => (none, 0)
  | d + 1 => if tb (τ 1 d) && (!P d && decide ((rmL τ u E P d).2 < frU u E d)) then (some d, frU u E d) else rmL τ u E P d
theorem rmL_le (τ : TS) (u : Nat → Bool) (E : Nat) (P : Nat → Bool) : ∀ d, (rmL τ u E P d).2 ≤ E
  | 0 => Nat.zero_le _
  | d + 1 => by
    unfold rmL
    split
    · exact frU_le _ _ _
    · exact rmL_le τ u E P d
theorem rmL_lt (τ : TS) (u : Nat → Bool) (E : Nat) (P : Nat → Bool) : ∀ d b, (rmL τ u E P d).1 = some b → b < d
  | 0, b, h => by simp [rmL] at h
  | d + 1, b, h => by
    unfold rmL at h
    split at h
    · cases h; omega
    · have := rmL_lt τ u E P d b h
      omega
def rmQ (τ : TS) (u : Nat → Bool) (n E : Nat) (P : Nat → Bool) : Option Nat := (rmL τ u E P n).1
/-- the disks that are picked, after i picks -/
def pkS (τ : TS) (u : Nat → Bool) (n E : Nat) : Nat → Nat → Bool
  | 0 => fun _ => false
  | i + 1 => fun d => pkS τ u n E i d || decide (rmQ τ u n E (pkS τ u n E i) = some d)
def qK (τ : TS) (u : Nat → Bool) (n E i : Nat) : Bool := (rmQ τ u n E (pkS τ u n E i)).isNone
def pkI (τ : TS) (u : Nat → Bool) (n E w : Nat) : Int32 := if fsL (qK τ u n E) w < w then nI 0 else nI (mkL (pkS τ u n E w) n)
theorem pk_stop {τ : TS} {u : Nat → Bool} {n E w i : Nat} (hG : ∀ j, j < i → qK τ u n E j = false) (hi : i < w) (h : rmQ τ u n E (pkS τ u n E i) = none) : nI 0 = pkI τ u n E w := by
  unfold pkI
  rw [fsL_hit (q := qK τ u n E) (by unfold qK; rw [h]; rfl) hG w hi, if_pos hi]
theorem pk_done {τ : TS} {u : Nat → Bool} {n E w : Nat} (hG : ∀ j, j < w → qK τ u n E j = false) : nI (mkL (pkS τ u n E w) n) = pkI τ u n E w := by
  unfold pkI
  rw [fsL_miss hG, if_neg (Nat.lt_irrefl _)]
theorem pk_s {τ : TS} {u : Nat → Bool} {n E i b : Nat} (h : rmQ τ u n E (pkS τ u n E i) = some b) (hb : b < n) (hn : n ≤ 31) : nI (mkL (pkS τ u n E (i + 1)) n) = nI (mkL (pkS τ u n E i) n) ||| nI 1 <<< (nI b &&& 31) := by
  rw [mk_or hb hn]
  congr 1
  refine mkL_congr fun d _ => ?_
  show (pkS τ u n E i d || decide (rmQ τ u n E (pkS τ u n E i) = some d)) = _
  rw [h]
  congr 1
  exact decide_eq_decide.mpr ⟨fun q => (Option.some.inj q).symm, fun q => by rw [q]⟩
section CST
variable {p : Program} {l : Launch} {e : Env} {R : Room} {s : State} {m : MethodId} {args : Array Value} {below : List Frame} {meth : Method} {c : Code} {D : va_G} {A : Nat → Prop} {nL : Nat} {Q : State → Prop}
variable {k nn pc pc' : Nat} {lv : List (Option Value)} {st : List Value} {cc : ByteArray} {c0 : Cond} {tys : List (ClassId × FieldType)} {own : String} {f f1 : Nat → Option va_E}
theorem c_calls (hc : CallFix p m c cc nL s args (c0 :: WS) own) (hK : va_K D vcl tys s) (hO : AO3 s) (hA : ∀ q : Nat, s.heap.size ≤ q → A q) {y : MethodName} {bytes : ByteArray} {maxL : Nat} {ret : Option FieldType} {k1 kR nA index : Nat} {C : String} (As rest : List Value) {x : Int32}
    (hM : CC l y bytes maxL ret k1 D tys A f As (some (.int x)) f1) (hml : (Cond.methodLink own index y ∈ WS ∧ Cond.code y bytes maxL ret ∈ WS ∧ Cond.initialized C ∈ WS) ∧ Cond.static y ∈ WS)
    (hd : y.cls = C ∧ y.cls ≠ "java/lang/invoke/MethodHandle" ∧ y.cls ≠ "java/lang/invoke/VarHandle" ∧ (parseMethodDescriptor y.desc).map (fun d => d.parameters.length) = some nA) (hR : k1 + 1 ≤ kR ∧ maxL ≤ 21) (hn : As.length = nA) (hst : st = As.reverse ++ rest) (hW : (rest.map fun v => v.category).sum ≤ 8) (hdg : decode cc pc = .ok (.invokestatic index, 3)) (hp : pc + 3 = pc')
    (kk : AW p l e (rk kR) s m args below meth c D vcl A nL Q f1 0 0 pc' lv (.int x :: rest)) : AW p l e (rk kR) s m args below meth c D vcl A nL Q f 0 0 pc lv st :=
  a_cS hc hK hO hA hM hml hd rfl rfl ⟨hR.1, by show 8 + (maxL + 11) + 40 * k1 ≤ 40 * kR; omega⟩ hn hst hW hdg hp ⟨Nat.le_refl _, Nat.le_refl _⟩ (fun v f' h => by obtain ⟨rfl, rfl⟩ := h; exact kk)
theorem AW.arri {a N : Nat} {cA : ClassId} {g g' : Nat → Int32} (ha : f a = some (.inl (cA, N, .inl g))) (hg : ∀ j, j < N → g' j = g j) (kk : AW p l e R s m args below meth c D vcl A nL Q (va_up f a (some (.inl (cA, N, .inl g')))) k nn pc lv st) : AW p l e R s m args below meth c D vcl A nL Q f k nn pc lv st := by
  intro H locs ls hf hd hS hl
  refine kk H locs ls (fun b x hb => ?_) (a_up_dom hd ha) hS hl
  by_cases hba : b = a
  · subst hba
    rw [va_up_self] at hb
    cases hb
    have h1 : H[b]? = some (vp_cell cA (N, .inl g)) := hf b _ ha
    show H[b]? = some (vp_cell cA (N, .inl g'))
    rw [h1, vp_cell_i, vp_cell_i]
    unfold arrV
    congr 3
    funext j
    show Value.int (g j.val) = Value.int (g' j.val)
    rw [hg j.val j.isLt]
  · rw [va_up_ne _ _ hba] at hb
    exact hf b x hb
variable {bx rl : Nat → Nat} {ca : Nat → ClassId} {n E : Nat} {τ : TS} {κ : Nat → Option Nat} {tk tk' : Nat → Int32} {h : Nat → Option va_E}
theorem cw_tk (hx : CX bx rl ca tys n E) : cw bx rl ca n E τ κ tk' h = va_up (cw bx rl ca n E τ κ tk h) (bx 2) (some (.inl (ca 0, n, .inl tk'))) := by
  refine cw_up hx.1 (by omega) rfl (fun j _ hj => ?_)
  match j, hj with
  | 0, _ => rfl
  | 1, _ => rfl
  | r + 3, _ => rfl
theorem c_tks (hx : CX bx rl ca tys n E) (hg : ∀ j, j < n → tk' j = tk j) (kk : AW p l e R s m args below meth c D vcl A nL Q (cw bx rl ca n E τ κ tk' h) k nn pc lv st) : AW p l e R s m args below meth c D vcl A nL Q (cw bx rl ca n E τ κ tk h) k nn pc lv st :=
  AW.arri (cw_at hx.1 (by omega)) hg (AW.to (cw_tk hx) rfl rfl kk)
theorem mkL_f : ∀ E, mkL (fun _ => false) E = 0
  | 0 => rfl
  | E + 1 => by unfold mkL; rw [mkL_f E]; rfl
/-- the marks are wiped -/
theorem c_fill (hc : CallFix p m c cc nL s args (c0 :: WS) own) (hK : va_K D vcl tys s) (hO : AO3 s) (hA : ∀ q : Nat, s.heap.size ≤ q → A q) (hx : CX bx rl ca tys n E) {index kR : Nat} (rest : List Value) (hml : (Cond.methodLink own index y_JA_fill ∈ WS ∧ Cond.code y_JA_fill c_JA_fill 4 none ∈ WS ∧ Cond.initialized R_JA ∈ WS) ∧ Cond.static y_JA_fill ∈ WS) (hR : 1 ≤ kR) (hW : (rest.map fun v => v.category).sum ≤ 8) (hdg : decode cc pc = .ok (.invokestatic index, 3)) (hp : pc + 3 = pc')
    (kk : AW p l e (rk kR) s m args below meth c D vcl A nL Q (cw bx rl ca n E τ κ (tkF (fun _ => false) E) h) 0 0 pc' lv rest) : AW p l e (rk kR) s m args below meth c D vcl A nL Q (cw bx rl ca n E τ κ tk h) 0 0 pc lv (.int (nI 0) :: .ref (bx 2) :: rest) := by
  obtain ⟨hn2, hn5⟩ := hx.2.2.1
  have hM := ct_JA_fill (l := l) (D := D) (tys := tys) (A := A) (f := cw bx rl ca n E τ κ tk h) (a := bx 2) (N := n) (g := tk) (v := nI 0) hx.2.1.1 (by omega) (cw_at hx.1 (by omega))
  refine a_cS (As := [.ref (bx 2), .int (nI 0)]) (rest := rest) hc hK hO hA hM hml hd_JA_fill rfl rfl ⟨hR, by show 8 + (4 + 11) + 40 * 0 ≤ 40 * kR; omega⟩ rfl rfl hW hdg hp ⟨Nat.le_refl _, Nat.le_refl _⟩ (fun v f' hq => ?_)
  obtain ⟨rfl, rfl⟩ := hq
  refine AW.to (cw_tk hx) rfl rfl (c_tks hx (fun j hj => ?_) kk)
  rw [if_pos hj]
  unfold tkF
  rw [mkL_f]
end CST
