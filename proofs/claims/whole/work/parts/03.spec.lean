/-! Numbers and small loops, and the reference's state as one table: row 0 its ints, rows 1 to 6 its arrays
(1 here, 2 cell, 3 maps, 4 slotNumber, 5 slotStamp, 6 written). Booleans are kept as ints, 0 is false. -/
abbrev TS : Type := Nat → Nat → Int32
def bI (b : Bool) : Int32 := if b then nI 1 else nI 0
theorem bI_or (b : Bool) : bI b = nI 0 ∨ bI b = nI 1 := by cases b <;> simp [bI]
theorem bI_t : bI true = nI 1 := rfl
theorem bI_f : bI false = nI 0 := rfl
theorem bI_eq0 (b : Bool) : bI b = 0 ↔ b = false := by cases b <;> decide
def tb (x : Int32) : Bool := x != 0
theorem tb_bI (b : Bool) : tb (bI b) = b := by cases b <;> decide
theorem bI_tb {x : Int32} (h : x = nI 0 ∨ x = nI 1) : bI (tb x) = x := by rcases h with h | h <;> subst h <;> decide
def ts (τ : TS) (i j : Nat) (x : Int32) : TS := va_up τ i (upd (τ i) j x)
theorem ts_ne {τ : TS} {i j k : Nat} {x : Int32} (h : k ≠ i) : ts τ i j x k = τ k := va_up_ne _ _ h
theorem ts_row {τ : TS} {i j : Nat} {x : Int32} : ts τ i j x i = upd (τ i) j x := va_up_self _ _ _
theorem ts_at {τ : TS} {i j : Nat} {x : Int32} : ts τ i j x i j = x := by rw [ts_row]; simp [upd]
theorem ts_off {τ : TS} {i j k : Nat} {x : Int32} (h : k ≠ j) : ts τ i j x i k = τ i k := by rw [ts_row]; simp [upd, h]
theorem va_up_id {α : Type} (g : Nat → α) (j : Nat) : va_up g j (g j) = g := by
  funext k
  by_cases h : k = j
  · subst h; rw [va_up_self]
  · rw [va_up_ne _ _ h]
theorem va_up_up {α : Type} (g : Nat → α) (j : Nat) (x y : α) : va_up (va_up g j x) j y = va_up g j y := by
  funext k
  by_cases h : k = j
  · subst h; rw [va_up_self, va_up_self]
  · rw [va_up_ne _ _ h, va_up_ne _ _ h, va_up_ne _ _ h]
def orA (b : Bool) : Nat → (Nat → Bool) → Bool
  | 0, _ => b
  | n + 1, q => orA b n q || q n
theorem orA_0 (b : Bool) (q : Nat → Bool) : orA b 0 q = b := rfl
theorem orA_s (b : Bool) (n : Nat) (q : Nat → Bool) : orA b (n + 1) q = (orA b n q || q n) := rfl
def cntL : Nat → (Nat → Bool) → Nat
  | 0, _ => 0
  | n + 1, q => cntL n q + (if q n then 1 else 0)
theorem cntL_le : ∀ (n : Nat) (q : Nat → Bool), cntL n q ≤ n
  | 0, _ => Nat.le_refl _
  | n + 1, q => by
    have h := cntL_le n q
    show cntL n q + (if q n then 1 else 0) ≤ n + 1
    split <;> omega
theorem cntL_0 (q : Nat → Bool) : cntL 0 q = 0 := rfl
theorem cntL_s (n : Nat) (q : Nat → Bool) : cntL (n + 1) q = cntL n q + (if q n then 1 else 0) := rfl
theorem cntL_congr {n : Nat} {q r : Nat → Bool} (h : ∀ i, i < n → q i = r i) : cntL n q = cntL n r := by
  induction n with
  | zero => rfl
  | succ n ih => rw [cntL_s, cntL_s, ih (fun i hi => h i (by omega)), h n (by omega)]
theorem orA_iff (b : Bool) : ∀ (n : Nat) (q : Nat → Bool), orA b n q = true ↔ b = true ∨ ∃ i, i < n ∧ q i = true
  | 0, q => by simp [orA]
  | n + 1, q => by
    rw [orA_s, Bool.or_eq_true, orA_iff b n q]
    constructor
    · rintro ((h | ⟨i, hi, h⟩) | h)
      · exact Or.inl h
      · exact Or.inr ⟨i, by omega, h⟩
      · exact Or.inr ⟨n, by omega, h⟩
    · rintro (h | ⟨i, hi, h⟩)
      · exact Or.inl (Or.inl h)
      · by_cases e : i = n
        · subst e; exact Or.inr h
        · exact Or.inl (Or.inr ⟨i, by omega, h⟩)
/-- the least number under n with q, or n -/
def fsL (q : Nat → Bool) : Nat → Nat
  | 0 => 0
  | n + 1 => if fsL q n < n then fsL q n else if q n then n else n + 1
theorem fsL_le (q : Nat → Bool) : ∀ n, fsL q n ≤ n
  | 0 => Nat.le_refl _
  | n + 1 => by
    have h := fsL_le q n
    show (if fsL q n < n then fsL q n else if q n then n else n + 1) ≤ n + 1
    split
    · omega
    · split <;> omega
theorem fsL_miss {q : Nat → Bool} : ∀ {n : Nat}, (∀ j, j < n → q j = false) → fsL q n = n
  | 0, _ => rfl
  | n + 1, h => by
    show (if fsL q n < n then fsL q n else if q n then n else n + 1) = n + 1
    have hz := fsL_miss (q := q) (n := n) (fun j hj => h j (by omega))
    rw [hz, if_neg (by omega), if_neg (by rw [h n (by omega)]; decide)]
theorem fsL_hit {q : Nat → Bool} {k : Nat} (hk : q k = true) (hb : ∀ j, j < k → q j = false) : ∀ n, k < n → fsL q n = k
  | 0, h => absurd h (by omega)
  | n + 1, h => by
    show (if fsL q n < n then fsL q n else if q n then n else n + 1) = k
    by_cases hkn : k = n
    · subst hkn
      rw [fsL_miss hb, if_neg (by omega), if_pos hk]
    · rw [fsL_hit hk hb n (by omega), if_pos (by omega)]
theorem allf_s {q : Nat → Bool} {e : Nat} (h : ∀ j, j < e → q j = false) (he : q e = false) : ∀ j, j < e + 1 → q j = false := fun j hj => by
  by_cases e1 : j = e
  · subst e1; exact he
  · exact h j (by omega)
/-! walks: joins, loops, places told otherwise -/
def lvmask : List Bool → List (Option Value) → List (Option Value)
  | b :: bs, v :: vs => (if b then v else none) :: lvmask bs vs
  | _, _ => []
theorem lvmask_in : ∀ (m : List Bool) (lv : List (Option Value)) (j : Nat) (v : Value), (lvmask m lv)[j]? = some (some v) → lv[j]? = some (some v)
  | [], lv, j, v, h => by simp [lvmask] at h
  | b :: bs, [], j, v, h => by simp [lvmask] at h
  | b :: bs, x :: xs, 0, v, h => by
    unfold lvmask at h
    rw [List.getElem?_cons_zero] at h ⊢
    cases b with
    | true => exact h
    | false => simp at h
  | b :: bs, x :: xs, j + 1, v, h => by
    unfold lvmask at h
    rw [List.getElem?_cons_succ] at h ⊢
    exact lvmask_in bs xs j v h
section AWB
variable {p : Program} {l : Launch} {e : Env} {R : Room} {s : State} {m : MethodId} {args : Array Value} {below : List Frame} {meth : Method} {c : Code} {D : va_G} {cl : List vw_C} {A : Nat → Prop} {nL : Nat} {Q : State → Prop}
variable {f : Nat → Option va_E} {k n pc pc' : Nat} {lv : List (Option Value)} {st : List Value} {cc : ByteArray} {Ts : List Cond} {own : String} {tys : List (ClassId × FieldType)}
theorem AW.cut {f1 : Nat → Option va_E} {pc1 : Nat} {lv1 : List (Option Value)} {st1 : List Value} (h : AW p l e R s m args below meth c D cl A nL Q f1 k n pc1 lv1 st1) (kk : AW p l e R s m args below meth c D cl A nL Q f1 k n pc1 lv1 st1 → AW p l e R s m args below meth c D cl A nL Q f k n pc lv st) : AW p l e R s m args below meth c D cl A nL Q f k n pc lv st := kk h
theorem AW.cutP {P : Prop} {f1 : Nat → Option va_E} {pc1 : Nat} {lv1 : List (Option Value)} {st1 : List Value} (h : P → AW p l e R s m args below meth c D cl A nL Q f1 k n pc1 lv1 st1) (kk : (P → AW p l e R s m args below meth c D cl A nL Q f1 k n pc1 lv1 st1) → AW p l e R s m args below meth c D cl A nL Q f k n pc lv st) : AW p l e R s m args below meth c D cl A nL Q f k n pc lv st := kk h
theorem AW.mask (ms : List Bool) (kk : AW p l e R s m args below meth c D cl A nL Q f k n pc (lvmask ms lv) st) : AW p l e R s m args below meth c D cl A nL Q f k n pc lv st := fun H locs ls hf hd hS hl => kk H locs ls hf hd hS ⟨hl.1, hl.2.1, fun j v hj => hl.2.2 j v (lvmask_in ms lv j v hj)⟩
theorem AW.lvi (j : Nat) {x y : Int32} (hx : lv[j]? = some (some (.int x))) (h : y = x) (kk : AW p l e R s m args below meth c D cl A nL Q f k n pc (lv.set j (some (.int y))) st) : AW p l e R s m args below meth c D cl A nL Q f k n pc lv st := by
  subst h
  refine AW.to rfl ?_ rfl kk
  have hj : j < lv.length := (List.getElem?_eq_some_iff.mp hx).1
  refine List.ext_getElem? fun i => ?_
  rw [List.getElem?_set]
  by_cases e1 : j = i
  · subst e1
    rw [if_pos rfl, if_pos hj, hx]
  · rw [if_neg e1]
theorem AW.loop (N i0 : Nat) (F : Nat → Nat → Option va_E) (LV : Nat → List (Option Value)) (hi : i0 ≤ N) (hf : F i0 = f) (hlv : LV i0 = lv) (body : ∀ i, i ≤ N → (i < N → AW p l e R s m args below meth c D cl A nL Q (F (i + 1)) k n pc (LV (i + 1)) st) → AW p l e R s m args below meth c D cl A nL Q (F i) k n pc (LV i) st) : AW p l e R s m args below meth c D cl A nL Q f k n pc lv st := by
  subst hf
  subst hlv
  exact up_loop N (P := fun i => AW p l e R s m args below meth c D cl A nL Q (F i) k n pc (LV i) st) body i0 hi
theorem AW.loopG (N i0 : Nat) (F : Nat → Nat → Option va_E) (LV : Nat → List (Option Value)) (G : Nat → Prop) (hi : i0 ≤ N) (hG : G i0) (hf : F i0 = f) (hlv : LV i0 = lv) (body : ∀ i, i ≤ N → G i → (i < N → G (i + 1) → AW p l e R s m args below meth c D cl A nL Q (F (i + 1)) k n pc (LV (i + 1)) st) → AW p l e R s m args below meth c D cl A nL Q (F i) k n pc (LV i) st) : AW p l e R s m args below meth c D cl A nL Q f k n pc lv st := by
  subst hf
  subst hlv
  exact up_loop N (P := fun i => G i → AW p l e R s m args below meth c D cl A nL Q (F i) k n pc (LV i) st) (fun i hi ih hg => body i hi hg (fun hl hg' => ih hl hg')) i0 hi hG
theorem a_ifb_eq (hc : CallFix p m c cc nL s args Ts own) {b : Bool} {off : Int} {tgt : Nat} (hdg : decode cc pc = .ok (.ifCond .eq off, 3)) (ht : (pc : Int) + off = (tgt : Int)) (hp : pc + 3 = pc') (kt : b = false → AW p l e R s m args below meth c D cl A nL Q f k n tgt lv st) (kf : b = true → AW p l e R s m args below meth c D cl A nL Q f k n pc' lv st) : AW p l e R s m args below meth c D cl A nL Q f k n pc lv (.int (bI b) :: st) :=
  a_if_eq hc hdg ht hp (fun h => kt ((bI_eq0 b).mp h)) (fun h => kf (by cases b with | false => exact absurd ((bI_eq0 false).mpr rfl) h | true => rfl))
theorem a_ifb_ne (hc : CallFix p m c cc nL s args Ts own) {b : Bool} {off : Int} {tgt : Nat} (hdg : decode cc pc = .ok (.ifCond .ne off, 3)) (ht : (pc : Int) + off = (tgt : Int)) (hp : pc + 3 = pc') (kt : b = true → AW p l e R s m args below meth c D cl A nL Q f k n tgt lv st) (kf : b = false → AW p l e R s m args below meth c D cl A nL Q f k n pc' lv st) : AW p l e R s m args below meth c D cl A nL Q f k n pc lv (.int (bI b) :: st) :=
  a_if_ne hc hdg ht hp (fun h => kt (by cases b with | false => exact absurd ((bI_eq0 false).mpr rfl) h | true => rfl)) (fun h => kf ((bI_eq0 b).mp h))
theorem nI_eq0 {a : Nat} (ha : a < 2 ^ 31) : nI a = 0 ↔ a = 0 := by rw [← nI_0, nI_eq ha (by omega)]
theorem a_ifn_eq (hc : CallFix p m c cc nL s args Ts own) {a : Nat} {off : Int} {tgt : Nat} (hdg : decode cc pc = .ok (.ifCond .eq off, 3)) (ht : (pc : Int) + off = (tgt : Int)) (hp : pc + 3 = pc') (ha : a < 2 ^ 31) (kt : a = 0 → AW p l e R s m args below meth c D cl A nL Q f k n tgt lv st) (kf : 0 < a → AW p l e R s m args below meth c D cl A nL Q f k n pc' lv st) : AW p l e R s m args below meth c D cl A nL Q f k n pc lv (.int (nI a) :: st) :=
  a_if_eq hc hdg ht hp (fun h => kt ((nI_eq0 ha).mp h)) (fun h => kf (Nat.pos_of_ne_zero (fun q => h ((nI_eq0 ha).mpr q))))
theorem a_ifn_ne (hc : CallFix p m c cc nL s args Ts own) {a : Nat} {off : Int} {tgt : Nat} (hdg : decode cc pc = .ok (.ifCond .ne off, 3)) (ht : (pc : Int) + off = (tgt : Int)) (hp : pc + 3 = pc') (ha : a < 2 ^ 31) (kt : 0 < a → AW p l e R s m args below meth c D cl A nL Q f k n tgt lv st) (kf : a = 0 → AW p l e R s m args below meth c D cl A nL Q f k n pc' lv st) : AW p l e R s m args below meth c D cl A nL Q f k n pc lv (.int (nI a) :: st) :=
  a_if_ne hc hdg ht hp (fun h => kt (Nat.pos_of_ne_zero (fun q => h ((nI_eq0 ha).mpr q)))) (fun h => kf ((nI_eq0 ha).mp h))
theorem a_ifn_le (hc : CallFix p m c cc nL s args Ts own) {a : Nat} {off : Int} {tgt : Nat} (hdg : decode cc pc = .ok (.ifCond .le off, 3)) (ht : (pc : Int) + off = (tgt : Int)) (hp : pc + 3 = pc') (ha : a < 2 ^ 31) (kt : a = 0 → AW p l e R s m args below meth c D cl A nL Q f k n tgt lv st) (kf : 0 < a → AW p l e R s m args below meth c D cl A nL Q f k n pc' lv st) : AW p l e R s m args below meth c D cl A nL Q f k n pc lv (.int (nI a) :: st) :=
  a_if_le hc hdg ht hp (fun h => kt (by have := (nI_leI (b := 0) ha (by omega)).mp (by rw [nI_0]; exact h); omega)) (fun h => kf (Nat.pos_of_ne_zero (fun q => h (by rw [q, ← nI_0]; exact nI_le (Nat.le_refl _) (by omega)))))
theorem a_ifn_lt (hc : CallFix p m c cc nL s args Ts own) {a : Nat} {off : Int} {tgt : Nat} (hdg : decode cc pc = .ok (.ifCond .lt off, 3)) (ht : (pc : Int) + off = (tgt : Int)) (hp : pc + 3 = pc') (ha : a < 2 ^ 31) (kt : a < 0 → AW p l e R s m args below meth c D cl A nL Q f k n tgt lv st) (kf : 0 ≤ a → AW p l e R s m args below meth c D cl A nL Q f k n pc' lv st) : AW p l e R s m args below meth c D cl A nL Q f k n pc lv (.int (nI a) :: st) :=
  a_if_lt hc hdg ht hp (fun h => absurd h (nI_pos ha)) (fun _ => kf (Nat.zero_le _))
theorem a_ifn_ge (hc : CallFix p m c cc nL s args Ts own) {a : Nat} {off : Int} {tgt : Nat} (hdg : decode cc pc = .ok (.ifCond .ge off, 3)) (ht : (pc : Int) + off = (tgt : Int)) (hp : pc + 3 = pc') (ha : a < 2 ^ 31) (kt : 0 ≤ a → AW p l e R s m args below meth c D cl A nL Q f k n tgt lv st) (kf : a < 0 → AW p l e R s m args below meth c D cl A nL Q f k n pc' lv st) : AW p l e R s m args below meth c D cl A nL Q f k n pc lv (.int (nI a) :: st) :=
  a_if_ge hc hdg ht hp (fun _ => kt (Nat.zero_le _)) (fun h => absurd (nI_pos' ha) h)
theorem cat_all {av : List Value} (h : av.all (fun v => v.category == 1) = true) : ∀ v ∈ av, v.category = 1 := fun v hv => by simpa using List.all_eq_true.mp h v hv
/-- a call of an instance's method, its words out of WS -/
theorem a_cV {c0 : Cond} (hc : CallFix p m c cc nL s args (c0 :: WS) own) (hK : va_K D cl tys s) (hO : AO3 s) (hA : ∀ q : Nat, s.heap.size ≤ q → A q) {y : MethodName} {bytes : ByteArray} {maxL : Nat} {ret : Option FieldType} {rm : Room} {mc ms nA index ci b : Nat} {C : String} {r : vw_C} {fs As rest : List Value} {post : Option Value → (Nat → Option va_E) → Prop}
    (hM : CT l y (Cond.code y bytes maxL ret :: WS) rm D cl tys A f (.ref b :: As) post mc ms) (hml : (Cond.methodLink own index y ∈ WS ∧ Cond.code y bytes maxL ret ∈ WS ∧ Cond.initialized C ∈ WS) ∧ Cond.instanceMethod y ∈ WS ∧ Cond.selects C y y ∈ WS)
    (hd : y.cls = C ∧ y.cls ≠ "java/lang/invoke/MethodHandle" ∧ y.cls ≠ "java/lang/invoke/VarHandle" ∧ (parseMethodDescriptor y.desc).map (fun d => d.parameters.length) = some nA) (hrc : rm.cells = mc) (hrs : rm.slots = ms) (hR : rm.frames + 1 ≤ R.frames ∧ 8 + (maxL + 11) + rm.locals ≤ R.locals)
    (he : f b = some (.inr (ci, fs))) (hci : cl[ci]? = some r) (hC : r.1 = C) (hn : As.length = nA) (hst : st = As.reverse ++ .ref b :: rest) (hW : (rest.map fun v => v.category).sum ≤ 8) (hdg : decode cc pc = .ok (.invokevirtual index, 3)) (hp : pc + 3 = pc') (hf0 : k + mc ≤ R.cells ∧ n + ms ≤ R.slots)
    (kk : ∀ (v : Option Value) (f' : Nat → Option va_E), post v f' → AW p l e R s m args below meth c D cl A nL Q f' (k + mc) (n + ms) pc' lv (v.toList ++ rest)) : AW p l e R s m args below meth c D cl A nL Q f k n pc lv st := by
  have ok : ∀ {w : Cond}, w ∈ WS → w.before args s = true := fun h => hc.2.2.2.2 _ (List.mem_cons_of_mem _ h)
  refine a_callV hc hK hO hA hM ⟨callB_of nA hc.2.2.2.2 (ws_in hml.1.2.1) rfl hrc hrs ?_ (ok hml.1.1) hd.2 hR, ok hml.2.1, ok hml.2.2⟩ he hci hC hn hst hW hdg hp hf0 kk
  rw [hd.1]
  exact ok hml.1.2.2
end AWB
/-! the reference's world -/
def rk (k : Nat) : Room := { frames := k, cells := 0, slots := 0, locals := 40 * k }
def tw_f (ax : Nat → Nat) (n E : Nat) (τ : TS) : List Value := [.int (nI n), .int (nI E), .ref (ax 1), .ref (ax 2), .ref (ax 3), .ref (ax 4), .ref (ax 5), .ref (ax 6), .int (τ 0 2), .int (τ 0 3), .int (τ 0 4), .int (bI (tb (τ 0 5))), .int (τ 0 6), .int (bI (tb (τ 0 7))), .int (τ 0 8)]
def rowN : Nat → Nat
  | 2 => 320
  | 3 => 1088
  | 4 => 15
  | 5 => 15
  | _ => 5
def tw_c (ax : Nat → Nat) (ca : Nat → ClassId) (n E : Nat) (τ : TS) : Nat → va_E
  | 0 => .inr (6, tw_f ax n E τ)
  | 1 => .inl (ca 1, 5, .inl (fun d => bI (tb (τ 1 d))))
  | i + 2 => .inl (ca 0, rowN (i + 2), .inl (τ (i + 2)))
def tw (ax rl : Nat → Nat) (ca : Nat → ClassId) (n E : Nat) (τ : TS) : Nat → Option va_E := fun a => if rl a < 7 ∧ ax (rl a) = a then some (tw_c ax ca n E τ (rl a)) else none
def MX (ax rl : Nat → Nat) (ca : Nat → ClassId) (tys : List (ClassId × FieldType)) (n E : Nat) : Prop := (∀ i, i < 7 → rl (ax i) = i) ∧ tys[0]? = some (ca 0, .int) ∧ tys[1]? = some (ca 1, .boolean) ∧ (2 ≤ n ∧ n ≤ 5) ∧ 2 ≤ E ∧ E ≤ 10
section TWS
variable {ax rl : Nat → Nat} {ca : Nat → ClassId} {n E : Nat} {τ τ' : TS}
theorem tw_at (hx : ∀ i, i < 7 → rl (ax i) = i) {i : Nat} (hi : i < 7) : tw ax rl ca n E τ (ax i) = some (tw_c ax ca n E τ i) := by
  unfold tw
  rw [hx i hi, if_pos ⟨hi, rfl⟩]
theorem tw_up (hx : ∀ i, i < 7 → rl (ax i) = i) {i : Nat} (hi : i < 7) {x : va_E} (hs : tw_c ax ca n E τ' i = x) (ho : ∀ j, j ≠ i → tw_c ax ca n E τ' j = tw_c ax ca n E τ j) : tw ax rl ca n E τ' = va_up (tw ax rl ca n E τ) (ax i) (some x) := by
  funext a
  by_cases h : a = ax i
  · subst h
    rw [va_up_self, tw_at hx hi, hs]
  · rw [va_up_ne _ _ h]
    unfold tw
    by_cases h2 : rl a < 7 ∧ ax (rl a) = a
    · rw [if_pos h2, if_pos h2, ho _ (fun q => h (by rw [← h2.2, q]))]
    · rw [if_neg h2, if_neg h2]
theorem tw_c_off {i j a : Nat} {x : Int32} (h : j ≠ i) : tw_c ax ca n E (ts τ i a x) j = tw_c ax ca n E τ j := by
  match j, h with
  | 0, h => simp only [tw_c, tw_f, ts_ne h]
  | 1, h => simp only [tw_c, ts_ne h]
  | j + 2, h => simp only [tw_c, ts_ne h]
end TWS
