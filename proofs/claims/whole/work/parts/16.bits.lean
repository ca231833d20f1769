/-! ===== Int32 by its bits: bt x i ===== -/
def bt (x : Int32) (i : Nat) : Bool := x.toBitVec.getLsbD i
theorem b_ext {x y : Int32} (h : ∀ i, i < 32 → bt x i = bt y i) : x = y := Int32.toBitVec_inj.mp (BitVec.eq_of_getLsbD_eq (fun i hi => h i hi))
theorem b_or (x y : Int32) (i : Nat) : bt (x ||| y) i = (bt x i || bt y i) := by unfold bt; rw [Int32.toBitVec_or, BitVec.getLsbD_or]
theorem b_and (x y : Int32) (i : Nat) : bt (x &&& y) i = (bt x i && bt y i) := by unfold bt; rw [Int32.toBitVec_and, BitVec.getLsbD_and]
theorem b_xor (x y : Int32) (i : Nat) : bt (x ^^^ y) i = (bt x i ^^ bt y i) := by unfold bt; rw [Int32.toBitVec_xor, BitVec.getLsbD_xor]
theorem b_big {x : Int32} {i : Nat} (h : 32 ≤ i) : bt x i = false := BitVec.getLsbD_of_ge _ _ h
theorem b_0 (i : Nat) : bt 0 i = false := BitVec.getLsbD_zero
theorem s_l : ∀ n, n < 32 → ((nI n &&& 31).toBitVec.smod 32).toNat = n := by decide +kernel
theorem s_u : ∀ n, n < 32 → (((nI n).toUInt32 &&& Int32.toUInt32 31).toBitVec % 32).toNat = n := by decide +kernel
theorem b_shl (n : Nat) (hn : n < 32) (x : Int32) {i : Nat} (hi : i < 32) : bt (x <<< (nI n &&& 31)) i = (decide (n ≤ i) && bt x (i - n)) := by
  unfold bt
  rw [Int32.toBitVec_shiftLeft]
  show (x.toBitVec <<< ((nI n &&& 31).toBitVec.smod 32).toNat).getLsbD i = _
  rw [s_l n hn, BitVec.getLsbD_shiftLeft]
  rcases Nat.lt_or_ge i n with h | h
  · simp [h, Nat.not_le.mpr h]
  · simp [hi, h, Nat.not_lt.mpr h]
/-! Masks out of predicates -/
theorem bt_nI (m i : Nat) (hi : i < 32) : bt (nI m) i = m.testBit i := by
  show (BitVec.ofNat 32 m).getLsbD i = _
  rw [BitVec.getLsbD_ofNat]
  simp [hi]
theorem mk_tb (q : Nat → Bool) (E i : Nat) : (mkL q E).testBit i = (decide (i < E) && q i) := by
  rw [Nat.testBit_eq_decide_div_mod_eq]
  by_cases h : i < E
  · rw [mk_bit q E i h]
    cases hq : q i <;> simp [h]
  · have hl : mkL q E < 2 ^ i := Nat.lt_of_lt_of_le (mkL_lt q E) (Nat.pow_le_pow_right (by decide) (by omega))
    rw [Nat.div_eq_of_lt hl]
    simp [h]
theorem bt_mk (q : Nat → Bool) (E : Nat) {i : Nat} (hi : i < 32) : bt (nI (mkL q E)) i = (decide (i < E) && q i) := by rw [bt_nI _ _ hi, mk_tb]
theorem bt_1 : ∀ j, j < 32 → bt (nI 1) j = decide (j = 0) := by decide +kernel
theorem bt_sh {e i : Nat} (he : e < 32) (hi : i < 32) : bt (nI 1 <<< (nI e &&& 31)) i = decide (i = e) := by
  rw [b_shl e he _ hi, bt_1 _ (by omega)]
  by_cases h : i = e
  · subst h; simp
  · by_cases h2 : e ≤ i
    · simp [h2, h]; omega
    · simp [h2, h]
theorem mk_or {q : Nat → Bool} {E e : Nat} (he : e < E) (hE : E ≤ 31) : nI (mkL q E) ||| nI 1 <<< (nI e &&& 31) = nI (mkL (fun i => q i || decide (i = e)) E) := by
  refine b_ext fun i hi => ?_
  rw [b_or, bt_mk _ _ hi, bt_mk _ _ hi, bt_sh (by omega) hi]
  by_cases h : i = e
  · subst h; simp [he]
  · simp [h]
theorem mk_and {q : Nat → Bool} {E e : Nat} (he : e < E) (hE : E ≤ 31) : (nI (mkL q E) &&& nI 1 <<< (nI e &&& 31)) = 0 ↔ q e = false := by
  constructor
  · intro h
    have h1 : bt (nI (mkL q E) &&& nI 1 <<< (nI e &&& 31)) e = bt 0 e := by rw [h]
    rw [b_and, bt_mk _ _ (by omega), bt_sh (by omega) (by omega), b_0] at h1
    simpa [he] using h1
  · intro h
    refine b_ext fun i hi => ?_
    rw [b_and, bt_mk _ _ hi, bt_sh (by omega) hi, b_0]
    by_cases h2 : i = e
    · subst h2; simp [h]
    · simp [h2]
theorem mkL_congr {q r : Nat → Bool} {E : Nat} (h : ∀ i, i < E → q i = r i) : mkL q E = mkL r E := by
  induction E with
  | zero => rfl
  | succ n ih => unfold mkL; rw [ih (fun i hi => h i (by omega)), h n (by omega)]
def bcE (x : Int32) : Int32 :=
  let a := x - ((x.toUInt32 >>> ((nI 1).toUInt32 &&& Int32.toUInt32 31)).toInt32 &&& 1431655765)
  let b := (a &&& 858993459) + ((a.toUInt32 >>> ((nI 2).toUInt32 &&& Int32.toUInt32 31)).toInt32 &&& 858993459)
  let c := (b + (b.toUInt32 >>> ((nI 4).toUInt32 &&& Int32.toUInt32 31)).toInt32) &&& 252645135
  let d := c + (c.toUInt32 >>> ((nI 8).toUInt32 &&& Int32.toUInt32 31)).toInt32
  let e := d + (d.toUInt32 >>> ((nI 16).toUInt32 &&& Int32.toUInt32 31)).toInt32
  e &&& nI 63
def pcN (m : Nat) : Nat := cntL 10 (fun e => decide (m / 2 ^ e % 2 = 1))
theorem bc_tab : ((List.range 1024).all fun m => decide (bcE (nI m) = nI (pcN m))) = true := by decide +kernel
theorem bc_ok {m : Nat} (h : m < 1024) : bcE (nI m) = nI (pcN m) := of_decide_eq_true (List.all_eq_true.mp bc_tab m (List.mem_range.mpr h))
theorem cntL_more {q : Nat → Bool} {E : Nat} : ∀ k, (∀ i, E ≤ i → q i = false) → cntL (E + k) q = cntL E q
  | 0, _ => rfl
  | k + 1, h => by
    show cntL (E + k) q + (if q (E + k) then 1 else 0) = _
    rw [h (E + k) (by omega), cntL_more k h]
    rfl
theorem pc_mk {q : Nat → Bool} {E : Nat} (hE : E ≤ 10) : pcN (mkL q E) = cntL E q := by
  unfold pcN
  have h1 : ∀ e, decide (mkL q E / 2 ^ e % 2 = 1) = (decide (e < E) && q e) := fun e => by rw [← Nat.testBit_eq_decide_div_mod_eq, mk_tb]
  have h2 : cntL 10 (fun e => decide (mkL q E / 2 ^ e % 2 = 1)) = cntL (E + (10 - E)) (fun e => decide (e < E) && q e) := by
    rw [show E + (10 - E) = 10 by omega]
    exact cntL_congr (fun i _ => h1 i)
  rw [h2, cntL_more _ (fun i hi => by simp [Nat.not_lt.mpr hi])]
  exact cntL_congr (fun i hi => by simp [hi])
theorem cntL_not (q : Nat → Bool) : ∀ E, cntL E q + cntL E (fun e => !q e) = E
  | 0 => rfl
  | E + 1 => by
    have h := cntL_not q E
    rw [cntL_s, cntL_s]
    cases q E <;> simp <;> omega
section JDK
variable {p : Program} {l : Launch} {e : Env} {R : Room} {s : State} {m : MethodId} {args : Array Value} {below : List Frame} {meth : Method} {c : Code} {D : va_G} {cl : List vw_C} {A : Nat → Prop} {nL : Nat} {Q : State → Prop}
variable {f : Nat → Option va_E} {k n pc pc' : Nat} {lv : List (Option Value)} {st : List Value} {cc : ByteArray} {c0 : Cond} {own : String} {tys : List (ClassId × FieldType)}
theorem a_ldcw (hc : CallFix p m c cc nL s args (c0 :: WS) own) {index : Nat} {v : Int32} (hw : Cond.constant own index v ∈ WS) (hdg : decode cc pc = .ok (.ldc_w index, 3)) (hp : pc + 3 = pc') (kk : AW p l e R s m args below meth c D cl A nL Q f k n pc' lv (.int v :: st)) : AW p l e R s m args below meth c D cl A nL Q f k n pc lv st := by
  subst hp
  exact fun H locs ls hf hd hS hl => lv_ldcw hc.1 hc.2.1 hc.2.2.2.1 (hc.2.2.2.2 _ (List.mem_cons_of_mem _ hw)) hdg (kk H locs ls hf hd hS hl)
/-- a call of a static method of another's, its words out of WS -/
theorem a_cS (hc : CallFix p m c cc nL s args (c0 :: WS) own) (hK : va_K D cl tys s) (hO : AO3 s) (hA : ∀ q : Nat, s.heap.size ≤ q → A q) {y : MethodName} {bytes : ByteArray} {maxL : Nat} {ret : Option FieldType} {rm : Room} {mc ms nA index : Nat} {C : String} {As rest : List Value} {post : Option Value → (Nat → Option va_E) → Prop}
    (hM : CT l y (Cond.code y bytes maxL ret :: WS) rm D cl tys A f As post mc ms) (hml : (Cond.methodLink own index y ∈ WS ∧ Cond.code y bytes maxL ret ∈ WS ∧ Cond.initialized C ∈ WS) ∧ Cond.static y ∈ WS)
    (hd : y.cls = C ∧ y.cls ≠ "java/lang/invoke/MethodHandle" ∧ y.cls ≠ "java/lang/invoke/VarHandle" ∧ (parseMethodDescriptor y.desc).map (fun d => d.parameters.length) = some nA) (hrc : rm.cells = mc) (hrs : rm.slots = ms) (hR : rm.frames + 1 ≤ R.frames ∧ 8 + (maxL + 11) + rm.locals ≤ R.locals)
    (hn : As.length = nA) (hst : st = As.reverse ++ rest) (hW : (rest.map fun v => v.category).sum ≤ 8) (hdg : decode cc pc = .ok (.invokestatic index, 3)) (hp : pc + 3 = pc') (hf0 : k + mc ≤ R.cells ∧ n + ms ≤ R.slots)
    (kk : ∀ (v : Option Value) (f' : Nat → Option va_E), post v f' → AW p l e R s m args below meth c D cl A nL Q f' (k + mc) (n + ms) pc' lv (v.toList ++ rest)) : AW p l e R s m args below meth c D cl A nL Q f k n pc lv st := by
  have ok : ∀ {w : Cond}, w ∈ WS → w.before args s = true := fun h => hc.2.2.2.2 _ (List.mem_cons_of_mem _ h)
  refine a_callS hc hK hO hA hM ⟨callB_of nA hc.2.2.2.2 (ws_in hml.1.2.1) rfl hrc hrs ?_ (ok hml.1.1) hd.2 hR, ok hml.2⟩ hn hst hW hdg hp hf0 kk
  rw [hd.1]
  exact ok hml.1.2.2
end JDK
