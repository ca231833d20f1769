/-! The state at the start, and the worlds that stand for it. -/
def tz : TS := fun _ _ => 0
def tM (i : Nat) : TS := va_up tz 3 (fun j => if j % 64 = 60 ∧ j / 64 < i then -1 else 0)
def oneB (d : Nat) : Nat → Int32 := fun j => if j < d then nI 1 else 0
def oneT (d : Nat) : Nat → Int32 := fun j => if j % 3 = 0 ∧ j / 3 < d then nI 1 else 0
def tN (d : Nat) : TS := va_up (va_up (va_up (va_up (tM 17) 1 (oneB d)) 4 (oneT d)) 5 (oneT d)) 6 (oneB d)
def t1 (n : Nat) : TS := ts (ts (ts (ts (tN n) 0 2 (nI 1)) 0 3 (nI 1)) 0 4 (nI 1)) 0 5 (nI 1)
theorem tM_0 : tM 0 = tz := by
  unfold tM
  have h : (fun j => if j % 64 = 60 ∧ j / 64 < 0 then (-1 : Int32) else 0) = tz 3 := by
    funext j
    rw [if_neg (by omega)]
    rfl
  rw [h, va_up_id]
theorem tM_s {i : Nat} : tM (i + 1) = ts (tM i) 3 (64 * i + 60) (-1) := by
  unfold tM ts
  rw [va_up_self, va_up_up]
  congr 1
  funext j
  by_cases e : j = 64 * i + 60
  · subst e
    rw [pk_us, if_pos (by omega)]
  · rw [pk_un e]
    by_cases h : j % 64 = 60 ∧ j / 64 < i
    · rw [if_pos h, if_pos (by omega)]
    · rw [if_neg h, if_neg (by omega)]
theorem oneB_s {d : Nat} : oneB (d + 1) = upd (oneB d) d (nI 1) := by
  funext j
  unfold oneB
  by_cases e : j = d
  · subst e
    rw [pk_us, if_pos (by omega)]
  · rw [pk_un e]
    by_cases h : j < d
    · rw [if_pos h, if_pos (by omega)]
    · rw [if_neg h, if_neg (by omega)]
theorem oneT_s {d : Nat} : oneT (d + 1) = upd (oneT d) (3 * d) (nI 1) := by
  funext j
  unfold oneT
  by_cases e : j = 3 * d
  · subst e
    rw [pk_us, if_pos (by omega)]
  · rw [pk_un e]
    by_cases h : j % 3 = 0 ∧ j / 3 < d
    · rw [if_pos h, if_pos (by omega)]
    · rw [if_neg h, if_neg (by omega)]
theorem tN_r {d r : Nat} : tN d r = if r = 6 then oneB d else if r = 5 then oneT d else if r = 4 then oneT d else if r = 1 then oneB d else tM 17 r := by
  unfold tN va_up
  rfl
theorem tN_0 : tN 0 = tM 17 := by
  funext r
  have h1 : oneB 0 = fun _ => 0 := by funext j; unfold oneB; rw [if_neg (by omega)]
  have h2 : oneT 0 = fun _ => 0 := by funext j; unfold oneT; rw [if_neg (by omega)]
  have h3 : ∀ r, r ≠ 3 → tM 17 r = fun _ => 0 := fun r h => va_up_ne _ _ h
  rw [tN_r]
  by_cases e6 : r = 6
  · subst e6; rw [if_pos rfl, h1, h3 6 (by decide)]
  · rw [if_neg e6]
    by_cases e5 : r = 5
    · subst e5; rw [if_pos rfl, h2, h3 5 (by decide)]
    · rw [if_neg e5]
      by_cases e4 : r = 4
      · subst e4; rw [if_pos rfl, h2, h3 4 (by decide)]
      · rw [if_neg e4]
        by_cases e1 : r = 1
        · subst e1; rw [if_pos rfl, h1, h3 1 (by decide)]
        · rw [if_neg e1]
theorem tN_s {d : Nat} : tN (d + 1) = ts (ts (ts (ts (tN d) 1 d (nI 1)) 4 (3 * d) (nI 1)) 5 (3 * d) (nI 1)) 6 d (nI 1) := by
  funext r
  by_cases e6 : r = 6
  · subst e6
    rw [ts_row, ts_ne (by decide), ts_ne (by decide), ts_ne (by decide), tN_r, tN_r, if_pos rfl, if_pos rfl, oneB_s]
  · rw [ts_ne e6]
    by_cases e5 : r = 5
    · subst e5
      rw [ts_row, ts_ne (by decide), ts_ne (by decide), tN_r, tN_r, if_neg (by decide), if_pos rfl, if_neg (by decide), if_pos rfl, oneT_s]
    · rw [ts_ne e5]
      by_cases e4 : r = 4
      · subst e4
        rw [ts_row, ts_ne (by decide), tN_r, tN_r, if_neg (by decide), if_neg (by decide), if_pos rfl, if_neg (by decide), if_neg (by decide), if_pos rfl, oneT_s]
      · rw [ts_ne e4]
        by_cases e1 : r = 1
        · subst e1
          rw [ts_row, tN_r, tN_r, if_neg (by decide), if_neg (by decide), if_neg (by decide), if_pos rfl, if_neg (by decide), if_neg (by decide), if_neg (by decide), if_pos rfl, oneB_s]
        · rw [ts_ne e1, tN_r, tN_r, if_neg e6, if_neg e5, if_neg e4, if_neg e1, if_neg e6, if_neg e5, if_neg e4, if_neg e1]
theorem t1_r {n r : Nat} (hr : r ≠ 0) : t1 n r = tN n r := by
  unfold t1
  rw [ts_ne hr, ts_ne hr, ts_ne hr, ts_ne hr]
theorem t1_02 {n : Nat} : t1 n 0 2 = nI 1 ∧ t1 n 0 3 = nI 1 ∧ t1 n 0 4 = nI 1 ∧ t1 n 0 5 = nI 1 := by
  unfold t1
  refine ⟨?_, ?_, ?_, ts_at⟩
  · rw [ts_off (by decide), ts_off (by decide), ts_off (by decide), ts_at]
  · rw [ts_off (by decide), ts_off (by decide), ts_at]
  · rw [ts_off (by decide), ts_at]
theorem t1_0 {n j : Nat} (h2 : j ≠ 2) (h3 : j ≠ 3) (h4 : j ≠ 4) (h5 : j ≠ 5) : t1 n 0 j = 0 := by
  unfold t1
  rw [ts_off h5, ts_off h4, ts_off h3, ts_off h2, tN_r, if_neg (by decide), if_neg (by decide), if_neg (by decide), if_neg (by decide)]
  exact congrFun (va_up_ne _ _ (by decide)) j
theorem t1_1 {n : Nat} : t1 n 1 = oneB n := by rw [t1_r (by decide), tN_r]; rfl
theorem t1_2 {n : Nat} : t1 n 2 = fun _ => 0 := by rw [t1_r (by decide), tN_r]; rfl
theorem t1_4 {n : Nat} : t1 n 4 = oneT n := by rw [t1_r (by decide), tN_r]; rfl
theorem t1_5 {n : Nat} : t1 n 5 = oneT n := by rw [t1_r (by decide), tN_r]; rfl
theorem t1_6 {n : Nat} : t1 n 6 = oneB n := by rw [t1_r (by decide), tN_r]; rfl
theorem t1_3 {n m i : Nat} (hm : m < 17) (hi : i < 64) : gt (t1 n) m i = if i = 60 then -1 else 0 := by
  unfold gt
  rw [t1_r (by decide), tN_r, if_neg (by decide), if_neg (by decide), if_neg (by decide), if_neg (by decide)]
  unfold tM
  rw [va_up_self]
  by_cases e : i = 60
  · rw [if_pos e, if_pos (by omega)]
  · rw [if_neg e, if_neg (by omega)]
/-- the reference's world out of roles -/
theorem tw_of {f : Nat → Option va_E} {B R : Nat → Nat} {cl : Nat → Option va_E} {ca : Nat → ClassId} {tys : List (ClassId × FieldType)} {n E o : Nat} (rf : RF f B R cl) (hb : B 0 = o) (hc : ∀ i, i < 7 → cl i = some (tw_c B ca n E tz i)) (hty : TYS tys ca) (hn : 2 ≤ n ∧ n ≤ 5) (hE : 2 ≤ E ∧ E ≤ 10) : ∃ ax rl : Nat → Nat, ax 0 = o ∧ MX ax rl ca tys n E ∧ ∀ a x, tw ax rl ca n E tz a = some x → f a = some x := by
  refine ⟨B, R, hb, ⟨fun i hi => (rf i _ (hc i hi)).2, hty.1, hty.2.1, hn, hE⟩, fun a x hx => ?_⟩
  unfold tw at hx
  by_cases h : R a < 7 ∧ B (R a) = a
  · rw [if_pos h] at hx
    cases hx
    have h1 := (rf _ _ (hc _ h.1)).1
    rw [h.2] at h1
    exact h1
  · rw [if_neg h] at hx
    cases hx
/-- a loop whose state is not a function of the counter -/
theorem AW.loopX {p : Program} {l : Launch} {e : Env} {R : Room} {s : State} {m : MethodId} {args : Array Value} {below : List Frame} {meth : Method} {c : Code} {D : va_G} {cl : List vw_C} {A : Nat → Prop} {nL : Nat} {Q : State → Prop} {f : Nat → Option va_E} {k n pc : Nat} {lv : List (Option Value)} {st : List Value} {Z : Type} (N : Nat) (P : Nat → Z → Prop) (F : Z → Nat → Option va_E) (LV : Nat → List (Option Value)) (kf nf : Nat → Nat) (z0 : Z) (h0 : P 0 z0) (hf : F z0 = f) (hlv : LV 0 = lv) (hk : kf 0 = k) (hn : nf 0 = n)
    (body : ∀ i, i ≤ N → ∀ z, P i z → (i < N → ∀ z', P (i + 1) z' → AW p l e R s m args below meth c D cl A nL Q (F z') (kf (i + 1)) (nf (i + 1)) pc (LV (i + 1)) st) → AW p l e R s m args below meth c D cl A nL Q (F z) (kf i) (nf i) pc (LV i) st) : AW p l e R s m args below meth c D cl A nL Q f k n pc lv st := by
  subst hf
  subst hlv
  subst hk
  subst hn
  exact up_loop N (P := fun i => ∀ z, P i z → AW p l e R s m args below meth c D cl A nL Q (F z) (kf i) (nf i) pc (LV i) st) (fun i hi ih z hz => body i hi z hz (fun hl z' hz' => ih hl z' hz')) 0 (Nat.zero_le _) z0 h0
