/-! What the class's objects represent: a volume, a move, a map; the present copy. -/
def VlOk (h : Nat → Option va_E) (ca : Nat → ClassId) (τ : TS) (mp v : Nat) (o : Option Nat) : Prop := (o = none ∧ gt τ mp (15 * v + 2) ≤ 0) ∨ ∃ (a pl : Nat) (P : Nat → Int32), o = some a ∧ ¬ gt τ mp (15 * v + 2) ≤ 0 ∧ h a = some (.inr (3, [.int (nI (gN τ mp (15 * v))), .int (nI (gN τ mp (15 * v + 1))), .int (nI (gN τ mp (15 * v + 2))), .ref pl])) ∧ (h pl = some (.inl (ca 0, exN τ mp v, .inl P)) ∧ exN τ mp v < 2 ^ 31) ∧ ∀ k, k < exN τ mp v → P k = nI (gN τ mp (15 * v + 3 + k))
def MvOk (h : Nat → Option va_E) (τ : TS) (mp : Nat) (o : Option Nat) : Prop := (o = none ∧ gt τ mp 60 < 0) ∨ ∃ a, o = some a ∧ ¬ gt τ mp 60 < 0 ∧ h a = some (.inr (5, [.int (nI (gN τ mp 60)), .int (nI (gN τ mp 61)), .int (nI (gN τ mp (15 * gN τ mp 60 + 3 + gN τ mp 61))), .int (nI (gN τ mp 62))]))
def LyOk (h : Nat → Option va_E) (ca : Nat → ClassId) (τ : TS) (mp q va : Nat) (mv : Option Nat) (g : Nat → Option Nat) : Prop := h q = some (.inr (2, [.ref va, va_rf mv])) ∧ h va = some (.inl (ca 4, 4, .inr (.inr (.inr (.inr g))))) ∧ (∀ v, v < 4 → VlOk h ca τ mp v (g v)) ∧ MvOk h τ mp mv
def PrOk (h : Nat → Option va_E) (ca : Nat → ClassId) (τ : TS) (κ : Nat → Option Nat) (pa q va : Nat) (mv : Option Nat) (g : Nat → Option Nat) : Prop := κ 0 = some pa ∧ h pa = some (.inr (0, [.int (τ 0 2), .int (τ 0 3), .ref q])) ∧ LyOk h ca τ 15 q va mv g
theorem va_none {h : Nat → Option va_E} {ca : Nat → ClassId} {τ : TS} {g : Nat → Option Nat} {v : Int32} (hV : ∀ v, v < 4 → VlOk h ca τ 15 v (g v)) (hq : vaQ g v = none) : volB τ v = false := by
  unfold vaQ at hq
  by_cases h0 : v < 0
  · simp [volB, h0]
  · by_cases h4 : nI 4 ≤ v
    · simp [volB, h4]
    · rw [if_neg (by simp [h0, h4])] at hq
      obtain ⟨j, hj, ej, cj⟩ := ix_of (by decide) h0 h4
      rw [cj] at hq
      rcases hV j hj with ⟨-, h2⟩ | ⟨a, pl, P, h1, -⟩
      · simp [volB, cj, h2]
      · rw [hq] at h1; cases h1
theorem va_some {h : Nat → Option va_E} {ca : Nat → ClassId} {τ : TS} {g : Nat → Option Nat} {v : Int32} {a : Nat} (hV : ∀ v, v < 4 → VlOk h ca τ 15 v (g v)) (hq : vaQ g v = some a) : ∃ (j pl : Nat) (P : Nat → Int32), j < 4 ∧ v = nI j ∧ v.toNatClampNeg = j ∧ volB τ v = true ∧ ¬ gt τ 15 (15 * j + 2) ≤ 0 ∧ h a = some (.inr (3, [.int (nI (gN τ 15 (15 * j))), .int (nI (gN τ 15 (15 * j + 1))), .int (nI (gN τ 15 (15 * j + 2))), .ref pl])) ∧ (h pl = some (.inl (ca 0, exN τ 15 j, .inl P)) ∧ exN τ 15 j < 2 ^ 31) ∧ ∀ k, k < exN τ 15 j → P k = nI (gN τ 15 (15 * j + 3 + k)) := by
  unfold vaQ at hq
  by_cases hc : v < 0 ∨ nI 4 ≤ v
  · rw [if_pos hc] at hq; cases hq
  · rw [if_neg hc] at hq
    have h0 : ¬ v < 0 := fun q => hc (Or.inl q)
    have h4 : ¬ nI 4 ≤ v := fun q => hc (Or.inr q)
    obtain ⟨j, hj, ej, cj⟩ := ix_of (by decide) h0 h4
    rw [cj] at hq
    rcases hV j hj with ⟨h1, -⟩ | ⟨a', pl, P, h1, h2, h3, h5, h6⟩
    · rw [hq] at h1; cases h1
    · rw [hq] at h1
      cases h1
      exact ⟨j, pl, P, hj, ej, cj, by simp [volB, h0, h4, cj, h2], h2, h3, h5, h6⟩
theorem MvOk.some {h : Nat → Option va_E} {τ : TS} {mp a : Nat} (hm : MvOk h τ mp (some a)) : ¬ gt τ mp 60 < 0 ∧ h a = some (.inr (5, [.int (nI (gN τ mp 60)), .int (nI (gN τ mp 61)), .int (nI (gN τ mp (15 * gN τ mp 60 + 3 + gN τ mp 61))), .int (nI (gN τ mp 62))])) := by
  rcases hm with ⟨h1, -⟩ | ⟨a', h1, h2, h3⟩
  · cases h1
  · cases h1
    exact ⟨h2, h3⟩
theorem MvOk.none {h : Nat → Option va_E} {τ : TS} {mp : Nat} (hm : MvOk h τ mp none) : gt τ mp 60 < 0 := by
  rcases hm with ⟨-, h1⟩ | ⟨a', h1, -⟩
  · exact h1
  · cases h1
theorem hx_t {N : Nat} {k : Int32} (hN : N < 2 ^ 31) (h : (!decide (k < 0) && !decide (nI N ≤ k)) = true) : ∃ i, i < N ∧ k = nI i ∧ k.toNatClampNeg = i := by
  simp only [Bool.and_eq_true, Bool.not_eq_true', decide_eq_false_iff_not] at h
  exact ix_of hN h.1 h.2
def mgB (τ : TS) (v : Int32) : Bool := !decide (gt τ 15 60 < 0) && decide (gt τ 15 60 = v)
/-- where a write goes besides -/
def ctI (τ : TS) (v k c : Int32) : Int32 := if mgB τ v && (decide (gt τ 15 61 = k) && decide (c < τ 0 6)) then gt τ 15 62 else -1
def pk1 (τ : TS) (d i : Nat) (na : Int32) : TS := ts (stT τ) 4 (3 * d + i) (if stB τ then -11 else na)
def pkT (τ : TS) (d i : Nat) (na : Int32) : TS := ts (pk1 τ d i na) 6 d (pk1 τ d i na 6 d + nI 1)
def pkK (τ : TS) (κ : Nat → Option Nat) (d i a : Nat) : Nat → Option Nat := va_up κ (1 + 3 * d + i) (if stB τ then none else some a)
theorem pos11 {x : Int32} (h : 0 < x) : ¬ x = -11 := fun q => by subst q; exact absurd h (by decide)
theorem pk1_6 {τ : TS} {d i j : Nat} {na : Int32} : pk1 τ d i na 6 j = τ 6 j := by
  unfold pk1
  rw [ts_ne (by decide), stT_row (by decide)]
theorem pk1_1 {τ : TS} {d i : Nat} {na : Int32} : pk1 τ d i na 1 = τ 1 := by
  unfold pk1
  rw [ts_ne (by decide), stT_row (by decide)]
theorem wr_next {σ : TS} {d : Nat} (h6 : ¬ σ 6 d < 0) (hb : wrN σ d + 1 < 2 ^ 31) : wrN (ts σ 6 d (σ 6 d + nI 1)) d = wrN σ d + 1 := by
  have e1 : σ 6 d = nI (wrN σ d) := nat_eq h6
  show (ts σ 6 d (σ 6 d + nI 1) 6 d).toNatClampNeg = _
  rw [ts_at, e1, nI_add, nI_clamp hb]
theorem pk_hs {bx : Nat → Nat} {σ : TS} {d : Nat} (h6 : ¬ σ 6 d < 0) (hb : wrN σ d + 1 < 2 ^ 31) : cw_d bx (ts σ 6 d (σ 6 d + nI 1)) d = (cw_d bx σ d).set 3 (.int (nI ((wrN σ d % 3 + 1) % 3))) := by
  have e2 : (wrN σ d + 1) % 3 = (wrN σ d % 3 + 1) % 3 := by omega
  unfold cw_d
  rw [wr_next h6 hb, e2, ts_ne (by decide)]
  rfl
theorem pk_ho {bx : Nat → Nat} {σ : TS} {d : Nat} {x : Int32} : ∀ d', d' ≠ d → cw_d bx (ts σ 6 d x) d' = cw_d bx σ d' := fun d' hd => by
  unfold cw_d wrN
  rw [ts_off hd, ts_ne (by decide)]
def qP (τ : TS) (κ : Nat → Option Nat) (nb sb : Int32) (d : Nat) : Bool := tb (τ 1 d) && decide (fsL (qW τ κ d nb sb) 3 < 3)
theorem sw_t {τ : TS} {κ : Nat → Option Nat} {d : Nat} {nb sb : Int32} (h : ¬ swI τ κ d nb sb = -1) : decide (fsL (qW τ κ d nb sb) 3 < 3) = true := by
  refine decide_eq_true ?_
  unfold swI at h
  split at h
  · assumption
  · exact absurd rfl h
theorem sw_f {τ : TS} {κ : Nat → Option Nat} {d : Nat} {nb sb : Int32} (h : swI τ κ d nb sb = -1) : decide (fsL (qW τ κ d nb sb) 3 < 3) = false := by
  refine decide_eq_false fun hq => ?_
  unfold swI at h
  rw [if_pos hq] at h
  exact absurd h ((by decide +kernel : ∀ q, q < 3 → ¬ nI q = -1) _ hq)
section LVQ
variable {p : Program} {l : Launch} {e : Env} {R : Room} {s : State} {m : MethodId} {args : Array Value} {below : List Frame} {meth : Method} {c : Code} {D : va_G} {cl : List vw_C} {A : Nat → Prop} {nL : Nat} {Q : State → Prop}
variable {f : Nat → Option va_E} {k n pc : Nat} {lv : List (Option Value)} {st : List Value}
theorem AW.lvq (j : Nat) {x y : Option Nat} (hx : lv[j]? = some (some (va_rf x))) (h : y = x) (kk : AW p l e R s m args below meth c D cl A nL Q f k n pc (lv.set j (some (va_rf y))) st) : AW p l e R s m args below meth c D cl A nL Q f k n pc lv st := by
  subst h
  refine AW.to rfl ?_ rfl kk
  have hj : j < lv.length := (List.getElem?_eq_some_iff.mp hx).1
  refine List.ext_getElem? fun i => ?_
  rw [List.getElem?_set]
  by_cases e1 : j = i
  · subst e1
    rw [if_pos rfl, if_pos hj, hx]
  · rw [if_neg e1]
end LVQ
theorem ch_s {o : Option Nat} (h : ¬ chI o = -1) : ∃ b, o = some b := by
  cases o with
  | none => exact absurd rfl h
  | some b => exact ⟨b, rfl⟩
theorem ch_n {o : Option Nat} (ho : ∀ b, o = some b → b < 2 ^ 31) (h : chI o = -1) : o = none := by
  cases o with
  | none => rfl
  | some b =>
    have h1 : nI b = -1 := h
    have h2 := nI_pos' (ho b rfl)
    rw [h1] at h2
    exact absurd h2 (by decide)
