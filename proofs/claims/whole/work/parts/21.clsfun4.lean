/-! Marks of the present map; answers of the class's public methods that make nothing. -/
theorem vaQ_n {g : Nat → Option Nat} {i : Nat} (hi : i < 4) : vaQ g (nI i) = g i := by
  unfold vaQ
  rw [if_neg, nI_clamp (by omega)]
  rintro (h | h)
  · exact nI_pos (by omega) h
  · exact nI_ge hi (by decide) h
theorem vl_some {h : Nat → Option va_E} {ca : Nat → ClassId} {τ : TS} {g : Nat → Option Nat} {i a : Nat} (hV : ∀ v, v < 4 → VlOk h ca τ 15 v (g v)) (hi : i < 4) (hq : vaQ g (nI i) = some a) : ∃ (pl : Nat) (P : Nat → Int32), ¬ gt τ 15 (15 * i + 2) ≤ 0 ∧ h a = some (.inr (3, [.int (nI (gN τ 15 (15 * i))), .int (nI (gN τ 15 (15 * i + 1))), .int (nI (gN τ 15 (15 * i + 2))), .ref pl])) ∧ (h pl = some (.inl (ca 0, exN τ 15 i, .inl P)) ∧ exN τ 15 i < 2 ^ 31) ∧ ∀ k, k < exN τ 15 i → P k = nI (gN τ 15 (15 * i + 3 + k)) := by
  rw [vaQ_n hi] at hq
  rcases hV i hi with ⟨h1, -⟩ | ⟨a', pl, P, h1, h2, h3, h5, h6⟩
  · rw [hq] at h1; cases h1
  · rw [hq] at h1
    cases h1
    exact ⟨pl, P, h2, h3, h5, h6⟩
theorem ex_0 {τ : TS} {mp i : Nat} (h2 : gt τ mp (15 * i + 2) ≤ 0) : exN τ mp i = 0 := by
  have h3 : gN τ mp (15 * i + 2) = 0 := by
    have e1 : (gt τ mp (15 * i + 2)).toInt ≤ 0 := by simpa using Int32.le_iff_toInt_le.mp h2
    show (gt τ mp (15 * i + 2)).toInt.toNat = 0
    omega
  unfold exN
  rw [h3, Nat.mul_zero]
theorem vl_none {h : Nat → Option va_E} {ca : Nat → ClassId} {τ : TS} {g : Nat → Option Nat} {i : Nat} (hV : ∀ v, v < 4 → VlOk h ca τ 15 v (g v)) (hi : i < 4) (hq : vaQ g (nI i) = none) : exN τ 15 i = 0 := by
  rw [vaQ_n hi] at hq
  rcases hV i hi with ⟨-, h2⟩ | ⟨a', pl, P, h1, -⟩
  · exact ex_0 h2
  · rw [hq] at h1; cases h1
theorem tkF_congr {u r : Nat → Bool} {E d : Nat} (hq : ∀ e, e < E → u (16 * d + e) = r (16 * d + e)) : tkF u E d = tkF r E d := by
  unfold tkF
  rw [mkL_congr hq]
theorem us_none {τ : TS} {x : Nat} (hw : WFm τ 15) (hx : x < 2 ^ 31) (h60 : gt τ 15 60 < 0) : usedB τ 15 x = mV τ 15 x 4 := by
  show uL τ 15 x 4 = _
  rw [uL_mV hw hx 4 (Nat.le_refl _)]
  show ((!decide (gt τ 15 60 < 0) && _) || _) = _
  rw [decide_eq_true h60]
  simp
theorem us_some {τ : TS} {x : Nat} (hw : WFm τ 15) (hx : x < 2 ^ 31) (h60 : ¬ gt τ 15 60 < 0) : usedB τ 15 x = (mV τ 15 x 4 || decide (x = gN τ 15 62)) := by
  show uL τ 15 x 4 = _
  rw [uL_mV hw hx 4 (Nat.le_refl _), Bool.or_comm]
  congr 1
  show (!decide (gt τ 15 60 < 0) && decide (gt τ 15 62 = nI x)) = _
  rw [decide_eq_false h60, hw.n (i := 62) (by omega) (by omega)]
  simp only [Bool.not_false, Bool.true_and]
  exact decide_eq_decide.mpr ⟨fun q => ((nI_eq (gN_lt _ _ _) hx).mp q).symm, fun q => by rw [q]⟩
theorem frU_used {τ : TS} {E mp d : Nat} : frU (usedB τ mp) E d = frN τ E mp d := rfl
theorem lfU_used {τ : TS} {E mp d : Nat} : lfU (usedB τ mp) E d = lfI τ E mp d := rfl
theorem putD1 {bx : Nat → Nat} {τ : TS} {d : Nat} {x : Int32} (hb : x = nI 0 ∨ x = nI 1) : cw_d bx (ts τ 1 d x) d = (cw_d bx τ d).set 4 (.int x) := by
  unfold cw_d wrN
  rw [ts_at, ts_ne (by decide), bI_tb hb]
  rfl
theorem putD1o {bx : Nat → Nat} {τ : TS} {d : Nat} {x : Int32} : ∀ d', d' ≠ d → cw_d bx (ts τ 1 d x) d' = cw_d bx τ d' := fun d' hd => by
  unfold cw_d wrN
  rw [ts_off hd, ts_ne (by decide)]
/-- a slot, as it's told -/
theorem so_none {τ : TS} {κ : Nat → Option Nat} {h : Nat → Option va_E} {d i : Nat} (hs : SlOk τ κ h d i) (h0 : τ 4 (3 * d + i) = -11 ∨ 0 ≤ τ 4 (3 * d + i)) (ht : decide (τ 4 (3 * d + i) = -11) = false) (hk : κ (1 + 3 * d + i) = none) : τ 4 (3 * d + i) = nI 0 := by
  have h1 : ¬ τ 4 (3 * d + i) = -11 := of_decide_eq_false ht
  have h2 := h0.resolve_left h1
  rcases hs with ⟨-, h3⟩ | ⟨a, q, h3, -⟩
  · rw [nI_0]
    exact Int32.le_antisymm (Int32.not_lt.mp h3) h2
  · rw [hk] at h3; cases h3
def wrC (τ : TS) (i b : Nat) : Int32 := ctI τ (nI i) (nI (eoN (gN τ 15 (15 * i)) (gN τ 15 (15 * i + 1)) b)) (nI (bcN τ i b))
theorem tw_ct {τ : TS} {i b : Nat} (hi : i < 4) (h62 : ¬ gt τ 15 62 < 0) : (twB τ (nI i) b = true ∧ wrC τ i b = nI (gN τ 15 62)) ∨ (twB τ (nI i) b = false ∧ wrC τ i b = -1) := by
  have e62 : gt τ 15 62 = nI (gN τ 15 62) := nat_eq h62
  have hm : mgB τ (nI i) = mvB τ (nI i) := by
    unfold mgB mvB
    by_cases hq : gt τ 15 60 = nI i
    · rw [hq]
      simp [nI_pos (show i < 2 ^ 31 by omega)]
    · simp [hq]
  have hc : ∀ x y : Int32, decide (x < y) = !decide (y ≤ x) := fun x y => by
    by_cases hq : y ≤ x
    · simp [hq, Int32.not_lt.mpr hq]
    · simp [hq, Int32.not_le.mp hq]
  unfold wrC ctI twB
  rw [hm, hc, nI_clamp (show i < 2 ^ 31 by omega)]
  cases hb : (mvB τ (nI i) && (decide (gt τ 15 61 = nI (eoN (gN τ 15 (15 * i)) (gN τ 15 (15 * i + 1)) b)) && !decide (τ 0 6 ≤ nI (bcN τ i b)))) with
  | true => exact Or.inl ⟨rfl, by rw [if_pos rfl, e62]⟩
  | false => exact Or.inr ⟨rfl, by rw [if_neg (by decide)]⟩
theorem nI_m1 {x : Nat} (hx : x < 2 ^ 31) : ¬ nI x = -1 := fun q => by
  have h := nI_pos' hx
  rw [q] at h
  exact absurd h (by decide)
theorem twc_f {τ : TS} {i b : Nat} (hi : i < 4) (h62 : ¬ gt τ 15 62 < 0) (h : wrC τ i b = -1) : twB τ (nI i) b = false := by
  rcases tw_ct (b := b) hi h62 with ⟨-, h2⟩ | ⟨h1, -⟩
  · rw [h2] at h
    exact absurd h (nI_m1 (gN_lt _ _ _))
  · exact h1
theorem twc_t {τ : TS} {i b : Nat} (hi : i < 4) (h62 : ¬ gt τ 15 62 < 0) (h : ¬ wrC τ i b = -1) : twB τ (nI i) b = true ∧ nI (gN τ 15 62) = wrC τ i b := by
  rcases tw_ct (b := b) hi h62 with ⟨h1, h2⟩ | ⟨-, h1⟩
  · exact ⟨h1, h2.symm⟩
  · exact absurd h1 h
theorem tw_mv {τ : TS} {i b : Nat} (hi : i < 4) (h : twB τ (nI i) b = true) : ¬ gt τ 15 60 < 0 := by
  unfold twB at h
  simp only [Bool.and_eq_true] at h
  exact mvB_n (by omega) h.1
theorem sub1_nn {x : Int32} (h0 : ¬ x < 0) (h1 : ¬ x = 0) : ¬ x - nI 1 < 0 := by
  obtain ⟨j, hj, rfl⟩ := nI_of h0
  have hj0 : 0 < j := Nat.pos_of_ne_zero (fun q => h1 (by rw [q, nI_0]))
  rw [pk_sub (by omega)]
  exact nI_pos (by omega)
theorem ac_st {τ : TS} (hac : tb (τ 0 7) = true → ¬ τ 0 8 < 0) (hs : stB τ = false) : tb (stT τ 0 7) = true → ¬ stT τ 0 8 < 0 := by
  unfold stT
  rw [if_neg (by rw [hs]; decide), ts_off (by decide), ts_at]
  intro ha
  refine sub1_nn (hac ha) ?_
  intro h0
  simp [stB, ha, h0] at hs
theorem arm_hs {bx : Nat → Nat} {E : Nat} {τ : TS} {κ : Nat → Option Nat} {k : Int32} : cw_e bx E (ts (ts τ 0 7 (nI 1)) 0 8 k) κ = (cw_e bx E τ κ).set 7 (.int k) := by
  have h7 : (ts (ts τ 0 7 (nI 1)) 0 8 k) 0 7 = nI 1 := by rw [ts_off (by decide), ts_at]
  have h8 : (ts (ts τ 0 7 (nI 1)) 0 8 k) 0 8 = k := ts_at
  have e2 : acI (ts (ts τ 0 7 (nI 1)) 0 8 k) = k := by unfold acI; rw [h7, h8]; rfl
  unfold cw_e
  rw [e2]
  rfl
theorem mv_noneq {h : Nat → Option va_E} {τ : TS} {mp : Nat} {o : Option Nat} (hm : MvOk h τ mp o) (ho : o = Option.none) : gt τ mp 60 < 0 := by
  subst ho
  exact hm.none
theorem mv_someq {h : Nat → Option va_E} {τ : TS} {mp a : Nat} {o : Option Nat} (hm : MvOk h τ mp o) (ho : o = some a) : ¬ gt τ mp 60 < 0 ∧ h a = some (.inr (5, [.int (nI (gN τ mp 60)), .int (nI (gN τ mp 61)), .int (nI (gN τ mp (15 * gN τ mp 60 + 3 + gN τ mp 61))), .int (nI (gN τ mp 62))])) := by
  subst ho
  exact hm.some
