/-! Rows of a volume that are taken one after another. -/
theorem fsL_all {q : Nat → Bool} {n : Nat} (h : ¬ fsL q n < n) : ∀ j, j < n → q j = false := fun j hj => by
  cases hq : q j with
  | false => rfl
  | true => exact absurd ((fsL_lt n).mpr ⟨j, hj, hq⟩) h
theorem row_fit {w rc f0 i M c : Nat} (hM : M = w * rc) (hi : f0 + i < rc) (hc : c = w) : (f0 + i) * w + c ≤ M := by
  subst hM
  subst hc
  have h1 : (f0 + i + 1) * c ≤ rc * c := Nat.mul_le_mul_right c hi
  rw [Nat.add_mul, Nat.one_mul] at h1
  rw [Nat.mul_comm c rc]
  exact h1
def trB (τ : TS) (n E w k : Nat) : Bool := !decide (fsL (qT τ n E w) k < k)
theorem tr_stop {τ : TS} {n E w k i : Nat} (hG : ∀ j, j < i → qT τ n E w j = false) (hi : i < k) (h : fsL (qK τ (twU τ n E w i) n E) w < w) : trB τ n E w k = false ∧ fsL (qT τ n E w) k = i := by
  have h1 : fsL (qT τ n E w) k = i := fsL_hit (decide_eq_true h) hG k hi
  refine ⟨?_, h1⟩
  unfold trB
  rw [h1, decide_eq_true hi]
  rfl
theorem tr_done {τ : TS} {n E w k : Nat} (hG : ∀ j, j < k → qT τ n E w j = false) : trB τ n E w k = true ∧ fsL (qT τ n E w) k = k := by
  have h1 : fsL (qT τ n E w) k = k := fsL_miss hG
  refine ⟨?_, h1⟩
  unfold trB
  rw [h1, decide_eq_false (Nat.lt_irrefl _)]
  rfl
