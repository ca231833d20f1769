/-! Picking the roomiest one after another picks what the rank picks. -/
def fhN (τ : TS) (u : Nat → Bool) (E d : Nat) : Nat := if tb (τ 1 d) then frU u E d else 0
def bfB (τ : TS) (u : Nat → Bool) (E x y : Nat) : Bool := decide (fhN τ u E y < fhN τ u E x) || (decide (fhN τ u E x = fhN τ u E y) && decide (x < y))
def rkN (τ : TS) (u : Nat → Bool) (n E d : Nat) : Nat := cntL n (fun x => bfB τ u E x d)
def fiB (τ : TS) (u : Nat → Bool) (E d : Nat) : Bool := tb (τ 1 d) && decide (0 < frU u E d)
theorem bf_iff {τ : TS} {u : Nat → Bool} {E x y : Nat} : bfB τ u E x y = true ↔ fhN τ u E y < fhN τ u E x ∨ (fhN τ u E x = fhN τ u E y ∧ x < y) := by
  unfold bfB
  simp only [Bool.or_eq_true, Bool.and_eq_true, decide_eq_true_eq]
theorem bf_tr {τ : TS} {u : Nat → Bool} {E x y z : Nat} (h1 : bfB τ u E x y = true) (h2 : bfB τ u E y z = true) : bfB τ u E x z = true := by
  rw [bf_iff] at h1 h2 ⊢
  omega
theorem bf_ir {τ : TS} {u : Nat → Bool} {E x : Nat} : bfB τ u E x x = false := by
  cases h : bfB τ u E x x with
  | false => rfl
  | true =>
    rw [bf_iff] at h
    omega
theorem bf_as {τ : TS} {u : Nat → Bool} {E x y : Nat} (h1 : bfB τ u E x y = true) (h2 : bfB τ u E y x = true) : False := by
  rw [bf_iff] at h1 h2
  omega
theorem bf_tot {τ : TS} {u : Nat → Bool} {E x y : Nat} (h : x ≠ y) : bfB τ u E x y = true ∨ bfB τ u E y x = true := by
  rw [bf_iff, bf_iff]
  omega
theorem cntL_sub {q r : Nat → Bool} : ∀ {n : Nat}, (∀ i, i < n → q i = true → r i = true) → cntL n q ≤ cntL n r
  | 0, _ => Nat.le_refl _
  | n + 1, h => by
    have ih := cntL_sub (q := q) (r := r) (n := n) (fun i hi => h i (by omega))
    rw [cntL_s, cntL_s]
    cases hq : q n with
    | false => simp; split <;> omega
    | true =>
      rw [h n (by omega) hq]
      simp
      exact ih
theorem cntL_ssub {q r : Nat → Bool} : ∀ {n : Nat}, (∀ i, i < n → q i = true → r i = true) → (∃ j, j < n ∧ q j = false ∧ r j = true) → cntL n q < cntL n r
  | 0, _, h => by obtain ⟨j, hj, -⟩ := h; omega
  | n + 1, h, he => by
    obtain ⟨j, hj, h1, h2⟩ := he
    have hs := cntL_sub (q := q) (r := r) (n := n) (fun i hi => h i (by omega))
    rw [cntL_s, cntL_s]
    by_cases e : j = n
    · subst e
      rw [h1, h2]
      simp
      omega
    · have ih := cntL_ssub (q := q) (r := r) (n := n) (fun i hi => h i (by omega)) ⟨j, by omega, h1, h2⟩
      cases hq : q n with
      | false => simp; split <;> omega
      | true =>
        rw [h n (by omega) hq]
        simp
        exact ih
theorem rk_lt {τ : TS} {u : Nat → Bool} {n E x y : Nat} (hx : x < n) (h : bfB τ u E x y = true) : rkN τ u n E x < rkN τ u n E y := cntL_ssub (fun i _ hi => bf_tr hi h) ⟨x, hx, bf_ir, h⟩
theorem rk_inj {τ : TS} {u : Nat → Bool} {n E x y : Nat} (hx : x < n) (hy : y < n) (h : rkN τ u n E x = rkN τ u n E y) : x = y := by
  refine Classical.byContradiction fun hne => ?_
  rcases bf_tot (τ := τ) (u := u) (E := E) hne with h1 | h1
  · have := rk_lt hx h1
    omega
  · have := rk_lt hy h1
    omega
/-- what the roomiest is -/
def elB (τ : TS) (u : Nat → Bool) (E : Nat) (P : Nat → Bool) (d : Nat) : Bool := fiB τ u E d && !P d
theorem el_iff {τ : TS} {u : Nat → Bool} {E d : Nat} {P : Nat → Bool} : elB τ u E P d = true ↔ tb (τ 1 d) = true ∧ 0 < frU u E d ∧ P d = false := by
  unfold elB fiB
  simp only [Bool.and_eq_true, decide_eq_true_eq, Bool.not_eq_true']
  constructor
  · rintro ⟨⟨h1, h2⟩, h3⟩; exact ⟨h1, h2, h3⟩
  · rintro ⟨h1, h2, h3⟩; exact ⟨⟨h1, h2⟩, h3⟩
theorem rm_spec {τ : TS} {u : Nat → Bool} {E : Nat} {P : Nat → Bool} : ∀ d, ((rmL τ u E P d).1 = none ∧ (rmL τ u E P d).2 = 0 ∧ ∀ x, x < d → elB τ u E P x = false) ∨ ∃ b, (rmL τ u E P d).1 = some b ∧ (rmL τ u E P d).2 = frU u E b ∧ b < d ∧ elB τ u E P b = true ∧ ∀ x, x < d → elB τ u E P x = true → x ≠ b → bfB τ u E b x = true
  | 0 => Or.inl ⟨rfl, rfl, fun x hx => absurd hx (by omega)⟩
  | d + 1 => by
    have hs : rmL τ u E P (d + 1) = if tb (τ 1 d) && (!P d && decide ((rmL τ u E P d).2 < frU u E d)) then (some d, frU u E d) else rmL τ u E P d := rfl
    have hfh : ∀ x, elB τ u E P x = true → fhN τ u E x = frU u E x := fun x hx => by
      unfold fhN
      rw [(el_iff.mp hx).1]
      rfl
    rw [hs]
    rcases rm_spec (τ := τ) (u := u) (E := E) (P := P) d with ⟨h1, h2, h3⟩ | ⟨b, h1, h2, h3, h4, h5⟩
    · by_cases he : elB τ u E P d = true
      · obtain ⟨e1, e2, e3⟩ := el_iff.mp he
        refine Or.inr ⟨d, ?_⟩
        rw [e1, e3, h2, decide_eq_true e2]
        refine ⟨rfl, rfl, by omega, he, fun x hx hex hne => ?_⟩
        rw [h3 x (by omega)] at hex
        cases hex
      · have hc : (tb (τ 1 d) && (!P d && decide ((rmL τ u E P d).2 < frU u E d))) = false := by
          cases hb : (tb (τ 1 d) && (!P d && decide ((rmL τ u E P d).2 < frU u E d))) with
          | false => rfl
          | true =>
            simp only [Bool.and_eq_true, decide_eq_true_eq, Bool.not_eq_true'] at hb
            exact absurd (el_iff.mpr ⟨hb.1, by omega, hb.2.1⟩) he
        refine Or.inl ?_
        rw [hc, if_neg (by decide)]
        refine ⟨h1, h2, fun x hx => ?_⟩
        by_cases ex : x = d
        · subst ex
          cases hb : elB τ u E P x with
          | false => rfl
          | true => exact absurd hb he
        · exact h3 x (by omega)
    · by_cases hc : (tb (τ 1 d) && (!P d && decide ((rmL τ u E P d).2 < frU u E d))) = true
      · have hc' := hc
        simp only [Bool.and_eq_true, decide_eq_true_eq, Bool.not_eq_true'] at hc'
        have he : elB τ u E P d = true := el_iff.mpr ⟨hc'.1, by omega, hc'.2.1⟩
        refine Or.inr ⟨d, ?_⟩
        rw [hc, if_pos rfl]
        refine ⟨rfl, rfl, by omega, he, fun x hx hex hne => ?_⟩
        have h6 := hc'.2.2
        rw [h2] at h6
        rw [bf_iff, hfh d he, hfh x hex]
        by_cases exb : x = b
        · subst exb
          omega
        · have h7 := h5 x (by omega) hex exb
          rw [bf_iff, hfh b h4, hfh x hex] at h7
          omega
      · refine Or.inr ⟨b, ?_⟩
        rw [if_neg hc]
        refine ⟨h1, h2, by omega, h4, fun x hx hex hne => ?_⟩
        by_cases ex : x = d
        · subst ex
          obtain ⟨e1, e2, e3⟩ := el_iff.mp hex
          have h6 : ¬ (rmL τ u E P x).2 < frU u E x := fun hq => hc (by simp [e1, e3, hq])
          rw [h2] at h6
          rw [bf_iff, hfh b h4, hfh x hex]
          omega
        · exact h5 x (by omega) hex hne
theorem pk_rank {τ : TS} {u : Nat → Bool} {n E : Nat} : ∀ i, (∀ j, j < i → qK τ u n E j = false) → ∀ d, d < n → pkS τ u n E i d = (fiB τ u E d && decide (rkN τ u n E d < i))
  | 0, _, d, hd => by
    show false = _
    simp
  | i + 1, hG, d, hd => by
    have ih := pk_rank (τ := τ) (u := u) (n := n) (E := E) i (fun j hj => hG j (by omega))
    have hcnt := pkS_cnt (τ := τ) (u := u) (n := n) (E := E) i (fun j hj => hG j (by omega))
    have hq := hG i (by omega)
    unfold qK at hq
    rcases rm_spec (τ := τ) (u := u) (E := E) (P := pkS τ u n E i) n with ⟨h1, -⟩ | ⟨b, h1, -, hb, heb, hmin⟩
    · have : rmQ τ u n E (pkS τ u n E i) = none := h1
      rw [this] at hq
      cases hq
    · have hr : rmQ τ u n E (pkS τ u n E i) = some b := h1
      obtain ⟨e1, e2, e3⟩ := el_iff.mp heb
      have hfb : fiB τ u E b = true := by unfold fiB; rw [e1, decide_eq_true e2]; rfl
      have hge : ¬ rkN τ u n E b < i := fun hlt => by
        rw [ih b hb, hfb, decide_eq_true hlt] at e3
        cases e3
      have hsub : ∀ x, x < n → bfB τ u E x b = true → pkS τ u n E i x = true := fun x hx hxb => by
        cases hp : pkS τ u n E i x with
        | true => rfl
        | false =>
          exfalso
          have hfh : 0 < fhN τ u E x := by
            have h2 := bf_iff.mp hxb
            have h3 : fhN τ u E b = frU u E b := by unfold fhN; rw [e1]; rfl
            omega
          have htx : tb (τ 1 x) = true := by
            cases ht : tb (τ 1 x) with
            | true => rfl
            | false => unfold fhN at hfh; rw [ht, if_neg (by decide)] at hfh; omega
          have hfx : 0 < frU u E x := by unfold fhN at hfh; rw [htx] at hfh; exact hfh
          have hne : x ≠ b := fun e => by rw [e, bf_ir] at hxb; cases hxb
          exact bf_as hxb (hmin x hx (el_iff.mpr ⟨htx, hfx, hp⟩) hne)
      have hle : rkN τ u n E b ≤ i := by
        rw [← hcnt]
        exact cntL_sub hsub
      have hrk : rkN τ u n E b = i := by omega
      show (pkS τ u n E i d || decide (rmQ τ u n E (pkS τ u n E i) = some d)) = _
      rw [hr, ih d hd]
      by_cases hdb : d = b
      · subst hdb
        rw [hfb, hrk]
        simp
      · have h3 : decide (some b = some d) = false := decide_eq_false (fun q => hdb (Option.some.inj q).symm)
        rw [h3, Bool.or_false]
        have h4 : rkN τ u n E d ≠ i := fun q => hdb (rk_inj hd hb (by rw [hrk]; exact q))
        congr 1
        exact decide_eq_decide.mpr (by omega)
/-- the picks fail just when there are too few disks with room -/
theorem pk_few {τ : TS} {u : Nat → Bool} {n E w : Nat} : fsL (qK τ u n E) w < w ↔ cntL n (fiB τ u E) < w := by
  constructor
  · intro h
    obtain ⟨k, ⟨hk, hq⟩, hm⟩ := pk_least (fun i => i < w ∧ qK τ u n E i = true) ((fsL_lt w).mp h)
    have hG : ∀ j, j < k → qK τ u n E j = false := fun j hj => by
      cases hb : qK τ u n E j with
      | false => rfl
      | true => exact absurd ⟨by omega, hb⟩ (hm j hj)
    have hcnt := pkS_cnt (τ := τ) (u := u) (n := n) (E := E) k hG
    rcases rm_spec (τ := τ) (u := u) (E := E) (P := pkS τ u n E k) n with ⟨-, -, h3⟩ | ⟨b, h1, -⟩
    · have hs : cntL n (fiB τ u E) ≤ cntL n (pkS τ u n E k) := cntL_sub (fun x hx hf => by
        have h4 := h3 x hx
        unfold elB at h4
        rw [hf] at h4
        simpa using h4)
      omega
    · unfold qK at hq
      have : rmQ τ u n E (pkS τ u n E k) = some b := h1
      rw [this] at hq
      cases hq
  · intro h
    refine Classical.byContradiction fun hc => ?_
    have hG := fsL_all hc
    have hcnt := pkS_cnt (τ := τ) (u := u) (n := n) (E := E) w hG
    have hs : cntL n (pkS τ u n E w) ≤ cntL n (fiB τ u E) := cntL_sub (fun x hx hf => by
      rw [pk_rank w hG x hx] at hf
      simp only [Bool.and_eq_true] at hf
      exact hf.1)
    omega
