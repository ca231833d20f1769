/-! What holds between the calls: slots, their copies and maps. -/
section MAPS
variable {σ τ : TS} {mp mp' n E : Nat}
theorem WFm.map (hm : ∀ i, i < 64 → gt σ mp' i = gt τ mp i) (h : WFm τ mp) : WFm σ mp' := by
  refine ⟨fun i hi h60 => ?_, fun v hv => ?_⟩
  · rw [hm i hi]
    exact h.1 i hi h60
  · rw [gN_eq (hm (15 * v) (by omega)), gN_eq (hm (15 * v + 2) (by omega))]
    exact h.2 v hv
theorem exN_map (hm : ∀ i, i < 64 → gt σ mp' i = gt τ mp i) {v : Nat} (hv : v < 4) : exN σ mp' v = exN τ mp v := by
  unfold exN
  rw [gN_eq (hm (15 * v) (by omega)), gN_eq (hm (15 * v + 2) (by omega))]
theorem WFx.map (hm : ∀ i, i < 64 → gt σ mp' i = gt τ mp i) (h : WFx n E τ mp) : WFx n E σ mp' := by
  refine ⟨h.1.map hm, fun v hv hr => ?_, fun v hv k hk => ?_, fun hq => ?_⟩
  · rw [hm (15 * v + 2) (by omega)] at hr
    rw [gN_eq (hm (15 * v) (by omega)), gN_eq (hm (15 * v + 1) (by omega))]
    exact h.2.1 v hv hr
  · rw [exN_map hm hv] at hk
    have hx := h.1.ex hv
    rw [gN_eq (hm (15 * v + 3 + k) (by omega))]
    exact h.2.2.1 v hv k hk
  · rw [hm 60 (by decide)] at hq
    have h1 := h.2.2.2 hq
    rw [gN_eq (hm 60 (by decide)), gN_eq (hm 61 (by decide)), gN_eq (hm 62 (by decide)), exN_map hm h1.1]
    exact h1
theorem LyOk.map {h : Nat → Option va_E} {ca : Nat → ClassId} {q va : Nat} {mv : Option Nat} {g : Nat → Option Nat} (hw : WFx n E τ mp) (hm : ∀ i, i < 64 → gt σ mp' i = gt τ mp i) (hL : LyOk h ca τ mp q va mv g) : LyOk h ca σ mp' q va mv g := by
  refine ⟨hL.1, hL.2.1, fun v hv => (hL.2.2.1 v hv).map hw.1 hv (fun i h1 h2 => hm i (by omega)), hL.2.2.2.map (hm 60 (by decide)) (hm 61 (by decide)) (hm 62 (by decide)) (fun hq => ?_)⟩
  obtain ⟨h1, h2, -⟩ := hw.2.2.2 hq
  have h3 := hw.1.ex h1
  exact hm _ (by omega)
end MAPS
/-- a slot: empty or torn, or a copy of the map that stands there -/
def SLI (n E : Nat) (ca : Nat → ClassId) (h : Nat → Option va_E) (N S : Nat) (τ : TS) (κ : Nat → Option Nat) (d i : Nat) : Prop :=
  (κ (1 + 3 * d + i) = none ∧ (τ 4 (3 * d + i) = -11 ∨ τ 4 (3 * d + i) = nI 0)) ∨
  ∃ (a q va : Nat) (mv : Option Nat) (g : Nat → Option Nat) (k t : Nat), κ (1 + 3 * d + i) = some a ∧ (τ 4 (3 * d + i) = nI k ∧ 1 ≤ k ∧ k ≤ N) ∧ (τ 5 (3 * d + i) = nI t ∧ t ≤ S) ∧ h a = some (.inr (0, [.int (nI k), .int (nI t), .ref q])) ∧ LyOk h ca τ (3 * d + i) q va mv g ∧ WFx n E τ (3 * d + i)
def UQ (τ : TS) (d : Nat) : Prop := ∀ i j, i < 3 → j < 3 → i ≠ j → 0 < τ 4 (3 * d + i) → ¬ (τ 4 (3 * d + i) = τ 4 (3 * d + j) ∧ τ 5 (3 * d + i) = τ 5 (3 * d + j))
def SI (n E : Nat) (ca : Nat → ClassId) (h : Nat → Option va_E) (N S : Nat) (τ : TS) (κ : Nat → Option Nat) : Prop :=
  (tb (τ 0 7) = true → ¬ τ 0 8 < 0) ∧ (∀ d, d < n → (∀ i, i < 3 → SLI n E ca h N S τ κ d i) ∧ UQ τ d) ∧ ∀ s, 3 * n ≤ s → τ 4 s = nI 0
section SIS
variable {n E N S N' S' : Nat} {ca : Nat → ClassId} {h h' : Nat → Option va_E} {σ τ : TS} {κ κ' : Nat → Option Nat} {d i : Nat}
theorem nI_gt {k : Nat} (h0 : 1 ≤ k) (hk : k < 2 ^ 31) : 0 < nI k := Int32.not_le.mp (nI_nle h0 hk)
theorem SLI.same (H : SLI n E ca h N S τ κ d i) (hk : κ' (1 + 3 * d + i) = κ (1 + 3 * d + i)) (h4 : σ 4 (3 * d + i) = τ 4 (3 * d + i)) (h5 : σ 5 (3 * d + i) = τ 5 (3 * d + i)) (h3 : ∀ x, x < 64 → gt σ (3 * d + i) x = gt τ (3 * d + i) x) : SLI n E ca h N S σ κ' d i := by
  unfold SLI
  rw [hk, h4, h5]
  rcases H with H | ⟨a, q, va, mv, g, k, t, h1, h2, h6, h7, h8, h9⟩
  · exact Or.inl H
  · exact Or.inr ⟨a, q, va, mv, g, k, t, h1, h2, h6, h7, h8.map h9 h3, h9.map h3⟩
theorem SLI.ext (e : Ext h h') (hN : N ≤ N') (hS : S ≤ S') (H : SLI n E ca h N S τ κ d i) : SLI n E ca h' N' S' τ κ d i := by
  rcases H with H | ⟨a, q, va, mv, g, k, t, h1, h2, h6, h7, h8, h9⟩
  · exact Or.inl H
  · exact Or.inr ⟨a, q, va, mv, g, k, t, h1, ⟨h2.1, h2.2.1, Nat.le_trans h2.2.2 hN⟩, ⟨h6.1, Nat.le_trans h6.2 hS⟩, e _ _ h7, h8.ext e, h9⟩
theorem SLI.sl (hN : N < 2 ^ 31) (H : SLI n E ca h N S τ κ d i) : SlOk τ κ h d i := by
  rcases H with ⟨h1, h2 | h2⟩ | ⟨a, q, va, mv, g, k, t, h1, h2, h6, h7, h8, h9⟩
  · exact Or.inl ⟨h1, by rw [h2]; decide⟩
  · exact Or.inl ⟨h1, by rw [h2]; decide⟩
  · refine Or.inr ⟨a, q, h1, ?_, ?_⟩
    · rw [h2.1]
      exact nI_gt h2.2.1 (by omega)
    · rw [h2.1, h6.1]
      exact h7
theorem SI.same (H : SI n E ca h N S τ κ) (hac : tb (σ 0 7) = true → ¬ σ 0 8 < 0) (h4 : σ 4 = τ 4) (h5 : σ 5 = τ 5) (h3 : ∀ m i, m < 15 → i < 64 → gt σ m i = gt τ m i) (hk : ∀ j, κ' (j + 1) = κ (j + 1)) (hn : n ≤ 5) : SI n E ca h N S σ κ' := by
  refine ⟨hac, fun d hd => ⟨fun i hi => ?_, ?_⟩, fun s hs => by rw [h4]; exact H.2.2 s hs⟩
  · refine ((H.2.1 d hd).1 i hi).same ?_ (by rw [h4]) (by rw [h5]) (fun x hx => h3 _ _ (by omega) hx)
    rw [show 1 + 3 * d + i = (3 * d + i) + 1 by omega]
    exact hk _
  · unfold UQ
    rw [h4, h5]
    exact (H.2.1 d hd).2
theorem SI.ext (e : Ext h h') (hN : N ≤ N') (hS : S ≤ S') (H : SI n E ca h N S τ κ) : SI n E ca h' N' S' τ κ := ⟨H.1, fun d hd => ⟨fun i hi => ((H.2.1 d hd).1 i hi).ext e hN hS, (H.2.1 d hd).2⟩, H.2.2⟩
theorem ac_stp (hac : tb (τ 0 7) = true → ¬ τ 0 8 < 0) : tb (stT τ 0 7) = true → ¬ stT τ 0 8 < 0 := by
  cases hs : stB τ with
  | false => exact ac_st hac hs
  | true =>
    intro ha
    unfold stT at ha
    rw [if_pos hs, ts_off (by decide), ts_at] at ha
    exact absurd ha (by decide)
theorem wcT_at {k mp : Nat} {num mark : Int32} : wcT τ k mp num mark 4 k = (if stB τ then -11 else num) ∧ wcT τ k mp num mark 5 k = (if stB τ then nI 0 else mark) := by
  unfold wcT
  split
  · exact ⟨by rw [ts_ne (by decide), ts_at], ts_at⟩
  · exact ⟨by rw [ts_ne (by decide), ts_at], ts_at⟩
theorem wcT_r3 {k mp : Nat} {num mark : Int32} : wcT τ k mp num mark 3 = wc1 τ k mp 3 := by
  unfold wcT
  split <;> rw [ts_ne (by decide), ts_ne (by decide)]
theorem wcT_3k {k mp x : Nat} {num mark : Int32} (hx : x < 64) : gt (wcT τ k mp num mark) k x = gt τ mp x := by
  unfold gt
  rw [wcT_r3]
  unfold wc1 cpT
  rw [va_up_self, if_pos (by omega), ts_ne (by decide), stT_row (by decide), show 64 * k + x - 64 * k = x by omega]
theorem wcT_3o {k mp m x : Nat} {num mark : Int32} (hm : m ≠ k) (hx : x < 64) : gt (wcT τ k mp num mark) m x = gt τ m x := by
  unfold gt
  rw [wcT_r3]
  unfold wc1 cpT
  rw [va_up_self, if_neg (by omega), ts_ne (by decide), stT_row (by decide)]
theorem wcT_6a {k mp : Nat} {num mark : Int32} : wcT τ k mp num mark 6 (k / 3) = τ 6 (k / 3) + nI 1 := by
  unfold wcT wc1
  split <;> rw [ts_ne (by decide), ts_ne (by decide), cpT_row (by decide), ts_at, stT_row (by decide)]
/-- a copy is written to a slot -/
theorem SI.wc {a q va k t : Nat} {mv : Option Nat} {g : Nat → Option Nat} (H : SI n E ca h N S τ κ) (hd : d < n) (hn : n ≤ 5) (hi : i < 3) (hk1 : 1 ≤ k) (hk2 : k ≤ N) (ht : t ≤ S) (hN : N < 2 ^ 31) (ha : h a = some (.inr (0, [.int (nI k), .int (nI t), .ref q]))) (hL : LyOk h ca τ 16 q va mv g) (hW : WFx n E τ 16) (hu : ∀ j, j < 3 → j ≠ i → ¬ (τ 4 (3 * d + j) = nI k ∧ τ 5 (3 * d + j) = nI t)) : SI n E ca h N S (wcT τ (3 * d + i) 16 (nI k) (nI t)) (pkK τ κ d i a) := by
  have hat := wcT_at (τ := τ) (k := 3 * d + i) (mp := 16) (num := nI k) (mark := nI t)
  refine ⟨?_, fun d' hd' => ⟨fun i' hi' => ?_, fun i' j' hi' hj' hne hp => ?_⟩, fun s hs => ?_⟩
  · rw [wcT_0]
    exact ac_stp H.1
  · by_cases e : 3 * d' + i' = 3 * d + i
    · obtain ⟨rfl, rfl⟩ : d' = d ∧ i' = i := ⟨by omega, by omega⟩
      cases hs : stB τ with
      | true =>
        refine Or.inl ⟨?_, Or.inl ?_⟩
        · unfold pkK
          rw [va_up_self, hs, if_pos rfl]
        · rw [hat.1, hs, if_pos rfl]
      | false =>
        refine Or.inr ⟨a, q, va, mv, g, k, t, ?_, ⟨?_, hk1, hk2⟩, ⟨?_, ht⟩, ha, hL.map hW (fun x hx => wcT_3k hx), hW.map (fun x hx => wcT_3k hx)⟩
        · unfold pkK
          rw [va_up_self, hs, if_neg (by decide)]
        · rw [hat.1, hs, if_neg (by decide)]
        · rw [hat.2, hs, if_neg (by decide)]
    · have h1 := wcT_45 (τ := τ) (k := 3 * d + i) (mp := 16) (num := nI k) (mark := nI t) (s := 3 * d' + i') e
      refine ((H.2.1 d' hd').1 i' hi').same ?_ h1.1 h1.2 (fun x hx => wcT_3o e hx)
      unfold pkK
      rw [va_up_ne _ _ (by omega)]
  · by_cases ed : d' = d
    · subst ed
      by_cases ei : i' = i
      · subst ei
        have h1 := wcT_45 (τ := τ) (k := 3 * d' + i') (mp := 16) (num := nI k) (mark := nI t) (s := 3 * d' + j') (by omega)
        rw [hat.1] at hp ⊢
        rw [hat.2, h1.1, h1.2]
        cases hs : stB τ with
        | true => rw [hs, if_pos rfl] at hp; exact absurd hp (by decide)
        | false =>
          rw [if_neg (by decide), if_neg (by decide)]
          exact fun hq => hu j' hj' (fun e => hne e.symm) ⟨hq.1.symm, hq.2.symm⟩
      · have h1 := wcT_45 (τ := τ) (k := 3 * d' + i) (mp := 16) (num := nI k) (mark := nI t) (s := 3 * d' + i') (by omega)
        rw [h1.1] at hp ⊢
        rw [h1.2]
        by_cases ej : j' = i
        · subst ej
          rw [hat.1, hat.2]
          cases hs : stB τ with
          | true =>
            rw [if_pos rfl]
            exact fun hq => by rw [hq.1] at hp; exact absurd hp (by decide)
          | false =>
            rw [if_neg (by decide), if_neg (by decide)]
            exact hu i' hi' ei
        · have h2 := wcT_45 (τ := τ) (k := 3 * d' + i) (mp := 16) (num := nI k) (mark := nI t) (s := 3 * d' + j') (by omega)
          rw [h2.1, h2.2]
          exact (H.2.1 d' hd').2 i' j' hi' hj' hne hp
    · have h1 := wcT_45 (τ := τ) (k := 3 * d + i) (mp := 16) (num := nI k) (mark := nI t) (s := 3 * d' + i') (by omega)
      have h2 := wcT_45 (τ := τ) (k := 3 * d + i) (mp := 16) (num := nI k) (mark := nI t) (s := 3 * d' + j') (by omega)
      rw [h1.1] at hp ⊢
      rw [h1.2, h2.1, h2.2]
      exact (H.2.1 d' hd').2 i' j' hi' hj' hne hp
  · rw [(wcT_45 (τ := τ) (k := 3 * d + i) (mp := 16) (num := nI k) (mark := nI t) (s := s) (by omega)).1]
    exact H.2.2 s hs
/-- an act that only counts -/
theorem SI.st (H : SI n E ca h N S τ κ) (hn : n ≤ 5) : SI n E ca h N S (stT τ) κ := H.same (ac_stp H.1) (stT_row (by decide)) (stT_row (by decide)) (fun m i _ _ => congrFun (stT_row (by decide)) _) (fun _ => rfl) hn
/-- a slot is emptied -/
theorem SI.clr (H : SI n E ca h N S τ κ) (hn : n ≤ 5) (hd : d < n) (hi : i < 3) : SI n E ca h N S (ts (ts τ 4 (3 * d + i) (nI 0)) 5 (3 * d + i) (nI 0)) (va_up κ (1 + 3 * d + i) none) := by
  have e4 : ∀ s, s ≠ 3 * d + i → ts (ts τ 4 (3 * d + i) (nI 0)) 5 (3 * d + i) (nI 0) 4 s = τ 4 s := fun s hs => by rw [ts_ne (by decide), ts_off hs]
  have e5 : ∀ s, s ≠ 3 * d + i → ts (ts τ 4 (3 * d + i) (nI 0)) 5 (3 * d + i) (nI 0) 5 s = τ 5 s := fun s hs => by rw [ts_off hs, ts_ne (by decide)]
  have z4 : ts (ts τ 4 (3 * d + i) (nI 0)) 5 (3 * d + i) (nI 0) 4 (3 * d + i) = nI 0 := by rw [ts_ne (by decide), ts_at]
  have e3 : ∀ m x, gt (ts (ts τ 4 (3 * d + i) (nI 0)) 5 (3 * d + i) (nI 0)) m x = gt τ m x := fun m x => by
    unfold gt
    rw [ts_ne (by decide), ts_ne (by decide)]
  refine ⟨?_, fun d' hd' => ⟨fun i' hi' => ?_, fun i' j' hi' hj' hne hp => ?_⟩, fun s hs => ?_⟩
  · rw [ts_ne (by decide), ts_ne (by decide)]
    exact H.1
  · by_cases e : 3 * d' + i' = 3 * d + i
    · obtain ⟨rfl, rfl⟩ : d' = d ∧ i' = i := ⟨by omega, by omega⟩
      exact Or.inl ⟨va_up_self _ _ _, Or.inr z4⟩
    · refine ((H.2.1 d' hd').1 i' hi').same (va_up_ne _ _ (by omega)) (e4 _ e) (e5 _ e) (fun x _ => e3 _ x)
  · by_cases e : 3 * d' + i' = 3 * d + i
    · rw [e, z4] at hp
      exact absurd hp (by decide)
    · by_cases e2 : 3 * d' + j' = 3 * d + i
      · rw [e4 _ e] at hp ⊢
        rw [e2, z4]
        exact fun hq => by rw [hq.1] at hp; exact absurd hp (by decide)
      · rw [e4 _ e] at hp ⊢
        rw [e5 _ e, e4 _ e2, e5 _ e2]
        exact (H.2.1 d' hd').2 i' j' hi' hj' hne hp
  · rw [e4 s (by omega)]
    exact H.2.2 s hs
end SIS
/-- what stays while copies are written -/
def FR (τ τ' : TS) (κ κ' : Nat → Option Nat) : Prop := (∀ j, j ≠ 5 → j ≠ 7 → j ≠ 8 → τ' 0 j = τ 0 j) ∧ (∀ m i, 15 ≤ m → i < 64 → gt τ' m i = gt τ m i) ∧ κ' 0 = κ 0 ∧ τ' 1 = τ 1
theorem FR.rf {τ : TS} {κ : Nat → Option Nat} : FR τ τ κ κ := ⟨fun _ _ _ _ => rfl, fun _ _ _ _ => rfl, rfl, rfl⟩
theorem FR.tr {τ τ1 τ2 : TS} {κ κ1 κ2 : Nat → Option Nat} (h1 : FR τ τ1 κ κ1) (h2 : FR τ1 τ2 κ1 κ2) : FR τ τ2 κ κ2 := ⟨fun j a b c => (h2.1 j a b c).trans (h1.1 j a b c), fun m i a b => (h2.2.1 m i a b).trans (h1.2.1 m i a b), h2.2.2.1.trans h1.2.2.1, h2.2.2.2.trans h1.2.2.2⟩
theorem FR.st {τ : TS} {κ : Nat → Option Nat} : FR τ (stT τ) κ κ := ⟨fun j h5 h7 h8 => stT_02 h5 h7 h8, fun m i _ _ => congrFun (stT_row (by decide)) _, rfl, stT_row (by decide)⟩
theorem FR.wc {τ : TS} {κ : Nat → Option Nat} {d i a : Nat} {num mark : Int32} (hd : d < 5) (hi : i < 3) : FR τ (wcT τ (3 * d + i) 16 num mark) κ (pkK τ κ d i a) := by
  refine ⟨fun j h5 h7 h8 => ?_, fun m x hm hx => wcT_3 (by omega) hm hx, ?_, wcT_1⟩
  · rw [wcT_0]
    exact stT_02 h5 h7 h8
  · unfold pkK
    rw [va_up_ne _ _ (by omega)]
