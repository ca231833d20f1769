/-! The class's object in the making, by roles; the invariant at the start. -/
def DC (ca : Nat → ClassId) (E c : Nat) (B : Nat → Nat) (d : Nat) : Nat → va_E
  | 0 => .inr (1, [.ref (B (4 + 4 * d)), .ref (B (5 + 4 * d)), .ref (B (6 + 4 * d)), .int (nI 1), .int (nI 1)])
  | 1 => .inl (ca 0, 4 * E, .inl (fun _ => 0))
  | 2 => .inl (ca 3, 3, .inr (.inr (.inr (.inr (va_up (fun _ => none) 0 (some c))))))
  | _ => .inl (ca 1, 3, .inl (fun _ => 0))
def dkG (B : Nat → Nat) (d : Nat) : Nat → Option Nat := fun k => if k < d then some (B (3 + 4 * k)) else none
def CLf (ca : Nat → ClassId) (n E dk c ly va : Nat) (B : Nat → Nat) (d : Nat) : Nat → Option va_E := fun r =>
  if r = 0 then some (.inr (4, [.int (nI E), .ref dk, .null, .null, .int 0, .int 0, .int 0, .int 0]))
  else if r = 1 then some (.inl (ca 2, n, .inr (.inr (.inr (.inr (dkG B d))))))
  else if r = 100 then some (.inr (0, [.int (nI 1), .int (nI 1), .ref ly]))
  else if r = 101 then some (.inr (2, [.ref va, .null]))
  else if r = 102 then some (.inl (ca 4, 4, .inr (.inr (.inr (.inr (fun _ => none))))))
  else if 3 ≤ r ∧ r < 3 + 4 * d then some (DC ca E c B ((r - 3) / 4) ((r - 3) % 4)) else none
section CLS
variable {ca : Nat → ClassId} {n E dk c ly va d : Nat} {B B' R : Nat → Nat} {f f' : Nat → Option va_E}
theorem CLf_d {r : Nat} (h1 : 3 ≤ r) (h2 : r < 100) : CLf ca n E dk c ly va B d r = if r < 3 + 4 * d then some (DC ca E c B ((r - 3) / 4) ((r - 3) % 4)) else none := by
  unfold CLf
  rw [if_neg (by omega), if_neg (by omega), if_neg (by omega), if_neg (by omega), if_neg (by omega)]
  by_cases h : r < 3 + 4 * d
  · rw [if_pos ⟨h1, h⟩, if_pos h]
  · rw [if_neg (fun q => h q.2), if_neg h]
theorem CLf_hi {r : Nat} (h : r = 0 ∨ 100 ≤ r) (hd : d ≤ 5) : CLf ca n E dk c ly va B d r = CLf ca n E dk c ly va (fun _ => 0) 0 r := by
  unfold CLf
  by_cases e0 : r = 0
  · rw [if_pos e0, if_pos e0]
  · have e1 : ¬ r = 1 := by omega
    have e2 : ¬ (3 ≤ r ∧ r < 3 + 4 * d) := by omega
    have e3 : ¬ (3 ≤ r ∧ r < 3 + 4 * 0) := by omega
    rw [if_neg e0, if_neg e0, if_neg e1, if_neg e1, if_neg e2, if_neg e3]
theorem DC_congr {k : Nat} (h : ∀ r, 3 + 4 * d ≤ r → r < 7 + 4 * d → B' r = B r) : DC ca E c B' d k = DC ca E c B d k := by
  match k with
  | 0 =>
    show (Sum.inr (1, [.ref (B' (4 + 4 * d)), .ref (B' (5 + 4 * d)), .ref (B' (6 + 4 * d)), .int (nI 1), .int (nI 1)]) : va_E) = Sum.inr (1, [.ref (B (4 + 4 * d)), .ref (B (5 + 4 * d)), .ref (B (6 + 4 * d)), .int (nI 1), .int (nI 1)])
    rw [h (4 + 4 * d) (by omega) (by omega), h (5 + 4 * d) (by omega) (by omega), h (6 + 4 * d) (by omega) (by omega)]
  | 1 => rfl
  | 2 => rfl
  | _ + 3 => rfl
/-- a disk more -/
theorem rf_disk {q0 q1 q2 q3 : Nat} (H : RF f B R (CLf ca n E dk c ly va B d)) (hB1 : B 1 = dk) (hd : d < 5) (n0 : f q0 = none) (n1 : f q1 = none) (n2 : f q2 = none) (n3 : f q3 = none) (e10 : q1 ≠ q0) (e20 : q2 ≠ q0) (e30 : q3 ≠ q0) (e21 : q2 ≠ q1) (e31 : q3 ≠ q1) (e32 : q3 ≠ q2) (hk : ∀ a x, a ≠ dk → f a = some x → f' a = some x) (h1 : f' dk = some (.inl (ca 2, n, .inr (.inr (.inr (.inr (va_up (dkG B d) d (some q0)))))))) (c0 : f' q0 = some (.inr (1, [.ref q1, .ref q2, .ref q3, .int (nI 1), .int (nI 1)]))) (c1 : f' q1 = some (.inl (ca 0, 4 * E, .inl (fun _ => 0)))) (c2 : f' q2 = some (.inl (ca 3, 3, .inr (.inr (.inr (.inr (va_up (fun _ => none) 0 (some c)))))))) (c3 : f' q3 = some (.inl (ca 1, 3, .inl (fun _ => 0)))) :
    ∃ B' R', RF f' B' R' (CLf ca n E dk c ly va B' (d + 1)) ∧ ∀ r, r < 3 ∨ 100 ≤ r → B' r = B r := by
  obtain ⟨B', eB⟩ : ∃ B' : Nat → Nat, B' = fun r => if r = 3 + 4 * d then q0 else if r = 4 + 4 * d then q1 else if r = 5 + 4 * d then q2 else if r = 6 + 4 * d then q3 else B r := ⟨_, rfl⟩
  obtain ⟨R', eR⟩ : ∃ R' : Nat → Nat, R' = fun a => if a = q0 then 3 + 4 * d else if a = q1 then 4 + 4 * d else if a = q2 then 5 + 4 * d else if a = q3 then 6 + 4 * d else R a := ⟨_, rfl⟩
  have b0 : B' (3 + 4 * d) = q0 := by rw [eB]; exact if_pos rfl
  have b1 : B' (4 + 4 * d) = q1 := by rw [eB]; show (if _ then _ else if _ then _ else _) = _; rw [if_neg (by omega), if_pos rfl]
  have b2 : B' (5 + 4 * d) = q2 := by rw [eB]; show (if _ then _ else if _ then _ else if _ then _ else _) = _; rw [if_neg (by omega), if_neg (by omega), if_pos rfl]
  have b3 : B' (6 + 4 * d) = q3 := by rw [eB]; show (if _ then _ else if _ then _ else if _ then _ else if _ then _ else _) = _; rw [if_neg (by omega), if_neg (by omega), if_neg (by omega), if_pos rfl]
  have bo : ∀ r, r < 3 + 4 * d ∨ 7 + 4 * d ≤ r → B' r = B r := fun r hr => by rw [eB]; show (if _ then _ else if _ then _ else if _ then _ else if _ then _ else _) = _; rw [if_neg (by omega), if_neg (by omega), if_neg (by omega), if_neg (by omega)]
  have r0 : R' q0 = 3 + 4 * d := by rw [eR]; exact if_pos rfl
  have r1 : R' q1 = 4 + 4 * d := by rw [eR]; show (if _ then _ else if _ then _ else _) = _; rw [if_neg e10, if_pos rfl]
  have r2 : R' q2 = 5 + 4 * d := by rw [eR]; show (if _ then _ else if _ then _ else if _ then _ else _) = _; rw [if_neg e20, if_neg e21, if_pos rfl]
  have r3 : R' q3 = 6 + 4 * d := by rw [eR]; show (if _ then _ else if _ then _ else if _ then _ else if _ then _ else _) = _; rw [if_neg e30, if_neg e31, if_neg e32, if_pos rfl]
  have ro : ∀ a y, f a = some y → R' a = R a := fun a y ha => by
    have z : ∀ q, f q = none → a ≠ q := fun q hq e => by rw [e, hq] at ha; cases ha
    rw [eR]
    show (if _ then _ else if _ then _ else if _ then _ else if _ then _ else _) = _
    rw [if_neg (z _ n0), if_neg (z _ n1), if_neg (z _ n2), if_neg (z _ n3)]
  have hB1' := (H 1 _ rfl).2
  refine ⟨B', R', fun i x hi => ?_, fun r hr => bo r (by omega)⟩
  by_cases ei : 3 + 4 * d ≤ i ∧ i < 7 + 4 * d
  · rw [CLf_d (by omega) (by omega), if_pos (by omega)] at hi
    have ed : (i - 3) / 4 = d := by omega
    rw [ed] at hi
    rcases (show i = 3 + 4 * d ∨ i = 4 + 4 * d ∨ i = 5 + 4 * d ∨ i = 6 + 4 * d by omega) with e | e | e | e
    · rw [show (i - 3) % 4 = 0 by omega] at hi
      rw [e, b0, r0]
      refine ⟨?_, rfl⟩
      rw [c0, ← hi]
      show _ = some (Sum.inr (1, [Value.ref (B' (4 + 4 * d)), Value.ref (B' (5 + 4 * d)), Value.ref (B' (6 + 4 * d)), Value.int (nI 1), Value.int (nI 1)]))
      rw [b1, b2, b3]
    · rw [show (i - 3) % 4 = 1 by omega] at hi
      rw [e, b1, r1]
      refine ⟨?_, rfl⟩
      rw [c1, ← hi]
      rfl
    · rw [show (i - 3) % 4 = 2 by omega] at hi
      rw [e, b2, r2]
      refine ⟨?_, rfl⟩
      rw [c2, ← hi]
      rfl
    · rw [show (i - 3) % 4 = 3 by omega] at hi
      rw [e, b3, r3]
      refine ⟨?_, rfl⟩
      rw [c3, ← hi]
      rfl
  · rw [bo i (by omega)]
    by_cases e1 : i = 1
    · subst e1
      have h5 := (H 1 _ rfl).1
      refine ⟨?_, by rw [ro _ _ h5]; exact hB1'⟩
      rw [hB1, h1]
      have hx : x = .inl (ca 2, n, .inr (.inr (.inr (.inr (dkG B' (d + 1)))))) := by cases hi; rfl
      rw [hx]
      have hg : va_up (dkG B d) d (some q0) = dkG B' (d + 1) := by
        funext k
        unfold dkG
        by_cases ek : k = d
        · subst ek
          rw [va_up_self, if_pos (by omega), b0]
        · rw [va_up_ne _ _ ek]
          by_cases hk2 : k < d
          · rw [if_pos hk2, if_pos (by omega), bo _ (by omega)]
          · rw [if_neg hk2, if_neg (by omega)]
      rw [hg]
    · have hold : CLf ca n E dk c ly va B d i = some x := by
        by_cases eh : i = 0 ∨ 100 ≤ i
        · rw [CLf_hi eh (by omega)] at hi
          rw [CLf_hi eh (by omega)]
          exact hi
        · by_cases e2 : i = 2
          · subst e2
            cases hi
          · rw [CLf_d (by omega) (by omega)] at hi
            rw [CLf_d (by omega) (by omega)]
            by_cases e3 : i < 3 + 4 * d
            · rw [if_pos (by omega), DC_congr (B := B) (fun r g1 g2 => bo r (by omega))] at hi
              rw [if_pos e3]
              exact hi
            · rw [if_neg (by omega)] at hi
              cases hi
      obtain ⟨g1, g2⟩ := H i x hold
      refine ⟨hk _ _ (fun e => e1 ?_) g1, by rw [ro _ _ g1]; exact g2⟩
      rw [← g2, e, ← hB1, hB1']
/-- the slots' copies at the start -/
def k1 (n c : Nat) : Nat → Option Nat := fun j => if j = 0 then some c else if (j - 1) % 3 = 0 ∧ (j - 1) / 3 < n then some c else none
def h1 (ca : Nat → ClassId) (c ly va : Nat) : Nat → Option va_E := fun a => if a = c then some (.inr (0, [.int (nI 1), .int (nI 1), .ref ly])) else if a = ly then some (.inr (2, [.ref va, .null])) else if a = va then some (.inl (ca 4, 4, .inr (.inr (.inr (.inr (fun _ => none)))))) else none
theorem dc_cw {k : Nat} (hd : d < n) (h : ∀ r, 3 + 4 * d ≤ r → r < 7 + 4 * d → B' r = B r) : cw_r B' ca E (t1 n) (k1 n c) d k = DC ca E c B d k := by
  match k with
  | 0 =>
    show (Sum.inr (1, [.ref (B' (4 + 4 * d)), .ref (B' (5 + 4 * d)), .ref (B' (6 + 4 * d)), .int (nI (wrN (t1 n) d % 3)), .int (bI (tb (t1 n 1 d)))]) : va_E) = Sum.inr (1, [.ref (B (4 + 4 * d)), .ref (B (5 + 4 * d)), .ref (B (6 + 4 * d)), .int (nI 1), .int (nI 1)])
    have e6 : t1 n 6 d = nI 1 := by rw [t1_6]; exact if_pos hd
    have e1 : t1 n 1 d = nI 1 := by rw [t1_1]; exact if_pos hd
    have ew : wrN (t1 n) d = 1 := by unfold wrN; rw [e6]; decide
    rw [h (4 + 4 * d) (by omega) (by omega), h (5 + 4 * d) (by omega) (by omega), h (6 + 4 * d) (by omega) (by omega), ew, e1]
    rfl
  | 1 =>
    show (Sum.inl (ca 0, 4 * E, .inl (cw_z E (t1 n) d)) : va_E) = Sum.inl (ca 0, 4 * E, .inl (fun _ => 0))
    have e : cw_z E (t1 n) d = fun _ => 0 := by
      funext i
      unfold cw_z
      rw [t1_2]
      split <;> rfl
    rw [e]
  | 2 =>
    show (Sum.inl (ca 3, 3, .inr (.inr (.inr (.inr (cw_k (k1 n c) d))))) : va_E) = Sum.inl (ca 3, 3, .inr (.inr (.inr (.inr (va_up (fun _ => none) 0 (some c))))))
    have e : cw_k (k1 n c) d = va_up (fun _ => none) 0 (some c) := by
      funext i
      unfold cw_k k1
      by_cases e0 : i = 0
      · subst e0
        rw [va_up_self, if_pos (by decide), if_neg (by omega), if_pos (by omega)]
      · rw [va_up_ne _ _ e0]
        by_cases e3 : i < 3
        · rw [if_pos e3, if_neg (by omega), if_neg (by omega)]
        · rw [if_neg e3]
    rw [e]
  | _ + 3 =>
    show (Sum.inl (ca 1, 3, .inl (cw_t (t1 n) d)) : va_E) = Sum.inl (ca 1, 3, .inl (fun _ => 0))
    have e : cw_t (t1 n) d = fun _ => 0 := by
      funext i
      unfold cw_t
      rw [t1_4]
      by_cases e3 : i < 3
      · rw [if_pos e3, decide_eq_false]
        · rfl
        · unfold oneT
          split <;> decide
      · rw [if_neg e3]
    rw [e]
theorem t1_wf {mp : Nat} (hm : mp < 17) : WFx n E (t1 n) mp := by
  have hz : ∀ i, i < 64 → i ≠ 60 → gt (t1 n) mp i = 0 := fun i hi h => by rw [t1_3 hm hi, if_neg h]
  have gz : ∀ i, i < 64 → i ≠ 60 → gN (t1 n) mp i = 0 := fun i hi h => by unfold gN; rw [hz i hi h]; decide
  have ez : ∀ v, v < 4 → exN (t1 n) mp v = 0 := fun v hv => by unfold exN; rw [gz (15 * v) (by omega) (by omega), Nat.zero_mul]
  refine ⟨⟨fun i hi h60 => by rw [hz i hi h60]; decide, fun v hv => by rw [gz (15 * v) (by omega) (by omega)]; omega⟩, fun v hv hr => absurd (by rw [hz (15 * v + 2) (by omega) (by omega)]; decide) hr, fun v hv k hk => absurd hk (by rw [ez v hv]; omega), fun hq => absurd (by rw [t1_3 hm (by decide), if_pos rfl]; decide) hq⟩
theorem t1_ly {h : Nat → Option va_E} {mp : Nat} (hm : mp < 17) (e1 : h ly = some (.inr (2, [.ref va, .null]))) (e2 : h va = some (.inl (ca 4, 4, .inr (.inr (.inr (.inr (fun _ => none))))))) : LyOk h ca (t1 n) mp ly va none (fun _ => none) := by
  refine ⟨e1, e2, fun v hv => Or.inl ⟨rfl, ?_⟩, Or.inl ⟨rfl, ?_⟩⟩
  · rw [t1_3 hm (by omega), if_neg (by omega)]
    decide
  · rw [t1_3 hm (by decide), if_pos rfl]
    decide
theorem inv_1 {bx : Nat → Nat} (hn : n ≤ 5) (hd : HD bx n (h1 ca c ly va)) (n1 : ly ≠ c) (n2 : va ≠ c) (n3 : va ≠ ly) : INV bx ca n E 1 (t1 n) (k1 n c) (h1 ca c ly va) := by
  have e1 : h1 ca c ly va c = some (.inr (0, [.int (nI 1), .int (nI 1), .ref ly])) := if_pos rfl
  have e2 : h1 ca c ly va ly = some (.inr (2, [.ref va, .null])) := by unfold h1; rw [if_neg n1, if_pos rfl]
  have e3 : h1 ca c ly va va = some (.inl (ca 4, 4, .inr (.inr (.inr (.inr (fun _ => none)))))) := by unfold h1; rw [if_neg n2, if_neg n3, if_pos rfl]
  have z0 : ∀ d i, i < 3 → i ≠ 0 → oneT n (3 * d + i) = nI 0 := fun d i h1 h2 => by
    unfold oneT
    rw [if_neg (by omega)]
    rfl
  have z1 : ∀ d, d < n → oneT n (3 * d + 0) = nI 1 := fun d hd => by
    unfold oneT
    rw [if_pos (by omega)]
  refine ⟨hd, ⟨c, ly, va, none, fun _ => none, rfl, by rw [t1_02.1, t1_02.2.1]; exact e1, t1_ly (by decide) e2 e3⟩, t1_wf (by decide), ⟨1, t1_02.1, Nat.le_refl _, Nat.le_refl _⟩, ⟨1, t1_02.2.2.1, Nat.le_refl _, ?_⟩, fun d _ => ?_, ⟨0, t1_0 (by decide) (by decide) (by decide) (by decide), by decide⟩⟩
  · refine ⟨fun q => ?_, fun d hd => ⟨fun i hi => ?_, fun i j hi hj hne hp hq => ?_⟩, fun s hs => ?_⟩
    · rw [t1_0 (by decide) (by decide) (by decide) (by decide)] at q
      exact absurd q (by decide)
    · unfold SLI
      rw [t1_4, t1_5]
      by_cases e0 : i = 0
      · subst e0
        refine Or.inr ⟨c, ly, va, none, fun _ => none, 1, 1, ?_, ⟨z1 d hd, Nat.le_refl _, Nat.le_refl _⟩, ⟨z1 d hd, Nat.le_refl _⟩, e1, t1_ly (by omega) e2 e3, t1_wf (by omega)⟩
        unfold k1
        rw [if_neg (by omega), if_pos (by omega)]
      · refine Or.inl ⟨?_, Or.inr (z0 d i hi e0)⟩
        unfold k1
        rw [if_neg (by omega), if_neg (by omega)]
    · rw [t1_4] at hp hq
      have i0 : i = 0 := by
        by_cases e0 : i = 0
        · exact e0
        · rw [z0 d i hi e0] at hp
          exact absurd hp (by decide)
      subst i0
      rw [z1 d hd, z0 d j hj (fun e => hne e.symm)] at hq
      exact absurd hq.1 (by decide)
    · rw [t1_4]
      unfold oneT
      rw [if_neg (by omega)]
      rfl
  · rw [t1_6]
    unfold oneB
    split
    · exact ⟨1, rfl, Nat.le_refl _⟩
    · exact ⟨0, rfl, by decide⟩
/-- the class's world out of roles -/
theorem cw_of {tys : List (ClassId × FieldType)} {o qt : Nat} (hty : TYS tys ca) (hn : 2 ≤ n ∧ n ≤ 5) (hE : 2 ≤ E ∧ E ≤ 10) (H : RF f B R (CLf ca n E dk c ly va B n)) (b0 : B 0 = o) (b1 : B 1 = dk) (bc : B 100 = c) (bl : B 101 = ly) (bv : B 102 = va) (nt : f qt = none) (hk : ∀ a x, a ≠ o → f a = some x → f' a = some x) (ht : f' qt = some (.inl (ca 0, n, .inl (fun _ => 0)))) (ho : f' o = some (.inr (4, [.int (nI E), .ref dk, .ref qt, .ref c, .int (nI 0), .int (nI 1), .int (nI 1), .int (-1)]))) :
    ∃ (bx rl : Nat → Nat) (κ : Nat → Option Nat) (h : Nat → Option va_E), bx 0 = o ∧ CX bx rl ca tys n E ∧ INV bx ca n E 1 (t1 n) κ h ∧ ∀ a x, cw bx rl ca n E (t1 n) κ (fun _ => 0) h a = some x → f' a = some x := by
  have n5 := hn.2
  have R0 := H 0 _ rfl
  have R1 := H 1 _ rfl
  have Rc := H 100 _ rfl
  have Rl := H 101 _ rfl
  have Rv := H 102 _ rfl
  rw [b0] at R0
  rw [b1] at R1
  rw [bc] at Rc
  rw [bl] at Rl
  rw [bv] at Rv
  have nq : ∀ a y, f a = some y → a ≠ qt := fun a y ha e => by rw [e, nt] at ha; cases ha
  have b' : ∀ r, r ≠ 2 → va_up B 2 qt r = B r := fun r hr => va_up_ne _ _ hr
  have ne : ∀ a b, R a ≠ R b → a ≠ b := fun a b h e => h (by rw [e])
  -- by role
  have key : ∀ r, r < 3 + 4 * n → f' (va_up B 2 qt r) = some (cw_c (va_up B 2 qt) ca n E (t1 n) (k1 n c) (fun _ => 0) r) ∧ va_up R qt 2 (va_up B 2 qt r) = r := fun r hr => by
    by_cases e0 : r = 0
    · subst e0
      rw [b' 0 (by decide), b0, va_up_ne _ _ (nq _ _ R0.1)]
      refine ⟨?_, R0.2⟩
      rw [ho]
      show _ = some (Sum.inr (4, [Value.int (nI E), Value.ref (va_up B 2 qt 1), Value.ref (va_up B 2 qt 2), va_rf (k1 n c 0), Value.int (t1 n 0 6), Value.int (t1 n 0 4), Value.int (bI (tb (t1 n 0 5))), Value.int (acI (t1 n))]))
      have ea : acI (t1 n) = -1 := by
        unfold acI
        rw [t1_0 (by decide) (by decide) (by decide) (by decide), if_neg (by decide)]
      rw [b' 1 (by decide), b1, va_up_self, t1_0 (j := 6) (by decide) (by decide) (by decide) (by decide), t1_02.2.2.1, t1_02.2.2.2, ea]
      rfl
    · by_cases e1 : r = 1
      · subst e1
        rw [b' 1 (by decide), b1, va_up_ne _ _ (nq _ _ R1.1)]
        refine ⟨?_, R1.2⟩
        rw [hk _ _ (ne _ _ (by rw [R1.2, R0.2]; decide)) R1.1]
        show some (Sum.inl (ca 2, n, .inr (.inr (.inr (.inr (dkG B n))))) : va_E) = some (Sum.inl (ca 2, n, .inr (.inr (.inr (.inr (cw_n n (va_up B 2 qt)))))))
        have hg : dkG B n = cw_n n (va_up B 2 qt) := by
          funext k
          unfold dkG cw_n
          rw [b' (3 + 4 * k) (by omega)]
        rw [hg]
      · by_cases e2 : r = 2
        · subst e2
          rw [va_up_self, va_up_self]
          exact ⟨ht, rfl⟩
        · obtain ⟨s, rfl⟩ : ∃ s, r = s + 3 := ⟨r - 3, by omega⟩
          have hcl : CLf ca n E dk c ly va B n (s + 3) = some (DC ca E c B (s / 4) (s % 4)) := by
            rw [CLf_d (by omega) (by omega), if_pos (by omega)]
            rfl
          obtain ⟨g1, g2⟩ := H _ _ hcl
          rw [b' _ e2, va_up_ne _ _ (nq _ _ g1)]
          refine ⟨?_, g2⟩
          rw [hk _ _ (ne _ _ (by rw [g2, R0.2]; omega)) g1]
          show _ = some (cw_r (va_up B 2 qt) ca E (t1 n) (k1 n c) (s / 4) (s % 4))
          rw [dc_cw (B := B) (by omega) (fun r h3 h4 => b' r (by omega))]
  have rc : va_up R qt 2 c = 100 := by rw [va_up_ne _ _ (nq _ _ Rc.1)]; exact Rc.2
  have rly : va_up R qt 2 ly = 101 := by rw [va_up_ne _ _ (nq _ _ Rl.1)]; exact Rl.2
  have rv : va_up R qt 2 va = 102 := by rw [va_up_ne _ _ (nq _ _ Rv.1)]; exact Rv.2
  refine ⟨va_up B 2 qt, va_up R qt 2, k1 n c, h1 ca c ly va, (b' 0 (by decide)).trans b0, ⟨fun i hi => (key i hi).2, hty, hn, hE⟩, inv_1 n5 (fun r hr => ?_) (ne _ _ (by rw [Rl.2, Rc.2]; decide)) (ne _ _ (by rw [Rv.2, Rc.2]; decide)) (ne _ _ (by rw [Rv.2, Rl.2]; decide)), fun a x hx => ?_⟩
  · have z := (key r hr).2
    have zz : ∀ a, 100 ≤ va_up R qt 2 a → va_up B 2 qt r ≠ a := fun a h e => by rw [e] at z; omega
    unfold h1
    rw [if_neg (zz c (by omega)), if_neg (zz ly (by omega)), if_neg (zz va (by omega))]
  · unfold cw at hx
    by_cases hr : va_up R qt 2 a < 3 + 4 * n ∧ va_up B 2 qt (va_up R qt 2 a) = a
    · rw [if_pos hr] at hx
      have g1 := (key _ hr.1).1
      rw [hr.2, hx] at g1
      exact g1
    · rw [if_neg hr] at hx
      unfold h1 at hx
      by_cases a1 : a = c
      · subst a1
        rw [if_pos rfl] at hx
        rw [← hx]
        exact hk _ _ (ne _ _ (by rw [Rc.2, R0.2]; decide)) Rc.1
      · rw [if_neg a1] at hx
        by_cases a2 : a = ly
        · subst a2
          rw [if_pos rfl] at hx
          rw [← hx]
          exact hk _ _ (ne _ _ (by rw [Rl.2, R0.2]; decide)) Rl.1
        · rw [if_neg a2] at hx
          by_cases a3 : a = va
          · subst a3
            rw [if_pos rfl] at hx
            rw [← hx]
            exact hk _ _ (ne _ _ (by rw [Rv.2, R0.2]; decide)) Rv.1
          · rw [if_neg a3] at hx
            cases hx
end CLS
theorem cl_mm {hi : Nat} (h2 : 2 ≤ hi) (h3 : hi < 2 ^ 31) {x : Int32} : (if nI hi < (if x < nI 2 then nI 2 else x) then nI hi else (if x < nI 2 then nI 2 else x)) = nI (clN hi x) := by
  by_cases a : x < nI 2
  · rw [if_pos a, clN_lo a, if_neg]
    exact Int32.not_lt.mpr (nI_le h2 h3)
  · rw [if_neg a]
    by_cases b : nI hi < x
    · rw [if_pos b, clN_hi a b]
    · rw [if_neg b, clN_in a b]
