/-! create, extend and the methods that commit nothing keep the invariant; what the reference's create and extend ask. -/
theorem arT_lo {σ : TS} {E a0 m x : Nat} {Q : Nat → Bool} (hm : m < 16) (hx : x < 64) : ∀ d, gt (arT σ E Q a0 d) m x = gt σ m x
  | 0 => rfl
  | d + 1 => by
    rw [arT_s]
    split
    · rw [ts3_off (by omega)]
      exact arT_lo hm hx d
    · exact arT_lo hm hx d
theorem adT_lo {σ : TS} {n E v m x : Nat} (hm : m < 16) (hx : x < 64) : ∀ i, gt (adT σ n E v i) m x = gt σ m x
  | 0 => rfl
  | i + 1 => by
    have ih := adT_lo (σ := σ) (n := n) (E := E) (v := v) hm hx i
    show gt (arP (adT σ n E v i) n E v).2 m x = _
    unfold arP
    split
    · exact ih
    · show gt (ts (arW (adT σ n E v i) n E v n) 3 (64 * 16 + (15 * v + 2)) _) m x = _
      rw [ts3_off (by omega)]
      exact (arT_lo hm hx n).trans ih
def OKs (σ τ : TS) : Prop := (∀ j, j ≠ 5 → j ≠ 7 → j ≠ 8 → σ 0 j = τ 0 j) ∧ (∀ r, 2 < r → σ r = τ r) ∧ (tb (σ 0 7) = true → ¬ σ 0 8 < 0)
section OKS
variable {bx : Nat → Nat} {ca : Nat → ClassId} {n E C : Nat} {σ τ : TS} {κ κ' : Nat → Option Nat} {h h' : Nat → Option va_E}
theorem OKs.st (h : OKs σ τ) : OKs (stT σ) τ := ⟨fun j a b c => (stT_02 a b c).trans (h.1 j a b c), fun r hr => (stT_row (by omega)).trans (h.2.1 r hr), ac_stp h.2.2⟩
theorem OKs.t {i a : Nat} {x : Int32} (hi : i = 1 ∨ i = 2) (h : OKs σ τ) : OKs (ts σ i a x) τ := ⟨fun j b c d => by rw [ts_ne (by omega)]; exact h.1 j b c d, fun r hr => by rw [ts_ne (by omega)]; exact h.2.1 r hr, by rw [ts_ne (by omega)]; exact h.2.2⟩
theorem INV.rf (H : INV bx ca n E C τ κ h) : OKs τ τ := ⟨fun _ _ _ _ => rfl, fun _ _ => rfl, H.hac⟩
theorem INV.oks (H : INV bx ca n E C τ κ h) (hn : n ≤ 5) (ho : OKs σ τ) : INV bx ca n E (C + 1) σ κ h := H.same hn H.1 Ext.rf (ho.1 2 (by decide) (by decide) (by decide)) (ho.1 3 (by decide) (by decide) (by decide)) (ho.1 4 (by decide) (by decide) (by decide)) (by rw [ho.1 6 (by decide) (by decide) (by decide)]; exact H.2.2.2.2.2.2) ho.2.2 (ho.2.1 4 (by decide)) (ho.2.1 5 (by decide)) (ho.2.1 6 (by decide)) (fun m i _ _ => congrFun (ho.2.1 3 (by decide)) _)
theorem INV.write {v b x : Int32} (H : INV bx ca n E C τ κ h) (hn : n ≤ 5) : INV bx ca n E (C + 1) (wrP τ v b x).2 κ h := by
  have o1 : ∀ i j, OKs (wr1 τ i j x) τ := fun i j => by
    unfold wr1
    exact H.rf.st.t (Or.inr rfl)
  have o2 : ∀ i j, OKs (wr2 τ i j x) τ := fun i j => by
    unfold wr2
    exact (o1 i j).st.t (Or.inr rfl)
  refine H.oks hn ?_
  unfold wrP
  split
  · split
    · split
      · split
        · exact H.rf.st
        · split
          · split
            · exact (o1 _ _).st
            · exact o2 _ _
          · exact o1 _ _
      · exact H.rf
    · exact H.rf
  · exact H.rf
theorem INV.pull {d : Int32} (H : INV bx ca n E C τ κ h) (hn : n ≤ 5) : INV bx ca n E (C + 1) (puP τ n d).2 κ h := by
  refine H.oks hn ?_
  unfold puP
  split
  · exact H.rf.t (Or.inl rfl)
  · exact H.rf
theorem INV.plug {d : Int32} (H : INV bx ca n E C τ κ h) (hn : n ≤ 5) : INV bx ca n E (C + 1) (plP τ n d).2 κ h := by
  refine H.oks hn ?_
  unfold plP
  split
  · exact H.rf.t (Or.inl rfl)
  · exact H.rf
theorem INV.arm {k : Int32} (H : INV bx ca n E C τ κ h) (hn : n ≤ 5) : INV bx ca n E (C + 1) (amP τ k).2 κ h := by
  refine H.oks hn ?_
  unfold amP
  split
  · exact H.rf
  · rename_i hk
    refine ⟨fun j a b c => ?_, fun r hr => ?_, fun _ => ?_⟩
    · show ts (ts τ 0 7 _) 0 8 _ 0 j = _
      rw [ts_off c, ts_off b]
    · show ts (ts τ 0 7 _) 0 8 _ r = _
      rw [ts_ne (by omega), ts_ne (by omega)]
    · show ¬ ts (ts τ 0 7 (nI 1)) 0 8 k 0 8 < 0
      rw [ts_at]
      exact fun q => hk (Or.inl q)
theorem INV.crash (H : INV bx ca n E C τ κ h) (hn : n ≤ 5) : INV bx ca n E (C + 1) (crP τ).2 κ h := by
  refine H.oks hn ?_
  unfold crP
  split
  · refine ⟨fun j a b c => ?_, fun r hr => ?_, fun ha => ?_⟩
    · show ts (ts τ 0 5 _) 0 7 _ 0 j = _
      rw [ts_off b, ts_off a]
    · show ts (ts τ 0 5 _) 0 7 _ r = _
      rw [ts_ne (by omega), ts_ne (by omega)]
    · have ha2 : tb (ts (ts τ 0 5 (nI 0)) 0 7 (nI 0) 0 7) = true := ha
      rw [ts_at] at ha2
      exact absurd ha2 (by decide)
  · exact H.rf
/-- all that is told of a draft with all its rows -/
theorem AG.all {P : Nat → Int32} {v w f0 r' : Nat} {c : Int32} (hw : WFx n E τ 15) (hn : n ≤ 5) (hE : E ≤ 10) (hv : v < 4) (hw0 : 0 < w) (hw4 : w ≤ 4) (h12 : w * (f0 + r') ≤ 12) (hc : c = nI 1 ∨ c = nI 2 ∨ c = nI 4) (hb : AG τ σ (usedB τ 15) P v w f0 c) (hP : RgP n E P (f0 * w)) (hq : ¬ fsL (qR σ n E v) r' < r') (hmv : ¬ gt τ 15 60 < 0 → gN τ 15 60 < 4 ∧ gN τ 15 60 ≠ v ∧ gN τ 15 61 < 12) : WFx n E (adT σ n E v r') 16 := by
  have g1 := hb.run hn hE hv hw0 hw4 h12 r' (Nat.le_refl _) (fsL_all hq)
  have e1 := hb.fs hn hE hv hw0 hw4 h12 r' (Nat.le_refl _)
  have hq2 : ¬ fsL (qT τ n E w) r' < r' := by rw [← e1]; exact hq
  have g2 := twP_rg hn hE hP r' (fsL_all hq2)
  rw [Nat.mul_comm] at g2
  exact g1.wx hw hv hw0 hc h12 g2 hmv
theorem INV.create {b : Bool} {w c r : Int32} (hE : E ≤ 10) (hb : b = (tb (τ 0 5) && shB w c r && (!fewB τ n && (decide ((fsL (qV τ) 4) < 4) && !decide (fsL (qR (cr0 τ (fsL (qV τ) 4) w c) n E (fsL (qV τ) 4)) r.toNatClampNeg < r.toNatClampNeg))))) (H : INV bx ca n E C τ κ h) (hn : n ≤ 5) (hC : C + 1 < 2 ^ 31) (hR : PubRes bx ca n (adT (cr0 τ (fsL (qV τ) 4) w c) n E (fsL (qV τ) 4) r.toNatClampNeg) κ h b κ' h') : INV bx ca n E (C + 1) (ctP τ n E w c r).2 κ' h' := by
  rcases hR with ⟨e, rfl, x, hd⟩ | ⟨e, hR⟩
  · have H0 : INV bx ca n E (C + 1) τ κ' h' := H.sr hn hd x SameR.rf (fun _ _ _ _ => rfl)
    rw [hb] at e
    unfold ctP
    cases h1 : tb (τ 0 5) with
    | false => exact H0
    | true =>
      cases h2 : shB w c r with
      | false => exact H0
      | true =>
        rw [h1, h2] at e
        rw [if_pos rfl, if_pos rfl]
        cases h3 : fewB τ n with
        | true => exact H0
        | false =>
          rw [h3] at e
          rw [if_neg (by decide)]
          by_cases h4 : fsL (qV τ) 4 < 4
          · rw [decide_eq_true h4] at e
            have h5 : fsL (qR (cr0 τ (fsL (qV τ) 4) w c) n E (fsL (qV τ) 4)) r.toNatClampNeg < r.toNatClampNeg := by simpa using e
            rw [if_pos h4, ad_few h5]
            exact H.sr hn hd x (cr_same.ad _) (fun m i hm hi => (adT_lo hm hi _).trans (cr_lo h4 hm hi))
          · rw [if_neg h4]
            exact H0
  · rw [hb] at e
    simp only [Bool.and_eq_true, Bool.not_eq_true', decide_eq_true_eq, decide_eq_false_iff_not] at e
    obtain ⟨⟨e1, e2⟩, e3, e4, e5⟩ := e
    have ew : (ctP τ n E w c r).2 = cmW (adT (cr0 τ (fsL (qV τ) 4) w c) n E (fsL (qV τ) 4) r.toNatClampNeg) n := by
      unfold ctP
      rw [e1, e2, e3, if_pos rfl, if_pos rfl, if_neg (by decide), if_pos e4, ad_ok e5 rfl]
    have e2' := e2
    rw [shB_eq, Bool.and_eq_true] at e2'
    obtain ⟨w', w1, w4, rfl, cw', hch, hc0⟩ := sh_t e2'.1
    have e7 := e2'.2
    rw [cw'] at e7
    simp only [Bool.and_eq_true, Bool.not_eq_true', decide_eq_true_eq, decide_eq_false_iff_not] at e7
    have hd12 : 12 / w' ≤ 12 := Nat.div_le_self _ _
    obtain ⟨r', r1, r2, rfl, cr⟩ := rg_of (by omega) e7.1 e7.2
    have h12 : w' * r' ≤ 12 := by rw [Nat.mul_comm]; exact (Nat.le_div_iff_mul_le (by omega)).mp r2
    have zv : gt τ 15 (15 * fsL (qV τ) 4 + 2) ≤ 0 := of_decide_eq_true (fsL_q e4)
    rw [ew]
    rw [cr] at e5 hR ⊢
    have hw := H.2.2.1
    exact H.commit hn hC (cr_same.ad _) (fun m i hm hi => (adT_lo hm hi _).trans (cr_lo e4 hm hi)) (AG.all hw hn hE e4 w1 w4 (by rw [Nat.zero_add]; exact h12) hch (AG.cr (P := fun _ => 0) hw.1 e4 w4 hc0 zv) (fun k hk => absurd hk (by omega)) e5 (cr_mv hw e4 zv)) hR
theorem INV.extend {b : Bool} {v r : Int32} (hE : E ≤ 10) (hb : b = (tb (τ 0 5) && (volB τ v && (!decide (r < nI 1) && decide (r ≤ nI (12 / gN τ 15 (15 * v.toNatClampNeg) - gN τ 15 (15 * v.toNatClampNeg + 2))))) && (!fewB τ n && (!mvB τ v && !decide (fsL (qR (cpT τ 15 16 64) n E v.toNatClampNeg) r.toNatClampNeg < r.toNatClampNeg))))) (H : INV bx ca n E C τ κ h) (hn : n ≤ 5) (hC : C + 1 < 2 ^ 31) (hR : PubRes bx ca n (adT (cpT τ 15 16 64) n E v.toNatClampNeg r.toNatClampNeg) κ h b κ' h') : INV bx ca n E (C + 1) (xtP τ n E v r).2 κ' h' := by
  rcases hR with ⟨e, rfl, x, hd⟩ | ⟨e, hR⟩
  · have H0 : INV bx ca n E (C + 1) τ κ' h' := H.sr hn hd x SameR.rf (fun _ _ _ _ => rfl)
    rw [hb] at e
    unfold xtP
    cases h1 : tb (τ 0 5) with
    | false => exact H0
    | true =>
      cases h2 : (volB τ v && (!decide (r < nI 1) && decide (r ≤ nI (12 / gN τ 15 (15 * v.toNatClampNeg) - gN τ 15 (15 * v.toNatClampNeg + 2))))) with
      | false => exact H0
      | true =>
        rw [h1, h2] at e
        rw [if_pos rfl, if_pos rfl]
        cases h3 : fewB τ n with
        | true => exact H0
        | false =>
          rw [h3] at e
          rw [if_neg (by decide)]
          cases h4 : mvB τ v with
          | true => exact H0
          | false =>
            rw [h4] at e
            have h5 : fsL (qR (cpT τ 15 16 64) n E v.toNatClampNeg) r.toNatClampNeg < r.toNatClampNeg := by simpa using e
            rw [if_neg (by decide), ad_few h5]
            exact H.sr hn hd x (SameR.cp.ad _) (fun m i hm hi => (adT_lo hm hi _).trans (cp_lo hm hi))
  · rw [hb] at e
    simp only [Bool.and_eq_true, Bool.not_eq_true', decide_eq_true_eq, decide_eq_false_iff_not] at e
    obtain ⟨⟨e1, e2, e3, e4⟩, e5, e6, e7⟩ := e
    have ew : (xtP τ n E v r).2 = cmW (adT (cpT τ 15 16 64) n E v.toNatClampNeg r.toNatClampNeg) n := by
      unfold xtP
      rw [e1, e2, e5, e6, decide_eq_false e3, decide_eq_true e4, if_pos rfl, if_pos (by decide), if_neg (by decide), if_neg (by decide), ad_ok e7 rfl]
    obtain ⟨j, hj, rfl, cj, pj⟩ := volB_t e2
    rw [cj] at e4 e7 hR ew
    have hw := H.2.2.1
    have hwd := hw.2.1 j hj pj
    have hw4 := (hw.1.2 j hj).1
    have hx16 := hw.1.ex hj
    have hd12 : 12 / gN τ 15 (15 * j) ≤ 12 := Nat.div_le_self _ _
    have hsub : gN τ 15 (15 * j + 2) ≤ 12 / gN τ 15 (15 * j) := (Nat.le_div_iff_mul_le (by omega)).mpr (by rw [Nat.mul_comm]; exact hx16)
    obtain ⟨r', r1, r2, rfl, cr⟩ := rg_of (by omega) e3 e4
    have h12 : gN τ 15 (15 * j) * (gN τ 15 (15 * j + 2) + r') ≤ 12 := by rw [Nat.mul_comm]; exact (Nat.le_div_iff_mul_le (by omega)).mp (by omega)
    rw [ew]
    rw [cr] at e7 hR ⊢
    have hch : gt τ 15 (15 * j + 1) = nI 1 ∨ gt τ 15 (15 * j + 1) = nI 2 ∨ gt τ 15 (15 * j + 1) = nI 4 := by
      rw [hw.1.n (i := 15 * j + 1) (by omega) (by omega)]
      rcases hwd.2 with q | q | q <;> rw [q]
      · exact Or.inl rfl
      · exact Or.inr (Or.inl rfl)
      · exact Or.inr (Or.inr rfl)
    refine H.commit hn hC (SameR.cp.ad _) (fun m i hm hi => (adT_lo hm hi _).trans (cp_lo hm hi)) (AG.all hw hn hE hj (by omega) hw4 h12 hch (AG.xt (P := fun k => gt τ 15 (15 * j + 3 + k)) hw.1 hj (fun k _ => rfl)) (fun k hk => ?_) e7 (mv_ne hw hj e6)) hR
    have hk2 : k < exN τ 15 j := by unfold exN; rw [Nat.mul_comm]; exact hk
    exact hw.2.2.1 j hj k hk2
/-- what the reference's create and extend ask -/
theorem INV.h6 (H : INV bx ca n E C τ κ h) (hC : C + 1 < 2 ^ 31) : ∀ d, d < 5 → ¬ τ 6 d < 0 := fun d hd => by
  obtain ⟨k, h1, h2⟩ := H.2.2.2.2.2.1 d hd
  rw [h1]
  exact nI_pos (by omega)
theorem INV.c6 {w c : Int32} (H : INV bx ca n E C τ κ h) (hC : C + 1 < 2 ^ 31) : ∀ v i d : Nat, d < 5 → ¬ adT (cr0 τ v w c) n E v i 6 d < 0 := fun v i d hd => by
  have e : cr0 τ v w c 6 = τ 6 := cr_same.2.2.2.2.2
  rw [adT_row (by decide), e]
  exact H.h6 hC d hd
theorem INV.x6 {v : Int32} (H : INV bx ca n E C τ κ h) (hC : C + 1 < 2 ^ 31) : ∀ j i d : Nat, v = nI j → d < 5 → ¬ adT (cpT τ 15 16 64) n E j i 6 d < 0 := fun j i d _ hd => by
  rw [adT_row (by decide), cpT_row (by decide)]
  exact H.h6 hC d hd
theorem INV.cok {w c r : Int32} (hn : n ≤ 5) (hE : E ≤ 10) (H : INV bx ca n E C τ κ h) : ∀ v w' r' i : Nat, w = nI w' → (c = nI 1 ∨ c = nI 2 ∨ c = nI 4) → r = nI r' → v < 4 → gt τ 15 (15 * v + 2) ≤ 0 → 1 ≤ w' → w' ≤ 4 → r' ≤ 12 / w' → i < r' → (∀ k, k < i → qR (cr0 τ v w c) n E v k = false) → ArOk (adT (cr0 τ v w c) n E v i) n E v := by
  intro v w' r' i ew hc _ hv hz w1 w4 hr hi hq
  subst ew
  have h12 : w' * r' ≤ 12 := by rw [Nat.mul_comm]; exact (Nat.le_div_iff_mul_le (by omega)).mp hr
  have hc0 : ¬ c < 0 := by rcases hc with q | q | q <;> subst q <;> decide
  exact AG.oki hn hE hv w1 w4 h12 (AG.cr (P := fun _ => 0) H.2.2.1.1 hv w4 hc0 hz) (by omega) hq
theorem INV.xok {v r : Int32} (hn : n ≤ 5) (hE : E ≤ 10) (H : INV bx ca n E C τ κ h) : ∀ j r' i : Nat, v = nI j → r = nI r' → j < 4 → ¬ gt τ 15 (15 * j + 2) ≤ 0 → r' + gN τ 15 (15 * j + 2) ≤ 12 / gN τ 15 (15 * j) → i < r' → (∀ k, k < i → qR (cpT τ 15 16 64) n E j k = false) → ArOk (adT (cpT τ 15 16 64) n E j i) n E j := by
  intro j r' i _ _ hj pj hr hi hq
  have hw := H.2.2.1
  have hwd := hw.2.1 j hj pj
  have hw4 := (hw.1.2 j hj).1
  have h12 : gN τ 15 (15 * j) * (gN τ 15 (15 * j + 2) + r') ≤ 12 := by rw [Nat.mul_comm]; exact (Nat.le_div_iff_mul_le (by omega)).mp (by omega)
  exact AG.oki hn hE hj (by omega) hw4 h12 (AG.xt (P := fun k => gt τ 15 (15 * j + 3 + k)) hw.1 hj (fun k _ => rfl)) (by omega) hq
end OKS
