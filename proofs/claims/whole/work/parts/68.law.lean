/-! The law, from its entry to its end. -/
theorem and31 (x : Int32) : ∃ v, v < 32 ∧ x &&& nI 31 = nI v := by
  refine ⟨(x.toBitVec &&& 31#32).toNat, ?_, ?_⟩
  · rw [BitVec.toNat_and]
    exact Nat.lt_of_le_of_lt Nat.and_le_right (by decide)
  · apply Int32.toBitVec_inj.mp
    have h1 : (nI 31).toBitVec = 31#32 := by decide
    have h2 : (nI (x.toBitVec &&& 31#32).toNat).toBitVec = x.toBitVec &&& 31#32 := by
      show BitVec.ofNat 32 (x.toBitVec &&& 31#32).toNat = _
      simp
    rw [Int32.toBitVec_and, h1, h2]
theorem le4 {i L : Nat} (hi : i < 2 ^ 30) (hL : L < 2 ^ 30) (h : ¬ nI L - nI 4 < nI i) : i + 4 ≤ L := by
  by_cases h4 : 4 ≤ L
  · rw [pk_sub h4] at h
    have h1 := Nat.not_lt.mp (fun q => h ((nI_ltI (by omega) (by omega)).mpr q))
    omega
  · refine absurd ?_ h
    have hz : nI L - nI 4 < 0 := by
      rcases (show L = 0 ∨ L = 1 ∨ L = 2 ∨ L = 3 by omega) with rfl | rfl | rfl | rfl <;> decide
    exact Int32.lt_of_lt_of_le hz (nI_pos' (by omega))
theorem inc4 (it : Nat) : nI (2 + 4 * it) + Int32.ofInt 4 = nI (2 + 4 * (it + 1)) := by
  rw [show Int32.ofInt 4 = nI 4 by decide, nI_add]
  congr 1
theorem tab_out {v : Nat} (h : 18 < v) (hv : v < 32) : (18 : Int) < (nI v).toInt := by
  have h1 : (nI v).toInt = (v : Int) := by
    rcases (show v = 19 ∨ v = 20 ∨ v = 21 ∨ v = 22 ∨ v = 23 ∨ v = 24 ∨ v = 25 ∨ v = 26 ∨ v = 27 ∨ v = 28 ∨ v = 29 ∨ v = 30 ∨ v = 31 by omega) with rfl | rfl | rfl | rfl | rfl | rfl | rfl | rfl | rfl | rfl | rfl | rfl | rfl <;> decide
  omega
/-- YOUR PART: from the entry, for every script of at most 2050 ints, the law comes to its end with true -/
theorem whole_start {p : Program} {e : Env} {s : State} {m : MethodId} {below : List Frame} {meth : Method} {c : Code} (l : Launch) {b L : Nat} {xs : Nat → Int32} (hL : L ≤ 2050) (C0 : lw_At p s m meth c b L xs) : W p l e room_1 s m #[Value.ref b] below meth c s.heap [] 0 0 (lw_Z below #[Value.ref b] s) (entryFrame m ([Value.ref b] : List Value).toArray 4) := by
  obtain ⟨hexec, hcode, hret, hml, hown, hts, hX, hbl, hlocks, -⟩ := C0
  obtain ⟨D, tys, ca, hK, hty⟩ := law_K hts
  have hO := law_O hts
  have hL31 : L < 2 ^ 31 := by omega
  have hbA : ¬ (fun q => s.heap.size ≤ q) b := Nat.not_le.mpr hbl
  have hc : CallFix p m c code 4 s #[Value.ref b] (Cond.arrayClass .int :: WS) R_W := ⟨hexec, hcode, hml, hown, fun w hw => by
    rcases List.mem_cons.mp hw with h | h
    · rw [h]; exact hts _ (List.mem_filter.mp kc_arr_int).1
    · exact hts w (List.mem_filter.mp h).1⟩
  have key : AW p l e room_1 s m #[Value.ref b] below meth c D vcl (fun q => s.heap.size ≤ q) 4 (lw_Z below #[Value.ref b] s) (fun _ => none) 0 0 0 [some (.ref b), none, none, none] [] := by
    refine a_new (ci := 4) (N := 8) (pc' := 3) hc hK (fun q h => h) (fun w h => List.mem_cons_of_mem _ (in_E w h)) ty_E ty_E_ok (hc.2.2.2.2 _ (List.mem_cons_of_mem _ cl_W_7)) (hc.2.2.2.2 _ (List.mem_cons_of_mem _ mk_E.1)) (hc.2.2.2.2 _ (List.mem_cons_of_mem _ mk_E.2)) rfl (fs := [.int 0, .null, .null, .null, .int 0, .int 0, .int 0, .int 0]) (by decide) (by decide) (by decide) d_W_law_0 rfl (fun q _ _ => ?_)
    refine a_dup (pc' := 4) hc d_W_law_3 rfl rfl ?_
    refine a_aload_n (pc' := 5) hc d_W_law_4 rfl rfl rfl ?_
    refine a_iconst (pc' := 6) (v := nI 0) hc d_W_law_5 rfl (by decide) ?_
    refine a_cell (pc' := 9) hc hX hbl hbA (fun q h => h) hL31 0 (by decide) ⟨by decide, by decide⟩ (Nat.le_of_ble_eq_true rfl) d_W_law_6 rfl ⟨by decide, by decide⟩ ?_
    refine a_aload_n (pc' := 10) hc d_W_law_9 rfl rfl rfl ?_
    refine a_iconst (pc' := 11) (v := nI 1) hc d_W_law_10 rfl (by decide) ?_
    refine a_cell (pc' := 14) hc hX hbl hbA (fun q h => h) hL31 1 (by decide) ⟨by decide, by decide⟩ (Nat.le_of_ble_eq_true rfl) d_W_law_11 rfl ⟨by decide, by decide⟩ ?_
    refine a_cI (pc' := 17) hc hK hO (fun q h => h) (As := [.int (cv xs L 0), .int (cv xs L 1)]) (rest := [.ref q]) (ct_E_init hty (n := clN 5 (cv xs L 0)) (E := clN 10 (cv xs L 1)) rfl rfl (va_up_self _ _ _)) ml_W_15 rfl hd_E_init rfl rfl ⟨by decide, by decide⟩ rfl rfl (Nat.le_of_ble_eq_true rfl) d_W_law_14 rfl ⟨by decide, by decide⟩ (fun v1 f1 hq1 => ?_)
    obtain ⟨rfl, bx, rl, κ, h, hb0, hx, hI, rfl⟩ := hq1
    subst hb0
    refine a_astore_n (pc' := 18) (x := bx 0) hc d_W_law_17 rfl rfl (by decide) ?_
    refine a_new (ci := 6) (N := 15) (pc' := 21) hc hK (fun q h => h) (fun w h => List.mem_cons_of_mem _ (in_M w h)) ty_M ty_M_ok (hc.2.2.2.2 _ (List.mem_cons_of_mem _ cl_W_18)) (hc.2.2.2.2 _ (List.mem_cons_of_mem _ mk_M.1)) (hc.2.2.2.2 _ (List.mem_cons_of_mem _ mk_M.2)) rfl (fs := [.int 0, .int 0, .null, .null, .null, .null, .null, .null, .int 0, .int 0, .int 0, .int 0, .int 0, .int 0, .int 0]) (by decide) (by decide) (by decide) d_W_law_18 rfl (fun q2 n2 _ => ?_)
    refine a_dup (pc' := 22) hc d_W_law_21 rfl rfl ?_
    refine a_aload_n (pc' := 23) hc d_W_law_22 rfl rfl rfl ?_
    refine a_iconst (pc' := 24) (v := nI 0) hc d_W_law_23 rfl (by decide) ?_
    refine a_cell (pc' := 27) hc hX hbl hbA (fun q h => h) hL31 0 (by decide) ⟨by decide, by decide⟩ (Nat.le_of_ble_eq_true rfl) d_W_law_24 rfl ⟨by decide, by decide⟩ ?_
    refine a_aload_n (pc' := 28) hc d_W_law_27 rfl rfl rfl ?_
    refine a_iconst (pc' := 29) (v := nI 1) hc d_W_law_28 rfl (by decide) ?_
    refine a_cell (pc' := 32) hc hX hbl hbA (fun q h => h) hL31 1 (by decide) ⟨by decide, by decide⟩ (Nat.le_of_ble_eq_true rfl) d_W_law_29 rfl ⟨by decide, by decide⟩ ?_
    refine a_cIF (f0 := one q2 (.inr (6, [.int 0, .int 0, .null, .null, .null, .null, .null, .null, .int 0, .int 0, .int 0, .int 0, .int 0, .int 0, .int 0]))) (pc' := 35) hc hK hO (fun q h => h) (As := [.int (cv xs L 0), .int (cv xs L 1)]) (rest := [.ref q2]) (fun a x h => by obtain ⟨e1, e2⟩ := one_eq h; subst e1; subst e2; exact va_up_self _ _ _) (fun A' => ct_M_init hty (n := clN 5 (cv xs L 0)) (E := clN 10 (cv xs L 1)) rfl rfl one_at) ml_W_20 rfl hd_M_init rfl rfl ⟨by decide, by decide⟩ rfl rfl (Nat.le_of_ble_eq_true rfl) d_W_law_32 rfl ⟨by decide, by decide⟩ (fun v2 f2 hq2 => ?_)
    obtain ⟨f3, ⟨rfl, ax, rm, ha0, hxm, rfl⟩, rfl, hfr⟩ := hq2
    subst ha0
    obtain ⟨eu, hdj⟩ := un_new n2 (by rw [tw_at hxm.1 (by decide)]; rfl) hfr
    rw [eu]
    refine a_astore_n (pc' := 36) (x := ax 0) hc d_W_law_35 rfl rfl (by decide) ?_
    refine a_iconst (pc' := 37) (v := nI 2) hc d_W_law_36 rfl (by decide) ?_
    refine a_istore_n (pc' := 38) (x := nI 2) hc d_W_law_37 rfl rfl (by decide) ?_
    refine AW.widen (k' := 33) (n' := 1745) (by decide) (by decide) ?_
    refine AW.loopX (Z := TS × (Nat → Option Nat) × (Nat → Int32) × (Nat → Option va_E)) 512 (fun it z => INV bx ca (clN 5 (cv xs L 0)) (clN 10 (cv xs L 1)) (1 + it) z.1 z.2.1 z.2.2.2 ∧ Dj (cw bx rl ca (clN 5 (cv xs L 0)) (clN 10 (cv xs L 1)) z.1 z.2.1 z.2.2.1 z.2.2.2) (tw ax rm ca (clN 5 (cv xs L 0)) (clN 10 (cv xs L 1)) z.1)) (fun z => un (cw bx rl ca (clN 5 (cv xs L 0)) (clN 10 (cv xs L 1)) z.1 z.2.1 z.2.2.1 z.2.2.2) (tw ax rm ca (clN 5 (cv xs L 0)) (clN 10 (cv xs L 1)) z.1)) (fun it => [some (.ref b), some (.ref (bx 0)), some (.ref (ax 0)), some (.int (nI (2 + 4 * it)))]) (fun it => 33 + 5 * it) (fun it => 1745 + 25 * it) (t1 (clN 5 (cv xs L 0)), κ, (fun _ => 0), h) ⟨hI, hdj⟩ rfl rfl rfl rfl (fun it hle z hz ih => ?_)
    obtain ⟨τ, κ1, tk, h1⟩ := z
    obtain ⟨H, dj⟩ := hz
    dsimp only at ih H dj ⊢
    refine a_iload_n (pc' := 39) hc d_W_law_38 rfl rfl rfl ?_
    refine a_aload_n (pc' := 40) hc d_W_law_39 rfl rfl rfl ?_
    refine a_slen (pc' := 41) hc hX hbl hbA d_W_law_40 rfl ?_
    refine a_iconst (pc' := 42) (v := nI 4) hc d_W_law_41 rfl (by decide) ?_
    refine a_isub (pc' := 43) hc d_W_law_42 rfl ?_
    refine a_icmp_gt (pc' := 46) (tgt := 637) hc d_W_law_43 rfl rfl (fun _ => ?_) (fun h43 => ?_)
    · refine a_iconst (pc' := 638) (v := 1) hc d_W_law_637 rfl (by decide) ?_
      exact fun H locs ls hf hd hS hl => va_forget (fun q hq => hS.2.2 q hq) (W.widen (by omega) (by omega) (lw_ret hexec hcode hret hlocks d_W_law_638))
    · have hi := le4 (by omega) (by omega) h43
      have K : ∀ τ' κ' tk' h', INV bx ca (clN 5 (cv xs L 0)) (clN 10 (cv xs L 1)) (1 + it + 1) τ' κ' h' → Dj (cw bx rl ca (clN 5 (cv xs L 0)) (clN 10 (cv xs L 1)) τ' κ' tk' h') (tw ax rm ca (clN 5 (cv xs L 0)) (clN 10 (cv xs L 1)) τ') → AW p l e room_1 s m #[Value.ref b] below meth c D vcl (fun q => s.heap.size ≤ q) 4 (lw_Z below #[Value.ref b] s) (un (cw bx rl ca (clN 5 (cv xs L 0)) (clN 10 (cv xs L 1)) τ' κ' tk' h') (tw ax rm ca (clN 5 (cv xs L 0)) (clN 10 (cv xs L 1)) τ')) (33 + 5 * it + 5) (1745 + 25 * it + 25) 631 [some (.ref b), some (.ref (bx 0)), some (.ref (ax 0)), some (.int (nI (2 + 4 * it)))] [] := fun τ' κ' tk' h' H1 dj1 => by
        refine a_iinc (pc' := 634) (v := nI (2 + 4 * (it + 1))) hc d_W_law_631 rfl rfl (inc4 it) (by decide) ?_
        refine a_goto (tgt := 38) hc d_W_law_634 rfl ?_
        refine AW.widen (k' := 33 + 5 * (it + 1)) (n' := 1745 + 25 * (it + 1)) (by omega) (by omega) ?_
        exact ih (by omega) (τ', κ', tk', h') ⟨H1, dj1⟩
      refine a_aload_n (pc' := 47) hc d_W_law_46 rfl rfl rfl ?_
      refine a_iload_n (pc' := 48) hc d_W_law_47 rfl rfl rfl ?_
      refine a_sld (pc' := 49) hc hX hbl hbA hL31 (2 + 4 * it) (by omega) d_W_law_48 rfl ?_
      refine a_bipush (pc' := 51) (v := nI 31) hc d_W_law_49 rfl (by decide) ?_
      refine a_iand (pc' := 52) hc d_W_law_51 rfl ?_
      obtain ⟨v, hv, ev⟩ := and31 (xs (2 + 4 * it))
      rw [ev]
      have hr : 33 + 5 * it + 5 ≤ room_1.cells ∧ 1745 + 25 * it + 25 ≤ room_1.slots := ⟨by show 33 + 5 * it + 5 ≤ 714876; omega, by show 1745 + 25 * it + 25 ≤ 6957620; omega⟩
      have hC : 1 + it + 1 < 2 ^ 31 := by omega
      by_cases h19 : 18 < v
      · refine a_tabOut (tgt := 631) hc d_W_law_52 (Or.inr (tab_out h19 hv)) rfl ?_
        exact AW.widen (by omega) (by omega) (K τ κ1 tk h1 (H.more hx.2.2.1.2) dj)
      · rcases (show v = 0 ∨ v = 1 ∨ v = 2 ∨ v = 3 ∨ v = 4 ∨ v = 5 ∨ v = 6 ∨ v = 7 ∨ v = 8 ∨ v = 9 ∨ v = 10 ∨ v = 11 ∨ v = 12 ∨ v = 13 ∨ v = 14 ∨ v = 15 ∨ v = 16 ∨ v = 17 ∨ v = 18 by omega) with rfl | rfl | rfl | rfl | rfl | rfl | rfl | rfl | rfl | rfl | rfl | rfl | rfl | rfl | rfl | rfl | rfl | rfl | rfl
        · refine a_tabIn (tgt := 144) hc d_W_law_52 (by decide) (by decide) (off := 92) (by decide) rfl ?_
          exact op_create hc hK hO hX hbl hL31 hi hx hxm H hC dj hr K
        · refine a_tabIn (tgt := 187) hc d_W_law_52 (by decide) (by decide) (off := 135) (by decide) rfl ?_
          exact op_extend hc hK hO hX hbl hL31 hi hx hxm H hC dj hr K
        · refine a_tabIn (tgt := 220) hc d_W_law_52 (by decide) (by decide) (off := 168) (by decide) rfl ?_
          exact op_reduce hc hK hO hX hbl hL31 hi hx hxm H hC dj hr K
        · refine a_tabIn (tgt := 253) hc d_W_law_52 (by decide) (by decide) (off := 201) (by decide) rfl ?_
          exact op_move hc hK hO hX hbl hL31 hi hx hxm H hC dj hr K
        · refine a_tabIn (tgt := 296) hc d_W_law_52 (by decide) (by decide) (off := 244) (by decide) rfl ?_
          exact op_step hc hK hO hX hbl hL31 hi hx hxm H hC dj hr K
        · refine a_tabIn (tgt := 309) hc d_W_law_52 (by decide) (by decide) (off := 257) (by decide) rfl ?_
          exact op_cancel hc hK hO hX hbl hL31 hi hx hxm H hC dj hr K
        · refine a_tabIn (tgt := 322) hc d_W_law_52 (by decide) (by decide) (off := 270) (by decide) rfl ?_
          exact op_read hc hK hO hX hbl hL31 hi hx hxm H hC dj hr K
        · refine a_tabIn (tgt := 355) hc d_W_law_52 (by decide) (by decide) (off := 303) (by decide) rfl ?_
          exact op_write hc hK hO hX hbl hL31 hi hx hxm H hC dj hr K
        · refine a_tabIn (tgt := 398) hc d_W_law_52 (by decide) (by decide) (off := 346) (by decide) rfl ?_
          exact op_pull hc hK hO hX hbl hL31 hi hx hxm H hC dj hr K
        · refine a_tabIn (tgt := 421) hc d_W_law_52 (by decide) (by decide) (off := 369) (by decide) rfl ?_
          exact op_plug hc hK hO hX hbl hL31 hi hx hxm H hC dj hr K
        · refine a_tabIn (tgt := 444) hc d_W_law_52 (by decide) (by decide) (off := 392) (by decide) rfl ?_
          exact op_arm hc hK hO hX hbl hL31 hi hx hxm H hC dj hr K
        · refine a_tabIn (tgt := 467) hc d_W_law_52 (by decide) (by decide) (off := 415) (by decide) rfl ?_
          exact op_crash hc hK hO hX hbl hL31 hi hx hxm H hC dj hr K
        · refine a_tabIn (tgt := 480) hc d_W_law_52 (by decide) (by decide) (off := 428) (by decide) rfl ?_
          exact op_activate hc hK hO hX hbl hL31 hi hx hxm H hC dj hr K
        · refine a_tabIn (tgt := 493) hc d_W_law_52 (by decide) (by decide) (off := 441) (by decide) rfl ?_
          exact op_where hc hK hO hX hbl hL31 hi hx hxm H hC dj hr K
        · refine a_tabIn (tgt := 526) hc d_W_law_52 (by decide) (by decide) (off := 474) (by decide) rfl ?_
          exact op_rows hc hK hO hX hbl hL31 hi hx hxm H hC dj hr K
        · refine a_tabIn (tgt := 549) hc d_W_law_52 (by decide) (by decide) (off := 497) (by decide) rfl ?_
          exact op_free hc hK hO hX hbl hL31 hi hx hxm H hC dj hr K
        · refine a_tabIn (tgt := 572) hc d_W_law_52 (by decide) (by decide) (off := 520) (by decide) rfl ?_
          exact op_moving hc hK hO hX hbl hL31 hi hx hxm H hC dj hr K
        · refine a_tabIn (tgt := 585) hc d_W_law_52 (by decide) (by decide) (off := 533) (by decide) rfl ?_
          exact op_sequence hc hK hO hX hbl hL31 hi hx hxm H hC dj hr K
        · refine a_tabIn (tgt := 598) hc d_W_law_52 (by decide) (by decide) (off := 546) (by decide) rfl ?_
          exact op_slot hc hK hO hX hbl hL31 hi hx hxm H hC dj hr K
  have hl := lv_entry [Value.ref b] (n := 4) (Nat.le_of_ble_eq_true rfl)
  rw [lg_entry_eq]
  generalize (lg_sl [Value.ref b] ++ List.replicate (4 - (lg_sl [Value.ref b]).length) Slot.unset).toArray = ls at hl ⊢
  exact key s.heap [] ls (fun a x ha => by cases ha) (fun a x ha => by cases ha) va_S.rf (al_entry hl (cat_all rfl))
