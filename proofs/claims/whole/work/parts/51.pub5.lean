variable {l : Launch} {D : va_G} {tys : List (ClassId × FieldType)} {A : Nat → Prop} {bx rl : Nat → Nat} {ca : Nat → ClassId} {n E : Nat} {τ : TS} {κ : Nat → Option Nat} {tk : Nat → Int32} {h : Nat → Option va_E}
theorem ct_E_create (hx : CX bx rl ca tys n E) (hh : HD bx n h) {pa q va : Nat} {mv : Option Nat} {g : Nat → Option Nat} (hP : PrOk h ca τ κ pa q va mv g) (hw : WFx n E τ 15) (hm : CmOk n τ κ h) {w c r : Int32} : CT l y_E_create (Cond.code y_E_create c_E_create 6 (some .int) :: WS) (ra 6 5 25) D vcl tys A (cw bx rl ca n E τ κ tk h) [.ref (bx 0), .int w, .int c, .int r] (fun v' f' => ∃ (κ' : Nat → Option Nat) (tk' : Nat → Int32) (h' : Nat → Option va_E), v' = some (.int (ctP τ n E w c r).1) ∧ f' = cw bx rl ca n E (ctP τ n E w c r).2 κ' tk' h' ∧ PubRes bx ca n (adT (cr0 τ (fsL (qV τ) 4) w c) n E (fsL (qV τ) 4) r.toNatClampNeg) κ h (tb (τ 0 5) && shB w c r && (!fewB τ n && (decide ((fsL (qV τ) 4) < 4) && !decide (fsL (qR (cr0 τ (fsL (qV τ) 4) w c) n E (fsL (qV τ) 4)) r.toNatClampNeg < r.toNatClampNeg)))) κ' h') 5 25 := by
  obtain ⟨hn2, hn5⟩ := hx.2.2.1
  obtain ⟨hE2, hE10⟩ := hx.2.2.2
  refine CT.of (own := R_E) rfl (by decide) (Nat.le_of_ble_eq_true rfl) (cat_all rfl) ?_
  intro pp ee ss mm aa bb me cd hc hK hO hr hk hA
  refine AW.to (lv' := [some (.ref (bx 0)), some (.int w), some (.int c), some (.int r), none, none]) rfl rfl rfl ?_
  refine a_aload_n (pc' := 1) hc d_E_create_0 rfl rfl rfl ?_
  refine c_getE (pc' := 4) hc hK hx 6 (v := .int (bI (tb (τ 0 5)))) (by decide) (rfl) fl_E_60 d_E_create_1 rfl ?_
  refine a_ifb_ne (pc' := 7) (tgt := 10) hc d_E_create_4 rfl rfl (fun h4 => ?_) (fun h4 => ?_)
  · skip
    refine a_iload_n (pc' := 11) hc d_E_create_10 rfl rfl rfl ?_
    refine a_iload_n (pc' := 12) hc d_E_create_11 rfl rfl rfl ?_
    refine a_cS (pc' := 15) hc hK hO hA (As := [.int w, .int c]) (rest := []) (ct_E_isShape hx hh (τ := τ) (κ := κ) (tk := tk) (h := h) (w := w) (c := c)) ml_E_67 hd_E_isShape rfl rfl ⟨by decide, by decide⟩ rfl rfl (Nat.le_of_ble_eq_true rfl) d_E_create_12 rfl ⟨by decide, by decide⟩ (fun v12 f12 hq12 => ?_)
    obtain ⟨rfl, rfl⟩ := hq12
    refine AW.to (st' := [.int (bI (!decide (w < nI 1) && (!decide (nI 4 < w) && decide (c = nI 1 ∨ c = nI 2 ∨ c = nI 4))))]) rfl rfl rfl ?_
    refine a_ifb_eq (pc' := 18) (tgt := 31) hc d_E_create_15 rfl rfl (fun h15 => ?_) (fun h15 => ?_)
    · skip
      have g32 : shB w c r = false := by rw [shB_eq, h15]; rfl
      refine a_iconst (pc' := 32) (v := -1) hc d_E_create_31 rfl (by decide) ?_
      refine AW.widen (k' := 5) (n' := 25) (by omega) (by omega) ?_
      exact a_iret hc hr hk d_E_create_32 (⟨κ, tk, h, by simp [ctP, h4, g32], by simp [ctP, h4, g32], Or.inl ⟨by simp [h4, g32], rfl, Ext.rf, hh⟩⟩)
    · skip
      obtain ⟨w', hw1, hw4, ew, cww, hch, hc0⟩ := sh_t h15
      subst ew
      refine a_iload_n (pc' := 19) hc d_E_create_18 rfl rfl rfl ?_
      refine a_iconst (pc' := 20) (v := nI 1) hc d_E_create_19 rfl (by decide) ?_
      refine a_icmp_lt (pc' := 23) (tgt := 31) hc d_E_create_20 rfl rfl (fun h20 => ?_) (fun h20 => ?_)
      · skip
        have g32 : shB (nI w') c r = false := by rw [shB_eq, decide_eq_true h20]; simp
        refine a_iconst (pc' := 32) (v := -1) hc d_E_create_31 rfl (by decide) ?_
        refine AW.widen (k' := 5) (n' := 25) (by omega) (by omega) ?_
        exact a_iret hc hr hk d_E_create_32 (⟨κ, tk, h, by simp [ctP, h4, g32], by simp [ctP, h4, g32], Or.inl ⟨by simp [h4, g32], rfl, Ext.rf, hh⟩⟩)
      · skip
        refine a_iload_n (pc' := 24) hc d_E_create_23 rfl rfl rfl ?_
        refine a_bipush (pc' := 26) (v := nI 12) hc d_E_create_24 rfl (by decide) ?_
        refine a_iload_n (pc' := 27) hc d_E_create_26 rfl rfl rfl ?_
        refine a_ndiv (pc' := 28) hc d_E_create_27 rfl (by omega) (by omega) (by omega) ?_
        refine a_icmp_le (pc' := 31) (tgt := 33) hc d_E_create_28 rfl rfl (fun h28 => ?_) (fun h28 => ?_)
        · skip
          have g28 : shB (nI w') c r = true := by rw [shB_eq, h15, cww, decide_eq_false h20, decide_eq_true h28]; rfl
          have hd12 : 12 / w' ≤ 12 := Nat.div_le_self _ _
          obtain ⟨r', hr1, hr2, er, crr⟩ := rg_of (by omega) h20 h28
          subst er
          have h12 : w' * r' ≤ 12 := by rw [Nat.mul_comm]; exact (Nat.le_div_iff_mul_le (by omega)).mp hr2
          refine a_aload_n (pc' := 34) hc d_E_create_33 rfl rfl rfl ?_
          refine c_call (pc' := 37) hc hK hO hA (bx 0) [] [] (ct_E_isFew hx hh (τ := τ) (κ := κ) (tk := tk) (h := h)) ml_E_71 hd_E_isFew ⟨by decide, by decide⟩ rfl rfl (Nat.le_of_ble_eq_true rfl) (cw_at hx.1 (by omega)) rfl rfl d_E_create_34 rfl ⟨by first | decide | (show _ ≤ _; simp only [ra]; omega), by first | decide | (show _ ≤ _; simp only [ra]; omega)⟩ ?_
          refine AW.to (st' := [.int (bI (fewB τ n))]) rfl rfl rfl ?_
          refine a_ifb_eq (pc' := 40) (tgt := 43) hc d_E_create_37 rfl rfl (fun h37 => ?_) (fun h37 => ?_)
          · skip
            refine a_aload_n (pc' := 44) hc d_E_create_43 rfl rfl rfl ?_
            refine c_getE (pc' := 47) hc hK hx 3 (v := .ref pa) (by decide) (by show some (va_rf (κ 0)) = _; rw [hP.1]; rfl) fl_E_47 d_E_create_44 rfl ?_
            refine c_getH (pc' := 50) hc hK in_C rfl hh hP.2.1 2 (v := .ref q) (by decide) rfl fl_E_75 d_E_create_47 rfl ?_
            refine c_call (pc' := 53) hc hK hO hA (q) [] [] (ct_L_leastAbsent hx hh (τ := τ) (κ := κ) (tk := tk) (h := h) (a := q) (va := va) (mv := mv) (g := g) hP.2.2.1 hP.2.2.2.1) ml_E_79 hd_L_leastAbsent ⟨by decide, by decide⟩ rfl rfl (Nat.le_of_ble_eq_true rfl) (cw_h hh hP.2.2.1) rfl rfl d_E_create_50 rfl ⟨by first | decide | (show _ ≤ _; simp only [ra]; omega), by first | decide | (show _ ≤ _; simp only [ra]; omega)⟩ ?_
            refine AW.to (st' := [.int (laI g)]) rfl rfl rfl ?_
            refine a_istore (pc' := 55) hc d_E_create_53 rfl (by decide) ?_
            refine a_iload (pc' := 57) hc d_E_create_55 rfl rfl ?_
            refine a_iconst (pc' := 58) (v := -1) hc d_E_create_57 rfl (by decide) ?_
            refine a_icmp_ne (pc' := 61) (tgt := 64) hc d_E_create_58 rfl rfl (fun h58 => ?_) (fun h58 => ?_)
            · skip
              obtain ⟨j, ev, hj, zv, lv58⟩ := la_t hP.2.2.2.2.1 h58
              refine AW.lvi 4 (y := nI j) rfl lv58.symm ?_
              refine c_new (pc' := 67) (ci := 3) hc hK hA hx hh in_U ty_U ty_U_ok cl_E_26 mk_U rfl [.int 0, .int 0, .int 0, .null] (by decide) (by decide) (by decide) d_E_create_64 rfl (fun q64 n64 hh64 => ?_)
              refine AW.to (st' := [.ref q64]) rfl rfl rfl ?_
              refine a_dup (pc' := 68) hc d_E_create_67 rfl rfl ?_
              refine a_iload_n (pc' := 69) hc d_E_create_68 rfl rfl rfl ?_
              refine a_iload_n (pc' := 70) hc d_E_create_69 rfl rfl rfl ?_
              refine a_iload_n (pc' := 71) hc d_E_create_70 rfl rfl rfl ?_
              refine a_iload_n (pc' := 72) hc d_E_create_71 rfl rfl rfl ?_
              refine a_iload_n (pc' := 73) hc d_E_create_72 rfl rfl rfl ?_
              refine a_nmul (pc' := 74) hc d_E_create_73 rfl ?_
              refine c_newa (pc' := 76) hc hK hA hx hh64 (w' * r') (by omega) (by decide) (by omega) d_E_create_74 rfl (fun q74 n74 hh74 => ?_)
              refine AW.widen (k' := 2) (n' := 16) (by omega) (by omega) ?_
              have ne74 : q74 ≠ q64 := fun e => by rw [e, va_up_self] at n74; cases n74
              have m74 : h q74 = none := by rw [va_up_ne _ _ ne74] at n74; exact n74
              have hq64 : (va_up (va_up h q64 (some (.inr (3, [.int 0, .int 0, .int 0, .null])))) q74 (some (.inl (ca 0, w' * r', .inl (fun _ => 0))))) q64 = some (.inr (3, [.int 0, .int 0, .int 0, .null])) := by rw [va_up_ne _ _ ne74.symm]; exact va_up_self _ _ _
              refine AW.to (st' := [.ref q74, .int (nI r'), .int c, .int (nI w'), .ref q64, .ref q64]) rfl rfl rfl ?_
              refine a_cI (pc' := 79) hc hK hO hA (As := [.int (nI w'), .int c, .int (nI r'), .ref q74]) (rest := [.ref q64]) (ct_U_init hx hh74 (τ := τ) (κ := κ) (tk := tk) (h := va_up (va_up h q64 (some (.inr (3, [.int 0, .int 0, .int 0, .null])))) q74 (some (.inl (ca 0, w' * r', .inl (fun _ => 0))))) (a := q64) (w := nI w') (s := c) (rc := nI r') (pl := q74) hq64) ml_E_83 rfl hd_U_init rfl rfl ⟨by decide, by decide⟩ rfl rfl (Nat.le_of_ble_eq_true rfl) d_E_create_76 rfl ⟨by decide, by decide⟩ (fun v9 f9 hq9 => ?_)
              obtain ⟨rfl, rfl⟩ := hq9
              obtain ⟨h76, eh76⟩ : ∃ h76, h76 = va_up (va_up (va_up h q64 (some (.inr (3, [.int 0, .int 0, .int 0, .null])))) q74 (some (.inl (ca 0, w' * r', .inl (fun _ => 0))))) q64 (some (.inr (3, [.int (nI w'), .int c, .int (nI r'), .ref q74]))) := ⟨_, rfl⟩
              refine AW.to (f' := cw bx rl ca n E τ κ tk h76) (by rw [eh76]) rfl rfl ?_
              have ha76 : h76 q64 = some (.inr (3, [.int (nI w'), .int c, .int (nI r'), .ref q74])) := by rw [eh76]; exact va_up_self _ _ _
              have hp76 : h76 q74 = some (.inl (ca 0, w' * r', .inl (fun _ => 0))) := by rw [eh76, va_up_ne _ _ ne74]; exact va_up_self _ _ _
              have hh76 : HD bx n h76 := by rw [eh76]; exact hh74.up (hh74.off hq64)
              have x76 : Ext h h76 := by rw [eh76]; exact ((Ext.up n64).upx m74).upx n64
              refine AW.to (st' := [.ref q64]) rfl rfl rfl ?_
              refine a_astore (pc' := 81) hc d_E_create_79 rfl (by decide) ?_
              refine a_aload_n (pc' := 82) hc d_E_create_81 rfl rfl rfl ?_
              refine a_aload (pc' := 84) hc d_E_create_82 rfl rfl ?_
              refine a_iconst (pc' := 85) (v := nI 0) hc d_E_create_84 rfl (by decide) ?_
              refine a_cV (pc' := 88) hc hK hO hA (As := [.ref q64, .int (nI 0)]) (rest := []) (ct_E_takeRows hx hh76 (τ := τ) (κ := κ) (tk := tk) (h := h76) (h0 := h) (pa := pa) (q := q) (va := va) (mv := mv) (g := g) (a := q64) (pl := q74) (M := w' * r') (w := w') (rc := r') (f0 := 0) (s := c) (P := fun _ => 0) hP hw ha76 ⟨hp76, by omega⟩ x76 rfl h12 hw1 hw4 (by omega) (Nat.zero_le _)) ml_E_86 hd_E_takeRows rfl rfl ⟨by decide, by decide⟩ (cw_at hx.1 (by omega)) rfl rfl rfl rfl (Nat.le_of_ble_eq_true rfl) d_E_create_85 rfl ⟨by decide, by decide⟩ (fun v85 f85 hq85 => ?_)
              obtain ⟨rfl, rfl⟩ := hq85
              obtain ⟨h85, eh85⟩ : ∃ h85, h85 = va_up h76 q74 (some (.inl (ca 0, w' * r', .inl (twP τ n E w' 0 (fun _ => 0) (fsL (qT τ n E w') (r' - 0)))))) := ⟨_, rfl⟩
              refine AW.to (f' := cw bx rl ca n E τ κ (tkF (twU τ n E w' (fsL (qT τ n E w') (r' - 0))) E) h85) (by rw [eh85]) rfl rfl ?_
              have ha85 : h85 q64 = some (.inr (3, [.int (nI w'), .int c, .int (nI r'), .ref q74])) := by rw [eh85, va_up_ne _ _ ne74.symm]; exact ha76
              have hp85 : h85 q74 = some (.inl (ca 0, w' * r', .inl (twP τ n E w' 0 (fun _ => 0) (fsL (qT τ n E w') (r' - 0))))) := by rw [eh85]; exact va_up_self _ _ _
              have hh85 : HD bx n h85 := by rw [eh85]; exact hh76.up (hh76.off hp76)
              have x85 : Ext h h85 := by rw [eh85]; exact x76.upx m74
              have ha106 := ha85
              have hb85 := AG.cr (P := fun _ => 0) (w := w') (c := c) hw.1 hj hw4 hc0 zv
              have e85 := hb85.fs hn5 hE10 hj hw1 hw4 h12 r' (by omega)
              have p85 : ctP τ n E (nI w') c (nI r') = adP (cr0 τ j (nI w') c) n E j r' (fun _ => nI j) := by simp [ctP, h4, g28, h37, ev, hj, crr]
              refine AW.to (st' := [.int (bI (trB τ n E w' (r' - 0)))]) rfl rfl rfl ?_
              refine a_ifb_ne (pc' := 91) (tgt := 94) hc d_E_create_88 rfl rfl (fun h88 => ?_) (fun h88 => ?_)
              · skip
                obtain ⟨t88, u88⟩ := tr_yes h88
                rw [Nat.sub_zero] at t88 u88
                rw [← e85] at t88
                have g88 := hb85.run hn5 hE10 hj hw1 hw4 h12 r' (by omega) (fsL_all t88)
                rw [Nat.zero_add] at g88
                refine a_aload_n (pc' := 95) hc d_E_create_94 rfl rfl rfl ?_
                refine a_aload_n (pc' := 96) hc d_E_create_95 rfl rfl rfl ?_
                have hP0 := hP
                have hP := hP.ext x85
                have hh := hh85
                refine c_getE (pc' := 99) hc hK hx 3 (v := .ref pa) (by decide) (by show some (va_rf (κ 0)) = _; rw [hP.1]; rfl) fl_E_47 d_E_create_96 rfl ?_
                refine c_getH (pc' := 102) hc hK in_C rfl hh hP.2.1 2 (v := .ref q) (by decide) rfl fl_E_75 d_E_create_99 rfl ?_
                refine a_iload (pc' := 104) hc d_E_create_102 rfl rfl ?_
                refine a_aload (pc' := 106) hc d_E_create_104 rfl rfl ?_
                have hP := hP0
                refine a_cV (pc' := 109) hc hK hO hA (As := [.int (nI j), va_rf (some q64)]) (rest := [.ref (bx 0)]) (ct_L_withVolume hx hh85 (τ := τ) (κ := κ) (tk := tkF (twU τ n E w' (fsL (qT τ n E w') (r' - 0))) E) (h := h85) (a := q) (va := va) (mv := mv) (g := g) (v := nI j) (o := some q64) (x85 _ _ hP.2.2.1) (x85 _ _ hP.2.2.2.1) (fun b hb => by cases hb; exact ⟨_, ha106⟩) (hP.2.2.vols.ext x85)) ml_E_90 hd_L_withVolume rfl rfl ⟨by decide, by decide⟩ (cw_h hh85 (x85 _ _ hP.2.2.1)) rfl rfl rfl rfl (Nat.le_of_ble_eq_true rfl) d_E_create_106 rfl ⟨by decide, by decide⟩ (fun v106 f106 hq106 => ?_)
                obtain ⟨r106, va106, h106, g106, rfl, ⟨rfl, x106', hh106⟩, hr106, hva106, hg106⟩ := hq106
                have x106 := x85.tr x106'
                have ly106 := ly_vol (σ := adT (cr0 τ j (nI w') c) n E j r') hw.1 hj hP.2.2 x106 hr106 hva106 hg106 g88.2.2.2.2.2 (g88.vl hj hw1 hr1 h12 (x106' _ _ ha85) (by rw [Nat.sub_zero, u88] at hp85; exact x106' _ _ hp85)) (cr_mv hw hj zv)
                refine AW.to (st' := [.ref r106, .ref (bx 0)]) rfl rfl rfl ?_
                refine AW.to (f' := cw bx rl ca n E (adT (cr0 τ j (nI w') c) n E j r') κ (tkF (twU τ n E w' (fsL (qT τ n E w') (r' - 0))) E) h106) (cw_sr (cr_same.ad _)) rfl rfl ?_
                have cm109 := hm.same (σ := adT (cr0 τ j (nI w') c) n E j r') (cr_same.ad _) x106
                refine a_cV (pc' := 112) hc hK hO hA (As := [.ref r106]) (rest := []) (ct_E_commit hx hh106 (τ := adT (cr0 τ j (nI w') c) n E j r') (κ := κ) (tk := tkF (twU τ n E w' (fsL (qT τ n E w') (r' - 0))) E) (h := h106) (pa := pa) (q := q) (ly := r106) ⟨hP.1, by rw [(cr_same.ad _).1]; exact x106 _ _ hP.2.1⟩ cm109.1 cm109.2.1 cm109.2.2.1 cm109.2.2.2.1 cm109.2.2.2.2.1 cm109.2.2.2.2.2.1 cm109.2.2.2.2.2.2) ml_E_94 hd_E_commit rfl rfl ⟨by decide, by decide⟩ (cw_at hx.1 (by omega)) rfl rfl rfl rfl (Nat.le_of_ble_eq_true rfl) d_E_create_109 rfl ⟨by decide, by decide⟩ (fun v109 f109 hq109 => ?_)
                obtain ⟨r109, nr109, hh109, rfl, rfl⟩ := hq109
                refine AW.to (st' := [.int (bI (cmB (adT (cr0 τ j (nI w') c) n E j r') n))]) rfl rfl rfl ?_
                refine a_ifb_eq (pc' := 115) (tgt := 120) hc d_E_create_112 rfl rfl (fun h112 => ?_) (fun h112 => ?_)
                · skip
                  refine a_bipush (pc' := 122) (v := -7) hc d_E_create_120 rfl (by decide) ?_
                  refine AW.widen (k' := 5) (n' := 25) (by omega) (by omega) ?_
                  exact a_iret hc hr hk d_E_create_122 (⟨cmF (adT (cr0 τ j (nI w') c) n E j r') κ n r109, tkF (twU τ n E w' (fsL (qT τ n E w') (r' - 0))) E, va_up h106 r109 (some (.inr (0, [.int ((adT (cr0 τ j (nI w') c) n E j r') 0 2 + nI 1), .int ((adT (cr0 τ j (nI w') c) n E j r') 0 4 + nI 1), .ref r106]))), by rw [p85, ad_ok t88 h112]; rfl, by rw [p85, ad_ok t88 h112], Or.inr ⟨by simp [h4, g28, h37, ev, hj, crr, t88], by rw [ev, crr]; exact ⟨_, _, _, _, _, r109, x106, hh106, ly106, nr109, hh109, rfl, rfl⟩⟩⟩)
                · skip
                  refine a_iload (pc' := 117) hc d_E_create_115 rfl rfl ?_
                  refine a_goto (tgt := 122) hc d_E_create_117 rfl ?_
                  refine AW.widen (k' := 5) (n' := 25) (by omega) (by omega) ?_
                  exact a_iret hc hr hk d_E_create_122 (⟨cmF (adT (cr0 τ j (nI w') c) n E j r') κ n r109, tkF (twU τ n E w' (fsL (qT τ n E w') (r' - 0))) E, va_up h106 r109 (some (.inr (0, [.int ((adT (cr0 τ j (nI w') c) n E j r') 0 2 + nI 1), .int ((adT (cr0 τ j (nI w') c) n E j r') 0 4 + nI 1), .ref r106]))), by rw [p85, ad_ok t88 h112]; rfl, by rw [p85, ad_ok t88 h112], Or.inr ⟨by simp [h4, g28, h37, ev, hj, crr, t88], by rw [ev, crr]; exact ⟨_, _, _, _, _, r109, x106, hh106, ly106, nr109, hh109, rfl, rfl⟩⟩⟩)
              · skip
                have t88 := tr_no h88
                rw [Nat.sub_zero, ← e85] at t88
                refine a_bipush (pc' := 93) (v := -5) hc d_E_create_91 rfl (by decide) ?_
                refine AW.widen (k' := 5) (n' := 25) (by omega) (by omega) ?_
                exact a_iret hc hr hk d_E_create_93 (⟨κ, tkF (twU τ n E w' (fsL (qT τ n E w') (r' - 0))) E, h85, by rw [p85, ad_few t88], by rw [p85, ad_few t88]; exact (cw_sr (cr_same.ad _)).symm, Or.inl ⟨by simp [ev, crr, t88], rfl, x85, hh85⟩⟩)
            · skip
              have ev := la_f hP.2.2.2.2.1 h58
              refine a_bipush (pc' := 63) (v := -10) hc d_E_create_61 rfl (by decide) ?_
              refine AW.widen (k' := 5) (n' := 25) (by omega) (by omega) ?_
              exact a_iret hc hr hk d_E_create_63 (⟨κ, tk, h, by simp [ctP, h4, g28, h37, ev], by simp [ctP, h4, g28, h37, ev], Or.inl ⟨by simp [h4, g28, h37, ev], rfl, Ext.rf, hh⟩⟩)
          · skip
            refine a_bipush (pc' := 42) (v := -3) hc d_E_create_40 rfl (by decide) ?_
            refine AW.widen (k' := 5) (n' := 25) (by omega) (by omega) ?_
            exact a_iret hc hr hk d_E_create_42 (⟨κ, tk, h, by simp [ctP, h4, g28, h37], by simp [ctP, h4, g28, h37], Or.inl ⟨by simp [h4, g28, h37], rfl, Ext.rf, hh⟩⟩)
        · skip
          have g32 : shB (nI w') c r = false := by rw [shB_eq, cww, decide_eq_false h28]; simp
          refine a_iconst (pc' := 32) (v := -1) hc d_E_create_31 rfl (by decide) ?_
          refine AW.widen (k' := 5) (n' := 25) (by omega) (by omega) ?_
          exact a_iret hc hr hk d_E_create_32 (⟨κ, tk, h, by simp [ctP, h4, g32], by simp [ctP, h4, g32], Or.inl ⟨by simp [h4, g32], rfl, Ext.rf, hh⟩⟩)
  · skip
    refine a_bipush (pc' := 9) (v := -2) hc d_E_create_7 rfl (by decide) ?_
    refine AW.widen (k' := 5) (n' := 25) (by omega) (by omega) ?_
    exact a_iret hc hr hk d_E_create_9 (⟨κ, tk, h, by simp [ctP, h4], by simp [ctP, h4], Or.inl ⟨by simp [h4], rfl, Ext.rf, hh⟩⟩)
theorem ct_E_extend (hx : CX bx rl ca tys n E) (hh : HD bx n h) {pa q va : Nat} {mv : Option Nat} {g : Nat → Option Nat} (hP : PrOk h ca τ κ pa q va mv g) (hw : WFx n E τ 15) (hm : CmOk n τ κ h) {v r : Int32} : CT l y_E_extend (Cond.code y_E_extend c_E_extend 5 (some .int) :: WS) (ra 6 5 25) D vcl tys A (cw bx rl ca n E τ κ tk h) [.ref (bx 0), .int v, .int r] (fun v' f' => ∃ (κ' : Nat → Option Nat) (tk' : Nat → Int32) (h' : Nat → Option va_E), v' = some (.int (xtP τ n E v r).1) ∧ f' = cw bx rl ca n E (xtP τ n E v r).2 κ' tk' h' ∧ PubRes bx ca n (adT (cpT τ 15 16 64) n E v.toNatClampNeg r.toNatClampNeg) κ h (tb (τ 0 5) && (volB τ v && (!decide (r < nI 1) && decide (r ≤ nI (12 / gN τ 15 (15 * v.toNatClampNeg) - gN τ 15 (15 * v.toNatClampNeg + 2))))) && (!fewB τ n && (!mvB τ v && !decide (fsL (qR (cpT τ 15 16 64) n E v.toNatClampNeg) r.toNatClampNeg < r.toNatClampNeg)))) κ' h') 5 25 := by
  obtain ⟨hn2, hn5⟩ := hx.2.2.1
  obtain ⟨hE2, hE10⟩ := hx.2.2.2
  refine CT.of (own := R_E) rfl (by decide) (Nat.le_of_ble_eq_true rfl) (cat_all rfl) ?_
  intro pp ee ss mm aa bb me cd hc hK hO hr hk hA
  refine AW.to (lv' := [some (.ref (bx 0)), some (.int v), some (.int r), none, none]) rfl rfl rfl ?_
  refine a_aload_n (pc' := 1) hc d_E_extend_0 rfl rfl rfl ?_
  refine c_getE (pc' := 4) hc hK hx 6 (v := .int (bI (tb (τ 0 5)))) (by decide) (rfl) fl_E_60 d_E_extend_1 rfl ?_
  refine a_ifb_ne (pc' := 7) (tgt := 10) hc d_E_extend_4 rfl rfl (fun h4 => ?_) (fun h4 => ?_)
  · skip
    refine a_aload_n (pc' := 11) hc d_E_extend_10 rfl rfl rfl ?_
    refine c_getE (pc' := 14) hc hK hx 3 (v := .ref pa) (by decide) (by show some (va_rf (κ 0)) = _; rw [hP.1]; rfl) fl_E_47 d_E_extend_11 rfl ?_
    refine c_getH (pc' := 17) hc hK in_C rfl hh hP.2.1 2 (v := .ref q) (by decide) rfl fl_E_75 d_E_extend_14 rfl ?_
    refine a_iload_n (pc' := 18) hc d_E_extend_17 rfl rfl rfl ?_
    refine c_call (pc' := 21) hc hK hO hA (q) [.int v] [] (ct_L_volumeAt hx hh (τ := τ) (κ := κ) (tk := tk) (h := h) (a := q) (va := va) (mv := mv) (g := g) (v := v) hP.2.2.1 hP.2.2.2.1) ml_E_98 hd_L_volumeAt ⟨by decide, by decide⟩ rfl rfl (Nat.le_of_ble_eq_true rfl) (cw_h hh hP.2.2.1) rfl rfl d_E_extend_18 rfl ⟨by first | decide | (show _ ≤ _; simp only [ra]; omega), by first | decide | (show _ ≤ _; simp only [ra]; omega)⟩ ?_
    refine AW.to (st' := [va_rf (vaQ g v)]) rfl rfl rfl ?_
    refine a_astore_nq (pc' := 22) hc d_E_extend_21 rfl rfl (by decide) ?_
    refine a_aload_nq (pc' := 23) hc d_E_extend_22 rfl rfl rfl ?_
    refine a_ifnull (pc' := 26) (tgt := 47) hc d_E_extend_23 rfl rfl (fun h23 => ?_) (fun a23 h23 => ?_)
    · skip
      try rw [h23]
      have b23 := va_none hP.2.2.2.2.1 h23
      refine a_iconst (pc' := 48) (v := -1) hc d_E_extend_47 rfl (by decide) ?_
      refine AW.widen (k' := 5) (n' := 25) (by omega) (by omega) ?_
      exact a_iret hc hr hk d_E_extend_48 (⟨κ, tk, h, by simp [xtP, h4, b23], by simp [xtP, h4, b23], Or.inl ⟨by simp [h4, b23], rfl, Ext.rf, hh⟩⟩)
    · skip
      try rw [h23]
      obtain ⟨j, pl, P, hj, ej, cj, b23, pj, hU, hpl, hPk⟩ := va_some hP.2.2.2.2.1 h23
      subst ej
      have hx16 := hw.1.ex hj
      have hwd := hw.2.1 j hj pj
      have hw4 := (hw.1.2 j hj).1
      have hsub : gN τ 15 (15 * j + 2) ≤ 12 / gN τ 15 (15 * j) := (Nat.le_div_iff_mul_le (by omega)).mpr (by rw [Nat.mul_comm]; exact hx16)
      have hd12 : 12 / gN τ 15 (15 * j) ≤ 12 := Nat.div_le_self _ _
      refine a_iload_n (pc' := 27) hc d_E_extend_26 rfl rfl rfl ?_
      refine a_iconst (pc' := 28) (v := nI 1) hc d_E_extend_27 rfl (by decide) ?_
      refine a_icmp_lt (pc' := 31) (tgt := 47) hc d_E_extend_28 rfl rfl (fun h28 => ?_) (fun h28 => ?_)
      · skip
        refine a_iconst (pc' := 48) (v := -1) hc d_E_extend_47 rfl (by decide) ?_
        refine AW.widen (k' := 5) (n' := 25) (by omega) (by omega) ?_
        exact a_iret hc hr hk d_E_extend_48 (⟨κ, tk, h, by simp [xtP, h4, b23, cj, h28], by simp [xtP, h4, b23, cj, h28], Or.inl ⟨by simp [h4, b23, cj, h28], rfl, Ext.rf, hh⟩⟩)
      · skip
        refine a_iload_n (pc' := 32) hc d_E_extend_31 rfl rfl rfl ?_
        refine a_bipush (pc' := 34) (v := nI 12) hc d_E_extend_32 rfl (by decide) ?_
        refine a_aload_n (pc' := 35) hc d_E_extend_34 rfl rfl rfl ?_
        refine c_getH (pc' := 38) hc hK in_U rfl hh hU 0 (v := .int (nI (gN τ 15 (15 * j)))) (by decide) rfl fl_E_102 d_E_extend_35 rfl ?_
        refine a_ndiv (pc' := 39) hc d_E_extend_38 rfl (by decide) (by omega) (by omega) ?_
        refine a_aload_n (pc' := 40) hc d_E_extend_39 rfl rfl rfl ?_
        refine c_getH (pc' := 43) hc hK in_U rfl hh hU 2 (v := .int (nI (gN τ 15 (15 * j + 2)))) (by decide) rfl fl_E_105 d_E_extend_40 rfl ?_
        refine a_nsub (pc' := 44) hc d_E_extend_43 rfl (hsub) ?_
        refine a_icmp_le (pc' := 47) (tgt := 49) hc d_E_extend_44 rfl rfl (fun h44 => ?_) (fun h44 => ?_)
        · skip
          obtain ⟨r', hr1, hr2, er, crr⟩ := rg_of (by omega) h28 h44
          subst er
          have h12 : gN τ 15 (15 * j) * (gN τ 15 (15 * j + 2) + r') ≤ 12 := by rw [Nat.mul_comm]; exact (Nat.le_div_iff_mul_le (by omega)).mp (by omega)
          refine a_aload_n (pc' := 50) hc d_E_extend_49 rfl rfl rfl ?_
          refine c_call (pc' := 53) hc hK hO hA (bx 0) [] [] (ct_E_isFew hx hh (τ := τ) (κ := κ) (tk := tk) (h := h)) ml_E_71 hd_E_isFew ⟨by decide, by decide⟩ rfl rfl (Nat.le_of_ble_eq_true rfl) (cw_at hx.1 (by omega)) rfl rfl d_E_extend_50 rfl ⟨by first | decide | (show _ ≤ _; simp only [ra]; omega), by first | decide | (show _ ≤ _; simp only [ra]; omega)⟩ ?_
          refine AW.to (st' := [.int (bI (fewB τ n))]) rfl rfl rfl ?_
          refine a_ifb_eq (pc' := 56) (tgt := 59) hc d_E_extend_53 rfl rfl (fun h53 => ?_) (fun h53 => ?_)
          · skip
            refine a_aload_n (pc' := 60) hc d_E_extend_59 rfl rfl rfl ?_
            refine a_iload_n (pc' := 61) hc d_E_extend_60 rfl rfl rfl ?_
            refine c_call (pc' := 64) hc hK hO hA (bx 0) [.int (nI j)] [] (ct_E_isMoving hx hh (τ := τ) (κ := κ) (tk := tk) (h := h) (pa := pa) (q := q) (va := va) (mv := mv) (g := g) (v := nI j) hP) ml_E_108 hd_E_isMoving ⟨by decide, by decide⟩ rfl rfl (Nat.le_of_ble_eq_true rfl) (cw_at hx.1 (by omega)) rfl rfl d_E_extend_61 rfl ⟨by first | decide | (show _ ≤ _; simp only [ra]; omega), by first | decide | (show _ ≤ _; simp only [ra]; omega)⟩ ?_
            refine AW.to (st' := [.int (bI (mgB τ (nI j)))]) rfl rfl rfl ?_
            refine a_ifb_eq (pc' := 67) (tgt := 70) hc d_E_extend_64 rfl rfl (fun h64 => ?_) (fun h64 => ?_)
            · skip
              have e64 : mvB τ (nI j) = false := by rw [← mg_mv (by omega)]; exact h64
              refine a_aload_n (pc' := 71) hc d_E_extend_70 rfl rfl rfl ?_
              refine a_aload_n (pc' := 72) hc d_E_extend_71 rfl rfl rfl ?_
              refine c_getH (pc' := 75) hc hK in_U rfl hh hU 2 (v := .int (nI (gN τ 15 (15 * j + 2)))) (by decide) rfl fl_E_105 d_E_extend_72 rfl ?_
              refine a_iload_n (pc' := 76) hc d_E_extend_75 rfl rfl rfl ?_
              refine a_nadd (pc' := 77) hc d_E_extend_76 rfl ?_
              refine a_cV (pc' := 80) hc hK hO hA (As := [.int (nI (gN τ 15 (15 * j + 2) + r'))]) (rest := []) (ct_U_withRows hx hh (τ := τ) (κ := κ) (tk := tk) (h := h) (a := a23) (pl := pl) (pn := exN τ 15 j) (w := gN τ 15 (15 * j)) (s := gN τ 15 (15 * j + 1)) (rc := gN τ 15 (15 * j + 2)) (c := gN τ 15 (15 * j + 2) + r') (P := P) hU hpl hx16 h12) ml_E_112 hd_U_withRows rfl rfl ⟨by decide, by decide⟩ (cw_h hh hU) rfl rfl rfl rfl (Nat.le_of_ble_eq_true rfl) d_E_extend_77 rfl ⟨by decide, by decide⟩ (fun v77 f77 hq77 => ?_)
              obtain ⟨r77, p77, h77, P77, rfl, ⟨rfl, x77, hh77⟩, hr77, hp77, np77, nr77, hP77⟩ := hq77
              have ne77 : r77 ≠ p77 := fun e => by rw [e, hp77] at hr77; cases hr77
              have hh0 := hh
              have hh := hh77
              have hU := x77 _ _ hU
              refine AW.to (st' := [.ref r77]) rfl rfl rfl ?_
              refine a_astore (pc' := 82) hc d_E_extend_80 rfl (by decide) ?_
              refine a_aload_n (pc' := 83) hc d_E_extend_82 rfl rfl rfl ?_
              refine a_aload (pc' := 85) hc d_E_extend_83 rfl rfl ?_
              refine a_aload_n (pc' := 86) hc d_E_extend_85 rfl rfl rfl ?_
              refine c_getH (pc' := 89) hc hK in_U rfl hh hU 2 (v := .int (nI (gN τ 15 (15 * j + 2)))) (by decide) rfl fl_E_105 d_E_extend_86 rfl ?_
              refine a_cV (pc' := 92) hc hK hO hA (As := [.ref r77, .int (nI (gN τ 15 (15 * j + 2)))]) (rest := []) (ct_E_takeRows hx hh77 (τ := τ) (κ := κ) (tk := tk) (h := h77) (h0 := h) (pa := pa) (q := q) (va := va) (mv := mv) (g := g) (a := r77) (pl := p77) (M := gN τ 15 (15 * j) * (gN τ 15 (15 * j + 2) + r')) (w := gN τ 15 (15 * j)) (rc := gN τ 15 (15 * j + 2) + r') (f0 := gN τ 15 (15 * j + 2)) (s := nI (gN τ 15 (15 * j + 1))) (P := P77) hP hw hr77 ⟨hp77, by omega⟩ x77 rfl h12 (by omega) hw4 (by omega) (by omega)) ml_E_86 hd_E_takeRows rfl rfl ⟨by decide, by decide⟩ (cw_at hx.1 (by omega)) rfl rfl rfl rfl (Nat.le_of_ble_eq_true rfl) d_E_extend_89 rfl ⟨by decide, by decide⟩ (fun v89 f89 hq89 => ?_)
              obtain ⟨rfl, rfl⟩ := hq89
              obtain ⟨h89, eh89⟩ : ∃ h89, h89 = va_up h77 p77 (some (.inl (ca 0, gN τ 15 (15 * j) * (gN τ 15 (15 * j + 2) + r'), .inl (twP τ n E (gN τ 15 (15 * j)) (gN τ 15 (15 * j + 2)) P77 (fsL (qT τ n E (gN τ 15 (15 * j))) (gN τ 15 (15 * j + 2) + r' - gN τ 15 (15 * j + 2))))))) := ⟨_, rfl⟩
              refine AW.to (f' := cw bx rl ca n E τ κ (tkF (twU τ n E (gN τ 15 (15 * j)) (fsL (qT τ n E (gN τ 15 (15 * j))) (gN τ 15 (15 * j + 2) + r' - gN τ 15 (15 * j + 2)))) E) h89) (by rw [eh89]) rfl rfl ?_
              have ha89 : h89 r77 = some (.inr (3, [.int (nI (gN τ 15 (15 * j))), .int (nI (gN τ 15 (15 * j + 1))), .int (nI (gN τ 15 (15 * j + 2) + r')), .ref p77])) := by rw [eh89, va_up_ne _ _ ne77]; exact hr77
              have hp89 : h89 p77 = some (.inl (ca 0, gN τ 15 (15 * j) * (gN τ 15 (15 * j + 2) + r'), .inl (twP τ n E (gN τ 15 (15 * j)) (gN τ 15 (15 * j + 2)) P77 (fsL (qT τ n E (gN τ 15 (15 * j))) (gN τ 15 (15 * j + 2) + r' - gN τ 15 (15 * j + 2)))))) := by rw [eh89]; exact va_up_self _ _ _
              have hh89 : HD bx n h89 := by rw [eh89]; exact hh77.up (hh77.off hp77)
              have x89 : Ext h h89 := by rw [eh89]; exact x77.upx np77
              have ha109 := ha89
              have hh := hh89
              have hle89 : exN τ 15 j ≤ gN τ 15 (15 * j) * (gN τ 15 (15 * j + 2) + r') := Nat.mul_le_mul_left _ (by omega)
              have hb89 := AG.xt (P := P77) hw.1 hj (fun k hk' => by rw [hP77 k (by omega), if_pos hk', hPk k hk', ← hw.1.n (by omega) (by omega)])
              have e89 := hb89.fs hn5 hE10 hj (by omega) hw4 h12 r' (by omega)
              have p89 : xtP τ n E (nI j) (nI r') = adP (cpT τ 15 16 64) n E j r' (fun σ => gt σ 15 (15 * j + 2)) := by simp [xtP, h4, b23, cj, crr, h28, h44, h53, e64]
              have s89 : gN τ 15 (15 * j + 2) + r' - gN τ 15 (15 * j + 2) = r' := by omega
              refine AW.to (st' := [.int (bI (trB τ n E (gN τ 15 (15 * j)) (gN τ 15 (15 * j + 2) + r' - gN τ 15 (15 * j + 2))))]) rfl rfl rfl ?_
              refine a_ifb_ne (pc' := 95) (tgt := 98) hc d_E_extend_92 rfl rfl (fun h92 => ?_) (fun h92 => ?_)
              · skip
                obtain ⟨t92, u92⟩ := tr_yes h92
                rw [s89] at t92 u92
                rw [← e89] at t92
                have g92 := hb89.run hn5 hE10 hj (by omega) hw4 h12 r' (by omega) (fsL_all t92)
                refine a_aload_n (pc' := 99) hc d_E_extend_98 rfl rfl rfl ?_
                refine a_aload_n (pc' := 100) hc d_E_extend_99 rfl rfl rfl ?_
                have hP0 := hP
                have hP := hP.ext x89
                refine c_getE (pc' := 103) hc hK hx 3 (v := .ref pa) (by decide) (by show some (va_rf (κ 0)) = _; rw [hP.1]; rfl) fl_E_47 d_E_extend_100 rfl ?_
                refine c_getH (pc' := 106) hc hK in_C rfl hh hP.2.1 2 (v := .ref q) (by decide) rfl fl_E_75 d_E_extend_103 rfl ?_
                refine a_iload_n (pc' := 107) hc d_E_extend_106 rfl rfl rfl ?_
                refine a_aload (pc' := 109) hc d_E_extend_107 rfl rfl ?_
                have hP := hP0
                refine a_cV (pc' := 112) hc hK hO hA (As := [.int (nI j), va_rf (some r77)]) (rest := [.ref (bx 0)]) (ct_L_withVolume hx hh89 (τ := τ) (κ := κ) (tk := tkF (twU τ n E (gN τ 15 (15 * j)) (fsL (qT τ n E (gN τ 15 (15 * j))) (gN τ 15 (15 * j + 2) + r' - gN τ 15 (15 * j + 2)))) E) (h := h89) (a := q) (va := va) (mv := mv) (g := g) (v := nI j) (o := some r77) (x89 _ _ hP.2.2.1) (x89 _ _ hP.2.2.2.1) (fun b hb => by cases hb; exact ⟨_, ha109⟩) (hP.2.2.vols.ext x89)) ml_E_90 hd_L_withVolume rfl rfl ⟨by decide, by decide⟩ (cw_h hh89 (x89 _ _ hP.2.2.1)) rfl rfl rfl rfl (Nat.le_of_ble_eq_true rfl) d_E_extend_109 rfl ⟨by decide, by decide⟩ (fun v109 f109 hq109 => ?_)
                obtain ⟨r109, va109, h109, g109, rfl, ⟨rfl, x109', hh109⟩, hr109, hva109, hg109⟩ := hq109
                have x109 := x89.tr x109'
                have ly109 := ly_vol (σ := adT (cpT τ 15 16 64) n E j r') hw.1 hj hP.2.2 x109 hr109 hva109 hg109 g92.2.2.2.2.2 (g92.vl hj (by omega) (by omega) h12 (by rw [hw.1.n (by omega) (by omega)]; exact x109' _ _ ha89) (by rw [s89, u92] at hp89; exact x109' _ _ hp89)) (mv_ne hw hj e64)
                refine AW.to (st' := [.ref r109, .ref (bx 0)]) rfl rfl rfl ?_
                refine AW.to (f' := cw bx rl ca n E (adT (cpT τ 15 16 64) n E j r') κ (tkF (twU τ n E (gN τ 15 (15 * j)) (fsL (qT τ n E (gN τ 15 (15 * j))) (gN τ 15 (15 * j + 2) + r' - gN τ 15 (15 * j + 2)))) E) h109) (cw_sr (SameR.cp.ad _)) rfl rfl ?_
                have cm112 := hm.same (σ := adT (cpT τ 15 16 64) n E j r') (SameR.cp.ad _) x109
                refine a_cV (pc' := 115) hc hK hO hA (As := [.ref r109]) (rest := []) (ct_E_commit hx hh109 (τ := adT (cpT τ 15 16 64) n E j r') (κ := κ) (tk := tkF (twU τ n E (gN τ 15 (15 * j)) (fsL (qT τ n E (gN τ 15 (15 * j))) (gN τ 15 (15 * j + 2) + r' - gN τ 15 (15 * j + 2)))) E) (h := h109) (pa := pa) (q := q) (ly := r109) ⟨hP.1, by rw [(SameR.cp.ad _).1]; exact x109 _ _ hP.2.1⟩ cm112.1 cm112.2.1 cm112.2.2.1 cm112.2.2.2.1 cm112.2.2.2.2.1 cm112.2.2.2.2.2.1 cm112.2.2.2.2.2.2) ml_E_94 hd_E_commit rfl rfl ⟨by decide, by decide⟩ (cw_at hx.1 (by omega)) rfl rfl rfl rfl (Nat.le_of_ble_eq_true rfl) d_E_extend_112 rfl ⟨by decide, by decide⟩ (fun v112 f112 hq112 => ?_)
                obtain ⟨r112, nr112, hh112, rfl, rfl⟩ := hq112
                refine AW.to (st' := [.int (bI (cmB (adT (cpT τ 15 16 64) n E j r') n))]) rfl rfl rfl ?_
                refine a_ifb_eq (pc' := 118) (tgt := 126) hc d_E_extend_115 rfl rfl (fun h115 => ?_) (fun h115 => ?_)
                · skip
                  refine a_bipush (pc' := 128) (v := -7) hc d_E_extend_126 rfl (by decide) ?_
                  refine AW.widen (k' := 5) (n' := 25) (by omega) (by omega) ?_
                  exact a_iret hc hr hk d_E_extend_128 (⟨cmF (adT (cpT τ 15 16 64) n E j r') κ n r112, tkF (twU τ n E (gN τ 15 (15 * j)) (fsL (qT τ n E (gN τ 15 (15 * j))) (gN τ 15 (15 * j + 2) + r' - gN τ 15 (15 * j + 2)))) E, va_up h109 r112 (some (.inr (0, [.int ((adT (cpT τ 15 16 64) n E j r') 0 2 + nI 1), .int ((adT (cpT τ 15 16 64) n E j r') 0 4 + nI 1), .ref r109]))), by first | (rw [p89, ad_ok t92 h115]; rfl) | (rw [p89, ad_ok t92 h115]; show _ = some (Value.int (gt (cmW (adT (cpT τ 15 16 64) n E j r') n) 15 (15 * j + 2))); rw [cmW_15 hn5 (by omega) h115, g92.1.n (by omega) (by omega), g92.2.2.1.2.2]), by rw [p89, ad_ok t92 h115], Or.inr ⟨by simp [h4, b23, cj, crr, h28, h44, h53, e64, t92], by rw [cj, crr]; exact ⟨_, _, _, _, _, r112, x109, hh109, ly109, nr112, hh112, rfl, rfl⟩⟩⟩)
                · skip
                  have hh := hh112
                  have ha89 := Ext.up (x := some (.inr (0, [.int ((adT (cpT τ 15 16 64) n E j r') 0 2 + nI 1), .int ((adT (cpT τ 15 16 64) n E j r') 0 4 + nI 1), .ref r109]))) nr112 _ _ (x109' _ _ ha89)
                  refine a_aload (pc' := 120) hc d_E_extend_118 rfl rfl ?_
                  refine c_getH (pc' := 123) hc hK in_U rfl hh ha89 2 (v := .int (nI (gN τ 15 (15 * j + 2) + r'))) (by decide) rfl fl_E_105 d_E_extend_120 rfl ?_
                  refine a_goto (tgt := 128) hc d_E_extend_123 rfl ?_
                  refine AW.widen (k' := 5) (n' := 25) (by omega) (by omega) ?_
                  exact a_iret hc hr hk d_E_extend_128 (⟨cmF (adT (cpT τ 15 16 64) n E j r') κ n r112, tkF (twU τ n E (gN τ 15 (15 * j)) (fsL (qT τ n E (gN τ 15 (15 * j))) (gN τ 15 (15 * j + 2) + r' - gN τ 15 (15 * j + 2)))) E, va_up h109 r112 (some (.inr (0, [.int ((adT (cpT τ 15 16 64) n E j r') 0 2 + nI 1), .int ((adT (cpT τ 15 16 64) n E j r') 0 4 + nI 1), .ref r109]))), by first | (rw [p89, ad_ok t92 h115]; rfl) | (rw [p89, ad_ok t92 h115]; show _ = some (Value.int (gt (cmW (adT (cpT τ 15 16 64) n E j r') n) 15 (15 * j + 2))); rw [cmW_15 hn5 (by omega) h115, g92.1.n (by omega) (by omega), g92.2.2.1.2.2]), by rw [p89, ad_ok t92 h115], Or.inr ⟨by simp [h4, b23, cj, crr, h28, h44, h53, e64, t92], by rw [cj, crr]; exact ⟨_, _, _, _, _, r112, x109, hh109, ly109, nr112, hh112, rfl, rfl⟩⟩⟩)
              · skip
                have t92 := tr_no h92
                rw [s89, ← e89] at t92
                refine a_bipush (pc' := 97) (v := -5) hc d_E_extend_95 rfl (by decide) ?_
                refine AW.widen (k' := 5) (n' := 25) (by omega) (by omega) ?_
                exact a_iret hc hr hk d_E_extend_97 (⟨κ, tkF (twU τ n E (gN τ 15 (15 * j)) (fsL (qT τ n E (gN τ 15 (15 * j))) (gN τ 15 (15 * j + 2) + r' - gN τ 15 (15 * j + 2)))) E, h89, by rw [p89, ad_few t92], by rw [p89, ad_few t92]; exact (cw_sr (SameR.cp.ad _)).symm, Or.inl ⟨by simp [cj, crr, t92], rfl, x89, hh89⟩⟩)
            · skip
              have e64 : mvB τ (nI j) = true := by rw [← mg_mv (by omega)]; exact h64
              refine a_bipush (pc' := 69) (v := -4) hc d_E_extend_67 rfl (by decide) ?_
              refine AW.widen (k' := 5) (n' := 25) (by omega) (by omega) ?_
              exact a_iret hc hr hk d_E_extend_69 (⟨κ, tk, h, by simp [xtP, h4, b23, cj, h28, h44, h53, e64], by simp [xtP, h4, b23, cj, h28, h44, h53, e64], Or.inl ⟨by simp [h4, b23, cj, h28, h44, h53, e64], rfl, Ext.rf, hh⟩⟩)
          · skip
            refine a_bipush (pc' := 58) (v := -3) hc d_E_extend_56 rfl (by decide) ?_
            refine AW.widen (k' := 5) (n' := 25) (by omega) (by omega) ?_
            exact a_iret hc hr hk d_E_extend_58 (⟨κ, tk, h, by simp [xtP, h4, b23, cj, h28, h44, h53], by simp [xtP, h4, b23, cj, h28, h44, h53], Or.inl ⟨by simp [h4, b23, cj, h28, h44, h53], rfl, Ext.rf, hh⟩⟩)
        · skip
          refine a_iconst (pc' := 48) (v := -1) hc d_E_extend_47 rfl (by decide) ?_
          refine AW.widen (k' := 5) (n' := 25) (by omega) (by omega) ?_
          exact a_iret hc hr hk d_E_extend_48 (⟨κ, tk, h, by simp [xtP, h4, b23, cj, h28, h44], by simp [xtP, h4, b23, cj, h28, h44], Or.inl ⟨by simp [h4, b23, cj, h28, h44], rfl, Ext.rf, hh⟩⟩)
  · skip
    refine a_bipush (pc' := 9) (v := -2) hc d_E_extend_7 rfl (by decide) ?_
    refine AW.widen (k' := 5) (n' := 25) (by omega) (by omega) ?_
    exact a_iret hc hr hk d_E_extend_9 (⟨κ, tk, h, by simp [xtP, h4], by simp [xtP, h4], Or.inl ⟨by simp [h4], rfl, Ext.rf, hh⟩⟩)
