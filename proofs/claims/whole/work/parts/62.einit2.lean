theorem Keep.old {f f' : Nat → Option va_E} {q0 : Nat} (x : Keep f f' q0) (n0 : f q0 = none) (q : Nat) (hq : f' q = none) : f q = none := by
  cases hz : f q with
  | none => rfl
  | some w =>
    by_cases e : q = q0
    · rw [e, n0] at hz; cases hz
    · rw [x _ _ e hz] at hq; cases hq
theorem RF.cl {f : Nat → Option va_E} {B R : Nat → Nat} {cl cl' : Nat → Option va_E} (H : RF f B R cl) (h : ∀ i x, cl' i = some x → cl i = some x) : RF f B R cl' := fun i x hi => H i x (h i x hi)
theorem dkG_0 {B : Nat → Nat} : dkG B 0 = fun _ => none := by
  funext k
  unfold dkG
  rw [if_neg (by omega)]
variable {l : Launch} {D : va_G} {tys : List (ClassId × FieldType)} {A : Nat → Prop} {ca : Nat → ClassId} {f : Nat → Option va_E}
theorem ct_E_init (hty : TYS tys ca) {o n E : Nat} {x y : Int32} (en : n = clN 5 x) (eE : E = clN 10 y) (h0 : f o = some (.inr (4, [.int 0, .null, .null, .null, .int 0, .int 0, .int 0, .int 0]))) : CT l y_E_init (Cond.code y_E_init c_E_init 6 none :: WS) (ra 2 25 274) D vcl tys A f [.ref o, .int x, .int y] (fun v' f' => v' = none ∧ ∃ (bx rl : Nat → Nat) (κ : Nat → Option Nat) (h : Nat → Option va_E), bx 0 = o ∧ CX bx rl ca tys n E ∧ INV bx ca n E 1 (t1 n) κ h ∧ f' = cw bx rl ca n E (t1 n) κ (fun _ => 0) h) 25 274 := by
  have rf0 : RF f (fun _ => o) (fun _ => 0) (va_up (fun _ => none) 0 (some (.inr (4, [.int 0, .null, .null, .null, .int 0, .int 0, .int 0, .int 0])))) := fun i x hi => by
    by_cases e : i = 0
    · subst e; rw [va_up_self] at hi; cases hi; exact ⟨h0, rfl⟩
    · rw [va_up_ne _ _ e] at hi; cases hi
  obtain ⟨hn2, hn5⟩ : 2 ≤ n ∧ n ≤ 5 := by rw [en]; exact clN_b (by decide) (by decide) x
  obtain ⟨hE2, hE10⟩ : 2 ≤ E ∧ E ≤ 10 := by rw [eE]; exact clN_b (by decide) (by decide) y
  refine CT.ofN (own := R_E) rfl (by decide) (Nat.le_of_ble_eq_true rfl) (cat_all rfl) ?_
  intro pp ee ss mm aa bb me cd hc hK hO hr hk hnm hA
  refine AW.to (lv' := [some (.ref o), some (.int x), some (.int y), none, none, none]) rfl rfl rfl ?_
  refine a_aload_n (pc' := 1) hc d_E_init_0 rfl rfl rfl ?_
  refine c_oinit (pc' := 4) hc oi_E (by decide) (by decide) d_E_init_1 rfl ?_
  refine AW.to (st' := []) rfl rfl rfl ?_
  refine a_iload_n (pc' := 5) hc d_E_init_4 rfl rfl rfl ?_
  refine a_iconst (pc' := 6) (v := nI 2) hc d_E_init_5 rfl (by decide) ?_
  refine a_mmax (pc' := 9) hc ml_E_7 (by decide) (Nat.le_of_ble_eq_true rfl) (by decide) (by decide) d_E_init_6 rfl ?_
  refine AW.to (st' := [.int (if x < nI 2 then nI 2 else x)]) rfl rfl rfl ?_
  refine a_iconst (pc' := 10) (v := nI 5) hc d_E_init_9 rfl (by decide) ?_
  refine a_mmin (pc' := 13) hc ml_E_13 (by decide) (Nat.le_of_ble_eq_true rfl) (by decide) (by decide) d_E_init_10 rfl ?_
  refine AW.topi (y := nI n) ((cl_mm (by decide) (by decide)).trans (by rw [en])) ?_
  refine AW.to (st' := [.int (nI n)]) rfl rfl rfl ?_
  refine a_istore_n (pc' := 14) hc d_E_init_13 rfl rfl (by decide) ?_
  refine a_aload_n (pc' := 15) hc d_E_init_14 rfl rfl rfl ?_
  refine a_iload_n (pc' := 16) hc d_E_init_15 rfl rfl rfl ?_
  refine a_iconst (pc' := 17) (v := nI 2) hc d_E_init_16 rfl (by decide) ?_
  refine a_mmax (pc' := 20) hc ml_E_7 (by decide) (Nat.le_of_ble_eq_true rfl) (by decide) (by decide) d_E_init_17 rfl ?_
  refine AW.to (st' := [.int (if y < nI 2 then nI 2 else y), .ref o]) rfl rfl rfl ?_
  refine a_bipush (pc' := 22) (v := nI 10) hc d_E_init_20 rfl (by decide) ?_
  refine a_mmin (pc' := 25) hc ml_E_13 (by decide) (Nat.le_of_ble_eq_true rfl) (by decide) (by decide) d_E_init_22 rfl ?_
  refine AW.topi (y := nI E) ((cl_mm (by decide) (by decide)).trans (by rw [eE])) ?_
  refine AW.to (st' := [.int (nI E), .ref o]) rfl rfl rfl ?_
  refine n_puti hc hK in_E ty_E ty_E_ok nm_E rfl h0 0 (by decide) fl_E_16 (Or.inr ⟨rfl, hnm, rfl⟩) (rfl) (rfl) (Nat.le_of_ble_eq_true rfl) d_E_init_25 rfl (fun f1 x1 o1 => ?_)
  have o1 : f1 o = some (.inr (4, [.int (nI E), .null, .null, .null, .int 0, .int 0, .int 0, .int 0])) := o1
  have rf1 := rf0.set (r := 0) (va_up_self _ _ _) x1 o1
  refine AW.to (st' := []) rfl rfl rfl ?_
  refine a_new (pc' := 31) (ci := 0) (N := 3) hc hK hA (fun w h => List.mem_cons_of_mem _ (in_C w h)) ty_C ty_C_ok (hc.2.2.2.2 _ (List.mem_cons_of_mem _ cl_E_22)) (hc.2.2.2.2 _ (List.mem_cons_of_mem _ mk_C.1)) (hc.2.2.2.2 _ (List.mem_cons_of_mem _ mk_C.2)) rfl (fs := [.int 0, .int 0, .null]) (by decide) (by decide) (by decide) d_E_init_28 rfl (fun qc nc _ => AW.at (fun f2 x2 a2 => ?_))
  have rf2 := rf1.add (r := 100) nc (fun a y ha => x2 a y (fun e => by rw [e, nc] at ha; cases ha) ha) a2 rfl
  refine AW.to (st' := [.ref qc]) rfl rfl rfl ?_
  refine a_dup (pc' := 32) hc d_E_init_31 rfl rfl ?_
  refine a_iconst (pc' := 33) (v := nI 1) hc d_E_init_32 rfl (by decide) ?_
  refine a_iconst (pc' := 34) (v := nI 1) hc d_E_init_33 rfl (by decide) ?_
  refine a_new (pc' := 37) (ci := 2) (N := 2) hc hK hA (fun w h => List.mem_cons_of_mem _ (in_L w h)) ty_L ty_L_ok (hc.2.2.2.2 _ (List.mem_cons_of_mem _ cl_E_24)) (hc.2.2.2.2 _ (List.mem_cons_of_mem _ mk_L.1)) (hc.2.2.2.2 _ (List.mem_cons_of_mem _ mk_L.2)) rfl (fs := [.null, .null]) (by decide) (by decide) (by decide) d_E_init_34 rfl (fun ql nl _ => AW.at (fun f3 x3 a3 => ?_))
  have rf3 := rf2.add (r := 101) nl (fun a y ha => x3 a y (fun e => by rw [e, nl] at ha; cases ha) ha) a3 rfl
  refine AW.to (st' := [.ref ql, .int (nI 1), .int (nI 1), .ref qc, .ref qc]) rfl rfl rfl ?_
  refine a_dup (pc' := 38) hc d_E_init_37 rfl rfl ?_
  refine a_iconst (pc' := 39) (v := nI 4) hc d_E_init_38 rfl (by decide) ?_
  refine a_newq (pc' := 42) (N' := 4) hc hK hA (hc.2.2.2.2 _ (List.mem_cons_of_mem _ cl_E_26)) hO.2.2.1.use 4 hty.2.2.2.2 rfl (by omega) (by decide) (by decide) d_E_init_39 rfl (fun qv nv _ => ?_)
  refine AW.at (fun f4 x4 a4 => ?_)
  have rf4 := rf3.add (r := 102) nv (fun a y ha => x4 a y (fun e => by rw [e, nv] at ha; cases ha) ha) a4 rfl
  refine AW.to (st' := [.ref qv, .ref ql, .ref ql, .int (nI 1), .int (nI 1), .ref qc, .ref qc]) rfl rfl rfl ?_
  refine a_null (pc' := 43) hc d_E_init_42 rfl ?_
  refine a_cI (pc' := 46) hc hK hO hA (As := [.ref qv, .null]) (rest := [.ref ql, .int (nI 1), .int (nI 1), .ref qc, .ref qc]) (ctg_L_init (a := ql) (va := qv) (rf4 101 _ rfl).1) ml_E_28 rfl hd_L_init rfl rfl ⟨by decide, by decide⟩ rfl rfl (Nat.le_of_ble_eq_true rfl) d_E_init_43 rfl ⟨by decide, by decide⟩ (fun v43 f5 hq43 => ?_)
  obtain ⟨rfl, x5, o5⟩ := hq43
  have rf5 := rf4.set (r := 101) rfl x5 o5
  refine AW.to (st' := [.ref ql, .int (nI 1), .int (nI 1), .ref qc, .ref qc]) rfl rfl rfl ?_
  refine a_cI (pc' := 49) hc hK hO hA (As := [.int (nI 1), .int (nI 1), .ref ql]) (rest := [.ref qc]) (ctg_C_init (a := qc) (q := ql) (x := 1) (y := 1) (rf5 100 _ rfl).1) ml_E_31 rfl hd_C_init rfl rfl ⟨by decide, by decide⟩ rfl rfl (Nat.le_of_ble_eq_true rfl) d_E_init_46 rfl ⟨by decide, by decide⟩ (fun v46 f6 hq46 => ?_)
  obtain ⟨rfl, x6, o6⟩ := hq46
  have rf6 := rf5.set (r := 100) rfl x6 o6
  refine AW.to (st' := [.ref qc]) rfl rfl rfl ?_
  refine a_astore (pc' := 51) hc d_E_init_49 rfl (by decide) ?_
  refine a_aload_n (pc' := 52) hc d_E_init_51 rfl rfl rfl ?_
  refine a_iload_n (pc' := 53) hc d_E_init_52 rfl rfl rfl ?_
  refine a_newq (pc' := 56) (N' := n) hc hK hA (hc.2.2.2.2 _ (List.mem_cons_of_mem _ cl_E_34)) hO.1.use 2 hty.2.2.1 rfl (by omega) (by decide) (by show 9 + n ≤ 274; omega) d_E_init_53 rfl (fun dk nd _ => ?_)
  refine AW.widen (k' := 4) (n' := 14) (by omega) (by omega) ?_
  refine AW.to (st' := [.ref dk, .ref o]) rfl rfl rfl ?_
  refine n_after hc hK in_E ty_E ty_E_ok nm_E rfl (rf6 0 _ rfl).1 nd 1 (by decide) fl_E_36 ⟨rfl, hnm, rfl⟩ rfl rfl (Nat.le_of_ble_eq_true rfl) d_E_init_56 rfl (fun f7 x7 o7 a7 => ?_)
  have o7 : f7 o = some (.inr (4, [.int (nI E), .ref dk, .null, .null, .int 0, .int 0, .int 0, .int 0])) := o7
  have rf7 := rf6.addset (r := 1) (s := 0) rfl nd x7 o7 a7 rfl
  have rg7 : RF f7 (va_up (va_up (va_up (va_up (fun _ => o) 100 qc) 101 ql) 102 qv) 1 dk) _ (CLf ca n E dk qc ql qv (va_up (va_up (va_up (va_up (fun _ => o) 100 qc) 101 ql) 102 qv) 1 dk) 0) := rf7.cl (fun i w hi => by
    unfold CLf at hi
    rw [dkG_0] at hi
    by_cases e0 : i = 0
    · subst e0; exact hi
    · rw [if_neg e0] at hi
      by_cases e1 : i = 1
      · subst e1; exact hi
      · rw [if_neg e1] at hi
        by_cases e2 : i = 100
        · subst e2; exact hi
        · rw [if_neg e2] at hi
          by_cases e3 : i = 101
          · subst e3; exact hi
          · rw [if_neg e3] at hi
            by_cases e4 : i = 102
            · subst e4; exact hi
            · rw [if_neg e4, if_neg (by omega)] at hi
              cases hi)
  refine AW.to (st' := []) rfl rfl rfl ?_
  refine a_iconst (pc' := 60) (v := nI 0) hc d_E_init_59 rfl (by decide) ?_
  refine a_istore (pc' := 62) hc d_E_init_60 rfl (by decide) ?_
  refine AW.loopX (Z := (Nat → Option va_E) × (Nat → Nat) × (Nat → Nat)) n (fun d z => RF z.1 z.2.1 z.2.2 (CLf ca n E dk qc ql qv z.2.1 d) ∧ z.2.1 0 = o ∧ z.2.1 1 = dk ∧ z.2.1 100 = qc ∧ z.2.1 101 = ql ∧ z.2.1 102 = qv) (fun z => z.1) (fun d => [some (.ref o), some (.int x), some (.int y), some (.int (nI n)), some (.ref qc), some (.int (nI d))]) (fun d => 4 + 4 * d) (fun d => 14 + 51 * d) (f7, (va_up (va_up (va_up (va_up (fun _ => o) 100 qc) 101 ql) 102 qv) 1 dk), _) ⟨rg7, rfl, rfl, rfl, rfl, rfl⟩ rfl rfl rfl rfl (fun d62 hle62 z hz ih62 => ?_)
  obtain ⟨f8, B8, R8⟩ := z
  obtain ⟨rf8, b0, b1, bc, bl, bv⟩ := hz
  dsimp only at ih62 rf8 b0 b1 bc bl bv ⊢
  have F0 := (rf8 0 _ rfl).1
  have F1 := (rf8 1 _ rfl).1
  have FC := (rf8 100 _ rfl).1
  rw [b0] at F0
  rw [b1] at F1
  rw [bc] at FC
  refine a_iload (pc' := 64) hc d_E_init_62 rfl rfl ?_
  refine a_iload_n (pc' := 65) hc d_E_init_64 rfl rfl rfl ?_
  refine a_ncmp_ge (pc' := 68) (tgt := 94) hc d_E_init_65 rfl rfl (by omega) (by omega) (fun h65 => ?_) (fun h65 => ?_)
  · skip
    have hex65 : d62 = n := by omega
    subst d62
    refine AW.widen (k' := 24) (n' := 269) (by omega) (by omega) ?_
    refine a_aload_n (pc' := 95) hc d_E_init_94 rfl rfl rfl ?_
    refine a_iload_n (pc' := 96) hc d_E_init_95 rfl rfl rfl ?_
    refine a_newa (pc' := 98) (atype := .int) (N' := n) hc hK hA (hc.2.2.2.2 _ (List.mem_cons_of_mem _ kc_arr_int)) 0 hty.1 rfl (fun h => h) (a0 := (n, .inl (fun _ => 0))) rfl rfl (by omega) (by decide) (by decide) (by show 269 + n ≤ 274; omega) d_E_init_96 rfl (fun qt nt _ => ?_)
    refine AW.widen (k' := 25) (n' := 274) (by omega) (by omega) ?_
    refine AW.to (st' := [.ref qt, .ref o]) rfl rfl rfl ?_
    refine n_after hc hK in_E ty_E ty_E_ok nm_E rfl F0 nt 2 (by decide) fl_E_43 ⟨rfl, hnm, rfl⟩ rfl rfl (Nat.le_of_ble_eq_true rfl) d_E_init_98 rfl (fun g1 y1 p1 t1' => ?_)
    have p1 : g1 o = some (.inr (4, [.int (nI E), .ref dk, .ref qt, .null, .int 0, .int 0, .int 0, .int 0])) := p1
    have ec : qc ≠ o := fun e => by rw [e, F0] at FC; cases FC
    have eto : qt ≠ o := fun e => by rw [e, F0] at nt; cases nt
    refine AW.to (st' := []) rfl rfl rfl ?_
    refine a_aload_n (pc' := 102) hc d_E_init_101 rfl rfl rfl ?_
    refine a_aload (pc' := 104) hc d_E_init_102 rfl rfl ?_
    refine n_puti hc hK in_E ty_E ty_E_ok nm_E rfl p1 3 (by decide) fl_E_47 (Or.inl rfl) (rfl) (rfl) (Nat.le_of_ble_eq_true rfl) d_E_init_104 rfl (fun g2 y2 p2 => ?_)
    have p2 : g2 o = some (.inr (4, [.int (nI E), .ref dk, .ref qt, .ref qc, .int 0, .int 0, .int 0, .int 0])) := p2
    refine AW.to (st' := []) rfl rfl rfl ?_
    refine a_aload_n (pc' := 108) hc d_E_init_107 rfl rfl rfl ?_
    refine a_iconst (pc' := 109) (v := nI 0) hc d_E_init_108 rfl (by decide) ?_
    refine n_puti hc hK in_E ty_E ty_E_ok nm_E rfl p2 4 (by decide) fl_E_51 (Or.inl rfl) (rfl) (rfl) (Nat.le_of_ble_eq_true rfl) d_E_init_109 rfl (fun g3 y3 p3 => ?_)
    have p3 : g3 o = some (.inr (4, [.int (nI E), .ref dk, .ref qt, .ref qc, .int (nI 0), .int 0, .int 0, .int 0])) := p3
    refine AW.to (st' := []) rfl rfl rfl ?_
    refine a_aload_n (pc' := 113) hc d_E_init_112 rfl rfl rfl ?_
    refine a_aload (pc' := 115) hc d_E_init_113 rfl rfl ?_
    refine a_get (pc' := 118) hc hK (C := R_C) (T := T_C) (N := 3) (ci := 0) (fun w h => List.mem_cons_of_mem _ (in_C w h)) (y3 _ _ ec (y2 _ _ ec (y1 _ _ ec FC))) rfl 1 (by decide) (hc.2.2.2.2 _ (List.mem_cons_of_mem _ fl_E_54)) rfl (v := .int (nI 1)) rfl d_E_init_115 rfl ?_
    refine AW.to (st' := [.int (nI 1), .ref o]) rfl rfl rfl ?_
    refine n_puti hc hK in_E ty_E ty_E_ok nm_E rfl p3 5 (by decide) fl_E_57 (Or.inl rfl) (rfl) (rfl) (Nat.le_of_ble_eq_true rfl) d_E_init_118 rfl (fun g4 y4 p4 => ?_)
    have p4 : g4 o = some (.inr (4, [.int (nI E), .ref dk, .ref qt, .ref qc, .int (nI 0), .int (nI 1), .int 0, .int 0])) := p4
    refine AW.to (st' := []) rfl rfl rfl ?_
    refine a_aload_n (pc' := 122) hc d_E_init_121 rfl rfl rfl ?_
    refine a_iconst (pc' := 123) (v := nI 1) hc d_E_init_122 rfl (by decide) ?_
    refine n_puti hc hK in_E ty_E ty_E_ok nm_E rfl p4 6 (by decide) fl_E_60 (Or.inl rfl) (by decide) (by decide) (Nat.le_of_ble_eq_true rfl) d_E_init_123 rfl (fun g5 y5 p5 => ?_)
    have p5 : g5 o = some (.inr (4, [.int (nI E), .ref dk, .ref qt, .ref qc, .int (nI 0), .int (nI 1), .int (nI 1), .int 0])) := p5
    refine AW.to (st' := []) rfl rfl rfl ?_
    refine a_aload_n (pc' := 127) hc d_E_init_126 rfl rfl rfl ?_
    refine a_iconst (pc' := 128) (v := -1) hc d_E_init_127 rfl (by decide) ?_
    refine n_puti hc hK in_E ty_E ty_E_ok nm_E rfl p5 7 (by decide) fl_E_64 (Or.inl rfl) (rfl) (rfl) (Nat.le_of_ble_eq_true rfl) d_E_init_128 rfl (fun g6 y6 p6 => ?_)
    have p6 : g6 o = some (.inr (4, [.int (nI E), .ref dk, .ref qt, .ref qc, .int (nI 0), .int (nI 1), .int (nI 1), .int (-1)])) := p6
    refine AW.to (st' := []) rfl rfl rfl ?_
    obtain ⟨bx, rl, κ, h, z1, z2, z3, z4⟩ := cw_of (tys := tys) hty ⟨hn2, hn5⟩ ⟨hE2, hE10⟩ rf8 b0 b1 bc bl bv nt (f' := g6) (fun a w h1 h2 => y6 _ _ h1 (y5 _ _ h1 (y4 _ _ h1 (y3 _ _ h1 (y2 _ _ h1 (y1 _ _ h1 h2)))))) (y6 _ _ eto (y5 _ _ eto (y4 _ _ eto (y3 _ _ eto (y2 _ _ eto t1'))))) p6
    refine AW.sub z4 ?_
    refine AW.widen (k' := 25) (n' := 274) (by omega) (by omega) ?_
    exact a_vret hc hr hk d_E_init_131 (⟨rfl, bx, rl, κ, h, z1, z2, z3, rfl⟩)
  · skip
    refine a_aload_n (pc' := 69) hc d_E_init_68 rfl rfl rfl ?_
    refine a_get (pc' := 72) hc hK (C := R_E) (T := T_E) (N := 8) (ci := 4) (fun w h => List.mem_cons_of_mem _ (in_E w h)) F0 rfl 1 (by decide) (hc.2.2.2.2 _ (List.mem_cons_of_mem _ fl_E_36)) rfl (v := .ref dk) rfl d_E_init_69 rfl ?_
    refine AW.to (st' := [.ref dk]) rfl rfl rfl ?_
    refine a_iload (pc' := 74) hc d_E_init_72 rfl rfl ?_
    refine a_new (pc' := 77) (ci := 1) (N := 5) hc hK hA (fun w h => List.mem_cons_of_mem _ (in_D w h)) ty_D ty_D_ok (hc.2.2.2.2 _ (List.mem_cons_of_mem _ cl_E_34)) (hc.2.2.2.2 _ (List.mem_cons_of_mem _ mk_D.1)) (hc.2.2.2.2 _ (List.mem_cons_of_mem _ mk_D.2)) rfl (fs := [.null, .null, .null, .int 0, .int 0]) (by decide) (by show 4 + 4 * d62 + 1 ≤ 25; omega) (by show 14 + 51 * d62 + 5 ≤ 274; omega) d_E_init_74 rfl (fun q0 n0 _ => AW.at (fun f9 x9 a9 => ?_))
    have e0o : o ≠ q0 := fun e => by rw [e, n0] at F0; cases F0
    have e0c : qc ≠ q0 := fun e => by rw [e, n0] at FC; cases FC
    have e0d : dk ≠ q0 := fun e => by rw [e, n0] at F1; cases F1
    refine AW.to (st' := [.ref q0, .int (nI d62), .ref dk]) rfl rfl rfl ?_
    refine a_dup (pc' := 78) hc d_E_init_77 rfl rfl ?_
    refine a_aload_n (pc' := 79) hc d_E_init_78 rfl rfl rfl ?_
    refine a_get (pc' := 82) hc hK (C := R_E) (T := T_E) (N := 8) (ci := 4) (fun w h => List.mem_cons_of_mem _ (in_E w h)) (x9 _ _ e0o F0) rfl 0 (by decide) (hc.2.2.2.2 _ (List.mem_cons_of_mem _ fl_E_16)) rfl (v := .int (nI E)) rfl d_E_init_79 rfl ?_
    refine AW.to (st' := [.int (nI E), .ref q0, .ref q0, .int (nI d62), .ref dk]) rfl rfl rfl ?_
    refine a_aload (pc' := 84) hc d_E_init_82 rfl rfl ?_
    refine a_cI (pc' := 87) hc hK hO hA (As := [.int (nI E), .ref qc]) (rest := [.ref q0, .int (nI d62), .ref dk]) (ct_D_init hty (E := E) (c := qc) (q0 := q0) hE10 a9 (x9 _ _ e0c FC)) ml_E_40 rfl hd_D_init rfl rfl ⟨by decide, by decide⟩ rfl rfl (Nat.le_of_ble_eq_true rfl) d_E_init_84 rfl ⟨by show 4 + 4 * d62 + 1 + 3 ≤ 25; omega, by show 14 + 51 * d62 + 5 + 46 ≤ 274; omega⟩ (fun v84 f10 hq84 => ?_)
    obtain ⟨rfl, q1, q2, q3, ⟨m1, m2, m3⟩, ⟨e21, e31, e32⟩, x10, c0, c1, c2, c3⟩ := hq84
    have e10 : q1 ≠ q0 := fun e => by rw [e, a9] at m1; cases m1
    have e20 : q2 ≠ q0 := fun e => by rw [e, a9] at m2; cases m2
    have e30 : q3 ≠ q0 := fun e => by rw [e, a9] at m3; cases m3
    have old := x9.old n0
    have F1' := x10 _ _ e0d (x9 _ _ e0d F1)
    refine AW.to (st' := [.ref q0, .int (nI d62), .ref dk]) rfl rfl rfl ?_
    refine a_aast (pc' := 88) hc hK (N := n) (ci := 1) (r := (R_D, T_D, 5)) 2 F1' hty.2.2.1 c0 rfl (i := nI d62) (vp_in_nI h65 (by omega)) d_E_init_87 rfl (AW.at (fun f11 x11 a11 => ?_))
    rw [nI_clamp (by omega)] at a11
    have dq : ∀ q, f8 q = none → q ≠ dk := fun q hq e => by rw [e, F1] at hq; cases hq
    obtain ⟨B11, R11, rf11, bb11⟩ := rf_disk rf8 b1 (by omega) n0 (old _ m1) (old _ m2) (old _ m3) e10 e20 e30 e21 e31 e32 (f' := f11) (fun a w h1 h2 => x11 _ _ h1 (x10 _ _ (fun e => by rw [e, n0] at h2; cases h2) (x9 _ _ (fun e => by rw [e, n0] at h2; cases h2) h2))) a11 (x11 _ _ (dq _ n0) c0) (x11 _ _ (dq _ (old _ m1)) c1) (x11 _ _ (dq _ (old _ m2)) c2) (x11 _ _ (dq _ (old _ m3)) c3)
    refine AW.to (st' := []) rfl rfl rfl ?_
    refine a_ninc (pc' := 91) hc d_E_init_88 rfl rfl (by decide) ?_
    refine a_goto (tgt := 62) hc d_E_init_91 rfl ?_
    refine AW.widen (k' := 4 + 4 * (d62 + 1)) (n' := 14 + 51 * (d62 + 1)) (by omega) (by omega) ?_
    exact AW.to rfl rfl rfl (ih62 h65 (f11, B11, R11) ⟨rf11, (bb11 0 (by decide)).trans b0, (bb11 1 (by decide)).trans b1, (bb11 100 (by decide)).trans bc, (bb11 101 (by decide)).trans bl, (bb11 102 (by decide)).trans bv⟩)
