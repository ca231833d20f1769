variable {p : Program} {l : Launch} {e : Env} {s : State} {m : MethodId} {below : List Frame} {meth : Method} {c : Code} {D : va_G} {Q : State → Prop} {c0 : Cond} {tys : List (ClassId × FieldType)} {bx rl ax rm : Nat → Nat} {ca : Nat → ClassId} {n E C b L i k nn : Nat} {xs : Nat → Int32} {τ : TS} {κ : Nat → Option Nat} {tk : Nat → Int32} {h : Nat → Option va_E}

theorem op_create (hc : CallFix p m c code 4 s #[Value.ref b] (c0 :: WS) R_W) (hK : va_K D vcl tys s) (hO : AO3 s) (hX : va_X b L xs s s.heap) (hbl : b < s.heap.size) (hL : L < 2 ^ 31) (hi : i + 4 ≤ L) (hx : CX bx rl ca tys n E) (hxm : MX ax rm ca tys n E) (H : INV bx ca n E C τ κ h) (hC : C + 1 < 2 ^ 31) (hdj : Dj (cw bx rl ca n E τ κ tk h) (tw ax rm ca n E τ)) (hr : k + 5 ≤ room_1.cells ∧ nn + 25 ≤ room_1.slots)
    (K : ∀ τ' κ' tk' h', INV bx ca n E (C + 1) τ' κ' h' → Dj (cw bx rl ca n E τ' κ' tk' h') (tw ax rm ca n E τ') → AW p l e room_1 s m #[Value.ref b] below meth c D vcl (fun q => s.heap.size ≤ q) 4 Q (un (cw bx rl ca n E τ' κ' tk' h') (tw ax rm ca n E τ')) (k + 5) (nn + 25) 631 [some (.ref b), some (.ref (bx 0)), some (.ref (ax 0)), some (.int (nI (i)))] []) : AW p l e room_1 s m #[Value.ref b] below meth c D vcl (fun q => s.heap.size ≤ q) 4 Q (un (cw bx rl ca n E τ κ tk h) (tw ax rm ca n E τ)) (k) (nn) 144 [some (.ref b), some (.ref (bx 0)), some (.ref (ax 0)), some (.int (nI (i)))] [] := by
  have hbA : ¬ (fun q => s.heap.size ≤ q) b := Nat.not_le.mpr hbl
  refine a_aload_n (pc' := 145) hc d_W_law_144 rfl rfl rfl ?_
  refine w_arg (pc' := 150) hc hX hbl hbA hL i 1 (by omega) rfl rfl d_W_law_145 d_W_law_146 d_W_law_147 (by decide) d_W_law_148 d_W_law_149 rfl ?_
  refine w_arg (pc' := 155) hc hX hbl hbA hL i 2 (by omega) rfl rfl d_W_law_150 d_W_law_151 d_W_law_152 (by decide) d_W_law_153 d_W_law_154 rfl ?_
  refine w_arg (pc' := 160) hc hX hbl hbA hL i 3 (by omega) rfl rfl d_W_law_155 d_W_law_156 d_W_law_157 (by decide) d_W_law_158 d_W_law_159 rfl ?_
  refine w_callE (pc' := 163) hc hK hO (fun q h => h) hx [.int (xs (i + 1)), .int (xs (i + 2)), .int (xs (i + 3))] [] (eo_create hx H hC) (by decide) (by decide) ml_W_21 hd_E_create ⟨by decide, by decide⟩ rfl rfl (Nat.le_of_ble_eq_true rfl) d_W_law_160 rfl hr hdj (fun κ' tk' h' H1 dj1 => ?_)
  refine a_aload_n (pc' := 164) hc d_W_law_163 rfl rfl rfl ?_
  refine w_arg (pc' := 169) hc hX hbl hbA hL i 1 (by omega) rfl rfl d_W_law_164 d_W_law_165 d_W_law_166 (by decide) d_W_law_167 d_W_law_168 rfl ?_
  refine w_arg (pc' := 174) hc hX hbl hbA hL i 2 (by omega) rfl rfl d_W_law_169 d_W_law_170 d_W_law_171 (by decide) d_W_law_172 d_W_law_173 rfl ?_
  refine w_arg (pc' := 179) hc hX hbl hbA hL i 3 (by omega) rfl rfl d_W_law_174 d_W_law_175 d_W_law_176 (by decide) d_W_law_177 d_W_law_178 rfl ?_
  refine w_callM (pc' := 182) hc hK hO (fun q h => h) hxm [.int (xs (i + 1)), .int (xs (i + 2)), .int (xs (i + 3))] [.int _] (mo_create hxm H hC) ml_W_25 hd_M_create ⟨by decide, by decide⟩ rfl rfl (Nat.le_of_ble_eq_true rfl) d_W_law_179 rfl hr dj1 (fun dj2 => ?_)
  refine a_icmp_eq (pc' := 185) (tgt := 631) hc d_W_law_182 rfl rfl (fun _ => ?_) (fun hne => absurd rfl hne)
  exact K _ κ' tk' h' H1 dj2
theorem op_extend (hc : CallFix p m c code 4 s #[Value.ref b] (c0 :: WS) R_W) (hK : va_K D vcl tys s) (hO : AO3 s) (hX : va_X b L xs s s.heap) (hbl : b < s.heap.size) (hL : L < 2 ^ 31) (hi : i + 4 ≤ L) (hx : CX bx rl ca tys n E) (hxm : MX ax rm ca tys n E) (H : INV bx ca n E C τ κ h) (hC : C + 1 < 2 ^ 31) (hdj : Dj (cw bx rl ca n E τ κ tk h) (tw ax rm ca n E τ)) (hr : k + 5 ≤ room_1.cells ∧ nn + 25 ≤ room_1.slots)
    (K : ∀ τ' κ' tk' h', INV bx ca n E (C + 1) τ' κ' h' → Dj (cw bx rl ca n E τ' κ' tk' h') (tw ax rm ca n E τ') → AW p l e room_1 s m #[Value.ref b] below meth c D vcl (fun q => s.heap.size ≤ q) 4 Q (un (cw bx rl ca n E τ' κ' tk' h') (tw ax rm ca n E τ')) (k + 5) (nn + 25) 631 [some (.ref b), some (.ref (bx 0)), some (.ref (ax 0)), some (.int (nI (i)))] []) : AW p l e room_1 s m #[Value.ref b] below meth c D vcl (fun q => s.heap.size ≤ q) 4 Q (un (cw bx rl ca n E τ κ tk h) (tw ax rm ca n E τ)) (k) (nn) 187 [some (.ref b), some (.ref (bx 0)), some (.ref (ax 0)), some (.int (nI (i)))] [] := by
  have hbA : ¬ (fun q => s.heap.size ≤ q) b := Nat.not_le.mpr hbl
  refine a_aload_n (pc' := 188) hc d_W_law_187 rfl rfl rfl ?_
  refine w_arg (pc' := 193) hc hX hbl hbA hL i 1 (by omega) rfl rfl d_W_law_188 d_W_law_189 d_W_law_190 (by decide) d_W_law_191 d_W_law_192 rfl ?_
  refine w_arg (pc' := 198) hc hX hbl hbA hL i 2 (by omega) rfl rfl d_W_law_193 d_W_law_194 d_W_law_195 (by decide) d_W_law_196 d_W_law_197 rfl ?_
  refine w_callE (pc' := 201) hc hK hO (fun q h => h) hx [.int (xs (i + 1)), .int (xs (i + 2))] [] (eo_extend hx H hC) (by decide) (by decide) ml_W_26 hd_E_extend ⟨by decide, by decide⟩ rfl rfl (Nat.le_of_ble_eq_true rfl) d_W_law_198 rfl hr hdj (fun κ' tk' h' H1 dj1 => ?_)
  refine a_aload_n (pc' := 202) hc d_W_law_201 rfl rfl rfl ?_
  refine w_arg (pc' := 207) hc hX hbl hbA hL i 1 (by omega) rfl rfl d_W_law_202 d_W_law_203 d_W_law_204 (by decide) d_W_law_205 d_W_law_206 rfl ?_
  refine w_arg (pc' := 212) hc hX hbl hbA hL i 2 (by omega) rfl rfl d_W_law_207 d_W_law_208 d_W_law_209 (by decide) d_W_law_210 d_W_law_211 rfl ?_
  refine w_callM (pc' := 215) hc hK hO (fun q h => h) hxm [.int (xs (i + 1)), .int (xs (i + 2))] [.int _] (mo_extend hxm H hC) ml_W_30 hd_M_extend ⟨by decide, by decide⟩ rfl rfl (Nat.le_of_ble_eq_true rfl) d_W_law_212 rfl hr dj1 (fun dj2 => ?_)
  refine a_icmp_eq (pc' := 218) (tgt := 631) hc d_W_law_215 rfl rfl (fun _ => ?_) (fun hne => absurd rfl hne)
  exact K _ κ' tk' h' H1 dj2
theorem op_reduce (hc : CallFix p m c code 4 s #[Value.ref b] (c0 :: WS) R_W) (hK : va_K D vcl tys s) (hO : AO3 s) (hX : va_X b L xs s s.heap) (hbl : b < s.heap.size) (hL : L < 2 ^ 31) (hi : i + 4 ≤ L) (hx : CX bx rl ca tys n E) (hxm : MX ax rm ca tys n E) (H : INV bx ca n E C τ κ h) (hC : C + 1 < 2 ^ 31) (hdj : Dj (cw bx rl ca n E τ κ tk h) (tw ax rm ca n E τ)) (hr : k + 5 ≤ room_1.cells ∧ nn + 25 ≤ room_1.slots)
    (K : ∀ τ' κ' tk' h', INV bx ca n E (C + 1) τ' κ' h' → Dj (cw bx rl ca n E τ' κ' tk' h') (tw ax rm ca n E τ') → AW p l e room_1 s m #[Value.ref b] below meth c D vcl (fun q => s.heap.size ≤ q) 4 Q (un (cw bx rl ca n E τ' κ' tk' h') (tw ax rm ca n E τ')) (k + 5) (nn + 25) 631 [some (.ref b), some (.ref (bx 0)), some (.ref (ax 0)), some (.int (nI (i)))] []) : AW p l e room_1 s m #[Value.ref b] below meth c D vcl (fun q => s.heap.size ≤ q) 4 Q (un (cw bx rl ca n E τ κ tk h) (tw ax rm ca n E τ)) (k) (nn) 220 [some (.ref b), some (.ref (bx 0)), some (.ref (ax 0)), some (.int (nI (i)))] [] := by
  have hbA : ¬ (fun q => s.heap.size ≤ q) b := Nat.not_le.mpr hbl
  refine a_aload_n (pc' := 221) hc d_W_law_220 rfl rfl rfl ?_
  refine w_arg (pc' := 226) hc hX hbl hbA hL i 1 (by omega) rfl rfl d_W_law_221 d_W_law_222 d_W_law_223 (by decide) d_W_law_224 d_W_law_225 rfl ?_
  refine w_arg (pc' := 231) hc hX hbl hbA hL i 2 (by omega) rfl rfl d_W_law_226 d_W_law_227 d_W_law_228 (by decide) d_W_law_229 d_W_law_230 rfl ?_
  refine w_callE (pc' := 234) hc hK hO (fun q h => h) hx [.int (xs (i + 1)), .int (xs (i + 2))] [] (eo_reduce hx H hC) (by decide) (by decide) ml_W_31 hd_E_reduce ⟨by decide, by decide⟩ rfl rfl (Nat.le_of_ble_eq_true rfl) d_W_law_231 rfl hr hdj (fun κ' tk' h' H1 dj1 => ?_)
  refine a_aload_n (pc' := 235) hc d_W_law_234 rfl rfl rfl ?_
  refine w_arg (pc' := 240) hc hX hbl hbA hL i 1 (by omega) rfl rfl d_W_law_235 d_W_law_236 d_W_law_237 (by decide) d_W_law_238 d_W_law_239 rfl ?_
  refine w_arg (pc' := 245) hc hX hbl hbA hL i 2 (by omega) rfl rfl d_W_law_240 d_W_law_241 d_W_law_242 (by decide) d_W_law_243 d_W_law_244 rfl ?_
  refine w_callM (pc' := 248) hc hK hO (fun q h => h) hxm [.int (xs (i + 1)), .int (xs (i + 2))] [.int _] (mo_reduce hxm H hC) ml_W_34 hd_M_reduce ⟨by decide, by decide⟩ rfl rfl (Nat.le_of_ble_eq_true rfl) d_W_law_245 rfl hr dj1 (fun dj2 => ?_)
  refine a_icmp_eq (pc' := 251) (tgt := 631) hc d_W_law_248 rfl rfl (fun _ => ?_) (fun hne => absurd rfl hne)
  exact K _ κ' tk' h' H1 dj2
theorem op_move (hc : CallFix p m c code 4 s #[Value.ref b] (c0 :: WS) R_W) (hK : va_K D vcl tys s) (hO : AO3 s) (hX : va_X b L xs s s.heap) (hbl : b < s.heap.size) (hL : L < 2 ^ 31) (hi : i + 4 ≤ L) (hx : CX bx rl ca tys n E) (hxm : MX ax rm ca tys n E) (H : INV bx ca n E C τ κ h) (hC : C + 1 < 2 ^ 31) (hdj : Dj (cw bx rl ca n E τ κ tk h) (tw ax rm ca n E τ)) (hr : k + 5 ≤ room_1.cells ∧ nn + 25 ≤ room_1.slots)
    (K : ∀ τ' κ' tk' h', INV bx ca n E (C + 1) τ' κ' h' → Dj (cw bx rl ca n E τ' κ' tk' h') (tw ax rm ca n E τ') → AW p l e room_1 s m #[Value.ref b] below meth c D vcl (fun q => s.heap.size ≤ q) 4 Q (un (cw bx rl ca n E τ' κ' tk' h') (tw ax rm ca n E τ')) (k + 5) (nn + 25) 631 [some (.ref b), some (.ref (bx 0)), some (.ref (ax 0)), some (.int (nI (i)))] []) : AW p l e room_1 s m #[Value.ref b] below meth c D vcl (fun q => s.heap.size ≤ q) 4 Q (un (cw bx rl ca n E τ κ tk h) (tw ax rm ca n E τ)) (k) (nn) 253 [some (.ref b), some (.ref (bx 0)), some (.ref (ax 0)), some (.int (nI (i)))] [] := by
  have hbA : ¬ (fun q => s.heap.size ≤ q) b := Nat.not_le.mpr hbl
  refine a_aload_n (pc' := 254) hc d_W_law_253 rfl rfl rfl ?_
  refine w_arg (pc' := 259) hc hX hbl hbA hL i 1 (by omega) rfl rfl d_W_law_254 d_W_law_255 d_W_law_256 (by decide) d_W_law_257 d_W_law_258 rfl ?_
  refine w_arg (pc' := 264) hc hX hbl hbA hL i 2 (by omega) rfl rfl d_W_law_259 d_W_law_260 d_W_law_261 (by decide) d_W_law_262 d_W_law_263 rfl ?_
  refine w_arg (pc' := 269) hc hX hbl hbA hL i 3 (by omega) rfl rfl d_W_law_264 d_W_law_265 d_W_law_266 (by decide) d_W_law_267 d_W_law_268 rfl ?_
  refine w_callE (pc' := 272) hc hK hO (fun q h => h) hx [.int (xs (i + 1)), .int (xs (i + 2)), .int (xs (i + 3))] [] (eo_move hx H hC) (by decide) (by decide) ml_W_35 hd_E_move ⟨by decide, by decide⟩ rfl rfl (Nat.le_of_ble_eq_true rfl) d_W_law_269 rfl hr hdj (fun κ' tk' h' H1 dj1 => ?_)
  refine a_aload_n (pc' := 273) hc d_W_law_272 rfl rfl rfl ?_
  refine w_arg (pc' := 278) hc hX hbl hbA hL i 1 (by omega) rfl rfl d_W_law_273 d_W_law_274 d_W_law_275 (by decide) d_W_law_276 d_W_law_277 rfl ?_
  refine w_arg (pc' := 283) hc hX hbl hbA hL i 2 (by omega) rfl rfl d_W_law_278 d_W_law_279 d_W_law_280 (by decide) d_W_law_281 d_W_law_282 rfl ?_
  refine w_arg (pc' := 288) hc hX hbl hbA hL i 3 (by omega) rfl rfl d_W_law_283 d_W_law_284 d_W_law_285 (by decide) d_W_law_286 d_W_law_287 rfl ?_
  refine w_callM (pc' := 291) hc hK hO (fun q h => h) hxm [.int (xs (i + 1)), .int (xs (i + 2)), .int (xs (i + 3))] [.int _] (mo_move hxm H hC) ml_W_38 hd_M_move ⟨by decide, by decide⟩ rfl rfl (Nat.le_of_ble_eq_true rfl) d_W_law_288 rfl hr dj1 (fun dj2 => ?_)
  refine a_icmp_eq (pc' := 294) (tgt := 631) hc d_W_law_291 rfl rfl (fun _ => ?_) (fun hne => absurd rfl hne)
  exact K _ κ' tk' h' H1 dj2
theorem op_step (hc : CallFix p m c code 4 s #[Value.ref b] (c0 :: WS) R_W) (hK : va_K D vcl tys s) (hO : AO3 s) (hX : va_X b L xs s s.heap) (hbl : b < s.heap.size) (hL : L < 2 ^ 31) (hi : i + 4 ≤ L) (hx : CX bx rl ca tys n E) (hxm : MX ax rm ca tys n E) (H : INV bx ca n E C τ κ h) (hC : C + 1 < 2 ^ 31) (hdj : Dj (cw bx rl ca n E τ κ tk h) (tw ax rm ca n E τ)) (hr : k + 5 ≤ room_1.cells ∧ nn + 25 ≤ room_1.slots)
    (K : ∀ τ' κ' tk' h', INV bx ca n E (C + 1) τ' κ' h' → Dj (cw bx rl ca n E τ' κ' tk' h') (tw ax rm ca n E τ') → AW p l e room_1 s m #[Value.ref b] below meth c D vcl (fun q => s.heap.size ≤ q) 4 Q (un (cw bx rl ca n E τ' κ' tk' h') (tw ax rm ca n E τ')) (k + 5) (nn + 25) 631 [some (.ref b), some (.ref (bx 0)), some (.ref (ax 0)), some (.int (nI (i)))] []) : AW p l e room_1 s m #[Value.ref b] below meth c D vcl (fun q => s.heap.size ≤ q) 4 Q (un (cw bx rl ca n E τ κ tk h) (tw ax rm ca n E τ)) (k) (nn) 296 [some (.ref b), some (.ref (bx 0)), some (.ref (ax 0)), some (.int (nI (i)))] [] := by
  have hbA : ¬ (fun q => s.heap.size ≤ q) b := Nat.not_le.mpr hbl
  refine a_aload_n (pc' := 297) hc d_W_law_296 rfl rfl rfl ?_
  refine w_callE (pc' := 300) hc hK hO (fun q h => h) hx [] [] (eo_step hx H hC) (by decide) (by decide) ml_W_39 hd_E_step ⟨by decide, by decide⟩ rfl rfl (Nat.le_of_ble_eq_true rfl) d_W_law_297 rfl hr hdj (fun κ' tk' h' H1 dj1 => ?_)
  refine a_aload_n (pc' := 301) hc d_W_law_300 rfl rfl rfl ?_
  refine w_callM (pc' := 304) hc hK hO (fun q h => h) hxm [] [.int _] (mo_step hxm H hC) ml_W_43 hd_M_step ⟨by decide, by decide⟩ rfl rfl (Nat.le_of_ble_eq_true rfl) d_W_law_301 rfl hr dj1 (fun dj2 => ?_)
  refine a_icmp_eq (pc' := 307) (tgt := 631) hc d_W_law_304 rfl rfl (fun _ => ?_) (fun hne => absurd rfl hne)
  exact K _ κ' tk' h' H1 dj2
theorem op_cancel (hc : CallFix p m c code 4 s #[Value.ref b] (c0 :: WS) R_W) (hK : va_K D vcl tys s) (hO : AO3 s) (hX : va_X b L xs s s.heap) (hbl : b < s.heap.size) (hL : L < 2 ^ 31) (hi : i + 4 ≤ L) (hx : CX bx rl ca tys n E) (hxm : MX ax rm ca tys n E) (H : INV bx ca n E C τ κ h) (hC : C + 1 < 2 ^ 31) (hdj : Dj (cw bx rl ca n E τ κ tk h) (tw ax rm ca n E τ)) (hr : k + 5 ≤ room_1.cells ∧ nn + 25 ≤ room_1.slots)
    (K : ∀ τ' κ' tk' h', INV bx ca n E (C + 1) τ' κ' h' → Dj (cw bx rl ca n E τ' κ' tk' h') (tw ax rm ca n E τ') → AW p l e room_1 s m #[Value.ref b] below meth c D vcl (fun q => s.heap.size ≤ q) 4 Q (un (cw bx rl ca n E τ' κ' tk' h') (tw ax rm ca n E τ')) (k + 5) (nn + 25) 631 [some (.ref b), some (.ref (bx 0)), some (.ref (ax 0)), some (.int (nI (i)))] []) : AW p l e room_1 s m #[Value.ref b] below meth c D vcl (fun q => s.heap.size ≤ q) 4 Q (un (cw bx rl ca n E τ κ tk h) (tw ax rm ca n E τ)) (k) (nn) 309 [some (.ref b), some (.ref (bx 0)), some (.ref (ax 0)), some (.int (nI (i)))] [] := by
  have hbA : ¬ (fun q => s.heap.size ≤ q) b := Nat.not_le.mpr hbl
  refine a_aload_n (pc' := 310) hc d_W_law_309 rfl rfl rfl ?_
  refine w_callE (pc' := 313) hc hK hO (fun q h => h) hx [] [] (eo_cancel hx H hC) (by decide) (by decide) ml_W_44 hd_E_cancel ⟨by decide, by decide⟩ rfl rfl (Nat.le_of_ble_eq_true rfl) d_W_law_310 rfl hr hdj (fun κ' tk' h' H1 dj1 => ?_)
  refine a_aload_n (pc' := 314) hc d_W_law_313 rfl rfl rfl ?_
  refine w_callM (pc' := 317) hc hK hO (fun q h => h) hxm [] [.int _] (mo_cancel hxm H hC) ml_W_47 hd_M_cancel ⟨by decide, by decide⟩ rfl rfl (Nat.le_of_ble_eq_true rfl) d_W_law_314 rfl hr dj1 (fun dj2 => ?_)
  refine a_icmp_eq (pc' := 320) (tgt := 631) hc d_W_law_317 rfl rfl (fun _ => ?_) (fun hne => absurd rfl hne)
  exact K _ κ' tk' h' H1 dj2
theorem op_read (hc : CallFix p m c code 4 s #[Value.ref b] (c0 :: WS) R_W) (hK : va_K D vcl tys s) (hO : AO3 s) (hX : va_X b L xs s s.heap) (hbl : b < s.heap.size) (hL : L < 2 ^ 31) (hi : i + 4 ≤ L) (hx : CX bx rl ca tys n E) (hxm : MX ax rm ca tys n E) (H : INV bx ca n E C τ κ h) (hC : C + 1 < 2 ^ 31) (hdj : Dj (cw bx rl ca n E τ κ tk h) (tw ax rm ca n E τ)) (hr : k + 5 ≤ room_1.cells ∧ nn + 25 ≤ room_1.slots)
    (K : ∀ τ' κ' tk' h', INV bx ca n E (C + 1) τ' κ' h' → Dj (cw bx rl ca n E τ' κ' tk' h') (tw ax rm ca n E τ') → AW p l e room_1 s m #[Value.ref b] below meth c D vcl (fun q => s.heap.size ≤ q) 4 Q (un (cw bx rl ca n E τ' κ' tk' h') (tw ax rm ca n E τ')) (k + 5) (nn + 25) 631 [some (.ref b), some (.ref (bx 0)), some (.ref (ax 0)), some (.int (nI (i)))] []) : AW p l e room_1 s m #[Value.ref b] below meth c D vcl (fun q => s.heap.size ≤ q) 4 Q (un (cw bx rl ca n E τ κ tk h) (tw ax rm ca n E τ)) (k) (nn) 322 [some (.ref b), some (.ref (bx 0)), some (.ref (ax 0)), some (.int (nI (i)))] [] := by
  have hbA : ¬ (fun q => s.heap.size ≤ q) b := Nat.not_le.mpr hbl
  refine a_aload_n (pc' := 323) hc d_W_law_322 rfl rfl rfl ?_
  refine w_arg (pc' := 328) hc hX hbl hbA hL i 1 (by omega) rfl rfl d_W_law_323 d_W_law_324 d_W_law_325 (by decide) d_W_law_326 d_W_law_327 rfl ?_
  refine w_arg (pc' := 333) hc hX hbl hbA hL i 2 (by omega) rfl rfl d_W_law_328 d_W_law_329 d_W_law_330 (by decide) d_W_law_331 d_W_law_332 rfl ?_
  refine w_callE (pc' := 336) hc hK hO (fun q h => h) hx [.int (xs (i + 1)), .int (xs (i + 2))] [] (eo_read hx H hC) (by decide) (by decide) ml_W_48 hd_E_read ⟨by decide, by decide⟩ rfl rfl (Nat.le_of_ble_eq_true rfl) d_W_law_333 rfl hr hdj (fun κ' tk' h' H1 dj1 => ?_)
  refine a_aload_n (pc' := 337) hc d_W_law_336 rfl rfl rfl ?_
  refine w_arg (pc' := 342) hc hX hbl hbA hL i 1 (by omega) rfl rfl d_W_law_337 d_W_law_338 d_W_law_339 (by decide) d_W_law_340 d_W_law_341 rfl ?_
  refine w_arg (pc' := 347) hc hX hbl hbA hL i 2 (by omega) rfl rfl d_W_law_342 d_W_law_343 d_W_law_344 (by decide) d_W_law_345 d_W_law_346 rfl ?_
  refine w_callM (pc' := 350) hc hK hO (fun q h => h) hxm [.int (xs (i + 1)), .int (xs (i + 2))] [.int _] (mo_read hxm H hC) ml_W_51 hd_M_read ⟨by decide, by decide⟩ rfl rfl (Nat.le_of_ble_eq_true rfl) d_W_law_347 rfl hr dj1 (fun dj2 => ?_)
  refine a_icmp_eq (pc' := 353) (tgt := 631) hc d_W_law_350 rfl rfl (fun _ => ?_) (fun hne => absurd rfl hne)
  exact K _ κ' tk' h' H1 dj2
theorem op_write (hc : CallFix p m c code 4 s #[Value.ref b] (c0 :: WS) R_W) (hK : va_K D vcl tys s) (hO : AO3 s) (hX : va_X b L xs s s.heap) (hbl : b < s.heap.size) (hL : L < 2 ^ 31) (hi : i + 4 ≤ L) (hx : CX bx rl ca tys n E) (hxm : MX ax rm ca tys n E) (H : INV bx ca n E C τ κ h) (hC : C + 1 < 2 ^ 31) (hdj : Dj (cw bx rl ca n E τ κ tk h) (tw ax rm ca n E τ)) (hr : k + 5 ≤ room_1.cells ∧ nn + 25 ≤ room_1.slots)
    (K : ∀ τ' κ' tk' h', INV bx ca n E (C + 1) τ' κ' h' → Dj (cw bx rl ca n E τ' κ' tk' h') (tw ax rm ca n E τ') → AW p l e room_1 s m #[Value.ref b] below meth c D vcl (fun q => s.heap.size ≤ q) 4 Q (un (cw bx rl ca n E τ' κ' tk' h') (tw ax rm ca n E τ')) (k + 5) (nn + 25) 631 [some (.ref b), some (.ref (bx 0)), some (.ref (ax 0)), some (.int (nI (i)))] []) : AW p l e room_1 s m #[Value.ref b] below meth c D vcl (fun q => s.heap.size ≤ q) 4 Q (un (cw bx rl ca n E τ κ tk h) (tw ax rm ca n E τ)) (k) (nn) 355 [some (.ref b), some (.ref (bx 0)), some (.ref (ax 0)), some (.int (nI (i)))] [] := by
  have hbA : ¬ (fun q => s.heap.size ≤ q) b := Nat.not_le.mpr hbl
  refine a_aload_n (pc' := 356) hc d_W_law_355 rfl rfl rfl ?_
  refine w_arg (pc' := 361) hc hX hbl hbA hL i 1 (by omega) rfl rfl d_W_law_356 d_W_law_357 d_W_law_358 (by decide) d_W_law_359 d_W_law_360 rfl ?_
  refine w_arg (pc' := 366) hc hX hbl hbA hL i 2 (by omega) rfl rfl d_W_law_361 d_W_law_362 d_W_law_363 (by decide) d_W_law_364 d_W_law_365 rfl ?_
  refine w_arg (pc' := 371) hc hX hbl hbA hL i 3 (by omega) rfl rfl d_W_law_366 d_W_law_367 d_W_law_368 (by decide) d_W_law_369 d_W_law_370 rfl ?_
  refine w_callE (pc' := 374) hc hK hO (fun q h => h) hx [.int (xs (i + 1)), .int (xs (i + 2)), .int (xs (i + 3))] [] (eo_write hx H hC) (by decide) (by decide) ml_W_52 hd_E_write ⟨by decide, by decide⟩ rfl rfl (Nat.le_of_ble_eq_true rfl) d_W_law_371 rfl hr hdj (fun κ' tk' h' H1 dj1 => ?_)
  refine a_aload_n (pc' := 375) hc d_W_law_374 rfl rfl rfl ?_
  refine w_arg (pc' := 380) hc hX hbl hbA hL i 1 (by omega) rfl rfl d_W_law_375 d_W_law_376 d_W_law_377 (by decide) d_W_law_378 d_W_law_379 rfl ?_
  refine w_arg (pc' := 385) hc hX hbl hbA hL i 2 (by omega) rfl rfl d_W_law_380 d_W_law_381 d_W_law_382 (by decide) d_W_law_383 d_W_law_384 rfl ?_
  refine w_arg (pc' := 390) hc hX hbl hbA hL i 3 (by omega) rfl rfl d_W_law_385 d_W_law_386 d_W_law_387 (by decide) d_W_law_388 d_W_law_389 rfl ?_
  refine w_callM (pc' := 393) hc hK hO (fun q h => h) hxm [.int (xs (i + 1)), .int (xs (i + 2)), .int (xs (i + 3))] [.int _] (mo_write hxm H hC) ml_W_55 hd_M_write ⟨by decide, by decide⟩ rfl rfl (Nat.le_of_ble_eq_true rfl) d_W_law_390 rfl hr dj1 (fun dj2 => ?_)
  refine a_icmp_eq (pc' := 396) (tgt := 631) hc d_W_law_393 rfl rfl (fun _ => ?_) (fun hne => absurd rfl hne)
  exact K _ κ' tk' h' H1 dj2
theorem op_pull (hc : CallFix p m c code 4 s #[Value.ref b] (c0 :: WS) R_W) (hK : va_K D vcl tys s) (hO : AO3 s) (hX : va_X b L xs s s.heap) (hbl : b < s.heap.size) (hL : L < 2 ^ 31) (hi : i + 4 ≤ L) (hx : CX bx rl ca tys n E) (hxm : MX ax rm ca tys n E) (H : INV bx ca n E C τ κ h) (hC : C + 1 < 2 ^ 31) (hdj : Dj (cw bx rl ca n E τ κ tk h) (tw ax rm ca n E τ)) (hr : k + 5 ≤ room_1.cells ∧ nn + 25 ≤ room_1.slots)
    (K : ∀ τ' κ' tk' h', INV bx ca n E (C + 1) τ' κ' h' → Dj (cw bx rl ca n E τ' κ' tk' h') (tw ax rm ca n E τ') → AW p l e room_1 s m #[Value.ref b] below meth c D vcl (fun q => s.heap.size ≤ q) 4 Q (un (cw bx rl ca n E τ' κ' tk' h') (tw ax rm ca n E τ')) (k + 5) (nn + 25) 631 [some (.ref b), some (.ref (bx 0)), some (.ref (ax 0)), some (.int (nI (i)))] []) : AW p l e room_1 s m #[Value.ref b] below meth c D vcl (fun q => s.heap.size ≤ q) 4 Q (un (cw bx rl ca n E τ κ tk h) (tw ax rm ca n E τ)) (k) (nn) 398 [some (.ref b), some (.ref (bx 0)), some (.ref (ax 0)), some (.int (nI (i)))] [] := by
  have hbA : ¬ (fun q => s.heap.size ≤ q) b := Nat.not_le.mpr hbl
  refine a_aload_n (pc' := 399) hc d_W_law_398 rfl rfl rfl ?_
  refine w_arg (pc' := 404) hc hX hbl hbA hL i 1 (by omega) rfl rfl d_W_law_399 d_W_law_400 d_W_law_401 (by decide) d_W_law_402 d_W_law_403 rfl ?_
  refine w_callE (pc' := 407) hc hK hO (fun q h => h) hx [.int (xs (i + 1))] [] (eo_pull hx H hC) (by decide) (by decide) ml_W_56 hd_E_pull ⟨by decide, by decide⟩ rfl rfl (Nat.le_of_ble_eq_true rfl) d_W_law_404 rfl hr hdj (fun κ' tk' h' H1 dj1 => ?_)
  refine a_aload_n (pc' := 408) hc d_W_law_407 rfl rfl rfl ?_
  refine w_arg (pc' := 413) hc hX hbl hbA hL i 1 (by omega) rfl rfl d_W_law_408 d_W_law_409 d_W_law_410 (by decide) d_W_law_411 d_W_law_412 rfl ?_
  refine w_callM (pc' := 416) hc hK hO (fun q h => h) hxm [.int (xs (i + 1))] [.int _] (mo_pull hxm H hC) ml_W_60 hd_M_pull ⟨by decide, by decide⟩ rfl rfl (Nat.le_of_ble_eq_true rfl) d_W_law_413 rfl hr dj1 (fun dj2 => ?_)
  refine a_icmp_eq (pc' := 419) (tgt := 631) hc d_W_law_416 rfl rfl (fun _ => ?_) (fun hne => absurd rfl hne)
  exact K _ κ' tk' h' H1 dj2
theorem op_plug (hc : CallFix p m c code 4 s #[Value.ref b] (c0 :: WS) R_W) (hK : va_K D vcl tys s) (hO : AO3 s) (hX : va_X b L xs s s.heap) (hbl : b < s.heap.size) (hL : L < 2 ^ 31) (hi : i + 4 ≤ L) (hx : CX bx rl ca tys n E) (hxm : MX ax rm ca tys n E) (H : INV bx ca n E C τ κ h) (hC : C + 1 < 2 ^ 31) (hdj : Dj (cw bx rl ca n E τ κ tk h) (tw ax rm ca n E τ)) (hr : k + 5 ≤ room_1.cells ∧ nn + 25 ≤ room_1.slots)
    (K : ∀ τ' κ' tk' h', INV bx ca n E (C + 1) τ' κ' h' → Dj (cw bx rl ca n E τ' κ' tk' h') (tw ax rm ca n E τ') → AW p l e room_1 s m #[Value.ref b] below meth c D vcl (fun q => s.heap.size ≤ q) 4 Q (un (cw bx rl ca n E τ' κ' tk' h') (tw ax rm ca n E τ')) (k + 5) (nn + 25) 631 [some (.ref b), some (.ref (bx 0)), some (.ref (ax 0)), some (.int (nI (i)))] []) : AW p l e room_1 s m #[Value.ref b] below meth c D vcl (fun q => s.heap.size ≤ q) 4 Q (un (cw bx rl ca n E τ κ tk h) (tw ax rm ca n E τ)) (k) (nn) 421 [some (.ref b), some (.ref (bx 0)), some (.ref (ax 0)), some (.int (nI (i)))] [] := by
  have hbA : ¬ (fun q => s.heap.size ≤ q) b := Nat.not_le.mpr hbl
  refine a_aload_n (pc' := 422) hc d_W_law_421 rfl rfl rfl ?_
  refine w_arg (pc' := 427) hc hX hbl hbA hL i 1 (by omega) rfl rfl d_W_law_422 d_W_law_423 d_W_law_424 (by decide) d_W_law_425 d_W_law_426 rfl ?_
  refine w_callE (pc' := 430) hc hK hO (fun q h => h) hx [.int (xs (i + 1))] [] (eo_plug hx H hC) (by decide) (by decide) ml_W_61 hd_E_plug ⟨by decide, by decide⟩ rfl rfl (Nat.le_of_ble_eq_true rfl) d_W_law_427 rfl hr hdj (fun κ' tk' h' H1 dj1 => ?_)
  refine a_aload_n (pc' := 431) hc d_W_law_430 rfl rfl rfl ?_
  refine w_arg (pc' := 436) hc hX hbl hbA hL i 1 (by omega) rfl rfl d_W_law_431 d_W_law_432 d_W_law_433 (by decide) d_W_law_434 d_W_law_435 rfl ?_
  refine w_callM (pc' := 439) hc hK hO (fun q h => h) hxm [.int (xs (i + 1))] [.int _] (mo_plug hxm H hC) ml_W_64 hd_M_plug ⟨by decide, by decide⟩ rfl rfl (Nat.le_of_ble_eq_true rfl) d_W_law_436 rfl hr dj1 (fun dj2 => ?_)
  refine a_icmp_eq (pc' := 442) (tgt := 631) hc d_W_law_439 rfl rfl (fun _ => ?_) (fun hne => absurd rfl hne)
  exact K _ κ' tk' h' H1 dj2
theorem op_arm (hc : CallFix p m c code 4 s #[Value.ref b] (c0 :: WS) R_W) (hK : va_K D vcl tys s) (hO : AO3 s) (hX : va_X b L xs s s.heap) (hbl : b < s.heap.size) (hL : L < 2 ^ 31) (hi : i + 4 ≤ L) (hx : CX bx rl ca tys n E) (hxm : MX ax rm ca tys n E) (H : INV bx ca n E C τ κ h) (hC : C + 1 < 2 ^ 31) (hdj : Dj (cw bx rl ca n E τ κ tk h) (tw ax rm ca n E τ)) (hr : k + 5 ≤ room_1.cells ∧ nn + 25 ≤ room_1.slots)
    (K : ∀ τ' κ' tk' h', INV bx ca n E (C + 1) τ' κ' h' → Dj (cw bx rl ca n E τ' κ' tk' h') (tw ax rm ca n E τ') → AW p l e room_1 s m #[Value.ref b] below meth c D vcl (fun q => s.heap.size ≤ q) 4 Q (un (cw bx rl ca n E τ' κ' tk' h') (tw ax rm ca n E τ')) (k + 5) (nn + 25) 631 [some (.ref b), some (.ref (bx 0)), some (.ref (ax 0)), some (.int (nI (i)))] []) : AW p l e room_1 s m #[Value.ref b] below meth c D vcl (fun q => s.heap.size ≤ q) 4 Q (un (cw bx rl ca n E τ κ tk h) (tw ax rm ca n E τ)) (k) (nn) 444 [some (.ref b), some (.ref (bx 0)), some (.ref (ax 0)), some (.int (nI (i)))] [] := by
  have hbA : ¬ (fun q => s.heap.size ≤ q) b := Nat.not_le.mpr hbl
  refine a_aload_n (pc' := 445) hc d_W_law_444 rfl rfl rfl ?_
  refine w_arg (pc' := 450) hc hX hbl hbA hL i 1 (by omega) rfl rfl d_W_law_445 d_W_law_446 d_W_law_447 (by decide) d_W_law_448 d_W_law_449 rfl ?_
  refine w_callE (pc' := 453) hc hK hO (fun q h => h) hx [.int (xs (i + 1))] [] (eo_arm hx H hC) (by decide) (by decide) ml_W_65 hd_E_arm ⟨by decide, by decide⟩ rfl rfl (Nat.le_of_ble_eq_true rfl) d_W_law_450 rfl hr hdj (fun κ' tk' h' H1 dj1 => ?_)
  refine a_aload_n (pc' := 454) hc d_W_law_453 rfl rfl rfl ?_
  refine w_arg (pc' := 459) hc hX hbl hbA hL i 1 (by omega) rfl rfl d_W_law_454 d_W_law_455 d_W_law_456 (by decide) d_W_law_457 d_W_law_458 rfl ?_
  refine w_callM (pc' := 462) hc hK hO (fun q h => h) hxm [.int (xs (i + 1))] [.int _] (mo_arm hxm H hC) ml_W_68 hd_M_arm ⟨by decide, by decide⟩ rfl rfl (Nat.le_of_ble_eq_true rfl) d_W_law_459 rfl hr dj1 (fun dj2 => ?_)
  refine a_icmp_eq (pc' := 465) (tgt := 631) hc d_W_law_462 rfl rfl (fun _ => ?_) (fun hne => absurd rfl hne)
  exact K _ κ' tk' h' H1 dj2
theorem op_crash (hc : CallFix p m c code 4 s #[Value.ref b] (c0 :: WS) R_W) (hK : va_K D vcl tys s) (hO : AO3 s) (hX : va_X b L xs s s.heap) (hbl : b < s.heap.size) (hL : L < 2 ^ 31) (hi : i + 4 ≤ L) (hx : CX bx rl ca tys n E) (hxm : MX ax rm ca tys n E) (H : INV bx ca n E C τ κ h) (hC : C + 1 < 2 ^ 31) (hdj : Dj (cw bx rl ca n E τ κ tk h) (tw ax rm ca n E τ)) (hr : k + 5 ≤ room_1.cells ∧ nn + 25 ≤ room_1.slots)
    (K : ∀ τ' κ' tk' h', INV bx ca n E (C + 1) τ' κ' h' → Dj (cw bx rl ca n E τ' κ' tk' h') (tw ax rm ca n E τ') → AW p l e room_1 s m #[Value.ref b] below meth c D vcl (fun q => s.heap.size ≤ q) 4 Q (un (cw bx rl ca n E τ' κ' tk' h') (tw ax rm ca n E τ')) (k + 5) (nn + 25) 631 [some (.ref b), some (.ref (bx 0)), some (.ref (ax 0)), some (.int (nI (i)))] []) : AW p l e room_1 s m #[Value.ref b] below meth c D vcl (fun q => s.heap.size ≤ q) 4 Q (un (cw bx rl ca n E τ κ tk h) (tw ax rm ca n E τ)) (k) (nn) 467 [some (.ref b), some (.ref (bx 0)), some (.ref (ax 0)), some (.int (nI (i)))] [] := by
  have hbA : ¬ (fun q => s.heap.size ≤ q) b := Nat.not_le.mpr hbl
  refine a_aload_n (pc' := 468) hc d_W_law_467 rfl rfl rfl ?_
  refine w_callE (pc' := 471) hc hK hO (fun q h => h) hx [] [] (eo_crash hx H hC) (by decide) (by decide) ml_W_69 hd_E_crash ⟨by decide, by decide⟩ rfl rfl (Nat.le_of_ble_eq_true rfl) d_W_law_468 rfl hr hdj (fun κ' tk' h' H1 dj1 => ?_)
  refine a_aload_n (pc' := 472) hc d_W_law_471 rfl rfl rfl ?_
  refine w_callM (pc' := 475) hc hK hO (fun q h => h) hxm [] [.int _] (mo_crash hxm H hC) ml_W_73 hd_M_crash ⟨by decide, by decide⟩ rfl rfl (Nat.le_of_ble_eq_true rfl) d_W_law_472 rfl hr dj1 (fun dj2 => ?_)
  refine a_icmp_eq (pc' := 478) (tgt := 631) hc d_W_law_475 rfl rfl (fun _ => ?_) (fun hne => absurd rfl hne)
  exact K _ κ' tk' h' H1 dj2
theorem op_activate (hc : CallFix p m c code 4 s #[Value.ref b] (c0 :: WS) R_W) (hK : va_K D vcl tys s) (hO : AO3 s) (hX : va_X b L xs s s.heap) (hbl : b < s.heap.size) (hL : L < 2 ^ 31) (hi : i + 4 ≤ L) (hx : CX bx rl ca tys n E) (hxm : MX ax rm ca tys n E) (H : INV bx ca n E C τ κ h) (hC : C + 1 < 2 ^ 31) (hdj : Dj (cw bx rl ca n E τ κ tk h) (tw ax rm ca n E τ)) (hr : k + 5 ≤ room_1.cells ∧ nn + 25 ≤ room_1.slots)
    (K : ∀ τ' κ' tk' h', INV bx ca n E (C + 1) τ' κ' h' → Dj (cw bx rl ca n E τ' κ' tk' h') (tw ax rm ca n E τ') → AW p l e room_1 s m #[Value.ref b] below meth c D vcl (fun q => s.heap.size ≤ q) 4 Q (un (cw bx rl ca n E τ' κ' tk' h') (tw ax rm ca n E τ')) (k + 5) (nn + 25) 631 [some (.ref b), some (.ref (bx 0)), some (.ref (ax 0)), some (.int (nI (i)))] []) : AW p l e room_1 s m #[Value.ref b] below meth c D vcl (fun q => s.heap.size ≤ q) 4 Q (un (cw bx rl ca n E τ κ tk h) (tw ax rm ca n E τ)) (k) (nn) 480 [some (.ref b), some (.ref (bx 0)), some (.ref (ax 0)), some (.int (nI (i)))] [] := by
  have hbA : ¬ (fun q => s.heap.size ≤ q) b := Nat.not_le.mpr hbl
  refine a_aload_n (pc' := 481) hc d_W_law_480 rfl rfl rfl ?_
  refine w_callE (pc' := 484) hc hK hO (fun q h => h) hx [] [] (eo_activate hx H hC) (by decide) (by decide) ml_W_74 hd_E_activate ⟨by decide, by decide⟩ rfl rfl (Nat.le_of_ble_eq_true rfl) d_W_law_481 rfl hr hdj (fun κ' tk' h' H1 dj1 => ?_)
  refine a_aload_n (pc' := 485) hc d_W_law_484 rfl rfl rfl ?_
  refine w_callM (pc' := 488) hc hK hO (fun q h => h) hxm [] [.int _] (mo_activate hxm H hC) ml_W_77 hd_M_activate ⟨by decide, by decide⟩ rfl rfl (Nat.le_of_ble_eq_true rfl) d_W_law_485 rfl hr dj1 (fun dj2 => ?_)
  refine a_icmp_eq (pc' := 491) (tgt := 631) hc d_W_law_488 rfl rfl (fun _ => ?_) (fun hne => absurd rfl hne)
  exact K _ κ' tk' h' H1 dj2
theorem op_where (hc : CallFix p m c code 4 s #[Value.ref b] (c0 :: WS) R_W) (hK : va_K D vcl tys s) (hO : AO3 s) (hX : va_X b L xs s s.heap) (hbl : b < s.heap.size) (hL : L < 2 ^ 31) (hi : i + 4 ≤ L) (hx : CX bx rl ca tys n E) (hxm : MX ax rm ca tys n E) (H : INV bx ca n E C τ κ h) (hC : C + 1 < 2 ^ 31) (hdj : Dj (cw bx rl ca n E τ κ tk h) (tw ax rm ca n E τ)) (hr : k + 5 ≤ room_1.cells ∧ nn + 25 ≤ room_1.slots)
    (K : ∀ τ' κ' tk' h', INV bx ca n E (C + 1) τ' κ' h' → Dj (cw bx rl ca n E τ' κ' tk' h') (tw ax rm ca n E τ') → AW p l e room_1 s m #[Value.ref b] below meth c D vcl (fun q => s.heap.size ≤ q) 4 Q (un (cw bx rl ca n E τ' κ' tk' h') (tw ax rm ca n E τ')) (k + 5) (nn + 25) 631 [some (.ref b), some (.ref (bx 0)), some (.ref (ax 0)), some (.int (nI (i)))] []) : AW p l e room_1 s m #[Value.ref b] below meth c D vcl (fun q => s.heap.size ≤ q) 4 Q (un (cw bx rl ca n E τ κ tk h) (tw ax rm ca n E τ)) (k) (nn) 493 [some (.ref b), some (.ref (bx 0)), some (.ref (ax 0)), some (.int (nI (i)))] [] := by
  have hbA : ¬ (fun q => s.heap.size ≤ q) b := Nat.not_le.mpr hbl
  refine a_aload_n (pc' := 494) hc d_W_law_493 rfl rfl rfl ?_
  refine w_arg (pc' := 499) hc hX hbl hbA hL i 1 (by omega) rfl rfl d_W_law_494 d_W_law_495 d_W_law_496 (by decide) d_W_law_497 d_W_law_498 rfl ?_
  refine w_arg (pc' := 504) hc hX hbl hbA hL i 2 (by omega) rfl rfl d_W_law_499 d_W_law_500 d_W_law_501 (by decide) d_W_law_502 d_W_law_503 rfl ?_
  refine w_callE (pc' := 507) hc hK hO (fun q h => h) hx [.int (xs (i + 1)), .int (xs (i + 2))] [] (eo_where hx H hC) (by decide) (by decide) ml_W_78 hd_E_where ⟨by decide, by decide⟩ rfl rfl (Nat.le_of_ble_eq_true rfl) d_W_law_504 rfl hr hdj (fun κ' tk' h' H1 dj1 => ?_)
  refine a_aload_n (pc' := 508) hc d_W_law_507 rfl rfl rfl ?_
  refine w_arg (pc' := 513) hc hX hbl hbA hL i 1 (by omega) rfl rfl d_W_law_508 d_W_law_509 d_W_law_510 (by decide) d_W_law_511 d_W_law_512 rfl ?_
  refine w_arg (pc' := 518) hc hX hbl hbA hL i 2 (by omega) rfl rfl d_W_law_513 d_W_law_514 d_W_law_515 (by decide) d_W_law_516 d_W_law_517 rfl ?_
  refine w_callM (pc' := 521) hc hK hO (fun q h => h) hxm [.int (xs (i + 1)), .int (xs (i + 2))] [.int _] (mo_where hxm H hC) ml_W_81 hd_M_where ⟨by decide, by decide⟩ rfl rfl (Nat.le_of_ble_eq_true rfl) d_W_law_518 rfl hr dj1 (fun dj2 => ?_)
  refine a_icmp_eq (pc' := 524) (tgt := 631) hc d_W_law_521 rfl rfl (fun _ => ?_) (fun hne => absurd rfl hne)
  exact K _ κ' tk' h' H1 dj2
theorem op_rows (hc : CallFix p m c code 4 s #[Value.ref b] (c0 :: WS) R_W) (hK : va_K D vcl tys s) (hO : AO3 s) (hX : va_X b L xs s s.heap) (hbl : b < s.heap.size) (hL : L < 2 ^ 31) (hi : i + 4 ≤ L) (hx : CX bx rl ca tys n E) (hxm : MX ax rm ca tys n E) (H : INV bx ca n E C τ κ h) (hC : C + 1 < 2 ^ 31) (hdj : Dj (cw bx rl ca n E τ κ tk h) (tw ax rm ca n E τ)) (hr : k + 5 ≤ room_1.cells ∧ nn + 25 ≤ room_1.slots)
    (K : ∀ τ' κ' tk' h', INV bx ca n E (C + 1) τ' κ' h' → Dj (cw bx rl ca n E τ' κ' tk' h') (tw ax rm ca n E τ') → AW p l e room_1 s m #[Value.ref b] below meth c D vcl (fun q => s.heap.size ≤ q) 4 Q (un (cw bx rl ca n E τ' κ' tk' h') (tw ax rm ca n E τ')) (k + 5) (nn + 25) 631 [some (.ref b), some (.ref (bx 0)), some (.ref (ax 0)), some (.int (nI (i)))] []) : AW p l e room_1 s m #[Value.ref b] below meth c D vcl (fun q => s.heap.size ≤ q) 4 Q (un (cw bx rl ca n E τ κ tk h) (tw ax rm ca n E τ)) (k) (nn) 526 [some (.ref b), some (.ref (bx 0)), some (.ref (ax 0)), some (.int (nI (i)))] [] := by
  have hbA : ¬ (fun q => s.heap.size ≤ q) b := Nat.not_le.mpr hbl
  refine a_aload_n (pc' := 527) hc d_W_law_526 rfl rfl rfl ?_
  refine w_arg (pc' := 532) hc hX hbl hbA hL i 1 (by omega) rfl rfl d_W_law_527 d_W_law_528 d_W_law_529 (by decide) d_W_law_530 d_W_law_531 rfl ?_
  refine w_callE (pc' := 535) hc hK hO (fun q h => h) hx [.int (xs (i + 1))] [] (eo_rows hx H hC) (by decide) (by decide) ml_W_82 hd_E_rows ⟨by decide, by decide⟩ rfl rfl (Nat.le_of_ble_eq_true rfl) d_W_law_532 rfl hr hdj (fun κ' tk' h' H1 dj1 => ?_)
  refine a_aload_n (pc' := 536) hc d_W_law_535 rfl rfl rfl ?_
  refine w_arg (pc' := 541) hc hX hbl hbA hL i 1 (by omega) rfl rfl d_W_law_536 d_W_law_537 d_W_law_538 (by decide) d_W_law_539 d_W_law_540 rfl ?_
  refine w_callM (pc' := 544) hc hK hO (fun q h => h) hxm [.int (xs (i + 1))] [.int _] (mo_rows hxm H hC) ml_W_86 hd_M_rows ⟨by decide, by decide⟩ rfl rfl (Nat.le_of_ble_eq_true rfl) d_W_law_541 rfl hr dj1 (fun dj2 => ?_)
  refine a_icmp_eq (pc' := 547) (tgt := 631) hc d_W_law_544 rfl rfl (fun _ => ?_) (fun hne => absurd rfl hne)
  exact K _ κ' tk' h' H1 dj2
theorem op_free (hc : CallFix p m c code 4 s #[Value.ref b] (c0 :: WS) R_W) (hK : va_K D vcl tys s) (hO : AO3 s) (hX : va_X b L xs s s.heap) (hbl : b < s.heap.size) (hL : L < 2 ^ 31) (hi : i + 4 ≤ L) (hx : CX bx rl ca tys n E) (hxm : MX ax rm ca tys n E) (H : INV bx ca n E C τ κ h) (hC : C + 1 < 2 ^ 31) (hdj : Dj (cw bx rl ca n E τ κ tk h) (tw ax rm ca n E τ)) (hr : k + 5 ≤ room_1.cells ∧ nn + 25 ≤ room_1.slots)
    (K : ∀ τ' κ' tk' h', INV bx ca n E (C + 1) τ' κ' h' → Dj (cw bx rl ca n E τ' κ' tk' h') (tw ax rm ca n E τ') → AW p l e room_1 s m #[Value.ref b] below meth c D vcl (fun q => s.heap.size ≤ q) 4 Q (un (cw bx rl ca n E τ' κ' tk' h') (tw ax rm ca n E τ')) (k + 5) (nn + 25) 631 [some (.ref b), some (.ref (bx 0)), some (.ref (ax 0)), some (.int (nI (i)))] []) : AW p l e room_1 s m #[Value.ref b] below meth c D vcl (fun q => s.heap.size ≤ q) 4 Q (un (cw bx rl ca n E τ κ tk h) (tw ax rm ca n E τ)) (k) (nn) 549 [some (.ref b), some (.ref (bx 0)), some (.ref (ax 0)), some (.int (nI (i)))] [] := by
  have hbA : ¬ (fun q => s.heap.size ≤ q) b := Nat.not_le.mpr hbl
  refine a_aload_n (pc' := 550) hc d_W_law_549 rfl rfl rfl ?_
  refine w_arg (pc' := 555) hc hX hbl hbA hL i 1 (by omega) rfl rfl d_W_law_550 d_W_law_551 d_W_law_552 (by decide) d_W_law_553 d_W_law_554 rfl ?_
  refine w_callE (pc' := 558) hc hK hO (fun q h => h) hx [.int (xs (i + 1))] [] (eo_free hx H hC) (by decide) (by decide) ml_W_87 hd_E_free ⟨by decide, by decide⟩ rfl rfl (Nat.le_of_ble_eq_true rfl) d_W_law_555 rfl hr hdj (fun κ' tk' h' H1 dj1 => ?_)
  refine a_aload_n (pc' := 559) hc d_W_law_558 rfl rfl rfl ?_
  refine w_arg (pc' := 564) hc hX hbl hbA hL i 1 (by omega) rfl rfl d_W_law_559 d_W_law_560 d_W_law_561 (by decide) d_W_law_562 d_W_law_563 rfl ?_
  refine w_callM (pc' := 567) hc hK hO (fun q h => h) hxm [.int (xs (i + 1))] [.int _] (mo_free hxm H hC) ml_W_90 hd_M_free ⟨by decide, by decide⟩ rfl rfl (Nat.le_of_ble_eq_true rfl) d_W_law_564 rfl hr dj1 (fun dj2 => ?_)
  refine a_icmp_eq (pc' := 570) (tgt := 631) hc d_W_law_567 rfl rfl (fun _ => ?_) (fun hne => absurd rfl hne)
  exact K _ κ' tk' h' H1 dj2
theorem op_moving (hc : CallFix p m c code 4 s #[Value.ref b] (c0 :: WS) R_W) (hK : va_K D vcl tys s) (hO : AO3 s) (hX : va_X b L xs s s.heap) (hbl : b < s.heap.size) (hL : L < 2 ^ 31) (hi : i + 4 ≤ L) (hx : CX bx rl ca tys n E) (hxm : MX ax rm ca tys n E) (H : INV bx ca n E C τ κ h) (hC : C + 1 < 2 ^ 31) (hdj : Dj (cw bx rl ca n E τ κ tk h) (tw ax rm ca n E τ)) (hr : k + 5 ≤ room_1.cells ∧ nn + 25 ≤ room_1.slots)
    (K : ∀ τ' κ' tk' h', INV bx ca n E (C + 1) τ' κ' h' → Dj (cw bx rl ca n E τ' κ' tk' h') (tw ax rm ca n E τ') → AW p l e room_1 s m #[Value.ref b] below meth c D vcl (fun q => s.heap.size ≤ q) 4 Q (un (cw bx rl ca n E τ' κ' tk' h') (tw ax rm ca n E τ')) (k + 5) (nn + 25) 631 [some (.ref b), some (.ref (bx 0)), some (.ref (ax 0)), some (.int (nI (i)))] []) : AW p l e room_1 s m #[Value.ref b] below meth c D vcl (fun q => s.heap.size ≤ q) 4 Q (un (cw bx rl ca n E τ κ tk h) (tw ax rm ca n E τ)) (k) (nn) 572 [some (.ref b), some (.ref (bx 0)), some (.ref (ax 0)), some (.int (nI (i)))] [] := by
  have hbA : ¬ (fun q => s.heap.size ≤ q) b := Nat.not_le.mpr hbl
  refine a_aload_n (pc' := 573) hc d_W_law_572 rfl rfl rfl ?_
  refine w_callE (pc' := 576) hc hK hO (fun q h => h) hx [] [] (eo_moving hx H hC) (by decide) (by decide) ml_W_91 hd_E_moving ⟨by decide, by decide⟩ rfl rfl (Nat.le_of_ble_eq_true rfl) d_W_law_573 rfl hr hdj (fun κ' tk' h' H1 dj1 => ?_)
  refine a_aload_n (pc' := 577) hc d_W_law_576 rfl rfl rfl ?_
  refine w_callM (pc' := 580) hc hK hO (fun q h => h) hxm [] [.int _] (mo_moving hxm H hC) ml_W_94 hd_M_moving ⟨by decide, by decide⟩ rfl rfl (Nat.le_of_ble_eq_true rfl) d_W_law_577 rfl hr dj1 (fun dj2 => ?_)
  refine a_icmp_eq (pc' := 583) (tgt := 631) hc d_W_law_580 rfl rfl (fun _ => ?_) (fun hne => absurd rfl hne)
  exact K _ κ' tk' h' H1 dj2
theorem op_sequence (hc : CallFix p m c code 4 s #[Value.ref b] (c0 :: WS) R_W) (hK : va_K D vcl tys s) (hO : AO3 s) (hX : va_X b L xs s s.heap) (hbl : b < s.heap.size) (hL : L < 2 ^ 31) (hi : i + 4 ≤ L) (hx : CX bx rl ca tys n E) (hxm : MX ax rm ca tys n E) (H : INV bx ca n E C τ κ h) (hC : C + 1 < 2 ^ 31) (hdj : Dj (cw bx rl ca n E τ κ tk h) (tw ax rm ca n E τ)) (hr : k + 5 ≤ room_1.cells ∧ nn + 25 ≤ room_1.slots)
    (K : ∀ τ' κ' tk' h', INV bx ca n E (C + 1) τ' κ' h' → Dj (cw bx rl ca n E τ' κ' tk' h') (tw ax rm ca n E τ') → AW p l e room_1 s m #[Value.ref b] below meth c D vcl (fun q => s.heap.size ≤ q) 4 Q (un (cw bx rl ca n E τ' κ' tk' h') (tw ax rm ca n E τ')) (k + 5) (nn + 25) 631 [some (.ref b), some (.ref (bx 0)), some (.ref (ax 0)), some (.int (nI (i)))] []) : AW p l e room_1 s m #[Value.ref b] below meth c D vcl (fun q => s.heap.size ≤ q) 4 Q (un (cw bx rl ca n E τ κ tk h) (tw ax rm ca n E τ)) (k) (nn) 585 [some (.ref b), some (.ref (bx 0)), some (.ref (ax 0)), some (.int (nI (i)))] [] := by
  have hbA : ¬ (fun q => s.heap.size ≤ q) b := Nat.not_le.mpr hbl
  refine a_aload_n (pc' := 586) hc d_W_law_585 rfl rfl rfl ?_
  refine w_callE (pc' := 589) hc hK hO (fun q h => h) hx [] [] (eo_sequence hx H hC) (by decide) (by decide) ml_W_95 hd_E_sequence ⟨by decide, by decide⟩ rfl rfl (Nat.le_of_ble_eq_true rfl) d_W_law_586 rfl hr hdj (fun κ' tk' h' H1 dj1 => ?_)
  refine a_aload_n (pc' := 590) hc d_W_law_589 rfl rfl rfl ?_
  refine w_callM (pc' := 593) hc hK hO (fun q h => h) hxm [] [.int _] (mo_sequence hxm H hC) ml_W_98 hd_M_sequence ⟨by decide, by decide⟩ rfl rfl (Nat.le_of_ble_eq_true rfl) d_W_law_590 rfl hr dj1 (fun dj2 => ?_)
  refine a_icmp_eq (pc' := 596) (tgt := 631) hc d_W_law_593 rfl rfl (fun _ => ?_) (fun hne => absurd rfl hne)
  exact K _ κ' tk' h' H1 dj2
theorem op_slot (hc : CallFix p m c code 4 s #[Value.ref b] (c0 :: WS) R_W) (hK : va_K D vcl tys s) (hO : AO3 s) (hX : va_X b L xs s s.heap) (hbl : b < s.heap.size) (hL : L < 2 ^ 31) (hi : i + 4 ≤ L) (hx : CX bx rl ca tys n E) (hxm : MX ax rm ca tys n E) (H : INV bx ca n E C τ κ h) (hC : C + 1 < 2 ^ 31) (hdj : Dj (cw bx rl ca n E τ κ tk h) (tw ax rm ca n E τ)) (hr : k + 5 ≤ room_1.cells ∧ nn + 25 ≤ room_1.slots)
    (K : ∀ τ' κ' tk' h', INV bx ca n E (C + 1) τ' κ' h' → Dj (cw bx rl ca n E τ' κ' tk' h') (tw ax rm ca n E τ') → AW p l e room_1 s m #[Value.ref b] below meth c D vcl (fun q => s.heap.size ≤ q) 4 Q (un (cw bx rl ca n E τ' κ' tk' h') (tw ax rm ca n E τ')) (k + 5) (nn + 25) 631 [some (.ref b), some (.ref (bx 0)), some (.ref (ax 0)), some (.int (nI (i)))] []) : AW p l e room_1 s m #[Value.ref b] below meth c D vcl (fun q => s.heap.size ≤ q) 4 Q (un (cw bx rl ca n E τ κ tk h) (tw ax rm ca n E τ)) (k) (nn) 598 [some (.ref b), some (.ref (bx 0)), some (.ref (ax 0)), some (.int (nI (i)))] [] := by
  have hbA : ¬ (fun q => s.heap.size ≤ q) b := Nat.not_le.mpr hbl
  refine a_aload_n (pc' := 599) hc d_W_law_598 rfl rfl rfl ?_
  refine w_arg (pc' := 604) hc hX hbl hbA hL i 1 (by omega) rfl rfl d_W_law_599 d_W_law_600 d_W_law_601 (by decide) d_W_law_602 d_W_law_603 rfl ?_
  refine w_arg (pc' := 609) hc hX hbl hbA hL i 2 (by omega) rfl rfl d_W_law_604 d_W_law_605 d_W_law_606 (by decide) d_W_law_607 d_W_law_608 rfl ?_
  refine w_callE (pc' := 612) hc hK hO (fun q h => h) hx [.int (xs (i + 1)), .int (xs (i + 2))] [] (eo_slot hx H hC) (by decide) (by decide) ml_W_99 hd_E_slot ⟨by decide, by decide⟩ rfl rfl (Nat.le_of_ble_eq_true rfl) d_W_law_609 rfl hr hdj (fun κ' tk' h' H1 dj1 => ?_)
  refine a_aload_n (pc' := 613) hc d_W_law_612 rfl rfl rfl ?_
  refine w_arg (pc' := 618) hc hX hbl hbA hL i 1 (by omega) rfl rfl d_W_law_613 d_W_law_614 d_W_law_615 (by decide) d_W_law_616 d_W_law_617 rfl ?_
  refine w_arg (pc' := 623) hc hX hbl hbA hL i 2 (by omega) rfl rfl d_W_law_618 d_W_law_619 d_W_law_620 (by decide) d_W_law_621 d_W_law_622 rfl ?_
  refine w_callM (pc' := 626) hc hK hO (fun q h => h) hxm [.int (xs (i + 1)), .int (xs (i + 2))] [.int _] (mo_slot hxm H hC) ml_W_102 hd_M_slot ⟨by decide, by decide⟩ rfl rfl (Nat.le_of_ble_eq_true rfl) d_W_law_623 rfl hr dj1 (fun dj2 => ?_)
  refine a_icmp_eq (pc' := 629) (tgt := 631) hc d_W_law_626 rfl rfl (fun _ => ?_) (fun hne => absurd rfl hne)
  exact K _ κ' tk' h' H1 dj2
