set_option maxHeartbeats 4000000 in
set_option maxRecDepth 100000 in
theorem law_cell {p : Program} {l : Launch} {e : Env} {s : State} {m : MethodId} {below : List Frame} {meth : Method} {c : Code} {k : KT} {a a2 : Nat → Nat} {b L i : Nat} {xs : Nat → Int32} (hL : L ≤ 3585) (C0 : lw_At p s m meth c b L xs) (hK : KK k s) (hi : i + 7 ≤ L) (ih : ∀ (S : SeaT) (T : TalT) (dr tr : Int64) (C : ChoT) (F : Nat → Int32) (G : GoT) (M : ModT) (n : Nat), Rl S C G dr M n → ∀ (H : Heap) (locs : List Loc), va_P k.1 vwCl (xW k a S T dr tr C F G ++ mW k a2 M) H → va_D (fun q : Nat => s.heap.size ≤ q) (xW k a S T dr tr C F G ++ mW k a2 M) → va_S (fun q : Nat => s.heap.size ≤ q) s.heap H locs → ∀ ls : Array Slot, lv_has ls 4 [(0, .ref b), (1, .ref (a 0)), (2, .ref (a2 0)), (3, .int (nI (i + 7)))] → W p l e room_1 s m #[Value.ref b] below meth c H locs 28 2553 (lw_Z below #[Value.ref b] s) (F0 m 30 ls [])) (S : SeaT) (T : TalT) (dr tr : Int64) (C : ChoT) (F : Nat → Int32) (G : GoT) (M : ModT) (n : Nat) (hR : Rl S C G dr M n) (H : Heap) (locs : List Loc) (hP : va_P k.1 vwCl (xW k a S T dr tr C F G ++ mW k a2 M) H) (hD : va_D (fun q : Nat => s.heap.size ≤ q) (xW k a S T dr tr C F G ++ mW k a2 M)) (hS : va_S (fun q : Nat => s.heap.size ≤ q) s.heap H locs) (ls : Array Slot) (hl : lv_has ls 4 [(0, .ref b), (1, .ref (a 0)), (2, .ref (a2 0)), (3, .int (nI i))]) : W p l e room_1 s m #[Value.ref b] below meth c H locs 28 2553 (lw_Z below #[Value.ref b] s) (F0 m 168 ls []) := by
  obtain ⟨hx, hb, hr, hml, hown, hts, hX, hbl, hlocks, hgv⟩ := C0
  have hU : ∀ w ∈ wsL_law, w.before #[Value.ref b] s = true := fun w h => hts w (wsL_law_in w h)
  have hF : CF p m c cL_law 4 s #[Value.ref b] RL := ⟨hx, hb, hml, hown, hU⟩
  have hA : ∀ q : Nat, s.heap.size ≤ q → (fun q : Nat => s.heap.size ≤ q) q := fun _ h => h
  have hbA : ¬ (fun q : Nat => s.heap.size ≤ q) b := Nat.not_le.mpr hbl
  refine lv_aload_n hx hb dL_law_168 rfl (lv_at hl 1 rfl) ?_
  refine lv_aload_n hx hb dL_law_169 rfl (lv_at hl 0 rfl) ?_
  refine lv_iload_n hx hb dL_law_170 rfl (lv_at hl 3 rfl) ?_
  refine lv_iconst (v := 1) hx hb dL_law_171 (by decide) ?_
  refine lv_iadd hx hb dL_law_172 ?_
  refine x_sld hx hb hX hbl hbA hS (j := i + 1) (nI_add i 1) (by omega) (by omega) dL_law_173 ?_
  refine lv_i2l (v := (Int32.toInt64 (xs (i + 1)))) hx hb dL_law_174 rfl ?_
  refine lv_bipush (v := 32) hx hb dL_law_175 (by decide) ?_
  refine lv_lshl (v := (lh (Int32.toInt64 (xs (i + 1))) 32)) hx hb dL_law_177 rfl ?_
  refine lv_aload_n hx hb dL_law_178 rfl (lv_at hl 0 rfl) ?_
  refine lv_iload_n hx hb dL_law_179 rfl (lv_at hl 3 rfl) ?_
  refine lv_iconst (v := 2) hx hb dL_law_180 (by decide) ?_
  refine lv_iadd hx hb dL_law_181 ?_
  refine x_sld hx hb hX hbl hbA hS (j := i + 2) (nI_add i 2) (by omega) (by omega) dL_law_182 ?_
  refine lv_i2l (v := (Int32.toInt64 (xs (i + 2)))) hx hb dL_law_183 rfl ?_
  refine lv_ldc2 hx hb hown (hU _ uK_L_21) dL_law_184 ?_
  refine lv_land hx hb dL_law_187 ?_
  refine lv_lor hx hb dL_law_188 ?_
  refine lcX (n := 1) (As := [.long ((lh (Int32.toInt64 (xs (i + 1))) 32) ||| ((Int32.toInt64 (xs (i + 2))) &&& 4294967295))]) (rest := []) hF (c_X4_cell l k a S T dr tr C F G ((lh (Int32.toInt64 (xs (i + 1))) 32) ||| ((Int32.toInt64 (xs (i + 2))) &&& 4294967295)) n hR.1 hR.2.1) hP hD hS hA hK 0 (ci := 4) rfl rfl rfl uC_X4_cell uN_X4 uM_L_23 uI_X4_cell uE_X4_cell (by decide +kernel) rfl ⟨Nat.le_of_ble_eq_true rfl, Nat.le_of_ble_eq_true rfl⟩ ⟨Nat.le_of_ble_eq_true rfl, Nat.le_of_ble_eq_true rfl⟩ hl.1 rfl (Nat.le_of_ble_eq_true rfl) dL_law_189 (fun H locs hP hD hS => ?_)
  refine lv_aload_n hx hb dL_law_192 rfl (lv_at hl 2 rfl) ?_
  refine lv_aload_n hx hb dL_law_193 rfl (lv_at hl 0 rfl) ?_
  refine lv_iload_n hx hb dL_law_194 rfl (lv_at hl 3 rfl) ?_
  refine lv_iconst (v := 1) hx hb dL_law_195 (by decide) ?_
  refine lv_iadd hx hb dL_law_196 ?_
  refine x_sld hx hb hX hbl hbA hS (j := i + 1) (nI_add i 1) (by omega) (by omega) dL_law_197 ?_
  refine lv_i2l (v := (Int32.toInt64 (xs (i + 1)))) hx hb dL_law_198 rfl ?_
  refine lv_bipush (v := 32) hx hb dL_law_199 (by decide) ?_
  refine lv_lshl (v := (lh (Int32.toInt64 (xs (i + 1))) 32)) hx hb dL_law_201 rfl ?_
  refine lv_aload_n hx hb dL_law_202 rfl (lv_at hl 0 rfl) ?_
  refine lv_iload_n hx hb dL_law_203 rfl (lv_at hl 3 rfl) ?_
  refine lv_iconst (v := 2) hx hb dL_law_204 (by decide) ?_
  refine lv_iadd hx hb dL_law_205 ?_
  refine x_sld hx hb hX hbl hbA hS (j := i + 2) (nI_add i 2) (by omega) (by omega) dL_law_206 ?_
  refine lv_i2l (v := (Int32.toInt64 (xs (i + 2)))) hx hb dL_law_207 rfl ?_
  refine lv_ldc2 hx hb hown (hU _ uK_L_21) dL_law_208 ?_
  refine lv_land hx hb dL_law_211 ?_
  refine lv_lor hx hb dL_law_212 ?_
  refine lcM (n := 1) (As := [.long ((lh (Int32.toInt64 (xs (i + 1))) 32) ||| ((Int32.toInt64 (xs (i + 2))) &&& 4294967295))]) (rest := [.int (w_X4_cell S ((lh (Int32.toInt64 (xs (i + 1))) 32) ||| ((Int32.toInt64 (xs (i + 2))) &&& 4294967295)))]) hF (c_X5_cell l k a2 M ((lh (Int32.toInt64 (xs (i + 1))) 32) ||| ((Int32.toInt64 (xs (i + 2))) &&& 4294967295)) n hR.1 hR.2.2.1) hP hD hS hA hK 0 (ci := 5) rfl rfl rfl uC_X5_cell uN_X5 uM_L_26 uI_X5_cell uE_X5_cell (by decide +kernel) rfl ⟨Nat.le_of_ble_eq_true rfl, Nat.le_of_ble_eq_true rfl⟩ ⟨Nat.le_of_ble_eq_true rfl, Nat.le_of_ble_eq_true rfl⟩ hl.1 rfl (Nat.le_of_ble_eq_true rfl) dL_law_213 (fun H locs hP hD hS => ?_)
  obtain ⟨e1, n2, hR2⟩ := rl_cell hR T tr F ((lh (Int32.toInt64 (xs (i + 1))) 32) ||| ((Int32.toInt64 (xs (i + 2))) &&& 4294967295))
  refine lv_icmp_eq (tgt := 1287) hx hb dL_law_216 (by decide) (fun c9 => ?_) (fun c9 => absurd e1 c9)
  refine lv_iinc (v := nI (i + 7)) (lv' := [(3, .int (nI (i + 7))), (0, .ref b), (1, .ref (a 0)), (2, .ref (a2 0))]) hx hb dL_law_1287 hl (k := 3) rfl (nI_add i 7) (by decide) rfl (fun ls hl => ?_)
  refine lv_goto (tgt := 30) hx hb dL_law_1290 (by decide) ?_
  exact ih _ _ _ _ _ _ _ _ n2 hR2 _ _ hP hD hS ls (lv_sub hl [1, 2, 3, 0] rfl)

set_option maxHeartbeats 4000000 in
set_option maxRecDepth 100000 in
theorem law_holds {p : Program} {l : Launch} {e : Env} {s : State} {m : MethodId} {below : List Frame} {meth : Method} {c : Code} {k : KT} {a a2 : Nat → Nat} {b L i : Nat} {xs : Nat → Int32} (hL : L ≤ 3585) (C0 : lw_At p s m meth c b L xs) (hK : KK k s) (hi : i + 7 ≤ L) (ih : ∀ (S : SeaT) (T : TalT) (dr tr : Int64) (C : ChoT) (F : Nat → Int32) (G : GoT) (M : ModT) (n : Nat), Rl S C G dr M n → ∀ (H : Heap) (locs : List Loc), va_P k.1 vwCl (xW k a S T dr tr C F G ++ mW k a2 M) H → va_D (fun q : Nat => s.heap.size ≤ q) (xW k a S T dr tr C F G ++ mW k a2 M) → va_S (fun q : Nat => s.heap.size ≤ q) s.heap H locs → ∀ ls : Array Slot, lv_has ls 4 [(0, .ref b), (1, .ref (a 0)), (2, .ref (a2 0)), (3, .int (nI (i + 7)))] → W p l e room_1 s m #[Value.ref b] below meth c H locs 28 2553 (lw_Z below #[Value.ref b] s) (F0 m 30 ls [])) (S : SeaT) (T : TalT) (dr tr : Int64) (C : ChoT) (F : Nat → Int32) (G : GoT) (M : ModT) (n : Nat) (hR : Rl S C G dr M n) (H : Heap) (locs : List Loc) (hP : va_P k.1 vwCl (xW k a S T dr tr C F G ++ mW k a2 M) H) (hD : va_D (fun q : Nat => s.heap.size ≤ q) (xW k a S T dr tr C F G ++ mW k a2 M)) (hS : va_S (fun q : Nat => s.heap.size ≤ q) s.heap H locs) (ls : Array Slot) (hl : lv_has ls 4 [(0, .ref b), (1, .ref (a 0)), (2, .ref (a2 0)), (3, .int (nI i))]) : W p l e room_1 s m #[Value.ref b] below meth c H locs 28 2553 (lw_Z below #[Value.ref b] s) (F0 m 221 ls []) := by
  obtain ⟨hx, hb, hr, hml, hown, hts, hX, hbl, hlocks, hgv⟩ := C0
  have hU : ∀ w ∈ wsL_law, w.before #[Value.ref b] s = true := fun w h => hts w (wsL_law_in w h)
  have hF : CF p m c cL_law 4 s #[Value.ref b] RL := ⟨hx, hb, hml, hown, hU⟩
  have hA : ∀ q : Nat, s.heap.size ≤ q → (fun q : Nat => s.heap.size ≤ q) q := fun _ h => h
  have hbA : ¬ (fun q : Nat => s.heap.size ≤ q) b := Nat.not_le.mpr hbl
  refine lv_aload_n hx hb dL_law_221 rfl (lv_at hl 1 rfl) ?_
  refine lv_aload_n hx hb dL_law_222 rfl (lv_at hl 0 rfl) ?_
  refine lv_iload_n hx hb dL_law_223 rfl (lv_at hl 3 rfl) ?_
  refine lv_iconst (v := 1) hx hb dL_law_224 (by decide) ?_
  refine lv_iadd hx hb dL_law_225 ?_
  refine x_sld hx hb hX hbl hbA hS (j := i + 1) (nI_add i 1) (by omega) (by omega) dL_law_226 ?_
  refine lv_aload_n hx hb dL_law_227 rfl (lv_at hl 0 rfl) ?_
  refine lv_iload_n hx hb dL_law_228 rfl (lv_at hl 3 rfl) ?_
  refine lv_iconst (v := 2) hx hb dL_law_229 (by decide) ?_
  refine lv_iadd hx hb dL_law_230 ?_
  refine x_sld hx hb hX hbl hbA hS (j := i + 2) (nI_add i 2) (by omega) (by omega) dL_law_231 ?_
  refine lv_aload_n hx hb dL_law_232 rfl (lv_at hl 0 rfl) ?_
  refine lv_iload_n hx hb dL_law_233 rfl (lv_at hl 3 rfl) ?_
  refine lv_iconst (v := 3) hx hb dL_law_234 (by decide) ?_
  refine lv_iadd hx hb dL_law_235 ?_
  refine x_sld hx hb hX hbl hbA hS (j := i + 3) (nI_add i 3) (by omega) (by omega) dL_law_236 ?_
  refine lv_i2l (v := (Int32.toInt64 (xs (i + 3)))) hx hb dL_law_237 rfl ?_
  refine lv_bipush (v := 32) hx hb dL_law_238 (by decide) ?_
  refine lv_lshl (v := (lh (Int32.toInt64 (xs (i + 3))) 32)) hx hb dL_law_240 rfl ?_
  refine lv_aload_n hx hb dL_law_241 rfl (lv_at hl 0 rfl) ?_
  refine lv_iload_n hx hb dL_law_242 rfl (lv_at hl 3 rfl) ?_
  refine lv_iconst (v := 4) hx hb dL_law_243 (by decide) ?_
  refine lv_iadd hx hb dL_law_244 ?_
  refine x_sld hx hb hX hbl hbA hS (j := i + 4) (nI_add i 4) (by omega) (by omega) dL_law_245 ?_
  refine lv_i2l (v := (Int32.toInt64 (xs (i + 4)))) hx hb dL_law_246 rfl ?_
  refine lv_ldc2 hx hb hown (hU _ uK_L_21) dL_law_247 ?_
  refine lv_land hx hb dL_law_250 ?_
  refine lv_lor hx hb dL_law_251 ?_
  refine lv_aload_n hx hb dL_law_252 rfl (lv_at hl 0 rfl) ?_
  refine lv_iload_n hx hb dL_law_253 rfl (lv_at hl 3 rfl) ?_
  refine lv_iconst (v := 5) hx hb dL_law_254 (by decide) ?_
  refine lv_iadd hx hb dL_law_255 ?_
  refine x_sld hx hb hX hbl hbA hS (j := i + 5) (nI_add i 5) (by omega) (by omega) dL_law_256 ?_
  refine lv_i2l (v := (Int32.toInt64 (xs (i + 5)))) hx hb dL_law_257 rfl ?_
  refine lv_bipush (v := 32) hx hb dL_law_258 (by decide) ?_
  refine lv_lshl (v := (lh (Int32.toInt64 (xs (i + 5))) 32)) hx hb dL_law_260 rfl ?_
  refine lv_aload_n hx hb dL_law_261 rfl (lv_at hl 0 rfl) ?_
  refine lv_iload_n hx hb dL_law_262 rfl (lv_at hl 3 rfl) ?_
  refine lv_bipush (v := 6) hx hb dL_law_263 (by decide) ?_
  refine lv_iadd hx hb dL_law_265 ?_
  refine x_sld hx hb hX hbl hbA hS (j := i + 6) (nI_add i 6) (by omega) (by omega) dL_law_266 ?_
  refine lv_i2l (v := (Int32.toInt64 (xs (i + 6)))) hx hb dL_law_267 rfl ?_
  refine lv_ldc2 hx hb hown (hU _ uK_L_21) dL_law_268 ?_
  refine lv_land hx hb dL_law_271 ?_
  refine lv_lor hx hb dL_law_272 ?_
  refine lcX (n := 4) (As := [.int (xs (i + 1)), .int (xs (i + 2)), .long ((lh (Int32.toInt64 (xs (i + 3))) 32) ||| ((Int32.toInt64 (xs (i + 4))) &&& 4294967295)), .long ((lh (Int32.toInt64 (xs (i + 5))) 32) ||| ((Int32.toInt64 (xs (i + 6))) &&& 4294967295))]) (rest := []) hF (c_X4_holds l k a S T dr tr C F G (xs (i + 1)) (xs (i + 2)) ((lh (Int32.toInt64 (xs (i + 3))) 32) ||| ((Int32.toInt64 (xs (i + 4))) &&& 4294967295)) ((lh (Int32.toInt64 (xs (i + 5))) 32) ||| ((Int32.toInt64 (xs (i + 6))) &&& 4294967295)) n hR.1 hR.2.1) hP hD hS hA hK 0 (ci := 4) rfl rfl rfl uC_X4_holds uN_X4 uM_L_27 uI_X4_holds uE_X4_holds (by decide +kernel) rfl ⟨Nat.le_of_ble_eq_true rfl, Nat.le_of_ble_eq_true rfl⟩ ⟨Nat.le_of_ble_eq_true rfl, Nat.le_of_ble_eq_true rfl⟩ hl.1 rfl (Nat.le_of_ble_eq_true rfl) dL_law_273 (fun H locs hP hD hS => ?_)
  refine lv_aload_n hx hb dL_law_276 rfl (lv_at hl 2 rfl) ?_
  refine lv_aload_n hx hb dL_law_277 rfl (lv_at hl 0 rfl) ?_
  refine lv_iload_n hx hb dL_law_278 rfl (lv_at hl 3 rfl) ?_
  refine lv_iconst (v := 1) hx hb dL_law_279 (by decide) ?_
  refine lv_iadd hx hb dL_law_280 ?_
  refine x_sld hx hb hX hbl hbA hS (j := i + 1) (nI_add i 1) (by omega) (by omega) dL_law_281 ?_
  refine lv_aload_n hx hb dL_law_282 rfl (lv_at hl 0 rfl) ?_
  refine lv_iload_n hx hb dL_law_283 rfl (lv_at hl 3 rfl) ?_
  refine lv_iconst (v := 2) hx hb dL_law_284 (by decide) ?_
  refine lv_iadd hx hb dL_law_285 ?_
  refine x_sld hx hb hX hbl hbA hS (j := i + 2) (nI_add i 2) (by omega) (by omega) dL_law_286 ?_
  refine lv_aload_n hx hb dL_law_287 rfl (lv_at hl 0 rfl) ?_
  refine lv_iload_n hx hb dL_law_288 rfl (lv_at hl 3 rfl) ?_
  refine lv_iconst (v := 3) hx hb dL_law_289 (by decide) ?_
  refine lv_iadd hx hb dL_law_290 ?_
  refine x_sld hx hb hX hbl hbA hS (j := i + 3) (nI_add i 3) (by omega) (by omega) dL_law_291 ?_
  refine lv_i2l (v := (Int32.toInt64 (xs (i + 3)))) hx hb dL_law_292 rfl ?_
  refine lv_bipush (v := 32) hx hb dL_law_293 (by decide) ?_
  refine lv_lshl (v := (lh (Int32.toInt64 (xs (i + 3))) 32)) hx hb dL_law_295 rfl ?_
  refine lv_aload_n hx hb dL_law_296 rfl (lv_at hl 0 rfl) ?_
  refine lv_iload_n hx hb dL_law_297 rfl (lv_at hl 3 rfl) ?_
  refine lv_iconst (v := 4) hx hb dL_law_298 (by decide) ?_
  refine lv_iadd hx hb dL_law_299 ?_
  refine x_sld hx hb hX hbl hbA hS (j := i + 4) (nI_add i 4) (by omega) (by omega) dL_law_300 ?_
  refine lv_i2l (v := (Int32.toInt64 (xs (i + 4)))) hx hb dL_law_301 rfl ?_
  refine lv_ldc2 hx hb hown (hU _ uK_L_21) dL_law_302 ?_
  refine lv_land hx hb dL_law_305 ?_
  refine lv_lor hx hb dL_law_306 ?_
  refine lv_aload_n hx hb dL_law_307 rfl (lv_at hl 0 rfl) ?_
  refine lv_iload_n hx hb dL_law_308 rfl (lv_at hl 3 rfl) ?_
  refine lv_iconst (v := 5) hx hb dL_law_309 (by decide) ?_
  refine lv_iadd hx hb dL_law_310 ?_
  refine x_sld hx hb hX hbl hbA hS (j := i + 5) (nI_add i 5) (by omega) (by omega) dL_law_311 ?_
  refine lv_i2l (v := (Int32.toInt64 (xs (i + 5)))) hx hb dL_law_312 rfl ?_
  refine lv_bipush (v := 32) hx hb dL_law_313 (by decide) ?_
  refine lv_lshl (v := (lh (Int32.toInt64 (xs (i + 5))) 32)) hx hb dL_law_315 rfl ?_
  refine lv_aload_n hx hb dL_law_316 rfl (lv_at hl 0 rfl) ?_
  refine lv_iload_n hx hb dL_law_317 rfl (lv_at hl 3 rfl) ?_
  refine lv_bipush (v := 6) hx hb dL_law_318 (by decide) ?_
  refine lv_iadd hx hb dL_law_320 ?_
  refine x_sld hx hb hX hbl hbA hS (j := i + 6) (nI_add i 6) (by omega) (by omega) dL_law_321 ?_
  refine lv_i2l (v := (Int32.toInt64 (xs (i + 6)))) hx hb dL_law_322 rfl ?_
  refine lv_ldc2 hx hb hown (hU _ uK_L_21) dL_law_323 ?_
  refine lv_land hx hb dL_law_326 ?_
  refine lv_lor hx hb dL_law_327 ?_
  refine lcM (n := 4) (As := [.int (xs (i + 1)), .int (xs (i + 2)), .long ((lh (Int32.toInt64 (xs (i + 3))) 32) ||| ((Int32.toInt64 (xs (i + 4))) &&& 4294967295)), .long ((lh (Int32.toInt64 (xs (i + 5))) 32) ||| ((Int32.toInt64 (xs (i + 6))) &&& 4294967295))]) (rest := [.int (w_X4_holds S (xs (i + 1)) (xs (i + 2)) ((lh (Int32.toInt64 (xs (i + 3))) 32) ||| ((Int32.toInt64 (xs (i + 4))) &&& 4294967295)) ((lh (Int32.toInt64 (xs (i + 5))) 32) ||| ((Int32.toInt64 (xs (i + 6))) &&& 4294967295)))]) hF (c_X5_holds l k a2 M (xs (i + 1)) (xs (i + 2)) ((lh (Int32.toInt64 (xs (i + 3))) 32) ||| ((Int32.toInt64 (xs (i + 4))) &&& 4294967295)) ((lh (Int32.toInt64 (xs (i + 5))) 32) ||| ((Int32.toInt64 (xs (i + 6))) &&& 4294967295)) n hR.1 hR.2.2.1) hP hD hS hA hK 0 (ci := 5) rfl rfl rfl uC_X5_holds uN_X5 uM_L_31 uI_X5_holds uE_X5_holds (by decide +kernel) rfl ⟨Nat.le_of_ble_eq_true rfl, Nat.le_of_ble_eq_true rfl⟩ ⟨Nat.le_of_ble_eq_true rfl, Nat.le_of_ble_eq_true rfl⟩ hl.1 rfl (Nat.le_of_ble_eq_true rfl) dL_law_328 (fun H locs hP hD hS => ?_)
  obtain ⟨e1, n2, hR2⟩ := rl_holds hR T tr F (xs (i + 1)) (xs (i + 2)) ((lh (Int32.toInt64 (xs (i + 3))) 32) ||| ((Int32.toInt64 (xs (i + 4))) &&& 4294967295)) ((lh (Int32.toInt64 (xs (i + 5))) 32) ||| ((Int32.toInt64 (xs (i + 6))) &&& 4294967295))
  refine lv_icmp_eq (tgt := 1287) hx hb dL_law_331 (by decide) (fun c9 => ?_) (fun c9 => absurd e1 c9)
  refine lv_iinc (v := nI (i + 7)) (lv' := [(3, .int (nI (i + 7))), (0, .ref b), (1, .ref (a 0)), (2, .ref (a2 0))]) hx hb dL_law_1287 hl (k := 3) rfl (nI_add i 7) (by decide) rfl (fun ls hl => ?_)
  refine lv_goto (tgt := 30) hx hb dL_law_1290 (by decide) ?_
  exact ih _ _ _ _ _ _ _ _ n2 hR2 _ _ hP hD hS ls (lv_sub hl [1, 2, 3, 0] rfl)

set_option maxHeartbeats 4000000 in
set_option maxRecDepth 100000 in
theorem law_goal {p : Program} {l : Launch} {e : Env} {s : State} {m : MethodId} {below : List Frame} {meth : Method} {c : Code} {k : KT} {a a2 : Nat → Nat} {b L i : Nat} {xs : Nat → Int32} (hL : L ≤ 3585) (C0 : lw_At p s m meth c b L xs) (hK : KK k s) (hi : i + 7 ≤ L) (ih : ∀ (S : SeaT) (T : TalT) (dr tr : Int64) (C : ChoT) (F : Nat → Int32) (G : GoT) (M : ModT) (n : Nat), Rl S C G dr M n → ∀ (H : Heap) (locs : List Loc), va_P k.1 vwCl (xW k a S T dr tr C F G ++ mW k a2 M) H → va_D (fun q : Nat => s.heap.size ≤ q) (xW k a S T dr tr C F G ++ mW k a2 M) → va_S (fun q : Nat => s.heap.size ≤ q) s.heap H locs → ∀ ls : Array Slot, lv_has ls 4 [(0, .ref b), (1, .ref (a 0)), (2, .ref (a2 0)), (3, .int (nI (i + 7)))] → W p l e room_1 s m #[Value.ref b] below meth c H locs 28 2553 (lw_Z below #[Value.ref b] s) (F0 m 30 ls [])) (S : SeaT) (T : TalT) (dr tr : Int64) (C : ChoT) (F : Nat → Int32) (G : GoT) (M : ModT) (n : Nat) (hR : Rl S C G dr M n) (H : Heap) (locs : List Loc) (hP : va_P k.1 vwCl (xW k a S T dr tr C F G ++ mW k a2 M) H) (hD : va_D (fun q : Nat => s.heap.size ≤ q) (xW k a S T dr tr C F G ++ mW k a2 M)) (hS : va_S (fun q : Nat => s.heap.size ≤ q) s.heap H locs) (ls : Array Slot) (hl : lv_has ls 4 [(0, .ref b), (1, .ref (a 0)), (2, .ref (a2 0)), (3, .int (nI i))]) : W p l e room_1 s m #[Value.ref b] below meth c H locs 28 2553 (lw_Z below #[Value.ref b] s) (F0 m 336 ls []) := by
  obtain ⟨hx, hb, hr, hml, hown, hts, hX, hbl, hlocks, hgv⟩ := C0
  have hU : ∀ w ∈ wsL_law, w.before #[Value.ref b] s = true := fun w h => hts w (wsL_law_in w h)
  have hF : CF p m c cL_law 4 s #[Value.ref b] RL := ⟨hx, hb, hml, hown, hU⟩
  have hA : ∀ q : Nat, s.heap.size ≤ q → (fun q : Nat => s.heap.size ≤ q) q := fun _ h => h
  have hbA : ¬ (fun q : Nat => s.heap.size ≤ q) b := Nat.not_le.mpr hbl
  refine lv_aload_n hx hb dL_law_336 rfl (lv_at hl 1 rfl) ?_
  refine lv_aload_n hx hb dL_law_337 rfl (lv_at hl 0 rfl) ?_
  refine lv_iload_n hx hb dL_law_338 rfl (lv_at hl 3 rfl) ?_
  refine lv_iconst (v := 1) hx hb dL_law_339 (by decide) ?_
  refine lv_iadd hx hb dL_law_340 ?_
  refine x_sld hx hb hX hbl hbA hS (j := i + 1) (nI_add i 1) (by omega) (by omega) dL_law_341 ?_
  refine lv_aload_n hx hb dL_law_342 rfl (lv_at hl 0 rfl) ?_
  refine lv_iload_n hx hb dL_law_343 rfl (lv_at hl 3 rfl) ?_
  refine lv_iconst (v := 2) hx hb dL_law_344 (by decide) ?_
  refine lv_iadd hx hb dL_law_345 ?_
  refine x_sld hx hb hX hbl hbA hS (j := i + 2) (nI_add i 2) (by omega) (by omega) dL_law_346 ?_
  refine lv_i2l (v := (Int32.toInt64 (xs (i + 2)))) hx hb dL_law_347 rfl ?_
  refine lv_bipush (v := 32) hx hb dL_law_348 (by decide) ?_
  refine lv_lshl (v := (lh (Int32.toInt64 (xs (i + 2))) 32)) hx hb dL_law_350 rfl ?_
  refine lv_aload_n hx hb dL_law_351 rfl (lv_at hl 0 rfl) ?_
  refine lv_iload_n hx hb dL_law_352 rfl (lv_at hl 3 rfl) ?_
  refine lv_iconst (v := 3) hx hb dL_law_353 (by decide) ?_
  refine lv_iadd hx hb dL_law_354 ?_
  refine x_sld hx hb hX hbl hbA hS (j := i + 3) (nI_add i 3) (by omega) (by omega) dL_law_355 ?_
  refine lv_i2l (v := (Int32.toInt64 (xs (i + 3)))) hx hb dL_law_356 rfl ?_
  refine lv_ldc2 hx hb hown (hU _ uK_L_21) dL_law_357 ?_
  refine lv_land hx hb dL_law_360 ?_
  refine lv_lor hx hb dL_law_361 ?_
  refine lv_aload_n hx hb dL_law_362 rfl (lv_at hl 0 rfl) ?_
  refine lv_iload_n hx hb dL_law_363 rfl (lv_at hl 3 rfl) ?_
  refine lv_iconst (v := 4) hx hb dL_law_364 (by decide) ?_
  refine lv_iadd hx hb dL_law_365 ?_
  refine x_sld hx hb hX hbl hbA hS (j := i + 4) (nI_add i 4) (by omega) (by omega) dL_law_366 ?_
  refine lv_i2l (v := (Int32.toInt64 (xs (i + 4)))) hx hb dL_law_367 rfl ?_
  refine lv_bipush (v := 32) hx hb dL_law_368 (by decide) ?_
  refine lv_lshl (v := (lh (Int32.toInt64 (xs (i + 4))) 32)) hx hb dL_law_370 rfl ?_
  refine lv_aload_n hx hb dL_law_371 rfl (lv_at hl 0 rfl) ?_
  refine lv_iload_n hx hb dL_law_372 rfl (lv_at hl 3 rfl) ?_
  refine lv_iconst (v := 5) hx hb dL_law_373 (by decide) ?_
  refine lv_iadd hx hb dL_law_374 ?_
  refine x_sld hx hb hX hbl hbA hS (j := i + 5) (nI_add i 5) (by omega) (by omega) dL_law_375 ?_
  refine lv_i2l (v := (Int32.toInt64 (xs (i + 5)))) hx hb dL_law_376 rfl ?_
  refine lv_ldc2 hx hb hown (hU _ uK_L_21) dL_law_377 ?_
  refine lv_land hx hb dL_law_380 ?_
  refine lv_lor hx hb dL_law_381 ?_
  refine lcX (n := 3) (As := [.int (xs (i + 1)), .long ((lh (Int32.toInt64 (xs (i + 2))) 32) ||| ((Int32.toInt64 (xs (i + 3))) &&& 4294967295)), .long ((lh (Int32.toInt64 (xs (i + 4))) 32) ||| ((Int32.toInt64 (xs (i + 5))) &&& 4294967295))]) (rest := []) hF (c_X4_goal l k a S T dr tr C F G (xs (i + 1)) ((lh (Int32.toInt64 (xs (i + 2))) 32) ||| ((Int32.toInt64 (xs (i + 3))) &&& 4294967295)) ((lh (Int32.toInt64 (xs (i + 4))) 32) ||| ((Int32.toInt64 (xs (i + 5))) &&& 4294967295)) n hR.1 hR.2.1) hP hD hS hA hK 0 (ci := 4) rfl rfl rfl uC_X4_goal uN_X4 uM_L_32 uI_X4_goal uE_X4_goal (by decide +kernel) rfl ⟨Nat.le_of_ble_eq_true rfl, Nat.le_of_ble_eq_true rfl⟩ ⟨Nat.le_of_ble_eq_true rfl, Nat.le_of_ble_eq_true rfl⟩ hl.1 rfl (Nat.le_of_ble_eq_true rfl) dL_law_382 (fun H locs hP hD hS => ?_)
  refine lv_aload_n hx hb dL_law_385 rfl (lv_at hl 2 rfl) ?_
  refine lv_aload_n hx hb dL_law_386 rfl (lv_at hl 0 rfl) ?_
  refine lv_iload_n hx hb dL_law_387 rfl (lv_at hl 3 rfl) ?_
  refine lv_iconst (v := 1) hx hb dL_law_388 (by decide) ?_
  refine lv_iadd hx hb dL_law_389 ?_
  refine x_sld hx hb hX hbl hbA hS (j := i + 1) (nI_add i 1) (by omega) (by omega) dL_law_390 ?_
  refine lv_aload_n hx hb dL_law_391 rfl (lv_at hl 0 rfl) ?_
  refine lv_iload_n hx hb dL_law_392 rfl (lv_at hl 3 rfl) ?_
  refine lv_iconst (v := 2) hx hb dL_law_393 (by decide) ?_
  refine lv_iadd hx hb dL_law_394 ?_
  refine x_sld hx hb hX hbl hbA hS (j := i + 2) (nI_add i 2) (by omega) (by omega) dL_law_395 ?_
  refine lv_i2l (v := (Int32.toInt64 (xs (i + 2)))) hx hb dL_law_396 rfl ?_
  refine lv_bipush (v := 32) hx hb dL_law_397 (by decide) ?_
  refine lv_lshl (v := (lh (Int32.toInt64 (xs (i + 2))) 32)) hx hb dL_law_399 rfl ?_
  refine lv_aload_n hx hb dL_law_400 rfl (lv_at hl 0 rfl) ?_
  refine lv_iload_n hx hb dL_law_401 rfl (lv_at hl 3 rfl) ?_
  refine lv_iconst (v := 3) hx hb dL_law_402 (by decide) ?_
  refine lv_iadd hx hb dL_law_403 ?_
  refine x_sld hx hb hX hbl hbA hS (j := i + 3) (nI_add i 3) (by omega) (by omega) dL_law_404 ?_
  refine lv_i2l (v := (Int32.toInt64 (xs (i + 3)))) hx hb dL_law_405 rfl ?_
  refine lv_ldc2 hx hb hown (hU _ uK_L_21) dL_law_406 ?_
  refine lv_land hx hb dL_law_409 ?_
  refine lv_lor hx hb dL_law_410 ?_
  refine lv_aload_n hx hb dL_law_411 rfl (lv_at hl 0 rfl) ?_
  refine lv_iload_n hx hb dL_law_412 rfl (lv_at hl 3 rfl) ?_
  refine lv_iconst (v := 4) hx hb dL_law_413 (by decide) ?_
  refine lv_iadd hx hb dL_law_414 ?_
  refine x_sld hx hb hX hbl hbA hS (j := i + 4) (nI_add i 4) (by omega) (by omega) dL_law_415 ?_
  refine lv_i2l (v := (Int32.toInt64 (xs (i + 4)))) hx hb dL_law_416 rfl ?_
  refine lv_bipush (v := 32) hx hb dL_law_417 (by decide) ?_
  refine lv_lshl (v := (lh (Int32.toInt64 (xs (i + 4))) 32)) hx hb dL_law_419 rfl ?_
  refine lv_aload_n hx hb dL_law_420 rfl (lv_at hl 0 rfl) ?_
  refine lv_iload_n hx hb dL_law_421 rfl (lv_at hl 3 rfl) ?_
  refine lv_iconst (v := 5) hx hb dL_law_422 (by decide) ?_
  refine lv_iadd hx hb dL_law_423 ?_
  refine x_sld hx hb hX hbl hbA hS (j := i + 5) (nI_add i 5) (by omega) (by omega) dL_law_424 ?_
  refine lv_i2l (v := (Int32.toInt64 (xs (i + 5)))) hx hb dL_law_425 rfl ?_
  refine lv_ldc2 hx hb hown (hU _ uK_L_21) dL_law_426 ?_
  refine lv_land hx hb dL_law_429 ?_
  refine lv_lor hx hb dL_law_430 ?_
  refine lcM (n := 3) (As := [.int (xs (i + 1)), .long ((lh (Int32.toInt64 (xs (i + 2))) 32) ||| ((Int32.toInt64 (xs (i + 3))) &&& 4294967295)), .long ((lh (Int32.toInt64 (xs (i + 4))) 32) ||| ((Int32.toInt64 (xs (i + 5))) &&& 4294967295))]) (rest := [.int (w_X4_goal (xs (i + 1)) ((lh (Int32.toInt64 (xs (i + 2))) 32) ||| ((Int32.toInt64 (xs (i + 3))) &&& 4294967295)) ((lh (Int32.toInt64 (xs (i + 4))) 32) ||| ((Int32.toInt64 (xs (i + 5))) &&& 4294967295)))]) hF (c_X5_goal l k a2 M (xs (i + 1)) ((lh (Int32.toInt64 (xs (i + 2))) 32) ||| ((Int32.toInt64 (xs (i + 3))) &&& 4294967295)) ((lh (Int32.toInt64 (xs (i + 4))) 32) ||| ((Int32.toInt64 (xs (i + 5))) &&& 4294967295)) n hR.1 hR.2.2.1) hP hD hS hA hK 0 (ci := 5) rfl rfl rfl uC_X5_goal uN_X5 uM_L_36 uI_X5_goal uE_X5_goal (by decide +kernel) rfl ⟨Nat.le_of_ble_eq_true rfl, Nat.le_of_ble_eq_true rfl⟩ ⟨Nat.le_of_ble_eq_true rfl, Nat.le_of_ble_eq_true rfl⟩ hl.1 rfl (Nat.le_of_ble_eq_true rfl) dL_law_431 (fun H locs hP hD hS => ?_)
  obtain ⟨e1, n2, hR2⟩ := rl_goal hR T tr F (xs (i + 1)) ((lh (Int32.toInt64 (xs (i + 2))) 32) ||| ((Int32.toInt64 (xs (i + 3))) &&& 4294967295)) ((lh (Int32.toInt64 (xs (i + 4))) 32) ||| ((Int32.toInt64 (xs (i + 5))) &&& 4294967295))
  refine lv_icmp_eq (tgt := 1287) hx hb dL_law_434 (by decide) (fun c9 => ?_) (fun c9 => absurd e1 c9)
  refine lv_iinc (v := nI (i + 7)) (lv' := [(3, .int (nI (i + 7))), (0, .ref b), (1, .ref (a 0)), (2, .ref (a2 0))]) hx hb dL_law_1287 hl (k := 3) rfl (nI_add i 7) (by decide) rfl (fun ls hl => ?_)
  refine lv_goto (tgt := 30) hx hb dL_law_1290 (by decide) ?_
  exact ih _ _ _ _ _ _ _ _ n2 hR2 _ _ hP hD hS ls (lv_sub hl [1, 2, 3, 0] rfl)

set_option maxHeartbeats 4000000 in
set_option maxRecDepth 100000 in
theorem law_near {p : Program} {l : Launch} {e : Env} {s : State} {m : MethodId} {below : List Frame} {meth : Method} {c : Code} {k : KT} {a a2 : Nat → Nat} {b L i : Nat} {xs : Nat → Int32} (hL : L ≤ 3585) (C0 : lw_At p s m meth c b L xs) (hK : KK k s) (hi : i + 7 ≤ L) (ih : ∀ (S : SeaT) (T : TalT) (dr tr : Int64) (C : ChoT) (F : Nat → Int32) (G : GoT) (M : ModT) (n : Nat), Rl S C G dr M n → ∀ (H : Heap) (locs : List Loc), va_P k.1 vwCl (xW k a S T dr tr C F G ++ mW k a2 M) H → va_D (fun q : Nat => s.heap.size ≤ q) (xW k a S T dr tr C F G ++ mW k a2 M) → va_S (fun q : Nat => s.heap.size ≤ q) s.heap H locs → ∀ ls : Array Slot, lv_has ls 4 [(0, .ref b), (1, .ref (a 0)), (2, .ref (a2 0)), (3, .int (nI (i + 7)))] → W p l e room_1 s m #[Value.ref b] below meth c H locs 28 2553 (lw_Z below #[Value.ref b] s) (F0 m 30 ls [])) (S : SeaT) (T : TalT) (dr tr : Int64) (C : ChoT) (F : Nat → Int32) (G : GoT) (M : ModT) (n : Nat) (hR : Rl S C G dr M n) (H : Heap) (locs : List Loc) (hP : va_P k.1 vwCl (xW k a S T dr tr C F G ++ mW k a2 M) H) (hD : va_D (fun q : Nat => s.heap.size ≤ q) (xW k a S T dr tr C F G ++ mW k a2 M)) (hS : va_S (fun q : Nat => s.heap.size ≤ q) s.heap H locs) (ls : Array Slot) (hl : lv_has ls 4 [(0, .ref b), (1, .ref (a 0)), (2, .ref (a2 0)), (3, .int (nI i))]) : W p l e room_1 s m #[Value.ref b] below meth c H locs 28 2553 (lw_Z below #[Value.ref b] s) (F0 m 439 ls []) := by
  obtain ⟨hx, hb, hr, hml, hown, hts, hX, hbl, hlocks, hgv⟩ := C0
  have hU : ∀ w ∈ wsL_law, w.before #[Value.ref b] s = true := fun w h => hts w (wsL_law_in w h)
  have hF : CF p m c cL_law 4 s #[Value.ref b] RL := ⟨hx, hb, hml, hown, hU⟩
  have hA : ∀ q : Nat, s.heap.size ≤ q → (fun q : Nat => s.heap.size ≤ q) q := fun _ h => h
  have hbA : ¬ (fun q : Nat => s.heap.size ≤ q) b := Nat.not_le.mpr hbl
  refine lv_aload_n hx hb dL_law_439 rfl (lv_at hl 1 rfl) ?_
  refine lv_aload_n hx hb dL_law_440 rfl (lv_at hl 0 rfl) ?_
  refine lv_iload_n hx hb dL_law_441 rfl (lv_at hl 3 rfl) ?_
  refine lv_iconst (v := 1) hx hb dL_law_442 (by decide) ?_
  refine lv_iadd hx hb dL_law_443 ?_
  refine x_sld hx hb hX hbl hbA hS (j := i + 1) (nI_add i 1) (by omega) (by omega) dL_law_444 ?_
  refine lv_aload_n hx hb dL_law_445 rfl (lv_at hl 0 rfl) ?_
  refine lv_iload_n hx hb dL_law_446 rfl (lv_at hl 3 rfl) ?_
  refine lv_iconst (v := 2) hx hb dL_law_447 (by decide) ?_
  refine lv_iadd hx hb dL_law_448 ?_
  refine x_sld hx hb hX hbl hbA hS (j := i + 2) (nI_add i 2) (by omega) (by omega) dL_law_449 ?_
  refine lv_aload_n hx hb dL_law_450 rfl (lv_at hl 0 rfl) ?_
  refine lv_iload_n hx hb dL_law_451 rfl (lv_at hl 3 rfl) ?_
  refine lv_iconst (v := 3) hx hb dL_law_452 (by decide) ?_
  refine lv_iadd hx hb dL_law_453 ?_
  refine x_sld hx hb hX hbl hbA hS (j := i + 3) (nI_add i 3) (by omega) (by omega) dL_law_454 ?_
  refine lv_i2l (v := (Int32.toInt64 (xs (i + 3)))) hx hb dL_law_455 rfl ?_
  refine lv_bipush (v := 32) hx hb dL_law_456 (by decide) ?_
  refine lv_lshl (v := (lh (Int32.toInt64 (xs (i + 3))) 32)) hx hb dL_law_458 rfl ?_
  refine lv_aload_n hx hb dL_law_459 rfl (lv_at hl 0 rfl) ?_
  refine lv_iload_n hx hb dL_law_460 rfl (lv_at hl 3 rfl) ?_
  refine lv_iconst (v := 4) hx hb dL_law_461 (by decide) ?_
  refine lv_iadd hx hb dL_law_462 ?_
  refine x_sld hx hb hX hbl hbA hS (j := i + 4) (nI_add i 4) (by omega) (by omega) dL_law_463 ?_
  refine lv_i2l (v := (Int32.toInt64 (xs (i + 4)))) hx hb dL_law_464 rfl ?_
  refine lv_ldc2 hx hb hown (hU _ uK_L_21) dL_law_465 ?_
  refine lv_land hx hb dL_law_468 ?_
  refine lv_lor hx hb dL_law_469 ?_
  refine lcX (n := 3) (As := [.int (xs (i + 1)), .int (xs (i + 2)), .long ((lh (Int32.toInt64 (xs (i + 3))) 32) ||| ((Int32.toInt64 (xs (i + 4))) &&& 4294967295))]) (rest := []) hF (c_X4_near l k a S T dr tr C F G (xs (i + 1)) (xs (i + 2)) ((lh (Int32.toInt64 (xs (i + 3))) 32) ||| ((Int32.toInt64 (xs (i + 4))) &&& 4294967295)) n hR.1 hR.2.1) hP hD hS hA hK 0 (ci := 4) rfl rfl rfl uC_X4_near uN_X4 uM_L_37 uI_X4_near uE_X4_near (by decide +kernel) rfl ⟨Nat.le_of_ble_eq_true rfl, Nat.le_of_ble_eq_true rfl⟩ ⟨Nat.le_of_ble_eq_true rfl, Nat.le_of_ble_eq_true rfl⟩ hl.1 rfl (Nat.le_of_ble_eq_true rfl) dL_law_470 (fun H locs hP hD hS => ?_)
  refine lv_aload_n hx hb dL_law_473 rfl (lv_at hl 2 rfl) ?_
  refine lv_aload_n hx hb dL_law_474 rfl (lv_at hl 0 rfl) ?_
  refine lv_iload_n hx hb dL_law_475 rfl (lv_at hl 3 rfl) ?_
  refine lv_iconst (v := 1) hx hb dL_law_476 (by decide) ?_
  refine lv_iadd hx hb dL_law_477 ?_
  refine x_sld hx hb hX hbl hbA hS (j := i + 1) (nI_add i 1) (by omega) (by omega) dL_law_478 ?_
  refine lv_aload_n hx hb dL_law_479 rfl (lv_at hl 0 rfl) ?_
  refine lv_iload_n hx hb dL_law_480 rfl (lv_at hl 3 rfl) ?_
  refine lv_iconst (v := 2) hx hb dL_law_481 (by decide) ?_
  refine lv_iadd hx hb dL_law_482 ?_
  refine x_sld hx hb hX hbl hbA hS (j := i + 2) (nI_add i 2) (by omega) (by omega) dL_law_483 ?_
  refine lv_aload_n hx hb dL_law_484 rfl (lv_at hl 0 rfl) ?_
  refine lv_iload_n hx hb dL_law_485 rfl (lv_at hl 3 rfl) ?_
  refine lv_iconst (v := 3) hx hb dL_law_486 (by decide) ?_
  refine lv_iadd hx hb dL_law_487 ?_
  refine x_sld hx hb hX hbl hbA hS (j := i + 3) (nI_add i 3) (by omega) (by omega) dL_law_488 ?_
  refine lv_i2l (v := (Int32.toInt64 (xs (i + 3)))) hx hb dL_law_489 rfl ?_
  refine lv_bipush (v := 32) hx hb dL_law_490 (by decide) ?_
  refine lv_lshl (v := (lh (Int32.toInt64 (xs (i + 3))) 32)) hx hb dL_law_492 rfl ?_
  refine lv_aload_n hx hb dL_law_493 rfl (lv_at hl 0 rfl) ?_
  refine lv_iload_n hx hb dL_law_494 rfl (lv_at hl 3 rfl) ?_
  refine lv_iconst (v := 4) hx hb dL_law_495 (by decide) ?_
  refine lv_iadd hx hb dL_law_496 ?_
  refine x_sld hx hb hX hbl hbA hS (j := i + 4) (nI_add i 4) (by omega) (by omega) dL_law_497 ?_
  refine lv_i2l (v := (Int32.toInt64 (xs (i + 4)))) hx hb dL_law_498 rfl ?_
  refine lv_ldc2 hx hb hown (hU _ uK_L_21) dL_law_499 ?_
  refine lv_land hx hb dL_law_502 ?_
  refine lv_lor hx hb dL_law_503 ?_
  refine lcM (n := 3) (As := [.int (xs (i + 1)), .int (xs (i + 2)), .long ((lh (Int32.toInt64 (xs (i + 3))) 32) ||| ((Int32.toInt64 (xs (i + 4))) &&& 4294967295))]) (rest := [.int (w_X4_near S (xs (i + 1)) (xs (i + 2)) ((lh (Int32.toInt64 (xs (i + 3))) 32) ||| ((Int32.toInt64 (xs (i + 4))) &&& 4294967295)))]) hF (c_X5_near l k a2 M (xs (i + 1)) (xs (i + 2)) ((lh (Int32.toInt64 (xs (i + 3))) 32) ||| ((Int32.toInt64 (xs (i + 4))) &&& 4294967295)) n hR.1 hR.2.2.1) hP hD hS hA hK 0 (ci := 5) rfl rfl rfl uC_X5_near uN_X5 uM_L_41 uI_X5_near uE_X5_near (by decide +kernel) rfl ⟨Nat.le_of_ble_eq_true rfl, Nat.le_of_ble_eq_true rfl⟩ ⟨Nat.le_of_ble_eq_true rfl, Nat.le_of_ble_eq_true rfl⟩ hl.1 rfl (Nat.le_of_ble_eq_true rfl) dL_law_504 (fun H locs hP hD hS => ?_)
  obtain ⟨e1, n2, hR2⟩ := rl_near hR T tr F (xs (i + 1)) (xs (i + 2)) ((lh (Int32.toInt64 (xs (i + 3))) 32) ||| ((Int32.toInt64 (xs (i + 4))) &&& 4294967295))
  refine lv_icmp_eq (tgt := 1287) hx hb dL_law_507 (by decide) (fun c9 => ?_) (fun c9 => absurd e1 c9)
  refine lv_iinc (v := nI (i + 7)) (lv' := [(3, .int (nI (i + 7))), (0, .ref b), (1, .ref (a 0)), (2, .ref (a2 0))]) hx hb dL_law_1287 hl (k := 3) rfl (nI_add i 7) (by decide) rfl (fun ls hl => ?_)
  refine lv_goto (tgt := 30) hx hb dL_law_1290 (by decide) ?_
  exact ih _ _ _ _ _ _ _ _ n2 hR2 _ _ hP hD hS ls (lv_sub hl [1, 2, 3, 0] rfl)

set_option maxHeartbeats 4000000 in
set_option maxRecDepth 100000 in
theorem law_weight {p : Program} {l : Launch} {e : Env} {s : State} {m : MethodId} {below : List Frame} {meth : Method} {c : Code} {k : KT} {a a2 : Nat → Nat} {b L i : Nat} {xs : Nat → Int32} (hL : L ≤ 3585) (C0 : lw_At p s m meth c b L xs) (hK : KK k s) (hi : i + 7 ≤ L) (ih : ∀ (S : SeaT) (T : TalT) (dr tr : Int64) (C : ChoT) (F : Nat → Int32) (G : GoT) (M : ModT) (n : Nat), Rl S C G dr M n → ∀ (H : Heap) (locs : List Loc), va_P k.1 vwCl (xW k a S T dr tr C F G ++ mW k a2 M) H → va_D (fun q : Nat => s.heap.size ≤ q) (xW k a S T dr tr C F G ++ mW k a2 M) → va_S (fun q : Nat => s.heap.size ≤ q) s.heap H locs → ∀ ls : Array Slot, lv_has ls 4 [(0, .ref b), (1, .ref (a 0)), (2, .ref (a2 0)), (3, .int (nI (i + 7)))] → W p l e room_1 s m #[Value.ref b] below meth c H locs 28 2553 (lw_Z below #[Value.ref b] s) (F0 m 30 ls [])) (S : SeaT) (T : TalT) (dr tr : Int64) (C : ChoT) (F : Nat → Int32) (G : GoT) (M : ModT) (n : Nat) (hR : Rl S C G dr M n) (H : Heap) (locs : List Loc) (hP : va_P k.1 vwCl (xW k a S T dr tr C F G ++ mW k a2 M) H) (hD : va_D (fun q : Nat => s.heap.size ≤ q) (xW k a S T dr tr C F G ++ mW k a2 M)) (hS : va_S (fun q : Nat => s.heap.size ≤ q) s.heap H locs) (ls : Array Slot) (hl : lv_has ls 4 [(0, .ref b), (1, .ref (a 0)), (2, .ref (a2 0)), (3, .int (nI i))]) : W p l e room_1 s m #[Value.ref b] below meth c H locs 28 2553 (lw_Z below #[Value.ref b] s) (F0 m 512 ls []) := by
  obtain ⟨hx, hb, hr, hml, hown, hts, hX, hbl, hlocks, hgv⟩ := C0
  have hU : ∀ w ∈ wsL_law, w.before #[Value.ref b] s = true := fun w h => hts w (wsL_law_in w h)
  have hF : CF p m c cL_law 4 s #[Value.ref b] RL := ⟨hx, hb, hml, hown, hU⟩
  have hA : ∀ q : Nat, s.heap.size ≤ q → (fun q : Nat => s.heap.size ≤ q) q := fun _ h => h
  have hbA : ¬ (fun q : Nat => s.heap.size ≤ q) b := Nat.not_le.mpr hbl
  refine lv_aload_n hx hb dL_law_512 rfl (lv_at hl 1 rfl) ?_
  refine lv_aload_n hx hb dL_law_513 rfl (lv_at hl 0 rfl) ?_
  refine lv_iload_n hx hb dL_law_514 rfl (lv_at hl 3 rfl) ?_
  refine lv_iconst (v := 1) hx hb dL_law_515 (by decide) ?_
  refine lv_iadd hx hb dL_law_516 ?_
  refine x_sld hx hb hX hbl hbA hS (j := i + 1) (nI_add i 1) (by omega) (by omega) dL_law_517 ?_
  refine lv_i2l (v := (Int32.toInt64 (xs (i + 1)))) hx hb dL_law_518 rfl ?_
  refine lv_bipush (v := 32) hx hb dL_law_519 (by decide) ?_
  refine lv_lshl (v := (lh (Int32.toInt64 (xs (i + 1))) 32)) hx hb dL_law_521 rfl ?_
  refine lv_aload_n hx hb dL_law_522 rfl (lv_at hl 0 rfl) ?_
  refine lv_iload_n hx hb dL_law_523 rfl (lv_at hl 3 rfl) ?_
  refine lv_iconst (v := 2) hx hb dL_law_524 (by decide) ?_
  refine lv_iadd hx hb dL_law_525 ?_
  refine x_sld hx hb hX hbl hbA hS (j := i + 2) (nI_add i 2) (by omega) (by omega) dL_law_526 ?_
  refine lv_i2l (v := (Int32.toInt64 (xs (i + 2)))) hx hb dL_law_527 rfl ?_
  refine lv_ldc2 hx hb hown (hU _ uK_L_21) dL_law_528 ?_
  refine lv_land hx hb dL_law_531 ?_
  refine lv_lor hx hb dL_law_532 ?_
  refine lcX (n := 1) (As := [.long ((lh (Int32.toInt64 (xs (i + 1))) 32) ||| ((Int32.toInt64 (xs (i + 2))) &&& 4294967295))]) (rest := []) hF (c_X4_weight l k a S T dr tr C F G ((lh (Int32.toInt64 (xs (i + 1))) 32) ||| ((Int32.toInt64 (xs (i + 2))) &&& 4294967295)) n hR.1 hR.2.1) hP hD hS hA hK 0 (ci := 4) rfl rfl rfl uC_X4_weight uN_X4 uM_L_42 uI_X4_weight uE_X4_weight (by decide +kernel) rfl ⟨Nat.le_of_ble_eq_true rfl, Nat.le_of_ble_eq_true rfl⟩ ⟨Nat.le_of_ble_eq_true rfl, Nat.le_of_ble_eq_true rfl⟩ hl.1 rfl (Nat.le_of_ble_eq_true rfl) dL_law_533 (fun H locs hP hD hS => ?_)
  refine lv_aload_n hx hb dL_law_536 rfl (lv_at hl 2 rfl) ?_
  refine lv_aload_n hx hb dL_law_537 rfl (lv_at hl 0 rfl) ?_
  refine lv_iload_n hx hb dL_law_538 rfl (lv_at hl 3 rfl) ?_
  refine lv_iconst (v := 1) hx hb dL_law_539 (by decide) ?_
  refine lv_iadd hx hb dL_law_540 ?_
  refine x_sld hx hb hX hbl hbA hS (j := i + 1) (nI_add i 1) (by omega) (by omega) dL_law_541 ?_
  refine lv_i2l (v := (Int32.toInt64 (xs (i + 1)))) hx hb dL_law_542 rfl ?_
  refine lv_bipush (v := 32) hx hb dL_law_543 (by decide) ?_
  refine lv_lshl (v := (lh (Int32.toInt64 (xs (i + 1))) 32)) hx hb dL_law_545 rfl ?_
  refine lv_aload_n hx hb dL_law_546 rfl (lv_at hl 0 rfl) ?_
  refine lv_iload_n hx hb dL_law_547 rfl (lv_at hl 3 rfl) ?_
  refine lv_iconst (v := 2) hx hb dL_law_548 (by decide) ?_
  refine lv_iadd hx hb dL_law_549 ?_
  refine x_sld hx hb hX hbl hbA hS (j := i + 2) (nI_add i 2) (by omega) (by omega) dL_law_550 ?_
  refine lv_i2l (v := (Int32.toInt64 (xs (i + 2)))) hx hb dL_law_551 rfl ?_
  refine lv_ldc2 hx hb hown (hU _ uK_L_21) dL_law_552 ?_
  refine lv_land hx hb dL_law_555 ?_
  refine lv_lor hx hb dL_law_556 ?_
  refine lcM (n := 1) (As := [.long ((lh (Int32.toInt64 (xs (i + 1))) 32) ||| ((Int32.toInt64 (xs (i + 2))) &&& 4294967295))]) (rest := [.int (w_X4_weight ((lh (Int32.toInt64 (xs (i + 1))) 32) ||| ((Int32.toInt64 (xs (i + 2))) &&& 4294967295)))]) hF (c_X5_weight l k a2 M ((lh (Int32.toInt64 (xs (i + 1))) 32) ||| ((Int32.toInt64 (xs (i + 2))) &&& 4294967295)) n hR.1 hR.2.2.1) hP hD hS hA hK 0 (ci := 5) rfl rfl rfl uC_X5_weight uN_X5 uM_L_46 uI_X5_weight uE_X5_weight (by decide +kernel) rfl ⟨Nat.le_of_ble_eq_true rfl, Nat.le_of_ble_eq_true rfl⟩ ⟨Nat.le_of_ble_eq_true rfl, Nat.le_of_ble_eq_true rfl⟩ hl.1 rfl (Nat.le_of_ble_eq_true rfl) dL_law_557 (fun H locs hP hD hS => ?_)
  obtain ⟨e1, n2, hR2⟩ := rl_weight hR T tr F ((lh (Int32.toInt64 (xs (i + 1))) 32) ||| ((Int32.toInt64 (xs (i + 2))) &&& 4294967295))
  refine lv_icmp_eq (tgt := 1287) hx hb dL_law_560 (by decide) (fun c9 => ?_) (fun c9 => absurd e1 c9)
  refine lv_iinc (v := nI (i + 7)) (lv' := [(3, .int (nI (i + 7))), (0, .ref b), (1, .ref (a 0)), (2, .ref (a2 0))]) hx hb dL_law_1287 hl (k := 3) rfl (nI_add i 7) (by decide) rfl (fun ls hl => ?_)
  refine lv_goto (tgt := 30) hx hb dL_law_1290 (by decide) ?_
  exact ih _ _ _ _ _ _ _ _ n2 hR2 _ _ hP hD hS ls (lv_sub hl [1, 2, 3, 0] rfl)

set_option maxHeartbeats 4000000 in
set_option maxRecDepth 100000 in
theorem law_must {p : Program} {l : Launch} {e : Env} {s : State} {m : MethodId} {below : List Frame} {meth : Method} {c : Code} {k : KT} {a a2 : Nat → Nat} {b L i : Nat} {xs : Nat → Int32} (hL : L ≤ 3585) (C0 : lw_At p s m meth c b L xs) (hK : KK k s) (hi : i + 7 ≤ L) (ih : ∀ (S : SeaT) (T : TalT) (dr tr : Int64) (C : ChoT) (F : Nat → Int32) (G : GoT) (M : ModT) (n : Nat), Rl S C G dr M n → ∀ (H : Heap) (locs : List Loc), va_P k.1 vwCl (xW k a S T dr tr C F G ++ mW k a2 M) H → va_D (fun q : Nat => s.heap.size ≤ q) (xW k a S T dr tr C F G ++ mW k a2 M) → va_S (fun q : Nat => s.heap.size ≤ q) s.heap H locs → ∀ ls : Array Slot, lv_has ls 4 [(0, .ref b), (1, .ref (a 0)), (2, .ref (a2 0)), (3, .int (nI (i + 7)))] → W p l e room_1 s m #[Value.ref b] below meth c H locs 28 2553 (lw_Z below #[Value.ref b] s) (F0 m 30 ls [])) (S : SeaT) (T : TalT) (dr tr : Int64) (C : ChoT) (F : Nat → Int32) (G : GoT) (M : ModT) (n : Nat) (hR : Rl S C G dr M n) (H : Heap) (locs : List Loc) (hP : va_P k.1 vwCl (xW k a S T dr tr C F G ++ mW k a2 M) H) (hD : va_D (fun q : Nat => s.heap.size ≤ q) (xW k a S T dr tr C F G ++ mW k a2 M)) (hS : va_S (fun q : Nat => s.heap.size ≤ q) s.heap H locs) (ls : Array Slot) (hl : lv_has ls 4 [(0, .ref b), (1, .ref (a 0)), (2, .ref (a2 0)), (3, .int (nI i))]) : W p l e room_1 s m #[Value.ref b] below meth c H locs 28 2553 (lw_Z below #[Value.ref b] s) (F0 m 565 ls []) := by
  obtain ⟨hx, hb, hr, hml, hown, hts, hX, hbl, hlocks, hgv⟩ := C0
  have hU : ∀ w ∈ wsL_law, w.before #[Value.ref b] s = true := fun w h => hts w (wsL_law_in w h)
  have hF : CF p m c cL_law 4 s #[Value.ref b] RL := ⟨hx, hb, hml, hown, hU⟩
  have hA : ∀ q : Nat, s.heap.size ≤ q → (fun q : Nat => s.heap.size ≤ q) q := fun _ h => h
  have hbA : ¬ (fun q : Nat => s.heap.size ≤ q) b := Nat.not_le.mpr hbl
  refine lv_aload_n hx hb dL_law_565 rfl (lv_at hl 1 rfl) ?_
  refine lv_aload_n hx hb dL_law_566 rfl (lv_at hl 0 rfl) ?_
  refine lv_iload_n hx hb dL_law_567 rfl (lv_at hl 3 rfl) ?_
  refine lv_iconst (v := 1) hx hb dL_law_568 (by decide) ?_
  refine lv_iadd hx hb dL_law_569 ?_
  refine x_sld hx hb hX hbl hbA hS (j := i + 1) (nI_add i 1) (by omega) (by omega) dL_law_570 ?_
  refine lcX (n := 1) (As := [.int (xs (i + 1))]) (rest := []) hF (c_X4_must l k a S T dr tr C F G (xs (i + 1)) n hR.1 hR.2.1) hP hD hS hA hK 0 (ci := 4) rfl rfl rfl uC_X4_must uN_X4 uM_L_47 uI_X4_must uE_X4_must (by decide +kernel) rfl ⟨Nat.le_of_ble_eq_true rfl, Nat.le_of_ble_eq_true rfl⟩ ⟨Nat.le_of_ble_eq_true rfl, Nat.le_of_ble_eq_true rfl⟩ hl.1 rfl (Nat.le_of_ble_eq_true rfl) dL_law_571 (fun H locs hP hD hS => ?_)
  refine lv_aload_n hx hb dL_law_574 rfl (lv_at hl 2 rfl) ?_
  refine lv_aload_n hx hb dL_law_575 rfl (lv_at hl 0 rfl) ?_
  refine lv_iload_n hx hb dL_law_576 rfl (lv_at hl 3 rfl) ?_
  refine lv_iconst (v := 1) hx hb dL_law_577 (by decide) ?_
  refine lv_iadd hx hb dL_law_578 ?_
  refine x_sld hx hb hX hbl hbA hS (j := i + 1) (nI_add i 1) (by omega) (by omega) dL_law_579 ?_
  refine lcM (n := 1) (As := [.int (xs (i + 1))]) (rest := [.int (w_X4_must S (xs (i + 1)))]) hF (c_X5_must l k a2 M (xs (i + 1)) n hR.1 hR.2.2.1) hP hD hS hA hK 0 (ci := 5) rfl rfl rfl uC_X5_must uN_X5 uM_L_51 uI_X5_must uE_X5_must (by decide +kernel) rfl ⟨Nat.le_of_ble_eq_true rfl, Nat.le_of_ble_eq_true rfl⟩ ⟨Nat.le_of_ble_eq_true rfl, Nat.le_of_ble_eq_true rfl⟩ hl.1 rfl (Nat.le_of_ble_eq_true rfl) dL_law_580 (fun H locs hP hD hS => ?_)
  obtain ⟨e1, n2, hR2⟩ := rl_must hR T tr F (xs (i + 1))
  refine lv_icmp_eq (tgt := 1287) hx hb dL_law_583 (by decide) (fun c9 => ?_) (fun c9 => absurd e1 c9)
  refine lv_iinc (v := nI (i + 7)) (lv' := [(3, .int (nI (i + 7))), (0, .ref b), (1, .ref (a 0)), (2, .ref (a2 0))]) hx hb dL_law_1287 hl (k := 3) rfl (nI_add i 7) (by decide) rfl (fun ls hl => ?_)
  refine lv_goto (tgt := 30) hx hb dL_law_1290 (by decide) ?_
  exact ih _ _ _ _ _ _ _ _ n2 hR2 _ _ hP hD hS ls (lv_sub hl [1, 2, 3, 0] rfl)

set_option maxHeartbeats 4000000 in
set_option maxRecDepth 100000 in
theorem law_bar {p : Program} {l : Launch} {e : Env} {s : State} {m : MethodId} {below : List Frame} {meth : Method} {c : Code} {k : KT} {a a2 : Nat → Nat} {b L i : Nat} {xs : Nat → Int32} (hL : L ≤ 3585) (C0 : lw_At p s m meth c b L xs) (hK : KK k s) (hi : i + 7 ≤ L) (ih : ∀ (S : SeaT) (T : TalT) (dr tr : Int64) (C : ChoT) (F : Nat → Int32) (G : GoT) (M : ModT) (n : Nat), Rl S C G dr M n → ∀ (H : Heap) (locs : List Loc), va_P k.1 vwCl (xW k a S T dr tr C F G ++ mW k a2 M) H → va_D (fun q : Nat => s.heap.size ≤ q) (xW k a S T dr tr C F G ++ mW k a2 M) → va_S (fun q : Nat => s.heap.size ≤ q) s.heap H locs → ∀ ls : Array Slot, lv_has ls 4 [(0, .ref b), (1, .ref (a 0)), (2, .ref (a2 0)), (3, .int (nI (i + 7)))] → W p l e room_1 s m #[Value.ref b] below meth c H locs 28 2553 (lw_Z below #[Value.ref b] s) (F0 m 30 ls [])) (S : SeaT) (T : TalT) (dr tr : Int64) (C : ChoT) (F : Nat → Int32) (G : GoT) (M : ModT) (n : Nat) (hR : Rl S C G dr M n) (H : Heap) (locs : List Loc) (hP : va_P k.1 vwCl (xW k a S T dr tr C F G ++ mW k a2 M) H) (hD : va_D (fun q : Nat => s.heap.size ≤ q) (xW k a S T dr tr C F G ++ mW k a2 M)) (hS : va_S (fun q : Nat => s.heap.size ≤ q) s.heap H locs) (ls : Array Slot) (hl : lv_has ls 4 [(0, .ref b), (1, .ref (a 0)), (2, .ref (a2 0)), (3, .int (nI i))]) : W p l e room_1 s m #[Value.ref b] below meth c H locs 28 2553 (lw_Z below #[Value.ref b] s) (F0 m 588 ls []) := by
  obtain ⟨hx, hb, hr, hml, hown, hts, hX, hbl, hlocks, hgv⟩ := C0
  have hU : ∀ w ∈ wsL_law, w.before #[Value.ref b] s = true := fun w h => hts w (wsL_law_in w h)
  have hF : CF p m c cL_law 4 s #[Value.ref b] RL := ⟨hx, hb, hml, hown, hU⟩
  have hA : ∀ q : Nat, s.heap.size ≤ q → (fun q : Nat => s.heap.size ≤ q) q := fun _ h => h
  have hbA : ¬ (fun q : Nat => s.heap.size ≤ q) b := Nat.not_le.mpr hbl
  refine lv_aload_n hx hb dL_law_588 rfl (lv_at hl 1 rfl) ?_
  refine lv_aload_n hx hb dL_law_589 rfl (lv_at hl 0 rfl) ?_
  refine lv_iload_n hx hb dL_law_590 rfl (lv_at hl 3 rfl) ?_
  refine lv_iconst (v := 1) hx hb dL_law_591 (by decide) ?_
  refine lv_iadd hx hb dL_law_592 ?_
  refine x_sld hx hb hX hbl hbA hS (j := i + 1) (nI_add i 1) (by omega) (by omega) dL_law_593 ?_
  refine lcX (n := 1) (As := [.int (xs (i + 1))]) (rest := []) hF (c_X4_bar l k a S T dr tr C F G (xs (i + 1)) n hR.1 hR.2.1) hP hD hS hA hK 0 (ci := 4) rfl rfl rfl uC_X4_bar uN_X4 uM_L_52 uI_X4_bar uE_X4_bar (by decide +kernel) rfl ⟨Nat.le_of_ble_eq_true rfl, Nat.le_of_ble_eq_true rfl⟩ ⟨Nat.le_of_ble_eq_true rfl, Nat.le_of_ble_eq_true rfl⟩ hl.1 rfl (Nat.le_of_ble_eq_true rfl) dL_law_594 (fun H locs hP hD hS => ?_)
  refine lv_aload_n hx hb dL_law_597 rfl (lv_at hl 2 rfl) ?_
  refine lv_aload_n hx hb dL_law_598 rfl (lv_at hl 0 rfl) ?_
  refine lv_iload_n hx hb dL_law_599 rfl (lv_at hl 3 rfl) ?_
  refine lv_iconst (v := 1) hx hb dL_law_600 (by decide) ?_
  refine lv_iadd hx hb dL_law_601 ?_
  refine x_sld hx hb hX hbl hbA hS (j := i + 1) (nI_add i 1) (by omega) (by omega) dL_law_602 ?_
  refine lcM (n := 1) (As := [.int (xs (i + 1))]) (rest := [.int (w_X4_bar S (xs (i + 1)))]) hF (c_X5_bar l k a2 M (xs (i + 1)) n hR.1 hR.2.2.1) hP hD hS hA hK 0 (ci := 5) rfl rfl rfl uC_X5_bar uN_X5 uM_L_55 uI_X5_bar uE_X5_bar (by decide +kernel) rfl ⟨Nat.le_of_ble_eq_true rfl, Nat.le_of_ble_eq_true rfl⟩ ⟨Nat.le_of_ble_eq_true rfl, Nat.le_of_ble_eq_true rfl⟩ hl.1 rfl (Nat.le_of_ble_eq_true rfl) dL_law_603 (fun H locs hP hD hS => ?_)
  obtain ⟨e1, n2, hR2⟩ := rl_bar hR T tr F (xs (i + 1))
  refine lv_icmp_eq (tgt := 1287) hx hb dL_law_606 (by decide) (fun c9 => ?_) (fun c9 => absurd e1 c9)
  refine lv_iinc (v := nI (i + 7)) (lv' := [(3, .int (nI (i + 7))), (0, .ref b), (1, .ref (a 0)), (2, .ref (a2 0))]) hx hb dL_law_1287 hl (k := 3) rfl (nI_add i 7) (by decide) rfl (fun ls hl => ?_)
  refine lv_goto (tgt := 30) hx hb dL_law_1290 (by decide) ?_
  exact ih _ _ _ _ _ _ _ _ n2 hR2 _ _ hP hD hS ls (lv_sub hl [1, 2, 3, 0] rfl)

set_option maxHeartbeats 4000000 in
set_option maxRecDepth 100000 in
theorem law_zone {p : Program} {l : Launch} {e : Env} {s : State} {m : MethodId} {below : List Frame} {meth : Method} {c : Code} {k : KT} {a a2 : Nat → Nat} {b L i : Nat} {xs : Nat → Int32} (hL : L ≤ 3585) (C0 : lw_At p s m meth c b L xs) (hK : KK k s) (hi : i + 7 ≤ L) (ih : ∀ (S : SeaT) (T : TalT) (dr tr : Int64) (C : ChoT) (F : Nat → Int32) (G : GoT) (M : ModT) (n : Nat), Rl S C G dr M n → ∀ (H : Heap) (locs : List Loc), va_P k.1 vwCl (xW k a S T dr tr C F G ++ mW k a2 M) H → va_D (fun q : Nat => s.heap.size ≤ q) (xW k a S T dr tr C F G ++ mW k a2 M) → va_S (fun q : Nat => s.heap.size ≤ q) s.heap H locs → ∀ ls : Array Slot, lv_has ls 4 [(0, .ref b), (1, .ref (a 0)), (2, .ref (a2 0)), (3, .int (nI (i + 7)))] → W p l e room_1 s m #[Value.ref b] below meth c H locs 28 2553 (lw_Z below #[Value.ref b] s) (F0 m 30 ls [])) (S : SeaT) (T : TalT) (dr tr : Int64) (C : ChoT) (F : Nat → Int32) (G : GoT) (M : ModT) (n : Nat) (hR : Rl S C G dr M n) (H : Heap) (locs : List Loc) (hP : va_P k.1 vwCl (xW k a S T dr tr C F G ++ mW k a2 M) H) (hD : va_D (fun q : Nat => s.heap.size ≤ q) (xW k a S T dr tr C F G ++ mW k a2 M)) (hS : va_S (fun q : Nat => s.heap.size ≤ q) s.heap H locs) (ls : Array Slot) (hl : lv_has ls 4 [(0, .ref b), (1, .ref (a 0)), (2, .ref (a2 0)), (3, .int (nI i))]) : W p l e room_1 s m #[Value.ref b] below meth c H locs 28 2553 (lw_Z below #[Value.ref b] s) (F0 m 611 ls []) := by
  obtain ⟨hx, hb, hr, hml, hown, hts, hX, hbl, hlocks, hgv⟩ := C0
  have hU : ∀ w ∈ wsL_law, w.before #[Value.ref b] s = true := fun w h => hts w (wsL_law_in w h)
  have hF : CF p m c cL_law 4 s #[Value.ref b] RL := ⟨hx, hb, hml, hown, hU⟩
  have hA : ∀ q : Nat, s.heap.size ≤ q → (fun q : Nat => s.heap.size ≤ q) q := fun _ h => h
  have hbA : ¬ (fun q : Nat => s.heap.size ≤ q) b := Nat.not_le.mpr hbl
  refine lv_aload_n hx hb dL_law_611 rfl (lv_at hl 1 rfl) ?_
  refine lv_aload_n hx hb dL_law_612 rfl (lv_at hl 0 rfl) ?_
  refine lv_iload_n hx hb dL_law_613 rfl (lv_at hl 3 rfl) ?_
  refine lv_iconst (v := 1) hx hb dL_law_614 (by decide) ?_
  refine lv_iadd hx hb dL_law_615 ?_
  refine x_sld hx hb hX hbl hbA hS (j := i + 1) (nI_add i 1) (by omega) (by omega) dL_law_616 ?_
  refine lv_aload_n hx hb dL_law_617 rfl (lv_at hl 0 rfl) ?_
  refine lv_iload_n hx hb dL_law_618 rfl (lv_at hl 3 rfl) ?_
  refine lv_iconst (v := 2) hx hb dL_law_619 (by decide) ?_
  refine lv_iadd hx hb dL_law_620 ?_
  refine x_sld hx hb hX hbl hbA hS (j := i + 2) (nI_add i 2) (by omega) (by omega) dL_law_621 ?_
  refine rcV (n := 2) (As := [.int (xs (i + 1)), .int (xs (i + 2))]) (rest := []) hF (c_X4_zone l k a S T dr tr C F G (xs (i + 1)) (xs (i + 2)) n hR.1 hR.2.1) (P_l hP) hK 0 (ci := 4) rfl rfl rfl uC_X4_zone uN_X4 uM_L_56 uI_X4_zone uE_X4_zone (by decide +kernel) rfl ⟨Nat.le_of_ble_eq_true rfl, Nat.le_of_ble_eq_true rfl⟩ ⟨Nat.le_of_ble_eq_true rfl, Nat.le_of_ble_eq_true rfl⟩ hl.1 rfl (Nat.le_of_ble_eq_true rfl) dL_law_622 ?_
  refine lv_aload_n hx hb dL_law_625 rfl (lv_at hl 2 rfl) ?_
  refine lv_aload_n hx hb dL_law_626 rfl (lv_at hl 0 rfl) ?_
  refine lv_iload_n hx hb dL_law_627 rfl (lv_at hl 3 rfl) ?_
  refine lv_iconst (v := 1) hx hb dL_law_628 (by decide) ?_
  refine lv_iadd hx hb dL_law_629 ?_
  refine x_sld hx hb hX hbl hbA hS (j := i + 1) (nI_add i 1) (by omega) (by omega) dL_law_630 ?_
  refine lv_aload_n hx hb dL_law_631 rfl (lv_at hl 0 rfl) ?_
  refine lv_iload_n hx hb dL_law_632 rfl (lv_at hl 3 rfl) ?_
  refine lv_iconst (v := 2) hx hb dL_law_633 (by decide) ?_
  refine lv_iadd hx hb dL_law_634 ?_
  refine x_sld hx hb hX hbl hbA hS (j := i + 2) (nI_add i 2) (by omega) (by omega) dL_law_635 ?_
  refine rcV (n := 2) (As := [.int (xs (i + 1)), .int (xs (i + 2))]) (rest := [.int (w_X4_zone S C (xs (i + 1)) (xs (i + 2)) n)]) hF (c_X5_zone l k a2 M (xs (i + 1)) (xs (i + 2)) n hR.1 hR.2.2.1) (P_r hP) hK 0 (ci := 5) rfl rfl rfl uC_X5_zone uN_X5 uM_L_60 uI_X5_zone uE_X5_zone (by decide +kernel) rfl ⟨Nat.le_of_ble_eq_true rfl, Nat.le_of_ble_eq_true rfl⟩ ⟨Nat.le_of_ble_eq_true rfl, Nat.le_of_ble_eq_true rfl⟩ hl.1 rfl (Nat.le_of_ble_eq_true rfl) dL_law_636 ?_
  obtain ⟨e1, n2, hR2⟩ := rl_zone hR T tr F (xs (i + 1)) (xs (i + 2))
  refine lv_icmp_eq (tgt := 1287) hx hb dL_law_639 (by decide) (fun c9 => ?_) (fun c9 => absurd e1 c9)
  refine lv_iinc (v := nI (i + 7)) (lv' := [(3, .int (nI (i + 7))), (0, .ref b), (1, .ref (a 0)), (2, .ref (a2 0))]) hx hb dL_law_1287 hl (k := 3) rfl (nI_add i 7) (by decide) rfl (fun ls hl => ?_)
  refine lv_goto (tgt := 30) hx hb dL_law_1290 (by decide) ?_
  exact ih _ _ _ _ _ _ _ _ n2 hR2 _ _ hP hD hS ls (lv_sub hl [1, 2, 3, 0] rfl)

set_option maxHeartbeats 4000000 in
set_option maxRecDepth 100000 in
theorem law_run {p : Program} {l : Launch} {e : Env} {s : State} {m : MethodId} {below : List Frame} {meth : Method} {c : Code} {k : KT} {a a2 : Nat → Nat} {b L i : Nat} {xs : Nat → Int32} (hL : L ≤ 3585) (C0 : lw_At p s m meth c b L xs) (hK : KK k s) (hi : i + 7 ≤ L) (ih : ∀ (S : SeaT) (T : TalT) (dr tr : Int64) (C : ChoT) (F : Nat → Int32) (G : GoT) (M : ModT) (n : Nat), Rl S C G dr M n → ∀ (H : Heap) (locs : List Loc), va_P k.1 vwCl (xW k a S T dr tr C F G ++ mW k a2 M) H → va_D (fun q : Nat => s.heap.size ≤ q) (xW k a S T dr tr C F G ++ mW k a2 M) → va_S (fun q : Nat => s.heap.size ≤ q) s.heap H locs → ∀ ls : Array Slot, lv_has ls 4 [(0, .ref b), (1, .ref (a 0)), (2, .ref (a2 0)), (3, .int (nI (i + 7)))] → W p l e room_1 s m #[Value.ref b] below meth c H locs 28 2553 (lw_Z below #[Value.ref b] s) (F0 m 30 ls [])) (S : SeaT) (T : TalT) (dr tr : Int64) (C : ChoT) (F : Nat → Int32) (G : GoT) (M : ModT) (n : Nat) (hR : Rl S C G dr M n) (H : Heap) (locs : List Loc) (hP : va_P k.1 vwCl (xW k a S T dr tr C F G ++ mW k a2 M) H) (hD : va_D (fun q : Nat => s.heap.size ≤ q) (xW k a S T dr tr C F G ++ mW k a2 M)) (hS : va_S (fun q : Nat => s.heap.size ≤ q) s.heap H locs) (ls : Array Slot) (hl : lv_has ls 4 [(0, .ref b), (1, .ref (a 0)), (2, .ref (a2 0)), (3, .int (nI i))]) : W p l e room_1 s m #[Value.ref b] below meth c H locs 28 2553 (lw_Z below #[Value.ref b] s) (F0 m 644 ls []) := by
  obtain ⟨hx, hb, hr, hml, hown, hts, hX, hbl, hlocks, hgv⟩ := C0
  have hU : ∀ w ∈ wsL_law, w.before #[Value.ref b] s = true := fun w h => hts w (wsL_law_in w h)
  have hF : CF p m c cL_law 4 s #[Value.ref b] RL := ⟨hx, hb, hml, hown, hU⟩
  have hA : ∀ q : Nat, s.heap.size ≤ q → (fun q : Nat => s.heap.size ≤ q) q := fun _ h => h
  have hbA : ¬ (fun q : Nat => s.heap.size ≤ q) b := Nat.not_le.mpr hbl
  refine lv_aload_n hx hb dL_law_644 rfl (lv_at hl 1 rfl) ?_
  refine lv_aload_n hx hb dL_law_645 rfl (lv_at hl 0 rfl) ?_
  refine lv_iload_n hx hb dL_law_646 rfl (lv_at hl 3 rfl) ?_
  refine lv_iconst (v := 1) hx hb dL_law_647 (by decide) ?_
  refine lv_iadd hx hb dL_law_648 ?_
  refine x_sld hx hb hX hbl hbA hS (j := i + 1) (nI_add i 1) (by omega) (by omega) dL_law_649 ?_
  refine lv_i2l (v := (Int32.toInt64 (xs (i + 1)))) hx hb dL_law_650 rfl ?_
  refine lv_bipush (v := 32) hx hb dL_law_651 (by decide) ?_
  refine lv_lshl (v := (lh (Int32.toInt64 (xs (i + 1))) 32)) hx hb dL_law_653 rfl ?_
  refine lv_aload_n hx hb dL_law_654 rfl (lv_at hl 0 rfl) ?_
  refine lv_iload_n hx hb dL_law_655 rfl (lv_at hl 3 rfl) ?_
  refine lv_iconst (v := 2) hx hb dL_law_656 (by decide) ?_
  refine lv_iadd hx hb dL_law_657 ?_
  refine x_sld hx hb hX hbl hbA hS (j := i + 2) (nI_add i 2) (by omega) (by omega) dL_law_658 ?_
  refine lv_i2l (v := (Int32.toInt64 (xs (i + 2)))) hx hb dL_law_659 rfl ?_
  refine lv_ldc2 hx hb hown (hU _ uK_L_21) dL_law_660 ?_
  refine lv_land hx hb dL_law_663 ?_
  refine lv_lor hx hb dL_law_664 ?_
  refine lcX (n := 1) (As := [.long ((lh (Int32.toInt64 (xs (i + 1))) 32) ||| ((Int32.toInt64 (xs (i + 2))) &&& 4294967295))]) (rest := []) hF (c_X4_run l k a S T dr tr C F G ((lh (Int32.toInt64 (xs (i + 1))) 32) ||| ((Int32.toInt64 (xs (i + 2))) &&& 4294967295)) n hR.1 hR.2.1 (rl_hbc hR)) hP hD hS hA hK 0 (ci := 4) rfl rfl rfl uC_X4_run uN_X4 uM_L_61 uI_X4_run uE_X4_run (by decide +kernel) rfl ⟨Nat.le_of_ble_eq_true rfl, Nat.le_of_ble_eq_true rfl⟩ ⟨Nat.le_of_ble_eq_true rfl, Nat.le_of_ble_eq_true rfl⟩ hl.1 rfl (Nat.le_of_ble_eq_true rfl) dL_law_665 (fun H locs hP hD hS => ?_)
  refine lv_aload_n hx hb dL_law_668 rfl (lv_at hl 2 rfl) ?_
  refine lv_aload_n hx hb dL_law_669 rfl (lv_at hl 0 rfl) ?_
  refine lv_iload_n hx hb dL_law_670 rfl (lv_at hl 3 rfl) ?_
  refine lv_iconst (v := 1) hx hb dL_law_671 (by decide) ?_
  refine lv_iadd hx hb dL_law_672 ?_
  refine x_sld hx hb hX hbl hbA hS (j := i + 1) (nI_add i 1) (by omega) (by omega) dL_law_673 ?_
  refine lv_i2l (v := (Int32.toInt64 (xs (i + 1)))) hx hb dL_law_674 rfl ?_
  refine lv_bipush (v := 32) hx hb dL_law_675 (by decide) ?_
  refine lv_lshl (v := (lh (Int32.toInt64 (xs (i + 1))) 32)) hx hb dL_law_677 rfl ?_
  refine lv_aload_n hx hb dL_law_678 rfl (lv_at hl 0 rfl) ?_
  refine lv_iload_n hx hb dL_law_679 rfl (lv_at hl 3 rfl) ?_
  refine lv_iconst (v := 2) hx hb dL_law_680 (by decide) ?_
  refine lv_iadd hx hb dL_law_681 ?_
  refine x_sld hx hb hX hbl hbA hS (j := i + 2) (nI_add i 2) (by omega) (by omega) dL_law_682 ?_
  refine lv_i2l (v := (Int32.toInt64 (xs (i + 2)))) hx hb dL_law_683 rfl ?_
  refine lv_ldc2 hx hb hown (hU _ uK_L_21) dL_law_684 ?_
  refine lv_land hx hb dL_law_687 ?_
  refine lv_lor hx hb dL_law_688 ?_
  refine lcM (n := 1) (As := [.long ((lh (Int32.toInt64 (xs (i + 1))) 32) ||| ((Int32.toInt64 (xs (i + 2))) &&& 4294967295))]) (rest := [.int (w_X4_run S T C ((lh (Int32.toInt64 (xs (i + 1))) 32) ||| ((Int32.toInt64 (xs (i + 2))) &&& 4294967295)) n)]) hF (c_X5_run l k a2 M ((lh (Int32.toInt64 (xs (i + 1))) 32) ||| ((Int32.toInt64 (xs (i + 2))) &&& 4294967295)) n hR.1 hR.2.2.1) hP hD hS hA hK 0 (ci := 5) rfl rfl rfl uC_X5_run uN_X5 uM_L_64 uI_X5_run uE_X5_run (by decide +kernel) rfl ⟨Nat.le_of_ble_eq_true rfl, Nat.le_of_ble_eq_true rfl⟩ ⟨Nat.le_of_ble_eq_true rfl, Nat.le_of_ble_eq_true rfl⟩ hl.1 rfl (Nat.le_of_ble_eq_true rfl) dL_law_689 (fun H locs hP hD hS => ?_)
  obtain ⟨e1, n2, hR2⟩ := rl_run hR T tr F ((lh (Int32.toInt64 (xs (i + 1))) 32) ||| ((Int32.toInt64 (xs (i + 2))) &&& 4294967295))
  refine lv_icmp_eq (tgt := 1287) hx hb dL_law_692 (by decide) (fun c9 => ?_) (fun c9 => absurd e1 c9)
  refine lv_iinc (v := nI (i + 7)) (lv' := [(3, .int (nI (i + 7))), (0, .ref b), (1, .ref (a 0)), (2, .ref (a2 0))]) hx hb dL_law_1287 hl (k := 3) rfl (nI_add i 7) (by decide) rfl (fun ls hl => ?_)
  refine lv_goto (tgt := 30) hx hb dL_law_1290 (by decide) ?_
  exact ih _ _ _ _ _ _ _ _ n2 hR2 _ _ hP hD hS ls (lv_sub hl [1, 2, 3, 0] rfl)

set_option maxHeartbeats 4000000 in
set_option maxRecDepth 100000 in
theorem law_chosen {p : Program} {l : Launch} {e : Env} {s : State} {m : MethodId} {below : List Frame} {meth : Method} {c : Code} {k : KT} {a a2 : Nat → Nat} {b L i : Nat} {xs : Nat → Int32} (hL : L ≤ 3585) (C0 : lw_At p s m meth c b L xs) (hK : KK k s) (hi : i + 7 ≤ L) (ih : ∀ (S : SeaT) (T : TalT) (dr tr : Int64) (C : ChoT) (F : Nat → Int32) (G : GoT) (M : ModT) (n : Nat), Rl S C G dr M n → ∀ (H : Heap) (locs : List Loc), va_P k.1 vwCl (xW k a S T dr tr C F G ++ mW k a2 M) H → va_D (fun q : Nat => s.heap.size ≤ q) (xW k a S T dr tr C F G ++ mW k a2 M) → va_S (fun q : Nat => s.heap.size ≤ q) s.heap H locs → ∀ ls : Array Slot, lv_has ls 4 [(0, .ref b), (1, .ref (a 0)), (2, .ref (a2 0)), (3, .int (nI (i + 7)))] → W p l e room_1 s m #[Value.ref b] below meth c H locs 28 2553 (lw_Z below #[Value.ref b] s) (F0 m 30 ls [])) (S : SeaT) (T : TalT) (dr tr : Int64) (C : ChoT) (F : Nat → Int32) (G : GoT) (M : ModT) (n : Nat) (hR : Rl S C G dr M n) (H : Heap) (locs : List Loc) (hP : va_P k.1 vwCl (xW k a S T dr tr C F G ++ mW k a2 M) H) (hD : va_D (fun q : Nat => s.heap.size ≤ q) (xW k a S T dr tr C F G ++ mW k a2 M)) (hS : va_S (fun q : Nat => s.heap.size ≤ q) s.heap H locs) (ls : Array Slot) (hl : lv_has ls 4 [(0, .ref b), (1, .ref (a 0)), (2, .ref (a2 0)), (3, .int (nI i))]) : W p l e room_1 s m #[Value.ref b] below meth c H locs 28 2553 (lw_Z below #[Value.ref b] s) (F0 m 697 ls []) := by
  obtain ⟨hx, hb, hr, hml, hown, hts, hX, hbl, hlocks, hgv⟩ := C0
  have hU : ∀ w ∈ wsL_law, w.before #[Value.ref b] s = true := fun w h => hts w (wsL_law_in w h)
  have hF : CF p m c cL_law 4 s #[Value.ref b] RL := ⟨hx, hb, hml, hown, hU⟩
  have hA : ∀ q : Nat, s.heap.size ≤ q → (fun q : Nat => s.heap.size ≤ q) q := fun _ h => h
  have hbA : ¬ (fun q : Nat => s.heap.size ≤ q) b := Nat.not_le.mpr hbl
  refine lv_aload_n hx hb dL_law_697 rfl (lv_at hl 1 rfl) ?_
  refine lv_aload_n hx hb dL_law_698 rfl (lv_at hl 0 rfl) ?_
  refine lv_iload_n hx hb dL_law_699 rfl (lv_at hl 3 rfl) ?_
  refine lv_iconst (v := 1) hx hb dL_law_700 (by decide) ?_
  refine lv_iadd hx hb dL_law_701 ?_
  refine x_sld hx hb hX hbl hbA hS (j := i + 1) (nI_add i 1) (by omega) (by omega) dL_law_702 ?_
  refine rcV (n := 1) (As := [.int (xs (i + 1))]) (rest := []) hF (c_X4_chosen l k a S T dr tr C F G (xs (i + 1)) n hR.1 hR.2.1) (P_l hP) hK 0 (ci := 4) rfl rfl rfl uC_X4_chosen uN_X4 uM_L_65 uI_X4_chosen uE_X4_chosen (by decide +kernel) rfl ⟨Nat.le_of_ble_eq_true rfl, Nat.le_of_ble_eq_true rfl⟩ ⟨Nat.le_of_ble_eq_true rfl, Nat.le_of_ble_eq_true rfl⟩ hl.1 rfl (Nat.le_of_ble_eq_true rfl) dL_law_703 ?_
  refine lv_aload_n hx hb dL_law_706 rfl (lv_at hl 2 rfl) ?_
  refine lv_aload_n hx hb dL_law_707 rfl (lv_at hl 0 rfl) ?_
  refine lv_iload_n hx hb dL_law_708 rfl (lv_at hl 3 rfl) ?_
  refine lv_iconst (v := 1) hx hb dL_law_709 (by decide) ?_
  refine lv_iadd hx hb dL_law_710 ?_
  refine x_sld hx hb hX hbl hbA hS (j := i + 1) (nI_add i 1) (by omega) (by omega) dL_law_711 ?_
  refine rcV (n := 1) (As := [.int (xs (i + 1))]) (rest := [.int (w_X4_chosen S C (xs (i + 1)))]) hF (c_X5_chosen l k a2 M (xs (i + 1))) (P_r hP) hK 0 (ci := 5) rfl rfl rfl uC_X5_chosen uN_X5 uM_L_68 uI_X5_chosen uE_X5_chosen (by decide +kernel) rfl ⟨Nat.le_of_ble_eq_true rfl, Nat.le_of_ble_eq_true rfl⟩ ⟨Nat.le_of_ble_eq_true rfl, Nat.le_of_ble_eq_true rfl⟩ hl.1 rfl (Nat.le_of_ble_eq_true rfl) dL_law_712 ?_
  obtain ⟨e1, n2, hR2⟩ := rl_chosen hR T tr F (xs (i + 1))
  refine lv_icmp_eq (tgt := 1287) hx hb dL_law_715 (by decide) (fun c9 => ?_) (fun c9 => absurd e1 c9)
  refine lv_iinc (v := nI (i + 7)) (lv' := [(3, .int (nI (i + 7))), (0, .ref b), (1, .ref (a 0)), (2, .ref (a2 0))]) hx hb dL_law_1287 hl (k := 3) rfl (nI_add i 7) (by decide) rfl (fun ls hl => ?_)
  refine lv_goto (tgt := 30) hx hb dL_law_1290 (by decide) ?_
  exact ih _ _ _ _ _ _ _ _ n2 hR2 _ _ hP hD hS ls (lv_sub hl [1, 2, 3, 0] rfl)

set_option maxHeartbeats 4000000 in
set_option maxRecDepth 100000 in
theorem law_cost {p : Program} {l : Launch} {e : Env} {s : State} {m : MethodId} {below : List Frame} {meth : Method} {c : Code} {k : KT} {a a2 : Nat → Nat} {b L i : Nat} {xs : Nat → Int32} (hL : L ≤ 3585) (C0 : lw_At p s m meth c b L xs) (hK : KK k s) (hi : i + 7 ≤ L) (ih : ∀ (S : SeaT) (T : TalT) (dr tr : Int64) (C : ChoT) (F : Nat → Int32) (G : GoT) (M : ModT) (n : Nat), Rl S C G dr M n → ∀ (H : Heap) (locs : List Loc), va_P k.1 vwCl (xW k a S T dr tr C F G ++ mW k a2 M) H → va_D (fun q : Nat => s.heap.size ≤ q) (xW k a S T dr tr C F G ++ mW k a2 M) → va_S (fun q : Nat => s.heap.size ≤ q) s.heap H locs → ∀ ls : Array Slot, lv_has ls 4 [(0, .ref b), (1, .ref (a 0)), (2, .ref (a2 0)), (3, .int (nI (i + 7)))] → W p l e room_1 s m #[Value.ref b] below meth c H locs 28 2553 (lw_Z below #[Value.ref b] s) (F0 m 30 ls [])) (S : SeaT) (T : TalT) (dr tr : Int64) (C : ChoT) (F : Nat → Int32) (G : GoT) (M : ModT) (n : Nat) (hR : Rl S C G dr M n) (H : Heap) (locs : List Loc) (hP : va_P k.1 vwCl (xW k a S T dr tr C F G ++ mW k a2 M) H) (hD : va_D (fun q : Nat => s.heap.size ≤ q) (xW k a S T dr tr C F G ++ mW k a2 M)) (hS : va_S (fun q : Nat => s.heap.size ≤ q) s.heap H locs) (ls : Array Slot) (hl : lv_has ls 4 [(0, .ref b), (1, .ref (a 0)), (2, .ref (a2 0)), (3, .int (nI i))]) : W p l e room_1 s m #[Value.ref b] below meth c H locs 28 2553 (lw_Z below #[Value.ref b] s) (F0 m 720 ls []) := by
  obtain ⟨hx, hb, hr, hml, hown, hts, hX, hbl, hlocks, hgv⟩ := C0
  have hU : ∀ w ∈ wsL_law, w.before #[Value.ref b] s = true := fun w h => hts w (wsL_law_in w h)
  have hF : CF p m c cL_law 4 s #[Value.ref b] RL := ⟨hx, hb, hml, hown, hU⟩
  have hA : ∀ q : Nat, s.heap.size ≤ q → (fun q : Nat => s.heap.size ≤ q) q := fun _ h => h
  have hbA : ¬ (fun q : Nat => s.heap.size ≤ q) b := Nat.not_le.mpr hbl
  refine lv_aload_n hx hb dL_law_720 rfl (lv_at hl 1 rfl) ?_
  refine rcV (n := 0) (As := []) (rest := []) hF (c_X4_cost l k a S T dr tr C F G  n hR.1 hR.2.1) (P_l hP) hK 0 (ci := 4) rfl rfl rfl uC_X4_cost uN_X4 uM_L_69 uI_X4_cost uE_X4_cost (by decide +kernel) rfl ⟨Nat.le_of_ble_eq_true rfl, Nat.le_of_ble_eq_true rfl⟩ ⟨Nat.le_of_ble_eq_true rfl, Nat.le_of_ble_eq_true rfl⟩ hl.1 rfl (Nat.le_of_ble_eq_true rfl) dL_law_721 ?_
  refine lv_aload_n hx hb dL_law_724 rfl (lv_at hl 2 rfl) ?_
  refine rcV (n := 0) (As := []) (rest := [.long (w_X4_cost C)]) hF (c_X5_cost l k a2 M  n hR.1 hR.2.2.1) (P_r hP) hK 0 (ci := 5) rfl rfl rfl uC_X5_cost uN_X5 uM_L_73 uI_X5_cost uE_X5_cost (by decide +kernel) rfl ⟨Nat.le_of_ble_eq_true rfl, Nat.le_of_ble_eq_true rfl⟩ ⟨Nat.le_of_ble_eq_true rfl, Nat.le_of_ble_eq_true rfl⟩ hl.1 rfl (Nat.le_of_ble_eq_true rfl) dL_law_725 ?_
  obtain ⟨e1, n2, hR2⟩ := rl_cost hR T tr F 
  refine xl_eq (tgt := 1287) hx hb dL_law_728 dL_law_729 (by decide) (fun c9 => ?_) (fun c9 => absurd e1 c9)
  refine lv_iinc (v := nI (i + 7)) (lv' := [(3, .int (nI (i + 7))), (0, .ref b), (1, .ref (a 0)), (2, .ref (a2 0))]) hx hb dL_law_1287 hl (k := 3) rfl (nI_add i 7) (by decide) rfl (fun ls hl => ?_)
  refine lv_goto (tgt := 30) hx hb dL_law_1290 (by decide) ?_
  exact ih _ _ _ _ _ _ _ _ n2 hR2 _ _ hP hD hS ls (lv_sub hl [1, 2, 3, 0] rfl)

set_option maxHeartbeats 4000000 in
set_option maxRecDepth 100000 in
theorem law_bound {p : Program} {l : Launch} {e : Env} {s : State} {m : MethodId} {below : List Frame} {meth : Method} {c : Code} {k : KT} {a a2 : Nat → Nat} {b L i : Nat} {xs : Nat → Int32} (hL : L ≤ 3585) (C0 : lw_At p s m meth c b L xs) (hK : KK k s) (hi : i + 7 ≤ L) (ih : ∀ (S : SeaT) (T : TalT) (dr tr : Int64) (C : ChoT) (F : Nat → Int32) (G : GoT) (M : ModT) (n : Nat), Rl S C G dr M n → ∀ (H : Heap) (locs : List Loc), va_P k.1 vwCl (xW k a S T dr tr C F G ++ mW k a2 M) H → va_D (fun q : Nat => s.heap.size ≤ q) (xW k a S T dr tr C F G ++ mW k a2 M) → va_S (fun q : Nat => s.heap.size ≤ q) s.heap H locs → ∀ ls : Array Slot, lv_has ls 4 [(0, .ref b), (1, .ref (a 0)), (2, .ref (a2 0)), (3, .int (nI (i + 7)))] → W p l e room_1 s m #[Value.ref b] below meth c H locs 28 2553 (lw_Z below #[Value.ref b] s) (F0 m 30 ls [])) (S : SeaT) (T : TalT) (dr tr : Int64) (C : ChoT) (F : Nat → Int32) (G : GoT) (M : ModT) (n : Nat) (hR : Rl S C G dr M n) (H : Heap) (locs : List Loc) (hP : va_P k.1 vwCl (xW k a S T dr tr C F G ++ mW k a2 M) H) (hD : va_D (fun q : Nat => s.heap.size ≤ q) (xW k a S T dr tr C F G ++ mW k a2 M)) (hS : va_S (fun q : Nat => s.heap.size ≤ q) s.heap H locs) (ls : Array Slot) (hl : lv_has ls 4 [(0, .ref b), (1, .ref (a 0)), (2, .ref (a2 0)), (3, .int (nI i))]) : W p l e room_1 s m #[Value.ref b] below meth c H locs 28 2553 (lw_Z below #[Value.ref b] s) (F0 m 734 ls []) := by
  obtain ⟨hx, hb, hr, hml, hown, hts, hX, hbl, hlocks, hgv⟩ := C0
  have hU : ∀ w ∈ wsL_law, w.before #[Value.ref b] s = true := fun w h => hts w (wsL_law_in w h)
  have hF : CF p m c cL_law 4 s #[Value.ref b] RL := ⟨hx, hb, hml, hown, hU⟩
  have hA : ∀ q : Nat, s.heap.size ≤ q → (fun q : Nat => s.heap.size ≤ q) q := fun _ h => h
  have hbA : ¬ (fun q : Nat => s.heap.size ≤ q) b := Nat.not_le.mpr hbl
  refine lv_aload_n hx hb dL_law_734 rfl (lv_at hl 1 rfl) ?_
  refine rcV (n := 0) (As := []) (rest := []) hF (c_X4_bound l k a S T dr tr C F G  n hR.1 hR.2.1) (P_l hP) hK 0 (ci := 4) rfl rfl rfl uC_X4_bound uN_X4 uM_L_74 uI_X4_bound uE_X4_bound (by decide +kernel) rfl ⟨Nat.le_of_ble_eq_true rfl, Nat.le_of_ble_eq_true rfl⟩ ⟨Nat.le_of_ble_eq_true rfl, Nat.le_of_ble_eq_true rfl⟩ hl.1 rfl (Nat.le_of_ble_eq_true rfl) dL_law_735 ?_
  refine lv_aload_n hx hb dL_law_738 rfl (lv_at hl 2 rfl) ?_
  refine rcV (n := 0) (As := []) (rest := [.long (w_X4_bound G)]) hF (c_X5_bound l k a2 M  n hR.1 hR.2.2.1) (P_r hP) hK 0 (ci := 5) rfl rfl rfl uC_X5_bound uN_X5 uM_L_77 uI_X5_bound uE_X5_bound (by decide +kernel) rfl ⟨Nat.le_of_ble_eq_true rfl, Nat.le_of_ble_eq_true rfl⟩ ⟨Nat.le_of_ble_eq_true rfl, Nat.le_of_ble_eq_true rfl⟩ hl.1 rfl (Nat.le_of_ble_eq_true rfl) dL_law_739 ?_
  obtain ⟨e1, n2, hR2⟩ := rl_bound hR T tr F 
  refine xl_eq (tgt := 1287) hx hb dL_law_742 dL_law_743 (by decide) (fun c9 => ?_) (fun c9 => absurd e1 c9)
  refine lv_iinc (v := nI (i + 7)) (lv' := [(3, .int (nI (i + 7))), (0, .ref b), (1, .ref (a 0)), (2, .ref (a2 0))]) hx hb dL_law_1287 hl (k := 3) rfl (nI_add i 7) (by decide) rfl (fun ls hl => ?_)
  refine lv_goto (tgt := 30) hx hb dL_law_1290 (by decide) ?_
  exact ih _ _ _ _ _ _ _ _ n2 hR2 _ _ hP hD hS ls (lv_sub hl [1, 2, 3, 0] rfl)

set_option maxHeartbeats 4000000 in
set_option maxRecDepth 100000 in
theorem law_met {p : Program} {l : Launch} {e : Env} {s : State} {m : MethodId} {below : List Frame} {meth : Method} {c : Code} {k : KT} {a a2 : Nat → Nat} {b L i : Nat} {xs : Nat → Int32} (hL : L ≤ 3585) (C0 : lw_At p s m meth c b L xs) (hK : KK k s) (hi : i + 7 ≤ L) (ih : ∀ (S : SeaT) (T : TalT) (dr tr : Int64) (C : ChoT) (F : Nat → Int32) (G : GoT) (M : ModT) (n : Nat), Rl S C G dr M n → ∀ (H : Heap) (locs : List Loc), va_P k.1 vwCl (xW k a S T dr tr C F G ++ mW k a2 M) H → va_D (fun q : Nat => s.heap.size ≤ q) (xW k a S T dr tr C F G ++ mW k a2 M) → va_S (fun q : Nat => s.heap.size ≤ q) s.heap H locs → ∀ ls : Array Slot, lv_has ls 4 [(0, .ref b), (1, .ref (a 0)), (2, .ref (a2 0)), (3, .int (nI (i + 7)))] → W p l e room_1 s m #[Value.ref b] below meth c H locs 28 2553 (lw_Z below #[Value.ref b] s) (F0 m 30 ls [])) (S : SeaT) (T : TalT) (dr tr : Int64) (C : ChoT) (F : Nat → Int32) (G : GoT) (M : ModT) (n : Nat) (hR : Rl S C G dr M n) (H : Heap) (locs : List Loc) (hP : va_P k.1 vwCl (xW k a S T dr tr C F G ++ mW k a2 M) H) (hD : va_D (fun q : Nat => s.heap.size ≤ q) (xW k a S T dr tr C F G ++ mW k a2 M)) (hS : va_S (fun q : Nat => s.heap.size ≤ q) s.heap H locs) (ls : Array Slot) (hl : lv_has ls 4 [(0, .ref b), (1, .ref (a 0)), (2, .ref (a2 0)), (3, .int (nI i))]) : W p l e room_1 s m #[Value.ref b] below meth c H locs 28 2553 (lw_Z below #[Value.ref b] s) (F0 m 748 ls []) := by
  obtain ⟨hx, hb, hr, hml, hown, hts, hX, hbl, hlocks, hgv⟩ := C0
  have hU : ∀ w ∈ wsL_law, w.before #[Value.ref b] s = true := fun w h => hts w (wsL_law_in w h)
  have hF : CF p m c cL_law 4 s #[Value.ref b] RL := ⟨hx, hb, hml, hown, hU⟩
  have hA : ∀ q : Nat, s.heap.size ≤ q → (fun q : Nat => s.heap.size ≤ q) q := fun _ h => h
  have hbA : ¬ (fun q : Nat => s.heap.size ≤ q) b := Nat.not_le.mpr hbl
  refine lv_aload_n hx hb dL_law_748 rfl (lv_at hl 1 rfl) ?_
  refine lv_aload_n hx hb dL_law_749 rfl (lv_at hl 0 rfl) ?_
  refine lv_iload_n hx hb dL_law_750 rfl (lv_at hl 3 rfl) ?_
  refine lv_iconst (v := 1) hx hb dL_law_751 (by decide) ?_
  refine lv_iadd hx hb dL_law_752 ?_
  refine x_sld hx hb hX hbl hbA hS (j := i + 1) (nI_add i 1) (by omega) (by omega) dL_law_753 ?_
  refine lv_aload_n hx hb dL_law_754 rfl (lv_at hl 0 rfl) ?_
  refine lv_iload_n hx hb dL_law_755 rfl (lv_at hl 3 rfl) ?_
  refine lv_iconst (v := 2) hx hb dL_law_756 (by decide) ?_
  refine lv_iadd hx hb dL_law_757 ?_
  refine x_sld hx hb hX hbl hbA hS (j := i + 2) (nI_add i 2) (by omega) (by omega) dL_law_758 ?_
  refine lcX (n := 2) (As := [.int (xs (i + 1)), .int (xs (i + 2))]) (rest := []) hF (c_X4_met l k a S T dr tr C F G (xs (i + 1)) (xs (i + 2)) n hR.1 hR.2.1) hP hD hS hA hK 0 (ci := 4) rfl rfl rfl uC_X4_met uN_X4 uM_L_78 uI_X4_met uE_X4_met (by decide +kernel) rfl ⟨Nat.le_of_ble_eq_true rfl, Nat.le_of_ble_eq_true rfl⟩ ⟨Nat.le_of_ble_eq_true rfl, Nat.le_of_ble_eq_true rfl⟩ hl.1 rfl (Nat.le_of_ble_eq_true rfl) dL_law_759 (fun H locs hP hD hS => ?_)
  refine lv_aload_n hx hb dL_law_762 rfl (lv_at hl 2 rfl) ?_
  refine lv_aload_n hx hb dL_law_763 rfl (lv_at hl 0 rfl) ?_
  refine lv_iload_n hx hb dL_law_764 rfl (lv_at hl 3 rfl) ?_
  refine lv_iconst (v := 1) hx hb dL_law_765 (by decide) ?_
  refine lv_iadd hx hb dL_law_766 ?_
  refine x_sld hx hb hX hbl hbA hS (j := i + 1) (nI_add i 1) (by omega) (by omega) dL_law_767 ?_
  refine lv_aload_n hx hb dL_law_768 rfl (lv_at hl 0 rfl) ?_
  refine lv_iload_n hx hb dL_law_769 rfl (lv_at hl 3 rfl) ?_
  refine lv_iconst (v := 2) hx hb dL_law_770 (by decide) ?_
  refine lv_iadd hx hb dL_law_771 ?_
  refine x_sld hx hb hX hbl hbA hS (j := i + 2) (nI_add i 2) (by omega) (by omega) dL_law_772 ?_
  refine rcV (n := 2) (As := [.int (xs (i + 1)), .int (xs (i + 2))]) (rest := [.long (w_X4_met S T C (xs (i + 1)) (xs (i + 2)) n)]) hF (c_X5_met l k a2 M (xs (i + 1)) (xs (i + 2)) n hR.1 hR.2.2.1 (rl_hE_met hR (xs (i + 1)))) (P_r hP) hK 0 (ci := 5) rfl rfl rfl uC_X5_met uN_X5 uM_L_82 uI_X5_met uE_X5_met (by decide +kernel) rfl ⟨Nat.le_of_ble_eq_true rfl, Nat.le_of_ble_eq_true rfl⟩ ⟨Nat.le_of_ble_eq_true rfl, Nat.le_of_ble_eq_true rfl⟩ hl.1 rfl (Nat.le_of_ble_eq_true rfl) dL_law_773 ?_
  obtain ⟨e1, n2, hR2⟩ := rl_met hR T tr F (xs (i + 1)) (xs (i + 2))
  refine xl_eq (tgt := 1287) hx hb dL_law_776 dL_law_777 (by decide) (fun c9 => ?_) (fun c9 => absurd e1 c9)
  refine lv_iinc (v := nI (i + 7)) (lv' := [(3, .int (nI (i + 7))), (0, .ref b), (1, .ref (a 0)), (2, .ref (a2 0))]) hx hb dL_law_1287 hl (k := 3) rfl (nI_add i 7) (by decide) rfl (fun ls hl => ?_)
  refine lv_goto (tgt := 30) hx hb dL_law_1290 (by decide) ?_
  exact ih _ _ _ _ _ _ _ _ n2 hR2 _ _ hP hD hS ls (lv_sub hl [1, 2, 3, 0] rfl)

set_option maxHeartbeats 4000000 in
set_option maxRecDepth 100000 in
theorem law_clash {p : Program} {l : Launch} {e : Env} {s : State} {m : MethodId} {below : List Frame} {meth : Method} {c : Code} {k : KT} {a a2 : Nat → Nat} {b L i : Nat} {xs : Nat → Int32} (hL : L ≤ 3585) (C0 : lw_At p s m meth c b L xs) (hK : KK k s) (hi : i + 7 ≤ L) (ih : ∀ (S : SeaT) (T : TalT) (dr tr : Int64) (C : ChoT) (F : Nat → Int32) (G : GoT) (M : ModT) (n : Nat), Rl S C G dr M n → ∀ (H : Heap) (locs : List Loc), va_P k.1 vwCl (xW k a S T dr tr C F G ++ mW k a2 M) H → va_D (fun q : Nat => s.heap.size ≤ q) (xW k a S T dr tr C F G ++ mW k a2 M) → va_S (fun q : Nat => s.heap.size ≤ q) s.heap H locs → ∀ ls : Array Slot, lv_has ls 4 [(0, .ref b), (1, .ref (a 0)), (2, .ref (a2 0)), (3, .int (nI (i + 7)))] → W p l e room_1 s m #[Value.ref b] below meth c H locs 28 2553 (lw_Z below #[Value.ref b] s) (F0 m 30 ls [])) (S : SeaT) (T : TalT) (dr tr : Int64) (C : ChoT) (F : Nat → Int32) (G : GoT) (M : ModT) (n : Nat) (hR : Rl S C G dr M n) (H : Heap) (locs : List Loc) (hP : va_P k.1 vwCl (xW k a S T dr tr C F G ++ mW k a2 M) H) (hD : va_D (fun q : Nat => s.heap.size ≤ q) (xW k a S T dr tr C F G ++ mW k a2 M)) (hS : va_S (fun q : Nat => s.heap.size ≤ q) s.heap H locs) (ls : Array Slot) (hl : lv_has ls 4 [(0, .ref b), (1, .ref (a 0)), (2, .ref (a2 0)), (3, .int (nI i))]) : W p l e room_1 s m #[Value.ref b] below meth c H locs 28 2553 (lw_Z below #[Value.ref b] s) (F0 m 782 ls []) := by
  obtain ⟨hx, hb, hr, hml, hown, hts, hX, hbl, hlocks, hgv⟩ := C0
  have hU : ∀ w ∈ wsL_law, w.before #[Value.ref b] s = true := fun w h => hts w (wsL_law_in w h)
  have hF : CF p m c cL_law 4 s #[Value.ref b] RL := ⟨hx, hb, hml, hown, hU⟩
  have hA : ∀ q : Nat, s.heap.size ≤ q → (fun q : Nat => s.heap.size ≤ q) q := fun _ h => h
  have hbA : ¬ (fun q : Nat => s.heap.size ≤ q) b := Nat.not_le.mpr hbl
  refine lv_aload_n hx hb dL_law_782 rfl (lv_at hl 1 rfl) ?_
  refine lv_aload_n hx hb dL_law_783 rfl (lv_at hl 0 rfl) ?_
  refine lv_iload_n hx hb dL_law_784 rfl (lv_at hl 3 rfl) ?_
  refine lv_iconst (v := 1) hx hb dL_law_785 (by decide) ?_
  refine lv_iadd hx hb dL_law_786 ?_
  refine x_sld hx hb hX hbl hbA hS (j := i + 1) (nI_add i 1) (by omega) (by omega) dL_law_787 ?_
  refine rcV (n := 1) (As := [.int (xs (i + 1))]) (rest := []) hF (c_X4_clash l k a S T dr tr C F G (xs (i + 1)) n hR.1 hR.2.1) (P_l hP) hK 0 (ci := 4) rfl rfl rfl uC_X4_clash uN_X4 uM_L_83 uI_X4_clash uE_X4_clash (by decide +kernel) rfl ⟨Nat.le_of_ble_eq_true rfl, Nat.le_of_ble_eq_true rfl⟩ ⟨Nat.le_of_ble_eq_true rfl, Nat.le_of_ble_eq_true rfl⟩ hl.1 rfl (Nat.le_of_ble_eq_true rfl) dL_law_788 ?_
  refine lv_aload_n hx hb dL_law_791 rfl (lv_at hl 2 rfl) ?_
  refine lv_aload_n hx hb dL_law_792 rfl (lv_at hl 0 rfl) ?_
  refine lv_iload_n hx hb dL_law_793 rfl (lv_at hl 3 rfl) ?_
  refine lv_iconst (v := 1) hx hb dL_law_794 (by decide) ?_
  refine lv_iadd hx hb dL_law_795 ?_
  refine x_sld hx hb hX hbl hbA hS (j := i + 1) (nI_add i 1) (by omega) (by omega) dL_law_796 ?_
  refine rcV (n := 1) (As := [.int (xs (i + 1))]) (rest := [.int (w_X4_clash G (xs (i + 1)))]) hF (c_X5_clash l k a2 M (xs (i + 1))) (P_r hP) hK 0 (ci := 5) rfl rfl rfl uC_X5_clash uN_X5 uM_L_87 uI_X5_clash uE_X5_clash (by decide +kernel) rfl ⟨Nat.le_of_ble_eq_true rfl, Nat.le_of_ble_eq_true rfl⟩ ⟨Nat.le_of_ble_eq_true rfl, Nat.le_of_ble_eq_true rfl⟩ hl.1 rfl (Nat.le_of_ble_eq_true rfl) dL_law_797 ?_
  obtain ⟨e1, n2, hR2⟩ := rl_clash hR T tr F (xs (i + 1))
  refine lv_icmp_eq (tgt := 1287) hx hb dL_law_800 (by decide) (fun c9 => ?_) (fun c9 => absurd e1 c9)
  refine lv_iinc (v := nI (i + 7)) (lv' := [(3, .int (nI (i + 7))), (0, .ref b), (1, .ref (a 0)), (2, .ref (a2 0))]) hx hb dL_law_1287 hl (k := 3) rfl (nI_add i 7) (by decide) rfl (fun ls hl => ?_)
  refine lv_goto (tgt := 30) hx hb dL_law_1290 (by decide) ?_
  exact ih _ _ _ _ _ _ _ _ n2 hR2 _ _ hP hD hS ls (lv_sub hl [1, 2, 3, 0] rfl)

set_option maxHeartbeats 4000000 in
set_option maxRecDepth 100000 in
theorem law_proved {p : Program} {l : Launch} {e : Env} {s : State} {m : MethodId} {below : List Frame} {meth : Method} {c : Code} {k : KT} {a a2 : Nat → Nat} {b L i : Nat} {xs : Nat → Int32} (hL : L ≤ 3585) (C0 : lw_At p s m meth c b L xs) (hK : KK k s) (hi : i + 7 ≤ L) (ih : ∀ (S : SeaT) (T : TalT) (dr tr : Int64) (C : ChoT) (F : Nat → Int32) (G : GoT) (M : ModT) (n : Nat), Rl S C G dr M n → ∀ (H : Heap) (locs : List Loc), va_P k.1 vwCl (xW k a S T dr tr C F G ++ mW k a2 M) H → va_D (fun q : Nat => s.heap.size ≤ q) (xW k a S T dr tr C F G ++ mW k a2 M) → va_S (fun q : Nat => s.heap.size ≤ q) s.heap H locs → ∀ ls : Array Slot, lv_has ls 4 [(0, .ref b), (1, .ref (a 0)), (2, .ref (a2 0)), (3, .int (nI (i + 7)))] → W p l e room_1 s m #[Value.ref b] below meth c H locs 28 2553 (lw_Z below #[Value.ref b] s) (F0 m 30 ls [])) (S : SeaT) (T : TalT) (dr tr : Int64) (C : ChoT) (F : Nat → Int32) (G : GoT) (M : ModT) (n : Nat) (hR : Rl S C G dr M n) (H : Heap) (locs : List Loc) (hP : va_P k.1 vwCl (xW k a S T dr tr C F G ++ mW k a2 M) H) (hD : va_D (fun q : Nat => s.heap.size ≤ q) (xW k a S T dr tr C F G ++ mW k a2 M)) (hS : va_S (fun q : Nat => s.heap.size ≤ q) s.heap H locs) (ls : Array Slot) (hl : lv_has ls 4 [(0, .ref b), (1, .ref (a 0)), (2, .ref (a2 0)), (3, .int (nI i))]) : W p l e room_1 s m #[Value.ref b] below meth c H locs 28 2553 (lw_Z below #[Value.ref b] s) (F0 m 805 ls []) := by
  obtain ⟨hx, hb, hr, hml, hown, hts, hX, hbl, hlocks, hgv⟩ := C0
  have hU : ∀ w ∈ wsL_law, w.before #[Value.ref b] s = true := fun w h => hts w (wsL_law_in w h)
  have hF : CF p m c cL_law 4 s #[Value.ref b] RL := ⟨hx, hb, hml, hown, hU⟩
  have hA : ∀ q : Nat, s.heap.size ≤ q → (fun q : Nat => s.heap.size ≤ q) q := fun _ h => h
  have hbA : ¬ (fun q : Nat => s.heap.size ≤ q) b := Nat.not_le.mpr hbl
  refine lv_aload_n hx hb dL_law_805 rfl (lv_at hl 1 rfl) ?_
  refine rcV (n := 0) (As := []) (rest := []) hF (c_X4_proved l k a S T dr tr C F G  n hR.1 hR.2.1) (P_l hP) hK 0 (ci := 4) rfl rfl rfl uC_X4_proved uN_X4 uM_L_88 uI_X4_proved uE_X4_proved (by decide +kernel) rfl ⟨Nat.le_of_ble_eq_true rfl, Nat.le_of_ble_eq_true rfl⟩ ⟨Nat.le_of_ble_eq_true rfl, Nat.le_of_ble_eq_true rfl⟩ hl.1 rfl (Nat.le_of_ble_eq_true rfl) dL_law_806 ?_
  refine lv_aload_n hx hb dL_law_809 rfl (lv_at hl 2 rfl) ?_
  refine rcV (n := 0) (As := []) (rest := [.int (w_X4_proved G)]) hF (c_X5_proved l k a2 M  n hR.1 hR.2.2.1) (P_r hP) hK 0 (ci := 5) rfl rfl rfl uC_X5_proved uN_X5 uM_L_92 uI_X5_proved uE_X5_proved (by decide +kernel) rfl ⟨Nat.le_of_ble_eq_true rfl, Nat.le_of_ble_eq_true rfl⟩ ⟨Nat.le_of_ble_eq_true rfl, Nat.le_of_ble_eq_true rfl⟩ hl.1 rfl (Nat.le_of_ble_eq_true rfl) dL_law_810 ?_
  obtain ⟨e1, n2, hR2⟩ := rl_proved hR T tr F 
  refine lv_icmp_eq (tgt := 1287) hx hb dL_law_813 (by decide) (fun c9 => ?_) (fun c9 => absurd e1 c9)
  refine lv_iinc (v := nI (i + 7)) (lv' := [(3, .int (nI (i + 7))), (0, .ref b), (1, .ref (a 0)), (2, .ref (a2 0))]) hx hb dL_law_1287 hl (k := 3) rfl (nI_add i 7) (by decide) rfl (fun ls hl => ?_)
  refine lv_goto (tgt := 30) hx hb dL_law_1290 (by decide) ?_
  exact ih _ _ _ _ _ _ _ _ n2 hR2 _ _ hP hD hS ls (lv_sub hl [1, 2, 3, 0] rfl)

set_option maxHeartbeats 4000000 in
set_option maxRecDepth 100000 in
theorem law_improve {p : Program} {l : Launch} {e : Env} {s : State} {m : MethodId} {below : List Frame} {meth : Method} {c : Code} {k : KT} {a a2 : Nat → Nat} {b L i : Nat} {xs : Nat → Int32} (hL : L ≤ 3585) (C0 : lw_At p s m meth c b L xs) (hK : KK k s) (hi : i + 7 ≤ L) (ih : ∀ (S : SeaT) (T : TalT) (dr tr : Int64) (C : ChoT) (F : Nat → Int32) (G : GoT) (M : ModT) (n : Nat), Rl S C G dr M n → ∀ (H : Heap) (locs : List Loc), va_P k.1 vwCl (xW k a S T dr tr C F G ++ mW k a2 M) H → va_D (fun q : Nat => s.heap.size ≤ q) (xW k a S T dr tr C F G ++ mW k a2 M) → va_S (fun q : Nat => s.heap.size ≤ q) s.heap H locs → ∀ ls : Array Slot, lv_has ls 4 [(0, .ref b), (1, .ref (a 0)), (2, .ref (a2 0)), (3, .int (nI (i + 7)))] → W p l e room_1 s m #[Value.ref b] below meth c H locs 28 2553 (lw_Z below #[Value.ref b] s) (F0 m 30 ls [])) (S : SeaT) (T : TalT) (dr tr : Int64) (C : ChoT) (F : Nat → Int32) (G : GoT) (M : ModT) (n : Nat) (hR : Rl S C G dr M n) (H : Heap) (locs : List Loc) (hP : va_P k.1 vwCl (xW k a S T dr tr C F G ++ mW k a2 M) H) (hD : va_D (fun q : Nat => s.heap.size ≤ q) (xW k a S T dr tr C F G ++ mW k a2 M)) (hS : va_S (fun q : Nat => s.heap.size ≤ q) s.heap H locs) (ls : Array Slot) (hl : lv_has ls 4 [(0, .ref b), (1, .ref (a 0)), (2, .ref (a2 0)), (3, .int (nI i))]) : W p l e room_1 s m #[Value.ref b] below meth c H locs 28 2553 (lw_Z below #[Value.ref b] s) (F0 m 818 ls []) := by
  obtain ⟨hx, hb, hr, hml, hown, hts, hX, hbl, hlocks, hgv⟩ := C0
  have hU : ∀ w ∈ wsL_law, w.before #[Value.ref b] s = true := fun w h => hts w (wsL_law_in w h)
  have hF : CF p m c cL_law 4 s #[Value.ref b] RL := ⟨hx, hb, hml, hown, hU⟩
  have hA : ∀ q : Nat, s.heap.size ≤ q → (fun q : Nat => s.heap.size ≤ q) q := fun _ h => h
  have hbA : ¬ (fun q : Nat => s.heap.size ≤ q) b := Nat.not_le.mpr hbl
  refine lv_aload_n hx hb dL_law_818 rfl (lv_at hl 1 rfl) ?_
  refine lv_aload_n hx hb dL_law_819 rfl (lv_at hl 0 rfl) ?_
  refine lv_iload_n hx hb dL_law_820 rfl (lv_at hl 3 rfl) ?_
  refine lv_iconst (v := 1) hx hb dL_law_821 (by decide) ?_
  refine lv_iadd hx hb dL_law_822 ?_
  refine x_sld hx hb hX hbl hbA hS (j := i + 1) (nI_add i 1) (by omega) (by omega) dL_law_823 ?_
  refine lcX (n := 1) (As := [.int (xs (i + 1))]) (rest := []) hF (c_X4_improve l k a S T dr tr C F G (xs (i + 1)) n hR.1 hR.2.1) hP hD hS hA hK 0 (ci := 4) rfl rfl rfl uC_X4_improve uN_X4 uM_L_93 uI_X4_improve uE_X4_improve (by decide +kernel) rfl ⟨Nat.le_of_ble_eq_true rfl, Nat.le_of_ble_eq_true rfl⟩ ⟨Nat.le_of_ble_eq_true rfl, Nat.le_of_ble_eq_true rfl⟩ hl.1 rfl (Nat.le_of_ble_eq_true rfl) dL_law_824 (fun H locs hP hD hS => ?_)
  refine lv_aload_n hx hb dL_law_827 rfl (lv_at hl 2 rfl) ?_
  refine lv_aload_n hx hb dL_law_828 rfl (lv_at hl 0 rfl) ?_
  refine lv_iload_n hx hb dL_law_829 rfl (lv_at hl 3 rfl) ?_
  refine lv_iconst (v := 1) hx hb dL_law_830 (by decide) ?_
  refine lv_iadd hx hb dL_law_831 ?_
  refine x_sld hx hb hX hbl hbA hS (j := i + 1) (nI_add i 1) (by omega) (by omega) dL_law_832 ?_
  refine lcM (n := 1) (As := [.int (xs (i + 1))]) (rest := [.int (w_X4_improve S T dr (xs (i + 1)) n)]) hF (c_X5_improve l k a2 M (xs (i + 1)) n hR.1 hR.2.2.1) hP hD hS hA hK 0 (ci := 5) rfl rfl rfl uC_X5_improve uN_X5 uM_L_96 uI_X5_improve uE_X5_improve (by decide +kernel) rfl ⟨Nat.le_of_ble_eq_true rfl, Nat.le_of_ble_eq_true rfl⟩ ⟨Nat.le_of_ble_eq_true rfl, Nat.le_of_ble_eq_true rfl⟩ hl.1 rfl (Nat.le_of_ble_eq_true rfl) dL_law_833 (fun H locs hP hD hS => ?_)
  obtain ⟨e1, n2, hR2⟩ := rl_improve hR T tr F (xs (i + 1))
  refine lv_icmp_eq (tgt := 1287) hx hb dL_law_836 (by decide) (fun c9 => ?_) (fun c9 => absurd e1 c9)
  refine lv_iinc (v := nI (i + 7)) (lv' := [(3, .int (nI (i + 7))), (0, .ref b), (1, .ref (a 0)), (2, .ref (a2 0))]) hx hb dL_law_1287 hl (k := 3) rfl (nI_add i 7) (by decide) rfl (fun ls hl => ?_)
  refine lv_goto (tgt := 30) hx hb dL_law_1290 (by decide) ?_
  exact ih _ _ _ _ _ _ _ _ n2 hR2 _ _ hP hD hS ls (lv_sub hl [1, 2, 3, 0] rfl)

set_option maxHeartbeats 4000000 in
set_option maxRecDepth 100000 in
theorem law_often {p : Program} {l : Launch} {e : Env} {s : State} {m : MethodId} {below : List Frame} {meth : Method} {c : Code} {k : KT} {a a2 : Nat → Nat} {b L i : Nat} {xs : Nat → Int32} (hL : L ≤ 3585) (C0 : lw_At p s m meth c b L xs) (hK : KK k s) (hi : i + 7 ≤ L) (ih : ∀ (S : SeaT) (T : TalT) (dr tr : Int64) (C : ChoT) (F : Nat → Int32) (G : GoT) (M : ModT) (n : Nat), Rl S C G dr M n → ∀ (H : Heap) (locs : List Loc), va_P k.1 vwCl (xW k a S T dr tr C F G ++ mW k a2 M) H → va_D (fun q : Nat => s.heap.size ≤ q) (xW k a S T dr tr C F G ++ mW k a2 M) → va_S (fun q : Nat => s.heap.size ≤ q) s.heap H locs → ∀ ls : Array Slot, lv_has ls 4 [(0, .ref b), (1, .ref (a 0)), (2, .ref (a2 0)), (3, .int (nI (i + 7)))] → W p l e room_1 s m #[Value.ref b] below meth c H locs 28 2553 (lw_Z below #[Value.ref b] s) (F0 m 30 ls [])) (S : SeaT) (T : TalT) (dr tr : Int64) (C : ChoT) (F : Nat → Int32) (G : GoT) (M : ModT) (n : Nat) (hR : Rl S C G dr M n) (H : Heap) (locs : List Loc) (hP : va_P k.1 vwCl (xW k a S T dr tr C F G ++ mW k a2 M) H) (hD : va_D (fun q : Nat => s.heap.size ≤ q) (xW k a S T dr tr C F G ++ mW k a2 M)) (hS : va_S (fun q : Nat => s.heap.size ≤ q) s.heap H locs) (ls : Array Slot) (hl : lv_has ls 4 [(0, .ref b), (1, .ref (a 0)), (2, .ref (a2 0)), (3, .int (nI i))]) : W p l e room_1 s m #[Value.ref b] below meth c H locs 28 2553 (lw_Z below #[Value.ref b] s) (F0 m 841 ls []) := by
  obtain ⟨hx, hb, hr, hml, hown, hts, hX, hbl, hlocks, hgv⟩ := C0
  have hU : ∀ w ∈ wsL_law, w.before #[Value.ref b] s = true := fun w h => hts w (wsL_law_in w h)
  have hF : CF p m c cL_law 4 s #[Value.ref b] RL := ⟨hx, hb, hml, hown, hU⟩
  have hA : ∀ q : Nat, s.heap.size ≤ q → (fun q : Nat => s.heap.size ≤ q) q := fun _ h => h
  have hbA : ¬ (fun q : Nat => s.heap.size ≤ q) b := Nat.not_le.mpr hbl
  refine lv_aload_n hx hb dL_law_841 rfl (lv_at hl 1 rfl) ?_
  refine lv_aload_n hx hb dL_law_842 rfl (lv_at hl 0 rfl) ?_
  refine lv_iload_n hx hb dL_law_843 rfl (lv_at hl 3 rfl) ?_
  refine lv_iconst (v := 1) hx hb dL_law_844 (by decide) ?_
  refine lv_iadd hx hb dL_law_845 ?_
  refine x_sld hx hb hX hbl hbA hS (j := i + 1) (nI_add i 1) (by omega) (by omega) dL_law_846 ?_
  refine lv_aload_n hx hb dL_law_847 rfl (lv_at hl 0 rfl) ?_
  refine lv_iload_n hx hb dL_law_848 rfl (lv_at hl 3 rfl) ?_
  refine lv_iconst (v := 2) hx hb dL_law_849 (by decide) ?_
  refine lv_iadd hx hb dL_law_850 ?_
  refine x_sld hx hb hX hbl hbA hS (j := i + 2) (nI_add i 2) (by omega) (by omega) dL_law_851 ?_
  refine lcX (n := 2) (As := [.int (xs (i + 1)), .int (xs (i + 2))]) (rest := []) hF (c_X4_often l k a S T dr tr C F G (xs (i + 1)) (xs (i + 2)) n hR.1 hR.2.1) hP hD hS hA hK 0 (ci := 4) rfl rfl rfl uC_X4_often uN_X4 uM_L_97 uI_X4_often uE_X4_often (by decide +kernel) rfl ⟨Nat.le_of_ble_eq_true rfl, Nat.le_of_ble_eq_true rfl⟩ ⟨Nat.le_of_ble_eq_true rfl, Nat.le_of_ble_eq_true rfl⟩ hl.1 rfl (Nat.le_of_ble_eq_true rfl) dL_law_852 (fun H locs hP hD hS => ?_)
  refine lv_aload_n hx hb dL_law_855 rfl (lv_at hl 2 rfl) ?_
  refine lv_aload_n hx hb dL_law_856 rfl (lv_at hl 0 rfl) ?_
  refine lv_iload_n hx hb dL_law_857 rfl (lv_at hl 3 rfl) ?_
  refine lv_iconst (v := 1) hx hb dL_law_858 (by decide) ?_
  refine lv_iadd hx hb dL_law_859 ?_
  refine x_sld hx hb hX hbl hbA hS (j := i + 1) (nI_add i 1) (by omega) (by omega) dL_law_860 ?_
  refine lv_aload_n hx hb dL_law_861 rfl (lv_at hl 0 rfl) ?_
  refine lv_iload_n hx hb dL_law_862 rfl (lv_at hl 3 rfl) ?_
  refine lv_iconst (v := 2) hx hb dL_law_863 (by decide) ?_
  refine lv_iadd hx hb dL_law_864 ?_
  refine x_sld hx hb hX hbl hbA hS (j := i + 2) (nI_add i 2) (by omega) (by omega) dL_law_865 ?_
  refine lcM (n := 2) (As := [.int (xs (i + 1)), .int (xs (i + 2))]) (rest := [.long (w_X4_often S T tr n (xs (i + 1)) (xs (i + 2)))]) hF (c_X5_often l k a2 M (xs (i + 1)) (xs (i + 2)) n hR.1 hR.2.2.1) hP hD hS hA hK 0 (ci := 5) rfl rfl rfl uC_X5_often uN_X5 uM_L_100 uI_X5_often uE_X5_often (by decide +kernel) rfl ⟨Nat.le_of_ble_eq_true rfl, Nat.le_of_ble_eq_true rfl⟩ ⟨Nat.le_of_ble_eq_true rfl, Nat.le_of_ble_eq_true rfl⟩ hl.1 rfl (Nat.le_of_ble_eq_true rfl) dL_law_866 (fun H locs hP hD hS => ?_)
  obtain ⟨e1, n2, hR2⟩ := rl_often hR T tr F (xs (i + 1)) (xs (i + 2))
  refine xl_eq (tgt := 1287) hx hb dL_law_869 dL_law_870 (by decide) (fun c9 => ?_) (fun c9 => absurd e1 c9)
  refine lv_iinc (v := nI (i + 7)) (lv' := [(3, .int (nI (i + 7))), (0, .ref b), (1, .ref (a 0)), (2, .ref (a2 0))]) hx hb dL_law_1287 hl (k := 3) rfl (nI_add i 7) (by decide) rfl (fun ls hl => ?_)
  refine lv_goto (tgt := 30) hx hb dL_law_1290 (by decide) ?_
  exact ih _ _ _ _ _ _ _ _ n2 hR2 _ _ hP hD hS ls (lv_sub hl [1, 2, 3, 0] rfl)

set_option maxHeartbeats 4000000 in
set_option maxRecDepth 100000 in
theorem law_port {p : Program} {l : Launch} {e : Env} {s : State} {m : MethodId} {below : List Frame} {meth : Method} {c : Code} {k : KT} {a a2 : Nat → Nat} {b L i : Nat} {xs : Nat → Int32} (hL : L ≤ 3585) (C0 : lw_At p s m meth c b L xs) (hK : KK k s) (hi : i + 7 ≤ L) (ih : ∀ (S : SeaT) (T : TalT) (dr tr : Int64) (C : ChoT) (F : Nat → Int32) (G : GoT) (M : ModT) (n : Nat), Rl S C G dr M n → ∀ (H : Heap) (locs : List Loc), va_P k.1 vwCl (xW k a S T dr tr C F G ++ mW k a2 M) H → va_D (fun q : Nat => s.heap.size ≤ q) (xW k a S T dr tr C F G ++ mW k a2 M) → va_S (fun q : Nat => s.heap.size ≤ q) s.heap H locs → ∀ ls : Array Slot, lv_has ls 4 [(0, .ref b), (1, .ref (a 0)), (2, .ref (a2 0)), (3, .int (nI (i + 7)))] → W p l e room_1 s m #[Value.ref b] below meth c H locs 28 2553 (lw_Z below #[Value.ref b] s) (F0 m 30 ls [])) (S : SeaT) (T : TalT) (dr tr : Int64) (C : ChoT) (F : Nat → Int32) (G : GoT) (M : ModT) (n : Nat) (hR : Rl S C G dr M n) (H : Heap) (locs : List Loc) (hP : va_P k.1 vwCl (xW k a S T dr tr C F G ++ mW k a2 M) H) (hD : va_D (fun q : Nat => s.heap.size ≤ q) (xW k a S T dr tr C F G ++ mW k a2 M)) (hS : va_S (fun q : Nat => s.heap.size ≤ q) s.heap H locs) (ls : Array Slot) (hl : lv_has ls 4 [(0, .ref b), (1, .ref (a 0)), (2, .ref (a2 0)), (3, .int (nI i))]) : W p l e room_1 s m #[Value.ref b] below meth c H locs 28 2553 (lw_Z below #[Value.ref b] s) (F0 m 875 ls []) := by
  obtain ⟨hx, hb, hr, hml, hown, hts, hX, hbl, hlocks, hgv⟩ := C0
  have hU : ∀ w ∈ wsL_law, w.before #[Value.ref b] s = true := fun w h => hts w (wsL_law_in w h)
  have hF : CF p m c cL_law 4 s #[Value.ref b] RL := ⟨hx, hb, hml, hown, hU⟩
  have hA : ∀ q : Nat, s.heap.size ≤ q → (fun q : Nat => s.heap.size ≤ q) q := fun _ h => h
  have hbA : ¬ (fun q : Nat => s.heap.size ≤ q) b := Nat.not_le.mpr hbl
  refine lv_aload_n hx hb dL_law_875 rfl (lv_at hl 1 rfl) ?_
  refine lv_aload_n hx hb dL_law_876 rfl (lv_at hl 0 rfl) ?_
  refine lv_iload_n hx hb dL_law_877 rfl (lv_at hl 3 rfl) ?_
  refine lv_iconst (v := 1) hx hb dL_law_878 (by decide) ?_
  refine lv_iadd hx hb dL_law_879 ?_
  refine x_sld hx hb hX hbl hbA hS (j := i + 1) (nI_add i 1) (by omega) (by omega) dL_law_880 ?_
  refine lv_aload_n hx hb dL_law_881 rfl (lv_at hl 0 rfl) ?_
  refine lv_iload_n hx hb dL_law_882 rfl (lv_at hl 3 rfl) ?_
  refine lv_iconst (v := 2) hx hb dL_law_883 (by decide) ?_
  refine lv_iadd hx hb dL_law_884 ?_
  refine x_sld hx hb hX hbl hbA hS (j := i + 2) (nI_add i 2) (by omega) (by omega) dL_law_885 ?_
  refine lv_aload_n hx hb dL_law_886 rfl (lv_at hl 0 rfl) ?_
  refine lv_iload_n hx hb dL_law_887 rfl (lv_at hl 3 rfl) ?_
  refine lv_iconst (v := 3) hx hb dL_law_888 (by decide) ?_
  refine lv_iadd hx hb dL_law_889 ?_
  refine x_sld hx hb hX hbl hbA hS (j := i + 3) (nI_add i 3) (by omega) (by omega) dL_law_890 ?_
  refine lv_i2l (v := (Int32.toInt64 (xs (i + 3)))) hx hb dL_law_891 rfl ?_
  refine lv_bipush (v := 32) hx hb dL_law_892 (by decide) ?_
  refine lv_lshl (v := (lh (Int32.toInt64 (xs (i + 3))) 32)) hx hb dL_law_894 rfl ?_
  refine lv_aload_n hx hb dL_law_895 rfl (lv_at hl 0 rfl) ?_
  refine lv_iload_n hx hb dL_law_896 rfl (lv_at hl 3 rfl) ?_
  refine lv_iconst (v := 4) hx hb dL_law_897 (by decide) ?_
  refine lv_iadd hx hb dL_law_898 ?_
  refine x_sld hx hb hX hbl hbA hS (j := i + 4) (nI_add i 4) (by omega) (by omega) dL_law_899 ?_
  refine lv_i2l (v := (Int32.toInt64 (xs (i + 4)))) hx hb dL_law_900 rfl ?_
  refine lv_ldc2 hx hb hown (hU _ uK_L_21) dL_law_901 ?_
  refine lv_land hx hb dL_law_904 ?_
  refine lv_lor hx hb dL_law_905 ?_
  refine lcX (n := 3) (As := [.int (xs (i + 1)), .int (xs (i + 2)), .long ((lh (Int32.toInt64 (xs (i + 3))) 32) ||| ((Int32.toInt64 (xs (i + 4))) &&& 4294967295))]) (rest := []) hF (c_X4_port l k a S T dr tr C F G (xs (i + 1)) (xs (i + 2)) ((lh (Int32.toInt64 (xs (i + 3))) 32) ||| ((Int32.toInt64 (xs (i + 4))) &&& 4294967295)) n hR.1 hR.2.1) hP hD hS hA hK 0 (ci := 4) rfl rfl rfl uC_X4_port uN_X4 uM_L_101 uI_X4_port uE_X4_port (by decide +kernel) rfl ⟨Nat.le_of_ble_eq_true rfl, Nat.le_of_ble_eq_true rfl⟩ ⟨Nat.le_of_ble_eq_true rfl, Nat.le_of_ble_eq_true rfl⟩ hl.1 rfl (Nat.le_of_ble_eq_true rfl) dL_law_906 (fun H locs hP hD hS => ?_)
  refine lv_aload_n hx hb dL_law_909 rfl (lv_at hl 2 rfl) ?_
  refine lv_aload_n hx hb dL_law_910 rfl (lv_at hl 0 rfl) ?_
  refine lv_iload_n hx hb dL_law_911 rfl (lv_at hl 3 rfl) ?_
  refine lv_iconst (v := 1) hx hb dL_law_912 (by decide) ?_
  refine lv_iadd hx hb dL_law_913 ?_
  refine x_sld hx hb hX hbl hbA hS (j := i + 1) (nI_add i 1) (by omega) (by omega) dL_law_914 ?_
  refine lv_aload_n hx hb dL_law_915 rfl (lv_at hl 0 rfl) ?_
  refine lv_iload_n hx hb dL_law_916 rfl (lv_at hl 3 rfl) ?_
  refine lv_iconst (v := 2) hx hb dL_law_917 (by decide) ?_
  refine lv_iadd hx hb dL_law_918 ?_
  refine x_sld hx hb hX hbl hbA hS (j := i + 2) (nI_add i 2) (by omega) (by omega) dL_law_919 ?_
  refine lv_aload_n hx hb dL_law_920 rfl (lv_at hl 0 rfl) ?_
  refine lv_iload_n hx hb dL_law_921 rfl (lv_at hl 3 rfl) ?_
  refine lv_iconst (v := 3) hx hb dL_law_922 (by decide) ?_
  refine lv_iadd hx hb dL_law_923 ?_
  refine x_sld hx hb hX hbl hbA hS (j := i + 3) (nI_add i 3) (by omega) (by omega) dL_law_924 ?_
  refine lv_i2l (v := (Int32.toInt64 (xs (i + 3)))) hx hb dL_law_925 rfl ?_
  refine lv_bipush (v := 32) hx hb dL_law_926 (by decide) ?_
  refine lv_lshl (v := (lh (Int32.toInt64 (xs (i + 3))) 32)) hx hb dL_law_928 rfl ?_
  refine lv_aload_n hx hb dL_law_929 rfl (lv_at hl 0 rfl) ?_
  refine lv_iload_n hx hb dL_law_930 rfl (lv_at hl 3 rfl) ?_
  refine lv_iconst (v := 4) hx hb dL_law_931 (by decide) ?_
  refine lv_iadd hx hb dL_law_932 ?_
  refine x_sld hx hb hX hbl hbA hS (j := i + 4) (nI_add i 4) (by omega) (by omega) dL_law_933 ?_
  refine lv_i2l (v := (Int32.toInt64 (xs (i + 4)))) hx hb dL_law_934 rfl ?_
  refine lv_ldc2 hx hb hown (hU _ uK_L_21) dL_law_935 ?_
  refine lv_land hx hb dL_law_938 ?_
  refine lv_lor hx hb dL_law_939 ?_
  refine lcM (n := 3) (As := [.int (xs (i + 1)), .int (xs (i + 2)), .long ((lh (Int32.toInt64 (xs (i + 3))) 32) ||| ((Int32.toInt64 (xs (i + 4))) &&& 4294967295))]) (rest := [.int (w_X4_port S (xs (i + 1)) (xs (i + 2)) ((lh (Int32.toInt64 (xs (i + 3))) 32) ||| ((Int32.toInt64 (xs (i + 4))) &&& 4294967295)))]) hF (c_X5_port l k a2 M (xs (i + 1)) (xs (i + 2)) ((lh (Int32.toInt64 (xs (i + 3))) 32) ||| ((Int32.toInt64 (xs (i + 4))) &&& 4294967295)) n hR.1 hR.2.2.1) hP hD hS hA hK 0 (ci := 5) rfl rfl rfl uC_X5_port uN_X5 uM_L_104 uI_X5_port uE_X5_port (by decide +kernel) rfl ⟨Nat.le_of_ble_eq_true rfl, Nat.le_of_ble_eq_true rfl⟩ ⟨Nat.le_of_ble_eq_true rfl, Nat.le_of_ble_eq_true rfl⟩ hl.1 rfl (Nat.le_of_ble_eq_true rfl) dL_law_940 (fun H locs hP hD hS => ?_)
  obtain ⟨e1, n2, hR2⟩ := rl_port hR T tr F (xs (i + 1)) (xs (i + 2)) ((lh (Int32.toInt64 (xs (i + 3))) 32) ||| ((Int32.toInt64 (xs (i + 4))) &&& 4294967295))
  refine lv_icmp_eq (tgt := 1287) hx hb dL_law_943 (by decide) (fun c9 => ?_) (fun c9 => absurd e1 c9)
  refine lv_iinc (v := nI (i + 7)) (lv' := [(3, .int (nI (i + 7))), (0, .ref b), (1, .ref (a 0)), (2, .ref (a2 0))]) hx hb dL_law_1287 hl (k := 3) rfl (nI_add i 7) (by decide) rfl (fun ls hl => ?_)
  refine lv_goto (tgt := 30) hx hb dL_law_1290 (by decide) ?_
  exact ih _ _ _ _ _ _ _ _ n2 hR2 _ _ hP hD hS ls (lv_sub hl [1, 2, 3, 0] rfl)

set_option maxHeartbeats 4000000 in
set_option maxRecDepth 100000 in
theorem law_loss {p : Program} {l : Launch} {e : Env} {s : State} {m : MethodId} {below : List Frame} {meth : Method} {c : Code} {k : KT} {a a2 : Nat → Nat} {b L i : Nat} {xs : Nat → Int32} (hL : L ≤ 3585) (C0 : lw_At p s m meth c b L xs) (hK : KK k s) (hi : i + 7 ≤ L) (ih : ∀ (S : SeaT) (T : TalT) (dr tr : Int64) (C : ChoT) (F : Nat → Int32) (G : GoT) (M : ModT) (n : Nat), Rl S C G dr M n → ∀ (H : Heap) (locs : List Loc), va_P k.1 vwCl (xW k a S T dr tr C F G ++ mW k a2 M) H → va_D (fun q : Nat => s.heap.size ≤ q) (xW k a S T dr tr C F G ++ mW k a2 M) → va_S (fun q : Nat => s.heap.size ≤ q) s.heap H locs → ∀ ls : Array Slot, lv_has ls 4 [(0, .ref b), (1, .ref (a 0)), (2, .ref (a2 0)), (3, .int (nI (i + 7)))] → W p l e room_1 s m #[Value.ref b] below meth c H locs 28 2553 (lw_Z below #[Value.ref b] s) (F0 m 30 ls [])) (S : SeaT) (T : TalT) (dr tr : Int64) (C : ChoT) (F : Nat → Int32) (G : GoT) (M : ModT) (n : Nat) (hR : Rl S C G dr M n) (H : Heap) (locs : List Loc) (hP : va_P k.1 vwCl (xW k a S T dr tr C F G ++ mW k a2 M) H) (hD : va_D (fun q : Nat => s.heap.size ≤ q) (xW k a S T dr tr C F G ++ mW k a2 M)) (hS : va_S (fun q : Nat => s.heap.size ≤ q) s.heap H locs) (ls : Array Slot) (hl : lv_has ls 4 [(0, .ref b), (1, .ref (a 0)), (2, .ref (a2 0)), (3, .int (nI i))]) : W p l e room_1 s m #[Value.ref b] below meth c H locs 28 2553 (lw_Z below #[Value.ref b] s) (F0 m 948 ls []) := by
  obtain ⟨hx, hb, hr, hml, hown, hts, hX, hbl, hlocks, hgv⟩ := C0
  have hU : ∀ w ∈ wsL_law, w.before #[Value.ref b] s = true := fun w h => hts w (wsL_law_in w h)
  have hF : CF p m c cL_law 4 s #[Value.ref b] RL := ⟨hx, hb, hml, hown, hU⟩
  have hA : ∀ q : Nat, s.heap.size ≤ q → (fun q : Nat => s.heap.size ≤ q) q := fun _ h => h
  have hbA : ¬ (fun q : Nat => s.heap.size ≤ q) b := Nat.not_le.mpr hbl
  refine lv_aload_n hx hb dL_law_948 rfl (lv_at hl 1 rfl) ?_
  refine lv_aload_n hx hb dL_law_949 rfl (lv_at hl 0 rfl) ?_
  refine lv_iload_n hx hb dL_law_950 rfl (lv_at hl 3 rfl) ?_
  refine lv_iconst (v := 1) hx hb dL_law_951 (by decide) ?_
  refine lv_iadd hx hb dL_law_952 ?_
  refine x_sld hx hb hX hbl hbA hS (j := i + 1) (nI_add i 1) (by omega) (by omega) dL_law_953 ?_
  refine lv_aload_n hx hb dL_law_954 rfl (lv_at hl 0 rfl) ?_
  refine lv_iload_n hx hb dL_law_955 rfl (lv_at hl 3 rfl) ?_
  refine lv_iconst (v := 2) hx hb dL_law_956 (by decide) ?_
  refine lv_iadd hx hb dL_law_957 ?_
  refine x_sld hx hb hX hbl hbA hS (j := i + 2) (nI_add i 2) (by omega) (by omega) dL_law_958 ?_
  refine lcX (n := 2) (As := [.int (xs (i + 1)), .int (xs (i + 2))]) (rest := []) hF (c_X4_loss l k a S T dr tr C F G (xs (i + 1)) (xs (i + 2)) n hR.1 hR.2.1) hP hD hS hA hK 0 (ci := 4) rfl rfl rfl uC_X4_loss uN_X4 uM_L_105 uI_X4_loss uE_X4_loss (by decide +kernel) rfl ⟨Nat.le_of_ble_eq_true rfl, Nat.le_of_ble_eq_true rfl⟩ ⟨Nat.le_of_ble_eq_true rfl, Nat.le_of_ble_eq_true rfl⟩ hl.1 rfl (Nat.le_of_ble_eq_true rfl) dL_law_959 (fun H locs hP hD hS => ?_)
  refine lv_aload_n hx hb dL_law_962 rfl (lv_at hl 2 rfl) ?_
  refine lv_aload_n hx hb dL_law_963 rfl (lv_at hl 0 rfl) ?_
  refine lv_iload_n hx hb dL_law_964 rfl (lv_at hl 3 rfl) ?_
  refine lv_iconst (v := 1) hx hb dL_law_965 (by decide) ?_
  refine lv_iadd hx hb dL_law_966 ?_
  refine x_sld hx hb hX hbl hbA hS (j := i + 1) (nI_add i 1) (by omega) (by omega) dL_law_967 ?_
  refine lv_aload_n hx hb dL_law_968 rfl (lv_at hl 0 rfl) ?_
  refine lv_iload_n hx hb dL_law_969 rfl (lv_at hl 3 rfl) ?_
  refine lv_iconst (v := 2) hx hb dL_law_970 (by decide) ?_
  refine lv_iadd hx hb dL_law_971 ?_
  refine x_sld hx hb hX hbl hbA hS (j := i + 2) (nI_add i 2) (by omega) (by omega) dL_law_972 ?_
  refine rcV (n := 2) (As := [.int (xs (i + 1)), .int (xs (i + 2))]) (rest := [.long (w_X4_loss S T C (xs (i + 1)) (xs (i + 2)) n)]) hF (c_X5_loss l k a2 M (xs (i + 1)) (xs (i + 2)) n hR.1 hR.2.2.1 (rl_hE_loss hR (xs (i + 1)))) (P_r hP) hK 0 (ci := 5) rfl rfl rfl uC_X5_loss uN_X5 uM_L_108 uI_X5_loss uE_X5_loss (by decide +kernel) rfl ⟨Nat.le_of_ble_eq_true rfl, Nat.le_of_ble_eq_true rfl⟩ ⟨Nat.le_of_ble_eq_true rfl, Nat.le_of_ble_eq_true rfl⟩ hl.1 rfl (Nat.le_of_ble_eq_true rfl) dL_law_973 ?_
  obtain ⟨e1, n2, hR2⟩ := rl_loss hR T tr F (xs (i + 1)) (xs (i + 2))
  refine xl_eq (tgt := 1287) hx hb dL_law_976 dL_law_977 (by decide) (fun c9 => ?_) (fun c9 => absurd e1 c9)
  refine lv_iinc (v := nI (i + 7)) (lv' := [(3, .int (nI (i + 7))), (0, .ref b), (1, .ref (a 0)), (2, .ref (a2 0))]) hx hb dL_law_1287 hl (k := 3) rfl (nI_add i 7) (by decide) rfl (fun ls hl => ?_)
  refine lv_goto (tgt := 30) hx hb dL_law_1290 (by decide) ?_
  exact ih _ _ _ _ _ _ _ _ n2 hR2 _ _ hP hD hS ls (lv_sub hl [1, 2, 3, 0] rfl)

set_option maxHeartbeats 4000000 in
set_option maxRecDepth 100000 in
theorem law_fair {p : Program} {l : Launch} {e : Env} {s : State} {m : MethodId} {below : List Frame} {meth : Method} {c : Code} {k : KT} {a a2 : Nat → Nat} {b L i : Nat} {xs : Nat → Int32} (hL : L ≤ 3585) (C0 : lw_At p s m meth c b L xs) (hK : KK k s) (hi : i + 7 ≤ L) (ih : ∀ (S : SeaT) (T : TalT) (dr tr : Int64) (C : ChoT) (F : Nat → Int32) (G : GoT) (M : ModT) (n : Nat), Rl S C G dr M n → ∀ (H : Heap) (locs : List Loc), va_P k.1 vwCl (xW k a S T dr tr C F G ++ mW k a2 M) H → va_D (fun q : Nat => s.heap.size ≤ q) (xW k a S T dr tr C F G ++ mW k a2 M) → va_S (fun q : Nat => s.heap.size ≤ q) s.heap H locs → ∀ ls : Array Slot, lv_has ls 4 [(0, .ref b), (1, .ref (a 0)), (2, .ref (a2 0)), (3, .int (nI (i + 7)))] → W p l e room_1 s m #[Value.ref b] below meth c H locs 28 2553 (lw_Z below #[Value.ref b] s) (F0 m 30 ls [])) (S : SeaT) (T : TalT) (dr tr : Int64) (C : ChoT) (F : Nat → Int32) (G : GoT) (M : ModT) (n : Nat) (hR : Rl S C G dr M n) (H : Heap) (locs : List Loc) (hP : va_P k.1 vwCl (xW k a S T dr tr C F G ++ mW k a2 M) H) (hD : va_D (fun q : Nat => s.heap.size ≤ q) (xW k a S T dr tr C F G ++ mW k a2 M)) (hS : va_S (fun q : Nat => s.heap.size ≤ q) s.heap H locs) (ls : Array Slot) (hl : lv_has ls 4 [(0, .ref b), (1, .ref (a 0)), (2, .ref (a2 0)), (3, .int (nI i))]) : W p l e room_1 s m #[Value.ref b] below meth c H locs 28 2553 (lw_Z below #[Value.ref b] s) (F0 m 982 ls []) := by
  obtain ⟨hx, hb, hr, hml, hown, hts, hX, hbl, hlocks, hgv⟩ := C0
  have hU : ∀ w ∈ wsL_law, w.before #[Value.ref b] s = true := fun w h => hts w (wsL_law_in w h)
  have hF : CF p m c cL_law 4 s #[Value.ref b] RL := ⟨hx, hb, hml, hown, hU⟩
  have hA : ∀ q : Nat, s.heap.size ≤ q → (fun q : Nat => s.heap.size ≤ q) q := fun _ h => h
  have hbA : ¬ (fun q : Nat => s.heap.size ≤ q) b := Nat.not_le.mpr hbl
  refine lv_aload_n hx hb dL_law_982 rfl (lv_at hl 1 rfl) ?_
  refine lv_aload_n hx hb dL_law_983 rfl (lv_at hl 0 rfl) ?_
  refine lv_iload_n hx hb dL_law_984 rfl (lv_at hl 3 rfl) ?_
  refine lv_iconst (v := 1) hx hb dL_law_985 (by decide) ?_
  refine lv_iadd hx hb dL_law_986 ?_
  refine x_sld hx hb hX hbl hbA hS (j := i + 1) (nI_add i 1) (by omega) (by omega) dL_law_987 ?_
  refine lv_i2l (v := (Int32.toInt64 (xs (i + 1)))) hx hb dL_law_988 rfl ?_
  refine lv_bipush (v := 32) hx hb dL_law_989 (by decide) ?_
  refine lv_lshl (v := (lh (Int32.toInt64 (xs (i + 1))) 32)) hx hb dL_law_991 rfl ?_
  refine lv_aload_n hx hb dL_law_992 rfl (lv_at hl 0 rfl) ?_
  refine lv_iload_n hx hb dL_law_993 rfl (lv_at hl 3 rfl) ?_
  refine lv_iconst (v := 2) hx hb dL_law_994 (by decide) ?_
  refine lv_iadd hx hb dL_law_995 ?_
  refine x_sld hx hb hX hbl hbA hS (j := i + 2) (nI_add i 2) (by omega) (by omega) dL_law_996 ?_
  refine lv_i2l (v := (Int32.toInt64 (xs (i + 2)))) hx hb dL_law_997 rfl ?_
  refine lv_ldc2 hx hb hown (hU _ uK_L_21) dL_law_998 ?_
  refine lv_land hx hb dL_law_1001 ?_
  refine lv_lor hx hb dL_law_1002 ?_
  refine lv_aload_n hx hb dL_law_1003 rfl (lv_at hl 0 rfl) ?_
  refine lv_iload_n hx hb dL_law_1004 rfl (lv_at hl 3 rfl) ?_
  refine lv_iconst (v := 3) hx hb dL_law_1005 (by decide) ?_
  refine lv_iadd hx hb dL_law_1006 ?_
  refine x_sld hx hb hX hbl hbA hS (j := i + 3) (nI_add i 3) (by omega) (by omega) dL_law_1007 ?_
  refine lv_i2l (v := (Int32.toInt64 (xs (i + 3)))) hx hb dL_law_1008 rfl ?_
  refine lv_bipush (v := 32) hx hb dL_law_1009 (by decide) ?_
  refine lv_lshl (v := (lh (Int32.toInt64 (xs (i + 3))) 32)) hx hb dL_law_1011 rfl ?_
  refine lv_aload_n hx hb dL_law_1012 rfl (lv_at hl 0 rfl) ?_
  refine lv_iload_n hx hb dL_law_1013 rfl (lv_at hl 3 rfl) ?_
  refine lv_iconst (v := 4) hx hb dL_law_1014 (by decide) ?_
  refine lv_iadd hx hb dL_law_1015 ?_
  refine x_sld hx hb hX hbl hbA hS (j := i + 4) (nI_add i 4) (by omega) (by omega) dL_law_1016 ?_
  refine lv_i2l (v := (Int32.toInt64 (xs (i + 4)))) hx hb dL_law_1017 rfl ?_
  refine lv_ldc2 hx hb hown (hU _ uK_L_21) dL_law_1018 ?_
  refine lv_land hx hb dL_law_1021 ?_
  refine lv_lor hx hb dL_law_1022 ?_
  refine lcX (n := 2) (As := [.long ((lh (Int32.toInt64 (xs (i + 1))) 32) ||| ((Int32.toInt64 (xs (i + 2))) &&& 4294967295)), .long ((lh (Int32.toInt64 (xs (i + 3))) 32) ||| ((Int32.toInt64 (xs (i + 4))) &&& 4294967295))]) (rest := []) hF (c_X4_fair l k a S T dr tr C F G ((lh (Int32.toInt64 (xs (i + 1))) 32) ||| ((Int32.toInt64 (xs (i + 2))) &&& 4294967295)) ((lh (Int32.toInt64 (xs (i + 3))) 32) ||| ((Int32.toInt64 (xs (i + 4))) &&& 4294967295)) n hR.1 hR.2.1) hP hD hS hA hK 0 (ci := 4) rfl rfl rfl uC_X4_fair uN_X4 uM_L_109 uI_X4_fair uE_X4_fair (by decide +kernel) rfl ⟨Nat.le_of_ble_eq_true rfl, Nat.le_of_ble_eq_true rfl⟩ ⟨Nat.le_of_ble_eq_true rfl, Nat.le_of_ble_eq_true rfl⟩ hl.1 rfl (Nat.le_of_ble_eq_true rfl) dL_law_1023 (fun H locs hP hD hS => ?_)
  refine lv_aload_n hx hb dL_law_1026 rfl (lv_at hl 2 rfl) ?_
  refine lv_aload_n hx hb dL_law_1027 rfl (lv_at hl 0 rfl) ?_
  refine lv_iload_n hx hb dL_law_1028 rfl (lv_at hl 3 rfl) ?_
  refine lv_iconst (v := 1) hx hb dL_law_1029 (by decide) ?_
  refine lv_iadd hx hb dL_law_1030 ?_
  refine x_sld hx hb hX hbl hbA hS (j := i + 1) (nI_add i 1) (by omega) (by omega) dL_law_1031 ?_
  refine lv_i2l (v := (Int32.toInt64 (xs (i + 1)))) hx hb dL_law_1032 rfl ?_
  refine lv_bipush (v := 32) hx hb dL_law_1033 (by decide) ?_
  refine lv_lshl (v := (lh (Int32.toInt64 (xs (i + 1))) 32)) hx hb dL_law_1035 rfl ?_
  refine lv_aload_n hx hb dL_law_1036 rfl (lv_at hl 0 rfl) ?_
  refine lv_iload_n hx hb dL_law_1037 rfl (lv_at hl 3 rfl) ?_
  refine lv_iconst (v := 2) hx hb dL_law_1038 (by decide) ?_
  refine lv_iadd hx hb dL_law_1039 ?_
  refine x_sld hx hb hX hbl hbA hS (j := i + 2) (nI_add i 2) (by omega) (by omega) dL_law_1040 ?_
  refine lv_i2l (v := (Int32.toInt64 (xs (i + 2)))) hx hb dL_law_1041 rfl ?_
  refine lv_ldc2 hx hb hown (hU _ uK_L_21) dL_law_1042 ?_
  refine lv_land hx hb dL_law_1045 ?_
  refine lv_lor hx hb dL_law_1046 ?_
  refine lv_aload_n hx hb dL_law_1047 rfl (lv_at hl 0 rfl) ?_
  refine lv_iload_n hx hb dL_law_1048 rfl (lv_at hl 3 rfl) ?_
  refine lv_iconst (v := 3) hx hb dL_law_1049 (by decide) ?_
  refine lv_iadd hx hb dL_law_1050 ?_
  refine x_sld hx hb hX hbl hbA hS (j := i + 3) (nI_add i 3) (by omega) (by omega) dL_law_1051 ?_
  refine lv_i2l (v := (Int32.toInt64 (xs (i + 3)))) hx hb dL_law_1052 rfl ?_
  refine lv_bipush (v := 32) hx hb dL_law_1053 (by decide) ?_
  refine lv_lshl (v := (lh (Int32.toInt64 (xs (i + 3))) 32)) hx hb dL_law_1055 rfl ?_
  refine lv_aload_n hx hb dL_law_1056 rfl (lv_at hl 0 rfl) ?_
  refine lv_iload_n hx hb dL_law_1057 rfl (lv_at hl 3 rfl) ?_
  refine lv_iconst (v := 4) hx hb dL_law_1058 (by decide) ?_
  refine lv_iadd hx hb dL_law_1059 ?_
  refine x_sld hx hb hX hbl hbA hS (j := i + 4) (nI_add i 4) (by omega) (by omega) dL_law_1060 ?_
  refine lv_i2l (v := (Int32.toInt64 (xs (i + 4)))) hx hb dL_law_1061 rfl ?_
  refine lv_ldc2 hx hb hown (hU _ uK_L_21) dL_law_1062 ?_
  refine lv_land hx hb dL_law_1065 ?_
  refine lv_lor hx hb dL_law_1066 ?_
  refine lcM (n := 2) (As := [.long ((lh (Int32.toInt64 (xs (i + 1))) 32) ||| ((Int32.toInt64 (xs (i + 2))) &&& 4294967295)), .long ((lh (Int32.toInt64 (xs (i + 3))) 32) ||| ((Int32.toInt64 (xs (i + 4))) &&& 4294967295))]) (rest := [.int (w_X4_fair ((lh (Int32.toInt64 (xs (i + 1))) 32) ||| ((Int32.toInt64 (xs (i + 2))) &&& 4294967295)) ((lh (Int32.toInt64 (xs (i + 3))) 32) ||| ((Int32.toInt64 (xs (i + 4))) &&& 4294967295)))]) hF (c_X5_fair l k a2 M ((lh (Int32.toInt64 (xs (i + 1))) 32) ||| ((Int32.toInt64 (xs (i + 2))) &&& 4294967295)) ((lh (Int32.toInt64 (xs (i + 3))) 32) ||| ((Int32.toInt64 (xs (i + 4))) &&& 4294967295)) n hR.1 hR.2.2.1) hP hD hS hA hK 0 (ci := 5) rfl rfl rfl uC_X5_fair uN_X5 uM_L_113 uI_X5_fair uE_X5_fair (by decide +kernel) rfl ⟨Nat.le_of_ble_eq_true rfl, Nat.le_of_ble_eq_true rfl⟩ ⟨Nat.le_of_ble_eq_true rfl, Nat.le_of_ble_eq_true rfl⟩ hl.1 rfl (Nat.le_of_ble_eq_true rfl) dL_law_1067 (fun H locs hP hD hS => ?_)
  obtain ⟨e1, n2, hR2⟩ := rl_fair hR T tr F ((lh (Int32.toInt64 (xs (i + 1))) 32) ||| ((Int32.toInt64 (xs (i + 2))) &&& 4294967295)) ((lh (Int32.toInt64 (xs (i + 3))) 32) ||| ((Int32.toInt64 (xs (i + 4))) &&& 4294967295))
  refine lv_icmp_eq (tgt := 1287) hx hb dL_law_1070 (by decide) (fun c9 => ?_) (fun c9 => absurd e1 c9)
  refine lv_iinc (v := nI (i + 7)) (lv' := [(3, .int (nI (i + 7))), (0, .ref b), (1, .ref (a 0)), (2, .ref (a2 0))]) hx hb dL_law_1287 hl (k := 3) rfl (nI_add i 7) (by decide) rfl (fun ls hl => ?_)
  refine lv_goto (tgt := 30) hx hb dL_law_1290 (by decide) ?_
  exact ih _ _ _ _ _ _ _ _ n2 hR2 _ _ hP hD hS ls (lv_sub hl [1, 2, 3, 0] rfl)

set_option maxHeartbeats 4000000 in
set_option maxRecDepth 100000 in
theorem law_border {p : Program} {l : Launch} {e : Env} {s : State} {m : MethodId} {below : List Frame} {meth : Method} {c : Code} {k : KT} {a a2 : Nat → Nat} {b L i : Nat} {xs : Nat → Int32} (hL : L ≤ 3585) (C0 : lw_At p s m meth c b L xs) (hK : KK k s) (hi : i + 7 ≤ L) (ih : ∀ (S : SeaT) (T : TalT) (dr tr : Int64) (C : ChoT) (F : Nat → Int32) (G : GoT) (M : ModT) (n : Nat), Rl S C G dr M n → ∀ (H : Heap) (locs : List Loc), va_P k.1 vwCl (xW k a S T dr tr C F G ++ mW k a2 M) H → va_D (fun q : Nat => s.heap.size ≤ q) (xW k a S T dr tr C F G ++ mW k a2 M) → va_S (fun q : Nat => s.heap.size ≤ q) s.heap H locs → ∀ ls : Array Slot, lv_has ls 4 [(0, .ref b), (1, .ref (a 0)), (2, .ref (a2 0)), (3, .int (nI (i + 7)))] → W p l e room_1 s m #[Value.ref b] below meth c H locs 28 2553 (lw_Z below #[Value.ref b] s) (F0 m 30 ls [])) (S : SeaT) (T : TalT) (dr tr : Int64) (C : ChoT) (F : Nat → Int32) (G : GoT) (M : ModT) (n : Nat) (hR : Rl S C G dr M n) (H : Heap) (locs : List Loc) (hP : va_P k.1 vwCl (xW k a S T dr tr C F G ++ mW k a2 M) H) (hD : va_D (fun q : Nat => s.heap.size ≤ q) (xW k a S T dr tr C F G ++ mW k a2 M)) (hS : va_S (fun q : Nat => s.heap.size ≤ q) s.heap H locs) (ls : Array Slot) (hl : lv_has ls 4 [(0, .ref b), (1, .ref (a 0)), (2, .ref (a2 0)), (3, .int (nI i))]) : W p l e room_1 s m #[Value.ref b] below meth c H locs 28 2553 (lw_Z below #[Value.ref b] s) (F0 m 1075 ls []) := by
  obtain ⟨hx, hb, hr, hml, hown, hts, hX, hbl, hlocks, hgv⟩ := C0
  have hU : ∀ w ∈ wsL_law, w.before #[Value.ref b] s = true := fun w h => hts w (wsL_law_in w h)
  have hF : CF p m c cL_law 4 s #[Value.ref b] RL := ⟨hx, hb, hml, hown, hU⟩
  have hA : ∀ q : Nat, s.heap.size ≤ q → (fun q : Nat => s.heap.size ≤ q) q := fun _ h => h
  have hbA : ¬ (fun q : Nat => s.heap.size ≤ q) b := Nat.not_le.mpr hbl
  refine lv_aload_n hx hb dL_law_1075 rfl (lv_at hl 1 rfl) ?_
  refine lcX (n := 0) (As := []) (rest := []) hF (c_X4_border l k a S T dr tr C F G  n hR.1 hR.2.1) hP hD hS hA hK 0 (ci := 4) rfl rfl rfl uC_X4_border uN_X4 uM_L_114 uI_X4_border uE_X4_border (by decide +kernel) rfl ⟨Nat.le_of_ble_eq_true rfl, Nat.le_of_ble_eq_true rfl⟩ ⟨Nat.le_of_ble_eq_true rfl, Nat.le_of_ble_eq_true rfl⟩ hl.1 rfl (Nat.le_of_ble_eq_true rfl) dL_law_1076 (fun H locs hP hD hS => ?_)
  refine lv_aload_n hx hb dL_law_1079 rfl (lv_at hl 2 rfl) ?_
  refine rcV (n := 0) (As := []) (rest := [.long (w_X4_border S T C n)]) hF (c_X5_border l k a2 M  n hR.1 hR.2.2.1) (P_r hP) hK 0 (ci := 5) rfl rfl rfl uC_X5_border uN_X5 uM_L_117 uI_X5_border uE_X5_border (by decide +kernel) rfl ⟨Nat.le_of_ble_eq_true rfl, Nat.le_of_ble_eq_true rfl⟩ ⟨Nat.le_of_ble_eq_true rfl, Nat.le_of_ble_eq_true rfl⟩ hl.1 rfl (Nat.le_of_ble_eq_true rfl) dL_law_1080 ?_
  obtain ⟨e1, n2, hR2⟩ := rl_border hR T tr F 
  refine xl_eq (tgt := 1287) hx hb dL_law_1083 dL_law_1084 (by decide) (fun c9 => ?_) (fun c9 => absurd e1 c9)
  refine lv_iinc (v := nI (i + 7)) (lv' := [(3, .int (nI (i + 7))), (0, .ref b), (1, .ref (a 0)), (2, .ref (a2 0))]) hx hb dL_law_1287 hl (k := 3) rfl (nI_add i 7) (by decide) rfl (fun ls hl => ?_)
  refine lv_goto (tgt := 30) hx hb dL_law_1290 (by decide) ?_
  exact ih _ _ _ _ _ _ _ _ n2 hR2 _ _ hP hD hS ls (lv_sub hl [1, 2, 3, 0] rfl)

set_option maxHeartbeats 4000000 in
set_option maxRecDepth 100000 in
theorem law_size {p : Program} {l : Launch} {e : Env} {s : State} {m : MethodId} {below : List Frame} {meth : Method} {c : Code} {k : KT} {a a2 : Nat → Nat} {b L i : Nat} {xs : Nat → Int32} (hL : L ≤ 3585) (C0 : lw_At p s m meth c b L xs) (hK : KK k s) (hi : i + 7 ≤ L) (ih : ∀ (S : SeaT) (T : TalT) (dr tr : Int64) (C : ChoT) (F : Nat → Int32) (G : GoT) (M : ModT) (n : Nat), Rl S C G dr M n → ∀ (H : Heap) (locs : List Loc), va_P k.1 vwCl (xW k a S T dr tr C F G ++ mW k a2 M) H → va_D (fun q : Nat => s.heap.size ≤ q) (xW k a S T dr tr C F G ++ mW k a2 M) → va_S (fun q : Nat => s.heap.size ≤ q) s.heap H locs → ∀ ls : Array Slot, lv_has ls 4 [(0, .ref b), (1, .ref (a 0)), (2, .ref (a2 0)), (3, .int (nI (i + 7)))] → W p l e room_1 s m #[Value.ref b] below meth c H locs 28 2553 (lw_Z below #[Value.ref b] s) (F0 m 30 ls [])) (S : SeaT) (T : TalT) (dr tr : Int64) (C : ChoT) (F : Nat → Int32) (G : GoT) (M : ModT) (n : Nat) (hR : Rl S C G dr M n) (H : Heap) (locs : List Loc) (hP : va_P k.1 vwCl (xW k a S T dr tr C F G ++ mW k a2 M) H) (hD : va_D (fun q : Nat => s.heap.size ≤ q) (xW k a S T dr tr C F G ++ mW k a2 M)) (hS : va_S (fun q : Nat => s.heap.size ≤ q) s.heap H locs) (ls : Array Slot) (hl : lv_has ls 4 [(0, .ref b), (1, .ref (a 0)), (2, .ref (a2 0)), (3, .int (nI i))]) : W p l e room_1 s m #[Value.ref b] below meth c H locs 28 2553 (lw_Z below #[Value.ref b] s) (F0 m 1089 ls []) := by
  obtain ⟨hx, hb, hr, hml, hown, hts, hX, hbl, hlocks, hgv⟩ := C0
  have hU : ∀ w ∈ wsL_law, w.before #[Value.ref b] s = true := fun w h => hts w (wsL_law_in w h)
  have hF : CF p m c cL_law 4 s #[Value.ref b] RL := ⟨hx, hb, hml, hown, hU⟩
  have hA : ∀ q : Nat, s.heap.size ≤ q → (fun q : Nat => s.heap.size ≤ q) q := fun _ h => h
  have hbA : ¬ (fun q : Nat => s.heap.size ≤ q) b := Nat.not_le.mpr hbl
  refine lv_aload_n hx hb dL_law_1089 rfl (lv_at hl 1 rfl) ?_
  refine lv_aload_n hx hb dL_law_1090 rfl (lv_at hl 0 rfl) ?_
  refine lv_iload_n hx hb dL_law_1091 rfl (lv_at hl 3 rfl) ?_
  refine lv_iconst (v := 1) hx hb dL_law_1092 (by decide) ?_
  refine lv_iadd hx hb dL_law_1093 ?_
  refine x_sld hx hb hX hbl hbA hS (j := i + 1) (nI_add i 1) (by omega) (by omega) dL_law_1094 ?_
  refine lcX (n := 1) (As := [.int (xs (i + 1))]) (rest := []) hF (c_X4_size l k a S T dr tr C F G (xs (i + 1)) n hR.1 hR.2.1) hP hD hS hA hK 0 (ci := 4) rfl rfl rfl uC_X4_size uN_X4 uM_L_118 uI_X4_size uE_X4_size (by decide +kernel) rfl ⟨Nat.le_of_ble_eq_true rfl, Nat.le_of_ble_eq_true rfl⟩ ⟨Nat.le_of_ble_eq_true rfl, Nat.le_of_ble_eq_true rfl⟩ hl.1 rfl (Nat.le_of_ble_eq_true rfl) dL_law_1095 (fun H locs hP hD hS => ?_)
  refine lv_aload_n hx hb dL_law_1098 rfl (lv_at hl 2 rfl) ?_
  refine lv_aload_n hx hb dL_law_1099 rfl (lv_at hl 0 rfl) ?_
  refine lv_iload_n hx hb dL_law_1100 rfl (lv_at hl 3 rfl) ?_
  refine lv_iconst (v := 1) hx hb dL_law_1101 (by decide) ?_
  refine lv_iadd hx hb dL_law_1102 ?_
  refine x_sld hx hb hX hbl hbA hS (j := i + 1) (nI_add i 1) (by omega) (by omega) dL_law_1103 ?_
  refine lcM (n := 1) (As := [.int (xs (i + 1))]) (rest := [.int (w_X4_size S (xs (i + 1)))]) hF (c_X5_size l k a2 M (xs (i + 1)) n hR.1 hR.2.2.1) hP hD hS hA hK 0 (ci := 5) rfl rfl rfl uC_X5_size uN_X5 uM_L_121 uI_X5_size uE_X5_size (by decide +kernel) rfl ⟨Nat.le_of_ble_eq_true rfl, Nat.le_of_ble_eq_true rfl⟩ ⟨Nat.le_of_ble_eq_true rfl, Nat.le_of_ble_eq_true rfl⟩ hl.1 rfl (Nat.le_of_ble_eq_true rfl) dL_law_1104 (fun H locs hP hD hS => ?_)
  obtain ⟨e1, n2, hR2⟩ := rl_size hR T tr F (xs (i + 1))
  refine lv_icmp_eq (tgt := 1287) hx hb dL_law_1107 (by decide) (fun c9 => ?_) (fun c9 => absurd e1 c9)
  refine lv_iinc (v := nI (i + 7)) (lv' := [(3, .int (nI (i + 7))), (0, .ref b), (1, .ref (a 0)), (2, .ref (a2 0))]) hx hb dL_law_1287 hl (k := 3) rfl (nI_add i 7) (by decide) rfl (fun ls hl => ?_)
  refine lv_goto (tgt := 30) hx hb dL_law_1290 (by decide) ?_
  exact ih _ _ _ _ _ _ _ _ n2 hR2 _ _ hP hD hS ls (lv_sub hl [1, 2, 3, 0] rfl)

set_option maxHeartbeats 4000000 in
set_option maxRecDepth 100000 in
theorem law_year {p : Program} {l : Launch} {e : Env} {s : State} {m : MethodId} {below : List Frame} {meth : Method} {c : Code} {k : KT} {a a2 : Nat → Nat} {b L i : Nat} {xs : Nat → Int32} (hL : L ≤ 3585) (C0 : lw_At p s m meth c b L xs) (hK : KK k s) (hi : i + 7 ≤ L) (ih : ∀ (S : SeaT) (T : TalT) (dr tr : Int64) (C : ChoT) (F : Nat → Int32) (G : GoT) (M : ModT) (n : Nat), Rl S C G dr M n → ∀ (H : Heap) (locs : List Loc), va_P k.1 vwCl (xW k a S T dr tr C F G ++ mW k a2 M) H → va_D (fun q : Nat => s.heap.size ≤ q) (xW k a S T dr tr C F G ++ mW k a2 M) → va_S (fun q : Nat => s.heap.size ≤ q) s.heap H locs → ∀ ls : Array Slot, lv_has ls 4 [(0, .ref b), (1, .ref (a 0)), (2, .ref (a2 0)), (3, .int (nI (i + 7)))] → W p l e room_1 s m #[Value.ref b] below meth c H locs 28 2553 (lw_Z below #[Value.ref b] s) (F0 m 30 ls [])) (S : SeaT) (T : TalT) (dr tr : Int64) (C : ChoT) (F : Nat → Int32) (G : GoT) (M : ModT) (n : Nat) (hR : Rl S C G dr M n) (H : Heap) (locs : List Loc) (hP : va_P k.1 vwCl (xW k a S T dr tr C F G ++ mW k a2 M) H) (hD : va_D (fun q : Nat => s.heap.size ≤ q) (xW k a S T dr tr C F G ++ mW k a2 M)) (hS : va_S (fun q : Nat => s.heap.size ≤ q) s.heap H locs) (ls : Array Slot) (hl : lv_has ls 4 [(0, .ref b), (1, .ref (a 0)), (2, .ref (a2 0)), (3, .int (nI i))]) : W p l e room_1 s m #[Value.ref b] below meth c H locs 28 2553 (lw_Z below #[Value.ref b] s) (F0 m 1112 ls []) := by
  obtain ⟨hx, hb, hr, hml, hown, hts, hX, hbl, hlocks, hgv⟩ := C0
  have hU : ∀ w ∈ wsL_law, w.before #[Value.ref b] s = true := fun w h => hts w (wsL_law_in w h)
  have hF : CF p m c cL_law 4 s #[Value.ref b] RL := ⟨hx, hb, hml, hown, hU⟩
  have hA : ∀ q : Nat, s.heap.size ≤ q → (fun q : Nat => s.heap.size ≤ q) q := fun _ h => h
  have hbA : ¬ (fun q : Nat => s.heap.size ≤ q) b := Nat.not_le.mpr hbl
  refine lv_aload_n hx hb dL_law_1112 rfl (lv_at hl 1 rfl) ?_
  refine lv_aload_n hx hb dL_law_1113 rfl (lv_at hl 0 rfl) ?_
  refine lv_iload_n hx hb dL_law_1114 rfl (lv_at hl 3 rfl) ?_
  refine lv_iconst (v := 1) hx hb dL_law_1115 (by decide) ?_
  refine lv_iadd hx hb dL_law_1116 ?_
  refine x_sld hx hb hX hbl hbA hS (j := i + 1) (nI_add i 1) (by omega) (by omega) dL_law_1117 ?_
  refine rcV (n := 1) (As := [.int (xs (i + 1))]) (rest := []) hF (c_X4_year l k a S T dr tr C F G (xs (i + 1)) n hR.1 hR.2.1) (P_l hP) hK 0 (ci := 4) rfl rfl rfl uC_X4_year uN_X4 uM_L_122 uI_X4_year uE_X4_year (by decide +kernel) rfl ⟨Nat.le_of_ble_eq_true rfl, Nat.le_of_ble_eq_true rfl⟩ ⟨Nat.le_of_ble_eq_true rfl, Nat.le_of_ble_eq_true rfl⟩ hl.1 rfl (Nat.le_of_ble_eq_true rfl) dL_law_1118 ?_
  refine lv_aload_n hx hb dL_law_1121 rfl (lv_at hl 2 rfl) ?_
  refine lv_aload_n hx hb dL_law_1122 rfl (lv_at hl 0 rfl) ?_
  refine lv_iload_n hx hb dL_law_1123 rfl (lv_at hl 3 rfl) ?_
  refine lv_iconst (v := 1) hx hb dL_law_1124 (by decide) ?_
  refine lv_iadd hx hb dL_law_1125 ?_
  refine x_sld hx hb hX hbl hbA hS (j := i + 1) (nI_add i 1) (by omega) (by omega) dL_law_1126 ?_
  refine rcV (n := 1) (As := [.int (xs (i + 1))]) (rest := [.int (w_X4_year S C (xs (i + 1)) n)]) hF (c_X5_year l k a2 M (xs (i + 1)) n hR.1 hR.2.2.1) (P_r hP) hK 0 (ci := 5) rfl rfl rfl uC_X5_year uN_X5 uM_L_125 uI_X5_year uE_X5_year (by decide +kernel) rfl ⟨Nat.le_of_ble_eq_true rfl, Nat.le_of_ble_eq_true rfl⟩ ⟨Nat.le_of_ble_eq_true rfl, Nat.le_of_ble_eq_true rfl⟩ hl.1 rfl (Nat.le_of_ble_eq_true rfl) dL_law_1127 ?_
  obtain ⟨e1, n2, hR2⟩ := rl_year hR T tr F (xs (i + 1))
  refine lv_icmp_eq (tgt := 1287) hx hb dL_law_1130 (by decide) (fun c9 => ?_) (fun c9 => absurd e1 c9)
  refine lv_iinc (v := nI (i + 7)) (lv' := [(3, .int (nI (i + 7))), (0, .ref b), (1, .ref (a 0)), (2, .ref (a2 0))]) hx hb dL_law_1287 hl (k := 3) rfl (nI_add i 7) (by decide) rfl (fun ls hl => ?_)
  refine lv_goto (tgt := 30) hx hb dL_law_1290 (by decide) ?_
  exact ih _ _ _ _ _ _ _ _ n2 hR2 _ _ hP hD hS ls (lv_sub hl [1, 2, 3, 0] rfl)

set_option maxHeartbeats 4000000 in
set_option maxRecDepth 100000 in
theorem law_wind {p : Program} {l : Launch} {e : Env} {s : State} {m : MethodId} {below : List Frame} {meth : Method} {c : Code} {k : KT} {a a2 : Nat → Nat} {b L i : Nat} {xs : Nat → Int32} (hL : L ≤ 3585) (C0 : lw_At p s m meth c b L xs) (hK : KK k s) (hi : i + 7 ≤ L) (ih : ∀ (S : SeaT) (T : TalT) (dr tr : Int64) (C : ChoT) (F : Nat → Int32) (G : GoT) (M : ModT) (n : Nat), Rl S C G dr M n → ∀ (H : Heap) (locs : List Loc), va_P k.1 vwCl (xW k a S T dr tr C F G ++ mW k a2 M) H → va_D (fun q : Nat => s.heap.size ≤ q) (xW k a S T dr tr C F G ++ mW k a2 M) → va_S (fun q : Nat => s.heap.size ≤ q) s.heap H locs → ∀ ls : Array Slot, lv_has ls 4 [(0, .ref b), (1, .ref (a 0)), (2, .ref (a2 0)), (3, .int (nI (i + 7)))] → W p l e room_1 s m #[Value.ref b] below meth c H locs 28 2553 (lw_Z below #[Value.ref b] s) (F0 m 30 ls [])) (S : SeaT) (T : TalT) (dr tr : Int64) (C : ChoT) (F : Nat → Int32) (G : GoT) (M : ModT) (n : Nat) (hR : Rl S C G dr M n) (H : Heap) (locs : List Loc) (hP : va_P k.1 vwCl (xW k a S T dr tr C F G ++ mW k a2 M) H) (hD : va_D (fun q : Nat => s.heap.size ≤ q) (xW k a S T dr tr C F G ++ mW k a2 M)) (hS : va_S (fun q : Nat => s.heap.size ≤ q) s.heap H locs) (ls : Array Slot) (hl : lv_has ls 4 [(0, .ref b), (1, .ref (a 0)), (2, .ref (a2 0)), (3, .int (nI i))]) : W p l e room_1 s m #[Value.ref b] below meth c H locs 28 2553 (lw_Z below #[Value.ref b] s) (F0 m 1135 ls []) := by
  obtain ⟨hx, hb, hr, hml, hown, hts, hX, hbl, hlocks, hgv⟩ := C0
  have hU : ∀ w ∈ wsL_law, w.before #[Value.ref b] s = true := fun w h => hts w (wsL_law_in w h)
  have hF : CF p m c cL_law 4 s #[Value.ref b] RL := ⟨hx, hb, hml, hown, hU⟩
  have hA : ∀ q : Nat, s.heap.size ≤ q → (fun q : Nat => s.heap.size ≤ q) q := fun _ h => h
  have hbA : ¬ (fun q : Nat => s.heap.size ≤ q) b := Nat.not_le.mpr hbl
  refine lv_aload_n hx hb dL_law_1135 rfl (lv_at hl 1 rfl) ?_
  refine lv_aload_n hx hb dL_law_1136 rfl (lv_at hl 0 rfl) ?_
  refine lv_iload_n hx hb dL_law_1137 rfl (lv_at hl 3 rfl) ?_
  refine lv_iconst (v := 1) hx hb dL_law_1138 (by decide) ?_
  refine lv_iadd hx hb dL_law_1139 ?_
  refine x_sld hx hb hX hbl hbA hS (j := i + 1) (nI_add i 1) (by omega) (by omega) dL_law_1140 ?_
  refine lv_aload_n hx hb dL_law_1141 rfl (lv_at hl 0 rfl) ?_
  refine lv_iload_n hx hb dL_law_1142 rfl (lv_at hl 3 rfl) ?_
  refine lv_iconst (v := 2) hx hb dL_law_1143 (by decide) ?_
  refine lv_iadd hx hb dL_law_1144 ?_
  refine x_sld hx hb hX hbl hbA hS (j := i + 2) (nI_add i 2) (by omega) (by omega) dL_law_1145 ?_
  refine lv_i2l (v := (Int32.toInt64 (xs (i + 2)))) hx hb dL_law_1146 rfl ?_
  refine lv_bipush (v := 32) hx hb dL_law_1147 (by decide) ?_
  refine lv_lshl (v := (lh (Int32.toInt64 (xs (i + 2))) 32)) hx hb dL_law_1149 rfl ?_
  refine lv_aload_n hx hb dL_law_1150 rfl (lv_at hl 0 rfl) ?_
  refine lv_iload_n hx hb dL_law_1151 rfl (lv_at hl 3 rfl) ?_
  refine lv_iconst (v := 3) hx hb dL_law_1152 (by decide) ?_
  refine lv_iadd hx hb dL_law_1153 ?_
  refine x_sld hx hb hX hbl hbA hS (j := i + 3) (nI_add i 3) (by omega) (by omega) dL_law_1154 ?_
  refine lv_i2l (v := (Int32.toInt64 (xs (i + 3)))) hx hb dL_law_1155 rfl ?_
  refine lv_ldc2 hx hb hown (hU _ uK_L_21) dL_law_1156 ?_
  refine lv_land hx hb dL_law_1159 ?_
  refine lv_lor hx hb dL_law_1160 ?_
  refine lcX (n := 2) (As := [.int (xs (i + 1)), .long ((lh (Int32.toInt64 (xs (i + 2))) 32) ||| ((Int32.toInt64 (xs (i + 3))) &&& 4294967295))]) (rest := []) hF (c_X4_wind l k a S T dr tr C F G (xs (i + 1)) ((lh (Int32.toInt64 (xs (i + 2))) 32) ||| ((Int32.toInt64 (xs (i + 3))) &&& 4294967295)) n hR.1 hR.2.1) hP hD hS hA hK 0 (ci := 4) rfl rfl rfl uC_X4_wind uN_X4 uM_L_126 uI_X4_wind uE_X4_wind (by decide +kernel) rfl ⟨Nat.le_of_ble_eq_true rfl, Nat.le_of_ble_eq_true rfl⟩ ⟨Nat.le_of_ble_eq_true rfl, Nat.le_of_ble_eq_true rfl⟩ hl.1 rfl (Nat.le_of_ble_eq_true rfl) dL_law_1161 (fun H locs hP hD hS => ?_)
  refine lv_aload_n hx hb dL_law_1164 rfl (lv_at hl 2 rfl) ?_
  refine lv_aload_n hx hb dL_law_1165 rfl (lv_at hl 0 rfl) ?_
  refine lv_iload_n hx hb dL_law_1166 rfl (lv_at hl 3 rfl) ?_
  refine lv_iconst (v := 1) hx hb dL_law_1167 (by decide) ?_
  refine lv_iadd hx hb dL_law_1168 ?_
  refine x_sld hx hb hX hbl hbA hS (j := i + 1) (nI_add i 1) (by omega) (by omega) dL_law_1169 ?_
  refine lv_aload_n hx hb dL_law_1170 rfl (lv_at hl 0 rfl) ?_
  refine lv_iload_n hx hb dL_law_1171 rfl (lv_at hl 3 rfl) ?_
  refine lv_iconst (v := 2) hx hb dL_law_1172 (by decide) ?_
  refine lv_iadd hx hb dL_law_1173 ?_
  refine x_sld hx hb hX hbl hbA hS (j := i + 2) (nI_add i 2) (by omega) (by omega) dL_law_1174 ?_
  refine lv_i2l (v := (Int32.toInt64 (xs (i + 2)))) hx hb dL_law_1175 rfl ?_
  refine lv_bipush (v := 32) hx hb dL_law_1176 (by decide) ?_
  refine lv_lshl (v := (lh (Int32.toInt64 (xs (i + 2))) 32)) hx hb dL_law_1178 rfl ?_
  refine lv_aload_n hx hb dL_law_1179 rfl (lv_at hl 0 rfl) ?_
  refine lv_iload_n hx hb dL_law_1180 rfl (lv_at hl 3 rfl) ?_
  refine lv_iconst (v := 3) hx hb dL_law_1181 (by decide) ?_
  refine lv_iadd hx hb dL_law_1182 ?_
  refine x_sld hx hb hX hbl hbA hS (j := i + 3) (nI_add i 3) (by omega) (by omega) dL_law_1183 ?_
  refine lv_i2l (v := (Int32.toInt64 (xs (i + 3)))) hx hb dL_law_1184 rfl ?_
  refine lv_ldc2 hx hb hown (hU _ uK_L_21) dL_law_1185 ?_
  refine lv_land hx hb dL_law_1188 ?_
  refine lv_lor hx hb dL_law_1189 ?_
  refine lcM (n := 2) (As := [.int (xs (i + 1)), .long ((lh (Int32.toInt64 (xs (i + 2))) 32) ||| ((Int32.toInt64 (xs (i + 3))) &&& 4294967295))]) (rest := [.int (w_X4_wind S (xs (i + 1)) ((lh (Int32.toInt64 (xs (i + 2))) 32) ||| ((Int32.toInt64 (xs (i + 3))) &&& 4294967295)))]) hF (c_X5_wind l k a2 M (xs (i + 1)) ((lh (Int32.toInt64 (xs (i + 2))) 32) ||| ((Int32.toInt64 (xs (i + 3))) &&& 4294967295)) n hR.1 hR.2.2.1) hP hD hS hA hK 0 (ci := 5) rfl rfl rfl uC_X5_wind uN_X5 uM_L_130 uI_X5_wind uE_X5_wind (by decide +kernel) rfl ⟨Nat.le_of_ble_eq_true rfl, Nat.le_of_ble_eq_true rfl⟩ ⟨Nat.le_of_ble_eq_true rfl, Nat.le_of_ble_eq_true rfl⟩ hl.1 rfl (Nat.le_of_ble_eq_true rfl) dL_law_1190 (fun H locs hP hD hS => ?_)
  obtain ⟨e1, n2, hR2⟩ := rl_wind hR T tr F (xs (i + 1)) ((lh (Int32.toInt64 (xs (i + 2))) 32) ||| ((Int32.toInt64 (xs (i + 3))) &&& 4294967295))
  refine lv_icmp_eq (tgt := 1287) hx hb dL_law_1193 (by decide) (fun c9 => ?_) (fun c9 => absurd e1 c9)
  refine lv_iinc (v := nI (i + 7)) (lv' := [(3, .int (nI (i + 7))), (0, .ref b), (1, .ref (a 0)), (2, .ref (a2 0))]) hx hb dL_law_1287 hl (k := 3) rfl (nI_add i 7) (by decide) rfl (fun ls hl => ?_)
  refine lv_goto (tgt := 30) hx hb dL_law_1290 (by decide) ?_
  exact ih _ _ _ _ _ _ _ _ n2 hR2 _ _ hP hD hS ls (lv_sub hl [1, 2, 3, 0] rfl)

set_option maxHeartbeats 4000000 in
set_option maxRecDepth 100000 in
theorem law_unlike {p : Program} {l : Launch} {e : Env} {s : State} {m : MethodId} {below : List Frame} {meth : Method} {c : Code} {k : KT} {a a2 : Nat → Nat} {b L i : Nat} {xs : Nat → Int32} (hL : L ≤ 3585) (C0 : lw_At p s m meth c b L xs) (hK : KK k s) (hi : i + 7 ≤ L) (ih : ∀ (S : SeaT) (T : TalT) (dr tr : Int64) (C : ChoT) (F : Nat → Int32) (G : GoT) (M : ModT) (n : Nat), Rl S C G dr M n → ∀ (H : Heap) (locs : List Loc), va_P k.1 vwCl (xW k a S T dr tr C F G ++ mW k a2 M) H → va_D (fun q : Nat => s.heap.size ≤ q) (xW k a S T dr tr C F G ++ mW k a2 M) → va_S (fun q : Nat => s.heap.size ≤ q) s.heap H locs → ∀ ls : Array Slot, lv_has ls 4 [(0, .ref b), (1, .ref (a 0)), (2, .ref (a2 0)), (3, .int (nI (i + 7)))] → W p l e room_1 s m #[Value.ref b] below meth c H locs 28 2553 (lw_Z below #[Value.ref b] s) (F0 m 30 ls [])) (S : SeaT) (T : TalT) (dr tr : Int64) (C : ChoT) (F : Nat → Int32) (G : GoT) (M : ModT) (n : Nat) (hR : Rl S C G dr M n) (H : Heap) (locs : List Loc) (hP : va_P k.1 vwCl (xW k a S T dr tr C F G ++ mW k a2 M) H) (hD : va_D (fun q : Nat => s.heap.size ≤ q) (xW k a S T dr tr C F G ++ mW k a2 M)) (hS : va_S (fun q : Nat => s.heap.size ≤ q) s.heap H locs) (ls : Array Slot) (hl : lv_has ls 4 [(0, .ref b), (1, .ref (a 0)), (2, .ref (a2 0)), (3, .int (nI i))]) : W p l e room_1 s m #[Value.ref b] below meth c H locs 28 2553 (lw_Z below #[Value.ref b] s) (F0 m 1198 ls []) := by
  obtain ⟨hx, hb, hr, hml, hown, hts, hX, hbl, hlocks, hgv⟩ := C0
  have hU : ∀ w ∈ wsL_law, w.before #[Value.ref b] s = true := fun w h => hts w (wsL_law_in w h)
  have hF : CF p m c cL_law 4 s #[Value.ref b] RL := ⟨hx, hb, hml, hown, hU⟩
  have hA : ∀ q : Nat, s.heap.size ≤ q → (fun q : Nat => s.heap.size ≤ q) q := fun _ h => h
  have hbA : ¬ (fun q : Nat => s.heap.size ≤ q) b := Nat.not_le.mpr hbl
  refine lv_aload_n hx hb dL_law_1198 rfl (lv_at hl 1 rfl) ?_
  refine lv_aload_n hx hb dL_law_1199 rfl (lv_at hl 0 rfl) ?_
  refine lv_iload_n hx hb dL_law_1200 rfl (lv_at hl 3 rfl) ?_
  refine lv_iconst (v := 1) hx hb dL_law_1201 (by decide) ?_
  refine lv_iadd hx hb dL_law_1202 ?_
  refine x_sld hx hb hX hbl hbA hS (j := i + 1) (nI_add i 1) (by omega) (by omega) dL_law_1203 ?_
  refine rcV (n := 1) (As := [.int (xs (i + 1))]) (rest := []) hF (c_X4_unlike l k a S T dr tr C F G (xs (i + 1)) n hR.1 hR.2.1) (P_l hP) hK 0 (ci := 4) rfl rfl rfl uC_X4_unlike uN_X4 uM_L_131 uI_X4_unlike uE_X4_unlike (by decide +kernel) rfl ⟨Nat.le_of_ble_eq_true rfl, Nat.le_of_ble_eq_true rfl⟩ ⟨Nat.le_of_ble_eq_true rfl, Nat.le_of_ble_eq_true rfl⟩ hl.1 rfl (Nat.le_of_ble_eq_true rfl) dL_law_1204 ?_
  refine lv_aload_n hx hb dL_law_1207 rfl (lv_at hl 2 rfl) ?_
  refine lv_aload_n hx hb dL_law_1208 rfl (lv_at hl 0 rfl) ?_
  refine lv_iload_n hx hb dL_law_1209 rfl (lv_at hl 3 rfl) ?_
  refine lv_iconst (v := 1) hx hb dL_law_1210 (by decide) ?_
  refine lv_iadd hx hb dL_law_1211 ?_
  refine x_sld hx hb hX hbl hbA hS (j := i + 1) (nI_add i 1) (by omega) (by omega) dL_law_1212 ?_
  refine rcV (n := 1) (As := [.int (xs (i + 1))]) (rest := [.int (w_X4_unlike C G (xs (i + 1)))]) hF (c_X5_unlike l k a2 M (xs (i + 1))) (P_r hP) hK 0 (ci := 5) rfl rfl rfl uC_X5_unlike uN_X5 uM_L_134 uI_X5_unlike uE_X5_unlike (by decide +kernel) rfl ⟨Nat.le_of_ble_eq_true rfl, Nat.le_of_ble_eq_true rfl⟩ ⟨Nat.le_of_ble_eq_true rfl, Nat.le_of_ble_eq_true rfl⟩ hl.1 rfl (Nat.le_of_ble_eq_true rfl) dL_law_1213 ?_
  obtain ⟨e1, n2, hR2⟩ := rl_unlike hR T tr F (xs (i + 1))
  refine lv_icmp_eq (tgt := 1287) hx hb dL_law_1216 (by decide) (fun c9 => ?_) (fun c9 => absurd e1 c9)
  refine lv_iinc (v := nI (i + 7)) (lv' := [(3, .int (nI (i + 7))), (0, .ref b), (1, .ref (a 0)), (2, .ref (a2 0))]) hx hb dL_law_1287 hl (k := 3) rfl (nI_add i 7) (by decide) rfl (fun ls hl => ?_)
  refine lv_goto (tgt := 30) hx hb dL_law_1290 (by decide) ?_
  exact ih _ _ _ _ _ _ _ _ n2 hR2 _ _ hP hD hS ls (lv_sub hl [1, 2, 3, 0] rfl)

set_option maxHeartbeats 4000000 in
set_option maxRecDepth 100000 in
theorem law_far {p : Program} {l : Launch} {e : Env} {s : State} {m : MethodId} {below : List Frame} {meth : Method} {c : Code} {k : KT} {a a2 : Nat → Nat} {b L i : Nat} {xs : Nat → Int32} (hL : L ≤ 3585) (C0 : lw_At p s m meth c b L xs) (hK : KK k s) (hi : i + 7 ≤ L) (ih : ∀ (S : SeaT) (T : TalT) (dr tr : Int64) (C : ChoT) (F : Nat → Int32) (G : GoT) (M : ModT) (n : Nat), Rl S C G dr M n → ∀ (H : Heap) (locs : List Loc), va_P k.1 vwCl (xW k a S T dr tr C F G ++ mW k a2 M) H → va_D (fun q : Nat => s.heap.size ≤ q) (xW k a S T dr tr C F G ++ mW k a2 M) → va_S (fun q : Nat => s.heap.size ≤ q) s.heap H locs → ∀ ls : Array Slot, lv_has ls 4 [(0, .ref b), (1, .ref (a 0)), (2, .ref (a2 0)), (3, .int (nI (i + 7)))] → W p l e room_1 s m #[Value.ref b] below meth c H locs 28 2553 (lw_Z below #[Value.ref b] s) (F0 m 30 ls [])) (S : SeaT) (T : TalT) (dr tr : Int64) (C : ChoT) (F : Nat → Int32) (G : GoT) (M : ModT) (n : Nat) (hR : Rl S C G dr M n) (H : Heap) (locs : List Loc) (hP : va_P k.1 vwCl (xW k a S T dr tr C F G ++ mW k a2 M) H) (hD : va_D (fun q : Nat => s.heap.size ≤ q) (xW k a S T dr tr C F G ++ mW k a2 M)) (hS : va_S (fun q : Nat => s.heap.size ≤ q) s.heap H locs) (ls : Array Slot) (hl : lv_has ls 4 [(0, .ref b), (1, .ref (a 0)), (2, .ref (a2 0)), (3, .int (nI i))]) : W p l e room_1 s m #[Value.ref b] below meth c H locs 28 2553 (lw_Z below #[Value.ref b] s) (F0 m 1221 ls []) := by
  obtain ⟨hx, hb, hr, hml, hown, hts, hX, hbl, hlocks, hgv⟩ := C0
  have hU : ∀ w ∈ wsL_law, w.before #[Value.ref b] s = true := fun w h => hts w (wsL_law_in w h)
  have hF : CF p m c cL_law 4 s #[Value.ref b] RL := ⟨hx, hb, hml, hown, hU⟩
  have hA : ∀ q : Nat, s.heap.size ≤ q → (fun q : Nat => s.heap.size ≤ q) q := fun _ h => h
  have hbA : ¬ (fun q : Nat => s.heap.size ≤ q) b := Nat.not_le.mpr hbl
  refine lv_aload_n hx hb dL_law_1221 rfl (lv_at hl 1 rfl) ?_
  refine lv_aload_n hx hb dL_law_1222 rfl (lv_at hl 0 rfl) ?_
  refine lv_iload_n hx hb dL_law_1223 rfl (lv_at hl 3 rfl) ?_
  refine lv_iconst (v := 1) hx hb dL_law_1224 (by decide) ?_
  refine lv_iadd hx hb dL_law_1225 ?_
  refine x_sld hx hb hX hbl hbA hS (j := i + 1) (nI_add i 1) (by omega) (by omega) dL_law_1226 ?_
  refine lv_aload_n hx hb dL_law_1227 rfl (lv_at hl 0 rfl) ?_
  refine lv_iload_n hx hb dL_law_1228 rfl (lv_at hl 3 rfl) ?_
  refine lv_iconst (v := 2) hx hb dL_law_1229 (by decide) ?_
  refine lv_iadd hx hb dL_law_1230 ?_
  refine x_sld hx hb hX hbl hbA hS (j := i + 2) (nI_add i 2) (by omega) (by omega) dL_law_1231 ?_
  refine lv_aload_n hx hb dL_law_1232 rfl (lv_at hl 0 rfl) ?_
  refine lv_iload_n hx hb dL_law_1233 rfl (lv_at hl 3 rfl) ?_
  refine lv_iconst (v := 3) hx hb dL_law_1234 (by decide) ?_
  refine lv_iadd hx hb dL_law_1235 ?_
  refine x_sld hx hb hX hbl hbA hS (j := i + 3) (nI_add i 3) (by omega) (by omega) dL_law_1236 ?_
  refine lcX (n := 3) (As := [.int (xs (i + 1)), .int (xs (i + 2)), .int (xs (i + 3))]) (rest := []) hF (c_X4_far l k a S T dr tr C F G (xs (i + 1)) (xs (i + 2)) (xs (i + 3)) n hR.1 hR.2.1) hP hD hS hA hK 0 (ci := 4) rfl rfl rfl uC_X4_far uN_X4 uM_L_135 uI_X4_far uE_X4_far (by decide +kernel) rfl ⟨Nat.le_of_ble_eq_true rfl, Nat.le_of_ble_eq_true rfl⟩ ⟨Nat.le_of_ble_eq_true rfl, Nat.le_of_ble_eq_true rfl⟩ hl.1 rfl (Nat.le_of_ble_eq_true rfl) dL_law_1237 (fun H locs hP hD hS => ?_)
  refine lv_aload_n hx hb dL_law_1240 rfl (lv_at hl 2 rfl) ?_
  refine lv_aload_n hx hb dL_law_1241 rfl (lv_at hl 0 rfl) ?_
  refine lv_iload_n hx hb dL_law_1242 rfl (lv_at hl 3 rfl) ?_
  refine lv_iconst (v := 1) hx hb dL_law_1243 (by decide) ?_
  refine lv_iadd hx hb dL_law_1244 ?_
  refine x_sld hx hb hX hbl hbA hS (j := i + 1) (nI_add i 1) (by omega) (by omega) dL_law_1245 ?_
  refine lv_aload_n hx hb dL_law_1246 rfl (lv_at hl 0 rfl) ?_
  refine lv_iload_n hx hb dL_law_1247 rfl (lv_at hl 3 rfl) ?_
  refine lv_iconst (v := 2) hx hb dL_law_1248 (by decide) ?_
  refine lv_iadd hx hb dL_law_1249 ?_
  refine x_sld hx hb hX hbl hbA hS (j := i + 2) (nI_add i 2) (by omega) (by omega) dL_law_1250 ?_
  refine lv_aload_n hx hb dL_law_1251 rfl (lv_at hl 0 rfl) ?_
  refine lv_iload_n hx hb dL_law_1252 rfl (lv_at hl 3 rfl) ?_
  refine lv_iconst (v := 3) hx hb dL_law_1253 (by decide) ?_
  refine lv_iadd hx hb dL_law_1254 ?_
  refine x_sld hx hb hX hbl hbA hS (j := i + 3) (nI_add i 3) (by omega) (by omega) dL_law_1255 ?_
  refine lcM (n := 3) (As := [.int (xs (i + 1)), .int (xs (i + 2)), .int (xs (i + 3))]) (rest := [.int (w_X4_far S (xs (i + 1)) (xs (i + 2)) (xs (i + 3)))]) hF (c_X5_far l k a2 M (xs (i + 1)) (xs (i + 2)) (xs (i + 3)) n hR.1 hR.2.2.1) hP hD hS hA hK 0 (ci := 5) rfl rfl rfl uC_X5_far uN_X5 uM_L_139 uI_X5_far uE_X5_far (by decide +kernel) rfl ⟨Nat.le_of_ble_eq_true rfl, Nat.le_of_ble_eq_true rfl⟩ ⟨Nat.le_of_ble_eq_true rfl, Nat.le_of_ble_eq_true rfl⟩ hl.1 rfl (Nat.le_of_ble_eq_true rfl) dL_law_1256 (fun H locs hP hD hS => ?_)
  obtain ⟨e1, n2, hR2⟩ := rl_far hR T tr F (xs (i + 1)) (xs (i + 2)) (xs (i + 3))
  refine lv_icmp_eq (tgt := 1287) hx hb dL_law_1259 (by decide) (fun c9 => ?_) (fun c9 => absurd e1 c9)
  refine lv_iinc (v := nI (i + 7)) (lv' := [(3, .int (nI (i + 7))), (0, .ref b), (1, .ref (a 0)), (2, .ref (a2 0))]) hx hb dL_law_1287 hl (k := 3) rfl (nI_add i 7) (by decide) rfl (fun ls hl => ?_)
  refine lv_goto (tgt := 30) hx hb dL_law_1290 (by decide) ?_
  exact ih _ _ _ _ _ _ _ _ n2 hR2 _ _ hP hD hS ls (lv_sub hl [1, 2, 3, 0] rfl)

set_option maxHeartbeats 4000000 in
set_option maxRecDepth 100000 in
theorem law_tie {p : Program} {l : Launch} {e : Env} {s : State} {m : MethodId} {below : List Frame} {meth : Method} {c : Code} {k : KT} {a a2 : Nat → Nat} {b L i : Nat} {xs : Nat → Int32} (hL : L ≤ 3585) (C0 : lw_At p s m meth c b L xs) (hK : KK k s) (hi : i + 7 ≤ L) (ih : ∀ (S : SeaT) (T : TalT) (dr tr : Int64) (C : ChoT) (F : Nat → Int32) (G : GoT) (M : ModT) (n : Nat), Rl S C G dr M n → ∀ (H : Heap) (locs : List Loc), va_P k.1 vwCl (xW k a S T dr tr C F G ++ mW k a2 M) H → va_D (fun q : Nat => s.heap.size ≤ q) (xW k a S T dr tr C F G ++ mW k a2 M) → va_S (fun q : Nat => s.heap.size ≤ q) s.heap H locs → ∀ ls : Array Slot, lv_has ls 4 [(0, .ref b), (1, .ref (a 0)), (2, .ref (a2 0)), (3, .int (nI (i + 7)))] → W p l e room_1 s m #[Value.ref b] below meth c H locs 28 2553 (lw_Z below #[Value.ref b] s) (F0 m 30 ls [])) (S : SeaT) (T : TalT) (dr tr : Int64) (C : ChoT) (F : Nat → Int32) (G : GoT) (M : ModT) (n : Nat) (hR : Rl S C G dr M n) (H : Heap) (locs : List Loc) (hP : va_P k.1 vwCl (xW k a S T dr tr C F G ++ mW k a2 M) H) (hD : va_D (fun q : Nat => s.heap.size ≤ q) (xW k a S T dr tr C F G ++ mW k a2 M)) (hS : va_S (fun q : Nat => s.heap.size ≤ q) s.heap H locs) (ls : Array Slot) (hl : lv_has ls 4 [(0, .ref b), (1, .ref (a 0)), (2, .ref (a2 0)), (3, .int (nI i))]) : W p l e room_1 s m #[Value.ref b] below meth c H locs 28 2553 (lw_Z below #[Value.ref b] s) (F0 m 1264 ls []) := by
  obtain ⟨hx, hb, hr, hml, hown, hts, hX, hbl, hlocks, hgv⟩ := C0
  have hU : ∀ w ∈ wsL_law, w.before #[Value.ref b] s = true := fun w h => hts w (wsL_law_in w h)
  have hF : CF p m c cL_law 4 s #[Value.ref b] RL := ⟨hx, hb, hml, hown, hU⟩
  have hA : ∀ q : Nat, s.heap.size ≤ q → (fun q : Nat => s.heap.size ≤ q) q := fun _ h => h
  have hbA : ¬ (fun q : Nat => s.heap.size ≤ q) b := Nat.not_le.mpr hbl
  refine lv_aload_n hx hb dL_law_1264 rfl (lv_at hl 1 rfl) ?_
  refine lv_aload_n hx hb dL_law_1265 rfl (lv_at hl 0 rfl) ?_
  refine lv_iload_n hx hb dL_law_1266 rfl (lv_at hl 3 rfl) ?_
  refine lv_iconst (v := 1) hx hb dL_law_1267 (by decide) ?_
  refine lv_iadd hx hb dL_law_1268 ?_
  refine x_sld hx hb hX hbl hbA hS (j := i + 1) (nI_add i 1) (by omega) (by omega) dL_law_1269 ?_
  refine lcX (n := 1) (As := [.int (xs (i + 1))]) (rest := []) hF (c_X4_tie l k a S T dr tr C F G (xs (i + 1)) n hR.1 hR.2.1) hP hD hS hA hK 0 (ci := 4) rfl rfl rfl uC_X4_tie uN_X4 uM_L_140 uI_X4_tie uE_X4_tie (by decide +kernel) rfl ⟨Nat.le_of_ble_eq_true rfl, Nat.le_of_ble_eq_true rfl⟩ ⟨Nat.le_of_ble_eq_true rfl, Nat.le_of_ble_eq_true rfl⟩ hl.1 rfl (Nat.le_of_ble_eq_true rfl) dL_law_1270 (fun H locs hP hD hS => ?_)
  refine lv_aload_n hx hb dL_law_1273 rfl (lv_at hl 2 rfl) ?_
  refine lv_aload_n hx hb dL_law_1274 rfl (lv_at hl 0 rfl) ?_
  refine lv_iload_n hx hb dL_law_1275 rfl (lv_at hl 3 rfl) ?_
  refine lv_iconst (v := 1) hx hb dL_law_1276 (by decide) ?_
  refine lv_iadd hx hb dL_law_1277 ?_
  refine x_sld hx hb hX hbl hbA hS (j := i + 1) (nI_add i 1) (by omega) (by omega) dL_law_1278 ?_
  refine rcV (n := 1) (As := [.int (xs (i + 1))]) (rest := [.int (w_X4_tie S T C (xs (i + 1)) n)]) hF (c_X5_tie l k a2 M (xs (i + 1)) n hR.1 hR.2.2.1) (P_r hP) hK 0 (ci := 5) rfl rfl rfl uC_X5_tie uN_X5 uM_L_143 uI_X5_tie uE_X5_tie (by decide +kernel) rfl ⟨Nat.le_of_ble_eq_true rfl, Nat.le_of_ble_eq_true rfl⟩ ⟨Nat.le_of_ble_eq_true rfl, Nat.le_of_ble_eq_true rfl⟩ hl.1 rfl (Nat.le_of_ble_eq_true rfl) dL_law_1279 ?_
  obtain ⟨e1, n2, hR2⟩ := rl_tie hR T tr F (xs (i + 1))
  refine lv_icmp_eq (tgt := 1287) hx hb dL_law_1282 (by decide) (fun c9 => ?_) (fun c9 => absurd e1 c9)
  refine lv_iinc (v := nI (i + 7)) (lv' := [(3, .int (nI (i + 7))), (0, .ref b), (1, .ref (a 0)), (2, .ref (a2 0))]) hx hb dL_law_1287 hl (k := 3) rfl (nI_add i 7) (by decide) rfl (fun ls hl => ?_)
  refine lv_goto (tgt := 30) hx hb dL_law_1290 (by decide) ?_
  exact ih _ _ _ _ _ _ _ _ n2 hR2 _ _ hP hD hS ls (lv_sub hl [1, 2, 3, 0] rfl)

set_option maxHeartbeats 4000000 in
set_option maxRecDepth 100000 in
theorem lw_le {L i : Nat} (hL : L ≤ 3585) (hi : i ≤ L + 7) (h : ¬ (Int32.ofNat L - 7) < nI i) : i + 7 ≤ L := by
  rcases Nat.lt_or_ge L (i + 7) with h1 | h1
  · exfalso; apply h; rw [Int32.lt_iff_toInt_lt, show (Int32.ofNat L - 7 : Int32) = nI L - nI 7 from rfl, pk_sub_toInt (by omega) (by omega), nI_toInt (by omega)]; omega
  · exact h1
set_option maxHeartbeats 4000000 in
set_option maxRecDepth 100000 in
theorem law_loop {p : Program} {l : Launch} {e : Env} {s : State} {m : MethodId} {below : List Frame} {meth : Method} {c : Code} {k : KT} {a a2 : Nat → Nat} {b L : Nat} {xs : Nat → Int32} (hL : L ≤ 3585) (C0 : lw_At p s m meth c b L xs) (hK : KK k s) : ∀ (r i : Nat), i ≤ L + 7 → L + 1 ≤ i + r → ∀ (S : SeaT) (T : TalT) (dr tr : Int64) (C : ChoT) (F : Nat → Int32) (G : GoT) (M : ModT) (n : Nat), Rl S C G dr M n → ∀ (H : Heap) (locs : List Loc), va_P k.1 vwCl (xW k a S T dr tr C F G ++ mW k a2 M) H → va_D (fun q : Nat => s.heap.size ≤ q) (xW k a S T dr tr C F G ++ mW k a2 M) → va_S (fun q : Nat => s.heap.size ≤ q) s.heap H locs → ∀ ls : Array Slot, lv_has ls 4 [(0, .ref b), (1, .ref (a 0)), (2, .ref (a2 0)), (3, .int (nI i))] → W p l e room_1 s m #[Value.ref b] below meth c H locs 28 2553 (lw_Z below #[Value.ref b] s) (F0 m 30 ls []) := by
  obtain ⟨hx, hb, hr, hml, hown, hts, hX, hbl, hlocks, hgv⟩ := id C0
  have hA : ∀ q : Nat, s.heap.size ≤ q → (fun q : Nat => s.heap.size ≤ q) q := fun _ h => h
  have hbA : ¬ (fun q : Nat => s.heap.size ≤ q) b := Nat.not_le.mpr hbl
  intro r
  induction r with
  | zero =>
    intro i hi1 hir S T dr tr C F G M n hR H locs hP hD hS ls hl
    refine lv_iload_n hx hb dL_law_30 rfl (lv_at hl 3 rfl) ?_
    refine lv_aload_n hx hb dL_law_31 rfl (lv_at hl 0 rfl) ?_
    refine va_slen hx hb hX hbl hbA hS dL_law_32 ?_
    refine lv_bipush (v := 7) hx hb dL_law_33 (by decide) ?_
    refine lv_isub hx hb dL_law_35 ?_
    refine xb_gt (tgt := 1293) hx hb dL_law_36 (by decide) (fun c_1 => ?_) (fun c_1 => ?_)
    · refine lv_iconst (v := 1) hx hb dL_law_1293 (by decide) ?_
      refine va_forget (fun q hq => hS.2.2 q hq) ?_
      exact lw_ret hx hb hr hlocks dL_law_1294
    · exact absurd (lw_le hL hi1 c_1) (by omega)
  | succ r ih =>
    intro i hi1 hir S T dr tr C F G M n hR H locs hP hD hS ls hl
    refine lv_iload_n hx hb dL_law_30 rfl (lv_at hl 3 rfl) ?_
    refine lv_aload_n hx hb dL_law_31 rfl (lv_at hl 0 rfl) ?_
    refine va_slen hx hb hX hbl hbA hS dL_law_32 ?_
    refine lv_bipush (v := 7) hx hb dL_law_33 (by decide) ?_
    refine lv_isub hx hb dL_law_35 ?_
    refine xb_gt (tgt := 1293) hx hb dL_law_36 (by decide) (fun c_1 => ?_) (fun c_1 => ?_)
    · refine lv_iconst (v := 1) hx hb dL_law_1293 (by decide) ?_
      refine va_forget (fun q hq => hS.2.2 q hq) ?_
      exact lw_ret hx hb hr hlocks dL_law_1294
    · have hi := lw_le hL hi1 c_1
      refine lv_aload_n hx hb dL_law_39 rfl (lv_at hl 0 rfl) ?_
      refine lv_iload_n hx hb dL_law_40 rfl (lv_at hl 3 rfl) ?_
      refine x_sld hx hb hX hbl hbA hS (j := i) rfl (by omega) (by omega) dL_law_41 ?_
      refine lv_bipush (v := 31) hx hb dL_law_42 (by decide) ?_
      refine lv_iand hx hb dL_law_44 ?_
      obtain ⟨j, hj, ej⟩ := pk_andE (xs i) (m := 31) 5 (by decide)
      refine W.eq (g2 := F0 m 45 ls [.int (nI j)]) (by rw [ej]; try rfl) ?_
      have ih2 := fun S T dr tr C F G M n hR H locs hP hD hS ls hl => ih (i + 7) (by omega) (by omega) S T dr tr C F G M n hR H locs hP hD hS ls hl
      match j, hj with
      | 0, _ =>
        refine lv_tableIn (tgt := 168) hx hb dL_law_45 (by decide) (by decide) rfl (by decide) ?_
        exact law_cell hL C0 hK hi ih2 S T dr tr C F G M n hR H locs hP hD hS ls hl
      | 1, _ =>
        refine lv_tableIn (tgt := 221) hx hb dL_law_45 (by decide) (by decide) rfl (by decide) ?_
        exact law_holds hL C0 hK hi ih2 S T dr tr C F G M n hR H locs hP hD hS ls hl
      | 2, _ =>
        refine lv_tableIn (tgt := 336) hx hb dL_law_45 (by decide) (by decide) rfl (by decide) ?_
        exact law_goal hL C0 hK hi ih2 S T dr tr C F G M n hR H locs hP hD hS ls hl
      | 3, _ =>
        refine lv_tableIn (tgt := 439) hx hb dL_law_45 (by decide) (by decide) rfl (by decide) ?_
        exact law_near hL C0 hK hi ih2 S T dr tr C F G M n hR H locs hP hD hS ls hl
      | 4, _ =>
        refine lv_tableIn (tgt := 512) hx hb dL_law_45 (by decide) (by decide) rfl (by decide) ?_
        exact law_weight hL C0 hK hi ih2 S T dr tr C F G M n hR H locs hP hD hS ls hl
      | 5, _ =>
        refine lv_tableIn (tgt := 565) hx hb dL_law_45 (by decide) (by decide) rfl (by decide) ?_
        exact law_must hL C0 hK hi ih2 S T dr tr C F G M n hR H locs hP hD hS ls hl
      | 6, _ =>
        refine lv_tableIn (tgt := 588) hx hb dL_law_45 (by decide) (by decide) rfl (by decide) ?_
        exact law_bar hL C0 hK hi ih2 S T dr tr C F G M n hR H locs hP hD hS ls hl
      | 7, _ =>
        refine lv_tableIn (tgt := 611) hx hb dL_law_45 (by decide) (by decide) rfl (by decide) ?_
        exact law_zone hL C0 hK hi ih2 S T dr tr C F G M n hR H locs hP hD hS ls hl
      | 8, _ =>
        refine lv_tableIn (tgt := 644) hx hb dL_law_45 (by decide) (by decide) rfl (by decide) ?_
        exact law_run hL C0 hK hi ih2 S T dr tr C F G M n hR H locs hP hD hS ls hl
      | 9, _ =>
        refine lv_tableIn (tgt := 697) hx hb dL_law_45 (by decide) (by decide) rfl (by decide) ?_
        exact law_chosen hL C0 hK hi ih2 S T dr tr C F G M n hR H locs hP hD hS ls hl
      | 10, _ =>
        refine lv_tableIn (tgt := 720) hx hb dL_law_45 (by decide) (by decide) rfl (by decide) ?_
        exact law_cost hL C0 hK hi ih2 S T dr tr C F G M n hR H locs hP hD hS ls hl
      | 11, _ =>
        refine lv_tableIn (tgt := 734) hx hb dL_law_45 (by decide) (by decide) rfl (by decide) ?_
        exact law_bound hL C0 hK hi ih2 S T dr tr C F G M n hR H locs hP hD hS ls hl
      | 12, _ =>
        refine lv_tableIn (tgt := 748) hx hb dL_law_45 (by decide) (by decide) rfl (by decide) ?_
        exact law_met hL C0 hK hi ih2 S T dr tr C F G M n hR H locs hP hD hS ls hl
      | 13, _ =>
        refine lv_tableIn (tgt := 782) hx hb dL_law_45 (by decide) (by decide) rfl (by decide) ?_
        exact law_clash hL C0 hK hi ih2 S T dr tr C F G M n hR H locs hP hD hS ls hl
      | 14, _ =>
        refine lv_tableIn (tgt := 805) hx hb dL_law_45 (by decide) (by decide) rfl (by decide) ?_
        exact law_proved hL C0 hK hi ih2 S T dr tr C F G M n hR H locs hP hD hS ls hl
      | 15, _ =>
        refine lv_tableIn (tgt := 818) hx hb dL_law_45 (by decide) (by decide) rfl (by decide) ?_
        exact law_improve hL C0 hK hi ih2 S T dr tr C F G M n hR H locs hP hD hS ls hl
      | 16, _ =>
        refine lv_tableIn (tgt := 841) hx hb dL_law_45 (by decide) (by decide) rfl (by decide) ?_
        exact law_often hL C0 hK hi ih2 S T dr tr C F G M n hR H locs hP hD hS ls hl
      | 17, _ =>
        refine lv_tableIn (tgt := 875) hx hb dL_law_45 (by decide) (by decide) rfl (by decide) ?_
        exact law_port hL C0 hK hi ih2 S T dr tr C F G M n hR H locs hP hD hS ls hl
      | 18, _ =>
        refine lv_tableIn (tgt := 948) hx hb dL_law_45 (by decide) (by decide) rfl (by decide) ?_
        exact law_loss hL C0 hK hi ih2 S T dr tr C F G M n hR H locs hP hD hS ls hl
      | 19, _ =>
        refine lv_tableIn (tgt := 982) hx hb dL_law_45 (by decide) (by decide) rfl (by decide) ?_
        exact law_fair hL C0 hK hi ih2 S T dr tr C F G M n hR H locs hP hD hS ls hl
      | 20, _ =>
        refine lv_tableIn (tgt := 1075) hx hb dL_law_45 (by decide) (by decide) rfl (by decide) ?_
        exact law_border hL C0 hK hi ih2 S T dr tr C F G M n hR H locs hP hD hS ls hl
      | 21, _ =>
        refine lv_tableIn (tgt := 1089) hx hb dL_law_45 (by decide) (by decide) rfl (by decide) ?_
        exact law_size hL C0 hK hi ih2 S T dr tr C F G M n hR H locs hP hD hS ls hl
      | 22, _ =>
        refine lv_tableIn (tgt := 1112) hx hb dL_law_45 (by decide) (by decide) rfl (by decide) ?_
        exact law_year hL C0 hK hi ih2 S T dr tr C F G M n hR H locs hP hD hS ls hl
      | 23, _ =>
        refine lv_tableIn (tgt := 1135) hx hb dL_law_45 (by decide) (by decide) rfl (by decide) ?_
        exact law_wind hL C0 hK hi ih2 S T dr tr C F G M n hR H locs hP hD hS ls hl
      | 24, _ =>
        refine lv_tableIn (tgt := 1198) hx hb dL_law_45 (by decide) (by decide) rfl (by decide) ?_
        exact law_unlike hL C0 hK hi ih2 S T dr tr C F G M n hR H locs hP hD hS ls hl
      | 25, _ =>
        refine lv_tableIn (tgt := 1221) hx hb dL_law_45 (by decide) (by decide) rfl (by decide) ?_
        exact law_far hL C0 hK hi ih2 S T dr tr C F G M n hR H locs hP hD hS ls hl
      | 26, _ =>
        refine lv_tableIn (tgt := 1264) hx hb dL_law_45 (by decide) (by decide) rfl (by decide) ?_
        exact law_tie hL C0 hK hi ih2 S T dr tr C F G M n hR H locs hP hD hS ls hl
      | j + 27, hj =>
        refine lv_tableOut (tgt := 1287) hx hb dL_law_45 (Or.inr (by rw [nI_toInt (by omega)]; omega)) (by decide) ?_
        refine lv_iinc (v := nI (i + 7)) (lv' := [(3, .int (nI (i + 7))), (0, .ref b), (1, .ref (a 0)), (2, .ref (a2 0))]) hx hb dL_law_1287 hl (k := 3) rfl (nI_add i 7) (by decide) rfl (fun ls hl => ?_)
        refine lv_goto (tgt := 30) hx hb dL_law_1290 (by decide) ?_
        exact ih2 _ _ _ _ _ _ _ _ n hR _ _ hP hD hS ls (lv_sub hl [1, 2, 3, 0] rfl)
