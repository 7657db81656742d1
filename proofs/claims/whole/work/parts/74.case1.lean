/-! The law's cases. -/
set_option maxHeartbeats 4000000 in
theorem lw_c0 {p : Program} {l : Launch} {e : Env} {s : State} {m : MethodId} {below : List Frame} {meth : Method} {c : Code} {H : Heap} {locs : List Loc} {Q : State → Prop} {D : va_G} {cA : Nat → ClassId} {ls : Array Slot} {b L i : Nat} {xs : Nat → Int32} {A : es_A} (C : mb_C p s m #[Value.ref b] c D cA code R_law) (hml : c.maxLocals = 4) (hX : va_X b L xs s s.heap) (hbl : b < s.heap.size) (hL : L ≤ 3584) (hi : i + 7 ≤ L) (hl : lv_has ls 4 [(3, .int (nI i)), (2, .ref (s.heap.size + 212)), (1, .ref s.heap.size), (0, .ref b)]) (S : lw_St D cA s H locs A)
    (kk : ∀ (H : Heap) (locs : List Loc) (A : es_A), lw_St D cA s H locs A → W p l e room_1 s m #[Value.ref b] below meth c H locs 229 7239 Q (F0 m 1182 ls [])) : W p l e room_1 s m #[Value.ref b] below meth c H locs 229 7239 Q (F0 m 152 ls []) := by
  obtain ⟨hx, hb, hown, gw, hK, hN, hO⟩ := id C
  obtain ⟨μ1, μ2, hc, hm, hP1, hP2, hS⟩ := S
  have h0 := lv_at hl 3 rfl
  have h3 := lv_at hl 0 rfl
  refine lv_aload_n hx hb dL_152 rfl (lv_at hl 2 rfl) ?_
  refine lw_ld (k := 1) hx hb hX hbl hS h0 h3 hi hL (by decide) (by decide) dL_153 dL_154 dL_155 (by decide +kernel) dL_156 dL_157 ?_
  refine lw_ld (k := 2) hx hb hX hbl hS h0 h3 hi hL (by decide) (by decide) dL_158 dL_159 dL_160 (by decide +kernel) dL_161 dL_162 ?_
  refine lw_ld (k := 3) hx hb hX hbl hS h0 h3 hi hL (by decide) (by decide) dL_163 dL_164 dL_165 (by decide +kernel) dL_166 dL_167 ?_
  obtain ⟨r1, μ3, hR1, hr1, hc1⟩ := c_make 0 hc ((xs (i + 1))) ((xs (i + 2))) ((xs (i + 3)))
  refine lw_call1 (d := 0 + 5) (y := n_ES_make) (me := me_ES_make) (as := [mz_I (xs (i + 1)), mz_I (xs (i + 2)), mz_I (xs (i + 3))]) (rest := []) C hml hl.1 hP1 hP2 hS hR1 rfl rfl rfl rfl rfl (Nat.le_of_ble_eq_true rfl) (show Cond.methodLink R_law 13 me_ES_make.1 ∈ lw_tbl by decide +kernel) (Nat.le_of_ble_eq_true rfl) (Nat.le_of_ble_eq_true rfl) dL_168 (fun H locs hP1 hP2 hS => ?_)
  refine lv_aload_n hx hb dL_171 rfl (lv_at hl 1 rfl) ?_
  refine lw_ld (k := 1) hx hb hX hbl hS h0 h3 hi hL (by decide) (by decide) dL_172 dL_173 dL_174 (by decide +kernel) dL_175 dL_176 ?_
  refine lw_ld (k := 2) hx hb hX hbl hS h0 h3 hi hL (by decide) (by decide) dL_177 dL_178 dL_179 (by decide +kernel) dL_180 dL_181 ?_
  refine lw_ld (k := 3) hx hb hX hbl hS h0 h3 hi hL (by decide) (by decide) dL_182 dL_183 dL_184 (by decide +kernel) dL_185 dL_186 ?_
  obtain ⟨r2, μ4, hR2, hr2, hm1⟩ := q_make 0 hm ((xs (i + 1))) ((xs (i + 2))) ((xs (i + 3)))
  refine lw_call2 (d := 0 + 3) (y := n_Mo_make) (me := me_Mo_make) (as := [mz_I (xs (i + 1)), mz_I (xs (i + 2)), mz_I (xs (i + 3))]) (rest := [.int r1]) C hml hl.1 hP1 hP2 hS hR2 rfl rfl rfl rfl rfl (Nat.le_of_ble_eq_true rfl) (show Cond.methodLink R_law 17 me_Mo_make.1 ∈ lw_tbl by decide +kernel) (Nat.le_of_ble_eq_true rfl) (Nat.le_of_ble_eq_true rfl) dL_187 (fun H locs hP1 hP2 hS => ?_)
  exact lv_icmp_eq (tgt := 1182) hx hb dL_190 (by decide) (fun _ => kk H locs _ ⟨μ3, μ4, hc1, hm1, hP1, hP2, hS⟩) (fun q => absurd (hr1.trans hr2.symm) q)
set_option maxHeartbeats 4000000 in
theorem lw_c1 {p : Program} {l : Launch} {e : Env} {s : State} {m : MethodId} {below : List Frame} {meth : Method} {c : Code} {H : Heap} {locs : List Loc} {Q : State → Prop} {D : va_G} {cA : Nat → ClassId} {ls : Array Slot} {b L i : Nat} {xs : Nat → Int32} {A : es_A} (C : mb_C p s m #[Value.ref b] c D cA code R_law) (hml : c.maxLocals = 4) (hX : va_X b L xs s s.heap) (hbl : b < s.heap.size) (hL : L ≤ 3584) (hi : i + 7 ≤ L) (hl : lv_has ls 4 [(3, .int (nI i)), (2, .ref (s.heap.size + 212)), (1, .ref s.heap.size), (0, .ref b)]) (S : lw_St D cA s H locs A)
    (kk : ∀ (H : Heap) (locs : List Loc) (A : es_A), lw_St D cA s H locs A → W p l e room_1 s m #[Value.ref b] below meth c H locs 229 7239 Q (F0 m 1182 ls [])) : W p l e room_1 s m #[Value.ref b] below meth c H locs 229 7239 Q (F0 m 195 ls []) := by
  obtain ⟨hx, hb, hown, gw, hK, hN, hO⟩ := id C
  obtain ⟨μ1, μ2, hc, hm, hP1, hP2, hS⟩ := S
  have h0 := lv_at hl 3 rfl
  have h3 := lv_at hl 0 rfl
  refine lv_aload_n hx hb dL_195 rfl (lv_at hl 2 rfl) ?_
  refine lw_ld (k := 1) hx hb hX hbl hS h0 h3 hi hL (by decide) (by decide) dL_196 dL_197 dL_198 (by decide +kernel) dL_199 dL_200 ?_
  refine lw_ld (k := 2) hx hb hX hbl hS h0 h3 hi hL (by decide) (by decide) dL_201 dL_202 dL_203 (by decide +kernel) dL_204 dL_205 ?_
  refine lw_ld (k := 3) hx hb hX hbl hS h0 h3 hi hL (by decide) (by decide) dL_206 dL_207 dL_208 (by decide +kernel) dL_209 dL_210 ?_
  refine lw_ld (k := 4) hx hb hX hbl hS h0 h3 hi hL (by decide) (by decide) dL_211 dL_212 dL_213 (by decide +kernel) dL_214 dL_215 ?_
  obtain ⟨r1, μ3, hR1, hr1, hc1⟩ := c_join 0 hc ((xs (i + 1))) ((xs (i + 2))) ((xs (i + 3))) ((xs (i + 4)))
  refine lw_call1 (d := 0 + 5) (y := n_ES_join) (me := me_ES_join) (as := [mz_I (xs (i + 1)), mz_I (xs (i + 2)), mz_I (xs (i + 3)), mz_I (xs (i + 4))]) (rest := []) C hml hl.1 hP1 hP2 hS hR1 rfl rfl rfl rfl rfl (Nat.le_of_ble_eq_true rfl) (show Cond.methodLink R_law 18 me_ES_join.1 ∈ lw_tbl by decide +kernel) (Nat.le_of_ble_eq_true rfl) (Nat.le_of_ble_eq_true rfl) dL_216 (fun H locs hP1 hP2 hS => ?_)
  refine lv_aload_n hx hb dL_219 rfl (lv_at hl 1 rfl) ?_
  refine lw_ld (k := 1) hx hb hX hbl hS h0 h3 hi hL (by decide) (by decide) dL_220 dL_221 dL_222 (by decide +kernel) dL_223 dL_224 ?_
  refine lw_ld (k := 2) hx hb hX hbl hS h0 h3 hi hL (by decide) (by decide) dL_225 dL_226 dL_227 (by decide +kernel) dL_228 dL_229 ?_
  refine lw_ld (k := 3) hx hb hX hbl hS h0 h3 hi hL (by decide) (by decide) dL_230 dL_231 dL_232 (by decide +kernel) dL_233 dL_234 ?_
  refine lw_ld (k := 4) hx hb hX hbl hS h0 h3 hi hL (by decide) (by decide) dL_235 dL_236 dL_237 (by decide +kernel) dL_238 dL_239 ?_
  obtain ⟨r2, μ4, hR2, hr2, hm1⟩ := q_join 0 hm ((xs (i + 1))) ((xs (i + 2))) ((xs (i + 3))) ((xs (i + 4)))
  refine lw_call2 (d := 0 + 4) (y := n_Mo_join) (me := me_Mo_join) (as := [mz_I (xs (i + 1)), mz_I (xs (i + 2)), mz_I (xs (i + 3)), mz_I (xs (i + 4))]) (rest := [.int r1]) C hml hl.1 hP1 hP2 hS hR2 rfl rfl rfl rfl rfl (Nat.le_of_ble_eq_true rfl) (show Cond.methodLink R_law 22 me_Mo_join.1 ∈ lw_tbl by decide +kernel) (Nat.le_of_ble_eq_true rfl) (Nat.le_of_ble_eq_true rfl) dL_240 (fun H locs hP1 hP2 hS => ?_)
  exact lv_icmp_eq (tgt := 1182) hx hb dL_243 (by decide) (fun _ => kk H locs _ ⟨μ3, μ4, hc1, hm1, hP1, hP2, hS⟩) (fun q => absurd (hr1.trans hr2.symm) q)
set_option maxHeartbeats 4000000 in
theorem lw_c2 {p : Program} {l : Launch} {e : Env} {s : State} {m : MethodId} {below : List Frame} {meth : Method} {c : Code} {H : Heap} {locs : List Loc} {Q : State → Prop} {D : va_G} {cA : Nat → ClassId} {ls : Array Slot} {b L i : Nat} {xs : Nat → Int32} {A : es_A} (C : mb_C p s m #[Value.ref b] c D cA code R_law) (hml : c.maxLocals = 4) (hX : va_X b L xs s s.heap) (hbl : b < s.heap.size) (hL : L ≤ 3584) (hi : i + 7 ≤ L) (hl : lv_has ls 4 [(3, .int (nI i)), (2, .ref (s.heap.size + 212)), (1, .ref s.heap.size), (0, .ref b)]) (S : lw_St D cA s H locs A)
    (kk : ∀ (H : Heap) (locs : List Loc) (A : es_A), lw_St D cA s H locs A → W p l e room_1 s m #[Value.ref b] below meth c H locs 229 7239 Q (F0 m 1182 ls [])) : W p l e room_1 s m #[Value.ref b] below meth c H locs 229 7239 Q (F0 m 248 ls []) := by
  obtain ⟨hx, hb, hown, gw, hK, hN, hO⟩ := id C
  obtain ⟨μ1, μ2, hc, hm, hP1, hP2, hS⟩ := S
  have h0 := lv_at hl 3 rfl
  have h3 := lv_at hl 0 rfl
  refine lv_aload_n hx hb dL_248 rfl (lv_at hl 2 rfl) ?_
  refine lw_ld (k := 1) hx hb hX hbl hS h0 h3 hi hL (by decide) (by decide) dL_249 dL_250 dL_251 (by decide +kernel) dL_252 dL_253 ?_
  refine lw_ld (k := 2) hx hb hX hbl hS h0 h3 hi hL (by decide) (by decide) dL_254 dL_255 dL_256 (by decide +kernel) dL_257 dL_258 ?_
  refine lw_ld (k := 3) hx hb hX hbl hS h0 h3 hi hL (by decide) (by decide) dL_259 dL_260 dL_261 (by decide +kernel) dL_262 dL_263 ?_
  obtain ⟨r1, μ3, hR1, hr1, hc1⟩ := c_change 0 hc ((xs (i + 1))) ((xs (i + 2))) ((xs (i + 3)))
  refine lw_call1 (d := 0 + 5) (y := n_ES_change) (me := me_ES_change) (as := [mz_I (xs (i + 1)), mz_I (xs (i + 2)), mz_I (xs (i + 3))]) (rest := []) C hml hl.1 hP1 hP2 hS hR1 rfl rfl rfl rfl rfl (Nat.le_of_ble_eq_true rfl) (show Cond.methodLink R_law 23 me_ES_change.1 ∈ lw_tbl by decide +kernel) (Nat.le_of_ble_eq_true rfl) (Nat.le_of_ble_eq_true rfl) dL_264 (fun H locs hP1 hP2 hS => ?_)
  refine lv_aload_n hx hb dL_267 rfl (lv_at hl 1 rfl) ?_
  refine lw_ld (k := 1) hx hb hX hbl hS h0 h3 hi hL (by decide) (by decide) dL_268 dL_269 dL_270 (by decide +kernel) dL_271 dL_272 ?_
  refine lw_ld (k := 2) hx hb hX hbl hS h0 h3 hi hL (by decide) (by decide) dL_273 dL_274 dL_275 (by decide +kernel) dL_276 dL_277 ?_
  refine lw_ld (k := 3) hx hb hX hbl hS h0 h3 hi hL (by decide) (by decide) dL_278 dL_279 dL_280 (by decide +kernel) dL_281 dL_282 ?_
  obtain ⟨r2, μ4, hR2, hr2, hm1⟩ := q_change 0 hm ((xs (i + 1))) ((xs (i + 2))) ((xs (i + 3)))
  refine lw_call2 (d := 0 + 6) (y := n_Mo_change) (me := me_Mo_change) (as := [mz_I (xs (i + 1)), mz_I (xs (i + 2)), mz_I (xs (i + 3))]) (rest := [.int r1]) C hml hl.1 hP1 hP2 hS hR2 rfl rfl rfl rfl rfl (Nat.le_of_ble_eq_true rfl) (show Cond.methodLink R_law 26 me_Mo_change.1 ∈ lw_tbl by decide +kernel) (Nat.le_of_ble_eq_true rfl) (Nat.le_of_ble_eq_true rfl) dL_283 (fun H locs hP1 hP2 hS => ?_)
  exact lv_icmp_eq (tgt := 1182) hx hb dL_286 (by decide) (fun _ => kk H locs _ ⟨μ3, μ4, hc1, hm1, hP1, hP2, hS⟩) (fun q => absurd (hr1.trans hr2.symm) q)
set_option maxHeartbeats 4000000 in
theorem lw_c3 {p : Program} {l : Launch} {e : Env} {s : State} {m : MethodId} {below : List Frame} {meth : Method} {c : Code} {H : Heap} {locs : List Loc} {Q : State → Prop} {D : va_G} {cA : Nat → ClassId} {ls : Array Slot} {b L i : Nat} {xs : Nat → Int32} {A : es_A} (C : mb_C p s m #[Value.ref b] c D cA code R_law) (hml : c.maxLocals = 4) (hX : va_X b L xs s s.heap) (hbl : b < s.heap.size) (hL : L ≤ 3584) (hi : i + 7 ≤ L) (hl : lv_has ls 4 [(3, .int (nI i)), (2, .ref (s.heap.size + 212)), (1, .ref s.heap.size), (0, .ref b)]) (S : lw_St D cA s H locs A)
    (kk : ∀ (H : Heap) (locs : List Loc) (A : es_A), lw_St D cA s H locs A → W p l e room_1 s m #[Value.ref b] below meth c H locs 229 7239 Q (F0 m 1182 ls [])) : W p l e room_1 s m #[Value.ref b] below meth c H locs 229 7239 Q (F0 m 291 ls []) := by
  obtain ⟨hx, hb, hown, gw, hK, hN, hO⟩ := id C
  obtain ⟨μ1, μ2, hc, hm, hP1, hP2, hS⟩ := S
  have h0 := lv_at hl 3 rfl
  have h3 := lv_at hl 0 rfl
  refine lv_aload_n hx hb dL_291 rfl (lv_at hl 2 rfl) ?_
  refine lw_ld (k := 1) hx hb hX hbl hS h0 h3 hi hL (by decide) (by decide) dL_292 dL_293 dL_294 (by decide +kernel) dL_295 dL_296 ?_
  obtain ⟨r1, μ3, hR1, hr1, hc1⟩ := c_out 0 hc ((xs (i + 1)))
  refine lw_call1 (d := 0 + 5) (y := n_ES_out) (me := me_ES_out) (as := [mz_I (xs (i + 1))]) (rest := []) C hml hl.1 hP1 hP2 hS hR1 rfl rfl rfl rfl rfl (Nat.le_of_ble_eq_true rfl) (show Cond.methodLink R_law 27 me_ES_out.1 ∈ lw_tbl by decide +kernel) (Nat.le_of_ble_eq_true rfl) (Nat.le_of_ble_eq_true rfl) dL_297 (fun H locs hP1 hP2 hS => ?_)
  refine lv_aload_n hx hb dL_300 rfl (lv_at hl 1 rfl) ?_
  refine lw_ld (k := 1) hx hb hX hbl hS h0 h3 hi hL (by decide) (by decide) dL_301 dL_302 dL_303 (by decide +kernel) dL_304 dL_305 ?_
  obtain ⟨r2, μ4, hR2, hr2, hm1⟩ := q_out 0 hm ((xs (i + 1)))
  refine lw_call2 (d := 0 + 3) (y := n_Mo_out) (me := me_Mo_out) (as := [mz_I (xs (i + 1))]) (rest := [.int r1]) C hml hl.1 hP1 hP2 hS hR2 rfl rfl rfl rfl rfl (Nat.le_of_ble_eq_true rfl) (show Cond.methodLink R_law 31 me_Mo_out.1 ∈ lw_tbl by decide +kernel) (Nat.le_of_ble_eq_true rfl) (Nat.le_of_ble_eq_true rfl) dL_306 (fun H locs hP1 hP2 hS => ?_)
  exact lv_icmp_eq (tgt := 1182) hx hb dL_309 (by decide) (fun _ => kk H locs _ ⟨μ3, μ4, hc1, hm1, hP1, hP2, hS⟩) (fun q => absurd (hr1.trans hr2.symm) q)
set_option maxHeartbeats 4000000 in
theorem lw_c4 {p : Program} {l : Launch} {e : Env} {s : State} {m : MethodId} {below : List Frame} {meth : Method} {c : Code} {H : Heap} {locs : List Loc} {Q : State → Prop} {D : va_G} {cA : Nat → ClassId} {ls : Array Slot} {b L i : Nat} {xs : Nat → Int32} {A : es_A} (C : mb_C p s m #[Value.ref b] c D cA code R_law) (hml : c.maxLocals = 4) (hX : va_X b L xs s s.heap) (hbl : b < s.heap.size) (hL : L ≤ 3584) (hi : i + 7 ≤ L) (hl : lv_has ls 4 [(3, .int (nI i)), (2, .ref (s.heap.size + 212)), (1, .ref s.heap.size), (0, .ref b)]) (S : lw_St D cA s H locs A)
    (kk : ∀ (H : Heap) (locs : List Loc) (A : es_A), lw_St D cA s H locs A → W p l e room_1 s m #[Value.ref b] below meth c H locs 229 7239 Q (F0 m 1182 ls [])) : W p l e room_1 s m #[Value.ref b] below meth c H locs 229 7239 Q (F0 m 314 ls []) := by
  obtain ⟨hx, hb, hown, gw, hK, hN, hO⟩ := id C
  obtain ⟨μ1, μ2, hc, hm, hP1, hP2, hS⟩ := S
  have h0 := lv_at hl 3 rfl
  have h3 := lv_at hl 0 rfl
  refine lv_aload_n hx hb dL_314 rfl (lv_at hl 2 rfl) ?_
  refine lw_ld (k := 1) hx hb hX hbl hS h0 h3 hi hL (by decide) (by decide) dL_315 dL_316 dL_317 (by decide +kernel) dL_318 dL_319 ?_
  obtain ⟨r1, μ3, hR1, hr1, hc1⟩ := c_length 0 hc ((xs (i + 1)))
  refine lw_call1 (d := 0 + 4) (y := n_ES_length) (me := me_ES_length) (as := [mz_I (xs (i + 1))]) (rest := []) C hml hl.1 hP1 hP2 hS hR1 rfl rfl rfl rfl rfl (Nat.le_of_ble_eq_true rfl) (show Cond.methodLink R_law 32 me_ES_length.1 ∈ lw_tbl by decide +kernel) (Nat.le_of_ble_eq_true rfl) (Nat.le_of_ble_eq_true rfl) dL_320 (fun H locs hP1 hP2 hS => ?_)
  refine lv_aload_n hx hb dL_323 rfl (lv_at hl 1 rfl) ?_
  refine lw_ld (k := 1) hx hb hX hbl hS h0 h3 hi hL (by decide) (by decide) dL_324 dL_325 dL_326 (by decide +kernel) dL_327 dL_328 ?_
  obtain ⟨r2, μ4, hR2, hr2, hm1⟩ := q_length 0 hm ((xs (i + 1)))
  refine lw_call2 (d := 0 + 2) (y := n_Mo_length) (me := me_Mo_length) (as := [mz_I (xs (i + 1))]) (rest := [.int r1]) C hml hl.1 hP1 hP2 hS hR2 rfl rfl rfl rfl rfl (Nat.le_of_ble_eq_true rfl) (show Cond.methodLink R_law 35 me_Mo_length.1 ∈ lw_tbl by decide +kernel) (Nat.le_of_ble_eq_true rfl) (Nat.le_of_ble_eq_true rfl) dL_329 (fun H locs hP1 hP2 hS => ?_)
  exact lv_icmp_eq (tgt := 1182) hx hb dL_332 (by decide) (fun _ => kk H locs _ ⟨μ3, μ4, hc1, hm1, hP1, hP2, hS⟩) (fun q => absurd (hr1.trans hr2.symm) q)
set_option maxHeartbeats 4000000 in
theorem lw_c5 {p : Program} {l : Launch} {e : Env} {s : State} {m : MethodId} {below : List Frame} {meth : Method} {c : Code} {H : Heap} {locs : List Loc} {Q : State → Prop} {D : va_G} {cA : Nat → ClassId} {ls : Array Slot} {b L i : Nat} {xs : Nat → Int32} {A : es_A} (C : mb_C p s m #[Value.ref b] c D cA code R_law) (hml : c.maxLocals = 4) (hX : va_X b L xs s s.heap) (hbl : b < s.heap.size) (hL : L ≤ 3584) (hi : i + 7 ≤ L) (hl : lv_has ls 4 [(3, .int (nI i)), (2, .ref (s.heap.size + 212)), (1, .ref s.heap.size), (0, .ref b)]) (S : lw_St D cA s H locs A)
    (kk : ∀ (H : Heap) (locs : List Loc) (A : es_A), lw_St D cA s H locs A → W p l e room_1 s m #[Value.ref b] below meth c H locs 229 7239 Q (F0 m 1182 ls [])) : W p l e room_1 s m #[Value.ref b] below meth c H locs 229 7239 Q (F0 m 337 ls []) := by
  obtain ⟨hx, hb, hown, gw, hK, hN, hO⟩ := id C
  obtain ⟨μ1, μ2, hc, hm, hP1, hP2, hS⟩ := S
  have h0 := lv_at hl 3 rfl
  have h3 := lv_at hl 0 rfl
  refine lv_aload_n hx hb dL_337 rfl (lv_at hl 2 rfl) ?_
  refine lw_ld (k := 1) hx hb hX hbl hS h0 h3 hi hL (by decide) (by decide) dL_338 dL_339 dL_340 (by decide +kernel) dL_341 dL_342 ?_
  obtain ⟨r1, μ3, hR1, hr1, hc1⟩ := c_type 0 hc ((xs (i + 1)))
  refine lw_call1 (d := 0 + 2) (y := n_ES_type) (me := me_ES_type) (as := [mz_I (xs (i + 1))]) (rest := []) C hml hl.1 hP1 hP2 hS hR1 rfl rfl rfl rfl rfl (Nat.le_of_ble_eq_true rfl) (show Cond.methodLink R_law 36 me_ES_type.1 ∈ lw_tbl by decide +kernel) (Nat.le_of_ble_eq_true rfl) (Nat.le_of_ble_eq_true rfl) dL_343 (fun H locs hP1 hP2 hS => ?_)
  refine lv_aload_n hx hb dL_346 rfl (lv_at hl 1 rfl) ?_
  refine lw_ld (k := 1) hx hb hX hbl hS h0 h3 hi hL (by decide) (by decide) dL_347 dL_348 dL_349 (by decide +kernel) dL_350 dL_351 ?_
  obtain ⟨r2, μ4, hR2, hr2, hm1⟩ := q_type 0 hm ((xs (i + 1)))
  refine lw_call2 (d := 0 + 2) (y := n_Mo_type) (me := me_Mo_type) (as := [mz_I (xs (i + 1))]) (rest := [.int r1]) C hml hl.1 hP1 hP2 hS hR2 rfl rfl rfl rfl rfl (Nat.le_of_ble_eq_true rfl) (show Cond.methodLink R_law 39 me_Mo_type.1 ∈ lw_tbl by decide +kernel) (Nat.le_of_ble_eq_true rfl) (Nat.le_of_ble_eq_true rfl) dL_352 (fun H locs hP1 hP2 hS => ?_)
  exact lv_icmp_eq (tgt := 1182) hx hb dL_355 (by decide) (fun _ => kk H locs _ ⟨μ3, μ4, hc1, hm1, hP1, hP2, hS⟩) (fun q => absurd (hr1.trans hr2.symm) q)
set_option maxHeartbeats 4000000 in
theorem lw_c6 {p : Program} {l : Launch} {e : Env} {s : State} {m : MethodId} {below : List Frame} {meth : Method} {c : Code} {H : Heap} {locs : List Loc} {Q : State → Prop} {D : va_G} {cA : Nat → ClassId} {ls : Array Slot} {b L i : Nat} {xs : Nat → Int32} {A : es_A} (C : mb_C p s m #[Value.ref b] c D cA code R_law) (hml : c.maxLocals = 4) (hX : va_X b L xs s s.heap) (hbl : b < s.heap.size) (hL : L ≤ 3584) (hi : i + 7 ≤ L) (hl : lv_has ls 4 [(3, .int (nI i)), (2, .ref (s.heap.size + 212)), (1, .ref s.heap.size), (0, .ref b)]) (S : lw_St D cA s H locs A)
    (kk : ∀ (H : Heap) (locs : List Loc) (A : es_A), lw_St D cA s H locs A → W p l e room_1 s m #[Value.ref b] below meth c H locs 229 7239 Q (F0 m 1182 ls [])) : W p l e room_1 s m #[Value.ref b] below meth c H locs 229 7239 Q (F0 m 360 ls []) := by
  obtain ⟨hx, hb, hown, gw, hK, hN, hO⟩ := id C
  obtain ⟨μ1, μ2, hc, hm, hP1, hP2, hS⟩ := S
  have h0 := lv_at hl 3 rfl
  have h3 := lv_at hl 0 rfl
  refine lv_aload_n hx hb dL_360 rfl (lv_at hl 2 rfl) ?_
  refine lw_ld (k := 1) hx hb hX hbl hS h0 h3 hi hL (by decide) (by decide) dL_361 dL_362 dL_363 (by decide +kernel) dL_364 dL_365 ?_
  obtain ⟨r1, μ3, hR1, hr1, hc1⟩ := c_work 0 hc ((xs (i + 1)))
  refine lw_call1 (d := 0 + 32) (y := n_ES_work) (me := me_ES_work) (as := [mz_I (xs (i + 1))]) (rest := []) C hml hl.1 hP1 hP2 hS hR1 rfl rfl rfl rfl rfl (Nat.le_of_ble_eq_true rfl) (show Cond.methodLink R_law 40 me_ES_work.1 ∈ lw_tbl by decide +kernel) (Nat.le_of_ble_eq_true rfl) (Nat.le_of_ble_eq_true rfl) dL_366 (fun H locs hP1 hP2 hS => ?_)
  refine lv_aload_n hx hb dL_369 rfl (lv_at hl 1 rfl) ?_
  refine lw_ld (k := 1) hx hb hX hbl hS h0 h3 hi hL (by decide) (by decide) dL_370 dL_371 dL_372 (by decide +kernel) dL_373 dL_374 ?_
  obtain ⟨r2, μ4, hR2, hr2, hm1⟩ := q_work 0 hm ((xs (i + 1)))
  refine lw_call2 (d := 0 + 8) (y := n_Mo_work) (me := me_Mo_work) (as := [mz_I (xs (i + 1))]) (rest := [.int r1]) C hml hl.1 hP1 hP2 hS hR2 rfl rfl rfl rfl rfl (Nat.le_of_ble_eq_true rfl) (show Cond.methodLink R_law 43 me_Mo_work.1 ∈ lw_tbl by decide +kernel) (Nat.le_of_ble_eq_true rfl) (Nat.le_of_ble_eq_true rfl) dL_375 (fun H locs hP1 hP2 hS => ?_)
  exact lv_icmp_eq (tgt := 1182) hx hb dL_378 (by decide) (fun _ => kk H locs _ ⟨μ3, μ4, hc1, hm1, hP1, hP2, hS⟩) (fun q => absurd (hr1.trans hr2.symm) q)
set_option maxHeartbeats 4000000 in
theorem lw_c7 {p : Program} {l : Launch} {e : Env} {s : State} {m : MethodId} {below : List Frame} {meth : Method} {c : Code} {H : Heap} {locs : List Loc} {Q : State → Prop} {D : va_G} {cA : Nat → ClassId} {ls : Array Slot} {b L i : Nat} {xs : Nat → Int32} {A : es_A} (C : mb_C p s m #[Value.ref b] c D cA code R_law) (hml : c.maxLocals = 4) (hX : va_X b L xs s s.heap) (hbl : b < s.heap.size) (hL : L ≤ 3584) (hi : i + 7 ≤ L) (hl : lv_has ls 4 [(3, .int (nI i)), (2, .ref (s.heap.size + 212)), (1, .ref s.heap.size), (0, .ref b)]) (S : lw_St D cA s H locs A)
    (kk : ∀ (H : Heap) (locs : List Loc) (A : es_A), lw_St D cA s H locs A → W p l e room_1 s m #[Value.ref b] below meth c H locs 229 7239 Q (F0 m 1182 ls [])) : W p l e room_1 s m #[Value.ref b] below meth c H locs 229 7239 Q (F0 m 383 ls []) := by
  obtain ⟨hx, hb, hown, gw, hK, hN, hO⟩ := id C
  obtain ⟨μ1, μ2, hc, hm, hP1, hP2, hS⟩ := S
  have h0 := lv_at hl 3 rfl
  have h3 := lv_at hl 0 rfl
  refine lv_aload_n hx hb dL_383 rfl (lv_at hl 2 rfl) ?_
  refine lw_ld (k := 1) hx hb hX hbl hS h0 h3 hi hL (by decide) (by decide) dL_384 dL_385 dL_386 (by decide +kernel) dL_387 dL_388 ?_
  obtain ⟨r1, μ3, hR1, hr1, hc1⟩ := c_drift 0 hc ((xs (i + 1)))
  refine lw_call1 (d := 0 + 5) (y := n_ES_drift) (me := me_ES_drift) (as := [mz_I (xs (i + 1))]) (rest := []) C hml hl.1 hP1 hP2 hS hR1 rfl rfl rfl rfl rfl (Nat.le_of_ble_eq_true rfl) (show Cond.methodLink R_law 44 me_ES_drift.1 ∈ lw_tbl by decide +kernel) (Nat.le_of_ble_eq_true rfl) (Nat.le_of_ble_eq_true rfl) dL_389 (fun H locs hP1 hP2 hS => ?_)
  refine lv_aload_n hx hb dL_392 rfl (lv_at hl 1 rfl) ?_
  refine lw_ld (k := 1) hx hb hX hbl hS h0 h3 hi hL (by decide) (by decide) dL_393 dL_394 dL_395 (by decide +kernel) dL_396 dL_397 ?_
  obtain ⟨r2, μ4, hR2, hr2, hm1⟩ := q_drift 0 hm ((xs (i + 1)))
  refine lw_call2 (d := 0 + 3) (y := n_Mo_drift) (me := me_Mo_drift) (as := [mz_I (xs (i + 1))]) (rest := [.int r1]) C hml hl.1 hP1 hP2 hS hR2 rfl rfl rfl rfl rfl (Nat.le_of_ble_eq_true rfl) (show Cond.methodLink R_law 47 me_Mo_drift.1 ∈ lw_tbl by decide +kernel) (Nat.le_of_ble_eq_true rfl) (Nat.le_of_ble_eq_true rfl) dL_398 (fun H locs hP1 hP2 hS => ?_)
  exact lv_icmp_eq (tgt := 1182) hx hb dL_401 (by decide) (fun _ => kk H locs _ ⟨μ3, μ4, hc1, hm1, hP1, hP2, hS⟩) (fun q => absurd (hr1.trans hr2.symm) q)
set_option maxHeartbeats 4000000 in
theorem lw_c8 {p : Program} {l : Launch} {e : Env} {s : State} {m : MethodId} {below : List Frame} {meth : Method} {c : Code} {H : Heap} {locs : List Loc} {Q : State → Prop} {D : va_G} {cA : Nat → ClassId} {ls : Array Slot} {b L i : Nat} {xs : Nat → Int32} {A : es_A} (C : mb_C p s m #[Value.ref b] c D cA code R_law) (hml : c.maxLocals = 4) (hX : va_X b L xs s s.heap) (hbl : b < s.heap.size) (hL : L ≤ 3584) (hi : i + 7 ≤ L) (hl : lv_has ls 4 [(3, .int (nI i)), (2, .ref (s.heap.size + 212)), (1, .ref s.heap.size), (0, .ref b)]) (S : lw_St D cA s H locs A)
    (kk : ∀ (H : Heap) (locs : List Loc) (A : es_A), lw_St D cA s H locs A → W p l e room_1 s m #[Value.ref b] below meth c H locs 229 7239 Q (F0 m 1182 ls [])) : W p l e room_1 s m #[Value.ref b] below meth c H locs 229 7239 Q (F0 m 406 ls []) := by
  obtain ⟨hx, hb, hown, gw, hK, hN, hO⟩ := id C
  obtain ⟨μ1, μ2, hc, hm, hP1, hP2, hS⟩ := S
  have h0 := lv_at hl 3 rfl
  have h3 := lv_at hl 0 rfl
  refine lv_aload_n hx hb dL_406 rfl (lv_at hl 2 rfl) ?_
  obtain ⟨r1, μ3, hR1, hr1, hc1⟩ := c_undo 0 hc 
  refine lw_call1 (d := 0 + 4) (y := n_ES_undo) (me := me_ES_undo) (as := []) (rest := []) C hml hl.1 hP1 hP2 hS hR1 rfl rfl rfl rfl rfl (Nat.le_of_ble_eq_true rfl) (show Cond.methodLink R_law 48 me_ES_undo.1 ∈ lw_tbl by decide +kernel) (Nat.le_of_ble_eq_true rfl) (Nat.le_of_ble_eq_true rfl) dL_407 (fun H locs hP1 hP2 hS => ?_)
  refine lv_aload_n hx hb dL_410 rfl (lv_at hl 1 rfl) ?_
  obtain ⟨r2, μ4, hR2, hr2, hm1⟩ := q_undo 0 hm 
  refine lw_call2 (d := 0 + 1) (y := n_Mo_undo) (me := me_Mo_undo) (as := []) (rest := [.int r1]) C hml hl.1 hP1 hP2 hS hR2 rfl rfl rfl rfl rfl (Nat.le_of_ble_eq_true rfl) (show Cond.methodLink R_law 52 me_Mo_undo.1 ∈ lw_tbl by decide +kernel) (Nat.le_of_ble_eq_true rfl) (Nat.le_of_ble_eq_true rfl) dL_411 (fun H locs hP1 hP2 hS => ?_)
  exact lv_icmp_eq (tgt := 1182) hx hb dL_414 (by decide) (fun _ => kk H locs _ ⟨μ3, μ4, hc1, hm1, hP1, hP2, hS⟩) (fun q => absurd (hr1.trans hr2.symm) q)
