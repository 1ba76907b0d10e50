set_option maxHeartbeats 4000000 in
set_option maxRecDepth 100000 in
theorem lw_case_0 {p : Program} {l : Launch} {e : Env} {s : State} {m : MethodId} {below : List Frame} {meth : Method} {c : Code} {b L : Nat} {xs : Nat → Int32} {D : va_G} {I : ch_Id} {shC shM : Nat → Nat} {Q : State → Prop} (S : CallFix p m c cL_law 4 s #[Value.ref b] wsL_law RL) (hX : va_X b L xs s s.heap) (hbl : b < s.heap.size) (hL : L ≤ 3072) {i : Nat} (hi : i + 6 ≤ L) (next : ∀ (MC MM : ch_Mem) (H : Heap) (locs : List Loc) (ls : Array Slot), ch_R MC MM → ch_LW D I s b shC shM MC MM H locs → lv_has ls 4 [(0, .ref b), (1, .ref (shC 0)), (2, .ref (shM 0)), (3, .int (nI i))] → W p l e room_1 s m #[Value.ref b] below meth c H locs 53 5742 Q (F0 m 1356 ls [])) {MC MM : ch_Mem} {H : Heap} {locs : List Loc} {ls : Array Slot} (hR : ch_R MC MM) (hw : ch_LW D I s b shC shM MC MM H locs) (hl : lv_has ls 4 [(0, .ref b), (1, .ref (shC 0)), (2, .ref (shM 0)), (3, .int (nI i))]) : W p l e room_1 s m #[Value.ref b] below meth c H locs 53 5742 Q (F0 m 176 ls []) := by
  obtain ⟨hx, hb, hml, hown, hts⟩ := id S
  obtain ⟨r, MC1, MM1, h1, h2, hR1⟩ := op_make hR (xs (i + 1)) (xs (i + 2)) (xs (i + 3)) (xs (i + 4))
  refine lv_aload_n hx hb dL_law_176 rfl (lv_at hl 1 rfl) ?_
  refine lv_aload_n hx hb dL_law_177 rfl (lv_at hl 0 rfl) ?_
  refine lv_iload_n hx hb dL_law_178 rfl (lv_at hl 3 rfl) ?_
  refine lv_iconst (v := (1 : Int32)) hx hb dL_law_179 (by decide) ?_
  refine lv_iadd hx hb dL_law_180 ?_
  refine lw_sld (k := 1) hx hb hX hbl hw hL hi (by decide) (lw_ix i 1 rfl) dL_law_181 ?_
  refine lv_aload_n hx hb dL_law_182 rfl (lv_at hl 0 rfl) ?_
  refine lv_iload_n hx hb dL_law_183 rfl (lv_at hl 3 rfl) ?_
  refine lv_iconst (v := (2 : Int32)) hx hb dL_law_184 (by decide) ?_
  refine lv_iadd hx hb dL_law_185 ?_
  refine lw_sld (k := 2) hx hb hX hbl hw hL hi (by decide) (lw_ix i 2 rfl) dL_law_186 ?_
  refine lv_aload_n hx hb dL_law_187 rfl (lv_at hl 0 rfl) ?_
  refine lv_iload_n hx hb dL_law_188 rfl (lv_at hl 3 rfl) ?_
  refine lv_iconst (v := (3 : Int32)) hx hb dL_law_189 (by decide) ?_
  refine lv_iadd hx hb dL_law_190 ?_
  refine lw_sld (k := 3) hx hb hX hbl hw hL hi (by decide) (lw_ix i 3 rfl) dL_law_191 ?_
  refine lv_aload_n hx hb dL_law_192 rfl (lv_at hl 0 rfl) ?_
  refine lv_iload_n hx hb dL_law_193 rfl (lv_at hl 3 rfl) ?_
  refine lv_iconst (v := (4 : Int32)) hx hb dL_law_194 (by decide) ?_
  refine lv_iadd hx hb dL_law_195 ?_
  refine lw_sld (k := 4) hx hb hX hbl hw hL hi (by decide) (lw_ix i 4 rfl) dL_law_196 ?_
  refine lw_cCi hw (va_runV (As := [.int (xs (i + 1)), .int (xs (i + 2)), .int (xs (i + 3)), .int (xs (i + 4))]) (rest := []) S (c_X6_make l D I shC H.size MC (xs (i + 1)) (xs (i + 2)) (xs (i + 3)) (xs (i + 4)) h1) (cwV 4 S.2.2.2.2 gL_law_X6_make rfl rfl rfl (by decide +kernel) ⟨Nat.le_of_ble_eq_true rfl, Nat.le_of_ble_eq_true rfl⟩) (ch_pV (lw_wC hw) (by decide) rfl rfl rfl) rfl rfl hl.1 rfl (lv_room (Nat.le_of_ble_eq_true rfl)) dL_law_197 ⟨Nat.le_of_ble_eq_true rfl, Nat.le_of_ble_eq_true rfl⟩) (fun H locs hw => ?_)
  refine lv_aload_n hx hb dL_law_200 rfl (lv_at hl 2 rfl) ?_
  refine lv_aload_n hx hb dL_law_201 rfl (lv_at hl 0 rfl) ?_
  refine lv_iload_n hx hb dL_law_202 rfl (lv_at hl 3 rfl) ?_
  refine lv_iconst (v := (1 : Int32)) hx hb dL_law_203 (by decide) ?_
  refine lv_iadd hx hb dL_law_204 ?_
  refine lw_sld (k := 1) hx hb hX hbl hw hL hi (by decide) (lw_ix i 1 rfl) dL_law_205 ?_
  refine lv_aload_n hx hb dL_law_206 rfl (lv_at hl 0 rfl) ?_
  refine lv_iload_n hx hb dL_law_207 rfl (lv_at hl 3 rfl) ?_
  refine lv_iconst (v := (2 : Int32)) hx hb dL_law_208 (by decide) ?_
  refine lv_iadd hx hb dL_law_209 ?_
  refine lw_sld (k := 2) hx hb hX hbl hw hL hi (by decide) (lw_ix i 2 rfl) dL_law_210 ?_
  refine lv_aload_n hx hb dL_law_211 rfl (lv_at hl 0 rfl) ?_
  refine lv_iload_n hx hb dL_law_212 rfl (lv_at hl 3 rfl) ?_
  refine lv_iconst (v := (3 : Int32)) hx hb dL_law_213 (by decide) ?_
  refine lv_iadd hx hb dL_law_214 ?_
  refine lw_sld (k := 3) hx hb hX hbl hw hL hi (by decide) (lw_ix i 3 rfl) dL_law_215 ?_
  refine lv_aload_n hx hb dL_law_216 rfl (lv_at hl 0 rfl) ?_
  refine lv_iload_n hx hb dL_law_217 rfl (lv_at hl 3 rfl) ?_
  refine lv_iconst (v := (4 : Int32)) hx hb dL_law_218 (by decide) ?_
  refine lv_iadd hx hb dL_law_219 ?_
  refine lw_sld (k := 4) hx hb hX hbl hw hL hi (by decide) (lw_ix i 4 rfl) dL_law_220 ?_
  refine lw_cMi hw (va_runV (As := [.int (xs (i + 1)), .int (xs (i + 2)), .int (xs (i + 3)), .int (xs (i + 4))]) (rest := [.int r]) S (c_X7_make l D I shM H.size MM (xs (i + 1)) (xs (i + 2)) (xs (i + 3)) (xs (i + 4)) h2) (cwV 4 S.2.2.2.2 gL_law_X7_make rfl rfl rfl (by decide +kernel) ⟨Nat.le_of_ble_eq_true rfl, Nat.le_of_ble_eq_true rfl⟩) (ch_pV (lw_wM hw) (by decide) rfl rfl rfl) rfl rfl hl.1 rfl (lv_room (Nat.le_of_ble_eq_true rfl)) dL_law_221 ⟨Nat.le_of_ble_eq_true rfl, Nat.le_of_ble_eq_true rfl⟩) (fun H locs hw => ?_)
  exact lv_icmp_eq (tgt := 1356) hx hb dL_law_224 (by decide) (fun _ => next MC1 MM1 H locs ls hR1 hw hl) (fun q => absurd rfl q)
set_option maxHeartbeats 4000000 in
set_option maxRecDepth 100000 in
theorem lw_case_1 {p : Program} {l : Launch} {e : Env} {s : State} {m : MethodId} {below : List Frame} {meth : Method} {c : Code} {b L : Nat} {xs : Nat → Int32} {D : va_G} {I : ch_Id} {shC shM : Nat → Nat} {Q : State → Prop} (S : CallFix p m c cL_law 4 s #[Value.ref b] wsL_law RL) (hX : va_X b L xs s s.heap) (hbl : b < s.heap.size) (hL : L ≤ 3072) {i : Nat} (hi : i + 6 ≤ L) (next : ∀ (MC MM : ch_Mem) (H : Heap) (locs : List Loc) (ls : Array Slot), ch_R MC MM → ch_LW D I s b shC shM MC MM H locs → lv_has ls 4 [(0, .ref b), (1, .ref (shC 0)), (2, .ref (shM 0)), (3, .int (nI i))] → W p l e room_1 s m #[Value.ref b] below meth c H locs 53 5742 Q (F0 m 1356 ls [])) {MC MM : ch_Mem} {H : Heap} {locs : List Loc} {ls : Array Slot} (hR : ch_R MC MM) (hw : ch_LW D I s b shC shM MC MM H locs) (hl : lv_has ls 4 [(0, .ref b), (1, .ref (shC 0)), (2, .ref (shM 0)), (3, .int (nI i))]) : W p l e room_1 s m #[Value.ref b] below meth c H locs 53 5742 Q (F0 m 229 ls []) := by
  obtain ⟨hx, hb, hml, hown, hts⟩ := id S
  obtain ⟨r, MC1, MM1, h1, h2, hR1⟩ := op_period hR (xs (i + 1)) (xs (i + 2)) (xs (i + 3))
  refine lv_aload_n hx hb dL_law_229 rfl (lv_at hl 1 rfl) ?_
  refine lv_aload_n hx hb dL_law_230 rfl (lv_at hl 0 rfl) ?_
  refine lv_iload_n hx hb dL_law_231 rfl (lv_at hl 3 rfl) ?_
  refine lv_iconst (v := (1 : Int32)) hx hb dL_law_232 (by decide) ?_
  refine lv_iadd hx hb dL_law_233 ?_
  refine lw_sld (k := 1) hx hb hX hbl hw hL hi (by decide) (lw_ix i 1 rfl) dL_law_234 ?_
  refine lv_aload_n hx hb dL_law_235 rfl (lv_at hl 0 rfl) ?_
  refine lv_iload_n hx hb dL_law_236 rfl (lv_at hl 3 rfl) ?_
  refine lv_iconst (v := (2 : Int32)) hx hb dL_law_237 (by decide) ?_
  refine lv_iadd hx hb dL_law_238 ?_
  refine lw_sld (k := 2) hx hb hX hbl hw hL hi (by decide) (lw_ix i 2 rfl) dL_law_239 ?_
  refine lv_aload_n hx hb dL_law_240 rfl (lv_at hl 0 rfl) ?_
  refine lv_iload_n hx hb dL_law_241 rfl (lv_at hl 3 rfl) ?_
  refine lv_iconst (v := (3 : Int32)) hx hb dL_law_242 (by decide) ?_
  refine lv_iadd hx hb dL_law_243 ?_
  refine lw_sld (k := 3) hx hb hX hbl hw hL hi (by decide) (lw_ix i 3 rfl) dL_law_244 ?_
  refine lw_cCi hw (va_runV (As := [.int (xs (i + 1)), .int (xs (i + 2)), .int (xs (i + 3))]) (rest := []) S (c_X6_period l D I shC H.size MC (xs (i + 1)) (xs (i + 2)) (xs (i + 3)) h1) (cwV 3 S.2.2.2.2 gL_law_X6_period rfl rfl rfl (by decide +kernel) ⟨Nat.le_of_ble_eq_true rfl, Nat.le_of_ble_eq_true rfl⟩) (ch_pV (lw_wC hw) (by decide) rfl rfl rfl) rfl rfl hl.1 rfl (lv_room (Nat.le_of_ble_eq_true rfl)) dL_law_245 ⟨Nat.le_of_ble_eq_true rfl, Nat.le_of_ble_eq_true rfl⟩) (fun H locs hw => ?_)
  refine lv_aload_n hx hb dL_law_248 rfl (lv_at hl 2 rfl) ?_
  refine lv_aload_n hx hb dL_law_249 rfl (lv_at hl 0 rfl) ?_
  refine lv_iload_n hx hb dL_law_250 rfl (lv_at hl 3 rfl) ?_
  refine lv_iconst (v := (1 : Int32)) hx hb dL_law_251 (by decide) ?_
  refine lv_iadd hx hb dL_law_252 ?_
  refine lw_sld (k := 1) hx hb hX hbl hw hL hi (by decide) (lw_ix i 1 rfl) dL_law_253 ?_
  refine lv_aload_n hx hb dL_law_254 rfl (lv_at hl 0 rfl) ?_
  refine lv_iload_n hx hb dL_law_255 rfl (lv_at hl 3 rfl) ?_
  refine lv_iconst (v := (2 : Int32)) hx hb dL_law_256 (by decide) ?_
  refine lv_iadd hx hb dL_law_257 ?_
  refine lw_sld (k := 2) hx hb hX hbl hw hL hi (by decide) (lw_ix i 2 rfl) dL_law_258 ?_
  refine lv_aload_n hx hb dL_law_259 rfl (lv_at hl 0 rfl) ?_
  refine lv_iload_n hx hb dL_law_260 rfl (lv_at hl 3 rfl) ?_
  refine lv_iconst (v := (3 : Int32)) hx hb dL_law_261 (by decide) ?_
  refine lv_iadd hx hb dL_law_262 ?_
  refine lw_sld (k := 3) hx hb hX hbl hw hL hi (by decide) (lw_ix i 3 rfl) dL_law_263 ?_
  refine lw_cMi hw (va_runV (As := [.int (xs (i + 1)), .int (xs (i + 2)), .int (xs (i + 3))]) (rest := [.int r]) S (c_X7_period l D I shM H.size MM (xs (i + 1)) (xs (i + 2)) (xs (i + 3)) h2) (cwV 3 S.2.2.2.2 gL_law_X7_period rfl rfl rfl (by decide +kernel) ⟨Nat.le_of_ble_eq_true rfl, Nat.le_of_ble_eq_true rfl⟩) (ch_pV (lw_wM hw) (by decide) rfl rfl rfl) rfl rfl hl.1 rfl (lv_room (Nat.le_of_ble_eq_true rfl)) dL_law_264 ⟨Nat.le_of_ble_eq_true rfl, Nat.le_of_ble_eq_true rfl⟩) (fun H locs hw => ?_)
  exact lv_icmp_eq (tgt := 1356) hx hb dL_law_267 (by decide) (fun _ => next MC1 MM1 H locs ls hR1 hw hl) (fun q => absurd rfl q)
set_option maxHeartbeats 4000000 in
set_option maxRecDepth 100000 in
theorem lw_case_2 {p : Program} {l : Launch} {e : Env} {s : State} {m : MethodId} {below : List Frame} {meth : Method} {c : Code} {b L : Nat} {xs : Nat → Int32} {D : va_G} {I : ch_Id} {shC shM : Nat → Nat} {Q : State → Prop} (S : CallFix p m c cL_law 4 s #[Value.ref b] wsL_law RL) (hX : va_X b L xs s s.heap) (hbl : b < s.heap.size) (hL : L ≤ 3072) {i : Nat} (hi : i + 6 ≤ L) (next : ∀ (MC MM : ch_Mem) (H : Heap) (locs : List Loc) (ls : Array Slot), ch_R MC MM → ch_LW D I s b shC shM MC MM H locs → lv_has ls 4 [(0, .ref b), (1, .ref (shC 0)), (2, .ref (shM 0)), (3, .int (nI i))] → W p l e room_1 s m #[Value.ref b] below meth c H locs 53 5742 Q (F0 m 1356 ls [])) {MC MM : ch_Mem} {H : Heap} {locs : List Loc} {ls : Array Slot} (hR : ch_R MC MM) (hw : ch_LW D I s b shC shM MC MM H locs) (hl : lv_has ls 4 [(0, .ref b), (1, .ref (shC 0)), (2, .ref (shM 0)), (3, .int (nI i))]) : W p l e room_1 s m #[Value.ref b] below meth c H locs 53 5742 Q (F0 m 272 ls []) := by
  obtain ⟨hx, hb, hml, hown, hts⟩ := id S
  obtain ⟨r, MC1, MM1, h1, h2, hR1⟩ := op_full hR (xs (i + 1))
  refine lv_aload_n hx hb dL_law_272 rfl (lv_at hl 1 rfl) ?_
  refine lv_aload_n hx hb dL_law_273 rfl (lv_at hl 0 rfl) ?_
  refine lv_iload_n hx hb dL_law_274 rfl (lv_at hl 3 rfl) ?_
  refine lv_iconst (v := (1 : Int32)) hx hb dL_law_275 (by decide) ?_
  refine lv_iadd hx hb dL_law_276 ?_
  refine lw_sld (k := 1) hx hb hX hbl hw hL hi (by decide) (lw_ix i 1 rfl) dL_law_277 ?_
  refine lw_cCi hw (va_runV (As := [.int (xs (i + 1))]) (rest := []) S (c_X6_full l D I shC H.size MC (xs (i + 1)) h1) (cwV 1 S.2.2.2.2 gL_law_X6_full rfl rfl rfl (by decide +kernel) ⟨Nat.le_of_ble_eq_true rfl, Nat.le_of_ble_eq_true rfl⟩) (ch_pV (lw_wC hw) (by decide) rfl rfl rfl) rfl rfl hl.1 rfl (lv_room (Nat.le_of_ble_eq_true rfl)) dL_law_278 ⟨Nat.le_of_ble_eq_true rfl, Nat.le_of_ble_eq_true rfl⟩) (fun H locs hw => ?_)
  refine lv_aload_n hx hb dL_law_281 rfl (lv_at hl 2 rfl) ?_
  refine lv_aload_n hx hb dL_law_282 rfl (lv_at hl 0 rfl) ?_
  refine lv_iload_n hx hb dL_law_283 rfl (lv_at hl 3 rfl) ?_
  refine lv_iconst (v := (1 : Int32)) hx hb dL_law_284 (by decide) ?_
  refine lv_iadd hx hb dL_law_285 ?_
  refine lw_sld (k := 1) hx hb hX hbl hw hL hi (by decide) (lw_ix i 1 rfl) dL_law_286 ?_
  refine lw_cMi hw (va_runV (As := [.int (xs (i + 1))]) (rest := [.int r]) S (c_X7_full l D I shM H.size MM (xs (i + 1)) h2) (cwV 1 S.2.2.2.2 gL_law_X7_full rfl rfl rfl (by decide +kernel) ⟨Nat.le_of_ble_eq_true rfl, Nat.le_of_ble_eq_true rfl⟩) (ch_pV (lw_wM hw) (by decide) rfl rfl rfl) rfl rfl hl.1 rfl (lv_room (Nat.le_of_ble_eq_true rfl)) dL_law_287 ⟨Nat.le_of_ble_eq_true rfl, Nat.le_of_ble_eq_true rfl⟩) (fun H locs hw => ?_)
  exact lv_icmp_eq (tgt := 1356) hx hb dL_law_290 (by decide) (fun _ => next MC1 MM1 H locs ls hR1 hw hl) (fun q => absurd rfl q)
set_option maxHeartbeats 4000000 in
set_option maxRecDepth 100000 in
theorem lw_case_3 {p : Program} {l : Launch} {e : Env} {s : State} {m : MethodId} {below : List Frame} {meth : Method} {c : Code} {b L : Nat} {xs : Nat → Int32} {D : va_G} {I : ch_Id} {shC shM : Nat → Nat} {Q : State → Prop} (S : CallFix p m c cL_law 4 s #[Value.ref b] wsL_law RL) (hX : va_X b L xs s s.heap) (hbl : b < s.heap.size) (hL : L ≤ 3072) {i : Nat} (hi : i + 6 ≤ L) (next : ∀ (MC MM : ch_Mem) (H : Heap) (locs : List Loc) (ls : Array Slot), ch_R MC MM → ch_LW D I s b shC shM MC MM H locs → lv_has ls 4 [(0, .ref b), (1, .ref (shC 0)), (2, .ref (shM 0)), (3, .int (nI i))] → W p l e room_1 s m #[Value.ref b] below meth c H locs 53 5742 Q (F0 m 1356 ls [])) {MC MM : ch_Mem} {H : Heap} {locs : List Loc} {ls : Array Slot} (hR : ch_R MC MM) (hw : ch_LW D I s b shC shM MC MM H locs) (hl : lv_has ls 4 [(0, .ref b), (1, .ref (shC 0)), (2, .ref (shM 0)), (3, .int (nI i))]) : W p l e room_1 s m #[Value.ref b] below meth c H locs 53 5742 Q (F0 m 295 ls []) := by
  obtain ⟨hx, hb, hml, hown, hts⟩ := id S
  obtain ⟨r, MC1, MM1, h1, h2, hR1⟩ := op_join hR (xs (i + 1)) (xs (i + 2)) (xs (i + 3)) (xs (i + 4))
  refine lv_aload_n hx hb dL_law_295 rfl (lv_at hl 1 rfl) ?_
  refine lv_aload_n hx hb dL_law_296 rfl (lv_at hl 0 rfl) ?_
  refine lv_iload_n hx hb dL_law_297 rfl (lv_at hl 3 rfl) ?_
  refine lv_iconst (v := (1 : Int32)) hx hb dL_law_298 (by decide) ?_
  refine lv_iadd hx hb dL_law_299 ?_
  refine lw_sld (k := 1) hx hb hX hbl hw hL hi (by decide) (lw_ix i 1 rfl) dL_law_300 ?_
  refine lv_aload_n hx hb dL_law_301 rfl (lv_at hl 0 rfl) ?_
  refine lv_iload_n hx hb dL_law_302 rfl (lv_at hl 3 rfl) ?_
  refine lv_iconst (v := (2 : Int32)) hx hb dL_law_303 (by decide) ?_
  refine lv_iadd hx hb dL_law_304 ?_
  refine lw_sld (k := 2) hx hb hX hbl hw hL hi (by decide) (lw_ix i 2 rfl) dL_law_305 ?_
  refine lv_aload_n hx hb dL_law_306 rfl (lv_at hl 0 rfl) ?_
  refine lv_iload_n hx hb dL_law_307 rfl (lv_at hl 3 rfl) ?_
  refine lv_iconst (v := (3 : Int32)) hx hb dL_law_308 (by decide) ?_
  refine lv_iadd hx hb dL_law_309 ?_
  refine lw_sld (k := 3) hx hb hX hbl hw hL hi (by decide) (lw_ix i 3 rfl) dL_law_310 ?_
  refine lv_aload_n hx hb dL_law_311 rfl (lv_at hl 0 rfl) ?_
  refine lv_iload_n hx hb dL_law_312 rfl (lv_at hl 3 rfl) ?_
  refine lv_iconst (v := (4 : Int32)) hx hb dL_law_313 (by decide) ?_
  refine lv_iadd hx hb dL_law_314 ?_
  refine lw_sld (k := 4) hx hb hX hbl hw hL hi (by decide) (lw_ix i 4 rfl) dL_law_315 ?_
  refine lw_cCi hw (va_runV (As := [.int (xs (i + 1)), .int (xs (i + 2)), .int (xs (i + 3)), .int (xs (i + 4))]) (rest := []) S (c_X6_join l D I shC H.size MC (xs (i + 1)) (xs (i + 2)) (xs (i + 3)) (xs (i + 4)) h1) (cwV 4 S.2.2.2.2 gL_law_X6_join rfl rfl rfl (by decide +kernel) ⟨Nat.le_of_ble_eq_true rfl, Nat.le_of_ble_eq_true rfl⟩) (ch_pV (lw_wC hw) (by decide) rfl rfl rfl) rfl rfl hl.1 rfl (lv_room (Nat.le_of_ble_eq_true rfl)) dL_law_316 ⟨Nat.le_of_ble_eq_true rfl, Nat.le_of_ble_eq_true rfl⟩) (fun H locs hw => ?_)
  refine lv_aload_n hx hb dL_law_319 rfl (lv_at hl 2 rfl) ?_
  refine lv_aload_n hx hb dL_law_320 rfl (lv_at hl 0 rfl) ?_
  refine lv_iload_n hx hb dL_law_321 rfl (lv_at hl 3 rfl) ?_
  refine lv_iconst (v := (1 : Int32)) hx hb dL_law_322 (by decide) ?_
  refine lv_iadd hx hb dL_law_323 ?_
  refine lw_sld (k := 1) hx hb hX hbl hw hL hi (by decide) (lw_ix i 1 rfl) dL_law_324 ?_
  refine lv_aload_n hx hb dL_law_325 rfl (lv_at hl 0 rfl) ?_
  refine lv_iload_n hx hb dL_law_326 rfl (lv_at hl 3 rfl) ?_
  refine lv_iconst (v := (2 : Int32)) hx hb dL_law_327 (by decide) ?_
  refine lv_iadd hx hb dL_law_328 ?_
  refine lw_sld (k := 2) hx hb hX hbl hw hL hi (by decide) (lw_ix i 2 rfl) dL_law_329 ?_
  refine lv_aload_n hx hb dL_law_330 rfl (lv_at hl 0 rfl) ?_
  refine lv_iload_n hx hb dL_law_331 rfl (lv_at hl 3 rfl) ?_
  refine lv_iconst (v := (3 : Int32)) hx hb dL_law_332 (by decide) ?_
  refine lv_iadd hx hb dL_law_333 ?_
  refine lw_sld (k := 3) hx hb hX hbl hw hL hi (by decide) (lw_ix i 3 rfl) dL_law_334 ?_
  refine lv_aload_n hx hb dL_law_335 rfl (lv_at hl 0 rfl) ?_
  refine lv_iload_n hx hb dL_law_336 rfl (lv_at hl 3 rfl) ?_
  refine lv_iconst (v := (4 : Int32)) hx hb dL_law_337 (by decide) ?_
  refine lv_iadd hx hb dL_law_338 ?_
  refine lw_sld (k := 4) hx hb hX hbl hw hL hi (by decide) (lw_ix i 4 rfl) dL_law_339 ?_
  refine lw_cMi hw (va_runV (As := [.int (xs (i + 1)), .int (xs (i + 2)), .int (xs (i + 3)), .int (xs (i + 4))]) (rest := [.int r]) S (c_X7_join l D I shM H.size MM (xs (i + 1)) (xs (i + 2)) (xs (i + 3)) (xs (i + 4)) h2) (cwV 4 S.2.2.2.2 gL_law_X7_join rfl rfl rfl (by decide +kernel) ⟨Nat.le_of_ble_eq_true rfl, Nat.le_of_ble_eq_true rfl⟩) (ch_pV (lw_wM hw) (by decide) rfl rfl rfl) rfl rfl hl.1 rfl (lv_room (Nat.le_of_ble_eq_true rfl)) dL_law_340 ⟨Nat.le_of_ble_eq_true rfl, Nat.le_of_ble_eq_true rfl⟩) (fun H locs hw => ?_)
  exact lv_icmp_eq (tgt := 1356) hx hb dL_law_343 (by decide) (fun _ => next MC1 MM1 H locs ls hR1 hw hl) (fun q => absurd rfl q)
set_option maxHeartbeats 4000000 in
set_option maxRecDepth 100000 in
theorem lw_case_4 {p : Program} {l : Launch} {e : Env} {s : State} {m : MethodId} {below : List Frame} {meth : Method} {c : Code} {b L : Nat} {xs : Nat → Int32} {D : va_G} {I : ch_Id} {shC shM : Nat → Nat} {Q : State → Prop} (S : CallFix p m c cL_law 4 s #[Value.ref b] wsL_law RL) (hX : va_X b L xs s s.heap) (hbl : b < s.heap.size) (hL : L ≤ 3072) {i : Nat} (hi : i + 6 ≤ L) (next : ∀ (MC MM : ch_Mem) (H : Heap) (locs : List Loc) (ls : Array Slot), ch_R MC MM → ch_LW D I s b shC shM MC MM H locs → lv_has ls 4 [(0, .ref b), (1, .ref (shC 0)), (2, .ref (shM 0)), (3, .int (nI i))] → W p l e room_1 s m #[Value.ref b] below meth c H locs 53 5742 Q (F0 m 1356 ls [])) {MC MM : ch_Mem} {H : Heap} {locs : List Loc} {ls : Array Slot} (hR : ch_R MC MM) (hw : ch_LW D I s b shC shM MC MM H locs) (hl : lv_has ls 4 [(0, .ref b), (1, .ref (shC 0)), (2, .ref (shM 0)), (3, .int (nI i))]) : W p l e room_1 s m #[Value.ref b] below meth c H locs 53 5742 Q (F0 m 348 ls []) := by
  obtain ⟨hx, hb, hml, hown, hts⟩ := id S
  obtain ⟨r, MC1, MM1, h1, h2, hR1⟩ := op_load hR (xs (i + 1)) (xs (i + 2)) (xs (i + 3))
  refine lv_aload_n hx hb dL_law_348 rfl (lv_at hl 1 rfl) ?_
  refine lv_aload_n hx hb dL_law_349 rfl (lv_at hl 0 rfl) ?_
  refine lv_iload_n hx hb dL_law_350 rfl (lv_at hl 3 rfl) ?_
  refine lv_iconst (v := (1 : Int32)) hx hb dL_law_351 (by decide) ?_
  refine lv_iadd hx hb dL_law_352 ?_
  refine lw_sld (k := 1) hx hb hX hbl hw hL hi (by decide) (lw_ix i 1 rfl) dL_law_353 ?_
  refine lv_aload_n hx hb dL_law_354 rfl (lv_at hl 0 rfl) ?_
  refine lv_iload_n hx hb dL_law_355 rfl (lv_at hl 3 rfl) ?_
  refine lv_iconst (v := (2 : Int32)) hx hb dL_law_356 (by decide) ?_
  refine lv_iadd hx hb dL_law_357 ?_
  refine lw_sld (k := 2) hx hb hX hbl hw hL hi (by decide) (lw_ix i 2 rfl) dL_law_358 ?_
  refine lv_aload_n hx hb dL_law_359 rfl (lv_at hl 0 rfl) ?_
  refine lv_iload_n hx hb dL_law_360 rfl (lv_at hl 3 rfl) ?_
  refine lv_iconst (v := (3 : Int32)) hx hb dL_law_361 (by decide) ?_
  refine lv_iadd hx hb dL_law_362 ?_
  refine lw_sld (k := 3) hx hb hX hbl hw hL hi (by decide) (lw_ix i 3 rfl) dL_law_363 ?_
  refine lw_cCi hw (va_runV (As := [.int (xs (i + 1)), .int (xs (i + 2)), .int (xs (i + 3))]) (rest := []) S (c_X6_load l D I shC H.size MC (xs (i + 1)) (xs (i + 2)) (xs (i + 3)) h1) (cwV 3 S.2.2.2.2 gL_law_X6_load rfl rfl rfl (by decide +kernel) ⟨Nat.le_of_ble_eq_true rfl, Nat.le_of_ble_eq_true rfl⟩) (ch_pV (lw_wC hw) (by decide) rfl rfl rfl) rfl rfl hl.1 rfl (lv_room (Nat.le_of_ble_eq_true rfl)) dL_law_364 ⟨Nat.le_of_ble_eq_true rfl, Nat.le_of_ble_eq_true rfl⟩) (fun H locs hw => ?_)
  refine lv_aload_n hx hb dL_law_367 rfl (lv_at hl 2 rfl) ?_
  refine lv_aload_n hx hb dL_law_368 rfl (lv_at hl 0 rfl) ?_
  refine lv_iload_n hx hb dL_law_369 rfl (lv_at hl 3 rfl) ?_
  refine lv_iconst (v := (1 : Int32)) hx hb dL_law_370 (by decide) ?_
  refine lv_iadd hx hb dL_law_371 ?_
  refine lw_sld (k := 1) hx hb hX hbl hw hL hi (by decide) (lw_ix i 1 rfl) dL_law_372 ?_
  refine lv_aload_n hx hb dL_law_373 rfl (lv_at hl 0 rfl) ?_
  refine lv_iload_n hx hb dL_law_374 rfl (lv_at hl 3 rfl) ?_
  refine lv_iconst (v := (2 : Int32)) hx hb dL_law_375 (by decide) ?_
  refine lv_iadd hx hb dL_law_376 ?_
  refine lw_sld (k := 2) hx hb hX hbl hw hL hi (by decide) (lw_ix i 2 rfl) dL_law_377 ?_
  refine lv_aload_n hx hb dL_law_378 rfl (lv_at hl 0 rfl) ?_
  refine lv_iload_n hx hb dL_law_379 rfl (lv_at hl 3 rfl) ?_
  refine lv_iconst (v := (3 : Int32)) hx hb dL_law_380 (by decide) ?_
  refine lv_iadd hx hb dL_law_381 ?_
  refine lw_sld (k := 3) hx hb hX hbl hw hL hi (by decide) (lw_ix i 3 rfl) dL_law_382 ?_
  refine lw_cMi hw (va_runV (As := [.int (xs (i + 1)), .int (xs (i + 2)), .int (xs (i + 3))]) (rest := [.int r]) S (c_X7_load l D I shM H.size MM (xs (i + 1)) (xs (i + 2)) (xs (i + 3)) h2) (cwV 3 S.2.2.2.2 gL_law_X7_load rfl rfl rfl (by decide +kernel) ⟨Nat.le_of_ble_eq_true rfl, Nat.le_of_ble_eq_true rfl⟩) (ch_pV (lw_wM hw) (by decide) rfl rfl rfl) rfl rfl hl.1 rfl (lv_room (Nat.le_of_ble_eq_true rfl)) dL_law_383 ⟨Nat.le_of_ble_eq_true rfl, Nat.le_of_ble_eq_true rfl⟩) (fun H locs hw => ?_)
  exact lv_icmp_eq (tgt := 1356) hx hb dL_law_386 (by decide) (fun _ => next MC1 MM1 H locs ls hR1 hw hl) (fun q => absurd rfl q)
set_option maxHeartbeats 4000000 in
set_option maxRecDepth 100000 in
theorem lw_case_5 {p : Program} {l : Launch} {e : Env} {s : State} {m : MethodId} {below : List Frame} {meth : Method} {c : Code} {b L : Nat} {xs : Nat → Int32} {D : va_G} {I : ch_Id} {shC shM : Nat → Nat} {Q : State → Prop} (S : CallFix p m c cL_law 4 s #[Value.ref b] wsL_law RL) (hX : va_X b L xs s s.heap) (hbl : b < s.heap.size) (hL : L ≤ 3072) {i : Nat} (hi : i + 6 ≤ L) (next : ∀ (MC MM : ch_Mem) (H : Heap) (locs : List Loc) (ls : Array Slot), ch_R MC MM → ch_LW D I s b shC shM MC MM H locs → lv_has ls 4 [(0, .ref b), (1, .ref (shC 0)), (2, .ref (shM 0)), (3, .int (nI i))] → W p l e room_1 s m #[Value.ref b] below meth c H locs 53 5742 Q (F0 m 1356 ls [])) {MC MM : ch_Mem} {H : Heap} {locs : List Loc} {ls : Array Slot} (hR : ch_R MC MM) (hw : ch_LW D I s b shC shM MC MM H locs) (hl : lv_has ls 4 [(0, .ref b), (1, .ref (shC 0)), (2, .ref (shM 0)), (3, .int (nI i))]) : W p l e room_1 s m #[Value.ref b] below meth c H locs 53 5742 Q (F0 m 391 ls []) := by
  obtain ⟨hx, hb, hml, hown, hts⟩ := id S
  obtain ⟨r, MC1, MM1, h1, h2, hR1⟩ := op_drop hR (xs (i + 1))
  refine lv_aload_n hx hb dL_law_391 rfl (lv_at hl 1 rfl) ?_
  refine lv_aload_n hx hb dL_law_392 rfl (lv_at hl 0 rfl) ?_
  refine lv_iload_n hx hb dL_law_393 rfl (lv_at hl 3 rfl) ?_
  refine lv_iconst (v := (1 : Int32)) hx hb dL_law_394 (by decide) ?_
  refine lv_iadd hx hb dL_law_395 ?_
  refine lw_sld (k := 1) hx hb hX hbl hw hL hi (by decide) (lw_ix i 1 rfl) dL_law_396 ?_
  refine lw_cCi hw (va_runV (As := [.int (xs (i + 1))]) (rest := []) S (c_X6_drop l D I shC H.size MC (xs (i + 1)) h1) (cwV 1 S.2.2.2.2 gL_law_X6_drop rfl rfl rfl (by decide +kernel) ⟨Nat.le_of_ble_eq_true rfl, Nat.le_of_ble_eq_true rfl⟩) (ch_pV (lw_wC hw) (by decide) rfl rfl rfl) rfl rfl hl.1 rfl (lv_room (Nat.le_of_ble_eq_true rfl)) dL_law_397 ⟨Nat.le_of_ble_eq_true rfl, Nat.le_of_ble_eq_true rfl⟩) (fun H locs hw => ?_)
  refine lv_aload_n hx hb dL_law_400 rfl (lv_at hl 2 rfl) ?_
  refine lv_aload_n hx hb dL_law_401 rfl (lv_at hl 0 rfl) ?_
  refine lv_iload_n hx hb dL_law_402 rfl (lv_at hl 3 rfl) ?_
  refine lv_iconst (v := (1 : Int32)) hx hb dL_law_403 (by decide) ?_
  refine lv_iadd hx hb dL_law_404 ?_
  refine lw_sld (k := 1) hx hb hX hbl hw hL hi (by decide) (lw_ix i 1 rfl) dL_law_405 ?_
  refine lw_cMi hw (va_runV (As := [.int (xs (i + 1))]) (rest := [.int r]) S (c_X7_drop l D I shM H.size MM (xs (i + 1)) h2) (cwV 1 S.2.2.2.2 gL_law_X7_drop rfl rfl rfl (by decide +kernel) ⟨Nat.le_of_ble_eq_true rfl, Nat.le_of_ble_eq_true rfl⟩) (ch_pV (lw_wM hw) (by decide) rfl rfl rfl) rfl rfl hl.1 rfl (lv_room (Nat.le_of_ble_eq_true rfl)) dL_law_406 ⟨Nat.le_of_ble_eq_true rfl, Nat.le_of_ble_eq_true rfl⟩) (fun H locs hw => ?_)
  exact lv_icmp_eq (tgt := 1356) hx hb dL_law_409 (by decide) (fun _ => next MC1 MM1 H locs ls hR1 hw hl) (fun q => absurd rfl q)
set_option maxHeartbeats 4000000 in
set_option maxRecDepth 100000 in
theorem lw_case_6 {p : Program} {l : Launch} {e : Env} {s : State} {m : MethodId} {below : List Frame} {meth : Method} {c : Code} {b L : Nat} {xs : Nat → Int32} {D : va_G} {I : ch_Id} {shC shM : Nat → Nat} {Q : State → Prop} (S : CallFix p m c cL_law 4 s #[Value.ref b] wsL_law RL) (hX : va_X b L xs s s.heap) (hbl : b < s.heap.size) (hL : L ≤ 3072) {i : Nat} (hi : i + 6 ≤ L) (next : ∀ (MC MM : ch_Mem) (H : Heap) (locs : List Loc) (ls : Array Slot), ch_R MC MM → ch_LW D I s b shC shM MC MM H locs → lv_has ls 4 [(0, .ref b), (1, .ref (shC 0)), (2, .ref (shM 0)), (3, .int (nI i))] → W p l e room_1 s m #[Value.ref b] below meth c H locs 53 5742 Q (F0 m 1356 ls [])) {MC MM : ch_Mem} {H : Heap} {locs : List Loc} {ls : Array Slot} (hR : ch_R MC MM) (hw : ch_LW D I s b shC shM MC MM H locs) (hl : lv_has ls 4 [(0, .ref b), (1, .ref (shC 0)), (2, .ref (shM 0)), (3, .int (nI i))]) : W p l e room_1 s m #[Value.ref b] below meth c H locs 53 5742 Q (F0 m 414 ls []) := by
  obtain ⟨hx, hb, hml, hown, hts⟩ := id S
  obtain ⟨r, MC1, MM1, h1, h2, hR1⟩ := op_sign hR (xs (i + 1)) (xs (i + 2))
  refine lv_aload_n hx hb dL_law_414 rfl (lv_at hl 1 rfl) ?_
  refine lv_aload_n hx hb dL_law_415 rfl (lv_at hl 0 rfl) ?_
  refine lv_iload_n hx hb dL_law_416 rfl (lv_at hl 3 rfl) ?_
  refine lv_iconst (v := (1 : Int32)) hx hb dL_law_417 (by decide) ?_
  refine lv_iadd hx hb dL_law_418 ?_
  refine lw_sld (k := 1) hx hb hX hbl hw hL hi (by decide) (lw_ix i 1 rfl) dL_law_419 ?_
  refine lv_aload_n hx hb dL_law_420 rfl (lv_at hl 0 rfl) ?_
  refine lv_iload_n hx hb dL_law_421 rfl (lv_at hl 3 rfl) ?_
  refine lv_iconst (v := (2 : Int32)) hx hb dL_law_422 (by decide) ?_
  refine lv_iadd hx hb dL_law_423 ?_
  refine lw_sld (k := 2) hx hb hX hbl hw hL hi (by decide) (lw_ix i 2 rfl) dL_law_424 ?_
  refine lw_cCi hw (va_runV (As := [.int (xs (i + 1)), .int (xs (i + 2))]) (rest := []) S (c_X6_sign l D I shC H.size MC (xs (i + 1)) (xs (i + 2)) h1) (cwV 2 S.2.2.2.2 gL_law_X6_sign rfl rfl rfl (by decide +kernel) ⟨Nat.le_of_ble_eq_true rfl, Nat.le_of_ble_eq_true rfl⟩) (ch_pV (lw_wC hw) (by decide) rfl rfl rfl) rfl rfl hl.1 rfl (lv_room (Nat.le_of_ble_eq_true rfl)) dL_law_425 ⟨Nat.le_of_ble_eq_true rfl, Nat.le_of_ble_eq_true rfl⟩) (fun H locs hw => ?_)
  refine lv_aload_n hx hb dL_law_428 rfl (lv_at hl 2 rfl) ?_
  refine lv_aload_n hx hb dL_law_429 rfl (lv_at hl 0 rfl) ?_
  refine lv_iload_n hx hb dL_law_430 rfl (lv_at hl 3 rfl) ?_
  refine lv_iconst (v := (1 : Int32)) hx hb dL_law_431 (by decide) ?_
  refine lv_iadd hx hb dL_law_432 ?_
  refine lw_sld (k := 1) hx hb hX hbl hw hL hi (by decide) (lw_ix i 1 rfl) dL_law_433 ?_
  refine lv_aload_n hx hb dL_law_434 rfl (lv_at hl 0 rfl) ?_
  refine lv_iload_n hx hb dL_law_435 rfl (lv_at hl 3 rfl) ?_
  refine lv_iconst (v := (2 : Int32)) hx hb dL_law_436 (by decide) ?_
  refine lv_iadd hx hb dL_law_437 ?_
  refine lw_sld (k := 2) hx hb hX hbl hw hL hi (by decide) (lw_ix i 2 rfl) dL_law_438 ?_
  refine lw_cMi hw (va_runV (As := [.int (xs (i + 1)), .int (xs (i + 2))]) (rest := [.int r]) S (c_X7_sign l D I shM H.size MM (xs (i + 1)) (xs (i + 2)) h2) (cwV 2 S.2.2.2.2 gL_law_X7_sign rfl rfl rfl (by decide +kernel) ⟨Nat.le_of_ble_eq_true rfl, Nat.le_of_ble_eq_true rfl⟩) (ch_pV (lw_wM hw) (by decide) rfl rfl rfl) rfl rfl hl.1 rfl (lv_room (Nat.le_of_ble_eq_true rfl)) dL_law_439 ⟨Nat.le_of_ble_eq_true rfl, Nat.le_of_ble_eq_true rfl⟩) (fun H locs hw => ?_)
  exact lv_icmp_eq (tgt := 1356) hx hb dL_law_442 (by decide) (fun _ => next MC1 MM1 H locs ls hR1 hw hl) (fun q => absurd rfl q)
set_option maxHeartbeats 4000000 in
set_option maxRecDepth 100000 in
theorem lw_case_7 {p : Program} {l : Launch} {e : Env} {s : State} {m : MethodId} {below : List Frame} {meth : Method} {c : Code} {b L : Nat} {xs : Nat → Int32} {D : va_G} {I : ch_Id} {shC shM : Nat → Nat} {Q : State → Prop} (S : CallFix p m c cL_law 4 s #[Value.ref b] wsL_law RL) (hX : va_X b L xs s s.heap) (hbl : b < s.heap.size) (hL : L ≤ 3072) {i : Nat} (hi : i + 6 ≤ L) (next : ∀ (MC MM : ch_Mem) (H : Heap) (locs : List Loc) (ls : Array Slot), ch_R MC MM → ch_LW D I s b shC shM MC MM H locs → lv_has ls 4 [(0, .ref b), (1, .ref (shC 0)), (2, .ref (shM 0)), (3, .int (nI i))] → W p l e room_1 s m #[Value.ref b] below meth c H locs 53 5742 Q (F0 m 1356 ls [])) {MC MM : ch_Mem} {H : Heap} {locs : List Loc} {ls : Array Slot} (hR : ch_R MC MM) (hw : ch_LW D I s b shC shM MC MM H locs) (hl : lv_has ls 4 [(0, .ref b), (1, .ref (shC 0)), (2, .ref (shM 0)), (3, .int (nI i))]) : W p l e room_1 s m #[Value.ref b] below meth c H locs 53 5742 Q (F0 m 447 ls []) := by
  obtain ⟨hx, hb, hml, hown, hts⟩ := id S
  obtain ⟨r, MC1, MM1, h1, h2, hR1⟩ := op_like hR (xs (i + 1)) (xs (i + 2)) (xs (i + 3))
  refine lv_aload_n hx hb dL_law_447 rfl (lv_at hl 1 rfl) ?_
  refine lv_aload_n hx hb dL_law_448 rfl (lv_at hl 0 rfl) ?_
  refine lv_iload_n hx hb dL_law_449 rfl (lv_at hl 3 rfl) ?_
  refine lv_iconst (v := (1 : Int32)) hx hb dL_law_450 (by decide) ?_
  refine lv_iadd hx hb dL_law_451 ?_
  refine lw_sld (k := 1) hx hb hX hbl hw hL hi (by decide) (lw_ix i 1 rfl) dL_law_452 ?_
  refine lv_aload_n hx hb dL_law_453 rfl (lv_at hl 0 rfl) ?_
  refine lv_iload_n hx hb dL_law_454 rfl (lv_at hl 3 rfl) ?_
  refine lv_iconst (v := (2 : Int32)) hx hb dL_law_455 (by decide) ?_
  refine lv_iadd hx hb dL_law_456 ?_
  refine lw_sld (k := 2) hx hb hX hbl hw hL hi (by decide) (lw_ix i 2 rfl) dL_law_457 ?_
  refine lv_aload_n hx hb dL_law_458 rfl (lv_at hl 0 rfl) ?_
  refine lv_iload_n hx hb dL_law_459 rfl (lv_at hl 3 rfl) ?_
  refine lv_iconst (v := (3 : Int32)) hx hb dL_law_460 (by decide) ?_
  refine lv_iadd hx hb dL_law_461 ?_
  refine lw_sld (k := 3) hx hb hX hbl hw hL hi (by decide) (lw_ix i 3 rfl) dL_law_462 ?_
  refine lw_cCi hw (va_runV (As := [.int (xs (i + 1)), .int (xs (i + 2)), .int (xs (i + 3))]) (rest := []) S (c_X6_like l D I shC H.size MC (xs (i + 1)) (xs (i + 2)) (xs (i + 3)) h1) (cwV 3 S.2.2.2.2 gL_law_X6_like rfl rfl rfl (by decide +kernel) ⟨Nat.le_of_ble_eq_true rfl, Nat.le_of_ble_eq_true rfl⟩) (ch_pV (lw_wC hw) (by decide) rfl rfl rfl) rfl rfl hl.1 rfl (lv_room (Nat.le_of_ble_eq_true rfl)) dL_law_463 ⟨Nat.le_of_ble_eq_true rfl, Nat.le_of_ble_eq_true rfl⟩) (fun H locs hw => ?_)
  refine lv_aload_n hx hb dL_law_466 rfl (lv_at hl 2 rfl) ?_
  refine lv_aload_n hx hb dL_law_467 rfl (lv_at hl 0 rfl) ?_
  refine lv_iload_n hx hb dL_law_468 rfl (lv_at hl 3 rfl) ?_
  refine lv_iconst (v := (1 : Int32)) hx hb dL_law_469 (by decide) ?_
  refine lv_iadd hx hb dL_law_470 ?_
  refine lw_sld (k := 1) hx hb hX hbl hw hL hi (by decide) (lw_ix i 1 rfl) dL_law_471 ?_
  refine lv_aload_n hx hb dL_law_472 rfl (lv_at hl 0 rfl) ?_
  refine lv_iload_n hx hb dL_law_473 rfl (lv_at hl 3 rfl) ?_
  refine lv_iconst (v := (2 : Int32)) hx hb dL_law_474 (by decide) ?_
  refine lv_iadd hx hb dL_law_475 ?_
  refine lw_sld (k := 2) hx hb hX hbl hw hL hi (by decide) (lw_ix i 2 rfl) dL_law_476 ?_
  refine lv_aload_n hx hb dL_law_477 rfl (lv_at hl 0 rfl) ?_
  refine lv_iload_n hx hb dL_law_478 rfl (lv_at hl 3 rfl) ?_
  refine lv_iconst (v := (3 : Int32)) hx hb dL_law_479 (by decide) ?_
  refine lv_iadd hx hb dL_law_480 ?_
  refine lw_sld (k := 3) hx hb hX hbl hw hL hi (by decide) (lw_ix i 3 rfl) dL_law_481 ?_
  refine lw_cMi hw (va_runV (As := [.int (xs (i + 1)), .int (xs (i + 2)), .int (xs (i + 3))]) (rest := [.int r]) S (c_X7_like l D I shM H.size MM (xs (i + 1)) (xs (i + 2)) (xs (i + 3)) h2) (cwV 3 S.2.2.2.2 gL_law_X7_like rfl rfl rfl (by decide +kernel) ⟨Nat.le_of_ble_eq_true rfl, Nat.le_of_ble_eq_true rfl⟩) (ch_pV (lw_wM hw) (by decide) rfl rfl rfl) rfl rfl hl.1 rfl (lv_room (Nat.le_of_ble_eq_true rfl)) dL_law_482 ⟨Nat.le_of_ble_eq_true rfl, Nat.le_of_ble_eq_true rfl⟩) (fun H locs hw => ?_)
  exact lv_icmp_eq (tgt := 1356) hx hb dL_law_485 (by decide) (fun _ => next MC1 MM1 H locs ls hR1 hw hl) (fun q => absurd rfl q)
set_option maxHeartbeats 4000000 in
set_option maxRecDepth 100000 in
theorem lw_case_8 {p : Program} {l : Launch} {e : Env} {s : State} {m : MethodId} {below : List Frame} {meth : Method} {c : Code} {b L : Nat} {xs : Nat → Int32} {D : va_G} {I : ch_Id} {shC shM : Nat → Nat} {Q : State → Prop} (S : CallFix p m c cL_law 4 s #[Value.ref b] wsL_law RL) (hX : va_X b L xs s s.heap) (hbl : b < s.heap.size) (hL : L ≤ 3072) {i : Nat} (hi : i + 6 ≤ L) (next : ∀ (MC MM : ch_Mem) (H : Heap) (locs : List Loc) (ls : Array Slot), ch_R MC MM → ch_LW D I s b shC shM MC MM H locs → lv_has ls 4 [(0, .ref b), (1, .ref (shC 0)), (2, .ref (shM 0)), (3, .int (nI i))] → W p l e room_1 s m #[Value.ref b] below meth c H locs 53 5742 Q (F0 m 1356 ls [])) {MC MM : ch_Mem} {H : Heap} {locs : List Loc} {ls : Array Slot} (hR : ch_R MC MM) (hw : ch_LW D I s b shC shM MC MM H locs) (hl : lv_has ls 4 [(0, .ref b), (1, .ref (shC 0)), (2, .ref (shM 0)), (3, .int (nI i))]) : W p l e room_1 s m #[Value.ref b] below meth c H locs 53 5742 Q (F0 m 490 ls []) := by
  obtain ⟨hx, hb, hml, hown, hts⟩ := id S
  obtain ⟨r, MC1, MM1, h1, h2, hR1⟩ := op_most hR (xs (i + 1)) (xs (i + 2))
  refine lv_aload_n hx hb dL_law_490 rfl (lv_at hl 1 rfl) ?_
  refine lv_aload_n hx hb dL_law_491 rfl (lv_at hl 0 rfl) ?_
  refine lv_iload_n hx hb dL_law_492 rfl (lv_at hl 3 rfl) ?_
  refine lv_iconst (v := (1 : Int32)) hx hb dL_law_493 (by decide) ?_
  refine lv_iadd hx hb dL_law_494 ?_
  refine lw_sld (k := 1) hx hb hX hbl hw hL hi (by decide) (lw_ix i 1 rfl) dL_law_495 ?_
  refine lv_aload_n hx hb dL_law_496 rfl (lv_at hl 0 rfl) ?_
  refine lv_iload_n hx hb dL_law_497 rfl (lv_at hl 3 rfl) ?_
  refine lv_iconst (v := (2 : Int32)) hx hb dL_law_498 (by decide) ?_
  refine lv_iadd hx hb dL_law_499 ?_
  refine lw_sld (k := 2) hx hb hX hbl hw hL hi (by decide) (lw_ix i 2 rfl) dL_law_500 ?_
  refine lw_cCi hw (va_runV (As := [.int (xs (i + 1)), .int (xs (i + 2))]) (rest := []) S (c_X6_most l D I shC H.size MC (xs (i + 1)) (xs (i + 2)) h1) (cwV 2 S.2.2.2.2 gL_law_X6_most rfl rfl rfl (by decide +kernel) ⟨Nat.le_of_ble_eq_true rfl, Nat.le_of_ble_eq_true rfl⟩) (ch_pV (lw_wC hw) (by decide) rfl rfl rfl) rfl rfl hl.1 rfl (lv_room (Nat.le_of_ble_eq_true rfl)) dL_law_501 ⟨Nat.le_of_ble_eq_true rfl, Nat.le_of_ble_eq_true rfl⟩) (fun H locs hw => ?_)
  refine lv_aload_n hx hb dL_law_504 rfl (lv_at hl 2 rfl) ?_
  refine lv_aload_n hx hb dL_law_505 rfl (lv_at hl 0 rfl) ?_
  refine lv_iload_n hx hb dL_law_506 rfl (lv_at hl 3 rfl) ?_
  refine lv_iconst (v := (1 : Int32)) hx hb dL_law_507 (by decide) ?_
  refine lv_iadd hx hb dL_law_508 ?_
  refine lw_sld (k := 1) hx hb hX hbl hw hL hi (by decide) (lw_ix i 1 rfl) dL_law_509 ?_
  refine lv_aload_n hx hb dL_law_510 rfl (lv_at hl 0 rfl) ?_
  refine lv_iload_n hx hb dL_law_511 rfl (lv_at hl 3 rfl) ?_
  refine lv_iconst (v := (2 : Int32)) hx hb dL_law_512 (by decide) ?_
  refine lv_iadd hx hb dL_law_513 ?_
  refine lw_sld (k := 2) hx hb hX hbl hw hL hi (by decide) (lw_ix i 2 rfl) dL_law_514 ?_
  refine lw_cMi hw (va_runV (As := [.int (xs (i + 1)), .int (xs (i + 2))]) (rest := [.int r]) S (c_X7_most l D I shM H.size MM (xs (i + 1)) (xs (i + 2)) h2) (cwV 2 S.2.2.2.2 gL_law_X7_most rfl rfl rfl (by decide +kernel) ⟨Nat.le_of_ble_eq_true rfl, Nat.le_of_ble_eq_true rfl⟩) (ch_pV (lw_wM hw) (by decide) rfl rfl rfl) rfl rfl hl.1 rfl (lv_room (Nat.le_of_ble_eq_true rfl)) dL_law_515 ⟨Nat.le_of_ble_eq_true rfl, Nat.le_of_ble_eq_true rfl⟩) (fun H locs hw => ?_)
  exact lv_icmp_eq (tgt := 1356) hx hb dL_law_518 (by decide) (fun _ => next MC1 MM1 H locs ls hR1 hw hl) (fun q => absurd rfl q)
set_option maxHeartbeats 4000000 in
set_option maxRecDepth 100000 in
theorem lw_case_9 {p : Program} {l : Launch} {e : Env} {s : State} {m : MethodId} {below : List Frame} {meth : Method} {c : Code} {b L : Nat} {xs : Nat → Int32} {D : va_G} {I : ch_Id} {shC shM : Nat → Nat} {Q : State → Prop} (S : CallFix p m c cL_law 4 s #[Value.ref b] wsL_law RL) (hX : va_X b L xs s s.heap) (hbl : b < s.heap.size) (hL : L ≤ 3072) {i : Nat} (hi : i + 6 ≤ L) (next : ∀ (MC MM : ch_Mem) (H : Heap) (locs : List Loc) (ls : Array Slot), ch_R MC MM → ch_LW D I s b shC shM MC MM H locs → lv_has ls 4 [(0, .ref b), (1, .ref (shC 0)), (2, .ref (shM 0)), (3, .int (nI i))] → W p l e room_1 s m #[Value.ref b] below meth c H locs 53 5742 Q (F0 m 1356 ls [])) {MC MM : ch_Mem} {H : Heap} {locs : List Loc} {ls : Array Slot} (hR : ch_R MC MM) (hw : ch_LW D I s b shC shM MC MM H locs) (hl : lv_has ls 4 [(0, .ref b), (1, .ref (shC 0)), (2, .ref (shM 0)), (3, .int (nI i))]) : W p l e room_1 s m #[Value.ref b] below meth c H locs 53 5742 Q (F0 m 523 ls []) := by
  obtain ⟨hx, hb, hml, hown, hts⟩ := id S
  obtain ⟨r, MC1, MM1, h1, h2, hR1⟩ := op_heard hR (xs (i + 1)) (xs (i + 2)) (xs (i + 3)) (xs (i + 4)) (xs (i + 5))
  refine lv_aload_n hx hb dL_law_523 rfl (lv_at hl 1 rfl) ?_
  refine lv_aload_n hx hb dL_law_524 rfl (lv_at hl 0 rfl) ?_
  refine lv_iload_n hx hb dL_law_525 rfl (lv_at hl 3 rfl) ?_
  refine lv_iconst (v := (1 : Int32)) hx hb dL_law_526 (by decide) ?_
  refine lv_iadd hx hb dL_law_527 ?_
  refine lw_sld (k := 1) hx hb hX hbl hw hL hi (by decide) (lw_ix i 1 rfl) dL_law_528 ?_
  refine lv_aload_n hx hb dL_law_529 rfl (lv_at hl 0 rfl) ?_
  refine lv_iload_n hx hb dL_law_530 rfl (lv_at hl 3 rfl) ?_
  refine lv_iconst (v := (2 : Int32)) hx hb dL_law_531 (by decide) ?_
  refine lv_iadd hx hb dL_law_532 ?_
  refine lw_sld (k := 2) hx hb hX hbl hw hL hi (by decide) (lw_ix i 2 rfl) dL_law_533 ?_
  refine lv_aload_n hx hb dL_law_534 rfl (lv_at hl 0 rfl) ?_
  refine lv_iload_n hx hb dL_law_535 rfl (lv_at hl 3 rfl) ?_
  refine lv_iconst (v := (3 : Int32)) hx hb dL_law_536 (by decide) ?_
  refine lv_iadd hx hb dL_law_537 ?_
  refine lw_sld (k := 3) hx hb hX hbl hw hL hi (by decide) (lw_ix i 3 rfl) dL_law_538 ?_
  refine lv_aload_n hx hb dL_law_539 rfl (lv_at hl 0 rfl) ?_
  refine lv_iload_n hx hb dL_law_540 rfl (lv_at hl 3 rfl) ?_
  refine lv_iconst (v := (4 : Int32)) hx hb dL_law_541 (by decide) ?_
  refine lv_iadd hx hb dL_law_542 ?_
  refine lw_sld (k := 4) hx hb hX hbl hw hL hi (by decide) (lw_ix i 4 rfl) dL_law_543 ?_
  refine lv_aload_n hx hb dL_law_544 rfl (lv_at hl 0 rfl) ?_
  refine lv_iload_n hx hb dL_law_545 rfl (lv_at hl 3 rfl) ?_
  refine lv_iconst (v := (5 : Int32)) hx hb dL_law_546 (by decide) ?_
  refine lv_iadd hx hb dL_law_547 ?_
  refine lw_sld (k := 5) hx hb hX hbl hw hL hi (by decide) (lw_ix i 5 rfl) dL_law_548 ?_
  refine lw_cCi hw (va_runV (As := [.int (xs (i + 1)), .int (xs (i + 2)), .int (xs (i + 3)), .int (xs (i + 4)), .int (xs (i + 5))]) (rest := []) S (c_X6_heard l D I shC H.size MC (xs (i + 1)) (xs (i + 2)) (xs (i + 3)) (xs (i + 4)) (xs (i + 5)) h1) (cwV 5 S.2.2.2.2 gL_law_X6_heard rfl rfl rfl (by decide +kernel) ⟨Nat.le_of_ble_eq_true rfl, Nat.le_of_ble_eq_true rfl⟩) (ch_pV (lw_wC hw) (by decide) rfl rfl rfl) rfl rfl hl.1 rfl (lv_room (Nat.le_of_ble_eq_true rfl)) dL_law_549 ⟨Nat.le_of_ble_eq_true rfl, Nat.le_of_ble_eq_true rfl⟩) (fun H locs hw => ?_)
  refine lv_aload_n hx hb dL_law_552 rfl (lv_at hl 2 rfl) ?_
  refine lv_aload_n hx hb dL_law_553 rfl (lv_at hl 0 rfl) ?_
  refine lv_iload_n hx hb dL_law_554 rfl (lv_at hl 3 rfl) ?_
  refine lv_iconst (v := (1 : Int32)) hx hb dL_law_555 (by decide) ?_
  refine lv_iadd hx hb dL_law_556 ?_
  refine lw_sld (k := 1) hx hb hX hbl hw hL hi (by decide) (lw_ix i 1 rfl) dL_law_557 ?_
  refine lv_aload_n hx hb dL_law_558 rfl (lv_at hl 0 rfl) ?_
  refine lv_iload_n hx hb dL_law_559 rfl (lv_at hl 3 rfl) ?_
  refine lv_iconst (v := (2 : Int32)) hx hb dL_law_560 (by decide) ?_
  refine lv_iadd hx hb dL_law_561 ?_
  refine lw_sld (k := 2) hx hb hX hbl hw hL hi (by decide) (lw_ix i 2 rfl) dL_law_562 ?_
  refine lv_aload_n hx hb dL_law_563 rfl (lv_at hl 0 rfl) ?_
  refine lv_iload_n hx hb dL_law_564 rfl (lv_at hl 3 rfl) ?_
  refine lv_iconst (v := (3 : Int32)) hx hb dL_law_565 (by decide) ?_
  refine lv_iadd hx hb dL_law_566 ?_
  refine lw_sld (k := 3) hx hb hX hbl hw hL hi (by decide) (lw_ix i 3 rfl) dL_law_567 ?_
  refine lv_aload_n hx hb dL_law_568 rfl (lv_at hl 0 rfl) ?_
  refine lv_iload_n hx hb dL_law_569 rfl (lv_at hl 3 rfl) ?_
  refine lv_iconst (v := (4 : Int32)) hx hb dL_law_570 (by decide) ?_
  refine lv_iadd hx hb dL_law_571 ?_
  refine lw_sld (k := 4) hx hb hX hbl hw hL hi (by decide) (lw_ix i 4 rfl) dL_law_572 ?_
  refine lv_aload_n hx hb dL_law_573 rfl (lv_at hl 0 rfl) ?_
  refine lv_iload_n hx hb dL_law_574 rfl (lv_at hl 3 rfl) ?_
  refine lv_iconst (v := (5 : Int32)) hx hb dL_law_575 (by decide) ?_
  refine lv_iadd hx hb dL_law_576 ?_
  refine lw_sld (k := 5) hx hb hX hbl hw hL hi (by decide) (lw_ix i 5 rfl) dL_law_577 ?_
  refine lw_cMi hw (va_runV (As := [.int (xs (i + 1)), .int (xs (i + 2)), .int (xs (i + 3)), .int (xs (i + 4)), .int (xs (i + 5))]) (rest := [.int r]) S (c_X7_heard l D I shM H.size MM (xs (i + 1)) (xs (i + 2)) (xs (i + 3)) (xs (i + 4)) (xs (i + 5)) h2) (cwV 5 S.2.2.2.2 gL_law_X7_heard rfl rfl rfl (by decide +kernel) ⟨Nat.le_of_ble_eq_true rfl, Nat.le_of_ble_eq_true rfl⟩) (ch_pV (lw_wM hw) (by decide) rfl rfl rfl) rfl rfl hl.1 rfl (lv_room (Nat.le_of_ble_eq_true rfl)) dL_law_578 ⟨Nat.le_of_ble_eq_true rfl, Nat.le_of_ble_eq_true rfl⟩) (fun H locs hw => ?_)
  exact lv_icmp_eq (tgt := 1356) hx hb dL_law_581 (by decide) (fun _ => next MC1 MM1 H locs ls hR1 hw hl) (fun q => absurd rfl q)
set_option maxHeartbeats 4000000 in
set_option maxRecDepth 100000 in
theorem lw_case_10 {p : Program} {l : Launch} {e : Env} {s : State} {m : MethodId} {below : List Frame} {meth : Method} {c : Code} {b L : Nat} {xs : Nat → Int32} {D : va_G} {I : ch_Id} {shC shM : Nat → Nat} {Q : State → Prop} (S : CallFix p m c cL_law 4 s #[Value.ref b] wsL_law RL) (hX : va_X b L xs s s.heap) (hbl : b < s.heap.size) (hL : L ≤ 3072) {i : Nat} (hi : i + 6 ≤ L) (next : ∀ (MC MM : ch_Mem) (H : Heap) (locs : List Loc) (ls : Array Slot), ch_R MC MM → ch_LW D I s b shC shM MC MM H locs → lv_has ls 4 [(0, .ref b), (1, .ref (shC 0)), (2, .ref (shM 0)), (3, .int (nI i))] → W p l e room_1 s m #[Value.ref b] below meth c H locs 53 5742 Q (F0 m 1356 ls [])) {MC MM : ch_Mem} {H : Heap} {locs : List Loc} {ls : Array Slot} (hR : ch_R MC MM) (hw : ch_LW D I s b shC shM MC MM H locs) (hl : lv_has ls 4 [(0, .ref b), (1, .ref (shC 0)), (2, .ref (shM 0)), (3, .int (nI i))]) : W p l e room_1 s m #[Value.ref b] below meth c H locs 53 5742 Q (F0 m 586 ls []) := by
  obtain ⟨hx, hb, hml, hown, hts⟩ := id S
  obtain ⟨r, MC1, MM1, h1, h2, hR1⟩ := op_search hR (xs (i + 1)) (xs (i + 2))
  refine lv_aload_n hx hb dL_law_586 rfl (lv_at hl 1 rfl) ?_
  refine lv_aload_n hx hb dL_law_587 rfl (lv_at hl 0 rfl) ?_
  refine lv_iload_n hx hb dL_law_588 rfl (lv_at hl 3 rfl) ?_
  refine lv_iconst (v := (1 : Int32)) hx hb dL_law_589 (by decide) ?_
  refine lv_iadd hx hb dL_law_590 ?_
  refine lw_sld (k := 1) hx hb hX hbl hw hL hi (by decide) (lw_ix i 1 rfl) dL_law_591 ?_
  refine lv_aload_n hx hb dL_law_592 rfl (lv_at hl 0 rfl) ?_
  refine lv_iload_n hx hb dL_law_593 rfl (lv_at hl 3 rfl) ?_
  refine lv_iconst (v := (2 : Int32)) hx hb dL_law_594 (by decide) ?_
  refine lv_iadd hx hb dL_law_595 ?_
  refine lw_sld (k := 2) hx hb hX hbl hw hL hi (by decide) (lw_ix i 2 rfl) dL_law_596 ?_
  refine lw_cCi hw (va_runV (As := [.int (xs (i + 1)), .int (xs (i + 2))]) (rest := []) S (c_X6_search l D I shC H.size MC (xs (i + 1)) (xs (i + 2)) h1) (cwV 2 S.2.2.2.2 gL_law_X6_search rfl rfl rfl (by decide +kernel) ⟨Nat.le_of_ble_eq_true rfl, Nat.le_of_ble_eq_true rfl⟩) (ch_pV (lw_wC hw) (by decide) rfl rfl rfl) rfl rfl hl.1 rfl (lv_room (Nat.le_of_ble_eq_true rfl)) dL_law_597 ⟨Nat.le_of_ble_eq_true rfl, Nat.le_of_ble_eq_true rfl⟩) (fun H locs hw => ?_)
  refine lv_aload_n hx hb dL_law_600 rfl (lv_at hl 2 rfl) ?_
  refine lv_aload_n hx hb dL_law_601 rfl (lv_at hl 0 rfl) ?_
  refine lv_iload_n hx hb dL_law_602 rfl (lv_at hl 3 rfl) ?_
  refine lv_iconst (v := (1 : Int32)) hx hb dL_law_603 (by decide) ?_
  refine lv_iadd hx hb dL_law_604 ?_
  refine lw_sld (k := 1) hx hb hX hbl hw hL hi (by decide) (lw_ix i 1 rfl) dL_law_605 ?_
  refine lv_aload_n hx hb dL_law_606 rfl (lv_at hl 0 rfl) ?_
  refine lv_iload_n hx hb dL_law_607 rfl (lv_at hl 3 rfl) ?_
  refine lv_iconst (v := (2 : Int32)) hx hb dL_law_608 (by decide) ?_
  refine lv_iadd hx hb dL_law_609 ?_
  refine lw_sld (k := 2) hx hb hX hbl hw hL hi (by decide) (lw_ix i 2 rfl) dL_law_610 ?_
  refine lw_cMi hw (va_runV (As := [.int (xs (i + 1)), .int (xs (i + 2))]) (rest := [.int r]) S (c_X7_search l D I shM H.size MM (xs (i + 1)) (xs (i + 2)) h2) (cwV 2 S.2.2.2.2 gL_law_X7_search rfl rfl rfl (by decide +kernel) ⟨Nat.le_of_ble_eq_true rfl, Nat.le_of_ble_eq_true rfl⟩) (ch_pV (lw_wM hw) (by decide) rfl rfl rfl) rfl rfl hl.1 rfl (lv_room (Nat.le_of_ble_eq_true rfl)) dL_law_611 ⟨Nat.le_of_ble_eq_true rfl, Nat.le_of_ble_eq_true rfl⟩) (fun H locs hw => ?_)
  exact lv_icmp_eq (tgt := 1356) hx hb dL_law_614 (by decide) (fun _ => next MC1 MM1 H locs ls hR1 hw hl) (fun q => absurd rfl q)
set_option maxHeartbeats 4000000 in
set_option maxRecDepth 100000 in
theorem lw_case_11 {p : Program} {l : Launch} {e : Env} {s : State} {m : MethodId} {below : List Frame} {meth : Method} {c : Code} {b L : Nat} {xs : Nat → Int32} {D : va_G} {I : ch_Id} {shC shM : Nat → Nat} {Q : State → Prop} (S : CallFix p m c cL_law 4 s #[Value.ref b] wsL_law RL) (hX : va_X b L xs s s.heap) (hbl : b < s.heap.size) (hL : L ≤ 3072) {i : Nat} (hi : i + 6 ≤ L) (next : ∀ (MC MM : ch_Mem) (H : Heap) (locs : List Loc) (ls : Array Slot), ch_R MC MM → ch_LW D I s b shC shM MC MM H locs → lv_has ls 4 [(0, .ref b), (1, .ref (shC 0)), (2, .ref (shM 0)), (3, .int (nI i))] → W p l e room_1 s m #[Value.ref b] below meth c H locs 53 5742 Q (F0 m 1356 ls [])) {MC MM : ch_Mem} {H : Heap} {locs : List Loc} {ls : Array Slot} (hR : ch_R MC MM) (hw : ch_LW D I s b shC shM MC MM H locs) (hl : lv_has ls 4 [(0, .ref b), (1, .ref (shC 0)), (2, .ref (shM 0)), (3, .int (nI i))]) : W p l e room_1 s m #[Value.ref b] below meth c H locs 53 5742 Q (F0 m 619 ls []) := by
  obtain ⟨hx, hb, hml, hown, hts⟩ := id S
  obtain ⟨r, MC1, MM1, h1, h2, hR1⟩ := op_sure hR (xs (i + 1)) (xs (i + 2))
  refine lv_aload_n hx hb dL_law_619 rfl (lv_at hl 1 rfl) ?_
  refine lv_aload_n hx hb dL_law_620 rfl (lv_at hl 0 rfl) ?_
  refine lv_iload_n hx hb dL_law_621 rfl (lv_at hl 3 rfl) ?_
  refine lv_iconst (v := (1 : Int32)) hx hb dL_law_622 (by decide) ?_
  refine lv_iadd hx hb dL_law_623 ?_
  refine lw_sld (k := 1) hx hb hX hbl hw hL hi (by decide) (lw_ix i 1 rfl) dL_law_624 ?_
  refine lv_aload_n hx hb dL_law_625 rfl (lv_at hl 0 rfl) ?_
  refine lv_iload_n hx hb dL_law_626 rfl (lv_at hl 3 rfl) ?_
  refine lv_iconst (v := (2 : Int32)) hx hb dL_law_627 (by decide) ?_
  refine lv_iadd hx hb dL_law_628 ?_
  refine lw_sld (k := 2) hx hb hX hbl hw hL hi (by decide) (lw_ix i 2 rfl) dL_law_629 ?_
  refine lw_cCi hw (va_runV (As := [.int (xs (i + 1)), .int (xs (i + 2))]) (rest := []) S (c_X6_sure l D I shC H.size MC (xs (i + 1)) (xs (i + 2)) h1) (cwV 2 S.2.2.2.2 gL_law_X6_sure rfl rfl rfl (by decide +kernel) ⟨Nat.le_of_ble_eq_true rfl, Nat.le_of_ble_eq_true rfl⟩) (ch_pV (lw_wC hw) (by decide) rfl rfl rfl) rfl rfl hl.1 rfl (lv_room (Nat.le_of_ble_eq_true rfl)) dL_law_630 ⟨Nat.le_of_ble_eq_true rfl, Nat.le_of_ble_eq_true rfl⟩) (fun H locs hw => ?_)
  refine lv_aload_n hx hb dL_law_633 rfl (lv_at hl 2 rfl) ?_
  refine lv_aload_n hx hb dL_law_634 rfl (lv_at hl 0 rfl) ?_
  refine lv_iload_n hx hb dL_law_635 rfl (lv_at hl 3 rfl) ?_
  refine lv_iconst (v := (1 : Int32)) hx hb dL_law_636 (by decide) ?_
  refine lv_iadd hx hb dL_law_637 ?_
  refine lw_sld (k := 1) hx hb hX hbl hw hL hi (by decide) (lw_ix i 1 rfl) dL_law_638 ?_
  refine lv_aload_n hx hb dL_law_639 rfl (lv_at hl 0 rfl) ?_
  refine lv_iload_n hx hb dL_law_640 rfl (lv_at hl 3 rfl) ?_
  refine lv_iconst (v := (2 : Int32)) hx hb dL_law_641 (by decide) ?_
  refine lv_iadd hx hb dL_law_642 ?_
  refine lw_sld (k := 2) hx hb hX hbl hw hL hi (by decide) (lw_ix i 2 rfl) dL_law_643 ?_
  refine lw_cMi hw (va_runV (As := [.int (xs (i + 1)), .int (xs (i + 2))]) (rest := [.int r]) S (c_X7_sure l D I shM H.size MM (xs (i + 1)) (xs (i + 2)) h2) (cwV 2 S.2.2.2.2 gL_law_X7_sure rfl rfl rfl (by decide +kernel) ⟨Nat.le_of_ble_eq_true rfl, Nat.le_of_ble_eq_true rfl⟩) (ch_pV (lw_wM hw) (by decide) rfl rfl rfl) rfl rfl hl.1 rfl (lv_room (Nat.le_of_ble_eq_true rfl)) dL_law_644 ⟨Nat.le_of_ble_eq_true rfl, Nat.le_of_ble_eq_true rfl⟩) (fun H locs hw => ?_)
  exact lv_icmp_eq (tgt := 1356) hx hb dL_law_647 (by decide) (fun _ => next MC1 MM1 H locs ls hR1 hw hl) (fun q => absurd rfl q)
set_option maxHeartbeats 4000000 in
set_option maxRecDepth 100000 in
theorem lw_case_12 {p : Program} {l : Launch} {e : Env} {s : State} {m : MethodId} {below : List Frame} {meth : Method} {c : Code} {b L : Nat} {xs : Nat → Int32} {D : va_G} {I : ch_Id} {shC shM : Nat → Nat} {Q : State → Prop} (S : CallFix p m c cL_law 4 s #[Value.ref b] wsL_law RL) (hX : va_X b L xs s s.heap) (hbl : b < s.heap.size) (hL : L ≤ 3072) {i : Nat} (hi : i + 6 ≤ L) (next : ∀ (MC MM : ch_Mem) (H : Heap) (locs : List Loc) (ls : Array Slot), ch_R MC MM → ch_LW D I s b shC shM MC MM H locs → lv_has ls 4 [(0, .ref b), (1, .ref (shC 0)), (2, .ref (shM 0)), (3, .int (nI i))] → W p l e room_1 s m #[Value.ref b] below meth c H locs 53 5742 Q (F0 m 1356 ls [])) {MC MM : ch_Mem} {H : Heap} {locs : List Loc} {ls : Array Slot} (hR : ch_R MC MM) (hw : ch_LW D I s b shC shM MC MM H locs) (hl : lv_has ls 4 [(0, .ref b), (1, .ref (shC 0)), (2, .ref (shM 0)), (3, .int (nI i))]) : W p l e room_1 s m #[Value.ref b] below meth c H locs 53 5742 Q (F0 m 652 ls []) := by
  obtain ⟨hx, hb, hml, hown, hts⟩ := id S
  obtain ⟨r, MC1, MM1, h1, h2, hR1⟩ := op_power hR (xs (i + 1)) (xs (i + 2))
  refine lv_aload_n hx hb dL_law_652 rfl (lv_at hl 1 rfl) ?_
  refine lv_aload_n hx hb dL_law_653 rfl (lv_at hl 0 rfl) ?_
  refine lv_iload_n hx hb dL_law_654 rfl (lv_at hl 3 rfl) ?_
  refine lv_iconst (v := (1 : Int32)) hx hb dL_law_655 (by decide) ?_
  refine lv_iadd hx hb dL_law_656 ?_
  refine lw_sld (k := 1) hx hb hX hbl hw hL hi (by decide) (lw_ix i 1 rfl) dL_law_657 ?_
  refine lv_aload_n hx hb dL_law_658 rfl (lv_at hl 0 rfl) ?_
  refine lv_iload_n hx hb dL_law_659 rfl (lv_at hl 3 rfl) ?_
  refine lv_iconst (v := (2 : Int32)) hx hb dL_law_660 (by decide) ?_
  refine lv_iadd hx hb dL_law_661 ?_
  refine lw_sld (k := 2) hx hb hX hbl hw hL hi (by decide) (lw_ix i 2 rfl) dL_law_662 ?_
  refine lw_cCl hw (va_runV (As := [.int (xs (i + 1)), .int (xs (i + 2))]) (rest := []) S (c_X6_power l D I shC H.size MC (xs (i + 1)) (xs (i + 2)) h1) (cwV 2 S.2.2.2.2 gL_law_X6_power rfl rfl rfl (by decide +kernel) ⟨Nat.le_of_ble_eq_true rfl, Nat.le_of_ble_eq_true rfl⟩) (ch_pV (lw_wC hw) (by decide) rfl rfl rfl) rfl rfl hl.1 rfl (lv_room (Nat.le_of_ble_eq_true rfl)) dL_law_663 ⟨Nat.le_of_ble_eq_true rfl, Nat.le_of_ble_eq_true rfl⟩) (fun H locs hw => ?_)
  refine lv_aload_n hx hb dL_law_666 rfl (lv_at hl 2 rfl) ?_
  refine lv_aload_n hx hb dL_law_667 rfl (lv_at hl 0 rfl) ?_
  refine lv_iload_n hx hb dL_law_668 rfl (lv_at hl 3 rfl) ?_
  refine lv_iconst (v := (1 : Int32)) hx hb dL_law_669 (by decide) ?_
  refine lv_iadd hx hb dL_law_670 ?_
  refine lw_sld (k := 1) hx hb hX hbl hw hL hi (by decide) (lw_ix i 1 rfl) dL_law_671 ?_
  refine lv_aload_n hx hb dL_law_672 rfl (lv_at hl 0 rfl) ?_
  refine lv_iload_n hx hb dL_law_673 rfl (lv_at hl 3 rfl) ?_
  refine lv_iconst (v := (2 : Int32)) hx hb dL_law_674 (by decide) ?_
  refine lv_iadd hx hb dL_law_675 ?_
  refine lw_sld (k := 2) hx hb hX hbl hw hL hi (by decide) (lw_ix i 2 rfl) dL_law_676 ?_
  refine lw_cMl hw (va_runV (As := [.int (xs (i + 1)), .int (xs (i + 2))]) (rest := [.long r]) S (c_X7_power l D I shM H.size MM (xs (i + 1)) (xs (i + 2)) h2) (cwV 2 S.2.2.2.2 gL_law_X7_power rfl rfl rfl (by decide +kernel) ⟨Nat.le_of_ble_eq_true rfl, Nat.le_of_ble_eq_true rfl⟩) (ch_pV (lw_wM hw) (by decide) rfl rfl rfl) rfl rfl hl.1 rfl (lv_room (Nat.le_of_ble_eq_true rfl)) dL_law_677 ⟨Nat.le_of_ble_eq_true rfl, Nat.le_of_ble_eq_true rfl⟩) (fun H locs hw => ?_)
  refine W.lcmp hx hb dL_law_680 ?_
  exact lv_if_eq (tgt := 1356) hx hb dL_law_681 (by decide) (fun _ => next MC1 MM1 H locs ls hR1 hw hl) (fun q => absurd (lw_cmp r) q)
set_option maxHeartbeats 4000000 in
set_option maxRecDepth 100000 in
theorem lw_case_13 {p : Program} {l : Launch} {e : Env} {s : State} {m : MethodId} {below : List Frame} {meth : Method} {c : Code} {b L : Nat} {xs : Nat → Int32} {D : va_G} {I : ch_Id} {shC shM : Nat → Nat} {Q : State → Prop} (S : CallFix p m c cL_law 4 s #[Value.ref b] wsL_law RL) (hX : va_X b L xs s s.heap) (hbl : b < s.heap.size) (hL : L ≤ 3072) {i : Nat} (hi : i + 6 ≤ L) (next : ∀ (MC MM : ch_Mem) (H : Heap) (locs : List Loc) (ls : Array Slot), ch_R MC MM → ch_LW D I s b shC shM MC MM H locs → lv_has ls 4 [(0, .ref b), (1, .ref (shC 0)), (2, .ref (shM 0)), (3, .int (nI i))] → W p l e room_1 s m #[Value.ref b] below meth c H locs 53 5742 Q (F0 m 1356 ls [])) {MC MM : ch_Mem} {H : Heap} {locs : List Loc} {ls : Array Slot} (hR : ch_R MC MM) (hw : ch_LW D I s b shC shM MC MM H locs) (hl : lv_has ls 4 [(0, .ref b), (1, .ref (shC 0)), (2, .ref (shM 0)), (3, .int (nI i))]) : W p l e room_1 s m #[Value.ref b] below meth c H locs 53 5742 Q (F0 m 686 ls []) := by
  obtain ⟨hx, hb, hml, hown, hts⟩ := id S
  obtain ⟨r, MC1, MM1, h1, h2, hR1⟩ := op_doubt hR (xs (i + 1))
  refine lv_aload_n hx hb dL_law_686 rfl (lv_at hl 1 rfl) ?_
  refine lv_aload_n hx hb dL_law_687 rfl (lv_at hl 0 rfl) ?_
  refine lv_iload_n hx hb dL_law_688 rfl (lv_at hl 3 rfl) ?_
  refine lv_iconst (v := (1 : Int32)) hx hb dL_law_689 (by decide) ?_
  refine lv_iadd hx hb dL_law_690 ?_
  refine lw_sld (k := 1) hx hb hX hbl hw hL hi (by decide) (lw_ix i 1 rfl) dL_law_691 ?_
  refine lw_cCi hw (va_runV (As := [.int (xs (i + 1))]) (rest := []) S (c_X6_doubt l D I shC H.size MC (xs (i + 1)) h1) (cwV 1 S.2.2.2.2 gL_law_X6_doubt rfl rfl rfl (by decide +kernel) ⟨Nat.le_of_ble_eq_true rfl, Nat.le_of_ble_eq_true rfl⟩) (ch_pV (lw_wC hw) (by decide) rfl rfl rfl) rfl rfl hl.1 rfl (lv_room (Nat.le_of_ble_eq_true rfl)) dL_law_692 ⟨Nat.le_of_ble_eq_true rfl, Nat.le_of_ble_eq_true rfl⟩) (fun H locs hw => ?_)
  refine lv_aload_n hx hb dL_law_695 rfl (lv_at hl 2 rfl) ?_
  refine lv_aload_n hx hb dL_law_696 rfl (lv_at hl 0 rfl) ?_
  refine lv_iload_n hx hb dL_law_697 rfl (lv_at hl 3 rfl) ?_
  refine lv_iconst (v := (1 : Int32)) hx hb dL_law_698 (by decide) ?_
  refine lv_iadd hx hb dL_law_699 ?_
  refine lw_sld (k := 1) hx hb hX hbl hw hL hi (by decide) (lw_ix i 1 rfl) dL_law_700 ?_
  refine lw_cMi hw (va_runV (As := [.int (xs (i + 1))]) (rest := [.int r]) S (c_X7_doubt l D I shM H.size MM (xs (i + 1)) h2) (cwV 1 S.2.2.2.2 gL_law_X7_doubt rfl rfl rfl (by decide +kernel) ⟨Nat.le_of_ble_eq_true rfl, Nat.le_of_ble_eq_true rfl⟩) (ch_pV (lw_wM hw) (by decide) rfl rfl rfl) rfl rfl hl.1 rfl (lv_room (Nat.le_of_ble_eq_true rfl)) dL_law_701 ⟨Nat.le_of_ble_eq_true rfl, Nat.le_of_ble_eq_true rfl⟩) (fun H locs hw => ?_)
  exact lv_icmp_eq (tgt := 1356) hx hb dL_law_704 (by decide) (fun _ => next MC1 MM1 H locs ls hR1 hw hl) (fun q => absurd rfl q)
set_option maxHeartbeats 4000000 in
set_option maxRecDepth 100000 in
theorem lw_case_14 {p : Program} {l : Launch} {e : Env} {s : State} {m : MethodId} {below : List Frame} {meth : Method} {c : Code} {b L : Nat} {xs : Nat → Int32} {D : va_G} {I : ch_Id} {shC shM : Nat → Nat} {Q : State → Prop} (S : CallFix p m c cL_law 4 s #[Value.ref b] wsL_law RL) (hX : va_X b L xs s s.heap) (hbl : b < s.heap.size) (hL : L ≤ 3072) {i : Nat} (hi : i + 6 ≤ L) (next : ∀ (MC MM : ch_Mem) (H : Heap) (locs : List Loc) (ls : Array Slot), ch_R MC MM → ch_LW D I s b shC shM MC MM H locs → lv_has ls 4 [(0, .ref b), (1, .ref (shC 0)), (2, .ref (shM 0)), (3, .int (nI i))] → W p l e room_1 s m #[Value.ref b] below meth c H locs 53 5742 Q (F0 m 1356 ls [])) {MC MM : ch_Mem} {H : Heap} {locs : List Loc} {ls : Array Slot} (hR : ch_R MC MM) (hw : ch_LW D I s b shC shM MC MM H locs) (hl : lv_has ls 4 [(0, .ref b), (1, .ref (shC 0)), (2, .ref (shM 0)), (3, .int (nI i))]) : W p l e room_1 s m #[Value.ref b] below meth c H locs 53 5742 Q (F0 m 709 ls []) := by
  obtain ⟨hx, hb, hml, hown, hts⟩ := id S
  obtain ⟨r, MC1, MM1, h1, h2, hR1⟩ := op_peel hR (xs (i + 1)) (xs (i + 2))
  refine lv_aload_n hx hb dL_law_709 rfl (lv_at hl 1 rfl) ?_
  refine lv_aload_n hx hb dL_law_710 rfl (lv_at hl 0 rfl) ?_
  refine lv_iload_n hx hb dL_law_711 rfl (lv_at hl 3 rfl) ?_
  refine lv_iconst (v := (1 : Int32)) hx hb dL_law_712 (by decide) ?_
  refine lv_iadd hx hb dL_law_713 ?_
  refine lw_sld (k := 1) hx hb hX hbl hw hL hi (by decide) (lw_ix i 1 rfl) dL_law_714 ?_
  refine lv_aload_n hx hb dL_law_715 rfl (lv_at hl 0 rfl) ?_
  refine lv_iload_n hx hb dL_law_716 rfl (lv_at hl 3 rfl) ?_
  refine lv_iconst (v := (2 : Int32)) hx hb dL_law_717 (by decide) ?_
  refine lv_iadd hx hb dL_law_718 ?_
  refine lw_sld (k := 2) hx hb hX hbl hw hL hi (by decide) (lw_ix i 2 rfl) dL_law_719 ?_
  refine lw_cCi hw (va_runV (As := [.int (xs (i + 1)), .int (xs (i + 2))]) (rest := []) S (c_X6_peel l D I shC H.size MC (xs (i + 1)) (xs (i + 2)) h1) (cwV 2 S.2.2.2.2 gL_law_X6_peel rfl rfl rfl (by decide +kernel) ⟨Nat.le_of_ble_eq_true rfl, Nat.le_of_ble_eq_true rfl⟩) (ch_pV (lw_wC hw) (by decide) rfl rfl rfl) rfl rfl hl.1 rfl (lv_room (Nat.le_of_ble_eq_true rfl)) dL_law_720 ⟨Nat.le_of_ble_eq_true rfl, Nat.le_of_ble_eq_true rfl⟩) (fun H locs hw => ?_)
  refine lv_aload_n hx hb dL_law_723 rfl (lv_at hl 2 rfl) ?_
  refine lv_aload_n hx hb dL_law_724 rfl (lv_at hl 0 rfl) ?_
  refine lv_iload_n hx hb dL_law_725 rfl (lv_at hl 3 rfl) ?_
  refine lv_iconst (v := (1 : Int32)) hx hb dL_law_726 (by decide) ?_
  refine lv_iadd hx hb dL_law_727 ?_
  refine lw_sld (k := 1) hx hb hX hbl hw hL hi (by decide) (lw_ix i 1 rfl) dL_law_728 ?_
  refine lv_aload_n hx hb dL_law_729 rfl (lv_at hl 0 rfl) ?_
  refine lv_iload_n hx hb dL_law_730 rfl (lv_at hl 3 rfl) ?_
  refine lv_iconst (v := (2 : Int32)) hx hb dL_law_731 (by decide) ?_
  refine lv_iadd hx hb dL_law_732 ?_
  refine lw_sld (k := 2) hx hb hX hbl hw hL hi (by decide) (lw_ix i 2 rfl) dL_law_733 ?_
  refine lw_cMi hw (va_runV (As := [.int (xs (i + 1)), .int (xs (i + 2))]) (rest := [.int r]) S (c_X7_peel l D I shM H.size MM (xs (i + 1)) (xs (i + 2)) h2) (cwV 2 S.2.2.2.2 gL_law_X7_peel rfl rfl rfl (by decide +kernel) ⟨Nat.le_of_ble_eq_true rfl, Nat.le_of_ble_eq_true rfl⟩) (ch_pV (lw_wM hw) (by decide) rfl rfl rfl) rfl rfl hl.1 rfl (lv_room (Nat.le_of_ble_eq_true rfl)) dL_law_734 ⟨Nat.le_of_ble_eq_true rfl, Nat.le_of_ble_eq_true rfl⟩) (fun H locs hw => ?_)
  exact lv_icmp_eq (tgt := 1356) hx hb dL_law_737 (by decide) (fun _ => next MC1 MM1 H locs ls hR1 hw hl) (fun q => absurd rfl q)
set_option maxHeartbeats 4000000 in
set_option maxRecDepth 100000 in
theorem lw_case_15 {p : Program} {l : Launch} {e : Env} {s : State} {m : MethodId} {below : List Frame} {meth : Method} {c : Code} {b L : Nat} {xs : Nat → Int32} {D : va_G} {I : ch_Id} {shC shM : Nat → Nat} {Q : State → Prop} (S : CallFix p m c cL_law 4 s #[Value.ref b] wsL_law RL) (hX : va_X b L xs s s.heap) (hbl : b < s.heap.size) (hL : L ≤ 3072) {i : Nat} (hi : i + 6 ≤ L) (next : ∀ (MC MM : ch_Mem) (H : Heap) (locs : List Loc) (ls : Array Slot), ch_R MC MM → ch_LW D I s b shC shM MC MM H locs → lv_has ls 4 [(0, .ref b), (1, .ref (shC 0)), (2, .ref (shM 0)), (3, .int (nI i))] → W p l e room_1 s m #[Value.ref b] below meth c H locs 53 5742 Q (F0 m 1356 ls [])) {MC MM : ch_Mem} {H : Heap} {locs : List Loc} {ls : Array Slot} (hR : ch_R MC MM) (hw : ch_LW D I s b shC shM MC MM H locs) (hl : lv_has ls 4 [(0, .ref b), (1, .ref (shC 0)), (2, .ref (shM 0)), (3, .int (nI i))]) : W p l e room_1 s m #[Value.ref b] below meth c H locs 53 5742 Q (F0 m 742 ls []) := by
  obtain ⟨hx, hb, hml, hown, hts⟩ := id S
  obtain ⟨r, MC1, MM1, h1, h2, hR1⟩ := op_peeled hR (xs (i + 1)) (xs (i + 2))
  refine lv_aload_n hx hb dL_law_742 rfl (lv_at hl 1 rfl) ?_
  refine lv_aload_n hx hb dL_law_743 rfl (lv_at hl 0 rfl) ?_
  refine lv_iload_n hx hb dL_law_744 rfl (lv_at hl 3 rfl) ?_
  refine lv_iconst (v := (1 : Int32)) hx hb dL_law_745 (by decide) ?_
  refine lv_iadd hx hb dL_law_746 ?_
  refine lw_sld (k := 1) hx hb hX hbl hw hL hi (by decide) (lw_ix i 1 rfl) dL_law_747 ?_
  refine lv_aload_n hx hb dL_law_748 rfl (lv_at hl 0 rfl) ?_
  refine lv_iload_n hx hb dL_law_749 rfl (lv_at hl 3 rfl) ?_
  refine lv_iconst (v := (2 : Int32)) hx hb dL_law_750 (by decide) ?_
  refine lv_iadd hx hb dL_law_751 ?_
  refine lw_sld (k := 2) hx hb hX hbl hw hL hi (by decide) (lw_ix i 2 rfl) dL_law_752 ?_
  refine lw_cCi hw (va_runV (As := [.int (xs (i + 1)), .int (xs (i + 2))]) (rest := []) S (c_X6_peeled l D I shC H.size MC (xs (i + 1)) (xs (i + 2)) h1) (cwV 2 S.2.2.2.2 gL_law_X6_peeled rfl rfl rfl (by decide +kernel) ⟨Nat.le_of_ble_eq_true rfl, Nat.le_of_ble_eq_true rfl⟩) (ch_pV (lw_wC hw) (by decide) rfl rfl rfl) rfl rfl hl.1 rfl (lv_room (Nat.le_of_ble_eq_true rfl)) dL_law_753 ⟨Nat.le_of_ble_eq_true rfl, Nat.le_of_ble_eq_true rfl⟩) (fun H locs hw => ?_)
  refine lv_aload_n hx hb dL_law_756 rfl (lv_at hl 2 rfl) ?_
  refine lv_aload_n hx hb dL_law_757 rfl (lv_at hl 0 rfl) ?_
  refine lv_iload_n hx hb dL_law_758 rfl (lv_at hl 3 rfl) ?_
  refine lv_iconst (v := (1 : Int32)) hx hb dL_law_759 (by decide) ?_
  refine lv_iadd hx hb dL_law_760 ?_
  refine lw_sld (k := 1) hx hb hX hbl hw hL hi (by decide) (lw_ix i 1 rfl) dL_law_761 ?_
  refine lv_aload_n hx hb dL_law_762 rfl (lv_at hl 0 rfl) ?_
  refine lv_iload_n hx hb dL_law_763 rfl (lv_at hl 3 rfl) ?_
  refine lv_iconst (v := (2 : Int32)) hx hb dL_law_764 (by decide) ?_
  refine lv_iadd hx hb dL_law_765 ?_
  refine lw_sld (k := 2) hx hb hX hbl hw hL hi (by decide) (lw_ix i 2 rfl) dL_law_766 ?_
  refine lw_cMi hw (va_runV (As := [.int (xs (i + 1)), .int (xs (i + 2))]) (rest := [.int r]) S (c_X7_peeled l D I shM H.size MM (xs (i + 1)) (xs (i + 2)) h2) (cwV 2 S.2.2.2.2 gL_law_X7_peeled rfl rfl rfl (by decide +kernel) ⟨Nat.le_of_ble_eq_true rfl, Nat.le_of_ble_eq_true rfl⟩) (ch_pV (lw_wM hw) (by decide) rfl rfl rfl) rfl rfl hl.1 rfl (lv_room (Nat.le_of_ble_eq_true rfl)) dL_law_767 ⟨Nat.le_of_ble_eq_true rfl, Nat.le_of_ble_eq_true rfl⟩) (fun H locs hw => ?_)
  exact lv_icmp_eq (tgt := 1356) hx hb dL_law_770 (by decide) (fun _ => next MC1 MM1 H locs ls hR1 hw hl) (fun q => absurd rfl q)
set_option maxHeartbeats 4000000 in
set_option maxRecDepth 100000 in
theorem lw_case_16 {p : Program} {l : Launch} {e : Env} {s : State} {m : MethodId} {below : List Frame} {meth : Method} {c : Code} {b L : Nat} {xs : Nat → Int32} {D : va_G} {I : ch_Id} {shC shM : Nat → Nat} {Q : State → Prop} (S : CallFix p m c cL_law 4 s #[Value.ref b] wsL_law RL) (hX : va_X b L xs s s.heap) (hbl : b < s.heap.size) (hL : L ≤ 3072) {i : Nat} (hi : i + 6 ≤ L) (next : ∀ (MC MM : ch_Mem) (H : Heap) (locs : List Loc) (ls : Array Slot), ch_R MC MM → ch_LW D I s b shC shM MC MM H locs → lv_has ls 4 [(0, .ref b), (1, .ref (shC 0)), (2, .ref (shM 0)), (3, .int (nI i))] → W p l e room_1 s m #[Value.ref b] below meth c H locs 53 5742 Q (F0 m 1356 ls [])) {MC MM : ch_Mem} {H : Heap} {locs : List Loc} {ls : Array Slot} (hR : ch_R MC MM) (hw : ch_LW D I s b shC shM MC MM H locs) (hl : lv_has ls 4 [(0, .ref b), (1, .ref (shC 0)), (2, .ref (shM 0)), (3, .int (nI i))]) : W p l e room_1 s m #[Value.ref b] below meth c H locs 53 5742 Q (F0 m 775 ls []) := by
  obtain ⟨hx, hb, hml, hown, hts⟩ := id S
  obtain ⟨r, MC1, MM1, h1, h2, hR1⟩ := op_noise hR 
  refine lv_aload_n hx hb dL_law_775 rfl (lv_at hl 1 rfl) ?_
  refine lw_cCl hw (va_runV (As := []) (rest := []) S (c_X6_noise l D I shC H.size MC  h1) (cwV 0 S.2.2.2.2 gL_law_X6_noise rfl rfl rfl (by decide +kernel) ⟨Nat.le_of_ble_eq_true rfl, Nat.le_of_ble_eq_true rfl⟩) (ch_pV (lw_wC hw) (by decide) rfl rfl rfl) rfl rfl hl.1 rfl (lv_room (Nat.le_of_ble_eq_true rfl)) dL_law_776 ⟨Nat.le_of_ble_eq_true rfl, Nat.le_of_ble_eq_true rfl⟩) (fun H locs hw => ?_)
  refine lv_aload_n hx hb dL_law_779 rfl (lv_at hl 2 rfl) ?_
  refine lw_cMl hw (va_runV (As := []) (rest := [.long r]) S (c_X7_noise l D I shM H.size MM  h2) (cwV 0 S.2.2.2.2 gL_law_X7_noise rfl rfl rfl (by decide +kernel) ⟨Nat.le_of_ble_eq_true rfl, Nat.le_of_ble_eq_true rfl⟩) (ch_pV (lw_wM hw) (by decide) rfl rfl rfl) rfl rfl hl.1 rfl (lv_room (Nat.le_of_ble_eq_true rfl)) dL_law_780 ⟨Nat.le_of_ble_eq_true rfl, Nat.le_of_ble_eq_true rfl⟩) (fun H locs hw => ?_)
  refine W.lcmp hx hb dL_law_783 ?_
  exact lv_if_eq (tgt := 1356) hx hb dL_law_784 (by decide) (fun _ => next MC1 MM1 H locs ls hR1 hw hl) (fun q => absurd (lw_cmp r) q)
set_option maxHeartbeats 4000000 in
set_option maxRecDepth 100000 in
theorem lw_case_17 {p : Program} {l : Launch} {e : Env} {s : State} {m : MethodId} {below : List Frame} {meth : Method} {c : Code} {b L : Nat} {xs : Nat → Int32} {D : va_G} {I : ch_Id} {shC shM : Nat → Nat} {Q : State → Prop} (S : CallFix p m c cL_law 4 s #[Value.ref b] wsL_law RL) (hX : va_X b L xs s s.heap) (hbl : b < s.heap.size) (hL : L ≤ 3072) {i : Nat} (hi : i + 6 ≤ L) (next : ∀ (MC MM : ch_Mem) (H : Heap) (locs : List Loc) (ls : Array Slot), ch_R MC MM → ch_LW D I s b shC shM MC MM H locs → lv_has ls 4 [(0, .ref b), (1, .ref (shC 0)), (2, .ref (shM 0)), (3, .int (nI i))] → W p l e room_1 s m #[Value.ref b] below meth c H locs 53 5742 Q (F0 m 1356 ls [])) {MC MM : ch_Mem} {H : Heap} {locs : List Loc} {ls : Array Slot} (hR : ch_R MC MM) (hw : ch_LW D I s b shC shM MC MM H locs) (hl : lv_has ls 4 [(0, .ref b), (1, .ref (shC 0)), (2, .ref (shM 0)), (3, .int (nI i))]) : W p l e room_1 s m #[Value.ref b] below meth c H locs 53 5742 Q (F0 m 789 ls []) := by
  obtain ⟨hx, hb, hml, hown, hts⟩ := id S
  obtain ⟨r, MC1, MM1, h1, h2, hR1⟩ := op_follow hR (xs (i + 1)) (xs (i + 2)) (xs (i + 3)) (xs (i + 4))
  refine lv_aload_n hx hb dL_law_789 rfl (lv_at hl 1 rfl) ?_
  refine lv_aload_n hx hb dL_law_790 rfl (lv_at hl 0 rfl) ?_
  refine lv_iload_n hx hb dL_law_791 rfl (lv_at hl 3 rfl) ?_
  refine lv_iconst (v := (1 : Int32)) hx hb dL_law_792 (by decide) ?_
  refine lv_iadd hx hb dL_law_793 ?_
  refine lw_sld (k := 1) hx hb hX hbl hw hL hi (by decide) (lw_ix i 1 rfl) dL_law_794 ?_
  refine lv_aload_n hx hb dL_law_795 rfl (lv_at hl 0 rfl) ?_
  refine lv_iload_n hx hb dL_law_796 rfl (lv_at hl 3 rfl) ?_
  refine lv_iconst (v := (2 : Int32)) hx hb dL_law_797 (by decide) ?_
  refine lv_iadd hx hb dL_law_798 ?_
  refine lw_sld (k := 2) hx hb hX hbl hw hL hi (by decide) (lw_ix i 2 rfl) dL_law_799 ?_
  refine lv_aload_n hx hb dL_law_800 rfl (lv_at hl 0 rfl) ?_
  refine lv_iload_n hx hb dL_law_801 rfl (lv_at hl 3 rfl) ?_
  refine lv_iconst (v := (3 : Int32)) hx hb dL_law_802 (by decide) ?_
  refine lv_iadd hx hb dL_law_803 ?_
  refine lw_sld (k := 3) hx hb hX hbl hw hL hi (by decide) (lw_ix i 3 rfl) dL_law_804 ?_
  refine lv_aload_n hx hb dL_law_805 rfl (lv_at hl 0 rfl) ?_
  refine lv_iload_n hx hb dL_law_806 rfl (lv_at hl 3 rfl) ?_
  refine lv_iconst (v := (4 : Int32)) hx hb dL_law_807 (by decide) ?_
  refine lv_iadd hx hb dL_law_808 ?_
  refine lw_sld (k := 4) hx hb hX hbl hw hL hi (by decide) (lw_ix i 4 rfl) dL_law_809 ?_
  refine lw_cCi hw (va_runV (As := [.int (xs (i + 1)), .int (xs (i + 2)), .int (xs (i + 3)), .int (xs (i + 4))]) (rest := []) S (c_X6_follow l D I shC H.size MC (xs (i + 1)) (xs (i + 2)) (xs (i + 3)) (xs (i + 4)) h1) (cwV 4 S.2.2.2.2 gL_law_X6_follow rfl rfl rfl (by decide +kernel) ⟨Nat.le_of_ble_eq_true rfl, Nat.le_of_ble_eq_true rfl⟩) (ch_pV (lw_wC hw) (by decide) rfl rfl rfl) rfl rfl hl.1 rfl (lv_room (Nat.le_of_ble_eq_true rfl)) dL_law_810 ⟨Nat.le_of_ble_eq_true rfl, Nat.le_of_ble_eq_true rfl⟩) (fun H locs hw => ?_)
  refine lv_aload_n hx hb dL_law_813 rfl (lv_at hl 2 rfl) ?_
  refine lv_aload_n hx hb dL_law_814 rfl (lv_at hl 0 rfl) ?_
  refine lv_iload_n hx hb dL_law_815 rfl (lv_at hl 3 rfl) ?_
  refine lv_iconst (v := (1 : Int32)) hx hb dL_law_816 (by decide) ?_
  refine lv_iadd hx hb dL_law_817 ?_
  refine lw_sld (k := 1) hx hb hX hbl hw hL hi (by decide) (lw_ix i 1 rfl) dL_law_818 ?_
  refine lv_aload_n hx hb dL_law_819 rfl (lv_at hl 0 rfl) ?_
  refine lv_iload_n hx hb dL_law_820 rfl (lv_at hl 3 rfl) ?_
  refine lv_iconst (v := (2 : Int32)) hx hb dL_law_821 (by decide) ?_
  refine lv_iadd hx hb dL_law_822 ?_
  refine lw_sld (k := 2) hx hb hX hbl hw hL hi (by decide) (lw_ix i 2 rfl) dL_law_823 ?_
  refine lv_aload_n hx hb dL_law_824 rfl (lv_at hl 0 rfl) ?_
  refine lv_iload_n hx hb dL_law_825 rfl (lv_at hl 3 rfl) ?_
  refine lv_iconst (v := (3 : Int32)) hx hb dL_law_826 (by decide) ?_
  refine lv_iadd hx hb dL_law_827 ?_
  refine lw_sld (k := 3) hx hb hX hbl hw hL hi (by decide) (lw_ix i 3 rfl) dL_law_828 ?_
  refine lv_aload_n hx hb dL_law_829 rfl (lv_at hl 0 rfl) ?_
  refine lv_iload_n hx hb dL_law_830 rfl (lv_at hl 3 rfl) ?_
  refine lv_iconst (v := (4 : Int32)) hx hb dL_law_831 (by decide) ?_
  refine lv_iadd hx hb dL_law_832 ?_
  refine lw_sld (k := 4) hx hb hX hbl hw hL hi (by decide) (lw_ix i 4 rfl) dL_law_833 ?_
  refine lw_cMi hw (va_runV (As := [.int (xs (i + 1)), .int (xs (i + 2)), .int (xs (i + 3)), .int (xs (i + 4))]) (rest := [.int r]) S (c_X7_follow l D I shM H.size MM (xs (i + 1)) (xs (i + 2)) (xs (i + 3)) (xs (i + 4)) h2) (cwV 4 S.2.2.2.2 gL_law_X7_follow rfl rfl rfl (by decide +kernel) ⟨Nat.le_of_ble_eq_true rfl, Nat.le_of_ble_eq_true rfl⟩) (ch_pV (lw_wM hw) (by decide) rfl rfl rfl) rfl rfl hl.1 rfl (lv_room (Nat.le_of_ble_eq_true rfl)) dL_law_834 ⟨Nat.le_of_ble_eq_true rfl, Nat.le_of_ble_eq_true rfl⟩) (fun H locs hw => ?_)
  exact lv_icmp_eq (tgt := 1356) hx hb dL_law_837 (by decide) (fun _ => next MC1 MM1 H locs ls hR1 hw hl) (fun q => absurd rfl q)
set_option maxHeartbeats 4000000 in
set_option maxRecDepth 100000 in
theorem lw_case_18 {p : Program} {l : Launch} {e : Env} {s : State} {m : MethodId} {below : List Frame} {meth : Method} {c : Code} {b L : Nat} {xs : Nat → Int32} {D : va_G} {I : ch_Id} {shC shM : Nat → Nat} {Q : State → Prop} (S : CallFix p m c cL_law 4 s #[Value.ref b] wsL_law RL) (hX : va_X b L xs s s.heap) (hbl : b < s.heap.size) (hL : L ≤ 3072) {i : Nat} (hi : i + 6 ≤ L) (next : ∀ (MC MM : ch_Mem) (H : Heap) (locs : List Loc) (ls : Array Slot), ch_R MC MM → ch_LW D I s b shC shM MC MM H locs → lv_has ls 4 [(0, .ref b), (1, .ref (shC 0)), (2, .ref (shM 0)), (3, .int (nI i))] → W p l e room_1 s m #[Value.ref b] below meth c H locs 53 5742 Q (F0 m 1356 ls [])) {MC MM : ch_Mem} {H : Heap} {locs : List Loc} {ls : Array Slot} (hR : ch_R MC MM) (hw : ch_LW D I s b shC shM MC MM H locs) (hl : lv_has ls 4 [(0, .ref b), (1, .ref (shC 0)), (2, .ref (shM 0)), (3, .int (nI i))]) : W p l e room_1 s m #[Value.ref b] below meth c H locs 53 5742 Q (F0 m 842 ls []) := by
  obtain ⟨hx, hb, hml, hown, hts⟩ := id S
  obtain ⟨r, MC1, MM1, h1, h2, hR1⟩ := op_length hR (xs (i + 1)) (xs (i + 2))
  refine lv_aload_n hx hb dL_law_842 rfl (lv_at hl 1 rfl) ?_
  refine lv_aload_n hx hb dL_law_843 rfl (lv_at hl 0 rfl) ?_
  refine lv_iload_n hx hb dL_law_844 rfl (lv_at hl 3 rfl) ?_
  refine lv_iconst (v := (1 : Int32)) hx hb dL_law_845 (by decide) ?_
  refine lv_iadd hx hb dL_law_846 ?_
  refine lw_sld (k := 1) hx hb hX hbl hw hL hi (by decide) (lw_ix i 1 rfl) dL_law_847 ?_
  refine lv_aload_n hx hb dL_law_848 rfl (lv_at hl 0 rfl) ?_
  refine lv_iload_n hx hb dL_law_849 rfl (lv_at hl 3 rfl) ?_
  refine lv_iconst (v := (2 : Int32)) hx hb dL_law_850 (by decide) ?_
  refine lv_iadd hx hb dL_law_851 ?_
  refine lw_sld (k := 2) hx hb hX hbl hw hL hi (by decide) (lw_ix i 2 rfl) dL_law_852 ?_
  refine lw_cCi hw (va_runV (As := [.int (xs (i + 1)), .int (xs (i + 2))]) (rest := []) S (c_X6_length l D I shC H.size MC (xs (i + 1)) (xs (i + 2)) h1) (cwV 2 S.2.2.2.2 gL_law_X6_length rfl rfl rfl (by decide +kernel) ⟨Nat.le_of_ble_eq_true rfl, Nat.le_of_ble_eq_true rfl⟩) (ch_pV (lw_wC hw) (by decide) rfl rfl rfl) rfl rfl hl.1 rfl (lv_room (Nat.le_of_ble_eq_true rfl)) dL_law_853 ⟨Nat.le_of_ble_eq_true rfl, Nat.le_of_ble_eq_true rfl⟩) (fun H locs hw => ?_)
  refine lv_aload_n hx hb dL_law_856 rfl (lv_at hl 2 rfl) ?_
  refine lv_aload_n hx hb dL_law_857 rfl (lv_at hl 0 rfl) ?_
  refine lv_iload_n hx hb dL_law_858 rfl (lv_at hl 3 rfl) ?_
  refine lv_iconst (v := (1 : Int32)) hx hb dL_law_859 (by decide) ?_
  refine lv_iadd hx hb dL_law_860 ?_
  refine lw_sld (k := 1) hx hb hX hbl hw hL hi (by decide) (lw_ix i 1 rfl) dL_law_861 ?_
  refine lv_aload_n hx hb dL_law_862 rfl (lv_at hl 0 rfl) ?_
  refine lv_iload_n hx hb dL_law_863 rfl (lv_at hl 3 rfl) ?_
  refine lv_iconst (v := (2 : Int32)) hx hb dL_law_864 (by decide) ?_
  refine lv_iadd hx hb dL_law_865 ?_
  refine lw_sld (k := 2) hx hb hX hbl hw hL hi (by decide) (lw_ix i 2 rfl) dL_law_866 ?_
  refine lw_cMi hw (va_runV (As := [.int (xs (i + 1)), .int (xs (i + 2))]) (rest := [.int r]) S (c_X7_length l D I shM H.size MM (xs (i + 1)) (xs (i + 2)) h2) (cwV 2 S.2.2.2.2 gL_law_X7_length rfl rfl rfl (by decide +kernel) ⟨Nat.le_of_ble_eq_true rfl, Nat.le_of_ble_eq_true rfl⟩) (ch_pV (lw_wM hw) (by decide) rfl rfl rfl) rfl rfl hl.1 rfl (lv_room (Nat.le_of_ble_eq_true rfl)) dL_law_867 ⟨Nat.le_of_ble_eq_true rfl, Nat.le_of_ble_eq_true rfl⟩) (fun H locs hw => ?_)
  exact lv_icmp_eq (tgt := 1356) hx hb dL_law_870 (by decide) (fun _ => next MC1 MM1 H locs ls hR1 hw hl) (fun q => absurd rfl q)
set_option maxHeartbeats 4000000 in
set_option maxRecDepth 100000 in
theorem lw_case_19 {p : Program} {l : Launch} {e : Env} {s : State} {m : MethodId} {below : List Frame} {meth : Method} {c : Code} {b L : Nat} {xs : Nat → Int32} {D : va_G} {I : ch_Id} {shC shM : Nat → Nat} {Q : State → Prop} (S : CallFix p m c cL_law 4 s #[Value.ref b] wsL_law RL) (hX : va_X b L xs s s.heap) (hbl : b < s.heap.size) (hL : L ≤ 3072) {i : Nat} (hi : i + 6 ≤ L) (next : ∀ (MC MM : ch_Mem) (H : Heap) (locs : List Loc) (ls : Array Slot), ch_R MC MM → ch_LW D I s b shC shM MC MM H locs → lv_has ls 4 [(0, .ref b), (1, .ref (shC 0)), (2, .ref (shM 0)), (3, .int (nI i))] → W p l e room_1 s m #[Value.ref b] below meth c H locs 53 5742 Q (F0 m 1356 ls [])) {MC MM : ch_Mem} {H : Heap} {locs : List Loc} {ls : Array Slot} (hR : ch_R MC MM) (hw : ch_LW D I s b shC shM MC MM H locs) (hl : lv_has ls 4 [(0, .ref b), (1, .ref (shC 0)), (2, .ref (shM 0)), (3, .int (nI i))]) : W p l e room_1 s m #[Value.ref b] below meth c H locs 53 5742 Q (F0 m 875 ls []) := by
  obtain ⟨hx, hb, hml, hown, hts⟩ := id S
  obtain ⟨r, MC1, MM1, h1, h2, hR1⟩ := op_reset hR 
  refine lv_aload_n hx hb dL_law_875 rfl (lv_at hl 1 rfl) ?_
  refine lw_cCi hw (va_runV (As := []) (rest := []) S (c_X6_reset l D I shC H.size MC  h1) (cwV 0 S.2.2.2.2 gL_law_X6_reset rfl rfl rfl (by decide +kernel) ⟨Nat.le_of_ble_eq_true rfl, Nat.le_of_ble_eq_true rfl⟩) (ch_pV (lw_wC hw) (by decide) rfl rfl rfl) rfl rfl hl.1 rfl (lv_room (Nat.le_of_ble_eq_true rfl)) dL_law_876 ⟨Nat.le_of_ble_eq_true rfl, Nat.le_of_ble_eq_true rfl⟩) (fun H locs hw => ?_)
  refine lv_aload_n hx hb dL_law_879 rfl (lv_at hl 2 rfl) ?_
  refine lw_cMi hw (va_runV (As := []) (rest := [.int r]) S (c_X7_reset l D I shM H.size MM  h2) (cwV 0 S.2.2.2.2 gL_law_X7_reset rfl rfl rfl (by decide +kernel) ⟨Nat.le_of_ble_eq_true rfl, Nat.le_of_ble_eq_true rfl⟩) (ch_pV (lw_wM hw) (by decide) rfl rfl rfl) rfl rfl hl.1 rfl (lv_room (Nat.le_of_ble_eq_true rfl)) dL_law_880 ⟨Nat.le_of_ble_eq_true rfl, Nat.le_of_ble_eq_true rfl⟩) (fun H locs hw => ?_)
  exact lv_icmp_eq (tgt := 1356) hx hb dL_law_883 (by decide) (fun _ => next MC1 MM1 H locs ls hR1 hw hl) (fun q => absurd rfl q)
set_option maxHeartbeats 4000000 in
set_option maxRecDepth 100000 in
theorem lw_case_20 {p : Program} {l : Launch} {e : Env} {s : State} {m : MethodId} {below : List Frame} {meth : Method} {c : Code} {b L : Nat} {xs : Nat → Int32} {D : va_G} {I : ch_Id} {shC shM : Nat → Nat} {Q : State → Prop} (S : CallFix p m c cL_law 4 s #[Value.ref b] wsL_law RL) (hX : va_X b L xs s s.heap) (hbl : b < s.heap.size) (hL : L ≤ 3072) {i : Nat} (hi : i + 6 ≤ L) (next : ∀ (MC MM : ch_Mem) (H : Heap) (locs : List Loc) (ls : Array Slot), ch_R MC MM → ch_LW D I s b shC shM MC MM H locs → lv_has ls 4 [(0, .ref b), (1, .ref (shC 0)), (2, .ref (shM 0)), (3, .int (nI i))] → W p l e room_1 s m #[Value.ref b] below meth c H locs 53 5742 Q (F0 m 1356 ls [])) {MC MM : ch_Mem} {H : Heap} {locs : List Loc} {ls : Array Slot} (hR : ch_R MC MM) (hw : ch_LW D I s b shC shM MC MM H locs) (hl : lv_has ls 4 [(0, .ref b), (1, .ref (shC 0)), (2, .ref (shM 0)), (3, .int (nI i))]) : W p l e room_1 s m #[Value.ref b] below meth c H locs 53 5742 Q (F0 m 888 ls []) := by
  obtain ⟨hx, hb, hml, hown, hts⟩ := id S
  obtain ⟨r, MC1, MM1, h1, h2, hR1⟩ := op_range hR 
  refine lv_aload_n hx hb dL_law_888 rfl (lv_at hl 1 rfl) ?_
  refine lw_cCl hw (va_runV (As := []) (rest := []) S (c_X6_range l D I shC H.size MC  h1) (cwV 0 S.2.2.2.2 gL_law_X6_range rfl rfl rfl (by decide +kernel) ⟨Nat.le_of_ble_eq_true rfl, Nat.le_of_ble_eq_true rfl⟩) (ch_pV (lw_wC hw) (by decide) rfl rfl rfl) rfl rfl hl.1 rfl (lv_room (Nat.le_of_ble_eq_true rfl)) dL_law_889 ⟨Nat.le_of_ble_eq_true rfl, Nat.le_of_ble_eq_true rfl⟩) (fun H locs hw => ?_)
  refine lv_aload_n hx hb dL_law_892 rfl (lv_at hl 2 rfl) ?_
  refine lw_cMl hw (va_runV (As := []) (rest := [.long r]) S (c_X7_range l D I shM H.size MM  h2) (cwV 0 S.2.2.2.2 gL_law_X7_range rfl rfl rfl (by decide +kernel) ⟨Nat.le_of_ble_eq_true rfl, Nat.le_of_ble_eq_true rfl⟩) (ch_pV (lw_wM hw) (by decide) rfl rfl rfl) rfl rfl hl.1 rfl (lv_room (Nat.le_of_ble_eq_true rfl)) dL_law_893 ⟨Nat.le_of_ble_eq_true rfl, Nat.le_of_ble_eq_true rfl⟩) (fun H locs hw => ?_)
  refine W.lcmp hx hb dL_law_896 ?_
  exact lv_if_eq (tgt := 1356) hx hb dL_law_897 (by decide) (fun _ => next MC1 MM1 H locs ls hR1 hw hl) (fun q => absurd (lw_cmp r) q)
set_option maxHeartbeats 4000000 in
set_option maxRecDepth 100000 in
theorem lw_case_21 {p : Program} {l : Launch} {e : Env} {s : State} {m : MethodId} {below : List Frame} {meth : Method} {c : Code} {b L : Nat} {xs : Nat → Int32} {D : va_G} {I : ch_Id} {shC shM : Nat → Nat} {Q : State → Prop} (S : CallFix p m c cL_law 4 s #[Value.ref b] wsL_law RL) (hX : va_X b L xs s s.heap) (hbl : b < s.heap.size) (hL : L ≤ 3072) {i : Nat} (hi : i + 6 ≤ L) (next : ∀ (MC MM : ch_Mem) (H : Heap) (locs : List Loc) (ls : Array Slot), ch_R MC MM → ch_LW D I s b shC shM MC MM H locs → lv_has ls 4 [(0, .ref b), (1, .ref (shC 0)), (2, .ref (shM 0)), (3, .int (nI i))] → W p l e room_1 s m #[Value.ref b] below meth c H locs 53 5742 Q (F0 m 1356 ls [])) {MC MM : ch_Mem} {H : Heap} {locs : List Loc} {ls : Array Slot} (hR : ch_R MC MM) (hw : ch_LW D I s b shC shM MC MM H locs) (hl : lv_has ls 4 [(0, .ref b), (1, .ref (shC 0)), (2, .ref (shM 0)), (3, .int (nI i))]) : W p l e room_1 s m #[Value.ref b] below meth c H locs 53 5742 Q (F0 m 902 ls []) := by
  obtain ⟨hx, hb, hml, hown, hts⟩ := id S
  obtain ⟨r, MC1, MM1, h1, h2, hR1⟩ := op_mend hR (xs (i + 1))
  refine lv_aload_n hx hb dL_law_902 rfl (lv_at hl 1 rfl) ?_
  refine lv_aload_n hx hb dL_law_903 rfl (lv_at hl 0 rfl) ?_
  refine lv_iload_n hx hb dL_law_904 rfl (lv_at hl 3 rfl) ?_
  refine lv_iconst (v := (1 : Int32)) hx hb dL_law_905 (by decide) ?_
  refine lv_iadd hx hb dL_law_906 ?_
  refine lw_sld (k := 1) hx hb hX hbl hw hL hi (by decide) (lw_ix i 1 rfl) dL_law_907 ?_
  refine lw_cCi hw (va_runV (As := [.int (xs (i + 1))]) (rest := []) S (c_X6_mend l D I shC H.size MC (xs (i + 1)) h1) (cwV 1 S.2.2.2.2 gL_law_X6_mend rfl rfl rfl (by decide +kernel) ⟨Nat.le_of_ble_eq_true rfl, Nat.le_of_ble_eq_true rfl⟩) (ch_pV (lw_wC hw) (by decide) rfl rfl rfl) rfl rfl hl.1 rfl (lv_room (Nat.le_of_ble_eq_true rfl)) dL_law_908 ⟨Nat.le_of_ble_eq_true rfl, Nat.le_of_ble_eq_true rfl⟩) (fun H locs hw => ?_)
  refine lv_aload_n hx hb dL_law_911 rfl (lv_at hl 2 rfl) ?_
  refine lv_aload_n hx hb dL_law_912 rfl (lv_at hl 0 rfl) ?_
  refine lv_iload_n hx hb dL_law_913 rfl (lv_at hl 3 rfl) ?_
  refine lv_iconst (v := (1 : Int32)) hx hb dL_law_914 (by decide) ?_
  refine lv_iadd hx hb dL_law_915 ?_
  refine lw_sld (k := 1) hx hb hX hbl hw hL hi (by decide) (lw_ix i 1 rfl) dL_law_916 ?_
  refine lw_cMi hw (va_runV (As := [.int (xs (i + 1))]) (rest := [.int r]) S (c_X7_mend l D I shM H.size MM (xs (i + 1)) h2) (cwV 1 S.2.2.2.2 gL_law_X7_mend rfl rfl rfl (by decide +kernel) ⟨Nat.le_of_ble_eq_true rfl, Nat.le_of_ble_eq_true rfl⟩) (ch_pV (lw_wM hw) (by decide) rfl rfl rfl) rfl rfl hl.1 rfl (lv_room (Nat.le_of_ble_eq_true rfl)) dL_law_917 ⟨Nat.le_of_ble_eq_true rfl, Nat.le_of_ble_eq_true rfl⟩) (fun H locs hw => ?_)
  exact lv_icmp_eq (tgt := 1356) hx hb dL_law_920 (by decide) (fun _ => next MC1 MM1 H locs ls hR1 hw hl) (fun q => absurd rfl q)
set_option maxHeartbeats 4000000 in
set_option maxRecDepth 100000 in
theorem lw_case_22 {p : Program} {l : Launch} {e : Env} {s : State} {m : MethodId} {below : List Frame} {meth : Method} {c : Code} {b L : Nat} {xs : Nat → Int32} {D : va_G} {I : ch_Id} {shC shM : Nat → Nat} {Q : State → Prop} (S : CallFix p m c cL_law 4 s #[Value.ref b] wsL_law RL) (hX : va_X b L xs s s.heap) (hbl : b < s.heap.size) (hL : L ≤ 3072) {i : Nat} (hi : i + 6 ≤ L) (next : ∀ (MC MM : ch_Mem) (H : Heap) (locs : List Loc) (ls : Array Slot), ch_R MC MM → ch_LW D I s b shC shM MC MM H locs → lv_has ls 4 [(0, .ref b), (1, .ref (shC 0)), (2, .ref (shM 0)), (3, .int (nI i))] → W p l e room_1 s m #[Value.ref b] below meth c H locs 53 5742 Q (F0 m 1356 ls [])) {MC MM : ch_Mem} {H : Heap} {locs : List Loc} {ls : Array Slot} (hR : ch_R MC MM) (hw : ch_LW D I s b shC shM MC MM H locs) (hl : lv_has ls 4 [(0, .ref b), (1, .ref (shC 0)), (2, .ref (shM 0)), (3, .int (nI i))]) : W p l e room_1 s m #[Value.ref b] below meth c H locs 53 5742 Q (F0 m 925 ls []) := by
  obtain ⟨hx, hb, hml, hown, hts⟩ := id S
  obtain ⟨r, MC1, MM1, h1, h2, hR1⟩ := op_hits hR (xs (i + 1)) (xs (i + 2)) (xs (i + 3)) (xs (i + 4)) (xs (i + 5))
  refine lv_aload_n hx hb dL_law_925 rfl (lv_at hl 1 rfl) ?_
  refine lv_aload_n hx hb dL_law_926 rfl (lv_at hl 0 rfl) ?_
  refine lv_iload_n hx hb dL_law_927 rfl (lv_at hl 3 rfl) ?_
  refine lv_iconst (v := (1 : Int32)) hx hb dL_law_928 (by decide) ?_
  refine lv_iadd hx hb dL_law_929 ?_
  refine lw_sld (k := 1) hx hb hX hbl hw hL hi (by decide) (lw_ix i 1 rfl) dL_law_930 ?_
  refine lv_aload_n hx hb dL_law_931 rfl (lv_at hl 0 rfl) ?_
  refine lv_iload_n hx hb dL_law_932 rfl (lv_at hl 3 rfl) ?_
  refine lv_iconst (v := (2 : Int32)) hx hb dL_law_933 (by decide) ?_
  refine lv_iadd hx hb dL_law_934 ?_
  refine lw_sld (k := 2) hx hb hX hbl hw hL hi (by decide) (lw_ix i 2 rfl) dL_law_935 ?_
  refine lv_aload_n hx hb dL_law_936 rfl (lv_at hl 0 rfl) ?_
  refine lv_iload_n hx hb dL_law_937 rfl (lv_at hl 3 rfl) ?_
  refine lv_iconst (v := (3 : Int32)) hx hb dL_law_938 (by decide) ?_
  refine lv_iadd hx hb dL_law_939 ?_
  refine lw_sld (k := 3) hx hb hX hbl hw hL hi (by decide) (lw_ix i 3 rfl) dL_law_940 ?_
  refine lv_aload_n hx hb dL_law_941 rfl (lv_at hl 0 rfl) ?_
  refine lv_iload_n hx hb dL_law_942 rfl (lv_at hl 3 rfl) ?_
  refine lv_iconst (v := (4 : Int32)) hx hb dL_law_943 (by decide) ?_
  refine lv_iadd hx hb dL_law_944 ?_
  refine lw_sld (k := 4) hx hb hX hbl hw hL hi (by decide) (lw_ix i 4 rfl) dL_law_945 ?_
  refine lv_aload_n hx hb dL_law_946 rfl (lv_at hl 0 rfl) ?_
  refine lv_iload_n hx hb dL_law_947 rfl (lv_at hl 3 rfl) ?_
  refine lv_iconst (v := (5 : Int32)) hx hb dL_law_948 (by decide) ?_
  refine lv_iadd hx hb dL_law_949 ?_
  refine lw_sld (k := 5) hx hb hX hbl hw hL hi (by decide) (lw_ix i 5 rfl) dL_law_950 ?_
  refine lw_cCi hw (va_runV (As := [.int (xs (i + 1)), .int (xs (i + 2)), .int (xs (i + 3)), .int (xs (i + 4)), .int (xs (i + 5))]) (rest := []) S (c_X6_hits l D I shC H.size MC (xs (i + 1)) (xs (i + 2)) (xs (i + 3)) (xs (i + 4)) (xs (i + 5)) h1) (cwV 5 S.2.2.2.2 gL_law_X6_hits rfl rfl rfl (by decide +kernel) ⟨Nat.le_of_ble_eq_true rfl, Nat.le_of_ble_eq_true rfl⟩) (ch_pV (lw_wC hw) (by decide) rfl rfl rfl) rfl rfl hl.1 rfl (lv_room (Nat.le_of_ble_eq_true rfl)) dL_law_951 ⟨Nat.le_of_ble_eq_true rfl, Nat.le_of_ble_eq_true rfl⟩) (fun H locs hw => ?_)
  refine lv_aload_n hx hb dL_law_954 rfl (lv_at hl 2 rfl) ?_
  refine lv_aload_n hx hb dL_law_955 rfl (lv_at hl 0 rfl) ?_
  refine lv_iload_n hx hb dL_law_956 rfl (lv_at hl 3 rfl) ?_
  refine lv_iconst (v := (1 : Int32)) hx hb dL_law_957 (by decide) ?_
  refine lv_iadd hx hb dL_law_958 ?_
  refine lw_sld (k := 1) hx hb hX hbl hw hL hi (by decide) (lw_ix i 1 rfl) dL_law_959 ?_
  refine lv_aload_n hx hb dL_law_960 rfl (lv_at hl 0 rfl) ?_
  refine lv_iload_n hx hb dL_law_961 rfl (lv_at hl 3 rfl) ?_
  refine lv_iconst (v := (2 : Int32)) hx hb dL_law_962 (by decide) ?_
  refine lv_iadd hx hb dL_law_963 ?_
  refine lw_sld (k := 2) hx hb hX hbl hw hL hi (by decide) (lw_ix i 2 rfl) dL_law_964 ?_
  refine lv_aload_n hx hb dL_law_965 rfl (lv_at hl 0 rfl) ?_
  refine lv_iload_n hx hb dL_law_966 rfl (lv_at hl 3 rfl) ?_
  refine lv_iconst (v := (3 : Int32)) hx hb dL_law_967 (by decide) ?_
  refine lv_iadd hx hb dL_law_968 ?_
  refine lw_sld (k := 3) hx hb hX hbl hw hL hi (by decide) (lw_ix i 3 rfl) dL_law_969 ?_
  refine lv_aload_n hx hb dL_law_970 rfl (lv_at hl 0 rfl) ?_
  refine lv_iload_n hx hb dL_law_971 rfl (lv_at hl 3 rfl) ?_
  refine lv_iconst (v := (4 : Int32)) hx hb dL_law_972 (by decide) ?_
  refine lv_iadd hx hb dL_law_973 ?_
  refine lw_sld (k := 4) hx hb hX hbl hw hL hi (by decide) (lw_ix i 4 rfl) dL_law_974 ?_
  refine lv_aload_n hx hb dL_law_975 rfl (lv_at hl 0 rfl) ?_
  refine lv_iload_n hx hb dL_law_976 rfl (lv_at hl 3 rfl) ?_
  refine lv_iconst (v := (5 : Int32)) hx hb dL_law_977 (by decide) ?_
  refine lv_iadd hx hb dL_law_978 ?_
  refine lw_sld (k := 5) hx hb hX hbl hw hL hi (by decide) (lw_ix i 5 rfl) dL_law_979 ?_
  refine lw_cMi hw (va_runV (As := [.int (xs (i + 1)), .int (xs (i + 2)), .int (xs (i + 3)), .int (xs (i + 4)), .int (xs (i + 5))]) (rest := [.int r]) S (c_X7_hits l D I shM H.size MM (xs (i + 1)) (xs (i + 2)) (xs (i + 3)) (xs (i + 4)) (xs (i + 5)) h2) (cwV 5 S.2.2.2.2 gL_law_X7_hits rfl rfl rfl (by decide +kernel) ⟨Nat.le_of_ble_eq_true rfl, Nat.le_of_ble_eq_true rfl⟩) (ch_pV (lw_wM hw) (by decide) rfl rfl rfl) rfl rfl hl.1 rfl (lv_room (Nat.le_of_ble_eq_true rfl)) dL_law_980 ⟨Nat.le_of_ble_eq_true rfl, Nat.le_of_ble_eq_true rfl⟩) (fun H locs hw => ?_)
  exact lv_icmp_eq (tgt := 1356) hx hb dL_law_983 (by decide) (fun _ => next MC1 MM1 H locs ls hR1 hw hl) (fun q => absurd rfl q)
set_option maxHeartbeats 4000000 in
set_option maxRecDepth 100000 in
theorem lw_case_23 {p : Program} {l : Launch} {e : Env} {s : State} {m : MethodId} {below : List Frame} {meth : Method} {c : Code} {b L : Nat} {xs : Nat → Int32} {D : va_G} {I : ch_Id} {shC shM : Nat → Nat} {Q : State → Prop} (S : CallFix p m c cL_law 4 s #[Value.ref b] wsL_law RL) (hX : va_X b L xs s s.heap) (hbl : b < s.heap.size) (hL : L ≤ 3072) {i : Nat} (hi : i + 6 ≤ L) (next : ∀ (MC MM : ch_Mem) (H : Heap) (locs : List Loc) (ls : Array Slot), ch_R MC MM → ch_LW D I s b shC shM MC MM H locs → lv_has ls 4 [(0, .ref b), (1, .ref (shC 0)), (2, .ref (shM 0)), (3, .int (nI i))] → W p l e room_1 s m #[Value.ref b] below meth c H locs 53 5742 Q (F0 m 1356 ls [])) {MC MM : ch_Mem} {H : Heap} {locs : List Loc} {ls : Array Slot} (hR : ch_R MC MM) (hw : ch_LW D I s b shC shM MC MM H locs) (hl : lv_has ls 4 [(0, .ref b), (1, .ref (shC 0)), (2, .ref (shM 0)), (3, .int (nI i))]) : W p l e room_1 s m #[Value.ref b] below meth c H locs 53 5742 Q (F0 m 988 ls []) := by
  obtain ⟨hx, hb, hml, hown, hts⟩ := id S
  obtain ⟨r, MC1, MM1, h1, h2, hR1⟩ := op_worst hR (xs (i + 1)) (xs (i + 2)) (xs (i + 3))
  refine lv_aload_n hx hb dL_law_988 rfl (lv_at hl 1 rfl) ?_
  refine lv_aload_n hx hb dL_law_989 rfl (lv_at hl 0 rfl) ?_
  refine lv_iload_n hx hb dL_law_990 rfl (lv_at hl 3 rfl) ?_
  refine lv_iconst (v := (1 : Int32)) hx hb dL_law_991 (by decide) ?_
  refine lv_iadd hx hb dL_law_992 ?_
  refine lw_sld (k := 1) hx hb hX hbl hw hL hi (by decide) (lw_ix i 1 rfl) dL_law_993 ?_
  refine lv_aload_n hx hb dL_law_994 rfl (lv_at hl 0 rfl) ?_
  refine lv_iload_n hx hb dL_law_995 rfl (lv_at hl 3 rfl) ?_
  refine lv_iconst (v := (2 : Int32)) hx hb dL_law_996 (by decide) ?_
  refine lv_iadd hx hb dL_law_997 ?_
  refine lw_sld (k := 2) hx hb hX hbl hw hL hi (by decide) (lw_ix i 2 rfl) dL_law_998 ?_
  refine lv_aload_n hx hb dL_law_999 rfl (lv_at hl 0 rfl) ?_
  refine lv_iload_n hx hb dL_law_1000 rfl (lv_at hl 3 rfl) ?_
  refine lv_iconst (v := (3 : Int32)) hx hb dL_law_1001 (by decide) ?_
  refine lv_iadd hx hb dL_law_1002 ?_
  refine lw_sld (k := 3) hx hb hX hbl hw hL hi (by decide) (lw_ix i 3 rfl) dL_law_1003 ?_
  refine lw_cCi hw (va_runV (As := [.int (xs (i + 1)), .int (xs (i + 2)), .int (xs (i + 3))]) (rest := []) S (c_X6_worst l D I shC H.size MC (xs (i + 1)) (xs (i + 2)) (xs (i + 3)) h1) (cwV 3 S.2.2.2.2 gL_law_X6_worst rfl rfl rfl (by decide +kernel) ⟨Nat.le_of_ble_eq_true rfl, Nat.le_of_ble_eq_true rfl⟩) (ch_pV (lw_wC hw) (by decide) rfl rfl rfl) rfl rfl hl.1 rfl (lv_room (Nat.le_of_ble_eq_true rfl)) dL_law_1004 ⟨Nat.le_of_ble_eq_true rfl, Nat.le_of_ble_eq_true rfl⟩) (fun H locs hw => ?_)
  refine lv_aload_n hx hb dL_law_1007 rfl (lv_at hl 2 rfl) ?_
  refine lv_aload_n hx hb dL_law_1008 rfl (lv_at hl 0 rfl) ?_
  refine lv_iload_n hx hb dL_law_1009 rfl (lv_at hl 3 rfl) ?_
  refine lv_iconst (v := (1 : Int32)) hx hb dL_law_1010 (by decide) ?_
  refine lv_iadd hx hb dL_law_1011 ?_
  refine lw_sld (k := 1) hx hb hX hbl hw hL hi (by decide) (lw_ix i 1 rfl) dL_law_1012 ?_
  refine lv_aload_n hx hb dL_law_1013 rfl (lv_at hl 0 rfl) ?_
  refine lv_iload_n hx hb dL_law_1014 rfl (lv_at hl 3 rfl) ?_
  refine lv_iconst (v := (2 : Int32)) hx hb dL_law_1015 (by decide) ?_
  refine lv_iadd hx hb dL_law_1016 ?_
  refine lw_sld (k := 2) hx hb hX hbl hw hL hi (by decide) (lw_ix i 2 rfl) dL_law_1017 ?_
  refine lv_aload_n hx hb dL_law_1018 rfl (lv_at hl 0 rfl) ?_
  refine lv_iload_n hx hb dL_law_1019 rfl (lv_at hl 3 rfl) ?_
  refine lv_iconst (v := (3 : Int32)) hx hb dL_law_1020 (by decide) ?_
  refine lv_iadd hx hb dL_law_1021 ?_
  refine lw_sld (k := 3) hx hb hX hbl hw hL hi (by decide) (lw_ix i 3 rfl) dL_law_1022 ?_
  refine lw_cMi hw (va_runV (As := [.int (xs (i + 1)), .int (xs (i + 2)), .int (xs (i + 3))]) (rest := [.int r]) S (c_X7_worst l D I shM H.size MM (xs (i + 1)) (xs (i + 2)) (xs (i + 3)) h2) (cwV 3 S.2.2.2.2 gL_law_X7_worst rfl rfl rfl (by decide +kernel) ⟨Nat.le_of_ble_eq_true rfl, Nat.le_of_ble_eq_true rfl⟩) (ch_pV (lw_wM hw) (by decide) rfl rfl rfl) rfl rfl hl.1 rfl (lv_room (Nat.le_of_ble_eq_true rfl)) dL_law_1023 ⟨Nat.le_of_ble_eq_true rfl, Nat.le_of_ble_eq_true rfl⟩) (fun H locs hw => ?_)
  exact lv_icmp_eq (tgt := 1356) hx hb dL_law_1026 (by decide) (fun _ => next MC1 MM1 H locs ls hR1 hw hl) (fun q => absurd rfl q)
set_option maxHeartbeats 4000000 in
set_option maxRecDepth 100000 in
theorem lw_case_24 {p : Program} {l : Launch} {e : Env} {s : State} {m : MethodId} {below : List Frame} {meth : Method} {c : Code} {b L : Nat} {xs : Nat → Int32} {D : va_G} {I : ch_Id} {shC shM : Nat → Nat} {Q : State → Prop} (S : CallFix p m c cL_law 4 s #[Value.ref b] wsL_law RL) (hX : va_X b L xs s s.heap) (hbl : b < s.heap.size) (hL : L ≤ 3072) {i : Nat} (hi : i + 6 ≤ L) (next : ∀ (MC MM : ch_Mem) (H : Heap) (locs : List Loc) (ls : Array Slot), ch_R MC MM → ch_LW D I s b shC shM MC MM H locs → lv_has ls 4 [(0, .ref b), (1, .ref (shC 0)), (2, .ref (shM 0)), (3, .int (nI i))] → W p l e room_1 s m #[Value.ref b] below meth c H locs 53 5742 Q (F0 m 1356 ls [])) {MC MM : ch_Mem} {H : Heap} {locs : List Loc} {ls : Array Slot} (hR : ch_R MC MM) (hw : ch_LW D I s b shC shM MC MM H locs) (hl : lv_has ls 4 [(0, .ref b), (1, .ref (shC 0)), (2, .ref (shM 0)), (3, .int (nI i))]) : W p l e room_1 s m #[Value.ref b] below meth c H locs 53 5742 Q (F0 m 1031 ls []) := by
  obtain ⟨hx, hb, hml, hown, hts⟩ := id S
  obtain ⟨r, MC1, MM1, h1, h2, hR1⟩ := op_reel hR (xs (i + 1)) (xs (i + 2)) (xs (i + 3))
  refine lv_aload_n hx hb dL_law_1031 rfl (lv_at hl 1 rfl) ?_
  refine lv_aload_n hx hb dL_law_1032 rfl (lv_at hl 0 rfl) ?_
  refine lv_iload_n hx hb dL_law_1033 rfl (lv_at hl 3 rfl) ?_
  refine lv_iconst (v := (1 : Int32)) hx hb dL_law_1034 (by decide) ?_
  refine lv_iadd hx hb dL_law_1035 ?_
  refine lw_sld (k := 1) hx hb hX hbl hw hL hi (by decide) (lw_ix i 1 rfl) dL_law_1036 ?_
  refine lv_aload_n hx hb dL_law_1037 rfl (lv_at hl 0 rfl) ?_
  refine lv_iload_n hx hb dL_law_1038 rfl (lv_at hl 3 rfl) ?_
  refine lv_iconst (v := (2 : Int32)) hx hb dL_law_1039 (by decide) ?_
  refine lv_iadd hx hb dL_law_1040 ?_
  refine lw_sld (k := 2) hx hb hX hbl hw hL hi (by decide) (lw_ix i 2 rfl) dL_law_1041 ?_
  refine lv_aload_n hx hb dL_law_1042 rfl (lv_at hl 0 rfl) ?_
  refine lv_iload_n hx hb dL_law_1043 rfl (lv_at hl 3 rfl) ?_
  refine lv_iconst (v := (3 : Int32)) hx hb dL_law_1044 (by decide) ?_
  refine lv_iadd hx hb dL_law_1045 ?_
  refine lw_sld (k := 3) hx hb hX hbl hw hL hi (by decide) (lw_ix i 3 rfl) dL_law_1046 ?_
  refine lw_cCi hw (va_runV (As := [.int (xs (i + 1)), .int (xs (i + 2)), .int (xs (i + 3))]) (rest := []) S (c_X6_reel l D I shC H.size MC (xs (i + 1)) (xs (i + 2)) (xs (i + 3)) h1) (cwV 3 S.2.2.2.2 gL_law_X6_reel rfl rfl rfl (by decide +kernel) ⟨Nat.le_of_ble_eq_true rfl, Nat.le_of_ble_eq_true rfl⟩) (ch_pV (lw_wC hw) (by decide) rfl rfl rfl) rfl rfl hl.1 rfl (lv_room (Nat.le_of_ble_eq_true rfl)) dL_law_1047 ⟨Nat.le_of_ble_eq_true rfl, Nat.le_of_ble_eq_true rfl⟩) (fun H locs hw => ?_)
  refine lv_aload_n hx hb dL_law_1050 rfl (lv_at hl 2 rfl) ?_
  refine lv_aload_n hx hb dL_law_1051 rfl (lv_at hl 0 rfl) ?_
  refine lv_iload_n hx hb dL_law_1052 rfl (lv_at hl 3 rfl) ?_
  refine lv_iconst (v := (1 : Int32)) hx hb dL_law_1053 (by decide) ?_
  refine lv_iadd hx hb dL_law_1054 ?_
  refine lw_sld (k := 1) hx hb hX hbl hw hL hi (by decide) (lw_ix i 1 rfl) dL_law_1055 ?_
  refine lv_aload_n hx hb dL_law_1056 rfl (lv_at hl 0 rfl) ?_
  refine lv_iload_n hx hb dL_law_1057 rfl (lv_at hl 3 rfl) ?_
  refine lv_iconst (v := (2 : Int32)) hx hb dL_law_1058 (by decide) ?_
  refine lv_iadd hx hb dL_law_1059 ?_
  refine lw_sld (k := 2) hx hb hX hbl hw hL hi (by decide) (lw_ix i 2 rfl) dL_law_1060 ?_
  refine lv_aload_n hx hb dL_law_1061 rfl (lv_at hl 0 rfl) ?_
  refine lv_iload_n hx hb dL_law_1062 rfl (lv_at hl 3 rfl) ?_
  refine lv_iconst (v := (3 : Int32)) hx hb dL_law_1063 (by decide) ?_
  refine lv_iadd hx hb dL_law_1064 ?_
  refine lw_sld (k := 3) hx hb hX hbl hw hL hi (by decide) (lw_ix i 3 rfl) dL_law_1065 ?_
  refine lw_cMi hw (va_runV (As := [.int (xs (i + 1)), .int (xs (i + 2)), .int (xs (i + 3))]) (rest := [.int r]) S (c_X7_reel l D I shM H.size MM (xs (i + 1)) (xs (i + 2)) (xs (i + 3)) h2) (cwV 3 S.2.2.2.2 gL_law_X7_reel rfl rfl rfl (by decide +kernel) ⟨Nat.le_of_ble_eq_true rfl, Nat.le_of_ble_eq_true rfl⟩) (ch_pV (lw_wM hw) (by decide) rfl rfl rfl) rfl rfl hl.1 rfl (lv_room (Nat.le_of_ble_eq_true rfl)) dL_law_1066 ⟨Nat.le_of_ble_eq_true rfl, Nat.le_of_ble_eq_true rfl⟩) (fun H locs hw => ?_)
  exact lv_icmp_eq (tgt := 1356) hx hb dL_law_1069 (by decide) (fun _ => next MC1 MM1 H locs ls hR1 hw hl) (fun q => absurd rfl q)
set_option maxHeartbeats 4000000 in
set_option maxRecDepth 100000 in
theorem lw_case_25 {p : Program} {l : Launch} {e : Env} {s : State} {m : MethodId} {below : List Frame} {meth : Method} {c : Code} {b L : Nat} {xs : Nat → Int32} {D : va_G} {I : ch_Id} {shC shM : Nat → Nat} {Q : State → Prop} (S : CallFix p m c cL_law 4 s #[Value.ref b] wsL_law RL) (hX : va_X b L xs s s.heap) (hbl : b < s.heap.size) (hL : L ≤ 3072) {i : Nat} (hi : i + 6 ≤ L) (next : ∀ (MC MM : ch_Mem) (H : Heap) (locs : List Loc) (ls : Array Slot), ch_R MC MM → ch_LW D I s b shC shM MC MM H locs → lv_has ls 4 [(0, .ref b), (1, .ref (shC 0)), (2, .ref (shM 0)), (3, .int (nI i))] → W p l e room_1 s m #[Value.ref b] below meth c H locs 53 5742 Q (F0 m 1356 ls [])) {MC MM : ch_Mem} {H : Heap} {locs : List Loc} {ls : Array Slot} (hR : ch_R MC MM) (hw : ch_LW D I s b shC shM MC MM H locs) (hl : lv_has ls 4 [(0, .ref b), (1, .ref (shC 0)), (2, .ref (shM 0)), (3, .int (nI i))]) : W p l e room_1 s m #[Value.ref b] below meth c H locs 53 5742 Q (F0 m 1074 ls []) := by
  obtain ⟨hx, hb, hml, hown, hts⟩ := id S
  obtain ⟨r, MC1, MM1, h1, h2, hR1⟩ := op_lose hR (xs (i + 1))
  refine lv_aload_n hx hb dL_law_1074 rfl (lv_at hl 1 rfl) ?_
  refine lv_aload_n hx hb dL_law_1075 rfl (lv_at hl 0 rfl) ?_
  refine lv_iload_n hx hb dL_law_1076 rfl (lv_at hl 3 rfl) ?_
  refine lv_iconst (v := (1 : Int32)) hx hb dL_law_1077 (by decide) ?_
  refine lv_iadd hx hb dL_law_1078 ?_
  refine lw_sld (k := 1) hx hb hX hbl hw hL hi (by decide) (lw_ix i 1 rfl) dL_law_1079 ?_
  refine lw_cCi hw (va_runV (As := [.int (xs (i + 1))]) (rest := []) S (c_X6_lose l D I shC H.size MC (xs (i + 1)) h1) (cwV 1 S.2.2.2.2 gL_law_X6_lose rfl rfl rfl (by decide +kernel) ⟨Nat.le_of_ble_eq_true rfl, Nat.le_of_ble_eq_true rfl⟩) (ch_pV (lw_wC hw) (by decide) rfl rfl rfl) rfl rfl hl.1 rfl (lv_room (Nat.le_of_ble_eq_true rfl)) dL_law_1080 ⟨Nat.le_of_ble_eq_true rfl, Nat.le_of_ble_eq_true rfl⟩) (fun H locs hw => ?_)
  refine lv_aload_n hx hb dL_law_1083 rfl (lv_at hl 2 rfl) ?_
  refine lv_aload_n hx hb dL_law_1084 rfl (lv_at hl 0 rfl) ?_
  refine lv_iload_n hx hb dL_law_1085 rfl (lv_at hl 3 rfl) ?_
  refine lv_iconst (v := (1 : Int32)) hx hb dL_law_1086 (by decide) ?_
  refine lv_iadd hx hb dL_law_1087 ?_
  refine lw_sld (k := 1) hx hb hX hbl hw hL hi (by decide) (lw_ix i 1 rfl) dL_law_1088 ?_
  refine lw_cMi hw (va_runV (As := [.int (xs (i + 1))]) (rest := [.int r]) S (c_X7_lose l D I shM H.size MM (xs (i + 1)) h2) (cwV 1 S.2.2.2.2 gL_law_X7_lose rfl rfl rfl (by decide +kernel) ⟨Nat.le_of_ble_eq_true rfl, Nat.le_of_ble_eq_true rfl⟩) (ch_pV (lw_wM hw) (by decide) rfl rfl rfl) rfl rfl hl.1 rfl (lv_room (Nat.le_of_ble_eq_true rfl)) dL_law_1089 ⟨Nat.le_of_ble_eq_true rfl, Nat.le_of_ble_eq_true rfl⟩) (fun H locs hw => ?_)
  exact lv_icmp_eq (tgt := 1356) hx hb dL_law_1092 (by decide) (fun _ => next MC1 MM1 H locs ls hR1 hw hl) (fun q => absurd rfl q)
set_option maxHeartbeats 4000000 in
set_option maxRecDepth 100000 in
theorem lw_case_26 {p : Program} {l : Launch} {e : Env} {s : State} {m : MethodId} {below : List Frame} {meth : Method} {c : Code} {b L : Nat} {xs : Nat → Int32} {D : va_G} {I : ch_Id} {shC shM : Nat → Nat} {Q : State → Prop} (S : CallFix p m c cL_law 4 s #[Value.ref b] wsL_law RL) (hX : va_X b L xs s s.heap) (hbl : b < s.heap.size) (hL : L ≤ 3072) {i : Nat} (hi : i + 6 ≤ L) (next : ∀ (MC MM : ch_Mem) (H : Heap) (locs : List Loc) (ls : Array Slot), ch_R MC MM → ch_LW D I s b shC shM MC MM H locs → lv_has ls 4 [(0, .ref b), (1, .ref (shC 0)), (2, .ref (shM 0)), (3, .int (nI i))] → W p l e room_1 s m #[Value.ref b] below meth c H locs 53 5742 Q (F0 m 1356 ls [])) {MC MM : ch_Mem} {H : Heap} {locs : List Loc} {ls : Array Slot} (hR : ch_R MC MM) (hw : ch_LW D I s b shC shM MC MM H locs) (hl : lv_has ls 4 [(0, .ref b), (1, .ref (shC 0)), (2, .ref (shM 0)), (3, .int (nI i))]) : W p l e room_1 s m #[Value.ref b] below meth c H locs 53 5742 Q (F0 m 1097 ls []) := by
  obtain ⟨hx, hb, hml, hown, hts⟩ := id S
  obtain ⟨r, MC1, MM1, h1, h2, hR1⟩ := op_put hR (xs (i + 1)) (xs (i + 2)) (xs (i + 3)) (xs (i + 4))
  refine lv_aload_n hx hb dL_law_1097 rfl (lv_at hl 1 rfl) ?_
  refine lv_aload_n hx hb dL_law_1098 rfl (lv_at hl 0 rfl) ?_
  refine lv_iload_n hx hb dL_law_1099 rfl (lv_at hl 3 rfl) ?_
  refine lv_iconst (v := (1 : Int32)) hx hb dL_law_1100 (by decide) ?_
  refine lv_iadd hx hb dL_law_1101 ?_
  refine lw_sld (k := 1) hx hb hX hbl hw hL hi (by decide) (lw_ix i 1 rfl) dL_law_1102 ?_
  refine lv_aload_n hx hb dL_law_1103 rfl (lv_at hl 0 rfl) ?_
  refine lv_iload_n hx hb dL_law_1104 rfl (lv_at hl 3 rfl) ?_
  refine lv_iconst (v := (2 : Int32)) hx hb dL_law_1105 (by decide) ?_
  refine lv_iadd hx hb dL_law_1106 ?_
  refine lw_sld (k := 2) hx hb hX hbl hw hL hi (by decide) (lw_ix i 2 rfl) dL_law_1107 ?_
  refine lv_aload_n hx hb dL_law_1108 rfl (lv_at hl 0 rfl) ?_
  refine lv_iload_n hx hb dL_law_1109 rfl (lv_at hl 3 rfl) ?_
  refine lv_iconst (v := (3 : Int32)) hx hb dL_law_1110 (by decide) ?_
  refine lv_iadd hx hb dL_law_1111 ?_
  refine lw_sld (k := 3) hx hb hX hbl hw hL hi (by decide) (lw_ix i 3 rfl) dL_law_1112 ?_
  refine lv_aload_n hx hb dL_law_1113 rfl (lv_at hl 0 rfl) ?_
  refine lv_iload_n hx hb dL_law_1114 rfl (lv_at hl 3 rfl) ?_
  refine lv_iconst (v := (4 : Int32)) hx hb dL_law_1115 (by decide) ?_
  refine lv_iadd hx hb dL_law_1116 ?_
  refine lw_sld (k := 4) hx hb hX hbl hw hL hi (by decide) (lw_ix i 4 rfl) dL_law_1117 ?_
  refine lw_cCi hw (va_runV (As := [.int (xs (i + 1)), .int (xs (i + 2)), .int (xs (i + 3)), .int (xs (i + 4))]) (rest := []) S (c_X6_put l D I shC H.size MC (xs (i + 1)) (xs (i + 2)) (xs (i + 3)) (xs (i + 4)) h1) (cwV 4 S.2.2.2.2 gL_law_X6_put rfl rfl rfl (by decide +kernel) ⟨Nat.le_of_ble_eq_true rfl, Nat.le_of_ble_eq_true rfl⟩) (ch_pV (lw_wC hw) (by decide) rfl rfl rfl) rfl rfl hl.1 rfl (lv_room (Nat.le_of_ble_eq_true rfl)) dL_law_1118 ⟨Nat.le_of_ble_eq_true rfl, Nat.le_of_ble_eq_true rfl⟩) (fun H locs hw => ?_)
  refine lv_aload_n hx hb dL_law_1121 rfl (lv_at hl 2 rfl) ?_
  refine lv_aload_n hx hb dL_law_1122 rfl (lv_at hl 0 rfl) ?_
  refine lv_iload_n hx hb dL_law_1123 rfl (lv_at hl 3 rfl) ?_
  refine lv_iconst (v := (1 : Int32)) hx hb dL_law_1124 (by decide) ?_
  refine lv_iadd hx hb dL_law_1125 ?_
  refine lw_sld (k := 1) hx hb hX hbl hw hL hi (by decide) (lw_ix i 1 rfl) dL_law_1126 ?_
  refine lv_aload_n hx hb dL_law_1127 rfl (lv_at hl 0 rfl) ?_
  refine lv_iload_n hx hb dL_law_1128 rfl (lv_at hl 3 rfl) ?_
  refine lv_iconst (v := (2 : Int32)) hx hb dL_law_1129 (by decide) ?_
  refine lv_iadd hx hb dL_law_1130 ?_
  refine lw_sld (k := 2) hx hb hX hbl hw hL hi (by decide) (lw_ix i 2 rfl) dL_law_1131 ?_
  refine lv_aload_n hx hb dL_law_1132 rfl (lv_at hl 0 rfl) ?_
  refine lv_iload_n hx hb dL_law_1133 rfl (lv_at hl 3 rfl) ?_
  refine lv_iconst (v := (3 : Int32)) hx hb dL_law_1134 (by decide) ?_
  refine lv_iadd hx hb dL_law_1135 ?_
  refine lw_sld (k := 3) hx hb hX hbl hw hL hi (by decide) (lw_ix i 3 rfl) dL_law_1136 ?_
  refine lv_aload_n hx hb dL_law_1137 rfl (lv_at hl 0 rfl) ?_
  refine lv_iload_n hx hb dL_law_1138 rfl (lv_at hl 3 rfl) ?_
  refine lv_iconst (v := (4 : Int32)) hx hb dL_law_1139 (by decide) ?_
  refine lv_iadd hx hb dL_law_1140 ?_
  refine lw_sld (k := 4) hx hb hX hbl hw hL hi (by decide) (lw_ix i 4 rfl) dL_law_1141 ?_
  refine lw_cMi hw (va_runV (As := [.int (xs (i + 1)), .int (xs (i + 2)), .int (xs (i + 3)), .int (xs (i + 4))]) (rest := [.int r]) S (c_X7_put l D I shM H.size MM (xs (i + 1)) (xs (i + 2)) (xs (i + 3)) (xs (i + 4)) h2) (cwV 4 S.2.2.2.2 gL_law_X7_put rfl rfl rfl (by decide +kernel) ⟨Nat.le_of_ble_eq_true rfl, Nat.le_of_ble_eq_true rfl⟩) (ch_pV (lw_wM hw) (by decide) rfl rfl rfl) rfl rfl hl.1 rfl (lv_room (Nat.le_of_ble_eq_true rfl)) dL_law_1142 ⟨Nat.le_of_ble_eq_true rfl, Nat.le_of_ble_eq_true rfl⟩) (fun H locs hw => ?_)
  exact lv_icmp_eq (tgt := 1356) hx hb dL_law_1145 (by decide) (fun _ => next MC1 MM1 H locs ls hR1 hw hl) (fun q => absurd rfl q)
set_option maxHeartbeats 4000000 in
set_option maxRecDepth 100000 in
theorem lw_case_27 {p : Program} {l : Launch} {e : Env} {s : State} {m : MethodId} {below : List Frame} {meth : Method} {c : Code} {b L : Nat} {xs : Nat → Int32} {D : va_G} {I : ch_Id} {shC shM : Nat → Nat} {Q : State → Prop} (S : CallFix p m c cL_law 4 s #[Value.ref b] wsL_law RL) (hX : va_X b L xs s s.heap) (hbl : b < s.heap.size) (hL : L ≤ 3072) {i : Nat} (hi : i + 6 ≤ L) (next : ∀ (MC MM : ch_Mem) (H : Heap) (locs : List Loc) (ls : Array Slot), ch_R MC MM → ch_LW D I s b shC shM MC MM H locs → lv_has ls 4 [(0, .ref b), (1, .ref (shC 0)), (2, .ref (shM 0)), (3, .int (nI i))] → W p l e room_1 s m #[Value.ref b] below meth c H locs 53 5742 Q (F0 m 1356 ls [])) {MC MM : ch_Mem} {H : Heap} {locs : List Loc} {ls : Array Slot} (hR : ch_R MC MM) (hw : ch_LW D I s b shC shM MC MM H locs) (hl : lv_has ls 4 [(0, .ref b), (1, .ref (shC 0)), (2, .ref (shM 0)), (3, .int (nI i))]) : W p l e room_1 s m #[Value.ref b] below meth c H locs 53 5742 Q (F0 m 1150 ls []) := by
  obtain ⟨hx, hb, hml, hown, hts⟩ := id S
  obtain ⟨r, MC1, MM1, h1, h2, hR1⟩ := op_get hR (xs (i + 1)) (xs (i + 2)) (xs (i + 3))
  refine lv_aload_n hx hb dL_law_1150 rfl (lv_at hl 1 rfl) ?_
  refine lv_aload_n hx hb dL_law_1151 rfl (lv_at hl 0 rfl) ?_
  refine lv_iload_n hx hb dL_law_1152 rfl (lv_at hl 3 rfl) ?_
  refine lv_iconst (v := (1 : Int32)) hx hb dL_law_1153 (by decide) ?_
  refine lv_iadd hx hb dL_law_1154 ?_
  refine lw_sld (k := 1) hx hb hX hbl hw hL hi (by decide) (lw_ix i 1 rfl) dL_law_1155 ?_
  refine lv_aload_n hx hb dL_law_1156 rfl (lv_at hl 0 rfl) ?_
  refine lv_iload_n hx hb dL_law_1157 rfl (lv_at hl 3 rfl) ?_
  refine lv_iconst (v := (2 : Int32)) hx hb dL_law_1158 (by decide) ?_
  refine lv_iadd hx hb dL_law_1159 ?_
  refine lw_sld (k := 2) hx hb hX hbl hw hL hi (by decide) (lw_ix i 2 rfl) dL_law_1160 ?_
  refine lv_aload_n hx hb dL_law_1161 rfl (lv_at hl 0 rfl) ?_
  refine lv_iload_n hx hb dL_law_1162 rfl (lv_at hl 3 rfl) ?_
  refine lv_iconst (v := (3 : Int32)) hx hb dL_law_1163 (by decide) ?_
  refine lv_iadd hx hb dL_law_1164 ?_
  refine lw_sld (k := 3) hx hb hX hbl hw hL hi (by decide) (lw_ix i 3 rfl) dL_law_1165 ?_
  refine lw_cCi hw (va_runV (As := [.int (xs (i + 1)), .int (xs (i + 2)), .int (xs (i + 3))]) (rest := []) S (c_X6_get l D I shC H.size MC (xs (i + 1)) (xs (i + 2)) (xs (i + 3)) h1) (cwV 3 S.2.2.2.2 gL_law_X6_get rfl rfl rfl (by decide +kernel) ⟨Nat.le_of_ble_eq_true rfl, Nat.le_of_ble_eq_true rfl⟩) (ch_pV (lw_wC hw) (by decide) rfl rfl rfl) rfl rfl hl.1 rfl (lv_room (Nat.le_of_ble_eq_true rfl)) dL_law_1166 ⟨Nat.le_of_ble_eq_true rfl, Nat.le_of_ble_eq_true rfl⟩) (fun H locs hw => ?_)
  refine lv_aload_n hx hb dL_law_1169 rfl (lv_at hl 2 rfl) ?_
  refine lv_aload_n hx hb dL_law_1170 rfl (lv_at hl 0 rfl) ?_
  refine lv_iload_n hx hb dL_law_1171 rfl (lv_at hl 3 rfl) ?_
  refine lv_iconst (v := (1 : Int32)) hx hb dL_law_1172 (by decide) ?_
  refine lv_iadd hx hb dL_law_1173 ?_
  refine lw_sld (k := 1) hx hb hX hbl hw hL hi (by decide) (lw_ix i 1 rfl) dL_law_1174 ?_
  refine lv_aload_n hx hb dL_law_1175 rfl (lv_at hl 0 rfl) ?_
  refine lv_iload_n hx hb dL_law_1176 rfl (lv_at hl 3 rfl) ?_
  refine lv_iconst (v := (2 : Int32)) hx hb dL_law_1177 (by decide) ?_
  refine lv_iadd hx hb dL_law_1178 ?_
  refine lw_sld (k := 2) hx hb hX hbl hw hL hi (by decide) (lw_ix i 2 rfl) dL_law_1179 ?_
  refine lv_aload_n hx hb dL_law_1180 rfl (lv_at hl 0 rfl) ?_
  refine lv_iload_n hx hb dL_law_1181 rfl (lv_at hl 3 rfl) ?_
  refine lv_iconst (v := (3 : Int32)) hx hb dL_law_1182 (by decide) ?_
  refine lv_iadd hx hb dL_law_1183 ?_
  refine lw_sld (k := 3) hx hb hX hbl hw hL hi (by decide) (lw_ix i 3 rfl) dL_law_1184 ?_
  refine lw_cMi hw (va_runV (As := [.int (xs (i + 1)), .int (xs (i + 2)), .int (xs (i + 3))]) (rest := [.int r]) S (c_X7_get l D I shM H.size MM (xs (i + 1)) (xs (i + 2)) (xs (i + 3)) h2) (cwV 3 S.2.2.2.2 gL_law_X7_get rfl rfl rfl (by decide +kernel) ⟨Nat.le_of_ble_eq_true rfl, Nat.le_of_ble_eq_true rfl⟩) (ch_pV (lw_wM hw) (by decide) rfl rfl rfl) rfl rfl hl.1 rfl (lv_room (Nat.le_of_ble_eq_true rfl)) dL_law_1185 ⟨Nat.le_of_ble_eq_true rfl, Nat.le_of_ble_eq_true rfl⟩) (fun H locs hw => ?_)
  exact lv_icmp_eq (tgt := 1356) hx hb dL_law_1188 (by decide) (fun _ => next MC1 MM1 H locs ls hR1 hw hl) (fun q => absurd rfl q)
set_option maxHeartbeats 4000000 in
set_option maxRecDepth 100000 in
theorem lw_case_28 {p : Program} {l : Launch} {e : Env} {s : State} {m : MethodId} {below : List Frame} {meth : Method} {c : Code} {b L : Nat} {xs : Nat → Int32} {D : va_G} {I : ch_Id} {shC shM : Nat → Nat} {Q : State → Prop} (S : CallFix p m c cL_law 4 s #[Value.ref b] wsL_law RL) (hX : va_X b L xs s s.heap) (hbl : b < s.heap.size) (hL : L ≤ 3072) {i : Nat} (hi : i + 6 ≤ L) (next : ∀ (MC MM : ch_Mem) (H : Heap) (locs : List Loc) (ls : Array Slot), ch_R MC MM → ch_LW D I s b shC shM MC MM H locs → lv_has ls 4 [(0, .ref b), (1, .ref (shC 0)), (2, .ref (shM 0)), (3, .int (nI i))] → W p l e room_1 s m #[Value.ref b] below meth c H locs 53 5742 Q (F0 m 1356 ls [])) {MC MM : ch_Mem} {H : Heap} {locs : List Loc} {ls : Array Slot} (hR : ch_R MC MM) (hw : ch_LW D I s b shC shM MC MM H locs) (hl : lv_has ls 4 [(0, .ref b), (1, .ref (shC 0)), (2, .ref (shM 0)), (3, .int (nI i))]) : W p l e room_1 s m #[Value.ref b] below meth c H locs 53 5742 Q (F0 m 1193 ls []) := by
  obtain ⟨hx, hb, hml, hown, hts⟩ := id S
  obtain ⟨r, MC1, MM1, h1, h2, hR1⟩ := op_copy hR (xs (i + 1)) (xs (i + 2)) (xs (i + 3)) (xs (i + 4)) (xs (i + 5))
  refine lv_aload_n hx hb dL_law_1193 rfl (lv_at hl 1 rfl) ?_
  refine lv_aload_n hx hb dL_law_1194 rfl (lv_at hl 0 rfl) ?_
  refine lv_iload_n hx hb dL_law_1195 rfl (lv_at hl 3 rfl) ?_
  refine lv_iconst (v := (1 : Int32)) hx hb dL_law_1196 (by decide) ?_
  refine lv_iadd hx hb dL_law_1197 ?_
  refine lw_sld (k := 1) hx hb hX hbl hw hL hi (by decide) (lw_ix i 1 rfl) dL_law_1198 ?_
  refine lv_aload_n hx hb dL_law_1199 rfl (lv_at hl 0 rfl) ?_
  refine lv_iload_n hx hb dL_law_1200 rfl (lv_at hl 3 rfl) ?_
  refine lv_iconst (v := (2 : Int32)) hx hb dL_law_1201 (by decide) ?_
  refine lv_iadd hx hb dL_law_1202 ?_
  refine lw_sld (k := 2) hx hb hX hbl hw hL hi (by decide) (lw_ix i 2 rfl) dL_law_1203 ?_
  refine lv_aload_n hx hb dL_law_1204 rfl (lv_at hl 0 rfl) ?_
  refine lv_iload_n hx hb dL_law_1205 rfl (lv_at hl 3 rfl) ?_
  refine lv_iconst (v := (3 : Int32)) hx hb dL_law_1206 (by decide) ?_
  refine lv_iadd hx hb dL_law_1207 ?_
  refine lw_sld (k := 3) hx hb hX hbl hw hL hi (by decide) (lw_ix i 3 rfl) dL_law_1208 ?_
  refine lv_aload_n hx hb dL_law_1209 rfl (lv_at hl 0 rfl) ?_
  refine lv_iload_n hx hb dL_law_1210 rfl (lv_at hl 3 rfl) ?_
  refine lv_iconst (v := (4 : Int32)) hx hb dL_law_1211 (by decide) ?_
  refine lv_iadd hx hb dL_law_1212 ?_
  refine lw_sld (k := 4) hx hb hX hbl hw hL hi (by decide) (lw_ix i 4 rfl) dL_law_1213 ?_
  refine lv_aload_n hx hb dL_law_1214 rfl (lv_at hl 0 rfl) ?_
  refine lv_iload_n hx hb dL_law_1215 rfl (lv_at hl 3 rfl) ?_
  refine lv_iconst (v := (5 : Int32)) hx hb dL_law_1216 (by decide) ?_
  refine lv_iadd hx hb dL_law_1217 ?_
  refine lw_sld (k := 5) hx hb hX hbl hw hL hi (by decide) (lw_ix i 5 rfl) dL_law_1218 ?_
  refine lw_cCi hw (va_runV (As := [.int (xs (i + 1)), .int (xs (i + 2)), .int (xs (i + 3)), .int (xs (i + 4)), .int (xs (i + 5))]) (rest := []) S (c_X6_copy l D I shC H.size MC (xs (i + 1)) (xs (i + 2)) (xs (i + 3)) (xs (i + 4)) (xs (i + 5)) h1) (cwV 5 S.2.2.2.2 gL_law_X6_copy rfl rfl rfl (by decide +kernel) ⟨Nat.le_of_ble_eq_true rfl, Nat.le_of_ble_eq_true rfl⟩) (ch_pV (lw_wC hw) (by decide) rfl rfl rfl) rfl rfl hl.1 rfl (lv_room (Nat.le_of_ble_eq_true rfl)) dL_law_1219 ⟨Nat.le_of_ble_eq_true rfl, Nat.le_of_ble_eq_true rfl⟩) (fun H locs hw => ?_)
  refine lv_aload_n hx hb dL_law_1222 rfl (lv_at hl 2 rfl) ?_
  refine lv_aload_n hx hb dL_law_1223 rfl (lv_at hl 0 rfl) ?_
  refine lv_iload_n hx hb dL_law_1224 rfl (lv_at hl 3 rfl) ?_
  refine lv_iconst (v := (1 : Int32)) hx hb dL_law_1225 (by decide) ?_
  refine lv_iadd hx hb dL_law_1226 ?_
  refine lw_sld (k := 1) hx hb hX hbl hw hL hi (by decide) (lw_ix i 1 rfl) dL_law_1227 ?_
  refine lv_aload_n hx hb dL_law_1228 rfl (lv_at hl 0 rfl) ?_
  refine lv_iload_n hx hb dL_law_1229 rfl (lv_at hl 3 rfl) ?_
  refine lv_iconst (v := (2 : Int32)) hx hb dL_law_1230 (by decide) ?_
  refine lv_iadd hx hb dL_law_1231 ?_
  refine lw_sld (k := 2) hx hb hX hbl hw hL hi (by decide) (lw_ix i 2 rfl) dL_law_1232 ?_
  refine lv_aload_n hx hb dL_law_1233 rfl (lv_at hl 0 rfl) ?_
  refine lv_iload_n hx hb dL_law_1234 rfl (lv_at hl 3 rfl) ?_
  refine lv_iconst (v := (3 : Int32)) hx hb dL_law_1235 (by decide) ?_
  refine lv_iadd hx hb dL_law_1236 ?_
  refine lw_sld (k := 3) hx hb hX hbl hw hL hi (by decide) (lw_ix i 3 rfl) dL_law_1237 ?_
  refine lv_aload_n hx hb dL_law_1238 rfl (lv_at hl 0 rfl) ?_
  refine lv_iload_n hx hb dL_law_1239 rfl (lv_at hl 3 rfl) ?_
  refine lv_iconst (v := (4 : Int32)) hx hb dL_law_1240 (by decide) ?_
  refine lv_iadd hx hb dL_law_1241 ?_
  refine lw_sld (k := 4) hx hb hX hbl hw hL hi (by decide) (lw_ix i 4 rfl) dL_law_1242 ?_
  refine lv_aload_n hx hb dL_law_1243 rfl (lv_at hl 0 rfl) ?_
  refine lv_iload_n hx hb dL_law_1244 rfl (lv_at hl 3 rfl) ?_
  refine lv_iconst (v := (5 : Int32)) hx hb dL_law_1245 (by decide) ?_
  refine lv_iadd hx hb dL_law_1246 ?_
  refine lw_sld (k := 5) hx hb hX hbl hw hL hi (by decide) (lw_ix i 5 rfl) dL_law_1247 ?_
  refine lw_cMi hw (va_runV (As := [.int (xs (i + 1)), .int (xs (i + 2)), .int (xs (i + 3)), .int (xs (i + 4)), .int (xs (i + 5))]) (rest := [.int r]) S (c_X7_copy l D I shM H.size MM (xs (i + 1)) (xs (i + 2)) (xs (i + 3)) (xs (i + 4)) (xs (i + 5)) h2) (cwV 5 S.2.2.2.2 gL_law_X7_copy rfl rfl rfl (by decide +kernel) ⟨Nat.le_of_ble_eq_true rfl, Nat.le_of_ble_eq_true rfl⟩) (ch_pV (lw_wM hw) (by decide) rfl rfl rfl) rfl rfl hl.1 rfl (lv_room (Nat.le_of_ble_eq_true rfl)) dL_law_1248 ⟨Nat.le_of_ble_eq_true rfl, Nat.le_of_ble_eq_true rfl⟩) (fun H locs hw => ?_)
  exact lv_icmp_eq (tgt := 1356) hx hb dL_law_1251 (by decide) (fun _ => next MC1 MM1 H locs ls hR1 hw hl) (fun q => absurd rfl q)
set_option maxHeartbeats 4000000 in
set_option maxRecDepth 100000 in
theorem lw_case_29 {p : Program} {l : Launch} {e : Env} {s : State} {m : MethodId} {below : List Frame} {meth : Method} {c : Code} {b L : Nat} {xs : Nat → Int32} {D : va_G} {I : ch_Id} {shC shM : Nat → Nat} {Q : State → Prop} (S : CallFix p m c cL_law 4 s #[Value.ref b] wsL_law RL) (hX : va_X b L xs s s.heap) (hbl : b < s.heap.size) (hL : L ≤ 3072) {i : Nat} (hi : i + 6 ≤ L) (next : ∀ (MC MM : ch_Mem) (H : Heap) (locs : List Loc) (ls : Array Slot), ch_R MC MM → ch_LW D I s b shC shM MC MM H locs → lv_has ls 4 [(0, .ref b), (1, .ref (shC 0)), (2, .ref (shM 0)), (3, .int (nI i))] → W p l e room_1 s m #[Value.ref b] below meth c H locs 53 5742 Q (F0 m 1356 ls [])) {MC MM : ch_Mem} {H : Heap} {locs : List Loc} {ls : Array Slot} (hR : ch_R MC MM) (hw : ch_LW D I s b shC shM MC MM H locs) (hl : lv_has ls 4 [(0, .ref b), (1, .ref (shC 0)), (2, .ref (shM 0)), (3, .int (nI i))]) : W p l e room_1 s m #[Value.ref b] below meth c H locs 53 5742 Q (F0 m 1256 ls []) := by
  obtain ⟨hx, hb, hml, hown, hts⟩ := id S
  obtain ⟨r, MC1, MM1, h1, h2, hR1⟩ := op_add hR (xs (i + 1)) (xs (i + 2)) (xs (i + 3)) (xs (i + 4)) (xs (i + 5))
  refine lv_aload_n hx hb dL_law_1256 rfl (lv_at hl 1 rfl) ?_
  refine lv_aload_n hx hb dL_law_1257 rfl (lv_at hl 0 rfl) ?_
  refine lv_iload_n hx hb dL_law_1258 rfl (lv_at hl 3 rfl) ?_
  refine lv_iconst (v := (1 : Int32)) hx hb dL_law_1259 (by decide) ?_
  refine lv_iadd hx hb dL_law_1260 ?_
  refine lw_sld (k := 1) hx hb hX hbl hw hL hi (by decide) (lw_ix i 1 rfl) dL_law_1261 ?_
  refine lv_aload_n hx hb dL_law_1262 rfl (lv_at hl 0 rfl) ?_
  refine lv_iload_n hx hb dL_law_1263 rfl (lv_at hl 3 rfl) ?_
  refine lv_iconst (v := (2 : Int32)) hx hb dL_law_1264 (by decide) ?_
  refine lv_iadd hx hb dL_law_1265 ?_
  refine lw_sld (k := 2) hx hb hX hbl hw hL hi (by decide) (lw_ix i 2 rfl) dL_law_1266 ?_
  refine lv_aload_n hx hb dL_law_1267 rfl (lv_at hl 0 rfl) ?_
  refine lv_iload_n hx hb dL_law_1268 rfl (lv_at hl 3 rfl) ?_
  refine lv_iconst (v := (3 : Int32)) hx hb dL_law_1269 (by decide) ?_
  refine lv_iadd hx hb dL_law_1270 ?_
  refine lw_sld (k := 3) hx hb hX hbl hw hL hi (by decide) (lw_ix i 3 rfl) dL_law_1271 ?_
  refine lv_aload_n hx hb dL_law_1272 rfl (lv_at hl 0 rfl) ?_
  refine lv_iload_n hx hb dL_law_1273 rfl (lv_at hl 3 rfl) ?_
  refine lv_iconst (v := (4 : Int32)) hx hb dL_law_1274 (by decide) ?_
  refine lv_iadd hx hb dL_law_1275 ?_
  refine lw_sld (k := 4) hx hb hX hbl hw hL hi (by decide) (lw_ix i 4 rfl) dL_law_1276 ?_
  refine lv_aload_n hx hb dL_law_1277 rfl (lv_at hl 0 rfl) ?_
  refine lv_iload_n hx hb dL_law_1278 rfl (lv_at hl 3 rfl) ?_
  refine lv_iconst (v := (5 : Int32)) hx hb dL_law_1279 (by decide) ?_
  refine lv_iadd hx hb dL_law_1280 ?_
  refine lw_sld (k := 5) hx hb hX hbl hw hL hi (by decide) (lw_ix i 5 rfl) dL_law_1281 ?_
  refine lw_cCi hw (va_runV (As := [.int (xs (i + 1)), .int (xs (i + 2)), .int (xs (i + 3)), .int (xs (i + 4)), .int (xs (i + 5))]) (rest := []) S (c_X6_add l D I shC H.size MC (xs (i + 1)) (xs (i + 2)) (xs (i + 3)) (xs (i + 4)) (xs (i + 5)) h1) (cwV 5 S.2.2.2.2 gL_law_X6_add rfl rfl rfl (by decide +kernel) ⟨Nat.le_of_ble_eq_true rfl, Nat.le_of_ble_eq_true rfl⟩) (ch_pV (lw_wC hw) (by decide) rfl rfl rfl) rfl rfl hl.1 rfl (lv_room (Nat.le_of_ble_eq_true rfl)) dL_law_1282 ⟨Nat.le_of_ble_eq_true rfl, Nat.le_of_ble_eq_true rfl⟩) (fun H locs hw => ?_)
  refine lv_aload_n hx hb dL_law_1285 rfl (lv_at hl 2 rfl) ?_
  refine lv_aload_n hx hb dL_law_1286 rfl (lv_at hl 0 rfl) ?_
  refine lv_iload_n hx hb dL_law_1287 rfl (lv_at hl 3 rfl) ?_
  refine lv_iconst (v := (1 : Int32)) hx hb dL_law_1288 (by decide) ?_
  refine lv_iadd hx hb dL_law_1289 ?_
  refine lw_sld (k := 1) hx hb hX hbl hw hL hi (by decide) (lw_ix i 1 rfl) dL_law_1290 ?_
  refine lv_aload_n hx hb dL_law_1291 rfl (lv_at hl 0 rfl) ?_
  refine lv_iload_n hx hb dL_law_1292 rfl (lv_at hl 3 rfl) ?_
  refine lv_iconst (v := (2 : Int32)) hx hb dL_law_1293 (by decide) ?_
  refine lv_iadd hx hb dL_law_1294 ?_
  refine lw_sld (k := 2) hx hb hX hbl hw hL hi (by decide) (lw_ix i 2 rfl) dL_law_1295 ?_
  refine lv_aload_n hx hb dL_law_1296 rfl (lv_at hl 0 rfl) ?_
  refine lv_iload_n hx hb dL_law_1297 rfl (lv_at hl 3 rfl) ?_
  refine lv_iconst (v := (3 : Int32)) hx hb dL_law_1298 (by decide) ?_
  refine lv_iadd hx hb dL_law_1299 ?_
  refine lw_sld (k := 3) hx hb hX hbl hw hL hi (by decide) (lw_ix i 3 rfl) dL_law_1300 ?_
  refine lv_aload_n hx hb dL_law_1301 rfl (lv_at hl 0 rfl) ?_
  refine lv_iload_n hx hb dL_law_1302 rfl (lv_at hl 3 rfl) ?_
  refine lv_iconst (v := (4 : Int32)) hx hb dL_law_1303 (by decide) ?_
  refine lv_iadd hx hb dL_law_1304 ?_
  refine lw_sld (k := 4) hx hb hX hbl hw hL hi (by decide) (lw_ix i 4 rfl) dL_law_1305 ?_
  refine lv_aload_n hx hb dL_law_1306 rfl (lv_at hl 0 rfl) ?_
  refine lv_iload_n hx hb dL_law_1307 rfl (lv_at hl 3 rfl) ?_
  refine lv_iconst (v := (5 : Int32)) hx hb dL_law_1308 (by decide) ?_
  refine lv_iadd hx hb dL_law_1309 ?_
  refine lw_sld (k := 5) hx hb hX hbl hw hL hi (by decide) (lw_ix i 5 rfl) dL_law_1310 ?_
  refine lw_cMi hw (va_runV (As := [.int (xs (i + 1)), .int (xs (i + 2)), .int (xs (i + 3)), .int (xs (i + 4)), .int (xs (i + 5))]) (rest := [.int r]) S (c_X7_add l D I shM H.size MM (xs (i + 1)) (xs (i + 2)) (xs (i + 3)) (xs (i + 4)) (xs (i + 5)) h2) (cwV 5 S.2.2.2.2 gL_law_X7_add rfl rfl rfl (by decide +kernel) ⟨Nat.le_of_ble_eq_true rfl, Nat.le_of_ble_eq_true rfl⟩) (ch_pV (lw_wM hw) (by decide) rfl rfl rfl) rfl rfl hl.1 rfl (lv_room (Nat.le_of_ble_eq_true rfl)) dL_law_1311 ⟨Nat.le_of_ble_eq_true rfl, Nat.le_of_ble_eq_true rfl⟩) (fun H locs hw => ?_)
  exact lv_icmp_eq (tgt := 1356) hx hb dL_law_1314 (by decide) (fun _ => next MC1 MM1 H locs ls hR1 hw hl) (fun q => absurd rfl q)
set_option maxHeartbeats 4000000 in
set_option maxRecDepth 100000 in
theorem lw_case_30 {p : Program} {l : Launch} {e : Env} {s : State} {m : MethodId} {below : List Frame} {meth : Method} {c : Code} {b L : Nat} {xs : Nat → Int32} {D : va_G} {I : ch_Id} {shC shM : Nat → Nat} {Q : State → Prop} (S : CallFix p m c cL_law 4 s #[Value.ref b] wsL_law RL) (hX : va_X b L xs s s.heap) (hbl : b < s.heap.size) (hL : L ≤ 3072) {i : Nat} (hi : i + 6 ≤ L) (next : ∀ (MC MM : ch_Mem) (H : Heap) (locs : List Loc) (ls : Array Slot), ch_R MC MM → ch_LW D I s b shC shM MC MM H locs → lv_has ls 4 [(0, .ref b), (1, .ref (shC 0)), (2, .ref (shM 0)), (3, .int (nI i))] → W p l e room_1 s m #[Value.ref b] below meth c H locs 53 5742 Q (F0 m 1356 ls [])) {MC MM : ch_Mem} {H : Heap} {locs : List Loc} {ls : Array Slot} (hR : ch_R MC MM) (hw : ch_LW D I s b shC shM MC MM H locs) (hl : lv_has ls 4 [(0, .ref b), (1, .ref (shC 0)), (2, .ref (shM 0)), (3, .int (nI i))]) : W p l e room_1 s m #[Value.ref b] below meth c H locs 53 5742 Q (F0 m 1319 ls []) := by
  obtain ⟨hx, hb, hml, hown, hts⟩ := id S
  obtain ⟨r, MC1, MM1, h1, h2, hR1⟩ := op_count hR (xs (i + 1))
  refine lv_aload_n hx hb dL_law_1319 rfl (lv_at hl 1 rfl) ?_
  refine lv_aload_n hx hb dL_law_1320 rfl (lv_at hl 0 rfl) ?_
  refine lv_iload_n hx hb dL_law_1321 rfl (lv_at hl 3 rfl) ?_
  refine lv_iconst (v := (1 : Int32)) hx hb dL_law_1322 (by decide) ?_
  refine lv_iadd hx hb dL_law_1323 ?_
  refine lw_sld (k := 1) hx hb hX hbl hw hL hi (by decide) (lw_ix i 1 rfl) dL_law_1324 ?_
  refine lw_cCi hw (va_runV (As := [.int (xs (i + 1))]) (rest := []) S (c_X6_count l D I shC H.size MC (xs (i + 1)) h1) (cwV 1 S.2.2.2.2 gL_law_X6_count rfl rfl rfl (by decide +kernel) ⟨Nat.le_of_ble_eq_true rfl, Nat.le_of_ble_eq_true rfl⟩) (ch_pV (lw_wC hw) (by decide) rfl rfl rfl) rfl rfl hl.1 rfl (lv_room (Nat.le_of_ble_eq_true rfl)) dL_law_1325 ⟨Nat.le_of_ble_eq_true rfl, Nat.le_of_ble_eq_true rfl⟩) (fun H locs hw => ?_)
  refine lv_aload_n hx hb dL_law_1328 rfl (lv_at hl 2 rfl) ?_
  refine lv_aload_n hx hb dL_law_1329 rfl (lv_at hl 0 rfl) ?_
  refine lv_iload_n hx hb dL_law_1330 rfl (lv_at hl 3 rfl) ?_
  refine lv_iconst (v := (1 : Int32)) hx hb dL_law_1331 (by decide) ?_
  refine lv_iadd hx hb dL_law_1332 ?_
  refine lw_sld (k := 1) hx hb hX hbl hw hL hi (by decide) (lw_ix i 1 rfl) dL_law_1333 ?_
  refine lw_cMi hw (va_runV (As := [.int (xs (i + 1))]) (rest := [.int r]) S (c_X7_count l D I shM H.size MM (xs (i + 1)) h2) (cwV 1 S.2.2.2.2 gL_law_X7_count rfl rfl rfl (by decide +kernel) ⟨Nat.le_of_ble_eq_true rfl, Nat.le_of_ble_eq_true rfl⟩) (ch_pV (lw_wM hw) (by decide) rfl rfl rfl) rfl rfl hl.1 rfl (lv_room (Nat.le_of_ble_eq_true rfl)) dL_law_1334 ⟨Nat.le_of_ble_eq_true rfl, Nat.le_of_ble_eq_true rfl⟩) (fun H locs hw => ?_)
  exact lv_icmp_eq (tgt := 1356) hx hb dL_law_1337 (by decide) (fun _ => next MC1 MM1 H locs ls hR1 hw hl) (fun q => absurd rfl q)
set_option maxHeartbeats 4000000 in
set_option maxRecDepth 100000 in
theorem lw_case_31 {p : Program} {l : Launch} {e : Env} {s : State} {m : MethodId} {below : List Frame} {meth : Method} {c : Code} {b L : Nat} {xs : Nat → Int32} {D : va_G} {I : ch_Id} {shC shM : Nat → Nat} {Q : State → Prop} (S : CallFix p m c cL_law 4 s #[Value.ref b] wsL_law RL) (hX : va_X b L xs s s.heap) (hbl : b < s.heap.size) (hL : L ≤ 3072) {i : Nat} (hi : i + 6 ≤ L) (next : ∀ (MC MM : ch_Mem) (H : Heap) (locs : List Loc) (ls : Array Slot), ch_R MC MM → ch_LW D I s b shC shM MC MM H locs → lv_has ls 4 [(0, .ref b), (1, .ref (shC 0)), (2, .ref (shM 0)), (3, .int (nI i))] → W p l e room_1 s m #[Value.ref b] below meth c H locs 53 5742 Q (F0 m 1356 ls [])) {MC MM : ch_Mem} {H : Heap} {locs : List Loc} {ls : Array Slot} (hR : ch_R MC MM) (hw : ch_LW D I s b shC shM MC MM H locs) (hl : lv_has ls 4 [(0, .ref b), (1, .ref (shC 0)), (2, .ref (shM 0)), (3, .int (nI i))]) : W p l e room_1 s m #[Value.ref b] below meth c H locs 53 5742 Q (F0 m 1342 ls []) := by
  obtain ⟨hx, hb, hml, hown, hts⟩ := id S
  obtain ⟨r, MC1, MM1, h1, h2, hR1⟩ := op_digest hR 
  refine lv_aload_n hx hb dL_law_1342 rfl (lv_at hl 1 rfl) ?_
  refine lw_cCl hw (va_runV (As := []) (rest := []) S (c_X6_digest l D I shC H.size MC  h1) (cwV 0 S.2.2.2.2 gL_law_X6_digest rfl rfl rfl (by decide +kernel) ⟨Nat.le_of_ble_eq_true rfl, Nat.le_of_ble_eq_true rfl⟩) (ch_pV (lw_wC hw) (by decide) rfl rfl rfl) rfl rfl hl.1 rfl (lv_room (Nat.le_of_ble_eq_true rfl)) dL_law_1343 ⟨Nat.le_of_ble_eq_true rfl, Nat.le_of_ble_eq_true rfl⟩) (fun H locs hw => ?_)
  refine lv_aload_n hx hb dL_law_1346 rfl (lv_at hl 2 rfl) ?_
  refine lw_cMl hw (va_runV (As := []) (rest := [.long r]) S (c_X7_digest l D I shM H.size MM  h2) (cwV 0 S.2.2.2.2 gL_law_X7_digest rfl rfl rfl (by decide +kernel) ⟨Nat.le_of_ble_eq_true rfl, Nat.le_of_ble_eq_true rfl⟩) (ch_pV (lw_wM hw) (by decide) rfl rfl rfl) rfl rfl hl.1 rfl (lv_room (Nat.le_of_ble_eq_true rfl)) dL_law_1347 ⟨Nat.le_of_ble_eq_true rfl, Nat.le_of_ble_eq_true rfl⟩) (fun H locs hw => ?_)
  refine W.lcmp hx hb dL_law_1350 ?_
  exact lv_if_eq (tgt := 1356) hx hb dL_law_1351 (by decide) (fun _ => next MC1 MM1 H locs ls hR1 hw hl) (fun q => absurd (lw_cmp r) q)
