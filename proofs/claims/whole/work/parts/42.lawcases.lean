set_option maxHeartbeats 4000000 in
set_option maxRecDepth 100000 in
theorem lc_row {p : Program} {e : Env} {s : State} {m : MethodId} {below : List Frame} {meth : Method} {c : Code} {Q : State → Prop} {G : CG} {b L : Nat} {xs : Nat → Int32} (l : Launch) (I : Mm → Nat → Nat → Prop) (hS : PS_row I) (X : Cx p s m #[Value.ref b] meth c cL_law 4 RL G) (hRL : RmL room_1 31) (hX : va_X b L xs s s.heap) (hbl : b < s.heap.size) (hbA : ¬ fA G b) {x3 : Int32} (h1 : vp_in (x3 + 1) L) (h2 : vp_in (x3 + 2) L) (h3 : vp_in (x3 + 3) L) (h4 : vp_in (x3 + 4) L) (h5 : vp_in (x3 + 5) L) {a1 a2 : Nat} {μ : Mm} {H : Heap} {locs : List Loc} {ls : Array Slot} {cells slots : Nat} (hI : I μ a1 a2) (hH : HS G s μ H locs) (hl : lv_has ls 4 [(0, .ref b), (1, .ref a1), (2, .ref a2), (3, .int x3)]) (hcs : cells + 42 ≤ room_1.cells ∧ slots + 84 ≤ room_1.slots) (kk : ∀ (μ2 : Mm) (H : Heap) (locs : List Loc), I μ2 a1 a2 → HS G s μ2 H locs → W p l e room_1 s m #[Value.ref b] below meth c H locs (cells + 42) (slots + 84) Q (F0 m 1319 ls [])) : W p l e room_1 s m #[Value.ref b] below meth c H locs cells slots Q (F0 m 224 ls []) := by
  have hx := X.1
  have hb := X.2.1
  obtain ⟨r, μ1, μ2, e1, e2, hI2⟩ := hS μ a1 a2 (xs (x3 + 1).toNatClampNeg) (xs (x3 + 2).toNatClampNeg) hI
  refine lv_aload_n hx hb dL_law_224 rfl (lv_at hl 1 rfl) ?_
  refine lv_aload_n hx hb dL_law_225 rfl (lv_at hl 0 rfl) ?_
  refine lv_iload_n hx hb dL_law_226 rfl (lv_at hl 3 rfl) ?_
  refine lv_iconst (v := 1) hx hb dL_law_227 (by decide) ?_
  refine lv_iadd hx hb dL_law_228 ?_
  refine va_sld hx hb hX hbl hbA hH.2 h1 dL_law_229 ?_
  refine lv_aload_n hx hb dL_law_230 rfl (lv_at hl 0 rfl) ?_
  refine lv_iload_n hx hb dL_law_231 rfl (lv_at hl 3 rfl) ?_
  refine lv_iconst (v := 2) hx hb dL_law_232 (by decide) ?_
  refine lv_iadd hx hb dL_law_233 ?_
  refine va_sld hx hb hX hbl hbA hH.2 h2 dL_law_234 ?_
  refine iv_L_13 l X hH hRL (by decide) e1 hl.1 (Nat.le_of_ble_eq_true rfl) dL_law_235 ⟨by have := hcs.1; omega, by have := hcs.2; omega⟩ (fun H locs hH => ?_)
  refine lv_aload_n hx hb dL_law_238 rfl (lv_at hl 2 rfl) ?_
  refine lv_aload_n hx hb dL_law_239 rfl (lv_at hl 0 rfl) ?_
  refine lv_iload_n hx hb dL_law_240 rfl (lv_at hl 3 rfl) ?_
  refine lv_iconst (v := 1) hx hb dL_law_241 (by decide) ?_
  refine lv_iadd hx hb dL_law_242 ?_
  refine va_sld hx hb hX hbl hbA hH.2 h1 dL_law_243 ?_
  refine lv_aload_n hx hb dL_law_244 rfl (lv_at hl 0 rfl) ?_
  refine lv_iload_n hx hb dL_law_245 rfl (lv_at hl 3 rfl) ?_
  refine lv_iconst (v := 2) hx hb dL_law_246 (by decide) ?_
  refine lv_iadd hx hb dL_law_247 ?_
  refine va_sld hx hb hX hbl hbA hH.2 h2 dL_law_248 ?_
  refine iv_L_17 l X hH hRL (by decide) e2 hl.1 (Nat.le_of_ble_eq_true rfl) dL_law_249 ⟨by have := hcs.1; omega, by have := hcs.2; omega⟩ (fun H locs hH => ?_)
  refine lv_icmp_eq (tgt := 1319) hx hb dL_law_252 (by decide) (fun _ => ?_) (fun hc => ?_)
  · refine W.widen (k := cells + 42) (n := slots + 84) (by omega) (by omega) ?_
    exact kk _ _ _ hI2 hH
  · exact absurd rfl hc
set_option maxHeartbeats 4000000 in
set_option maxRecDepth 100000 in
theorem lc_lay {p : Program} {e : Env} {s : State} {m : MethodId} {below : List Frame} {meth : Method} {c : Code} {Q : State → Prop} {G : CG} {b L : Nat} {xs : Nat → Int32} (l : Launch) (I : Mm → Nat → Nat → Prop) (hS : PS_lay I) (X : Cx p s m #[Value.ref b] meth c cL_law 4 RL G) (hRL : RmL room_1 31) (hX : va_X b L xs s s.heap) (hbl : b < s.heap.size) (hbA : ¬ fA G b) {x3 : Int32} (h1 : vp_in (x3 + 1) L) (h2 : vp_in (x3 + 2) L) (h3 : vp_in (x3 + 3) L) (h4 : vp_in (x3 + 4) L) (h5 : vp_in (x3 + 5) L) {a1 a2 : Nat} {μ : Mm} {H : Heap} {locs : List Loc} {ls : Array Slot} {cells slots : Nat} (hI : I μ a1 a2) (hH : HS G s μ H locs) (hl : lv_has ls 4 [(0, .ref b), (1, .ref a1), (2, .ref a2), (3, .int x3)]) (hcs : cells + 42 ≤ room_1.cells ∧ slots + 84 ≤ room_1.slots) (kk : ∀ (μ2 : Mm) (H : Heap) (locs : List Loc), I μ2 a1 a2 → HS G s μ2 H locs → W p l e room_1 s m #[Value.ref b] below meth c H locs (cells + 42) (slots + 84) Q (F0 m 1319 ls [])) : W p l e room_1 s m #[Value.ref b] below meth c H locs cells slots Q (F0 m 257 ls []) := by
  have hx := X.1
  have hb := X.2.1
  obtain ⟨r, μ1, μ2, e1, e2, hI2⟩ := hS μ a1 a2 (xs (x3 + 1).toNatClampNeg) (xs (x3 + 2).toNatClampNeg) (xs (x3 + 3).toNatClampNeg) hI
  refine lv_aload_n hx hb dL_law_257 rfl (lv_at hl 1 rfl) ?_
  refine lv_aload_n hx hb dL_law_258 rfl (lv_at hl 0 rfl) ?_
  refine lv_iload_n hx hb dL_law_259 rfl (lv_at hl 3 rfl) ?_
  refine lv_iconst (v := 1) hx hb dL_law_260 (by decide) ?_
  refine lv_iadd hx hb dL_law_261 ?_
  refine va_sld hx hb hX hbl hbA hH.2 h1 dL_law_262 ?_
  refine lv_aload_n hx hb dL_law_263 rfl (lv_at hl 0 rfl) ?_
  refine lv_iload_n hx hb dL_law_264 rfl (lv_at hl 3 rfl) ?_
  refine lv_iconst (v := 2) hx hb dL_law_265 (by decide) ?_
  refine lv_iadd hx hb dL_law_266 ?_
  refine va_sld hx hb hX hbl hbA hH.2 h2 dL_law_267 ?_
  refine lv_aload_n hx hb dL_law_268 rfl (lv_at hl 0 rfl) ?_
  refine lv_iload_n hx hb dL_law_269 rfl (lv_at hl 3 rfl) ?_
  refine lv_iconst (v := 3) hx hb dL_law_270 (by decide) ?_
  refine lv_iadd hx hb dL_law_271 ?_
  refine va_sld hx hb hX hbl hbA hH.2 h3 dL_law_272 ?_
  refine iv_L_18 l X hH hRL (by decide) e1 hl.1 (Nat.le_of_ble_eq_true rfl) dL_law_273 ⟨by have := hcs.1; omega, by have := hcs.2; omega⟩ (fun H locs hH => ?_)
  refine lv_aload_n hx hb dL_law_276 rfl (lv_at hl 2 rfl) ?_
  refine lv_aload_n hx hb dL_law_277 rfl (lv_at hl 0 rfl) ?_
  refine lv_iload_n hx hb dL_law_278 rfl (lv_at hl 3 rfl) ?_
  refine lv_iconst (v := 1) hx hb dL_law_279 (by decide) ?_
  refine lv_iadd hx hb dL_law_280 ?_
  refine va_sld hx hb hX hbl hbA hH.2 h1 dL_law_281 ?_
  refine lv_aload_n hx hb dL_law_282 rfl (lv_at hl 0 rfl) ?_
  refine lv_iload_n hx hb dL_law_283 rfl (lv_at hl 3 rfl) ?_
  refine lv_iconst (v := 2) hx hb dL_law_284 (by decide) ?_
  refine lv_iadd hx hb dL_law_285 ?_
  refine va_sld hx hb hX hbl hbA hH.2 h2 dL_law_286 ?_
  refine lv_aload_n hx hb dL_law_287 rfl (lv_at hl 0 rfl) ?_
  refine lv_iload_n hx hb dL_law_288 rfl (lv_at hl 3 rfl) ?_
  refine lv_iconst (v := 3) hx hb dL_law_289 (by decide) ?_
  refine lv_iadd hx hb dL_law_290 ?_
  refine va_sld hx hb hX hbl hbA hH.2 h3 dL_law_291 ?_
  refine iv_L_22 l X hH hRL (by decide) e2 hl.1 (Nat.le_of_ble_eq_true rfl) dL_law_292 ⟨by have := hcs.1; omega, by have := hcs.2; omega⟩ (fun H locs hH => ?_)
  refine lv_icmp_eq (tgt := 1319) hx hb dL_law_295 (by decide) (fun _ => ?_) (fun hc => ?_)
  · refine W.widen (k := cells + 42) (n := slots + 84) (by omega) (by omega) ?_
    exact kk _ _ _ hI2 hH
  · exact absurd rfl hc
set_option maxHeartbeats 4000000 in
set_option maxRecDepth 100000 in
theorem lc_at {p : Program} {e : Env} {s : State} {m : MethodId} {below : List Frame} {meth : Method} {c : Code} {Q : State → Prop} {G : CG} {b L : Nat} {xs : Nat → Int32} (l : Launch) (I : Mm → Nat → Nat → Prop) (hS : PS_at I) (X : Cx p s m #[Value.ref b] meth c cL_law 4 RL G) (hRL : RmL room_1 31) (hX : va_X b L xs s s.heap) (hbl : b < s.heap.size) (hbA : ¬ fA G b) {x3 : Int32} (h1 : vp_in (x3 + 1) L) (h2 : vp_in (x3 + 2) L) (h3 : vp_in (x3 + 3) L) (h4 : vp_in (x3 + 4) L) (h5 : vp_in (x3 + 5) L) {a1 a2 : Nat} {μ : Mm} {H : Heap} {locs : List Loc} {ls : Array Slot} {cells slots : Nat} (hI : I μ a1 a2) (hH : HS G s μ H locs) (hl : lv_has ls 4 [(0, .ref b), (1, .ref a1), (2, .ref a2), (3, .int x3)]) (hcs : cells + 42 ≤ room_1.cells ∧ slots + 84 ≤ room_1.slots) (kk : ∀ (μ2 : Mm) (H : Heap) (locs : List Loc), I μ2 a1 a2 → HS G s μ2 H locs → W p l e room_1 s m #[Value.ref b] below meth c H locs (cells + 42) (slots + 84) Q (F0 m 1319 ls [])) : W p l e room_1 s m #[Value.ref b] below meth c H locs cells slots Q (F0 m 300 ls []) := by
  have hx := X.1
  have hb := X.2.1
  obtain ⟨r, μ1, μ2, e1, e2, hI2⟩ := hS μ a1 a2 (xs (x3 + 1).toNatClampNeg) (xs (x3 + 2).toNatClampNeg) hI
  refine lv_aload_n hx hb dL_law_300 rfl (lv_at hl 1 rfl) ?_
  refine lv_aload_n hx hb dL_law_301 rfl (lv_at hl 0 rfl) ?_
  refine lv_iload_n hx hb dL_law_302 rfl (lv_at hl 3 rfl) ?_
  refine lv_iconst (v := 1) hx hb dL_law_303 (by decide) ?_
  refine lv_iadd hx hb dL_law_304 ?_
  refine va_sld hx hb hX hbl hbA hH.2 h1 dL_law_305 ?_
  refine lv_aload_n hx hb dL_law_306 rfl (lv_at hl 0 rfl) ?_
  refine lv_iload_n hx hb dL_law_307 rfl (lv_at hl 3 rfl) ?_
  refine lv_iconst (v := 2) hx hb dL_law_308 (by decide) ?_
  refine lv_iadd hx hb dL_law_309 ?_
  refine va_sld hx hb hX hbl hbA hH.2 h2 dL_law_310 ?_
  refine iv_L_23 l X hH hRL (by decide) e1 hl.1 (Nat.le_of_ble_eq_true rfl) dL_law_311 ⟨by have := hcs.1; omega, by have := hcs.2; omega⟩ (fun H locs hH => ?_)
  refine lv_aload_n hx hb dL_law_314 rfl (lv_at hl 2 rfl) ?_
  refine lv_aload_n hx hb dL_law_315 rfl (lv_at hl 0 rfl) ?_
  refine lv_iload_n hx hb dL_law_316 rfl (lv_at hl 3 rfl) ?_
  refine lv_iconst (v := 1) hx hb dL_law_317 (by decide) ?_
  refine lv_iadd hx hb dL_law_318 ?_
  refine va_sld hx hb hX hbl hbA hH.2 h1 dL_law_319 ?_
  refine lv_aload_n hx hb dL_law_320 rfl (lv_at hl 0 rfl) ?_
  refine lv_iload_n hx hb dL_law_321 rfl (lv_at hl 3 rfl) ?_
  refine lv_iconst (v := 2) hx hb dL_law_322 (by decide) ?_
  refine lv_iadd hx hb dL_law_323 ?_
  refine va_sld hx hb hX hbl hbA hH.2 h2 dL_law_324 ?_
  refine iv_L_26 l X hH hRL (by decide) e2 hl.1 (Nat.le_of_ble_eq_true rfl) dL_law_325 ⟨by have := hcs.1; omega, by have := hcs.2; omega⟩ (fun H locs hH => ?_)
  refine lv_icmp_eq (tgt := 1319) hx hb dL_law_328 (by decide) (fun _ => ?_) (fun hc => ?_)
  · refine W.widen (k := cells + 42) (n := slots + 84) (by omega) (by omega) ?_
    exact kk _ _ _ hI2 hH
  · exact absurd rfl hc
set_option maxHeartbeats 4000000 in
set_option maxRecDepth 100000 in
theorem lc_tear {p : Program} {e : Env} {s : State} {m : MethodId} {below : List Frame} {meth : Method} {c : Code} {Q : State → Prop} {G : CG} {b L : Nat} {xs : Nat → Int32} (l : Launch) (I : Mm → Nat → Nat → Prop) (hS : PS_tear I) (X : Cx p s m #[Value.ref b] meth c cL_law 4 RL G) (hRL : RmL room_1 31) (hX : va_X b L xs s s.heap) (hbl : b < s.heap.size) (hbA : ¬ fA G b) {x3 : Int32} (h1 : vp_in (x3 + 1) L) (h2 : vp_in (x3 + 2) L) (h3 : vp_in (x3 + 3) L) (h4 : vp_in (x3 + 4) L) (h5 : vp_in (x3 + 5) L) {a1 a2 : Nat} {μ : Mm} {H : Heap} {locs : List Loc} {ls : Array Slot} {cells slots : Nat} (hI : I μ a1 a2) (hH : HS G s μ H locs) (hl : lv_has ls 4 [(0, .ref b), (1, .ref a1), (2, .ref a2), (3, .int x3)]) (hcs : cells + 42 ≤ room_1.cells ∧ slots + 84 ≤ room_1.slots) (kk : ∀ (μ2 : Mm) (H : Heap) (locs : List Loc), I μ2 a1 a2 → HS G s μ2 H locs → W p l e room_1 s m #[Value.ref b] below meth c H locs (cells + 42) (slots + 84) Q (F0 m 1319 ls [])) : W p l e room_1 s m #[Value.ref b] below meth c H locs cells slots Q (F0 m 333 ls []) := by
  have hx := X.1
  have hb := X.2.1
  obtain ⟨r, μ1, μ2, e1, e2, hI2⟩ := hS μ a1 a2 (xs (x3 + 1).toNatClampNeg) hI
  refine lv_aload_n hx hb dL_law_333 rfl (lv_at hl 1 rfl) ?_
  refine lv_aload_n hx hb dL_law_334 rfl (lv_at hl 0 rfl) ?_
  refine lv_iload_n hx hb dL_law_335 rfl (lv_at hl 3 rfl) ?_
  refine lv_iconst (v := 1) hx hb dL_law_336 (by decide) ?_
  refine lv_iadd hx hb dL_law_337 ?_
  refine va_sld hx hb hX hbl hbA hH.2 h1 dL_law_338 ?_
  refine iv_L_27 l X hH hRL (by decide) e1 hl.1 (Nat.le_of_ble_eq_true rfl) dL_law_339 ⟨by have := hcs.1; omega, by have := hcs.2; omega⟩ (fun H locs hH => ?_)
  refine lv_aload_n hx hb dL_law_342 rfl (lv_at hl 2 rfl) ?_
  refine lv_aload_n hx hb dL_law_343 rfl (lv_at hl 0 rfl) ?_
  refine lv_iload_n hx hb dL_law_344 rfl (lv_at hl 3 rfl) ?_
  refine lv_iconst (v := 1) hx hb dL_law_345 (by decide) ?_
  refine lv_iadd hx hb dL_law_346 ?_
  refine va_sld hx hb hX hbl hbA hH.2 h1 dL_law_347 ?_
  refine iv_L_31 l X hH hRL (by decide) e2 hl.1 (Nat.le_of_ble_eq_true rfl) dL_law_348 ⟨by have := hcs.1; omega, by have := hcs.2; omega⟩ (fun H locs hH => ?_)
  refine lv_icmp_eq (tgt := 1319) hx hb dL_law_351 (by decide) (fun _ => ?_) (fun hc => ?_)
  · refine W.widen (k := cells + 42) (n := slots + 84) (by omega) (by omega) ?_
    exact kk _ _ _ hI2 hH
  · exact absurd rfl hc
set_option maxHeartbeats 4000000 in
set_option maxRecDepth 100000 in
theorem lc_copy {p : Program} {e : Env} {s : State} {m : MethodId} {below : List Frame} {meth : Method} {c : Code} {Q : State → Prop} {G : CG} {b L : Nat} {xs : Nat → Int32} (l : Launch) (I : Mm → Nat → Nat → Prop) (hS : PS_copy I) (X : Cx p s m #[Value.ref b] meth c cL_law 4 RL G) (hRL : RmL room_1 31) (hX : va_X b L xs s s.heap) (hbl : b < s.heap.size) (hbA : ¬ fA G b) {x3 : Int32} (h1 : vp_in (x3 + 1) L) (h2 : vp_in (x3 + 2) L) (h3 : vp_in (x3 + 3) L) (h4 : vp_in (x3 + 4) L) (h5 : vp_in (x3 + 5) L) {a1 a2 : Nat} {μ : Mm} {H : Heap} {locs : List Loc} {ls : Array Slot} {cells slots : Nat} (hI : I μ a1 a2) (hH : HS G s μ H locs) (hl : lv_has ls 4 [(0, .ref b), (1, .ref a1), (2, .ref a2), (3, .int x3)]) (hcs : cells + 42 ≤ room_1.cells ∧ slots + 84 ≤ room_1.slots) (kk : ∀ (μ2 : Mm) (H : Heap) (locs : List Loc), I μ2 a1 a2 → HS G s μ2 H locs → W p l e room_1 s m #[Value.ref b] below meth c H locs (cells + 42) (slots + 84) Q (F0 m 1319 ls [])) : W p l e room_1 s m #[Value.ref b] below meth c H locs cells slots Q (F0 m 356 ls []) := by
  have hx := X.1
  have hb := X.2.1
  obtain ⟨r, μ1, μ2, e1, e2, hI2⟩ := hS μ a1 a2 (xs (x3 + 1).toNatClampNeg) (xs (x3 + 2).toNatClampNeg) (xs (x3 + 3).toNatClampNeg) (xs (x3 + 4).toNatClampNeg) (xs (x3 + 5).toNatClampNeg) hI
  refine lv_aload_n hx hb dL_law_356 rfl (lv_at hl 1 rfl) ?_
  refine lv_aload_n hx hb dL_law_357 rfl (lv_at hl 0 rfl) ?_
  refine lv_iload_n hx hb dL_law_358 rfl (lv_at hl 3 rfl) ?_
  refine lv_iconst (v := 1) hx hb dL_law_359 (by decide) ?_
  refine lv_iadd hx hb dL_law_360 ?_
  refine va_sld hx hb hX hbl hbA hH.2 h1 dL_law_361 ?_
  refine lv_aload_n hx hb dL_law_362 rfl (lv_at hl 0 rfl) ?_
  refine lv_iload_n hx hb dL_law_363 rfl (lv_at hl 3 rfl) ?_
  refine lv_iconst (v := 2) hx hb dL_law_364 (by decide) ?_
  refine lv_iadd hx hb dL_law_365 ?_
  refine va_sld hx hb hX hbl hbA hH.2 h2 dL_law_366 ?_
  refine lv_aload_n hx hb dL_law_367 rfl (lv_at hl 0 rfl) ?_
  refine lv_iload_n hx hb dL_law_368 rfl (lv_at hl 3 rfl) ?_
  refine lv_iconst (v := 3) hx hb dL_law_369 (by decide) ?_
  refine lv_iadd hx hb dL_law_370 ?_
  refine va_sld hx hb hX hbl hbA hH.2 h3 dL_law_371 ?_
  refine lv_aload_n hx hb dL_law_372 rfl (lv_at hl 0 rfl) ?_
  refine lv_iload_n hx hb dL_law_373 rfl (lv_at hl 3 rfl) ?_
  refine lv_iconst (v := 4) hx hb dL_law_374 (by decide) ?_
  refine lv_iadd hx hb dL_law_375 ?_
  refine va_sld hx hb hX hbl hbA hH.2 h4 dL_law_376 ?_
  refine lv_aload_n hx hb dL_law_377 rfl (lv_at hl 0 rfl) ?_
  refine lv_iload_n hx hb dL_law_378 rfl (lv_at hl 3 rfl) ?_
  refine lv_iconst (v := 5) hx hb dL_law_379 (by decide) ?_
  refine lv_iadd hx hb dL_law_380 ?_
  refine va_sld hx hb hX hbl hbA hH.2 h5 dL_law_381 ?_
  refine iv_L_32 l X hH hRL (by decide) e1 hl.1 (Nat.le_of_ble_eq_true rfl) dL_law_382 ⟨by have := hcs.1; omega, by have := hcs.2; omega⟩ (fun H locs hH => ?_)
  refine lv_aload_n hx hb dL_law_385 rfl (lv_at hl 2 rfl) ?_
  refine lv_aload_n hx hb dL_law_386 rfl (lv_at hl 0 rfl) ?_
  refine lv_iload_n hx hb dL_law_387 rfl (lv_at hl 3 rfl) ?_
  refine lv_iconst (v := 1) hx hb dL_law_388 (by decide) ?_
  refine lv_iadd hx hb dL_law_389 ?_
  refine va_sld hx hb hX hbl hbA hH.2 h1 dL_law_390 ?_
  refine lv_aload_n hx hb dL_law_391 rfl (lv_at hl 0 rfl) ?_
  refine lv_iload_n hx hb dL_law_392 rfl (lv_at hl 3 rfl) ?_
  refine lv_iconst (v := 2) hx hb dL_law_393 (by decide) ?_
  refine lv_iadd hx hb dL_law_394 ?_
  refine va_sld hx hb hX hbl hbA hH.2 h2 dL_law_395 ?_
  refine lv_aload_n hx hb dL_law_396 rfl (lv_at hl 0 rfl) ?_
  refine lv_iload_n hx hb dL_law_397 rfl (lv_at hl 3 rfl) ?_
  refine lv_iconst (v := 3) hx hb dL_law_398 (by decide) ?_
  refine lv_iadd hx hb dL_law_399 ?_
  refine va_sld hx hb hX hbl hbA hH.2 h3 dL_law_400 ?_
  refine lv_aload_n hx hb dL_law_401 rfl (lv_at hl 0 rfl) ?_
  refine lv_iload_n hx hb dL_law_402 rfl (lv_at hl 3 rfl) ?_
  refine lv_iconst (v := 4) hx hb dL_law_403 (by decide) ?_
  refine lv_iadd hx hb dL_law_404 ?_
  refine va_sld hx hb hX hbl hbA hH.2 h4 dL_law_405 ?_
  refine lv_aload_n hx hb dL_law_406 rfl (lv_at hl 0 rfl) ?_
  refine lv_iload_n hx hb dL_law_407 rfl (lv_at hl 3 rfl) ?_
  refine lv_iconst (v := 5) hx hb dL_law_408 (by decide) ?_
  refine lv_iadd hx hb dL_law_409 ?_
  refine va_sld hx hb hX hbl hbA hH.2 h5 dL_law_410 ?_
  refine iv_L_36 l X hH hRL (by decide) e2 hl.1 (Nat.le_of_ble_eq_true rfl) dL_law_411 ⟨by have := hcs.1; omega, by have := hcs.2; omega⟩ (fun H locs hH => ?_)
  refine lv_icmp_eq (tgt := 1319) hx hb dL_law_414 (by decide) (fun _ => ?_) (fun hc => ?_)
  · refine W.widen (k := cells + 42) (n := slots + 84) (by omega) (by omega) ?_
    exact kk _ _ _ hI2 hH
  · exact absurd rfl hc
set_option maxHeartbeats 4000000 in
set_option maxRecDepth 100000 in
theorem lc_mean {p : Program} {e : Env} {s : State} {m : MethodId} {below : List Frame} {meth : Method} {c : Code} {Q : State → Prop} {G : CG} {b L : Nat} {xs : Nat → Int32} (l : Launch) (I : Mm → Nat → Nat → Prop) (hS : PS_mean I) (X : Cx p s m #[Value.ref b] meth c cL_law 4 RL G) (hRL : RmL room_1 31) (hX : va_X b L xs s s.heap) (hbl : b < s.heap.size) (hbA : ¬ fA G b) {x3 : Int32} (h1 : vp_in (x3 + 1) L) (h2 : vp_in (x3 + 2) L) (h3 : vp_in (x3 + 3) L) (h4 : vp_in (x3 + 4) L) (h5 : vp_in (x3 + 5) L) {a1 a2 : Nat} {μ : Mm} {H : Heap} {locs : List Loc} {ls : Array Slot} {cells slots : Nat} (hI : I μ a1 a2) (hH : HS G s μ H locs) (hl : lv_has ls 4 [(0, .ref b), (1, .ref a1), (2, .ref a2), (3, .int x3)]) (hcs : cells + 42 ≤ room_1.cells ∧ slots + 84 ≤ room_1.slots) (kk : ∀ (μ2 : Mm) (H : Heap) (locs : List Loc), I μ2 a1 a2 → HS G s μ2 H locs → W p l e room_1 s m #[Value.ref b] below meth c H locs (cells + 42) (slots + 84) Q (F0 m 1319 ls [])) : W p l e room_1 s m #[Value.ref b] below meth c H locs cells slots Q (F0 m 419 ls []) := by
  have hx := X.1
  have hb := X.2.1
  obtain ⟨r, μ1, μ2, e1, e2, hI2⟩ := hS μ a1 a2 (xs (x3 + 1).toNatClampNeg) hI
  refine lv_aload_n hx hb dL_law_419 rfl (lv_at hl 1 rfl) ?_
  refine lv_aload_n hx hb dL_law_420 rfl (lv_at hl 0 rfl) ?_
  refine lv_iload_n hx hb dL_law_421 rfl (lv_at hl 3 rfl) ?_
  refine lv_iconst (v := 1) hx hb dL_law_422 (by decide) ?_
  refine lv_iadd hx hb dL_law_423 ?_
  refine va_sld hx hb hX hbl hbA hH.2 h1 dL_law_424 ?_
  refine iv_L_37 l X hH hRL (by decide) e1 hl.1 (Nat.le_of_ble_eq_true rfl) dL_law_425 ⟨by have := hcs.1; omega, by have := hcs.2; omega⟩ (fun H locs hH => ?_)
  refine lv_aload_n hx hb dL_law_428 rfl (lv_at hl 2 rfl) ?_
  refine lv_aload_n hx hb dL_law_429 rfl (lv_at hl 0 rfl) ?_
  refine lv_iload_n hx hb dL_law_430 rfl (lv_at hl 3 rfl) ?_
  refine lv_iconst (v := 1) hx hb dL_law_431 (by decide) ?_
  refine lv_iadd hx hb dL_law_432 ?_
  refine va_sld hx hb hX hbl hbA hH.2 h1 dL_law_433 ?_
  refine iv_L_40 l X hH hRL (by decide) e2 hl.1 (Nat.le_of_ble_eq_true rfl) dL_law_434 ⟨by have := hcs.1; omega, by have := hcs.2; omega⟩ (fun H locs hH => ?_)
  refine lv_icmp_eq (tgt := 1319) hx hb dL_law_437 (by decide) (fun _ => ?_) (fun hc => ?_)
  · refine W.widen (k := cells + 42) (n := slots + 84) (by omega) (by omega) ?_
    exact kk _ _ _ hI2 hH
  · exact absurd rfl hc
set_option maxHeartbeats 4000000 in
set_option maxRecDepth 100000 in
theorem lc_text {p : Program} {e : Env} {s : State} {m : MethodId} {below : List Frame} {meth : Method} {c : Code} {Q : State → Prop} {G : CG} {b L : Nat} {xs : Nat → Int32} (l : Launch) (I : Mm → Nat → Nat → Prop) (hS : PS_text I) (X : Cx p s m #[Value.ref b] meth c cL_law 4 RL G) (hRL : RmL room_1 31) (hX : va_X b L xs s s.heap) (hbl : b < s.heap.size) (hbA : ¬ fA G b) {x3 : Int32} (h1 : vp_in (x3 + 1) L) (h2 : vp_in (x3 + 2) L) (h3 : vp_in (x3 + 3) L) (h4 : vp_in (x3 + 4) L) (h5 : vp_in (x3 + 5) L) {a1 a2 : Nat} {μ : Mm} {H : Heap} {locs : List Loc} {ls : Array Slot} {cells slots : Nat} (hI : I μ a1 a2) (hH : HS G s μ H locs) (hl : lv_has ls 4 [(0, .ref b), (1, .ref a1), (2, .ref a2), (3, .int x3)]) (hcs : cells + 42 ≤ room_1.cells ∧ slots + 84 ≤ room_1.slots) (kk : ∀ (μ2 : Mm) (H : Heap) (locs : List Loc), I μ2 a1 a2 → HS G s μ2 H locs → W p l e room_1 s m #[Value.ref b] below meth c H locs (cells + 42) (slots + 84) Q (F0 m 1319 ls [])) : W p l e room_1 s m #[Value.ref b] below meth c H locs cells slots Q (F0 m 442 ls []) := by
  have hx := X.1
  have hb := X.2.1
  obtain ⟨r, μ1, μ2, e1, e2, hI2⟩ := hS μ a1 a2 (xs (x3 + 1).toNatClampNeg) (xs (x3 + 2).toNatClampNeg) hI
  refine lv_aload_n hx hb dL_law_442 rfl (lv_at hl 1 rfl) ?_
  refine lv_aload_n hx hb dL_law_443 rfl (lv_at hl 0 rfl) ?_
  refine lv_iload_n hx hb dL_law_444 rfl (lv_at hl 3 rfl) ?_
  refine lv_iconst (v := 1) hx hb dL_law_445 (by decide) ?_
  refine lv_iadd hx hb dL_law_446 ?_
  refine va_sld hx hb hX hbl hbA hH.2 h1 dL_law_447 ?_
  refine lv_aload_n hx hb dL_law_448 rfl (lv_at hl 0 rfl) ?_
  refine lv_iload_n hx hb dL_law_449 rfl (lv_at hl 3 rfl) ?_
  refine lv_iconst (v := 2) hx hb dL_law_450 (by decide) ?_
  refine lv_iadd hx hb dL_law_451 ?_
  refine va_sld hx hb hX hbl hbA hH.2 h2 dL_law_452 ?_
  refine iv_L_41 l X hH hRL (by decide) e1 hl.1 (Nat.le_of_ble_eq_true rfl) dL_law_453 ⟨by have := hcs.1; omega, by have := hcs.2; omega⟩ (fun H locs hH => ?_)
  refine lv_aload_n hx hb dL_law_456 rfl (lv_at hl 2 rfl) ?_
  refine lv_aload_n hx hb dL_law_457 rfl (lv_at hl 0 rfl) ?_
  refine lv_iload_n hx hb dL_law_458 rfl (lv_at hl 3 rfl) ?_
  refine lv_iconst (v := 1) hx hb dL_law_459 (by decide) ?_
  refine lv_iadd hx hb dL_law_460 ?_
  refine va_sld hx hb hX hbl hbA hH.2 h1 dL_law_461 ?_
  refine lv_aload_n hx hb dL_law_462 rfl (lv_at hl 0 rfl) ?_
  refine lv_iload_n hx hb dL_law_463 rfl (lv_at hl 3 rfl) ?_
  refine lv_iconst (v := 2) hx hb dL_law_464 (by decide) ?_
  refine lv_iadd hx hb dL_law_465 ?_
  refine va_sld hx hb hX hbl hbA hH.2 h2 dL_law_466 ?_
  refine iv_L_44 l X hH hRL (by decide) e2 hl.1 (Nat.le_of_ble_eq_true rfl) dL_law_467 ⟨by have := hcs.1; omega, by have := hcs.2; omega⟩ (fun H locs hH => ?_)
  refine lv_icmp_eq (tgt := 1319) hx hb dL_law_470 (by decide) (fun _ => ?_) (fun hc => ?_)
  · refine W.widen (k := cells + 42) (n := slots + 84) (by omega) (by omega) ?_
    exact kk _ _ _ hI2 hH
  · exact absurd rfl hc
set_option maxHeartbeats 4000000 in
set_option maxRecDepth 100000 in
theorem lc_put {p : Program} {e : Env} {s : State} {m : MethodId} {below : List Frame} {meth : Method} {c : Code} {Q : State → Prop} {G : CG} {b L : Nat} {xs : Nat → Int32} (l : Launch) (I : Mm → Nat → Nat → Prop) (hS : PS_put I) (X : Cx p s m #[Value.ref b] meth c cL_law 4 RL G) (hRL : RmL room_1 31) (hX : va_X b L xs s s.heap) (hbl : b < s.heap.size) (hbA : ¬ fA G b) {x3 : Int32} (h1 : vp_in (x3 + 1) L) (h2 : vp_in (x3 + 2) L) (h3 : vp_in (x3 + 3) L) (h4 : vp_in (x3 + 4) L) (h5 : vp_in (x3 + 5) L) {a1 a2 : Nat} {μ : Mm} {H : Heap} {locs : List Loc} {ls : Array Slot} {cells slots : Nat} (hI : I μ a1 a2) (hH : HS G s μ H locs) (hl : lv_has ls 4 [(0, .ref b), (1, .ref a1), (2, .ref a2), (3, .int x3)]) (hcs : cells + 42 ≤ room_1.cells ∧ slots + 84 ≤ room_1.slots) (kk : ∀ (μ2 : Mm) (H : Heap) (locs : List Loc), I μ2 a1 a2 → HS G s μ2 H locs → W p l e room_1 s m #[Value.ref b] below meth c H locs (cells + 42) (slots + 84) Q (F0 m 1319 ls [])) : W p l e room_1 s m #[Value.ref b] below meth c H locs cells slots Q (F0 m 475 ls []) := by
  have hx := X.1
  have hb := X.2.1
  obtain ⟨r, μ1, μ2, e1, e2, hI2⟩ := hS μ a1 a2 (xs (x3 + 1).toNatClampNeg) (xs (x3 + 2).toNatClampNeg) (xs (x3 + 3).toNatClampNeg) hI
  refine lv_aload_n hx hb dL_law_475 rfl (lv_at hl 1 rfl) ?_
  refine lv_aload_n hx hb dL_law_476 rfl (lv_at hl 0 rfl) ?_
  refine lv_iload_n hx hb dL_law_477 rfl (lv_at hl 3 rfl) ?_
  refine lv_iconst (v := 1) hx hb dL_law_478 (by decide) ?_
  refine lv_iadd hx hb dL_law_479 ?_
  refine va_sld hx hb hX hbl hbA hH.2 h1 dL_law_480 ?_
  refine lv_aload_n hx hb dL_law_481 rfl (lv_at hl 0 rfl) ?_
  refine lv_iload_n hx hb dL_law_482 rfl (lv_at hl 3 rfl) ?_
  refine lv_iconst (v := 2) hx hb dL_law_483 (by decide) ?_
  refine lv_iadd hx hb dL_law_484 ?_
  refine va_sld hx hb hX hbl hbA hH.2 h2 dL_law_485 ?_
  refine lv_aload_n hx hb dL_law_486 rfl (lv_at hl 0 rfl) ?_
  refine lv_iload_n hx hb dL_law_487 rfl (lv_at hl 3 rfl) ?_
  refine lv_iconst (v := 3) hx hb dL_law_488 (by decide) ?_
  refine lv_iadd hx hb dL_law_489 ?_
  refine va_sld hx hb hX hbl hbA hH.2 h3 dL_law_490 ?_
  refine iv_L_45 l X hH hRL (by decide) e1 hl.1 (Nat.le_of_ble_eq_true rfl) dL_law_491 ⟨by have := hcs.1; omega, by have := hcs.2; omega⟩ (fun H locs hH => ?_)
  refine lv_aload_n hx hb dL_law_494 rfl (lv_at hl 2 rfl) ?_
  refine lv_aload_n hx hb dL_law_495 rfl (lv_at hl 0 rfl) ?_
  refine lv_iload_n hx hb dL_law_496 rfl (lv_at hl 3 rfl) ?_
  refine lv_iconst (v := 1) hx hb dL_law_497 (by decide) ?_
  refine lv_iadd hx hb dL_law_498 ?_
  refine va_sld hx hb hX hbl hbA hH.2 h1 dL_law_499 ?_
  refine lv_aload_n hx hb dL_law_500 rfl (lv_at hl 0 rfl) ?_
  refine lv_iload_n hx hb dL_law_501 rfl (lv_at hl 3 rfl) ?_
  refine lv_iconst (v := 2) hx hb dL_law_502 (by decide) ?_
  refine lv_iadd hx hb dL_law_503 ?_
  refine va_sld hx hb hX hbl hbA hH.2 h2 dL_law_504 ?_
  refine lv_aload_n hx hb dL_law_505 rfl (lv_at hl 0 rfl) ?_
  refine lv_iload_n hx hb dL_law_506 rfl (lv_at hl 3 rfl) ?_
  refine lv_iconst (v := 3) hx hb dL_law_507 (by decide) ?_
  refine lv_iadd hx hb dL_law_508 ?_
  refine va_sld hx hb hX hbl hbA hH.2 h3 dL_law_509 ?_
  refine iv_L_48 l X hH hRL (by decide) e2 hl.1 (Nat.le_of_ble_eq_true rfl) dL_law_510 ⟨by have := hcs.1; omega, by have := hcs.2; omega⟩ (fun H locs hH => ?_)
  refine lv_icmp_eq (tgt := 1319) hx hb dL_law_513 (by decide) (fun _ => ?_) (fun hc => ?_)
  · refine W.widen (k := cells + 42) (n := slots + 84) (by omega) (by omega) ?_
    exact kk _ _ _ hI2 hH
  · exact absurd rfl hc
set_option maxHeartbeats 4000000 in
set_option maxRecDepth 100000 in
theorem lc_fault {p : Program} {e : Env} {s : State} {m : MethodId} {below : List Frame} {meth : Method} {c : Code} {Q : State → Prop} {G : CG} {b L : Nat} {xs : Nat → Int32} (l : Launch) (I : Mm → Nat → Nat → Prop) (hS : PS_fault I) (X : Cx p s m #[Value.ref b] meth c cL_law 4 RL G) (hRL : RmL room_1 31) (hX : va_X b L xs s s.heap) (hbl : b < s.heap.size) (hbA : ¬ fA G b) {x3 : Int32} (h1 : vp_in (x3 + 1) L) (h2 : vp_in (x3 + 2) L) (h3 : vp_in (x3 + 3) L) (h4 : vp_in (x3 + 4) L) (h5 : vp_in (x3 + 5) L) {a1 a2 : Nat} {μ : Mm} {H : Heap} {locs : List Loc} {ls : Array Slot} {cells slots : Nat} (hI : I μ a1 a2) (hH : HS G s μ H locs) (hl : lv_has ls 4 [(0, .ref b), (1, .ref a1), (2, .ref a2), (3, .int x3)]) (hcs : cells + 42 ≤ room_1.cells ∧ slots + 84 ≤ room_1.slots) (kk : ∀ (μ2 : Mm) (H : Heap) (locs : List Loc), I μ2 a1 a2 → HS G s μ2 H locs → W p l e room_1 s m #[Value.ref b] below meth c H locs (cells + 42) (slots + 84) Q (F0 m 1319 ls [])) : W p l e room_1 s m #[Value.ref b] below meth c H locs cells slots Q (F0 m 518 ls []) := by
  have hx := X.1
  have hb := X.2.1
  obtain ⟨r, μ1, μ2, e1, e2, hI2⟩ := hS μ a1 a2 (xs (x3 + 1).toNatClampNeg) hI
  refine lv_aload_n hx hb dL_law_518 rfl (lv_at hl 1 rfl) ?_
  refine lv_aload_n hx hb dL_law_519 rfl (lv_at hl 0 rfl) ?_
  refine lv_iload_n hx hb dL_law_520 rfl (lv_at hl 3 rfl) ?_
  refine lv_iconst (v := 1) hx hb dL_law_521 (by decide) ?_
  refine lv_iadd hx hb dL_law_522 ?_
  refine va_sld hx hb hX hbl hbA hH.2 h1 dL_law_523 ?_
  refine iv_L_49 l X hH hRL (by decide) e1 hl.1 (Nat.le_of_ble_eq_true rfl) dL_law_524 ⟨by have := hcs.1; omega, by have := hcs.2; omega⟩ (fun H locs hH => ?_)
  refine lv_aload_n hx hb dL_law_527 rfl (lv_at hl 2 rfl) ?_
  refine lv_aload_n hx hb dL_law_528 rfl (lv_at hl 0 rfl) ?_
  refine lv_iload_n hx hb dL_law_529 rfl (lv_at hl 3 rfl) ?_
  refine lv_iconst (v := 1) hx hb dL_law_530 (by decide) ?_
  refine lv_iadd hx hb dL_law_531 ?_
  refine va_sld hx hb hX hbl hbA hH.2 h1 dL_law_532 ?_
  refine iv_L_52 l X hH hRL (by decide) e2 hl.1 (Nat.le_of_ble_eq_true rfl) dL_law_533 ⟨by have := hcs.1; omega, by have := hcs.2; omega⟩ (fun H locs hH => ?_)
  refine lv_icmp_eq (tgt := 1319) hx hb dL_law_536 (by decide) (fun _ => ?_) (fun hc => ?_)
  · refine W.widen (k := cells + 42) (n := slots + 84) (by omega) (by omega) ?_
    exact kk _ _ _ hI2 hH
  · exact absurd rfl hc
set_option maxHeartbeats 4000000 in
set_option maxRecDepth 100000 in
theorem lc_hall {p : Program} {e : Env} {s : State} {m : MethodId} {below : List Frame} {meth : Method} {c : Code} {Q : State → Prop} {G : CG} {b L : Nat} {xs : Nat → Int32} (l : Launch) (I : Mm → Nat → Nat → Prop) (hS : PS_hall I) (X : Cx p s m #[Value.ref b] meth c cL_law 4 RL G) (hRL : RmL room_1 31) (hX : va_X b L xs s s.heap) (hbl : b < s.heap.size) (hbA : ¬ fA G b) {x3 : Int32} (h1 : vp_in (x3 + 1) L) (h2 : vp_in (x3 + 2) L) (h3 : vp_in (x3 + 3) L) (h4 : vp_in (x3 + 4) L) (h5 : vp_in (x3 + 5) L) {a1 a2 : Nat} {μ : Mm} {H : Heap} {locs : List Loc} {ls : Array Slot} {cells slots : Nat} (hI : I μ a1 a2) (hH : HS G s μ H locs) (hl : lv_has ls 4 [(0, .ref b), (1, .ref a1), (2, .ref a2), (3, .int x3)]) (hcs : cells + 42 ≤ room_1.cells ∧ slots + 84 ≤ room_1.slots) (kk : ∀ (μ2 : Mm) (H : Heap) (locs : List Loc), I μ2 a1 a2 → HS G s μ2 H locs → W p l e room_1 s m #[Value.ref b] below meth c H locs (cells + 42) (slots + 84) Q (F0 m 1319 ls [])) : W p l e room_1 s m #[Value.ref b] below meth c H locs cells slots Q (F0 m 541 ls []) := by
  have hx := X.1
  have hb := X.2.1
  obtain ⟨r, μ1, μ2, e1, e2, hI2⟩ := hS μ a1 a2 (xs (x3 + 1).toNatClampNeg) hI
  refine lv_aload_n hx hb dL_law_541 rfl (lv_at hl 1 rfl) ?_
  refine lv_aload_n hx hb dL_law_542 rfl (lv_at hl 0 rfl) ?_
  refine lv_iload_n hx hb dL_law_543 rfl (lv_at hl 3 rfl) ?_
  refine lv_iconst (v := 1) hx hb dL_law_544 (by decide) ?_
  refine lv_iadd hx hb dL_law_545 ?_
  refine va_sld hx hb hX hbl hbA hH.2 h1 dL_law_546 ?_
  refine iv_L_53 l X hH hRL (by decide) e1 hl.1 (Nat.le_of_ble_eq_true rfl) dL_law_547 ⟨by have := hcs.1; omega, by have := hcs.2; omega⟩ (fun H locs hH => ?_)
  refine lv_aload_n hx hb dL_law_550 rfl (lv_at hl 2 rfl) ?_
  refine lv_aload_n hx hb dL_law_551 rfl (lv_at hl 0 rfl) ?_
  refine lv_iload_n hx hb dL_law_552 rfl (lv_at hl 3 rfl) ?_
  refine lv_iconst (v := 1) hx hb dL_law_553 (by decide) ?_
  refine lv_iadd hx hb dL_law_554 ?_
  refine va_sld hx hb hX hbl hbA hH.2 h1 dL_law_555 ?_
  refine iv_L_56 l X hH hRL (by decide) e2 hl.1 (Nat.le_of_ble_eq_true rfl) dL_law_556 ⟨by have := hcs.1; omega, by have := hcs.2; omega⟩ (fun H locs hH => ?_)
  refine lv_icmp_eq (tgt := 1319) hx hb dL_law_559 (by decide) (fun _ => ?_) (fun hc => ?_)
  · refine W.widen (k := cells + 42) (n := slots + 84) (by omega) (by omega) ?_
    exact kk _ _ _ hI2 hH
  · exact absurd rfl hc
set_option maxHeartbeats 4000000 in
set_option maxRecDepth 100000 in
theorem lc_guild {p : Program} {e : Env} {s : State} {m : MethodId} {below : List Frame} {meth : Method} {c : Code} {Q : State → Prop} {G : CG} {b L : Nat} {xs : Nat → Int32} (l : Launch) (I : Mm → Nat → Nat → Prop) (hS : PS_guild I) (X : Cx p s m #[Value.ref b] meth c cL_law 4 RL G) (hRL : RmL room_1 31) (hX : va_X b L xs s s.heap) (hbl : b < s.heap.size) (hbA : ¬ fA G b) {x3 : Int32} (h1 : vp_in (x3 + 1) L) (h2 : vp_in (x3 + 2) L) (h3 : vp_in (x3 + 3) L) (h4 : vp_in (x3 + 4) L) (h5 : vp_in (x3 + 5) L) {a1 a2 : Nat} {μ : Mm} {H : Heap} {locs : List Loc} {ls : Array Slot} {cells slots : Nat} (hI : I μ a1 a2) (hH : HS G s μ H locs) (hl : lv_has ls 4 [(0, .ref b), (1, .ref a1), (2, .ref a2), (3, .int x3)]) (hcs : cells + 42 ≤ room_1.cells ∧ slots + 84 ≤ room_1.slots) (kk : ∀ (μ2 : Mm) (H : Heap) (locs : List Loc), I μ2 a1 a2 → HS G s μ2 H locs → W p l e room_1 s m #[Value.ref b] below meth c H locs (cells + 42) (slots + 84) Q (F0 m 1319 ls [])) : W p l e room_1 s m #[Value.ref b] below meth c H locs cells slots Q (F0 m 564 ls []) := by
  have hx := X.1
  have hb := X.2.1
  obtain ⟨r, μ1, μ2, e1, e2, hI2⟩ := hS μ a1 a2 (xs (x3 + 1).toNatClampNeg) (xs (x3 + 2).toNatClampNeg) hI
  refine lv_aload_n hx hb dL_law_564 rfl (lv_at hl 1 rfl) ?_
  refine lv_aload_n hx hb dL_law_565 rfl (lv_at hl 0 rfl) ?_
  refine lv_iload_n hx hb dL_law_566 rfl (lv_at hl 3 rfl) ?_
  refine lv_iconst (v := 1) hx hb dL_law_567 (by decide) ?_
  refine lv_iadd hx hb dL_law_568 ?_
  refine va_sld hx hb hX hbl hbA hH.2 h1 dL_law_569 ?_
  refine lv_aload_n hx hb dL_law_570 rfl (lv_at hl 0 rfl) ?_
  refine lv_iload_n hx hb dL_law_571 rfl (lv_at hl 3 rfl) ?_
  refine lv_iconst (v := 2) hx hb dL_law_572 (by decide) ?_
  refine lv_iadd hx hb dL_law_573 ?_
  refine va_sld hx hb hX hbl hbA hH.2 h2 dL_law_574 ?_
  refine iv_L_57 l X hH hRL (by decide) e1 hl.1 (Nat.le_of_ble_eq_true rfl) dL_law_575 ⟨by have := hcs.1; omega, by have := hcs.2; omega⟩ (fun H locs hH => ?_)
  refine lv_aload_n hx hb dL_law_578 rfl (lv_at hl 2 rfl) ?_
  refine lv_aload_n hx hb dL_law_579 rfl (lv_at hl 0 rfl) ?_
  refine lv_iload_n hx hb dL_law_580 rfl (lv_at hl 3 rfl) ?_
  refine lv_iconst (v := 1) hx hb dL_law_581 (by decide) ?_
  refine lv_iadd hx hb dL_law_582 ?_
  refine va_sld hx hb hX hbl hbA hH.2 h1 dL_law_583 ?_
  refine lv_aload_n hx hb dL_law_584 rfl (lv_at hl 0 rfl) ?_
  refine lv_iload_n hx hb dL_law_585 rfl (lv_at hl 3 rfl) ?_
  refine lv_iconst (v := 2) hx hb dL_law_586 (by decide) ?_
  refine lv_iadd hx hb dL_law_587 ?_
  refine va_sld hx hb hX hbl hbA hH.2 h2 dL_law_588 ?_
  refine iv_L_60 l X hH hRL (by decide) e2 hl.1 (Nat.le_of_ble_eq_true rfl) dL_law_589 ⟨by have := hcs.1; omega, by have := hcs.2; omega⟩ (fun H locs hH => ?_)
  refine lv_icmp_eq (tgt := 1319) hx hb dL_law_592 (by decide) (fun _ => ?_) (fun hc => ?_)
  · refine W.widen (k := cells + 42) (n := slots + 84) (by omega) (by omega) ?_
    exact kk _ _ _ hI2 hH
  · exact absurd rfl hc
set_option maxHeartbeats 4000000 in
set_option maxRecDepth 100000 in
theorem lc_mark {p : Program} {e : Env} {s : State} {m : MethodId} {below : List Frame} {meth : Method} {c : Code} {Q : State → Prop} {G : CG} {b L : Nat} {xs : Nat → Int32} (l : Launch) (I : Mm → Nat → Nat → Prop) (hS : PS_mark I) (X : Cx p s m #[Value.ref b] meth c cL_law 4 RL G) (hRL : RmL room_1 31) (hX : va_X b L xs s s.heap) (hbl : b < s.heap.size) (hbA : ¬ fA G b) {x3 : Int32} (h1 : vp_in (x3 + 1) L) (h2 : vp_in (x3 + 2) L) (h3 : vp_in (x3 + 3) L) (h4 : vp_in (x3 + 4) L) (h5 : vp_in (x3 + 5) L) {a1 a2 : Nat} {μ : Mm} {H : Heap} {locs : List Loc} {ls : Array Slot} {cells slots : Nat} (hI : I μ a1 a2) (hH : HS G s μ H locs) (hl : lv_has ls 4 [(0, .ref b), (1, .ref a1), (2, .ref a2), (3, .int x3)]) (hcs : cells + 42 ≤ room_1.cells ∧ slots + 84 ≤ room_1.slots) (kk : ∀ (μ2 : Mm) (H : Heap) (locs : List Loc), I μ2 a1 a2 → HS G s μ2 H locs → W p l e room_1 s m #[Value.ref b] below meth c H locs (cells + 42) (slots + 84) Q (F0 m 1319 ls [])) : W p l e room_1 s m #[Value.ref b] below meth c H locs cells slots Q (F0 m 597 ls []) := by
  have hx := X.1
  have hb := X.2.1
  obtain ⟨r, μ1, μ2, e1, e2, hI2⟩ := hS μ a1 a2 (xs (x3 + 1).toNatClampNeg) (xs (x3 + 2).toNatClampNeg) hI
  refine lv_aload_n hx hb dL_law_597 rfl (lv_at hl 1 rfl) ?_
  refine lv_aload_n hx hb dL_law_598 rfl (lv_at hl 0 rfl) ?_
  refine lv_iload_n hx hb dL_law_599 rfl (lv_at hl 3 rfl) ?_
  refine lv_iconst (v := 1) hx hb dL_law_600 (by decide) ?_
  refine lv_iadd hx hb dL_law_601 ?_
  refine va_sld hx hb hX hbl hbA hH.2 h1 dL_law_602 ?_
  refine lv_aload_n hx hb dL_law_603 rfl (lv_at hl 0 rfl) ?_
  refine lv_iload_n hx hb dL_law_604 rfl (lv_at hl 3 rfl) ?_
  refine lv_iconst (v := 2) hx hb dL_law_605 (by decide) ?_
  refine lv_iadd hx hb dL_law_606 ?_
  refine va_sld hx hb hX hbl hbA hH.2 h2 dL_law_607 ?_
  refine iv_L_61 l X hH hRL (by decide) e1 hl.1 (Nat.le_of_ble_eq_true rfl) dL_law_608 ⟨by have := hcs.1; omega, by have := hcs.2; omega⟩ (fun H locs hH => ?_)
  refine lv_aload_n hx hb dL_law_611 rfl (lv_at hl 2 rfl) ?_
  refine lv_aload_n hx hb dL_law_612 rfl (lv_at hl 0 rfl) ?_
  refine lv_iload_n hx hb dL_law_613 rfl (lv_at hl 3 rfl) ?_
  refine lv_iconst (v := 1) hx hb dL_law_614 (by decide) ?_
  refine lv_iadd hx hb dL_law_615 ?_
  refine va_sld hx hb hX hbl hbA hH.2 h1 dL_law_616 ?_
  refine lv_aload_n hx hb dL_law_617 rfl (lv_at hl 0 rfl) ?_
  refine lv_iload_n hx hb dL_law_618 rfl (lv_at hl 3 rfl) ?_
  refine lv_iconst (v := 2) hx hb dL_law_619 (by decide) ?_
  refine lv_iadd hx hb dL_law_620 ?_
  refine va_sld hx hb hX hbl hbA hH.2 h2 dL_law_621 ?_
  refine iv_L_64 l X hH hRL (by decide) e2 hl.1 (Nat.le_of_ble_eq_true rfl) dL_law_622 ⟨by have := hcs.1; omega, by have := hcs.2; omega⟩ (fun H locs hH => ?_)
  refine lv_icmp_eq (tgt := 1319) hx hb dL_law_625 (by decide) (fun _ => ?_) (fun hc => ?_)
  · refine W.widen (k := cells + 42) (n := slots + 84) (by omega) (by omega) ?_
    exact kk _ _ _ hI2 hH
  · exact absurd rfl hc
set_option maxHeartbeats 4000000 in
set_option maxRecDepth 100000 in
theorem lc_shoe {p : Program} {e : Env} {s : State} {m : MethodId} {below : List Frame} {meth : Method} {c : Code} {Q : State → Prop} {G : CG} {b L : Nat} {xs : Nat → Int32} (l : Launch) (I : Mm → Nat → Nat → Prop) (hS : PS_shoe I) (X : Cx p s m #[Value.ref b] meth c cL_law 4 RL G) (hRL : RmL room_1 31) (hX : va_X b L xs s s.heap) (hbl : b < s.heap.size) (hbA : ¬ fA G b) {x3 : Int32} (h1 : vp_in (x3 + 1) L) (h2 : vp_in (x3 + 2) L) (h3 : vp_in (x3 + 3) L) (h4 : vp_in (x3 + 4) L) (h5 : vp_in (x3 + 5) L) {a1 a2 : Nat} {μ : Mm} {H : Heap} {locs : List Loc} {ls : Array Slot} {cells slots : Nat} (hI : I μ a1 a2) (hH : HS G s μ H locs) (hl : lv_has ls 4 [(0, .ref b), (1, .ref a1), (2, .ref a2), (3, .int x3)]) (hcs : cells + 42 ≤ room_1.cells ∧ slots + 84 ≤ room_1.slots) (kk : ∀ (μ2 : Mm) (H : Heap) (locs : List Loc), I μ2 a1 a2 → HS G s μ2 H locs → W p l e room_1 s m #[Value.ref b] below meth c H locs (cells + 42) (slots + 84) Q (F0 m 1319 ls [])) : W p l e room_1 s m #[Value.ref b] below meth c H locs cells slots Q (F0 m 630 ls []) := by
  have hx := X.1
  have hb := X.2.1
  obtain ⟨r, μ1, μ2, e1, e2, hI2⟩ := hS μ a1 a2 (xs (x3 + 1).toNatClampNeg) (xs (x3 + 2).toNatClampNeg) hI
  refine lv_aload_n hx hb dL_law_630 rfl (lv_at hl 1 rfl) ?_
  refine lv_aload_n hx hb dL_law_631 rfl (lv_at hl 0 rfl) ?_
  refine lv_iload_n hx hb dL_law_632 rfl (lv_at hl 3 rfl) ?_
  refine lv_iconst (v := 1) hx hb dL_law_633 (by decide) ?_
  refine lv_iadd hx hb dL_law_634 ?_
  refine va_sld hx hb hX hbl hbA hH.2 h1 dL_law_635 ?_
  refine lv_aload_n hx hb dL_law_636 rfl (lv_at hl 0 rfl) ?_
  refine lv_iload_n hx hb dL_law_637 rfl (lv_at hl 3 rfl) ?_
  refine lv_iconst (v := 2) hx hb dL_law_638 (by decide) ?_
  refine lv_iadd hx hb dL_law_639 ?_
  refine va_sld hx hb hX hbl hbA hH.2 h2 dL_law_640 ?_
  refine iv_L_65 l X hH hRL (by decide) e1 hl.1 (Nat.le_of_ble_eq_true rfl) dL_law_641 ⟨by have := hcs.1; omega, by have := hcs.2; omega⟩ (fun H locs hH => ?_)
  refine lv_aload_n hx hb dL_law_644 rfl (lv_at hl 2 rfl) ?_
  refine lv_aload_n hx hb dL_law_645 rfl (lv_at hl 0 rfl) ?_
  refine lv_iload_n hx hb dL_law_646 rfl (lv_at hl 3 rfl) ?_
  refine lv_iconst (v := 1) hx hb dL_law_647 (by decide) ?_
  refine lv_iadd hx hb dL_law_648 ?_
  refine va_sld hx hb hX hbl hbA hH.2 h1 dL_law_649 ?_
  refine lv_aload_n hx hb dL_law_650 rfl (lv_at hl 0 rfl) ?_
  refine lv_iload_n hx hb dL_law_651 rfl (lv_at hl 3 rfl) ?_
  refine lv_iconst (v := 2) hx hb dL_law_652 (by decide) ?_
  refine lv_iadd hx hb dL_law_653 ?_
  refine va_sld hx hb hX hbl hbA hH.2 h2 dL_law_654 ?_
  refine iv_L_68 l X hH hRL (by decide) e2 hl.1 (Nat.le_of_ble_eq_true rfl) dL_law_655 ⟨by have := hcs.1; omega, by have := hcs.2; omega⟩ (fun H locs hH => ?_)
  refine lv_icmp_eq (tgt := 1319) hx hb dL_law_658 (by decide) (fun _ => ?_) (fun hc => ?_)
  · refine W.widen (k := cells + 42) (n := slots + 84) (by omega) (by omega) ?_
    exact kk _ _ _ hI2 hH
  · exact absurd rfl hc
set_option maxHeartbeats 4000000 in
set_option maxRecDepth 100000 in
theorem lc_walk {p : Program} {e : Env} {s : State} {m : MethodId} {below : List Frame} {meth : Method} {c : Code} {Q : State → Prop} {G : CG} {b L : Nat} {xs : Nat → Int32} (l : Launch) (I : Mm → Nat → Nat → Prop) (hS : PS_walk I) (X : Cx p s m #[Value.ref b] meth c cL_law 4 RL G) (hRL : RmL room_1 31) (hX : va_X b L xs s s.heap) (hbl : b < s.heap.size) (hbA : ¬ fA G b) {x3 : Int32} (h1 : vp_in (x3 + 1) L) (h2 : vp_in (x3 + 2) L) (h3 : vp_in (x3 + 3) L) (h4 : vp_in (x3 + 4) L) (h5 : vp_in (x3 + 5) L) {a1 a2 : Nat} {μ : Mm} {H : Heap} {locs : List Loc} {ls : Array Slot} {cells slots : Nat} (hI : I μ a1 a2) (hH : HS G s μ H locs) (hl : lv_has ls 4 [(0, .ref b), (1, .ref a1), (2, .ref a2), (3, .int x3)]) (hcs : cells + 42 ≤ room_1.cells ∧ slots + 84 ≤ room_1.slots) (kk : ∀ (μ2 : Mm) (H : Heap) (locs : List Loc), I μ2 a1 a2 → HS G s μ2 H locs → W p l e room_1 s m #[Value.ref b] below meth c H locs (cells + 42) (slots + 84) Q (F0 m 1319 ls [])) : W p l e room_1 s m #[Value.ref b] below meth c H locs cells slots Q (F0 m 663 ls []) := by
  have hx := X.1
  have hb := X.2.1
  obtain ⟨r, μ1, μ2, e1, e2, hI2⟩ := hS μ a1 a2 (xs (x3 + 1).toNatClampNeg) hI
  refine lv_aload_n hx hb dL_law_663 rfl (lv_at hl 1 rfl) ?_
  refine lv_aload_n hx hb dL_law_664 rfl (lv_at hl 0 rfl) ?_
  refine lv_iload_n hx hb dL_law_665 rfl (lv_at hl 3 rfl) ?_
  refine lv_iconst (v := 1) hx hb dL_law_666 (by decide) ?_
  refine lv_iadd hx hb dL_law_667 ?_
  refine va_sld hx hb hX hbl hbA hH.2 h1 dL_law_668 ?_
  refine iv_L_69 l X hH hRL (by decide) e1 hl.1 (Nat.le_of_ble_eq_true rfl) dL_law_669 ⟨by have := hcs.1; omega, by have := hcs.2; omega⟩ (fun H locs hH => ?_)
  refine lv_aload_n hx hb dL_law_672 rfl (lv_at hl 2 rfl) ?_
  refine lv_aload_n hx hb dL_law_673 rfl (lv_at hl 0 rfl) ?_
  refine lv_iload_n hx hb dL_law_674 rfl (lv_at hl 3 rfl) ?_
  refine lv_iconst (v := 1) hx hb dL_law_675 (by decide) ?_
  refine lv_iadd hx hb dL_law_676 ?_
  refine va_sld hx hb hX hbl hbA hH.2 h1 dL_law_677 ?_
  refine iv_L_72 l X hH hRL (by decide) e2 hl.1 (Nat.le_of_ble_eq_true rfl) dL_law_678 ⟨by have := hcs.1; omega, by have := hcs.2; omega⟩ (fun H locs hH => ?_)
  refine lv_icmp_eq (tgt := 1319) hx hb dL_law_681 (by decide) (fun _ => ?_) (fun hc => ?_)
  · refine W.widen (k := cells + 42) (n := slots + 84) (by omega) (by omega) ?_
    exact kk _ _ _ hI2 hH
  · exact absurd rfl hc
set_option maxHeartbeats 4000000 in
set_option maxRecDepth 100000 in
theorem lc_floor {p : Program} {e : Env} {s : State} {m : MethodId} {below : List Frame} {meth : Method} {c : Code} {Q : State → Prop} {G : CG} {b L : Nat} {xs : Nat → Int32} (l : Launch) (I : Mm → Nat → Nat → Prop) (hS : PS_floor I) (X : Cx p s m #[Value.ref b] meth c cL_law 4 RL G) (hRL : RmL room_1 31) (hX : va_X b L xs s s.heap) (hbl : b < s.heap.size) (hbA : ¬ fA G b) {x3 : Int32} (h1 : vp_in (x3 + 1) L) (h2 : vp_in (x3 + 2) L) (h3 : vp_in (x3 + 3) L) (h4 : vp_in (x3 + 4) L) (h5 : vp_in (x3 + 5) L) {a1 a2 : Nat} {μ : Mm} {H : Heap} {locs : List Loc} {ls : Array Slot} {cells slots : Nat} (hI : I μ a1 a2) (hH : HS G s μ H locs) (hl : lv_has ls 4 [(0, .ref b), (1, .ref a1), (2, .ref a2), (3, .int x3)]) (hcs : cells + 42 ≤ room_1.cells ∧ slots + 84 ≤ room_1.slots) (kk : ∀ (μ2 : Mm) (H : Heap) (locs : List Loc), I μ2 a1 a2 → HS G s μ2 H locs → W p l e room_1 s m #[Value.ref b] below meth c H locs (cells + 42) (slots + 84) Q (F0 m 1319 ls [])) : W p l e room_1 s m #[Value.ref b] below meth c H locs cells slots Q (F0 m 686 ls []) := by
  have hx := X.1
  have hb := X.2.1
  obtain ⟨r, μ1, μ2, e1, e2, hI2⟩ := hS μ a1 a2 (xs (x3 + 1).toNatClampNeg) hI
  refine lv_aload_n hx hb dL_law_686 rfl (lv_at hl 1 rfl) ?_
  refine lv_aload_n hx hb dL_law_687 rfl (lv_at hl 0 rfl) ?_
  refine lv_iload_n hx hb dL_law_688 rfl (lv_at hl 3 rfl) ?_
  refine lv_iconst (v := 1) hx hb dL_law_689 (by decide) ?_
  refine lv_iadd hx hb dL_law_690 ?_
  refine va_sld hx hb hX hbl hbA hH.2 h1 dL_law_691 ?_
  refine iv_L_73 l X hH hRL (by decide) e1 hl.1 (Nat.le_of_ble_eq_true rfl) dL_law_692 ⟨by have := hcs.1; omega, by have := hcs.2; omega⟩ (fun H locs hH => ?_)
  refine lv_aload_n hx hb dL_law_695 rfl (lv_at hl 2 rfl) ?_
  refine lv_aload_n hx hb dL_law_696 rfl (lv_at hl 0 rfl) ?_
  refine lv_iload_n hx hb dL_law_697 rfl (lv_at hl 3 rfl) ?_
  refine lv_iconst (v := 1) hx hb dL_law_698 (by decide) ?_
  refine lv_iadd hx hb dL_law_699 ?_
  refine va_sld hx hb hX hbl hbA hH.2 h1 dL_law_700 ?_
  refine iv_L_76 l X hH hRL (by decide) e2 hl.1 (Nat.le_of_ble_eq_true rfl) dL_law_701 ⟨by have := hcs.1; omega, by have := hcs.2; omega⟩ (fun H locs hH => ?_)
  refine lv_icmp_eq (tgt := 1319) hx hb dL_law_704 (by decide) (fun _ => ?_) (fun hc => ?_)
  · refine W.widen (k := cells + 42) (n := slots + 84) (by omega) (by omega) ?_
    exact kk _ _ _ hI2 hH
  · exact absurd rfl hc
set_option maxHeartbeats 4000000 in
set_option maxRecDepth 100000 in
theorem lc_undo {p : Program} {e : Env} {s : State} {m : MethodId} {below : List Frame} {meth : Method} {c : Code} {Q : State → Prop} {G : CG} {b L : Nat} {xs : Nat → Int32} (l : Launch) (I : Mm → Nat → Nat → Prop) (hS : PS_undo I) (X : Cx p s m #[Value.ref b] meth c cL_law 4 RL G) (hRL : RmL room_1 31) (hX : va_X b L xs s s.heap) (hbl : b < s.heap.size) (hbA : ¬ fA G b) {x3 : Int32} (h1 : vp_in (x3 + 1) L) (h2 : vp_in (x3 + 2) L) (h3 : vp_in (x3 + 3) L) (h4 : vp_in (x3 + 4) L) (h5 : vp_in (x3 + 5) L) {a1 a2 : Nat} {μ : Mm} {H : Heap} {locs : List Loc} {ls : Array Slot} {cells slots : Nat} (hI : I μ a1 a2) (hH : HS G s μ H locs) (hl : lv_has ls 4 [(0, .ref b), (1, .ref a1), (2, .ref a2), (3, .int x3)]) (hcs : cells + 42 ≤ room_1.cells ∧ slots + 84 ≤ room_1.slots) (kk : ∀ (μ2 : Mm) (H : Heap) (locs : List Loc), I μ2 a1 a2 → HS G s μ2 H locs → W p l e room_1 s m #[Value.ref b] below meth c H locs (cells + 42) (slots + 84) Q (F0 m 1319 ls [])) : W p l e room_1 s m #[Value.ref b] below meth c H locs cells slots Q (F0 m 709 ls []) := by
  have hx := X.1
  have hb := X.2.1
  obtain ⟨r, μ1, μ2, e1, e2, hI2⟩ := hS μ a1 a2 (xs (x3 + 1).toNatClampNeg) hI
  refine lv_aload_n hx hb dL_law_709 rfl (lv_at hl 1 rfl) ?_
  refine lv_aload_n hx hb dL_law_710 rfl (lv_at hl 0 rfl) ?_
  refine lv_iload_n hx hb dL_law_711 rfl (lv_at hl 3 rfl) ?_
  refine lv_iconst (v := 1) hx hb dL_law_712 (by decide) ?_
  refine lv_iadd hx hb dL_law_713 ?_
  refine va_sld hx hb hX hbl hbA hH.2 h1 dL_law_714 ?_
  refine iv_L_77 l X hH hRL (by decide) e1 hl.1 (Nat.le_of_ble_eq_true rfl) dL_law_715 ⟨by have := hcs.1; omega, by have := hcs.2; omega⟩ (fun H locs hH => ?_)
  refine lv_aload_n hx hb dL_law_718 rfl (lv_at hl 2 rfl) ?_
  refine lv_aload_n hx hb dL_law_719 rfl (lv_at hl 0 rfl) ?_
  refine lv_iload_n hx hb dL_law_720 rfl (lv_at hl 3 rfl) ?_
  refine lv_iconst (v := 1) hx hb dL_law_721 (by decide) ?_
  refine lv_iadd hx hb dL_law_722 ?_
  refine va_sld hx hb hX hbl hbA hH.2 h1 dL_law_723 ?_
  refine iv_L_80 l X hH hRL (by decide) e2 hl.1 (Nat.le_of_ble_eq_true rfl) dL_law_724 ⟨by have := hcs.1; omega, by have := hcs.2; omega⟩ (fun H locs hH => ?_)
  refine lv_icmp_eq (tgt := 1319) hx hb dL_law_727 (by decide) (fun _ => ?_) (fun hc => ?_)
  · refine W.widen (k := cells + 42) (n := slots + 84) (by omega) (by omega) ?_
    exact kk _ _ _ hI2 hH
  · exact absurd rfl hc
set_option maxHeartbeats 4000000 in
set_option maxRecDepth 100000 in
theorem lc_keep {p : Program} {e : Env} {s : State} {m : MethodId} {below : List Frame} {meth : Method} {c : Code} {Q : State → Prop} {G : CG} {b L : Nat} {xs : Nat → Int32} (l : Launch) (I : Mm → Nat → Nat → Prop) (hS : PS_keep I) (X : Cx p s m #[Value.ref b] meth c cL_law 4 RL G) (hRL : RmL room_1 31) (hX : va_X b L xs s s.heap) (hbl : b < s.heap.size) (hbA : ¬ fA G b) {x3 : Int32} (h1 : vp_in (x3 + 1) L) (h2 : vp_in (x3 + 2) L) (h3 : vp_in (x3 + 3) L) (h4 : vp_in (x3 + 4) L) (h5 : vp_in (x3 + 5) L) {a1 a2 : Nat} {μ : Mm} {H : Heap} {locs : List Loc} {ls : Array Slot} {cells slots : Nat} (hI : I μ a1 a2) (hH : HS G s μ H locs) (hl : lv_has ls 4 [(0, .ref b), (1, .ref a1), (2, .ref a2), (3, .int x3)]) (hcs : cells + 42 ≤ room_1.cells ∧ slots + 84 ≤ room_1.slots) (kk : ∀ (μ2 : Mm) (H : Heap) (locs : List Loc), I μ2 a1 a2 → HS G s μ2 H locs → W p l e room_1 s m #[Value.ref b] below meth c H locs (cells + 42) (slots + 84) Q (F0 m 1319 ls [])) : W p l e room_1 s m #[Value.ref b] below meth c H locs cells slots Q (F0 m 732 ls []) := by
  have hx := X.1
  have hb := X.2.1
  obtain ⟨r, μ1, μ2, e1, e2, hI2⟩ := hS μ a1 a2 (xs (x3 + 1).toNatClampNeg) hI
  refine lv_aload_n hx hb dL_law_732 rfl (lv_at hl 1 rfl) ?_
  refine lv_aload_n hx hb dL_law_733 rfl (lv_at hl 0 rfl) ?_
  refine lv_iload_n hx hb dL_law_734 rfl (lv_at hl 3 rfl) ?_
  refine lv_iconst (v := 1) hx hb dL_law_735 (by decide) ?_
  refine lv_iadd hx hb dL_law_736 ?_
  refine va_sld hx hb hX hbl hbA hH.2 h1 dL_law_737 ?_
  refine iv_L_81 l X hH hRL (by decide) e1 hl.1 (Nat.le_of_ble_eq_true rfl) dL_law_738 ⟨by have := hcs.1; omega, by have := hcs.2; omega⟩ (fun H locs hH => ?_)
  refine lv_aload_n hx hb dL_law_741 rfl (lv_at hl 2 rfl) ?_
  refine lv_aload_n hx hb dL_law_742 rfl (lv_at hl 0 rfl) ?_
  refine lv_iload_n hx hb dL_law_743 rfl (lv_at hl 3 rfl) ?_
  refine lv_iconst (v := 1) hx hb dL_law_744 (by decide) ?_
  refine lv_iadd hx hb dL_law_745 ?_
  refine va_sld hx hb hX hbl hbA hH.2 h1 dL_law_746 ?_
  refine iv_L_84 l X hH hRL (by decide) e2 hl.1 (Nat.le_of_ble_eq_true rfl) dL_law_747 ⟨by have := hcs.1; omega, by have := hcs.2; omega⟩ (fun H locs hH => ?_)
  refine lv_icmp_eq (tgt := 1319) hx hb dL_law_750 (by decide) (fun _ => ?_) (fun hc => ?_)
  · refine W.widen (k := cells + 42) (n := slots + 84) (by omega) (by omega) ?_
    exact kk _ _ _ hI2 hH
  · exact absurd rfl hc
set_option maxHeartbeats 4000000 in
set_option maxRecDepth 100000 in
theorem lc_on {p : Program} {e : Env} {s : State} {m : MethodId} {below : List Frame} {meth : Method} {c : Code} {Q : State → Prop} {G : CG} {b L : Nat} {xs : Nat → Int32} (l : Launch) (I : Mm → Nat → Nat → Prop) (hS : PS_on I) (X : Cx p s m #[Value.ref b] meth c cL_law 4 RL G) (hRL : RmL room_1 31) (hX : va_X b L xs s s.heap) (hbl : b < s.heap.size) (hbA : ¬ fA G b) {x3 : Int32} (h1 : vp_in (x3 + 1) L) (h2 : vp_in (x3 + 2) L) (h3 : vp_in (x3 + 3) L) (h4 : vp_in (x3 + 4) L) (h5 : vp_in (x3 + 5) L) {a1 a2 : Nat} {μ : Mm} {H : Heap} {locs : List Loc} {ls : Array Slot} {cells slots : Nat} (hI : I μ a1 a2) (hH : HS G s μ H locs) (hl : lv_has ls 4 [(0, .ref b), (1, .ref a1), (2, .ref a2), (3, .int x3)]) (hcs : cells + 42 ≤ room_1.cells ∧ slots + 84 ≤ room_1.slots) (kk : ∀ (μ2 : Mm) (H : Heap) (locs : List Loc), I μ2 a1 a2 → HS G s μ2 H locs → W p l e room_1 s m #[Value.ref b] below meth c H locs (cells + 42) (slots + 84) Q (F0 m 1319 ls [])) : W p l e room_1 s m #[Value.ref b] below meth c H locs cells slots Q (F0 m 755 ls []) := by
  have hx := X.1
  have hb := X.2.1
  obtain ⟨r, μ1, μ2, e1, e2, hI2⟩ := hS μ a1 a2 (xs (x3 + 1).toNatClampNeg) hI
  refine lv_aload_n hx hb dL_law_755 rfl (lv_at hl 1 rfl) ?_
  refine lv_aload_n hx hb dL_law_756 rfl (lv_at hl 0 rfl) ?_
  refine lv_iload_n hx hb dL_law_757 rfl (lv_at hl 3 rfl) ?_
  refine lv_iconst (v := 1) hx hb dL_law_758 (by decide) ?_
  refine lv_iadd hx hb dL_law_759 ?_
  refine va_sld hx hb hX hbl hbA hH.2 h1 dL_law_760 ?_
  refine iv_L_85 l X hH hRL (by decide) e1 hl.1 (Nat.le_of_ble_eq_true rfl) dL_law_761 ⟨by have := hcs.1; omega, by have := hcs.2; omega⟩ (fun H locs hH => ?_)
  refine lv_aload_n hx hb dL_law_764 rfl (lv_at hl 2 rfl) ?_
  refine lv_aload_n hx hb dL_law_765 rfl (lv_at hl 0 rfl) ?_
  refine lv_iload_n hx hb dL_law_766 rfl (lv_at hl 3 rfl) ?_
  refine lv_iconst (v := 1) hx hb dL_law_767 (by decide) ?_
  refine lv_iadd hx hb dL_law_768 ?_
  refine va_sld hx hb hX hbl hbA hH.2 h1 dL_law_769 ?_
  refine iv_L_88 l X hH hRL (by decide) e2 hl.1 (Nat.le_of_ble_eq_true rfl) dL_law_770 ⟨by have := hcs.1; omega, by have := hcs.2; omega⟩ (fun H locs hH => ?_)
  refine lv_icmp_eq (tgt := 1319) hx hb dL_law_773 (by decide) (fun _ => ?_) (fun hc => ?_)
  · refine W.widen (k := cells + 42) (n := slots + 84) (by omega) (by omega) ?_
    exact kk _ _ _ hI2 hH
  · exact absurd rfl hc
set_option maxHeartbeats 4000000 in
set_option maxRecDepth 100000 in
theorem lc_hour {p : Program} {e : Env} {s : State} {m : MethodId} {below : List Frame} {meth : Method} {c : Code} {Q : State → Prop} {G : CG} {b L : Nat} {xs : Nat → Int32} (l : Launch) (I : Mm → Nat → Nat → Prop) (hS : PS_hour I) (X : Cx p s m #[Value.ref b] meth c cL_law 4 RL G) (hRL : RmL room_1 31) (hX : va_X b L xs s s.heap) (hbl : b < s.heap.size) (hbA : ¬ fA G b) {x3 : Int32} (h1 : vp_in (x3 + 1) L) (h2 : vp_in (x3 + 2) L) (h3 : vp_in (x3 + 3) L) (h4 : vp_in (x3 + 4) L) (h5 : vp_in (x3 + 5) L) {a1 a2 : Nat} {μ : Mm} {H : Heap} {locs : List Loc} {ls : Array Slot} {cells slots : Nat} (hI : I μ a1 a2) (hH : HS G s μ H locs) (hl : lv_has ls 4 [(0, .ref b), (1, .ref a1), (2, .ref a2), (3, .int x3)]) (hcs : cells + 42 ≤ room_1.cells ∧ slots + 84 ≤ room_1.slots) (kk : ∀ (μ2 : Mm) (H : Heap) (locs : List Loc), I μ2 a1 a2 → HS G s μ2 H locs → W p l e room_1 s m #[Value.ref b] below meth c H locs (cells + 42) (slots + 84) Q (F0 m 1319 ls [])) : W p l e room_1 s m #[Value.ref b] below meth c H locs cells slots Q (F0 m 778 ls []) := by
  have hx := X.1
  have hb := X.2.1
  obtain ⟨r, μ1, μ2, e1, e2, hI2⟩ := hS μ a1 a2 hI
  refine lv_aload_n hx hb dL_law_778 rfl (lv_at hl 1 rfl) ?_
  refine iv_L_89 l X hH hRL (by decide) e1 hl.1 (Nat.le_of_ble_eq_true rfl) dL_law_779 ⟨by have := hcs.1; omega, by have := hcs.2; omega⟩ (fun H locs hH => ?_)
  refine lv_aload_n hx hb dL_law_782 rfl (lv_at hl 2 rfl) ?_
  refine iv_L_93 l X hH hRL (by decide) e2 hl.1 (Nat.le_of_ble_eq_true rfl) dL_law_783 ⟨by have := hcs.1; omega, by have := hcs.2; omega⟩ (fun H locs hH => ?_)
  refine lv_icmp_eq (tgt := 1319) hx hb dL_law_786 (by decide) (fun _ => ?_) (fun hc => ?_)
  · refine W.widen (k := cells + 42) (n := slots + 84) (by omega) (by omega) ?_
    exact kk _ _ _ hI2 hH
  · exact absurd rfl hc
set_option maxHeartbeats 4000000 in
set_option maxRecDepth 100000 in
theorem lc_due {p : Program} {e : Env} {s : State} {m : MethodId} {below : List Frame} {meth : Method} {c : Code} {Q : State → Prop} {G : CG} {b L : Nat} {xs : Nat → Int32} (l : Launch) (I : Mm → Nat → Nat → Prop) (hS : PS_due I) (X : Cx p s m #[Value.ref b] meth c cL_law 4 RL G) (hRL : RmL room_1 31) (hX : va_X b L xs s s.heap) (hbl : b < s.heap.size) (hbA : ¬ fA G b) {x3 : Int32} (h1 : vp_in (x3 + 1) L) (h2 : vp_in (x3 + 2) L) (h3 : vp_in (x3 + 3) L) (h4 : vp_in (x3 + 4) L) (h5 : vp_in (x3 + 5) L) {a1 a2 : Nat} {μ : Mm} {H : Heap} {locs : List Loc} {ls : Array Slot} {cells slots : Nat} (hI : I μ a1 a2) (hH : HS G s μ H locs) (hl : lv_has ls 4 [(0, .ref b), (1, .ref a1), (2, .ref a2), (3, .int x3)]) (hcs : cells + 42 ≤ room_1.cells ∧ slots + 84 ≤ room_1.slots) (kk : ∀ (μ2 : Mm) (H : Heap) (locs : List Loc), I μ2 a1 a2 → HS G s μ2 H locs → W p l e room_1 s m #[Value.ref b] below meth c H locs (cells + 42) (slots + 84) Q (F0 m 1319 ls [])) : W p l e room_1 s m #[Value.ref b] below meth c H locs cells slots Q (F0 m 791 ls []) := by
  have hx := X.1
  have hb := X.2.1
  obtain ⟨r, μ1, μ2, e1, e2, hI2⟩ := hS μ a1 a2 hI
  refine lv_aload_n hx hb dL_law_791 rfl (lv_at hl 1 rfl) ?_
  refine iv_L_94 l X hH hRL (by decide) e1 hl.1 (Nat.le_of_ble_eq_true rfl) dL_law_792 ⟨by have := hcs.1; omega, by have := hcs.2; omega⟩ (fun H locs hH => ?_)
  refine lv_aload_n hx hb dL_law_795 rfl (lv_at hl 2 rfl) ?_
  refine iv_L_97 l X hH hRL (by decide) e2 hl.1 (Nat.le_of_ble_eq_true rfl) dL_law_796 ⟨by have := hcs.1; omega, by have := hcs.2; omega⟩ (fun H locs hH => ?_)
  refine lv_icmp_eq (tgt := 1319) hx hb dL_law_799 (by decide) (fun _ => ?_) (fun hc => ?_)
  · refine W.widen (k := cells + 42) (n := slots + 84) (by omega) (by omega) ?_
    exact kk _ _ _ hI2 hH
  · exact absurd rfl hc
set_option maxHeartbeats 4000000 in
set_option maxRecDepth 100000 in
theorem lc_after {p : Program} {e : Env} {s : State} {m : MethodId} {below : List Frame} {meth : Method} {c : Code} {Q : State → Prop} {G : CG} {b L : Nat} {xs : Nat → Int32} (l : Launch) (I : Mm → Nat → Nat → Prop) (hS : PS_after I) (X : Cx p s m #[Value.ref b] meth c cL_law 4 RL G) (hRL : RmL room_1 31) (hX : va_X b L xs s s.heap) (hbl : b < s.heap.size) (hbA : ¬ fA G b) {x3 : Int32} (h1 : vp_in (x3 + 1) L) (h2 : vp_in (x3 + 2) L) (h3 : vp_in (x3 + 3) L) (h4 : vp_in (x3 + 4) L) (h5 : vp_in (x3 + 5) L) {a1 a2 : Nat} {μ : Mm} {H : Heap} {locs : List Loc} {ls : Array Slot} {cells slots : Nat} (hI : I μ a1 a2) (hH : HS G s μ H locs) (hl : lv_has ls 4 [(0, .ref b), (1, .ref a1), (2, .ref a2), (3, .int x3)]) (hcs : cells + 42 ≤ room_1.cells ∧ slots + 84 ≤ room_1.slots) (kk : ∀ (μ2 : Mm) (H : Heap) (locs : List Loc), I μ2 a1 a2 → HS G s μ2 H locs → W p l e room_1 s m #[Value.ref b] below meth c H locs (cells + 42) (slots + 84) Q (F0 m 1319 ls [])) : W p l e room_1 s m #[Value.ref b] below meth c H locs cells slots Q (F0 m 804 ls []) := by
  have hx := X.1
  have hb := X.2.1
  obtain ⟨r, μ1, μ2, e1, e2, hI2⟩ := hS μ a1 a2 (xs (x3 + 1).toNatClampNeg) hI
  refine lv_aload_n hx hb dL_law_804 rfl (lv_at hl 1 rfl) ?_
  refine lv_aload_n hx hb dL_law_805 rfl (lv_at hl 0 rfl) ?_
  refine lv_iload_n hx hb dL_law_806 rfl (lv_at hl 3 rfl) ?_
  refine lv_iconst (v := 1) hx hb dL_law_807 (by decide) ?_
  refine lv_iadd hx hb dL_law_808 ?_
  refine va_sld hx hb hX hbl hbA hH.2 h1 dL_law_809 ?_
  refine iv_L_98 l X hH hRL (by decide) e1 hl.1 (Nat.le_of_ble_eq_true rfl) dL_law_810 ⟨by have := hcs.1; omega, by have := hcs.2; omega⟩ (fun H locs hH => ?_)
  refine lv_aload_n hx hb dL_law_813 rfl (lv_at hl 2 rfl) ?_
  refine lv_aload_n hx hb dL_law_814 rfl (lv_at hl 0 rfl) ?_
  refine lv_iload_n hx hb dL_law_815 rfl (lv_at hl 3 rfl) ?_
  refine lv_iconst (v := 1) hx hb dL_law_816 (by decide) ?_
  refine lv_iadd hx hb dL_law_817 ?_
  refine va_sld hx hb hX hbl hbA hH.2 h1 dL_law_818 ?_
  refine iv_L_101 l X hH hRL (by decide) e2 hl.1 (Nat.le_of_ble_eq_true rfl) dL_law_819 ⟨by have := hcs.1; omega, by have := hcs.2; omega⟩ (fun H locs hH => ?_)
  refine lv_icmp_eq (tgt := 1319) hx hb dL_law_822 (by decide) (fun _ => ?_) (fun hc => ?_)
  · refine W.widen (k := cells + 42) (n := slots + 84) (by omega) (by omega) ?_
    exact kk _ _ _ hI2 hH
  · exact absurd rfl hc
set_option maxHeartbeats 4000000 in
set_option maxRecDepth 100000 in
theorem lc_pace {p : Program} {e : Env} {s : State} {m : MethodId} {below : List Frame} {meth : Method} {c : Code} {Q : State → Prop} {G : CG} {b L : Nat} {xs : Nat → Int32} (l : Launch) (I : Mm → Nat → Nat → Prop) (hS : PS_pace I) (X : Cx p s m #[Value.ref b] meth c cL_law 4 RL G) (hRL : RmL room_1 31) (hX : va_X b L xs s s.heap) (hbl : b < s.heap.size) (hbA : ¬ fA G b) {x3 : Int32} (h1 : vp_in (x3 + 1) L) (h2 : vp_in (x3 + 2) L) (h3 : vp_in (x3 + 3) L) (h4 : vp_in (x3 + 4) L) (h5 : vp_in (x3 + 5) L) {a1 a2 : Nat} {μ : Mm} {H : Heap} {locs : List Loc} {ls : Array Slot} {cells slots : Nat} (hI : I μ a1 a2) (hH : HS G s μ H locs) (hl : lv_has ls 4 [(0, .ref b), (1, .ref a1), (2, .ref a2), (3, .int x3)]) (hcs : cells + 42 ≤ room_1.cells ∧ slots + 84 ≤ room_1.slots) (kk : ∀ (μ2 : Mm) (H : Heap) (locs : List Loc), I μ2 a1 a2 → HS G s μ2 H locs → W p l e room_1 s m #[Value.ref b] below meth c H locs (cells + 42) (slots + 84) Q (F0 m 1319 ls [])) : W p l e room_1 s m #[Value.ref b] below meth c H locs cells slots Q (F0 m 827 ls []) := by
  have hx := X.1
  have hb := X.2.1
  obtain ⟨r, μ1, μ2, e1, e2, hI2⟩ := hS μ a1 a2 hI
  refine lv_aload_n hx hb dL_law_827 rfl (lv_at hl 1 rfl) ?_
  refine iv_L_102 l X hH hRL (by decide) e1 hl.1 (Nat.le_of_ble_eq_true rfl) dL_law_828 ⟨by have := hcs.1; omega, by have := hcs.2; omega⟩ (fun H locs hH => ?_)
  refine lv_aload_n hx hb dL_law_831 rfl (lv_at hl 2 rfl) ?_
  refine iv_L_105 l X hH hRL (by decide) e2 hl.1 (Nat.le_of_ble_eq_true rfl) dL_law_832 ⟨by have := hcs.1; omega, by have := hcs.2; omega⟩ (fun H locs hH => ?_)
  refine lv_icmp_eq (tgt := 1319) hx hb dL_law_835 (by decide) (fun _ => ?_) (fun hc => ?_)
  · refine W.widen (k := cells + 42) (n := slots + 84) (by omega) (by omega) ?_
    exact kk _ _ _ hI2 hH
  · exact absurd rfl hc
set_option maxHeartbeats 4000000 in
set_option maxRecDepth 100000 in
theorem lc_order {p : Program} {e : Env} {s : State} {m : MethodId} {below : List Frame} {meth : Method} {c : Code} {Q : State → Prop} {G : CG} {b L : Nat} {xs : Nat → Int32} (l : Launch) (I : Mm → Nat → Nat → Prop) (hS : PS_order I) (X : Cx p s m #[Value.ref b] meth c cL_law 4 RL G) (hRL : RmL room_1 31) (hX : va_X b L xs s s.heap) (hbl : b < s.heap.size) (hbA : ¬ fA G b) {x3 : Int32} (h1 : vp_in (x3 + 1) L) (h2 : vp_in (x3 + 2) L) (h3 : vp_in (x3 + 3) L) (h4 : vp_in (x3 + 4) L) (h5 : vp_in (x3 + 5) L) {a1 a2 : Nat} {μ : Mm} {H : Heap} {locs : List Loc} {ls : Array Slot} {cells slots : Nat} (hI : I μ a1 a2) (hH : HS G s μ H locs) (hl : lv_has ls 4 [(0, .ref b), (1, .ref a1), (2, .ref a2), (3, .int x3)]) (hcs : cells + 42 ≤ room_1.cells ∧ slots + 84 ≤ room_1.slots) (kk : ∀ (μ2 : Mm) (H : Heap) (locs : List Loc), I μ2 a1 a2 → HS G s μ2 H locs → W p l e room_1 s m #[Value.ref b] below meth c H locs (cells + 42) (slots + 84) Q (F0 m 1319 ls [])) : W p l e room_1 s m #[Value.ref b] below meth c H locs cells slots Q (F0 m 840 ls []) := by
  have hx := X.1
  have hb := X.2.1
  obtain ⟨r, μ1, μ2, e1, e2, hI2⟩ := hS μ a1 a2 (xs (x3 + 1).toNatClampNeg) (xs (x3 + 2).toNatClampNeg) (xs (x3 + 3).toNatClampNeg) hI
  refine lv_aload_n hx hb dL_law_840 rfl (lv_at hl 1 rfl) ?_
  refine lv_aload_n hx hb dL_law_841 rfl (lv_at hl 0 rfl) ?_
  refine lv_iload_n hx hb dL_law_842 rfl (lv_at hl 3 rfl) ?_
  refine lv_iconst (v := 1) hx hb dL_law_843 (by decide) ?_
  refine lv_iadd hx hb dL_law_844 ?_
  refine va_sld hx hb hX hbl hbA hH.2 h1 dL_law_845 ?_
  refine lv_aload_n hx hb dL_law_846 rfl (lv_at hl 0 rfl) ?_
  refine lv_iload_n hx hb dL_law_847 rfl (lv_at hl 3 rfl) ?_
  refine lv_iconst (v := 2) hx hb dL_law_848 (by decide) ?_
  refine lv_iadd hx hb dL_law_849 ?_
  refine va_sld hx hb hX hbl hbA hH.2 h2 dL_law_850 ?_
  refine lv_aload_n hx hb dL_law_851 rfl (lv_at hl 0 rfl) ?_
  refine lv_iload_n hx hb dL_law_852 rfl (lv_at hl 3 rfl) ?_
  refine lv_iconst (v := 3) hx hb dL_law_853 (by decide) ?_
  refine lv_iadd hx hb dL_law_854 ?_
  refine va_sld hx hb hX hbl hbA hH.2 h3 dL_law_855 ?_
  refine iv_L_106 l X hH hRL (by decide) e1 hl.1 (Nat.le_of_ble_eq_true rfl) dL_law_856 ⟨by have := hcs.1; omega, by have := hcs.2; omega⟩ (fun H locs hH => ?_)
  refine lv_aload_n hx hb dL_law_859 rfl (lv_at hl 2 rfl) ?_
  refine lv_aload_n hx hb dL_law_860 rfl (lv_at hl 0 rfl) ?_
  refine lv_iload_n hx hb dL_law_861 rfl (lv_at hl 3 rfl) ?_
  refine lv_iconst (v := 1) hx hb dL_law_862 (by decide) ?_
  refine lv_iadd hx hb dL_law_863 ?_
  refine va_sld hx hb hX hbl hbA hH.2 h1 dL_law_864 ?_
  refine lv_aload_n hx hb dL_law_865 rfl (lv_at hl 0 rfl) ?_
  refine lv_iload_n hx hb dL_law_866 rfl (lv_at hl 3 rfl) ?_
  refine lv_iconst (v := 2) hx hb dL_law_867 (by decide) ?_
  refine lv_iadd hx hb dL_law_868 ?_
  refine va_sld hx hb hX hbl hbA hH.2 h2 dL_law_869 ?_
  refine lv_aload_n hx hb dL_law_870 rfl (lv_at hl 0 rfl) ?_
  refine lv_iload_n hx hb dL_law_871 rfl (lv_at hl 3 rfl) ?_
  refine lv_iconst (v := 3) hx hb dL_law_872 (by decide) ?_
  refine lv_iadd hx hb dL_law_873 ?_
  refine va_sld hx hb hX hbl hbA hH.2 h3 dL_law_874 ?_
  refine iv_L_109 l X hH hRL (by decide) e2 hl.1 (Nat.le_of_ble_eq_true rfl) dL_law_875 ⟨by have := hcs.1; omega, by have := hcs.2; omega⟩ (fun H locs hH => ?_)
  refine lv_icmp_eq (tgt := 1319) hx hb dL_law_878 (by decide) (fun _ => ?_) (fun hc => ?_)
  · refine W.widen (k := cells + 42) (n := slots + 84) (by omega) (by omega) ?_
    exact kk _ _ _ hI2 hH
  · exact absurd rfl hc
set_option maxHeartbeats 4000000 in
set_option maxRecDepth 100000 in
theorem lc_quiet {p : Program} {e : Env} {s : State} {m : MethodId} {below : List Frame} {meth : Method} {c : Code} {Q : State → Prop} {G : CG} {b L : Nat} {xs : Nat → Int32} (l : Launch) (I : Mm → Nat → Nat → Prop) (hS : PS_quiet I) (X : Cx p s m #[Value.ref b] meth c cL_law 4 RL G) (hRL : RmL room_1 31) (hX : va_X b L xs s s.heap) (hbl : b < s.heap.size) (hbA : ¬ fA G b) {x3 : Int32} (h1 : vp_in (x3 + 1) L) (h2 : vp_in (x3 + 2) L) (h3 : vp_in (x3 + 3) L) (h4 : vp_in (x3 + 4) L) (h5 : vp_in (x3 + 5) L) {a1 a2 : Nat} {μ : Mm} {H : Heap} {locs : List Loc} {ls : Array Slot} {cells slots : Nat} (hI : I μ a1 a2) (hH : HS G s μ H locs) (hl : lv_has ls 4 [(0, .ref b), (1, .ref a1), (2, .ref a2), (3, .int x3)]) (hcs : cells + 42 ≤ room_1.cells ∧ slots + 84 ≤ room_1.slots) (kk : ∀ (μ2 : Mm) (H : Heap) (locs : List Loc), I μ2 a1 a2 → HS G s μ2 H locs → W p l e room_1 s m #[Value.ref b] below meth c H locs (cells + 42) (slots + 84) Q (F0 m 1319 ls [])) : W p l e room_1 s m #[Value.ref b] below meth c H locs cells slots Q (F0 m 883 ls []) := by
  have hx := X.1
  have hb := X.2.1
  obtain ⟨r, μ1, μ2, e1, e2, hI2⟩ := hS μ a1 a2 hI
  refine lv_aload_n hx hb dL_law_883 rfl (lv_at hl 1 rfl) ?_
  refine iv_L_110 l X hH hRL (by decide) e1 hl.1 (Nat.le_of_ble_eq_true rfl) dL_law_884 ⟨by have := hcs.1; omega, by have := hcs.2; omega⟩ (fun H locs hH => ?_)
  refine lv_aload_n hx hb dL_law_887 rfl (lv_at hl 2 rfl) ?_
  refine iv_L_113 l X hH hRL (by decide) e2 hl.1 (Nat.le_of_ble_eq_true rfl) dL_law_888 ⟨by have := hcs.1; omega, by have := hcs.2; omega⟩ (fun H locs hH => ?_)
  refine lv_icmp_eq (tgt := 1319) hx hb dL_law_891 (by decide) (fun _ => ?_) (fun hc => ?_)
  · refine W.widen (k := cells + 42) (n := slots + 84) (by omega) (by omega) ?_
    exact kk _ _ _ hI2 hH
  · exact absurd rfl hc
set_option maxHeartbeats 4000000 in
set_option maxRecDepth 100000 in
theorem lc_cheap {p : Program} {e : Env} {s : State} {m : MethodId} {below : List Frame} {meth : Method} {c : Code} {Q : State → Prop} {G : CG} {b L : Nat} {xs : Nat → Int32} (l : Launch) (I : Mm → Nat → Nat → Prop) (hS : PS_cheap I) (X : Cx p s m #[Value.ref b] meth c cL_law 4 RL G) (hRL : RmL room_1 31) (hX : va_X b L xs s s.heap) (hbl : b < s.heap.size) (hbA : ¬ fA G b) {x3 : Int32} (h1 : vp_in (x3 + 1) L) (h2 : vp_in (x3 + 2) L) (h3 : vp_in (x3 + 3) L) (h4 : vp_in (x3 + 4) L) (h5 : vp_in (x3 + 5) L) {a1 a2 : Nat} {μ : Mm} {H : Heap} {locs : List Loc} {ls : Array Slot} {cells slots : Nat} (hI : I μ a1 a2) (hH : HS G s μ H locs) (hl : lv_has ls 4 [(0, .ref b), (1, .ref a1), (2, .ref a2), (3, .int x3)]) (hcs : cells + 42 ≤ room_1.cells ∧ slots + 84 ≤ room_1.slots) (kk : ∀ (μ2 : Mm) (H : Heap) (locs : List Loc), I μ2 a1 a2 → HS G s μ2 H locs → W p l e room_1 s m #[Value.ref b] below meth c H locs (cells + 42) (slots + 84) Q (F0 m 1319 ls [])) : W p l e room_1 s m #[Value.ref b] below meth c H locs cells slots Q (F0 m 896 ls []) := by
  have hx := X.1
  have hb := X.2.1
  obtain ⟨r, μ1, μ2, e1, e2, hI2⟩ := hS μ a1 a2 hI
  refine lv_aload_n hx hb dL_law_896 rfl (lv_at hl 1 rfl) ?_
  refine iv_L_114 l X hH hRL (by decide) e1 hl.1 (Nat.le_of_ble_eq_true rfl) dL_law_897 ⟨by have := hcs.1; omega, by have := hcs.2; omega⟩ (fun H locs hH => ?_)
  refine lv_aload_n hx hb dL_law_900 rfl (lv_at hl 2 rfl) ?_
  refine iv_L_117 l X hH hRL (by decide) e2 hl.1 (Nat.le_of_ble_eq_true rfl) dL_law_901 ⟨by have := hcs.1; omega, by have := hcs.2; omega⟩ (fun H locs hH => ?_)
  refine lv_icmp_eq (tgt := 1319) hx hb dL_law_904 (by decide) (fun _ => ?_) (fun hc => ?_)
  · refine W.widen (k := cells + 42) (n := slots + 84) (by omega) (by omega) ?_
    exact kk _ _ _ hI2 hH
  · exact absurd rfl hc
set_option maxHeartbeats 4000000 in
set_option maxRecDepth 100000 in
theorem lc_fewest {p : Program} {e : Env} {s : State} {m : MethodId} {below : List Frame} {meth : Method} {c : Code} {Q : State → Prop} {G : CG} {b L : Nat} {xs : Nat → Int32} (l : Launch) (I : Mm → Nat → Nat → Prop) (hS : PS_fewest I) (X : Cx p s m #[Value.ref b] meth c cL_law 4 RL G) (hRL : RmL room_1 31) (hX : va_X b L xs s s.heap) (hbl : b < s.heap.size) (hbA : ¬ fA G b) {x3 : Int32} (h1 : vp_in (x3 + 1) L) (h2 : vp_in (x3 + 2) L) (h3 : vp_in (x3 + 3) L) (h4 : vp_in (x3 + 4) L) (h5 : vp_in (x3 + 5) L) {a1 a2 : Nat} {μ : Mm} {H : Heap} {locs : List Loc} {ls : Array Slot} {cells slots : Nat} (hI : I μ a1 a2) (hH : HS G s μ H locs) (hl : lv_has ls 4 [(0, .ref b), (1, .ref a1), (2, .ref a2), (3, .int x3)]) (hcs : cells + 42 ≤ room_1.cells ∧ slots + 84 ≤ room_1.slots) (kk : ∀ (μ2 : Mm) (H : Heap) (locs : List Loc), I μ2 a1 a2 → HS G s μ2 H locs → W p l e room_1 s m #[Value.ref b] below meth c H locs (cells + 42) (slots + 84) Q (F0 m 1319 ls [])) : W p l e room_1 s m #[Value.ref b] below meth c H locs cells slots Q (F0 m 909 ls []) := by
  have hx := X.1
  have hb := X.2.1
  obtain ⟨r, μ1, μ2, e1, e2, hI2⟩ := hS μ a1 a2 (xs (x3 + 1).toNatClampNeg) hI
  refine lv_aload_n hx hb dL_law_909 rfl (lv_at hl 1 rfl) ?_
  refine lv_aload_n hx hb dL_law_910 rfl (lv_at hl 0 rfl) ?_
  refine lv_iload_n hx hb dL_law_911 rfl (lv_at hl 3 rfl) ?_
  refine lv_iconst (v := 1) hx hb dL_law_912 (by decide) ?_
  refine lv_iadd hx hb dL_law_913 ?_
  refine va_sld hx hb hX hbl hbA hH.2 h1 dL_law_914 ?_
  refine iv_L_118 l X hH hRL (by decide) e1 hl.1 (Nat.le_of_ble_eq_true rfl) dL_law_915 ⟨by have := hcs.1; omega, by have := hcs.2; omega⟩ (fun H locs hH => ?_)
  refine lv_aload_n hx hb dL_law_918 rfl (lv_at hl 2 rfl) ?_
  refine lv_aload_n hx hb dL_law_919 rfl (lv_at hl 0 rfl) ?_
  refine lv_iload_n hx hb dL_law_920 rfl (lv_at hl 3 rfl) ?_
  refine lv_iconst (v := 1) hx hb dL_law_921 (by decide) ?_
  refine lv_iadd hx hb dL_law_922 ?_
  refine va_sld hx hb hX hbl hbA hH.2 h1 dL_law_923 ?_
  refine iv_L_121 l X hH hRL (by decide) e2 hl.1 (Nat.le_of_ble_eq_true rfl) dL_law_924 ⟨by have := hcs.1; omega, by have := hcs.2; omega⟩ (fun H locs hH => ?_)
  refine lv_icmp_eq (tgt := 1319) hx hb dL_law_927 (by decide) (fun _ => ?_) (fun hc => ?_)
  · refine W.widen (k := cells + 42) (n := slots + 84) (by omega) (by omega) ?_
    exact kk _ _ _ hI2 hH
  · exact absurd rfl hc
set_option maxHeartbeats 4000000 in
set_option maxRecDepth 100000 in
theorem lc_feet {p : Program} {e : Env} {s : State} {m : MethodId} {below : List Frame} {meth : Method} {c : Code} {Q : State → Prop} {G : CG} {b L : Nat} {xs : Nat → Int32} (l : Launch) (I : Mm → Nat → Nat → Prop) (hS : PS_feet I) (X : Cx p s m #[Value.ref b] meth c cL_law 4 RL G) (hRL : RmL room_1 31) (hX : va_X b L xs s s.heap) (hbl : b < s.heap.size) (hbA : ¬ fA G b) {x3 : Int32} (h1 : vp_in (x3 + 1) L) (h2 : vp_in (x3 + 2) L) (h3 : vp_in (x3 + 3) L) (h4 : vp_in (x3 + 4) L) (h5 : vp_in (x3 + 5) L) {a1 a2 : Nat} {μ : Mm} {H : Heap} {locs : List Loc} {ls : Array Slot} {cells slots : Nat} (hI : I μ a1 a2) (hH : HS G s μ H locs) (hl : lv_has ls 4 [(0, .ref b), (1, .ref a1), (2, .ref a2), (3, .int x3)]) (hcs : cells + 42 ≤ room_1.cells ∧ slots + 84 ≤ room_1.slots) (kk : ∀ (μ2 : Mm) (H : Heap) (locs : List Loc), I μ2 a1 a2 → HS G s μ2 H locs → W p l e room_1 s m #[Value.ref b] below meth c H locs (cells + 42) (slots + 84) Q (F0 m 1319 ls [])) : W p l e room_1 s m #[Value.ref b] below meth c H locs cells slots Q (F0 m 932 ls []) := by
  have hx := X.1
  have hb := X.2.1
  obtain ⟨r, μ1, μ2, e1, e2, hI2⟩ := hS μ a1 a2 (xs (x3 + 1).toNatClampNeg) hI
  refine lv_aload_n hx hb dL_law_932 rfl (lv_at hl 1 rfl) ?_
  refine lv_aload_n hx hb dL_law_933 rfl (lv_at hl 0 rfl) ?_
  refine lv_iload_n hx hb dL_law_934 rfl (lv_at hl 3 rfl) ?_
  refine lv_iconst (v := 1) hx hb dL_law_935 (by decide) ?_
  refine lv_iadd hx hb dL_law_936 ?_
  refine va_sld hx hb hX hbl hbA hH.2 h1 dL_law_937 ?_
  refine iv_L_122 l X hH hRL (by decide) e1 hl.1 (Nat.le_of_ble_eq_true rfl) dL_law_938 ⟨by have := hcs.1; omega, by have := hcs.2; omega⟩ (fun H locs hH => ?_)
  refine lv_aload_n hx hb dL_law_941 rfl (lv_at hl 2 rfl) ?_
  refine lv_aload_n hx hb dL_law_942 rfl (lv_at hl 0 rfl) ?_
  refine lv_iload_n hx hb dL_law_943 rfl (lv_at hl 3 rfl) ?_
  refine lv_iconst (v := 1) hx hb dL_law_944 (by decide) ?_
  refine lv_iadd hx hb dL_law_945 ?_
  refine va_sld hx hb hX hbl hbA hH.2 h1 dL_law_946 ?_
  refine iv_L_125 l X hH hRL (by decide) e2 hl.1 (Nat.le_of_ble_eq_true rfl) dL_law_947 ⟨by have := hcs.1; omega, by have := hcs.2; omega⟩ (fun H locs hH => ?_)
  refine lv_icmp_eq (tgt := 1319) hx hb dL_law_950 (by decide) (fun _ => ?_) (fun hc => ?_)
  · refine W.widen (k := cells + 42) (n := slots + 84) (by omega) (by omega) ?_
    exact kk _ _ _ hI2 hH
  · exact absurd rfl hc
set_option maxHeartbeats 4000000 in
set_option maxRecDepth 100000 in
theorem lc_never {p : Program} {e : Env} {s : State} {m : MethodId} {below : List Frame} {meth : Method} {c : Code} {Q : State → Prop} {G : CG} {b L : Nat} {xs : Nat → Int32} (l : Launch) (I : Mm → Nat → Nat → Prop) (hS : PS_never I) (X : Cx p s m #[Value.ref b] meth c cL_law 4 RL G) (hRL : RmL room_1 31) (hX : va_X b L xs s s.heap) (hbl : b < s.heap.size) (hbA : ¬ fA G b) {x3 : Int32} (h1 : vp_in (x3 + 1) L) (h2 : vp_in (x3 + 2) L) (h3 : vp_in (x3 + 3) L) (h4 : vp_in (x3 + 4) L) (h5 : vp_in (x3 + 5) L) {a1 a2 : Nat} {μ : Mm} {H : Heap} {locs : List Loc} {ls : Array Slot} {cells slots : Nat} (hI : I μ a1 a2) (hH : HS G s μ H locs) (hl : lv_has ls 4 [(0, .ref b), (1, .ref a1), (2, .ref a2), (3, .int x3)]) (hcs : cells + 42 ≤ room_1.cells ∧ slots + 84 ≤ room_1.slots) (kk : ∀ (μ2 : Mm) (H : Heap) (locs : List Loc), I μ2 a1 a2 → HS G s μ2 H locs → W p l e room_1 s m #[Value.ref b] below meth c H locs (cells + 42) (slots + 84) Q (F0 m 1319 ls [])) : W p l e room_1 s m #[Value.ref b] below meth c H locs cells slots Q (F0 m 955 ls []) := by
  have hx := X.1
  have hb := X.2.1
  obtain ⟨r, μ1, μ2, e1, e2, hI2⟩ := hS μ a1 a2 hI
  refine lv_aload_n hx hb dL_law_955 rfl (lv_at hl 1 rfl) ?_
  refine iv_L_126 l X hH hRL (by decide) e1 hl.1 (Nat.le_of_ble_eq_true rfl) dL_law_956 ⟨by have := hcs.1; omega, by have := hcs.2; omega⟩ (fun H locs hH => ?_)
  refine lv_aload_n hx hb dL_law_959 rfl (lv_at hl 2 rfl) ?_
  refine iv_L_129 l X hH hRL (by decide) e2 hl.1 (Nat.le_of_ble_eq_true rfl) dL_law_960 ⟨by have := hcs.1; omega, by have := hcs.2; omega⟩ (fun H locs hH => ?_)
  refine lv_icmp_eq (tgt := 1319) hx hb dL_law_963 (by decide) (fun _ => ?_) (fun hc => ?_)
  · refine W.widen (k := cells + 42) (n := slots + 84) (by omega) (by omega) ?_
    exact kk _ _ _ hI2 hH
  · exact absurd rfl hc
set_option maxHeartbeats 4000000 in
set_option maxRecDepth 100000 in
theorem lc_keyed {p : Program} {e : Env} {s : State} {m : MethodId} {below : List Frame} {meth : Method} {c : Code} {Q : State → Prop} {G : CG} {b L : Nat} {xs : Nat → Int32} (l : Launch) (I : Mm → Nat → Nat → Prop) (hS : PS_keyed I) (X : Cx p s m #[Value.ref b] meth c cL_law 4 RL G) (hRL : RmL room_1 31) (hX : va_X b L xs s s.heap) (hbl : b < s.heap.size) (hbA : ¬ fA G b) {x3 : Int32} (h1 : vp_in (x3 + 1) L) (h2 : vp_in (x3 + 2) L) (h3 : vp_in (x3 + 3) L) (h4 : vp_in (x3 + 4) L) (h5 : vp_in (x3 + 5) L) {a1 a2 : Nat} {μ : Mm} {H : Heap} {locs : List Loc} {ls : Array Slot} {cells slots : Nat} (hI : I μ a1 a2) (hH : HS G s μ H locs) (hl : lv_has ls 4 [(0, .ref b), (1, .ref a1), (2, .ref a2), (3, .int x3)]) (hcs : cells + 42 ≤ room_1.cells ∧ slots + 84 ≤ room_1.slots) (kk : ∀ (μ2 : Mm) (H : Heap) (locs : List Loc), I μ2 a1 a2 → HS G s μ2 H locs → W p l e room_1 s m #[Value.ref b] below meth c H locs (cells + 42) (slots + 84) Q (F0 m 1319 ls [])) : W p l e room_1 s m #[Value.ref b] below meth c H locs cells slots Q (F0 m 968 ls []) := by
  have hx := X.1
  have hb := X.2.1
  obtain ⟨r, μ2, e1, e2, hI2⟩ := hS μ a1 a2 hI
  refine lv_aload_n hx hb dL_law_968 rfl (lv_at hl 1 rfl) ?_
  refine iv_L_130 l X hH hRL (by decide) e1 hl.1 (Nat.le_of_ble_eq_true rfl) dL_law_969 ⟨by have := hcs.1; omega, by have := hcs.2; omega⟩ (fun H locs hH => ?_)
  refine lv_aload_n hx hb dL_law_972 rfl (lv_at hl 2 rfl) ?_
  refine iv_L_133 l X hH hRL (by decide) e2 hl.1 (Nat.le_of_ble_eq_true rfl) dL_law_973 ⟨by have := hcs.1; omega, by have := hcs.2; omega⟩ (fun H locs hH => ?_)
  refine lv_icmp_eq (tgt := 1319) hx hb dL_law_976 (by decide) (fun _ => ?_) (fun hc => ?_)
  · refine W.widen (k := cells + 42) (n := slots + 84) (by omega) (by omega) ?_
    exact kk _ _ _ hI2 hH
  · exact absurd rfl hc
set_option maxHeartbeats 4000000 in
set_option maxRecDepth 100000 in
theorem lc_fits {p : Program} {e : Env} {s : State} {m : MethodId} {below : List Frame} {meth : Method} {c : Code} {Q : State → Prop} {G : CG} {b L : Nat} {xs : Nat → Int32} (l : Launch) (I : Mm → Nat → Nat → Prop) (hS : PS_fits I) (X : Cx p s m #[Value.ref b] meth c cL_law 4 RL G) (hRL : RmL room_1 31) (hX : va_X b L xs s s.heap) (hbl : b < s.heap.size) (hbA : ¬ fA G b) {x3 : Int32} (h1 : vp_in (x3 + 1) L) (h2 : vp_in (x3 + 2) L) (h3 : vp_in (x3 + 3) L) (h4 : vp_in (x3 + 4) L) (h5 : vp_in (x3 + 5) L) {a1 a2 : Nat} {μ : Mm} {H : Heap} {locs : List Loc} {ls : Array Slot} {cells slots : Nat} (hI : I μ a1 a2) (hH : HS G s μ H locs) (hl : lv_has ls 4 [(0, .ref b), (1, .ref a1), (2, .ref a2), (3, .int x3)]) (hcs : cells + 42 ≤ room_1.cells ∧ slots + 84 ≤ room_1.slots) (kk : ∀ (μ2 : Mm) (H : Heap) (locs : List Loc), I μ2 a1 a2 → HS G s μ2 H locs → W p l e room_1 s m #[Value.ref b] below meth c H locs (cells + 42) (slots + 84) Q (F0 m 1319 ls [])) : W p l e room_1 s m #[Value.ref b] below meth c H locs cells slots Q (F0 m 981 ls []) := by
  have hx := X.1
  have hb := X.2.1
  obtain ⟨r, μ1, μ2, e1, e2, hI2⟩ := hS μ a1 a2 (xs (x3 + 1).toNatClampNeg) hI
  refine lv_aload_n hx hb dL_law_981 rfl (lv_at hl 1 rfl) ?_
  refine lv_aload_n hx hb dL_law_982 rfl (lv_at hl 0 rfl) ?_
  refine lv_iload_n hx hb dL_law_983 rfl (lv_at hl 3 rfl) ?_
  refine lv_iconst (v := 1) hx hb dL_law_984 (by decide) ?_
  refine lv_iadd hx hb dL_law_985 ?_
  refine va_sld hx hb hX hbl hbA hH.2 h1 dL_law_986 ?_
  refine iv_L_134 l X hH hRL (by decide) e1 hl.1 (Nat.le_of_ble_eq_true rfl) dL_law_987 ⟨by have := hcs.1; omega, by have := hcs.2; omega⟩ (fun H locs hH => ?_)
  refine lv_aload_n hx hb dL_law_990 rfl (lv_at hl 2 rfl) ?_
  refine lv_aload_n hx hb dL_law_991 rfl (lv_at hl 0 rfl) ?_
  refine lv_iload_n hx hb dL_law_992 rfl (lv_at hl 3 rfl) ?_
  refine lv_iconst (v := 1) hx hb dL_law_993 (by decide) ?_
  refine lv_iadd hx hb dL_law_994 ?_
  refine va_sld hx hb hX hbl hbA hH.2 h1 dL_law_995 ?_
  refine iv_L_137 l X hH hRL (by decide) e2 hl.1 (Nat.le_of_ble_eq_true rfl) dL_law_996 ⟨by have := hcs.1; omega, by have := hcs.2; omega⟩ (fun H locs hH => ?_)
  refine lv_icmp_eq (tgt := 1319) hx hb dL_law_999 (by decide) (fun _ => ?_) (fun hc => ?_)
  · refine W.widen (k := cells + 42) (n := slots + 84) (by omega) (by omega) ?_
    exact kk _ _ _ hI2 hH
  · exact absurd rfl hc
set_option maxHeartbeats 4000000 in
set_option maxRecDepth 100000 in
theorem lc_sure {p : Program} {e : Env} {s : State} {m : MethodId} {below : List Frame} {meth : Method} {c : Code} {Q : State → Prop} {G : CG} {b L : Nat} {xs : Nat → Int32} (l : Launch) (I : Mm → Nat → Nat → Prop) (hS : PS_sure I) (X : Cx p s m #[Value.ref b] meth c cL_law 4 RL G) (hRL : RmL room_1 31) (hX : va_X b L xs s s.heap) (hbl : b < s.heap.size) (hbA : ¬ fA G b) {x3 : Int32} (h1 : vp_in (x3 + 1) L) (h2 : vp_in (x3 + 2) L) (h3 : vp_in (x3 + 3) L) (h4 : vp_in (x3 + 4) L) (h5 : vp_in (x3 + 5) L) {a1 a2 : Nat} {μ : Mm} {H : Heap} {locs : List Loc} {ls : Array Slot} {cells slots : Nat} (hI : I μ a1 a2) (hH : HS G s μ H locs) (hl : lv_has ls 4 [(0, .ref b), (1, .ref a1), (2, .ref a2), (3, .int x3)]) (hcs : cells + 42 ≤ room_1.cells ∧ slots + 84 ≤ room_1.slots) (kk : ∀ (μ2 : Mm) (H : Heap) (locs : List Loc), I μ2 a1 a2 → HS G s μ2 H locs → W p l e room_1 s m #[Value.ref b] below meth c H locs (cells + 42) (slots + 84) Q (F0 m 1319 ls [])) : W p l e room_1 s m #[Value.ref b] below meth c H locs cells slots Q (F0 m 1004 ls []) := by
  have hx := X.1
  have hb := X.2.1
  obtain ⟨r, μ1, μ2, e1, e2, hI2⟩ := hS μ a1 a2 (xs (x3 + 1).toNatClampNeg) hI
  refine lv_aload_n hx hb dL_law_1004 rfl (lv_at hl 1 rfl) ?_
  refine lv_aload_n hx hb dL_law_1005 rfl (lv_at hl 0 rfl) ?_
  refine lv_iload_n hx hb dL_law_1006 rfl (lv_at hl 3 rfl) ?_
  refine lv_iconst (v := 1) hx hb dL_law_1007 (by decide) ?_
  refine lv_iadd hx hb dL_law_1008 ?_
  refine va_sld hx hb hX hbl hbA hH.2 h1 dL_law_1009 ?_
  refine iv_L_138 l X hH hRL (by decide) e1 hl.1 (Nat.le_of_ble_eq_true rfl) dL_law_1010 ⟨by have := hcs.1; omega, by have := hcs.2; omega⟩ (fun H locs hH => ?_)
  refine lv_aload_n hx hb dL_law_1013 rfl (lv_at hl 2 rfl) ?_
  refine lv_aload_n hx hb dL_law_1014 rfl (lv_at hl 0 rfl) ?_
  refine lv_iload_n hx hb dL_law_1015 rfl (lv_at hl 3 rfl) ?_
  refine lv_iconst (v := 1) hx hb dL_law_1016 (by decide) ?_
  refine lv_iadd hx hb dL_law_1017 ?_
  refine va_sld hx hb hX hbl hbA hH.2 h1 dL_law_1018 ?_
  refine iv_L_141 l X hH hRL (by decide) e2 hl.1 (Nat.le_of_ble_eq_true rfl) dL_law_1019 ⟨by have := hcs.1; omega, by have := hcs.2; omega⟩ (fun H locs hH => ?_)
  refine lv_icmp_eq (tgt := 1319) hx hb dL_law_1022 (by decide) (fun _ => ?_) (fun hc => ?_)
  · refine W.widen (k := cells + 42) (n := slots + 84) (by omega) (by omega) ?_
    exact kk _ _ _ hI2 hH
  · exact absurd rfl hc
set_option maxHeartbeats 4000000 in
set_option maxRecDepth 100000 in
theorem lc_ask {p : Program} {e : Env} {s : State} {m : MethodId} {below : List Frame} {meth : Method} {c : Code} {Q : State → Prop} {G : CG} {b L : Nat} {xs : Nat → Int32} (l : Launch) (I : Mm → Nat → Nat → Prop) (hS : PS_ask I) (X : Cx p s m #[Value.ref b] meth c cL_law 4 RL G) (hRL : RmL room_1 31) (hX : va_X b L xs s s.heap) (hbl : b < s.heap.size) (hbA : ¬ fA G b) {x3 : Int32} (h1 : vp_in (x3 + 1) L) (h2 : vp_in (x3 + 2) L) (h3 : vp_in (x3 + 3) L) (h4 : vp_in (x3 + 4) L) (h5 : vp_in (x3 + 5) L) {a1 a2 : Nat} {μ : Mm} {H : Heap} {locs : List Loc} {ls : Array Slot} {cells slots : Nat} (hI : I μ a1 a2) (hH : HS G s μ H locs) (hl : lv_has ls 4 [(0, .ref b), (1, .ref a1), (2, .ref a2), (3, .int x3)]) (hcs : cells + 42 ≤ room_1.cells ∧ slots + 84 ≤ room_1.slots) (kk : ∀ (μ2 : Mm) (H : Heap) (locs : List Loc), I μ2 a1 a2 → HS G s μ2 H locs → W p l e room_1 s m #[Value.ref b] below meth c H locs (cells + 42) (slots + 84) Q (F0 m 1319 ls [])) : W p l e room_1 s m #[Value.ref b] below meth c H locs cells slots Q (F0 m 1027 ls []) := by
  have hx := X.1
  have hb := X.2.1
  obtain ⟨r, μ1, μ2, e1, e2, hI2⟩ := hS μ a1 a2 (xs (x3 + 1).toNatClampNeg) hI
  refine lv_aload_n hx hb dL_law_1027 rfl (lv_at hl 1 rfl) ?_
  refine lv_aload_n hx hb dL_law_1028 rfl (lv_at hl 0 rfl) ?_
  refine lv_iload_n hx hb dL_law_1029 rfl (lv_at hl 3 rfl) ?_
  refine lv_iconst (v := 1) hx hb dL_law_1030 (by decide) ?_
  refine lv_iadd hx hb dL_law_1031 ?_
  refine va_sld hx hb hX hbl hbA hH.2 h1 dL_law_1032 ?_
  refine iv_L_142 l X hH hRL (by decide) e1 hl.1 (Nat.le_of_ble_eq_true rfl) dL_law_1033 ⟨by have := hcs.1; omega, by have := hcs.2; omega⟩ (fun H locs hH => ?_)
  refine lv_aload_n hx hb dL_law_1036 rfl (lv_at hl 2 rfl) ?_
  refine lv_aload_n hx hb dL_law_1037 rfl (lv_at hl 0 rfl) ?_
  refine lv_iload_n hx hb dL_law_1038 rfl (lv_at hl 3 rfl) ?_
  refine lv_iconst (v := 1) hx hb dL_law_1039 (by decide) ?_
  refine lv_iadd hx hb dL_law_1040 ?_
  refine va_sld hx hb hX hbl hbA hH.2 h1 dL_law_1041 ?_
  refine iv_L_145 l X hH hRL (by decide) e2 hl.1 (Nat.le_of_ble_eq_true rfl) dL_law_1042 ⟨by have := hcs.1; omega, by have := hcs.2; omega⟩ (fun H locs hH => ?_)
  refine lv_icmp_eq (tgt := 1319) hx hb dL_law_1045 (by decide) (fun _ => ?_) (fun hc => ?_)
  · refine W.widen (k := cells + 42) (n := slots + 84) (by omega) (by omega) ?_
    exact kk _ _ _ hI2 hH
  · exact absurd rfl hc
set_option maxHeartbeats 4000000 in
set_option maxRecDepth 100000 in
theorem lc_noon {p : Program} {e : Env} {s : State} {m : MethodId} {below : List Frame} {meth : Method} {c : Code} {Q : State → Prop} {G : CG} {b L : Nat} {xs : Nat → Int32} (l : Launch) (I : Mm → Nat → Nat → Prop) (hS : PS_noon I) (X : Cx p s m #[Value.ref b] meth c cL_law 4 RL G) (hRL : RmL room_1 31) (hX : va_X b L xs s s.heap) (hbl : b < s.heap.size) (hbA : ¬ fA G b) {x3 : Int32} (h1 : vp_in (x3 + 1) L) (h2 : vp_in (x3 + 2) L) (h3 : vp_in (x3 + 3) L) (h4 : vp_in (x3 + 4) L) (h5 : vp_in (x3 + 5) L) {a1 a2 : Nat} {μ : Mm} {H : Heap} {locs : List Loc} {ls : Array Slot} {cells slots : Nat} (hI : I μ a1 a2) (hH : HS G s μ H locs) (hl : lv_has ls 4 [(0, .ref b), (1, .ref a1), (2, .ref a2), (3, .int x3)]) (hcs : cells + 42 ≤ room_1.cells ∧ slots + 84 ≤ room_1.slots) (kk : ∀ (μ2 : Mm) (H : Heap) (locs : List Loc), I μ2 a1 a2 → HS G s μ2 H locs → W p l e room_1 s m #[Value.ref b] below meth c H locs (cells + 42) (slots + 84) Q (F0 m 1319 ls [])) : W p l e room_1 s m #[Value.ref b] below meth c H locs cells slots Q (F0 m 1050 ls []) := by
  have hx := X.1
  have hb := X.2.1
  obtain ⟨r, e1, e2, hI2⟩ := hS μ a1 a2 (xs (x3 + 1).toNatClampNeg) hI
  refine lv_aload_n hx hb dL_law_1050 rfl (lv_at hl 1 rfl) ?_
  refine lv_aload_n hx hb dL_law_1051 rfl (lv_at hl 0 rfl) ?_
  refine lv_iload_n hx hb dL_law_1052 rfl (lv_at hl 3 rfl) ?_
  refine lv_iconst (v := 1) hx hb dL_law_1053 (by decide) ?_
  refine lv_iadd hx hb dL_law_1054 ?_
  refine va_sld hx hb hX hbl hbA hH.2 h1 dL_law_1055 ?_
  refine iv_L_146 l X hH hRL (by decide) e1 hl.1 (Nat.le_of_ble_eq_true rfl) dL_law_1056 ⟨by have := hcs.1; omega, by have := hcs.2; omega⟩ (fun H locs hH => ?_)
  refine lv_aload_n hx hb dL_law_1059 rfl (lv_at hl 2 rfl) ?_
  refine lv_aload_n hx hb dL_law_1060 rfl (lv_at hl 0 rfl) ?_
  refine lv_iload_n hx hb dL_law_1061 rfl (lv_at hl 3 rfl) ?_
  refine lv_iconst (v := 1) hx hb dL_law_1062 (by decide) ?_
  refine lv_iadd hx hb dL_law_1063 ?_
  refine va_sld hx hb hX hbl hbA hH.2 h1 dL_law_1064 ?_
  refine iv_L_149 l X hH hRL (by decide) e2 hl.1 (Nat.le_of_ble_eq_true rfl) dL_law_1065 ⟨by have := hcs.1; omega, by have := hcs.2; omega⟩ (fun H locs hH => ?_)
  refine lv_icmp_eq (tgt := 1319) hx hb dL_law_1068 (by decide) (fun _ => ?_) (fun hc => ?_)
  · refine W.widen (k := cells + 42) (n := slots + 84) (by omega) (by omega) ?_
    exact kk _ _ _ hI2 hH
  · exact absurd rfl hc
set_option maxHeartbeats 4000000 in
set_option maxRecDepth 100000 in
theorem lc_both {p : Program} {e : Env} {s : State} {m : MethodId} {below : List Frame} {meth : Method} {c : Code} {Q : State → Prop} {G : CG} {b L : Nat} {xs : Nat → Int32} (l : Launch) (I : Mm → Nat → Nat → Prop) (hS : PS_both I) (X : Cx p s m #[Value.ref b] meth c cL_law 4 RL G) (hRL : RmL room_1 31) (hX : va_X b L xs s s.heap) (hbl : b < s.heap.size) (hbA : ¬ fA G b) {x3 : Int32} (h1 : vp_in (x3 + 1) L) (h2 : vp_in (x3 + 2) L) (h3 : vp_in (x3 + 3) L) (h4 : vp_in (x3 + 4) L) (h5 : vp_in (x3 + 5) L) {a1 a2 : Nat} {μ : Mm} {H : Heap} {locs : List Loc} {ls : Array Slot} {cells slots : Nat} (hI : I μ a1 a2) (hH : HS G s μ H locs) (hl : lv_has ls 4 [(0, .ref b), (1, .ref a1), (2, .ref a2), (3, .int x3)]) (hcs : cells + 42 ≤ room_1.cells ∧ slots + 84 ≤ room_1.slots) (kk : ∀ (μ2 : Mm) (H : Heap) (locs : List Loc), I μ2 a1 a2 → HS G s μ2 H locs → W p l e room_1 s m #[Value.ref b] below meth c H locs (cells + 42) (slots + 84) Q (F0 m 1319 ls [])) : W p l e room_1 s m #[Value.ref b] below meth c H locs cells slots Q (F0 m 1073 ls []) := by
  have hx := X.1
  have hb := X.2.1
  obtain ⟨r, μ1, μ2, e1, e2, hI2⟩ := hS μ a1 a2 (xs (x3 + 1).toNatClampNeg) (xs (x3 + 2).toNatClampNeg) (xs (x3 + 3).toNatClampNeg) hI
  refine lv_aload_n hx hb dL_law_1073 rfl (lv_at hl 1 rfl) ?_
  refine lv_aload_n hx hb dL_law_1074 rfl (lv_at hl 0 rfl) ?_
  refine lv_iload_n hx hb dL_law_1075 rfl (lv_at hl 3 rfl) ?_
  refine lv_iconst (v := 1) hx hb dL_law_1076 (by decide) ?_
  refine lv_iadd hx hb dL_law_1077 ?_
  refine va_sld hx hb hX hbl hbA hH.2 h1 dL_law_1078 ?_
  refine lv_aload_n hx hb dL_law_1079 rfl (lv_at hl 0 rfl) ?_
  refine lv_iload_n hx hb dL_law_1080 rfl (lv_at hl 3 rfl) ?_
  refine lv_iconst (v := 2) hx hb dL_law_1081 (by decide) ?_
  refine lv_iadd hx hb dL_law_1082 ?_
  refine va_sld hx hb hX hbl hbA hH.2 h2 dL_law_1083 ?_
  refine lv_aload_n hx hb dL_law_1084 rfl (lv_at hl 0 rfl) ?_
  refine lv_iload_n hx hb dL_law_1085 rfl (lv_at hl 3 rfl) ?_
  refine lv_iconst (v := 3) hx hb dL_law_1086 (by decide) ?_
  refine lv_iadd hx hb dL_law_1087 ?_
  refine va_sld hx hb hX hbl hbA hH.2 h3 dL_law_1088 ?_
  refine iv_L_150 l X hH hRL (by decide) e1 hl.1 (Nat.le_of_ble_eq_true rfl) dL_law_1089 ⟨by have := hcs.1; omega, by have := hcs.2; omega⟩ (fun H locs hH => ?_)
  refine lv_aload_n hx hb dL_law_1092 rfl (lv_at hl 2 rfl) ?_
  refine lv_aload_n hx hb dL_law_1093 rfl (lv_at hl 0 rfl) ?_
  refine lv_iload_n hx hb dL_law_1094 rfl (lv_at hl 3 rfl) ?_
  refine lv_iconst (v := 1) hx hb dL_law_1095 (by decide) ?_
  refine lv_iadd hx hb dL_law_1096 ?_
  refine va_sld hx hb hX hbl hbA hH.2 h1 dL_law_1097 ?_
  refine lv_aload_n hx hb dL_law_1098 rfl (lv_at hl 0 rfl) ?_
  refine lv_iload_n hx hb dL_law_1099 rfl (lv_at hl 3 rfl) ?_
  refine lv_iconst (v := 2) hx hb dL_law_1100 (by decide) ?_
  refine lv_iadd hx hb dL_law_1101 ?_
  refine va_sld hx hb hX hbl hbA hH.2 h2 dL_law_1102 ?_
  refine lv_aload_n hx hb dL_law_1103 rfl (lv_at hl 0 rfl) ?_
  refine lv_iload_n hx hb dL_law_1104 rfl (lv_at hl 3 rfl) ?_
  refine lv_iconst (v := 3) hx hb dL_law_1105 (by decide) ?_
  refine lv_iadd hx hb dL_law_1106 ?_
  refine va_sld hx hb hX hbl hbA hH.2 h3 dL_law_1107 ?_
  refine iv_L_153 l X hH hRL (by decide) e2 hl.1 (Nat.le_of_ble_eq_true rfl) dL_law_1108 ⟨by have := hcs.1; omega, by have := hcs.2; omega⟩ (fun H locs hH => ?_)
  refine lv_icmp_eq (tgt := 1319) hx hb dL_law_1111 (by decide) (fun _ => ?_) (fun hc => ?_)
  · refine W.widen (k := cells + 42) (n := slots + 84) (by omega) (by omega) ?_
    exact kk _ _ _ hI2 hH
  · exact absurd rfl hc
set_option maxHeartbeats 4000000 in
set_option maxRecDepth 100000 in
theorem lc_rent {p : Program} {e : Env} {s : State} {m : MethodId} {below : List Frame} {meth : Method} {c : Code} {Q : State → Prop} {G : CG} {b L : Nat} {xs : Nat → Int32} (l : Launch) (I : Mm → Nat → Nat → Prop) (hS : PS_rent I) (X : Cx p s m #[Value.ref b] meth c cL_law 4 RL G) (hRL : RmL room_1 31) (hX : va_X b L xs s s.heap) (hbl : b < s.heap.size) (hbA : ¬ fA G b) {x3 : Int32} (h1 : vp_in (x3 + 1) L) (h2 : vp_in (x3 + 2) L) (h3 : vp_in (x3 + 3) L) (h4 : vp_in (x3 + 4) L) (h5 : vp_in (x3 + 5) L) {a1 a2 : Nat} {μ : Mm} {H : Heap} {locs : List Loc} {ls : Array Slot} {cells slots : Nat} (hI : I μ a1 a2) (hH : HS G s μ H locs) (hl : lv_has ls 4 [(0, .ref b), (1, .ref a1), (2, .ref a2), (3, .int x3)]) (hcs : cells + 42 ≤ room_1.cells ∧ slots + 84 ≤ room_1.slots) (kk : ∀ (μ2 : Mm) (H : Heap) (locs : List Loc), I μ2 a1 a2 → HS G s μ2 H locs → W p l e room_1 s m #[Value.ref b] below meth c H locs (cells + 42) (slots + 84) Q (F0 m 1319 ls [])) : W p l e room_1 s m #[Value.ref b] below meth c H locs cells slots Q (F0 m 1116 ls []) := by
  have hx := X.1
  have hb := X.2.1
  obtain ⟨r, μ1, μ2, e1, e2, hI2⟩ := hS μ a1 a2 (xs (x3 + 1).toNatClampNeg) hI
  refine lv_aload_n hx hb dL_law_1116 rfl (lv_at hl 1 rfl) ?_
  refine lv_aload_n hx hb dL_law_1117 rfl (lv_at hl 0 rfl) ?_
  refine lv_iload_n hx hb dL_law_1118 rfl (lv_at hl 3 rfl) ?_
  refine lv_iconst (v := 1) hx hb dL_law_1119 (by decide) ?_
  refine lv_iadd hx hb dL_law_1120 ?_
  refine va_sld hx hb hX hbl hbA hH.2 h1 dL_law_1121 ?_
  refine iv_L_154 l X hH hRL (by decide) e1 hl.1 (Nat.le_of_ble_eq_true rfl) dL_law_1122 ⟨by have := hcs.1; omega, by have := hcs.2; omega⟩ (fun H locs hH => ?_)
  refine lv_aload_n hx hb dL_law_1125 rfl (lv_at hl 2 rfl) ?_
  refine lv_aload_n hx hb dL_law_1126 rfl (lv_at hl 0 rfl) ?_
  refine lv_iload_n hx hb dL_law_1127 rfl (lv_at hl 3 rfl) ?_
  refine lv_iconst (v := 1) hx hb dL_law_1128 (by decide) ?_
  refine lv_iadd hx hb dL_law_1129 ?_
  refine va_sld hx hb hX hbl hbA hH.2 h1 dL_law_1130 ?_
  refine iv_L_157 l X hH hRL (by decide) e2 hl.1 (Nat.le_of_ble_eq_true rfl) dL_law_1131 ⟨by have := hcs.1; omega, by have := hcs.2; omega⟩ (fun H locs hH => ?_)
  refine lv_icmp_eq (tgt := 1319) hx hb dL_law_1134 (by decide) (fun _ => ?_) (fun hc => ?_)
  · refine W.widen (k := cells + 42) (n := slots + 84) (by omega) (by omega) ?_
    exact kk _ _ _ hI2 hH
  · exact absurd rfl hc
set_option maxHeartbeats 4000000 in
set_option maxRecDepth 100000 in
theorem lc_odds {p : Program} {e : Env} {s : State} {m : MethodId} {below : List Frame} {meth : Method} {c : Code} {Q : State → Prop} {G : CG} {b L : Nat} {xs : Nat → Int32} (l : Launch) (I : Mm → Nat → Nat → Prop) (hS : PS_odds I) (X : Cx p s m #[Value.ref b] meth c cL_law 4 RL G) (hRL : RmL room_1 31) (hX : va_X b L xs s s.heap) (hbl : b < s.heap.size) (hbA : ¬ fA G b) {x3 : Int32} (h1 : vp_in (x3 + 1) L) (h2 : vp_in (x3 + 2) L) (h3 : vp_in (x3 + 3) L) (h4 : vp_in (x3 + 4) L) (h5 : vp_in (x3 + 5) L) {a1 a2 : Nat} {μ : Mm} {H : Heap} {locs : List Loc} {ls : Array Slot} {cells slots : Nat} (hI : I μ a1 a2) (hH : HS G s μ H locs) (hl : lv_has ls 4 [(0, .ref b), (1, .ref a1), (2, .ref a2), (3, .int x3)]) (hcs : cells + 42 ≤ room_1.cells ∧ slots + 84 ≤ room_1.slots) (kk : ∀ (μ2 : Mm) (H : Heap) (locs : List Loc), I μ2 a1 a2 → HS G s μ2 H locs → W p l e room_1 s m #[Value.ref b] below meth c H locs (cells + 42) (slots + 84) Q (F0 m 1319 ls [])) : W p l e room_1 s m #[Value.ref b] below meth c H locs cells slots Q (F0 m 1139 ls []) := by
  have hx := X.1
  have hb := X.2.1
  obtain ⟨r, μ1, μ2, e1, e2, hI2⟩ := hS μ a1 a2 (xs (x3 + 1).toNatClampNeg) (xs (x3 + 2).toNatClampNeg) hI
  refine lv_aload_n hx hb dL_law_1139 rfl (lv_at hl 1 rfl) ?_
  refine lv_aload_n hx hb dL_law_1140 rfl (lv_at hl 0 rfl) ?_
  refine lv_iload_n hx hb dL_law_1141 rfl (lv_at hl 3 rfl) ?_
  refine lv_iconst (v := 1) hx hb dL_law_1142 (by decide) ?_
  refine lv_iadd hx hb dL_law_1143 ?_
  refine va_sld hx hb hX hbl hbA hH.2 h1 dL_law_1144 ?_
  refine lv_aload_n hx hb dL_law_1145 rfl (lv_at hl 0 rfl) ?_
  refine lv_iload_n hx hb dL_law_1146 rfl (lv_at hl 3 rfl) ?_
  refine lv_iconst (v := 2) hx hb dL_law_1147 (by decide) ?_
  refine lv_iadd hx hb dL_law_1148 ?_
  refine va_sld hx hb hX hbl hbA hH.2 h2 dL_law_1149 ?_
  refine iv_L_158 l X hH hRL (by decide) e1 hl.1 (Nat.le_of_ble_eq_true rfl) dL_law_1150 ⟨by have := hcs.1; omega, by have := hcs.2; omega⟩ (fun H locs hH => ?_)
  refine lv_aload_n hx hb dL_law_1153 rfl (lv_at hl 2 rfl) ?_
  refine lv_aload_n hx hb dL_law_1154 rfl (lv_at hl 0 rfl) ?_
  refine lv_iload_n hx hb dL_law_1155 rfl (lv_at hl 3 rfl) ?_
  refine lv_iconst (v := 1) hx hb dL_law_1156 (by decide) ?_
  refine lv_iadd hx hb dL_law_1157 ?_
  refine va_sld hx hb hX hbl hbA hH.2 h1 dL_law_1158 ?_
  refine lv_aload_n hx hb dL_law_1159 rfl (lv_at hl 0 rfl) ?_
  refine lv_iload_n hx hb dL_law_1160 rfl (lv_at hl 3 rfl) ?_
  refine lv_iconst (v := 2) hx hb dL_law_1161 (by decide) ?_
  refine lv_iadd hx hb dL_law_1162 ?_
  refine va_sld hx hb hX hbl hbA hH.2 h2 dL_law_1163 ?_
  refine iv_L_161 l X hH hRL (by decide) e2 hl.1 (Nat.le_of_ble_eq_true rfl) dL_law_1164 ⟨by have := hcs.1; omega, by have := hcs.2; omega⟩ (fun H locs hH => ?_)
  refine lv_icmp_eq (tgt := 1319) hx hb dL_law_1167 (by decide) (fun _ => ?_) (fun hc => ?_)
  · refine W.widen (k := cells + 42) (n := slots + 84) (by omega) (by omega) ?_
    exact kk _ _ _ hI2 hH
  · exact absurd rfl hc
set_option maxHeartbeats 4000000 in
set_option maxRecDepth 100000 in
theorem lc_lots {p : Program} {e : Env} {s : State} {m : MethodId} {below : List Frame} {meth : Method} {c : Code} {Q : State → Prop} {G : CG} {b L : Nat} {xs : Nat → Int32} (l : Launch) (I : Mm → Nat → Nat → Prop) (hS : PS_lots I) (X : Cx p s m #[Value.ref b] meth c cL_law 4 RL G) (hRL : RmL room_1 31) (hX : va_X b L xs s s.heap) (hbl : b < s.heap.size) (hbA : ¬ fA G b) {x3 : Int32} (h1 : vp_in (x3 + 1) L) (h2 : vp_in (x3 + 2) L) (h3 : vp_in (x3 + 3) L) (h4 : vp_in (x3 + 4) L) (h5 : vp_in (x3 + 5) L) {a1 a2 : Nat} {μ : Mm} {H : Heap} {locs : List Loc} {ls : Array Slot} {cells slots : Nat} (hI : I μ a1 a2) (hH : HS G s μ H locs) (hl : lv_has ls 4 [(0, .ref b), (1, .ref a1), (2, .ref a2), (3, .int x3)]) (hcs : cells + 42 ≤ room_1.cells ∧ slots + 84 ≤ room_1.slots) (kk : ∀ (μ2 : Mm) (H : Heap) (locs : List Loc), I μ2 a1 a2 → HS G s μ2 H locs → W p l e room_1 s m #[Value.ref b] below meth c H locs (cells + 42) (slots + 84) Q (F0 m 1319 ls [])) : W p l e room_1 s m #[Value.ref b] below meth c H locs cells slots Q (F0 m 1172 ls []) := by
  have hx := X.1
  have hb := X.2.1
  obtain ⟨r, μ1, μ2, e1, e2, hI2⟩ := hS μ a1 a2 (xs (x3 + 1).toNatClampNeg) (xs (x3 + 2).toNatClampNeg) hI
  refine lv_aload_n hx hb dL_law_1172 rfl (lv_at hl 1 rfl) ?_
  refine lv_aload_n hx hb dL_law_1173 rfl (lv_at hl 0 rfl) ?_
  refine lv_iload_n hx hb dL_law_1174 rfl (lv_at hl 3 rfl) ?_
  refine lv_iconst (v := 1) hx hb dL_law_1175 (by decide) ?_
  refine lv_iadd hx hb dL_law_1176 ?_
  refine va_sld hx hb hX hbl hbA hH.2 h1 dL_law_1177 ?_
  refine lv_aload_n hx hb dL_law_1178 rfl (lv_at hl 0 rfl) ?_
  refine lv_iload_n hx hb dL_law_1179 rfl (lv_at hl 3 rfl) ?_
  refine lv_iconst (v := 2) hx hb dL_law_1180 (by decide) ?_
  refine lv_iadd hx hb dL_law_1181 ?_
  refine va_sld hx hb hX hbl hbA hH.2 h2 dL_law_1182 ?_
  refine iv_L_162 l X hH hRL (by decide) e1 hl.1 (Nat.le_of_ble_eq_true rfl) dL_law_1183 ⟨by have := hcs.1; omega, by have := hcs.2; omega⟩ (fun H locs hH => ?_)
  refine lv_aload_n hx hb dL_law_1186 rfl (lv_at hl 2 rfl) ?_
  refine lv_aload_n hx hb dL_law_1187 rfl (lv_at hl 0 rfl) ?_
  refine lv_iload_n hx hb dL_law_1188 rfl (lv_at hl 3 rfl) ?_
  refine lv_iconst (v := 1) hx hb dL_law_1189 (by decide) ?_
  refine lv_iadd hx hb dL_law_1190 ?_
  refine va_sld hx hb hX hbl hbA hH.2 h1 dL_law_1191 ?_
  refine lv_aload_n hx hb dL_law_1192 rfl (lv_at hl 0 rfl) ?_
  refine lv_iload_n hx hb dL_law_1193 rfl (lv_at hl 3 rfl) ?_
  refine lv_iconst (v := 2) hx hb dL_law_1194 (by decide) ?_
  refine lv_iadd hx hb dL_law_1195 ?_
  refine va_sld hx hb hX hbl hbA hH.2 h2 dL_law_1196 ?_
  refine iv_L_165 l X hH hRL (by decide) e2 hl.1 (Nat.le_of_ble_eq_true rfl) dL_law_1197 ⟨by have := hcs.1; omega, by have := hcs.2; omega⟩ (fun H locs hH => ?_)
  refine lv_icmp_eq (tgt := 1319) hx hb dL_law_1200 (by decide) (fun _ => ?_) (fun hc => ?_)
  · refine W.widen (k := cells + 42) (n := slots + 84) (by omega) (by omega) ?_
    exact kk _ _ _ hI2 hH
  · exact absurd rfl hc
set_option maxHeartbeats 4000000 in
set_option maxRecDepth 100000 in
theorem lc_asked {p : Program} {e : Env} {s : State} {m : MethodId} {below : List Frame} {meth : Method} {c : Code} {Q : State → Prop} {G : CG} {b L : Nat} {xs : Nat → Int32} (l : Launch) (I : Mm → Nat → Nat → Prop) (hS : PS_asked I) (X : Cx p s m #[Value.ref b] meth c cL_law 4 RL G) (hRL : RmL room_1 31) (hX : va_X b L xs s s.heap) (hbl : b < s.heap.size) (hbA : ¬ fA G b) {x3 : Int32} (h1 : vp_in (x3 + 1) L) (h2 : vp_in (x3 + 2) L) (h3 : vp_in (x3 + 3) L) (h4 : vp_in (x3 + 4) L) (h5 : vp_in (x3 + 5) L) {a1 a2 : Nat} {μ : Mm} {H : Heap} {locs : List Loc} {ls : Array Slot} {cells slots : Nat} (hI : I μ a1 a2) (hH : HS G s μ H locs) (hl : lv_has ls 4 [(0, .ref b), (1, .ref a1), (2, .ref a2), (3, .int x3)]) (hcs : cells + 42 ≤ room_1.cells ∧ slots + 84 ≤ room_1.slots) (kk : ∀ (μ2 : Mm) (H : Heap) (locs : List Loc), I μ2 a1 a2 → HS G s μ2 H locs → W p l e room_1 s m #[Value.ref b] below meth c H locs (cells + 42) (slots + 84) Q (F0 m 1319 ls [])) : W p l e room_1 s m #[Value.ref b] below meth c H locs cells slots Q (F0 m 1205 ls []) := by
  have hx := X.1
  have hb := X.2.1
  obtain ⟨r, e1, e2, hI2⟩ := hS μ a1 a2 hI
  refine lv_aload_n hx hb dL_law_1205 rfl (lv_at hl 1 rfl) ?_
  refine iv_L_166 l X hH hRL (by decide) e1 hl.1 (Nat.le_of_ble_eq_true rfl) dL_law_1206 ⟨by have := hcs.1; omega, by have := hcs.2; omega⟩ (fun H locs hH => ?_)
  refine lv_aload_n hx hb dL_law_1209 rfl (lv_at hl 2 rfl) ?_
  refine iv_L_169 l X hH hRL (by decide) e2 hl.1 (Nat.le_of_ble_eq_true rfl) dL_law_1210 ⟨by have := hcs.1; omega, by have := hcs.2; omega⟩ (fun H locs hH => ?_)
  refine lv_icmp_eq (tgt := 1319) hx hb dL_law_1213 (by decide) (fun _ => ?_) (fun hc => ?_)
  · refine W.widen (k := cells + 42) (n := slots + 84) (by omega) (by omega) ?_
    exact kk _ _ _ hI2 hH
  · exact absurd rfl hc
set_option maxHeartbeats 4000000 in
set_option maxRecDepth 100000 in
theorem lc_upper {p : Program} {e : Env} {s : State} {m : MethodId} {below : List Frame} {meth : Method} {c : Code} {Q : State → Prop} {G : CG} {b L : Nat} {xs : Nat → Int32} (l : Launch) (I : Mm → Nat → Nat → Prop) (hS : PS_upper I) (X : Cx p s m #[Value.ref b] meth c cL_law 4 RL G) (hRL : RmL room_1 31) (hX : va_X b L xs s s.heap) (hbl : b < s.heap.size) (hbA : ¬ fA G b) {x3 : Int32} (h1 : vp_in (x3 + 1) L) (h2 : vp_in (x3 + 2) L) (h3 : vp_in (x3 + 3) L) (h4 : vp_in (x3 + 4) L) (h5 : vp_in (x3 + 5) L) {a1 a2 : Nat} {μ : Mm} {H : Heap} {locs : List Loc} {ls : Array Slot} {cells slots : Nat} (hI : I μ a1 a2) (hH : HS G s μ H locs) (hl : lv_has ls 4 [(0, .ref b), (1, .ref a1), (2, .ref a2), (3, .int x3)]) (hcs : cells + 42 ≤ room_1.cells ∧ slots + 84 ≤ room_1.slots) (kk : ∀ (μ2 : Mm) (H : Heap) (locs : List Loc), I μ2 a1 a2 → HS G s μ2 H locs → W p l e room_1 s m #[Value.ref b] below meth c H locs (cells + 42) (slots + 84) Q (F0 m 1319 ls [])) : W p l e room_1 s m #[Value.ref b] below meth c H locs cells slots Q (F0 m 1218 ls []) := by
  have hx := X.1
  have hb := X.2.1
  obtain ⟨r, e1, e2, hI2⟩ := hS μ a1 a2 hI
  refine lv_aload_n hx hb dL_law_1218 rfl (lv_at hl 1 rfl) ?_
  refine iv_L_170 l X hH hRL (by decide) e1 hl.1 (Nat.le_of_ble_eq_true rfl) dL_law_1219 ⟨by have := hcs.1; omega, by have := hcs.2; omega⟩ (fun H locs hH => ?_)
  refine lv_aload_n hx hb dL_law_1222 rfl (lv_at hl 2 rfl) ?_
  refine iv_L_174 l X hH hRL (by decide) e2 hl.1 (Nat.le_of_ble_eq_true rfl) dL_law_1223 ⟨by have := hcs.1; omega, by have := hcs.2; omega⟩ (fun H locs hH => ?_)
  refine W.lcmp hx hb dL_law_1226 ?_
  refine lv_if_eq (tgt := 1319) hx hb dL_law_1227 (by decide) (fun _ => ?_) (fun hc => ?_)
  · refine W.widen (k := cells + 42) (n := slots + 84) (by omega) (by omega) ?_
    exact kk _ _ _ hI2 hH
  · exact absurd (by simp [lg_cmp]) hc
set_option maxHeartbeats 4000000 in
set_option maxRecDepth 100000 in
theorem lc_lower {p : Program} {e : Env} {s : State} {m : MethodId} {below : List Frame} {meth : Method} {c : Code} {Q : State → Prop} {G : CG} {b L : Nat} {xs : Nat → Int32} (l : Launch) (I : Mm → Nat → Nat → Prop) (hS : PS_lower I) (X : Cx p s m #[Value.ref b] meth c cL_law 4 RL G) (hRL : RmL room_1 31) (hX : va_X b L xs s s.heap) (hbl : b < s.heap.size) (hbA : ¬ fA G b) {x3 : Int32} (h1 : vp_in (x3 + 1) L) (h2 : vp_in (x3 + 2) L) (h3 : vp_in (x3 + 3) L) (h4 : vp_in (x3 + 4) L) (h5 : vp_in (x3 + 5) L) {a1 a2 : Nat} {μ : Mm} {H : Heap} {locs : List Loc} {ls : Array Slot} {cells slots : Nat} (hI : I μ a1 a2) (hH : HS G s μ H locs) (hl : lv_has ls 4 [(0, .ref b), (1, .ref a1), (2, .ref a2), (3, .int x3)]) (hcs : cells + 42 ≤ room_1.cells ∧ slots + 84 ≤ room_1.slots) (kk : ∀ (μ2 : Mm) (H : Heap) (locs : List Loc), I μ2 a1 a2 → HS G s μ2 H locs → W p l e room_1 s m #[Value.ref b] below meth c H locs (cells + 42) (slots + 84) Q (F0 m 1319 ls [])) : W p l e room_1 s m #[Value.ref b] below meth c H locs cells slots Q (F0 m 1232 ls []) := by
  have hx := X.1
  have hb := X.2.1
  obtain ⟨r, e1, e2, hI2⟩ := hS μ a1 a2 hI
  refine lv_aload_n hx hb dL_law_1232 rfl (lv_at hl 1 rfl) ?_
  refine iv_L_175 l X hH hRL (by decide) e1 hl.1 (Nat.le_of_ble_eq_true rfl) dL_law_1233 ⟨by have := hcs.1; omega, by have := hcs.2; omega⟩ (fun H locs hH => ?_)
  refine lv_aload_n hx hb dL_law_1236 rfl (lv_at hl 2 rfl) ?_
  refine iv_L_178 l X hH hRL (by decide) e2 hl.1 (Nat.le_of_ble_eq_true rfl) dL_law_1237 ⟨by have := hcs.1; omega, by have := hcs.2; omega⟩ (fun H locs hH => ?_)
  refine W.lcmp hx hb dL_law_1240 ?_
  refine lv_if_eq (tgt := 1319) hx hb dL_law_1241 (by decide) (fun _ => ?_) (fun hc => ?_)
  · refine W.widen (k := cells + 42) (n := slots + 84) (by omega) (by omega) ?_
    exact kk _ _ _ hI2 hH
  · exact absurd (by simp [lg_cmp]) hc
set_option maxHeartbeats 4000000 in
set_option maxRecDepth 100000 in
theorem lc_count {p : Program} {e : Env} {s : State} {m : MethodId} {below : List Frame} {meth : Method} {c : Code} {Q : State → Prop} {G : CG} {b L : Nat} {xs : Nat → Int32} (l : Launch) (I : Mm → Nat → Nat → Prop) (hS : PS_count I) (X : Cx p s m #[Value.ref b] meth c cL_law 4 RL G) (hRL : RmL room_1 31) (hX : va_X b L xs s s.heap) (hbl : b < s.heap.size) (hbA : ¬ fA G b) {x3 : Int32} (h1 : vp_in (x3 + 1) L) (h2 : vp_in (x3 + 2) L) (h3 : vp_in (x3 + 3) L) (h4 : vp_in (x3 + 4) L) (h5 : vp_in (x3 + 5) L) {a1 a2 : Nat} {μ : Mm} {H : Heap} {locs : List Loc} {ls : Array Slot} {cells slots : Nat} (hI : I μ a1 a2) (hH : HS G s μ H locs) (hl : lv_has ls 4 [(0, .ref b), (1, .ref a1), (2, .ref a2), (3, .int x3)]) (hcs : cells + 42 ≤ room_1.cells ∧ slots + 84 ≤ room_1.slots) (kk : ∀ (μ2 : Mm) (H : Heap) (locs : List Loc), I μ2 a1 a2 → HS G s μ2 H locs → W p l e room_1 s m #[Value.ref b] below meth c H locs (cells + 42) (slots + 84) Q (F0 m 1319 ls [])) : W p l e room_1 s m #[Value.ref b] below meth c H locs cells slots Q (F0 m 1246 ls []) := by
  have hx := X.1
  have hb := X.2.1
  obtain ⟨r, e1, e2, hI2⟩ := hS μ a1 a2 (xs (x3 + 1).toNatClampNeg) hI
  refine lv_aload_n hx hb dL_law_1246 rfl (lv_at hl 1 rfl) ?_
  refine lv_aload_n hx hb dL_law_1247 rfl (lv_at hl 0 rfl) ?_
  refine lv_iload_n hx hb dL_law_1248 rfl (lv_at hl 3 rfl) ?_
  refine lv_iconst (v := 1) hx hb dL_law_1249 (by decide) ?_
  refine lv_iadd hx hb dL_law_1250 ?_
  refine va_sld hx hb hX hbl hbA hH.2 h1 dL_law_1251 ?_
  refine iv_L_179 l X hH hRL (by decide) e1 hl.1 (Nat.le_of_ble_eq_true rfl) dL_law_1252 ⟨by have := hcs.1; omega, by have := hcs.2; omega⟩ (fun H locs hH => ?_)
  refine lv_aload_n hx hb dL_law_1255 rfl (lv_at hl 2 rfl) ?_
  refine lv_aload_n hx hb dL_law_1256 rfl (lv_at hl 0 rfl) ?_
  refine lv_iload_n hx hb dL_law_1257 rfl (lv_at hl 3 rfl) ?_
  refine lv_iconst (v := 1) hx hb dL_law_1258 (by decide) ?_
  refine lv_iadd hx hb dL_law_1259 ?_
  refine va_sld hx hb hX hbl hbA hH.2 h1 dL_law_1260 ?_
  refine iv_L_182 l X hH hRL (by decide) e2 hl.1 (Nat.le_of_ble_eq_true rfl) dL_law_1261 ⟨by have := hcs.1; omega, by have := hcs.2; omega⟩ (fun H locs hH => ?_)
  refine lv_icmp_eq (tgt := 1319) hx hb dL_law_1264 (by decide) (fun _ => ?_) (fun hc => ?_)
  · refine W.widen (k := cells + 42) (n := slots + 84) (by omega) (by omega) ?_
    exact kk _ _ _ hI2 hH
  · exact absurd rfl hc
set_option maxHeartbeats 4000000 in
set_option maxRecDepth 100000 in
theorem lc_finding {p : Program} {e : Env} {s : State} {m : MethodId} {below : List Frame} {meth : Method} {c : Code} {Q : State → Prop} {G : CG} {b L : Nat} {xs : Nat → Int32} (l : Launch) (I : Mm → Nat → Nat → Prop) (hS : PS_finding I) (X : Cx p s m #[Value.ref b] meth c cL_law 4 RL G) (hRL : RmL room_1 31) (hX : va_X b L xs s s.heap) (hbl : b < s.heap.size) (hbA : ¬ fA G b) {x3 : Int32} (h1 : vp_in (x3 + 1) L) (h2 : vp_in (x3 + 2) L) (h3 : vp_in (x3 + 3) L) (h4 : vp_in (x3 + 4) L) (h5 : vp_in (x3 + 5) L) {a1 a2 : Nat} {μ : Mm} {H : Heap} {locs : List Loc} {ls : Array Slot} {cells slots : Nat} (hI : I μ a1 a2) (hH : HS G s μ H locs) (hl : lv_has ls 4 [(0, .ref b), (1, .ref a1), (2, .ref a2), (3, .int x3)]) (hcs : cells + 42 ≤ room_1.cells ∧ slots + 84 ≤ room_1.slots) (kk : ∀ (μ2 : Mm) (H : Heap) (locs : List Loc), I μ2 a1 a2 → HS G s μ2 H locs → W p l e room_1 s m #[Value.ref b] below meth c H locs (cells + 42) (slots + 84) Q (F0 m 1319 ls [])) : W p l e room_1 s m #[Value.ref b] below meth c H locs cells slots Q (F0 m 1269 ls []) := by
  have hx := X.1
  have hb := X.2.1
  obtain ⟨r, e1, e2, hI2⟩ := hS μ a1 a2 hI
  refine lv_aload_n hx hb dL_law_1269 rfl (lv_at hl 1 rfl) ?_
  refine iv_L_183 l X hH hRL (by decide) e1 hl.1 (Nat.le_of_ble_eq_true rfl) dL_law_1270 ⟨by have := hcs.1; omega, by have := hcs.2; omega⟩ (fun H locs hH => ?_)
  refine lv_aload_n hx hb dL_law_1273 rfl (lv_at hl 2 rfl) ?_
  refine iv_L_186 l X hH hRL (by decide) e2 hl.1 (Nat.le_of_ble_eq_true rfl) dL_law_1274 ⟨by have := hcs.1; omega, by have := hcs.2; omega⟩ (fun H locs hH => ?_)
  refine lv_icmp_eq (tgt := 1319) hx hb dL_law_1277 (by decide) (fun _ => ?_) (fun hc => ?_)
  · refine W.widen (k := cells + 42) (n := slots + 84) (by omega) (by omega) ?_
    exact kk _ _ _ hI2 hH
  · exact absurd rfl hc
set_option maxHeartbeats 4000000 in
set_option maxRecDepth 100000 in
theorem lc_findings {p : Program} {e : Env} {s : State} {m : MethodId} {below : List Frame} {meth : Method} {c : Code} {Q : State → Prop} {G : CG} {b L : Nat} {xs : Nat → Int32} (l : Launch) (I : Mm → Nat → Nat → Prop) (hS : PS_findings I) (X : Cx p s m #[Value.ref b] meth c cL_law 4 RL G) (hRL : RmL room_1 31) (hX : va_X b L xs s s.heap) (hbl : b < s.heap.size) (hbA : ¬ fA G b) {x3 : Int32} (h1 : vp_in (x3 + 1) L) (h2 : vp_in (x3 + 2) L) (h3 : vp_in (x3 + 3) L) (h4 : vp_in (x3 + 4) L) (h5 : vp_in (x3 + 5) L) {a1 a2 : Nat} {μ : Mm} {H : Heap} {locs : List Loc} {ls : Array Slot} {cells slots : Nat} (hI : I μ a1 a2) (hH : HS G s μ H locs) (hl : lv_has ls 4 [(0, .ref b), (1, .ref a1), (2, .ref a2), (3, .int x3)]) (hcs : cells + 42 ≤ room_1.cells ∧ slots + 84 ≤ room_1.slots) (kk : ∀ (μ2 : Mm) (H : Heap) (locs : List Loc), I μ2 a1 a2 → HS G s μ2 H locs → W p l e room_1 s m #[Value.ref b] below meth c H locs (cells + 42) (slots + 84) Q (F0 m 1319 ls [])) : W p l e room_1 s m #[Value.ref b] below meth c H locs cells slots Q (F0 m 1282 ls []) := by
  have hx := X.1
  have hb := X.2.1
  obtain ⟨r, e1, e2, hI2⟩ := hS μ a1 a2 (xs (x3 + 1).toNatClampNeg) hI
  refine lv_aload_n hx hb dL_law_1282 rfl (lv_at hl 1 rfl) ?_
  refine lv_aload_n hx hb dL_law_1283 rfl (lv_at hl 0 rfl) ?_
  refine lv_iload_n hx hb dL_law_1284 rfl (lv_at hl 3 rfl) ?_
  refine lv_iconst (v := 1) hx hb dL_law_1285 (by decide) ?_
  refine lv_iadd hx hb dL_law_1286 ?_
  refine va_sld hx hb hX hbl hbA hH.2 h1 dL_law_1287 ?_
  refine iv_L_187 l X hH hRL (by decide) e1 hl.1 (Nat.le_of_ble_eq_true rfl) dL_law_1288 ⟨by have := hcs.1; omega, by have := hcs.2; omega⟩ (fun H locs hH => ?_)
  refine lv_aload_n hx hb dL_law_1291 rfl (lv_at hl 2 rfl) ?_
  refine lv_aload_n hx hb dL_law_1292 rfl (lv_at hl 0 rfl) ?_
  refine lv_iload_n hx hb dL_law_1293 rfl (lv_at hl 3 rfl) ?_
  refine lv_iconst (v := 1) hx hb dL_law_1294 (by decide) ?_
  refine lv_iadd hx hb dL_law_1295 ?_
  refine va_sld hx hb hX hbl hbA hH.2 h1 dL_law_1296 ?_
  refine iv_L_190 l X hH hRL (by decide) e2 hl.1 (Nat.le_of_ble_eq_true rfl) dL_law_1297 ⟨by have := hcs.1; omega, by have := hcs.2; omega⟩ (fun H locs hH => ?_)
  refine lv_icmp_eq (tgt := 1319) hx hb dL_law_1300 (by decide) (fun _ => ?_) (fun hc => ?_)
  · refine W.widen (k := cells + 42) (n := slots + 84) (by omega) (by omega) ?_
    exact kk _ _ _ hI2 hH
  · exact absurd rfl hc
set_option maxHeartbeats 4000000 in
set_option maxRecDepth 100000 in
theorem lc_digest {p : Program} {e : Env} {s : State} {m : MethodId} {below : List Frame} {meth : Method} {c : Code} {Q : State → Prop} {G : CG} {b L : Nat} {xs : Nat → Int32} (l : Launch) (I : Mm → Nat → Nat → Prop) (hS : PS_digest I) (X : Cx p s m #[Value.ref b] meth c cL_law 4 RL G) (hRL : RmL room_1 31) (hX : va_X b L xs s s.heap) (hbl : b < s.heap.size) (hbA : ¬ fA G b) {x3 : Int32} (h1 : vp_in (x3 + 1) L) (h2 : vp_in (x3 + 2) L) (h3 : vp_in (x3 + 3) L) (h4 : vp_in (x3 + 4) L) (h5 : vp_in (x3 + 5) L) {a1 a2 : Nat} {μ : Mm} {H : Heap} {locs : List Loc} {ls : Array Slot} {cells slots : Nat} (hI : I μ a1 a2) (hH : HS G s μ H locs) (hl : lv_has ls 4 [(0, .ref b), (1, .ref a1), (2, .ref a2), (3, .int x3)]) (hcs : cells + 42 ≤ room_1.cells ∧ slots + 84 ≤ room_1.slots) (kk : ∀ (μ2 : Mm) (H : Heap) (locs : List Loc), I μ2 a1 a2 → HS G s μ2 H locs → W p l e room_1 s m #[Value.ref b] below meth c H locs (cells + 42) (slots + 84) Q (F0 m 1319 ls [])) : W p l e room_1 s m #[Value.ref b] below meth c H locs cells slots Q (F0 m 1305 ls []) := by
  have hx := X.1
  have hb := X.2.1
  obtain ⟨r, μ2, e1, e2, hI2⟩ := hS μ a1 a2 hI
  refine lv_aload_n hx hb dL_law_1305 rfl (lv_at hl 1 rfl) ?_
  refine iv_L_191 l X hH hRL (by decide) e1 hl.1 (Nat.le_of_ble_eq_true rfl) dL_law_1306 ⟨by have := hcs.1; omega, by have := hcs.2; omega⟩ (fun H locs hH => ?_)
  refine lv_aload_n hx hb dL_law_1309 rfl (lv_at hl 2 rfl) ?_
  refine iv_L_194 l X hH hRL (by decide) e2 hl.1 (Nat.le_of_ble_eq_true rfl) dL_law_1310 ⟨by have := hcs.1; omega, by have := hcs.2; omega⟩ (fun H locs hH => ?_)
  refine W.lcmp hx hb dL_law_1313 ?_
  refine lv_if_eq (tgt := 1319) hx hb dL_law_1314 (by decide) (fun _ => ?_) (fun hc => ?_)
  · refine W.widen (k := cells + 42) (n := slots + 84) (by omega) (by omega) ?_
    exact kk _ _ _ hI2 hH
  · exact absurd (by simp [lg_cmp]) hc
