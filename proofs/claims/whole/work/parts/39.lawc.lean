
theorem q_379 : Cond.code yX9_append cX9_append 6 (some .int) ∈ TS := ts_t 379 (by decide +kernel) (by decide +kernel)
theorem q_376 : Cond.methodLink RL 130 yX9_append ∈ TS := ts_t 376 (by decide +kernel) (by decide +kernel)
theorem q_377 : Cond.instanceMethod yX9_append ∈ TS := ts_t 377 (by decide +kernel) (by decide +kernel)
theorem q_378 : Cond.selects yX9_append.cls yX9_append yX9_append ∈ TS := ts_t 378 (by decide +kernel) (by decide +kernel)
theorem k_L_130 : LkV RL 130 m_X9_append 5 := ⟨q_376, q_377, q_378, ⟨q_1, q_379, by decide, by decide, by decide +kernel⟩⟩
theorem q_1344 : Cond.code yX10_append cX10_append 6 (some .int) ∈ TS := ts_t 1344 (by decide +kernel) (by decide +kernel)
theorem q_1341 : Cond.methodLink RL 133 yX10_append ∈ TS := ts_t 1341 (by decide +kernel) (by decide +kernel)
theorem q_1342 : Cond.instanceMethod yX10_append ∈ TS := ts_t 1342 (by decide +kernel) (by decide +kernel)
theorem q_1343 : Cond.selects yX10_append.cls yX10_append yX10_append ∈ TS := ts_t 1343 (by decide +kernel) (by decide +kernel)
theorem k_L_133 : LkV RL 133 m_X10_append 5 := ⟨q_1341, q_1342, q_1343, ⟨q_11, q_1344, by decide, by decide, by decide +kernel⟩⟩
set_option maxHeartbeats 4000000 in
theorem lc_0 {p : Program} {l : Launch} {e : Env} {s : State} {m : MethodId} {args : Array Value} {below : List Frame} {meth : Method} {c : Code} {H : Heap} {locs : List Loc} {cells slots : Nat} {Q : State → Prop} {g : GT} {A : Nat → Prop} {ws : va_W} {ls : Array Slot} {b L : Nat} {xs : Nat → Int32} {i4 : Int32} {hx hm ho : Nat} {wc wd wd' we : va_W} {wc' wn1 wn2 : (Nat → Nat) → va_W} {k1 k2 mc1 ms1 : Nat} {kv bv tv : Int32} {fs1 fs2 fs3 : List Value} (X : Lx p s m args meth c g A b L xs i4) (w : Wd g A ws s.heap H locs) (hl : lv_has ls 7 [(0, .ref b), (1, .ref hx), (2, .ref hm), (3, .ref ho), (4, .int i4)]) (P1 : PM ws wc wc' wn1) (hK1 : ∀ sz, CI l m_X9_append (rml k1 mc1 ms1) g wc wc' sz [.ref hx, .int (xs (i4 + 1).toNatClampNeg), .int (xs (i4 + 2).toNatClampNeg), .int (xs (i4 + 3).toNatClampNeg), .int (xs (i4 + 4).toNatClampNeg), .int (xs (i4 + 5).toNatClampNeg)] kv) (hm1 : (hx, .inr (9, fs1)) ∈ wc) (P2 : ∀ u, PM (wn1 u) wd (fun _ => wd') (fun _ => wn2 u)) (hK2 : ∀ sz, CI l m_X10_append (rml k2 0 0) g wd (fun _ => wd') sz [.ref hm, .int (xs (i4 + 1).toNatClampNeg), .int (xs (i4 + 2).toNatClampNeg), .int (xs (i4 + 3).toNatClampNeg), .int (xs (i4 + 4).toNatClampNeg), .int (xs (i4 + 5).toNatClampNeg)] bv) (hm2 : (hm, .inr (10, fs2)) ∈ wd) (heq : kv = bv) (hk1 : k1 ≤ 100) (hk2 : k2 ≤ 100) (hc1 : cells + mc1 ≤ room_1.cells) (hs1 : slots + ms1 ≤ room_1.slots) (kk : ∀ (u : Nat → Nat) (H : Heap) (locs : List Loc) (ls : Array Slot), Wd g A (wn2 u) s.heap H locs → lv_has ls 7 [(0, .ref b), (1, .ref hx), (2, .ref hm), (3, .ref ho), (4, .int i4)] → W p l e room_1 s m args below meth c H locs (cells + mc1) (slots + ms1) Q (F0 m 2724 ls [])) : W p l e room_1 s m args below meth c H locs cells slots Q (F0 m 244 ls []) := by
  obtain ⟨C, hX, hbl, hbA, hi1, hi2, hi3, hi4, hi5⟩ := X
  have hx9 := C.1
  have hb : c.code = cL_law := C.2.1
  have hc2 : cells + mc1 + 0 ≤ room_1.cells := hc1
  have hs2 : slots + ms1 + 0 ≤ room_1.slots := hs1
  refine lv_aload_n hx9 hb dL_law_244 rfl (lv_at hl 1 rfl) ?_
  refine lv_aload_n hx9 hb dL_law_245 rfl (lv_at hl 0 rfl) ?_
  refine lv_iload hx9 hb dL_law_246 (lv_at hl 4 rfl) ?_
  refine lv_iconst (v := 1) hx9 hb dL_law_248 (by decide) ?_
  refine lv_iadd hx9 hb dL_law_249 ?_
  refine va_sld hx9 hb hX hbl hbA w.2.2 hi1 dL_law_250 ?_
  refine lv_aload_n hx9 hb dL_law_251 rfl (lv_at hl 0 rfl) ?_
  refine lv_iload hx9 hb dL_law_252 (lv_at hl 4 rfl) ?_
  refine lv_iconst (v := 2) hx9 hb dL_law_254 (by decide) ?_
  refine lv_iadd hx9 hb dL_law_255 ?_
  refine va_sld hx9 hb hX hbl hbA w.2.2 hi2 dL_law_256 ?_
  refine lv_aload_n hx9 hb dL_law_257 rfl (lv_at hl 0 rfl) ?_
  refine lv_iload hx9 hb dL_law_258 (lv_at hl 4 rfl) ?_
  refine lv_iconst (v := 3) hx9 hb dL_law_260 (by decide) ?_
  refine lv_iadd hx9 hb dL_law_261 ?_
  refine va_sld hx9 hb hX hbl hbA w.2.2 hi3 dL_law_262 ?_
  refine lv_aload_n hx9 hb dL_law_263 rfl (lv_at hl 0 rfl) ?_
  refine lv_iload hx9 hb dL_law_264 (lv_at hl 4 rfl) ?_
  refine lv_iconst (v := 4) hx9 hb dL_law_266 (by decide) ?_
  refine lv_iadd hx9 hb dL_law_267 ?_
  refine va_sld hx9 hb hX hbl hbA w.2.2 hi4 dL_law_268 ?_
  refine lv_aload_n hx9 hb dL_law_269 rfl (lv_at hl 0 rfl) ?_
  refine lv_iload hx9 hb dL_law_270 (lv_at hl 4 rfl) ?_
  refine lv_iconst (v := 5) hx9 hb dL_law_272 (by decide) ?_
  refine lv_iadd hx9 hb dL_law_273 ?_
  refine va_sld hx9 hb hX hbl hbA w.2.2 hi5 dL_law_274 ?_
  refine cm_iV C w P1 (hK1 _) k_L_130 (rm_law hk1 (by decide)) hm1 rfl rfl rfl hl.1 rfl (Nat.le_of_ble_eq_true rfl) dL_law_275 ⟨hc1, hs1⟩ (fun u H locs w => ?_)
  refine lv_aload_n hx9 hb dL_law_278 rfl (lv_at hl 2 rfl) ?_
  refine lv_aload_n hx9 hb dL_law_279 rfl (lv_at hl 0 rfl) ?_
  refine lv_iload hx9 hb dL_law_280 (lv_at hl 4 rfl) ?_
  refine lv_iconst (v := 1) hx9 hb dL_law_282 (by decide) ?_
  refine lv_iadd hx9 hb dL_law_283 ?_
  refine va_sld hx9 hb hX hbl hbA w.2.2 hi1 dL_law_284 ?_
  refine lv_aload_n hx9 hb dL_law_285 rfl (lv_at hl 0 rfl) ?_
  refine lv_iload hx9 hb dL_law_286 (lv_at hl 4 rfl) ?_
  refine lv_iconst (v := 2) hx9 hb dL_law_288 (by decide) ?_
  refine lv_iadd hx9 hb dL_law_289 ?_
  refine va_sld hx9 hb hX hbl hbA w.2.2 hi2 dL_law_290 ?_
  refine lv_aload_n hx9 hb dL_law_291 rfl (lv_at hl 0 rfl) ?_
  refine lv_iload hx9 hb dL_law_292 (lv_at hl 4 rfl) ?_
  refine lv_iconst (v := 3) hx9 hb dL_law_294 (by decide) ?_
  refine lv_iadd hx9 hb dL_law_295 ?_
  refine va_sld hx9 hb hX hbl hbA w.2.2 hi3 dL_law_296 ?_
  refine lv_aload_n hx9 hb dL_law_297 rfl (lv_at hl 0 rfl) ?_
  refine lv_iload hx9 hb dL_law_298 (lv_at hl 4 rfl) ?_
  refine lv_iconst (v := 4) hx9 hb dL_law_300 (by decide) ?_
  refine lv_iadd hx9 hb dL_law_301 ?_
  refine va_sld hx9 hb hX hbl hbA w.2.2 hi4 dL_law_302 ?_
  refine lv_aload_n hx9 hb dL_law_303 rfl (lv_at hl 0 rfl) ?_
  refine lv_iload hx9 hb dL_law_304 (lv_at hl 4 rfl) ?_
  refine lv_iconst (v := 5) hx9 hb dL_law_306 (by decide) ?_
  refine lv_iadd hx9 hb dL_law_307 ?_
  refine va_sld hx9 hb hX hbl hbA w.2.2 hi5 dL_law_308 ?_
  refine cm_iV C w (P2 u) (hK2 _) k_L_133 (rm_law hk2 (by decide)) hm2 rfl rfl rfl hl.1 rfl (Nat.le_of_ble_eq_true rfl) dL_law_309 ⟨hc2, hs2⟩ (fun _ H locs w => ?_)
  refine lv_icmp_eq (tgt := 2724) hx9 hb dL_law_312 (by decide) (fun _ => ?_) (fun n => absurd heq n)
  exact kk u _ _ _ w (lv_sub hl [0, 1, 2, 3, 4] rfl)

theorem q_522 : Cond.methodLink RL 134 yL_parse ∈ TS := ts_t 522 (by decide +kernel) (by decide +kernel)
theorem q_523 : Cond.static yL_parse ∈ TS := ts_t 523 (by decide +kernel) (by decide +kernel)
theorem q_0 : Cond.initialized RL ∈ TS := ts_t 0 (by decide +kernel) (by decide +kernel)
theorem q_524 : Cond.codeWith yL_parse cL_parse 4 (some .int) [(0, 9, 12, 13)] ∈ TS := ts_t 524 (by decide +kernel) (by decide +kernel)
theorem kk_L_134 : LkK RL 134 m_L_parse [(0, 9, 12, 13)] 3 := ⟨q_522, q_523, q_0, q_524, by decide, by decide, by decide +kernel⟩
theorem q_1352 : Cond.code yX10_parse cX10_parse 3 (some .int) ∈ TS := ts_t 1352 (by decide +kernel) (by decide +kernel)
theorem q_1349 : Cond.methodLink RL 139 yX10_parse ∈ TS := ts_t 1349 (by decide +kernel) (by decide +kernel)
theorem q_1350 : Cond.instanceMethod yX10_parse ∈ TS := ts_t 1350 (by decide +kernel) (by decide +kernel)
theorem q_1351 : Cond.selects yX10_parse.cls yX10_parse yX10_parse ∈ TS := ts_t 1351 (by decide +kernel) (by decide +kernel)
theorem k_L_139 : LkV RL 139 m_X10_parse 1 := ⟨q_1349, q_1350, q_1351, ⟨q_11, q_1352, by decide, by decide, by decide +kernel⟩⟩
theorem q_1340 : Cond.code yX10_thrown cX10_thrown 1 (some .int) ∈ TS := ts_t 1340 (by decide +kernel) (by decide +kernel)
theorem q_1337 : Cond.methodLink RL 140 yX10_thrown ∈ TS := ts_t 1337 (by decide +kernel) (by decide +kernel)
theorem q_1338 : Cond.instanceMethod yX10_thrown ∈ TS := ts_t 1338 (by decide +kernel) (by decide +kernel)
theorem q_1339 : Cond.selects yX10_thrown.cls yX10_thrown yX10_thrown ∈ TS := ts_t 1339 (by decide +kernel) (by decide +kernel)
theorem k_L_140 : LkV RL 140 m_X10_thrown 0 := ⟨q_1337, q_1338, q_1339, ⟨q_11, q_1340, by decide, by decide, by decide +kernel⟩⟩
set_option maxHeartbeats 4000000 in
theorem lc_1 {p : Program} {l : Launch} {e : Env} {s : State} {m : MethodId} {args : Array Value} {below : List Frame} {meth : Method} {c : Code} {H : Heap} {locs : List Loc} {cells slots : Nat} {Q : State → Prop} {g : GT} {A : Nat → Prop} {ws : va_W} {ls : Array Slot} {b L : Nat} {xs : Nat → Int32} {i4 : Int32} {hx hm ho : Nat} {wc wd wd' we : va_W} {wc' wn1 wn2 : (Nat → Nat) → va_W} {k1 k2 mc1 ms1 : Nat} {kv bv tv : Int32} {fs1 fs2 fs3 : List Value} (X : Lx p s m args meth c g A b L xs i4) (w : Wd g A ws s.heap H locs) (hl : lv_has ls 7 [(0, .ref b), (1, .ref hx), (2, .ref hm), (3, .ref ho), (4, .int i4)]) (P1 : PM ws wc wc' wn1) (hK1 : ∀ sz, KI l m_L_parse [(0, 9, 12, 13)] (rml k1 mc1 ms1) g wc wc' sz [.ref hx, .int (xs (i4 + 1).toNatClampNeg), .ref ho] kv) (P2 : ∀ u, PM (wn1 u) wd (fun _ => wd') (fun _ => wn2 u)) (hK2 : ∀ sz, CI l m_X10_parse (rml k2 0 0) g wd (fun _ => wd') sz [.ref hm, .int (xs (i4 + 1).toNatClampNeg)] bv) (hm2 : (hm, .inr (10, fs2)) ∈ wd) (P3 : ∀ u, PM (wn2 u) we (fun _ => we) (fun _ => wn2 u)) (hK3 : ∀ sz, CI l m_X10_thrown (rml 0 0 0) g we (fun _ => we) sz [.ref hm] tv) (hm3 : (hm, .inr (10, fs3)) ∈ we) (heq : tv = kv) (hval : kv = 0 → ∀ u, ∃ fo : Nat → Int64, (ho, aJ g 1 fo) ∈ wn2 u ∧ fo 0 = bv.toInt64) (hk1 : k1 ≤ 100) (hk2 : k2 ≤ 100) (hc1 : cells + mc1 ≤ room_1.cells) (hs1 : slots + ms1 ≤ room_1.slots) (kk : ∀ (u : Nat → Nat) (H : Heap) (locs : List Loc) (ls : Array Slot), Wd g A (wn2 u) s.heap H locs → lv_has ls 7 [(0, .ref b), (1, .ref hx), (2, .ref hm), (3, .ref ho), (4, .int i4)] → W p l e room_1 s m args below meth c H locs (cells + mc1) (slots + ms1) Q (F0 m 2724 ls [])) : W p l e room_1 s m args below meth c H locs cells slots Q (F0 m 317 ls []) := by
  obtain ⟨C, hX, hbl, hbA, hi1, hi2, hi3, hi4, hi5⟩ := X
  have hx9 := C.1
  have hb : c.code = cL_law := C.2.1
  have hc2 : cells + mc1 + 0 ≤ room_1.cells := hc1
  have hs2 : slots + ms1 + 0 ≤ room_1.slots := hs1
  refine lv_aload_n hx9 hb dL_law_317 rfl (lv_at hl 1 rfl) ?_
  refine lv_aload_n hx9 hb dL_law_318 rfl (lv_at hl 0 rfl) ?_
  refine lv_iload hx9 hb dL_law_319 (lv_at hl 4 rfl) ?_
  refine lv_iconst (v := 1) hx9 hb dL_law_321 (by decide) ?_
  refine lv_iadd hx9 hb dL_law_322 ?_
  refine va_sld hx9 hb hX hbl hbA w.2.2 hi1 dL_law_323 ?_
  refine lv_aload_n hx9 hb dL_law_324 rfl (lv_at hl 3 rfl) ?_
  refine ck_iS C w P1 (hK1 _) kk_L_134 (rm_law hk1 (by decide)) rfl hl.1 rfl (Nat.le_of_ble_eq_true rfl) dL_law_325 ⟨hc1, hs1⟩ (fun u H locs w => ?_)
  refine lv_istore (lv' := [(5, .int kv), (0, .ref b), (1, .ref hx), (2, .ref hm), (3, .ref ho), (4, .int i4)]) hx9 hb dL_law_328 hl (by decide) rfl (fun ls hl => ?_)
  refine lv_aload_n hx9 hb dL_law_330 rfl (lv_at hl 3 rfl) ?_
  refine lv_aload_n hx9 hb dL_law_331 rfl (lv_at hl 1 rfl) ?_
  refine lv_iload hx9 hb dL_law_332 (lv_at hl 5 rfl) ?_
  refine lv_iconst (v := 1) hx9 hb dL_law_334 (by decide) ?_
  refine lv_iadd hx9 hb dL_law_335 ?_
  refine va_sld hx9 hb hX hbl hbA w.2.2 hi1 dL_law_336 ?_
  refine cm_iV C w (P2 u) (hK2 _) k_L_139 (rm_law hk2 (by decide)) hm2 rfl rfl rfl hl.1 rfl (Nat.le_of_ble_eq_true rfl) dL_law_337 ⟨hc2, hs2⟩ (fun _ H locs w => ?_)
  refine lv_istore (lv' := [(6, .int bv), (5, .int kv), (0, .ref b), (1, .ref hx), (2, .ref hm), (3, .ref ho), (4, .int i4)]) hx9 hb dL_law_340 hl (by decide) rfl (fun ls hl => ?_)
  refine lv_aload_n hx9 hb dL_law_342 rfl (lv_at hl 4 rfl) ?_
  refine cm_iV C w (P3 u) (hK3 _) k_L_140 (rm_law (by decide) (by decide)) hm3 rfl rfl rfl hl.1 rfl (Nat.le_of_ble_eq_true rfl) dL_law_343 ⟨hc2, hs2⟩ (fun _ H locs w => ?_)
  refine lv_iload hx9 hb dL_law_346 (lv_at hl 1 rfl) ?_
  refine lv_icmp_eq (tgt := 353) hx9 hb dL_law_348 (by decide) (fun _ => ?_) (fun n => absurd heq n)
  refine lv_iload hx9 hb dL_law_353 (lv_at hl 1 rfl) ?_
  refine lv_if_ne (tgt := 370) hx9 hb dL_law_355 (by decide) (fun n => ?_) (fun n => ?_)
  · refine lv_goto (tgt := 2724) hx9 hb dL_law_370 (by decide) ?_
    exact kk u _ _ _ w (lv_sub hl [2, 3, 4, 5, 6] rfl)
  obtain ⟨fo, ho1, ho2⟩ := hval n u
  refine lv_aload_n hx9 hb dL_law_358 rfl (lv_at hl 5 rfl) ?_
  refine lv_iconst (v := 0) hx9 hb dL_law_359 (by decide) ?_
  refine lal_mem C w ho1 dL_law_360 ?_
  refine lv_iload hx9 hb dL_law_361 (lv_at hl 0 rfl) ?_
  refine lv_i2l (v := bv.toInt64) hx9 hb dL_law_363 rfl ?_
  refine W.lcmp hx9 hb dL_law_364 ?_
  refine lv_if_eq (tgt := 370) hx9 hb dL_law_365 (by decide) (fun _ => ?_) (fun n => absurd (by rw [ho2]; exact lg_cmp_self _) n)
  refine lv_goto (tgt := 2724) hx9 hb dL_law_370 (by decide) ?_
  exact kk u _ _ _ w (lv_sub hl [2, 3, 4, 5, 6] rfl)


theorem q_387 : Cond.code yX9_gantryCount cX9_gantryCount 1 (some .int) ∈ TS := ts_t 387 (by decide +kernel) (by decide +kernel)
theorem q_384 : Cond.methodLink RL 144 yX9_gantryCount ∈ TS := ts_t 384 (by decide +kernel) (by decide +kernel)
theorem q_385 : Cond.instanceMethod yX9_gantryCount ∈ TS := ts_t 385 (by decide +kernel) (by decide +kernel)
theorem q_386 : Cond.selects yX9_gantryCount.cls yX9_gantryCount yX9_gantryCount ∈ TS := ts_t 386 (by decide +kernel) (by decide +kernel)
theorem k_L_144 : LkV RL 144 m_X9_gantryCount 0 := ⟨q_384, q_385, q_386, ⟨q_1, q_387, by decide, by decide, by decide +kernel⟩⟩
theorem q_1436 : Cond.code yX10_gantryCount cX10_gantryCount 1 (some .int) ∈ TS := ts_t 1436 (by decide +kernel) (by decide +kernel)
theorem q_1433 : Cond.methodLink RL 147 yX10_gantryCount ∈ TS := ts_t 1433 (by decide +kernel) (by decide +kernel)
theorem q_1434 : Cond.instanceMethod yX10_gantryCount ∈ TS := ts_t 1434 (by decide +kernel) (by decide +kernel)
theorem q_1435 : Cond.selects yX10_gantryCount.cls yX10_gantryCount yX10_gantryCount ∈ TS := ts_t 1435 (by decide +kernel) (by decide +kernel)
theorem k_L_147 : LkV RL 147 m_X10_gantryCount 0 := ⟨q_1433, q_1434, q_1435, ⟨q_11, q_1436, by decide, by decide, by decide +kernel⟩⟩
set_option maxHeartbeats 4000000 in
theorem lc_2 {p : Program} {l : Launch} {e : Env} {s : State} {m : MethodId} {args : Array Value} {below : List Frame} {meth : Method} {c : Code} {H : Heap} {locs : List Loc} {cells slots : Nat} {Q : State → Prop} {g : GT} {A : Nat → Prop} {ws : va_W} {ls : Array Slot} {b L : Nat} {xs : Nat → Int32} {i4 : Int32} {hx hm ho : Nat} {wc wd wd' we : va_W} {wc' wn1 wn2 : (Nat → Nat) → va_W} {k1 k2 mc1 ms1 : Nat} {kv bv tv : Int32} {fs1 fs2 fs3 : List Value} (X : Lx p s m args meth c g A b L xs i4) (w : Wd g A ws s.heap H locs) (hl : lv_has ls 7 [(0, .ref b), (1, .ref hx), (2, .ref hm), (3, .ref ho), (4, .int i4)]) (P1 : PM ws wc wc' wn1) (hK1 : ∀ sz, CI l m_X9_gantryCount (rml k1 mc1 ms1) g wc wc' sz [.ref hx] kv) (hm1 : (hx, .inr (9, fs1)) ∈ wc) (P2 : ∀ u, PM (wn1 u) wd (fun _ => wd') (fun _ => wn2 u)) (hK2 : ∀ sz, CI l m_X10_gantryCount (rml k2 0 0) g wd (fun _ => wd') sz [.ref hm] bv) (hm2 : (hm, .inr (10, fs2)) ∈ wd) (heq : kv = bv) (hk1 : k1 ≤ 100) (hk2 : k2 ≤ 100) (hc1 : cells + mc1 ≤ room_1.cells) (hs1 : slots + ms1 ≤ room_1.slots) (kk : ∀ (u : Nat → Nat) (H : Heap) (locs : List Loc) (ls : Array Slot), Wd g A (wn2 u) s.heap H locs → lv_has ls 7 [(0, .ref b), (1, .ref hx), (2, .ref hm), (3, .ref ho), (4, .int i4)] → W p l e room_1 s m args below meth c H locs (cells + mc1) (slots + ms1) Q (F0 m 2724 ls [])) : W p l e room_1 s m args below meth c H locs cells slots Q (F0 m 373 ls []) := by
  obtain ⟨C, hX, hbl, hbA, hi1, hi2, hi3, hi4, hi5⟩ := X
  have hx9 := C.1
  have hb : c.code = cL_law := C.2.1
  have hc2 : cells + mc1 + 0 ≤ room_1.cells := hc1
  have hs2 : slots + ms1 + 0 ≤ room_1.slots := hs1
  refine lv_aload_n hx9 hb dL_law_373 rfl (lv_at hl 1 rfl) ?_
  refine cm_iV C w P1 (hK1 _) k_L_144 (rm_law hk1 (by decide)) hm1 rfl rfl rfl hl.1 rfl (Nat.le_of_ble_eq_true rfl) dL_law_374 ⟨hc1, hs1⟩ (fun u H locs w => ?_)
  refine lv_aload_n hx9 hb dL_law_377 rfl (lv_at hl 2 rfl) ?_
  refine cm_iV C w (P2 u) (hK2 _) k_L_147 (rm_law hk2 (by decide)) hm2 rfl rfl rfl hl.1 rfl (Nat.le_of_ble_eq_true rfl) dL_law_378 ⟨hc2, hs2⟩ (fun _ H locs w => ?_)
  refine lv_icmp_eq (tgt := 2724) hx9 hb dL_law_381 (by decide) (fun _ => ?_) (fun n => absurd heq n)
  exact kk u _ _ _ w (lv_sub hl [0, 1, 2, 3, 4] rfl)


theorem q_391 : Cond.code yX9_tagCount cX9_tagCount 1 (some .int) ∈ TS := ts_t 391 (by decide +kernel) (by decide +kernel)
theorem q_388 : Cond.methodLink RL 148 yX9_tagCount ∈ TS := ts_t 388 (by decide +kernel) (by decide +kernel)
theorem q_389 : Cond.instanceMethod yX9_tagCount ∈ TS := ts_t 389 (by decide +kernel) (by decide +kernel)
theorem q_390 : Cond.selects yX9_tagCount.cls yX9_tagCount yX9_tagCount ∈ TS := ts_t 390 (by decide +kernel) (by decide +kernel)
theorem k_L_148 : LkV RL 148 m_X9_tagCount 0 := ⟨q_388, q_389, q_390, ⟨q_1, q_391, by decide, by decide, by decide +kernel⟩⟩
theorem q_1444 : Cond.code yX10_tagCount cX10_tagCount 1 (some .int) ∈ TS := ts_t 1444 (by decide +kernel) (by decide +kernel)
theorem q_1441 : Cond.methodLink RL 151 yX10_tagCount ∈ TS := ts_t 1441 (by decide +kernel) (by decide +kernel)
theorem q_1442 : Cond.instanceMethod yX10_tagCount ∈ TS := ts_t 1442 (by decide +kernel) (by decide +kernel)
theorem q_1443 : Cond.selects yX10_tagCount.cls yX10_tagCount yX10_tagCount ∈ TS := ts_t 1443 (by decide +kernel) (by decide +kernel)
theorem k_L_151 : LkV RL 151 m_X10_tagCount 0 := ⟨q_1441, q_1442, q_1443, ⟨q_11, q_1444, by decide, by decide, by decide +kernel⟩⟩
set_option maxHeartbeats 4000000 in
theorem lc_3 {p : Program} {l : Launch} {e : Env} {s : State} {m : MethodId} {args : Array Value} {below : List Frame} {meth : Method} {c : Code} {H : Heap} {locs : List Loc} {cells slots : Nat} {Q : State → Prop} {g : GT} {A : Nat → Prop} {ws : va_W} {ls : Array Slot} {b L : Nat} {xs : Nat → Int32} {i4 : Int32} {hx hm ho : Nat} {wc wd wd' we : va_W} {wc' wn1 wn2 : (Nat → Nat) → va_W} {k1 k2 mc1 ms1 : Nat} {kv bv tv : Int32} {fs1 fs2 fs3 : List Value} (X : Lx p s m args meth c g A b L xs i4) (w : Wd g A ws s.heap H locs) (hl : lv_has ls 7 [(0, .ref b), (1, .ref hx), (2, .ref hm), (3, .ref ho), (4, .int i4)]) (P1 : PM ws wc wc' wn1) (hK1 : ∀ sz, CI l m_X9_tagCount (rml k1 mc1 ms1) g wc wc' sz [.ref hx] kv) (hm1 : (hx, .inr (9, fs1)) ∈ wc) (P2 : ∀ u, PM (wn1 u) wd (fun _ => wd') (fun _ => wn2 u)) (hK2 : ∀ sz, CI l m_X10_tagCount (rml k2 0 0) g wd (fun _ => wd') sz [.ref hm] bv) (hm2 : (hm, .inr (10, fs2)) ∈ wd) (heq : kv = bv) (hk1 : k1 ≤ 100) (hk2 : k2 ≤ 100) (hc1 : cells + mc1 ≤ room_1.cells) (hs1 : slots + ms1 ≤ room_1.slots) (kk : ∀ (u : Nat → Nat) (H : Heap) (locs : List Loc) (ls : Array Slot), Wd g A (wn2 u) s.heap H locs → lv_has ls 7 [(0, .ref b), (1, .ref hx), (2, .ref hm), (3, .ref ho), (4, .int i4)] → W p l e room_1 s m args below meth c H locs (cells + mc1) (slots + ms1) Q (F0 m 2724 ls [])) : W p l e room_1 s m args below meth c H locs cells slots Q (F0 m 386 ls []) := by
  obtain ⟨C, hX, hbl, hbA, hi1, hi2, hi3, hi4, hi5⟩ := X
  have hx9 := C.1
  have hb : c.code = cL_law := C.2.1
  have hc2 : cells + mc1 + 0 ≤ room_1.cells := hc1
  have hs2 : slots + ms1 + 0 ≤ room_1.slots := hs1
  refine lv_aload_n hx9 hb dL_law_386 rfl (lv_at hl 1 rfl) ?_
  refine cm_iV C w P1 (hK1 _) k_L_148 (rm_law hk1 (by decide)) hm1 rfl rfl rfl hl.1 rfl (Nat.le_of_ble_eq_true rfl) dL_law_387 ⟨hc1, hs1⟩ (fun u H locs w => ?_)
  refine lv_aload_n hx9 hb dL_law_390 rfl (lv_at hl 2 rfl) ?_
  refine cm_iV C w (P2 u) (hK2 _) k_L_151 (rm_law hk2 (by decide)) hm2 rfl rfl rfl hl.1 rfl (Nat.le_of_ble_eq_true rfl) dL_law_391 ⟨hc2, hs2⟩ (fun _ H locs w => ?_)
  refine lv_icmp_eq (tgt := 2724) hx9 hb dL_law_394 (by decide) (fun _ => ?_) (fun n => absurd heq n)
  exact kk u _ _ _ w (lv_sub hl [0, 1, 2, 3, 4] rfl)

theorem q_764 : Cond.methodLink RL 152 yL_classOf ∈ TS := ts_t 764 (by decide +kernel) (by decide +kernel)
theorem q_765 : Cond.static yL_classOf ∈ TS := ts_t 765 (by decide +kernel) (by decide +kernel)
theorem q_766 : Cond.codeWith yL_classOf cL_classOf 4 (some .int) [(0, 9, 12, 13)] ∈ TS := ts_t 766 (by decide +kernel) (by decide +kernel)
theorem kk_L_152 : LkK RL 152 m_L_classOf [(0, 9, 12, 13)] 3 := ⟨q_764, q_765, q_0, q_766, by decide, by decide, by decide +kernel⟩
theorem q_1448 : Cond.code yX10_classOf cX10_classOf 2 (some .int) ∈ TS := ts_t 1448 (by decide +kernel) (by decide +kernel)
theorem q_1445 : Cond.methodLink RL 154 yX10_classOf ∈ TS := ts_t 1445 (by decide +kernel) (by decide +kernel)
theorem q_1446 : Cond.instanceMethod yX10_classOf ∈ TS := ts_t 1446 (by decide +kernel) (by decide +kernel)
theorem q_1447 : Cond.selects yX10_classOf.cls yX10_classOf yX10_classOf ∈ TS := ts_t 1447 (by decide +kernel) (by decide +kernel)
theorem k_L_154 : LkV RL 154 m_X10_classOf 1 := ⟨q_1445, q_1446, q_1447, ⟨q_11, q_1448, by decide, by decide, by decide +kernel⟩⟩
set_option maxHeartbeats 4000000 in
theorem lc_4 {p : Program} {l : Launch} {e : Env} {s : State} {m : MethodId} {args : Array Value} {below : List Frame} {meth : Method} {c : Code} {H : Heap} {locs : List Loc} {cells slots : Nat} {Q : State → Prop} {g : GT} {A : Nat → Prop} {ws : va_W} {ls : Array Slot} {b L : Nat} {xs : Nat → Int32} {i4 : Int32} {hx hm ho : Nat} {wc wd wd' we : va_W} {wc' wn1 wn2 : (Nat → Nat) → va_W} {k1 k2 mc1 ms1 : Nat} {kv bv tv : Int32} {fs1 fs2 fs3 : List Value} (X : Lx p s m args meth c g A b L xs i4) (w : Wd g A ws s.heap H locs) (hl : lv_has ls 7 [(0, .ref b), (1, .ref hx), (2, .ref hm), (3, .ref ho), (4, .int i4)]) (P1 : PM ws wc wc' wn1) (hK1 : ∀ sz, KI l m_L_classOf [(0, 9, 12, 13)] (rml k1 mc1 ms1) g wc wc' sz [.ref hx, .int (xs (i4 + 1).toNatClampNeg), .ref ho] kv) (P2 : ∀ u, PM (wn1 u) wd (fun _ => wd') (fun _ => wn2 u)) (hK2 : ∀ sz, CI l m_X10_classOf (rml k2 0 0) g wd (fun _ => wd') sz [.ref hm, .int (xs (i4 + 1).toNatClampNeg)] bv) (hm2 : (hm, .inr (10, fs2)) ∈ wd) (P3 : ∀ u, PM (wn2 u) we (fun _ => we) (fun _ => wn2 u)) (hK3 : ∀ sz, CI l m_X10_thrown (rml 0 0 0) g we (fun _ => we) sz [.ref hm] tv) (hm3 : (hm, .inr (10, fs3)) ∈ we) (heq : tv = kv) (hval : kv = 0 → ∀ u, ∃ fo : Nat → Int64, (ho, aJ g 1 fo) ∈ wn2 u ∧ fo 0 = bv.toInt64) (hk1 : k1 ≤ 100) (hk2 : k2 ≤ 100) (hc1 : cells + mc1 ≤ room_1.cells) (hs1 : slots + ms1 ≤ room_1.slots) (kk : ∀ (u : Nat → Nat) (H : Heap) (locs : List Loc) (ls : Array Slot), Wd g A (wn2 u) s.heap H locs → lv_has ls 7 [(0, .ref b), (1, .ref hx), (2, .ref hm), (3, .ref ho), (4, .int i4)] → W p l e room_1 s m args below meth c H locs (cells + mc1) (slots + ms1) Q (F0 m 2724 ls [])) : W p l e room_1 s m args below meth c H locs cells slots Q (F0 m 399 ls []) := by
  obtain ⟨C, hX, hbl, hbA, hi1, hi2, hi3, hi4, hi5⟩ := X
  have hx9 := C.1
  have hb : c.code = cL_law := C.2.1
  have hc2 : cells + mc1 + 0 ≤ room_1.cells := hc1
  have hs2 : slots + ms1 + 0 ≤ room_1.slots := hs1
  refine lv_aload_n hx9 hb dL_law_399 rfl (lv_at hl 1 rfl) ?_
  refine lv_aload_n hx9 hb dL_law_400 rfl (lv_at hl 0 rfl) ?_
  refine lv_iload hx9 hb dL_law_401 (lv_at hl 4 rfl) ?_
  refine lv_iconst (v := 1) hx9 hb dL_law_403 (by decide) ?_
  refine lv_iadd hx9 hb dL_law_404 ?_
  refine va_sld hx9 hb hX hbl hbA w.2.2 hi1 dL_law_405 ?_
  refine lv_aload_n hx9 hb dL_law_406 rfl (lv_at hl 3 rfl) ?_
  refine ck_iS C w P1 (hK1 _) kk_L_152 (rm_law hk1 (by decide)) rfl hl.1 rfl (Nat.le_of_ble_eq_true rfl) dL_law_407 ⟨hc1, hs1⟩ (fun u H locs w => ?_)
  refine lv_istore (lv' := [(5, .int kv), (0, .ref b), (1, .ref hx), (2, .ref hm), (3, .ref ho), (4, .int i4)]) hx9 hb dL_law_410 hl (by decide) rfl (fun ls hl => ?_)
  refine lv_aload_n hx9 hb dL_law_412 rfl (lv_at hl 3 rfl) ?_
  refine lv_aload_n hx9 hb dL_law_413 rfl (lv_at hl 1 rfl) ?_
  refine lv_iload hx9 hb dL_law_414 (lv_at hl 5 rfl) ?_
  refine lv_iconst (v := 1) hx9 hb dL_law_416 (by decide) ?_
  refine lv_iadd hx9 hb dL_law_417 ?_
  refine va_sld hx9 hb hX hbl hbA w.2.2 hi1 dL_law_418 ?_
  refine cm_iV C w (P2 u) (hK2 _) k_L_154 (rm_law hk2 (by decide)) hm2 rfl rfl rfl hl.1 rfl (Nat.le_of_ble_eq_true rfl) dL_law_419 ⟨hc2, hs2⟩ (fun _ H locs w => ?_)
  refine lv_istore (lv' := [(6, .int bv), (5, .int kv), (0, .ref b), (1, .ref hx), (2, .ref hm), (3, .ref ho), (4, .int i4)]) hx9 hb dL_law_422 hl (by decide) rfl (fun ls hl => ?_)
  refine lv_aload_n hx9 hb dL_law_424 rfl (lv_at hl 4 rfl) ?_
  refine cm_iV C w (P3 u) (hK3 _) k_L_140 (rm_law (by decide) (by decide)) hm3 rfl rfl rfl hl.1 rfl (Nat.le_of_ble_eq_true rfl) dL_law_425 ⟨hc2, hs2⟩ (fun _ H locs w => ?_)
  refine lv_iload hx9 hb dL_law_428 (lv_at hl 1 rfl) ?_
  refine lv_icmp_eq (tgt := 435) hx9 hb dL_law_430 (by decide) (fun _ => ?_) (fun n => absurd heq n)
  refine lv_iload hx9 hb dL_law_435 (lv_at hl 1 rfl) ?_
  refine lv_if_ne (tgt := 452) hx9 hb dL_law_437 (by decide) (fun n => ?_) (fun n => ?_)
  · refine lv_goto (tgt := 2724) hx9 hb dL_law_452 (by decide) ?_
    exact kk u _ _ _ w (lv_sub hl [2, 3, 4, 5, 6] rfl)
  obtain ⟨fo, ho1, ho2⟩ := hval n u
  refine lv_aload_n hx9 hb dL_law_440 rfl (lv_at hl 5 rfl) ?_
  refine lv_iconst (v := 0) hx9 hb dL_law_441 (by decide) ?_
  refine lal_mem C w ho1 dL_law_442 ?_
  refine lv_iload hx9 hb dL_law_443 (lv_at hl 0 rfl) ?_
  refine lv_i2l (v := bv.toInt64) hx9 hb dL_law_445 rfl ?_
  refine W.lcmp hx9 hb dL_law_446 ?_
  refine lv_if_eq (tgt := 452) hx9 hb dL_law_447 (by decide) (fun _ => ?_) (fun n => absurd (by rw [ho2]; exact lg_cmp_self _) n)
  refine lv_goto (tgt := 2724) hx9 hb dL_law_452 (by decide) ?_
  exact kk u _ _ _ w (lv_sub hl [2, 3, 4, 5, 6] rfl)

theorem q_777 : Cond.methodLink RL 155 yL_routeLinks ∈ TS := ts_t 777 (by decide +kernel) (by decide +kernel)
theorem q_778 : Cond.static yL_routeLinks ∈ TS := ts_t 778 (by decide +kernel) (by decide +kernel)
theorem q_779 : Cond.codeWith yL_routeLinks cL_routeLinks 6 (some .int) [(0, 12, 15, 13)] ∈ TS := ts_t 779 (by decide +kernel) (by decide +kernel)
theorem kk_L_155 : LkK RL 155 m_L_routeLinks [(0, 12, 15, 13)] 5 := ⟨q_777, q_778, q_0, q_779, by decide, by decide, by decide +kernel⟩
theorem q_1458 : Cond.code yX10_routeLinks cX10_routeLinks 5 (some .int) ∈ TS := ts_t 1458 (by decide +kernel) (by decide +kernel)
theorem q_1455 : Cond.methodLink RL 158 yX10_routeLinks ∈ TS := ts_t 1455 (by decide +kernel) (by decide +kernel)
theorem q_1456 : Cond.instanceMethod yX10_routeLinks ∈ TS := ts_t 1456 (by decide +kernel) (by decide +kernel)
theorem q_1457 : Cond.selects yX10_routeLinks.cls yX10_routeLinks yX10_routeLinks ∈ TS := ts_t 1457 (by decide +kernel) (by decide +kernel)
theorem k_L_158 : LkV RL 158 m_X10_routeLinks 3 := ⟨q_1455, q_1456, q_1457, ⟨q_11, q_1458, by decide, by decide, by decide +kernel⟩⟩
set_option maxHeartbeats 4000000 in
theorem lc_5 {p : Program} {l : Launch} {e : Env} {s : State} {m : MethodId} {args : Array Value} {below : List Frame} {meth : Method} {c : Code} {H : Heap} {locs : List Loc} {cells slots : Nat} {Q : State → Prop} {g : GT} {A : Nat → Prop} {ws : va_W} {ls : Array Slot} {b L : Nat} {xs : Nat → Int32} {i4 : Int32} {hx hm ho : Nat} {wc wd wd' we : va_W} {wc' wn1 wn2 : (Nat → Nat) → va_W} {k1 k2 mc1 ms1 : Nat} {kv bv tv : Int32} {fs1 fs2 fs3 : List Value} (X : Lx p s m args meth c g A b L xs i4) (w : Wd g A ws s.heap H locs) (hl : lv_has ls 7 [(0, .ref b), (1, .ref hx), (2, .ref hm), (3, .ref ho), (4, .int i4)]) (P1 : PM ws wc wc' wn1) (hK1 : ∀ sz, KI l m_L_routeLinks [(0, 12, 15, 13)] (rml k1 mc1 ms1) g wc wc' sz [.ref hx, .int (xs (i4 + 1).toNatClampNeg), .int (xs (i4 + 2).toNatClampNeg), .int (xs (i4 + 3).toNatClampNeg), .ref ho] kv) (P2 : ∀ u, PM (wn1 u) wd (fun _ => wd') (fun _ => wn2 u)) (hK2 : ∀ sz, CI l m_X10_routeLinks (rml k2 0 0) g wd (fun _ => wd') sz [.ref hm, .int (xs (i4 + 1).toNatClampNeg), .int (xs (i4 + 2).toNatClampNeg), .int (xs (i4 + 3).toNatClampNeg)] bv) (hm2 : (hm, .inr (10, fs2)) ∈ wd) (P3 : ∀ u, PM (wn2 u) we (fun _ => we) (fun _ => wn2 u)) (hK3 : ∀ sz, CI l m_X10_thrown (rml 0 0 0) g we (fun _ => we) sz [.ref hm] tv) (hm3 : (hm, .inr (10, fs3)) ∈ we) (heq : tv = kv) (hval : kv = 0 → ∀ u, ∃ fo : Nat → Int64, (ho, aJ g 1 fo) ∈ wn2 u ∧ fo 0 = bv.toInt64) (hk1 : k1 ≤ 100) (hk2 : k2 ≤ 100) (hc1 : cells + mc1 ≤ room_1.cells) (hs1 : slots + ms1 ≤ room_1.slots) (kk : ∀ (u : Nat → Nat) (H : Heap) (locs : List Loc) (ls : Array Slot), Wd g A (wn2 u) s.heap H locs → lv_has ls 7 [(0, .ref b), (1, .ref hx), (2, .ref hm), (3, .ref ho), (4, .int i4)] → W p l e room_1 s m args below meth c H locs (cells + mc1) (slots + ms1) Q (F0 m 2724 ls [])) : W p l e room_1 s m args below meth c H locs cells slots Q (F0 m 455 ls []) := by
  obtain ⟨C, hX, hbl, hbA, hi1, hi2, hi3, hi4, hi5⟩ := X
  have hx9 := C.1
  have hb : c.code = cL_law := C.2.1
  have hc2 : cells + mc1 + 0 ≤ room_1.cells := hc1
  have hs2 : slots + ms1 + 0 ≤ room_1.slots := hs1
  refine lv_aload_n hx9 hb dL_law_455 rfl (lv_at hl 1 rfl) ?_
  refine lv_aload_n hx9 hb dL_law_456 rfl (lv_at hl 0 rfl) ?_
  refine lv_iload hx9 hb dL_law_457 (lv_at hl 4 rfl) ?_
  refine lv_iconst (v := 1) hx9 hb dL_law_459 (by decide) ?_
  refine lv_iadd hx9 hb dL_law_460 ?_
  refine va_sld hx9 hb hX hbl hbA w.2.2 hi1 dL_law_461 ?_
  refine lv_aload_n hx9 hb dL_law_462 rfl (lv_at hl 0 rfl) ?_
  refine lv_iload hx9 hb dL_law_463 (lv_at hl 4 rfl) ?_
  refine lv_iconst (v := 2) hx9 hb dL_law_465 (by decide) ?_
  refine lv_iadd hx9 hb dL_law_466 ?_
  refine va_sld hx9 hb hX hbl hbA w.2.2 hi2 dL_law_467 ?_
  refine lv_aload_n hx9 hb dL_law_468 rfl (lv_at hl 0 rfl) ?_
  refine lv_iload hx9 hb dL_law_469 (lv_at hl 4 rfl) ?_
  refine lv_iconst (v := 3) hx9 hb dL_law_471 (by decide) ?_
  refine lv_iadd hx9 hb dL_law_472 ?_
  refine va_sld hx9 hb hX hbl hbA w.2.2 hi3 dL_law_473 ?_
  refine lv_aload_n hx9 hb dL_law_474 rfl (lv_at hl 3 rfl) ?_
  refine ck_iS C w P1 (hK1 _) kk_L_155 (rm_law hk1 (by decide)) rfl hl.1 rfl (Nat.le_of_ble_eq_true rfl) dL_law_475 ⟨hc1, hs1⟩ (fun u H locs w => ?_)
  refine lv_istore (lv' := [(5, .int kv), (0, .ref b), (1, .ref hx), (2, .ref hm), (3, .ref ho), (4, .int i4)]) hx9 hb dL_law_478 hl (by decide) rfl (fun ls hl => ?_)
  refine lv_aload_n hx9 hb dL_law_480 rfl (lv_at hl 3 rfl) ?_
  refine lv_aload_n hx9 hb dL_law_481 rfl (lv_at hl 1 rfl) ?_
  refine lv_iload hx9 hb dL_law_482 (lv_at hl 5 rfl) ?_
  refine lv_iconst (v := 1) hx9 hb dL_law_484 (by decide) ?_
  refine lv_iadd hx9 hb dL_law_485 ?_
  refine va_sld hx9 hb hX hbl hbA w.2.2 hi1 dL_law_486 ?_
  refine lv_aload_n hx9 hb dL_law_487 rfl (lv_at hl 1 rfl) ?_
  refine lv_iload hx9 hb dL_law_488 (lv_at hl 5 rfl) ?_
  refine lv_iconst (v := 2) hx9 hb dL_law_490 (by decide) ?_
  refine lv_iadd hx9 hb dL_law_491 ?_
  refine va_sld hx9 hb hX hbl hbA w.2.2 hi2 dL_law_492 ?_
  refine lv_aload_n hx9 hb dL_law_493 rfl (lv_at hl 1 rfl) ?_
  refine lv_iload hx9 hb dL_law_494 (lv_at hl 5 rfl) ?_
  refine lv_iconst (v := 3) hx9 hb dL_law_496 (by decide) ?_
  refine lv_iadd hx9 hb dL_law_497 ?_
  refine va_sld hx9 hb hX hbl hbA w.2.2 hi3 dL_law_498 ?_
  refine cm_iV C w (P2 u) (hK2 _) k_L_158 (rm_law hk2 (by decide)) hm2 rfl rfl rfl hl.1 rfl (Nat.le_of_ble_eq_true rfl) dL_law_499 ⟨hc2, hs2⟩ (fun _ H locs w => ?_)
  refine lv_istore (lv' := [(6, .int bv), (5, .int kv), (0, .ref b), (1, .ref hx), (2, .ref hm), (3, .ref ho), (4, .int i4)]) hx9 hb dL_law_502 hl (by decide) rfl (fun ls hl => ?_)
  refine lv_aload_n hx9 hb dL_law_504 rfl (lv_at hl 4 rfl) ?_
  refine cm_iV C w (P3 u) (hK3 _) k_L_140 (rm_law (by decide) (by decide)) hm3 rfl rfl rfl hl.1 rfl (Nat.le_of_ble_eq_true rfl) dL_law_505 ⟨hc2, hs2⟩ (fun _ H locs w => ?_)
  refine lv_iload hx9 hb dL_law_508 (lv_at hl 1 rfl) ?_
  refine lv_icmp_eq (tgt := 515) hx9 hb dL_law_510 (by decide) (fun _ => ?_) (fun n => absurd heq n)
  refine lv_iload hx9 hb dL_law_515 (lv_at hl 1 rfl) ?_
  refine lv_if_ne (tgt := 532) hx9 hb dL_law_517 (by decide) (fun n => ?_) (fun n => ?_)
  · refine lv_goto (tgt := 2724) hx9 hb dL_law_532 (by decide) ?_
    exact kk u _ _ _ w (lv_sub hl [2, 3, 4, 5, 6] rfl)
  obtain ⟨fo, ho1, ho2⟩ := hval n u
  refine lv_aload_n hx9 hb dL_law_520 rfl (lv_at hl 5 rfl) ?_
  refine lv_iconst (v := 0) hx9 hb dL_law_521 (by decide) ?_
  refine lal_mem C w ho1 dL_law_522 ?_
  refine lv_iload hx9 hb dL_law_523 (lv_at hl 0 rfl) ?_
  refine lv_i2l (v := bv.toInt64) hx9 hb dL_law_525 rfl ?_
  refine W.lcmp hx9 hb dL_law_526 ?_
  refine lv_if_eq (tgt := 532) hx9 hb dL_law_527 (by decide) (fun _ => ?_) (fun n => absurd (by rw [ho2]; exact lg_cmp_self _) n)
  refine lv_goto (tgt := 2724) hx9 hb dL_law_532 (by decide) ?_
  exact kk u _ _ _ w (lv_sub hl [2, 3, 4, 5, 6] rfl)

theorem q_821 : Cond.methodLink RL 159 yL_routePrice ∈ TS := ts_t 821 (by decide +kernel) (by decide +kernel)
theorem q_822 : Cond.static yL_routePrice ∈ TS := ts_t 822 (by decide +kernel) (by decide +kernel)
theorem q_823 : Cond.codeWith yL_routePrice cL_routePrice 6 (some .int) [(0, 12, 15, 13)] ∈ TS := ts_t 823 (by decide +kernel) (by decide +kernel)
theorem kk_L_159 : LkK RL 159 m_L_routePrice [(0, 12, 15, 13)] 5 := ⟨q_821, q_822, q_0, q_823, by decide, by decide, by decide +kernel⟩
theorem q_1483 : Cond.code yX10_routePrice cX10_routePrice 4 (some .int) ∈ TS := ts_t 1483 (by decide +kernel) (by decide +kernel)
theorem q_1480 : Cond.methodLink RL 161 yX10_routePrice ∈ TS := ts_t 1480 (by decide +kernel) (by decide +kernel)
theorem q_1481 : Cond.instanceMethod yX10_routePrice ∈ TS := ts_t 1481 (by decide +kernel) (by decide +kernel)
theorem q_1482 : Cond.selects yX10_routePrice.cls yX10_routePrice yX10_routePrice ∈ TS := ts_t 1482 (by decide +kernel) (by decide +kernel)
theorem k_L_161 : LkV RL 161 m_X10_routePrice 3 := ⟨q_1480, q_1481, q_1482, ⟨q_11, q_1483, by decide, by decide, by decide +kernel⟩⟩
set_option maxHeartbeats 4000000 in
theorem lc_6 {p : Program} {l : Launch} {e : Env} {s : State} {m : MethodId} {args : Array Value} {below : List Frame} {meth : Method} {c : Code} {H : Heap} {locs : List Loc} {cells slots : Nat} {Q : State → Prop} {g : GT} {A : Nat → Prop} {ws : va_W} {ls : Array Slot} {b L : Nat} {xs : Nat → Int32} {i4 : Int32} {hx hm ho : Nat} {wc wd wd' we : va_W} {wc' wn1 wn2 : (Nat → Nat) → va_W} {k1 k2 mc1 ms1 : Nat} {kv bv tv : Int32} {fs1 fs2 fs3 : List Value} (X : Lx p s m args meth c g A b L xs i4) (w : Wd g A ws s.heap H locs) (hl : lv_has ls 7 [(0, .ref b), (1, .ref hx), (2, .ref hm), (3, .ref ho), (4, .int i4)]) (P1 : PM ws wc wc' wn1) (hK1 : ∀ sz, KI l m_L_routePrice [(0, 12, 15, 13)] (rml k1 mc1 ms1) g wc wc' sz [.ref hx, .int (xs (i4 + 1).toNatClampNeg), .int (xs (i4 + 2).toNatClampNeg), .int (xs (i4 + 3).toNatClampNeg), .ref ho] kv) (P2 : ∀ u, PM (wn1 u) wd (fun _ => wd') (fun _ => wn2 u)) (hK2 : ∀ sz, CI l m_X10_routePrice (rml k2 0 0) g wd (fun _ => wd') sz [.ref hm, .int (xs (i4 + 1).toNatClampNeg), .int (xs (i4 + 2).toNatClampNeg), .int (xs (i4 + 3).toNatClampNeg)] bv) (hm2 : (hm, .inr (10, fs2)) ∈ wd) (P3 : ∀ u, PM (wn2 u) we (fun _ => we) (fun _ => wn2 u)) (hK3 : ∀ sz, CI l m_X10_thrown (rml 0 0 0) g we (fun _ => we) sz [.ref hm] tv) (hm3 : (hm, .inr (10, fs3)) ∈ we) (heq : tv = kv) (hval : kv = 0 → ∀ u, ∃ fo : Nat → Int64, (ho, aJ g 1 fo) ∈ wn2 u ∧ fo 0 = bv.toInt64) (hk1 : k1 ≤ 100) (hk2 : k2 ≤ 100) (hc1 : cells + mc1 ≤ room_1.cells) (hs1 : slots + ms1 ≤ room_1.slots) (kk : ∀ (u : Nat → Nat) (H : Heap) (locs : List Loc) (ls : Array Slot), Wd g A (wn2 u) s.heap H locs → lv_has ls 7 [(0, .ref b), (1, .ref hx), (2, .ref hm), (3, .ref ho), (4, .int i4)] → W p l e room_1 s m args below meth c H locs (cells + mc1) (slots + ms1) Q (F0 m 2724 ls [])) : W p l e room_1 s m args below meth c H locs cells slots Q (F0 m 535 ls []) := by
  obtain ⟨C, hX, hbl, hbA, hi1, hi2, hi3, hi4, hi5⟩ := X
  have hx9 := C.1
  have hb : c.code = cL_law := C.2.1
  have hc2 : cells + mc1 + 0 ≤ room_1.cells := hc1
  have hs2 : slots + ms1 + 0 ≤ room_1.slots := hs1
  refine lv_aload_n hx9 hb dL_law_535 rfl (lv_at hl 1 rfl) ?_
  refine lv_aload_n hx9 hb dL_law_536 rfl (lv_at hl 0 rfl) ?_
  refine lv_iload hx9 hb dL_law_537 (lv_at hl 4 rfl) ?_
  refine lv_iconst (v := 1) hx9 hb dL_law_539 (by decide) ?_
  refine lv_iadd hx9 hb dL_law_540 ?_
  refine va_sld hx9 hb hX hbl hbA w.2.2 hi1 dL_law_541 ?_
  refine lv_aload_n hx9 hb dL_law_542 rfl (lv_at hl 0 rfl) ?_
  refine lv_iload hx9 hb dL_law_543 (lv_at hl 4 rfl) ?_
  refine lv_iconst (v := 2) hx9 hb dL_law_545 (by decide) ?_
  refine lv_iadd hx9 hb dL_law_546 ?_
  refine va_sld hx9 hb hX hbl hbA w.2.2 hi2 dL_law_547 ?_
  refine lv_aload_n hx9 hb dL_law_548 rfl (lv_at hl 0 rfl) ?_
  refine lv_iload hx9 hb dL_law_549 (lv_at hl 4 rfl) ?_
  refine lv_iconst (v := 3) hx9 hb dL_law_551 (by decide) ?_
  refine lv_iadd hx9 hb dL_law_552 ?_
  refine va_sld hx9 hb hX hbl hbA w.2.2 hi3 dL_law_553 ?_
  refine lv_aload_n hx9 hb dL_law_554 rfl (lv_at hl 3 rfl) ?_
  refine ck_iS C w P1 (hK1 _) kk_L_159 (rm_law hk1 (by decide)) rfl hl.1 rfl (Nat.le_of_ble_eq_true rfl) dL_law_555 ⟨hc1, hs1⟩ (fun u H locs w => ?_)
  refine lv_istore (lv' := [(5, .int kv), (0, .ref b), (1, .ref hx), (2, .ref hm), (3, .ref ho), (4, .int i4)]) hx9 hb dL_law_558 hl (by decide) rfl (fun ls hl => ?_)
  refine lv_aload_n hx9 hb dL_law_560 rfl (lv_at hl 3 rfl) ?_
  refine lv_aload_n hx9 hb dL_law_561 rfl (lv_at hl 1 rfl) ?_
  refine lv_iload hx9 hb dL_law_562 (lv_at hl 5 rfl) ?_
  refine lv_iconst (v := 1) hx9 hb dL_law_564 (by decide) ?_
  refine lv_iadd hx9 hb dL_law_565 ?_
  refine va_sld hx9 hb hX hbl hbA w.2.2 hi1 dL_law_566 ?_
  refine lv_aload_n hx9 hb dL_law_567 rfl (lv_at hl 1 rfl) ?_
  refine lv_iload hx9 hb dL_law_568 (lv_at hl 5 rfl) ?_
  refine lv_iconst (v := 2) hx9 hb dL_law_570 (by decide) ?_
  refine lv_iadd hx9 hb dL_law_571 ?_
  refine va_sld hx9 hb hX hbl hbA w.2.2 hi2 dL_law_572 ?_
  refine lv_aload_n hx9 hb dL_law_573 rfl (lv_at hl 1 rfl) ?_
  refine lv_iload hx9 hb dL_law_574 (lv_at hl 5 rfl) ?_
  refine lv_iconst (v := 3) hx9 hb dL_law_576 (by decide) ?_
  refine lv_iadd hx9 hb dL_law_577 ?_
  refine va_sld hx9 hb hX hbl hbA w.2.2 hi3 dL_law_578 ?_
  refine cm_iV C w (P2 u) (hK2 _) k_L_161 (rm_law hk2 (by decide)) hm2 rfl rfl rfl hl.1 rfl (Nat.le_of_ble_eq_true rfl) dL_law_579 ⟨hc2, hs2⟩ (fun _ H locs w => ?_)
  refine lv_istore (lv' := [(6, .int bv), (5, .int kv), (0, .ref b), (1, .ref hx), (2, .ref hm), (3, .ref ho), (4, .int i4)]) hx9 hb dL_law_582 hl (by decide) rfl (fun ls hl => ?_)
  refine lv_aload_n hx9 hb dL_law_584 rfl (lv_at hl 4 rfl) ?_
  refine cm_iV C w (P3 u) (hK3 _) k_L_140 (rm_law (by decide) (by decide)) hm3 rfl rfl rfl hl.1 rfl (Nat.le_of_ble_eq_true rfl) dL_law_585 ⟨hc2, hs2⟩ (fun _ H locs w => ?_)
  refine lv_iload hx9 hb dL_law_588 (lv_at hl 1 rfl) ?_
  refine lv_icmp_eq (tgt := 595) hx9 hb dL_law_590 (by decide) (fun _ => ?_) (fun n => absurd heq n)
  refine lv_iload hx9 hb dL_law_595 (lv_at hl 1 rfl) ?_
  refine lv_if_ne (tgt := 612) hx9 hb dL_law_597 (by decide) (fun n => ?_) (fun n => ?_)
  · refine lv_goto (tgt := 2724) hx9 hb dL_law_612 (by decide) ?_
    exact kk u _ _ _ w (lv_sub hl [2, 3, 4, 5, 6] rfl)
  obtain ⟨fo, ho1, ho2⟩ := hval n u
  refine lv_aload_n hx9 hb dL_law_600 rfl (lv_at hl 5 rfl) ?_
  refine lv_iconst (v := 0) hx9 hb dL_law_601 (by decide) ?_
  refine lal_mem C w ho1 dL_law_602 ?_
  refine lv_iload hx9 hb dL_law_603 (lv_at hl 0 rfl) ?_
  refine lv_i2l (v := bv.toInt64) hx9 hb dL_law_605 rfl ?_
  refine W.lcmp hx9 hb dL_law_606 ?_
  refine lv_if_eq (tgt := 612) hx9 hb dL_law_607 (by decide) (fun _ => ?_) (fun n => absurd (by rw [ho2]; exact lg_cmp_self _) n)
  refine lv_goto (tgt := 2724) hx9 hb dL_law_612 (by decide) ?_
  exact kk u _ _ _ w (lv_sub hl [2, 3, 4, 5, 6] rfl)

theorem q_828 : Cond.methodLink RL 162 yL_routeGantry ∈ TS := ts_t 828 (by decide +kernel) (by decide +kernel)
theorem q_829 : Cond.static yL_routeGantry ∈ TS := ts_t 829 (by decide +kernel) (by decide +kernel)
theorem q_830 : Cond.codeWith yL_routeGantry cL_routeGantry 7 (some .int) [(0, 14, 17, 13)] ∈ TS := ts_t 830 (by decide +kernel) (by decide +kernel)
theorem kk_L_162 : LkK RL 162 m_L_routeGantry [(0, 14, 17, 13)] 6 := ⟨q_828, q_829, q_0, q_830, by decide, by decide, by decide +kernel⟩
theorem q_1487 : Cond.code yX10_routeGantry cX10_routeGantry 6 (some .int) ∈ TS := ts_t 1487 (by decide +kernel) (by decide +kernel)
theorem q_1484 : Cond.methodLink RL 165 yX10_routeGantry ∈ TS := ts_t 1484 (by decide +kernel) (by decide +kernel)
theorem q_1485 : Cond.instanceMethod yX10_routeGantry ∈ TS := ts_t 1485 (by decide +kernel) (by decide +kernel)
theorem q_1486 : Cond.selects yX10_routeGantry.cls yX10_routeGantry yX10_routeGantry ∈ TS := ts_t 1486 (by decide +kernel) (by decide +kernel)
theorem k_L_165 : LkV RL 165 m_X10_routeGantry 4 := ⟨q_1484, q_1485, q_1486, ⟨q_11, q_1487, by decide, by decide, by decide +kernel⟩⟩
set_option maxHeartbeats 4000000 in
theorem lc_7 {p : Program} {l : Launch} {e : Env} {s : State} {m : MethodId} {args : Array Value} {below : List Frame} {meth : Method} {c : Code} {H : Heap} {locs : List Loc} {cells slots : Nat} {Q : State → Prop} {g : GT} {A : Nat → Prop} {ws : va_W} {ls : Array Slot} {b L : Nat} {xs : Nat → Int32} {i4 : Int32} {hx hm ho : Nat} {wc wd wd' we : va_W} {wc' wn1 wn2 : (Nat → Nat) → va_W} {k1 k2 mc1 ms1 : Nat} {kv bv tv : Int32} {fs1 fs2 fs3 : List Value} (X : Lx p s m args meth c g A b L xs i4) (w : Wd g A ws s.heap H locs) (hl : lv_has ls 7 [(0, .ref b), (1, .ref hx), (2, .ref hm), (3, .ref ho), (4, .int i4)]) (P1 : PM ws wc wc' wn1) (hK1 : ∀ sz, KI l m_L_routeGantry [(0, 14, 17, 13)] (rml k1 mc1 ms1) g wc wc' sz [.ref hx, .int (xs (i4 + 1).toNatClampNeg), .int (xs (i4 + 2).toNatClampNeg), .int (xs (i4 + 3).toNatClampNeg), .int (xs (i4 + 4).toNatClampNeg), .ref ho] kv) (P2 : ∀ u, PM (wn1 u) wd (fun _ => wd') (fun _ => wn2 u)) (hK2 : ∀ sz, CI l m_X10_routeGantry (rml k2 0 0) g wd (fun _ => wd') sz [.ref hm, .int (xs (i4 + 1).toNatClampNeg), .int (xs (i4 + 2).toNatClampNeg), .int (xs (i4 + 3).toNatClampNeg), .int (xs (i4 + 4).toNatClampNeg)] bv) (hm2 : (hm, .inr (10, fs2)) ∈ wd) (P3 : ∀ u, PM (wn2 u) we (fun _ => we) (fun _ => wn2 u)) (hK3 : ∀ sz, CI l m_X10_thrown (rml 0 0 0) g we (fun _ => we) sz [.ref hm] tv) (hm3 : (hm, .inr (10, fs3)) ∈ we) (heq : tv = kv) (hval : kv = 0 → ∀ u, ∃ fo : Nat → Int64, (ho, aJ g 1 fo) ∈ wn2 u ∧ fo 0 = bv.toInt64) (hk1 : k1 ≤ 100) (hk2 : k2 ≤ 100) (hc1 : cells + mc1 ≤ room_1.cells) (hs1 : slots + ms1 ≤ room_1.slots) (kk : ∀ (u : Nat → Nat) (H : Heap) (locs : List Loc) (ls : Array Slot), Wd g A (wn2 u) s.heap H locs → lv_has ls 7 [(0, .ref b), (1, .ref hx), (2, .ref hm), (3, .ref ho), (4, .int i4)] → W p l e room_1 s m args below meth c H locs (cells + mc1) (slots + ms1) Q (F0 m 2724 ls [])) : W p l e room_1 s m args below meth c H locs cells slots Q (F0 m 615 ls []) := by
  obtain ⟨C, hX, hbl, hbA, hi1, hi2, hi3, hi4, hi5⟩ := X
  have hx9 := C.1
  have hb : c.code = cL_law := C.2.1
  have hc2 : cells + mc1 + 0 ≤ room_1.cells := hc1
  have hs2 : slots + ms1 + 0 ≤ room_1.slots := hs1
  refine lv_aload_n hx9 hb dL_law_615 rfl (lv_at hl 1 rfl) ?_
  refine lv_aload_n hx9 hb dL_law_616 rfl (lv_at hl 0 rfl) ?_
  refine lv_iload hx9 hb dL_law_617 (lv_at hl 4 rfl) ?_
  refine lv_iconst (v := 1) hx9 hb dL_law_619 (by decide) ?_
  refine lv_iadd hx9 hb dL_law_620 ?_
  refine va_sld hx9 hb hX hbl hbA w.2.2 hi1 dL_law_621 ?_
  refine lv_aload_n hx9 hb dL_law_622 rfl (lv_at hl 0 rfl) ?_
  refine lv_iload hx9 hb dL_law_623 (lv_at hl 4 rfl) ?_
  refine lv_iconst (v := 2) hx9 hb dL_law_625 (by decide) ?_
  refine lv_iadd hx9 hb dL_law_626 ?_
  refine va_sld hx9 hb hX hbl hbA w.2.2 hi2 dL_law_627 ?_
  refine lv_aload_n hx9 hb dL_law_628 rfl (lv_at hl 0 rfl) ?_
  refine lv_iload hx9 hb dL_law_629 (lv_at hl 4 rfl) ?_
  refine lv_iconst (v := 3) hx9 hb dL_law_631 (by decide) ?_
  refine lv_iadd hx9 hb dL_law_632 ?_
  refine va_sld hx9 hb hX hbl hbA w.2.2 hi3 dL_law_633 ?_
  refine lv_aload_n hx9 hb dL_law_634 rfl (lv_at hl 0 rfl) ?_
  refine lv_iload hx9 hb dL_law_635 (lv_at hl 4 rfl) ?_
  refine lv_iconst (v := 4) hx9 hb dL_law_637 (by decide) ?_
  refine lv_iadd hx9 hb dL_law_638 ?_
  refine va_sld hx9 hb hX hbl hbA w.2.2 hi4 dL_law_639 ?_
  refine lv_aload_n hx9 hb dL_law_640 rfl (lv_at hl 3 rfl) ?_
  refine ck_iS C w P1 (hK1 _) kk_L_162 (rm_law hk1 (by decide)) rfl hl.1 rfl (Nat.le_of_ble_eq_true rfl) dL_law_641 ⟨hc1, hs1⟩ (fun u H locs w => ?_)
  refine lv_istore (lv' := [(5, .int kv), (0, .ref b), (1, .ref hx), (2, .ref hm), (3, .ref ho), (4, .int i4)]) hx9 hb dL_law_644 hl (by decide) rfl (fun ls hl => ?_)
  refine lv_aload_n hx9 hb dL_law_646 rfl (lv_at hl 3 rfl) ?_
  refine lv_aload_n hx9 hb dL_law_647 rfl (lv_at hl 1 rfl) ?_
  refine lv_iload hx9 hb dL_law_648 (lv_at hl 5 rfl) ?_
  refine lv_iconst (v := 1) hx9 hb dL_law_650 (by decide) ?_
  refine lv_iadd hx9 hb dL_law_651 ?_
  refine va_sld hx9 hb hX hbl hbA w.2.2 hi1 dL_law_652 ?_
  refine lv_aload_n hx9 hb dL_law_653 rfl (lv_at hl 1 rfl) ?_
  refine lv_iload hx9 hb dL_law_654 (lv_at hl 5 rfl) ?_
  refine lv_iconst (v := 2) hx9 hb dL_law_656 (by decide) ?_
  refine lv_iadd hx9 hb dL_law_657 ?_
  refine va_sld hx9 hb hX hbl hbA w.2.2 hi2 dL_law_658 ?_
  refine lv_aload_n hx9 hb dL_law_659 rfl (lv_at hl 1 rfl) ?_
  refine lv_iload hx9 hb dL_law_660 (lv_at hl 5 rfl) ?_
  refine lv_iconst (v := 3) hx9 hb dL_law_662 (by decide) ?_
  refine lv_iadd hx9 hb dL_law_663 ?_
  refine va_sld hx9 hb hX hbl hbA w.2.2 hi3 dL_law_664 ?_
  refine lv_aload_n hx9 hb dL_law_665 rfl (lv_at hl 1 rfl) ?_
  refine lv_iload hx9 hb dL_law_666 (lv_at hl 5 rfl) ?_
  refine lv_iconst (v := 4) hx9 hb dL_law_668 (by decide) ?_
  refine lv_iadd hx9 hb dL_law_669 ?_
  refine va_sld hx9 hb hX hbl hbA w.2.2 hi4 dL_law_670 ?_
  refine cm_iV C w (P2 u) (hK2 _) k_L_165 (rm_law hk2 (by decide)) hm2 rfl rfl rfl hl.1 rfl (Nat.le_of_ble_eq_true rfl) dL_law_671 ⟨hc2, hs2⟩ (fun _ H locs w => ?_)
  refine lv_istore (lv' := [(6, .int bv), (5, .int kv), (0, .ref b), (1, .ref hx), (2, .ref hm), (3, .ref ho), (4, .int i4)]) hx9 hb dL_law_674 hl (by decide) rfl (fun ls hl => ?_)
  refine lv_aload_n hx9 hb dL_law_676 rfl (lv_at hl 4 rfl) ?_
  refine cm_iV C w (P3 u) (hK3 _) k_L_140 (rm_law (by decide) (by decide)) hm3 rfl rfl rfl hl.1 rfl (Nat.le_of_ble_eq_true rfl) dL_law_677 ⟨hc2, hs2⟩ (fun _ H locs w => ?_)
  refine lv_iload hx9 hb dL_law_680 (lv_at hl 1 rfl) ?_
  refine lv_icmp_eq (tgt := 687) hx9 hb dL_law_682 (by decide) (fun _ => ?_) (fun n => absurd heq n)
  refine lv_iload hx9 hb dL_law_687 (lv_at hl 1 rfl) ?_
  refine lv_if_ne (tgt := 704) hx9 hb dL_law_689 (by decide) (fun n => ?_) (fun n => ?_)
  · refine lv_goto (tgt := 2724) hx9 hb dL_law_704 (by decide) ?_
    exact kk u _ _ _ w (lv_sub hl [2, 3, 4, 5, 6] rfl)
  obtain ⟨fo, ho1, ho2⟩ := hval n u
  refine lv_aload_n hx9 hb dL_law_692 rfl (lv_at hl 5 rfl) ?_
  refine lv_iconst (v := 0) hx9 hb dL_law_693 (by decide) ?_
  refine lal_mem C w ho1 dL_law_694 ?_
  refine lv_iload hx9 hb dL_law_695 (lv_at hl 0 rfl) ?_
  refine lv_i2l (v := bv.toInt64) hx9 hb dL_law_697 rfl ?_
  refine W.lcmp hx9 hb dL_law_698 ?_
  refine lv_if_eq (tgt := 704) hx9 hb dL_law_699 (by decide) (fun _ => ?_) (fun n => absurd (by rw [ho2]; exact lg_cmp_self _) n)
  refine lv_goto (tgt := 2724) hx9 hb dL_law_704 (by decide) ?_
  exact kk u _ _ _ w (lv_sub hl [2, 3, 4, 5, 6] rfl)


theorem q_395 : Cond.code yX9_passageCount cX9_passageCount 1 (some .int) ∈ TS := ts_t 395 (by decide +kernel) (by decide +kernel)
theorem q_392 : Cond.methodLink RL 166 yX9_passageCount ∈ TS := ts_t 392 (by decide +kernel) (by decide +kernel)
theorem q_393 : Cond.instanceMethod yX9_passageCount ∈ TS := ts_t 393 (by decide +kernel) (by decide +kernel)
theorem q_394 : Cond.selects yX9_passageCount.cls yX9_passageCount yX9_passageCount ∈ TS := ts_t 394 (by decide +kernel) (by decide +kernel)
theorem k_L_166 : LkV RL 166 m_X9_passageCount 0 := ⟨q_392, q_393, q_394, ⟨q_1, q_395, by decide, by decide, by decide +kernel⟩⟩
theorem q_1491 : Cond.code yX10_passageCount cX10_passageCount 1 (some .int) ∈ TS := ts_t 1491 (by decide +kernel) (by decide +kernel)
theorem q_1488 : Cond.methodLink RL 169 yX10_passageCount ∈ TS := ts_t 1488 (by decide +kernel) (by decide +kernel)
theorem q_1489 : Cond.instanceMethod yX10_passageCount ∈ TS := ts_t 1489 (by decide +kernel) (by decide +kernel)
theorem q_1490 : Cond.selects yX10_passageCount.cls yX10_passageCount yX10_passageCount ∈ TS := ts_t 1490 (by decide +kernel) (by decide +kernel)
theorem k_L_169 : LkV RL 169 m_X10_passageCount 0 := ⟨q_1488, q_1489, q_1490, ⟨q_11, q_1491, by decide, by decide, by decide +kernel⟩⟩
set_option maxHeartbeats 4000000 in
theorem lc_8 {p : Program} {l : Launch} {e : Env} {s : State} {m : MethodId} {args : Array Value} {below : List Frame} {meth : Method} {c : Code} {H : Heap} {locs : List Loc} {cells slots : Nat} {Q : State → Prop} {g : GT} {A : Nat → Prop} {ws : va_W} {ls : Array Slot} {b L : Nat} {xs : Nat → Int32} {i4 : Int32} {hx hm ho : Nat} {wc wd wd' we : va_W} {wc' wn1 wn2 : (Nat → Nat) → va_W} {k1 k2 mc1 ms1 : Nat} {kv bv tv : Int32} {fs1 fs2 fs3 : List Value} (X : Lx p s m args meth c g A b L xs i4) (w : Wd g A ws s.heap H locs) (hl : lv_has ls 7 [(0, .ref b), (1, .ref hx), (2, .ref hm), (3, .ref ho), (4, .int i4)]) (P1 : PM ws wc wc' wn1) (hK1 : ∀ sz, CI l m_X9_passageCount (rml k1 mc1 ms1) g wc wc' sz [.ref hx] kv) (hm1 : (hx, .inr (9, fs1)) ∈ wc) (P2 : ∀ u, PM (wn1 u) wd (fun _ => wd') (fun _ => wn2 u)) (hK2 : ∀ sz, CI l m_X10_passageCount (rml k2 0 0) g wd (fun _ => wd') sz [.ref hm] bv) (hm2 : (hm, .inr (10, fs2)) ∈ wd) (heq : kv = bv) (hk1 : k1 ≤ 100) (hk2 : k2 ≤ 100) (hc1 : cells + mc1 ≤ room_1.cells) (hs1 : slots + ms1 ≤ room_1.slots) (kk : ∀ (u : Nat → Nat) (H : Heap) (locs : List Loc) (ls : Array Slot), Wd g A (wn2 u) s.heap H locs → lv_has ls 7 [(0, .ref b), (1, .ref hx), (2, .ref hm), (3, .ref ho), (4, .int i4)] → W p l e room_1 s m args below meth c H locs (cells + mc1) (slots + ms1) Q (F0 m 2724 ls [])) : W p l e room_1 s m args below meth c H locs cells slots Q (F0 m 707 ls []) := by
  obtain ⟨C, hX, hbl, hbA, hi1, hi2, hi3, hi4, hi5⟩ := X
  have hx9 := C.1
  have hb : c.code = cL_law := C.2.1
  have hc2 : cells + mc1 + 0 ≤ room_1.cells := hc1
  have hs2 : slots + ms1 + 0 ≤ room_1.slots := hs1
  refine lv_aload_n hx9 hb dL_law_707 rfl (lv_at hl 1 rfl) ?_
  refine cm_iV C w P1 (hK1 _) k_L_166 (rm_law hk1 (by decide)) hm1 rfl rfl rfl hl.1 rfl (Nat.le_of_ble_eq_true rfl) dL_law_708 ⟨hc1, hs1⟩ (fun u H locs w => ?_)
  refine lv_aload_n hx9 hb dL_law_711 rfl (lv_at hl 2 rfl) ?_
  refine cm_iV C w (P2 u) (hK2 _) k_L_169 (rm_law hk2 (by decide)) hm2 rfl rfl rfl hl.1 rfl (Nat.le_of_ble_eq_true rfl) dL_law_712 ⟨hc2, hs2⟩ (fun _ H locs w => ?_)
  refine lv_icmp_eq (tgt := 2724) hx9 hb dL_law_715 (by decide) (fun _ => ?_) (fun n => absurd heq n)
  exact kk u _ _ _ w (lv_sub hl [0, 1, 2, 3, 4] rfl)

theorem q_839 : Cond.methodLink RL 170 yL_passageGantry ∈ TS := ts_t 839 (by decide +kernel) (by decide +kernel)
theorem q_840 : Cond.static yL_passageGantry ∈ TS := ts_t 840 (by decide +kernel) (by decide +kernel)
theorem q_841 : Cond.codeWith yL_passageGantry cL_passageGantry 4 (some .int) [(0, 9, 12, 32)] ∈ TS := ts_t 841 (by decide +kernel) (by decide +kernel)
theorem kk_L_170 : LkK RL 170 m_L_passageGantry [(0, 9, 12, 32)] 3 := ⟨q_839, q_840, q_0, q_841, by decide, by decide, by decide +kernel⟩
theorem q_1495 : Cond.code yX10_passageGantry cX10_passageGantry 2 (some .int) ∈ TS := ts_t 1495 (by decide +kernel) (by decide +kernel)
theorem q_1492 : Cond.methodLink RL 172 yX10_passageGantry ∈ TS := ts_t 1492 (by decide +kernel) (by decide +kernel)
theorem q_1493 : Cond.instanceMethod yX10_passageGantry ∈ TS := ts_t 1493 (by decide +kernel) (by decide +kernel)
theorem q_1494 : Cond.selects yX10_passageGantry.cls yX10_passageGantry yX10_passageGantry ∈ TS := ts_t 1494 (by decide +kernel) (by decide +kernel)
theorem k_L_172 : LkV RL 172 m_X10_passageGantry 1 := ⟨q_1492, q_1493, q_1494, ⟨q_11, q_1495, by decide, by decide, by decide +kernel⟩⟩
set_option maxHeartbeats 4000000 in
theorem lc_9 {p : Program} {l : Launch} {e : Env} {s : State} {m : MethodId} {args : Array Value} {below : List Frame} {meth : Method} {c : Code} {H : Heap} {locs : List Loc} {cells slots : Nat} {Q : State → Prop} {g : GT} {A : Nat → Prop} {ws : va_W} {ls : Array Slot} {b L : Nat} {xs : Nat → Int32} {i4 : Int32} {hx hm ho : Nat} {wc wd wd' we : va_W} {wc' wn1 wn2 : (Nat → Nat) → va_W} {k1 k2 mc1 ms1 : Nat} {kv bv tv : Int32} {fs1 fs2 fs3 : List Value} (X : Lx p s m args meth c g A b L xs i4) (w : Wd g A ws s.heap H locs) (hl : lv_has ls 7 [(0, .ref b), (1, .ref hx), (2, .ref hm), (3, .ref ho), (4, .int i4)]) (P1 : PM ws wc wc' wn1) (hK1 : ∀ sz, KI l m_L_passageGantry [(0, 9, 12, 32)] (rml k1 mc1 ms1) g wc wc' sz [.ref hx, .int (xs (i4 + 1).toNatClampNeg), .ref ho] kv) (P2 : ∀ u, PM (wn1 u) wd (fun _ => wd') (fun _ => wn2 u)) (hK2 : ∀ sz, CI l m_X10_passageGantry (rml k2 0 0) g wd (fun _ => wd') sz [.ref hm, .int (xs (i4 + 1).toNatClampNeg)] bv) (hm2 : (hm, .inr (10, fs2)) ∈ wd) (P3 : ∀ u, PM (wn2 u) we (fun _ => we) (fun _ => wn2 u)) (hK3 : ∀ sz, CI l m_X10_thrown (rml 0 0 0) g we (fun _ => we) sz [.ref hm] tv) (hm3 : (hm, .inr (10, fs3)) ∈ we) (heq : tv = kv) (hval : kv = 0 → ∀ u, ∃ fo : Nat → Int64, (ho, aJ g 1 fo) ∈ wn2 u ∧ fo 0 = bv.toInt64) (hk1 : k1 ≤ 100) (hk2 : k2 ≤ 100) (hc1 : cells + mc1 ≤ room_1.cells) (hs1 : slots + ms1 ≤ room_1.slots) (kk : ∀ (u : Nat → Nat) (H : Heap) (locs : List Loc) (ls : Array Slot), Wd g A (wn2 u) s.heap H locs → lv_has ls 7 [(0, .ref b), (1, .ref hx), (2, .ref hm), (3, .ref ho), (4, .int i4)] → W p l e room_1 s m args below meth c H locs (cells + mc1) (slots + ms1) Q (F0 m 2724 ls [])) : W p l e room_1 s m args below meth c H locs cells slots Q (F0 m 720 ls []) := by
  obtain ⟨C, hX, hbl, hbA, hi1, hi2, hi3, hi4, hi5⟩ := X
  have hx9 := C.1
  have hb : c.code = cL_law := C.2.1
  have hc2 : cells + mc1 + 0 ≤ room_1.cells := hc1
  have hs2 : slots + ms1 + 0 ≤ room_1.slots := hs1
  refine lv_aload_n hx9 hb dL_law_720 rfl (lv_at hl 1 rfl) ?_
  refine lv_aload_n hx9 hb dL_law_721 rfl (lv_at hl 0 rfl) ?_
  refine lv_iload hx9 hb dL_law_722 (lv_at hl 4 rfl) ?_
  refine lv_iconst (v := 1) hx9 hb dL_law_724 (by decide) ?_
  refine lv_iadd hx9 hb dL_law_725 ?_
  refine va_sld hx9 hb hX hbl hbA w.2.2 hi1 dL_law_726 ?_
  refine lv_aload_n hx9 hb dL_law_727 rfl (lv_at hl 3 rfl) ?_
  refine ck_iS C w P1 (hK1 _) kk_L_170 (rm_law hk1 (by decide)) rfl hl.1 rfl (Nat.le_of_ble_eq_true rfl) dL_law_728 ⟨hc1, hs1⟩ (fun u H locs w => ?_)
  refine lv_istore (lv' := [(5, .int kv), (0, .ref b), (1, .ref hx), (2, .ref hm), (3, .ref ho), (4, .int i4)]) hx9 hb dL_law_731 hl (by decide) rfl (fun ls hl => ?_)
  refine lv_aload_n hx9 hb dL_law_733 rfl (lv_at hl 3 rfl) ?_
  refine lv_aload_n hx9 hb dL_law_734 rfl (lv_at hl 1 rfl) ?_
  refine lv_iload hx9 hb dL_law_735 (lv_at hl 5 rfl) ?_
  refine lv_iconst (v := 1) hx9 hb dL_law_737 (by decide) ?_
  refine lv_iadd hx9 hb dL_law_738 ?_
  refine va_sld hx9 hb hX hbl hbA w.2.2 hi1 dL_law_739 ?_
  refine cm_iV C w (P2 u) (hK2 _) k_L_172 (rm_law hk2 (by decide)) hm2 rfl rfl rfl hl.1 rfl (Nat.le_of_ble_eq_true rfl) dL_law_740 ⟨hc2, hs2⟩ (fun _ H locs w => ?_)
  refine lv_istore (lv' := [(6, .int bv), (5, .int kv), (0, .ref b), (1, .ref hx), (2, .ref hm), (3, .ref ho), (4, .int i4)]) hx9 hb dL_law_743 hl (by decide) rfl (fun ls hl => ?_)
  refine lv_aload_n hx9 hb dL_law_745 rfl (lv_at hl 4 rfl) ?_
  refine cm_iV C w (P3 u) (hK3 _) k_L_140 (rm_law (by decide) (by decide)) hm3 rfl rfl rfl hl.1 rfl (Nat.le_of_ble_eq_true rfl) dL_law_746 ⟨hc2, hs2⟩ (fun _ H locs w => ?_)
  refine lv_iload hx9 hb dL_law_749 (lv_at hl 1 rfl) ?_
  refine lv_icmp_eq (tgt := 756) hx9 hb dL_law_751 (by decide) (fun _ => ?_) (fun n => absurd heq n)
  refine lv_iload hx9 hb dL_law_756 (lv_at hl 1 rfl) ?_
  refine lv_if_ne (tgt := 773) hx9 hb dL_law_758 (by decide) (fun n => ?_) (fun n => ?_)
  · refine lv_goto (tgt := 2724) hx9 hb dL_law_773 (by decide) ?_
    exact kk u _ _ _ w (lv_sub hl [2, 3, 4, 5, 6] rfl)
  obtain ⟨fo, ho1, ho2⟩ := hval n u
  refine lv_aload_n hx9 hb dL_law_761 rfl (lv_at hl 5 rfl) ?_
  refine lv_iconst (v := 0) hx9 hb dL_law_762 (by decide) ?_
  refine lal_mem C w ho1 dL_law_763 ?_
  refine lv_iload hx9 hb dL_law_764 (lv_at hl 0 rfl) ?_
  refine lv_i2l (v := bv.toInt64) hx9 hb dL_law_766 rfl ?_
  refine W.lcmp hx9 hb dL_law_767 ?_
  refine lv_if_eq (tgt := 773) hx9 hb dL_law_768 (by decide) (fun _ => ?_) (fun n => absurd (by rw [ho2]; exact lg_cmp_self _) n)
  refine lv_goto (tgt := 2724) hx9 hb dL_law_773 (by decide) ?_
  exact kk u _ _ _ w (lv_sub hl [2, 3, 4, 5, 6] rfl)

theorem q_867 : Cond.methodLink RL 173 yL_passageTime ∈ TS := ts_t 867 (by decide +kernel) (by decide +kernel)
theorem q_868 : Cond.static yL_passageTime ∈ TS := ts_t 868 (by decide +kernel) (by decide +kernel)
theorem q_869 : Cond.codeWith yL_passageTime cL_passageTime 4 (some .int) [(0, 9, 12, 32)] ∈ TS := ts_t 869 (by decide +kernel) (by decide +kernel)
theorem kk_L_173 : LkK RL 173 m_L_passageTime [(0, 9, 12, 32)] 3 := ⟨q_867, q_868, q_0, q_869, by decide, by decide, by decide +kernel⟩
theorem q_1538 : Cond.code yX10_passageTime cX10_passageTime 2 (some .int) ∈ TS := ts_t 1538 (by decide +kernel) (by decide +kernel)
theorem q_1535 : Cond.methodLink RL 175 yX10_passageTime ∈ TS := ts_t 1535 (by decide +kernel) (by decide +kernel)
theorem q_1536 : Cond.instanceMethod yX10_passageTime ∈ TS := ts_t 1536 (by decide +kernel) (by decide +kernel)
theorem q_1537 : Cond.selects yX10_passageTime.cls yX10_passageTime yX10_passageTime ∈ TS := ts_t 1537 (by decide +kernel) (by decide +kernel)
theorem k_L_175 : LkV RL 175 m_X10_passageTime 1 := ⟨q_1535, q_1536, q_1537, ⟨q_11, q_1538, by decide, by decide, by decide +kernel⟩⟩
set_option maxHeartbeats 4000000 in
theorem lc_10 {p : Program} {l : Launch} {e : Env} {s : State} {m : MethodId} {args : Array Value} {below : List Frame} {meth : Method} {c : Code} {H : Heap} {locs : List Loc} {cells slots : Nat} {Q : State → Prop} {g : GT} {A : Nat → Prop} {ws : va_W} {ls : Array Slot} {b L : Nat} {xs : Nat → Int32} {i4 : Int32} {hx hm ho : Nat} {wc wd wd' we : va_W} {wc' wn1 wn2 : (Nat → Nat) → va_W} {k1 k2 mc1 ms1 : Nat} {kv bv tv : Int32} {fs1 fs2 fs3 : List Value} (X : Lx p s m args meth c g A b L xs i4) (w : Wd g A ws s.heap H locs) (hl : lv_has ls 7 [(0, .ref b), (1, .ref hx), (2, .ref hm), (3, .ref ho), (4, .int i4)]) (P1 : PM ws wc wc' wn1) (hK1 : ∀ sz, KI l m_L_passageTime [(0, 9, 12, 32)] (rml k1 mc1 ms1) g wc wc' sz [.ref hx, .int (xs (i4 + 1).toNatClampNeg), .ref ho] kv) (P2 : ∀ u, PM (wn1 u) wd (fun _ => wd') (fun _ => wn2 u)) (hK2 : ∀ sz, CI l m_X10_passageTime (rml k2 0 0) g wd (fun _ => wd') sz [.ref hm, .int (xs (i4 + 1).toNatClampNeg)] bv) (hm2 : (hm, .inr (10, fs2)) ∈ wd) (P3 : ∀ u, PM (wn2 u) we (fun _ => we) (fun _ => wn2 u)) (hK3 : ∀ sz, CI l m_X10_thrown (rml 0 0 0) g we (fun _ => we) sz [.ref hm] tv) (hm3 : (hm, .inr (10, fs3)) ∈ we) (heq : tv = kv) (hval : kv = 0 → ∀ u, ∃ fo : Nat → Int64, (ho, aJ g 1 fo) ∈ wn2 u ∧ fo 0 = bv.toInt64) (hk1 : k1 ≤ 100) (hk2 : k2 ≤ 100) (hc1 : cells + mc1 ≤ room_1.cells) (hs1 : slots + ms1 ≤ room_1.slots) (kk : ∀ (u : Nat → Nat) (H : Heap) (locs : List Loc) (ls : Array Slot), Wd g A (wn2 u) s.heap H locs → lv_has ls 7 [(0, .ref b), (1, .ref hx), (2, .ref hm), (3, .ref ho), (4, .int i4)] → W p l e room_1 s m args below meth c H locs (cells + mc1) (slots + ms1) Q (F0 m 2724 ls [])) : W p l e room_1 s m args below meth c H locs cells slots Q (F0 m 776 ls []) := by
  obtain ⟨C, hX, hbl, hbA, hi1, hi2, hi3, hi4, hi5⟩ := X
  have hx9 := C.1
  have hb : c.code = cL_law := C.2.1
  have hc2 : cells + mc1 + 0 ≤ room_1.cells := hc1
  have hs2 : slots + ms1 + 0 ≤ room_1.slots := hs1
  refine lv_aload_n hx9 hb dL_law_776 rfl (lv_at hl 1 rfl) ?_
  refine lv_aload_n hx9 hb dL_law_777 rfl (lv_at hl 0 rfl) ?_
  refine lv_iload hx9 hb dL_law_778 (lv_at hl 4 rfl) ?_
  refine lv_iconst (v := 1) hx9 hb dL_law_780 (by decide) ?_
  refine lv_iadd hx9 hb dL_law_781 ?_
  refine va_sld hx9 hb hX hbl hbA w.2.2 hi1 dL_law_782 ?_
  refine lv_aload_n hx9 hb dL_law_783 rfl (lv_at hl 3 rfl) ?_
  refine ck_iS C w P1 (hK1 _) kk_L_173 (rm_law hk1 (by decide)) rfl hl.1 rfl (Nat.le_of_ble_eq_true rfl) dL_law_784 ⟨hc1, hs1⟩ (fun u H locs w => ?_)
  refine lv_istore (lv' := [(5, .int kv), (0, .ref b), (1, .ref hx), (2, .ref hm), (3, .ref ho), (4, .int i4)]) hx9 hb dL_law_787 hl (by decide) rfl (fun ls hl => ?_)
  refine lv_aload_n hx9 hb dL_law_789 rfl (lv_at hl 3 rfl) ?_
  refine lv_aload_n hx9 hb dL_law_790 rfl (lv_at hl 1 rfl) ?_
  refine lv_iload hx9 hb dL_law_791 (lv_at hl 5 rfl) ?_
  refine lv_iconst (v := 1) hx9 hb dL_law_793 (by decide) ?_
  refine lv_iadd hx9 hb dL_law_794 ?_
  refine va_sld hx9 hb hX hbl hbA w.2.2 hi1 dL_law_795 ?_
  refine cm_iV C w (P2 u) (hK2 _) k_L_175 (rm_law hk2 (by decide)) hm2 rfl rfl rfl hl.1 rfl (Nat.le_of_ble_eq_true rfl) dL_law_796 ⟨hc2, hs2⟩ (fun _ H locs w => ?_)
  refine lv_istore (lv' := [(6, .int bv), (5, .int kv), (0, .ref b), (1, .ref hx), (2, .ref hm), (3, .ref ho), (4, .int i4)]) hx9 hb dL_law_799 hl (by decide) rfl (fun ls hl => ?_)
  refine lv_aload_n hx9 hb dL_law_801 rfl (lv_at hl 4 rfl) ?_
  refine cm_iV C w (P3 u) (hK3 _) k_L_140 (rm_law (by decide) (by decide)) hm3 rfl rfl rfl hl.1 rfl (Nat.le_of_ble_eq_true rfl) dL_law_802 ⟨hc2, hs2⟩ (fun _ H locs w => ?_)
  refine lv_iload hx9 hb dL_law_805 (lv_at hl 1 rfl) ?_
  refine lv_icmp_eq (tgt := 812) hx9 hb dL_law_807 (by decide) (fun _ => ?_) (fun n => absurd heq n)
  refine lv_iload hx9 hb dL_law_812 (lv_at hl 1 rfl) ?_
  refine lv_if_ne (tgt := 829) hx9 hb dL_law_814 (by decide) (fun n => ?_) (fun n => ?_)
  · refine lv_goto (tgt := 2724) hx9 hb dL_law_829 (by decide) ?_
    exact kk u _ _ _ w (lv_sub hl [2, 3, 4, 5, 6] rfl)
  obtain ⟨fo, ho1, ho2⟩ := hval n u
  refine lv_aload_n hx9 hb dL_law_817 rfl (lv_at hl 5 rfl) ?_
  refine lv_iconst (v := 0) hx9 hb dL_law_818 (by decide) ?_
  refine lal_mem C w ho1 dL_law_819 ?_
  refine lv_iload hx9 hb dL_law_820 (lv_at hl 0 rfl) ?_
  refine lv_i2l (v := bv.toInt64) hx9 hb dL_law_822 rfl ?_
  refine W.lcmp hx9 hb dL_law_823 ?_
  refine lv_if_eq (tgt := 829) hx9 hb dL_law_824 (by decide) (fun _ => ?_) (fun n => absurd (by rw [ho2]; exact lg_cmp_self _) n)
  refine lv_goto (tgt := 2724) hx9 hb dL_law_829 (by decide) ?_
  exact kk u _ _ _ w (lv_sub hl [2, 3, 4, 5, 6] rfl)

theorem q_874 : Cond.methodLink RL 176 yL_passageTag ∈ TS := ts_t 874 (by decide +kernel) (by decide +kernel)
theorem q_875 : Cond.static yL_passageTag ∈ TS := ts_t 875 (by decide +kernel) (by decide +kernel)
theorem q_876 : Cond.codeWith yL_passageTag cL_passageTag 4 (some .int) [(0, 9, 12, 32)] ∈ TS := ts_t 876 (by decide +kernel) (by decide +kernel)
theorem kk_L_176 : LkK RL 176 m_L_passageTag [(0, 9, 12, 32)] 3 := ⟨q_874, q_875, q_0, q_876, by decide, by decide, by decide +kernel⟩
theorem q_1542 : Cond.code yX10_passageTag cX10_passageTag 2 (some .int) ∈ TS := ts_t 1542 (by decide +kernel) (by decide +kernel)
theorem q_1539 : Cond.methodLink RL 178 yX10_passageTag ∈ TS := ts_t 1539 (by decide +kernel) (by decide +kernel)
theorem q_1540 : Cond.instanceMethod yX10_passageTag ∈ TS := ts_t 1540 (by decide +kernel) (by decide +kernel)
theorem q_1541 : Cond.selects yX10_passageTag.cls yX10_passageTag yX10_passageTag ∈ TS := ts_t 1541 (by decide +kernel) (by decide +kernel)
theorem k_L_178 : LkV RL 178 m_X10_passageTag 1 := ⟨q_1539, q_1540, q_1541, ⟨q_11, q_1542, by decide, by decide, by decide +kernel⟩⟩
set_option maxHeartbeats 4000000 in
theorem lc_11 {p : Program} {l : Launch} {e : Env} {s : State} {m : MethodId} {args : Array Value} {below : List Frame} {meth : Method} {c : Code} {H : Heap} {locs : List Loc} {cells slots : Nat} {Q : State → Prop} {g : GT} {A : Nat → Prop} {ws : va_W} {ls : Array Slot} {b L : Nat} {xs : Nat → Int32} {i4 : Int32} {hx hm ho : Nat} {wc wd wd' we : va_W} {wc' wn1 wn2 : (Nat → Nat) → va_W} {k1 k2 mc1 ms1 : Nat} {kv bv tv : Int32} {fs1 fs2 fs3 : List Value} (X : Lx p s m args meth c g A b L xs i4) (w : Wd g A ws s.heap H locs) (hl : lv_has ls 7 [(0, .ref b), (1, .ref hx), (2, .ref hm), (3, .ref ho), (4, .int i4)]) (P1 : PM ws wc wc' wn1) (hK1 : ∀ sz, KI l m_L_passageTag [(0, 9, 12, 32)] (rml k1 mc1 ms1) g wc wc' sz [.ref hx, .int (xs (i4 + 1).toNatClampNeg), .ref ho] kv) (P2 : ∀ u, PM (wn1 u) wd (fun _ => wd') (fun _ => wn2 u)) (hK2 : ∀ sz, CI l m_X10_passageTag (rml k2 0 0) g wd (fun _ => wd') sz [.ref hm, .int (xs (i4 + 1).toNatClampNeg)] bv) (hm2 : (hm, .inr (10, fs2)) ∈ wd) (P3 : ∀ u, PM (wn2 u) we (fun _ => we) (fun _ => wn2 u)) (hK3 : ∀ sz, CI l m_X10_thrown (rml 0 0 0) g we (fun _ => we) sz [.ref hm] tv) (hm3 : (hm, .inr (10, fs3)) ∈ we) (heq : tv = kv) (hval : kv = 0 → ∀ u, ∃ fo : Nat → Int64, (ho, aJ g 1 fo) ∈ wn2 u ∧ fo 0 = bv.toInt64) (hk1 : k1 ≤ 100) (hk2 : k2 ≤ 100) (hc1 : cells + mc1 ≤ room_1.cells) (hs1 : slots + ms1 ≤ room_1.slots) (kk : ∀ (u : Nat → Nat) (H : Heap) (locs : List Loc) (ls : Array Slot), Wd g A (wn2 u) s.heap H locs → lv_has ls 7 [(0, .ref b), (1, .ref hx), (2, .ref hm), (3, .ref ho), (4, .int i4)] → W p l e room_1 s m args below meth c H locs (cells + mc1) (slots + ms1) Q (F0 m 2724 ls [])) : W p l e room_1 s m args below meth c H locs cells slots Q (F0 m 832 ls []) := by
  obtain ⟨C, hX, hbl, hbA, hi1, hi2, hi3, hi4, hi5⟩ := X
  have hx9 := C.1
  have hb : c.code = cL_law := C.2.1
  have hc2 : cells + mc1 + 0 ≤ room_1.cells := hc1
  have hs2 : slots + ms1 + 0 ≤ room_1.slots := hs1
  refine lv_aload_n hx9 hb dL_law_832 rfl (lv_at hl 1 rfl) ?_
  refine lv_aload_n hx9 hb dL_law_833 rfl (lv_at hl 0 rfl) ?_
  refine lv_iload hx9 hb dL_law_834 (lv_at hl 4 rfl) ?_
  refine lv_iconst (v := 1) hx9 hb dL_law_836 (by decide) ?_
  refine lv_iadd hx9 hb dL_law_837 ?_
  refine va_sld hx9 hb hX hbl hbA w.2.2 hi1 dL_law_838 ?_
  refine lv_aload_n hx9 hb dL_law_839 rfl (lv_at hl 3 rfl) ?_
  refine ck_iS C w P1 (hK1 _) kk_L_176 (rm_law hk1 (by decide)) rfl hl.1 rfl (Nat.le_of_ble_eq_true rfl) dL_law_840 ⟨hc1, hs1⟩ (fun u H locs w => ?_)
  refine lv_istore (lv' := [(5, .int kv), (0, .ref b), (1, .ref hx), (2, .ref hm), (3, .ref ho), (4, .int i4)]) hx9 hb dL_law_843 hl (by decide) rfl (fun ls hl => ?_)
  refine lv_aload_n hx9 hb dL_law_845 rfl (lv_at hl 3 rfl) ?_
  refine lv_aload_n hx9 hb dL_law_846 rfl (lv_at hl 1 rfl) ?_
  refine lv_iload hx9 hb dL_law_847 (lv_at hl 5 rfl) ?_
  refine lv_iconst (v := 1) hx9 hb dL_law_849 (by decide) ?_
  refine lv_iadd hx9 hb dL_law_850 ?_
  refine va_sld hx9 hb hX hbl hbA w.2.2 hi1 dL_law_851 ?_
  refine cm_iV C w (P2 u) (hK2 _) k_L_178 (rm_law hk2 (by decide)) hm2 rfl rfl rfl hl.1 rfl (Nat.le_of_ble_eq_true rfl) dL_law_852 ⟨hc2, hs2⟩ (fun _ H locs w => ?_)
  refine lv_istore (lv' := [(6, .int bv), (5, .int kv), (0, .ref b), (1, .ref hx), (2, .ref hm), (3, .ref ho), (4, .int i4)]) hx9 hb dL_law_855 hl (by decide) rfl (fun ls hl => ?_)
  refine lv_aload_n hx9 hb dL_law_857 rfl (lv_at hl 4 rfl) ?_
  refine cm_iV C w (P3 u) (hK3 _) k_L_140 (rm_law (by decide) (by decide)) hm3 rfl rfl rfl hl.1 rfl (Nat.le_of_ble_eq_true rfl) dL_law_858 ⟨hc2, hs2⟩ (fun _ H locs w => ?_)
  refine lv_iload hx9 hb dL_law_861 (lv_at hl 1 rfl) ?_
  refine lv_icmp_eq (tgt := 868) hx9 hb dL_law_863 (by decide) (fun _ => ?_) (fun n => absurd heq n)
  refine lv_iload hx9 hb dL_law_868 (lv_at hl 1 rfl) ?_
  refine lv_if_ne (tgt := 885) hx9 hb dL_law_870 (by decide) (fun n => ?_) (fun n => ?_)
  · refine lv_goto (tgt := 2724) hx9 hb dL_law_885 (by decide) ?_
    exact kk u _ _ _ w (lv_sub hl [2, 3, 4, 5, 6] rfl)
  obtain ⟨fo, ho1, ho2⟩ := hval n u
  refine lv_aload_n hx9 hb dL_law_873 rfl (lv_at hl 5 rfl) ?_
  refine lv_iconst (v := 0) hx9 hb dL_law_874 (by decide) ?_
  refine lal_mem C w ho1 dL_law_875 ?_
  refine lv_iload hx9 hb dL_law_876 (lv_at hl 0 rfl) ?_
  refine lv_i2l (v := bv.toInt64) hx9 hb dL_law_878 rfl ?_
  refine W.lcmp hx9 hb dL_law_879 ?_
  refine lv_if_eq (tgt := 885) hx9 hb dL_law_880 (by decide) (fun _ => ?_) (fun n => absurd (by rw [ho2]; exact lg_cmp_self _) n)
  refine lv_goto (tgt := 2724) hx9 hb dL_law_885 (by decide) ?_
  exact kk u _ _ _ w (lv_sub hl [2, 3, 4, 5, 6] rfl)

theorem q_881 : Cond.methodLink RL 179 yL_passagePlate ∈ TS := ts_t 881 (by decide +kernel) (by decide +kernel)
theorem q_882 : Cond.static yL_passagePlate ∈ TS := ts_t 882 (by decide +kernel) (by decide +kernel)
theorem q_883 : Cond.codeWith yL_passagePlate cL_passagePlate 4 (some .int) [(0, 9, 12, 32)] ∈ TS := ts_t 883 (by decide +kernel) (by decide +kernel)
theorem kk_L_179 : LkK RL 179 m_L_passagePlate [(0, 9, 12, 32)] 3 := ⟨q_881, q_882, q_0, q_883, by decide, by decide, by decide +kernel⟩
theorem q_1546 : Cond.code yX10_passagePlate cX10_passagePlate 2 (some .int) ∈ TS := ts_t 1546 (by decide +kernel) (by decide +kernel)
theorem q_1543 : Cond.methodLink RL 181 yX10_passagePlate ∈ TS := ts_t 1543 (by decide +kernel) (by decide +kernel)
theorem q_1544 : Cond.instanceMethod yX10_passagePlate ∈ TS := ts_t 1544 (by decide +kernel) (by decide +kernel)
theorem q_1545 : Cond.selects yX10_passagePlate.cls yX10_passagePlate yX10_passagePlate ∈ TS := ts_t 1545 (by decide +kernel) (by decide +kernel)
theorem k_L_181 : LkV RL 181 m_X10_passagePlate 1 := ⟨q_1543, q_1544, q_1545, ⟨q_11, q_1546, by decide, by decide, by decide +kernel⟩⟩
set_option maxHeartbeats 4000000 in
theorem lc_12 {p : Program} {l : Launch} {e : Env} {s : State} {m : MethodId} {args : Array Value} {below : List Frame} {meth : Method} {c : Code} {H : Heap} {locs : List Loc} {cells slots : Nat} {Q : State → Prop} {g : GT} {A : Nat → Prop} {ws : va_W} {ls : Array Slot} {b L : Nat} {xs : Nat → Int32} {i4 : Int32} {hx hm ho : Nat} {wc wd wd' we : va_W} {wc' wn1 wn2 : (Nat → Nat) → va_W} {k1 k2 mc1 ms1 : Nat} {kv bv tv : Int32} {fs1 fs2 fs3 : List Value} (X : Lx p s m args meth c g A b L xs i4) (w : Wd g A ws s.heap H locs) (hl : lv_has ls 7 [(0, .ref b), (1, .ref hx), (2, .ref hm), (3, .ref ho), (4, .int i4)]) (P1 : PM ws wc wc' wn1) (hK1 : ∀ sz, KI l m_L_passagePlate [(0, 9, 12, 32)] (rml k1 mc1 ms1) g wc wc' sz [.ref hx, .int (xs (i4 + 1).toNatClampNeg), .ref ho] kv) (P2 : ∀ u, PM (wn1 u) wd (fun _ => wd') (fun _ => wn2 u)) (hK2 : ∀ sz, CI l m_X10_passagePlate (rml k2 0 0) g wd (fun _ => wd') sz [.ref hm, .int (xs (i4 + 1).toNatClampNeg)] bv) (hm2 : (hm, .inr (10, fs2)) ∈ wd) (P3 : ∀ u, PM (wn2 u) we (fun _ => we) (fun _ => wn2 u)) (hK3 : ∀ sz, CI l m_X10_thrown (rml 0 0 0) g we (fun _ => we) sz [.ref hm] tv) (hm3 : (hm, .inr (10, fs3)) ∈ we) (heq : tv = kv) (hval : kv = 0 → ∀ u, ∃ fo : Nat → Int64, (ho, aJ g 1 fo) ∈ wn2 u ∧ fo 0 = bv.toInt64) (hk1 : k1 ≤ 100) (hk2 : k2 ≤ 100) (hc1 : cells + mc1 ≤ room_1.cells) (hs1 : slots + ms1 ≤ room_1.slots) (kk : ∀ (u : Nat → Nat) (H : Heap) (locs : List Loc) (ls : Array Slot), Wd g A (wn2 u) s.heap H locs → lv_has ls 7 [(0, .ref b), (1, .ref hx), (2, .ref hm), (3, .ref ho), (4, .int i4)] → W p l e room_1 s m args below meth c H locs (cells + mc1) (slots + ms1) Q (F0 m 2724 ls [])) : W p l e room_1 s m args below meth c H locs cells slots Q (F0 m 888 ls []) := by
  obtain ⟨C, hX, hbl, hbA, hi1, hi2, hi3, hi4, hi5⟩ := X
  have hx9 := C.1
  have hb : c.code = cL_law := C.2.1
  have hc2 : cells + mc1 + 0 ≤ room_1.cells := hc1
  have hs2 : slots + ms1 + 0 ≤ room_1.slots := hs1
  refine lv_aload_n hx9 hb dL_law_888 rfl (lv_at hl 1 rfl) ?_
  refine lv_aload_n hx9 hb dL_law_889 rfl (lv_at hl 0 rfl) ?_
  refine lv_iload hx9 hb dL_law_890 (lv_at hl 4 rfl) ?_
  refine lv_iconst (v := 1) hx9 hb dL_law_892 (by decide) ?_
  refine lv_iadd hx9 hb dL_law_893 ?_
  refine va_sld hx9 hb hX hbl hbA w.2.2 hi1 dL_law_894 ?_
  refine lv_aload_n hx9 hb dL_law_895 rfl (lv_at hl 3 rfl) ?_
  refine ck_iS C w P1 (hK1 _) kk_L_179 (rm_law hk1 (by decide)) rfl hl.1 rfl (Nat.le_of_ble_eq_true rfl) dL_law_896 ⟨hc1, hs1⟩ (fun u H locs w => ?_)
  refine lv_istore (lv' := [(5, .int kv), (0, .ref b), (1, .ref hx), (2, .ref hm), (3, .ref ho), (4, .int i4)]) hx9 hb dL_law_899 hl (by decide) rfl (fun ls hl => ?_)
  refine lv_aload_n hx9 hb dL_law_901 rfl (lv_at hl 3 rfl) ?_
  refine lv_aload_n hx9 hb dL_law_902 rfl (lv_at hl 1 rfl) ?_
  refine lv_iload hx9 hb dL_law_903 (lv_at hl 5 rfl) ?_
  refine lv_iconst (v := 1) hx9 hb dL_law_905 (by decide) ?_
  refine lv_iadd hx9 hb dL_law_906 ?_
  refine va_sld hx9 hb hX hbl hbA w.2.2 hi1 dL_law_907 ?_
  refine cm_iV C w (P2 u) (hK2 _) k_L_181 (rm_law hk2 (by decide)) hm2 rfl rfl rfl hl.1 rfl (Nat.le_of_ble_eq_true rfl) dL_law_908 ⟨hc2, hs2⟩ (fun _ H locs w => ?_)
  refine lv_istore (lv' := [(6, .int bv), (5, .int kv), (0, .ref b), (1, .ref hx), (2, .ref hm), (3, .ref ho), (4, .int i4)]) hx9 hb dL_law_911 hl (by decide) rfl (fun ls hl => ?_)
  refine lv_aload_n hx9 hb dL_law_913 rfl (lv_at hl 4 rfl) ?_
  refine cm_iV C w (P3 u) (hK3 _) k_L_140 (rm_law (by decide) (by decide)) hm3 rfl rfl rfl hl.1 rfl (Nat.le_of_ble_eq_true rfl) dL_law_914 ⟨hc2, hs2⟩ (fun _ H locs w => ?_)
  refine lv_iload hx9 hb dL_law_917 (lv_at hl 1 rfl) ?_
  refine lv_icmp_eq (tgt := 924) hx9 hb dL_law_919 (by decide) (fun _ => ?_) (fun n => absurd heq n)
  refine lv_iload hx9 hb dL_law_924 (lv_at hl 1 rfl) ?_
  refine lv_if_ne (tgt := 941) hx9 hb dL_law_926 (by decide) (fun n => ?_) (fun n => ?_)
  · refine lv_goto (tgt := 2724) hx9 hb dL_law_941 (by decide) ?_
    exact kk u _ _ _ w (lv_sub hl [2, 3, 4, 5, 6] rfl)
  obtain ⟨fo, ho1, ho2⟩ := hval n u
  refine lv_aload_n hx9 hb dL_law_929 rfl (lv_at hl 5 rfl) ?_
  refine lv_iconst (v := 0) hx9 hb dL_law_930 (by decide) ?_
  refine lal_mem C w ho1 dL_law_931 ?_
  refine lv_iload hx9 hb dL_law_932 (lv_at hl 0 rfl) ?_
  refine lv_i2l (v := bv.toInt64) hx9 hb dL_law_934 rfl ?_
  refine W.lcmp hx9 hb dL_law_935 ?_
  refine lv_if_eq (tgt := 941) hx9 hb dL_law_936 (by decide) (fun _ => ?_) (fun n => absurd (by rw [ho2]; exact lg_cmp_self _) n)
  refine lv_goto (tgt := 2724) hx9 hb dL_law_941 (by decide) ?_
  exact kk u _ _ _ w (lv_sub hl [2, 3, 4, 5, 6] rfl)

theorem q_889 : Cond.methodLink RL 182 yL_passageAxles ∈ TS := ts_t 889 (by decide +kernel) (by decide +kernel)
theorem q_890 : Cond.static yL_passageAxles ∈ TS := ts_t 890 (by decide +kernel) (by decide +kernel)
theorem q_891 : Cond.codeWith yL_passageAxles cL_passageAxles 4 (some .int) [(0, 9, 12, 32)] ∈ TS := ts_t 891 (by decide +kernel) (by decide +kernel)
theorem kk_L_182 : LkK RL 182 m_L_passageAxles [(0, 9, 12, 32)] 3 := ⟨q_889, q_890, q_0, q_891, by decide, by decide, by decide +kernel⟩
theorem q_1550 : Cond.code yX10_passageAxles cX10_passageAxles 2 (some .int) ∈ TS := ts_t 1550 (by decide +kernel) (by decide +kernel)
theorem q_1547 : Cond.methodLink RL 184 yX10_passageAxles ∈ TS := ts_t 1547 (by decide +kernel) (by decide +kernel)
theorem q_1548 : Cond.instanceMethod yX10_passageAxles ∈ TS := ts_t 1548 (by decide +kernel) (by decide +kernel)
theorem q_1549 : Cond.selects yX10_passageAxles.cls yX10_passageAxles yX10_passageAxles ∈ TS := ts_t 1549 (by decide +kernel) (by decide +kernel)
theorem k_L_184 : LkV RL 184 m_X10_passageAxles 1 := ⟨q_1547, q_1548, q_1549, ⟨q_11, q_1550, by decide, by decide, by decide +kernel⟩⟩
set_option maxHeartbeats 4000000 in
theorem lc_13 {p : Program} {l : Launch} {e : Env} {s : State} {m : MethodId} {args : Array Value} {below : List Frame} {meth : Method} {c : Code} {H : Heap} {locs : List Loc} {cells slots : Nat} {Q : State → Prop} {g : GT} {A : Nat → Prop} {ws : va_W} {ls : Array Slot} {b L : Nat} {xs : Nat → Int32} {i4 : Int32} {hx hm ho : Nat} {wc wd wd' we : va_W} {wc' wn1 wn2 : (Nat → Nat) → va_W} {k1 k2 mc1 ms1 : Nat} {kv bv tv : Int32} {fs1 fs2 fs3 : List Value} (X : Lx p s m args meth c g A b L xs i4) (w : Wd g A ws s.heap H locs) (hl : lv_has ls 7 [(0, .ref b), (1, .ref hx), (2, .ref hm), (3, .ref ho), (4, .int i4)]) (P1 : PM ws wc wc' wn1) (hK1 : ∀ sz, KI l m_L_passageAxles [(0, 9, 12, 32)] (rml k1 mc1 ms1) g wc wc' sz [.ref hx, .int (xs (i4 + 1).toNatClampNeg), .ref ho] kv) (P2 : ∀ u, PM (wn1 u) wd (fun _ => wd') (fun _ => wn2 u)) (hK2 : ∀ sz, CI l m_X10_passageAxles (rml k2 0 0) g wd (fun _ => wd') sz [.ref hm, .int (xs (i4 + 1).toNatClampNeg)] bv) (hm2 : (hm, .inr (10, fs2)) ∈ wd) (P3 : ∀ u, PM (wn2 u) we (fun _ => we) (fun _ => wn2 u)) (hK3 : ∀ sz, CI l m_X10_thrown (rml 0 0 0) g we (fun _ => we) sz [.ref hm] tv) (hm3 : (hm, .inr (10, fs3)) ∈ we) (heq : tv = kv) (hval : kv = 0 → ∀ u, ∃ fo : Nat → Int64, (ho, aJ g 1 fo) ∈ wn2 u ∧ fo 0 = bv.toInt64) (hk1 : k1 ≤ 100) (hk2 : k2 ≤ 100) (hc1 : cells + mc1 ≤ room_1.cells) (hs1 : slots + ms1 ≤ room_1.slots) (kk : ∀ (u : Nat → Nat) (H : Heap) (locs : List Loc) (ls : Array Slot), Wd g A (wn2 u) s.heap H locs → lv_has ls 7 [(0, .ref b), (1, .ref hx), (2, .ref hm), (3, .ref ho), (4, .int i4)] → W p l e room_1 s m args below meth c H locs (cells + mc1) (slots + ms1) Q (F0 m 2724 ls [])) : W p l e room_1 s m args below meth c H locs cells slots Q (F0 m 944 ls []) := by
  obtain ⟨C, hX, hbl, hbA, hi1, hi2, hi3, hi4, hi5⟩ := X
  have hx9 := C.1
  have hb : c.code = cL_law := C.2.1
  have hc2 : cells + mc1 + 0 ≤ room_1.cells := hc1
  have hs2 : slots + ms1 + 0 ≤ room_1.slots := hs1
  refine lv_aload_n hx9 hb dL_law_944 rfl (lv_at hl 1 rfl) ?_
  refine lv_aload_n hx9 hb dL_law_945 rfl (lv_at hl 0 rfl) ?_
  refine lv_iload hx9 hb dL_law_946 (lv_at hl 4 rfl) ?_
  refine lv_iconst (v := 1) hx9 hb dL_law_948 (by decide) ?_
  refine lv_iadd hx9 hb dL_law_949 ?_
  refine va_sld hx9 hb hX hbl hbA w.2.2 hi1 dL_law_950 ?_
  refine lv_aload_n hx9 hb dL_law_951 rfl (lv_at hl 3 rfl) ?_
  refine ck_iS C w P1 (hK1 _) kk_L_182 (rm_law hk1 (by decide)) rfl hl.1 rfl (Nat.le_of_ble_eq_true rfl) dL_law_952 ⟨hc1, hs1⟩ (fun u H locs w => ?_)
  refine lv_istore (lv' := [(5, .int kv), (0, .ref b), (1, .ref hx), (2, .ref hm), (3, .ref ho), (4, .int i4)]) hx9 hb dL_law_955 hl (by decide) rfl (fun ls hl => ?_)
  refine lv_aload_n hx9 hb dL_law_957 rfl (lv_at hl 3 rfl) ?_
  refine lv_aload_n hx9 hb dL_law_958 rfl (lv_at hl 1 rfl) ?_
  refine lv_iload hx9 hb dL_law_959 (lv_at hl 5 rfl) ?_
  refine lv_iconst (v := 1) hx9 hb dL_law_961 (by decide) ?_
  refine lv_iadd hx9 hb dL_law_962 ?_
  refine va_sld hx9 hb hX hbl hbA w.2.2 hi1 dL_law_963 ?_
  refine cm_iV C w (P2 u) (hK2 _) k_L_184 (rm_law hk2 (by decide)) hm2 rfl rfl rfl hl.1 rfl (Nat.le_of_ble_eq_true rfl) dL_law_964 ⟨hc2, hs2⟩ (fun _ H locs w => ?_)
  refine lv_istore (lv' := [(6, .int bv), (5, .int kv), (0, .ref b), (1, .ref hx), (2, .ref hm), (3, .ref ho), (4, .int i4)]) hx9 hb dL_law_967 hl (by decide) rfl (fun ls hl => ?_)
  refine lv_aload_n hx9 hb dL_law_969 rfl (lv_at hl 4 rfl) ?_
  refine cm_iV C w (P3 u) (hK3 _) k_L_140 (rm_law (by decide) (by decide)) hm3 rfl rfl rfl hl.1 rfl (Nat.le_of_ble_eq_true rfl) dL_law_970 ⟨hc2, hs2⟩ (fun _ H locs w => ?_)
  refine lv_iload hx9 hb dL_law_973 (lv_at hl 1 rfl) ?_
  refine lv_icmp_eq (tgt := 980) hx9 hb dL_law_975 (by decide) (fun _ => ?_) (fun n => absurd heq n)
  refine lv_iload hx9 hb dL_law_980 (lv_at hl 1 rfl) ?_
  refine lv_if_ne (tgt := 997) hx9 hb dL_law_982 (by decide) (fun n => ?_) (fun n => ?_)
  · refine lv_goto (tgt := 2724) hx9 hb dL_law_997 (by decide) ?_
    exact kk u _ _ _ w (lv_sub hl [2, 3, 4, 5, 6] rfl)
  obtain ⟨fo, ho1, ho2⟩ := hval n u
  refine lv_aload_n hx9 hb dL_law_985 rfl (lv_at hl 5 rfl) ?_
  refine lv_iconst (v := 0) hx9 hb dL_law_986 (by decide) ?_
  refine lal_mem C w ho1 dL_law_987 ?_
  refine lv_iload hx9 hb dL_law_988 (lv_at hl 0 rfl) ?_
  refine lv_i2l (v := bv.toInt64) hx9 hb dL_law_990 rfl ?_
  refine W.lcmp hx9 hb dL_law_991 ?_
  refine lv_if_eq (tgt := 997) hx9 hb dL_law_992 (by decide) (fun _ => ?_) (fun n => absurd (by rw [ho2]; exact lg_cmp_self _) n)
  refine lv_goto (tgt := 2724) hx9 hb dL_law_997 (by decide) ?_
  exact kk u _ _ _ w (lv_sub hl [2, 3, 4, 5, 6] rfl)

theorem q_897 : Cond.methodLink RL 185 yL_votes ∈ TS := ts_t 897 (by decide +kernel) (by decide +kernel)
theorem q_898 : Cond.static yL_votes ∈ TS := ts_t 898 (by decide +kernel) (by decide +kernel)
theorem q_899 : Cond.codeWith yL_votes cL_votes 5 (some .int) [(0, 10, 13, 32)] ∈ TS := ts_t 899 (by decide +kernel) (by decide +kernel)
theorem kk_L_185 : LkK RL 185 m_L_votes [(0, 10, 13, 32)] 4 := ⟨q_897, q_898, q_0, q_899, by decide, by decide, by decide +kernel⟩
theorem q_1554 : Cond.code yX10_votes cX10_votes 4 (some .int) ∈ TS := ts_t 1554 (by decide +kernel) (by decide +kernel)
theorem q_1551 : Cond.methodLink RL 188 yX10_votes ∈ TS := ts_t 1551 (by decide +kernel) (by decide +kernel)
theorem q_1552 : Cond.instanceMethod yX10_votes ∈ TS := ts_t 1552 (by decide +kernel) (by decide +kernel)
theorem q_1553 : Cond.selects yX10_votes.cls yX10_votes yX10_votes ∈ TS := ts_t 1553 (by decide +kernel) (by decide +kernel)
theorem k_L_188 : LkV RL 188 m_X10_votes 2 := ⟨q_1551, q_1552, q_1553, ⟨q_11, q_1554, by decide, by decide, by decide +kernel⟩⟩
set_option maxHeartbeats 4000000 in
theorem lc_14 {p : Program} {l : Launch} {e : Env} {s : State} {m : MethodId} {args : Array Value} {below : List Frame} {meth : Method} {c : Code} {H : Heap} {locs : List Loc} {cells slots : Nat} {Q : State → Prop} {g : GT} {A : Nat → Prop} {ws : va_W} {ls : Array Slot} {b L : Nat} {xs : Nat → Int32} {i4 : Int32} {hx hm ho : Nat} {wc wd wd' we : va_W} {wc' wn1 wn2 : (Nat → Nat) → va_W} {k1 k2 mc1 ms1 : Nat} {kv bv tv : Int32} {fs1 fs2 fs3 : List Value} (X : Lx p s m args meth c g A b L xs i4) (w : Wd g A ws s.heap H locs) (hl : lv_has ls 7 [(0, .ref b), (1, .ref hx), (2, .ref hm), (3, .ref ho), (4, .int i4)]) (P1 : PM ws wc wc' wn1) (hK1 : ∀ sz, KI l m_L_votes [(0, 10, 13, 32)] (rml k1 mc1 ms1) g wc wc' sz [.ref hx, .int (xs (i4 + 1).toNatClampNeg), .int (xs (i4 + 2).toNatClampNeg), .ref ho] kv) (P2 : ∀ u, PM (wn1 u) wd (fun _ => wd') (fun _ => wn2 u)) (hK2 : ∀ sz, CI l m_X10_votes (rml k2 0 0) g wd (fun _ => wd') sz [.ref hm, .int (xs (i4 + 1).toNatClampNeg), .int (xs (i4 + 2).toNatClampNeg)] bv) (hm2 : (hm, .inr (10, fs2)) ∈ wd) (P3 : ∀ u, PM (wn2 u) we (fun _ => we) (fun _ => wn2 u)) (hK3 : ∀ sz, CI l m_X10_thrown (rml 0 0 0) g we (fun _ => we) sz [.ref hm] tv) (hm3 : (hm, .inr (10, fs3)) ∈ we) (heq : tv = kv) (hval : kv = 0 → ∀ u, ∃ fo : Nat → Int64, (ho, aJ g 1 fo) ∈ wn2 u ∧ fo 0 = bv.toInt64) (hk1 : k1 ≤ 100) (hk2 : k2 ≤ 100) (hc1 : cells + mc1 ≤ room_1.cells) (hs1 : slots + ms1 ≤ room_1.slots) (kk : ∀ (u : Nat → Nat) (H : Heap) (locs : List Loc) (ls : Array Slot), Wd g A (wn2 u) s.heap H locs → lv_has ls 7 [(0, .ref b), (1, .ref hx), (2, .ref hm), (3, .ref ho), (4, .int i4)] → W p l e room_1 s m args below meth c H locs (cells + mc1) (slots + ms1) Q (F0 m 2724 ls [])) : W p l e room_1 s m args below meth c H locs cells slots Q (F0 m 1000 ls []) := by
  obtain ⟨C, hX, hbl, hbA, hi1, hi2, hi3, hi4, hi5⟩ := X
  have hx9 := C.1
  have hb : c.code = cL_law := C.2.1
  have hc2 : cells + mc1 + 0 ≤ room_1.cells := hc1
  have hs2 : slots + ms1 + 0 ≤ room_1.slots := hs1
  refine lv_aload_n hx9 hb dL_law_1000 rfl (lv_at hl 1 rfl) ?_
  refine lv_aload_n hx9 hb dL_law_1001 rfl (lv_at hl 0 rfl) ?_
  refine lv_iload hx9 hb dL_law_1002 (lv_at hl 4 rfl) ?_
  refine lv_iconst (v := 1) hx9 hb dL_law_1004 (by decide) ?_
  refine lv_iadd hx9 hb dL_law_1005 ?_
  refine va_sld hx9 hb hX hbl hbA w.2.2 hi1 dL_law_1006 ?_
  refine lv_aload_n hx9 hb dL_law_1007 rfl (lv_at hl 0 rfl) ?_
  refine lv_iload hx9 hb dL_law_1008 (lv_at hl 4 rfl) ?_
  refine lv_iconst (v := 2) hx9 hb dL_law_1010 (by decide) ?_
  refine lv_iadd hx9 hb dL_law_1011 ?_
  refine va_sld hx9 hb hX hbl hbA w.2.2 hi2 dL_law_1012 ?_
  refine lv_aload_n hx9 hb dL_law_1013 rfl (lv_at hl 3 rfl) ?_
  refine ck_iS C w P1 (hK1 _) kk_L_185 (rm_law hk1 (by decide)) rfl hl.1 rfl (Nat.le_of_ble_eq_true rfl) dL_law_1014 ⟨hc1, hs1⟩ (fun u H locs w => ?_)
  refine lv_istore (lv' := [(5, .int kv), (0, .ref b), (1, .ref hx), (2, .ref hm), (3, .ref ho), (4, .int i4)]) hx9 hb dL_law_1017 hl (by decide) rfl (fun ls hl => ?_)
  refine lv_aload_n hx9 hb dL_law_1019 rfl (lv_at hl 3 rfl) ?_
  refine lv_aload_n hx9 hb dL_law_1020 rfl (lv_at hl 1 rfl) ?_
  refine lv_iload hx9 hb dL_law_1021 (lv_at hl 5 rfl) ?_
  refine lv_iconst (v := 1) hx9 hb dL_law_1023 (by decide) ?_
  refine lv_iadd hx9 hb dL_law_1024 ?_
  refine va_sld hx9 hb hX hbl hbA w.2.2 hi1 dL_law_1025 ?_
  refine lv_aload_n hx9 hb dL_law_1026 rfl (lv_at hl 1 rfl) ?_
  refine lv_iload hx9 hb dL_law_1027 (lv_at hl 5 rfl) ?_
  refine lv_iconst (v := 2) hx9 hb dL_law_1029 (by decide) ?_
  refine lv_iadd hx9 hb dL_law_1030 ?_
  refine va_sld hx9 hb hX hbl hbA w.2.2 hi2 dL_law_1031 ?_
  refine cm_iV C w (P2 u) (hK2 _) k_L_188 (rm_law hk2 (by decide)) hm2 rfl rfl rfl hl.1 rfl (Nat.le_of_ble_eq_true rfl) dL_law_1032 ⟨hc2, hs2⟩ (fun _ H locs w => ?_)
  refine lv_istore (lv' := [(6, .int bv), (5, .int kv), (0, .ref b), (1, .ref hx), (2, .ref hm), (3, .ref ho), (4, .int i4)]) hx9 hb dL_law_1035 hl (by decide) rfl (fun ls hl => ?_)
  refine lv_aload_n hx9 hb dL_law_1037 rfl (lv_at hl 4 rfl) ?_
  refine cm_iV C w (P3 u) (hK3 _) k_L_140 (rm_law (by decide) (by decide)) hm3 rfl rfl rfl hl.1 rfl (Nat.le_of_ble_eq_true rfl) dL_law_1038 ⟨hc2, hs2⟩ (fun _ H locs w => ?_)
  refine lv_iload hx9 hb dL_law_1041 (lv_at hl 1 rfl) ?_
  refine lv_icmp_eq (tgt := 1048) hx9 hb dL_law_1043 (by decide) (fun _ => ?_) (fun n => absurd heq n)
  refine lv_iload hx9 hb dL_law_1048 (lv_at hl 1 rfl) ?_
  refine lv_if_ne (tgt := 1065) hx9 hb dL_law_1050 (by decide) (fun n => ?_) (fun n => ?_)
  · refine lv_goto (tgt := 2724) hx9 hb dL_law_1065 (by decide) ?_
    exact kk u _ _ _ w (lv_sub hl [2, 3, 4, 5, 6] rfl)
  obtain ⟨fo, ho1, ho2⟩ := hval n u
  refine lv_aload_n hx9 hb dL_law_1053 rfl (lv_at hl 5 rfl) ?_
  refine lv_iconst (v := 0) hx9 hb dL_law_1054 (by decide) ?_
  refine lal_mem C w ho1 dL_law_1055 ?_
  refine lv_iload hx9 hb dL_law_1056 (lv_at hl 0 rfl) ?_
  refine lv_i2l (v := bv.toInt64) hx9 hb dL_law_1058 rfl ?_
  refine W.lcmp hx9 hb dL_law_1059 ?_
  refine lv_if_eq (tgt := 1065) hx9 hb dL_law_1060 (by decide) (fun _ => ?_) (fun n => absurd (by rw [ho2]; exact lg_cmp_self _) n)
  refine lv_goto (tgt := 2724) hx9 hb dL_law_1065 (by decide) ?_
  exact kk u _ _ _ w (lv_sub hl [2, 3, 4, 5, 6] rfl)

theorem q_908 : Cond.methodLink RL 189 yL_exceptions ∈ TS := ts_t 908 (by decide +kernel) (by decide +kernel)
theorem q_909 : Cond.static yL_exceptions ∈ TS := ts_t 909 (by decide +kernel) (by decide +kernel)
theorem q_910 : Cond.codeWith yL_exceptions cL_exceptions 4 (some .int) [(0, 9, 12, 32)] ∈ TS := ts_t 910 (by decide +kernel) (by decide +kernel)
theorem kk_L_189 : LkK RL 189 m_L_exceptions [(0, 9, 12, 32)] 3 := ⟨q_908, q_909, q_0, q_910, by decide, by decide, by decide +kernel⟩
theorem q_1558 : Cond.code yX10_exceptions cX10_exceptions 2 (some .int) ∈ TS := ts_t 1558 (by decide +kernel) (by decide +kernel)
theorem q_1555 : Cond.methodLink RL 191 yX10_exceptions ∈ TS := ts_t 1555 (by decide +kernel) (by decide +kernel)
theorem q_1556 : Cond.instanceMethod yX10_exceptions ∈ TS := ts_t 1556 (by decide +kernel) (by decide +kernel)
theorem q_1557 : Cond.selects yX10_exceptions.cls yX10_exceptions yX10_exceptions ∈ TS := ts_t 1557 (by decide +kernel) (by decide +kernel)
theorem k_L_191 : LkV RL 191 m_X10_exceptions 1 := ⟨q_1555, q_1556, q_1557, ⟨q_11, q_1558, by decide, by decide, by decide +kernel⟩⟩
set_option maxHeartbeats 4000000 in
theorem lc_15 {p : Program} {l : Launch} {e : Env} {s : State} {m : MethodId} {args : Array Value} {below : List Frame} {meth : Method} {c : Code} {H : Heap} {locs : List Loc} {cells slots : Nat} {Q : State → Prop} {g : GT} {A : Nat → Prop} {ws : va_W} {ls : Array Slot} {b L : Nat} {xs : Nat → Int32} {i4 : Int32} {hx hm ho : Nat} {wc wd wd' we : va_W} {wc' wn1 wn2 : (Nat → Nat) → va_W} {k1 k2 mc1 ms1 : Nat} {kv bv tv : Int32} {fs1 fs2 fs3 : List Value} (X : Lx p s m args meth c g A b L xs i4) (w : Wd g A ws s.heap H locs) (hl : lv_has ls 7 [(0, .ref b), (1, .ref hx), (2, .ref hm), (3, .ref ho), (4, .int i4)]) (P1 : PM ws wc wc' wn1) (hK1 : ∀ sz, KI l m_L_exceptions [(0, 9, 12, 32)] (rml k1 mc1 ms1) g wc wc' sz [.ref hx, .int (xs (i4 + 1).toNatClampNeg), .ref ho] kv) (P2 : ∀ u, PM (wn1 u) wd (fun _ => wd') (fun _ => wn2 u)) (hK2 : ∀ sz, CI l m_X10_exceptions (rml k2 0 0) g wd (fun _ => wd') sz [.ref hm, .int (xs (i4 + 1).toNatClampNeg)] bv) (hm2 : (hm, .inr (10, fs2)) ∈ wd) (P3 : ∀ u, PM (wn2 u) we (fun _ => we) (fun _ => wn2 u)) (hK3 : ∀ sz, CI l m_X10_thrown (rml 0 0 0) g we (fun _ => we) sz [.ref hm] tv) (hm3 : (hm, .inr (10, fs3)) ∈ we) (heq : tv = kv) (hval : kv = 0 → ∀ u, ∃ fo : Nat → Int64, (ho, aJ g 1 fo) ∈ wn2 u ∧ fo 0 = bv.toInt64) (hk1 : k1 ≤ 100) (hk2 : k2 ≤ 100) (hc1 : cells + mc1 ≤ room_1.cells) (hs1 : slots + ms1 ≤ room_1.slots) (kk : ∀ (u : Nat → Nat) (H : Heap) (locs : List Loc) (ls : Array Slot), Wd g A (wn2 u) s.heap H locs → lv_has ls 7 [(0, .ref b), (1, .ref hx), (2, .ref hm), (3, .ref ho), (4, .int i4)] → W p l e room_1 s m args below meth c H locs (cells + mc1) (slots + ms1) Q (F0 m 2724 ls [])) : W p l e room_1 s m args below meth c H locs cells slots Q (F0 m 1068 ls []) := by
  obtain ⟨C, hX, hbl, hbA, hi1, hi2, hi3, hi4, hi5⟩ := X
  have hx9 := C.1
  have hb : c.code = cL_law := C.2.1
  have hc2 : cells + mc1 + 0 ≤ room_1.cells := hc1
  have hs2 : slots + ms1 + 0 ≤ room_1.slots := hs1
  refine lv_aload_n hx9 hb dL_law_1068 rfl (lv_at hl 1 rfl) ?_
  refine lv_aload_n hx9 hb dL_law_1069 rfl (lv_at hl 0 rfl) ?_
  refine lv_iload hx9 hb dL_law_1070 (lv_at hl 4 rfl) ?_
  refine lv_iconst (v := 1) hx9 hb dL_law_1072 (by decide) ?_
  refine lv_iadd hx9 hb dL_law_1073 ?_
  refine va_sld hx9 hb hX hbl hbA w.2.2 hi1 dL_law_1074 ?_
  refine lv_aload_n hx9 hb dL_law_1075 rfl (lv_at hl 3 rfl) ?_
  refine ck_iS C w P1 (hK1 _) kk_L_189 (rm_law hk1 (by decide)) rfl hl.1 rfl (Nat.le_of_ble_eq_true rfl) dL_law_1076 ⟨hc1, hs1⟩ (fun u H locs w => ?_)
  refine lv_istore (lv' := [(5, .int kv), (0, .ref b), (1, .ref hx), (2, .ref hm), (3, .ref ho), (4, .int i4)]) hx9 hb dL_law_1079 hl (by decide) rfl (fun ls hl => ?_)
  refine lv_aload_n hx9 hb dL_law_1081 rfl (lv_at hl 3 rfl) ?_
  refine lv_aload_n hx9 hb dL_law_1082 rfl (lv_at hl 1 rfl) ?_
  refine lv_iload hx9 hb dL_law_1083 (lv_at hl 5 rfl) ?_
  refine lv_iconst (v := 1) hx9 hb dL_law_1085 (by decide) ?_
  refine lv_iadd hx9 hb dL_law_1086 ?_
  refine va_sld hx9 hb hX hbl hbA w.2.2 hi1 dL_law_1087 ?_
  refine cm_iV C w (P2 u) (hK2 _) k_L_191 (rm_law hk2 (by decide)) hm2 rfl rfl rfl hl.1 rfl (Nat.le_of_ble_eq_true rfl) dL_law_1088 ⟨hc2, hs2⟩ (fun _ H locs w => ?_)
  refine lv_istore (lv' := [(6, .int bv), (5, .int kv), (0, .ref b), (1, .ref hx), (2, .ref hm), (3, .ref ho), (4, .int i4)]) hx9 hb dL_law_1091 hl (by decide) rfl (fun ls hl => ?_)
  refine lv_aload_n hx9 hb dL_law_1093 rfl (lv_at hl 4 rfl) ?_
  refine cm_iV C w (P3 u) (hK3 _) k_L_140 (rm_law (by decide) (by decide)) hm3 rfl rfl rfl hl.1 rfl (Nat.le_of_ble_eq_true rfl) dL_law_1094 ⟨hc2, hs2⟩ (fun _ H locs w => ?_)
  refine lv_iload hx9 hb dL_law_1097 (lv_at hl 1 rfl) ?_
  refine lv_icmp_eq (tgt := 1104) hx9 hb dL_law_1099 (by decide) (fun _ => ?_) (fun n => absurd heq n)
  refine lv_iload hx9 hb dL_law_1104 (lv_at hl 1 rfl) ?_
  refine lv_if_ne (tgt := 1121) hx9 hb dL_law_1106 (by decide) (fun n => ?_) (fun n => ?_)
  · refine lv_goto (tgt := 2724) hx9 hb dL_law_1121 (by decide) ?_
    exact kk u _ _ _ w (lv_sub hl [2, 3, 4, 5, 6] rfl)
  obtain ⟨fo, ho1, ho2⟩ := hval n u
  refine lv_aload_n hx9 hb dL_law_1109 rfl (lv_at hl 5 rfl) ?_
  refine lv_iconst (v := 0) hx9 hb dL_law_1110 (by decide) ?_
  refine lal_mem C w ho1 dL_law_1111 ?_
  refine lv_iload hx9 hb dL_law_1112 (lv_at hl 0 rfl) ?_
  refine lv_i2l (v := bv.toInt64) hx9 hb dL_law_1114 rfl ?_
  refine W.lcmp hx9 hb dL_law_1115 ?_
  refine lv_if_eq (tgt := 1121) hx9 hb dL_law_1116 (by decide) (fun _ => ?_) (fun n => absurd (by rw [ho2]; exact lg_cmp_self _) n)
  refine lv_goto (tgt := 2724) hx9 hb dL_law_1121 (by decide) ?_
  exact kk u _ _ _ w (lv_sub hl [2, 3, 4, 5, 6] rfl)

theorem q_916 : Cond.methodLink RL 192 yL_passageState ∈ TS := ts_t 916 (by decide +kernel) (by decide +kernel)
theorem q_917 : Cond.static yL_passageState ∈ TS := ts_t 917 (by decide +kernel) (by decide +kernel)
theorem q_918 : Cond.codeWith yL_passageState cL_passageState 4 (some .int) [(0, 9, 12, 32)] ∈ TS := ts_t 918 (by decide +kernel) (by decide +kernel)
theorem kk_L_192 : LkK RL 192 m_L_passageState [(0, 9, 12, 32)] 3 := ⟨q_916, q_917, q_0, q_918, by decide, by decide, by decide +kernel⟩
theorem q_1562 : Cond.code yX10_passageState cX10_passageState 2 (some .int) ∈ TS := ts_t 1562 (by decide +kernel) (by decide +kernel)
theorem q_1559 : Cond.methodLink RL 194 yX10_passageState ∈ TS := ts_t 1559 (by decide +kernel) (by decide +kernel)
theorem q_1560 : Cond.instanceMethod yX10_passageState ∈ TS := ts_t 1560 (by decide +kernel) (by decide +kernel)
theorem q_1561 : Cond.selects yX10_passageState.cls yX10_passageState yX10_passageState ∈ TS := ts_t 1561 (by decide +kernel) (by decide +kernel)
theorem k_L_194 : LkV RL 194 m_X10_passageState 1 := ⟨q_1559, q_1560, q_1561, ⟨q_11, q_1562, by decide, by decide, by decide +kernel⟩⟩
set_option maxHeartbeats 4000000 in
theorem lc_16 {p : Program} {l : Launch} {e : Env} {s : State} {m : MethodId} {args : Array Value} {below : List Frame} {meth : Method} {c : Code} {H : Heap} {locs : List Loc} {cells slots : Nat} {Q : State → Prop} {g : GT} {A : Nat → Prop} {ws : va_W} {ls : Array Slot} {b L : Nat} {xs : Nat → Int32} {i4 : Int32} {hx hm ho : Nat} {wc wd wd' we : va_W} {wc' wn1 wn2 : (Nat → Nat) → va_W} {k1 k2 mc1 ms1 : Nat} {kv bv tv : Int32} {fs1 fs2 fs3 : List Value} (X : Lx p s m args meth c g A b L xs i4) (w : Wd g A ws s.heap H locs) (hl : lv_has ls 7 [(0, .ref b), (1, .ref hx), (2, .ref hm), (3, .ref ho), (4, .int i4)]) (P1 : PM ws wc wc' wn1) (hK1 : ∀ sz, KI l m_L_passageState [(0, 9, 12, 32)] (rml k1 mc1 ms1) g wc wc' sz [.ref hx, .int (xs (i4 + 1).toNatClampNeg), .ref ho] kv) (P2 : ∀ u, PM (wn1 u) wd (fun _ => wd') (fun _ => wn2 u)) (hK2 : ∀ sz, CI l m_X10_passageState (rml k2 0 0) g wd (fun _ => wd') sz [.ref hm, .int (xs (i4 + 1).toNatClampNeg)] bv) (hm2 : (hm, .inr (10, fs2)) ∈ wd) (P3 : ∀ u, PM (wn2 u) we (fun _ => we) (fun _ => wn2 u)) (hK3 : ∀ sz, CI l m_X10_thrown (rml 0 0 0) g we (fun _ => we) sz [.ref hm] tv) (hm3 : (hm, .inr (10, fs3)) ∈ we) (heq : tv = kv) (hval : kv = 0 → ∀ u, ∃ fo : Nat → Int64, (ho, aJ g 1 fo) ∈ wn2 u ∧ fo 0 = bv.toInt64) (hk1 : k1 ≤ 100) (hk2 : k2 ≤ 100) (hc1 : cells + mc1 ≤ room_1.cells) (hs1 : slots + ms1 ≤ room_1.slots) (kk : ∀ (u : Nat → Nat) (H : Heap) (locs : List Loc) (ls : Array Slot), Wd g A (wn2 u) s.heap H locs → lv_has ls 7 [(0, .ref b), (1, .ref hx), (2, .ref hm), (3, .ref ho), (4, .int i4)] → W p l e room_1 s m args below meth c H locs (cells + mc1) (slots + ms1) Q (F0 m 2724 ls [])) : W p l e room_1 s m args below meth c H locs cells slots Q (F0 m 1124 ls []) := by
  obtain ⟨C, hX, hbl, hbA, hi1, hi2, hi3, hi4, hi5⟩ := X
  have hx9 := C.1
  have hb : c.code = cL_law := C.2.1
  have hc2 : cells + mc1 + 0 ≤ room_1.cells := hc1
  have hs2 : slots + ms1 + 0 ≤ room_1.slots := hs1
  refine lv_aload_n hx9 hb dL_law_1124 rfl (lv_at hl 1 rfl) ?_
  refine lv_aload_n hx9 hb dL_law_1125 rfl (lv_at hl 0 rfl) ?_
  refine lv_iload hx9 hb dL_law_1126 (lv_at hl 4 rfl) ?_
  refine lv_iconst (v := 1) hx9 hb dL_law_1128 (by decide) ?_
  refine lv_iadd hx9 hb dL_law_1129 ?_
  refine va_sld hx9 hb hX hbl hbA w.2.2 hi1 dL_law_1130 ?_
  refine lv_aload_n hx9 hb dL_law_1131 rfl (lv_at hl 3 rfl) ?_
  refine ck_iS C w P1 (hK1 _) kk_L_192 (rm_law hk1 (by decide)) rfl hl.1 rfl (Nat.le_of_ble_eq_true rfl) dL_law_1132 ⟨hc1, hs1⟩ (fun u H locs w => ?_)
  refine lv_istore (lv' := [(5, .int kv), (0, .ref b), (1, .ref hx), (2, .ref hm), (3, .ref ho), (4, .int i4)]) hx9 hb dL_law_1135 hl (by decide) rfl (fun ls hl => ?_)
  refine lv_aload_n hx9 hb dL_law_1137 rfl (lv_at hl 3 rfl) ?_
  refine lv_aload_n hx9 hb dL_law_1138 rfl (lv_at hl 1 rfl) ?_
  refine lv_iload hx9 hb dL_law_1139 (lv_at hl 5 rfl) ?_
  refine lv_iconst (v := 1) hx9 hb dL_law_1141 (by decide) ?_
  refine lv_iadd hx9 hb dL_law_1142 ?_
  refine va_sld hx9 hb hX hbl hbA w.2.2 hi1 dL_law_1143 ?_
  refine cm_iV C w (P2 u) (hK2 _) k_L_194 (rm_law hk2 (by decide)) hm2 rfl rfl rfl hl.1 rfl (Nat.le_of_ble_eq_true rfl) dL_law_1144 ⟨hc2, hs2⟩ (fun _ H locs w => ?_)
  refine lv_istore (lv' := [(6, .int bv), (5, .int kv), (0, .ref b), (1, .ref hx), (2, .ref hm), (3, .ref ho), (4, .int i4)]) hx9 hb dL_law_1147 hl (by decide) rfl (fun ls hl => ?_)
  refine lv_aload_n hx9 hb dL_law_1149 rfl (lv_at hl 4 rfl) ?_
  refine cm_iV C w (P3 u) (hK3 _) k_L_140 (rm_law (by decide) (by decide)) hm3 rfl rfl rfl hl.1 rfl (Nat.le_of_ble_eq_true rfl) dL_law_1150 ⟨hc2, hs2⟩ (fun _ H locs w => ?_)
  refine lv_iload hx9 hb dL_law_1153 (lv_at hl 1 rfl) ?_
  refine lv_icmp_eq (tgt := 1160) hx9 hb dL_law_1155 (by decide) (fun _ => ?_) (fun n => absurd heq n)
  refine lv_iload hx9 hb dL_law_1160 (lv_at hl 1 rfl) ?_
  refine lv_if_ne (tgt := 1177) hx9 hb dL_law_1162 (by decide) (fun n => ?_) (fun n => ?_)
  · refine lv_goto (tgt := 2724) hx9 hb dL_law_1177 (by decide) ?_
    exact kk u _ _ _ w (lv_sub hl [2, 3, 4, 5, 6] rfl)
  obtain ⟨fo, ho1, ho2⟩ := hval n u
  refine lv_aload_n hx9 hb dL_law_1165 rfl (lv_at hl 5 rfl) ?_
  refine lv_iconst (v := 0) hx9 hb dL_law_1166 (by decide) ?_
  refine lal_mem C w ho1 dL_law_1167 ?_
  refine lv_iload hx9 hb dL_law_1168 (lv_at hl 0 rfl) ?_
  refine lv_i2l (v := bv.toInt64) hx9 hb dL_law_1170 rfl ?_
  refine W.lcmp hx9 hb dL_law_1171 ?_
  refine lv_if_eq (tgt := 1177) hx9 hb dL_law_1172 (by decide) (fun _ => ?_) (fun n => absurd (by rw [ho2]; exact lg_cmp_self _) n)
  refine lv_goto (tgt := 2724) hx9 hb dL_law_1177 (by decide) ?_
  exact kk u _ _ _ w (lv_sub hl [2, 3, 4, 5, 6] rfl)

theorem q_923 : Cond.methodLink RL 195 yL_tripOf ∈ TS := ts_t 923 (by decide +kernel) (by decide +kernel)
theorem q_924 : Cond.static yL_tripOf ∈ TS := ts_t 924 (by decide +kernel) (by decide +kernel)
theorem q_925 : Cond.codeWith yL_tripOf cL_tripOf 4 (some .int) [(0, 9, 12, 32)] ∈ TS := ts_t 925 (by decide +kernel) (by decide +kernel)
theorem kk_L_195 : LkK RL 195 m_L_tripOf [(0, 9, 12, 32)] 3 := ⟨q_923, q_924, q_0, q_925, by decide, by decide, by decide +kernel⟩
theorem q_1566 : Cond.code yX10_tripOf cX10_tripOf 2 (some .int) ∈ TS := ts_t 1566 (by decide +kernel) (by decide +kernel)
theorem q_1563 : Cond.methodLink RL 197 yX10_tripOf ∈ TS := ts_t 1563 (by decide +kernel) (by decide +kernel)
theorem q_1564 : Cond.instanceMethod yX10_tripOf ∈ TS := ts_t 1564 (by decide +kernel) (by decide +kernel)
theorem q_1565 : Cond.selects yX10_tripOf.cls yX10_tripOf yX10_tripOf ∈ TS := ts_t 1565 (by decide +kernel) (by decide +kernel)
theorem k_L_197 : LkV RL 197 m_X10_tripOf 1 := ⟨q_1563, q_1564, q_1565, ⟨q_11, q_1566, by decide, by decide, by decide +kernel⟩⟩
set_option maxHeartbeats 4000000 in
theorem lc_17 {p : Program} {l : Launch} {e : Env} {s : State} {m : MethodId} {args : Array Value} {below : List Frame} {meth : Method} {c : Code} {H : Heap} {locs : List Loc} {cells slots : Nat} {Q : State → Prop} {g : GT} {A : Nat → Prop} {ws : va_W} {ls : Array Slot} {b L : Nat} {xs : Nat → Int32} {i4 : Int32} {hx hm ho : Nat} {wc wd wd' we : va_W} {wc' wn1 wn2 : (Nat → Nat) → va_W} {k1 k2 mc1 ms1 : Nat} {kv bv tv : Int32} {fs1 fs2 fs3 : List Value} (X : Lx p s m args meth c g A b L xs i4) (w : Wd g A ws s.heap H locs) (hl : lv_has ls 7 [(0, .ref b), (1, .ref hx), (2, .ref hm), (3, .ref ho), (4, .int i4)]) (P1 : PM ws wc wc' wn1) (hK1 : ∀ sz, KI l m_L_tripOf [(0, 9, 12, 32)] (rml k1 mc1 ms1) g wc wc' sz [.ref hx, .int (xs (i4 + 1).toNatClampNeg), .ref ho] kv) (P2 : ∀ u, PM (wn1 u) wd (fun _ => wd') (fun _ => wn2 u)) (hK2 : ∀ sz, CI l m_X10_tripOf (rml k2 0 0) g wd (fun _ => wd') sz [.ref hm, .int (xs (i4 + 1).toNatClampNeg)] bv) (hm2 : (hm, .inr (10, fs2)) ∈ wd) (P3 : ∀ u, PM (wn2 u) we (fun _ => we) (fun _ => wn2 u)) (hK3 : ∀ sz, CI l m_X10_thrown (rml 0 0 0) g we (fun _ => we) sz [.ref hm] tv) (hm3 : (hm, .inr (10, fs3)) ∈ we) (heq : tv = kv) (hval : kv = 0 → ∀ u, ∃ fo : Nat → Int64, (ho, aJ g 1 fo) ∈ wn2 u ∧ fo 0 = bv.toInt64) (hk1 : k1 ≤ 100) (hk2 : k2 ≤ 100) (hc1 : cells + mc1 ≤ room_1.cells) (hs1 : slots + ms1 ≤ room_1.slots) (kk : ∀ (u : Nat → Nat) (H : Heap) (locs : List Loc) (ls : Array Slot), Wd g A (wn2 u) s.heap H locs → lv_has ls 7 [(0, .ref b), (1, .ref hx), (2, .ref hm), (3, .ref ho), (4, .int i4)] → W p l e room_1 s m args below meth c H locs (cells + mc1) (slots + ms1) Q (F0 m 2724 ls [])) : W p l e room_1 s m args below meth c H locs cells slots Q (F0 m 1180 ls []) := by
  obtain ⟨C, hX, hbl, hbA, hi1, hi2, hi3, hi4, hi5⟩ := X
  have hx9 := C.1
  have hb : c.code = cL_law := C.2.1
  have hc2 : cells + mc1 + 0 ≤ room_1.cells := hc1
  have hs2 : slots + ms1 + 0 ≤ room_1.slots := hs1
  refine lv_aload_n hx9 hb dL_law_1180 rfl (lv_at hl 1 rfl) ?_
  refine lv_aload_n hx9 hb dL_law_1181 rfl (lv_at hl 0 rfl) ?_
  refine lv_iload hx9 hb dL_law_1182 (lv_at hl 4 rfl) ?_
  refine lv_iconst (v := 1) hx9 hb dL_law_1184 (by decide) ?_
  refine lv_iadd hx9 hb dL_law_1185 ?_
  refine va_sld hx9 hb hX hbl hbA w.2.2 hi1 dL_law_1186 ?_
  refine lv_aload_n hx9 hb dL_law_1187 rfl (lv_at hl 3 rfl) ?_
  refine ck_iS C w P1 (hK1 _) kk_L_195 (rm_law hk1 (by decide)) rfl hl.1 rfl (Nat.le_of_ble_eq_true rfl) dL_law_1188 ⟨hc1, hs1⟩ (fun u H locs w => ?_)
  refine lv_istore (lv' := [(5, .int kv), (0, .ref b), (1, .ref hx), (2, .ref hm), (3, .ref ho), (4, .int i4)]) hx9 hb dL_law_1191 hl (by decide) rfl (fun ls hl => ?_)
  refine lv_aload_n hx9 hb dL_law_1193 rfl (lv_at hl 3 rfl) ?_
  refine lv_aload_n hx9 hb dL_law_1194 rfl (lv_at hl 1 rfl) ?_
  refine lv_iload hx9 hb dL_law_1195 (lv_at hl 5 rfl) ?_
  refine lv_iconst (v := 1) hx9 hb dL_law_1197 (by decide) ?_
  refine lv_iadd hx9 hb dL_law_1198 ?_
  refine va_sld hx9 hb hX hbl hbA w.2.2 hi1 dL_law_1199 ?_
  refine cm_iV C w (P2 u) (hK2 _) k_L_197 (rm_law hk2 (by decide)) hm2 rfl rfl rfl hl.1 rfl (Nat.le_of_ble_eq_true rfl) dL_law_1200 ⟨hc2, hs2⟩ (fun _ H locs w => ?_)
  refine lv_istore (lv' := [(6, .int bv), (5, .int kv), (0, .ref b), (1, .ref hx), (2, .ref hm), (3, .ref ho), (4, .int i4)]) hx9 hb dL_law_1203 hl (by decide) rfl (fun ls hl => ?_)
  refine lv_aload_n hx9 hb dL_law_1205 rfl (lv_at hl 4 rfl) ?_
  refine cm_iV C w (P3 u) (hK3 _) k_L_140 (rm_law (by decide) (by decide)) hm3 rfl rfl rfl hl.1 rfl (Nat.le_of_ble_eq_true rfl) dL_law_1206 ⟨hc2, hs2⟩ (fun _ H locs w => ?_)
  refine lv_iload hx9 hb dL_law_1209 (lv_at hl 1 rfl) ?_
  refine lv_icmp_eq (tgt := 1216) hx9 hb dL_law_1211 (by decide) (fun _ => ?_) (fun n => absurd heq n)
  refine lv_iload hx9 hb dL_law_1216 (lv_at hl 1 rfl) ?_
  refine lv_if_ne (tgt := 1233) hx9 hb dL_law_1218 (by decide) (fun n => ?_) (fun n => ?_)
  · refine lv_goto (tgt := 2724) hx9 hb dL_law_1233 (by decide) ?_
    exact kk u _ _ _ w (lv_sub hl [2, 3, 4, 5, 6] rfl)
  obtain ⟨fo, ho1, ho2⟩ := hval n u
  refine lv_aload_n hx9 hb dL_law_1221 rfl (lv_at hl 5 rfl) ?_
  refine lv_iconst (v := 0) hx9 hb dL_law_1222 (by decide) ?_
  refine lal_mem C w ho1 dL_law_1223 ?_
  refine lv_iload hx9 hb dL_law_1224 (lv_at hl 0 rfl) ?_
  refine lv_i2l (v := bv.toInt64) hx9 hb dL_law_1226 rfl ?_
  refine W.lcmp hx9 hb dL_law_1227 ?_
  refine lv_if_eq (tgt := 1233) hx9 hb dL_law_1228 (by decide) (fun _ => ?_) (fun n => absurd (by rw [ho2]; exact lg_cmp_self _) n)
  refine lv_goto (tgt := 2724) hx9 hb dL_law_1233 (by decide) ?_
  exact kk u _ _ _ w (lv_sub hl [2, 3, 4, 5, 6] rfl)


theorem q_399 : Cond.code yX9_openPassages cX9_openPassages 1 (some .int) ∈ TS := ts_t 399 (by decide +kernel) (by decide +kernel)
theorem q_396 : Cond.methodLink RL 198 yX9_openPassages ∈ TS := ts_t 396 (by decide +kernel) (by decide +kernel)
theorem q_397 : Cond.instanceMethod yX9_openPassages ∈ TS := ts_t 397 (by decide +kernel) (by decide +kernel)
theorem q_398 : Cond.selects yX9_openPassages.cls yX9_openPassages yX9_openPassages ∈ TS := ts_t 398 (by decide +kernel) (by decide +kernel)
theorem k_L_198 : LkV RL 198 m_X9_openPassages 0 := ⟨q_396, q_397, q_398, ⟨q_1, q_399, by decide, by decide, by decide +kernel⟩⟩
theorem q_1570 : Cond.code yX10_openPassages cX10_openPassages 1 (some .int) ∈ TS := ts_t 1570 (by decide +kernel) (by decide +kernel)
theorem q_1567 : Cond.methodLink RL 201 yX10_openPassages ∈ TS := ts_t 1567 (by decide +kernel) (by decide +kernel)
theorem q_1568 : Cond.instanceMethod yX10_openPassages ∈ TS := ts_t 1568 (by decide +kernel) (by decide +kernel)
theorem q_1569 : Cond.selects yX10_openPassages.cls yX10_openPassages yX10_openPassages ∈ TS := ts_t 1569 (by decide +kernel) (by decide +kernel)
theorem k_L_201 : LkV RL 201 m_X10_openPassages 0 := ⟨q_1567, q_1568, q_1569, ⟨q_11, q_1570, by decide, by decide, by decide +kernel⟩⟩
set_option maxHeartbeats 4000000 in
theorem lc_18 {p : Program} {l : Launch} {e : Env} {s : State} {m : MethodId} {args : Array Value} {below : List Frame} {meth : Method} {c : Code} {H : Heap} {locs : List Loc} {cells slots : Nat} {Q : State → Prop} {g : GT} {A : Nat → Prop} {ws : va_W} {ls : Array Slot} {b L : Nat} {xs : Nat → Int32} {i4 : Int32} {hx hm ho : Nat} {wc wd wd' we : va_W} {wc' wn1 wn2 : (Nat → Nat) → va_W} {k1 k2 mc1 ms1 : Nat} {kv bv tv : Int32} {fs1 fs2 fs3 : List Value} (X : Lx p s m args meth c g A b L xs i4) (w : Wd g A ws s.heap H locs) (hl : lv_has ls 7 [(0, .ref b), (1, .ref hx), (2, .ref hm), (3, .ref ho), (4, .int i4)]) (P1 : PM ws wc wc' wn1) (hK1 : ∀ sz, CI l m_X9_openPassages (rml k1 mc1 ms1) g wc wc' sz [.ref hx] kv) (hm1 : (hx, .inr (9, fs1)) ∈ wc) (P2 : ∀ u, PM (wn1 u) wd (fun _ => wd') (fun _ => wn2 u)) (hK2 : ∀ sz, CI l m_X10_openPassages (rml k2 0 0) g wd (fun _ => wd') sz [.ref hm] bv) (hm2 : (hm, .inr (10, fs2)) ∈ wd) (heq : kv = bv) (hk1 : k1 ≤ 100) (hk2 : k2 ≤ 100) (hc1 : cells + mc1 ≤ room_1.cells) (hs1 : slots + ms1 ≤ room_1.slots) (kk : ∀ (u : Nat → Nat) (H : Heap) (locs : List Loc) (ls : Array Slot), Wd g A (wn2 u) s.heap H locs → lv_has ls 7 [(0, .ref b), (1, .ref hx), (2, .ref hm), (3, .ref ho), (4, .int i4)] → W p l e room_1 s m args below meth c H locs (cells + mc1) (slots + ms1) Q (F0 m 2724 ls [])) : W p l e room_1 s m args below meth c H locs cells slots Q (F0 m 1236 ls []) := by
  obtain ⟨C, hX, hbl, hbA, hi1, hi2, hi3, hi4, hi5⟩ := X
  have hx9 := C.1
  have hb : c.code = cL_law := C.2.1
  have hc2 : cells + mc1 + 0 ≤ room_1.cells := hc1
  have hs2 : slots + ms1 + 0 ≤ room_1.slots := hs1
  refine lv_aload_n hx9 hb dL_law_1236 rfl (lv_at hl 1 rfl) ?_
  refine cm_iV C w P1 (hK1 _) k_L_198 (rm_law hk1 (by decide)) hm1 rfl rfl rfl hl.1 rfl (Nat.le_of_ble_eq_true rfl) dL_law_1237 ⟨hc1, hs1⟩ (fun u H locs w => ?_)
  refine lv_aload_n hx9 hb dL_law_1240 rfl (lv_at hl 2 rfl) ?_
  refine cm_iV C w (P2 u) (hK2 _) k_L_201 (rm_law hk2 (by decide)) hm2 rfl rfl rfl hl.1 rfl (Nat.le_of_ble_eq_true rfl) dL_law_1241 ⟨hc2, hs2⟩ (fun _ H locs w => ?_)
  refine lv_icmp_eq (tgt := 2724) hx9 hb dL_law_1244 (by decide) (fun _ => ?_) (fun n => absurd heq n)
  exact kk u _ _ _ w (lv_sub hl [0, 1, 2, 3, 4] rfl)


theorem q_407 : Cond.code yX9_passagesToReview cX9_passagesToReview 1 (some .int) ∈ TS := ts_t 407 (by decide +kernel) (by decide +kernel)
theorem q_404 : Cond.methodLink RL 202 yX9_passagesToReview ∈ TS := ts_t 404 (by decide +kernel) (by decide +kernel)
theorem q_405 : Cond.instanceMethod yX9_passagesToReview ∈ TS := ts_t 405 (by decide +kernel) (by decide +kernel)
theorem q_406 : Cond.selects yX9_passagesToReview.cls yX9_passagesToReview yX9_passagesToReview ∈ TS := ts_t 406 (by decide +kernel) (by decide +kernel)
theorem k_L_202 : LkV RL 202 m_X9_passagesToReview 0 := ⟨q_404, q_405, q_406, ⟨q_1, q_407, by decide, by decide, by decide +kernel⟩⟩
theorem q_1578 : Cond.code yX10_passagesToReview cX10_passagesToReview 3 (some .int) ∈ TS := ts_t 1578 (by decide +kernel) (by decide +kernel)
theorem q_1575 : Cond.methodLink RL 205 yX10_passagesToReview ∈ TS := ts_t 1575 (by decide +kernel) (by decide +kernel)
theorem q_1576 : Cond.instanceMethod yX10_passagesToReview ∈ TS := ts_t 1576 (by decide +kernel) (by decide +kernel)
theorem q_1577 : Cond.selects yX10_passagesToReview.cls yX10_passagesToReview yX10_passagesToReview ∈ TS := ts_t 1577 (by decide +kernel) (by decide +kernel)
theorem k_L_205 : LkV RL 205 m_X10_passagesToReview 0 := ⟨q_1575, q_1576, q_1577, ⟨q_11, q_1578, by decide, by decide, by decide +kernel⟩⟩
set_option maxHeartbeats 4000000 in
theorem lc_19 {p : Program} {l : Launch} {e : Env} {s : State} {m : MethodId} {args : Array Value} {below : List Frame} {meth : Method} {c : Code} {H : Heap} {locs : List Loc} {cells slots : Nat} {Q : State → Prop} {g : GT} {A : Nat → Prop} {ws : va_W} {ls : Array Slot} {b L : Nat} {xs : Nat → Int32} {i4 : Int32} {hx hm ho : Nat} {wc wd wd' we : va_W} {wc' wn1 wn2 : (Nat → Nat) → va_W} {k1 k2 mc1 ms1 : Nat} {kv bv tv : Int32} {fs1 fs2 fs3 : List Value} (X : Lx p s m args meth c g A b L xs i4) (w : Wd g A ws s.heap H locs) (hl : lv_has ls 7 [(0, .ref b), (1, .ref hx), (2, .ref hm), (3, .ref ho), (4, .int i4)]) (P1 : PM ws wc wc' wn1) (hK1 : ∀ sz, CI l m_X9_passagesToReview (rml k1 mc1 ms1) g wc wc' sz [.ref hx] kv) (hm1 : (hx, .inr (9, fs1)) ∈ wc) (P2 : ∀ u, PM (wn1 u) wd (fun _ => wd') (fun _ => wn2 u)) (hK2 : ∀ sz, CI l m_X10_passagesToReview (rml k2 0 0) g wd (fun _ => wd') sz [.ref hm] bv) (hm2 : (hm, .inr (10, fs2)) ∈ wd) (heq : kv = bv) (hk1 : k1 ≤ 100) (hk2 : k2 ≤ 100) (hc1 : cells + mc1 ≤ room_1.cells) (hs1 : slots + ms1 ≤ room_1.slots) (kk : ∀ (u : Nat → Nat) (H : Heap) (locs : List Loc) (ls : Array Slot), Wd g A (wn2 u) s.heap H locs → lv_has ls 7 [(0, .ref b), (1, .ref hx), (2, .ref hm), (3, .ref ho), (4, .int i4)] → W p l e room_1 s m args below meth c H locs (cells + mc1) (slots + ms1) Q (F0 m 2724 ls [])) : W p l e room_1 s m args below meth c H locs cells slots Q (F0 m 1249 ls []) := by
  obtain ⟨C, hX, hbl, hbA, hi1, hi2, hi3, hi4, hi5⟩ := X
  have hx9 := C.1
  have hb : c.code = cL_law := C.2.1
  have hc2 : cells + mc1 + 0 ≤ room_1.cells := hc1
  have hs2 : slots + ms1 + 0 ≤ room_1.slots := hs1
  refine lv_aload_n hx9 hb dL_law_1249 rfl (lv_at hl 1 rfl) ?_
  refine cm_iV C w P1 (hK1 _) k_L_202 (rm_law hk1 (by decide)) hm1 rfl rfl rfl hl.1 rfl (Nat.le_of_ble_eq_true rfl) dL_law_1250 ⟨hc1, hs1⟩ (fun u H locs w => ?_)
  refine lv_aload_n hx9 hb dL_law_1253 rfl (lv_at hl 2 rfl) ?_
  refine cm_iV C w (P2 u) (hK2 _) k_L_205 (rm_law hk2 (by decide)) hm2 rfl rfl rfl hl.1 rfl (Nat.le_of_ble_eq_true rfl) dL_law_1254 ⟨hc2, hs2⟩ (fun _ H locs w => ?_)
  refine lv_icmp_eq (tgt := 2724) hx9 hb dL_law_1257 (by decide) (fun _ => ?_) (fun n => absurd heq n)
  exact kk u _ _ _ w (lv_sub hl [0, 1, 2, 3, 4] rfl)

theorem q_930 : Cond.methodLink RL 206 yL_previewTrips ∈ TS := ts_t 930 (by decide +kernel) (by decide +kernel)
theorem q_931 : Cond.static yL_previewTrips ∈ TS := ts_t 931 (by decide +kernel) (by decide +kernel)
theorem q_932 : Cond.codeWith yL_previewTrips cL_previewTrips 4 (some .int) [(0, 9, 12, 13)] ∈ TS := ts_t 932 (by decide +kernel) (by decide +kernel)
theorem kk_L_206 : LkK RL 206 m_L_previewTrips [(0, 9, 12, 13)] 3 := ⟨q_930, q_931, q_0, q_932, by decide, by decide, by decide +kernel⟩
theorem q_1582 : Cond.code yX10_previewTrips cX10_previewTrips 2 (some .int) ∈ TS := ts_t 1582 (by decide +kernel) (by decide +kernel)
theorem q_1579 : Cond.methodLink RL 208 yX10_previewTrips ∈ TS := ts_t 1579 (by decide +kernel) (by decide +kernel)
theorem q_1580 : Cond.instanceMethod yX10_previewTrips ∈ TS := ts_t 1580 (by decide +kernel) (by decide +kernel)
theorem q_1581 : Cond.selects yX10_previewTrips.cls yX10_previewTrips yX10_previewTrips ∈ TS := ts_t 1581 (by decide +kernel) (by decide +kernel)
theorem k_L_208 : LkV RL 208 m_X10_previewTrips 1 := ⟨q_1579, q_1580, q_1581, ⟨q_11, q_1582, by decide, by decide, by decide +kernel⟩⟩
set_option maxHeartbeats 4000000 in
theorem lc_20 {p : Program} {l : Launch} {e : Env} {s : State} {m : MethodId} {args : Array Value} {below : List Frame} {meth : Method} {c : Code} {H : Heap} {locs : List Loc} {cells slots : Nat} {Q : State → Prop} {g : GT} {A : Nat → Prop} {ws : va_W} {ls : Array Slot} {b L : Nat} {xs : Nat → Int32} {i4 : Int32} {hx hm ho : Nat} {wc wd wd' we : va_W} {wc' wn1 wn2 : (Nat → Nat) → va_W} {k1 k2 mc1 ms1 : Nat} {kv bv tv : Int32} {fs1 fs2 fs3 : List Value} (X : Lx p s m args meth c g A b L xs i4) (w : Wd g A ws s.heap H locs) (hl : lv_has ls 7 [(0, .ref b), (1, .ref hx), (2, .ref hm), (3, .ref ho), (4, .int i4)]) (P1 : PM ws wc wc' wn1) (hK1 : ∀ sz, KI l m_L_previewTrips [(0, 9, 12, 13)] (rml k1 mc1 ms1) g wc wc' sz [.ref hx, .int (xs (i4 + 1).toNatClampNeg), .ref ho] kv) (P2 : ∀ u, PM (wn1 u) wd (fun _ => wd') (fun _ => wn2 u)) (hK2 : ∀ sz, CI l m_X10_previewTrips (rml k2 0 0) g wd (fun _ => wd') sz [.ref hm, .int (xs (i4 + 1).toNatClampNeg)] bv) (hm2 : (hm, .inr (10, fs2)) ∈ wd) (P3 : ∀ u, PM (wn2 u) we (fun _ => we) (fun _ => wn2 u)) (hK3 : ∀ sz, CI l m_X10_thrown (rml 0 0 0) g we (fun _ => we) sz [.ref hm] tv) (hm3 : (hm, .inr (10, fs3)) ∈ we) (heq : tv = kv) (hval : kv = 0 → ∀ u, ∃ fo : Nat → Int64, (ho, aJ g 1 fo) ∈ wn2 u ∧ fo 0 = bv.toInt64) (hk1 : k1 ≤ 100) (hk2 : k2 ≤ 100) (hc1 : cells + mc1 ≤ room_1.cells) (hs1 : slots + ms1 ≤ room_1.slots) (kk : ∀ (u : Nat → Nat) (H : Heap) (locs : List Loc) (ls : Array Slot), Wd g A (wn2 u) s.heap H locs → lv_has ls 7 [(0, .ref b), (1, .ref hx), (2, .ref hm), (3, .ref ho), (4, .int i4)] → W p l e room_1 s m args below meth c H locs (cells + mc1) (slots + ms1) Q (F0 m 2724 ls [])) : W p l e room_1 s m args below meth c H locs cells slots Q (F0 m 1262 ls []) := by
  obtain ⟨C, hX, hbl, hbA, hi1, hi2, hi3, hi4, hi5⟩ := X
  have hx9 := C.1
  have hb : c.code = cL_law := C.2.1
  have hc2 : cells + mc1 + 0 ≤ room_1.cells := hc1
  have hs2 : slots + ms1 + 0 ≤ room_1.slots := hs1
  refine lv_aload_n hx9 hb dL_law_1262 rfl (lv_at hl 1 rfl) ?_
  refine lv_aload_n hx9 hb dL_law_1263 rfl (lv_at hl 0 rfl) ?_
  refine lv_iload hx9 hb dL_law_1264 (lv_at hl 4 rfl) ?_
  refine lv_iconst (v := 1) hx9 hb dL_law_1266 (by decide) ?_
  refine lv_iadd hx9 hb dL_law_1267 ?_
  refine va_sld hx9 hb hX hbl hbA w.2.2 hi1 dL_law_1268 ?_
  refine lv_aload_n hx9 hb dL_law_1269 rfl (lv_at hl 3 rfl) ?_
  refine ck_iS C w P1 (hK1 _) kk_L_206 (rm_law hk1 (by decide)) rfl hl.1 rfl (Nat.le_of_ble_eq_true rfl) dL_law_1270 ⟨hc1, hs1⟩ (fun u H locs w => ?_)
  refine lv_istore (lv' := [(5, .int kv), (0, .ref b), (1, .ref hx), (2, .ref hm), (3, .ref ho), (4, .int i4)]) hx9 hb dL_law_1273 hl (by decide) rfl (fun ls hl => ?_)
  refine lv_aload_n hx9 hb dL_law_1275 rfl (lv_at hl 3 rfl) ?_
  refine lv_aload_n hx9 hb dL_law_1276 rfl (lv_at hl 1 rfl) ?_
  refine lv_iload hx9 hb dL_law_1277 (lv_at hl 5 rfl) ?_
  refine lv_iconst (v := 1) hx9 hb dL_law_1279 (by decide) ?_
  refine lv_iadd hx9 hb dL_law_1280 ?_
  refine va_sld hx9 hb hX hbl hbA w.2.2 hi1 dL_law_1281 ?_
  refine cm_iV C w (P2 u) (hK2 _) k_L_208 (rm_law hk2 (by decide)) hm2 rfl rfl rfl hl.1 rfl (Nat.le_of_ble_eq_true rfl) dL_law_1282 ⟨hc2, hs2⟩ (fun _ H locs w => ?_)
  refine lv_istore (lv' := [(6, .int bv), (5, .int kv), (0, .ref b), (1, .ref hx), (2, .ref hm), (3, .ref ho), (4, .int i4)]) hx9 hb dL_law_1285 hl (by decide) rfl (fun ls hl => ?_)
  refine lv_aload_n hx9 hb dL_law_1287 rfl (lv_at hl 4 rfl) ?_
  refine cm_iV C w (P3 u) (hK3 _) k_L_140 (rm_law (by decide) (by decide)) hm3 rfl rfl rfl hl.1 rfl (Nat.le_of_ble_eq_true rfl) dL_law_1288 ⟨hc2, hs2⟩ (fun _ H locs w => ?_)
  refine lv_iload hx9 hb dL_law_1291 (lv_at hl 1 rfl) ?_
  refine lv_icmp_eq (tgt := 1298) hx9 hb dL_law_1293 (by decide) (fun _ => ?_) (fun n => absurd heq n)
  refine lv_iload hx9 hb dL_law_1298 (lv_at hl 1 rfl) ?_
  refine lv_if_ne (tgt := 1315) hx9 hb dL_law_1300 (by decide) (fun n => ?_) (fun n => ?_)
  · refine lv_goto (tgt := 2724) hx9 hb dL_law_1315 (by decide) ?_
    exact kk u _ _ _ w (lv_sub hl [2, 3, 4, 5, 6] rfl)
  obtain ⟨fo, ho1, ho2⟩ := hval n u
  refine lv_aload_n hx9 hb dL_law_1303 rfl (lv_at hl 5 rfl) ?_
  refine lv_iconst (v := 0) hx9 hb dL_law_1304 (by decide) ?_
  refine lal_mem C w ho1 dL_law_1305 ?_
  refine lv_iload hx9 hb dL_law_1306 (lv_at hl 0 rfl) ?_
  refine lv_i2l (v := bv.toInt64) hx9 hb dL_law_1308 rfl ?_
  refine W.lcmp hx9 hb dL_law_1309 ?_
  refine lv_if_eq (tgt := 1315) hx9 hb dL_law_1310 (by decide) (fun _ => ?_) (fun n => absurd (by rw [ho2]; exact lg_cmp_self _) n)
  refine lv_goto (tgt := 2724) hx9 hb dL_law_1315 (by decide) ?_
  exact kk u _ _ _ w (lv_sub hl [2, 3, 4, 5, 6] rfl)

theorem q_971 : Cond.methodLink RL 209 yL_previewTotal ∈ TS := ts_t 971 (by decide +kernel) (by decide +kernel)
theorem q_972 : Cond.static yL_previewTotal ∈ TS := ts_t 972 (by decide +kernel) (by decide +kernel)
theorem q_973 : Cond.codeWith yL_previewTotal cL_previewTotal 4 (some .int) [(0, 9, 12, 13)] ∈ TS := ts_t 973 (by decide +kernel) (by decide +kernel)
theorem kk_L_209 : LkK RL 209 m_L_previewTotal [(0, 9, 12, 13)] 3 := ⟨q_971, q_972, q_0, q_973, by decide, by decide, by decide +kernel⟩
theorem q_1615 : Cond.code yX10_previewTotal cX10_previewTotal 4 (some .int) ∈ TS := ts_t 1615 (by decide +kernel) (by decide +kernel)
theorem q_1612 : Cond.methodLink RL 211 yX10_previewTotal ∈ TS := ts_t 1612 (by decide +kernel) (by decide +kernel)
theorem q_1613 : Cond.instanceMethod yX10_previewTotal ∈ TS := ts_t 1613 (by decide +kernel) (by decide +kernel)
theorem q_1614 : Cond.selects yX10_previewTotal.cls yX10_previewTotal yX10_previewTotal ∈ TS := ts_t 1614 (by decide +kernel) (by decide +kernel)
theorem k_L_211 : LkV RL 211 m_X10_previewTotal 1 := ⟨q_1612, q_1613, q_1614, ⟨q_11, q_1615, by decide, by decide, by decide +kernel⟩⟩
set_option maxHeartbeats 4000000 in
theorem lc_21 {p : Program} {l : Launch} {e : Env} {s : State} {m : MethodId} {args : Array Value} {below : List Frame} {meth : Method} {c : Code} {H : Heap} {locs : List Loc} {cells slots : Nat} {Q : State → Prop} {g : GT} {A : Nat → Prop} {ws : va_W} {ls : Array Slot} {b L : Nat} {xs : Nat → Int32} {i4 : Int32} {hx hm ho : Nat} {wc wd wd' we : va_W} {wc' wn1 wn2 : (Nat → Nat) → va_W} {k1 k2 mc1 ms1 : Nat} {kv bv tv : Int32} {fs1 fs2 fs3 : List Value} (X : Lx p s m args meth c g A b L xs i4) (w : Wd g A ws s.heap H locs) (hl : lv_has ls 7 [(0, .ref b), (1, .ref hx), (2, .ref hm), (3, .ref ho), (4, .int i4)]) (P1 : PM ws wc wc' wn1) (hK1 : ∀ sz, KI l m_L_previewTotal [(0, 9, 12, 13)] (rml k1 mc1 ms1) g wc wc' sz [.ref hx, .int (xs (i4 + 1).toNatClampNeg), .ref ho] kv) (P2 : ∀ u, PM (wn1 u) wd (fun _ => wd') (fun _ => wn2 u)) (hK2 : ∀ sz, CI l m_X10_previewTotal (rml k2 0 0) g wd (fun _ => wd') sz [.ref hm, .int (xs (i4 + 1).toNatClampNeg)] bv) (hm2 : (hm, .inr (10, fs2)) ∈ wd) (P3 : ∀ u, PM (wn2 u) we (fun _ => we) (fun _ => wn2 u)) (hK3 : ∀ sz, CI l m_X10_thrown (rml 0 0 0) g we (fun _ => we) sz [.ref hm] tv) (hm3 : (hm, .inr (10, fs3)) ∈ we) (heq : tv = kv) (hval : kv = 0 → ∀ u, ∃ fo : Nat → Int64, (ho, aJ g 1 fo) ∈ wn2 u ∧ fo 0 = bv.toInt64) (hk1 : k1 ≤ 100) (hk2 : k2 ≤ 100) (hc1 : cells + mc1 ≤ room_1.cells) (hs1 : slots + ms1 ≤ room_1.slots) (kk : ∀ (u : Nat → Nat) (H : Heap) (locs : List Loc) (ls : Array Slot), Wd g A (wn2 u) s.heap H locs → lv_has ls 7 [(0, .ref b), (1, .ref hx), (2, .ref hm), (3, .ref ho), (4, .int i4)] → W p l e room_1 s m args below meth c H locs (cells + mc1) (slots + ms1) Q (F0 m 2724 ls [])) : W p l e room_1 s m args below meth c H locs cells slots Q (F0 m 1318 ls []) := by
  obtain ⟨C, hX, hbl, hbA, hi1, hi2, hi3, hi4, hi5⟩ := X
  have hx9 := C.1
  have hb : c.code = cL_law := C.2.1
  have hc2 : cells + mc1 + 0 ≤ room_1.cells := hc1
  have hs2 : slots + ms1 + 0 ≤ room_1.slots := hs1
  refine lv_aload_n hx9 hb dL_law_1318 rfl (lv_at hl 1 rfl) ?_
  refine lv_aload_n hx9 hb dL_law_1319 rfl (lv_at hl 0 rfl) ?_
  refine lv_iload hx9 hb dL_law_1320 (lv_at hl 4 rfl) ?_
  refine lv_iconst (v := 1) hx9 hb dL_law_1322 (by decide) ?_
  refine lv_iadd hx9 hb dL_law_1323 ?_
  refine va_sld hx9 hb hX hbl hbA w.2.2 hi1 dL_law_1324 ?_
  refine lv_aload_n hx9 hb dL_law_1325 rfl (lv_at hl 3 rfl) ?_
  refine ck_iS C w P1 (hK1 _) kk_L_209 (rm_law hk1 (by decide)) rfl hl.1 rfl (Nat.le_of_ble_eq_true rfl) dL_law_1326 ⟨hc1, hs1⟩ (fun u H locs w => ?_)
  refine lv_istore (lv' := [(5, .int kv), (0, .ref b), (1, .ref hx), (2, .ref hm), (3, .ref ho), (4, .int i4)]) hx9 hb dL_law_1329 hl (by decide) rfl (fun ls hl => ?_)
  refine lv_aload_n hx9 hb dL_law_1331 rfl (lv_at hl 3 rfl) ?_
  refine lv_aload_n hx9 hb dL_law_1332 rfl (lv_at hl 1 rfl) ?_
  refine lv_iload hx9 hb dL_law_1333 (lv_at hl 5 rfl) ?_
  refine lv_iconst (v := 1) hx9 hb dL_law_1335 (by decide) ?_
  refine lv_iadd hx9 hb dL_law_1336 ?_
  refine va_sld hx9 hb hX hbl hbA w.2.2 hi1 dL_law_1337 ?_
  refine cm_iV C w (P2 u) (hK2 _) k_L_211 (rm_law hk2 (by decide)) hm2 rfl rfl rfl hl.1 rfl (Nat.le_of_ble_eq_true rfl) dL_law_1338 ⟨hc2, hs2⟩ (fun _ H locs w => ?_)
  refine lv_istore (lv' := [(6, .int bv), (5, .int kv), (0, .ref b), (1, .ref hx), (2, .ref hm), (3, .ref ho), (4, .int i4)]) hx9 hb dL_law_1341 hl (by decide) rfl (fun ls hl => ?_)
  refine lv_aload_n hx9 hb dL_law_1343 rfl (lv_at hl 4 rfl) ?_
  refine cm_iV C w (P3 u) (hK3 _) k_L_140 (rm_law (by decide) (by decide)) hm3 rfl rfl rfl hl.1 rfl (Nat.le_of_ble_eq_true rfl) dL_law_1344 ⟨hc2, hs2⟩ (fun _ H locs w => ?_)
  refine lv_iload hx9 hb dL_law_1347 (lv_at hl 1 rfl) ?_
  refine lv_icmp_eq (tgt := 1354) hx9 hb dL_law_1349 (by decide) (fun _ => ?_) (fun n => absurd heq n)
  refine lv_iload hx9 hb dL_law_1354 (lv_at hl 1 rfl) ?_
  refine lv_if_ne (tgt := 1371) hx9 hb dL_law_1356 (by decide) (fun n => ?_) (fun n => ?_)
  · refine lv_goto (tgt := 2724) hx9 hb dL_law_1371 (by decide) ?_
    exact kk u _ _ _ w (lv_sub hl [2, 3, 4, 5, 6] rfl)
  obtain ⟨fo, ho1, ho2⟩ := hval n u
  refine lv_aload_n hx9 hb dL_law_1359 rfl (lv_at hl 5 rfl) ?_
  refine lv_iconst (v := 0) hx9 hb dL_law_1360 (by decide) ?_
  refine lal_mem C w ho1 dL_law_1361 ?_
  refine lv_iload hx9 hb dL_law_1362 (lv_at hl 0 rfl) ?_
  refine lv_i2l (v := bv.toInt64) hx9 hb dL_law_1364 rfl ?_
  refine W.lcmp hx9 hb dL_law_1365 ?_
  refine lv_if_eq (tgt := 1371) hx9 hb dL_law_1366 (by decide) (fun _ => ?_) (fun n => absurd (by rw [ho2]; exact lg_cmp_self _) n)
  refine lv_goto (tgt := 2724) hx9 hb dL_law_1371 (by decide) ?_
  exact kk u _ _ _ w (lv_sub hl [2, 3, 4, 5, 6] rfl)


theorem q_452 : Cond.code yX9_tripCount cX9_tripCount 1 (some .int) ∈ TS := ts_t 452 (by decide +kernel) (by decide +kernel)
theorem q_449 : Cond.methodLink RL 212 yX9_tripCount ∈ TS := ts_t 449 (by decide +kernel) (by decide +kernel)
theorem q_450 : Cond.instanceMethod yX9_tripCount ∈ TS := ts_t 450 (by decide +kernel) (by decide +kernel)
theorem q_451 : Cond.selects yX9_tripCount.cls yX9_tripCount yX9_tripCount ∈ TS := ts_t 451 (by decide +kernel) (by decide +kernel)
theorem k_L_212 : LkV RL 212 m_X9_tripCount 0 := ⟨q_449, q_450, q_451, ⟨q_1, q_452, by decide, by decide, by decide +kernel⟩⟩
theorem q_1619 : Cond.code yX10_tripCount cX10_tripCount 1 (some .int) ∈ TS := ts_t 1619 (by decide +kernel) (by decide +kernel)
theorem q_1616 : Cond.methodLink RL 215 yX10_tripCount ∈ TS := ts_t 1616 (by decide +kernel) (by decide +kernel)
theorem q_1617 : Cond.instanceMethod yX10_tripCount ∈ TS := ts_t 1617 (by decide +kernel) (by decide +kernel)
theorem q_1618 : Cond.selects yX10_tripCount.cls yX10_tripCount yX10_tripCount ∈ TS := ts_t 1618 (by decide +kernel) (by decide +kernel)
theorem k_L_215 : LkV RL 215 m_X10_tripCount 0 := ⟨q_1616, q_1617, q_1618, ⟨q_11, q_1619, by decide, by decide, by decide +kernel⟩⟩
set_option maxHeartbeats 4000000 in
theorem lc_22 {p : Program} {l : Launch} {e : Env} {s : State} {m : MethodId} {args : Array Value} {below : List Frame} {meth : Method} {c : Code} {H : Heap} {locs : List Loc} {cells slots : Nat} {Q : State → Prop} {g : GT} {A : Nat → Prop} {ws : va_W} {ls : Array Slot} {b L : Nat} {xs : Nat → Int32} {i4 : Int32} {hx hm ho : Nat} {wc wd wd' we : va_W} {wc' wn1 wn2 : (Nat → Nat) → va_W} {k1 k2 mc1 ms1 : Nat} {kv bv tv : Int32} {fs1 fs2 fs3 : List Value} (X : Lx p s m args meth c g A b L xs i4) (w : Wd g A ws s.heap H locs) (hl : lv_has ls 7 [(0, .ref b), (1, .ref hx), (2, .ref hm), (3, .ref ho), (4, .int i4)]) (P1 : PM ws wc wc' wn1) (hK1 : ∀ sz, CI l m_X9_tripCount (rml k1 mc1 ms1) g wc wc' sz [.ref hx] kv) (hm1 : (hx, .inr (9, fs1)) ∈ wc) (P2 : ∀ u, PM (wn1 u) wd (fun _ => wd') (fun _ => wn2 u)) (hK2 : ∀ sz, CI l m_X10_tripCount (rml k2 0 0) g wd (fun _ => wd') sz [.ref hm] bv) (hm2 : (hm, .inr (10, fs2)) ∈ wd) (heq : kv = bv) (hk1 : k1 ≤ 100) (hk2 : k2 ≤ 100) (hc1 : cells + mc1 ≤ room_1.cells) (hs1 : slots + ms1 ≤ room_1.slots) (kk : ∀ (u : Nat → Nat) (H : Heap) (locs : List Loc) (ls : Array Slot), Wd g A (wn2 u) s.heap H locs → lv_has ls 7 [(0, .ref b), (1, .ref hx), (2, .ref hm), (3, .ref ho), (4, .int i4)] → W p l e room_1 s m args below meth c H locs (cells + mc1) (slots + ms1) Q (F0 m 2724 ls [])) : W p l e room_1 s m args below meth c H locs cells slots Q (F0 m 1374 ls []) := by
  obtain ⟨C, hX, hbl, hbA, hi1, hi2, hi3, hi4, hi5⟩ := X
  have hx9 := C.1
  have hb : c.code = cL_law := C.2.1
  have hc2 : cells + mc1 + 0 ≤ room_1.cells := hc1
  have hs2 : slots + ms1 + 0 ≤ room_1.slots := hs1
  refine lv_aload_n hx9 hb dL_law_1374 rfl (lv_at hl 1 rfl) ?_
  refine cm_iV C w P1 (hK1 _) k_L_212 (rm_law hk1 (by decide)) hm1 rfl rfl rfl hl.1 rfl (Nat.le_of_ble_eq_true rfl) dL_law_1375 ⟨hc1, hs1⟩ (fun u H locs w => ?_)
  refine lv_aload_n hx9 hb dL_law_1378 rfl (lv_at hl 2 rfl) ?_
  refine cm_iV C w (P2 u) (hK2 _) k_L_215 (rm_law hk2 (by decide)) hm2 rfl rfl rfl hl.1 rfl (Nat.le_of_ble_eq_true rfl) dL_law_1379 ⟨hc2, hs2⟩ (fun _ H locs w => ?_)
  refine lv_icmp_eq (tgt := 2724) hx9 hb dL_law_1382 (by decide) (fun _ => ?_) (fun n => absurd heq n)
  exact kk u _ _ _ w (lv_sub hl [0, 1, 2, 3, 4] rfl)

theorem q_983 : Cond.methodLink RL 216 yL_tripAmount ∈ TS := ts_t 983 (by decide +kernel) (by decide +kernel)
theorem q_984 : Cond.static yL_tripAmount ∈ TS := ts_t 984 (by decide +kernel) (by decide +kernel)
theorem q_985 : Cond.codeWith yL_tripAmount cL_tripAmount 4 (some .int) [(0, 9, 12, 32)] ∈ TS := ts_t 985 (by decide +kernel) (by decide +kernel)
theorem kk_L_216 : LkK RL 216 m_L_tripAmount [(0, 9, 12, 32)] 3 := ⟨q_983, q_984, q_0, q_985, by decide, by decide, by decide +kernel⟩
theorem q_1623 : Cond.code yX10_tripAmount cX10_tripAmount 2 (some .int) ∈ TS := ts_t 1623 (by decide +kernel) (by decide +kernel)
theorem q_1620 : Cond.methodLink RL 218 yX10_tripAmount ∈ TS := ts_t 1620 (by decide +kernel) (by decide +kernel)
theorem q_1621 : Cond.instanceMethod yX10_tripAmount ∈ TS := ts_t 1621 (by decide +kernel) (by decide +kernel)
theorem q_1622 : Cond.selects yX10_tripAmount.cls yX10_tripAmount yX10_tripAmount ∈ TS := ts_t 1622 (by decide +kernel) (by decide +kernel)
theorem k_L_218 : LkV RL 218 m_X10_tripAmount 1 := ⟨q_1620, q_1621, q_1622, ⟨q_11, q_1623, by decide, by decide, by decide +kernel⟩⟩
set_option maxHeartbeats 4000000 in
theorem lc_23 {p : Program} {l : Launch} {e : Env} {s : State} {m : MethodId} {args : Array Value} {below : List Frame} {meth : Method} {c : Code} {H : Heap} {locs : List Loc} {cells slots : Nat} {Q : State → Prop} {g : GT} {A : Nat → Prop} {ws : va_W} {ls : Array Slot} {b L : Nat} {xs : Nat → Int32} {i4 : Int32} {hx hm ho : Nat} {wc wd wd' we : va_W} {wc' wn1 wn2 : (Nat → Nat) → va_W} {k1 k2 mc1 ms1 : Nat} {kv bv tv : Int32} {fs1 fs2 fs3 : List Value} (X : Lx p s m args meth c g A b L xs i4) (w : Wd g A ws s.heap H locs) (hl : lv_has ls 7 [(0, .ref b), (1, .ref hx), (2, .ref hm), (3, .ref ho), (4, .int i4)]) (P1 : PM ws wc wc' wn1) (hK1 : ∀ sz, KI l m_L_tripAmount [(0, 9, 12, 32)] (rml k1 mc1 ms1) g wc wc' sz [.ref hx, .int (xs (i4 + 1).toNatClampNeg), .ref ho] kv) (P2 : ∀ u, PM (wn1 u) wd (fun _ => wd') (fun _ => wn2 u)) (hK2 : ∀ sz, CI l m_X10_tripAmount (rml k2 0 0) g wd (fun _ => wd') sz [.ref hm, .int (xs (i4 + 1).toNatClampNeg)] bv) (hm2 : (hm, .inr (10, fs2)) ∈ wd) (P3 : ∀ u, PM (wn2 u) we (fun _ => we) (fun _ => wn2 u)) (hK3 : ∀ sz, CI l m_X10_thrown (rml 0 0 0) g we (fun _ => we) sz [.ref hm] tv) (hm3 : (hm, .inr (10, fs3)) ∈ we) (heq : tv = kv) (hval : kv = 0 → ∀ u, ∃ fo : Nat → Int64, (ho, aJ g 1 fo) ∈ wn2 u ∧ fo 0 = bv.toInt64) (hk1 : k1 ≤ 100) (hk2 : k2 ≤ 100) (hc1 : cells + mc1 ≤ room_1.cells) (hs1 : slots + ms1 ≤ room_1.slots) (kk : ∀ (u : Nat → Nat) (H : Heap) (locs : List Loc) (ls : Array Slot), Wd g A (wn2 u) s.heap H locs → lv_has ls 7 [(0, .ref b), (1, .ref hx), (2, .ref hm), (3, .ref ho), (4, .int i4)] → W p l e room_1 s m args below meth c H locs (cells + mc1) (slots + ms1) Q (F0 m 2724 ls [])) : W p l e room_1 s m args below meth c H locs cells slots Q (F0 m 1387 ls []) := by
  obtain ⟨C, hX, hbl, hbA, hi1, hi2, hi3, hi4, hi5⟩ := X
  have hx9 := C.1
  have hb : c.code = cL_law := C.2.1
  have hc2 : cells + mc1 + 0 ≤ room_1.cells := hc1
  have hs2 : slots + ms1 + 0 ≤ room_1.slots := hs1
  refine lv_aload_n hx9 hb dL_law_1387 rfl (lv_at hl 1 rfl) ?_
  refine lv_aload_n hx9 hb dL_law_1388 rfl (lv_at hl 0 rfl) ?_
  refine lv_iload hx9 hb dL_law_1389 (lv_at hl 4 rfl) ?_
  refine lv_iconst (v := 1) hx9 hb dL_law_1391 (by decide) ?_
  refine lv_iadd hx9 hb dL_law_1392 ?_
  refine va_sld hx9 hb hX hbl hbA w.2.2 hi1 dL_law_1393 ?_
  refine lv_aload_n hx9 hb dL_law_1394 rfl (lv_at hl 3 rfl) ?_
  refine ck_iS C w P1 (hK1 _) kk_L_216 (rm_law hk1 (by decide)) rfl hl.1 rfl (Nat.le_of_ble_eq_true rfl) dL_law_1395 ⟨hc1, hs1⟩ (fun u H locs w => ?_)
  refine lv_istore (lv' := [(5, .int kv), (0, .ref b), (1, .ref hx), (2, .ref hm), (3, .ref ho), (4, .int i4)]) hx9 hb dL_law_1398 hl (by decide) rfl (fun ls hl => ?_)
  refine lv_aload_n hx9 hb dL_law_1400 rfl (lv_at hl 3 rfl) ?_
  refine lv_aload_n hx9 hb dL_law_1401 rfl (lv_at hl 1 rfl) ?_
  refine lv_iload hx9 hb dL_law_1402 (lv_at hl 5 rfl) ?_
  refine lv_iconst (v := 1) hx9 hb dL_law_1404 (by decide) ?_
  refine lv_iadd hx9 hb dL_law_1405 ?_
  refine va_sld hx9 hb hX hbl hbA w.2.2 hi1 dL_law_1406 ?_
  refine cm_iV C w (P2 u) (hK2 _) k_L_218 (rm_law hk2 (by decide)) hm2 rfl rfl rfl hl.1 rfl (Nat.le_of_ble_eq_true rfl) dL_law_1407 ⟨hc2, hs2⟩ (fun _ H locs w => ?_)
  refine lv_istore (lv' := [(6, .int bv), (5, .int kv), (0, .ref b), (1, .ref hx), (2, .ref hm), (3, .ref ho), (4, .int i4)]) hx9 hb dL_law_1410 hl (by decide) rfl (fun ls hl => ?_)
  refine lv_aload_n hx9 hb dL_law_1412 rfl (lv_at hl 4 rfl) ?_
  refine cm_iV C w (P3 u) (hK3 _) k_L_140 (rm_law (by decide) (by decide)) hm3 rfl rfl rfl hl.1 rfl (Nat.le_of_ble_eq_true rfl) dL_law_1413 ⟨hc2, hs2⟩ (fun _ H locs w => ?_)
  refine lv_iload hx9 hb dL_law_1416 (lv_at hl 1 rfl) ?_
  refine lv_icmp_eq (tgt := 1423) hx9 hb dL_law_1418 (by decide) (fun _ => ?_) (fun n => absurd heq n)
  refine lv_iload hx9 hb dL_law_1423 (lv_at hl 1 rfl) ?_
  refine lv_if_ne (tgt := 1440) hx9 hb dL_law_1425 (by decide) (fun n => ?_) (fun n => ?_)
  · refine lv_goto (tgt := 2724) hx9 hb dL_law_1440 (by decide) ?_
    exact kk u _ _ _ w (lv_sub hl [2, 3, 4, 5, 6] rfl)
  obtain ⟨fo, ho1, ho2⟩ := hval n u
  refine lv_aload_n hx9 hb dL_law_1428 rfl (lv_at hl 5 rfl) ?_
  refine lv_iconst (v := 0) hx9 hb dL_law_1429 (by decide) ?_
  refine lal_mem C w ho1 dL_law_1430 ?_
  refine lv_iload hx9 hb dL_law_1431 (lv_at hl 0 rfl) ?_
  refine lv_i2l (v := bv.toInt64) hx9 hb dL_law_1433 rfl ?_
  refine W.lcmp hx9 hb dL_law_1434 ?_
  refine lv_if_eq (tgt := 1440) hx9 hb dL_law_1435 (by decide) (fun _ => ?_) (fun n => absurd (by rw [ho2]; exact lg_cmp_self _) n)
  refine lv_goto (tgt := 2724) hx9 hb dL_law_1440 (by decide) ?_
  exact kk u _ _ _ w (lv_sub hl [2, 3, 4, 5, 6] rfl)

theorem q_995 : Cond.methodLink RL 219 yL_tripClass ∈ TS := ts_t 995 (by decide +kernel) (by decide +kernel)
theorem q_996 : Cond.static yL_tripClass ∈ TS := ts_t 996 (by decide +kernel) (by decide +kernel)
theorem q_997 : Cond.codeWith yL_tripClass cL_tripClass 4 (some .int) [(0, 9, 12, 32)] ∈ TS := ts_t 997 (by decide +kernel) (by decide +kernel)
theorem kk_L_219 : LkK RL 219 m_L_tripClass [(0, 9, 12, 32)] 3 := ⟨q_995, q_996, q_0, q_997, by decide, by decide, by decide +kernel⟩
theorem q_1639 : Cond.code yX10_tripClass cX10_tripClass 2 (some .int) ∈ TS := ts_t 1639 (by decide +kernel) (by decide +kernel)
theorem q_1636 : Cond.methodLink RL 221 yX10_tripClass ∈ TS := ts_t 1636 (by decide +kernel) (by decide +kernel)
theorem q_1637 : Cond.instanceMethod yX10_tripClass ∈ TS := ts_t 1637 (by decide +kernel) (by decide +kernel)
theorem q_1638 : Cond.selects yX10_tripClass.cls yX10_tripClass yX10_tripClass ∈ TS := ts_t 1638 (by decide +kernel) (by decide +kernel)
theorem k_L_221 : LkV RL 221 m_X10_tripClass 1 := ⟨q_1636, q_1637, q_1638, ⟨q_11, q_1639, by decide, by decide, by decide +kernel⟩⟩
set_option maxHeartbeats 4000000 in
theorem lc_24 {p : Program} {l : Launch} {e : Env} {s : State} {m : MethodId} {args : Array Value} {below : List Frame} {meth : Method} {c : Code} {H : Heap} {locs : List Loc} {cells slots : Nat} {Q : State → Prop} {g : GT} {A : Nat → Prop} {ws : va_W} {ls : Array Slot} {b L : Nat} {xs : Nat → Int32} {i4 : Int32} {hx hm ho : Nat} {wc wd wd' we : va_W} {wc' wn1 wn2 : (Nat → Nat) → va_W} {k1 k2 mc1 ms1 : Nat} {kv bv tv : Int32} {fs1 fs2 fs3 : List Value} (X : Lx p s m args meth c g A b L xs i4) (w : Wd g A ws s.heap H locs) (hl : lv_has ls 7 [(0, .ref b), (1, .ref hx), (2, .ref hm), (3, .ref ho), (4, .int i4)]) (P1 : PM ws wc wc' wn1) (hK1 : ∀ sz, KI l m_L_tripClass [(0, 9, 12, 32)] (rml k1 mc1 ms1) g wc wc' sz [.ref hx, .int (xs (i4 + 1).toNatClampNeg), .ref ho] kv) (P2 : ∀ u, PM (wn1 u) wd (fun _ => wd') (fun _ => wn2 u)) (hK2 : ∀ sz, CI l m_X10_tripClass (rml k2 0 0) g wd (fun _ => wd') sz [.ref hm, .int (xs (i4 + 1).toNatClampNeg)] bv) (hm2 : (hm, .inr (10, fs2)) ∈ wd) (P3 : ∀ u, PM (wn2 u) we (fun _ => we) (fun _ => wn2 u)) (hK3 : ∀ sz, CI l m_X10_thrown (rml 0 0 0) g we (fun _ => we) sz [.ref hm] tv) (hm3 : (hm, .inr (10, fs3)) ∈ we) (heq : tv = kv) (hval : kv = 0 → ∀ u, ∃ fo : Nat → Int64, (ho, aJ g 1 fo) ∈ wn2 u ∧ fo 0 = bv.toInt64) (hk1 : k1 ≤ 100) (hk2 : k2 ≤ 100) (hc1 : cells + mc1 ≤ room_1.cells) (hs1 : slots + ms1 ≤ room_1.slots) (kk : ∀ (u : Nat → Nat) (H : Heap) (locs : List Loc) (ls : Array Slot), Wd g A (wn2 u) s.heap H locs → lv_has ls 7 [(0, .ref b), (1, .ref hx), (2, .ref hm), (3, .ref ho), (4, .int i4)] → W p l e room_1 s m args below meth c H locs (cells + mc1) (slots + ms1) Q (F0 m 2724 ls [])) : W p l e room_1 s m args below meth c H locs cells slots Q (F0 m 1443 ls []) := by
  obtain ⟨C, hX, hbl, hbA, hi1, hi2, hi3, hi4, hi5⟩ := X
  have hx9 := C.1
  have hb : c.code = cL_law := C.2.1
  have hc2 : cells + mc1 + 0 ≤ room_1.cells := hc1
  have hs2 : slots + ms1 + 0 ≤ room_1.slots := hs1
  refine lv_aload_n hx9 hb dL_law_1443 rfl (lv_at hl 1 rfl) ?_
  refine lv_aload_n hx9 hb dL_law_1444 rfl (lv_at hl 0 rfl) ?_
  refine lv_iload hx9 hb dL_law_1445 (lv_at hl 4 rfl) ?_
  refine lv_iconst (v := 1) hx9 hb dL_law_1447 (by decide) ?_
  refine lv_iadd hx9 hb dL_law_1448 ?_
  refine va_sld hx9 hb hX hbl hbA w.2.2 hi1 dL_law_1449 ?_
  refine lv_aload_n hx9 hb dL_law_1450 rfl (lv_at hl 3 rfl) ?_
  refine ck_iS C w P1 (hK1 _) kk_L_219 (rm_law hk1 (by decide)) rfl hl.1 rfl (Nat.le_of_ble_eq_true rfl) dL_law_1451 ⟨hc1, hs1⟩ (fun u H locs w => ?_)
  refine lv_istore (lv' := [(5, .int kv), (0, .ref b), (1, .ref hx), (2, .ref hm), (3, .ref ho), (4, .int i4)]) hx9 hb dL_law_1454 hl (by decide) rfl (fun ls hl => ?_)
  refine lv_aload_n hx9 hb dL_law_1456 rfl (lv_at hl 3 rfl) ?_
  refine lv_aload_n hx9 hb dL_law_1457 rfl (lv_at hl 1 rfl) ?_
  refine lv_iload hx9 hb dL_law_1458 (lv_at hl 5 rfl) ?_
  refine lv_iconst (v := 1) hx9 hb dL_law_1460 (by decide) ?_
  refine lv_iadd hx9 hb dL_law_1461 ?_
  refine va_sld hx9 hb hX hbl hbA w.2.2 hi1 dL_law_1462 ?_
  refine cm_iV C w (P2 u) (hK2 _) k_L_221 (rm_law hk2 (by decide)) hm2 rfl rfl rfl hl.1 rfl (Nat.le_of_ble_eq_true rfl) dL_law_1463 ⟨hc2, hs2⟩ (fun _ H locs w => ?_)
  refine lv_istore (lv' := [(6, .int bv), (5, .int kv), (0, .ref b), (1, .ref hx), (2, .ref hm), (3, .ref ho), (4, .int i4)]) hx9 hb dL_law_1466 hl (by decide) rfl (fun ls hl => ?_)
  refine lv_aload_n hx9 hb dL_law_1468 rfl (lv_at hl 4 rfl) ?_
  refine cm_iV C w (P3 u) (hK3 _) k_L_140 (rm_law (by decide) (by decide)) hm3 rfl rfl rfl hl.1 rfl (Nat.le_of_ble_eq_true rfl) dL_law_1469 ⟨hc2, hs2⟩ (fun _ H locs w => ?_)
  refine lv_iload hx9 hb dL_law_1472 (lv_at hl 1 rfl) ?_
  refine lv_icmp_eq (tgt := 1479) hx9 hb dL_law_1474 (by decide) (fun _ => ?_) (fun n => absurd heq n)
  refine lv_iload hx9 hb dL_law_1479 (lv_at hl 1 rfl) ?_
  refine lv_if_ne (tgt := 1496) hx9 hb dL_law_1481 (by decide) (fun n => ?_) (fun n => ?_)
  · refine lv_goto (tgt := 2724) hx9 hb dL_law_1496 (by decide) ?_
    exact kk u _ _ _ w (lv_sub hl [2, 3, 4, 5, 6] rfl)
  obtain ⟨fo, ho1, ho2⟩ := hval n u
  refine lv_aload_n hx9 hb dL_law_1484 rfl (lv_at hl 5 rfl) ?_
  refine lv_iconst (v := 0) hx9 hb dL_law_1485 (by decide) ?_
  refine lal_mem C w ho1 dL_law_1486 ?_
  refine lv_iload hx9 hb dL_law_1487 (lv_at hl 0 rfl) ?_
  refine lv_i2l (v := bv.toInt64) hx9 hb dL_law_1489 rfl ?_
  refine W.lcmp hx9 hb dL_law_1490 ?_
  refine lv_if_eq (tgt := 1496) hx9 hb dL_law_1491 (by decide) (fun _ => ?_) (fun n => absurd (by rw [ho2]; exact lg_cmp_self _) n)
  refine lv_goto (tgt := 2724) hx9 hb dL_law_1496 (by decide) ?_
  exact kk u _ _ _ w (lv_sub hl [2, 3, 4, 5, 6] rfl)

theorem q_1002 : Cond.methodLink RL 222 yL_tripPassages ∈ TS := ts_t 1002 (by decide +kernel) (by decide +kernel)
theorem q_1003 : Cond.static yL_tripPassages ∈ TS := ts_t 1003 (by decide +kernel) (by decide +kernel)
theorem q_1004 : Cond.codeWith yL_tripPassages cL_tripPassages 4 (some .int) [(0, 9, 12, 32)] ∈ TS := ts_t 1004 (by decide +kernel) (by decide +kernel)
theorem kk_L_222 : LkK RL 222 m_L_tripPassages [(0, 9, 12, 32)] 3 := ⟨q_1002, q_1003, q_0, q_1004, by decide, by decide, by decide +kernel⟩
theorem q_1643 : Cond.code yX10_tripPassages cX10_tripPassages 2 (some .int) ∈ TS := ts_t 1643 (by decide +kernel) (by decide +kernel)
theorem q_1640 : Cond.methodLink RL 224 yX10_tripPassages ∈ TS := ts_t 1640 (by decide +kernel) (by decide +kernel)
theorem q_1641 : Cond.instanceMethod yX10_tripPassages ∈ TS := ts_t 1641 (by decide +kernel) (by decide +kernel)
theorem q_1642 : Cond.selects yX10_tripPassages.cls yX10_tripPassages yX10_tripPassages ∈ TS := ts_t 1642 (by decide +kernel) (by decide +kernel)
theorem k_L_224 : LkV RL 224 m_X10_tripPassages 1 := ⟨q_1640, q_1641, q_1642, ⟨q_11, q_1643, by decide, by decide, by decide +kernel⟩⟩
set_option maxHeartbeats 4000000 in
theorem lc_25 {p : Program} {l : Launch} {e : Env} {s : State} {m : MethodId} {args : Array Value} {below : List Frame} {meth : Method} {c : Code} {H : Heap} {locs : List Loc} {cells slots : Nat} {Q : State → Prop} {g : GT} {A : Nat → Prop} {ws : va_W} {ls : Array Slot} {b L : Nat} {xs : Nat → Int32} {i4 : Int32} {hx hm ho : Nat} {wc wd wd' we : va_W} {wc' wn1 wn2 : (Nat → Nat) → va_W} {k1 k2 mc1 ms1 : Nat} {kv bv tv : Int32} {fs1 fs2 fs3 : List Value} (X : Lx p s m args meth c g A b L xs i4) (w : Wd g A ws s.heap H locs) (hl : lv_has ls 7 [(0, .ref b), (1, .ref hx), (2, .ref hm), (3, .ref ho), (4, .int i4)]) (P1 : PM ws wc wc' wn1) (hK1 : ∀ sz, KI l m_L_tripPassages [(0, 9, 12, 32)] (rml k1 mc1 ms1) g wc wc' sz [.ref hx, .int (xs (i4 + 1).toNatClampNeg), .ref ho] kv) (P2 : ∀ u, PM (wn1 u) wd (fun _ => wd') (fun _ => wn2 u)) (hK2 : ∀ sz, CI l m_X10_tripPassages (rml k2 0 0) g wd (fun _ => wd') sz [.ref hm, .int (xs (i4 + 1).toNatClampNeg)] bv) (hm2 : (hm, .inr (10, fs2)) ∈ wd) (P3 : ∀ u, PM (wn2 u) we (fun _ => we) (fun _ => wn2 u)) (hK3 : ∀ sz, CI l m_X10_thrown (rml 0 0 0) g we (fun _ => we) sz [.ref hm] tv) (hm3 : (hm, .inr (10, fs3)) ∈ we) (heq : tv = kv) (hval : kv = 0 → ∀ u, ∃ fo : Nat → Int64, (ho, aJ g 1 fo) ∈ wn2 u ∧ fo 0 = bv.toInt64) (hk1 : k1 ≤ 100) (hk2 : k2 ≤ 100) (hc1 : cells + mc1 ≤ room_1.cells) (hs1 : slots + ms1 ≤ room_1.slots) (kk : ∀ (u : Nat → Nat) (H : Heap) (locs : List Loc) (ls : Array Slot), Wd g A (wn2 u) s.heap H locs → lv_has ls 7 [(0, .ref b), (1, .ref hx), (2, .ref hm), (3, .ref ho), (4, .int i4)] → W p l e room_1 s m args below meth c H locs (cells + mc1) (slots + ms1) Q (F0 m 2724 ls [])) : W p l e room_1 s m args below meth c H locs cells slots Q (F0 m 1499 ls []) := by
  obtain ⟨C, hX, hbl, hbA, hi1, hi2, hi3, hi4, hi5⟩ := X
  have hx9 := C.1
  have hb : c.code = cL_law := C.2.1
  have hc2 : cells + mc1 + 0 ≤ room_1.cells := hc1
  have hs2 : slots + ms1 + 0 ≤ room_1.slots := hs1
  refine lv_aload_n hx9 hb dL_law_1499 rfl (lv_at hl 1 rfl) ?_
  refine lv_aload_n hx9 hb dL_law_1500 rfl (lv_at hl 0 rfl) ?_
  refine lv_iload hx9 hb dL_law_1501 (lv_at hl 4 rfl) ?_
  refine lv_iconst (v := 1) hx9 hb dL_law_1503 (by decide) ?_
  refine lv_iadd hx9 hb dL_law_1504 ?_
  refine va_sld hx9 hb hX hbl hbA w.2.2 hi1 dL_law_1505 ?_
  refine lv_aload_n hx9 hb dL_law_1506 rfl (lv_at hl 3 rfl) ?_
  refine ck_iS C w P1 (hK1 _) kk_L_222 (rm_law hk1 (by decide)) rfl hl.1 rfl (Nat.le_of_ble_eq_true rfl) dL_law_1507 ⟨hc1, hs1⟩ (fun u H locs w => ?_)
  refine lv_istore (lv' := [(5, .int kv), (0, .ref b), (1, .ref hx), (2, .ref hm), (3, .ref ho), (4, .int i4)]) hx9 hb dL_law_1510 hl (by decide) rfl (fun ls hl => ?_)
  refine lv_aload_n hx9 hb dL_law_1512 rfl (lv_at hl 3 rfl) ?_
  refine lv_aload_n hx9 hb dL_law_1513 rfl (lv_at hl 1 rfl) ?_
  refine lv_iload hx9 hb dL_law_1514 (lv_at hl 5 rfl) ?_
  refine lv_iconst (v := 1) hx9 hb dL_law_1516 (by decide) ?_
  refine lv_iadd hx9 hb dL_law_1517 ?_
  refine va_sld hx9 hb hX hbl hbA w.2.2 hi1 dL_law_1518 ?_
  refine cm_iV C w (P2 u) (hK2 _) k_L_224 (rm_law hk2 (by decide)) hm2 rfl rfl rfl hl.1 rfl (Nat.le_of_ble_eq_true rfl) dL_law_1519 ⟨hc2, hs2⟩ (fun _ H locs w => ?_)
  refine lv_istore (lv' := [(6, .int bv), (5, .int kv), (0, .ref b), (1, .ref hx), (2, .ref hm), (3, .ref ho), (4, .int i4)]) hx9 hb dL_law_1522 hl (by decide) rfl (fun ls hl => ?_)
  refine lv_aload_n hx9 hb dL_law_1524 rfl (lv_at hl 4 rfl) ?_
  refine cm_iV C w (P3 u) (hK3 _) k_L_140 (rm_law (by decide) (by decide)) hm3 rfl rfl rfl hl.1 rfl (Nat.le_of_ble_eq_true rfl) dL_law_1525 ⟨hc2, hs2⟩ (fun _ H locs w => ?_)
  refine lv_iload hx9 hb dL_law_1528 (lv_at hl 1 rfl) ?_
  refine lv_icmp_eq (tgt := 1535) hx9 hb dL_law_1530 (by decide) (fun _ => ?_) (fun n => absurd heq n)
  refine lv_iload hx9 hb dL_law_1535 (lv_at hl 1 rfl) ?_
  refine lv_if_ne (tgt := 1552) hx9 hb dL_law_1537 (by decide) (fun n => ?_) (fun n => ?_)
  · refine lv_goto (tgt := 2724) hx9 hb dL_law_1552 (by decide) ?_
    exact kk u _ _ _ w (lv_sub hl [2, 3, 4, 5, 6] rfl)
  obtain ⟨fo, ho1, ho2⟩ := hval n u
  refine lv_aload_n hx9 hb dL_law_1540 rfl (lv_at hl 5 rfl) ?_
  refine lv_iconst (v := 0) hx9 hb dL_law_1541 (by decide) ?_
  refine lal_mem C w ho1 dL_law_1542 ?_
  refine lv_iload hx9 hb dL_law_1543 (lv_at hl 0 rfl) ?_
  refine lv_i2l (v := bv.toInt64) hx9 hb dL_law_1545 rfl ?_
  refine W.lcmp hx9 hb dL_law_1546 ?_
  refine lv_if_eq (tgt := 1552) hx9 hb dL_law_1547 (by decide) (fun _ => ?_) (fun n => absurd (by rw [ho2]; exact lg_cmp_self _) n)
  refine lv_goto (tgt := 2724) hx9 hb dL_law_1552 (by decide) ?_
  exact kk u _ _ _ w (lv_sub hl [2, 3, 4, 5, 6] rfl)

theorem q_1009 : Cond.methodLink RL 225 yL_tripState ∈ TS := ts_t 1009 (by decide +kernel) (by decide +kernel)
theorem q_1010 : Cond.static yL_tripState ∈ TS := ts_t 1010 (by decide +kernel) (by decide +kernel)
theorem q_1011 : Cond.codeWith yL_tripState cL_tripState 4 (some .int) [(0, 9, 12, 32)] ∈ TS := ts_t 1011 (by decide +kernel) (by decide +kernel)
theorem kk_L_225 : LkK RL 225 m_L_tripState [(0, 9, 12, 32)] 3 := ⟨q_1009, q_1010, q_0, q_1011, by decide, by decide, by decide +kernel⟩
theorem q_1647 : Cond.code yX10_tripState cX10_tripState 2 (some .int) ∈ TS := ts_t 1647 (by decide +kernel) (by decide +kernel)
theorem q_1644 : Cond.methodLink RL 227 yX10_tripState ∈ TS := ts_t 1644 (by decide +kernel) (by decide +kernel)
theorem q_1645 : Cond.instanceMethod yX10_tripState ∈ TS := ts_t 1645 (by decide +kernel) (by decide +kernel)
theorem q_1646 : Cond.selects yX10_tripState.cls yX10_tripState yX10_tripState ∈ TS := ts_t 1646 (by decide +kernel) (by decide +kernel)
theorem k_L_227 : LkV RL 227 m_X10_tripState 1 := ⟨q_1644, q_1645, q_1646, ⟨q_11, q_1647, by decide, by decide, by decide +kernel⟩⟩
set_option maxHeartbeats 4000000 in
theorem lc_26 {p : Program} {l : Launch} {e : Env} {s : State} {m : MethodId} {args : Array Value} {below : List Frame} {meth : Method} {c : Code} {H : Heap} {locs : List Loc} {cells slots : Nat} {Q : State → Prop} {g : GT} {A : Nat → Prop} {ws : va_W} {ls : Array Slot} {b L : Nat} {xs : Nat → Int32} {i4 : Int32} {hx hm ho : Nat} {wc wd wd' we : va_W} {wc' wn1 wn2 : (Nat → Nat) → va_W} {k1 k2 mc1 ms1 : Nat} {kv bv tv : Int32} {fs1 fs2 fs3 : List Value} (X : Lx p s m args meth c g A b L xs i4) (w : Wd g A ws s.heap H locs) (hl : lv_has ls 7 [(0, .ref b), (1, .ref hx), (2, .ref hm), (3, .ref ho), (4, .int i4)]) (P1 : PM ws wc wc' wn1) (hK1 : ∀ sz, KI l m_L_tripState [(0, 9, 12, 32)] (rml k1 mc1 ms1) g wc wc' sz [.ref hx, .int (xs (i4 + 1).toNatClampNeg), .ref ho] kv) (P2 : ∀ u, PM (wn1 u) wd (fun _ => wd') (fun _ => wn2 u)) (hK2 : ∀ sz, CI l m_X10_tripState (rml k2 0 0) g wd (fun _ => wd') sz [.ref hm, .int (xs (i4 + 1).toNatClampNeg)] bv) (hm2 : (hm, .inr (10, fs2)) ∈ wd) (P3 : ∀ u, PM (wn2 u) we (fun _ => we) (fun _ => wn2 u)) (hK3 : ∀ sz, CI l m_X10_thrown (rml 0 0 0) g we (fun _ => we) sz [.ref hm] tv) (hm3 : (hm, .inr (10, fs3)) ∈ we) (heq : tv = kv) (hval : kv = 0 → ∀ u, ∃ fo : Nat → Int64, (ho, aJ g 1 fo) ∈ wn2 u ∧ fo 0 = bv.toInt64) (hk1 : k1 ≤ 100) (hk2 : k2 ≤ 100) (hc1 : cells + mc1 ≤ room_1.cells) (hs1 : slots + ms1 ≤ room_1.slots) (kk : ∀ (u : Nat → Nat) (H : Heap) (locs : List Loc) (ls : Array Slot), Wd g A (wn2 u) s.heap H locs → lv_has ls 7 [(0, .ref b), (1, .ref hx), (2, .ref hm), (3, .ref ho), (4, .int i4)] → W p l e room_1 s m args below meth c H locs (cells + mc1) (slots + ms1) Q (F0 m 2724 ls [])) : W p l e room_1 s m args below meth c H locs cells slots Q (F0 m 1555 ls []) := by
  obtain ⟨C, hX, hbl, hbA, hi1, hi2, hi3, hi4, hi5⟩ := X
  have hx9 := C.1
  have hb : c.code = cL_law := C.2.1
  have hc2 : cells + mc1 + 0 ≤ room_1.cells := hc1
  have hs2 : slots + ms1 + 0 ≤ room_1.slots := hs1
  refine lv_aload_n hx9 hb dL_law_1555 rfl (lv_at hl 1 rfl) ?_
  refine lv_aload_n hx9 hb dL_law_1556 rfl (lv_at hl 0 rfl) ?_
  refine lv_iload hx9 hb dL_law_1557 (lv_at hl 4 rfl) ?_
  refine lv_iconst (v := 1) hx9 hb dL_law_1559 (by decide) ?_
  refine lv_iadd hx9 hb dL_law_1560 ?_
  refine va_sld hx9 hb hX hbl hbA w.2.2 hi1 dL_law_1561 ?_
  refine lv_aload_n hx9 hb dL_law_1562 rfl (lv_at hl 3 rfl) ?_
  refine ck_iS C w P1 (hK1 _) kk_L_225 (rm_law hk1 (by decide)) rfl hl.1 rfl (Nat.le_of_ble_eq_true rfl) dL_law_1563 ⟨hc1, hs1⟩ (fun u H locs w => ?_)
  refine lv_istore (lv' := [(5, .int kv), (0, .ref b), (1, .ref hx), (2, .ref hm), (3, .ref ho), (4, .int i4)]) hx9 hb dL_law_1566 hl (by decide) rfl (fun ls hl => ?_)
  refine lv_aload_n hx9 hb dL_law_1568 rfl (lv_at hl 3 rfl) ?_
  refine lv_aload_n hx9 hb dL_law_1569 rfl (lv_at hl 1 rfl) ?_
  refine lv_iload hx9 hb dL_law_1570 (lv_at hl 5 rfl) ?_
  refine lv_iconst (v := 1) hx9 hb dL_law_1572 (by decide) ?_
  refine lv_iadd hx9 hb dL_law_1573 ?_
  refine va_sld hx9 hb hX hbl hbA w.2.2 hi1 dL_law_1574 ?_
  refine cm_iV C w (P2 u) (hK2 _) k_L_227 (rm_law hk2 (by decide)) hm2 rfl rfl rfl hl.1 rfl (Nat.le_of_ble_eq_true rfl) dL_law_1575 ⟨hc2, hs2⟩ (fun _ H locs w => ?_)
  refine lv_istore (lv' := [(6, .int bv), (5, .int kv), (0, .ref b), (1, .ref hx), (2, .ref hm), (3, .ref ho), (4, .int i4)]) hx9 hb dL_law_1578 hl (by decide) rfl (fun ls hl => ?_)
  refine lv_aload_n hx9 hb dL_law_1580 rfl (lv_at hl 4 rfl) ?_
  refine cm_iV C w (P3 u) (hK3 _) k_L_140 (rm_law (by decide) (by decide)) hm3 rfl rfl rfl hl.1 rfl (Nat.le_of_ble_eq_true rfl) dL_law_1581 ⟨hc2, hs2⟩ (fun _ H locs w => ?_)
  refine lv_iload hx9 hb dL_law_1584 (lv_at hl 1 rfl) ?_
  refine lv_icmp_eq (tgt := 1591) hx9 hb dL_law_1586 (by decide) (fun _ => ?_) (fun n => absurd heq n)
  refine lv_iload hx9 hb dL_law_1591 (lv_at hl 1 rfl) ?_
  refine lv_if_ne (tgt := 1608) hx9 hb dL_law_1593 (by decide) (fun n => ?_) (fun n => ?_)
  · refine lv_goto (tgt := 2724) hx9 hb dL_law_1608 (by decide) ?_
    exact kk u _ _ _ w (lv_sub hl [2, 3, 4, 5, 6] rfl)
  obtain ⟨fo, ho1, ho2⟩ := hval n u
  refine lv_aload_n hx9 hb dL_law_1596 rfl (lv_at hl 5 rfl) ?_
  refine lv_iconst (v := 0) hx9 hb dL_law_1597 (by decide) ?_
  refine lal_mem C w ho1 dL_law_1598 ?_
  refine lv_iload hx9 hb dL_law_1599 (lv_at hl 0 rfl) ?_
  refine lv_i2l (v := bv.toInt64) hx9 hb dL_law_1601 rfl ?_
  refine W.lcmp hx9 hb dL_law_1602 ?_
  refine lv_if_eq (tgt := 1608) hx9 hb dL_law_1603 (by decide) (fun _ => ?_) (fun n => absurd (by rw [ho2]; exact lg_cmp_self _) n)
  refine lv_goto (tgt := 2724) hx9 hb dL_law_1608 (by decide) ?_
  exact kk u _ _ _ w (lv_sub hl [2, 3, 4, 5, 6] rfl)

theorem q_1016 : Cond.methodLink RL 228 yL_invoiceOf ∈ TS := ts_t 1016 (by decide +kernel) (by decide +kernel)
theorem q_1017 : Cond.static yL_invoiceOf ∈ TS := ts_t 1017 (by decide +kernel) (by decide +kernel)
theorem q_1018 : Cond.codeWith yL_invoiceOf cL_invoiceOf 4 (some .int) [(0, 9, 12, 32)] ∈ TS := ts_t 1018 (by decide +kernel) (by decide +kernel)
theorem kk_L_228 : LkK RL 228 m_L_invoiceOf [(0, 9, 12, 32)] 3 := ⟨q_1016, q_1017, q_0, q_1018, by decide, by decide, by decide +kernel⟩
theorem q_1651 : Cond.code yX10_invoiceOf cX10_invoiceOf 2 (some .int) ∈ TS := ts_t 1651 (by decide +kernel) (by decide +kernel)
theorem q_1648 : Cond.methodLink RL 230 yX10_invoiceOf ∈ TS := ts_t 1648 (by decide +kernel) (by decide +kernel)
theorem q_1649 : Cond.instanceMethod yX10_invoiceOf ∈ TS := ts_t 1649 (by decide +kernel) (by decide +kernel)
theorem q_1650 : Cond.selects yX10_invoiceOf.cls yX10_invoiceOf yX10_invoiceOf ∈ TS := ts_t 1650 (by decide +kernel) (by decide +kernel)
theorem k_L_230 : LkV RL 230 m_X10_invoiceOf 1 := ⟨q_1648, q_1649, q_1650, ⟨q_11, q_1651, by decide, by decide, by decide +kernel⟩⟩
set_option maxHeartbeats 4000000 in
theorem lc_27 {p : Program} {l : Launch} {e : Env} {s : State} {m : MethodId} {args : Array Value} {below : List Frame} {meth : Method} {c : Code} {H : Heap} {locs : List Loc} {cells slots : Nat} {Q : State → Prop} {g : GT} {A : Nat → Prop} {ws : va_W} {ls : Array Slot} {b L : Nat} {xs : Nat → Int32} {i4 : Int32} {hx hm ho : Nat} {wc wd wd' we : va_W} {wc' wn1 wn2 : (Nat → Nat) → va_W} {k1 k2 mc1 ms1 : Nat} {kv bv tv : Int32} {fs1 fs2 fs3 : List Value} (X : Lx p s m args meth c g A b L xs i4) (w : Wd g A ws s.heap H locs) (hl : lv_has ls 7 [(0, .ref b), (1, .ref hx), (2, .ref hm), (3, .ref ho), (4, .int i4)]) (P1 : PM ws wc wc' wn1) (hK1 : ∀ sz, KI l m_L_invoiceOf [(0, 9, 12, 32)] (rml k1 mc1 ms1) g wc wc' sz [.ref hx, .int (xs (i4 + 1).toNatClampNeg), .ref ho] kv) (P2 : ∀ u, PM (wn1 u) wd (fun _ => wd') (fun _ => wn2 u)) (hK2 : ∀ sz, CI l m_X10_invoiceOf (rml k2 0 0) g wd (fun _ => wd') sz [.ref hm, .int (xs (i4 + 1).toNatClampNeg)] bv) (hm2 : (hm, .inr (10, fs2)) ∈ wd) (P3 : ∀ u, PM (wn2 u) we (fun _ => we) (fun _ => wn2 u)) (hK3 : ∀ sz, CI l m_X10_thrown (rml 0 0 0) g we (fun _ => we) sz [.ref hm] tv) (hm3 : (hm, .inr (10, fs3)) ∈ we) (heq : tv = kv) (hval : kv = 0 → ∀ u, ∃ fo : Nat → Int64, (ho, aJ g 1 fo) ∈ wn2 u ∧ fo 0 = bv.toInt64) (hk1 : k1 ≤ 100) (hk2 : k2 ≤ 100) (hc1 : cells + mc1 ≤ room_1.cells) (hs1 : slots + ms1 ≤ room_1.slots) (kk : ∀ (u : Nat → Nat) (H : Heap) (locs : List Loc) (ls : Array Slot), Wd g A (wn2 u) s.heap H locs → lv_has ls 7 [(0, .ref b), (1, .ref hx), (2, .ref hm), (3, .ref ho), (4, .int i4)] → W p l e room_1 s m args below meth c H locs (cells + mc1) (slots + ms1) Q (F0 m 2724 ls [])) : W p l e room_1 s m args below meth c H locs cells slots Q (F0 m 1611 ls []) := by
  obtain ⟨C, hX, hbl, hbA, hi1, hi2, hi3, hi4, hi5⟩ := X
  have hx9 := C.1
  have hb : c.code = cL_law := C.2.1
  have hc2 : cells + mc1 + 0 ≤ room_1.cells := hc1
  have hs2 : slots + ms1 + 0 ≤ room_1.slots := hs1
  refine lv_aload_n hx9 hb dL_law_1611 rfl (lv_at hl 1 rfl) ?_
  refine lv_aload_n hx9 hb dL_law_1612 rfl (lv_at hl 0 rfl) ?_
  refine lv_iload hx9 hb dL_law_1613 (lv_at hl 4 rfl) ?_
  refine lv_iconst (v := 1) hx9 hb dL_law_1615 (by decide) ?_
  refine lv_iadd hx9 hb dL_law_1616 ?_
  refine va_sld hx9 hb hX hbl hbA w.2.2 hi1 dL_law_1617 ?_
  refine lv_aload_n hx9 hb dL_law_1618 rfl (lv_at hl 3 rfl) ?_
  refine ck_iS C w P1 (hK1 _) kk_L_228 (rm_law hk1 (by decide)) rfl hl.1 rfl (Nat.le_of_ble_eq_true rfl) dL_law_1619 ⟨hc1, hs1⟩ (fun u H locs w => ?_)
  refine lv_istore (lv' := [(5, .int kv), (0, .ref b), (1, .ref hx), (2, .ref hm), (3, .ref ho), (4, .int i4)]) hx9 hb dL_law_1622 hl (by decide) rfl (fun ls hl => ?_)
  refine lv_aload_n hx9 hb dL_law_1624 rfl (lv_at hl 3 rfl) ?_
  refine lv_aload_n hx9 hb dL_law_1625 rfl (lv_at hl 1 rfl) ?_
  refine lv_iload hx9 hb dL_law_1626 (lv_at hl 5 rfl) ?_
  refine lv_iconst (v := 1) hx9 hb dL_law_1628 (by decide) ?_
  refine lv_iadd hx9 hb dL_law_1629 ?_
  refine va_sld hx9 hb hX hbl hbA w.2.2 hi1 dL_law_1630 ?_
  refine cm_iV C w (P2 u) (hK2 _) k_L_230 (rm_law hk2 (by decide)) hm2 rfl rfl rfl hl.1 rfl (Nat.le_of_ble_eq_true rfl) dL_law_1631 ⟨hc2, hs2⟩ (fun _ H locs w => ?_)
  refine lv_istore (lv' := [(6, .int bv), (5, .int kv), (0, .ref b), (1, .ref hx), (2, .ref hm), (3, .ref ho), (4, .int i4)]) hx9 hb dL_law_1634 hl (by decide) rfl (fun ls hl => ?_)
  refine lv_aload_n hx9 hb dL_law_1636 rfl (lv_at hl 4 rfl) ?_
  refine cm_iV C w (P3 u) (hK3 _) k_L_140 (rm_law (by decide) (by decide)) hm3 rfl rfl rfl hl.1 rfl (Nat.le_of_ble_eq_true rfl) dL_law_1637 ⟨hc2, hs2⟩ (fun _ H locs w => ?_)
  refine lv_iload hx9 hb dL_law_1640 (lv_at hl 1 rfl) ?_
  refine lv_icmp_eq (tgt := 1647) hx9 hb dL_law_1642 (by decide) (fun _ => ?_) (fun n => absurd heq n)
  refine lv_iload hx9 hb dL_law_1647 (lv_at hl 1 rfl) ?_
  refine lv_if_ne (tgt := 1664) hx9 hb dL_law_1649 (by decide) (fun n => ?_) (fun n => ?_)
  · refine lv_goto (tgt := 2724) hx9 hb dL_law_1664 (by decide) ?_
    exact kk u _ _ _ w (lv_sub hl [2, 3, 4, 5, 6] rfl)
  obtain ⟨fo, ho1, ho2⟩ := hval n u
  refine lv_aload_n hx9 hb dL_law_1652 rfl (lv_at hl 5 rfl) ?_
  refine lv_iconst (v := 0) hx9 hb dL_law_1653 (by decide) ?_
  refine lal_mem C w ho1 dL_law_1654 ?_
  refine lv_iload hx9 hb dL_law_1655 (lv_at hl 0 rfl) ?_
  refine lv_i2l (v := bv.toInt64) hx9 hb dL_law_1657 rfl ?_
  refine W.lcmp hx9 hb dL_law_1658 ?_
  refine lv_if_eq (tgt := 1664) hx9 hb dL_law_1659 (by decide) (fun _ => ?_) (fun n => absurd (by rw [ho2]; exact lg_cmp_self _) n)
  refine lv_goto (tgt := 2724) hx9 hb dL_law_1664 (by decide) ?_
  exact kk u _ _ _ w (lv_sub hl [2, 3, 4, 5, 6] rfl)


theorem q_456 : Cond.code yX9_invoiceCount cX9_invoiceCount 1 (some .int) ∈ TS := ts_t 456 (by decide +kernel) (by decide +kernel)
theorem q_453 : Cond.methodLink RL 231 yX9_invoiceCount ∈ TS := ts_t 453 (by decide +kernel) (by decide +kernel)
theorem q_454 : Cond.instanceMethod yX9_invoiceCount ∈ TS := ts_t 454 (by decide +kernel) (by decide +kernel)
theorem q_455 : Cond.selects yX9_invoiceCount.cls yX9_invoiceCount yX9_invoiceCount ∈ TS := ts_t 455 (by decide +kernel) (by decide +kernel)
theorem k_L_231 : LkV RL 231 m_X9_invoiceCount 0 := ⟨q_453, q_454, q_455, ⟨q_1, q_456, by decide, by decide, by decide +kernel⟩⟩
theorem q_1655 : Cond.code yX10_invoiceCount cX10_invoiceCount 1 (some .int) ∈ TS := ts_t 1655 (by decide +kernel) (by decide +kernel)
theorem q_1652 : Cond.methodLink RL 234 yX10_invoiceCount ∈ TS := ts_t 1652 (by decide +kernel) (by decide +kernel)
theorem q_1653 : Cond.instanceMethod yX10_invoiceCount ∈ TS := ts_t 1653 (by decide +kernel) (by decide +kernel)
theorem q_1654 : Cond.selects yX10_invoiceCount.cls yX10_invoiceCount yX10_invoiceCount ∈ TS := ts_t 1654 (by decide +kernel) (by decide +kernel)
theorem k_L_234 : LkV RL 234 m_X10_invoiceCount 0 := ⟨q_1652, q_1653, q_1654, ⟨q_11, q_1655, by decide, by decide, by decide +kernel⟩⟩
set_option maxHeartbeats 4000000 in
theorem lc_28 {p : Program} {l : Launch} {e : Env} {s : State} {m : MethodId} {args : Array Value} {below : List Frame} {meth : Method} {c : Code} {H : Heap} {locs : List Loc} {cells slots : Nat} {Q : State → Prop} {g : GT} {A : Nat → Prop} {ws : va_W} {ls : Array Slot} {b L : Nat} {xs : Nat → Int32} {i4 : Int32} {hx hm ho : Nat} {wc wd wd' we : va_W} {wc' wn1 wn2 : (Nat → Nat) → va_W} {k1 k2 mc1 ms1 : Nat} {kv bv tv : Int32} {fs1 fs2 fs3 : List Value} (X : Lx p s m args meth c g A b L xs i4) (w : Wd g A ws s.heap H locs) (hl : lv_has ls 7 [(0, .ref b), (1, .ref hx), (2, .ref hm), (3, .ref ho), (4, .int i4)]) (P1 : PM ws wc wc' wn1) (hK1 : ∀ sz, CI l m_X9_invoiceCount (rml k1 mc1 ms1) g wc wc' sz [.ref hx] kv) (hm1 : (hx, .inr (9, fs1)) ∈ wc) (P2 : ∀ u, PM (wn1 u) wd (fun _ => wd') (fun _ => wn2 u)) (hK2 : ∀ sz, CI l m_X10_invoiceCount (rml k2 0 0) g wd (fun _ => wd') sz [.ref hm] bv) (hm2 : (hm, .inr (10, fs2)) ∈ wd) (heq : kv = bv) (hk1 : k1 ≤ 100) (hk2 : k2 ≤ 100) (hc1 : cells + mc1 ≤ room_1.cells) (hs1 : slots + ms1 ≤ room_1.slots) (kk : ∀ (u : Nat → Nat) (H : Heap) (locs : List Loc) (ls : Array Slot), Wd g A (wn2 u) s.heap H locs → lv_has ls 7 [(0, .ref b), (1, .ref hx), (2, .ref hm), (3, .ref ho), (4, .int i4)] → W p l e room_1 s m args below meth c H locs (cells + mc1) (slots + ms1) Q (F0 m 2724 ls [])) : W p l e room_1 s m args below meth c H locs cells slots Q (F0 m 1667 ls []) := by
  obtain ⟨C, hX, hbl, hbA, hi1, hi2, hi3, hi4, hi5⟩ := X
  have hx9 := C.1
  have hb : c.code = cL_law := C.2.1
  have hc2 : cells + mc1 + 0 ≤ room_1.cells := hc1
  have hs2 : slots + ms1 + 0 ≤ room_1.slots := hs1
  refine lv_aload_n hx9 hb dL_law_1667 rfl (lv_at hl 1 rfl) ?_
  refine cm_iV C w P1 (hK1 _) k_L_231 (rm_law hk1 (by decide)) hm1 rfl rfl rfl hl.1 rfl (Nat.le_of_ble_eq_true rfl) dL_law_1668 ⟨hc1, hs1⟩ (fun u H locs w => ?_)
  refine lv_aload_n hx9 hb dL_law_1671 rfl (lv_at hl 2 rfl) ?_
  refine cm_iV C w (P2 u) (hK2 _) k_L_234 (rm_law hk2 (by decide)) hm2 rfl rfl rfl hl.1 rfl (Nat.le_of_ble_eq_true rfl) dL_law_1672 ⟨hc2, hs2⟩ (fun _ H locs w => ?_)
  refine lv_icmp_eq (tgt := 2724) hx9 hb dL_law_1675 (by decide) (fun _ => ?_) (fun n => absurd heq n)
  exact kk u _ _ _ w (lv_sub hl [0, 1, 2, 3, 4] rfl)

theorem q_1023 : Cond.methodLink RL 235 yL_invoiceTag ∈ TS := ts_t 1023 (by decide +kernel) (by decide +kernel)
theorem q_1024 : Cond.static yL_invoiceTag ∈ TS := ts_t 1024 (by decide +kernel) (by decide +kernel)
theorem q_1025 : Cond.codeWith yL_invoiceTag cL_invoiceTag 4 (some .int) [(0, 9, 12, 32)] ∈ TS := ts_t 1025 (by decide +kernel) (by decide +kernel)
theorem kk_L_235 : LkK RL 235 m_L_invoiceTag [(0, 9, 12, 32)] 3 := ⟨q_1023, q_1024, q_0, q_1025, by decide, by decide, by decide +kernel⟩
theorem q_1659 : Cond.code yX10_invoiceTag cX10_invoiceTag 2 (some .int) ∈ TS := ts_t 1659 (by decide +kernel) (by decide +kernel)
theorem q_1656 : Cond.methodLink RL 237 yX10_invoiceTag ∈ TS := ts_t 1656 (by decide +kernel) (by decide +kernel)
theorem q_1657 : Cond.instanceMethod yX10_invoiceTag ∈ TS := ts_t 1657 (by decide +kernel) (by decide +kernel)
theorem q_1658 : Cond.selects yX10_invoiceTag.cls yX10_invoiceTag yX10_invoiceTag ∈ TS := ts_t 1658 (by decide +kernel) (by decide +kernel)
theorem k_L_237 : LkV RL 237 m_X10_invoiceTag 1 := ⟨q_1656, q_1657, q_1658, ⟨q_11, q_1659, by decide, by decide, by decide +kernel⟩⟩
set_option maxHeartbeats 4000000 in
theorem lc_29 {p : Program} {l : Launch} {e : Env} {s : State} {m : MethodId} {args : Array Value} {below : List Frame} {meth : Method} {c : Code} {H : Heap} {locs : List Loc} {cells slots : Nat} {Q : State → Prop} {g : GT} {A : Nat → Prop} {ws : va_W} {ls : Array Slot} {b L : Nat} {xs : Nat → Int32} {i4 : Int32} {hx hm ho : Nat} {wc wd wd' we : va_W} {wc' wn1 wn2 : (Nat → Nat) → va_W} {k1 k2 mc1 ms1 : Nat} {kv bv tv : Int32} {fs1 fs2 fs3 : List Value} (X : Lx p s m args meth c g A b L xs i4) (w : Wd g A ws s.heap H locs) (hl : lv_has ls 7 [(0, .ref b), (1, .ref hx), (2, .ref hm), (3, .ref ho), (4, .int i4)]) (P1 : PM ws wc wc' wn1) (hK1 : ∀ sz, KI l m_L_invoiceTag [(0, 9, 12, 32)] (rml k1 mc1 ms1) g wc wc' sz [.ref hx, .int (xs (i4 + 1).toNatClampNeg), .ref ho] kv) (P2 : ∀ u, PM (wn1 u) wd (fun _ => wd') (fun _ => wn2 u)) (hK2 : ∀ sz, CI l m_X10_invoiceTag (rml k2 0 0) g wd (fun _ => wd') sz [.ref hm, .int (xs (i4 + 1).toNatClampNeg)] bv) (hm2 : (hm, .inr (10, fs2)) ∈ wd) (P3 : ∀ u, PM (wn2 u) we (fun _ => we) (fun _ => wn2 u)) (hK3 : ∀ sz, CI l m_X10_thrown (rml 0 0 0) g we (fun _ => we) sz [.ref hm] tv) (hm3 : (hm, .inr (10, fs3)) ∈ we) (heq : tv = kv) (hval : kv = 0 → ∀ u, ∃ fo : Nat → Int64, (ho, aJ g 1 fo) ∈ wn2 u ∧ fo 0 = bv.toInt64) (hk1 : k1 ≤ 100) (hk2 : k2 ≤ 100) (hc1 : cells + mc1 ≤ room_1.cells) (hs1 : slots + ms1 ≤ room_1.slots) (kk : ∀ (u : Nat → Nat) (H : Heap) (locs : List Loc) (ls : Array Slot), Wd g A (wn2 u) s.heap H locs → lv_has ls 7 [(0, .ref b), (1, .ref hx), (2, .ref hm), (3, .ref ho), (4, .int i4)] → W p l e room_1 s m args below meth c H locs (cells + mc1) (slots + ms1) Q (F0 m 2724 ls [])) : W p l e room_1 s m args below meth c H locs cells slots Q (F0 m 1680 ls []) := by
  obtain ⟨C, hX, hbl, hbA, hi1, hi2, hi3, hi4, hi5⟩ := X
  have hx9 := C.1
  have hb : c.code = cL_law := C.2.1
  have hc2 : cells + mc1 + 0 ≤ room_1.cells := hc1
  have hs2 : slots + ms1 + 0 ≤ room_1.slots := hs1
  refine lv_aload_n hx9 hb dL_law_1680 rfl (lv_at hl 1 rfl) ?_
  refine lv_aload_n hx9 hb dL_law_1681 rfl (lv_at hl 0 rfl) ?_
  refine lv_iload hx9 hb dL_law_1682 (lv_at hl 4 rfl) ?_
  refine lv_iconst (v := 1) hx9 hb dL_law_1684 (by decide) ?_
  refine lv_iadd hx9 hb dL_law_1685 ?_
  refine va_sld hx9 hb hX hbl hbA w.2.2 hi1 dL_law_1686 ?_
  refine lv_aload_n hx9 hb dL_law_1687 rfl (lv_at hl 3 rfl) ?_
  refine ck_iS C w P1 (hK1 _) kk_L_235 (rm_law hk1 (by decide)) rfl hl.1 rfl (Nat.le_of_ble_eq_true rfl) dL_law_1688 ⟨hc1, hs1⟩ (fun u H locs w => ?_)
  refine lv_istore (lv' := [(5, .int kv), (0, .ref b), (1, .ref hx), (2, .ref hm), (3, .ref ho), (4, .int i4)]) hx9 hb dL_law_1691 hl (by decide) rfl (fun ls hl => ?_)
  refine lv_aload_n hx9 hb dL_law_1693 rfl (lv_at hl 3 rfl) ?_
  refine lv_aload_n hx9 hb dL_law_1694 rfl (lv_at hl 1 rfl) ?_
  refine lv_iload hx9 hb dL_law_1695 (lv_at hl 5 rfl) ?_
  refine lv_iconst (v := 1) hx9 hb dL_law_1697 (by decide) ?_
  refine lv_iadd hx9 hb dL_law_1698 ?_
  refine va_sld hx9 hb hX hbl hbA w.2.2 hi1 dL_law_1699 ?_
  refine cm_iV C w (P2 u) (hK2 _) k_L_237 (rm_law hk2 (by decide)) hm2 rfl rfl rfl hl.1 rfl (Nat.le_of_ble_eq_true rfl) dL_law_1700 ⟨hc2, hs2⟩ (fun _ H locs w => ?_)
  refine lv_istore (lv' := [(6, .int bv), (5, .int kv), (0, .ref b), (1, .ref hx), (2, .ref hm), (3, .ref ho), (4, .int i4)]) hx9 hb dL_law_1703 hl (by decide) rfl (fun ls hl => ?_)
  refine lv_aload_n hx9 hb dL_law_1705 rfl (lv_at hl 4 rfl) ?_
  refine cm_iV C w (P3 u) (hK3 _) k_L_140 (rm_law (by decide) (by decide)) hm3 rfl rfl rfl hl.1 rfl (Nat.le_of_ble_eq_true rfl) dL_law_1706 ⟨hc2, hs2⟩ (fun _ H locs w => ?_)
  refine lv_iload hx9 hb dL_law_1709 (lv_at hl 1 rfl) ?_
  refine lv_icmp_eq (tgt := 1716) hx9 hb dL_law_1711 (by decide) (fun _ => ?_) (fun n => absurd heq n)
  refine lv_iload hx9 hb dL_law_1716 (lv_at hl 1 rfl) ?_
  refine lv_if_ne (tgt := 1733) hx9 hb dL_law_1718 (by decide) (fun n => ?_) (fun n => ?_)
  · refine lv_goto (tgt := 2724) hx9 hb dL_law_1733 (by decide) ?_
    exact kk u _ _ _ w (lv_sub hl [2, 3, 4, 5, 6] rfl)
  obtain ⟨fo, ho1, ho2⟩ := hval n u
  refine lv_aload_n hx9 hb dL_law_1721 rfl (lv_at hl 5 rfl) ?_
  refine lv_iconst (v := 0) hx9 hb dL_law_1722 (by decide) ?_
  refine lal_mem C w ho1 dL_law_1723 ?_
  refine lv_iload hx9 hb dL_law_1724 (lv_at hl 0 rfl) ?_
  refine lv_i2l (v := bv.toInt64) hx9 hb dL_law_1726 rfl ?_
  refine W.lcmp hx9 hb dL_law_1727 ?_
  refine lv_if_eq (tgt := 1733) hx9 hb dL_law_1728 (by decide) (fun _ => ?_) (fun n => absurd (by rw [ho2]; exact lg_cmp_self _) n)
  refine lv_goto (tgt := 2724) hx9 hb dL_law_1733 (by decide) ?_
  exact kk u _ _ _ w (lv_sub hl [2, 3, 4, 5, 6] rfl)

theorem q_1036 : Cond.methodLink RL 238 yL_invoicePlate ∈ TS := ts_t 1036 (by decide +kernel) (by decide +kernel)
theorem q_1037 : Cond.static yL_invoicePlate ∈ TS := ts_t 1037 (by decide +kernel) (by decide +kernel)
theorem q_1038 : Cond.codeWith yL_invoicePlate cL_invoicePlate 4 (some .int) [(0, 9, 12, 32)] ∈ TS := ts_t 1038 (by decide +kernel) (by decide +kernel)
theorem kk_L_238 : LkK RL 238 m_L_invoicePlate [(0, 9, 12, 32)] 3 := ⟨q_1036, q_1037, q_0, q_1038, by decide, by decide, by decide +kernel⟩
theorem q_1671 : Cond.code yX10_invoicePlate cX10_invoicePlate 2 (some .int) ∈ TS := ts_t 1671 (by decide +kernel) (by decide +kernel)
theorem q_1668 : Cond.methodLink RL 240 yX10_invoicePlate ∈ TS := ts_t 1668 (by decide +kernel) (by decide +kernel)
theorem q_1669 : Cond.instanceMethod yX10_invoicePlate ∈ TS := ts_t 1669 (by decide +kernel) (by decide +kernel)
theorem q_1670 : Cond.selects yX10_invoicePlate.cls yX10_invoicePlate yX10_invoicePlate ∈ TS := ts_t 1670 (by decide +kernel) (by decide +kernel)
theorem k_L_240 : LkV RL 240 m_X10_invoicePlate 1 := ⟨q_1668, q_1669, q_1670, ⟨q_11, q_1671, by decide, by decide, by decide +kernel⟩⟩
set_option maxHeartbeats 4000000 in
theorem lc_30 {p : Program} {l : Launch} {e : Env} {s : State} {m : MethodId} {args : Array Value} {below : List Frame} {meth : Method} {c : Code} {H : Heap} {locs : List Loc} {cells slots : Nat} {Q : State → Prop} {g : GT} {A : Nat → Prop} {ws : va_W} {ls : Array Slot} {b L : Nat} {xs : Nat → Int32} {i4 : Int32} {hx hm ho : Nat} {wc wd wd' we : va_W} {wc' wn1 wn2 : (Nat → Nat) → va_W} {k1 k2 mc1 ms1 : Nat} {kv bv tv : Int32} {fs1 fs2 fs3 : List Value} (X : Lx p s m args meth c g A b L xs i4) (w : Wd g A ws s.heap H locs) (hl : lv_has ls 7 [(0, .ref b), (1, .ref hx), (2, .ref hm), (3, .ref ho), (4, .int i4)]) (P1 : PM ws wc wc' wn1) (hK1 : ∀ sz, KI l m_L_invoicePlate [(0, 9, 12, 32)] (rml k1 mc1 ms1) g wc wc' sz [.ref hx, .int (xs (i4 + 1).toNatClampNeg), .ref ho] kv) (P2 : ∀ u, PM (wn1 u) wd (fun _ => wd') (fun _ => wn2 u)) (hK2 : ∀ sz, CI l m_X10_invoicePlate (rml k2 0 0) g wd (fun _ => wd') sz [.ref hm, .int (xs (i4 + 1).toNatClampNeg)] bv) (hm2 : (hm, .inr (10, fs2)) ∈ wd) (P3 : ∀ u, PM (wn2 u) we (fun _ => we) (fun _ => wn2 u)) (hK3 : ∀ sz, CI l m_X10_thrown (rml 0 0 0) g we (fun _ => we) sz [.ref hm] tv) (hm3 : (hm, .inr (10, fs3)) ∈ we) (heq : tv = kv) (hval : kv = 0 → ∀ u, ∃ fo : Nat → Int64, (ho, aJ g 1 fo) ∈ wn2 u ∧ fo 0 = bv.toInt64) (hk1 : k1 ≤ 100) (hk2 : k2 ≤ 100) (hc1 : cells + mc1 ≤ room_1.cells) (hs1 : slots + ms1 ≤ room_1.slots) (kk : ∀ (u : Nat → Nat) (H : Heap) (locs : List Loc) (ls : Array Slot), Wd g A (wn2 u) s.heap H locs → lv_has ls 7 [(0, .ref b), (1, .ref hx), (2, .ref hm), (3, .ref ho), (4, .int i4)] → W p l e room_1 s m args below meth c H locs (cells + mc1) (slots + ms1) Q (F0 m 2724 ls [])) : W p l e room_1 s m args below meth c H locs cells slots Q (F0 m 1736 ls []) := by
  obtain ⟨C, hX, hbl, hbA, hi1, hi2, hi3, hi4, hi5⟩ := X
  have hx9 := C.1
  have hb : c.code = cL_law := C.2.1
  have hc2 : cells + mc1 + 0 ≤ room_1.cells := hc1
  have hs2 : slots + ms1 + 0 ≤ room_1.slots := hs1
  refine lv_aload_n hx9 hb dL_law_1736 rfl (lv_at hl 1 rfl) ?_
  refine lv_aload_n hx9 hb dL_law_1737 rfl (lv_at hl 0 rfl) ?_
  refine lv_iload hx9 hb dL_law_1738 (lv_at hl 4 rfl) ?_
  refine lv_iconst (v := 1) hx9 hb dL_law_1740 (by decide) ?_
  refine lv_iadd hx9 hb dL_law_1741 ?_
  refine va_sld hx9 hb hX hbl hbA w.2.2 hi1 dL_law_1742 ?_
  refine lv_aload_n hx9 hb dL_law_1743 rfl (lv_at hl 3 rfl) ?_
  refine ck_iS C w P1 (hK1 _) kk_L_238 (rm_law hk1 (by decide)) rfl hl.1 rfl (Nat.le_of_ble_eq_true rfl) dL_law_1744 ⟨hc1, hs1⟩ (fun u H locs w => ?_)
  refine lv_istore (lv' := [(5, .int kv), (0, .ref b), (1, .ref hx), (2, .ref hm), (3, .ref ho), (4, .int i4)]) hx9 hb dL_law_1747 hl (by decide) rfl (fun ls hl => ?_)
  refine lv_aload_n hx9 hb dL_law_1749 rfl (lv_at hl 3 rfl) ?_
  refine lv_aload_n hx9 hb dL_law_1750 rfl (lv_at hl 1 rfl) ?_
  refine lv_iload hx9 hb dL_law_1751 (lv_at hl 5 rfl) ?_
  refine lv_iconst (v := 1) hx9 hb dL_law_1753 (by decide) ?_
  refine lv_iadd hx9 hb dL_law_1754 ?_
  refine va_sld hx9 hb hX hbl hbA w.2.2 hi1 dL_law_1755 ?_
  refine cm_iV C w (P2 u) (hK2 _) k_L_240 (rm_law hk2 (by decide)) hm2 rfl rfl rfl hl.1 rfl (Nat.le_of_ble_eq_true rfl) dL_law_1756 ⟨hc2, hs2⟩ (fun _ H locs w => ?_)
  refine lv_istore (lv' := [(6, .int bv), (5, .int kv), (0, .ref b), (1, .ref hx), (2, .ref hm), (3, .ref ho), (4, .int i4)]) hx9 hb dL_law_1759 hl (by decide) rfl (fun ls hl => ?_)
  refine lv_aload_n hx9 hb dL_law_1761 rfl (lv_at hl 4 rfl) ?_
  refine cm_iV C w (P3 u) (hK3 _) k_L_140 (rm_law (by decide) (by decide)) hm3 rfl rfl rfl hl.1 rfl (Nat.le_of_ble_eq_true rfl) dL_law_1762 ⟨hc2, hs2⟩ (fun _ H locs w => ?_)
  refine lv_iload hx9 hb dL_law_1765 (lv_at hl 1 rfl) ?_
  refine lv_icmp_eq (tgt := 1772) hx9 hb dL_law_1767 (by decide) (fun _ => ?_) (fun n => absurd heq n)
  refine lv_iload hx9 hb dL_law_1772 (lv_at hl 1 rfl) ?_
  refine lv_if_ne (tgt := 1789) hx9 hb dL_law_1774 (by decide) (fun n => ?_) (fun n => ?_)
  · refine lv_goto (tgt := 2724) hx9 hb dL_law_1789 (by decide) ?_
    exact kk u _ _ _ w (lv_sub hl [2, 3, 4, 5, 6] rfl)
  obtain ⟨fo, ho1, ho2⟩ := hval n u
  refine lv_aload_n hx9 hb dL_law_1777 rfl (lv_at hl 5 rfl) ?_
  refine lv_iconst (v := 0) hx9 hb dL_law_1778 (by decide) ?_
  refine lal_mem C w ho1 dL_law_1779 ?_
  refine lv_iload hx9 hb dL_law_1780 (lv_at hl 0 rfl) ?_
  refine lv_i2l (v := bv.toInt64) hx9 hb dL_law_1782 rfl ?_
  refine W.lcmp hx9 hb dL_law_1783 ?_
  refine lv_if_eq (tgt := 1789) hx9 hb dL_law_1784 (by decide) (fun _ => ?_) (fun n => absurd (by rw [ho2]; exact lg_cmp_self _) n)
  refine lv_goto (tgt := 2724) hx9 hb dL_law_1789 (by decide) ?_
  exact kk u _ _ _ w (lv_sub hl [2, 3, 4, 5, 6] rfl)

theorem q_1043 : Cond.methodLink RL 241 yL_invoiceTotal ∈ TS := ts_t 1043 (by decide +kernel) (by decide +kernel)
theorem q_1044 : Cond.static yL_invoiceTotal ∈ TS := ts_t 1044 (by decide +kernel) (by decide +kernel)
theorem q_1045 : Cond.codeWith yL_invoiceTotal cL_invoiceTotal 4 (some .int) [(0, 9, 12, 32)] ∈ TS := ts_t 1045 (by decide +kernel) (by decide +kernel)
theorem kk_L_241 : LkK RL 241 m_L_invoiceTotal [(0, 9, 12, 32)] 3 := ⟨q_1043, q_1044, q_0, q_1045, by decide, by decide, by decide +kernel⟩
theorem q_1675 : Cond.code yX10_invoiceTotal cX10_invoiceTotal 2 (some .int) ∈ TS := ts_t 1675 (by decide +kernel) (by decide +kernel)
theorem q_1672 : Cond.methodLink RL 243 yX10_invoiceTotal ∈ TS := ts_t 1672 (by decide +kernel) (by decide +kernel)
theorem q_1673 : Cond.instanceMethod yX10_invoiceTotal ∈ TS := ts_t 1673 (by decide +kernel) (by decide +kernel)
theorem q_1674 : Cond.selects yX10_invoiceTotal.cls yX10_invoiceTotal yX10_invoiceTotal ∈ TS := ts_t 1674 (by decide +kernel) (by decide +kernel)
theorem k_L_243 : LkV RL 243 m_X10_invoiceTotal 1 := ⟨q_1672, q_1673, q_1674, ⟨q_11, q_1675, by decide, by decide, by decide +kernel⟩⟩
set_option maxHeartbeats 4000000 in
theorem lc_31 {p : Program} {l : Launch} {e : Env} {s : State} {m : MethodId} {args : Array Value} {below : List Frame} {meth : Method} {c : Code} {H : Heap} {locs : List Loc} {cells slots : Nat} {Q : State → Prop} {g : GT} {A : Nat → Prop} {ws : va_W} {ls : Array Slot} {b L : Nat} {xs : Nat → Int32} {i4 : Int32} {hx hm ho : Nat} {wc wd wd' we : va_W} {wc' wn1 wn2 : (Nat → Nat) → va_W} {k1 k2 mc1 ms1 : Nat} {kv bv tv : Int32} {fs1 fs2 fs3 : List Value} (X : Lx p s m args meth c g A b L xs i4) (w : Wd g A ws s.heap H locs) (hl : lv_has ls 7 [(0, .ref b), (1, .ref hx), (2, .ref hm), (3, .ref ho), (4, .int i4)]) (P1 : PM ws wc wc' wn1) (hK1 : ∀ sz, KI l m_L_invoiceTotal [(0, 9, 12, 32)] (rml k1 mc1 ms1) g wc wc' sz [.ref hx, .int (xs (i4 + 1).toNatClampNeg), .ref ho] kv) (P2 : ∀ u, PM (wn1 u) wd (fun _ => wd') (fun _ => wn2 u)) (hK2 : ∀ sz, CI l m_X10_invoiceTotal (rml k2 0 0) g wd (fun _ => wd') sz [.ref hm, .int (xs (i4 + 1).toNatClampNeg)] bv) (hm2 : (hm, .inr (10, fs2)) ∈ wd) (P3 : ∀ u, PM (wn2 u) we (fun _ => we) (fun _ => wn2 u)) (hK3 : ∀ sz, CI l m_X10_thrown (rml 0 0 0) g we (fun _ => we) sz [.ref hm] tv) (hm3 : (hm, .inr (10, fs3)) ∈ we) (heq : tv = kv) (hval : kv = 0 → ∀ u, ∃ fo : Nat → Int64, (ho, aJ g 1 fo) ∈ wn2 u ∧ fo 0 = bv.toInt64) (hk1 : k1 ≤ 100) (hk2 : k2 ≤ 100) (hc1 : cells + mc1 ≤ room_1.cells) (hs1 : slots + ms1 ≤ room_1.slots) (kk : ∀ (u : Nat → Nat) (H : Heap) (locs : List Loc) (ls : Array Slot), Wd g A (wn2 u) s.heap H locs → lv_has ls 7 [(0, .ref b), (1, .ref hx), (2, .ref hm), (3, .ref ho), (4, .int i4)] → W p l e room_1 s m args below meth c H locs (cells + mc1) (slots + ms1) Q (F0 m 2724 ls [])) : W p l e room_1 s m args below meth c H locs cells slots Q (F0 m 1792 ls []) := by
  obtain ⟨C, hX, hbl, hbA, hi1, hi2, hi3, hi4, hi5⟩ := X
  have hx9 := C.1
  have hb : c.code = cL_law := C.2.1
  have hc2 : cells + mc1 + 0 ≤ room_1.cells := hc1
  have hs2 : slots + ms1 + 0 ≤ room_1.slots := hs1
  refine lv_aload_n hx9 hb dL_law_1792 rfl (lv_at hl 1 rfl) ?_
  refine lv_aload_n hx9 hb dL_law_1793 rfl (lv_at hl 0 rfl) ?_
  refine lv_iload hx9 hb dL_law_1794 (lv_at hl 4 rfl) ?_
  refine lv_iconst (v := 1) hx9 hb dL_law_1796 (by decide) ?_
  refine lv_iadd hx9 hb dL_law_1797 ?_
  refine va_sld hx9 hb hX hbl hbA w.2.2 hi1 dL_law_1798 ?_
  refine lv_aload_n hx9 hb dL_law_1799 rfl (lv_at hl 3 rfl) ?_
  refine ck_iS C w P1 (hK1 _) kk_L_241 (rm_law hk1 (by decide)) rfl hl.1 rfl (Nat.le_of_ble_eq_true rfl) dL_law_1800 ⟨hc1, hs1⟩ (fun u H locs w => ?_)
  refine lv_istore (lv' := [(5, .int kv), (0, .ref b), (1, .ref hx), (2, .ref hm), (3, .ref ho), (4, .int i4)]) hx9 hb dL_law_1803 hl (by decide) rfl (fun ls hl => ?_)
  refine lv_aload_n hx9 hb dL_law_1805 rfl (lv_at hl 3 rfl) ?_
  refine lv_aload_n hx9 hb dL_law_1806 rfl (lv_at hl 1 rfl) ?_
  refine lv_iload hx9 hb dL_law_1807 (lv_at hl 5 rfl) ?_
  refine lv_iconst (v := 1) hx9 hb dL_law_1809 (by decide) ?_
  refine lv_iadd hx9 hb dL_law_1810 ?_
  refine va_sld hx9 hb hX hbl hbA w.2.2 hi1 dL_law_1811 ?_
  refine cm_iV C w (P2 u) (hK2 _) k_L_243 (rm_law hk2 (by decide)) hm2 rfl rfl rfl hl.1 rfl (Nat.le_of_ble_eq_true rfl) dL_law_1812 ⟨hc2, hs2⟩ (fun _ H locs w => ?_)
  refine lv_istore (lv' := [(6, .int bv), (5, .int kv), (0, .ref b), (1, .ref hx), (2, .ref hm), (3, .ref ho), (4, .int i4)]) hx9 hb dL_law_1815 hl (by decide) rfl (fun ls hl => ?_)
  refine lv_aload_n hx9 hb dL_law_1817 rfl (lv_at hl 4 rfl) ?_
  refine cm_iV C w (P3 u) (hK3 _) k_L_140 (rm_law (by decide) (by decide)) hm3 rfl rfl rfl hl.1 rfl (Nat.le_of_ble_eq_true rfl) dL_law_1818 ⟨hc2, hs2⟩ (fun _ H locs w => ?_)
  refine lv_iload hx9 hb dL_law_1821 (lv_at hl 1 rfl) ?_
  refine lv_icmp_eq (tgt := 1828) hx9 hb dL_law_1823 (by decide) (fun _ => ?_) (fun n => absurd heq n)
  refine lv_iload hx9 hb dL_law_1828 (lv_at hl 1 rfl) ?_
  refine lv_if_ne (tgt := 1845) hx9 hb dL_law_1830 (by decide) (fun n => ?_) (fun n => ?_)
  · refine lv_goto (tgt := 2724) hx9 hb dL_law_1845 (by decide) ?_
    exact kk u _ _ _ w (lv_sub hl [2, 3, 4, 5, 6] rfl)
  obtain ⟨fo, ho1, ho2⟩ := hval n u
  refine lv_aload_n hx9 hb dL_law_1833 rfl (lv_at hl 5 rfl) ?_
  refine lv_iconst (v := 0) hx9 hb dL_law_1834 (by decide) ?_
  refine lal_mem C w ho1 dL_law_1835 ?_
  refine lv_iload hx9 hb dL_law_1836 (lv_at hl 0 rfl) ?_
  refine lv_i2l (v := bv.toInt64) hx9 hb dL_law_1838 rfl ?_
  refine W.lcmp hx9 hb dL_law_1839 ?_
  refine lv_if_eq (tgt := 1845) hx9 hb dL_law_1840 (by decide) (fun _ => ?_) (fun n => absurd (by rw [ho2]; exact lg_cmp_self _) n)
  refine lv_goto (tgt := 2724) hx9 hb dL_law_1845 (by decide) ?_
  exact kk u _ _ _ w (lv_sub hl [2, 3, 4, 5, 6] rfl)

theorem q_1051 : Cond.methodLink RL 244 yL_balance ∈ TS := ts_t 1051 (by decide +kernel) (by decide +kernel)
theorem q_1052 : Cond.static yL_balance ∈ TS := ts_t 1052 (by decide +kernel) (by decide +kernel)
theorem q_1053 : Cond.codeWith yL_balance cL_balance 4 (some .int) [(0, 9, 12, 32)] ∈ TS := ts_t 1053 (by decide +kernel) (by decide +kernel)
theorem kk_L_244 : LkK RL 244 m_L_balance [(0, 9, 12, 32)] 3 := ⟨q_1051, q_1052, q_0, q_1053, by decide, by decide, by decide +kernel⟩
theorem q_1683 : Cond.code yX10_balance cX10_balance 2 (some .int) ∈ TS := ts_t 1683 (by decide +kernel) (by decide +kernel)
theorem q_1680 : Cond.methodLink RL 246 yX10_balance ∈ TS := ts_t 1680 (by decide +kernel) (by decide +kernel)
theorem q_1681 : Cond.instanceMethod yX10_balance ∈ TS := ts_t 1681 (by decide +kernel) (by decide +kernel)
theorem q_1682 : Cond.selects yX10_balance.cls yX10_balance yX10_balance ∈ TS := ts_t 1682 (by decide +kernel) (by decide +kernel)
theorem k_L_246 : LkV RL 246 m_X10_balance 1 := ⟨q_1680, q_1681, q_1682, ⟨q_11, q_1683, by decide, by decide, by decide +kernel⟩⟩
set_option maxHeartbeats 4000000 in
theorem lc_32 {p : Program} {l : Launch} {e : Env} {s : State} {m : MethodId} {args : Array Value} {below : List Frame} {meth : Method} {c : Code} {H : Heap} {locs : List Loc} {cells slots : Nat} {Q : State → Prop} {g : GT} {A : Nat → Prop} {ws : va_W} {ls : Array Slot} {b L : Nat} {xs : Nat → Int32} {i4 : Int32} {hx hm ho : Nat} {wc wd wd' we : va_W} {wc' wn1 wn2 : (Nat → Nat) → va_W} {k1 k2 mc1 ms1 : Nat} {kv bv tv : Int32} {fs1 fs2 fs3 : List Value} (X : Lx p s m args meth c g A b L xs i4) (w : Wd g A ws s.heap H locs) (hl : lv_has ls 7 [(0, .ref b), (1, .ref hx), (2, .ref hm), (3, .ref ho), (4, .int i4)]) (P1 : PM ws wc wc' wn1) (hK1 : ∀ sz, KI l m_L_balance [(0, 9, 12, 32)] (rml k1 mc1 ms1) g wc wc' sz [.ref hx, .int (xs (i4 + 1).toNatClampNeg), .ref ho] kv) (P2 : ∀ u, PM (wn1 u) wd (fun _ => wd') (fun _ => wn2 u)) (hK2 : ∀ sz, CI l m_X10_balance (rml k2 0 0) g wd (fun _ => wd') sz [.ref hm, .int (xs (i4 + 1).toNatClampNeg)] bv) (hm2 : (hm, .inr (10, fs2)) ∈ wd) (P3 : ∀ u, PM (wn2 u) we (fun _ => we) (fun _ => wn2 u)) (hK3 : ∀ sz, CI l m_X10_thrown (rml 0 0 0) g we (fun _ => we) sz [.ref hm] tv) (hm3 : (hm, .inr (10, fs3)) ∈ we) (heq : tv = kv) (hval : kv = 0 → ∀ u, ∃ fo : Nat → Int64, (ho, aJ g 1 fo) ∈ wn2 u ∧ fo 0 = bv.toInt64) (hk1 : k1 ≤ 100) (hk2 : k2 ≤ 100) (hc1 : cells + mc1 ≤ room_1.cells) (hs1 : slots + ms1 ≤ room_1.slots) (kk : ∀ (u : Nat → Nat) (H : Heap) (locs : List Loc) (ls : Array Slot), Wd g A (wn2 u) s.heap H locs → lv_has ls 7 [(0, .ref b), (1, .ref hx), (2, .ref hm), (3, .ref ho), (4, .int i4)] → W p l e room_1 s m args below meth c H locs (cells + mc1) (slots + ms1) Q (F0 m 2724 ls [])) : W p l e room_1 s m args below meth c H locs cells slots Q (F0 m 1848 ls []) := by
  obtain ⟨C, hX, hbl, hbA, hi1, hi2, hi3, hi4, hi5⟩ := X
  have hx9 := C.1
  have hb : c.code = cL_law := C.2.1
  have hc2 : cells + mc1 + 0 ≤ room_1.cells := hc1
  have hs2 : slots + ms1 + 0 ≤ room_1.slots := hs1
  refine lv_aload_n hx9 hb dL_law_1848 rfl (lv_at hl 1 rfl) ?_
  refine lv_aload_n hx9 hb dL_law_1849 rfl (lv_at hl 0 rfl) ?_
  refine lv_iload hx9 hb dL_law_1850 (lv_at hl 4 rfl) ?_
  refine lv_iconst (v := 1) hx9 hb dL_law_1852 (by decide) ?_
  refine lv_iadd hx9 hb dL_law_1853 ?_
  refine va_sld hx9 hb hX hbl hbA w.2.2 hi1 dL_law_1854 ?_
  refine lv_aload_n hx9 hb dL_law_1855 rfl (lv_at hl 3 rfl) ?_
  refine ck_iS C w P1 (hK1 _) kk_L_244 (rm_law hk1 (by decide)) rfl hl.1 rfl (Nat.le_of_ble_eq_true rfl) dL_law_1856 ⟨hc1, hs1⟩ (fun u H locs w => ?_)
  refine lv_istore (lv' := [(5, .int kv), (0, .ref b), (1, .ref hx), (2, .ref hm), (3, .ref ho), (4, .int i4)]) hx9 hb dL_law_1859 hl (by decide) rfl (fun ls hl => ?_)
  refine lv_aload_n hx9 hb dL_law_1861 rfl (lv_at hl 3 rfl) ?_
  refine lv_aload_n hx9 hb dL_law_1862 rfl (lv_at hl 1 rfl) ?_
  refine lv_iload hx9 hb dL_law_1863 (lv_at hl 5 rfl) ?_
  refine lv_iconst (v := 1) hx9 hb dL_law_1865 (by decide) ?_
  refine lv_iadd hx9 hb dL_law_1866 ?_
  refine va_sld hx9 hb hX hbl hbA w.2.2 hi1 dL_law_1867 ?_
  refine cm_iV C w (P2 u) (hK2 _) k_L_246 (rm_law hk2 (by decide)) hm2 rfl rfl rfl hl.1 rfl (Nat.le_of_ble_eq_true rfl) dL_law_1868 ⟨hc2, hs2⟩ (fun _ H locs w => ?_)
  refine lv_istore (lv' := [(6, .int bv), (5, .int kv), (0, .ref b), (1, .ref hx), (2, .ref hm), (3, .ref ho), (4, .int i4)]) hx9 hb dL_law_1871 hl (by decide) rfl (fun ls hl => ?_)
  refine lv_aload_n hx9 hb dL_law_1873 rfl (lv_at hl 4 rfl) ?_
  refine cm_iV C w (P3 u) (hK3 _) k_L_140 (rm_law (by decide) (by decide)) hm3 rfl rfl rfl hl.1 rfl (Nat.le_of_ble_eq_true rfl) dL_law_1874 ⟨hc2, hs2⟩ (fun _ H locs w => ?_)
  refine lv_iload hx9 hb dL_law_1877 (lv_at hl 1 rfl) ?_
  refine lv_icmp_eq (tgt := 1884) hx9 hb dL_law_1879 (by decide) (fun _ => ?_) (fun n => absurd heq n)
  refine lv_iload hx9 hb dL_law_1884 (lv_at hl 1 rfl) ?_
  refine lv_if_ne (tgt := 1901) hx9 hb dL_law_1886 (by decide) (fun n => ?_) (fun n => ?_)
  · refine lv_goto (tgt := 2724) hx9 hb dL_law_1901 (by decide) ?_
    exact kk u _ _ _ w (lv_sub hl [2, 3, 4, 5, 6] rfl)
  obtain ⟨fo, ho1, ho2⟩ := hval n u
  refine lv_aload_n hx9 hb dL_law_1889 rfl (lv_at hl 5 rfl) ?_
  refine lv_iconst (v := 0) hx9 hb dL_law_1890 (by decide) ?_
  refine lal_mem C w ho1 dL_law_1891 ?_
  refine lv_iload hx9 hb dL_law_1892 (lv_at hl 0 rfl) ?_
  refine lv_i2l (v := bv.toInt64) hx9 hb dL_law_1894 rfl ?_
  refine W.lcmp hx9 hb dL_law_1895 ?_
  refine lv_if_eq (tgt := 1901) hx9 hb dL_law_1896 (by decide) (fun _ => ?_) (fun n => absurd (by rw [ho2]; exact lg_cmp_self _) n)
  refine lv_goto (tgt := 2724) hx9 hb dL_law_1901 (by decide) ?_
  exact kk u _ _ _ w (lv_sub hl [2, 3, 4, 5, 6] rfl)


theorem q_460 : Cond.code yX9_outstanding cX9_outstanding 3 (some .int) ∈ TS := ts_t 460 (by decide +kernel) (by decide +kernel)
theorem q_457 : Cond.methodLink RL 247 yX9_outstanding ∈ TS := ts_t 457 (by decide +kernel) (by decide +kernel)
theorem q_458 : Cond.instanceMethod yX9_outstanding ∈ TS := ts_t 458 (by decide +kernel) (by decide +kernel)
theorem q_459 : Cond.selects yX9_outstanding.cls yX9_outstanding yX9_outstanding ∈ TS := ts_t 459 (by decide +kernel) (by decide +kernel)
theorem k_L_247 : LkV RL 247 m_X9_outstanding 0 := ⟨q_457, q_458, q_459, ⟨q_1, q_460, by decide, by decide, by decide +kernel⟩⟩
theorem q_1691 : Cond.code yX10_outstanding cX10_outstanding 3 (some .int) ∈ TS := ts_t 1691 (by decide +kernel) (by decide +kernel)
theorem q_1688 : Cond.methodLink RL 250 yX10_outstanding ∈ TS := ts_t 1688 (by decide +kernel) (by decide +kernel)
theorem q_1689 : Cond.instanceMethod yX10_outstanding ∈ TS := ts_t 1689 (by decide +kernel) (by decide +kernel)
theorem q_1690 : Cond.selects yX10_outstanding.cls yX10_outstanding yX10_outstanding ∈ TS := ts_t 1690 (by decide +kernel) (by decide +kernel)
theorem k_L_250 : LkV RL 250 m_X10_outstanding 0 := ⟨q_1688, q_1689, q_1690, ⟨q_11, q_1691, by decide, by decide, by decide +kernel⟩⟩
set_option maxHeartbeats 4000000 in
theorem lc_33 {p : Program} {l : Launch} {e : Env} {s : State} {m : MethodId} {args : Array Value} {below : List Frame} {meth : Method} {c : Code} {H : Heap} {locs : List Loc} {cells slots : Nat} {Q : State → Prop} {g : GT} {A : Nat → Prop} {ws : va_W} {ls : Array Slot} {b L : Nat} {xs : Nat → Int32} {i4 : Int32} {hx hm ho : Nat} {wc wd wd' we : va_W} {wc' wn1 wn2 : (Nat → Nat) → va_W} {k1 k2 mc1 ms1 : Nat} {kv bv tv : Int32} {fs1 fs2 fs3 : List Value} (X : Lx p s m args meth c g A b L xs i4) (w : Wd g A ws s.heap H locs) (hl : lv_has ls 7 [(0, .ref b), (1, .ref hx), (2, .ref hm), (3, .ref ho), (4, .int i4)]) (P1 : PM ws wc wc' wn1) (hK1 : ∀ sz, CI l m_X9_outstanding (rml k1 mc1 ms1) g wc wc' sz [.ref hx] kv) (hm1 : (hx, .inr (9, fs1)) ∈ wc) (P2 : ∀ u, PM (wn1 u) wd (fun _ => wd') (fun _ => wn2 u)) (hK2 : ∀ sz, CI l m_X10_outstanding (rml k2 0 0) g wd (fun _ => wd') sz [.ref hm] bv) (hm2 : (hm, .inr (10, fs2)) ∈ wd) (heq : kv = bv) (hk1 : k1 ≤ 100) (hk2 : k2 ≤ 100) (hc1 : cells + mc1 ≤ room_1.cells) (hs1 : slots + ms1 ≤ room_1.slots) (kk : ∀ (u : Nat → Nat) (H : Heap) (locs : List Loc) (ls : Array Slot), Wd g A (wn2 u) s.heap H locs → lv_has ls 7 [(0, .ref b), (1, .ref hx), (2, .ref hm), (3, .ref ho), (4, .int i4)] → W p l e room_1 s m args below meth c H locs (cells + mc1) (slots + ms1) Q (F0 m 2724 ls [])) : W p l e room_1 s m args below meth c H locs cells slots Q (F0 m 1904 ls []) := by
  obtain ⟨C, hX, hbl, hbA, hi1, hi2, hi3, hi4, hi5⟩ := X
  have hx9 := C.1
  have hb : c.code = cL_law := C.2.1
  have hc2 : cells + mc1 + 0 ≤ room_1.cells := hc1
  have hs2 : slots + ms1 + 0 ≤ room_1.slots := hs1
  refine lv_aload_n hx9 hb dL_law_1904 rfl (lv_at hl 1 rfl) ?_
  refine cm_iV C w P1 (hK1 _) k_L_247 (rm_law hk1 (by decide)) hm1 rfl rfl rfl hl.1 rfl (Nat.le_of_ble_eq_true rfl) dL_law_1905 ⟨hc1, hs1⟩ (fun u H locs w => ?_)
  refine lv_aload_n hx9 hb dL_law_1908 rfl (lv_at hl 2 rfl) ?_
  refine cm_iV C w (P2 u) (hK2 _) k_L_250 (rm_law hk2 (by decide)) hm2 rfl rfl rfl hl.1 rfl (Nat.le_of_ble_eq_true rfl) dL_law_1909 ⟨hc2, hs2⟩ (fun _ H locs w => ?_)
  refine lv_icmp_eq (tgt := 2724) hx9 hb dL_law_1912 (by decide) (fun _ => ?_) (fun n => absurd heq n)
  exact kk u _ _ _ w (lv_sub hl [0, 1, 2, 3, 4] rfl)

theorem q_1058 : Cond.methodLink RL 251 yL_readTag ∈ TS := ts_t 1058 (by decide +kernel) (by decide +kernel)
theorem q_1059 : Cond.static yL_readTag ∈ TS := ts_t 1059 (by decide +kernel) (by decide +kernel)
theorem q_1060 : Cond.codeWith yL_readTag cL_readTag 7 (some .int) [(0, 14, 17, 13), (0, 14, 21, 95)] ∈ TS := ts_t 1060 (by decide +kernel) (by decide +kernel)
theorem kk_L_251 : LkK RL 251 m_L_readTag [(0, 14, 17, 13), (0, 14, 21, 95)] 6 := ⟨q_1058, q_1059, q_0, q_1060, by decide, by decide, by decide +kernel⟩
theorem q_1695 : Cond.code yX10_readTag cX10_readTag 6 (some .int) ∈ TS := ts_t 1695 (by decide +kernel) (by decide +kernel)
theorem q_1692 : Cond.methodLink RL 253 yX10_readTag ∈ TS := ts_t 1692 (by decide +kernel) (by decide +kernel)
theorem q_1693 : Cond.instanceMethod yX10_readTag ∈ TS := ts_t 1693 (by decide +kernel) (by decide +kernel)
theorem q_1694 : Cond.selects yX10_readTag.cls yX10_readTag yX10_readTag ∈ TS := ts_t 1694 (by decide +kernel) (by decide +kernel)
theorem k_L_253 : LkV RL 253 m_X10_readTag 4 := ⟨q_1692, q_1693, q_1694, ⟨q_11, q_1695, by decide, by decide, by decide +kernel⟩⟩
set_option maxHeartbeats 4000000 in
theorem lc_34 {p : Program} {l : Launch} {e : Env} {s : State} {m : MethodId} {args : Array Value} {below : List Frame} {meth : Method} {c : Code} {H : Heap} {locs : List Loc} {cells slots : Nat} {Q : State → Prop} {g : GT} {A : Nat → Prop} {ws : va_W} {ls : Array Slot} {b L : Nat} {xs : Nat → Int32} {i4 : Int32} {hx hm ho : Nat} {wc wd wd' we : va_W} {wc' wn1 wn2 : (Nat → Nat) → va_W} {k1 k2 mc1 ms1 : Nat} {kv bv tv : Int32} {fs1 fs2 fs3 : List Value} (X : Lx p s m args meth c g A b L xs i4) (w : Wd g A ws s.heap H locs) (hl : lv_has ls 7 [(0, .ref b), (1, .ref hx), (2, .ref hm), (3, .ref ho), (4, .int i4)]) (P1 : PM ws wc wc' wn1) (hK1 : ∀ sz, KI l m_L_readTag [(0, 14, 17, 13), (0, 14, 21, 95)] (rml k1 mc1 ms1) g wc wc' sz [.ref hx, .int (xs (i4 + 1).toNatClampNeg), .int (xs (i4 + 2).toNatClampNeg), .int (xs (i4 + 3).toNatClampNeg), .int (xs (i4 + 4).toNatClampNeg), .ref ho] kv) (P2 : ∀ u, PM (wn1 u) wd (fun _ => wd') (fun _ => wn2 u)) (hK2 : ∀ sz, CI l m_X10_readTag (rml k2 0 0) g wd (fun _ => wd') sz [.ref hm, .int (xs (i4 + 1).toNatClampNeg), .int (xs (i4 + 2).toNatClampNeg), .int (xs (i4 + 3).toNatClampNeg), .int (xs (i4 + 4).toNatClampNeg)] bv) (hm2 : (hm, .inr (10, fs2)) ∈ wd) (P3 : ∀ u, PM (wn2 u) we (fun _ => we) (fun _ => wn2 u)) (hK3 : ∀ sz, CI l m_X10_thrown (rml 0 0 0) g we (fun _ => we) sz [.ref hm] tv) (hm3 : (hm, .inr (10, fs3)) ∈ we) (heq : tv = kv) (hval : kv = 0 → ∀ u, ∃ fo : Nat → Int64, (ho, aJ g 1 fo) ∈ wn2 u ∧ fo 0 = bv.toInt64) (hk1 : k1 ≤ 100) (hk2 : k2 ≤ 100) (hc1 : cells + mc1 ≤ room_1.cells) (hs1 : slots + ms1 ≤ room_1.slots) (kk : ∀ (u : Nat → Nat) (H : Heap) (locs : List Loc) (ls : Array Slot), Wd g A (wn2 u) s.heap H locs → lv_has ls 7 [(0, .ref b), (1, .ref hx), (2, .ref hm), (3, .ref ho), (4, .int i4)] → W p l e room_1 s m args below meth c H locs (cells + mc1) (slots + ms1) Q (F0 m 2724 ls [])) : W p l e room_1 s m args below meth c H locs cells slots Q (F0 m 1917 ls []) := by
  obtain ⟨C, hX, hbl, hbA, hi1, hi2, hi3, hi4, hi5⟩ := X
  have hx9 := C.1
  have hb : c.code = cL_law := C.2.1
  have hc2 : cells + mc1 + 0 ≤ room_1.cells := hc1
  have hs2 : slots + ms1 + 0 ≤ room_1.slots := hs1
  refine lv_aload_n hx9 hb dL_law_1917 rfl (lv_at hl 1 rfl) ?_
  refine lv_aload_n hx9 hb dL_law_1918 rfl (lv_at hl 0 rfl) ?_
  refine lv_iload hx9 hb dL_law_1919 (lv_at hl 4 rfl) ?_
  refine lv_iconst (v := 1) hx9 hb dL_law_1921 (by decide) ?_
  refine lv_iadd hx9 hb dL_law_1922 ?_
  refine va_sld hx9 hb hX hbl hbA w.2.2 hi1 dL_law_1923 ?_
  refine lv_aload_n hx9 hb dL_law_1924 rfl (lv_at hl 0 rfl) ?_
  refine lv_iload hx9 hb dL_law_1925 (lv_at hl 4 rfl) ?_
  refine lv_iconst (v := 2) hx9 hb dL_law_1927 (by decide) ?_
  refine lv_iadd hx9 hb dL_law_1928 ?_
  refine va_sld hx9 hb hX hbl hbA w.2.2 hi2 dL_law_1929 ?_
  refine lv_aload_n hx9 hb dL_law_1930 rfl (lv_at hl 0 rfl) ?_
  refine lv_iload hx9 hb dL_law_1931 (lv_at hl 4 rfl) ?_
  refine lv_iconst (v := 3) hx9 hb dL_law_1933 (by decide) ?_
  refine lv_iadd hx9 hb dL_law_1934 ?_
  refine va_sld hx9 hb hX hbl hbA w.2.2 hi3 dL_law_1935 ?_
  refine lv_aload_n hx9 hb dL_law_1936 rfl (lv_at hl 0 rfl) ?_
  refine lv_iload hx9 hb dL_law_1937 (lv_at hl 4 rfl) ?_
  refine lv_iconst (v := 4) hx9 hb dL_law_1939 (by decide) ?_
  refine lv_iadd hx9 hb dL_law_1940 ?_
  refine va_sld hx9 hb hX hbl hbA w.2.2 hi4 dL_law_1941 ?_
  refine lv_aload_n hx9 hb dL_law_1942 rfl (lv_at hl 3 rfl) ?_
  refine ck_iS C w P1 (hK1 _) kk_L_251 (rm_law hk1 (by decide)) rfl hl.1 rfl (Nat.le_of_ble_eq_true rfl) dL_law_1943 ⟨hc1, hs1⟩ (fun u H locs w => ?_)
  refine lv_istore (lv' := [(5, .int kv), (0, .ref b), (1, .ref hx), (2, .ref hm), (3, .ref ho), (4, .int i4)]) hx9 hb dL_law_1946 hl (by decide) rfl (fun ls hl => ?_)
  refine lv_aload_n hx9 hb dL_law_1948 rfl (lv_at hl 3 rfl) ?_
  refine lv_aload_n hx9 hb dL_law_1949 rfl (lv_at hl 1 rfl) ?_
  refine lv_iload hx9 hb dL_law_1950 (lv_at hl 5 rfl) ?_
  refine lv_iconst (v := 1) hx9 hb dL_law_1952 (by decide) ?_
  refine lv_iadd hx9 hb dL_law_1953 ?_
  refine va_sld hx9 hb hX hbl hbA w.2.2 hi1 dL_law_1954 ?_
  refine lv_aload_n hx9 hb dL_law_1955 rfl (lv_at hl 1 rfl) ?_
  refine lv_iload hx9 hb dL_law_1956 (lv_at hl 5 rfl) ?_
  refine lv_iconst (v := 2) hx9 hb dL_law_1958 (by decide) ?_
  refine lv_iadd hx9 hb dL_law_1959 ?_
  refine va_sld hx9 hb hX hbl hbA w.2.2 hi2 dL_law_1960 ?_
  refine lv_aload_n hx9 hb dL_law_1961 rfl (lv_at hl 1 rfl) ?_
  refine lv_iload hx9 hb dL_law_1962 (lv_at hl 5 rfl) ?_
  refine lv_iconst (v := 3) hx9 hb dL_law_1964 (by decide) ?_
  refine lv_iadd hx9 hb dL_law_1965 ?_
  refine va_sld hx9 hb hX hbl hbA w.2.2 hi3 dL_law_1966 ?_
  refine lv_aload_n hx9 hb dL_law_1967 rfl (lv_at hl 1 rfl) ?_
  refine lv_iload hx9 hb dL_law_1968 (lv_at hl 5 rfl) ?_
  refine lv_iconst (v := 4) hx9 hb dL_law_1970 (by decide) ?_
  refine lv_iadd hx9 hb dL_law_1971 ?_
  refine va_sld hx9 hb hX hbl hbA w.2.2 hi4 dL_law_1972 ?_
  refine cm_iV C w (P2 u) (hK2 _) k_L_253 (rm_law hk2 (by decide)) hm2 rfl rfl rfl hl.1 rfl (Nat.le_of_ble_eq_true rfl) dL_law_1973 ⟨hc2, hs2⟩ (fun _ H locs w => ?_)
  refine lv_istore (lv' := [(6, .int bv), (5, .int kv), (0, .ref b), (1, .ref hx), (2, .ref hm), (3, .ref ho), (4, .int i4)]) hx9 hb dL_law_1976 hl (by decide) rfl (fun ls hl => ?_)
  refine lv_aload_n hx9 hb dL_law_1978 rfl (lv_at hl 4 rfl) ?_
  refine cm_iV C w (P3 u) (hK3 _) k_L_140 (rm_law (by decide) (by decide)) hm3 rfl rfl rfl hl.1 rfl (Nat.le_of_ble_eq_true rfl) dL_law_1979 ⟨hc2, hs2⟩ (fun _ H locs w => ?_)
  refine lv_iload hx9 hb dL_law_1982 (lv_at hl 1 rfl) ?_
  refine lv_icmp_eq (tgt := 1989) hx9 hb dL_law_1984 (by decide) (fun _ => ?_) (fun n => absurd heq n)
  refine lv_iload hx9 hb dL_law_1989 (lv_at hl 1 rfl) ?_
  refine lv_if_ne (tgt := 2006) hx9 hb dL_law_1991 (by decide) (fun n => ?_) (fun n => ?_)
  · refine lv_goto (tgt := 2724) hx9 hb dL_law_2006 (by decide) ?_
    exact kk u _ _ _ w (lv_sub hl [2, 3, 4, 5, 6] rfl)
  obtain ⟨fo, ho1, ho2⟩ := hval n u
  refine lv_aload_n hx9 hb dL_law_1994 rfl (lv_at hl 5 rfl) ?_
  refine lv_iconst (v := 0) hx9 hb dL_law_1995 (by decide) ?_
  refine lal_mem C w ho1 dL_law_1996 ?_
  refine lv_iload hx9 hb dL_law_1997 (lv_at hl 0 rfl) ?_
  refine lv_i2l (v := bv.toInt64) hx9 hb dL_law_1999 rfl ?_
  refine W.lcmp hx9 hb dL_law_2000 ?_
  refine lv_if_eq (tgt := 2006) hx9 hb dL_law_2001 (by decide) (fun _ => ?_) (fun n => absurd (by rw [ho2]; exact lg_cmp_self _) n)
  refine lv_goto (tgt := 2724) hx9 hb dL_law_2006 (by decide) ?_
  exact kk u _ _ _ w (lv_sub hl [2, 3, 4, 5, 6] rfl)

theorem q_1109 : Cond.methodLink RL 254 yL_readPlate ∈ TS := ts_t 1109 (by decide +kernel) (by decide +kernel)
theorem q_1110 : Cond.static yL_readPlate ∈ TS := ts_t 1110 (by decide +kernel) (by decide +kernel)
theorem q_1111 : Cond.codeWith yL_readPlate cL_readPlate 8 (some .int) [(0, 16, 19, 13), (0, 16, 23, 95)] ∈ TS := ts_t 1111 (by decide +kernel) (by decide +kernel)
theorem kk_L_254 : LkK RL 254 m_L_readPlate [(0, 16, 19, 13), (0, 16, 23, 95)] 7 := ⟨q_1109, q_1110, q_0, q_1111, by decide, by decide, by decide +kernel⟩
theorem q_1720 : Cond.code yX10_readPlate cX10_readPlate 7 (some .int) ∈ TS := ts_t 1720 (by decide +kernel) (by decide +kernel)
theorem q_1717 : Cond.methodLink RL 257 yX10_readPlate ∈ TS := ts_t 1717 (by decide +kernel) (by decide +kernel)
theorem q_1718 : Cond.instanceMethod yX10_readPlate ∈ TS := ts_t 1718 (by decide +kernel) (by decide +kernel)
theorem q_1719 : Cond.selects yX10_readPlate.cls yX10_readPlate yX10_readPlate ∈ TS := ts_t 1719 (by decide +kernel) (by decide +kernel)
theorem k_L_257 : LkV RL 257 m_X10_readPlate 5 := ⟨q_1717, q_1718, q_1719, ⟨q_11, q_1720, by decide, by decide, by decide +kernel⟩⟩
set_option maxHeartbeats 4000000 in
theorem lc_35 {p : Program} {l : Launch} {e : Env} {s : State} {m : MethodId} {args : Array Value} {below : List Frame} {meth : Method} {c : Code} {H : Heap} {locs : List Loc} {cells slots : Nat} {Q : State → Prop} {g : GT} {A : Nat → Prop} {ws : va_W} {ls : Array Slot} {b L : Nat} {xs : Nat → Int32} {i4 : Int32} {hx hm ho : Nat} {wc wd wd' we : va_W} {wc' wn1 wn2 : (Nat → Nat) → va_W} {k1 k2 mc1 ms1 : Nat} {kv bv tv : Int32} {fs1 fs2 fs3 : List Value} (X : Lx p s m args meth c g A b L xs i4) (w : Wd g A ws s.heap H locs) (hl : lv_has ls 7 [(0, .ref b), (1, .ref hx), (2, .ref hm), (3, .ref ho), (4, .int i4)]) (P1 : PM ws wc wc' wn1) (hK1 : ∀ sz, KI l m_L_readPlate [(0, 16, 19, 13), (0, 16, 23, 95)] (rml k1 mc1 ms1) g wc wc' sz [.ref hx, .int (xs (i4 + 1).toNatClampNeg), .int (xs (i4 + 2).toNatClampNeg), .int (xs (i4 + 3).toNatClampNeg), .int (xs (i4 + 4).toNatClampNeg), .int (xs (i4 + 5).toNatClampNeg), .ref ho] kv) (P2 : ∀ u, PM (wn1 u) wd (fun _ => wd') (fun _ => wn2 u)) (hK2 : ∀ sz, CI l m_X10_readPlate (rml k2 0 0) g wd (fun _ => wd') sz [.ref hm, .int (xs (i4 + 1).toNatClampNeg), .int (xs (i4 + 2).toNatClampNeg), .int (xs (i4 + 3).toNatClampNeg), .int (xs (i4 + 4).toNatClampNeg), .int (xs (i4 + 5).toNatClampNeg)] bv) (hm2 : (hm, .inr (10, fs2)) ∈ wd) (P3 : ∀ u, PM (wn2 u) we (fun _ => we) (fun _ => wn2 u)) (hK3 : ∀ sz, CI l m_X10_thrown (rml 0 0 0) g we (fun _ => we) sz [.ref hm] tv) (hm3 : (hm, .inr (10, fs3)) ∈ we) (heq : tv = kv) (hval : kv = 0 → ∀ u, ∃ fo : Nat → Int64, (ho, aJ g 1 fo) ∈ wn2 u ∧ fo 0 = bv.toInt64) (hk1 : k1 ≤ 100) (hk2 : k2 ≤ 100) (hc1 : cells + mc1 ≤ room_1.cells) (hs1 : slots + ms1 ≤ room_1.slots) (kk : ∀ (u : Nat → Nat) (H : Heap) (locs : List Loc) (ls : Array Slot), Wd g A (wn2 u) s.heap H locs → lv_has ls 7 [(0, .ref b), (1, .ref hx), (2, .ref hm), (3, .ref ho), (4, .int i4)] → W p l e room_1 s m args below meth c H locs (cells + mc1) (slots + ms1) Q (F0 m 2724 ls [])) : W p l e room_1 s m args below meth c H locs cells slots Q (F0 m 2009 ls []) := by
  obtain ⟨C, hX, hbl, hbA, hi1, hi2, hi3, hi4, hi5⟩ := X
  have hx9 := C.1
  have hb : c.code = cL_law := C.2.1
  have hc2 : cells + mc1 + 0 ≤ room_1.cells := hc1
  have hs2 : slots + ms1 + 0 ≤ room_1.slots := hs1
  refine lv_aload_n hx9 hb dL_law_2009 rfl (lv_at hl 1 rfl) ?_
  refine lv_aload_n hx9 hb dL_law_2010 rfl (lv_at hl 0 rfl) ?_
  refine lv_iload hx9 hb dL_law_2011 (lv_at hl 4 rfl) ?_
  refine lv_iconst (v := 1) hx9 hb dL_law_2013 (by decide) ?_
  refine lv_iadd hx9 hb dL_law_2014 ?_
  refine va_sld hx9 hb hX hbl hbA w.2.2 hi1 dL_law_2015 ?_
  refine lv_aload_n hx9 hb dL_law_2016 rfl (lv_at hl 0 rfl) ?_
  refine lv_iload hx9 hb dL_law_2017 (lv_at hl 4 rfl) ?_
  refine lv_iconst (v := 2) hx9 hb dL_law_2019 (by decide) ?_
  refine lv_iadd hx9 hb dL_law_2020 ?_
  refine va_sld hx9 hb hX hbl hbA w.2.2 hi2 dL_law_2021 ?_
  refine lv_aload_n hx9 hb dL_law_2022 rfl (lv_at hl 0 rfl) ?_
  refine lv_iload hx9 hb dL_law_2023 (lv_at hl 4 rfl) ?_
  refine lv_iconst (v := 3) hx9 hb dL_law_2025 (by decide) ?_
  refine lv_iadd hx9 hb dL_law_2026 ?_
  refine va_sld hx9 hb hX hbl hbA w.2.2 hi3 dL_law_2027 ?_
  refine lv_aload_n hx9 hb dL_law_2028 rfl (lv_at hl 0 rfl) ?_
  refine lv_iload hx9 hb dL_law_2029 (lv_at hl 4 rfl) ?_
  refine lv_iconst (v := 4) hx9 hb dL_law_2031 (by decide) ?_
  refine lv_iadd hx9 hb dL_law_2032 ?_
  refine va_sld hx9 hb hX hbl hbA w.2.2 hi4 dL_law_2033 ?_
  refine lv_aload_n hx9 hb dL_law_2034 rfl (lv_at hl 0 rfl) ?_
  refine lv_iload hx9 hb dL_law_2035 (lv_at hl 4 rfl) ?_
  refine lv_iconst (v := 5) hx9 hb dL_law_2037 (by decide) ?_
  refine lv_iadd hx9 hb dL_law_2038 ?_
  refine va_sld hx9 hb hX hbl hbA w.2.2 hi5 dL_law_2039 ?_
  refine lv_aload_n hx9 hb dL_law_2040 rfl (lv_at hl 3 rfl) ?_
  refine ck_iS C w P1 (hK1 _) kk_L_254 (rm_law hk1 (by decide)) rfl hl.1 rfl (Nat.le_of_ble_eq_true rfl) dL_law_2041 ⟨hc1, hs1⟩ (fun u H locs w => ?_)
  refine lv_istore (lv' := [(5, .int kv), (0, .ref b), (1, .ref hx), (2, .ref hm), (3, .ref ho), (4, .int i4)]) hx9 hb dL_law_2044 hl (by decide) rfl (fun ls hl => ?_)
  refine lv_aload_n hx9 hb dL_law_2046 rfl (lv_at hl 3 rfl) ?_
  refine lv_aload_n hx9 hb dL_law_2047 rfl (lv_at hl 1 rfl) ?_
  refine lv_iload hx9 hb dL_law_2048 (lv_at hl 5 rfl) ?_
  refine lv_iconst (v := 1) hx9 hb dL_law_2050 (by decide) ?_
  refine lv_iadd hx9 hb dL_law_2051 ?_
  refine va_sld hx9 hb hX hbl hbA w.2.2 hi1 dL_law_2052 ?_
  refine lv_aload_n hx9 hb dL_law_2053 rfl (lv_at hl 1 rfl) ?_
  refine lv_iload hx9 hb dL_law_2054 (lv_at hl 5 rfl) ?_
  refine lv_iconst (v := 2) hx9 hb dL_law_2056 (by decide) ?_
  refine lv_iadd hx9 hb dL_law_2057 ?_
  refine va_sld hx9 hb hX hbl hbA w.2.2 hi2 dL_law_2058 ?_
  refine lv_aload_n hx9 hb dL_law_2059 rfl (lv_at hl 1 rfl) ?_
  refine lv_iload hx9 hb dL_law_2060 (lv_at hl 5 rfl) ?_
  refine lv_iconst (v := 3) hx9 hb dL_law_2062 (by decide) ?_
  refine lv_iadd hx9 hb dL_law_2063 ?_
  refine va_sld hx9 hb hX hbl hbA w.2.2 hi3 dL_law_2064 ?_
  refine lv_aload_n hx9 hb dL_law_2065 rfl (lv_at hl 1 rfl) ?_
  refine lv_iload hx9 hb dL_law_2066 (lv_at hl 5 rfl) ?_
  refine lv_iconst (v := 4) hx9 hb dL_law_2068 (by decide) ?_
  refine lv_iadd hx9 hb dL_law_2069 ?_
  refine va_sld hx9 hb hX hbl hbA w.2.2 hi4 dL_law_2070 ?_
  refine lv_aload_n hx9 hb dL_law_2071 rfl (lv_at hl 1 rfl) ?_
  refine lv_iload hx9 hb dL_law_2072 (lv_at hl 5 rfl) ?_
  refine lv_iconst (v := 5) hx9 hb dL_law_2074 (by decide) ?_
  refine lv_iadd hx9 hb dL_law_2075 ?_
  refine va_sld hx9 hb hX hbl hbA w.2.2 hi5 dL_law_2076 ?_
  refine cm_iV C w (P2 u) (hK2 _) k_L_257 (rm_law hk2 (by decide)) hm2 rfl rfl rfl hl.1 rfl (Nat.le_of_ble_eq_true rfl) dL_law_2077 ⟨hc2, hs2⟩ (fun _ H locs w => ?_)
  refine lv_istore (lv' := [(6, .int bv), (5, .int kv), (0, .ref b), (1, .ref hx), (2, .ref hm), (3, .ref ho), (4, .int i4)]) hx9 hb dL_law_2080 hl (by decide) rfl (fun ls hl => ?_)
  refine lv_aload_n hx9 hb dL_law_2082 rfl (lv_at hl 4 rfl) ?_
  refine cm_iV C w (P3 u) (hK3 _) k_L_140 (rm_law (by decide) (by decide)) hm3 rfl rfl rfl hl.1 rfl (Nat.le_of_ble_eq_true rfl) dL_law_2083 ⟨hc2, hs2⟩ (fun _ H locs w => ?_)
  refine lv_iload hx9 hb dL_law_2086 (lv_at hl 1 rfl) ?_
  refine lv_icmp_eq (tgt := 2093) hx9 hb dL_law_2088 (by decide) (fun _ => ?_) (fun n => absurd heq n)
  refine lv_iload hx9 hb dL_law_2093 (lv_at hl 1 rfl) ?_
  refine lv_if_ne (tgt := 2110) hx9 hb dL_law_2095 (by decide) (fun n => ?_) (fun n => ?_)
  · refine lv_goto (tgt := 2724) hx9 hb dL_law_2110 (by decide) ?_
    exact kk u _ _ _ w (lv_sub hl [2, 3, 4, 5, 6] rfl)
  obtain ⟨fo, ho1, ho2⟩ := hval n u
  refine lv_aload_n hx9 hb dL_law_2098 rfl (lv_at hl 5 rfl) ?_
  refine lv_iconst (v := 0) hx9 hb dL_law_2099 (by decide) ?_
  refine lal_mem C w ho1 dL_law_2100 ?_
  refine lv_iload hx9 hb dL_law_2101 (lv_at hl 0 rfl) ?_
  refine lv_i2l (v := bv.toInt64) hx9 hb dL_law_2103 rfl ?_
  refine W.lcmp hx9 hb dL_law_2104 ?_
  refine lv_if_eq (tgt := 2110) hx9 hb dL_law_2105 (by decide) (fun _ => ?_) (fun n => absurd (by rw [ho2]; exact lg_cmp_self _) n)
  refine lv_goto (tgt := 2724) hx9 hb dL_law_2110 (by decide) ?_
  exact kk u _ _ _ w (lv_sub hl [2, 3, 4, 5, 6] rfl)

theorem q_1126 : Cond.methodLink RL 258 yL_readAxles ∈ TS := ts_t 1126 (by decide +kernel) (by decide +kernel)
theorem q_1127 : Cond.static yL_readAxles ∈ TS := ts_t 1127 (by decide +kernel) (by decide +kernel)
theorem q_1128 : Cond.codeWith yL_readAxles cL_readAxles 7 (some .int) [(0, 14, 17, 13), (0, 14, 21, 95)] ∈ TS := ts_t 1128 (by decide +kernel) (by decide +kernel)
theorem kk_L_258 : LkK RL 258 m_L_readAxles [(0, 14, 17, 13), (0, 14, 21, 95)] 6 := ⟨q_1126, q_1127, q_0, q_1128, by decide, by decide, by decide +kernel⟩
theorem q_1729 : Cond.code yX10_readAxles cX10_readAxles 6 (some .int) ∈ TS := ts_t 1729 (by decide +kernel) (by decide +kernel)
theorem q_1726 : Cond.methodLink RL 260 yX10_readAxles ∈ TS := ts_t 1726 (by decide +kernel) (by decide +kernel)
theorem q_1727 : Cond.instanceMethod yX10_readAxles ∈ TS := ts_t 1727 (by decide +kernel) (by decide +kernel)
theorem q_1728 : Cond.selects yX10_readAxles.cls yX10_readAxles yX10_readAxles ∈ TS := ts_t 1728 (by decide +kernel) (by decide +kernel)
theorem k_L_260 : LkV RL 260 m_X10_readAxles 4 := ⟨q_1726, q_1727, q_1728, ⟨q_11, q_1729, by decide, by decide, by decide +kernel⟩⟩
set_option maxHeartbeats 4000000 in
theorem lc_36 {p : Program} {l : Launch} {e : Env} {s : State} {m : MethodId} {args : Array Value} {below : List Frame} {meth : Method} {c : Code} {H : Heap} {locs : List Loc} {cells slots : Nat} {Q : State → Prop} {g : GT} {A : Nat → Prop} {ws : va_W} {ls : Array Slot} {b L : Nat} {xs : Nat → Int32} {i4 : Int32} {hx hm ho : Nat} {wc wd wd' we : va_W} {wc' wn1 wn2 : (Nat → Nat) → va_W} {k1 k2 mc1 ms1 : Nat} {kv bv tv : Int32} {fs1 fs2 fs3 : List Value} (X : Lx p s m args meth c g A b L xs i4) (w : Wd g A ws s.heap H locs) (hl : lv_has ls 7 [(0, .ref b), (1, .ref hx), (2, .ref hm), (3, .ref ho), (4, .int i4)]) (P1 : PM ws wc wc' wn1) (hK1 : ∀ sz, KI l m_L_readAxles [(0, 14, 17, 13), (0, 14, 21, 95)] (rml k1 mc1 ms1) g wc wc' sz [.ref hx, .int (xs (i4 + 1).toNatClampNeg), .int (xs (i4 + 2).toNatClampNeg), .int (xs (i4 + 3).toNatClampNeg), .int (xs (i4 + 4).toNatClampNeg), .ref ho] kv) (P2 : ∀ u, PM (wn1 u) wd (fun _ => wd') (fun _ => wn2 u)) (hK2 : ∀ sz, CI l m_X10_readAxles (rml k2 0 0) g wd (fun _ => wd') sz [.ref hm, .int (xs (i4 + 1).toNatClampNeg), .int (xs (i4 + 2).toNatClampNeg), .int (xs (i4 + 3).toNatClampNeg), .int (xs (i4 + 4).toNatClampNeg)] bv) (hm2 : (hm, .inr (10, fs2)) ∈ wd) (P3 : ∀ u, PM (wn2 u) we (fun _ => we) (fun _ => wn2 u)) (hK3 : ∀ sz, CI l m_X10_thrown (rml 0 0 0) g we (fun _ => we) sz [.ref hm] tv) (hm3 : (hm, .inr (10, fs3)) ∈ we) (heq : tv = kv) (hval : kv = 0 → ∀ u, ∃ fo : Nat → Int64, (ho, aJ g 1 fo) ∈ wn2 u ∧ fo 0 = bv.toInt64) (hk1 : k1 ≤ 100) (hk2 : k2 ≤ 100) (hc1 : cells + mc1 ≤ room_1.cells) (hs1 : slots + ms1 ≤ room_1.slots) (kk : ∀ (u : Nat → Nat) (H : Heap) (locs : List Loc) (ls : Array Slot), Wd g A (wn2 u) s.heap H locs → lv_has ls 7 [(0, .ref b), (1, .ref hx), (2, .ref hm), (3, .ref ho), (4, .int i4)] → W p l e room_1 s m args below meth c H locs (cells + mc1) (slots + ms1) Q (F0 m 2724 ls [])) : W p l e room_1 s m args below meth c H locs cells slots Q (F0 m 2113 ls []) := by
  obtain ⟨C, hX, hbl, hbA, hi1, hi2, hi3, hi4, hi5⟩ := X
  have hx9 := C.1
  have hb : c.code = cL_law := C.2.1
  have hc2 : cells + mc1 + 0 ≤ room_1.cells := hc1
  have hs2 : slots + ms1 + 0 ≤ room_1.slots := hs1
  refine lv_aload_n hx9 hb dL_law_2113 rfl (lv_at hl 1 rfl) ?_
  refine lv_aload_n hx9 hb dL_law_2114 rfl (lv_at hl 0 rfl) ?_
  refine lv_iload hx9 hb dL_law_2115 (lv_at hl 4 rfl) ?_
  refine lv_iconst (v := 1) hx9 hb dL_law_2117 (by decide) ?_
  refine lv_iadd hx9 hb dL_law_2118 ?_
  refine va_sld hx9 hb hX hbl hbA w.2.2 hi1 dL_law_2119 ?_
  refine lv_aload_n hx9 hb dL_law_2120 rfl (lv_at hl 0 rfl) ?_
  refine lv_iload hx9 hb dL_law_2121 (lv_at hl 4 rfl) ?_
  refine lv_iconst (v := 2) hx9 hb dL_law_2123 (by decide) ?_
  refine lv_iadd hx9 hb dL_law_2124 ?_
  refine va_sld hx9 hb hX hbl hbA w.2.2 hi2 dL_law_2125 ?_
  refine lv_aload_n hx9 hb dL_law_2126 rfl (lv_at hl 0 rfl) ?_
  refine lv_iload hx9 hb dL_law_2127 (lv_at hl 4 rfl) ?_
  refine lv_iconst (v := 3) hx9 hb dL_law_2129 (by decide) ?_
  refine lv_iadd hx9 hb dL_law_2130 ?_
  refine va_sld hx9 hb hX hbl hbA w.2.2 hi3 dL_law_2131 ?_
  refine lv_aload_n hx9 hb dL_law_2132 rfl (lv_at hl 0 rfl) ?_
  refine lv_iload hx9 hb dL_law_2133 (lv_at hl 4 rfl) ?_
  refine lv_iconst (v := 4) hx9 hb dL_law_2135 (by decide) ?_
  refine lv_iadd hx9 hb dL_law_2136 ?_
  refine va_sld hx9 hb hX hbl hbA w.2.2 hi4 dL_law_2137 ?_
  refine lv_aload_n hx9 hb dL_law_2138 rfl (lv_at hl 3 rfl) ?_
  refine ck_iS C w P1 (hK1 _) kk_L_258 (rm_law hk1 (by decide)) rfl hl.1 rfl (Nat.le_of_ble_eq_true rfl) dL_law_2139 ⟨hc1, hs1⟩ (fun u H locs w => ?_)
  refine lv_istore (lv' := [(5, .int kv), (0, .ref b), (1, .ref hx), (2, .ref hm), (3, .ref ho), (4, .int i4)]) hx9 hb dL_law_2142 hl (by decide) rfl (fun ls hl => ?_)
  refine lv_aload_n hx9 hb dL_law_2144 rfl (lv_at hl 3 rfl) ?_
  refine lv_aload_n hx9 hb dL_law_2145 rfl (lv_at hl 1 rfl) ?_
  refine lv_iload hx9 hb dL_law_2146 (lv_at hl 5 rfl) ?_
  refine lv_iconst (v := 1) hx9 hb dL_law_2148 (by decide) ?_
  refine lv_iadd hx9 hb dL_law_2149 ?_
  refine va_sld hx9 hb hX hbl hbA w.2.2 hi1 dL_law_2150 ?_
  refine lv_aload_n hx9 hb dL_law_2151 rfl (lv_at hl 1 rfl) ?_
  refine lv_iload hx9 hb dL_law_2152 (lv_at hl 5 rfl) ?_
  refine lv_iconst (v := 2) hx9 hb dL_law_2154 (by decide) ?_
  refine lv_iadd hx9 hb dL_law_2155 ?_
  refine va_sld hx9 hb hX hbl hbA w.2.2 hi2 dL_law_2156 ?_
  refine lv_aload_n hx9 hb dL_law_2157 rfl (lv_at hl 1 rfl) ?_
  refine lv_iload hx9 hb dL_law_2158 (lv_at hl 5 rfl) ?_
  refine lv_iconst (v := 3) hx9 hb dL_law_2160 (by decide) ?_
  refine lv_iadd hx9 hb dL_law_2161 ?_
  refine va_sld hx9 hb hX hbl hbA w.2.2 hi3 dL_law_2162 ?_
  refine lv_aload_n hx9 hb dL_law_2163 rfl (lv_at hl 1 rfl) ?_
  refine lv_iload hx9 hb dL_law_2164 (lv_at hl 5 rfl) ?_
  refine lv_iconst (v := 4) hx9 hb dL_law_2166 (by decide) ?_
  refine lv_iadd hx9 hb dL_law_2167 ?_
  refine va_sld hx9 hb hX hbl hbA w.2.2 hi4 dL_law_2168 ?_
  refine cm_iV C w (P2 u) (hK2 _) k_L_260 (rm_law hk2 (by decide)) hm2 rfl rfl rfl hl.1 rfl (Nat.le_of_ble_eq_true rfl) dL_law_2169 ⟨hc2, hs2⟩ (fun _ H locs w => ?_)
  refine lv_istore (lv' := [(6, .int bv), (5, .int kv), (0, .ref b), (1, .ref hx), (2, .ref hm), (3, .ref ho), (4, .int i4)]) hx9 hb dL_law_2172 hl (by decide) rfl (fun ls hl => ?_)
  refine lv_aload_n hx9 hb dL_law_2174 rfl (lv_at hl 4 rfl) ?_
  refine cm_iV C w (P3 u) (hK3 _) k_L_140 (rm_law (by decide) (by decide)) hm3 rfl rfl rfl hl.1 rfl (Nat.le_of_ble_eq_true rfl) dL_law_2175 ⟨hc2, hs2⟩ (fun _ H locs w => ?_)
  refine lv_iload hx9 hb dL_law_2178 (lv_at hl 1 rfl) ?_
  refine lv_icmp_eq (tgt := 2185) hx9 hb dL_law_2180 (by decide) (fun _ => ?_) (fun n => absurd heq n)
  refine lv_iload hx9 hb dL_law_2185 (lv_at hl 1 rfl) ?_
  refine lv_if_ne (tgt := 2202) hx9 hb dL_law_2187 (by decide) (fun n => ?_) (fun n => ?_)
  · refine lv_goto (tgt := 2724) hx9 hb dL_law_2202 (by decide) ?_
    exact kk u _ _ _ w (lv_sub hl [2, 3, 4, 5, 6] rfl)
  obtain ⟨fo, ho1, ho2⟩ := hval n u
  refine lv_aload_n hx9 hb dL_law_2190 rfl (lv_at hl 5 rfl) ?_
  refine lv_iconst (v := 0) hx9 hb dL_law_2191 (by decide) ?_
  refine lal_mem C w ho1 dL_law_2192 ?_
  refine lv_iload hx9 hb dL_law_2193 (lv_at hl 0 rfl) ?_
  refine lv_i2l (v := bv.toInt64) hx9 hb dL_law_2195 rfl ?_
  refine W.lcmp hx9 hb dL_law_2196 ?_
  refine lv_if_eq (tgt := 2202) hx9 hb dL_law_2197 (by decide) (fun _ => ?_) (fun n => absurd (by rw [ho2]; exact lg_cmp_self _) n)
  refine lv_goto (tgt := 2724) hx9 hb dL_law_2202 (by decide) ?_
  exact kk u _ _ _ w (lv_sub hl [2, 3, 4, 5, 6] rfl)

theorem q_1137 : Cond.methodLink RL 261 yL_assignPlate ∈ TS := ts_t 1137 (by decide +kernel) (by decide +kernel)
theorem q_1138 : Cond.static yL_assignPlate ∈ TS := ts_t 1138 (by decide +kernel) (by decide +kernel)
theorem q_1139 : Cond.codeWith yL_assignPlate cL_assignPlate 5 (some .int) [(0, 10, 13, 32), (0, 10, 17, 13), (0, 10, 21, 95)] ∈ TS := ts_t 1139 (by decide +kernel) (by decide +kernel)
theorem kk_L_261 : LkK RL 261 m_L_assignPlate [(0, 10, 13, 32), (0, 10, 17, 13), (0, 10, 21, 95)] 4 := ⟨q_1137, q_1138, q_0, q_1139, by decide, by decide, by decide +kernel⟩
theorem q_1733 : Cond.code yX10_assignPlate cX10_assignPlate 3 (some .int) ∈ TS := ts_t 1733 (by decide +kernel) (by decide +kernel)
theorem q_1730 : Cond.methodLink RL 263 yX10_assignPlate ∈ TS := ts_t 1730 (by decide +kernel) (by decide +kernel)
theorem q_1731 : Cond.instanceMethod yX10_assignPlate ∈ TS := ts_t 1731 (by decide +kernel) (by decide +kernel)
theorem q_1732 : Cond.selects yX10_assignPlate.cls yX10_assignPlate yX10_assignPlate ∈ TS := ts_t 1732 (by decide +kernel) (by decide +kernel)
theorem k_L_263 : LkV RL 263 m_X10_assignPlate 2 := ⟨q_1730, q_1731, q_1732, ⟨q_11, q_1733, by decide, by decide, by decide +kernel⟩⟩
set_option maxHeartbeats 4000000 in
theorem lc_37 {p : Program} {l : Launch} {e : Env} {s : State} {m : MethodId} {args : Array Value} {below : List Frame} {meth : Method} {c : Code} {H : Heap} {locs : List Loc} {cells slots : Nat} {Q : State → Prop} {g : GT} {A : Nat → Prop} {ws : va_W} {ls : Array Slot} {b L : Nat} {xs : Nat → Int32} {i4 : Int32} {hx hm ho : Nat} {wc wd wd' we : va_W} {wc' wn1 wn2 : (Nat → Nat) → va_W} {k1 k2 mc1 ms1 : Nat} {kv bv tv : Int32} {fs1 fs2 fs3 : List Value} (X : Lx p s m args meth c g A b L xs i4) (w : Wd g A ws s.heap H locs) (hl : lv_has ls 7 [(0, .ref b), (1, .ref hx), (2, .ref hm), (3, .ref ho), (4, .int i4)]) (P1 : PM ws wc wc' wn1) (hK1 : ∀ sz, KI l m_L_assignPlate [(0, 10, 13, 32), (0, 10, 17, 13), (0, 10, 21, 95)] (rml k1 mc1 ms1) g wc wc' sz [.ref hx, .int (xs (i4 + 1).toNatClampNeg), .int (xs (i4 + 2).toNatClampNeg), .ref ho] kv) (P2 : ∀ u, PM (wn1 u) wd (fun _ => wd') (fun _ => wn2 u)) (hK2 : ∀ sz, CI l m_X10_assignPlate (rml k2 0 0) g wd (fun _ => wd') sz [.ref hm, .int (xs (i4 + 1).toNatClampNeg), .int (xs (i4 + 2).toNatClampNeg)] bv) (hm2 : (hm, .inr (10, fs2)) ∈ wd) (P3 : ∀ u, PM (wn2 u) we (fun _ => we) (fun _ => wn2 u)) (hK3 : ∀ sz, CI l m_X10_thrown (rml 0 0 0) g we (fun _ => we) sz [.ref hm] tv) (hm3 : (hm, .inr (10, fs3)) ∈ we) (heq : tv = kv) (hval : kv = 0 → ∀ u, ∃ fo : Nat → Int64, (ho, aJ g 1 fo) ∈ wn2 u ∧ fo 0 = bv.toInt64) (hk1 : k1 ≤ 100) (hk2 : k2 ≤ 100) (hc1 : cells + mc1 ≤ room_1.cells) (hs1 : slots + ms1 ≤ room_1.slots) (kk : ∀ (u : Nat → Nat) (H : Heap) (locs : List Loc) (ls : Array Slot), Wd g A (wn2 u) s.heap H locs → lv_has ls 7 [(0, .ref b), (1, .ref hx), (2, .ref hm), (3, .ref ho), (4, .int i4)] → W p l e room_1 s m args below meth c H locs (cells + mc1) (slots + ms1) Q (F0 m 2724 ls [])) : W p l e room_1 s m args below meth c H locs cells slots Q (F0 m 2205 ls []) := by
  obtain ⟨C, hX, hbl, hbA, hi1, hi2, hi3, hi4, hi5⟩ := X
  have hx9 := C.1
  have hb : c.code = cL_law := C.2.1
  have hc2 : cells + mc1 + 0 ≤ room_1.cells := hc1
  have hs2 : slots + ms1 + 0 ≤ room_1.slots := hs1
  refine lv_aload_n hx9 hb dL_law_2205 rfl (lv_at hl 1 rfl) ?_
  refine lv_aload_n hx9 hb dL_law_2206 rfl (lv_at hl 0 rfl) ?_
  refine lv_iload hx9 hb dL_law_2207 (lv_at hl 4 rfl) ?_
  refine lv_iconst (v := 1) hx9 hb dL_law_2209 (by decide) ?_
  refine lv_iadd hx9 hb dL_law_2210 ?_
  refine va_sld hx9 hb hX hbl hbA w.2.2 hi1 dL_law_2211 ?_
  refine lv_aload_n hx9 hb dL_law_2212 rfl (lv_at hl 0 rfl) ?_
  refine lv_iload hx9 hb dL_law_2213 (lv_at hl 4 rfl) ?_
  refine lv_iconst (v := 2) hx9 hb dL_law_2215 (by decide) ?_
  refine lv_iadd hx9 hb dL_law_2216 ?_
  refine va_sld hx9 hb hX hbl hbA w.2.2 hi2 dL_law_2217 ?_
  refine lv_aload_n hx9 hb dL_law_2218 rfl (lv_at hl 3 rfl) ?_
  refine ck_iS C w P1 (hK1 _) kk_L_261 (rm_law hk1 (by decide)) rfl hl.1 rfl (Nat.le_of_ble_eq_true rfl) dL_law_2219 ⟨hc1, hs1⟩ (fun u H locs w => ?_)
  refine lv_istore (lv' := [(5, .int kv), (0, .ref b), (1, .ref hx), (2, .ref hm), (3, .ref ho), (4, .int i4)]) hx9 hb dL_law_2222 hl (by decide) rfl (fun ls hl => ?_)
  refine lv_aload_n hx9 hb dL_law_2224 rfl (lv_at hl 3 rfl) ?_
  refine lv_aload_n hx9 hb dL_law_2225 rfl (lv_at hl 1 rfl) ?_
  refine lv_iload hx9 hb dL_law_2226 (lv_at hl 5 rfl) ?_
  refine lv_iconst (v := 1) hx9 hb dL_law_2228 (by decide) ?_
  refine lv_iadd hx9 hb dL_law_2229 ?_
  refine va_sld hx9 hb hX hbl hbA w.2.2 hi1 dL_law_2230 ?_
  refine lv_aload_n hx9 hb dL_law_2231 rfl (lv_at hl 1 rfl) ?_
  refine lv_iload hx9 hb dL_law_2232 (lv_at hl 5 rfl) ?_
  refine lv_iconst (v := 2) hx9 hb dL_law_2234 (by decide) ?_
  refine lv_iadd hx9 hb dL_law_2235 ?_
  refine va_sld hx9 hb hX hbl hbA w.2.2 hi2 dL_law_2236 ?_
  refine cm_iV C w (P2 u) (hK2 _) k_L_263 (rm_law hk2 (by decide)) hm2 rfl rfl rfl hl.1 rfl (Nat.le_of_ble_eq_true rfl) dL_law_2237 ⟨hc2, hs2⟩ (fun _ H locs w => ?_)
  refine lv_istore (lv' := [(6, .int bv), (5, .int kv), (0, .ref b), (1, .ref hx), (2, .ref hm), (3, .ref ho), (4, .int i4)]) hx9 hb dL_law_2240 hl (by decide) rfl (fun ls hl => ?_)
  refine lv_aload_n hx9 hb dL_law_2242 rfl (lv_at hl 4 rfl) ?_
  refine cm_iV C w (P3 u) (hK3 _) k_L_140 (rm_law (by decide) (by decide)) hm3 rfl rfl rfl hl.1 rfl (Nat.le_of_ble_eq_true rfl) dL_law_2243 ⟨hc2, hs2⟩ (fun _ H locs w => ?_)
  refine lv_iload hx9 hb dL_law_2246 (lv_at hl 1 rfl) ?_
  refine lv_icmp_eq (tgt := 2253) hx9 hb dL_law_2248 (by decide) (fun _ => ?_) (fun n => absurd heq n)
  refine lv_iload hx9 hb dL_law_2253 (lv_at hl 1 rfl) ?_
  refine lv_if_ne (tgt := 2270) hx9 hb dL_law_2255 (by decide) (fun n => ?_) (fun n => ?_)
  · refine lv_goto (tgt := 2724) hx9 hb dL_law_2270 (by decide) ?_
    exact kk u _ _ _ w (lv_sub hl [2, 3, 4, 5, 6] rfl)
  obtain ⟨fo, ho1, ho2⟩ := hval n u
  refine lv_aload_n hx9 hb dL_law_2258 rfl (lv_at hl 5 rfl) ?_
  refine lv_iconst (v := 0) hx9 hb dL_law_2259 (by decide) ?_
  refine lal_mem C w ho1 dL_law_2260 ?_
  refine lv_iload hx9 hb dL_law_2261 (lv_at hl 0 rfl) ?_
  refine lv_i2l (v := bv.toInt64) hx9 hb dL_law_2263 rfl ?_
  refine W.lcmp hx9 hb dL_law_2264 ?_
  refine lv_if_eq (tgt := 2270) hx9 hb dL_law_2265 (by decide) (fun _ => ?_) (fun n => absurd (by rw [ho2]; exact lg_cmp_self _) n)
  refine lv_goto (tgt := 2724) hx9 hb dL_law_2270 (by decide) ?_
  exact kk u _ _ _ w (lv_sub hl [2, 3, 4, 5, 6] rfl)

theorem q_1149 : Cond.methodLink RL 264 yL_assignAxles ∈ TS := ts_t 1149 (by decide +kernel) (by decide +kernel)
theorem q_1150 : Cond.static yL_assignAxles ∈ TS := ts_t 1150 (by decide +kernel) (by decide +kernel)
theorem q_1151 : Cond.codeWith yL_assignAxles cL_assignAxles 5 (some .int) [(0, 10, 13, 32), (0, 10, 17, 13), (0, 10, 21, 95)] ∈ TS := ts_t 1151 (by decide +kernel) (by decide +kernel)
theorem kk_L_264 : LkK RL 264 m_L_assignAxles [(0, 10, 13, 32), (0, 10, 17, 13), (0, 10, 21, 95)] 4 := ⟨q_1149, q_1150, q_0, q_1151, by decide, by decide, by decide +kernel⟩
theorem q_1741 : Cond.code yX10_assignAxles cX10_assignAxles 3 (some .int) ∈ TS := ts_t 1741 (by decide +kernel) (by decide +kernel)
theorem q_1738 : Cond.methodLink RL 266 yX10_assignAxles ∈ TS := ts_t 1738 (by decide +kernel) (by decide +kernel)
theorem q_1739 : Cond.instanceMethod yX10_assignAxles ∈ TS := ts_t 1739 (by decide +kernel) (by decide +kernel)
theorem q_1740 : Cond.selects yX10_assignAxles.cls yX10_assignAxles yX10_assignAxles ∈ TS := ts_t 1740 (by decide +kernel) (by decide +kernel)
theorem k_L_266 : LkV RL 266 m_X10_assignAxles 2 := ⟨q_1738, q_1739, q_1740, ⟨q_11, q_1741, by decide, by decide, by decide +kernel⟩⟩
set_option maxHeartbeats 4000000 in
theorem lc_38 {p : Program} {l : Launch} {e : Env} {s : State} {m : MethodId} {args : Array Value} {below : List Frame} {meth : Method} {c : Code} {H : Heap} {locs : List Loc} {cells slots : Nat} {Q : State → Prop} {g : GT} {A : Nat → Prop} {ws : va_W} {ls : Array Slot} {b L : Nat} {xs : Nat → Int32} {i4 : Int32} {hx hm ho : Nat} {wc wd wd' we : va_W} {wc' wn1 wn2 : (Nat → Nat) → va_W} {k1 k2 mc1 ms1 : Nat} {kv bv tv : Int32} {fs1 fs2 fs3 : List Value} (X : Lx p s m args meth c g A b L xs i4) (w : Wd g A ws s.heap H locs) (hl : lv_has ls 7 [(0, .ref b), (1, .ref hx), (2, .ref hm), (3, .ref ho), (4, .int i4)]) (P1 : PM ws wc wc' wn1) (hK1 : ∀ sz, KI l m_L_assignAxles [(0, 10, 13, 32), (0, 10, 17, 13), (0, 10, 21, 95)] (rml k1 mc1 ms1) g wc wc' sz [.ref hx, .int (xs (i4 + 1).toNatClampNeg), .int (xs (i4 + 2).toNatClampNeg), .ref ho] kv) (P2 : ∀ u, PM (wn1 u) wd (fun _ => wd') (fun _ => wn2 u)) (hK2 : ∀ sz, CI l m_X10_assignAxles (rml k2 0 0) g wd (fun _ => wd') sz [.ref hm, .int (xs (i4 + 1).toNatClampNeg), .int (xs (i4 + 2).toNatClampNeg)] bv) (hm2 : (hm, .inr (10, fs2)) ∈ wd) (P3 : ∀ u, PM (wn2 u) we (fun _ => we) (fun _ => wn2 u)) (hK3 : ∀ sz, CI l m_X10_thrown (rml 0 0 0) g we (fun _ => we) sz [.ref hm] tv) (hm3 : (hm, .inr (10, fs3)) ∈ we) (heq : tv = kv) (hval : kv = 0 → ∀ u, ∃ fo : Nat → Int64, (ho, aJ g 1 fo) ∈ wn2 u ∧ fo 0 = bv.toInt64) (hk1 : k1 ≤ 100) (hk2 : k2 ≤ 100) (hc1 : cells + mc1 ≤ room_1.cells) (hs1 : slots + ms1 ≤ room_1.slots) (kk : ∀ (u : Nat → Nat) (H : Heap) (locs : List Loc) (ls : Array Slot), Wd g A (wn2 u) s.heap H locs → lv_has ls 7 [(0, .ref b), (1, .ref hx), (2, .ref hm), (3, .ref ho), (4, .int i4)] → W p l e room_1 s m args below meth c H locs (cells + mc1) (slots + ms1) Q (F0 m 2724 ls [])) : W p l e room_1 s m args below meth c H locs cells slots Q (F0 m 2273 ls []) := by
  obtain ⟨C, hX, hbl, hbA, hi1, hi2, hi3, hi4, hi5⟩ := X
  have hx9 := C.1
  have hb : c.code = cL_law := C.2.1
  have hc2 : cells + mc1 + 0 ≤ room_1.cells := hc1
  have hs2 : slots + ms1 + 0 ≤ room_1.slots := hs1
  refine lv_aload_n hx9 hb dL_law_2273 rfl (lv_at hl 1 rfl) ?_
  refine lv_aload_n hx9 hb dL_law_2274 rfl (lv_at hl 0 rfl) ?_
  refine lv_iload hx9 hb dL_law_2275 (lv_at hl 4 rfl) ?_
  refine lv_iconst (v := 1) hx9 hb dL_law_2277 (by decide) ?_
  refine lv_iadd hx9 hb dL_law_2278 ?_
  refine va_sld hx9 hb hX hbl hbA w.2.2 hi1 dL_law_2279 ?_
  refine lv_aload_n hx9 hb dL_law_2280 rfl (lv_at hl 0 rfl) ?_
  refine lv_iload hx9 hb dL_law_2281 (lv_at hl 4 rfl) ?_
  refine lv_iconst (v := 2) hx9 hb dL_law_2283 (by decide) ?_
  refine lv_iadd hx9 hb dL_law_2284 ?_
  refine va_sld hx9 hb hX hbl hbA w.2.2 hi2 dL_law_2285 ?_
  refine lv_aload_n hx9 hb dL_law_2286 rfl (lv_at hl 3 rfl) ?_
  refine ck_iS C w P1 (hK1 _) kk_L_264 (rm_law hk1 (by decide)) rfl hl.1 rfl (Nat.le_of_ble_eq_true rfl) dL_law_2287 ⟨hc1, hs1⟩ (fun u H locs w => ?_)
  refine lv_istore (lv' := [(5, .int kv), (0, .ref b), (1, .ref hx), (2, .ref hm), (3, .ref ho), (4, .int i4)]) hx9 hb dL_law_2290 hl (by decide) rfl (fun ls hl => ?_)
  refine lv_aload_n hx9 hb dL_law_2292 rfl (lv_at hl 3 rfl) ?_
  refine lv_aload_n hx9 hb dL_law_2293 rfl (lv_at hl 1 rfl) ?_
  refine lv_iload hx9 hb dL_law_2294 (lv_at hl 5 rfl) ?_
  refine lv_iconst (v := 1) hx9 hb dL_law_2296 (by decide) ?_
  refine lv_iadd hx9 hb dL_law_2297 ?_
  refine va_sld hx9 hb hX hbl hbA w.2.2 hi1 dL_law_2298 ?_
  refine lv_aload_n hx9 hb dL_law_2299 rfl (lv_at hl 1 rfl) ?_
  refine lv_iload hx9 hb dL_law_2300 (lv_at hl 5 rfl) ?_
  refine lv_iconst (v := 2) hx9 hb dL_law_2302 (by decide) ?_
  refine lv_iadd hx9 hb dL_law_2303 ?_
  refine va_sld hx9 hb hX hbl hbA w.2.2 hi2 dL_law_2304 ?_
  refine cm_iV C w (P2 u) (hK2 _) k_L_266 (rm_law hk2 (by decide)) hm2 rfl rfl rfl hl.1 rfl (Nat.le_of_ble_eq_true rfl) dL_law_2305 ⟨hc2, hs2⟩ (fun _ H locs w => ?_)
  refine lv_istore (lv' := [(6, .int bv), (5, .int kv), (0, .ref b), (1, .ref hx), (2, .ref hm), (3, .ref ho), (4, .int i4)]) hx9 hb dL_law_2308 hl (by decide) rfl (fun ls hl => ?_)
  refine lv_aload_n hx9 hb dL_law_2310 rfl (lv_at hl 4 rfl) ?_
  refine cm_iV C w (P3 u) (hK3 _) k_L_140 (rm_law (by decide) (by decide)) hm3 rfl rfl rfl hl.1 rfl (Nat.le_of_ble_eq_true rfl) dL_law_2311 ⟨hc2, hs2⟩ (fun _ H locs w => ?_)
  refine lv_iload hx9 hb dL_law_2314 (lv_at hl 1 rfl) ?_
  refine lv_icmp_eq (tgt := 2321) hx9 hb dL_law_2316 (by decide) (fun _ => ?_) (fun n => absurd heq n)
  refine lv_iload hx9 hb dL_law_2321 (lv_at hl 1 rfl) ?_
  refine lv_if_ne (tgt := 2338) hx9 hb dL_law_2323 (by decide) (fun n => ?_) (fun n => ?_)
  · refine lv_goto (tgt := 2724) hx9 hb dL_law_2338 (by decide) ?_
    exact kk u _ _ _ w (lv_sub hl [2, 3, 4, 5, 6] rfl)
  obtain ⟨fo, ho1, ho2⟩ := hval n u
  refine lv_aload_n hx9 hb dL_law_2326 rfl (lv_at hl 5 rfl) ?_
  refine lv_iconst (v := 0) hx9 hb dL_law_2327 (by decide) ?_
  refine lal_mem C w ho1 dL_law_2328 ?_
  refine lv_iload hx9 hb dL_law_2329 (lv_at hl 0 rfl) ?_
  refine lv_i2l (v := bv.toInt64) hx9 hb dL_law_2331 rfl ?_
  refine W.lcmp hx9 hb dL_law_2332 ?_
  refine lv_if_eq (tgt := 2338) hx9 hb dL_law_2333 (by decide) (fun _ => ?_) (fun n => absurd (by rw [ho2]; exact lg_cmp_self _) n)
  refine lv_goto (tgt := 2724) hx9 hb dL_law_2338 (by decide) ?_
  exact kk u _ _ _ w (lv_sub hl [2, 3, 4, 5, 6] rfl)

theorem q_1156 : Cond.methodLink RL 267 yL_dismiss ∈ TS := ts_t 1156 (by decide +kernel) (by decide +kernel)
theorem q_1157 : Cond.static yL_dismiss ∈ TS := ts_t 1157 (by decide +kernel) (by decide +kernel)
theorem q_1158 : Cond.codeWith yL_dismiss cL_dismiss 4 (some .int) [(0, 9, 12, 32), (0, 9, 15, 95)] ∈ TS := ts_t 1158 (by decide +kernel) (by decide +kernel)
theorem kk_L_267 : LkK RL 267 m_L_dismiss [(0, 9, 12, 32), (0, 9, 15, 95)] 3 := ⟨q_1156, q_1157, q_0, q_1158, by decide, by decide, by decide +kernel⟩
theorem q_1745 : Cond.code yX10_dismiss cX10_dismiss 2 (some .int) ∈ TS := ts_t 1745 (by decide +kernel) (by decide +kernel)
theorem q_1742 : Cond.methodLink RL 269 yX10_dismiss ∈ TS := ts_t 1742 (by decide +kernel) (by decide +kernel)
theorem q_1743 : Cond.instanceMethod yX10_dismiss ∈ TS := ts_t 1743 (by decide +kernel) (by decide +kernel)
theorem q_1744 : Cond.selects yX10_dismiss.cls yX10_dismiss yX10_dismiss ∈ TS := ts_t 1744 (by decide +kernel) (by decide +kernel)
theorem k_L_269 : LkV RL 269 m_X10_dismiss 1 := ⟨q_1742, q_1743, q_1744, ⟨q_11, q_1745, by decide, by decide, by decide +kernel⟩⟩
set_option maxHeartbeats 4000000 in
theorem lc_39 {p : Program} {l : Launch} {e : Env} {s : State} {m : MethodId} {args : Array Value} {below : List Frame} {meth : Method} {c : Code} {H : Heap} {locs : List Loc} {cells slots : Nat} {Q : State → Prop} {g : GT} {A : Nat → Prop} {ws : va_W} {ls : Array Slot} {b L : Nat} {xs : Nat → Int32} {i4 : Int32} {hx hm ho : Nat} {wc wd wd' we : va_W} {wc' wn1 wn2 : (Nat → Nat) → va_W} {k1 k2 mc1 ms1 : Nat} {kv bv tv : Int32} {fs1 fs2 fs3 : List Value} (X : Lx p s m args meth c g A b L xs i4) (w : Wd g A ws s.heap H locs) (hl : lv_has ls 7 [(0, .ref b), (1, .ref hx), (2, .ref hm), (3, .ref ho), (4, .int i4)]) (P1 : PM ws wc wc' wn1) (hK1 : ∀ sz, KI l m_L_dismiss [(0, 9, 12, 32), (0, 9, 15, 95)] (rml k1 mc1 ms1) g wc wc' sz [.ref hx, .int (xs (i4 + 1).toNatClampNeg), .ref ho] kv) (P2 : ∀ u, PM (wn1 u) wd (fun _ => wd') (fun _ => wn2 u)) (hK2 : ∀ sz, CI l m_X10_dismiss (rml k2 0 0) g wd (fun _ => wd') sz [.ref hm, .int (xs (i4 + 1).toNatClampNeg)] bv) (hm2 : (hm, .inr (10, fs2)) ∈ wd) (P3 : ∀ u, PM (wn2 u) we (fun _ => we) (fun _ => wn2 u)) (hK3 : ∀ sz, CI l m_X10_thrown (rml 0 0 0) g we (fun _ => we) sz [.ref hm] tv) (hm3 : (hm, .inr (10, fs3)) ∈ we) (heq : tv = kv) (hval : kv = 0 → ∀ u, ∃ fo : Nat → Int64, (ho, aJ g 1 fo) ∈ wn2 u ∧ fo 0 = bv.toInt64) (hk1 : k1 ≤ 100) (hk2 : k2 ≤ 100) (hc1 : cells + mc1 ≤ room_1.cells) (hs1 : slots + ms1 ≤ room_1.slots) (kk : ∀ (u : Nat → Nat) (H : Heap) (locs : List Loc) (ls : Array Slot), Wd g A (wn2 u) s.heap H locs → lv_has ls 7 [(0, .ref b), (1, .ref hx), (2, .ref hm), (3, .ref ho), (4, .int i4)] → W p l e room_1 s m args below meth c H locs (cells + mc1) (slots + ms1) Q (F0 m 2724 ls [])) : W p l e room_1 s m args below meth c H locs cells slots Q (F0 m 2341 ls []) := by
  obtain ⟨C, hX, hbl, hbA, hi1, hi2, hi3, hi4, hi5⟩ := X
  have hx9 := C.1
  have hb : c.code = cL_law := C.2.1
  have hc2 : cells + mc1 + 0 ≤ room_1.cells := hc1
  have hs2 : slots + ms1 + 0 ≤ room_1.slots := hs1
  refine lv_aload_n hx9 hb dL_law_2341 rfl (lv_at hl 1 rfl) ?_
  refine lv_aload_n hx9 hb dL_law_2342 rfl (lv_at hl 0 rfl) ?_
  refine lv_iload hx9 hb dL_law_2343 (lv_at hl 4 rfl) ?_
  refine lv_iconst (v := 1) hx9 hb dL_law_2345 (by decide) ?_
  refine lv_iadd hx9 hb dL_law_2346 ?_
  refine va_sld hx9 hb hX hbl hbA w.2.2 hi1 dL_law_2347 ?_
  refine lv_aload_n hx9 hb dL_law_2348 rfl (lv_at hl 3 rfl) ?_
  refine ck_iS C w P1 (hK1 _) kk_L_267 (rm_law hk1 (by decide)) rfl hl.1 rfl (Nat.le_of_ble_eq_true rfl) dL_law_2349 ⟨hc1, hs1⟩ (fun u H locs w => ?_)
  refine lv_istore (lv' := [(5, .int kv), (0, .ref b), (1, .ref hx), (2, .ref hm), (3, .ref ho), (4, .int i4)]) hx9 hb dL_law_2352 hl (by decide) rfl (fun ls hl => ?_)
  refine lv_aload_n hx9 hb dL_law_2354 rfl (lv_at hl 3 rfl) ?_
  refine lv_aload_n hx9 hb dL_law_2355 rfl (lv_at hl 1 rfl) ?_
  refine lv_iload hx9 hb dL_law_2356 (lv_at hl 5 rfl) ?_
  refine lv_iconst (v := 1) hx9 hb dL_law_2358 (by decide) ?_
  refine lv_iadd hx9 hb dL_law_2359 ?_
  refine va_sld hx9 hb hX hbl hbA w.2.2 hi1 dL_law_2360 ?_
  refine cm_iV C w (P2 u) (hK2 _) k_L_269 (rm_law hk2 (by decide)) hm2 rfl rfl rfl hl.1 rfl (Nat.le_of_ble_eq_true rfl) dL_law_2361 ⟨hc2, hs2⟩ (fun _ H locs w => ?_)
  refine lv_istore (lv' := [(6, .int bv), (5, .int kv), (0, .ref b), (1, .ref hx), (2, .ref hm), (3, .ref ho), (4, .int i4)]) hx9 hb dL_law_2364 hl (by decide) rfl (fun ls hl => ?_)
  refine lv_aload_n hx9 hb dL_law_2366 rfl (lv_at hl 4 rfl) ?_
  refine cm_iV C w (P3 u) (hK3 _) k_L_140 (rm_law (by decide) (by decide)) hm3 rfl rfl rfl hl.1 rfl (Nat.le_of_ble_eq_true rfl) dL_law_2367 ⟨hc2, hs2⟩ (fun _ H locs w => ?_)
  refine lv_iload hx9 hb dL_law_2370 (lv_at hl 1 rfl) ?_
  refine lv_icmp_eq (tgt := 2377) hx9 hb dL_law_2372 (by decide) (fun _ => ?_) (fun n => absurd heq n)
  refine lv_iload hx9 hb dL_law_2377 (lv_at hl 1 rfl) ?_
  refine lv_if_ne (tgt := 2394) hx9 hb dL_law_2379 (by decide) (fun n => ?_) (fun n => ?_)
  · refine lv_goto (tgt := 2724) hx9 hb dL_law_2394 (by decide) ?_
    exact kk u _ _ _ w (lv_sub hl [2, 3, 4, 5, 6] rfl)
  obtain ⟨fo, ho1, ho2⟩ := hval n u
  refine lv_aload_n hx9 hb dL_law_2382 rfl (lv_at hl 5 rfl) ?_
  refine lv_iconst (v := 0) hx9 hb dL_law_2383 (by decide) ?_
  refine lal_mem C w ho1 dL_law_2384 ?_
  refine lv_iload hx9 hb dL_law_2385 (lv_at hl 0 rfl) ?_
  refine lv_i2l (v := bv.toInt64) hx9 hb dL_law_2387 rfl ?_
  refine W.lcmp hx9 hb dL_law_2388 ?_
  refine lv_if_eq (tgt := 2394) hx9 hb dL_law_2389 (by decide) (fun _ => ?_) (fun n => absurd (by rw [ho2]; exact lg_cmp_self _) n)
  refine lv_goto (tgt := 2724) hx9 hb dL_law_2394 (by decide) ?_
  exact kk u _ _ _ w (lv_sub hl [2, 3, 4, 5, 6] rfl)

theorem q_1163 : Cond.methodLink RL 270 yL_bill ∈ TS := ts_t 1163 (by decide +kernel) (by decide +kernel)
theorem q_1164 : Cond.static yL_bill ∈ TS := ts_t 1164 (by decide +kernel) (by decide +kernel)
theorem q_1165 : Cond.codeWith yL_bill cL_bill 4 (some .int) [(0, 9, 12, 13), (0, 9, 15, 95)] ∈ TS := ts_t 1165 (by decide +kernel) (by decide +kernel)
theorem kk_L_270 : LkK RL 270 m_L_bill [(0, 9, 12, 13), (0, 9, 15, 95)] 3 := ⟨q_1163, q_1164, q_0, q_1165, by decide, by decide, by decide +kernel⟩
theorem q_1749 : Cond.code yX10_bill cX10_bill 4 (some .int) ∈ TS := ts_t 1749 (by decide +kernel) (by decide +kernel)
theorem q_1746 : Cond.methodLink RL 272 yX10_bill ∈ TS := ts_t 1746 (by decide +kernel) (by decide +kernel)
theorem q_1747 : Cond.instanceMethod yX10_bill ∈ TS := ts_t 1747 (by decide +kernel) (by decide +kernel)
theorem q_1748 : Cond.selects yX10_bill.cls yX10_bill yX10_bill ∈ TS := ts_t 1748 (by decide +kernel) (by decide +kernel)
theorem k_L_272 : LkV RL 272 m_X10_bill 1 := ⟨q_1746, q_1747, q_1748, ⟨q_11, q_1749, by decide, by decide, by decide +kernel⟩⟩
set_option maxHeartbeats 4000000 in
theorem lc_40 {p : Program} {l : Launch} {e : Env} {s : State} {m : MethodId} {args : Array Value} {below : List Frame} {meth : Method} {c : Code} {H : Heap} {locs : List Loc} {cells slots : Nat} {Q : State → Prop} {g : GT} {A : Nat → Prop} {ws : va_W} {ls : Array Slot} {b L : Nat} {xs : Nat → Int32} {i4 : Int32} {hx hm ho : Nat} {wc wd wd' we : va_W} {wc' wn1 wn2 : (Nat → Nat) → va_W} {k1 k2 mc1 ms1 : Nat} {kv bv tv : Int32} {fs1 fs2 fs3 : List Value} (X : Lx p s m args meth c g A b L xs i4) (w : Wd g A ws s.heap H locs) (hl : lv_has ls 7 [(0, .ref b), (1, .ref hx), (2, .ref hm), (3, .ref ho), (4, .int i4)]) (P1 : PM ws wc wc' wn1) (hK1 : ∀ sz, KI l m_L_bill [(0, 9, 12, 13), (0, 9, 15, 95)] (rml k1 mc1 ms1) g wc wc' sz [.ref hx, .int (xs (i4 + 1).toNatClampNeg), .ref ho] kv) (P2 : ∀ u, PM (wn1 u) wd (fun _ => wd') (fun _ => wn2 u)) (hK2 : ∀ sz, CI l m_X10_bill (rml k2 0 0) g wd (fun _ => wd') sz [.ref hm, .int (xs (i4 + 1).toNatClampNeg)] bv) (hm2 : (hm, .inr (10, fs2)) ∈ wd) (P3 : ∀ u, PM (wn2 u) we (fun _ => we) (fun _ => wn2 u)) (hK3 : ∀ sz, CI l m_X10_thrown (rml 0 0 0) g we (fun _ => we) sz [.ref hm] tv) (hm3 : (hm, .inr (10, fs3)) ∈ we) (heq : tv = kv) (hval : kv = 0 → ∀ u, ∃ fo : Nat → Int64, (ho, aJ g 1 fo) ∈ wn2 u ∧ fo 0 = bv.toInt64) (hk1 : k1 ≤ 100) (hk2 : k2 ≤ 100) (hc1 : cells + mc1 ≤ room_1.cells) (hs1 : slots + ms1 ≤ room_1.slots) (kk : ∀ (u : Nat → Nat) (H : Heap) (locs : List Loc) (ls : Array Slot), Wd g A (wn2 u) s.heap H locs → lv_has ls 7 [(0, .ref b), (1, .ref hx), (2, .ref hm), (3, .ref ho), (4, .int i4)] → W p l e room_1 s m args below meth c H locs (cells + mc1) (slots + ms1) Q (F0 m 2724 ls [])) : W p l e room_1 s m args below meth c H locs cells slots Q (F0 m 2397 ls []) := by
  obtain ⟨C, hX, hbl, hbA, hi1, hi2, hi3, hi4, hi5⟩ := X
  have hx9 := C.1
  have hb : c.code = cL_law := C.2.1
  have hc2 : cells + mc1 + 0 ≤ room_1.cells := hc1
  have hs2 : slots + ms1 + 0 ≤ room_1.slots := hs1
  refine lv_aload_n hx9 hb dL_law_2397 rfl (lv_at hl 1 rfl) ?_
  refine lv_aload_n hx9 hb dL_law_2398 rfl (lv_at hl 0 rfl) ?_
  refine lv_iload hx9 hb dL_law_2399 (lv_at hl 4 rfl) ?_
  refine lv_iconst (v := 1) hx9 hb dL_law_2401 (by decide) ?_
  refine lv_iadd hx9 hb dL_law_2402 ?_
  refine va_sld hx9 hb hX hbl hbA w.2.2 hi1 dL_law_2403 ?_
  refine lv_aload_n hx9 hb dL_law_2404 rfl (lv_at hl 3 rfl) ?_
  refine ck_iS C w P1 (hK1 _) kk_L_270 (rm_law hk1 (by decide)) rfl hl.1 rfl (Nat.le_of_ble_eq_true rfl) dL_law_2405 ⟨hc1, hs1⟩ (fun u H locs w => ?_)
  refine lv_istore (lv' := [(5, .int kv), (0, .ref b), (1, .ref hx), (2, .ref hm), (3, .ref ho), (4, .int i4)]) hx9 hb dL_law_2408 hl (by decide) rfl (fun ls hl => ?_)
  refine lv_aload_n hx9 hb dL_law_2410 rfl (lv_at hl 3 rfl) ?_
  refine lv_aload_n hx9 hb dL_law_2411 rfl (lv_at hl 1 rfl) ?_
  refine lv_iload hx9 hb dL_law_2412 (lv_at hl 5 rfl) ?_
  refine lv_iconst (v := 1) hx9 hb dL_law_2414 (by decide) ?_
  refine lv_iadd hx9 hb dL_law_2415 ?_
  refine va_sld hx9 hb hX hbl hbA w.2.2 hi1 dL_law_2416 ?_
  refine cm_iV C w (P2 u) (hK2 _) k_L_272 (rm_law hk2 (by decide)) hm2 rfl rfl rfl hl.1 rfl (Nat.le_of_ble_eq_true rfl) dL_law_2417 ⟨hc2, hs2⟩ (fun _ H locs w => ?_)
  refine lv_istore (lv' := [(6, .int bv), (5, .int kv), (0, .ref b), (1, .ref hx), (2, .ref hm), (3, .ref ho), (4, .int i4)]) hx9 hb dL_law_2420 hl (by decide) rfl (fun ls hl => ?_)
  refine lv_aload_n hx9 hb dL_law_2422 rfl (lv_at hl 4 rfl) ?_
  refine cm_iV C w (P3 u) (hK3 _) k_L_140 (rm_law (by decide) (by decide)) hm3 rfl rfl rfl hl.1 rfl (Nat.le_of_ble_eq_true rfl) dL_law_2423 ⟨hc2, hs2⟩ (fun _ H locs w => ?_)
  refine lv_iload hx9 hb dL_law_2426 (lv_at hl 1 rfl) ?_
  refine lv_icmp_eq (tgt := 2433) hx9 hb dL_law_2428 (by decide) (fun _ => ?_) (fun n => absurd heq n)
  refine lv_iload hx9 hb dL_law_2433 (lv_at hl 1 rfl) ?_
  refine lv_if_ne (tgt := 2450) hx9 hb dL_law_2435 (by decide) (fun n => ?_) (fun n => ?_)
  · refine lv_goto (tgt := 2724) hx9 hb dL_law_2450 (by decide) ?_
    exact kk u _ _ _ w (lv_sub hl [2, 3, 4, 5, 6] rfl)
  obtain ⟨fo, ho1, ho2⟩ := hval n u
  refine lv_aload_n hx9 hb dL_law_2438 rfl (lv_at hl 5 rfl) ?_
  refine lv_iconst (v := 0) hx9 hb dL_law_2439 (by decide) ?_
  refine lal_mem C w ho1 dL_law_2440 ?_
  refine lv_iload hx9 hb dL_law_2441 (lv_at hl 0 rfl) ?_
  refine lv_i2l (v := bv.toInt64) hx9 hb dL_law_2443 rfl ?_
  refine W.lcmp hx9 hb dL_law_2444 ?_
  refine lv_if_eq (tgt := 2450) hx9 hb dL_law_2445 (by decide) (fun _ => ?_) (fun n => absurd (by rw [ho2]; exact lg_cmp_self _) n)
  refine lv_goto (tgt := 2724) hx9 hb dL_law_2450 (by decide) ?_
  exact kk u _ _ _ w (lv_sub hl [2, 3, 4, 5, 6] rfl)

theorem q_1183 : Cond.methodLink RL 273 yL_pay ∈ TS := ts_t 1183 (by decide +kernel) (by decide +kernel)
theorem q_1184 : Cond.static yL_pay ∈ TS := ts_t 1184 (by decide +kernel) (by decide +kernel)
theorem q_1185 : Cond.codeWith yL_pay cL_pay 5 (some .int) [(0, 10, 13, 32), (0, 10, 17, 13)] ∈ TS := ts_t 1185 (by decide +kernel) (by decide +kernel)
theorem kk_L_273 : LkK RL 273 m_L_pay [(0, 10, 13, 32), (0, 10, 17, 13)] 4 := ⟨q_1183, q_1184, q_0, q_1185, by decide, by decide, by decide +kernel⟩
theorem q_1753 : Cond.code yX10_pay cX10_pay 3 (some .int) ∈ TS := ts_t 1753 (by decide +kernel) (by decide +kernel)
theorem q_1750 : Cond.methodLink RL 275 yX10_pay ∈ TS := ts_t 1750 (by decide +kernel) (by decide +kernel)
theorem q_1751 : Cond.instanceMethod yX10_pay ∈ TS := ts_t 1751 (by decide +kernel) (by decide +kernel)
theorem q_1752 : Cond.selects yX10_pay.cls yX10_pay yX10_pay ∈ TS := ts_t 1752 (by decide +kernel) (by decide +kernel)
theorem k_L_275 : LkV RL 275 m_X10_pay 2 := ⟨q_1750, q_1751, q_1752, ⟨q_11, q_1753, by decide, by decide, by decide +kernel⟩⟩
set_option maxHeartbeats 4000000 in
theorem lc_41 {p : Program} {l : Launch} {e : Env} {s : State} {m : MethodId} {args : Array Value} {below : List Frame} {meth : Method} {c : Code} {H : Heap} {locs : List Loc} {cells slots : Nat} {Q : State → Prop} {g : GT} {A : Nat → Prop} {ws : va_W} {ls : Array Slot} {b L : Nat} {xs : Nat → Int32} {i4 : Int32} {hx hm ho : Nat} {wc wd wd' we : va_W} {wc' wn1 wn2 : (Nat → Nat) → va_W} {k1 k2 mc1 ms1 : Nat} {kv bv tv : Int32} {fs1 fs2 fs3 : List Value} (X : Lx p s m args meth c g A b L xs i4) (w : Wd g A ws s.heap H locs) (hl : lv_has ls 7 [(0, .ref b), (1, .ref hx), (2, .ref hm), (3, .ref ho), (4, .int i4)]) (P1 : PM ws wc wc' wn1) (hK1 : ∀ sz, KI l m_L_pay [(0, 10, 13, 32), (0, 10, 17, 13)] (rml k1 mc1 ms1) g wc wc' sz [.ref hx, .int (xs (i4 + 1).toNatClampNeg), .int (xs (i4 + 2).toNatClampNeg), .ref ho] kv) (P2 : ∀ u, PM (wn1 u) wd (fun _ => wd') (fun _ => wn2 u)) (hK2 : ∀ sz, CI l m_X10_pay (rml k2 0 0) g wd (fun _ => wd') sz [.ref hm, .int (xs (i4 + 1).toNatClampNeg), .int (xs (i4 + 2).toNatClampNeg)] bv) (hm2 : (hm, .inr (10, fs2)) ∈ wd) (P3 : ∀ u, PM (wn2 u) we (fun _ => we) (fun _ => wn2 u)) (hK3 : ∀ sz, CI l m_X10_thrown (rml 0 0 0) g we (fun _ => we) sz [.ref hm] tv) (hm3 : (hm, .inr (10, fs3)) ∈ we) (heq : tv = kv) (hval : kv = 0 → ∀ u, ∃ fo : Nat → Int64, (ho, aJ g 1 fo) ∈ wn2 u ∧ fo 0 = bv.toInt64) (hk1 : k1 ≤ 100) (hk2 : k2 ≤ 100) (hc1 : cells + mc1 ≤ room_1.cells) (hs1 : slots + ms1 ≤ room_1.slots) (kk : ∀ (u : Nat → Nat) (H : Heap) (locs : List Loc) (ls : Array Slot), Wd g A (wn2 u) s.heap H locs → lv_has ls 7 [(0, .ref b), (1, .ref hx), (2, .ref hm), (3, .ref ho), (4, .int i4)] → W p l e room_1 s m args below meth c H locs (cells + mc1) (slots + ms1) Q (F0 m 2724 ls [])) : W p l e room_1 s m args below meth c H locs cells slots Q (F0 m 2453 ls []) := by
  obtain ⟨C, hX, hbl, hbA, hi1, hi2, hi3, hi4, hi5⟩ := X
  have hx9 := C.1
  have hb : c.code = cL_law := C.2.1
  have hc2 : cells + mc1 + 0 ≤ room_1.cells := hc1
  have hs2 : slots + ms1 + 0 ≤ room_1.slots := hs1
  refine lv_aload_n hx9 hb dL_law_2453 rfl (lv_at hl 1 rfl) ?_
  refine lv_aload_n hx9 hb dL_law_2454 rfl (lv_at hl 0 rfl) ?_
  refine lv_iload hx9 hb dL_law_2455 (lv_at hl 4 rfl) ?_
  refine lv_iconst (v := 1) hx9 hb dL_law_2457 (by decide) ?_
  refine lv_iadd hx9 hb dL_law_2458 ?_
  refine va_sld hx9 hb hX hbl hbA w.2.2 hi1 dL_law_2459 ?_
  refine lv_aload_n hx9 hb dL_law_2460 rfl (lv_at hl 0 rfl) ?_
  refine lv_iload hx9 hb dL_law_2461 (lv_at hl 4 rfl) ?_
  refine lv_iconst (v := 2) hx9 hb dL_law_2463 (by decide) ?_
  refine lv_iadd hx9 hb dL_law_2464 ?_
  refine va_sld hx9 hb hX hbl hbA w.2.2 hi2 dL_law_2465 ?_
  refine lv_aload_n hx9 hb dL_law_2466 rfl (lv_at hl 3 rfl) ?_
  refine ck_iS C w P1 (hK1 _) kk_L_273 (rm_law hk1 (by decide)) rfl hl.1 rfl (Nat.le_of_ble_eq_true rfl) dL_law_2467 ⟨hc1, hs1⟩ (fun u H locs w => ?_)
  refine lv_istore (lv' := [(5, .int kv), (0, .ref b), (1, .ref hx), (2, .ref hm), (3, .ref ho), (4, .int i4)]) hx9 hb dL_law_2470 hl (by decide) rfl (fun ls hl => ?_)
  refine lv_aload_n hx9 hb dL_law_2472 rfl (lv_at hl 3 rfl) ?_
  refine lv_aload_n hx9 hb dL_law_2473 rfl (lv_at hl 1 rfl) ?_
  refine lv_iload hx9 hb dL_law_2474 (lv_at hl 5 rfl) ?_
  refine lv_iconst (v := 1) hx9 hb dL_law_2476 (by decide) ?_
  refine lv_iadd hx9 hb dL_law_2477 ?_
  refine va_sld hx9 hb hX hbl hbA w.2.2 hi1 dL_law_2478 ?_
  refine lv_aload_n hx9 hb dL_law_2479 rfl (lv_at hl 1 rfl) ?_
  refine lv_iload hx9 hb dL_law_2480 (lv_at hl 5 rfl) ?_
  refine lv_iconst (v := 2) hx9 hb dL_law_2482 (by decide) ?_
  refine lv_iadd hx9 hb dL_law_2483 ?_
  refine va_sld hx9 hb hX hbl hbA w.2.2 hi2 dL_law_2484 ?_
  refine cm_iV C w (P2 u) (hK2 _) k_L_275 (rm_law hk2 (by decide)) hm2 rfl rfl rfl hl.1 rfl (Nat.le_of_ble_eq_true rfl) dL_law_2485 ⟨hc2, hs2⟩ (fun _ H locs w => ?_)
  refine lv_istore (lv' := [(6, .int bv), (5, .int kv), (0, .ref b), (1, .ref hx), (2, .ref hm), (3, .ref ho), (4, .int i4)]) hx9 hb dL_law_2488 hl (by decide) rfl (fun ls hl => ?_)
  refine lv_aload_n hx9 hb dL_law_2490 rfl (lv_at hl 4 rfl) ?_
  refine cm_iV C w (P3 u) (hK3 _) k_L_140 (rm_law (by decide) (by decide)) hm3 rfl rfl rfl hl.1 rfl (Nat.le_of_ble_eq_true rfl) dL_law_2491 ⟨hc2, hs2⟩ (fun _ H locs w => ?_)
  refine lv_iload hx9 hb dL_law_2494 (lv_at hl 1 rfl) ?_
  refine lv_icmp_eq (tgt := 2501) hx9 hb dL_law_2496 (by decide) (fun _ => ?_) (fun n => absurd heq n)
  refine lv_iload hx9 hb dL_law_2501 (lv_at hl 1 rfl) ?_
  refine lv_if_ne (tgt := 2518) hx9 hb dL_law_2503 (by decide) (fun n => ?_) (fun n => ?_)
  · refine lv_goto (tgt := 2724) hx9 hb dL_law_2518 (by decide) ?_
    exact kk u _ _ _ w (lv_sub hl [2, 3, 4, 5, 6] rfl)
  obtain ⟨fo, ho1, ho2⟩ := hval n u
  refine lv_aload_n hx9 hb dL_law_2506 rfl (lv_at hl 5 rfl) ?_
  refine lv_iconst (v := 0) hx9 hb dL_law_2507 (by decide) ?_
  refine lal_mem C w ho1 dL_law_2508 ?_
  refine lv_iload hx9 hb dL_law_2509 (lv_at hl 0 rfl) ?_
  refine lv_i2l (v := bv.toInt64) hx9 hb dL_law_2511 rfl ?_
  refine W.lcmp hx9 hb dL_law_2512 ?_
  refine lv_if_eq (tgt := 2518) hx9 hb dL_law_2513 (by decide) (fun _ => ?_) (fun n => absurd (by rw [ho2]; exact lg_cmp_self _) n)
  refine lv_goto (tgt := 2724) hx9 hb dL_law_2518 (by decide) ?_
  exact kk u _ _ _ w (lv_sub hl [2, 3, 4, 5, 6] rfl)

theorem q_1192 : Cond.methodLink RL 276 yL_dispute ∈ TS := ts_t 1192 (by decide +kernel) (by decide +kernel)
theorem q_1193 : Cond.static yL_dispute ∈ TS := ts_t 1193 (by decide +kernel) (by decide +kernel)
theorem q_1194 : Cond.codeWith yL_dispute cL_dispute 4 (some .int) [(0, 9, 12, 32), (0, 9, 15, 95)] ∈ TS := ts_t 1194 (by decide +kernel) (by decide +kernel)
theorem kk_L_276 : LkK RL 276 m_L_dispute [(0, 9, 12, 32), (0, 9, 15, 95)] 3 := ⟨q_1192, q_1193, q_0, q_1194, by decide, by decide, by decide +kernel⟩
theorem q_1758 : Cond.code yX10_dispute cX10_dispute 4 (some .int) ∈ TS := ts_t 1758 (by decide +kernel) (by decide +kernel)
theorem q_1755 : Cond.methodLink RL 278 yX10_dispute ∈ TS := ts_t 1755 (by decide +kernel) (by decide +kernel)
theorem q_1756 : Cond.instanceMethod yX10_dispute ∈ TS := ts_t 1756 (by decide +kernel) (by decide +kernel)
theorem q_1757 : Cond.selects yX10_dispute.cls yX10_dispute yX10_dispute ∈ TS := ts_t 1757 (by decide +kernel) (by decide +kernel)
theorem k_L_278 : LkV RL 278 m_X10_dispute 1 := ⟨q_1755, q_1756, q_1757, ⟨q_11, q_1758, by decide, by decide, by decide +kernel⟩⟩
set_option maxHeartbeats 4000000 in
theorem lc_42 {p : Program} {l : Launch} {e : Env} {s : State} {m : MethodId} {args : Array Value} {below : List Frame} {meth : Method} {c : Code} {H : Heap} {locs : List Loc} {cells slots : Nat} {Q : State → Prop} {g : GT} {A : Nat → Prop} {ws : va_W} {ls : Array Slot} {b L : Nat} {xs : Nat → Int32} {i4 : Int32} {hx hm ho : Nat} {wc wd wd' we : va_W} {wc' wn1 wn2 : (Nat → Nat) → va_W} {k1 k2 mc1 ms1 : Nat} {kv bv tv : Int32} {fs1 fs2 fs3 : List Value} (X : Lx p s m args meth c g A b L xs i4) (w : Wd g A ws s.heap H locs) (hl : lv_has ls 7 [(0, .ref b), (1, .ref hx), (2, .ref hm), (3, .ref ho), (4, .int i4)]) (P1 : PM ws wc wc' wn1) (hK1 : ∀ sz, KI l m_L_dispute [(0, 9, 12, 32), (0, 9, 15, 95)] (rml k1 mc1 ms1) g wc wc' sz [.ref hx, .int (xs (i4 + 1).toNatClampNeg), .ref ho] kv) (P2 : ∀ u, PM (wn1 u) wd (fun _ => wd') (fun _ => wn2 u)) (hK2 : ∀ sz, CI l m_X10_dispute (rml k2 0 0) g wd (fun _ => wd') sz [.ref hm, .int (xs (i4 + 1).toNatClampNeg)] bv) (hm2 : (hm, .inr (10, fs2)) ∈ wd) (P3 : ∀ u, PM (wn2 u) we (fun _ => we) (fun _ => wn2 u)) (hK3 : ∀ sz, CI l m_X10_thrown (rml 0 0 0) g we (fun _ => we) sz [.ref hm] tv) (hm3 : (hm, .inr (10, fs3)) ∈ we) (heq : tv = kv) (hval : kv = 0 → ∀ u, ∃ fo : Nat → Int64, (ho, aJ g 1 fo) ∈ wn2 u ∧ fo 0 = bv.toInt64) (hk1 : k1 ≤ 100) (hk2 : k2 ≤ 100) (hc1 : cells + mc1 ≤ room_1.cells) (hs1 : slots + ms1 ≤ room_1.slots) (kk : ∀ (u : Nat → Nat) (H : Heap) (locs : List Loc) (ls : Array Slot), Wd g A (wn2 u) s.heap H locs → lv_has ls 7 [(0, .ref b), (1, .ref hx), (2, .ref hm), (3, .ref ho), (4, .int i4)] → W p l e room_1 s m args below meth c H locs (cells + mc1) (slots + ms1) Q (F0 m 2724 ls [])) : W p l e room_1 s m args below meth c H locs cells slots Q (F0 m 2521 ls []) := by
  obtain ⟨C, hX, hbl, hbA, hi1, hi2, hi3, hi4, hi5⟩ := X
  have hx9 := C.1
  have hb : c.code = cL_law := C.2.1
  have hc2 : cells + mc1 + 0 ≤ room_1.cells := hc1
  have hs2 : slots + ms1 + 0 ≤ room_1.slots := hs1
  refine lv_aload_n hx9 hb dL_law_2521 rfl (lv_at hl 1 rfl) ?_
  refine lv_aload_n hx9 hb dL_law_2522 rfl (lv_at hl 0 rfl) ?_
  refine lv_iload hx9 hb dL_law_2523 (lv_at hl 4 rfl) ?_
  refine lv_iconst (v := 1) hx9 hb dL_law_2525 (by decide) ?_
  refine lv_iadd hx9 hb dL_law_2526 ?_
  refine va_sld hx9 hb hX hbl hbA w.2.2 hi1 dL_law_2527 ?_
  refine lv_aload_n hx9 hb dL_law_2528 rfl (lv_at hl 3 rfl) ?_
  refine ck_iS C w P1 (hK1 _) kk_L_276 (rm_law hk1 (by decide)) rfl hl.1 rfl (Nat.le_of_ble_eq_true rfl) dL_law_2529 ⟨hc1, hs1⟩ (fun u H locs w => ?_)
  refine lv_istore (lv' := [(5, .int kv), (0, .ref b), (1, .ref hx), (2, .ref hm), (3, .ref ho), (4, .int i4)]) hx9 hb dL_law_2532 hl (by decide) rfl (fun ls hl => ?_)
  refine lv_aload_n hx9 hb dL_law_2534 rfl (lv_at hl 3 rfl) ?_
  refine lv_aload_n hx9 hb dL_law_2535 rfl (lv_at hl 1 rfl) ?_
  refine lv_iload hx9 hb dL_law_2536 (lv_at hl 5 rfl) ?_
  refine lv_iconst (v := 1) hx9 hb dL_law_2538 (by decide) ?_
  refine lv_iadd hx9 hb dL_law_2539 ?_
  refine va_sld hx9 hb hX hbl hbA w.2.2 hi1 dL_law_2540 ?_
  refine cm_iV C w (P2 u) (hK2 _) k_L_278 (rm_law hk2 (by decide)) hm2 rfl rfl rfl hl.1 rfl (Nat.le_of_ble_eq_true rfl) dL_law_2541 ⟨hc2, hs2⟩ (fun _ H locs w => ?_)
  refine lv_istore (lv' := [(6, .int bv), (5, .int kv), (0, .ref b), (1, .ref hx), (2, .ref hm), (3, .ref ho), (4, .int i4)]) hx9 hb dL_law_2544 hl (by decide) rfl (fun ls hl => ?_)
  refine lv_aload_n hx9 hb dL_law_2546 rfl (lv_at hl 4 rfl) ?_
  refine cm_iV C w (P3 u) (hK3 _) k_L_140 (rm_law (by decide) (by decide)) hm3 rfl rfl rfl hl.1 rfl (Nat.le_of_ble_eq_true rfl) dL_law_2547 ⟨hc2, hs2⟩ (fun _ H locs w => ?_)
  refine lv_iload hx9 hb dL_law_2550 (lv_at hl 1 rfl) ?_
  refine lv_icmp_eq (tgt := 2557) hx9 hb dL_law_2552 (by decide) (fun _ => ?_) (fun n => absurd heq n)
  refine lv_iload hx9 hb dL_law_2557 (lv_at hl 1 rfl) ?_
  refine lv_if_ne (tgt := 2574) hx9 hb dL_law_2559 (by decide) (fun n => ?_) (fun n => ?_)
  · refine lv_goto (tgt := 2724) hx9 hb dL_law_2574 (by decide) ?_
    exact kk u _ _ _ w (lv_sub hl [2, 3, 4, 5, 6] rfl)
  obtain ⟨fo, ho1, ho2⟩ := hval n u
  refine lv_aload_n hx9 hb dL_law_2562 rfl (lv_at hl 5 rfl) ?_
  refine lv_iconst (v := 0) hx9 hb dL_law_2563 (by decide) ?_
  refine lal_mem C w ho1 dL_law_2564 ?_
  refine lv_iload hx9 hb dL_law_2565 (lv_at hl 0 rfl) ?_
  refine lv_i2l (v := bv.toInt64) hx9 hb dL_law_2567 rfl ?_
  refine W.lcmp hx9 hb dL_law_2568 ?_
  refine lv_if_eq (tgt := 2574) hx9 hb dL_law_2569 (by decide) (fun _ => ?_) (fun n => absurd (by rw [ho2]; exact lg_cmp_self _) n)
  refine lv_goto (tgt := 2724) hx9 hb dL_law_2574 (by decide) ?_
  exact kk u _ _ _ w (lv_sub hl [2, 3, 4, 5, 6] rfl)

theorem q_1204 : Cond.methodLink RL 279 yL_resolve ∈ TS := ts_t 1204 (by decide +kernel) (by decide +kernel)
theorem q_1205 : Cond.static yL_resolve ∈ TS := ts_t 1205 (by decide +kernel) (by decide +kernel)
theorem q_1206 : Cond.codeWith yL_resolve cL_resolve 5 (some .int) [(0, 10, 13, 32), (0, 10, 17, 95)] ∈ TS := ts_t 1206 (by decide +kernel) (by decide +kernel)
theorem kk_L_279 : LkK RL 279 m_L_resolve [(0, 10, 13, 32), (0, 10, 17, 95)] 4 := ⟨q_1204, q_1205, q_0, q_1206, by decide, by decide, by decide +kernel⟩
theorem q_1762 : Cond.code yX10_resolve cX10_resolve 3 (some .int) ∈ TS := ts_t 1762 (by decide +kernel) (by decide +kernel)
theorem q_1759 : Cond.methodLink RL 282 yX10_resolve ∈ TS := ts_t 1759 (by decide +kernel) (by decide +kernel)
theorem q_1760 : Cond.instanceMethod yX10_resolve ∈ TS := ts_t 1760 (by decide +kernel) (by decide +kernel)
theorem q_1761 : Cond.selects yX10_resolve.cls yX10_resolve yX10_resolve ∈ TS := ts_t 1761 (by decide +kernel) (by decide +kernel)
theorem k_L_282 : LkV RL 282 m_X10_resolve 2 := ⟨q_1759, q_1760, q_1761, ⟨q_11, q_1762, by decide, by decide, by decide +kernel⟩⟩
set_option maxHeartbeats 4000000 in
theorem lc_43 {p : Program} {l : Launch} {e : Env} {s : State} {m : MethodId} {args : Array Value} {below : List Frame} {meth : Method} {c : Code} {H : Heap} {locs : List Loc} {cells slots : Nat} {Q : State → Prop} {g : GT} {A : Nat → Prop} {ws : va_W} {ls : Array Slot} {b L : Nat} {xs : Nat → Int32} {i4 : Int32} {hx hm ho : Nat} {wc wd wd' we : va_W} {wc' wn1 wn2 : (Nat → Nat) → va_W} {k1 k2 mc1 ms1 : Nat} {kv bv tv : Int32} {fs1 fs2 fs3 : List Value} (X : Lx p s m args meth c g A b L xs i4) (w : Wd g A ws s.heap H locs) (hl : lv_has ls 7 [(0, .ref b), (1, .ref hx), (2, .ref hm), (3, .ref ho), (4, .int i4)]) (P1 : PM ws wc wc' wn1) (hK1 : ∀ sz, KI l m_L_resolve [(0, 10, 13, 32), (0, 10, 17, 95)] (rml k1 mc1 ms1) g wc wc' sz [.ref hx, .int (xs (i4 + 1).toNatClampNeg), .int (if xs (i4 + 2).toNatClampNeg = 0 then 0 else 1), .ref ho] kv) (P2 : ∀ u, PM (wn1 u) wd (fun _ => wd') (fun _ => wn2 u)) (hK2 : ∀ sz, CI l m_X10_resolve (rml k2 0 0) g wd (fun _ => wd') sz [.ref hm, .int (xs (i4 + 1).toNatClampNeg), .int (if xs (i4 + 2).toNatClampNeg = 0 then 0 else 1)] bv) (hm2 : (hm, .inr (10, fs2)) ∈ wd) (P3 : ∀ u, PM (wn2 u) we (fun _ => we) (fun _ => wn2 u)) (hK3 : ∀ sz, CI l m_X10_thrown (rml 0 0 0) g we (fun _ => we) sz [.ref hm] tv) (hm3 : (hm, .inr (10, fs3)) ∈ we) (heq : tv = kv) (hval : kv = 0 → ∀ u, ∃ fo : Nat → Int64, (ho, aJ g 1 fo) ∈ wn2 u ∧ fo 0 = bv.toInt64) (hk1 : k1 ≤ 100) (hk2 : k2 ≤ 100) (hc1 : cells + mc1 ≤ room_1.cells) (hs1 : slots + ms1 ≤ room_1.slots) (kk : ∀ (u : Nat → Nat) (H : Heap) (locs : List Loc) (ls : Array Slot), Wd g A (wn2 u) s.heap H locs → lv_has ls 7 [(0, .ref b), (1, .ref hx), (2, .ref hm), (3, .ref ho), (4, .int i4)] → W p l e room_1 s m args below meth c H locs (cells + mc1) (slots + ms1) Q (F0 m 2724 ls [])) : W p l e room_1 s m args below meth c H locs cells slots Q (F0 m 2577 ls []) := by
  obtain ⟨C, hX, hbl, hbA, hi1, hi2, hi3, hi4, hi5⟩ := X
  have hx9 := C.1
  have hb : c.code = cL_law := C.2.1
  have hc2 : cells + mc1 + 0 ≤ room_1.cells := hc1
  have hs2 : slots + ms1 + 0 ≤ room_1.slots := hs1
  refine lv_aload_n hx9 hb dL_law_2577 rfl (lv_at hl 1 rfl) ?_
  refine lv_aload_n hx9 hb dL_law_2578 rfl (lv_at hl 0 rfl) ?_
  refine lv_iload hx9 hb dL_law_2579 (lv_at hl 4 rfl) ?_
  refine lv_iconst (v := 1) hx9 hb dL_law_2581 (by decide) ?_
  refine lv_iadd hx9 hb dL_law_2582 ?_
  refine va_sld hx9 hb hX hbl hbA w.2.2 hi1 dL_law_2583 ?_
  refine lv_aload_n hx9 hb dL_law_2584 rfl (lv_at hl 0 rfl) ?_
  refine lv_iload hx9 hb dL_law_2585 (lv_at hl 4 rfl) ?_
  refine lv_iconst (v := 2) hx9 hb dL_law_2587 (by decide) ?_
  refine lv_iadd hx9 hb dL_law_2588 ?_
  refine va_sld hx9 hb hX hbl hbA w.2.2 hi2 dL_law_2589 ?_
  have hj1 : W p l e room_1 s m args below meth c H locs cells slots Q (F0 m 2598 ls [.int (if xs (i4 + 2).toNatClampNeg = 0 then 0 else 1), .int (xs (i4 + 1).toNatClampNeg), .ref hx]) := by
    refine lv_aload_n hx9 hb dL_law_2598 rfl (lv_at hl 3 rfl) ?_
    refine ck_iS C w P1 (hK1 _) kk_L_279 (rm_law hk1 (by decide)) rfl hl.1 rfl (Nat.le_of_ble_eq_true rfl) dL_law_2599 ⟨hc1, hs1⟩ (fun u H locs w => ?_)
    refine lv_istore (lv' := [(5, .int kv), (0, .ref b), (1, .ref hx), (2, .ref hm), (3, .ref ho), (4, .int i4)]) hx9 hb dL_law_2602 hl (by decide) rfl (fun ls hl => ?_)
    refine lv_aload_n hx9 hb dL_law_2604 rfl (lv_at hl 3 rfl) ?_
    refine lv_aload_n hx9 hb dL_law_2605 rfl (lv_at hl 1 rfl) ?_
    refine lv_iload hx9 hb dL_law_2606 (lv_at hl 5 rfl) ?_
    refine lv_iconst (v := 1) hx9 hb dL_law_2608 (by decide) ?_
    refine lv_iadd hx9 hb dL_law_2609 ?_
    refine va_sld hx9 hb hX hbl hbA w.2.2 hi1 dL_law_2610 ?_
    refine lv_aload_n hx9 hb dL_law_2611 rfl (lv_at hl 1 rfl) ?_
    refine lv_iload hx9 hb dL_law_2612 (lv_at hl 5 rfl) ?_
    refine lv_iconst (v := 2) hx9 hb dL_law_2614 (by decide) ?_
    refine lv_iadd hx9 hb dL_law_2615 ?_
    refine va_sld hx9 hb hX hbl hbA w.2.2 hi2 dL_law_2616 ?_
    have hj2 : W p l e room_1 s m args below meth c H locs (cells + mc1) (slots + ms1) Q (F0 m 2625 ls [.int (if xs (i4 + 2).toNatClampNeg = 0 then 0 else 1), .int (xs (i4 + 1).toNatClampNeg), .ref hm]) := by
      refine cm_iV C w (P2 u) (hK2 _) k_L_282 (rm_law hk2 (by decide)) hm2 rfl rfl rfl hl.1 rfl (Nat.le_of_ble_eq_true rfl) dL_law_2625 ⟨hc2, hs2⟩ (fun _ H locs w => ?_)
      refine lv_istore (lv' := [(6, .int bv), (5, .int kv), (0, .ref b), (1, .ref hx), (2, .ref hm), (3, .ref ho), (4, .int i4)]) hx9 hb dL_law_2628 hl (by decide) rfl (fun ls hl => ?_)
      refine lv_aload_n hx9 hb dL_law_2630 rfl (lv_at hl 4 rfl) ?_
      refine cm_iV C w (P3 u) (hK3 _) k_L_140 (rm_law (by decide) (by decide)) hm3 rfl rfl rfl hl.1 rfl (Nat.le_of_ble_eq_true rfl) dL_law_2631 ⟨hc2, hs2⟩ (fun _ H locs w => ?_)
      refine lv_iload hx9 hb dL_law_2634 (lv_at hl 1 rfl) ?_
      refine lv_icmp_eq (tgt := 2641) hx9 hb dL_law_2636 (by decide) (fun _ => ?_) (fun n => absurd heq n)
      refine lv_iload hx9 hb dL_law_2641 (lv_at hl 1 rfl) ?_
      refine lv_if_ne (tgt := 2658) hx9 hb dL_law_2643 (by decide) (fun n => ?_) (fun n => ?_)
      · refine lv_goto (tgt := 2724) hx9 hb dL_law_2658 (by decide) ?_
        exact kk u _ _ _ w (lv_sub hl [2, 3, 4, 5, 6] rfl)
      obtain ⟨fo, ho1, ho2⟩ := hval n u
      refine lv_aload_n hx9 hb dL_law_2646 rfl (lv_at hl 5 rfl) ?_
      refine lv_iconst (v := 0) hx9 hb dL_law_2647 (by decide) ?_
      refine lal_mem C w ho1 dL_law_2648 ?_
      refine lv_iload hx9 hb dL_law_2649 (lv_at hl 0 rfl) ?_
      refine lv_i2l (v := bv.toInt64) hx9 hb dL_law_2651 rfl ?_
      refine W.lcmp hx9 hb dL_law_2652 ?_
      refine lv_if_eq (tgt := 2658) hx9 hb dL_law_2653 (by decide) (fun _ => ?_) (fun n => absurd (by rw [ho2]; exact lg_cmp_self _) n)
      refine lv_goto (tgt := 2724) hx9 hb dL_law_2658 (by decide) ?_
      exact kk u _ _ _ w (lv_sub hl [2, 3, 4, 5, 6] rfl)
    refine lv_if_eq (tgt := 2624) hx9 hb dL_law_2617 (by decide) (fun cb1 => ?_) (fun cb1 => ?_)
    · refine lv_iconst (v := 0) hx9 hb dL_law_2624 (by decide) ?_
      rw [if_pos cb1] at hj2
      exact hj2
    · refine lv_iconst (v := 1) hx9 hb dL_law_2620 (by decide) ?_
      refine lv_goto (tgt := 2625) hx9 hb dL_law_2621 (by decide) ?_
      rw [if_neg cb1] at hj2
      exact hj2
  refine lv_if_eq (tgt := 2597) hx9 hb dL_law_2590 (by decide) (fun cb0 => ?_) (fun cb0 => ?_)
  · refine lv_iconst (v := 0) hx9 hb dL_law_2597 (by decide) ?_
    rw [if_pos cb0] at hj1
    exact hj1
  · refine lv_iconst (v := 1) hx9 hb dL_law_2593 (by decide) ?_
    refine lv_goto (tgt := 2598) hx9 hb dL_law_2594 (by decide) ?_
    rw [if_neg cb0] at hj1
    exact hj1


theorem q_479 : Cond.code yX9_undo cX9_undo 1 (some .int) ∈ TS := ts_t 479 (by decide +kernel) (by decide +kernel)
theorem q_476 : Cond.methodLink RL 283 yX9_undo ∈ TS := ts_t 476 (by decide +kernel) (by decide +kernel)
theorem q_477 : Cond.instanceMethod yX9_undo ∈ TS := ts_t 477 (by decide +kernel) (by decide +kernel)
theorem q_478 : Cond.selects yX9_undo.cls yX9_undo yX9_undo ∈ TS := ts_t 478 (by decide +kernel) (by decide +kernel)
theorem k_L_283P : LkV RL 283 m_X9_undoP 0 := ⟨q_476, q_477, q_478, ⟨q_1, q_479, by decide, by decide, by decide +kernel⟩⟩
theorem q_1766 : Cond.code yX10_undo cX10_undo 2 (some .int) ∈ TS := ts_t 1766 (by decide +kernel) (by decide +kernel)
theorem q_1763 : Cond.methodLink RL 286 yX10_undo ∈ TS := ts_t 1763 (by decide +kernel) (by decide +kernel)
theorem q_1764 : Cond.instanceMethod yX10_undo ∈ TS := ts_t 1764 (by decide +kernel) (by decide +kernel)
theorem q_1765 : Cond.selects yX10_undo.cls yX10_undo yX10_undo ∈ TS := ts_t 1765 (by decide +kernel) (by decide +kernel)
theorem k_L_286 : LkV RL 286 m_X10_undo 0 := ⟨q_1763, q_1764, q_1765, ⟨q_11, q_1766, by decide, by decide, by decide +kernel⟩⟩
set_option maxHeartbeats 4000000 in
theorem lc_44 {p : Program} {l : Launch} {e : Env} {s : State} {m : MethodId} {args : Array Value} {below : List Frame} {meth : Method} {c : Code} {H : Heap} {locs : List Loc} {cells slots : Nat} {Q : State → Prop} {g : GT} {A : Nat → Prop} {ws : va_W} {ls : Array Slot} {b L : Nat} {xs : Nat → Int32} {i4 : Int32} {hx hm ho : Nat} {wc wd wd' we : va_W} {wc' wn1 wn2 : (Nat → Nat) → va_W} {k1 k2 mc1 ms1 : Nat} {kv bv tv : Int32} {fs1 fs2 fs3 : List Value} (X : Lx p s m args meth c g A b L xs i4) (w : Wd g A ws s.heap H locs) (hl : lv_has ls 7 [(0, .ref b), (1, .ref hx), (2, .ref hm), (3, .ref ho), (4, .int i4)]) (P1 : PM ws wc wc' wn1) (hK1 : ∀ sz, CI l m_X9_undoP (rml k1 mc1 ms1) g wc wc' sz [.ref hx] kv) (hm1 : (hx, .inr (9, fs1)) ∈ wc) (P2 : ∀ u, PM (wn1 u) wd (fun _ => wd') (fun _ => wn2 u)) (hK2 : ∀ sz, CI l m_X10_undo (rml k2 0 0) g wd (fun _ => wd') sz [.ref hm] bv) (hm2 : (hm, .inr (10, fs2)) ∈ wd) (heq : kv = bv) (hk1 : k1 ≤ 100) (hk2 : k2 ≤ 100) (hc1 : cells + mc1 ≤ room_1.cells) (hs1 : slots + ms1 ≤ room_1.slots) (kk : ∀ (u : Nat → Nat) (H : Heap) (locs : List Loc) (ls : Array Slot), Wd g A (wn2 u) s.heap H locs → lv_has ls 7 [(0, .ref b), (1, .ref hx), (2, .ref hm), (3, .ref ho), (4, .int i4)] → W p l e room_1 s m args below meth c H locs (cells + mc1) (slots + ms1) Q (F0 m 2724 ls [])) : W p l e room_1 s m args below meth c H locs cells slots Q (F0 m 2661 ls []) := by
  obtain ⟨C, hX, hbl, hbA, hi1, hi2, hi3, hi4, hi5⟩ := X
  have hx9 := C.1
  have hb : c.code = cL_law := C.2.1
  have hc2 : cells + mc1 + 0 ≤ room_1.cells := hc1
  have hs2 : slots + ms1 + 0 ≤ room_1.slots := hs1
  refine lv_aload_n hx9 hb dL_law_2661 rfl (lv_at hl 1 rfl) ?_
  refine cm_iV C w P1 (hK1 _) k_L_283P (rm_law hk1 (by decide)) hm1 rfl rfl rfl hl.1 rfl (Nat.le_of_ble_eq_true rfl) dL_law_2662 ⟨hc1, hs1⟩ (fun u H locs w => ?_)
  refine lv_aload_n hx9 hb dL_law_2665 rfl (lv_at hl 2 rfl) ?_
  refine cm_iV C w (P2 u) (hK2 _) k_L_286 (rm_law hk2 (by decide)) hm2 rfl rfl rfl hl.1 rfl (Nat.le_of_ble_eq_true rfl) dL_law_2666 ⟨hc2, hs2⟩ (fun _ H locs w => ?_)
  refine lv_icmp_eq (tgt := 2724) hx9 hb dL_law_2669 (by decide) (fun _ => ?_) (fun n => absurd heq n)
  exact kk u _ _ _ w (lv_sub hl [0, 1, 2, 3, 4] rfl)


theorem q_503 : Cond.code yX9_saveSnapshot cX9_saveSnapshot 2 (some .boolean) ∈ TS := ts_t 503 (by decide +kernel) (by decide +kernel)
theorem q_500 : Cond.methodLink RL 287 yX9_saveSnapshot ∈ TS := ts_t 500 (by decide +kernel) (by decide +kernel)
theorem q_501 : Cond.instanceMethod yX9_saveSnapshot ∈ TS := ts_t 501 (by decide +kernel) (by decide +kernel)
theorem q_502 : Cond.selects yX9_saveSnapshot.cls yX9_saveSnapshot yX9_saveSnapshot ∈ TS := ts_t 502 (by decide +kernel) (by decide +kernel)
theorem k_L_287P : LkV RL 287 m_X9_saveSnapshotP 1 := ⟨q_500, q_501, q_502, ⟨q_1, q_503, by decide, by decide, by decide +kernel⟩⟩
theorem q_1770 : Cond.code yX10_saveSnapshot cX10_saveSnapshot 3 (some .boolean) ∈ TS := ts_t 1770 (by decide +kernel) (by decide +kernel)
theorem q_1767 : Cond.methodLink RL 291 yX10_saveSnapshot ∈ TS := ts_t 1767 (by decide +kernel) (by decide +kernel)
theorem q_1768 : Cond.instanceMethod yX10_saveSnapshot ∈ TS := ts_t 1768 (by decide +kernel) (by decide +kernel)
theorem q_1769 : Cond.selects yX10_saveSnapshot.cls yX10_saveSnapshot yX10_saveSnapshot ∈ TS := ts_t 1769 (by decide +kernel) (by decide +kernel)
theorem k_L_291 : LkV RL 291 m_X10_saveSnapshot 1 := ⟨q_1767, q_1768, q_1769, ⟨q_11, q_1770, by decide, by decide, by decide +kernel⟩⟩
set_option maxHeartbeats 4000000 in
theorem lc_45 {p : Program} {l : Launch} {e : Env} {s : State} {m : MethodId} {args : Array Value} {below : List Frame} {meth : Method} {c : Code} {H : Heap} {locs : List Loc} {cells slots : Nat} {Q : State → Prop} {g : GT} {A : Nat → Prop} {ws : va_W} {ls : Array Slot} {b L : Nat} {xs : Nat → Int32} {i4 : Int32} {hx hm ho : Nat} {wc wd wd' we : va_W} {wc' wn1 wn2 : (Nat → Nat) → va_W} {k1 k2 mc1 ms1 : Nat} {kv bv tv : Int32} {fs1 fs2 fs3 : List Value} (X : Lx p s m args meth c g A b L xs i4) (w : Wd g A ws s.heap H locs) (hl : lv_has ls 7 [(0, .ref b), (1, .ref hx), (2, .ref hm), (3, .ref ho), (4, .int i4)]) (P1 : PM ws wc wc' wn1) (hK1 : ∀ sz, CI l m_X9_saveSnapshotP (rml k1 mc1 ms1) g wc wc' sz [.ref hx, .int (xs (i4 + 1).toNatClampNeg)] kv) (hm1 : (hx, .inr (9, fs1)) ∈ wc) (P2 : ∀ u, PM (wn1 u) wd (fun _ => wd') (fun _ => wn2 u)) (hK2 : ∀ sz, CI l m_X10_saveSnapshot (rml k2 0 0) g wd (fun _ => wd') sz [.ref hm, .int (xs (i4 + 1).toNatClampNeg)] bv) (hm2 : (hm, .inr (10, fs2)) ∈ wd) (heq : kv = bv) (hk1 : k1 ≤ 100) (hk2 : k2 ≤ 100) (hc1 : cells + mc1 ≤ room_1.cells) (hs1 : slots + ms1 ≤ room_1.slots) (kk : ∀ (u : Nat → Nat) (H : Heap) (locs : List Loc) (ls : Array Slot), Wd g A (wn2 u) s.heap H locs → lv_has ls 7 [(0, .ref b), (1, .ref hx), (2, .ref hm), (3, .ref ho), (4, .int i4)] → W p l e room_1 s m args below meth c H locs (cells + mc1) (slots + ms1) Q (F0 m 2724 ls [])) : W p l e room_1 s m args below meth c H locs cells slots Q (F0 m 2674 ls []) := by
  obtain ⟨C, hX, hbl, hbA, hi1, hi2, hi3, hi4, hi5⟩ := X
  have hx9 := C.1
  have hb : c.code = cL_law := C.2.1
  have hc2 : cells + mc1 + 0 ≤ room_1.cells := hc1
  have hs2 : slots + ms1 + 0 ≤ room_1.slots := hs1
  refine lv_aload_n hx9 hb dL_law_2674 rfl (lv_at hl 1 rfl) ?_
  refine lv_aload_n hx9 hb dL_law_2675 rfl (lv_at hl 0 rfl) ?_
  refine lv_iload hx9 hb dL_law_2676 (lv_at hl 4 rfl) ?_
  refine lv_iconst (v := 1) hx9 hb dL_law_2678 (by decide) ?_
  refine lv_iadd hx9 hb dL_law_2679 ?_
  refine va_sld hx9 hb hX hbl hbA w.2.2 hi1 dL_law_2680 ?_
  refine cm_iV C w P1 (hK1 _) k_L_287P (rm_law hk1 (by decide)) hm1 rfl rfl rfl hl.1 rfl (Nat.le_of_ble_eq_true rfl) dL_law_2681 ⟨hc1, hs1⟩ (fun u H locs w => ?_)
  refine lv_aload_n hx9 hb dL_law_2684 rfl (lv_at hl 2 rfl) ?_
  refine lv_aload_n hx9 hb dL_law_2685 rfl (lv_at hl 0 rfl) ?_
  refine lv_iload hx9 hb dL_law_2686 (lv_at hl 4 rfl) ?_
  refine lv_iconst (v := 1) hx9 hb dL_law_2688 (by decide) ?_
  refine lv_iadd hx9 hb dL_law_2689 ?_
  refine va_sld hx9 hb hX hbl hbA w.2.2 hi1 dL_law_2690 ?_
  refine cm_iV C w (P2 u) (hK2 _) k_L_291 (rm_law hk2 (by decide)) hm2 rfl rfl rfl hl.1 rfl (Nat.le_of_ble_eq_true rfl) dL_law_2691 ⟨hc2, hs2⟩ (fun _ H locs w => ?_)
  refine lv_icmp_eq (tgt := 2724) hx9 hb dL_law_2694 (by decide) (fun _ => ?_) (fun n => absurd heq n)
  exact kk u _ _ _ w (lv_sub hl [0, 1, 2, 3, 4] rfl)


theorem q_513 : Cond.code yX9_restoreSnapshot cX9_restoreSnapshot 3 (some .boolean) ∈ TS := ts_t 513 (by decide +kernel) (by decide +kernel)
theorem q_510 : Cond.methodLink RL 292 yX9_restoreSnapshot ∈ TS := ts_t 510 (by decide +kernel) (by decide +kernel)
theorem q_511 : Cond.instanceMethod yX9_restoreSnapshot ∈ TS := ts_t 511 (by decide +kernel) (by decide +kernel)
theorem q_512 : Cond.selects yX9_restoreSnapshot.cls yX9_restoreSnapshot yX9_restoreSnapshot ∈ TS := ts_t 512 (by decide +kernel) (by decide +kernel)
theorem k_L_292P : LkV RL 292 m_X9_restoreSnapshotP 1 := ⟨q_510, q_511, q_512, ⟨q_1, q_513, by decide, by decide, by decide +kernel⟩⟩
theorem q_1774 : Cond.code yX10_restoreSnapshot cX10_restoreSnapshot 3 (some .boolean) ∈ TS := ts_t 1774 (by decide +kernel) (by decide +kernel)
theorem q_1771 : Cond.methodLink RL 295 yX10_restoreSnapshot ∈ TS := ts_t 1771 (by decide +kernel) (by decide +kernel)
theorem q_1772 : Cond.instanceMethod yX10_restoreSnapshot ∈ TS := ts_t 1772 (by decide +kernel) (by decide +kernel)
theorem q_1773 : Cond.selects yX10_restoreSnapshot.cls yX10_restoreSnapshot yX10_restoreSnapshot ∈ TS := ts_t 1773 (by decide +kernel) (by decide +kernel)
theorem k_L_295 : LkV RL 295 m_X10_restoreSnapshot 1 := ⟨q_1771, q_1772, q_1773, ⟨q_11, q_1774, by decide, by decide, by decide +kernel⟩⟩
set_option maxHeartbeats 4000000 in
theorem lc_46 {p : Program} {l : Launch} {e : Env} {s : State} {m : MethodId} {args : Array Value} {below : List Frame} {meth : Method} {c : Code} {H : Heap} {locs : List Loc} {cells slots : Nat} {Q : State → Prop} {g : GT} {A : Nat → Prop} {ws : va_W} {ls : Array Slot} {b L : Nat} {xs : Nat → Int32} {i4 : Int32} {hx hm ho : Nat} {wc wd wd' we : va_W} {wc' wn1 wn2 : (Nat → Nat) → va_W} {k1 k2 mc1 ms1 : Nat} {kv bv tv : Int32} {fs1 fs2 fs3 : List Value} (X : Lx p s m args meth c g A b L xs i4) (w : Wd g A ws s.heap H locs) (hl : lv_has ls 7 [(0, .ref b), (1, .ref hx), (2, .ref hm), (3, .ref ho), (4, .int i4)]) (P1 : PM ws wc wc' wn1) (hK1 : ∀ sz, CI l m_X9_restoreSnapshotP (rml k1 mc1 ms1) g wc wc' sz [.ref hx, .int (xs (i4 + 1).toNatClampNeg)] kv) (hm1 : (hx, .inr (9, fs1)) ∈ wc) (P2 : ∀ u, PM (wn1 u) wd (fun _ => wd') (fun _ => wn2 u)) (hK2 : ∀ sz, CI l m_X10_restoreSnapshot (rml k2 0 0) g wd (fun _ => wd') sz [.ref hm, .int (xs (i4 + 1).toNatClampNeg)] bv) (hm2 : (hm, .inr (10, fs2)) ∈ wd) (heq : kv = bv) (hk1 : k1 ≤ 100) (hk2 : k2 ≤ 100) (hc1 : cells + mc1 ≤ room_1.cells) (hs1 : slots + ms1 ≤ room_1.slots) (kk : ∀ (u : Nat → Nat) (H : Heap) (locs : List Loc) (ls : Array Slot), Wd g A (wn2 u) s.heap H locs → lv_has ls 7 [(0, .ref b), (1, .ref hx), (2, .ref hm), (3, .ref ho), (4, .int i4)] → W p l e room_1 s m args below meth c H locs (cells + mc1) (slots + ms1) Q (F0 m 2724 ls [])) : W p l e room_1 s m args below meth c H locs cells slots Q (F0 m 2699 ls []) := by
  obtain ⟨C, hX, hbl, hbA, hi1, hi2, hi3, hi4, hi5⟩ := X
  have hx9 := C.1
  have hb : c.code = cL_law := C.2.1
  have hc2 : cells + mc1 + 0 ≤ room_1.cells := hc1
  have hs2 : slots + ms1 + 0 ≤ room_1.slots := hs1
  refine lv_aload_n hx9 hb dL_law_2699 rfl (lv_at hl 1 rfl) ?_
  refine lv_aload_n hx9 hb dL_law_2700 rfl (lv_at hl 0 rfl) ?_
  refine lv_iload hx9 hb dL_law_2701 (lv_at hl 4 rfl) ?_
  refine lv_iconst (v := 1) hx9 hb dL_law_2703 (by decide) ?_
  refine lv_iadd hx9 hb dL_law_2704 ?_
  refine va_sld hx9 hb hX hbl hbA w.2.2 hi1 dL_law_2705 ?_
  refine cm_iV C w P1 (hK1 _) k_L_292P (rm_law hk1 (by decide)) hm1 rfl rfl rfl hl.1 rfl (Nat.le_of_ble_eq_true rfl) dL_law_2706 ⟨hc1, hs1⟩ (fun u H locs w => ?_)
  refine lv_aload_n hx9 hb dL_law_2709 rfl (lv_at hl 2 rfl) ?_
  refine lv_aload_n hx9 hb dL_law_2710 rfl (lv_at hl 0 rfl) ?_
  refine lv_iload hx9 hb dL_law_2711 (lv_at hl 4 rfl) ?_
  refine lv_iconst (v := 1) hx9 hb dL_law_2713 (by decide) ?_
  refine lv_iadd hx9 hb dL_law_2714 ?_
  refine va_sld hx9 hb hX hbl hbA w.2.2 hi1 dL_law_2715 ?_
  refine cm_iV C w (P2 u) (hK2 _) k_L_295 (rm_law hk2 (by decide)) hm2 rfl rfl rfl hl.1 rfl (Nat.le_of_ble_eq_true rfl) dL_law_2716 ⟨hc2, hs2⟩ (fun _ H locs w => ?_)
  refine lv_icmp_eq (tgt := 2724) hx9 hb dL_law_2719 (by decide) (fun _ => ?_) (fun n => absurd heq n)
  exact kk u _ _ _ w (lv_sub hl [0, 1, 2, 3, 4] rfl)
