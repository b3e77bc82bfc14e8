theorem dX10_clearState_0 : decode cX10_clearState 0 = .ok (.iconst 0, 1) := by decide +kernel
theorem dX10_clearState_1 : decode cX10_clearState 1 = .ok (.istore_n 1, 1) := by decide +kernel
theorem dX10_clearState_2 : decode cX10_clearState 2 = .ok (.iload_n 1, 1) := by decide +kernel
theorem dX10_clearState_3 : decode cX10_clearState 3 = .ok (.sipush 2524, 3) := by decide +kernel
theorem dX10_clearState_6 : decode cX10_clearState 6 = .ok (.if_icmp .ge 16, 3) := by decide +kernel
theorem dX10_clearState_9 : decode cX10_clearState 9 = .ok (.aload_n 0, 1) := by decide +kernel
theorem dX10_clearState_10 : decode cX10_clearState 10 = .ok (.getfield 44, 3) := by decide +kernel
theorem dX10_clearState_13 : decode cX10_clearState 13 = .ok (.iload_n 1, 1) := by decide +kernel
theorem dX10_clearState_14 : decode cX10_clearState 14 = .ok (.iconst 0, 1) := by decide +kernel
theorem dX10_clearState_15 : decode cX10_clearState 15 = .ok (.iastore, 1) := by decide +kernel
theorem dX10_clearState_16 : decode cX10_clearState 16 = .ok (.iinc 1 1, 3) := by decide +kernel
theorem dX10_clearState_19 : decode cX10_clearState 19 = .ok (.goto (-17), 3) := by decide +kernel
theorem dX10_clearState_22 : decode cX10_clearState 22 = .ok (.return_, 1) := by decide +kernel
abbrev m_X10_clearState : MD := (yX10_clearState, cX10_clearState, 2, none)
theorem inX10s : ∀ w ∈ u_ws RX10 TX10 38, w ∈ TS := by
  show ∀ w ∈ [u_lay RX10 TX10 0, u_lay RX10 TX10 1, u_lay RX10 TX10 2, u_lay RX10 TX10 3, u_lay RX10 TX10 4, u_lay RX10 TX10 5, u_lay RX10 TX10 6, u_lay RX10 TX10 7, u_lay RX10 TX10 8, u_lay RX10 TX10 9, u_lay RX10 TX10 10, u_lay RX10 TX10 11, u_lay RX10 TX10 12, u_lay RX10 TX10 13, u_lay RX10 TX10 14, u_lay RX10 TX10 15, u_lay RX10 TX10 16, u_lay RX10 TX10 17, u_lay RX10 TX10 18, u_lay RX10 TX10 19, u_lay RX10 TX10 20, u_lay RX10 TX10 21, u_lay RX10 TX10 22, u_lay RX10 TX10 23, u_lay RX10 TX10 24, u_lay RX10 TX10 25, u_lay RX10 TX10 26, u_lay RX10 TX10 27, u_lay RX10 TX10 28, u_lay RX10 TX10 29, u_lay RX10 TX10 30, u_lay RX10 TX10 31, u_lay RX10 TX10 32, u_lay RX10 TX10 33, u_lay RX10 TX10 34, u_lay RX10 TX10 35, u_lay RX10 TX10 36, u_lay RX10 TX10 37], w ∈ TS
  exact List.forall_mem_cons.mpr ⟨ts_t 1260 (by decide +kernel) (by decide +kernel), List.forall_mem_cons.mpr ⟨ts_t 1262 (by decide +kernel) (by decide +kernel), List.forall_mem_cons.mpr ⟨ts_t 1264 (by decide +kernel) (by decide +kernel), List.forall_mem_cons.mpr ⟨ts_t 1266 (by decide +kernel) (by decide +kernel), List.forall_mem_cons.mpr ⟨ts_t 1268 (by decide +kernel) (by decide +kernel), List.forall_mem_cons.mpr ⟨ts_t 1270 (by decide +kernel) (by decide +kernel), List.forall_mem_cons.mpr ⟨ts_t 1272 (by decide +kernel) (by decide +kernel), List.forall_mem_cons.mpr ⟨ts_t 1274 (by decide +kernel) (by decide +kernel), List.forall_mem_cons.mpr ⟨ts_t 1276 (by decide +kernel) (by decide +kernel), List.forall_mem_cons.mpr ⟨ts_t 1278 (by decide +kernel) (by decide +kernel), List.forall_mem_cons.mpr ⟨ts_t 1280 (by decide +kernel) (by decide +kernel), List.forall_mem_cons.mpr ⟨ts_t 1282 (by decide +kernel) (by decide +kernel), List.forall_mem_cons.mpr ⟨ts_t 1284 (by decide +kernel) (by decide +kernel), List.forall_mem_cons.mpr ⟨ts_t 1286 (by decide +kernel) (by decide +kernel), List.forall_mem_cons.mpr ⟨ts_t 1288 (by decide +kernel) (by decide +kernel), List.forall_mem_cons.mpr ⟨ts_t 1290 (by decide +kernel) (by decide +kernel), List.forall_mem_cons.mpr ⟨ts_t 1292 (by decide +kernel) (by decide +kernel), List.forall_mem_cons.mpr ⟨ts_t 1294 (by decide +kernel) (by decide +kernel), List.forall_mem_cons.mpr ⟨ts_t 1296 (by decide +kernel) (by decide +kernel), List.forall_mem_cons.mpr ⟨ts_t 1298 (by decide +kernel) (by decide +kernel), List.forall_mem_cons.mpr ⟨ts_t 1300 (by decide +kernel) (by decide +kernel), List.forall_mem_cons.mpr ⟨ts_t 1302 (by decide +kernel) (by decide +kernel), List.forall_mem_cons.mpr ⟨ts_t 1304 (by decide +kernel) (by decide +kernel), List.forall_mem_cons.mpr ⟨ts_t 1306 (by decide +kernel) (by decide +kernel), List.forall_mem_cons.mpr ⟨ts_t 1308 (by decide +kernel) (by decide +kernel), List.forall_mem_cons.mpr ⟨ts_t 1310 (by decide +kernel) (by decide +kernel), List.forall_mem_cons.mpr ⟨ts_t 1312 (by decide +kernel) (by decide +kernel), List.forall_mem_cons.mpr ⟨ts_t 1314 (by decide +kernel) (by decide +kernel), List.forall_mem_cons.mpr ⟨ts_t 1316 (by decide +kernel) (by decide +kernel), List.forall_mem_cons.mpr ⟨ts_t 1318 (by decide +kernel) (by decide +kernel), List.forall_mem_cons.mpr ⟨ts_t 1320 (by decide +kernel) (by decide +kernel), List.forall_mem_cons.mpr ⟨ts_t 1322 (by decide +kernel) (by decide +kernel), List.forall_mem_cons.mpr ⟨ts_t 1324 (by decide +kernel) (by decide +kernel), List.forall_mem_cons.mpr ⟨ts_t 1326 (by decide +kernel) (by decide +kernel), List.forall_mem_cons.mpr ⟨ts_t 1328 (by decide +kernel) (by decide +kernel), List.forall_mem_cons.mpr ⟨ts_t 1330 (by decide +kernel) (by decide +kernel), List.forall_mem_cons.mpr ⟨ts_t 1332 (by decide +kernel) (by decide +kernel), List.forall_mem_cons.mpr ⟨ts_t 1334 (by decide +kernel) (by decide +kernel), fun _ h => absurd h List.not_mem_nil⟩⟩⟩⟩⟩⟩⟩⟩⟩⟩⟩⟩⟩⟩⟩⟩⟩⟩⟩⟩⟩⟩⟩⟩⟩⟩⟩⟩⟩⟩⟩⟩⟩⟩⟩⟩⟩⟩
theorem g_X10_44 {p : Program} {l : Launch} {e : Env} {R : Room} {s : State} {m : MethodId} {args : Array Value} {below : List Frame} {meth : Method} {c : Code} {H : Heap} {locs : List Loc} {cells slots : Nat} {Q : State → Prop} {d : MD} {g : GT} {A : Nat → Prop} {ws : va_W} {pc : Nat} {ls : Array Slot} {rest : List Value} (C : Cx p s m args meth c RX10 d g A) (w : Wd g A ws s.heap H locs) (q0 : Nat) {a : Nat} {fs : List Value} {v : Value} (he : ws[q0]? = some (a, .inr (10, fs))) (hv : fs[21]? = some v) (hd : decode d.2.1 pc = .ok (.getfield 44, 3)) (kk : W p l e R s m args below meth c H locs cells slots Q (F0 m (pc + 3) ls (v :: rest))) : W p l e R s m args below meth c H locs cells slots Q (F0 m pc ls (.ref a :: rest)) := fg C w inX10s (ref := RX10) rfl 21 (by decide) (ts_t (w := Cond.fieldLink RX10 44 RX10 (TX10 21).2.1 (TX10 21).2.2.1) 1243 (by decide +kernel) (by decide +kernel)) rfl q0 he hv hd kk
abbrev w_X10_clearState (g : GT) (h0 h1 : Nat) (v0_0 v0_1 v0_2 v0_3 v0_4 v0_5 v0_6 v0_7 v0_8 v0_9 v0_10 v0_11 v0_12 v0_13 v0_14 v0_15 v0_16 v0_17 v0_18 v0_19 v0_20 v0_22 v0_23 v0_24 v0_25 v0_26 v0_27 v0_28 v0_29 v0_30 v0_31 v0_32 v0_33 v0_34 v0_35 v0_36 v0_37 : Value) (state1 : Nat → Int32) : va_W := [(h0, .inr (10, [v0_0, v0_1, v0_2, v0_3, v0_4, v0_5, v0_6, v0_7, v0_8, v0_9, v0_10, v0_11, v0_12, v0_13, v0_14, v0_15, v0_16, v0_17, v0_18, v0_19, v0_20, .ref h1, v0_22, v0_23, v0_24, v0_25, v0_26, v0_27, v0_28, v0_29, v0_30, v0_31, v0_32, v0_33, v0_34, v0_35, v0_36, v0_37])), (h1, aI g 2524 state1)]
def f_X10_clearState_h2 (F : Nat) (k2 : (Int32 × (Nat → Int32)) → Option ((Nat → Int32))) (x1 : Int32) (state1 : Nat → Int32) : Option ((Nat → Int32)) :=
  if 2524 ≤ x1 then
    some state1
  else
    wr state1 2524 x1 0 fun f2 =>
    k2 (x1 + 1, f2)
def f_X10_clearState_L2 (F : Nat) (z : Int32 × (Nat → Int32)) : Option ((Nat → Int32)) := lp (fun k z => f_X10_clearState_h2 F k z.1 z.2) F z
def f_X10_clearState (F : Nat) (state1 : Nat → Int32) : Option ((Nat → Int32)) :=
  f_X10_clearState_L2 F (0, state1)
set_option maxHeartbeats 4000000 in
set_option maxRecDepth 100000 in
theorem c_X10_clearState (l : Launch) (g : GT) (F : Nat) (h0 h1 : Nat) (v0_0 v0_1 v0_2 v0_3 v0_4 v0_5 v0_6 v0_7 v0_8 v0_9 v0_10 v0_11 v0_12 v0_13 v0_14 v0_15 v0_16 v0_17 v0_18 v0_19 v0_20 v0_22 v0_23 v0_24 v0_25 v0_26 v0_27 v0_28 v0_29 v0_30 v0_31 v0_32 v0_33 v0_34 v0_35 v0_36 v0_37 : Value) (state1 : Nat → Int32) (o_state1 : Nat → Int32) (sz : Nat) (hf : f_X10_clearState F state1 = some o_state1) : CV l m_X10_clearState (rml 0 0 0) g (w_X10_clearState g h0 h1 v0_0 v0_1 v0_2 v0_3 v0_4 v0_5 v0_6 v0_7 v0_8 v0_9 v0_10 v0_11 v0_12 v0_13 v0_14 v0_15 v0_16 v0_17 v0_18 v0_19 v0_20 v0_22 v0_23 v0_24 v0_25 v0_26 v0_27 v0_28 v0_29 v0_30 v0_31 v0_32 v0_33 v0_34 v0_35 v0_36 v0_37 state1) (fun _ => w_X10_clearState g h0 h1 v0_0 v0_1 v0_2 v0_3 v0_4 v0_5 v0_6 v0_7 v0_8 v0_9 v0_10 v0_11 v0_12 v0_13 v0_14 v0_15 v0_16 v0_17 v0_18 v0_19 v0_20 v0_22 v0_23 v0_24 v0_25 v0_26 v0_27 v0_28 v0_29 v0_30 v0_31 v0_32 v0_33 v0_34 v0_35 v0_36 v0_37 o_state1) sz [.ref h0] := by
  refine en_v (by decide) (Nat.le_of_ble_eq_true rfl) (fun p e s m args below meth c A ls C w hl => ?_)
  have C : Cx p s m args meth c RX10 m_X10_clearState g A := C
  have hx := C.1
  have hb : c.code = cX10_clearState := C.2.1
  have hl : lv_has ls 2 [(0, .ref h0)] := hl
  obtain ⟨Q, hQ⟩ : ∃ Q, Q = QV below args s g A (fun _ => w_X10_clearState g h0 h1 v0_0 v0_1 v0_2 v0_3 v0_4 v0_5 v0_6 v0_7 v0_8 v0_9 v0_10 v0_11 v0_12 v0_13 v0_14 v0_15 v0_16 v0_17 v0_18 v0_19 v0_20 v0_22 v0_23 v0_24 v0_25 v0_26 v0_27 v0_28 v0_29 v0_30 v0_31 v0_32 v0_33 v0_34 v0_35 v0_36 v0_37 o_state1) 0 0 := ⟨_, rfl⟩
  suffices hW : W p l e (rml 0 0 0) s m args below meth c s.heap [] 0 0 Q (F0 m 0 ls []) from (by rw [hQ] at hW; exact hW)
  unfold f_X10_clearState at hf
  have L2 : ∀ (z : Int32 × (Nat → Int32)), f_X10_clearState_L2 F z = some o_state1 → ∀ (H : Heap) (locs : List Loc) (ls : Array Slot), Wd g A (w_X10_clearState g h0 h1 v0_0 v0_1 v0_2 v0_3 v0_4 v0_5 v0_6 v0_7 v0_8 v0_9 v0_10 v0_11 v0_12 v0_13 v0_14 v0_15 v0_16 v0_17 v0_18 v0_19 v0_20 v0_22 v0_23 v0_24 v0_25 v0_26 v0_27 v0_28 v0_29 v0_30 v0_31 v0_32 v0_33 v0_34 v0_35 v0_36 v0_37 z.2) s.heap H locs → lv_has ls 2 [(0, .ref h0), (1, .int z.1)] → W p l e (rml 0 0 0) s m args below meth c H locs 0 0 Q (F0 m 2 ls []) := by
    intro z hf
    refine lp_W (r := o_state1) (fun (z : Int32 × (Nat → Int32)) => ∀ (H : Heap) (locs : List Loc) (ls : Array Slot), Wd g A (w_X10_clearState g h0 h1 v0_0 v0_1 v0_2 v0_3 v0_4 v0_5 v0_6 v0_7 v0_8 v0_9 v0_10 v0_11 v0_12 v0_13 v0_14 v0_15 v0_16 v0_17 v0_18 v0_19 v0_20 v0_22 v0_23 v0_24 v0_25 v0_26 v0_27 v0_28 v0_29 v0_30 v0_31 v0_32 v0_33 v0_34 v0_35 v0_36 v0_37 z.2) s.heap H locs → lv_has ls 2 [(0, .ref h0), (1, .int z.1)] → W p l e (rml 0 0 0) s m args below meth c H locs 0 0 Q (F0 m 2 ls [])) (fun k2 z ih2 hf => ?_) F z hf
    obtain ⟨x1, state1⟩ := z
    intro H locs ls w hl
    try dsimp only at hf w hl ⊢
    unfold f_X10_clearState_h2 at hf
    refine lv_iload_n hx hb dX10_clearState_2 rfl (lv_at hl 1 rfl) ?_
    refine lv_sipush (v := 2524) hx hb dX10_clearState_3 (by decide) ?_
    refine lv_icmp_ge (tgt := 22) hx hb dX10_clearState_6 (by decide) (fun c1 => ?_) (fun c1 => ?_)
    · replace hf := it_t c1 hf
      obtain e1 := tp1 hf
      rw [hQ]
      exact rt_v C w rfl (fun _ => 0) (by rw [← e1]) dX10_clearState_22
    · replace hf := it_f c1 hf
      refine lv_aload_n hx hb dX10_clearState_9 rfl (lv_at hl 0 rfl) ?_
      refine g_X10_44 C w 0 rfl rfl dX10_clearState_10 ?_
      refine lv_iload_n hx hb dX10_clearState_13 rfl (lv_at hl 1 rfl) ?_
      refine lv_iconst (v := 0) hx hb dX10_clearState_14 (by decide) ?_
      obtain ⟨f2, hif2, haf2, hf⟩ := wr_some hf
      refine ias C w 1 rfl hif2 haf2 (ws2 := w_X10_clearState g h0 h1 v0_0 v0_1 v0_2 v0_3 v0_4 v0_5 v0_6 v0_7 v0_8 v0_9 v0_10 v0_11 v0_12 v0_13 v0_14 v0_15 v0_16 v0_17 v0_18 v0_19 v0_20 v0_22 v0_23 v0_24 v0_25 v0_26 v0_27 v0_28 v0_29 v0_30 v0_31 v0_32 v0_33 v0_34 v0_35 v0_36 v0_37 f2) rfl dX10_clearState_15 (fun H locs w => ?_)
      refine lv_iinc (v := x1 + 1) (lv' := [(1, .int (x1 + 1)), (0, .ref h0)]) hx hb dX10_clearState_16 hl (k := 1) rfl rfl (by decide) rfl (fun ls hl => ?_)
      refine lv_goto (tgt := 2) hx hb dX10_clearState_19 (by decide) ?_
      exact ih2 (x1 + 1, f2) hf _ _ _ w (lv_sub hl [1, 0] rfl)
  refine lv_iconst (v := 0) hx hb dX10_clearState_0 (by decide) ?_
  refine lv_istore_n (lv' := [(1, .int 0), (0, .ref h0)]) hx hb dX10_clearState_1 rfl hl (by decide) rfl (fun ls hl => ?_)
  exact L2 (0, state1) hf _ _ _ w (lv_sub hl [1, 0] rfl)

theorem dX10_thrown_0 : decode cX10_thrown 0 = .ok (.aload_n 0, 1) := by decide +kernel
theorem dX10_thrown_1 : decode cX10_thrown 1 = .ok (.getfield 84, 3) := by decide +kernel
theorem dX10_thrown_4 : decode cX10_thrown 4 = .ok (.ireturn, 1) := by decide +kernel
abbrev m_X10_thrown : MD := (yX10_thrown, cX10_thrown, 1, (some .int))
theorem g_X10_84 {p : Program} {l : Launch} {e : Env} {R : Room} {s : State} {m : MethodId} {args : Array Value} {below : List Frame} {meth : Method} {c : Code} {H : Heap} {locs : List Loc} {cells slots : Nat} {Q : State → Prop} {d : MD} {g : GT} {A : Nat → Prop} {ws : va_W} {pc : Nat} {ls : Array Slot} {rest : List Value} (C : Cx p s m args meth c RX10 d g A) (w : Wd g A ws s.heap H locs) (q0 : Nat) {a : Nat} {fs : List Value} {v : Value} (he : ws[q0]? = some (a, .inr (10, fs))) (hv : fs[0]? = some v) (hd : decode d.2.1 pc = .ok (.getfield 84, 3)) (kk : W p l e R s m args below meth c H locs cells slots Q (F0 m (pc + 3) ls (v :: rest))) : W p l e R s m args below meth c H locs cells slots Q (F0 m pc ls (.ref a :: rest)) := fg C w inX10s (ref := RX10) rfl 0 (by decide) (ts_t (w := Cond.fieldLink RX10 84 RX10 (TX10 0).2.1 (TX10 0).2.2.1) 1222 (by decide +kernel) (by decide +kernel)) rfl q0 he hv hd kk
abbrev w_X10_thrown (g : GT) (h0 : Nat) (v0_1 v0_2 v0_3 v0_4 v0_5 v0_6 v0_7 v0_8 v0_9 v0_10 v0_11 v0_12 v0_13 v0_14 v0_15 v0_16 v0_17 v0_18 v0_19 v0_20 v0_21 v0_22 v0_23 v0_24 v0_25 v0_26 v0_27 v0_28 v0_29 v0_30 v0_31 v0_32 v0_33 v0_34 v0_35 v0_36 v0_37 : Value) (thrown0 : Int32) : va_W := [(h0, .inr (10, [.int thrown0, v0_1, v0_2, v0_3, v0_4, v0_5, v0_6, v0_7, v0_8, v0_9, v0_10, v0_11, v0_12, v0_13, v0_14, v0_15, v0_16, v0_17, v0_18, v0_19, v0_20, v0_21, v0_22, v0_23, v0_24, v0_25, v0_26, v0_27, v0_28, v0_29, v0_30, v0_31, v0_32, v0_33, v0_34, v0_35, v0_36, v0_37]))]
def f_X10_thrown (F : Nat) (thrown0 : Int32) : Option (Int32) :=
  some thrown0
set_option maxHeartbeats 4000000 in
set_option maxRecDepth 100000 in
theorem c_X10_thrown (l : Launch) (g : GT) (F : Nat) (h0 : Nat) (v0_1 v0_2 v0_3 v0_4 v0_5 v0_6 v0_7 v0_8 v0_9 v0_10 v0_11 v0_12 v0_13 v0_14 v0_15 v0_16 v0_17 v0_18 v0_19 v0_20 v0_21 v0_22 v0_23 v0_24 v0_25 v0_26 v0_27 v0_28 v0_29 v0_30 v0_31 v0_32 v0_33 v0_34 v0_35 v0_36 v0_37 : Value) (thrown0 : Int32) (r : Int32) (sz : Nat) (hf : f_X10_thrown F thrown0 = some r) : CI l m_X10_thrown (rml 0 0 0) g (w_X10_thrown g h0 v0_1 v0_2 v0_3 v0_4 v0_5 v0_6 v0_7 v0_8 v0_9 v0_10 v0_11 v0_12 v0_13 v0_14 v0_15 v0_16 v0_17 v0_18 v0_19 v0_20 v0_21 v0_22 v0_23 v0_24 v0_25 v0_26 v0_27 v0_28 v0_29 v0_30 v0_31 v0_32 v0_33 v0_34 v0_35 v0_36 v0_37 thrown0) (fun _ => w_X10_thrown g h0 v0_1 v0_2 v0_3 v0_4 v0_5 v0_6 v0_7 v0_8 v0_9 v0_10 v0_11 v0_12 v0_13 v0_14 v0_15 v0_16 v0_17 v0_18 v0_19 v0_20 v0_21 v0_22 v0_23 v0_24 v0_25 v0_26 v0_27 v0_28 v0_29 v0_30 v0_31 v0_32 v0_33 v0_34 v0_35 v0_36 v0_37 thrown0) sz [.ref h0] r := by
  refine en_i (by decide) (Nat.le_of_ble_eq_true rfl) (fun p e s m args below meth c A ls C w hl => ?_)
  have C : Cx p s m args meth c RX10 m_X10_thrown g A := C
  have hx := C.1
  have hb : c.code = cX10_thrown := C.2.1
  have hl : lv_has ls 1 [(0, .ref h0)] := hl
  obtain ⟨Q, hQ⟩ : ∃ Q, Q = QI below args s g A (fun _ => w_X10_thrown g h0 v0_1 v0_2 v0_3 v0_4 v0_5 v0_6 v0_7 v0_8 v0_9 v0_10 v0_11 v0_12 v0_13 v0_14 v0_15 v0_16 v0_17 v0_18 v0_19 v0_20 v0_21 v0_22 v0_23 v0_24 v0_25 v0_26 v0_27 v0_28 v0_29 v0_30 v0_31 v0_32 v0_33 v0_34 v0_35 v0_36 v0_37 thrown0) r 0 0 := ⟨_, rfl⟩
  suffices hW : W p l e (rml 0 0 0) s m args below meth c s.heap [] 0 0 Q (F0 m 0 ls []) from (by rw [hQ] at hW; exact hW)
  unfold f_X10_thrown at hf
  refine lv_aload_n hx hb dX10_thrown_0 rfl (lv_at hl 0 rfl) ?_
  refine g_X10_84 C w 0 rfl rfl dX10_thrown_1 ?_
  obtain e1 := tp1 hf
  rw [hQ]
  exact rt_i C w rfl (fun _ => 0) rfl e1 dX10_thrown_4

theorem dX10_within_0 : decode cX10_within 0 = .ok (.lload_n 0, 1) := by decide +kernel
theorem dX10_within_1 : decode cX10_within 1 = .ok (.lload_n 2, 1) := by decide +kernel
theorem dX10_within_2 : decode cX10_within 2 = .ok (.lcmp, 1) := by decide +kernel
theorem dX10_within_3 : decode cX10_within 3 = .ok (.ifCond .lt 14, 3) := by decide +kernel
theorem dX10_within_6 : decode cX10_within 6 = .ok (.lload_n 0, 1) := by decide +kernel
theorem dX10_within_7 : decode cX10_within 7 = .ok (.lload 4, 2) := by decide +kernel
theorem dX10_within_9 : decode cX10_within 9 = .ok (.lcmp, 1) := by decide +kernel
theorem dX10_within_10 : decode cX10_within 10 = .ok (.ifCond .gt 7, 3) := by decide +kernel
theorem dX10_within_13 : decode cX10_within 13 = .ok (.iconst 1, 1) := by decide +kernel
theorem dX10_within_14 : decode cX10_within 14 = .ok (.goto 4, 3) := by decide +kernel
theorem dX10_within_17 : decode cX10_within 17 = .ok (.iconst 0, 1) := by decide +kernel
theorem dX10_within_18 : decode cX10_within 18 = .ok (.ireturn, 1) := by decide +kernel
abbrev m_X10_within : MD := (yX10_within, cX10_within, 6, (some .boolean))

abbrev w_X10_within (g : GT) : va_W := []
def f_X10_within_b18 (F : Nat) (s0 : Int32) : Option (Int32) :=
  gd (s0 = 0 ∨ s0 = 1) (some s0)
def f_X10_within_b17 (F : Nat) : Option (Int32) :=
  f_X10_within_b18 F 0
def f_X10_within (F : Nat) (p0 p2 p4 : Int64) : Option (Int32) :=
  if (lg_cmp p0 p2) < 0 then
    f_X10_within_b17 F
  else
    if 0 < (lg_cmp p0 p4) then
      f_X10_within_b17 F
    else
      f_X10_within_b18 F 1
set_option maxHeartbeats 4000000 in
set_option maxRecDepth 100000 in
theorem c_X10_within (l : Launch) (g : GT) (F : Nat) (p0 p2 p4 : Int64) (r : Int32) (sz : Nat) (hf : f_X10_within F p0 p2 p4 = some r) : CI l m_X10_within (rml 0 0 0) g (w_X10_within g) (fun _ => w_X10_within g) sz [.long p0, .long p2, .long p4] r := by
  refine en_i (by decide) (Nat.le_of_ble_eq_true rfl) (fun p e s m args below meth c A ls C w hl => ?_)
  have C : Cx p s m args meth c RX10 m_X10_within g A := C
  have hx := C.1
  have hb : c.code = cX10_within := C.2.1
  have hl : lv_has ls 6 [(0, .long p0), (2, .long p2), (4, .long p4)] := hl
  obtain ⟨Q, hQ⟩ : ∃ Q, Q = QI below args s g A (fun _ => w_X10_within g) r 0 0 := ⟨_, rfl⟩
  suffices hW : W p l e (rml 0 0 0) s m args below meth c s.heap [] 0 0 Q (F0 m 0 ls []) from (by rw [hQ] at hW; exact hW)
  unfold f_X10_within at hf
  have b18 : ∀ (s0 : Int32) (H : Heap) (locs : List Loc) (ls : Array Slot), f_X10_within_b18 F s0 = some r → Wd g A (w_X10_within g) s.heap H locs → lv_has ls 6 [] → W p l e (rml 0 0 0) s m args below meth c H locs 0 0 Q (F0 m 18 ls [.int s0]) := by
    intro s0 H locs ls hf w hl
    unfold f_X10_within_b18 at hf
    obtain ⟨h01, hf⟩ := gd_some hf
    obtain e1 := tp1 hf
    rw [hQ]
    exact rt_z C w rfl h01 (fun _ => 0) rfl e1 dX10_within_18
  have b17 : ∀ (H : Heap) (locs : List Loc) (ls : Array Slot), f_X10_within_b17 F = some r → Wd g A (w_X10_within g) s.heap H locs → lv_has ls 6 [] → W p l e (rml 0 0 0) s m args below meth c H locs 0 0 Q (F0 m 17 ls []) := by
    intro  H locs ls hf w hl
    unfold f_X10_within_b17 at hf
    refine lv_iconst (v := 0) hx hb dX10_within_17 (by decide) ?_
    exact b18 0 _ _ _ hf w (lv_sub hl [] rfl)
  refine lv_lload_n hx hb dX10_within_0 rfl (lv_at hl 0 rfl) ?_
  refine lv_lload_n hx hb dX10_within_1 rfl (lv_at hl 1 rfl) ?_
  refine W.lcmp hx hb dX10_within_2 ?_
  refine lv_if_lt (tgt := 17) hx hb dX10_within_3 (by decide) (fun c1 => ?_) (fun c1 => ?_)
  · replace hf := it_t c1 hf
    exact b17  _ _ _ hf w (lv_sub hl [] rfl)
  · replace hf := it_f c1 hf
    refine lv_lload_n hx hb dX10_within_6 rfl (lv_at hl 0 rfl) ?_
    refine lv_lload hx hb dX10_within_7 (lv_at hl 2 rfl) ?_
    refine W.lcmp hx hb dX10_within_9 ?_
    refine lv_if_gt (tgt := 17) hx hb dX10_within_10 (by decide) (fun c2 => ?_) (fun c2 => ?_)
    · replace hf := it_t c2 hf
      exact b17  _ _ _ hf w (lv_sub hl [] rfl)
    · replace hf := it_f c2 hf
      refine lv_iconst (v := 1) hx hb dX10_within_13 (by decide) ?_
      refine lv_goto (tgt := 18) hx hb dX10_within_14 (by decide) ?_
      exact b18 1 _ _ _ hf w (lv_sub hl [] rfl)

theorem dX10_fail_0 : decode cX10_fail 0 = .ok (.aload_n 0, 1) := by decide +kernel
theorem dX10_fail_1 : decode cX10_fail 1 = .ok (.iload_n 1, 1) := by decide +kernel
theorem dX10_fail_2 : decode cX10_fail 2 = .ok (.putfield 84, 3) := by decide +kernel
theorem dX10_fail_5 : decode cX10_fail 5 = .ok (.iconst 0, 1) := by decide +kernel
theorem dX10_fail_6 : decode cX10_fail 6 = .ok (.ireturn, 1) := by decide +kernel
abbrev m_X10_fail : MD := (yX10_fail, cX10_fail, 2, (some .int))
theorem p_X10_84 {p : Program} {l : Launch} {e : Env} {R : Room} {s : State} {m : MethodId} {args : Array Value} {below : List Frame} {meth : Method} {c : Code} {H : Heap} {locs : List Loc} {cells slots : Nat} {Q : State → Prop} {d : MD} {g : GT} {A : Nat → Prop} {ws : va_W} {pc : Nat} {ls : Array Slot} {rest : List Value} (C : Cx p s m args meth c RX10 d g A) (w : Wd g A ws s.heap H locs) (q0 : Nat) {a : Nat} {fs : List Value} {x : Int32} (he : ws[q0]? = some (a, .inr (10, fs))) (hlt : 0 < fs.length) {ws2 : va_W} (h2 : ws.set q0 (a, .inr (10, fs.set 0 (.int x))) = ws2) (hd : decode d.2.1 pc = .ok (.putfield 84, 3)) (kk : ∀ (H1 : Heap) (locs1 : List Loc), Wd g A ws2 s.heap H1 locs1 → W p l e R s m args below meth c H1 locs1 cells slots Q (F0 m (pc + 3) ls rest)) : W p l e R s m args below meth c H locs cells slots Q (F0 m pc ls (.int x :: .ref a :: rest)) := fp C w inX10s tyX10_ok nmX10 (ref := RX10) rfl 0 (by decide) (ts_t (w := Cond.fieldLink RX10 84 RX10 (TX10 0).2.1 (TX10 0).2.2.1) 1222 (by decide +kernel) (by decide +kernel)) rfl rfl q0 he rfl rfl hlt h2 hd kk
abbrev w_X10_fail (g : GT) (h0 : Nat) (v0_1 v0_2 v0_3 v0_4 v0_5 v0_6 v0_7 v0_8 v0_9 v0_10 v0_11 v0_12 v0_13 v0_14 v0_15 v0_16 v0_17 v0_18 v0_19 v0_20 v0_21 v0_22 v0_23 v0_24 v0_25 v0_26 v0_27 v0_28 v0_29 v0_30 v0_31 v0_32 v0_33 v0_34 v0_35 v0_36 v0_37 : Value) (thrown0 : Int32) : va_W := [(h0, .inr (10, [.int thrown0, v0_1, v0_2, v0_3, v0_4, v0_5, v0_6, v0_7, v0_8, v0_9, v0_10, v0_11, v0_12, v0_13, v0_14, v0_15, v0_16, v0_17, v0_18, v0_19, v0_20, v0_21, v0_22, v0_23, v0_24, v0_25, v0_26, v0_27, v0_28, v0_29, v0_30, v0_31, v0_32, v0_33, v0_34, v0_35, v0_36, v0_37]))]
def f_X10_fail (F : Nat) (p1 thrown0 : Int32) : Option (Int32 × Int32) :=
  some (0, p1)
set_option maxHeartbeats 4000000 in
set_option maxRecDepth 100000 in
theorem c_X10_fail (l : Launch) (g : GT) (F : Nat) (h0 : Nat) (v0_1 v0_2 v0_3 v0_4 v0_5 v0_6 v0_7 v0_8 v0_9 v0_10 v0_11 v0_12 v0_13 v0_14 v0_15 v0_16 v0_17 v0_18 v0_19 v0_20 v0_21 v0_22 v0_23 v0_24 v0_25 v0_26 v0_27 v0_28 v0_29 v0_30 v0_31 v0_32 v0_33 v0_34 v0_35 v0_36 v0_37 : Value) (p1 thrown0 : Int32) (r o_thrown0 : Int32) (sz : Nat) (hf : f_X10_fail F p1 thrown0 = some (r, o_thrown0)) : CI l m_X10_fail (rml 0 0 0) g (w_X10_fail g h0 v0_1 v0_2 v0_3 v0_4 v0_5 v0_6 v0_7 v0_8 v0_9 v0_10 v0_11 v0_12 v0_13 v0_14 v0_15 v0_16 v0_17 v0_18 v0_19 v0_20 v0_21 v0_22 v0_23 v0_24 v0_25 v0_26 v0_27 v0_28 v0_29 v0_30 v0_31 v0_32 v0_33 v0_34 v0_35 v0_36 v0_37 thrown0) (fun _ => w_X10_fail g h0 v0_1 v0_2 v0_3 v0_4 v0_5 v0_6 v0_7 v0_8 v0_9 v0_10 v0_11 v0_12 v0_13 v0_14 v0_15 v0_16 v0_17 v0_18 v0_19 v0_20 v0_21 v0_22 v0_23 v0_24 v0_25 v0_26 v0_27 v0_28 v0_29 v0_30 v0_31 v0_32 v0_33 v0_34 v0_35 v0_36 v0_37 o_thrown0) sz [.ref h0, .int p1] r := by
  refine en_i (by decide) (Nat.le_of_ble_eq_true rfl) (fun p e s m args below meth c A ls C w hl => ?_)
  have C : Cx p s m args meth c RX10 m_X10_fail g A := C
  have hx := C.1
  have hb : c.code = cX10_fail := C.2.1
  have hl : lv_has ls 2 [(0, .ref h0), (1, .int p1)] := hl
  obtain ⟨Q, hQ⟩ : ∃ Q, Q = QI below args s g A (fun _ => w_X10_fail g h0 v0_1 v0_2 v0_3 v0_4 v0_5 v0_6 v0_7 v0_8 v0_9 v0_10 v0_11 v0_12 v0_13 v0_14 v0_15 v0_16 v0_17 v0_18 v0_19 v0_20 v0_21 v0_22 v0_23 v0_24 v0_25 v0_26 v0_27 v0_28 v0_29 v0_30 v0_31 v0_32 v0_33 v0_34 v0_35 v0_36 v0_37 o_thrown0) r 0 0 := ⟨_, rfl⟩
  suffices hW : W p l e (rml 0 0 0) s m args below meth c s.heap [] 0 0 Q (F0 m 0 ls []) from (by rw [hQ] at hW; exact hW)
  unfold f_X10_fail at hf
  refine lv_aload_n hx hb dX10_fail_0 rfl (lv_at hl 0 rfl) ?_
  refine lv_iload_n hx hb dX10_fail_1 rfl (lv_at hl 1 rfl) ?_
  refine p_X10_84 C w 0 rfl (Nat.le_of_ble_eq_true rfl) (ws2 := w_X10_fail g h0 v0_1 v0_2 v0_3 v0_4 v0_5 v0_6 v0_7 v0_8 v0_9 v0_10 v0_11 v0_12 v0_13 v0_14 v0_15 v0_16 v0_17 v0_18 v0_19 v0_20 v0_21 v0_22 v0_23 v0_24 v0_25 v0_26 v0_27 v0_28 v0_29 v0_30 v0_31 v0_32 v0_33 v0_34 v0_35 v0_36 v0_37 p1) rfl dX10_fail_2 (fun H locs w => ?_)
  refine lv_iconst (v := 0) hx hb dX10_fail_5 (by decide) ?_
  obtain ⟨e1, e2⟩ := tp2 hf
  rw [hQ]
  exact rt_i C w rfl (fun _ => 0) (by rw [← e2]) e1 dX10_fail_6

theorem dX10_told_0 : decode cX10_told 0 = .ok (.aload_n 0, 1) := by decide +kernel
theorem dX10_told_1 : decode cX10_told 1 = .ok (.iconst 0, 1) := by decide +kernel
theorem dX10_told_2 : decode cX10_told 2 = .ok (.putfield 84, 3) := by decide +kernel
theorem dX10_told_5 : decode cX10_told 5 = .ok (.iload_n 1, 1) := by decide +kernel
theorem dX10_told_6 : decode cX10_told 6 = .ok (.ireturn, 1) := by decide +kernel
abbrev m_X10_told : MD := (yX10_told, cX10_told, 2, (some .int))

abbrev w_X10_told (g : GT) (h0 : Nat) (v0_1 v0_2 v0_3 v0_4 v0_5 v0_6 v0_7 v0_8 v0_9 v0_10 v0_11 v0_12 v0_13 v0_14 v0_15 v0_16 v0_17 v0_18 v0_19 v0_20 v0_21 v0_22 v0_23 v0_24 v0_25 v0_26 v0_27 v0_28 v0_29 v0_30 v0_31 v0_32 v0_33 v0_34 v0_35 v0_36 v0_37 : Value) (thrown0 : Int32) : va_W := [(h0, .inr (10, [.int thrown0, v0_1, v0_2, v0_3, v0_4, v0_5, v0_6, v0_7, v0_8, v0_9, v0_10, v0_11, v0_12, v0_13, v0_14, v0_15, v0_16, v0_17, v0_18, v0_19, v0_20, v0_21, v0_22, v0_23, v0_24, v0_25, v0_26, v0_27, v0_28, v0_29, v0_30, v0_31, v0_32, v0_33, v0_34, v0_35, v0_36, v0_37]))]
def f_X10_told (F : Nat) (p1 thrown0 : Int32) : Option (Int32 × Int32) :=
  some (p1, 0)
set_option maxHeartbeats 4000000 in
set_option maxRecDepth 100000 in
theorem c_X10_told (l : Launch) (g : GT) (F : Nat) (h0 : Nat) (v0_1 v0_2 v0_3 v0_4 v0_5 v0_6 v0_7 v0_8 v0_9 v0_10 v0_11 v0_12 v0_13 v0_14 v0_15 v0_16 v0_17 v0_18 v0_19 v0_20 v0_21 v0_22 v0_23 v0_24 v0_25 v0_26 v0_27 v0_28 v0_29 v0_30 v0_31 v0_32 v0_33 v0_34 v0_35 v0_36 v0_37 : Value) (p1 thrown0 : Int32) (r o_thrown0 : Int32) (sz : Nat) (hf : f_X10_told F p1 thrown0 = some (r, o_thrown0)) : CI l m_X10_told (rml 0 0 0) g (w_X10_told g h0 v0_1 v0_2 v0_3 v0_4 v0_5 v0_6 v0_7 v0_8 v0_9 v0_10 v0_11 v0_12 v0_13 v0_14 v0_15 v0_16 v0_17 v0_18 v0_19 v0_20 v0_21 v0_22 v0_23 v0_24 v0_25 v0_26 v0_27 v0_28 v0_29 v0_30 v0_31 v0_32 v0_33 v0_34 v0_35 v0_36 v0_37 thrown0) (fun _ => w_X10_told g h0 v0_1 v0_2 v0_3 v0_4 v0_5 v0_6 v0_7 v0_8 v0_9 v0_10 v0_11 v0_12 v0_13 v0_14 v0_15 v0_16 v0_17 v0_18 v0_19 v0_20 v0_21 v0_22 v0_23 v0_24 v0_25 v0_26 v0_27 v0_28 v0_29 v0_30 v0_31 v0_32 v0_33 v0_34 v0_35 v0_36 v0_37 o_thrown0) sz [.ref h0, .int p1] r := by
  refine en_i (by decide) (Nat.le_of_ble_eq_true rfl) (fun p e s m args below meth c A ls C w hl => ?_)
  have C : Cx p s m args meth c RX10 m_X10_told g A := C
  have hx := C.1
  have hb : c.code = cX10_told := C.2.1
  have hl : lv_has ls 2 [(0, .ref h0), (1, .int p1)] := hl
  obtain ⟨Q, hQ⟩ : ∃ Q, Q = QI below args s g A (fun _ => w_X10_told g h0 v0_1 v0_2 v0_3 v0_4 v0_5 v0_6 v0_7 v0_8 v0_9 v0_10 v0_11 v0_12 v0_13 v0_14 v0_15 v0_16 v0_17 v0_18 v0_19 v0_20 v0_21 v0_22 v0_23 v0_24 v0_25 v0_26 v0_27 v0_28 v0_29 v0_30 v0_31 v0_32 v0_33 v0_34 v0_35 v0_36 v0_37 o_thrown0) r 0 0 := ⟨_, rfl⟩
  suffices hW : W p l e (rml 0 0 0) s m args below meth c s.heap [] 0 0 Q (F0 m 0 ls []) from (by rw [hQ] at hW; exact hW)
  unfold f_X10_told at hf
  refine lv_aload_n hx hb dX10_told_0 rfl (lv_at hl 0 rfl) ?_
  refine lv_iconst (v := 0) hx hb dX10_told_1 (by decide) ?_
  refine p_X10_84 C w 0 rfl (Nat.le_of_ble_eq_true rfl) (ws2 := w_X10_told g h0 v0_1 v0_2 v0_3 v0_4 v0_5 v0_6 v0_7 v0_8 v0_9 v0_10 v0_11 v0_12 v0_13 v0_14 v0_15 v0_16 v0_17 v0_18 v0_19 v0_20 v0_21 v0_22 v0_23 v0_24 v0_25 v0_26 v0_27 v0_28 v0_29 v0_30 v0_31 v0_32 v0_33 v0_34 v0_35 v0_36 v0_37 0) rfl dX10_told_2 (fun H locs w => ?_)
  refine lv_iload_n hx hb dX10_told_5 rfl (lv_at hl 1 rfl) ?_
  obtain ⟨e1, e2⟩ := tp2 hf
  rw [hQ]
  exact rt_i C w rfl (fun _ => 0) (by rw [← e2]) e1 dX10_told_6

theorem dX10_appendInt_0 : decode cX10_appendInt 0 = .ok (.bipush 24, 2) := by decide +kernel
theorem dX10_appendInt_2 : decode cX10_appendInt 2 = .ok (.istore_n 2, 1) := by decide +kernel
theorem dX10_appendInt_3 : decode cX10_appendInt 3 = .ok (.iload_n 2, 1) := by decide +kernel
theorem dX10_appendInt_4 : decode cX10_appendInt 4 = .ok (.ifCond .lt 32, 3) := by decide +kernel
theorem dX10_appendInt_7 : decode cX10_appendInt 7 = .ok (.aload_n 0, 1) := by decide +kernel
theorem dX10_appendInt_8 : decode cX10_appendInt 8 = .ok (.getfield 7, 3) := by decide +kernel
theorem dX10_appendInt_11 : decode cX10_appendInt 11 = .ok (.aload_n 0, 1) := by decide +kernel
theorem dX10_appendInt_12 : decode cX10_appendInt 12 = .ok (.getfield 88, 3) := by decide +kernel
theorem dX10_appendInt_15 : decode cX10_appendInt 15 = .ok (.iload_n 1, 1) := by decide +kernel
theorem dX10_appendInt_16 : decode cX10_appendInt 16 = .ok (.iload_n 2, 1) := by decide +kernel
theorem dX10_appendInt_17 : decode cX10_appendInt 17 = .ok (.ishr, 1) := by decide +kernel
theorem dX10_appendInt_18 : decode cX10_appendInt 18 = .ok (.i2b, 1) := by decide +kernel
theorem dX10_appendInt_19 : decode cX10_appendInt 19 = .ok (.bastore, 1) := by decide +kernel
theorem dX10_appendInt_20 : decode cX10_appendInt 20 = .ok (.aload_n 0, 1) := by decide +kernel
theorem dX10_appendInt_21 : decode cX10_appendInt 21 = .ok (.dup, 1) := by decide +kernel
theorem dX10_appendInt_22 : decode cX10_appendInt 22 = .ok (.getfield 88, 3) := by decide +kernel
theorem dX10_appendInt_25 : decode cX10_appendInt 25 = .ok (.iconst 1, 1) := by decide +kernel
theorem dX10_appendInt_26 : decode cX10_appendInt 26 = .ok (.iadd, 1) := by decide +kernel
theorem dX10_appendInt_27 : decode cX10_appendInt 27 = .ok (.putfield 88, 3) := by decide +kernel
theorem dX10_appendInt_30 : decode cX10_appendInt 30 = .ok (.iinc 2 (-8), 3) := by decide +kernel
theorem dX10_appendInt_33 : decode cX10_appendInt 33 = .ok (.goto (-30), 3) := by decide +kernel
theorem dX10_appendInt_36 : decode cX10_appendInt 36 = .ok (.return_, 1) := by decide +kernel
abbrev m_X10_appendInt : MD := (yX10_appendInt, cX10_appendInt, 3, none)
theorem g_X10_7 {p : Program} {l : Launch} {e : Env} {R : Room} {s : State} {m : MethodId} {args : Array Value} {below : List Frame} {meth : Method} {c : Code} {H : Heap} {locs : List Loc} {cells slots : Nat} {Q : State → Prop} {d : MD} {g : GT} {A : Nat → Prop} {ws : va_W} {pc : Nat} {ls : Array Slot} {rest : List Value} (C : Cx p s m args meth c RX10 d g A) (w : Wd g A ws s.heap H locs) (q0 : Nat) {a : Nat} {fs : List Value} {v : Value} (he : ws[q0]? = some (a, .inr (10, fs))) (hv : fs[1]? = some v) (hd : decode d.2.1 pc = .ok (.getfield 7, 3)) (kk : W p l e R s m args below meth c H locs cells slots Q (F0 m (pc + 3) ls (v :: rest))) : W p l e R s m args below meth c H locs cells slots Q (F0 m pc ls (.ref a :: rest)) := fg C w inX10s (ref := RX10) rfl 1 (by decide) (ts_t (w := Cond.fieldLink RX10 7 RX10 (TX10 1).2.1 (TX10 1).2.2.1) 1223 (by decide +kernel) (by decide +kernel)) rfl q0 he hv hd kk
theorem g_X10_88 {p : Program} {l : Launch} {e : Env} {R : Room} {s : State} {m : MethodId} {args : Array Value} {below : List Frame} {meth : Method} {c : Code} {H : Heap} {locs : List Loc} {cells slots : Nat} {Q : State → Prop} {d : MD} {g : GT} {A : Nat → Prop} {ws : va_W} {pc : Nat} {ls : Array Slot} {rest : List Value} (C : Cx p s m args meth c RX10 d g A) (w : Wd g A ws s.heap H locs) (q0 : Nat) {a : Nat} {fs : List Value} {v : Value} (he : ws[q0]? = some (a, .inr (10, fs))) (hv : fs[2]? = some v) (hd : decode d.2.1 pc = .ok (.getfield 88, 3)) (kk : W p l e R s m args below meth c H locs cells slots Q (F0 m (pc + 3) ls (v :: rest))) : W p l e R s m args below meth c H locs cells slots Q (F0 m pc ls (.ref a :: rest)) := fg C w inX10s (ref := RX10) rfl 2 (by decide) (ts_t (w := Cond.fieldLink RX10 88 RX10 (TX10 2).2.1 (TX10 2).2.2.1) 1224 (by decide +kernel) (by decide +kernel)) rfl q0 he hv hd kk
theorem p_X10_88 {p : Program} {l : Launch} {e : Env} {R : Room} {s : State} {m : MethodId} {args : Array Value} {below : List Frame} {meth : Method} {c : Code} {H : Heap} {locs : List Loc} {cells slots : Nat} {Q : State → Prop} {d : MD} {g : GT} {A : Nat → Prop} {ws : va_W} {pc : Nat} {ls : Array Slot} {rest : List Value} (C : Cx p s m args meth c RX10 d g A) (w : Wd g A ws s.heap H locs) (q0 : Nat) {a : Nat} {fs : List Value} {x : Int32} (he : ws[q0]? = some (a, .inr (10, fs))) (hlt : 2 < fs.length) {ws2 : va_W} (h2 : ws.set q0 (a, .inr (10, fs.set 2 (.int x))) = ws2) (hd : decode d.2.1 pc = .ok (.putfield 88, 3)) (kk : ∀ (H1 : Heap) (locs1 : List Loc), Wd g A ws2 s.heap H1 locs1 → W p l e R s m args below meth c H1 locs1 cells slots Q (F0 m (pc + 3) ls rest)) : W p l e R s m args below meth c H locs cells slots Q (F0 m pc ls (.int x :: .ref a :: rest)) := fp C w inX10s tyX10_ok nmX10 (ref := RX10) rfl 2 (by decide) (ts_t (w := Cond.fieldLink RX10 88 RX10 (TX10 2).2.1 (TX10 2).2.2.1) 1224 (by decide +kernel) (by decide +kernel)) rfl rfl q0 he rfl rfl hlt h2 hd kk
abbrev w_X10_appendInt (g : GT) (h0 h1 : Nat) (v0_0 v0_3 v0_4 v0_5 v0_6 v0_7 v0_8 v0_9 v0_10 v0_11 v0_12 v0_13 v0_14 v0_15 v0_16 v0_17 v0_18 v0_19 v0_20 v0_21 v0_22 v0_23 v0_24 v0_25 v0_26 v0_27 v0_28 v0_29 v0_30 v0_31 v0_32 v0_33 v0_34 v0_35 v0_36 v0_37 : Value) (length0 : Int32) (buffer1 : Nat → Int32) : va_W := [(h0, .inr (10, [v0_0, .ref h1, .int length0, v0_3, v0_4, v0_5, v0_6, v0_7, v0_8, v0_9, v0_10, v0_11, v0_12, v0_13, v0_14, v0_15, v0_16, v0_17, v0_18, v0_19, v0_20, v0_21, v0_22, v0_23, v0_24, v0_25, v0_26, v0_27, v0_28, v0_29, v0_30, v0_31, v0_32, v0_33, v0_34, v0_35, v0_36, v0_37])), (h1, aB g 900 buffer1)]
def f_X10_appendInt_h3 (F : Nat) (k3 : (Int32 × Int32 × Int32 × (Nat → Int32)) → Option (Int32 × (Nat → Int32))) (x1 x2 length0 : Int32) (buffer1 : Nat → Int32) : Option (Int32 × (Nat → Int32)) :=
  if x2 < 0 then
    some (length0, buffer1)
  else
    wr buffer1 900 length0 (vp_nar .byte ((x1 >>> (x2 &&& 31)).toInt8.toInt32)) fun f2 =>
    k3 (x1, x2 + (-8), length0 + 1, f2)
def f_X10_appendInt_L3 (F : Nat) (z : Int32 × Int32 × Int32 × (Nat → Int32)) : Option (Int32 × (Nat → Int32)) := lp (fun k z => f_X10_appendInt_h3 F k z.1 z.2.1 z.2.2.1 z.2.2.2) F z
def f_X10_appendInt (F : Nat) (p1 length0 : Int32) (buffer1 : Nat → Int32) : Option (Int32 × (Nat → Int32)) :=
  f_X10_appendInt_L3 F (p1, 24, length0, buffer1)
set_option maxHeartbeats 4000000 in
set_option maxRecDepth 100000 in
theorem c_X10_appendInt (l : Launch) (g : GT) (F : Nat) (h0 h1 : Nat) (v0_0 v0_3 v0_4 v0_5 v0_6 v0_7 v0_8 v0_9 v0_10 v0_11 v0_12 v0_13 v0_14 v0_15 v0_16 v0_17 v0_18 v0_19 v0_20 v0_21 v0_22 v0_23 v0_24 v0_25 v0_26 v0_27 v0_28 v0_29 v0_30 v0_31 v0_32 v0_33 v0_34 v0_35 v0_36 v0_37 : Value) (p1 length0 : Int32) (buffer1 : Nat → Int32) (o_length0 : Int32) (o_buffer1 : Nat → Int32) (sz : Nat) (hf : f_X10_appendInt F p1 length0 buffer1 = some (o_length0, o_buffer1)) : CV l m_X10_appendInt (rml 0 0 0) g (w_X10_appendInt g h0 h1 v0_0 v0_3 v0_4 v0_5 v0_6 v0_7 v0_8 v0_9 v0_10 v0_11 v0_12 v0_13 v0_14 v0_15 v0_16 v0_17 v0_18 v0_19 v0_20 v0_21 v0_22 v0_23 v0_24 v0_25 v0_26 v0_27 v0_28 v0_29 v0_30 v0_31 v0_32 v0_33 v0_34 v0_35 v0_36 v0_37 length0 buffer1) (fun _ => w_X10_appendInt g h0 h1 v0_0 v0_3 v0_4 v0_5 v0_6 v0_7 v0_8 v0_9 v0_10 v0_11 v0_12 v0_13 v0_14 v0_15 v0_16 v0_17 v0_18 v0_19 v0_20 v0_21 v0_22 v0_23 v0_24 v0_25 v0_26 v0_27 v0_28 v0_29 v0_30 v0_31 v0_32 v0_33 v0_34 v0_35 v0_36 v0_37 o_length0 o_buffer1) sz [.ref h0, .int p1] := by
  refine en_v (by decide) (Nat.le_of_ble_eq_true rfl) (fun p e s m args below meth c A ls C w hl => ?_)
  have C : Cx p s m args meth c RX10 m_X10_appendInt g A := C
  have hx := C.1
  have hb : c.code = cX10_appendInt := C.2.1
  have hl : lv_has ls 3 [(0, .ref h0), (1, .int p1)] := hl
  obtain ⟨Q, hQ⟩ : ∃ Q, Q = QV below args s g A (fun _ => w_X10_appendInt g h0 h1 v0_0 v0_3 v0_4 v0_5 v0_6 v0_7 v0_8 v0_9 v0_10 v0_11 v0_12 v0_13 v0_14 v0_15 v0_16 v0_17 v0_18 v0_19 v0_20 v0_21 v0_22 v0_23 v0_24 v0_25 v0_26 v0_27 v0_28 v0_29 v0_30 v0_31 v0_32 v0_33 v0_34 v0_35 v0_36 v0_37 o_length0 o_buffer1) 0 0 := ⟨_, rfl⟩
  suffices hW : W p l e (rml 0 0 0) s m args below meth c s.heap [] 0 0 Q (F0 m 0 ls []) from (by rw [hQ] at hW; exact hW)
  unfold f_X10_appendInt at hf
  have L3 : ∀ (z : Int32 × Int32 × Int32 × (Nat → Int32)), f_X10_appendInt_L3 F z = some (o_length0, o_buffer1) → ∀ (H : Heap) (locs : List Loc) (ls : Array Slot), Wd g A (w_X10_appendInt g h0 h1 v0_0 v0_3 v0_4 v0_5 v0_6 v0_7 v0_8 v0_9 v0_10 v0_11 v0_12 v0_13 v0_14 v0_15 v0_16 v0_17 v0_18 v0_19 v0_20 v0_21 v0_22 v0_23 v0_24 v0_25 v0_26 v0_27 v0_28 v0_29 v0_30 v0_31 v0_32 v0_33 v0_34 v0_35 v0_36 v0_37 z.2.2.1 z.2.2.2) s.heap H locs → lv_has ls 3 [(0, .ref h0), (1, .int z.1), (2, .int z.2.1)] → W p l e (rml 0 0 0) s m args below meth c H locs 0 0 Q (F0 m 3 ls []) := by
    intro z hf
    refine lp_W (r := (o_length0, o_buffer1)) (fun (z : Int32 × Int32 × Int32 × (Nat → Int32)) => ∀ (H : Heap) (locs : List Loc) (ls : Array Slot), Wd g A (w_X10_appendInt g h0 h1 v0_0 v0_3 v0_4 v0_5 v0_6 v0_7 v0_8 v0_9 v0_10 v0_11 v0_12 v0_13 v0_14 v0_15 v0_16 v0_17 v0_18 v0_19 v0_20 v0_21 v0_22 v0_23 v0_24 v0_25 v0_26 v0_27 v0_28 v0_29 v0_30 v0_31 v0_32 v0_33 v0_34 v0_35 v0_36 v0_37 z.2.2.1 z.2.2.2) s.heap H locs → lv_has ls 3 [(0, .ref h0), (1, .int z.1), (2, .int z.2.1)] → W p l e (rml 0 0 0) s m args below meth c H locs 0 0 Q (F0 m 3 ls [])) (fun k3 z ih3 hf => ?_) F z hf
    obtain ⟨x1, x2, length0, buffer1⟩ := z
    intro H locs ls w hl
    try dsimp only at hf w hl ⊢
    unfold f_X10_appendInt_h3 at hf
    refine lv_iload_n hx hb dX10_appendInt_3 rfl (lv_at hl 2 rfl) ?_
    refine lv_if_lt (tgt := 36) hx hb dX10_appendInt_4 (by decide) (fun c1 => ?_) (fun c1 => ?_)
    · replace hf := it_t c1 hf
      obtain ⟨e1, e2⟩ := tp2 hf
      rw [hQ]
      exact rt_v C w rfl (fun _ => 0) (by rw [← e1, ← e2]) dX10_appendInt_36
    · replace hf := it_f c1 hf
      refine lv_aload_n hx hb dX10_appendInt_7 rfl (lv_at hl 0 rfl) ?_
      refine g_X10_7 C w 0 rfl rfl dX10_appendInt_8 ?_
      refine lv_aload_n hx hb dX10_appendInt_11 rfl (lv_at hl 0 rfl) ?_
      refine g_X10_88 C w 0 rfl rfl dX10_appendInt_12 ?_
      refine lv_iload_n hx hb dX10_appendInt_15 rfl (lv_at hl 1 rfl) ?_
      refine lv_iload_n hx hb dX10_appendInt_16 rfl (lv_at hl 2 rfl) ?_
      refine lv_ishr hx hb dX10_appendInt_17 ?_
      refine lv_i2b (v := (x1 >>> (x2 &&& 31)).toInt8.toInt32) hx hb dX10_appendInt_18 rfl ?_
      obtain ⟨f2, hif2, haf2, hf⟩ := wr_some hf
      refine bas C w 1 rfl hif2 haf2 (ws2 := w_X10_appendInt g h0 h1 v0_0 v0_3 v0_4 v0_5 v0_6 v0_7 v0_8 v0_9 v0_10 v0_11 v0_12 v0_13 v0_14 v0_15 v0_16 v0_17 v0_18 v0_19 v0_20 v0_21 v0_22 v0_23 v0_24 v0_25 v0_26 v0_27 v0_28 v0_29 v0_30 v0_31 v0_32 v0_33 v0_34 v0_35 v0_36 v0_37 length0 f2) rfl dX10_appendInt_19 (fun H locs w => ?_)
      refine lv_aload_n hx hb dX10_appendInt_20 rfl (lv_at hl 0 rfl) ?_
      refine lv_dup hx hb dX10_appendInt_21 rfl ?_
      refine g_X10_88 C w 0 rfl rfl dX10_appendInt_22 ?_
      refine lv_iconst (v := 1) hx hb dX10_appendInt_25 (by decide) ?_
      refine lv_iadd hx hb dX10_appendInt_26 ?_
      refine p_X10_88 C w 0 rfl (Nat.le_of_ble_eq_true rfl) (ws2 := w_X10_appendInt g h0 h1 v0_0 v0_3 v0_4 v0_5 v0_6 v0_7 v0_8 v0_9 v0_10 v0_11 v0_12 v0_13 v0_14 v0_15 v0_16 v0_17 v0_18 v0_19 v0_20 v0_21 v0_22 v0_23 v0_24 v0_25 v0_26 v0_27 v0_28 v0_29 v0_30 v0_31 v0_32 v0_33 v0_34 v0_35 v0_36 v0_37 (length0 + 1) f2) rfl dX10_appendInt_27 (fun H locs w => ?_)
      refine lv_iinc (v := x2 + (-8)) (lv' := [(2, .int (x2 + (-8))), (0, .ref h0), (1, .int x1)]) hx hb dX10_appendInt_30 hl (k := 2) rfl rfl (by decide) rfl (fun ls hl => ?_)
      refine lv_goto (tgt := 3) hx hb dX10_appendInt_33 (by decide) ?_
      exact ih3 (x1, x2 + (-8), length0 + 1, f2) hf _ _ _ w (lv_sub hl [1, 2, 0] rfl)
  refine lv_bipush (v := 24) hx hb dX10_appendInt_0 (by decide) ?_
  refine lv_istore_n (lv' := [(2, .int 24), (0, .ref h0), (1, .int p1)]) hx hb dX10_appendInt_2 rfl hl (by decide) rfl (fun ls hl => ?_)
  exact L3 (p1, 24, length0, buffer1) hf _ _ _ w (lv_sub hl [1, 2, 0] rfl)

theorem dX10_append_0 : decode cX10_append 0 = .ok (.aload_n 0, 1) := by decide +kernel
theorem dX10_append_1 : decode cX10_append 1 = .ok (.iconst 0, 1) := by decide +kernel
theorem dX10_append_2 : decode cX10_append 2 = .ok (.putfield 84, 3) := by decide +kernel
theorem dX10_append_5 : decode cX10_append 5 = .ok (.aload_n 0, 1) := by decide +kernel
theorem dX10_append_6 : decode cX10_append 6 = .ok (.getfield 88, 3) := by decide +kernel
theorem dX10_append_9 : decode cX10_append 9 = .ok (.bipush 20, 2) := by decide +kernel
theorem dX10_append_11 : decode cX10_append 11 = .ok (.iadd, 1) := by decide +kernel
theorem dX10_append_12 : decode cX10_append 12 = .ok (.sipush 900, 3) := by decide +kernel
theorem dX10_append_15 : decode cX10_append 15 = .ok (.if_icmp .le 5, 3) := by decide +kernel
theorem dX10_append_18 : decode cX10_append 18 = .ok (.iconst (-1), 1) := by decide +kernel
theorem dX10_append_19 : decode cX10_append 19 = .ok (.ireturn, 1) := by decide +kernel
theorem dX10_append_20 : decode cX10_append 20 = .ok (.aload_n 0, 1) := by decide +kernel
theorem dX10_append_21 : decode cX10_append 21 = .ok (.iload_n 1, 1) := by decide +kernel
theorem dX10_append_22 : decode cX10_append 22 = .ok (.invokevirtual 91, 3) := by decide +kernel
theorem dX10_append_25 : decode cX10_append 25 = .ok (.aload_n 0, 1) := by decide +kernel
theorem dX10_append_26 : decode cX10_append 26 = .ok (.iload_n 2, 1) := by decide +kernel
theorem dX10_append_27 : decode cX10_append 27 = .ok (.invokevirtual 91, 3) := by decide +kernel
theorem dX10_append_30 : decode cX10_append 30 = .ok (.aload_n 0, 1) := by decide +kernel
theorem dX10_append_31 : decode cX10_append 31 = .ok (.iload_n 3, 1) := by decide +kernel
theorem dX10_append_32 : decode cX10_append 32 = .ok (.invokevirtual 91, 3) := by decide +kernel
theorem dX10_append_35 : decode cX10_append 35 = .ok (.aload_n 0, 1) := by decide +kernel
theorem dX10_append_36 : decode cX10_append 36 = .ok (.iload 4, 2) := by decide +kernel
theorem dX10_append_38 : decode cX10_append 38 = .ok (.invokevirtual 91, 3) := by decide +kernel
theorem dX10_append_41 : decode cX10_append 41 = .ok (.aload_n 0, 1) := by decide +kernel
theorem dX10_append_42 : decode cX10_append 42 = .ok (.iload 5, 2) := by decide +kernel
theorem dX10_append_44 : decode cX10_append 44 = .ok (.invokevirtual 91, 3) := by decide +kernel
theorem dX10_append_47 : decode cX10_append 47 = .ok (.aload_n 0, 1) := by decide +kernel
theorem dX10_append_48 : decode cX10_append 48 = .ok (.getfield 88, 3) := by decide +kernel
theorem dX10_append_51 : decode cX10_append 51 = .ok (.ireturn, 1) := by decide +kernel
abbrev m_X10_append : MD := (yX10_append, cX10_append, 6, (some .int))
theorem q_11 : Cond.initialized RX10 ∈ TS := ts_t 11 (by decide +kernel) (by decide +kernel)
theorem q_1348 : Cond.code yX10_appendInt cX10_appendInt 3 none ∈ TS := ts_t 1348 (by decide +kernel) (by decide +kernel)
theorem q_1345 : Cond.methodLink RX10 91 yX10_appendInt ∈ TS := ts_t 1345 (by decide +kernel) (by decide +kernel)
theorem q_1347 : Cond.instanceMethod yX10_appendInt ∈ TS := ts_t 1347 (by decide +kernel) (by decide +kernel)
theorem qs_83 : Cond.selects yX10_appendInt.cls yX10_appendInt yX10_appendInt ∈ TS := ts_s 83 (by decide +kernel) (by decide +kernel)
theorem k_X10_91 : LkV RX10 91 m_X10_appendInt 1 := ⟨q_1345, q_1347, qs_83, ⟨q_11, q_1348, by decide, by decide, by decide +kernel⟩⟩
abbrev w_X10_append (g : GT) (h0 h1 : Nat) (v0_3 v0_4 v0_5 v0_6 v0_7 v0_8 v0_9 v0_10 v0_11 v0_12 v0_13 v0_14 v0_15 v0_16 v0_17 v0_18 v0_19 v0_20 v0_21 v0_22 v0_23 v0_24 v0_25 v0_26 v0_27 v0_28 v0_29 v0_30 v0_31 v0_32 v0_33 v0_34 v0_35 v0_36 v0_37 : Value) (thrown0 length0 : Int32) (buffer1 : Nat → Int32) : va_W := [(h0, .inr (10, [.int thrown0, .ref h1, .int length0, v0_3, v0_4, v0_5, v0_6, v0_7, v0_8, v0_9, v0_10, v0_11, v0_12, v0_13, v0_14, v0_15, v0_16, v0_17, v0_18, v0_19, v0_20, v0_21, v0_22, v0_23, v0_24, v0_25, v0_26, v0_27, v0_28, v0_29, v0_30, v0_31, v0_32, v0_33, v0_34, v0_35, v0_36, v0_37])), (h1, aB g 900 buffer1)]
def f_X10_append (F : Nat) (p1 p2 p3 p4 p5 thrown0 length0 : Int32) (buffer1 : Nat → Int32) : Option (Int32 × Int32 × Int32 × (Nat → Int32)) :=
  if (length0 + 20) ≤ 900 then
    bd2 (f_X10_appendInt F p1 length0 buffer1) fun o2 o3 =>
    bd2 (f_X10_appendInt F p2 o2 o3) fun o5 o6 =>
    bd2 (f_X10_appendInt F p3 o5 o6) fun o8 o9 =>
    bd2 (f_X10_appendInt F p4 o8 o9) fun o11 o12 =>
    bd2 (f_X10_appendInt F p5 o11 o12) fun o14 o15 =>
    some (o14, 0, o14, o15)
  else
    some ((-1), 0, length0, buffer1)
set_option maxHeartbeats 4000000 in
set_option maxRecDepth 100000 in
theorem c_X10_append (l : Launch) (g : GT) (F : Nat) (h0 h1 : Nat) (v0_3 v0_4 v0_5 v0_6 v0_7 v0_8 v0_9 v0_10 v0_11 v0_12 v0_13 v0_14 v0_15 v0_16 v0_17 v0_18 v0_19 v0_20 v0_21 v0_22 v0_23 v0_24 v0_25 v0_26 v0_27 v0_28 v0_29 v0_30 v0_31 v0_32 v0_33 v0_34 v0_35 v0_36 v0_37 : Value) (p1 p2 p3 p4 p5 thrown0 length0 : Int32) (buffer1 : Nat → Int32) (r o_thrown0 o_length0 : Int32) (o_buffer1 : Nat → Int32) (sz : Nat) (hf : f_X10_append F p1 p2 p3 p4 p5 thrown0 length0 buffer1 = some (r, o_thrown0, o_length0, o_buffer1)) : CI l m_X10_append (rml 1 0 0) g (w_X10_append g h0 h1 v0_3 v0_4 v0_5 v0_6 v0_7 v0_8 v0_9 v0_10 v0_11 v0_12 v0_13 v0_14 v0_15 v0_16 v0_17 v0_18 v0_19 v0_20 v0_21 v0_22 v0_23 v0_24 v0_25 v0_26 v0_27 v0_28 v0_29 v0_30 v0_31 v0_32 v0_33 v0_34 v0_35 v0_36 v0_37 thrown0 length0 buffer1) (fun _ => w_X10_append g h0 h1 v0_3 v0_4 v0_5 v0_6 v0_7 v0_8 v0_9 v0_10 v0_11 v0_12 v0_13 v0_14 v0_15 v0_16 v0_17 v0_18 v0_19 v0_20 v0_21 v0_22 v0_23 v0_24 v0_25 v0_26 v0_27 v0_28 v0_29 v0_30 v0_31 v0_32 v0_33 v0_34 v0_35 v0_36 v0_37 o_thrown0 o_length0 o_buffer1) sz [.ref h0, .int p1, .int p2, .int p3, .int p4, .int p5] r := by
  refine en_i (by decide) (Nat.le_of_ble_eq_true rfl) (fun p e s m args below meth c A ls C w hl => ?_)
  have C : Cx p s m args meth c RX10 m_X10_append g A := C
  have hx := C.1
  have hb : c.code = cX10_append := C.2.1
  have hl : lv_has ls 6 [(0, .ref h0), (1, .int p1), (2, .int p2), (3, .int p3), (4, .int p4), (5, .int p5)] := hl
  obtain ⟨Q, hQ⟩ : ∃ Q, Q = QI below args s g A (fun _ => w_X10_append g h0 h1 v0_3 v0_4 v0_5 v0_6 v0_7 v0_8 v0_9 v0_10 v0_11 v0_12 v0_13 v0_14 v0_15 v0_16 v0_17 v0_18 v0_19 v0_20 v0_21 v0_22 v0_23 v0_24 v0_25 v0_26 v0_27 v0_28 v0_29 v0_30 v0_31 v0_32 v0_33 v0_34 v0_35 v0_36 v0_37 o_thrown0 o_length0 o_buffer1) r 0 0 := ⟨_, rfl⟩
  suffices hW : W p l e (rml 1 0 0) s m args below meth c s.heap [] 0 0 Q (F0 m 0 ls []) from (by rw [hQ] at hW; exact hW)
  unfold f_X10_append at hf
  refine lv_aload_n hx hb dX10_append_0 rfl (lv_at hl 0 rfl) ?_
  refine lv_iconst (v := 0) hx hb dX10_append_1 (by decide) ?_
  refine p_X10_84 C w 0 rfl (Nat.le_of_ble_eq_true rfl) (ws2 := w_X10_append g h0 h1 v0_3 v0_4 v0_5 v0_6 v0_7 v0_8 v0_9 v0_10 v0_11 v0_12 v0_13 v0_14 v0_15 v0_16 v0_17 v0_18 v0_19 v0_20 v0_21 v0_22 v0_23 v0_24 v0_25 v0_26 v0_27 v0_28 v0_29 v0_30 v0_31 v0_32 v0_33 v0_34 v0_35 v0_36 v0_37 0 length0 buffer1) rfl dX10_append_2 (fun H locs w => ?_)
  refine lv_aload_n hx hb dX10_append_5 rfl (lv_at hl 0 rfl) ?_
  refine g_X10_88 C w 0 rfl rfl dX10_append_6 ?_
  refine lv_bipush (v := 20) hx hb dX10_append_9 (by decide) ?_
  refine lv_iadd hx hb dX10_append_11 ?_
  refine lv_sipush (v := 900) hx hb dX10_append_12 (by decide) ?_
  refine lv_icmp_le (tgt := 20) hx hb dX10_append_15 (by decide) (fun c1 => ?_) (fun c1 => ?_)
  · replace hf := it_t c1 hf
    refine lv_aload_n hx hb dX10_append_20 rfl (lv_at hl 0 rfl) ?_
    refine lv_iload_n hx hb dX10_append_21 rfl (lv_at hl 1 rfl) ?_
    obtain ⟨o2, o3, hc4, hf⟩ := bd2_some hf
    refine ca_vV C w (wn := fun _ => w_X10_append g h0 h1 v0_3 v0_4 v0_5 v0_6 v0_7 v0_8 v0_9 v0_10 v0_11 v0_12 v0_13 v0_14 v0_15 v0_16 v0_17 v0_18 v0_19 v0_20 v0_21 v0_22 v0_23 v0_24 v0_25 v0_26 v0_27 v0_28 v0_29 v0_30 v0_31 v0_32 v0_33 v0_34 v0_35 v0_36 v0_37 0 o2 o3) (pm_k [true, true] rfl rfl (fun _ => Nat.le_of_ble_eq_true rfl) (fun _ => rfl)) (c_X10_appendInt l g F h0 h1 (.int 0) v0_3 v0_4 v0_5 v0_6 v0_7 v0_8 v0_9 v0_10 v0_11 v0_12 v0_13 v0_14 v0_15 v0_16 v0_17 v0_18 v0_19 v0_20 v0_21 v0_22 v0_23 v0_24 v0_25 v0_26 v0_27 v0_28 v0_29 v0_30 v0_31 v0_32 v0_33 v0_34 v0_35 v0_36 v0_37 p1 length0 buffer1 o2 o3 _ hc4) k_X10_91 (rm_le (by decide) (by decide)) 0 10 rfl rfl rfl rfl hl.1 rfl (Nat.le_of_ble_eq_true rfl) dX10_append_22 ⟨Nat.le_of_ble_eq_true rfl, Nat.le_of_ble_eq_true rfl⟩ (cells2 := 0) (slots2 := 0) ⟨rfl, rfl⟩ (fun _ H locs w => ?_)
    refine lv_aload_n hx hb dX10_append_25 rfl (lv_at hl 0 rfl) ?_
    refine lv_iload_n hx hb dX10_append_26 rfl (lv_at hl 2 rfl) ?_
    obtain ⟨o5, o6, hc7, hf⟩ := bd2_some hf
    refine ca_vV C w (wn := fun _ => w_X10_append g h0 h1 v0_3 v0_4 v0_5 v0_6 v0_7 v0_8 v0_9 v0_10 v0_11 v0_12 v0_13 v0_14 v0_15 v0_16 v0_17 v0_18 v0_19 v0_20 v0_21 v0_22 v0_23 v0_24 v0_25 v0_26 v0_27 v0_28 v0_29 v0_30 v0_31 v0_32 v0_33 v0_34 v0_35 v0_36 v0_37 0 o5 o6) (pm_k [true, true] rfl rfl (fun _ => Nat.le_of_ble_eq_true rfl) (fun _ => rfl)) (c_X10_appendInt l g F h0 h1 (.int 0) v0_3 v0_4 v0_5 v0_6 v0_7 v0_8 v0_9 v0_10 v0_11 v0_12 v0_13 v0_14 v0_15 v0_16 v0_17 v0_18 v0_19 v0_20 v0_21 v0_22 v0_23 v0_24 v0_25 v0_26 v0_27 v0_28 v0_29 v0_30 v0_31 v0_32 v0_33 v0_34 v0_35 v0_36 v0_37 p2 o2 o3 o5 o6 _ hc7) k_X10_91 (rm_le (by decide) (by decide)) 0 10 rfl rfl rfl rfl hl.1 rfl (Nat.le_of_ble_eq_true rfl) dX10_append_27 ⟨Nat.le_of_ble_eq_true rfl, Nat.le_of_ble_eq_true rfl⟩ (cells2 := 0) (slots2 := 0) ⟨rfl, rfl⟩ (fun _ H locs w => ?_)
    refine lv_aload_n hx hb dX10_append_30 rfl (lv_at hl 0 rfl) ?_
    refine lv_iload_n hx hb dX10_append_31 rfl (lv_at hl 3 rfl) ?_
    obtain ⟨o8, o9, hc10, hf⟩ := bd2_some hf
    refine ca_vV C w (wn := fun _ => w_X10_append g h0 h1 v0_3 v0_4 v0_5 v0_6 v0_7 v0_8 v0_9 v0_10 v0_11 v0_12 v0_13 v0_14 v0_15 v0_16 v0_17 v0_18 v0_19 v0_20 v0_21 v0_22 v0_23 v0_24 v0_25 v0_26 v0_27 v0_28 v0_29 v0_30 v0_31 v0_32 v0_33 v0_34 v0_35 v0_36 v0_37 0 o8 o9) (pm_k [true, true] rfl rfl (fun _ => Nat.le_of_ble_eq_true rfl) (fun _ => rfl)) (c_X10_appendInt l g F h0 h1 (.int 0) v0_3 v0_4 v0_5 v0_6 v0_7 v0_8 v0_9 v0_10 v0_11 v0_12 v0_13 v0_14 v0_15 v0_16 v0_17 v0_18 v0_19 v0_20 v0_21 v0_22 v0_23 v0_24 v0_25 v0_26 v0_27 v0_28 v0_29 v0_30 v0_31 v0_32 v0_33 v0_34 v0_35 v0_36 v0_37 p3 o5 o6 o8 o9 _ hc10) k_X10_91 (rm_le (by decide) (by decide)) 0 10 rfl rfl rfl rfl hl.1 rfl (Nat.le_of_ble_eq_true rfl) dX10_append_32 ⟨Nat.le_of_ble_eq_true rfl, Nat.le_of_ble_eq_true rfl⟩ (cells2 := 0) (slots2 := 0) ⟨rfl, rfl⟩ (fun _ H locs w => ?_)
    refine lv_aload_n hx hb dX10_append_35 rfl (lv_at hl 0 rfl) ?_
    refine lv_iload hx hb dX10_append_36 (lv_at hl 4 rfl) ?_
    obtain ⟨o11, o12, hc13, hf⟩ := bd2_some hf
    refine ca_vV C w (wn := fun _ => w_X10_append g h0 h1 v0_3 v0_4 v0_5 v0_6 v0_7 v0_8 v0_9 v0_10 v0_11 v0_12 v0_13 v0_14 v0_15 v0_16 v0_17 v0_18 v0_19 v0_20 v0_21 v0_22 v0_23 v0_24 v0_25 v0_26 v0_27 v0_28 v0_29 v0_30 v0_31 v0_32 v0_33 v0_34 v0_35 v0_36 v0_37 0 o11 o12) (pm_k [true, true] rfl rfl (fun _ => Nat.le_of_ble_eq_true rfl) (fun _ => rfl)) (c_X10_appendInt l g F h0 h1 (.int 0) v0_3 v0_4 v0_5 v0_6 v0_7 v0_8 v0_9 v0_10 v0_11 v0_12 v0_13 v0_14 v0_15 v0_16 v0_17 v0_18 v0_19 v0_20 v0_21 v0_22 v0_23 v0_24 v0_25 v0_26 v0_27 v0_28 v0_29 v0_30 v0_31 v0_32 v0_33 v0_34 v0_35 v0_36 v0_37 p4 o8 o9 o11 o12 _ hc13) k_X10_91 (rm_le (by decide) (by decide)) 0 10 rfl rfl rfl rfl hl.1 rfl (Nat.le_of_ble_eq_true rfl) dX10_append_38 ⟨Nat.le_of_ble_eq_true rfl, Nat.le_of_ble_eq_true rfl⟩ (cells2 := 0) (slots2 := 0) ⟨rfl, rfl⟩ (fun _ H locs w => ?_)
    refine lv_aload_n hx hb dX10_append_41 rfl (lv_at hl 0 rfl) ?_
    refine lv_iload hx hb dX10_append_42 (lv_at hl 5 rfl) ?_
    obtain ⟨o14, o15, hc16, hf⟩ := bd2_some hf
    refine ca_vV C w (wn := fun _ => w_X10_append g h0 h1 v0_3 v0_4 v0_5 v0_6 v0_7 v0_8 v0_9 v0_10 v0_11 v0_12 v0_13 v0_14 v0_15 v0_16 v0_17 v0_18 v0_19 v0_20 v0_21 v0_22 v0_23 v0_24 v0_25 v0_26 v0_27 v0_28 v0_29 v0_30 v0_31 v0_32 v0_33 v0_34 v0_35 v0_36 v0_37 0 o14 o15) (pm_k [true, true] rfl rfl (fun _ => Nat.le_of_ble_eq_true rfl) (fun _ => rfl)) (c_X10_appendInt l g F h0 h1 (.int 0) v0_3 v0_4 v0_5 v0_6 v0_7 v0_8 v0_9 v0_10 v0_11 v0_12 v0_13 v0_14 v0_15 v0_16 v0_17 v0_18 v0_19 v0_20 v0_21 v0_22 v0_23 v0_24 v0_25 v0_26 v0_27 v0_28 v0_29 v0_30 v0_31 v0_32 v0_33 v0_34 v0_35 v0_36 v0_37 p5 o11 o12 o14 o15 _ hc16) k_X10_91 (rm_le (by decide) (by decide)) 0 10 rfl rfl rfl rfl hl.1 rfl (Nat.le_of_ble_eq_true rfl) dX10_append_44 ⟨Nat.le_of_ble_eq_true rfl, Nat.le_of_ble_eq_true rfl⟩ (cells2 := 0) (slots2 := 0) ⟨rfl, rfl⟩ (fun _ H locs w => ?_)
    refine lv_aload_n hx hb dX10_append_47 rfl (lv_at hl 0 rfl) ?_
    refine g_X10_88 C w 0 rfl rfl dX10_append_48 ?_
    obtain ⟨e1, e2, e3, e4⟩ := tp4 hf
    rw [hQ]
    exact rt_i C w rfl (fun _ => 0) (by rw [← e2, ← e3, ← e4]) e1 dX10_append_51
  · replace hf := it_f c1 hf
    refine lv_iconst (v := -1) hx hb dX10_append_18 (by decide) ?_
    obtain ⟨e1, e2, e3, e4⟩ := tp4 hf
    rw [hQ]
    exact rt_i C w rfl (fun _ => 0) (by rw [← e2, ← e3, ← e4]) e1 dX10_append_19

theorem dX10_byteAt_0 : decode cX10_byteAt 0 = .ok (.iload_n 1, 1) := by decide +kernel
theorem dX10_byteAt_1 : decode cX10_byteAt 1 = .ok (.aload_n 0, 1) := by decide +kernel
theorem dX10_byteAt_2 : decode cX10_byteAt 2 = .ok (.getfield 95, 3) := by decide +kernel
theorem dX10_byteAt_5 : decode cX10_byteAt 5 = .ok (.if_icmp .ge 16, 3) := by decide +kernel
theorem dX10_byteAt_8 : decode cX10_byteAt 8 = .ok (.aload_n 0, 1) := by decide +kernel
theorem dX10_byteAt_9 : decode cX10_byteAt 9 = .ok (.getfield 7, 3) := by decide +kernel
theorem dX10_byteAt_12 : decode cX10_byteAt 12 = .ok (.iload_n 1, 1) := by decide +kernel
theorem dX10_byteAt_13 : decode cX10_byteAt 13 = .ok (.baload, 1) := by decide +kernel
theorem dX10_byteAt_14 : decode cX10_byteAt 14 = .ok (.sipush 255, 3) := by decide +kernel
theorem dX10_byteAt_17 : decode cX10_byteAt 17 = .ok (.iand, 1) := by decide +kernel
theorem dX10_byteAt_18 : decode cX10_byteAt 18 = .ok (.goto 4, 3) := by decide +kernel
theorem dX10_byteAt_21 : decode cX10_byteAt 21 = .ok (.iconst (-1), 1) := by decide +kernel
theorem dX10_byteAt_22 : decode cX10_byteAt 22 = .ok (.ireturn, 1) := by decide +kernel
abbrev m_X10_byteAt : MD := (yX10_byteAt, cX10_byteAt, 2, (some .int))
theorem g_X10_95 {p : Program} {l : Launch} {e : Env} {R : Room} {s : State} {m : MethodId} {args : Array Value} {below : List Frame} {meth : Method} {c : Code} {H : Heap} {locs : List Loc} {cells slots : Nat} {Q : State → Prop} {d : MD} {g : GT} {A : Nat → Prop} {ws : va_W} {pc : Nat} {ls : Array Slot} {rest : List Value} (C : Cx p s m args meth c RX10 d g A) (w : Wd g A ws s.heap H locs) (q0 : Nat) {a : Nat} {fs : List Value} {v : Value} (he : ws[q0]? = some (a, .inr (10, fs))) (hv : fs[3]? = some v) (hd : decode d.2.1 pc = .ok (.getfield 95, 3)) (kk : W p l e R s m args below meth c H locs cells slots Q (F0 m (pc + 3) ls (v :: rest))) : W p l e R s m args below meth c H locs cells slots Q (F0 m pc ls (.ref a :: rest)) := fg C w inX10s (ref := RX10) rfl 3 (by decide) (ts_t (w := Cond.fieldLink RX10 95 RX10 (TX10 3).2.1 (TX10 3).2.2.1) 1225 (by decide +kernel) (by decide +kernel)) rfl q0 he hv hd kk
abbrev w_X10_byteAt (g : GT) (h0 h1 : Nat) (v0_0 v0_2 v0_4 v0_5 v0_6 v0_7 v0_8 v0_9 v0_10 v0_11 v0_12 v0_13 v0_14 v0_15 v0_16 v0_17 v0_18 v0_19 v0_20 v0_21 v0_22 v0_23 v0_24 v0_25 v0_26 v0_27 v0_28 v0_29 v0_30 v0_31 v0_32 v0_33 v0_34 v0_35 v0_36 v0_37 : Value) (textLength0 : Int32) (buffer1 : Nat → Int32) : va_W := [(h0, .inr (10, [v0_0, .ref h1, v0_2, .int textLength0, v0_4, v0_5, v0_6, v0_7, v0_8, v0_9, v0_10, v0_11, v0_12, v0_13, v0_14, v0_15, v0_16, v0_17, v0_18, v0_19, v0_20, v0_21, v0_22, v0_23, v0_24, v0_25, v0_26, v0_27, v0_28, v0_29, v0_30, v0_31, v0_32, v0_33, v0_34, v0_35, v0_36, v0_37])), (h1, aB g 900 buffer1)]
def f_X10_byteAt_b22 (F : Nat) (textLength0 : Int32) (buffer1 : Nat → Int32) (s0 : Int32) : Option (Int32) :=
  some s0
def f_X10_byteAt (F : Nat) (p1 textLength0 : Int32) (buffer1 : Nat → Int32) : Option (Int32) :=
  if textLength0 ≤ p1 then
    f_X10_byteAt_b22 F textLength0 buffer1 (-1)
  else
    rd buffer1 900 p1 fun a2 =>
    f_X10_byteAt_b22 F textLength0 buffer1 (a2 &&& 255)
set_option maxHeartbeats 4000000 in
set_option maxRecDepth 100000 in
theorem c_X10_byteAt (l : Launch) (g : GT) (F : Nat) (h0 h1 : Nat) (v0_0 v0_2 v0_4 v0_5 v0_6 v0_7 v0_8 v0_9 v0_10 v0_11 v0_12 v0_13 v0_14 v0_15 v0_16 v0_17 v0_18 v0_19 v0_20 v0_21 v0_22 v0_23 v0_24 v0_25 v0_26 v0_27 v0_28 v0_29 v0_30 v0_31 v0_32 v0_33 v0_34 v0_35 v0_36 v0_37 : Value) (p1 textLength0 : Int32) (buffer1 : Nat → Int32) (r : Int32) (sz : Nat) (hf : f_X10_byteAt F p1 textLength0 buffer1 = some r) : CI l m_X10_byteAt (rml 0 0 0) g (w_X10_byteAt g h0 h1 v0_0 v0_2 v0_4 v0_5 v0_6 v0_7 v0_8 v0_9 v0_10 v0_11 v0_12 v0_13 v0_14 v0_15 v0_16 v0_17 v0_18 v0_19 v0_20 v0_21 v0_22 v0_23 v0_24 v0_25 v0_26 v0_27 v0_28 v0_29 v0_30 v0_31 v0_32 v0_33 v0_34 v0_35 v0_36 v0_37 textLength0 buffer1) (fun _ => w_X10_byteAt g h0 h1 v0_0 v0_2 v0_4 v0_5 v0_6 v0_7 v0_8 v0_9 v0_10 v0_11 v0_12 v0_13 v0_14 v0_15 v0_16 v0_17 v0_18 v0_19 v0_20 v0_21 v0_22 v0_23 v0_24 v0_25 v0_26 v0_27 v0_28 v0_29 v0_30 v0_31 v0_32 v0_33 v0_34 v0_35 v0_36 v0_37 textLength0 buffer1) sz [.ref h0, .int p1] r := by
  refine en_i (by decide) (Nat.le_of_ble_eq_true rfl) (fun p e s m args below meth c A ls C w hl => ?_)
  have C : Cx p s m args meth c RX10 m_X10_byteAt g A := C
  have hx := C.1
  have hb : c.code = cX10_byteAt := C.2.1
  have hl : lv_has ls 2 [(0, .ref h0), (1, .int p1)] := hl
  obtain ⟨Q, hQ⟩ : ∃ Q, Q = QI below args s g A (fun _ => w_X10_byteAt g h0 h1 v0_0 v0_2 v0_4 v0_5 v0_6 v0_7 v0_8 v0_9 v0_10 v0_11 v0_12 v0_13 v0_14 v0_15 v0_16 v0_17 v0_18 v0_19 v0_20 v0_21 v0_22 v0_23 v0_24 v0_25 v0_26 v0_27 v0_28 v0_29 v0_30 v0_31 v0_32 v0_33 v0_34 v0_35 v0_36 v0_37 textLength0 buffer1) r 0 0 := ⟨_, rfl⟩
  suffices hW : W p l e (rml 0 0 0) s m args below meth c s.heap [] 0 0 Q (F0 m 0 ls []) from (by rw [hQ] at hW; exact hW)
  unfold f_X10_byteAt at hf
  have b22 : ∀ (s0 : Int32) (H : Heap) (locs : List Loc) (ls : Array Slot), f_X10_byteAt_b22 F textLength0 buffer1 s0 = some r → Wd g A (w_X10_byteAt g h0 h1 v0_0 v0_2 v0_4 v0_5 v0_6 v0_7 v0_8 v0_9 v0_10 v0_11 v0_12 v0_13 v0_14 v0_15 v0_16 v0_17 v0_18 v0_19 v0_20 v0_21 v0_22 v0_23 v0_24 v0_25 v0_26 v0_27 v0_28 v0_29 v0_30 v0_31 v0_32 v0_33 v0_34 v0_35 v0_36 v0_37 textLength0 buffer1) s.heap H locs → lv_has ls 2 [] → W p l e (rml 0 0 0) s m args below meth c H locs 0 0 Q (F0 m 22 ls [.int s0]) := by
    intro s0 H locs ls hf w hl
    unfold f_X10_byteAt_b22 at hf
    obtain e1 := tp1 hf
    rw [hQ]
    exact rt_i C w rfl (fun _ => 0) rfl e1 dX10_byteAt_22
  refine lv_iload_n hx hb dX10_byteAt_0 rfl (lv_at hl 1 rfl) ?_
  refine lv_aload_n hx hb dX10_byteAt_1 rfl (lv_at hl 0 rfl) ?_
  refine g_X10_95 C w 0 rfl rfl dX10_byteAt_2 ?_
  refine lv_icmp_ge (tgt := 21) hx hb dX10_byteAt_5 (by decide) (fun c1 => ?_) (fun c1 => ?_)
  · replace hf := it_t c1 hf
    refine lv_iconst (v := -1) hx hb dX10_byteAt_21 (by decide) ?_
    exact b22 (-1) _ _ _ hf w (lv_sub hl [] rfl)
  · replace hf := it_f c1 hf
    refine lv_aload_n hx hb dX10_byteAt_8 rfl (lv_at hl 0 rfl) ?_
    refine g_X10_7 C w 0 rfl rfl dX10_byteAt_9 ?_
    refine lv_iload_n hx hb dX10_byteAt_12 rfl (lv_at hl 1 rfl) ?_
    obtain ⟨a2, hia2, haa2, hf⟩ := rd_some hf
    refine bal C w 1 rfl hia2 haa2 dX10_byteAt_13 ?_
    refine lv_sipush (v := 255) hx hb dX10_byteAt_14 (by decide) ?_
    refine lv_iand hx hb dX10_byteAt_17 ?_
    refine lv_goto (tgt := 22) hx hb dX10_byteAt_18 (by decide) ?_
    exact b22 (a2 &&& 255) _ _ _ hf w (lv_sub hl [] rfl)

theorem dX10_nextToken_0 : decode cX10_nextToken 0 = .ok (.aload_n 0, 1) := by decide +kernel
theorem dX10_nextToken_1 : decode cX10_nextToken 1 = .ok (.aload_n 0, 1) := by decide +kernel
theorem dX10_nextToken_2 : decode cX10_nextToken 2 = .ok (.getfield 98, 3) := by decide +kernel
theorem dX10_nextToken_5 : decode cX10_nextToken 5 = .ok (.putfield 101, 3) := by decide +kernel
theorem dX10_nextToken_8 : decode cX10_nextToken 8 = .ok (.aload_n 0, 1) := by decide +kernel
theorem dX10_nextToken_9 : decode cX10_nextToken 9 = .ok (.aload_n 0, 1) := by decide +kernel
theorem dX10_nextToken_10 : decode cX10_nextToken 10 = .ok (.getfield 101, 3) := by decide +kernel
theorem dX10_nextToken_13 : decode cX10_nextToken 13 = .ok (.invokevirtual 104, 3) := by decide +kernel
theorem dX10_nextToken_16 : decode cX10_nextToken 16 = .ok (.bipush 32, 2) := by decide +kernel
theorem dX10_nextToken_18 : decode cX10_nextToken 18 = .ok (.if_icmp .eq 16, 3) := by decide +kernel
theorem dX10_nextToken_21 : decode cX10_nextToken 21 = .ok (.aload_n 0, 1) := by decide +kernel
theorem dX10_nextToken_22 : decode cX10_nextToken 22 = .ok (.aload_n 0, 1) := by decide +kernel
theorem dX10_nextToken_23 : decode cX10_nextToken 23 = .ok (.getfield 101, 3) := by decide +kernel
theorem dX10_nextToken_26 : decode cX10_nextToken 26 = .ok (.invokevirtual 104, 3) := by decide +kernel
theorem dX10_nextToken_29 : decode cX10_nextToken 29 = .ok (.bipush 10, 2) := by decide +kernel
theorem dX10_nextToken_31 : decode cX10_nextToken 31 = .ok (.if_icmp .ne 16, 3) := by decide +kernel
theorem dX10_nextToken_34 : decode cX10_nextToken 34 = .ok (.aload_n 0, 1) := by decide +kernel
theorem dX10_nextToken_35 : decode cX10_nextToken 35 = .ok (.dup, 1) := by decide +kernel
theorem dX10_nextToken_36 : decode cX10_nextToken 36 = .ok (.getfield 101, 3) := by decide +kernel
theorem dX10_nextToken_39 : decode cX10_nextToken 39 = .ok (.iconst 1, 1) := by decide +kernel
theorem dX10_nextToken_40 : decode cX10_nextToken 40 = .ok (.iadd, 1) := by decide +kernel
theorem dX10_nextToken_41 : decode cX10_nextToken 41 = .ok (.putfield 101, 3) := by decide +kernel
theorem dX10_nextToken_44 : decode cX10_nextToken 44 = .ok (.goto (-36), 3) := by decide +kernel
theorem dX10_nextToken_47 : decode cX10_nextToken 47 = .ok (.aload_n 0, 1) := by decide +kernel
theorem dX10_nextToken_48 : decode cX10_nextToken 48 = .ok (.aload_n 0, 1) := by decide +kernel
theorem dX10_nextToken_49 : decode cX10_nextToken 49 = .ok (.getfield 101, 3) := by decide +kernel
theorem dX10_nextToken_52 : decode cX10_nextToken 52 = .ok (.invokevirtual 104, 3) := by decide +kernel
theorem dX10_nextToken_55 : decode cX10_nextToken 55 = .ok (.istore_n 1, 1) := by decide +kernel
theorem dX10_nextToken_56 : decode cX10_nextToken 56 = .ok (.aload_n 0, 1) := by decide +kernel
theorem dX10_nextToken_57 : decode cX10_nextToken 57 = .ok (.aload_n 0, 1) := by decide +kernel
theorem dX10_nextToken_58 : decode cX10_nextToken 58 = .ok (.getfield 101, 3) := by decide +kernel
theorem dX10_nextToken_61 : decode cX10_nextToken 61 = .ok (.putfield 98, 3) := by decide +kernel
theorem dX10_nextToken_64 : decode cX10_nextToken 64 = .ok (.aload_n 0, 1) := by decide +kernel
theorem dX10_nextToken_65 : decode cX10_nextToken 65 = .ok (.iconst 3, 1) := by decide +kernel
theorem dX10_nextToken_66 : decode cX10_nextToken 66 = .ok (.putfield 108, 3) := by decide +kernel
theorem dX10_nextToken_69 : decode cX10_nextToken 69 = .ok (.iload_n 1, 1) := by decide +kernel
theorem dX10_nextToken_70 : decode cX10_nextToken 70 = .ok (.iconst (-1), 1) := by decide +kernel
theorem dX10_nextToken_71 : decode cX10_nextToken 71 = .ok (.if_icmp .ne 11, 3) := by decide +kernel
theorem dX10_nextToken_74 : decode cX10_nextToken 74 = .ok (.aload_n 0, 1) := by decide +kernel
theorem dX10_nextToken_75 : decode cX10_nextToken 75 = .ok (.iconst 0, 1) := by decide +kernel
theorem dX10_nextToken_76 : decode cX10_nextToken 76 = .ok (.putfield 108, 3) := by decide +kernel
theorem dX10_nextToken_79 : decode cX10_nextToken 79 = .ok (.goto 223, 3) := by decide +kernel
theorem dX10_nextToken_82 : decode cX10_nextToken 82 = .ok (.iload_n 1, 1) := by decide +kernel
theorem dX10_nextToken_83 : decode cX10_nextToken 83 = .ok (.i2l, 1) := by decide +kernel
theorem dX10_nextToken_84 : decode cX10_nextToken 84 = .ok (.ldc2_w 111, 3) := by decide +kernel
theorem dX10_nextToken_87 : decode cX10_nextToken 87 = .ok (.ldc2_w 113, 3) := by decide +kernel
theorem dX10_nextToken_90 : decode cX10_nextToken 90 = .ok (.invokestatic 115, 3) := by decide +kernel
theorem dX10_nextToken_93 : decode cX10_nextToken 93 = .ok (.ifCond .eq 63, 3) := by decide +kernel
theorem dX10_nextToken_96 : decode cX10_nextToken 96 = .ok (.aload_n 0, 1) := by decide +kernel
theorem dX10_nextToken_97 : decode cX10_nextToken 97 = .ok (.aload_n 0, 1) := by decide +kernel
theorem dX10_nextToken_98 : decode cX10_nextToken 98 = .ok (.getfield 98, 3) := by decide +kernel
theorem dX10_nextToken_101 : decode cX10_nextToken 101 = .ok (.invokevirtual 104, 3) := by decide +kernel
theorem dX10_nextToken_104 : decode cX10_nextToken 104 = .ok (.i2l, 1) := by decide +kernel
theorem dX10_nextToken_105 : decode cX10_nextToken 105 = .ok (.ldc2_w 111, 3) := by decide +kernel
theorem dX10_nextToken_108 : decode cX10_nextToken 108 = .ok (.ldc2_w 113, 3) := by decide +kernel
theorem dX10_nextToken_111 : decode cX10_nextToken 111 = .ok (.invokestatic 115, 3) := by decide +kernel
theorem dX10_nextToken_114 : decode cX10_nextToken 114 = .ok (.ifCond .eq 16, 3) := by decide +kernel
theorem dX10_nextToken_117 : decode cX10_nextToken 117 = .ok (.aload_n 0, 1) := by decide +kernel
theorem dX10_nextToken_118 : decode cX10_nextToken 118 = .ok (.dup, 1) := by decide +kernel
theorem dX10_nextToken_119 : decode cX10_nextToken 119 = .ok (.getfield 98, 3) := by decide +kernel
theorem dX10_nextToken_122 : decode cX10_nextToken 122 = .ok (.iconst 1, 1) := by decide +kernel
theorem dX10_nextToken_123 : decode cX10_nextToken 123 = .ok (.iadd, 1) := by decide +kernel
theorem dX10_nextToken_124 : decode cX10_nextToken 124 = .ok (.putfield 98, 3) := by decide +kernel
theorem dX10_nextToken_127 : decode cX10_nextToken 127 = .ok (.goto (-31), 3) := by decide +kernel
theorem dX10_nextToken_130 : decode cX10_nextToken 130 = .ok (.aload_n 0, 1) := by decide +kernel
theorem dX10_nextToken_131 : decode cX10_nextToken 131 = .ok (.aload_n 0, 1) := by decide +kernel
theorem dX10_nextToken_132 : decode cX10_nextToken 132 = .ok (.getfield 98, 3) := by decide +kernel
theorem dX10_nextToken_135 : decode cX10_nextToken 135 = .ok (.aload_n 0, 1) := by decide +kernel
theorem dX10_nextToken_136 : decode cX10_nextToken 136 = .ok (.getfield 101, 3) := by decide +kernel
theorem dX10_nextToken_139 : decode cX10_nextToken 139 = .ok (.isub, 1) := by decide +kernel
theorem dX10_nextToken_140 : decode cX10_nextToken 140 = .ok (.bipush 10, 2) := by decide +kernel
theorem dX10_nextToken_142 : decode cX10_nextToken 142 = .ok (.if_icmp .le 7, 3) := by decide +kernel
theorem dX10_nextToken_145 : decode cX10_nextToken 145 = .ok (.iconst 3, 1) := by decide +kernel
theorem dX10_nextToken_146 : decode cX10_nextToken 146 = .ok (.goto 4, 3) := by decide +kernel
theorem dX10_nextToken_149 : decode cX10_nextToken 149 = .ok (.iconst 1, 1) := by decide +kernel
theorem dX10_nextToken_150 : decode cX10_nextToken 150 = .ok (.putfield 108, 3) := by decide +kernel
theorem dX10_nextToken_153 : decode cX10_nextToken 153 = .ok (.goto 149, 3) := by decide +kernel
theorem dX10_nextToken_156 : decode cX10_nextToken 156 = .ok (.iload_n 1, 1) := by decide +kernel
theorem dX10_nextToken_157 : decode cX10_nextToken 157 = .ok (.i2l, 1) := by decide +kernel
theorem dX10_nextToken_158 : decode cX10_nextToken 158 = .ok (.ldc2_w 119, 3) := by decide +kernel
theorem dX10_nextToken_161 : decode cX10_nextToken 161 = .ok (.ldc2_w 121, 3) := by decide +kernel
theorem dX10_nextToken_164 : decode cX10_nextToken 164 = .ok (.invokestatic 115, 3) := by decide +kernel
theorem dX10_nextToken_167 : decode cX10_nextToken 167 = .ok (.ifCond .eq 110, 3) := by decide +kernel
theorem dX10_nextToken_170 : decode cX10_nextToken 170 = .ok (.aload_n 0, 1) := by decide +kernel
theorem dX10_nextToken_171 : decode cX10_nextToken 171 = .ok (.iconst 0, 1) := by decide +kernel
theorem dX10_nextToken_172 : decode cX10_nextToken 172 = .ok (.putfield 123, 3) := by decide +kernel
theorem dX10_nextToken_175 : decode cX10_nextToken 175 = .ok (.aload_n 0, 1) := by decide +kernel
theorem dX10_nextToken_176 : decode cX10_nextToken 176 = .ok (.aload_n 0, 1) := by decide +kernel
theorem dX10_nextToken_177 : decode cX10_nextToken 177 = .ok (.getfield 98, 3) := by decide +kernel
theorem dX10_nextToken_180 : decode cX10_nextToken 180 = .ok (.invokevirtual 104, 3) := by decide +kernel
theorem dX10_nextToken_183 : decode cX10_nextToken 183 = .ok (.i2l, 1) := by decide +kernel
theorem dX10_nextToken_184 : decode cX10_nextToken 184 = .ok (.ldc2_w 119, 3) := by decide +kernel
theorem dX10_nextToken_187 : decode cX10_nextToken 187 = .ok (.ldc2_w 121, 3) := by decide +kernel
theorem dX10_nextToken_190 : decode cX10_nextToken 190 = .ok (.invokestatic 115, 3) := by decide +kernel
theorem dX10_nextToken_193 : decode cX10_nextToken 193 = .ok (.ifCond .eq 59, 3) := by decide +kernel
theorem dX10_nextToken_196 : decode cX10_nextToken 196 = .ok (.aload_n 0, 1) := by decide +kernel
theorem dX10_nextToken_197 : decode cX10_nextToken 197 = .ok (.aload_n 0, 1) := by decide +kernel
theorem dX10_nextToken_198 : decode cX10_nextToken 198 = .ok (.getfield 98, 3) := by decide +kernel
theorem dX10_nextToken_201 : decode cX10_nextToken 201 = .ok (.aload_n 0, 1) := by decide +kernel
theorem dX10_nextToken_202 : decode cX10_nextToken 202 = .ok (.getfield 101, 3) := by decide +kernel
theorem dX10_nextToken_205 : decode cX10_nextToken 205 = .ok (.isub, 1) := by decide +kernel
theorem dX10_nextToken_206 : decode cX10_nextToken 206 = .ok (.iconst 4, 1) := by decide +kernel
theorem dX10_nextToken_207 : decode cX10_nextToken 207 = .ok (.if_icmp .ge 25, 3) := by decide +kernel
theorem dX10_nextToken_210 : decode cX10_nextToken 210 = .ok (.bipush 10, 2) := by decide +kernel
theorem dX10_nextToken_212 : decode cX10_nextToken 212 = .ok (.aload_n 0, 1) := by decide +kernel
theorem dX10_nextToken_213 : decode cX10_nextToken 213 = .ok (.getfield 123, 3) := by decide +kernel
theorem dX10_nextToken_216 : decode cX10_nextToken 216 = .ok (.imul, 1) := by decide +kernel
theorem dX10_nextToken_217 : decode cX10_nextToken 217 = .ok (.aload_n 0, 1) := by decide +kernel
theorem dX10_nextToken_218 : decode cX10_nextToken 218 = .ok (.aload_n 0, 1) := by decide +kernel
theorem dX10_nextToken_219 : decode cX10_nextToken 219 = .ok (.getfield 98, 3) := by decide +kernel
theorem dX10_nextToken_222 : decode cX10_nextToken 222 = .ok (.invokevirtual 104, 3) := by decide +kernel
theorem dX10_nextToken_225 : decode cX10_nextToken 225 = .ok (.iadd, 1) := by decide +kernel
theorem dX10_nextToken_226 : decode cX10_nextToken 226 = .ok (.bipush 48, 2) := by decide +kernel
theorem dX10_nextToken_228 : decode cX10_nextToken 228 = .ok (.isub, 1) := by decide +kernel
theorem dX10_nextToken_229 : decode cX10_nextToken 229 = .ok (.goto 7, 3) := by decide +kernel
theorem dX10_nextToken_232 : decode cX10_nextToken 232 = .ok (.aload_n 0, 1) := by decide +kernel
theorem dX10_nextToken_233 : decode cX10_nextToken 233 = .ok (.getfield 123, 3) := by decide +kernel
theorem dX10_nextToken_236 : decode cX10_nextToken 236 = .ok (.putfield 123, 3) := by decide +kernel
theorem dX10_nextToken_239 : decode cX10_nextToken 239 = .ok (.aload_n 0, 1) := by decide +kernel
theorem dX10_nextToken_240 : decode cX10_nextToken 240 = .ok (.dup, 1) := by decide +kernel
theorem dX10_nextToken_241 : decode cX10_nextToken 241 = .ok (.getfield 98, 3) := by decide +kernel
theorem dX10_nextToken_244 : decode cX10_nextToken 244 = .ok (.iconst 1, 1) := by decide +kernel
theorem dX10_nextToken_245 : decode cX10_nextToken 245 = .ok (.iadd, 1) := by decide +kernel
theorem dX10_nextToken_246 : decode cX10_nextToken 246 = .ok (.putfield 98, 3) := by decide +kernel
theorem dX10_nextToken_249 : decode cX10_nextToken 249 = .ok (.goto (-74), 3) := by decide +kernel
theorem dX10_nextToken_252 : decode cX10_nextToken 252 = .ok (.aload_n 0, 1) := by decide +kernel
theorem dX10_nextToken_253 : decode cX10_nextToken 253 = .ok (.aload_n 0, 1) := by decide +kernel
theorem dX10_nextToken_254 : decode cX10_nextToken 254 = .ok (.getfield 98, 3) := by decide +kernel
theorem dX10_nextToken_257 : decode cX10_nextToken 257 = .ok (.aload_n 0, 1) := by decide +kernel
theorem dX10_nextToken_258 : decode cX10_nextToken 258 = .ok (.getfield 101, 3) := by decide +kernel
theorem dX10_nextToken_261 : decode cX10_nextToken 261 = .ok (.isub, 1) := by decide +kernel
theorem dX10_nextToken_262 : decode cX10_nextToken 262 = .ok (.iconst 4, 1) := by decide +kernel
theorem dX10_nextToken_263 : decode cX10_nextToken 263 = .ok (.if_icmp .le 7, 3) := by decide +kernel
theorem dX10_nextToken_266 : decode cX10_nextToken 266 = .ok (.iconst 3, 1) := by decide +kernel
theorem dX10_nextToken_267 : decode cX10_nextToken 267 = .ok (.goto 4, 3) := by decide +kernel
theorem dX10_nextToken_270 : decode cX10_nextToken 270 = .ok (.iconst 2, 1) := by decide +kernel
theorem dX10_nextToken_271 : decode cX10_nextToken 271 = .ok (.putfield 108, 3) := by decide +kernel
theorem dX10_nextToken_274 : decode cX10_nextToken 274 = .ok (.goto 28, 3) := by decide +kernel
theorem dX10_nextToken_277 : decode cX10_nextToken 277 = .ok (.aload_n 0, 1) := by decide +kernel
theorem dX10_nextToken_278 : decode cX10_nextToken 278 = .ok (.dup, 1) := by decide +kernel
theorem dX10_nextToken_279 : decode cX10_nextToken 279 = .ok (.getfield 98, 3) := by decide +kernel
theorem dX10_nextToken_282 : decode cX10_nextToken 282 = .ok (.iconst 1, 1) := by decide +kernel
theorem dX10_nextToken_283 : decode cX10_nextToken 283 = .ok (.iadd, 1) := by decide +kernel
theorem dX10_nextToken_284 : decode cX10_nextToken 284 = .ok (.putfield 98, 3) := by decide +kernel
theorem dX10_nextToken_287 : decode cX10_nextToken 287 = .ok (.aload_n 0, 1) := by decide +kernel
theorem dX10_nextToken_288 : decode cX10_nextToken 288 = .ok (.iload_n 1, 1) := by decide +kernel
theorem dX10_nextToken_289 : decode cX10_nextToken 289 = .ok (.bipush 59, 2) := by decide +kernel
theorem dX10_nextToken_291 : decode cX10_nextToken 291 = .ok (.if_icmp .ne 7, 3) := by decide +kernel
theorem dX10_nextToken_294 : decode cX10_nextToken 294 = .ok (.iload_n 1, 1) := by decide +kernel
theorem dX10_nextToken_295 : decode cX10_nextToken 295 = .ok (.goto 4, 3) := by decide +kernel
theorem dX10_nextToken_298 : decode cX10_nextToken 298 = .ok (.iconst 3, 1) := by decide +kernel
theorem dX10_nextToken_299 : decode cX10_nextToken 299 = .ok (.putfield 108, 3) := by decide +kernel
theorem dX10_nextToken_302 : decode cX10_nextToken 302 = .ok (.return_, 1) := by decide +kernel
abbrev m_X10_nextToken : MD := (yX10_nextToken, cX10_nextToken, 2, none)
theorem q_1374 : Cond.constantLong RX10 119 48 ∈ TS := ts_t 1374 (by decide +kernel) (by decide +kernel)
theorem q_1375 : Cond.constantLong RX10 121 57 ∈ TS := ts_t 1375 (by decide +kernel) (by decide +kernel)
theorem q_1372 : Cond.constantLong RX10 111 97 ∈ TS := ts_t 1372 (by decide +kernel) (by decide +kernel)
theorem q_1373 : Cond.constantLong RX10 113 122 ∈ TS := ts_t 1373 (by decide +kernel) (by decide +kernel)
theorem g_X10_98 {p : Program} {l : Launch} {e : Env} {R : Room} {s : State} {m : MethodId} {args : Array Value} {below : List Frame} {meth : Method} {c : Code} {H : Heap} {locs : List Loc} {cells slots : Nat} {Q : State → Prop} {d : MD} {g : GT} {A : Nat → Prop} {ws : va_W} {pc : Nat} {ls : Array Slot} {rest : List Value} (C : Cx p s m args meth c RX10 d g A) (w : Wd g A ws s.heap H locs) (q0 : Nat) {a : Nat} {fs : List Value} {v : Value} (he : ws[q0]? = some (a, .inr (10, fs))) (hv : fs[5]? = some v) (hd : decode d.2.1 pc = .ok (.getfield 98, 3)) (kk : W p l e R s m args below meth c H locs cells slots Q (F0 m (pc + 3) ls (v :: rest))) : W p l e R s m args below meth c H locs cells slots Q (F0 m pc ls (.ref a :: rest)) := fg C w inX10s (ref := RX10) rfl 5 (by decide) (ts_t (w := Cond.fieldLink RX10 98 RX10 (TX10 5).2.1 (TX10 5).2.2.1) 1227 (by decide +kernel) (by decide +kernel)) rfl q0 he hv hd kk
theorem g_X10_101 {p : Program} {l : Launch} {e : Env} {R : Room} {s : State} {m : MethodId} {args : Array Value} {below : List Frame} {meth : Method} {c : Code} {H : Heap} {locs : List Loc} {cells slots : Nat} {Q : State → Prop} {d : MD} {g : GT} {A : Nat → Prop} {ws : va_W} {pc : Nat} {ls : Array Slot} {rest : List Value} (C : Cx p s m args meth c RX10 d g A) (w : Wd g A ws s.heap H locs) (q0 : Nat) {a : Nat} {fs : List Value} {v : Value} (he : ws[q0]? = some (a, .inr (10, fs))) (hv : fs[4]? = some v) (hd : decode d.2.1 pc = .ok (.getfield 101, 3)) (kk : W p l e R s m args below meth c H locs cells slots Q (F0 m (pc + 3) ls (v :: rest))) : W p l e R s m args below meth c H locs cells slots Q (F0 m pc ls (.ref a :: rest)) := fg C w inX10s (ref := RX10) rfl 4 (by decide) (ts_t (w := Cond.fieldLink RX10 101 RX10 (TX10 4).2.1 (TX10 4).2.2.1) 1226 (by decide +kernel) (by decide +kernel)) rfl q0 he hv hd kk
theorem g_X10_123 {p : Program} {l : Launch} {e : Env} {R : Room} {s : State} {m : MethodId} {args : Array Value} {below : List Frame} {meth : Method} {c : Code} {H : Heap} {locs : List Loc} {cells slots : Nat} {Q : State → Prop} {d : MD} {g : GT} {A : Nat → Prop} {ws : va_W} {pc : Nat} {ls : Array Slot} {rest : List Value} (C : Cx p s m args meth c RX10 d g A) (w : Wd g A ws s.heap H locs) (q0 : Nat) {a : Nat} {fs : List Value} {v : Value} (he : ws[q0]? = some (a, .inr (10, fs))) (hv : fs[7]? = some v) (hd : decode d.2.1 pc = .ok (.getfield 123, 3)) (kk : W p l e R s m args below meth c H locs cells slots Q (F0 m (pc + 3) ls (v :: rest))) : W p l e R s m args below meth c H locs cells slots Q (F0 m pc ls (.ref a :: rest)) := fg C w inX10s (ref := RX10) rfl 7 (by decide) (ts_t (w := Cond.fieldLink RX10 123 RX10 (TX10 7).2.1 (TX10 7).2.2.1) 1229 (by decide +kernel) (by decide +kernel)) rfl q0 he hv hd kk
theorem p_X10_108 {p : Program} {l : Launch} {e : Env} {R : Room} {s : State} {m : MethodId} {args : Array Value} {below : List Frame} {meth : Method} {c : Code} {H : Heap} {locs : List Loc} {cells slots : Nat} {Q : State → Prop} {d : MD} {g : GT} {A : Nat → Prop} {ws : va_W} {pc : Nat} {ls : Array Slot} {rest : List Value} (C : Cx p s m args meth c RX10 d g A) (w : Wd g A ws s.heap H locs) (q0 : Nat) {a : Nat} {fs : List Value} {x : Int32} (he : ws[q0]? = some (a, .inr (10, fs))) (hlt : 6 < fs.length) {ws2 : va_W} (h2 : ws.set q0 (a, .inr (10, fs.set 6 (.int x))) = ws2) (hd : decode d.2.1 pc = .ok (.putfield 108, 3)) (kk : ∀ (H1 : Heap) (locs1 : List Loc), Wd g A ws2 s.heap H1 locs1 → W p l e R s m args below meth c H1 locs1 cells slots Q (F0 m (pc + 3) ls rest)) : W p l e R s m args below meth c H locs cells slots Q (F0 m pc ls (.int x :: .ref a :: rest)) := fp C w inX10s tyX10_ok nmX10 (ref := RX10) rfl 6 (by decide) (ts_t (w := Cond.fieldLink RX10 108 RX10 (TX10 6).2.1 (TX10 6).2.2.1) 1228 (by decide +kernel) (by decide +kernel)) rfl rfl q0 he rfl rfl hlt h2 hd kk
theorem p_X10_123 {p : Program} {l : Launch} {e : Env} {R : Room} {s : State} {m : MethodId} {args : Array Value} {below : List Frame} {meth : Method} {c : Code} {H : Heap} {locs : List Loc} {cells slots : Nat} {Q : State → Prop} {d : MD} {g : GT} {A : Nat → Prop} {ws : va_W} {pc : Nat} {ls : Array Slot} {rest : List Value} (C : Cx p s m args meth c RX10 d g A) (w : Wd g A ws s.heap H locs) (q0 : Nat) {a : Nat} {fs : List Value} {x : Int32} (he : ws[q0]? = some (a, .inr (10, fs))) (hlt : 7 < fs.length) {ws2 : va_W} (h2 : ws.set q0 (a, .inr (10, fs.set 7 (.int x))) = ws2) (hd : decode d.2.1 pc = .ok (.putfield 123, 3)) (kk : ∀ (H1 : Heap) (locs1 : List Loc), Wd g A ws2 s.heap H1 locs1 → W p l e R s m args below meth c H1 locs1 cells slots Q (F0 m (pc + 3) ls rest)) : W p l e R s m args below meth c H locs cells slots Q (F0 m pc ls (.int x :: .ref a :: rest)) := fp C w inX10s tyX10_ok nmX10 (ref := RX10) rfl 7 (by decide) (ts_t (w := Cond.fieldLink RX10 123 RX10 (TX10 7).2.1 (TX10 7).2.2.1) 1229 (by decide +kernel) (by decide +kernel)) rfl rfl q0 he rfl rfl hlt h2 hd kk
theorem p_X10_98 {p : Program} {l : Launch} {e : Env} {R : Room} {s : State} {m : MethodId} {args : Array Value} {below : List Frame} {meth : Method} {c : Code} {H : Heap} {locs : List Loc} {cells slots : Nat} {Q : State → Prop} {d : MD} {g : GT} {A : Nat → Prop} {ws : va_W} {pc : Nat} {ls : Array Slot} {rest : List Value} (C : Cx p s m args meth c RX10 d g A) (w : Wd g A ws s.heap H locs) (q0 : Nat) {a : Nat} {fs : List Value} {x : Int32} (he : ws[q0]? = some (a, .inr (10, fs))) (hlt : 5 < fs.length) {ws2 : va_W} (h2 : ws.set q0 (a, .inr (10, fs.set 5 (.int x))) = ws2) (hd : decode d.2.1 pc = .ok (.putfield 98, 3)) (kk : ∀ (H1 : Heap) (locs1 : List Loc), Wd g A ws2 s.heap H1 locs1 → W p l e R s m args below meth c H1 locs1 cells slots Q (F0 m (pc + 3) ls rest)) : W p l e R s m args below meth c H locs cells slots Q (F0 m pc ls (.int x :: .ref a :: rest)) := fp C w inX10s tyX10_ok nmX10 (ref := RX10) rfl 5 (by decide) (ts_t (w := Cond.fieldLink RX10 98 RX10 (TX10 5).2.1 (TX10 5).2.2.1) 1227 (by decide +kernel) (by decide +kernel)) rfl rfl q0 he rfl rfl hlt h2 hd kk
theorem p_X10_101 {p : Program} {l : Launch} {e : Env} {R : Room} {s : State} {m : MethodId} {args : Array Value} {below : List Frame} {meth : Method} {c : Code} {H : Heap} {locs : List Loc} {cells slots : Nat} {Q : State → Prop} {d : MD} {g : GT} {A : Nat → Prop} {ws : va_W} {pc : Nat} {ls : Array Slot} {rest : List Value} (C : Cx p s m args meth c RX10 d g A) (w : Wd g A ws s.heap H locs) (q0 : Nat) {a : Nat} {fs : List Value} {x : Int32} (he : ws[q0]? = some (a, .inr (10, fs))) (hlt : 4 < fs.length) {ws2 : va_W} (h2 : ws.set q0 (a, .inr (10, fs.set 4 (.int x))) = ws2) (hd : decode d.2.1 pc = .ok (.putfield 101, 3)) (kk : ∀ (H1 : Heap) (locs1 : List Loc), Wd g A ws2 s.heap H1 locs1 → W p l e R s m args below meth c H1 locs1 cells slots Q (F0 m (pc + 3) ls rest)) : W p l e R s m args below meth c H locs cells slots Q (F0 m pc ls (.int x :: .ref a :: rest)) := fp C w inX10s tyX10_ok nmX10 (ref := RX10) rfl 4 (by decide) (ts_t (w := Cond.fieldLink RX10 101 RX10 (TX10 4).2.1 (TX10 4).2.2.1) 1226 (by decide +kernel) (by decide +kernel)) rfl rfl q0 he rfl rfl hlt h2 hd kk
theorem q_1371 : Cond.code yX10_byteAt cX10_byteAt 2 (some .int) ∈ TS := ts_t 1371 (by decide +kernel) (by decide +kernel)
theorem q_1368 : Cond.methodLink RX10 104 yX10_byteAt ∈ TS := ts_t 1368 (by decide +kernel) (by decide +kernel)
theorem q_1370 : Cond.instanceMethod yX10_byteAt ∈ TS := ts_t 1370 (by decide +kernel) (by decide +kernel)
theorem qs_87 : Cond.selects yX10_byteAt.cls yX10_byteAt yX10_byteAt ∈ TS := ts_s 87 (by decide +kernel) (by decide +kernel)
theorem k_X10_104 : LkV RX10 104 m_X10_byteAt 1 := ⟨q_1368, q_1370, qs_87, ⟨q_11, q_1371, by decide, by decide, by decide +kernel⟩⟩
theorem q_1355 : Cond.code yX10_within cX10_within 6 (some .boolean) ∈ TS := ts_t 1355 (by decide +kernel) (by decide +kernel)
theorem q_1353 : Cond.methodLink RX10 115 yX10_within ∈ TS := ts_t 1353 (by decide +kernel) (by decide +kernel)
theorem q_1354 : Cond.static yX10_within ∈ TS := ts_t 1354 (by decide +kernel) (by decide +kernel)
theorem k_X10_115 : LkS RX10 115 m_X10_within 3 := ⟨q_1353, q_1354, ⟨q_11, q_1355, by decide, by decide, by decide +kernel⟩⟩
abbrev w_X10_nextToken (g : GT) (h0 h1 : Nat) (v0_0 v0_2 v0_8 v0_9 v0_10 v0_11 v0_12 v0_13 v0_14 v0_15 v0_16 v0_17 v0_18 v0_19 v0_20 v0_21 v0_22 v0_23 v0_24 v0_25 v0_26 v0_27 v0_28 v0_29 v0_30 v0_31 v0_32 v0_33 v0_34 v0_35 v0_36 v0_37 : Value) (textLength0 tokenStart0 tokenEnd0 token0 value0 : Int32) (buffer1 : Nat → Int32) : va_W := [(h0, .inr (10, [v0_0, .ref h1, v0_2, .int textLength0, .int tokenStart0, .int tokenEnd0, .int token0, .int value0, v0_8, v0_9, v0_10, v0_11, v0_12, v0_13, v0_14, v0_15, v0_16, v0_17, v0_18, v0_19, v0_20, v0_21, v0_22, v0_23, v0_24, v0_25, v0_26, v0_27, v0_28, v0_29, v0_30, v0_31, v0_32, v0_33, v0_34, v0_35, v0_36, v0_37])), (h1, aB g 900 buffer1)]
def f_X10_nextToken_b302 (F : Nat) (textLength0 : Int32) (buffer1 : Nat → Int32) (tokenStart0 tokenEnd0 token0 value0 : Int32) : Option (Int32 × Int32 × Int32 × Int32) :=
  some (tokenStart0, tokenEnd0, token0, value0)
def f_X10_nextToken_b299 (F : Nat) (textLength0 : Int32) (buffer1 : Nat → Int32) (s0 tokenStart0 tokenEnd0 token0 value0 : Int32) : Option (Int32 × Int32 × Int32 × Int32) :=
  f_X10_nextToken_b302 F textLength0 buffer1 tokenStart0 tokenEnd0 s0 value0
def f_X10_nextToken_b271 (F : Nat) (textLength0 : Int32) (buffer1 : Nat → Int32) (s0 tokenStart0 tokenEnd0 token0 value0 : Int32) : Option (Int32 × Int32 × Int32 × Int32) :=
  f_X10_nextToken_b302 F textLength0 buffer1 tokenStart0 tokenEnd0 s0 value0
def f_X10_nextToken_b236 (F : Nat) (k175 : (Int32 × Int32 × Int32 × Int32) → Option (Int32 × Int32 × Int32 × Int32)) (textLength0 : Int32) (buffer1 : Nat → Int32) (s0 tokenStart0 tokenEnd0 token0 value0 : Int32) : Option (Int32 × Int32 × Int32 × Int32) :=
  k175 (tokenStart0, tokenEnd0 + 1, token0, s0)
def f_X10_nextToken_h175 (F : Nat) (textLength0 : Int32) (buffer1 : Nat → Int32) (k175 : (Int32 × Int32 × Int32 × Int32) → Option (Int32 × Int32 × Int32 × Int32)) (tokenStart0 tokenEnd0 token0 value0 : Int32) : Option (Int32 × Int32 × Int32 × Int32) :=
  bd1 (f_X10_byteAt F tokenEnd0 textLength0 buffer1) fun r1 =>
  bd1 (f_X10_within F r1.toInt64 48 57) fun r3 =>
  if r3 = 0 then
    if (tokenEnd0 - tokenStart0) ≤ 4 then
      f_X10_nextToken_b271 F textLength0 buffer1 2 tokenStart0 tokenEnd0 token0 value0
    else
      f_X10_nextToken_b271 F textLength0 buffer1 3 tokenStart0 tokenEnd0 token0 value0
  else
    if 4 ≤ (tokenEnd0 - tokenStart0) then
      f_X10_nextToken_b236 F k175 textLength0 buffer1 value0 tokenStart0 tokenEnd0 token0 value0
    else
      bd1 (f_X10_byteAt F tokenEnd0 textLength0 buffer1) fun r8 =>
      f_X10_nextToken_b236 F k175 textLength0 buffer1 (((10 * value0) + r8) - 48) tokenStart0 tokenEnd0 token0 value0
def f_X10_nextToken_L175 (F : Nat) (textLength0 : Int32) (buffer1 : Nat → Int32) (z : Int32 × Int32 × Int32 × Int32) : Option (Int32 × Int32 × Int32 × Int32) := lp (fun k z => f_X10_nextToken_h175 F textLength0 buffer1 k z.1 z.2.1 z.2.2.1 z.2.2.2) F z
def f_X10_nextToken_b150 (F : Nat) (textLength0 : Int32) (buffer1 : Nat → Int32) (s0 tokenStart0 tokenEnd0 token0 value0 : Int32) : Option (Int32 × Int32 × Int32 × Int32) :=
  f_X10_nextToken_b302 F textLength0 buffer1 tokenStart0 tokenEnd0 s0 value0
def f_X10_nextToken_h96 (F : Nat) (textLength0 : Int32) (buffer1 : Nat → Int32) (k96 : (Int32 × Int32 × Int32 × Int32) → Option (Int32 × Int32 × Int32 × Int32)) (tokenStart0 tokenEnd0 token0 value0 : Int32) : Option (Int32 × Int32 × Int32 × Int32) :=
  bd1 (f_X10_byteAt F tokenEnd0 textLength0 buffer1) fun r10 =>
  bd1 (f_X10_within F r10.toInt64 97 122) fun r12 =>
  if r12 = 0 then
    if (tokenEnd0 - tokenStart0) ≤ 10 then
      f_X10_nextToken_b150 F textLength0 buffer1 1 tokenStart0 tokenEnd0 token0 value0
    else
      f_X10_nextToken_b150 F textLength0 buffer1 3 tokenStart0 tokenEnd0 token0 value0
  else
    k96 (tokenStart0, tokenEnd0 + 1, token0, value0)
def f_X10_nextToken_L96 (F : Nat) (textLength0 : Int32) (buffer1 : Nat → Int32) (z : Int32 × Int32 × Int32 × Int32) : Option (Int32 × Int32 × Int32 × Int32) := lp (fun k z => f_X10_nextToken_h96 F textLength0 buffer1 k z.1 z.2.1 z.2.2.1 z.2.2.2) F z
def f_X10_nextToken_b34 (F : Nat) (k8 : (Int32 × Int32 × Int32 × Int32) → Option (Int32 × Int32 × Int32 × Int32)) (textLength0 : Int32) (buffer1 : Nat → Int32) (tokenStart0 tokenEnd0 token0 value0 : Int32) : Option (Int32 × Int32 × Int32 × Int32) :=
  k8 (tokenStart0 + 1, tokenEnd0, token0, value0)
def f_X10_nextToken_h8 (F : Nat) (textLength0 : Int32) (buffer1 : Nat → Int32) (k8 : (Int32 × Int32 × Int32 × Int32) → Option (Int32 × Int32 × Int32 × Int32)) (tokenStart0 tokenEnd0 token0 value0 : Int32) : Option (Int32 × Int32 × Int32 × Int32) :=
  bd1 (f_X10_byteAt F tokenStart0 textLength0 buffer1) fun r16 =>
  if r16 = 32 then
    f_X10_nextToken_b34 F k8 textLength0 buffer1 tokenStart0 tokenEnd0 token0 value0
  else
    bd1 (f_X10_byteAt F tokenStart0 textLength0 buffer1) fun r19 =>
    if r19 = 10 then
      f_X10_nextToken_b34 F k8 textLength0 buffer1 tokenStart0 tokenEnd0 token0 value0
    else
      bd1 (f_X10_byteAt F tokenStart0 textLength0 buffer1) fun r22 =>
      if r22 = (-1) then
        f_X10_nextToken_b302 F textLength0 buffer1 tokenStart0 tokenStart0 0 value0
      else
        bd1 (f_X10_within F r22.toInt64 97 122) fun r25 =>
        if r25 = 0 then
          bd1 (f_X10_within F r22.toInt64 48 57) fun r28 =>
          if r28 = 0 then
            if r22 = 59 then
              f_X10_nextToken_b299 F textLength0 buffer1 r22 tokenStart0 (tokenStart0 + 1) 3 value0
            else
              f_X10_nextToken_b299 F textLength0 buffer1 3 tokenStart0 (tokenStart0 + 1) 3 value0
          else
            f_X10_nextToken_L175 F textLength0 buffer1 (tokenStart0, tokenStart0, 3, 0)
        else
          f_X10_nextToken_L96 F textLength0 buffer1 (tokenStart0, tokenStart0, 3, value0)
def f_X10_nextToken_L8 (F : Nat) (textLength0 : Int32) (buffer1 : Nat → Int32) (z : Int32 × Int32 × Int32 × Int32) : Option (Int32 × Int32 × Int32 × Int32) := lp (fun k z => f_X10_nextToken_h8 F textLength0 buffer1 k z.1 z.2.1 z.2.2.1 z.2.2.2) F z
def f_X10_nextToken (F : Nat) (textLength0 tokenStart0 tokenEnd0 token0 value0 : Int32) (buffer1 : Nat → Int32) : Option (Int32 × Int32 × Int32 × Int32) :=
  f_X10_nextToken_L8 F textLength0 buffer1 (tokenEnd0, tokenEnd0, token0, value0)
set_option maxHeartbeats 4000000 in
set_option maxRecDepth 100000 in
theorem c_X10_nextToken (l : Launch) (g : GT) (F : Nat) (h0 h1 : Nat) (v0_0 v0_2 v0_8 v0_9 v0_10 v0_11 v0_12 v0_13 v0_14 v0_15 v0_16 v0_17 v0_18 v0_19 v0_20 v0_21 v0_22 v0_23 v0_24 v0_25 v0_26 v0_27 v0_28 v0_29 v0_30 v0_31 v0_32 v0_33 v0_34 v0_35 v0_36 v0_37 : Value) (textLength0 tokenStart0 tokenEnd0 token0 value0 : Int32) (buffer1 : Nat → Int32) (o_tokenStart0 o_tokenEnd0 o_token0 o_value0 : Int32) (sz : Nat) (hf : f_X10_nextToken F textLength0 tokenStart0 tokenEnd0 token0 value0 buffer1 = some (o_tokenStart0, o_tokenEnd0, o_token0, o_value0)) : CV l m_X10_nextToken (rml 1 0 0) g (w_X10_nextToken g h0 h1 v0_0 v0_2 v0_8 v0_9 v0_10 v0_11 v0_12 v0_13 v0_14 v0_15 v0_16 v0_17 v0_18 v0_19 v0_20 v0_21 v0_22 v0_23 v0_24 v0_25 v0_26 v0_27 v0_28 v0_29 v0_30 v0_31 v0_32 v0_33 v0_34 v0_35 v0_36 v0_37 textLength0 tokenStart0 tokenEnd0 token0 value0 buffer1) (fun _ => w_X10_nextToken g h0 h1 v0_0 v0_2 v0_8 v0_9 v0_10 v0_11 v0_12 v0_13 v0_14 v0_15 v0_16 v0_17 v0_18 v0_19 v0_20 v0_21 v0_22 v0_23 v0_24 v0_25 v0_26 v0_27 v0_28 v0_29 v0_30 v0_31 v0_32 v0_33 v0_34 v0_35 v0_36 v0_37 textLength0 o_tokenStart0 o_tokenEnd0 o_token0 o_value0 buffer1) sz [.ref h0] := by
  refine en_v (by decide) (Nat.le_of_ble_eq_true rfl) (fun p e s m args below meth c A ls C w hl => ?_)
  have C : Cx p s m args meth c RX10 m_X10_nextToken g A := C
  have hx := C.1
  have hb : c.code = cX10_nextToken := C.2.1
  have hl : lv_has ls 2 [(0, .ref h0)] := hl
  obtain ⟨Q, hQ⟩ : ∃ Q, Q = QV below args s g A (fun _ => w_X10_nextToken g h0 h1 v0_0 v0_2 v0_8 v0_9 v0_10 v0_11 v0_12 v0_13 v0_14 v0_15 v0_16 v0_17 v0_18 v0_19 v0_20 v0_21 v0_22 v0_23 v0_24 v0_25 v0_26 v0_27 v0_28 v0_29 v0_30 v0_31 v0_32 v0_33 v0_34 v0_35 v0_36 v0_37 textLength0 o_tokenStart0 o_tokenEnd0 o_token0 o_value0 buffer1) 0 0 := ⟨_, rfl⟩
  suffices hW : W p l e (rml 1 0 0) s m args below meth c s.heap [] 0 0 Q (F0 m 0 ls []) from (by rw [hQ] at hW; exact hW)
  unfold f_X10_nextToken at hf
  have b302 : ∀ (tokenStart0 tokenEnd0 token0 value0 : Int32) (H : Heap) (locs : List Loc) (ls : Array Slot), f_X10_nextToken_b302 F textLength0 buffer1 tokenStart0 tokenEnd0 token0 value0 = some (o_tokenStart0, o_tokenEnd0, o_token0, o_value0) → Wd g A (w_X10_nextToken g h0 h1 v0_0 v0_2 v0_8 v0_9 v0_10 v0_11 v0_12 v0_13 v0_14 v0_15 v0_16 v0_17 v0_18 v0_19 v0_20 v0_21 v0_22 v0_23 v0_24 v0_25 v0_26 v0_27 v0_28 v0_29 v0_30 v0_31 v0_32 v0_33 v0_34 v0_35 v0_36 v0_37 textLength0 tokenStart0 tokenEnd0 token0 value0 buffer1) s.heap H locs → lv_has ls 2 [] → W p l e (rml 1 0 0) s m args below meth c H locs 0 0 Q (F0 m 302 ls []) := by
    intro tokenStart0 tokenEnd0 token0 value0 H locs ls hf w hl
    unfold f_X10_nextToken_b302 at hf
    obtain ⟨e1, e2, e3, e4⟩ := tp4 hf
    rw [hQ]
    exact rt_v C w rfl (fun _ => 0) (by rw [← e1, ← e2, ← e3, ← e4]) dX10_nextToken_302
  have b299 : ∀ (s0 tokenStart0 tokenEnd0 token0 value0 : Int32) (H : Heap) (locs : List Loc) (ls : Array Slot), f_X10_nextToken_b299 F textLength0 buffer1 s0 tokenStart0 tokenEnd0 token0 value0 = some (o_tokenStart0, o_tokenEnd0, o_token0, o_value0) → Wd g A (w_X10_nextToken g h0 h1 v0_0 v0_2 v0_8 v0_9 v0_10 v0_11 v0_12 v0_13 v0_14 v0_15 v0_16 v0_17 v0_18 v0_19 v0_20 v0_21 v0_22 v0_23 v0_24 v0_25 v0_26 v0_27 v0_28 v0_29 v0_30 v0_31 v0_32 v0_33 v0_34 v0_35 v0_36 v0_37 textLength0 tokenStart0 tokenEnd0 token0 value0 buffer1) s.heap H locs → lv_has ls 2 [] → W p l e (rml 1 0 0) s m args below meth c H locs 0 0 Q (F0 m 299 ls [.int s0, .ref h0]) := by
    intro s0 tokenStart0 tokenEnd0 token0 value0 H locs ls hf w hl
    unfold f_X10_nextToken_b299 at hf
    refine p_X10_108 C w 0 rfl (Nat.le_of_ble_eq_true rfl) (ws2 := w_X10_nextToken g h0 h1 v0_0 v0_2 v0_8 v0_9 v0_10 v0_11 v0_12 v0_13 v0_14 v0_15 v0_16 v0_17 v0_18 v0_19 v0_20 v0_21 v0_22 v0_23 v0_24 v0_25 v0_26 v0_27 v0_28 v0_29 v0_30 v0_31 v0_32 v0_33 v0_34 v0_35 v0_36 v0_37 textLength0 tokenStart0 tokenEnd0 s0 value0 buffer1) rfl dX10_nextToken_299 (fun H locs w => ?_)
    exact b302 tokenStart0 tokenEnd0 s0 value0 _ _ _ hf w (lv_sub hl [] rfl)
  have b271 : ∀ (s0 tokenStart0 tokenEnd0 token0 value0 : Int32) (H : Heap) (locs : List Loc) (ls : Array Slot), f_X10_nextToken_b271 F textLength0 buffer1 s0 tokenStart0 tokenEnd0 token0 value0 = some (o_tokenStart0, o_tokenEnd0, o_token0, o_value0) → Wd g A (w_X10_nextToken g h0 h1 v0_0 v0_2 v0_8 v0_9 v0_10 v0_11 v0_12 v0_13 v0_14 v0_15 v0_16 v0_17 v0_18 v0_19 v0_20 v0_21 v0_22 v0_23 v0_24 v0_25 v0_26 v0_27 v0_28 v0_29 v0_30 v0_31 v0_32 v0_33 v0_34 v0_35 v0_36 v0_37 textLength0 tokenStart0 tokenEnd0 token0 value0 buffer1) s.heap H locs → lv_has ls 2 [] → W p l e (rml 1 0 0) s m args below meth c H locs 0 0 Q (F0 m 271 ls [.int s0, .ref h0]) := by
    intro s0 tokenStart0 tokenEnd0 token0 value0 H locs ls hf w hl
    unfold f_X10_nextToken_b271 at hf
    refine p_X10_108 C w 0 rfl (Nat.le_of_ble_eq_true rfl) (ws2 := w_X10_nextToken g h0 h1 v0_0 v0_2 v0_8 v0_9 v0_10 v0_11 v0_12 v0_13 v0_14 v0_15 v0_16 v0_17 v0_18 v0_19 v0_20 v0_21 v0_22 v0_23 v0_24 v0_25 v0_26 v0_27 v0_28 v0_29 v0_30 v0_31 v0_32 v0_33 v0_34 v0_35 v0_36 v0_37 textLength0 tokenStart0 tokenEnd0 s0 value0 buffer1) rfl dX10_nextToken_271 (fun H locs w => ?_)
    refine lv_goto (tgt := 302) hx hb dX10_nextToken_274 (by decide) ?_
    exact b302 tokenStart0 tokenEnd0 s0 value0 _ _ _ hf w (lv_sub hl [] rfl)
  have L175 : ∀ (z : Int32 × Int32 × Int32 × Int32), f_X10_nextToken_L175 F textLength0 buffer1 z = some (o_tokenStart0, o_tokenEnd0, o_token0, o_value0) → ∀ (H : Heap) (locs : List Loc) (ls : Array Slot), Wd g A (w_X10_nextToken g h0 h1 v0_0 v0_2 v0_8 v0_9 v0_10 v0_11 v0_12 v0_13 v0_14 v0_15 v0_16 v0_17 v0_18 v0_19 v0_20 v0_21 v0_22 v0_23 v0_24 v0_25 v0_26 v0_27 v0_28 v0_29 v0_30 v0_31 v0_32 v0_33 v0_34 v0_35 v0_36 v0_37 textLength0 z.1 z.2.1 z.2.2.1 z.2.2.2 buffer1) s.heap H locs → lv_has ls 2 [(0, .ref h0)] → W p l e (rml 1 0 0) s m args below meth c H locs 0 0 Q (F0 m 175 ls []) := by
    intro z hf
    refine lp_W (r := (o_tokenStart0, o_tokenEnd0, o_token0, o_value0)) (fun (z : Int32 × Int32 × Int32 × Int32) => ∀ (H : Heap) (locs : List Loc) (ls : Array Slot), Wd g A (w_X10_nextToken g h0 h1 v0_0 v0_2 v0_8 v0_9 v0_10 v0_11 v0_12 v0_13 v0_14 v0_15 v0_16 v0_17 v0_18 v0_19 v0_20 v0_21 v0_22 v0_23 v0_24 v0_25 v0_26 v0_27 v0_28 v0_29 v0_30 v0_31 v0_32 v0_33 v0_34 v0_35 v0_36 v0_37 textLength0 z.1 z.2.1 z.2.2.1 z.2.2.2 buffer1) s.heap H locs → lv_has ls 2 [(0, .ref h0)] → W p l e (rml 1 0 0) s m args below meth c H locs 0 0 Q (F0 m 175 ls [])) (fun k175 z ih175 hf => ?_) F z hf
    obtain ⟨tokenStart0, tokenEnd0, token0, value0⟩ := z
    intro H locs ls w hl
    try dsimp only at hf w hl ⊢
    unfold f_X10_nextToken_h175 at hf
    have b236 : ∀ (s0 tokenStart0 tokenEnd0 token0 value0 : Int32) (H : Heap) (locs : List Loc) (ls : Array Slot), f_X10_nextToken_b236 F k175 textLength0 buffer1 s0 tokenStart0 tokenEnd0 token0 value0 = some (o_tokenStart0, o_tokenEnd0, o_token0, o_value0) → Wd g A (w_X10_nextToken g h0 h1 v0_0 v0_2 v0_8 v0_9 v0_10 v0_11 v0_12 v0_13 v0_14 v0_15 v0_16 v0_17 v0_18 v0_19 v0_20 v0_21 v0_22 v0_23 v0_24 v0_25 v0_26 v0_27 v0_28 v0_29 v0_30 v0_31 v0_32 v0_33 v0_34 v0_35 v0_36 v0_37 textLength0 tokenStart0 tokenEnd0 token0 value0 buffer1) s.heap H locs → lv_has ls 2 [(0, .ref h0)] → W p l e (rml 1 0 0) s m args below meth c H locs 0 0 Q (F0 m 236 ls [.int s0, .ref h0]) := by
      intro s0 tokenStart0 tokenEnd0 token0 value0 H locs ls hf w hl
      unfold f_X10_nextToken_b236 at hf
      refine p_X10_123 C w 0 rfl (Nat.le_of_ble_eq_true rfl) (ws2 := w_X10_nextToken g h0 h1 v0_0 v0_2 v0_8 v0_9 v0_10 v0_11 v0_12 v0_13 v0_14 v0_15 v0_16 v0_17 v0_18 v0_19 v0_20 v0_21 v0_22 v0_23 v0_24 v0_25 v0_26 v0_27 v0_28 v0_29 v0_30 v0_31 v0_32 v0_33 v0_34 v0_35 v0_36 v0_37 textLength0 tokenStart0 tokenEnd0 token0 s0 buffer1) rfl dX10_nextToken_236 (fun H locs w => ?_)
      refine lv_aload_n hx hb dX10_nextToken_239 rfl (lv_at hl 0 rfl) ?_
      refine lv_dup hx hb dX10_nextToken_240 rfl ?_
      refine g_X10_98 C w 0 rfl rfl dX10_nextToken_241 ?_
      refine lv_iconst (v := 1) hx hb dX10_nextToken_244 (by decide) ?_
      refine lv_iadd hx hb dX10_nextToken_245 ?_
      refine p_X10_98 C w 0 rfl (Nat.le_of_ble_eq_true rfl) (ws2 := w_X10_nextToken g h0 h1 v0_0 v0_2 v0_8 v0_9 v0_10 v0_11 v0_12 v0_13 v0_14 v0_15 v0_16 v0_17 v0_18 v0_19 v0_20 v0_21 v0_22 v0_23 v0_24 v0_25 v0_26 v0_27 v0_28 v0_29 v0_30 v0_31 v0_32 v0_33 v0_34 v0_35 v0_36 v0_37 textLength0 tokenStart0 (tokenEnd0 + 1) token0 s0 buffer1) rfl dX10_nextToken_246 (fun H locs w => ?_)
      refine lv_goto (tgt := 175) hx hb dX10_nextToken_249 (by decide) ?_
      exact ih175 (tokenStart0, tokenEnd0 + 1, token0, s0) hf _ _ _ w (lv_sub hl [0] rfl)
    refine lv_aload_n hx hb dX10_nextToken_175 rfl (lv_at hl 0 rfl) ?_
    refine lv_aload_n hx hb dX10_nextToken_176 rfl (lv_at hl 0 rfl) ?_
    refine g_X10_98 C w 0 rfl rfl dX10_nextToken_177 ?_
    obtain ⟨r1, hc2, hf⟩ := bd1_some hf
    refine ca_iV C w (wn := fun _ => w_X10_nextToken g h0 h1 v0_0 v0_2 v0_8 v0_9 v0_10 v0_11 v0_12 v0_13 v0_14 v0_15 v0_16 v0_17 v0_18 v0_19 v0_20 v0_21 v0_22 v0_23 v0_24 v0_25 v0_26 v0_27 v0_28 v0_29 v0_30 v0_31 v0_32 v0_33 v0_34 v0_35 v0_36 v0_37 textLength0 tokenStart0 tokenEnd0 token0 value0 buffer1) (pm_k [true, true] rfl rfl (fun _ => Nat.le_of_ble_eq_true rfl) (fun _ => rfl)) (c_X10_byteAt l g F h0 h1 v0_0 v0_2 (.int tokenStart0) (.int tokenEnd0) (.int token0) (.int value0) v0_8 v0_9 v0_10 v0_11 v0_12 v0_13 v0_14 v0_15 v0_16 v0_17 v0_18 v0_19 v0_20 v0_21 v0_22 v0_23 v0_24 v0_25 v0_26 v0_27 v0_28 v0_29 v0_30 v0_31 v0_32 v0_33 v0_34 v0_35 v0_36 v0_37 tokenEnd0 textLength0 buffer1 r1 _ hc2) k_X10_104 (rm_le (by decide) (by decide)) 0 10 rfl rfl rfl rfl hl.1 rfl (Nat.le_of_ble_eq_true rfl) dX10_nextToken_180 ⟨Nat.le_of_ble_eq_true rfl, Nat.le_of_ble_eq_true rfl⟩ (cells2 := 0) (slots2 := 0) ⟨rfl, rfl⟩ (fun _ H locs w => ?_)
    refine lv_i2l (v := r1.toInt64) hx hb dX10_nextToken_183 rfl ?_
    refine lv_ldc2 (v := 48) hx hb C.2.2.2.1 (C.2.2.2.2.1 _ q_1374) dX10_nextToken_184 ?_
    refine lv_ldc2 (v := 57) hx hb C.2.2.2.1 (C.2.2.2.2.1 _ q_1375) dX10_nextToken_187 ?_
    obtain ⟨r3, hc4, hf⟩ := bd1_some hf
    refine ca_iS C w (wn := fun _ => w_X10_nextToken g h0 h1 v0_0 v0_2 v0_8 v0_9 v0_10 v0_11 v0_12 v0_13 v0_14 v0_15 v0_16 v0_17 v0_18 v0_19 v0_20 v0_21 v0_22 v0_23 v0_24 v0_25 v0_26 v0_27 v0_28 v0_29 v0_30 v0_31 v0_32 v0_33 v0_34 v0_35 v0_36 v0_37 textLength0 tokenStart0 tokenEnd0 token0 value0 buffer1) (pm_k [false, false] rfl rfl (fun _ => Nat.le_of_ble_eq_true rfl) (fun _ => rfl)) (c_X10_within l g F r1.toInt64 48 57 r3 _ hc4) k_X10_115 (rm_le (by decide) (by decide)) rfl hl.1 rfl (Nat.le_of_ble_eq_true rfl) dX10_nextToken_190 ⟨Nat.le_of_ble_eq_true rfl, Nat.le_of_ble_eq_true rfl⟩ (cells2 := 0) (slots2 := 0) ⟨rfl, rfl⟩ (fun _ H locs w => ?_)
    refine lv_if_eq (tgt := 252) hx hb dX10_nextToken_193 (by decide) (fun c5 => ?_) (fun c5 => ?_)
    · replace hf := it_t c5 hf
      refine lv_aload_n hx hb dX10_nextToken_252 rfl (lv_at hl 0 rfl) ?_
      refine lv_aload_n hx hb dX10_nextToken_253 rfl (lv_at hl 0 rfl) ?_
      refine g_X10_98 C w 0 rfl rfl dX10_nextToken_254 ?_
      refine lv_aload_n hx hb dX10_nextToken_257 rfl (lv_at hl 0 rfl) ?_
      refine g_X10_101 C w 0 rfl rfl dX10_nextToken_258 ?_
      refine lv_isub hx hb dX10_nextToken_261 ?_
      refine lv_iconst (v := 4) hx hb dX10_nextToken_262 (by decide) ?_
      refine lv_icmp_le (tgt := 270) hx hb dX10_nextToken_263 (by decide) (fun c6 => ?_) (fun c6 => ?_)
      · replace hf := it_t c6 hf
        refine lv_iconst (v := 2) hx hb dX10_nextToken_270 (by decide) ?_
        exact b271 2 tokenStart0 tokenEnd0 token0 value0 _ _ _ hf w (lv_sub hl [] rfl)
      · replace hf := it_f c6 hf
        refine lv_iconst (v := 3) hx hb dX10_nextToken_266 (by decide) ?_
        refine lv_goto (tgt := 271) hx hb dX10_nextToken_267 (by decide) ?_
        exact b271 3 tokenStart0 tokenEnd0 token0 value0 _ _ _ hf w (lv_sub hl [] rfl)
    · replace hf := it_f c5 hf
      refine lv_aload_n hx hb dX10_nextToken_196 rfl (lv_at hl 0 rfl) ?_
      refine lv_aload_n hx hb dX10_nextToken_197 rfl (lv_at hl 0 rfl) ?_
      refine g_X10_98 C w 0 rfl rfl dX10_nextToken_198 ?_
      refine lv_aload_n hx hb dX10_nextToken_201 rfl (lv_at hl 0 rfl) ?_
      refine g_X10_101 C w 0 rfl rfl dX10_nextToken_202 ?_
      refine lv_isub hx hb dX10_nextToken_205 ?_
      refine lv_iconst (v := 4) hx hb dX10_nextToken_206 (by decide) ?_
      refine lv_icmp_ge (tgt := 232) hx hb dX10_nextToken_207 (by decide) (fun c7 => ?_) (fun c7 => ?_)
      · replace hf := it_t c7 hf
        refine lv_aload_n hx hb dX10_nextToken_232 rfl (lv_at hl 0 rfl) ?_
        refine g_X10_123 C w 0 rfl rfl dX10_nextToken_233 ?_
        exact b236 value0 tokenStart0 tokenEnd0 token0 value0 _ _ _ hf w (lv_sub hl [0] rfl)
      · replace hf := it_f c7 hf
        refine lv_bipush (v := 10) hx hb dX10_nextToken_210 (by decide) ?_
        refine lv_aload_n hx hb dX10_nextToken_212 rfl (lv_at hl 0 rfl) ?_
        refine g_X10_123 C w 0 rfl rfl dX10_nextToken_213 ?_
        refine lv_imul hx hb dX10_nextToken_216 ?_
        refine lv_aload_n hx hb dX10_nextToken_217 rfl (lv_at hl 0 rfl) ?_
        refine lv_aload_n hx hb dX10_nextToken_218 rfl (lv_at hl 0 rfl) ?_
        refine g_X10_98 C w 0 rfl rfl dX10_nextToken_219 ?_
        obtain ⟨r8, hc9, hf⟩ := bd1_some hf
        refine ca_iV C w (wn := fun _ => w_X10_nextToken g h0 h1 v0_0 v0_2 v0_8 v0_9 v0_10 v0_11 v0_12 v0_13 v0_14 v0_15 v0_16 v0_17 v0_18 v0_19 v0_20 v0_21 v0_22 v0_23 v0_24 v0_25 v0_26 v0_27 v0_28 v0_29 v0_30 v0_31 v0_32 v0_33 v0_34 v0_35 v0_36 v0_37 textLength0 tokenStart0 tokenEnd0 token0 value0 buffer1) (pm_k [true, true] rfl rfl (fun _ => Nat.le_of_ble_eq_true rfl) (fun _ => rfl)) (c_X10_byteAt l g F h0 h1 v0_0 v0_2 (.int tokenStart0) (.int tokenEnd0) (.int token0) (.int value0) v0_8 v0_9 v0_10 v0_11 v0_12 v0_13 v0_14 v0_15 v0_16 v0_17 v0_18 v0_19 v0_20 v0_21 v0_22 v0_23 v0_24 v0_25 v0_26 v0_27 v0_28 v0_29 v0_30 v0_31 v0_32 v0_33 v0_34 v0_35 v0_36 v0_37 tokenEnd0 textLength0 buffer1 r8 _ hc9) k_X10_104 (rm_le (by decide) (by decide)) 0 10 rfl rfl rfl rfl hl.1 rfl (Nat.le_of_ble_eq_true rfl) dX10_nextToken_222 ⟨Nat.le_of_ble_eq_true rfl, Nat.le_of_ble_eq_true rfl⟩ (cells2 := 0) (slots2 := 0) ⟨rfl, rfl⟩ (fun _ H locs w => ?_)
        refine lv_iadd hx hb dX10_nextToken_225 ?_
        refine lv_bipush (v := 48) hx hb dX10_nextToken_226 (by decide) ?_
        refine lv_isub hx hb dX10_nextToken_228 ?_
        refine lv_goto (tgt := 236) hx hb dX10_nextToken_229 (by decide) ?_
        exact b236 (((10 * value0) + r8) - 48) tokenStart0 tokenEnd0 token0 value0 _ _ _ hf w (lv_sub hl [0] rfl)
  have b150 : ∀ (s0 tokenStart0 tokenEnd0 token0 value0 : Int32) (H : Heap) (locs : List Loc) (ls : Array Slot), f_X10_nextToken_b150 F textLength0 buffer1 s0 tokenStart0 tokenEnd0 token0 value0 = some (o_tokenStart0, o_tokenEnd0, o_token0, o_value0) → Wd g A (w_X10_nextToken g h0 h1 v0_0 v0_2 v0_8 v0_9 v0_10 v0_11 v0_12 v0_13 v0_14 v0_15 v0_16 v0_17 v0_18 v0_19 v0_20 v0_21 v0_22 v0_23 v0_24 v0_25 v0_26 v0_27 v0_28 v0_29 v0_30 v0_31 v0_32 v0_33 v0_34 v0_35 v0_36 v0_37 textLength0 tokenStart0 tokenEnd0 token0 value0 buffer1) s.heap H locs → lv_has ls 2 [] → W p l e (rml 1 0 0) s m args below meth c H locs 0 0 Q (F0 m 150 ls [.int s0, .ref h0]) := by
    intro s0 tokenStart0 tokenEnd0 token0 value0 H locs ls hf w hl
    unfold f_X10_nextToken_b150 at hf
    refine p_X10_108 C w 0 rfl (Nat.le_of_ble_eq_true rfl) (ws2 := w_X10_nextToken g h0 h1 v0_0 v0_2 v0_8 v0_9 v0_10 v0_11 v0_12 v0_13 v0_14 v0_15 v0_16 v0_17 v0_18 v0_19 v0_20 v0_21 v0_22 v0_23 v0_24 v0_25 v0_26 v0_27 v0_28 v0_29 v0_30 v0_31 v0_32 v0_33 v0_34 v0_35 v0_36 v0_37 textLength0 tokenStart0 tokenEnd0 s0 value0 buffer1) rfl dX10_nextToken_150 (fun H locs w => ?_)
    refine lv_goto (tgt := 302) hx hb dX10_nextToken_153 (by decide) ?_
    exact b302 tokenStart0 tokenEnd0 s0 value0 _ _ _ hf w (lv_sub hl [] rfl)
  have L96 : ∀ (z : Int32 × Int32 × Int32 × Int32), f_X10_nextToken_L96 F textLength0 buffer1 z = some (o_tokenStart0, o_tokenEnd0, o_token0, o_value0) → ∀ (H : Heap) (locs : List Loc) (ls : Array Slot), Wd g A (w_X10_nextToken g h0 h1 v0_0 v0_2 v0_8 v0_9 v0_10 v0_11 v0_12 v0_13 v0_14 v0_15 v0_16 v0_17 v0_18 v0_19 v0_20 v0_21 v0_22 v0_23 v0_24 v0_25 v0_26 v0_27 v0_28 v0_29 v0_30 v0_31 v0_32 v0_33 v0_34 v0_35 v0_36 v0_37 textLength0 z.1 z.2.1 z.2.2.1 z.2.2.2 buffer1) s.heap H locs → lv_has ls 2 [(0, .ref h0)] → W p l e (rml 1 0 0) s m args below meth c H locs 0 0 Q (F0 m 96 ls []) := by
    intro z hf
    refine lp_W (r := (o_tokenStart0, o_tokenEnd0, o_token0, o_value0)) (fun (z : Int32 × Int32 × Int32 × Int32) => ∀ (H : Heap) (locs : List Loc) (ls : Array Slot), Wd g A (w_X10_nextToken g h0 h1 v0_0 v0_2 v0_8 v0_9 v0_10 v0_11 v0_12 v0_13 v0_14 v0_15 v0_16 v0_17 v0_18 v0_19 v0_20 v0_21 v0_22 v0_23 v0_24 v0_25 v0_26 v0_27 v0_28 v0_29 v0_30 v0_31 v0_32 v0_33 v0_34 v0_35 v0_36 v0_37 textLength0 z.1 z.2.1 z.2.2.1 z.2.2.2 buffer1) s.heap H locs → lv_has ls 2 [(0, .ref h0)] → W p l e (rml 1 0 0) s m args below meth c H locs 0 0 Q (F0 m 96 ls [])) (fun k96 z ih96 hf => ?_) F z hf
    obtain ⟨tokenStart0, tokenEnd0, token0, value0⟩ := z
    intro H locs ls w hl
    try dsimp only at hf w hl ⊢
    unfold f_X10_nextToken_h96 at hf
    refine lv_aload_n hx hb dX10_nextToken_96 rfl (lv_at hl 0 rfl) ?_
    refine lv_aload_n hx hb dX10_nextToken_97 rfl (lv_at hl 0 rfl) ?_
    refine g_X10_98 C w 0 rfl rfl dX10_nextToken_98 ?_
    obtain ⟨r10, hc11, hf⟩ := bd1_some hf
    refine ca_iV C w (wn := fun _ => w_X10_nextToken g h0 h1 v0_0 v0_2 v0_8 v0_9 v0_10 v0_11 v0_12 v0_13 v0_14 v0_15 v0_16 v0_17 v0_18 v0_19 v0_20 v0_21 v0_22 v0_23 v0_24 v0_25 v0_26 v0_27 v0_28 v0_29 v0_30 v0_31 v0_32 v0_33 v0_34 v0_35 v0_36 v0_37 textLength0 tokenStart0 tokenEnd0 token0 value0 buffer1) (pm_k [true, true] rfl rfl (fun _ => Nat.le_of_ble_eq_true rfl) (fun _ => rfl)) (c_X10_byteAt l g F h0 h1 v0_0 v0_2 (.int tokenStart0) (.int tokenEnd0) (.int token0) (.int value0) v0_8 v0_9 v0_10 v0_11 v0_12 v0_13 v0_14 v0_15 v0_16 v0_17 v0_18 v0_19 v0_20 v0_21 v0_22 v0_23 v0_24 v0_25 v0_26 v0_27 v0_28 v0_29 v0_30 v0_31 v0_32 v0_33 v0_34 v0_35 v0_36 v0_37 tokenEnd0 textLength0 buffer1 r10 _ hc11) k_X10_104 (rm_le (by decide) (by decide)) 0 10 rfl rfl rfl rfl hl.1 rfl (Nat.le_of_ble_eq_true rfl) dX10_nextToken_101 ⟨Nat.le_of_ble_eq_true rfl, Nat.le_of_ble_eq_true rfl⟩ (cells2 := 0) (slots2 := 0) ⟨rfl, rfl⟩ (fun _ H locs w => ?_)
    refine lv_i2l (v := r10.toInt64) hx hb dX10_nextToken_104 rfl ?_
    refine lv_ldc2 (v := 97) hx hb C.2.2.2.1 (C.2.2.2.2.1 _ q_1372) dX10_nextToken_105 ?_
    refine lv_ldc2 (v := 122) hx hb C.2.2.2.1 (C.2.2.2.2.1 _ q_1373) dX10_nextToken_108 ?_
    obtain ⟨r12, hc13, hf⟩ := bd1_some hf
    refine ca_iS C w (wn := fun _ => w_X10_nextToken g h0 h1 v0_0 v0_2 v0_8 v0_9 v0_10 v0_11 v0_12 v0_13 v0_14 v0_15 v0_16 v0_17 v0_18 v0_19 v0_20 v0_21 v0_22 v0_23 v0_24 v0_25 v0_26 v0_27 v0_28 v0_29 v0_30 v0_31 v0_32 v0_33 v0_34 v0_35 v0_36 v0_37 textLength0 tokenStart0 tokenEnd0 token0 value0 buffer1) (pm_k [false, false] rfl rfl (fun _ => Nat.le_of_ble_eq_true rfl) (fun _ => rfl)) (c_X10_within l g F r10.toInt64 97 122 r12 _ hc13) k_X10_115 (rm_le (by decide) (by decide)) rfl hl.1 rfl (Nat.le_of_ble_eq_true rfl) dX10_nextToken_111 ⟨Nat.le_of_ble_eq_true rfl, Nat.le_of_ble_eq_true rfl⟩ (cells2 := 0) (slots2 := 0) ⟨rfl, rfl⟩ (fun _ H locs w => ?_)
    refine lv_if_eq (tgt := 130) hx hb dX10_nextToken_114 (by decide) (fun c14 => ?_) (fun c14 => ?_)
    · replace hf := it_t c14 hf
      refine lv_aload_n hx hb dX10_nextToken_130 rfl (lv_at hl 0 rfl) ?_
      refine lv_aload_n hx hb dX10_nextToken_131 rfl (lv_at hl 0 rfl) ?_
      refine g_X10_98 C w 0 rfl rfl dX10_nextToken_132 ?_
      refine lv_aload_n hx hb dX10_nextToken_135 rfl (lv_at hl 0 rfl) ?_
      refine g_X10_101 C w 0 rfl rfl dX10_nextToken_136 ?_
      refine lv_isub hx hb dX10_nextToken_139 ?_
      refine lv_bipush (v := 10) hx hb dX10_nextToken_140 (by decide) ?_
      refine lv_icmp_le (tgt := 149) hx hb dX10_nextToken_142 (by decide) (fun c15 => ?_) (fun c15 => ?_)
      · replace hf := it_t c15 hf
        refine lv_iconst (v := 1) hx hb dX10_nextToken_149 (by decide) ?_
        exact b150 1 tokenStart0 tokenEnd0 token0 value0 _ _ _ hf w (lv_sub hl [] rfl)
      · replace hf := it_f c15 hf
        refine lv_iconst (v := 3) hx hb dX10_nextToken_145 (by decide) ?_
        refine lv_goto (tgt := 150) hx hb dX10_nextToken_146 (by decide) ?_
        exact b150 3 tokenStart0 tokenEnd0 token0 value0 _ _ _ hf w (lv_sub hl [] rfl)
    · replace hf := it_f c14 hf
      refine lv_aload_n hx hb dX10_nextToken_117 rfl (lv_at hl 0 rfl) ?_
      refine lv_dup hx hb dX10_nextToken_118 rfl ?_
      refine g_X10_98 C w 0 rfl rfl dX10_nextToken_119 ?_
      refine lv_iconst (v := 1) hx hb dX10_nextToken_122 (by decide) ?_
      refine lv_iadd hx hb dX10_nextToken_123 ?_
      refine p_X10_98 C w 0 rfl (Nat.le_of_ble_eq_true rfl) (ws2 := w_X10_nextToken g h0 h1 v0_0 v0_2 v0_8 v0_9 v0_10 v0_11 v0_12 v0_13 v0_14 v0_15 v0_16 v0_17 v0_18 v0_19 v0_20 v0_21 v0_22 v0_23 v0_24 v0_25 v0_26 v0_27 v0_28 v0_29 v0_30 v0_31 v0_32 v0_33 v0_34 v0_35 v0_36 v0_37 textLength0 tokenStart0 (tokenEnd0 + 1) token0 value0 buffer1) rfl dX10_nextToken_124 (fun H locs w => ?_)
      refine lv_goto (tgt := 96) hx hb dX10_nextToken_127 (by decide) ?_
      exact ih96 (tokenStart0, tokenEnd0 + 1, token0, value0) hf _ _ _ w (lv_sub hl [0] rfl)
  have L8 : ∀ (z : Int32 × Int32 × Int32 × Int32), f_X10_nextToken_L8 F textLength0 buffer1 z = some (o_tokenStart0, o_tokenEnd0, o_token0, o_value0) → ∀ (H : Heap) (locs : List Loc) (ls : Array Slot), Wd g A (w_X10_nextToken g h0 h1 v0_0 v0_2 v0_8 v0_9 v0_10 v0_11 v0_12 v0_13 v0_14 v0_15 v0_16 v0_17 v0_18 v0_19 v0_20 v0_21 v0_22 v0_23 v0_24 v0_25 v0_26 v0_27 v0_28 v0_29 v0_30 v0_31 v0_32 v0_33 v0_34 v0_35 v0_36 v0_37 textLength0 z.1 z.2.1 z.2.2.1 z.2.2.2 buffer1) s.heap H locs → lv_has ls 2 [(0, .ref h0)] → W p l e (rml 1 0 0) s m args below meth c H locs 0 0 Q (F0 m 8 ls []) := by
    intro z hf
    refine lp_W (r := (o_tokenStart0, o_tokenEnd0, o_token0, o_value0)) (fun (z : Int32 × Int32 × Int32 × Int32) => ∀ (H : Heap) (locs : List Loc) (ls : Array Slot), Wd g A (w_X10_nextToken g h0 h1 v0_0 v0_2 v0_8 v0_9 v0_10 v0_11 v0_12 v0_13 v0_14 v0_15 v0_16 v0_17 v0_18 v0_19 v0_20 v0_21 v0_22 v0_23 v0_24 v0_25 v0_26 v0_27 v0_28 v0_29 v0_30 v0_31 v0_32 v0_33 v0_34 v0_35 v0_36 v0_37 textLength0 z.1 z.2.1 z.2.2.1 z.2.2.2 buffer1) s.heap H locs → lv_has ls 2 [(0, .ref h0)] → W p l e (rml 1 0 0) s m args below meth c H locs 0 0 Q (F0 m 8 ls [])) (fun k8 z ih8 hf => ?_) F z hf
    obtain ⟨tokenStart0, tokenEnd0, token0, value0⟩ := z
    intro H locs ls w hl
    try dsimp only at hf w hl ⊢
    unfold f_X10_nextToken_h8 at hf
    have b34 : ∀ (tokenStart0 tokenEnd0 token0 value0 : Int32) (H : Heap) (locs : List Loc) (ls : Array Slot), f_X10_nextToken_b34 F k8 textLength0 buffer1 tokenStart0 tokenEnd0 token0 value0 = some (o_tokenStart0, o_tokenEnd0, o_token0, o_value0) → Wd g A (w_X10_nextToken g h0 h1 v0_0 v0_2 v0_8 v0_9 v0_10 v0_11 v0_12 v0_13 v0_14 v0_15 v0_16 v0_17 v0_18 v0_19 v0_20 v0_21 v0_22 v0_23 v0_24 v0_25 v0_26 v0_27 v0_28 v0_29 v0_30 v0_31 v0_32 v0_33 v0_34 v0_35 v0_36 v0_37 textLength0 tokenStart0 tokenEnd0 token0 value0 buffer1) s.heap H locs → lv_has ls 2 [(0, .ref h0)] → W p l e (rml 1 0 0) s m args below meth c H locs 0 0 Q (F0 m 34 ls []) := by
      intro tokenStart0 tokenEnd0 token0 value0 H locs ls hf w hl
      unfold f_X10_nextToken_b34 at hf
      refine lv_aload_n hx hb dX10_nextToken_34 rfl (lv_at hl 0 rfl) ?_
      refine lv_dup hx hb dX10_nextToken_35 rfl ?_
      refine g_X10_101 C w 0 rfl rfl dX10_nextToken_36 ?_
      refine lv_iconst (v := 1) hx hb dX10_nextToken_39 (by decide) ?_
      refine lv_iadd hx hb dX10_nextToken_40 ?_
      refine p_X10_101 C w 0 rfl (Nat.le_of_ble_eq_true rfl) (ws2 := w_X10_nextToken g h0 h1 v0_0 v0_2 v0_8 v0_9 v0_10 v0_11 v0_12 v0_13 v0_14 v0_15 v0_16 v0_17 v0_18 v0_19 v0_20 v0_21 v0_22 v0_23 v0_24 v0_25 v0_26 v0_27 v0_28 v0_29 v0_30 v0_31 v0_32 v0_33 v0_34 v0_35 v0_36 v0_37 textLength0 (tokenStart0 + 1) tokenEnd0 token0 value0 buffer1) rfl dX10_nextToken_41 (fun H locs w => ?_)
      refine lv_goto (tgt := 8) hx hb dX10_nextToken_44 (by decide) ?_
      exact ih8 (tokenStart0 + 1, tokenEnd0, token0, value0) hf _ _ _ w (lv_sub hl [0] rfl)
    refine lv_aload_n hx hb dX10_nextToken_8 rfl (lv_at hl 0 rfl) ?_
    refine lv_aload_n hx hb dX10_nextToken_9 rfl (lv_at hl 0 rfl) ?_
    refine g_X10_101 C w 0 rfl rfl dX10_nextToken_10 ?_
    obtain ⟨r16, hc17, hf⟩ := bd1_some hf
    refine ca_iV C w (wn := fun _ => w_X10_nextToken g h0 h1 v0_0 v0_2 v0_8 v0_9 v0_10 v0_11 v0_12 v0_13 v0_14 v0_15 v0_16 v0_17 v0_18 v0_19 v0_20 v0_21 v0_22 v0_23 v0_24 v0_25 v0_26 v0_27 v0_28 v0_29 v0_30 v0_31 v0_32 v0_33 v0_34 v0_35 v0_36 v0_37 textLength0 tokenStart0 tokenEnd0 token0 value0 buffer1) (pm_k [true, true] rfl rfl (fun _ => Nat.le_of_ble_eq_true rfl) (fun _ => rfl)) (c_X10_byteAt l g F h0 h1 v0_0 v0_2 (.int tokenStart0) (.int tokenEnd0) (.int token0) (.int value0) v0_8 v0_9 v0_10 v0_11 v0_12 v0_13 v0_14 v0_15 v0_16 v0_17 v0_18 v0_19 v0_20 v0_21 v0_22 v0_23 v0_24 v0_25 v0_26 v0_27 v0_28 v0_29 v0_30 v0_31 v0_32 v0_33 v0_34 v0_35 v0_36 v0_37 tokenStart0 textLength0 buffer1 r16 _ hc17) k_X10_104 (rm_le (by decide) (by decide)) 0 10 rfl rfl rfl rfl hl.1 rfl (Nat.le_of_ble_eq_true rfl) dX10_nextToken_13 ⟨Nat.le_of_ble_eq_true rfl, Nat.le_of_ble_eq_true rfl⟩ (cells2 := 0) (slots2 := 0) ⟨rfl, rfl⟩ (fun _ H locs w => ?_)
    refine lv_bipush (v := 32) hx hb dX10_nextToken_16 (by decide) ?_
    refine lv_icmp_eq (tgt := 34) hx hb dX10_nextToken_18 (by decide) (fun c18 => ?_) (fun c18 => ?_)
    · replace hf := it_t c18 hf
      exact b34 tokenStart0 tokenEnd0 token0 value0 _ _ _ hf w (lv_sub hl [0] rfl)
    · replace hf := it_f c18 hf
      refine lv_aload_n hx hb dX10_nextToken_21 rfl (lv_at hl 0 rfl) ?_
      refine lv_aload_n hx hb dX10_nextToken_22 rfl (lv_at hl 0 rfl) ?_
      refine g_X10_101 C w 0 rfl rfl dX10_nextToken_23 ?_
      obtain ⟨r19, hc20, hf⟩ := bd1_some hf
      refine ca_iV C w (wn := fun _ => w_X10_nextToken g h0 h1 v0_0 v0_2 v0_8 v0_9 v0_10 v0_11 v0_12 v0_13 v0_14 v0_15 v0_16 v0_17 v0_18 v0_19 v0_20 v0_21 v0_22 v0_23 v0_24 v0_25 v0_26 v0_27 v0_28 v0_29 v0_30 v0_31 v0_32 v0_33 v0_34 v0_35 v0_36 v0_37 textLength0 tokenStart0 tokenEnd0 token0 value0 buffer1) (pm_k [true, true] rfl rfl (fun _ => Nat.le_of_ble_eq_true rfl) (fun _ => rfl)) (c_X10_byteAt l g F h0 h1 v0_0 v0_2 (.int tokenStart0) (.int tokenEnd0) (.int token0) (.int value0) v0_8 v0_9 v0_10 v0_11 v0_12 v0_13 v0_14 v0_15 v0_16 v0_17 v0_18 v0_19 v0_20 v0_21 v0_22 v0_23 v0_24 v0_25 v0_26 v0_27 v0_28 v0_29 v0_30 v0_31 v0_32 v0_33 v0_34 v0_35 v0_36 v0_37 tokenStart0 textLength0 buffer1 r19 _ hc20) k_X10_104 (rm_le (by decide) (by decide)) 0 10 rfl rfl rfl rfl hl.1 rfl (Nat.le_of_ble_eq_true rfl) dX10_nextToken_26 ⟨Nat.le_of_ble_eq_true rfl, Nat.le_of_ble_eq_true rfl⟩ (cells2 := 0) (slots2 := 0) ⟨rfl, rfl⟩ (fun _ H locs w => ?_)
      refine lv_bipush (v := 10) hx hb dX10_nextToken_29 (by decide) ?_
      refine lv_icmp_ne (tgt := 47) hx hb dX10_nextToken_31 (by decide) (fun c21 => ?_) (fun c21 => ?_)
      · replace hf := it_f c21 hf
        refine lv_aload_n hx hb dX10_nextToken_47 rfl (lv_at hl 0 rfl) ?_
        refine lv_aload_n hx hb dX10_nextToken_48 rfl (lv_at hl 0 rfl) ?_
        refine g_X10_101 C w 0 rfl rfl dX10_nextToken_49 ?_
        obtain ⟨r22, hc23, hf⟩ := bd1_some hf
        refine ca_iV C w (wn := fun _ => w_X10_nextToken g h0 h1 v0_0 v0_2 v0_8 v0_9 v0_10 v0_11 v0_12 v0_13 v0_14 v0_15 v0_16 v0_17 v0_18 v0_19 v0_20 v0_21 v0_22 v0_23 v0_24 v0_25 v0_26 v0_27 v0_28 v0_29 v0_30 v0_31 v0_32 v0_33 v0_34 v0_35 v0_36 v0_37 textLength0 tokenStart0 tokenEnd0 token0 value0 buffer1) (pm_k [true, true] rfl rfl (fun _ => Nat.le_of_ble_eq_true rfl) (fun _ => rfl)) (c_X10_byteAt l g F h0 h1 v0_0 v0_2 (.int tokenStart0) (.int tokenEnd0) (.int token0) (.int value0) v0_8 v0_9 v0_10 v0_11 v0_12 v0_13 v0_14 v0_15 v0_16 v0_17 v0_18 v0_19 v0_20 v0_21 v0_22 v0_23 v0_24 v0_25 v0_26 v0_27 v0_28 v0_29 v0_30 v0_31 v0_32 v0_33 v0_34 v0_35 v0_36 v0_37 tokenStart0 textLength0 buffer1 r22 _ hc23) k_X10_104 (rm_le (by decide) (by decide)) 0 10 rfl rfl rfl rfl hl.1 rfl (Nat.le_of_ble_eq_true rfl) dX10_nextToken_52 ⟨Nat.le_of_ble_eq_true rfl, Nat.le_of_ble_eq_true rfl⟩ (cells2 := 0) (slots2 := 0) ⟨rfl, rfl⟩ (fun _ H locs w => ?_)
        refine lv_istore_n (lv' := [(1, .int r22), (0, .ref h0)]) hx hb dX10_nextToken_55 rfl hl (by decide) rfl (fun ls hl => ?_)
        refine lv_aload_n hx hb dX10_nextToken_56 rfl (lv_at hl 1 rfl) ?_
        refine lv_aload_n hx hb dX10_nextToken_57 rfl (lv_at hl 1 rfl) ?_
        refine g_X10_101 C w 0 rfl rfl dX10_nextToken_58 ?_
        refine p_X10_98 C w 0 rfl (Nat.le_of_ble_eq_true rfl) (ws2 := w_X10_nextToken g h0 h1 v0_0 v0_2 v0_8 v0_9 v0_10 v0_11 v0_12 v0_13 v0_14 v0_15 v0_16 v0_17 v0_18 v0_19 v0_20 v0_21 v0_22 v0_23 v0_24 v0_25 v0_26 v0_27 v0_28 v0_29 v0_30 v0_31 v0_32 v0_33 v0_34 v0_35 v0_36 v0_37 textLength0 tokenStart0 tokenStart0 token0 value0 buffer1) rfl dX10_nextToken_61 (fun H locs w => ?_)
        refine lv_aload_n hx hb dX10_nextToken_64 rfl (lv_at hl 1 rfl) ?_
        refine lv_iconst (v := 3) hx hb dX10_nextToken_65 (by decide) ?_
        refine p_X10_108 C w 0 rfl (Nat.le_of_ble_eq_true rfl) (ws2 := w_X10_nextToken g h0 h1 v0_0 v0_2 v0_8 v0_9 v0_10 v0_11 v0_12 v0_13 v0_14 v0_15 v0_16 v0_17 v0_18 v0_19 v0_20 v0_21 v0_22 v0_23 v0_24 v0_25 v0_26 v0_27 v0_28 v0_29 v0_30 v0_31 v0_32 v0_33 v0_34 v0_35 v0_36 v0_37 textLength0 tokenStart0 tokenStart0 3 value0 buffer1) rfl dX10_nextToken_66 (fun H locs w => ?_)
        refine lv_iload_n hx hb dX10_nextToken_69 rfl (lv_at hl 0 rfl) ?_
        refine lv_iconst (v := -1) hx hb dX10_nextToken_70 (by decide) ?_
        refine lv_icmp_ne (tgt := 82) hx hb dX10_nextToken_71 (by decide) (fun c24 => ?_) (fun c24 => ?_)
        · replace hf := it_f c24 hf
          refine lv_iload_n hx hb dX10_nextToken_82 rfl (lv_at hl 0 rfl) ?_
          refine lv_i2l (v := r22.toInt64) hx hb dX10_nextToken_83 rfl ?_
          refine lv_ldc2 (v := 97) hx hb C.2.2.2.1 (C.2.2.2.2.1 _ q_1372) dX10_nextToken_84 ?_
          refine lv_ldc2 (v := 122) hx hb C.2.2.2.1 (C.2.2.2.2.1 _ q_1373) dX10_nextToken_87 ?_
          obtain ⟨r25, hc26, hf⟩ := bd1_some hf
          refine ca_iS C w (wn := fun _ => w_X10_nextToken g h0 h1 v0_0 v0_2 v0_8 v0_9 v0_10 v0_11 v0_12 v0_13 v0_14 v0_15 v0_16 v0_17 v0_18 v0_19 v0_20 v0_21 v0_22 v0_23 v0_24 v0_25 v0_26 v0_27 v0_28 v0_29 v0_30 v0_31 v0_32 v0_33 v0_34 v0_35 v0_36 v0_37 textLength0 tokenStart0 tokenStart0 3 value0 buffer1) (pm_k [false, false] rfl rfl (fun _ => Nat.le_of_ble_eq_true rfl) (fun _ => rfl)) (c_X10_within l g F r22.toInt64 97 122 r25 _ hc26) k_X10_115 (rm_le (by decide) (by decide)) rfl hl.1 rfl (Nat.le_of_ble_eq_true rfl) dX10_nextToken_90 ⟨Nat.le_of_ble_eq_true rfl, Nat.le_of_ble_eq_true rfl⟩ (cells2 := 0) (slots2 := 0) ⟨rfl, rfl⟩ (fun _ H locs w => ?_)
          refine lv_if_eq (tgt := 156) hx hb dX10_nextToken_93 (by decide) (fun c27 => ?_) (fun c27 => ?_)
          · replace hf := it_t c27 hf
            refine lv_iload_n hx hb dX10_nextToken_156 rfl (lv_at hl 0 rfl) ?_
            refine lv_i2l (v := r22.toInt64) hx hb dX10_nextToken_157 rfl ?_
            refine lv_ldc2 (v := 48) hx hb C.2.2.2.1 (C.2.2.2.2.1 _ q_1374) dX10_nextToken_158 ?_
            refine lv_ldc2 (v := 57) hx hb C.2.2.2.1 (C.2.2.2.2.1 _ q_1375) dX10_nextToken_161 ?_
            obtain ⟨r28, hc29, hf⟩ := bd1_some hf
            refine ca_iS C w (wn := fun _ => w_X10_nextToken g h0 h1 v0_0 v0_2 v0_8 v0_9 v0_10 v0_11 v0_12 v0_13 v0_14 v0_15 v0_16 v0_17 v0_18 v0_19 v0_20 v0_21 v0_22 v0_23 v0_24 v0_25 v0_26 v0_27 v0_28 v0_29 v0_30 v0_31 v0_32 v0_33 v0_34 v0_35 v0_36 v0_37 textLength0 tokenStart0 tokenStart0 3 value0 buffer1) (pm_k [false, false] rfl rfl (fun _ => Nat.le_of_ble_eq_true rfl) (fun _ => rfl)) (c_X10_within l g F r22.toInt64 48 57 r28 _ hc29) k_X10_115 (rm_le (by decide) (by decide)) rfl hl.1 rfl (Nat.le_of_ble_eq_true rfl) dX10_nextToken_164 ⟨Nat.le_of_ble_eq_true rfl, Nat.le_of_ble_eq_true rfl⟩ (cells2 := 0) (slots2 := 0) ⟨rfl, rfl⟩ (fun _ H locs w => ?_)
            refine lv_if_eq (tgt := 277) hx hb dX10_nextToken_167 (by decide) (fun c30 => ?_) (fun c30 => ?_)
            · replace hf := it_t c30 hf
              refine lv_aload_n hx hb dX10_nextToken_277 rfl (lv_at hl 1 rfl) ?_
              refine lv_dup hx hb dX10_nextToken_278 rfl ?_
              refine g_X10_98 C w 0 rfl rfl dX10_nextToken_279 ?_
              refine lv_iconst (v := 1) hx hb dX10_nextToken_282 (by decide) ?_
              refine lv_iadd hx hb dX10_nextToken_283 ?_
              refine p_X10_98 C w 0 rfl (Nat.le_of_ble_eq_true rfl) (ws2 := w_X10_nextToken g h0 h1 v0_0 v0_2 v0_8 v0_9 v0_10 v0_11 v0_12 v0_13 v0_14 v0_15 v0_16 v0_17 v0_18 v0_19 v0_20 v0_21 v0_22 v0_23 v0_24 v0_25 v0_26 v0_27 v0_28 v0_29 v0_30 v0_31 v0_32 v0_33 v0_34 v0_35 v0_36 v0_37 textLength0 tokenStart0 (tokenStart0 + 1) 3 value0 buffer1) rfl dX10_nextToken_284 (fun H locs w => ?_)
              refine lv_aload_n hx hb dX10_nextToken_287 rfl (lv_at hl 1 rfl) ?_
              refine lv_iload_n hx hb dX10_nextToken_288 rfl (lv_at hl 0 rfl) ?_
              refine lv_bipush (v := 59) hx hb dX10_nextToken_289 (by decide) ?_
              refine lv_icmp_ne (tgt := 298) hx hb dX10_nextToken_291 (by decide) (fun c31 => ?_) (fun c31 => ?_)
              · replace hf := it_f c31 hf
                refine lv_iconst (v := 3) hx hb dX10_nextToken_298 (by decide) ?_
                exact b299 3 tokenStart0 (tokenStart0 + 1) 3 value0 _ _ _ hf w (lv_sub hl [] rfl)
              · replace hf := it_t c31 hf
                refine lv_iload_n hx hb dX10_nextToken_294 rfl (lv_at hl 0 rfl) ?_
                refine lv_goto (tgt := 299) hx hb dX10_nextToken_295 (by decide) ?_
                exact b299 r22 tokenStart0 (tokenStart0 + 1) 3 value0 _ _ _ hf w (lv_sub hl [] rfl)
            · replace hf := it_f c30 hf
              refine lv_aload_n hx hb dX10_nextToken_170 rfl (lv_at hl 1 rfl) ?_
              refine lv_iconst (v := 0) hx hb dX10_nextToken_171 (by decide) ?_
              refine p_X10_123 C w 0 rfl (Nat.le_of_ble_eq_true rfl) (ws2 := w_X10_nextToken g h0 h1 v0_0 v0_2 v0_8 v0_9 v0_10 v0_11 v0_12 v0_13 v0_14 v0_15 v0_16 v0_17 v0_18 v0_19 v0_20 v0_21 v0_22 v0_23 v0_24 v0_25 v0_26 v0_27 v0_28 v0_29 v0_30 v0_31 v0_32 v0_33 v0_34 v0_35 v0_36 v0_37 textLength0 tokenStart0 tokenStart0 3 0 buffer1) rfl dX10_nextToken_172 (fun H locs w => ?_)
              exact L175 (tokenStart0, tokenStart0, 3, 0) hf _ _ _ w (lv_sub hl [1] rfl)
          · replace hf := it_f c27 hf
            exact L96 (tokenStart0, tokenStart0, 3, value0) hf _ _ _ w (lv_sub hl [1] rfl)
        · replace hf := it_t c24 hf
          refine lv_aload_n hx hb dX10_nextToken_74 rfl (lv_at hl 1 rfl) ?_
          refine lv_iconst (v := 0) hx hb dX10_nextToken_75 (by decide) ?_
          refine p_X10_108 C w 0 rfl (Nat.le_of_ble_eq_true rfl) (ws2 := w_X10_nextToken g h0 h1 v0_0 v0_2 v0_8 v0_9 v0_10 v0_11 v0_12 v0_13 v0_14 v0_15 v0_16 v0_17 v0_18 v0_19 v0_20 v0_21 v0_22 v0_23 v0_24 v0_25 v0_26 v0_27 v0_28 v0_29 v0_30 v0_31 v0_32 v0_33 v0_34 v0_35 v0_36 v0_37 textLength0 tokenStart0 tokenStart0 0 value0 buffer1) rfl dX10_nextToken_76 (fun H locs w => ?_)
          refine lv_goto (tgt := 302) hx hb dX10_nextToken_79 (by decide) ?_
          exact b302 tokenStart0 tokenStart0 0 value0 _ _ _ hf w (lv_sub hl [] rfl)
      · replace hf := it_t c21 hf
        exact b34 tokenStart0 tokenEnd0 token0 value0 _ _ _ hf w (lv_sub hl [0] rfl)
  refine lv_aload_n hx hb dX10_nextToken_0 rfl (lv_at hl 0 rfl) ?_
  refine lv_aload_n hx hb dX10_nextToken_1 rfl (lv_at hl 0 rfl) ?_
  refine g_X10_98 C w 0 rfl rfl dX10_nextToken_2 ?_
  refine p_X10_101 C w 0 rfl (Nat.le_of_ble_eq_true rfl) (ws2 := w_X10_nextToken g h0 h1 v0_0 v0_2 v0_8 v0_9 v0_10 v0_11 v0_12 v0_13 v0_14 v0_15 v0_16 v0_17 v0_18 v0_19 v0_20 v0_21 v0_22 v0_23 v0_24 v0_25 v0_26 v0_27 v0_28 v0_29 v0_30 v0_31 v0_32 v0_33 v0_34 v0_35 v0_36 v0_37 textLength0 tokenEnd0 tokenEnd0 token0 value0 buffer1) rfl dX10_nextToken_5 (fun H locs w => ?_)
  exact L8 (tokenEnd0, tokenEnd0, token0, value0) hf _ _ _ w (lv_sub hl [0] rfl)

theorem dX10_must_0 : decode cX10_must 0 = .ok (.aload_n 0, 1) := by decide +kernel
theorem dX10_must_1 : decode cX10_must 1 = .ok (.getfield 126, 3) := by decide +kernel
theorem dX10_must_4 : decode cX10_must 4 = .ok (.ifCond .ne 20, 3) := by decide +kernel
theorem dX10_must_7 : decode cX10_must 7 = .ok (.iload_n 1, 1) := by decide +kernel
theorem dX10_must_8 : decode cX10_must 8 = .ok (.ifCond .ne 16, 3) := by decide +kernel
theorem dX10_must_11 : decode cX10_must 11 = .ok (.aload_n 0, 1) := by decide +kernel
theorem dX10_must_12 : decode cX10_must 12 = .ok (.iload_n 2, 1) := by decide +kernel
theorem dX10_must_13 : decode cX10_must 13 = .ok (.putfield 126, 3) := by decide +kernel
theorem dX10_must_16 : decode cX10_must 16 = .ok (.aload_n 0, 1) := by decide +kernel
theorem dX10_must_17 : decode cX10_must 17 = .ok (.aload_n 0, 1) := by decide +kernel
theorem dX10_must_18 : decode cX10_must 18 = .ok (.getfield 101, 3) := by decide +kernel
theorem dX10_must_21 : decode cX10_must 21 = .ok (.putfield 129, 3) := by decide +kernel
theorem dX10_must_24 : decode cX10_must 24 = .ok (.aload_n 0, 1) := by decide +kernel
theorem dX10_must_25 : decode cX10_must 25 = .ok (.getfield 126, 3) := by decide +kernel
theorem dX10_must_28 : decode cX10_must 28 = .ok (.ifCond .ne 7, 3) := by decide +kernel
theorem dX10_must_31 : decode cX10_must 31 = .ok (.iconst 1, 1) := by decide +kernel
theorem dX10_must_32 : decode cX10_must 32 = .ok (.goto 4, 3) := by decide +kernel
theorem dX10_must_35 : decode cX10_must 35 = .ok (.iconst 0, 1) := by decide +kernel
theorem dX10_must_36 : decode cX10_must 36 = .ok (.ireturn, 1) := by decide +kernel
abbrev m_X10_must : MD := (yX10_must, cX10_must, 3, (some .boolean))
theorem g_X10_126 {p : Program} {l : Launch} {e : Env} {R : Room} {s : State} {m : MethodId} {args : Array Value} {below : List Frame} {meth : Method} {c : Code} {H : Heap} {locs : List Loc} {cells slots : Nat} {Q : State → Prop} {d : MD} {g : GT} {A : Nat → Prop} {ws : va_W} {pc : Nat} {ls : Array Slot} {rest : List Value} (C : Cx p s m args meth c RX10 d g A) (w : Wd g A ws s.heap H locs) (q0 : Nat) {a : Nat} {fs : List Value} {v : Value} (he : ws[q0]? = some (a, .inr (10, fs))) (hv : fs[8]? = some v) (hd : decode d.2.1 pc = .ok (.getfield 126, 3)) (kk : W p l e R s m args below meth c H locs cells slots Q (F0 m (pc + 3) ls (v :: rest))) : W p l e R s m args below meth c H locs cells slots Q (F0 m pc ls (.ref a :: rest)) := fg C w inX10s (ref := RX10) rfl 8 (by decide) (ts_t (w := Cond.fieldLink RX10 126 RX10 (TX10 8).2.1 (TX10 8).2.2.1) 1230 (by decide +kernel) (by decide +kernel)) rfl q0 he hv hd kk
theorem p_X10_126 {p : Program} {l : Launch} {e : Env} {R : Room} {s : State} {m : MethodId} {args : Array Value} {below : List Frame} {meth : Method} {c : Code} {H : Heap} {locs : List Loc} {cells slots : Nat} {Q : State → Prop} {d : MD} {g : GT} {A : Nat → Prop} {ws : va_W} {pc : Nat} {ls : Array Slot} {rest : List Value} (C : Cx p s m args meth c RX10 d g A) (w : Wd g A ws s.heap H locs) (q0 : Nat) {a : Nat} {fs : List Value} {x : Int32} (he : ws[q0]? = some (a, .inr (10, fs))) (hlt : 8 < fs.length) {ws2 : va_W} (h2 : ws.set q0 (a, .inr (10, fs.set 8 (.int x))) = ws2) (hd : decode d.2.1 pc = .ok (.putfield 126, 3)) (kk : ∀ (H1 : Heap) (locs1 : List Loc), Wd g A ws2 s.heap H1 locs1 → W p l e R s m args below meth c H1 locs1 cells slots Q (F0 m (pc + 3) ls rest)) : W p l e R s m args below meth c H locs cells slots Q (F0 m pc ls (.int x :: .ref a :: rest)) := fp C w inX10s tyX10_ok nmX10 (ref := RX10) rfl 8 (by decide) (ts_t (w := Cond.fieldLink RX10 126 RX10 (TX10 8).2.1 (TX10 8).2.2.1) 1230 (by decide +kernel) (by decide +kernel)) rfl rfl q0 he rfl rfl hlt h2 hd kk
theorem p_X10_129 {p : Program} {l : Launch} {e : Env} {R : Room} {s : State} {m : MethodId} {args : Array Value} {below : List Frame} {meth : Method} {c : Code} {H : Heap} {locs : List Loc} {cells slots : Nat} {Q : State → Prop} {d : MD} {g : GT} {A : Nat → Prop} {ws : va_W} {pc : Nat} {ls : Array Slot} {rest : List Value} (C : Cx p s m args meth c RX10 d g A) (w : Wd g A ws s.heap H locs) (q0 : Nat) {a : Nat} {fs : List Value} {x : Int32} (he : ws[q0]? = some (a, .inr (10, fs))) (hlt : 9 < fs.length) {ws2 : va_W} (h2 : ws.set q0 (a, .inr (10, fs.set 9 (.int x))) = ws2) (hd : decode d.2.1 pc = .ok (.putfield 129, 3)) (kk : ∀ (H1 : Heap) (locs1 : List Loc), Wd g A ws2 s.heap H1 locs1 → W p l e R s m args below meth c H1 locs1 cells slots Q (F0 m (pc + 3) ls rest)) : W p l e R s m args below meth c H locs cells slots Q (F0 m pc ls (.int x :: .ref a :: rest)) := fp C w inX10s tyX10_ok nmX10 (ref := RX10) rfl 9 (by decide) (ts_t (w := Cond.fieldLink RX10 129 RX10 (TX10 9).2.1 (TX10 9).2.2.1) 1231 (by decide +kernel) (by decide +kernel)) rfl rfl q0 he rfl rfl hlt h2 hd kk
abbrev w_X10_must (g : GT) (h0 : Nat) (v0_0 v0_1 v0_2 v0_3 v0_5 v0_6 v0_7 v0_10 v0_11 v0_12 v0_13 v0_14 v0_15 v0_16 v0_17 v0_18 v0_19 v0_20 v0_21 v0_22 v0_23 v0_24 v0_25 v0_26 v0_27 v0_28 v0_29 v0_30 v0_31 v0_32 v0_33 v0_34 v0_35 v0_36 v0_37 : Value) (tokenStart0 error0 errorOffset0 : Int32) : va_W := [(h0, .inr (10, [v0_0, v0_1, v0_2, v0_3, .int tokenStart0, v0_5, v0_6, v0_7, .int error0, .int errorOffset0, v0_10, v0_11, v0_12, v0_13, v0_14, v0_15, v0_16, v0_17, v0_18, v0_19, v0_20, v0_21, v0_22, v0_23, v0_24, v0_25, v0_26, v0_27, v0_28, v0_29, v0_30, v0_31, v0_32, v0_33, v0_34, v0_35, v0_36, v0_37]))]
def f_X10_must_b36 (F : Nat) (tokenStart0 s0 error0 errorOffset0 : Int32) : Option (Int32 × Int32 × Int32) :=
  gd (s0 = 0 ∨ s0 = 1) (some (s0, error0, errorOffset0))
def f_X10_must_b24 (F : Nat) (tokenStart0 error0 errorOffset0 : Int32) : Option (Int32 × Int32 × Int32) :=
  if error0 = 0 then
    f_X10_must_b36 F tokenStart0 1 error0 errorOffset0
  else
    f_X10_must_b36 F tokenStart0 0 error0 errorOffset0
def f_X10_must (F : Nat) (p1 p2 tokenStart0 error0 errorOffset0 : Int32) : Option (Int32 × Int32 × Int32) :=
  if error0 = 0 then
    if p1 = 0 then
      f_X10_must_b24 F tokenStart0 p2 tokenStart0
    else
      f_X10_must_b24 F tokenStart0 error0 errorOffset0
  else
    f_X10_must_b24 F tokenStart0 error0 errorOffset0
set_option maxHeartbeats 4000000 in
set_option maxRecDepth 100000 in
theorem c_X10_must (l : Launch) (g : GT) (F : Nat) (h0 : Nat) (v0_0 v0_1 v0_2 v0_3 v0_5 v0_6 v0_7 v0_10 v0_11 v0_12 v0_13 v0_14 v0_15 v0_16 v0_17 v0_18 v0_19 v0_20 v0_21 v0_22 v0_23 v0_24 v0_25 v0_26 v0_27 v0_28 v0_29 v0_30 v0_31 v0_32 v0_33 v0_34 v0_35 v0_36 v0_37 : Value) (p1 p2 tokenStart0 error0 errorOffset0 : Int32) (r o_error0 o_errorOffset0 : Int32) (sz : Nat) (hf : f_X10_must F p1 p2 tokenStart0 error0 errorOffset0 = some (r, o_error0, o_errorOffset0)) : CI l m_X10_must (rml 0 0 0) g (w_X10_must g h0 v0_0 v0_1 v0_2 v0_3 v0_5 v0_6 v0_7 v0_10 v0_11 v0_12 v0_13 v0_14 v0_15 v0_16 v0_17 v0_18 v0_19 v0_20 v0_21 v0_22 v0_23 v0_24 v0_25 v0_26 v0_27 v0_28 v0_29 v0_30 v0_31 v0_32 v0_33 v0_34 v0_35 v0_36 v0_37 tokenStart0 error0 errorOffset0) (fun _ => w_X10_must g h0 v0_0 v0_1 v0_2 v0_3 v0_5 v0_6 v0_7 v0_10 v0_11 v0_12 v0_13 v0_14 v0_15 v0_16 v0_17 v0_18 v0_19 v0_20 v0_21 v0_22 v0_23 v0_24 v0_25 v0_26 v0_27 v0_28 v0_29 v0_30 v0_31 v0_32 v0_33 v0_34 v0_35 v0_36 v0_37 tokenStart0 o_error0 o_errorOffset0) sz [.ref h0, .int p1, .int p2] r := by
  refine en_i (by decide) (Nat.le_of_ble_eq_true rfl) (fun p e s m args below meth c A ls C w hl => ?_)
  have C : Cx p s m args meth c RX10 m_X10_must g A := C
  have hx := C.1
  have hb : c.code = cX10_must := C.2.1
  have hl : lv_has ls 3 [(0, .ref h0), (1, .int p1), (2, .int p2)] := hl
  obtain ⟨Q, hQ⟩ : ∃ Q, Q = QI below args s g A (fun _ => w_X10_must g h0 v0_0 v0_1 v0_2 v0_3 v0_5 v0_6 v0_7 v0_10 v0_11 v0_12 v0_13 v0_14 v0_15 v0_16 v0_17 v0_18 v0_19 v0_20 v0_21 v0_22 v0_23 v0_24 v0_25 v0_26 v0_27 v0_28 v0_29 v0_30 v0_31 v0_32 v0_33 v0_34 v0_35 v0_36 v0_37 tokenStart0 o_error0 o_errorOffset0) r 0 0 := ⟨_, rfl⟩
  suffices hW : W p l e (rml 0 0 0) s m args below meth c s.heap [] 0 0 Q (F0 m 0 ls []) from (by rw [hQ] at hW; exact hW)
  unfold f_X10_must at hf
  have b36 : ∀ (s0 error0 errorOffset0 : Int32) (H : Heap) (locs : List Loc) (ls : Array Slot), f_X10_must_b36 F tokenStart0 s0 error0 errorOffset0 = some (r, o_error0, o_errorOffset0) → Wd g A (w_X10_must g h0 v0_0 v0_1 v0_2 v0_3 v0_5 v0_6 v0_7 v0_10 v0_11 v0_12 v0_13 v0_14 v0_15 v0_16 v0_17 v0_18 v0_19 v0_20 v0_21 v0_22 v0_23 v0_24 v0_25 v0_26 v0_27 v0_28 v0_29 v0_30 v0_31 v0_32 v0_33 v0_34 v0_35 v0_36 v0_37 tokenStart0 error0 errorOffset0) s.heap H locs → lv_has ls 3 [] → W p l e (rml 0 0 0) s m args below meth c H locs 0 0 Q (F0 m 36 ls [.int s0]) := by
    intro s0 error0 errorOffset0 H locs ls hf w hl
    unfold f_X10_must_b36 at hf
    obtain ⟨h01, hf⟩ := gd_some hf
    obtain ⟨e1, e2, e3⟩ := tp3 hf
    rw [hQ]
    exact rt_z C w rfl h01 (fun _ => 0) (by rw [← e2, ← e3]) e1 dX10_must_36
  have b24 : ∀ (error0 errorOffset0 : Int32) (H : Heap) (locs : List Loc) (ls : Array Slot), f_X10_must_b24 F tokenStart0 error0 errorOffset0 = some (r, o_error0, o_errorOffset0) → Wd g A (w_X10_must g h0 v0_0 v0_1 v0_2 v0_3 v0_5 v0_6 v0_7 v0_10 v0_11 v0_12 v0_13 v0_14 v0_15 v0_16 v0_17 v0_18 v0_19 v0_20 v0_21 v0_22 v0_23 v0_24 v0_25 v0_26 v0_27 v0_28 v0_29 v0_30 v0_31 v0_32 v0_33 v0_34 v0_35 v0_36 v0_37 tokenStart0 error0 errorOffset0) s.heap H locs → lv_has ls 3 [(0, .ref h0)] → W p l e (rml 0 0 0) s m args below meth c H locs 0 0 Q (F0 m 24 ls []) := by
    intro error0 errorOffset0 H locs ls hf w hl
    unfold f_X10_must_b24 at hf
    refine lv_aload_n hx hb dX10_must_24 rfl (lv_at hl 0 rfl) ?_
    refine g_X10_126 C w 0 rfl rfl dX10_must_25 ?_
    refine lv_if_ne (tgt := 35) hx hb dX10_must_28 (by decide) (fun c1 => ?_) (fun c1 => ?_)
    · replace hf := it_f c1 hf
      refine lv_iconst (v := 0) hx hb dX10_must_35 (by decide) ?_
      exact b36 0 error0 errorOffset0 _ _ _ hf w (lv_sub hl [] rfl)
    · replace hf := it_t c1 hf
      refine lv_iconst (v := 1) hx hb dX10_must_31 (by decide) ?_
      refine lv_goto (tgt := 36) hx hb dX10_must_32 (by decide) ?_
      exact b36 1 error0 errorOffset0 _ _ _ hf w (lv_sub hl [] rfl)
  refine lv_aload_n hx hb dX10_must_0 rfl (lv_at hl 0 rfl) ?_
  refine g_X10_126 C w 0 rfl rfl dX10_must_1 ?_
  refine lv_if_ne (tgt := 24) hx hb dX10_must_4 (by decide) (fun c2 => ?_) (fun c2 => ?_)
  · replace hf := it_f c2 hf
    exact b24 error0 errorOffset0 _ _ _ hf w (lv_sub hl [0] rfl)
  · replace hf := it_t c2 hf
    refine lv_iload_n hx hb dX10_must_7 rfl (lv_at hl 1 rfl) ?_
    refine lv_if_ne (tgt := 24) hx hb dX10_must_8 (by decide) (fun c3 => ?_) (fun c3 => ?_)
    · replace hf := it_f c3 hf
      exact b24 error0 errorOffset0 _ _ _ hf w (lv_sub hl [0] rfl)
    · replace hf := it_t c3 hf
      refine lv_aload_n hx hb dX10_must_11 rfl (lv_at hl 0 rfl) ?_
      refine lv_iload_n hx hb dX10_must_12 rfl (lv_at hl 2 rfl) ?_
      refine p_X10_126 C w 0 rfl (Nat.le_of_ble_eq_true rfl) (ws2 := w_X10_must g h0 v0_0 v0_1 v0_2 v0_3 v0_5 v0_6 v0_7 v0_10 v0_11 v0_12 v0_13 v0_14 v0_15 v0_16 v0_17 v0_18 v0_19 v0_20 v0_21 v0_22 v0_23 v0_24 v0_25 v0_26 v0_27 v0_28 v0_29 v0_30 v0_31 v0_32 v0_33 v0_34 v0_35 v0_36 v0_37 tokenStart0 p2 errorOffset0) rfl dX10_must_13 (fun H locs w => ?_)
      refine lv_aload_n hx hb dX10_must_16 rfl (lv_at hl 0 rfl) ?_
      refine lv_aload_n hx hb dX10_must_17 rfl (lv_at hl 0 rfl) ?_
      refine g_X10_101 C w 0 rfl rfl dX10_must_18 ?_
      refine p_X10_129 C w 0 rfl (Nat.le_of_ble_eq_true rfl) (ws2 := w_X10_must g h0 v0_0 v0_1 v0_2 v0_3 v0_5 v0_6 v0_7 v0_10 v0_11 v0_12 v0_13 v0_14 v0_15 v0_16 v0_17 v0_18 v0_19 v0_20 v0_21 v0_22 v0_23 v0_24 v0_25 v0_26 v0_27 v0_28 v0_29 v0_30 v0_31 v0_32 v0_33 v0_34 v0_35 v0_36 v0_37 tokenStart0 p2 tokenStart0) rfl dX10_must_21 (fun H locs w => ?_)
      exact b24 p2 tokenStart0 _ _ _ hf w (lv_sub hl [0] rfl)

theorem dX10_is_0 : decode cX10_is 0 = .ok (.aload_n 0, 1) := by decide +kernel
theorem dX10_is_1 : decode cX10_is 1 = .ok (.getfield 126, 3) := by decide +kernel
theorem dX10_is_4 : decode cX10_is 4 = .ok (.ifCond .ne 27, 3) := by decide +kernel
theorem dX10_is_7 : decode cX10_is 7 = .ok (.aload_n 0, 1) := by decide +kernel
theorem dX10_is_8 : decode cX10_is 8 = .ok (.getfield 108, 3) := by decide +kernel
theorem dX10_is_11 : decode cX10_is 11 = .ok (.iconst 1, 1) := by decide +kernel
theorem dX10_is_12 : decode cX10_is 12 = .ok (.if_icmp .ne 19, 3) := by decide +kernel
theorem dX10_is_15 : decode cX10_is 15 = .ok (.aload_n 0, 1) := by decide +kernel
theorem dX10_is_16 : decode cX10_is 16 = .ok (.getfield 98, 3) := by decide +kernel
theorem dX10_is_19 : decode cX10_is 19 = .ok (.aload_n 0, 1) := by decide +kernel
theorem dX10_is_20 : decode cX10_is 20 = .ok (.getfield 101, 3) := by decide +kernel
theorem dX10_is_23 : decode cX10_is 23 = .ok (.isub, 1) := by decide +kernel
theorem dX10_is_24 : decode cX10_is 24 = .ok (.aload_n 1, 1) := by decide +kernel
theorem dX10_is_25 : decode cX10_is 25 = .ok (.invokevirtual 132, 3) := by decide +kernel
theorem dX10_is_28 : decode cX10_is 28 = .ok (.if_icmp .eq 5, 3) := by decide +kernel
theorem dX10_is_31 : decode cX10_is 31 = .ok (.iconst 0, 1) := by decide +kernel
theorem dX10_is_32 : decode cX10_is 32 = .ok (.ireturn, 1) := by decide +kernel
theorem dX10_is_33 : decode cX10_is 33 = .ok (.iconst 0, 1) := by decide +kernel
theorem dX10_is_34 : decode cX10_is 34 = .ok (.istore_n 2, 1) := by decide +kernel
theorem dX10_is_35 : decode cX10_is 35 = .ok (.iload_n 2, 1) := by decide +kernel
theorem dX10_is_36 : decode cX10_is 36 = .ok (.aload_n 1, 1) := by decide +kernel
theorem dX10_is_37 : decode cX10_is 37 = .ok (.invokevirtual 132, 3) := by decide +kernel
theorem dX10_is_40 : decode cX10_is 40 = .ok (.if_icmp .ge 29, 3) := by decide +kernel
theorem dX10_is_43 : decode cX10_is 43 = .ok (.aload_n 0, 1) := by decide +kernel
theorem dX10_is_44 : decode cX10_is 44 = .ok (.aload_n 0, 1) := by decide +kernel
theorem dX10_is_45 : decode cX10_is 45 = .ok (.getfield 101, 3) := by decide +kernel
theorem dX10_is_48 : decode cX10_is 48 = .ok (.iload_n 2, 1) := by decide +kernel
theorem dX10_is_49 : decode cX10_is 49 = .ok (.iadd, 1) := by decide +kernel
theorem dX10_is_50 : decode cX10_is 50 = .ok (.invokevirtual 104, 3) := by decide +kernel
theorem dX10_is_53 : decode cX10_is 53 = .ok (.aload_n 1, 1) := by decide +kernel
theorem dX10_is_54 : decode cX10_is 54 = .ok (.iload_n 2, 1) := by decide +kernel
theorem dX10_is_55 : decode cX10_is 55 = .ok (.invokevirtual 137, 3) := by decide +kernel
theorem dX10_is_58 : decode cX10_is 58 = .ok (.if_icmp .eq 5, 3) := by decide +kernel
theorem dX10_is_61 : decode cX10_is 61 = .ok (.iconst 0, 1) := by decide +kernel
theorem dX10_is_62 : decode cX10_is 62 = .ok (.ireturn, 1) := by decide +kernel
theorem dX10_is_63 : decode cX10_is 63 = .ok (.iinc 2 1, 3) := by decide +kernel
theorem dX10_is_66 : decode cX10_is 66 = .ok (.goto (-31), 3) := by decide +kernel
theorem dX10_is_69 : decode cX10_is 69 = .ok (.iconst 1, 1) := by decide +kernel
theorem dX10_is_70 : decode cX10_is 70 = .ok (.ireturn, 1) := by decide +kernel
abbrev m_X10_is : MD := (yX10_is, cX10_is, 3, (some .boolean))
theorem g_X10_108 {p : Program} {l : Launch} {e : Env} {R : Room} {s : State} {m : MethodId} {args : Array Value} {below : List Frame} {meth : Method} {c : Code} {H : Heap} {locs : List Loc} {cells slots : Nat} {Q : State → Prop} {d : MD} {g : GT} {A : Nat → Prop} {ws : va_W} {pc : Nat} {ls : Array Slot} {rest : List Value} (C : Cx p s m args meth c RX10 d g A) (w : Wd g A ws s.heap H locs) (q0 : Nat) {a : Nat} {fs : List Value} {v : Value} (he : ws[q0]? = some (a, .inr (10, fs))) (hv : fs[6]? = some v) (hd : decode d.2.1 pc = .ok (.getfield 108, 3)) (kk : W p l e R s m args below meth c H locs cells slots Q (F0 m (pc + 3) ls (v :: rest))) : W p l e R s m args below meth c H locs cells slots Q (F0 m pc ls (.ref a :: rest)) := fg C w inX10s (ref := RX10) rfl 6 (by decide) (ts_t (w := Cond.fieldLink RX10 108 RX10 (TX10 6).2.1 (TX10 6).2.2.1) 1228 (by decide +kernel) (by decide +kernel)) rfl q0 he hv hd kk
theorem q_1381 : Cond.methodLink RX10 132 yJ0_length_8abf5 ∈ TS := ts_t 1381 (by decide +kernel) (by decide +kernel)
theorem k_X10_132 : LkV RX10 132 m_J0_length_8abf5 0 := ⟨q_1381, q_629, q_630, ⟨q_18, q_631, by decide, by decide, by decide +kernel⟩⟩
theorem q_1382 : Cond.methodLink RX10 137 yJ0_charAt_5068e ∈ TS := ts_t 1382 (by decide +kernel) (by decide +kernel)
theorem k_X10_137 : LkV RX10 137 m_J0_charAt_5068e 1 := ⟨q_1382, q_639, q_640, ⟨q_18, q_641, by decide, by decide, by decide +kernel⟩⟩
abbrev w_X10_is (g : GT) (h0 h1 : Nat) (v0_0 v0_2 v0_7 v0_9 v0_10 v0_11 v0_12 v0_13 v0_14 v0_15 v0_16 v0_17 v0_18 v0_19 v0_20 v0_21 v0_22 v0_23 v0_24 v0_25 v0_26 v0_27 v0_28 v0_29 v0_30 v0_31 v0_32 v0_33 v0_34 v0_35 v0_36 v0_37 : Value) (textLength0 tokenStart0 tokenEnd0 token0 error0 : Int32) (buffer1 : Nat → Int32) : va_W := [(h0, .inr (10, [v0_0, .ref h1, v0_2, .int textLength0, .int tokenStart0, .int tokenEnd0, .int token0, v0_7, .int error0, v0_9, v0_10, v0_11, v0_12, v0_13, v0_14, v0_15, v0_16, v0_17, v0_18, v0_19, v0_20, v0_21, v0_22, v0_23, v0_24, v0_25, v0_26, v0_27, v0_28, v0_29, v0_30, v0_31, v0_32, v0_33, v0_34, v0_35, v0_36, v0_37])), (h1, aB g 900 buffer1)]
def f_X10_is_h35 (F j1 : Nat) (textLength0 tokenStart0 tokenEnd0 token0 error0 : Int32) (buffer1 : Nat → Int32) (k35 : (Int32) → Option (Int32)) (x2 : Int32) : Option (Int32) :=
  if (nI (SLEN.getD j1 0)) ≤ x2 then
    gd ((1 : Int32) = 0 ∨ (1 : Int32) = 1) (some 1)
  else
    bd1 (f_X10_byteAt F (tokenStart0 + x2) textLength0 buffer1) fun r2 =>
    rd (sch j1) (SLEN.getD j1 0) x2 fun a4 =>
    if r2 = a4 then
      k35 (x2 + 1)
    else
      gd ((0 : Int32) = 0 ∨ (0 : Int32) = 1) (some 0)
def f_X10_is_L35 (F j1 : Nat) (textLength0 tokenStart0 tokenEnd0 token0 error0 : Int32) (buffer1 : Nat → Int32) (z : Int32) : Option (Int32) := lp (fun k z => f_X10_is_h35 F j1 textLength0 tokenStart0 tokenEnd0 token0 error0 buffer1 k z) F z
def f_X10_is_b31 (F j1 : Nat) (textLength0 tokenStart0 tokenEnd0 token0 error0 : Int32) (buffer1 : Nat → Int32) : Option (Int32) :=
  gd ((0 : Int32) = 0 ∨ (0 : Int32) = 1) (some 0)
def f_X10_is (F j1 : Nat) (textLength0 tokenStart0 tokenEnd0 token0 error0 : Int32) (buffer1 : Nat → Int32) : Option (Int32) :=
  if error0 = 0 then
    if token0 = 1 then
      if (tokenEnd0 - tokenStart0) = (nI (SLEN.getD j1 0)) then
        f_X10_is_L35 F j1 textLength0 tokenStart0 tokenEnd0 token0 error0 buffer1 0
      else
        f_X10_is_b31 F j1 textLength0 tokenStart0 tokenEnd0 token0 error0 buffer1
    else
      f_X10_is_b31 F j1 textLength0 tokenStart0 tokenEnd0 token0 error0 buffer1
  else
    f_X10_is_b31 F j1 textLength0 tokenStart0 tokenEnd0 token0 error0 buffer1
set_option maxHeartbeats 4000000 in
set_option maxRecDepth 100000 in
theorem c_X10_is (l : Launch) (g : GT) (F : Nat) (h0 h1 : Nat) (v0_0 v0_2 v0_7 v0_9 v0_10 v0_11 v0_12 v0_13 v0_14 v0_15 v0_16 v0_17 v0_18 v0_19 v0_20 v0_21 v0_22 v0_23 v0_24 v0_25 v0_26 v0_27 v0_28 v0_29 v0_30 v0_31 v0_32 v0_33 v0_34 v0_35 v0_36 v0_37 : Value) (j1 : Nat) (textLength0 tokenStart0 tokenEnd0 token0 error0 : Int32) (buffer1 : Nat → Int32) (r : Int32) (hj1 : j1 < 7) (sz : Nat) (hf : f_X10_is F j1 textLength0 tokenStart0 tokenEnd0 token0 error0 buffer1 = some r) : CI l m_X10_is (rml 4 0 0) g (w_X10_is g h0 h1 v0_0 v0_2 v0_7 v0_9 v0_10 v0_11 v0_12 v0_13 v0_14 v0_15 v0_16 v0_17 v0_18 v0_19 v0_20 v0_21 v0_22 v0_23 v0_24 v0_25 v0_26 v0_27 v0_28 v0_29 v0_30 v0_31 v0_32 v0_33 v0_34 v0_35 v0_36 v0_37 textLength0 tokenStart0 tokenEnd0 token0 error0 buffer1) (fun _ => w_X10_is g h0 h1 v0_0 v0_2 v0_7 v0_9 v0_10 v0_11 v0_12 v0_13 v0_14 v0_15 v0_16 v0_17 v0_18 v0_19 v0_20 v0_21 v0_22 v0_23 v0_24 v0_25 v0_26 v0_27 v0_28 v0_29 v0_30 v0_31 v0_32 v0_33 v0_34 v0_35 v0_36 v0_37 textLength0 tokenStart0 tokenEnd0 token0 error0 buffer1) sz [.ref h0, .ref (sK g j1)] r := by
  refine en_i (by decide) (Nat.le_of_ble_eq_true rfl) (fun p e s m args below meth c A ls C w hl => ?_)
  have C : Cx p s m args meth c RX10 m_X10_is g A := C
  have hx := C.1
  have hb : c.code = cX10_is := C.2.1
  have hl : lv_has ls 3 [(0, .ref h0), (1, .ref (sK g j1))] := hl
  obtain ⟨Q, hQ⟩ : ∃ Q, Q = QI below args s g A (fun _ => w_X10_is g h0 h1 v0_0 v0_2 v0_7 v0_9 v0_10 v0_11 v0_12 v0_13 v0_14 v0_15 v0_16 v0_17 v0_18 v0_19 v0_20 v0_21 v0_22 v0_23 v0_24 v0_25 v0_26 v0_27 v0_28 v0_29 v0_30 v0_31 v0_32 v0_33 v0_34 v0_35 v0_36 v0_37 textLength0 tokenStart0 tokenEnd0 token0 error0 buffer1) r 0 0 := ⟨_, rfl⟩
  suffices hW : W p l e (rml 4 0 0) s m args below meth c s.heap [] 0 0 Q (F0 m 0 ls []) from (by rw [hQ] at hW; exact hW)
  unfold f_X10_is at hf
  have L35 : ∀ (z : Int32), f_X10_is_L35 F j1 textLength0 tokenStart0 tokenEnd0 token0 error0 buffer1 z = some r → ∀ (H : Heap) (locs : List Loc) (ls : Array Slot), Wd g A (w_X10_is g h0 h1 v0_0 v0_2 v0_7 v0_9 v0_10 v0_11 v0_12 v0_13 v0_14 v0_15 v0_16 v0_17 v0_18 v0_19 v0_20 v0_21 v0_22 v0_23 v0_24 v0_25 v0_26 v0_27 v0_28 v0_29 v0_30 v0_31 v0_32 v0_33 v0_34 v0_35 v0_36 v0_37 textLength0 tokenStart0 tokenEnd0 token0 error0 buffer1) s.heap H locs → lv_has ls 3 [(0, .ref h0), (1, .ref (sK g j1)), (2, .int z)] → W p l e (rml 4 0 0) s m args below meth c H locs 0 0 Q (F0 m 35 ls []) := by
    intro z hf
    refine lp_W (r := r) (fun (z : Int32) => ∀ (H : Heap) (locs : List Loc) (ls : Array Slot), Wd g A (w_X10_is g h0 h1 v0_0 v0_2 v0_7 v0_9 v0_10 v0_11 v0_12 v0_13 v0_14 v0_15 v0_16 v0_17 v0_18 v0_19 v0_20 v0_21 v0_22 v0_23 v0_24 v0_25 v0_26 v0_27 v0_28 v0_29 v0_30 v0_31 v0_32 v0_33 v0_34 v0_35 v0_36 v0_37 textLength0 tokenStart0 tokenEnd0 token0 error0 buffer1) s.heap H locs → lv_has ls 3 [(0, .ref h0), (1, .ref (sK g j1)), (2, .int z)] → W p l e (rml 4 0 0) s m args below meth c H locs 0 0 Q (F0 m 35 ls [])) (fun k35 z ih35 hf => ?_) F z hf
    obtain ⟨x2, rfl⟩ : ∃ y, y = z := ⟨_, rfl⟩
    intro H locs ls w hl
    try dsimp only at hf w hl ⊢
    unfold f_X10_is_h35 at hf
    refine lv_iload_n hx hb dX10_is_35 rfl (lv_at hl 2 rfl) ?_
    refine lv_aload_n hx hb dX10_is_36 rfl (lv_at hl 1 rfl) ?_
    refine ca_iX C w (wn := fun _ => w_X10_is g h0 h1 v0_0 v0_2 v0_7 v0_9 v0_10 v0_11 v0_12 v0_13 v0_14 v0_15 v0_16 v0_17 v0_18 v0_19 v0_20 v0_21 v0_22 v0_23 v0_24 v0_25 v0_26 v0_27 v0_28 v0_29 v0_30 v0_31 v0_32 v0_33 v0_34 v0_35 v0_36 v0_37 textLength0 tokenStart0 tokenEnd0 token0 error0 buffer1) pm_e (c_J0_length_8abf5 l g j1 hj1 _) k_X10_132 (rm_le (by decide) (by decide)) (vk_recv C.2.2.2.2.2.2.2.1.2.2.2.2.1 hj1 w.2.2) rfl hl.1 rfl (Nat.le_of_ble_eq_true rfl) dX10_is_37 ⟨Nat.le_of_ble_eq_true rfl, Nat.le_of_ble_eq_true rfl⟩ (cells2 := 0) (slots2 := 0) ⟨rfl, rfl⟩ (fun _ H locs w => ?_)
    refine lv_icmp_ge (tgt := 69) hx hb dX10_is_40 (by decide) (fun c1 => ?_) (fun c1 => ?_)
    · replace hf := it_t c1 hf
      refine lv_iconst (v := 1) hx hb dX10_is_69 (by decide) ?_
      obtain ⟨h01, hf⟩ := gd_some hf
      obtain e1 := tp1 hf
      rw [hQ]
      exact rt_z C w rfl h01 (fun _ => 0) rfl e1 dX10_is_70
    · replace hf := it_f c1 hf
      refine lv_aload_n hx hb dX10_is_43 rfl (lv_at hl 0 rfl) ?_
      refine lv_aload_n hx hb dX10_is_44 rfl (lv_at hl 0 rfl) ?_
      refine g_X10_101 C w 0 rfl rfl dX10_is_45 ?_
      refine lv_iload_n hx hb dX10_is_48 rfl (lv_at hl 2 rfl) ?_
      refine lv_iadd hx hb dX10_is_49 ?_
      obtain ⟨r2, hc3, hf⟩ := bd1_some hf
      refine ca_iV C w (wn := fun _ => w_X10_is g h0 h1 v0_0 v0_2 v0_7 v0_9 v0_10 v0_11 v0_12 v0_13 v0_14 v0_15 v0_16 v0_17 v0_18 v0_19 v0_20 v0_21 v0_22 v0_23 v0_24 v0_25 v0_26 v0_27 v0_28 v0_29 v0_30 v0_31 v0_32 v0_33 v0_34 v0_35 v0_36 v0_37 textLength0 tokenStart0 tokenEnd0 token0 error0 buffer1) (pm_k [true, true] rfl rfl (fun _ => Nat.le_of_ble_eq_true rfl) (fun _ => rfl)) (c_X10_byteAt l g F h0 h1 v0_0 v0_2 (.int tokenStart0) (.int tokenEnd0) (.int token0) v0_7 (.int error0) v0_9 v0_10 v0_11 v0_12 v0_13 v0_14 v0_15 v0_16 v0_17 v0_18 v0_19 v0_20 v0_21 v0_22 v0_23 v0_24 v0_25 v0_26 v0_27 v0_28 v0_29 v0_30 v0_31 v0_32 v0_33 v0_34 v0_35 v0_36 v0_37 (tokenStart0 + x2) textLength0 buffer1 r2 _ hc3) k_X10_104 (rm_le (by decide) (by decide)) 0 10 rfl rfl rfl rfl hl.1 rfl (Nat.le_of_ble_eq_true rfl) dX10_is_50 ⟨Nat.le_of_ble_eq_true rfl, Nat.le_of_ble_eq_true rfl⟩ (cells2 := 0) (slots2 := 0) ⟨rfl, rfl⟩ (fun _ H locs w => ?_)
      refine lv_aload_n hx hb dX10_is_53 rfl (lv_at hl 1 rfl) ?_
      refine lv_iload_n hx hb dX10_is_54 rfl (lv_at hl 2 rfl) ?_
      obtain ⟨a4, hia4, haa4, hf⟩ := rd_some hf
      refine ca_iX C w (wn := fun _ => w_X10_is g h0 h1 v0_0 v0_2 v0_7 v0_9 v0_10 v0_11 v0_12 v0_13 v0_14 v0_15 v0_16 v0_17 v0_18 v0_19 v0_20 v0_21 v0_22 v0_23 v0_24 v0_25 v0_26 v0_27 v0_28 v0_29 v0_30 v0_31 v0_32 v0_33 v0_34 v0_35 v0_36 v0_37 textLength0 tokenStart0 tokenEnd0 token0 error0 buffer1) pm_e (c_J0_charAt_5068e l g j1 hj1 x2 hia4 _) k_X10_137 (rm_le (by decide) (by decide)) (vk_recv C.2.2.2.2.2.2.2.1.2.2.2.2.1 hj1 w.2.2) rfl hl.1 rfl (Nat.le_of_ble_eq_true rfl) dX10_is_55 ⟨Nat.le_of_ble_eq_true rfl, Nat.le_of_ble_eq_true rfl⟩ (cells2 := 0) (slots2 := 0) ⟨rfl, rfl⟩ (fun _ H locs w => ?_)
      rw [← haa4]
      refine lv_icmp_eq (tgt := 63) hx hb dX10_is_58 (by decide) (fun c5 => ?_) (fun c5 => ?_)
      · replace hf := it_t c5 hf
        refine lv_iinc (v := x2 + 1) (lv' := [(2, .int (x2 + 1)), (0, .ref h0), (1, .ref (sK g j1))]) hx hb dX10_is_63 hl (k := 2) rfl rfl (by decide) rfl (fun ls hl => ?_)
        refine lv_goto (tgt := 35) hx hb dX10_is_66 (by decide) ?_
        exact ih35 (x2 + 1) hf _ _ _ w (lv_sub hl [1, 2, 0] rfl)
      · replace hf := it_f c5 hf
        refine lv_iconst (v := 0) hx hb dX10_is_61 (by decide) ?_
        obtain ⟨h01, hf⟩ := gd_some hf
        obtain e1 := tp1 hf
        rw [hQ]
        exact rt_z C w rfl h01 (fun _ => 0) rfl e1 dX10_is_62
  have b31 : ∀ (H : Heap) (locs : List Loc) (ls : Array Slot), f_X10_is_b31 F j1 textLength0 tokenStart0 tokenEnd0 token0 error0 buffer1 = some r → Wd g A (w_X10_is g h0 h1 v0_0 v0_2 v0_7 v0_9 v0_10 v0_11 v0_12 v0_13 v0_14 v0_15 v0_16 v0_17 v0_18 v0_19 v0_20 v0_21 v0_22 v0_23 v0_24 v0_25 v0_26 v0_27 v0_28 v0_29 v0_30 v0_31 v0_32 v0_33 v0_34 v0_35 v0_36 v0_37 textLength0 tokenStart0 tokenEnd0 token0 error0 buffer1) s.heap H locs → lv_has ls 3 [] → W p l e (rml 4 0 0) s m args below meth c H locs 0 0 Q (F0 m 31 ls []) := by
    intro  H locs ls hf w hl
    unfold f_X10_is_b31 at hf
    refine lv_iconst (v := 0) hx hb dX10_is_31 (by decide) ?_
    obtain ⟨h01, hf⟩ := gd_some hf
    obtain e1 := tp1 hf
    rw [hQ]
    exact rt_z C w rfl h01 (fun _ => 0) rfl e1 dX10_is_32
  refine lv_aload_n hx hb dX10_is_0 rfl (lv_at hl 0 rfl) ?_
  refine g_X10_126 C w 0 rfl rfl dX10_is_1 ?_
  refine lv_if_ne (tgt := 31) hx hb dX10_is_4 (by decide) (fun c6 => ?_) (fun c6 => ?_)
  · replace hf := it_f c6 hf
    exact b31  _ _ _ hf w (lv_sub hl [] rfl)
  · replace hf := it_t c6 hf
    refine lv_aload_n hx hb dX10_is_7 rfl (lv_at hl 0 rfl) ?_
    refine g_X10_108 C w 0 rfl rfl dX10_is_8 ?_
    refine lv_iconst (v := 1) hx hb dX10_is_11 (by decide) ?_
    refine lv_icmp_ne (tgt := 31) hx hb dX10_is_12 (by decide) (fun c7 => ?_) (fun c7 => ?_)
    · replace hf := it_f c7 hf
      exact b31  _ _ _ hf w (lv_sub hl [] rfl)
    · replace hf := it_t c7 hf
      refine lv_aload_n hx hb dX10_is_15 rfl (lv_at hl 0 rfl) ?_
      refine g_X10_98 C w 0 rfl rfl dX10_is_16 ?_
      refine lv_aload_n hx hb dX10_is_19 rfl (lv_at hl 0 rfl) ?_
      refine g_X10_101 C w 0 rfl rfl dX10_is_20 ?_
      refine lv_isub hx hb dX10_is_23 ?_
      refine lv_aload_n hx hb dX10_is_24 rfl (lv_at hl 1 rfl) ?_
      refine ca_iX C w (wn := fun _ => w_X10_is g h0 h1 v0_0 v0_2 v0_7 v0_9 v0_10 v0_11 v0_12 v0_13 v0_14 v0_15 v0_16 v0_17 v0_18 v0_19 v0_20 v0_21 v0_22 v0_23 v0_24 v0_25 v0_26 v0_27 v0_28 v0_29 v0_30 v0_31 v0_32 v0_33 v0_34 v0_35 v0_36 v0_37 textLength0 tokenStart0 tokenEnd0 token0 error0 buffer1) pm_e (c_J0_length_8abf5 l g j1 hj1 _) k_X10_132 (rm_le (by decide) (by decide)) (vk_recv C.2.2.2.2.2.2.2.1.2.2.2.2.1 hj1 w.2.2) rfl hl.1 rfl (Nat.le_of_ble_eq_true rfl) dX10_is_25 ⟨Nat.le_of_ble_eq_true rfl, Nat.le_of_ble_eq_true rfl⟩ (cells2 := 0) (slots2 := 0) ⟨rfl, rfl⟩ (fun _ H locs w => ?_)
      refine lv_icmp_eq (tgt := 33) hx hb dX10_is_28 (by decide) (fun c8 => ?_) (fun c8 => ?_)
      · replace hf := it_t c8 hf
        refine lv_iconst (v := 0) hx hb dX10_is_33 (by decide) ?_
        refine lv_istore_n (lv' := [(2, .int 0), (0, .ref h0), (1, .ref (sK g j1))]) hx hb dX10_is_34 rfl hl (by decide) rfl (fun ls hl => ?_)
        exact L35 0 hf _ _ _ w (lv_sub hl [1, 2, 0] rfl)
      · replace hf := it_f c8 hf
        exact b31  _ _ _ hf w (lv_sub hl [] rfl)

theorem dX10_number_0 : decode cX10_number 0 = .ok (.aload_n 0, 1) := by decide +kernel
theorem dX10_number_1 : decode cX10_number 1 = .ok (.aload_n 0, 1) := by decide +kernel
theorem dX10_number_2 : decode cX10_number 2 = .ok (.getfield 108, 3) := by decide +kernel
theorem dX10_number_5 : decode cX10_number 5 = .ok (.iconst 2, 1) := by decide +kernel
theorem dX10_number_6 : decode cX10_number 6 = .ok (.if_icmp .ne 7, 3) := by decide +kernel
theorem dX10_number_9 : decode cX10_number 9 = .ok (.iconst 1, 1) := by decide +kernel
theorem dX10_number_10 : decode cX10_number 10 = .ok (.goto 4, 3) := by decide +kernel
theorem dX10_number_13 : decode cX10_number 13 = .ok (.iconst 0, 1) := by decide +kernel
theorem dX10_number_14 : decode cX10_number 14 = .ok (.iconst 1, 1) := by decide +kernel
theorem dX10_number_15 : decode cX10_number 15 = .ok (.invokevirtual 141, 3) := by decide +kernel
theorem dX10_number_18 : decode cX10_number 18 = .ok (.ifCond .eq 23, 3) := by decide +kernel
theorem dX10_number_21 : decode cX10_number 21 = .ok (.aload_n 0, 1) := by decide +kernel
theorem dX10_number_22 : decode cX10_number 22 = .ok (.aload_n 0, 1) := by decide +kernel
theorem dX10_number_23 : decode cX10_number 23 = .ok (.getfield 123, 3) := by decide +kernel
theorem dX10_number_26 : decode cX10_number 26 = .ok (.i2l, 1) := by decide +kernel
theorem dX10_number_27 : decode cX10_number 27 = .ok (.iload_n 1, 1) := by decide +kernel
theorem dX10_number_28 : decode cX10_number 28 = .ok (.i2l, 1) := by decide +kernel
theorem dX10_number_29 : decode cX10_number 29 = .ok (.iload_n 2, 1) := by decide +kernel
theorem dX10_number_30 : decode cX10_number 30 = .ok (.i2l, 1) := by decide +kernel
theorem dX10_number_31 : decode cX10_number 31 = .ok (.invokestatic 115, 3) := by decide +kernel
theorem dX10_number_34 : decode cX10_number 34 = .ok (.iconst 2, 1) := by decide +kernel
theorem dX10_number_35 : decode cX10_number 35 = .ok (.invokevirtual 141, 3) := by decide +kernel
theorem dX10_number_38 : decode cX10_number 38 = .ok (.ifCond .ne 5, 3) := by decide +kernel
theorem dX10_number_41 : decode cX10_number 41 = .ok (.iconst 0, 1) := by decide +kernel
theorem dX10_number_42 : decode cX10_number 42 = .ok (.ireturn, 1) := by decide +kernel
theorem dX10_number_43 : decode cX10_number 43 = .ok (.aload_n 0, 1) := by decide +kernel
theorem dX10_number_44 : decode cX10_number 44 = .ok (.getfield 123, 3) := by decide +kernel
theorem dX10_number_47 : decode cX10_number 47 = .ok (.istore_n 3, 1) := by decide +kernel
theorem dX10_number_48 : decode cX10_number 48 = .ok (.aload_n 0, 1) := by decide +kernel
theorem dX10_number_49 : decode cX10_number 49 = .ok (.invokevirtual 145, 3) := by decide +kernel
theorem dX10_number_52 : decode cX10_number 52 = .ok (.iload_n 3, 1) := by decide +kernel
theorem dX10_number_53 : decode cX10_number 53 = .ok (.ireturn, 1) := by decide +kernel
abbrev m_X10_number : MD := (yX10_number, cX10_number, 4, (some .int))
theorem q_1386 : Cond.code yX10_must cX10_must 3 (some .boolean) ∈ TS := ts_t 1386 (by decide +kernel) (by decide +kernel)
theorem q_1383 : Cond.methodLink RX10 141 yX10_must ∈ TS := ts_t 1383 (by decide +kernel) (by decide +kernel)
theorem q_1385 : Cond.instanceMethod yX10_must ∈ TS := ts_t 1385 (by decide +kernel) (by decide +kernel)
theorem qs_89 : Cond.selects yX10_must.cls yX10_must yX10_must ∈ TS := ts_s 89 (by decide +kernel) (by decide +kernel)
theorem k_X10_141 : LkV RX10 141 m_X10_must 2 := ⟨q_1383, q_1385, qs_89, ⟨q_11, q_1386, by decide, by decide, by decide +kernel⟩⟩
theorem q_1367 : Cond.code yX10_nextToken cX10_nextToken 2 none ∈ TS := ts_t 1367 (by decide +kernel) (by decide +kernel)
theorem q_1364 : Cond.methodLink RX10 145 yX10_nextToken ∈ TS := ts_t 1364 (by decide +kernel) (by decide +kernel)
theorem q_1366 : Cond.instanceMethod yX10_nextToken ∈ TS := ts_t 1366 (by decide +kernel) (by decide +kernel)
theorem qs_86 : Cond.selects yX10_nextToken.cls yX10_nextToken yX10_nextToken ∈ TS := ts_s 86 (by decide +kernel) (by decide +kernel)
theorem k_X10_145 : LkV RX10 145 m_X10_nextToken 0 := ⟨q_1364, q_1366, qs_86, ⟨q_11, q_1367, by decide, by decide, by decide +kernel⟩⟩
abbrev w_X10_number (g : GT) (h0 h1 : Nat) (v0_0 v0_2 v0_10 v0_11 v0_12 v0_13 v0_14 v0_15 v0_16 v0_17 v0_18 v0_19 v0_20 v0_21 v0_22 v0_23 v0_24 v0_25 v0_26 v0_27 v0_28 v0_29 v0_30 v0_31 v0_32 v0_33 v0_34 v0_35 v0_36 v0_37 : Value) (textLength0 tokenStart0 tokenEnd0 token0 value0 error0 errorOffset0 : Int32) (buffer1 : Nat → Int32) : va_W := [(h0, .inr (10, [v0_0, .ref h1, v0_2, .int textLength0, .int tokenStart0, .int tokenEnd0, .int token0, .int value0, .int error0, .int errorOffset0, v0_10, v0_11, v0_12, v0_13, v0_14, v0_15, v0_16, v0_17, v0_18, v0_19, v0_20, v0_21, v0_22, v0_23, v0_24, v0_25, v0_26, v0_27, v0_28, v0_29, v0_30, v0_31, v0_32, v0_33, v0_34, v0_35, v0_36, v0_37])), (h1, aB g 900 buffer1)]
def f_X10_number_b41 (F : Nat) (textLength0 : Int32) (buffer1 : Nat → Int32) (tokenStart0 tokenEnd0 token0 value0 error0 errorOffset0 : Int32) : Option (Int32 × Int32 × Int32 × Int32 × Int32 × Int32 × Int32) :=
  some (0, tokenStart0, tokenEnd0, token0, value0, error0, errorOffset0)
def f_X10_number_b14 (F : Nat) (textLength0 : Int32) (buffer1 : Nat → Int32) (x1 x2 s0 tokenStart0 tokenEnd0 token0 value0 error0 errorOffset0 : Int32) : Option (Int32 × Int32 × Int32 × Int32 × Int32 × Int32 × Int32) :=
  bd3 (f_X10_must F s0 1 tokenStart0 error0 errorOffset0) fun r1 o2 o3 =>
  if r1 = 0 then
    f_X10_number_b41 F textLength0 buffer1 tokenStart0 tokenEnd0 token0 value0 o2 o3
  else
    bd1 (f_X10_within F value0.toInt64 x1.toInt64 x2.toInt64) fun r6 =>
    bd3 (f_X10_must F r6 2 tokenStart0 o2 o3) fun r8 o9 o10 =>
    if r8 = 0 then
      f_X10_number_b41 F textLength0 buffer1 tokenStart0 tokenEnd0 token0 value0 o9 o10
    else
      bd4 (f_X10_nextToken F textLength0 tokenStart0 tokenEnd0 token0 value0 buffer1) fun o13 o14 o15 o16 =>
      some (value0, o13, o14, o15, o16, o9, o10)
def f_X10_number (F : Nat) (p1 p2 textLength0 tokenStart0 tokenEnd0 token0 value0 error0 errorOffset0 : Int32) (buffer1 : Nat → Int32) : Option (Int32 × Int32 × Int32 × Int32 × Int32 × Int32 × Int32) :=
  if token0 = 2 then
    f_X10_number_b14 F textLength0 buffer1 p1 p2 1 tokenStart0 tokenEnd0 token0 value0 error0 errorOffset0
  else
    f_X10_number_b14 F textLength0 buffer1 p1 p2 0 tokenStart0 tokenEnd0 token0 value0 error0 errorOffset0
set_option maxHeartbeats 4000000 in
set_option maxRecDepth 100000 in
theorem c_X10_number (l : Launch) (g : GT) (F : Nat) (h0 h1 : Nat) (v0_0 v0_2 v0_10 v0_11 v0_12 v0_13 v0_14 v0_15 v0_16 v0_17 v0_18 v0_19 v0_20 v0_21 v0_22 v0_23 v0_24 v0_25 v0_26 v0_27 v0_28 v0_29 v0_30 v0_31 v0_32 v0_33 v0_34 v0_35 v0_36 v0_37 : Value) (p1 p2 textLength0 tokenStart0 tokenEnd0 token0 value0 error0 errorOffset0 : Int32) (buffer1 : Nat → Int32) (r o_tokenStart0 o_tokenEnd0 o_token0 o_value0 o_error0 o_errorOffset0 : Int32) (sz : Nat) (hf : f_X10_number F p1 p2 textLength0 tokenStart0 tokenEnd0 token0 value0 error0 errorOffset0 buffer1 = some (r, o_tokenStart0, o_tokenEnd0, o_token0, o_value0, o_error0, o_errorOffset0)) : CI l m_X10_number (rml 2 0 0) g (w_X10_number g h0 h1 v0_0 v0_2 v0_10 v0_11 v0_12 v0_13 v0_14 v0_15 v0_16 v0_17 v0_18 v0_19 v0_20 v0_21 v0_22 v0_23 v0_24 v0_25 v0_26 v0_27 v0_28 v0_29 v0_30 v0_31 v0_32 v0_33 v0_34 v0_35 v0_36 v0_37 textLength0 tokenStart0 tokenEnd0 token0 value0 error0 errorOffset0 buffer1) (fun _ => w_X10_number g h0 h1 v0_0 v0_2 v0_10 v0_11 v0_12 v0_13 v0_14 v0_15 v0_16 v0_17 v0_18 v0_19 v0_20 v0_21 v0_22 v0_23 v0_24 v0_25 v0_26 v0_27 v0_28 v0_29 v0_30 v0_31 v0_32 v0_33 v0_34 v0_35 v0_36 v0_37 textLength0 o_tokenStart0 o_tokenEnd0 o_token0 o_value0 o_error0 o_errorOffset0 buffer1) sz [.ref h0, .int p1, .int p2] r := by
  refine en_i (by decide) (Nat.le_of_ble_eq_true rfl) (fun p e s m args below meth c A ls C w hl => ?_)
  have C : Cx p s m args meth c RX10 m_X10_number g A := C
  have hx := C.1
  have hb : c.code = cX10_number := C.2.1
  have hl : lv_has ls 4 [(0, .ref h0), (1, .int p1), (2, .int p2)] := hl
  obtain ⟨Q, hQ⟩ : ∃ Q, Q = QI below args s g A (fun _ => w_X10_number g h0 h1 v0_0 v0_2 v0_10 v0_11 v0_12 v0_13 v0_14 v0_15 v0_16 v0_17 v0_18 v0_19 v0_20 v0_21 v0_22 v0_23 v0_24 v0_25 v0_26 v0_27 v0_28 v0_29 v0_30 v0_31 v0_32 v0_33 v0_34 v0_35 v0_36 v0_37 textLength0 o_tokenStart0 o_tokenEnd0 o_token0 o_value0 o_error0 o_errorOffset0 buffer1) r 0 0 := ⟨_, rfl⟩
  suffices hW : W p l e (rml 2 0 0) s m args below meth c s.heap [] 0 0 Q (F0 m 0 ls []) from (by rw [hQ] at hW; exact hW)
  unfold f_X10_number at hf
  have b41 : ∀ (tokenStart0 tokenEnd0 token0 value0 error0 errorOffset0 : Int32) (H : Heap) (locs : List Loc) (ls : Array Slot), f_X10_number_b41 F textLength0 buffer1 tokenStart0 tokenEnd0 token0 value0 error0 errorOffset0 = some (r, o_tokenStart0, o_tokenEnd0, o_token0, o_value0, o_error0, o_errorOffset0) → Wd g A (w_X10_number g h0 h1 v0_0 v0_2 v0_10 v0_11 v0_12 v0_13 v0_14 v0_15 v0_16 v0_17 v0_18 v0_19 v0_20 v0_21 v0_22 v0_23 v0_24 v0_25 v0_26 v0_27 v0_28 v0_29 v0_30 v0_31 v0_32 v0_33 v0_34 v0_35 v0_36 v0_37 textLength0 tokenStart0 tokenEnd0 token0 value0 error0 errorOffset0 buffer1) s.heap H locs → lv_has ls 4 [] → W p l e (rml 2 0 0) s m args below meth c H locs 0 0 Q (F0 m 41 ls []) := by
    intro tokenStart0 tokenEnd0 token0 value0 error0 errorOffset0 H locs ls hf w hl
    unfold f_X10_number_b41 at hf
    refine lv_iconst (v := 0) hx hb dX10_number_41 (by decide) ?_
    obtain ⟨e1, e2, e3, e4, e5, e6, e7⟩ := tp7 hf
    rw [hQ]
    exact rt_i C w rfl (fun _ => 0) (by rw [← e2, ← e3, ← e4, ← e5, ← e6, ← e7]) e1 dX10_number_42
  have b14 : ∀ (x1 x2 s0 tokenStart0 tokenEnd0 token0 value0 error0 errorOffset0 : Int32) (H : Heap) (locs : List Loc) (ls : Array Slot), f_X10_number_b14 F textLength0 buffer1 x1 x2 s0 tokenStart0 tokenEnd0 token0 value0 error0 errorOffset0 = some (r, o_tokenStart0, o_tokenEnd0, o_token0, o_value0, o_error0, o_errorOffset0) → Wd g A (w_X10_number g h0 h1 v0_0 v0_2 v0_10 v0_11 v0_12 v0_13 v0_14 v0_15 v0_16 v0_17 v0_18 v0_19 v0_20 v0_21 v0_22 v0_23 v0_24 v0_25 v0_26 v0_27 v0_28 v0_29 v0_30 v0_31 v0_32 v0_33 v0_34 v0_35 v0_36 v0_37 textLength0 tokenStart0 tokenEnd0 token0 value0 error0 errorOffset0 buffer1) s.heap H locs → lv_has ls 4 [(0, .ref h0), (1, .int x1), (2, .int x2)] → W p l e (rml 2 0 0) s m args below meth c H locs 0 0 Q (F0 m 14 ls [.int s0, .ref h0]) := by
    intro x1 x2 s0 tokenStart0 tokenEnd0 token0 value0 error0 errorOffset0 H locs ls hf w hl
    unfold f_X10_number_b14 at hf
    refine lv_iconst (v := 1) hx hb dX10_number_14 (by decide) ?_
    obtain ⟨r1, o2, o3, hc4, hf⟩ := bd3_some hf
    refine ca_iV C w (wn := fun _ => w_X10_number g h0 h1 v0_0 v0_2 v0_10 v0_11 v0_12 v0_13 v0_14 v0_15 v0_16 v0_17 v0_18 v0_19 v0_20 v0_21 v0_22 v0_23 v0_24 v0_25 v0_26 v0_27 v0_28 v0_29 v0_30 v0_31 v0_32 v0_33 v0_34 v0_35 v0_36 v0_37 textLength0 tokenStart0 tokenEnd0 token0 value0 o2 o3 buffer1) (pm_k [true, false] rfl rfl (fun _ => Nat.le_of_ble_eq_true rfl) (fun _ => rfl)) (c_X10_must l g F h0 v0_0 (.ref h1) v0_2 (.int textLength0) (.int tokenEnd0) (.int token0) (.int value0) v0_10 v0_11 v0_12 v0_13 v0_14 v0_15 v0_16 v0_17 v0_18 v0_19 v0_20 v0_21 v0_22 v0_23 v0_24 v0_25 v0_26 v0_27 v0_28 v0_29 v0_30 v0_31 v0_32 v0_33 v0_34 v0_35 v0_36 v0_37 s0 1 tokenStart0 error0 errorOffset0 r1 o2 o3 _ hc4) k_X10_141 (rm_le (by decide) (by decide)) 0 10 rfl rfl rfl rfl hl.1 rfl (Nat.le_of_ble_eq_true rfl) dX10_number_15 ⟨Nat.le_of_ble_eq_true rfl, Nat.le_of_ble_eq_true rfl⟩ (cells2 := 0) (slots2 := 0) ⟨rfl, rfl⟩ (fun _ H locs w => ?_)
    refine lv_if_eq (tgt := 41) hx hb dX10_number_18 (by decide) (fun c5 => ?_) (fun c5 => ?_)
    · replace hf := it_t c5 hf
      exact b41 tokenStart0 tokenEnd0 token0 value0 o2 o3 _ _ _ hf w (lv_sub hl [] rfl)
    · replace hf := it_f c5 hf
      refine lv_aload_n hx hb dX10_number_21 rfl (lv_at hl 0 rfl) ?_
      refine lv_aload_n hx hb dX10_number_22 rfl (lv_at hl 0 rfl) ?_
      refine g_X10_123 C w 0 rfl rfl dX10_number_23 ?_
      refine lv_i2l (v := value0.toInt64) hx hb dX10_number_26 rfl ?_
      refine lv_iload_n hx hb dX10_number_27 rfl (lv_at hl 1 rfl) ?_
      refine lv_i2l (v := x1.toInt64) hx hb dX10_number_28 rfl ?_
      refine lv_iload_n hx hb dX10_number_29 rfl (lv_at hl 2 rfl) ?_
      refine lv_i2l (v := x2.toInt64) hx hb dX10_number_30 rfl ?_
      obtain ⟨r6, hc7, hf⟩ := bd1_some hf
      refine ca_iS C w (wn := fun _ => w_X10_number g h0 h1 v0_0 v0_2 v0_10 v0_11 v0_12 v0_13 v0_14 v0_15 v0_16 v0_17 v0_18 v0_19 v0_20 v0_21 v0_22 v0_23 v0_24 v0_25 v0_26 v0_27 v0_28 v0_29 v0_30 v0_31 v0_32 v0_33 v0_34 v0_35 v0_36 v0_37 textLength0 tokenStart0 tokenEnd0 token0 value0 o2 o3 buffer1) (pm_k [false, false] rfl rfl (fun _ => Nat.le_of_ble_eq_true rfl) (fun _ => rfl)) (c_X10_within l g F value0.toInt64 x1.toInt64 x2.toInt64 r6 _ hc7) k_X10_115 (rm_le (by decide) (by decide)) rfl hl.1 rfl (Nat.le_of_ble_eq_true rfl) dX10_number_31 ⟨Nat.le_of_ble_eq_true rfl, Nat.le_of_ble_eq_true rfl⟩ (cells2 := 0) (slots2 := 0) ⟨rfl, rfl⟩ (fun _ H locs w => ?_)
      refine lv_iconst (v := 2) hx hb dX10_number_34 (by decide) ?_
      obtain ⟨r8, o9, o10, hc11, hf⟩ := bd3_some hf
      refine ca_iV C w (wn := fun _ => w_X10_number g h0 h1 v0_0 v0_2 v0_10 v0_11 v0_12 v0_13 v0_14 v0_15 v0_16 v0_17 v0_18 v0_19 v0_20 v0_21 v0_22 v0_23 v0_24 v0_25 v0_26 v0_27 v0_28 v0_29 v0_30 v0_31 v0_32 v0_33 v0_34 v0_35 v0_36 v0_37 textLength0 tokenStart0 tokenEnd0 token0 value0 o9 o10 buffer1) (pm_k [true, false] rfl rfl (fun _ => Nat.le_of_ble_eq_true rfl) (fun _ => rfl)) (c_X10_must l g F h0 v0_0 (.ref h1) v0_2 (.int textLength0) (.int tokenEnd0) (.int token0) (.int value0) v0_10 v0_11 v0_12 v0_13 v0_14 v0_15 v0_16 v0_17 v0_18 v0_19 v0_20 v0_21 v0_22 v0_23 v0_24 v0_25 v0_26 v0_27 v0_28 v0_29 v0_30 v0_31 v0_32 v0_33 v0_34 v0_35 v0_36 v0_37 r6 2 tokenStart0 o2 o3 r8 o9 o10 _ hc11) k_X10_141 (rm_le (by decide) (by decide)) 0 10 rfl rfl rfl rfl hl.1 rfl (Nat.le_of_ble_eq_true rfl) dX10_number_35 ⟨Nat.le_of_ble_eq_true rfl, Nat.le_of_ble_eq_true rfl⟩ (cells2 := 0) (slots2 := 0) ⟨rfl, rfl⟩ (fun _ H locs w => ?_)
      refine lv_if_ne (tgt := 43) hx hb dX10_number_38 (by decide) (fun c12 => ?_) (fun c12 => ?_)
      · replace hf := it_f c12 hf
        refine lv_aload_n hx hb dX10_number_43 rfl (lv_at hl 0 rfl) ?_
        refine g_X10_123 C w 0 rfl rfl dX10_number_44 ?_
        refine lv_istore_n (lv' := [(3, .int value0), (0, .ref h0), (1, .int x1), (2, .int x2)]) hx hb dX10_number_47 rfl hl (by decide) rfl (fun ls hl => ?_)
        refine lv_aload_n hx hb dX10_number_48 rfl (lv_at hl 1 rfl) ?_
        obtain ⟨o13, o14, o15, o16, hc17, hf⟩ := bd4_some hf
        refine ca_vV C w (wn := fun _ => w_X10_number g h0 h1 v0_0 v0_2 v0_10 v0_11 v0_12 v0_13 v0_14 v0_15 v0_16 v0_17 v0_18 v0_19 v0_20 v0_21 v0_22 v0_23 v0_24 v0_25 v0_26 v0_27 v0_28 v0_29 v0_30 v0_31 v0_32 v0_33 v0_34 v0_35 v0_36 v0_37 textLength0 o13 o14 o15 o16 o9 o10 buffer1) (pm_k [true, true] rfl rfl (fun _ => Nat.le_of_ble_eq_true rfl) (fun _ => rfl)) (c_X10_nextToken l g F h0 h1 v0_0 v0_2 (.int o9) (.int o10) v0_10 v0_11 v0_12 v0_13 v0_14 v0_15 v0_16 v0_17 v0_18 v0_19 v0_20 v0_21 v0_22 v0_23 v0_24 v0_25 v0_26 v0_27 v0_28 v0_29 v0_30 v0_31 v0_32 v0_33 v0_34 v0_35 v0_36 v0_37 textLength0 tokenStart0 tokenEnd0 token0 value0 buffer1 o13 o14 o15 o16 _ hc17) k_X10_145 (rm_le (by decide) (by decide)) 0 10 rfl rfl rfl rfl hl.1 rfl (Nat.le_of_ble_eq_true rfl) dX10_number_49 ⟨Nat.le_of_ble_eq_true rfl, Nat.le_of_ble_eq_true rfl⟩ (cells2 := 0) (slots2 := 0) ⟨rfl, rfl⟩ (fun _ H locs w => ?_)
        refine lv_iload_n hx hb dX10_number_52 rfl (lv_at hl 0 rfl) ?_
        obtain ⟨e1, e2, e3, e4, e5, e6, e7⟩ := tp7 hf
        rw [hQ]
        exact rt_i C w rfl (fun _ => 0) (by rw [← e2, ← e3, ← e4, ← e5, ← e6, ← e7]) e1 dX10_number_53
      · replace hf := it_t c12 hf
        exact b41 tokenStart0 tokenEnd0 token0 value0 o9 o10 _ _ _ hf w (lv_sub hl [] rfl)
  refine lv_aload_n hx hb dX10_number_0 rfl (lv_at hl 0 rfl) ?_
  refine lv_aload_n hx hb dX10_number_1 rfl (lv_at hl 0 rfl) ?_
  refine g_X10_108 C w 0 rfl rfl dX10_number_2 ?_
  refine lv_iconst (v := 2) hx hb dX10_number_5 (by decide) ?_
  refine lv_icmp_ne (tgt := 13) hx hb dX10_number_6 (by decide) (fun c18 => ?_) (fun c18 => ?_)
  · replace hf := it_f c18 hf
    refine lv_iconst (v := 0) hx hb dX10_number_13 (by decide) ?_
    exact b14 p1 p2 0 tokenStart0 tokenEnd0 token0 value0 error0 errorOffset0 _ _ _ hf w (lv_sub hl [0, 1, 2] rfl)
  · replace hf := it_t c18 hf
    refine lv_iconst (v := 1) hx hb dX10_number_9 (by decide) ?_
    refine lv_goto (tgt := 14) hx hb dX10_number_10 (by decide) ?_
    exact b14 p1 p2 1 tokenStart0 tokenEnd0 token0 value0 error0 errorOffset0 _ _ _ hf w (lv_sub hl [0, 1, 2] rfl)

theorem dX10_isLinked_0 : decode cX10_isLinked 0 = .ok (.iconst 0, 1) := by decide +kernel
theorem dX10_isLinked_1 : decode cX10_isLinked 1 = .ok (.istore_n 3, 1) := by decide +kernel
theorem dX10_isLinked_2 : decode cX10_isLinked 2 = .ok (.iload_n 3, 1) := by decide +kernel
theorem dX10_isLinked_3 : decode cX10_isLinked 3 = .ok (.aload_n 0, 1) := by decide +kernel
theorem dX10_isLinked_4 : decode cX10_isLinked 4 = .ok (.getfield 17, 3) := by decide +kernel
theorem dX10_isLinked_7 : decode cX10_isLinked 7 = .ok (.iconst 1, 1) := by decide +kernel
theorem dX10_isLinked_8 : decode cX10_isLinked 8 = .ok (.iaload, 1) := by decide +kernel
theorem dX10_isLinked_9 : decode cX10_isLinked 9 = .ok (.if_icmp .ge 37, 3) := by decide +kernel
theorem dX10_isLinked_12 : decode cX10_isLinked 12 = .ok (.aload_n 0, 1) := by decide +kernel
theorem dX10_isLinked_13 : decode cX10_isLinked 13 = .ok (.getfield 20, 3) := by decide +kernel
theorem dX10_isLinked_16 : decode cX10_isLinked 16 = .ok (.bipush 24, 2) := by decide +kernel
theorem dX10_isLinked_18 : decode cX10_isLinked 18 = .ok (.iload_n 3, 1) := by decide +kernel
theorem dX10_isLinked_19 : decode cX10_isLinked 19 = .ok (.iadd, 1) := by decide +kernel
theorem dX10_isLinked_20 : decode cX10_isLinked 20 = .ok (.iaload, 1) := by decide +kernel
theorem dX10_isLinked_21 : decode cX10_isLinked 21 = .ok (.iload_n 1, 1) := by decide +kernel
theorem dX10_isLinked_22 : decode cX10_isLinked 22 = .ok (.if_icmp .ne 18, 3) := by decide +kernel
theorem dX10_isLinked_25 : decode cX10_isLinked 25 = .ok (.aload_n 0, 1) := by decide +kernel
theorem dX10_isLinked_26 : decode cX10_isLinked 26 = .ok (.getfield 23, 3) := by decide +kernel
theorem dX10_isLinked_29 : decode cX10_isLinked 29 = .ok (.bipush 24, 2) := by decide +kernel
theorem dX10_isLinked_31 : decode cX10_isLinked 31 = .ok (.iload_n 3, 1) := by decide +kernel
theorem dX10_isLinked_32 : decode cX10_isLinked 32 = .ok (.iadd, 1) := by decide +kernel
theorem dX10_isLinked_33 : decode cX10_isLinked 33 = .ok (.iaload, 1) := by decide +kernel
theorem dX10_isLinked_34 : decode cX10_isLinked 34 = .ok (.iload_n 2, 1) := by decide +kernel
theorem dX10_isLinked_35 : decode cX10_isLinked 35 = .ok (.if_icmp .ne 5, 3) := by decide +kernel
theorem dX10_isLinked_38 : decode cX10_isLinked 38 = .ok (.iconst 1, 1) := by decide +kernel
theorem dX10_isLinked_39 : decode cX10_isLinked 39 = .ok (.ireturn, 1) := by decide +kernel
theorem dX10_isLinked_40 : decode cX10_isLinked 40 = .ok (.iinc 3 1, 3) := by decide +kernel
theorem dX10_isLinked_43 : decode cX10_isLinked 43 = .ok (.goto (-41), 3) := by decide +kernel
theorem dX10_isLinked_46 : decode cX10_isLinked 46 = .ok (.iconst 0, 1) := by decide +kernel
theorem dX10_isLinked_47 : decode cX10_isLinked 47 = .ok (.ireturn, 1) := by decide +kernel
abbrev m_X10_isLinked : MD := (yX10_isLinked, cX10_isLinked, 4, (some .boolean))
theorem g_X10_17 {p : Program} {l : Launch} {e : Env} {R : Room} {s : State} {m : MethodId} {args : Array Value} {below : List Frame} {meth : Method} {c : Code} {H : Heap} {locs : List Loc} {cells slots : Nat} {Q : State → Prop} {d : MD} {g : GT} {A : Nat → Prop} {ws : va_W} {pc : Nat} {ls : Array Slot} {rest : List Value} (C : Cx p s m args meth c RX10 d g A) (w : Wd g A ws s.heap H locs) (q0 : Nat) {a : Nat} {fs : List Value} {v : Value} (he : ws[q0]? = some (a, .inr (10, fs))) (hv : fs[11]? = some v) (hd : decode d.2.1 pc = .ok (.getfield 17, 3)) (kk : W p l e R s m args below meth c H locs cells slots Q (F0 m (pc + 3) ls (v :: rest))) : W p l e R s m args below meth c H locs cells slots Q (F0 m pc ls (.ref a :: rest)) := fg C w inX10s (ref := RX10) rfl 11 (by decide) (ts_t (w := Cond.fieldLink RX10 17 RX10 (TX10 11).2.1 (TX10 11).2.2.1) 1233 (by decide +kernel) (by decide +kernel)) rfl q0 he hv hd kk
theorem g_X10_20 {p : Program} {l : Launch} {e : Env} {R : Room} {s : State} {m : MethodId} {args : Array Value} {below : List Frame} {meth : Method} {c : Code} {H : Heap} {locs : List Loc} {cells slots : Nat} {Q : State → Prop} {d : MD} {g : GT} {A : Nat → Prop} {ws : va_W} {pc : Nat} {ls : Array Slot} {rest : List Value} (C : Cx p s m args meth c RX10 d g A) (w : Wd g A ws s.heap H locs) (q0 : Nat) {a : Nat} {fs : List Value} {v : Value} (he : ws[q0]? = some (a, .inr (10, fs))) (hv : fs[12]? = some v) (hd : decode d.2.1 pc = .ok (.getfield 20, 3)) (kk : W p l e R s m args below meth c H locs cells slots Q (F0 m (pc + 3) ls (v :: rest))) : W p l e R s m args below meth c H locs cells slots Q (F0 m pc ls (.ref a :: rest)) := fg C w inX10s (ref := RX10) rfl 12 (by decide) (ts_t (w := Cond.fieldLink RX10 20 RX10 (TX10 12).2.1 (TX10 12).2.2.1) 1234 (by decide +kernel) (by decide +kernel)) rfl q0 he hv hd kk
theorem g_X10_23 {p : Program} {l : Launch} {e : Env} {R : Room} {s : State} {m : MethodId} {args : Array Value} {below : List Frame} {meth : Method} {c : Code} {H : Heap} {locs : List Loc} {cells slots : Nat} {Q : State → Prop} {d : MD} {g : GT} {A : Nat → Prop} {ws : va_W} {pc : Nat} {ls : Array Slot} {rest : List Value} (C : Cx p s m args meth c RX10 d g A) (w : Wd g A ws s.heap H locs) (q0 : Nat) {a : Nat} {fs : List Value} {v : Value} (he : ws[q0]? = some (a, .inr (10, fs))) (hv : fs[13]? = some v) (hd : decode d.2.1 pc = .ok (.getfield 23, 3)) (kk : W p l e R s m args below meth c H locs cells slots Q (F0 m (pc + 3) ls (v :: rest))) : W p l e R s m args below meth c H locs cells slots Q (F0 m pc ls (.ref a :: rest)) := fg C w inX10s (ref := RX10) rfl 13 (by decide) (ts_t (w := Cond.fieldLink RX10 23 RX10 (TX10 13).2.1 (TX10 13).2.2.1) 1235 (by decide +kernel) (by decide +kernel)) rfl q0 he hv hd kk
abbrev w_X10_isLinked (g : GT) (h0 h1 h2 h3 : Nat) (v0_0 v0_1 v0_2 v0_3 v0_4 v0_5 v0_6 v0_7 v0_8 v0_9 v0_10 v0_14 v0_15 v0_16 v0_17 v0_18 v0_19 v0_20 v0_21 v0_22 v0_23 v0_24 v0_25 v0_26 v0_27 v0_28 v0_29 v0_30 v0_31 v0_32 v0_33 v0_34 v0_35 v0_36 v0_37 : Value) (draft1 linkFrom2 linkTo3 : Nat → Int32) : va_W := [(h0, .inr (10, [v0_0, v0_1, v0_2, v0_3, v0_4, v0_5, v0_6, v0_7, v0_8, v0_9, v0_10, .ref h1, .ref h2, .ref h3, v0_14, v0_15, v0_16, v0_17, v0_18, v0_19, v0_20, v0_21, v0_22, v0_23, v0_24, v0_25, v0_26, v0_27, v0_28, v0_29, v0_30, v0_31, v0_32, v0_33, v0_34, v0_35, v0_36, v0_37])), (h1, aI g 7 draft1), (h2, aI g 48 linkFrom2), (h3, aI g 48 linkTo3)]
def f_X10_isLinked_b40 (F : Nat) (k2 : (Int32 × Int32 × Int32) → Option (Int32)) (draft1 linkFrom2 linkTo3 : Nat → Int32) (x1 x2 x3 : Int32) : Option (Int32) :=
  k2 (x1, x2, x3 + 1)
def f_X10_isLinked_h2 (F : Nat) (draft1 linkFrom2 linkTo3 : Nat → Int32) (k2 : (Int32 × Int32 × Int32) → Option (Int32)) (x1 x2 x3 : Int32) : Option (Int32) :=
  rd draft1 7 1 fun a1 =>
  if a1 ≤ x3 then
    gd ((0 : Int32) = 0 ∨ (0 : Int32) = 1) (some 0)
  else
    rd linkFrom2 48 (24 + x3) fun a3 =>
    if a3 = x1 then
      rd linkTo3 48 (24 + x3) fun a5 =>
      if a5 = x2 then
        gd ((1 : Int32) = 0 ∨ (1 : Int32) = 1) (some 1)
      else
        f_X10_isLinked_b40 F k2 draft1 linkFrom2 linkTo3 x1 x2 x3
    else
      f_X10_isLinked_b40 F k2 draft1 linkFrom2 linkTo3 x1 x2 x3
def f_X10_isLinked_L2 (F : Nat) (draft1 linkFrom2 linkTo3 : Nat → Int32) (z : Int32 × Int32 × Int32) : Option (Int32) := lp (fun k z => f_X10_isLinked_h2 F draft1 linkFrom2 linkTo3 k z.1 z.2.1 z.2.2) F z
def f_X10_isLinked (F : Nat) (p1 p2 : Int32) (draft1 linkFrom2 linkTo3 : Nat → Int32) : Option (Int32) :=
  f_X10_isLinked_L2 F draft1 linkFrom2 linkTo3 (p1, p2, 0)
set_option maxHeartbeats 4000000 in
set_option maxRecDepth 100000 in
theorem c_X10_isLinked (l : Launch) (g : GT) (F : Nat) (h0 h1 h2 h3 : Nat) (v0_0 v0_1 v0_2 v0_3 v0_4 v0_5 v0_6 v0_7 v0_8 v0_9 v0_10 v0_14 v0_15 v0_16 v0_17 v0_18 v0_19 v0_20 v0_21 v0_22 v0_23 v0_24 v0_25 v0_26 v0_27 v0_28 v0_29 v0_30 v0_31 v0_32 v0_33 v0_34 v0_35 v0_36 v0_37 : Value) (p1 p2 : Int32) (draft1 linkFrom2 linkTo3 : Nat → Int32) (r : Int32) (sz : Nat) (hf : f_X10_isLinked F p1 p2 draft1 linkFrom2 linkTo3 = some r) : CI l m_X10_isLinked (rml 0 0 0) g (w_X10_isLinked g h0 h1 h2 h3 v0_0 v0_1 v0_2 v0_3 v0_4 v0_5 v0_6 v0_7 v0_8 v0_9 v0_10 v0_14 v0_15 v0_16 v0_17 v0_18 v0_19 v0_20 v0_21 v0_22 v0_23 v0_24 v0_25 v0_26 v0_27 v0_28 v0_29 v0_30 v0_31 v0_32 v0_33 v0_34 v0_35 v0_36 v0_37 draft1 linkFrom2 linkTo3) (fun _ => w_X10_isLinked g h0 h1 h2 h3 v0_0 v0_1 v0_2 v0_3 v0_4 v0_5 v0_6 v0_7 v0_8 v0_9 v0_10 v0_14 v0_15 v0_16 v0_17 v0_18 v0_19 v0_20 v0_21 v0_22 v0_23 v0_24 v0_25 v0_26 v0_27 v0_28 v0_29 v0_30 v0_31 v0_32 v0_33 v0_34 v0_35 v0_36 v0_37 draft1 linkFrom2 linkTo3) sz [.ref h0, .int p1, .int p2] r := by
  refine en_i (by decide) (Nat.le_of_ble_eq_true rfl) (fun p e s m args below meth c A ls C w hl => ?_)
  have C : Cx p s m args meth c RX10 m_X10_isLinked g A := C
  have hx := C.1
  have hb : c.code = cX10_isLinked := C.2.1
  have hl : lv_has ls 4 [(0, .ref h0), (1, .int p1), (2, .int p2)] := hl
  obtain ⟨Q, hQ⟩ : ∃ Q, Q = QI below args s g A (fun _ => w_X10_isLinked g h0 h1 h2 h3 v0_0 v0_1 v0_2 v0_3 v0_4 v0_5 v0_6 v0_7 v0_8 v0_9 v0_10 v0_14 v0_15 v0_16 v0_17 v0_18 v0_19 v0_20 v0_21 v0_22 v0_23 v0_24 v0_25 v0_26 v0_27 v0_28 v0_29 v0_30 v0_31 v0_32 v0_33 v0_34 v0_35 v0_36 v0_37 draft1 linkFrom2 linkTo3) r 0 0 := ⟨_, rfl⟩
  suffices hW : W p l e (rml 0 0 0) s m args below meth c s.heap [] 0 0 Q (F0 m 0 ls []) from (by rw [hQ] at hW; exact hW)
  unfold f_X10_isLinked at hf
  have L2 : ∀ (z : Int32 × Int32 × Int32), f_X10_isLinked_L2 F draft1 linkFrom2 linkTo3 z = some r → ∀ (H : Heap) (locs : List Loc) (ls : Array Slot), Wd g A (w_X10_isLinked g h0 h1 h2 h3 v0_0 v0_1 v0_2 v0_3 v0_4 v0_5 v0_6 v0_7 v0_8 v0_9 v0_10 v0_14 v0_15 v0_16 v0_17 v0_18 v0_19 v0_20 v0_21 v0_22 v0_23 v0_24 v0_25 v0_26 v0_27 v0_28 v0_29 v0_30 v0_31 v0_32 v0_33 v0_34 v0_35 v0_36 v0_37 draft1 linkFrom2 linkTo3) s.heap H locs → lv_has ls 4 [(0, .ref h0), (1, .int z.1), (2, .int z.2.1), (3, .int z.2.2)] → W p l e (rml 0 0 0) s m args below meth c H locs 0 0 Q (F0 m 2 ls []) := by
    intro z hf
    refine lp_W (r := r) (fun (z : Int32 × Int32 × Int32) => ∀ (H : Heap) (locs : List Loc) (ls : Array Slot), Wd g A (w_X10_isLinked g h0 h1 h2 h3 v0_0 v0_1 v0_2 v0_3 v0_4 v0_5 v0_6 v0_7 v0_8 v0_9 v0_10 v0_14 v0_15 v0_16 v0_17 v0_18 v0_19 v0_20 v0_21 v0_22 v0_23 v0_24 v0_25 v0_26 v0_27 v0_28 v0_29 v0_30 v0_31 v0_32 v0_33 v0_34 v0_35 v0_36 v0_37 draft1 linkFrom2 linkTo3) s.heap H locs → lv_has ls 4 [(0, .ref h0), (1, .int z.1), (2, .int z.2.1), (3, .int z.2.2)] → W p l e (rml 0 0 0) s m args below meth c H locs 0 0 Q (F0 m 2 ls [])) (fun k2 z ih2 hf => ?_) F z hf
    obtain ⟨x1, x2, x3⟩ := z
    intro H locs ls w hl
    try dsimp only at hf w hl ⊢
    unfold f_X10_isLinked_h2 at hf
    have b40 : ∀ (x1 x2 x3 : Int32) (H : Heap) (locs : List Loc) (ls : Array Slot), f_X10_isLinked_b40 F k2 draft1 linkFrom2 linkTo3 x1 x2 x3 = some r → Wd g A (w_X10_isLinked g h0 h1 h2 h3 v0_0 v0_1 v0_2 v0_3 v0_4 v0_5 v0_6 v0_7 v0_8 v0_9 v0_10 v0_14 v0_15 v0_16 v0_17 v0_18 v0_19 v0_20 v0_21 v0_22 v0_23 v0_24 v0_25 v0_26 v0_27 v0_28 v0_29 v0_30 v0_31 v0_32 v0_33 v0_34 v0_35 v0_36 v0_37 draft1 linkFrom2 linkTo3) s.heap H locs → lv_has ls 4 [(0, .ref h0), (1, .int x1), (2, .int x2), (3, .int x3)] → W p l e (rml 0 0 0) s m args below meth c H locs 0 0 Q (F0 m 40 ls []) := by
      intro x1 x2 x3 H locs ls hf w hl
      unfold f_X10_isLinked_b40 at hf
      refine lv_iinc (v := x3 + 1) (lv' := [(3, .int (x3 + 1)), (0, .ref h0), (1, .int x1), (2, .int x2)]) hx hb dX10_isLinked_40 hl (k := 3) rfl rfl (by decide) rfl (fun ls hl => ?_)
      refine lv_goto (tgt := 2) hx hb dX10_isLinked_43 (by decide) ?_
      exact ih2 (x1, x2, x3 + 1) hf _ _ _ w (lv_sub hl [1, 2, 3, 0] rfl)
    refine lv_iload_n hx hb dX10_isLinked_2 rfl (lv_at hl 3 rfl) ?_
    refine lv_aload_n hx hb dX10_isLinked_3 rfl (lv_at hl 0 rfl) ?_
    refine g_X10_17 C w 0 rfl rfl dX10_isLinked_4 ?_
    refine lv_iconst (v := 1) hx hb dX10_isLinked_7 (by decide) ?_
    obtain ⟨a1, hia1, haa1, hf⟩ := rd_some hf
    refine ial C w 1 rfl hia1 haa1 dX10_isLinked_8 ?_
    refine lv_icmp_ge (tgt := 46) hx hb dX10_isLinked_9 (by decide) (fun c2 => ?_) (fun c2 => ?_)
    · replace hf := it_t c2 hf
      refine lv_iconst (v := 0) hx hb dX10_isLinked_46 (by decide) ?_
      obtain ⟨h01, hf⟩ := gd_some hf
      obtain e1 := tp1 hf
      rw [hQ]
      exact rt_z C w rfl h01 (fun _ => 0) rfl e1 dX10_isLinked_47
    · replace hf := it_f c2 hf
      refine lv_aload_n hx hb dX10_isLinked_12 rfl (lv_at hl 0 rfl) ?_
      refine g_X10_20 C w 0 rfl rfl dX10_isLinked_13 ?_
      refine lv_bipush (v := 24) hx hb dX10_isLinked_16 (by decide) ?_
      refine lv_iload_n hx hb dX10_isLinked_18 rfl (lv_at hl 3 rfl) ?_
      refine lv_iadd hx hb dX10_isLinked_19 ?_
      obtain ⟨a3, hia3, haa3, hf⟩ := rd_some hf
      refine ial C w 2 rfl hia3 haa3 dX10_isLinked_20 ?_
      refine lv_iload_n hx hb dX10_isLinked_21 rfl (lv_at hl 1 rfl) ?_
      refine lv_icmp_ne (tgt := 40) hx hb dX10_isLinked_22 (by decide) (fun c4 => ?_) (fun c4 => ?_)
      · replace hf := it_f c4 hf
        exact b40 x1 x2 x3 _ _ _ hf w (lv_sub hl [0, 1, 2, 3] rfl)
      · replace hf := it_t c4 hf
        refine lv_aload_n hx hb dX10_isLinked_25 rfl (lv_at hl 0 rfl) ?_
        refine g_X10_23 C w 0 rfl rfl dX10_isLinked_26 ?_
        refine lv_bipush (v := 24) hx hb dX10_isLinked_29 (by decide) ?_
        refine lv_iload_n hx hb dX10_isLinked_31 rfl (lv_at hl 3 rfl) ?_
        refine lv_iadd hx hb dX10_isLinked_32 ?_
        obtain ⟨a5, hia5, haa5, hf⟩ := rd_some hf
        refine ial C w 3 rfl hia5 haa5 dX10_isLinked_33 ?_
        refine lv_iload_n hx hb dX10_isLinked_34 rfl (lv_at hl 2 rfl) ?_
        refine lv_icmp_ne (tgt := 40) hx hb dX10_isLinked_35 (by decide) (fun c6 => ?_) (fun c6 => ?_)
        · replace hf := it_f c6 hf
          exact b40 x1 x2 x3 _ _ _ hf w (lv_sub hl [0, 1, 2, 3] rfl)
        · replace hf := it_t c6 hf
          refine lv_iconst (v := 1) hx hb dX10_isLinked_38 (by decide) ?_
          obtain ⟨h01, hf⟩ := gd_some hf
          obtain e1 := tp1 hf
          rw [hQ]
          exact rt_z C w rfl h01 (fun _ => 0) rfl e1 dX10_isLinked_39
  refine lv_iconst (v := 0) hx hb dX10_isLinked_0 (by decide) ?_
  refine lv_istore_n (lv' := [(3, .int 0), (0, .ref h0), (1, .int p1), (2, .int p2)]) hx hb dX10_isLinked_1 rfl hl (by decide) rfl (fun ls hl => ?_)
  exact L2 (p1, p2, 0) hf _ _ _ w (lv_sub hl [1, 2, 3, 0] rfl)

theorem dX10_isPlated_0 : decode cX10_isPlated 0 = .ok (.iconst 0, 1) := by decide +kernel
theorem dX10_isPlated_1 : decode cX10_isPlated 1 = .ok (.istore_n 2, 1) := by decide +kernel
theorem dX10_isPlated_2 : decode cX10_isPlated 2 = .ok (.iload_n 2, 1) := by decide +kernel
theorem dX10_isPlated_3 : decode cX10_isPlated 3 = .ok (.aload_n 0, 1) := by decide +kernel
theorem dX10_isPlated_4 : decode cX10_isPlated 4 = .ok (.getfield 17, 3) := by decide +kernel
theorem dX10_isPlated_7 : decode cX10_isPlated 7 = .ok (.iconst 3, 1) := by decide +kernel
theorem dX10_isPlated_8 : decode cX10_isPlated 8 = .ok (.iaload, 1) := by decide +kernel
theorem dX10_isPlated_9 : decode cX10_isPlated 9 = .ok (.if_icmp .ge 24, 3) := by decide +kernel
theorem dX10_isPlated_12 : decode cX10_isPlated 12 = .ok (.aload_n 0, 1) := by decide +kernel
theorem dX10_isPlated_13 : decode cX10_isPlated 13 = .ok (.getfield 38, 3) := by decide +kernel
theorem dX10_isPlated_16 : decode cX10_isPlated 16 = .ok (.bipush 12, 2) := by decide +kernel
theorem dX10_isPlated_18 : decode cX10_isPlated 18 = .ok (.iload_n 2, 1) := by decide +kernel
theorem dX10_isPlated_19 : decode cX10_isPlated 19 = .ok (.iadd, 1) := by decide +kernel
theorem dX10_isPlated_20 : decode cX10_isPlated 20 = .ok (.iaload, 1) := by decide +kernel
theorem dX10_isPlated_21 : decode cX10_isPlated 21 = .ok (.iload_n 1, 1) := by decide +kernel
theorem dX10_isPlated_22 : decode cX10_isPlated 22 = .ok (.if_icmp .ne 5, 3) := by decide +kernel
theorem dX10_isPlated_25 : decode cX10_isPlated 25 = .ok (.iconst 1, 1) := by decide +kernel
theorem dX10_isPlated_26 : decode cX10_isPlated 26 = .ok (.ireturn, 1) := by decide +kernel
theorem dX10_isPlated_27 : decode cX10_isPlated 27 = .ok (.iinc 2 1, 3) := by decide +kernel
theorem dX10_isPlated_30 : decode cX10_isPlated 30 = .ok (.goto (-28), 3) := by decide +kernel
theorem dX10_isPlated_33 : decode cX10_isPlated 33 = .ok (.iconst 0, 1) := by decide +kernel
theorem dX10_isPlated_34 : decode cX10_isPlated 34 = .ok (.ireturn, 1) := by decide +kernel
abbrev m_X10_isPlated : MD := (yX10_isPlated, cX10_isPlated, 3, (some .boolean))
theorem g_X10_38 {p : Program} {l : Launch} {e : Env} {R : Room} {s : State} {m : MethodId} {args : Array Value} {below : List Frame} {meth : Method} {c : Code} {H : Heap} {locs : List Loc} {cells slots : Nat} {Q : State → Prop} {d : MD} {g : GT} {A : Nat → Prop} {ws : va_W} {pc : Nat} {ls : Array Slot} {rest : List Value} (C : Cx p s m args meth c RX10 d g A) (w : Wd g A ws s.heap H locs) (q0 : Nat) {a : Nat} {fs : List Value} {v : Value} (he : ws[q0]? = some (a, .inr (10, fs))) (hv : fs[18]? = some v) (hd : decode d.2.1 pc = .ok (.getfield 38, 3)) (kk : W p l e R s m args below meth c H locs cells slots Q (F0 m (pc + 3) ls (v :: rest))) : W p l e R s m args below meth c H locs cells slots Q (F0 m pc ls (.ref a :: rest)) := fg C w inX10s (ref := RX10) rfl 18 (by decide) (ts_t (w := Cond.fieldLink RX10 38 RX10 (TX10 18).2.1 (TX10 18).2.2.1) 1240 (by decide +kernel) (by decide +kernel)) rfl q0 he hv hd kk
abbrev w_X10_isPlated (g : GT) (h0 h1 h2 : Nat) (v0_0 v0_1 v0_2 v0_3 v0_4 v0_5 v0_6 v0_7 v0_8 v0_9 v0_10 v0_12 v0_13 v0_14 v0_15 v0_16 v0_17 v0_19 v0_20 v0_21 v0_22 v0_23 v0_24 v0_25 v0_26 v0_27 v0_28 v0_29 v0_30 v0_31 v0_32 v0_33 v0_34 v0_35 v0_36 v0_37 : Value) (draft1 tagPlate2 : Nat → Int32) : va_W := [(h0, .inr (10, [v0_0, v0_1, v0_2, v0_3, v0_4, v0_5, v0_6, v0_7, v0_8, v0_9, v0_10, .ref h1, v0_12, v0_13, v0_14, v0_15, v0_16, v0_17, .ref h2, v0_19, v0_20, v0_21, v0_22, v0_23, v0_24, v0_25, v0_26, v0_27, v0_28, v0_29, v0_30, v0_31, v0_32, v0_33, v0_34, v0_35, v0_36, v0_37])), (h1, aI g 7 draft1), (h2, aI g 24 tagPlate2)]
def f_X10_isPlated_h2 (F : Nat) (draft1 tagPlate2 : Nat → Int32) (k2 : (Int32 × Int32) → Option (Int32)) (x1 x2 : Int32) : Option (Int32) :=
  rd draft1 7 3 fun a1 =>
  if a1 ≤ x2 then
    gd ((0 : Int32) = 0 ∨ (0 : Int32) = 1) (some 0)
  else
    rd tagPlate2 24 (12 + x2) fun a3 =>
    if a3 = x1 then
      gd ((1 : Int32) = 0 ∨ (1 : Int32) = 1) (some 1)
    else
      k2 (x1, x2 + 1)
def f_X10_isPlated_L2 (F : Nat) (draft1 tagPlate2 : Nat → Int32) (z : Int32 × Int32) : Option (Int32) := lp (fun k z => f_X10_isPlated_h2 F draft1 tagPlate2 k z.1 z.2) F z
def f_X10_isPlated (F : Nat) (p1 : Int32) (draft1 tagPlate2 : Nat → Int32) : Option (Int32) :=
  f_X10_isPlated_L2 F draft1 tagPlate2 (p1, 0)
set_option maxHeartbeats 4000000 in
set_option maxRecDepth 100000 in
theorem c_X10_isPlated (l : Launch) (g : GT) (F : Nat) (h0 h1 h2 : Nat) (v0_0 v0_1 v0_2 v0_3 v0_4 v0_5 v0_6 v0_7 v0_8 v0_9 v0_10 v0_12 v0_13 v0_14 v0_15 v0_16 v0_17 v0_19 v0_20 v0_21 v0_22 v0_23 v0_24 v0_25 v0_26 v0_27 v0_28 v0_29 v0_30 v0_31 v0_32 v0_33 v0_34 v0_35 v0_36 v0_37 : Value) (p1 : Int32) (draft1 tagPlate2 : Nat → Int32) (r : Int32) (sz : Nat) (hf : f_X10_isPlated F p1 draft1 tagPlate2 = some r) : CI l m_X10_isPlated (rml 0 0 0) g (w_X10_isPlated g h0 h1 h2 v0_0 v0_1 v0_2 v0_3 v0_4 v0_5 v0_6 v0_7 v0_8 v0_9 v0_10 v0_12 v0_13 v0_14 v0_15 v0_16 v0_17 v0_19 v0_20 v0_21 v0_22 v0_23 v0_24 v0_25 v0_26 v0_27 v0_28 v0_29 v0_30 v0_31 v0_32 v0_33 v0_34 v0_35 v0_36 v0_37 draft1 tagPlate2) (fun _ => w_X10_isPlated g h0 h1 h2 v0_0 v0_1 v0_2 v0_3 v0_4 v0_5 v0_6 v0_7 v0_8 v0_9 v0_10 v0_12 v0_13 v0_14 v0_15 v0_16 v0_17 v0_19 v0_20 v0_21 v0_22 v0_23 v0_24 v0_25 v0_26 v0_27 v0_28 v0_29 v0_30 v0_31 v0_32 v0_33 v0_34 v0_35 v0_36 v0_37 draft1 tagPlate2) sz [.ref h0, .int p1] r := by
  refine en_i (by decide) (Nat.le_of_ble_eq_true rfl) (fun p e s m args below meth c A ls C w hl => ?_)
  have C : Cx p s m args meth c RX10 m_X10_isPlated g A := C
  have hx := C.1
  have hb : c.code = cX10_isPlated := C.2.1
  have hl : lv_has ls 3 [(0, .ref h0), (1, .int p1)] := hl
  obtain ⟨Q, hQ⟩ : ∃ Q, Q = QI below args s g A (fun _ => w_X10_isPlated g h0 h1 h2 v0_0 v0_1 v0_2 v0_3 v0_4 v0_5 v0_6 v0_7 v0_8 v0_9 v0_10 v0_12 v0_13 v0_14 v0_15 v0_16 v0_17 v0_19 v0_20 v0_21 v0_22 v0_23 v0_24 v0_25 v0_26 v0_27 v0_28 v0_29 v0_30 v0_31 v0_32 v0_33 v0_34 v0_35 v0_36 v0_37 draft1 tagPlate2) r 0 0 := ⟨_, rfl⟩
  suffices hW : W p l e (rml 0 0 0) s m args below meth c s.heap [] 0 0 Q (F0 m 0 ls []) from (by rw [hQ] at hW; exact hW)
  unfold f_X10_isPlated at hf
  have L2 : ∀ (z : Int32 × Int32), f_X10_isPlated_L2 F draft1 tagPlate2 z = some r → ∀ (H : Heap) (locs : List Loc) (ls : Array Slot), Wd g A (w_X10_isPlated g h0 h1 h2 v0_0 v0_1 v0_2 v0_3 v0_4 v0_5 v0_6 v0_7 v0_8 v0_9 v0_10 v0_12 v0_13 v0_14 v0_15 v0_16 v0_17 v0_19 v0_20 v0_21 v0_22 v0_23 v0_24 v0_25 v0_26 v0_27 v0_28 v0_29 v0_30 v0_31 v0_32 v0_33 v0_34 v0_35 v0_36 v0_37 draft1 tagPlate2) s.heap H locs → lv_has ls 3 [(0, .ref h0), (1, .int z.1), (2, .int z.2)] → W p l e (rml 0 0 0) s m args below meth c H locs 0 0 Q (F0 m 2 ls []) := by
    intro z hf
    refine lp_W (r := r) (fun (z : Int32 × Int32) => ∀ (H : Heap) (locs : List Loc) (ls : Array Slot), Wd g A (w_X10_isPlated g h0 h1 h2 v0_0 v0_1 v0_2 v0_3 v0_4 v0_5 v0_6 v0_7 v0_8 v0_9 v0_10 v0_12 v0_13 v0_14 v0_15 v0_16 v0_17 v0_19 v0_20 v0_21 v0_22 v0_23 v0_24 v0_25 v0_26 v0_27 v0_28 v0_29 v0_30 v0_31 v0_32 v0_33 v0_34 v0_35 v0_36 v0_37 draft1 tagPlate2) s.heap H locs → lv_has ls 3 [(0, .ref h0), (1, .int z.1), (2, .int z.2)] → W p l e (rml 0 0 0) s m args below meth c H locs 0 0 Q (F0 m 2 ls [])) (fun k2 z ih2 hf => ?_) F z hf
    obtain ⟨x1, x2⟩ := z
    intro H locs ls w hl
    try dsimp only at hf w hl ⊢
    unfold f_X10_isPlated_h2 at hf
    refine lv_iload_n hx hb dX10_isPlated_2 rfl (lv_at hl 2 rfl) ?_
    refine lv_aload_n hx hb dX10_isPlated_3 rfl (lv_at hl 0 rfl) ?_
    refine g_X10_17 C w 0 rfl rfl dX10_isPlated_4 ?_
    refine lv_iconst (v := 3) hx hb dX10_isPlated_7 (by decide) ?_
    obtain ⟨a1, hia1, haa1, hf⟩ := rd_some hf
    refine ial C w 1 rfl hia1 haa1 dX10_isPlated_8 ?_
    refine lv_icmp_ge (tgt := 33) hx hb dX10_isPlated_9 (by decide) (fun c2 => ?_) (fun c2 => ?_)
    · replace hf := it_t c2 hf
      refine lv_iconst (v := 0) hx hb dX10_isPlated_33 (by decide) ?_
      obtain ⟨h01, hf⟩ := gd_some hf
      obtain e1 := tp1 hf
      rw [hQ]
      exact rt_z C w rfl h01 (fun _ => 0) rfl e1 dX10_isPlated_34
    · replace hf := it_f c2 hf
      refine lv_aload_n hx hb dX10_isPlated_12 rfl (lv_at hl 0 rfl) ?_
      refine g_X10_38 C w 0 rfl rfl dX10_isPlated_13 ?_
      refine lv_bipush (v := 12) hx hb dX10_isPlated_16 (by decide) ?_
      refine lv_iload_n hx hb dX10_isPlated_18 rfl (lv_at hl 2 rfl) ?_
      refine lv_iadd hx hb dX10_isPlated_19 ?_
      obtain ⟨a3, hia3, haa3, hf⟩ := rd_some hf
      refine ial C w 2 rfl hia3 haa3 dX10_isPlated_20 ?_
      refine lv_iload_n hx hb dX10_isPlated_21 rfl (lv_at hl 1 rfl) ?_
      refine lv_icmp_ne (tgt := 27) hx hb dX10_isPlated_22 (by decide) (fun c4 => ?_) (fun c4 => ?_)
      · replace hf := it_f c4 hf
        refine lv_iinc (v := x2 + 1) (lv' := [(2, .int (x2 + 1)), (0, .ref h0), (1, .int x1)]) hx hb dX10_isPlated_27 hl (k := 2) rfl rfl (by decide) rfl (fun ls hl => ?_)
        refine lv_goto (tgt := 2) hx hb dX10_isPlated_30 (by decide) ?_
        exact ih2 (x1, x2 + 1) hf _ _ _ w (lv_sub hl [1, 2, 0] rfl)
      · replace hf := it_t c4 hf
        refine lv_iconst (v := 1) hx hb dX10_isPlated_25 (by decide) ?_
        obtain ⟨h01, hf⟩ := gd_some hf
        obtain e1 := tp1 hf
        rw [hQ]
        exact rt_z C w rfl h01 (fun _ => 0) rfl e1 dX10_isPlated_26
  refine lv_iconst (v := 0) hx hb dX10_isPlated_0 (by decide) ?_
  refine lv_istore_n (lv' := [(2, .int 0), (0, .ref h0), (1, .int p1)]) hx hb dX10_isPlated_1 rfl hl (by decide) rfl (fun ls hl => ?_)
  exact L2 (p1, 0) hf _ _ _ w (lv_sub hl [1, 2, 0] rfl)

theorem dX10_begins_0 : decode cX10_begins 0 = .ok (.aload_n 0, 1) := by decide +kernel
theorem dX10_begins_1 : decode cX10_begins 1 = .ok (.iload_n 1, 1) := by decide +kernel
theorem dX10_begins_2 : decode cX10_begins 2 = .ok (.iload_n 2, 1) := by decide +kernel
theorem dX10_begins_3 : decode cX10_begins 3 = .ok (.if_icmp .ge 7, 3) := by decide +kernel
theorem dX10_begins_6 : decode cX10_begins 6 = .ok (.iconst 1, 1) := by decide +kernel
theorem dX10_begins_7 : decode cX10_begins 7 = .ok (.goto 4, 3) := by decide +kernel
theorem dX10_begins_10 : decode cX10_begins 10 = .ok (.iconst 0, 1) := by decide +kernel
theorem dX10_begins_11 : decode cX10_begins 11 = .ok (.iconst 4, 1) := by decide +kernel
theorem dX10_begins_12 : decode cX10_begins 12 = .ok (.invokevirtual 141, 3) := by decide +kernel
theorem dX10_begins_15 : decode cX10_begins 15 = .ok (.ifCond .ne 5, 3) := by decide +kernel
theorem dX10_begins_18 : decode cX10_begins 18 = .ok (.iconst 0, 1) := by decide +kernel
theorem dX10_begins_19 : decode cX10_begins 19 = .ok (.ireturn, 1) := by decide +kernel
theorem dX10_begins_20 : decode cX10_begins 20 = .ok (.aload_n 0, 1) := by decide +kernel
theorem dX10_begins_21 : decode cX10_begins 21 = .ok (.invokevirtual 145, 3) := by decide +kernel
theorem dX10_begins_24 : decode cX10_begins 24 = .ok (.iconst 1, 1) := by decide +kernel
theorem dX10_begins_25 : decode cX10_begins 25 = .ok (.ireturn, 1) := by decide +kernel
abbrev m_X10_begins : MD := (yX10_begins, cX10_begins, 3, (some .boolean))

abbrev w_X10_begins (g : GT) (h0 h1 : Nat) (v0_0 v0_2 v0_10 v0_11 v0_12 v0_13 v0_14 v0_15 v0_16 v0_17 v0_18 v0_19 v0_20 v0_21 v0_22 v0_23 v0_24 v0_25 v0_26 v0_27 v0_28 v0_29 v0_30 v0_31 v0_32 v0_33 v0_34 v0_35 v0_36 v0_37 : Value) (textLength0 tokenStart0 tokenEnd0 token0 value0 error0 errorOffset0 : Int32) (buffer1 : Nat → Int32) : va_W := [(h0, .inr (10, [v0_0, .ref h1, v0_2, .int textLength0, .int tokenStart0, .int tokenEnd0, .int token0, .int value0, .int error0, .int errorOffset0, v0_10, v0_11, v0_12, v0_13, v0_14, v0_15, v0_16, v0_17, v0_18, v0_19, v0_20, v0_21, v0_22, v0_23, v0_24, v0_25, v0_26, v0_27, v0_28, v0_29, v0_30, v0_31, v0_32, v0_33, v0_34, v0_35, v0_36, v0_37])), (h1, aB g 900 buffer1)]
def f_X10_begins_b11 (F : Nat) (textLength0 : Int32) (buffer1 : Nat → Int32) (s0 tokenStart0 tokenEnd0 token0 value0 error0 errorOffset0 : Int32) : Option (Int32 × Int32 × Int32 × Int32 × Int32 × Int32 × Int32) :=
  bd3 (f_X10_must F s0 4 tokenStart0 error0 errorOffset0) fun r1 o2 o3 =>
  if r1 = 0 then
    gd ((0 : Int32) = 0 ∨ (0 : Int32) = 1) (some (0, tokenStart0, tokenEnd0, token0, value0, o2, o3))
  else
    bd4 (f_X10_nextToken F textLength0 tokenStart0 tokenEnd0 token0 value0 buffer1) fun o6 o7 o8 o9 =>
    gd ((1 : Int32) = 0 ∨ (1 : Int32) = 1) (some (1, o6, o7, o8, o9, o2, o3))
def f_X10_begins (F : Nat) (p1 p2 textLength0 tokenStart0 tokenEnd0 token0 value0 error0 errorOffset0 : Int32) (buffer1 : Nat → Int32) : Option (Int32 × Int32 × Int32 × Int32 × Int32 × Int32 × Int32) :=
  if p2 ≤ p1 then
    f_X10_begins_b11 F textLength0 buffer1 0 tokenStart0 tokenEnd0 token0 value0 error0 errorOffset0
  else
    f_X10_begins_b11 F textLength0 buffer1 1 tokenStart0 tokenEnd0 token0 value0 error0 errorOffset0
set_option maxHeartbeats 4000000 in
set_option maxRecDepth 100000 in
theorem c_X10_begins (l : Launch) (g : GT) (F : Nat) (h0 h1 : Nat) (v0_0 v0_2 v0_10 v0_11 v0_12 v0_13 v0_14 v0_15 v0_16 v0_17 v0_18 v0_19 v0_20 v0_21 v0_22 v0_23 v0_24 v0_25 v0_26 v0_27 v0_28 v0_29 v0_30 v0_31 v0_32 v0_33 v0_34 v0_35 v0_36 v0_37 : Value) (p1 p2 textLength0 tokenStart0 tokenEnd0 token0 value0 error0 errorOffset0 : Int32) (buffer1 : Nat → Int32) (r o_tokenStart0 o_tokenEnd0 o_token0 o_value0 o_error0 o_errorOffset0 : Int32) (sz : Nat) (hf : f_X10_begins F p1 p2 textLength0 tokenStart0 tokenEnd0 token0 value0 error0 errorOffset0 buffer1 = some (r, o_tokenStart0, o_tokenEnd0, o_token0, o_value0, o_error0, o_errorOffset0)) : CI l m_X10_begins (rml 2 0 0) g (w_X10_begins g h0 h1 v0_0 v0_2 v0_10 v0_11 v0_12 v0_13 v0_14 v0_15 v0_16 v0_17 v0_18 v0_19 v0_20 v0_21 v0_22 v0_23 v0_24 v0_25 v0_26 v0_27 v0_28 v0_29 v0_30 v0_31 v0_32 v0_33 v0_34 v0_35 v0_36 v0_37 textLength0 tokenStart0 tokenEnd0 token0 value0 error0 errorOffset0 buffer1) (fun _ => w_X10_begins g h0 h1 v0_0 v0_2 v0_10 v0_11 v0_12 v0_13 v0_14 v0_15 v0_16 v0_17 v0_18 v0_19 v0_20 v0_21 v0_22 v0_23 v0_24 v0_25 v0_26 v0_27 v0_28 v0_29 v0_30 v0_31 v0_32 v0_33 v0_34 v0_35 v0_36 v0_37 textLength0 o_tokenStart0 o_tokenEnd0 o_token0 o_value0 o_error0 o_errorOffset0 buffer1) sz [.ref h0, .int p1, .int p2] r := by
  refine en_i (by decide) (Nat.le_of_ble_eq_true rfl) (fun p e s m args below meth c A ls C w hl => ?_)
  have C : Cx p s m args meth c RX10 m_X10_begins g A := C
  have hx := C.1
  have hb : c.code = cX10_begins := C.2.1
  have hl : lv_has ls 3 [(0, .ref h0), (1, .int p1), (2, .int p2)] := hl
  obtain ⟨Q, hQ⟩ : ∃ Q, Q = QI below args s g A (fun _ => w_X10_begins g h0 h1 v0_0 v0_2 v0_10 v0_11 v0_12 v0_13 v0_14 v0_15 v0_16 v0_17 v0_18 v0_19 v0_20 v0_21 v0_22 v0_23 v0_24 v0_25 v0_26 v0_27 v0_28 v0_29 v0_30 v0_31 v0_32 v0_33 v0_34 v0_35 v0_36 v0_37 textLength0 o_tokenStart0 o_tokenEnd0 o_token0 o_value0 o_error0 o_errorOffset0 buffer1) r 0 0 := ⟨_, rfl⟩
  suffices hW : W p l e (rml 2 0 0) s m args below meth c s.heap [] 0 0 Q (F0 m 0 ls []) from (by rw [hQ] at hW; exact hW)
  unfold f_X10_begins at hf
  have b11 : ∀ (s0 tokenStart0 tokenEnd0 token0 value0 error0 errorOffset0 : Int32) (H : Heap) (locs : List Loc) (ls : Array Slot), f_X10_begins_b11 F textLength0 buffer1 s0 tokenStart0 tokenEnd0 token0 value0 error0 errorOffset0 = some (r, o_tokenStart0, o_tokenEnd0, o_token0, o_value0, o_error0, o_errorOffset0) → Wd g A (w_X10_begins g h0 h1 v0_0 v0_2 v0_10 v0_11 v0_12 v0_13 v0_14 v0_15 v0_16 v0_17 v0_18 v0_19 v0_20 v0_21 v0_22 v0_23 v0_24 v0_25 v0_26 v0_27 v0_28 v0_29 v0_30 v0_31 v0_32 v0_33 v0_34 v0_35 v0_36 v0_37 textLength0 tokenStart0 tokenEnd0 token0 value0 error0 errorOffset0 buffer1) s.heap H locs → lv_has ls 3 [(0, .ref h0)] → W p l e (rml 2 0 0) s m args below meth c H locs 0 0 Q (F0 m 11 ls [.int s0, .ref h0]) := by
    intro s0 tokenStart0 tokenEnd0 token0 value0 error0 errorOffset0 H locs ls hf w hl
    unfold f_X10_begins_b11 at hf
    refine lv_iconst (v := 4) hx hb dX10_begins_11 (by decide) ?_
    obtain ⟨r1, o2, o3, hc4, hf⟩ := bd3_some hf
    refine ca_iV C w (wn := fun _ => w_X10_begins g h0 h1 v0_0 v0_2 v0_10 v0_11 v0_12 v0_13 v0_14 v0_15 v0_16 v0_17 v0_18 v0_19 v0_20 v0_21 v0_22 v0_23 v0_24 v0_25 v0_26 v0_27 v0_28 v0_29 v0_30 v0_31 v0_32 v0_33 v0_34 v0_35 v0_36 v0_37 textLength0 tokenStart0 tokenEnd0 token0 value0 o2 o3 buffer1) (pm_k [true, false] rfl rfl (fun _ => Nat.le_of_ble_eq_true rfl) (fun _ => rfl)) (c_X10_must l g F h0 v0_0 (.ref h1) v0_2 (.int textLength0) (.int tokenEnd0) (.int token0) (.int value0) v0_10 v0_11 v0_12 v0_13 v0_14 v0_15 v0_16 v0_17 v0_18 v0_19 v0_20 v0_21 v0_22 v0_23 v0_24 v0_25 v0_26 v0_27 v0_28 v0_29 v0_30 v0_31 v0_32 v0_33 v0_34 v0_35 v0_36 v0_37 s0 4 tokenStart0 error0 errorOffset0 r1 o2 o3 _ hc4) k_X10_141 (rm_le (by decide) (by decide)) 0 10 rfl rfl rfl rfl hl.1 rfl (Nat.le_of_ble_eq_true rfl) dX10_begins_12 ⟨Nat.le_of_ble_eq_true rfl, Nat.le_of_ble_eq_true rfl⟩ (cells2 := 0) (slots2 := 0) ⟨rfl, rfl⟩ (fun _ H locs w => ?_)
    refine lv_if_ne (tgt := 20) hx hb dX10_begins_15 (by decide) (fun c5 => ?_) (fun c5 => ?_)
    · replace hf := it_f c5 hf
      refine lv_aload_n hx hb dX10_begins_20 rfl (lv_at hl 0 rfl) ?_
      obtain ⟨o6, o7, o8, o9, hc10, hf⟩ := bd4_some hf
      refine ca_vV C w (wn := fun _ => w_X10_begins g h0 h1 v0_0 v0_2 v0_10 v0_11 v0_12 v0_13 v0_14 v0_15 v0_16 v0_17 v0_18 v0_19 v0_20 v0_21 v0_22 v0_23 v0_24 v0_25 v0_26 v0_27 v0_28 v0_29 v0_30 v0_31 v0_32 v0_33 v0_34 v0_35 v0_36 v0_37 textLength0 o6 o7 o8 o9 o2 o3 buffer1) (pm_k [true, true] rfl rfl (fun _ => Nat.le_of_ble_eq_true rfl) (fun _ => rfl)) (c_X10_nextToken l g F h0 h1 v0_0 v0_2 (.int o2) (.int o3) v0_10 v0_11 v0_12 v0_13 v0_14 v0_15 v0_16 v0_17 v0_18 v0_19 v0_20 v0_21 v0_22 v0_23 v0_24 v0_25 v0_26 v0_27 v0_28 v0_29 v0_30 v0_31 v0_32 v0_33 v0_34 v0_35 v0_36 v0_37 textLength0 tokenStart0 tokenEnd0 token0 value0 buffer1 o6 o7 o8 o9 _ hc10) k_X10_145 (rm_le (by decide) (by decide)) 0 10 rfl rfl rfl rfl hl.1 rfl (Nat.le_of_ble_eq_true rfl) dX10_begins_21 ⟨Nat.le_of_ble_eq_true rfl, Nat.le_of_ble_eq_true rfl⟩ (cells2 := 0) (slots2 := 0) ⟨rfl, rfl⟩ (fun _ H locs w => ?_)
      refine lv_iconst (v := 1) hx hb dX10_begins_24 (by decide) ?_
      obtain ⟨h01, hf⟩ := gd_some hf
      obtain ⟨e1, e2, e3, e4, e5, e6, e7⟩ := tp7 hf
      rw [hQ]
      exact rt_z C w rfl h01 (fun _ => 0) (by rw [← e2, ← e3, ← e4, ← e5, ← e6, ← e7]) e1 dX10_begins_25
    · replace hf := it_t c5 hf
      refine lv_iconst (v := 0) hx hb dX10_begins_18 (by decide) ?_
      obtain ⟨h01, hf⟩ := gd_some hf
      obtain ⟨e1, e2, e3, e4, e5, e6, e7⟩ := tp7 hf
      rw [hQ]
      exact rt_z C w rfl h01 (fun _ => 0) (by rw [← e2, ← e3, ← e4, ← e5, ← e6, ← e7]) e1 dX10_begins_19
  refine lv_aload_n hx hb dX10_begins_0 rfl (lv_at hl 0 rfl) ?_
  refine lv_iload_n hx hb dX10_begins_1 rfl (lv_at hl 1 rfl) ?_
  refine lv_iload_n hx hb dX10_begins_2 rfl (lv_at hl 2 rfl) ?_
  refine lv_icmp_ge (tgt := 10) hx hb dX10_begins_3 (by decide) (fun c11 => ?_) (fun c11 => ?_)
  · replace hf := it_t c11 hf
    refine lv_iconst (v := 0) hx hb dX10_begins_10 (by decide) ?_
    exact b11 0 tokenStart0 tokenEnd0 token0 value0 error0 errorOffset0 _ _ _ hf w (lv_sub hl [0] rfl)
  · replace hf := it_f c11 hf
    refine lv_iconst (v := 1) hx hb dX10_begins_6 (by decide) ?_
    refine lv_goto (tgt := 11) hx hb dX10_begins_7 (by decide) ?_
    exact b11 1 tokenStart0 tokenEnd0 token0 value0 error0 errorOffset0 _ _ _ hf w (lv_sub hl [0] rfl)

theorem dX10_readLink_0 : decode cX10_readLink 0 = .ok (.aload_n 0, 1) := by decide +kernel
theorem dX10_readLink_1 : decode cX10_readLink 1 = .ok (.aload_n 0, 1) := by decide +kernel
theorem dX10_readLink_2 : decode cX10_readLink 2 = .ok (.getfield 17, 3) := by decide +kernel
theorem dX10_readLink_5 : decode cX10_readLink 5 = .ok (.iconst 1, 1) := by decide +kernel
theorem dX10_readLink_6 : decode cX10_readLink 6 = .ok (.iaload, 1) := by decide +kernel
theorem dX10_readLink_7 : decode cX10_readLink 7 = .ok (.bipush 24, 2) := by decide +kernel
theorem dX10_readLink_9 : decode cX10_readLink 9 = .ok (.invokevirtual 148, 3) := by decide +kernel
theorem dX10_readLink_12 : decode cX10_readLink 12 = .ok (.ifCond .ne 4, 3) := by decide +kernel
theorem dX10_readLink_15 : decode cX10_readLink 15 = .ok (.return_, 1) := by decide +kernel
theorem dX10_readLink_16 : decode cX10_readLink 16 = .ok (.bipush 24, 2) := by decide +kernel
theorem dX10_readLink_18 : decode cX10_readLink 18 = .ok (.aload_n 0, 1) := by decide +kernel
theorem dX10_readLink_19 : decode cX10_readLink 19 = .ok (.getfield 17, 3) := by decide +kernel
theorem dX10_readLink_22 : decode cX10_readLink 22 = .ok (.iconst 1, 1) := by decide +kernel
theorem dX10_readLink_23 : decode cX10_readLink 23 = .ok (.iaload, 1) := by decide +kernel
theorem dX10_readLink_24 : decode cX10_readLink 24 = .ok (.iadd, 1) := by decide +kernel
theorem dX10_readLink_25 : decode cX10_readLink 25 = .ok (.istore_n 1, 1) := by decide +kernel
theorem dX10_readLink_26 : decode cX10_readLink 26 = .ok (.aload_n 0, 1) := by decide +kernel
theorem dX10_readLink_27 : decode cX10_readLink 27 = .ok (.iconst 0, 1) := by decide +kernel
theorem dX10_readLink_28 : decode cX10_readLink 28 = .ok (.aload_n 0, 1) := by decide +kernel
theorem dX10_readLink_29 : decode cX10_readLink 29 = .ok (.getfield 17, 3) := by decide +kernel
theorem dX10_readLink_32 : decode cX10_readLink 32 = .ok (.iconst 0, 1) := by decide +kernel
theorem dX10_readLink_33 : decode cX10_readLink 33 = .ok (.iaload, 1) := by decide +kernel
theorem dX10_readLink_34 : decode cX10_readLink 34 = .ok (.iconst 1, 1) := by decide +kernel
theorem dX10_readLink_35 : decode cX10_readLink 35 = .ok (.isub, 1) := by decide +kernel
theorem dX10_readLink_36 : decode cX10_readLink 36 = .ok (.invokevirtual 152, 3) := by decide +kernel
theorem dX10_readLink_39 : decode cX10_readLink 39 = .ok (.istore_n 2, 1) := by decide +kernel
theorem dX10_readLink_40 : decode cX10_readLink 40 = .ok (.aload_n 0, 1) := by decide +kernel
theorem dX10_readLink_41 : decode cX10_readLink 41 = .ok (.getfield 126, 3) := by decide +kernel
theorem dX10_readLink_44 : decode cX10_readLink 44 = .ok (.ifCond .eq 4, 3) := by decide +kernel
theorem dX10_readLink_47 : decode cX10_readLink 47 = .ok (.return_, 1) := by decide +kernel
theorem dX10_readLink_48 : decode cX10_readLink 48 = .ok (.aload_n 0, 1) := by decide +kernel
theorem dX10_readLink_49 : decode cX10_readLink 49 = .ok (.getfield 108, 3) := by decide +kernel
theorem dX10_readLink_52 : decode cX10_readLink 52 = .ok (.iconst 2, 1) := by decide +kernel
theorem dX10_readLink_53 : decode cX10_readLink 53 = .ok (.if_icmp .ne 47, 3) := by decide +kernel
theorem dX10_readLink_56 : decode cX10_readLink 56 = .ok (.aload_n 0, 1) := by decide +kernel
theorem dX10_readLink_57 : decode cX10_readLink 57 = .ok (.getfield 123, 3) := by decide +kernel
theorem dX10_readLink_60 : decode cX10_readLink 60 = .ok (.aload_n 0, 1) := by decide +kernel
theorem dX10_readLink_61 : decode cX10_readLink 61 = .ok (.getfield 17, 3) := by decide +kernel
theorem dX10_readLink_64 : decode cX10_readLink 64 = .ok (.iconst 0, 1) := by decide +kernel
theorem dX10_readLink_65 : decode cX10_readLink 65 = .ok (.iaload, 1) := by decide +kernel
theorem dX10_readLink_66 : decode cX10_readLink 66 = .ok (.if_icmp .ge 34, 3) := by decide +kernel
theorem dX10_readLink_69 : decode cX10_readLink 69 = .ok (.aload_n 0, 1) := by decide +kernel
theorem dX10_readLink_70 : decode cX10_readLink 70 = .ok (.aload_n 0, 1) := by decide +kernel
theorem dX10_readLink_71 : decode cX10_readLink 71 = .ok (.getfield 123, 3) := by decide +kernel
theorem dX10_readLink_74 : decode cX10_readLink 74 = .ok (.iload_n 2, 1) := by decide +kernel
theorem dX10_readLink_75 : decode cX10_readLink 75 = .ok (.if_icmp .eq 19, 3) := by decide +kernel
theorem dX10_readLink_78 : decode cX10_readLink 78 = .ok (.aload_n 0, 1) := by decide +kernel
theorem dX10_readLink_79 : decode cX10_readLink 79 = .ok (.iload_n 2, 1) := by decide +kernel
theorem dX10_readLink_80 : decode cX10_readLink 80 = .ok (.aload_n 0, 1) := by decide +kernel
theorem dX10_readLink_81 : decode cX10_readLink 81 = .ok (.getfield 123, 3) := by decide +kernel
theorem dX10_readLink_84 : decode cX10_readLink 84 = .ok (.invokevirtual 156, 3) := by decide +kernel
theorem dX10_readLink_87 : decode cX10_readLink 87 = .ok (.ifCond .ne 7, 3) := by decide +kernel
theorem dX10_readLink_90 : decode cX10_readLink 90 = .ok (.iconst 1, 1) := by decide +kernel
theorem dX10_readLink_91 : decode cX10_readLink 91 = .ok (.goto 4, 3) := by decide +kernel
theorem dX10_readLink_94 : decode cX10_readLink 94 = .ok (.iconst 0, 1) := by decide +kernel
theorem dX10_readLink_95 : decode cX10_readLink 95 = .ok (.iconst 3, 1) := by decide +kernel
theorem dX10_readLink_96 : decode cX10_readLink 96 = .ok (.invokevirtual 141, 3) := by decide +kernel
theorem dX10_readLink_99 : decode cX10_readLink 99 = .ok (.pop, 1) := by decide +kernel
theorem dX10_readLink_100 : decode cX10_readLink 100 = .ok (.aload_n 0, 1) := by decide +kernel
theorem dX10_readLink_101 : decode cX10_readLink 101 = .ok (.getfield 126, 3) := by decide +kernel
theorem dX10_readLink_104 : decode cX10_readLink 104 = .ok (.ifCond .ne 19, 3) := by decide +kernel
theorem dX10_readLink_107 : decode cX10_readLink 107 = .ok (.aload_n 0, 1) := by decide +kernel
theorem dX10_readLink_108 : decode cX10_readLink 108 = .ok (.iconst 0, 1) := by decide +kernel
theorem dX10_readLink_109 : decode cX10_readLink 109 = .ok (.aload_n 0, 1) := by decide +kernel
theorem dX10_readLink_110 : decode cX10_readLink 110 = .ok (.getfield 17, 3) := by decide +kernel
theorem dX10_readLink_113 : decode cX10_readLink 113 = .ok (.iconst 0, 1) := by decide +kernel
theorem dX10_readLink_114 : decode cX10_readLink 114 = .ok (.iaload, 1) := by decide +kernel
theorem dX10_readLink_115 : decode cX10_readLink 115 = .ok (.iconst 1, 1) := by decide +kernel
theorem dX10_readLink_116 : decode cX10_readLink 116 = .ok (.isub, 1) := by decide +kernel
theorem dX10_readLink_117 : decode cX10_readLink 117 = .ok (.invokevirtual 152, 3) := by decide +kernel
theorem dX10_readLink_120 : decode cX10_readLink 120 = .ok (.goto 4, 3) := by decide +kernel
theorem dX10_readLink_123 : decode cX10_readLink 123 = .ok (.iconst 0, 1) := by decide +kernel
theorem dX10_readLink_124 : decode cX10_readLink 124 = .ok (.istore_n 3, 1) := by decide +kernel
theorem dX10_readLink_125 : decode cX10_readLink 125 = .ok (.aload_n 0, 1) := by decide +kernel
theorem dX10_readLink_126 : decode cX10_readLink 126 = .ok (.getfield 126, 3) := by decide +kernel
theorem dX10_readLink_129 : decode cX10_readLink 129 = .ok (.ifCond .ne 13, 3) := by decide +kernel
theorem dX10_readLink_132 : decode cX10_readLink 132 = .ok (.aload_n 0, 1) := by decide +kernel
theorem dX10_readLink_133 : decode cX10_readLink 133 = .ok (.iconst 1, 1) := by decide +kernel
theorem dX10_readLink_134 : decode cX10_readLink 134 = .ok (.bipush 120, 2) := by decide +kernel
theorem dX10_readLink_136 : decode cX10_readLink 136 = .ok (.invokevirtual 152, 3) := by decide +kernel
theorem dX10_readLink_139 : decode cX10_readLink 139 = .ok (.goto 4, 3) := by decide +kernel
theorem dX10_readLink_142 : decode cX10_readLink 142 = .ok (.iconst 0, 1) := by decide +kernel
theorem dX10_readLink_143 : decode cX10_readLink 143 = .ok (.istore 4, 2) := by decide +kernel
theorem dX10_readLink_145 : decode cX10_readLink 145 = .ok (.aload_n 0, 1) := by decide +kernel
theorem dX10_readLink_146 : decode cX10_readLink 146 = .ok (.getfield 126, 3) := by decide +kernel
theorem dX10_readLink_149 : decode cX10_readLink 149 = .ok (.ifCond .ne 14, 3) := by decide +kernel
theorem dX10_readLink_152 : decode cX10_readLink 152 = .ok (.aload_n 0, 1) := by decide +kernel
theorem dX10_readLink_153 : decode cX10_readLink 153 = .ok (.iconst 1, 1) := by decide +kernel
theorem dX10_readLink_154 : decode cX10_readLink 154 = .ok (.sipush 5000, 3) := by decide +kernel
theorem dX10_readLink_157 : decode cX10_readLink 157 = .ok (.invokevirtual 152, 3) := by decide +kernel
theorem dX10_readLink_160 : decode cX10_readLink 160 = .ok (.goto 4, 3) := by decide +kernel
theorem dX10_readLink_163 : decode cX10_readLink 163 = .ok (.iconst 0, 1) := by decide +kernel
theorem dX10_readLink_164 : decode cX10_readLink 164 = .ok (.istore 5, 2) := by decide +kernel
theorem dX10_readLink_166 : decode cX10_readLink 166 = .ok (.aload_n 0, 1) := by decide +kernel
theorem dX10_readLink_167 : decode cX10_readLink 167 = .ok (.getfield 126, 3) := by decide +kernel
theorem dX10_readLink_170 : decode cX10_readLink 170 = .ok (.ifCond .eq 4, 3) := by decide +kernel
theorem dX10_readLink_173 : decode cX10_readLink 173 = .ok (.return_, 1) := by decide +kernel
theorem dX10_readLink_174 : decode cX10_readLink 174 = .ok (.aload_n 0, 1) := by decide +kernel
theorem dX10_readLink_175 : decode cX10_readLink 175 = .ok (.getfield 20, 3) := by decide +kernel
theorem dX10_readLink_178 : decode cX10_readLink 178 = .ok (.iload_n 1, 1) := by decide +kernel
theorem dX10_readLink_179 : decode cX10_readLink 179 = .ok (.iload_n 2, 1) := by decide +kernel
theorem dX10_readLink_180 : decode cX10_readLink 180 = .ok (.iastore, 1) := by decide +kernel
theorem dX10_readLink_181 : decode cX10_readLink 181 = .ok (.aload_n 0, 1) := by decide +kernel
theorem dX10_readLink_182 : decode cX10_readLink 182 = .ok (.getfield 23, 3) := by decide +kernel
theorem dX10_readLink_185 : decode cX10_readLink 185 = .ok (.iload_n 1, 1) := by decide +kernel
theorem dX10_readLink_186 : decode cX10_readLink 186 = .ok (.iload_n 3, 1) := by decide +kernel
theorem dX10_readLink_187 : decode cX10_readLink 187 = .ok (.iastore, 1) := by decide +kernel
theorem dX10_readLink_188 : decode cX10_readLink 188 = .ok (.aload_n 0, 1) := by decide +kernel
theorem dX10_readLink_189 : decode cX10_readLink 189 = .ok (.getfield 26, 3) := by decide +kernel
theorem dX10_readLink_192 : decode cX10_readLink 192 = .ok (.iload_n 1, 1) := by decide +kernel
theorem dX10_readLink_193 : decode cX10_readLink 193 = .ok (.iload 4, 2) := by decide +kernel
theorem dX10_readLink_195 : decode cX10_readLink 195 = .ok (.iastore, 1) := by decide +kernel
theorem dX10_readLink_196 : decode cX10_readLink 196 = .ok (.aload_n 0, 1) := by decide +kernel
theorem dX10_readLink_197 : decode cX10_readLink 197 = .ok (.getfield 29, 3) := by decide +kernel
theorem dX10_readLink_200 : decode cX10_readLink 200 = .ok (.iload_n 1, 1) := by decide +kernel
theorem dX10_readLink_201 : decode cX10_readLink 201 = .ok (.iload 5, 2) := by decide +kernel
theorem dX10_readLink_203 : decode cX10_readLink 203 = .ok (.iastore, 1) := by decide +kernel
theorem dX10_readLink_204 : decode cX10_readLink 204 = .ok (.aload_n 0, 1) := by decide +kernel
theorem dX10_readLink_205 : decode cX10_readLink 205 = .ok (.getfield 17, 3) := by decide +kernel
theorem dX10_readLink_208 : decode cX10_readLink 208 = .ok (.iconst 1, 1) := by decide +kernel
theorem dX10_readLink_209 : decode cX10_readLink 209 = .ok (.dup2, 1) := by decide +kernel
theorem dX10_readLink_210 : decode cX10_readLink 210 = .ok (.iaload, 1) := by decide +kernel
theorem dX10_readLink_211 : decode cX10_readLink 211 = .ok (.iconst 1, 1) := by decide +kernel
theorem dX10_readLink_212 : decode cX10_readLink 212 = .ok (.iadd, 1) := by decide +kernel
theorem dX10_readLink_213 : decode cX10_readLink 213 = .ok (.iastore, 1) := by decide +kernel
theorem dX10_readLink_214 : decode cX10_readLink 214 = .ok (.return_, 1) := by decide +kernel
abbrev m_X10_readLink : MD := (yX10_readLink, cX10_readLink, 6, none)
theorem g_X10_26 {p : Program} {l : Launch} {e : Env} {R : Room} {s : State} {m : MethodId} {args : Array Value} {below : List Frame} {meth : Method} {c : Code} {H : Heap} {locs : List Loc} {cells slots : Nat} {Q : State → Prop} {d : MD} {g : GT} {A : Nat → Prop} {ws : va_W} {pc : Nat} {ls : Array Slot} {rest : List Value} (C : Cx p s m args meth c RX10 d g A) (w : Wd g A ws s.heap H locs) (q0 : Nat) {a : Nat} {fs : List Value} {v : Value} (he : ws[q0]? = some (a, .inr (10, fs))) (hv : fs[14]? = some v) (hd : decode d.2.1 pc = .ok (.getfield 26, 3)) (kk : W p l e R s m args below meth c H locs cells slots Q (F0 m (pc + 3) ls (v :: rest))) : W p l e R s m args below meth c H locs cells slots Q (F0 m pc ls (.ref a :: rest)) := fg C w inX10s (ref := RX10) rfl 14 (by decide) (ts_t (w := Cond.fieldLink RX10 26 RX10 (TX10 14).2.1 (TX10 14).2.2.1) 1236 (by decide +kernel) (by decide +kernel)) rfl q0 he hv hd kk
theorem g_X10_29 {p : Program} {l : Launch} {e : Env} {R : Room} {s : State} {m : MethodId} {args : Array Value} {below : List Frame} {meth : Method} {c : Code} {H : Heap} {locs : List Loc} {cells slots : Nat} {Q : State → Prop} {d : MD} {g : GT} {A : Nat → Prop} {ws : va_W} {pc : Nat} {ls : Array Slot} {rest : List Value} (C : Cx p s m args meth c RX10 d g A) (w : Wd g A ws s.heap H locs) (q0 : Nat) {a : Nat} {fs : List Value} {v : Value} (he : ws[q0]? = some (a, .inr (10, fs))) (hv : fs[15]? = some v) (hd : decode d.2.1 pc = .ok (.getfield 29, 3)) (kk : W p l e R s m args below meth c H locs cells slots Q (F0 m (pc + 3) ls (v :: rest))) : W p l e R s m args below meth c H locs cells slots Q (F0 m pc ls (.ref a :: rest)) := fg C w inX10s (ref := RX10) rfl 15 (by decide) (ts_t (w := Cond.fieldLink RX10 29 RX10 (TX10 15).2.1 (TX10 15).2.2.1) 1237 (by decide +kernel) (by decide +kernel)) rfl q0 he hv hd kk
theorem q_1390 : Cond.code yX10_number cX10_number 4 (some .int) ∈ TS := ts_t 1390 (by decide +kernel) (by decide +kernel)
theorem q_1387 : Cond.methodLink RX10 152 yX10_number ∈ TS := ts_t 1387 (by decide +kernel) (by decide +kernel)
theorem q_1389 : Cond.instanceMethod yX10_number ∈ TS := ts_t 1389 (by decide +kernel) (by decide +kernel)
theorem qs_90 : Cond.selects yX10_number.cls yX10_number yX10_number ∈ TS := ts_s 90 (by decide +kernel) (by decide +kernel)
theorem k_X10_152 : LkV RX10 152 m_X10_number 2 := ⟨q_1387, q_1389, qs_90, ⟨q_11, q_1390, by decide, by decide, by decide +kernel⟩⟩
theorem q_1403 : Cond.code yX10_begins cX10_begins 3 (some .boolean) ∈ TS := ts_t 1403 (by decide +kernel) (by decide +kernel)
theorem q_1400 : Cond.methodLink RX10 148 yX10_begins ∈ TS := ts_t 1400 (by decide +kernel) (by decide +kernel)
theorem q_1402 : Cond.instanceMethod yX10_begins ∈ TS := ts_t 1402 (by decide +kernel) (by decide +kernel)
theorem qs_93 : Cond.selects yX10_begins.cls yX10_begins yX10_begins ∈ TS := ts_s 93 (by decide +kernel) (by decide +kernel)
theorem k_X10_148 : LkV RX10 148 m_X10_begins 2 := ⟨q_1400, q_1402, qs_93, ⟨q_11, q_1403, by decide, by decide, by decide +kernel⟩⟩
theorem q_1407 : Cond.code yX10_isLinked cX10_isLinked 4 (some .boolean) ∈ TS := ts_t 1407 (by decide +kernel) (by decide +kernel)
theorem q_1404 : Cond.methodLink RX10 156 yX10_isLinked ∈ TS := ts_t 1404 (by decide +kernel) (by decide +kernel)
theorem q_1406 : Cond.instanceMethod yX10_isLinked ∈ TS := ts_t 1406 (by decide +kernel) (by decide +kernel)
theorem qs_94 : Cond.selects yX10_isLinked.cls yX10_isLinked yX10_isLinked ∈ TS := ts_s 94 (by decide +kernel) (by decide +kernel)
theorem k_X10_156 : LkV RX10 156 m_X10_isLinked 2 := ⟨q_1404, q_1406, qs_94, ⟨q_11, q_1407, by decide, by decide, by decide +kernel⟩⟩
abbrev w_X10_readLink (g : GT) (h0 h1 h2 h3 h4 h5 h6 : Nat) (v0_0 v0_2 v0_10 v0_16 v0_17 v0_18 v0_19 v0_20 v0_21 v0_22 v0_23 v0_24 v0_25 v0_26 v0_27 v0_28 v0_29 v0_30 v0_31 v0_32 v0_33 v0_34 v0_35 v0_36 v0_37 : Value) (textLength0 tokenStart0 tokenEnd0 token0 value0 error0 errorOffset0 : Int32) (buffer1 draft2 linkFrom3 linkMinutes4 linkPrice5 linkTo6 : Nat → Int32) : va_W := [(h0, .inr (10, [v0_0, .ref h1, v0_2, .int textLength0, .int tokenStart0, .int tokenEnd0, .int token0, .int value0, .int error0, .int errorOffset0, v0_10, .ref h2, .ref h3, .ref h6, .ref h4, .ref h5, v0_16, v0_17, v0_18, v0_19, v0_20, v0_21, v0_22, v0_23, v0_24, v0_25, v0_26, v0_27, v0_28, v0_29, v0_30, v0_31, v0_32, v0_33, v0_34, v0_35, v0_36, v0_37])), (h1, aB g 900 buffer1), (h2, aI g 7 draft2), (h3, aI g 48 linkFrom3), (h4, aI g 48 linkMinutes4), (h5, aI g 48 linkPrice5), (h6, aI g 48 linkTo6)]
def f_X10_readLink_b164 (F : Nat) (textLength0 : Int32) (buffer1 : Nat → Int32) (x1 x2 x3 x4 s0 tokenStart0 tokenEnd0 token0 value0 error0 errorOffset0 : Int32) (draft2 linkFrom3 linkMinutes4 linkPrice5 linkTo6 : Nat → Int32) : Option (Int32 × Int32 × Int32 × Int32 × Int32 × Int32 × (Nat → Int32) × (Nat → Int32) × (Nat → Int32) × (Nat → Int32) × (Nat → Int32)) :=
  if error0 = 0 then
    wr linkFrom3 48 x1 x2 fun f2 =>
    wr linkTo6 48 x1 x3 fun f3 =>
    wr linkMinutes4 48 x1 x4 fun f4 =>
    wr linkPrice5 48 x1 s0 fun f5 =>
    rd draft2 7 1 fun a6 =>
    wr draft2 7 1 (a6 + 1) fun f7 =>
    some (tokenStart0, tokenEnd0, token0, value0, error0, errorOffset0, f7, f2, f4, f5, f3)
  else
    some (tokenStart0, tokenEnd0, token0, value0, error0, errorOffset0, draft2, linkFrom3, linkMinutes4, linkPrice5, linkTo6)
def f_X10_readLink_b143 (F : Nat) (textLength0 : Int32) (buffer1 : Nat → Int32) (x1 x2 x3 s0 tokenStart0 tokenEnd0 token0 value0 error0 errorOffset0 : Int32) (draft2 linkFrom3 linkMinutes4 linkPrice5 linkTo6 : Nat → Int32) : Option (Int32 × Int32 × Int32 × Int32 × Int32 × Int32 × (Nat → Int32) × (Nat → Int32) × (Nat → Int32) × (Nat → Int32) × (Nat → Int32)) :=
  if error0 = 0 then
    bd7 (f_X10_number F 1 5000 textLength0 tokenStart0 tokenEnd0 token0 value0 error0 errorOffset0 buffer1) fun r9 o10 o11 o12 o13 o14 o15 =>
    f_X10_readLink_b164 F textLength0 buffer1 x1 x2 x3 s0 r9 o10 o11 o12 o13 o14 o15 draft2 linkFrom3 linkMinutes4 linkPrice5 linkTo6
  else
    f_X10_readLink_b164 F textLength0 buffer1 x1 x2 x3 s0 0 tokenStart0 tokenEnd0 token0 value0 error0 errorOffset0 draft2 linkFrom3 linkMinutes4 linkPrice5 linkTo6
def f_X10_readLink_b124 (F : Nat) (textLength0 : Int32) (buffer1 : Nat → Int32) (x1 x2 s0 tokenStart0 tokenEnd0 token0 value0 error0 errorOffset0 : Int32) (draft2 linkFrom3 linkMinutes4 linkPrice5 linkTo6 : Nat → Int32) : Option (Int32 × Int32 × Int32 × Int32 × Int32 × Int32 × (Nat → Int32) × (Nat → Int32) × (Nat → Int32) × (Nat → Int32) × (Nat → Int32)) :=
  if error0 = 0 then
    bd7 (f_X10_number F 1 120 textLength0 tokenStart0 tokenEnd0 token0 value0 error0 errorOffset0 buffer1) fun r18 o19 o20 o21 o22 o23 o24 =>
    f_X10_readLink_b143 F textLength0 buffer1 x1 x2 s0 r18 o19 o20 o21 o22 o23 o24 draft2 linkFrom3 linkMinutes4 linkPrice5 linkTo6
  else
    f_X10_readLink_b143 F textLength0 buffer1 x1 x2 s0 0 tokenStart0 tokenEnd0 token0 value0 error0 errorOffset0 draft2 linkFrom3 linkMinutes4 linkPrice5 linkTo6
def f_X10_readLink_b100 (F : Nat) (textLength0 : Int32) (buffer1 : Nat → Int32) (x1 x2 tokenStart0 tokenEnd0 token0 value0 error0 errorOffset0 : Int32) (draft2 linkFrom3 linkMinutes4 linkPrice5 linkTo6 : Nat → Int32) : Option (Int32 × Int32 × Int32 × Int32 × Int32 × Int32 × (Nat → Int32) × (Nat → Int32) × (Nat → Int32) × (Nat → Int32) × (Nat → Int32)) :=
  if error0 = 0 then
    rd draft2 7 0 fun a27 =>
    bd7 (f_X10_number F 0 (a27 - 1) textLength0 tokenStart0 tokenEnd0 token0 value0 error0 errorOffset0 buffer1) fun r28 o29 o30 o31 o32 o33 o34 =>
    f_X10_readLink_b124 F textLength0 buffer1 x1 x2 r28 o29 o30 o31 o32 o33 o34 draft2 linkFrom3 linkMinutes4 linkPrice5 linkTo6
  else
    f_X10_readLink_b124 F textLength0 buffer1 x1 x2 0 tokenStart0 tokenEnd0 token0 value0 error0 errorOffset0 draft2 linkFrom3 linkMinutes4 linkPrice5 linkTo6
def f_X10_readLink_b95 (F : Nat) (textLength0 : Int32) (buffer1 : Nat → Int32) (x1 x2 s0 tokenStart0 tokenEnd0 token0 value0 error0 errorOffset0 : Int32) (draft2 linkFrom3 linkMinutes4 linkPrice5 linkTo6 : Nat → Int32) : Option (Int32 × Int32 × Int32 × Int32 × Int32 × Int32 × (Nat → Int32) × (Nat → Int32) × (Nat → Int32) × (Nat → Int32) × (Nat → Int32)) :=
  bd3 (f_X10_must F s0 3 tokenStart0 error0 errorOffset0) fun r36 o37 o38 =>
  f_X10_readLink_b100 F textLength0 buffer1 x1 x2 tokenStart0 tokenEnd0 token0 value0 o37 o38 draft2 linkFrom3 linkMinutes4 linkPrice5 linkTo6
def f_X10_readLink_b94 (F : Nat) (textLength0 : Int32) (buffer1 : Nat → Int32) (x1 x2 tokenStart0 tokenEnd0 token0 value0 error0 errorOffset0 : Int32) (draft2 linkFrom3 linkMinutes4 linkPrice5 linkTo6 : Nat → Int32) : Option (Int32 × Int32 × Int32 × Int32 × Int32 × Int32 × (Nat → Int32) × (Nat → Int32) × (Nat → Int32) × (Nat → Int32) × (Nat → Int32)) :=
  f_X10_readLink_b95 F textLength0 buffer1 x1 x2 0 tokenStart0 tokenEnd0 token0 value0 error0 errorOffset0 draft2 linkFrom3 linkMinutes4 linkPrice5 linkTo6
def f_X10_readLink (F : Nat) (textLength0 tokenStart0 tokenEnd0 token0 value0 error0 errorOffset0 : Int32) (buffer1 draft2 linkFrom3 linkMinutes4 linkPrice5 linkTo6 : Nat → Int32) : Option (Int32 × Int32 × Int32 × Int32 × Int32 × Int32 × (Nat → Int32) × (Nat → Int32) × (Nat → Int32) × (Nat → Int32) × (Nat → Int32)) :=
  rd draft2 7 1 fun a40 =>
  bd7 (f_X10_begins F a40 24 textLength0 tokenStart0 tokenEnd0 token0 value0 error0 errorOffset0 buffer1) fun r41 o42 o43 o44 o45 o46 o47 =>
  if r41 = 0 then
    some (o42, o43, o44, o45, o46, o47, draft2, linkFrom3, linkMinutes4, linkPrice5, linkTo6)
  else
    rd draft2 7 1 fun a50 =>
    rd draft2 7 0 fun a51 =>
    bd7 (f_X10_number F 0 (a51 - 1) textLength0 o42 o43 o44 o45 o46 o47 buffer1) fun r52 o53 o54 o55 o56 o57 o58 =>
    if o57 = 0 then
      if o55 = 2 then
        rd draft2 7 0 fun a62 =>
        if a62 ≤ o56 then
          f_X10_readLink_b100 F textLength0 buffer1 (24 + a50) r52 o53 o54 o55 o56 o57 o58 draft2 linkFrom3 linkMinutes4 linkPrice5 linkTo6
        else
          if o56 = r52 then
            f_X10_readLink_b94 F textLength0 buffer1 (24 + a50) r52 o53 o54 o55 o56 o57 o58 draft2 linkFrom3 linkMinutes4 linkPrice5 linkTo6
          else
            bd1 (f_X10_isLinked F r52 o56 draft2 linkFrom3 linkTo6) fun r65 =>
            if r65 = 0 then
              f_X10_readLink_b95 F textLength0 buffer1 (24 + a50) r52 1 o53 o54 o55 o56 o57 o58 draft2 linkFrom3 linkMinutes4 linkPrice5 linkTo6
            else
              f_X10_readLink_b94 F textLength0 buffer1 (24 + a50) r52 o53 o54 o55 o56 o57 o58 draft2 linkFrom3 linkMinutes4 linkPrice5 linkTo6
      else
        f_X10_readLink_b100 F textLength0 buffer1 (24 + a50) r52 o53 o54 o55 o56 o57 o58 draft2 linkFrom3 linkMinutes4 linkPrice5 linkTo6
    else
      some (o53, o54, o55, o56, o57, o58, draft2, linkFrom3, linkMinutes4, linkPrice5, linkTo6)
set_option maxHeartbeats 4000000 in
set_option maxRecDepth 100000 in
theorem c_X10_readLink (l : Launch) (g : GT) (F : Nat) (h0 h1 h2 h3 h4 h5 h6 : Nat) (v0_0 v0_2 v0_10 v0_16 v0_17 v0_18 v0_19 v0_20 v0_21 v0_22 v0_23 v0_24 v0_25 v0_26 v0_27 v0_28 v0_29 v0_30 v0_31 v0_32 v0_33 v0_34 v0_35 v0_36 v0_37 : Value) (textLength0 tokenStart0 tokenEnd0 token0 value0 error0 errorOffset0 : Int32) (buffer1 draft2 linkFrom3 linkMinutes4 linkPrice5 linkTo6 : Nat → Int32) (o_tokenStart0 o_tokenEnd0 o_token0 o_value0 o_error0 o_errorOffset0 : Int32) (o_draft2 o_linkFrom3 o_linkMinutes4 o_linkPrice5 o_linkTo6 : Nat → Int32) (sz : Nat) (hf : f_X10_readLink F textLength0 tokenStart0 tokenEnd0 token0 value0 error0 errorOffset0 buffer1 draft2 linkFrom3 linkMinutes4 linkPrice5 linkTo6 = some (o_tokenStart0, o_tokenEnd0, o_token0, o_value0, o_error0, o_errorOffset0, o_draft2, o_linkFrom3, o_linkMinutes4, o_linkPrice5, o_linkTo6)) : CV l m_X10_readLink (rml 3 0 0) g (w_X10_readLink g h0 h1 h2 h3 h4 h5 h6 v0_0 v0_2 v0_10 v0_16 v0_17 v0_18 v0_19 v0_20 v0_21 v0_22 v0_23 v0_24 v0_25 v0_26 v0_27 v0_28 v0_29 v0_30 v0_31 v0_32 v0_33 v0_34 v0_35 v0_36 v0_37 textLength0 tokenStart0 tokenEnd0 token0 value0 error0 errorOffset0 buffer1 draft2 linkFrom3 linkMinutes4 linkPrice5 linkTo6) (fun _ => w_X10_readLink g h0 h1 h2 h3 h4 h5 h6 v0_0 v0_2 v0_10 v0_16 v0_17 v0_18 v0_19 v0_20 v0_21 v0_22 v0_23 v0_24 v0_25 v0_26 v0_27 v0_28 v0_29 v0_30 v0_31 v0_32 v0_33 v0_34 v0_35 v0_36 v0_37 textLength0 o_tokenStart0 o_tokenEnd0 o_token0 o_value0 o_error0 o_errorOffset0 buffer1 o_draft2 o_linkFrom3 o_linkMinutes4 o_linkPrice5 o_linkTo6) sz [.ref h0] := by
  refine en_v (by decide) (Nat.le_of_ble_eq_true rfl) (fun p e s m args below meth c A ls C w hl => ?_)
  have C : Cx p s m args meth c RX10 m_X10_readLink g A := C
  have hx := C.1
  have hb : c.code = cX10_readLink := C.2.1
  have hl : lv_has ls 6 [(0, .ref h0)] := hl
  obtain ⟨Q, hQ⟩ : ∃ Q, Q = QV below args s g A (fun _ => w_X10_readLink g h0 h1 h2 h3 h4 h5 h6 v0_0 v0_2 v0_10 v0_16 v0_17 v0_18 v0_19 v0_20 v0_21 v0_22 v0_23 v0_24 v0_25 v0_26 v0_27 v0_28 v0_29 v0_30 v0_31 v0_32 v0_33 v0_34 v0_35 v0_36 v0_37 textLength0 o_tokenStart0 o_tokenEnd0 o_token0 o_value0 o_error0 o_errorOffset0 buffer1 o_draft2 o_linkFrom3 o_linkMinutes4 o_linkPrice5 o_linkTo6) 0 0 := ⟨_, rfl⟩
  suffices hW : W p l e (rml 3 0 0) s m args below meth c s.heap [] 0 0 Q (F0 m 0 ls []) from (by rw [hQ] at hW; exact hW)
  unfold f_X10_readLink at hf
  have b164 : ∀ (x1 x2 x3 x4 s0 tokenStart0 tokenEnd0 token0 value0 error0 errorOffset0 : Int32) (draft2 linkFrom3 linkMinutes4 linkPrice5 linkTo6 : Nat → Int32) (H : Heap) (locs : List Loc) (ls : Array Slot), f_X10_readLink_b164 F textLength0 buffer1 x1 x2 x3 x4 s0 tokenStart0 tokenEnd0 token0 value0 error0 errorOffset0 draft2 linkFrom3 linkMinutes4 linkPrice5 linkTo6 = some (o_tokenStart0, o_tokenEnd0, o_token0, o_value0, o_error0, o_errorOffset0, o_draft2, o_linkFrom3, o_linkMinutes4, o_linkPrice5, o_linkTo6) → Wd g A (w_X10_readLink g h0 h1 h2 h3 h4 h5 h6 v0_0 v0_2 v0_10 v0_16 v0_17 v0_18 v0_19 v0_20 v0_21 v0_22 v0_23 v0_24 v0_25 v0_26 v0_27 v0_28 v0_29 v0_30 v0_31 v0_32 v0_33 v0_34 v0_35 v0_36 v0_37 textLength0 tokenStart0 tokenEnd0 token0 value0 error0 errorOffset0 buffer1 draft2 linkFrom3 linkMinutes4 linkPrice5 linkTo6) s.heap H locs → lv_has ls 6 [(0, .ref h0), (1, .int x1), (2, .int x2), (3, .int x3), (4, .int x4)] → W p l e (rml 3 0 0) s m args below meth c H locs 0 0 Q (F0 m 164 ls [.int s0]) := by
    intro x1 x2 x3 x4 s0 tokenStart0 tokenEnd0 token0 value0 error0 errorOffset0 draft2 linkFrom3 linkMinutes4 linkPrice5 linkTo6 H locs ls hf w hl
    unfold f_X10_readLink_b164 at hf
    refine lv_istore (lv' := [(5, .int s0), (0, .ref h0), (1, .int x1), (2, .int x2), (3, .int x3), (4, .int x4)]) hx hb dX10_readLink_164 hl (by decide) rfl (fun ls hl => ?_)
    refine lv_aload_n hx hb dX10_readLink_166 rfl (lv_at hl 1 rfl) ?_
    refine g_X10_126 C w 0 rfl rfl dX10_readLink_167 ?_
    refine lv_if_eq (tgt := 174) hx hb dX10_readLink_170 (by decide) (fun c1 => ?_) (fun c1 => ?_)
    · replace hf := it_t c1 hf
      refine lv_aload_n hx hb dX10_readLink_174 rfl (lv_at hl 1 rfl) ?_
      refine g_X10_20 C w 0 rfl rfl dX10_readLink_175 ?_
      refine lv_iload_n hx hb dX10_readLink_178 rfl (lv_at hl 2 rfl) ?_
      refine lv_iload_n hx hb dX10_readLink_179 rfl (lv_at hl 3 rfl) ?_
      obtain ⟨f2, hif2, haf2, hf⟩ := wr_some hf
      refine ias C w 3 rfl hif2 haf2 (ws2 := w_X10_readLink g h0 h1 h2 h3 h4 h5 h6 v0_0 v0_2 v0_10 v0_16 v0_17 v0_18 v0_19 v0_20 v0_21 v0_22 v0_23 v0_24 v0_25 v0_26 v0_27 v0_28 v0_29 v0_30 v0_31 v0_32 v0_33 v0_34 v0_35 v0_36 v0_37 textLength0 tokenStart0 tokenEnd0 token0 value0 error0 errorOffset0 buffer1 draft2 f2 linkMinutes4 linkPrice5 linkTo6) rfl dX10_readLink_180 (fun H locs w => ?_)
      refine lv_aload_n hx hb dX10_readLink_181 rfl (lv_at hl 1 rfl) ?_
      refine g_X10_23 C w 0 rfl rfl dX10_readLink_182 ?_
      refine lv_iload_n hx hb dX10_readLink_185 rfl (lv_at hl 2 rfl) ?_
      refine lv_iload_n hx hb dX10_readLink_186 rfl (lv_at hl 4 rfl) ?_
      obtain ⟨f3, hif3, haf3, hf⟩ := wr_some hf
      refine ias C w 6 rfl hif3 haf3 (ws2 := w_X10_readLink g h0 h1 h2 h3 h4 h5 h6 v0_0 v0_2 v0_10 v0_16 v0_17 v0_18 v0_19 v0_20 v0_21 v0_22 v0_23 v0_24 v0_25 v0_26 v0_27 v0_28 v0_29 v0_30 v0_31 v0_32 v0_33 v0_34 v0_35 v0_36 v0_37 textLength0 tokenStart0 tokenEnd0 token0 value0 error0 errorOffset0 buffer1 draft2 f2 linkMinutes4 linkPrice5 f3) rfl dX10_readLink_187 (fun H locs w => ?_)
      refine lv_aload_n hx hb dX10_readLink_188 rfl (lv_at hl 1 rfl) ?_
      refine g_X10_26 C w 0 rfl rfl dX10_readLink_189 ?_
      refine lv_iload_n hx hb dX10_readLink_192 rfl (lv_at hl 2 rfl) ?_
      refine lv_iload hx hb dX10_readLink_193 (lv_at hl 5 rfl) ?_
      obtain ⟨f4, hif4, haf4, hf⟩ := wr_some hf
      refine ias C w 4 rfl hif4 haf4 (ws2 := w_X10_readLink g h0 h1 h2 h3 h4 h5 h6 v0_0 v0_2 v0_10 v0_16 v0_17 v0_18 v0_19 v0_20 v0_21 v0_22 v0_23 v0_24 v0_25 v0_26 v0_27 v0_28 v0_29 v0_30 v0_31 v0_32 v0_33 v0_34 v0_35 v0_36 v0_37 textLength0 tokenStart0 tokenEnd0 token0 value0 error0 errorOffset0 buffer1 draft2 f2 f4 linkPrice5 f3) rfl dX10_readLink_195 (fun H locs w => ?_)
      refine lv_aload_n hx hb dX10_readLink_196 rfl (lv_at hl 1 rfl) ?_
      refine g_X10_29 C w 0 rfl rfl dX10_readLink_197 ?_
      refine lv_iload_n hx hb dX10_readLink_200 rfl (lv_at hl 2 rfl) ?_
      refine lv_iload hx hb dX10_readLink_201 (lv_at hl 0 rfl) ?_
      obtain ⟨f5, hif5, haf5, hf⟩ := wr_some hf
      refine ias C w 5 rfl hif5 haf5 (ws2 := w_X10_readLink g h0 h1 h2 h3 h4 h5 h6 v0_0 v0_2 v0_10 v0_16 v0_17 v0_18 v0_19 v0_20 v0_21 v0_22 v0_23 v0_24 v0_25 v0_26 v0_27 v0_28 v0_29 v0_30 v0_31 v0_32 v0_33 v0_34 v0_35 v0_36 v0_37 textLength0 tokenStart0 tokenEnd0 token0 value0 error0 errorOffset0 buffer1 draft2 f2 f4 f5 f3) rfl dX10_readLink_203 (fun H locs w => ?_)
      refine lv_aload_n hx hb dX10_readLink_204 rfl (lv_at hl 1 rfl) ?_
      refine g_X10_17 C w 0 rfl rfl dX10_readLink_205 ?_
      refine lv_iconst (v := 1) hx hb dX10_readLink_208 (by decide) ?_
      refine lv_dup2_11 hx hb dX10_readLink_209 rfl rfl ?_
      obtain ⟨a6, hia6, haa6, hf⟩ := rd_some hf
      refine ial C w 2 rfl hia6 haa6 dX10_readLink_210 ?_
      refine lv_iconst (v := 1) hx hb dX10_readLink_211 (by decide) ?_
      refine lv_iadd hx hb dX10_readLink_212 ?_
      obtain ⟨f7, hif7, haf7, hf⟩ := wr_some hf
      refine ias C w 2 rfl hif7 haf7 (ws2 := w_X10_readLink g h0 h1 h2 h3 h4 h5 h6 v0_0 v0_2 v0_10 v0_16 v0_17 v0_18 v0_19 v0_20 v0_21 v0_22 v0_23 v0_24 v0_25 v0_26 v0_27 v0_28 v0_29 v0_30 v0_31 v0_32 v0_33 v0_34 v0_35 v0_36 v0_37 textLength0 tokenStart0 tokenEnd0 token0 value0 error0 errorOffset0 buffer1 f7 f2 f4 f5 f3) rfl dX10_readLink_213 (fun H locs w => ?_)
      obtain ⟨e1, e2, e3, e4, e5, e6, e7, e8, e9, e10, e11⟩ := tp11 hf
      rw [hQ]
      exact rt_v C w rfl (fun _ => 0) (by rw [← e1, ← e2, ← e3, ← e4, ← e5, ← e6, ← e7, ← e8, ← e9, ← e10, ← e11]) dX10_readLink_214
    · replace hf := it_f c1 hf
      obtain ⟨e1, e2, e3, e4, e5, e6, e7, e8, e9, e10, e11⟩ := tp11 hf
      rw [hQ]
      exact rt_v C w rfl (fun _ => 0) (by rw [← e1, ← e2, ← e3, ← e4, ← e5, ← e6, ← e7, ← e8, ← e9, ← e10, ← e11]) dX10_readLink_173
  have b143 : ∀ (x1 x2 x3 s0 tokenStart0 tokenEnd0 token0 value0 error0 errorOffset0 : Int32) (draft2 linkFrom3 linkMinutes4 linkPrice5 linkTo6 : Nat → Int32) (H : Heap) (locs : List Loc) (ls : Array Slot), f_X10_readLink_b143 F textLength0 buffer1 x1 x2 x3 s0 tokenStart0 tokenEnd0 token0 value0 error0 errorOffset0 draft2 linkFrom3 linkMinutes4 linkPrice5 linkTo6 = some (o_tokenStart0, o_tokenEnd0, o_token0, o_value0, o_error0, o_errorOffset0, o_draft2, o_linkFrom3, o_linkMinutes4, o_linkPrice5, o_linkTo6) → Wd g A (w_X10_readLink g h0 h1 h2 h3 h4 h5 h6 v0_0 v0_2 v0_10 v0_16 v0_17 v0_18 v0_19 v0_20 v0_21 v0_22 v0_23 v0_24 v0_25 v0_26 v0_27 v0_28 v0_29 v0_30 v0_31 v0_32 v0_33 v0_34 v0_35 v0_36 v0_37 textLength0 tokenStart0 tokenEnd0 token0 value0 error0 errorOffset0 buffer1 draft2 linkFrom3 linkMinutes4 linkPrice5 linkTo6) s.heap H locs → lv_has ls 6 [(0, .ref h0), (1, .int x1), (2, .int x2), (3, .int x3)] → W p l e (rml 3 0 0) s m args below meth c H locs 0 0 Q (F0 m 143 ls [.int s0]) := by
    intro x1 x2 x3 s0 tokenStart0 tokenEnd0 token0 value0 error0 errorOffset0 draft2 linkFrom3 linkMinutes4 linkPrice5 linkTo6 H locs ls hf w hl
    unfold f_X10_readLink_b143 at hf
    refine lv_istore (lv' := [(4, .int s0), (0, .ref h0), (1, .int x1), (2, .int x2), (3, .int x3)]) hx hb dX10_readLink_143 hl (by decide) rfl (fun ls hl => ?_)
    refine lv_aload_n hx hb dX10_readLink_145 rfl (lv_at hl 1 rfl) ?_
    refine g_X10_126 C w 0 rfl rfl dX10_readLink_146 ?_
    refine lv_if_ne (tgt := 163) hx hb dX10_readLink_149 (by decide) (fun c8 => ?_) (fun c8 => ?_)
    · replace hf := it_f c8 hf
      refine lv_iconst (v := 0) hx hb dX10_readLink_163 (by decide) ?_
      exact b164 x1 x2 x3 s0 0 tokenStart0 tokenEnd0 token0 value0 error0 errorOffset0 draft2 linkFrom3 linkMinutes4 linkPrice5 linkTo6 _ _ _ hf w (lv_sub hl [1, 2, 3, 4, 0] rfl)
    · replace hf := it_t c8 hf
      refine lv_aload_n hx hb dX10_readLink_152 rfl (lv_at hl 1 rfl) ?_
      refine lv_iconst (v := 1) hx hb dX10_readLink_153 (by decide) ?_
      refine lv_sipush (v := 5000) hx hb dX10_readLink_154 (by decide) ?_
      obtain ⟨r9, o10, o11, o12, o13, o14, o15, hc16, hf⟩ := bd7_some hf
      refine ca_iV C w (wn := fun _ => w_X10_readLink g h0 h1 h2 h3 h4 h5 h6 v0_0 v0_2 v0_10 v0_16 v0_17 v0_18 v0_19 v0_20 v0_21 v0_22 v0_23 v0_24 v0_25 v0_26 v0_27 v0_28 v0_29 v0_30 v0_31 v0_32 v0_33 v0_34 v0_35 v0_36 v0_37 textLength0 o10 o11 o12 o13 o14 o15 buffer1 draft2 linkFrom3 linkMinutes4 linkPrice5 linkTo6) (pm_k [true, true, false, false, false, false, false] rfl rfl (fun _ => Nat.le_of_ble_eq_true rfl) (fun _ => rfl)) (c_X10_number l g F h0 h1 v0_0 v0_2 v0_10 (.ref h2) (.ref h3) (.ref h6) (.ref h4) (.ref h5) v0_16 v0_17 v0_18 v0_19 v0_20 v0_21 v0_22 v0_23 v0_24 v0_25 v0_26 v0_27 v0_28 v0_29 v0_30 v0_31 v0_32 v0_33 v0_34 v0_35 v0_36 v0_37 1 5000 textLength0 tokenStart0 tokenEnd0 token0 value0 error0 errorOffset0 buffer1 r9 o10 o11 o12 o13 o14 o15 _ hc16) k_X10_152 (rm_le (by decide) (by decide)) 0 10 rfl rfl rfl rfl hl.1 rfl (Nat.le_of_ble_eq_true rfl) dX10_readLink_157 ⟨Nat.le_of_ble_eq_true rfl, Nat.le_of_ble_eq_true rfl⟩ (cells2 := 0) (slots2 := 0) ⟨rfl, rfl⟩ (fun _ H locs w => ?_)
      refine lv_goto (tgt := 164) hx hb dX10_readLink_160 (by decide) ?_
      exact b164 x1 x2 x3 s0 r9 o10 o11 o12 o13 o14 o15 draft2 linkFrom3 linkMinutes4 linkPrice5 linkTo6 _ _ _ hf w (lv_sub hl [1, 2, 3, 4, 0] rfl)
  have b124 : ∀ (x1 x2 s0 tokenStart0 tokenEnd0 token0 value0 error0 errorOffset0 : Int32) (draft2 linkFrom3 linkMinutes4 linkPrice5 linkTo6 : Nat → Int32) (H : Heap) (locs : List Loc) (ls : Array Slot), f_X10_readLink_b124 F textLength0 buffer1 x1 x2 s0 tokenStart0 tokenEnd0 token0 value0 error0 errorOffset0 draft2 linkFrom3 linkMinutes4 linkPrice5 linkTo6 = some (o_tokenStart0, o_tokenEnd0, o_token0, o_value0, o_error0, o_errorOffset0, o_draft2, o_linkFrom3, o_linkMinutes4, o_linkPrice5, o_linkTo6) → Wd g A (w_X10_readLink g h0 h1 h2 h3 h4 h5 h6 v0_0 v0_2 v0_10 v0_16 v0_17 v0_18 v0_19 v0_20 v0_21 v0_22 v0_23 v0_24 v0_25 v0_26 v0_27 v0_28 v0_29 v0_30 v0_31 v0_32 v0_33 v0_34 v0_35 v0_36 v0_37 textLength0 tokenStart0 tokenEnd0 token0 value0 error0 errorOffset0 buffer1 draft2 linkFrom3 linkMinutes4 linkPrice5 linkTo6) s.heap H locs → lv_has ls 6 [(0, .ref h0), (1, .int x1), (2, .int x2)] → W p l e (rml 3 0 0) s m args below meth c H locs 0 0 Q (F0 m 124 ls [.int s0]) := by
    intro x1 x2 s0 tokenStart0 tokenEnd0 token0 value0 error0 errorOffset0 draft2 linkFrom3 linkMinutes4 linkPrice5 linkTo6 H locs ls hf w hl
    unfold f_X10_readLink_b124 at hf
    refine lv_istore_n (lv' := [(3, .int s0), (0, .ref h0), (1, .int x1), (2, .int x2)]) hx hb dX10_readLink_124 rfl hl (by decide) rfl (fun ls hl => ?_)
    refine lv_aload_n hx hb dX10_readLink_125 rfl (lv_at hl 1 rfl) ?_
    refine g_X10_126 C w 0 rfl rfl dX10_readLink_126 ?_
    refine lv_if_ne (tgt := 142) hx hb dX10_readLink_129 (by decide) (fun c17 => ?_) (fun c17 => ?_)
    · replace hf := it_f c17 hf
      refine lv_iconst (v := 0) hx hb dX10_readLink_142 (by decide) ?_
      exact b143 x1 x2 s0 0 tokenStart0 tokenEnd0 token0 value0 error0 errorOffset0 draft2 linkFrom3 linkMinutes4 linkPrice5 linkTo6 _ _ _ hf w (lv_sub hl [1, 2, 3, 0] rfl)
    · replace hf := it_t c17 hf
      refine lv_aload_n hx hb dX10_readLink_132 rfl (lv_at hl 1 rfl) ?_
      refine lv_iconst (v := 1) hx hb dX10_readLink_133 (by decide) ?_
      refine lv_bipush (v := 120) hx hb dX10_readLink_134 (by decide) ?_
      obtain ⟨r18, o19, o20, o21, o22, o23, o24, hc25, hf⟩ := bd7_some hf
      refine ca_iV C w (wn := fun _ => w_X10_readLink g h0 h1 h2 h3 h4 h5 h6 v0_0 v0_2 v0_10 v0_16 v0_17 v0_18 v0_19 v0_20 v0_21 v0_22 v0_23 v0_24 v0_25 v0_26 v0_27 v0_28 v0_29 v0_30 v0_31 v0_32 v0_33 v0_34 v0_35 v0_36 v0_37 textLength0 o19 o20 o21 o22 o23 o24 buffer1 draft2 linkFrom3 linkMinutes4 linkPrice5 linkTo6) (pm_k [true, true, false, false, false, false, false] rfl rfl (fun _ => Nat.le_of_ble_eq_true rfl) (fun _ => rfl)) (c_X10_number l g F h0 h1 v0_0 v0_2 v0_10 (.ref h2) (.ref h3) (.ref h6) (.ref h4) (.ref h5) v0_16 v0_17 v0_18 v0_19 v0_20 v0_21 v0_22 v0_23 v0_24 v0_25 v0_26 v0_27 v0_28 v0_29 v0_30 v0_31 v0_32 v0_33 v0_34 v0_35 v0_36 v0_37 1 120 textLength0 tokenStart0 tokenEnd0 token0 value0 error0 errorOffset0 buffer1 r18 o19 o20 o21 o22 o23 o24 _ hc25) k_X10_152 (rm_le (by decide) (by decide)) 0 10 rfl rfl rfl rfl hl.1 rfl (Nat.le_of_ble_eq_true rfl) dX10_readLink_136 ⟨Nat.le_of_ble_eq_true rfl, Nat.le_of_ble_eq_true rfl⟩ (cells2 := 0) (slots2 := 0) ⟨rfl, rfl⟩ (fun _ H locs w => ?_)
      refine lv_goto (tgt := 143) hx hb dX10_readLink_139 (by decide) ?_
      exact b143 x1 x2 s0 r18 o19 o20 o21 o22 o23 o24 draft2 linkFrom3 linkMinutes4 linkPrice5 linkTo6 _ _ _ hf w (lv_sub hl [1, 2, 3, 0] rfl)
  have b100 : ∀ (x1 x2 tokenStart0 tokenEnd0 token0 value0 error0 errorOffset0 : Int32) (draft2 linkFrom3 linkMinutes4 linkPrice5 linkTo6 : Nat → Int32) (H : Heap) (locs : List Loc) (ls : Array Slot), f_X10_readLink_b100 F textLength0 buffer1 x1 x2 tokenStart0 tokenEnd0 token0 value0 error0 errorOffset0 draft2 linkFrom3 linkMinutes4 linkPrice5 linkTo6 = some (o_tokenStart0, o_tokenEnd0, o_token0, o_value0, o_error0, o_errorOffset0, o_draft2, o_linkFrom3, o_linkMinutes4, o_linkPrice5, o_linkTo6) → Wd g A (w_X10_readLink g h0 h1 h2 h3 h4 h5 h6 v0_0 v0_2 v0_10 v0_16 v0_17 v0_18 v0_19 v0_20 v0_21 v0_22 v0_23 v0_24 v0_25 v0_26 v0_27 v0_28 v0_29 v0_30 v0_31 v0_32 v0_33 v0_34 v0_35 v0_36 v0_37 textLength0 tokenStart0 tokenEnd0 token0 value0 error0 errorOffset0 buffer1 draft2 linkFrom3 linkMinutes4 linkPrice5 linkTo6) s.heap H locs → lv_has ls 6 [(0, .ref h0), (1, .int x1), (2, .int x2)] → W p l e (rml 3 0 0) s m args below meth c H locs 0 0 Q (F0 m 100 ls []) := by
    intro x1 x2 tokenStart0 tokenEnd0 token0 value0 error0 errorOffset0 draft2 linkFrom3 linkMinutes4 linkPrice5 linkTo6 H locs ls hf w hl
    unfold f_X10_readLink_b100 at hf
    refine lv_aload_n hx hb dX10_readLink_100 rfl (lv_at hl 0 rfl) ?_
    refine g_X10_126 C w 0 rfl rfl dX10_readLink_101 ?_
    refine lv_if_ne (tgt := 123) hx hb dX10_readLink_104 (by decide) (fun c26 => ?_) (fun c26 => ?_)
    · replace hf := it_f c26 hf
      refine lv_iconst (v := 0) hx hb dX10_readLink_123 (by decide) ?_
      exact b124 x1 x2 0 tokenStart0 tokenEnd0 token0 value0 error0 errorOffset0 draft2 linkFrom3 linkMinutes4 linkPrice5 linkTo6 _ _ _ hf w (lv_sub hl [0, 1, 2] rfl)
    · replace hf := it_t c26 hf
      refine lv_aload_n hx hb dX10_readLink_107 rfl (lv_at hl 0 rfl) ?_
      refine lv_iconst (v := 0) hx hb dX10_readLink_108 (by decide) ?_
      refine lv_aload_n hx hb dX10_readLink_109 rfl (lv_at hl 0 rfl) ?_
      refine g_X10_17 C w 0 rfl rfl dX10_readLink_110 ?_
      refine lv_iconst (v := 0) hx hb dX10_readLink_113 (by decide) ?_
      obtain ⟨a27, hia27, haa27, hf⟩ := rd_some hf
      refine ial C w 2 rfl hia27 haa27 dX10_readLink_114 ?_
      refine lv_iconst (v := 1) hx hb dX10_readLink_115 (by decide) ?_
      refine lv_isub hx hb dX10_readLink_116 ?_
      obtain ⟨r28, o29, o30, o31, o32, o33, o34, hc35, hf⟩ := bd7_some hf
      refine ca_iV C w (wn := fun _ => w_X10_readLink g h0 h1 h2 h3 h4 h5 h6 v0_0 v0_2 v0_10 v0_16 v0_17 v0_18 v0_19 v0_20 v0_21 v0_22 v0_23 v0_24 v0_25 v0_26 v0_27 v0_28 v0_29 v0_30 v0_31 v0_32 v0_33 v0_34 v0_35 v0_36 v0_37 textLength0 o29 o30 o31 o32 o33 o34 buffer1 draft2 linkFrom3 linkMinutes4 linkPrice5 linkTo6) (pm_k [true, true, false, false, false, false, false] rfl rfl (fun _ => Nat.le_of_ble_eq_true rfl) (fun _ => rfl)) (c_X10_number l g F h0 h1 v0_0 v0_2 v0_10 (.ref h2) (.ref h3) (.ref h6) (.ref h4) (.ref h5) v0_16 v0_17 v0_18 v0_19 v0_20 v0_21 v0_22 v0_23 v0_24 v0_25 v0_26 v0_27 v0_28 v0_29 v0_30 v0_31 v0_32 v0_33 v0_34 v0_35 v0_36 v0_37 0 (a27 - 1) textLength0 tokenStart0 tokenEnd0 token0 value0 error0 errorOffset0 buffer1 r28 o29 o30 o31 o32 o33 o34 _ hc35) k_X10_152 (rm_le (by decide) (by decide)) 0 10 rfl rfl rfl rfl hl.1 rfl (Nat.le_of_ble_eq_true rfl) dX10_readLink_117 ⟨Nat.le_of_ble_eq_true rfl, Nat.le_of_ble_eq_true rfl⟩ (cells2 := 0) (slots2 := 0) ⟨rfl, rfl⟩ (fun _ H locs w => ?_)
      refine lv_goto (tgt := 124) hx hb dX10_readLink_120 (by decide) ?_
      exact b124 x1 x2 r28 o29 o30 o31 o32 o33 o34 draft2 linkFrom3 linkMinutes4 linkPrice5 linkTo6 _ _ _ hf w (lv_sub hl [0, 1, 2] rfl)
  have b95 : ∀ (x1 x2 s0 tokenStart0 tokenEnd0 token0 value0 error0 errorOffset0 : Int32) (draft2 linkFrom3 linkMinutes4 linkPrice5 linkTo6 : Nat → Int32) (H : Heap) (locs : List Loc) (ls : Array Slot), f_X10_readLink_b95 F textLength0 buffer1 x1 x2 s0 tokenStart0 tokenEnd0 token0 value0 error0 errorOffset0 draft2 linkFrom3 linkMinutes4 linkPrice5 linkTo6 = some (o_tokenStart0, o_tokenEnd0, o_token0, o_value0, o_error0, o_errorOffset0, o_draft2, o_linkFrom3, o_linkMinutes4, o_linkPrice5, o_linkTo6) → Wd g A (w_X10_readLink g h0 h1 h2 h3 h4 h5 h6 v0_0 v0_2 v0_10 v0_16 v0_17 v0_18 v0_19 v0_20 v0_21 v0_22 v0_23 v0_24 v0_25 v0_26 v0_27 v0_28 v0_29 v0_30 v0_31 v0_32 v0_33 v0_34 v0_35 v0_36 v0_37 textLength0 tokenStart0 tokenEnd0 token0 value0 error0 errorOffset0 buffer1 draft2 linkFrom3 linkMinutes4 linkPrice5 linkTo6) s.heap H locs → lv_has ls 6 [(0, .ref h0), (1, .int x1), (2, .int x2)] → W p l e (rml 3 0 0) s m args below meth c H locs 0 0 Q (F0 m 95 ls [.int s0, .ref h0]) := by
    intro x1 x2 s0 tokenStart0 tokenEnd0 token0 value0 error0 errorOffset0 draft2 linkFrom3 linkMinutes4 linkPrice5 linkTo6 H locs ls hf w hl
    unfold f_X10_readLink_b95 at hf
    refine lv_iconst (v := 3) hx hb dX10_readLink_95 (by decide) ?_
    obtain ⟨r36, o37, o38, hc39, hf⟩ := bd3_some hf
    refine ca_iV C w (wn := fun _ => w_X10_readLink g h0 h1 h2 h3 h4 h5 h6 v0_0 v0_2 v0_10 v0_16 v0_17 v0_18 v0_19 v0_20 v0_21 v0_22 v0_23 v0_24 v0_25 v0_26 v0_27 v0_28 v0_29 v0_30 v0_31 v0_32 v0_33 v0_34 v0_35 v0_36 v0_37 textLength0 tokenStart0 tokenEnd0 token0 value0 o37 o38 buffer1 draft2 linkFrom3 linkMinutes4 linkPrice5 linkTo6) (pm_k [true, false, false, false, false, false, false] rfl rfl (fun _ => Nat.le_of_ble_eq_true rfl) (fun _ => rfl)) (c_X10_must l g F h0 v0_0 (.ref h1) v0_2 (.int textLength0) (.int tokenEnd0) (.int token0) (.int value0) v0_10 (.ref h2) (.ref h3) (.ref h6) (.ref h4) (.ref h5) v0_16 v0_17 v0_18 v0_19 v0_20 v0_21 v0_22 v0_23 v0_24 v0_25 v0_26 v0_27 v0_28 v0_29 v0_30 v0_31 v0_32 v0_33 v0_34 v0_35 v0_36 v0_37 s0 3 tokenStart0 error0 errorOffset0 r36 o37 o38 _ hc39) k_X10_141 (rm_le (by decide) (by decide)) 0 10 rfl rfl rfl rfl hl.1 rfl (Nat.le_of_ble_eq_true rfl) dX10_readLink_96 ⟨Nat.le_of_ble_eq_true rfl, Nat.le_of_ble_eq_true rfl⟩ (cells2 := 0) (slots2 := 0) ⟨rfl, rfl⟩ (fun _ H locs w => ?_)
    refine lv_pop hx hb dX10_readLink_99 rfl ?_
    exact b100 x1 x2 tokenStart0 tokenEnd0 token0 value0 o37 o38 draft2 linkFrom3 linkMinutes4 linkPrice5 linkTo6 _ _ _ hf w (lv_sub hl [0, 1, 2] rfl)
  have b94 : ∀ (x1 x2 tokenStart0 tokenEnd0 token0 value0 error0 errorOffset0 : Int32) (draft2 linkFrom3 linkMinutes4 linkPrice5 linkTo6 : Nat → Int32) (H : Heap) (locs : List Loc) (ls : Array Slot), f_X10_readLink_b94 F textLength0 buffer1 x1 x2 tokenStart0 tokenEnd0 token0 value0 error0 errorOffset0 draft2 linkFrom3 linkMinutes4 linkPrice5 linkTo6 = some (o_tokenStart0, o_tokenEnd0, o_token0, o_value0, o_error0, o_errorOffset0, o_draft2, o_linkFrom3, o_linkMinutes4, o_linkPrice5, o_linkTo6) → Wd g A (w_X10_readLink g h0 h1 h2 h3 h4 h5 h6 v0_0 v0_2 v0_10 v0_16 v0_17 v0_18 v0_19 v0_20 v0_21 v0_22 v0_23 v0_24 v0_25 v0_26 v0_27 v0_28 v0_29 v0_30 v0_31 v0_32 v0_33 v0_34 v0_35 v0_36 v0_37 textLength0 tokenStart0 tokenEnd0 token0 value0 error0 errorOffset0 buffer1 draft2 linkFrom3 linkMinutes4 linkPrice5 linkTo6) s.heap H locs → lv_has ls 6 [(0, .ref h0), (1, .int x1), (2, .int x2)] → W p l e (rml 3 0 0) s m args below meth c H locs 0 0 Q (F0 m 94 ls [.ref h0]) := by
    intro x1 x2 tokenStart0 tokenEnd0 token0 value0 error0 errorOffset0 draft2 linkFrom3 linkMinutes4 linkPrice5 linkTo6 H locs ls hf w hl
    unfold f_X10_readLink_b94 at hf
    refine lv_iconst (v := 0) hx hb dX10_readLink_94 (by decide) ?_
    exact b95 x1 x2 0 tokenStart0 tokenEnd0 token0 value0 error0 errorOffset0 draft2 linkFrom3 linkMinutes4 linkPrice5 linkTo6 _ _ _ hf w (lv_sub hl [0, 1, 2] rfl)
  refine lv_aload_n hx hb dX10_readLink_0 rfl (lv_at hl 0 rfl) ?_
  refine lv_aload_n hx hb dX10_readLink_1 rfl (lv_at hl 0 rfl) ?_
  refine g_X10_17 C w 0 rfl rfl dX10_readLink_2 ?_
  refine lv_iconst (v := 1) hx hb dX10_readLink_5 (by decide) ?_
  obtain ⟨a40, hia40, haa40, hf⟩ := rd_some hf
  refine ial C w 2 rfl hia40 haa40 dX10_readLink_6 ?_
  refine lv_bipush (v := 24) hx hb dX10_readLink_7 (by decide) ?_
  obtain ⟨r41, o42, o43, o44, o45, o46, o47, hc48, hf⟩ := bd7_some hf
  refine ca_iV C w (wn := fun _ => w_X10_readLink g h0 h1 h2 h3 h4 h5 h6 v0_0 v0_2 v0_10 v0_16 v0_17 v0_18 v0_19 v0_20 v0_21 v0_22 v0_23 v0_24 v0_25 v0_26 v0_27 v0_28 v0_29 v0_30 v0_31 v0_32 v0_33 v0_34 v0_35 v0_36 v0_37 textLength0 o42 o43 o44 o45 o46 o47 buffer1 draft2 linkFrom3 linkMinutes4 linkPrice5 linkTo6) (pm_k [true, true, false, false, false, false, false] rfl rfl (fun _ => Nat.le_of_ble_eq_true rfl) (fun _ => rfl)) (c_X10_begins l g F h0 h1 v0_0 v0_2 v0_10 (.ref h2) (.ref h3) (.ref h6) (.ref h4) (.ref h5) v0_16 v0_17 v0_18 v0_19 v0_20 v0_21 v0_22 v0_23 v0_24 v0_25 v0_26 v0_27 v0_28 v0_29 v0_30 v0_31 v0_32 v0_33 v0_34 v0_35 v0_36 v0_37 a40 24 textLength0 tokenStart0 tokenEnd0 token0 value0 error0 errorOffset0 buffer1 r41 o42 o43 o44 o45 o46 o47 _ hc48) k_X10_148 (rm_le (by decide) (by decide)) 0 10 rfl rfl rfl rfl hl.1 rfl (Nat.le_of_ble_eq_true rfl) dX10_readLink_9 ⟨Nat.le_of_ble_eq_true rfl, Nat.le_of_ble_eq_true rfl⟩ (cells2 := 0) (slots2 := 0) ⟨rfl, rfl⟩ (fun _ H locs w => ?_)
  refine lv_if_ne (tgt := 16) hx hb dX10_readLink_12 (by decide) (fun c49 => ?_) (fun c49 => ?_)
  · replace hf := it_f c49 hf
    refine lv_bipush (v := 24) hx hb dX10_readLink_16 (by decide) ?_
    refine lv_aload_n hx hb dX10_readLink_18 rfl (lv_at hl 0 rfl) ?_
    refine g_X10_17 C w 0 rfl rfl dX10_readLink_19 ?_
    refine lv_iconst (v := 1) hx hb dX10_readLink_22 (by decide) ?_
    obtain ⟨a50, hia50, haa50, hf⟩ := rd_some hf
    refine ial C w 2 rfl hia50 haa50 dX10_readLink_23 ?_
    refine lv_iadd hx hb dX10_readLink_24 ?_
    refine lv_istore_n (lv' := [(1, .int (24 + a50)), (0, .ref h0)]) hx hb dX10_readLink_25 rfl hl (by decide) rfl (fun ls hl => ?_)
    refine lv_aload_n hx hb dX10_readLink_26 rfl (lv_at hl 1 rfl) ?_
    refine lv_iconst (v := 0) hx hb dX10_readLink_27 (by decide) ?_
    refine lv_aload_n hx hb dX10_readLink_28 rfl (lv_at hl 1 rfl) ?_
    refine g_X10_17 C w 0 rfl rfl dX10_readLink_29 ?_
    refine lv_iconst (v := 0) hx hb dX10_readLink_32 (by decide) ?_
    obtain ⟨a51, hia51, haa51, hf⟩ := rd_some hf
    refine ial C w 2 rfl hia51 haa51 dX10_readLink_33 ?_
    refine lv_iconst (v := 1) hx hb dX10_readLink_34 (by decide) ?_
    refine lv_isub hx hb dX10_readLink_35 ?_
    obtain ⟨r52, o53, o54, o55, o56, o57, o58, hc59, hf⟩ := bd7_some hf
    refine ca_iV C w (wn := fun _ => w_X10_readLink g h0 h1 h2 h3 h4 h5 h6 v0_0 v0_2 v0_10 v0_16 v0_17 v0_18 v0_19 v0_20 v0_21 v0_22 v0_23 v0_24 v0_25 v0_26 v0_27 v0_28 v0_29 v0_30 v0_31 v0_32 v0_33 v0_34 v0_35 v0_36 v0_37 textLength0 o53 o54 o55 o56 o57 o58 buffer1 draft2 linkFrom3 linkMinutes4 linkPrice5 linkTo6) (pm_k [true, true, false, false, false, false, false] rfl rfl (fun _ => Nat.le_of_ble_eq_true rfl) (fun _ => rfl)) (c_X10_number l g F h0 h1 v0_0 v0_2 v0_10 (.ref h2) (.ref h3) (.ref h6) (.ref h4) (.ref h5) v0_16 v0_17 v0_18 v0_19 v0_20 v0_21 v0_22 v0_23 v0_24 v0_25 v0_26 v0_27 v0_28 v0_29 v0_30 v0_31 v0_32 v0_33 v0_34 v0_35 v0_36 v0_37 0 (a51 - 1) textLength0 o42 o43 o44 o45 o46 o47 buffer1 r52 o53 o54 o55 o56 o57 o58 _ hc59) k_X10_152 (rm_le (by decide) (by decide)) 0 10 rfl rfl rfl rfl hl.1 rfl (Nat.le_of_ble_eq_true rfl) dX10_readLink_36 ⟨Nat.le_of_ble_eq_true rfl, Nat.le_of_ble_eq_true rfl⟩ (cells2 := 0) (slots2 := 0) ⟨rfl, rfl⟩ (fun _ H locs w => ?_)
    refine lv_istore_n (lv' := [(2, .int r52), (1, .int (24 + a50)), (0, .ref h0)]) hx hb dX10_readLink_39 rfl hl (by decide) rfl (fun ls hl => ?_)
    refine lv_aload_n hx hb dX10_readLink_40 rfl (lv_at hl 2 rfl) ?_
    refine g_X10_126 C w 0 rfl rfl dX10_readLink_41 ?_
    refine lv_if_eq (tgt := 48) hx hb dX10_readLink_44 (by decide) (fun c60 => ?_) (fun c60 => ?_)
    · replace hf := it_t c60 hf
      refine lv_aload_n hx hb dX10_readLink_48 rfl (lv_at hl 2 rfl) ?_
      refine g_X10_108 C w 0 rfl rfl dX10_readLink_49 ?_
      refine lv_iconst (v := 2) hx hb dX10_readLink_52 (by decide) ?_
      refine lv_icmp_ne (tgt := 100) hx hb dX10_readLink_53 (by decide) (fun c61 => ?_) (fun c61 => ?_)
      · replace hf := it_f c61 hf
        exact b100 (24 + a50) r52 o53 o54 o55 o56 o57 o58 draft2 linkFrom3 linkMinutes4 linkPrice5 linkTo6 _ _ _ hf w (lv_sub hl [2, 1, 0] rfl)
      · replace hf := it_t c61 hf
        refine lv_aload_n hx hb dX10_readLink_56 rfl (lv_at hl 2 rfl) ?_
        refine g_X10_123 C w 0 rfl rfl dX10_readLink_57 ?_
        refine lv_aload_n hx hb dX10_readLink_60 rfl (lv_at hl 2 rfl) ?_
        refine g_X10_17 C w 0 rfl rfl dX10_readLink_61 ?_
        refine lv_iconst (v := 0) hx hb dX10_readLink_64 (by decide) ?_
        obtain ⟨a62, hia62, haa62, hf⟩ := rd_some hf
        refine ial C w 2 rfl hia62 haa62 dX10_readLink_65 ?_
        refine lv_icmp_ge (tgt := 100) hx hb dX10_readLink_66 (by decide) (fun c63 => ?_) (fun c63 => ?_)
        · replace hf := it_t c63 hf
          exact b100 (24 + a50) r52 o53 o54 o55 o56 o57 o58 draft2 linkFrom3 linkMinutes4 linkPrice5 linkTo6 _ _ _ hf w (lv_sub hl [2, 1, 0] rfl)
        · replace hf := it_f c63 hf
          refine lv_aload_n hx hb dX10_readLink_69 rfl (lv_at hl 2 rfl) ?_
          refine lv_aload_n hx hb dX10_readLink_70 rfl (lv_at hl 2 rfl) ?_
          refine g_X10_123 C w 0 rfl rfl dX10_readLink_71 ?_
          refine lv_iload_n hx hb dX10_readLink_74 rfl (lv_at hl 0 rfl) ?_
          refine lv_icmp_eq (tgt := 94) hx hb dX10_readLink_75 (by decide) (fun c64 => ?_) (fun c64 => ?_)
          · replace hf := it_t c64 hf
            exact b94 (24 + a50) r52 o53 o54 o55 o56 o57 o58 draft2 linkFrom3 linkMinutes4 linkPrice5 linkTo6 _ _ _ hf w (lv_sub hl [2, 1, 0] rfl)
          · replace hf := it_f c64 hf
            refine lv_aload_n hx hb dX10_readLink_78 rfl (lv_at hl 2 rfl) ?_
            refine lv_iload_n hx hb dX10_readLink_79 rfl (lv_at hl 0 rfl) ?_
            refine lv_aload_n hx hb dX10_readLink_80 rfl (lv_at hl 2 rfl) ?_
            refine g_X10_123 C w 0 rfl rfl dX10_readLink_81 ?_
            obtain ⟨r65, hc66, hf⟩ := bd1_some hf
            refine ca_iV C w (wn := fun _ => w_X10_readLink g h0 h1 h2 h3 h4 h5 h6 v0_0 v0_2 v0_10 v0_16 v0_17 v0_18 v0_19 v0_20 v0_21 v0_22 v0_23 v0_24 v0_25 v0_26 v0_27 v0_28 v0_29 v0_30 v0_31 v0_32 v0_33 v0_34 v0_35 v0_36 v0_37 textLength0 o53 o54 o55 o56 o57 o58 buffer1 draft2 linkFrom3 linkMinutes4 linkPrice5 linkTo6) (pm_k [true, false, true, true, false, false, true] rfl rfl (fun _ => Nat.le_of_ble_eq_true rfl) (fun _ => rfl)) (c_X10_isLinked l g F h0 h2 h3 h6 v0_0 (.ref h1) v0_2 (.int textLength0) (.int o53) (.int o54) (.int o55) (.int o56) (.int o57) (.int o58) v0_10 (.ref h4) (.ref h5) v0_16 v0_17 v0_18 v0_19 v0_20 v0_21 v0_22 v0_23 v0_24 v0_25 v0_26 v0_27 v0_28 v0_29 v0_30 v0_31 v0_32 v0_33 v0_34 v0_35 v0_36 v0_37 r52 o56 draft2 linkFrom3 linkTo6 r65 _ hc66) k_X10_156 (rm_le (by decide) (by decide)) 0 10 rfl rfl rfl rfl hl.1 rfl (Nat.le_of_ble_eq_true rfl) dX10_readLink_84 ⟨Nat.le_of_ble_eq_true rfl, Nat.le_of_ble_eq_true rfl⟩ (cells2 := 0) (slots2 := 0) ⟨rfl, rfl⟩ (fun _ H locs w => ?_)
            refine lv_if_ne (tgt := 94) hx hb dX10_readLink_87 (by decide) (fun c67 => ?_) (fun c67 => ?_)
            · replace hf := it_f c67 hf
              exact b94 (24 + a50) r52 o53 o54 o55 o56 o57 o58 draft2 linkFrom3 linkMinutes4 linkPrice5 linkTo6 _ _ _ hf w (lv_sub hl [2, 1, 0] rfl)
            · replace hf := it_t c67 hf
              refine lv_iconst (v := 1) hx hb dX10_readLink_90 (by decide) ?_
              refine lv_goto (tgt := 95) hx hb dX10_readLink_91 (by decide) ?_
              exact b95 (24 + a50) r52 1 o53 o54 o55 o56 o57 o58 draft2 linkFrom3 linkMinutes4 linkPrice5 linkTo6 _ _ _ hf w (lv_sub hl [2, 1, 0] rfl)
    · replace hf := it_f c60 hf
      obtain ⟨e1, e2, e3, e4, e5, e6, e7, e8, e9, e10, e11⟩ := tp11 hf
      rw [hQ]
      exact rt_v C w rfl (fun _ => 0) (by rw [← e1, ← e2, ← e3, ← e4, ← e5, ← e6, ← e7, ← e8, ← e9, ← e10, ← e11]) dX10_readLink_47
  · replace hf := it_t c49 hf
    obtain ⟨e1, e2, e3, e4, e5, e6, e7, e8, e9, e10, e11⟩ := tp11 hf
    rw [hQ]
    exact rt_v C w rfl (fun _ => 0) (by rw [← e1, ← e2, ← e3, ← e4, ← e5, ← e6, ← e7, ← e8, ← e9, ← e10, ← e11]) dX10_readLink_15

theorem dX10_readClass_0 : decode cX10_readClass 0 = .ok (.aload_n 0, 1) := by decide +kernel
theorem dX10_readClass_1 : decode cX10_readClass 1 = .ok (.aload_n 0, 1) := by decide +kernel
theorem dX10_readClass_2 : decode cX10_readClass 2 = .ok (.getfield 17, 3) := by decide +kernel
theorem dX10_readClass_5 : decode cX10_readClass 5 = .ok (.iconst 2, 1) := by decide +kernel
theorem dX10_readClass_6 : decode cX10_readClass 6 = .ok (.iaload, 1) := by decide +kernel
theorem dX10_readClass_7 : decode cX10_readClass 7 = .ok (.iconst 4, 1) := by decide +kernel
theorem dX10_readClass_8 : decode cX10_readClass 8 = .ok (.invokevirtual 148, 3) := by decide +kernel
theorem dX10_readClass_11 : decode cX10_readClass 11 = .ok (.ifCond .ne 4, 3) := by decide +kernel
theorem dX10_readClass_14 : decode cX10_readClass 14 = .ok (.return_, 1) := by decide +kernel
theorem dX10_readClass_15 : decode cX10_readClass 15 = .ok (.iconst 4, 1) := by decide +kernel
theorem dX10_readClass_16 : decode cX10_readClass 16 = .ok (.aload_n 0, 1) := by decide +kernel
theorem dX10_readClass_17 : decode cX10_readClass 17 = .ok (.getfield 17, 3) := by decide +kernel
theorem dX10_readClass_20 : decode cX10_readClass 20 = .ok (.iconst 2, 1) := by decide +kernel
theorem dX10_readClass_21 : decode cX10_readClass 21 = .ok (.iaload, 1) := by decide +kernel
theorem dX10_readClass_22 : decode cX10_readClass 22 = .ok (.iadd, 1) := by decide +kernel
theorem dX10_readClass_23 : decode cX10_readClass 23 = .ok (.istore_n 1, 1) := by decide +kernel
theorem dX10_readClass_24 : decode cX10_readClass 24 = .ok (.aload_n 0, 1) := by decide +kernel
theorem dX10_readClass_25 : decode cX10_readClass 25 = .ok (.aload_n 0, 1) := by decide +kernel
theorem dX10_readClass_26 : decode cX10_readClass 26 = .ok (.getfield 17, 3) := by decide +kernel
theorem dX10_readClass_29 : decode cX10_readClass 29 = .ok (.iconst 2, 1) := by decide +kernel
theorem dX10_readClass_30 : decode cX10_readClass 30 = .ok (.iaload, 1) := by decide +kernel
theorem dX10_readClass_31 : decode cX10_readClass 31 = .ok (.ifCond .ne 7, 3) := by decide +kernel
theorem dX10_readClass_34 : decode cX10_readClass 34 = .ok (.iconst 2, 1) := by decide +kernel
theorem dX10_readClass_35 : decode cX10_readClass 35 = .ok (.goto 13, 3) := by decide +kernel
theorem dX10_readClass_38 : decode cX10_readClass 38 = .ok (.aload_n 0, 1) := by decide +kernel
theorem dX10_readClass_39 : decode cX10_readClass 39 = .ok (.getfield 32, 3) := by decide +kernel
theorem dX10_readClass_42 : decode cX10_readClass 42 = .ok (.iload_n 1, 1) := by decide +kernel
theorem dX10_readClass_43 : decode cX10_readClass 43 = .ok (.iconst 1, 1) := by decide +kernel
theorem dX10_readClass_44 : decode cX10_readClass 44 = .ok (.isub, 1) := by decide +kernel
theorem dX10_readClass_45 : decode cX10_readClass 45 = .ok (.iaload, 1) := by decide +kernel
theorem dX10_readClass_46 : decode cX10_readClass 46 = .ok (.iconst 1, 1) := by decide +kernel
theorem dX10_readClass_47 : decode cX10_readClass 47 = .ok (.iadd, 1) := by decide +kernel
theorem dX10_readClass_48 : decode cX10_readClass 48 = .ok (.bipush 9, 2) := by decide +kernel
theorem dX10_readClass_50 : decode cX10_readClass 50 = .ok (.invokevirtual 152, 3) := by decide +kernel
theorem dX10_readClass_53 : decode cX10_readClass 53 = .ok (.istore_n 2, 1) := by decide +kernel
theorem dX10_readClass_54 : decode cX10_readClass 54 = .ok (.aload_n 0, 1) := by decide +kernel
theorem dX10_readClass_55 : decode cX10_readClass 55 = .ok (.getfield 126, 3) := by decide +kernel
theorem dX10_readClass_58 : decode cX10_readClass 58 = .ok (.ifCond .ne 14, 3) := by decide +kernel
theorem dX10_readClass_61 : decode cX10_readClass 61 = .ok (.aload_n 0, 1) := by decide +kernel
theorem dX10_readClass_62 : decode cX10_readClass 62 = .ok (.iconst 1, 1) := by decide +kernel
theorem dX10_readClass_63 : decode cX10_readClass 63 = .ok (.sipush 900, 3) := by decide +kernel
theorem dX10_readClass_66 : decode cX10_readClass 66 = .ok (.invokevirtual 152, 3) := by decide +kernel
theorem dX10_readClass_69 : decode cX10_readClass 69 = .ok (.goto 4, 3) := by decide +kernel
theorem dX10_readClass_72 : decode cX10_readClass 72 = .ok (.iconst 0, 1) := by decide +kernel
theorem dX10_readClass_73 : decode cX10_readClass 73 = .ok (.istore_n 3, 1) := by decide +kernel
theorem dX10_readClass_74 : decode cX10_readClass 74 = .ok (.aload_n 0, 1) := by decide +kernel
theorem dX10_readClass_75 : decode cX10_readClass 75 = .ok (.getfield 126, 3) := by decide +kernel
theorem dX10_readClass_78 : decode cX10_readClass 78 = .ok (.ifCond .eq 4, 3) := by decide +kernel
theorem dX10_readClass_81 : decode cX10_readClass 81 = .ok (.return_, 1) := by decide +kernel
theorem dX10_readClass_82 : decode cX10_readClass 82 = .ok (.aload_n 0, 1) := by decide +kernel
theorem dX10_readClass_83 : decode cX10_readClass 83 = .ok (.getfield 32, 3) := by decide +kernel
theorem dX10_readClass_86 : decode cX10_readClass 86 = .ok (.iload_n 1, 1) := by decide +kernel
theorem dX10_readClass_87 : decode cX10_readClass 87 = .ok (.iload_n 2, 1) := by decide +kernel
theorem dX10_readClass_88 : decode cX10_readClass 88 = .ok (.iastore, 1) := by decide +kernel
theorem dX10_readClass_89 : decode cX10_readClass 89 = .ok (.aload_n 0, 1) := by decide +kernel
theorem dX10_readClass_90 : decode cX10_readClass 90 = .ok (.getfield 35, 3) := by decide +kernel
theorem dX10_readClass_93 : decode cX10_readClass 93 = .ok (.iload_n 1, 1) := by decide +kernel
theorem dX10_readClass_94 : decode cX10_readClass 94 = .ok (.iload_n 3, 1) := by decide +kernel
theorem dX10_readClass_95 : decode cX10_readClass 95 = .ok (.iastore, 1) := by decide +kernel
theorem dX10_readClass_96 : decode cX10_readClass 96 = .ok (.aload_n 0, 1) := by decide +kernel
theorem dX10_readClass_97 : decode cX10_readClass 97 = .ok (.getfield 17, 3) := by decide +kernel
theorem dX10_readClass_100 : decode cX10_readClass 100 = .ok (.iconst 2, 1) := by decide +kernel
theorem dX10_readClass_101 : decode cX10_readClass 101 = .ok (.dup2, 1) := by decide +kernel
theorem dX10_readClass_102 : decode cX10_readClass 102 = .ok (.iaload, 1) := by decide +kernel
theorem dX10_readClass_103 : decode cX10_readClass 103 = .ok (.iconst 1, 1) := by decide +kernel
theorem dX10_readClass_104 : decode cX10_readClass 104 = .ok (.iadd, 1) := by decide +kernel
theorem dX10_readClass_105 : decode cX10_readClass 105 = .ok (.iastore, 1) := by decide +kernel
theorem dX10_readClass_106 : decode cX10_readClass 106 = .ok (.return_, 1) := by decide +kernel
abbrev m_X10_readClass : MD := (yX10_readClass, cX10_readClass, 4, none)
theorem g_X10_32 {p : Program} {l : Launch} {e : Env} {R : Room} {s : State} {m : MethodId} {args : Array Value} {below : List Frame} {meth : Method} {c : Code} {H : Heap} {locs : List Loc} {cells slots : Nat} {Q : State → Prop} {d : MD} {g : GT} {A : Nat → Prop} {ws : va_W} {pc : Nat} {ls : Array Slot} {rest : List Value} (C : Cx p s m args meth c RX10 d g A) (w : Wd g A ws s.heap H locs) (q0 : Nat) {a : Nat} {fs : List Value} {v : Value} (he : ws[q0]? = some (a, .inr (10, fs))) (hv : fs[16]? = some v) (hd : decode d.2.1 pc = .ok (.getfield 32, 3)) (kk : W p l e R s m args below meth c H locs cells slots Q (F0 m (pc + 3) ls (v :: rest))) : W p l e R s m args below meth c H locs cells slots Q (F0 m pc ls (.ref a :: rest)) := fg C w inX10s (ref := RX10) rfl 16 (by decide) (ts_t (w := Cond.fieldLink RX10 32 RX10 (TX10 16).2.1 (TX10 16).2.2.1) 1238 (by decide +kernel) (by decide +kernel)) rfl q0 he hv hd kk
theorem g_X10_35 {p : Program} {l : Launch} {e : Env} {R : Room} {s : State} {m : MethodId} {args : Array Value} {below : List Frame} {meth : Method} {c : Code} {H : Heap} {locs : List Loc} {cells slots : Nat} {Q : State → Prop} {d : MD} {g : GT} {A : Nat → Prop} {ws : va_W} {pc : Nat} {ls : Array Slot} {rest : List Value} (C : Cx p s m args meth c RX10 d g A) (w : Wd g A ws s.heap H locs) (q0 : Nat) {a : Nat} {fs : List Value} {v : Value} (he : ws[q0]? = some (a, .inr (10, fs))) (hv : fs[17]? = some v) (hd : decode d.2.1 pc = .ok (.getfield 35, 3)) (kk : W p l e R s m args below meth c H locs cells slots Q (F0 m (pc + 3) ls (v :: rest))) : W p l e R s m args below meth c H locs cells slots Q (F0 m pc ls (.ref a :: rest)) := fg C w inX10s (ref := RX10) rfl 17 (by decide) (ts_t (w := Cond.fieldLink RX10 35 RX10 (TX10 17).2.1 (TX10 17).2.2.1) 1239 (by decide +kernel) (by decide +kernel)) rfl q0 he hv hd kk
abbrev w_X10_readClass (g : GT) (h0 h1 h2 h3 h4 : Nat) (v0_0 v0_2 v0_10 v0_12 v0_13 v0_14 v0_15 v0_18 v0_19 v0_20 v0_21 v0_22 v0_23 v0_24 v0_25 v0_26 v0_27 v0_28 v0_29 v0_30 v0_31 v0_32 v0_33 v0_34 v0_35 v0_36 v0_37 : Value) (textLength0 tokenStart0 tokenEnd0 token0 value0 error0 errorOffset0 : Int32) (buffer1 classAxles2 classPercent3 draft4 : Nat → Int32) : va_W := [(h0, .inr (10, [v0_0, .ref h1, v0_2, .int textLength0, .int tokenStart0, .int tokenEnd0, .int token0, .int value0, .int error0, .int errorOffset0, v0_10, .ref h4, v0_12, v0_13, v0_14, v0_15, .ref h2, .ref h3, v0_18, v0_19, v0_20, v0_21, v0_22, v0_23, v0_24, v0_25, v0_26, v0_27, v0_28, v0_29, v0_30, v0_31, v0_32, v0_33, v0_34, v0_35, v0_36, v0_37])), (h1, aB g 900 buffer1), (h2, aI g 8 classAxles2), (h3, aI g 8 classPercent3), (h4, aI g 7 draft4)]
def f_X10_readClass_b73 (F : Nat) (textLength0 : Int32) (buffer1 : Nat → Int32) (x1 x2 s0 tokenStart0 tokenEnd0 token0 value0 error0 errorOffset0 : Int32) (classAxles2 classPercent3 draft4 : Nat → Int32) : Option (Int32 × Int32 × Int32 × Int32 × Int32 × Int32 × (Nat → Int32) × (Nat → Int32) × (Nat → Int32)) :=
  if error0 = 0 then
    wr classAxles2 8 x1 x2 fun f2 =>
    wr classPercent3 8 x1 s0 fun f3 =>
    rd draft4 7 2 fun a4 =>
    wr draft4 7 2 (a4 + 1) fun f5 =>
    some (tokenStart0, tokenEnd0, token0, value0, error0, errorOffset0, f2, f3, f5)
  else
    some (tokenStart0, tokenEnd0, token0, value0, error0, errorOffset0, classAxles2, classPercent3, draft4)
def f_X10_readClass_b48 (F : Nat) (textLength0 : Int32) (buffer1 : Nat → Int32) (x1 s0 tokenStart0 tokenEnd0 token0 value0 error0 errorOffset0 : Int32) (classAxles2 classPercent3 draft4 : Nat → Int32) : Option (Int32 × Int32 × Int32 × Int32 × Int32 × Int32 × (Nat → Int32) × (Nat → Int32) × (Nat → Int32)) :=
  bd7 (f_X10_number F s0 9 textLength0 tokenStart0 tokenEnd0 token0 value0 error0 errorOffset0 buffer1) fun r6 o7 o8 o9 o10 o11 o12 =>
  if o11 = 0 then
    bd7 (f_X10_number F 1 900 textLength0 o7 o8 o9 o10 o11 o12 buffer1) fun r15 o16 o17 o18 o19 o20 o21 =>
    f_X10_readClass_b73 F textLength0 buffer1 x1 r6 r15 o16 o17 o18 o19 o20 o21 classAxles2 classPercent3 draft4
  else
    f_X10_readClass_b73 F textLength0 buffer1 x1 r6 0 o7 o8 o9 o10 o11 o12 classAxles2 classPercent3 draft4
def f_X10_readClass (F : Nat) (textLength0 tokenStart0 tokenEnd0 token0 value0 error0 errorOffset0 : Int32) (buffer1 classAxles2 classPercent3 draft4 : Nat → Int32) : Option (Int32 × Int32 × Int32 × Int32 × Int32 × Int32 × (Nat → Int32) × (Nat → Int32) × (Nat → Int32)) :=
  rd draft4 7 2 fun a23 =>
  bd7 (f_X10_begins F a23 4 textLength0 tokenStart0 tokenEnd0 token0 value0 error0 errorOffset0 buffer1) fun r24 o25 o26 o27 o28 o29 o30 =>
  if r24 = 0 then
    some (o25, o26, o27, o28, o29, o30, classAxles2, classPercent3, draft4)
  else
    rd draft4 7 2 fun a33 =>
    rd draft4 7 2 fun a34 =>
    if a34 = 0 then
      f_X10_readClass_b48 F textLength0 buffer1 (4 + a33) 2 o25 o26 o27 o28 o29 o30 classAxles2 classPercent3 draft4
    else
      rd classAxles2 8 ((4 + a33) - 1) fun a36 =>
      f_X10_readClass_b48 F textLength0 buffer1 (4 + a33) (a36 + 1) o25 o26 o27 o28 o29 o30 classAxles2 classPercent3 draft4
set_option maxHeartbeats 4000000 in
set_option maxRecDepth 100000 in
theorem c_X10_readClass (l : Launch) (g : GT) (F : Nat) (h0 h1 h2 h3 h4 : Nat) (v0_0 v0_2 v0_10 v0_12 v0_13 v0_14 v0_15 v0_18 v0_19 v0_20 v0_21 v0_22 v0_23 v0_24 v0_25 v0_26 v0_27 v0_28 v0_29 v0_30 v0_31 v0_32 v0_33 v0_34 v0_35 v0_36 v0_37 : Value) (textLength0 tokenStart0 tokenEnd0 token0 value0 error0 errorOffset0 : Int32) (buffer1 classAxles2 classPercent3 draft4 : Nat → Int32) (o_tokenStart0 o_tokenEnd0 o_token0 o_value0 o_error0 o_errorOffset0 : Int32) (o_classAxles2 o_classPercent3 o_draft4 : Nat → Int32) (sz : Nat) (hf : f_X10_readClass F textLength0 tokenStart0 tokenEnd0 token0 value0 error0 errorOffset0 buffer1 classAxles2 classPercent3 draft4 = some (o_tokenStart0, o_tokenEnd0, o_token0, o_value0, o_error0, o_errorOffset0, o_classAxles2, o_classPercent3, o_draft4)) : CV l m_X10_readClass (rml 3 0 0) g (w_X10_readClass g h0 h1 h2 h3 h4 v0_0 v0_2 v0_10 v0_12 v0_13 v0_14 v0_15 v0_18 v0_19 v0_20 v0_21 v0_22 v0_23 v0_24 v0_25 v0_26 v0_27 v0_28 v0_29 v0_30 v0_31 v0_32 v0_33 v0_34 v0_35 v0_36 v0_37 textLength0 tokenStart0 tokenEnd0 token0 value0 error0 errorOffset0 buffer1 classAxles2 classPercent3 draft4) (fun _ => w_X10_readClass g h0 h1 h2 h3 h4 v0_0 v0_2 v0_10 v0_12 v0_13 v0_14 v0_15 v0_18 v0_19 v0_20 v0_21 v0_22 v0_23 v0_24 v0_25 v0_26 v0_27 v0_28 v0_29 v0_30 v0_31 v0_32 v0_33 v0_34 v0_35 v0_36 v0_37 textLength0 o_tokenStart0 o_tokenEnd0 o_token0 o_value0 o_error0 o_errorOffset0 buffer1 o_classAxles2 o_classPercent3 o_draft4) sz [.ref h0] := by
  refine en_v (by decide) (Nat.le_of_ble_eq_true rfl) (fun p e s m args below meth c A ls C w hl => ?_)
  have C : Cx p s m args meth c RX10 m_X10_readClass g A := C
  have hx := C.1
  have hb : c.code = cX10_readClass := C.2.1
  have hl : lv_has ls 4 [(0, .ref h0)] := hl
  obtain ⟨Q, hQ⟩ : ∃ Q, Q = QV below args s g A (fun _ => w_X10_readClass g h0 h1 h2 h3 h4 v0_0 v0_2 v0_10 v0_12 v0_13 v0_14 v0_15 v0_18 v0_19 v0_20 v0_21 v0_22 v0_23 v0_24 v0_25 v0_26 v0_27 v0_28 v0_29 v0_30 v0_31 v0_32 v0_33 v0_34 v0_35 v0_36 v0_37 textLength0 o_tokenStart0 o_tokenEnd0 o_token0 o_value0 o_error0 o_errorOffset0 buffer1 o_classAxles2 o_classPercent3 o_draft4) 0 0 := ⟨_, rfl⟩
  suffices hW : W p l e (rml 3 0 0) s m args below meth c s.heap [] 0 0 Q (F0 m 0 ls []) from (by rw [hQ] at hW; exact hW)
  unfold f_X10_readClass at hf
  have b73 : ∀ (x1 x2 s0 tokenStart0 tokenEnd0 token0 value0 error0 errorOffset0 : Int32) (classAxles2 classPercent3 draft4 : Nat → Int32) (H : Heap) (locs : List Loc) (ls : Array Slot), f_X10_readClass_b73 F textLength0 buffer1 x1 x2 s0 tokenStart0 tokenEnd0 token0 value0 error0 errorOffset0 classAxles2 classPercent3 draft4 = some (o_tokenStart0, o_tokenEnd0, o_token0, o_value0, o_error0, o_errorOffset0, o_classAxles2, o_classPercent3, o_draft4) → Wd g A (w_X10_readClass g h0 h1 h2 h3 h4 v0_0 v0_2 v0_10 v0_12 v0_13 v0_14 v0_15 v0_18 v0_19 v0_20 v0_21 v0_22 v0_23 v0_24 v0_25 v0_26 v0_27 v0_28 v0_29 v0_30 v0_31 v0_32 v0_33 v0_34 v0_35 v0_36 v0_37 textLength0 tokenStart0 tokenEnd0 token0 value0 error0 errorOffset0 buffer1 classAxles2 classPercent3 draft4) s.heap H locs → lv_has ls 4 [(0, .ref h0), (1, .int x1), (2, .int x2)] → W p l e (rml 3 0 0) s m args below meth c H locs 0 0 Q (F0 m 73 ls [.int s0]) := by
    intro x1 x2 s0 tokenStart0 tokenEnd0 token0 value0 error0 errorOffset0 classAxles2 classPercent3 draft4 H locs ls hf w hl
    unfold f_X10_readClass_b73 at hf
    refine lv_istore_n (lv' := [(3, .int s0), (0, .ref h0), (1, .int x1), (2, .int x2)]) hx hb dX10_readClass_73 rfl hl (by decide) rfl (fun ls hl => ?_)
    refine lv_aload_n hx hb dX10_readClass_74 rfl (lv_at hl 1 rfl) ?_
    refine g_X10_126 C w 0 rfl rfl dX10_readClass_75 ?_
    refine lv_if_eq (tgt := 82) hx hb dX10_readClass_78 (by decide) (fun c1 => ?_) (fun c1 => ?_)
    · replace hf := it_t c1 hf
      refine lv_aload_n hx hb dX10_readClass_82 rfl (lv_at hl 1 rfl) ?_
      refine g_X10_32 C w 0 rfl rfl dX10_readClass_83 ?_
      refine lv_iload_n hx hb dX10_readClass_86 rfl (lv_at hl 2 rfl) ?_
      refine lv_iload_n hx hb dX10_readClass_87 rfl (lv_at hl 3 rfl) ?_
      obtain ⟨f2, hif2, haf2, hf⟩ := wr_some hf
      refine ias C w 2 rfl hif2 haf2 (ws2 := w_X10_readClass g h0 h1 h2 h3 h4 v0_0 v0_2 v0_10 v0_12 v0_13 v0_14 v0_15 v0_18 v0_19 v0_20 v0_21 v0_22 v0_23 v0_24 v0_25 v0_26 v0_27 v0_28 v0_29 v0_30 v0_31 v0_32 v0_33 v0_34 v0_35 v0_36 v0_37 textLength0 tokenStart0 tokenEnd0 token0 value0 error0 errorOffset0 buffer1 f2 classPercent3 draft4) rfl dX10_readClass_88 (fun H locs w => ?_)
      refine lv_aload_n hx hb dX10_readClass_89 rfl (lv_at hl 1 rfl) ?_
      refine g_X10_35 C w 0 rfl rfl dX10_readClass_90 ?_
      refine lv_iload_n hx hb dX10_readClass_93 rfl (lv_at hl 2 rfl) ?_
      refine lv_iload_n hx hb dX10_readClass_94 rfl (lv_at hl 0 rfl) ?_
      obtain ⟨f3, hif3, haf3, hf⟩ := wr_some hf
      refine ias C w 3 rfl hif3 haf3 (ws2 := w_X10_readClass g h0 h1 h2 h3 h4 v0_0 v0_2 v0_10 v0_12 v0_13 v0_14 v0_15 v0_18 v0_19 v0_20 v0_21 v0_22 v0_23 v0_24 v0_25 v0_26 v0_27 v0_28 v0_29 v0_30 v0_31 v0_32 v0_33 v0_34 v0_35 v0_36 v0_37 textLength0 tokenStart0 tokenEnd0 token0 value0 error0 errorOffset0 buffer1 f2 f3 draft4) rfl dX10_readClass_95 (fun H locs w => ?_)
      refine lv_aload_n hx hb dX10_readClass_96 rfl (lv_at hl 1 rfl) ?_
      refine g_X10_17 C w 0 rfl rfl dX10_readClass_97 ?_
      refine lv_iconst (v := 2) hx hb dX10_readClass_100 (by decide) ?_
      refine lv_dup2_11 hx hb dX10_readClass_101 rfl rfl ?_
      obtain ⟨a4, hia4, haa4, hf⟩ := rd_some hf
      refine ial C w 4 rfl hia4 haa4 dX10_readClass_102 ?_
      refine lv_iconst (v := 1) hx hb dX10_readClass_103 (by decide) ?_
      refine lv_iadd hx hb dX10_readClass_104 ?_
      obtain ⟨f5, hif5, haf5, hf⟩ := wr_some hf
      refine ias C w 4 rfl hif5 haf5 (ws2 := w_X10_readClass g h0 h1 h2 h3 h4 v0_0 v0_2 v0_10 v0_12 v0_13 v0_14 v0_15 v0_18 v0_19 v0_20 v0_21 v0_22 v0_23 v0_24 v0_25 v0_26 v0_27 v0_28 v0_29 v0_30 v0_31 v0_32 v0_33 v0_34 v0_35 v0_36 v0_37 textLength0 tokenStart0 tokenEnd0 token0 value0 error0 errorOffset0 buffer1 f2 f3 f5) rfl dX10_readClass_105 (fun H locs w => ?_)
      obtain ⟨e1, e2, e3, e4, e5, e6, e7, e8, e9⟩ := tp9 hf
      rw [hQ]
      exact rt_v C w rfl (fun _ => 0) (by rw [← e1, ← e2, ← e3, ← e4, ← e5, ← e6, ← e7, ← e8, ← e9]) dX10_readClass_106
    · replace hf := it_f c1 hf
      obtain ⟨e1, e2, e3, e4, e5, e6, e7, e8, e9⟩ := tp9 hf
      rw [hQ]
      exact rt_v C w rfl (fun _ => 0) (by rw [← e1, ← e2, ← e3, ← e4, ← e5, ← e6, ← e7, ← e8, ← e9]) dX10_readClass_81
  have b48 : ∀ (x1 s0 tokenStart0 tokenEnd0 token0 value0 error0 errorOffset0 : Int32) (classAxles2 classPercent3 draft4 : Nat → Int32) (H : Heap) (locs : List Loc) (ls : Array Slot), f_X10_readClass_b48 F textLength0 buffer1 x1 s0 tokenStart0 tokenEnd0 token0 value0 error0 errorOffset0 classAxles2 classPercent3 draft4 = some (o_tokenStart0, o_tokenEnd0, o_token0, o_value0, o_error0, o_errorOffset0, o_classAxles2, o_classPercent3, o_draft4) → Wd g A (w_X10_readClass g h0 h1 h2 h3 h4 v0_0 v0_2 v0_10 v0_12 v0_13 v0_14 v0_15 v0_18 v0_19 v0_20 v0_21 v0_22 v0_23 v0_24 v0_25 v0_26 v0_27 v0_28 v0_29 v0_30 v0_31 v0_32 v0_33 v0_34 v0_35 v0_36 v0_37 textLength0 tokenStart0 tokenEnd0 token0 value0 error0 errorOffset0 buffer1 classAxles2 classPercent3 draft4) s.heap H locs → lv_has ls 4 [(0, .ref h0), (1, .int x1)] → W p l e (rml 3 0 0) s m args below meth c H locs 0 0 Q (F0 m 48 ls [.int s0, .ref h0]) := by
    intro x1 s0 tokenStart0 tokenEnd0 token0 value0 error0 errorOffset0 classAxles2 classPercent3 draft4 H locs ls hf w hl
    unfold f_X10_readClass_b48 at hf
    refine lv_bipush (v := 9) hx hb dX10_readClass_48 (by decide) ?_
    obtain ⟨r6, o7, o8, o9, o10, o11, o12, hc13, hf⟩ := bd7_some hf
    refine ca_iV C w (wn := fun _ => w_X10_readClass g h0 h1 h2 h3 h4 v0_0 v0_2 v0_10 v0_12 v0_13 v0_14 v0_15 v0_18 v0_19 v0_20 v0_21 v0_22 v0_23 v0_24 v0_25 v0_26 v0_27 v0_28 v0_29 v0_30 v0_31 v0_32 v0_33 v0_34 v0_35 v0_36 v0_37 textLength0 o7 o8 o9 o10 o11 o12 buffer1 classAxles2 classPercent3 draft4) (pm_k [true, true, false, false, false] rfl rfl (fun _ => Nat.le_of_ble_eq_true rfl) (fun _ => rfl)) (c_X10_number l g F h0 h1 v0_0 v0_2 v0_10 (.ref h4) v0_12 v0_13 v0_14 v0_15 (.ref h2) (.ref h3) v0_18 v0_19 v0_20 v0_21 v0_22 v0_23 v0_24 v0_25 v0_26 v0_27 v0_28 v0_29 v0_30 v0_31 v0_32 v0_33 v0_34 v0_35 v0_36 v0_37 s0 9 textLength0 tokenStart0 tokenEnd0 token0 value0 error0 errorOffset0 buffer1 r6 o7 o8 o9 o10 o11 o12 _ hc13) k_X10_152 (rm_le (by decide) (by decide)) 0 10 rfl rfl rfl rfl hl.1 rfl (Nat.le_of_ble_eq_true rfl) dX10_readClass_50 ⟨Nat.le_of_ble_eq_true rfl, Nat.le_of_ble_eq_true rfl⟩ (cells2 := 0) (slots2 := 0) ⟨rfl, rfl⟩ (fun _ H locs w => ?_)
    refine lv_istore_n (lv' := [(2, .int r6), (0, .ref h0), (1, .int x1)]) hx hb dX10_readClass_53 rfl hl (by decide) rfl (fun ls hl => ?_)
    refine lv_aload_n hx hb dX10_readClass_54 rfl (lv_at hl 1 rfl) ?_
    refine g_X10_126 C w 0 rfl rfl dX10_readClass_55 ?_
    refine lv_if_ne (tgt := 72) hx hb dX10_readClass_58 (by decide) (fun c14 => ?_) (fun c14 => ?_)
    · replace hf := it_f c14 hf
      refine lv_iconst (v := 0) hx hb dX10_readClass_72 (by decide) ?_
      exact b73 x1 r6 0 o7 o8 o9 o10 o11 o12 classAxles2 classPercent3 draft4 _ _ _ hf w (lv_sub hl [1, 2, 0] rfl)
    · replace hf := it_t c14 hf
      refine lv_aload_n hx hb dX10_readClass_61 rfl (lv_at hl 1 rfl) ?_
      refine lv_iconst (v := 1) hx hb dX10_readClass_62 (by decide) ?_
      refine lv_sipush (v := 900) hx hb dX10_readClass_63 (by decide) ?_
      obtain ⟨r15, o16, o17, o18, o19, o20, o21, hc22, hf⟩ := bd7_some hf
      refine ca_iV C w (wn := fun _ => w_X10_readClass g h0 h1 h2 h3 h4 v0_0 v0_2 v0_10 v0_12 v0_13 v0_14 v0_15 v0_18 v0_19 v0_20 v0_21 v0_22 v0_23 v0_24 v0_25 v0_26 v0_27 v0_28 v0_29 v0_30 v0_31 v0_32 v0_33 v0_34 v0_35 v0_36 v0_37 textLength0 o16 o17 o18 o19 o20 o21 buffer1 classAxles2 classPercent3 draft4) (pm_k [true, true, false, false, false] rfl rfl (fun _ => Nat.le_of_ble_eq_true rfl) (fun _ => rfl)) (c_X10_number l g F h0 h1 v0_0 v0_2 v0_10 (.ref h4) v0_12 v0_13 v0_14 v0_15 (.ref h2) (.ref h3) v0_18 v0_19 v0_20 v0_21 v0_22 v0_23 v0_24 v0_25 v0_26 v0_27 v0_28 v0_29 v0_30 v0_31 v0_32 v0_33 v0_34 v0_35 v0_36 v0_37 1 900 textLength0 o7 o8 o9 o10 o11 o12 buffer1 r15 o16 o17 o18 o19 o20 o21 _ hc22) k_X10_152 (rm_le (by decide) (by decide)) 0 10 rfl rfl rfl rfl hl.1 rfl (Nat.le_of_ble_eq_true rfl) dX10_readClass_66 ⟨Nat.le_of_ble_eq_true rfl, Nat.le_of_ble_eq_true rfl⟩ (cells2 := 0) (slots2 := 0) ⟨rfl, rfl⟩ (fun _ H locs w => ?_)
      refine lv_goto (tgt := 73) hx hb dX10_readClass_69 (by decide) ?_
      exact b73 x1 r6 r15 o16 o17 o18 o19 o20 o21 classAxles2 classPercent3 draft4 _ _ _ hf w (lv_sub hl [1, 2, 0] rfl)
  refine lv_aload_n hx hb dX10_readClass_0 rfl (lv_at hl 0 rfl) ?_
  refine lv_aload_n hx hb dX10_readClass_1 rfl (lv_at hl 0 rfl) ?_
  refine g_X10_17 C w 0 rfl rfl dX10_readClass_2 ?_
  refine lv_iconst (v := 2) hx hb dX10_readClass_5 (by decide) ?_
  obtain ⟨a23, hia23, haa23, hf⟩ := rd_some hf
  refine ial C w 4 rfl hia23 haa23 dX10_readClass_6 ?_
  refine lv_iconst (v := 4) hx hb dX10_readClass_7 (by decide) ?_
  obtain ⟨r24, o25, o26, o27, o28, o29, o30, hc31, hf⟩ := bd7_some hf
  refine ca_iV C w (wn := fun _ => w_X10_readClass g h0 h1 h2 h3 h4 v0_0 v0_2 v0_10 v0_12 v0_13 v0_14 v0_15 v0_18 v0_19 v0_20 v0_21 v0_22 v0_23 v0_24 v0_25 v0_26 v0_27 v0_28 v0_29 v0_30 v0_31 v0_32 v0_33 v0_34 v0_35 v0_36 v0_37 textLength0 o25 o26 o27 o28 o29 o30 buffer1 classAxles2 classPercent3 draft4) (pm_k [true, true, false, false, false] rfl rfl (fun _ => Nat.le_of_ble_eq_true rfl) (fun _ => rfl)) (c_X10_begins l g F h0 h1 v0_0 v0_2 v0_10 (.ref h4) v0_12 v0_13 v0_14 v0_15 (.ref h2) (.ref h3) v0_18 v0_19 v0_20 v0_21 v0_22 v0_23 v0_24 v0_25 v0_26 v0_27 v0_28 v0_29 v0_30 v0_31 v0_32 v0_33 v0_34 v0_35 v0_36 v0_37 a23 4 textLength0 tokenStart0 tokenEnd0 token0 value0 error0 errorOffset0 buffer1 r24 o25 o26 o27 o28 o29 o30 _ hc31) k_X10_148 (rm_le (by decide) (by decide)) 0 10 rfl rfl rfl rfl hl.1 rfl (Nat.le_of_ble_eq_true rfl) dX10_readClass_8 ⟨Nat.le_of_ble_eq_true rfl, Nat.le_of_ble_eq_true rfl⟩ (cells2 := 0) (slots2 := 0) ⟨rfl, rfl⟩ (fun _ H locs w => ?_)
  refine lv_if_ne (tgt := 15) hx hb dX10_readClass_11 (by decide) (fun c32 => ?_) (fun c32 => ?_)
  · replace hf := it_f c32 hf
    refine lv_iconst (v := 4) hx hb dX10_readClass_15 (by decide) ?_
    refine lv_aload_n hx hb dX10_readClass_16 rfl (lv_at hl 0 rfl) ?_
    refine g_X10_17 C w 0 rfl rfl dX10_readClass_17 ?_
    refine lv_iconst (v := 2) hx hb dX10_readClass_20 (by decide) ?_
    obtain ⟨a33, hia33, haa33, hf⟩ := rd_some hf
    refine ial C w 4 rfl hia33 haa33 dX10_readClass_21 ?_
    refine lv_iadd hx hb dX10_readClass_22 ?_
    refine lv_istore_n (lv' := [(1, .int (4 + a33)), (0, .ref h0)]) hx hb dX10_readClass_23 rfl hl (by decide) rfl (fun ls hl => ?_)
    refine lv_aload_n hx hb dX10_readClass_24 rfl (lv_at hl 1 rfl) ?_
    refine lv_aload_n hx hb dX10_readClass_25 rfl (lv_at hl 1 rfl) ?_
    refine g_X10_17 C w 0 rfl rfl dX10_readClass_26 ?_
    refine lv_iconst (v := 2) hx hb dX10_readClass_29 (by decide) ?_
    obtain ⟨a34, hia34, haa34, hf⟩ := rd_some hf
    refine ial C w 4 rfl hia34 haa34 dX10_readClass_30 ?_
    refine lv_if_ne (tgt := 38) hx hb dX10_readClass_31 (by decide) (fun c35 => ?_) (fun c35 => ?_)
    · replace hf := it_f c35 hf
      refine lv_aload_n hx hb dX10_readClass_38 rfl (lv_at hl 1 rfl) ?_
      refine g_X10_32 C w 0 rfl rfl dX10_readClass_39 ?_
      refine lv_iload_n hx hb dX10_readClass_42 rfl (lv_at hl 0 rfl) ?_
      refine lv_iconst (v := 1) hx hb dX10_readClass_43 (by decide) ?_
      refine lv_isub hx hb dX10_readClass_44 ?_
      obtain ⟨a36, hia36, haa36, hf⟩ := rd_some hf
      refine ial C w 2 rfl hia36 haa36 dX10_readClass_45 ?_
      refine lv_iconst (v := 1) hx hb dX10_readClass_46 (by decide) ?_
      refine lv_iadd hx hb dX10_readClass_47 ?_
      exact b48 (4 + a33) (a36 + 1) o25 o26 o27 o28 o29 o30 classAxles2 classPercent3 draft4 _ _ _ hf w (lv_sub hl [1, 0] rfl)
    · replace hf := it_t c35 hf
      refine lv_iconst (v := 2) hx hb dX10_readClass_34 (by decide) ?_
      refine lv_goto (tgt := 48) hx hb dX10_readClass_35 (by decide) ?_
      exact b48 (4 + a33) 2 o25 o26 o27 o28 o29 o30 classAxles2 classPercent3 draft4 _ _ _ hf w (lv_sub hl [1, 0] rfl)
  · replace hf := it_t c32 hf
    obtain ⟨e1, e2, e3, e4, e5, e6, e7, e8, e9⟩ := tp9 hf
    rw [hQ]
    exact rt_v C w rfl (fun _ => 0) (by rw [← e1, ← e2, ← e3, ← e4, ← e5, ← e6, ← e7, ← e8, ← e9]) dX10_readClass_14

theorem dX10_readTagLine_0 : decode cX10_readTagLine 0 = .ok (.aload_n 0, 1) := by decide +kernel
theorem dX10_readTagLine_1 : decode cX10_readTagLine 1 = .ok (.aload_n 0, 1) := by decide +kernel
theorem dX10_readTagLine_2 : decode cX10_readTagLine 2 = .ok (.getfield 17, 3) := by decide +kernel
theorem dX10_readTagLine_5 : decode cX10_readTagLine 5 = .ok (.iconst 3, 1) := by decide +kernel
theorem dX10_readTagLine_6 : decode cX10_readTagLine 6 = .ok (.iaload, 1) := by decide +kernel
theorem dX10_readTagLine_7 : decode cX10_readTagLine 7 = .ok (.bipush 12, 2) := by decide +kernel
theorem dX10_readTagLine_9 : decode cX10_readTagLine 9 = .ok (.invokevirtual 148, 3) := by decide +kernel
theorem dX10_readTagLine_12 : decode cX10_readTagLine 12 = .ok (.ifCond .ne 4, 3) := by decide +kernel
theorem dX10_readTagLine_15 : decode cX10_readTagLine 15 = .ok (.return_, 1) := by decide +kernel
theorem dX10_readTagLine_16 : decode cX10_readTagLine 16 = .ok (.bipush 12, 2) := by decide +kernel
theorem dX10_readTagLine_18 : decode cX10_readTagLine 18 = .ok (.aload_n 0, 1) := by decide +kernel
theorem dX10_readTagLine_19 : decode cX10_readTagLine 19 = .ok (.getfield 17, 3) := by decide +kernel
theorem dX10_readTagLine_22 : decode cX10_readTagLine 22 = .ok (.iconst 3, 1) := by decide +kernel
theorem dX10_readTagLine_23 : decode cX10_readTagLine 23 = .ok (.iaload, 1) := by decide +kernel
theorem dX10_readTagLine_24 : decode cX10_readTagLine 24 = .ok (.iadd, 1) := by decide +kernel
theorem dX10_readTagLine_25 : decode cX10_readTagLine 25 = .ok (.istore_n 1, 1) := by decide +kernel
theorem dX10_readTagLine_26 : decode cX10_readTagLine 26 = .ok (.aload_n 0, 1) := by decide +kernel
theorem dX10_readTagLine_27 : decode cX10_readTagLine 27 = .ok (.getfield 108, 3) := by decide +kernel
theorem dX10_readTagLine_30 : decode cX10_readTagLine 30 = .ok (.iconst 2, 1) := by decide +kernel
theorem dX10_readTagLine_31 : decode cX10_readTagLine 31 = .ok (.if_icmp .ne 40, 3) := by decide +kernel
theorem dX10_readTagLine_34 : decode cX10_readTagLine 34 = .ok (.aload_n 0, 1) := by decide +kernel
theorem dX10_readTagLine_35 : decode cX10_readTagLine 35 = .ok (.getfield 123, 3) := by decide +kernel
theorem dX10_readTagLine_38 : decode cX10_readTagLine 38 = .ok (.i2l, 1) := by decide +kernel
theorem dX10_readTagLine_39 : decode cX10_readTagLine 39 = .ok (.lconst 1, 1) := by decide +kernel
theorem dX10_readTagLine_40 : decode cX10_readTagLine 40 = .ok (.ldc2_w 159, 3) := by decide +kernel
theorem dX10_readTagLine_43 : decode cX10_readTagLine 43 = .ok (.invokestatic 115, 3) := by decide +kernel
theorem dX10_readTagLine_46 : decode cX10_readTagLine 46 = .ok (.ifCond .eq 25, 3) := by decide +kernel
theorem dX10_readTagLine_49 : decode cX10_readTagLine 49 = .ok (.aload_n 0, 1) := by decide +kernel
theorem dX10_readTagLine_50 : decode cX10_readTagLine 50 = .ok (.aload_n 0, 1) := by decide +kernel
theorem dX10_readTagLine_51 : decode cX10_readTagLine 51 = .ok (.aload_n 0, 1) := by decide +kernel
theorem dX10_readTagLine_52 : decode cX10_readTagLine 52 = .ok (.getfield 123, 3) := by decide +kernel
theorem dX10_readTagLine_55 : decode cX10_readTagLine 55 = .ok (.invokevirtual 161, 3) := by decide +kernel
theorem dX10_readTagLine_58 : decode cX10_readTagLine 58 = .ok (.ifCond .ne 7, 3) := by decide +kernel
theorem dX10_readTagLine_61 : decode cX10_readTagLine 61 = .ok (.iconst 1, 1) := by decide +kernel
theorem dX10_readTagLine_62 : decode cX10_readTagLine 62 = .ok (.goto 4, 3) := by decide +kernel
theorem dX10_readTagLine_65 : decode cX10_readTagLine 65 = .ok (.iconst 0, 1) := by decide +kernel
theorem dX10_readTagLine_66 : decode cX10_readTagLine 66 = .ok (.iconst 3, 1) := by decide +kernel
theorem dX10_readTagLine_67 : decode cX10_readTagLine 67 = .ok (.invokevirtual 141, 3) := by decide +kernel
theorem dX10_readTagLine_70 : decode cX10_readTagLine 70 = .ok (.pop, 1) := by decide +kernel
theorem dX10_readTagLine_71 : decode cX10_readTagLine 71 = .ok (.aload_n 0, 1) := by decide +kernel
theorem dX10_readTagLine_72 : decode cX10_readTagLine 72 = .ok (.getfield 126, 3) := by decide +kernel
theorem dX10_readTagLine_75 : decode cX10_readTagLine 75 = .ok (.ifCond .ne 14, 3) := by decide +kernel
theorem dX10_readTagLine_78 : decode cX10_readTagLine 78 = .ok (.aload_n 0, 1) := by decide +kernel
theorem dX10_readTagLine_79 : decode cX10_readTagLine 79 = .ok (.iconst 1, 1) := by decide +kernel
theorem dX10_readTagLine_80 : decode cX10_readTagLine 80 = .ok (.sipush 9999, 3) := by decide +kernel
theorem dX10_readTagLine_83 : decode cX10_readTagLine 83 = .ok (.invokevirtual 152, 3) := by decide +kernel
theorem dX10_readTagLine_86 : decode cX10_readTagLine 86 = .ok (.goto 4, 3) := by decide +kernel
theorem dX10_readTagLine_89 : decode cX10_readTagLine 89 = .ok (.iconst 0, 1) := by decide +kernel
theorem dX10_readTagLine_90 : decode cX10_readTagLine 90 = .ok (.istore_n 2, 1) := by decide +kernel
theorem dX10_readTagLine_91 : decode cX10_readTagLine 91 = .ok (.aload_n 0, 1) := by decide +kernel
theorem dX10_readTagLine_92 : decode cX10_readTagLine 92 = .ok (.getfield 126, 3) := by decide +kernel
theorem dX10_readTagLine_95 : decode cX10_readTagLine 95 = .ok (.ifCond .ne 13, 3) := by decide +kernel
theorem dX10_readTagLine_98 : decode cX10_readTagLine 98 = .ok (.aload_n 0, 1) := by decide +kernel
theorem dX10_readTagLine_99 : decode cX10_readTagLine 99 = .ok (.iconst 2, 1) := by decide +kernel
theorem dX10_readTagLine_100 : decode cX10_readTagLine 100 = .ok (.bipush 9, 2) := by decide +kernel
theorem dX10_readTagLine_102 : decode cX10_readTagLine 102 = .ok (.invokevirtual 152, 3) := by decide +kernel
theorem dX10_readTagLine_105 : decode cX10_readTagLine 105 = .ok (.goto 4, 3) := by decide +kernel
theorem dX10_readTagLine_108 : decode cX10_readTagLine 108 = .ok (.iconst 0, 1) := by decide +kernel
theorem dX10_readTagLine_109 : decode cX10_readTagLine 109 = .ok (.istore_n 3, 1) := by decide +kernel
theorem dX10_readTagLine_110 : decode cX10_readTagLine 110 = .ok (.aload_n 0, 1) := by decide +kernel
theorem dX10_readTagLine_111 : decode cX10_readTagLine 111 = .ok (.getfield 126, 3) := by decide +kernel
theorem dX10_readTagLine_114 : decode cX10_readTagLine 114 = .ok (.ifCond .eq 4, 3) := by decide +kernel
theorem dX10_readTagLine_117 : decode cX10_readTagLine 117 = .ok (.return_, 1) := by decide +kernel
theorem dX10_readTagLine_118 : decode cX10_readTagLine 118 = .ok (.aload_n 0, 1) := by decide +kernel
theorem dX10_readTagLine_119 : decode cX10_readTagLine 119 = .ok (.getfield 38, 3) := by decide +kernel
theorem dX10_readTagLine_122 : decode cX10_readTagLine 122 = .ok (.iload_n 1, 1) := by decide +kernel
theorem dX10_readTagLine_123 : decode cX10_readTagLine 123 = .ok (.iload_n 2, 1) := by decide +kernel
theorem dX10_readTagLine_124 : decode cX10_readTagLine 124 = .ok (.iastore, 1) := by decide +kernel
theorem dX10_readTagLine_125 : decode cX10_readTagLine 125 = .ok (.aload_n 0, 1) := by decide +kernel
theorem dX10_readTagLine_126 : decode cX10_readTagLine 126 = .ok (.getfield 41, 3) := by decide +kernel
theorem dX10_readTagLine_129 : decode cX10_readTagLine 129 = .ok (.iload_n 1, 1) := by decide +kernel
theorem dX10_readTagLine_130 : decode cX10_readTagLine 130 = .ok (.iload_n 3, 1) := by decide +kernel
theorem dX10_readTagLine_131 : decode cX10_readTagLine 131 = .ok (.iastore, 1) := by decide +kernel
theorem dX10_readTagLine_132 : decode cX10_readTagLine 132 = .ok (.aload_n 0, 1) := by decide +kernel
theorem dX10_readTagLine_133 : decode cX10_readTagLine 133 = .ok (.getfield 17, 3) := by decide +kernel
theorem dX10_readTagLine_136 : decode cX10_readTagLine 136 = .ok (.iconst 3, 1) := by decide +kernel
theorem dX10_readTagLine_137 : decode cX10_readTagLine 137 = .ok (.dup2, 1) := by decide +kernel
theorem dX10_readTagLine_138 : decode cX10_readTagLine 138 = .ok (.iaload, 1) := by decide +kernel
theorem dX10_readTagLine_139 : decode cX10_readTagLine 139 = .ok (.iconst 1, 1) := by decide +kernel
theorem dX10_readTagLine_140 : decode cX10_readTagLine 140 = .ok (.iadd, 1) := by decide +kernel
theorem dX10_readTagLine_141 : decode cX10_readTagLine 141 = .ok (.iastore, 1) := by decide +kernel
theorem dX10_readTagLine_142 : decode cX10_readTagLine 142 = .ok (.return_, 1) := by decide +kernel
abbrev m_X10_readTagLine : MD := (yX10_readTagLine, cX10_readTagLine, 4, none)
theorem q_1418 : Cond.constantLong RX10 159 9999 ∈ TS := ts_t 1418 (by decide +kernel) (by decide +kernel)
theorem g_X10_41 {p : Program} {l : Launch} {e : Env} {R : Room} {s : State} {m : MethodId} {args : Array Value} {below : List Frame} {meth : Method} {c : Code} {H : Heap} {locs : List Loc} {cells slots : Nat} {Q : State → Prop} {d : MD} {g : GT} {A : Nat → Prop} {ws : va_W} {pc : Nat} {ls : Array Slot} {rest : List Value} (C : Cx p s m args meth c RX10 d g A) (w : Wd g A ws s.heap H locs) (q0 : Nat) {a : Nat} {fs : List Value} {v : Value} (he : ws[q0]? = some (a, .inr (10, fs))) (hv : fs[19]? = some v) (hd : decode d.2.1 pc = .ok (.getfield 41, 3)) (kk : W p l e R s m args below meth c H locs cells slots Q (F0 m (pc + 3) ls (v :: rest))) : W p l e R s m args below meth c H locs cells slots Q (F0 m pc ls (.ref a :: rest)) := fg C w inX10s (ref := RX10) rfl 19 (by decide) (ts_t (w := Cond.fieldLink RX10 41 RX10 (TX10 19).2.1 (TX10 19).2.2.1) 1241 (by decide +kernel) (by decide +kernel)) rfl q0 he hv hd kk
theorem q_1422 : Cond.code yX10_isPlated cX10_isPlated 3 (some .boolean) ∈ TS := ts_t 1422 (by decide +kernel) (by decide +kernel)
theorem q_1419 : Cond.methodLink RX10 161 yX10_isPlated ∈ TS := ts_t 1419 (by decide +kernel) (by decide +kernel)
theorem q_1421 : Cond.instanceMethod yX10_isPlated ∈ TS := ts_t 1421 (by decide +kernel) (by decide +kernel)
theorem qs_97 : Cond.selects yX10_isPlated.cls yX10_isPlated yX10_isPlated ∈ TS := ts_s 97 (by decide +kernel) (by decide +kernel)
theorem k_X10_161 : LkV RX10 161 m_X10_isPlated 1 := ⟨q_1419, q_1421, qs_97, ⟨q_11, q_1422, by decide, by decide, by decide +kernel⟩⟩
abbrev w_X10_readTagLine (g : GT) (h0 h1 h2 h3 h4 : Nat) (v0_0 v0_2 v0_10 v0_12 v0_13 v0_14 v0_15 v0_16 v0_17 v0_20 v0_21 v0_22 v0_23 v0_24 v0_25 v0_26 v0_27 v0_28 v0_29 v0_30 v0_31 v0_32 v0_33 v0_34 v0_35 v0_36 v0_37 : Value) (textLength0 tokenStart0 tokenEnd0 token0 value0 error0 errorOffset0 : Int32) (buffer1 draft2 tagAxles3 tagPlate4 : Nat → Int32) : va_W := [(h0, .inr (10, [v0_0, .ref h1, v0_2, .int textLength0, .int tokenStart0, .int tokenEnd0, .int token0, .int value0, .int error0, .int errorOffset0, v0_10, .ref h2, v0_12, v0_13, v0_14, v0_15, v0_16, v0_17, .ref h4, .ref h3, v0_20, v0_21, v0_22, v0_23, v0_24, v0_25, v0_26, v0_27, v0_28, v0_29, v0_30, v0_31, v0_32, v0_33, v0_34, v0_35, v0_36, v0_37])), (h1, aB g 900 buffer1), (h2, aI g 7 draft2), (h3, aI g 24 tagAxles3), (h4, aI g 24 tagPlate4)]
def f_X10_readTagLine_b109 (F : Nat) (textLength0 : Int32) (buffer1 : Nat → Int32) (x1 x2 s0 tokenStart0 tokenEnd0 token0 value0 error0 errorOffset0 : Int32) (draft2 tagAxles3 tagPlate4 : Nat → Int32) : Option (Int32 × Int32 × Int32 × Int32 × Int32 × Int32 × (Nat → Int32) × (Nat → Int32) × (Nat → Int32)) :=
  if error0 = 0 then
    wr tagPlate4 24 x1 x2 fun f2 =>
    wr tagAxles3 24 x1 s0 fun f3 =>
    rd draft2 7 3 fun a4 =>
    wr draft2 7 3 (a4 + 1) fun f5 =>
    some (tokenStart0, tokenEnd0, token0, value0, error0, errorOffset0, f5, f3, f2)
  else
    some (tokenStart0, tokenEnd0, token0, value0, error0, errorOffset0, draft2, tagAxles3, tagPlate4)
def f_X10_readTagLine_b90 (F : Nat) (textLength0 : Int32) (buffer1 : Nat → Int32) (x1 s0 tokenStart0 tokenEnd0 token0 value0 error0 errorOffset0 : Int32) (draft2 tagAxles3 tagPlate4 : Nat → Int32) : Option (Int32 × Int32 × Int32 × Int32 × Int32 × Int32 × (Nat → Int32) × (Nat → Int32) × (Nat → Int32)) :=
  if error0 = 0 then
    bd7 (f_X10_number F 2 9 textLength0 tokenStart0 tokenEnd0 token0 value0 error0 errorOffset0 buffer1) fun r7 o8 o9 o10 o11 o12 o13 =>
    f_X10_readTagLine_b109 F textLength0 buffer1 x1 s0 r7 o8 o9 o10 o11 o12 o13 draft2 tagAxles3 tagPlate4
  else
    f_X10_readTagLine_b109 F textLength0 buffer1 x1 s0 0 tokenStart0 tokenEnd0 token0 value0 error0 errorOffset0 draft2 tagAxles3 tagPlate4
def f_X10_readTagLine_b71 (F : Nat) (textLength0 : Int32) (buffer1 : Nat → Int32) (x1 tokenStart0 tokenEnd0 token0 value0 error0 errorOffset0 : Int32) (draft2 tagAxles3 tagPlate4 : Nat → Int32) : Option (Int32 × Int32 × Int32 × Int32 × Int32 × Int32 × (Nat → Int32) × (Nat → Int32) × (Nat → Int32)) :=
  if error0 = 0 then
    bd7 (f_X10_number F 1 9999 textLength0 tokenStart0 tokenEnd0 token0 value0 error0 errorOffset0 buffer1) fun r16 o17 o18 o19 o20 o21 o22 =>
    f_X10_readTagLine_b90 F textLength0 buffer1 x1 r16 o17 o18 o19 o20 o21 o22 draft2 tagAxles3 tagPlate4
  else
    f_X10_readTagLine_b90 F textLength0 buffer1 x1 0 tokenStart0 tokenEnd0 token0 value0 error0 errorOffset0 draft2 tagAxles3 tagPlate4
def f_X10_readTagLine_b66 (F : Nat) (textLength0 : Int32) (buffer1 : Nat → Int32) (x1 s0 tokenStart0 tokenEnd0 token0 value0 error0 errorOffset0 : Int32) (draft2 tagAxles3 tagPlate4 : Nat → Int32) : Option (Int32 × Int32 × Int32 × Int32 × Int32 × Int32 × (Nat → Int32) × (Nat → Int32) × (Nat → Int32)) :=
  bd3 (f_X10_must F s0 3 tokenStart0 error0 errorOffset0) fun r24 o25 o26 =>
  f_X10_readTagLine_b71 F textLength0 buffer1 x1 tokenStart0 tokenEnd0 token0 value0 o25 o26 draft2 tagAxles3 tagPlate4
def f_X10_readTagLine (F : Nat) (textLength0 tokenStart0 tokenEnd0 token0 value0 error0 errorOffset0 : Int32) (buffer1 draft2 tagAxles3 tagPlate4 : Nat → Int32) : Option (Int32 × Int32 × Int32 × Int32 × Int32 × Int32 × (Nat → Int32) × (Nat → Int32) × (Nat → Int32)) :=
  rd draft2 7 3 fun a28 =>
  bd7 (f_X10_begins F a28 12 textLength0 tokenStart0 tokenEnd0 token0 value0 error0 errorOffset0 buffer1) fun r29 o30 o31 o32 o33 o34 o35 =>
  if r29 = 0 then
    some (o30, o31, o32, o33, o34, o35, draft2, tagAxles3, tagPlate4)
  else
    rd draft2 7 3 fun a38 =>
    if o32 = 2 then
      bd1 (f_X10_within F o33.toInt64 1 9999) fun r40 =>
      if r40 = 0 then
        f_X10_readTagLine_b71 F textLength0 buffer1 (12 + a38) o30 o31 o32 o33 o34 o35 draft2 tagAxles3 tagPlate4
      else
        bd1 (f_X10_isPlated F o33 draft2 tagPlate4) fun r43 =>
        if r43 = 0 then
          f_X10_readTagLine_b66 F textLength0 buffer1 (12 + a38) 1 o30 o31 o32 o33 o34 o35 draft2 tagAxles3 tagPlate4
        else
          f_X10_readTagLine_b66 F textLength0 buffer1 (12 + a38) 0 o30 o31 o32 o33 o34 o35 draft2 tagAxles3 tagPlate4
    else
      f_X10_readTagLine_b71 F textLength0 buffer1 (12 + a38) o30 o31 o32 o33 o34 o35 draft2 tagAxles3 tagPlate4
set_option maxHeartbeats 4000000 in
set_option maxRecDepth 100000 in
theorem c_X10_readTagLine (l : Launch) (g : GT) (F : Nat) (h0 h1 h2 h3 h4 : Nat) (v0_0 v0_2 v0_10 v0_12 v0_13 v0_14 v0_15 v0_16 v0_17 v0_20 v0_21 v0_22 v0_23 v0_24 v0_25 v0_26 v0_27 v0_28 v0_29 v0_30 v0_31 v0_32 v0_33 v0_34 v0_35 v0_36 v0_37 : Value) (textLength0 tokenStart0 tokenEnd0 token0 value0 error0 errorOffset0 : Int32) (buffer1 draft2 tagAxles3 tagPlate4 : Nat → Int32) (o_tokenStart0 o_tokenEnd0 o_token0 o_value0 o_error0 o_errorOffset0 : Int32) (o_draft2 o_tagAxles3 o_tagPlate4 : Nat → Int32) (sz : Nat) (hf : f_X10_readTagLine F textLength0 tokenStart0 tokenEnd0 token0 value0 error0 errorOffset0 buffer1 draft2 tagAxles3 tagPlate4 = some (o_tokenStart0, o_tokenEnd0, o_token0, o_value0, o_error0, o_errorOffset0, o_draft2, o_tagAxles3, o_tagPlate4)) : CV l m_X10_readTagLine (rml 3 0 0) g (w_X10_readTagLine g h0 h1 h2 h3 h4 v0_0 v0_2 v0_10 v0_12 v0_13 v0_14 v0_15 v0_16 v0_17 v0_20 v0_21 v0_22 v0_23 v0_24 v0_25 v0_26 v0_27 v0_28 v0_29 v0_30 v0_31 v0_32 v0_33 v0_34 v0_35 v0_36 v0_37 textLength0 tokenStart0 tokenEnd0 token0 value0 error0 errorOffset0 buffer1 draft2 tagAxles3 tagPlate4) (fun _ => w_X10_readTagLine g h0 h1 h2 h3 h4 v0_0 v0_2 v0_10 v0_12 v0_13 v0_14 v0_15 v0_16 v0_17 v0_20 v0_21 v0_22 v0_23 v0_24 v0_25 v0_26 v0_27 v0_28 v0_29 v0_30 v0_31 v0_32 v0_33 v0_34 v0_35 v0_36 v0_37 textLength0 o_tokenStart0 o_tokenEnd0 o_token0 o_value0 o_error0 o_errorOffset0 buffer1 o_draft2 o_tagAxles3 o_tagPlate4) sz [.ref h0] := by
  refine en_v (by decide) (Nat.le_of_ble_eq_true rfl) (fun p e s m args below meth c A ls C w hl => ?_)
  have C : Cx p s m args meth c RX10 m_X10_readTagLine g A := C
  have hx := C.1
  have hb : c.code = cX10_readTagLine := C.2.1
  have hl : lv_has ls 4 [(0, .ref h0)] := hl
  obtain ⟨Q, hQ⟩ : ∃ Q, Q = QV below args s g A (fun _ => w_X10_readTagLine g h0 h1 h2 h3 h4 v0_0 v0_2 v0_10 v0_12 v0_13 v0_14 v0_15 v0_16 v0_17 v0_20 v0_21 v0_22 v0_23 v0_24 v0_25 v0_26 v0_27 v0_28 v0_29 v0_30 v0_31 v0_32 v0_33 v0_34 v0_35 v0_36 v0_37 textLength0 o_tokenStart0 o_tokenEnd0 o_token0 o_value0 o_error0 o_errorOffset0 buffer1 o_draft2 o_tagAxles3 o_tagPlate4) 0 0 := ⟨_, rfl⟩
  suffices hW : W p l e (rml 3 0 0) s m args below meth c s.heap [] 0 0 Q (F0 m 0 ls []) from (by rw [hQ] at hW; exact hW)
  unfold f_X10_readTagLine at hf
  have b109 : ∀ (x1 x2 s0 tokenStart0 tokenEnd0 token0 value0 error0 errorOffset0 : Int32) (draft2 tagAxles3 tagPlate4 : Nat → Int32) (H : Heap) (locs : List Loc) (ls : Array Slot), f_X10_readTagLine_b109 F textLength0 buffer1 x1 x2 s0 tokenStart0 tokenEnd0 token0 value0 error0 errorOffset0 draft2 tagAxles3 tagPlate4 = some (o_tokenStart0, o_tokenEnd0, o_token0, o_value0, o_error0, o_errorOffset0, o_draft2, o_tagAxles3, o_tagPlate4) → Wd g A (w_X10_readTagLine g h0 h1 h2 h3 h4 v0_0 v0_2 v0_10 v0_12 v0_13 v0_14 v0_15 v0_16 v0_17 v0_20 v0_21 v0_22 v0_23 v0_24 v0_25 v0_26 v0_27 v0_28 v0_29 v0_30 v0_31 v0_32 v0_33 v0_34 v0_35 v0_36 v0_37 textLength0 tokenStart0 tokenEnd0 token0 value0 error0 errorOffset0 buffer1 draft2 tagAxles3 tagPlate4) s.heap H locs → lv_has ls 4 [(0, .ref h0), (1, .int x1), (2, .int x2)] → W p l e (rml 3 0 0) s m args below meth c H locs 0 0 Q (F0 m 109 ls [.int s0]) := by
    intro x1 x2 s0 tokenStart0 tokenEnd0 token0 value0 error0 errorOffset0 draft2 tagAxles3 tagPlate4 H locs ls hf w hl
    unfold f_X10_readTagLine_b109 at hf
    refine lv_istore_n (lv' := [(3, .int s0), (0, .ref h0), (1, .int x1), (2, .int x2)]) hx hb dX10_readTagLine_109 rfl hl (by decide) rfl (fun ls hl => ?_)
    refine lv_aload_n hx hb dX10_readTagLine_110 rfl (lv_at hl 1 rfl) ?_
    refine g_X10_126 C w 0 rfl rfl dX10_readTagLine_111 ?_
    refine lv_if_eq (tgt := 118) hx hb dX10_readTagLine_114 (by decide) (fun c1 => ?_) (fun c1 => ?_)
    · replace hf := it_t c1 hf
      refine lv_aload_n hx hb dX10_readTagLine_118 rfl (lv_at hl 1 rfl) ?_
      refine g_X10_38 C w 0 rfl rfl dX10_readTagLine_119 ?_
      refine lv_iload_n hx hb dX10_readTagLine_122 rfl (lv_at hl 2 rfl) ?_
      refine lv_iload_n hx hb dX10_readTagLine_123 rfl (lv_at hl 3 rfl) ?_
      obtain ⟨f2, hif2, haf2, hf⟩ := wr_some hf
      refine ias C w 4 rfl hif2 haf2 (ws2 := w_X10_readTagLine g h0 h1 h2 h3 h4 v0_0 v0_2 v0_10 v0_12 v0_13 v0_14 v0_15 v0_16 v0_17 v0_20 v0_21 v0_22 v0_23 v0_24 v0_25 v0_26 v0_27 v0_28 v0_29 v0_30 v0_31 v0_32 v0_33 v0_34 v0_35 v0_36 v0_37 textLength0 tokenStart0 tokenEnd0 token0 value0 error0 errorOffset0 buffer1 draft2 tagAxles3 f2) rfl dX10_readTagLine_124 (fun H locs w => ?_)
      refine lv_aload_n hx hb dX10_readTagLine_125 rfl (lv_at hl 1 rfl) ?_
      refine g_X10_41 C w 0 rfl rfl dX10_readTagLine_126 ?_
      refine lv_iload_n hx hb dX10_readTagLine_129 rfl (lv_at hl 2 rfl) ?_
      refine lv_iload_n hx hb dX10_readTagLine_130 rfl (lv_at hl 0 rfl) ?_
      obtain ⟨f3, hif3, haf3, hf⟩ := wr_some hf
      refine ias C w 3 rfl hif3 haf3 (ws2 := w_X10_readTagLine g h0 h1 h2 h3 h4 v0_0 v0_2 v0_10 v0_12 v0_13 v0_14 v0_15 v0_16 v0_17 v0_20 v0_21 v0_22 v0_23 v0_24 v0_25 v0_26 v0_27 v0_28 v0_29 v0_30 v0_31 v0_32 v0_33 v0_34 v0_35 v0_36 v0_37 textLength0 tokenStart0 tokenEnd0 token0 value0 error0 errorOffset0 buffer1 draft2 f3 f2) rfl dX10_readTagLine_131 (fun H locs w => ?_)
      refine lv_aload_n hx hb dX10_readTagLine_132 rfl (lv_at hl 1 rfl) ?_
      refine g_X10_17 C w 0 rfl rfl dX10_readTagLine_133 ?_
      refine lv_iconst (v := 3) hx hb dX10_readTagLine_136 (by decide) ?_
      refine lv_dup2_11 hx hb dX10_readTagLine_137 rfl rfl ?_
      obtain ⟨a4, hia4, haa4, hf⟩ := rd_some hf
      refine ial C w 2 rfl hia4 haa4 dX10_readTagLine_138 ?_
      refine lv_iconst (v := 1) hx hb dX10_readTagLine_139 (by decide) ?_
      refine lv_iadd hx hb dX10_readTagLine_140 ?_
      obtain ⟨f5, hif5, haf5, hf⟩ := wr_some hf
      refine ias C w 2 rfl hif5 haf5 (ws2 := w_X10_readTagLine g h0 h1 h2 h3 h4 v0_0 v0_2 v0_10 v0_12 v0_13 v0_14 v0_15 v0_16 v0_17 v0_20 v0_21 v0_22 v0_23 v0_24 v0_25 v0_26 v0_27 v0_28 v0_29 v0_30 v0_31 v0_32 v0_33 v0_34 v0_35 v0_36 v0_37 textLength0 tokenStart0 tokenEnd0 token0 value0 error0 errorOffset0 buffer1 f5 f3 f2) rfl dX10_readTagLine_141 (fun H locs w => ?_)
      obtain ⟨e1, e2, e3, e4, e5, e6, e7, e8, e9⟩ := tp9 hf
      rw [hQ]
      exact rt_v C w rfl (fun _ => 0) (by rw [← e1, ← e2, ← e3, ← e4, ← e5, ← e6, ← e7, ← e8, ← e9]) dX10_readTagLine_142
    · replace hf := it_f c1 hf
      obtain ⟨e1, e2, e3, e4, e5, e6, e7, e8, e9⟩ := tp9 hf
      rw [hQ]
      exact rt_v C w rfl (fun _ => 0) (by rw [← e1, ← e2, ← e3, ← e4, ← e5, ← e6, ← e7, ← e8, ← e9]) dX10_readTagLine_117
  have b90 : ∀ (x1 s0 tokenStart0 tokenEnd0 token0 value0 error0 errorOffset0 : Int32) (draft2 tagAxles3 tagPlate4 : Nat → Int32) (H : Heap) (locs : List Loc) (ls : Array Slot), f_X10_readTagLine_b90 F textLength0 buffer1 x1 s0 tokenStart0 tokenEnd0 token0 value0 error0 errorOffset0 draft2 tagAxles3 tagPlate4 = some (o_tokenStart0, o_tokenEnd0, o_token0, o_value0, o_error0, o_errorOffset0, o_draft2, o_tagAxles3, o_tagPlate4) → Wd g A (w_X10_readTagLine g h0 h1 h2 h3 h4 v0_0 v0_2 v0_10 v0_12 v0_13 v0_14 v0_15 v0_16 v0_17 v0_20 v0_21 v0_22 v0_23 v0_24 v0_25 v0_26 v0_27 v0_28 v0_29 v0_30 v0_31 v0_32 v0_33 v0_34 v0_35 v0_36 v0_37 textLength0 tokenStart0 tokenEnd0 token0 value0 error0 errorOffset0 buffer1 draft2 tagAxles3 tagPlate4) s.heap H locs → lv_has ls 4 [(0, .ref h0), (1, .int x1)] → W p l e (rml 3 0 0) s m args below meth c H locs 0 0 Q (F0 m 90 ls [.int s0]) := by
    intro x1 s0 tokenStart0 tokenEnd0 token0 value0 error0 errorOffset0 draft2 tagAxles3 tagPlate4 H locs ls hf w hl
    unfold f_X10_readTagLine_b90 at hf
    refine lv_istore_n (lv' := [(2, .int s0), (0, .ref h0), (1, .int x1)]) hx hb dX10_readTagLine_90 rfl hl (by decide) rfl (fun ls hl => ?_)
    refine lv_aload_n hx hb dX10_readTagLine_91 rfl (lv_at hl 1 rfl) ?_
    refine g_X10_126 C w 0 rfl rfl dX10_readTagLine_92 ?_
    refine lv_if_ne (tgt := 108) hx hb dX10_readTagLine_95 (by decide) (fun c6 => ?_) (fun c6 => ?_)
    · replace hf := it_f c6 hf
      refine lv_iconst (v := 0) hx hb dX10_readTagLine_108 (by decide) ?_
      exact b109 x1 s0 0 tokenStart0 tokenEnd0 token0 value0 error0 errorOffset0 draft2 tagAxles3 tagPlate4 _ _ _ hf w (lv_sub hl [1, 2, 0] rfl)
    · replace hf := it_t c6 hf
      refine lv_aload_n hx hb dX10_readTagLine_98 rfl (lv_at hl 1 rfl) ?_
      refine lv_iconst (v := 2) hx hb dX10_readTagLine_99 (by decide) ?_
      refine lv_bipush (v := 9) hx hb dX10_readTagLine_100 (by decide) ?_
      obtain ⟨r7, o8, o9, o10, o11, o12, o13, hc14, hf⟩ := bd7_some hf
      refine ca_iV C w (wn := fun _ => w_X10_readTagLine g h0 h1 h2 h3 h4 v0_0 v0_2 v0_10 v0_12 v0_13 v0_14 v0_15 v0_16 v0_17 v0_20 v0_21 v0_22 v0_23 v0_24 v0_25 v0_26 v0_27 v0_28 v0_29 v0_30 v0_31 v0_32 v0_33 v0_34 v0_35 v0_36 v0_37 textLength0 o8 o9 o10 o11 o12 o13 buffer1 draft2 tagAxles3 tagPlate4) (pm_k [true, true, false, false, false] rfl rfl (fun _ => Nat.le_of_ble_eq_true rfl) (fun _ => rfl)) (c_X10_number l g F h0 h1 v0_0 v0_2 v0_10 (.ref h2) v0_12 v0_13 v0_14 v0_15 v0_16 v0_17 (.ref h4) (.ref h3) v0_20 v0_21 v0_22 v0_23 v0_24 v0_25 v0_26 v0_27 v0_28 v0_29 v0_30 v0_31 v0_32 v0_33 v0_34 v0_35 v0_36 v0_37 2 9 textLength0 tokenStart0 tokenEnd0 token0 value0 error0 errorOffset0 buffer1 r7 o8 o9 o10 o11 o12 o13 _ hc14) k_X10_152 (rm_le (by decide) (by decide)) 0 10 rfl rfl rfl rfl hl.1 rfl (Nat.le_of_ble_eq_true rfl) dX10_readTagLine_102 ⟨Nat.le_of_ble_eq_true rfl, Nat.le_of_ble_eq_true rfl⟩ (cells2 := 0) (slots2 := 0) ⟨rfl, rfl⟩ (fun _ H locs w => ?_)
      refine lv_goto (tgt := 109) hx hb dX10_readTagLine_105 (by decide) ?_
      exact b109 x1 s0 r7 o8 o9 o10 o11 o12 o13 draft2 tagAxles3 tagPlate4 _ _ _ hf w (lv_sub hl [1, 2, 0] rfl)
  have b71 : ∀ (x1 tokenStart0 tokenEnd0 token0 value0 error0 errorOffset0 : Int32) (draft2 tagAxles3 tagPlate4 : Nat → Int32) (H : Heap) (locs : List Loc) (ls : Array Slot), f_X10_readTagLine_b71 F textLength0 buffer1 x1 tokenStart0 tokenEnd0 token0 value0 error0 errorOffset0 draft2 tagAxles3 tagPlate4 = some (o_tokenStart0, o_tokenEnd0, o_token0, o_value0, o_error0, o_errorOffset0, o_draft2, o_tagAxles3, o_tagPlate4) → Wd g A (w_X10_readTagLine g h0 h1 h2 h3 h4 v0_0 v0_2 v0_10 v0_12 v0_13 v0_14 v0_15 v0_16 v0_17 v0_20 v0_21 v0_22 v0_23 v0_24 v0_25 v0_26 v0_27 v0_28 v0_29 v0_30 v0_31 v0_32 v0_33 v0_34 v0_35 v0_36 v0_37 textLength0 tokenStart0 tokenEnd0 token0 value0 error0 errorOffset0 buffer1 draft2 tagAxles3 tagPlate4) s.heap H locs → lv_has ls 4 [(0, .ref h0), (1, .int x1)] → W p l e (rml 3 0 0) s m args below meth c H locs 0 0 Q (F0 m 71 ls []) := by
    intro x1 tokenStart0 tokenEnd0 token0 value0 error0 errorOffset0 draft2 tagAxles3 tagPlate4 H locs ls hf w hl
    unfold f_X10_readTagLine_b71 at hf
    refine lv_aload_n hx hb dX10_readTagLine_71 rfl (lv_at hl 0 rfl) ?_
    refine g_X10_126 C w 0 rfl rfl dX10_readTagLine_72 ?_
    refine lv_if_ne (tgt := 89) hx hb dX10_readTagLine_75 (by decide) (fun c15 => ?_) (fun c15 => ?_)
    · replace hf := it_f c15 hf
      refine lv_iconst (v := 0) hx hb dX10_readTagLine_89 (by decide) ?_
      exact b90 x1 0 tokenStart0 tokenEnd0 token0 value0 error0 errorOffset0 draft2 tagAxles3 tagPlate4 _ _ _ hf w (lv_sub hl [0, 1] rfl)
    · replace hf := it_t c15 hf
      refine lv_aload_n hx hb dX10_readTagLine_78 rfl (lv_at hl 0 rfl) ?_
      refine lv_iconst (v := 1) hx hb dX10_readTagLine_79 (by decide) ?_
      refine lv_sipush (v := 9999) hx hb dX10_readTagLine_80 (by decide) ?_
      obtain ⟨r16, o17, o18, o19, o20, o21, o22, hc23, hf⟩ := bd7_some hf
      refine ca_iV C w (wn := fun _ => w_X10_readTagLine g h0 h1 h2 h3 h4 v0_0 v0_2 v0_10 v0_12 v0_13 v0_14 v0_15 v0_16 v0_17 v0_20 v0_21 v0_22 v0_23 v0_24 v0_25 v0_26 v0_27 v0_28 v0_29 v0_30 v0_31 v0_32 v0_33 v0_34 v0_35 v0_36 v0_37 textLength0 o17 o18 o19 o20 o21 o22 buffer1 draft2 tagAxles3 tagPlate4) (pm_k [true, true, false, false, false] rfl rfl (fun _ => Nat.le_of_ble_eq_true rfl) (fun _ => rfl)) (c_X10_number l g F h0 h1 v0_0 v0_2 v0_10 (.ref h2) v0_12 v0_13 v0_14 v0_15 v0_16 v0_17 (.ref h4) (.ref h3) v0_20 v0_21 v0_22 v0_23 v0_24 v0_25 v0_26 v0_27 v0_28 v0_29 v0_30 v0_31 v0_32 v0_33 v0_34 v0_35 v0_36 v0_37 1 9999 textLength0 tokenStart0 tokenEnd0 token0 value0 error0 errorOffset0 buffer1 r16 o17 o18 o19 o20 o21 o22 _ hc23) k_X10_152 (rm_le (by decide) (by decide)) 0 10 rfl rfl rfl rfl hl.1 rfl (Nat.le_of_ble_eq_true rfl) dX10_readTagLine_83 ⟨Nat.le_of_ble_eq_true rfl, Nat.le_of_ble_eq_true rfl⟩ (cells2 := 0) (slots2 := 0) ⟨rfl, rfl⟩ (fun _ H locs w => ?_)
      refine lv_goto (tgt := 90) hx hb dX10_readTagLine_86 (by decide) ?_
      exact b90 x1 r16 o17 o18 o19 o20 o21 o22 draft2 tagAxles3 tagPlate4 _ _ _ hf w (lv_sub hl [0, 1] rfl)
  have b66 : ∀ (x1 s0 tokenStart0 tokenEnd0 token0 value0 error0 errorOffset0 : Int32) (draft2 tagAxles3 tagPlate4 : Nat → Int32) (H : Heap) (locs : List Loc) (ls : Array Slot), f_X10_readTagLine_b66 F textLength0 buffer1 x1 s0 tokenStart0 tokenEnd0 token0 value0 error0 errorOffset0 draft2 tagAxles3 tagPlate4 = some (o_tokenStart0, o_tokenEnd0, o_token0, o_value0, o_error0, o_errorOffset0, o_draft2, o_tagAxles3, o_tagPlate4) → Wd g A (w_X10_readTagLine g h0 h1 h2 h3 h4 v0_0 v0_2 v0_10 v0_12 v0_13 v0_14 v0_15 v0_16 v0_17 v0_20 v0_21 v0_22 v0_23 v0_24 v0_25 v0_26 v0_27 v0_28 v0_29 v0_30 v0_31 v0_32 v0_33 v0_34 v0_35 v0_36 v0_37 textLength0 tokenStart0 tokenEnd0 token0 value0 error0 errorOffset0 buffer1 draft2 tagAxles3 tagPlate4) s.heap H locs → lv_has ls 4 [(0, .ref h0), (1, .int x1)] → W p l e (rml 3 0 0) s m args below meth c H locs 0 0 Q (F0 m 66 ls [.int s0, .ref h0]) := by
    intro x1 s0 tokenStart0 tokenEnd0 token0 value0 error0 errorOffset0 draft2 tagAxles3 tagPlate4 H locs ls hf w hl
    unfold f_X10_readTagLine_b66 at hf
    refine lv_iconst (v := 3) hx hb dX10_readTagLine_66 (by decide) ?_
    obtain ⟨r24, o25, o26, hc27, hf⟩ := bd3_some hf
    refine ca_iV C w (wn := fun _ => w_X10_readTagLine g h0 h1 h2 h3 h4 v0_0 v0_2 v0_10 v0_12 v0_13 v0_14 v0_15 v0_16 v0_17 v0_20 v0_21 v0_22 v0_23 v0_24 v0_25 v0_26 v0_27 v0_28 v0_29 v0_30 v0_31 v0_32 v0_33 v0_34 v0_35 v0_36 v0_37 textLength0 tokenStart0 tokenEnd0 token0 value0 o25 o26 buffer1 draft2 tagAxles3 tagPlate4) (pm_k [true, false, false, false, false] rfl rfl (fun _ => Nat.le_of_ble_eq_true rfl) (fun _ => rfl)) (c_X10_must l g F h0 v0_0 (.ref h1) v0_2 (.int textLength0) (.int tokenEnd0) (.int token0) (.int value0) v0_10 (.ref h2) v0_12 v0_13 v0_14 v0_15 v0_16 v0_17 (.ref h4) (.ref h3) v0_20 v0_21 v0_22 v0_23 v0_24 v0_25 v0_26 v0_27 v0_28 v0_29 v0_30 v0_31 v0_32 v0_33 v0_34 v0_35 v0_36 v0_37 s0 3 tokenStart0 error0 errorOffset0 r24 o25 o26 _ hc27) k_X10_141 (rm_le (by decide) (by decide)) 0 10 rfl rfl rfl rfl hl.1 rfl (Nat.le_of_ble_eq_true rfl) dX10_readTagLine_67 ⟨Nat.le_of_ble_eq_true rfl, Nat.le_of_ble_eq_true rfl⟩ (cells2 := 0) (slots2 := 0) ⟨rfl, rfl⟩ (fun _ H locs w => ?_)
    refine lv_pop hx hb dX10_readTagLine_70 rfl ?_
    exact b71 x1 tokenStart0 tokenEnd0 token0 value0 o25 o26 draft2 tagAxles3 tagPlate4 _ _ _ hf w (lv_sub hl [0, 1] rfl)
  refine lv_aload_n hx hb dX10_readTagLine_0 rfl (lv_at hl 0 rfl) ?_
  refine lv_aload_n hx hb dX10_readTagLine_1 rfl (lv_at hl 0 rfl) ?_
  refine g_X10_17 C w 0 rfl rfl dX10_readTagLine_2 ?_
  refine lv_iconst (v := 3) hx hb dX10_readTagLine_5 (by decide) ?_
  obtain ⟨a28, hia28, haa28, hf⟩ := rd_some hf
  refine ial C w 2 rfl hia28 haa28 dX10_readTagLine_6 ?_
  refine lv_bipush (v := 12) hx hb dX10_readTagLine_7 (by decide) ?_
  obtain ⟨r29, o30, o31, o32, o33, o34, o35, hc36, hf⟩ := bd7_some hf
  refine ca_iV C w (wn := fun _ => w_X10_readTagLine g h0 h1 h2 h3 h4 v0_0 v0_2 v0_10 v0_12 v0_13 v0_14 v0_15 v0_16 v0_17 v0_20 v0_21 v0_22 v0_23 v0_24 v0_25 v0_26 v0_27 v0_28 v0_29 v0_30 v0_31 v0_32 v0_33 v0_34 v0_35 v0_36 v0_37 textLength0 o30 o31 o32 o33 o34 o35 buffer1 draft2 tagAxles3 tagPlate4) (pm_k [true, true, false, false, false] rfl rfl (fun _ => Nat.le_of_ble_eq_true rfl) (fun _ => rfl)) (c_X10_begins l g F h0 h1 v0_0 v0_2 v0_10 (.ref h2) v0_12 v0_13 v0_14 v0_15 v0_16 v0_17 (.ref h4) (.ref h3) v0_20 v0_21 v0_22 v0_23 v0_24 v0_25 v0_26 v0_27 v0_28 v0_29 v0_30 v0_31 v0_32 v0_33 v0_34 v0_35 v0_36 v0_37 a28 12 textLength0 tokenStart0 tokenEnd0 token0 value0 error0 errorOffset0 buffer1 r29 o30 o31 o32 o33 o34 o35 _ hc36) k_X10_148 (rm_le (by decide) (by decide)) 0 10 rfl rfl rfl rfl hl.1 rfl (Nat.le_of_ble_eq_true rfl) dX10_readTagLine_9 ⟨Nat.le_of_ble_eq_true rfl, Nat.le_of_ble_eq_true rfl⟩ (cells2 := 0) (slots2 := 0) ⟨rfl, rfl⟩ (fun _ H locs w => ?_)
  refine lv_if_ne (tgt := 16) hx hb dX10_readTagLine_12 (by decide) (fun c37 => ?_) (fun c37 => ?_)
  · replace hf := it_f c37 hf
    refine lv_bipush (v := 12) hx hb dX10_readTagLine_16 (by decide) ?_
    refine lv_aload_n hx hb dX10_readTagLine_18 rfl (lv_at hl 0 rfl) ?_
    refine g_X10_17 C w 0 rfl rfl dX10_readTagLine_19 ?_
    refine lv_iconst (v := 3) hx hb dX10_readTagLine_22 (by decide) ?_
    obtain ⟨a38, hia38, haa38, hf⟩ := rd_some hf
    refine ial C w 2 rfl hia38 haa38 dX10_readTagLine_23 ?_
    refine lv_iadd hx hb dX10_readTagLine_24 ?_
    refine lv_istore_n (lv' := [(1, .int (12 + a38)), (0, .ref h0)]) hx hb dX10_readTagLine_25 rfl hl (by decide) rfl (fun ls hl => ?_)
    refine lv_aload_n hx hb dX10_readTagLine_26 rfl (lv_at hl 1 rfl) ?_
    refine g_X10_108 C w 0 rfl rfl dX10_readTagLine_27 ?_
    refine lv_iconst (v := 2) hx hb dX10_readTagLine_30 (by decide) ?_
    refine lv_icmp_ne (tgt := 71) hx hb dX10_readTagLine_31 (by decide) (fun c39 => ?_) (fun c39 => ?_)
    · replace hf := it_f c39 hf
      exact b71 (12 + a38) o30 o31 o32 o33 o34 o35 draft2 tagAxles3 tagPlate4 _ _ _ hf w (lv_sub hl [1, 0] rfl)
    · replace hf := it_t c39 hf
      refine lv_aload_n hx hb dX10_readTagLine_34 rfl (lv_at hl 1 rfl) ?_
      refine g_X10_123 C w 0 rfl rfl dX10_readTagLine_35 ?_
      refine lv_i2l (v := o33.toInt64) hx hb dX10_readTagLine_38 rfl ?_
      refine lv_lconst (v := 1) hx hb dX10_readTagLine_39 (by decide) ?_
      refine lv_ldc2 (v := 9999) hx hb C.2.2.2.1 (C.2.2.2.2.1 _ q_1418) dX10_readTagLine_40 ?_
      obtain ⟨r40, hc41, hf⟩ := bd1_some hf
      refine ca_iS C w (wn := fun _ => w_X10_readTagLine g h0 h1 h2 h3 h4 v0_0 v0_2 v0_10 v0_12 v0_13 v0_14 v0_15 v0_16 v0_17 v0_20 v0_21 v0_22 v0_23 v0_24 v0_25 v0_26 v0_27 v0_28 v0_29 v0_30 v0_31 v0_32 v0_33 v0_34 v0_35 v0_36 v0_37 textLength0 o30 o31 o32 o33 o34 o35 buffer1 draft2 tagAxles3 tagPlate4) (pm_k [false, false, false, false, false] rfl rfl (fun _ => Nat.le_of_ble_eq_true rfl) (fun _ => rfl)) (c_X10_within l g F o33.toInt64 1 9999 r40 _ hc41) k_X10_115 (rm_le (by decide) (by decide)) rfl hl.1 rfl (Nat.le_of_ble_eq_true rfl) dX10_readTagLine_43 ⟨Nat.le_of_ble_eq_true rfl, Nat.le_of_ble_eq_true rfl⟩ (cells2 := 0) (slots2 := 0) ⟨rfl, rfl⟩ (fun _ H locs w => ?_)
      refine lv_if_eq (tgt := 71) hx hb dX10_readTagLine_46 (by decide) (fun c42 => ?_) (fun c42 => ?_)
      · replace hf := it_t c42 hf
        exact b71 (12 + a38) o30 o31 o32 o33 o34 o35 draft2 tagAxles3 tagPlate4 _ _ _ hf w (lv_sub hl [1, 0] rfl)
      · replace hf := it_f c42 hf
        refine lv_aload_n hx hb dX10_readTagLine_49 rfl (lv_at hl 1 rfl) ?_
        refine lv_aload_n hx hb dX10_readTagLine_50 rfl (lv_at hl 1 rfl) ?_
        refine lv_aload_n hx hb dX10_readTagLine_51 rfl (lv_at hl 1 rfl) ?_
        refine g_X10_123 C w 0 rfl rfl dX10_readTagLine_52 ?_
        obtain ⟨r43, hc44, hf⟩ := bd1_some hf
        refine ca_iV C w (wn := fun _ => w_X10_readTagLine g h0 h1 h2 h3 h4 v0_0 v0_2 v0_10 v0_12 v0_13 v0_14 v0_15 v0_16 v0_17 v0_20 v0_21 v0_22 v0_23 v0_24 v0_25 v0_26 v0_27 v0_28 v0_29 v0_30 v0_31 v0_32 v0_33 v0_34 v0_35 v0_36 v0_37 textLength0 o30 o31 o32 o33 o34 o35 buffer1 draft2 tagAxles3 tagPlate4) (pm_k [true, false, true, false, true] rfl rfl (fun _ => Nat.le_of_ble_eq_true rfl) (fun _ => rfl)) (c_X10_isPlated l g F h0 h2 h4 v0_0 (.ref h1) v0_2 (.int textLength0) (.int o30) (.int o31) (.int o32) (.int o33) (.int o34) (.int o35) v0_10 v0_12 v0_13 v0_14 v0_15 v0_16 v0_17 (.ref h3) v0_20 v0_21 v0_22 v0_23 v0_24 v0_25 v0_26 v0_27 v0_28 v0_29 v0_30 v0_31 v0_32 v0_33 v0_34 v0_35 v0_36 v0_37 o33 draft2 tagPlate4 r43 _ hc44) k_X10_161 (rm_le (by decide) (by decide)) 0 10 rfl rfl rfl rfl hl.1 rfl (Nat.le_of_ble_eq_true rfl) dX10_readTagLine_55 ⟨Nat.le_of_ble_eq_true rfl, Nat.le_of_ble_eq_true rfl⟩ (cells2 := 0) (slots2 := 0) ⟨rfl, rfl⟩ (fun _ H locs w => ?_)
        refine lv_if_ne (tgt := 65) hx hb dX10_readTagLine_58 (by decide) (fun c45 => ?_) (fun c45 => ?_)
        · replace hf := it_f c45 hf
          refine lv_iconst (v := 0) hx hb dX10_readTagLine_65 (by decide) ?_
          exact b66 (12 + a38) 0 o30 o31 o32 o33 o34 o35 draft2 tagAxles3 tagPlate4 _ _ _ hf w (lv_sub hl [1, 0] rfl)
        · replace hf := it_t c45 hf
          refine lv_iconst (v := 1) hx hb dX10_readTagLine_61 (by decide) ?_
          refine lv_goto (tgt := 66) hx hb dX10_readTagLine_62 (by decide) ?_
          exact b66 (12 + a38) 1 o30 o31 o32 o33 o34 o35 draft2 tagAxles3 tagPlate4 _ _ _ hf w (lv_sub hl [1, 0] rfl)
  · replace hf := it_t c37 hf
    obtain ⟨e1, e2, e3, e4, e5, e6, e7, e8, e9⟩ := tp9 hf
    rw [hQ]
    exact rt_v C w rfl (fun _ => 0) (by rw [← e1, ← e2, ← e3, ← e4, ← e5, ← e6, ← e7, ← e8, ← e9]) dX10_readTagLine_15
