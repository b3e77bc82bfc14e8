theorem dX10_priceFor_0 : decode cX10_priceFor 0 = .ok (.iload_n 2, 1) := by decide +kernel
theorem dX10_priceFor_1 : decode cX10_priceFor 1 = .ok (.ifCond .ge 7, 3) := by decide +kernel
theorem dX10_priceFor_4 : decode cX10_priceFor 4 = .ok (.iload_n 1, 1) := by decide +kernel
theorem dX10_priceFor_5 : decode cX10_priceFor 5 = .ok (.goto 14, 3) := by decide +kernel
theorem dX10_priceFor_8 : decode cX10_priceFor 8 = .ok (.iload_n 1, 1) := by decide +kernel
theorem dX10_priceFor_9 : decode cX10_priceFor 9 = .ok (.aload_n 0, 1) := by decide +kernel
theorem dX10_priceFor_10 : decode cX10_priceFor 10 = .ok (.getfield 35, 3) := by decide +kernel
theorem dX10_priceFor_13 : decode cX10_priceFor 13 = .ok (.iload_n 2, 1) := by decide +kernel
theorem dX10_priceFor_14 : decode cX10_priceFor 14 = .ok (.iaload, 1) := by decide +kernel
theorem dX10_priceFor_15 : decode cX10_priceFor 15 = .ok (.imul, 1) := by decide +kernel
theorem dX10_priceFor_16 : decode cX10_priceFor 16 = .ok (.bipush 100, 2) := by decide +kernel
theorem dX10_priceFor_18 : decode cX10_priceFor 18 = .ok (.idiv, 1) := by decide +kernel
theorem dX10_priceFor_19 : decode cX10_priceFor 19 = .ok (.ireturn, 1) := by decide +kernel
abbrev m_X10_priceFor : MD := (yX10_priceFor, cX10_priceFor, 3, (some .int))

abbrev w_X10_priceFor (g : GT) (h0 h1 : Nat) (v0_0 v0_1 v0_2 v0_3 v0_4 v0_5 v0_6 v0_7 v0_8 v0_9 v0_10 v0_11 v0_12 v0_13 v0_14 v0_15 v0_16 v0_18 v0_19 v0_20 v0_21 v0_22 v0_23 v0_24 v0_25 v0_26 v0_27 v0_28 v0_29 v0_30 v0_31 v0_32 v0_33 v0_34 v0_35 v0_36 v0_37 : Value) (classPercent1 : Nat → Int32) : va_W := [(h0, .inr (10, [v0_0, v0_1, v0_2, v0_3, v0_4, v0_5, v0_6, v0_7, v0_8, v0_9, v0_10, v0_11, v0_12, v0_13, v0_14, v0_15, v0_16, .ref h1, v0_18, v0_19, v0_20, v0_21, v0_22, v0_23, v0_24, v0_25, v0_26, v0_27, v0_28, v0_29, v0_30, v0_31, v0_32, v0_33, v0_34, v0_35, v0_36, v0_37])), (h1, aI g 8 classPercent1)]
def f_X10_priceFor_b19 (F : Nat) (classPercent1 : Nat → Int32) (s0 : Int32) : Option (Int32) :=
  some s0
def f_X10_priceFor (F : Nat) (p1 p2 : Int32) (classPercent1 : Nat → Int32) : Option (Int32) :=
  if 0 ≤ p2 then
    rd classPercent1 8 p2 fun a2 =>
    f_X10_priceFor_b19 F classPercent1 ((p1 * a2) / 100)
  else
    f_X10_priceFor_b19 F classPercent1 p1
set_option maxHeartbeats 4000000 in
set_option maxRecDepth 100000 in
theorem c_X10_priceFor (l : Launch) (g : GT) (F : Nat) (h0 h1 : Nat) (v0_0 v0_1 v0_2 v0_3 v0_4 v0_5 v0_6 v0_7 v0_8 v0_9 v0_10 v0_11 v0_12 v0_13 v0_14 v0_15 v0_16 v0_18 v0_19 v0_20 v0_21 v0_22 v0_23 v0_24 v0_25 v0_26 v0_27 v0_28 v0_29 v0_30 v0_31 v0_32 v0_33 v0_34 v0_35 v0_36 v0_37 : Value) (p1 p2 : Int32) (classPercent1 : Nat → Int32) (r : Int32) (sz : Nat) (hf : f_X10_priceFor F p1 p2 classPercent1 = some r) : CI l m_X10_priceFor (rml 0 0 0) g (w_X10_priceFor g h0 h1 v0_0 v0_1 v0_2 v0_3 v0_4 v0_5 v0_6 v0_7 v0_8 v0_9 v0_10 v0_11 v0_12 v0_13 v0_14 v0_15 v0_16 v0_18 v0_19 v0_20 v0_21 v0_22 v0_23 v0_24 v0_25 v0_26 v0_27 v0_28 v0_29 v0_30 v0_31 v0_32 v0_33 v0_34 v0_35 v0_36 v0_37 classPercent1) (fun _ => w_X10_priceFor g h0 h1 v0_0 v0_1 v0_2 v0_3 v0_4 v0_5 v0_6 v0_7 v0_8 v0_9 v0_10 v0_11 v0_12 v0_13 v0_14 v0_15 v0_16 v0_18 v0_19 v0_20 v0_21 v0_22 v0_23 v0_24 v0_25 v0_26 v0_27 v0_28 v0_29 v0_30 v0_31 v0_32 v0_33 v0_34 v0_35 v0_36 v0_37 classPercent1) sz [.ref h0, .int p1, .int p2] r := by
  refine en_i (by decide) (Nat.le_of_ble_eq_true rfl) (fun p e s m args below meth c A ls C w hl => ?_)
  have C : Cx p s m args meth c RX10 m_X10_priceFor g A := C
  have hx := C.1
  have hb : c.code = cX10_priceFor := C.2.1
  have hl : lv_has ls 3 [(0, .ref h0), (1, .int p1), (2, .int p2)] := hl
  obtain ⟨Q, hQ⟩ : ∃ Q, Q = QI below args s g A (fun _ => w_X10_priceFor g h0 h1 v0_0 v0_1 v0_2 v0_3 v0_4 v0_5 v0_6 v0_7 v0_8 v0_9 v0_10 v0_11 v0_12 v0_13 v0_14 v0_15 v0_16 v0_18 v0_19 v0_20 v0_21 v0_22 v0_23 v0_24 v0_25 v0_26 v0_27 v0_28 v0_29 v0_30 v0_31 v0_32 v0_33 v0_34 v0_35 v0_36 v0_37 classPercent1) r 0 0 := ⟨_, rfl⟩
  suffices hW : W p l e (rml 0 0 0) s m args below meth c s.heap [] 0 0 Q (F0 m 0 ls []) from (by rw [hQ] at hW; exact hW)
  unfold f_X10_priceFor at hf
  have b19 : ∀ (s0 : Int32) (H : Heap) (locs : List Loc) (ls : Array Slot), f_X10_priceFor_b19 F classPercent1 s0 = some r → Wd g A (w_X10_priceFor g h0 h1 v0_0 v0_1 v0_2 v0_3 v0_4 v0_5 v0_6 v0_7 v0_8 v0_9 v0_10 v0_11 v0_12 v0_13 v0_14 v0_15 v0_16 v0_18 v0_19 v0_20 v0_21 v0_22 v0_23 v0_24 v0_25 v0_26 v0_27 v0_28 v0_29 v0_30 v0_31 v0_32 v0_33 v0_34 v0_35 v0_36 v0_37 classPercent1) s.heap H locs → lv_has ls 3 [] → W p l e (rml 0 0 0) s m args below meth c H locs 0 0 Q (F0 m 19 ls [.int s0]) := by
    intro s0 H locs ls hf w hl
    unfold f_X10_priceFor_b19 at hf
    obtain e1 := tp1 hf
    rw [hQ]
    exact rt_i C w rfl (fun _ => 0) rfl e1 dX10_priceFor_19
  refine lv_iload_n hx hb dX10_priceFor_0 rfl (lv_at hl 2 rfl) ?_
  refine lv_if_ge (tgt := 8) hx hb dX10_priceFor_1 (by decide) (fun c1 => ?_) (fun c1 => ?_)
  · replace hf := it_t c1 hf
    refine lv_iload_n hx hb dX10_priceFor_8 rfl (lv_at hl 1 rfl) ?_
    refine lv_aload_n hx hb dX10_priceFor_9 rfl (lv_at hl 0 rfl) ?_
    refine g_X10_35 C w 0 rfl rfl dX10_priceFor_10 ?_
    refine lv_iload_n hx hb dX10_priceFor_13 rfl (lv_at hl 2 rfl) ?_
    obtain ⟨a2, hia2, haa2, hf⟩ := rd_some hf
    refine ial C w 1 rfl hia2 haa2 dX10_priceFor_14 ?_
    refine lv_imul hx hb dX10_priceFor_15 ?_
    refine lv_bipush (v := 100) hx hb dX10_priceFor_16 (by decide) ?_
    refine lv_idiv hx hb dX10_priceFor_18 (by decide) ?_
    exact b19 ((p1 * a2) / 100) _ _ _ hf w (lv_sub hl [] rfl)
  · replace hf := it_f c1 hf
    refine lv_iload_n hx hb dX10_priceFor_4 rfl (lv_at hl 1 rfl) ?_
    refine lv_goto (tgt := 19) hx hb dX10_priceFor_5 (by decide) ?_
    exact b19 p1 _ _ _ hf w (lv_sub hl [] rfl)

theorem dX10_isBetter_0 : decode cX10_isBetter 0 = .ok (.aload_n 0, 1) := by decide +kernel
theorem dX10_isBetter_1 : decode cX10_isBetter 1 = .ok (.getfield 225, 3) := by decide +kernel
theorem dX10_isBetter_4 : decode cX10_isBetter 4 = .ok (.ifCond .eq 11, 3) := by decide +kernel
theorem dX10_isBetter_7 : decode cX10_isBetter 7 = .ok (.iload_n 1, 1) := by decide +kernel
theorem dX10_isBetter_8 : decode cX10_isBetter 8 = .ok (.aload_n 0, 1) := by decide +kernel
theorem dX10_isBetter_9 : decode cX10_isBetter 9 = .ok (.getfield 225, 3) := by decide +kernel
theorem dX10_isBetter_12 : decode cX10_isBetter 12 = .ok (.if_icmp .ge 5, 3) := by decide +kernel
theorem dX10_isBetter_15 : decode cX10_isBetter 15 = .ok (.iconst 1, 1) := by decide +kernel
theorem dX10_isBetter_16 : decode cX10_isBetter 16 = .ok (.ireturn, 1) := by decide +kernel
theorem dX10_isBetter_17 : decode cX10_isBetter 17 = .ok (.iload_n 1, 1) := by decide +kernel
theorem dX10_isBetter_18 : decode cX10_isBetter 18 = .ok (.aload_n 0, 1) := by decide +kernel
theorem dX10_isBetter_19 : decode cX10_isBetter 19 = .ok (.getfield 225, 3) := by decide +kernel
theorem dX10_isBetter_22 : decode cX10_isBetter 22 = .ok (.if_icmp .gt 11, 3) := by decide +kernel
theorem dX10_isBetter_25 : decode cX10_isBetter 25 = .ok (.iload_n 2, 1) := by decide +kernel
theorem dX10_isBetter_26 : decode cX10_isBetter 26 = .ok (.aload_n 0, 1) := by decide +kernel
theorem dX10_isBetter_27 : decode cX10_isBetter 27 = .ok (.getfield 228, 3) := by decide +kernel
theorem dX10_isBetter_30 : decode cX10_isBetter 30 = .ok (.if_icmp .le 5, 3) := by decide +kernel
theorem dX10_isBetter_33 : decode cX10_isBetter 33 = .ok (.iconst 0, 1) := by decide +kernel
theorem dX10_isBetter_34 : decode cX10_isBetter 34 = .ok (.ireturn, 1) := by decide +kernel
theorem dX10_isBetter_35 : decode cX10_isBetter 35 = .ok (.iload_n 2, 1) := by decide +kernel
theorem dX10_isBetter_36 : decode cX10_isBetter 36 = .ok (.aload_n 0, 1) := by decide +kernel
theorem dX10_isBetter_37 : decode cX10_isBetter 37 = .ok (.getfield 228, 3) := by decide +kernel
theorem dX10_isBetter_40 : decode cX10_isBetter 40 = .ok (.if_icmp .ge 5, 3) := by decide +kernel
theorem dX10_isBetter_43 : decode cX10_isBetter 43 = .ok (.iconst 1, 1) := by decide +kernel
theorem dX10_isBetter_44 : decode cX10_isBetter 44 = .ok (.ireturn, 1) := by decide +kernel
theorem dX10_isBetter_45 : decode cX10_isBetter 45 = .ok (.iconst 0, 1) := by decide +kernel
theorem dX10_isBetter_46 : decode cX10_isBetter 46 = .ok (.istore_n 3, 1) := by decide +kernel
theorem dX10_isBetter_47 : decode cX10_isBetter 47 = .ok (.iload_n 3, 1) := by decide +kernel
theorem dX10_isBetter_48 : decode cX10_isBetter 48 = .ok (.iload_n 1, 1) := by decide +kernel
theorem dX10_isBetter_49 : decode cX10_isBetter 49 = .ok (.if_icmp .gt 45, 3) := by decide +kernel
theorem dX10_isBetter_52 : decode cX10_isBetter 52 = .ok (.aload_n 0, 1) := by decide +kernel
theorem dX10_isBetter_53 : decode cX10_isBetter 53 = .ok (.getfield 60, 3) := by decide +kernel
theorem dX10_isBetter_56 : decode cX10_isBetter 56 = .ok (.iload_n 3, 1) := by decide +kernel
theorem dX10_isBetter_57 : decode cX10_isBetter 57 = .ok (.iaload, 1) := by decide +kernel
theorem dX10_isBetter_58 : decode cX10_isBetter 58 = .ok (.aload_n 0, 1) := by decide +kernel
theorem dX10_isBetter_59 : decode cX10_isBetter 59 = .ok (.getfield 57, 3) := by decide +kernel
theorem dX10_isBetter_62 : decode cX10_isBetter 62 = .ok (.iload_n 3, 1) := by decide +kernel
theorem dX10_isBetter_63 : decode cX10_isBetter 63 = .ok (.iaload, 1) := by decide +kernel
theorem dX10_isBetter_64 : decode cX10_isBetter 64 = .ok (.if_icmp .eq 24, 3) := by decide +kernel
theorem dX10_isBetter_67 : decode cX10_isBetter 67 = .ok (.aload_n 0, 1) := by decide +kernel
theorem dX10_isBetter_68 : decode cX10_isBetter 68 = .ok (.getfield 60, 3) := by decide +kernel
theorem dX10_isBetter_71 : decode cX10_isBetter 71 = .ok (.iload_n 3, 1) := by decide +kernel
theorem dX10_isBetter_72 : decode cX10_isBetter 72 = .ok (.iaload, 1) := by decide +kernel
theorem dX10_isBetter_73 : decode cX10_isBetter 73 = .ok (.aload_n 0, 1) := by decide +kernel
theorem dX10_isBetter_74 : decode cX10_isBetter 74 = .ok (.getfield 57, 3) := by decide +kernel
theorem dX10_isBetter_77 : decode cX10_isBetter 77 = .ok (.iload_n 3, 1) := by decide +kernel
theorem dX10_isBetter_78 : decode cX10_isBetter 78 = .ok (.iaload, 1) := by decide +kernel
theorem dX10_isBetter_79 : decode cX10_isBetter 79 = .ok (.if_icmp .ge 7, 3) := by decide +kernel
theorem dX10_isBetter_82 : decode cX10_isBetter 82 = .ok (.iconst 1, 1) := by decide +kernel
theorem dX10_isBetter_83 : decode cX10_isBetter 83 = .ok (.goto 4, 3) := by decide +kernel
theorem dX10_isBetter_86 : decode cX10_isBetter 86 = .ok (.iconst 0, 1) := by decide +kernel
theorem dX10_isBetter_87 : decode cX10_isBetter 87 = .ok (.ireturn, 1) := by decide +kernel
theorem dX10_isBetter_88 : decode cX10_isBetter 88 = .ok (.iinc 3 1, 3) := by decide +kernel
theorem dX10_isBetter_91 : decode cX10_isBetter 91 = .ok (.goto (-44), 3) := by decide +kernel
theorem dX10_isBetter_94 : decode cX10_isBetter 94 = .ok (.iconst 0, 1) := by decide +kernel
theorem dX10_isBetter_95 : decode cX10_isBetter 95 = .ok (.ireturn, 1) := by decide +kernel
abbrev m_X10_isBetter : MD := (yX10_isBetter, cX10_isBetter, 4, (some .boolean))
theorem g_X10_60 {p : Program} {l : Launch} {e : Env} {R : Room} {s : State} {m : MethodId} {args : Array Value} {below : List Frame} {meth : Method} {c : Code} {H : Heap} {locs : List Loc} {cells slots : Nat} {Q : State → Prop} {d : MD} {g : GT} {A : Nat → Prop} {ws : va_W} {pc : Nat} {ls : Array Slot} {rest : List Value} (C : Cx p s m args meth c RX10 d g A) (w : Wd g A ws s.heap H locs) (q0 : Nat) {a : Nat} {fs : List Value} {v : Value} (he : ws[q0]? = some (a, .inr (10, fs))) (hv : fs[29]? = some v) (hd : decode d.2.1 pc = .ok (.getfield 60, 3)) (kk : W p l e R s m args below meth c H locs cells slots Q (F0 m (pc + 3) ls (v :: rest))) : W p l e R s m args below meth c H locs cells slots Q (F0 m pc ls (.ref a :: rest)) := fg C w inX10s (ref := RX10) rfl 29 (by decide) (ts_t (w := Cond.fieldLink RX10 60 RX10 (TX10 29).2.1 (TX10 29).2.2.1) 1251 (by decide +kernel) (by decide +kernel)) rfl q0 he hv hd kk
theorem g_X10_57 {p : Program} {l : Launch} {e : Env} {R : Room} {s : State} {m : MethodId} {args : Array Value} {below : List Frame} {meth : Method} {c : Code} {H : Heap} {locs : List Loc} {cells slots : Nat} {Q : State → Prop} {d : MD} {g : GT} {A : Nat → Prop} {ws : va_W} {pc : Nat} {ls : Array Slot} {rest : List Value} (C : Cx p s m args meth c RX10 d g A) (w : Wd g A ws s.heap H locs) (q0 : Nat) {a : Nat} {fs : List Value} {v : Value} (he : ws[q0]? = some (a, .inr (10, fs))) (hv : fs[28]? = some v) (hd : decode d.2.1 pc = .ok (.getfield 57, 3)) (kk : W p l e R s m args below meth c H locs cells slots Q (F0 m (pc + 3) ls (v :: rest))) : W p l e R s m args below meth c H locs cells slots Q (F0 m pc ls (.ref a :: rest)) := fg C w inX10s (ref := RX10) rfl 28 (by decide) (ts_t (w := Cond.fieldLink RX10 57 RX10 (TX10 28).2.1 (TX10 28).2.2.1) 1250 (by decide +kernel) (by decide +kernel)) rfl q0 he hv hd kk
theorem g_X10_225 {p : Program} {l : Launch} {e : Env} {R : Room} {s : State} {m : MethodId} {args : Array Value} {below : List Frame} {meth : Method} {c : Code} {H : Heap} {locs : List Loc} {cells slots : Nat} {Q : State → Prop} {d : MD} {g : GT} {A : Nat → Prop} {ws : va_W} {pc : Nat} {ls : Array Slot} {rest : List Value} (C : Cx p s m args meth c RX10 d g A) (w : Wd g A ws s.heap H locs) (q0 : Nat) {a : Nat} {fs : List Value} {v : Value} (he : ws[q0]? = some (a, .inr (10, fs))) (hv : fs[26]? = some v) (hd : decode d.2.1 pc = .ok (.getfield 225, 3)) (kk : W p l e R s m args below meth c H locs cells slots Q (F0 m (pc + 3) ls (v :: rest))) : W p l e R s m args below meth c H locs cells slots Q (F0 m pc ls (.ref a :: rest)) := fg C w inX10s (ref := RX10) rfl 26 (by decide) (ts_t (w := Cond.fieldLink RX10 225 RX10 (TX10 26).2.1 (TX10 26).2.2.1) 1248 (by decide +kernel) (by decide +kernel)) rfl q0 he hv hd kk
theorem g_X10_228 {p : Program} {l : Launch} {e : Env} {R : Room} {s : State} {m : MethodId} {args : Array Value} {below : List Frame} {meth : Method} {c : Code} {H : Heap} {locs : List Loc} {cells slots : Nat} {Q : State → Prop} {d : MD} {g : GT} {A : Nat → Prop} {ws : va_W} {pc : Nat} {ls : Array Slot} {rest : List Value} (C : Cx p s m args meth c RX10 d g A) (w : Wd g A ws s.heap H locs) (q0 : Nat) {a : Nat} {fs : List Value} {v : Value} (he : ws[q0]? = some (a, .inr (10, fs))) (hv : fs[27]? = some v) (hd : decode d.2.1 pc = .ok (.getfield 228, 3)) (kk : W p l e R s m args below meth c H locs cells slots Q (F0 m (pc + 3) ls (v :: rest))) : W p l e R s m args below meth c H locs cells slots Q (F0 m pc ls (.ref a :: rest)) := fg C w inX10s (ref := RX10) rfl 27 (by decide) (ts_t (w := Cond.fieldLink RX10 228 RX10 (TX10 27).2.1 (TX10 27).2.2.1) 1249 (by decide +kernel) (by decide +kernel)) rfl q0 he hv hd kk
abbrev w_X10_isBetter (g : GT) (h0 h1 h2 : Nat) (v0_0 v0_1 v0_2 v0_3 v0_4 v0_5 v0_6 v0_7 v0_8 v0_9 v0_10 v0_11 v0_12 v0_13 v0_14 v0_15 v0_16 v0_17 v0_18 v0_19 v0_20 v0_21 v0_22 v0_23 v0_24 v0_25 v0_30 v0_31 v0_32 v0_33 v0_34 v0_35 v0_36 v0_37 : Value) (routeMany0 routeCost0 : Int32) (route1 tried2 : Nat → Int32) : va_W := [(h0, .inr (10, [v0_0, v0_1, v0_2, v0_3, v0_4, v0_5, v0_6, v0_7, v0_8, v0_9, v0_10, v0_11, v0_12, v0_13, v0_14, v0_15, v0_16, v0_17, v0_18, v0_19, v0_20, v0_21, v0_22, v0_23, v0_24, v0_25, .int routeMany0, .int routeCost0, .ref h1, .ref h2, v0_30, v0_31, v0_32, v0_33, v0_34, v0_35, v0_36, v0_37])), (h1, aI g 4 route1), (h2, aI g 4 tried2)]
def f_X10_isBetter_b87 (F : Nat) (k47 : (Int32 × Int32) → Option (Int32)) (routeMany0 routeCost0 : Int32) (route1 tried2 : Nat → Int32) (s0 : Int32) : Option (Int32) :=
  gd (s0 = 0 ∨ s0 = 1) (some s0)
def f_X10_isBetter_h47 (F : Nat) (routeMany0 routeCost0 : Int32) (route1 tried2 : Nat → Int32) (k47 : (Int32 × Int32) → Option (Int32)) (x1 x3 : Int32) : Option (Int32) :=
  if x1 < x3 then
    gd ((0 : Int32) = 0 ∨ (0 : Int32) = 1) (some 0)
  else
    rd tried2 4 x3 fun a2 =>
    rd route1 4 x3 fun a3 =>
    if a2 = a3 then
      k47 (x1, x3 + 1)
    else
      rd tried2 4 x3 fun a5 =>
      rd route1 4 x3 fun a6 =>
      if a6 ≤ a5 then
        f_X10_isBetter_b87 F k47 routeMany0 routeCost0 route1 tried2 0
      else
        f_X10_isBetter_b87 F k47 routeMany0 routeCost0 route1 tried2 1
def f_X10_isBetter_L47 (F : Nat) (routeMany0 routeCost0 : Int32) (route1 tried2 : Nat → Int32) (z : Int32 × Int32) : Option (Int32) := lp (fun k z => f_X10_isBetter_h47 F routeMany0 routeCost0 route1 tried2 k z.1 z.2) F z
def f_X10_isBetter_b33 (F : Nat) (routeMany0 routeCost0 : Int32) (route1 tried2 : Nat → Int32) : Option (Int32) :=
  gd ((0 : Int32) = 0 ∨ (0 : Int32) = 1) (some 0)
def f_X10_isBetter_b15 (F : Nat) (routeMany0 routeCost0 : Int32) (route1 tried2 : Nat → Int32) : Option (Int32) :=
  gd ((1 : Int32) = 0 ∨ (1 : Int32) = 1) (some 1)
def f_X10_isBetter (F : Nat) (p1 p2 routeMany0 routeCost0 : Int32) (route1 tried2 : Nat → Int32) : Option (Int32) :=
  if routeMany0 = 0 then
    f_X10_isBetter_b15 F routeMany0 routeCost0 route1 tried2
  else
    if routeMany0 ≤ p1 then
      if routeMany0 < p1 then
        f_X10_isBetter_b33 F routeMany0 routeCost0 route1 tried2
      else
        if p2 ≤ routeCost0 then
          if routeCost0 ≤ p2 then
            f_X10_isBetter_L47 F routeMany0 routeCost0 route1 tried2 (p1, 0)
          else
            gd ((1 : Int32) = 0 ∨ (1 : Int32) = 1) (some 1)
        else
          f_X10_isBetter_b33 F routeMany0 routeCost0 route1 tried2
    else
      f_X10_isBetter_b15 F routeMany0 routeCost0 route1 tried2
set_option maxHeartbeats 4000000 in
set_option maxRecDepth 100000 in
theorem c_X10_isBetter (l : Launch) (g : GT) (F : Nat) (h0 h1 h2 : Nat) (v0_0 v0_1 v0_2 v0_3 v0_4 v0_5 v0_6 v0_7 v0_8 v0_9 v0_10 v0_11 v0_12 v0_13 v0_14 v0_15 v0_16 v0_17 v0_18 v0_19 v0_20 v0_21 v0_22 v0_23 v0_24 v0_25 v0_30 v0_31 v0_32 v0_33 v0_34 v0_35 v0_36 v0_37 : Value) (p1 p2 routeMany0 routeCost0 : Int32) (route1 tried2 : Nat → Int32) (r : Int32) (sz : Nat) (hf : f_X10_isBetter F p1 p2 routeMany0 routeCost0 route1 tried2 = some r) : CI l m_X10_isBetter (rml 0 0 0) g (w_X10_isBetter g h0 h1 h2 v0_0 v0_1 v0_2 v0_3 v0_4 v0_5 v0_6 v0_7 v0_8 v0_9 v0_10 v0_11 v0_12 v0_13 v0_14 v0_15 v0_16 v0_17 v0_18 v0_19 v0_20 v0_21 v0_22 v0_23 v0_24 v0_25 v0_30 v0_31 v0_32 v0_33 v0_34 v0_35 v0_36 v0_37 routeMany0 routeCost0 route1 tried2) (fun _ => w_X10_isBetter g h0 h1 h2 v0_0 v0_1 v0_2 v0_3 v0_4 v0_5 v0_6 v0_7 v0_8 v0_9 v0_10 v0_11 v0_12 v0_13 v0_14 v0_15 v0_16 v0_17 v0_18 v0_19 v0_20 v0_21 v0_22 v0_23 v0_24 v0_25 v0_30 v0_31 v0_32 v0_33 v0_34 v0_35 v0_36 v0_37 routeMany0 routeCost0 route1 tried2) sz [.ref h0, .int p1, .int p2] r := by
  refine en_i (by decide) (Nat.le_of_ble_eq_true rfl) (fun p e s m args below meth c A ls C w hl => ?_)
  have C : Cx p s m args meth c RX10 m_X10_isBetter g A := C
  have hx := C.1
  have hb : c.code = cX10_isBetter := C.2.1
  have hl : lv_has ls 4 [(0, .ref h0), (1, .int p1), (2, .int p2)] := hl
  obtain ⟨Q, hQ⟩ : ∃ Q, Q = QI below args s g A (fun _ => w_X10_isBetter g h0 h1 h2 v0_0 v0_1 v0_2 v0_3 v0_4 v0_5 v0_6 v0_7 v0_8 v0_9 v0_10 v0_11 v0_12 v0_13 v0_14 v0_15 v0_16 v0_17 v0_18 v0_19 v0_20 v0_21 v0_22 v0_23 v0_24 v0_25 v0_30 v0_31 v0_32 v0_33 v0_34 v0_35 v0_36 v0_37 routeMany0 routeCost0 route1 tried2) r 0 0 := ⟨_, rfl⟩
  suffices hW : W p l e (rml 0 0 0) s m args below meth c s.heap [] 0 0 Q (F0 m 0 ls []) from (by rw [hQ] at hW; exact hW)
  unfold f_X10_isBetter at hf
  have L47 : ∀ (z : Int32 × Int32), f_X10_isBetter_L47 F routeMany0 routeCost0 route1 tried2 z = some r → ∀ (H : Heap) (locs : List Loc) (ls : Array Slot), Wd g A (w_X10_isBetter g h0 h1 h2 v0_0 v0_1 v0_2 v0_3 v0_4 v0_5 v0_6 v0_7 v0_8 v0_9 v0_10 v0_11 v0_12 v0_13 v0_14 v0_15 v0_16 v0_17 v0_18 v0_19 v0_20 v0_21 v0_22 v0_23 v0_24 v0_25 v0_30 v0_31 v0_32 v0_33 v0_34 v0_35 v0_36 v0_37 routeMany0 routeCost0 route1 tried2) s.heap H locs → lv_has ls 4 [(0, .ref h0), (1, .int z.1), (3, .int z.2)] → W p l e (rml 0 0 0) s m args below meth c H locs 0 0 Q (F0 m 47 ls []) := by
    intro z hf
    refine lp_W (r := r) (fun (z : Int32 × Int32) => ∀ (H : Heap) (locs : List Loc) (ls : Array Slot), Wd g A (w_X10_isBetter g h0 h1 h2 v0_0 v0_1 v0_2 v0_3 v0_4 v0_5 v0_6 v0_7 v0_8 v0_9 v0_10 v0_11 v0_12 v0_13 v0_14 v0_15 v0_16 v0_17 v0_18 v0_19 v0_20 v0_21 v0_22 v0_23 v0_24 v0_25 v0_30 v0_31 v0_32 v0_33 v0_34 v0_35 v0_36 v0_37 routeMany0 routeCost0 route1 tried2) s.heap H locs → lv_has ls 4 [(0, .ref h0), (1, .int z.1), (3, .int z.2)] → W p l e (rml 0 0 0) s m args below meth c H locs 0 0 Q (F0 m 47 ls [])) (fun k47 z ih47 hf => ?_) F z hf
    obtain ⟨x1, x3⟩ := z
    intro H locs ls w hl
    try dsimp only at hf w hl ⊢
    unfold f_X10_isBetter_h47 at hf
    have b87 : ∀ (s0 : Int32) (H : Heap) (locs : List Loc) (ls : Array Slot), f_X10_isBetter_b87 F k47 routeMany0 routeCost0 route1 tried2 s0 = some r → Wd g A (w_X10_isBetter g h0 h1 h2 v0_0 v0_1 v0_2 v0_3 v0_4 v0_5 v0_6 v0_7 v0_8 v0_9 v0_10 v0_11 v0_12 v0_13 v0_14 v0_15 v0_16 v0_17 v0_18 v0_19 v0_20 v0_21 v0_22 v0_23 v0_24 v0_25 v0_30 v0_31 v0_32 v0_33 v0_34 v0_35 v0_36 v0_37 routeMany0 routeCost0 route1 tried2) s.heap H locs → lv_has ls 4 [] → W p l e (rml 0 0 0) s m args below meth c H locs 0 0 Q (F0 m 87 ls [.int s0]) := by
      intro s0 H locs ls hf w hl
      unfold f_X10_isBetter_b87 at hf
      obtain ⟨h01, hf⟩ := gd_some hf
      obtain e1 := tp1 hf
      rw [hQ]
      exact rt_z C w rfl h01 (fun _ => 0) rfl e1 dX10_isBetter_87
    refine lv_iload_n hx hb dX10_isBetter_47 rfl (lv_at hl 2 rfl) ?_
    refine lv_iload_n hx hb dX10_isBetter_48 rfl (lv_at hl 1 rfl) ?_
    refine lv_icmp_gt (tgt := 94) hx hb dX10_isBetter_49 (by decide) (fun c1 => ?_) (fun c1 => ?_)
    · replace hf := it_t c1 hf
      refine lv_iconst (v := 0) hx hb dX10_isBetter_94 (by decide) ?_
      obtain ⟨h01, hf⟩ := gd_some hf
      obtain e1 := tp1 hf
      rw [hQ]
      exact rt_z C w rfl h01 (fun _ => 0) rfl e1 dX10_isBetter_95
    · replace hf := it_f c1 hf
      refine lv_aload_n hx hb dX10_isBetter_52 rfl (lv_at hl 0 rfl) ?_
      refine g_X10_60 C w 0 rfl rfl dX10_isBetter_53 ?_
      refine lv_iload_n hx hb dX10_isBetter_56 rfl (lv_at hl 2 rfl) ?_
      obtain ⟨a2, hia2, haa2, hf⟩ := rd_some hf
      refine ial C w 2 rfl hia2 haa2 dX10_isBetter_57 ?_
      refine lv_aload_n hx hb dX10_isBetter_58 rfl (lv_at hl 0 rfl) ?_
      refine g_X10_57 C w 0 rfl rfl dX10_isBetter_59 ?_
      refine lv_iload_n hx hb dX10_isBetter_62 rfl (lv_at hl 2 rfl) ?_
      obtain ⟨a3, hia3, haa3, hf⟩ := rd_some hf
      refine ial C w 1 rfl hia3 haa3 dX10_isBetter_63 ?_
      refine lv_icmp_eq (tgt := 88) hx hb dX10_isBetter_64 (by decide) (fun c4 => ?_) (fun c4 => ?_)
      · replace hf := it_t c4 hf
        refine lv_iinc (v := x3 + 1) (lv' := [(3, .int (x3 + 1)), (0, .ref h0), (1, .int x1)]) hx hb dX10_isBetter_88 hl (k := 2) rfl rfl (by decide) rfl (fun ls hl => ?_)
        refine lv_goto (tgt := 47) hx hb dX10_isBetter_91 (by decide) ?_
        exact ih47 (x1, x3 + 1) hf _ _ _ w (lv_sub hl [1, 2, 0] rfl)
      · replace hf := it_f c4 hf
        refine lv_aload_n hx hb dX10_isBetter_67 rfl (lv_at hl 0 rfl) ?_
        refine g_X10_60 C w 0 rfl rfl dX10_isBetter_68 ?_
        refine lv_iload_n hx hb dX10_isBetter_71 rfl (lv_at hl 2 rfl) ?_
        obtain ⟨a5, hia5, haa5, hf⟩ := rd_some hf
        refine ial C w 2 rfl hia5 haa5 dX10_isBetter_72 ?_
        refine lv_aload_n hx hb dX10_isBetter_73 rfl (lv_at hl 0 rfl) ?_
        refine g_X10_57 C w 0 rfl rfl dX10_isBetter_74 ?_
        refine lv_iload_n hx hb dX10_isBetter_77 rfl (lv_at hl 2 rfl) ?_
        obtain ⟨a6, hia6, haa6, hf⟩ := rd_some hf
        refine ial C w 1 rfl hia6 haa6 dX10_isBetter_78 ?_
        refine lv_icmp_ge (tgt := 86) hx hb dX10_isBetter_79 (by decide) (fun c7 => ?_) (fun c7 => ?_)
        · replace hf := it_t c7 hf
          refine lv_iconst (v := 0) hx hb dX10_isBetter_86 (by decide) ?_
          exact b87 0 _ _ _ hf w (lv_sub hl [] rfl)
        · replace hf := it_f c7 hf
          refine lv_iconst (v := 1) hx hb dX10_isBetter_82 (by decide) ?_
          refine lv_goto (tgt := 87) hx hb dX10_isBetter_83 (by decide) ?_
          exact b87 1 _ _ _ hf w (lv_sub hl [] rfl)
  have b33 : ∀ (H : Heap) (locs : List Loc) (ls : Array Slot), f_X10_isBetter_b33 F routeMany0 routeCost0 route1 tried2 = some r → Wd g A (w_X10_isBetter g h0 h1 h2 v0_0 v0_1 v0_2 v0_3 v0_4 v0_5 v0_6 v0_7 v0_8 v0_9 v0_10 v0_11 v0_12 v0_13 v0_14 v0_15 v0_16 v0_17 v0_18 v0_19 v0_20 v0_21 v0_22 v0_23 v0_24 v0_25 v0_30 v0_31 v0_32 v0_33 v0_34 v0_35 v0_36 v0_37 routeMany0 routeCost0 route1 tried2) s.heap H locs → lv_has ls 4 [] → W p l e (rml 0 0 0) s m args below meth c H locs 0 0 Q (F0 m 33 ls []) := by
    intro  H locs ls hf w hl
    unfold f_X10_isBetter_b33 at hf
    refine lv_iconst (v := 0) hx hb dX10_isBetter_33 (by decide) ?_
    obtain ⟨h01, hf⟩ := gd_some hf
    obtain e1 := tp1 hf
    rw [hQ]
    exact rt_z C w rfl h01 (fun _ => 0) rfl e1 dX10_isBetter_34
  have b15 : ∀ (H : Heap) (locs : List Loc) (ls : Array Slot), f_X10_isBetter_b15 F routeMany0 routeCost0 route1 tried2 = some r → Wd g A (w_X10_isBetter g h0 h1 h2 v0_0 v0_1 v0_2 v0_3 v0_4 v0_5 v0_6 v0_7 v0_8 v0_9 v0_10 v0_11 v0_12 v0_13 v0_14 v0_15 v0_16 v0_17 v0_18 v0_19 v0_20 v0_21 v0_22 v0_23 v0_24 v0_25 v0_30 v0_31 v0_32 v0_33 v0_34 v0_35 v0_36 v0_37 routeMany0 routeCost0 route1 tried2) s.heap H locs → lv_has ls 4 [] → W p l e (rml 0 0 0) s m args below meth c H locs 0 0 Q (F0 m 15 ls []) := by
    intro  H locs ls hf w hl
    unfold f_X10_isBetter_b15 at hf
    refine lv_iconst (v := 1) hx hb dX10_isBetter_15 (by decide) ?_
    obtain ⟨h01, hf⟩ := gd_some hf
    obtain e1 := tp1 hf
    rw [hQ]
    exact rt_z C w rfl h01 (fun _ => 0) rfl e1 dX10_isBetter_16
  refine lv_aload_n hx hb dX10_isBetter_0 rfl (lv_at hl 0 rfl) ?_
  refine g_X10_225 C w 0 rfl rfl dX10_isBetter_1 ?_
  refine lv_if_eq (tgt := 15) hx hb dX10_isBetter_4 (by decide) (fun c8 => ?_) (fun c8 => ?_)
  · replace hf := it_t c8 hf
    exact b15  _ _ _ hf w (lv_sub hl [] rfl)
  · replace hf := it_f c8 hf
    refine lv_iload_n hx hb dX10_isBetter_7 rfl (lv_at hl 1 rfl) ?_
    refine lv_aload_n hx hb dX10_isBetter_8 rfl (lv_at hl 0 rfl) ?_
    refine g_X10_225 C w 0 rfl rfl dX10_isBetter_9 ?_
    refine lv_icmp_ge (tgt := 17) hx hb dX10_isBetter_12 (by decide) (fun c9 => ?_) (fun c9 => ?_)
    · replace hf := it_t c9 hf
      refine lv_iload_n hx hb dX10_isBetter_17 rfl (lv_at hl 1 rfl) ?_
      refine lv_aload_n hx hb dX10_isBetter_18 rfl (lv_at hl 0 rfl) ?_
      refine g_X10_225 C w 0 rfl rfl dX10_isBetter_19 ?_
      refine lv_icmp_gt (tgt := 33) hx hb dX10_isBetter_22 (by decide) (fun c10 => ?_) (fun c10 => ?_)
      · replace hf := it_t c10 hf
        exact b33  _ _ _ hf w (lv_sub hl [] rfl)
      · replace hf := it_f c10 hf
        refine lv_iload_n hx hb dX10_isBetter_25 rfl (lv_at hl 2 rfl) ?_
        refine lv_aload_n hx hb dX10_isBetter_26 rfl (lv_at hl 0 rfl) ?_
        refine g_X10_228 C w 0 rfl rfl dX10_isBetter_27 ?_
        refine lv_icmp_le (tgt := 35) hx hb dX10_isBetter_30 (by decide) (fun c11 => ?_) (fun c11 => ?_)
        · replace hf := it_t c11 hf
          refine lv_iload_n hx hb dX10_isBetter_35 rfl (lv_at hl 2 rfl) ?_
          refine lv_aload_n hx hb dX10_isBetter_36 rfl (lv_at hl 0 rfl) ?_
          refine g_X10_228 C w 0 rfl rfl dX10_isBetter_37 ?_
          refine lv_icmp_ge (tgt := 45) hx hb dX10_isBetter_40 (by decide) (fun c12 => ?_) (fun c12 => ?_)
          · replace hf := it_t c12 hf
            refine lv_iconst (v := 0) hx hb dX10_isBetter_45 (by decide) ?_
            refine lv_istore_n (lv' := [(3, .int 0), (0, .ref h0), (1, .int p1), (2, .int p2)]) hx hb dX10_isBetter_46 rfl hl (by decide) rfl (fun ls hl => ?_)
            exact L47 (p1, 0) hf _ _ _ w (lv_sub hl [1, 2, 0] rfl)
          · replace hf := it_f c12 hf
            refine lv_iconst (v := 1) hx hb dX10_isBetter_43 (by decide) ?_
            obtain ⟨h01, hf⟩ := gd_some hf
            obtain e1 := tp1 hf
            rw [hQ]
            exact rt_z C w rfl h01 (fun _ => 0) rfl e1 dX10_isBetter_44
        · replace hf := it_f c11 hf
          exact b33  _ _ _ hf w (lv_sub hl [] rfl)
    · replace hf := it_f c9 hf
      exact b15  _ _ _ hf w (lv_sub hl [] rfl)

theorem dX10_goOn_0 : decode cX10_goOn 0 = .ok (.iload_n 1, 1) := by decide +kernel
theorem dX10_goOn_1 : decode cX10_goOn 1 = .ok (.ifCond .le 69, 3) := by decide +kernel
theorem dX10_goOn_4 : decode cX10_goOn 4 = .ok (.aload_n 0, 1) := by decide +kernel
theorem dX10_goOn_5 : decode cX10_goOn 5 = .ok (.getfield 60, 3) := by decide +kernel
theorem dX10_goOn_8 : decode cX10_goOn 8 = .ok (.iload_n 1, 1) := by decide +kernel
theorem dX10_goOn_9 : decode cX10_goOn 9 = .ok (.iaload, 1) := by decide +kernel
theorem dX10_goOn_10 : decode cX10_goOn 10 = .ok (.iload_n 2, 1) := by decide +kernel
theorem dX10_goOn_11 : decode cX10_goOn 11 = .ok (.if_icmp .ne 59, 3) := by decide +kernel
theorem dX10_goOn_14 : decode cX10_goOn 14 = .ok (.iload_n 3, 1) := by decide +kernel
theorem dX10_goOn_15 : decode cX10_goOn 15 = .ok (.iload 5, 2) := by decide +kernel
theorem dX10_goOn_17 : decode cX10_goOn 17 = .ok (.if_icmp .lt 53, 3) := by decide +kernel
theorem dX10_goOn_20 : decode cX10_goOn 20 = .ok (.aload_n 0, 1) := by decide +kernel
theorem dX10_goOn_21 : decode cX10_goOn 21 = .ok (.iload_n 1, 1) := by decide +kernel
theorem dX10_goOn_22 : decode cX10_goOn 22 = .ok (.iload 4, 2) := by decide +kernel
theorem dX10_goOn_24 : decode cX10_goOn 24 = .ok (.invokevirtual 231, 3) := by decide +kernel
theorem dX10_goOn_27 : decode cX10_goOn 27 = .ok (.ifCond .eq 43, 3) := by decide +kernel
theorem dX10_goOn_30 : decode cX10_goOn 30 = .ok (.aload_n 0, 1) := by decide +kernel
theorem dX10_goOn_31 : decode cX10_goOn 31 = .ok (.iload_n 1, 1) := by decide +kernel
theorem dX10_goOn_32 : decode cX10_goOn 32 = .ok (.putfield 225, 3) := by decide +kernel
theorem dX10_goOn_35 : decode cX10_goOn 35 = .ok (.aload_n 0, 1) := by decide +kernel
theorem dX10_goOn_36 : decode cX10_goOn 36 = .ok (.iload 4, 2) := by decide +kernel
theorem dX10_goOn_38 : decode cX10_goOn 38 = .ok (.putfield 228, 3) := by decide +kernel
theorem dX10_goOn_41 : decode cX10_goOn 41 = .ok (.iconst 0, 1) := by decide +kernel
theorem dX10_goOn_42 : decode cX10_goOn 42 = .ok (.istore 6, 2) := by decide +kernel
theorem dX10_goOn_44 : decode cX10_goOn 44 = .ok (.iload 6, 2) := by decide +kernel
theorem dX10_goOn_46 : decode cX10_goOn 46 = .ok (.iload_n 1, 1) := by decide +kernel
theorem dX10_goOn_47 : decode cX10_goOn 47 = .ok (.if_icmp .gt 23, 3) := by decide +kernel
theorem dX10_goOn_50 : decode cX10_goOn 50 = .ok (.aload_n 0, 1) := by decide +kernel
theorem dX10_goOn_51 : decode cX10_goOn 51 = .ok (.getfield 57, 3) := by decide +kernel
theorem dX10_goOn_54 : decode cX10_goOn 54 = .ok (.iload 6, 2) := by decide +kernel
theorem dX10_goOn_56 : decode cX10_goOn 56 = .ok (.aload_n 0, 1) := by decide +kernel
theorem dX10_goOn_57 : decode cX10_goOn 57 = .ok (.getfield 60, 3) := by decide +kernel
theorem dX10_goOn_60 : decode cX10_goOn 60 = .ok (.iload 6, 2) := by decide +kernel
theorem dX10_goOn_62 : decode cX10_goOn 62 = .ok (.iaload, 1) := by decide +kernel
theorem dX10_goOn_63 : decode cX10_goOn 63 = .ok (.iastore, 1) := by decide +kernel
theorem dX10_goOn_64 : decode cX10_goOn 64 = .ok (.iinc 6 1, 3) := by decide +kernel
theorem dX10_goOn_67 : decode cX10_goOn 67 = .ok (.goto (-23), 3) := by decide +kernel
theorem dX10_goOn_70 : decode cX10_goOn 70 = .ok (.iload_n 1, 1) := by decide +kernel
theorem dX10_goOn_71 : decode cX10_goOn 71 = .ok (.iconst 3, 1) := by decide +kernel
theorem dX10_goOn_72 : decode cX10_goOn 72 = .ok (.if_icmp .ne 4, 3) := by decide +kernel
theorem dX10_goOn_75 : decode cX10_goOn 75 = .ok (.return_, 1) := by decide +kernel
theorem dX10_goOn_76 : decode cX10_goOn 76 = .ok (.iconst 0, 1) := by decide +kernel
theorem dX10_goOn_77 : decode cX10_goOn 77 = .ok (.istore 6, 2) := by decide +kernel
theorem dX10_goOn_79 : decode cX10_goOn 79 = .ok (.iload 6, 2) := by decide +kernel
theorem dX10_goOn_81 : decode cX10_goOn 81 = .ok (.aload_n 0, 1) := by decide +kernel
theorem dX10_goOn_82 : decode cX10_goOn 82 = .ok (.getfield 13, 3) := by decide +kernel
theorem dX10_goOn_85 : decode cX10_goOn 85 = .ok (.iconst 1, 1) := by decide +kernel
theorem dX10_goOn_86 : decode cX10_goOn 86 = .ok (.iaload, 1) := by decide +kernel
theorem dX10_goOn_87 : decode cX10_goOn 87 = .ok (.if_icmp .ge 72, 3) := by decide +kernel
theorem dX10_goOn_90 : decode cX10_goOn 90 = .ok (.aload_n 0, 1) := by decide +kernel
theorem dX10_goOn_91 : decode cX10_goOn 91 = .ok (.getfield 20, 3) := by decide +kernel
theorem dX10_goOn_94 : decode cX10_goOn 94 = .ok (.iload 6, 2) := by decide +kernel
theorem dX10_goOn_96 : decode cX10_goOn 96 = .ok (.iaload, 1) := by decide +kernel
theorem dX10_goOn_97 : decode cX10_goOn 97 = .ok (.aload_n 0, 1) := by decide +kernel
theorem dX10_goOn_98 : decode cX10_goOn 98 = .ok (.getfield 60, 3) := by decide +kernel
theorem dX10_goOn_101 : decode cX10_goOn 101 = .ok (.iload_n 1, 1) := by decide +kernel
theorem dX10_goOn_102 : decode cX10_goOn 102 = .ok (.iaload, 1) := by decide +kernel
theorem dX10_goOn_103 : decode cX10_goOn 103 = .ok (.if_icmp .eq 6, 3) := by decide +kernel
theorem dX10_goOn_106 : decode cX10_goOn 106 = .ok (.goto 47, 3) := by decide +kernel
theorem dX10_goOn_109 : decode cX10_goOn 109 = .ok (.aload_n 0, 1) := by decide +kernel
theorem dX10_goOn_110 : decode cX10_goOn 110 = .ok (.getfield 60, 3) := by decide +kernel
theorem dX10_goOn_113 : decode cX10_goOn 113 = .ok (.iload_n 1, 1) := by decide +kernel
theorem dX10_goOn_114 : decode cX10_goOn 114 = .ok (.iconst 1, 1) := by decide +kernel
theorem dX10_goOn_115 : decode cX10_goOn 115 = .ok (.iadd, 1) := by decide +kernel
theorem dX10_goOn_116 : decode cX10_goOn 116 = .ok (.aload_n 0, 1) := by decide +kernel
theorem dX10_goOn_117 : decode cX10_goOn 117 = .ok (.getfield 23, 3) := by decide +kernel
theorem dX10_goOn_120 : decode cX10_goOn 120 = .ok (.iload 6, 2) := by decide +kernel
theorem dX10_goOn_122 : decode cX10_goOn 122 = .ok (.iaload, 1) := by decide +kernel
theorem dX10_goOn_123 : decode cX10_goOn 123 = .ok (.iastore, 1) := by decide +kernel
theorem dX10_goOn_124 : decode cX10_goOn 124 = .ok (.aload_n 0, 1) := by decide +kernel
theorem dX10_goOn_125 : decode cX10_goOn 125 = .ok (.iload_n 1, 1) := by decide +kernel
theorem dX10_goOn_126 : decode cX10_goOn 126 = .ok (.iconst 1, 1) := by decide +kernel
theorem dX10_goOn_127 : decode cX10_goOn 127 = .ok (.iadd, 1) := by decide +kernel
theorem dX10_goOn_128 : decode cX10_goOn 128 = .ok (.iload_n 2, 1) := by decide +kernel
theorem dX10_goOn_129 : decode cX10_goOn 129 = .ok (.iload_n 3, 1) := by decide +kernel
theorem dX10_goOn_130 : decode cX10_goOn 130 = .ok (.aload_n 0, 1) := by decide +kernel
theorem dX10_goOn_131 : decode cX10_goOn 131 = .ok (.getfield 26, 3) := by decide +kernel
theorem dX10_goOn_134 : decode cX10_goOn 134 = .ok (.iload 6, 2) := by decide +kernel
theorem dX10_goOn_136 : decode cX10_goOn 136 = .ok (.iaload, 1) := by decide +kernel
theorem dX10_goOn_137 : decode cX10_goOn 137 = .ok (.iadd, 1) := by decide +kernel
theorem dX10_goOn_138 : decode cX10_goOn 138 = .ok (.iload 4, 2) := by decide +kernel
theorem dX10_goOn_140 : decode cX10_goOn 140 = .ok (.aload_n 0, 1) := by decide +kernel
theorem dX10_goOn_141 : decode cX10_goOn 141 = .ok (.getfield 29, 3) := by decide +kernel
theorem dX10_goOn_144 : decode cX10_goOn 144 = .ok (.iload 6, 2) := by decide +kernel
theorem dX10_goOn_146 : decode cX10_goOn 146 = .ok (.iaload, 1) := by decide +kernel
theorem dX10_goOn_147 : decode cX10_goOn 147 = .ok (.iadd, 1) := by decide +kernel
theorem dX10_goOn_148 : decode cX10_goOn 148 = .ok (.iload 5, 2) := by decide +kernel
theorem dX10_goOn_150 : decode cX10_goOn 150 = .ok (.invokevirtual 234, 3) := by decide +kernel
theorem dX10_goOn_153 : decode cX10_goOn 153 = .ok (.iinc 6 1, 3) := by decide +kernel
theorem dX10_goOn_156 : decode cX10_goOn 156 = .ok (.goto (-77), 3) := by decide +kernel
theorem dX10_goOn_159 : decode cX10_goOn 159 = .ok (.return_, 1) := by decide +kernel
abbrev m_X10_goOn : MD := (yX10_goOn, cX10_goOn, 7, none)
theorem p_X10_225 {p : Program} {l : Launch} {e : Env} {R : Room} {s : State} {m : MethodId} {args : Array Value} {below : List Frame} {meth : Method} {c : Code} {H : Heap} {locs : List Loc} {cells slots : Nat} {Q : State → Prop} {d : MD} {g : GT} {A : Nat → Prop} {ws : va_W} {pc : Nat} {ls : Array Slot} {rest : List Value} (C : Cx p s m args meth c RX10 d g A) (w : Wd g A ws s.heap H locs) (q0 : Nat) {a : Nat} {fs : List Value} {x : Int32} (he : ws[q0]? = some (a, .inr (10, fs))) (hlt : 26 < fs.length) {ws2 : va_W} (h2 : ws.set q0 (a, .inr (10, fs.set 26 (.int x))) = ws2) (hd : decode d.2.1 pc = .ok (.putfield 225, 3)) (kk : ∀ (H1 : Heap) (locs1 : List Loc), Wd g A ws2 s.heap H1 locs1 → W p l e R s m args below meth c H1 locs1 cells slots Q (F0 m (pc + 3) ls rest)) : W p l e R s m args below meth c H locs cells slots Q (F0 m pc ls (.int x :: .ref a :: rest)) := fp C w inX10s tyX10_ok nmX10 (ref := RX10) rfl 26 (by decide) (ts_t (w := Cond.fieldLink RX10 225 RX10 (TX10 26).2.1 (TX10 26).2.2.1) 1248 (by decide +kernel) (by decide +kernel)) rfl rfl q0 he rfl rfl hlt h2 hd kk
theorem p_X10_228 {p : Program} {l : Launch} {e : Env} {R : Room} {s : State} {m : MethodId} {args : Array Value} {below : List Frame} {meth : Method} {c : Code} {H : Heap} {locs : List Loc} {cells slots : Nat} {Q : State → Prop} {d : MD} {g : GT} {A : Nat → Prop} {ws : va_W} {pc : Nat} {ls : Array Slot} {rest : List Value} (C : Cx p s m args meth c RX10 d g A) (w : Wd g A ws s.heap H locs) (q0 : Nat) {a : Nat} {fs : List Value} {x : Int32} (he : ws[q0]? = some (a, .inr (10, fs))) (hlt : 27 < fs.length) {ws2 : va_W} (h2 : ws.set q0 (a, .inr (10, fs.set 27 (.int x))) = ws2) (hd : decode d.2.1 pc = .ok (.putfield 228, 3)) (kk : ∀ (H1 : Heap) (locs1 : List Loc), Wd g A ws2 s.heap H1 locs1 → W p l e R s m args below meth c H1 locs1 cells slots Q (F0 m (pc + 3) ls rest)) : W p l e R s m args below meth c H locs cells slots Q (F0 m pc ls (.int x :: .ref a :: rest)) := fp C w inX10s tyX10_ok nmX10 (ref := RX10) rfl 27 (by decide) (ts_t (w := Cond.fieldLink RX10 228 RX10 (TX10 27).2.1 (TX10 27).2.2.1) 1249 (by decide +kernel) (by decide +kernel)) rfl rfl q0 he rfl rfl hlt h2 hd kk
theorem q_1475 : Cond.code yX10_goOn cX10_goOn 7 none ∈ TS := ts_t 1475 (by decide +kernel) (by decide +kernel)
theorem q_1472 : Cond.methodLink RX10 234 yX10_goOn ∈ TS := ts_t 1472 (by decide +kernel) (by decide +kernel)
theorem q_1474 : Cond.instanceMethod yX10_goOn ∈ TS := ts_t 1474 (by decide +kernel) (by decide +kernel)
theorem qs_104 : Cond.selects yX10_goOn.cls yX10_goOn yX10_goOn ∈ TS := ts_s 104 (by decide +kernel) (by decide +kernel)
theorem k_X10_234 : LkV RX10 234 m_X10_goOn 5 := ⟨q_1472, q_1474, qs_104, ⟨q_11, q_1475, by decide, by decide, by decide +kernel⟩⟩
theorem q_1479 : Cond.code yX10_isBetter cX10_isBetter 4 (some .boolean) ∈ TS := ts_t 1479 (by decide +kernel) (by decide +kernel)
theorem q_1476 : Cond.methodLink RX10 231 yX10_isBetter ∈ TS := ts_t 1476 (by decide +kernel) (by decide +kernel)
theorem q_1478 : Cond.instanceMethod yX10_isBetter ∈ TS := ts_t 1478 (by decide +kernel) (by decide +kernel)
theorem qs_105 : Cond.selects yX10_isBetter.cls yX10_isBetter yX10_isBetter ∈ TS := ts_s 105 (by decide +kernel) (by decide +kernel)
theorem k_X10_231 : LkV RX10 231 m_X10_isBetter 2 := ⟨q_1476, q_1478, qs_105, ⟨q_11, q_1479, by decide, by decide, by decide +kernel⟩⟩
abbrev w_X10_goOn (g : GT) (h0 h1 h2 h3 h4 h5 h6 h7 : Nat) (v0_0 v0_1 v0_2 v0_3 v0_4 v0_5 v0_6 v0_7 v0_8 v0_9 v0_11 v0_16 v0_17 v0_18 v0_19 v0_20 v0_21 v0_22 v0_23 v0_24 v0_25 v0_30 v0_31 v0_32 v0_33 v0_34 v0_35 v0_36 v0_37 : Value) (routeMany0 routeCost0 : Int32) (basic1 linkFrom2 linkMinutes3 linkPrice4 linkTo5 route6 tried7 : Nat → Int32) : va_W := [(h0, .inr (10, [v0_0, v0_1, v0_2, v0_3, v0_4, v0_5, v0_6, v0_7, v0_8, v0_9, .ref h1, v0_11, .ref h2, .ref h5, .ref h3, .ref h4, v0_16, v0_17, v0_18, v0_19, v0_20, v0_21, v0_22, v0_23, v0_24, v0_25, .int routeMany0, .int routeCost0, .ref h6, .ref h7, v0_30, v0_31, v0_32, v0_33, v0_34, v0_35, v0_36, v0_37])), (h1, aI g 7 basic1), (h2, aI g 48 linkFrom2), (h3, aI g 48 linkMinutes3), (h4, aI g 48 linkPrice4), (h5, aI g 48 linkTo5), (h6, aI g 4 route6), (h7, aI g 4 tried7)]
def f_X10_goOn_b153 (F : Nat) (rec : Int32 → Int32 → Int32 → Int32 → Int32 → Int32 → Int32 → (Nat → Int32) → (Nat → Int32) → (Nat → Int32) → (Nat → Int32) → (Nat → Int32) → (Nat → Int32) → (Nat → Int32) → Option (Int32 × Int32 × (Nat → Int32) × (Nat → Int32))) (k79 : (Int32 × Int32 × Int32 × Int32 × Int32 × Int32 × Int32 × Int32 × (Nat → Int32) × (Nat → Int32)) → Option (Int32 × Int32 × (Nat → Int32) × (Nat → Int32))) (basic1 linkFrom2 linkMinutes3 linkPrice4 linkTo5 : Nat → Int32) (x1 x2 x3 x4 x5 x6 routeMany0 routeCost0 : Int32) (route6 tried7 : Nat → Int32) : Option (Int32 × Int32 × (Nat → Int32) × (Nat → Int32)) :=
  k79 (x1, x2, x3, x4, x5, x6 + 1, routeMany0, routeCost0, route6, tried7)
def f_X10_goOn_h79 (F : Nat) (rec : Int32 → Int32 → Int32 → Int32 → Int32 → Int32 → Int32 → (Nat → Int32) → (Nat → Int32) → (Nat → Int32) → (Nat → Int32) → (Nat → Int32) → (Nat → Int32) → (Nat → Int32) → Option (Int32 × Int32 × (Nat → Int32) × (Nat → Int32))) (basic1 linkFrom2 linkMinutes3 linkPrice4 linkTo5 : Nat → Int32) (k79 : (Int32 × Int32 × Int32 × Int32 × Int32 × Int32 × Int32 × Int32 × (Nat → Int32) × (Nat → Int32)) → Option (Int32 × Int32 × (Nat → Int32) × (Nat → Int32))) (x1 x2 x3 x4 x5 x6 routeMany0 routeCost0 : Int32) (route6 tried7 : Nat → Int32) : Option (Int32 × Int32 × (Nat → Int32) × (Nat → Int32)) :=
  rd basic1 7 1 fun a1 =>
  if a1 ≤ x6 then
    some (routeMany0, routeCost0, route6, tried7)
  else
    rd linkFrom2 48 x6 fun a3 =>
    rd tried7 4 x1 fun a4 =>
    if a3 = a4 then
      rd linkTo5 48 x6 fun a6 =>
      wr tried7 4 (x1 + 1) a6 fun f7 =>
      rd linkMinutes3 48 x6 fun a8 =>
      rd linkPrice4 48 x6 fun a9 =>
      bd4 (rec (x1 + 1) x2 (x3 + a8) (x4 + a9) x5 routeMany0 routeCost0 basic1 linkFrom2 linkMinutes3 linkPrice4 linkTo5 route6 f7) fun o10 o11 o12 o13 =>
      f_X10_goOn_b153 F rec k79 basic1 linkFrom2 linkMinutes3 linkPrice4 linkTo5 x1 x2 x3 x4 x5 x6 o10 o11 o12 o13
    else
      f_X10_goOn_b153 F rec k79 basic1 linkFrom2 linkMinutes3 linkPrice4 linkTo5 x1 x2 x3 x4 x5 x6 routeMany0 routeCost0 route6 tried7
def f_X10_goOn_L79 (F : Nat) (rec : Int32 → Int32 → Int32 → Int32 → Int32 → Int32 → Int32 → (Nat → Int32) → (Nat → Int32) → (Nat → Int32) → (Nat → Int32) → (Nat → Int32) → (Nat → Int32) → (Nat → Int32) → Option (Int32 × Int32 × (Nat → Int32) × (Nat → Int32))) (basic1 linkFrom2 linkMinutes3 linkPrice4 linkTo5 : Nat → Int32) (z : Int32 × Int32 × Int32 × Int32 × Int32 × Int32 × Int32 × Int32 × (Nat → Int32) × (Nat → Int32)) : Option (Int32 × Int32 × (Nat → Int32) × (Nat → Int32)) := lp (fun k z => f_X10_goOn_h79 F rec basic1 linkFrom2 linkMinutes3 linkPrice4 linkTo5 k z.1 z.2.1 z.2.2.1 z.2.2.2.1 z.2.2.2.2.1 z.2.2.2.2.2.1 z.2.2.2.2.2.2.1 z.2.2.2.2.2.2.2.1 z.2.2.2.2.2.2.2.2.1 z.2.2.2.2.2.2.2.2.2) F z
def f_X10_goOn_b70 (F : Nat) (rec : Int32 → Int32 → Int32 → Int32 → Int32 → Int32 → Int32 → (Nat → Int32) → (Nat → Int32) → (Nat → Int32) → (Nat → Int32) → (Nat → Int32) → (Nat → Int32) → (Nat → Int32) → Option (Int32 × Int32 × (Nat → Int32) × (Nat → Int32))) (basic1 linkFrom2 linkMinutes3 linkPrice4 linkTo5 : Nat → Int32) (x1 x2 x3 x4 x5 routeMany0 routeCost0 : Int32) (route6 tried7 : Nat → Int32) : Option (Int32 × Int32 × (Nat → Int32) × (Nat → Int32)) :=
  if x1 = 3 then
    some (routeMany0, routeCost0, route6, tried7)
  else
    f_X10_goOn_L79 F rec basic1 linkFrom2 linkMinutes3 linkPrice4 linkTo5 (x1, x2, x3, x4, x5, 0, routeMany0, routeCost0, route6, tried7)
def f_X10_goOn_h44 (F : Nat) (rec : Int32 → Int32 → Int32 → Int32 → Int32 → Int32 → Int32 → (Nat → Int32) → (Nat → Int32) → (Nat → Int32) → (Nat → Int32) → (Nat → Int32) → (Nat → Int32) → (Nat → Int32) → Option (Int32 × Int32 × (Nat → Int32) × (Nat → Int32))) (basic1 linkFrom2 linkMinutes3 linkPrice4 linkTo5 : Nat → Int32) (k44 : (Int32 × Int32 × Int32 × Int32 × Int32 × Int32 × Int32 × Int32 × (Nat → Int32) × (Nat → Int32)) → Option (Int32 × Int32 × (Nat → Int32) × (Nat → Int32))) (x1 x2 x3 x4 x5 x6 routeMany0 routeCost0 : Int32) (route6 tried7 : Nat → Int32) : Option (Int32 × Int32 × (Nat → Int32) × (Nat → Int32)) :=
  if x1 < x6 then
    f_X10_goOn_b70 F rec basic1 linkFrom2 linkMinutes3 linkPrice4 linkTo5 x1 x2 x3 x4 x5 routeMany0 routeCost0 route6 tried7
  else
    rd tried7 4 x6 fun a17 =>
    wr route6 4 x6 a17 fun f18 =>
    k44 (x1, x2, x3, x4, x5, x6 + 1, routeMany0, routeCost0, f18, tried7)
def f_X10_goOn_L44 (F : Nat) (rec : Int32 → Int32 → Int32 → Int32 → Int32 → Int32 → Int32 → (Nat → Int32) → (Nat → Int32) → (Nat → Int32) → (Nat → Int32) → (Nat → Int32) → (Nat → Int32) → (Nat → Int32) → Option (Int32 × Int32 × (Nat → Int32) × (Nat → Int32))) (basic1 linkFrom2 linkMinutes3 linkPrice4 linkTo5 : Nat → Int32) (z : Int32 × Int32 × Int32 × Int32 × Int32 × Int32 × Int32 × Int32 × (Nat → Int32) × (Nat → Int32)) : Option (Int32 × Int32 × (Nat → Int32) × (Nat → Int32)) := lp (fun k z => f_X10_goOn_h44 F rec basic1 linkFrom2 linkMinutes3 linkPrice4 linkTo5 k z.1 z.2.1 z.2.2.1 z.2.2.2.1 z.2.2.2.2.1 z.2.2.2.2.2.1 z.2.2.2.2.2.2.1 z.2.2.2.2.2.2.2.1 z.2.2.2.2.2.2.2.2.1 z.2.2.2.2.2.2.2.2.2) F z
def f_X10_goOn_s (F : Nat) (rec : Int32 → Int32 → Int32 → Int32 → Int32 → Int32 → Int32 → (Nat → Int32) → (Nat → Int32) → (Nat → Int32) → (Nat → Int32) → (Nat → Int32) → (Nat → Int32) → (Nat → Int32) → Option (Int32 × Int32 × (Nat → Int32) × (Nat → Int32))) (p1 p2 p3 p4 p5 routeMany0 routeCost0 : Int32) (basic1 linkFrom2 linkMinutes3 linkPrice4 linkTo5 route6 tried7 : Nat → Int32) : Option (Int32 × Int32 × (Nat → Int32) × (Nat → Int32)) :=
  if p1 ≤ 0 then
    f_X10_goOn_b70 F rec basic1 linkFrom2 linkMinutes3 linkPrice4 linkTo5 p1 p2 p3 p4 p5 routeMany0 routeCost0 route6 tried7
  else
    rd tried7 4 p1 fun a20 =>
    if a20 = p2 then
      if p3 < p5 then
        f_X10_goOn_b70 F rec basic1 linkFrom2 linkMinutes3 linkPrice4 linkTo5 p1 p2 p3 p4 p5 routeMany0 routeCost0 route6 tried7
      else
        bd1 (f_X10_isBetter F p1 p4 routeMany0 routeCost0 route6 tried7) fun r23 =>
        if r23 = 0 then
          f_X10_goOn_b70 F rec basic1 linkFrom2 linkMinutes3 linkPrice4 linkTo5 p1 p2 p3 p4 p5 routeMany0 routeCost0 route6 tried7
        else
          f_X10_goOn_L44 F rec basic1 linkFrom2 linkMinutes3 linkPrice4 linkTo5 (p1, p2, p3, p4, p5, 0, p1, p4, route6, tried7)
    else
      f_X10_goOn_b70 F rec basic1 linkFrom2 linkMinutes3 linkPrice4 linkTo5 p1 p2 p3 p4 p5 routeMany0 routeCost0 route6 tried7
def f_X10_goOn_r (F : Nat) : Nat → Int32 → Int32 → Int32 → Int32 → Int32 → Int32 → Int32 → (Nat → Int32) → (Nat → Int32) → (Nat → Int32) → (Nat → Int32) → (Nat → Int32) → (Nat → Int32) → (Nat → Int32) → Option (Int32 × Int32 × (Nat → Int32) × (Nat → Int32))
  | 0 => fun _ _ _ _ _ _ _ _ _ _ _ _ _ _ => none
  | d + 1 => f_X10_goOn_s F (f_X10_goOn_r F d)
def f_X10_goOn (F : Nat) (p1 p2 p3 p4 p5 routeMany0 routeCost0 : Int32) (basic1 linkFrom2 linkMinutes3 linkPrice4 linkTo5 route6 tried7 : Nat → Int32) : Option (Int32 × Int32 × (Nat → Int32) × (Nat → Int32)) := f_X10_goOn_r F 4 p1 p2 p3 p4 p5 routeMany0 routeCost0 basic1 linkFrom2 linkMinutes3 linkPrice4 linkTo5 route6 tried7
set_option maxHeartbeats 4000000 in
set_option maxRecDepth 100000 in
theorem cs_X10_goOn (l : Launch) (g : GT) (F : Nat) (h0 h1 h2 h3 h4 h5 h6 h7 : Nat) (v0_0 v0_1 v0_2 v0_3 v0_4 v0_5 v0_6 v0_7 v0_8 v0_9 v0_11 v0_16 v0_17 v0_18 v0_19 v0_20 v0_21 v0_22 v0_23 v0_24 v0_25 v0_30 v0_31 v0_32 v0_33 v0_34 v0_35 v0_36 v0_37 : Value) (d : Nat) (rec : Int32 → Int32 → Int32 → Int32 → Int32 → Int32 → Int32 → (Nat → Int32) → (Nat → Int32) → (Nat → Int32) → (Nat → Int32) → (Nat → Int32) → (Nat → Int32) → (Nat → Int32) → Option (Int32 × Int32 × (Nat → Int32) × (Nat → Int32))) (ihr : ∀ (p1 p2 p3 p4 p5 routeMany0 routeCost0 : Int32) (basic1 linkFrom2 linkMinutes3 linkPrice4 linkTo5 route6 tried7 : Nat → Int32) (o_routeMany0 o_routeCost0 : Int32) (o_route6 o_tried7 : Nat → Int32) (sz : Nat), rec p1 p2 p3 p4 p5 routeMany0 routeCost0 basic1 linkFrom2 linkMinutes3 linkPrice4 linkTo5 route6 tried7 = some (o_routeMany0, o_routeCost0, o_route6, o_tried7) → CV l m_X10_goOn (rml (1 + d) 0 0) g (w_X10_goOn g h0 h1 h2 h3 h4 h5 h6 h7 v0_0 v0_1 v0_2 v0_3 v0_4 v0_5 v0_6 v0_7 v0_8 v0_9 v0_11 v0_16 v0_17 v0_18 v0_19 v0_20 v0_21 v0_22 v0_23 v0_24 v0_25 v0_30 v0_31 v0_32 v0_33 v0_34 v0_35 v0_36 v0_37 routeMany0 routeCost0 basic1 linkFrom2 linkMinutes3 linkPrice4 linkTo5 route6 tried7) (fun _ => w_X10_goOn g h0 h1 h2 h3 h4 h5 h6 h7 v0_0 v0_1 v0_2 v0_3 v0_4 v0_5 v0_6 v0_7 v0_8 v0_9 v0_11 v0_16 v0_17 v0_18 v0_19 v0_20 v0_21 v0_22 v0_23 v0_24 v0_25 v0_30 v0_31 v0_32 v0_33 v0_34 v0_35 v0_36 v0_37 o_routeMany0 o_routeCost0 basic1 linkFrom2 linkMinutes3 linkPrice4 linkTo5 o_route6 o_tried7) sz [.ref h0, .int p1, .int p2, .int p3, .int p4, .int p5]) (p1 p2 p3 p4 p5 routeMany0 routeCost0 : Int32) (basic1 linkFrom2 linkMinutes3 linkPrice4 linkTo5 route6 tried7 : Nat → Int32) (o_routeMany0 o_routeCost0 : Int32) (o_route6 o_tried7 : Nat → Int32) (sz : Nat) (hf : f_X10_goOn_s F rec p1 p2 p3 p4 p5 routeMany0 routeCost0 basic1 linkFrom2 linkMinutes3 linkPrice4 linkTo5 route6 tried7 = some (o_routeMany0, o_routeCost0, o_route6, o_tried7)) : CV l m_X10_goOn (rml (1 + d + 1) 0 0) g (w_X10_goOn g h0 h1 h2 h3 h4 h5 h6 h7 v0_0 v0_1 v0_2 v0_3 v0_4 v0_5 v0_6 v0_7 v0_8 v0_9 v0_11 v0_16 v0_17 v0_18 v0_19 v0_20 v0_21 v0_22 v0_23 v0_24 v0_25 v0_30 v0_31 v0_32 v0_33 v0_34 v0_35 v0_36 v0_37 routeMany0 routeCost0 basic1 linkFrom2 linkMinutes3 linkPrice4 linkTo5 route6 tried7) (fun _ => w_X10_goOn g h0 h1 h2 h3 h4 h5 h6 h7 v0_0 v0_1 v0_2 v0_3 v0_4 v0_5 v0_6 v0_7 v0_8 v0_9 v0_11 v0_16 v0_17 v0_18 v0_19 v0_20 v0_21 v0_22 v0_23 v0_24 v0_25 v0_30 v0_31 v0_32 v0_33 v0_34 v0_35 v0_36 v0_37 o_routeMany0 o_routeCost0 basic1 linkFrom2 linkMinutes3 linkPrice4 linkTo5 o_route6 o_tried7) sz [.ref h0, .int p1, .int p2, .int p3, .int p4, .int p5] := by
  refine en_v (by decide) (Nat.le_of_ble_eq_true rfl) (fun p e s m args below meth c A ls C w hl => ?_)
  have C : Cx p s m args meth c RX10 m_X10_goOn g A := C
  have hx := C.1
  have hb : c.code = cX10_goOn := C.2.1
  have hl : lv_has ls 7 [(0, .ref h0), (1, .int p1), (2, .int p2), (3, .int p3), (4, .int p4), (5, .int p5)] := hl
  obtain ⟨Q, hQ⟩ : ∃ Q, Q = QV below args s g A (fun _ => w_X10_goOn g h0 h1 h2 h3 h4 h5 h6 h7 v0_0 v0_1 v0_2 v0_3 v0_4 v0_5 v0_6 v0_7 v0_8 v0_9 v0_11 v0_16 v0_17 v0_18 v0_19 v0_20 v0_21 v0_22 v0_23 v0_24 v0_25 v0_30 v0_31 v0_32 v0_33 v0_34 v0_35 v0_36 v0_37 o_routeMany0 o_routeCost0 basic1 linkFrom2 linkMinutes3 linkPrice4 linkTo5 o_route6 o_tried7) 0 0 := ⟨_, rfl⟩
  suffices hW : W p l e (rml (1 + d + 1) 0 0) s m args below meth c s.heap [] 0 0 Q (F0 m 0 ls []) from (by rw [hQ] at hW; exact hW)
  unfold f_X10_goOn_s at hf
  have L79 : ∀ (z : Int32 × Int32 × Int32 × Int32 × Int32 × Int32 × Int32 × Int32 × (Nat → Int32) × (Nat → Int32)), f_X10_goOn_L79 F rec basic1 linkFrom2 linkMinutes3 linkPrice4 linkTo5 z = some (o_routeMany0, o_routeCost0, o_route6, o_tried7) → ∀ (H : Heap) (locs : List Loc) (ls : Array Slot), Wd g A (w_X10_goOn g h0 h1 h2 h3 h4 h5 h6 h7 v0_0 v0_1 v0_2 v0_3 v0_4 v0_5 v0_6 v0_7 v0_8 v0_9 v0_11 v0_16 v0_17 v0_18 v0_19 v0_20 v0_21 v0_22 v0_23 v0_24 v0_25 v0_30 v0_31 v0_32 v0_33 v0_34 v0_35 v0_36 v0_37 z.2.2.2.2.2.2.1 z.2.2.2.2.2.2.2.1 basic1 linkFrom2 linkMinutes3 linkPrice4 linkTo5 z.2.2.2.2.2.2.2.2.1 z.2.2.2.2.2.2.2.2.2) s.heap H locs → lv_has ls 7 [(0, .ref h0), (1, .int z.1), (2, .int z.2.1), (3, .int z.2.2.1), (4, .int z.2.2.2.1), (5, .int z.2.2.2.2.1), (6, .int z.2.2.2.2.2.1)] → W p l e (rml (1 + d + 1) 0 0) s m args below meth c H locs 0 0 Q (F0 m 79 ls []) := by
    intro z hf
    refine lp_W (r := (o_routeMany0, o_routeCost0, o_route6, o_tried7)) (fun (z : Int32 × Int32 × Int32 × Int32 × Int32 × Int32 × Int32 × Int32 × (Nat → Int32) × (Nat → Int32)) => ∀ (H : Heap) (locs : List Loc) (ls : Array Slot), Wd g A (w_X10_goOn g h0 h1 h2 h3 h4 h5 h6 h7 v0_0 v0_1 v0_2 v0_3 v0_4 v0_5 v0_6 v0_7 v0_8 v0_9 v0_11 v0_16 v0_17 v0_18 v0_19 v0_20 v0_21 v0_22 v0_23 v0_24 v0_25 v0_30 v0_31 v0_32 v0_33 v0_34 v0_35 v0_36 v0_37 z.2.2.2.2.2.2.1 z.2.2.2.2.2.2.2.1 basic1 linkFrom2 linkMinutes3 linkPrice4 linkTo5 z.2.2.2.2.2.2.2.2.1 z.2.2.2.2.2.2.2.2.2) s.heap H locs → lv_has ls 7 [(0, .ref h0), (1, .int z.1), (2, .int z.2.1), (3, .int z.2.2.1), (4, .int z.2.2.2.1), (5, .int z.2.2.2.2.1), (6, .int z.2.2.2.2.2.1)] → W p l e (rml (1 + d + 1) 0 0) s m args below meth c H locs 0 0 Q (F0 m 79 ls [])) (fun k79 z ih79 hf => ?_) F z hf
    obtain ⟨x1, x2, x3, x4, x5, x6, routeMany0, routeCost0, route6, tried7⟩ := z
    intro H locs ls w hl
    try dsimp only at hf w hl ⊢
    unfold f_X10_goOn_h79 at hf
    have b153 : ∀ (x1 x2 x3 x4 x5 x6 routeMany0 routeCost0 : Int32) (route6 tried7 : Nat → Int32) (H : Heap) (locs : List Loc) (ls : Array Slot), f_X10_goOn_b153 F rec k79 basic1 linkFrom2 linkMinutes3 linkPrice4 linkTo5 x1 x2 x3 x4 x5 x6 routeMany0 routeCost0 route6 tried7 = some (o_routeMany0, o_routeCost0, o_route6, o_tried7) → Wd g A (w_X10_goOn g h0 h1 h2 h3 h4 h5 h6 h7 v0_0 v0_1 v0_2 v0_3 v0_4 v0_5 v0_6 v0_7 v0_8 v0_9 v0_11 v0_16 v0_17 v0_18 v0_19 v0_20 v0_21 v0_22 v0_23 v0_24 v0_25 v0_30 v0_31 v0_32 v0_33 v0_34 v0_35 v0_36 v0_37 routeMany0 routeCost0 basic1 linkFrom2 linkMinutes3 linkPrice4 linkTo5 route6 tried7) s.heap H locs → lv_has ls 7 [(0, .ref h0), (1, .int x1), (2, .int x2), (3, .int x3), (4, .int x4), (5, .int x5), (6, .int x6)] → W p l e (rml (1 + d + 1) 0 0) s m args below meth c H locs 0 0 Q (F0 m 153 ls []) := by
      intro x1 x2 x3 x4 x5 x6 routeMany0 routeCost0 route6 tried7 H locs ls hf w hl
      unfold f_X10_goOn_b153 at hf
      refine lv_iinc (v := x6 + 1) (lv' := [(6, .int (x6 + 1)), (0, .ref h0), (1, .int x1), (2, .int x2), (3, .int x3), (4, .int x4), (5, .int x5)]) hx hb dX10_goOn_153 hl (k := 6) rfl rfl (by decide) rfl (fun ls hl => ?_)
      refine lv_goto (tgt := 79) hx hb dX10_goOn_156 (by decide) ?_
      exact ih79 (x1, x2, x3, x4, x5, x6 + 1, routeMany0, routeCost0, route6, tried7) hf _ _ _ w (lv_sub hl [1, 2, 3, 4, 5, 6, 0] rfl)
    refine lv_iload hx hb dX10_goOn_79 (lv_at hl 6 rfl) ?_
    refine lv_aload_n hx hb dX10_goOn_81 rfl (lv_at hl 0 rfl) ?_
    refine g_X10_13 C w 0 rfl rfl dX10_goOn_82 ?_
    refine lv_iconst (v := 1) hx hb dX10_goOn_85 (by decide) ?_
    obtain ⟨a1, hia1, haa1, hf⟩ := rd_some hf
    refine ial C w 1 rfl hia1 haa1 dX10_goOn_86 ?_
    refine lv_icmp_ge (tgt := 159) hx hb dX10_goOn_87 (by decide) (fun c2 => ?_) (fun c2 => ?_)
    · replace hf := it_t c2 hf
      obtain ⟨e1, e2, e3, e4⟩ := tp4 hf
      rw [hQ]
      exact rt_v C w rfl (fun _ => 0) (by rw [← e1, ← e2, ← e3, ← e4]) dX10_goOn_159
    · replace hf := it_f c2 hf
      refine lv_aload_n hx hb dX10_goOn_90 rfl (lv_at hl 0 rfl) ?_
      refine g_X10_20 C w 0 rfl rfl dX10_goOn_91 ?_
      refine lv_iload hx hb dX10_goOn_94 (lv_at hl 6 rfl) ?_
      obtain ⟨a3, hia3, haa3, hf⟩ := rd_some hf
      refine ial C w 2 rfl hia3 haa3 dX10_goOn_96 ?_
      refine lv_aload_n hx hb dX10_goOn_97 rfl (lv_at hl 0 rfl) ?_
      refine g_X10_60 C w 0 rfl rfl dX10_goOn_98 ?_
      refine lv_iload_n hx hb dX10_goOn_101 rfl (lv_at hl 1 rfl) ?_
      obtain ⟨a4, hia4, haa4, hf⟩ := rd_some hf
      refine ial C w 7 rfl hia4 haa4 dX10_goOn_102 ?_
      refine lv_icmp_eq (tgt := 109) hx hb dX10_goOn_103 (by decide) (fun c5 => ?_) (fun c5 => ?_)
      · replace hf := it_t c5 hf
        refine lv_aload_n hx hb dX10_goOn_109 rfl (lv_at hl 0 rfl) ?_
        refine g_X10_60 C w 0 rfl rfl dX10_goOn_110 ?_
        refine lv_iload_n hx hb dX10_goOn_113 rfl (lv_at hl 1 rfl) ?_
        refine lv_iconst (v := 1) hx hb dX10_goOn_114 (by decide) ?_
        refine lv_iadd hx hb dX10_goOn_115 ?_
        refine lv_aload_n hx hb dX10_goOn_116 rfl (lv_at hl 0 rfl) ?_
        refine g_X10_23 C w 0 rfl rfl dX10_goOn_117 ?_
        refine lv_iload hx hb dX10_goOn_120 (lv_at hl 6 rfl) ?_
        obtain ⟨a6, hia6, haa6, hf⟩ := rd_some hf
        refine ial C w 5 rfl hia6 haa6 dX10_goOn_122 ?_
        obtain ⟨f7, hif7, haf7, hf⟩ := wr_some hf
        refine ias C w 7 rfl hif7 haf7 (ws2 := w_X10_goOn g h0 h1 h2 h3 h4 h5 h6 h7 v0_0 v0_1 v0_2 v0_3 v0_4 v0_5 v0_6 v0_7 v0_8 v0_9 v0_11 v0_16 v0_17 v0_18 v0_19 v0_20 v0_21 v0_22 v0_23 v0_24 v0_25 v0_30 v0_31 v0_32 v0_33 v0_34 v0_35 v0_36 v0_37 routeMany0 routeCost0 basic1 linkFrom2 linkMinutes3 linkPrice4 linkTo5 route6 f7) rfl dX10_goOn_123 (fun H locs w => ?_)
        refine lv_aload_n hx hb dX10_goOn_124 rfl (lv_at hl 0 rfl) ?_
        refine lv_iload_n hx hb dX10_goOn_125 rfl (lv_at hl 1 rfl) ?_
        refine lv_iconst (v := 1) hx hb dX10_goOn_126 (by decide) ?_
        refine lv_iadd hx hb dX10_goOn_127 ?_
        refine lv_iload_n hx hb dX10_goOn_128 rfl (lv_at hl 2 rfl) ?_
        refine lv_iload_n hx hb dX10_goOn_129 rfl (lv_at hl 3 rfl) ?_
        refine lv_aload_n hx hb dX10_goOn_130 rfl (lv_at hl 0 rfl) ?_
        refine g_X10_26 C w 0 rfl rfl dX10_goOn_131 ?_
        refine lv_iload hx hb dX10_goOn_134 (lv_at hl 6 rfl) ?_
        obtain ⟨a8, hia8, haa8, hf⟩ := rd_some hf
        refine ial C w 3 rfl hia8 haa8 dX10_goOn_136 ?_
        refine lv_iadd hx hb dX10_goOn_137 ?_
        refine lv_iload hx hb dX10_goOn_138 (lv_at hl 4 rfl) ?_
        refine lv_aload_n hx hb dX10_goOn_140 rfl (lv_at hl 0 rfl) ?_
        refine g_X10_29 C w 0 rfl rfl dX10_goOn_141 ?_
        refine lv_iload hx hb dX10_goOn_144 (lv_at hl 6 rfl) ?_
        obtain ⟨a9, hia9, haa9, hf⟩ := rd_some hf
        refine ial C w 4 rfl hia9 haa9 dX10_goOn_146 ?_
        refine lv_iadd hx hb dX10_goOn_147 ?_
        refine lv_iload hx hb dX10_goOn_148 (lv_at hl 5 rfl) ?_
        obtain ⟨o10, o11, o12, o13, hc14, hf⟩ := bd4_some hf
        refine ca_vV C w (wn := fun _ => w_X10_goOn g h0 h1 h2 h3 h4 h5 h6 h7 v0_0 v0_1 v0_2 v0_3 v0_4 v0_5 v0_6 v0_7 v0_8 v0_9 v0_11 v0_16 v0_17 v0_18 v0_19 v0_20 v0_21 v0_22 v0_23 v0_24 v0_25 v0_30 v0_31 v0_32 v0_33 v0_34 v0_35 v0_36 v0_37 o10 o11 basic1 linkFrom2 linkMinutes3 linkPrice4 linkTo5 o12 o13) (pm_k [true, true, true, true, true, true, true, true] rfl rfl (fun _ => Nat.le_of_ble_eq_true rfl) (fun _ => rfl)) (ihr (x1 + 1) x2 (x3 + a8) (x4 + a9) x5 routeMany0 routeCost0 basic1 linkFrom2 linkMinutes3 linkPrice4 linkTo5 route6 f7 o10 o11 o12 o13 _ hc14) k_X10_234 (rm_le (by omega) (by decide)) 0 10 rfl rfl rfl rfl hl.1 rfl (Nat.le_of_ble_eq_true rfl) dX10_goOn_150 ⟨Nat.le_of_ble_eq_true rfl, Nat.le_of_ble_eq_true rfl⟩ (cells2 := 0) (slots2 := 0) ⟨rfl, rfl⟩ (fun _ H locs w => ?_)
        exact b153 x1 x2 x3 x4 x5 x6 o10 o11 o12 o13 _ _ _ hf w (lv_sub hl [0, 1, 2, 3, 4, 5, 6] rfl)
      · replace hf := it_f c5 hf
        refine lv_goto (tgt := 153) hx hb dX10_goOn_106 (by decide) ?_
        exact b153 x1 x2 x3 x4 x5 x6 routeMany0 routeCost0 route6 tried7 _ _ _ hf w (lv_sub hl [0, 1, 2, 3, 4, 5, 6] rfl)
  have b70 : ∀ (x1 x2 x3 x4 x5 routeMany0 routeCost0 : Int32) (route6 tried7 : Nat → Int32) (H : Heap) (locs : List Loc) (ls : Array Slot), f_X10_goOn_b70 F rec basic1 linkFrom2 linkMinutes3 linkPrice4 linkTo5 x1 x2 x3 x4 x5 routeMany0 routeCost0 route6 tried7 = some (o_routeMany0, o_routeCost0, o_route6, o_tried7) → Wd g A (w_X10_goOn g h0 h1 h2 h3 h4 h5 h6 h7 v0_0 v0_1 v0_2 v0_3 v0_4 v0_5 v0_6 v0_7 v0_8 v0_9 v0_11 v0_16 v0_17 v0_18 v0_19 v0_20 v0_21 v0_22 v0_23 v0_24 v0_25 v0_30 v0_31 v0_32 v0_33 v0_34 v0_35 v0_36 v0_37 routeMany0 routeCost0 basic1 linkFrom2 linkMinutes3 linkPrice4 linkTo5 route6 tried7) s.heap H locs → lv_has ls 7 [(0, .ref h0), (1, .int x1), (2, .int x2), (3, .int x3), (4, .int x4), (5, .int x5)] → W p l e (rml (1 + d + 1) 0 0) s m args below meth c H locs 0 0 Q (F0 m 70 ls []) := by
    intro x1 x2 x3 x4 x5 routeMany0 routeCost0 route6 tried7 H locs ls hf w hl
    unfold f_X10_goOn_b70 at hf
    refine lv_iload_n hx hb dX10_goOn_70 rfl (lv_at hl 1 rfl) ?_
    refine lv_iconst (v := 3) hx hb dX10_goOn_71 (by decide) ?_
    refine lv_icmp_ne (tgt := 76) hx hb dX10_goOn_72 (by decide) (fun c15 => ?_) (fun c15 => ?_)
    · replace hf := it_f c15 hf
      refine lv_iconst (v := 0) hx hb dX10_goOn_76 (by decide) ?_
      refine lv_istore (lv' := [(6, .int 0), (0, .ref h0), (1, .int x1), (2, .int x2), (3, .int x3), (4, .int x4), (5, .int x5)]) hx hb dX10_goOn_77 hl (by decide) rfl (fun ls hl => ?_)
      exact L79 (x1, x2, x3, x4, x5, 0, routeMany0, routeCost0, route6, tried7) hf _ _ _ w (lv_sub hl [1, 2, 3, 4, 5, 6, 0] rfl)
    · replace hf := it_t c15 hf
      obtain ⟨e1, e2, e3, e4⟩ := tp4 hf
      rw [hQ]
      exact rt_v C w rfl (fun _ => 0) (by rw [← e1, ← e2, ← e3, ← e4]) dX10_goOn_75
  have L44 : ∀ (z : Int32 × Int32 × Int32 × Int32 × Int32 × Int32 × Int32 × Int32 × (Nat → Int32) × (Nat → Int32)), f_X10_goOn_L44 F rec basic1 linkFrom2 linkMinutes3 linkPrice4 linkTo5 z = some (o_routeMany0, o_routeCost0, o_route6, o_tried7) → ∀ (H : Heap) (locs : List Loc) (ls : Array Slot), Wd g A (w_X10_goOn g h0 h1 h2 h3 h4 h5 h6 h7 v0_0 v0_1 v0_2 v0_3 v0_4 v0_5 v0_6 v0_7 v0_8 v0_9 v0_11 v0_16 v0_17 v0_18 v0_19 v0_20 v0_21 v0_22 v0_23 v0_24 v0_25 v0_30 v0_31 v0_32 v0_33 v0_34 v0_35 v0_36 v0_37 z.2.2.2.2.2.2.1 z.2.2.2.2.2.2.2.1 basic1 linkFrom2 linkMinutes3 linkPrice4 linkTo5 z.2.2.2.2.2.2.2.2.1 z.2.2.2.2.2.2.2.2.2) s.heap H locs → lv_has ls 7 [(0, .ref h0), (1, .int z.1), (2, .int z.2.1), (3, .int z.2.2.1), (4, .int z.2.2.2.1), (5, .int z.2.2.2.2.1), (6, .int z.2.2.2.2.2.1)] → W p l e (rml (1 + d + 1) 0 0) s m args below meth c H locs 0 0 Q (F0 m 44 ls []) := by
    intro z hf
    refine lp_W (r := (o_routeMany0, o_routeCost0, o_route6, o_tried7)) (fun (z : Int32 × Int32 × Int32 × Int32 × Int32 × Int32 × Int32 × Int32 × (Nat → Int32) × (Nat → Int32)) => ∀ (H : Heap) (locs : List Loc) (ls : Array Slot), Wd g A (w_X10_goOn g h0 h1 h2 h3 h4 h5 h6 h7 v0_0 v0_1 v0_2 v0_3 v0_4 v0_5 v0_6 v0_7 v0_8 v0_9 v0_11 v0_16 v0_17 v0_18 v0_19 v0_20 v0_21 v0_22 v0_23 v0_24 v0_25 v0_30 v0_31 v0_32 v0_33 v0_34 v0_35 v0_36 v0_37 z.2.2.2.2.2.2.1 z.2.2.2.2.2.2.2.1 basic1 linkFrom2 linkMinutes3 linkPrice4 linkTo5 z.2.2.2.2.2.2.2.2.1 z.2.2.2.2.2.2.2.2.2) s.heap H locs → lv_has ls 7 [(0, .ref h0), (1, .int z.1), (2, .int z.2.1), (3, .int z.2.2.1), (4, .int z.2.2.2.1), (5, .int z.2.2.2.2.1), (6, .int z.2.2.2.2.2.1)] → W p l e (rml (1 + d + 1) 0 0) s m args below meth c H locs 0 0 Q (F0 m 44 ls [])) (fun k44 z ih44 hf => ?_) F z hf
    obtain ⟨x1, x2, x3, x4, x5, x6, routeMany0, routeCost0, route6, tried7⟩ := z
    intro H locs ls w hl
    try dsimp only at hf w hl ⊢
    unfold f_X10_goOn_h44 at hf
    refine lv_iload hx hb dX10_goOn_44 (lv_at hl 6 rfl) ?_
    refine lv_iload_n hx hb dX10_goOn_46 rfl (lv_at hl 1 rfl) ?_
    refine lv_icmp_gt (tgt := 70) hx hb dX10_goOn_47 (by decide) (fun c16 => ?_) (fun c16 => ?_)
    · replace hf := it_t c16 hf
      exact b70 x1 x2 x3 x4 x5 routeMany0 routeCost0 route6 tried7 _ _ _ hf w (lv_sub hl [0, 1, 2, 3, 4, 5] rfl)
    · replace hf := it_f c16 hf
      refine lv_aload_n hx hb dX10_goOn_50 rfl (lv_at hl 0 rfl) ?_
      refine g_X10_57 C w 0 rfl rfl dX10_goOn_51 ?_
      refine lv_iload hx hb dX10_goOn_54 (lv_at hl 6 rfl) ?_
      refine lv_aload_n hx hb dX10_goOn_56 rfl (lv_at hl 0 rfl) ?_
      refine g_X10_60 C w 0 rfl rfl dX10_goOn_57 ?_
      refine lv_iload hx hb dX10_goOn_60 (lv_at hl 6 rfl) ?_
      obtain ⟨a17, hia17, haa17, hf⟩ := rd_some hf
      refine ial C w 7 rfl hia17 haa17 dX10_goOn_62 ?_
      obtain ⟨f18, hif18, haf18, hf⟩ := wr_some hf
      refine ias C w 6 rfl hif18 haf18 (ws2 := w_X10_goOn g h0 h1 h2 h3 h4 h5 h6 h7 v0_0 v0_1 v0_2 v0_3 v0_4 v0_5 v0_6 v0_7 v0_8 v0_9 v0_11 v0_16 v0_17 v0_18 v0_19 v0_20 v0_21 v0_22 v0_23 v0_24 v0_25 v0_30 v0_31 v0_32 v0_33 v0_34 v0_35 v0_36 v0_37 routeMany0 routeCost0 basic1 linkFrom2 linkMinutes3 linkPrice4 linkTo5 f18 tried7) rfl dX10_goOn_63 (fun H locs w => ?_)
      refine lv_iinc (v := x6 + 1) (lv' := [(6, .int (x6 + 1)), (0, .ref h0), (1, .int x1), (2, .int x2), (3, .int x3), (4, .int x4), (5, .int x5)]) hx hb dX10_goOn_64 hl (k := 6) rfl rfl (by decide) rfl (fun ls hl => ?_)
      refine lv_goto (tgt := 44) hx hb dX10_goOn_67 (by decide) ?_
      exact ih44 (x1, x2, x3, x4, x5, x6 + 1, routeMany0, routeCost0, f18, tried7) hf _ _ _ w (lv_sub hl [1, 2, 3, 4, 5, 6, 0] rfl)
  refine lv_iload_n hx hb dX10_goOn_0 rfl (lv_at hl 1 rfl) ?_
  refine lv_if_le (tgt := 70) hx hb dX10_goOn_1 (by decide) (fun c19 => ?_) (fun c19 => ?_)
  · replace hf := it_t c19 hf
    exact b70 p1 p2 p3 p4 p5 routeMany0 routeCost0 route6 tried7 _ _ _ hf w (lv_sub hl [0, 1, 2, 3, 4, 5] rfl)
  · replace hf := it_f c19 hf
    refine lv_aload_n hx hb dX10_goOn_4 rfl (lv_at hl 0 rfl) ?_
    refine g_X10_60 C w 0 rfl rfl dX10_goOn_5 ?_
    refine lv_iload_n hx hb dX10_goOn_8 rfl (lv_at hl 1 rfl) ?_
    obtain ⟨a20, hia20, haa20, hf⟩ := rd_some hf
    refine ial C w 7 rfl hia20 haa20 dX10_goOn_9 ?_
    refine lv_iload_n hx hb dX10_goOn_10 rfl (lv_at hl 2 rfl) ?_
    refine lv_icmp_ne (tgt := 70) hx hb dX10_goOn_11 (by decide) (fun c21 => ?_) (fun c21 => ?_)
    · replace hf := it_f c21 hf
      exact b70 p1 p2 p3 p4 p5 routeMany0 routeCost0 route6 tried7 _ _ _ hf w (lv_sub hl [0, 1, 2, 3, 4, 5] rfl)
    · replace hf := it_t c21 hf
      refine lv_iload_n hx hb dX10_goOn_14 rfl (lv_at hl 3 rfl) ?_
      refine lv_iload hx hb dX10_goOn_15 (lv_at hl 5 rfl) ?_
      refine lv_icmp_lt (tgt := 70) hx hb dX10_goOn_17 (by decide) (fun c22 => ?_) (fun c22 => ?_)
      · replace hf := it_t c22 hf
        exact b70 p1 p2 p3 p4 p5 routeMany0 routeCost0 route6 tried7 _ _ _ hf w (lv_sub hl [0, 1, 2, 3, 4, 5] rfl)
      · replace hf := it_f c22 hf
        refine lv_aload_n hx hb dX10_goOn_20 rfl (lv_at hl 0 rfl) ?_
        refine lv_iload_n hx hb dX10_goOn_21 rfl (lv_at hl 1 rfl) ?_
        refine lv_iload hx hb dX10_goOn_22 (lv_at hl 4 rfl) ?_
        obtain ⟨r23, hc24, hf⟩ := bd1_some hf
        refine ca_iV C w (wn := fun _ => w_X10_goOn g h0 h1 h2 h3 h4 h5 h6 h7 v0_0 v0_1 v0_2 v0_3 v0_4 v0_5 v0_6 v0_7 v0_8 v0_9 v0_11 v0_16 v0_17 v0_18 v0_19 v0_20 v0_21 v0_22 v0_23 v0_24 v0_25 v0_30 v0_31 v0_32 v0_33 v0_34 v0_35 v0_36 v0_37 routeMany0 routeCost0 basic1 linkFrom2 linkMinutes3 linkPrice4 linkTo5 route6 tried7) (pm_k [true, false, false, false, false, false, true, true] rfl rfl (fun _ => Nat.le_of_ble_eq_true rfl) (fun _ => rfl)) (c_X10_isBetter l g F h0 h6 h7 v0_0 v0_1 v0_2 v0_3 v0_4 v0_5 v0_6 v0_7 v0_8 v0_9 (.ref h1) v0_11 (.ref h2) (.ref h5) (.ref h3) (.ref h4) v0_16 v0_17 v0_18 v0_19 v0_20 v0_21 v0_22 v0_23 v0_24 v0_25 v0_30 v0_31 v0_32 v0_33 v0_34 v0_35 v0_36 v0_37 p1 p4 routeMany0 routeCost0 route6 tried7 r23 _ hc24) k_X10_231 (rm_le (by omega) (by decide)) 0 10 rfl rfl rfl rfl hl.1 rfl (Nat.le_of_ble_eq_true rfl) dX10_goOn_24 ⟨Nat.le_of_ble_eq_true rfl, Nat.le_of_ble_eq_true rfl⟩ (cells2 := 0) (slots2 := 0) ⟨rfl, rfl⟩ (fun _ H locs w => ?_)
        refine lv_if_eq (tgt := 70) hx hb dX10_goOn_27 (by decide) (fun c25 => ?_) (fun c25 => ?_)
        · replace hf := it_t c25 hf
          exact b70 p1 p2 p3 p4 p5 routeMany0 routeCost0 route6 tried7 _ _ _ hf w (lv_sub hl [0, 1, 2, 3, 4, 5] rfl)
        · replace hf := it_f c25 hf
          refine lv_aload_n hx hb dX10_goOn_30 rfl (lv_at hl 0 rfl) ?_
          refine lv_iload_n hx hb dX10_goOn_31 rfl (lv_at hl 1 rfl) ?_
          refine p_X10_225 C w 0 rfl (Nat.le_of_ble_eq_true rfl) (ws2 := w_X10_goOn g h0 h1 h2 h3 h4 h5 h6 h7 v0_0 v0_1 v0_2 v0_3 v0_4 v0_5 v0_6 v0_7 v0_8 v0_9 v0_11 v0_16 v0_17 v0_18 v0_19 v0_20 v0_21 v0_22 v0_23 v0_24 v0_25 v0_30 v0_31 v0_32 v0_33 v0_34 v0_35 v0_36 v0_37 p1 routeCost0 basic1 linkFrom2 linkMinutes3 linkPrice4 linkTo5 route6 tried7) rfl dX10_goOn_32 (fun H locs w => ?_)
          refine lv_aload_n hx hb dX10_goOn_35 rfl (lv_at hl 0 rfl) ?_
          refine lv_iload hx hb dX10_goOn_36 (lv_at hl 4 rfl) ?_
          refine p_X10_228 C w 0 rfl (Nat.le_of_ble_eq_true rfl) (ws2 := w_X10_goOn g h0 h1 h2 h3 h4 h5 h6 h7 v0_0 v0_1 v0_2 v0_3 v0_4 v0_5 v0_6 v0_7 v0_8 v0_9 v0_11 v0_16 v0_17 v0_18 v0_19 v0_20 v0_21 v0_22 v0_23 v0_24 v0_25 v0_30 v0_31 v0_32 v0_33 v0_34 v0_35 v0_36 v0_37 p1 p4 basic1 linkFrom2 linkMinutes3 linkPrice4 linkTo5 route6 tried7) rfl dX10_goOn_38 (fun H locs w => ?_)
          refine lv_iconst (v := 0) hx hb dX10_goOn_41 (by decide) ?_
          refine lv_istore (lv' := [(6, .int 0), (0, .ref h0), (1, .int p1), (2, .int p2), (3, .int p3), (4, .int p4), (5, .int p5)]) hx hb dX10_goOn_42 hl (by decide) rfl (fun ls hl => ?_)
          exact L44 (p1, p2, p3, p4, p5, 0, p1, p4, route6, tried7) hf _ _ _ w (lv_sub hl [1, 2, 3, 4, 5, 6, 0] rfl)
theorem cr_X10_goOn (l : Launch) (g : GT) (F : Nat) (h0 h1 h2 h3 h4 h5 h6 h7 : Nat) (v0_0 v0_1 v0_2 v0_3 v0_4 v0_5 v0_6 v0_7 v0_8 v0_9 v0_11 v0_16 v0_17 v0_18 v0_19 v0_20 v0_21 v0_22 v0_23 v0_24 v0_25 v0_30 v0_31 v0_32 v0_33 v0_34 v0_35 v0_36 v0_37 : Value) : ∀ (d : Nat) (p1 p2 p3 p4 p5 routeMany0 routeCost0 : Int32) (basic1 linkFrom2 linkMinutes3 linkPrice4 linkTo5 route6 tried7 : Nat → Int32) (o_routeMany0 o_routeCost0 : Int32) (o_route6 o_tried7 : Nat → Int32) (sz : Nat), f_X10_goOn_r F d p1 p2 p3 p4 p5 routeMany0 routeCost0 basic1 linkFrom2 linkMinutes3 linkPrice4 linkTo5 route6 tried7 = some (o_routeMany0, o_routeCost0, o_route6, o_tried7) → CV l m_X10_goOn (rml (1 + d) 0 0) g (w_X10_goOn g h0 h1 h2 h3 h4 h5 h6 h7 v0_0 v0_1 v0_2 v0_3 v0_4 v0_5 v0_6 v0_7 v0_8 v0_9 v0_11 v0_16 v0_17 v0_18 v0_19 v0_20 v0_21 v0_22 v0_23 v0_24 v0_25 v0_30 v0_31 v0_32 v0_33 v0_34 v0_35 v0_36 v0_37 routeMany0 routeCost0 basic1 linkFrom2 linkMinutes3 linkPrice4 linkTo5 route6 tried7) (fun _ => w_X10_goOn g h0 h1 h2 h3 h4 h5 h6 h7 v0_0 v0_1 v0_2 v0_3 v0_4 v0_5 v0_6 v0_7 v0_8 v0_9 v0_11 v0_16 v0_17 v0_18 v0_19 v0_20 v0_21 v0_22 v0_23 v0_24 v0_25 v0_30 v0_31 v0_32 v0_33 v0_34 v0_35 v0_36 v0_37 o_routeMany0 o_routeCost0 basic1 linkFrom2 linkMinutes3 linkPrice4 linkTo5 o_route6 o_tried7) sz [.ref h0, .int p1, .int p2, .int p3, .int p4, .int p5] := by
  intro d
  induction d with
  | zero => intro p1 p2 p3 p4 p5 routeMany0 routeCost0 basic1 linkFrom2 linkMinutes3 linkPrice4 linkTo5 route6 tried7 o_routeMany0 o_routeCost0 o_route6 o_tried7 sz hf; cases hf
  | succ d ih => intro p1 p2 p3 p4 p5 routeMany0 routeCost0 basic1 linkFrom2 linkMinutes3 linkPrice4 linkTo5 route6 tried7 o_routeMany0 o_routeCost0 o_route6 o_tried7 sz hf; exact cs_X10_goOn l g F h0 h1 h2 h3 h4 h5 h6 h7 v0_0 v0_1 v0_2 v0_3 v0_4 v0_5 v0_6 v0_7 v0_8 v0_9 v0_11 v0_16 v0_17 v0_18 v0_19 v0_20 v0_21 v0_22 v0_23 v0_24 v0_25 v0_30 v0_31 v0_32 v0_33 v0_34 v0_35 v0_36 v0_37 d (f_X10_goOn_r F d) ih p1 p2 p3 p4 p5 routeMany0 routeCost0 basic1 linkFrom2 linkMinutes3 linkPrice4 linkTo5 route6 tried7 o_routeMany0 o_routeCost0 o_route6 o_tried7 sz hf
theorem c_X10_goOn (l : Launch) (g : GT) (F : Nat) (h0 h1 h2 h3 h4 h5 h6 h7 : Nat) (v0_0 v0_1 v0_2 v0_3 v0_4 v0_5 v0_6 v0_7 v0_8 v0_9 v0_11 v0_16 v0_17 v0_18 v0_19 v0_20 v0_21 v0_22 v0_23 v0_24 v0_25 v0_30 v0_31 v0_32 v0_33 v0_34 v0_35 v0_36 v0_37 : Value) (p1 p2 p3 p4 p5 routeMany0 routeCost0 : Int32) (basic1 linkFrom2 linkMinutes3 linkPrice4 linkTo5 route6 tried7 : Nat → Int32) (o_routeMany0 o_routeCost0 : Int32) (o_route6 o_tried7 : Nat → Int32) (sz : Nat) (hf : f_X10_goOn F p1 p2 p3 p4 p5 routeMany0 routeCost0 basic1 linkFrom2 linkMinutes3 linkPrice4 linkTo5 route6 tried7 = some (o_routeMany0, o_routeCost0, o_route6, o_tried7)) : CV l m_X10_goOn (rml (1 + 4) 0 0) g (w_X10_goOn g h0 h1 h2 h3 h4 h5 h6 h7 v0_0 v0_1 v0_2 v0_3 v0_4 v0_5 v0_6 v0_7 v0_8 v0_9 v0_11 v0_16 v0_17 v0_18 v0_19 v0_20 v0_21 v0_22 v0_23 v0_24 v0_25 v0_30 v0_31 v0_32 v0_33 v0_34 v0_35 v0_36 v0_37 routeMany0 routeCost0 basic1 linkFrom2 linkMinutes3 linkPrice4 linkTo5 route6 tried7) (fun _ => w_X10_goOn g h0 h1 h2 h3 h4 h5 h6 h7 v0_0 v0_1 v0_2 v0_3 v0_4 v0_5 v0_6 v0_7 v0_8 v0_9 v0_11 v0_16 v0_17 v0_18 v0_19 v0_20 v0_21 v0_22 v0_23 v0_24 v0_25 v0_30 v0_31 v0_32 v0_33 v0_34 v0_35 v0_36 v0_37 o_routeMany0 o_routeCost0 basic1 linkFrom2 linkMinutes3 linkPrice4 linkTo5 o_route6 o_tried7) sz [.ref h0, .int p1, .int p2, .int p3, .int p4, .int p5] := cr_X10_goOn l g F h0 h1 h2 h3 h4 h5 h6 h7 v0_0 v0_1 v0_2 v0_3 v0_4 v0_5 v0_6 v0_7 v0_8 v0_9 v0_11 v0_16 v0_17 v0_18 v0_19 v0_20 v0_21 v0_22 v0_23 v0_24 v0_25 v0_30 v0_31 v0_32 v0_33 v0_34 v0_35 v0_36 v0_37 4 p1 p2 p3 p4 p5 routeMany0 routeCost0 basic1 linkFrom2 linkMinutes3 linkPrice4 linkTo5 route6 tried7 o_routeMany0 o_routeCost0 o_route6 o_tried7 sz hf

theorem dX10_layRoute_0 : decode cX10_layRoute 0 = .ok (.aload_n 0, 1) := by decide +kernel
theorem dX10_layRoute_1 : decode cX10_layRoute 1 = .ok (.iconst 0, 1) := by decide +kernel
theorem dX10_layRoute_2 : decode cX10_layRoute 2 = .ok (.putfield 225, 3) := by decide +kernel
theorem dX10_layRoute_5 : decode cX10_layRoute 5 = .ok (.aload_n 0, 1) := by decide +kernel
theorem dX10_layRoute_6 : decode cX10_layRoute 6 = .ok (.iconst 0, 1) := by decide +kernel
theorem dX10_layRoute_7 : decode cX10_layRoute 7 = .ok (.putfield 228, 3) := by decide +kernel
theorem dX10_layRoute_10 : decode cX10_layRoute 10 = .ok (.aload_n 0, 1) := by decide +kernel
theorem dX10_layRoute_11 : decode cX10_layRoute 11 = .ok (.getfield 60, 3) := by decide +kernel
theorem dX10_layRoute_14 : decode cX10_layRoute 14 = .ok (.iconst 0, 1) := by decide +kernel
theorem dX10_layRoute_15 : decode cX10_layRoute 15 = .ok (.iload_n 1, 1) := by decide +kernel
theorem dX10_layRoute_16 : decode cX10_layRoute 16 = .ok (.iastore, 1) := by decide +kernel
theorem dX10_layRoute_17 : decode cX10_layRoute 17 = .ok (.aload_n 0, 1) := by decide +kernel
theorem dX10_layRoute_18 : decode cX10_layRoute 18 = .ok (.iconst 0, 1) := by decide +kernel
theorem dX10_layRoute_19 : decode cX10_layRoute 19 = .ok (.iload_n 2, 1) := by decide +kernel
theorem dX10_layRoute_20 : decode cX10_layRoute 20 = .ok (.iconst 0, 1) := by decide +kernel
theorem dX10_layRoute_21 : decode cX10_layRoute 21 = .ok (.iconst 0, 1) := by decide +kernel
theorem dX10_layRoute_22 : decode cX10_layRoute 22 = .ok (.iload_n 3, 1) := by decide +kernel
theorem dX10_layRoute_23 : decode cX10_layRoute 23 = .ok (.invokevirtual 234, 3) := by decide +kernel
theorem dX10_layRoute_26 : decode cX10_layRoute 26 = .ok (.aload_n 0, 1) := by decide +kernel
theorem dX10_layRoute_27 : decode cX10_layRoute 27 = .ok (.getfield 225, 3) := by decide +kernel
theorem dX10_layRoute_30 : decode cX10_layRoute 30 = .ok (.ireturn, 1) := by decide +kernel
abbrev m_X10_layRoute : MD := (yX10_layRoute, cX10_layRoute, 4, (some .int))

abbrev w_X10_layRoute (g : GT) (h0 h1 h2 h3 h4 h5 h6 h7 : Nat) (v0_0 v0_1 v0_2 v0_3 v0_4 v0_5 v0_6 v0_7 v0_8 v0_9 v0_11 v0_16 v0_17 v0_18 v0_19 v0_20 v0_21 v0_22 v0_23 v0_24 v0_25 v0_30 v0_31 v0_32 v0_33 v0_34 v0_35 v0_36 v0_37 : Value) (routeMany0 routeCost0 : Int32) (basic1 linkFrom2 linkMinutes3 linkPrice4 linkTo5 route6 tried7 : Nat → Int32) : va_W := [(h0, .inr (10, [v0_0, v0_1, v0_2, v0_3, v0_4, v0_5, v0_6, v0_7, v0_8, v0_9, .ref h1, v0_11, .ref h2, .ref h5, .ref h3, .ref h4, v0_16, v0_17, v0_18, v0_19, v0_20, v0_21, v0_22, v0_23, v0_24, v0_25, .int routeMany0, .int routeCost0, .ref h6, .ref h7, v0_30, v0_31, v0_32, v0_33, v0_34, v0_35, v0_36, v0_37])), (h1, aI g 7 basic1), (h2, aI g 48 linkFrom2), (h3, aI g 48 linkMinutes3), (h4, aI g 48 linkPrice4), (h5, aI g 48 linkTo5), (h6, aI g 4 route6), (h7, aI g 4 tried7)]
def f_X10_layRoute (F : Nat) (p1 p2 p3 routeMany0 routeCost0 : Int32) (basic1 linkFrom2 linkMinutes3 linkPrice4 linkTo5 route6 tried7 : Nat → Int32) : Option (Int32 × Int32 × Int32 × (Nat → Int32) × (Nat → Int32)) :=
  wr tried7 4 0 p1 fun f1 =>
  bd4 (f_X10_goOn F 0 p2 0 0 p3 0 0 basic1 linkFrom2 linkMinutes3 linkPrice4 linkTo5 route6 f1) fun o2 o3 o4 o5 =>
  some (o2, o2, o3, o4, o5)
set_option maxHeartbeats 4000000 in
set_option maxRecDepth 100000 in
theorem c_X10_layRoute (l : Launch) (g : GT) (F : Nat) (h0 h1 h2 h3 h4 h5 h6 h7 : Nat) (v0_0 v0_1 v0_2 v0_3 v0_4 v0_5 v0_6 v0_7 v0_8 v0_9 v0_11 v0_16 v0_17 v0_18 v0_19 v0_20 v0_21 v0_22 v0_23 v0_24 v0_25 v0_30 v0_31 v0_32 v0_33 v0_34 v0_35 v0_36 v0_37 : Value) (p1 p2 p3 routeMany0 routeCost0 : Int32) (basic1 linkFrom2 linkMinutes3 linkPrice4 linkTo5 route6 tried7 : Nat → Int32) (r o_routeMany0 o_routeCost0 : Int32) (o_route6 o_tried7 : Nat → Int32) (sz : Nat) (hf : f_X10_layRoute F p1 p2 p3 routeMany0 routeCost0 basic1 linkFrom2 linkMinutes3 linkPrice4 linkTo5 route6 tried7 = some (r, o_routeMany0, o_routeCost0, o_route6, o_tried7)) : CI l m_X10_layRoute (rml 6 0 0) g (w_X10_layRoute g h0 h1 h2 h3 h4 h5 h6 h7 v0_0 v0_1 v0_2 v0_3 v0_4 v0_5 v0_6 v0_7 v0_8 v0_9 v0_11 v0_16 v0_17 v0_18 v0_19 v0_20 v0_21 v0_22 v0_23 v0_24 v0_25 v0_30 v0_31 v0_32 v0_33 v0_34 v0_35 v0_36 v0_37 routeMany0 routeCost0 basic1 linkFrom2 linkMinutes3 linkPrice4 linkTo5 route6 tried7) (fun _ => w_X10_layRoute g h0 h1 h2 h3 h4 h5 h6 h7 v0_0 v0_1 v0_2 v0_3 v0_4 v0_5 v0_6 v0_7 v0_8 v0_9 v0_11 v0_16 v0_17 v0_18 v0_19 v0_20 v0_21 v0_22 v0_23 v0_24 v0_25 v0_30 v0_31 v0_32 v0_33 v0_34 v0_35 v0_36 v0_37 o_routeMany0 o_routeCost0 basic1 linkFrom2 linkMinutes3 linkPrice4 linkTo5 o_route6 o_tried7) sz [.ref h0, .int p1, .int p2, .int p3] r := by
  refine en_i (by decide) (Nat.le_of_ble_eq_true rfl) (fun p e s m args below meth c A ls C w hl => ?_)
  have C : Cx p s m args meth c RX10 m_X10_layRoute g A := C
  have hx := C.1
  have hb : c.code = cX10_layRoute := C.2.1
  have hl : lv_has ls 4 [(0, .ref h0), (1, .int p1), (2, .int p2), (3, .int p3)] := hl
  obtain ⟨Q, hQ⟩ : ∃ Q, Q = QI below args s g A (fun _ => w_X10_layRoute g h0 h1 h2 h3 h4 h5 h6 h7 v0_0 v0_1 v0_2 v0_3 v0_4 v0_5 v0_6 v0_7 v0_8 v0_9 v0_11 v0_16 v0_17 v0_18 v0_19 v0_20 v0_21 v0_22 v0_23 v0_24 v0_25 v0_30 v0_31 v0_32 v0_33 v0_34 v0_35 v0_36 v0_37 o_routeMany0 o_routeCost0 basic1 linkFrom2 linkMinutes3 linkPrice4 linkTo5 o_route6 o_tried7) r 0 0 := ⟨_, rfl⟩
  suffices hW : W p l e (rml 6 0 0) s m args below meth c s.heap [] 0 0 Q (F0 m 0 ls []) from (by rw [hQ] at hW; exact hW)
  unfold f_X10_layRoute at hf
  refine lv_aload_n hx hb dX10_layRoute_0 rfl (lv_at hl 0 rfl) ?_
  refine lv_iconst (v := 0) hx hb dX10_layRoute_1 (by decide) ?_
  refine p_X10_225 C w 0 rfl (Nat.le_of_ble_eq_true rfl) (ws2 := w_X10_layRoute g h0 h1 h2 h3 h4 h5 h6 h7 v0_0 v0_1 v0_2 v0_3 v0_4 v0_5 v0_6 v0_7 v0_8 v0_9 v0_11 v0_16 v0_17 v0_18 v0_19 v0_20 v0_21 v0_22 v0_23 v0_24 v0_25 v0_30 v0_31 v0_32 v0_33 v0_34 v0_35 v0_36 v0_37 0 routeCost0 basic1 linkFrom2 linkMinutes3 linkPrice4 linkTo5 route6 tried7) rfl dX10_layRoute_2 (fun H locs w => ?_)
  refine lv_aload_n hx hb dX10_layRoute_5 rfl (lv_at hl 0 rfl) ?_
  refine lv_iconst (v := 0) hx hb dX10_layRoute_6 (by decide) ?_
  refine p_X10_228 C w 0 rfl (Nat.le_of_ble_eq_true rfl) (ws2 := w_X10_layRoute g h0 h1 h2 h3 h4 h5 h6 h7 v0_0 v0_1 v0_2 v0_3 v0_4 v0_5 v0_6 v0_7 v0_8 v0_9 v0_11 v0_16 v0_17 v0_18 v0_19 v0_20 v0_21 v0_22 v0_23 v0_24 v0_25 v0_30 v0_31 v0_32 v0_33 v0_34 v0_35 v0_36 v0_37 0 0 basic1 linkFrom2 linkMinutes3 linkPrice4 linkTo5 route6 tried7) rfl dX10_layRoute_7 (fun H locs w => ?_)
  refine lv_aload_n hx hb dX10_layRoute_10 rfl (lv_at hl 0 rfl) ?_
  refine g_X10_60 C w 0 rfl rfl dX10_layRoute_11 ?_
  refine lv_iconst (v := 0) hx hb dX10_layRoute_14 (by decide) ?_
  refine lv_iload_n hx hb dX10_layRoute_15 rfl (lv_at hl 1 rfl) ?_
  obtain ⟨f1, hif1, haf1, hf⟩ := wr_some hf
  refine ias C w 7 rfl hif1 haf1 (ws2 := w_X10_layRoute g h0 h1 h2 h3 h4 h5 h6 h7 v0_0 v0_1 v0_2 v0_3 v0_4 v0_5 v0_6 v0_7 v0_8 v0_9 v0_11 v0_16 v0_17 v0_18 v0_19 v0_20 v0_21 v0_22 v0_23 v0_24 v0_25 v0_30 v0_31 v0_32 v0_33 v0_34 v0_35 v0_36 v0_37 0 0 basic1 linkFrom2 linkMinutes3 linkPrice4 linkTo5 route6 f1) rfl dX10_layRoute_16 (fun H locs w => ?_)
  refine lv_aload_n hx hb dX10_layRoute_17 rfl (lv_at hl 0 rfl) ?_
  refine lv_iconst (v := 0) hx hb dX10_layRoute_18 (by decide) ?_
  refine lv_iload_n hx hb dX10_layRoute_19 rfl (lv_at hl 2 rfl) ?_
  refine lv_iconst (v := 0) hx hb dX10_layRoute_20 (by decide) ?_
  refine lv_iconst (v := 0) hx hb dX10_layRoute_21 (by decide) ?_
  refine lv_iload_n hx hb dX10_layRoute_22 rfl (lv_at hl 3 rfl) ?_
  obtain ⟨o2, o3, o4, o5, hc6, hf⟩ := bd4_some hf
  refine ca_vV C w (wn := fun _ => w_X10_layRoute g h0 h1 h2 h3 h4 h5 h6 h7 v0_0 v0_1 v0_2 v0_3 v0_4 v0_5 v0_6 v0_7 v0_8 v0_9 v0_11 v0_16 v0_17 v0_18 v0_19 v0_20 v0_21 v0_22 v0_23 v0_24 v0_25 v0_30 v0_31 v0_32 v0_33 v0_34 v0_35 v0_36 v0_37 o2 o3 basic1 linkFrom2 linkMinutes3 linkPrice4 linkTo5 o4 o5) (pm_k [true, true, true, true, true, true, true, true] rfl rfl (fun _ => Nat.le_of_ble_eq_true rfl) (fun _ => rfl)) (c_X10_goOn l g F h0 h1 h2 h3 h4 h5 h6 h7 v0_0 v0_1 v0_2 v0_3 v0_4 v0_5 v0_6 v0_7 v0_8 v0_9 v0_11 v0_16 v0_17 v0_18 v0_19 v0_20 v0_21 v0_22 v0_23 v0_24 v0_25 v0_30 v0_31 v0_32 v0_33 v0_34 v0_35 v0_36 v0_37 0 p2 0 0 p3 0 0 basic1 linkFrom2 linkMinutes3 linkPrice4 linkTo5 route6 f1 o2 o3 o4 o5 _ hc6) k_X10_234 (rm_le (by decide) (by decide)) 0 10 rfl rfl rfl rfl hl.1 rfl (Nat.le_of_ble_eq_true rfl) dX10_layRoute_23 ⟨Nat.le_of_ble_eq_true rfl, Nat.le_of_ble_eq_true rfl⟩ (cells2 := 0) (slots2 := 0) ⟨rfl, rfl⟩ (fun _ H locs w => ?_)
  refine lv_aload_n hx hb dX10_layRoute_26 rfl (lv_at hl 0 rfl) ?_
  refine g_X10_225 C w 0 rfl rfl dX10_layRoute_27 ?_
  obtain ⟨e1, e2, e3, e4, e5⟩ := tp5 hf
  rw [hQ]
  exact rt_i C w rfl (fun _ => 0) (by rw [← e2, ← e3, ← e4, ← e5]) e1 dX10_layRoute_30

theorem dX10_areRoute_0 : decode cX10_areRoute 0 = .ok (.aload_n 0, 1) := by decide +kernel
theorem dX10_areRoute_1 : decode cX10_areRoute 1 = .ok (.iload_n 1, 1) := by decide +kernel
theorem dX10_areRoute_2 : decode cX10_areRoute 2 = .ok (.invokevirtual 238, 3) := by decide +kernel
theorem dX10_areRoute_5 : decode cX10_areRoute 5 = .ok (.ifCond .eq 27, 3) := by decide +kernel
theorem dX10_areRoute_8 : decode cX10_areRoute 8 = .ok (.aload_n 0, 1) := by decide +kernel
theorem dX10_areRoute_9 : decode cX10_areRoute 9 = .ok (.iload_n 2, 1) := by decide +kernel
theorem dX10_areRoute_10 : decode cX10_areRoute 10 = .ok (.invokevirtual 238, 3) := by decide +kernel
theorem dX10_areRoute_13 : decode cX10_areRoute 13 = .ok (.ifCond .eq 19, 3) := by decide +kernel
theorem dX10_areRoute_16 : decode cX10_areRoute 16 = .ok (.iload_n 3, 1) := by decide +kernel
theorem dX10_areRoute_17 : decode cX10_areRoute 17 = .ok (.i2l, 1) := by decide +kernel
theorem dX10_areRoute_18 : decode cX10_areRoute 18 = .ok (.lconst 0, 1) := by decide +kernel
theorem dX10_areRoute_19 : decode cX10_areRoute 19 = .ok (.ldc2_w 241, 3) := by decide +kernel
theorem dX10_areRoute_22 : decode cX10_areRoute 22 = .ok (.invokestatic 115, 3) := by decide +kernel
theorem dX10_areRoute_25 : decode cX10_areRoute 25 = .ok (.ifCond .eq 7, 3) := by decide +kernel
theorem dX10_areRoute_28 : decode cX10_areRoute 28 = .ok (.iconst 1, 1) := by decide +kernel
theorem dX10_areRoute_29 : decode cX10_areRoute 29 = .ok (.goto 4, 3) := by decide +kernel
theorem dX10_areRoute_32 : decode cX10_areRoute 32 = .ok (.iconst 0, 1) := by decide +kernel
theorem dX10_areRoute_33 : decode cX10_areRoute 33 = .ok (.ireturn, 1) := by decide +kernel
abbrev m_X10_areRoute : MD := (yX10_areRoute, cX10_areRoute, 4, (some .boolean))
theorem q_1467 : Cond.constantLong RX10 241 99999 ∈ TS := ts_t 1467 (by decide +kernel) (by decide +kernel)
theorem q_1466 : Cond.code yX10_isGantry cX10_isGantry 2 (some .boolean) ∈ TS := ts_t 1466 (by decide +kernel) (by decide +kernel)
theorem q_1463 : Cond.methodLink RX10 238 yX10_isGantry ∈ TS := ts_t 1463 (by decide +kernel) (by decide +kernel)
theorem q_1465 : Cond.instanceMethod yX10_isGantry ∈ TS := ts_t 1465 (by decide +kernel) (by decide +kernel)
theorem qs_102 : Cond.selects yX10_isGantry.cls yX10_isGantry yX10_isGantry ∈ TS := ts_s 102 (by decide +kernel) (by decide +kernel)
theorem k_X10_238 : LkV RX10 238 m_X10_isGantry 1 := ⟨q_1463, q_1465, qs_102, ⟨q_11, q_1466, by decide, by decide, by decide +kernel⟩⟩
abbrev w_X10_areRoute (g : GT) (h0 h1 : Nat) (v0_0 v0_1 v0_2 v0_3 v0_4 v0_5 v0_6 v0_7 v0_8 v0_9 v0_11 v0_12 v0_13 v0_14 v0_15 v0_16 v0_17 v0_18 v0_19 v0_20 v0_21 v0_22 v0_23 v0_24 v0_25 v0_26 v0_27 v0_28 v0_29 v0_30 v0_31 v0_32 v0_33 v0_34 v0_35 v0_36 v0_37 : Value) (basic1 : Nat → Int32) : va_W := [(h0, .inr (10, [v0_0, v0_1, v0_2, v0_3, v0_4, v0_5, v0_6, v0_7, v0_8, v0_9, .ref h1, v0_11, v0_12, v0_13, v0_14, v0_15, v0_16, v0_17, v0_18, v0_19, v0_20, v0_21, v0_22, v0_23, v0_24, v0_25, v0_26, v0_27, v0_28, v0_29, v0_30, v0_31, v0_32, v0_33, v0_34, v0_35, v0_36, v0_37])), (h1, aI g 7 basic1)]
def f_X10_areRoute_b33 (F : Nat) (basic1 : Nat → Int32) (s0 : Int32) : Option (Int32) :=
  gd (s0 = 0 ∨ s0 = 1) (some s0)
def f_X10_areRoute_b32 (F : Nat) (basic1 : Nat → Int32) : Option (Int32) :=
  f_X10_areRoute_b33 F basic1 0
def f_X10_areRoute (F : Nat) (p1 p2 p3 : Int32) (basic1 : Nat → Int32) : Option (Int32) :=
  bd1 (f_X10_isGantry F p1 basic1) fun r1 =>
  if r1 = 0 then
    f_X10_areRoute_b32 F basic1
  else
    bd1 (f_X10_isGantry F p2 basic1) fun r4 =>
    if r4 = 0 then
      f_X10_areRoute_b32 F basic1
    else
      bd1 (f_X10_within F p3.toInt64 0 99999) fun r7 =>
      if r7 = 0 then
        f_X10_areRoute_b32 F basic1
      else
        f_X10_areRoute_b33 F basic1 1
set_option maxHeartbeats 4000000 in
set_option maxRecDepth 100000 in
theorem c_X10_areRoute (l : Launch) (g : GT) (F : Nat) (h0 h1 : Nat) (v0_0 v0_1 v0_2 v0_3 v0_4 v0_5 v0_6 v0_7 v0_8 v0_9 v0_11 v0_12 v0_13 v0_14 v0_15 v0_16 v0_17 v0_18 v0_19 v0_20 v0_21 v0_22 v0_23 v0_24 v0_25 v0_26 v0_27 v0_28 v0_29 v0_30 v0_31 v0_32 v0_33 v0_34 v0_35 v0_36 v0_37 : Value) (p1 p2 p3 : Int32) (basic1 : Nat → Int32) (r : Int32) (sz : Nat) (hf : f_X10_areRoute F p1 p2 p3 basic1 = some r) : CI l m_X10_areRoute (rml 2 0 0) g (w_X10_areRoute g h0 h1 v0_0 v0_1 v0_2 v0_3 v0_4 v0_5 v0_6 v0_7 v0_8 v0_9 v0_11 v0_12 v0_13 v0_14 v0_15 v0_16 v0_17 v0_18 v0_19 v0_20 v0_21 v0_22 v0_23 v0_24 v0_25 v0_26 v0_27 v0_28 v0_29 v0_30 v0_31 v0_32 v0_33 v0_34 v0_35 v0_36 v0_37 basic1) (fun _ => w_X10_areRoute g h0 h1 v0_0 v0_1 v0_2 v0_3 v0_4 v0_5 v0_6 v0_7 v0_8 v0_9 v0_11 v0_12 v0_13 v0_14 v0_15 v0_16 v0_17 v0_18 v0_19 v0_20 v0_21 v0_22 v0_23 v0_24 v0_25 v0_26 v0_27 v0_28 v0_29 v0_30 v0_31 v0_32 v0_33 v0_34 v0_35 v0_36 v0_37 basic1) sz [.ref h0, .int p1, .int p2, .int p3] r := by
  refine en_i (by decide) (Nat.le_of_ble_eq_true rfl) (fun p e s m args below meth c A ls C w hl => ?_)
  have C : Cx p s m args meth c RX10 m_X10_areRoute g A := C
  have hx := C.1
  have hb : c.code = cX10_areRoute := C.2.1
  have hl : lv_has ls 4 [(0, .ref h0), (1, .int p1), (2, .int p2), (3, .int p3)] := hl
  obtain ⟨Q, hQ⟩ : ∃ Q, Q = QI below args s g A (fun _ => w_X10_areRoute g h0 h1 v0_0 v0_1 v0_2 v0_3 v0_4 v0_5 v0_6 v0_7 v0_8 v0_9 v0_11 v0_12 v0_13 v0_14 v0_15 v0_16 v0_17 v0_18 v0_19 v0_20 v0_21 v0_22 v0_23 v0_24 v0_25 v0_26 v0_27 v0_28 v0_29 v0_30 v0_31 v0_32 v0_33 v0_34 v0_35 v0_36 v0_37 basic1) r 0 0 := ⟨_, rfl⟩
  suffices hW : W p l e (rml 2 0 0) s m args below meth c s.heap [] 0 0 Q (F0 m 0 ls []) from (by rw [hQ] at hW; exact hW)
  unfold f_X10_areRoute at hf
  have b33 : ∀ (s0 : Int32) (H : Heap) (locs : List Loc) (ls : Array Slot), f_X10_areRoute_b33 F basic1 s0 = some r → Wd g A (w_X10_areRoute g h0 h1 v0_0 v0_1 v0_2 v0_3 v0_4 v0_5 v0_6 v0_7 v0_8 v0_9 v0_11 v0_12 v0_13 v0_14 v0_15 v0_16 v0_17 v0_18 v0_19 v0_20 v0_21 v0_22 v0_23 v0_24 v0_25 v0_26 v0_27 v0_28 v0_29 v0_30 v0_31 v0_32 v0_33 v0_34 v0_35 v0_36 v0_37 basic1) s.heap H locs → lv_has ls 4 [] → W p l e (rml 2 0 0) s m args below meth c H locs 0 0 Q (F0 m 33 ls [.int s0]) := by
    intro s0 H locs ls hf w hl
    unfold f_X10_areRoute_b33 at hf
    obtain ⟨h01, hf⟩ := gd_some hf
    obtain e1 := tp1 hf
    rw [hQ]
    exact rt_z C w rfl h01 (fun _ => 0) rfl e1 dX10_areRoute_33
  have b32 : ∀ (H : Heap) (locs : List Loc) (ls : Array Slot), f_X10_areRoute_b32 F basic1 = some r → Wd g A (w_X10_areRoute g h0 h1 v0_0 v0_1 v0_2 v0_3 v0_4 v0_5 v0_6 v0_7 v0_8 v0_9 v0_11 v0_12 v0_13 v0_14 v0_15 v0_16 v0_17 v0_18 v0_19 v0_20 v0_21 v0_22 v0_23 v0_24 v0_25 v0_26 v0_27 v0_28 v0_29 v0_30 v0_31 v0_32 v0_33 v0_34 v0_35 v0_36 v0_37 basic1) s.heap H locs → lv_has ls 4 [] → W p l e (rml 2 0 0) s m args below meth c H locs 0 0 Q (F0 m 32 ls []) := by
    intro  H locs ls hf w hl
    unfold f_X10_areRoute_b32 at hf
    refine lv_iconst (v := 0) hx hb dX10_areRoute_32 (by decide) ?_
    exact b33 0 _ _ _ hf w (lv_sub hl [] rfl)
  refine lv_aload_n hx hb dX10_areRoute_0 rfl (lv_at hl 0 rfl) ?_
  refine lv_iload_n hx hb dX10_areRoute_1 rfl (lv_at hl 1 rfl) ?_
  obtain ⟨r1, hc2, hf⟩ := bd1_some hf
  refine ca_iV C w (wn := fun _ => w_X10_areRoute g h0 h1 v0_0 v0_1 v0_2 v0_3 v0_4 v0_5 v0_6 v0_7 v0_8 v0_9 v0_11 v0_12 v0_13 v0_14 v0_15 v0_16 v0_17 v0_18 v0_19 v0_20 v0_21 v0_22 v0_23 v0_24 v0_25 v0_26 v0_27 v0_28 v0_29 v0_30 v0_31 v0_32 v0_33 v0_34 v0_35 v0_36 v0_37 basic1) (pm_k [true, true] rfl rfl (fun _ => Nat.le_of_ble_eq_true rfl) (fun _ => rfl)) (c_X10_isGantry l g F h0 h1 v0_0 v0_1 v0_2 v0_3 v0_4 v0_5 v0_6 v0_7 v0_8 v0_9 v0_11 v0_12 v0_13 v0_14 v0_15 v0_16 v0_17 v0_18 v0_19 v0_20 v0_21 v0_22 v0_23 v0_24 v0_25 v0_26 v0_27 v0_28 v0_29 v0_30 v0_31 v0_32 v0_33 v0_34 v0_35 v0_36 v0_37 p1 basic1 r1 _ hc2) k_X10_238 (rm_le (by decide) (by decide)) 0 10 rfl rfl rfl rfl hl.1 rfl (Nat.le_of_ble_eq_true rfl) dX10_areRoute_2 ⟨Nat.le_of_ble_eq_true rfl, Nat.le_of_ble_eq_true rfl⟩ (cells2 := 0) (slots2 := 0) ⟨rfl, rfl⟩ (fun _ H locs w => ?_)
  refine lv_if_eq (tgt := 32) hx hb dX10_areRoute_5 (by decide) (fun c3 => ?_) (fun c3 => ?_)
  · replace hf := it_t c3 hf
    exact b32  _ _ _ hf w (lv_sub hl [] rfl)
  · replace hf := it_f c3 hf
    refine lv_aload_n hx hb dX10_areRoute_8 rfl (lv_at hl 0 rfl) ?_
    refine lv_iload_n hx hb dX10_areRoute_9 rfl (lv_at hl 2 rfl) ?_
    obtain ⟨r4, hc5, hf⟩ := bd1_some hf
    refine ca_iV C w (wn := fun _ => w_X10_areRoute g h0 h1 v0_0 v0_1 v0_2 v0_3 v0_4 v0_5 v0_6 v0_7 v0_8 v0_9 v0_11 v0_12 v0_13 v0_14 v0_15 v0_16 v0_17 v0_18 v0_19 v0_20 v0_21 v0_22 v0_23 v0_24 v0_25 v0_26 v0_27 v0_28 v0_29 v0_30 v0_31 v0_32 v0_33 v0_34 v0_35 v0_36 v0_37 basic1) (pm_k [true, true] rfl rfl (fun _ => Nat.le_of_ble_eq_true rfl) (fun _ => rfl)) (c_X10_isGantry l g F h0 h1 v0_0 v0_1 v0_2 v0_3 v0_4 v0_5 v0_6 v0_7 v0_8 v0_9 v0_11 v0_12 v0_13 v0_14 v0_15 v0_16 v0_17 v0_18 v0_19 v0_20 v0_21 v0_22 v0_23 v0_24 v0_25 v0_26 v0_27 v0_28 v0_29 v0_30 v0_31 v0_32 v0_33 v0_34 v0_35 v0_36 v0_37 p2 basic1 r4 _ hc5) k_X10_238 (rm_le (by decide) (by decide)) 0 10 rfl rfl rfl rfl hl.1 rfl (Nat.le_of_ble_eq_true rfl) dX10_areRoute_10 ⟨Nat.le_of_ble_eq_true rfl, Nat.le_of_ble_eq_true rfl⟩ (cells2 := 0) (slots2 := 0) ⟨rfl, rfl⟩ (fun _ H locs w => ?_)
    refine lv_if_eq (tgt := 32) hx hb dX10_areRoute_13 (by decide) (fun c6 => ?_) (fun c6 => ?_)
    · replace hf := it_t c6 hf
      exact b32  _ _ _ hf w (lv_sub hl [] rfl)
    · replace hf := it_f c6 hf
      refine lv_iload_n hx hb dX10_areRoute_16 rfl (lv_at hl 3 rfl) ?_
      refine lv_i2l (v := p3.toInt64) hx hb dX10_areRoute_17 rfl ?_
      refine lv_lconst (v := 0) hx hb dX10_areRoute_18 (by decide) ?_
      refine lv_ldc2 (v := 99999) hx hb C.2.2.2.1 (C.2.2.2.2.1 _ q_1467) dX10_areRoute_19 ?_
      obtain ⟨r7, hc8, hf⟩ := bd1_some hf
      refine ca_iS C w (wn := fun _ => w_X10_areRoute g h0 h1 v0_0 v0_1 v0_2 v0_3 v0_4 v0_5 v0_6 v0_7 v0_8 v0_9 v0_11 v0_12 v0_13 v0_14 v0_15 v0_16 v0_17 v0_18 v0_19 v0_20 v0_21 v0_22 v0_23 v0_24 v0_25 v0_26 v0_27 v0_28 v0_29 v0_30 v0_31 v0_32 v0_33 v0_34 v0_35 v0_36 v0_37 basic1) (pm_k [false, false] rfl rfl (fun _ => Nat.le_of_ble_eq_true rfl) (fun _ => rfl)) (c_X10_within l g F p3.toInt64 0 99999 r7 _ hc8) k_X10_115 (rm_le (by decide) (by decide)) rfl hl.1 rfl (Nat.le_of_ble_eq_true rfl) dX10_areRoute_22 ⟨Nat.le_of_ble_eq_true rfl, Nat.le_of_ble_eq_true rfl⟩ (cells2 := 0) (slots2 := 0) ⟨rfl, rfl⟩ (fun _ H locs w => ?_)
      refine lv_if_eq (tgt := 32) hx hb dX10_areRoute_25 (by decide) (fun c9 => ?_) (fun c9 => ?_)
      · replace hf := it_t c9 hf
        exact b32  _ _ _ hf w (lv_sub hl [] rfl)
      · replace hf := it_f c9 hf
        refine lv_iconst (v := 1) hx hb dX10_areRoute_28 (by decide) ?_
        refine lv_goto (tgt := 33) hx hb dX10_areRoute_29 (by decide) ?_
        exact b33 1 _ _ _ hf w (lv_sub hl [] rfl)

theorem dX10_routeLinks_0 : decode cX10_routeLinks 0 = .ok (.aload_n 0, 1) := by decide +kernel
theorem dX10_routeLinks_1 : decode cX10_routeLinks 1 = .ok (.iconst 0, 1) := by decide +kernel
theorem dX10_routeLinks_2 : decode cX10_routeLinks 2 = .ok (.putfield 84, 3) := by decide +kernel
theorem dX10_routeLinks_5 : decode cX10_routeLinks 5 = .ok (.aload_n 0, 1) := by decide +kernel
theorem dX10_routeLinks_6 : decode cX10_routeLinks 6 = .ok (.iload_n 1, 1) := by decide +kernel
theorem dX10_routeLinks_7 : decode cX10_routeLinks 7 = .ok (.iload_n 2, 1) := by decide +kernel
theorem dX10_routeLinks_8 : decode cX10_routeLinks 8 = .ok (.iload_n 3, 1) := by decide +kernel
theorem dX10_routeLinks_9 : decode cX10_routeLinks 9 = .ok (.invokevirtual 243, 3) := by decide +kernel
theorem dX10_routeLinks_12 : decode cX10_routeLinks 12 = .ok (.ifCond .ne 9, 3) := by decide +kernel
theorem dX10_routeLinks_15 : decode cX10_routeLinks 15 = .ok (.aload_n 0, 1) := by decide +kernel
theorem dX10_routeLinks_16 : decode cX10_routeLinks 16 = .ok (.iconst 1, 1) := by decide +kernel
theorem dX10_routeLinks_17 : decode cX10_routeLinks 17 = .ok (.invokevirtual 202, 3) := by decide +kernel
theorem dX10_routeLinks_20 : decode cX10_routeLinks 20 = .ok (.ireturn, 1) := by decide +kernel
theorem dX10_routeLinks_21 : decode cX10_routeLinks 21 = .ok (.aload_n 0, 1) := by decide +kernel
theorem dX10_routeLinks_22 : decode cX10_routeLinks 22 = .ok (.iload_n 1, 1) := by decide +kernel
theorem dX10_routeLinks_23 : decode cX10_routeLinks 23 = .ok (.iload_n 2, 1) := by decide +kernel
theorem dX10_routeLinks_24 : decode cX10_routeLinks 24 = .ok (.iload_n 3, 1) := by decide +kernel
theorem dX10_routeLinks_25 : decode cX10_routeLinks 25 = .ok (.invokevirtual 247, 3) := by decide +kernel
theorem dX10_routeLinks_28 : decode cX10_routeLinks 28 = .ok (.istore 4, 2) := by decide +kernel
theorem dX10_routeLinks_30 : decode cX10_routeLinks 30 = .ok (.iload 4, 2) := by decide +kernel
theorem dX10_routeLinks_32 : decode cX10_routeLinks 32 = .ok (.ifCond .ne 7, 3) := by decide +kernel
theorem dX10_routeLinks_35 : decode cX10_routeLinks 35 = .ok (.iconst (-1), 1) := by decide +kernel
theorem dX10_routeLinks_36 : decode cX10_routeLinks 36 = .ok (.goto 5, 3) := by decide +kernel
theorem dX10_routeLinks_39 : decode cX10_routeLinks 39 = .ok (.iload 4, 2) := by decide +kernel
theorem dX10_routeLinks_41 : decode cX10_routeLinks 41 = .ok (.ireturn, 1) := by decide +kernel
abbrev m_X10_routeLinks : MD := (yX10_routeLinks, cX10_routeLinks, 5, (some .int))
theorem q_1462 : Cond.code yX10_areRoute cX10_areRoute 4 (some .boolean) ∈ TS := ts_t 1462 (by decide +kernel) (by decide +kernel)
theorem q_1459 : Cond.methodLink RX10 243 yX10_areRoute ∈ TS := ts_t 1459 (by decide +kernel) (by decide +kernel)
theorem q_1461 : Cond.instanceMethod yX10_areRoute ∈ TS := ts_t 1461 (by decide +kernel) (by decide +kernel)
theorem qs_101 : Cond.selects yX10_areRoute.cls yX10_areRoute yX10_areRoute ∈ TS := ts_s 101 (by decide +kernel) (by decide +kernel)
theorem k_X10_243 : LkV RX10 243 m_X10_areRoute 3 := ⟨q_1459, q_1461, qs_101, ⟨q_11, q_1462, by decide, by decide, by decide +kernel⟩⟩
theorem q_1471 : Cond.code yX10_layRoute cX10_layRoute 4 (some .int) ∈ TS := ts_t 1471 (by decide +kernel) (by decide +kernel)
theorem q_1468 : Cond.methodLink RX10 247 yX10_layRoute ∈ TS := ts_t 1468 (by decide +kernel) (by decide +kernel)
theorem q_1470 : Cond.instanceMethod yX10_layRoute ∈ TS := ts_t 1470 (by decide +kernel) (by decide +kernel)
theorem qs_103 : Cond.selects yX10_layRoute.cls yX10_layRoute yX10_layRoute ∈ TS := ts_s 103 (by decide +kernel) (by decide +kernel)
theorem k_X10_247 : LkV RX10 247 m_X10_layRoute 3 := ⟨q_1468, q_1470, qs_103, ⟨q_11, q_1471, by decide, by decide, by decide +kernel⟩⟩
abbrev w_X10_routeLinks (g : GT) (h0 h1 h2 h3 h4 h5 h6 h7 : Nat) (v0_1 v0_2 v0_3 v0_4 v0_5 v0_6 v0_7 v0_8 v0_9 v0_11 v0_16 v0_17 v0_18 v0_19 v0_20 v0_21 v0_22 v0_23 v0_24 v0_25 v0_30 v0_31 v0_32 v0_33 v0_34 v0_35 v0_36 v0_37 : Value) (thrown0 routeMany0 routeCost0 : Int32) (basic1 linkFrom2 linkMinutes3 linkPrice4 linkTo5 route6 tried7 : Nat → Int32) : va_W := [(h0, .inr (10, [.int thrown0, v0_1, v0_2, v0_3, v0_4, v0_5, v0_6, v0_7, v0_8, v0_9, .ref h1, v0_11, .ref h2, .ref h5, .ref h3, .ref h4, v0_16, v0_17, v0_18, v0_19, v0_20, v0_21, v0_22, v0_23, v0_24, v0_25, .int routeMany0, .int routeCost0, .ref h6, .ref h7, v0_30, v0_31, v0_32, v0_33, v0_34, v0_35, v0_36, v0_37])), (h1, aI g 7 basic1), (h2, aI g 48 linkFrom2), (h3, aI g 48 linkMinutes3), (h4, aI g 48 linkPrice4), (h5, aI g 48 linkTo5), (h6, aI g 4 route6), (h7, aI g 4 tried7)]
def f_X10_routeLinks_b41 (F : Nat) (basic1 linkFrom2 linkMinutes3 linkPrice4 linkTo5 : Nat → Int32) (s0 thrown0 routeMany0 routeCost0 : Int32) (route6 tried7 : Nat → Int32) : Option (Int32 × Int32 × Int32 × Int32 × (Nat → Int32) × (Nat → Int32)) :=
  some (s0, thrown0, routeMany0, routeCost0, route6, tried7)
def f_X10_routeLinks (F : Nat) (p1 p2 p3 thrown0 routeMany0 routeCost0 : Int32) (basic1 linkFrom2 linkMinutes3 linkPrice4 linkTo5 route6 tried7 : Nat → Int32) : Option (Int32 × Int32 × Int32 × Int32 × (Nat → Int32) × (Nat → Int32)) :=
  bd1 (f_X10_areRoute F p1 p2 p3 basic1) fun r1 =>
  if r1 = 0 then
    bd2 (f_X10_fail F 1 0) fun r11 o12 =>
    some (r11, o12, routeMany0, routeCost0, route6, tried7)
  else
    bd5 (f_X10_layRoute F p1 p2 p3 routeMany0 routeCost0 basic1 linkFrom2 linkMinutes3 linkPrice4 linkTo5 route6 tried7) fun r4 o5 o6 o7 o8 =>
    if r4 = 0 then
      f_X10_routeLinks_b41 F basic1 linkFrom2 linkMinutes3 linkPrice4 linkTo5 (-1) 0 o5 o6 o7 o8
    else
      f_X10_routeLinks_b41 F basic1 linkFrom2 linkMinutes3 linkPrice4 linkTo5 r4 0 o5 o6 o7 o8
set_option maxHeartbeats 4000000 in
set_option maxRecDepth 100000 in
theorem c_X10_routeLinks (l : Launch) (g : GT) (F : Nat) (h0 h1 h2 h3 h4 h5 h6 h7 : Nat) (v0_1 v0_2 v0_3 v0_4 v0_5 v0_6 v0_7 v0_8 v0_9 v0_11 v0_16 v0_17 v0_18 v0_19 v0_20 v0_21 v0_22 v0_23 v0_24 v0_25 v0_30 v0_31 v0_32 v0_33 v0_34 v0_35 v0_36 v0_37 : Value) (p1 p2 p3 thrown0 routeMany0 routeCost0 : Int32) (basic1 linkFrom2 linkMinutes3 linkPrice4 linkTo5 route6 tried7 : Nat → Int32) (r o_thrown0 o_routeMany0 o_routeCost0 : Int32) (o_route6 o_tried7 : Nat → Int32) (sz : Nat) (hf : f_X10_routeLinks F p1 p2 p3 thrown0 routeMany0 routeCost0 basic1 linkFrom2 linkMinutes3 linkPrice4 linkTo5 route6 tried7 = some (r, o_thrown0, o_routeMany0, o_routeCost0, o_route6, o_tried7)) : CI l m_X10_routeLinks (rml 7 0 0) g (w_X10_routeLinks g h0 h1 h2 h3 h4 h5 h6 h7 v0_1 v0_2 v0_3 v0_4 v0_5 v0_6 v0_7 v0_8 v0_9 v0_11 v0_16 v0_17 v0_18 v0_19 v0_20 v0_21 v0_22 v0_23 v0_24 v0_25 v0_30 v0_31 v0_32 v0_33 v0_34 v0_35 v0_36 v0_37 thrown0 routeMany0 routeCost0 basic1 linkFrom2 linkMinutes3 linkPrice4 linkTo5 route6 tried7) (fun _ => w_X10_routeLinks g h0 h1 h2 h3 h4 h5 h6 h7 v0_1 v0_2 v0_3 v0_4 v0_5 v0_6 v0_7 v0_8 v0_9 v0_11 v0_16 v0_17 v0_18 v0_19 v0_20 v0_21 v0_22 v0_23 v0_24 v0_25 v0_30 v0_31 v0_32 v0_33 v0_34 v0_35 v0_36 v0_37 o_thrown0 o_routeMany0 o_routeCost0 basic1 linkFrom2 linkMinutes3 linkPrice4 linkTo5 o_route6 o_tried7) sz [.ref h0, .int p1, .int p2, .int p3] r := by
  refine en_i (by decide) (Nat.le_of_ble_eq_true rfl) (fun p e s m args below meth c A ls C w hl => ?_)
  have C : Cx p s m args meth c RX10 m_X10_routeLinks g A := C
  have hx := C.1
  have hb : c.code = cX10_routeLinks := C.2.1
  have hl : lv_has ls 5 [(0, .ref h0), (1, .int p1), (2, .int p2), (3, .int p3)] := hl
  obtain ⟨Q, hQ⟩ : ∃ Q, Q = QI below args s g A (fun _ => w_X10_routeLinks g h0 h1 h2 h3 h4 h5 h6 h7 v0_1 v0_2 v0_3 v0_4 v0_5 v0_6 v0_7 v0_8 v0_9 v0_11 v0_16 v0_17 v0_18 v0_19 v0_20 v0_21 v0_22 v0_23 v0_24 v0_25 v0_30 v0_31 v0_32 v0_33 v0_34 v0_35 v0_36 v0_37 o_thrown0 o_routeMany0 o_routeCost0 basic1 linkFrom2 linkMinutes3 linkPrice4 linkTo5 o_route6 o_tried7) r 0 0 := ⟨_, rfl⟩
  suffices hW : W p l e (rml 7 0 0) s m args below meth c s.heap [] 0 0 Q (F0 m 0 ls []) from (by rw [hQ] at hW; exact hW)
  unfold f_X10_routeLinks at hf
  have b41 : ∀ (s0 thrown0 routeMany0 routeCost0 : Int32) (route6 tried7 : Nat → Int32) (H : Heap) (locs : List Loc) (ls : Array Slot), f_X10_routeLinks_b41 F basic1 linkFrom2 linkMinutes3 linkPrice4 linkTo5 s0 thrown0 routeMany0 routeCost0 route6 tried7 = some (r, o_thrown0, o_routeMany0, o_routeCost0, o_route6, o_tried7) → Wd g A (w_X10_routeLinks g h0 h1 h2 h3 h4 h5 h6 h7 v0_1 v0_2 v0_3 v0_4 v0_5 v0_6 v0_7 v0_8 v0_9 v0_11 v0_16 v0_17 v0_18 v0_19 v0_20 v0_21 v0_22 v0_23 v0_24 v0_25 v0_30 v0_31 v0_32 v0_33 v0_34 v0_35 v0_36 v0_37 thrown0 routeMany0 routeCost0 basic1 linkFrom2 linkMinutes3 linkPrice4 linkTo5 route6 tried7) s.heap H locs → lv_has ls 5 [] → W p l e (rml 7 0 0) s m args below meth c H locs 0 0 Q (F0 m 41 ls [.int s0]) := by
    intro s0 thrown0 routeMany0 routeCost0 route6 tried7 H locs ls hf w hl
    unfold f_X10_routeLinks_b41 at hf
    obtain ⟨e1, e2, e3, e4, e5, e6⟩ := tp6 hf
    rw [hQ]
    exact rt_i C w rfl (fun _ => 0) (by rw [← e2, ← e3, ← e4, ← e5, ← e6]) e1 dX10_routeLinks_41
  refine lv_aload_n hx hb dX10_routeLinks_0 rfl (lv_at hl 0 rfl) ?_
  refine lv_iconst (v := 0) hx hb dX10_routeLinks_1 (by decide) ?_
  refine p_X10_84 C w 0 rfl (Nat.le_of_ble_eq_true rfl) (ws2 := w_X10_routeLinks g h0 h1 h2 h3 h4 h5 h6 h7 v0_1 v0_2 v0_3 v0_4 v0_5 v0_6 v0_7 v0_8 v0_9 v0_11 v0_16 v0_17 v0_18 v0_19 v0_20 v0_21 v0_22 v0_23 v0_24 v0_25 v0_30 v0_31 v0_32 v0_33 v0_34 v0_35 v0_36 v0_37 0 routeMany0 routeCost0 basic1 linkFrom2 linkMinutes3 linkPrice4 linkTo5 route6 tried7) rfl dX10_routeLinks_2 (fun H locs w => ?_)
  refine lv_aload_n hx hb dX10_routeLinks_5 rfl (lv_at hl 0 rfl) ?_
  refine lv_iload_n hx hb dX10_routeLinks_6 rfl (lv_at hl 1 rfl) ?_
  refine lv_iload_n hx hb dX10_routeLinks_7 rfl (lv_at hl 2 rfl) ?_
  refine lv_iload_n hx hb dX10_routeLinks_8 rfl (lv_at hl 3 rfl) ?_
  obtain ⟨r1, hc2, hf⟩ := bd1_some hf
  refine ca_iV C w (wn := fun _ => w_X10_routeLinks g h0 h1 h2 h3 h4 h5 h6 h7 v0_1 v0_2 v0_3 v0_4 v0_5 v0_6 v0_7 v0_8 v0_9 v0_11 v0_16 v0_17 v0_18 v0_19 v0_20 v0_21 v0_22 v0_23 v0_24 v0_25 v0_30 v0_31 v0_32 v0_33 v0_34 v0_35 v0_36 v0_37 0 routeMany0 routeCost0 basic1 linkFrom2 linkMinutes3 linkPrice4 linkTo5 route6 tried7) (pm_k [true, true, false, false, false, false, false, false] rfl rfl (fun _ => Nat.le_of_ble_eq_true rfl) (fun _ => rfl)) (c_X10_areRoute l g F h0 h1 (.int 0) v0_1 v0_2 v0_3 v0_4 v0_5 v0_6 v0_7 v0_8 v0_9 v0_11 (.ref h2) (.ref h5) (.ref h3) (.ref h4) v0_16 v0_17 v0_18 v0_19 v0_20 v0_21 v0_22 v0_23 v0_24 v0_25 (.int routeMany0) (.int routeCost0) (.ref h6) (.ref h7) v0_30 v0_31 v0_32 v0_33 v0_34 v0_35 v0_36 v0_37 p1 p2 p3 basic1 r1 _ hc2) k_X10_243 (rm_le (by decide) (by decide)) 0 10 rfl rfl rfl rfl hl.1 rfl (Nat.le_of_ble_eq_true rfl) dX10_routeLinks_9 ⟨Nat.le_of_ble_eq_true rfl, Nat.le_of_ble_eq_true rfl⟩ (cells2 := 0) (slots2 := 0) ⟨rfl, rfl⟩ (fun _ H locs w => ?_)
  refine lv_if_ne (tgt := 21) hx hb dX10_routeLinks_12 (by decide) (fun c3 => ?_) (fun c3 => ?_)
  · replace hf := it_f c3 hf
    refine lv_aload_n hx hb dX10_routeLinks_21 rfl (lv_at hl 0 rfl) ?_
    refine lv_iload_n hx hb dX10_routeLinks_22 rfl (lv_at hl 1 rfl) ?_
    refine lv_iload_n hx hb dX10_routeLinks_23 rfl (lv_at hl 2 rfl) ?_
    refine lv_iload_n hx hb dX10_routeLinks_24 rfl (lv_at hl 3 rfl) ?_
    obtain ⟨r4, o5, o6, o7, o8, hc9, hf⟩ := bd5_some hf
    refine ca_iV C w (wn := fun _ => w_X10_routeLinks g h0 h1 h2 h3 h4 h5 h6 h7 v0_1 v0_2 v0_3 v0_4 v0_5 v0_6 v0_7 v0_8 v0_9 v0_11 v0_16 v0_17 v0_18 v0_19 v0_20 v0_21 v0_22 v0_23 v0_24 v0_25 v0_30 v0_31 v0_32 v0_33 v0_34 v0_35 v0_36 v0_37 0 o5 o6 basic1 linkFrom2 linkMinutes3 linkPrice4 linkTo5 o7 o8) (pm_k [true, true, true, true, true, true, true, true] rfl rfl (fun _ => Nat.le_of_ble_eq_true rfl) (fun _ => rfl)) (c_X10_layRoute l g F h0 h1 h2 h3 h4 h5 h6 h7 (.int 0) v0_1 v0_2 v0_3 v0_4 v0_5 v0_6 v0_7 v0_8 v0_9 v0_11 v0_16 v0_17 v0_18 v0_19 v0_20 v0_21 v0_22 v0_23 v0_24 v0_25 v0_30 v0_31 v0_32 v0_33 v0_34 v0_35 v0_36 v0_37 p1 p2 p3 routeMany0 routeCost0 basic1 linkFrom2 linkMinutes3 linkPrice4 linkTo5 route6 tried7 r4 o5 o6 o7 o8 _ hc9) k_X10_247 (rm_le (by decide) (by decide)) 0 10 rfl rfl rfl rfl hl.1 rfl (Nat.le_of_ble_eq_true rfl) dX10_routeLinks_25 ⟨Nat.le_of_ble_eq_true rfl, Nat.le_of_ble_eq_true rfl⟩ (cells2 := 0) (slots2 := 0) ⟨rfl, rfl⟩ (fun _ H locs w => ?_)
    refine lv_istore (lv' := [(4, .int r4), (0, .ref h0), (1, .int p1), (2, .int p2), (3, .int p3)]) hx hb dX10_routeLinks_28 hl (by decide) rfl (fun ls hl => ?_)
    refine lv_iload hx hb dX10_routeLinks_30 (lv_at hl 0 rfl) ?_
    refine lv_if_ne (tgt := 39) hx hb dX10_routeLinks_32 (by decide) (fun c10 => ?_) (fun c10 => ?_)
    · replace hf := it_f c10 hf
      refine lv_iload hx hb dX10_routeLinks_39 (lv_at hl 0 rfl) ?_
      exact b41 r4 0 o5 o6 o7 o8 _ _ _ hf w (lv_sub hl [] rfl)
    · replace hf := it_t c10 hf
      refine lv_iconst (v := -1) hx hb dX10_routeLinks_35 (by decide) ?_
      refine lv_goto (tgt := 41) hx hb dX10_routeLinks_36 (by decide) ?_
      exact b41 (-1) 0 o5 o6 o7 o8 _ _ _ hf w (lv_sub hl [] rfl)
  · replace hf := it_t c3 hf
    refine lv_aload_n hx hb dX10_routeLinks_15 rfl (lv_at hl 0 rfl) ?_
    refine lv_iconst (v := 1) hx hb dX10_routeLinks_16 (by decide) ?_
    obtain ⟨r11, o12, hc13, hf⟩ := bd2_some hf
    refine ca_iV C w (wn := fun _ => w_X10_routeLinks g h0 h1 h2 h3 h4 h5 h6 h7 v0_1 v0_2 v0_3 v0_4 v0_5 v0_6 v0_7 v0_8 v0_9 v0_11 v0_16 v0_17 v0_18 v0_19 v0_20 v0_21 v0_22 v0_23 v0_24 v0_25 v0_30 v0_31 v0_32 v0_33 v0_34 v0_35 v0_36 v0_37 o12 routeMany0 routeCost0 basic1 linkFrom2 linkMinutes3 linkPrice4 linkTo5 route6 tried7) (pm_k [true, false, false, false, false, false, false, false] rfl rfl (fun _ => Nat.le_of_ble_eq_true rfl) (fun _ => rfl)) (c_X10_fail l g F h0 v0_1 v0_2 v0_3 v0_4 v0_5 v0_6 v0_7 v0_8 v0_9 (.ref h1) v0_11 (.ref h2) (.ref h5) (.ref h3) (.ref h4) v0_16 v0_17 v0_18 v0_19 v0_20 v0_21 v0_22 v0_23 v0_24 v0_25 (.int routeMany0) (.int routeCost0) (.ref h6) (.ref h7) v0_30 v0_31 v0_32 v0_33 v0_34 v0_35 v0_36 v0_37 1 0 r11 o12 _ hc13) k_X10_202 (rm_le (by decide) (by decide)) 0 10 rfl rfl rfl rfl hl.1 rfl (Nat.le_of_ble_eq_true rfl) dX10_routeLinks_17 ⟨Nat.le_of_ble_eq_true rfl, Nat.le_of_ble_eq_true rfl⟩ (cells2 := 0) (slots2 := 0) ⟨rfl, rfl⟩ (fun _ H locs w => ?_)
    obtain ⟨e1, e2, e3, e4, e5, e6⟩ := tp6 hf
    rw [hQ]
    exact rt_i C w rfl (fun _ => 0) (by rw [← e2, ← e3, ← e4, ← e5, ← e6]) e1 dX10_routeLinks_20

theorem dX10_routePrice_0 : decode cX10_routePrice 0 = .ok (.aload_n 0, 1) := by decide +kernel
theorem dX10_routePrice_1 : decode cX10_routePrice 1 = .ok (.iconst 0, 1) := by decide +kernel
theorem dX10_routePrice_2 : decode cX10_routePrice 2 = .ok (.putfield 84, 3) := by decide +kernel
theorem dX10_routePrice_5 : decode cX10_routePrice 5 = .ok (.aload_n 0, 1) := by decide +kernel
theorem dX10_routePrice_6 : decode cX10_routePrice 6 = .ok (.iload_n 1, 1) := by decide +kernel
theorem dX10_routePrice_7 : decode cX10_routePrice 7 = .ok (.iload_n 2, 1) := by decide +kernel
theorem dX10_routePrice_8 : decode cX10_routePrice 8 = .ok (.iload_n 3, 1) := by decide +kernel
theorem dX10_routePrice_9 : decode cX10_routePrice 9 = .ok (.invokevirtual 243, 3) := by decide +kernel
theorem dX10_routePrice_12 : decode cX10_routePrice 12 = .ok (.ifCond .ne 9, 3) := by decide +kernel
theorem dX10_routePrice_15 : decode cX10_routePrice 15 = .ok (.aload_n 0, 1) := by decide +kernel
theorem dX10_routePrice_16 : decode cX10_routePrice 16 = .ok (.iconst 1, 1) := by decide +kernel
theorem dX10_routePrice_17 : decode cX10_routePrice 17 = .ok (.invokevirtual 202, 3) := by decide +kernel
theorem dX10_routePrice_20 : decode cX10_routePrice 20 = .ok (.ireturn, 1) := by decide +kernel
theorem dX10_routePrice_21 : decode cX10_routePrice 21 = .ok (.aload_n 0, 1) := by decide +kernel
theorem dX10_routePrice_22 : decode cX10_routePrice 22 = .ok (.iload_n 1, 1) := by decide +kernel
theorem dX10_routePrice_23 : decode cX10_routePrice 23 = .ok (.iload_n 2, 1) := by decide +kernel
theorem dX10_routePrice_24 : decode cX10_routePrice 24 = .ok (.iload_n 3, 1) := by decide +kernel
theorem dX10_routePrice_25 : decode cX10_routePrice 25 = .ok (.invokevirtual 247, 3) := by decide +kernel
theorem dX10_routePrice_28 : decode cX10_routePrice 28 = .ok (.ifCond .ne 7, 3) := by decide +kernel
theorem dX10_routePrice_31 : decode cX10_routePrice 31 = .ok (.iconst (-1), 1) := by decide +kernel
theorem dX10_routePrice_32 : decode cX10_routePrice 32 = .ok (.goto 7, 3) := by decide +kernel
theorem dX10_routePrice_35 : decode cX10_routePrice 35 = .ok (.aload_n 0, 1) := by decide +kernel
theorem dX10_routePrice_36 : decode cX10_routePrice 36 = .ok (.getfield 228, 3) := by decide +kernel
theorem dX10_routePrice_39 : decode cX10_routePrice 39 = .ok (.ireturn, 1) := by decide +kernel
abbrev m_X10_routePrice : MD := (yX10_routePrice, cX10_routePrice, 4, (some .int))

abbrev w_X10_routePrice (g : GT) (h0 h1 h2 h3 h4 h5 h6 h7 : Nat) (v0_1 v0_2 v0_3 v0_4 v0_5 v0_6 v0_7 v0_8 v0_9 v0_11 v0_16 v0_17 v0_18 v0_19 v0_20 v0_21 v0_22 v0_23 v0_24 v0_25 v0_30 v0_31 v0_32 v0_33 v0_34 v0_35 v0_36 v0_37 : Value) (thrown0 routeMany0 routeCost0 : Int32) (basic1 linkFrom2 linkMinutes3 linkPrice4 linkTo5 route6 tried7 : Nat → Int32) : va_W := [(h0, .inr (10, [.int thrown0, v0_1, v0_2, v0_3, v0_4, v0_5, v0_6, v0_7, v0_8, v0_9, .ref h1, v0_11, .ref h2, .ref h5, .ref h3, .ref h4, v0_16, v0_17, v0_18, v0_19, v0_20, v0_21, v0_22, v0_23, v0_24, v0_25, .int routeMany0, .int routeCost0, .ref h6, .ref h7, v0_30, v0_31, v0_32, v0_33, v0_34, v0_35, v0_36, v0_37])), (h1, aI g 7 basic1), (h2, aI g 48 linkFrom2), (h3, aI g 48 linkMinutes3), (h4, aI g 48 linkPrice4), (h5, aI g 48 linkTo5), (h6, aI g 4 route6), (h7, aI g 4 tried7)]
def f_X10_routePrice_b39 (F : Nat) (basic1 linkFrom2 linkMinutes3 linkPrice4 linkTo5 : Nat → Int32) (s0 thrown0 routeMany0 routeCost0 : Int32) (route6 tried7 : Nat → Int32) : Option (Int32 × Int32 × Int32 × Int32 × (Nat → Int32) × (Nat → Int32)) :=
  some (s0, thrown0, routeMany0, routeCost0, route6, tried7)
def f_X10_routePrice (F : Nat) (p1 p2 p3 thrown0 routeMany0 routeCost0 : Int32) (basic1 linkFrom2 linkMinutes3 linkPrice4 linkTo5 route6 tried7 : Nat → Int32) : Option (Int32 × Int32 × Int32 × Int32 × (Nat → Int32) × (Nat → Int32)) :=
  bd1 (f_X10_areRoute F p1 p2 p3 basic1) fun r1 =>
  if r1 = 0 then
    bd2 (f_X10_fail F 1 0) fun r11 o12 =>
    some (r11, o12, routeMany0, routeCost0, route6, tried7)
  else
    bd5 (f_X10_layRoute F p1 p2 p3 routeMany0 routeCost0 basic1 linkFrom2 linkMinutes3 linkPrice4 linkTo5 route6 tried7) fun r4 o5 o6 o7 o8 =>
    if r4 = 0 then
      f_X10_routePrice_b39 F basic1 linkFrom2 linkMinutes3 linkPrice4 linkTo5 (-1) 0 o5 o6 o7 o8
    else
      f_X10_routePrice_b39 F basic1 linkFrom2 linkMinutes3 linkPrice4 linkTo5 o6 0 o5 o6 o7 o8
set_option maxHeartbeats 4000000 in
set_option maxRecDepth 100000 in
theorem c_X10_routePrice (l : Launch) (g : GT) (F : Nat) (h0 h1 h2 h3 h4 h5 h6 h7 : Nat) (v0_1 v0_2 v0_3 v0_4 v0_5 v0_6 v0_7 v0_8 v0_9 v0_11 v0_16 v0_17 v0_18 v0_19 v0_20 v0_21 v0_22 v0_23 v0_24 v0_25 v0_30 v0_31 v0_32 v0_33 v0_34 v0_35 v0_36 v0_37 : Value) (p1 p2 p3 thrown0 routeMany0 routeCost0 : Int32) (basic1 linkFrom2 linkMinutes3 linkPrice4 linkTo5 route6 tried7 : Nat → Int32) (r o_thrown0 o_routeMany0 o_routeCost0 : Int32) (o_route6 o_tried7 : Nat → Int32) (sz : Nat) (hf : f_X10_routePrice F p1 p2 p3 thrown0 routeMany0 routeCost0 basic1 linkFrom2 linkMinutes3 linkPrice4 linkTo5 route6 tried7 = some (r, o_thrown0, o_routeMany0, o_routeCost0, o_route6, o_tried7)) : CI l m_X10_routePrice (rml 7 0 0) g (w_X10_routePrice g h0 h1 h2 h3 h4 h5 h6 h7 v0_1 v0_2 v0_3 v0_4 v0_5 v0_6 v0_7 v0_8 v0_9 v0_11 v0_16 v0_17 v0_18 v0_19 v0_20 v0_21 v0_22 v0_23 v0_24 v0_25 v0_30 v0_31 v0_32 v0_33 v0_34 v0_35 v0_36 v0_37 thrown0 routeMany0 routeCost0 basic1 linkFrom2 linkMinutes3 linkPrice4 linkTo5 route6 tried7) (fun _ => w_X10_routePrice g h0 h1 h2 h3 h4 h5 h6 h7 v0_1 v0_2 v0_3 v0_4 v0_5 v0_6 v0_7 v0_8 v0_9 v0_11 v0_16 v0_17 v0_18 v0_19 v0_20 v0_21 v0_22 v0_23 v0_24 v0_25 v0_30 v0_31 v0_32 v0_33 v0_34 v0_35 v0_36 v0_37 o_thrown0 o_routeMany0 o_routeCost0 basic1 linkFrom2 linkMinutes3 linkPrice4 linkTo5 o_route6 o_tried7) sz [.ref h0, .int p1, .int p2, .int p3] r := by
  refine en_i (by decide) (Nat.le_of_ble_eq_true rfl) (fun p e s m args below meth c A ls C w hl => ?_)
  have C : Cx p s m args meth c RX10 m_X10_routePrice g A := C
  have hx := C.1
  have hb : c.code = cX10_routePrice := C.2.1
  have hl : lv_has ls 4 [(0, .ref h0), (1, .int p1), (2, .int p2), (3, .int p3)] := hl
  obtain ⟨Q, hQ⟩ : ∃ Q, Q = QI below args s g A (fun _ => w_X10_routePrice g h0 h1 h2 h3 h4 h5 h6 h7 v0_1 v0_2 v0_3 v0_4 v0_5 v0_6 v0_7 v0_8 v0_9 v0_11 v0_16 v0_17 v0_18 v0_19 v0_20 v0_21 v0_22 v0_23 v0_24 v0_25 v0_30 v0_31 v0_32 v0_33 v0_34 v0_35 v0_36 v0_37 o_thrown0 o_routeMany0 o_routeCost0 basic1 linkFrom2 linkMinutes3 linkPrice4 linkTo5 o_route6 o_tried7) r 0 0 := ⟨_, rfl⟩
  suffices hW : W p l e (rml 7 0 0) s m args below meth c s.heap [] 0 0 Q (F0 m 0 ls []) from (by rw [hQ] at hW; exact hW)
  unfold f_X10_routePrice at hf
  have b39 : ∀ (s0 thrown0 routeMany0 routeCost0 : Int32) (route6 tried7 : Nat → Int32) (H : Heap) (locs : List Loc) (ls : Array Slot), f_X10_routePrice_b39 F basic1 linkFrom2 linkMinutes3 linkPrice4 linkTo5 s0 thrown0 routeMany0 routeCost0 route6 tried7 = some (r, o_thrown0, o_routeMany0, o_routeCost0, o_route6, o_tried7) → Wd g A (w_X10_routePrice g h0 h1 h2 h3 h4 h5 h6 h7 v0_1 v0_2 v0_3 v0_4 v0_5 v0_6 v0_7 v0_8 v0_9 v0_11 v0_16 v0_17 v0_18 v0_19 v0_20 v0_21 v0_22 v0_23 v0_24 v0_25 v0_30 v0_31 v0_32 v0_33 v0_34 v0_35 v0_36 v0_37 thrown0 routeMany0 routeCost0 basic1 linkFrom2 linkMinutes3 linkPrice4 linkTo5 route6 tried7) s.heap H locs → lv_has ls 4 [] → W p l e (rml 7 0 0) s m args below meth c H locs 0 0 Q (F0 m 39 ls [.int s0]) := by
    intro s0 thrown0 routeMany0 routeCost0 route6 tried7 H locs ls hf w hl
    unfold f_X10_routePrice_b39 at hf
    obtain ⟨e1, e2, e3, e4, e5, e6⟩ := tp6 hf
    rw [hQ]
    exact rt_i C w rfl (fun _ => 0) (by rw [← e2, ← e3, ← e4, ← e5, ← e6]) e1 dX10_routePrice_39
  refine lv_aload_n hx hb dX10_routePrice_0 rfl (lv_at hl 0 rfl) ?_
  refine lv_iconst (v := 0) hx hb dX10_routePrice_1 (by decide) ?_
  refine p_X10_84 C w 0 rfl (Nat.le_of_ble_eq_true rfl) (ws2 := w_X10_routePrice g h0 h1 h2 h3 h4 h5 h6 h7 v0_1 v0_2 v0_3 v0_4 v0_5 v0_6 v0_7 v0_8 v0_9 v0_11 v0_16 v0_17 v0_18 v0_19 v0_20 v0_21 v0_22 v0_23 v0_24 v0_25 v0_30 v0_31 v0_32 v0_33 v0_34 v0_35 v0_36 v0_37 0 routeMany0 routeCost0 basic1 linkFrom2 linkMinutes3 linkPrice4 linkTo5 route6 tried7) rfl dX10_routePrice_2 (fun H locs w => ?_)
  refine lv_aload_n hx hb dX10_routePrice_5 rfl (lv_at hl 0 rfl) ?_
  refine lv_iload_n hx hb dX10_routePrice_6 rfl (lv_at hl 1 rfl) ?_
  refine lv_iload_n hx hb dX10_routePrice_7 rfl (lv_at hl 2 rfl) ?_
  refine lv_iload_n hx hb dX10_routePrice_8 rfl (lv_at hl 3 rfl) ?_
  obtain ⟨r1, hc2, hf⟩ := bd1_some hf
  refine ca_iV C w (wn := fun _ => w_X10_routePrice g h0 h1 h2 h3 h4 h5 h6 h7 v0_1 v0_2 v0_3 v0_4 v0_5 v0_6 v0_7 v0_8 v0_9 v0_11 v0_16 v0_17 v0_18 v0_19 v0_20 v0_21 v0_22 v0_23 v0_24 v0_25 v0_30 v0_31 v0_32 v0_33 v0_34 v0_35 v0_36 v0_37 0 routeMany0 routeCost0 basic1 linkFrom2 linkMinutes3 linkPrice4 linkTo5 route6 tried7) (pm_k [true, true, false, false, false, false, false, false] rfl rfl (fun _ => Nat.le_of_ble_eq_true rfl) (fun _ => rfl)) (c_X10_areRoute l g F h0 h1 (.int 0) v0_1 v0_2 v0_3 v0_4 v0_5 v0_6 v0_7 v0_8 v0_9 v0_11 (.ref h2) (.ref h5) (.ref h3) (.ref h4) v0_16 v0_17 v0_18 v0_19 v0_20 v0_21 v0_22 v0_23 v0_24 v0_25 (.int routeMany0) (.int routeCost0) (.ref h6) (.ref h7) v0_30 v0_31 v0_32 v0_33 v0_34 v0_35 v0_36 v0_37 p1 p2 p3 basic1 r1 _ hc2) k_X10_243 (rm_le (by decide) (by decide)) 0 10 rfl rfl rfl rfl hl.1 rfl (Nat.le_of_ble_eq_true rfl) dX10_routePrice_9 ⟨Nat.le_of_ble_eq_true rfl, Nat.le_of_ble_eq_true rfl⟩ (cells2 := 0) (slots2 := 0) ⟨rfl, rfl⟩ (fun _ H locs w => ?_)
  refine lv_if_ne (tgt := 21) hx hb dX10_routePrice_12 (by decide) (fun c3 => ?_) (fun c3 => ?_)
  · replace hf := it_f c3 hf
    refine lv_aload_n hx hb dX10_routePrice_21 rfl (lv_at hl 0 rfl) ?_
    refine lv_iload_n hx hb dX10_routePrice_22 rfl (lv_at hl 1 rfl) ?_
    refine lv_iload_n hx hb dX10_routePrice_23 rfl (lv_at hl 2 rfl) ?_
    refine lv_iload_n hx hb dX10_routePrice_24 rfl (lv_at hl 3 rfl) ?_
    obtain ⟨r4, o5, o6, o7, o8, hc9, hf⟩ := bd5_some hf
    refine ca_iV C w (wn := fun _ => w_X10_routePrice g h0 h1 h2 h3 h4 h5 h6 h7 v0_1 v0_2 v0_3 v0_4 v0_5 v0_6 v0_7 v0_8 v0_9 v0_11 v0_16 v0_17 v0_18 v0_19 v0_20 v0_21 v0_22 v0_23 v0_24 v0_25 v0_30 v0_31 v0_32 v0_33 v0_34 v0_35 v0_36 v0_37 0 o5 o6 basic1 linkFrom2 linkMinutes3 linkPrice4 linkTo5 o7 o8) (pm_k [true, true, true, true, true, true, true, true] rfl rfl (fun _ => Nat.le_of_ble_eq_true rfl) (fun _ => rfl)) (c_X10_layRoute l g F h0 h1 h2 h3 h4 h5 h6 h7 (.int 0) v0_1 v0_2 v0_3 v0_4 v0_5 v0_6 v0_7 v0_8 v0_9 v0_11 v0_16 v0_17 v0_18 v0_19 v0_20 v0_21 v0_22 v0_23 v0_24 v0_25 v0_30 v0_31 v0_32 v0_33 v0_34 v0_35 v0_36 v0_37 p1 p2 p3 routeMany0 routeCost0 basic1 linkFrom2 linkMinutes3 linkPrice4 linkTo5 route6 tried7 r4 o5 o6 o7 o8 _ hc9) k_X10_247 (rm_le (by decide) (by decide)) 0 10 rfl rfl rfl rfl hl.1 rfl (Nat.le_of_ble_eq_true rfl) dX10_routePrice_25 ⟨Nat.le_of_ble_eq_true rfl, Nat.le_of_ble_eq_true rfl⟩ (cells2 := 0) (slots2 := 0) ⟨rfl, rfl⟩ (fun _ H locs w => ?_)
    refine lv_if_ne (tgt := 35) hx hb dX10_routePrice_28 (by decide) (fun c10 => ?_) (fun c10 => ?_)
    · replace hf := it_f c10 hf
      refine lv_aload_n hx hb dX10_routePrice_35 rfl (lv_at hl 0 rfl) ?_
      refine g_X10_228 C w 0 rfl rfl dX10_routePrice_36 ?_
      exact b39 o6 0 o5 o6 o7 o8 _ _ _ hf w (lv_sub hl [] rfl)
    · replace hf := it_t c10 hf
      refine lv_iconst (v := -1) hx hb dX10_routePrice_31 (by decide) ?_
      refine lv_goto (tgt := 39) hx hb dX10_routePrice_32 (by decide) ?_
      exact b39 (-1) 0 o5 o6 o7 o8 _ _ _ hf w (lv_sub hl [] rfl)
  · replace hf := it_t c3 hf
    refine lv_aload_n hx hb dX10_routePrice_15 rfl (lv_at hl 0 rfl) ?_
    refine lv_iconst (v := 1) hx hb dX10_routePrice_16 (by decide) ?_
    obtain ⟨r11, o12, hc13, hf⟩ := bd2_some hf
    refine ca_iV C w (wn := fun _ => w_X10_routePrice g h0 h1 h2 h3 h4 h5 h6 h7 v0_1 v0_2 v0_3 v0_4 v0_5 v0_6 v0_7 v0_8 v0_9 v0_11 v0_16 v0_17 v0_18 v0_19 v0_20 v0_21 v0_22 v0_23 v0_24 v0_25 v0_30 v0_31 v0_32 v0_33 v0_34 v0_35 v0_36 v0_37 o12 routeMany0 routeCost0 basic1 linkFrom2 linkMinutes3 linkPrice4 linkTo5 route6 tried7) (pm_k [true, false, false, false, false, false, false, false] rfl rfl (fun _ => Nat.le_of_ble_eq_true rfl) (fun _ => rfl)) (c_X10_fail l g F h0 v0_1 v0_2 v0_3 v0_4 v0_5 v0_6 v0_7 v0_8 v0_9 (.ref h1) v0_11 (.ref h2) (.ref h5) (.ref h3) (.ref h4) v0_16 v0_17 v0_18 v0_19 v0_20 v0_21 v0_22 v0_23 v0_24 v0_25 (.int routeMany0) (.int routeCost0) (.ref h6) (.ref h7) v0_30 v0_31 v0_32 v0_33 v0_34 v0_35 v0_36 v0_37 1 0 r11 o12 _ hc13) k_X10_202 (rm_le (by decide) (by decide)) 0 10 rfl rfl rfl rfl hl.1 rfl (Nat.le_of_ble_eq_true rfl) dX10_routePrice_17 ⟨Nat.le_of_ble_eq_true rfl, Nat.le_of_ble_eq_true rfl⟩ (cells2 := 0) (slots2 := 0) ⟨rfl, rfl⟩ (fun _ H locs w => ?_)
    obtain ⟨e1, e2, e3, e4, e5, e6⟩ := tp6 hf
    rw [hQ]
    exact rt_i C w rfl (fun _ => 0) (by rw [← e2, ← e3, ← e4, ← e5, ← e6]) e1 dX10_routePrice_20

theorem dX10_routeGantry_0 : decode cX10_routeGantry 0 = .ok (.aload_n 0, 1) := by decide +kernel
theorem dX10_routeGantry_1 : decode cX10_routeGantry 1 = .ok (.iconst 0, 1) := by decide +kernel
theorem dX10_routeGantry_2 : decode cX10_routeGantry 2 = .ok (.putfield 84, 3) := by decide +kernel
theorem dX10_routeGantry_5 : decode cX10_routeGantry 5 = .ok (.aload_n 0, 1) := by decide +kernel
theorem dX10_routeGantry_6 : decode cX10_routeGantry 6 = .ok (.iload_n 1, 1) := by decide +kernel
theorem dX10_routeGantry_7 : decode cX10_routeGantry 7 = .ok (.iload_n 2, 1) := by decide +kernel
theorem dX10_routeGantry_8 : decode cX10_routeGantry 8 = .ok (.iload_n 3, 1) := by decide +kernel
theorem dX10_routeGantry_9 : decode cX10_routeGantry 9 = .ok (.invokevirtual 243, 3) := by decide +kernel
theorem dX10_routeGantry_12 : decode cX10_routeGantry 12 = .ok (.ifCond .ne 9, 3) := by decide +kernel
theorem dX10_routeGantry_15 : decode cX10_routeGantry 15 = .ok (.aload_n 0, 1) := by decide +kernel
theorem dX10_routeGantry_16 : decode cX10_routeGantry 16 = .ok (.iconst 1, 1) := by decide +kernel
theorem dX10_routeGantry_17 : decode cX10_routeGantry 17 = .ok (.invokevirtual 202, 3) := by decide +kernel
theorem dX10_routeGantry_20 : decode cX10_routeGantry 20 = .ok (.ireturn, 1) := by decide +kernel
theorem dX10_routeGantry_21 : decode cX10_routeGantry 21 = .ok (.aload_n 0, 1) := by decide +kernel
theorem dX10_routeGantry_22 : decode cX10_routeGantry 22 = .ok (.iload_n 1, 1) := by decide +kernel
theorem dX10_routeGantry_23 : decode cX10_routeGantry 23 = .ok (.iload_n 2, 1) := by decide +kernel
theorem dX10_routeGantry_24 : decode cX10_routeGantry 24 = .ok (.iload_n 3, 1) := by decide +kernel
theorem dX10_routeGantry_25 : decode cX10_routeGantry 25 = .ok (.invokevirtual 247, 3) := by decide +kernel
theorem dX10_routeGantry_28 : decode cX10_routeGantry 28 = .ok (.istore 5, 2) := by decide +kernel
theorem dX10_routeGantry_30 : decode cX10_routeGantry 30 = .ok (.iload 5, 2) := by decide +kernel
theorem dX10_routeGantry_32 : decode cX10_routeGantry 32 = .ok (.ifCond .le 26, 3) := by decide +kernel
theorem dX10_routeGantry_35 : decode cX10_routeGantry 35 = .ok (.iload 4, 2) := by decide +kernel
theorem dX10_routeGantry_37 : decode cX10_routeGantry 37 = .ok (.i2l, 1) := by decide +kernel
theorem dX10_routeGantry_38 : decode cX10_routeGantry 38 = .ok (.lconst 0, 1) := by decide +kernel
theorem dX10_routeGantry_39 : decode cX10_routeGantry 39 = .ok (.iload 5, 2) := by decide +kernel
theorem dX10_routeGantry_41 : decode cX10_routeGantry 41 = .ok (.i2l, 1) := by decide +kernel
theorem dX10_routeGantry_42 : decode cX10_routeGantry 42 = .ok (.invokestatic 115, 3) := by decide +kernel
theorem dX10_routeGantry_45 : decode cX10_routeGantry 45 = .ok (.ifCond .eq 13, 3) := by decide +kernel
theorem dX10_routeGantry_48 : decode cX10_routeGantry 48 = .ok (.aload_n 0, 1) := by decide +kernel
theorem dX10_routeGantry_49 : decode cX10_routeGantry 49 = .ok (.getfield 57, 3) := by decide +kernel
theorem dX10_routeGantry_52 : decode cX10_routeGantry 52 = .ok (.iload 4, 2) := by decide +kernel
theorem dX10_routeGantry_54 : decode cX10_routeGantry 54 = .ok (.iaload, 1) := by decide +kernel
theorem dX10_routeGantry_55 : decode cX10_routeGantry 55 = .ok (.goto 4, 3) := by decide +kernel
theorem dX10_routeGantry_58 : decode cX10_routeGantry 58 = .ok (.iconst (-1), 1) := by decide +kernel
theorem dX10_routeGantry_59 : decode cX10_routeGantry 59 = .ok (.ireturn, 1) := by decide +kernel
abbrev m_X10_routeGantry : MD := (yX10_routeGantry, cX10_routeGantry, 6, (some .int))

abbrev w_X10_routeGantry (g : GT) (h0 h1 h2 h3 h4 h5 h6 h7 : Nat) (v0_1 v0_2 v0_3 v0_4 v0_5 v0_6 v0_7 v0_8 v0_9 v0_11 v0_16 v0_17 v0_18 v0_19 v0_20 v0_21 v0_22 v0_23 v0_24 v0_25 v0_30 v0_31 v0_32 v0_33 v0_34 v0_35 v0_36 v0_37 : Value) (thrown0 routeMany0 routeCost0 : Int32) (basic1 linkFrom2 linkMinutes3 linkPrice4 linkTo5 route6 tried7 : Nat → Int32) : va_W := [(h0, .inr (10, [.int thrown0, v0_1, v0_2, v0_3, v0_4, v0_5, v0_6, v0_7, v0_8, v0_9, .ref h1, v0_11, .ref h2, .ref h5, .ref h3, .ref h4, v0_16, v0_17, v0_18, v0_19, v0_20, v0_21, v0_22, v0_23, v0_24, v0_25, .int routeMany0, .int routeCost0, .ref h6, .ref h7, v0_30, v0_31, v0_32, v0_33, v0_34, v0_35, v0_36, v0_37])), (h1, aI g 7 basic1), (h2, aI g 48 linkFrom2), (h3, aI g 48 linkMinutes3), (h4, aI g 48 linkPrice4), (h5, aI g 48 linkTo5), (h6, aI g 4 route6), (h7, aI g 4 tried7)]
def f_X10_routeGantry_b59 (F : Nat) (basic1 linkFrom2 linkMinutes3 linkPrice4 linkTo5 : Nat → Int32) (s0 thrown0 routeMany0 routeCost0 : Int32) (route6 tried7 : Nat → Int32) : Option (Int32 × Int32 × Int32 × Int32 × (Nat → Int32) × (Nat → Int32)) :=
  some (s0, thrown0, routeMany0, routeCost0, route6, tried7)
def f_X10_routeGantry_b58 (F : Nat) (basic1 linkFrom2 linkMinutes3 linkPrice4 linkTo5 : Nat → Int32) (thrown0 routeMany0 routeCost0 : Int32) (route6 tried7 : Nat → Int32) : Option (Int32 × Int32 × Int32 × Int32 × (Nat → Int32) × (Nat → Int32)) :=
  f_X10_routeGantry_b59 F basic1 linkFrom2 linkMinutes3 linkPrice4 linkTo5 (-1) thrown0 routeMany0 routeCost0 route6 tried7
def f_X10_routeGantry (F : Nat) (p1 p2 p3 p4 thrown0 routeMany0 routeCost0 : Int32) (basic1 linkFrom2 linkMinutes3 linkPrice4 linkTo5 route6 tried7 : Nat → Int32) : Option (Int32 × Int32 × Int32 × Int32 × (Nat → Int32) × (Nat → Int32)) :=
  bd1 (f_X10_areRoute F p1 p2 p3 basic1) fun r1 =>
  if r1 = 0 then
    bd2 (f_X10_fail F 1 0) fun r15 o16 =>
    some (r15, o16, routeMany0, routeCost0, route6, tried7)
  else
    bd5 (f_X10_layRoute F p1 p2 p3 routeMany0 routeCost0 basic1 linkFrom2 linkMinutes3 linkPrice4 linkTo5 route6 tried7) fun r4 o5 o6 o7 o8 =>
    if r4 ≤ 0 then
      f_X10_routeGantry_b58 F basic1 linkFrom2 linkMinutes3 linkPrice4 linkTo5 0 o5 o6 o7 o8
    else
      bd1 (f_X10_within F p4.toInt64 0 r4.toInt64) fun r11 =>
      if r11 = 0 then
        f_X10_routeGantry_b58 F basic1 linkFrom2 linkMinutes3 linkPrice4 linkTo5 0 o5 o6 o7 o8
      else
        rd o7 4 p4 fun a14 =>
        f_X10_routeGantry_b59 F basic1 linkFrom2 linkMinutes3 linkPrice4 linkTo5 a14 0 o5 o6 o7 o8
set_option maxHeartbeats 4000000 in
set_option maxRecDepth 100000 in
theorem c_X10_routeGantry (l : Launch) (g : GT) (F : Nat) (h0 h1 h2 h3 h4 h5 h6 h7 : Nat) (v0_1 v0_2 v0_3 v0_4 v0_5 v0_6 v0_7 v0_8 v0_9 v0_11 v0_16 v0_17 v0_18 v0_19 v0_20 v0_21 v0_22 v0_23 v0_24 v0_25 v0_30 v0_31 v0_32 v0_33 v0_34 v0_35 v0_36 v0_37 : Value) (p1 p2 p3 p4 thrown0 routeMany0 routeCost0 : Int32) (basic1 linkFrom2 linkMinutes3 linkPrice4 linkTo5 route6 tried7 : Nat → Int32) (r o_thrown0 o_routeMany0 o_routeCost0 : Int32) (o_route6 o_tried7 : Nat → Int32) (sz : Nat) (hf : f_X10_routeGantry F p1 p2 p3 p4 thrown0 routeMany0 routeCost0 basic1 linkFrom2 linkMinutes3 linkPrice4 linkTo5 route6 tried7 = some (r, o_thrown0, o_routeMany0, o_routeCost0, o_route6, o_tried7)) : CI l m_X10_routeGantry (rml 7 0 0) g (w_X10_routeGantry g h0 h1 h2 h3 h4 h5 h6 h7 v0_1 v0_2 v0_3 v0_4 v0_5 v0_6 v0_7 v0_8 v0_9 v0_11 v0_16 v0_17 v0_18 v0_19 v0_20 v0_21 v0_22 v0_23 v0_24 v0_25 v0_30 v0_31 v0_32 v0_33 v0_34 v0_35 v0_36 v0_37 thrown0 routeMany0 routeCost0 basic1 linkFrom2 linkMinutes3 linkPrice4 linkTo5 route6 tried7) (fun _ => w_X10_routeGantry g h0 h1 h2 h3 h4 h5 h6 h7 v0_1 v0_2 v0_3 v0_4 v0_5 v0_6 v0_7 v0_8 v0_9 v0_11 v0_16 v0_17 v0_18 v0_19 v0_20 v0_21 v0_22 v0_23 v0_24 v0_25 v0_30 v0_31 v0_32 v0_33 v0_34 v0_35 v0_36 v0_37 o_thrown0 o_routeMany0 o_routeCost0 basic1 linkFrom2 linkMinutes3 linkPrice4 linkTo5 o_route6 o_tried7) sz [.ref h0, .int p1, .int p2, .int p3, .int p4] r := by
  refine en_i (by decide) (Nat.le_of_ble_eq_true rfl) (fun p e s m args below meth c A ls C w hl => ?_)
  have C : Cx p s m args meth c RX10 m_X10_routeGantry g A := C
  have hx := C.1
  have hb : c.code = cX10_routeGantry := C.2.1
  have hl : lv_has ls 6 [(0, .ref h0), (1, .int p1), (2, .int p2), (3, .int p3), (4, .int p4)] := hl
  obtain ⟨Q, hQ⟩ : ∃ Q, Q = QI below args s g A (fun _ => w_X10_routeGantry g h0 h1 h2 h3 h4 h5 h6 h7 v0_1 v0_2 v0_3 v0_4 v0_5 v0_6 v0_7 v0_8 v0_9 v0_11 v0_16 v0_17 v0_18 v0_19 v0_20 v0_21 v0_22 v0_23 v0_24 v0_25 v0_30 v0_31 v0_32 v0_33 v0_34 v0_35 v0_36 v0_37 o_thrown0 o_routeMany0 o_routeCost0 basic1 linkFrom2 linkMinutes3 linkPrice4 linkTo5 o_route6 o_tried7) r 0 0 := ⟨_, rfl⟩
  suffices hW : W p l e (rml 7 0 0) s m args below meth c s.heap [] 0 0 Q (F0 m 0 ls []) from (by rw [hQ] at hW; exact hW)
  unfold f_X10_routeGantry at hf
  have b59 : ∀ (s0 thrown0 routeMany0 routeCost0 : Int32) (route6 tried7 : Nat → Int32) (H : Heap) (locs : List Loc) (ls : Array Slot), f_X10_routeGantry_b59 F basic1 linkFrom2 linkMinutes3 linkPrice4 linkTo5 s0 thrown0 routeMany0 routeCost0 route6 tried7 = some (r, o_thrown0, o_routeMany0, o_routeCost0, o_route6, o_tried7) → Wd g A (w_X10_routeGantry g h0 h1 h2 h3 h4 h5 h6 h7 v0_1 v0_2 v0_3 v0_4 v0_5 v0_6 v0_7 v0_8 v0_9 v0_11 v0_16 v0_17 v0_18 v0_19 v0_20 v0_21 v0_22 v0_23 v0_24 v0_25 v0_30 v0_31 v0_32 v0_33 v0_34 v0_35 v0_36 v0_37 thrown0 routeMany0 routeCost0 basic1 linkFrom2 linkMinutes3 linkPrice4 linkTo5 route6 tried7) s.heap H locs → lv_has ls 6 [] → W p l e (rml 7 0 0) s m args below meth c H locs 0 0 Q (F0 m 59 ls [.int s0]) := by
    intro s0 thrown0 routeMany0 routeCost0 route6 tried7 H locs ls hf w hl
    unfold f_X10_routeGantry_b59 at hf
    obtain ⟨e1, e2, e3, e4, e5, e6⟩ := tp6 hf
    rw [hQ]
    exact rt_i C w rfl (fun _ => 0) (by rw [← e2, ← e3, ← e4, ← e5, ← e6]) e1 dX10_routeGantry_59
  have b58 : ∀ (thrown0 routeMany0 routeCost0 : Int32) (route6 tried7 : Nat → Int32) (H : Heap) (locs : List Loc) (ls : Array Slot), f_X10_routeGantry_b58 F basic1 linkFrom2 linkMinutes3 linkPrice4 linkTo5 thrown0 routeMany0 routeCost0 route6 tried7 = some (r, o_thrown0, o_routeMany0, o_routeCost0, o_route6, o_tried7) → Wd g A (w_X10_routeGantry g h0 h1 h2 h3 h4 h5 h6 h7 v0_1 v0_2 v0_3 v0_4 v0_5 v0_6 v0_7 v0_8 v0_9 v0_11 v0_16 v0_17 v0_18 v0_19 v0_20 v0_21 v0_22 v0_23 v0_24 v0_25 v0_30 v0_31 v0_32 v0_33 v0_34 v0_35 v0_36 v0_37 thrown0 routeMany0 routeCost0 basic1 linkFrom2 linkMinutes3 linkPrice4 linkTo5 route6 tried7) s.heap H locs → lv_has ls 6 [] → W p l e (rml 7 0 0) s m args below meth c H locs 0 0 Q (F0 m 58 ls []) := by
    intro thrown0 routeMany0 routeCost0 route6 tried7 H locs ls hf w hl
    unfold f_X10_routeGantry_b58 at hf
    refine lv_iconst (v := -1) hx hb dX10_routeGantry_58 (by decide) ?_
    exact b59 (-1) thrown0 routeMany0 routeCost0 route6 tried7 _ _ _ hf w (lv_sub hl [] rfl)
  refine lv_aload_n hx hb dX10_routeGantry_0 rfl (lv_at hl 0 rfl) ?_
  refine lv_iconst (v := 0) hx hb dX10_routeGantry_1 (by decide) ?_
  refine p_X10_84 C w 0 rfl (Nat.le_of_ble_eq_true rfl) (ws2 := w_X10_routeGantry g h0 h1 h2 h3 h4 h5 h6 h7 v0_1 v0_2 v0_3 v0_4 v0_5 v0_6 v0_7 v0_8 v0_9 v0_11 v0_16 v0_17 v0_18 v0_19 v0_20 v0_21 v0_22 v0_23 v0_24 v0_25 v0_30 v0_31 v0_32 v0_33 v0_34 v0_35 v0_36 v0_37 0 routeMany0 routeCost0 basic1 linkFrom2 linkMinutes3 linkPrice4 linkTo5 route6 tried7) rfl dX10_routeGantry_2 (fun H locs w => ?_)
  refine lv_aload_n hx hb dX10_routeGantry_5 rfl (lv_at hl 0 rfl) ?_
  refine lv_iload_n hx hb dX10_routeGantry_6 rfl (lv_at hl 1 rfl) ?_
  refine lv_iload_n hx hb dX10_routeGantry_7 rfl (lv_at hl 2 rfl) ?_
  refine lv_iload_n hx hb dX10_routeGantry_8 rfl (lv_at hl 3 rfl) ?_
  obtain ⟨r1, hc2, hf⟩ := bd1_some hf
  refine ca_iV C w (wn := fun _ => w_X10_routeGantry g h0 h1 h2 h3 h4 h5 h6 h7 v0_1 v0_2 v0_3 v0_4 v0_5 v0_6 v0_7 v0_8 v0_9 v0_11 v0_16 v0_17 v0_18 v0_19 v0_20 v0_21 v0_22 v0_23 v0_24 v0_25 v0_30 v0_31 v0_32 v0_33 v0_34 v0_35 v0_36 v0_37 0 routeMany0 routeCost0 basic1 linkFrom2 linkMinutes3 linkPrice4 linkTo5 route6 tried7) (pm_k [true, true, false, false, false, false, false, false] rfl rfl (fun _ => Nat.le_of_ble_eq_true rfl) (fun _ => rfl)) (c_X10_areRoute l g F h0 h1 (.int 0) v0_1 v0_2 v0_3 v0_4 v0_5 v0_6 v0_7 v0_8 v0_9 v0_11 (.ref h2) (.ref h5) (.ref h3) (.ref h4) v0_16 v0_17 v0_18 v0_19 v0_20 v0_21 v0_22 v0_23 v0_24 v0_25 (.int routeMany0) (.int routeCost0) (.ref h6) (.ref h7) v0_30 v0_31 v0_32 v0_33 v0_34 v0_35 v0_36 v0_37 p1 p2 p3 basic1 r1 _ hc2) k_X10_243 (rm_le (by decide) (by decide)) 0 10 rfl rfl rfl rfl hl.1 rfl (Nat.le_of_ble_eq_true rfl) dX10_routeGantry_9 ⟨Nat.le_of_ble_eq_true rfl, Nat.le_of_ble_eq_true rfl⟩ (cells2 := 0) (slots2 := 0) ⟨rfl, rfl⟩ (fun _ H locs w => ?_)
  refine lv_if_ne (tgt := 21) hx hb dX10_routeGantry_12 (by decide) (fun c3 => ?_) (fun c3 => ?_)
  · replace hf := it_f c3 hf
    refine lv_aload_n hx hb dX10_routeGantry_21 rfl (lv_at hl 0 rfl) ?_
    refine lv_iload_n hx hb dX10_routeGantry_22 rfl (lv_at hl 1 rfl) ?_
    refine lv_iload_n hx hb dX10_routeGantry_23 rfl (lv_at hl 2 rfl) ?_
    refine lv_iload_n hx hb dX10_routeGantry_24 rfl (lv_at hl 3 rfl) ?_
    obtain ⟨r4, o5, o6, o7, o8, hc9, hf⟩ := bd5_some hf
    refine ca_iV C w (wn := fun _ => w_X10_routeGantry g h0 h1 h2 h3 h4 h5 h6 h7 v0_1 v0_2 v0_3 v0_4 v0_5 v0_6 v0_7 v0_8 v0_9 v0_11 v0_16 v0_17 v0_18 v0_19 v0_20 v0_21 v0_22 v0_23 v0_24 v0_25 v0_30 v0_31 v0_32 v0_33 v0_34 v0_35 v0_36 v0_37 0 o5 o6 basic1 linkFrom2 linkMinutes3 linkPrice4 linkTo5 o7 o8) (pm_k [true, true, true, true, true, true, true, true] rfl rfl (fun _ => Nat.le_of_ble_eq_true rfl) (fun _ => rfl)) (c_X10_layRoute l g F h0 h1 h2 h3 h4 h5 h6 h7 (.int 0) v0_1 v0_2 v0_3 v0_4 v0_5 v0_6 v0_7 v0_8 v0_9 v0_11 v0_16 v0_17 v0_18 v0_19 v0_20 v0_21 v0_22 v0_23 v0_24 v0_25 v0_30 v0_31 v0_32 v0_33 v0_34 v0_35 v0_36 v0_37 p1 p2 p3 routeMany0 routeCost0 basic1 linkFrom2 linkMinutes3 linkPrice4 linkTo5 route6 tried7 r4 o5 o6 o7 o8 _ hc9) k_X10_247 (rm_le (by decide) (by decide)) 0 10 rfl rfl rfl rfl hl.1 rfl (Nat.le_of_ble_eq_true rfl) dX10_routeGantry_25 ⟨Nat.le_of_ble_eq_true rfl, Nat.le_of_ble_eq_true rfl⟩ (cells2 := 0) (slots2 := 0) ⟨rfl, rfl⟩ (fun _ H locs w => ?_)
    refine lv_istore (lv' := [(5, .int r4), (0, .ref h0), (1, .int p1), (2, .int p2), (3, .int p3), (4, .int p4)]) hx hb dX10_routeGantry_28 hl (by decide) rfl (fun ls hl => ?_)
    refine lv_iload hx hb dX10_routeGantry_30 (lv_at hl 0 rfl) ?_
    refine lv_if_le (tgt := 58) hx hb dX10_routeGantry_32 (by decide) (fun c10 => ?_) (fun c10 => ?_)
    · replace hf := it_t c10 hf
      exact b58 0 o5 o6 o7 o8 _ _ _ hf w (lv_sub hl [] rfl)
    · replace hf := it_f c10 hf
      refine lv_iload hx hb dX10_routeGantry_35 (lv_at hl 5 rfl) ?_
      refine lv_i2l (v := p4.toInt64) hx hb dX10_routeGantry_37 rfl ?_
      refine lv_lconst (v := 0) hx hb dX10_routeGantry_38 (by decide) ?_
      refine lv_iload hx hb dX10_routeGantry_39 (lv_at hl 0 rfl) ?_
      refine lv_i2l (v := r4.toInt64) hx hb dX10_routeGantry_41 rfl ?_
      obtain ⟨r11, hc12, hf⟩ := bd1_some hf
      refine ca_iS C w (wn := fun _ => w_X10_routeGantry g h0 h1 h2 h3 h4 h5 h6 h7 v0_1 v0_2 v0_3 v0_4 v0_5 v0_6 v0_7 v0_8 v0_9 v0_11 v0_16 v0_17 v0_18 v0_19 v0_20 v0_21 v0_22 v0_23 v0_24 v0_25 v0_30 v0_31 v0_32 v0_33 v0_34 v0_35 v0_36 v0_37 0 o5 o6 basic1 linkFrom2 linkMinutes3 linkPrice4 linkTo5 o7 o8) (pm_k [false, false, false, false, false, false, false, false] rfl rfl (fun _ => Nat.le_of_ble_eq_true rfl) (fun _ => rfl)) (c_X10_within l g F p4.toInt64 0 r4.toInt64 r11 _ hc12) k_X10_115 (rm_le (by decide) (by decide)) rfl hl.1 rfl (Nat.le_of_ble_eq_true rfl) dX10_routeGantry_42 ⟨Nat.le_of_ble_eq_true rfl, Nat.le_of_ble_eq_true rfl⟩ (cells2 := 0) (slots2 := 0) ⟨rfl, rfl⟩ (fun _ H locs w => ?_)
      refine lv_if_eq (tgt := 58) hx hb dX10_routeGantry_45 (by decide) (fun c13 => ?_) (fun c13 => ?_)
      · replace hf := it_t c13 hf
        exact b58 0 o5 o6 o7 o8 _ _ _ hf w (lv_sub hl [] rfl)
      · replace hf := it_f c13 hf
        refine lv_aload_n hx hb dX10_routeGantry_48 rfl (lv_at hl 1 rfl) ?_
        refine g_X10_57 C w 0 rfl rfl dX10_routeGantry_49 ?_
        refine lv_iload hx hb dX10_routeGantry_52 (lv_at hl 5 rfl) ?_
        obtain ⟨a14, hia14, haa14, hf⟩ := rd_some hf
        refine ial C w 6 rfl hia14 haa14 dX10_routeGantry_54 ?_
        refine lv_goto (tgt := 59) hx hb dX10_routeGantry_55 (by decide) ?_
        exact b59 a14 0 o5 o6 o7 o8 _ _ _ hf w (lv_sub hl [] rfl)
  · replace hf := it_t c3 hf
    refine lv_aload_n hx hb dX10_routeGantry_15 rfl (lv_at hl 0 rfl) ?_
    refine lv_iconst (v := 1) hx hb dX10_routeGantry_16 (by decide) ?_
    obtain ⟨r15, o16, hc17, hf⟩ := bd2_some hf
    refine ca_iV C w (wn := fun _ => w_X10_routeGantry g h0 h1 h2 h3 h4 h5 h6 h7 v0_1 v0_2 v0_3 v0_4 v0_5 v0_6 v0_7 v0_8 v0_9 v0_11 v0_16 v0_17 v0_18 v0_19 v0_20 v0_21 v0_22 v0_23 v0_24 v0_25 v0_30 v0_31 v0_32 v0_33 v0_34 v0_35 v0_36 v0_37 o16 routeMany0 routeCost0 basic1 linkFrom2 linkMinutes3 linkPrice4 linkTo5 route6 tried7) (pm_k [true, false, false, false, false, false, false, false] rfl rfl (fun _ => Nat.le_of_ble_eq_true rfl) (fun _ => rfl)) (c_X10_fail l g F h0 v0_1 v0_2 v0_3 v0_4 v0_5 v0_6 v0_7 v0_8 v0_9 (.ref h1) v0_11 (.ref h2) (.ref h5) (.ref h3) (.ref h4) v0_16 v0_17 v0_18 v0_19 v0_20 v0_21 v0_22 v0_23 v0_24 v0_25 (.int routeMany0) (.int routeCost0) (.ref h6) (.ref h7) v0_30 v0_31 v0_32 v0_33 v0_34 v0_35 v0_36 v0_37 1 0 r15 o16 _ hc17) k_X10_202 (rm_le (by decide) (by decide)) 0 10 rfl rfl rfl rfl hl.1 rfl (Nat.le_of_ble_eq_true rfl) dX10_routeGantry_17 ⟨Nat.le_of_ble_eq_true rfl, Nat.le_of_ble_eq_true rfl⟩ (cells2 := 0) (slots2 := 0) ⟨rfl, rfl⟩ (fun _ H locs w => ?_)
    obtain ⟨e1, e2, e3, e4, e5, e6⟩ := tp6 hf
    rw [hQ]
    exact rt_i C w rfl (fun _ => 0) (by rw [← e2, ← e3, ← e4, ← e5, ← e6]) e1 dX10_routeGantry_20

theorem dX10_tagOf_0 : decode cX10_tagOf 0 = .ok (.aload_n 0, 1) := by decide +kernel
theorem dX10_tagOf_1 : decode cX10_tagOf 1 = .ok (.iload_n 1, 1) := by decide +kernel
theorem dX10_tagOf_2 : decode cX10_tagOf 2 = .ok (.iconst 4, 1) := by decide +kernel
theorem dX10_tagOf_3 : decode cX10_tagOf 3 = .ok (.invokevirtual 250, 3) := by decide +kernel
theorem dX10_tagOf_6 : decode cX10_tagOf 6 = .ok (.iconst 1, 1) := by decide +kernel
theorem dX10_tagOf_7 : decode cX10_tagOf 7 = .ok (.isub, 1) := by decide +kernel
theorem dX10_tagOf_8 : decode cX10_tagOf 8 = .ok (.ireturn, 1) := by decide +kernel
abbrev m_X10_tagOf : MD := (yX10_tagOf, cX10_tagOf, 2, (some .int))
theorem q_1507 : Cond.code yX10_ofPassage cX10_ofPassage 3 (some .int) ∈ TS := ts_t 1507 (by decide +kernel) (by decide +kernel)
theorem q_1504 : Cond.methodLink RX10 250 yX10_ofPassage ∈ TS := ts_t 1504 (by decide +kernel) (by decide +kernel)
theorem q_1506 : Cond.instanceMethod yX10_ofPassage ∈ TS := ts_t 1506 (by decide +kernel) (by decide +kernel)
theorem qs_108 : Cond.selects yX10_ofPassage.cls yX10_ofPassage yX10_ofPassage ∈ TS := ts_s 108 (by decide +kernel) (by decide +kernel)
theorem k_X10_250 : LkV RX10 250 m_X10_ofPassage 2 := ⟨q_1504, q_1506, qs_108, ⟨q_11, q_1507, by decide, by decide, by decide +kernel⟩⟩
abbrev w_X10_tagOf (g : GT) (h0 h1 : Nat) (v0_0 v0_1 v0_2 v0_3 v0_4 v0_5 v0_6 v0_7 v0_8 v0_9 v0_10 v0_11 v0_12 v0_13 v0_14 v0_15 v0_16 v0_17 v0_18 v0_19 v0_20 v0_22 v0_23 v0_24 v0_25 v0_26 v0_27 v0_28 v0_29 v0_30 v0_31 v0_32 v0_33 v0_34 v0_35 v0_36 v0_37 : Value) (state1 : Nat → Int32) : va_W := [(h0, .inr (10, [v0_0, v0_1, v0_2, v0_3, v0_4, v0_5, v0_6, v0_7, v0_8, v0_9, v0_10, v0_11, v0_12, v0_13, v0_14, v0_15, v0_16, v0_17, v0_18, v0_19, v0_20, .ref h1, v0_22, v0_23, v0_24, v0_25, v0_26, v0_27, v0_28, v0_29, v0_30, v0_31, v0_32, v0_33, v0_34, v0_35, v0_36, v0_37])), (h1, aI g 2524 state1)]
def f_X10_tagOf (F : Nat) (p1 : Int32) (state1 : Nat → Int32) : Option (Int32) :=
  bd1 (f_X10_ofPassage F p1 4 state1) fun r1 =>
  some (r1 - 1)
set_option maxHeartbeats 4000000 in
set_option maxRecDepth 100000 in
theorem c_X10_tagOf (l : Launch) (g : GT) (F : Nat) (h0 h1 : Nat) (v0_0 v0_1 v0_2 v0_3 v0_4 v0_5 v0_6 v0_7 v0_8 v0_9 v0_10 v0_11 v0_12 v0_13 v0_14 v0_15 v0_16 v0_17 v0_18 v0_19 v0_20 v0_22 v0_23 v0_24 v0_25 v0_26 v0_27 v0_28 v0_29 v0_30 v0_31 v0_32 v0_33 v0_34 v0_35 v0_36 v0_37 : Value) (p1 : Int32) (state1 : Nat → Int32) (r : Int32) (sz : Nat) (hf : f_X10_tagOf F p1 state1 = some r) : CI l m_X10_tagOf (rml 1 0 0) g (w_X10_tagOf g h0 h1 v0_0 v0_1 v0_2 v0_3 v0_4 v0_5 v0_6 v0_7 v0_8 v0_9 v0_10 v0_11 v0_12 v0_13 v0_14 v0_15 v0_16 v0_17 v0_18 v0_19 v0_20 v0_22 v0_23 v0_24 v0_25 v0_26 v0_27 v0_28 v0_29 v0_30 v0_31 v0_32 v0_33 v0_34 v0_35 v0_36 v0_37 state1) (fun _ => w_X10_tagOf g h0 h1 v0_0 v0_1 v0_2 v0_3 v0_4 v0_5 v0_6 v0_7 v0_8 v0_9 v0_10 v0_11 v0_12 v0_13 v0_14 v0_15 v0_16 v0_17 v0_18 v0_19 v0_20 v0_22 v0_23 v0_24 v0_25 v0_26 v0_27 v0_28 v0_29 v0_30 v0_31 v0_32 v0_33 v0_34 v0_35 v0_36 v0_37 state1) sz [.ref h0, .int p1] r := by
  refine en_i (by decide) (Nat.le_of_ble_eq_true rfl) (fun p e s m args below meth c A ls C w hl => ?_)
  have C : Cx p s m args meth c RX10 m_X10_tagOf g A := C
  have hx := C.1
  have hb : c.code = cX10_tagOf := C.2.1
  have hl : lv_has ls 2 [(0, .ref h0), (1, .int p1)] := hl
  obtain ⟨Q, hQ⟩ : ∃ Q, Q = QI below args s g A (fun _ => w_X10_tagOf g h0 h1 v0_0 v0_1 v0_2 v0_3 v0_4 v0_5 v0_6 v0_7 v0_8 v0_9 v0_10 v0_11 v0_12 v0_13 v0_14 v0_15 v0_16 v0_17 v0_18 v0_19 v0_20 v0_22 v0_23 v0_24 v0_25 v0_26 v0_27 v0_28 v0_29 v0_30 v0_31 v0_32 v0_33 v0_34 v0_35 v0_36 v0_37 state1) r 0 0 := ⟨_, rfl⟩
  suffices hW : W p l e (rml 1 0 0) s m args below meth c s.heap [] 0 0 Q (F0 m 0 ls []) from (by rw [hQ] at hW; exact hW)
  unfold f_X10_tagOf at hf
  refine lv_aload_n hx hb dX10_tagOf_0 rfl (lv_at hl 0 rfl) ?_
  refine lv_iload_n hx hb dX10_tagOf_1 rfl (lv_at hl 1 rfl) ?_
  refine lv_iconst (v := 4) hx hb dX10_tagOf_2 (by decide) ?_
  obtain ⟨r1, hc2, hf⟩ := bd1_some hf
  refine ca_iV C w (wn := fun _ => w_X10_tagOf g h0 h1 v0_0 v0_1 v0_2 v0_3 v0_4 v0_5 v0_6 v0_7 v0_8 v0_9 v0_10 v0_11 v0_12 v0_13 v0_14 v0_15 v0_16 v0_17 v0_18 v0_19 v0_20 v0_22 v0_23 v0_24 v0_25 v0_26 v0_27 v0_28 v0_29 v0_30 v0_31 v0_32 v0_33 v0_34 v0_35 v0_36 v0_37 state1) (pm_k [true, true] rfl rfl (fun _ => Nat.le_of_ble_eq_true rfl) (fun _ => rfl)) (c_X10_ofPassage l g F h0 h1 v0_0 v0_1 v0_2 v0_3 v0_4 v0_5 v0_6 v0_7 v0_8 v0_9 v0_10 v0_11 v0_12 v0_13 v0_14 v0_15 v0_16 v0_17 v0_18 v0_19 v0_20 v0_22 v0_23 v0_24 v0_25 v0_26 v0_27 v0_28 v0_29 v0_30 v0_31 v0_32 v0_33 v0_34 v0_35 v0_36 v0_37 p1 4 state1 r1 _ hc2) k_X10_250 (rm_le (by decide) (by decide)) 0 10 rfl rfl rfl rfl hl.1 rfl (Nat.le_of_ble_eq_true rfl) dX10_tagOf_3 ⟨Nat.le_of_ble_eq_true rfl, Nat.le_of_ble_eq_true rfl⟩ (cells2 := 0) (slots2 := 0) ⟨rfl, rfl⟩ (fun _ H locs w => ?_)
  refine lv_iconst (v := 1) hx hb dX10_tagOf_6 (by decide) ?_
  refine lv_isub hx hb dX10_tagOf_7 ?_
  obtain e1 := tp1 hf
  rw [hQ]
  exact rt_i C w rfl (fun _ => 0) rfl e1 dX10_tagOf_8

theorem dX10_plateOf_0 : decode cX10_plateOf 0 = .ok (.aload_n 0, 1) := by decide +kernel
theorem dX10_plateOf_1 : decode cX10_plateOf 1 = .ok (.iload_n 1, 1) := by decide +kernel
theorem dX10_plateOf_2 : decode cX10_plateOf 2 = .ok (.bipush 22, 2) := by decide +kernel
theorem dX10_plateOf_4 : decode cX10_plateOf 4 = .ok (.invokevirtual 250, 3) := by decide +kernel
theorem dX10_plateOf_7 : decode cX10_plateOf 7 = .ok (.ifCond .le 11, 3) := by decide +kernel
theorem dX10_plateOf_10 : decode cX10_plateOf 10 = .ok (.aload_n 0, 1) := by decide +kernel
theorem dX10_plateOf_11 : decode cX10_plateOf 11 = .ok (.iload_n 1, 1) := by decide +kernel
theorem dX10_plateOf_12 : decode cX10_plateOf 12 = .ok (.bipush 22, 2) := by decide +kernel
theorem dX10_plateOf_14 : decode cX10_plateOf 14 = .ok (.invokevirtual 250, 3) := by decide +kernel
theorem dX10_plateOf_17 : decode cX10_plateOf 17 = .ok (.ireturn, 1) := by decide +kernel
theorem dX10_plateOf_18 : decode cX10_plateOf 18 = .ok (.iconst (-1), 1) := by decide +kernel
theorem dX10_plateOf_19 : decode cX10_plateOf 19 = .ok (.istore_n 2, 1) := by decide +kernel
theorem dX10_plateOf_20 : decode cX10_plateOf 20 = .ok (.iconst 0, 1) := by decide +kernel
theorem dX10_plateOf_21 : decode cX10_plateOf 21 = .ok (.istore_n 3, 1) := by decide +kernel
theorem dX10_plateOf_22 : decode cX10_plateOf 22 = .ok (.iload_n 3, 1) := by decide +kernel
theorem dX10_plateOf_23 : decode cX10_plateOf 23 = .ok (.aload_n 0, 1) := by decide +kernel
theorem dX10_plateOf_24 : decode cX10_plateOf 24 = .ok (.iload_n 1, 1) := by decide +kernel
theorem dX10_plateOf_25 : decode cX10_plateOf 25 = .ok (.iconst 5, 1) := by decide +kernel
theorem dX10_plateOf_26 : decode cX10_plateOf 26 = .ok (.invokevirtual 250, 3) := by decide +kernel
theorem dX10_plateOf_29 : decode cX10_plateOf 29 = .ok (.if_icmp .ge 36, 3) := by decide +kernel
theorem dX10_plateOf_32 : decode cX10_plateOf 32 = .ok (.iload_n 2, 1) := by decide +kernel
theorem dX10_plateOf_33 : decode cX10_plateOf 33 = .ok (.ifCond .lt 24, 3) := by decide +kernel
theorem dX10_plateOf_36 : decode cX10_plateOf 36 = .ok (.aload_n 0, 1) := by decide +kernel
theorem dX10_plateOf_37 : decode cX10_plateOf 37 = .ok (.iload_n 1, 1) := by decide +kernel
theorem dX10_plateOf_38 : decode cX10_plateOf 38 = .ok (.bipush 10, 2) := by decide +kernel
theorem dX10_plateOf_40 : decode cX10_plateOf 40 = .ok (.iload_n 3, 1) := by decide +kernel
theorem dX10_plateOf_41 : decode cX10_plateOf 41 = .ok (.iadd, 1) := by decide +kernel
theorem dX10_plateOf_42 : decode cX10_plateOf 42 = .ok (.invokevirtual 250, 3) := by decide +kernel
theorem dX10_plateOf_45 : decode cX10_plateOf 45 = .ok (.aload_n 0, 1) := by decide +kernel
theorem dX10_plateOf_46 : decode cX10_plateOf 46 = .ok (.iload_n 1, 1) := by decide +kernel
theorem dX10_plateOf_47 : decode cX10_plateOf 47 = .ok (.bipush 10, 2) := by decide +kernel
theorem dX10_plateOf_49 : decode cX10_plateOf 49 = .ok (.iload_n 2, 1) := by decide +kernel
theorem dX10_plateOf_50 : decode cX10_plateOf 50 = .ok (.iadd, 1) := by decide +kernel
theorem dX10_plateOf_51 : decode cX10_plateOf 51 = .ok (.invokevirtual 250, 3) := by decide +kernel
theorem dX10_plateOf_54 : decode cX10_plateOf 54 = .ok (.if_icmp .le 5, 3) := by decide +kernel
theorem dX10_plateOf_57 : decode cX10_plateOf 57 = .ok (.iload_n 3, 1) := by decide +kernel
theorem dX10_plateOf_58 : decode cX10_plateOf 58 = .ok (.istore_n 2, 1) := by decide +kernel
theorem dX10_plateOf_59 : decode cX10_plateOf 59 = .ok (.iinc 3 1, 3) := by decide +kernel
theorem dX10_plateOf_62 : decode cX10_plateOf 62 = .ok (.goto (-40), 3) := by decide +kernel
theorem dX10_plateOf_65 : decode cX10_plateOf 65 = .ok (.iload_n 2, 1) := by decide +kernel
theorem dX10_plateOf_66 : decode cX10_plateOf 66 = .ok (.ifCond .lt 33, 3) := by decide +kernel
theorem dX10_plateOf_69 : decode cX10_plateOf 69 = .ok (.aload_n 0, 1) := by decide +kernel
theorem dX10_plateOf_70 : decode cX10_plateOf 70 = .ok (.iload_n 1, 1) := by decide +kernel
theorem dX10_plateOf_71 : decode cX10_plateOf 71 = .ok (.bipush 10, 2) := by decide +kernel
theorem dX10_plateOf_73 : decode cX10_plateOf 73 = .ok (.iload_n 2, 1) := by decide +kernel
theorem dX10_plateOf_74 : decode cX10_plateOf 74 = .ok (.iadd, 1) := by decide +kernel
theorem dX10_plateOf_75 : decode cX10_plateOf 75 = .ok (.invokevirtual 250, 3) := by decide +kernel
theorem dX10_plateOf_78 : decode cX10_plateOf 78 = .ok (.aload_n 0, 1) := by decide +kernel
theorem dX10_plateOf_79 : decode cX10_plateOf 79 = .ok (.getfield 13, 3) := by decide +kernel
theorem dX10_plateOf_82 : decode cX10_plateOf 82 = .ok (.iconst 5, 1) := by decide +kernel
theorem dX10_plateOf_83 : decode cX10_plateOf 83 = .ok (.iaload, 1) := by decide +kernel
theorem dX10_plateOf_84 : decode cX10_plateOf 84 = .ok (.if_icmp .lt 15, 3) := by decide +kernel
theorem dX10_plateOf_87 : decode cX10_plateOf 87 = .ok (.aload_n 0, 1) := by decide +kernel
theorem dX10_plateOf_88 : decode cX10_plateOf 88 = .ok (.iload_n 1, 1) := by decide +kernel
theorem dX10_plateOf_89 : decode cX10_plateOf 89 = .ok (.bipush 6, 2) := by decide +kernel
theorem dX10_plateOf_91 : decode cX10_plateOf 91 = .ok (.iload_n 2, 1) := by decide +kernel
theorem dX10_plateOf_92 : decode cX10_plateOf 92 = .ok (.iadd, 1) := by decide +kernel
theorem dX10_plateOf_93 : decode cX10_plateOf 93 = .ok (.invokevirtual 250, 3) := by decide +kernel
theorem dX10_plateOf_96 : decode cX10_plateOf 96 = .ok (.goto 4, 3) := by decide +kernel
theorem dX10_plateOf_99 : decode cX10_plateOf 99 = .ok (.iconst (-1), 1) := by decide +kernel
theorem dX10_plateOf_100 : decode cX10_plateOf 100 = .ok (.ireturn, 1) := by decide +kernel
abbrev m_X10_plateOf : MD := (yX10_plateOf, cX10_plateOf, 4, (some .int))

abbrev w_X10_plateOf (g : GT) (h0 h1 h2 : Nat) (v0_0 v0_1 v0_2 v0_3 v0_4 v0_5 v0_6 v0_7 v0_8 v0_9 v0_11 v0_12 v0_13 v0_14 v0_15 v0_16 v0_17 v0_18 v0_19 v0_20 v0_22 v0_23 v0_24 v0_25 v0_26 v0_27 v0_28 v0_29 v0_30 v0_31 v0_32 v0_33 v0_34 v0_35 v0_36 v0_37 : Value) (basic1 state2 : Nat → Int32) : va_W := [(h0, .inr (10, [v0_0, v0_1, v0_2, v0_3, v0_4, v0_5, v0_6, v0_7, v0_8, v0_9, .ref h1, v0_11, v0_12, v0_13, v0_14, v0_15, v0_16, v0_17, v0_18, v0_19, v0_20, .ref h2, v0_22, v0_23, v0_24, v0_25, v0_26, v0_27, v0_28, v0_29, v0_30, v0_31, v0_32, v0_33, v0_34, v0_35, v0_36, v0_37])), (h1, aI g 7 basic1), (h2, aI g 2524 state2)]
def f_X10_plateOf_b100 (F : Nat) (basic1 state2 : Nat → Int32) (s0 : Int32) : Option (Int32) :=
  some s0
def f_X10_plateOf_b99 (F : Nat) (basic1 state2 : Nat → Int32) : Option (Int32) :=
  f_X10_plateOf_b100 F basic1 state2 (-1)
def f_X10_plateOf_b59 (F : Nat) (k22 : (Int32 × Int32 × Int32) → Option (Int32)) (basic1 state2 : Nat → Int32) (x1 x2 x3 : Int32) : Option (Int32) :=
  k22 (x1, x2, x3 + 1)
def f_X10_plateOf_b57 (F : Nat) (k22 : (Int32 × Int32 × Int32) → Option (Int32)) (basic1 state2 : Nat → Int32) (x1 x3 : Int32) : Option (Int32) :=
  f_X10_plateOf_b59 F k22 basic1 state2 x1 x3 x3
def f_X10_plateOf_h22 (F : Nat) (basic1 state2 : Nat → Int32) (k22 : (Int32 × Int32 × Int32) → Option (Int32)) (x1 x2 x3 : Int32) : Option (Int32) :=
  bd1 (f_X10_ofPassage F x1 5 state2) fun r1 =>
  if r1 ≤ x3 then
    if x2 < 0 then
      f_X10_plateOf_b99 F basic1 state2
    else
      bd1 (f_X10_ofPassage F x1 (10 + x2) state2) fun r5 =>
      rd basic1 7 5 fun a7 =>
      if r5 < a7 then
        f_X10_plateOf_b99 F basic1 state2
      else
        bd1 (f_X10_ofPassage F x1 (6 + x2) state2) fun r9 =>
        f_X10_plateOf_b100 F basic1 state2 r9
  else
    if x2 < 0 then
      f_X10_plateOf_b57 F k22 basic1 state2 x1 x3
    else
      bd1 (f_X10_ofPassage F x1 (10 + x3) state2) fun r12 =>
      bd1 (f_X10_ofPassage F x1 (10 + x2) state2) fun r14 =>
      if r12 ≤ r14 then
        f_X10_plateOf_b59 F k22 basic1 state2 x1 x2 x3
      else
        f_X10_plateOf_b57 F k22 basic1 state2 x1 x3
def f_X10_plateOf_L22 (F : Nat) (basic1 state2 : Nat → Int32) (z : Int32 × Int32 × Int32) : Option (Int32) := lp (fun k z => f_X10_plateOf_h22 F basic1 state2 k z.1 z.2.1 z.2.2) F z
def f_X10_plateOf (F : Nat) (p1 : Int32) (basic1 state2 : Nat → Int32) : Option (Int32) :=
  bd1 (f_X10_ofPassage F p1 22 state2) fun r17 =>
  if r17 ≤ 0 then
    f_X10_plateOf_L22 F basic1 state2 (p1, (-1), 0)
  else
    bd1 (f_X10_ofPassage F p1 22 state2) fun r20 =>
    some r20
set_option maxHeartbeats 4000000 in
set_option maxRecDepth 100000 in
theorem c_X10_plateOf (l : Launch) (g : GT) (F : Nat) (h0 h1 h2 : Nat) (v0_0 v0_1 v0_2 v0_3 v0_4 v0_5 v0_6 v0_7 v0_8 v0_9 v0_11 v0_12 v0_13 v0_14 v0_15 v0_16 v0_17 v0_18 v0_19 v0_20 v0_22 v0_23 v0_24 v0_25 v0_26 v0_27 v0_28 v0_29 v0_30 v0_31 v0_32 v0_33 v0_34 v0_35 v0_36 v0_37 : Value) (p1 : Int32) (basic1 state2 : Nat → Int32) (r : Int32) (sz : Nat) (hf : f_X10_plateOf F p1 basic1 state2 = some r) : CI l m_X10_plateOf (rml 1 0 0) g (w_X10_plateOf g h0 h1 h2 v0_0 v0_1 v0_2 v0_3 v0_4 v0_5 v0_6 v0_7 v0_8 v0_9 v0_11 v0_12 v0_13 v0_14 v0_15 v0_16 v0_17 v0_18 v0_19 v0_20 v0_22 v0_23 v0_24 v0_25 v0_26 v0_27 v0_28 v0_29 v0_30 v0_31 v0_32 v0_33 v0_34 v0_35 v0_36 v0_37 basic1 state2) (fun _ => w_X10_plateOf g h0 h1 h2 v0_0 v0_1 v0_2 v0_3 v0_4 v0_5 v0_6 v0_7 v0_8 v0_9 v0_11 v0_12 v0_13 v0_14 v0_15 v0_16 v0_17 v0_18 v0_19 v0_20 v0_22 v0_23 v0_24 v0_25 v0_26 v0_27 v0_28 v0_29 v0_30 v0_31 v0_32 v0_33 v0_34 v0_35 v0_36 v0_37 basic1 state2) sz [.ref h0, .int p1] r := by
  refine en_i (by decide) (Nat.le_of_ble_eq_true rfl) (fun p e s m args below meth c A ls C w hl => ?_)
  have C : Cx p s m args meth c RX10 m_X10_plateOf g A := C
  have hx := C.1
  have hb : c.code = cX10_plateOf := C.2.1
  have hl : lv_has ls 4 [(0, .ref h0), (1, .int p1)] := hl
  obtain ⟨Q, hQ⟩ : ∃ Q, Q = QI below args s g A (fun _ => w_X10_plateOf g h0 h1 h2 v0_0 v0_1 v0_2 v0_3 v0_4 v0_5 v0_6 v0_7 v0_8 v0_9 v0_11 v0_12 v0_13 v0_14 v0_15 v0_16 v0_17 v0_18 v0_19 v0_20 v0_22 v0_23 v0_24 v0_25 v0_26 v0_27 v0_28 v0_29 v0_30 v0_31 v0_32 v0_33 v0_34 v0_35 v0_36 v0_37 basic1 state2) r 0 0 := ⟨_, rfl⟩
  suffices hW : W p l e (rml 1 0 0) s m args below meth c s.heap [] 0 0 Q (F0 m 0 ls []) from (by rw [hQ] at hW; exact hW)
  unfold f_X10_plateOf at hf
  have b100 : ∀ (s0 : Int32) (H : Heap) (locs : List Loc) (ls : Array Slot), f_X10_plateOf_b100 F basic1 state2 s0 = some r → Wd g A (w_X10_plateOf g h0 h1 h2 v0_0 v0_1 v0_2 v0_3 v0_4 v0_5 v0_6 v0_7 v0_8 v0_9 v0_11 v0_12 v0_13 v0_14 v0_15 v0_16 v0_17 v0_18 v0_19 v0_20 v0_22 v0_23 v0_24 v0_25 v0_26 v0_27 v0_28 v0_29 v0_30 v0_31 v0_32 v0_33 v0_34 v0_35 v0_36 v0_37 basic1 state2) s.heap H locs → lv_has ls 4 [] → W p l e (rml 1 0 0) s m args below meth c H locs 0 0 Q (F0 m 100 ls [.int s0]) := by
    intro s0 H locs ls hf w hl
    unfold f_X10_plateOf_b100 at hf
    obtain e1 := tp1 hf
    rw [hQ]
    exact rt_i C w rfl (fun _ => 0) rfl e1 dX10_plateOf_100
  have b99 : ∀ (H : Heap) (locs : List Loc) (ls : Array Slot), f_X10_plateOf_b99 F basic1 state2 = some r → Wd g A (w_X10_plateOf g h0 h1 h2 v0_0 v0_1 v0_2 v0_3 v0_4 v0_5 v0_6 v0_7 v0_8 v0_9 v0_11 v0_12 v0_13 v0_14 v0_15 v0_16 v0_17 v0_18 v0_19 v0_20 v0_22 v0_23 v0_24 v0_25 v0_26 v0_27 v0_28 v0_29 v0_30 v0_31 v0_32 v0_33 v0_34 v0_35 v0_36 v0_37 basic1 state2) s.heap H locs → lv_has ls 4 [] → W p l e (rml 1 0 0) s m args below meth c H locs 0 0 Q (F0 m 99 ls []) := by
    intro  H locs ls hf w hl
    unfold f_X10_plateOf_b99 at hf
    refine lv_iconst (v := -1) hx hb dX10_plateOf_99 (by decide) ?_
    exact b100 (-1) _ _ _ hf w (lv_sub hl [] rfl)
  have L22 : ∀ (z : Int32 × Int32 × Int32), f_X10_plateOf_L22 F basic1 state2 z = some r → ∀ (H : Heap) (locs : List Loc) (ls : Array Slot), Wd g A (w_X10_plateOf g h0 h1 h2 v0_0 v0_1 v0_2 v0_3 v0_4 v0_5 v0_6 v0_7 v0_8 v0_9 v0_11 v0_12 v0_13 v0_14 v0_15 v0_16 v0_17 v0_18 v0_19 v0_20 v0_22 v0_23 v0_24 v0_25 v0_26 v0_27 v0_28 v0_29 v0_30 v0_31 v0_32 v0_33 v0_34 v0_35 v0_36 v0_37 basic1 state2) s.heap H locs → lv_has ls 4 [(0, .ref h0), (1, .int z.1), (2, .int z.2.1), (3, .int z.2.2)] → W p l e (rml 1 0 0) s m args below meth c H locs 0 0 Q (F0 m 22 ls []) := by
    intro z hf
    refine lp_W (r := r) (fun (z : Int32 × Int32 × Int32) => ∀ (H : Heap) (locs : List Loc) (ls : Array Slot), Wd g A (w_X10_plateOf g h0 h1 h2 v0_0 v0_1 v0_2 v0_3 v0_4 v0_5 v0_6 v0_7 v0_8 v0_9 v0_11 v0_12 v0_13 v0_14 v0_15 v0_16 v0_17 v0_18 v0_19 v0_20 v0_22 v0_23 v0_24 v0_25 v0_26 v0_27 v0_28 v0_29 v0_30 v0_31 v0_32 v0_33 v0_34 v0_35 v0_36 v0_37 basic1 state2) s.heap H locs → lv_has ls 4 [(0, .ref h0), (1, .int z.1), (2, .int z.2.1), (3, .int z.2.2)] → W p l e (rml 1 0 0) s m args below meth c H locs 0 0 Q (F0 m 22 ls [])) (fun k22 z ih22 hf => ?_) F z hf
    obtain ⟨x1, x2, x3⟩ := z
    intro H locs ls w hl
    try dsimp only at hf w hl ⊢
    unfold f_X10_plateOf_h22 at hf
    have b59 : ∀ (x1 x2 x3 : Int32) (H : Heap) (locs : List Loc) (ls : Array Slot), f_X10_plateOf_b59 F k22 basic1 state2 x1 x2 x3 = some r → Wd g A (w_X10_plateOf g h0 h1 h2 v0_0 v0_1 v0_2 v0_3 v0_4 v0_5 v0_6 v0_7 v0_8 v0_9 v0_11 v0_12 v0_13 v0_14 v0_15 v0_16 v0_17 v0_18 v0_19 v0_20 v0_22 v0_23 v0_24 v0_25 v0_26 v0_27 v0_28 v0_29 v0_30 v0_31 v0_32 v0_33 v0_34 v0_35 v0_36 v0_37 basic1 state2) s.heap H locs → lv_has ls 4 [(0, .ref h0), (1, .int x1), (2, .int x2), (3, .int x3)] → W p l e (rml 1 0 0) s m args below meth c H locs 0 0 Q (F0 m 59 ls []) := by
      intro x1 x2 x3 H locs ls hf w hl
      unfold f_X10_plateOf_b59 at hf
      refine lv_iinc (v := x3 + 1) (lv' := [(3, .int (x3 + 1)), (0, .ref h0), (1, .int x1), (2, .int x2)]) hx hb dX10_plateOf_59 hl (k := 3) rfl rfl (by decide) rfl (fun ls hl => ?_)
      refine lv_goto (tgt := 22) hx hb dX10_plateOf_62 (by decide) ?_
      exact ih22 (x1, x2, x3 + 1) hf _ _ _ w (lv_sub hl [1, 2, 3, 0] rfl)
    have b57 : ∀ (x1 x3 : Int32) (H : Heap) (locs : List Loc) (ls : Array Slot), f_X10_plateOf_b57 F k22 basic1 state2 x1 x3 = some r → Wd g A (w_X10_plateOf g h0 h1 h2 v0_0 v0_1 v0_2 v0_3 v0_4 v0_5 v0_6 v0_7 v0_8 v0_9 v0_11 v0_12 v0_13 v0_14 v0_15 v0_16 v0_17 v0_18 v0_19 v0_20 v0_22 v0_23 v0_24 v0_25 v0_26 v0_27 v0_28 v0_29 v0_30 v0_31 v0_32 v0_33 v0_34 v0_35 v0_36 v0_37 basic1 state2) s.heap H locs → lv_has ls 4 [(0, .ref h0), (1, .int x1), (3, .int x3)] → W p l e (rml 1 0 0) s m args below meth c H locs 0 0 Q (F0 m 57 ls []) := by
      intro x1 x3 H locs ls hf w hl
      unfold f_X10_plateOf_b57 at hf
      refine lv_iload_n hx hb dX10_plateOf_57 rfl (lv_at hl 2 rfl) ?_
      refine lv_istore_n (lv' := [(2, .int x3), (0, .ref h0), (1, .int x1), (3, .int x3)]) hx hb dX10_plateOf_58 rfl hl (by decide) rfl (fun ls hl => ?_)
      exact b59 x1 x3 x3 _ _ _ hf w (lv_sub hl [1, 2, 0, 3] rfl)
    refine lv_iload_n hx hb dX10_plateOf_22 rfl (lv_at hl 3 rfl) ?_
    refine lv_aload_n hx hb dX10_plateOf_23 rfl (lv_at hl 0 rfl) ?_
    refine lv_iload_n hx hb dX10_plateOf_24 rfl (lv_at hl 1 rfl) ?_
    refine lv_iconst (v := 5) hx hb dX10_plateOf_25 (by decide) ?_
    obtain ⟨r1, hc2, hf⟩ := bd1_some hf
    refine ca_iV C w (wn := fun _ => w_X10_plateOf g h0 h1 h2 v0_0 v0_1 v0_2 v0_3 v0_4 v0_5 v0_6 v0_7 v0_8 v0_9 v0_11 v0_12 v0_13 v0_14 v0_15 v0_16 v0_17 v0_18 v0_19 v0_20 v0_22 v0_23 v0_24 v0_25 v0_26 v0_27 v0_28 v0_29 v0_30 v0_31 v0_32 v0_33 v0_34 v0_35 v0_36 v0_37 basic1 state2) (pm_k [true, false, true] rfl rfl (fun _ => Nat.le_of_ble_eq_true rfl) (fun _ => rfl)) (c_X10_ofPassage l g F h0 h2 v0_0 v0_1 v0_2 v0_3 v0_4 v0_5 v0_6 v0_7 v0_8 v0_9 (.ref h1) v0_11 v0_12 v0_13 v0_14 v0_15 v0_16 v0_17 v0_18 v0_19 v0_20 v0_22 v0_23 v0_24 v0_25 v0_26 v0_27 v0_28 v0_29 v0_30 v0_31 v0_32 v0_33 v0_34 v0_35 v0_36 v0_37 x1 5 state2 r1 _ hc2) k_X10_250 (rm_le (by decide) (by decide)) 0 10 rfl rfl rfl rfl hl.1 rfl (Nat.le_of_ble_eq_true rfl) dX10_plateOf_26 ⟨Nat.le_of_ble_eq_true rfl, Nat.le_of_ble_eq_true rfl⟩ (cells2 := 0) (slots2 := 0) ⟨rfl, rfl⟩ (fun _ H locs w => ?_)
    refine lv_icmp_ge (tgt := 65) hx hb dX10_plateOf_29 (by decide) (fun c3 => ?_) (fun c3 => ?_)
    · replace hf := it_t c3 hf
      refine lv_iload_n hx hb dX10_plateOf_65 rfl (lv_at hl 2 rfl) ?_
      refine lv_if_lt (tgt := 99) hx hb dX10_plateOf_66 (by decide) (fun c4 => ?_) (fun c4 => ?_)
      · replace hf := it_t c4 hf
        exact b99  _ _ _ hf w (lv_sub hl [] rfl)
      · replace hf := it_f c4 hf
        refine lv_aload_n hx hb dX10_plateOf_69 rfl (lv_at hl 0 rfl) ?_
        refine lv_iload_n hx hb dX10_plateOf_70 rfl (lv_at hl 1 rfl) ?_
        refine lv_bipush (v := 10) hx hb dX10_plateOf_71 (by decide) ?_
        refine lv_iload_n hx hb dX10_plateOf_73 rfl (lv_at hl 2 rfl) ?_
        refine lv_iadd hx hb dX10_plateOf_74 ?_
        obtain ⟨r5, hc6, hf⟩ := bd1_some hf
        refine ca_iV C w (wn := fun _ => w_X10_plateOf g h0 h1 h2 v0_0 v0_1 v0_2 v0_3 v0_4 v0_5 v0_6 v0_7 v0_8 v0_9 v0_11 v0_12 v0_13 v0_14 v0_15 v0_16 v0_17 v0_18 v0_19 v0_20 v0_22 v0_23 v0_24 v0_25 v0_26 v0_27 v0_28 v0_29 v0_30 v0_31 v0_32 v0_33 v0_34 v0_35 v0_36 v0_37 basic1 state2) (pm_k [true, false, true] rfl rfl (fun _ => Nat.le_of_ble_eq_true rfl) (fun _ => rfl)) (c_X10_ofPassage l g F h0 h2 v0_0 v0_1 v0_2 v0_3 v0_4 v0_5 v0_6 v0_7 v0_8 v0_9 (.ref h1) v0_11 v0_12 v0_13 v0_14 v0_15 v0_16 v0_17 v0_18 v0_19 v0_20 v0_22 v0_23 v0_24 v0_25 v0_26 v0_27 v0_28 v0_29 v0_30 v0_31 v0_32 v0_33 v0_34 v0_35 v0_36 v0_37 x1 (10 + x2) state2 r5 _ hc6) k_X10_250 (rm_le (by decide) (by decide)) 0 10 rfl rfl rfl rfl hl.1 rfl (Nat.le_of_ble_eq_true rfl) dX10_plateOf_75 ⟨Nat.le_of_ble_eq_true rfl, Nat.le_of_ble_eq_true rfl⟩ (cells2 := 0) (slots2 := 0) ⟨rfl, rfl⟩ (fun _ H locs w => ?_)
        refine lv_aload_n hx hb dX10_plateOf_78 rfl (lv_at hl 0 rfl) ?_
        refine g_X10_13 C w 0 rfl rfl dX10_plateOf_79 ?_
        refine lv_iconst (v := 5) hx hb dX10_plateOf_82 (by decide) ?_
        obtain ⟨a7, hia7, haa7, hf⟩ := rd_some hf
        refine ial C w 1 rfl hia7 haa7 dX10_plateOf_83 ?_
        refine lv_icmp_lt (tgt := 99) hx hb dX10_plateOf_84 (by decide) (fun c8 => ?_) (fun c8 => ?_)
        · replace hf := it_t c8 hf
          exact b99  _ _ _ hf w (lv_sub hl [] rfl)
        · replace hf := it_f c8 hf
          refine lv_aload_n hx hb dX10_plateOf_87 rfl (lv_at hl 0 rfl) ?_
          refine lv_iload_n hx hb dX10_plateOf_88 rfl (lv_at hl 1 rfl) ?_
          refine lv_bipush (v := 6) hx hb dX10_plateOf_89 (by decide) ?_
          refine lv_iload_n hx hb dX10_plateOf_91 rfl (lv_at hl 2 rfl) ?_
          refine lv_iadd hx hb dX10_plateOf_92 ?_
          obtain ⟨r9, hc10, hf⟩ := bd1_some hf
          refine ca_iV C w (wn := fun _ => w_X10_plateOf g h0 h1 h2 v0_0 v0_1 v0_2 v0_3 v0_4 v0_5 v0_6 v0_7 v0_8 v0_9 v0_11 v0_12 v0_13 v0_14 v0_15 v0_16 v0_17 v0_18 v0_19 v0_20 v0_22 v0_23 v0_24 v0_25 v0_26 v0_27 v0_28 v0_29 v0_30 v0_31 v0_32 v0_33 v0_34 v0_35 v0_36 v0_37 basic1 state2) (pm_k [true, false, true] rfl rfl (fun _ => Nat.le_of_ble_eq_true rfl) (fun _ => rfl)) (c_X10_ofPassage l g F h0 h2 v0_0 v0_1 v0_2 v0_3 v0_4 v0_5 v0_6 v0_7 v0_8 v0_9 (.ref h1) v0_11 v0_12 v0_13 v0_14 v0_15 v0_16 v0_17 v0_18 v0_19 v0_20 v0_22 v0_23 v0_24 v0_25 v0_26 v0_27 v0_28 v0_29 v0_30 v0_31 v0_32 v0_33 v0_34 v0_35 v0_36 v0_37 x1 (6 + x2) state2 r9 _ hc10) k_X10_250 (rm_le (by decide) (by decide)) 0 10 rfl rfl rfl rfl hl.1 rfl (Nat.le_of_ble_eq_true rfl) dX10_plateOf_93 ⟨Nat.le_of_ble_eq_true rfl, Nat.le_of_ble_eq_true rfl⟩ (cells2 := 0) (slots2 := 0) ⟨rfl, rfl⟩ (fun _ H locs w => ?_)
          refine lv_goto (tgt := 100) hx hb dX10_plateOf_96 (by decide) ?_
          exact b100 r9 _ _ _ hf w (lv_sub hl [] rfl)
    · replace hf := it_f c3 hf
      refine lv_iload_n hx hb dX10_plateOf_32 rfl (lv_at hl 2 rfl) ?_
      refine lv_if_lt (tgt := 57) hx hb dX10_plateOf_33 (by decide) (fun c11 => ?_) (fun c11 => ?_)
      · replace hf := it_t c11 hf
        exact b57 x1 x3 _ _ _ hf w (lv_sub hl [0, 1, 3] rfl)
      · replace hf := it_f c11 hf
        refine lv_aload_n hx hb dX10_plateOf_36 rfl (lv_at hl 0 rfl) ?_
        refine lv_iload_n hx hb dX10_plateOf_37 rfl (lv_at hl 1 rfl) ?_
        refine lv_bipush (v := 10) hx hb dX10_plateOf_38 (by decide) ?_
        refine lv_iload_n hx hb dX10_plateOf_40 rfl (lv_at hl 3 rfl) ?_
        refine lv_iadd hx hb dX10_plateOf_41 ?_
        obtain ⟨r12, hc13, hf⟩ := bd1_some hf
        refine ca_iV C w (wn := fun _ => w_X10_plateOf g h0 h1 h2 v0_0 v0_1 v0_2 v0_3 v0_4 v0_5 v0_6 v0_7 v0_8 v0_9 v0_11 v0_12 v0_13 v0_14 v0_15 v0_16 v0_17 v0_18 v0_19 v0_20 v0_22 v0_23 v0_24 v0_25 v0_26 v0_27 v0_28 v0_29 v0_30 v0_31 v0_32 v0_33 v0_34 v0_35 v0_36 v0_37 basic1 state2) (pm_k [true, false, true] rfl rfl (fun _ => Nat.le_of_ble_eq_true rfl) (fun _ => rfl)) (c_X10_ofPassage l g F h0 h2 v0_0 v0_1 v0_2 v0_3 v0_4 v0_5 v0_6 v0_7 v0_8 v0_9 (.ref h1) v0_11 v0_12 v0_13 v0_14 v0_15 v0_16 v0_17 v0_18 v0_19 v0_20 v0_22 v0_23 v0_24 v0_25 v0_26 v0_27 v0_28 v0_29 v0_30 v0_31 v0_32 v0_33 v0_34 v0_35 v0_36 v0_37 x1 (10 + x3) state2 r12 _ hc13) k_X10_250 (rm_le (by decide) (by decide)) 0 10 rfl rfl rfl rfl hl.1 rfl (Nat.le_of_ble_eq_true rfl) dX10_plateOf_42 ⟨Nat.le_of_ble_eq_true rfl, Nat.le_of_ble_eq_true rfl⟩ (cells2 := 0) (slots2 := 0) ⟨rfl, rfl⟩ (fun _ H locs w => ?_)
        refine lv_aload_n hx hb dX10_plateOf_45 rfl (lv_at hl 0 rfl) ?_
        refine lv_iload_n hx hb dX10_plateOf_46 rfl (lv_at hl 1 rfl) ?_
        refine lv_bipush (v := 10) hx hb dX10_plateOf_47 (by decide) ?_
        refine lv_iload_n hx hb dX10_plateOf_49 rfl (lv_at hl 2 rfl) ?_
        refine lv_iadd hx hb dX10_plateOf_50 ?_
        obtain ⟨r14, hc15, hf⟩ := bd1_some hf
        refine ca_iV C w (wn := fun _ => w_X10_plateOf g h0 h1 h2 v0_0 v0_1 v0_2 v0_3 v0_4 v0_5 v0_6 v0_7 v0_8 v0_9 v0_11 v0_12 v0_13 v0_14 v0_15 v0_16 v0_17 v0_18 v0_19 v0_20 v0_22 v0_23 v0_24 v0_25 v0_26 v0_27 v0_28 v0_29 v0_30 v0_31 v0_32 v0_33 v0_34 v0_35 v0_36 v0_37 basic1 state2) (pm_k [true, false, true] rfl rfl (fun _ => Nat.le_of_ble_eq_true rfl) (fun _ => rfl)) (c_X10_ofPassage l g F h0 h2 v0_0 v0_1 v0_2 v0_3 v0_4 v0_5 v0_6 v0_7 v0_8 v0_9 (.ref h1) v0_11 v0_12 v0_13 v0_14 v0_15 v0_16 v0_17 v0_18 v0_19 v0_20 v0_22 v0_23 v0_24 v0_25 v0_26 v0_27 v0_28 v0_29 v0_30 v0_31 v0_32 v0_33 v0_34 v0_35 v0_36 v0_37 x1 (10 + x2) state2 r14 _ hc15) k_X10_250 (rm_le (by decide) (by decide)) 0 10 rfl rfl rfl rfl hl.1 rfl (Nat.le_of_ble_eq_true rfl) dX10_plateOf_51 ⟨Nat.le_of_ble_eq_true rfl, Nat.le_of_ble_eq_true rfl⟩ (cells2 := 0) (slots2 := 0) ⟨rfl, rfl⟩ (fun _ H locs w => ?_)
        refine lv_icmp_le (tgt := 59) hx hb dX10_plateOf_54 (by decide) (fun c16 => ?_) (fun c16 => ?_)
        · replace hf := it_t c16 hf
          exact b59 x1 x2 x3 _ _ _ hf w (lv_sub hl [0, 1, 2, 3] rfl)
        · replace hf := it_f c16 hf
          exact b57 x1 x3 _ _ _ hf w (lv_sub hl [0, 1, 3] rfl)
  refine lv_aload_n hx hb dX10_plateOf_0 rfl (lv_at hl 0 rfl) ?_
  refine lv_iload_n hx hb dX10_plateOf_1 rfl (lv_at hl 1 rfl) ?_
  refine lv_bipush (v := 22) hx hb dX10_plateOf_2 (by decide) ?_
  obtain ⟨r17, hc18, hf⟩ := bd1_some hf
  refine ca_iV C w (wn := fun _ => w_X10_plateOf g h0 h1 h2 v0_0 v0_1 v0_2 v0_3 v0_4 v0_5 v0_6 v0_7 v0_8 v0_9 v0_11 v0_12 v0_13 v0_14 v0_15 v0_16 v0_17 v0_18 v0_19 v0_20 v0_22 v0_23 v0_24 v0_25 v0_26 v0_27 v0_28 v0_29 v0_30 v0_31 v0_32 v0_33 v0_34 v0_35 v0_36 v0_37 basic1 state2) (pm_k [true, false, true] rfl rfl (fun _ => Nat.le_of_ble_eq_true rfl) (fun _ => rfl)) (c_X10_ofPassage l g F h0 h2 v0_0 v0_1 v0_2 v0_3 v0_4 v0_5 v0_6 v0_7 v0_8 v0_9 (.ref h1) v0_11 v0_12 v0_13 v0_14 v0_15 v0_16 v0_17 v0_18 v0_19 v0_20 v0_22 v0_23 v0_24 v0_25 v0_26 v0_27 v0_28 v0_29 v0_30 v0_31 v0_32 v0_33 v0_34 v0_35 v0_36 v0_37 p1 22 state2 r17 _ hc18) k_X10_250 (rm_le (by decide) (by decide)) 0 10 rfl rfl rfl rfl hl.1 rfl (Nat.le_of_ble_eq_true rfl) dX10_plateOf_4 ⟨Nat.le_of_ble_eq_true rfl, Nat.le_of_ble_eq_true rfl⟩ (cells2 := 0) (slots2 := 0) ⟨rfl, rfl⟩ (fun _ H locs w => ?_)
  refine lv_if_le (tgt := 18) hx hb dX10_plateOf_7 (by decide) (fun c19 => ?_) (fun c19 => ?_)
  · replace hf := it_t c19 hf
    refine lv_iconst (v := -1) hx hb dX10_plateOf_18 (by decide) ?_
    refine lv_istore_n (lv' := [(2, .int (-1)), (0, .ref h0), (1, .int p1)]) hx hb dX10_plateOf_19 rfl hl (by decide) rfl (fun ls hl => ?_)
    refine lv_iconst (v := 0) hx hb dX10_plateOf_20 (by decide) ?_
    refine lv_istore_n (lv' := [(3, .int 0), (2, .int (-1)), (0, .ref h0), (1, .int p1)]) hx hb dX10_plateOf_21 rfl hl (by decide) rfl (fun ls hl => ?_)
    exact L22 (p1, (-1), 0) hf _ _ _ w (lv_sub hl [2, 3, 1, 0] rfl)
  · replace hf := it_f c19 hf
    refine lv_aload_n hx hb dX10_plateOf_10 rfl (lv_at hl 0 rfl) ?_
    refine lv_iload_n hx hb dX10_plateOf_11 rfl (lv_at hl 1 rfl) ?_
    refine lv_bipush (v := 22) hx hb dX10_plateOf_12 (by decide) ?_
    obtain ⟨r20, hc21, hf⟩ := bd1_some hf
    refine ca_iV C w (wn := fun _ => w_X10_plateOf g h0 h1 h2 v0_0 v0_1 v0_2 v0_3 v0_4 v0_5 v0_6 v0_7 v0_8 v0_9 v0_11 v0_12 v0_13 v0_14 v0_15 v0_16 v0_17 v0_18 v0_19 v0_20 v0_22 v0_23 v0_24 v0_25 v0_26 v0_27 v0_28 v0_29 v0_30 v0_31 v0_32 v0_33 v0_34 v0_35 v0_36 v0_37 basic1 state2) (pm_k [true, false, true] rfl rfl (fun _ => Nat.le_of_ble_eq_true rfl) (fun _ => rfl)) (c_X10_ofPassage l g F h0 h2 v0_0 v0_1 v0_2 v0_3 v0_4 v0_5 v0_6 v0_7 v0_8 v0_9 (.ref h1) v0_11 v0_12 v0_13 v0_14 v0_15 v0_16 v0_17 v0_18 v0_19 v0_20 v0_22 v0_23 v0_24 v0_25 v0_26 v0_27 v0_28 v0_29 v0_30 v0_31 v0_32 v0_33 v0_34 v0_35 v0_36 v0_37 p1 22 state2 r20 _ hc21) k_X10_250 (rm_le (by decide) (by decide)) 0 10 rfl rfl rfl rfl hl.1 rfl (Nat.le_of_ble_eq_true rfl) dX10_plateOf_14 ⟨Nat.le_of_ble_eq_true rfl, Nat.le_of_ble_eq_true rfl⟩ (cells2 := 0) (slots2 := 0) ⟨rfl, rfl⟩ (fun _ H locs w => ?_)
    obtain e1 := tp1 hf
    rw [hQ]
    exact rt_i C w rfl (fun _ => 0) rfl e1 dX10_plateOf_17

theorem dX10_axlesOf_0 : decode cX10_axlesOf 0 = .ok (.aload_n 0, 1) := by decide +kernel
theorem dX10_axlesOf_1 : decode cX10_axlesOf 1 = .ok (.iload_n 1, 1) := by decide +kernel
theorem dX10_axlesOf_2 : decode cX10_axlesOf 2 = .ok (.bipush 23, 2) := by decide +kernel
theorem dX10_axlesOf_4 : decode cX10_axlesOf 4 = .ok (.invokevirtual 250, 3) := by decide +kernel
theorem dX10_axlesOf_7 : decode cX10_axlesOf 7 = .ok (.ifCond .le 11, 3) := by decide +kernel
theorem dX10_axlesOf_10 : decode cX10_axlesOf 10 = .ok (.aload_n 0, 1) := by decide +kernel
theorem dX10_axlesOf_11 : decode cX10_axlesOf 11 = .ok (.iload_n 1, 1) := by decide +kernel
theorem dX10_axlesOf_12 : decode cX10_axlesOf 12 = .ok (.bipush 23, 2) := by decide +kernel
theorem dX10_axlesOf_14 : decode cX10_axlesOf 14 = .ok (.invokevirtual 250, 3) := by decide +kernel
theorem dX10_axlesOf_17 : decode cX10_axlesOf 17 = .ok (.ireturn, 1) := by decide +kernel
theorem dX10_axlesOf_18 : decode cX10_axlesOf 18 = .ok (.iconst (-1), 1) := by decide +kernel
theorem dX10_axlesOf_19 : decode cX10_axlesOf 19 = .ok (.istore_n 2, 1) := by decide +kernel
theorem dX10_axlesOf_20 : decode cX10_axlesOf 20 = .ok (.iconst 0, 1) := by decide +kernel
theorem dX10_axlesOf_21 : decode cX10_axlesOf 21 = .ok (.istore_n 3, 1) := by decide +kernel
theorem dX10_axlesOf_22 : decode cX10_axlesOf 22 = .ok (.iconst 2, 1) := by decide +kernel
theorem dX10_axlesOf_23 : decode cX10_axlesOf 23 = .ok (.istore 4, 2) := by decide +kernel
theorem dX10_axlesOf_25 : decode cX10_axlesOf 25 = .ok (.iload 4, 2) := by decide +kernel
theorem dX10_axlesOf_27 : decode cX10_axlesOf 27 = .ok (.bipush 9, 2) := by decide +kernel
theorem dX10_axlesOf_29 : decode cX10_axlesOf 29 = .ok (.if_icmp .gt 43, 3) := by decide +kernel
theorem dX10_axlesOf_32 : decode cX10_axlesOf 32 = .ok (.aload_n 0, 1) := by decide +kernel
theorem dX10_axlesOf_33 : decode cX10_axlesOf 33 = .ok (.iload_n 1, 1) := by decide +kernel
theorem dX10_axlesOf_34 : decode cX10_axlesOf 34 = .ok (.bipush 14, 2) := by decide +kernel
theorem dX10_axlesOf_36 : decode cX10_axlesOf 36 = .ok (.iload 4, 2) := by decide +kernel
theorem dX10_axlesOf_38 : decode cX10_axlesOf 38 = .ok (.iadd, 1) := by decide +kernel
theorem dX10_axlesOf_39 : decode cX10_axlesOf 39 = .ok (.iconst 2, 1) := by decide +kernel
theorem dX10_axlesOf_40 : decode cX10_axlesOf 40 = .ok (.isub, 1) := by decide +kernel
theorem dX10_axlesOf_41 : decode cX10_axlesOf 41 = .ok (.invokevirtual 250, 3) := by decide +kernel
theorem dX10_axlesOf_44 : decode cX10_axlesOf 44 = .ok (.istore 5, 2) := by decide +kernel
theorem dX10_axlesOf_46 : decode cX10_axlesOf 46 = .ok (.iload 5, 2) := by decide +kernel
theorem dX10_axlesOf_48 : decode cX10_axlesOf 48 = .ok (.ifCond .eq 18, 3) := by decide +kernel
theorem dX10_axlesOf_51 : decode cX10_axlesOf 51 = .ok (.iload 5, 2) := by decide +kernel
theorem dX10_axlesOf_53 : decode cX10_axlesOf 53 = .ok (.iload_n 3, 1) := by decide +kernel
theorem dX10_axlesOf_54 : decode cX10_axlesOf 54 = .ok (.if_icmp .ge 6, 3) := by decide +kernel
theorem dX10_axlesOf_57 : decode cX10_axlesOf 57 = .ok (.goto 9, 3) := by decide +kernel
theorem dX10_axlesOf_60 : decode cX10_axlesOf 60 = .ok (.iload 5, 2) := by decide +kernel
theorem dX10_axlesOf_62 : decode cX10_axlesOf 62 = .ok (.istore_n 3, 1) := by decide +kernel
theorem dX10_axlesOf_63 : decode cX10_axlesOf 63 = .ok (.iload 4, 2) := by decide +kernel
theorem dX10_axlesOf_65 : decode cX10_axlesOf 65 = .ok (.istore_n 2, 1) := by decide +kernel
theorem dX10_axlesOf_66 : decode cX10_axlesOf 66 = .ok (.iinc 4 1, 3) := by decide +kernel
theorem dX10_axlesOf_69 : decode cX10_axlesOf 69 = .ok (.goto (-44), 3) := by decide +kernel
theorem dX10_axlesOf_72 : decode cX10_axlesOf 72 = .ok (.iload_n 2, 1) := by decide +kernel
theorem dX10_axlesOf_73 : decode cX10_axlesOf 73 = .ok (.ireturn, 1) := by decide +kernel
abbrev m_X10_axlesOf : MD := (yX10_axlesOf, cX10_axlesOf, 6, (some .int))

abbrev w_X10_axlesOf (g : GT) (h0 h1 : Nat) (v0_0 v0_1 v0_2 v0_3 v0_4 v0_5 v0_6 v0_7 v0_8 v0_9 v0_10 v0_11 v0_12 v0_13 v0_14 v0_15 v0_16 v0_17 v0_18 v0_19 v0_20 v0_22 v0_23 v0_24 v0_25 v0_26 v0_27 v0_28 v0_29 v0_30 v0_31 v0_32 v0_33 v0_34 v0_35 v0_36 v0_37 : Value) (state1 : Nat → Int32) : va_W := [(h0, .inr (10, [v0_0, v0_1, v0_2, v0_3, v0_4, v0_5, v0_6, v0_7, v0_8, v0_9, v0_10, v0_11, v0_12, v0_13, v0_14, v0_15, v0_16, v0_17, v0_18, v0_19, v0_20, .ref h1, v0_22, v0_23, v0_24, v0_25, v0_26, v0_27, v0_28, v0_29, v0_30, v0_31, v0_32, v0_33, v0_34, v0_35, v0_36, v0_37])), (h1, aI g 2524 state1)]
def f_X10_axlesOf_b66 (F : Nat) (k25 : (Int32 × Int32 × Int32 × Int32) → Option (Int32)) (state1 : Nat → Int32) (x1 x2 x3 x4 : Int32) : Option (Int32) :=
  k25 (x1, x2, x3, x4 + 1)
def f_X10_axlesOf_h25 (F : Nat) (state1 : Nat → Int32) (k25 : (Int32 × Int32 × Int32 × Int32) → Option (Int32)) (x1 x2 x3 x4 : Int32) : Option (Int32) :=
  if 9 < x4 then
    some x2
  else
    bd1 (f_X10_ofPassage F x1 ((14 + x4) - 2) state1) fun r2 =>
    if r2 = 0 then
      f_X10_axlesOf_b66 F k25 state1 x1 x2 x3 x4
    else
      if x3 ≤ r2 then
        f_X10_axlesOf_b66 F k25 state1 x1 x4 r2 x4
      else
        f_X10_axlesOf_b66 F k25 state1 x1 x2 x3 x4
def f_X10_axlesOf_L25 (F : Nat) (state1 : Nat → Int32) (z : Int32 × Int32 × Int32 × Int32) : Option (Int32) := lp (fun k z => f_X10_axlesOf_h25 F state1 k z.1 z.2.1 z.2.2.1 z.2.2.2) F z
def f_X10_axlesOf (F : Nat) (p1 : Int32) (state1 : Nat → Int32) : Option (Int32) :=
  bd1 (f_X10_ofPassage F p1 23 state1) fun r6 =>
  if r6 ≤ 0 then
    f_X10_axlesOf_L25 F state1 (p1, (-1), 0, 2)
  else
    bd1 (f_X10_ofPassage F p1 23 state1) fun r9 =>
    some r9
set_option maxHeartbeats 4000000 in
set_option maxRecDepth 100000 in
theorem c_X10_axlesOf (l : Launch) (g : GT) (F : Nat) (h0 h1 : Nat) (v0_0 v0_1 v0_2 v0_3 v0_4 v0_5 v0_6 v0_7 v0_8 v0_9 v0_10 v0_11 v0_12 v0_13 v0_14 v0_15 v0_16 v0_17 v0_18 v0_19 v0_20 v0_22 v0_23 v0_24 v0_25 v0_26 v0_27 v0_28 v0_29 v0_30 v0_31 v0_32 v0_33 v0_34 v0_35 v0_36 v0_37 : Value) (p1 : Int32) (state1 : Nat → Int32) (r : Int32) (sz : Nat) (hf : f_X10_axlesOf F p1 state1 = some r) : CI l m_X10_axlesOf (rml 1 0 0) g (w_X10_axlesOf g h0 h1 v0_0 v0_1 v0_2 v0_3 v0_4 v0_5 v0_6 v0_7 v0_8 v0_9 v0_10 v0_11 v0_12 v0_13 v0_14 v0_15 v0_16 v0_17 v0_18 v0_19 v0_20 v0_22 v0_23 v0_24 v0_25 v0_26 v0_27 v0_28 v0_29 v0_30 v0_31 v0_32 v0_33 v0_34 v0_35 v0_36 v0_37 state1) (fun _ => w_X10_axlesOf g h0 h1 v0_0 v0_1 v0_2 v0_3 v0_4 v0_5 v0_6 v0_7 v0_8 v0_9 v0_10 v0_11 v0_12 v0_13 v0_14 v0_15 v0_16 v0_17 v0_18 v0_19 v0_20 v0_22 v0_23 v0_24 v0_25 v0_26 v0_27 v0_28 v0_29 v0_30 v0_31 v0_32 v0_33 v0_34 v0_35 v0_36 v0_37 state1) sz [.ref h0, .int p1] r := by
  refine en_i (by decide) (Nat.le_of_ble_eq_true rfl) (fun p e s m args below meth c A ls C w hl => ?_)
  have C : Cx p s m args meth c RX10 m_X10_axlesOf g A := C
  have hx := C.1
  have hb : c.code = cX10_axlesOf := C.2.1
  have hl : lv_has ls 6 [(0, .ref h0), (1, .int p1)] := hl
  obtain ⟨Q, hQ⟩ : ∃ Q, Q = QI below args s g A (fun _ => w_X10_axlesOf g h0 h1 v0_0 v0_1 v0_2 v0_3 v0_4 v0_5 v0_6 v0_7 v0_8 v0_9 v0_10 v0_11 v0_12 v0_13 v0_14 v0_15 v0_16 v0_17 v0_18 v0_19 v0_20 v0_22 v0_23 v0_24 v0_25 v0_26 v0_27 v0_28 v0_29 v0_30 v0_31 v0_32 v0_33 v0_34 v0_35 v0_36 v0_37 state1) r 0 0 := ⟨_, rfl⟩
  suffices hW : W p l e (rml 1 0 0) s m args below meth c s.heap [] 0 0 Q (F0 m 0 ls []) from (by rw [hQ] at hW; exact hW)
  unfold f_X10_axlesOf at hf
  have L25 : ∀ (z : Int32 × Int32 × Int32 × Int32), f_X10_axlesOf_L25 F state1 z = some r → ∀ (H : Heap) (locs : List Loc) (ls : Array Slot), Wd g A (w_X10_axlesOf g h0 h1 v0_0 v0_1 v0_2 v0_3 v0_4 v0_5 v0_6 v0_7 v0_8 v0_9 v0_10 v0_11 v0_12 v0_13 v0_14 v0_15 v0_16 v0_17 v0_18 v0_19 v0_20 v0_22 v0_23 v0_24 v0_25 v0_26 v0_27 v0_28 v0_29 v0_30 v0_31 v0_32 v0_33 v0_34 v0_35 v0_36 v0_37 state1) s.heap H locs → lv_has ls 6 [(0, .ref h0), (1, .int z.1), (2, .int z.2.1), (3, .int z.2.2.1), (4, .int z.2.2.2)] → W p l e (rml 1 0 0) s m args below meth c H locs 0 0 Q (F0 m 25 ls []) := by
    intro z hf
    refine lp_W (r := r) (fun (z : Int32 × Int32 × Int32 × Int32) => ∀ (H : Heap) (locs : List Loc) (ls : Array Slot), Wd g A (w_X10_axlesOf g h0 h1 v0_0 v0_1 v0_2 v0_3 v0_4 v0_5 v0_6 v0_7 v0_8 v0_9 v0_10 v0_11 v0_12 v0_13 v0_14 v0_15 v0_16 v0_17 v0_18 v0_19 v0_20 v0_22 v0_23 v0_24 v0_25 v0_26 v0_27 v0_28 v0_29 v0_30 v0_31 v0_32 v0_33 v0_34 v0_35 v0_36 v0_37 state1) s.heap H locs → lv_has ls 6 [(0, .ref h0), (1, .int z.1), (2, .int z.2.1), (3, .int z.2.2.1), (4, .int z.2.2.2)] → W p l e (rml 1 0 0) s m args below meth c H locs 0 0 Q (F0 m 25 ls [])) (fun k25 z ih25 hf => ?_) F z hf
    obtain ⟨x1, x2, x3, x4⟩ := z
    intro H locs ls w hl
    try dsimp only at hf w hl ⊢
    unfold f_X10_axlesOf_h25 at hf
    have b66 : ∀ (x1 x2 x3 x4 : Int32) (H : Heap) (locs : List Loc) (ls : Array Slot), f_X10_axlesOf_b66 F k25 state1 x1 x2 x3 x4 = some r → Wd g A (w_X10_axlesOf g h0 h1 v0_0 v0_1 v0_2 v0_3 v0_4 v0_5 v0_6 v0_7 v0_8 v0_9 v0_10 v0_11 v0_12 v0_13 v0_14 v0_15 v0_16 v0_17 v0_18 v0_19 v0_20 v0_22 v0_23 v0_24 v0_25 v0_26 v0_27 v0_28 v0_29 v0_30 v0_31 v0_32 v0_33 v0_34 v0_35 v0_36 v0_37 state1) s.heap H locs → lv_has ls 6 [(0, .ref h0), (1, .int x1), (2, .int x2), (3, .int x3), (4, .int x4)] → W p l e (rml 1 0 0) s m args below meth c H locs 0 0 Q (F0 m 66 ls []) := by
      intro x1 x2 x3 x4 H locs ls hf w hl
      unfold f_X10_axlesOf_b66 at hf
      refine lv_iinc (v := x4 + 1) (lv' := [(4, .int (x4 + 1)), (0, .ref h0), (1, .int x1), (2, .int x2), (3, .int x3)]) hx hb dX10_axlesOf_66 hl (k := 4) rfl rfl (by decide) rfl (fun ls hl => ?_)
      refine lv_goto (tgt := 25) hx hb dX10_axlesOf_69 (by decide) ?_
      exact ih25 (x1, x2, x3, x4 + 1) hf _ _ _ w (lv_sub hl [1, 2, 3, 4, 0] rfl)
    refine lv_iload hx hb dX10_axlesOf_25 (lv_at hl 4 rfl) ?_
    refine lv_bipush (v := 9) hx hb dX10_axlesOf_27 (by decide) ?_
    refine lv_icmp_gt (tgt := 72) hx hb dX10_axlesOf_29 (by decide) (fun c1 => ?_) (fun c1 => ?_)
    · replace hf := it_t c1 hf
      refine lv_iload_n hx hb dX10_axlesOf_72 rfl (lv_at hl 2 rfl) ?_
      obtain e1 := tp1 hf
      rw [hQ]
      exact rt_i C w rfl (fun _ => 0) rfl e1 dX10_axlesOf_73
    · replace hf := it_f c1 hf
      refine lv_aload_n hx hb dX10_axlesOf_32 rfl (lv_at hl 0 rfl) ?_
      refine lv_iload_n hx hb dX10_axlesOf_33 rfl (lv_at hl 1 rfl) ?_
      refine lv_bipush (v := 14) hx hb dX10_axlesOf_34 (by decide) ?_
      refine lv_iload hx hb dX10_axlesOf_36 (lv_at hl 4 rfl) ?_
      refine lv_iadd hx hb dX10_axlesOf_38 ?_
      refine lv_iconst (v := 2) hx hb dX10_axlesOf_39 (by decide) ?_
      refine lv_isub hx hb dX10_axlesOf_40 ?_
      obtain ⟨r2, hc3, hf⟩ := bd1_some hf
      refine ca_iV C w (wn := fun _ => w_X10_axlesOf g h0 h1 v0_0 v0_1 v0_2 v0_3 v0_4 v0_5 v0_6 v0_7 v0_8 v0_9 v0_10 v0_11 v0_12 v0_13 v0_14 v0_15 v0_16 v0_17 v0_18 v0_19 v0_20 v0_22 v0_23 v0_24 v0_25 v0_26 v0_27 v0_28 v0_29 v0_30 v0_31 v0_32 v0_33 v0_34 v0_35 v0_36 v0_37 state1) (pm_k [true, true] rfl rfl (fun _ => Nat.le_of_ble_eq_true rfl) (fun _ => rfl)) (c_X10_ofPassage l g F h0 h1 v0_0 v0_1 v0_2 v0_3 v0_4 v0_5 v0_6 v0_7 v0_8 v0_9 v0_10 v0_11 v0_12 v0_13 v0_14 v0_15 v0_16 v0_17 v0_18 v0_19 v0_20 v0_22 v0_23 v0_24 v0_25 v0_26 v0_27 v0_28 v0_29 v0_30 v0_31 v0_32 v0_33 v0_34 v0_35 v0_36 v0_37 x1 ((14 + x4) - 2) state1 r2 _ hc3) k_X10_250 (rm_le (by decide) (by decide)) 0 10 rfl rfl rfl rfl hl.1 rfl (Nat.le_of_ble_eq_true rfl) dX10_axlesOf_41 ⟨Nat.le_of_ble_eq_true rfl, Nat.le_of_ble_eq_true rfl⟩ (cells2 := 0) (slots2 := 0) ⟨rfl, rfl⟩ (fun _ H locs w => ?_)
      refine lv_istore (lv' := [(5, .int r2), (0, .ref h0), (1, .int x1), (2, .int x2), (3, .int x3), (4, .int x4)]) hx hb dX10_axlesOf_44 hl (by decide) rfl (fun ls hl => ?_)
      refine lv_iload hx hb dX10_axlesOf_46 (lv_at hl 0 rfl) ?_
      refine lv_if_eq (tgt := 66) hx hb dX10_axlesOf_48 (by decide) (fun c4 => ?_) (fun c4 => ?_)
      · replace hf := it_t c4 hf
        exact b66 x1 x2 x3 x4 _ _ _ hf w (lv_sub hl [1, 2, 3, 4, 5] rfl)
      · replace hf := it_f c4 hf
        refine lv_iload hx hb dX10_axlesOf_51 (lv_at hl 0 rfl) ?_
        refine lv_iload_n hx hb dX10_axlesOf_53 rfl (lv_at hl 4 rfl) ?_
        refine lv_icmp_ge (tgt := 60) hx hb dX10_axlesOf_54 (by decide) (fun c5 => ?_) (fun c5 => ?_)
        · replace hf := it_t c5 hf
          refine lv_iload hx hb dX10_axlesOf_60 (lv_at hl 0 rfl) ?_
          refine lv_istore_n (lv' := [(3, .int r2), (5, .int r2), (0, .ref h0), (1, .int x1), (2, .int x2), (4, .int x4)]) hx hb dX10_axlesOf_62 rfl hl (by decide) rfl (fun ls hl => ?_)
          refine lv_iload hx hb dX10_axlesOf_63 (lv_at hl 5 rfl) ?_
          refine lv_istore_n (lv' := [(2, .int x4), (3, .int r2), (5, .int r2), (0, .ref h0), (1, .int x1), (4, .int x4)]) hx hb dX10_axlesOf_65 rfl hl (by decide) rfl (fun ls hl => ?_)
          exact b66 x1 x4 r2 x4 _ _ _ hf w (lv_sub hl [3, 4, 0, 1, 5] rfl)
        · replace hf := it_f c5 hf
          refine lv_goto (tgt := 66) hx hb dX10_axlesOf_57 (by decide) ?_
          exact b66 x1 x2 x3 x4 _ _ _ hf w (lv_sub hl [1, 2, 3, 4, 5] rfl)
  refine lv_aload_n hx hb dX10_axlesOf_0 rfl (lv_at hl 0 rfl) ?_
  refine lv_iload_n hx hb dX10_axlesOf_1 rfl (lv_at hl 1 rfl) ?_
  refine lv_bipush (v := 23) hx hb dX10_axlesOf_2 (by decide) ?_
  obtain ⟨r6, hc7, hf⟩ := bd1_some hf
  refine ca_iV C w (wn := fun _ => w_X10_axlesOf g h0 h1 v0_0 v0_1 v0_2 v0_3 v0_4 v0_5 v0_6 v0_7 v0_8 v0_9 v0_10 v0_11 v0_12 v0_13 v0_14 v0_15 v0_16 v0_17 v0_18 v0_19 v0_20 v0_22 v0_23 v0_24 v0_25 v0_26 v0_27 v0_28 v0_29 v0_30 v0_31 v0_32 v0_33 v0_34 v0_35 v0_36 v0_37 state1) (pm_k [true, true] rfl rfl (fun _ => Nat.le_of_ble_eq_true rfl) (fun _ => rfl)) (c_X10_ofPassage l g F h0 h1 v0_0 v0_1 v0_2 v0_3 v0_4 v0_5 v0_6 v0_7 v0_8 v0_9 v0_10 v0_11 v0_12 v0_13 v0_14 v0_15 v0_16 v0_17 v0_18 v0_19 v0_20 v0_22 v0_23 v0_24 v0_25 v0_26 v0_27 v0_28 v0_29 v0_30 v0_31 v0_32 v0_33 v0_34 v0_35 v0_36 v0_37 p1 23 state1 r6 _ hc7) k_X10_250 (rm_le (by decide) (by decide)) 0 10 rfl rfl rfl rfl hl.1 rfl (Nat.le_of_ble_eq_true rfl) dX10_axlesOf_4 ⟨Nat.le_of_ble_eq_true rfl, Nat.le_of_ble_eq_true rfl⟩ (cells2 := 0) (slots2 := 0) ⟨rfl, rfl⟩ (fun _ H locs w => ?_)
  refine lv_if_le (tgt := 18) hx hb dX10_axlesOf_7 (by decide) (fun c8 => ?_) (fun c8 => ?_)
  · replace hf := it_t c8 hf
    refine lv_iconst (v := -1) hx hb dX10_axlesOf_18 (by decide) ?_
    refine lv_istore_n (lv' := [(2, .int (-1)), (0, .ref h0), (1, .int p1)]) hx hb dX10_axlesOf_19 rfl hl (by decide) rfl (fun ls hl => ?_)
    refine lv_iconst (v := 0) hx hb dX10_axlesOf_20 (by decide) ?_
    refine lv_istore_n (lv' := [(3, .int 0), (2, .int (-1)), (0, .ref h0), (1, .int p1)]) hx hb dX10_axlesOf_21 rfl hl (by decide) rfl (fun ls hl => ?_)
    refine lv_iconst (v := 2) hx hb dX10_axlesOf_22 (by decide) ?_
    refine lv_istore (lv' := [(4, .int 2), (3, .int 0), (2, .int (-1)), (0, .ref h0), (1, .int p1)]) hx hb dX10_axlesOf_23 hl (by decide) rfl (fun ls hl => ?_)
    exact L25 (p1, (-1), 0, 2) hf _ _ _ w (lv_sub hl [3, 4, 2, 1, 0] rfl)
  · replace hf := it_f c8 hf
    refine lv_aload_n hx hb dX10_axlesOf_10 rfl (lv_at hl 0 rfl) ?_
    refine lv_iload_n hx hb dX10_axlesOf_11 rfl (lv_at hl 1 rfl) ?_
    refine lv_bipush (v := 23) hx hb dX10_axlesOf_12 (by decide) ?_
    obtain ⟨r9, hc10, hf⟩ := bd1_some hf
    refine ca_iV C w (wn := fun _ => w_X10_axlesOf g h0 h1 v0_0 v0_1 v0_2 v0_3 v0_4 v0_5 v0_6 v0_7 v0_8 v0_9 v0_10 v0_11 v0_12 v0_13 v0_14 v0_15 v0_16 v0_17 v0_18 v0_19 v0_20 v0_22 v0_23 v0_24 v0_25 v0_26 v0_27 v0_28 v0_29 v0_30 v0_31 v0_32 v0_33 v0_34 v0_35 v0_36 v0_37 state1) (pm_k [true, true] rfl rfl (fun _ => Nat.le_of_ble_eq_true rfl) (fun _ => rfl)) (c_X10_ofPassage l g F h0 h1 v0_0 v0_1 v0_2 v0_3 v0_4 v0_5 v0_6 v0_7 v0_8 v0_9 v0_10 v0_11 v0_12 v0_13 v0_14 v0_15 v0_16 v0_17 v0_18 v0_19 v0_20 v0_22 v0_23 v0_24 v0_25 v0_26 v0_27 v0_28 v0_29 v0_30 v0_31 v0_32 v0_33 v0_34 v0_35 v0_36 v0_37 p1 23 state1 r9 _ hc10) k_X10_250 (rm_le (by decide) (by decide)) 0 10 rfl rfl rfl rfl hl.1 rfl (Nat.le_of_ble_eq_true rfl) dX10_axlesOf_14 ⟨Nat.le_of_ble_eq_true rfl, Nat.le_of_ble_eq_true rfl⟩ (cells2 := 0) (slots2 := 0) ⟨rfl, rfl⟩ (fun _ H locs w => ?_)
    obtain e1 := tp1 hf
    rw [hQ]
    exact rt_i C w rfl (fun _ => 0) rfl e1 dX10_axlesOf_17

theorem dX10_tagWith_0 : decode cX10_tagWith 0 = .ok (.iconst 0, 1) := by decide +kernel
theorem dX10_tagWith_1 : decode cX10_tagWith 1 = .ok (.istore_n 2, 1) := by decide +kernel
theorem dX10_tagWith_2 : decode cX10_tagWith 2 = .ok (.iload_n 2, 1) := by decide +kernel
theorem dX10_tagWith_3 : decode cX10_tagWith 3 = .ok (.aload_n 0, 1) := by decide +kernel
theorem dX10_tagWith_4 : decode cX10_tagWith 4 = .ok (.getfield 13, 3) := by decide +kernel
theorem dX10_tagWith_7 : decode cX10_tagWith 7 = .ok (.iconst 3, 1) := by decide +kernel
theorem dX10_tagWith_8 : decode cX10_tagWith 8 = .ok (.iaload, 1) := by decide +kernel
theorem dX10_tagWith_9 : decode cX10_tagWith 9 = .ok (.if_icmp .ge 21, 3) := by decide +kernel
theorem dX10_tagWith_12 : decode cX10_tagWith 12 = .ok (.aload_n 0, 1) := by decide +kernel
theorem dX10_tagWith_13 : decode cX10_tagWith 13 = .ok (.getfield 38, 3) := by decide +kernel
theorem dX10_tagWith_16 : decode cX10_tagWith 16 = .ok (.iload_n 2, 1) := by decide +kernel
theorem dX10_tagWith_17 : decode cX10_tagWith 17 = .ok (.iaload, 1) := by decide +kernel
theorem dX10_tagWith_18 : decode cX10_tagWith 18 = .ok (.iload_n 1, 1) := by decide +kernel
theorem dX10_tagWith_19 : decode cX10_tagWith 19 = .ok (.if_icmp .ne 5, 3) := by decide +kernel
theorem dX10_tagWith_22 : decode cX10_tagWith 22 = .ok (.iload_n 2, 1) := by decide +kernel
theorem dX10_tagWith_23 : decode cX10_tagWith 23 = .ok (.ireturn, 1) := by decide +kernel
theorem dX10_tagWith_24 : decode cX10_tagWith 24 = .ok (.iinc 2 1, 3) := by decide +kernel
theorem dX10_tagWith_27 : decode cX10_tagWith 27 = .ok (.goto (-25), 3) := by decide +kernel
theorem dX10_tagWith_30 : decode cX10_tagWith 30 = .ok (.iconst (-1), 1) := by decide +kernel
theorem dX10_tagWith_31 : decode cX10_tagWith 31 = .ok (.ireturn, 1) := by decide +kernel
abbrev m_X10_tagWith : MD := (yX10_tagWith, cX10_tagWith, 3, (some .int))

abbrev w_X10_tagWith (g : GT) (h0 h1 h2 : Nat) (v0_0 v0_1 v0_2 v0_3 v0_4 v0_5 v0_6 v0_7 v0_8 v0_9 v0_11 v0_12 v0_13 v0_14 v0_15 v0_16 v0_17 v0_19 v0_20 v0_21 v0_22 v0_23 v0_24 v0_25 v0_26 v0_27 v0_28 v0_29 v0_30 v0_31 v0_32 v0_33 v0_34 v0_35 v0_36 v0_37 : Value) (basic1 tagPlate2 : Nat → Int32) : va_W := [(h0, .inr (10, [v0_0, v0_1, v0_2, v0_3, v0_4, v0_5, v0_6, v0_7, v0_8, v0_9, .ref h1, v0_11, v0_12, v0_13, v0_14, v0_15, v0_16, v0_17, .ref h2, v0_19, v0_20, v0_21, v0_22, v0_23, v0_24, v0_25, v0_26, v0_27, v0_28, v0_29, v0_30, v0_31, v0_32, v0_33, v0_34, v0_35, v0_36, v0_37])), (h1, aI g 7 basic1), (h2, aI g 24 tagPlate2)]
def f_X10_tagWith_h2 (F : Nat) (basic1 tagPlate2 : Nat → Int32) (k2 : (Int32 × Int32) → Option (Int32)) (x1 x2 : Int32) : Option (Int32) :=
  rd basic1 7 3 fun a1 =>
  if a1 ≤ x2 then
    some (-1)
  else
    rd tagPlate2 24 x2 fun a3 =>
    if a3 = x1 then
      some x2
    else
      k2 (x1, x2 + 1)
def f_X10_tagWith_L2 (F : Nat) (basic1 tagPlate2 : Nat → Int32) (z : Int32 × Int32) : Option (Int32) := lp (fun k z => f_X10_tagWith_h2 F basic1 tagPlate2 k z.1 z.2) F z
def f_X10_tagWith (F : Nat) (p1 : Int32) (basic1 tagPlate2 : Nat → Int32) : Option (Int32) :=
  f_X10_tagWith_L2 F basic1 tagPlate2 (p1, 0)
set_option maxHeartbeats 4000000 in
set_option maxRecDepth 100000 in
theorem c_X10_tagWith (l : Launch) (g : GT) (F : Nat) (h0 h1 h2 : Nat) (v0_0 v0_1 v0_2 v0_3 v0_4 v0_5 v0_6 v0_7 v0_8 v0_9 v0_11 v0_12 v0_13 v0_14 v0_15 v0_16 v0_17 v0_19 v0_20 v0_21 v0_22 v0_23 v0_24 v0_25 v0_26 v0_27 v0_28 v0_29 v0_30 v0_31 v0_32 v0_33 v0_34 v0_35 v0_36 v0_37 : Value) (p1 : Int32) (basic1 tagPlate2 : Nat → Int32) (r : Int32) (sz : Nat) (hf : f_X10_tagWith F p1 basic1 tagPlate2 = some r) : CI l m_X10_tagWith (rml 0 0 0) g (w_X10_tagWith g h0 h1 h2 v0_0 v0_1 v0_2 v0_3 v0_4 v0_5 v0_6 v0_7 v0_8 v0_9 v0_11 v0_12 v0_13 v0_14 v0_15 v0_16 v0_17 v0_19 v0_20 v0_21 v0_22 v0_23 v0_24 v0_25 v0_26 v0_27 v0_28 v0_29 v0_30 v0_31 v0_32 v0_33 v0_34 v0_35 v0_36 v0_37 basic1 tagPlate2) (fun _ => w_X10_tagWith g h0 h1 h2 v0_0 v0_1 v0_2 v0_3 v0_4 v0_5 v0_6 v0_7 v0_8 v0_9 v0_11 v0_12 v0_13 v0_14 v0_15 v0_16 v0_17 v0_19 v0_20 v0_21 v0_22 v0_23 v0_24 v0_25 v0_26 v0_27 v0_28 v0_29 v0_30 v0_31 v0_32 v0_33 v0_34 v0_35 v0_36 v0_37 basic1 tagPlate2) sz [.ref h0, .int p1] r := by
  refine en_i (by decide) (Nat.le_of_ble_eq_true rfl) (fun p e s m args below meth c A ls C w hl => ?_)
  have C : Cx p s m args meth c RX10 m_X10_tagWith g A := C
  have hx := C.1
  have hb : c.code = cX10_tagWith := C.2.1
  have hl : lv_has ls 3 [(0, .ref h0), (1, .int p1)] := hl
  obtain ⟨Q, hQ⟩ : ∃ Q, Q = QI below args s g A (fun _ => w_X10_tagWith g h0 h1 h2 v0_0 v0_1 v0_2 v0_3 v0_4 v0_5 v0_6 v0_7 v0_8 v0_9 v0_11 v0_12 v0_13 v0_14 v0_15 v0_16 v0_17 v0_19 v0_20 v0_21 v0_22 v0_23 v0_24 v0_25 v0_26 v0_27 v0_28 v0_29 v0_30 v0_31 v0_32 v0_33 v0_34 v0_35 v0_36 v0_37 basic1 tagPlate2) r 0 0 := ⟨_, rfl⟩
  suffices hW : W p l e (rml 0 0 0) s m args below meth c s.heap [] 0 0 Q (F0 m 0 ls []) from (by rw [hQ] at hW; exact hW)
  unfold f_X10_tagWith at hf
  have L2 : ∀ (z : Int32 × Int32), f_X10_tagWith_L2 F basic1 tagPlate2 z = some r → ∀ (H : Heap) (locs : List Loc) (ls : Array Slot), Wd g A (w_X10_tagWith g h0 h1 h2 v0_0 v0_1 v0_2 v0_3 v0_4 v0_5 v0_6 v0_7 v0_8 v0_9 v0_11 v0_12 v0_13 v0_14 v0_15 v0_16 v0_17 v0_19 v0_20 v0_21 v0_22 v0_23 v0_24 v0_25 v0_26 v0_27 v0_28 v0_29 v0_30 v0_31 v0_32 v0_33 v0_34 v0_35 v0_36 v0_37 basic1 tagPlate2) s.heap H locs → lv_has ls 3 [(0, .ref h0), (1, .int z.1), (2, .int z.2)] → W p l e (rml 0 0 0) s m args below meth c H locs 0 0 Q (F0 m 2 ls []) := by
    intro z hf
    refine lp_W (r := r) (fun (z : Int32 × Int32) => ∀ (H : Heap) (locs : List Loc) (ls : Array Slot), Wd g A (w_X10_tagWith g h0 h1 h2 v0_0 v0_1 v0_2 v0_3 v0_4 v0_5 v0_6 v0_7 v0_8 v0_9 v0_11 v0_12 v0_13 v0_14 v0_15 v0_16 v0_17 v0_19 v0_20 v0_21 v0_22 v0_23 v0_24 v0_25 v0_26 v0_27 v0_28 v0_29 v0_30 v0_31 v0_32 v0_33 v0_34 v0_35 v0_36 v0_37 basic1 tagPlate2) s.heap H locs → lv_has ls 3 [(0, .ref h0), (1, .int z.1), (2, .int z.2)] → W p l e (rml 0 0 0) s m args below meth c H locs 0 0 Q (F0 m 2 ls [])) (fun k2 z ih2 hf => ?_) F z hf
    obtain ⟨x1, x2⟩ := z
    intro H locs ls w hl
    try dsimp only at hf w hl ⊢
    unfold f_X10_tagWith_h2 at hf
    refine lv_iload_n hx hb dX10_tagWith_2 rfl (lv_at hl 2 rfl) ?_
    refine lv_aload_n hx hb dX10_tagWith_3 rfl (lv_at hl 0 rfl) ?_
    refine g_X10_13 C w 0 rfl rfl dX10_tagWith_4 ?_
    refine lv_iconst (v := 3) hx hb dX10_tagWith_7 (by decide) ?_
    obtain ⟨a1, hia1, haa1, hf⟩ := rd_some hf
    refine ial C w 1 rfl hia1 haa1 dX10_tagWith_8 ?_
    refine lv_icmp_ge (tgt := 30) hx hb dX10_tagWith_9 (by decide) (fun c2 => ?_) (fun c2 => ?_)
    · replace hf := it_t c2 hf
      refine lv_iconst (v := -1) hx hb dX10_tagWith_30 (by decide) ?_
      obtain e1 := tp1 hf
      rw [hQ]
      exact rt_i C w rfl (fun _ => 0) rfl e1 dX10_tagWith_31
    · replace hf := it_f c2 hf
      refine lv_aload_n hx hb dX10_tagWith_12 rfl (lv_at hl 0 rfl) ?_
      refine g_X10_38 C w 0 rfl rfl dX10_tagWith_13 ?_
      refine lv_iload_n hx hb dX10_tagWith_16 rfl (lv_at hl 2 rfl) ?_
      obtain ⟨a3, hia3, haa3, hf⟩ := rd_some hf
      refine ial C w 2 rfl hia3 haa3 dX10_tagWith_17 ?_
      refine lv_iload_n hx hb dX10_tagWith_18 rfl (lv_at hl 1 rfl) ?_
      refine lv_icmp_ne (tgt := 24) hx hb dX10_tagWith_19 (by decide) (fun c4 => ?_) (fun c4 => ?_)
      · replace hf := it_f c4 hf
        refine lv_iinc (v := x2 + 1) (lv' := [(2, .int (x2 + 1)), (0, .ref h0), (1, .int x1)]) hx hb dX10_tagWith_24 hl (k := 2) rfl rfl (by decide) rfl (fun ls hl => ?_)
        refine lv_goto (tgt := 2) hx hb dX10_tagWith_27 (by decide) ?_
        exact ih2 (x1, x2 + 1) hf _ _ _ w (lv_sub hl [1, 2, 0] rfl)
      · replace hf := it_t c4 hf
        refine lv_iload_n hx hb dX10_tagWith_22 rfl (lv_at hl 2 rfl) ?_
        obtain e1 := tp1 hf
        rw [hQ]
        exact rt_i C w rfl (fun _ => 0) rfl e1 dX10_tagWith_23
  refine lv_iconst (v := 0) hx hb dX10_tagWith_0 (by decide) ?_
  refine lv_istore_n (lv' := [(2, .int 0), (0, .ref h0), (1, .int p1)]) hx hb dX10_tagWith_1 rfl hl (by decide) rfl (fun ls hl => ?_)
  exact L2 (p1, 0) hf _ _ _ w (lv_sub hl [1, 2, 0] rfl)

theorem dX10_vehicleOf_0 : decode cX10_vehicleOf 0 = .ok (.aload_n 0, 1) := by decide +kernel
theorem dX10_vehicleOf_1 : decode cX10_vehicleOf 1 = .ok (.iload_n 1, 1) := by decide +kernel
theorem dX10_vehicleOf_2 : decode cX10_vehicleOf 2 = .ok (.invokevirtual 253, 3) := by decide +kernel
theorem dX10_vehicleOf_5 : decode cX10_vehicleOf 5 = .ok (.ifCond .lt 9, 3) := by decide +kernel
theorem dX10_vehicleOf_8 : decode cX10_vehicleOf 8 = .ok (.aload_n 0, 1) := by decide +kernel
theorem dX10_vehicleOf_9 : decode cX10_vehicleOf 9 = .ok (.iload_n 1, 1) := by decide +kernel
theorem dX10_vehicleOf_10 : decode cX10_vehicleOf 10 = .ok (.invokevirtual 253, 3) := by decide +kernel
theorem dX10_vehicleOf_13 : decode cX10_vehicleOf 13 = .ok (.ireturn, 1) := by decide +kernel
theorem dX10_vehicleOf_14 : decode cX10_vehicleOf 14 = .ok (.aload_n 0, 1) := by decide +kernel
theorem dX10_vehicleOf_15 : decode cX10_vehicleOf 15 = .ok (.iload_n 1, 1) := by decide +kernel
theorem dX10_vehicleOf_16 : decode cX10_vehicleOf 16 = .ok (.invokevirtual 256, 3) := by decide +kernel
theorem dX10_vehicleOf_19 : decode cX10_vehicleOf 19 = .ok (.istore_n 2, 1) := by decide +kernel
theorem dX10_vehicleOf_20 : decode cX10_vehicleOf 20 = .ok (.iload_n 2, 1) := by decide +kernel
theorem dX10_vehicleOf_21 : decode cX10_vehicleOf 21 = .ok (.ifCond .ge 5, 3) := by decide +kernel
theorem dX10_vehicleOf_24 : decode cX10_vehicleOf 24 = .ok (.iconst (-1), 1) := by decide +kernel
theorem dX10_vehicleOf_25 : decode cX10_vehicleOf 25 = .ok (.ireturn, 1) := by decide +kernel
theorem dX10_vehicleOf_26 : decode cX10_vehicleOf 26 = .ok (.aload_n 0, 1) := by decide +kernel
theorem dX10_vehicleOf_27 : decode cX10_vehicleOf 27 = .ok (.iload_n 2, 1) := by decide +kernel
theorem dX10_vehicleOf_28 : decode cX10_vehicleOf 28 = .ok (.invokevirtual 259, 3) := by decide +kernel
theorem dX10_vehicleOf_31 : decode cX10_vehicleOf 31 = .ok (.istore_n 3, 1) := by decide +kernel
theorem dX10_vehicleOf_32 : decode cX10_vehicleOf 32 = .ok (.iload_n 3, 1) := by decide +kernel
theorem dX10_vehicleOf_33 : decode cX10_vehicleOf 33 = .ok (.ifCond .lt 7, 3) := by decide +kernel
theorem dX10_vehicleOf_36 : decode cX10_vehicleOf 36 = .ok (.iload_n 3, 1) := by decide +kernel
theorem dX10_vehicleOf_37 : decode cX10_vehicleOf 37 = .ok (.goto 7, 3) := by decide +kernel
theorem dX10_vehicleOf_40 : decode cX10_vehicleOf 40 = .ok (.bipush 100, 2) := by decide +kernel
theorem dX10_vehicleOf_42 : decode cX10_vehicleOf 42 = .ok (.iload_n 2, 1) := by decide +kernel
theorem dX10_vehicleOf_43 : decode cX10_vehicleOf 43 = .ok (.iadd, 1) := by decide +kernel
theorem dX10_vehicleOf_44 : decode cX10_vehicleOf 44 = .ok (.ireturn, 1) := by decide +kernel
abbrev m_X10_vehicleOf : MD := (yX10_vehicleOf, cX10_vehicleOf, 4, (some .int))
theorem q_1511 : Cond.code yX10_tagOf cX10_tagOf 2 (some .int) ∈ TS := ts_t 1511 (by decide +kernel) (by decide +kernel)
theorem q_1508 : Cond.methodLink RX10 253 yX10_tagOf ∈ TS := ts_t 1508 (by decide +kernel) (by decide +kernel)
theorem q_1510 : Cond.instanceMethod yX10_tagOf ∈ TS := ts_t 1510 (by decide +kernel) (by decide +kernel)
theorem qs_109 : Cond.selects yX10_tagOf.cls yX10_tagOf yX10_tagOf ∈ TS := ts_s 109 (by decide +kernel) (by decide +kernel)
theorem k_X10_253 : LkV RX10 253 m_X10_tagOf 1 := ⟨q_1508, q_1510, qs_109, ⟨q_11, q_1511, by decide, by decide, by decide +kernel⟩⟩
theorem q_1515 : Cond.code yX10_plateOf cX10_plateOf 4 (some .int) ∈ TS := ts_t 1515 (by decide +kernel) (by decide +kernel)
theorem q_1512 : Cond.methodLink RX10 256 yX10_plateOf ∈ TS := ts_t 1512 (by decide +kernel) (by decide +kernel)
theorem q_1514 : Cond.instanceMethod yX10_plateOf ∈ TS := ts_t 1514 (by decide +kernel) (by decide +kernel)
theorem qs_110 : Cond.selects yX10_plateOf.cls yX10_plateOf yX10_plateOf ∈ TS := ts_s 110 (by decide +kernel) (by decide +kernel)
theorem k_X10_256 : LkV RX10 256 m_X10_plateOf 1 := ⟨q_1512, q_1514, qs_110, ⟨q_11, q_1515, by decide, by decide, by decide +kernel⟩⟩
theorem q_1531 : Cond.code yX10_tagWith cX10_tagWith 3 (some .int) ∈ TS := ts_t 1531 (by decide +kernel) (by decide +kernel)
theorem q_1528 : Cond.methodLink RX10 259 yX10_tagWith ∈ TS := ts_t 1528 (by decide +kernel) (by decide +kernel)
theorem q_1530 : Cond.instanceMethod yX10_tagWith ∈ TS := ts_t 1530 (by decide +kernel) (by decide +kernel)
theorem qs_114 : Cond.selects yX10_tagWith.cls yX10_tagWith yX10_tagWith ∈ TS := ts_s 114 (by decide +kernel) (by decide +kernel)
theorem k_X10_259 : LkV RX10 259 m_X10_tagWith 1 := ⟨q_1528, q_1530, qs_114, ⟨q_11, q_1531, by decide, by decide, by decide +kernel⟩⟩
abbrev w_X10_vehicleOf (g : GT) (h0 h1 h2 h3 : Nat) (v0_0 v0_1 v0_2 v0_3 v0_4 v0_5 v0_6 v0_7 v0_8 v0_9 v0_11 v0_12 v0_13 v0_14 v0_15 v0_16 v0_17 v0_19 v0_20 v0_22 v0_23 v0_24 v0_25 v0_26 v0_27 v0_28 v0_29 v0_30 v0_31 v0_32 v0_33 v0_34 v0_35 v0_36 v0_37 : Value) (basic1 state2 tagPlate3 : Nat → Int32) : va_W := [(h0, .inr (10, [v0_0, v0_1, v0_2, v0_3, v0_4, v0_5, v0_6, v0_7, v0_8, v0_9, .ref h1, v0_11, v0_12, v0_13, v0_14, v0_15, v0_16, v0_17, .ref h3, v0_19, v0_20, .ref h2, v0_22, v0_23, v0_24, v0_25, v0_26, v0_27, v0_28, v0_29, v0_30, v0_31, v0_32, v0_33, v0_34, v0_35, v0_36, v0_37])), (h1, aI g 7 basic1), (h2, aI g 2524 state2), (h3, aI g 24 tagPlate3)]
def f_X10_vehicleOf_b44 (F : Nat) (basic1 state2 tagPlate3 : Nat → Int32) (s0 : Int32) : Option (Int32) :=
  some s0
def f_X10_vehicleOf (F : Nat) (p1 : Int32) (basic1 state2 tagPlate3 : Nat → Int32) : Option (Int32) :=
  bd1 (f_X10_tagOf F p1 state2) fun r1 =>
  if r1 < 0 then
    bd1 (f_X10_plateOf F p1 basic1 state2) fun r4 =>
    if 0 ≤ r4 then
      bd1 (f_X10_tagWith F r4 basic1 tagPlate3) fun r7 =>
      if r7 < 0 then
        f_X10_vehicleOf_b44 F basic1 state2 tagPlate3 (100 + r4)
      else
        f_X10_vehicleOf_b44 F basic1 state2 tagPlate3 r7
    else
      some (-1)
  else
    bd1 (f_X10_tagOf F p1 state2) fun r10 =>
    some r10
set_option maxHeartbeats 4000000 in
set_option maxRecDepth 100000 in
theorem c_X10_vehicleOf (l : Launch) (g : GT) (F : Nat) (h0 h1 h2 h3 : Nat) (v0_0 v0_1 v0_2 v0_3 v0_4 v0_5 v0_6 v0_7 v0_8 v0_9 v0_11 v0_12 v0_13 v0_14 v0_15 v0_16 v0_17 v0_19 v0_20 v0_22 v0_23 v0_24 v0_25 v0_26 v0_27 v0_28 v0_29 v0_30 v0_31 v0_32 v0_33 v0_34 v0_35 v0_36 v0_37 : Value) (p1 : Int32) (basic1 state2 tagPlate3 : Nat → Int32) (r : Int32) (sz : Nat) (hf : f_X10_vehicleOf F p1 basic1 state2 tagPlate3 = some r) : CI l m_X10_vehicleOf (rml 2 0 0) g (w_X10_vehicleOf g h0 h1 h2 h3 v0_0 v0_1 v0_2 v0_3 v0_4 v0_5 v0_6 v0_7 v0_8 v0_9 v0_11 v0_12 v0_13 v0_14 v0_15 v0_16 v0_17 v0_19 v0_20 v0_22 v0_23 v0_24 v0_25 v0_26 v0_27 v0_28 v0_29 v0_30 v0_31 v0_32 v0_33 v0_34 v0_35 v0_36 v0_37 basic1 state2 tagPlate3) (fun _ => w_X10_vehicleOf g h0 h1 h2 h3 v0_0 v0_1 v0_2 v0_3 v0_4 v0_5 v0_6 v0_7 v0_8 v0_9 v0_11 v0_12 v0_13 v0_14 v0_15 v0_16 v0_17 v0_19 v0_20 v0_22 v0_23 v0_24 v0_25 v0_26 v0_27 v0_28 v0_29 v0_30 v0_31 v0_32 v0_33 v0_34 v0_35 v0_36 v0_37 basic1 state2 tagPlate3) sz [.ref h0, .int p1] r := by
  refine en_i (by decide) (Nat.le_of_ble_eq_true rfl) (fun p e s m args below meth c A ls C w hl => ?_)
  have C : Cx p s m args meth c RX10 m_X10_vehicleOf g A := C
  have hx := C.1
  have hb : c.code = cX10_vehicleOf := C.2.1
  have hl : lv_has ls 4 [(0, .ref h0), (1, .int p1)] := hl
  obtain ⟨Q, hQ⟩ : ∃ Q, Q = QI below args s g A (fun _ => w_X10_vehicleOf g h0 h1 h2 h3 v0_0 v0_1 v0_2 v0_3 v0_4 v0_5 v0_6 v0_7 v0_8 v0_9 v0_11 v0_12 v0_13 v0_14 v0_15 v0_16 v0_17 v0_19 v0_20 v0_22 v0_23 v0_24 v0_25 v0_26 v0_27 v0_28 v0_29 v0_30 v0_31 v0_32 v0_33 v0_34 v0_35 v0_36 v0_37 basic1 state2 tagPlate3) r 0 0 := ⟨_, rfl⟩
  suffices hW : W p l e (rml 2 0 0) s m args below meth c s.heap [] 0 0 Q (F0 m 0 ls []) from (by rw [hQ] at hW; exact hW)
  unfold f_X10_vehicleOf at hf
  have b44 : ∀ (s0 : Int32) (H : Heap) (locs : List Loc) (ls : Array Slot), f_X10_vehicleOf_b44 F basic1 state2 tagPlate3 s0 = some r → Wd g A (w_X10_vehicleOf g h0 h1 h2 h3 v0_0 v0_1 v0_2 v0_3 v0_4 v0_5 v0_6 v0_7 v0_8 v0_9 v0_11 v0_12 v0_13 v0_14 v0_15 v0_16 v0_17 v0_19 v0_20 v0_22 v0_23 v0_24 v0_25 v0_26 v0_27 v0_28 v0_29 v0_30 v0_31 v0_32 v0_33 v0_34 v0_35 v0_36 v0_37 basic1 state2 tagPlate3) s.heap H locs → lv_has ls 4 [] → W p l e (rml 2 0 0) s m args below meth c H locs 0 0 Q (F0 m 44 ls [.int s0]) := by
    intro s0 H locs ls hf w hl
    unfold f_X10_vehicleOf_b44 at hf
    obtain e1 := tp1 hf
    rw [hQ]
    exact rt_i C w rfl (fun _ => 0) rfl e1 dX10_vehicleOf_44
  refine lv_aload_n hx hb dX10_vehicleOf_0 rfl (lv_at hl 0 rfl) ?_
  refine lv_iload_n hx hb dX10_vehicleOf_1 rfl (lv_at hl 1 rfl) ?_
  obtain ⟨r1, hc2, hf⟩ := bd1_some hf
  refine ca_iV C w (wn := fun _ => w_X10_vehicleOf g h0 h1 h2 h3 v0_0 v0_1 v0_2 v0_3 v0_4 v0_5 v0_6 v0_7 v0_8 v0_9 v0_11 v0_12 v0_13 v0_14 v0_15 v0_16 v0_17 v0_19 v0_20 v0_22 v0_23 v0_24 v0_25 v0_26 v0_27 v0_28 v0_29 v0_30 v0_31 v0_32 v0_33 v0_34 v0_35 v0_36 v0_37 basic1 state2 tagPlate3) (pm_k [true, false, true, false] rfl rfl (fun _ => Nat.le_of_ble_eq_true rfl) (fun _ => rfl)) (c_X10_tagOf l g F h0 h2 v0_0 v0_1 v0_2 v0_3 v0_4 v0_5 v0_6 v0_7 v0_8 v0_9 (.ref h1) v0_11 v0_12 v0_13 v0_14 v0_15 v0_16 v0_17 (.ref h3) v0_19 v0_20 v0_22 v0_23 v0_24 v0_25 v0_26 v0_27 v0_28 v0_29 v0_30 v0_31 v0_32 v0_33 v0_34 v0_35 v0_36 v0_37 p1 state2 r1 _ hc2) k_X10_253 (rm_le (by decide) (by decide)) 0 10 rfl rfl rfl rfl hl.1 rfl (Nat.le_of_ble_eq_true rfl) dX10_vehicleOf_2 ⟨Nat.le_of_ble_eq_true rfl, Nat.le_of_ble_eq_true rfl⟩ (cells2 := 0) (slots2 := 0) ⟨rfl, rfl⟩ (fun _ H locs w => ?_)
  refine lv_if_lt (tgt := 14) hx hb dX10_vehicleOf_5 (by decide) (fun c3 => ?_) (fun c3 => ?_)
  · replace hf := it_t c3 hf
    refine lv_aload_n hx hb dX10_vehicleOf_14 rfl (lv_at hl 0 rfl) ?_
    refine lv_iload_n hx hb dX10_vehicleOf_15 rfl (lv_at hl 1 rfl) ?_
    obtain ⟨r4, hc5, hf⟩ := bd1_some hf
    refine ca_iV C w (wn := fun _ => w_X10_vehicleOf g h0 h1 h2 h3 v0_0 v0_1 v0_2 v0_3 v0_4 v0_5 v0_6 v0_7 v0_8 v0_9 v0_11 v0_12 v0_13 v0_14 v0_15 v0_16 v0_17 v0_19 v0_20 v0_22 v0_23 v0_24 v0_25 v0_26 v0_27 v0_28 v0_29 v0_30 v0_31 v0_32 v0_33 v0_34 v0_35 v0_36 v0_37 basic1 state2 tagPlate3) (pm_k [true, true, true, false] rfl rfl (fun _ => Nat.le_of_ble_eq_true rfl) (fun _ => rfl)) (c_X10_plateOf l g F h0 h1 h2 v0_0 v0_1 v0_2 v0_3 v0_4 v0_5 v0_6 v0_7 v0_8 v0_9 v0_11 v0_12 v0_13 v0_14 v0_15 v0_16 v0_17 (.ref h3) v0_19 v0_20 v0_22 v0_23 v0_24 v0_25 v0_26 v0_27 v0_28 v0_29 v0_30 v0_31 v0_32 v0_33 v0_34 v0_35 v0_36 v0_37 p1 basic1 state2 r4 _ hc5) k_X10_256 (rm_le (by decide) (by decide)) 0 10 rfl rfl rfl rfl hl.1 rfl (Nat.le_of_ble_eq_true rfl) dX10_vehicleOf_16 ⟨Nat.le_of_ble_eq_true rfl, Nat.le_of_ble_eq_true rfl⟩ (cells2 := 0) (slots2 := 0) ⟨rfl, rfl⟩ (fun _ H locs w => ?_)
    refine lv_istore_n (lv' := [(2, .int r4), (0, .ref h0), (1, .int p1)]) hx hb dX10_vehicleOf_19 rfl hl (by decide) rfl (fun ls hl => ?_)
    refine lv_iload_n hx hb dX10_vehicleOf_20 rfl (lv_at hl 0 rfl) ?_
    refine lv_if_ge (tgt := 26) hx hb dX10_vehicleOf_21 (by decide) (fun c6 => ?_) (fun c6 => ?_)
    · replace hf := it_t c6 hf
      refine lv_aload_n hx hb dX10_vehicleOf_26 rfl (lv_at hl 1 rfl) ?_
      refine lv_iload_n hx hb dX10_vehicleOf_27 rfl (lv_at hl 0 rfl) ?_
      obtain ⟨r7, hc8, hf⟩ := bd1_some hf
      refine ca_iV C w (wn := fun _ => w_X10_vehicleOf g h0 h1 h2 h3 v0_0 v0_1 v0_2 v0_3 v0_4 v0_5 v0_6 v0_7 v0_8 v0_9 v0_11 v0_12 v0_13 v0_14 v0_15 v0_16 v0_17 v0_19 v0_20 v0_22 v0_23 v0_24 v0_25 v0_26 v0_27 v0_28 v0_29 v0_30 v0_31 v0_32 v0_33 v0_34 v0_35 v0_36 v0_37 basic1 state2 tagPlate3) (pm_k [true, true, false, true] rfl rfl (fun _ => Nat.le_of_ble_eq_true rfl) (fun _ => rfl)) (c_X10_tagWith l g F h0 h1 h3 v0_0 v0_1 v0_2 v0_3 v0_4 v0_5 v0_6 v0_7 v0_8 v0_9 v0_11 v0_12 v0_13 v0_14 v0_15 v0_16 v0_17 v0_19 v0_20 (.ref h2) v0_22 v0_23 v0_24 v0_25 v0_26 v0_27 v0_28 v0_29 v0_30 v0_31 v0_32 v0_33 v0_34 v0_35 v0_36 v0_37 r4 basic1 tagPlate3 r7 _ hc8) k_X10_259 (rm_le (by decide) (by decide)) 0 10 rfl rfl rfl rfl hl.1 rfl (Nat.le_of_ble_eq_true rfl) dX10_vehicleOf_28 ⟨Nat.le_of_ble_eq_true rfl, Nat.le_of_ble_eq_true rfl⟩ (cells2 := 0) (slots2 := 0) ⟨rfl, rfl⟩ (fun _ H locs w => ?_)
      refine lv_istore_n (lv' := [(3, .int r7), (2, .int r4), (0, .ref h0), (1, .int p1)]) hx hb dX10_vehicleOf_31 rfl hl (by decide) rfl (fun ls hl => ?_)
      refine lv_iload_n hx hb dX10_vehicleOf_32 rfl (lv_at hl 0 rfl) ?_
      refine lv_if_lt (tgt := 40) hx hb dX10_vehicleOf_33 (by decide) (fun c9 => ?_) (fun c9 => ?_)
      · replace hf := it_t c9 hf
        refine lv_bipush (v := 100) hx hb dX10_vehicleOf_40 (by decide) ?_
        refine lv_iload_n hx hb dX10_vehicleOf_42 rfl (lv_at hl 1 rfl) ?_
        refine lv_iadd hx hb dX10_vehicleOf_43 ?_
        exact b44 (100 + r4) _ _ _ hf w (lv_sub hl [] rfl)
      · replace hf := it_f c9 hf
        refine lv_iload_n hx hb dX10_vehicleOf_36 rfl (lv_at hl 0 rfl) ?_
        refine lv_goto (tgt := 44) hx hb dX10_vehicleOf_37 (by decide) ?_
        exact b44 r7 _ _ _ hf w (lv_sub hl [] rfl)
    · replace hf := it_f c6 hf
      refine lv_iconst (v := -1) hx hb dX10_vehicleOf_24 (by decide) ?_
      obtain e1 := tp1 hf
      rw [hQ]
      exact rt_i C w rfl (fun _ => 0) rfl e1 dX10_vehicleOf_25
  · replace hf := it_f c3 hf
    refine lv_aload_n hx hb dX10_vehicleOf_8 rfl (lv_at hl 0 rfl) ?_
    refine lv_iload_n hx hb dX10_vehicleOf_9 rfl (lv_at hl 1 rfl) ?_
    obtain ⟨r10, hc11, hf⟩ := bd1_some hf
    refine ca_iV C w (wn := fun _ => w_X10_vehicleOf g h0 h1 h2 h3 v0_0 v0_1 v0_2 v0_3 v0_4 v0_5 v0_6 v0_7 v0_8 v0_9 v0_11 v0_12 v0_13 v0_14 v0_15 v0_16 v0_17 v0_19 v0_20 v0_22 v0_23 v0_24 v0_25 v0_26 v0_27 v0_28 v0_29 v0_30 v0_31 v0_32 v0_33 v0_34 v0_35 v0_36 v0_37 basic1 state2 tagPlate3) (pm_k [true, false, true, false] rfl rfl (fun _ => Nat.le_of_ble_eq_true rfl) (fun _ => rfl)) (c_X10_tagOf l g F h0 h2 v0_0 v0_1 v0_2 v0_3 v0_4 v0_5 v0_6 v0_7 v0_8 v0_9 (.ref h1) v0_11 v0_12 v0_13 v0_14 v0_15 v0_16 v0_17 (.ref h3) v0_19 v0_20 v0_22 v0_23 v0_24 v0_25 v0_26 v0_27 v0_28 v0_29 v0_30 v0_31 v0_32 v0_33 v0_34 v0_35 v0_36 v0_37 p1 state2 r10 _ hc11) k_X10_253 (rm_le (by decide) (by decide)) 0 10 rfl rfl rfl rfl hl.1 rfl (Nat.le_of_ble_eq_true rfl) dX10_vehicleOf_10 ⟨Nat.le_of_ble_eq_true rfl, Nat.le_of_ble_eq_true rfl⟩ (cells2 := 0) (slots2 := 0) ⟨rfl, rfl⟩ (fun _ H locs w => ?_)
    obtain e1 := tp1 hf
    rw [hQ]
    exact rt_i C w rfl (fun _ => 0) rfl e1 dX10_vehicleOf_13

theorem dX10_isTag_0 : decode cX10_isTag 0 = .ok (.iload_n 0, 1) := by decide +kernel
theorem dX10_isTag_1 : decode cX10_isTag 1 = .ok (.ifCond .lt 13, 3) := by decide +kernel
theorem dX10_isTag_4 : decode cX10_isTag 4 = .ok (.iload_n 0, 1) := by decide +kernel
theorem dX10_isTag_5 : decode cX10_isTag 5 = .ok (.bipush 100, 2) := by decide +kernel
theorem dX10_isTag_7 : decode cX10_isTag 7 = .ok (.if_icmp .ge 7, 3) := by decide +kernel
theorem dX10_isTag_10 : decode cX10_isTag 10 = .ok (.iconst 1, 1) := by decide +kernel
theorem dX10_isTag_11 : decode cX10_isTag 11 = .ok (.goto 4, 3) := by decide +kernel
theorem dX10_isTag_14 : decode cX10_isTag 14 = .ok (.iconst 0, 1) := by decide +kernel
theorem dX10_isTag_15 : decode cX10_isTag 15 = .ok (.ireturn, 1) := by decide +kernel
abbrev m_X10_isTag : MD := (yX10_isTag, cX10_isTag, 1, (some .boolean))

abbrev w_X10_isTag (g : GT) : va_W := []
def f_X10_isTag_b15 (F : Nat) (s0 : Int32) : Option (Int32) :=
  gd (s0 = 0 ∨ s0 = 1) (some s0)
def f_X10_isTag_b14 (F : Nat) : Option (Int32) :=
  f_X10_isTag_b15 F 0
def f_X10_isTag (F : Nat) (p0 : Int32) : Option (Int32) :=
  if p0 < 0 then
    f_X10_isTag_b14 F
  else
    if 100 ≤ p0 then
      f_X10_isTag_b14 F
    else
      f_X10_isTag_b15 F 1
set_option maxHeartbeats 4000000 in
set_option maxRecDepth 100000 in
theorem c_X10_isTag (l : Launch) (g : GT) (F : Nat) (p0 : Int32) (r : Int32) (sz : Nat) (hf : f_X10_isTag F p0 = some r) : CI l m_X10_isTag (rml 0 0 0) g (w_X10_isTag g) (fun _ => w_X10_isTag g) sz [.int p0] r := by
  refine en_i (by decide) (Nat.le_of_ble_eq_true rfl) (fun p e s m args below meth c A ls C w hl => ?_)
  have C : Cx p s m args meth c RX10 m_X10_isTag g A := C
  have hx := C.1
  have hb : c.code = cX10_isTag := C.2.1
  have hl : lv_has ls 1 [(0, .int p0)] := hl
  obtain ⟨Q, hQ⟩ : ∃ Q, Q = QI below args s g A (fun _ => w_X10_isTag g) r 0 0 := ⟨_, rfl⟩
  suffices hW : W p l e (rml 0 0 0) s m args below meth c s.heap [] 0 0 Q (F0 m 0 ls []) from (by rw [hQ] at hW; exact hW)
  unfold f_X10_isTag at hf
  have b15 : ∀ (s0 : Int32) (H : Heap) (locs : List Loc) (ls : Array Slot), f_X10_isTag_b15 F s0 = some r → Wd g A (w_X10_isTag g) s.heap H locs → lv_has ls 1 [] → W p l e (rml 0 0 0) s m args below meth c H locs 0 0 Q (F0 m 15 ls [.int s0]) := by
    intro s0 H locs ls hf w hl
    unfold f_X10_isTag_b15 at hf
    obtain ⟨h01, hf⟩ := gd_some hf
    obtain e1 := tp1 hf
    rw [hQ]
    exact rt_z C w rfl h01 (fun _ => 0) rfl e1 dX10_isTag_15
  have b14 : ∀ (H : Heap) (locs : List Loc) (ls : Array Slot), f_X10_isTag_b14 F = some r → Wd g A (w_X10_isTag g) s.heap H locs → lv_has ls 1 [] → W p l e (rml 0 0 0) s m args below meth c H locs 0 0 Q (F0 m 14 ls []) := by
    intro  H locs ls hf w hl
    unfold f_X10_isTag_b14 at hf
    refine lv_iconst (v := 0) hx hb dX10_isTag_14 (by decide) ?_
    exact b15 0 _ _ _ hf w (lv_sub hl [] rfl)
  refine lv_iload_n hx hb dX10_isTag_0 rfl (lv_at hl 0 rfl) ?_
  refine lv_if_lt (tgt := 14) hx hb dX10_isTag_1 (by decide) (fun c1 => ?_) (fun c1 => ?_)
  · replace hf := it_t c1 hf
    exact b14  _ _ _ hf w (lv_sub hl [] rfl)
  · replace hf := it_f c1 hf
    refine lv_iload_n hx hb dX10_isTag_4 rfl (lv_at hl 0 rfl) ?_
    refine lv_bipush (v := 100) hx hb dX10_isTag_5 (by decide) ?_
    refine lv_icmp_ge (tgt := 14) hx hb dX10_isTag_7 (by decide) (fun c2 => ?_) (fun c2 => ?_)
    · replace hf := it_t c2 hf
      exact b14  _ _ _ hf w (lv_sub hl [] rfl)
    · replace hf := it_f c2 hf
      refine lv_iconst (v := 1) hx hb dX10_isTag_10 (by decide) ?_
      refine lv_goto (tgt := 15) hx hb dX10_isTag_11 (by decide) ?_
      exact b15 1 _ _ _ hf w (lv_sub hl [] rfl)

theorem dX10_exceptionsOf_0 : decode cX10_exceptionsOf 0 = .ok (.aload_n 0, 1) := by decide +kernel
theorem dX10_exceptionsOf_1 : decode cX10_exceptionsOf 1 = .ok (.iload_n 1, 1) := by decide +kernel
theorem dX10_exceptionsOf_2 : decode cX10_exceptionsOf 2 = .ok (.invokevirtual 262, 3) := by decide +kernel
theorem dX10_exceptionsOf_5 : decode cX10_exceptionsOf 5 = .ok (.istore_n 2, 1) := by decide +kernel
theorem dX10_exceptionsOf_6 : decode cX10_exceptionsOf 6 = .ok (.aload_n 0, 1) := by decide +kernel
theorem dX10_exceptionsOf_7 : decode cX10_exceptionsOf 7 = .ok (.iload_n 1, 1) := by decide +kernel
theorem dX10_exceptionsOf_8 : decode cX10_exceptionsOf 8 = .ok (.invokevirtual 256, 3) := by decide +kernel
theorem dX10_exceptionsOf_11 : decode cX10_exceptionsOf 11 = .ok (.istore_n 3, 1) := by decide +kernel
theorem dX10_exceptionsOf_12 : decode cX10_exceptionsOf 12 = .ok (.aload_n 0, 1) := by decide +kernel
theorem dX10_exceptionsOf_13 : decode cX10_exceptionsOf 13 = .ok (.iload_n 1, 1) := by decide +kernel
theorem dX10_exceptionsOf_14 : decode cX10_exceptionsOf 14 = .ok (.invokevirtual 265, 3) := by decide +kernel
theorem dX10_exceptionsOf_17 : decode cX10_exceptionsOf 17 = .ok (.istore 4, 2) := by decide +kernel
theorem dX10_exceptionsOf_19 : decode cX10_exceptionsOf 19 = .ok (.iload_n 2, 1) := by decide +kernel
theorem dX10_exceptionsOf_20 : decode cX10_exceptionsOf 20 = .ok (.ifCond .ge 7, 3) := by decide +kernel
theorem dX10_exceptionsOf_23 : decode cX10_exceptionsOf 23 = .ok (.iconst 1, 1) := by decide +kernel
theorem dX10_exceptionsOf_24 : decode cX10_exceptionsOf 24 = .ok (.goto 4, 3) := by decide +kernel
theorem dX10_exceptionsOf_27 : decode cX10_exceptionsOf 27 = .ok (.iconst 0, 1) := by decide +kernel
theorem dX10_exceptionsOf_28 : decode cX10_exceptionsOf 28 = .ok (.istore 5, 2) := by decide +kernel
theorem dX10_exceptionsOf_30 : decode cX10_exceptionsOf 30 = .ok (.aload_n 0, 1) := by decide +kernel
theorem dX10_exceptionsOf_31 : decode cX10_exceptionsOf 31 = .ok (.iload_n 1, 1) := by decide +kernel
theorem dX10_exceptionsOf_32 : decode cX10_exceptionsOf 32 = .ok (.invokevirtual 253, 3) := by decide +kernel
theorem dX10_exceptionsOf_35 : decode cX10_exceptionsOf 35 = .ok (.ifCond .lt 24, 3) := by decide +kernel
theorem dX10_exceptionsOf_38 : decode cX10_exceptionsOf 38 = .ok (.iload_n 3, 1) := by decide +kernel
theorem dX10_exceptionsOf_39 : decode cX10_exceptionsOf 39 = .ok (.ifCond .le 20, 3) := by decide +kernel
theorem dX10_exceptionsOf_42 : decode cX10_exceptionsOf 42 = .ok (.iload_n 3, 1) := by decide +kernel
theorem dX10_exceptionsOf_43 : decode cX10_exceptionsOf 43 = .ok (.aload_n 0, 1) := by decide +kernel
theorem dX10_exceptionsOf_44 : decode cX10_exceptionsOf 44 = .ok (.getfield 38, 3) := by decide +kernel
theorem dX10_exceptionsOf_47 : decode cX10_exceptionsOf 47 = .ok (.aload_n 0, 1) := by decide +kernel
theorem dX10_exceptionsOf_48 : decode cX10_exceptionsOf 48 = .ok (.iload_n 1, 1) := by decide +kernel
theorem dX10_exceptionsOf_49 : decode cX10_exceptionsOf 49 = .ok (.invokevirtual 253, 3) := by decide +kernel
theorem dX10_exceptionsOf_52 : decode cX10_exceptionsOf 52 = .ok (.iaload, 1) := by decide +kernel
theorem dX10_exceptionsOf_53 : decode cX10_exceptionsOf 53 = .ok (.if_icmp .eq 6, 3) := by decide +kernel
theorem dX10_exceptionsOf_56 : decode cX10_exceptionsOf 56 = .ok (.iinc 5 2, 3) := by decide +kernel
theorem dX10_exceptionsOf_59 : decode cX10_exceptionsOf 59 = .ok (.iload_n 2, 1) := by decide +kernel
theorem dX10_exceptionsOf_60 : decode cX10_exceptionsOf 60 = .ok (.invokestatic 268, 3) := by decide +kernel
theorem dX10_exceptionsOf_63 : decode cX10_exceptionsOf 63 = .ok (.ifCond .eq 30, 3) := by decide +kernel
theorem dX10_exceptionsOf_66 : decode cX10_exceptionsOf 66 = .ok (.iload 4, 2) := by decide +kernel
theorem dX10_exceptionsOf_68 : decode cX10_exceptionsOf 68 = .ok (.ifCond .le 25, 3) := by decide +kernel
theorem dX10_exceptionsOf_71 : decode cX10_exceptionsOf 71 = .ok (.aload_n 0, 1) := by decide +kernel
theorem dX10_exceptionsOf_72 : decode cX10_exceptionsOf 72 = .ok (.iload 4, 2) := by decide +kernel
theorem dX10_exceptionsOf_74 : decode cX10_exceptionsOf 74 = .ok (.invokevirtual 222, 3) := by decide +kernel
theorem dX10_exceptionsOf_77 : decode cX10_exceptionsOf 77 = .ok (.aload_n 0, 1) := by decide +kernel
theorem dX10_exceptionsOf_78 : decode cX10_exceptionsOf 78 = .ok (.aload_n 0, 1) := by decide +kernel
theorem dX10_exceptionsOf_79 : decode cX10_exceptionsOf 79 = .ok (.getfield 41, 3) := by decide +kernel
theorem dX10_exceptionsOf_82 : decode cX10_exceptionsOf 82 = .ok (.iload_n 2, 1) := by decide +kernel
theorem dX10_exceptionsOf_83 : decode cX10_exceptionsOf 83 = .ok (.iaload, 1) := by decide +kernel
theorem dX10_exceptionsOf_84 : decode cX10_exceptionsOf 84 = .ok (.invokevirtual 222, 3) := by decide +kernel
theorem dX10_exceptionsOf_87 : decode cX10_exceptionsOf 87 = .ok (.if_icmp .eq 6, 3) := by decide +kernel
theorem dX10_exceptionsOf_90 : decode cX10_exceptionsOf 90 = .ok (.iinc 5 4, 3) := by decide +kernel
theorem dX10_exceptionsOf_93 : decode cX10_exceptionsOf 93 = .ok (.iload 5, 2) := by decide +kernel
theorem dX10_exceptionsOf_95 : decode cX10_exceptionsOf 95 = .ok (.ireturn, 1) := by decide +kernel
abbrev m_X10_exceptionsOf : MD := (yX10_exceptionsOf, cX10_exceptionsOf, 6, (some .int))
theorem q_1534 : Cond.code yX10_isTag cX10_isTag 1 (some .boolean) ∈ TS := ts_t 1534 (by decide +kernel) (by decide +kernel)
theorem q_1532 : Cond.methodLink RX10 268 yX10_isTag ∈ TS := ts_t 1532 (by decide +kernel) (by decide +kernel)
theorem q_1533 : Cond.static yX10_isTag ∈ TS := ts_t 1533 (by decide +kernel) (by decide +kernel)
theorem k_X10_268 : LkS RX10 268 m_X10_isTag 1 := ⟨q_1532, q_1533, ⟨q_11, q_1534, by decide, by decide, by decide +kernel⟩⟩
theorem q_1527 : Cond.code yX10_vehicleOf cX10_vehicleOf 4 (some .int) ∈ TS := ts_t 1527 (by decide +kernel) (by decide +kernel)
theorem q_1524 : Cond.methodLink RX10 262 yX10_vehicleOf ∈ TS := ts_t 1524 (by decide +kernel) (by decide +kernel)
theorem q_1526 : Cond.instanceMethod yX10_vehicleOf ∈ TS := ts_t 1526 (by decide +kernel) (by decide +kernel)
theorem qs_113 : Cond.selects yX10_vehicleOf.cls yX10_vehicleOf yX10_vehicleOf ∈ TS := ts_s 113 (by decide +kernel) (by decide +kernel)
theorem k_X10_262 : LkV RX10 262 m_X10_vehicleOf 1 := ⟨q_1524, q_1526, qs_113, ⟨q_11, q_1527, by decide, by decide, by decide +kernel⟩⟩
theorem q_1519 : Cond.code yX10_axlesOf cX10_axlesOf 6 (some .int) ∈ TS := ts_t 1519 (by decide +kernel) (by decide +kernel)
theorem q_1516 : Cond.methodLink RX10 265 yX10_axlesOf ∈ TS := ts_t 1516 (by decide +kernel) (by decide +kernel)
theorem q_1518 : Cond.instanceMethod yX10_axlesOf ∈ TS := ts_t 1518 (by decide +kernel) (by decide +kernel)
theorem qs_111 : Cond.selects yX10_axlesOf.cls yX10_axlesOf yX10_axlesOf ∈ TS := ts_s 111 (by decide +kernel) (by decide +kernel)
theorem k_X10_265 : LkV RX10 265 m_X10_axlesOf 1 := ⟨q_1516, q_1518, qs_111, ⟨q_11, q_1519, by decide, by decide, by decide +kernel⟩⟩
abbrev w_X10_exceptionsOf (g : GT) (h0 h1 h2 h3 h4 h5 : Nat) (v0_0 v0_1 v0_2 v0_3 v0_4 v0_5 v0_6 v0_7 v0_8 v0_9 v0_11 v0_12 v0_13 v0_14 v0_15 v0_17 v0_20 v0_22 v0_23 v0_24 v0_25 v0_26 v0_27 v0_28 v0_29 v0_30 v0_31 v0_32 v0_33 v0_34 v0_35 v0_36 v0_37 : Value) (basic1 classAxles2 state3 tagAxles4 tagPlate5 : Nat → Int32) : va_W := [(h0, .inr (10, [v0_0, v0_1, v0_2, v0_3, v0_4, v0_5, v0_6, v0_7, v0_8, v0_9, .ref h1, v0_11, v0_12, v0_13, v0_14, v0_15, .ref h2, v0_17, .ref h5, .ref h4, v0_20, .ref h3, v0_22, v0_23, v0_24, v0_25, v0_26, v0_27, v0_28, v0_29, v0_30, v0_31, v0_32, v0_33, v0_34, v0_35, v0_36, v0_37])), (h1, aI g 7 basic1), (h2, aI g 8 classAxles2), (h3, aI g 2524 state3), (h4, aI g 24 tagAxles4), (h5, aI g 24 tagPlate5)]
def f_X10_exceptionsOf_b93 (F : Nat) (basic1 classAxles2 state3 tagAxles4 tagPlate5 : Nat → Int32) (x5 : Int32) : Option (Int32) :=
  some x5
def f_X10_exceptionsOf_b59 (F : Nat) (basic1 classAxles2 state3 tagAxles4 tagPlate5 : Nat → Int32) (x2 x4 x5 : Int32) : Option (Int32) :=
  bd1 (f_X10_isTag F x2) fun r1 =>
  if r1 = 0 then
    f_X10_exceptionsOf_b93 F basic1 classAxles2 state3 tagAxles4 tagPlate5 x5
  else
    if x4 ≤ 0 then
      f_X10_exceptionsOf_b93 F basic1 classAxles2 state3 tagAxles4 tagPlate5 x5
    else
      bd1 (f_X10_classFor F x4 basic1 classAxles2) fun r5 =>
      rd tagAxles4 24 x2 fun a7 =>
      bd1 (f_X10_classFor F a7 basic1 classAxles2) fun r8 =>
      if r5 = r8 then
        f_X10_exceptionsOf_b93 F basic1 classAxles2 state3 tagAxles4 tagPlate5 x5
      else
        f_X10_exceptionsOf_b93 F basic1 classAxles2 state3 tagAxles4 tagPlate5 (x5 + 4)
def f_X10_exceptionsOf_b28 (F : Nat) (basic1 classAxles2 state3 tagAxles4 tagPlate5 : Nat → Int32) (x1 x2 x3 x4 s0 : Int32) : Option (Int32) :=
  bd1 (f_X10_tagOf F x1 state3) fun r11 =>
  if r11 < 0 then
    f_X10_exceptionsOf_b59 F basic1 classAxles2 state3 tagAxles4 tagPlate5 x2 x4 s0
  else
    if x3 ≤ 0 then
      f_X10_exceptionsOf_b59 F basic1 classAxles2 state3 tagAxles4 tagPlate5 x2 x4 s0
    else
      bd1 (f_X10_tagOf F x1 state3) fun r15 =>
      rd tagPlate5 24 r15 fun a17 =>
      if x3 = a17 then
        f_X10_exceptionsOf_b59 F basic1 classAxles2 state3 tagAxles4 tagPlate5 x2 x4 s0
      else
        f_X10_exceptionsOf_b59 F basic1 classAxles2 state3 tagAxles4 tagPlate5 x2 x4 (s0 + 2)
def f_X10_exceptionsOf (F : Nat) (p1 : Int32) (basic1 classAxles2 state3 tagAxles4 tagPlate5 : Nat → Int32) : Option (Int32) :=
  bd1 (f_X10_vehicleOf F p1 basic1 state3 tagPlate5) fun r19 =>
  bd1 (f_X10_plateOf F p1 basic1 state3) fun r21 =>
  bd1 (f_X10_axlesOf F p1 state3) fun r23 =>
  if 0 ≤ r19 then
    f_X10_exceptionsOf_b28 F basic1 classAxles2 state3 tagAxles4 tagPlate5 p1 r19 r21 r23 0
  else
    f_X10_exceptionsOf_b28 F basic1 classAxles2 state3 tagAxles4 tagPlate5 p1 r19 r21 r23 1
set_option maxHeartbeats 4000000 in
set_option maxRecDepth 100000 in
theorem c_X10_exceptionsOf (l : Launch) (g : GT) (F : Nat) (h0 h1 h2 h3 h4 h5 : Nat) (v0_0 v0_1 v0_2 v0_3 v0_4 v0_5 v0_6 v0_7 v0_8 v0_9 v0_11 v0_12 v0_13 v0_14 v0_15 v0_17 v0_20 v0_22 v0_23 v0_24 v0_25 v0_26 v0_27 v0_28 v0_29 v0_30 v0_31 v0_32 v0_33 v0_34 v0_35 v0_36 v0_37 : Value) (p1 : Int32) (basic1 classAxles2 state3 tagAxles4 tagPlate5 : Nat → Int32) (r : Int32) (sz : Nat) (hf : f_X10_exceptionsOf F p1 basic1 classAxles2 state3 tagAxles4 tagPlate5 = some r) : CI l m_X10_exceptionsOf (rml 3 0 0) g (w_X10_exceptionsOf g h0 h1 h2 h3 h4 h5 v0_0 v0_1 v0_2 v0_3 v0_4 v0_5 v0_6 v0_7 v0_8 v0_9 v0_11 v0_12 v0_13 v0_14 v0_15 v0_17 v0_20 v0_22 v0_23 v0_24 v0_25 v0_26 v0_27 v0_28 v0_29 v0_30 v0_31 v0_32 v0_33 v0_34 v0_35 v0_36 v0_37 basic1 classAxles2 state3 tagAxles4 tagPlate5) (fun _ => w_X10_exceptionsOf g h0 h1 h2 h3 h4 h5 v0_0 v0_1 v0_2 v0_3 v0_4 v0_5 v0_6 v0_7 v0_8 v0_9 v0_11 v0_12 v0_13 v0_14 v0_15 v0_17 v0_20 v0_22 v0_23 v0_24 v0_25 v0_26 v0_27 v0_28 v0_29 v0_30 v0_31 v0_32 v0_33 v0_34 v0_35 v0_36 v0_37 basic1 classAxles2 state3 tagAxles4 tagPlate5) sz [.ref h0, .int p1] r := by
  refine en_i (by decide) (Nat.le_of_ble_eq_true rfl) (fun p e s m args below meth c A ls C w hl => ?_)
  have C : Cx p s m args meth c RX10 m_X10_exceptionsOf g A := C
  have hx := C.1
  have hb : c.code = cX10_exceptionsOf := C.2.1
  have hl : lv_has ls 6 [(0, .ref h0), (1, .int p1)] := hl
  obtain ⟨Q, hQ⟩ : ∃ Q, Q = QI below args s g A (fun _ => w_X10_exceptionsOf g h0 h1 h2 h3 h4 h5 v0_0 v0_1 v0_2 v0_3 v0_4 v0_5 v0_6 v0_7 v0_8 v0_9 v0_11 v0_12 v0_13 v0_14 v0_15 v0_17 v0_20 v0_22 v0_23 v0_24 v0_25 v0_26 v0_27 v0_28 v0_29 v0_30 v0_31 v0_32 v0_33 v0_34 v0_35 v0_36 v0_37 basic1 classAxles2 state3 tagAxles4 tagPlate5) r 0 0 := ⟨_, rfl⟩
  suffices hW : W p l e (rml 3 0 0) s m args below meth c s.heap [] 0 0 Q (F0 m 0 ls []) from (by rw [hQ] at hW; exact hW)
  unfold f_X10_exceptionsOf at hf
  have b93 : ∀ (x5 : Int32) (H : Heap) (locs : List Loc) (ls : Array Slot), f_X10_exceptionsOf_b93 F basic1 classAxles2 state3 tagAxles4 tagPlate5 x5 = some r → Wd g A (w_X10_exceptionsOf g h0 h1 h2 h3 h4 h5 v0_0 v0_1 v0_2 v0_3 v0_4 v0_5 v0_6 v0_7 v0_8 v0_9 v0_11 v0_12 v0_13 v0_14 v0_15 v0_17 v0_20 v0_22 v0_23 v0_24 v0_25 v0_26 v0_27 v0_28 v0_29 v0_30 v0_31 v0_32 v0_33 v0_34 v0_35 v0_36 v0_37 basic1 classAxles2 state3 tagAxles4 tagPlate5) s.heap H locs → lv_has ls 6 [(5, .int x5)] → W p l e (rml 3 0 0) s m args below meth c H locs 0 0 Q (F0 m 93 ls []) := by
    intro x5 H locs ls hf w hl
    unfold f_X10_exceptionsOf_b93 at hf
    refine lv_iload hx hb dX10_exceptionsOf_93 (lv_at hl 0 rfl) ?_
    obtain e1 := tp1 hf
    rw [hQ]
    exact rt_i C w rfl (fun _ => 0) rfl e1 dX10_exceptionsOf_95
  have b59 : ∀ (x2 x4 x5 : Int32) (H : Heap) (locs : List Loc) (ls : Array Slot), f_X10_exceptionsOf_b59 F basic1 classAxles2 state3 tagAxles4 tagPlate5 x2 x4 x5 = some r → Wd g A (w_X10_exceptionsOf g h0 h1 h2 h3 h4 h5 v0_0 v0_1 v0_2 v0_3 v0_4 v0_5 v0_6 v0_7 v0_8 v0_9 v0_11 v0_12 v0_13 v0_14 v0_15 v0_17 v0_20 v0_22 v0_23 v0_24 v0_25 v0_26 v0_27 v0_28 v0_29 v0_30 v0_31 v0_32 v0_33 v0_34 v0_35 v0_36 v0_37 basic1 classAxles2 state3 tagAxles4 tagPlate5) s.heap H locs → lv_has ls 6 [(0, .ref h0), (2, .int x2), (4, .int x4), (5, .int x5)] → W p l e (rml 3 0 0) s m args below meth c H locs 0 0 Q (F0 m 59 ls []) := by
    intro x2 x4 x5 H locs ls hf w hl
    unfold f_X10_exceptionsOf_b59 at hf
    refine lv_iload_n hx hb dX10_exceptionsOf_59 rfl (lv_at hl 1 rfl) ?_
    obtain ⟨r1, hc2, hf⟩ := bd1_some hf
    refine ca_iS C w (wn := fun _ => w_X10_exceptionsOf g h0 h1 h2 h3 h4 h5 v0_0 v0_1 v0_2 v0_3 v0_4 v0_5 v0_6 v0_7 v0_8 v0_9 v0_11 v0_12 v0_13 v0_14 v0_15 v0_17 v0_20 v0_22 v0_23 v0_24 v0_25 v0_26 v0_27 v0_28 v0_29 v0_30 v0_31 v0_32 v0_33 v0_34 v0_35 v0_36 v0_37 basic1 classAxles2 state3 tagAxles4 tagPlate5) (pm_k [false, false, false, false, false, false] rfl rfl (fun _ => Nat.le_of_ble_eq_true rfl) (fun _ => rfl)) (c_X10_isTag l g F x2 r1 _ hc2) k_X10_268 (rm_le (by decide) (by decide)) rfl hl.1 rfl (Nat.le_of_ble_eq_true rfl) dX10_exceptionsOf_60 ⟨Nat.le_of_ble_eq_true rfl, Nat.le_of_ble_eq_true rfl⟩ (cells2 := 0) (slots2 := 0) ⟨rfl, rfl⟩ (fun _ H locs w => ?_)
    refine lv_if_eq (tgt := 93) hx hb dX10_exceptionsOf_63 (by decide) (fun c3 => ?_) (fun c3 => ?_)
    · replace hf := it_t c3 hf
      exact b93 x5 _ _ _ hf w (lv_sub hl [3] rfl)
    · replace hf := it_f c3 hf
      refine lv_iload hx hb dX10_exceptionsOf_66 (lv_at hl 2 rfl) ?_
      refine lv_if_le (tgt := 93) hx hb dX10_exceptionsOf_68 (by decide) (fun c4 => ?_) (fun c4 => ?_)
      · replace hf := it_t c4 hf
        exact b93 x5 _ _ _ hf w (lv_sub hl [3] rfl)
      · replace hf := it_f c4 hf
        refine lv_aload_n hx hb dX10_exceptionsOf_71 rfl (lv_at hl 0 rfl) ?_
        refine lv_iload hx hb dX10_exceptionsOf_72 (lv_at hl 2 rfl) ?_
        obtain ⟨r5, hc6, hf⟩ := bd1_some hf
        refine ca_iV C w (wn := fun _ => w_X10_exceptionsOf g h0 h1 h2 h3 h4 h5 v0_0 v0_1 v0_2 v0_3 v0_4 v0_5 v0_6 v0_7 v0_8 v0_9 v0_11 v0_12 v0_13 v0_14 v0_15 v0_17 v0_20 v0_22 v0_23 v0_24 v0_25 v0_26 v0_27 v0_28 v0_29 v0_30 v0_31 v0_32 v0_33 v0_34 v0_35 v0_36 v0_37 basic1 classAxles2 state3 tagAxles4 tagPlate5) (pm_k [true, true, true, false, false, false] rfl rfl (fun _ => Nat.le_of_ble_eq_true rfl) (fun _ => rfl)) (c_X10_classFor l g F h0 h1 h2 v0_0 v0_1 v0_2 v0_3 v0_4 v0_5 v0_6 v0_7 v0_8 v0_9 v0_11 v0_12 v0_13 v0_14 v0_15 v0_17 (.ref h5) (.ref h4) v0_20 (.ref h3) v0_22 v0_23 v0_24 v0_25 v0_26 v0_27 v0_28 v0_29 v0_30 v0_31 v0_32 v0_33 v0_34 v0_35 v0_36 v0_37 x4 basic1 classAxles2 r5 _ hc6) k_X10_222 (rm_le (by decide) (by decide)) 0 10 rfl rfl rfl rfl hl.1 rfl (Nat.le_of_ble_eq_true rfl) dX10_exceptionsOf_74 ⟨Nat.le_of_ble_eq_true rfl, Nat.le_of_ble_eq_true rfl⟩ (cells2 := 0) (slots2 := 0) ⟨rfl, rfl⟩ (fun _ H locs w => ?_)
        refine lv_aload_n hx hb dX10_exceptionsOf_77 rfl (lv_at hl 0 rfl) ?_
        refine lv_aload_n hx hb dX10_exceptionsOf_78 rfl (lv_at hl 0 rfl) ?_
        refine g_X10_41 C w 0 rfl rfl dX10_exceptionsOf_79 ?_
        refine lv_iload_n hx hb dX10_exceptionsOf_82 rfl (lv_at hl 1 rfl) ?_
        obtain ⟨a7, hia7, haa7, hf⟩ := rd_some hf
        refine ial C w 4 rfl hia7 haa7 dX10_exceptionsOf_83 ?_
        obtain ⟨r8, hc9, hf⟩ := bd1_some hf
        refine ca_iV C w (wn := fun _ => w_X10_exceptionsOf g h0 h1 h2 h3 h4 h5 v0_0 v0_1 v0_2 v0_3 v0_4 v0_5 v0_6 v0_7 v0_8 v0_9 v0_11 v0_12 v0_13 v0_14 v0_15 v0_17 v0_20 v0_22 v0_23 v0_24 v0_25 v0_26 v0_27 v0_28 v0_29 v0_30 v0_31 v0_32 v0_33 v0_34 v0_35 v0_36 v0_37 basic1 classAxles2 state3 tagAxles4 tagPlate5) (pm_k [true, true, true, false, false, false] rfl rfl (fun _ => Nat.le_of_ble_eq_true rfl) (fun _ => rfl)) (c_X10_classFor l g F h0 h1 h2 v0_0 v0_1 v0_2 v0_3 v0_4 v0_5 v0_6 v0_7 v0_8 v0_9 v0_11 v0_12 v0_13 v0_14 v0_15 v0_17 (.ref h5) (.ref h4) v0_20 (.ref h3) v0_22 v0_23 v0_24 v0_25 v0_26 v0_27 v0_28 v0_29 v0_30 v0_31 v0_32 v0_33 v0_34 v0_35 v0_36 v0_37 a7 basic1 classAxles2 r8 _ hc9) k_X10_222 (rm_le (by decide) (by decide)) 0 10 rfl rfl rfl rfl hl.1 rfl (Nat.le_of_ble_eq_true rfl) dX10_exceptionsOf_84 ⟨Nat.le_of_ble_eq_true rfl, Nat.le_of_ble_eq_true rfl⟩ (cells2 := 0) (slots2 := 0) ⟨rfl, rfl⟩ (fun _ H locs w => ?_)
        refine lv_icmp_eq (tgt := 93) hx hb dX10_exceptionsOf_87 (by decide) (fun c10 => ?_) (fun c10 => ?_)
        · replace hf := it_t c10 hf
          exact b93 x5 _ _ _ hf w (lv_sub hl [3] rfl)
        · replace hf := it_f c10 hf
          refine lv_iinc (v := x5 + 4) (lv' := [(5, .int (x5 + 4)), (0, .ref h0), (2, .int x2), (4, .int x4)]) hx hb dX10_exceptionsOf_90 hl (k := 3) rfl rfl (by decide) rfl (fun ls hl => ?_)
          exact b93 (x5 + 4) _ _ _ hf w (lv_sub hl [0] rfl)
  have b28 : ∀ (x1 x2 x3 x4 s0 : Int32) (H : Heap) (locs : List Loc) (ls : Array Slot), f_X10_exceptionsOf_b28 F basic1 classAxles2 state3 tagAxles4 tagPlate5 x1 x2 x3 x4 s0 = some r → Wd g A (w_X10_exceptionsOf g h0 h1 h2 h3 h4 h5 v0_0 v0_1 v0_2 v0_3 v0_4 v0_5 v0_6 v0_7 v0_8 v0_9 v0_11 v0_12 v0_13 v0_14 v0_15 v0_17 v0_20 v0_22 v0_23 v0_24 v0_25 v0_26 v0_27 v0_28 v0_29 v0_30 v0_31 v0_32 v0_33 v0_34 v0_35 v0_36 v0_37 basic1 classAxles2 state3 tagAxles4 tagPlate5) s.heap H locs → lv_has ls 6 [(0, .ref h0), (1, .int x1), (2, .int x2), (3, .int x3), (4, .int x4)] → W p l e (rml 3 0 0) s m args below meth c H locs 0 0 Q (F0 m 28 ls [.int s0]) := by
    intro x1 x2 x3 x4 s0 H locs ls hf w hl
    unfold f_X10_exceptionsOf_b28 at hf
    refine lv_istore (lv' := [(5, .int s0), (0, .ref h0), (1, .int x1), (2, .int x2), (3, .int x3), (4, .int x4)]) hx hb dX10_exceptionsOf_28 hl (by decide) rfl (fun ls hl => ?_)
    refine lv_aload_n hx hb dX10_exceptionsOf_30 rfl (lv_at hl 1 rfl) ?_
    refine lv_iload_n hx hb dX10_exceptionsOf_31 rfl (lv_at hl 2 rfl) ?_
    obtain ⟨r11, hc12, hf⟩ := bd1_some hf
    refine ca_iV C w (wn := fun _ => w_X10_exceptionsOf g h0 h1 h2 h3 h4 h5 v0_0 v0_1 v0_2 v0_3 v0_4 v0_5 v0_6 v0_7 v0_8 v0_9 v0_11 v0_12 v0_13 v0_14 v0_15 v0_17 v0_20 v0_22 v0_23 v0_24 v0_25 v0_26 v0_27 v0_28 v0_29 v0_30 v0_31 v0_32 v0_33 v0_34 v0_35 v0_36 v0_37 basic1 classAxles2 state3 tagAxles4 tagPlate5) (pm_k [true, false, false, true, false, false] rfl rfl (fun _ => Nat.le_of_ble_eq_true rfl) (fun _ => rfl)) (c_X10_tagOf l g F h0 h3 v0_0 v0_1 v0_2 v0_3 v0_4 v0_5 v0_6 v0_7 v0_8 v0_9 (.ref h1) v0_11 v0_12 v0_13 v0_14 v0_15 (.ref h2) v0_17 (.ref h5) (.ref h4) v0_20 v0_22 v0_23 v0_24 v0_25 v0_26 v0_27 v0_28 v0_29 v0_30 v0_31 v0_32 v0_33 v0_34 v0_35 v0_36 v0_37 x1 state3 r11 _ hc12) k_X10_253 (rm_le (by decide) (by decide)) 0 10 rfl rfl rfl rfl hl.1 rfl (Nat.le_of_ble_eq_true rfl) dX10_exceptionsOf_32 ⟨Nat.le_of_ble_eq_true rfl, Nat.le_of_ble_eq_true rfl⟩ (cells2 := 0) (slots2 := 0) ⟨rfl, rfl⟩ (fun _ H locs w => ?_)
    refine lv_if_lt (tgt := 59) hx hb dX10_exceptionsOf_35 (by decide) (fun c13 => ?_) (fun c13 => ?_)
    · replace hf := it_t c13 hf
      exact b59 x2 x4 s0 _ _ _ hf w (lv_sub hl [1, 3, 5, 0] rfl)
    · replace hf := it_f c13 hf
      refine lv_iload_n hx hb dX10_exceptionsOf_38 rfl (lv_at hl 4 rfl) ?_
      refine lv_if_le (tgt := 59) hx hb dX10_exceptionsOf_39 (by decide) (fun c14 => ?_) (fun c14 => ?_)
      · replace hf := it_t c14 hf
        exact b59 x2 x4 s0 _ _ _ hf w (lv_sub hl [1, 3, 5, 0] rfl)
      · replace hf := it_f c14 hf
        refine lv_iload_n hx hb dX10_exceptionsOf_42 rfl (lv_at hl 4 rfl) ?_
        refine lv_aload_n hx hb dX10_exceptionsOf_43 rfl (lv_at hl 1 rfl) ?_
        refine g_X10_38 C w 0 rfl rfl dX10_exceptionsOf_44 ?_
        refine lv_aload_n hx hb dX10_exceptionsOf_47 rfl (lv_at hl 1 rfl) ?_
        refine lv_iload_n hx hb dX10_exceptionsOf_48 rfl (lv_at hl 2 rfl) ?_
        obtain ⟨r15, hc16, hf⟩ := bd1_some hf
        refine ca_iV C w (wn := fun _ => w_X10_exceptionsOf g h0 h1 h2 h3 h4 h5 v0_0 v0_1 v0_2 v0_3 v0_4 v0_5 v0_6 v0_7 v0_8 v0_9 v0_11 v0_12 v0_13 v0_14 v0_15 v0_17 v0_20 v0_22 v0_23 v0_24 v0_25 v0_26 v0_27 v0_28 v0_29 v0_30 v0_31 v0_32 v0_33 v0_34 v0_35 v0_36 v0_37 basic1 classAxles2 state3 tagAxles4 tagPlate5) (pm_k [true, false, false, true, false, false] rfl rfl (fun _ => Nat.le_of_ble_eq_true rfl) (fun _ => rfl)) (c_X10_tagOf l g F h0 h3 v0_0 v0_1 v0_2 v0_3 v0_4 v0_5 v0_6 v0_7 v0_8 v0_9 (.ref h1) v0_11 v0_12 v0_13 v0_14 v0_15 (.ref h2) v0_17 (.ref h5) (.ref h4) v0_20 v0_22 v0_23 v0_24 v0_25 v0_26 v0_27 v0_28 v0_29 v0_30 v0_31 v0_32 v0_33 v0_34 v0_35 v0_36 v0_37 x1 state3 r15 _ hc16) k_X10_253 (rm_le (by decide) (by decide)) 0 10 rfl rfl rfl rfl hl.1 rfl (Nat.le_of_ble_eq_true rfl) dX10_exceptionsOf_49 ⟨Nat.le_of_ble_eq_true rfl, Nat.le_of_ble_eq_true rfl⟩ (cells2 := 0) (slots2 := 0) ⟨rfl, rfl⟩ (fun _ H locs w => ?_)
        obtain ⟨a17, hia17, haa17, hf⟩ := rd_some hf
        refine ial C w 5 rfl hia17 haa17 dX10_exceptionsOf_52 ?_
        refine lv_icmp_eq (tgt := 59) hx hb dX10_exceptionsOf_53 (by decide) (fun c18 => ?_) (fun c18 => ?_)
        · replace hf := it_t c18 hf
          exact b59 x2 x4 s0 _ _ _ hf w (lv_sub hl [1, 3, 5, 0] rfl)
        · replace hf := it_f c18 hf
          refine lv_iinc (v := s0 + 2) (lv' := [(5, .int (s0 + 2)), (0, .ref h0), (1, .int x1), (2, .int x2), (3, .int x3), (4, .int x4)]) hx hb dX10_exceptionsOf_56 hl (k := 0) rfl rfl (by decide) rfl (fun ls hl => ?_)
          exact b59 x2 x4 (s0 + 2) _ _ _ hf w (lv_sub hl [1, 3, 5, 0] rfl)
  refine lv_aload_n hx hb dX10_exceptionsOf_0 rfl (lv_at hl 0 rfl) ?_
  refine lv_iload_n hx hb dX10_exceptionsOf_1 rfl (lv_at hl 1 rfl) ?_
  obtain ⟨r19, hc20, hf⟩ := bd1_some hf
  refine ca_iV C w (wn := fun _ => w_X10_exceptionsOf g h0 h1 h2 h3 h4 h5 v0_0 v0_1 v0_2 v0_3 v0_4 v0_5 v0_6 v0_7 v0_8 v0_9 v0_11 v0_12 v0_13 v0_14 v0_15 v0_17 v0_20 v0_22 v0_23 v0_24 v0_25 v0_26 v0_27 v0_28 v0_29 v0_30 v0_31 v0_32 v0_33 v0_34 v0_35 v0_36 v0_37 basic1 classAxles2 state3 tagAxles4 tagPlate5) (pm_k [true, true, false, true, false, true] rfl rfl (fun _ => Nat.le_of_ble_eq_true rfl) (fun _ => rfl)) (c_X10_vehicleOf l g F h0 h1 h3 h5 v0_0 v0_1 v0_2 v0_3 v0_4 v0_5 v0_6 v0_7 v0_8 v0_9 v0_11 v0_12 v0_13 v0_14 v0_15 (.ref h2) v0_17 (.ref h4) v0_20 v0_22 v0_23 v0_24 v0_25 v0_26 v0_27 v0_28 v0_29 v0_30 v0_31 v0_32 v0_33 v0_34 v0_35 v0_36 v0_37 p1 basic1 state3 tagPlate5 r19 _ hc20) k_X10_262 (rm_le (by decide) (by decide)) 0 10 rfl rfl rfl rfl hl.1 rfl (Nat.le_of_ble_eq_true rfl) dX10_exceptionsOf_2 ⟨Nat.le_of_ble_eq_true rfl, Nat.le_of_ble_eq_true rfl⟩ (cells2 := 0) (slots2 := 0) ⟨rfl, rfl⟩ (fun _ H locs w => ?_)
  refine lv_istore_n (lv' := [(2, .int r19), (0, .ref h0), (1, .int p1)]) hx hb dX10_exceptionsOf_5 rfl hl (by decide) rfl (fun ls hl => ?_)
  refine lv_aload_n hx hb dX10_exceptionsOf_6 rfl (lv_at hl 1 rfl) ?_
  refine lv_iload_n hx hb dX10_exceptionsOf_7 rfl (lv_at hl 2 rfl) ?_
  obtain ⟨r21, hc22, hf⟩ := bd1_some hf
  refine ca_iV C w (wn := fun _ => w_X10_exceptionsOf g h0 h1 h2 h3 h4 h5 v0_0 v0_1 v0_2 v0_3 v0_4 v0_5 v0_6 v0_7 v0_8 v0_9 v0_11 v0_12 v0_13 v0_14 v0_15 v0_17 v0_20 v0_22 v0_23 v0_24 v0_25 v0_26 v0_27 v0_28 v0_29 v0_30 v0_31 v0_32 v0_33 v0_34 v0_35 v0_36 v0_37 basic1 classAxles2 state3 tagAxles4 tagPlate5) (pm_k [true, true, false, true, false, false] rfl rfl (fun _ => Nat.le_of_ble_eq_true rfl) (fun _ => rfl)) (c_X10_plateOf l g F h0 h1 h3 v0_0 v0_1 v0_2 v0_3 v0_4 v0_5 v0_6 v0_7 v0_8 v0_9 v0_11 v0_12 v0_13 v0_14 v0_15 (.ref h2) v0_17 (.ref h5) (.ref h4) v0_20 v0_22 v0_23 v0_24 v0_25 v0_26 v0_27 v0_28 v0_29 v0_30 v0_31 v0_32 v0_33 v0_34 v0_35 v0_36 v0_37 p1 basic1 state3 r21 _ hc22) k_X10_256 (rm_le (by decide) (by decide)) 0 10 rfl rfl rfl rfl hl.1 rfl (Nat.le_of_ble_eq_true rfl) dX10_exceptionsOf_8 ⟨Nat.le_of_ble_eq_true rfl, Nat.le_of_ble_eq_true rfl⟩ (cells2 := 0) (slots2 := 0) ⟨rfl, rfl⟩ (fun _ H locs w => ?_)
  refine lv_istore_n (lv' := [(3, .int r21), (2, .int r19), (0, .ref h0), (1, .int p1)]) hx hb dX10_exceptionsOf_11 rfl hl (by decide) rfl (fun ls hl => ?_)
  refine lv_aload_n hx hb dX10_exceptionsOf_12 rfl (lv_at hl 2 rfl) ?_
  refine lv_iload_n hx hb dX10_exceptionsOf_13 rfl (lv_at hl 3 rfl) ?_
  obtain ⟨r23, hc24, hf⟩ := bd1_some hf
  refine ca_iV C w (wn := fun _ => w_X10_exceptionsOf g h0 h1 h2 h3 h4 h5 v0_0 v0_1 v0_2 v0_3 v0_4 v0_5 v0_6 v0_7 v0_8 v0_9 v0_11 v0_12 v0_13 v0_14 v0_15 v0_17 v0_20 v0_22 v0_23 v0_24 v0_25 v0_26 v0_27 v0_28 v0_29 v0_30 v0_31 v0_32 v0_33 v0_34 v0_35 v0_36 v0_37 basic1 classAxles2 state3 tagAxles4 tagPlate5) (pm_k [true, false, false, true, false, false] rfl rfl (fun _ => Nat.le_of_ble_eq_true rfl) (fun _ => rfl)) (c_X10_axlesOf l g F h0 h3 v0_0 v0_1 v0_2 v0_3 v0_4 v0_5 v0_6 v0_7 v0_8 v0_9 (.ref h1) v0_11 v0_12 v0_13 v0_14 v0_15 (.ref h2) v0_17 (.ref h5) (.ref h4) v0_20 v0_22 v0_23 v0_24 v0_25 v0_26 v0_27 v0_28 v0_29 v0_30 v0_31 v0_32 v0_33 v0_34 v0_35 v0_36 v0_37 p1 state3 r23 _ hc24) k_X10_265 (rm_le (by decide) (by decide)) 0 10 rfl rfl rfl rfl hl.1 rfl (Nat.le_of_ble_eq_true rfl) dX10_exceptionsOf_14 ⟨Nat.le_of_ble_eq_true rfl, Nat.le_of_ble_eq_true rfl⟩ (cells2 := 0) (slots2 := 0) ⟨rfl, rfl⟩ (fun _ H locs w => ?_)
  refine lv_istore (lv' := [(4, .int r23), (3, .int r21), (2, .int r19), (0, .ref h0), (1, .int p1)]) hx hb dX10_exceptionsOf_17 hl (by decide) rfl (fun ls hl => ?_)
  refine lv_iload_n hx hb dX10_exceptionsOf_19 rfl (lv_at hl 2 rfl) ?_
  refine lv_if_ge (tgt := 27) hx hb dX10_exceptionsOf_20 (by decide) (fun c25 => ?_) (fun c25 => ?_)
  · replace hf := it_t c25 hf
    refine lv_iconst (v := 0) hx hb dX10_exceptionsOf_27 (by decide) ?_
    exact b28 p1 r19 r21 r23 0 _ _ _ hf w (lv_sub hl [3, 4, 2, 1, 0] rfl)
  · replace hf := it_f c25 hf
    refine lv_iconst (v := 1) hx hb dX10_exceptionsOf_23 (by decide) ?_
    refine lv_goto (tgt := 28) hx hb dX10_exceptionsOf_24 (by decide) ?_
    exact b28 p1 r19 r21 r23 1 _ _ _ hf w (lv_sub hl [3, 4, 2, 1, 0] rfl)

theorem dX10_passageCount_0 : decode cX10_passageCount 0 = .ok (.aload_n 0, 1) := by decide +kernel
theorem dX10_passageCount_1 : decode cX10_passageCount 1 = .ok (.aload_n 0, 1) := by decide +kernel
theorem dX10_passageCount_2 : decode cX10_passageCount 2 = .ok (.getfield 44, 3) := by decide +kernel
theorem dX10_passageCount_5 : decode cX10_passageCount 5 = .ok (.iconst 0, 1) := by decide +kernel
theorem dX10_passageCount_6 : decode cX10_passageCount 6 = .ok (.iaload, 1) := by decide +kernel
theorem dX10_passageCount_7 : decode cX10_passageCount 7 = .ok (.invokevirtual 215, 3) := by decide +kernel
theorem dX10_passageCount_10 : decode cX10_passageCount 10 = .ok (.ireturn, 1) := by decide +kernel
abbrev m_X10_passageCount : MD := (yX10_passageCount, cX10_passageCount, 1, (some .int))

abbrev w_X10_passageCount (g : GT) (h0 h1 : Nat) (v0_1 v0_2 v0_3 v0_4 v0_5 v0_6 v0_7 v0_8 v0_9 v0_10 v0_11 v0_12 v0_13 v0_14 v0_15 v0_16 v0_17 v0_18 v0_19 v0_20 v0_22 v0_23 v0_24 v0_25 v0_26 v0_27 v0_28 v0_29 v0_30 v0_31 v0_32 v0_33 v0_34 v0_35 v0_36 v0_37 : Value) (thrown0 : Int32) (state1 : Nat → Int32) : va_W := [(h0, .inr (10, [.int thrown0, v0_1, v0_2, v0_3, v0_4, v0_5, v0_6, v0_7, v0_8, v0_9, v0_10, v0_11, v0_12, v0_13, v0_14, v0_15, v0_16, v0_17, v0_18, v0_19, v0_20, .ref h1, v0_22, v0_23, v0_24, v0_25, v0_26, v0_27, v0_28, v0_29, v0_30, v0_31, v0_32, v0_33, v0_34, v0_35, v0_36, v0_37])), (h1, aI g 2524 state1)]
def f_X10_passageCount (F : Nat) (thrown0 : Int32) (state1 : Nat → Int32) : Option (Int32 × Int32) :=
  rd state1 2524 0 fun a1 =>
  bd2 (f_X10_told F a1 thrown0) fun r2 o3 =>
  some (r2, o3)
set_option maxHeartbeats 4000000 in
set_option maxRecDepth 100000 in
theorem c_X10_passageCount (l : Launch) (g : GT) (F : Nat) (h0 h1 : Nat) (v0_1 v0_2 v0_3 v0_4 v0_5 v0_6 v0_7 v0_8 v0_9 v0_10 v0_11 v0_12 v0_13 v0_14 v0_15 v0_16 v0_17 v0_18 v0_19 v0_20 v0_22 v0_23 v0_24 v0_25 v0_26 v0_27 v0_28 v0_29 v0_30 v0_31 v0_32 v0_33 v0_34 v0_35 v0_36 v0_37 : Value) (thrown0 : Int32) (state1 : Nat → Int32) (r o_thrown0 : Int32) (sz : Nat) (hf : f_X10_passageCount F thrown0 state1 = some (r, o_thrown0)) : CI l m_X10_passageCount (rml 1 0 0) g (w_X10_passageCount g h0 h1 v0_1 v0_2 v0_3 v0_4 v0_5 v0_6 v0_7 v0_8 v0_9 v0_10 v0_11 v0_12 v0_13 v0_14 v0_15 v0_16 v0_17 v0_18 v0_19 v0_20 v0_22 v0_23 v0_24 v0_25 v0_26 v0_27 v0_28 v0_29 v0_30 v0_31 v0_32 v0_33 v0_34 v0_35 v0_36 v0_37 thrown0 state1) (fun _ => w_X10_passageCount g h0 h1 v0_1 v0_2 v0_3 v0_4 v0_5 v0_6 v0_7 v0_8 v0_9 v0_10 v0_11 v0_12 v0_13 v0_14 v0_15 v0_16 v0_17 v0_18 v0_19 v0_20 v0_22 v0_23 v0_24 v0_25 v0_26 v0_27 v0_28 v0_29 v0_30 v0_31 v0_32 v0_33 v0_34 v0_35 v0_36 v0_37 o_thrown0 state1) sz [.ref h0] r := by
  refine en_i (by decide) (Nat.le_of_ble_eq_true rfl) (fun p e s m args below meth c A ls C w hl => ?_)
  have C : Cx p s m args meth c RX10 m_X10_passageCount g A := C
  have hx := C.1
  have hb : c.code = cX10_passageCount := C.2.1
  have hl : lv_has ls 1 [(0, .ref h0)] := hl
  obtain ⟨Q, hQ⟩ : ∃ Q, Q = QI below args s g A (fun _ => w_X10_passageCount g h0 h1 v0_1 v0_2 v0_3 v0_4 v0_5 v0_6 v0_7 v0_8 v0_9 v0_10 v0_11 v0_12 v0_13 v0_14 v0_15 v0_16 v0_17 v0_18 v0_19 v0_20 v0_22 v0_23 v0_24 v0_25 v0_26 v0_27 v0_28 v0_29 v0_30 v0_31 v0_32 v0_33 v0_34 v0_35 v0_36 v0_37 o_thrown0 state1) r 0 0 := ⟨_, rfl⟩
  suffices hW : W p l e (rml 1 0 0) s m args below meth c s.heap [] 0 0 Q (F0 m 0 ls []) from (by rw [hQ] at hW; exact hW)
  unfold f_X10_passageCount at hf
  refine lv_aload_n hx hb dX10_passageCount_0 rfl (lv_at hl 0 rfl) ?_
  refine lv_aload_n hx hb dX10_passageCount_1 rfl (lv_at hl 0 rfl) ?_
  refine g_X10_44 C w 0 rfl rfl dX10_passageCount_2 ?_
  refine lv_iconst (v := 0) hx hb dX10_passageCount_5 (by decide) ?_
  obtain ⟨a1, hia1, haa1, hf⟩ := rd_some hf
  refine ial C w 1 rfl hia1 haa1 dX10_passageCount_6 ?_
  obtain ⟨r2, o3, hc4, hf⟩ := bd2_some hf
  refine ca_iV C w (wn := fun _ => w_X10_passageCount g h0 h1 v0_1 v0_2 v0_3 v0_4 v0_5 v0_6 v0_7 v0_8 v0_9 v0_10 v0_11 v0_12 v0_13 v0_14 v0_15 v0_16 v0_17 v0_18 v0_19 v0_20 v0_22 v0_23 v0_24 v0_25 v0_26 v0_27 v0_28 v0_29 v0_30 v0_31 v0_32 v0_33 v0_34 v0_35 v0_36 v0_37 o3 state1) (pm_k [true, false] rfl rfl (fun _ => Nat.le_of_ble_eq_true rfl) (fun _ => rfl)) (c_X10_told l g F h0 v0_1 v0_2 v0_3 v0_4 v0_5 v0_6 v0_7 v0_8 v0_9 v0_10 v0_11 v0_12 v0_13 v0_14 v0_15 v0_16 v0_17 v0_18 v0_19 v0_20 (.ref h1) v0_22 v0_23 v0_24 v0_25 v0_26 v0_27 v0_28 v0_29 v0_30 v0_31 v0_32 v0_33 v0_34 v0_35 v0_36 v0_37 a1 thrown0 r2 o3 _ hc4) k_X10_215 (rm_le (by decide) (by decide)) 0 10 rfl rfl rfl rfl hl.1 rfl (Nat.le_of_ble_eq_true rfl) dX10_passageCount_7 ⟨Nat.le_of_ble_eq_true rfl, Nat.le_of_ble_eq_true rfl⟩ (cells2 := 0) (slots2 := 0) ⟨rfl, rfl⟩ (fun _ H locs w => ?_)
  obtain ⟨e1, e2⟩ := tp2 hf
  rw [hQ]
  exact rt_i C w rfl (fun _ => 0) (by rw [← e2]) e1 dX10_passageCount_10

theorem dX10_lookAt_0 : decode cX10_lookAt 0 = .ok (.aload_n 0, 1) := by decide +kernel
theorem dX10_lookAt_1 : decode cX10_lookAt 1 = .ok (.iconst 0, 1) := by decide +kernel
theorem dX10_lookAt_2 : decode cX10_lookAt 2 = .ok (.putfield 84, 3) := by decide +kernel
theorem dX10_lookAt_5 : decode cX10_lookAt 5 = .ok (.aload_n 0, 1) := by decide +kernel
theorem dX10_lookAt_6 : decode cX10_lookAt 6 = .ok (.iload_n 1, 1) := by decide +kernel
theorem dX10_lookAt_7 : decode cX10_lookAt 7 = .ok (.invokevirtual 271, 3) := by decide +kernel
theorem dX10_lookAt_10 : decode cX10_lookAt 10 = .ok (.ifCond .ne 9, 3) := by decide +kernel
theorem dX10_lookAt_13 : decode cX10_lookAt 13 = .ok (.aload_n 0, 1) := by decide +kernel
theorem dX10_lookAt_14 : decode cX10_lookAt 14 = .ok (.iconst 1, 1) := by decide +kernel
theorem dX10_lookAt_15 : decode cX10_lookAt 15 = .ok (.invokevirtual 202, 3) := by decide +kernel
theorem dX10_lookAt_18 : decode cX10_lookAt 18 = .ok (.ireturn, 1) := by decide +kernel
theorem dX10_lookAt_19 : decode cX10_lookAt 19 = .ok (.iload_n 2, 1) := by decide +kernel
theorem dX10_lookAt_20 : decode cX10_lookAt 20 = .ok (.tableswitch 89 0 6 #[44, 51, 58, 64, 70, 76, 82], 44) := by decide +kernel
theorem dX10_lookAt_64 : decode cX10_lookAt 64 = .ok (.aload_n 0, 1) := by decide +kernel
theorem dX10_lookAt_65 : decode cX10_lookAt 65 = .ok (.iload_n 1, 1) := by decide +kernel
theorem dX10_lookAt_66 : decode cX10_lookAt 66 = .ok (.iconst 0, 1) := by decide +kernel
theorem dX10_lookAt_67 : decode cX10_lookAt 67 = .ok (.invokevirtual 250, 3) := by decide +kernel
theorem dX10_lookAt_70 : decode cX10_lookAt 70 = .ok (.ireturn, 1) := by decide +kernel
theorem dX10_lookAt_71 : decode cX10_lookAt 71 = .ok (.aload_n 0, 1) := by decide +kernel
theorem dX10_lookAt_72 : decode cX10_lookAt 72 = .ok (.iload_n 1, 1) := by decide +kernel
theorem dX10_lookAt_73 : decode cX10_lookAt 73 = .ok (.iconst 2, 1) := by decide +kernel
theorem dX10_lookAt_74 : decode cX10_lookAt 74 = .ok (.invokevirtual 250, 3) := by decide +kernel
theorem dX10_lookAt_77 : decode cX10_lookAt 77 = .ok (.ireturn, 1) := by decide +kernel
theorem dX10_lookAt_78 : decode cX10_lookAt 78 = .ok (.aload_n 0, 1) := by decide +kernel
theorem dX10_lookAt_79 : decode cX10_lookAt 79 = .ok (.iload_n 1, 1) := by decide +kernel
theorem dX10_lookAt_80 : decode cX10_lookAt 80 = .ok (.invokevirtual 253, 3) := by decide +kernel
theorem dX10_lookAt_83 : decode cX10_lookAt 83 = .ok (.ireturn, 1) := by decide +kernel
theorem dX10_lookAt_84 : decode cX10_lookAt 84 = .ok (.aload_n 0, 1) := by decide +kernel
theorem dX10_lookAt_85 : decode cX10_lookAt 85 = .ok (.iload_n 1, 1) := by decide +kernel
theorem dX10_lookAt_86 : decode cX10_lookAt 86 = .ok (.invokevirtual 256, 3) := by decide +kernel
theorem dX10_lookAt_89 : decode cX10_lookAt 89 = .ok (.ireturn, 1) := by decide +kernel
theorem dX10_lookAt_90 : decode cX10_lookAt 90 = .ok (.aload_n 0, 1) := by decide +kernel
theorem dX10_lookAt_91 : decode cX10_lookAt 91 = .ok (.iload_n 1, 1) := by decide +kernel
theorem dX10_lookAt_92 : decode cX10_lookAt 92 = .ok (.invokevirtual 265, 3) := by decide +kernel
theorem dX10_lookAt_95 : decode cX10_lookAt 95 = .ok (.ireturn, 1) := by decide +kernel
theorem dX10_lookAt_96 : decode cX10_lookAt 96 = .ok (.aload_n 0, 1) := by decide +kernel
theorem dX10_lookAt_97 : decode cX10_lookAt 97 = .ok (.iload_n 1, 1) := by decide +kernel
theorem dX10_lookAt_98 : decode cX10_lookAt 98 = .ok (.invokevirtual 274, 3) := by decide +kernel
theorem dX10_lookAt_101 : decode cX10_lookAt 101 = .ok (.ireturn, 1) := by decide +kernel
theorem dX10_lookAt_102 : decode cX10_lookAt 102 = .ok (.aload_n 0, 1) := by decide +kernel
theorem dX10_lookAt_103 : decode cX10_lookAt 103 = .ok (.iload_n 1, 1) := by decide +kernel
theorem dX10_lookAt_104 : decode cX10_lookAt 104 = .ok (.iconst 3, 1) := by decide +kernel
theorem dX10_lookAt_105 : decode cX10_lookAt 105 = .ok (.invokevirtual 250, 3) := by decide +kernel
theorem dX10_lookAt_108 : decode cX10_lookAt 108 = .ok (.ireturn, 1) := by decide +kernel
theorem dX10_lookAt_109 : decode cX10_lookAt 109 = .ok (.aload_n 0, 1) := by decide +kernel
theorem dX10_lookAt_110 : decode cX10_lookAt 110 = .ok (.iload_n 1, 1) := by decide +kernel
theorem dX10_lookAt_111 : decode cX10_lookAt 111 = .ok (.bipush 24, 2) := by decide +kernel
theorem dX10_lookAt_113 : decode cX10_lookAt 113 = .ok (.invokevirtual 250, 3) := by decide +kernel
theorem dX10_lookAt_116 : decode cX10_lookAt 116 = .ok (.iconst 1, 1) := by decide +kernel
theorem dX10_lookAt_117 : decode cX10_lookAt 117 = .ok (.isub, 1) := by decide +kernel
theorem dX10_lookAt_118 : decode cX10_lookAt 118 = .ok (.ireturn, 1) := by decide +kernel
abbrev m_X10_lookAt : MD := (yX10_lookAt, cX10_lookAt, 3, (some .int))
theorem q_1503 : Cond.code yX10_isPassage cX10_isPassage 2 (some .boolean) ∈ TS := ts_t 1503 (by decide +kernel) (by decide +kernel)
theorem q_1500 : Cond.methodLink RX10 271 yX10_isPassage ∈ TS := ts_t 1500 (by decide +kernel) (by decide +kernel)
theorem q_1502 : Cond.instanceMethod yX10_isPassage ∈ TS := ts_t 1502 (by decide +kernel) (by decide +kernel)
theorem qs_107 : Cond.selects yX10_isPassage.cls yX10_isPassage yX10_isPassage ∈ TS := ts_s 107 (by decide +kernel) (by decide +kernel)
theorem k_X10_271 : LkV RX10 271 m_X10_isPassage 1 := ⟨q_1500, q_1502, qs_107, ⟨q_11, q_1503, by decide, by decide, by decide +kernel⟩⟩
theorem q_1523 : Cond.code yX10_exceptionsOf cX10_exceptionsOf 6 (some .int) ∈ TS := ts_t 1523 (by decide +kernel) (by decide +kernel)
theorem q_1520 : Cond.methodLink RX10 274 yX10_exceptionsOf ∈ TS := ts_t 1520 (by decide +kernel) (by decide +kernel)
theorem q_1522 : Cond.instanceMethod yX10_exceptionsOf ∈ TS := ts_t 1522 (by decide +kernel) (by decide +kernel)
theorem qs_112 : Cond.selects yX10_exceptionsOf.cls yX10_exceptionsOf yX10_exceptionsOf ∈ TS := ts_s 112 (by decide +kernel) (by decide +kernel)
theorem k_X10_274 : LkV RX10 274 m_X10_exceptionsOf 1 := ⟨q_1520, q_1522, qs_112, ⟨q_11, q_1523, by decide, by decide, by decide +kernel⟩⟩
abbrev w_X10_lookAt (g : GT) (h0 h1 h2 h3 h4 h5 : Nat) (v0_1 v0_2 v0_3 v0_4 v0_5 v0_6 v0_7 v0_8 v0_9 v0_11 v0_12 v0_13 v0_14 v0_15 v0_17 v0_20 v0_22 v0_23 v0_24 v0_25 v0_26 v0_27 v0_28 v0_29 v0_30 v0_31 v0_32 v0_33 v0_34 v0_35 v0_36 v0_37 : Value) (thrown0 : Int32) (basic1 classAxles2 state3 tagAxles4 tagPlate5 : Nat → Int32) : va_W := [(h0, .inr (10, [.int thrown0, v0_1, v0_2, v0_3, v0_4, v0_5, v0_6, v0_7, v0_8, v0_9, .ref h1, v0_11, v0_12, v0_13, v0_14, v0_15, .ref h2, v0_17, .ref h5, .ref h4, v0_20, .ref h3, v0_22, v0_23, v0_24, v0_25, v0_26, v0_27, v0_28, v0_29, v0_30, v0_31, v0_32, v0_33, v0_34, v0_35, v0_36, v0_37])), (h1, aI g 7 basic1), (h2, aI g 8 classAxles2), (h3, aI g 2524 state3), (h4, aI g 24 tagAxles4), (h5, aI g 24 tagPlate5)]
def f_X10_lookAt (F : Nat) (p1 p2 thrown0 : Int32) (basic1 classAxles2 state3 tagAxles4 tagPlate5 : Nat → Int32) : Option (Int32 × Int32) :=
  bd1 (f_X10_isPassage F p1 state3) fun r1 =>
  if r1 = 0 then
    bd2 (f_X10_fail F 1 0) fun r28 o29 =>
    some (r28, o29)
  else
    if p2 = 0 then
      bd1 (f_X10_ofPassage F p1 0 state3) fun r5 =>
      some (r5, 0)
    else
      if p2 = 1 then
        bd1 (f_X10_ofPassage F p1 2 state3) fun r8 =>
        some (r8, 0)
      else
        if p2 = 2 then
          bd1 (f_X10_tagOf F p1 state3) fun r11 =>
          some (r11, 0)
        else
          if p2 = 3 then
            bd1 (f_X10_plateOf F p1 basic1 state3) fun r14 =>
            some (r14, 0)
          else
            if p2 = 4 then
              bd1 (f_X10_axlesOf F p1 state3) fun r17 =>
              some (r17, 0)
            else
              if p2 = 5 then
                bd1 (f_X10_exceptionsOf F p1 basic1 classAxles2 state3 tagAxles4 tagPlate5) fun r20 =>
                some (r20, 0)
              else
                if p2 = 6 then
                  bd1 (f_X10_ofPassage F p1 3 state3) fun r23 =>
                  some (r23, 0)
                else
                  bd1 (f_X10_ofPassage F p1 24 state3) fun r26 =>
                  some (r26 - 1, 0)
set_option maxHeartbeats 4000000 in
set_option maxRecDepth 100000 in
theorem c_X10_lookAt (l : Launch) (g : GT) (F : Nat) (h0 h1 h2 h3 h4 h5 : Nat) (v0_1 v0_2 v0_3 v0_4 v0_5 v0_6 v0_7 v0_8 v0_9 v0_11 v0_12 v0_13 v0_14 v0_15 v0_17 v0_20 v0_22 v0_23 v0_24 v0_25 v0_26 v0_27 v0_28 v0_29 v0_30 v0_31 v0_32 v0_33 v0_34 v0_35 v0_36 v0_37 : Value) (p1 p2 thrown0 : Int32) (basic1 classAxles2 state3 tagAxles4 tagPlate5 : Nat → Int32) (r o_thrown0 : Int32) (sz : Nat) (hf : f_X10_lookAt F p1 p2 thrown0 basic1 classAxles2 state3 tagAxles4 tagPlate5 = some (r, o_thrown0)) : CI l m_X10_lookAt (rml 4 0 0) g (w_X10_lookAt g h0 h1 h2 h3 h4 h5 v0_1 v0_2 v0_3 v0_4 v0_5 v0_6 v0_7 v0_8 v0_9 v0_11 v0_12 v0_13 v0_14 v0_15 v0_17 v0_20 v0_22 v0_23 v0_24 v0_25 v0_26 v0_27 v0_28 v0_29 v0_30 v0_31 v0_32 v0_33 v0_34 v0_35 v0_36 v0_37 thrown0 basic1 classAxles2 state3 tagAxles4 tagPlate5) (fun _ => w_X10_lookAt g h0 h1 h2 h3 h4 h5 v0_1 v0_2 v0_3 v0_4 v0_5 v0_6 v0_7 v0_8 v0_9 v0_11 v0_12 v0_13 v0_14 v0_15 v0_17 v0_20 v0_22 v0_23 v0_24 v0_25 v0_26 v0_27 v0_28 v0_29 v0_30 v0_31 v0_32 v0_33 v0_34 v0_35 v0_36 v0_37 o_thrown0 basic1 classAxles2 state3 tagAxles4 tagPlate5) sz [.ref h0, .int p1, .int p2] r := by
  refine en_i (by decide) (Nat.le_of_ble_eq_true rfl) (fun p e s m args below meth c A ls C w hl => ?_)
  have C : Cx p s m args meth c RX10 m_X10_lookAt g A := C
  have hx := C.1
  have hb : c.code = cX10_lookAt := C.2.1
  have hl : lv_has ls 3 [(0, .ref h0), (1, .int p1), (2, .int p2)] := hl
  obtain ⟨Q, hQ⟩ : ∃ Q, Q = QI below args s g A (fun _ => w_X10_lookAt g h0 h1 h2 h3 h4 h5 v0_1 v0_2 v0_3 v0_4 v0_5 v0_6 v0_7 v0_8 v0_9 v0_11 v0_12 v0_13 v0_14 v0_15 v0_17 v0_20 v0_22 v0_23 v0_24 v0_25 v0_26 v0_27 v0_28 v0_29 v0_30 v0_31 v0_32 v0_33 v0_34 v0_35 v0_36 v0_37 o_thrown0 basic1 classAxles2 state3 tagAxles4 tagPlate5) r 0 0 := ⟨_, rfl⟩
  suffices hW : W p l e (rml 4 0 0) s m args below meth c s.heap [] 0 0 Q (F0 m 0 ls []) from (by rw [hQ] at hW; exact hW)
  unfold f_X10_lookAt at hf
  refine lv_aload_n hx hb dX10_lookAt_0 rfl (lv_at hl 0 rfl) ?_
  refine lv_iconst (v := 0) hx hb dX10_lookAt_1 (by decide) ?_
  refine p_X10_84 C w 0 rfl (Nat.le_of_ble_eq_true rfl) (ws2 := w_X10_lookAt g h0 h1 h2 h3 h4 h5 v0_1 v0_2 v0_3 v0_4 v0_5 v0_6 v0_7 v0_8 v0_9 v0_11 v0_12 v0_13 v0_14 v0_15 v0_17 v0_20 v0_22 v0_23 v0_24 v0_25 v0_26 v0_27 v0_28 v0_29 v0_30 v0_31 v0_32 v0_33 v0_34 v0_35 v0_36 v0_37 0 basic1 classAxles2 state3 tagAxles4 tagPlate5) rfl dX10_lookAt_2 (fun H locs w => ?_)
  refine lv_aload_n hx hb dX10_lookAt_5 rfl (lv_at hl 0 rfl) ?_
  refine lv_iload_n hx hb dX10_lookAt_6 rfl (lv_at hl 1 rfl) ?_
  obtain ⟨r1, hc2, hf⟩ := bd1_some hf
  refine ca_iV C w (wn := fun _ => w_X10_lookAt g h0 h1 h2 h3 h4 h5 v0_1 v0_2 v0_3 v0_4 v0_5 v0_6 v0_7 v0_8 v0_9 v0_11 v0_12 v0_13 v0_14 v0_15 v0_17 v0_20 v0_22 v0_23 v0_24 v0_25 v0_26 v0_27 v0_28 v0_29 v0_30 v0_31 v0_32 v0_33 v0_34 v0_35 v0_36 v0_37 0 basic1 classAxles2 state3 tagAxles4 tagPlate5) (pm_k [true, false, false, true, false, false] rfl rfl (fun _ => Nat.le_of_ble_eq_true rfl) (fun _ => rfl)) (c_X10_isPassage l g F h0 h3 (.int 0) v0_1 v0_2 v0_3 v0_4 v0_5 v0_6 v0_7 v0_8 v0_9 (.ref h1) v0_11 v0_12 v0_13 v0_14 v0_15 (.ref h2) v0_17 (.ref h5) (.ref h4) v0_20 v0_22 v0_23 v0_24 v0_25 v0_26 v0_27 v0_28 v0_29 v0_30 v0_31 v0_32 v0_33 v0_34 v0_35 v0_36 v0_37 p1 state3 r1 _ hc2) k_X10_271 (rm_le (by decide) (by decide)) 0 10 rfl rfl rfl rfl hl.1 rfl (Nat.le_of_ble_eq_true rfl) dX10_lookAt_7 ⟨Nat.le_of_ble_eq_true rfl, Nat.le_of_ble_eq_true rfl⟩ (cells2 := 0) (slots2 := 0) ⟨rfl, rfl⟩ (fun _ H locs w => ?_)
  refine lv_if_ne (tgt := 19) hx hb dX10_lookAt_10 (by decide) (fun c3 => ?_) (fun c3 => ?_)
  · replace hf := it_f c3 hf
    refine lv_iload_n hx hb dX10_lookAt_19 rfl (lv_at hl 2 rfl) ?_
    by_cases c4 : p2 = 0
    · replace hf := it_t c4 hf
      refine sw_in c4 (lv_tableIn (off := 44) (tgt := 64) hx hb dX10_lookAt_20 (by decide) (by decide) (by decide) (by decide) ?_)
      refine lv_aload_n hx hb dX10_lookAt_64 rfl (lv_at hl 0 rfl) ?_
      refine lv_iload_n hx hb dX10_lookAt_65 rfl (lv_at hl 1 rfl) ?_
      refine lv_iconst (v := 0) hx hb dX10_lookAt_66 (by decide) ?_
      obtain ⟨r5, hc6, hf⟩ := bd1_some hf
      refine ca_iV C w (wn := fun _ => w_X10_lookAt g h0 h1 h2 h3 h4 h5 v0_1 v0_2 v0_3 v0_4 v0_5 v0_6 v0_7 v0_8 v0_9 v0_11 v0_12 v0_13 v0_14 v0_15 v0_17 v0_20 v0_22 v0_23 v0_24 v0_25 v0_26 v0_27 v0_28 v0_29 v0_30 v0_31 v0_32 v0_33 v0_34 v0_35 v0_36 v0_37 0 basic1 classAxles2 state3 tagAxles4 tagPlate5) (pm_k [true, false, false, true, false, false] rfl rfl (fun _ => Nat.le_of_ble_eq_true rfl) (fun _ => rfl)) (c_X10_ofPassage l g F h0 h3 (.int 0) v0_1 v0_2 v0_3 v0_4 v0_5 v0_6 v0_7 v0_8 v0_9 (.ref h1) v0_11 v0_12 v0_13 v0_14 v0_15 (.ref h2) v0_17 (.ref h5) (.ref h4) v0_20 v0_22 v0_23 v0_24 v0_25 v0_26 v0_27 v0_28 v0_29 v0_30 v0_31 v0_32 v0_33 v0_34 v0_35 v0_36 v0_37 p1 0 state3 r5 _ hc6) k_X10_250 (rm_le (by decide) (by decide)) 0 10 rfl rfl rfl rfl hl.1 rfl (Nat.le_of_ble_eq_true rfl) dX10_lookAt_67 ⟨Nat.le_of_ble_eq_true rfl, Nat.le_of_ble_eq_true rfl⟩ (cells2 := 0) (slots2 := 0) ⟨rfl, rfl⟩ (fun _ H locs w => ?_)
      obtain ⟨e1, e2⟩ := tp2 hf
      rw [hQ]
      exact rt_i C w rfl (fun _ => 0) (by rw [← e2]) e1 dX10_lookAt_70
    · replace hf := it_f c4 hf
      by_cases c7 : p2 = 1
      · replace hf := it_t c7 hf
        refine sw_in c7 (lv_tableIn (off := 51) (tgt := 71) hx hb dX10_lookAt_20 (by decide) (by decide) (by decide) (by decide) ?_)
        refine lv_aload_n hx hb dX10_lookAt_71 rfl (lv_at hl 0 rfl) ?_
        refine lv_iload_n hx hb dX10_lookAt_72 rfl (lv_at hl 1 rfl) ?_
        refine lv_iconst (v := 2) hx hb dX10_lookAt_73 (by decide) ?_
        obtain ⟨r8, hc9, hf⟩ := bd1_some hf
        refine ca_iV C w (wn := fun _ => w_X10_lookAt g h0 h1 h2 h3 h4 h5 v0_1 v0_2 v0_3 v0_4 v0_5 v0_6 v0_7 v0_8 v0_9 v0_11 v0_12 v0_13 v0_14 v0_15 v0_17 v0_20 v0_22 v0_23 v0_24 v0_25 v0_26 v0_27 v0_28 v0_29 v0_30 v0_31 v0_32 v0_33 v0_34 v0_35 v0_36 v0_37 0 basic1 classAxles2 state3 tagAxles4 tagPlate5) (pm_k [true, false, false, true, false, false] rfl rfl (fun _ => Nat.le_of_ble_eq_true rfl) (fun _ => rfl)) (c_X10_ofPassage l g F h0 h3 (.int 0) v0_1 v0_2 v0_3 v0_4 v0_5 v0_6 v0_7 v0_8 v0_9 (.ref h1) v0_11 v0_12 v0_13 v0_14 v0_15 (.ref h2) v0_17 (.ref h5) (.ref h4) v0_20 v0_22 v0_23 v0_24 v0_25 v0_26 v0_27 v0_28 v0_29 v0_30 v0_31 v0_32 v0_33 v0_34 v0_35 v0_36 v0_37 p1 2 state3 r8 _ hc9) k_X10_250 (rm_le (by decide) (by decide)) 0 10 rfl rfl rfl rfl hl.1 rfl (Nat.le_of_ble_eq_true rfl) dX10_lookAt_74 ⟨Nat.le_of_ble_eq_true rfl, Nat.le_of_ble_eq_true rfl⟩ (cells2 := 0) (slots2 := 0) ⟨rfl, rfl⟩ (fun _ H locs w => ?_)
        obtain ⟨e1, e2⟩ := tp2 hf
        rw [hQ]
        exact rt_i C w rfl (fun _ => 0) (by rw [← e2]) e1 dX10_lookAt_77
      · replace hf := it_f c7 hf
        by_cases c10 : p2 = 2
        · replace hf := it_t c10 hf
          refine sw_in c10 (lv_tableIn (off := 58) (tgt := 78) hx hb dX10_lookAt_20 (by decide) (by decide) (by decide) (by decide) ?_)
          refine lv_aload_n hx hb dX10_lookAt_78 rfl (lv_at hl 0 rfl) ?_
          refine lv_iload_n hx hb dX10_lookAt_79 rfl (lv_at hl 1 rfl) ?_
          obtain ⟨r11, hc12, hf⟩ := bd1_some hf
          refine ca_iV C w (wn := fun _ => w_X10_lookAt g h0 h1 h2 h3 h4 h5 v0_1 v0_2 v0_3 v0_4 v0_5 v0_6 v0_7 v0_8 v0_9 v0_11 v0_12 v0_13 v0_14 v0_15 v0_17 v0_20 v0_22 v0_23 v0_24 v0_25 v0_26 v0_27 v0_28 v0_29 v0_30 v0_31 v0_32 v0_33 v0_34 v0_35 v0_36 v0_37 0 basic1 classAxles2 state3 tagAxles4 tagPlate5) (pm_k [true, false, false, true, false, false] rfl rfl (fun _ => Nat.le_of_ble_eq_true rfl) (fun _ => rfl)) (c_X10_tagOf l g F h0 h3 (.int 0) v0_1 v0_2 v0_3 v0_4 v0_5 v0_6 v0_7 v0_8 v0_9 (.ref h1) v0_11 v0_12 v0_13 v0_14 v0_15 (.ref h2) v0_17 (.ref h5) (.ref h4) v0_20 v0_22 v0_23 v0_24 v0_25 v0_26 v0_27 v0_28 v0_29 v0_30 v0_31 v0_32 v0_33 v0_34 v0_35 v0_36 v0_37 p1 state3 r11 _ hc12) k_X10_253 (rm_le (by decide) (by decide)) 0 10 rfl rfl rfl rfl hl.1 rfl (Nat.le_of_ble_eq_true rfl) dX10_lookAt_80 ⟨Nat.le_of_ble_eq_true rfl, Nat.le_of_ble_eq_true rfl⟩ (cells2 := 0) (slots2 := 0) ⟨rfl, rfl⟩ (fun _ H locs w => ?_)
          obtain ⟨e1, e2⟩ := tp2 hf
          rw [hQ]
          exact rt_i C w rfl (fun _ => 0) (by rw [← e2]) e1 dX10_lookAt_83
        · replace hf := it_f c10 hf
          by_cases c13 : p2 = 3
          · replace hf := it_t c13 hf
            refine sw_in c13 (lv_tableIn (off := 64) (tgt := 84) hx hb dX10_lookAt_20 (by decide) (by decide) (by decide) (by decide) ?_)
            refine lv_aload_n hx hb dX10_lookAt_84 rfl (lv_at hl 0 rfl) ?_
            refine lv_iload_n hx hb dX10_lookAt_85 rfl (lv_at hl 1 rfl) ?_
            obtain ⟨r14, hc15, hf⟩ := bd1_some hf
            refine ca_iV C w (wn := fun _ => w_X10_lookAt g h0 h1 h2 h3 h4 h5 v0_1 v0_2 v0_3 v0_4 v0_5 v0_6 v0_7 v0_8 v0_9 v0_11 v0_12 v0_13 v0_14 v0_15 v0_17 v0_20 v0_22 v0_23 v0_24 v0_25 v0_26 v0_27 v0_28 v0_29 v0_30 v0_31 v0_32 v0_33 v0_34 v0_35 v0_36 v0_37 0 basic1 classAxles2 state3 tagAxles4 tagPlate5) (pm_k [true, true, false, true, false, false] rfl rfl (fun _ => Nat.le_of_ble_eq_true rfl) (fun _ => rfl)) (c_X10_plateOf l g F h0 h1 h3 (.int 0) v0_1 v0_2 v0_3 v0_4 v0_5 v0_6 v0_7 v0_8 v0_9 v0_11 v0_12 v0_13 v0_14 v0_15 (.ref h2) v0_17 (.ref h5) (.ref h4) v0_20 v0_22 v0_23 v0_24 v0_25 v0_26 v0_27 v0_28 v0_29 v0_30 v0_31 v0_32 v0_33 v0_34 v0_35 v0_36 v0_37 p1 basic1 state3 r14 _ hc15) k_X10_256 (rm_le (by decide) (by decide)) 0 10 rfl rfl rfl rfl hl.1 rfl (Nat.le_of_ble_eq_true rfl) dX10_lookAt_86 ⟨Nat.le_of_ble_eq_true rfl, Nat.le_of_ble_eq_true rfl⟩ (cells2 := 0) (slots2 := 0) ⟨rfl, rfl⟩ (fun _ H locs w => ?_)
            obtain ⟨e1, e2⟩ := tp2 hf
            rw [hQ]
            exact rt_i C w rfl (fun _ => 0) (by rw [← e2]) e1 dX10_lookAt_89
          · replace hf := it_f c13 hf
            by_cases c16 : p2 = 4
            · replace hf := it_t c16 hf
              refine sw_in c16 (lv_tableIn (off := 70) (tgt := 90) hx hb dX10_lookAt_20 (by decide) (by decide) (by decide) (by decide) ?_)
              refine lv_aload_n hx hb dX10_lookAt_90 rfl (lv_at hl 0 rfl) ?_
              refine lv_iload_n hx hb dX10_lookAt_91 rfl (lv_at hl 1 rfl) ?_
              obtain ⟨r17, hc18, hf⟩ := bd1_some hf
              refine ca_iV C w (wn := fun _ => w_X10_lookAt g h0 h1 h2 h3 h4 h5 v0_1 v0_2 v0_3 v0_4 v0_5 v0_6 v0_7 v0_8 v0_9 v0_11 v0_12 v0_13 v0_14 v0_15 v0_17 v0_20 v0_22 v0_23 v0_24 v0_25 v0_26 v0_27 v0_28 v0_29 v0_30 v0_31 v0_32 v0_33 v0_34 v0_35 v0_36 v0_37 0 basic1 classAxles2 state3 tagAxles4 tagPlate5) (pm_k [true, false, false, true, false, false] rfl rfl (fun _ => Nat.le_of_ble_eq_true rfl) (fun _ => rfl)) (c_X10_axlesOf l g F h0 h3 (.int 0) v0_1 v0_2 v0_3 v0_4 v0_5 v0_6 v0_7 v0_8 v0_9 (.ref h1) v0_11 v0_12 v0_13 v0_14 v0_15 (.ref h2) v0_17 (.ref h5) (.ref h4) v0_20 v0_22 v0_23 v0_24 v0_25 v0_26 v0_27 v0_28 v0_29 v0_30 v0_31 v0_32 v0_33 v0_34 v0_35 v0_36 v0_37 p1 state3 r17 _ hc18) k_X10_265 (rm_le (by decide) (by decide)) 0 10 rfl rfl rfl rfl hl.1 rfl (Nat.le_of_ble_eq_true rfl) dX10_lookAt_92 ⟨Nat.le_of_ble_eq_true rfl, Nat.le_of_ble_eq_true rfl⟩ (cells2 := 0) (slots2 := 0) ⟨rfl, rfl⟩ (fun _ H locs w => ?_)
              obtain ⟨e1, e2⟩ := tp2 hf
              rw [hQ]
              exact rt_i C w rfl (fun _ => 0) (by rw [← e2]) e1 dX10_lookAt_95
            · replace hf := it_f c16 hf
              by_cases c19 : p2 = 5
              · replace hf := it_t c19 hf
                refine sw_in c19 (lv_tableIn (off := 76) (tgt := 96) hx hb dX10_lookAt_20 (by decide) (by decide) (by decide) (by decide) ?_)
                refine lv_aload_n hx hb dX10_lookAt_96 rfl (lv_at hl 0 rfl) ?_
                refine lv_iload_n hx hb dX10_lookAt_97 rfl (lv_at hl 1 rfl) ?_
                obtain ⟨r20, hc21, hf⟩ := bd1_some hf
                refine ca_iV C w (wn := fun _ => w_X10_lookAt g h0 h1 h2 h3 h4 h5 v0_1 v0_2 v0_3 v0_4 v0_5 v0_6 v0_7 v0_8 v0_9 v0_11 v0_12 v0_13 v0_14 v0_15 v0_17 v0_20 v0_22 v0_23 v0_24 v0_25 v0_26 v0_27 v0_28 v0_29 v0_30 v0_31 v0_32 v0_33 v0_34 v0_35 v0_36 v0_37 0 basic1 classAxles2 state3 tagAxles4 tagPlate5) (pm_k [true, true, true, true, true, true] rfl rfl (fun _ => Nat.le_of_ble_eq_true rfl) (fun _ => rfl)) (c_X10_exceptionsOf l g F h0 h1 h2 h3 h4 h5 (.int 0) v0_1 v0_2 v0_3 v0_4 v0_5 v0_6 v0_7 v0_8 v0_9 v0_11 v0_12 v0_13 v0_14 v0_15 v0_17 v0_20 v0_22 v0_23 v0_24 v0_25 v0_26 v0_27 v0_28 v0_29 v0_30 v0_31 v0_32 v0_33 v0_34 v0_35 v0_36 v0_37 p1 basic1 classAxles2 state3 tagAxles4 tagPlate5 r20 _ hc21) k_X10_274 (rm_le (by decide) (by decide)) 0 10 rfl rfl rfl rfl hl.1 rfl (Nat.le_of_ble_eq_true rfl) dX10_lookAt_98 ⟨Nat.le_of_ble_eq_true rfl, Nat.le_of_ble_eq_true rfl⟩ (cells2 := 0) (slots2 := 0) ⟨rfl, rfl⟩ (fun _ H locs w => ?_)
                obtain ⟨e1, e2⟩ := tp2 hf
                rw [hQ]
                exact rt_i C w rfl (fun _ => 0) (by rw [← e2]) e1 dX10_lookAt_101
              · replace hf := it_f c19 hf
                by_cases c22 : p2 = 6
                · replace hf := it_t c22 hf
                  refine sw_in c22 (lv_tableIn (off := 82) (tgt := 102) hx hb dX10_lookAt_20 (by decide) (by decide) (by decide) (by decide) ?_)
                  refine lv_aload_n hx hb dX10_lookAt_102 rfl (lv_at hl 0 rfl) ?_
                  refine lv_iload_n hx hb dX10_lookAt_103 rfl (lv_at hl 1 rfl) ?_
                  refine lv_iconst (v := 3) hx hb dX10_lookAt_104 (by decide) ?_
                  obtain ⟨r23, hc24, hf⟩ := bd1_some hf
                  refine ca_iV C w (wn := fun _ => w_X10_lookAt g h0 h1 h2 h3 h4 h5 v0_1 v0_2 v0_3 v0_4 v0_5 v0_6 v0_7 v0_8 v0_9 v0_11 v0_12 v0_13 v0_14 v0_15 v0_17 v0_20 v0_22 v0_23 v0_24 v0_25 v0_26 v0_27 v0_28 v0_29 v0_30 v0_31 v0_32 v0_33 v0_34 v0_35 v0_36 v0_37 0 basic1 classAxles2 state3 tagAxles4 tagPlate5) (pm_k [true, false, false, true, false, false] rfl rfl (fun _ => Nat.le_of_ble_eq_true rfl) (fun _ => rfl)) (c_X10_ofPassage l g F h0 h3 (.int 0) v0_1 v0_2 v0_3 v0_4 v0_5 v0_6 v0_7 v0_8 v0_9 (.ref h1) v0_11 v0_12 v0_13 v0_14 v0_15 (.ref h2) v0_17 (.ref h5) (.ref h4) v0_20 v0_22 v0_23 v0_24 v0_25 v0_26 v0_27 v0_28 v0_29 v0_30 v0_31 v0_32 v0_33 v0_34 v0_35 v0_36 v0_37 p1 3 state3 r23 _ hc24) k_X10_250 (rm_le (by decide) (by decide)) 0 10 rfl rfl rfl rfl hl.1 rfl (Nat.le_of_ble_eq_true rfl) dX10_lookAt_105 ⟨Nat.le_of_ble_eq_true rfl, Nat.le_of_ble_eq_true rfl⟩ (cells2 := 0) (slots2 := 0) ⟨rfl, rfl⟩ (fun _ H locs w => ?_)
                  obtain ⟨e1, e2⟩ := tp2 hf
                  rw [hQ]
                  exact rt_i C w rfl (fun _ => 0) (by rw [← e2]) e1 dX10_lookAt_108
                · replace hf := it_f c22 hf
                  refine lv_tableOut (tgt := 109) hx hb dX10_lookAt_20 (sw_out7 c4 c7 c10 c13 c16 c19 c22) (by decide) ?_
                  refine lv_aload_n hx hb dX10_lookAt_109 rfl (lv_at hl 0 rfl) ?_
                  refine lv_iload_n hx hb dX10_lookAt_110 rfl (lv_at hl 1 rfl) ?_
                  refine lv_bipush (v := 24) hx hb dX10_lookAt_111 (by decide) ?_
                  obtain ⟨r26, hc27, hf⟩ := bd1_some hf
                  refine ca_iV C w (wn := fun _ => w_X10_lookAt g h0 h1 h2 h3 h4 h5 v0_1 v0_2 v0_3 v0_4 v0_5 v0_6 v0_7 v0_8 v0_9 v0_11 v0_12 v0_13 v0_14 v0_15 v0_17 v0_20 v0_22 v0_23 v0_24 v0_25 v0_26 v0_27 v0_28 v0_29 v0_30 v0_31 v0_32 v0_33 v0_34 v0_35 v0_36 v0_37 0 basic1 classAxles2 state3 tagAxles4 tagPlate5) (pm_k [true, false, false, true, false, false] rfl rfl (fun _ => Nat.le_of_ble_eq_true rfl) (fun _ => rfl)) (c_X10_ofPassage l g F h0 h3 (.int 0) v0_1 v0_2 v0_3 v0_4 v0_5 v0_6 v0_7 v0_8 v0_9 (.ref h1) v0_11 v0_12 v0_13 v0_14 v0_15 (.ref h2) v0_17 (.ref h5) (.ref h4) v0_20 v0_22 v0_23 v0_24 v0_25 v0_26 v0_27 v0_28 v0_29 v0_30 v0_31 v0_32 v0_33 v0_34 v0_35 v0_36 v0_37 p1 24 state3 r26 _ hc27) k_X10_250 (rm_le (by decide) (by decide)) 0 10 rfl rfl rfl rfl hl.1 rfl (Nat.le_of_ble_eq_true rfl) dX10_lookAt_113 ⟨Nat.le_of_ble_eq_true rfl, Nat.le_of_ble_eq_true rfl⟩ (cells2 := 0) (slots2 := 0) ⟨rfl, rfl⟩ (fun _ H locs w => ?_)
                  refine lv_iconst (v := 1) hx hb dX10_lookAt_116 (by decide) ?_
                  refine lv_isub hx hb dX10_lookAt_117 ?_
                  obtain ⟨e1, e2⟩ := tp2 hf
                  rw [hQ]
                  exact rt_i C w rfl (fun _ => 0) (by rw [← e2]) e1 dX10_lookAt_118
  · replace hf := it_t c3 hf
    refine lv_aload_n hx hb dX10_lookAt_13 rfl (lv_at hl 0 rfl) ?_
    refine lv_iconst (v := 1) hx hb dX10_lookAt_14 (by decide) ?_
    obtain ⟨r28, o29, hc30, hf⟩ := bd2_some hf
    refine ca_iV C w (wn := fun _ => w_X10_lookAt g h0 h1 h2 h3 h4 h5 v0_1 v0_2 v0_3 v0_4 v0_5 v0_6 v0_7 v0_8 v0_9 v0_11 v0_12 v0_13 v0_14 v0_15 v0_17 v0_20 v0_22 v0_23 v0_24 v0_25 v0_26 v0_27 v0_28 v0_29 v0_30 v0_31 v0_32 v0_33 v0_34 v0_35 v0_36 v0_37 o29 basic1 classAxles2 state3 tagAxles4 tagPlate5) (pm_k [true, false, false, false, false, false] rfl rfl (fun _ => Nat.le_of_ble_eq_true rfl) (fun _ => rfl)) (c_X10_fail l g F h0 v0_1 v0_2 v0_3 v0_4 v0_5 v0_6 v0_7 v0_8 v0_9 (.ref h1) v0_11 v0_12 v0_13 v0_14 v0_15 (.ref h2) v0_17 (.ref h5) (.ref h4) v0_20 (.ref h3) v0_22 v0_23 v0_24 v0_25 v0_26 v0_27 v0_28 v0_29 v0_30 v0_31 v0_32 v0_33 v0_34 v0_35 v0_36 v0_37 1 0 r28 o29 _ hc30) k_X10_202 (rm_le (by decide) (by decide)) 0 10 rfl rfl rfl rfl hl.1 rfl (Nat.le_of_ble_eq_true rfl) dX10_lookAt_15 ⟨Nat.le_of_ble_eq_true rfl, Nat.le_of_ble_eq_true rfl⟩ (cells2 := 0) (slots2 := 0) ⟨rfl, rfl⟩ (fun _ H locs w => ?_)
    obtain ⟨e1, e2⟩ := tp2 hf
    rw [hQ]
    exact rt_i C w rfl (fun _ => 0) (by rw [← e2]) e1 dX10_lookAt_18

theorem dX10_passageGantry_0 : decode cX10_passageGantry 0 = .ok (.aload_n 0, 1) := by decide +kernel
theorem dX10_passageGantry_1 : decode cX10_passageGantry 1 = .ok (.iload_n 1, 1) := by decide +kernel
theorem dX10_passageGantry_2 : decode cX10_passageGantry 2 = .ok (.iconst 0, 1) := by decide +kernel
theorem dX10_passageGantry_3 : decode cX10_passageGantry 3 = .ok (.invokevirtual 277, 3) := by decide +kernel
theorem dX10_passageGantry_6 : decode cX10_passageGantry 6 = .ok (.ireturn, 1) := by decide +kernel
abbrev m_X10_passageGantry : MD := (yX10_passageGantry, cX10_passageGantry, 2, (some .int))
theorem q_1499 : Cond.code yX10_lookAt cX10_lookAt 3 (some .int) ∈ TS := ts_t 1499 (by decide +kernel) (by decide +kernel)
theorem q_1496 : Cond.methodLink RX10 277 yX10_lookAt ∈ TS := ts_t 1496 (by decide +kernel) (by decide +kernel)
theorem q_1498 : Cond.instanceMethod yX10_lookAt ∈ TS := ts_t 1498 (by decide +kernel) (by decide +kernel)
theorem qs_106 : Cond.selects yX10_lookAt.cls yX10_lookAt yX10_lookAt ∈ TS := ts_s 106 (by decide +kernel) (by decide +kernel)
theorem k_X10_277 : LkV RX10 277 m_X10_lookAt 2 := ⟨q_1496, q_1498, qs_106, ⟨q_11, q_1499, by decide, by decide, by decide +kernel⟩⟩
abbrev w_X10_passageGantry (g : GT) (h0 h1 h2 h3 h4 h5 : Nat) (v0_1 v0_2 v0_3 v0_4 v0_5 v0_6 v0_7 v0_8 v0_9 v0_11 v0_12 v0_13 v0_14 v0_15 v0_17 v0_20 v0_22 v0_23 v0_24 v0_25 v0_26 v0_27 v0_28 v0_29 v0_30 v0_31 v0_32 v0_33 v0_34 v0_35 v0_36 v0_37 : Value) (thrown0 : Int32) (basic1 classAxles2 state3 tagAxles4 tagPlate5 : Nat → Int32) : va_W := [(h0, .inr (10, [.int thrown0, v0_1, v0_2, v0_3, v0_4, v0_5, v0_6, v0_7, v0_8, v0_9, .ref h1, v0_11, v0_12, v0_13, v0_14, v0_15, .ref h2, v0_17, .ref h5, .ref h4, v0_20, .ref h3, v0_22, v0_23, v0_24, v0_25, v0_26, v0_27, v0_28, v0_29, v0_30, v0_31, v0_32, v0_33, v0_34, v0_35, v0_36, v0_37])), (h1, aI g 7 basic1), (h2, aI g 8 classAxles2), (h3, aI g 2524 state3), (h4, aI g 24 tagAxles4), (h5, aI g 24 tagPlate5)]
def f_X10_passageGantry (F : Nat) (p1 thrown0 : Int32) (basic1 classAxles2 state3 tagAxles4 tagPlate5 : Nat → Int32) : Option (Int32 × Int32) :=
  bd2 (f_X10_lookAt F p1 0 thrown0 basic1 classAxles2 state3 tagAxles4 tagPlate5) fun r1 o2 =>
  some (r1, o2)
set_option maxHeartbeats 4000000 in
set_option maxRecDepth 100000 in
theorem c_X10_passageGantry (l : Launch) (g : GT) (F : Nat) (h0 h1 h2 h3 h4 h5 : Nat) (v0_1 v0_2 v0_3 v0_4 v0_5 v0_6 v0_7 v0_8 v0_9 v0_11 v0_12 v0_13 v0_14 v0_15 v0_17 v0_20 v0_22 v0_23 v0_24 v0_25 v0_26 v0_27 v0_28 v0_29 v0_30 v0_31 v0_32 v0_33 v0_34 v0_35 v0_36 v0_37 : Value) (p1 thrown0 : Int32) (basic1 classAxles2 state3 tagAxles4 tagPlate5 : Nat → Int32) (r o_thrown0 : Int32) (sz : Nat) (hf : f_X10_passageGantry F p1 thrown0 basic1 classAxles2 state3 tagAxles4 tagPlate5 = some (r, o_thrown0)) : CI l m_X10_passageGantry (rml 5 0 0) g (w_X10_passageGantry g h0 h1 h2 h3 h4 h5 v0_1 v0_2 v0_3 v0_4 v0_5 v0_6 v0_7 v0_8 v0_9 v0_11 v0_12 v0_13 v0_14 v0_15 v0_17 v0_20 v0_22 v0_23 v0_24 v0_25 v0_26 v0_27 v0_28 v0_29 v0_30 v0_31 v0_32 v0_33 v0_34 v0_35 v0_36 v0_37 thrown0 basic1 classAxles2 state3 tagAxles4 tagPlate5) (fun _ => w_X10_passageGantry g h0 h1 h2 h3 h4 h5 v0_1 v0_2 v0_3 v0_4 v0_5 v0_6 v0_7 v0_8 v0_9 v0_11 v0_12 v0_13 v0_14 v0_15 v0_17 v0_20 v0_22 v0_23 v0_24 v0_25 v0_26 v0_27 v0_28 v0_29 v0_30 v0_31 v0_32 v0_33 v0_34 v0_35 v0_36 v0_37 o_thrown0 basic1 classAxles2 state3 tagAxles4 tagPlate5) sz [.ref h0, .int p1] r := by
  refine en_i (by decide) (Nat.le_of_ble_eq_true rfl) (fun p e s m args below meth c A ls C w hl => ?_)
  have C : Cx p s m args meth c RX10 m_X10_passageGantry g A := C
  have hx := C.1
  have hb : c.code = cX10_passageGantry := C.2.1
  have hl : lv_has ls 2 [(0, .ref h0), (1, .int p1)] := hl
  obtain ⟨Q, hQ⟩ : ∃ Q, Q = QI below args s g A (fun _ => w_X10_passageGantry g h0 h1 h2 h3 h4 h5 v0_1 v0_2 v0_3 v0_4 v0_5 v0_6 v0_7 v0_8 v0_9 v0_11 v0_12 v0_13 v0_14 v0_15 v0_17 v0_20 v0_22 v0_23 v0_24 v0_25 v0_26 v0_27 v0_28 v0_29 v0_30 v0_31 v0_32 v0_33 v0_34 v0_35 v0_36 v0_37 o_thrown0 basic1 classAxles2 state3 tagAxles4 tagPlate5) r 0 0 := ⟨_, rfl⟩
  suffices hW : W p l e (rml 5 0 0) s m args below meth c s.heap [] 0 0 Q (F0 m 0 ls []) from (by rw [hQ] at hW; exact hW)
  unfold f_X10_passageGantry at hf
  refine lv_aload_n hx hb dX10_passageGantry_0 rfl (lv_at hl 0 rfl) ?_
  refine lv_iload_n hx hb dX10_passageGantry_1 rfl (lv_at hl 1 rfl) ?_
  refine lv_iconst (v := 0) hx hb dX10_passageGantry_2 (by decide) ?_
  obtain ⟨r1, o2, hc3, hf⟩ := bd2_some hf
  refine ca_iV C w (wn := fun _ => w_X10_passageGantry g h0 h1 h2 h3 h4 h5 v0_1 v0_2 v0_3 v0_4 v0_5 v0_6 v0_7 v0_8 v0_9 v0_11 v0_12 v0_13 v0_14 v0_15 v0_17 v0_20 v0_22 v0_23 v0_24 v0_25 v0_26 v0_27 v0_28 v0_29 v0_30 v0_31 v0_32 v0_33 v0_34 v0_35 v0_36 v0_37 o2 basic1 classAxles2 state3 tagAxles4 tagPlate5) (pm_k [true, true, true, true, true, true] rfl rfl (fun _ => Nat.le_of_ble_eq_true rfl) (fun _ => rfl)) (c_X10_lookAt l g F h0 h1 h2 h3 h4 h5 v0_1 v0_2 v0_3 v0_4 v0_5 v0_6 v0_7 v0_8 v0_9 v0_11 v0_12 v0_13 v0_14 v0_15 v0_17 v0_20 v0_22 v0_23 v0_24 v0_25 v0_26 v0_27 v0_28 v0_29 v0_30 v0_31 v0_32 v0_33 v0_34 v0_35 v0_36 v0_37 p1 0 thrown0 basic1 classAxles2 state3 tagAxles4 tagPlate5 r1 o2 _ hc3) k_X10_277 (rm_le (by decide) (by decide)) 0 10 rfl rfl rfl rfl hl.1 rfl (Nat.le_of_ble_eq_true rfl) dX10_passageGantry_3 ⟨Nat.le_of_ble_eq_true rfl, Nat.le_of_ble_eq_true rfl⟩ (cells2 := 0) (slots2 := 0) ⟨rfl, rfl⟩ (fun _ H locs w => ?_)
  obtain ⟨e1, e2⟩ := tp2 hf
  rw [hQ]
  exact rt_i C w rfl (fun _ => 0) (by rw [← e2]) e1 dX10_passageGantry_6
