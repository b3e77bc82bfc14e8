theorem dX10_once_0 : decode cX10_once 0 = .ok (.aload_n 0, 1) := by decide +kernel
theorem dX10_once_1 : decode cX10_once 1 = .ok (.aload_n 0, 1) := by decide +kernel
theorem dX10_once_2 : decode cX10_once 2 = .ok (.getfield 165, 3) := by decide +kernel
theorem dX10_once_5 : decode cX10_once 5 = .ok (.iload_n 1, 1) := by decide +kernel
theorem dX10_once_6 : decode cX10_once 6 = .ok (.ishr, 1) := by decide +kernel
theorem dX10_once_7 : decode cX10_once 7 = .ok (.iconst 1, 1) := by decide +kernel
theorem dX10_once_8 : decode cX10_once 8 = .ok (.iand, 1) := by decide +kernel
theorem dX10_once_9 : decode cX10_once 9 = .ok (.ifCond .ne 7, 3) := by decide +kernel
theorem dX10_once_12 : decode cX10_once 12 = .ok (.iconst 1, 1) := by decide +kernel
theorem dX10_once_13 : decode cX10_once 13 = .ok (.goto 4, 3) := by decide +kernel
theorem dX10_once_16 : decode cX10_once 16 = .ok (.iconst 0, 1) := by decide +kernel
theorem dX10_once_17 : decode cX10_once 17 = .ok (.iconst 3, 1) := by decide +kernel
theorem dX10_once_18 : decode cX10_once 18 = .ok (.invokevirtual 141, 3) := by decide +kernel
theorem dX10_once_21 : decode cX10_once 21 = .ok (.pop, 1) := by decide +kernel
theorem dX10_once_22 : decode cX10_once 22 = .ok (.aload_n 0, 1) := by decide +kernel
theorem dX10_once_23 : decode cX10_once 23 = .ok (.dup, 1) := by decide +kernel
theorem dX10_once_24 : decode cX10_once 24 = .ok (.getfield 165, 3) := by decide +kernel
theorem dX10_once_27 : decode cX10_once 27 = .ok (.iconst 1, 1) := by decide +kernel
theorem dX10_once_28 : decode cX10_once 28 = .ok (.iload_n 1, 1) := by decide +kernel
theorem dX10_once_29 : decode cX10_once 29 = .ok (.ishl, 1) := by decide +kernel
theorem dX10_once_30 : decode cX10_once 30 = .ok (.ior, 1) := by decide +kernel
theorem dX10_once_31 : decode cX10_once 31 = .ok (.putfield 165, 3) := by decide +kernel
theorem dX10_once_34 : decode cX10_once 34 = .ok (.aload_n 0, 1) := by decide +kernel
theorem dX10_once_35 : decode cX10_once 35 = .ok (.getfield 126, 3) := by decide +kernel
theorem dX10_once_38 : decode cX10_once 38 = .ok (.ifCond .eq 5, 3) := by decide +kernel
theorem dX10_once_41 : decode cX10_once 41 = .ok (.iconst 0, 1) := by decide +kernel
theorem dX10_once_42 : decode cX10_once 42 = .ok (.ireturn, 1) := by decide +kernel
theorem dX10_once_43 : decode cX10_once 43 = .ok (.aload_n 0, 1) := by decide +kernel
theorem dX10_once_44 : decode cX10_once 44 = .ok (.invokevirtual 145, 3) := by decide +kernel
theorem dX10_once_47 : decode cX10_once 47 = .ok (.aload_n 0, 1) := by decide +kernel
theorem dX10_once_48 : decode cX10_once 48 = .ok (.iload_n 2, 1) := by decide +kernel
theorem dX10_once_49 : decode cX10_once 49 = .ok (.iload_n 3, 1) := by decide +kernel
theorem dX10_once_50 : decode cX10_once 50 = .ok (.invokevirtual 152, 3) := by decide +kernel
theorem dX10_once_53 : decode cX10_once 53 = .ok (.ireturn, 1) := by decide +kernel
abbrev m_X10_once : MD := (yX10_once, cX10_once, 4, (some .int))
theorem g_X10_165 {p : Program} {l : Launch} {e : Env} {R : Room} {s : State} {m : MethodId} {args : Array Value} {below : List Frame} {meth : Method} {c : Code} {H : Heap} {locs : List Loc} {cells slots : Nat} {Q : State → Prop} {d : MD} {g : GT} {A : Nat → Prop} {ws : va_W} {pc : Nat} {ls : Array Slot} {rest : List Value} (C : Cx p s m args meth c RX10 d g A) (w : Wd g A ws s.heap H locs) (q0 : Nat) {a : Nat} {fs : List Value} {v : Value} (he : ws[q0]? = some (a, .inr (10, fs))) (hv : fs[20]? = some v) (hd : decode d.2.1 pc = .ok (.getfield 165, 3)) (kk : W p l e R s m args below meth c H locs cells slots Q (F0 m (pc + 3) ls (v :: rest))) : W p l e R s m args below meth c H locs cells slots Q (F0 m pc ls (.ref a :: rest)) := fg C w inX10s (ref := RX10) rfl 20 (by decide) (ts_t (w := Cond.fieldLink RX10 165 RX10 (TX10 20).2.1 (TX10 20).2.2.1) 1242 (by decide +kernel) (by decide +kernel)) rfl q0 he hv hd kk
theorem p_X10_165 {p : Program} {l : Launch} {e : Env} {R : Room} {s : State} {m : MethodId} {args : Array Value} {below : List Frame} {meth : Method} {c : Code} {H : Heap} {locs : List Loc} {cells slots : Nat} {Q : State → Prop} {d : MD} {g : GT} {A : Nat → Prop} {ws : va_W} {pc : Nat} {ls : Array Slot} {rest : List Value} (C : Cx p s m args meth c RX10 d g A) (w : Wd g A ws s.heap H locs) (q0 : Nat) {a : Nat} {fs : List Value} {x : Int32} (he : ws[q0]? = some (a, .inr (10, fs))) (hlt : 20 < fs.length) {ws2 : va_W} (h2 : ws.set q0 (a, .inr (10, fs.set 20 (.int x))) = ws2) (hd : decode d.2.1 pc = .ok (.putfield 165, 3)) (kk : ∀ (H1 : Heap) (locs1 : List Loc), Wd g A ws2 s.heap H1 locs1 → W p l e R s m args below meth c H1 locs1 cells slots Q (F0 m (pc + 3) ls rest)) : W p l e R s m args below meth c H locs cells slots Q (F0 m pc ls (.int x :: .ref a :: rest)) := fp C w inX10s tyX10_ok nmX10 (ref := RX10) rfl 20 (by decide) (ts_t (w := Cond.fieldLink RX10 165 RX10 (TX10 20).2.1 (TX10 20).2.2.1) 1242 (by decide +kernel) (by decide +kernel)) rfl rfl q0 he rfl rfl hlt h2 hd kk
abbrev w_X10_once (g : GT) (h0 h1 : Nat) (v0_0 v0_2 v0_10 v0_11 v0_12 v0_13 v0_14 v0_15 v0_16 v0_17 v0_18 v0_19 v0_21 v0_22 v0_23 v0_24 v0_25 v0_26 v0_27 v0_28 v0_29 v0_30 v0_31 v0_32 v0_33 v0_34 v0_35 v0_36 v0_37 : Value) (textLength0 tokenStart0 tokenEnd0 token0 value0 error0 errorOffset0 given0 : Int32) (buffer1 : Nat → Int32) : va_W := [(h0, .inr (10, [v0_0, .ref h1, v0_2, .int textLength0, .int tokenStart0, .int tokenEnd0, .int token0, .int value0, .int error0, .int errorOffset0, v0_10, v0_11, v0_12, v0_13, v0_14, v0_15, v0_16, v0_17, v0_18, v0_19, .int given0, v0_21, v0_22, v0_23, v0_24, v0_25, v0_26, v0_27, v0_28, v0_29, v0_30, v0_31, v0_32, v0_33, v0_34, v0_35, v0_36, v0_37])), (h1, aB g 900 buffer1)]
def f_X10_once_b17 (F : Nat) (textLength0 : Int32) (buffer1 : Nat → Int32) (x1 x2 x3 s0 tokenStart0 tokenEnd0 token0 value0 error0 errorOffset0 given0 : Int32) : Option (Int32 × Int32 × Int32 × Int32 × Int32 × Int32 × Int32 × Int32) :=
  bd3 (f_X10_must F s0 3 tokenStart0 error0 errorOffset0) fun r1 o2 o3 =>
  if o2 = 0 then
    bd4 (f_X10_nextToken F textLength0 tokenStart0 tokenEnd0 token0 value0 buffer1) fun o6 o7 o8 o9 =>
    bd7 (f_X10_number F x2 x3 textLength0 o6 o7 o8 o9 o2 o3 buffer1) fun r11 o12 o13 o14 o15 o16 o17 =>
    some (r11, o12, o13, o14, o15, o16, o17, given0 ||| (1 <<< (x1 &&& 31)))
  else
    some (0, tokenStart0, tokenEnd0, token0, value0, o2, o3, given0 ||| (1 <<< (x1 &&& 31)))
def f_X10_once (F : Nat) (p1 p2 p3 textLength0 tokenStart0 tokenEnd0 token0 value0 error0 errorOffset0 given0 : Int32) (buffer1 : Nat → Int32) : Option (Int32 × Int32 × Int32 × Int32 × Int32 × Int32 × Int32 × Int32) :=
  if ((given0 >>> (p1 &&& 31)) &&& 1) = 0 then
    f_X10_once_b17 F textLength0 buffer1 p1 p2 p3 1 tokenStart0 tokenEnd0 token0 value0 error0 errorOffset0 given0
  else
    f_X10_once_b17 F textLength0 buffer1 p1 p2 p3 0 tokenStart0 tokenEnd0 token0 value0 error0 errorOffset0 given0
set_option maxHeartbeats 4000000 in
set_option maxRecDepth 100000 in
theorem c_X10_once (l : Launch) (g : GT) (F : Nat) (h0 h1 : Nat) (v0_0 v0_2 v0_10 v0_11 v0_12 v0_13 v0_14 v0_15 v0_16 v0_17 v0_18 v0_19 v0_21 v0_22 v0_23 v0_24 v0_25 v0_26 v0_27 v0_28 v0_29 v0_30 v0_31 v0_32 v0_33 v0_34 v0_35 v0_36 v0_37 : Value) (p1 p2 p3 textLength0 tokenStart0 tokenEnd0 token0 value0 error0 errorOffset0 given0 : Int32) (buffer1 : Nat → Int32) (r o_tokenStart0 o_tokenEnd0 o_token0 o_value0 o_error0 o_errorOffset0 o_given0 : Int32) (sz : Nat) (hf : f_X10_once F p1 p2 p3 textLength0 tokenStart0 tokenEnd0 token0 value0 error0 errorOffset0 given0 buffer1 = some (r, o_tokenStart0, o_tokenEnd0, o_token0, o_value0, o_error0, o_errorOffset0, o_given0)) : CI l m_X10_once (rml 3 0 0) g (w_X10_once g h0 h1 v0_0 v0_2 v0_10 v0_11 v0_12 v0_13 v0_14 v0_15 v0_16 v0_17 v0_18 v0_19 v0_21 v0_22 v0_23 v0_24 v0_25 v0_26 v0_27 v0_28 v0_29 v0_30 v0_31 v0_32 v0_33 v0_34 v0_35 v0_36 v0_37 textLength0 tokenStart0 tokenEnd0 token0 value0 error0 errorOffset0 given0 buffer1) (fun _ => w_X10_once g h0 h1 v0_0 v0_2 v0_10 v0_11 v0_12 v0_13 v0_14 v0_15 v0_16 v0_17 v0_18 v0_19 v0_21 v0_22 v0_23 v0_24 v0_25 v0_26 v0_27 v0_28 v0_29 v0_30 v0_31 v0_32 v0_33 v0_34 v0_35 v0_36 v0_37 textLength0 o_tokenStart0 o_tokenEnd0 o_token0 o_value0 o_error0 o_errorOffset0 o_given0 buffer1) sz [.ref h0, .int p1, .int p2, .int p3] r := by
  refine en_i (by decide) (Nat.le_of_ble_eq_true rfl) (fun p e s m args below meth c A ls C w hl => ?_)
  have C : Cx p s m args meth c RX10 m_X10_once g A := C
  have hx := C.1
  have hb : c.code = cX10_once := C.2.1
  have hl : lv_has ls 4 [(0, .ref h0), (1, .int p1), (2, .int p2), (3, .int p3)] := hl
  obtain ⟨Q, hQ⟩ : ∃ Q, Q = QI below args s g A (fun _ => w_X10_once g h0 h1 v0_0 v0_2 v0_10 v0_11 v0_12 v0_13 v0_14 v0_15 v0_16 v0_17 v0_18 v0_19 v0_21 v0_22 v0_23 v0_24 v0_25 v0_26 v0_27 v0_28 v0_29 v0_30 v0_31 v0_32 v0_33 v0_34 v0_35 v0_36 v0_37 textLength0 o_tokenStart0 o_tokenEnd0 o_token0 o_value0 o_error0 o_errorOffset0 o_given0 buffer1) r 0 0 := ⟨_, rfl⟩
  suffices hW : W p l e (rml 3 0 0) s m args below meth c s.heap [] 0 0 Q (F0 m 0 ls []) from (by rw [hQ] at hW; exact hW)
  unfold f_X10_once at hf
  have b17 : ∀ (x1 x2 x3 s0 tokenStart0 tokenEnd0 token0 value0 error0 errorOffset0 given0 : Int32) (H : Heap) (locs : List Loc) (ls : Array Slot), f_X10_once_b17 F textLength0 buffer1 x1 x2 x3 s0 tokenStart0 tokenEnd0 token0 value0 error0 errorOffset0 given0 = some (r, o_tokenStart0, o_tokenEnd0, o_token0, o_value0, o_error0, o_errorOffset0, o_given0) → Wd g A (w_X10_once g h0 h1 v0_0 v0_2 v0_10 v0_11 v0_12 v0_13 v0_14 v0_15 v0_16 v0_17 v0_18 v0_19 v0_21 v0_22 v0_23 v0_24 v0_25 v0_26 v0_27 v0_28 v0_29 v0_30 v0_31 v0_32 v0_33 v0_34 v0_35 v0_36 v0_37 textLength0 tokenStart0 tokenEnd0 token0 value0 error0 errorOffset0 given0 buffer1) s.heap H locs → lv_has ls 4 [(0, .ref h0), (1, .int x1), (2, .int x2), (3, .int x3)] → W p l e (rml 3 0 0) s m args below meth c H locs 0 0 Q (F0 m 17 ls [.int s0, .ref h0]) := by
    intro x1 x2 x3 s0 tokenStart0 tokenEnd0 token0 value0 error0 errorOffset0 given0 H locs ls hf w hl
    unfold f_X10_once_b17 at hf
    refine lv_iconst (v := 3) hx hb dX10_once_17 (by decide) ?_
    obtain ⟨r1, o2, o3, hc4, hf⟩ := bd3_some hf
    refine ca_iV C w (wn := fun _ => w_X10_once g h0 h1 v0_0 v0_2 v0_10 v0_11 v0_12 v0_13 v0_14 v0_15 v0_16 v0_17 v0_18 v0_19 v0_21 v0_22 v0_23 v0_24 v0_25 v0_26 v0_27 v0_28 v0_29 v0_30 v0_31 v0_32 v0_33 v0_34 v0_35 v0_36 v0_37 textLength0 tokenStart0 tokenEnd0 token0 value0 o2 o3 given0 buffer1) (pm_k [true, false] rfl rfl (fun _ => Nat.le_of_ble_eq_true rfl) (fun _ => rfl)) (c_X10_must l g F h0 v0_0 (.ref h1) v0_2 (.int textLength0) (.int tokenEnd0) (.int token0) (.int value0) v0_10 v0_11 v0_12 v0_13 v0_14 v0_15 v0_16 v0_17 v0_18 v0_19 (.int given0) v0_21 v0_22 v0_23 v0_24 v0_25 v0_26 v0_27 v0_28 v0_29 v0_30 v0_31 v0_32 v0_33 v0_34 v0_35 v0_36 v0_37 s0 3 tokenStart0 error0 errorOffset0 r1 o2 o3 _ hc4) k_X10_141 (rm_le (by decide) (by decide)) 0 10 rfl rfl rfl rfl hl.1 rfl (Nat.le_of_ble_eq_true rfl) dX10_once_18 ⟨Nat.le_of_ble_eq_true rfl, Nat.le_of_ble_eq_true rfl⟩ (cells2 := 0) (slots2 := 0) ⟨rfl, rfl⟩ (fun _ H locs w => ?_)
    refine lv_pop hx hb dX10_once_21 rfl ?_
    refine lv_aload_n hx hb dX10_once_22 rfl (lv_at hl 0 rfl) ?_
    refine lv_dup hx hb dX10_once_23 rfl ?_
    refine g_X10_165 C w 0 rfl rfl dX10_once_24 ?_
    refine lv_iconst (v := 1) hx hb dX10_once_27 (by decide) ?_
    refine lv_iload_n hx hb dX10_once_28 rfl (lv_at hl 1 rfl) ?_
    refine lv_ishl hx hb dX10_once_29 ?_
    refine lv_ior hx hb dX10_once_30 ?_
    refine p_X10_165 C w 0 rfl (Nat.le_of_ble_eq_true rfl) (ws2 := w_X10_once g h0 h1 v0_0 v0_2 v0_10 v0_11 v0_12 v0_13 v0_14 v0_15 v0_16 v0_17 v0_18 v0_19 v0_21 v0_22 v0_23 v0_24 v0_25 v0_26 v0_27 v0_28 v0_29 v0_30 v0_31 v0_32 v0_33 v0_34 v0_35 v0_36 v0_37 textLength0 tokenStart0 tokenEnd0 token0 value0 o2 o3 (given0 ||| (1 <<< (x1 &&& 31))) buffer1) rfl dX10_once_31 (fun H locs w => ?_)
    refine lv_aload_n hx hb dX10_once_34 rfl (lv_at hl 0 rfl) ?_
    refine g_X10_126 C w 0 rfl rfl dX10_once_35 ?_
    refine lv_if_eq (tgt := 43) hx hb dX10_once_38 (by decide) (fun c5 => ?_) (fun c5 => ?_)
    · replace hf := it_t c5 hf
      refine lv_aload_n hx hb dX10_once_43 rfl (lv_at hl 0 rfl) ?_
      obtain ⟨o6, o7, o8, o9, hc10, hf⟩ := bd4_some hf
      refine ca_vV C w (wn := fun _ => w_X10_once g h0 h1 v0_0 v0_2 v0_10 v0_11 v0_12 v0_13 v0_14 v0_15 v0_16 v0_17 v0_18 v0_19 v0_21 v0_22 v0_23 v0_24 v0_25 v0_26 v0_27 v0_28 v0_29 v0_30 v0_31 v0_32 v0_33 v0_34 v0_35 v0_36 v0_37 textLength0 o6 o7 o8 o9 o2 o3 (given0 ||| (1 <<< (x1 &&& 31))) buffer1) (pm_k [true, true] rfl rfl (fun _ => Nat.le_of_ble_eq_true rfl) (fun _ => rfl)) (c_X10_nextToken l g F h0 h1 v0_0 v0_2 (.int o2) (.int o3) v0_10 v0_11 v0_12 v0_13 v0_14 v0_15 v0_16 v0_17 v0_18 v0_19 (.int (given0 ||| (1 <<< (x1 &&& 31)))) v0_21 v0_22 v0_23 v0_24 v0_25 v0_26 v0_27 v0_28 v0_29 v0_30 v0_31 v0_32 v0_33 v0_34 v0_35 v0_36 v0_37 textLength0 tokenStart0 tokenEnd0 token0 value0 buffer1 o6 o7 o8 o9 _ hc10) k_X10_145 (rm_le (by decide) (by decide)) 0 10 rfl rfl rfl rfl hl.1 rfl (Nat.le_of_ble_eq_true rfl) dX10_once_44 ⟨Nat.le_of_ble_eq_true rfl, Nat.le_of_ble_eq_true rfl⟩ (cells2 := 0) (slots2 := 0) ⟨rfl, rfl⟩ (fun _ H locs w => ?_)
      refine lv_aload_n hx hb dX10_once_47 rfl (lv_at hl 0 rfl) ?_
      refine lv_iload_n hx hb dX10_once_48 rfl (lv_at hl 2 rfl) ?_
      refine lv_iload_n hx hb dX10_once_49 rfl (lv_at hl 3 rfl) ?_
      obtain ⟨r11, o12, o13, o14, o15, o16, o17, hc18, hf⟩ := bd7_some hf
      refine ca_iV C w (wn := fun _ => w_X10_once g h0 h1 v0_0 v0_2 v0_10 v0_11 v0_12 v0_13 v0_14 v0_15 v0_16 v0_17 v0_18 v0_19 v0_21 v0_22 v0_23 v0_24 v0_25 v0_26 v0_27 v0_28 v0_29 v0_30 v0_31 v0_32 v0_33 v0_34 v0_35 v0_36 v0_37 textLength0 o12 o13 o14 o15 o16 o17 (given0 ||| (1 <<< (x1 &&& 31))) buffer1) (pm_k [true, true] rfl rfl (fun _ => Nat.le_of_ble_eq_true rfl) (fun _ => rfl)) (c_X10_number l g F h0 h1 v0_0 v0_2 v0_10 v0_11 v0_12 v0_13 v0_14 v0_15 v0_16 v0_17 v0_18 v0_19 (.int (given0 ||| (1 <<< (x1 &&& 31)))) v0_21 v0_22 v0_23 v0_24 v0_25 v0_26 v0_27 v0_28 v0_29 v0_30 v0_31 v0_32 v0_33 v0_34 v0_35 v0_36 v0_37 x2 x3 textLength0 o6 o7 o8 o9 o2 o3 buffer1 r11 o12 o13 o14 o15 o16 o17 _ hc18) k_X10_152 (rm_le (by decide) (by decide)) 0 10 rfl rfl rfl rfl hl.1 rfl (Nat.le_of_ble_eq_true rfl) dX10_once_50 ⟨Nat.le_of_ble_eq_true rfl, Nat.le_of_ble_eq_true rfl⟩ (cells2 := 0) (slots2 := 0) ⟨rfl, rfl⟩ (fun _ H locs w => ?_)
      obtain ⟨e1, e2, e3, e4, e5, e6, e7, e8⟩ := tp8 hf
      rw [hQ]
      exact rt_i C w rfl (fun _ => 0) (by rw [← e2, ← e3, ← e4, ← e5, ← e6, ← e7, ← e8]) e1 dX10_once_53
    · replace hf := it_f c5 hf
      refine lv_iconst (v := 0) hx hb dX10_once_41 (by decide) ?_
      obtain ⟨e1, e2, e3, e4, e5, e6, e7, e8⟩ := tp8 hf
      rw [hQ]
      exact rt_i C w rfl (fun _ => 0) (by rw [← e2, ← e3, ← e4, ← e5, ← e6, ← e7, ← e8]) e1 dX10_once_42
  refine lv_aload_n hx hb dX10_once_0 rfl (lv_at hl 0 rfl) ?_
  refine lv_aload_n hx hb dX10_once_1 rfl (lv_at hl 0 rfl) ?_
  refine g_X10_165 C w 0 rfl rfl dX10_once_2 ?_
  refine lv_iload_n hx hb dX10_once_5 rfl (lv_at hl 1 rfl) ?_
  refine lv_ishr hx hb dX10_once_6 ?_
  refine lv_iconst (v := 1) hx hb dX10_once_7 (by decide) ?_
  refine lv_iand hx hb dX10_once_8 ?_
  refine lv_if_ne (tgt := 16) hx hb dX10_once_9 (by decide) (fun c19 => ?_) (fun c19 => ?_)
  · replace hf := it_f c19 hf
    refine lv_iconst (v := 0) hx hb dX10_once_16 (by decide) ?_
    exact b17 p1 p2 p3 0 tokenStart0 tokenEnd0 token0 value0 error0 errorOffset0 given0 _ _ _ hf w (lv_sub hl [0, 1, 2, 3] rfl)
  · replace hf := it_t c19 hf
    refine lv_iconst (v := 1) hx hb dX10_once_12 (by decide) ?_
    refine lv_goto (tgt := 17) hx hb dX10_once_13 (by decide) ?_
    exact b17 p1 p2 p3 1 tokenStart0 tokenEnd0 token0 value0 error0 errorOffset0 given0 _ _ _ hf w (lv_sub hl [0, 1, 2, 3] rfl)

theorem dX10_statement_0 : decode cX10_statement 0 = .ok (.aload_n 0, 1) := by decide +kernel
theorem dX10_statement_1 : decode cX10_statement 1 = .ok (.ldc 168, 2) := by decide +kernel
theorem dX10_statement_3 : decode cX10_statement 3 = .ok (.invokevirtual 170, 3) := by decide +kernel
theorem dX10_statement_6 : decode cX10_statement 6 = .ok (.ifCond .eq 10, 3) := by decide +kernel
theorem dX10_statement_9 : decode cX10_statement 9 = .ok (.aload_n 0, 1) := by decide +kernel
theorem dX10_statement_10 : decode cX10_statement 10 = .ok (.invokevirtual 174, 3) := by decide +kernel
theorem dX10_statement_13 : decode cX10_statement 13 = .ok (.goto 118, 3) := by decide +kernel
theorem dX10_statement_16 : decode cX10_statement 16 = .ok (.aload_n 0, 1) := by decide +kernel
theorem dX10_statement_17 : decode cX10_statement 17 = .ok (.ldc 177, 2) := by decide +kernel
theorem dX10_statement_19 : decode cX10_statement 19 = .ok (.invokevirtual 170, 3) := by decide +kernel
theorem dX10_statement_22 : decode cX10_statement 22 = .ok (.ifCond .eq 10, 3) := by decide +kernel
theorem dX10_statement_25 : decode cX10_statement 25 = .ok (.aload_n 0, 1) := by decide +kernel
theorem dX10_statement_26 : decode cX10_statement 26 = .ok (.invokevirtual 179, 3) := by decide +kernel
theorem dX10_statement_29 : decode cX10_statement 29 = .ok (.goto 102, 3) := by decide +kernel
theorem dX10_statement_32 : decode cX10_statement 32 = .ok (.aload_n 0, 1) := by decide +kernel
theorem dX10_statement_33 : decode cX10_statement 33 = .ok (.ldc 182, 2) := by decide +kernel
theorem dX10_statement_35 : decode cX10_statement 35 = .ok (.invokevirtual 170, 3) := by decide +kernel
theorem dX10_statement_38 : decode cX10_statement 38 = .ok (.ifCond .eq 10, 3) := by decide +kernel
theorem dX10_statement_41 : decode cX10_statement 41 = .ok (.aload_n 0, 1) := by decide +kernel
theorem dX10_statement_42 : decode cX10_statement 42 = .ok (.invokevirtual 184, 3) := by decide +kernel
theorem dX10_statement_45 : decode cX10_statement 45 = .ok (.goto 86, 3) := by decide +kernel
theorem dX10_statement_48 : decode cX10_statement 48 = .ok (.aload_n 0, 1) := by decide +kernel
theorem dX10_statement_49 : decode cX10_statement 49 = .ok (.ldc 187, 2) := by decide +kernel
theorem dX10_statement_51 : decode cX10_statement 51 = .ok (.invokevirtual 170, 3) := by decide +kernel
theorem dX10_statement_54 : decode cX10_statement 54 = .ok (.ifCond .eq 20, 3) := by decide +kernel
theorem dX10_statement_57 : decode cX10_statement 57 = .ok (.aload_n 0, 1) := by decide +kernel
theorem dX10_statement_58 : decode cX10_statement 58 = .ok (.getfield 17, 3) := by decide +kernel
theorem dX10_statement_61 : decode cX10_statement 61 = .ok (.iconst 4, 1) := by decide +kernel
theorem dX10_statement_62 : decode cX10_statement 62 = .ok (.aload_n 0, 1) := by decide +kernel
theorem dX10_statement_63 : decode cX10_statement 63 = .ok (.iconst 0, 1) := by decide +kernel
theorem dX10_statement_64 : decode cX10_statement 64 = .ok (.iconst 0, 1) := by decide +kernel
theorem dX10_statement_65 : decode cX10_statement 65 = .ok (.bipush 10, 2) := by decide +kernel
theorem dX10_statement_67 : decode cX10_statement 67 = .ok (.invokevirtual 189, 3) := by decide +kernel
theorem dX10_statement_70 : decode cX10_statement 70 = .ok (.iastore, 1) := by decide +kernel
theorem dX10_statement_71 : decode cX10_statement 71 = .ok (.goto 60, 3) := by decide +kernel
theorem dX10_statement_74 : decode cX10_statement 74 = .ok (.aload_n 0, 1) := by decide +kernel
theorem dX10_statement_75 : decode cX10_statement 75 = .ok (.ldc 193, 2) := by decide +kernel
theorem dX10_statement_77 : decode cX10_statement 77 = .ok (.invokevirtual 170, 3) := by decide +kernel
theorem dX10_statement_80 : decode cX10_statement 80 = .ok (.ifCond .eq 21, 3) := by decide +kernel
theorem dX10_statement_83 : decode cX10_statement 83 = .ok (.aload_n 0, 1) := by decide +kernel
theorem dX10_statement_84 : decode cX10_statement 84 = .ok (.getfield 17, 3) := by decide +kernel
theorem dX10_statement_87 : decode cX10_statement 87 = .ok (.iconst 5, 1) := by decide +kernel
theorem dX10_statement_88 : decode cX10_statement 88 = .ok (.aload_n 0, 1) := by decide +kernel
theorem dX10_statement_89 : decode cX10_statement 89 = .ok (.iconst 1, 1) := by decide +kernel
theorem dX10_statement_90 : decode cX10_statement 90 = .ok (.iconst 1, 1) := by decide +kernel
theorem dX10_statement_91 : decode cX10_statement 91 = .ok (.sipush 300, 3) := by decide +kernel
theorem dX10_statement_94 : decode cX10_statement 94 = .ok (.invokevirtual 189, 3) := by decide +kernel
theorem dX10_statement_97 : decode cX10_statement 97 = .ok (.iastore, 1) := by decide +kernel
theorem dX10_statement_98 : decode cX10_statement 98 = .ok (.goto 33, 3) := by decide +kernel
theorem dX10_statement_101 : decode cX10_statement 101 = .ok (.aload_n 0, 1) := by decide +kernel
theorem dX10_statement_102 : decode cX10_statement 102 = .ok (.aload_n 0, 1) := by decide +kernel
theorem dX10_statement_103 : decode cX10_statement 103 = .ok (.ldc 195, 2) := by decide +kernel
theorem dX10_statement_105 : decode cX10_statement 105 = .ok (.invokevirtual 170, 3) := by decide +kernel
theorem dX10_statement_108 : decode cX10_statement 108 = .ok (.iconst 1, 1) := by decide +kernel
theorem dX10_statement_109 : decode cX10_statement 109 = .ok (.invokevirtual 141, 3) := by decide +kernel
theorem dX10_statement_112 : decode cX10_statement 112 = .ok (.ifCond .eq 19, 3) := by decide +kernel
theorem dX10_statement_115 : decode cX10_statement 115 = .ok (.aload_n 0, 1) := by decide +kernel
theorem dX10_statement_116 : decode cX10_statement 116 = .ok (.getfield 17, 3) := by decide +kernel
theorem dX10_statement_119 : decode cX10_statement 119 = .ok (.bipush 6, 2) := by decide +kernel
theorem dX10_statement_121 : decode cX10_statement 121 = .ok (.aload_n 0, 1) := by decide +kernel
theorem dX10_statement_122 : decode cX10_statement 122 = .ok (.iconst 2, 1) := by decide +kernel
theorem dX10_statement_123 : decode cX10_statement 123 = .ok (.iconst 0, 1) := by decide +kernel
theorem dX10_statement_124 : decode cX10_statement 124 = .ok (.sipush 5000, 3) := by decide +kernel
theorem dX10_statement_127 : decode cX10_statement 127 = .ok (.invokevirtual 189, 3) := by decide +kernel
theorem dX10_statement_130 : decode cX10_statement 130 = .ok (.iastore, 1) := by decide +kernel
theorem dX10_statement_131 : decode cX10_statement 131 = .ok (.return_, 1) := by decide +kernel
abbrev m_X10_statement : MD := (yX10_statement, cX10_statement, 1, none)
theorem q_1380 : Cond.code yX10_is cX10_is 3 (some .boolean) ∈ TS := ts_t 1380 (by decide +kernel) (by decide +kernel)
theorem q_1377 : Cond.methodLink RX10 170 yX10_is ∈ TS := ts_t 1377 (by decide +kernel) (by decide +kernel)
theorem q_1379 : Cond.instanceMethod yX10_is ∈ TS := ts_t 1379 (by decide +kernel) (by decide +kernel)
theorem qs_88 : Cond.selects yX10_is.cls yX10_is yX10_is ∈ TS := ts_s 88 (by decide +kernel) (by decide +kernel)
theorem k_X10_170 : LkV RX10 170 m_X10_is 1 := ⟨q_1377, q_1379, qs_88, ⟨q_11, q_1380, by decide, by decide, by decide +kernel⟩⟩
theorem q_1427 : Cond.code yX10_once cX10_once 4 (some .int) ∈ TS := ts_t 1427 (by decide +kernel) (by decide +kernel)
theorem q_1424 : Cond.methodLink RX10 189 yX10_once ∈ TS := ts_t 1424 (by decide +kernel) (by decide +kernel)
theorem q_1426 : Cond.instanceMethod yX10_once ∈ TS := ts_t 1426 (by decide +kernel) (by decide +kernel)
theorem qs_98 : Cond.selects yX10_once.cls yX10_once yX10_once ∈ TS := ts_s 98 (by decide +kernel) (by decide +kernel)
theorem k_X10_189 : LkV RX10 189 m_X10_once 3 := ⟨q_1424, q_1426, qs_98, ⟨q_11, q_1427, by decide, by decide, by decide +kernel⟩⟩
theorem q_1417 : Cond.code yX10_readTagLine cX10_readTagLine 4 none ∈ TS := ts_t 1417 (by decide +kernel) (by decide +kernel)
theorem q_1414 : Cond.methodLink RX10 184 yX10_readTagLine ∈ TS := ts_t 1414 (by decide +kernel) (by decide +kernel)
theorem q_1416 : Cond.instanceMethod yX10_readTagLine ∈ TS := ts_t 1416 (by decide +kernel) (by decide +kernel)
theorem qs_96 : Cond.selects yX10_readTagLine.cls yX10_readTagLine yX10_readTagLine ∈ TS := ts_s 96 (by decide +kernel) (by decide +kernel)
theorem k_X10_184 : LkV RX10 184 m_X10_readTagLine 0 := ⟨q_1414, q_1416, qs_96, ⟨q_11, q_1417, by decide, by decide, by decide +kernel⟩⟩
theorem q_1412 : Cond.code yX10_readClass cX10_readClass 4 none ∈ TS := ts_t 1412 (by decide +kernel) (by decide +kernel)
theorem q_1409 : Cond.methodLink RX10 179 yX10_readClass ∈ TS := ts_t 1409 (by decide +kernel) (by decide +kernel)
theorem q_1411 : Cond.instanceMethod yX10_readClass ∈ TS := ts_t 1411 (by decide +kernel) (by decide +kernel)
theorem qs_95 : Cond.selects yX10_readClass.cls yX10_readClass yX10_readClass ∈ TS := ts_s 95 (by decide +kernel) (by decide +kernel)
theorem k_X10_179 : LkV RX10 179 m_X10_readClass 0 := ⟨q_1409, q_1411, qs_95, ⟨q_11, q_1412, by decide, by decide, by decide +kernel⟩⟩
theorem q_1399 : Cond.code yX10_readLink cX10_readLink 6 none ∈ TS := ts_t 1399 (by decide +kernel) (by decide +kernel)
theorem q_1396 : Cond.methodLink RX10 174 yX10_readLink ∈ TS := ts_t 1396 (by decide +kernel) (by decide +kernel)
theorem q_1398 : Cond.instanceMethod yX10_readLink ∈ TS := ts_t 1398 (by decide +kernel) (by decide +kernel)
theorem qs_92 : Cond.selects yX10_readLink.cls yX10_readLink yX10_readLink ∈ TS := ts_s 92 (by decide +kernel) (by decide +kernel)
theorem k_X10_174 : LkV RX10 174 m_X10_readLink 0 := ⟨q_1396, q_1398, qs_92, ⟨q_11, q_1399, by decide, by decide, by decide +kernel⟩⟩
abbrev w_X10_statement (g : GT) (h0 h1 h2 h3 h4 h5 h6 h7 h8 h9 h10 : Nat) (v0_0 v0_2 v0_10 v0_21 v0_22 v0_23 v0_24 v0_25 v0_26 v0_27 v0_28 v0_29 v0_30 v0_31 v0_32 v0_33 v0_34 v0_35 v0_36 v0_37 : Value) (textLength0 tokenStart0 tokenEnd0 token0 value0 error0 errorOffset0 given0 : Int32) (buffer1 classAxles2 classPercent3 draft4 linkFrom5 linkMinutes6 linkPrice7 linkTo8 tagAxles9 tagPlate10 : Nat → Int32) : va_W := [(h0, .inr (10, [v0_0, .ref h1, v0_2, .int textLength0, .int tokenStart0, .int tokenEnd0, .int token0, .int value0, .int error0, .int errorOffset0, v0_10, .ref h4, .ref h5, .ref h8, .ref h6, .ref h7, .ref h2, .ref h3, .ref h10, .ref h9, .int given0, v0_21, v0_22, v0_23, v0_24, v0_25, v0_26, v0_27, v0_28, v0_29, v0_30, v0_31, v0_32, v0_33, v0_34, v0_35, v0_36, v0_37])), (h1, aB g 900 buffer1), (h2, aI g 8 classAxles2), (h3, aI g 8 classPercent3), (h4, aI g 7 draft4), (h5, aI g 48 linkFrom5), (h6, aI g 48 linkMinutes6), (h7, aI g 48 linkPrice7), (h8, aI g 48 linkTo8), (h9, aI g 24 tagAxles9), (h10, aI g 24 tagPlate10)]
def f_X10_statement_b131 (F : Nat) (textLength0 : Int32) (buffer1 : Nat → Int32) (tokenStart0 tokenEnd0 token0 value0 error0 errorOffset0 given0 : Int32) (classAxles2 classPercent3 draft4 linkFrom5 linkMinutes6 linkPrice7 linkTo8 tagAxles9 tagPlate10 : Nat → Int32) : Option (Int32 × Int32 × Int32 × Int32 × Int32 × Int32 × Int32 × (Nat → Int32) × (Nat → Int32) × (Nat → Int32) × (Nat → Int32) × (Nat → Int32) × (Nat → Int32) × (Nat → Int32) × (Nat → Int32) × (Nat → Int32)) :=
  some (tokenStart0, tokenEnd0, token0, value0, error0, errorOffset0, given0, classAxles2, classPercent3, draft4, linkFrom5, linkMinutes6, linkPrice7, linkTo8, tagAxles9, tagPlate10)
def f_X10_statement (F : Nat) (textLength0 tokenStart0 tokenEnd0 token0 value0 error0 errorOffset0 given0 : Int32) (buffer1 classAxles2 classPercent3 draft4 linkFrom5 linkMinutes6 linkPrice7 linkTo8 tagAxles9 tagPlate10 : Nat → Int32) : Option (Int32 × Int32 × Int32 × Int32 × Int32 × Int32 × Int32 × (Nat → Int32) × (Nat → Int32) × (Nat → Int32) × (Nat → Int32) × (Nat → Int32) × (Nat → Int32) × (Nat → Int32) × (Nat → Int32) × (Nat → Int32)) :=
  bd1 (f_X10_is F 1 textLength0 tokenStart0 tokenEnd0 token0 error0 buffer1) fun r1 =>
  if r1 = 0 then
    bd1 (f_X10_is F 2 textLength0 tokenStart0 tokenEnd0 token0 error0 buffer1) fun r4 =>
    if r4 = 0 then
      bd1 (f_X10_is F 3 textLength0 tokenStart0 tokenEnd0 token0 error0 buffer1) fun r7 =>
      if r7 = 0 then
        bd1 (f_X10_is F 4 textLength0 tokenStart0 tokenEnd0 token0 error0 buffer1) fun r10 =>
        if r10 = 0 then
          bd1 (f_X10_is F 5 textLength0 tokenStart0 tokenEnd0 token0 error0 buffer1) fun r13 =>
          if r13 = 0 then
            bd1 (f_X10_is F 6 textLength0 tokenStart0 tokenEnd0 token0 error0 buffer1) fun r16 =>
            bd3 (f_X10_must F r16 1 tokenStart0 error0 errorOffset0) fun r18 o19 o20 =>
            if r18 = 0 then
              f_X10_statement_b131 F textLength0 buffer1 tokenStart0 tokenEnd0 token0 value0 o19 o20 given0 classAxles2 classPercent3 draft4 linkFrom5 linkMinutes6 linkPrice7 linkTo8 tagAxles9 tagPlate10
            else
              bd8 (f_X10_once F 2 0 5000 textLength0 tokenStart0 tokenEnd0 token0 value0 o19 o20 given0 buffer1) fun r23 o24 o25 o26 o27 o28 o29 o30 =>
              wr draft4 7 6 r23 fun f32 =>
              f_X10_statement_b131 F textLength0 buffer1 o24 o25 o26 o27 o28 o29 o30 classAxles2 classPercent3 f32 linkFrom5 linkMinutes6 linkPrice7 linkTo8 tagAxles9 tagPlate10
          else
            bd8 (f_X10_once F 1 1 300 textLength0 tokenStart0 tokenEnd0 token0 value0 error0 errorOffset0 given0 buffer1) fun r33 o34 o35 o36 o37 o38 o39 o40 =>
            wr draft4 7 5 r33 fun f42 =>
            f_X10_statement_b131 F textLength0 buffer1 o34 o35 o36 o37 o38 o39 o40 classAxles2 classPercent3 f42 linkFrom5 linkMinutes6 linkPrice7 linkTo8 tagAxles9 tagPlate10
        else
          bd8 (f_X10_once F 0 0 10 textLength0 tokenStart0 tokenEnd0 token0 value0 error0 errorOffset0 given0 buffer1) fun r43 o44 o45 o46 o47 o48 o49 o50 =>
          wr draft4 7 4 r43 fun f52 =>
          f_X10_statement_b131 F textLength0 buffer1 o44 o45 o46 o47 o48 o49 o50 classAxles2 classPercent3 f52 linkFrom5 linkMinutes6 linkPrice7 linkTo8 tagAxles9 tagPlate10
      else
        bd9 (f_X10_readTagLine F textLength0 tokenStart0 tokenEnd0 token0 value0 error0 errorOffset0 buffer1 draft4 tagAxles9 tagPlate10) fun o53 o54 o55 o56 o57 o58 o59 o60 o61 =>
        f_X10_statement_b131 F textLength0 buffer1 o53 o54 o55 o56 o57 o58 given0 classAxles2 classPercent3 o59 linkFrom5 linkMinutes6 linkPrice7 linkTo8 o60 o61
    else
      bd9 (f_X10_readClass F textLength0 tokenStart0 tokenEnd0 token0 value0 error0 errorOffset0 buffer1 classAxles2 classPercent3 draft4) fun o63 o64 o65 o66 o67 o68 o69 o70 o71 =>
      f_X10_statement_b131 F textLength0 buffer1 o63 o64 o65 o66 o67 o68 given0 o69 o70 o71 linkFrom5 linkMinutes6 linkPrice7 linkTo8 tagAxles9 tagPlate10
  else
    bd11 (f_X10_readLink F textLength0 tokenStart0 tokenEnd0 token0 value0 error0 errorOffset0 buffer1 draft4 linkFrom5 linkMinutes6 linkPrice7 linkTo8) fun o73 o74 o75 o76 o77 o78 o79 o80 o81 o82 o83 =>
    f_X10_statement_b131 F textLength0 buffer1 o73 o74 o75 o76 o77 o78 given0 classAxles2 classPercent3 o79 o80 o81 o82 o83 tagAxles9 tagPlate10
set_option maxHeartbeats 4000000 in
set_option maxRecDepth 100000 in
theorem c_X10_statement (l : Launch) (g : GT) (F : Nat) (h0 h1 h2 h3 h4 h5 h6 h7 h8 h9 h10 : Nat) (v0_0 v0_2 v0_10 v0_21 v0_22 v0_23 v0_24 v0_25 v0_26 v0_27 v0_28 v0_29 v0_30 v0_31 v0_32 v0_33 v0_34 v0_35 v0_36 v0_37 : Value) (textLength0 tokenStart0 tokenEnd0 token0 value0 error0 errorOffset0 given0 : Int32) (buffer1 classAxles2 classPercent3 draft4 linkFrom5 linkMinutes6 linkPrice7 linkTo8 tagAxles9 tagPlate10 : Nat → Int32) (o_tokenStart0 o_tokenEnd0 o_token0 o_value0 o_error0 o_errorOffset0 o_given0 : Int32) (o_classAxles2 o_classPercent3 o_draft4 o_linkFrom5 o_linkMinutes6 o_linkPrice7 o_linkTo8 o_tagAxles9 o_tagPlate10 : Nat → Int32) (sz : Nat) (hf : f_X10_statement F textLength0 tokenStart0 tokenEnd0 token0 value0 error0 errorOffset0 given0 buffer1 classAxles2 classPercent3 draft4 linkFrom5 linkMinutes6 linkPrice7 linkTo8 tagAxles9 tagPlate10 = some (o_tokenStart0, o_tokenEnd0, o_token0, o_value0, o_error0, o_errorOffset0, o_given0, o_classAxles2, o_classPercent3, o_draft4, o_linkFrom5, o_linkMinutes6, o_linkPrice7, o_linkTo8, o_tagAxles9, o_tagPlate10)) : CV l m_X10_statement (rml 5 0 0) g (w_X10_statement g h0 h1 h2 h3 h4 h5 h6 h7 h8 h9 h10 v0_0 v0_2 v0_10 v0_21 v0_22 v0_23 v0_24 v0_25 v0_26 v0_27 v0_28 v0_29 v0_30 v0_31 v0_32 v0_33 v0_34 v0_35 v0_36 v0_37 textLength0 tokenStart0 tokenEnd0 token0 value0 error0 errorOffset0 given0 buffer1 classAxles2 classPercent3 draft4 linkFrom5 linkMinutes6 linkPrice7 linkTo8 tagAxles9 tagPlate10) (fun _ => w_X10_statement g h0 h1 h2 h3 h4 h5 h6 h7 h8 h9 h10 v0_0 v0_2 v0_10 v0_21 v0_22 v0_23 v0_24 v0_25 v0_26 v0_27 v0_28 v0_29 v0_30 v0_31 v0_32 v0_33 v0_34 v0_35 v0_36 v0_37 textLength0 o_tokenStart0 o_tokenEnd0 o_token0 o_value0 o_error0 o_errorOffset0 o_given0 buffer1 o_classAxles2 o_classPercent3 o_draft4 o_linkFrom5 o_linkMinutes6 o_linkPrice7 o_linkTo8 o_tagAxles9 o_tagPlate10) sz [.ref h0] := by
  refine en_v (by decide) (Nat.le_of_ble_eq_true rfl) (fun p e s m args below meth c A ls C w hl => ?_)
  have C : Cx p s m args meth c RX10 m_X10_statement g A := C
  have hx := C.1
  have hb : c.code = cX10_statement := C.2.1
  have hl : lv_has ls 1 [(0, .ref h0)] := hl
  obtain ⟨Q, hQ⟩ : ∃ Q, Q = QV below args s g A (fun _ => w_X10_statement g h0 h1 h2 h3 h4 h5 h6 h7 h8 h9 h10 v0_0 v0_2 v0_10 v0_21 v0_22 v0_23 v0_24 v0_25 v0_26 v0_27 v0_28 v0_29 v0_30 v0_31 v0_32 v0_33 v0_34 v0_35 v0_36 v0_37 textLength0 o_tokenStart0 o_tokenEnd0 o_token0 o_value0 o_error0 o_errorOffset0 o_given0 buffer1 o_classAxles2 o_classPercent3 o_draft4 o_linkFrom5 o_linkMinutes6 o_linkPrice7 o_linkTo8 o_tagAxles9 o_tagPlate10) 0 0 := ⟨_, rfl⟩
  suffices hW : W p l e (rml 5 0 0) s m args below meth c s.heap [] 0 0 Q (F0 m 0 ls []) from (by rw [hQ] at hW; exact hW)
  unfold f_X10_statement at hf
  have b131 : ∀ (tokenStart0 tokenEnd0 token0 value0 error0 errorOffset0 given0 : Int32) (classAxles2 classPercent3 draft4 linkFrom5 linkMinutes6 linkPrice7 linkTo8 tagAxles9 tagPlate10 : Nat → Int32) (H : Heap) (locs : List Loc) (ls : Array Slot), f_X10_statement_b131 F textLength0 buffer1 tokenStart0 tokenEnd0 token0 value0 error0 errorOffset0 given0 classAxles2 classPercent3 draft4 linkFrom5 linkMinutes6 linkPrice7 linkTo8 tagAxles9 tagPlate10 = some (o_tokenStart0, o_tokenEnd0, o_token0, o_value0, o_error0, o_errorOffset0, o_given0, o_classAxles2, o_classPercent3, o_draft4, o_linkFrom5, o_linkMinutes6, o_linkPrice7, o_linkTo8, o_tagAxles9, o_tagPlate10) → Wd g A (w_X10_statement g h0 h1 h2 h3 h4 h5 h6 h7 h8 h9 h10 v0_0 v0_2 v0_10 v0_21 v0_22 v0_23 v0_24 v0_25 v0_26 v0_27 v0_28 v0_29 v0_30 v0_31 v0_32 v0_33 v0_34 v0_35 v0_36 v0_37 textLength0 tokenStart0 tokenEnd0 token0 value0 error0 errorOffset0 given0 buffer1 classAxles2 classPercent3 draft4 linkFrom5 linkMinutes6 linkPrice7 linkTo8 tagAxles9 tagPlate10) s.heap H locs → lv_has ls 1 [] → W p l e (rml 5 0 0) s m args below meth c H locs 0 0 Q (F0 m 131 ls []) := by
    intro tokenStart0 tokenEnd0 token0 value0 error0 errorOffset0 given0 classAxles2 classPercent3 draft4 linkFrom5 linkMinutes6 linkPrice7 linkTo8 tagAxles9 tagPlate10 H locs ls hf w hl
    unfold f_X10_statement_b131 at hf
    obtain ⟨e1, e2, e3, e4, e5, e6, e7, e8, e9, e10, e11, e12, e13, e14, e15, e16⟩ := tp16 hf
    rw [hQ]
    exact rt_v C w rfl (fun _ => 0) (by rw [← e1, ← e2, ← e3, ← e4, ← e5, ← e6, ← e7, ← e8, ← e9, ← e10, ← e11, ← e12, ← e13, ← e14, ← e15, ← e16]) dX10_statement_131
  refine lv_aload_n hx hb dX10_statement_0 rfl (lv_at hl 0 rfl) ?_
  refine va_ldcS hx hb C.2.2.2.1 (C.2.2.2.2.2.2.2.1.2.2.2.1 (RX10, 168, "link", 1) (List.mem_of_getElem? (i := 26) rfl)) dX10_statement_1 ?_
  obtain ⟨r1, hc2, hf⟩ := bd1_some hf
  refine ca_iV C w (wn := fun _ => w_X10_statement g h0 h1 h2 h3 h4 h5 h6 h7 h8 h9 h10 v0_0 v0_2 v0_10 v0_21 v0_22 v0_23 v0_24 v0_25 v0_26 v0_27 v0_28 v0_29 v0_30 v0_31 v0_32 v0_33 v0_34 v0_35 v0_36 v0_37 textLength0 tokenStart0 tokenEnd0 token0 value0 error0 errorOffset0 given0 buffer1 classAxles2 classPercent3 draft4 linkFrom5 linkMinutes6 linkPrice7 linkTo8 tagAxles9 tagPlate10) (pm_k [true, true, false, false, false, false, false, false, false, false, false] rfl rfl (fun _ => Nat.le_of_ble_eq_true rfl) (fun _ => rfl)) (c_X10_is l g F h0 h1 v0_0 v0_2 (.int value0) (.int errorOffset0) v0_10 (.ref h4) (.ref h5) (.ref h8) (.ref h6) (.ref h7) (.ref h2) (.ref h3) (.ref h10) (.ref h9) (.int given0) v0_21 v0_22 v0_23 v0_24 v0_25 v0_26 v0_27 v0_28 v0_29 v0_30 v0_31 v0_32 v0_33 v0_34 v0_35 v0_36 v0_37 1 textLength0 tokenStart0 tokenEnd0 token0 error0 buffer1 r1 (by decide) _ hc2) k_X10_170 (rm_le (by decide) (by decide)) 0 10 rfl rfl rfl rfl hl.1 rfl (Nat.le_of_ble_eq_true rfl) dX10_statement_3 ⟨Nat.le_of_ble_eq_true rfl, Nat.le_of_ble_eq_true rfl⟩ (cells2 := 0) (slots2 := 0) ⟨rfl, rfl⟩ (fun _ H locs w => ?_)
  refine lv_if_eq (tgt := 16) hx hb dX10_statement_6 (by decide) (fun c3 => ?_) (fun c3 => ?_)
  · replace hf := it_t c3 hf
    refine lv_aload_n hx hb dX10_statement_16 rfl (lv_at hl 0 rfl) ?_
    refine va_ldcS hx hb C.2.2.2.1 (C.2.2.2.2.2.2.2.1.2.2.2.1 (RX10, 177, "class", 2) (List.mem_of_getElem? (i := 27) rfl)) dX10_statement_17 ?_
    obtain ⟨r4, hc5, hf⟩ := bd1_some hf
    refine ca_iV C w (wn := fun _ => w_X10_statement g h0 h1 h2 h3 h4 h5 h6 h7 h8 h9 h10 v0_0 v0_2 v0_10 v0_21 v0_22 v0_23 v0_24 v0_25 v0_26 v0_27 v0_28 v0_29 v0_30 v0_31 v0_32 v0_33 v0_34 v0_35 v0_36 v0_37 textLength0 tokenStart0 tokenEnd0 token0 value0 error0 errorOffset0 given0 buffer1 classAxles2 classPercent3 draft4 linkFrom5 linkMinutes6 linkPrice7 linkTo8 tagAxles9 tagPlate10) (pm_k [true, true, false, false, false, false, false, false, false, false, false] rfl rfl (fun _ => Nat.le_of_ble_eq_true rfl) (fun _ => rfl)) (c_X10_is l g F h0 h1 v0_0 v0_2 (.int value0) (.int errorOffset0) v0_10 (.ref h4) (.ref h5) (.ref h8) (.ref h6) (.ref h7) (.ref h2) (.ref h3) (.ref h10) (.ref h9) (.int given0) v0_21 v0_22 v0_23 v0_24 v0_25 v0_26 v0_27 v0_28 v0_29 v0_30 v0_31 v0_32 v0_33 v0_34 v0_35 v0_36 v0_37 2 textLength0 tokenStart0 tokenEnd0 token0 error0 buffer1 r4 (by decide) _ hc5) k_X10_170 (rm_le (by decide) (by decide)) 0 10 rfl rfl rfl rfl hl.1 rfl (Nat.le_of_ble_eq_true rfl) dX10_statement_19 ⟨Nat.le_of_ble_eq_true rfl, Nat.le_of_ble_eq_true rfl⟩ (cells2 := 0) (slots2 := 0) ⟨rfl, rfl⟩ (fun _ H locs w => ?_)
    refine lv_if_eq (tgt := 32) hx hb dX10_statement_22 (by decide) (fun c6 => ?_) (fun c6 => ?_)
    · replace hf := it_t c6 hf
      refine lv_aload_n hx hb dX10_statement_32 rfl (lv_at hl 0 rfl) ?_
      refine va_ldcS hx hb C.2.2.2.1 (C.2.2.2.2.2.2.2.1.2.2.2.1 (RX10, 182, "tag", 3) (List.mem_of_getElem? (i := 28) rfl)) dX10_statement_33 ?_
      obtain ⟨r7, hc8, hf⟩ := bd1_some hf
      refine ca_iV C w (wn := fun _ => w_X10_statement g h0 h1 h2 h3 h4 h5 h6 h7 h8 h9 h10 v0_0 v0_2 v0_10 v0_21 v0_22 v0_23 v0_24 v0_25 v0_26 v0_27 v0_28 v0_29 v0_30 v0_31 v0_32 v0_33 v0_34 v0_35 v0_36 v0_37 textLength0 tokenStart0 tokenEnd0 token0 value0 error0 errorOffset0 given0 buffer1 classAxles2 classPercent3 draft4 linkFrom5 linkMinutes6 linkPrice7 linkTo8 tagAxles9 tagPlate10) (pm_k [true, true, false, false, false, false, false, false, false, false, false] rfl rfl (fun _ => Nat.le_of_ble_eq_true rfl) (fun _ => rfl)) (c_X10_is l g F h0 h1 v0_0 v0_2 (.int value0) (.int errorOffset0) v0_10 (.ref h4) (.ref h5) (.ref h8) (.ref h6) (.ref h7) (.ref h2) (.ref h3) (.ref h10) (.ref h9) (.int given0) v0_21 v0_22 v0_23 v0_24 v0_25 v0_26 v0_27 v0_28 v0_29 v0_30 v0_31 v0_32 v0_33 v0_34 v0_35 v0_36 v0_37 3 textLength0 tokenStart0 tokenEnd0 token0 error0 buffer1 r7 (by decide) _ hc8) k_X10_170 (rm_le (by decide) (by decide)) 0 10 rfl rfl rfl rfl hl.1 rfl (Nat.le_of_ble_eq_true rfl) dX10_statement_35 ⟨Nat.le_of_ble_eq_true rfl, Nat.le_of_ble_eq_true rfl⟩ (cells2 := 0) (slots2 := 0) ⟨rfl, rfl⟩ (fun _ H locs w => ?_)
      refine lv_if_eq (tgt := 48) hx hb dX10_statement_38 (by decide) (fun c9 => ?_) (fun c9 => ?_)
      · replace hf := it_t c9 hf
        refine lv_aload_n hx hb dX10_statement_48 rfl (lv_at hl 0 rfl) ?_
        refine va_ldcS hx hb C.2.2.2.1 (C.2.2.2.2.2.2.2.1.2.2.2.1 (RX10, 187, "window", 4) (List.mem_of_getElem? (i := 29) rfl)) dX10_statement_49 ?_
        obtain ⟨r10, hc11, hf⟩ := bd1_some hf
        refine ca_iV C w (wn := fun _ => w_X10_statement g h0 h1 h2 h3 h4 h5 h6 h7 h8 h9 h10 v0_0 v0_2 v0_10 v0_21 v0_22 v0_23 v0_24 v0_25 v0_26 v0_27 v0_28 v0_29 v0_30 v0_31 v0_32 v0_33 v0_34 v0_35 v0_36 v0_37 textLength0 tokenStart0 tokenEnd0 token0 value0 error0 errorOffset0 given0 buffer1 classAxles2 classPercent3 draft4 linkFrom5 linkMinutes6 linkPrice7 linkTo8 tagAxles9 tagPlate10) (pm_k [true, true, false, false, false, false, false, false, false, false, false] rfl rfl (fun _ => Nat.le_of_ble_eq_true rfl) (fun _ => rfl)) (c_X10_is l g F h0 h1 v0_0 v0_2 (.int value0) (.int errorOffset0) v0_10 (.ref h4) (.ref h5) (.ref h8) (.ref h6) (.ref h7) (.ref h2) (.ref h3) (.ref h10) (.ref h9) (.int given0) v0_21 v0_22 v0_23 v0_24 v0_25 v0_26 v0_27 v0_28 v0_29 v0_30 v0_31 v0_32 v0_33 v0_34 v0_35 v0_36 v0_37 4 textLength0 tokenStart0 tokenEnd0 token0 error0 buffer1 r10 (by decide) _ hc11) k_X10_170 (rm_le (by decide) (by decide)) 0 10 rfl rfl rfl rfl hl.1 rfl (Nat.le_of_ble_eq_true rfl) dX10_statement_51 ⟨Nat.le_of_ble_eq_true rfl, Nat.le_of_ble_eq_true rfl⟩ (cells2 := 0) (slots2 := 0) ⟨rfl, rfl⟩ (fun _ H locs w => ?_)
        refine lv_if_eq (tgt := 74) hx hb dX10_statement_54 (by decide) (fun c12 => ?_) (fun c12 => ?_)
        · replace hf := it_t c12 hf
          refine lv_aload_n hx hb dX10_statement_74 rfl (lv_at hl 0 rfl) ?_
          refine va_ldcS hx hb C.2.2.2.1 (C.2.2.2.2.2.2.2.1.2.2.2.1 (RX10, 193, "confidence", 5) (List.mem_of_getElem? (i := 30) rfl)) dX10_statement_75 ?_
          obtain ⟨r13, hc14, hf⟩ := bd1_some hf
          refine ca_iV C w (wn := fun _ => w_X10_statement g h0 h1 h2 h3 h4 h5 h6 h7 h8 h9 h10 v0_0 v0_2 v0_10 v0_21 v0_22 v0_23 v0_24 v0_25 v0_26 v0_27 v0_28 v0_29 v0_30 v0_31 v0_32 v0_33 v0_34 v0_35 v0_36 v0_37 textLength0 tokenStart0 tokenEnd0 token0 value0 error0 errorOffset0 given0 buffer1 classAxles2 classPercent3 draft4 linkFrom5 linkMinutes6 linkPrice7 linkTo8 tagAxles9 tagPlate10) (pm_k [true, true, false, false, false, false, false, false, false, false, false] rfl rfl (fun _ => Nat.le_of_ble_eq_true rfl) (fun _ => rfl)) (c_X10_is l g F h0 h1 v0_0 v0_2 (.int value0) (.int errorOffset0) v0_10 (.ref h4) (.ref h5) (.ref h8) (.ref h6) (.ref h7) (.ref h2) (.ref h3) (.ref h10) (.ref h9) (.int given0) v0_21 v0_22 v0_23 v0_24 v0_25 v0_26 v0_27 v0_28 v0_29 v0_30 v0_31 v0_32 v0_33 v0_34 v0_35 v0_36 v0_37 5 textLength0 tokenStart0 tokenEnd0 token0 error0 buffer1 r13 (by decide) _ hc14) k_X10_170 (rm_le (by decide) (by decide)) 0 10 rfl rfl rfl rfl hl.1 rfl (Nat.le_of_ble_eq_true rfl) dX10_statement_77 ⟨Nat.le_of_ble_eq_true rfl, Nat.le_of_ble_eq_true rfl⟩ (cells2 := 0) (slots2 := 0) ⟨rfl, rfl⟩ (fun _ H locs w => ?_)
          refine lv_if_eq (tgt := 101) hx hb dX10_statement_80 (by decide) (fun c15 => ?_) (fun c15 => ?_)
          · replace hf := it_t c15 hf
            refine lv_aload_n hx hb dX10_statement_101 rfl (lv_at hl 0 rfl) ?_
            refine lv_aload_n hx hb dX10_statement_102 rfl (lv_at hl 0 rfl) ?_
            refine va_ldcS hx hb C.2.2.2.1 (C.2.2.2.2.2.2.2.1.2.2.2.1 (RX10, 195, "fee", 6) (List.mem_of_getElem? (i := 31) rfl)) dX10_statement_103 ?_
            obtain ⟨r16, hc17, hf⟩ := bd1_some hf
            refine ca_iV C w (wn := fun _ => w_X10_statement g h0 h1 h2 h3 h4 h5 h6 h7 h8 h9 h10 v0_0 v0_2 v0_10 v0_21 v0_22 v0_23 v0_24 v0_25 v0_26 v0_27 v0_28 v0_29 v0_30 v0_31 v0_32 v0_33 v0_34 v0_35 v0_36 v0_37 textLength0 tokenStart0 tokenEnd0 token0 value0 error0 errorOffset0 given0 buffer1 classAxles2 classPercent3 draft4 linkFrom5 linkMinutes6 linkPrice7 linkTo8 tagAxles9 tagPlate10) (pm_k [true, true, false, false, false, false, false, false, false, false, false] rfl rfl (fun _ => Nat.le_of_ble_eq_true rfl) (fun _ => rfl)) (c_X10_is l g F h0 h1 v0_0 v0_2 (.int value0) (.int errorOffset0) v0_10 (.ref h4) (.ref h5) (.ref h8) (.ref h6) (.ref h7) (.ref h2) (.ref h3) (.ref h10) (.ref h9) (.int given0) v0_21 v0_22 v0_23 v0_24 v0_25 v0_26 v0_27 v0_28 v0_29 v0_30 v0_31 v0_32 v0_33 v0_34 v0_35 v0_36 v0_37 6 textLength0 tokenStart0 tokenEnd0 token0 error0 buffer1 r16 (by decide) _ hc17) k_X10_170 (rm_le (by decide) (by decide)) 0 10 rfl rfl rfl rfl hl.1 rfl (Nat.le_of_ble_eq_true rfl) dX10_statement_105 ⟨Nat.le_of_ble_eq_true rfl, Nat.le_of_ble_eq_true rfl⟩ (cells2 := 0) (slots2 := 0) ⟨rfl, rfl⟩ (fun _ H locs w => ?_)
            refine lv_iconst (v := 1) hx hb dX10_statement_108 (by decide) ?_
            obtain ⟨r18, o19, o20, hc21, hf⟩ := bd3_some hf
            refine ca_iV C w (wn := fun _ => w_X10_statement g h0 h1 h2 h3 h4 h5 h6 h7 h8 h9 h10 v0_0 v0_2 v0_10 v0_21 v0_22 v0_23 v0_24 v0_25 v0_26 v0_27 v0_28 v0_29 v0_30 v0_31 v0_32 v0_33 v0_34 v0_35 v0_36 v0_37 textLength0 tokenStart0 tokenEnd0 token0 value0 o19 o20 given0 buffer1 classAxles2 classPercent3 draft4 linkFrom5 linkMinutes6 linkPrice7 linkTo8 tagAxles9 tagPlate10) (pm_k [true, false, false, false, false, false, false, false, false, false, false] rfl rfl (fun _ => Nat.le_of_ble_eq_true rfl) (fun _ => rfl)) (c_X10_must l g F h0 v0_0 (.ref h1) v0_2 (.int textLength0) (.int tokenEnd0) (.int token0) (.int value0) v0_10 (.ref h4) (.ref h5) (.ref h8) (.ref h6) (.ref h7) (.ref h2) (.ref h3) (.ref h10) (.ref h9) (.int given0) v0_21 v0_22 v0_23 v0_24 v0_25 v0_26 v0_27 v0_28 v0_29 v0_30 v0_31 v0_32 v0_33 v0_34 v0_35 v0_36 v0_37 r16 1 tokenStart0 error0 errorOffset0 r18 o19 o20 _ hc21) k_X10_141 (rm_le (by decide) (by decide)) 0 10 rfl rfl rfl rfl hl.1 rfl (Nat.le_of_ble_eq_true rfl) dX10_statement_109 ⟨Nat.le_of_ble_eq_true rfl, Nat.le_of_ble_eq_true rfl⟩ (cells2 := 0) (slots2 := 0) ⟨rfl, rfl⟩ (fun _ H locs w => ?_)
            refine lv_if_eq (tgt := 131) hx hb dX10_statement_112 (by decide) (fun c22 => ?_) (fun c22 => ?_)
            · replace hf := it_t c22 hf
              exact b131 tokenStart0 tokenEnd0 token0 value0 o19 o20 given0 classAxles2 classPercent3 draft4 linkFrom5 linkMinutes6 linkPrice7 linkTo8 tagAxles9 tagPlate10 _ _ _ hf w (lv_sub hl [] rfl)
            · replace hf := it_f c22 hf
              refine lv_aload_n hx hb dX10_statement_115 rfl (lv_at hl 0 rfl) ?_
              refine g_X10_17 C w 0 rfl rfl dX10_statement_116 ?_
              refine lv_bipush (v := 6) hx hb dX10_statement_119 (by decide) ?_
              refine lv_aload_n hx hb dX10_statement_121 rfl (lv_at hl 0 rfl) ?_
              refine lv_iconst (v := 2) hx hb dX10_statement_122 (by decide) ?_
              refine lv_iconst (v := 0) hx hb dX10_statement_123 (by decide) ?_
              refine lv_sipush (v := 5000) hx hb dX10_statement_124 (by decide) ?_
              obtain ⟨r23, o24, o25, o26, o27, o28, o29, o30, hc31, hf⟩ := bd8_some hf
              refine ca_iV C w (wn := fun _ => w_X10_statement g h0 h1 h2 h3 h4 h5 h6 h7 h8 h9 h10 v0_0 v0_2 v0_10 v0_21 v0_22 v0_23 v0_24 v0_25 v0_26 v0_27 v0_28 v0_29 v0_30 v0_31 v0_32 v0_33 v0_34 v0_35 v0_36 v0_37 textLength0 o24 o25 o26 o27 o28 o29 o30 buffer1 classAxles2 classPercent3 draft4 linkFrom5 linkMinutes6 linkPrice7 linkTo8 tagAxles9 tagPlate10) (pm_k [true, true, false, false, false, false, false, false, false, false, false] rfl rfl (fun _ => Nat.le_of_ble_eq_true rfl) (fun _ => rfl)) (c_X10_once l g F h0 h1 v0_0 v0_2 v0_10 (.ref h4) (.ref h5) (.ref h8) (.ref h6) (.ref h7) (.ref h2) (.ref h3) (.ref h10) (.ref h9) v0_21 v0_22 v0_23 v0_24 v0_25 v0_26 v0_27 v0_28 v0_29 v0_30 v0_31 v0_32 v0_33 v0_34 v0_35 v0_36 v0_37 2 0 5000 textLength0 tokenStart0 tokenEnd0 token0 value0 o19 o20 given0 buffer1 r23 o24 o25 o26 o27 o28 o29 o30 _ hc31) k_X10_189 (rm_le (by decide) (by decide)) 0 10 rfl rfl rfl rfl hl.1 rfl (Nat.le_of_ble_eq_true rfl) dX10_statement_127 ⟨Nat.le_of_ble_eq_true rfl, Nat.le_of_ble_eq_true rfl⟩ (cells2 := 0) (slots2 := 0) ⟨rfl, rfl⟩ (fun _ H locs w => ?_)
              obtain ⟨f32, hif32, haf32, hf⟩ := wr_some hf
              refine ias C w 4 rfl hif32 haf32 (ws2 := w_X10_statement g h0 h1 h2 h3 h4 h5 h6 h7 h8 h9 h10 v0_0 v0_2 v0_10 v0_21 v0_22 v0_23 v0_24 v0_25 v0_26 v0_27 v0_28 v0_29 v0_30 v0_31 v0_32 v0_33 v0_34 v0_35 v0_36 v0_37 textLength0 o24 o25 o26 o27 o28 o29 o30 buffer1 classAxles2 classPercent3 f32 linkFrom5 linkMinutes6 linkPrice7 linkTo8 tagAxles9 tagPlate10) rfl dX10_statement_130 (fun H locs w => ?_)
              exact b131 o24 o25 o26 o27 o28 o29 o30 classAxles2 classPercent3 f32 linkFrom5 linkMinutes6 linkPrice7 linkTo8 tagAxles9 tagPlate10 _ _ _ hf w (lv_sub hl [] rfl)
          · replace hf := it_f c15 hf
            refine lv_aload_n hx hb dX10_statement_83 rfl (lv_at hl 0 rfl) ?_
            refine g_X10_17 C w 0 rfl rfl dX10_statement_84 ?_
            refine lv_iconst (v := 5) hx hb dX10_statement_87 (by decide) ?_
            refine lv_aload_n hx hb dX10_statement_88 rfl (lv_at hl 0 rfl) ?_
            refine lv_iconst (v := 1) hx hb dX10_statement_89 (by decide) ?_
            refine lv_iconst (v := 1) hx hb dX10_statement_90 (by decide) ?_
            refine lv_sipush (v := 300) hx hb dX10_statement_91 (by decide) ?_
            obtain ⟨r33, o34, o35, o36, o37, o38, o39, o40, hc41, hf⟩ := bd8_some hf
            refine ca_iV C w (wn := fun _ => w_X10_statement g h0 h1 h2 h3 h4 h5 h6 h7 h8 h9 h10 v0_0 v0_2 v0_10 v0_21 v0_22 v0_23 v0_24 v0_25 v0_26 v0_27 v0_28 v0_29 v0_30 v0_31 v0_32 v0_33 v0_34 v0_35 v0_36 v0_37 textLength0 o34 o35 o36 o37 o38 o39 o40 buffer1 classAxles2 classPercent3 draft4 linkFrom5 linkMinutes6 linkPrice7 linkTo8 tagAxles9 tagPlate10) (pm_k [true, true, false, false, false, false, false, false, false, false, false] rfl rfl (fun _ => Nat.le_of_ble_eq_true rfl) (fun _ => rfl)) (c_X10_once l g F h0 h1 v0_0 v0_2 v0_10 (.ref h4) (.ref h5) (.ref h8) (.ref h6) (.ref h7) (.ref h2) (.ref h3) (.ref h10) (.ref h9) v0_21 v0_22 v0_23 v0_24 v0_25 v0_26 v0_27 v0_28 v0_29 v0_30 v0_31 v0_32 v0_33 v0_34 v0_35 v0_36 v0_37 1 1 300 textLength0 tokenStart0 tokenEnd0 token0 value0 error0 errorOffset0 given0 buffer1 r33 o34 o35 o36 o37 o38 o39 o40 _ hc41) k_X10_189 (rm_le (by decide) (by decide)) 0 10 rfl rfl rfl rfl hl.1 rfl (Nat.le_of_ble_eq_true rfl) dX10_statement_94 ⟨Nat.le_of_ble_eq_true rfl, Nat.le_of_ble_eq_true rfl⟩ (cells2 := 0) (slots2 := 0) ⟨rfl, rfl⟩ (fun _ H locs w => ?_)
            obtain ⟨f42, hif42, haf42, hf⟩ := wr_some hf
            refine ias C w 4 rfl hif42 haf42 (ws2 := w_X10_statement g h0 h1 h2 h3 h4 h5 h6 h7 h8 h9 h10 v0_0 v0_2 v0_10 v0_21 v0_22 v0_23 v0_24 v0_25 v0_26 v0_27 v0_28 v0_29 v0_30 v0_31 v0_32 v0_33 v0_34 v0_35 v0_36 v0_37 textLength0 o34 o35 o36 o37 o38 o39 o40 buffer1 classAxles2 classPercent3 f42 linkFrom5 linkMinutes6 linkPrice7 linkTo8 tagAxles9 tagPlate10) rfl dX10_statement_97 (fun H locs w => ?_)
            refine lv_goto (tgt := 131) hx hb dX10_statement_98 (by decide) ?_
            exact b131 o34 o35 o36 o37 o38 o39 o40 classAxles2 classPercent3 f42 linkFrom5 linkMinutes6 linkPrice7 linkTo8 tagAxles9 tagPlate10 _ _ _ hf w (lv_sub hl [] rfl)
        · replace hf := it_f c12 hf
          refine lv_aload_n hx hb dX10_statement_57 rfl (lv_at hl 0 rfl) ?_
          refine g_X10_17 C w 0 rfl rfl dX10_statement_58 ?_
          refine lv_iconst (v := 4) hx hb dX10_statement_61 (by decide) ?_
          refine lv_aload_n hx hb dX10_statement_62 rfl (lv_at hl 0 rfl) ?_
          refine lv_iconst (v := 0) hx hb dX10_statement_63 (by decide) ?_
          refine lv_iconst (v := 0) hx hb dX10_statement_64 (by decide) ?_
          refine lv_bipush (v := 10) hx hb dX10_statement_65 (by decide) ?_
          obtain ⟨r43, o44, o45, o46, o47, o48, o49, o50, hc51, hf⟩ := bd8_some hf
          refine ca_iV C w (wn := fun _ => w_X10_statement g h0 h1 h2 h3 h4 h5 h6 h7 h8 h9 h10 v0_0 v0_2 v0_10 v0_21 v0_22 v0_23 v0_24 v0_25 v0_26 v0_27 v0_28 v0_29 v0_30 v0_31 v0_32 v0_33 v0_34 v0_35 v0_36 v0_37 textLength0 o44 o45 o46 o47 o48 o49 o50 buffer1 classAxles2 classPercent3 draft4 linkFrom5 linkMinutes6 linkPrice7 linkTo8 tagAxles9 tagPlate10) (pm_k [true, true, false, false, false, false, false, false, false, false, false] rfl rfl (fun _ => Nat.le_of_ble_eq_true rfl) (fun _ => rfl)) (c_X10_once l g F h0 h1 v0_0 v0_2 v0_10 (.ref h4) (.ref h5) (.ref h8) (.ref h6) (.ref h7) (.ref h2) (.ref h3) (.ref h10) (.ref h9) v0_21 v0_22 v0_23 v0_24 v0_25 v0_26 v0_27 v0_28 v0_29 v0_30 v0_31 v0_32 v0_33 v0_34 v0_35 v0_36 v0_37 0 0 10 textLength0 tokenStart0 tokenEnd0 token0 value0 error0 errorOffset0 given0 buffer1 r43 o44 o45 o46 o47 o48 o49 o50 _ hc51) k_X10_189 (rm_le (by decide) (by decide)) 0 10 rfl rfl rfl rfl hl.1 rfl (Nat.le_of_ble_eq_true rfl) dX10_statement_67 ⟨Nat.le_of_ble_eq_true rfl, Nat.le_of_ble_eq_true rfl⟩ (cells2 := 0) (slots2 := 0) ⟨rfl, rfl⟩ (fun _ H locs w => ?_)
          obtain ⟨f52, hif52, haf52, hf⟩ := wr_some hf
          refine ias C w 4 rfl hif52 haf52 (ws2 := w_X10_statement g h0 h1 h2 h3 h4 h5 h6 h7 h8 h9 h10 v0_0 v0_2 v0_10 v0_21 v0_22 v0_23 v0_24 v0_25 v0_26 v0_27 v0_28 v0_29 v0_30 v0_31 v0_32 v0_33 v0_34 v0_35 v0_36 v0_37 textLength0 o44 o45 o46 o47 o48 o49 o50 buffer1 classAxles2 classPercent3 f52 linkFrom5 linkMinutes6 linkPrice7 linkTo8 tagAxles9 tagPlate10) rfl dX10_statement_70 (fun H locs w => ?_)
          refine lv_goto (tgt := 131) hx hb dX10_statement_71 (by decide) ?_
          exact b131 o44 o45 o46 o47 o48 o49 o50 classAxles2 classPercent3 f52 linkFrom5 linkMinutes6 linkPrice7 linkTo8 tagAxles9 tagPlate10 _ _ _ hf w (lv_sub hl [] rfl)
      · replace hf := it_f c9 hf
        refine lv_aload_n hx hb dX10_statement_41 rfl (lv_at hl 0 rfl) ?_
        obtain ⟨o53, o54, o55, o56, o57, o58, o59, o60, o61, hc62, hf⟩ := bd9_some hf
        refine ca_vV C w (wn := fun _ => w_X10_statement g h0 h1 h2 h3 h4 h5 h6 h7 h8 h9 h10 v0_0 v0_2 v0_10 v0_21 v0_22 v0_23 v0_24 v0_25 v0_26 v0_27 v0_28 v0_29 v0_30 v0_31 v0_32 v0_33 v0_34 v0_35 v0_36 v0_37 textLength0 o53 o54 o55 o56 o57 o58 given0 buffer1 classAxles2 classPercent3 o59 linkFrom5 linkMinutes6 linkPrice7 linkTo8 o60 o61) (pm_k [true, true, false, false, true, false, false, false, false, true, true] rfl rfl (fun _ => Nat.le_of_ble_eq_true rfl) (fun _ => rfl)) (c_X10_readTagLine l g F h0 h1 h4 h9 h10 v0_0 v0_2 v0_10 (.ref h5) (.ref h8) (.ref h6) (.ref h7) (.ref h2) (.ref h3) (.int given0) v0_21 v0_22 v0_23 v0_24 v0_25 v0_26 v0_27 v0_28 v0_29 v0_30 v0_31 v0_32 v0_33 v0_34 v0_35 v0_36 v0_37 textLength0 tokenStart0 tokenEnd0 token0 value0 error0 errorOffset0 buffer1 draft4 tagAxles9 tagPlate10 o53 o54 o55 o56 o57 o58 o59 o60 o61 _ hc62) k_X10_184 (rm_le (by decide) (by decide)) 0 10 rfl rfl rfl rfl hl.1 rfl (Nat.le_of_ble_eq_true rfl) dX10_statement_42 ⟨Nat.le_of_ble_eq_true rfl, Nat.le_of_ble_eq_true rfl⟩ (cells2 := 0) (slots2 := 0) ⟨rfl, rfl⟩ (fun _ H locs w => ?_)
        refine lv_goto (tgt := 131) hx hb dX10_statement_45 (by decide) ?_
        exact b131 o53 o54 o55 o56 o57 o58 given0 classAxles2 classPercent3 o59 linkFrom5 linkMinutes6 linkPrice7 linkTo8 o60 o61 _ _ _ hf w (lv_sub hl [] rfl)
    · replace hf := it_f c6 hf
      refine lv_aload_n hx hb dX10_statement_25 rfl (lv_at hl 0 rfl) ?_
      obtain ⟨o63, o64, o65, o66, o67, o68, o69, o70, o71, hc72, hf⟩ := bd9_some hf
      refine ca_vV C w (wn := fun _ => w_X10_statement g h0 h1 h2 h3 h4 h5 h6 h7 h8 h9 h10 v0_0 v0_2 v0_10 v0_21 v0_22 v0_23 v0_24 v0_25 v0_26 v0_27 v0_28 v0_29 v0_30 v0_31 v0_32 v0_33 v0_34 v0_35 v0_36 v0_37 textLength0 o63 o64 o65 o66 o67 o68 given0 buffer1 o69 o70 o71 linkFrom5 linkMinutes6 linkPrice7 linkTo8 tagAxles9 tagPlate10) (pm_k [true, true, true, true, true, false, false, false, false, false, false] rfl rfl (fun _ => Nat.le_of_ble_eq_true rfl) (fun _ => rfl)) (c_X10_readClass l g F h0 h1 h2 h3 h4 v0_0 v0_2 v0_10 (.ref h5) (.ref h8) (.ref h6) (.ref h7) (.ref h10) (.ref h9) (.int given0) v0_21 v0_22 v0_23 v0_24 v0_25 v0_26 v0_27 v0_28 v0_29 v0_30 v0_31 v0_32 v0_33 v0_34 v0_35 v0_36 v0_37 textLength0 tokenStart0 tokenEnd0 token0 value0 error0 errorOffset0 buffer1 classAxles2 classPercent3 draft4 o63 o64 o65 o66 o67 o68 o69 o70 o71 _ hc72) k_X10_179 (rm_le (by decide) (by decide)) 0 10 rfl rfl rfl rfl hl.1 rfl (Nat.le_of_ble_eq_true rfl) dX10_statement_26 ⟨Nat.le_of_ble_eq_true rfl, Nat.le_of_ble_eq_true rfl⟩ (cells2 := 0) (slots2 := 0) ⟨rfl, rfl⟩ (fun _ H locs w => ?_)
      refine lv_goto (tgt := 131) hx hb dX10_statement_29 (by decide) ?_
      exact b131 o63 o64 o65 o66 o67 o68 given0 o69 o70 o71 linkFrom5 linkMinutes6 linkPrice7 linkTo8 tagAxles9 tagPlate10 _ _ _ hf w (lv_sub hl [] rfl)
  · replace hf := it_f c3 hf
    refine lv_aload_n hx hb dX10_statement_9 rfl (lv_at hl 0 rfl) ?_
    obtain ⟨o73, o74, o75, o76, o77, o78, o79, o80, o81, o82, o83, hc84, hf⟩ := bd11_some hf
    refine ca_vV C w (wn := fun _ => w_X10_statement g h0 h1 h2 h3 h4 h5 h6 h7 h8 h9 h10 v0_0 v0_2 v0_10 v0_21 v0_22 v0_23 v0_24 v0_25 v0_26 v0_27 v0_28 v0_29 v0_30 v0_31 v0_32 v0_33 v0_34 v0_35 v0_36 v0_37 textLength0 o73 o74 o75 o76 o77 o78 given0 buffer1 classAxles2 classPercent3 o79 o80 o81 o82 o83 tagAxles9 tagPlate10) (pm_k [true, true, false, false, true, true, true, true, true, false, false] rfl rfl (fun _ => Nat.le_of_ble_eq_true rfl) (fun _ => rfl)) (c_X10_readLink l g F h0 h1 h4 h5 h6 h7 h8 v0_0 v0_2 v0_10 (.ref h2) (.ref h3) (.ref h10) (.ref h9) (.int given0) v0_21 v0_22 v0_23 v0_24 v0_25 v0_26 v0_27 v0_28 v0_29 v0_30 v0_31 v0_32 v0_33 v0_34 v0_35 v0_36 v0_37 textLength0 tokenStart0 tokenEnd0 token0 value0 error0 errorOffset0 buffer1 draft4 linkFrom5 linkMinutes6 linkPrice7 linkTo8 o73 o74 o75 o76 o77 o78 o79 o80 o81 o82 o83 _ hc84) k_X10_174 (rm_le (by decide) (by decide)) 0 10 rfl rfl rfl rfl hl.1 rfl (Nat.le_of_ble_eq_true rfl) dX10_statement_10 ⟨Nat.le_of_ble_eq_true rfl, Nat.le_of_ble_eq_true rfl⟩ (cells2 := 0) (slots2 := 0) ⟨rfl, rfl⟩ (fun _ H locs w => ?_)
    refine lv_goto (tgt := 131) hx hb dX10_statement_13 (by decide) ?_
    exact b131 o73 o74 o75 o76 o77 o78 given0 classAxles2 classPercent3 o79 o80 o81 o82 o83 tagAxles9 tagPlate10 _ _ _ hf w (lv_sub hl [] rfl)

theorem dX10_adopt_0 : decode cX10_adopt 0 = .ok (.iconst 0, 1) := by decide +kernel
theorem dX10_adopt_1 : decode cX10_adopt 1 = .ok (.istore_n 1, 1) := by decide +kernel
theorem dX10_adopt_2 : decode cX10_adopt 2 = .ok (.iload_n 1, 1) := by decide +kernel
theorem dX10_adopt_3 : decode cX10_adopt 3 = .ok (.aload_n 0, 1) := by decide +kernel
theorem dX10_adopt_4 : decode cX10_adopt 4 = .ok (.arraylength, 1) := by decide +kernel
theorem dX10_adopt_5 : decode cX10_adopt 5 = .ok (.iconst 2, 1) := by decide +kernel
theorem dX10_adopt_6 : decode cX10_adopt 6 = .ok (.idiv, 1) := by decide +kernel
theorem dX10_adopt_7 : decode cX10_adopt 7 = .ok (.if_icmp .ge 20, 3) := by decide +kernel
theorem dX10_adopt_10 : decode cX10_adopt 10 = .ok (.aload_n 0, 1) := by decide +kernel
theorem dX10_adopt_11 : decode cX10_adopt 11 = .ok (.iload_n 1, 1) := by decide +kernel
theorem dX10_adopt_12 : decode cX10_adopt 12 = .ok (.aload_n 0, 1) := by decide +kernel
theorem dX10_adopt_13 : decode cX10_adopt 13 = .ok (.aload_n 0, 1) := by decide +kernel
theorem dX10_adopt_14 : decode cX10_adopt 14 = .ok (.arraylength, 1) := by decide +kernel
theorem dX10_adopt_15 : decode cX10_adopt 15 = .ok (.iconst 2, 1) := by decide +kernel
theorem dX10_adopt_16 : decode cX10_adopt 16 = .ok (.idiv, 1) := by decide +kernel
theorem dX10_adopt_17 : decode cX10_adopt 17 = .ok (.iload_n 1, 1) := by decide +kernel
theorem dX10_adopt_18 : decode cX10_adopt 18 = .ok (.iadd, 1) := by decide +kernel
theorem dX10_adopt_19 : decode cX10_adopt 19 = .ok (.iaload, 1) := by decide +kernel
theorem dX10_adopt_20 : decode cX10_adopt 20 = .ok (.iastore, 1) := by decide +kernel
theorem dX10_adopt_21 : decode cX10_adopt 21 = .ok (.iinc 1 1, 3) := by decide +kernel
theorem dX10_adopt_24 : decode cX10_adopt 24 = .ok (.goto (-22), 3) := by decide +kernel
theorem dX10_adopt_27 : decode cX10_adopt 27 = .ok (.return_, 1) := by decide +kernel
abbrev m_X10_adopt : MD := (yX10_adopt, cX10_adopt, 2, none)

abbrev w_X10_adopt (g : GT) (h0 : Nat) (n0 : Nat) (arr0 : Nat → Int32) : va_W := [(h0, aI g n0 arr0)]
def f_X10_adopt_h2 (F n0 : Nat) (k2 : (Int32 × (Nat → Int32)) → Option ((Nat → Int32))) (x1 : Int32) (arr0 : Nat → Int32) : Option ((Nat → Int32)) :=
  if ((nI n0) / 2) ≤ x1 then
    some arr0
  else
    rd arr0 n0 (((nI n0) / 2) + x1) fun a2 =>
    wr arr0 n0 x1 a2 fun f3 =>
    k2 (x1 + 1, f3)
def f_X10_adopt_L2 (F n0 : Nat) (z : Int32 × (Nat → Int32)) : Option ((Nat → Int32)) := lp (fun k z => f_X10_adopt_h2 F n0 k z.1 z.2) F z
def f_X10_adopt (F n0 : Nat) (arr0 : Nat → Int32) : Option ((Nat → Int32)) :=
  f_X10_adopt_L2 F n0 (0, arr0)
set_option maxHeartbeats 4000000 in
set_option maxRecDepth 100000 in
theorem c_X10_adopt (l : Launch) (g : GT) (F : Nat) (h0 : Nat) (n0 : Nat) (arr0 : Nat → Int32) (o_arr0 : Nat → Int32) (sz : Nat) (hf : f_X10_adopt F n0 arr0 = some o_arr0) : CV l m_X10_adopt (rml 0 0 0) g (w_X10_adopt g h0 n0 arr0) (fun _ => w_X10_adopt g h0 n0 o_arr0) sz [.ref h0] := by
  refine en_v (by decide) (Nat.le_of_ble_eq_true rfl) (fun p e s m args below meth c A ls C w hl => ?_)
  have C : Cx p s m args meth c RX10 m_X10_adopt g A := C
  have hx := C.1
  have hb : c.code = cX10_adopt := C.2.1
  have hl : lv_has ls 2 [(0, .ref h0)] := hl
  obtain ⟨Q, hQ⟩ : ∃ Q, Q = QV below args s g A (fun _ => w_X10_adopt g h0 n0 o_arr0) 0 0 := ⟨_, rfl⟩
  suffices hW : W p l e (rml 0 0 0) s m args below meth c s.heap [] 0 0 Q (F0 m 0 ls []) from (by rw [hQ] at hW; exact hW)
  unfold f_X10_adopt at hf
  have L2 : ∀ (z : Int32 × (Nat → Int32)), f_X10_adopt_L2 F n0 z = some o_arr0 → ∀ (H : Heap) (locs : List Loc) (ls : Array Slot), Wd g A (w_X10_adopt g h0 n0 z.2) s.heap H locs → lv_has ls 2 [(0, .ref h0), (1, .int z.1)] → W p l e (rml 0 0 0) s m args below meth c H locs 0 0 Q (F0 m 2 ls []) := by
    intro z hf
    refine lp_W (r := o_arr0) (fun (z : Int32 × (Nat → Int32)) => ∀ (H : Heap) (locs : List Loc) (ls : Array Slot), Wd g A (w_X10_adopt g h0 n0 z.2) s.heap H locs → lv_has ls 2 [(0, .ref h0), (1, .int z.1)] → W p l e (rml 0 0 0) s m args below meth c H locs 0 0 Q (F0 m 2 ls [])) (fun k2 z ih2 hf => ?_) F z hf
    obtain ⟨x1, arr0⟩ := z
    intro H locs ls w hl
    try dsimp only at hf w hl ⊢
    unfold f_X10_adopt_h2 at hf
    refine lv_iload_n hx hb dX10_adopt_2 rfl (lv_at hl 1 rfl) ?_
    refine lv_aload_n hx hb dX10_adopt_3 rfl (lv_at hl 0 rfl) ?_
    refine ilen C w 0 rfl (v := nI n0) rfl dX10_adopt_4 ?_
    refine lv_iconst (v := 2) hx hb dX10_adopt_5 (by decide) ?_
    refine lv_idiv hx hb dX10_adopt_6 (by decide) ?_
    refine lv_icmp_ge (tgt := 27) hx hb dX10_adopt_7 (by decide) (fun c1 => ?_) (fun c1 => ?_)
    · replace hf := it_t c1 hf
      obtain e1 := tp1 hf
      rw [hQ]
      exact rt_v C w rfl (fun _ => 0) (by rw [← e1]) dX10_adopt_27
    · replace hf := it_f c1 hf
      refine lv_aload_n hx hb dX10_adopt_10 rfl (lv_at hl 0 rfl) ?_
      refine lv_iload_n hx hb dX10_adopt_11 rfl (lv_at hl 1 rfl) ?_
      refine lv_aload_n hx hb dX10_adopt_12 rfl (lv_at hl 0 rfl) ?_
      refine lv_aload_n hx hb dX10_adopt_13 rfl (lv_at hl 0 rfl) ?_
      refine ilen C w 0 rfl (v := nI n0) rfl dX10_adopt_14 ?_
      refine lv_iconst (v := 2) hx hb dX10_adopt_15 (by decide) ?_
      refine lv_idiv hx hb dX10_adopt_16 (by decide) ?_
      refine lv_iload_n hx hb dX10_adopt_17 rfl (lv_at hl 1 rfl) ?_
      refine lv_iadd hx hb dX10_adopt_18 ?_
      obtain ⟨a2, hia2, haa2, hf⟩ := rd_some hf
      refine ial C w 0 rfl hia2 haa2 dX10_adopt_19 ?_
      obtain ⟨f3, hif3, haf3, hf⟩ := wr_some hf
      refine ias C w 0 rfl hif3 haf3 (ws2 := w_X10_adopt g h0 n0 f3) rfl dX10_adopt_20 (fun H locs w => ?_)
      refine lv_iinc (v := x1 + 1) (lv' := [(1, .int (x1 + 1)), (0, .ref h0)]) hx hb dX10_adopt_21 hl (k := 1) rfl rfl (by decide) rfl (fun ls hl => ?_)
      refine lv_goto (tgt := 2) hx hb dX10_adopt_24 (by decide) ?_
      exact ih2 (x1 + 1, f3) hf _ _ _ w (lv_sub hl [1, 0] rfl)
  refine lv_iconst (v := 0) hx hb dX10_adopt_0 (by decide) ?_
  refine lv_istore_n (lv' := [(1, .int 0), (0, .ref h0)]) hx hb dX10_adopt_1 rfl hl (by decide) rfl (fun ls hl => ?_)
  exact L2 (0, arr0) hf _ _ _ w (lv_sub hl [1, 0] rfl)

theorem dX10_readNetwork_0 : decode cX10_readNetwork 0 = .ok (.aload_n 0, 1) := by decide +kernel
theorem dX10_readNetwork_1 : decode cX10_readNetwork 1 = .ok (.invokevirtual 145, 3) := by decide +kernel
theorem dX10_readNetwork_4 : decode cX10_readNetwork 4 = .ok (.aload_n 0, 1) := by decide +kernel
theorem dX10_readNetwork_5 : decode cX10_readNetwork 5 = .ok (.aload_n 0, 1) := by decide +kernel
theorem dX10_readNetwork_6 : decode cX10_readNetwork 6 = .ok (.ldc 197, 2) := by decide +kernel
theorem dX10_readNetwork_8 : decode cX10_readNetwork 8 = .ok (.invokevirtual 170, 3) := by decide +kernel
theorem dX10_readNetwork_11 : decode cX10_readNetwork 11 = .ok (.iconst 1, 1) := by decide +kernel
theorem dX10_readNetwork_12 : decode cX10_readNetwork 12 = .ok (.invokevirtual 141, 3) := by decide +kernel
theorem dX10_readNetwork_15 : decode cX10_readNetwork 15 = .ok (.ifCond .ne 4, 3) := by decide +kernel
theorem dX10_readNetwork_18 : decode cX10_readNetwork 18 = .ok (.return_, 1) := by decide +kernel
theorem dX10_readNetwork_19 : decode cX10_readNetwork 19 = .ok (.aload_n 0, 1) := by decide +kernel
theorem dX10_readNetwork_20 : decode cX10_readNetwork 20 = .ok (.invokevirtual 145, 3) := by decide +kernel
theorem dX10_readNetwork_23 : decode cX10_readNetwork 23 = .ok (.aload_n 0, 1) := by decide +kernel
theorem dX10_readNetwork_24 : decode cX10_readNetwork 24 = .ok (.getfield 17, 3) := by decide +kernel
theorem dX10_readNetwork_27 : decode cX10_readNetwork 27 = .ok (.iconst 0, 1) := by decide +kernel
theorem dX10_readNetwork_28 : decode cX10_readNetwork 28 = .ok (.aload_n 0, 1) := by decide +kernel
theorem dX10_readNetwork_29 : decode cX10_readNetwork 29 = .ok (.iconst 2, 1) := by decide +kernel
theorem dX10_readNetwork_30 : decode cX10_readNetwork 30 = .ok (.bipush 10, 2) := by decide +kernel
theorem dX10_readNetwork_32 : decode cX10_readNetwork 32 = .ok (.invokevirtual 152, 3) := by decide +kernel
theorem dX10_readNetwork_35 : decode cX10_readNetwork 35 = .ok (.iastore, 1) := by decide +kernel
theorem dX10_readNetwork_36 : decode cX10_readNetwork 36 = .ok (.aload_n 0, 1) := by decide +kernel
theorem dX10_readNetwork_37 : decode cX10_readNetwork 37 = .ok (.aload_n 0, 1) := by decide +kernel
theorem dX10_readNetwork_38 : decode cX10_readNetwork 38 = .ok (.getfield 108, 3) := by decide +kernel
theorem dX10_readNetwork_41 : decode cX10_readNetwork 41 = .ok (.bipush 59, 2) := by decide +kernel
theorem dX10_readNetwork_43 : decode cX10_readNetwork 43 = .ok (.if_icmp .ne 7, 3) := by decide +kernel
theorem dX10_readNetwork_46 : decode cX10_readNetwork 46 = .ok (.iconst 1, 1) := by decide +kernel
theorem dX10_readNetwork_47 : decode cX10_readNetwork 47 = .ok (.goto 4, 3) := by decide +kernel
theorem dX10_readNetwork_50 : decode cX10_readNetwork 50 = .ok (.iconst 0, 1) := by decide +kernel
theorem dX10_readNetwork_51 : decode cX10_readNetwork 51 = .ok (.iconst 1, 1) := by decide +kernel
theorem dX10_readNetwork_52 : decode cX10_readNetwork 52 = .ok (.invokevirtual 141, 3) := by decide +kernel
theorem dX10_readNetwork_55 : decode cX10_readNetwork 55 = .ok (.ifCond .eq 7, 3) := by decide +kernel
theorem dX10_readNetwork_58 : decode cX10_readNetwork 58 = .ok (.aload_n 0, 1) := by decide +kernel
theorem dX10_readNetwork_59 : decode cX10_readNetwork 59 = .ok (.invokevirtual 145, 3) := by decide +kernel
theorem dX10_readNetwork_62 : decode cX10_readNetwork 62 = .ok (.aload_n 0, 1) := by decide +kernel
theorem dX10_readNetwork_63 : decode cX10_readNetwork 63 = .ok (.getfield 126, 3) := by decide +kernel
theorem dX10_readNetwork_66 : decode cX10_readNetwork 66 = .ok (.ifCond .ne 43, 3) := by decide +kernel
theorem dX10_readNetwork_69 : decode cX10_readNetwork 69 = .ok (.aload_n 0, 1) := by decide +kernel
theorem dX10_readNetwork_70 : decode cX10_readNetwork 70 = .ok (.getfield 108, 3) := by decide +kernel
theorem dX10_readNetwork_73 : decode cX10_readNetwork 73 = .ok (.ifCond .eq 36, 3) := by decide +kernel
theorem dX10_readNetwork_76 : decode cX10_readNetwork 76 = .ok (.aload_n 0, 1) := by decide +kernel
theorem dX10_readNetwork_77 : decode cX10_readNetwork 77 = .ok (.invokevirtual 199, 3) := by decide +kernel
theorem dX10_readNetwork_80 : decode cX10_readNetwork 80 = .ok (.aload_n 0, 1) := by decide +kernel
theorem dX10_readNetwork_81 : decode cX10_readNetwork 81 = .ok (.aload_n 0, 1) := by decide +kernel
theorem dX10_readNetwork_82 : decode cX10_readNetwork 82 = .ok (.getfield 108, 3) := by decide +kernel
theorem dX10_readNetwork_85 : decode cX10_readNetwork 85 = .ok (.bipush 59, 2) := by decide +kernel
theorem dX10_readNetwork_87 : decode cX10_readNetwork 87 = .ok (.if_icmp .ne 7, 3) := by decide +kernel
theorem dX10_readNetwork_90 : decode cX10_readNetwork 90 = .ok (.iconst 1, 1) := by decide +kernel
theorem dX10_readNetwork_91 : decode cX10_readNetwork 91 = .ok (.goto 4, 3) := by decide +kernel
theorem dX10_readNetwork_94 : decode cX10_readNetwork 94 = .ok (.iconst 0, 1) := by decide +kernel
theorem dX10_readNetwork_95 : decode cX10_readNetwork 95 = .ok (.iconst 1, 1) := by decide +kernel
theorem dX10_readNetwork_96 : decode cX10_readNetwork 96 = .ok (.invokevirtual 141, 3) := by decide +kernel
theorem dX10_readNetwork_99 : decode cX10_readNetwork 99 = .ok (.ifCond .eq (-37), 3) := by decide +kernel
theorem dX10_readNetwork_102 : decode cX10_readNetwork 102 = .ok (.aload_n 0, 1) := by decide +kernel
theorem dX10_readNetwork_103 : decode cX10_readNetwork 103 = .ok (.invokevirtual 145, 3) := by decide +kernel
theorem dX10_readNetwork_106 : decode cX10_readNetwork 106 = .ok (.goto (-44), 3) := by decide +kernel
theorem dX10_readNetwork_109 : decode cX10_readNetwork 109 = .ok (.return_, 1) := by decide +kernel
abbrev m_X10_readNetwork : MD := (yX10_readNetwork, cX10_readNetwork, 1, none)
theorem q_1394 : Cond.code yX10_statement cX10_statement 1 none ∈ TS := ts_t 1394 (by decide +kernel) (by decide +kernel)
theorem q_1391 : Cond.methodLink RX10 199 yX10_statement ∈ TS := ts_t 1391 (by decide +kernel) (by decide +kernel)
theorem q_1393 : Cond.instanceMethod yX10_statement ∈ TS := ts_t 1393 (by decide +kernel) (by decide +kernel)
theorem qs_91 : Cond.selects yX10_statement.cls yX10_statement yX10_statement ∈ TS := ts_s 91 (by decide +kernel) (by decide +kernel)
theorem k_X10_199 : LkV RX10 199 m_X10_statement 0 := ⟨q_1391, q_1393, qs_91, ⟨q_11, q_1394, by decide, by decide, by decide +kernel⟩⟩
abbrev w_X10_readNetwork (g : GT) (h0 h1 h2 h3 h4 h5 h6 h7 h8 h9 h10 : Nat) (v0_0 v0_2 v0_10 v0_21 v0_22 v0_23 v0_24 v0_25 v0_26 v0_27 v0_28 v0_29 v0_30 v0_31 v0_32 v0_33 v0_34 v0_35 v0_36 v0_37 : Value) (textLength0 tokenStart0 tokenEnd0 token0 value0 error0 errorOffset0 given0 : Int32) (buffer1 classAxles2 classPercent3 draft4 linkFrom5 linkMinutes6 linkPrice7 linkTo8 tagAxles9 tagPlate10 : Nat → Int32) : va_W := [(h0, .inr (10, [v0_0, .ref h1, v0_2, .int textLength0, .int tokenStart0, .int tokenEnd0, .int token0, .int value0, .int error0, .int errorOffset0, v0_10, .ref h4, .ref h5, .ref h8, .ref h6, .ref h7, .ref h2, .ref h3, .ref h10, .ref h9, .int given0, v0_21, v0_22, v0_23, v0_24, v0_25, v0_26, v0_27, v0_28, v0_29, v0_30, v0_31, v0_32, v0_33, v0_34, v0_35, v0_36, v0_37])), (h1, aB g 900 buffer1), (h2, aI g 8 classAxles2), (h3, aI g 8 classPercent3), (h4, aI g 7 draft4), (h5, aI g 48 linkFrom5), (h6, aI g 48 linkMinutes6), (h7, aI g 48 linkPrice7), (h8, aI g 48 linkTo8), (h9, aI g 24 tagAxles9), (h10, aI g 24 tagPlate10)]
def f_X10_readNetwork_b109 (F : Nat) (textLength0 : Int32) (buffer1 : Nat → Int32) (tokenStart0 tokenEnd0 token0 value0 error0 errorOffset0 given0 : Int32) (classAxles2 classPercent3 draft4 linkFrom5 linkMinutes6 linkPrice7 linkTo8 tagAxles9 tagPlate10 : Nat → Int32) : Option (Int32 × Int32 × Int32 × Int32 × Int32 × Int32 × Int32 × (Nat → Int32) × (Nat → Int32) × (Nat → Int32) × (Nat → Int32) × (Nat → Int32) × (Nat → Int32) × (Nat → Int32) × (Nat → Int32) × (Nat → Int32)) :=
  some (tokenStart0, tokenEnd0, token0, value0, error0, errorOffset0, given0, classAxles2, classPercent3, draft4, linkFrom5, linkMinutes6, linkPrice7, linkTo8, tagAxles9, tagPlate10)
def f_X10_readNetwork_b95 (F : Nat) (k62 : (Int32 × Int32 × Int32 × Int32 × Int32 × Int32 × Int32 × (Nat → Int32) × (Nat → Int32) × (Nat → Int32) × (Nat → Int32) × (Nat → Int32) × (Nat → Int32) × (Nat → Int32) × (Nat → Int32) × (Nat → Int32)) → Option (Int32 × Int32 × Int32 × Int32 × Int32 × Int32 × Int32 × (Nat → Int32) × (Nat → Int32) × (Nat → Int32) × (Nat → Int32) × (Nat → Int32) × (Nat → Int32) × (Nat → Int32) × (Nat → Int32) × (Nat → Int32))) (textLength0 : Int32) (buffer1 : Nat → Int32) (s0 tokenStart0 tokenEnd0 token0 value0 error0 errorOffset0 given0 : Int32) (classAxles2 classPercent3 draft4 linkFrom5 linkMinutes6 linkPrice7 linkTo8 tagAxles9 tagPlate10 : Nat → Int32) : Option (Int32 × Int32 × Int32 × Int32 × Int32 × Int32 × Int32 × (Nat → Int32) × (Nat → Int32) × (Nat → Int32) × (Nat → Int32) × (Nat → Int32) × (Nat → Int32) × (Nat → Int32) × (Nat → Int32) × (Nat → Int32)) :=
  bd3 (f_X10_must F s0 1 tokenStart0 error0 errorOffset0) fun r1 o2 o3 =>
  if r1 = 0 then
    k62 (tokenStart0, tokenEnd0, token0, value0, o2, o3, given0, classAxles2, classPercent3, draft4, linkFrom5, linkMinutes6, linkPrice7, linkTo8, tagAxles9, tagPlate10)
  else
    bd4 (f_X10_nextToken F textLength0 tokenStart0 tokenEnd0 token0 value0 buffer1) fun o6 o7 o8 o9 =>
    k62 (o6, o7, o8, o9, o2, o3, given0, classAxles2, classPercent3, draft4, linkFrom5, linkMinutes6, linkPrice7, linkTo8, tagAxles9, tagPlate10)
def f_X10_readNetwork_h62 (F : Nat) (textLength0 : Int32) (buffer1 : Nat → Int32) (k62 : (Int32 × Int32 × Int32 × Int32 × Int32 × Int32 × Int32 × (Nat → Int32) × (Nat → Int32) × (Nat → Int32) × (Nat → Int32) × (Nat → Int32) × (Nat → Int32) × (Nat → Int32) × (Nat → Int32) × (Nat → Int32)) → Option (Int32 × Int32 × Int32 × Int32 × Int32 × Int32 × Int32 × (Nat → Int32) × (Nat → Int32) × (Nat → Int32) × (Nat → Int32) × (Nat → Int32) × (Nat → Int32) × (Nat → Int32) × (Nat → Int32) × (Nat → Int32))) (tokenStart0 tokenEnd0 token0 value0 error0 errorOffset0 given0 : Int32) (classAxles2 classPercent3 draft4 linkFrom5 linkMinutes6 linkPrice7 linkTo8 tagAxles9 tagPlate10 : Nat → Int32) : Option (Int32 × Int32 × Int32 × Int32 × Int32 × Int32 × Int32 × (Nat → Int32) × (Nat → Int32) × (Nat → Int32) × (Nat → Int32) × (Nat → Int32) × (Nat → Int32) × (Nat → Int32) × (Nat → Int32) × (Nat → Int32)) :=
  if error0 = 0 then
    if token0 = 0 then
      f_X10_readNetwork_b109 F textLength0 buffer1 tokenStart0 tokenEnd0 token0 value0 error0 errorOffset0 given0 classAxles2 classPercent3 draft4 linkFrom5 linkMinutes6 linkPrice7 linkTo8 tagAxles9 tagPlate10
    else
      bd16 (f_X10_statement F textLength0 tokenStart0 tokenEnd0 token0 value0 error0 errorOffset0 given0 buffer1 classAxles2 classPercent3 draft4 linkFrom5 linkMinutes6 linkPrice7 linkTo8 tagAxles9 tagPlate10) fun o13 o14 o15 o16 o17 o18 o19 o20 o21 o22 o23 o24 o25 o26 o27 o28 =>
      if o15 = 59 then
        f_X10_readNetwork_b95 F k62 textLength0 buffer1 1 o13 o14 o15 o16 o17 o18 o19 o20 o21 o22 o23 o24 o25 o26 o27 o28
      else
        f_X10_readNetwork_b95 F k62 textLength0 buffer1 0 o13 o14 o15 o16 o17 o18 o19 o20 o21 o22 o23 o24 o25 o26 o27 o28
  else
    f_X10_readNetwork_b109 F textLength0 buffer1 tokenStart0 tokenEnd0 token0 value0 error0 errorOffset0 given0 classAxles2 classPercent3 draft4 linkFrom5 linkMinutes6 linkPrice7 linkTo8 tagAxles9 tagPlate10
def f_X10_readNetwork_L62 (F : Nat) (textLength0 : Int32) (buffer1 : Nat → Int32) (z : Int32 × Int32 × Int32 × Int32 × Int32 × Int32 × Int32 × (Nat → Int32) × (Nat → Int32) × (Nat → Int32) × (Nat → Int32) × (Nat → Int32) × (Nat → Int32) × (Nat → Int32) × (Nat → Int32) × (Nat → Int32)) : Option (Int32 × Int32 × Int32 × Int32 × Int32 × Int32 × Int32 × (Nat → Int32) × (Nat → Int32) × (Nat → Int32) × (Nat → Int32) × (Nat → Int32) × (Nat → Int32) × (Nat → Int32) × (Nat → Int32) × (Nat → Int32)) := lp (fun k z => f_X10_readNetwork_h62 F textLength0 buffer1 k z.1 z.2.1 z.2.2.1 z.2.2.2.1 z.2.2.2.2.1 z.2.2.2.2.2.1 z.2.2.2.2.2.2.1 z.2.2.2.2.2.2.2.1 z.2.2.2.2.2.2.2.2.1 z.2.2.2.2.2.2.2.2.2.1 z.2.2.2.2.2.2.2.2.2.2.1 z.2.2.2.2.2.2.2.2.2.2.2.1 z.2.2.2.2.2.2.2.2.2.2.2.2.1 z.2.2.2.2.2.2.2.2.2.2.2.2.2.1 z.2.2.2.2.2.2.2.2.2.2.2.2.2.2.1 z.2.2.2.2.2.2.2.2.2.2.2.2.2.2.2) F z
def f_X10_readNetwork_b51 (F : Nat) (textLength0 : Int32) (buffer1 : Nat → Int32) (s0 tokenStart0 tokenEnd0 token0 value0 error0 errorOffset0 given0 : Int32) (classAxles2 classPercent3 draft4 linkFrom5 linkMinutes6 linkPrice7 linkTo8 tagAxles9 tagPlate10 : Nat → Int32) : Option (Int32 × Int32 × Int32 × Int32 × Int32 × Int32 × Int32 × (Nat → Int32) × (Nat → Int32) × (Nat → Int32) × (Nat → Int32) × (Nat → Int32) × (Nat → Int32) × (Nat → Int32) × (Nat → Int32) × (Nat → Int32)) :=
  bd3 (f_X10_must F s0 1 tokenStart0 error0 errorOffset0) fun r31 o32 o33 =>
  if r31 = 0 then
    f_X10_readNetwork_L62 F textLength0 buffer1 (tokenStart0, tokenEnd0, token0, value0, o32, o33, given0, classAxles2, classPercent3, draft4, linkFrom5, linkMinutes6, linkPrice7, linkTo8, tagAxles9, tagPlate10)
  else
    bd4 (f_X10_nextToken F textLength0 tokenStart0 tokenEnd0 token0 value0 buffer1) fun o36 o37 o38 o39 =>
    f_X10_readNetwork_L62 F textLength0 buffer1 (o36, o37, o38, o39, o32, o33, given0, classAxles2, classPercent3, draft4, linkFrom5, linkMinutes6, linkPrice7, linkTo8, tagAxles9, tagPlate10)
def f_X10_readNetwork (F : Nat) (textLength0 tokenStart0 tokenEnd0 token0 value0 error0 errorOffset0 given0 : Int32) (buffer1 classAxles2 classPercent3 draft4 linkFrom5 linkMinutes6 linkPrice7 linkTo8 tagAxles9 tagPlate10 : Nat → Int32) : Option (Int32 × Int32 × Int32 × Int32 × Int32 × Int32 × Int32 × (Nat → Int32) × (Nat → Int32) × (Nat → Int32) × (Nat → Int32) × (Nat → Int32) × (Nat → Int32) × (Nat → Int32) × (Nat → Int32) × (Nat → Int32)) :=
  bd4 (f_X10_nextToken F textLength0 tokenStart0 tokenEnd0 token0 value0 buffer1) fun o41 o42 o43 o44 =>
  bd1 (f_X10_is F 0 textLength0 o41 o42 o43 error0 buffer1) fun r46 =>
  bd3 (f_X10_must F r46 1 o41 error0 errorOffset0) fun r48 o49 o50 =>
  if r48 = 0 then
    some (o41, o42, o43, o44, o49, o50, given0, classAxles2, classPercent3, draft4, linkFrom5, linkMinutes6, linkPrice7, linkTo8, tagAxles9, tagPlate10)
  else
    bd4 (f_X10_nextToken F textLength0 o41 o42 o43 o44 buffer1) fun o53 o54 o55 o56 =>
    bd7 (f_X10_number F 2 10 textLength0 o53 o54 o55 o56 o49 o50 buffer1) fun r58 o59 o60 o61 o62 o63 o64 =>
    wr draft4 7 0 r58 fun f66 =>
    if o61 = 59 then
      f_X10_readNetwork_b51 F textLength0 buffer1 1 o59 o60 o61 o62 o63 o64 given0 classAxles2 classPercent3 f66 linkFrom5 linkMinutes6 linkPrice7 linkTo8 tagAxles9 tagPlate10
    else
      f_X10_readNetwork_b51 F textLength0 buffer1 0 o59 o60 o61 o62 o63 o64 given0 classAxles2 classPercent3 f66 linkFrom5 linkMinutes6 linkPrice7 linkTo8 tagAxles9 tagPlate10
set_option maxHeartbeats 4000000 in
set_option maxRecDepth 100000 in
theorem c_X10_readNetwork (l : Launch) (g : GT) (F : Nat) (h0 h1 h2 h3 h4 h5 h6 h7 h8 h9 h10 : Nat) (v0_0 v0_2 v0_10 v0_21 v0_22 v0_23 v0_24 v0_25 v0_26 v0_27 v0_28 v0_29 v0_30 v0_31 v0_32 v0_33 v0_34 v0_35 v0_36 v0_37 : Value) (textLength0 tokenStart0 tokenEnd0 token0 value0 error0 errorOffset0 given0 : Int32) (buffer1 classAxles2 classPercent3 draft4 linkFrom5 linkMinutes6 linkPrice7 linkTo8 tagAxles9 tagPlate10 : Nat → Int32) (o_tokenStart0 o_tokenEnd0 o_token0 o_value0 o_error0 o_errorOffset0 o_given0 : Int32) (o_classAxles2 o_classPercent3 o_draft4 o_linkFrom5 o_linkMinutes6 o_linkPrice7 o_linkTo8 o_tagAxles9 o_tagPlate10 : Nat → Int32) (sz : Nat) (hf : f_X10_readNetwork F textLength0 tokenStart0 tokenEnd0 token0 value0 error0 errorOffset0 given0 buffer1 classAxles2 classPercent3 draft4 linkFrom5 linkMinutes6 linkPrice7 linkTo8 tagAxles9 tagPlate10 = some (o_tokenStart0, o_tokenEnd0, o_token0, o_value0, o_error0, o_errorOffset0, o_given0, o_classAxles2, o_classPercent3, o_draft4, o_linkFrom5, o_linkMinutes6, o_linkPrice7, o_linkTo8, o_tagAxles9, o_tagPlate10)) : CV l m_X10_readNetwork (rml 6 0 0) g (w_X10_readNetwork g h0 h1 h2 h3 h4 h5 h6 h7 h8 h9 h10 v0_0 v0_2 v0_10 v0_21 v0_22 v0_23 v0_24 v0_25 v0_26 v0_27 v0_28 v0_29 v0_30 v0_31 v0_32 v0_33 v0_34 v0_35 v0_36 v0_37 textLength0 tokenStart0 tokenEnd0 token0 value0 error0 errorOffset0 given0 buffer1 classAxles2 classPercent3 draft4 linkFrom5 linkMinutes6 linkPrice7 linkTo8 tagAxles9 tagPlate10) (fun _ => w_X10_readNetwork g h0 h1 h2 h3 h4 h5 h6 h7 h8 h9 h10 v0_0 v0_2 v0_10 v0_21 v0_22 v0_23 v0_24 v0_25 v0_26 v0_27 v0_28 v0_29 v0_30 v0_31 v0_32 v0_33 v0_34 v0_35 v0_36 v0_37 textLength0 o_tokenStart0 o_tokenEnd0 o_token0 o_value0 o_error0 o_errorOffset0 o_given0 buffer1 o_classAxles2 o_classPercent3 o_draft4 o_linkFrom5 o_linkMinutes6 o_linkPrice7 o_linkTo8 o_tagAxles9 o_tagPlate10) sz [.ref h0] := by
  refine en_v (by decide) (Nat.le_of_ble_eq_true rfl) (fun p e s m args below meth c A ls C w hl => ?_)
  have C : Cx p s m args meth c RX10 m_X10_readNetwork g A := C
  have hx := C.1
  have hb : c.code = cX10_readNetwork := C.2.1
  have hl : lv_has ls 1 [(0, .ref h0)] := hl
  obtain ⟨Q, hQ⟩ : ∃ Q, Q = QV below args s g A (fun _ => w_X10_readNetwork g h0 h1 h2 h3 h4 h5 h6 h7 h8 h9 h10 v0_0 v0_2 v0_10 v0_21 v0_22 v0_23 v0_24 v0_25 v0_26 v0_27 v0_28 v0_29 v0_30 v0_31 v0_32 v0_33 v0_34 v0_35 v0_36 v0_37 textLength0 o_tokenStart0 o_tokenEnd0 o_token0 o_value0 o_error0 o_errorOffset0 o_given0 buffer1 o_classAxles2 o_classPercent3 o_draft4 o_linkFrom5 o_linkMinutes6 o_linkPrice7 o_linkTo8 o_tagAxles9 o_tagPlate10) 0 0 := ⟨_, rfl⟩
  suffices hW : W p l e (rml 6 0 0) s m args below meth c s.heap [] 0 0 Q (F0 m 0 ls []) from (by rw [hQ] at hW; exact hW)
  unfold f_X10_readNetwork at hf
  have b109 : ∀ (tokenStart0 tokenEnd0 token0 value0 error0 errorOffset0 given0 : Int32) (classAxles2 classPercent3 draft4 linkFrom5 linkMinutes6 linkPrice7 linkTo8 tagAxles9 tagPlate10 : Nat → Int32) (H : Heap) (locs : List Loc) (ls : Array Slot), f_X10_readNetwork_b109 F textLength0 buffer1 tokenStart0 tokenEnd0 token0 value0 error0 errorOffset0 given0 classAxles2 classPercent3 draft4 linkFrom5 linkMinutes6 linkPrice7 linkTo8 tagAxles9 tagPlate10 = some (o_tokenStart0, o_tokenEnd0, o_token0, o_value0, o_error0, o_errorOffset0, o_given0, o_classAxles2, o_classPercent3, o_draft4, o_linkFrom5, o_linkMinutes6, o_linkPrice7, o_linkTo8, o_tagAxles9, o_tagPlate10) → Wd g A (w_X10_readNetwork g h0 h1 h2 h3 h4 h5 h6 h7 h8 h9 h10 v0_0 v0_2 v0_10 v0_21 v0_22 v0_23 v0_24 v0_25 v0_26 v0_27 v0_28 v0_29 v0_30 v0_31 v0_32 v0_33 v0_34 v0_35 v0_36 v0_37 textLength0 tokenStart0 tokenEnd0 token0 value0 error0 errorOffset0 given0 buffer1 classAxles2 classPercent3 draft4 linkFrom5 linkMinutes6 linkPrice7 linkTo8 tagAxles9 tagPlate10) s.heap H locs → lv_has ls 1 [] → W p l e (rml 6 0 0) s m args below meth c H locs 0 0 Q (F0 m 109 ls []) := by
    intro tokenStart0 tokenEnd0 token0 value0 error0 errorOffset0 given0 classAxles2 classPercent3 draft4 linkFrom5 linkMinutes6 linkPrice7 linkTo8 tagAxles9 tagPlate10 H locs ls hf w hl
    unfold f_X10_readNetwork_b109 at hf
    obtain ⟨e1, e2, e3, e4, e5, e6, e7, e8, e9, e10, e11, e12, e13, e14, e15, e16⟩ := tp16 hf
    rw [hQ]
    exact rt_v C w rfl (fun _ => 0) (by rw [← e1, ← e2, ← e3, ← e4, ← e5, ← e6, ← e7, ← e8, ← e9, ← e10, ← e11, ← e12, ← e13, ← e14, ← e15, ← e16]) dX10_readNetwork_109
  have L62 : ∀ (z : Int32 × Int32 × Int32 × Int32 × Int32 × Int32 × Int32 × (Nat → Int32) × (Nat → Int32) × (Nat → Int32) × (Nat → Int32) × (Nat → Int32) × (Nat → Int32) × (Nat → Int32) × (Nat → Int32) × (Nat → Int32)), f_X10_readNetwork_L62 F textLength0 buffer1 z = some (o_tokenStart0, o_tokenEnd0, o_token0, o_value0, o_error0, o_errorOffset0, o_given0, o_classAxles2, o_classPercent3, o_draft4, o_linkFrom5, o_linkMinutes6, o_linkPrice7, o_linkTo8, o_tagAxles9, o_tagPlate10) → ∀ (H : Heap) (locs : List Loc) (ls : Array Slot), Wd g A (w_X10_readNetwork g h0 h1 h2 h3 h4 h5 h6 h7 h8 h9 h10 v0_0 v0_2 v0_10 v0_21 v0_22 v0_23 v0_24 v0_25 v0_26 v0_27 v0_28 v0_29 v0_30 v0_31 v0_32 v0_33 v0_34 v0_35 v0_36 v0_37 textLength0 z.1 z.2.1 z.2.2.1 z.2.2.2.1 z.2.2.2.2.1 z.2.2.2.2.2.1 z.2.2.2.2.2.2.1 buffer1 z.2.2.2.2.2.2.2.1 z.2.2.2.2.2.2.2.2.1 z.2.2.2.2.2.2.2.2.2.1 z.2.2.2.2.2.2.2.2.2.2.1 z.2.2.2.2.2.2.2.2.2.2.2.1 z.2.2.2.2.2.2.2.2.2.2.2.2.1 z.2.2.2.2.2.2.2.2.2.2.2.2.2.1 z.2.2.2.2.2.2.2.2.2.2.2.2.2.2.1 z.2.2.2.2.2.2.2.2.2.2.2.2.2.2.2) s.heap H locs → lv_has ls 1 [(0, .ref h0)] → W p l e (rml 6 0 0) s m args below meth c H locs 0 0 Q (F0 m 62 ls []) := by
    intro z hf
    refine lp_W (r := (o_tokenStart0, o_tokenEnd0, o_token0, o_value0, o_error0, o_errorOffset0, o_given0, o_classAxles2, o_classPercent3, o_draft4, o_linkFrom5, o_linkMinutes6, o_linkPrice7, o_linkTo8, o_tagAxles9, o_tagPlate10)) (fun (z : Int32 × Int32 × Int32 × Int32 × Int32 × Int32 × Int32 × (Nat → Int32) × (Nat → Int32) × (Nat → Int32) × (Nat → Int32) × (Nat → Int32) × (Nat → Int32) × (Nat → Int32) × (Nat → Int32) × (Nat → Int32)) => ∀ (H : Heap) (locs : List Loc) (ls : Array Slot), Wd g A (w_X10_readNetwork g h0 h1 h2 h3 h4 h5 h6 h7 h8 h9 h10 v0_0 v0_2 v0_10 v0_21 v0_22 v0_23 v0_24 v0_25 v0_26 v0_27 v0_28 v0_29 v0_30 v0_31 v0_32 v0_33 v0_34 v0_35 v0_36 v0_37 textLength0 z.1 z.2.1 z.2.2.1 z.2.2.2.1 z.2.2.2.2.1 z.2.2.2.2.2.1 z.2.2.2.2.2.2.1 buffer1 z.2.2.2.2.2.2.2.1 z.2.2.2.2.2.2.2.2.1 z.2.2.2.2.2.2.2.2.2.1 z.2.2.2.2.2.2.2.2.2.2.1 z.2.2.2.2.2.2.2.2.2.2.2.1 z.2.2.2.2.2.2.2.2.2.2.2.2.1 z.2.2.2.2.2.2.2.2.2.2.2.2.2.1 z.2.2.2.2.2.2.2.2.2.2.2.2.2.2.1 z.2.2.2.2.2.2.2.2.2.2.2.2.2.2.2) s.heap H locs → lv_has ls 1 [(0, .ref h0)] → W p l e (rml 6 0 0) s m args below meth c H locs 0 0 Q (F0 m 62 ls [])) (fun k62 z ih62 hf => ?_) F z hf
    obtain ⟨tokenStart0, tokenEnd0, token0, value0, error0, errorOffset0, given0, classAxles2, classPercent3, draft4, linkFrom5, linkMinutes6, linkPrice7, linkTo8, tagAxles9, tagPlate10⟩ := z
    intro H locs ls w hl
    try dsimp only at hf w hl ⊢
    unfold f_X10_readNetwork_h62 at hf
    have b95 : ∀ (s0 tokenStart0 tokenEnd0 token0 value0 error0 errorOffset0 given0 : Int32) (classAxles2 classPercent3 draft4 linkFrom5 linkMinutes6 linkPrice7 linkTo8 tagAxles9 tagPlate10 : Nat → Int32) (H : Heap) (locs : List Loc) (ls : Array Slot), f_X10_readNetwork_b95 F k62 textLength0 buffer1 s0 tokenStart0 tokenEnd0 token0 value0 error0 errorOffset0 given0 classAxles2 classPercent3 draft4 linkFrom5 linkMinutes6 linkPrice7 linkTo8 tagAxles9 tagPlate10 = some (o_tokenStart0, o_tokenEnd0, o_token0, o_value0, o_error0, o_errorOffset0, o_given0, o_classAxles2, o_classPercent3, o_draft4, o_linkFrom5, o_linkMinutes6, o_linkPrice7, o_linkTo8, o_tagAxles9, o_tagPlate10) → Wd g A (w_X10_readNetwork g h0 h1 h2 h3 h4 h5 h6 h7 h8 h9 h10 v0_0 v0_2 v0_10 v0_21 v0_22 v0_23 v0_24 v0_25 v0_26 v0_27 v0_28 v0_29 v0_30 v0_31 v0_32 v0_33 v0_34 v0_35 v0_36 v0_37 textLength0 tokenStart0 tokenEnd0 token0 value0 error0 errorOffset0 given0 buffer1 classAxles2 classPercent3 draft4 linkFrom5 linkMinutes6 linkPrice7 linkTo8 tagAxles9 tagPlate10) s.heap H locs → lv_has ls 1 [(0, .ref h0)] → W p l e (rml 6 0 0) s m args below meth c H locs 0 0 Q (F0 m 95 ls [.int s0, .ref h0]) := by
      intro s0 tokenStart0 tokenEnd0 token0 value0 error0 errorOffset0 given0 classAxles2 classPercent3 draft4 linkFrom5 linkMinutes6 linkPrice7 linkTo8 tagAxles9 tagPlate10 H locs ls hf w hl
      unfold f_X10_readNetwork_b95 at hf
      refine lv_iconst (v := 1) hx hb dX10_readNetwork_95 (by decide) ?_
      obtain ⟨r1, o2, o3, hc4, hf⟩ := bd3_some hf
      refine ca_iV C w (wn := fun _ => w_X10_readNetwork g h0 h1 h2 h3 h4 h5 h6 h7 h8 h9 h10 v0_0 v0_2 v0_10 v0_21 v0_22 v0_23 v0_24 v0_25 v0_26 v0_27 v0_28 v0_29 v0_30 v0_31 v0_32 v0_33 v0_34 v0_35 v0_36 v0_37 textLength0 tokenStart0 tokenEnd0 token0 value0 o2 o3 given0 buffer1 classAxles2 classPercent3 draft4 linkFrom5 linkMinutes6 linkPrice7 linkTo8 tagAxles9 tagPlate10) (pm_k [true, false, false, false, false, false, false, false, false, false, false] rfl rfl (fun _ => Nat.le_of_ble_eq_true rfl) (fun _ => rfl)) (c_X10_must l g F h0 v0_0 (.ref h1) v0_2 (.int textLength0) (.int tokenEnd0) (.int token0) (.int value0) v0_10 (.ref h4) (.ref h5) (.ref h8) (.ref h6) (.ref h7) (.ref h2) (.ref h3) (.ref h10) (.ref h9) (.int given0) v0_21 v0_22 v0_23 v0_24 v0_25 v0_26 v0_27 v0_28 v0_29 v0_30 v0_31 v0_32 v0_33 v0_34 v0_35 v0_36 v0_37 s0 1 tokenStart0 error0 errorOffset0 r1 o2 o3 _ hc4) k_X10_141 (rm_le (by decide) (by decide)) 0 10 rfl rfl rfl rfl hl.1 rfl (Nat.le_of_ble_eq_true rfl) dX10_readNetwork_96 ⟨Nat.le_of_ble_eq_true rfl, Nat.le_of_ble_eq_true rfl⟩ (cells2 := 0) (slots2 := 0) ⟨rfl, rfl⟩ (fun _ H locs w => ?_)
      refine lv_if_eq (tgt := 62) hx hb dX10_readNetwork_99 (by decide) (fun c5 => ?_) (fun c5 => ?_)
      · replace hf := it_t c5 hf
        exact ih62 (tokenStart0, tokenEnd0, token0, value0, o2, o3, given0, classAxles2, classPercent3, draft4, linkFrom5, linkMinutes6, linkPrice7, linkTo8, tagAxles9, tagPlate10) hf _ _ _ w (lv_sub hl [0] rfl)
      · replace hf := it_f c5 hf
        refine lv_aload_n hx hb dX10_readNetwork_102 rfl (lv_at hl 0 rfl) ?_
        obtain ⟨o6, o7, o8, o9, hc10, hf⟩ := bd4_some hf
        refine ca_vV C w (wn := fun _ => w_X10_readNetwork g h0 h1 h2 h3 h4 h5 h6 h7 h8 h9 h10 v0_0 v0_2 v0_10 v0_21 v0_22 v0_23 v0_24 v0_25 v0_26 v0_27 v0_28 v0_29 v0_30 v0_31 v0_32 v0_33 v0_34 v0_35 v0_36 v0_37 textLength0 o6 o7 o8 o9 o2 o3 given0 buffer1 classAxles2 classPercent3 draft4 linkFrom5 linkMinutes6 linkPrice7 linkTo8 tagAxles9 tagPlate10) (pm_k [true, true, false, false, false, false, false, false, false, false, false] rfl rfl (fun _ => Nat.le_of_ble_eq_true rfl) (fun _ => rfl)) (c_X10_nextToken l g F h0 h1 v0_0 v0_2 (.int o2) (.int o3) v0_10 (.ref h4) (.ref h5) (.ref h8) (.ref h6) (.ref h7) (.ref h2) (.ref h3) (.ref h10) (.ref h9) (.int given0) v0_21 v0_22 v0_23 v0_24 v0_25 v0_26 v0_27 v0_28 v0_29 v0_30 v0_31 v0_32 v0_33 v0_34 v0_35 v0_36 v0_37 textLength0 tokenStart0 tokenEnd0 token0 value0 buffer1 o6 o7 o8 o9 _ hc10) k_X10_145 (rm_le (by decide) (by decide)) 0 10 rfl rfl rfl rfl hl.1 rfl (Nat.le_of_ble_eq_true rfl) dX10_readNetwork_103 ⟨Nat.le_of_ble_eq_true rfl, Nat.le_of_ble_eq_true rfl⟩ (cells2 := 0) (slots2 := 0) ⟨rfl, rfl⟩ (fun _ H locs w => ?_)
        refine lv_goto (tgt := 62) hx hb dX10_readNetwork_106 (by decide) ?_
        exact ih62 (o6, o7, o8, o9, o2, o3, given0, classAxles2, classPercent3, draft4, linkFrom5, linkMinutes6, linkPrice7, linkTo8, tagAxles9, tagPlate10) hf _ _ _ w (lv_sub hl [0] rfl)
    refine lv_aload_n hx hb dX10_readNetwork_62 rfl (lv_at hl 0 rfl) ?_
    refine g_X10_126 C w 0 rfl rfl dX10_readNetwork_63 ?_
    refine lv_if_ne (tgt := 109) hx hb dX10_readNetwork_66 (by decide) (fun c11 => ?_) (fun c11 => ?_)
    · replace hf := it_f c11 hf
      exact b109 tokenStart0 tokenEnd0 token0 value0 error0 errorOffset0 given0 classAxles2 classPercent3 draft4 linkFrom5 linkMinutes6 linkPrice7 linkTo8 tagAxles9 tagPlate10 _ _ _ hf w (lv_sub hl [] rfl)
    · replace hf := it_t c11 hf
      refine lv_aload_n hx hb dX10_readNetwork_69 rfl (lv_at hl 0 rfl) ?_
      refine g_X10_108 C w 0 rfl rfl dX10_readNetwork_70 ?_
      refine lv_if_eq (tgt := 109) hx hb dX10_readNetwork_73 (by decide) (fun c12 => ?_) (fun c12 => ?_)
      · replace hf := it_t c12 hf
        exact b109 tokenStart0 tokenEnd0 token0 value0 error0 errorOffset0 given0 classAxles2 classPercent3 draft4 linkFrom5 linkMinutes6 linkPrice7 linkTo8 tagAxles9 tagPlate10 _ _ _ hf w (lv_sub hl [] rfl)
      · replace hf := it_f c12 hf
        refine lv_aload_n hx hb dX10_readNetwork_76 rfl (lv_at hl 0 rfl) ?_
        obtain ⟨o13, o14, o15, o16, o17, o18, o19, o20, o21, o22, o23, o24, o25, o26, o27, o28, hc29, hf⟩ := bd16_some hf
        refine ca_vV C w (wn := fun _ => w_X10_readNetwork g h0 h1 h2 h3 h4 h5 h6 h7 h8 h9 h10 v0_0 v0_2 v0_10 v0_21 v0_22 v0_23 v0_24 v0_25 v0_26 v0_27 v0_28 v0_29 v0_30 v0_31 v0_32 v0_33 v0_34 v0_35 v0_36 v0_37 textLength0 o13 o14 o15 o16 o17 o18 o19 buffer1 o20 o21 o22 o23 o24 o25 o26 o27 o28) (pm_k [true, true, true, true, true, true, true, true, true, true, true] rfl rfl (fun _ => Nat.le_of_ble_eq_true rfl) (fun _ => rfl)) (c_X10_statement l g F h0 h1 h2 h3 h4 h5 h6 h7 h8 h9 h10 v0_0 v0_2 v0_10 v0_21 v0_22 v0_23 v0_24 v0_25 v0_26 v0_27 v0_28 v0_29 v0_30 v0_31 v0_32 v0_33 v0_34 v0_35 v0_36 v0_37 textLength0 tokenStart0 tokenEnd0 token0 value0 error0 errorOffset0 given0 buffer1 classAxles2 classPercent3 draft4 linkFrom5 linkMinutes6 linkPrice7 linkTo8 tagAxles9 tagPlate10 o13 o14 o15 o16 o17 o18 o19 o20 o21 o22 o23 o24 o25 o26 o27 o28 _ hc29) k_X10_199 (rm_le (by decide) (by decide)) 0 10 rfl rfl rfl rfl hl.1 rfl (Nat.le_of_ble_eq_true rfl) dX10_readNetwork_77 ⟨Nat.le_of_ble_eq_true rfl, Nat.le_of_ble_eq_true rfl⟩ (cells2 := 0) (slots2 := 0) ⟨rfl, rfl⟩ (fun _ H locs w => ?_)
        refine lv_aload_n hx hb dX10_readNetwork_80 rfl (lv_at hl 0 rfl) ?_
        refine lv_aload_n hx hb dX10_readNetwork_81 rfl (lv_at hl 0 rfl) ?_
        refine g_X10_108 C w 0 rfl rfl dX10_readNetwork_82 ?_
        refine lv_bipush (v := 59) hx hb dX10_readNetwork_85 (by decide) ?_
        refine lv_icmp_ne (tgt := 94) hx hb dX10_readNetwork_87 (by decide) (fun c30 => ?_) (fun c30 => ?_)
        · replace hf := it_f c30 hf
          refine lv_iconst (v := 0) hx hb dX10_readNetwork_94 (by decide) ?_
          exact b95 0 o13 o14 o15 o16 o17 o18 o19 o20 o21 o22 o23 o24 o25 o26 o27 o28 _ _ _ hf w (lv_sub hl [0] rfl)
        · replace hf := it_t c30 hf
          refine lv_iconst (v := 1) hx hb dX10_readNetwork_90 (by decide) ?_
          refine lv_goto (tgt := 95) hx hb dX10_readNetwork_91 (by decide) ?_
          exact b95 1 o13 o14 o15 o16 o17 o18 o19 o20 o21 o22 o23 o24 o25 o26 o27 o28 _ _ _ hf w (lv_sub hl [0] rfl)
  have b51 : ∀ (s0 tokenStart0 tokenEnd0 token0 value0 error0 errorOffset0 given0 : Int32) (classAxles2 classPercent3 draft4 linkFrom5 linkMinutes6 linkPrice7 linkTo8 tagAxles9 tagPlate10 : Nat → Int32) (H : Heap) (locs : List Loc) (ls : Array Slot), f_X10_readNetwork_b51 F textLength0 buffer1 s0 tokenStart0 tokenEnd0 token0 value0 error0 errorOffset0 given0 classAxles2 classPercent3 draft4 linkFrom5 linkMinutes6 linkPrice7 linkTo8 tagAxles9 tagPlate10 = some (o_tokenStart0, o_tokenEnd0, o_token0, o_value0, o_error0, o_errorOffset0, o_given0, o_classAxles2, o_classPercent3, o_draft4, o_linkFrom5, o_linkMinutes6, o_linkPrice7, o_linkTo8, o_tagAxles9, o_tagPlate10) → Wd g A (w_X10_readNetwork g h0 h1 h2 h3 h4 h5 h6 h7 h8 h9 h10 v0_0 v0_2 v0_10 v0_21 v0_22 v0_23 v0_24 v0_25 v0_26 v0_27 v0_28 v0_29 v0_30 v0_31 v0_32 v0_33 v0_34 v0_35 v0_36 v0_37 textLength0 tokenStart0 tokenEnd0 token0 value0 error0 errorOffset0 given0 buffer1 classAxles2 classPercent3 draft4 linkFrom5 linkMinutes6 linkPrice7 linkTo8 tagAxles9 tagPlate10) s.heap H locs → lv_has ls 1 [(0, .ref h0)] → W p l e (rml 6 0 0) s m args below meth c H locs 0 0 Q (F0 m 51 ls [.int s0, .ref h0]) := by
    intro s0 tokenStart0 tokenEnd0 token0 value0 error0 errorOffset0 given0 classAxles2 classPercent3 draft4 linkFrom5 linkMinutes6 linkPrice7 linkTo8 tagAxles9 tagPlate10 H locs ls hf w hl
    unfold f_X10_readNetwork_b51 at hf
    refine lv_iconst (v := 1) hx hb dX10_readNetwork_51 (by decide) ?_
    obtain ⟨r31, o32, o33, hc34, hf⟩ := bd3_some hf
    refine ca_iV C w (wn := fun _ => w_X10_readNetwork g h0 h1 h2 h3 h4 h5 h6 h7 h8 h9 h10 v0_0 v0_2 v0_10 v0_21 v0_22 v0_23 v0_24 v0_25 v0_26 v0_27 v0_28 v0_29 v0_30 v0_31 v0_32 v0_33 v0_34 v0_35 v0_36 v0_37 textLength0 tokenStart0 tokenEnd0 token0 value0 o32 o33 given0 buffer1 classAxles2 classPercent3 draft4 linkFrom5 linkMinutes6 linkPrice7 linkTo8 tagAxles9 tagPlate10) (pm_k [true, false, false, false, false, false, false, false, false, false, false] rfl rfl (fun _ => Nat.le_of_ble_eq_true rfl) (fun _ => rfl)) (c_X10_must l g F h0 v0_0 (.ref h1) v0_2 (.int textLength0) (.int tokenEnd0) (.int token0) (.int value0) v0_10 (.ref h4) (.ref h5) (.ref h8) (.ref h6) (.ref h7) (.ref h2) (.ref h3) (.ref h10) (.ref h9) (.int given0) v0_21 v0_22 v0_23 v0_24 v0_25 v0_26 v0_27 v0_28 v0_29 v0_30 v0_31 v0_32 v0_33 v0_34 v0_35 v0_36 v0_37 s0 1 tokenStart0 error0 errorOffset0 r31 o32 o33 _ hc34) k_X10_141 (rm_le (by decide) (by decide)) 0 10 rfl rfl rfl rfl hl.1 rfl (Nat.le_of_ble_eq_true rfl) dX10_readNetwork_52 ⟨Nat.le_of_ble_eq_true rfl, Nat.le_of_ble_eq_true rfl⟩ (cells2 := 0) (slots2 := 0) ⟨rfl, rfl⟩ (fun _ H locs w => ?_)
    refine lv_if_eq (tgt := 62) hx hb dX10_readNetwork_55 (by decide) (fun c35 => ?_) (fun c35 => ?_)
    · replace hf := it_t c35 hf
      exact L62 (tokenStart0, tokenEnd0, token0, value0, o32, o33, given0, classAxles2, classPercent3, draft4, linkFrom5, linkMinutes6, linkPrice7, linkTo8, tagAxles9, tagPlate10) hf _ _ _ w (lv_sub hl [0] rfl)
    · replace hf := it_f c35 hf
      refine lv_aload_n hx hb dX10_readNetwork_58 rfl (lv_at hl 0 rfl) ?_
      obtain ⟨o36, o37, o38, o39, hc40, hf⟩ := bd4_some hf
      refine ca_vV C w (wn := fun _ => w_X10_readNetwork g h0 h1 h2 h3 h4 h5 h6 h7 h8 h9 h10 v0_0 v0_2 v0_10 v0_21 v0_22 v0_23 v0_24 v0_25 v0_26 v0_27 v0_28 v0_29 v0_30 v0_31 v0_32 v0_33 v0_34 v0_35 v0_36 v0_37 textLength0 o36 o37 o38 o39 o32 o33 given0 buffer1 classAxles2 classPercent3 draft4 linkFrom5 linkMinutes6 linkPrice7 linkTo8 tagAxles9 tagPlate10) (pm_k [true, true, false, false, false, false, false, false, false, false, false] rfl rfl (fun _ => Nat.le_of_ble_eq_true rfl) (fun _ => rfl)) (c_X10_nextToken l g F h0 h1 v0_0 v0_2 (.int o32) (.int o33) v0_10 (.ref h4) (.ref h5) (.ref h8) (.ref h6) (.ref h7) (.ref h2) (.ref h3) (.ref h10) (.ref h9) (.int given0) v0_21 v0_22 v0_23 v0_24 v0_25 v0_26 v0_27 v0_28 v0_29 v0_30 v0_31 v0_32 v0_33 v0_34 v0_35 v0_36 v0_37 textLength0 tokenStart0 tokenEnd0 token0 value0 buffer1 o36 o37 o38 o39 _ hc40) k_X10_145 (rm_le (by decide) (by decide)) 0 10 rfl rfl rfl rfl hl.1 rfl (Nat.le_of_ble_eq_true rfl) dX10_readNetwork_59 ⟨Nat.le_of_ble_eq_true rfl, Nat.le_of_ble_eq_true rfl⟩ (cells2 := 0) (slots2 := 0) ⟨rfl, rfl⟩ (fun _ H locs w => ?_)
      exact L62 (o36, o37, o38, o39, o32, o33, given0, classAxles2, classPercent3, draft4, linkFrom5, linkMinutes6, linkPrice7, linkTo8, tagAxles9, tagPlate10) hf _ _ _ w (lv_sub hl [0] rfl)
  refine lv_aload_n hx hb dX10_readNetwork_0 rfl (lv_at hl 0 rfl) ?_
  obtain ⟨o41, o42, o43, o44, hc45, hf⟩ := bd4_some hf
  refine ca_vV C w (wn := fun _ => w_X10_readNetwork g h0 h1 h2 h3 h4 h5 h6 h7 h8 h9 h10 v0_0 v0_2 v0_10 v0_21 v0_22 v0_23 v0_24 v0_25 v0_26 v0_27 v0_28 v0_29 v0_30 v0_31 v0_32 v0_33 v0_34 v0_35 v0_36 v0_37 textLength0 o41 o42 o43 o44 error0 errorOffset0 given0 buffer1 classAxles2 classPercent3 draft4 linkFrom5 linkMinutes6 linkPrice7 linkTo8 tagAxles9 tagPlate10) (pm_k [true, true, false, false, false, false, false, false, false, false, false] rfl rfl (fun _ => Nat.le_of_ble_eq_true rfl) (fun _ => rfl)) (c_X10_nextToken l g F h0 h1 v0_0 v0_2 (.int error0) (.int errorOffset0) v0_10 (.ref h4) (.ref h5) (.ref h8) (.ref h6) (.ref h7) (.ref h2) (.ref h3) (.ref h10) (.ref h9) (.int given0) v0_21 v0_22 v0_23 v0_24 v0_25 v0_26 v0_27 v0_28 v0_29 v0_30 v0_31 v0_32 v0_33 v0_34 v0_35 v0_36 v0_37 textLength0 tokenStart0 tokenEnd0 token0 value0 buffer1 o41 o42 o43 o44 _ hc45) k_X10_145 (rm_le (by decide) (by decide)) 0 10 rfl rfl rfl rfl hl.1 rfl (Nat.le_of_ble_eq_true rfl) dX10_readNetwork_1 ⟨Nat.le_of_ble_eq_true rfl, Nat.le_of_ble_eq_true rfl⟩ (cells2 := 0) (slots2 := 0) ⟨rfl, rfl⟩ (fun _ H locs w => ?_)
  refine lv_aload_n hx hb dX10_readNetwork_4 rfl (lv_at hl 0 rfl) ?_
  refine lv_aload_n hx hb dX10_readNetwork_5 rfl (lv_at hl 0 rfl) ?_
  refine va_ldcS hx hb C.2.2.2.1 (C.2.2.2.2.2.2.2.1.2.2.2.1 (RX10, 197, "gantries", 0) (List.mem_of_getElem? (i := 25) rfl)) dX10_readNetwork_6 ?_
  obtain ⟨r46, hc47, hf⟩ := bd1_some hf
  refine ca_iV C w (wn := fun _ => w_X10_readNetwork g h0 h1 h2 h3 h4 h5 h6 h7 h8 h9 h10 v0_0 v0_2 v0_10 v0_21 v0_22 v0_23 v0_24 v0_25 v0_26 v0_27 v0_28 v0_29 v0_30 v0_31 v0_32 v0_33 v0_34 v0_35 v0_36 v0_37 textLength0 o41 o42 o43 o44 error0 errorOffset0 given0 buffer1 classAxles2 classPercent3 draft4 linkFrom5 linkMinutes6 linkPrice7 linkTo8 tagAxles9 tagPlate10) (pm_k [true, true, false, false, false, false, false, false, false, false, false] rfl rfl (fun _ => Nat.le_of_ble_eq_true rfl) (fun _ => rfl)) (c_X10_is l g F h0 h1 v0_0 v0_2 (.int o44) (.int errorOffset0) v0_10 (.ref h4) (.ref h5) (.ref h8) (.ref h6) (.ref h7) (.ref h2) (.ref h3) (.ref h10) (.ref h9) (.int given0) v0_21 v0_22 v0_23 v0_24 v0_25 v0_26 v0_27 v0_28 v0_29 v0_30 v0_31 v0_32 v0_33 v0_34 v0_35 v0_36 v0_37 0 textLength0 o41 o42 o43 error0 buffer1 r46 (by decide) _ hc47) k_X10_170 (rm_le (by decide) (by decide)) 0 10 rfl rfl rfl rfl hl.1 rfl (Nat.le_of_ble_eq_true rfl) dX10_readNetwork_8 ⟨Nat.le_of_ble_eq_true rfl, Nat.le_of_ble_eq_true rfl⟩ (cells2 := 0) (slots2 := 0) ⟨rfl, rfl⟩ (fun _ H locs w => ?_)
  refine lv_iconst (v := 1) hx hb dX10_readNetwork_11 (by decide) ?_
  obtain ⟨r48, o49, o50, hc51, hf⟩ := bd3_some hf
  refine ca_iV C w (wn := fun _ => w_X10_readNetwork g h0 h1 h2 h3 h4 h5 h6 h7 h8 h9 h10 v0_0 v0_2 v0_10 v0_21 v0_22 v0_23 v0_24 v0_25 v0_26 v0_27 v0_28 v0_29 v0_30 v0_31 v0_32 v0_33 v0_34 v0_35 v0_36 v0_37 textLength0 o41 o42 o43 o44 o49 o50 given0 buffer1 classAxles2 classPercent3 draft4 linkFrom5 linkMinutes6 linkPrice7 linkTo8 tagAxles9 tagPlate10) (pm_k [true, false, false, false, false, false, false, false, false, false, false] rfl rfl (fun _ => Nat.le_of_ble_eq_true rfl) (fun _ => rfl)) (c_X10_must l g F h0 v0_0 (.ref h1) v0_2 (.int textLength0) (.int o42) (.int o43) (.int o44) v0_10 (.ref h4) (.ref h5) (.ref h8) (.ref h6) (.ref h7) (.ref h2) (.ref h3) (.ref h10) (.ref h9) (.int given0) v0_21 v0_22 v0_23 v0_24 v0_25 v0_26 v0_27 v0_28 v0_29 v0_30 v0_31 v0_32 v0_33 v0_34 v0_35 v0_36 v0_37 r46 1 o41 error0 errorOffset0 r48 o49 o50 _ hc51) k_X10_141 (rm_le (by decide) (by decide)) 0 10 rfl rfl rfl rfl hl.1 rfl (Nat.le_of_ble_eq_true rfl) dX10_readNetwork_12 ⟨Nat.le_of_ble_eq_true rfl, Nat.le_of_ble_eq_true rfl⟩ (cells2 := 0) (slots2 := 0) ⟨rfl, rfl⟩ (fun _ H locs w => ?_)
  refine lv_if_ne (tgt := 19) hx hb dX10_readNetwork_15 (by decide) (fun c52 => ?_) (fun c52 => ?_)
  · replace hf := it_f c52 hf
    refine lv_aload_n hx hb dX10_readNetwork_19 rfl (lv_at hl 0 rfl) ?_
    obtain ⟨o53, o54, o55, o56, hc57, hf⟩ := bd4_some hf
    refine ca_vV C w (wn := fun _ => w_X10_readNetwork g h0 h1 h2 h3 h4 h5 h6 h7 h8 h9 h10 v0_0 v0_2 v0_10 v0_21 v0_22 v0_23 v0_24 v0_25 v0_26 v0_27 v0_28 v0_29 v0_30 v0_31 v0_32 v0_33 v0_34 v0_35 v0_36 v0_37 textLength0 o53 o54 o55 o56 o49 o50 given0 buffer1 classAxles2 classPercent3 draft4 linkFrom5 linkMinutes6 linkPrice7 linkTo8 tagAxles9 tagPlate10) (pm_k [true, true, false, false, false, false, false, false, false, false, false] rfl rfl (fun _ => Nat.le_of_ble_eq_true rfl) (fun _ => rfl)) (c_X10_nextToken l g F h0 h1 v0_0 v0_2 (.int o49) (.int o50) v0_10 (.ref h4) (.ref h5) (.ref h8) (.ref h6) (.ref h7) (.ref h2) (.ref h3) (.ref h10) (.ref h9) (.int given0) v0_21 v0_22 v0_23 v0_24 v0_25 v0_26 v0_27 v0_28 v0_29 v0_30 v0_31 v0_32 v0_33 v0_34 v0_35 v0_36 v0_37 textLength0 o41 o42 o43 o44 buffer1 o53 o54 o55 o56 _ hc57) k_X10_145 (rm_le (by decide) (by decide)) 0 10 rfl rfl rfl rfl hl.1 rfl (Nat.le_of_ble_eq_true rfl) dX10_readNetwork_20 ⟨Nat.le_of_ble_eq_true rfl, Nat.le_of_ble_eq_true rfl⟩ (cells2 := 0) (slots2 := 0) ⟨rfl, rfl⟩ (fun _ H locs w => ?_)
    refine lv_aload_n hx hb dX10_readNetwork_23 rfl (lv_at hl 0 rfl) ?_
    refine g_X10_17 C w 0 rfl rfl dX10_readNetwork_24 ?_
    refine lv_iconst (v := 0) hx hb dX10_readNetwork_27 (by decide) ?_
    refine lv_aload_n hx hb dX10_readNetwork_28 rfl (lv_at hl 0 rfl) ?_
    refine lv_iconst (v := 2) hx hb dX10_readNetwork_29 (by decide) ?_
    refine lv_bipush (v := 10) hx hb dX10_readNetwork_30 (by decide) ?_
    obtain ⟨r58, o59, o60, o61, o62, o63, o64, hc65, hf⟩ := bd7_some hf
    refine ca_iV C w (wn := fun _ => w_X10_readNetwork g h0 h1 h2 h3 h4 h5 h6 h7 h8 h9 h10 v0_0 v0_2 v0_10 v0_21 v0_22 v0_23 v0_24 v0_25 v0_26 v0_27 v0_28 v0_29 v0_30 v0_31 v0_32 v0_33 v0_34 v0_35 v0_36 v0_37 textLength0 o59 o60 o61 o62 o63 o64 given0 buffer1 classAxles2 classPercent3 draft4 linkFrom5 linkMinutes6 linkPrice7 linkTo8 tagAxles9 tagPlate10) (pm_k [true, true, false, false, false, false, false, false, false, false, false] rfl rfl (fun _ => Nat.le_of_ble_eq_true rfl) (fun _ => rfl)) (c_X10_number l g F h0 h1 v0_0 v0_2 v0_10 (.ref h4) (.ref h5) (.ref h8) (.ref h6) (.ref h7) (.ref h2) (.ref h3) (.ref h10) (.ref h9) (.int given0) v0_21 v0_22 v0_23 v0_24 v0_25 v0_26 v0_27 v0_28 v0_29 v0_30 v0_31 v0_32 v0_33 v0_34 v0_35 v0_36 v0_37 2 10 textLength0 o53 o54 o55 o56 o49 o50 buffer1 r58 o59 o60 o61 o62 o63 o64 _ hc65) k_X10_152 (rm_le (by decide) (by decide)) 0 10 rfl rfl rfl rfl hl.1 rfl (Nat.le_of_ble_eq_true rfl) dX10_readNetwork_32 ⟨Nat.le_of_ble_eq_true rfl, Nat.le_of_ble_eq_true rfl⟩ (cells2 := 0) (slots2 := 0) ⟨rfl, rfl⟩ (fun _ H locs w => ?_)
    obtain ⟨f66, hif66, haf66, hf⟩ := wr_some hf
    refine ias C w 4 rfl hif66 haf66 (ws2 := w_X10_readNetwork g h0 h1 h2 h3 h4 h5 h6 h7 h8 h9 h10 v0_0 v0_2 v0_10 v0_21 v0_22 v0_23 v0_24 v0_25 v0_26 v0_27 v0_28 v0_29 v0_30 v0_31 v0_32 v0_33 v0_34 v0_35 v0_36 v0_37 textLength0 o59 o60 o61 o62 o63 o64 given0 buffer1 classAxles2 classPercent3 f66 linkFrom5 linkMinutes6 linkPrice7 linkTo8 tagAxles9 tagPlate10) rfl dX10_readNetwork_35 (fun H locs w => ?_)
    refine lv_aload_n hx hb dX10_readNetwork_36 rfl (lv_at hl 0 rfl) ?_
    refine lv_aload_n hx hb dX10_readNetwork_37 rfl (lv_at hl 0 rfl) ?_
    refine g_X10_108 C w 0 rfl rfl dX10_readNetwork_38 ?_
    refine lv_bipush (v := 59) hx hb dX10_readNetwork_41 (by decide) ?_
    refine lv_icmp_ne (tgt := 50) hx hb dX10_readNetwork_43 (by decide) (fun c67 => ?_) (fun c67 => ?_)
    · replace hf := it_f c67 hf
      refine lv_iconst (v := 0) hx hb dX10_readNetwork_50 (by decide) ?_
      exact b51 0 o59 o60 o61 o62 o63 o64 given0 classAxles2 classPercent3 f66 linkFrom5 linkMinutes6 linkPrice7 linkTo8 tagAxles9 tagPlate10 _ _ _ hf w (lv_sub hl [0] rfl)
    · replace hf := it_t c67 hf
      refine lv_iconst (v := 1) hx hb dX10_readNetwork_46 (by decide) ?_
      refine lv_goto (tgt := 51) hx hb dX10_readNetwork_47 (by decide) ?_
      exact b51 1 o59 o60 o61 o62 o63 o64 given0 classAxles2 classPercent3 f66 linkFrom5 linkMinutes6 linkPrice7 linkTo8 tagAxles9 tagPlate10 _ _ _ hf w (lv_sub hl [0] rfl)
  · replace hf := it_t c52 hf
    obtain ⟨e1, e2, e3, e4, e5, e6, e7, e8, e9, e10, e11, e12, e13, e14, e15, e16⟩ := tp16 hf
    rw [hQ]
    exact rt_v C w rfl (fun _ => 0) (by rw [← e1, ← e2, ← e3, ← e4, ← e5, ← e6, ← e7, ← e8, ← e9, ← e10, ← e11, ← e12, ← e13, ← e14, ← e15, ← e16]) dX10_readNetwork_18

theorem dX10_parse_0 : decode cX10_parse 0 = .ok (.aload_n 0, 1) := by decide +kernel
theorem dX10_parse_1 : decode cX10_parse 1 = .ok (.iconst 0, 1) := by decide +kernel
theorem dX10_parse_2 : decode cX10_parse 2 = .ok (.putfield 84, 3) := by decide +kernel
theorem dX10_parse_5 : decode cX10_parse 5 = .ok (.iload_n 1, 1) := by decide +kernel
theorem dX10_parse_6 : decode cX10_parse 6 = .ok (.i2l, 1) := by decide +kernel
theorem dX10_parse_7 : decode cX10_parse 7 = .ok (.lconst 0, 1) := by decide +kernel
theorem dX10_parse_8 : decode cX10_parse 8 = .ok (.aload_n 0, 1) := by decide +kernel
theorem dX10_parse_9 : decode cX10_parse 9 = .ok (.getfield 88, 3) := by decide +kernel
theorem dX10_parse_12 : decode cX10_parse 12 = .ok (.i2l, 1) := by decide +kernel
theorem dX10_parse_13 : decode cX10_parse 13 = .ok (.invokestatic 115, 3) := by decide +kernel
theorem dX10_parse_16 : decode cX10_parse 16 = .ok (.ifCond .ne 9, 3) := by decide +kernel
theorem dX10_parse_19 : decode cX10_parse 19 = .ok (.aload_n 0, 1) := by decide +kernel
theorem dX10_parse_20 : decode cX10_parse 20 = .ok (.iconst 1, 1) := by decide +kernel
theorem dX10_parse_21 : decode cX10_parse 21 = .ok (.invokevirtual 202, 3) := by decide +kernel
theorem dX10_parse_24 : decode cX10_parse 24 = .ok (.ireturn, 1) := by decide +kernel
theorem dX10_parse_25 : decode cX10_parse 25 = .ok (.aload_n 0, 1) := by decide +kernel
theorem dX10_parse_26 : decode cX10_parse 26 = .ok (.iload_n 1, 1) := by decide +kernel
theorem dX10_parse_27 : decode cX10_parse 27 = .ok (.putfield 95, 3) := by decide +kernel
theorem dX10_parse_30 : decode cX10_parse 30 = .ok (.aload_n 0, 1) := by decide +kernel
theorem dX10_parse_31 : decode cX10_parse 31 = .ok (.iconst 0, 1) := by decide +kernel
theorem dX10_parse_32 : decode cX10_parse 32 = .ok (.putfield 88, 3) := by decide +kernel
theorem dX10_parse_35 : decode cX10_parse 35 = .ok (.aload_n 0, 1) := by decide +kernel
theorem dX10_parse_36 : decode cX10_parse 36 = .ok (.iconst 0, 1) := by decide +kernel
theorem dX10_parse_37 : decode cX10_parse 37 = .ok (.putfield 98, 3) := by decide +kernel
theorem dX10_parse_40 : decode cX10_parse 40 = .ok (.aload_n 0, 1) := by decide +kernel
theorem dX10_parse_41 : decode cX10_parse 41 = .ok (.iconst 0, 1) := by decide +kernel
theorem dX10_parse_42 : decode cX10_parse 42 = .ok (.putfield 126, 3) := by decide +kernel
theorem dX10_parse_45 : decode cX10_parse 45 = .ok (.aload_n 0, 1) := by decide +kernel
theorem dX10_parse_46 : decode cX10_parse 46 = .ok (.iconst 0, 1) := by decide +kernel
theorem dX10_parse_47 : decode cX10_parse 47 = .ok (.putfield 165, 3) := by decide +kernel
theorem dX10_parse_50 : decode cX10_parse 50 = .ok (.iconst 0, 1) := by decide +kernel
theorem dX10_parse_51 : decode cX10_parse 51 = .ok (.istore_n 2, 1) := by decide +kernel
theorem dX10_parse_52 : decode cX10_parse 52 = .ok (.iload_n 2, 1) := by decide +kernel
theorem dX10_parse_53 : decode cX10_parse 53 = .ok (.bipush 7, 2) := by decide +kernel
theorem dX10_parse_55 : decode cX10_parse 55 = .ok (.if_icmp .ge 16, 3) := by decide +kernel
theorem dX10_parse_58 : decode cX10_parse 58 = .ok (.aload_n 0, 1) := by decide +kernel
theorem dX10_parse_59 : decode cX10_parse 59 = .ok (.getfield 17, 3) := by decide +kernel
theorem dX10_parse_62 : decode cX10_parse 62 = .ok (.iload_n 2, 1) := by decide +kernel
theorem dX10_parse_63 : decode cX10_parse 63 = .ok (.iconst 0, 1) := by decide +kernel
theorem dX10_parse_64 : decode cX10_parse 64 = .ok (.iastore, 1) := by decide +kernel
theorem dX10_parse_65 : decode cX10_parse 65 = .ok (.iinc 2 1, 3) := by decide +kernel
theorem dX10_parse_68 : decode cX10_parse 68 = .ok (.goto (-16), 3) := by decide +kernel
theorem dX10_parse_71 : decode cX10_parse 71 = .ok (.aload_n 0, 1) := by decide +kernel
theorem dX10_parse_72 : decode cX10_parse 72 = .ok (.getfield 17, 3) := by decide +kernel
theorem dX10_parse_75 : decode cX10_parse 75 = .ok (.iconst 4, 1) := by decide +kernel
theorem dX10_parse_76 : decode cX10_parse 76 = .ok (.iconst 1, 1) := by decide +kernel
theorem dX10_parse_77 : decode cX10_parse 77 = .ok (.iastore, 1) := by decide +kernel
theorem dX10_parse_78 : decode cX10_parse 78 = .ok (.aload_n 0, 1) := by decide +kernel
theorem dX10_parse_79 : decode cX10_parse 79 = .ok (.getfield 17, 3) := by decide +kernel
theorem dX10_parse_82 : decode cX10_parse 82 = .ok (.iconst 5, 1) := by decide +kernel
theorem dX10_parse_83 : decode cX10_parse 83 = .ok (.bipush 60, 2) := by decide +kernel
theorem dX10_parse_85 : decode cX10_parse 85 = .ok (.iastore, 1) := by decide +kernel
theorem dX10_parse_86 : decode cX10_parse 86 = .ok (.iload_n 1, 1) := by decide +kernel
theorem dX10_parse_87 : decode cX10_parse 87 = .ok (.ifCond .le 7, 3) := by decide +kernel
theorem dX10_parse_90 : decode cX10_parse 90 = .ok (.aload_n 0, 1) := by decide +kernel
theorem dX10_parse_91 : decode cX10_parse 91 = .ok (.invokevirtual 205, 3) := by decide +kernel
theorem dX10_parse_94 : decode cX10_parse 94 = .ok (.aload_n 0, 1) := by decide +kernel
theorem dX10_parse_95 : decode cX10_parse 95 = .ok (.getfield 126, 3) := by decide +kernel
theorem dX10_parse_98 : decode cX10_parse 98 = .ok (.ifCond .eq 19, 3) := by decide +kernel
theorem dX10_parse_101 : decode cX10_parse 101 = .ok (.bipush (-2), 2) := by decide +kernel
theorem dX10_parse_103 : decode cX10_parse 103 = .ok (.bipush 8, 2) := by decide +kernel
theorem dX10_parse_105 : decode cX10_parse 105 = .ok (.aload_n 0, 1) := by decide +kernel
theorem dX10_parse_106 : decode cX10_parse 106 = .ok (.getfield 129, 3) := by decide +kernel
theorem dX10_parse_109 : decode cX10_parse 109 = .ok (.imul, 1) := by decide +kernel
theorem dX10_parse_110 : decode cX10_parse 110 = .ok (.aload_n 0, 1) := by decide +kernel
theorem dX10_parse_111 : decode cX10_parse 111 = .ok (.getfield 126, 3) := by decide +kernel
theorem dX10_parse_114 : decode cX10_parse 114 = .ok (.iadd, 1) := by decide +kernel
theorem dX10_parse_115 : decode cX10_parse 115 = .ok (.isub, 1) := by decide +kernel
theorem dX10_parse_116 : decode cX10_parse 116 = .ok (.ireturn, 1) := by decide +kernel
theorem dX10_parse_117 : decode cX10_parse 117 = .ok (.iconst 0, 1) := by decide +kernel
theorem dX10_parse_118 : decode cX10_parse 118 = .ok (.istore_n 2, 1) := by decide +kernel
theorem dX10_parse_119 : decode cX10_parse 119 = .ok (.iload_n 2, 1) := by decide +kernel
theorem dX10_parse_120 : decode cX10_parse 120 = .ok (.bipush 7, 2) := by decide +kernel
theorem dX10_parse_122 : decode cX10_parse 122 = .ok (.if_icmp .ge 21, 3) := by decide +kernel
theorem dX10_parse_125 : decode cX10_parse 125 = .ok (.aload_n 0, 1) := by decide +kernel
theorem dX10_parse_126 : decode cX10_parse 126 = .ok (.getfield 13, 3) := by decide +kernel
theorem dX10_parse_129 : decode cX10_parse 129 = .ok (.iload_n 2, 1) := by decide +kernel
theorem dX10_parse_130 : decode cX10_parse 130 = .ok (.aload_n 0, 1) := by decide +kernel
theorem dX10_parse_131 : decode cX10_parse 131 = .ok (.getfield 17, 3) := by decide +kernel
theorem dX10_parse_134 : decode cX10_parse 134 = .ok (.iload_n 2, 1) := by decide +kernel
theorem dX10_parse_135 : decode cX10_parse 135 = .ok (.iaload, 1) := by decide +kernel
theorem dX10_parse_136 : decode cX10_parse 136 = .ok (.iastore, 1) := by decide +kernel
theorem dX10_parse_137 : decode cX10_parse 137 = .ok (.iinc 2 1, 3) := by decide +kernel
theorem dX10_parse_140 : decode cX10_parse 140 = .ok (.goto (-21), 3) := by decide +kernel
theorem dX10_parse_143 : decode cX10_parse 143 = .ok (.aload_n 0, 1) := by decide +kernel
theorem dX10_parse_144 : decode cX10_parse 144 = .ok (.getfield 20, 3) := by decide +kernel
theorem dX10_parse_147 : decode cX10_parse 147 = .ok (.invokestatic 208, 3) := by decide +kernel
theorem dX10_parse_150 : decode cX10_parse 150 = .ok (.aload_n 0, 1) := by decide +kernel
theorem dX10_parse_151 : decode cX10_parse 151 = .ok (.getfield 23, 3) := by decide +kernel
theorem dX10_parse_154 : decode cX10_parse 154 = .ok (.invokestatic 208, 3) := by decide +kernel
theorem dX10_parse_157 : decode cX10_parse 157 = .ok (.aload_n 0, 1) := by decide +kernel
theorem dX10_parse_158 : decode cX10_parse 158 = .ok (.getfield 26, 3) := by decide +kernel
theorem dX10_parse_161 : decode cX10_parse 161 = .ok (.invokestatic 208, 3) := by decide +kernel
theorem dX10_parse_164 : decode cX10_parse 164 = .ok (.aload_n 0, 1) := by decide +kernel
theorem dX10_parse_165 : decode cX10_parse 165 = .ok (.getfield 29, 3) := by decide +kernel
theorem dX10_parse_168 : decode cX10_parse 168 = .ok (.invokestatic 208, 3) := by decide +kernel
theorem dX10_parse_171 : decode cX10_parse 171 = .ok (.aload_n 0, 1) := by decide +kernel
theorem dX10_parse_172 : decode cX10_parse 172 = .ok (.getfield 32, 3) := by decide +kernel
theorem dX10_parse_175 : decode cX10_parse 175 = .ok (.invokestatic 208, 3) := by decide +kernel
theorem dX10_parse_178 : decode cX10_parse 178 = .ok (.aload_n 0, 1) := by decide +kernel
theorem dX10_parse_179 : decode cX10_parse 179 = .ok (.getfield 35, 3) := by decide +kernel
theorem dX10_parse_182 : decode cX10_parse 182 = .ok (.invokestatic 208, 3) := by decide +kernel
theorem dX10_parse_185 : decode cX10_parse 185 = .ok (.aload_n 0, 1) := by decide +kernel
theorem dX10_parse_186 : decode cX10_parse 186 = .ok (.getfield 38, 3) := by decide +kernel
theorem dX10_parse_189 : decode cX10_parse 189 = .ok (.invokestatic 208, 3) := by decide +kernel
theorem dX10_parse_192 : decode cX10_parse 192 = .ok (.aload_n 0, 1) := by decide +kernel
theorem dX10_parse_193 : decode cX10_parse 193 = .ok (.getfield 41, 3) := by decide +kernel
theorem dX10_parse_196 : decode cX10_parse 196 = .ok (.invokestatic 208, 3) := by decide +kernel
theorem dX10_parse_199 : decode cX10_parse 199 = .ok (.aload_n 0, 1) := by decide +kernel
theorem dX10_parse_200 : decode cX10_parse 200 = .ok (.invokevirtual 81, 3) := by decide +kernel
theorem dX10_parse_203 : decode cX10_parse 203 = .ok (.aload_n 0, 1) := by decide +kernel
theorem dX10_parse_204 : decode cX10_parse 204 = .ok (.iconst 0, 1) := by decide +kernel
theorem dX10_parse_205 : decode cX10_parse 205 = .ok (.putfield 212, 3) := by decide +kernel
theorem dX10_parse_208 : decode cX10_parse 208 = .ok (.aload_n 0, 1) := by decide +kernel
theorem dX10_parse_209 : decode cX10_parse 209 = .ok (.getfield 53, 3) := by decide +kernel
theorem dX10_parse_212 : decode cX10_parse 212 = .ok (.iconst 0, 1) := by decide +kernel
theorem dX10_parse_213 : decode cX10_parse 213 = .ok (.iconst 0, 1) := by decide +kernel
theorem dX10_parse_214 : decode cX10_parse 214 = .ok (.bastore, 1) := by decide +kernel
theorem dX10_parse_215 : decode cX10_parse 215 = .ok (.aload_n 0, 1) := by decide +kernel
theorem dX10_parse_216 : decode cX10_parse 216 = .ok (.getfield 53, 3) := by decide +kernel
theorem dX10_parse_219 : decode cX10_parse 219 = .ok (.iconst 1, 1) := by decide +kernel
theorem dX10_parse_220 : decode cX10_parse 220 = .ok (.iconst 0, 1) := by decide +kernel
theorem dX10_parse_221 : decode cX10_parse 221 = .ok (.bastore, 1) := by decide +kernel
theorem dX10_parse_222 : decode cX10_parse 222 = .ok (.aload_n 0, 1) := by decide +kernel
theorem dX10_parse_223 : decode cX10_parse 223 = .ok (.getfield 13, 3) := by decide +kernel
theorem dX10_parse_226 : decode cX10_parse 226 = .ok (.iconst 1, 1) := by decide +kernel
theorem dX10_parse_227 : decode cX10_parse 227 = .ok (.iaload, 1) := by decide +kernel
theorem dX10_parse_228 : decode cX10_parse 228 = .ok (.ireturn, 1) := by decide +kernel
abbrev m_X10_parse : MD := (yX10_parse, cX10_parse, 3, (some .int))
theorem g_X10_53 {p : Program} {l : Launch} {e : Env} {R : Room} {s : State} {m : MethodId} {args : Array Value} {below : List Frame} {meth : Method} {c : Code} {H : Heap} {locs : List Loc} {cells slots : Nat} {Q : State → Prop} {d : MD} {g : GT} {A : Nat → Prop} {ws : va_W} {pc : Nat} {ls : Array Slot} {rest : List Value} (C : Cx p s m args meth c RX10 d g A) (w : Wd g A ws s.heap H locs) (q0 : Nat) {a : Nat} {fs : List Value} {v : Value} (he : ws[q0]? = some (a, .inr (10, fs))) (hv : fs[25]? = some v) (hd : decode d.2.1 pc = .ok (.getfield 53, 3)) (kk : W p l e R s m args below meth c H locs cells slots Q (F0 m (pc + 3) ls (v :: rest))) : W p l e R s m args below meth c H locs cells slots Q (F0 m pc ls (.ref a :: rest)) := fg C w inX10s (ref := RX10) rfl 25 (by decide) (ts_t (w := Cond.fieldLink RX10 53 RX10 (TX10 25).2.1 (TX10 25).2.2.1) 1247 (by decide +kernel) (by decide +kernel)) rfl q0 he hv hd kk
theorem g_X10_13 {p : Program} {l : Launch} {e : Env} {R : Room} {s : State} {m : MethodId} {args : Array Value} {below : List Frame} {meth : Method} {c : Code} {H : Heap} {locs : List Loc} {cells slots : Nat} {Q : State → Prop} {d : MD} {g : GT} {A : Nat → Prop} {ws : va_W} {pc : Nat} {ls : Array Slot} {rest : List Value} (C : Cx p s m args meth c RX10 d g A) (w : Wd g A ws s.heap H locs) (q0 : Nat) {a : Nat} {fs : List Value} {v : Value} (he : ws[q0]? = some (a, .inr (10, fs))) (hv : fs[10]? = some v) (hd : decode d.2.1 pc = .ok (.getfield 13, 3)) (kk : W p l e R s m args below meth c H locs cells slots Q (F0 m (pc + 3) ls (v :: rest))) : W p l e R s m args below meth c H locs cells slots Q (F0 m pc ls (.ref a :: rest)) := fg C w inX10s (ref := RX10) rfl 10 (by decide) (ts_t (w := Cond.fieldLink RX10 13 RX10 (TX10 10).2.1 (TX10 10).2.2.1) 1232 (by decide +kernel) (by decide +kernel)) rfl q0 he hv hd kk
theorem g_X10_129 {p : Program} {l : Launch} {e : Env} {R : Room} {s : State} {m : MethodId} {args : Array Value} {below : List Frame} {meth : Method} {c : Code} {H : Heap} {locs : List Loc} {cells slots : Nat} {Q : State → Prop} {d : MD} {g : GT} {A : Nat → Prop} {ws : va_W} {pc : Nat} {ls : Array Slot} {rest : List Value} (C : Cx p s m args meth c RX10 d g A) (w : Wd g A ws s.heap H locs) (q0 : Nat) {a : Nat} {fs : List Value} {v : Value} (he : ws[q0]? = some (a, .inr (10, fs))) (hv : fs[9]? = some v) (hd : decode d.2.1 pc = .ok (.getfield 129, 3)) (kk : W p l e R s m args below meth c H locs cells slots Q (F0 m (pc + 3) ls (v :: rest))) : W p l e R s m args below meth c H locs cells slots Q (F0 m pc ls (.ref a :: rest)) := fg C w inX10s (ref := RX10) rfl 9 (by decide) (ts_t (w := Cond.fieldLink RX10 129 RX10 (TX10 9).2.1 (TX10 9).2.2.1) 1231 (by decide +kernel) (by decide +kernel)) rfl q0 he hv hd kk
theorem p_X10_212 {p : Program} {l : Launch} {e : Env} {R : Room} {s : State} {m : MethodId} {args : Array Value} {below : List Frame} {meth : Method} {c : Code} {H : Heap} {locs : List Loc} {cells slots : Nat} {Q : State → Prop} {d : MD} {g : GT} {A : Nat → Prop} {ws : va_W} {pc : Nat} {ls : Array Slot} {rest : List Value} (C : Cx p s m args meth c RX10 d g A) (w : Wd g A ws s.heap H locs) (q0 : Nat) {a : Nat} {fs : List Value} {x : Int32} (he : ws[q0]? = some (a, .inr (10, fs))) (hlt : 23 < fs.length) {ws2 : va_W} (h2 : ws.set q0 (a, .inr (10, fs.set 23 (.int x))) = ws2) (hd : decode d.2.1 pc = .ok (.putfield 212, 3)) (kk : ∀ (H1 : Heap) (locs1 : List Loc), Wd g A ws2 s.heap H1 locs1 → W p l e R s m args below meth c H1 locs1 cells slots Q (F0 m (pc + 3) ls rest)) : W p l e R s m args below meth c H locs cells slots Q (F0 m pc ls (.int x :: .ref a :: rest)) := fp C w inX10s tyX10_ok nmX10 (ref := RX10) rfl 23 (by decide) (ts_t (w := Cond.fieldLink RX10 212 RX10 (TX10 23).2.1 (TX10 23).2.2.1) 1245 (by decide +kernel) (by decide +kernel)) rfl rfl q0 he rfl rfl hlt h2 hd kk
theorem p_X10_95 {p : Program} {l : Launch} {e : Env} {R : Room} {s : State} {m : MethodId} {args : Array Value} {below : List Frame} {meth : Method} {c : Code} {H : Heap} {locs : List Loc} {cells slots : Nat} {Q : State → Prop} {d : MD} {g : GT} {A : Nat → Prop} {ws : va_W} {pc : Nat} {ls : Array Slot} {rest : List Value} (C : Cx p s m args meth c RX10 d g A) (w : Wd g A ws s.heap H locs) (q0 : Nat) {a : Nat} {fs : List Value} {x : Int32} (he : ws[q0]? = some (a, .inr (10, fs))) (hlt : 3 < fs.length) {ws2 : va_W} (h2 : ws.set q0 (a, .inr (10, fs.set 3 (.int x))) = ws2) (hd : decode d.2.1 pc = .ok (.putfield 95, 3)) (kk : ∀ (H1 : Heap) (locs1 : List Loc), Wd g A ws2 s.heap H1 locs1 → W p l e R s m args below meth c H1 locs1 cells slots Q (F0 m (pc + 3) ls rest)) : W p l e R s m args below meth c H locs cells slots Q (F0 m pc ls (.int x :: .ref a :: rest)) := fp C w inX10s tyX10_ok nmX10 (ref := RX10) rfl 3 (by decide) (ts_t (w := Cond.fieldLink RX10 95 RX10 (TX10 3).2.1 (TX10 3).2.2.1) 1225 (by decide +kernel) (by decide +kernel)) rfl rfl q0 he rfl rfl hlt h2 hd kk
theorem q_1432 : Cond.code yX10_adopt cX10_adopt 2 none ∈ TS := ts_t 1432 (by decide +kernel) (by decide +kernel)
theorem q_1430 : Cond.methodLink RX10 208 yX10_adopt ∈ TS := ts_t 1430 (by decide +kernel) (by decide +kernel)
theorem q_1431 : Cond.static yX10_adopt ∈ TS := ts_t 1431 (by decide +kernel) (by decide +kernel)
theorem k_X10_208 : LkS RX10 208 m_X10_adopt 1 := ⟨q_1430, q_1431, ⟨q_11, q_1432, by decide, by decide, by decide +kernel⟩⟩
theorem q_1221 : Cond.code yX10_clearState cX10_clearState 2 none ∈ TS := ts_t 1221 (by decide +kernel) (by decide +kernel)
theorem q_1218 : Cond.methodLink RX10 81 yX10_clearState ∈ TS := ts_t 1218 (by decide +kernel) (by decide +kernel)
theorem q_1220 : Cond.instanceMethod yX10_clearState ∈ TS := ts_t 1220 (by decide +kernel) (by decide +kernel)
theorem qs_82 : Cond.selects yX10_clearState.cls yX10_clearState yX10_clearState ∈ TS := ts_s 82 (by decide +kernel) (by decide +kernel)
theorem k_X10_81 : LkV RX10 81 m_X10_clearState 0 := ⟨q_1218, q_1220, qs_82, ⟨q_11, q_1221, by decide, by decide, by decide +kernel⟩⟩
theorem q_1363 : Cond.code yX10_readNetwork cX10_readNetwork 1 none ∈ TS := ts_t 1363 (by decide +kernel) (by decide +kernel)
theorem q_1360 : Cond.methodLink RX10 205 yX10_readNetwork ∈ TS := ts_t 1360 (by decide +kernel) (by decide +kernel)
theorem q_1362 : Cond.instanceMethod yX10_readNetwork ∈ TS := ts_t 1362 (by decide +kernel) (by decide +kernel)
theorem qs_85 : Cond.selects yX10_readNetwork.cls yX10_readNetwork yX10_readNetwork ∈ TS := ts_s 85 (by decide +kernel) (by decide +kernel)
theorem k_X10_205 : LkV RX10 205 m_X10_readNetwork 0 := ⟨q_1360, q_1362, qs_85, ⟨q_11, q_1363, by decide, by decide, by decide +kernel⟩⟩
theorem q_1359 : Cond.code yX10_fail cX10_fail 2 (some .int) ∈ TS := ts_t 1359 (by decide +kernel) (by decide +kernel)
theorem q_1356 : Cond.methodLink RX10 202 yX10_fail ∈ TS := ts_t 1356 (by decide +kernel) (by decide +kernel)
theorem q_1358 : Cond.instanceMethod yX10_fail ∈ TS := ts_t 1358 (by decide +kernel) (by decide +kernel)
theorem qs_84 : Cond.selects yX10_fail.cls yX10_fail yX10_fail ∈ TS := ts_s 84 (by decide +kernel) (by decide +kernel)
theorem k_X10_202 : LkV RX10 202 m_X10_fail 1 := ⟨q_1356, q_1358, qs_84, ⟨q_11, q_1359, by decide, by decide, by decide +kernel⟩⟩
abbrev w_X10_parse (g : GT) (h0 h1 h2 h3 h4 h5 h6 h7 h8 h9 h10 h11 h12 h13 : Nat) (v0_22 v0_24 v0_26 v0_27 v0_28 v0_29 v0_30 v0_31 v0_32 v0_33 v0_34 v0_35 v0_36 v0_37 : Value) (thrown0 length0 textLength0 tokenStart0 tokenEnd0 token0 value0 error0 errorOffset0 given0 depth0 : Int32) (basic1 buffer2 classAxles3 classPercent4 draft5 isSaved6 linkFrom7 linkMinutes8 linkPrice9 linkTo10 state11 tagAxles12 tagPlate13 : Nat → Int32) : va_W := [(h0, .inr (10, [.int thrown0, .ref h2, .int length0, .int textLength0, .int tokenStart0, .int tokenEnd0, .int token0, .int value0, .int error0, .int errorOffset0, .ref h1, .ref h5, .ref h7, .ref h10, .ref h8, .ref h9, .ref h3, .ref h4, .ref h13, .ref h12, .int given0, .ref h11, v0_22, .int depth0, v0_24, .ref h6, v0_26, v0_27, v0_28, v0_29, v0_30, v0_31, v0_32, v0_33, v0_34, v0_35, v0_36, v0_37])), (h1, aI g 7 basic1), (h2, aB g 900 buffer2), (h3, aI g 8 classAxles3), (h4, aI g 8 classPercent4), (h5, aI g 7 draft5), (h6, aZ g 2 isSaved6), (h7, aI g 48 linkFrom7), (h8, aI g 48 linkMinutes8), (h9, aI g 48 linkPrice9), (h10, aI g 48 linkTo10), (h11, aI g 2524 state11), (h12, aI g 24 tagAxles12), (h13, aI g 24 tagPlate13)]
def f_X10_parse_h119 (F : Nat) (buffer2 : Nat → Int32) (k119 : (Int32 × Int32 × Int32 × Int32 × Int32 × Int32 × Int32 × Int32 × Int32 × Int32 × Int32 × Int32 × (Nat → Int32) × (Nat → Int32) × (Nat → Int32) × (Nat → Int32) × (Nat → Int32) × (Nat → Int32) × (Nat → Int32) × (Nat → Int32) × (Nat → Int32) × (Nat → Int32) × (Nat → Int32) × (Nat → Int32)) → Option (Int32 × Int32 × Int32 × Int32 × Int32 × Int32 × Int32 × Int32 × Int32 × Int32 × Int32 × Int32 × (Nat → Int32) × (Nat → Int32) × (Nat → Int32) × (Nat → Int32) × (Nat → Int32) × (Nat → Int32) × (Nat → Int32) × (Nat → Int32) × (Nat → Int32) × (Nat → Int32) × (Nat → Int32) × (Nat → Int32))) (x2 thrown0 length0 textLength0 tokenStart0 tokenEnd0 token0 value0 error0 errorOffset0 given0 depth0 : Int32) (basic1 classAxles3 classPercent4 draft5 isSaved6 linkFrom7 linkMinutes8 linkPrice9 linkTo10 state11 tagAxles12 tagPlate13 : Nat → Int32) : Option (Int32 × Int32 × Int32 × Int32 × Int32 × Int32 × Int32 × Int32 × Int32 × Int32 × Int32 × Int32 × (Nat → Int32) × (Nat → Int32) × (Nat → Int32) × (Nat → Int32) × (Nat → Int32) × (Nat → Int32) × (Nat → Int32) × (Nat → Int32) × (Nat → Int32) × (Nat → Int32) × (Nat → Int32) × (Nat → Int32)) :=
  if 7 ≤ x2 then
    bd1 (f_X10_adopt F 48 linkFrom7) fun o2 =>
    bd1 (f_X10_adopt F 48 linkTo10) fun o4 =>
    bd1 (f_X10_adopt F 48 linkMinutes8) fun o6 =>
    bd1 (f_X10_adopt F 48 linkPrice9) fun o8 =>
    bd1 (f_X10_adopt F 8 classAxles3) fun o10 =>
    bd1 (f_X10_adopt F 8 classPercent4) fun o12 =>
    bd1 (f_X10_adopt F 24 tagPlate13) fun o14 =>
    bd1 (f_X10_adopt F 24 tagAxles12) fun o16 =>
    bd1 (f_X10_clearState F state11) fun o18 =>
    wr isSaved6 2 0 (vp_nar .boolean 0) fun f20 =>
    wr f20 2 1 (vp_nar .boolean 0) fun f21 =>
    rd basic1 7 1 fun a22 =>
    some (a22, thrown0, length0, textLength0, tokenStart0, tokenEnd0, token0, value0, error0, errorOffset0, given0, 0, basic1, o10, o12, draft5, f21, o2, o6, o8, o4, o18, o16, o14)
  else
    rd draft5 7 x2 fun a23 =>
    wr basic1 7 x2 a23 fun f24 =>
    k119 (x2 + 1, thrown0, length0, textLength0, tokenStart0, tokenEnd0, token0, value0, error0, errorOffset0, given0, depth0, f24, classAxles3, classPercent4, draft5, isSaved6, linkFrom7, linkMinutes8, linkPrice9, linkTo10, state11, tagAxles12, tagPlate13)
def f_X10_parse_L119 (F : Nat) (buffer2 : Nat → Int32) (z : Int32 × Int32 × Int32 × Int32 × Int32 × Int32 × Int32 × Int32 × Int32 × Int32 × Int32 × Int32 × (Nat → Int32) × (Nat → Int32) × (Nat → Int32) × (Nat → Int32) × (Nat → Int32) × (Nat → Int32) × (Nat → Int32) × (Nat → Int32) × (Nat → Int32) × (Nat → Int32) × (Nat → Int32) × (Nat → Int32)) : Option (Int32 × Int32 × Int32 × Int32 × Int32 × Int32 × Int32 × Int32 × Int32 × Int32 × Int32 × Int32 × (Nat → Int32) × (Nat → Int32) × (Nat → Int32) × (Nat → Int32) × (Nat → Int32) × (Nat → Int32) × (Nat → Int32) × (Nat → Int32) × (Nat → Int32) × (Nat → Int32) × (Nat → Int32) × (Nat → Int32)) := lp (fun k z => f_X10_parse_h119 F buffer2 k z.1 z.2.1 z.2.2.1 z.2.2.2.1 z.2.2.2.2.1 z.2.2.2.2.2.1 z.2.2.2.2.2.2.1 z.2.2.2.2.2.2.2.1 z.2.2.2.2.2.2.2.2.1 z.2.2.2.2.2.2.2.2.2.1 z.2.2.2.2.2.2.2.2.2.2.1 z.2.2.2.2.2.2.2.2.2.2.2.1 z.2.2.2.2.2.2.2.2.2.2.2.2.1 z.2.2.2.2.2.2.2.2.2.2.2.2.2.1 z.2.2.2.2.2.2.2.2.2.2.2.2.2.2.1 z.2.2.2.2.2.2.2.2.2.2.2.2.2.2.2.1 z.2.2.2.2.2.2.2.2.2.2.2.2.2.2.2.2.1 z.2.2.2.2.2.2.2.2.2.2.2.2.2.2.2.2.2.1 z.2.2.2.2.2.2.2.2.2.2.2.2.2.2.2.2.2.2.1 z.2.2.2.2.2.2.2.2.2.2.2.2.2.2.2.2.2.2.2.1 z.2.2.2.2.2.2.2.2.2.2.2.2.2.2.2.2.2.2.2.2.1 z.2.2.2.2.2.2.2.2.2.2.2.2.2.2.2.2.2.2.2.2.2.1 z.2.2.2.2.2.2.2.2.2.2.2.2.2.2.2.2.2.2.2.2.2.2.1 z.2.2.2.2.2.2.2.2.2.2.2.2.2.2.2.2.2.2.2.2.2.2.2) F z
def f_X10_parse_b94 (F : Nat) (buffer2 : Nat → Int32) (thrown0 length0 textLength0 tokenStart0 tokenEnd0 token0 value0 error0 errorOffset0 given0 depth0 : Int32) (basic1 classAxles3 classPercent4 draft5 isSaved6 linkFrom7 linkMinutes8 linkPrice9 linkTo10 state11 tagAxles12 tagPlate13 : Nat → Int32) : Option (Int32 × Int32 × Int32 × Int32 × Int32 × Int32 × Int32 × Int32 × Int32 × Int32 × Int32 × Int32 × (Nat → Int32) × (Nat → Int32) × (Nat → Int32) × (Nat → Int32) × (Nat → Int32) × (Nat → Int32) × (Nat → Int32) × (Nat → Int32) × (Nat → Int32) × (Nat → Int32) × (Nat → Int32) × (Nat → Int32)) :=
  if error0 = 0 then
    f_X10_parse_L119 F buffer2 (0, thrown0, length0, textLength0, tokenStart0, tokenEnd0, token0, value0, error0, errorOffset0, given0, depth0, basic1, classAxles3, classPercent4, draft5, isSaved6, linkFrom7, linkMinutes8, linkPrice9, linkTo10, state11, tagAxles12, tagPlate13)
  else
    some ((-2) - ((8 * errorOffset0) + error0), thrown0, length0, textLength0, tokenStart0, tokenEnd0, token0, value0, error0, errorOffset0, given0, depth0, basic1, classAxles3, classPercent4, draft5, isSaved6, linkFrom7, linkMinutes8, linkPrice9, linkTo10, state11, tagAxles12, tagPlate13)
def f_X10_parse_h52 (F : Nat) (buffer2 : Nat → Int32) (k52 : (Int32 × Int32 × Int32 × Int32 × Int32 × Int32 × Int32 × Int32 × Int32 × Int32 × Int32 × Int32 × Int32 × (Nat → Int32) × (Nat → Int32) × (Nat → Int32) × (Nat → Int32) × (Nat → Int32) × (Nat → Int32) × (Nat → Int32) × (Nat → Int32) × (Nat → Int32) × (Nat → Int32) × (Nat → Int32) × (Nat → Int32)) → Option (Int32 × Int32 × Int32 × Int32 × Int32 × Int32 × Int32 × Int32 × Int32 × Int32 × Int32 × Int32 × (Nat → Int32) × (Nat → Int32) × (Nat → Int32) × (Nat → Int32) × (Nat → Int32) × (Nat → Int32) × (Nat → Int32) × (Nat → Int32) × (Nat → Int32) × (Nat → Int32) × (Nat → Int32) × (Nat → Int32))) (x1 x2 thrown0 length0 textLength0 tokenStart0 tokenEnd0 token0 value0 error0 errorOffset0 given0 depth0 : Int32) (basic1 classAxles3 classPercent4 draft5 isSaved6 linkFrom7 linkMinutes8 linkPrice9 linkTo10 state11 tagAxles12 tagPlate13 : Nat → Int32) : Option (Int32 × Int32 × Int32 × Int32 × Int32 × Int32 × Int32 × Int32 × Int32 × Int32 × Int32 × Int32 × (Nat → Int32) × (Nat → Int32) × (Nat → Int32) × (Nat → Int32) × (Nat → Int32) × (Nat → Int32) × (Nat → Int32) × (Nat → Int32) × (Nat → Int32) × (Nat → Int32) × (Nat → Int32) × (Nat → Int32)) :=
  if 7 ≤ x2 then
    wr draft5 7 4 1 fun f27 =>
    wr f27 7 5 60 fun f28 =>
    if x1 ≤ 0 then
      f_X10_parse_b94 F buffer2 thrown0 length0 textLength0 tokenStart0 tokenEnd0 token0 value0 error0 errorOffset0 given0 depth0 basic1 classAxles3 classPercent4 f28 isSaved6 linkFrom7 linkMinutes8 linkPrice9 linkTo10 state11 tagAxles12 tagPlate13
    else
      bd16 (f_X10_readNetwork F textLength0 tokenStart0 tokenEnd0 token0 value0 error0 errorOffset0 given0 buffer2 classAxles3 classPercent4 f28 linkFrom7 linkMinutes8 linkPrice9 linkTo10 tagAxles12 tagPlate13) fun o30 o31 o32 o33 o34 o35 o36 o37 o38 o39 o40 o41 o42 o43 o44 o45 =>
      f_X10_parse_b94 F buffer2 thrown0 length0 textLength0 o30 o31 o32 o33 o34 o35 o36 depth0 basic1 o37 o38 o39 isSaved6 o40 o41 o42 o43 state11 o44 o45
  else
    wr draft5 7 x2 0 fun f47 =>
    k52 (x1, x2 + 1, thrown0, length0, textLength0, tokenStart0, tokenEnd0, token0, value0, error0, errorOffset0, given0, depth0, basic1, classAxles3, classPercent4, f47, isSaved6, linkFrom7, linkMinutes8, linkPrice9, linkTo10, state11, tagAxles12, tagPlate13)
def f_X10_parse_L52 (F : Nat) (buffer2 : Nat → Int32) (z : Int32 × Int32 × Int32 × Int32 × Int32 × Int32 × Int32 × Int32 × Int32 × Int32 × Int32 × Int32 × Int32 × (Nat → Int32) × (Nat → Int32) × (Nat → Int32) × (Nat → Int32) × (Nat → Int32) × (Nat → Int32) × (Nat → Int32) × (Nat → Int32) × (Nat → Int32) × (Nat → Int32) × (Nat → Int32) × (Nat → Int32)) : Option (Int32 × Int32 × Int32 × Int32 × Int32 × Int32 × Int32 × Int32 × Int32 × Int32 × Int32 × Int32 × (Nat → Int32) × (Nat → Int32) × (Nat → Int32) × (Nat → Int32) × (Nat → Int32) × (Nat → Int32) × (Nat → Int32) × (Nat → Int32) × (Nat → Int32) × (Nat → Int32) × (Nat → Int32) × (Nat → Int32)) := lp (fun k z => f_X10_parse_h52 F buffer2 k z.1 z.2.1 z.2.2.1 z.2.2.2.1 z.2.2.2.2.1 z.2.2.2.2.2.1 z.2.2.2.2.2.2.1 z.2.2.2.2.2.2.2.1 z.2.2.2.2.2.2.2.2.1 z.2.2.2.2.2.2.2.2.2.1 z.2.2.2.2.2.2.2.2.2.2.1 z.2.2.2.2.2.2.2.2.2.2.2.1 z.2.2.2.2.2.2.2.2.2.2.2.2.1 z.2.2.2.2.2.2.2.2.2.2.2.2.2.1 z.2.2.2.2.2.2.2.2.2.2.2.2.2.2.1 z.2.2.2.2.2.2.2.2.2.2.2.2.2.2.2.1 z.2.2.2.2.2.2.2.2.2.2.2.2.2.2.2.2.1 z.2.2.2.2.2.2.2.2.2.2.2.2.2.2.2.2.2.1 z.2.2.2.2.2.2.2.2.2.2.2.2.2.2.2.2.2.2.1 z.2.2.2.2.2.2.2.2.2.2.2.2.2.2.2.2.2.2.2.1 z.2.2.2.2.2.2.2.2.2.2.2.2.2.2.2.2.2.2.2.2.1 z.2.2.2.2.2.2.2.2.2.2.2.2.2.2.2.2.2.2.2.2.2.1 z.2.2.2.2.2.2.2.2.2.2.2.2.2.2.2.2.2.2.2.2.2.2.1 z.2.2.2.2.2.2.2.2.2.2.2.2.2.2.2.2.2.2.2.2.2.2.2.1 z.2.2.2.2.2.2.2.2.2.2.2.2.2.2.2.2.2.2.2.2.2.2.2.2) F z
def f_X10_parse (F : Nat) (p1 thrown0 length0 textLength0 tokenStart0 tokenEnd0 token0 value0 error0 errorOffset0 given0 depth0 : Int32) (basic1 buffer2 classAxles3 classPercent4 draft5 isSaved6 linkFrom7 linkMinutes8 linkPrice9 linkTo10 state11 tagAxles12 tagPlate13 : Nat → Int32) : Option (Int32 × Int32 × Int32 × Int32 × Int32 × Int32 × Int32 × Int32 × Int32 × Int32 × Int32 × Int32 × (Nat → Int32) × (Nat → Int32) × (Nat → Int32) × (Nat → Int32) × (Nat → Int32) × (Nat → Int32) × (Nat → Int32) × (Nat → Int32) × (Nat → Int32) × (Nat → Int32) × (Nat → Int32) × (Nat → Int32)) :=
  bd1 (f_X10_within F p1.toInt64 0 length0.toInt64) fun r48 =>
  if r48 = 0 then
    bd2 (f_X10_fail F 1 0) fun r51 o52 =>
    some (r51, o52, length0, textLength0, tokenStart0, tokenEnd0, token0, value0, error0, errorOffset0, given0, depth0, basic1, classAxles3, classPercent4, draft5, isSaved6, linkFrom7, linkMinutes8, linkPrice9, linkTo10, state11, tagAxles12, tagPlate13)
  else
    f_X10_parse_L52 F buffer2 (p1, 0, 0, 0, p1, tokenStart0, 0, token0, value0, 0, errorOffset0, 0, depth0, basic1, classAxles3, classPercent4, draft5, isSaved6, linkFrom7, linkMinutes8, linkPrice9, linkTo10, state11, tagAxles12, tagPlate13)
set_option maxHeartbeats 4000000 in
set_option maxRecDepth 100000 in
theorem c_X10_parse (l : Launch) (g : GT) (F : Nat) (h0 h1 h2 h3 h4 h5 h6 h7 h8 h9 h10 h11 h12 h13 : Nat) (v0_22 v0_24 v0_26 v0_27 v0_28 v0_29 v0_30 v0_31 v0_32 v0_33 v0_34 v0_35 v0_36 v0_37 : Value) (p1 thrown0 length0 textLength0 tokenStart0 tokenEnd0 token0 value0 error0 errorOffset0 given0 depth0 : Int32) (basic1 buffer2 classAxles3 classPercent4 draft5 isSaved6 linkFrom7 linkMinutes8 linkPrice9 linkTo10 state11 tagAxles12 tagPlate13 : Nat → Int32) (r o_thrown0 o_length0 o_textLength0 o_tokenStart0 o_tokenEnd0 o_token0 o_value0 o_error0 o_errorOffset0 o_given0 o_depth0 : Int32) (o_basic1 o_classAxles3 o_classPercent4 o_draft5 o_isSaved6 o_linkFrom7 o_linkMinutes8 o_linkPrice9 o_linkTo10 o_state11 o_tagAxles12 o_tagPlate13 : Nat → Int32) (sz : Nat) (hf : f_X10_parse F p1 thrown0 length0 textLength0 tokenStart0 tokenEnd0 token0 value0 error0 errorOffset0 given0 depth0 basic1 buffer2 classAxles3 classPercent4 draft5 isSaved6 linkFrom7 linkMinutes8 linkPrice9 linkTo10 state11 tagAxles12 tagPlate13 = some (r, o_thrown0, o_length0, o_textLength0, o_tokenStart0, o_tokenEnd0, o_token0, o_value0, o_error0, o_errorOffset0, o_given0, o_depth0, o_basic1, o_classAxles3, o_classPercent4, o_draft5, o_isSaved6, o_linkFrom7, o_linkMinutes8, o_linkPrice9, o_linkTo10, o_state11, o_tagAxles12, o_tagPlate13)) : CI l m_X10_parse (rml 7 0 0) g (w_X10_parse g h0 h1 h2 h3 h4 h5 h6 h7 h8 h9 h10 h11 h12 h13 v0_22 v0_24 v0_26 v0_27 v0_28 v0_29 v0_30 v0_31 v0_32 v0_33 v0_34 v0_35 v0_36 v0_37 thrown0 length0 textLength0 tokenStart0 tokenEnd0 token0 value0 error0 errorOffset0 given0 depth0 basic1 buffer2 classAxles3 classPercent4 draft5 isSaved6 linkFrom7 linkMinutes8 linkPrice9 linkTo10 state11 tagAxles12 tagPlate13) (fun _ => w_X10_parse g h0 h1 h2 h3 h4 h5 h6 h7 h8 h9 h10 h11 h12 h13 v0_22 v0_24 v0_26 v0_27 v0_28 v0_29 v0_30 v0_31 v0_32 v0_33 v0_34 v0_35 v0_36 v0_37 o_thrown0 o_length0 o_textLength0 o_tokenStart0 o_tokenEnd0 o_token0 o_value0 o_error0 o_errorOffset0 o_given0 o_depth0 o_basic1 buffer2 o_classAxles3 o_classPercent4 o_draft5 o_isSaved6 o_linkFrom7 o_linkMinutes8 o_linkPrice9 o_linkTo10 o_state11 o_tagAxles12 o_tagPlate13) sz [.ref h0, .int p1] r := by
  refine en_i (by decide) (Nat.le_of_ble_eq_true rfl) (fun p e s m args below meth c A ls C w hl => ?_)
  have C : Cx p s m args meth c RX10 m_X10_parse g A := C
  have hx := C.1
  have hb : c.code = cX10_parse := C.2.1
  have hl : lv_has ls 3 [(0, .ref h0), (1, .int p1)] := hl
  obtain ⟨Q, hQ⟩ : ∃ Q, Q = QI below args s g A (fun _ => w_X10_parse g h0 h1 h2 h3 h4 h5 h6 h7 h8 h9 h10 h11 h12 h13 v0_22 v0_24 v0_26 v0_27 v0_28 v0_29 v0_30 v0_31 v0_32 v0_33 v0_34 v0_35 v0_36 v0_37 o_thrown0 o_length0 o_textLength0 o_tokenStart0 o_tokenEnd0 o_token0 o_value0 o_error0 o_errorOffset0 o_given0 o_depth0 o_basic1 buffer2 o_classAxles3 o_classPercent4 o_draft5 o_isSaved6 o_linkFrom7 o_linkMinutes8 o_linkPrice9 o_linkTo10 o_state11 o_tagAxles12 o_tagPlate13) r 0 0 := ⟨_, rfl⟩
  suffices hW : W p l e (rml 7 0 0) s m args below meth c s.heap [] 0 0 Q (F0 m 0 ls []) from (by rw [hQ] at hW; exact hW)
  unfold f_X10_parse at hf
  have L119 : ∀ (z : Int32 × Int32 × Int32 × Int32 × Int32 × Int32 × Int32 × Int32 × Int32 × Int32 × Int32 × Int32 × (Nat → Int32) × (Nat → Int32) × (Nat → Int32) × (Nat → Int32) × (Nat → Int32) × (Nat → Int32) × (Nat → Int32) × (Nat → Int32) × (Nat → Int32) × (Nat → Int32) × (Nat → Int32) × (Nat → Int32)), f_X10_parse_L119 F buffer2 z = some (r, o_thrown0, o_length0, o_textLength0, o_tokenStart0, o_tokenEnd0, o_token0, o_value0, o_error0, o_errorOffset0, o_given0, o_depth0, o_basic1, o_classAxles3, o_classPercent4, o_draft5, o_isSaved6, o_linkFrom7, o_linkMinutes8, o_linkPrice9, o_linkTo10, o_state11, o_tagAxles12, o_tagPlate13) → ∀ (H : Heap) (locs : List Loc) (ls : Array Slot), Wd g A (w_X10_parse g h0 h1 h2 h3 h4 h5 h6 h7 h8 h9 h10 h11 h12 h13 v0_22 v0_24 v0_26 v0_27 v0_28 v0_29 v0_30 v0_31 v0_32 v0_33 v0_34 v0_35 v0_36 v0_37 z.2.1 z.2.2.1 z.2.2.2.1 z.2.2.2.2.1 z.2.2.2.2.2.1 z.2.2.2.2.2.2.1 z.2.2.2.2.2.2.2.1 z.2.2.2.2.2.2.2.2.1 z.2.2.2.2.2.2.2.2.2.1 z.2.2.2.2.2.2.2.2.2.2.1 z.2.2.2.2.2.2.2.2.2.2.2.1 z.2.2.2.2.2.2.2.2.2.2.2.2.1 buffer2 z.2.2.2.2.2.2.2.2.2.2.2.2.2.1 z.2.2.2.2.2.2.2.2.2.2.2.2.2.2.1 z.2.2.2.2.2.2.2.2.2.2.2.2.2.2.2.1 z.2.2.2.2.2.2.2.2.2.2.2.2.2.2.2.2.1 z.2.2.2.2.2.2.2.2.2.2.2.2.2.2.2.2.2.1 z.2.2.2.2.2.2.2.2.2.2.2.2.2.2.2.2.2.2.1 z.2.2.2.2.2.2.2.2.2.2.2.2.2.2.2.2.2.2.2.1 z.2.2.2.2.2.2.2.2.2.2.2.2.2.2.2.2.2.2.2.2.1 z.2.2.2.2.2.2.2.2.2.2.2.2.2.2.2.2.2.2.2.2.2.1 z.2.2.2.2.2.2.2.2.2.2.2.2.2.2.2.2.2.2.2.2.2.2.1 z.2.2.2.2.2.2.2.2.2.2.2.2.2.2.2.2.2.2.2.2.2.2.2) s.heap H locs → lv_has ls 3 [(0, .ref h0), (2, .int z.1)] → W p l e (rml 7 0 0) s m args below meth c H locs 0 0 Q (F0 m 119 ls []) := by
    intro z hf
    refine lp_W (r := (r, o_thrown0, o_length0, o_textLength0, o_tokenStart0, o_tokenEnd0, o_token0, o_value0, o_error0, o_errorOffset0, o_given0, o_depth0, o_basic1, o_classAxles3, o_classPercent4, o_draft5, o_isSaved6, o_linkFrom7, o_linkMinutes8, o_linkPrice9, o_linkTo10, o_state11, o_tagAxles12, o_tagPlate13)) (fun (z : Int32 × Int32 × Int32 × Int32 × Int32 × Int32 × Int32 × Int32 × Int32 × Int32 × Int32 × Int32 × (Nat → Int32) × (Nat → Int32) × (Nat → Int32) × (Nat → Int32) × (Nat → Int32) × (Nat → Int32) × (Nat → Int32) × (Nat → Int32) × (Nat → Int32) × (Nat → Int32) × (Nat → Int32) × (Nat → Int32)) => ∀ (H : Heap) (locs : List Loc) (ls : Array Slot), Wd g A (w_X10_parse g h0 h1 h2 h3 h4 h5 h6 h7 h8 h9 h10 h11 h12 h13 v0_22 v0_24 v0_26 v0_27 v0_28 v0_29 v0_30 v0_31 v0_32 v0_33 v0_34 v0_35 v0_36 v0_37 z.2.1 z.2.2.1 z.2.2.2.1 z.2.2.2.2.1 z.2.2.2.2.2.1 z.2.2.2.2.2.2.1 z.2.2.2.2.2.2.2.1 z.2.2.2.2.2.2.2.2.1 z.2.2.2.2.2.2.2.2.2.1 z.2.2.2.2.2.2.2.2.2.2.1 z.2.2.2.2.2.2.2.2.2.2.2.1 z.2.2.2.2.2.2.2.2.2.2.2.2.1 buffer2 z.2.2.2.2.2.2.2.2.2.2.2.2.2.1 z.2.2.2.2.2.2.2.2.2.2.2.2.2.2.1 z.2.2.2.2.2.2.2.2.2.2.2.2.2.2.2.1 z.2.2.2.2.2.2.2.2.2.2.2.2.2.2.2.2.1 z.2.2.2.2.2.2.2.2.2.2.2.2.2.2.2.2.2.1 z.2.2.2.2.2.2.2.2.2.2.2.2.2.2.2.2.2.2.1 z.2.2.2.2.2.2.2.2.2.2.2.2.2.2.2.2.2.2.2.1 z.2.2.2.2.2.2.2.2.2.2.2.2.2.2.2.2.2.2.2.2.1 z.2.2.2.2.2.2.2.2.2.2.2.2.2.2.2.2.2.2.2.2.2.1 z.2.2.2.2.2.2.2.2.2.2.2.2.2.2.2.2.2.2.2.2.2.2.1 z.2.2.2.2.2.2.2.2.2.2.2.2.2.2.2.2.2.2.2.2.2.2.2) s.heap H locs → lv_has ls 3 [(0, .ref h0), (2, .int z.1)] → W p l e (rml 7 0 0) s m args below meth c H locs 0 0 Q (F0 m 119 ls [])) (fun k119 z ih119 hf => ?_) F z hf
    obtain ⟨x2, thrown0, length0, textLength0, tokenStart0, tokenEnd0, token0, value0, error0, errorOffset0, given0, depth0, basic1, classAxles3, classPercent4, draft5, isSaved6, linkFrom7, linkMinutes8, linkPrice9, linkTo10, state11, tagAxles12, tagPlate13⟩ := z
    intro H locs ls w hl
    try dsimp only at hf w hl ⊢
    unfold f_X10_parse_h119 at hf
    refine lv_iload_n hx hb dX10_parse_119 rfl (lv_at hl 1 rfl) ?_
    refine lv_bipush (v := 7) hx hb dX10_parse_120 (by decide) ?_
    refine lv_icmp_ge (tgt := 143) hx hb dX10_parse_122 (by decide) (fun c1 => ?_) (fun c1 => ?_)
    · replace hf := it_t c1 hf
      refine lv_aload_n hx hb dX10_parse_143 rfl (lv_at hl 0 rfl) ?_
      refine g_X10_20 C w 0 rfl rfl dX10_parse_144 ?_
      obtain ⟨o2, hc3, hf⟩ := bd1_some hf
      refine ca_vS C w (wn := fun _ => w_X10_parse g h0 h1 h2 h3 h4 h5 h6 h7 h8 h9 h10 h11 h12 h13 v0_22 v0_24 v0_26 v0_27 v0_28 v0_29 v0_30 v0_31 v0_32 v0_33 v0_34 v0_35 v0_36 v0_37 thrown0 length0 textLength0 tokenStart0 tokenEnd0 token0 value0 error0 errorOffset0 given0 depth0 basic1 buffer2 classAxles3 classPercent4 draft5 isSaved6 o2 linkMinutes8 linkPrice9 linkTo10 state11 tagAxles12 tagPlate13) (pm_k [false, false, false, false, false, false, false, true, false, false, false, false, false, false] rfl rfl (fun _ => Nat.le_of_ble_eq_true rfl) (fun _ => rfl)) (c_X10_adopt l g F h7 48 linkFrom7 o2 _ hc3) k_X10_208 (rm_le (by decide) (by decide)) rfl hl.1 rfl (Nat.le_of_ble_eq_true rfl) dX10_parse_147 ⟨Nat.le_of_ble_eq_true rfl, Nat.le_of_ble_eq_true rfl⟩ (cells2 := 0) (slots2 := 0) ⟨rfl, rfl⟩ (fun _ H locs w => ?_)
      refine lv_aload_n hx hb dX10_parse_150 rfl (lv_at hl 0 rfl) ?_
      refine g_X10_23 C w 0 rfl rfl dX10_parse_151 ?_
      obtain ⟨o4, hc5, hf⟩ := bd1_some hf
      refine ca_vS C w (wn := fun _ => w_X10_parse g h0 h1 h2 h3 h4 h5 h6 h7 h8 h9 h10 h11 h12 h13 v0_22 v0_24 v0_26 v0_27 v0_28 v0_29 v0_30 v0_31 v0_32 v0_33 v0_34 v0_35 v0_36 v0_37 thrown0 length0 textLength0 tokenStart0 tokenEnd0 token0 value0 error0 errorOffset0 given0 depth0 basic1 buffer2 classAxles3 classPercent4 draft5 isSaved6 o2 linkMinutes8 linkPrice9 o4 state11 tagAxles12 tagPlate13) (pm_k [false, false, false, false, false, false, false, false, false, false, true, false, false, false] rfl rfl (fun _ => Nat.le_of_ble_eq_true rfl) (fun _ => rfl)) (c_X10_adopt l g F h10 48 linkTo10 o4 _ hc5) k_X10_208 (rm_le (by decide) (by decide)) rfl hl.1 rfl (Nat.le_of_ble_eq_true rfl) dX10_parse_154 ⟨Nat.le_of_ble_eq_true rfl, Nat.le_of_ble_eq_true rfl⟩ (cells2 := 0) (slots2 := 0) ⟨rfl, rfl⟩ (fun _ H locs w => ?_)
      refine lv_aload_n hx hb dX10_parse_157 rfl (lv_at hl 0 rfl) ?_
      refine g_X10_26 C w 0 rfl rfl dX10_parse_158 ?_
      obtain ⟨o6, hc7, hf⟩ := bd1_some hf
      refine ca_vS C w (wn := fun _ => w_X10_parse g h0 h1 h2 h3 h4 h5 h6 h7 h8 h9 h10 h11 h12 h13 v0_22 v0_24 v0_26 v0_27 v0_28 v0_29 v0_30 v0_31 v0_32 v0_33 v0_34 v0_35 v0_36 v0_37 thrown0 length0 textLength0 tokenStart0 tokenEnd0 token0 value0 error0 errorOffset0 given0 depth0 basic1 buffer2 classAxles3 classPercent4 draft5 isSaved6 o2 o6 linkPrice9 o4 state11 tagAxles12 tagPlate13) (pm_k [false, false, false, false, false, false, false, false, true, false, false, false, false, false] rfl rfl (fun _ => Nat.le_of_ble_eq_true rfl) (fun _ => rfl)) (c_X10_adopt l g F h8 48 linkMinutes8 o6 _ hc7) k_X10_208 (rm_le (by decide) (by decide)) rfl hl.1 rfl (Nat.le_of_ble_eq_true rfl) dX10_parse_161 ⟨Nat.le_of_ble_eq_true rfl, Nat.le_of_ble_eq_true rfl⟩ (cells2 := 0) (slots2 := 0) ⟨rfl, rfl⟩ (fun _ H locs w => ?_)
      refine lv_aload_n hx hb dX10_parse_164 rfl (lv_at hl 0 rfl) ?_
      refine g_X10_29 C w 0 rfl rfl dX10_parse_165 ?_
      obtain ⟨o8, hc9, hf⟩ := bd1_some hf
      refine ca_vS C w (wn := fun _ => w_X10_parse g h0 h1 h2 h3 h4 h5 h6 h7 h8 h9 h10 h11 h12 h13 v0_22 v0_24 v0_26 v0_27 v0_28 v0_29 v0_30 v0_31 v0_32 v0_33 v0_34 v0_35 v0_36 v0_37 thrown0 length0 textLength0 tokenStart0 tokenEnd0 token0 value0 error0 errorOffset0 given0 depth0 basic1 buffer2 classAxles3 classPercent4 draft5 isSaved6 o2 o6 o8 o4 state11 tagAxles12 tagPlate13) (pm_k [false, false, false, false, false, false, false, false, false, true, false, false, false, false] rfl rfl (fun _ => Nat.le_of_ble_eq_true rfl) (fun _ => rfl)) (c_X10_adopt l g F h9 48 linkPrice9 o8 _ hc9) k_X10_208 (rm_le (by decide) (by decide)) rfl hl.1 rfl (Nat.le_of_ble_eq_true rfl) dX10_parse_168 ⟨Nat.le_of_ble_eq_true rfl, Nat.le_of_ble_eq_true rfl⟩ (cells2 := 0) (slots2 := 0) ⟨rfl, rfl⟩ (fun _ H locs w => ?_)
      refine lv_aload_n hx hb dX10_parse_171 rfl (lv_at hl 0 rfl) ?_
      refine g_X10_32 C w 0 rfl rfl dX10_parse_172 ?_
      obtain ⟨o10, hc11, hf⟩ := bd1_some hf
      refine ca_vS C w (wn := fun _ => w_X10_parse g h0 h1 h2 h3 h4 h5 h6 h7 h8 h9 h10 h11 h12 h13 v0_22 v0_24 v0_26 v0_27 v0_28 v0_29 v0_30 v0_31 v0_32 v0_33 v0_34 v0_35 v0_36 v0_37 thrown0 length0 textLength0 tokenStart0 tokenEnd0 token0 value0 error0 errorOffset0 given0 depth0 basic1 buffer2 o10 classPercent4 draft5 isSaved6 o2 o6 o8 o4 state11 tagAxles12 tagPlate13) (pm_k [false, false, false, true, false, false, false, false, false, false, false, false, false, false] rfl rfl (fun _ => Nat.le_of_ble_eq_true rfl) (fun _ => rfl)) (c_X10_adopt l g F h3 8 classAxles3 o10 _ hc11) k_X10_208 (rm_le (by decide) (by decide)) rfl hl.1 rfl (Nat.le_of_ble_eq_true rfl) dX10_parse_175 ⟨Nat.le_of_ble_eq_true rfl, Nat.le_of_ble_eq_true rfl⟩ (cells2 := 0) (slots2 := 0) ⟨rfl, rfl⟩ (fun _ H locs w => ?_)
      refine lv_aload_n hx hb dX10_parse_178 rfl (lv_at hl 0 rfl) ?_
      refine g_X10_35 C w 0 rfl rfl dX10_parse_179 ?_
      obtain ⟨o12, hc13, hf⟩ := bd1_some hf
      refine ca_vS C w (wn := fun _ => w_X10_parse g h0 h1 h2 h3 h4 h5 h6 h7 h8 h9 h10 h11 h12 h13 v0_22 v0_24 v0_26 v0_27 v0_28 v0_29 v0_30 v0_31 v0_32 v0_33 v0_34 v0_35 v0_36 v0_37 thrown0 length0 textLength0 tokenStart0 tokenEnd0 token0 value0 error0 errorOffset0 given0 depth0 basic1 buffer2 o10 o12 draft5 isSaved6 o2 o6 o8 o4 state11 tagAxles12 tagPlate13) (pm_k [false, false, false, false, true, false, false, false, false, false, false, false, false, false] rfl rfl (fun _ => Nat.le_of_ble_eq_true rfl) (fun _ => rfl)) (c_X10_adopt l g F h4 8 classPercent4 o12 _ hc13) k_X10_208 (rm_le (by decide) (by decide)) rfl hl.1 rfl (Nat.le_of_ble_eq_true rfl) dX10_parse_182 ⟨Nat.le_of_ble_eq_true rfl, Nat.le_of_ble_eq_true rfl⟩ (cells2 := 0) (slots2 := 0) ⟨rfl, rfl⟩ (fun _ H locs w => ?_)
      refine lv_aload_n hx hb dX10_parse_185 rfl (lv_at hl 0 rfl) ?_
      refine g_X10_38 C w 0 rfl rfl dX10_parse_186 ?_
      obtain ⟨o14, hc15, hf⟩ := bd1_some hf
      refine ca_vS C w (wn := fun _ => w_X10_parse g h0 h1 h2 h3 h4 h5 h6 h7 h8 h9 h10 h11 h12 h13 v0_22 v0_24 v0_26 v0_27 v0_28 v0_29 v0_30 v0_31 v0_32 v0_33 v0_34 v0_35 v0_36 v0_37 thrown0 length0 textLength0 tokenStart0 tokenEnd0 token0 value0 error0 errorOffset0 given0 depth0 basic1 buffer2 o10 o12 draft5 isSaved6 o2 o6 o8 o4 state11 tagAxles12 o14) (pm_k [false, false, false, false, false, false, false, false, false, false, false, false, false, true] rfl rfl (fun _ => Nat.le_of_ble_eq_true rfl) (fun _ => rfl)) (c_X10_adopt l g F h13 24 tagPlate13 o14 _ hc15) k_X10_208 (rm_le (by decide) (by decide)) rfl hl.1 rfl (Nat.le_of_ble_eq_true rfl) dX10_parse_189 ⟨Nat.le_of_ble_eq_true rfl, Nat.le_of_ble_eq_true rfl⟩ (cells2 := 0) (slots2 := 0) ⟨rfl, rfl⟩ (fun _ H locs w => ?_)
      refine lv_aload_n hx hb dX10_parse_192 rfl (lv_at hl 0 rfl) ?_
      refine g_X10_41 C w 0 rfl rfl dX10_parse_193 ?_
      obtain ⟨o16, hc17, hf⟩ := bd1_some hf
      refine ca_vS C w (wn := fun _ => w_X10_parse g h0 h1 h2 h3 h4 h5 h6 h7 h8 h9 h10 h11 h12 h13 v0_22 v0_24 v0_26 v0_27 v0_28 v0_29 v0_30 v0_31 v0_32 v0_33 v0_34 v0_35 v0_36 v0_37 thrown0 length0 textLength0 tokenStart0 tokenEnd0 token0 value0 error0 errorOffset0 given0 depth0 basic1 buffer2 o10 o12 draft5 isSaved6 o2 o6 o8 o4 state11 o16 o14) (pm_k [false, false, false, false, false, false, false, false, false, false, false, false, true, false] rfl rfl (fun _ => Nat.le_of_ble_eq_true rfl) (fun _ => rfl)) (c_X10_adopt l g F h12 24 tagAxles12 o16 _ hc17) k_X10_208 (rm_le (by decide) (by decide)) rfl hl.1 rfl (Nat.le_of_ble_eq_true rfl) dX10_parse_196 ⟨Nat.le_of_ble_eq_true rfl, Nat.le_of_ble_eq_true rfl⟩ (cells2 := 0) (slots2 := 0) ⟨rfl, rfl⟩ (fun _ H locs w => ?_)
      refine lv_aload_n hx hb dX10_parse_199 rfl (lv_at hl 0 rfl) ?_
      obtain ⟨o18, hc19, hf⟩ := bd1_some hf
      refine ca_vV C w (wn := fun _ => w_X10_parse g h0 h1 h2 h3 h4 h5 h6 h7 h8 h9 h10 h11 h12 h13 v0_22 v0_24 v0_26 v0_27 v0_28 v0_29 v0_30 v0_31 v0_32 v0_33 v0_34 v0_35 v0_36 v0_37 thrown0 length0 textLength0 tokenStart0 tokenEnd0 token0 value0 error0 errorOffset0 given0 depth0 basic1 buffer2 o10 o12 draft5 isSaved6 o2 o6 o8 o4 o18 o16 o14) (pm_k [true, false, false, false, false, false, false, false, false, false, false, true, false, false] rfl rfl (fun _ => Nat.le_of_ble_eq_true rfl) (fun _ => rfl)) (c_X10_clearState l g F h0 h11 (.int thrown0) (.ref h2) (.int length0) (.int textLength0) (.int tokenStart0) (.int tokenEnd0) (.int token0) (.int value0) (.int error0) (.int errorOffset0) (.ref h1) (.ref h5) (.ref h7) (.ref h10) (.ref h8) (.ref h9) (.ref h3) (.ref h4) (.ref h13) (.ref h12) (.int given0) v0_22 (.int depth0) v0_24 (.ref h6) v0_26 v0_27 v0_28 v0_29 v0_30 v0_31 v0_32 v0_33 v0_34 v0_35 v0_36 v0_37 state11 o18 _ hc19) k_X10_81 (rm_le (by decide) (by decide)) 0 10 rfl rfl rfl rfl hl.1 rfl (Nat.le_of_ble_eq_true rfl) dX10_parse_200 ⟨Nat.le_of_ble_eq_true rfl, Nat.le_of_ble_eq_true rfl⟩ (cells2 := 0) (slots2 := 0) ⟨rfl, rfl⟩ (fun _ H locs w => ?_)
      refine lv_aload_n hx hb dX10_parse_203 rfl (lv_at hl 0 rfl) ?_
      refine lv_iconst (v := 0) hx hb dX10_parse_204 (by decide) ?_
      refine p_X10_212 C w 0 rfl (Nat.le_of_ble_eq_true rfl) (ws2 := w_X10_parse g h0 h1 h2 h3 h4 h5 h6 h7 h8 h9 h10 h11 h12 h13 v0_22 v0_24 v0_26 v0_27 v0_28 v0_29 v0_30 v0_31 v0_32 v0_33 v0_34 v0_35 v0_36 v0_37 thrown0 length0 textLength0 tokenStart0 tokenEnd0 token0 value0 error0 errorOffset0 given0 0 basic1 buffer2 o10 o12 draft5 isSaved6 o2 o6 o8 o4 o18 o16 o14) rfl dX10_parse_205 (fun H locs w => ?_)
      refine lv_aload_n hx hb dX10_parse_208 rfl (lv_at hl 0 rfl) ?_
      refine g_X10_53 C w 0 rfl rfl dX10_parse_209 ?_
      refine lv_iconst (v := 0) hx hb dX10_parse_212 (by decide) ?_
      refine lv_iconst (v := 0) hx hb dX10_parse_213 (by decide) ?_
      obtain ⟨f20, hif20, haf20, hf⟩ := wr_some hf
      refine zas C w 6 rfl hif20 haf20 (ws2 := w_X10_parse g h0 h1 h2 h3 h4 h5 h6 h7 h8 h9 h10 h11 h12 h13 v0_22 v0_24 v0_26 v0_27 v0_28 v0_29 v0_30 v0_31 v0_32 v0_33 v0_34 v0_35 v0_36 v0_37 thrown0 length0 textLength0 tokenStart0 tokenEnd0 token0 value0 error0 errorOffset0 given0 0 basic1 buffer2 o10 o12 draft5 f20 o2 o6 o8 o4 o18 o16 o14) rfl dX10_parse_214 (fun H locs w => ?_)
      refine lv_aload_n hx hb dX10_parse_215 rfl (lv_at hl 0 rfl) ?_
      refine g_X10_53 C w 0 rfl rfl dX10_parse_216 ?_
      refine lv_iconst (v := 1) hx hb dX10_parse_219 (by decide) ?_
      refine lv_iconst (v := 0) hx hb dX10_parse_220 (by decide) ?_
      obtain ⟨f21, hif21, haf21, hf⟩ := wr_some hf
      refine zas C w 6 rfl hif21 haf21 (ws2 := w_X10_parse g h0 h1 h2 h3 h4 h5 h6 h7 h8 h9 h10 h11 h12 h13 v0_22 v0_24 v0_26 v0_27 v0_28 v0_29 v0_30 v0_31 v0_32 v0_33 v0_34 v0_35 v0_36 v0_37 thrown0 length0 textLength0 tokenStart0 tokenEnd0 token0 value0 error0 errorOffset0 given0 0 basic1 buffer2 o10 o12 draft5 f21 o2 o6 o8 o4 o18 o16 o14) rfl dX10_parse_221 (fun H locs w => ?_)
      refine lv_aload_n hx hb dX10_parse_222 rfl (lv_at hl 0 rfl) ?_
      refine g_X10_13 C w 0 rfl rfl dX10_parse_223 ?_
      refine lv_iconst (v := 1) hx hb dX10_parse_226 (by decide) ?_
      obtain ⟨a22, hia22, haa22, hf⟩ := rd_some hf
      refine ial C w 1 rfl hia22 haa22 dX10_parse_227 ?_
      obtain ⟨e1, e2, e3, e4, e5, e6, e7, e8, e9, e10, e11, e12, e13, e14, e15, e16, e17, e18, e19, e20, e21, e22, e23, e24⟩ := tp24 hf
      rw [hQ]
      exact rt_i C w rfl (fun _ => 0) (by rw [← e2, ← e3, ← e4, ← e5, ← e6, ← e7, ← e8, ← e9, ← e10, ← e11, ← e12, ← e13, ← e14, ← e15, ← e16, ← e17, ← e18, ← e19, ← e20, ← e21, ← e22, ← e23, ← e24]) e1 dX10_parse_228
    · replace hf := it_f c1 hf
      refine lv_aload_n hx hb dX10_parse_125 rfl (lv_at hl 0 rfl) ?_
      refine g_X10_13 C w 0 rfl rfl dX10_parse_126 ?_
      refine lv_iload_n hx hb dX10_parse_129 rfl (lv_at hl 1 rfl) ?_
      refine lv_aload_n hx hb dX10_parse_130 rfl (lv_at hl 0 rfl) ?_
      refine g_X10_17 C w 0 rfl rfl dX10_parse_131 ?_
      refine lv_iload_n hx hb dX10_parse_134 rfl (lv_at hl 1 rfl) ?_
      obtain ⟨a23, hia23, haa23, hf⟩ := rd_some hf
      refine ial C w 5 rfl hia23 haa23 dX10_parse_135 ?_
      obtain ⟨f24, hif24, haf24, hf⟩ := wr_some hf
      refine ias C w 1 rfl hif24 haf24 (ws2 := w_X10_parse g h0 h1 h2 h3 h4 h5 h6 h7 h8 h9 h10 h11 h12 h13 v0_22 v0_24 v0_26 v0_27 v0_28 v0_29 v0_30 v0_31 v0_32 v0_33 v0_34 v0_35 v0_36 v0_37 thrown0 length0 textLength0 tokenStart0 tokenEnd0 token0 value0 error0 errorOffset0 given0 depth0 f24 buffer2 classAxles3 classPercent4 draft5 isSaved6 linkFrom7 linkMinutes8 linkPrice9 linkTo10 state11 tagAxles12 tagPlate13) rfl dX10_parse_136 (fun H locs w => ?_)
      refine lv_iinc (v := x2 + 1) (lv' := [(2, .int (x2 + 1)), (0, .ref h0)]) hx hb dX10_parse_137 hl (k := 1) rfl rfl (by decide) rfl (fun ls hl => ?_)
      refine lv_goto (tgt := 119) hx hb dX10_parse_140 (by decide) ?_
      exact ih119 (x2 + 1, thrown0, length0, textLength0, tokenStart0, tokenEnd0, token0, value0, error0, errorOffset0, given0, depth0, f24, classAxles3, classPercent4, draft5, isSaved6, linkFrom7, linkMinutes8, linkPrice9, linkTo10, state11, tagAxles12, tagPlate13) hf _ _ _ w (lv_sub hl [1, 0] rfl)
  have b94 : ∀ (thrown0 length0 textLength0 tokenStart0 tokenEnd0 token0 value0 error0 errorOffset0 given0 depth0 : Int32) (basic1 classAxles3 classPercent4 draft5 isSaved6 linkFrom7 linkMinutes8 linkPrice9 linkTo10 state11 tagAxles12 tagPlate13 : Nat → Int32) (H : Heap) (locs : List Loc) (ls : Array Slot), f_X10_parse_b94 F buffer2 thrown0 length0 textLength0 tokenStart0 tokenEnd0 token0 value0 error0 errorOffset0 given0 depth0 basic1 classAxles3 classPercent4 draft5 isSaved6 linkFrom7 linkMinutes8 linkPrice9 linkTo10 state11 tagAxles12 tagPlate13 = some (r, o_thrown0, o_length0, o_textLength0, o_tokenStart0, o_tokenEnd0, o_token0, o_value0, o_error0, o_errorOffset0, o_given0, o_depth0, o_basic1, o_classAxles3, o_classPercent4, o_draft5, o_isSaved6, o_linkFrom7, o_linkMinutes8, o_linkPrice9, o_linkTo10, o_state11, o_tagAxles12, o_tagPlate13) → Wd g A (w_X10_parse g h0 h1 h2 h3 h4 h5 h6 h7 h8 h9 h10 h11 h12 h13 v0_22 v0_24 v0_26 v0_27 v0_28 v0_29 v0_30 v0_31 v0_32 v0_33 v0_34 v0_35 v0_36 v0_37 thrown0 length0 textLength0 tokenStart0 tokenEnd0 token0 value0 error0 errorOffset0 given0 depth0 basic1 buffer2 classAxles3 classPercent4 draft5 isSaved6 linkFrom7 linkMinutes8 linkPrice9 linkTo10 state11 tagAxles12 tagPlate13) s.heap H locs → lv_has ls 3 [(0, .ref h0)] → W p l e (rml 7 0 0) s m args below meth c H locs 0 0 Q (F0 m 94 ls []) := by
    intro thrown0 length0 textLength0 tokenStart0 tokenEnd0 token0 value0 error0 errorOffset0 given0 depth0 basic1 classAxles3 classPercent4 draft5 isSaved6 linkFrom7 linkMinutes8 linkPrice9 linkTo10 state11 tagAxles12 tagPlate13 H locs ls hf w hl
    unfold f_X10_parse_b94 at hf
    refine lv_aload_n hx hb dX10_parse_94 rfl (lv_at hl 0 rfl) ?_
    refine g_X10_126 C w 0 rfl rfl dX10_parse_95 ?_
    refine lv_if_eq (tgt := 117) hx hb dX10_parse_98 (by decide) (fun c25 => ?_) (fun c25 => ?_)
    · replace hf := it_t c25 hf
      refine lv_iconst (v := 0) hx hb dX10_parse_117 (by decide) ?_
      refine lv_istore_n (lv' := [(2, .int 0), (0, .ref h0)]) hx hb dX10_parse_118 rfl hl (by decide) rfl (fun ls hl => ?_)
      exact L119 (0, thrown0, length0, textLength0, tokenStart0, tokenEnd0, token0, value0, error0, errorOffset0, given0, depth0, basic1, classAxles3, classPercent4, draft5, isSaved6, linkFrom7, linkMinutes8, linkPrice9, linkTo10, state11, tagAxles12, tagPlate13) hf _ _ _ w (lv_sub hl [1, 0] rfl)
    · replace hf := it_f c25 hf
      refine lv_bipush (v := -2) hx hb dX10_parse_101 (by decide) ?_
      refine lv_bipush (v := 8) hx hb dX10_parse_103 (by decide) ?_
      refine lv_aload_n hx hb dX10_parse_105 rfl (lv_at hl 0 rfl) ?_
      refine g_X10_129 C w 0 rfl rfl dX10_parse_106 ?_
      refine lv_imul hx hb dX10_parse_109 ?_
      refine lv_aload_n hx hb dX10_parse_110 rfl (lv_at hl 0 rfl) ?_
      refine g_X10_126 C w 0 rfl rfl dX10_parse_111 ?_
      refine lv_iadd hx hb dX10_parse_114 ?_
      refine lv_isub hx hb dX10_parse_115 ?_
      obtain ⟨e1, e2, e3, e4, e5, e6, e7, e8, e9, e10, e11, e12, e13, e14, e15, e16, e17, e18, e19, e20, e21, e22, e23, e24⟩ := tp24 hf
      rw [hQ]
      exact rt_i C w rfl (fun _ => 0) (by rw [← e2, ← e3, ← e4, ← e5, ← e6, ← e7, ← e8, ← e9, ← e10, ← e11, ← e12, ← e13, ← e14, ← e15, ← e16, ← e17, ← e18, ← e19, ← e20, ← e21, ← e22, ← e23, ← e24]) e1 dX10_parse_116
  have L52 : ∀ (z : Int32 × Int32 × Int32 × Int32 × Int32 × Int32 × Int32 × Int32 × Int32 × Int32 × Int32 × Int32 × Int32 × (Nat → Int32) × (Nat → Int32) × (Nat → Int32) × (Nat → Int32) × (Nat → Int32) × (Nat → Int32) × (Nat → Int32) × (Nat → Int32) × (Nat → Int32) × (Nat → Int32) × (Nat → Int32) × (Nat → Int32)), f_X10_parse_L52 F buffer2 z = some (r, o_thrown0, o_length0, o_textLength0, o_tokenStart0, o_tokenEnd0, o_token0, o_value0, o_error0, o_errorOffset0, o_given0, o_depth0, o_basic1, o_classAxles3, o_classPercent4, o_draft5, o_isSaved6, o_linkFrom7, o_linkMinutes8, o_linkPrice9, o_linkTo10, o_state11, o_tagAxles12, o_tagPlate13) → ∀ (H : Heap) (locs : List Loc) (ls : Array Slot), Wd g A (w_X10_parse g h0 h1 h2 h3 h4 h5 h6 h7 h8 h9 h10 h11 h12 h13 v0_22 v0_24 v0_26 v0_27 v0_28 v0_29 v0_30 v0_31 v0_32 v0_33 v0_34 v0_35 v0_36 v0_37 z.2.2.1 z.2.2.2.1 z.2.2.2.2.1 z.2.2.2.2.2.1 z.2.2.2.2.2.2.1 z.2.2.2.2.2.2.2.1 z.2.2.2.2.2.2.2.2.1 z.2.2.2.2.2.2.2.2.2.1 z.2.2.2.2.2.2.2.2.2.2.1 z.2.2.2.2.2.2.2.2.2.2.2.1 z.2.2.2.2.2.2.2.2.2.2.2.2.1 z.2.2.2.2.2.2.2.2.2.2.2.2.2.1 buffer2 z.2.2.2.2.2.2.2.2.2.2.2.2.2.2.1 z.2.2.2.2.2.2.2.2.2.2.2.2.2.2.2.1 z.2.2.2.2.2.2.2.2.2.2.2.2.2.2.2.2.1 z.2.2.2.2.2.2.2.2.2.2.2.2.2.2.2.2.2.1 z.2.2.2.2.2.2.2.2.2.2.2.2.2.2.2.2.2.2.1 z.2.2.2.2.2.2.2.2.2.2.2.2.2.2.2.2.2.2.2.1 z.2.2.2.2.2.2.2.2.2.2.2.2.2.2.2.2.2.2.2.2.1 z.2.2.2.2.2.2.2.2.2.2.2.2.2.2.2.2.2.2.2.2.2.1 z.2.2.2.2.2.2.2.2.2.2.2.2.2.2.2.2.2.2.2.2.2.2.1 z.2.2.2.2.2.2.2.2.2.2.2.2.2.2.2.2.2.2.2.2.2.2.2.1 z.2.2.2.2.2.2.2.2.2.2.2.2.2.2.2.2.2.2.2.2.2.2.2.2) s.heap H locs → lv_has ls 3 [(0, .ref h0), (1, .int z.1), (2, .int z.2.1)] → W p l e (rml 7 0 0) s m args below meth c H locs 0 0 Q (F0 m 52 ls []) := by
    intro z hf
    refine lp_W (r := (r, o_thrown0, o_length0, o_textLength0, o_tokenStart0, o_tokenEnd0, o_token0, o_value0, o_error0, o_errorOffset0, o_given0, o_depth0, o_basic1, o_classAxles3, o_classPercent4, o_draft5, o_isSaved6, o_linkFrom7, o_linkMinutes8, o_linkPrice9, o_linkTo10, o_state11, o_tagAxles12, o_tagPlate13)) (fun (z : Int32 × Int32 × Int32 × Int32 × Int32 × Int32 × Int32 × Int32 × Int32 × Int32 × Int32 × Int32 × Int32 × (Nat → Int32) × (Nat → Int32) × (Nat → Int32) × (Nat → Int32) × (Nat → Int32) × (Nat → Int32) × (Nat → Int32) × (Nat → Int32) × (Nat → Int32) × (Nat → Int32) × (Nat → Int32) × (Nat → Int32)) => ∀ (H : Heap) (locs : List Loc) (ls : Array Slot), Wd g A (w_X10_parse g h0 h1 h2 h3 h4 h5 h6 h7 h8 h9 h10 h11 h12 h13 v0_22 v0_24 v0_26 v0_27 v0_28 v0_29 v0_30 v0_31 v0_32 v0_33 v0_34 v0_35 v0_36 v0_37 z.2.2.1 z.2.2.2.1 z.2.2.2.2.1 z.2.2.2.2.2.1 z.2.2.2.2.2.2.1 z.2.2.2.2.2.2.2.1 z.2.2.2.2.2.2.2.2.1 z.2.2.2.2.2.2.2.2.2.1 z.2.2.2.2.2.2.2.2.2.2.1 z.2.2.2.2.2.2.2.2.2.2.2.1 z.2.2.2.2.2.2.2.2.2.2.2.2.1 z.2.2.2.2.2.2.2.2.2.2.2.2.2.1 buffer2 z.2.2.2.2.2.2.2.2.2.2.2.2.2.2.1 z.2.2.2.2.2.2.2.2.2.2.2.2.2.2.2.1 z.2.2.2.2.2.2.2.2.2.2.2.2.2.2.2.2.1 z.2.2.2.2.2.2.2.2.2.2.2.2.2.2.2.2.2.1 z.2.2.2.2.2.2.2.2.2.2.2.2.2.2.2.2.2.2.1 z.2.2.2.2.2.2.2.2.2.2.2.2.2.2.2.2.2.2.2.1 z.2.2.2.2.2.2.2.2.2.2.2.2.2.2.2.2.2.2.2.2.1 z.2.2.2.2.2.2.2.2.2.2.2.2.2.2.2.2.2.2.2.2.2.1 z.2.2.2.2.2.2.2.2.2.2.2.2.2.2.2.2.2.2.2.2.2.2.1 z.2.2.2.2.2.2.2.2.2.2.2.2.2.2.2.2.2.2.2.2.2.2.2.1 z.2.2.2.2.2.2.2.2.2.2.2.2.2.2.2.2.2.2.2.2.2.2.2.2) s.heap H locs → lv_has ls 3 [(0, .ref h0), (1, .int z.1), (2, .int z.2.1)] → W p l e (rml 7 0 0) s m args below meth c H locs 0 0 Q (F0 m 52 ls [])) (fun k52 z ih52 hf => ?_) F z hf
    obtain ⟨x1, x2, thrown0, length0, textLength0, tokenStart0, tokenEnd0, token0, value0, error0, errorOffset0, given0, depth0, basic1, classAxles3, classPercent4, draft5, isSaved6, linkFrom7, linkMinutes8, linkPrice9, linkTo10, state11, tagAxles12, tagPlate13⟩ := z
    intro H locs ls w hl
    try dsimp only at hf w hl ⊢
    unfold f_X10_parse_h52 at hf
    refine lv_iload_n hx hb dX10_parse_52 rfl (lv_at hl 2 rfl) ?_
    refine lv_bipush (v := 7) hx hb dX10_parse_53 (by decide) ?_
    refine lv_icmp_ge (tgt := 71) hx hb dX10_parse_55 (by decide) (fun c26 => ?_) (fun c26 => ?_)
    · replace hf := it_t c26 hf
      refine lv_aload_n hx hb dX10_parse_71 rfl (lv_at hl 0 rfl) ?_
      refine g_X10_17 C w 0 rfl rfl dX10_parse_72 ?_
      refine lv_iconst (v := 4) hx hb dX10_parse_75 (by decide) ?_
      refine lv_iconst (v := 1) hx hb dX10_parse_76 (by decide) ?_
      obtain ⟨f27, hif27, haf27, hf⟩ := wr_some hf
      refine ias C w 5 rfl hif27 haf27 (ws2 := w_X10_parse g h0 h1 h2 h3 h4 h5 h6 h7 h8 h9 h10 h11 h12 h13 v0_22 v0_24 v0_26 v0_27 v0_28 v0_29 v0_30 v0_31 v0_32 v0_33 v0_34 v0_35 v0_36 v0_37 thrown0 length0 textLength0 tokenStart0 tokenEnd0 token0 value0 error0 errorOffset0 given0 depth0 basic1 buffer2 classAxles3 classPercent4 f27 isSaved6 linkFrom7 linkMinutes8 linkPrice9 linkTo10 state11 tagAxles12 tagPlate13) rfl dX10_parse_77 (fun H locs w => ?_)
      refine lv_aload_n hx hb dX10_parse_78 rfl (lv_at hl 0 rfl) ?_
      refine g_X10_17 C w 0 rfl rfl dX10_parse_79 ?_
      refine lv_iconst (v := 5) hx hb dX10_parse_82 (by decide) ?_
      refine lv_bipush (v := 60) hx hb dX10_parse_83 (by decide) ?_
      obtain ⟨f28, hif28, haf28, hf⟩ := wr_some hf
      refine ias C w 5 rfl hif28 haf28 (ws2 := w_X10_parse g h0 h1 h2 h3 h4 h5 h6 h7 h8 h9 h10 h11 h12 h13 v0_22 v0_24 v0_26 v0_27 v0_28 v0_29 v0_30 v0_31 v0_32 v0_33 v0_34 v0_35 v0_36 v0_37 thrown0 length0 textLength0 tokenStart0 tokenEnd0 token0 value0 error0 errorOffset0 given0 depth0 basic1 buffer2 classAxles3 classPercent4 f28 isSaved6 linkFrom7 linkMinutes8 linkPrice9 linkTo10 state11 tagAxles12 tagPlate13) rfl dX10_parse_85 (fun H locs w => ?_)
      refine lv_iload_n hx hb dX10_parse_86 rfl (lv_at hl 1 rfl) ?_
      refine lv_if_le (tgt := 94) hx hb dX10_parse_87 (by decide) (fun c29 => ?_) (fun c29 => ?_)
      · replace hf := it_t c29 hf
        exact b94 thrown0 length0 textLength0 tokenStart0 tokenEnd0 token0 value0 error0 errorOffset0 given0 depth0 basic1 classAxles3 classPercent4 f28 isSaved6 linkFrom7 linkMinutes8 linkPrice9 linkTo10 state11 tagAxles12 tagPlate13 _ _ _ hf w (lv_sub hl [0] rfl)
      · replace hf := it_f c29 hf
        refine lv_aload_n hx hb dX10_parse_90 rfl (lv_at hl 0 rfl) ?_
        obtain ⟨o30, o31, o32, o33, o34, o35, o36, o37, o38, o39, o40, o41, o42, o43, o44, o45, hc46, hf⟩ := bd16_some hf
        refine ca_vV C w (wn := fun _ => w_X10_parse g h0 h1 h2 h3 h4 h5 h6 h7 h8 h9 h10 h11 h12 h13 v0_22 v0_24 v0_26 v0_27 v0_28 v0_29 v0_30 v0_31 v0_32 v0_33 v0_34 v0_35 v0_36 v0_37 thrown0 length0 textLength0 o30 o31 o32 o33 o34 o35 o36 depth0 basic1 buffer2 o37 o38 o39 isSaved6 o40 o41 o42 o43 state11 o44 o45) (pm_k [true, false, true, true, true, true, false, true, true, true, true, false, true, true] rfl rfl (fun _ => Nat.le_of_ble_eq_true rfl) (fun _ => rfl)) (c_X10_readNetwork l g F h0 h2 h3 h4 h5 h7 h8 h9 h10 h12 h13 (.int thrown0) (.int length0) (.ref h1) (.ref h11) v0_22 (.int depth0) v0_24 (.ref h6) v0_26 v0_27 v0_28 v0_29 v0_30 v0_31 v0_32 v0_33 v0_34 v0_35 v0_36 v0_37 textLength0 tokenStart0 tokenEnd0 token0 value0 error0 errorOffset0 given0 buffer2 classAxles3 classPercent4 f28 linkFrom7 linkMinutes8 linkPrice9 linkTo10 tagAxles12 tagPlate13 o30 o31 o32 o33 o34 o35 o36 o37 o38 o39 o40 o41 o42 o43 o44 o45 _ hc46) k_X10_205 (rm_le (by decide) (by decide)) 0 10 rfl rfl rfl rfl hl.1 rfl (Nat.le_of_ble_eq_true rfl) dX10_parse_91 ⟨Nat.le_of_ble_eq_true rfl, Nat.le_of_ble_eq_true rfl⟩ (cells2 := 0) (slots2 := 0) ⟨rfl, rfl⟩ (fun _ H locs w => ?_)
        exact b94 thrown0 length0 textLength0 o30 o31 o32 o33 o34 o35 o36 depth0 basic1 o37 o38 o39 isSaved6 o40 o41 o42 o43 state11 o44 o45 _ _ _ hf w (lv_sub hl [0] rfl)
    · replace hf := it_f c26 hf
      refine lv_aload_n hx hb dX10_parse_58 rfl (lv_at hl 0 rfl) ?_
      refine g_X10_17 C w 0 rfl rfl dX10_parse_59 ?_
      refine lv_iload_n hx hb dX10_parse_62 rfl (lv_at hl 2 rfl) ?_
      refine lv_iconst (v := 0) hx hb dX10_parse_63 (by decide) ?_
      obtain ⟨f47, hif47, haf47, hf⟩ := wr_some hf
      refine ias C w 5 rfl hif47 haf47 (ws2 := w_X10_parse g h0 h1 h2 h3 h4 h5 h6 h7 h8 h9 h10 h11 h12 h13 v0_22 v0_24 v0_26 v0_27 v0_28 v0_29 v0_30 v0_31 v0_32 v0_33 v0_34 v0_35 v0_36 v0_37 thrown0 length0 textLength0 tokenStart0 tokenEnd0 token0 value0 error0 errorOffset0 given0 depth0 basic1 buffer2 classAxles3 classPercent4 f47 isSaved6 linkFrom7 linkMinutes8 linkPrice9 linkTo10 state11 tagAxles12 tagPlate13) rfl dX10_parse_64 (fun H locs w => ?_)
      refine lv_iinc (v := x2 + 1) (lv' := [(2, .int (x2 + 1)), (0, .ref h0), (1, .int x1)]) hx hb dX10_parse_65 hl (k := 2) rfl rfl (by decide) rfl (fun ls hl => ?_)
      refine lv_goto (tgt := 52) hx hb dX10_parse_68 (by decide) ?_
      exact ih52 (x1, x2 + 1, thrown0, length0, textLength0, tokenStart0, tokenEnd0, token0, value0, error0, errorOffset0, given0, depth0, basic1, classAxles3, classPercent4, f47, isSaved6, linkFrom7, linkMinutes8, linkPrice9, linkTo10, state11, tagAxles12, tagPlate13) hf _ _ _ w (lv_sub hl [1, 2, 0] rfl)
  refine lv_aload_n hx hb dX10_parse_0 rfl (lv_at hl 0 rfl) ?_
  refine lv_iconst (v := 0) hx hb dX10_parse_1 (by decide) ?_
  refine p_X10_84 C w 0 rfl (Nat.le_of_ble_eq_true rfl) (ws2 := w_X10_parse g h0 h1 h2 h3 h4 h5 h6 h7 h8 h9 h10 h11 h12 h13 v0_22 v0_24 v0_26 v0_27 v0_28 v0_29 v0_30 v0_31 v0_32 v0_33 v0_34 v0_35 v0_36 v0_37 0 length0 textLength0 tokenStart0 tokenEnd0 token0 value0 error0 errorOffset0 given0 depth0 basic1 buffer2 classAxles3 classPercent4 draft5 isSaved6 linkFrom7 linkMinutes8 linkPrice9 linkTo10 state11 tagAxles12 tagPlate13) rfl dX10_parse_2 (fun H locs w => ?_)
  refine lv_iload_n hx hb dX10_parse_5 rfl (lv_at hl 1 rfl) ?_
  refine lv_i2l (v := p1.toInt64) hx hb dX10_parse_6 rfl ?_
  refine lv_lconst (v := 0) hx hb dX10_parse_7 (by decide) ?_
  refine lv_aload_n hx hb dX10_parse_8 rfl (lv_at hl 0 rfl) ?_
  refine g_X10_88 C w 0 rfl rfl dX10_parse_9 ?_
  refine lv_i2l (v := length0.toInt64) hx hb dX10_parse_12 rfl ?_
  obtain ⟨r48, hc49, hf⟩ := bd1_some hf
  refine ca_iS C w (wn := fun _ => w_X10_parse g h0 h1 h2 h3 h4 h5 h6 h7 h8 h9 h10 h11 h12 h13 v0_22 v0_24 v0_26 v0_27 v0_28 v0_29 v0_30 v0_31 v0_32 v0_33 v0_34 v0_35 v0_36 v0_37 0 length0 textLength0 tokenStart0 tokenEnd0 token0 value0 error0 errorOffset0 given0 depth0 basic1 buffer2 classAxles3 classPercent4 draft5 isSaved6 linkFrom7 linkMinutes8 linkPrice9 linkTo10 state11 tagAxles12 tagPlate13) (pm_k [false, false, false, false, false, false, false, false, false, false, false, false, false, false] rfl rfl (fun _ => Nat.le_of_ble_eq_true rfl) (fun _ => rfl)) (c_X10_within l g F p1.toInt64 0 length0.toInt64 r48 _ hc49) k_X10_115 (rm_le (by decide) (by decide)) rfl hl.1 rfl (Nat.le_of_ble_eq_true rfl) dX10_parse_13 ⟨Nat.le_of_ble_eq_true rfl, Nat.le_of_ble_eq_true rfl⟩ (cells2 := 0) (slots2 := 0) ⟨rfl, rfl⟩ (fun _ H locs w => ?_)
  refine lv_if_ne (tgt := 25) hx hb dX10_parse_16 (by decide) (fun c50 => ?_) (fun c50 => ?_)
  · replace hf := it_f c50 hf
    refine lv_aload_n hx hb dX10_parse_25 rfl (lv_at hl 0 rfl) ?_
    refine lv_iload_n hx hb dX10_parse_26 rfl (lv_at hl 1 rfl) ?_
    refine p_X10_95 C w 0 rfl (Nat.le_of_ble_eq_true rfl) (ws2 := w_X10_parse g h0 h1 h2 h3 h4 h5 h6 h7 h8 h9 h10 h11 h12 h13 v0_22 v0_24 v0_26 v0_27 v0_28 v0_29 v0_30 v0_31 v0_32 v0_33 v0_34 v0_35 v0_36 v0_37 0 length0 p1 tokenStart0 tokenEnd0 token0 value0 error0 errorOffset0 given0 depth0 basic1 buffer2 classAxles3 classPercent4 draft5 isSaved6 linkFrom7 linkMinutes8 linkPrice9 linkTo10 state11 tagAxles12 tagPlate13) rfl dX10_parse_27 (fun H locs w => ?_)
    refine lv_aload_n hx hb dX10_parse_30 rfl (lv_at hl 0 rfl) ?_
    refine lv_iconst (v := 0) hx hb dX10_parse_31 (by decide) ?_
    refine p_X10_88 C w 0 rfl (Nat.le_of_ble_eq_true rfl) (ws2 := w_X10_parse g h0 h1 h2 h3 h4 h5 h6 h7 h8 h9 h10 h11 h12 h13 v0_22 v0_24 v0_26 v0_27 v0_28 v0_29 v0_30 v0_31 v0_32 v0_33 v0_34 v0_35 v0_36 v0_37 0 0 p1 tokenStart0 tokenEnd0 token0 value0 error0 errorOffset0 given0 depth0 basic1 buffer2 classAxles3 classPercent4 draft5 isSaved6 linkFrom7 linkMinutes8 linkPrice9 linkTo10 state11 tagAxles12 tagPlate13) rfl dX10_parse_32 (fun H locs w => ?_)
    refine lv_aload_n hx hb dX10_parse_35 rfl (lv_at hl 0 rfl) ?_
    refine lv_iconst (v := 0) hx hb dX10_parse_36 (by decide) ?_
    refine p_X10_98 C w 0 rfl (Nat.le_of_ble_eq_true rfl) (ws2 := w_X10_parse g h0 h1 h2 h3 h4 h5 h6 h7 h8 h9 h10 h11 h12 h13 v0_22 v0_24 v0_26 v0_27 v0_28 v0_29 v0_30 v0_31 v0_32 v0_33 v0_34 v0_35 v0_36 v0_37 0 0 p1 tokenStart0 0 token0 value0 error0 errorOffset0 given0 depth0 basic1 buffer2 classAxles3 classPercent4 draft5 isSaved6 linkFrom7 linkMinutes8 linkPrice9 linkTo10 state11 tagAxles12 tagPlate13) rfl dX10_parse_37 (fun H locs w => ?_)
    refine lv_aload_n hx hb dX10_parse_40 rfl (lv_at hl 0 rfl) ?_
    refine lv_iconst (v := 0) hx hb dX10_parse_41 (by decide) ?_
    refine p_X10_126 C w 0 rfl (Nat.le_of_ble_eq_true rfl) (ws2 := w_X10_parse g h0 h1 h2 h3 h4 h5 h6 h7 h8 h9 h10 h11 h12 h13 v0_22 v0_24 v0_26 v0_27 v0_28 v0_29 v0_30 v0_31 v0_32 v0_33 v0_34 v0_35 v0_36 v0_37 0 0 p1 tokenStart0 0 token0 value0 0 errorOffset0 given0 depth0 basic1 buffer2 classAxles3 classPercent4 draft5 isSaved6 linkFrom7 linkMinutes8 linkPrice9 linkTo10 state11 tagAxles12 tagPlate13) rfl dX10_parse_42 (fun H locs w => ?_)
    refine lv_aload_n hx hb dX10_parse_45 rfl (lv_at hl 0 rfl) ?_
    refine lv_iconst (v := 0) hx hb dX10_parse_46 (by decide) ?_
    refine p_X10_165 C w 0 rfl (Nat.le_of_ble_eq_true rfl) (ws2 := w_X10_parse g h0 h1 h2 h3 h4 h5 h6 h7 h8 h9 h10 h11 h12 h13 v0_22 v0_24 v0_26 v0_27 v0_28 v0_29 v0_30 v0_31 v0_32 v0_33 v0_34 v0_35 v0_36 v0_37 0 0 p1 tokenStart0 0 token0 value0 0 errorOffset0 0 depth0 basic1 buffer2 classAxles3 classPercent4 draft5 isSaved6 linkFrom7 linkMinutes8 linkPrice9 linkTo10 state11 tagAxles12 tagPlate13) rfl dX10_parse_47 (fun H locs w => ?_)
    refine lv_iconst (v := 0) hx hb dX10_parse_50 (by decide) ?_
    refine lv_istore_n (lv' := [(2, .int 0), (0, .ref h0), (1, .int p1)]) hx hb dX10_parse_51 rfl hl (by decide) rfl (fun ls hl => ?_)
    exact L52 (p1, 0, 0, 0, p1, tokenStart0, 0, token0, value0, 0, errorOffset0, 0, depth0, basic1, classAxles3, classPercent4, draft5, isSaved6, linkFrom7, linkMinutes8, linkPrice9, linkTo10, state11, tagAxles12, tagPlate13) hf _ _ _ w (lv_sub hl [1, 2, 0] rfl)
  · replace hf := it_t c50 hf
    refine lv_aload_n hx hb dX10_parse_19 rfl (lv_at hl 0 rfl) ?_
    refine lv_iconst (v := 1) hx hb dX10_parse_20 (by decide) ?_
    obtain ⟨r51, o52, hc53, hf⟩ := bd2_some hf
    refine ca_iV C w (wn := fun _ => w_X10_parse g h0 h1 h2 h3 h4 h5 h6 h7 h8 h9 h10 h11 h12 h13 v0_22 v0_24 v0_26 v0_27 v0_28 v0_29 v0_30 v0_31 v0_32 v0_33 v0_34 v0_35 v0_36 v0_37 o52 length0 textLength0 tokenStart0 tokenEnd0 token0 value0 error0 errorOffset0 given0 depth0 basic1 buffer2 classAxles3 classPercent4 draft5 isSaved6 linkFrom7 linkMinutes8 linkPrice9 linkTo10 state11 tagAxles12 tagPlate13) (pm_k [true, false, false, false, false, false, false, false, false, false, false, false, false, false] rfl rfl (fun _ => Nat.le_of_ble_eq_true rfl) (fun _ => rfl)) (c_X10_fail l g F h0 (.ref h2) (.int length0) (.int textLength0) (.int tokenStart0) (.int tokenEnd0) (.int token0) (.int value0) (.int error0) (.int errorOffset0) (.ref h1) (.ref h5) (.ref h7) (.ref h10) (.ref h8) (.ref h9) (.ref h3) (.ref h4) (.ref h13) (.ref h12) (.int given0) (.ref h11) v0_22 (.int depth0) v0_24 (.ref h6) v0_26 v0_27 v0_28 v0_29 v0_30 v0_31 v0_32 v0_33 v0_34 v0_35 v0_36 v0_37 1 0 r51 o52 _ hc53) k_X10_202 (rm_le (by decide) (by decide)) 0 10 rfl rfl rfl rfl hl.1 rfl (Nat.le_of_ble_eq_true rfl) dX10_parse_21 ⟨Nat.le_of_ble_eq_true rfl, Nat.le_of_ble_eq_true rfl⟩ (cells2 := 0) (slots2 := 0) ⟨rfl, rfl⟩ (fun _ H locs w => ?_)
    obtain ⟨e1, e2, e3, e4, e5, e6, e7, e8, e9, e10, e11, e12, e13, e14, e15, e16, e17, e18, e19, e20, e21, e22, e23, e24⟩ := tp24 hf
    rw [hQ]
    exact rt_i C w rfl (fun _ => 0) (by rw [← e2, ← e3, ← e4, ← e5, ← e6, ← e7, ← e8, ← e9, ← e10, ← e11, ← e12, ← e13, ← e14, ← e15, ← e16, ← e17, ← e18, ← e19, ← e20, ← e21, ← e22, ← e23, ← e24]) e1 dX10_parse_24

theorem dX10_keep_0 : decode cX10_keep 0 = .ok (.aload_n 0, 1) := by decide +kernel
theorem dX10_keep_1 : decode cX10_keep 1 = .ok (.getfield 212, 3) := by decide +kernel
theorem dX10_keep_4 : decode cX10_keep 4 = .ok (.bipush 10, 2) := by decide +kernel
theorem dX10_keep_6 : decode cX10_keep 6 = .ok (.if_icmp .ne 50, 3) := by decide +kernel
theorem dX10_keep_9 : decode cX10_keep 9 = .ok (.iconst 0, 1) := by decide +kernel
theorem dX10_keep_10 : decode cX10_keep 10 = .ok (.istore_n 1, 1) := by decide +kernel
theorem dX10_keep_11 : decode cX10_keep 11 = .ok (.iload_n 1, 1) := by decide +kernel
theorem dX10_keep_12 : decode cX10_keep 12 = .ok (.aload_n 0, 1) := by decide +kernel
theorem dX10_keep_13 : decode cX10_keep 13 = .ok (.getfield 47, 3) := by decide +kernel
theorem dX10_keep_16 : decode cX10_keep 16 = .ok (.arraylength, 1) := by decide +kernel
theorem dX10_keep_17 : decode cX10_keep 17 = .ok (.sipush 2524, 3) := by decide +kernel
theorem dX10_keep_20 : decode cX10_keep 20 = .ok (.isub, 1) := by decide +kernel
theorem dX10_keep_21 : decode cX10_keep 21 = .ok (.if_icmp .ge 25, 3) := by decide +kernel
theorem dX10_keep_24 : decode cX10_keep 24 = .ok (.aload_n 0, 1) := by decide +kernel
theorem dX10_keep_25 : decode cX10_keep 25 = .ok (.getfield 47, 3) := by decide +kernel
theorem dX10_keep_28 : decode cX10_keep 28 = .ok (.iload_n 1, 1) := by decide +kernel
theorem dX10_keep_29 : decode cX10_keep 29 = .ok (.aload_n 0, 1) := by decide +kernel
theorem dX10_keep_30 : decode cX10_keep 30 = .ok (.getfield 47, 3) := by decide +kernel
theorem dX10_keep_33 : decode cX10_keep 33 = .ok (.iload_n 1, 1) := by decide +kernel
theorem dX10_keep_34 : decode cX10_keep 34 = .ok (.sipush 2524, 3) := by decide +kernel
theorem dX10_keep_37 : decode cX10_keep 37 = .ok (.iadd, 1) := by decide +kernel
theorem dX10_keep_38 : decode cX10_keep 38 = .ok (.iaload, 1) := by decide +kernel
theorem dX10_keep_39 : decode cX10_keep 39 = .ok (.iastore, 1) := by decide +kernel
theorem dX10_keep_40 : decode cX10_keep 40 = .ok (.iinc 1 1, 3) := by decide +kernel
theorem dX10_keep_43 : decode cX10_keep 43 = .ok (.goto (-32), 3) := by decide +kernel
theorem dX10_keep_46 : decode cX10_keep 46 = .ok (.aload_n 0, 1) := by decide +kernel
theorem dX10_keep_47 : decode cX10_keep 47 = .ok (.dup, 1) := by decide +kernel
theorem dX10_keep_48 : decode cX10_keep 48 = .ok (.getfield 212, 3) := by decide +kernel
theorem dX10_keep_51 : decode cX10_keep 51 = .ok (.iconst 1, 1) := by decide +kernel
theorem dX10_keep_52 : decode cX10_keep 52 = .ok (.isub, 1) := by decide +kernel
theorem dX10_keep_53 : decode cX10_keep 53 = .ok (.putfield 212, 3) := by decide +kernel
theorem dX10_keep_56 : decode cX10_keep 56 = .ok (.iconst 0, 1) := by decide +kernel
theorem dX10_keep_57 : decode cX10_keep 57 = .ok (.istore_n 1, 1) := by decide +kernel
theorem dX10_keep_58 : decode cX10_keep 58 = .ok (.iload_n 1, 1) := by decide +kernel
theorem dX10_keep_59 : decode cX10_keep 59 = .ok (.sipush 2524, 3) := by decide +kernel
theorem dX10_keep_62 : decode cX10_keep 62 = .ok (.if_icmp .ge 30, 3) := by decide +kernel
theorem dX10_keep_65 : decode cX10_keep 65 = .ok (.aload_n 0, 1) := by decide +kernel
theorem dX10_keep_66 : decode cX10_keep 66 = .ok (.getfield 47, 3) := by decide +kernel
theorem dX10_keep_69 : decode cX10_keep 69 = .ok (.sipush 2524, 3) := by decide +kernel
theorem dX10_keep_72 : decode cX10_keep 72 = .ok (.aload_n 0, 1) := by decide +kernel
theorem dX10_keep_73 : decode cX10_keep 73 = .ok (.getfield 212, 3) := by decide +kernel
theorem dX10_keep_76 : decode cX10_keep 76 = .ok (.imul, 1) := by decide +kernel
theorem dX10_keep_77 : decode cX10_keep 77 = .ok (.iload_n 1, 1) := by decide +kernel
theorem dX10_keep_78 : decode cX10_keep 78 = .ok (.iadd, 1) := by decide +kernel
theorem dX10_keep_79 : decode cX10_keep 79 = .ok (.aload_n 0, 1) := by decide +kernel
theorem dX10_keep_80 : decode cX10_keep 80 = .ok (.getfield 44, 3) := by decide +kernel
theorem dX10_keep_83 : decode cX10_keep 83 = .ok (.iload_n 1, 1) := by decide +kernel
theorem dX10_keep_84 : decode cX10_keep 84 = .ok (.iaload, 1) := by decide +kernel
theorem dX10_keep_85 : decode cX10_keep 85 = .ok (.iastore, 1) := by decide +kernel
theorem dX10_keep_86 : decode cX10_keep 86 = .ok (.iinc 1 1, 3) := by decide +kernel
theorem dX10_keep_89 : decode cX10_keep 89 = .ok (.goto (-31), 3) := by decide +kernel
theorem dX10_keep_92 : decode cX10_keep 92 = .ok (.aload_n 0, 1) := by decide +kernel
theorem dX10_keep_93 : decode cX10_keep 93 = .ok (.dup, 1) := by decide +kernel
theorem dX10_keep_94 : decode cX10_keep 94 = .ok (.getfield 212, 3) := by decide +kernel
theorem dX10_keep_97 : decode cX10_keep 97 = .ok (.iconst 1, 1) := by decide +kernel
theorem dX10_keep_98 : decode cX10_keep 98 = .ok (.iadd, 1) := by decide +kernel
theorem dX10_keep_99 : decode cX10_keep 99 = .ok (.putfield 212, 3) := by decide +kernel
theorem dX10_keep_102 : decode cX10_keep 102 = .ok (.return_, 1) := by decide +kernel
abbrev m_X10_keep : MD := (yX10_keep, cX10_keep, 2, none)
theorem g_X10_212 {p : Program} {l : Launch} {e : Env} {R : Room} {s : State} {m : MethodId} {args : Array Value} {below : List Frame} {meth : Method} {c : Code} {H : Heap} {locs : List Loc} {cells slots : Nat} {Q : State → Prop} {d : MD} {g : GT} {A : Nat → Prop} {ws : va_W} {pc : Nat} {ls : Array Slot} {rest : List Value} (C : Cx p s m args meth c RX10 d g A) (w : Wd g A ws s.heap H locs) (q0 : Nat) {a : Nat} {fs : List Value} {v : Value} (he : ws[q0]? = some (a, .inr (10, fs))) (hv : fs[23]? = some v) (hd : decode d.2.1 pc = .ok (.getfield 212, 3)) (kk : W p l e R s m args below meth c H locs cells slots Q (F0 m (pc + 3) ls (v :: rest))) : W p l e R s m args below meth c H locs cells slots Q (F0 m pc ls (.ref a :: rest)) := fg C w inX10s (ref := RX10) rfl 23 (by decide) (ts_t (w := Cond.fieldLink RX10 212 RX10 (TX10 23).2.1 (TX10 23).2.2.1) 1245 (by decide +kernel) (by decide +kernel)) rfl q0 he hv hd kk
theorem g_X10_47 {p : Program} {l : Launch} {e : Env} {R : Room} {s : State} {m : MethodId} {args : Array Value} {below : List Frame} {meth : Method} {c : Code} {H : Heap} {locs : List Loc} {cells slots : Nat} {Q : State → Prop} {d : MD} {g : GT} {A : Nat → Prop} {ws : va_W} {pc : Nat} {ls : Array Slot} {rest : List Value} (C : Cx p s m args meth c RX10 d g A) (w : Wd g A ws s.heap H locs) (q0 : Nat) {a : Nat} {fs : List Value} {v : Value} (he : ws[q0]? = some (a, .inr (10, fs))) (hv : fs[22]? = some v) (hd : decode d.2.1 pc = .ok (.getfield 47, 3)) (kk : W p l e R s m args below meth c H locs cells slots Q (F0 m (pc + 3) ls (v :: rest))) : W p l e R s m args below meth c H locs cells slots Q (F0 m pc ls (.ref a :: rest)) := fg C w inX10s (ref := RX10) rfl 22 (by decide) (ts_t (w := Cond.fieldLink RX10 47 RX10 (TX10 22).2.1 (TX10 22).2.2.1) 1244 (by decide +kernel) (by decide +kernel)) rfl q0 he hv hd kk
abbrev w_X10_keep (g : GT) (h0 h1 h2 : Nat) (v0_0 v0_1 v0_2 v0_3 v0_4 v0_5 v0_6 v0_7 v0_8 v0_9 v0_10 v0_11 v0_12 v0_13 v0_14 v0_15 v0_16 v0_17 v0_18 v0_19 v0_20 v0_24 v0_25 v0_26 v0_27 v0_28 v0_29 v0_30 v0_31 v0_32 v0_33 v0_34 v0_35 v0_36 v0_37 : Value) (depth0 : Int32) (history1 state2 : Nat → Int32) : va_W := [(h0, .inr (10, [v0_0, v0_1, v0_2, v0_3, v0_4, v0_5, v0_6, v0_7, v0_8, v0_9, v0_10, v0_11, v0_12, v0_13, v0_14, v0_15, v0_16, v0_17, v0_18, v0_19, v0_20, .ref h2, .ref h1, .int depth0, v0_24, v0_25, v0_26, v0_27, v0_28, v0_29, v0_30, v0_31, v0_32, v0_33, v0_34, v0_35, v0_36, v0_37])), (h1, aI g 25240 history1), (h2, aI g 2524 state2)]
def f_X10_keep_h58 (F : Nat) (state2 : Nat → Int32) (k58 : (Int32 × Int32 × (Nat → Int32)) → Option (Int32 × (Nat → Int32))) (x1 depth0 : Int32) (history1 : Nat → Int32) : Option (Int32 × (Nat → Int32)) :=
  if 2524 ≤ x1 then
    some (depth0 + 1, history1)
  else
    rd state2 2524 x1 fun a2 =>
    wr history1 25240 ((2524 * depth0) + x1) a2 fun f3 =>
    k58 (x1 + 1, depth0, f3)
def f_X10_keep_L58 (F : Nat) (state2 : Nat → Int32) (z : Int32 × Int32 × (Nat → Int32)) : Option (Int32 × (Nat → Int32)) := lp (fun k z => f_X10_keep_h58 F state2 k z.1 z.2.1 z.2.2) F z
def f_X10_keep_b56 (F : Nat) (state2 : Nat → Int32) (depth0 : Int32) (history1 : Nat → Int32) : Option (Int32 × (Nat → Int32)) :=
  f_X10_keep_L58 F state2 (0, depth0, history1)
def f_X10_keep_h11 (F : Nat) (state2 : Nat → Int32) (k11 : (Int32 × Int32 × (Nat → Int32)) → Option (Int32 × (Nat → Int32))) (x1 depth0 : Int32) (history1 : Nat → Int32) : Option (Int32 × (Nat → Int32)) :=
  if (25240 - 2524) ≤ x1 then
    f_X10_keep_b56 F state2 (depth0 - 1) history1
  else
    rd history1 25240 (x1 + 2524) fun a5 =>
    wr history1 25240 x1 a5 fun f6 =>
    k11 (x1 + 1, depth0, f6)
def f_X10_keep_L11 (F : Nat) (state2 : Nat → Int32) (z : Int32 × Int32 × (Nat → Int32)) : Option (Int32 × (Nat → Int32)) := lp (fun k z => f_X10_keep_h11 F state2 k z.1 z.2.1 z.2.2) F z
def f_X10_keep (F : Nat) (depth0 : Int32) (history1 state2 : Nat → Int32) : Option (Int32 × (Nat → Int32)) :=
  if depth0 = 10 then
    f_X10_keep_L11 F state2 (0, depth0, history1)
  else
    f_X10_keep_b56 F state2 depth0 history1
set_option maxHeartbeats 4000000 in
set_option maxRecDepth 100000 in
theorem c_X10_keep (l : Launch) (g : GT) (F : Nat) (h0 h1 h2 : Nat) (v0_0 v0_1 v0_2 v0_3 v0_4 v0_5 v0_6 v0_7 v0_8 v0_9 v0_10 v0_11 v0_12 v0_13 v0_14 v0_15 v0_16 v0_17 v0_18 v0_19 v0_20 v0_24 v0_25 v0_26 v0_27 v0_28 v0_29 v0_30 v0_31 v0_32 v0_33 v0_34 v0_35 v0_36 v0_37 : Value) (depth0 : Int32) (history1 state2 : Nat → Int32) (o_depth0 : Int32) (o_history1 : Nat → Int32) (sz : Nat) (hf : f_X10_keep F depth0 history1 state2 = some (o_depth0, o_history1)) : CV l m_X10_keep (rml 0 0 0) g (w_X10_keep g h0 h1 h2 v0_0 v0_1 v0_2 v0_3 v0_4 v0_5 v0_6 v0_7 v0_8 v0_9 v0_10 v0_11 v0_12 v0_13 v0_14 v0_15 v0_16 v0_17 v0_18 v0_19 v0_20 v0_24 v0_25 v0_26 v0_27 v0_28 v0_29 v0_30 v0_31 v0_32 v0_33 v0_34 v0_35 v0_36 v0_37 depth0 history1 state2) (fun _ => w_X10_keep g h0 h1 h2 v0_0 v0_1 v0_2 v0_3 v0_4 v0_5 v0_6 v0_7 v0_8 v0_9 v0_10 v0_11 v0_12 v0_13 v0_14 v0_15 v0_16 v0_17 v0_18 v0_19 v0_20 v0_24 v0_25 v0_26 v0_27 v0_28 v0_29 v0_30 v0_31 v0_32 v0_33 v0_34 v0_35 v0_36 v0_37 o_depth0 o_history1 state2) sz [.ref h0] := by
  refine en_v (by decide) (Nat.le_of_ble_eq_true rfl) (fun p e s m args below meth c A ls C w hl => ?_)
  have C : Cx p s m args meth c RX10 m_X10_keep g A := C
  have hx := C.1
  have hb : c.code = cX10_keep := C.2.1
  have hl : lv_has ls 2 [(0, .ref h0)] := hl
  obtain ⟨Q, hQ⟩ : ∃ Q, Q = QV below args s g A (fun _ => w_X10_keep g h0 h1 h2 v0_0 v0_1 v0_2 v0_3 v0_4 v0_5 v0_6 v0_7 v0_8 v0_9 v0_10 v0_11 v0_12 v0_13 v0_14 v0_15 v0_16 v0_17 v0_18 v0_19 v0_20 v0_24 v0_25 v0_26 v0_27 v0_28 v0_29 v0_30 v0_31 v0_32 v0_33 v0_34 v0_35 v0_36 v0_37 o_depth0 o_history1 state2) 0 0 := ⟨_, rfl⟩
  suffices hW : W p l e (rml 0 0 0) s m args below meth c s.heap [] 0 0 Q (F0 m 0 ls []) from (by rw [hQ] at hW; exact hW)
  unfold f_X10_keep at hf
  have L58 : ∀ (z : Int32 × Int32 × (Nat → Int32)), f_X10_keep_L58 F state2 z = some (o_depth0, o_history1) → ∀ (H : Heap) (locs : List Loc) (ls : Array Slot), Wd g A (w_X10_keep g h0 h1 h2 v0_0 v0_1 v0_2 v0_3 v0_4 v0_5 v0_6 v0_7 v0_8 v0_9 v0_10 v0_11 v0_12 v0_13 v0_14 v0_15 v0_16 v0_17 v0_18 v0_19 v0_20 v0_24 v0_25 v0_26 v0_27 v0_28 v0_29 v0_30 v0_31 v0_32 v0_33 v0_34 v0_35 v0_36 v0_37 z.2.1 z.2.2 state2) s.heap H locs → lv_has ls 2 [(0, .ref h0), (1, .int z.1)] → W p l e (rml 0 0 0) s m args below meth c H locs 0 0 Q (F0 m 58 ls []) := by
    intro z hf
    refine lp_W (r := (o_depth0, o_history1)) (fun (z : Int32 × Int32 × (Nat → Int32)) => ∀ (H : Heap) (locs : List Loc) (ls : Array Slot), Wd g A (w_X10_keep g h0 h1 h2 v0_0 v0_1 v0_2 v0_3 v0_4 v0_5 v0_6 v0_7 v0_8 v0_9 v0_10 v0_11 v0_12 v0_13 v0_14 v0_15 v0_16 v0_17 v0_18 v0_19 v0_20 v0_24 v0_25 v0_26 v0_27 v0_28 v0_29 v0_30 v0_31 v0_32 v0_33 v0_34 v0_35 v0_36 v0_37 z.2.1 z.2.2 state2) s.heap H locs → lv_has ls 2 [(0, .ref h0), (1, .int z.1)] → W p l e (rml 0 0 0) s m args below meth c H locs 0 0 Q (F0 m 58 ls [])) (fun k58 z ih58 hf => ?_) F z hf
    obtain ⟨x1, depth0, history1⟩ := z
    intro H locs ls w hl
    try dsimp only at hf w hl ⊢
    unfold f_X10_keep_h58 at hf
    refine lv_iload_n hx hb dX10_keep_58 rfl (lv_at hl 1 rfl) ?_
    refine lv_sipush (v := 2524) hx hb dX10_keep_59 (by decide) ?_
    refine lv_icmp_ge (tgt := 92) hx hb dX10_keep_62 (by decide) (fun c1 => ?_) (fun c1 => ?_)
    · replace hf := it_t c1 hf
      refine lv_aload_n hx hb dX10_keep_92 rfl (lv_at hl 0 rfl) ?_
      refine lv_dup hx hb dX10_keep_93 rfl ?_
      refine g_X10_212 C w 0 rfl rfl dX10_keep_94 ?_
      refine lv_iconst (v := 1) hx hb dX10_keep_97 (by decide) ?_
      refine lv_iadd hx hb dX10_keep_98 ?_
      refine p_X10_212 C w 0 rfl (Nat.le_of_ble_eq_true rfl) (ws2 := w_X10_keep g h0 h1 h2 v0_0 v0_1 v0_2 v0_3 v0_4 v0_5 v0_6 v0_7 v0_8 v0_9 v0_10 v0_11 v0_12 v0_13 v0_14 v0_15 v0_16 v0_17 v0_18 v0_19 v0_20 v0_24 v0_25 v0_26 v0_27 v0_28 v0_29 v0_30 v0_31 v0_32 v0_33 v0_34 v0_35 v0_36 v0_37 (depth0 + 1) history1 state2) rfl dX10_keep_99 (fun H locs w => ?_)
      obtain ⟨e1, e2⟩ := tp2 hf
      rw [hQ]
      exact rt_v C w rfl (fun _ => 0) (by rw [← e1, ← e2]) dX10_keep_102
    · replace hf := it_f c1 hf
      refine lv_aload_n hx hb dX10_keep_65 rfl (lv_at hl 0 rfl) ?_
      refine g_X10_47 C w 0 rfl rfl dX10_keep_66 ?_
      refine lv_sipush (v := 2524) hx hb dX10_keep_69 (by decide) ?_
      refine lv_aload_n hx hb dX10_keep_72 rfl (lv_at hl 0 rfl) ?_
      refine g_X10_212 C w 0 rfl rfl dX10_keep_73 ?_
      refine lv_imul hx hb dX10_keep_76 ?_
      refine lv_iload_n hx hb dX10_keep_77 rfl (lv_at hl 1 rfl) ?_
      refine lv_iadd hx hb dX10_keep_78 ?_
      refine lv_aload_n hx hb dX10_keep_79 rfl (lv_at hl 0 rfl) ?_
      refine g_X10_44 C w 0 rfl rfl dX10_keep_80 ?_
      refine lv_iload_n hx hb dX10_keep_83 rfl (lv_at hl 1 rfl) ?_
      obtain ⟨a2, hia2, haa2, hf⟩ := rd_some hf
      refine ial C w 2 rfl hia2 haa2 dX10_keep_84 ?_
      obtain ⟨f3, hif3, haf3, hf⟩ := wr_some hf
      refine ias C w 1 rfl hif3 haf3 (ws2 := w_X10_keep g h0 h1 h2 v0_0 v0_1 v0_2 v0_3 v0_4 v0_5 v0_6 v0_7 v0_8 v0_9 v0_10 v0_11 v0_12 v0_13 v0_14 v0_15 v0_16 v0_17 v0_18 v0_19 v0_20 v0_24 v0_25 v0_26 v0_27 v0_28 v0_29 v0_30 v0_31 v0_32 v0_33 v0_34 v0_35 v0_36 v0_37 depth0 f3 state2) rfl dX10_keep_85 (fun H locs w => ?_)
      refine lv_iinc (v := x1 + 1) (lv' := [(1, .int (x1 + 1)), (0, .ref h0)]) hx hb dX10_keep_86 hl (k := 1) rfl rfl (by decide) rfl (fun ls hl => ?_)
      refine lv_goto (tgt := 58) hx hb dX10_keep_89 (by decide) ?_
      exact ih58 (x1 + 1, depth0, f3) hf _ _ _ w (lv_sub hl [1, 0] rfl)
  have b56 : ∀ (depth0 : Int32) (history1 : Nat → Int32) (H : Heap) (locs : List Loc) (ls : Array Slot), f_X10_keep_b56 F state2 depth0 history1 = some (o_depth0, o_history1) → Wd g A (w_X10_keep g h0 h1 h2 v0_0 v0_1 v0_2 v0_3 v0_4 v0_5 v0_6 v0_7 v0_8 v0_9 v0_10 v0_11 v0_12 v0_13 v0_14 v0_15 v0_16 v0_17 v0_18 v0_19 v0_20 v0_24 v0_25 v0_26 v0_27 v0_28 v0_29 v0_30 v0_31 v0_32 v0_33 v0_34 v0_35 v0_36 v0_37 depth0 history1 state2) s.heap H locs → lv_has ls 2 [(0, .ref h0)] → W p l e (rml 0 0 0) s m args below meth c H locs 0 0 Q (F0 m 56 ls []) := by
    intro depth0 history1 H locs ls hf w hl
    unfold f_X10_keep_b56 at hf
    refine lv_iconst (v := 0) hx hb dX10_keep_56 (by decide) ?_
    refine lv_istore_n (lv' := [(1, .int 0), (0, .ref h0)]) hx hb dX10_keep_57 rfl hl (by decide) rfl (fun ls hl => ?_)
    exact L58 (0, depth0, history1) hf _ _ _ w (lv_sub hl [1, 0] rfl)
  have L11 : ∀ (z : Int32 × Int32 × (Nat → Int32)), f_X10_keep_L11 F state2 z = some (o_depth0, o_history1) → ∀ (H : Heap) (locs : List Loc) (ls : Array Slot), Wd g A (w_X10_keep g h0 h1 h2 v0_0 v0_1 v0_2 v0_3 v0_4 v0_5 v0_6 v0_7 v0_8 v0_9 v0_10 v0_11 v0_12 v0_13 v0_14 v0_15 v0_16 v0_17 v0_18 v0_19 v0_20 v0_24 v0_25 v0_26 v0_27 v0_28 v0_29 v0_30 v0_31 v0_32 v0_33 v0_34 v0_35 v0_36 v0_37 z.2.1 z.2.2 state2) s.heap H locs → lv_has ls 2 [(0, .ref h0), (1, .int z.1)] → W p l e (rml 0 0 0) s m args below meth c H locs 0 0 Q (F0 m 11 ls []) := by
    intro z hf
    refine lp_W (r := (o_depth0, o_history1)) (fun (z : Int32 × Int32 × (Nat → Int32)) => ∀ (H : Heap) (locs : List Loc) (ls : Array Slot), Wd g A (w_X10_keep g h0 h1 h2 v0_0 v0_1 v0_2 v0_3 v0_4 v0_5 v0_6 v0_7 v0_8 v0_9 v0_10 v0_11 v0_12 v0_13 v0_14 v0_15 v0_16 v0_17 v0_18 v0_19 v0_20 v0_24 v0_25 v0_26 v0_27 v0_28 v0_29 v0_30 v0_31 v0_32 v0_33 v0_34 v0_35 v0_36 v0_37 z.2.1 z.2.2 state2) s.heap H locs → lv_has ls 2 [(0, .ref h0), (1, .int z.1)] → W p l e (rml 0 0 0) s m args below meth c H locs 0 0 Q (F0 m 11 ls [])) (fun k11 z ih11 hf => ?_) F z hf
    obtain ⟨x1, depth0, history1⟩ := z
    intro H locs ls w hl
    try dsimp only at hf w hl ⊢
    unfold f_X10_keep_h11 at hf
    refine lv_iload_n hx hb dX10_keep_11 rfl (lv_at hl 1 rfl) ?_
    refine lv_aload_n hx hb dX10_keep_12 rfl (lv_at hl 0 rfl) ?_
    refine g_X10_47 C w 0 rfl rfl dX10_keep_13 ?_
    refine ilen C w 1 rfl (v := 25240) (by decide) dX10_keep_16 ?_
    refine lv_sipush (v := 2524) hx hb dX10_keep_17 (by decide) ?_
    refine lv_isub hx hb dX10_keep_20 ?_
    refine lv_icmp_ge (tgt := 46) hx hb dX10_keep_21 (by decide) (fun c4 => ?_) (fun c4 => ?_)
    · replace hf := it_t c4 hf
      refine lv_aload_n hx hb dX10_keep_46 rfl (lv_at hl 0 rfl) ?_
      refine lv_dup hx hb dX10_keep_47 rfl ?_
      refine g_X10_212 C w 0 rfl rfl dX10_keep_48 ?_
      refine lv_iconst (v := 1) hx hb dX10_keep_51 (by decide) ?_
      refine lv_isub hx hb dX10_keep_52 ?_
      refine p_X10_212 C w 0 rfl (Nat.le_of_ble_eq_true rfl) (ws2 := w_X10_keep g h0 h1 h2 v0_0 v0_1 v0_2 v0_3 v0_4 v0_5 v0_6 v0_7 v0_8 v0_9 v0_10 v0_11 v0_12 v0_13 v0_14 v0_15 v0_16 v0_17 v0_18 v0_19 v0_20 v0_24 v0_25 v0_26 v0_27 v0_28 v0_29 v0_30 v0_31 v0_32 v0_33 v0_34 v0_35 v0_36 v0_37 (depth0 - 1) history1 state2) rfl dX10_keep_53 (fun H locs w => ?_)
      exact b56 (depth0 - 1) history1 _ _ _ hf w (lv_sub hl [0] rfl)
    · replace hf := it_f c4 hf
      refine lv_aload_n hx hb dX10_keep_24 rfl (lv_at hl 0 rfl) ?_
      refine g_X10_47 C w 0 rfl rfl dX10_keep_25 ?_
      refine lv_iload_n hx hb dX10_keep_28 rfl (lv_at hl 1 rfl) ?_
      refine lv_aload_n hx hb dX10_keep_29 rfl (lv_at hl 0 rfl) ?_
      refine g_X10_47 C w 0 rfl rfl dX10_keep_30 ?_
      refine lv_iload_n hx hb dX10_keep_33 rfl (lv_at hl 1 rfl) ?_
      refine lv_sipush (v := 2524) hx hb dX10_keep_34 (by decide) ?_
      refine lv_iadd hx hb dX10_keep_37 ?_
      obtain ⟨a5, hia5, haa5, hf⟩ := rd_some hf
      refine ial C w 1 rfl hia5 haa5 dX10_keep_38 ?_
      obtain ⟨f6, hif6, haf6, hf⟩ := wr_some hf
      refine ias C w 1 rfl hif6 haf6 (ws2 := w_X10_keep g h0 h1 h2 v0_0 v0_1 v0_2 v0_3 v0_4 v0_5 v0_6 v0_7 v0_8 v0_9 v0_10 v0_11 v0_12 v0_13 v0_14 v0_15 v0_16 v0_17 v0_18 v0_19 v0_20 v0_24 v0_25 v0_26 v0_27 v0_28 v0_29 v0_30 v0_31 v0_32 v0_33 v0_34 v0_35 v0_36 v0_37 depth0 f6 state2) rfl dX10_keep_39 (fun H locs w => ?_)
      refine lv_iinc (v := x1 + 1) (lv' := [(1, .int (x1 + 1)), (0, .ref h0)]) hx hb dX10_keep_40 hl (k := 1) rfl rfl (by decide) rfl (fun ls hl => ?_)
      refine lv_goto (tgt := 11) hx hb dX10_keep_43 (by decide) ?_
      exact ih11 (x1 + 1, depth0, f6) hf _ _ _ w (lv_sub hl [1, 0] rfl)
  refine lv_aload_n hx hb dX10_keep_0 rfl (lv_at hl 0 rfl) ?_
  refine g_X10_212 C w 0 rfl rfl dX10_keep_1 ?_
  refine lv_bipush (v := 10) hx hb dX10_keep_4 (by decide) ?_
  refine lv_icmp_ne (tgt := 56) hx hb dX10_keep_6 (by decide) (fun c7 => ?_) (fun c7 => ?_)
  · replace hf := it_f c7 hf
    exact b56 depth0 history1 _ _ _ hf w (lv_sub hl [0] rfl)
  · replace hf := it_t c7 hf
    refine lv_iconst (v := 0) hx hb dX10_keep_9 (by decide) ?_
    refine lv_istore_n (lv' := [(1, .int 0), (0, .ref h0)]) hx hb dX10_keep_10 rfl hl (by decide) rfl (fun ls hl => ?_)
    exact L11 (0, depth0, history1) hf _ _ _ w (lv_sub hl [1, 0] rfl)

theorem dX10_ofPassage_0 : decode cX10_ofPassage 0 = .ok (.aload_n 0, 1) := by decide +kernel
theorem dX10_ofPassage_1 : decode cX10_ofPassage 1 = .ok (.getfield 44, 3) := by decide +kernel
theorem dX10_ofPassage_4 : decode cX10_ofPassage 4 = .ok (.iconst 4, 1) := by decide +kernel
theorem dX10_ofPassage_5 : decode cX10_ofPassage 5 = .ok (.bipush 25, 2) := by decide +kernel
theorem dX10_ofPassage_7 : decode cX10_ofPassage 7 = .ok (.iload_n 1, 1) := by decide +kernel
theorem dX10_ofPassage_8 : decode cX10_ofPassage 8 = .ok (.imul, 1) := by decide +kernel
theorem dX10_ofPassage_9 : decode cX10_ofPassage 9 = .ok (.iadd, 1) := by decide +kernel
theorem dX10_ofPassage_10 : decode cX10_ofPassage 10 = .ok (.iload_n 2, 1) := by decide +kernel
theorem dX10_ofPassage_11 : decode cX10_ofPassage 11 = .ok (.iadd, 1) := by decide +kernel
theorem dX10_ofPassage_12 : decode cX10_ofPassage 12 = .ok (.iaload, 1) := by decide +kernel
theorem dX10_ofPassage_13 : decode cX10_ofPassage 13 = .ok (.ireturn, 1) := by decide +kernel
abbrev m_X10_ofPassage : MD := (yX10_ofPassage, cX10_ofPassage, 3, (some .int))

abbrev w_X10_ofPassage (g : GT) (h0 h1 : Nat) (v0_0 v0_1 v0_2 v0_3 v0_4 v0_5 v0_6 v0_7 v0_8 v0_9 v0_10 v0_11 v0_12 v0_13 v0_14 v0_15 v0_16 v0_17 v0_18 v0_19 v0_20 v0_22 v0_23 v0_24 v0_25 v0_26 v0_27 v0_28 v0_29 v0_30 v0_31 v0_32 v0_33 v0_34 v0_35 v0_36 v0_37 : Value) (state1 : Nat → Int32) : va_W := [(h0, .inr (10, [v0_0, v0_1, v0_2, v0_3, v0_4, v0_5, v0_6, v0_7, v0_8, v0_9, v0_10, v0_11, v0_12, v0_13, v0_14, v0_15, v0_16, v0_17, v0_18, v0_19, v0_20, .ref h1, v0_22, v0_23, v0_24, v0_25, v0_26, v0_27, v0_28, v0_29, v0_30, v0_31, v0_32, v0_33, v0_34, v0_35, v0_36, v0_37])), (h1, aI g 2524 state1)]
def f_X10_ofPassage (F : Nat) (p1 p2 : Int32) (state1 : Nat → Int32) : Option (Int32) :=
  rd state1 2524 ((4 + (25 * p1)) + p2) fun a1 =>
  some a1
set_option maxHeartbeats 4000000 in
set_option maxRecDepth 100000 in
theorem c_X10_ofPassage (l : Launch) (g : GT) (F : Nat) (h0 h1 : Nat) (v0_0 v0_1 v0_2 v0_3 v0_4 v0_5 v0_6 v0_7 v0_8 v0_9 v0_10 v0_11 v0_12 v0_13 v0_14 v0_15 v0_16 v0_17 v0_18 v0_19 v0_20 v0_22 v0_23 v0_24 v0_25 v0_26 v0_27 v0_28 v0_29 v0_30 v0_31 v0_32 v0_33 v0_34 v0_35 v0_36 v0_37 : Value) (p1 p2 : Int32) (state1 : Nat → Int32) (r : Int32) (sz : Nat) (hf : f_X10_ofPassage F p1 p2 state1 = some r) : CI l m_X10_ofPassage (rml 0 0 0) g (w_X10_ofPassage g h0 h1 v0_0 v0_1 v0_2 v0_3 v0_4 v0_5 v0_6 v0_7 v0_8 v0_9 v0_10 v0_11 v0_12 v0_13 v0_14 v0_15 v0_16 v0_17 v0_18 v0_19 v0_20 v0_22 v0_23 v0_24 v0_25 v0_26 v0_27 v0_28 v0_29 v0_30 v0_31 v0_32 v0_33 v0_34 v0_35 v0_36 v0_37 state1) (fun _ => w_X10_ofPassage g h0 h1 v0_0 v0_1 v0_2 v0_3 v0_4 v0_5 v0_6 v0_7 v0_8 v0_9 v0_10 v0_11 v0_12 v0_13 v0_14 v0_15 v0_16 v0_17 v0_18 v0_19 v0_20 v0_22 v0_23 v0_24 v0_25 v0_26 v0_27 v0_28 v0_29 v0_30 v0_31 v0_32 v0_33 v0_34 v0_35 v0_36 v0_37 state1) sz [.ref h0, .int p1, .int p2] r := by
  refine en_i (by decide) (Nat.le_of_ble_eq_true rfl) (fun p e s m args below meth c A ls C w hl => ?_)
  have C : Cx p s m args meth c RX10 m_X10_ofPassage g A := C
  have hx := C.1
  have hb : c.code = cX10_ofPassage := C.2.1
  have hl : lv_has ls 3 [(0, .ref h0), (1, .int p1), (2, .int p2)] := hl
  obtain ⟨Q, hQ⟩ : ∃ Q, Q = QI below args s g A (fun _ => w_X10_ofPassage g h0 h1 v0_0 v0_1 v0_2 v0_3 v0_4 v0_5 v0_6 v0_7 v0_8 v0_9 v0_10 v0_11 v0_12 v0_13 v0_14 v0_15 v0_16 v0_17 v0_18 v0_19 v0_20 v0_22 v0_23 v0_24 v0_25 v0_26 v0_27 v0_28 v0_29 v0_30 v0_31 v0_32 v0_33 v0_34 v0_35 v0_36 v0_37 state1) r 0 0 := ⟨_, rfl⟩
  suffices hW : W p l e (rml 0 0 0) s m args below meth c s.heap [] 0 0 Q (F0 m 0 ls []) from (by rw [hQ] at hW; exact hW)
  unfold f_X10_ofPassage at hf
  refine lv_aload_n hx hb dX10_ofPassage_0 rfl (lv_at hl 0 rfl) ?_
  refine g_X10_44 C w 0 rfl rfl dX10_ofPassage_1 ?_
  refine lv_iconst (v := 4) hx hb dX10_ofPassage_4 (by decide) ?_
  refine lv_bipush (v := 25) hx hb dX10_ofPassage_5 (by decide) ?_
  refine lv_iload_n hx hb dX10_ofPassage_7 rfl (lv_at hl 1 rfl) ?_
  refine lv_imul hx hb dX10_ofPassage_8 ?_
  refine lv_iadd hx hb dX10_ofPassage_9 ?_
  refine lv_iload_n hx hb dX10_ofPassage_10 rfl (lv_at hl 2 rfl) ?_
  refine lv_iadd hx hb dX10_ofPassage_11 ?_
  obtain ⟨a1, hia1, haa1, hf⟩ := rd_some hf
  refine ial C w 1 rfl hia1 haa1 dX10_ofPassage_12 ?_
  obtain e1 := tp1 hf
  rw [hQ]
  exact rt_i C w rfl (fun _ => 0) rfl e1 dX10_ofPassage_13

theorem dX10_setPassage_0 : decode cX10_setPassage 0 = .ok (.aload_n 0, 1) := by decide +kernel
theorem dX10_setPassage_1 : decode cX10_setPassage 1 = .ok (.getfield 44, 3) := by decide +kernel
theorem dX10_setPassage_4 : decode cX10_setPassage 4 = .ok (.iconst 4, 1) := by decide +kernel
theorem dX10_setPassage_5 : decode cX10_setPassage 5 = .ok (.bipush 25, 2) := by decide +kernel
theorem dX10_setPassage_7 : decode cX10_setPassage 7 = .ok (.iload_n 1, 1) := by decide +kernel
theorem dX10_setPassage_8 : decode cX10_setPassage 8 = .ok (.imul, 1) := by decide +kernel
theorem dX10_setPassage_9 : decode cX10_setPassage 9 = .ok (.iadd, 1) := by decide +kernel
theorem dX10_setPassage_10 : decode cX10_setPassage 10 = .ok (.iload_n 2, 1) := by decide +kernel
theorem dX10_setPassage_11 : decode cX10_setPassage 11 = .ok (.iadd, 1) := by decide +kernel
theorem dX10_setPassage_12 : decode cX10_setPassage 12 = .ok (.iload_n 3, 1) := by decide +kernel
theorem dX10_setPassage_13 : decode cX10_setPassage 13 = .ok (.iastore, 1) := by decide +kernel
theorem dX10_setPassage_14 : decode cX10_setPassage 14 = .ok (.return_, 1) := by decide +kernel
abbrev m_X10_setPassage : MD := (yX10_setPassage, cX10_setPassage, 4, none)

abbrev w_X10_setPassage (g : GT) (h0 h1 : Nat) (v0_0 v0_1 v0_2 v0_3 v0_4 v0_5 v0_6 v0_7 v0_8 v0_9 v0_10 v0_11 v0_12 v0_13 v0_14 v0_15 v0_16 v0_17 v0_18 v0_19 v0_20 v0_22 v0_23 v0_24 v0_25 v0_26 v0_27 v0_28 v0_29 v0_30 v0_31 v0_32 v0_33 v0_34 v0_35 v0_36 v0_37 : Value) (state1 : Nat → Int32) : va_W := [(h0, .inr (10, [v0_0, v0_1, v0_2, v0_3, v0_4, v0_5, v0_6, v0_7, v0_8, v0_9, v0_10, v0_11, v0_12, v0_13, v0_14, v0_15, v0_16, v0_17, v0_18, v0_19, v0_20, .ref h1, v0_22, v0_23, v0_24, v0_25, v0_26, v0_27, v0_28, v0_29, v0_30, v0_31, v0_32, v0_33, v0_34, v0_35, v0_36, v0_37])), (h1, aI g 2524 state1)]
def f_X10_setPassage (F : Nat) (p1 p2 p3 : Int32) (state1 : Nat → Int32) : Option ((Nat → Int32)) :=
  wr state1 2524 ((4 + (25 * p1)) + p2) p3 fun f1 =>
  some f1
set_option maxHeartbeats 4000000 in
set_option maxRecDepth 100000 in
theorem c_X10_setPassage (l : Launch) (g : GT) (F : Nat) (h0 h1 : Nat) (v0_0 v0_1 v0_2 v0_3 v0_4 v0_5 v0_6 v0_7 v0_8 v0_9 v0_10 v0_11 v0_12 v0_13 v0_14 v0_15 v0_16 v0_17 v0_18 v0_19 v0_20 v0_22 v0_23 v0_24 v0_25 v0_26 v0_27 v0_28 v0_29 v0_30 v0_31 v0_32 v0_33 v0_34 v0_35 v0_36 v0_37 : Value) (p1 p2 p3 : Int32) (state1 : Nat → Int32) (o_state1 : Nat → Int32) (sz : Nat) (hf : f_X10_setPassage F p1 p2 p3 state1 = some o_state1) : CV l m_X10_setPassage (rml 0 0 0) g (w_X10_setPassage g h0 h1 v0_0 v0_1 v0_2 v0_3 v0_4 v0_5 v0_6 v0_7 v0_8 v0_9 v0_10 v0_11 v0_12 v0_13 v0_14 v0_15 v0_16 v0_17 v0_18 v0_19 v0_20 v0_22 v0_23 v0_24 v0_25 v0_26 v0_27 v0_28 v0_29 v0_30 v0_31 v0_32 v0_33 v0_34 v0_35 v0_36 v0_37 state1) (fun _ => w_X10_setPassage g h0 h1 v0_0 v0_1 v0_2 v0_3 v0_4 v0_5 v0_6 v0_7 v0_8 v0_9 v0_10 v0_11 v0_12 v0_13 v0_14 v0_15 v0_16 v0_17 v0_18 v0_19 v0_20 v0_22 v0_23 v0_24 v0_25 v0_26 v0_27 v0_28 v0_29 v0_30 v0_31 v0_32 v0_33 v0_34 v0_35 v0_36 v0_37 o_state1) sz [.ref h0, .int p1, .int p2, .int p3] := by
  refine en_v (by decide) (Nat.le_of_ble_eq_true rfl) (fun p e s m args below meth c A ls C w hl => ?_)
  have C : Cx p s m args meth c RX10 m_X10_setPassage g A := C
  have hx := C.1
  have hb : c.code = cX10_setPassage := C.2.1
  have hl : lv_has ls 4 [(0, .ref h0), (1, .int p1), (2, .int p2), (3, .int p3)] := hl
  obtain ⟨Q, hQ⟩ : ∃ Q, Q = QV below args s g A (fun _ => w_X10_setPassage g h0 h1 v0_0 v0_1 v0_2 v0_3 v0_4 v0_5 v0_6 v0_7 v0_8 v0_9 v0_10 v0_11 v0_12 v0_13 v0_14 v0_15 v0_16 v0_17 v0_18 v0_19 v0_20 v0_22 v0_23 v0_24 v0_25 v0_26 v0_27 v0_28 v0_29 v0_30 v0_31 v0_32 v0_33 v0_34 v0_35 v0_36 v0_37 o_state1) 0 0 := ⟨_, rfl⟩
  suffices hW : W p l e (rml 0 0 0) s m args below meth c s.heap [] 0 0 Q (F0 m 0 ls []) from (by rw [hQ] at hW; exact hW)
  unfold f_X10_setPassage at hf
  refine lv_aload_n hx hb dX10_setPassage_0 rfl (lv_at hl 0 rfl) ?_
  refine g_X10_44 C w 0 rfl rfl dX10_setPassage_1 ?_
  refine lv_iconst (v := 4) hx hb dX10_setPassage_4 (by decide) ?_
  refine lv_bipush (v := 25) hx hb dX10_setPassage_5 (by decide) ?_
  refine lv_iload_n hx hb dX10_setPassage_7 rfl (lv_at hl 1 rfl) ?_
  refine lv_imul hx hb dX10_setPassage_8 ?_
  refine lv_iadd hx hb dX10_setPassage_9 ?_
  refine lv_iload_n hx hb dX10_setPassage_10 rfl (lv_at hl 2 rfl) ?_
  refine lv_iadd hx hb dX10_setPassage_11 ?_
  refine lv_iload_n hx hb dX10_setPassage_12 rfl (lv_at hl 3 rfl) ?_
  obtain ⟨f1, hif1, haf1, hf⟩ := wr_some hf
  refine ias C w 1 rfl hif1 haf1 (ws2 := w_X10_setPassage g h0 h1 v0_0 v0_1 v0_2 v0_3 v0_4 v0_5 v0_6 v0_7 v0_8 v0_9 v0_10 v0_11 v0_12 v0_13 v0_14 v0_15 v0_16 v0_17 v0_18 v0_19 v0_20 v0_22 v0_23 v0_24 v0_25 v0_26 v0_27 v0_28 v0_29 v0_30 v0_31 v0_32 v0_33 v0_34 v0_35 v0_36 v0_37 f1) rfl dX10_setPassage_13 (fun H locs w => ?_)
  obtain e1 := tp1 hf
  rw [hQ]
  exact rt_v C w rfl (fun _ => 0) (by rw [← e1]) dX10_setPassage_14

theorem dX10_ofTrip_0 : decode cX10_ofTrip 0 = .ok (.aload_n 0, 1) := by decide +kernel
theorem dX10_ofTrip_1 : decode cX10_ofTrip 1 = .ok (.getfield 44, 3) := by decide +kernel
theorem dX10_ofTrip_4 : decode cX10_ofTrip 4 = .ok (.sipush 2004, 3) := by decide +kernel
theorem dX10_ofTrip_7 : decode cX10_ofTrip 7 = .ok (.iconst 5, 1) := by decide +kernel
theorem dX10_ofTrip_8 : decode cX10_ofTrip 8 = .ok (.iload_n 1, 1) := by decide +kernel
theorem dX10_ofTrip_9 : decode cX10_ofTrip 9 = .ok (.imul, 1) := by decide +kernel
theorem dX10_ofTrip_10 : decode cX10_ofTrip 10 = .ok (.iadd, 1) := by decide +kernel
theorem dX10_ofTrip_11 : decode cX10_ofTrip 11 = .ok (.iload_n 2, 1) := by decide +kernel
theorem dX10_ofTrip_12 : decode cX10_ofTrip 12 = .ok (.iadd, 1) := by decide +kernel
theorem dX10_ofTrip_13 : decode cX10_ofTrip 13 = .ok (.iaload, 1) := by decide +kernel
theorem dX10_ofTrip_14 : decode cX10_ofTrip 14 = .ok (.ireturn, 1) := by decide +kernel
abbrev m_X10_ofTrip : MD := (yX10_ofTrip, cX10_ofTrip, 3, (some .int))

abbrev w_X10_ofTrip (g : GT) (h0 h1 : Nat) (v0_0 v0_1 v0_2 v0_3 v0_4 v0_5 v0_6 v0_7 v0_8 v0_9 v0_10 v0_11 v0_12 v0_13 v0_14 v0_15 v0_16 v0_17 v0_18 v0_19 v0_20 v0_22 v0_23 v0_24 v0_25 v0_26 v0_27 v0_28 v0_29 v0_30 v0_31 v0_32 v0_33 v0_34 v0_35 v0_36 v0_37 : Value) (state1 : Nat → Int32) : va_W := [(h0, .inr (10, [v0_0, v0_1, v0_2, v0_3, v0_4, v0_5, v0_6, v0_7, v0_8, v0_9, v0_10, v0_11, v0_12, v0_13, v0_14, v0_15, v0_16, v0_17, v0_18, v0_19, v0_20, .ref h1, v0_22, v0_23, v0_24, v0_25, v0_26, v0_27, v0_28, v0_29, v0_30, v0_31, v0_32, v0_33, v0_34, v0_35, v0_36, v0_37])), (h1, aI g 2524 state1)]
def f_X10_ofTrip (F : Nat) (p1 p2 : Int32) (state1 : Nat → Int32) : Option (Int32) :=
  rd state1 2524 ((2004 + (5 * p1)) + p2) fun a1 =>
  some a1
set_option maxHeartbeats 4000000 in
set_option maxRecDepth 100000 in
theorem c_X10_ofTrip (l : Launch) (g : GT) (F : Nat) (h0 h1 : Nat) (v0_0 v0_1 v0_2 v0_3 v0_4 v0_5 v0_6 v0_7 v0_8 v0_9 v0_10 v0_11 v0_12 v0_13 v0_14 v0_15 v0_16 v0_17 v0_18 v0_19 v0_20 v0_22 v0_23 v0_24 v0_25 v0_26 v0_27 v0_28 v0_29 v0_30 v0_31 v0_32 v0_33 v0_34 v0_35 v0_36 v0_37 : Value) (p1 p2 : Int32) (state1 : Nat → Int32) (r : Int32) (sz : Nat) (hf : f_X10_ofTrip F p1 p2 state1 = some r) : CI l m_X10_ofTrip (rml 0 0 0) g (w_X10_ofTrip g h0 h1 v0_0 v0_1 v0_2 v0_3 v0_4 v0_5 v0_6 v0_7 v0_8 v0_9 v0_10 v0_11 v0_12 v0_13 v0_14 v0_15 v0_16 v0_17 v0_18 v0_19 v0_20 v0_22 v0_23 v0_24 v0_25 v0_26 v0_27 v0_28 v0_29 v0_30 v0_31 v0_32 v0_33 v0_34 v0_35 v0_36 v0_37 state1) (fun _ => w_X10_ofTrip g h0 h1 v0_0 v0_1 v0_2 v0_3 v0_4 v0_5 v0_6 v0_7 v0_8 v0_9 v0_10 v0_11 v0_12 v0_13 v0_14 v0_15 v0_16 v0_17 v0_18 v0_19 v0_20 v0_22 v0_23 v0_24 v0_25 v0_26 v0_27 v0_28 v0_29 v0_30 v0_31 v0_32 v0_33 v0_34 v0_35 v0_36 v0_37 state1) sz [.ref h0, .int p1, .int p2] r := by
  refine en_i (by decide) (Nat.le_of_ble_eq_true rfl) (fun p e s m args below meth c A ls C w hl => ?_)
  have C : Cx p s m args meth c RX10 m_X10_ofTrip g A := C
  have hx := C.1
  have hb : c.code = cX10_ofTrip := C.2.1
  have hl : lv_has ls 3 [(0, .ref h0), (1, .int p1), (2, .int p2)] := hl
  obtain ⟨Q, hQ⟩ : ∃ Q, Q = QI below args s g A (fun _ => w_X10_ofTrip g h0 h1 v0_0 v0_1 v0_2 v0_3 v0_4 v0_5 v0_6 v0_7 v0_8 v0_9 v0_10 v0_11 v0_12 v0_13 v0_14 v0_15 v0_16 v0_17 v0_18 v0_19 v0_20 v0_22 v0_23 v0_24 v0_25 v0_26 v0_27 v0_28 v0_29 v0_30 v0_31 v0_32 v0_33 v0_34 v0_35 v0_36 v0_37 state1) r 0 0 := ⟨_, rfl⟩
  suffices hW : W p l e (rml 0 0 0) s m args below meth c s.heap [] 0 0 Q (F0 m 0 ls []) from (by rw [hQ] at hW; exact hW)
  unfold f_X10_ofTrip at hf
  refine lv_aload_n hx hb dX10_ofTrip_0 rfl (lv_at hl 0 rfl) ?_
  refine g_X10_44 C w 0 rfl rfl dX10_ofTrip_1 ?_
  refine lv_sipush (v := 2004) hx hb dX10_ofTrip_4 (by decide) ?_
  refine lv_iconst (v := 5) hx hb dX10_ofTrip_7 (by decide) ?_
  refine lv_iload_n hx hb dX10_ofTrip_8 rfl (lv_at hl 1 rfl) ?_
  refine lv_imul hx hb dX10_ofTrip_9 ?_
  refine lv_iadd hx hb dX10_ofTrip_10 ?_
  refine lv_iload_n hx hb dX10_ofTrip_11 rfl (lv_at hl 2 rfl) ?_
  refine lv_iadd hx hb dX10_ofTrip_12 ?_
  obtain ⟨a1, hia1, haa1, hf⟩ := rd_some hf
  refine ial C w 1 rfl hia1 haa1 dX10_ofTrip_13 ?_
  obtain e1 := tp1 hf
  rw [hQ]
  exact rt_i C w rfl (fun _ => 0) rfl e1 dX10_ofTrip_14

theorem dX10_ofInvoice_0 : decode cX10_ofInvoice 0 = .ok (.aload_n 0, 1) := by decide +kernel
theorem dX10_ofInvoice_1 : decode cX10_ofInvoice 1 = .ok (.getfield 44, 3) := by decide +kernel
theorem dX10_ofInvoice_4 : decode cX10_ofInvoice 4 = .ok (.sipush 2404, 3) := by decide +kernel
theorem dX10_ofInvoice_7 : decode cX10_ofInvoice 7 = .ok (.iconst 3, 1) := by decide +kernel
theorem dX10_ofInvoice_8 : decode cX10_ofInvoice 8 = .ok (.iload_n 1, 1) := by decide +kernel
theorem dX10_ofInvoice_9 : decode cX10_ofInvoice 9 = .ok (.imul, 1) := by decide +kernel
theorem dX10_ofInvoice_10 : decode cX10_ofInvoice 10 = .ok (.iadd, 1) := by decide +kernel
theorem dX10_ofInvoice_11 : decode cX10_ofInvoice 11 = .ok (.iload_n 2, 1) := by decide +kernel
theorem dX10_ofInvoice_12 : decode cX10_ofInvoice 12 = .ok (.iadd, 1) := by decide +kernel
theorem dX10_ofInvoice_13 : decode cX10_ofInvoice 13 = .ok (.iaload, 1) := by decide +kernel
theorem dX10_ofInvoice_14 : decode cX10_ofInvoice 14 = .ok (.ireturn, 1) := by decide +kernel
abbrev m_X10_ofInvoice : MD := (yX10_ofInvoice, cX10_ofInvoice, 3, (some .int))

abbrev w_X10_ofInvoice (g : GT) (h0 h1 : Nat) (v0_0 v0_1 v0_2 v0_3 v0_4 v0_5 v0_6 v0_7 v0_8 v0_9 v0_10 v0_11 v0_12 v0_13 v0_14 v0_15 v0_16 v0_17 v0_18 v0_19 v0_20 v0_22 v0_23 v0_24 v0_25 v0_26 v0_27 v0_28 v0_29 v0_30 v0_31 v0_32 v0_33 v0_34 v0_35 v0_36 v0_37 : Value) (state1 : Nat → Int32) : va_W := [(h0, .inr (10, [v0_0, v0_1, v0_2, v0_3, v0_4, v0_5, v0_6, v0_7, v0_8, v0_9, v0_10, v0_11, v0_12, v0_13, v0_14, v0_15, v0_16, v0_17, v0_18, v0_19, v0_20, .ref h1, v0_22, v0_23, v0_24, v0_25, v0_26, v0_27, v0_28, v0_29, v0_30, v0_31, v0_32, v0_33, v0_34, v0_35, v0_36, v0_37])), (h1, aI g 2524 state1)]
def f_X10_ofInvoice (F : Nat) (p1 p2 : Int32) (state1 : Nat → Int32) : Option (Int32) :=
  rd state1 2524 ((2404 + (3 * p1)) + p2) fun a1 =>
  some a1
set_option maxHeartbeats 4000000 in
set_option maxRecDepth 100000 in
theorem c_X10_ofInvoice (l : Launch) (g : GT) (F : Nat) (h0 h1 : Nat) (v0_0 v0_1 v0_2 v0_3 v0_4 v0_5 v0_6 v0_7 v0_8 v0_9 v0_10 v0_11 v0_12 v0_13 v0_14 v0_15 v0_16 v0_17 v0_18 v0_19 v0_20 v0_22 v0_23 v0_24 v0_25 v0_26 v0_27 v0_28 v0_29 v0_30 v0_31 v0_32 v0_33 v0_34 v0_35 v0_36 v0_37 : Value) (p1 p2 : Int32) (state1 : Nat → Int32) (r : Int32) (sz : Nat) (hf : f_X10_ofInvoice F p1 p2 state1 = some r) : CI l m_X10_ofInvoice (rml 0 0 0) g (w_X10_ofInvoice g h0 h1 v0_0 v0_1 v0_2 v0_3 v0_4 v0_5 v0_6 v0_7 v0_8 v0_9 v0_10 v0_11 v0_12 v0_13 v0_14 v0_15 v0_16 v0_17 v0_18 v0_19 v0_20 v0_22 v0_23 v0_24 v0_25 v0_26 v0_27 v0_28 v0_29 v0_30 v0_31 v0_32 v0_33 v0_34 v0_35 v0_36 v0_37 state1) (fun _ => w_X10_ofInvoice g h0 h1 v0_0 v0_1 v0_2 v0_3 v0_4 v0_5 v0_6 v0_7 v0_8 v0_9 v0_10 v0_11 v0_12 v0_13 v0_14 v0_15 v0_16 v0_17 v0_18 v0_19 v0_20 v0_22 v0_23 v0_24 v0_25 v0_26 v0_27 v0_28 v0_29 v0_30 v0_31 v0_32 v0_33 v0_34 v0_35 v0_36 v0_37 state1) sz [.ref h0, .int p1, .int p2] r := by
  refine en_i (by decide) (Nat.le_of_ble_eq_true rfl) (fun p e s m args below meth c A ls C w hl => ?_)
  have C : Cx p s m args meth c RX10 m_X10_ofInvoice g A := C
  have hx := C.1
  have hb : c.code = cX10_ofInvoice := C.2.1
  have hl : lv_has ls 3 [(0, .ref h0), (1, .int p1), (2, .int p2)] := hl
  obtain ⟨Q, hQ⟩ : ∃ Q, Q = QI below args s g A (fun _ => w_X10_ofInvoice g h0 h1 v0_0 v0_1 v0_2 v0_3 v0_4 v0_5 v0_6 v0_7 v0_8 v0_9 v0_10 v0_11 v0_12 v0_13 v0_14 v0_15 v0_16 v0_17 v0_18 v0_19 v0_20 v0_22 v0_23 v0_24 v0_25 v0_26 v0_27 v0_28 v0_29 v0_30 v0_31 v0_32 v0_33 v0_34 v0_35 v0_36 v0_37 state1) r 0 0 := ⟨_, rfl⟩
  suffices hW : W p l e (rml 0 0 0) s m args below meth c s.heap [] 0 0 Q (F0 m 0 ls []) from (by rw [hQ] at hW; exact hW)
  unfold f_X10_ofInvoice at hf
  refine lv_aload_n hx hb dX10_ofInvoice_0 rfl (lv_at hl 0 rfl) ?_
  refine g_X10_44 C w 0 rfl rfl dX10_ofInvoice_1 ?_
  refine lv_sipush (v := 2404) hx hb dX10_ofInvoice_4 (by decide) ?_
  refine lv_iconst (v := 3) hx hb dX10_ofInvoice_7 (by decide) ?_
  refine lv_iload_n hx hb dX10_ofInvoice_8 rfl (lv_at hl 1 rfl) ?_
  refine lv_imul hx hb dX10_ofInvoice_9 ?_
  refine lv_iadd hx hb dX10_ofInvoice_10 ?_
  refine lv_iload_n hx hb dX10_ofInvoice_11 rfl (lv_at hl 2 rfl) ?_
  refine lv_iadd hx hb dX10_ofInvoice_12 ?_
  obtain ⟨a1, hia1, haa1, hf⟩ := rd_some hf
  refine ial C w 1 rfl hia1 haa1 dX10_ofInvoice_13 ?_
  obtain e1 := tp1 hf
  rw [hQ]
  exact rt_i C w rfl (fun _ => 0) rfl e1 dX10_ofInvoice_14

theorem dX10_isPassage_0 : decode cX10_isPassage 0 = .ok (.iload_n 1, 1) := by decide +kernel
theorem dX10_isPassage_1 : decode cX10_isPassage 1 = .ok (.i2l, 1) := by decide +kernel
theorem dX10_isPassage_2 : decode cX10_isPassage 2 = .ok (.lconst 0, 1) := by decide +kernel
theorem dX10_isPassage_3 : decode cX10_isPassage 3 = .ok (.aload_n 0, 1) := by decide +kernel
theorem dX10_isPassage_4 : decode cX10_isPassage 4 = .ok (.getfield 44, 3) := by decide +kernel
theorem dX10_isPassage_7 : decode cX10_isPassage 7 = .ok (.iconst 0, 1) := by decide +kernel
theorem dX10_isPassage_8 : decode cX10_isPassage 8 = .ok (.iaload, 1) := by decide +kernel
theorem dX10_isPassage_9 : decode cX10_isPassage 9 = .ok (.iconst 1, 1) := by decide +kernel
theorem dX10_isPassage_10 : decode cX10_isPassage 10 = .ok (.isub, 1) := by decide +kernel
theorem dX10_isPassage_11 : decode cX10_isPassage 11 = .ok (.i2l, 1) := by decide +kernel
theorem dX10_isPassage_12 : decode cX10_isPassage 12 = .ok (.invokestatic 115, 3) := by decide +kernel
theorem dX10_isPassage_15 : decode cX10_isPassage 15 = .ok (.ireturn, 1) := by decide +kernel
abbrev m_X10_isPassage : MD := (yX10_isPassage, cX10_isPassage, 2, (some .boolean))

abbrev w_X10_isPassage (g : GT) (h0 h1 : Nat) (v0_0 v0_1 v0_2 v0_3 v0_4 v0_5 v0_6 v0_7 v0_8 v0_9 v0_10 v0_11 v0_12 v0_13 v0_14 v0_15 v0_16 v0_17 v0_18 v0_19 v0_20 v0_22 v0_23 v0_24 v0_25 v0_26 v0_27 v0_28 v0_29 v0_30 v0_31 v0_32 v0_33 v0_34 v0_35 v0_36 v0_37 : Value) (state1 : Nat → Int32) : va_W := [(h0, .inr (10, [v0_0, v0_1, v0_2, v0_3, v0_4, v0_5, v0_6, v0_7, v0_8, v0_9, v0_10, v0_11, v0_12, v0_13, v0_14, v0_15, v0_16, v0_17, v0_18, v0_19, v0_20, .ref h1, v0_22, v0_23, v0_24, v0_25, v0_26, v0_27, v0_28, v0_29, v0_30, v0_31, v0_32, v0_33, v0_34, v0_35, v0_36, v0_37])), (h1, aI g 2524 state1)]
def f_X10_isPassage (F : Nat) (p1 : Int32) (state1 : Nat → Int32) : Option (Int32) :=
  rd state1 2524 0 fun a1 =>
  bd1 (f_X10_within F p1.toInt64 0 ((a1 - 1).toInt64)) fun r2 =>
  gd (r2 = 0 ∨ r2 = 1) (some r2)
set_option maxHeartbeats 4000000 in
set_option maxRecDepth 100000 in
theorem c_X10_isPassage (l : Launch) (g : GT) (F : Nat) (h0 h1 : Nat) (v0_0 v0_1 v0_2 v0_3 v0_4 v0_5 v0_6 v0_7 v0_8 v0_9 v0_10 v0_11 v0_12 v0_13 v0_14 v0_15 v0_16 v0_17 v0_18 v0_19 v0_20 v0_22 v0_23 v0_24 v0_25 v0_26 v0_27 v0_28 v0_29 v0_30 v0_31 v0_32 v0_33 v0_34 v0_35 v0_36 v0_37 : Value) (p1 : Int32) (state1 : Nat → Int32) (r : Int32) (sz : Nat) (hf : f_X10_isPassage F p1 state1 = some r) : CI l m_X10_isPassage (rml 1 0 0) g (w_X10_isPassage g h0 h1 v0_0 v0_1 v0_2 v0_3 v0_4 v0_5 v0_6 v0_7 v0_8 v0_9 v0_10 v0_11 v0_12 v0_13 v0_14 v0_15 v0_16 v0_17 v0_18 v0_19 v0_20 v0_22 v0_23 v0_24 v0_25 v0_26 v0_27 v0_28 v0_29 v0_30 v0_31 v0_32 v0_33 v0_34 v0_35 v0_36 v0_37 state1) (fun _ => w_X10_isPassage g h0 h1 v0_0 v0_1 v0_2 v0_3 v0_4 v0_5 v0_6 v0_7 v0_8 v0_9 v0_10 v0_11 v0_12 v0_13 v0_14 v0_15 v0_16 v0_17 v0_18 v0_19 v0_20 v0_22 v0_23 v0_24 v0_25 v0_26 v0_27 v0_28 v0_29 v0_30 v0_31 v0_32 v0_33 v0_34 v0_35 v0_36 v0_37 state1) sz [.ref h0, .int p1] r := by
  refine en_i (by decide) (Nat.le_of_ble_eq_true rfl) (fun p e s m args below meth c A ls C w hl => ?_)
  have C : Cx p s m args meth c RX10 m_X10_isPassage g A := C
  have hx := C.1
  have hb : c.code = cX10_isPassage := C.2.1
  have hl : lv_has ls 2 [(0, .ref h0), (1, .int p1)] := hl
  obtain ⟨Q, hQ⟩ : ∃ Q, Q = QI below args s g A (fun _ => w_X10_isPassage g h0 h1 v0_0 v0_1 v0_2 v0_3 v0_4 v0_5 v0_6 v0_7 v0_8 v0_9 v0_10 v0_11 v0_12 v0_13 v0_14 v0_15 v0_16 v0_17 v0_18 v0_19 v0_20 v0_22 v0_23 v0_24 v0_25 v0_26 v0_27 v0_28 v0_29 v0_30 v0_31 v0_32 v0_33 v0_34 v0_35 v0_36 v0_37 state1) r 0 0 := ⟨_, rfl⟩
  suffices hW : W p l e (rml 1 0 0) s m args below meth c s.heap [] 0 0 Q (F0 m 0 ls []) from (by rw [hQ] at hW; exact hW)
  unfold f_X10_isPassage at hf
  refine lv_iload_n hx hb dX10_isPassage_0 rfl (lv_at hl 1 rfl) ?_
  refine lv_i2l (v := p1.toInt64) hx hb dX10_isPassage_1 rfl ?_
  refine lv_lconst (v := 0) hx hb dX10_isPassage_2 (by decide) ?_
  refine lv_aload_n hx hb dX10_isPassage_3 rfl (lv_at hl 0 rfl) ?_
  refine g_X10_44 C w 0 rfl rfl dX10_isPassage_4 ?_
  refine lv_iconst (v := 0) hx hb dX10_isPassage_7 (by decide) ?_
  obtain ⟨a1, hia1, haa1, hf⟩ := rd_some hf
  refine ial C w 1 rfl hia1 haa1 dX10_isPassage_8 ?_
  refine lv_iconst (v := 1) hx hb dX10_isPassage_9 (by decide) ?_
  refine lv_isub hx hb dX10_isPassage_10 ?_
  refine lv_i2l (v := (a1 - 1).toInt64) hx hb dX10_isPassage_11 rfl ?_
  obtain ⟨r2, hc3, hf⟩ := bd1_some hf
  refine ca_iS C w (wn := fun _ => w_X10_isPassage g h0 h1 v0_0 v0_1 v0_2 v0_3 v0_4 v0_5 v0_6 v0_7 v0_8 v0_9 v0_10 v0_11 v0_12 v0_13 v0_14 v0_15 v0_16 v0_17 v0_18 v0_19 v0_20 v0_22 v0_23 v0_24 v0_25 v0_26 v0_27 v0_28 v0_29 v0_30 v0_31 v0_32 v0_33 v0_34 v0_35 v0_36 v0_37 state1) (pm_k [false, false] rfl rfl (fun _ => Nat.le_of_ble_eq_true rfl) (fun _ => rfl)) (c_X10_within l g F p1.toInt64 0 ((a1 - 1).toInt64) r2 _ hc3) k_X10_115 (rm_le (by decide) (by decide)) rfl hl.1 rfl (Nat.le_of_ble_eq_true rfl) dX10_isPassage_12 ⟨Nat.le_of_ble_eq_true rfl, Nat.le_of_ble_eq_true rfl⟩ (cells2 := 0) (slots2 := 0) ⟨rfl, rfl⟩ (fun _ H locs w => ?_)
  obtain ⟨h01, hf⟩ := gd_some hf
  obtain e1 := tp1 hf
  rw [hQ]
  exact rt_z C w rfl h01 (fun _ => 0) rfl e1 dX10_isPassage_15

theorem dX10_isTrip_0 : decode cX10_isTrip 0 = .ok (.iload_n 1, 1) := by decide +kernel
theorem dX10_isTrip_1 : decode cX10_isTrip 1 = .ok (.i2l, 1) := by decide +kernel
theorem dX10_isTrip_2 : decode cX10_isTrip 2 = .ok (.lconst 0, 1) := by decide +kernel
theorem dX10_isTrip_3 : decode cX10_isTrip 3 = .ok (.aload_n 0, 1) := by decide +kernel
theorem dX10_isTrip_4 : decode cX10_isTrip 4 = .ok (.getfield 44, 3) := by decide +kernel
theorem dX10_isTrip_7 : decode cX10_isTrip 7 = .ok (.iconst 1, 1) := by decide +kernel
theorem dX10_isTrip_8 : decode cX10_isTrip 8 = .ok (.iaload, 1) := by decide +kernel
theorem dX10_isTrip_9 : decode cX10_isTrip 9 = .ok (.iconst 1, 1) := by decide +kernel
theorem dX10_isTrip_10 : decode cX10_isTrip 10 = .ok (.isub, 1) := by decide +kernel
theorem dX10_isTrip_11 : decode cX10_isTrip 11 = .ok (.i2l, 1) := by decide +kernel
theorem dX10_isTrip_12 : decode cX10_isTrip 12 = .ok (.invokestatic 115, 3) := by decide +kernel
theorem dX10_isTrip_15 : decode cX10_isTrip 15 = .ok (.ireturn, 1) := by decide +kernel
abbrev m_X10_isTrip : MD := (yX10_isTrip, cX10_isTrip, 2, (some .boolean))

abbrev w_X10_isTrip (g : GT) (h0 h1 : Nat) (v0_0 v0_1 v0_2 v0_3 v0_4 v0_5 v0_6 v0_7 v0_8 v0_9 v0_10 v0_11 v0_12 v0_13 v0_14 v0_15 v0_16 v0_17 v0_18 v0_19 v0_20 v0_22 v0_23 v0_24 v0_25 v0_26 v0_27 v0_28 v0_29 v0_30 v0_31 v0_32 v0_33 v0_34 v0_35 v0_36 v0_37 : Value) (state1 : Nat → Int32) : va_W := [(h0, .inr (10, [v0_0, v0_1, v0_2, v0_3, v0_4, v0_5, v0_6, v0_7, v0_8, v0_9, v0_10, v0_11, v0_12, v0_13, v0_14, v0_15, v0_16, v0_17, v0_18, v0_19, v0_20, .ref h1, v0_22, v0_23, v0_24, v0_25, v0_26, v0_27, v0_28, v0_29, v0_30, v0_31, v0_32, v0_33, v0_34, v0_35, v0_36, v0_37])), (h1, aI g 2524 state1)]
def f_X10_isTrip (F : Nat) (p1 : Int32) (state1 : Nat → Int32) : Option (Int32) :=
  rd state1 2524 1 fun a1 =>
  bd1 (f_X10_within F p1.toInt64 0 ((a1 - 1).toInt64)) fun r2 =>
  gd (r2 = 0 ∨ r2 = 1) (some r2)
set_option maxHeartbeats 4000000 in
set_option maxRecDepth 100000 in
theorem c_X10_isTrip (l : Launch) (g : GT) (F : Nat) (h0 h1 : Nat) (v0_0 v0_1 v0_2 v0_3 v0_4 v0_5 v0_6 v0_7 v0_8 v0_9 v0_10 v0_11 v0_12 v0_13 v0_14 v0_15 v0_16 v0_17 v0_18 v0_19 v0_20 v0_22 v0_23 v0_24 v0_25 v0_26 v0_27 v0_28 v0_29 v0_30 v0_31 v0_32 v0_33 v0_34 v0_35 v0_36 v0_37 : Value) (p1 : Int32) (state1 : Nat → Int32) (r : Int32) (sz : Nat) (hf : f_X10_isTrip F p1 state1 = some r) : CI l m_X10_isTrip (rml 1 0 0) g (w_X10_isTrip g h0 h1 v0_0 v0_1 v0_2 v0_3 v0_4 v0_5 v0_6 v0_7 v0_8 v0_9 v0_10 v0_11 v0_12 v0_13 v0_14 v0_15 v0_16 v0_17 v0_18 v0_19 v0_20 v0_22 v0_23 v0_24 v0_25 v0_26 v0_27 v0_28 v0_29 v0_30 v0_31 v0_32 v0_33 v0_34 v0_35 v0_36 v0_37 state1) (fun _ => w_X10_isTrip g h0 h1 v0_0 v0_1 v0_2 v0_3 v0_4 v0_5 v0_6 v0_7 v0_8 v0_9 v0_10 v0_11 v0_12 v0_13 v0_14 v0_15 v0_16 v0_17 v0_18 v0_19 v0_20 v0_22 v0_23 v0_24 v0_25 v0_26 v0_27 v0_28 v0_29 v0_30 v0_31 v0_32 v0_33 v0_34 v0_35 v0_36 v0_37 state1) sz [.ref h0, .int p1] r := by
  refine en_i (by decide) (Nat.le_of_ble_eq_true rfl) (fun p e s m args below meth c A ls C w hl => ?_)
  have C : Cx p s m args meth c RX10 m_X10_isTrip g A := C
  have hx := C.1
  have hb : c.code = cX10_isTrip := C.2.1
  have hl : lv_has ls 2 [(0, .ref h0), (1, .int p1)] := hl
  obtain ⟨Q, hQ⟩ : ∃ Q, Q = QI below args s g A (fun _ => w_X10_isTrip g h0 h1 v0_0 v0_1 v0_2 v0_3 v0_4 v0_5 v0_6 v0_7 v0_8 v0_9 v0_10 v0_11 v0_12 v0_13 v0_14 v0_15 v0_16 v0_17 v0_18 v0_19 v0_20 v0_22 v0_23 v0_24 v0_25 v0_26 v0_27 v0_28 v0_29 v0_30 v0_31 v0_32 v0_33 v0_34 v0_35 v0_36 v0_37 state1) r 0 0 := ⟨_, rfl⟩
  suffices hW : W p l e (rml 1 0 0) s m args below meth c s.heap [] 0 0 Q (F0 m 0 ls []) from (by rw [hQ] at hW; exact hW)
  unfold f_X10_isTrip at hf
  refine lv_iload_n hx hb dX10_isTrip_0 rfl (lv_at hl 1 rfl) ?_
  refine lv_i2l (v := p1.toInt64) hx hb dX10_isTrip_1 rfl ?_
  refine lv_lconst (v := 0) hx hb dX10_isTrip_2 (by decide) ?_
  refine lv_aload_n hx hb dX10_isTrip_3 rfl (lv_at hl 0 rfl) ?_
  refine g_X10_44 C w 0 rfl rfl dX10_isTrip_4 ?_
  refine lv_iconst (v := 1) hx hb dX10_isTrip_7 (by decide) ?_
  obtain ⟨a1, hia1, haa1, hf⟩ := rd_some hf
  refine ial C w 1 rfl hia1 haa1 dX10_isTrip_8 ?_
  refine lv_iconst (v := 1) hx hb dX10_isTrip_9 (by decide) ?_
  refine lv_isub hx hb dX10_isTrip_10 ?_
  refine lv_i2l (v := (a1 - 1).toInt64) hx hb dX10_isTrip_11 rfl ?_
  obtain ⟨r2, hc3, hf⟩ := bd1_some hf
  refine ca_iS C w (wn := fun _ => w_X10_isTrip g h0 h1 v0_0 v0_1 v0_2 v0_3 v0_4 v0_5 v0_6 v0_7 v0_8 v0_9 v0_10 v0_11 v0_12 v0_13 v0_14 v0_15 v0_16 v0_17 v0_18 v0_19 v0_20 v0_22 v0_23 v0_24 v0_25 v0_26 v0_27 v0_28 v0_29 v0_30 v0_31 v0_32 v0_33 v0_34 v0_35 v0_36 v0_37 state1) (pm_k [false, false] rfl rfl (fun _ => Nat.le_of_ble_eq_true rfl) (fun _ => rfl)) (c_X10_within l g F p1.toInt64 0 ((a1 - 1).toInt64) r2 _ hc3) k_X10_115 (rm_le (by decide) (by decide)) rfl hl.1 rfl (Nat.le_of_ble_eq_true rfl) dX10_isTrip_12 ⟨Nat.le_of_ble_eq_true rfl, Nat.le_of_ble_eq_true rfl⟩ (cells2 := 0) (slots2 := 0) ⟨rfl, rfl⟩ (fun _ H locs w => ?_)
  obtain ⟨h01, hf⟩ := gd_some hf
  obtain e1 := tp1 hf
  rw [hQ]
  exact rt_z C w rfl h01 (fun _ => 0) rfl e1 dX10_isTrip_15

theorem dX10_isInvoice_0 : decode cX10_isInvoice 0 = .ok (.iload_n 1, 1) := by decide +kernel
theorem dX10_isInvoice_1 : decode cX10_isInvoice 1 = .ok (.i2l, 1) := by decide +kernel
theorem dX10_isInvoice_2 : decode cX10_isInvoice 2 = .ok (.lconst 0, 1) := by decide +kernel
theorem dX10_isInvoice_3 : decode cX10_isInvoice 3 = .ok (.aload_n 0, 1) := by decide +kernel
theorem dX10_isInvoice_4 : decode cX10_isInvoice 4 = .ok (.getfield 44, 3) := by decide +kernel
theorem dX10_isInvoice_7 : decode cX10_isInvoice 7 = .ok (.iconst 2, 1) := by decide +kernel
theorem dX10_isInvoice_8 : decode cX10_isInvoice 8 = .ok (.iaload, 1) := by decide +kernel
theorem dX10_isInvoice_9 : decode cX10_isInvoice 9 = .ok (.iconst 1, 1) := by decide +kernel
theorem dX10_isInvoice_10 : decode cX10_isInvoice 10 = .ok (.isub, 1) := by decide +kernel
theorem dX10_isInvoice_11 : decode cX10_isInvoice 11 = .ok (.i2l, 1) := by decide +kernel
theorem dX10_isInvoice_12 : decode cX10_isInvoice 12 = .ok (.invokestatic 115, 3) := by decide +kernel
theorem dX10_isInvoice_15 : decode cX10_isInvoice 15 = .ok (.ireturn, 1) := by decide +kernel
abbrev m_X10_isInvoice : MD := (yX10_isInvoice, cX10_isInvoice, 2, (some .boolean))

abbrev w_X10_isInvoice (g : GT) (h0 h1 : Nat) (v0_0 v0_1 v0_2 v0_3 v0_4 v0_5 v0_6 v0_7 v0_8 v0_9 v0_10 v0_11 v0_12 v0_13 v0_14 v0_15 v0_16 v0_17 v0_18 v0_19 v0_20 v0_22 v0_23 v0_24 v0_25 v0_26 v0_27 v0_28 v0_29 v0_30 v0_31 v0_32 v0_33 v0_34 v0_35 v0_36 v0_37 : Value) (state1 : Nat → Int32) : va_W := [(h0, .inr (10, [v0_0, v0_1, v0_2, v0_3, v0_4, v0_5, v0_6, v0_7, v0_8, v0_9, v0_10, v0_11, v0_12, v0_13, v0_14, v0_15, v0_16, v0_17, v0_18, v0_19, v0_20, .ref h1, v0_22, v0_23, v0_24, v0_25, v0_26, v0_27, v0_28, v0_29, v0_30, v0_31, v0_32, v0_33, v0_34, v0_35, v0_36, v0_37])), (h1, aI g 2524 state1)]
def f_X10_isInvoice (F : Nat) (p1 : Int32) (state1 : Nat → Int32) : Option (Int32) :=
  rd state1 2524 2 fun a1 =>
  bd1 (f_X10_within F p1.toInt64 0 ((a1 - 1).toInt64)) fun r2 =>
  gd (r2 = 0 ∨ r2 = 1) (some r2)
set_option maxHeartbeats 4000000 in
set_option maxRecDepth 100000 in
theorem c_X10_isInvoice (l : Launch) (g : GT) (F : Nat) (h0 h1 : Nat) (v0_0 v0_1 v0_2 v0_3 v0_4 v0_5 v0_6 v0_7 v0_8 v0_9 v0_10 v0_11 v0_12 v0_13 v0_14 v0_15 v0_16 v0_17 v0_18 v0_19 v0_20 v0_22 v0_23 v0_24 v0_25 v0_26 v0_27 v0_28 v0_29 v0_30 v0_31 v0_32 v0_33 v0_34 v0_35 v0_36 v0_37 : Value) (p1 : Int32) (state1 : Nat → Int32) (r : Int32) (sz : Nat) (hf : f_X10_isInvoice F p1 state1 = some r) : CI l m_X10_isInvoice (rml 1 0 0) g (w_X10_isInvoice g h0 h1 v0_0 v0_1 v0_2 v0_3 v0_4 v0_5 v0_6 v0_7 v0_8 v0_9 v0_10 v0_11 v0_12 v0_13 v0_14 v0_15 v0_16 v0_17 v0_18 v0_19 v0_20 v0_22 v0_23 v0_24 v0_25 v0_26 v0_27 v0_28 v0_29 v0_30 v0_31 v0_32 v0_33 v0_34 v0_35 v0_36 v0_37 state1) (fun _ => w_X10_isInvoice g h0 h1 v0_0 v0_1 v0_2 v0_3 v0_4 v0_5 v0_6 v0_7 v0_8 v0_9 v0_10 v0_11 v0_12 v0_13 v0_14 v0_15 v0_16 v0_17 v0_18 v0_19 v0_20 v0_22 v0_23 v0_24 v0_25 v0_26 v0_27 v0_28 v0_29 v0_30 v0_31 v0_32 v0_33 v0_34 v0_35 v0_36 v0_37 state1) sz [.ref h0, .int p1] r := by
  refine en_i (by decide) (Nat.le_of_ble_eq_true rfl) (fun p e s m args below meth c A ls C w hl => ?_)
  have C : Cx p s m args meth c RX10 m_X10_isInvoice g A := C
  have hx := C.1
  have hb : c.code = cX10_isInvoice := C.2.1
  have hl : lv_has ls 2 [(0, .ref h0), (1, .int p1)] := hl
  obtain ⟨Q, hQ⟩ : ∃ Q, Q = QI below args s g A (fun _ => w_X10_isInvoice g h0 h1 v0_0 v0_1 v0_2 v0_3 v0_4 v0_5 v0_6 v0_7 v0_8 v0_9 v0_10 v0_11 v0_12 v0_13 v0_14 v0_15 v0_16 v0_17 v0_18 v0_19 v0_20 v0_22 v0_23 v0_24 v0_25 v0_26 v0_27 v0_28 v0_29 v0_30 v0_31 v0_32 v0_33 v0_34 v0_35 v0_36 v0_37 state1) r 0 0 := ⟨_, rfl⟩
  suffices hW : W p l e (rml 1 0 0) s m args below meth c s.heap [] 0 0 Q (F0 m 0 ls []) from (by rw [hQ] at hW; exact hW)
  unfold f_X10_isInvoice at hf
  refine lv_iload_n hx hb dX10_isInvoice_0 rfl (lv_at hl 1 rfl) ?_
  refine lv_i2l (v := p1.toInt64) hx hb dX10_isInvoice_1 rfl ?_
  refine lv_lconst (v := 0) hx hb dX10_isInvoice_2 (by decide) ?_
  refine lv_aload_n hx hb dX10_isInvoice_3 rfl (lv_at hl 0 rfl) ?_
  refine g_X10_44 C w 0 rfl rfl dX10_isInvoice_4 ?_
  refine lv_iconst (v := 2) hx hb dX10_isInvoice_7 (by decide) ?_
  obtain ⟨a1, hia1, haa1, hf⟩ := rd_some hf
  refine ial C w 1 rfl hia1 haa1 dX10_isInvoice_8 ?_
  refine lv_iconst (v := 1) hx hb dX10_isInvoice_9 (by decide) ?_
  refine lv_isub hx hb dX10_isInvoice_10 ?_
  refine lv_i2l (v := (a1 - 1).toInt64) hx hb dX10_isInvoice_11 rfl ?_
  obtain ⟨r2, hc3, hf⟩ := bd1_some hf
  refine ca_iS C w (wn := fun _ => w_X10_isInvoice g h0 h1 v0_0 v0_1 v0_2 v0_3 v0_4 v0_5 v0_6 v0_7 v0_8 v0_9 v0_10 v0_11 v0_12 v0_13 v0_14 v0_15 v0_16 v0_17 v0_18 v0_19 v0_20 v0_22 v0_23 v0_24 v0_25 v0_26 v0_27 v0_28 v0_29 v0_30 v0_31 v0_32 v0_33 v0_34 v0_35 v0_36 v0_37 state1) (pm_k [false, false] rfl rfl (fun _ => Nat.le_of_ble_eq_true rfl) (fun _ => rfl)) (c_X10_within l g F p1.toInt64 0 ((a1 - 1).toInt64) r2 _ hc3) k_X10_115 (rm_le (by decide) (by decide)) rfl hl.1 rfl (Nat.le_of_ble_eq_true rfl) dX10_isInvoice_12 ⟨Nat.le_of_ble_eq_true rfl, Nat.le_of_ble_eq_true rfl⟩ (cells2 := 0) (slots2 := 0) ⟨rfl, rfl⟩ (fun _ H locs w => ?_)
  obtain ⟨h01, hf⟩ := gd_some hf
  obtain e1 := tp1 hf
  rw [hQ]
  exact rt_z C w rfl h01 (fun _ => 0) rfl e1 dX10_isInvoice_15

theorem dX10_isGantry_0 : decode cX10_isGantry 0 = .ok (.iload_n 1, 1) := by decide +kernel
theorem dX10_isGantry_1 : decode cX10_isGantry 1 = .ok (.i2l, 1) := by decide +kernel
theorem dX10_isGantry_2 : decode cX10_isGantry 2 = .ok (.lconst 0, 1) := by decide +kernel
theorem dX10_isGantry_3 : decode cX10_isGantry 3 = .ok (.aload_n 0, 1) := by decide +kernel
theorem dX10_isGantry_4 : decode cX10_isGantry 4 = .ok (.getfield 13, 3) := by decide +kernel
theorem dX10_isGantry_7 : decode cX10_isGantry 7 = .ok (.iconst 0, 1) := by decide +kernel
theorem dX10_isGantry_8 : decode cX10_isGantry 8 = .ok (.iaload, 1) := by decide +kernel
theorem dX10_isGantry_9 : decode cX10_isGantry 9 = .ok (.iconst 1, 1) := by decide +kernel
theorem dX10_isGantry_10 : decode cX10_isGantry 10 = .ok (.isub, 1) := by decide +kernel
theorem dX10_isGantry_11 : decode cX10_isGantry 11 = .ok (.i2l, 1) := by decide +kernel
theorem dX10_isGantry_12 : decode cX10_isGantry 12 = .ok (.invokestatic 115, 3) := by decide +kernel
theorem dX10_isGantry_15 : decode cX10_isGantry 15 = .ok (.ireturn, 1) := by decide +kernel
abbrev m_X10_isGantry : MD := (yX10_isGantry, cX10_isGantry, 2, (some .boolean))

abbrev w_X10_isGantry (g : GT) (h0 h1 : Nat) (v0_0 v0_1 v0_2 v0_3 v0_4 v0_5 v0_6 v0_7 v0_8 v0_9 v0_11 v0_12 v0_13 v0_14 v0_15 v0_16 v0_17 v0_18 v0_19 v0_20 v0_21 v0_22 v0_23 v0_24 v0_25 v0_26 v0_27 v0_28 v0_29 v0_30 v0_31 v0_32 v0_33 v0_34 v0_35 v0_36 v0_37 : Value) (basic1 : Nat → Int32) : va_W := [(h0, .inr (10, [v0_0, v0_1, v0_2, v0_3, v0_4, v0_5, v0_6, v0_7, v0_8, v0_9, .ref h1, v0_11, v0_12, v0_13, v0_14, v0_15, v0_16, v0_17, v0_18, v0_19, v0_20, v0_21, v0_22, v0_23, v0_24, v0_25, v0_26, v0_27, v0_28, v0_29, v0_30, v0_31, v0_32, v0_33, v0_34, v0_35, v0_36, v0_37])), (h1, aI g 7 basic1)]
def f_X10_isGantry (F : Nat) (p1 : Int32) (basic1 : Nat → Int32) : Option (Int32) :=
  rd basic1 7 0 fun a1 =>
  bd1 (f_X10_within F p1.toInt64 0 ((a1 - 1).toInt64)) fun r2 =>
  gd (r2 = 0 ∨ r2 = 1) (some r2)
set_option maxHeartbeats 4000000 in
set_option maxRecDepth 100000 in
theorem c_X10_isGantry (l : Launch) (g : GT) (F : Nat) (h0 h1 : Nat) (v0_0 v0_1 v0_2 v0_3 v0_4 v0_5 v0_6 v0_7 v0_8 v0_9 v0_11 v0_12 v0_13 v0_14 v0_15 v0_16 v0_17 v0_18 v0_19 v0_20 v0_21 v0_22 v0_23 v0_24 v0_25 v0_26 v0_27 v0_28 v0_29 v0_30 v0_31 v0_32 v0_33 v0_34 v0_35 v0_36 v0_37 : Value) (p1 : Int32) (basic1 : Nat → Int32) (r : Int32) (sz : Nat) (hf : f_X10_isGantry F p1 basic1 = some r) : CI l m_X10_isGantry (rml 1 0 0) g (w_X10_isGantry g h0 h1 v0_0 v0_1 v0_2 v0_3 v0_4 v0_5 v0_6 v0_7 v0_8 v0_9 v0_11 v0_12 v0_13 v0_14 v0_15 v0_16 v0_17 v0_18 v0_19 v0_20 v0_21 v0_22 v0_23 v0_24 v0_25 v0_26 v0_27 v0_28 v0_29 v0_30 v0_31 v0_32 v0_33 v0_34 v0_35 v0_36 v0_37 basic1) (fun _ => w_X10_isGantry g h0 h1 v0_0 v0_1 v0_2 v0_3 v0_4 v0_5 v0_6 v0_7 v0_8 v0_9 v0_11 v0_12 v0_13 v0_14 v0_15 v0_16 v0_17 v0_18 v0_19 v0_20 v0_21 v0_22 v0_23 v0_24 v0_25 v0_26 v0_27 v0_28 v0_29 v0_30 v0_31 v0_32 v0_33 v0_34 v0_35 v0_36 v0_37 basic1) sz [.ref h0, .int p1] r := by
  refine en_i (by decide) (Nat.le_of_ble_eq_true rfl) (fun p e s m args below meth c A ls C w hl => ?_)
  have C : Cx p s m args meth c RX10 m_X10_isGantry g A := C
  have hx := C.1
  have hb : c.code = cX10_isGantry := C.2.1
  have hl : lv_has ls 2 [(0, .ref h0), (1, .int p1)] := hl
  obtain ⟨Q, hQ⟩ : ∃ Q, Q = QI below args s g A (fun _ => w_X10_isGantry g h0 h1 v0_0 v0_1 v0_2 v0_3 v0_4 v0_5 v0_6 v0_7 v0_8 v0_9 v0_11 v0_12 v0_13 v0_14 v0_15 v0_16 v0_17 v0_18 v0_19 v0_20 v0_21 v0_22 v0_23 v0_24 v0_25 v0_26 v0_27 v0_28 v0_29 v0_30 v0_31 v0_32 v0_33 v0_34 v0_35 v0_36 v0_37 basic1) r 0 0 := ⟨_, rfl⟩
  suffices hW : W p l e (rml 1 0 0) s m args below meth c s.heap [] 0 0 Q (F0 m 0 ls []) from (by rw [hQ] at hW; exact hW)
  unfold f_X10_isGantry at hf
  refine lv_iload_n hx hb dX10_isGantry_0 rfl (lv_at hl 1 rfl) ?_
  refine lv_i2l (v := p1.toInt64) hx hb dX10_isGantry_1 rfl ?_
  refine lv_lconst (v := 0) hx hb dX10_isGantry_2 (by decide) ?_
  refine lv_aload_n hx hb dX10_isGantry_3 rfl (lv_at hl 0 rfl) ?_
  refine g_X10_13 C w 0 rfl rfl dX10_isGantry_4 ?_
  refine lv_iconst (v := 0) hx hb dX10_isGantry_7 (by decide) ?_
  obtain ⟨a1, hia1, haa1, hf⟩ := rd_some hf
  refine ial C w 1 rfl hia1 haa1 dX10_isGantry_8 ?_
  refine lv_iconst (v := 1) hx hb dX10_isGantry_9 (by decide) ?_
  refine lv_isub hx hb dX10_isGantry_10 ?_
  refine lv_i2l (v := (a1 - 1).toInt64) hx hb dX10_isGantry_11 rfl ?_
  obtain ⟨r2, hc3, hf⟩ := bd1_some hf
  refine ca_iS C w (wn := fun _ => w_X10_isGantry g h0 h1 v0_0 v0_1 v0_2 v0_3 v0_4 v0_5 v0_6 v0_7 v0_8 v0_9 v0_11 v0_12 v0_13 v0_14 v0_15 v0_16 v0_17 v0_18 v0_19 v0_20 v0_21 v0_22 v0_23 v0_24 v0_25 v0_26 v0_27 v0_28 v0_29 v0_30 v0_31 v0_32 v0_33 v0_34 v0_35 v0_36 v0_37 basic1) (pm_k [false, false] rfl rfl (fun _ => Nat.le_of_ble_eq_true rfl) (fun _ => rfl)) (c_X10_within l g F p1.toInt64 0 ((a1 - 1).toInt64) r2 _ hc3) k_X10_115 (rm_le (by decide) (by decide)) rfl hl.1 rfl (Nat.le_of_ble_eq_true rfl) dX10_isGantry_12 ⟨Nat.le_of_ble_eq_true rfl, Nat.le_of_ble_eq_true rfl⟩ (cells2 := 0) (slots2 := 0) ⟨rfl, rfl⟩ (fun _ H locs w => ?_)
  obtain ⟨h01, hf⟩ := gd_some hf
  obtain e1 := tp1 hf
  rw [hQ]
  exact rt_z C w rfl h01 (fun _ => 0) rfl e1 dX10_isGantry_15

theorem dX10_gantryCount_0 : decode cX10_gantryCount 0 = .ok (.aload_n 0, 1) := by decide +kernel
theorem dX10_gantryCount_1 : decode cX10_gantryCount 1 = .ok (.aload_n 0, 1) := by decide +kernel
theorem dX10_gantryCount_2 : decode cX10_gantryCount 2 = .ok (.getfield 13, 3) := by decide +kernel
theorem dX10_gantryCount_5 : decode cX10_gantryCount 5 = .ok (.iconst 0, 1) := by decide +kernel
theorem dX10_gantryCount_6 : decode cX10_gantryCount 6 = .ok (.iaload, 1) := by decide +kernel
theorem dX10_gantryCount_7 : decode cX10_gantryCount 7 = .ok (.invokevirtual 215, 3) := by decide +kernel
theorem dX10_gantryCount_10 : decode cX10_gantryCount 10 = .ok (.ireturn, 1) := by decide +kernel
abbrev m_X10_gantryCount : MD := (yX10_gantryCount, cX10_gantryCount, 1, (some .int))
theorem q_1440 : Cond.code yX10_told cX10_told 2 (some .int) ∈ TS := ts_t 1440 (by decide +kernel) (by decide +kernel)
theorem q_1437 : Cond.methodLink RX10 215 yX10_told ∈ TS := ts_t 1437 (by decide +kernel) (by decide +kernel)
theorem q_1439 : Cond.instanceMethod yX10_told ∈ TS := ts_t 1439 (by decide +kernel) (by decide +kernel)
theorem qs_99 : Cond.selects yX10_told.cls yX10_told yX10_told ∈ TS := ts_s 99 (by decide +kernel) (by decide +kernel)
theorem k_X10_215 : LkV RX10 215 m_X10_told 1 := ⟨q_1437, q_1439, qs_99, ⟨q_11, q_1440, by decide, by decide, by decide +kernel⟩⟩
abbrev w_X10_gantryCount (g : GT) (h0 h1 : Nat) (v0_1 v0_2 v0_3 v0_4 v0_5 v0_6 v0_7 v0_8 v0_9 v0_11 v0_12 v0_13 v0_14 v0_15 v0_16 v0_17 v0_18 v0_19 v0_20 v0_21 v0_22 v0_23 v0_24 v0_25 v0_26 v0_27 v0_28 v0_29 v0_30 v0_31 v0_32 v0_33 v0_34 v0_35 v0_36 v0_37 : Value) (thrown0 : Int32) (basic1 : Nat → Int32) : va_W := [(h0, .inr (10, [.int thrown0, v0_1, v0_2, v0_3, v0_4, v0_5, v0_6, v0_7, v0_8, v0_9, .ref h1, v0_11, v0_12, v0_13, v0_14, v0_15, v0_16, v0_17, v0_18, v0_19, v0_20, v0_21, v0_22, v0_23, v0_24, v0_25, v0_26, v0_27, v0_28, v0_29, v0_30, v0_31, v0_32, v0_33, v0_34, v0_35, v0_36, v0_37])), (h1, aI g 7 basic1)]
def f_X10_gantryCount (F : Nat) (thrown0 : Int32) (basic1 : Nat → Int32) : Option (Int32 × Int32) :=
  rd basic1 7 0 fun a1 =>
  bd2 (f_X10_told F a1 thrown0) fun r2 o3 =>
  some (r2, o3)
set_option maxHeartbeats 4000000 in
set_option maxRecDepth 100000 in
theorem c_X10_gantryCount (l : Launch) (g : GT) (F : Nat) (h0 h1 : Nat) (v0_1 v0_2 v0_3 v0_4 v0_5 v0_6 v0_7 v0_8 v0_9 v0_11 v0_12 v0_13 v0_14 v0_15 v0_16 v0_17 v0_18 v0_19 v0_20 v0_21 v0_22 v0_23 v0_24 v0_25 v0_26 v0_27 v0_28 v0_29 v0_30 v0_31 v0_32 v0_33 v0_34 v0_35 v0_36 v0_37 : Value) (thrown0 : Int32) (basic1 : Nat → Int32) (r o_thrown0 : Int32) (sz : Nat) (hf : f_X10_gantryCount F thrown0 basic1 = some (r, o_thrown0)) : CI l m_X10_gantryCount (rml 1 0 0) g (w_X10_gantryCount g h0 h1 v0_1 v0_2 v0_3 v0_4 v0_5 v0_6 v0_7 v0_8 v0_9 v0_11 v0_12 v0_13 v0_14 v0_15 v0_16 v0_17 v0_18 v0_19 v0_20 v0_21 v0_22 v0_23 v0_24 v0_25 v0_26 v0_27 v0_28 v0_29 v0_30 v0_31 v0_32 v0_33 v0_34 v0_35 v0_36 v0_37 thrown0 basic1) (fun _ => w_X10_gantryCount g h0 h1 v0_1 v0_2 v0_3 v0_4 v0_5 v0_6 v0_7 v0_8 v0_9 v0_11 v0_12 v0_13 v0_14 v0_15 v0_16 v0_17 v0_18 v0_19 v0_20 v0_21 v0_22 v0_23 v0_24 v0_25 v0_26 v0_27 v0_28 v0_29 v0_30 v0_31 v0_32 v0_33 v0_34 v0_35 v0_36 v0_37 o_thrown0 basic1) sz [.ref h0] r := by
  refine en_i (by decide) (Nat.le_of_ble_eq_true rfl) (fun p e s m args below meth c A ls C w hl => ?_)
  have C : Cx p s m args meth c RX10 m_X10_gantryCount g A := C
  have hx := C.1
  have hb : c.code = cX10_gantryCount := C.2.1
  have hl : lv_has ls 1 [(0, .ref h0)] := hl
  obtain ⟨Q, hQ⟩ : ∃ Q, Q = QI below args s g A (fun _ => w_X10_gantryCount g h0 h1 v0_1 v0_2 v0_3 v0_4 v0_5 v0_6 v0_7 v0_8 v0_9 v0_11 v0_12 v0_13 v0_14 v0_15 v0_16 v0_17 v0_18 v0_19 v0_20 v0_21 v0_22 v0_23 v0_24 v0_25 v0_26 v0_27 v0_28 v0_29 v0_30 v0_31 v0_32 v0_33 v0_34 v0_35 v0_36 v0_37 o_thrown0 basic1) r 0 0 := ⟨_, rfl⟩
  suffices hW : W p l e (rml 1 0 0) s m args below meth c s.heap [] 0 0 Q (F0 m 0 ls []) from (by rw [hQ] at hW; exact hW)
  unfold f_X10_gantryCount at hf
  refine lv_aload_n hx hb dX10_gantryCount_0 rfl (lv_at hl 0 rfl) ?_
  refine lv_aload_n hx hb dX10_gantryCount_1 rfl (lv_at hl 0 rfl) ?_
  refine g_X10_13 C w 0 rfl rfl dX10_gantryCount_2 ?_
  refine lv_iconst (v := 0) hx hb dX10_gantryCount_5 (by decide) ?_
  obtain ⟨a1, hia1, haa1, hf⟩ := rd_some hf
  refine ial C w 1 rfl hia1 haa1 dX10_gantryCount_6 ?_
  obtain ⟨r2, o3, hc4, hf⟩ := bd2_some hf
  refine ca_iV C w (wn := fun _ => w_X10_gantryCount g h0 h1 v0_1 v0_2 v0_3 v0_4 v0_5 v0_6 v0_7 v0_8 v0_9 v0_11 v0_12 v0_13 v0_14 v0_15 v0_16 v0_17 v0_18 v0_19 v0_20 v0_21 v0_22 v0_23 v0_24 v0_25 v0_26 v0_27 v0_28 v0_29 v0_30 v0_31 v0_32 v0_33 v0_34 v0_35 v0_36 v0_37 o3 basic1) (pm_k [true, false] rfl rfl (fun _ => Nat.le_of_ble_eq_true rfl) (fun _ => rfl)) (c_X10_told l g F h0 v0_1 v0_2 v0_3 v0_4 v0_5 v0_6 v0_7 v0_8 v0_9 (.ref h1) v0_11 v0_12 v0_13 v0_14 v0_15 v0_16 v0_17 v0_18 v0_19 v0_20 v0_21 v0_22 v0_23 v0_24 v0_25 v0_26 v0_27 v0_28 v0_29 v0_30 v0_31 v0_32 v0_33 v0_34 v0_35 v0_36 v0_37 a1 thrown0 r2 o3 _ hc4) k_X10_215 (rm_le (by decide) (by decide)) 0 10 rfl rfl rfl rfl hl.1 rfl (Nat.le_of_ble_eq_true rfl) dX10_gantryCount_7 ⟨Nat.le_of_ble_eq_true rfl, Nat.le_of_ble_eq_true rfl⟩ (cells2 := 0) (slots2 := 0) ⟨rfl, rfl⟩ (fun _ H locs w => ?_)
  obtain ⟨e1, e2⟩ := tp2 hf
  rw [hQ]
  exact rt_i C w rfl (fun _ => 0) (by rw [← e2]) e1 dX10_gantryCount_10

theorem dX10_tagCount_0 : decode cX10_tagCount 0 = .ok (.aload_n 0, 1) := by decide +kernel
theorem dX10_tagCount_1 : decode cX10_tagCount 1 = .ok (.aload_n 0, 1) := by decide +kernel
theorem dX10_tagCount_2 : decode cX10_tagCount 2 = .ok (.getfield 13, 3) := by decide +kernel
theorem dX10_tagCount_5 : decode cX10_tagCount 5 = .ok (.iconst 3, 1) := by decide +kernel
theorem dX10_tagCount_6 : decode cX10_tagCount 6 = .ok (.iaload, 1) := by decide +kernel
theorem dX10_tagCount_7 : decode cX10_tagCount 7 = .ok (.invokevirtual 215, 3) := by decide +kernel
theorem dX10_tagCount_10 : decode cX10_tagCount 10 = .ok (.ireturn, 1) := by decide +kernel
abbrev m_X10_tagCount : MD := (yX10_tagCount, cX10_tagCount, 1, (some .int))

abbrev w_X10_tagCount (g : GT) (h0 h1 : Nat) (v0_1 v0_2 v0_3 v0_4 v0_5 v0_6 v0_7 v0_8 v0_9 v0_11 v0_12 v0_13 v0_14 v0_15 v0_16 v0_17 v0_18 v0_19 v0_20 v0_21 v0_22 v0_23 v0_24 v0_25 v0_26 v0_27 v0_28 v0_29 v0_30 v0_31 v0_32 v0_33 v0_34 v0_35 v0_36 v0_37 : Value) (thrown0 : Int32) (basic1 : Nat → Int32) : va_W := [(h0, .inr (10, [.int thrown0, v0_1, v0_2, v0_3, v0_4, v0_5, v0_6, v0_7, v0_8, v0_9, .ref h1, v0_11, v0_12, v0_13, v0_14, v0_15, v0_16, v0_17, v0_18, v0_19, v0_20, v0_21, v0_22, v0_23, v0_24, v0_25, v0_26, v0_27, v0_28, v0_29, v0_30, v0_31, v0_32, v0_33, v0_34, v0_35, v0_36, v0_37])), (h1, aI g 7 basic1)]
def f_X10_tagCount (F : Nat) (thrown0 : Int32) (basic1 : Nat → Int32) : Option (Int32 × Int32) :=
  rd basic1 7 3 fun a1 =>
  bd2 (f_X10_told F a1 thrown0) fun r2 o3 =>
  some (r2, o3)
set_option maxHeartbeats 4000000 in
set_option maxRecDepth 100000 in
theorem c_X10_tagCount (l : Launch) (g : GT) (F : Nat) (h0 h1 : Nat) (v0_1 v0_2 v0_3 v0_4 v0_5 v0_6 v0_7 v0_8 v0_9 v0_11 v0_12 v0_13 v0_14 v0_15 v0_16 v0_17 v0_18 v0_19 v0_20 v0_21 v0_22 v0_23 v0_24 v0_25 v0_26 v0_27 v0_28 v0_29 v0_30 v0_31 v0_32 v0_33 v0_34 v0_35 v0_36 v0_37 : Value) (thrown0 : Int32) (basic1 : Nat → Int32) (r o_thrown0 : Int32) (sz : Nat) (hf : f_X10_tagCount F thrown0 basic1 = some (r, o_thrown0)) : CI l m_X10_tagCount (rml 1 0 0) g (w_X10_tagCount g h0 h1 v0_1 v0_2 v0_3 v0_4 v0_5 v0_6 v0_7 v0_8 v0_9 v0_11 v0_12 v0_13 v0_14 v0_15 v0_16 v0_17 v0_18 v0_19 v0_20 v0_21 v0_22 v0_23 v0_24 v0_25 v0_26 v0_27 v0_28 v0_29 v0_30 v0_31 v0_32 v0_33 v0_34 v0_35 v0_36 v0_37 thrown0 basic1) (fun _ => w_X10_tagCount g h0 h1 v0_1 v0_2 v0_3 v0_4 v0_5 v0_6 v0_7 v0_8 v0_9 v0_11 v0_12 v0_13 v0_14 v0_15 v0_16 v0_17 v0_18 v0_19 v0_20 v0_21 v0_22 v0_23 v0_24 v0_25 v0_26 v0_27 v0_28 v0_29 v0_30 v0_31 v0_32 v0_33 v0_34 v0_35 v0_36 v0_37 o_thrown0 basic1) sz [.ref h0] r := by
  refine en_i (by decide) (Nat.le_of_ble_eq_true rfl) (fun p e s m args below meth c A ls C w hl => ?_)
  have C : Cx p s m args meth c RX10 m_X10_tagCount g A := C
  have hx := C.1
  have hb : c.code = cX10_tagCount := C.2.1
  have hl : lv_has ls 1 [(0, .ref h0)] := hl
  obtain ⟨Q, hQ⟩ : ∃ Q, Q = QI below args s g A (fun _ => w_X10_tagCount g h0 h1 v0_1 v0_2 v0_3 v0_4 v0_5 v0_6 v0_7 v0_8 v0_9 v0_11 v0_12 v0_13 v0_14 v0_15 v0_16 v0_17 v0_18 v0_19 v0_20 v0_21 v0_22 v0_23 v0_24 v0_25 v0_26 v0_27 v0_28 v0_29 v0_30 v0_31 v0_32 v0_33 v0_34 v0_35 v0_36 v0_37 o_thrown0 basic1) r 0 0 := ⟨_, rfl⟩
  suffices hW : W p l e (rml 1 0 0) s m args below meth c s.heap [] 0 0 Q (F0 m 0 ls []) from (by rw [hQ] at hW; exact hW)
  unfold f_X10_tagCount at hf
  refine lv_aload_n hx hb dX10_tagCount_0 rfl (lv_at hl 0 rfl) ?_
  refine lv_aload_n hx hb dX10_tagCount_1 rfl (lv_at hl 0 rfl) ?_
  refine g_X10_13 C w 0 rfl rfl dX10_tagCount_2 ?_
  refine lv_iconst (v := 3) hx hb dX10_tagCount_5 (by decide) ?_
  obtain ⟨a1, hia1, haa1, hf⟩ := rd_some hf
  refine ial C w 1 rfl hia1 haa1 dX10_tagCount_6 ?_
  obtain ⟨r2, o3, hc4, hf⟩ := bd2_some hf
  refine ca_iV C w (wn := fun _ => w_X10_tagCount g h0 h1 v0_1 v0_2 v0_3 v0_4 v0_5 v0_6 v0_7 v0_8 v0_9 v0_11 v0_12 v0_13 v0_14 v0_15 v0_16 v0_17 v0_18 v0_19 v0_20 v0_21 v0_22 v0_23 v0_24 v0_25 v0_26 v0_27 v0_28 v0_29 v0_30 v0_31 v0_32 v0_33 v0_34 v0_35 v0_36 v0_37 o3 basic1) (pm_k [true, false] rfl rfl (fun _ => Nat.le_of_ble_eq_true rfl) (fun _ => rfl)) (c_X10_told l g F h0 v0_1 v0_2 v0_3 v0_4 v0_5 v0_6 v0_7 v0_8 v0_9 (.ref h1) v0_11 v0_12 v0_13 v0_14 v0_15 v0_16 v0_17 v0_18 v0_19 v0_20 v0_21 v0_22 v0_23 v0_24 v0_25 v0_26 v0_27 v0_28 v0_29 v0_30 v0_31 v0_32 v0_33 v0_34 v0_35 v0_36 v0_37 a1 thrown0 r2 o3 _ hc4) k_X10_215 (rm_le (by decide) (by decide)) 0 10 rfl rfl rfl rfl hl.1 rfl (Nat.le_of_ble_eq_true rfl) dX10_tagCount_7 ⟨Nat.le_of_ble_eq_true rfl, Nat.le_of_ble_eq_true rfl⟩ (cells2 := 0) (slots2 := 0) ⟨rfl, rfl⟩ (fun _ H locs w => ?_)
  obtain ⟨e1, e2⟩ := tp2 hf
  rw [hQ]
  exact rt_i C w rfl (fun _ => 0) (by rw [← e2]) e1 dX10_tagCount_10

theorem dX10_classFor_0 : decode cX10_classFor 0 = .ok (.iconst (-1), 1) := by decide +kernel
theorem dX10_classFor_1 : decode cX10_classFor 1 = .ok (.istore_n 2, 1) := by decide +kernel
theorem dX10_classFor_2 : decode cX10_classFor 2 = .ok (.iconst 0, 1) := by decide +kernel
theorem dX10_classFor_3 : decode cX10_classFor 3 = .ok (.istore_n 3, 1) := by decide +kernel
theorem dX10_classFor_4 : decode cX10_classFor 4 = .ok (.iload_n 3, 1) := by decide +kernel
theorem dX10_classFor_5 : decode cX10_classFor 5 = .ok (.aload_n 0, 1) := by decide +kernel
theorem dX10_classFor_6 : decode cX10_classFor 6 = .ok (.getfield 13, 3) := by decide +kernel
theorem dX10_classFor_9 : decode cX10_classFor 9 = .ok (.iconst 2, 1) := by decide +kernel
theorem dX10_classFor_10 : decode cX10_classFor 10 = .ok (.iaload, 1) := by decide +kernel
theorem dX10_classFor_11 : decode cX10_classFor 11 = .ok (.if_icmp .ge 21, 3) := by decide +kernel
theorem dX10_classFor_14 : decode cX10_classFor 14 = .ok (.aload_n 0, 1) := by decide +kernel
theorem dX10_classFor_15 : decode cX10_classFor 15 = .ok (.getfield 32, 3) := by decide +kernel
theorem dX10_classFor_18 : decode cX10_classFor 18 = .ok (.iload_n 3, 1) := by decide +kernel
theorem dX10_classFor_19 : decode cX10_classFor 19 = .ok (.iaload, 1) := by decide +kernel
theorem dX10_classFor_20 : decode cX10_classFor 20 = .ok (.iload_n 1, 1) := by decide +kernel
theorem dX10_classFor_21 : decode cX10_classFor 21 = .ok (.if_icmp .gt 5, 3) := by decide +kernel
theorem dX10_classFor_24 : decode cX10_classFor 24 = .ok (.iload_n 3, 1) := by decide +kernel
theorem dX10_classFor_25 : decode cX10_classFor 25 = .ok (.istore_n 2, 1) := by decide +kernel
theorem dX10_classFor_26 : decode cX10_classFor 26 = .ok (.iinc 3 1, 3) := by decide +kernel
theorem dX10_classFor_29 : decode cX10_classFor 29 = .ok (.goto (-25), 3) := by decide +kernel
theorem dX10_classFor_32 : decode cX10_classFor 32 = .ok (.iload_n 2, 1) := by decide +kernel
theorem dX10_classFor_33 : decode cX10_classFor 33 = .ok (.ireturn, 1) := by decide +kernel
abbrev m_X10_classFor : MD := (yX10_classFor, cX10_classFor, 4, (some .int))

abbrev w_X10_classFor (g : GT) (h0 h1 h2 : Nat) (v0_0 v0_1 v0_2 v0_3 v0_4 v0_5 v0_6 v0_7 v0_8 v0_9 v0_11 v0_12 v0_13 v0_14 v0_15 v0_17 v0_18 v0_19 v0_20 v0_21 v0_22 v0_23 v0_24 v0_25 v0_26 v0_27 v0_28 v0_29 v0_30 v0_31 v0_32 v0_33 v0_34 v0_35 v0_36 v0_37 : Value) (basic1 classAxles2 : Nat → Int32) : va_W := [(h0, .inr (10, [v0_0, v0_1, v0_2, v0_3, v0_4, v0_5, v0_6, v0_7, v0_8, v0_9, .ref h1, v0_11, v0_12, v0_13, v0_14, v0_15, .ref h2, v0_17, v0_18, v0_19, v0_20, v0_21, v0_22, v0_23, v0_24, v0_25, v0_26, v0_27, v0_28, v0_29, v0_30, v0_31, v0_32, v0_33, v0_34, v0_35, v0_36, v0_37])), (h1, aI g 7 basic1), (h2, aI g 8 classAxles2)]
def f_X10_classFor_b26 (F : Nat) (k4 : (Int32 × Int32 × Int32) → Option (Int32)) (basic1 classAxles2 : Nat → Int32) (x1 x2 x3 : Int32) : Option (Int32) :=
  k4 (x1, x2, x3 + 1)
def f_X10_classFor_h4 (F : Nat) (basic1 classAxles2 : Nat → Int32) (k4 : (Int32 × Int32 × Int32) → Option (Int32)) (x1 x2 x3 : Int32) : Option (Int32) :=
  rd basic1 7 2 fun a1 =>
  if a1 ≤ x3 then
    some x2
  else
    rd classAxles2 8 x3 fun a3 =>
    if x1 < a3 then
      f_X10_classFor_b26 F k4 basic1 classAxles2 x1 x2 x3
    else
      f_X10_classFor_b26 F k4 basic1 classAxles2 x1 x3 x3
def f_X10_classFor_L4 (F : Nat) (basic1 classAxles2 : Nat → Int32) (z : Int32 × Int32 × Int32) : Option (Int32) := lp (fun k z => f_X10_classFor_h4 F basic1 classAxles2 k z.1 z.2.1 z.2.2) F z
def f_X10_classFor (F : Nat) (p1 : Int32) (basic1 classAxles2 : Nat → Int32) : Option (Int32) :=
  f_X10_classFor_L4 F basic1 classAxles2 (p1, (-1), 0)
set_option maxHeartbeats 4000000 in
set_option maxRecDepth 100000 in
theorem c_X10_classFor (l : Launch) (g : GT) (F : Nat) (h0 h1 h2 : Nat) (v0_0 v0_1 v0_2 v0_3 v0_4 v0_5 v0_6 v0_7 v0_8 v0_9 v0_11 v0_12 v0_13 v0_14 v0_15 v0_17 v0_18 v0_19 v0_20 v0_21 v0_22 v0_23 v0_24 v0_25 v0_26 v0_27 v0_28 v0_29 v0_30 v0_31 v0_32 v0_33 v0_34 v0_35 v0_36 v0_37 : Value) (p1 : Int32) (basic1 classAxles2 : Nat → Int32) (r : Int32) (sz : Nat) (hf : f_X10_classFor F p1 basic1 classAxles2 = some r) : CI l m_X10_classFor (rml 0 0 0) g (w_X10_classFor g h0 h1 h2 v0_0 v0_1 v0_2 v0_3 v0_4 v0_5 v0_6 v0_7 v0_8 v0_9 v0_11 v0_12 v0_13 v0_14 v0_15 v0_17 v0_18 v0_19 v0_20 v0_21 v0_22 v0_23 v0_24 v0_25 v0_26 v0_27 v0_28 v0_29 v0_30 v0_31 v0_32 v0_33 v0_34 v0_35 v0_36 v0_37 basic1 classAxles2) (fun _ => w_X10_classFor g h0 h1 h2 v0_0 v0_1 v0_2 v0_3 v0_4 v0_5 v0_6 v0_7 v0_8 v0_9 v0_11 v0_12 v0_13 v0_14 v0_15 v0_17 v0_18 v0_19 v0_20 v0_21 v0_22 v0_23 v0_24 v0_25 v0_26 v0_27 v0_28 v0_29 v0_30 v0_31 v0_32 v0_33 v0_34 v0_35 v0_36 v0_37 basic1 classAxles2) sz [.ref h0, .int p1] r := by
  refine en_i (by decide) (Nat.le_of_ble_eq_true rfl) (fun p e s m args below meth c A ls C w hl => ?_)
  have C : Cx p s m args meth c RX10 m_X10_classFor g A := C
  have hx := C.1
  have hb : c.code = cX10_classFor := C.2.1
  have hl : lv_has ls 4 [(0, .ref h0), (1, .int p1)] := hl
  obtain ⟨Q, hQ⟩ : ∃ Q, Q = QI below args s g A (fun _ => w_X10_classFor g h0 h1 h2 v0_0 v0_1 v0_2 v0_3 v0_4 v0_5 v0_6 v0_7 v0_8 v0_9 v0_11 v0_12 v0_13 v0_14 v0_15 v0_17 v0_18 v0_19 v0_20 v0_21 v0_22 v0_23 v0_24 v0_25 v0_26 v0_27 v0_28 v0_29 v0_30 v0_31 v0_32 v0_33 v0_34 v0_35 v0_36 v0_37 basic1 classAxles2) r 0 0 := ⟨_, rfl⟩
  suffices hW : W p l e (rml 0 0 0) s m args below meth c s.heap [] 0 0 Q (F0 m 0 ls []) from (by rw [hQ] at hW; exact hW)
  unfold f_X10_classFor at hf
  have L4 : ∀ (z : Int32 × Int32 × Int32), f_X10_classFor_L4 F basic1 classAxles2 z = some r → ∀ (H : Heap) (locs : List Loc) (ls : Array Slot), Wd g A (w_X10_classFor g h0 h1 h2 v0_0 v0_1 v0_2 v0_3 v0_4 v0_5 v0_6 v0_7 v0_8 v0_9 v0_11 v0_12 v0_13 v0_14 v0_15 v0_17 v0_18 v0_19 v0_20 v0_21 v0_22 v0_23 v0_24 v0_25 v0_26 v0_27 v0_28 v0_29 v0_30 v0_31 v0_32 v0_33 v0_34 v0_35 v0_36 v0_37 basic1 classAxles2) s.heap H locs → lv_has ls 4 [(0, .ref h0), (1, .int z.1), (2, .int z.2.1), (3, .int z.2.2)] → W p l e (rml 0 0 0) s m args below meth c H locs 0 0 Q (F0 m 4 ls []) := by
    intro z hf
    refine lp_W (r := r) (fun (z : Int32 × Int32 × Int32) => ∀ (H : Heap) (locs : List Loc) (ls : Array Slot), Wd g A (w_X10_classFor g h0 h1 h2 v0_0 v0_1 v0_2 v0_3 v0_4 v0_5 v0_6 v0_7 v0_8 v0_9 v0_11 v0_12 v0_13 v0_14 v0_15 v0_17 v0_18 v0_19 v0_20 v0_21 v0_22 v0_23 v0_24 v0_25 v0_26 v0_27 v0_28 v0_29 v0_30 v0_31 v0_32 v0_33 v0_34 v0_35 v0_36 v0_37 basic1 classAxles2) s.heap H locs → lv_has ls 4 [(0, .ref h0), (1, .int z.1), (2, .int z.2.1), (3, .int z.2.2)] → W p l e (rml 0 0 0) s m args below meth c H locs 0 0 Q (F0 m 4 ls [])) (fun k4 z ih4 hf => ?_) F z hf
    obtain ⟨x1, x2, x3⟩ := z
    intro H locs ls w hl
    try dsimp only at hf w hl ⊢
    unfold f_X10_classFor_h4 at hf
    have b26 : ∀ (x1 x2 x3 : Int32) (H : Heap) (locs : List Loc) (ls : Array Slot), f_X10_classFor_b26 F k4 basic1 classAxles2 x1 x2 x3 = some r → Wd g A (w_X10_classFor g h0 h1 h2 v0_0 v0_1 v0_2 v0_3 v0_4 v0_5 v0_6 v0_7 v0_8 v0_9 v0_11 v0_12 v0_13 v0_14 v0_15 v0_17 v0_18 v0_19 v0_20 v0_21 v0_22 v0_23 v0_24 v0_25 v0_26 v0_27 v0_28 v0_29 v0_30 v0_31 v0_32 v0_33 v0_34 v0_35 v0_36 v0_37 basic1 classAxles2) s.heap H locs → lv_has ls 4 [(0, .ref h0), (1, .int x1), (2, .int x2), (3, .int x3)] → W p l e (rml 0 0 0) s m args below meth c H locs 0 0 Q (F0 m 26 ls []) := by
      intro x1 x2 x3 H locs ls hf w hl
      unfold f_X10_classFor_b26 at hf
      refine lv_iinc (v := x3 + 1) (lv' := [(3, .int (x3 + 1)), (0, .ref h0), (1, .int x1), (2, .int x2)]) hx hb dX10_classFor_26 hl (k := 3) rfl rfl (by decide) rfl (fun ls hl => ?_)
      refine lv_goto (tgt := 4) hx hb dX10_classFor_29 (by decide) ?_
      exact ih4 (x1, x2, x3 + 1) hf _ _ _ w (lv_sub hl [1, 2, 3, 0] rfl)
    refine lv_iload_n hx hb dX10_classFor_4 rfl (lv_at hl 3 rfl) ?_
    refine lv_aload_n hx hb dX10_classFor_5 rfl (lv_at hl 0 rfl) ?_
    refine g_X10_13 C w 0 rfl rfl dX10_classFor_6 ?_
    refine lv_iconst (v := 2) hx hb dX10_classFor_9 (by decide) ?_
    obtain ⟨a1, hia1, haa1, hf⟩ := rd_some hf
    refine ial C w 1 rfl hia1 haa1 dX10_classFor_10 ?_
    refine lv_icmp_ge (tgt := 32) hx hb dX10_classFor_11 (by decide) (fun c2 => ?_) (fun c2 => ?_)
    · replace hf := it_t c2 hf
      refine lv_iload_n hx hb dX10_classFor_32 rfl (lv_at hl 2 rfl) ?_
      obtain e1 := tp1 hf
      rw [hQ]
      exact rt_i C w rfl (fun _ => 0) rfl e1 dX10_classFor_33
    · replace hf := it_f c2 hf
      refine lv_aload_n hx hb dX10_classFor_14 rfl (lv_at hl 0 rfl) ?_
      refine g_X10_32 C w 0 rfl rfl dX10_classFor_15 ?_
      refine lv_iload_n hx hb dX10_classFor_18 rfl (lv_at hl 3 rfl) ?_
      obtain ⟨a3, hia3, haa3, hf⟩ := rd_some hf
      refine ial C w 2 rfl hia3 haa3 dX10_classFor_19 ?_
      refine lv_iload_n hx hb dX10_classFor_20 rfl (lv_at hl 1 rfl) ?_
      refine lv_icmp_gt (tgt := 26) hx hb dX10_classFor_21 (by decide) (fun c4 => ?_) (fun c4 => ?_)
      · replace hf := it_t c4 hf
        exact b26 x1 x2 x3 _ _ _ hf w (lv_sub hl [0, 1, 2, 3] rfl)
      · replace hf := it_f c4 hf
        refine lv_iload_n hx hb dX10_classFor_24 rfl (lv_at hl 3 rfl) ?_
        refine lv_istore_n (lv' := [(2, .int x3), (0, .ref h0), (1, .int x1), (3, .int x3)]) hx hb dX10_classFor_25 rfl hl (by decide) rfl (fun ls hl => ?_)
        exact b26 x1 x3 x3 _ _ _ hf w (lv_sub hl [1, 2, 0, 3] rfl)
  refine lv_iconst (v := -1) hx hb dX10_classFor_0 (by decide) ?_
  refine lv_istore_n (lv' := [(2, .int (-1)), (0, .ref h0), (1, .int p1)]) hx hb dX10_classFor_1 rfl hl (by decide) rfl (fun ls hl => ?_)
  refine lv_iconst (v := 0) hx hb dX10_classFor_2 (by decide) ?_
  refine lv_istore_n (lv' := [(3, .int 0), (2, .int (-1)), (0, .ref h0), (1, .int p1)]) hx hb dX10_classFor_3 rfl hl (by decide) rfl (fun ls hl => ?_)
  exact L4 (p1, (-1), 0) hf _ _ _ w (lv_sub hl [2, 3, 1, 0] rfl)

theorem dX10_classOf_0 : decode cX10_classOf 0 = .ok (.aload_n 0, 1) := by decide +kernel
theorem dX10_classOf_1 : decode cX10_classOf 1 = .ok (.iconst 0, 1) := by decide +kernel
theorem dX10_classOf_2 : decode cX10_classOf 2 = .ok (.putfield 84, 3) := by decide +kernel
theorem dX10_classOf_5 : decode cX10_classOf 5 = .ok (.iload_n 1, 1) := by decide +kernel
theorem dX10_classOf_6 : decode cX10_classOf 6 = .ok (.i2l, 1) := by decide +kernel
theorem dX10_classOf_7 : decode cX10_classOf 7 = .ok (.ldc2_w 218, 3) := by decide +kernel
theorem dX10_classOf_10 : decode cX10_classOf 10 = .ok (.ldc2_w 220, 3) := by decide +kernel
theorem dX10_classOf_13 : decode cX10_classOf 13 = .ok (.invokestatic 115, 3) := by decide +kernel
theorem dX10_classOf_16 : decode cX10_classOf 16 = .ok (.ifCond .eq 11, 3) := by decide +kernel
theorem dX10_classOf_19 : decode cX10_classOf 19 = .ok (.aload_n 0, 1) := by decide +kernel
theorem dX10_classOf_20 : decode cX10_classOf 20 = .ok (.iload_n 1, 1) := by decide +kernel
theorem dX10_classOf_21 : decode cX10_classOf 21 = .ok (.invokevirtual 222, 3) := by decide +kernel
theorem dX10_classOf_24 : decode cX10_classOf 24 = .ok (.goto 8, 3) := by decide +kernel
theorem dX10_classOf_27 : decode cX10_classOf 27 = .ok (.aload_n 0, 1) := by decide +kernel
theorem dX10_classOf_28 : decode cX10_classOf 28 = .ok (.iconst 1, 1) := by decide +kernel
theorem dX10_classOf_29 : decode cX10_classOf 29 = .ok (.invokevirtual 202, 3) := by decide +kernel
theorem dX10_classOf_32 : decode cX10_classOf 32 = .ok (.ireturn, 1) := by decide +kernel
abbrev m_X10_classOf : MD := (yX10_classOf, cX10_classOf, 2, (some .int))
theorem q_1449 : Cond.constantLong RX10 218 2 ∈ TS := ts_t 1449 (by decide +kernel) (by decide +kernel)
theorem q_1450 : Cond.constantLong RX10 220 9 ∈ TS := ts_t 1450 (by decide +kernel) (by decide +kernel)
theorem q_1454 : Cond.code yX10_classFor cX10_classFor 4 (some .int) ∈ TS := ts_t 1454 (by decide +kernel) (by decide +kernel)
theorem q_1451 : Cond.methodLink RX10 222 yX10_classFor ∈ TS := ts_t 1451 (by decide +kernel) (by decide +kernel)
theorem q_1453 : Cond.instanceMethod yX10_classFor ∈ TS := ts_t 1453 (by decide +kernel) (by decide +kernel)
theorem qs_100 : Cond.selects yX10_classFor.cls yX10_classFor yX10_classFor ∈ TS := ts_s 100 (by decide +kernel) (by decide +kernel)
theorem k_X10_222 : LkV RX10 222 m_X10_classFor 1 := ⟨q_1451, q_1453, qs_100, ⟨q_11, q_1454, by decide, by decide, by decide +kernel⟩⟩
abbrev w_X10_classOf (g : GT) (h0 h1 h2 : Nat) (v0_1 v0_2 v0_3 v0_4 v0_5 v0_6 v0_7 v0_8 v0_9 v0_11 v0_12 v0_13 v0_14 v0_15 v0_17 v0_18 v0_19 v0_20 v0_21 v0_22 v0_23 v0_24 v0_25 v0_26 v0_27 v0_28 v0_29 v0_30 v0_31 v0_32 v0_33 v0_34 v0_35 v0_36 v0_37 : Value) (thrown0 : Int32) (basic1 classAxles2 : Nat → Int32) : va_W := [(h0, .inr (10, [.int thrown0, v0_1, v0_2, v0_3, v0_4, v0_5, v0_6, v0_7, v0_8, v0_9, .ref h1, v0_11, v0_12, v0_13, v0_14, v0_15, .ref h2, v0_17, v0_18, v0_19, v0_20, v0_21, v0_22, v0_23, v0_24, v0_25, v0_26, v0_27, v0_28, v0_29, v0_30, v0_31, v0_32, v0_33, v0_34, v0_35, v0_36, v0_37])), (h1, aI g 7 basic1), (h2, aI g 8 classAxles2)]
def f_X10_classOf_b32 (F : Nat) (basic1 classAxles2 : Nat → Int32) (s0 thrown0 : Int32) : Option (Int32 × Int32) :=
  some (s0, thrown0)
def f_X10_classOf (F : Nat) (p1 thrown0 : Int32) (basic1 classAxles2 : Nat → Int32) : Option (Int32 × Int32) :=
  bd1 (f_X10_within F p1.toInt64 2 9) fun r1 =>
  if r1 = 0 then
    bd2 (f_X10_fail F 1 0) fun r4 o5 =>
    f_X10_classOf_b32 F basic1 classAxles2 r4 o5
  else
    bd1 (f_X10_classFor F p1 basic1 classAxles2) fun r7 =>
    f_X10_classOf_b32 F basic1 classAxles2 r7 0
set_option maxHeartbeats 4000000 in
set_option maxRecDepth 100000 in
theorem c_X10_classOf (l : Launch) (g : GT) (F : Nat) (h0 h1 h2 : Nat) (v0_1 v0_2 v0_3 v0_4 v0_5 v0_6 v0_7 v0_8 v0_9 v0_11 v0_12 v0_13 v0_14 v0_15 v0_17 v0_18 v0_19 v0_20 v0_21 v0_22 v0_23 v0_24 v0_25 v0_26 v0_27 v0_28 v0_29 v0_30 v0_31 v0_32 v0_33 v0_34 v0_35 v0_36 v0_37 : Value) (p1 thrown0 : Int32) (basic1 classAxles2 : Nat → Int32) (r o_thrown0 : Int32) (sz : Nat) (hf : f_X10_classOf F p1 thrown0 basic1 classAxles2 = some (r, o_thrown0)) : CI l m_X10_classOf (rml 1 0 0) g (w_X10_classOf g h0 h1 h2 v0_1 v0_2 v0_3 v0_4 v0_5 v0_6 v0_7 v0_8 v0_9 v0_11 v0_12 v0_13 v0_14 v0_15 v0_17 v0_18 v0_19 v0_20 v0_21 v0_22 v0_23 v0_24 v0_25 v0_26 v0_27 v0_28 v0_29 v0_30 v0_31 v0_32 v0_33 v0_34 v0_35 v0_36 v0_37 thrown0 basic1 classAxles2) (fun _ => w_X10_classOf g h0 h1 h2 v0_1 v0_2 v0_3 v0_4 v0_5 v0_6 v0_7 v0_8 v0_9 v0_11 v0_12 v0_13 v0_14 v0_15 v0_17 v0_18 v0_19 v0_20 v0_21 v0_22 v0_23 v0_24 v0_25 v0_26 v0_27 v0_28 v0_29 v0_30 v0_31 v0_32 v0_33 v0_34 v0_35 v0_36 v0_37 o_thrown0 basic1 classAxles2) sz [.ref h0, .int p1] r := by
  refine en_i (by decide) (Nat.le_of_ble_eq_true rfl) (fun p e s m args below meth c A ls C w hl => ?_)
  have C : Cx p s m args meth c RX10 m_X10_classOf g A := C
  have hx := C.1
  have hb : c.code = cX10_classOf := C.2.1
  have hl : lv_has ls 2 [(0, .ref h0), (1, .int p1)] := hl
  obtain ⟨Q, hQ⟩ : ∃ Q, Q = QI below args s g A (fun _ => w_X10_classOf g h0 h1 h2 v0_1 v0_2 v0_3 v0_4 v0_5 v0_6 v0_7 v0_8 v0_9 v0_11 v0_12 v0_13 v0_14 v0_15 v0_17 v0_18 v0_19 v0_20 v0_21 v0_22 v0_23 v0_24 v0_25 v0_26 v0_27 v0_28 v0_29 v0_30 v0_31 v0_32 v0_33 v0_34 v0_35 v0_36 v0_37 o_thrown0 basic1 classAxles2) r 0 0 := ⟨_, rfl⟩
  suffices hW : W p l e (rml 1 0 0) s m args below meth c s.heap [] 0 0 Q (F0 m 0 ls []) from (by rw [hQ] at hW; exact hW)
  unfold f_X10_classOf at hf
  have b32 : ∀ (s0 thrown0 : Int32) (H : Heap) (locs : List Loc) (ls : Array Slot), f_X10_classOf_b32 F basic1 classAxles2 s0 thrown0 = some (r, o_thrown0) → Wd g A (w_X10_classOf g h0 h1 h2 v0_1 v0_2 v0_3 v0_4 v0_5 v0_6 v0_7 v0_8 v0_9 v0_11 v0_12 v0_13 v0_14 v0_15 v0_17 v0_18 v0_19 v0_20 v0_21 v0_22 v0_23 v0_24 v0_25 v0_26 v0_27 v0_28 v0_29 v0_30 v0_31 v0_32 v0_33 v0_34 v0_35 v0_36 v0_37 thrown0 basic1 classAxles2) s.heap H locs → lv_has ls 2 [] → W p l e (rml 1 0 0) s m args below meth c H locs 0 0 Q (F0 m 32 ls [.int s0]) := by
    intro s0 thrown0 H locs ls hf w hl
    unfold f_X10_classOf_b32 at hf
    obtain ⟨e1, e2⟩ := tp2 hf
    rw [hQ]
    exact rt_i C w rfl (fun _ => 0) (by rw [← e2]) e1 dX10_classOf_32
  refine lv_aload_n hx hb dX10_classOf_0 rfl (lv_at hl 0 rfl) ?_
  refine lv_iconst (v := 0) hx hb dX10_classOf_1 (by decide) ?_
  refine p_X10_84 C w 0 rfl (Nat.le_of_ble_eq_true rfl) (ws2 := w_X10_classOf g h0 h1 h2 v0_1 v0_2 v0_3 v0_4 v0_5 v0_6 v0_7 v0_8 v0_9 v0_11 v0_12 v0_13 v0_14 v0_15 v0_17 v0_18 v0_19 v0_20 v0_21 v0_22 v0_23 v0_24 v0_25 v0_26 v0_27 v0_28 v0_29 v0_30 v0_31 v0_32 v0_33 v0_34 v0_35 v0_36 v0_37 0 basic1 classAxles2) rfl dX10_classOf_2 (fun H locs w => ?_)
  refine lv_iload_n hx hb dX10_classOf_5 rfl (lv_at hl 1 rfl) ?_
  refine lv_i2l (v := p1.toInt64) hx hb dX10_classOf_6 rfl ?_
  refine lv_ldc2 (v := 2) hx hb C.2.2.2.1 (C.2.2.2.2.1 _ q_1449) dX10_classOf_7 ?_
  refine lv_ldc2 (v := 9) hx hb C.2.2.2.1 (C.2.2.2.2.1 _ q_1450) dX10_classOf_10 ?_
  obtain ⟨r1, hc2, hf⟩ := bd1_some hf
  refine ca_iS C w (wn := fun _ => w_X10_classOf g h0 h1 h2 v0_1 v0_2 v0_3 v0_4 v0_5 v0_6 v0_7 v0_8 v0_9 v0_11 v0_12 v0_13 v0_14 v0_15 v0_17 v0_18 v0_19 v0_20 v0_21 v0_22 v0_23 v0_24 v0_25 v0_26 v0_27 v0_28 v0_29 v0_30 v0_31 v0_32 v0_33 v0_34 v0_35 v0_36 v0_37 0 basic1 classAxles2) (pm_k [false, false, false] rfl rfl (fun _ => Nat.le_of_ble_eq_true rfl) (fun _ => rfl)) (c_X10_within l g F p1.toInt64 2 9 r1 _ hc2) k_X10_115 (rm_le (by decide) (by decide)) rfl hl.1 rfl (Nat.le_of_ble_eq_true rfl) dX10_classOf_13 ⟨Nat.le_of_ble_eq_true rfl, Nat.le_of_ble_eq_true rfl⟩ (cells2 := 0) (slots2 := 0) ⟨rfl, rfl⟩ (fun _ H locs w => ?_)
  refine lv_if_eq (tgt := 27) hx hb dX10_classOf_16 (by decide) (fun c3 => ?_) (fun c3 => ?_)
  · replace hf := it_t c3 hf
    refine lv_aload_n hx hb dX10_classOf_27 rfl (lv_at hl 0 rfl) ?_
    refine lv_iconst (v := 1) hx hb dX10_classOf_28 (by decide) ?_
    obtain ⟨r4, o5, hc6, hf⟩ := bd2_some hf
    refine ca_iV C w (wn := fun _ => w_X10_classOf g h0 h1 h2 v0_1 v0_2 v0_3 v0_4 v0_5 v0_6 v0_7 v0_8 v0_9 v0_11 v0_12 v0_13 v0_14 v0_15 v0_17 v0_18 v0_19 v0_20 v0_21 v0_22 v0_23 v0_24 v0_25 v0_26 v0_27 v0_28 v0_29 v0_30 v0_31 v0_32 v0_33 v0_34 v0_35 v0_36 v0_37 o5 basic1 classAxles2) (pm_k [true, false, false] rfl rfl (fun _ => Nat.le_of_ble_eq_true rfl) (fun _ => rfl)) (c_X10_fail l g F h0 v0_1 v0_2 v0_3 v0_4 v0_5 v0_6 v0_7 v0_8 v0_9 (.ref h1) v0_11 v0_12 v0_13 v0_14 v0_15 (.ref h2) v0_17 v0_18 v0_19 v0_20 v0_21 v0_22 v0_23 v0_24 v0_25 v0_26 v0_27 v0_28 v0_29 v0_30 v0_31 v0_32 v0_33 v0_34 v0_35 v0_36 v0_37 1 0 r4 o5 _ hc6) k_X10_202 (rm_le (by decide) (by decide)) 0 10 rfl rfl rfl rfl hl.1 rfl (Nat.le_of_ble_eq_true rfl) dX10_classOf_29 ⟨Nat.le_of_ble_eq_true rfl, Nat.le_of_ble_eq_true rfl⟩ (cells2 := 0) (slots2 := 0) ⟨rfl, rfl⟩ (fun _ H locs w => ?_)
    exact b32 r4 o5 _ _ _ hf w (lv_sub hl [] rfl)
  · replace hf := it_f c3 hf
    refine lv_aload_n hx hb dX10_classOf_19 rfl (lv_at hl 0 rfl) ?_
    refine lv_iload_n hx hb dX10_classOf_20 rfl (lv_at hl 1 rfl) ?_
    obtain ⟨r7, hc8, hf⟩ := bd1_some hf
    refine ca_iV C w (wn := fun _ => w_X10_classOf g h0 h1 h2 v0_1 v0_2 v0_3 v0_4 v0_5 v0_6 v0_7 v0_8 v0_9 v0_11 v0_12 v0_13 v0_14 v0_15 v0_17 v0_18 v0_19 v0_20 v0_21 v0_22 v0_23 v0_24 v0_25 v0_26 v0_27 v0_28 v0_29 v0_30 v0_31 v0_32 v0_33 v0_34 v0_35 v0_36 v0_37 0 basic1 classAxles2) (pm_k [true, true, true] rfl rfl (fun _ => Nat.le_of_ble_eq_true rfl) (fun _ => rfl)) (c_X10_classFor l g F h0 h1 h2 (.int 0) v0_1 v0_2 v0_3 v0_4 v0_5 v0_6 v0_7 v0_8 v0_9 v0_11 v0_12 v0_13 v0_14 v0_15 v0_17 v0_18 v0_19 v0_20 v0_21 v0_22 v0_23 v0_24 v0_25 v0_26 v0_27 v0_28 v0_29 v0_30 v0_31 v0_32 v0_33 v0_34 v0_35 v0_36 v0_37 p1 basic1 classAxles2 r7 _ hc8) k_X10_222 (rm_le (by decide) (by decide)) 0 10 rfl rfl rfl rfl hl.1 rfl (Nat.le_of_ble_eq_true rfl) dX10_classOf_21 ⟨Nat.le_of_ble_eq_true rfl, Nat.le_of_ble_eq_true rfl⟩ (cells2 := 0) (slots2 := 0) ⟨rfl, rfl⟩ (fun _ H locs w => ?_)
    refine lv_goto (tgt := 32) hx hb dX10_classOf_24 (by decide) ?_
    exact b32 r7 0 _ _ _ hf w (lv_sub hl [] rfl)
