theorem dX10_once_0 : decode cX10_once 0 = .ok (.aload_n 0, 1) := by decide +kernel
theorem dX10_once_1 : decode cX10_once 1 = .ok (.aload_n 0, 1) := by decide +kernel
theorem dX10_once_2 : decode cX10_once 2 = .ok (.getfield 165, 3) := by decide +kernel
theorem dX10_once_5 : decode cX10_once 5 = .ok (.iload_n 1, 1) := by decide +kernel
theorem dX10_once_6 : decode cX10_once 6 = .ok (.ishr, 1) := by decide +kernel
theorem dX10_once_7 : decode cX10_once 7 = .ok (.iconst 1, 1) := by decide +kernel
theorem dX10_once_8 : decode cX10_once 8 = .ok (.iand, 1) := by decide +kernel
theorem dX10_once_9 : decode cX10_once 9 = .ok (.ifCond .ne 7, 3) := by decide +kernel
theorem dX10_once_12 : decode cX10_once 12 = .ok (.iconst 1, 1) := by decide +kernel
theorem dX10_once_13 : decode cX10_once 13 = .ok (.goto 4, 3) := by decide +kernel
theorem dX10_once_16 : decode cX10_once 16 = .ok (.iconst 0, 1) := by decide +kernel
theorem dX10_once_17 : decode cX10_once 17 = .ok (.iconst 3, 1) := by decide +kernel
theorem dX10_once_18 : decode cX10_once 18 = .ok (.invokevirtual 141, 3) := by decide +kernel
theorem dX10_once_21 : decode cX10_once 21 = .ok (.pop, 1) := by decide +kernel
theorem dX10_once_22 : decode cX10_once 22 = .ok (.aload_n 0, 1) := by decide +kernel
theorem dX10_once_23 : decode cX10_once 23 = .ok (.dup, 1) := by decide +kernel
theorem dX10_once_24 : decode cX10_once 24 = .ok (.getfield 165, 3) := by decide +kernel
theorem dX10_once_27 : decode cX10_once 27 = .ok (.iconst 1, 1) := by decide +kernel
theorem dX10_once_28 : decode cX10_once 28 = .ok (.iload_n 1, 1) := by decide +kernel
theorem dX10_once_29 : decode cX10_once 29 = .ok (.ishl, 1) := by decide +kernel
theorem dX10_once_30 : decode cX10_once 30 = .ok (.ior, 1) := by decide +kernel
theorem dX10_once_31 : decode cX10_once 31 = .ok (.putfield 165, 3) := by decide +kernel
theorem dX10_once_34 : decode cX10_once 34 = .ok (.aload_n 0, 1) := by decide +kernel
theorem dX10_once_35 : decode cX10_once 35 = .ok (.getfield 126, 3) := by decide +kernel
theorem dX10_once_38 : decode cX10_once 38 = .ok (.ifCond .eq 5, 3) := by decide +kernel
theorem dX10_once_41 : decode cX10_once 41 = .ok (.iconst 0, 1) := by decide +kernel
theorem dX10_once_42 : decode cX10_once 42 = .ok (.ireturn, 1) := by decide +kernel
theorem dX10_once_43 : decode cX10_once 43 = .ok (.aload_n 0, 1) := by decide +kernel
theorem dX10_once_44 : decode cX10_once 44 = .ok (.invokevirtual 145, 3) := by decide +kernel
theorem dX10_once_47 : decode cX10_once 47 = .ok (.aload_n 0, 1) := by decide +kernel
theorem dX10_once_48 : decode cX10_once 48 = .ok (.iload_n 2, 1) := by decide +kernel
theorem dX10_once_49 : decode cX10_once 49 = .ok (.iload_n 3, 1) := by decide +kernel
theorem dX10_once_50 : decode cX10_once 50 = .ok (.invokevirtual 152, 3) := by decide +kernel
theorem dX10_once_53 : decode cX10_once 53 = .ok (.ireturn, 1) := by decide +kernel
abbrev m_X10_once : MD := (yX10_once, cX10_once, 4, (some .int))
theorem g_X10_165 {p : Program} {l : Launch} {e : Env} {R : Room} {s : State} {m : MethodId} {args : Array Value} {below : List Frame} {meth : Method} {c : Code} {H : Heap} {locs : List Loc} {cells slots : Nat} {Q : State → Prop} {d : MD} {g : GT} {A : Nat → Prop} {ws : va_W} {pc : Nat} {ls : Array Slot} {rest : List Value} (C : Cx p s m args meth c RX10 d g A) (w : Wd g A ws s.heap H locs) (q0 : Nat) {a : Nat} {fs : List Value} {v : Value} (he : ws[q0]? = some (a, .inr (10, fs))) (hv : fs[20]? = some v) (hd : decode d.2.1 pc = .ok (.getfield 165, 3)) (kk : W p l e R s m args below meth c H locs cells slots Q (F0 m (pc + 3) ls (v :: rest))) : W p l e R s m args below meth c H locs cells slots Q (F0 m pc ls (.ref a :: rest)) := fg C w inX10s (ref := RX10) rfl 20 (by decide) (ts_t (w := Cond.fieldLink RX10 165 RX10 (TX10 20).2.1 (TX10 20).2.2.1) 1242 (by decide +kernel) (by decide +kernel)) rfl q0 he hv hd kk
theorem p_X10_165 {p : Program} {l : Launch} {e : Env} {R : Room} {s : State} {m : MethodId} {args : Array Value} {below : List Frame} {meth : Method} {c : Code} {H : Heap} {locs : List Loc} {cells slots : Nat} {Q : State → Prop} {d : MD} {g : GT} {A : Nat → Prop} {ws : va_W} {pc : Nat} {ls : Array Slot} {rest : List Value} (C : Cx p s m args meth c RX10 d g A) (w : Wd g A ws s.heap H locs) (q0 : Nat) {a : Nat} {fs : List Value} {x : Int32} (he : ws[q0]? = some (a, .inr (10, fs))) (hlt : 20 < fs.length) {ws2 : va_W} (h2 : ws.set q0 (a, .inr (10, fs.set 20 (.int x))) = ws2) (hd : decode d.2.1 pc = .ok (.putfield 165, 3)) (kk : ∀ (H1 : Heap) (locs1 : List Loc), Wd g A ws2 s.heap H1 locs1 → W p l e R s m args below meth c H1 locs1 cells slots Q (F0 m (pc + 3) ls rest)) : W p l e R s m args below meth c H locs cells slots Q (F0 m pc ls (.int x :: .ref a :: rest)) := fp C w inX10s tyX10_ok nmX10 (ref := RX10) rfl 20 (by decide) (ts_t (w := Cond.fieldLink RX10 165 RX10 (TX10 20).2.1 (TX10 20).2.2.1) 1242 (by decide +kernel) (by decide +kernel)) rfl rfl q0 he rfl rfl hlt h2 hd kk
abbrev w_X10_once (g : GT) (h0 h1 : Nat) (v0_0 v0_2 v0_10 v0_11 v0_12 v0_13 v0_14 v0_15 v0_16 v0_17 v0_18 v0_19 v0_21 v0_22 v0_23 v0_24 v0_25 v0_26 v0_27 v0_28 v0_29 v0_30 v0_31 v0_32 v0_33 v0_34 v0_35 v0_36 v0_37 : Value) (textLength0 tokenStart0 tokenEnd0 token0 value0 error0 errorOffset0 given0 : Int32) (buffer1 : Nat → Int32) : va_W := [(h0, .inr (10, [v0_0, .ref h1, v0_2, .int textLength0, .int tokenStart0, .int tokenEnd0, .int token0, .int value0, .int error0, .int errorOffset0, v0_10, v0_11, v0_12, v0_13, v0_14, v0_15, v0_16, v0_17, v0_18, v0_19, .int given0, v0_21, v0_22, v0_23, v0_24, v0_25, v0_26, v0_27, v0_28, v0_29, v0_30, v0_31, v0_32, v0_33, v0_34, v0_35, v0_36, v0_37])), (h1, aB g 900 buffer1)]
def f_X10_once_b17 (F : Nat) (textLength0 : Int32) (buffer1 : Nat → Int32) (x1 x2 x3 s0 tokenStart0 tokenEnd0 token0 value0 error0 errorOffset0 given0 : Int32) : Option (Int32 × Int32 × Int32 × Int32 × Int32 × Int32 × Int32 × Int32) :=
  bd3 (f_X10_must F s0 3 tokenStart0 error0 errorOffset0) fun r1 o2 o3 =>
  if o2 = 0 then
    bd4 (f_X10_nextToken F textLength0 tokenStart0 tokenEnd0 token0 value0 buffer1) fun o6 o7 o8 o9 =>
    bd7 (f_X10_number F x2 x3 textLength0 o6 o7 o8 o9 o2 o3 buffer1) fun r11 o12 o13 o14 o15 o16 o17 =>
    some (r11, o12, o13, o14, o15, o16, o17, given0 ||| (1 <<< (x1 &&& 31)))
  else
    some (0, tokenStart0, tokenEnd0, token0, value0, o2, o3, given0 ||| (1 <<< (x1 &&& 31)))
def f_X10_once (F : Nat) (p1 p2 p3 textLength0 tokenStart0 tokenEnd0 token0 value0 error0 errorOffset0 given0 : Int32) (buffer1 : Nat → Int32) : Option (Int32 × Int32 × Int32 × Int32 × Int32 × Int32 × Int32 × Int32) :=
  if ((given0 >>> (p1 &&& 31)) &&& 1) = 0 then
    f_X10_once_b17 F textLength0 buffer1 p1 p2 p3 1 tokenStart0 tokenEnd0 token0 value0 error0 errorOffset0 given0
  else
    f_X10_once_b17 F textLength0 buffer1 p1 p2 p3 0 tokenStart0 tokenEnd0 token0 value0 error0 errorOffset0 given0
set_option maxHeartbeats 4000000 in
set_option maxRecDepth 100000 in
theorem c_X10_once (l : Launch) (g : GT) (F : Nat) (h0 h1 : Nat) (v0_0 v0_2 v0_10 v0_11 v0_12 v0_13 v0_14 v0_15 v0_16 v0_17 v0_18 v0_19 v0_21 v0_22 v0_23 v0_24 v0_25 v0_26 v0_27 v0_28 v0_29 v0_30 v0_31 v0_32 v0_33 v0_34 v0_35 v0_36 v0_37 : Value) (p1 p2 p3 textLength0 tokenStart0 tokenEnd0 token0 value0 error0 errorOffset0 given0 : Int32) (buffer1 : Nat → Int32) (r o_tokenStart0 o_tokenEnd0 o_token0 o_value0 o_error0 o_errorOffset0 o_given0 : Int32) (sz : Nat) (hf : f_X10_once F p1 p2 p3 textLength0 tokenStart0 tokenEnd0 token0 value0 error0 errorOffset0 given0 buffer1 = some (r, o_tokenStart0, o_tokenEnd0, o_token0, o_value0, o_error0, o_errorOffset0, o_given0)) : CI l m_X10_once (rml 3 0 0) g (w_X10_once g h0 h1 v0_0 v0_2 v0_10 v0_11 v0_12 v0_13 v0_14 v0_15 v0_16 v0_17 v0_18 v0_19 v0_21 v0_22 v0_23 v0_24 v0_25 v0_26 v0_27 v0_28 v0_29 v0_30 v0_31 v0_32 v0_33 v0_34 v0_35 v0_36 v0_37 textLength0 tokenStart0 tokenEnd0 token0 value0 error0 errorOffset0 given0 buffer1) (fun _ => w_X10_once g h0 h1 v0_0 v0_2 v0_10 v0_11 v0_12 v0_13 v0_14 v0_15 v0_16 v0_17 v0_18 v0_19 v0_21 v0_22 v0_23 v0_24 v0_25 v0_26 v0_27 v0_28 v0_29 v0_30 v0_31 v0_32 v0_33 v0_34 v0_35 v0_36 v0_37 textLength0 o_tokenStart0 o_tokenEnd0 o_token0 o_value0 o_error0 o_errorOffset0 o_given0 buffer1) sz [.ref h0, .int p1, .int p2, .int p3] r := by
  refine en_i (by decide) (Nat.le_of_ble_eq_true rfl) (fun p e s m args below meth c A ls C w hl => ?_)
  have C : Cx p s m args meth c RX10 m_X10_once g A := C
  have hx := C.1
  have hb : c.code = cX10_once := C.2.1
  have hl : lv_has ls 4 [(0, .ref h0), (1, .int p1), (2, .int p2), (3, .int p3)] := hl
  obtain ⟨Q, hQ⟩ : ∃ Q, Q = QI below args s g A (fun _ => w_X10_once g h0 h1 v0_0 v0_2 v0_10 v0_11 v0_12 v0_13 v0_14 v0_15 v0_16 v0_17 v0_18 v0_19 v0_21 v0_22 v0_23 v0_24 v0_25 v0_26 v0_27 v0_28 v0_29 v0_30 v0_31 v0_32 v0_33 v0_34 v0_35 v0_36 v0_37 textLength0 o_tokenStart0 o_tokenEnd0 o_token0 o_value0 o_error0 o_errorOffset0 o_given0 buffer1) r 0 0 := ⟨_, rfl⟩
  suffices hW : W p l e (rml 3 0 0) s m args below meth c s.heap [] 0 0 Q (F0 m 0 ls []) from (by rw [hQ] at hW; exact hW)
  unfold f_X10_once at hf
  have b17 : ∀ (x1 x2 x3 s0 tokenStart0 tokenEnd0 token0 value0 error0 errorOffset0 given0 : Int32) (H : Heap) (locs : List Loc) (ls : Array Slot), f_X10_once_b17 F textLength0 buffer1 x1 x2 x3 s0 tokenStart0 tokenEnd0 token0 value0 error0 errorOffset0 given0 = some (r, o_tokenStart0, o_tokenEnd0, o_token0, o_value0, o_error0, o_errorOffset0, o_given0) → Wd g A (w_X10_once g h0 h1 v0_0 v0_2 v0_10 v0_11 v0_12 v0_13 v0_14 v0_15 v0_16 v0_17 v0_18 v0_19 v0_21 v0_22 v0_23 v0_24 v0_25 v0_26 v0_27 v0_28 v0_29 v0_30 v0_31 v0_32 v0_33 v0_34 v0_35 v0_36 v0_37 textLength0 tokenStart0 tokenEnd0 token0 value0 error0 errorOffset0 given0 buffer1) s.heap H locs → lv_has ls 4 [(0, .ref h0), (1, .int x1), (2, .int x2), (3, .int x3)] → W p l e (rml 3 0 0) s m args below meth c H locs 0 0 Q (F0 m 17 ls [.int s0, .ref h0]) := by
    intro x1 x2 x3 s0 tokenStart0 tokenEnd0 token0 value0 error0 errorOffset0 given0 H locs ls hf w hl
    unfold f_X10_once_b17 at hf
    refine lv_iconst (v := 3) hx hb dX10_once_17 (by decide) ?_
    obtain ⟨r1, o2, o3, hc4, hf⟩ := bd3_some hf
    refine ca_iV C w [0] [1] [1, 0] (wr := pk (w_X10_once g h0 h1 v0_0 v0_2 v0_10 v0_11 v0_12 v0_13 v0_14 v0_15 v0_16 v0_17 v0_18 v0_19 v0_21 v0_22 v0_23 v0_24 v0_25 v0_26 v0_27 v0_28 v0_29 v0_30 v0_31 v0_32 v0_33 v0_34 v0_35 v0_36 v0_37 textLength0 tokenStart0 tokenEnd0 token0 value0 error0 errorOffset0 given0 buffer1) [1]) (wn := fun _ => w_X10_once g h0 h1 v0_0 v0_2 v0_10 v0_11 v0_12 v0_13 v0_14 v0_15 v0_16 v0_17 v0_18 v0_19 v0_21 v0_22 v0_23 v0_24 v0_25 v0_26 v0_27 v0_28 v0_29 v0_30 v0_31 v0_32 v0_33 v0_34 v0_35 v0_36 v0_37 textLength0 tokenStart0 tokenEnd0 token0 value0 o2 o3 given0 buffer1) ⟨rfl, rfl, rfl, rfl, by decide, rfl, fun _ => rfl⟩ (c_X10_must l g F h0 v0_0 (.ref h1) v0_2 (.int textLength0) (.int tokenEnd0) (.int token0) (.int value0) v0_10 v0_11 v0_12 v0_13 v0_14 v0_15 v0_16 v0_17 v0_18 v0_19 (.int given0) v0_21 v0_22 v0_23 v0_24 v0_25 v0_26 v0_27 v0_28 v0_29 v0_30 v0_31 v0_32 v0_33 v0_34 v0_35 v0_36 v0_37 s0 3 tokenStart0 error0 errorOffset0 r1 o2 o3 _ hc4) k_X10_141 (rm_le (by decide) (by decide)) 0 10 rfl rfl rfl rfl hl.1 rfl (Nat.le_of_ble_eq_true rfl) dX10_once_18 ⟨Nat.le_of_ble_eq_true rfl, Nat.le_of_ble_eq_true rfl⟩ (cells2 := 0) (slots2 := 0) ⟨rfl, rfl⟩ (fun _ H locs w => ?_)
    refine lv_pop hx hb dX10_once_21 rfl ?_
    refine lv_aload_n hx hb dX10_once_22 rfl (lv_at hl 0 rfl) ?_
    refine lv_dup hx hb dX10_once_23 rfl ?_
    refine g_X10_165 C w 0 rfl rfl dX10_once_24 ?_
    refine lv_iconst (v := 1) hx hb dX10_once_27 (by decide) ?_
    refine lv_iload_n hx hb dX10_once_28 rfl (lv_at hl 1 rfl) ?_
    refine lv_ishl hx hb dX10_once_29 ?_
    refine lv_ior hx hb dX10_once_30 ?_
    refine p_X10_165 C w 0 rfl (Nat.le_of_ble_eq_true rfl) (ws2 := w_X10_once g h0 h1 v0_0 v0_2 v0_10 v0_11 v0_12 v0_13 v0_14 v0_15 v0_16 v0_17 v0_18 v0_19 v0_21 v0_22 v0_23 v0_24 v0_25 v0_26 v0_27 v0_28 v0_29 v0_30 v0_31 v0_32 v0_33 v0_34 v0_35 v0_36 v0_37 textLength0 tokenStart0 tokenEnd0 token0 value0 o2 o3 (given0 ||| (1 <<< (x1 &&& 31))) buffer1) rfl dX10_once_31 (fun H locs w => ?_)
    refine lv_aload_n hx hb dX10_once_34 rfl (lv_at hl 0 rfl) ?_
    refine g_X10_126 C w 0 rfl rfl dX10_once_35 ?_
    refine lv_if_eq (tgt := 43) hx hb dX10_once_38 (by decide) (fun c5 => ?_) (fun c5 => ?_)
    · replace hf := it_t c5 hf
      refine lv_aload_n hx hb dX10_once_43 rfl (lv_at hl 0 rfl) ?_
      obtain ⟨o6, o7, o8, o9, hc10, hf⟩ := bd4_some hf
      refine ca_vV C w [0, 1] [] [0, 1] (wr := pk (w_X10_once g h0 h1 v0_0 v0_2 v0_10 v0_11 v0_12 v0_13 v0_14 v0_15 v0_16 v0_17 v0_18 v0_19 v0_21 v0_22 v0_23 v0_24 v0_25 v0_26 v0_27 v0_28 v0_29 v0_30 v0_31 v0_32 v0_33 v0_34 v0_35 v0_36 v0_37 textLength0 tokenStart0 tokenEnd0 token0 value0 o2 o3 (given0 ||| (1 <<< (x1 &&& 31))) buffer1) []) (wn := fun _ => w_X10_once g h0 h1 v0_0 v0_2 v0_10 v0_11 v0_12 v0_13 v0_14 v0_15 v0_16 v0_17 v0_18 v0_19 v0_21 v0_22 v0_23 v0_24 v0_25 v0_26 v0_27 v0_28 v0_29 v0_30 v0_31 v0_32 v0_33 v0_34 v0_35 v0_36 v0_37 textLength0 o6 o7 o8 o9 o2 o3 (given0 ||| (1 <<< (x1 &&& 31))) buffer1) ⟨rfl, rfl, rfl, rfl, by decide, rfl, fun _ => rfl⟩ (c_X10_nextToken l g F h0 h1 v0_0 v0_2 (.int o2) (.int o3) v0_10 v0_11 v0_12 v0_13 v0_14 v0_15 v0_16 v0_17 v0_18 v0_19 (.int (given0 ||| (1 <<< (x1 &&& 31)))) v0_21 v0_22 v0_23 v0_24 v0_25 v0_26 v0_27 v0_28 v0_29 v0_30 v0_31 v0_32 v0_33 v0_34 v0_35 v0_36 v0_37 textLength0 tokenStart0 tokenEnd0 token0 value0 buffer1 o6 o7 o8 o9 _ hc10) k_X10_145 (rm_le (by decide) (by decide)) 0 10 rfl rfl rfl rfl hl.1 rfl (Nat.le_of_ble_eq_true rfl) dX10_once_44 ⟨Nat.le_of_ble_eq_true rfl, Nat.le_of_ble_eq_true rfl⟩ (cells2 := 0) (slots2 := 0) ⟨rfl, rfl⟩ (fun _ H locs w => ?_)
      refine lv_aload_n hx hb dX10_once_47 rfl (lv_at hl 0 rfl) ?_
      refine lv_iload_n hx hb dX10_once_48 rfl (lv_at hl 2 rfl) ?_
      refine lv_iload_n hx hb dX10_once_49 rfl (lv_at hl 3 rfl) ?_
      obtain ⟨r11, o12, o13, o14, o15, o16, o17, hc18, hf⟩ := bd7_some hf
      refine ca_iV C w [0, 1] [] [0, 1] (wr := pk (w_X10_once g h0 h1 v0_0 v0_2 v0_10 v0_11 v0_12 v0_13 v0_14 v0_15 v0_16 v0_17 v0_18 v0_19 v0_21 v0_22 v0_23 v0_24 v0_25 v0_26 v0_27 v0_28 v0_29 v0_30 v0_31 v0_32 v0_33 v0_34 v0_35 v0_36 v0_37 textLength0 o6 o7 o8 o9 o2 o3 (given0 ||| (1 <<< (x1 &&& 31))) buffer1) []) (wn := fun _ => w_X10_once g h0 h1 v0_0 v0_2 v0_10 v0_11 v0_12 v0_13 v0_14 v0_15 v0_16 v0_17 v0_18 v0_19 v0_21 v0_22 v0_23 v0_24 v0_25 v0_26 v0_27 v0_28 v0_29 v0_30 v0_31 v0_32 v0_33 v0_34 v0_35 v0_36 v0_37 textLength0 o12 o13 o14 o15 o16 o17 (given0 ||| (1 <<< (x1 &&& 31))) buffer1) ⟨rfl, rfl, rfl, rfl, by decide, rfl, fun _ => rfl⟩ (c_X10_number l g F h0 h1 v0_0 v0_2 v0_10 v0_11 v0_12 v0_13 v0_14 v0_15 v0_16 v0_17 v0_18 v0_19 (.int (given0 ||| (1 <<< (x1 &&& 31)))) v0_21 v0_22 v0_23 v0_24 v0_25 v0_26 v0_27 v0_28 v0_29 v0_30 v0_31 v0_32 v0_33 v0_34 v0_35 v0_36 v0_37 x2 x3 textLength0 o6 o7 o8 o9 o2 o3 buffer1 r11 o12 o13 o14 o15 o16 o17 _ hc18) k_X10_152 (rm_le (by decide) (by decide)) 0 10 rfl rfl rfl rfl hl.1 rfl (Nat.le_of_ble_eq_true rfl) dX10_once_50 ⟨Nat.le_of_ble_eq_true rfl, Nat.le_of_ble_eq_true rfl⟩ (cells2 := 0) (slots2 := 0) ⟨rfl, rfl⟩ (fun _ H locs w => ?_)
      obtain ⟨e1, e2, e3, e4, e5, e6, e7, e8⟩ := tp8 hf
      rw [hQ]
      exact rt_i C w rfl (fun _ => 0) (by rw [← e2, ← e3, ← e4, ← e5, ← e6, ← e7, ← e8]) e1 dX10_once_53
    · replace hf := it_f c5 hf
      refine lv_iconst (v := 0) hx hb dX10_once_41 (by decide) ?_
      obtain ⟨e1, e2, e3, e4, e5, e6, e7, e8⟩ := tp8 hf
      rw [hQ]
      exact rt_i C w rfl (fun _ => 0) (by rw [← e2, ← e3, ← e4, ← e5, ← e6, ← e7, ← e8]) e1 dX10_once_42
  refine lv_aload_n hx hb dX10_once_0 rfl (lv_at hl 0 rfl) ?_
  refine lv_aload_n hx hb dX10_once_1 rfl (lv_at hl 0 rfl) ?_
  refine g_X10_165 C w 0 rfl rfl dX10_once_2 ?_
  refine lv_iload_n hx hb dX10_once_5 rfl (lv_at hl 1 rfl) ?_
  refine lv_ishr hx hb dX10_once_6 ?_
  refine lv_iconst (v := 1) hx hb dX10_once_7 (by decide) ?_
  refine lv_iand hx hb dX10_once_8 ?_
  refine lv_if_ne (tgt := 16) hx hb dX10_once_9 (by decide) (fun c19 => ?_) (fun c19 => ?_)
  · replace hf := it_f c19 hf
    refine lv_iconst (v := 0) hx hb dX10_once_16 (by decide) ?_
    exact b17 p1 p2 p3 0 tokenStart0 tokenEnd0 token0 value0 error0 errorOffset0 given0 _ _ _ hf w (lv_sub hl [0, 1, 2, 3] rfl)
  · replace hf := it_t c19 hf
    refine lv_iconst (v := 1) hx hb dX10_once_12 (by decide) ?_
    refine lv_goto (tgt := 17) hx hb dX10_once_13 (by decide) ?_
    exact b17 p1 p2 p3 1 tokenStart0 tokenEnd0 token0 value0 error0 errorOffset0 given0 _ _ _ hf w (lv_sub hl [0, 1, 2, 3] rfl)

theorem dX10_adopt_0 : decode cX10_adopt 0 = .ok (.iconst 0, 1) := by decide +kernel
theorem dX10_adopt_1 : decode cX10_adopt 1 = .ok (.istore_n 1, 1) := by decide +kernel
theorem dX10_adopt_2 : decode cX10_adopt 2 = .ok (.iload_n 1, 1) := by decide +kernel
theorem dX10_adopt_3 : decode cX10_adopt 3 = .ok (.aload_n 0, 1) := by decide +kernel
theorem dX10_adopt_4 : decode cX10_adopt 4 = .ok (.arraylength, 1) := by decide +kernel
theorem dX10_adopt_5 : decode cX10_adopt 5 = .ok (.iconst 2, 1) := by decide +kernel
theorem dX10_adopt_6 : decode cX10_adopt 6 = .ok (.idiv, 1) := by decide +kernel
theorem dX10_adopt_7 : decode cX10_adopt 7 = .ok (.if_icmp .ge 20, 3) := by decide +kernel
theorem dX10_adopt_10 : decode cX10_adopt 10 = .ok (.aload_n 0, 1) := by decide +kernel
theorem dX10_adopt_11 : decode cX10_adopt 11 = .ok (.iload_n 1, 1) := by decide +kernel
theorem dX10_adopt_12 : decode cX10_adopt 12 = .ok (.aload_n 0, 1) := by decide +kernel
theorem dX10_adopt_13 : decode cX10_adopt 13 = .ok (.aload_n 0, 1) := by decide +kernel
theorem dX10_adopt_14 : decode cX10_adopt 14 = .ok (.arraylength, 1) := by decide +kernel
theorem dX10_adopt_15 : decode cX10_adopt 15 = .ok (.iconst 2, 1) := by decide +kernel
theorem dX10_adopt_16 : decode cX10_adopt 16 = .ok (.idiv, 1) := by decide +kernel
theorem dX10_adopt_17 : decode cX10_adopt 17 = .ok (.iload_n 1, 1) := by decide +kernel
theorem dX10_adopt_18 : decode cX10_adopt 18 = .ok (.iadd, 1) := by decide +kernel
theorem dX10_adopt_19 : decode cX10_adopt 19 = .ok (.iaload, 1) := by decide +kernel
theorem dX10_adopt_20 : decode cX10_adopt 20 = .ok (.iastore, 1) := by decide +kernel
theorem dX10_adopt_21 : decode cX10_adopt 21 = .ok (.iinc 1 1, 3) := by decide +kernel
theorem dX10_adopt_24 : decode cX10_adopt 24 = .ok (.goto (-22), 3) := by decide +kernel
theorem dX10_adopt_27 : decode cX10_adopt 27 = .ok (.return_, 1) := by decide +kernel
abbrev m_X10_adopt : MD := (yX10_adopt, cX10_adopt, 2, none)

abbrev w_X10_adopt (g : GT) (h0 : Nat) (n0 : Nat) (arr0 : Nat → Int32) : va_W := [(h0, aI g n0 arr0)]
def f_X10_adopt_h2 (F n0 : Nat) (k2 : (Int32 × (Nat → Int32)) → Option ((Nat → Int32))) (x1 : Int32) (arr0 : Nat → Int32) : Option ((Nat → Int32)) :=
  if ((nI n0) / 2) ≤ x1 then
    some arr0
  else
    rd arr0 n0 (((nI n0) / 2) + x1) fun a2 =>
    wr arr0 n0 x1 a2 fun f3 =>
    k2 (x1 + 1, f3)
def f_X10_adopt_L2 (F n0 : Nat) (z : Int32 × (Nat → Int32)) : Option ((Nat → Int32)) := lp (fun k z => f_X10_adopt_h2 F n0 k z.1 z.2) F z
def f_X10_adopt (F n0 : Nat) (arr0 : Nat → Int32) : Option ((Nat → Int32)) :=
  f_X10_adopt_L2 F n0 (0, arr0)
set_option maxHeartbeats 4000000 in
set_option maxRecDepth 100000 in
theorem c_X10_adopt (l : Launch) (g : GT) (F : Nat) (h0 : Nat) (n0 : Nat) (arr0 : Nat → Int32) (o_arr0 : Nat → Int32) (sz : Nat) (hf : f_X10_adopt F n0 arr0 = some o_arr0) : CV l m_X10_adopt (rml 0 0 0) g (w_X10_adopt g h0 n0 arr0) (fun _ => w_X10_adopt g h0 n0 o_arr0) sz [.ref h0] := by
  refine en_v (by decide) (Nat.le_of_ble_eq_true rfl) (fun p e s m args below meth c A ls C w hl => ?_)
  have C : Cx p s m args meth c RX10 m_X10_adopt g A := C
  have hx := C.1
  have hb : c.code = cX10_adopt := C.2.1
  have hl : lv_has ls 2 [(0, .ref h0)] := hl
  obtain ⟨Q, hQ⟩ : ∃ Q, Q = QV below args s g A (fun _ => w_X10_adopt g h0 n0 o_arr0) 0 0 := ⟨_, rfl⟩
  suffices hW : W p l e (rml 0 0 0) s m args below meth c s.heap [] 0 0 Q (F0 m 0 ls []) from (by rw [hQ] at hW; exact hW)
  unfold f_X10_adopt at hf
  have L2 : ∀ (z : Int32 × (Nat → Int32)), f_X10_adopt_L2 F n0 z = some o_arr0 → ∀ (H : Heap) (locs : List Loc) (ls : Array Slot), Wd g A (w_X10_adopt g h0 n0 z.2) s.heap H locs → lv_has ls 2 [(0, .ref h0), (1, .int z.1)] → W p l e (rml 0 0 0) s m args below meth c H locs 0 0 Q (F0 m 2 ls []) := by
    intro z hf
    refine lp_W (r := o_arr0) (fun (z : Int32 × (Nat → Int32)) => ∀ (H : Heap) (locs : List Loc) (ls : Array Slot), Wd g A (w_X10_adopt g h0 n0 z.2) s.heap H locs → lv_has ls 2 [(0, .ref h0), (1, .int z.1)] → W p l e (rml 0 0 0) s m args below meth c H locs 0 0 Q (F0 m 2 ls [])) (fun k2 z ih2 hf => ?_) F z hf
    obtain ⟨x1, arr0⟩ := z
    intro H locs ls w hl
    dsimp only at hf w hl ⊢
    unfold f_X10_adopt_h2 at hf
    refine lv_iload_n hx hb dX10_adopt_2 rfl (lv_at hl 1 rfl) ?_
    refine lv_aload_n hx hb dX10_adopt_3 rfl (lv_at hl 0 rfl) ?_
    refine ilen C w 0 rfl (v := nI n0) rfl dX10_adopt_4 ?_
    refine lv_iconst (v := 2) hx hb dX10_adopt_5 (by decide) ?_
    refine lv_idiv hx hb dX10_adopt_6 (by decide) ?_
    refine lv_icmp_ge (tgt := 27) hx hb dX10_adopt_7 (by decide) (fun c1 => ?_) (fun c1 => ?_)
    · replace hf := it_t c1 hf
      obtain e1 := tp1 hf
      rw [hQ]
      exact rt_v C w rfl (fun _ => 0) (by rw [← e1]) dX10_adopt_27
    · replace hf := it_f c1 hf
      refine lv_aload_n hx hb dX10_adopt_10 rfl (lv_at hl 0 rfl) ?_
      refine lv_iload_n hx hb dX10_adopt_11 rfl (lv_at hl 1 rfl) ?_
      refine lv_aload_n hx hb dX10_adopt_12 rfl (lv_at hl 0 rfl) ?_
      refine lv_aload_n hx hb dX10_adopt_13 rfl (lv_at hl 0 rfl) ?_
      refine ilen C w 0 rfl (v := nI n0) rfl dX10_adopt_14 ?_
      refine lv_iconst (v := 2) hx hb dX10_adopt_15 (by decide) ?_
      refine lv_idiv hx hb dX10_adopt_16 (by decide) ?_
      refine lv_iload_n hx hb dX10_adopt_17 rfl (lv_at hl 1 rfl) ?_
      refine lv_iadd hx hb dX10_adopt_18 ?_
      obtain ⟨a2, hia2, haa2, hf⟩ := rd_some hf
      refine ial C w 0 rfl hia2 haa2 dX10_adopt_19 ?_
      obtain ⟨f3, hif3, haf3, hf⟩ := wr_some hf
      refine ias C w 0 rfl hif3 haf3 (ws2 := w_X10_adopt g h0 n0 f3) rfl dX10_adopt_20 (fun H locs w => ?_)
      refine lv_iinc (v := x1 + 1) (lv' := [(1, .int (x1 + 1)), (0, .ref h0)]) hx hb dX10_adopt_21 hl (k := 1) rfl rfl (by decide) rfl (fun ls hl => ?_)
      refine lv_goto (tgt := 2) hx hb dX10_adopt_24 (by decide) ?_
      exact ih2 (x1 + 1, f3) hf _ _ _ w (lv_sub hl [1, 0] rfl)
  refine lv_iconst (v := 0) hx hb dX10_adopt_0 (by decide) ?_
  refine lv_istore_n (lv' := [(1, .int 0), (0, .ref h0)]) hx hb dX10_adopt_1 rfl hl (by decide) rfl (fun ls hl => ?_)
  exact L2 (0, arr0) hf _ _ _ w (lv_sub hl [1, 0] rfl)

theorem dX10_keep_0 : decode cX10_keep 0 = .ok (.aload_n 0, 1) := by decide +kernel
theorem dX10_keep_1 : decode cX10_keep 1 = .ok (.getfield 212, 3) := by decide +kernel
theorem dX10_keep_4 : decode cX10_keep 4 = .ok (.bipush 10, 2) := by decide +kernel
theorem dX10_keep_6 : decode cX10_keep 6 = .ok (.if_icmp .ne 50, 3) := by decide +kernel
theorem dX10_keep_9 : decode cX10_keep 9 = .ok (.iconst 0, 1) := by decide +kernel
theorem dX10_keep_10 : decode cX10_keep 10 = .ok (.istore_n 1, 1) := by decide +kernel
theorem dX10_keep_11 : decode cX10_keep 11 = .ok (.iload_n 1, 1) := by decide +kernel
theorem dX10_keep_12 : decode cX10_keep 12 = .ok (.aload_n 0, 1) := by decide +kernel
theorem dX10_keep_13 : decode cX10_keep 13 = .ok (.getfield 47, 3) := by decide +kernel
theorem dX10_keep_16 : decode cX10_keep 16 = .ok (.arraylength, 1) := by decide +kernel
theorem dX10_keep_17 : decode cX10_keep 17 = .ok (.sipush 2524, 3) := by decide +kernel
theorem dX10_keep_20 : decode cX10_keep 20 = .ok (.isub, 1) := by decide +kernel
theorem dX10_keep_21 : decode cX10_keep 21 = .ok (.if_icmp .ge 25, 3) := by decide +kernel
theorem dX10_keep_24 : decode cX10_keep 24 = .ok (.aload_n 0, 1) := by decide +kernel
theorem dX10_keep_25 : decode cX10_keep 25 = .ok (.getfield 47, 3) := by decide +kernel
theorem dX10_keep_28 : decode cX10_keep 28 = .ok (.iload_n 1, 1) := by decide +kernel
theorem dX10_keep_29 : decode cX10_keep 29 = .ok (.aload_n 0, 1) := by decide +kernel
theorem dX10_keep_30 : decode cX10_keep 30 = .ok (.getfield 47, 3) := by decide +kernel
theorem dX10_keep_33 : decode cX10_keep 33 = .ok (.iload_n 1, 1) := by decide +kernel
theorem dX10_keep_34 : decode cX10_keep 34 = .ok (.sipush 2524, 3) := by decide +kernel
theorem dX10_keep_37 : decode cX10_keep 37 = .ok (.iadd, 1) := by decide +kernel
theorem dX10_keep_38 : decode cX10_keep 38 = .ok (.iaload, 1) := by decide +kernel
theorem dX10_keep_39 : decode cX10_keep 39 = .ok (.iastore, 1) := by decide +kernel
theorem dX10_keep_40 : decode cX10_keep 40 = .ok (.iinc 1 1, 3) := by decide +kernel
theorem dX10_keep_43 : decode cX10_keep 43 = .ok (.goto (-32), 3) := by decide +kernel
theorem dX10_keep_46 : decode cX10_keep 46 = .ok (.aload_n 0, 1) := by decide +kernel
theorem dX10_keep_47 : decode cX10_keep 47 = .ok (.dup, 1) := by decide +kernel
theorem dX10_keep_48 : decode cX10_keep 48 = .ok (.getfield 212, 3) := by decide +kernel
theorem dX10_keep_51 : decode cX10_keep 51 = .ok (.iconst 1, 1) := by decide +kernel
theorem dX10_keep_52 : decode cX10_keep 52 = .ok (.isub, 1) := by decide +kernel
theorem dX10_keep_53 : decode cX10_keep 53 = .ok (.putfield 212, 3) := by decide +kernel
theorem dX10_keep_56 : decode cX10_keep 56 = .ok (.iconst 0, 1) := by decide +kernel
theorem dX10_keep_57 : decode cX10_keep 57 = .ok (.istore_n 1, 1) := by decide +kernel
theorem dX10_keep_58 : decode cX10_keep 58 = .ok (.iload_n 1, 1) := by decide +kernel
theorem dX10_keep_59 : decode cX10_keep 59 = .ok (.sipush 2524, 3) := by decide +kernel
theorem dX10_keep_62 : decode cX10_keep 62 = .ok (.if_icmp .ge 30, 3) := by decide +kernel
theorem dX10_keep_65 : decode cX10_keep 65 = .ok (.aload_n 0, 1) := by decide +kernel
theorem dX10_keep_66 : decode cX10_keep 66 = .ok (.getfield 47, 3) := by decide +kernel
theorem dX10_keep_69 : decode cX10_keep 69 = .ok (.sipush 2524, 3) := by decide +kernel
theorem dX10_keep_72 : decode cX10_keep 72 = .ok (.aload_n 0, 1) := by decide +kernel
theorem dX10_keep_73 : decode cX10_keep 73 = .ok (.getfield 212, 3) := by decide +kernel
theorem dX10_keep_76 : decode cX10_keep 76 = .ok (.imul, 1) := by decide +kernel
theorem dX10_keep_77 : decode cX10_keep 77 = .ok (.iload_n 1, 1) := by decide +kernel
theorem dX10_keep_78 : decode cX10_keep 78 = .ok (.iadd, 1) := by decide +kernel
theorem dX10_keep_79 : decode cX10_keep 79 = .ok (.aload_n 0, 1) := by decide +kernel
theorem dX10_keep_80 : decode cX10_keep 80 = .ok (.getfield 44, 3) := by decide +kernel
theorem dX10_keep_83 : decode cX10_keep 83 = .ok (.iload_n 1, 1) := by decide +kernel
theorem dX10_keep_84 : decode cX10_keep 84 = .ok (.iaload, 1) := by decide +kernel
theorem dX10_keep_85 : decode cX10_keep 85 = .ok (.iastore, 1) := by decide +kernel
theorem dX10_keep_86 : decode cX10_keep 86 = .ok (.iinc 1 1, 3) := by decide +kernel
theorem dX10_keep_89 : decode cX10_keep 89 = .ok (.goto (-31), 3) := by decide +kernel
theorem dX10_keep_92 : decode cX10_keep 92 = .ok (.aload_n 0, 1) := by decide +kernel
theorem dX10_keep_93 : decode cX10_keep 93 = .ok (.dup, 1) := by decide +kernel
theorem dX10_keep_94 : decode cX10_keep 94 = .ok (.getfield 212, 3) := by decide +kernel
theorem dX10_keep_97 : decode cX10_keep 97 = .ok (.iconst 1, 1) := by decide +kernel
theorem dX10_keep_98 : decode cX10_keep 98 = .ok (.iadd, 1) := by decide +kernel
theorem dX10_keep_99 : decode cX10_keep 99 = .ok (.putfield 212, 3) := by decide +kernel
theorem dX10_keep_102 : decode cX10_keep 102 = .ok (.return_, 1) := by decide +kernel
abbrev m_X10_keep : MD := (yX10_keep, cX10_keep, 2, none)
theorem g_X10_212 {p : Program} {l : Launch} {e : Env} {R : Room} {s : State} {m : MethodId} {args : Array Value} {below : List Frame} {meth : Method} {c : Code} {H : Heap} {locs : List Loc} {cells slots : Nat} {Q : State → Prop} {d : MD} {g : GT} {A : Nat → Prop} {ws : va_W} {pc : Nat} {ls : Array Slot} {rest : List Value} (C : Cx p s m args meth c RX10 d g A) (w : Wd g A ws s.heap H locs) (q0 : Nat) {a : Nat} {fs : List Value} {v : Value} (he : ws[q0]? = some (a, .inr (10, fs))) (hv : fs[23]? = some v) (hd : decode d.2.1 pc = .ok (.getfield 212, 3)) (kk : W p l e R s m args below meth c H locs cells slots Q (F0 m (pc + 3) ls (v :: rest))) : W p l e R s m args below meth c H locs cells slots Q (F0 m pc ls (.ref a :: rest)) := fg C w inX10s (ref := RX10) rfl 23 (by decide) (ts_t (w := Cond.fieldLink RX10 212 RX10 (TX10 23).2.1 (TX10 23).2.2.1) 1245 (by decide +kernel) (by decide +kernel)) rfl q0 he hv hd kk
theorem g_X10_47 {p : Program} {l : Launch} {e : Env} {R : Room} {s : State} {m : MethodId} {args : Array Value} {below : List Frame} {meth : Method} {c : Code} {H : Heap} {locs : List Loc} {cells slots : Nat} {Q : State → Prop} {d : MD} {g : GT} {A : Nat → Prop} {ws : va_W} {pc : Nat} {ls : Array Slot} {rest : List Value} (C : Cx p s m args meth c RX10 d g A) (w : Wd g A ws s.heap H locs) (q0 : Nat) {a : Nat} {fs : List Value} {v : Value} (he : ws[q0]? = some (a, .inr (10, fs))) (hv : fs[22]? = some v) (hd : decode d.2.1 pc = .ok (.getfield 47, 3)) (kk : W p l e R s m args below meth c H locs cells slots Q (F0 m (pc + 3) ls (v :: rest))) : W p l e R s m args below meth c H locs cells slots Q (F0 m pc ls (.ref a :: rest)) := fg C w inX10s (ref := RX10) rfl 22 (by decide) (ts_t (w := Cond.fieldLink RX10 47 RX10 (TX10 22).2.1 (TX10 22).2.2.1) 1244 (by decide +kernel) (by decide +kernel)) rfl q0 he hv hd kk
theorem p_X10_212 {p : Program} {l : Launch} {e : Env} {R : Room} {s : State} {m : MethodId} {args : Array Value} {below : List Frame} {meth : Method} {c : Code} {H : Heap} {locs : List Loc} {cells slots : Nat} {Q : State → Prop} {d : MD} {g : GT} {A : Nat → Prop} {ws : va_W} {pc : Nat} {ls : Array Slot} {rest : List Value} (C : Cx p s m args meth c RX10 d g A) (w : Wd g A ws s.heap H locs) (q0 : Nat) {a : Nat} {fs : List Value} {x : Int32} (he : ws[q0]? = some (a, .inr (10, fs))) (hlt : 23 < fs.length) {ws2 : va_W} (h2 : ws.set q0 (a, .inr (10, fs.set 23 (.int x))) = ws2) (hd : decode d.2.1 pc = .ok (.putfield 212, 3)) (kk : ∀ (H1 : Heap) (locs1 : List Loc), Wd g A ws2 s.heap H1 locs1 → W p l e R s m args below meth c H1 locs1 cells slots Q (F0 m (pc + 3) ls rest)) : W p l e R s m args below meth c H locs cells slots Q (F0 m pc ls (.int x :: .ref a :: rest)) := fp C w inX10s tyX10_ok nmX10 (ref := RX10) rfl 23 (by decide) (ts_t (w := Cond.fieldLink RX10 212 RX10 (TX10 23).2.1 (TX10 23).2.2.1) 1245 (by decide +kernel) (by decide +kernel)) rfl rfl q0 he rfl rfl hlt h2 hd kk
abbrev w_X10_keep (g : GT) (h0 h1 h2 : Nat) (v0_0 v0_1 v0_2 v0_3 v0_4 v0_5 v0_6 v0_7 v0_8 v0_9 v0_10 v0_11 v0_12 v0_13 v0_14 v0_15 v0_16 v0_17 v0_18 v0_19 v0_20 v0_24 v0_25 v0_26 v0_27 v0_28 v0_29 v0_30 v0_31 v0_32 v0_33 v0_34 v0_35 v0_36 v0_37 : Value) (depth0 : Int32) (history1 state2 : Nat → Int32) : va_W := [(h0, .inr (10, [v0_0, v0_1, v0_2, v0_3, v0_4, v0_5, v0_6, v0_7, v0_8, v0_9, v0_10, v0_11, v0_12, v0_13, v0_14, v0_15, v0_16, v0_17, v0_18, v0_19, v0_20, .ref h2, .ref h1, .int depth0, v0_24, v0_25, v0_26, v0_27, v0_28, v0_29, v0_30, v0_31, v0_32, v0_33, v0_34, v0_35, v0_36, v0_37])), (h1, aI g 25240 history1), (h2, aI g 2524 state2)]
def f_X10_keep_h58 (F : Nat) (state2 : Nat → Int32) (k58 : (Int32 × Int32 × (Nat → Int32)) → Option (Int32 × (Nat → Int32))) (x1 depth0 : Int32) (history1 : Nat → Int32) : Option (Int32 × (Nat → Int32)) :=
  if 2524 ≤ x1 then
    some (depth0 + 1, history1)
  else
    rd state2 2524 x1 fun a2 =>
    wr history1 25240 ((2524 * depth0) + x1) a2 fun f3 =>
    k58 (x1 + 1, depth0, f3)
def f_X10_keep_L58 (F : Nat) (state2 : Nat → Int32) (z : Int32 × Int32 × (Nat → Int32)) : Option (Int32 × (Nat → Int32)) := lp (fun k z => f_X10_keep_h58 F state2 k z.1 z.2.1 z.2.2) F z
def f_X10_keep_b56 (F : Nat) (state2 : Nat → Int32) (depth0 : Int32) (history1 : Nat → Int32) : Option (Int32 × (Nat → Int32)) :=
  f_X10_keep_L58 F state2 (0, depth0, history1)
def f_X10_keep_h11 (F : Nat) (state2 : Nat → Int32) (k11 : (Int32 × Int32 × (Nat → Int32)) → Option (Int32 × (Nat → Int32))) (x1 depth0 : Int32) (history1 : Nat → Int32) : Option (Int32 × (Nat → Int32)) :=
  if (25240 - 2524) ≤ x1 then
    f_X10_keep_b56 F state2 (depth0 - 1) history1
  else
    rd history1 25240 (x1 + 2524) fun a5 =>
    wr history1 25240 x1 a5 fun f6 =>
    k11 (x1 + 1, depth0, f6)
def f_X10_keep_L11 (F : Nat) (state2 : Nat → Int32) (z : Int32 × Int32 × (Nat → Int32)) : Option (Int32 × (Nat → Int32)) := lp (fun k z => f_X10_keep_h11 F state2 k z.1 z.2.1 z.2.2) F z
def f_X10_keep (F : Nat) (depth0 : Int32) (history1 state2 : Nat → Int32) : Option (Int32 × (Nat → Int32)) :=
  if depth0 = 10 then
    f_X10_keep_L11 F state2 (0, depth0, history1)
  else
    f_X10_keep_b56 F state2 depth0 history1
set_option maxHeartbeats 4000000 in
set_option maxRecDepth 100000 in
theorem c_X10_keep (l : Launch) (g : GT) (F : Nat) (h0 h1 h2 : Nat) (v0_0 v0_1 v0_2 v0_3 v0_4 v0_5 v0_6 v0_7 v0_8 v0_9 v0_10 v0_11 v0_12 v0_13 v0_14 v0_15 v0_16 v0_17 v0_18 v0_19 v0_20 v0_24 v0_25 v0_26 v0_27 v0_28 v0_29 v0_30 v0_31 v0_32 v0_33 v0_34 v0_35 v0_36 v0_37 : Value) (depth0 : Int32) (history1 state2 : Nat → Int32) (o_depth0 : Int32) (o_history1 : Nat → Int32) (sz : Nat) (hf : f_X10_keep F depth0 history1 state2 = some (o_depth0, o_history1)) : CV l m_X10_keep (rml 0 0 0) g (w_X10_keep g h0 h1 h2 v0_0 v0_1 v0_2 v0_3 v0_4 v0_5 v0_6 v0_7 v0_8 v0_9 v0_10 v0_11 v0_12 v0_13 v0_14 v0_15 v0_16 v0_17 v0_18 v0_19 v0_20 v0_24 v0_25 v0_26 v0_27 v0_28 v0_29 v0_30 v0_31 v0_32 v0_33 v0_34 v0_35 v0_36 v0_37 depth0 history1 state2) (fun _ => w_X10_keep g h0 h1 h2 v0_0 v0_1 v0_2 v0_3 v0_4 v0_5 v0_6 v0_7 v0_8 v0_9 v0_10 v0_11 v0_12 v0_13 v0_14 v0_15 v0_16 v0_17 v0_18 v0_19 v0_20 v0_24 v0_25 v0_26 v0_27 v0_28 v0_29 v0_30 v0_31 v0_32 v0_33 v0_34 v0_35 v0_36 v0_37 o_depth0 o_history1 state2) sz [.ref h0] := by
  refine en_v (by decide) (Nat.le_of_ble_eq_true rfl) (fun p e s m args below meth c A ls C w hl => ?_)
  have C : Cx p s m args meth c RX10 m_X10_keep g A := C
  have hx := C.1
  have hb : c.code = cX10_keep := C.2.1
  have hl : lv_has ls 2 [(0, .ref h0)] := hl
  obtain ⟨Q, hQ⟩ : ∃ Q, Q = QV below args s g A (fun _ => w_X10_keep g h0 h1 h2 v0_0 v0_1 v0_2 v0_3 v0_4 v0_5 v0_6 v0_7 v0_8 v0_9 v0_10 v0_11 v0_12 v0_13 v0_14 v0_15 v0_16 v0_17 v0_18 v0_19 v0_20 v0_24 v0_25 v0_26 v0_27 v0_28 v0_29 v0_30 v0_31 v0_32 v0_33 v0_34 v0_35 v0_36 v0_37 o_depth0 o_history1 state2) 0 0 := ⟨_, rfl⟩
  suffices hW : W p l e (rml 0 0 0) s m args below meth c s.heap [] 0 0 Q (F0 m 0 ls []) from (by rw [hQ] at hW; exact hW)
  unfold f_X10_keep at hf
  have L58 : ∀ (z : Int32 × Int32 × (Nat → Int32)), f_X10_keep_L58 F state2 z = some (o_depth0, o_history1) → ∀ (H : Heap) (locs : List Loc) (ls : Array Slot), Wd g A (w_X10_keep g h0 h1 h2 v0_0 v0_1 v0_2 v0_3 v0_4 v0_5 v0_6 v0_7 v0_8 v0_9 v0_10 v0_11 v0_12 v0_13 v0_14 v0_15 v0_16 v0_17 v0_18 v0_19 v0_20 v0_24 v0_25 v0_26 v0_27 v0_28 v0_29 v0_30 v0_31 v0_32 v0_33 v0_34 v0_35 v0_36 v0_37 z.2.1 z.2.2 state2) s.heap H locs → lv_has ls 2 [(0, .ref h0), (1, .int z.1)] → W p l e (rml 0 0 0) s m args below meth c H locs 0 0 Q (F0 m 58 ls []) := by
    intro z hf
    refine lp_W (r := (o_depth0, o_history1)) (fun (z : Int32 × Int32 × (Nat → Int32)) => ∀ (H : Heap) (locs : List Loc) (ls : Array Slot), Wd g A (w_X10_keep g h0 h1 h2 v0_0 v0_1 v0_2 v0_3 v0_4 v0_5 v0_6 v0_7 v0_8 v0_9 v0_10 v0_11 v0_12 v0_13 v0_14 v0_15 v0_16 v0_17 v0_18 v0_19 v0_20 v0_24 v0_25 v0_26 v0_27 v0_28 v0_29 v0_30 v0_31 v0_32 v0_33 v0_34 v0_35 v0_36 v0_37 z.2.1 z.2.2 state2) s.heap H locs → lv_has ls 2 [(0, .ref h0), (1, .int z.1)] → W p l e (rml 0 0 0) s m args below meth c H locs 0 0 Q (F0 m 58 ls [])) (fun k58 z ih58 hf => ?_) F z hf
    obtain ⟨x1, depth0, history1⟩ := z
    intro H locs ls w hl
    dsimp only at hf w hl ⊢
    unfold f_X10_keep_h58 at hf
    refine lv_iload_n hx hb dX10_keep_58 rfl (lv_at hl 1 rfl) ?_
    refine lv_sipush (v := 2524) hx hb dX10_keep_59 (by decide) ?_
    refine lv_icmp_ge (tgt := 92) hx hb dX10_keep_62 (by decide) (fun c1 => ?_) (fun c1 => ?_)
    · replace hf := it_t c1 hf
      refine lv_aload_n hx hb dX10_keep_92 rfl (lv_at hl 0 rfl) ?_
      refine lv_dup hx hb dX10_keep_93 rfl ?_
      refine g_X10_212 C w 0 rfl rfl dX10_keep_94 ?_
      refine lv_iconst (v := 1) hx hb dX10_keep_97 (by decide) ?_
      refine lv_iadd hx hb dX10_keep_98 ?_
      refine p_X10_212 C w 0 rfl (Nat.le_of_ble_eq_true rfl) (ws2 := w_X10_keep g h0 h1 h2 v0_0 v0_1 v0_2 v0_3 v0_4 v0_5 v0_6 v0_7 v0_8 v0_9 v0_10 v0_11 v0_12 v0_13 v0_14 v0_15 v0_16 v0_17 v0_18 v0_19 v0_20 v0_24 v0_25 v0_26 v0_27 v0_28 v0_29 v0_30 v0_31 v0_32 v0_33 v0_34 v0_35 v0_36 v0_37 (depth0 + 1) history1 state2) rfl dX10_keep_99 (fun H locs w => ?_)
      obtain ⟨e1, e2⟩ := tp2 hf
      rw [hQ]
      exact rt_v C w rfl (fun _ => 0) (by rw [← e1, ← e2]) dX10_keep_102
    · replace hf := it_f c1 hf
      refine lv_aload_n hx hb dX10_keep_65 rfl (lv_at hl 0 rfl) ?_
      refine g_X10_47 C w 0 rfl rfl dX10_keep_66 ?_
      refine lv_sipush (v := 2524) hx hb dX10_keep_69 (by decide) ?_
      refine lv_aload_n hx hb dX10_keep_72 rfl (lv_at hl 0 rfl) ?_
      refine g_X10_212 C w 0 rfl rfl dX10_keep_73 ?_
      refine lv_imul hx hb dX10_keep_76 ?_
      refine lv_iload_n hx hb dX10_keep_77 rfl (lv_at hl 1 rfl) ?_
      refine lv_iadd hx hb dX10_keep_78 ?_
      refine lv_aload_n hx hb dX10_keep_79 rfl (lv_at hl 0 rfl) ?_
      refine g_X10_44 C w 0 rfl rfl dX10_keep_80 ?_
      refine lv_iload_n hx hb dX10_keep_83 rfl (lv_at hl 1 rfl) ?_
      obtain ⟨a2, hia2, haa2, hf⟩ := rd_some hf
      refine ial C w 2 rfl hia2 haa2 dX10_keep_84 ?_
      obtain ⟨f3, hif3, haf3, hf⟩ := wr_some hf
      refine ias C w 1 rfl hif3 haf3 (ws2 := w_X10_keep g h0 h1 h2 v0_0 v0_1 v0_2 v0_3 v0_4 v0_5 v0_6 v0_7 v0_8 v0_9 v0_10 v0_11 v0_12 v0_13 v0_14 v0_15 v0_16 v0_17 v0_18 v0_19 v0_20 v0_24 v0_25 v0_26 v0_27 v0_28 v0_29 v0_30 v0_31 v0_32 v0_33 v0_34 v0_35 v0_36 v0_37 depth0 f3 state2) rfl dX10_keep_85 (fun H locs w => ?_)
      refine lv_iinc (v := x1 + 1) (lv' := [(1, .int (x1 + 1)), (0, .ref h0)]) hx hb dX10_keep_86 hl (k := 1) rfl rfl (by decide) rfl (fun ls hl => ?_)
      refine lv_goto (tgt := 58) hx hb dX10_keep_89 (by decide) ?_
      exact ih58 (x1 + 1, depth0, f3) hf _ _ _ w (lv_sub hl [1, 0] rfl)
  have b56 : ∀ (depth0 : Int32) (history1 : Nat → Int32) (H : Heap) (locs : List Loc) (ls : Array Slot), f_X10_keep_b56 F state2 depth0 history1 = some (o_depth0, o_history1) → Wd g A (w_X10_keep g h0 h1 h2 v0_0 v0_1 v0_2 v0_3 v0_4 v0_5 v0_6 v0_7 v0_8 v0_9 v0_10 v0_11 v0_12 v0_13 v0_14 v0_15 v0_16 v0_17 v0_18 v0_19 v0_20 v0_24 v0_25 v0_26 v0_27 v0_28 v0_29 v0_30 v0_31 v0_32 v0_33 v0_34 v0_35 v0_36 v0_37 depth0 history1 state2) s.heap H locs → lv_has ls 2 [(0, .ref h0)] → W p l e (rml 0 0 0) s m args below meth c H locs 0 0 Q (F0 m 56 ls []) := by
    intro depth0 history1 H locs ls hf w hl
    unfold f_X10_keep_b56 at hf
    refine lv_iconst (v := 0) hx hb dX10_keep_56 (by decide) ?_
    refine lv_istore_n (lv' := [(1, .int 0), (0, .ref h0)]) hx hb dX10_keep_57 rfl hl (by decide) rfl (fun ls hl => ?_)
    exact L58 (0, depth0, history1) hf _ _ _ w (lv_sub hl [1, 0] rfl)
  have L11 : ∀ (z : Int32 × Int32 × (Nat → Int32)), f_X10_keep_L11 F state2 z = some (o_depth0, o_history1) → ∀ (H : Heap) (locs : List Loc) (ls : Array Slot), Wd g A (w_X10_keep g h0 h1 h2 v0_0 v0_1 v0_2 v0_3 v0_4 v0_5 v0_6 v0_7 v0_8 v0_9 v0_10 v0_11 v0_12 v0_13 v0_14 v0_15 v0_16 v0_17 v0_18 v0_19 v0_20 v0_24 v0_25 v0_26 v0_27 v0_28 v0_29 v0_30 v0_31 v0_32 v0_33 v0_34 v0_35 v0_36 v0_37 z.2.1 z.2.2 state2) s.heap H locs → lv_has ls 2 [(0, .ref h0), (1, .int z.1)] → W p l e (rml 0 0 0) s m args below meth c H locs 0 0 Q (F0 m 11 ls []) := by
    intro z hf
    refine lp_W (r := (o_depth0, o_history1)) (fun (z : Int32 × Int32 × (Nat → Int32)) => ∀ (H : Heap) (locs : List Loc) (ls : Array Slot), Wd g A (w_X10_keep g h0 h1 h2 v0_0 v0_1 v0_2 v0_3 v0_4 v0_5 v0_6 v0_7 v0_8 v0_9 v0_10 v0_11 v0_12 v0_13 v0_14 v0_15 v0_16 v0_17 v0_18 v0_19 v0_20 v0_24 v0_25 v0_26 v0_27 v0_28 v0_29 v0_30 v0_31 v0_32 v0_33 v0_34 v0_35 v0_36 v0_37 z.2.1 z.2.2 state2) s.heap H locs → lv_has ls 2 [(0, .ref h0), (1, .int z.1)] → W p l e (rml 0 0 0) s m args below meth c H locs 0 0 Q (F0 m 11 ls [])) (fun k11 z ih11 hf => ?_) F z hf
    obtain ⟨x1, depth0, history1⟩ := z
    intro H locs ls w hl
    dsimp only at hf w hl ⊢
    unfold f_X10_keep_h11 at hf
    refine lv_iload_n hx hb dX10_keep_11 rfl (lv_at hl 1 rfl) ?_
    refine lv_aload_n hx hb dX10_keep_12 rfl (lv_at hl 0 rfl) ?_
    refine g_X10_47 C w 0 rfl rfl dX10_keep_13 ?_
    refine ilen C w 1 rfl (v := 25240) (by decide) dX10_keep_16 ?_
    refine lv_sipush (v := 2524) hx hb dX10_keep_17 (by decide) ?_
    refine lv_isub hx hb dX10_keep_20 ?_
    refine lv_icmp_ge (tgt := 46) hx hb dX10_keep_21 (by decide) (fun c4 => ?_) (fun c4 => ?_)
    · replace hf := it_t c4 hf
      refine lv_aload_n hx hb dX10_keep_46 rfl (lv_at hl 0 rfl) ?_
      refine lv_dup hx hb dX10_keep_47 rfl ?_
      refine g_X10_212 C w 0 rfl rfl dX10_keep_48 ?_
      refine lv_iconst (v := 1) hx hb dX10_keep_51 (by decide) ?_
      refine lv_isub hx hb dX10_keep_52 ?_
      refine p_X10_212 C w 0 rfl (Nat.le_of_ble_eq_true rfl) (ws2 := w_X10_keep g h0 h1 h2 v0_0 v0_1 v0_2 v0_3 v0_4 v0_5 v0_6 v0_7 v0_8 v0_9 v0_10 v0_11 v0_12 v0_13 v0_14 v0_15 v0_16 v0_17 v0_18 v0_19 v0_20 v0_24 v0_25 v0_26 v0_27 v0_28 v0_29 v0_30 v0_31 v0_32 v0_33 v0_34 v0_35 v0_36 v0_37 (depth0 - 1) history1 state2) rfl dX10_keep_53 (fun H locs w => ?_)
      exact b56 (depth0 - 1) history1 _ _ _ hf w (lv_sub hl [0] rfl)
    · replace hf := it_f c4 hf
      refine lv_aload_n hx hb dX10_keep_24 rfl (lv_at hl 0 rfl) ?_
      refine g_X10_47 C w 0 rfl rfl dX10_keep_25 ?_
      refine lv_iload_n hx hb dX10_keep_28 rfl (lv_at hl 1 rfl) ?_
      refine lv_aload_n hx hb dX10_keep_29 rfl (lv_at hl 0 rfl) ?_
      refine g_X10_47 C w 0 rfl rfl dX10_keep_30 ?_
      refine lv_iload_n hx hb dX10_keep_33 rfl (lv_at hl 1 rfl) ?_
      refine lv_sipush (v := 2524) hx hb dX10_keep_34 (by decide) ?_
      refine lv_iadd hx hb dX10_keep_37 ?_
      obtain ⟨a5, hia5, haa5, hf⟩ := rd_some hf
      refine ial C w 1 rfl hia5 haa5 dX10_keep_38 ?_
      obtain ⟨f6, hif6, haf6, hf⟩ := wr_some hf
      refine ias C w 1 rfl hif6 haf6 (ws2 := w_X10_keep g h0 h1 h2 v0_0 v0_1 v0_2 v0_3 v0_4 v0_5 v0_6 v0_7 v0_8 v0_9 v0_10 v0_11 v0_12 v0_13 v0_14 v0_15 v0_16 v0_17 v0_18 v0_19 v0_20 v0_24 v0_25 v0_26 v0_27 v0_28 v0_29 v0_30 v0_31 v0_32 v0_33 v0_34 v0_35 v0_36 v0_37 depth0 f6 state2) rfl dX10_keep_39 (fun H locs w => ?_)
      refine lv_iinc (v := x1 + 1) (lv' := [(1, .int (x1 + 1)), (0, .ref h0)]) hx hb dX10_keep_40 hl (k := 1) rfl rfl (by decide) rfl (fun ls hl => ?_)
      refine lv_goto (tgt := 11) hx hb dX10_keep_43 (by decide) ?_
      exact ih11 (x1 + 1, depth0, f6) hf _ _ _ w (lv_sub hl [1, 0] rfl)
  refine lv_aload_n hx hb dX10_keep_0 rfl (lv_at hl 0 rfl) ?_
  refine g_X10_212 C w 0 rfl rfl dX10_keep_1 ?_
  refine lv_bipush (v := 10) hx hb dX10_keep_4 (by decide) ?_
  refine lv_icmp_ne (tgt := 56) hx hb dX10_keep_6 (by decide) (fun c7 => ?_) (fun c7 => ?_)
  · replace hf := it_f c7 hf
    exact b56 depth0 history1 _ _ _ hf w (lv_sub hl [0] rfl)
  · replace hf := it_t c7 hf
    refine lv_iconst (v := 0) hx hb dX10_keep_9 (by decide) ?_
    refine lv_istore_n (lv' := [(1, .int 0), (0, .ref h0)]) hx hb dX10_keep_10 rfl hl (by decide) rfl (fun ls hl => ?_)
    exact L11 (0, depth0, history1) hf _ _ _ w (lv_sub hl [1, 0] rfl)

theorem dX10_ofPassage_0 : decode cX10_ofPassage 0 = .ok (.aload_n 0, 1) := by decide +kernel
theorem dX10_ofPassage_1 : decode cX10_ofPassage 1 = .ok (.getfield 44, 3) := by decide +kernel
theorem dX10_ofPassage_4 : decode cX10_ofPassage 4 = .ok (.iconst 4, 1) := by decide +kernel
theorem dX10_ofPassage_5 : decode cX10_ofPassage 5 = .ok (.bipush 25, 2) := by decide +kernel
theorem dX10_ofPassage_7 : decode cX10_ofPassage 7 = .ok (.iload_n 1, 1) := by decide +kernel
theorem dX10_ofPassage_8 : decode cX10_ofPassage 8 = .ok (.imul, 1) := by decide +kernel
theorem dX10_ofPassage_9 : decode cX10_ofPassage 9 = .ok (.iadd, 1) := by decide +kernel
theorem dX10_ofPassage_10 : decode cX10_ofPassage 10 = .ok (.iload_n 2, 1) := by decide +kernel
theorem dX10_ofPassage_11 : decode cX10_ofPassage 11 = .ok (.iadd, 1) := by decide +kernel
theorem dX10_ofPassage_12 : decode cX10_ofPassage 12 = .ok (.iaload, 1) := by decide +kernel
theorem dX10_ofPassage_13 : decode cX10_ofPassage 13 = .ok (.ireturn, 1) := by decide +kernel
abbrev m_X10_ofPassage : MD := (yX10_ofPassage, cX10_ofPassage, 3, (some .int))

abbrev w_X10_ofPassage (g : GT) (h0 h1 : Nat) (v0_0 v0_1 v0_2 v0_3 v0_4 v0_5 v0_6 v0_7 v0_8 v0_9 v0_10 v0_11 v0_12 v0_13 v0_14 v0_15 v0_16 v0_17 v0_18 v0_19 v0_20 v0_22 v0_23 v0_24 v0_25 v0_26 v0_27 v0_28 v0_29 v0_30 v0_31 v0_32 v0_33 v0_34 v0_35 v0_36 v0_37 : Value) (state1 : Nat → Int32) : va_W := [(h0, .inr (10, [v0_0, v0_1, v0_2, v0_3, v0_4, v0_5, v0_6, v0_7, v0_8, v0_9, v0_10, v0_11, v0_12, v0_13, v0_14, v0_15, v0_16, v0_17, v0_18, v0_19, v0_20, .ref h1, v0_22, v0_23, v0_24, v0_25, v0_26, v0_27, v0_28, v0_29, v0_30, v0_31, v0_32, v0_33, v0_34, v0_35, v0_36, v0_37])), (h1, aI g 2524 state1)]
def f_X10_ofPassage (F : Nat) (p1 p2 : Int32) (state1 : Nat → Int32) : Option (Int32) :=
  rd state1 2524 ((4 + (25 * p1)) + p2) fun a1 =>
  some a1
set_option maxHeartbeats 4000000 in
set_option maxRecDepth 100000 in
theorem c_X10_ofPassage (l : Launch) (g : GT) (F : Nat) (h0 h1 : Nat) (v0_0 v0_1 v0_2 v0_3 v0_4 v0_5 v0_6 v0_7 v0_8 v0_9 v0_10 v0_11 v0_12 v0_13 v0_14 v0_15 v0_16 v0_17 v0_18 v0_19 v0_20 v0_22 v0_23 v0_24 v0_25 v0_26 v0_27 v0_28 v0_29 v0_30 v0_31 v0_32 v0_33 v0_34 v0_35 v0_36 v0_37 : Value) (p1 p2 : Int32) (state1 : Nat → Int32) (r : Int32) (sz : Nat) (hf : f_X10_ofPassage F p1 p2 state1 = some r) : CI l m_X10_ofPassage (rml 0 0 0) g (w_X10_ofPassage g h0 h1 v0_0 v0_1 v0_2 v0_3 v0_4 v0_5 v0_6 v0_7 v0_8 v0_9 v0_10 v0_11 v0_12 v0_13 v0_14 v0_15 v0_16 v0_17 v0_18 v0_19 v0_20 v0_22 v0_23 v0_24 v0_25 v0_26 v0_27 v0_28 v0_29 v0_30 v0_31 v0_32 v0_33 v0_34 v0_35 v0_36 v0_37 state1) (fun _ => w_X10_ofPassage g h0 h1 v0_0 v0_1 v0_2 v0_3 v0_4 v0_5 v0_6 v0_7 v0_8 v0_9 v0_10 v0_11 v0_12 v0_13 v0_14 v0_15 v0_16 v0_17 v0_18 v0_19 v0_20 v0_22 v0_23 v0_24 v0_25 v0_26 v0_27 v0_28 v0_29 v0_30 v0_31 v0_32 v0_33 v0_34 v0_35 v0_36 v0_37 state1) sz [.ref h0, .int p1, .int p2] r := by
  refine en_i (by decide) (Nat.le_of_ble_eq_true rfl) (fun p e s m args below meth c A ls C w hl => ?_)
  have C : Cx p s m args meth c RX10 m_X10_ofPassage g A := C
  have hx := C.1
  have hb : c.code = cX10_ofPassage := C.2.1
  have hl : lv_has ls 3 [(0, .ref h0), (1, .int p1), (2, .int p2)] := hl
  obtain ⟨Q, hQ⟩ : ∃ Q, Q = QI below args s g A (fun _ => w_X10_ofPassage g h0 h1 v0_0 v0_1 v0_2 v0_3 v0_4 v0_5 v0_6 v0_7 v0_8 v0_9 v0_10 v0_11 v0_12 v0_13 v0_14 v0_15 v0_16 v0_17 v0_18 v0_19 v0_20 v0_22 v0_23 v0_24 v0_25 v0_26 v0_27 v0_28 v0_29 v0_30 v0_31 v0_32 v0_33 v0_34 v0_35 v0_36 v0_37 state1) r 0 0 := ⟨_, rfl⟩
  suffices hW : W p l e (rml 0 0 0) s m args below meth c s.heap [] 0 0 Q (F0 m 0 ls []) from (by rw [hQ] at hW; exact hW)
  unfold f_X10_ofPassage at hf
  refine lv_aload_n hx hb dX10_ofPassage_0 rfl (lv_at hl 0 rfl) ?_
  refine g_X10_44 C w 0 rfl rfl dX10_ofPassage_1 ?_
  refine lv_iconst (v := 4) hx hb dX10_ofPassage_4 (by decide) ?_
  refine lv_bipush (v := 25) hx hb dX10_ofPassage_5 (by decide) ?_
  refine lv_iload_n hx hb dX10_ofPassage_7 rfl (lv_at hl 1 rfl) ?_
  refine lv_imul hx hb dX10_ofPassage_8 ?_
  refine lv_iadd hx hb dX10_ofPassage_9 ?_
  refine lv_iload_n hx hb dX10_ofPassage_10 rfl (lv_at hl 2 rfl) ?_
  refine lv_iadd hx hb dX10_ofPassage_11 ?_
  obtain ⟨a1, hia1, haa1, hf⟩ := rd_some hf
  refine ial C w 1 rfl hia1 haa1 dX10_ofPassage_12 ?_
  obtain e1 := tp1 hf
  rw [hQ]
  exact rt_i C w rfl (fun _ => 0) rfl e1 dX10_ofPassage_13

theorem dX10_setPassage_0 : decode cX10_setPassage 0 = .ok (.aload_n 0, 1) := by decide +kernel
theorem dX10_setPassage_1 : decode cX10_setPassage 1 = .ok (.getfield 44, 3) := by decide +kernel
theorem dX10_setPassage_4 : decode cX10_setPassage 4 = .ok (.iconst 4, 1) := by decide +kernel
theorem dX10_setPassage_5 : decode cX10_setPassage 5 = .ok (.bipush 25, 2) := by decide +kernel
theorem dX10_setPassage_7 : decode cX10_setPassage 7 = .ok (.iload_n 1, 1) := by decide +kernel
theorem dX10_setPassage_8 : decode cX10_setPassage 8 = .ok (.imul, 1) := by decide +kernel
theorem dX10_setPassage_9 : decode cX10_setPassage 9 = .ok (.iadd, 1) := by decide +kernel
theorem dX10_setPassage_10 : decode cX10_setPassage 10 = .ok (.iload_n 2, 1) := by decide +kernel
theorem dX10_setPassage_11 : decode cX10_setPassage 11 = .ok (.iadd, 1) := by decide +kernel
theorem dX10_setPassage_12 : decode cX10_setPassage 12 = .ok (.iload_n 3, 1) := by decide +kernel
theorem dX10_setPassage_13 : decode cX10_setPassage 13 = .ok (.iastore, 1) := by decide +kernel
theorem dX10_setPassage_14 : decode cX10_setPassage 14 = .ok (.return_, 1) := by decide +kernel
abbrev m_X10_setPassage : MD := (yX10_setPassage, cX10_setPassage, 4, none)

abbrev w_X10_setPassage (g : GT) (h0 h1 : Nat) (v0_0 v0_1 v0_2 v0_3 v0_4 v0_5 v0_6 v0_7 v0_8 v0_9 v0_10 v0_11 v0_12 v0_13 v0_14 v0_15 v0_16 v0_17 v0_18 v0_19 v0_20 v0_22 v0_23 v0_24 v0_25 v0_26 v0_27 v0_28 v0_29 v0_30 v0_31 v0_32 v0_33 v0_34 v0_35 v0_36 v0_37 : Value) (state1 : Nat → Int32) : va_W := [(h0, .inr (10, [v0_0, v0_1, v0_2, v0_3, v0_4, v0_5, v0_6, v0_7, v0_8, v0_9, v0_10, v0_11, v0_12, v0_13, v0_14, v0_15, v0_16, v0_17, v0_18, v0_19, v0_20, .ref h1, v0_22, v0_23, v0_24, v0_25, v0_26, v0_27, v0_28, v0_29, v0_30, v0_31, v0_32, v0_33, v0_34, v0_35, v0_36, v0_37])), (h1, aI g 2524 state1)]
def f_X10_setPassage (F : Nat) (p1 p2 p3 : Int32) (state1 : Nat → Int32) : Option ((Nat → Int32)) :=
  wr state1 2524 ((4 + (25 * p1)) + p2) p3 fun f1 =>
  some f1
set_option maxHeartbeats 4000000 in
set_option maxRecDepth 100000 in
theorem c_X10_setPassage (l : Launch) (g : GT) (F : Nat) (h0 h1 : Nat) (v0_0 v0_1 v0_2 v0_3 v0_4 v0_5 v0_6 v0_7 v0_8 v0_9 v0_10 v0_11 v0_12 v0_13 v0_14 v0_15 v0_16 v0_17 v0_18 v0_19 v0_20 v0_22 v0_23 v0_24 v0_25 v0_26 v0_27 v0_28 v0_29 v0_30 v0_31 v0_32 v0_33 v0_34 v0_35 v0_36 v0_37 : Value) (p1 p2 p3 : Int32) (state1 : Nat → Int32) (o_state1 : Nat → Int32) (sz : Nat) (hf : f_X10_setPassage F p1 p2 p3 state1 = some o_state1) : CV l m_X10_setPassage (rml 0 0 0) g (w_X10_setPassage g h0 h1 v0_0 v0_1 v0_2 v0_3 v0_4 v0_5 v0_6 v0_7 v0_8 v0_9 v0_10 v0_11 v0_12 v0_13 v0_14 v0_15 v0_16 v0_17 v0_18 v0_19 v0_20 v0_22 v0_23 v0_24 v0_25 v0_26 v0_27 v0_28 v0_29 v0_30 v0_31 v0_32 v0_33 v0_34 v0_35 v0_36 v0_37 state1) (fun _ => w_X10_setPassage g h0 h1 v0_0 v0_1 v0_2 v0_3 v0_4 v0_5 v0_6 v0_7 v0_8 v0_9 v0_10 v0_11 v0_12 v0_13 v0_14 v0_15 v0_16 v0_17 v0_18 v0_19 v0_20 v0_22 v0_23 v0_24 v0_25 v0_26 v0_27 v0_28 v0_29 v0_30 v0_31 v0_32 v0_33 v0_34 v0_35 v0_36 v0_37 o_state1) sz [.ref h0, .int p1, .int p2, .int p3] := by
  refine en_v (by decide) (Nat.le_of_ble_eq_true rfl) (fun p e s m args below meth c A ls C w hl => ?_)
  have C : Cx p s m args meth c RX10 m_X10_setPassage g A := C
  have hx := C.1
  have hb : c.code = cX10_setPassage := C.2.1
  have hl : lv_has ls 4 [(0, .ref h0), (1, .int p1), (2, .int p2), (3, .int p3)] := hl
  obtain ⟨Q, hQ⟩ : ∃ Q, Q = QV below args s g A (fun _ => w_X10_setPassage g h0 h1 v0_0 v0_1 v0_2 v0_3 v0_4 v0_5 v0_6 v0_7 v0_8 v0_9 v0_10 v0_11 v0_12 v0_13 v0_14 v0_15 v0_16 v0_17 v0_18 v0_19 v0_20 v0_22 v0_23 v0_24 v0_25 v0_26 v0_27 v0_28 v0_29 v0_30 v0_31 v0_32 v0_33 v0_34 v0_35 v0_36 v0_37 o_state1) 0 0 := ⟨_, rfl⟩
  suffices hW : W p l e (rml 0 0 0) s m args below meth c s.heap [] 0 0 Q (F0 m 0 ls []) from (by rw [hQ] at hW; exact hW)
  unfold f_X10_setPassage at hf
  refine lv_aload_n hx hb dX10_setPassage_0 rfl (lv_at hl 0 rfl) ?_
  refine g_X10_44 C w 0 rfl rfl dX10_setPassage_1 ?_
  refine lv_iconst (v := 4) hx hb dX10_setPassage_4 (by decide) ?_
  refine lv_bipush (v := 25) hx hb dX10_setPassage_5 (by decide) ?_
  refine lv_iload_n hx hb dX10_setPassage_7 rfl (lv_at hl 1 rfl) ?_
  refine lv_imul hx hb dX10_setPassage_8 ?_
  refine lv_iadd hx hb dX10_setPassage_9 ?_
  refine lv_iload_n hx hb dX10_setPassage_10 rfl (lv_at hl 2 rfl) ?_
  refine lv_iadd hx hb dX10_setPassage_11 ?_
  refine lv_iload_n hx hb dX10_setPassage_12 rfl (lv_at hl 3 rfl) ?_
  obtain ⟨f1, hif1, haf1, hf⟩ := wr_some hf
  refine ias C w 1 rfl hif1 haf1 (ws2 := w_X10_setPassage g h0 h1 v0_0 v0_1 v0_2 v0_3 v0_4 v0_5 v0_6 v0_7 v0_8 v0_9 v0_10 v0_11 v0_12 v0_13 v0_14 v0_15 v0_16 v0_17 v0_18 v0_19 v0_20 v0_22 v0_23 v0_24 v0_25 v0_26 v0_27 v0_28 v0_29 v0_30 v0_31 v0_32 v0_33 v0_34 v0_35 v0_36 v0_37 f1) rfl dX10_setPassage_13 (fun H locs w => ?_)
  obtain e1 := tp1 hf
  rw [hQ]
  exact rt_v C w rfl (fun _ => 0) (by rw [← e1]) dX10_setPassage_14

theorem dX10_ofTrip_0 : decode cX10_ofTrip 0 = .ok (.aload_n 0, 1) := by decide +kernel
theorem dX10_ofTrip_1 : decode cX10_ofTrip 1 = .ok (.getfield 44, 3) := by decide +kernel
theorem dX10_ofTrip_4 : decode cX10_ofTrip 4 = .ok (.sipush 2004, 3) := by decide +kernel
theorem dX10_ofTrip_7 : decode cX10_ofTrip 7 = .ok (.iconst 5, 1) := by decide +kernel
theorem dX10_ofTrip_8 : decode cX10_ofTrip 8 = .ok (.iload_n 1, 1) := by decide +kernel
theorem dX10_ofTrip_9 : decode cX10_ofTrip 9 = .ok (.imul, 1) := by decide +kernel
theorem dX10_ofTrip_10 : decode cX10_ofTrip 10 = .ok (.iadd, 1) := by decide +kernel
theorem dX10_ofTrip_11 : decode cX10_ofTrip 11 = .ok (.iload_n 2, 1) := by decide +kernel
theorem dX10_ofTrip_12 : decode cX10_ofTrip 12 = .ok (.iadd, 1) := by decide +kernel
theorem dX10_ofTrip_13 : decode cX10_ofTrip 13 = .ok (.iaload, 1) := by decide +kernel
theorem dX10_ofTrip_14 : decode cX10_ofTrip 14 = .ok (.ireturn, 1) := by decide +kernel
abbrev m_X10_ofTrip : MD := (yX10_ofTrip, cX10_ofTrip, 3, (some .int))

abbrev w_X10_ofTrip (g : GT) (h0 h1 : Nat) (v0_0 v0_1 v0_2 v0_3 v0_4 v0_5 v0_6 v0_7 v0_8 v0_9 v0_10 v0_11 v0_12 v0_13 v0_14 v0_15 v0_16 v0_17 v0_18 v0_19 v0_20 v0_22 v0_23 v0_24 v0_25 v0_26 v0_27 v0_28 v0_29 v0_30 v0_31 v0_32 v0_33 v0_34 v0_35 v0_36 v0_37 : Value) (state1 : Nat → Int32) : va_W := [(h0, .inr (10, [v0_0, v0_1, v0_2, v0_3, v0_4, v0_5, v0_6, v0_7, v0_8, v0_9, v0_10, v0_11, v0_12, v0_13, v0_14, v0_15, v0_16, v0_17, v0_18, v0_19, v0_20, .ref h1, v0_22, v0_23, v0_24, v0_25, v0_26, v0_27, v0_28, v0_29, v0_30, v0_31, v0_32, v0_33, v0_34, v0_35, v0_36, v0_37])), (h1, aI g 2524 state1)]
def f_X10_ofTrip (F : Nat) (p1 p2 : Int32) (state1 : Nat → Int32) : Option (Int32) :=
  rd state1 2524 ((2004 + (5 * p1)) + p2) fun a1 =>
  some a1
set_option maxHeartbeats 4000000 in
set_option maxRecDepth 100000 in
theorem c_X10_ofTrip (l : Launch) (g : GT) (F : Nat) (h0 h1 : Nat) (v0_0 v0_1 v0_2 v0_3 v0_4 v0_5 v0_6 v0_7 v0_8 v0_9 v0_10 v0_11 v0_12 v0_13 v0_14 v0_15 v0_16 v0_17 v0_18 v0_19 v0_20 v0_22 v0_23 v0_24 v0_25 v0_26 v0_27 v0_28 v0_29 v0_30 v0_31 v0_32 v0_33 v0_34 v0_35 v0_36 v0_37 : Value) (p1 p2 : Int32) (state1 : Nat → Int32) (r : Int32) (sz : Nat) (hf : f_X10_ofTrip F p1 p2 state1 = some r) : CI l m_X10_ofTrip (rml 0 0 0) g (w_X10_ofTrip g h0 h1 v0_0 v0_1 v0_2 v0_3 v0_4 v0_5 v0_6 v0_7 v0_8 v0_9 v0_10 v0_11 v0_12 v0_13 v0_14 v0_15 v0_16 v0_17 v0_18 v0_19 v0_20 v0_22 v0_23 v0_24 v0_25 v0_26 v0_27 v0_28 v0_29 v0_30 v0_31 v0_32 v0_33 v0_34 v0_35 v0_36 v0_37 state1) (fun _ => w_X10_ofTrip g h0 h1 v0_0 v0_1 v0_2 v0_3 v0_4 v0_5 v0_6 v0_7 v0_8 v0_9 v0_10 v0_11 v0_12 v0_13 v0_14 v0_15 v0_16 v0_17 v0_18 v0_19 v0_20 v0_22 v0_23 v0_24 v0_25 v0_26 v0_27 v0_28 v0_29 v0_30 v0_31 v0_32 v0_33 v0_34 v0_35 v0_36 v0_37 state1) sz [.ref h0, .int p1, .int p2] r := by
  refine en_i (by decide) (Nat.le_of_ble_eq_true rfl) (fun p e s m args below meth c A ls C w hl => ?_)
  have C : Cx p s m args meth c RX10 m_X10_ofTrip g A := C
  have hx := C.1
  have hb : c.code = cX10_ofTrip := C.2.1
  have hl : lv_has ls 3 [(0, .ref h0), (1, .int p1), (2, .int p2)] := hl
  obtain ⟨Q, hQ⟩ : ∃ Q, Q = QI below args s g A (fun _ => w_X10_ofTrip g h0 h1 v0_0 v0_1 v0_2 v0_3 v0_4 v0_5 v0_6 v0_7 v0_8 v0_9 v0_10 v0_11 v0_12 v0_13 v0_14 v0_15 v0_16 v0_17 v0_18 v0_19 v0_20 v0_22 v0_23 v0_24 v0_25 v0_26 v0_27 v0_28 v0_29 v0_30 v0_31 v0_32 v0_33 v0_34 v0_35 v0_36 v0_37 state1) r 0 0 := ⟨_, rfl⟩
  suffices hW : W p l e (rml 0 0 0) s m args below meth c s.heap [] 0 0 Q (F0 m 0 ls []) from (by rw [hQ] at hW; exact hW)
  unfold f_X10_ofTrip at hf
  refine lv_aload_n hx hb dX10_ofTrip_0 rfl (lv_at hl 0 rfl) ?_
  refine g_X10_44 C w 0 rfl rfl dX10_ofTrip_1 ?_
  refine lv_sipush (v := 2004) hx hb dX10_ofTrip_4 (by decide) ?_
  refine lv_iconst (v := 5) hx hb dX10_ofTrip_7 (by decide) ?_
  refine lv_iload_n hx hb dX10_ofTrip_8 rfl (lv_at hl 1 rfl) ?_
  refine lv_imul hx hb dX10_ofTrip_9 ?_
  refine lv_iadd hx hb dX10_ofTrip_10 ?_
  refine lv_iload_n hx hb dX10_ofTrip_11 rfl (lv_at hl 2 rfl) ?_
  refine lv_iadd hx hb dX10_ofTrip_12 ?_
  obtain ⟨a1, hia1, haa1, hf⟩ := rd_some hf
  refine ial C w 1 rfl hia1 haa1 dX10_ofTrip_13 ?_
  obtain e1 := tp1 hf
  rw [hQ]
  exact rt_i C w rfl (fun _ => 0) rfl e1 dX10_ofTrip_14

theorem dX10_ofInvoice_0 : decode cX10_ofInvoice 0 = .ok (.aload_n 0, 1) := by decide +kernel
theorem dX10_ofInvoice_1 : decode cX10_ofInvoice 1 = .ok (.getfield 44, 3) := by decide +kernel
theorem dX10_ofInvoice_4 : decode cX10_ofInvoice 4 = .ok (.sipush 2404, 3) := by decide +kernel
theorem dX10_ofInvoice_7 : decode cX10_ofInvoice 7 = .ok (.iconst 3, 1) := by decide +kernel
theorem dX10_ofInvoice_8 : decode cX10_ofInvoice 8 = .ok (.iload_n 1, 1) := by decide +kernel
theorem dX10_ofInvoice_9 : decode cX10_ofInvoice 9 = .ok (.imul, 1) := by decide +kernel
theorem dX10_ofInvoice_10 : decode cX10_ofInvoice 10 = .ok (.iadd, 1) := by decide +kernel
theorem dX10_ofInvoice_11 : decode cX10_ofInvoice 11 = .ok (.iload_n 2, 1) := by decide +kernel
theorem dX10_ofInvoice_12 : decode cX10_ofInvoice 12 = .ok (.iadd, 1) := by decide +kernel
theorem dX10_ofInvoice_13 : decode cX10_ofInvoice 13 = .ok (.iaload, 1) := by decide +kernel
theorem dX10_ofInvoice_14 : decode cX10_ofInvoice 14 = .ok (.ireturn, 1) := by decide +kernel
abbrev m_X10_ofInvoice : MD := (yX10_ofInvoice, cX10_ofInvoice, 3, (some .int))

abbrev w_X10_ofInvoice (g : GT) (h0 h1 : Nat) (v0_0 v0_1 v0_2 v0_3 v0_4 v0_5 v0_6 v0_7 v0_8 v0_9 v0_10 v0_11 v0_12 v0_13 v0_14 v0_15 v0_16 v0_17 v0_18 v0_19 v0_20 v0_22 v0_23 v0_24 v0_25 v0_26 v0_27 v0_28 v0_29 v0_30 v0_31 v0_32 v0_33 v0_34 v0_35 v0_36 v0_37 : Value) (state1 : Nat → Int32) : va_W := [(h0, .inr (10, [v0_0, v0_1, v0_2, v0_3, v0_4, v0_5, v0_6, v0_7, v0_8, v0_9, v0_10, v0_11, v0_12, v0_13, v0_14, v0_15, v0_16, v0_17, v0_18, v0_19, v0_20, .ref h1, v0_22, v0_23, v0_24, v0_25, v0_26, v0_27, v0_28, v0_29, v0_30, v0_31, v0_32, v0_33, v0_34, v0_35, v0_36, v0_37])), (h1, aI g 2524 state1)]
def f_X10_ofInvoice (F : Nat) (p1 p2 : Int32) (state1 : Nat → Int32) : Option (Int32) :=
  rd state1 2524 ((2404 + (3 * p1)) + p2) fun a1 =>
  some a1
set_option maxHeartbeats 4000000 in
set_option maxRecDepth 100000 in
theorem c_X10_ofInvoice (l : Launch) (g : GT) (F : Nat) (h0 h1 : Nat) (v0_0 v0_1 v0_2 v0_3 v0_4 v0_5 v0_6 v0_7 v0_8 v0_9 v0_10 v0_11 v0_12 v0_13 v0_14 v0_15 v0_16 v0_17 v0_18 v0_19 v0_20 v0_22 v0_23 v0_24 v0_25 v0_26 v0_27 v0_28 v0_29 v0_30 v0_31 v0_32 v0_33 v0_34 v0_35 v0_36 v0_37 : Value) (p1 p2 : Int32) (state1 : Nat → Int32) (r : Int32) (sz : Nat) (hf : f_X10_ofInvoice F p1 p2 state1 = some r) : CI l m_X10_ofInvoice (rml 0 0 0) g (w_X10_ofInvoice g h0 h1 v0_0 v0_1 v0_2 v0_3 v0_4 v0_5 v0_6 v0_7 v0_8 v0_9 v0_10 v0_11 v0_12 v0_13 v0_14 v0_15 v0_16 v0_17 v0_18 v0_19 v0_20 v0_22 v0_23 v0_24 v0_25 v0_26 v0_27 v0_28 v0_29 v0_30 v0_31 v0_32 v0_33 v0_34 v0_35 v0_36 v0_37 state1) (fun _ => w_X10_ofInvoice g h0 h1 v0_0 v0_1 v0_2 v0_3 v0_4 v0_5 v0_6 v0_7 v0_8 v0_9 v0_10 v0_11 v0_12 v0_13 v0_14 v0_15 v0_16 v0_17 v0_18 v0_19 v0_20 v0_22 v0_23 v0_24 v0_25 v0_26 v0_27 v0_28 v0_29 v0_30 v0_31 v0_32 v0_33 v0_34 v0_35 v0_36 v0_37 state1) sz [.ref h0, .int p1, .int p2] r := by
  refine en_i (by decide) (Nat.le_of_ble_eq_true rfl) (fun p e s m args below meth c A ls C w hl => ?_)
  have C : Cx p s m args meth c RX10 m_X10_ofInvoice g A := C
  have hx := C.1
  have hb : c.code = cX10_ofInvoice := C.2.1
  have hl : lv_has ls 3 [(0, .ref h0), (1, .int p1), (2, .int p2)] := hl
  obtain ⟨Q, hQ⟩ : ∃ Q, Q = QI below args s g A (fun _ => w_X10_ofInvoice g h0 h1 v0_0 v0_1 v0_2 v0_3 v0_4 v0_5 v0_6 v0_7 v0_8 v0_9 v0_10 v0_11 v0_12 v0_13 v0_14 v0_15 v0_16 v0_17 v0_18 v0_19 v0_20 v0_22 v0_23 v0_24 v0_25 v0_26 v0_27 v0_28 v0_29 v0_30 v0_31 v0_32 v0_33 v0_34 v0_35 v0_36 v0_37 state1) r 0 0 := ⟨_, rfl⟩
  suffices hW : W p l e (rml 0 0 0) s m args below meth c s.heap [] 0 0 Q (F0 m 0 ls []) from (by rw [hQ] at hW; exact hW)
  unfold f_X10_ofInvoice at hf
  refine lv_aload_n hx hb dX10_ofInvoice_0 rfl (lv_at hl 0 rfl) ?_
  refine g_X10_44 C w 0 rfl rfl dX10_ofInvoice_1 ?_
  refine lv_sipush (v := 2404) hx hb dX10_ofInvoice_4 (by decide) ?_
  refine lv_iconst (v := 3) hx hb dX10_ofInvoice_7 (by decide) ?_
  refine lv_iload_n hx hb dX10_ofInvoice_8 rfl (lv_at hl 1 rfl) ?_
  refine lv_imul hx hb dX10_ofInvoice_9 ?_
  refine lv_iadd hx hb dX10_ofInvoice_10 ?_
  refine lv_iload_n hx hb dX10_ofInvoice_11 rfl (lv_at hl 2 rfl) ?_
  refine lv_iadd hx hb dX10_ofInvoice_12 ?_
  obtain ⟨a1, hia1, haa1, hf⟩ := rd_some hf
  refine ial C w 1 rfl hia1 haa1 dX10_ofInvoice_13 ?_
  obtain e1 := tp1 hf
  rw [hQ]
  exact rt_i C w rfl (fun _ => 0) rfl e1 dX10_ofInvoice_14

theorem dX10_isPassage_0 : decode cX10_isPassage 0 = .ok (.iload_n 1, 1) := by decide +kernel
theorem dX10_isPassage_1 : decode cX10_isPassage 1 = .ok (.i2l, 1) := by decide +kernel
theorem dX10_isPassage_2 : decode cX10_isPassage 2 = .ok (.lconst 0, 1) := by decide +kernel
theorem dX10_isPassage_3 : decode cX10_isPassage 3 = .ok (.aload_n 0, 1) := by decide +kernel
theorem dX10_isPassage_4 : decode cX10_isPassage 4 = .ok (.getfield 44, 3) := by decide +kernel
theorem dX10_isPassage_7 : decode cX10_isPassage 7 = .ok (.iconst 0, 1) := by decide +kernel
theorem dX10_isPassage_8 : decode cX10_isPassage 8 = .ok (.iaload, 1) := by decide +kernel
theorem dX10_isPassage_9 : decode cX10_isPassage 9 = .ok (.iconst 1, 1) := by decide +kernel
theorem dX10_isPassage_10 : decode cX10_isPassage 10 = .ok (.isub, 1) := by decide +kernel
theorem dX10_isPassage_11 : decode cX10_isPassage 11 = .ok (.i2l, 1) := by decide +kernel
theorem dX10_isPassage_12 : decode cX10_isPassage 12 = .ok (.invokestatic 115, 3) := by decide +kernel
theorem dX10_isPassage_15 : decode cX10_isPassage 15 = .ok (.ireturn, 1) := by decide +kernel
abbrev m_X10_isPassage : MD := (yX10_isPassage, cX10_isPassage, 2, (some .boolean))

abbrev w_X10_isPassage (g : GT) (h0 h1 : Nat) (v0_0 v0_1 v0_2 v0_3 v0_4 v0_5 v0_6 v0_7 v0_8 v0_9 v0_10 v0_11 v0_12 v0_13 v0_14 v0_15 v0_16 v0_17 v0_18 v0_19 v0_20 v0_22 v0_23 v0_24 v0_25 v0_26 v0_27 v0_28 v0_29 v0_30 v0_31 v0_32 v0_33 v0_34 v0_35 v0_36 v0_37 : Value) (state1 : Nat → Int32) : va_W := [(h0, .inr (10, [v0_0, v0_1, v0_2, v0_3, v0_4, v0_5, v0_6, v0_7, v0_8, v0_9, v0_10, v0_11, v0_12, v0_13, v0_14, v0_15, v0_16, v0_17, v0_18, v0_19, v0_20, .ref h1, v0_22, v0_23, v0_24, v0_25, v0_26, v0_27, v0_28, v0_29, v0_30, v0_31, v0_32, v0_33, v0_34, v0_35, v0_36, v0_37])), (h1, aI g 2524 state1)]
def f_X10_isPassage (F : Nat) (p1 : Int32) (state1 : Nat → Int32) : Option (Int32) :=
  rd state1 2524 0 fun a1 =>
  bd1 (f_X10_within F p1.toInt64 0 ((a1 - 1).toInt64)) fun r2 =>
  gd (r2 = 0 ∨ r2 = 1) (some r2)
set_option maxHeartbeats 4000000 in
set_option maxRecDepth 100000 in
theorem c_X10_isPassage (l : Launch) (g : GT) (F : Nat) (h0 h1 : Nat) (v0_0 v0_1 v0_2 v0_3 v0_4 v0_5 v0_6 v0_7 v0_8 v0_9 v0_10 v0_11 v0_12 v0_13 v0_14 v0_15 v0_16 v0_17 v0_18 v0_19 v0_20 v0_22 v0_23 v0_24 v0_25 v0_26 v0_27 v0_28 v0_29 v0_30 v0_31 v0_32 v0_33 v0_34 v0_35 v0_36 v0_37 : Value) (p1 : Int32) (state1 : Nat → Int32) (r : Int32) (sz : Nat) (hf : f_X10_isPassage F p1 state1 = some r) : CI l m_X10_isPassage (rml 1 0 0) g (w_X10_isPassage g h0 h1 v0_0 v0_1 v0_2 v0_3 v0_4 v0_5 v0_6 v0_7 v0_8 v0_9 v0_10 v0_11 v0_12 v0_13 v0_14 v0_15 v0_16 v0_17 v0_18 v0_19 v0_20 v0_22 v0_23 v0_24 v0_25 v0_26 v0_27 v0_28 v0_29 v0_30 v0_31 v0_32 v0_33 v0_34 v0_35 v0_36 v0_37 state1) (fun _ => w_X10_isPassage g h0 h1 v0_0 v0_1 v0_2 v0_3 v0_4 v0_5 v0_6 v0_7 v0_8 v0_9 v0_10 v0_11 v0_12 v0_13 v0_14 v0_15 v0_16 v0_17 v0_18 v0_19 v0_20 v0_22 v0_23 v0_24 v0_25 v0_26 v0_27 v0_28 v0_29 v0_30 v0_31 v0_32 v0_33 v0_34 v0_35 v0_36 v0_37 state1) sz [.ref h0, .int p1] r := by
  refine en_i (by decide) (Nat.le_of_ble_eq_true rfl) (fun p e s m args below meth c A ls C w hl => ?_)
  have C : Cx p s m args meth c RX10 m_X10_isPassage g A := C
  have hx := C.1
  have hb : c.code = cX10_isPassage := C.2.1
  have hl : lv_has ls 2 [(0, .ref h0), (1, .int p1)] := hl
  obtain ⟨Q, hQ⟩ : ∃ Q, Q = QI below args s g A (fun _ => w_X10_isPassage g h0 h1 v0_0 v0_1 v0_2 v0_3 v0_4 v0_5 v0_6 v0_7 v0_8 v0_9 v0_10 v0_11 v0_12 v0_13 v0_14 v0_15 v0_16 v0_17 v0_18 v0_19 v0_20 v0_22 v0_23 v0_24 v0_25 v0_26 v0_27 v0_28 v0_29 v0_30 v0_31 v0_32 v0_33 v0_34 v0_35 v0_36 v0_37 state1) r 0 0 := ⟨_, rfl⟩
  suffices hW : W p l e (rml 1 0 0) s m args below meth c s.heap [] 0 0 Q (F0 m 0 ls []) from (by rw [hQ] at hW; exact hW)
  unfold f_X10_isPassage at hf
  refine lv_iload_n hx hb dX10_isPassage_0 rfl (lv_at hl 1 rfl) ?_
  refine lv_i2l (v := p1.toInt64) hx hb dX10_isPassage_1 rfl ?_
  refine lv_lconst (v := 0) hx hb dX10_isPassage_2 (by decide) ?_
  refine lv_aload_n hx hb dX10_isPassage_3 rfl (lv_at hl 0 rfl) ?_
  refine g_X10_44 C w 0 rfl rfl dX10_isPassage_4 ?_
  refine lv_iconst (v := 0) hx hb dX10_isPassage_7 (by decide) ?_
  obtain ⟨a1, hia1, haa1, hf⟩ := rd_some hf
  refine ial C w 1 rfl hia1 haa1 dX10_isPassage_8 ?_
  refine lv_iconst (v := 1) hx hb dX10_isPassage_9 (by decide) ?_
  refine lv_isub hx hb dX10_isPassage_10 ?_
  refine lv_i2l (v := (a1 - 1).toInt64) hx hb dX10_isPassage_11 rfl ?_
  obtain ⟨r2, hc3, hf⟩ := bd1_some hf
  refine ca_iS C w [] [0, 1] [0, 1] (wr := pk (w_X10_isPassage g h0 h1 v0_0 v0_1 v0_2 v0_3 v0_4 v0_5 v0_6 v0_7 v0_8 v0_9 v0_10 v0_11 v0_12 v0_13 v0_14 v0_15 v0_16 v0_17 v0_18 v0_19 v0_20 v0_22 v0_23 v0_24 v0_25 v0_26 v0_27 v0_28 v0_29 v0_30 v0_31 v0_32 v0_33 v0_34 v0_35 v0_36 v0_37 state1) [0, 1]) (wn := fun _ => w_X10_isPassage g h0 h1 v0_0 v0_1 v0_2 v0_3 v0_4 v0_5 v0_6 v0_7 v0_8 v0_9 v0_10 v0_11 v0_12 v0_13 v0_14 v0_15 v0_16 v0_17 v0_18 v0_19 v0_20 v0_22 v0_23 v0_24 v0_25 v0_26 v0_27 v0_28 v0_29 v0_30 v0_31 v0_32 v0_33 v0_34 v0_35 v0_36 v0_37 state1) ⟨rfl, rfl, rfl, rfl, by decide, rfl, fun _ => rfl⟩ (c_X10_within l g F p1.toInt64 0 ((a1 - 1).toInt64) r2 _ hc3) k_X10_115 (rm_le (by decide) (by decide)) rfl hl.1 rfl (Nat.le_of_ble_eq_true rfl) dX10_isPassage_12 ⟨Nat.le_of_ble_eq_true rfl, Nat.le_of_ble_eq_true rfl⟩ (cells2 := 0) (slots2 := 0) ⟨rfl, rfl⟩ (fun _ H locs w => ?_)
  obtain ⟨h01, hf⟩ := gd_some hf
  obtain e1 := tp1 hf
  rw [hQ]
  exact rt_z C w rfl h01 (fun _ => 0) rfl e1 dX10_isPassage_15

theorem dX10_isTrip_0 : decode cX10_isTrip 0 = .ok (.iload_n 1, 1) := by decide +kernel
theorem dX10_isTrip_1 : decode cX10_isTrip 1 = .ok (.i2l, 1) := by decide +kernel
theorem dX10_isTrip_2 : decode cX10_isTrip 2 = .ok (.lconst 0, 1) := by decide +kernel
theorem dX10_isTrip_3 : decode cX10_isTrip 3 = .ok (.aload_n 0, 1) := by decide +kernel
theorem dX10_isTrip_4 : decode cX10_isTrip 4 = .ok (.getfield 44, 3) := by decide +kernel
theorem dX10_isTrip_7 : decode cX10_isTrip 7 = .ok (.iconst 1, 1) := by decide +kernel
theorem dX10_isTrip_8 : decode cX10_isTrip 8 = .ok (.iaload, 1) := by decide +kernel
theorem dX10_isTrip_9 : decode cX10_isTrip 9 = .ok (.iconst 1, 1) := by decide +kernel
theorem dX10_isTrip_10 : decode cX10_isTrip 10 = .ok (.isub, 1) := by decide +kernel
theorem dX10_isTrip_11 : decode cX10_isTrip 11 = .ok (.i2l, 1) := by decide +kernel
theorem dX10_isTrip_12 : decode cX10_isTrip 12 = .ok (.invokestatic 115, 3) := by decide +kernel
theorem dX10_isTrip_15 : decode cX10_isTrip 15 = .ok (.ireturn, 1) := by decide +kernel
abbrev m_X10_isTrip : MD := (yX10_isTrip, cX10_isTrip, 2, (some .boolean))

abbrev w_X10_isTrip (g : GT) (h0 h1 : Nat) (v0_0 v0_1 v0_2 v0_3 v0_4 v0_5 v0_6 v0_7 v0_8 v0_9 v0_10 v0_11 v0_12 v0_13 v0_14 v0_15 v0_16 v0_17 v0_18 v0_19 v0_20 v0_22 v0_23 v0_24 v0_25 v0_26 v0_27 v0_28 v0_29 v0_30 v0_31 v0_32 v0_33 v0_34 v0_35 v0_36 v0_37 : Value) (state1 : Nat → Int32) : va_W := [(h0, .inr (10, [v0_0, v0_1, v0_2, v0_3, v0_4, v0_5, v0_6, v0_7, v0_8, v0_9, v0_10, v0_11, v0_12, v0_13, v0_14, v0_15, v0_16, v0_17, v0_18, v0_19, v0_20, .ref h1, v0_22, v0_23, v0_24, v0_25, v0_26, v0_27, v0_28, v0_29, v0_30, v0_31, v0_32, v0_33, v0_34, v0_35, v0_36, v0_37])), (h1, aI g 2524 state1)]
def f_X10_isTrip (F : Nat) (p1 : Int32) (state1 : Nat → Int32) : Option (Int32) :=
  rd state1 2524 1 fun a1 =>
  bd1 (f_X10_within F p1.toInt64 0 ((a1 - 1).toInt64)) fun r2 =>
  gd (r2 = 0 ∨ r2 = 1) (some r2)
set_option maxHeartbeats 4000000 in
set_option maxRecDepth 100000 in
theorem c_X10_isTrip (l : Launch) (g : GT) (F : Nat) (h0 h1 : Nat) (v0_0 v0_1 v0_2 v0_3 v0_4 v0_5 v0_6 v0_7 v0_8 v0_9 v0_10 v0_11 v0_12 v0_13 v0_14 v0_15 v0_16 v0_17 v0_18 v0_19 v0_20 v0_22 v0_23 v0_24 v0_25 v0_26 v0_27 v0_28 v0_29 v0_30 v0_31 v0_32 v0_33 v0_34 v0_35 v0_36 v0_37 : Value) (p1 : Int32) (state1 : Nat → Int32) (r : Int32) (sz : Nat) (hf : f_X10_isTrip F p1 state1 = some r) : CI l m_X10_isTrip (rml 1 0 0) g (w_X10_isTrip g h0 h1 v0_0 v0_1 v0_2 v0_3 v0_4 v0_5 v0_6 v0_7 v0_8 v0_9 v0_10 v0_11 v0_12 v0_13 v0_14 v0_15 v0_16 v0_17 v0_18 v0_19 v0_20 v0_22 v0_23 v0_24 v0_25 v0_26 v0_27 v0_28 v0_29 v0_30 v0_31 v0_32 v0_33 v0_34 v0_35 v0_36 v0_37 state1) (fun _ => w_X10_isTrip g h0 h1 v0_0 v0_1 v0_2 v0_3 v0_4 v0_5 v0_6 v0_7 v0_8 v0_9 v0_10 v0_11 v0_12 v0_13 v0_14 v0_15 v0_16 v0_17 v0_18 v0_19 v0_20 v0_22 v0_23 v0_24 v0_25 v0_26 v0_27 v0_28 v0_29 v0_30 v0_31 v0_32 v0_33 v0_34 v0_35 v0_36 v0_37 state1) sz [.ref h0, .int p1] r := by
  refine en_i (by decide) (Nat.le_of_ble_eq_true rfl) (fun p e s m args below meth c A ls C w hl => ?_)
  have C : Cx p s m args meth c RX10 m_X10_isTrip g A := C
  have hx := C.1
  have hb : c.code = cX10_isTrip := C.2.1
  have hl : lv_has ls 2 [(0, .ref h0), (1, .int p1)] := hl
  obtain ⟨Q, hQ⟩ : ∃ Q, Q = QI below args s g A (fun _ => w_X10_isTrip g h0 h1 v0_0 v0_1 v0_2 v0_3 v0_4 v0_5 v0_6 v0_7 v0_8 v0_9 v0_10 v0_11 v0_12 v0_13 v0_14 v0_15 v0_16 v0_17 v0_18 v0_19 v0_20 v0_22 v0_23 v0_24 v0_25 v0_26 v0_27 v0_28 v0_29 v0_30 v0_31 v0_32 v0_33 v0_34 v0_35 v0_36 v0_37 state1) r 0 0 := ⟨_, rfl⟩
  suffices hW : W p l e (rml 1 0 0) s m args below meth c s.heap [] 0 0 Q (F0 m 0 ls []) from (by rw [hQ] at hW; exact hW)
  unfold f_X10_isTrip at hf
  refine lv_iload_n hx hb dX10_isTrip_0 rfl (lv_at hl 1 rfl) ?_
  refine lv_i2l (v := p1.toInt64) hx hb dX10_isTrip_1 rfl ?_
  refine lv_lconst (v := 0) hx hb dX10_isTrip_2 (by decide) ?_
  refine lv_aload_n hx hb dX10_isTrip_3 rfl (lv_at hl 0 rfl) ?_
  refine g_X10_44 C w 0 rfl rfl dX10_isTrip_4 ?_
  refine lv_iconst (v := 1) hx hb dX10_isTrip_7 (by decide) ?_
  obtain ⟨a1, hia1, haa1, hf⟩ := rd_some hf
  refine ial C w 1 rfl hia1 haa1 dX10_isTrip_8 ?_
  refine lv_iconst (v := 1) hx hb dX10_isTrip_9 (by decide) ?_
  refine lv_isub hx hb dX10_isTrip_10 ?_
  refine lv_i2l (v := (a1 - 1).toInt64) hx hb dX10_isTrip_11 rfl ?_
  obtain ⟨r2, hc3, hf⟩ := bd1_some hf
  refine ca_iS C w [] [0, 1] [0, 1] (wr := pk (w_X10_isTrip g h0 h1 v0_0 v0_1 v0_2 v0_3 v0_4 v0_5 v0_6 v0_7 v0_8 v0_9 v0_10 v0_11 v0_12 v0_13 v0_14 v0_15 v0_16 v0_17 v0_18 v0_19 v0_20 v0_22 v0_23 v0_24 v0_25 v0_26 v0_27 v0_28 v0_29 v0_30 v0_31 v0_32 v0_33 v0_34 v0_35 v0_36 v0_37 state1) [0, 1]) (wn := fun _ => w_X10_isTrip g h0 h1 v0_0 v0_1 v0_2 v0_3 v0_4 v0_5 v0_6 v0_7 v0_8 v0_9 v0_10 v0_11 v0_12 v0_13 v0_14 v0_15 v0_16 v0_17 v0_18 v0_19 v0_20 v0_22 v0_23 v0_24 v0_25 v0_26 v0_27 v0_28 v0_29 v0_30 v0_31 v0_32 v0_33 v0_34 v0_35 v0_36 v0_37 state1) ⟨rfl, rfl, rfl, rfl, by decide, rfl, fun _ => rfl⟩ (c_X10_within l g F p1.toInt64 0 ((a1 - 1).toInt64) r2 _ hc3) k_X10_115 (rm_le (by decide) (by decide)) rfl hl.1 rfl (Nat.le_of_ble_eq_true rfl) dX10_isTrip_12 ⟨Nat.le_of_ble_eq_true rfl, Nat.le_of_ble_eq_true rfl⟩ (cells2 := 0) (slots2 := 0) ⟨rfl, rfl⟩ (fun _ H locs w => ?_)
  obtain ⟨h01, hf⟩ := gd_some hf
  obtain e1 := tp1 hf
  rw [hQ]
  exact rt_z C w rfl h01 (fun _ => 0) rfl e1 dX10_isTrip_15

theorem dX10_isInvoice_0 : decode cX10_isInvoice 0 = .ok (.iload_n 1, 1) := by decide +kernel
theorem dX10_isInvoice_1 : decode cX10_isInvoice 1 = .ok (.i2l, 1) := by decide +kernel
theorem dX10_isInvoice_2 : decode cX10_isInvoice 2 = .ok (.lconst 0, 1) := by decide +kernel
theorem dX10_isInvoice_3 : decode cX10_isInvoice 3 = .ok (.aload_n 0, 1) := by decide +kernel
theorem dX10_isInvoice_4 : decode cX10_isInvoice 4 = .ok (.getfield 44, 3) := by decide +kernel
theorem dX10_isInvoice_7 : decode cX10_isInvoice 7 = .ok (.iconst 2, 1) := by decide +kernel
theorem dX10_isInvoice_8 : decode cX10_isInvoice 8 = .ok (.iaload, 1) := by decide +kernel
theorem dX10_isInvoice_9 : decode cX10_isInvoice 9 = .ok (.iconst 1, 1) := by decide +kernel
theorem dX10_isInvoice_10 : decode cX10_isInvoice 10 = .ok (.isub, 1) := by decide +kernel
theorem dX10_isInvoice_11 : decode cX10_isInvoice 11 = .ok (.i2l, 1) := by decide +kernel
theorem dX10_isInvoice_12 : decode cX10_isInvoice 12 = .ok (.invokestatic 115, 3) := by decide +kernel
theorem dX10_isInvoice_15 : decode cX10_isInvoice 15 = .ok (.ireturn, 1) := by decide +kernel
abbrev m_X10_isInvoice : MD := (yX10_isInvoice, cX10_isInvoice, 2, (some .boolean))

abbrev w_X10_isInvoice (g : GT) (h0 h1 : Nat) (v0_0 v0_1 v0_2 v0_3 v0_4 v0_5 v0_6 v0_7 v0_8 v0_9 v0_10 v0_11 v0_12 v0_13 v0_14 v0_15 v0_16 v0_17 v0_18 v0_19 v0_20 v0_22 v0_23 v0_24 v0_25 v0_26 v0_27 v0_28 v0_29 v0_30 v0_31 v0_32 v0_33 v0_34 v0_35 v0_36 v0_37 : Value) (state1 : Nat → Int32) : va_W := [(h0, .inr (10, [v0_0, v0_1, v0_2, v0_3, v0_4, v0_5, v0_6, v0_7, v0_8, v0_9, v0_10, v0_11, v0_12, v0_13, v0_14, v0_15, v0_16, v0_17, v0_18, v0_19, v0_20, .ref h1, v0_22, v0_23, v0_24, v0_25, v0_26, v0_27, v0_28, v0_29, v0_30, v0_31, v0_32, v0_33, v0_34, v0_35, v0_36, v0_37])), (h1, aI g 2524 state1)]
def f_X10_isInvoice (F : Nat) (p1 : Int32) (state1 : Nat → Int32) : Option (Int32) :=
  rd state1 2524 2 fun a1 =>
  bd1 (f_X10_within F p1.toInt64 0 ((a1 - 1).toInt64)) fun r2 =>
  gd (r2 = 0 ∨ r2 = 1) (some r2)
set_option maxHeartbeats 4000000 in
set_option maxRecDepth 100000 in
theorem c_X10_isInvoice (l : Launch) (g : GT) (F : Nat) (h0 h1 : Nat) (v0_0 v0_1 v0_2 v0_3 v0_4 v0_5 v0_6 v0_7 v0_8 v0_9 v0_10 v0_11 v0_12 v0_13 v0_14 v0_15 v0_16 v0_17 v0_18 v0_19 v0_20 v0_22 v0_23 v0_24 v0_25 v0_26 v0_27 v0_28 v0_29 v0_30 v0_31 v0_32 v0_33 v0_34 v0_35 v0_36 v0_37 : Value) (p1 : Int32) (state1 : Nat → Int32) (r : Int32) (sz : Nat) (hf : f_X10_isInvoice F p1 state1 = some r) : CI l m_X10_isInvoice (rml 1 0 0) g (w_X10_isInvoice g h0 h1 v0_0 v0_1 v0_2 v0_3 v0_4 v0_5 v0_6 v0_7 v0_8 v0_9 v0_10 v0_11 v0_12 v0_13 v0_14 v0_15 v0_16 v0_17 v0_18 v0_19 v0_20 v0_22 v0_23 v0_24 v0_25 v0_26 v0_27 v0_28 v0_29 v0_30 v0_31 v0_32 v0_33 v0_34 v0_35 v0_36 v0_37 state1) (fun _ => w_X10_isInvoice g h0 h1 v0_0 v0_1 v0_2 v0_3 v0_4 v0_5 v0_6 v0_7 v0_8 v0_9 v0_10 v0_11 v0_12 v0_13 v0_14 v0_15 v0_16 v0_17 v0_18 v0_19 v0_20 v0_22 v0_23 v0_24 v0_25 v0_26 v0_27 v0_28 v0_29 v0_30 v0_31 v0_32 v0_33 v0_34 v0_35 v0_36 v0_37 state1) sz [.ref h0, .int p1] r := by
  refine en_i (by decide) (Nat.le_of_ble_eq_true rfl) (fun p e s m args below meth c A ls C w hl => ?_)
  have C : Cx p s m args meth c RX10 m_X10_isInvoice g A := C
  have hx := C.1
  have hb : c.code = cX10_isInvoice := C.2.1
  have hl : lv_has ls 2 [(0, .ref h0), (1, .int p1)] := hl
  obtain ⟨Q, hQ⟩ : ∃ Q, Q = QI below args s g A (fun _ => w_X10_isInvoice g h0 h1 v0_0 v0_1 v0_2 v0_3 v0_4 v0_5 v0_6 v0_7 v0_8 v0_9 v0_10 v0_11 v0_12 v0_13 v0_14 v0_15 v0_16 v0_17 v0_18 v0_19 v0_20 v0_22 v0_23 v0_24 v0_25 v0_26 v0_27 v0_28 v0_29 v0_30 v0_31 v0_32 v0_33 v0_34 v0_35 v0_36 v0_37 state1) r 0 0 := ⟨_, rfl⟩
  suffices hW : W p l e (rml 1 0 0) s m args below meth c s.heap [] 0 0 Q (F0 m 0 ls []) from (by rw [hQ] at hW; exact hW)
  unfold f_X10_isInvoice at hf
  refine lv_iload_n hx hb dX10_isInvoice_0 rfl (lv_at hl 1 rfl) ?_
  refine lv_i2l (v := p1.toInt64) hx hb dX10_isInvoice_1 rfl ?_
  refine lv_lconst (v := 0) hx hb dX10_isInvoice_2 (by decide) ?_
  refine lv_aload_n hx hb dX10_isInvoice_3 rfl (lv_at hl 0 rfl) ?_
  refine g_X10_44 C w 0 rfl rfl dX10_isInvoice_4 ?_
  refine lv_iconst (v := 2) hx hb dX10_isInvoice_7 (by decide) ?_
  obtain ⟨a1, hia1, haa1, hf⟩ := rd_some hf
  refine ial C w 1 rfl hia1 haa1 dX10_isInvoice_8 ?_
  refine lv_iconst (v := 1) hx hb dX10_isInvoice_9 (by decide) ?_
  refine lv_isub hx hb dX10_isInvoice_10 ?_
  refine lv_i2l (v := (a1 - 1).toInt64) hx hb dX10_isInvoice_11 rfl ?_
  obtain ⟨r2, hc3, hf⟩ := bd1_some hf
  refine ca_iS C w [] [0, 1] [0, 1] (wr := pk (w_X10_isInvoice g h0 h1 v0_0 v0_1 v0_2 v0_3 v0_4 v0_5 v0_6 v0_7 v0_8 v0_9 v0_10 v0_11 v0_12 v0_13 v0_14 v0_15 v0_16 v0_17 v0_18 v0_19 v0_20 v0_22 v0_23 v0_24 v0_25 v0_26 v0_27 v0_28 v0_29 v0_30 v0_31 v0_32 v0_33 v0_34 v0_35 v0_36 v0_37 state1) [0, 1]) (wn := fun _ => w_X10_isInvoice g h0 h1 v0_0 v0_1 v0_2 v0_3 v0_4 v0_5 v0_6 v0_7 v0_8 v0_9 v0_10 v0_11 v0_12 v0_13 v0_14 v0_15 v0_16 v0_17 v0_18 v0_19 v0_20 v0_22 v0_23 v0_24 v0_25 v0_26 v0_27 v0_28 v0_29 v0_30 v0_31 v0_32 v0_33 v0_34 v0_35 v0_36 v0_37 state1) ⟨rfl, rfl, rfl, rfl, by decide, rfl, fun _ => rfl⟩ (c_X10_within l g F p1.toInt64 0 ((a1 - 1).toInt64) r2 _ hc3) k_X10_115 (rm_le (by decide) (by decide)) rfl hl.1 rfl (Nat.le_of_ble_eq_true rfl) dX10_isInvoice_12 ⟨Nat.le_of_ble_eq_true rfl, Nat.le_of_ble_eq_true rfl⟩ (cells2 := 0) (slots2 := 0) ⟨rfl, rfl⟩ (fun _ H locs w => ?_)
  obtain ⟨h01, hf⟩ := gd_some hf
  obtain e1 := tp1 hf
  rw [hQ]
  exact rt_z C w rfl h01 (fun _ => 0) rfl e1 dX10_isInvoice_15

theorem dX10_isGantry_0 : decode cX10_isGantry 0 = .ok (.iload_n 1, 1) := by decide +kernel
theorem dX10_isGantry_1 : decode cX10_isGantry 1 = .ok (.i2l, 1) := by decide +kernel
theorem dX10_isGantry_2 : decode cX10_isGantry 2 = .ok (.lconst 0, 1) := by decide +kernel
theorem dX10_isGantry_3 : decode cX10_isGantry 3 = .ok (.aload_n 0, 1) := by decide +kernel
theorem dX10_isGantry_4 : decode cX10_isGantry 4 = .ok (.getfield 13, 3) := by decide +kernel
theorem dX10_isGantry_7 : decode cX10_isGantry 7 = .ok (.iconst 0, 1) := by decide +kernel
theorem dX10_isGantry_8 : decode cX10_isGantry 8 = .ok (.iaload, 1) := by decide +kernel
theorem dX10_isGantry_9 : decode cX10_isGantry 9 = .ok (.iconst 1, 1) := by decide +kernel
theorem dX10_isGantry_10 : decode cX10_isGantry 10 = .ok (.isub, 1) := by decide +kernel
theorem dX10_isGantry_11 : decode cX10_isGantry 11 = .ok (.i2l, 1) := by decide +kernel
theorem dX10_isGantry_12 : decode cX10_isGantry 12 = .ok (.invokestatic 115, 3) := by decide +kernel
theorem dX10_isGantry_15 : decode cX10_isGantry 15 = .ok (.ireturn, 1) := by decide +kernel
abbrev m_X10_isGantry : MD := (yX10_isGantry, cX10_isGantry, 2, (some .boolean))
theorem g_X10_13 {p : Program} {l : Launch} {e : Env} {R : Room} {s : State} {m : MethodId} {args : Array Value} {below : List Frame} {meth : Method} {c : Code} {H : Heap} {locs : List Loc} {cells slots : Nat} {Q : State → Prop} {d : MD} {g : GT} {A : Nat → Prop} {ws : va_W} {pc : Nat} {ls : Array Slot} {rest : List Value} (C : Cx p s m args meth c RX10 d g A) (w : Wd g A ws s.heap H locs) (q0 : Nat) {a : Nat} {fs : List Value} {v : Value} (he : ws[q0]? = some (a, .inr (10, fs))) (hv : fs[10]? = some v) (hd : decode d.2.1 pc = .ok (.getfield 13, 3)) (kk : W p l e R s m args below meth c H locs cells slots Q (F0 m (pc + 3) ls (v :: rest))) : W p l e R s m args below meth c H locs cells slots Q (F0 m pc ls (.ref a :: rest)) := fg C w inX10s (ref := RX10) rfl 10 (by decide) (ts_t (w := Cond.fieldLink RX10 13 RX10 (TX10 10).2.1 (TX10 10).2.2.1) 1232 (by decide +kernel) (by decide +kernel)) rfl q0 he hv hd kk
abbrev w_X10_isGantry (g : GT) (h0 h1 : Nat) (v0_0 v0_1 v0_2 v0_3 v0_4 v0_5 v0_6 v0_7 v0_8 v0_9 v0_11 v0_12 v0_13 v0_14 v0_15 v0_16 v0_17 v0_18 v0_19 v0_20 v0_21 v0_22 v0_23 v0_24 v0_25 v0_26 v0_27 v0_28 v0_29 v0_30 v0_31 v0_32 v0_33 v0_34 v0_35 v0_36 v0_37 : Value) (basic1 : Nat → Int32) : va_W := [(h0, .inr (10, [v0_0, v0_1, v0_2, v0_3, v0_4, v0_5, v0_6, v0_7, v0_8, v0_9, .ref h1, v0_11, v0_12, v0_13, v0_14, v0_15, v0_16, v0_17, v0_18, v0_19, v0_20, v0_21, v0_22, v0_23, v0_24, v0_25, v0_26, v0_27, v0_28, v0_29, v0_30, v0_31, v0_32, v0_33, v0_34, v0_35, v0_36, v0_37])), (h1, aI g 7 basic1)]
def f_X10_isGantry (F : Nat) (p1 : Int32) (basic1 : Nat → Int32) : Option (Int32) :=
  rd basic1 7 0 fun a1 =>
  bd1 (f_X10_within F p1.toInt64 0 ((a1 - 1).toInt64)) fun r2 =>
  gd (r2 = 0 ∨ r2 = 1) (some r2)
set_option maxHeartbeats 4000000 in
set_option maxRecDepth 100000 in
theorem c_X10_isGantry (l : Launch) (g : GT) (F : Nat) (h0 h1 : Nat) (v0_0 v0_1 v0_2 v0_3 v0_4 v0_5 v0_6 v0_7 v0_8 v0_9 v0_11 v0_12 v0_13 v0_14 v0_15 v0_16 v0_17 v0_18 v0_19 v0_20 v0_21 v0_22 v0_23 v0_24 v0_25 v0_26 v0_27 v0_28 v0_29 v0_30 v0_31 v0_32 v0_33 v0_34 v0_35 v0_36 v0_37 : Value) (p1 : Int32) (basic1 : Nat → Int32) (r : Int32) (sz : Nat) (hf : f_X10_isGantry F p1 basic1 = some r) : CI l m_X10_isGantry (rml 1 0 0) g (w_X10_isGantry g h0 h1 v0_0 v0_1 v0_2 v0_3 v0_4 v0_5 v0_6 v0_7 v0_8 v0_9 v0_11 v0_12 v0_13 v0_14 v0_15 v0_16 v0_17 v0_18 v0_19 v0_20 v0_21 v0_22 v0_23 v0_24 v0_25 v0_26 v0_27 v0_28 v0_29 v0_30 v0_31 v0_32 v0_33 v0_34 v0_35 v0_36 v0_37 basic1) (fun _ => w_X10_isGantry g h0 h1 v0_0 v0_1 v0_2 v0_3 v0_4 v0_5 v0_6 v0_7 v0_8 v0_9 v0_11 v0_12 v0_13 v0_14 v0_15 v0_16 v0_17 v0_18 v0_19 v0_20 v0_21 v0_22 v0_23 v0_24 v0_25 v0_26 v0_27 v0_28 v0_29 v0_30 v0_31 v0_32 v0_33 v0_34 v0_35 v0_36 v0_37 basic1) sz [.ref h0, .int p1] r := by
  refine en_i (by decide) (Nat.le_of_ble_eq_true rfl) (fun p e s m args below meth c A ls C w hl => ?_)
  have C : Cx p s m args meth c RX10 m_X10_isGantry g A := C
  have hx := C.1
  have hb : c.code = cX10_isGantry := C.2.1
  have hl : lv_has ls 2 [(0, .ref h0), (1, .int p1)] := hl
  obtain ⟨Q, hQ⟩ : ∃ Q, Q = QI below args s g A (fun _ => w_X10_isGantry g h0 h1 v0_0 v0_1 v0_2 v0_3 v0_4 v0_5 v0_6 v0_7 v0_8 v0_9 v0_11 v0_12 v0_13 v0_14 v0_15 v0_16 v0_17 v0_18 v0_19 v0_20 v0_21 v0_22 v0_23 v0_24 v0_25 v0_26 v0_27 v0_28 v0_29 v0_30 v0_31 v0_32 v0_33 v0_34 v0_35 v0_36 v0_37 basic1) r 0 0 := ⟨_, rfl⟩
  suffices hW : W p l e (rml 1 0 0) s m args below meth c s.heap [] 0 0 Q (F0 m 0 ls []) from (by rw [hQ] at hW; exact hW)
  unfold f_X10_isGantry at hf
  refine lv_iload_n hx hb dX10_isGantry_0 rfl (lv_at hl 1 rfl) ?_
  refine lv_i2l (v := p1.toInt64) hx hb dX10_isGantry_1 rfl ?_
  refine lv_lconst (v := 0) hx hb dX10_isGantry_2 (by decide) ?_
  refine lv_aload_n hx hb dX10_isGantry_3 rfl (lv_at hl 0 rfl) ?_
  refine g_X10_13 C w 0 rfl rfl dX10_isGantry_4 ?_
  refine lv_iconst (v := 0) hx hb dX10_isGantry_7 (by decide) ?_
  obtain ⟨a1, hia1, haa1, hf⟩ := rd_some hf
  refine ial C w 1 rfl hia1 haa1 dX10_isGantry_8 ?_
  refine lv_iconst (v := 1) hx hb dX10_isGantry_9 (by decide) ?_
  refine lv_isub hx hb dX10_isGantry_10 ?_
  refine lv_i2l (v := (a1 - 1).toInt64) hx hb dX10_isGantry_11 rfl ?_
  obtain ⟨r2, hc3, hf⟩ := bd1_some hf
  refine ca_iS C w [] [0, 1] [0, 1] (wr := pk (w_X10_isGantry g h0 h1 v0_0 v0_1 v0_2 v0_3 v0_4 v0_5 v0_6 v0_7 v0_8 v0_9 v0_11 v0_12 v0_13 v0_14 v0_15 v0_16 v0_17 v0_18 v0_19 v0_20 v0_21 v0_22 v0_23 v0_24 v0_25 v0_26 v0_27 v0_28 v0_29 v0_30 v0_31 v0_32 v0_33 v0_34 v0_35 v0_36 v0_37 basic1) [0, 1]) (wn := fun _ => w_X10_isGantry g h0 h1 v0_0 v0_1 v0_2 v0_3 v0_4 v0_5 v0_6 v0_7 v0_8 v0_9 v0_11 v0_12 v0_13 v0_14 v0_15 v0_16 v0_17 v0_18 v0_19 v0_20 v0_21 v0_22 v0_23 v0_24 v0_25 v0_26 v0_27 v0_28 v0_29 v0_30 v0_31 v0_32 v0_33 v0_34 v0_35 v0_36 v0_37 basic1) ⟨rfl, rfl, rfl, rfl, by decide, rfl, fun _ => rfl⟩ (c_X10_within l g F p1.toInt64 0 ((a1 - 1).toInt64) r2 _ hc3) k_X10_115 (rm_le (by decide) (by decide)) rfl hl.1 rfl (Nat.le_of_ble_eq_true rfl) dX10_isGantry_12 ⟨Nat.le_of_ble_eq_true rfl, Nat.le_of_ble_eq_true rfl⟩ (cells2 := 0) (slots2 := 0) ⟨rfl, rfl⟩ (fun _ H locs w => ?_)
  obtain ⟨h01, hf⟩ := gd_some hf
  obtain e1 := tp1 hf
  rw [hQ]
  exact rt_z C w rfl h01 (fun _ => 0) rfl e1 dX10_isGantry_15

theorem dX10_gantryCount_0 : decode cX10_gantryCount 0 = .ok (.aload_n 0, 1) := by decide +kernel
theorem dX10_gantryCount_1 : decode cX10_gantryCount 1 = .ok (.aload_n 0, 1) := by decide +kernel
theorem dX10_gantryCount_2 : decode cX10_gantryCount 2 = .ok (.getfield 13, 3) := by decide +kernel
theorem dX10_gantryCount_5 : decode cX10_gantryCount 5 = .ok (.iconst 0, 1) := by decide +kernel
theorem dX10_gantryCount_6 : decode cX10_gantryCount 6 = .ok (.iaload, 1) := by decide +kernel
theorem dX10_gantryCount_7 : decode cX10_gantryCount 7 = .ok (.invokevirtual 215, 3) := by decide +kernel
theorem dX10_gantryCount_10 : decode cX10_gantryCount 10 = .ok (.ireturn, 1) := by decide +kernel
abbrev m_X10_gantryCount : MD := (yX10_gantryCount, cX10_gantryCount, 1, (some .int))
theorem q_1440 : Cond.code yX10_told cX10_told 2 (some .int) ∈ TS := ts_t 1440 (by decide +kernel) (by decide +kernel)
theorem q_1437 : Cond.methodLink RX10 215 yX10_told ∈ TS := ts_t 1437 (by decide +kernel) (by decide +kernel)
theorem q_1439 : Cond.instanceMethod yX10_told ∈ TS := ts_t 1439 (by decide +kernel) (by decide +kernel)
theorem qs_99 : Cond.selects yX10_told.cls yX10_told yX10_told ∈ TS := ts_s 99 (by decide +kernel) (by decide +kernel)
theorem k_X10_215 : LkV RX10 215 m_X10_told 1 := ⟨q_1437, q_1439, qs_99, ⟨q_11, q_1440, by decide, by decide, by decide +kernel⟩⟩
abbrev w_X10_gantryCount (g : GT) (h0 h1 : Nat) (v0_1 v0_2 v0_3 v0_4 v0_5 v0_6 v0_7 v0_8 v0_9 v0_11 v0_12 v0_13 v0_14 v0_15 v0_16 v0_17 v0_18 v0_19 v0_20 v0_21 v0_22 v0_23 v0_24 v0_25 v0_26 v0_27 v0_28 v0_29 v0_30 v0_31 v0_32 v0_33 v0_34 v0_35 v0_36 v0_37 : Value) (thrown0 : Int32) (basic1 : Nat → Int32) : va_W := [(h0, .inr (10, [.int thrown0, v0_1, v0_2, v0_3, v0_4, v0_5, v0_6, v0_7, v0_8, v0_9, .ref h1, v0_11, v0_12, v0_13, v0_14, v0_15, v0_16, v0_17, v0_18, v0_19, v0_20, v0_21, v0_22, v0_23, v0_24, v0_25, v0_26, v0_27, v0_28, v0_29, v0_30, v0_31, v0_32, v0_33, v0_34, v0_35, v0_36, v0_37])), (h1, aI g 7 basic1)]
def f_X10_gantryCount (F : Nat) (thrown0 : Int32) (basic1 : Nat → Int32) : Option (Int32 × Int32) :=
  rd basic1 7 0 fun a1 =>
  bd2 (f_X10_told F a1 thrown0) fun r2 o3 =>
  some (r2, o3)
set_option maxHeartbeats 4000000 in
set_option maxRecDepth 100000 in
theorem c_X10_gantryCount (l : Launch) (g : GT) (F : Nat) (h0 h1 : Nat) (v0_1 v0_2 v0_3 v0_4 v0_5 v0_6 v0_7 v0_8 v0_9 v0_11 v0_12 v0_13 v0_14 v0_15 v0_16 v0_17 v0_18 v0_19 v0_20 v0_21 v0_22 v0_23 v0_24 v0_25 v0_26 v0_27 v0_28 v0_29 v0_30 v0_31 v0_32 v0_33 v0_34 v0_35 v0_36 v0_37 : Value) (thrown0 : Int32) (basic1 : Nat → Int32) (r o_thrown0 : Int32) (sz : Nat) (hf : f_X10_gantryCount F thrown0 basic1 = some (r, o_thrown0)) : CI l m_X10_gantryCount (rml 1 0 0) g (w_X10_gantryCount g h0 h1 v0_1 v0_2 v0_3 v0_4 v0_5 v0_6 v0_7 v0_8 v0_9 v0_11 v0_12 v0_13 v0_14 v0_15 v0_16 v0_17 v0_18 v0_19 v0_20 v0_21 v0_22 v0_23 v0_24 v0_25 v0_26 v0_27 v0_28 v0_29 v0_30 v0_31 v0_32 v0_33 v0_34 v0_35 v0_36 v0_37 thrown0 basic1) (fun _ => w_X10_gantryCount g h0 h1 v0_1 v0_2 v0_3 v0_4 v0_5 v0_6 v0_7 v0_8 v0_9 v0_11 v0_12 v0_13 v0_14 v0_15 v0_16 v0_17 v0_18 v0_19 v0_20 v0_21 v0_22 v0_23 v0_24 v0_25 v0_26 v0_27 v0_28 v0_29 v0_30 v0_31 v0_32 v0_33 v0_34 v0_35 v0_36 v0_37 o_thrown0 basic1) sz [.ref h0] r := by
  refine en_i (by decide) (Nat.le_of_ble_eq_true rfl) (fun p e s m args below meth c A ls C w hl => ?_)
  have C : Cx p s m args meth c RX10 m_X10_gantryCount g A := C
  have hx := C.1
  have hb : c.code = cX10_gantryCount := C.2.1
  have hl : lv_has ls 1 [(0, .ref h0)] := hl
  obtain ⟨Q, hQ⟩ : ∃ Q, Q = QI below args s g A (fun _ => w_X10_gantryCount g h0 h1 v0_1 v0_2 v0_3 v0_4 v0_5 v0_6 v0_7 v0_8 v0_9 v0_11 v0_12 v0_13 v0_14 v0_15 v0_16 v0_17 v0_18 v0_19 v0_20 v0_21 v0_22 v0_23 v0_24 v0_25 v0_26 v0_27 v0_28 v0_29 v0_30 v0_31 v0_32 v0_33 v0_34 v0_35 v0_36 v0_37 o_thrown0 basic1) r 0 0 := ⟨_, rfl⟩
  suffices hW : W p l e (rml 1 0 0) s m args below meth c s.heap [] 0 0 Q (F0 m 0 ls []) from (by rw [hQ] at hW; exact hW)
  unfold f_X10_gantryCount at hf
  refine lv_aload_n hx hb dX10_gantryCount_0 rfl (lv_at hl 0 rfl) ?_
  refine lv_aload_n hx hb dX10_gantryCount_1 rfl (lv_at hl 0 rfl) ?_
  refine g_X10_13 C w 0 rfl rfl dX10_gantryCount_2 ?_
  refine lv_iconst (v := 0) hx hb dX10_gantryCount_5 (by decide) ?_
  obtain ⟨a1, hia1, haa1, hf⟩ := rd_some hf
  refine ial C w 1 rfl hia1 haa1 dX10_gantryCount_6 ?_
  obtain ⟨r2, o3, hc4, hf⟩ := bd2_some hf
  refine ca_iV C w [0] [1] [1, 0] (wr := pk (w_X10_gantryCount g h0 h1 v0_1 v0_2 v0_3 v0_4 v0_5 v0_6 v0_7 v0_8 v0_9 v0_11 v0_12 v0_13 v0_14 v0_15 v0_16 v0_17 v0_18 v0_19 v0_20 v0_21 v0_22 v0_23 v0_24 v0_25 v0_26 v0_27 v0_28 v0_29 v0_30 v0_31 v0_32 v0_33 v0_34 v0_35 v0_36 v0_37 thrown0 basic1) [1]) (wn := fun _ => w_X10_gantryCount g h0 h1 v0_1 v0_2 v0_3 v0_4 v0_5 v0_6 v0_7 v0_8 v0_9 v0_11 v0_12 v0_13 v0_14 v0_15 v0_16 v0_17 v0_18 v0_19 v0_20 v0_21 v0_22 v0_23 v0_24 v0_25 v0_26 v0_27 v0_28 v0_29 v0_30 v0_31 v0_32 v0_33 v0_34 v0_35 v0_36 v0_37 o3 basic1) ⟨rfl, rfl, rfl, rfl, by decide, rfl, fun _ => rfl⟩ (c_X10_told l g F h0 v0_1 v0_2 v0_3 v0_4 v0_5 v0_6 v0_7 v0_8 v0_9 (.ref h1) v0_11 v0_12 v0_13 v0_14 v0_15 v0_16 v0_17 v0_18 v0_19 v0_20 v0_21 v0_22 v0_23 v0_24 v0_25 v0_26 v0_27 v0_28 v0_29 v0_30 v0_31 v0_32 v0_33 v0_34 v0_35 v0_36 v0_37 a1 thrown0 r2 o3 _ hc4) k_X10_215 (rm_le (by decide) (by decide)) 0 10 rfl rfl rfl rfl hl.1 rfl (Nat.le_of_ble_eq_true rfl) dX10_gantryCount_7 ⟨Nat.le_of_ble_eq_true rfl, Nat.le_of_ble_eq_true rfl⟩ (cells2 := 0) (slots2 := 0) ⟨rfl, rfl⟩ (fun _ H locs w => ?_)
  obtain ⟨e1, e2⟩ := tp2 hf
  rw [hQ]
  exact rt_i C w rfl (fun _ => 0) (by rw [← e2]) e1 dX10_gantryCount_10

theorem dX10_tagCount_0 : decode cX10_tagCount 0 = .ok (.aload_n 0, 1) := by decide +kernel
theorem dX10_tagCount_1 : decode cX10_tagCount 1 = .ok (.aload_n 0, 1) := by decide +kernel
theorem dX10_tagCount_2 : decode cX10_tagCount 2 = .ok (.getfield 13, 3) := by decide +kernel
theorem dX10_tagCount_5 : decode cX10_tagCount 5 = .ok (.iconst 3, 1) := by decide +kernel
theorem dX10_tagCount_6 : decode cX10_tagCount 6 = .ok (.iaload, 1) := by decide +kernel
theorem dX10_tagCount_7 : decode cX10_tagCount 7 = .ok (.invokevirtual 215, 3) := by decide +kernel
theorem dX10_tagCount_10 : decode cX10_tagCount 10 = .ok (.ireturn, 1) := by decide +kernel
abbrev m_X10_tagCount : MD := (yX10_tagCount, cX10_tagCount, 1, (some .int))

abbrev w_X10_tagCount (g : GT) (h0 h1 : Nat) (v0_1 v0_2 v0_3 v0_4 v0_5 v0_6 v0_7 v0_8 v0_9 v0_11 v0_12 v0_13 v0_14 v0_15 v0_16 v0_17 v0_18 v0_19 v0_20 v0_21 v0_22 v0_23 v0_24 v0_25 v0_26 v0_27 v0_28 v0_29 v0_30 v0_31 v0_32 v0_33 v0_34 v0_35 v0_36 v0_37 : Value) (thrown0 : Int32) (basic1 : Nat → Int32) : va_W := [(h0, .inr (10, [.int thrown0, v0_1, v0_2, v0_3, v0_4, v0_5, v0_6, v0_7, v0_8, v0_9, .ref h1, v0_11, v0_12, v0_13, v0_14, v0_15, v0_16, v0_17, v0_18, v0_19, v0_20, v0_21, v0_22, v0_23, v0_24, v0_25, v0_26, v0_27, v0_28, v0_29, v0_30, v0_31, v0_32, v0_33, v0_34, v0_35, v0_36, v0_37])), (h1, aI g 7 basic1)]
def f_X10_tagCount (F : Nat) (thrown0 : Int32) (basic1 : Nat → Int32) : Option (Int32 × Int32) :=
  rd basic1 7 3 fun a1 =>
  bd2 (f_X10_told F a1 thrown0) fun r2 o3 =>
  some (r2, o3)
set_option maxHeartbeats 4000000 in
set_option maxRecDepth 100000 in
theorem c_X10_tagCount (l : Launch) (g : GT) (F : Nat) (h0 h1 : Nat) (v0_1 v0_2 v0_3 v0_4 v0_5 v0_6 v0_7 v0_8 v0_9 v0_11 v0_12 v0_13 v0_14 v0_15 v0_16 v0_17 v0_18 v0_19 v0_20 v0_21 v0_22 v0_23 v0_24 v0_25 v0_26 v0_27 v0_28 v0_29 v0_30 v0_31 v0_32 v0_33 v0_34 v0_35 v0_36 v0_37 : Value) (thrown0 : Int32) (basic1 : Nat → Int32) (r o_thrown0 : Int32) (sz : Nat) (hf : f_X10_tagCount F thrown0 basic1 = some (r, o_thrown0)) : CI l m_X10_tagCount (rml 1 0 0) g (w_X10_tagCount g h0 h1 v0_1 v0_2 v0_3 v0_4 v0_5 v0_6 v0_7 v0_8 v0_9 v0_11 v0_12 v0_13 v0_14 v0_15 v0_16 v0_17 v0_18 v0_19 v0_20 v0_21 v0_22 v0_23 v0_24 v0_25 v0_26 v0_27 v0_28 v0_29 v0_30 v0_31 v0_32 v0_33 v0_34 v0_35 v0_36 v0_37 thrown0 basic1) (fun _ => w_X10_tagCount g h0 h1 v0_1 v0_2 v0_3 v0_4 v0_5 v0_6 v0_7 v0_8 v0_9 v0_11 v0_12 v0_13 v0_14 v0_15 v0_16 v0_17 v0_18 v0_19 v0_20 v0_21 v0_22 v0_23 v0_24 v0_25 v0_26 v0_27 v0_28 v0_29 v0_30 v0_31 v0_32 v0_33 v0_34 v0_35 v0_36 v0_37 o_thrown0 basic1) sz [.ref h0] r := by
  refine en_i (by decide) (Nat.le_of_ble_eq_true rfl) (fun p e s m args below meth c A ls C w hl => ?_)
  have C : Cx p s m args meth c RX10 m_X10_tagCount g A := C
  have hx := C.1
  have hb : c.code = cX10_tagCount := C.2.1
  have hl : lv_has ls 1 [(0, .ref h0)] := hl
  obtain ⟨Q, hQ⟩ : ∃ Q, Q = QI below args s g A (fun _ => w_X10_tagCount g h0 h1 v0_1 v0_2 v0_3 v0_4 v0_5 v0_6 v0_7 v0_8 v0_9 v0_11 v0_12 v0_13 v0_14 v0_15 v0_16 v0_17 v0_18 v0_19 v0_20 v0_21 v0_22 v0_23 v0_24 v0_25 v0_26 v0_27 v0_28 v0_29 v0_30 v0_31 v0_32 v0_33 v0_34 v0_35 v0_36 v0_37 o_thrown0 basic1) r 0 0 := ⟨_, rfl⟩
  suffices hW : W p l e (rml 1 0 0) s m args below meth c s.heap [] 0 0 Q (F0 m 0 ls []) from (by rw [hQ] at hW; exact hW)
  unfold f_X10_tagCount at hf
  refine lv_aload_n hx hb dX10_tagCount_0 rfl (lv_at hl 0 rfl) ?_
  refine lv_aload_n hx hb dX10_tagCount_1 rfl (lv_at hl 0 rfl) ?_
  refine g_X10_13 C w 0 rfl rfl dX10_tagCount_2 ?_
  refine lv_iconst (v := 3) hx hb dX10_tagCount_5 (by decide) ?_
  obtain ⟨a1, hia1, haa1, hf⟩ := rd_some hf
  refine ial C w 1 rfl hia1 haa1 dX10_tagCount_6 ?_
  obtain ⟨r2, o3, hc4, hf⟩ := bd2_some hf
  refine ca_iV C w [0] [1] [1, 0] (wr := pk (w_X10_tagCount g h0 h1 v0_1 v0_2 v0_3 v0_4 v0_5 v0_6 v0_7 v0_8 v0_9 v0_11 v0_12 v0_13 v0_14 v0_15 v0_16 v0_17 v0_18 v0_19 v0_20 v0_21 v0_22 v0_23 v0_24 v0_25 v0_26 v0_27 v0_28 v0_29 v0_30 v0_31 v0_32 v0_33 v0_34 v0_35 v0_36 v0_37 thrown0 basic1) [1]) (wn := fun _ => w_X10_tagCount g h0 h1 v0_1 v0_2 v0_3 v0_4 v0_5 v0_6 v0_7 v0_8 v0_9 v0_11 v0_12 v0_13 v0_14 v0_15 v0_16 v0_17 v0_18 v0_19 v0_20 v0_21 v0_22 v0_23 v0_24 v0_25 v0_26 v0_27 v0_28 v0_29 v0_30 v0_31 v0_32 v0_33 v0_34 v0_35 v0_36 v0_37 o3 basic1) ⟨rfl, rfl, rfl, rfl, by decide, rfl, fun _ => rfl⟩ (c_X10_told l g F h0 v0_1 v0_2 v0_3 v0_4 v0_5 v0_6 v0_7 v0_8 v0_9 (.ref h1) v0_11 v0_12 v0_13 v0_14 v0_15 v0_16 v0_17 v0_18 v0_19 v0_20 v0_21 v0_22 v0_23 v0_24 v0_25 v0_26 v0_27 v0_28 v0_29 v0_30 v0_31 v0_32 v0_33 v0_34 v0_35 v0_36 v0_37 a1 thrown0 r2 o3 _ hc4) k_X10_215 (rm_le (by decide) (by decide)) 0 10 rfl rfl rfl rfl hl.1 rfl (Nat.le_of_ble_eq_true rfl) dX10_tagCount_7 ⟨Nat.le_of_ble_eq_true rfl, Nat.le_of_ble_eq_true rfl⟩ (cells2 := 0) (slots2 := 0) ⟨rfl, rfl⟩ (fun _ H locs w => ?_)
  obtain ⟨e1, e2⟩ := tp2 hf
  rw [hQ]
  exact rt_i C w rfl (fun _ => 0) (by rw [← e2]) e1 dX10_tagCount_10

theorem dX10_classFor_0 : decode cX10_classFor 0 = .ok (.iconst (-1), 1) := by decide +kernel
theorem dX10_classFor_1 : decode cX10_classFor 1 = .ok (.istore_n 2, 1) := by decide +kernel
theorem dX10_classFor_2 : decode cX10_classFor 2 = .ok (.iconst 0, 1) := by decide +kernel
theorem dX10_classFor_3 : decode cX10_classFor 3 = .ok (.istore_n 3, 1) := by decide +kernel
theorem dX10_classFor_4 : decode cX10_classFor 4 = .ok (.iload_n 3, 1) := by decide +kernel
theorem dX10_classFor_5 : decode cX10_classFor 5 = .ok (.aload_n 0, 1) := by decide +kernel
theorem dX10_classFor_6 : decode cX10_classFor 6 = .ok (.getfield 13, 3) := by decide +kernel
theorem dX10_classFor_9 : decode cX10_classFor 9 = .ok (.iconst 2, 1) := by decide +kernel
theorem dX10_classFor_10 : decode cX10_classFor 10 = .ok (.iaload, 1) := by decide +kernel
theorem dX10_classFor_11 : decode cX10_classFor 11 = .ok (.if_icmp .ge 21, 3) := by decide +kernel
theorem dX10_classFor_14 : decode cX10_classFor 14 = .ok (.aload_n 0, 1) := by decide +kernel
theorem dX10_classFor_15 : decode cX10_classFor 15 = .ok (.getfield 32, 3) := by decide +kernel
theorem dX10_classFor_18 : decode cX10_classFor 18 = .ok (.iload_n 3, 1) := by decide +kernel
theorem dX10_classFor_19 : decode cX10_classFor 19 = .ok (.iaload, 1) := by decide +kernel
theorem dX10_classFor_20 : decode cX10_classFor 20 = .ok (.iload_n 1, 1) := by decide +kernel
theorem dX10_classFor_21 : decode cX10_classFor 21 = .ok (.if_icmp .gt 5, 3) := by decide +kernel
theorem dX10_classFor_24 : decode cX10_classFor 24 = .ok (.iload_n 3, 1) := by decide +kernel
theorem dX10_classFor_25 : decode cX10_classFor 25 = .ok (.istore_n 2, 1) := by decide +kernel
theorem dX10_classFor_26 : decode cX10_classFor 26 = .ok (.iinc 3 1, 3) := by decide +kernel
theorem dX10_classFor_29 : decode cX10_classFor 29 = .ok (.goto (-25), 3) := by decide +kernel
theorem dX10_classFor_32 : decode cX10_classFor 32 = .ok (.iload_n 2, 1) := by decide +kernel
theorem dX10_classFor_33 : decode cX10_classFor 33 = .ok (.ireturn, 1) := by decide +kernel
abbrev m_X10_classFor : MD := (yX10_classFor, cX10_classFor, 4, (some .int))

abbrev w_X10_classFor (g : GT) (h0 h1 h2 : Nat) (v0_0 v0_1 v0_2 v0_3 v0_4 v0_5 v0_6 v0_7 v0_8 v0_9 v0_11 v0_12 v0_13 v0_14 v0_15 v0_17 v0_18 v0_19 v0_20 v0_21 v0_22 v0_23 v0_24 v0_25 v0_26 v0_27 v0_28 v0_29 v0_30 v0_31 v0_32 v0_33 v0_34 v0_35 v0_36 v0_37 : Value) (basic1 classAxles2 : Nat → Int32) : va_W := [(h0, .inr (10, [v0_0, v0_1, v0_2, v0_3, v0_4, v0_5, v0_6, v0_7, v0_8, v0_9, .ref h1, v0_11, v0_12, v0_13, v0_14, v0_15, .ref h2, v0_17, v0_18, v0_19, v0_20, v0_21, v0_22, v0_23, v0_24, v0_25, v0_26, v0_27, v0_28, v0_29, v0_30, v0_31, v0_32, v0_33, v0_34, v0_35, v0_36, v0_37])), (h1, aI g 7 basic1), (h2, aI g 8 classAxles2)]
def f_X10_classFor_b26 (F : Nat) (k4 : (Int32 × Int32 × Int32) → Option (Int32)) (basic1 classAxles2 : Nat → Int32) (x1 x2 x3 : Int32) : Option (Int32) :=
  k4 (x1, x2, x3 + 1)
def f_X10_classFor_h4 (F : Nat) (basic1 classAxles2 : Nat → Int32) (k4 : (Int32 × Int32 × Int32) → Option (Int32)) (x1 x2 x3 : Int32) : Option (Int32) :=
  rd basic1 7 2 fun a1 =>
  if a1 ≤ x3 then
    some x2
  else
    rd classAxles2 8 x3 fun a3 =>
    if x1 < a3 then
      f_X10_classFor_b26 F k4 basic1 classAxles2 x1 x2 x3
    else
      f_X10_classFor_b26 F k4 basic1 classAxles2 x1 x3 x3
def f_X10_classFor_L4 (F : Nat) (basic1 classAxles2 : Nat → Int32) (z : Int32 × Int32 × Int32) : Option (Int32) := lp (fun k z => f_X10_classFor_h4 F basic1 classAxles2 k z.1 z.2.1 z.2.2) F z
def f_X10_classFor (F : Nat) (p1 : Int32) (basic1 classAxles2 : Nat → Int32) : Option (Int32) :=
  f_X10_classFor_L4 F basic1 classAxles2 (p1, (-1), 0)
set_option maxHeartbeats 4000000 in
set_option maxRecDepth 100000 in
theorem c_X10_classFor (l : Launch) (g : GT) (F : Nat) (h0 h1 h2 : Nat) (v0_0 v0_1 v0_2 v0_3 v0_4 v0_5 v0_6 v0_7 v0_8 v0_9 v0_11 v0_12 v0_13 v0_14 v0_15 v0_17 v0_18 v0_19 v0_20 v0_21 v0_22 v0_23 v0_24 v0_25 v0_26 v0_27 v0_28 v0_29 v0_30 v0_31 v0_32 v0_33 v0_34 v0_35 v0_36 v0_37 : Value) (p1 : Int32) (basic1 classAxles2 : Nat → Int32) (r : Int32) (sz : Nat) (hf : f_X10_classFor F p1 basic1 classAxles2 = some r) : CI l m_X10_classFor (rml 0 0 0) g (w_X10_classFor g h0 h1 h2 v0_0 v0_1 v0_2 v0_3 v0_4 v0_5 v0_6 v0_7 v0_8 v0_9 v0_11 v0_12 v0_13 v0_14 v0_15 v0_17 v0_18 v0_19 v0_20 v0_21 v0_22 v0_23 v0_24 v0_25 v0_26 v0_27 v0_28 v0_29 v0_30 v0_31 v0_32 v0_33 v0_34 v0_35 v0_36 v0_37 basic1 classAxles2) (fun _ => w_X10_classFor g h0 h1 h2 v0_0 v0_1 v0_2 v0_3 v0_4 v0_5 v0_6 v0_7 v0_8 v0_9 v0_11 v0_12 v0_13 v0_14 v0_15 v0_17 v0_18 v0_19 v0_20 v0_21 v0_22 v0_23 v0_24 v0_25 v0_26 v0_27 v0_28 v0_29 v0_30 v0_31 v0_32 v0_33 v0_34 v0_35 v0_36 v0_37 basic1 classAxles2) sz [.ref h0, .int p1] r := by
  refine en_i (by decide) (Nat.le_of_ble_eq_true rfl) (fun p e s m args below meth c A ls C w hl => ?_)
  have C : Cx p s m args meth c RX10 m_X10_classFor g A := C
  have hx := C.1
  have hb : c.code = cX10_classFor := C.2.1
  have hl : lv_has ls 4 [(0, .ref h0), (1, .int p1)] := hl
  obtain ⟨Q, hQ⟩ : ∃ Q, Q = QI below args s g A (fun _ => w_X10_classFor g h0 h1 h2 v0_0 v0_1 v0_2 v0_3 v0_4 v0_5 v0_6 v0_7 v0_8 v0_9 v0_11 v0_12 v0_13 v0_14 v0_15 v0_17 v0_18 v0_19 v0_20 v0_21 v0_22 v0_23 v0_24 v0_25 v0_26 v0_27 v0_28 v0_29 v0_30 v0_31 v0_32 v0_33 v0_34 v0_35 v0_36 v0_37 basic1 classAxles2) r 0 0 := ⟨_, rfl⟩
  suffices hW : W p l e (rml 0 0 0) s m args below meth c s.heap [] 0 0 Q (F0 m 0 ls []) from (by rw [hQ] at hW; exact hW)
  unfold f_X10_classFor at hf
  have L4 : ∀ (z : Int32 × Int32 × Int32), f_X10_classFor_L4 F basic1 classAxles2 z = some r → ∀ (H : Heap) (locs : List Loc) (ls : Array Slot), Wd g A (w_X10_classFor g h0 h1 h2 v0_0 v0_1 v0_2 v0_3 v0_4 v0_5 v0_6 v0_7 v0_8 v0_9 v0_11 v0_12 v0_13 v0_14 v0_15 v0_17 v0_18 v0_19 v0_20 v0_21 v0_22 v0_23 v0_24 v0_25 v0_26 v0_27 v0_28 v0_29 v0_30 v0_31 v0_32 v0_33 v0_34 v0_35 v0_36 v0_37 basic1 classAxles2) s.heap H locs → lv_has ls 4 [(0, .ref h0), (1, .int z.1), (2, .int z.2.1), (3, .int z.2.2)] → W p l e (rml 0 0 0) s m args below meth c H locs 0 0 Q (F0 m 4 ls []) := by
    intro z hf
    refine lp_W (r := r) (fun (z : Int32 × Int32 × Int32) => ∀ (H : Heap) (locs : List Loc) (ls : Array Slot), Wd g A (w_X10_classFor g h0 h1 h2 v0_0 v0_1 v0_2 v0_3 v0_4 v0_5 v0_6 v0_7 v0_8 v0_9 v0_11 v0_12 v0_13 v0_14 v0_15 v0_17 v0_18 v0_19 v0_20 v0_21 v0_22 v0_23 v0_24 v0_25 v0_26 v0_27 v0_28 v0_29 v0_30 v0_31 v0_32 v0_33 v0_34 v0_35 v0_36 v0_37 basic1 classAxles2) s.heap H locs → lv_has ls 4 [(0, .ref h0), (1, .int z.1), (2, .int z.2.1), (3, .int z.2.2)] → W p l e (rml 0 0 0) s m args below meth c H locs 0 0 Q (F0 m 4 ls [])) (fun k4 z ih4 hf => ?_) F z hf
    obtain ⟨x1, x2, x3⟩ := z
    intro H locs ls w hl
    dsimp only at hf w hl ⊢
    unfold f_X10_classFor_h4 at hf
    have b26 : ∀ (x1 x2 x3 : Int32) (H : Heap) (locs : List Loc) (ls : Array Slot), f_X10_classFor_b26 F k4 basic1 classAxles2 x1 x2 x3 = some r → Wd g A (w_X10_classFor g h0 h1 h2 v0_0 v0_1 v0_2 v0_3 v0_4 v0_5 v0_6 v0_7 v0_8 v0_9 v0_11 v0_12 v0_13 v0_14 v0_15 v0_17 v0_18 v0_19 v0_20 v0_21 v0_22 v0_23 v0_24 v0_25 v0_26 v0_27 v0_28 v0_29 v0_30 v0_31 v0_32 v0_33 v0_34 v0_35 v0_36 v0_37 basic1 classAxles2) s.heap H locs → lv_has ls 4 [(0, .ref h0), (1, .int x1), (2, .int x2), (3, .int x3)] → W p l e (rml 0 0 0) s m args below meth c H locs 0 0 Q (F0 m 26 ls []) := by
      intro x1 x2 x3 H locs ls hf w hl
      unfold f_X10_classFor_b26 at hf
      refine lv_iinc (v := x3 + 1) (lv' := [(3, .int (x3 + 1)), (0, .ref h0), (1, .int x1), (2, .int x2)]) hx hb dX10_classFor_26 hl (k := 3) rfl rfl (by decide) rfl (fun ls hl => ?_)
      refine lv_goto (tgt := 4) hx hb dX10_classFor_29 (by decide) ?_
      exact ih4 (x1, x2, x3 + 1) hf _ _ _ w (lv_sub hl [1, 2, 3, 0] rfl)
    refine lv_iload_n hx hb dX10_classFor_4 rfl (lv_at hl 3 rfl) ?_
    refine lv_aload_n hx hb dX10_classFor_5 rfl (lv_at hl 0 rfl) ?_
    refine g_X10_13 C w 0 rfl rfl dX10_classFor_6 ?_
    refine lv_iconst (v := 2) hx hb dX10_classFor_9 (by decide) ?_
    obtain ⟨a1, hia1, haa1, hf⟩ := rd_some hf
    refine ial C w 1 rfl hia1 haa1 dX10_classFor_10 ?_
    refine lv_icmp_ge (tgt := 32) hx hb dX10_classFor_11 (by decide) (fun c2 => ?_) (fun c2 => ?_)
    · replace hf := it_t c2 hf
      refine lv_iload_n hx hb dX10_classFor_32 rfl (lv_at hl 2 rfl) ?_
      obtain e1 := tp1 hf
      rw [hQ]
      exact rt_i C w rfl (fun _ => 0) rfl e1 dX10_classFor_33
    · replace hf := it_f c2 hf
      refine lv_aload_n hx hb dX10_classFor_14 rfl (lv_at hl 0 rfl) ?_
      refine g_X10_32 C w 0 rfl rfl dX10_classFor_15 ?_
      refine lv_iload_n hx hb dX10_classFor_18 rfl (lv_at hl 3 rfl) ?_
      obtain ⟨a3, hia3, haa3, hf⟩ := rd_some hf
      refine ial C w 2 rfl hia3 haa3 dX10_classFor_19 ?_
      refine lv_iload_n hx hb dX10_classFor_20 rfl (lv_at hl 1 rfl) ?_
      refine lv_icmp_gt (tgt := 26) hx hb dX10_classFor_21 (by decide) (fun c4 => ?_) (fun c4 => ?_)
      · replace hf := it_t c4 hf
        exact b26 x1 x2 x3 _ _ _ hf w (lv_sub hl [0, 1, 2, 3] rfl)
      · replace hf := it_f c4 hf
        refine lv_iload_n hx hb dX10_classFor_24 rfl (lv_at hl 3 rfl) ?_
        refine lv_istore_n (lv' := [(2, .int x3), (0, .ref h0), (1, .int x1), (3, .int x3)]) hx hb dX10_classFor_25 rfl hl (by decide) rfl (fun ls hl => ?_)
        exact b26 x1 x3 x3 _ _ _ hf w (lv_sub hl [1, 2, 0, 3] rfl)
  refine lv_iconst (v := -1) hx hb dX10_classFor_0 (by decide) ?_
  refine lv_istore_n (lv' := [(2, .int (-1)), (0, .ref h0), (1, .int p1)]) hx hb dX10_classFor_1 rfl hl (by decide) rfl (fun ls hl => ?_)
  refine lv_iconst (v := 0) hx hb dX10_classFor_2 (by decide) ?_
  refine lv_istore_n (lv' := [(3, .int 0), (2, .int (-1)), (0, .ref h0), (1, .int p1)]) hx hb dX10_classFor_3 rfl hl (by decide) rfl (fun ls hl => ?_)
  exact L4 (p1, (-1), 0) hf _ _ _ w (lv_sub hl [2, 3, 1, 0] rfl)

theorem dX10_classOf_0 : decode cX10_classOf 0 = .ok (.aload_n 0, 1) := by decide +kernel
theorem dX10_classOf_1 : decode cX10_classOf 1 = .ok (.iconst 0, 1) := by decide +kernel
theorem dX10_classOf_2 : decode cX10_classOf 2 = .ok (.putfield 84, 3) := by decide +kernel
theorem dX10_classOf_5 : decode cX10_classOf 5 = .ok (.iload_n 1, 1) := by decide +kernel
theorem dX10_classOf_6 : decode cX10_classOf 6 = .ok (.i2l, 1) := by decide +kernel
theorem dX10_classOf_7 : decode cX10_classOf 7 = .ok (.ldc2_w 218, 3) := by decide +kernel
theorem dX10_classOf_10 : decode cX10_classOf 10 = .ok (.ldc2_w 220, 3) := by decide +kernel
theorem dX10_classOf_13 : decode cX10_classOf 13 = .ok (.invokestatic 115, 3) := by decide +kernel
theorem dX10_classOf_16 : decode cX10_classOf 16 = .ok (.ifCond .eq 11, 3) := by decide +kernel
theorem dX10_classOf_19 : decode cX10_classOf 19 = .ok (.aload_n 0, 1) := by decide +kernel
theorem dX10_classOf_20 : decode cX10_classOf 20 = .ok (.iload_n 1, 1) := by decide +kernel
theorem dX10_classOf_21 : decode cX10_classOf 21 = .ok (.invokevirtual 222, 3) := by decide +kernel
theorem dX10_classOf_24 : decode cX10_classOf 24 = .ok (.goto 8, 3) := by decide +kernel
theorem dX10_classOf_27 : decode cX10_classOf 27 = .ok (.aload_n 0, 1) := by decide +kernel
theorem dX10_classOf_28 : decode cX10_classOf 28 = .ok (.iconst 1, 1) := by decide +kernel
theorem dX10_classOf_29 : decode cX10_classOf 29 = .ok (.invokevirtual 202, 3) := by decide +kernel
theorem dX10_classOf_32 : decode cX10_classOf 32 = .ok (.ireturn, 1) := by decide +kernel
abbrev m_X10_classOf : MD := (yX10_classOf, cX10_classOf, 2, (some .int))
theorem q_1449 : Cond.constantLong RX10 218 2 ∈ TS := ts_t 1449 (by decide +kernel) (by decide +kernel)
theorem q_1450 : Cond.constantLong RX10 220 9 ∈ TS := ts_t 1450 (by decide +kernel) (by decide +kernel)
theorem q_1359 : Cond.code yX10_fail cX10_fail 2 (some .int) ∈ TS := ts_t 1359 (by decide +kernel) (by decide +kernel)
theorem q_1356 : Cond.methodLink RX10 202 yX10_fail ∈ TS := ts_t 1356 (by decide +kernel) (by decide +kernel)
theorem q_1358 : Cond.instanceMethod yX10_fail ∈ TS := ts_t 1358 (by decide +kernel) (by decide +kernel)
theorem qs_84 : Cond.selects yX10_fail.cls yX10_fail yX10_fail ∈ TS := ts_s 84 (by decide +kernel) (by decide +kernel)
theorem k_X10_202 : LkV RX10 202 m_X10_fail 1 := ⟨q_1356, q_1358, qs_84, ⟨q_11, q_1359, by decide, by decide, by decide +kernel⟩⟩
theorem q_1454 : Cond.code yX10_classFor cX10_classFor 4 (some .int) ∈ TS := ts_t 1454 (by decide +kernel) (by decide +kernel)
theorem q_1451 : Cond.methodLink RX10 222 yX10_classFor ∈ TS := ts_t 1451 (by decide +kernel) (by decide +kernel)
theorem q_1453 : Cond.instanceMethod yX10_classFor ∈ TS := ts_t 1453 (by decide +kernel) (by decide +kernel)
theorem qs_100 : Cond.selects yX10_classFor.cls yX10_classFor yX10_classFor ∈ TS := ts_s 100 (by decide +kernel) (by decide +kernel)
theorem k_X10_222 : LkV RX10 222 m_X10_classFor 1 := ⟨q_1451, q_1453, qs_100, ⟨q_11, q_1454, by decide, by decide, by decide +kernel⟩⟩
abbrev w_X10_classOf (g : GT) (h0 h1 h2 : Nat) (v0_1 v0_2 v0_3 v0_4 v0_5 v0_6 v0_7 v0_8 v0_9 v0_11 v0_12 v0_13 v0_14 v0_15 v0_17 v0_18 v0_19 v0_20 v0_21 v0_22 v0_23 v0_24 v0_25 v0_26 v0_27 v0_28 v0_29 v0_30 v0_31 v0_32 v0_33 v0_34 v0_35 v0_36 v0_37 : Value) (thrown0 : Int32) (basic1 classAxles2 : Nat → Int32) : va_W := [(h0, .inr (10, [.int thrown0, v0_1, v0_2, v0_3, v0_4, v0_5, v0_6, v0_7, v0_8, v0_9, .ref h1, v0_11, v0_12, v0_13, v0_14, v0_15, .ref h2, v0_17, v0_18, v0_19, v0_20, v0_21, v0_22, v0_23, v0_24, v0_25, v0_26, v0_27, v0_28, v0_29, v0_30, v0_31, v0_32, v0_33, v0_34, v0_35, v0_36, v0_37])), (h1, aI g 7 basic1), (h2, aI g 8 classAxles2)]
def f_X10_classOf_b32 (F : Nat) (basic1 classAxles2 : Nat → Int32) (s0 thrown0 : Int32) : Option (Int32 × Int32) :=
  some (s0, thrown0)
def f_X10_classOf (F : Nat) (p1 thrown0 : Int32) (basic1 classAxles2 : Nat → Int32) : Option (Int32 × Int32) :=
  bd1 (f_X10_within F p1.toInt64 2 9) fun r1 =>
  if r1 = 0 then
    bd2 (f_X10_fail F 1 0) fun r4 o5 =>
    f_X10_classOf_b32 F basic1 classAxles2 r4 o5
  else
    bd1 (f_X10_classFor F p1 basic1 classAxles2) fun r7 =>
    f_X10_classOf_b32 F basic1 classAxles2 r7 0
set_option maxHeartbeats 4000000 in
set_option maxRecDepth 100000 in
theorem c_X10_classOf (l : Launch) (g : GT) (F : Nat) (h0 h1 h2 : Nat) (v0_1 v0_2 v0_3 v0_4 v0_5 v0_6 v0_7 v0_8 v0_9 v0_11 v0_12 v0_13 v0_14 v0_15 v0_17 v0_18 v0_19 v0_20 v0_21 v0_22 v0_23 v0_24 v0_25 v0_26 v0_27 v0_28 v0_29 v0_30 v0_31 v0_32 v0_33 v0_34 v0_35 v0_36 v0_37 : Value) (p1 thrown0 : Int32) (basic1 classAxles2 : Nat → Int32) (r o_thrown0 : Int32) (sz : Nat) (hf : f_X10_classOf F p1 thrown0 basic1 classAxles2 = some (r, o_thrown0)) : CI l m_X10_classOf (rml 1 0 0) g (w_X10_classOf g h0 h1 h2 v0_1 v0_2 v0_3 v0_4 v0_5 v0_6 v0_7 v0_8 v0_9 v0_11 v0_12 v0_13 v0_14 v0_15 v0_17 v0_18 v0_19 v0_20 v0_21 v0_22 v0_23 v0_24 v0_25 v0_26 v0_27 v0_28 v0_29 v0_30 v0_31 v0_32 v0_33 v0_34 v0_35 v0_36 v0_37 thrown0 basic1 classAxles2) (fun _ => w_X10_classOf g h0 h1 h2 v0_1 v0_2 v0_3 v0_4 v0_5 v0_6 v0_7 v0_8 v0_9 v0_11 v0_12 v0_13 v0_14 v0_15 v0_17 v0_18 v0_19 v0_20 v0_21 v0_22 v0_23 v0_24 v0_25 v0_26 v0_27 v0_28 v0_29 v0_30 v0_31 v0_32 v0_33 v0_34 v0_35 v0_36 v0_37 o_thrown0 basic1 classAxles2) sz [.ref h0, .int p1] r := by
  refine en_i (by decide) (Nat.le_of_ble_eq_true rfl) (fun p e s m args below meth c A ls C w hl => ?_)
  have C : Cx p s m args meth c RX10 m_X10_classOf g A := C
  have hx := C.1
  have hb : c.code = cX10_classOf := C.2.1
  have hl : lv_has ls 2 [(0, .ref h0), (1, .int p1)] := hl
  obtain ⟨Q, hQ⟩ : ∃ Q, Q = QI below args s g A (fun _ => w_X10_classOf g h0 h1 h2 v0_1 v0_2 v0_3 v0_4 v0_5 v0_6 v0_7 v0_8 v0_9 v0_11 v0_12 v0_13 v0_14 v0_15 v0_17 v0_18 v0_19 v0_20 v0_21 v0_22 v0_23 v0_24 v0_25 v0_26 v0_27 v0_28 v0_29 v0_30 v0_31 v0_32 v0_33 v0_34 v0_35 v0_36 v0_37 o_thrown0 basic1 classAxles2) r 0 0 := ⟨_, rfl⟩
  suffices hW : W p l e (rml 1 0 0) s m args below meth c s.heap [] 0 0 Q (F0 m 0 ls []) from (by rw [hQ] at hW; exact hW)
  unfold f_X10_classOf at hf
  have b32 : ∀ (s0 thrown0 : Int32) (H : Heap) (locs : List Loc) (ls : Array Slot), f_X10_classOf_b32 F basic1 classAxles2 s0 thrown0 = some (r, o_thrown0) → Wd g A (w_X10_classOf g h0 h1 h2 v0_1 v0_2 v0_3 v0_4 v0_5 v0_6 v0_7 v0_8 v0_9 v0_11 v0_12 v0_13 v0_14 v0_15 v0_17 v0_18 v0_19 v0_20 v0_21 v0_22 v0_23 v0_24 v0_25 v0_26 v0_27 v0_28 v0_29 v0_30 v0_31 v0_32 v0_33 v0_34 v0_35 v0_36 v0_37 thrown0 basic1 classAxles2) s.heap H locs → lv_has ls 2 [] → W p l e (rml 1 0 0) s m args below meth c H locs 0 0 Q (F0 m 32 ls [.int s0]) := by
    intro s0 thrown0 H locs ls hf w hl
    unfold f_X10_classOf_b32 at hf
    obtain ⟨e1, e2⟩ := tp2 hf
    rw [hQ]
    exact rt_i C w rfl (fun _ => 0) (by rw [← e2]) e1 dX10_classOf_32
  refine lv_aload_n hx hb dX10_classOf_0 rfl (lv_at hl 0 rfl) ?_
  refine lv_iconst (v := 0) hx hb dX10_classOf_1 (by decide) ?_
  refine p_X10_84 C w 0 rfl (Nat.le_of_ble_eq_true rfl) (ws2 := w_X10_classOf g h0 h1 h2 v0_1 v0_2 v0_3 v0_4 v0_5 v0_6 v0_7 v0_8 v0_9 v0_11 v0_12 v0_13 v0_14 v0_15 v0_17 v0_18 v0_19 v0_20 v0_21 v0_22 v0_23 v0_24 v0_25 v0_26 v0_27 v0_28 v0_29 v0_30 v0_31 v0_32 v0_33 v0_34 v0_35 v0_36 v0_37 0 basic1 classAxles2) rfl dX10_classOf_2 (fun H locs w => ?_)
  refine lv_iload_n hx hb dX10_classOf_5 rfl (lv_at hl 1 rfl) ?_
  refine lv_i2l (v := p1.toInt64) hx hb dX10_classOf_6 rfl ?_
  refine lv_ldc2 (v := 2) hx hb C.2.2.2.1 (C.2.2.2.2.1 _ q_1449) dX10_classOf_7 ?_
  refine lv_ldc2 (v := 9) hx hb C.2.2.2.1 (C.2.2.2.2.1 _ q_1450) dX10_classOf_10 ?_
  obtain ⟨r1, hc2, hf⟩ := bd1_some hf
  refine ca_iS C w [] [0, 1, 2] [0, 1, 2] (wr := pk (w_X10_classOf g h0 h1 h2 v0_1 v0_2 v0_3 v0_4 v0_5 v0_6 v0_7 v0_8 v0_9 v0_11 v0_12 v0_13 v0_14 v0_15 v0_17 v0_18 v0_19 v0_20 v0_21 v0_22 v0_23 v0_24 v0_25 v0_26 v0_27 v0_28 v0_29 v0_30 v0_31 v0_32 v0_33 v0_34 v0_35 v0_36 v0_37 0 basic1 classAxles2) [0, 1, 2]) (wn := fun _ => w_X10_classOf g h0 h1 h2 v0_1 v0_2 v0_3 v0_4 v0_5 v0_6 v0_7 v0_8 v0_9 v0_11 v0_12 v0_13 v0_14 v0_15 v0_17 v0_18 v0_19 v0_20 v0_21 v0_22 v0_23 v0_24 v0_25 v0_26 v0_27 v0_28 v0_29 v0_30 v0_31 v0_32 v0_33 v0_34 v0_35 v0_36 v0_37 0 basic1 classAxles2) ⟨rfl, rfl, rfl, rfl, by decide, rfl, fun _ => rfl⟩ (c_X10_within l g F p1.toInt64 2 9 r1 _ hc2) k_X10_115 (rm_le (by decide) (by decide)) rfl hl.1 rfl (Nat.le_of_ble_eq_true rfl) dX10_classOf_13 ⟨Nat.le_of_ble_eq_true rfl, Nat.le_of_ble_eq_true rfl⟩ (cells2 := 0) (slots2 := 0) ⟨rfl, rfl⟩ (fun _ H locs w => ?_)
  refine lv_if_eq (tgt := 27) hx hb dX10_classOf_16 (by decide) (fun c3 => ?_) (fun c3 => ?_)
  · replace hf := it_t c3 hf
    refine lv_aload_n hx hb dX10_classOf_27 rfl (lv_at hl 0 rfl) ?_
    refine lv_iconst (v := 1) hx hb dX10_classOf_28 (by decide) ?_
    obtain ⟨r4, o5, hc6, hf⟩ := bd2_some hf
    refine ca_iV C w [0] [1, 2] [2, 0, 1] (wr := pk (w_X10_classOf g h0 h1 h2 v0_1 v0_2 v0_3 v0_4 v0_5 v0_6 v0_7 v0_8 v0_9 v0_11 v0_12 v0_13 v0_14 v0_15 v0_17 v0_18 v0_19 v0_20 v0_21 v0_22 v0_23 v0_24 v0_25 v0_26 v0_27 v0_28 v0_29 v0_30 v0_31 v0_32 v0_33 v0_34 v0_35 v0_36 v0_37 0 basic1 classAxles2) [1, 2]) (wn := fun _ => w_X10_classOf g h0 h1 h2 v0_1 v0_2 v0_3 v0_4 v0_5 v0_6 v0_7 v0_8 v0_9 v0_11 v0_12 v0_13 v0_14 v0_15 v0_17 v0_18 v0_19 v0_20 v0_21 v0_22 v0_23 v0_24 v0_25 v0_26 v0_27 v0_28 v0_29 v0_30 v0_31 v0_32 v0_33 v0_34 v0_35 v0_36 v0_37 o5 basic1 classAxles2) ⟨rfl, rfl, rfl, rfl, by decide, rfl, fun _ => rfl⟩ (c_X10_fail l g F h0 v0_1 v0_2 v0_3 v0_4 v0_5 v0_6 v0_7 v0_8 v0_9 (.ref h1) v0_11 v0_12 v0_13 v0_14 v0_15 (.ref h2) v0_17 v0_18 v0_19 v0_20 v0_21 v0_22 v0_23 v0_24 v0_25 v0_26 v0_27 v0_28 v0_29 v0_30 v0_31 v0_32 v0_33 v0_34 v0_35 v0_36 v0_37 1 0 r4 o5 _ hc6) k_X10_202 (rm_le (by decide) (by decide)) 0 10 rfl rfl rfl rfl hl.1 rfl (Nat.le_of_ble_eq_true rfl) dX10_classOf_29 ⟨Nat.le_of_ble_eq_true rfl, Nat.le_of_ble_eq_true rfl⟩ (cells2 := 0) (slots2 := 0) ⟨rfl, rfl⟩ (fun _ H locs w => ?_)
    exact b32 r4 o5 _ _ _ hf w (lv_sub hl [] rfl)
  · replace hf := it_f c3 hf
    refine lv_aload_n hx hb dX10_classOf_19 rfl (lv_at hl 0 rfl) ?_
    refine lv_iload_n hx hb dX10_classOf_20 rfl (lv_at hl 1 rfl) ?_
    obtain ⟨r7, hc8, hf⟩ := bd1_some hf
    refine ca_iV C w [0, 1, 2] [] [0, 1, 2] (wr := pk (w_X10_classOf g h0 h1 h2 v0_1 v0_2 v0_3 v0_4 v0_5 v0_6 v0_7 v0_8 v0_9 v0_11 v0_12 v0_13 v0_14 v0_15 v0_17 v0_18 v0_19 v0_20 v0_21 v0_22 v0_23 v0_24 v0_25 v0_26 v0_27 v0_28 v0_29 v0_30 v0_31 v0_32 v0_33 v0_34 v0_35 v0_36 v0_37 0 basic1 classAxles2) []) (wn := fun _ => w_X10_classOf g h0 h1 h2 v0_1 v0_2 v0_3 v0_4 v0_5 v0_6 v0_7 v0_8 v0_9 v0_11 v0_12 v0_13 v0_14 v0_15 v0_17 v0_18 v0_19 v0_20 v0_21 v0_22 v0_23 v0_24 v0_25 v0_26 v0_27 v0_28 v0_29 v0_30 v0_31 v0_32 v0_33 v0_34 v0_35 v0_36 v0_37 0 basic1 classAxles2) ⟨rfl, rfl, rfl, rfl, by decide, rfl, fun _ => rfl⟩ (c_X10_classFor l g F h0 h1 h2 (.int 0) v0_1 v0_2 v0_3 v0_4 v0_5 v0_6 v0_7 v0_8 v0_9 v0_11 v0_12 v0_13 v0_14 v0_15 v0_17 v0_18 v0_19 v0_20 v0_21 v0_22 v0_23 v0_24 v0_25 v0_26 v0_27 v0_28 v0_29 v0_30 v0_31 v0_32 v0_33 v0_34 v0_35 v0_36 v0_37 p1 basic1 classAxles2 r7 _ hc8) k_X10_222 (rm_le (by decide) (by decide)) 0 10 rfl rfl rfl rfl hl.1 rfl (Nat.le_of_ble_eq_true rfl) dX10_classOf_21 ⟨Nat.le_of_ble_eq_true rfl, Nat.le_of_ble_eq_true rfl⟩ (cells2 := 0) (slots2 := 0) ⟨rfl, rfl⟩ (fun _ H locs w => ?_)
    refine lv_goto (tgt := 32) hx hb dX10_classOf_24 (by decide) ?_
    exact b32 r7 0 _ _ _ hf w (lv_sub hl [] rfl)

theorem dX10_priceFor_0 : decode cX10_priceFor 0 = .ok (.iload_n 2, 1) := by decide +kernel
theorem dX10_priceFor_1 : decode cX10_priceFor 1 = .ok (.ifCond .ge 7, 3) := by decide +kernel
theorem dX10_priceFor_4 : decode cX10_priceFor 4 = .ok (.iload_n 1, 1) := by decide +kernel
theorem dX10_priceFor_5 : decode cX10_priceFor 5 = .ok (.goto 14, 3) := by decide +kernel
theorem dX10_priceFor_8 : decode cX10_priceFor 8 = .ok (.iload_n 1, 1) := by decide +kernel
theorem dX10_priceFor_9 : decode cX10_priceFor 9 = .ok (.aload_n 0, 1) := by decide +kernel
theorem dX10_priceFor_10 : decode cX10_priceFor 10 = .ok (.getfield 35, 3) := by decide +kernel
theorem dX10_priceFor_13 : decode cX10_priceFor 13 = .ok (.iload_n 2, 1) := by decide +kernel
theorem dX10_priceFor_14 : decode cX10_priceFor 14 = .ok (.iaload, 1) := by decide +kernel
theorem dX10_priceFor_15 : decode cX10_priceFor 15 = .ok (.imul, 1) := by decide +kernel
theorem dX10_priceFor_16 : decode cX10_priceFor 16 = .ok (.bipush 100, 2) := by decide +kernel
theorem dX10_priceFor_18 : decode cX10_priceFor 18 = .ok (.idiv, 1) := by decide +kernel
theorem dX10_priceFor_19 : decode cX10_priceFor 19 = .ok (.ireturn, 1) := by decide +kernel
abbrev m_X10_priceFor : MD := (yX10_priceFor, cX10_priceFor, 3, (some .int))

abbrev w_X10_priceFor (g : GT) (h0 h1 : Nat) (v0_0 v0_1 v0_2 v0_3 v0_4 v0_5 v0_6 v0_7 v0_8 v0_9 v0_10 v0_11 v0_12 v0_13 v0_14 v0_15 v0_16 v0_18 v0_19 v0_20 v0_21 v0_22 v0_23 v0_24 v0_25 v0_26 v0_27 v0_28 v0_29 v0_30 v0_31 v0_32 v0_33 v0_34 v0_35 v0_36 v0_37 : Value) (classPercent1 : Nat → Int32) : va_W := [(h0, .inr (10, [v0_0, v0_1, v0_2, v0_3, v0_4, v0_5, v0_6, v0_7, v0_8, v0_9, v0_10, v0_11, v0_12, v0_13, v0_14, v0_15, v0_16, .ref h1, v0_18, v0_19, v0_20, v0_21, v0_22, v0_23, v0_24, v0_25, v0_26, v0_27, v0_28, v0_29, v0_30, v0_31, v0_32, v0_33, v0_34, v0_35, v0_36, v0_37])), (h1, aI g 8 classPercent1)]
def f_X10_priceFor_b19 (F : Nat) (classPercent1 : Nat → Int32) (s0 : Int32) : Option (Int32) :=
  some s0
def f_X10_priceFor (F : Nat) (p1 p2 : Int32) (classPercent1 : Nat → Int32) : Option (Int32) :=
  if 0 ≤ p2 then
    rd classPercent1 8 p2 fun a2 =>
    f_X10_priceFor_b19 F classPercent1 ((p1 * a2) / 100)
  else
    f_X10_priceFor_b19 F classPercent1 p1
set_option maxHeartbeats 4000000 in
set_option maxRecDepth 100000 in
theorem c_X10_priceFor (l : Launch) (g : GT) (F : Nat) (h0 h1 : Nat) (v0_0 v0_1 v0_2 v0_3 v0_4 v0_5 v0_6 v0_7 v0_8 v0_9 v0_10 v0_11 v0_12 v0_13 v0_14 v0_15 v0_16 v0_18 v0_19 v0_20 v0_21 v0_22 v0_23 v0_24 v0_25 v0_26 v0_27 v0_28 v0_29 v0_30 v0_31 v0_32 v0_33 v0_34 v0_35 v0_36 v0_37 : Value) (p1 p2 : Int32) (classPercent1 : Nat → Int32) (r : Int32) (sz : Nat) (hf : f_X10_priceFor F p1 p2 classPercent1 = some r) : CI l m_X10_priceFor (rml 0 0 0) g (w_X10_priceFor g h0 h1 v0_0 v0_1 v0_2 v0_3 v0_4 v0_5 v0_6 v0_7 v0_8 v0_9 v0_10 v0_11 v0_12 v0_13 v0_14 v0_15 v0_16 v0_18 v0_19 v0_20 v0_21 v0_22 v0_23 v0_24 v0_25 v0_26 v0_27 v0_28 v0_29 v0_30 v0_31 v0_32 v0_33 v0_34 v0_35 v0_36 v0_37 classPercent1) (fun _ => w_X10_priceFor g h0 h1 v0_0 v0_1 v0_2 v0_3 v0_4 v0_5 v0_6 v0_7 v0_8 v0_9 v0_10 v0_11 v0_12 v0_13 v0_14 v0_15 v0_16 v0_18 v0_19 v0_20 v0_21 v0_22 v0_23 v0_24 v0_25 v0_26 v0_27 v0_28 v0_29 v0_30 v0_31 v0_32 v0_33 v0_34 v0_35 v0_36 v0_37 classPercent1) sz [.ref h0, .int p1, .int p2] r := by
  refine en_i (by decide) (Nat.le_of_ble_eq_true rfl) (fun p e s m args below meth c A ls C w hl => ?_)
  have C : Cx p s m args meth c RX10 m_X10_priceFor g A := C
  have hx := C.1
  have hb : c.code = cX10_priceFor := C.2.1
  have hl : lv_has ls 3 [(0, .ref h0), (1, .int p1), (2, .int p2)] := hl
  obtain ⟨Q, hQ⟩ : ∃ Q, Q = QI below args s g A (fun _ => w_X10_priceFor g h0 h1 v0_0 v0_1 v0_2 v0_3 v0_4 v0_5 v0_6 v0_7 v0_8 v0_9 v0_10 v0_11 v0_12 v0_13 v0_14 v0_15 v0_16 v0_18 v0_19 v0_20 v0_21 v0_22 v0_23 v0_24 v0_25 v0_26 v0_27 v0_28 v0_29 v0_30 v0_31 v0_32 v0_33 v0_34 v0_35 v0_36 v0_37 classPercent1) r 0 0 := ⟨_, rfl⟩
  suffices hW : W p l e (rml 0 0 0) s m args below meth c s.heap [] 0 0 Q (F0 m 0 ls []) from (by rw [hQ] at hW; exact hW)
  unfold f_X10_priceFor at hf
  have b19 : ∀ (s0 : Int32) (H : Heap) (locs : List Loc) (ls : Array Slot), f_X10_priceFor_b19 F classPercent1 s0 = some r → Wd g A (w_X10_priceFor g h0 h1 v0_0 v0_1 v0_2 v0_3 v0_4 v0_5 v0_6 v0_7 v0_8 v0_9 v0_10 v0_11 v0_12 v0_13 v0_14 v0_15 v0_16 v0_18 v0_19 v0_20 v0_21 v0_22 v0_23 v0_24 v0_25 v0_26 v0_27 v0_28 v0_29 v0_30 v0_31 v0_32 v0_33 v0_34 v0_35 v0_36 v0_37 classPercent1) s.heap H locs → lv_has ls 3 [] → W p l e (rml 0 0 0) s m args below meth c H locs 0 0 Q (F0 m 19 ls [.int s0]) := by
    intro s0 H locs ls hf w hl
    unfold f_X10_priceFor_b19 at hf
    obtain e1 := tp1 hf
    rw [hQ]
    exact rt_i C w rfl (fun _ => 0) rfl e1 dX10_priceFor_19
  refine lv_iload_n hx hb dX10_priceFor_0 rfl (lv_at hl 2 rfl) ?_
  refine lv_if_ge (tgt := 8) hx hb dX10_priceFor_1 (by decide) (fun c1 => ?_) (fun c1 => ?_)
  · replace hf := it_t c1 hf
    refine lv_iload_n hx hb dX10_priceFor_8 rfl (lv_at hl 1 rfl) ?_
    refine lv_aload_n hx hb dX10_priceFor_9 rfl (lv_at hl 0 rfl) ?_
    refine g_X10_35 C w 0 rfl rfl dX10_priceFor_10 ?_
    refine lv_iload_n hx hb dX10_priceFor_13 rfl (lv_at hl 2 rfl) ?_
    obtain ⟨a2, hia2, haa2, hf⟩ := rd_some hf
    refine ial C w 1 rfl hia2 haa2 dX10_priceFor_14 ?_
    refine lv_imul hx hb dX10_priceFor_15 ?_
    refine lv_bipush (v := 100) hx hb dX10_priceFor_16 (by decide) ?_
    refine lv_idiv hx hb dX10_priceFor_18 (by decide) ?_
    exact b19 ((p1 * a2) / 100) _ _ _ hf w (lv_sub hl [] rfl)
  · replace hf := it_f c1 hf
    refine lv_iload_n hx hb dX10_priceFor_4 rfl (lv_at hl 1 rfl) ?_
    refine lv_goto (tgt := 19) hx hb dX10_priceFor_5 (by decide) ?_
    exact b19 p1 _ _ _ hf w (lv_sub hl [] rfl)

theorem dX10_isBetter_0 : decode cX10_isBetter 0 = .ok (.aload_n 0, 1) := by decide +kernel
theorem dX10_isBetter_1 : decode cX10_isBetter 1 = .ok (.getfield 225, 3) := by decide +kernel
theorem dX10_isBetter_4 : decode cX10_isBetter 4 = .ok (.ifCond .eq 11, 3) := by decide +kernel
theorem dX10_isBetter_7 : decode cX10_isBetter 7 = .ok (.iload_n 1, 1) := by decide +kernel
theorem dX10_isBetter_8 : decode cX10_isBetter 8 = .ok (.aload_n 0, 1) := by decide +kernel
theorem dX10_isBetter_9 : decode cX10_isBetter 9 = .ok (.getfield 225, 3) := by decide +kernel
theorem dX10_isBetter_12 : decode cX10_isBetter 12 = .ok (.if_icmp .ge 5, 3) := by decide +kernel
theorem dX10_isBetter_15 : decode cX10_isBetter 15 = .ok (.iconst 1, 1) := by decide +kernel
theorem dX10_isBetter_16 : decode cX10_isBetter 16 = .ok (.ireturn, 1) := by decide +kernel
theorem dX10_isBetter_17 : decode cX10_isBetter 17 = .ok (.iload_n 1, 1) := by decide +kernel
theorem dX10_isBetter_18 : decode cX10_isBetter 18 = .ok (.aload_n 0, 1) := by decide +kernel
theorem dX10_isBetter_19 : decode cX10_isBetter 19 = .ok (.getfield 225, 3) := by decide +kernel
theorem dX10_isBetter_22 : decode cX10_isBetter 22 = .ok (.if_icmp .gt 11, 3) := by decide +kernel
theorem dX10_isBetter_25 : decode cX10_isBetter 25 = .ok (.iload_n 2, 1) := by decide +kernel
theorem dX10_isBetter_26 : decode cX10_isBetter 26 = .ok (.aload_n 0, 1) := by decide +kernel
theorem dX10_isBetter_27 : decode cX10_isBetter 27 = .ok (.getfield 228, 3) := by decide +kernel
theorem dX10_isBetter_30 : decode cX10_isBetter 30 = .ok (.if_icmp .le 5, 3) := by decide +kernel
theorem dX10_isBetter_33 : decode cX10_isBetter 33 = .ok (.iconst 0, 1) := by decide +kernel
theorem dX10_isBetter_34 : decode cX10_isBetter 34 = .ok (.ireturn, 1) := by decide +kernel
theorem dX10_isBetter_35 : decode cX10_isBetter 35 = .ok (.iload_n 2, 1) := by decide +kernel
theorem dX10_isBetter_36 : decode cX10_isBetter 36 = .ok (.aload_n 0, 1) := by decide +kernel
theorem dX10_isBetter_37 : decode cX10_isBetter 37 = .ok (.getfield 228, 3) := by decide +kernel
theorem dX10_isBetter_40 : decode cX10_isBetter 40 = .ok (.if_icmp .ge 5, 3) := by decide +kernel
theorem dX10_isBetter_43 : decode cX10_isBetter 43 = .ok (.iconst 1, 1) := by decide +kernel
theorem dX10_isBetter_44 : decode cX10_isBetter 44 = .ok (.ireturn, 1) := by decide +kernel
theorem dX10_isBetter_45 : decode cX10_isBetter 45 = .ok (.iconst 0, 1) := by decide +kernel
theorem dX10_isBetter_46 : decode cX10_isBetter 46 = .ok (.istore_n 3, 1) := by decide +kernel
theorem dX10_isBetter_47 : decode cX10_isBetter 47 = .ok (.iload_n 3, 1) := by decide +kernel
theorem dX10_isBetter_48 : decode cX10_isBetter 48 = .ok (.iload_n 1, 1) := by decide +kernel
theorem dX10_isBetter_49 : decode cX10_isBetter 49 = .ok (.if_icmp .gt 45, 3) := by decide +kernel
theorem dX10_isBetter_52 : decode cX10_isBetter 52 = .ok (.aload_n 0, 1) := by decide +kernel
theorem dX10_isBetter_53 : decode cX10_isBetter 53 = .ok (.getfield 60, 3) := by decide +kernel
theorem dX10_isBetter_56 : decode cX10_isBetter 56 = .ok (.iload_n 3, 1) := by decide +kernel
theorem dX10_isBetter_57 : decode cX10_isBetter 57 = .ok (.iaload, 1) := by decide +kernel
theorem dX10_isBetter_58 : decode cX10_isBetter 58 = .ok (.aload_n 0, 1) := by decide +kernel
theorem dX10_isBetter_59 : decode cX10_isBetter 59 = .ok (.getfield 57, 3) := by decide +kernel
theorem dX10_isBetter_62 : decode cX10_isBetter 62 = .ok (.iload_n 3, 1) := by decide +kernel
theorem dX10_isBetter_63 : decode cX10_isBetter 63 = .ok (.iaload, 1) := by decide +kernel
theorem dX10_isBetter_64 : decode cX10_isBetter 64 = .ok (.if_icmp .eq 24, 3) := by decide +kernel
theorem dX10_isBetter_67 : decode cX10_isBetter 67 = .ok (.aload_n 0, 1) := by decide +kernel
theorem dX10_isBetter_68 : decode cX10_isBetter 68 = .ok (.getfield 60, 3) := by decide +kernel
theorem dX10_isBetter_71 : decode cX10_isBetter 71 = .ok (.iload_n 3, 1) := by decide +kernel
theorem dX10_isBetter_72 : decode cX10_isBetter 72 = .ok (.iaload, 1) := by decide +kernel
theorem dX10_isBetter_73 : decode cX10_isBetter 73 = .ok (.aload_n 0, 1) := by decide +kernel
theorem dX10_isBetter_74 : decode cX10_isBetter 74 = .ok (.getfield 57, 3) := by decide +kernel
theorem dX10_isBetter_77 : decode cX10_isBetter 77 = .ok (.iload_n 3, 1) := by decide +kernel
theorem dX10_isBetter_78 : decode cX10_isBetter 78 = .ok (.iaload, 1) := by decide +kernel
theorem dX10_isBetter_79 : decode cX10_isBetter 79 = .ok (.if_icmp .ge 7, 3) := by decide +kernel
theorem dX10_isBetter_82 : decode cX10_isBetter 82 = .ok (.iconst 1, 1) := by decide +kernel
theorem dX10_isBetter_83 : decode cX10_isBetter 83 = .ok (.goto 4, 3) := by decide +kernel
theorem dX10_isBetter_86 : decode cX10_isBetter 86 = .ok (.iconst 0, 1) := by decide +kernel
theorem dX10_isBetter_87 : decode cX10_isBetter 87 = .ok (.ireturn, 1) := by decide +kernel
theorem dX10_isBetter_88 : decode cX10_isBetter 88 = .ok (.iinc 3 1, 3) := by decide +kernel
theorem dX10_isBetter_91 : decode cX10_isBetter 91 = .ok (.goto (-44), 3) := by decide +kernel
theorem dX10_isBetter_94 : decode cX10_isBetter 94 = .ok (.iconst 0, 1) := by decide +kernel
theorem dX10_isBetter_95 : decode cX10_isBetter 95 = .ok (.ireturn, 1) := by decide +kernel
abbrev m_X10_isBetter : MD := (yX10_isBetter, cX10_isBetter, 4, (some .boolean))
theorem g_X10_60 {p : Program} {l : Launch} {e : Env} {R : Room} {s : State} {m : MethodId} {args : Array Value} {below : List Frame} {meth : Method} {c : Code} {H : Heap} {locs : List Loc} {cells slots : Nat} {Q : State → Prop} {d : MD} {g : GT} {A : Nat → Prop} {ws : va_W} {pc : Nat} {ls : Array Slot} {rest : List Value} (C : Cx p s m args meth c RX10 d g A) (w : Wd g A ws s.heap H locs) (q0 : Nat) {a : Nat} {fs : List Value} {v : Value} (he : ws[q0]? = some (a, .inr (10, fs))) (hv : fs[29]? = some v) (hd : decode d.2.1 pc = .ok (.getfield 60, 3)) (kk : W p l e R s m args below meth c H locs cells slots Q (F0 m (pc + 3) ls (v :: rest))) : W p l e R s m args below meth c H locs cells slots Q (F0 m pc ls (.ref a :: rest)) := fg C w inX10s (ref := RX10) rfl 29 (by decide) (ts_t (w := Cond.fieldLink RX10 60 RX10 (TX10 29).2.1 (TX10 29).2.2.1) 1251 (by decide +kernel) (by decide +kernel)) rfl q0 he hv hd kk
theorem g_X10_57 {p : Program} {l : Launch} {e : Env} {R : Room} {s : State} {m : MethodId} {args : Array Value} {below : List Frame} {meth : Method} {c : Code} {H : Heap} {locs : List Loc} {cells slots : Nat} {Q : State → Prop} {d : MD} {g : GT} {A : Nat → Prop} {ws : va_W} {pc : Nat} {ls : Array Slot} {rest : List Value} (C : Cx p s m args meth c RX10 d g A) (w : Wd g A ws s.heap H locs) (q0 : Nat) {a : Nat} {fs : List Value} {v : Value} (he : ws[q0]? = some (a, .inr (10, fs))) (hv : fs[28]? = some v) (hd : decode d.2.1 pc = .ok (.getfield 57, 3)) (kk : W p l e R s m args below meth c H locs cells slots Q (F0 m (pc + 3) ls (v :: rest))) : W p l e R s m args below meth c H locs cells slots Q (F0 m pc ls (.ref a :: rest)) := fg C w inX10s (ref := RX10) rfl 28 (by decide) (ts_t (w := Cond.fieldLink RX10 57 RX10 (TX10 28).2.1 (TX10 28).2.2.1) 1250 (by decide +kernel) (by decide +kernel)) rfl q0 he hv hd kk
theorem g_X10_225 {p : Program} {l : Launch} {e : Env} {R : Room} {s : State} {m : MethodId} {args : Array Value} {below : List Frame} {meth : Method} {c : Code} {H : Heap} {locs : List Loc} {cells slots : Nat} {Q : State → Prop} {d : MD} {g : GT} {A : Nat → Prop} {ws : va_W} {pc : Nat} {ls : Array Slot} {rest : List Value} (C : Cx p s m args meth c RX10 d g A) (w : Wd g A ws s.heap H locs) (q0 : Nat) {a : Nat} {fs : List Value} {v : Value} (he : ws[q0]? = some (a, .inr (10, fs))) (hv : fs[26]? = some v) (hd : decode d.2.1 pc = .ok (.getfield 225, 3)) (kk : W p l e R s m args below meth c H locs cells slots Q (F0 m (pc + 3) ls (v :: rest))) : W p l e R s m args below meth c H locs cells slots Q (F0 m pc ls (.ref a :: rest)) := fg C w inX10s (ref := RX10) rfl 26 (by decide) (ts_t (w := Cond.fieldLink RX10 225 RX10 (TX10 26).2.1 (TX10 26).2.2.1) 1248 (by decide +kernel) (by decide +kernel)) rfl q0 he hv hd kk
theorem g_X10_228 {p : Program} {l : Launch} {e : Env} {R : Room} {s : State} {m : MethodId} {args : Array Value} {below : List Frame} {meth : Method} {c : Code} {H : Heap} {locs : List Loc} {cells slots : Nat} {Q : State → Prop} {d : MD} {g : GT} {A : Nat → Prop} {ws : va_W} {pc : Nat} {ls : Array Slot} {rest : List Value} (C : Cx p s m args meth c RX10 d g A) (w : Wd g A ws s.heap H locs) (q0 : Nat) {a : Nat} {fs : List Value} {v : Value} (he : ws[q0]? = some (a, .inr (10, fs))) (hv : fs[27]? = some v) (hd : decode d.2.1 pc = .ok (.getfield 228, 3)) (kk : W p l e R s m args below meth c H locs cells slots Q (F0 m (pc + 3) ls (v :: rest))) : W p l e R s m args below meth c H locs cells slots Q (F0 m pc ls (.ref a :: rest)) := fg C w inX10s (ref := RX10) rfl 27 (by decide) (ts_t (w := Cond.fieldLink RX10 228 RX10 (TX10 27).2.1 (TX10 27).2.2.1) 1249 (by decide +kernel) (by decide +kernel)) rfl q0 he hv hd kk
abbrev w_X10_isBetter (g : GT) (h0 h1 h2 : Nat) (v0_0 v0_1 v0_2 v0_3 v0_4 v0_5 v0_6 v0_7 v0_8 v0_9 v0_10 v0_11 v0_12 v0_13 v0_14 v0_15 v0_16 v0_17 v0_18 v0_19 v0_20 v0_21 v0_22 v0_23 v0_24 v0_25 v0_30 v0_31 v0_32 v0_33 v0_34 v0_35 v0_36 v0_37 : Value) (routeMany0 routeCost0 : Int32) (route1 tried2 : Nat → Int32) : va_W := [(h0, .inr (10, [v0_0, v0_1, v0_2, v0_3, v0_4, v0_5, v0_6, v0_7, v0_8, v0_9, v0_10, v0_11, v0_12, v0_13, v0_14, v0_15, v0_16, v0_17, v0_18, v0_19, v0_20, v0_21, v0_22, v0_23, v0_24, v0_25, .int routeMany0, .int routeCost0, .ref h1, .ref h2, v0_30, v0_31, v0_32, v0_33, v0_34, v0_35, v0_36, v0_37])), (h1, aI g 4 route1), (h2, aI g 4 tried2)]
def f_X10_isBetter_b87 (F : Nat) (k47 : (Int32 × Int32) → Option (Int32)) (routeMany0 routeCost0 : Int32) (route1 tried2 : Nat → Int32) (s0 : Int32) : Option (Int32) :=
  gd (s0 = 0 ∨ s0 = 1) (some s0)
def f_X10_isBetter_h47 (F : Nat) (routeMany0 routeCost0 : Int32) (route1 tried2 : Nat → Int32) (k47 : (Int32 × Int32) → Option (Int32)) (x1 x3 : Int32) : Option (Int32) :=
  if x1 < x3 then
    gd ((0 : Int32) = 0 ∨ (0 : Int32) = 1) (some 0)
  else
    rd tried2 4 x3 fun a2 =>
    rd route1 4 x3 fun a3 =>
    if a2 = a3 then
      k47 (x1, x3 + 1)
    else
      rd tried2 4 x3 fun a5 =>
      rd route1 4 x3 fun a6 =>
      if a6 ≤ a5 then
        f_X10_isBetter_b87 F k47 routeMany0 routeCost0 route1 tried2 0
      else
        f_X10_isBetter_b87 F k47 routeMany0 routeCost0 route1 tried2 1
def f_X10_isBetter_L47 (F : Nat) (routeMany0 routeCost0 : Int32) (route1 tried2 : Nat → Int32) (z : Int32 × Int32) : Option (Int32) := lp (fun k z => f_X10_isBetter_h47 F routeMany0 routeCost0 route1 tried2 k z.1 z.2) F z
def f_X10_isBetter_b33 (F : Nat) (routeMany0 routeCost0 : Int32) (route1 tried2 : Nat → Int32) : Option (Int32) :=
  gd ((0 : Int32) = 0 ∨ (0 : Int32) = 1) (some 0)
def f_X10_isBetter_b15 (F : Nat) (routeMany0 routeCost0 : Int32) (route1 tried2 : Nat → Int32) : Option (Int32) :=
  gd ((1 : Int32) = 0 ∨ (1 : Int32) = 1) (some 1)
def f_X10_isBetter (F : Nat) (p1 p2 routeMany0 routeCost0 : Int32) (route1 tried2 : Nat → Int32) : Option (Int32) :=
  if routeMany0 = 0 then
    f_X10_isBetter_b15 F routeMany0 routeCost0 route1 tried2
  else
    if routeMany0 ≤ p1 then
      if routeMany0 < p1 then
        f_X10_isBetter_b33 F routeMany0 routeCost0 route1 tried2
      else
        if p2 ≤ routeCost0 then
          if routeCost0 ≤ p2 then
            f_X10_isBetter_L47 F routeMany0 routeCost0 route1 tried2 (p1, 0)
          else
            gd ((1 : Int32) = 0 ∨ (1 : Int32) = 1) (some 1)
        else
          f_X10_isBetter_b33 F routeMany0 routeCost0 route1 tried2
    else
      f_X10_isBetter_b15 F routeMany0 routeCost0 route1 tried2
set_option maxHeartbeats 4000000 in
set_option maxRecDepth 100000 in
theorem c_X10_isBetter (l : Launch) (g : GT) (F : Nat) (h0 h1 h2 : Nat) (v0_0 v0_1 v0_2 v0_3 v0_4 v0_5 v0_6 v0_7 v0_8 v0_9 v0_10 v0_11 v0_12 v0_13 v0_14 v0_15 v0_16 v0_17 v0_18 v0_19 v0_20 v0_21 v0_22 v0_23 v0_24 v0_25 v0_30 v0_31 v0_32 v0_33 v0_34 v0_35 v0_36 v0_37 : Value) (p1 p2 routeMany0 routeCost0 : Int32) (route1 tried2 : Nat → Int32) (r : Int32) (sz : Nat) (hf : f_X10_isBetter F p1 p2 routeMany0 routeCost0 route1 tried2 = some r) : CI l m_X10_isBetter (rml 0 0 0) g (w_X10_isBetter g h0 h1 h2 v0_0 v0_1 v0_2 v0_3 v0_4 v0_5 v0_6 v0_7 v0_8 v0_9 v0_10 v0_11 v0_12 v0_13 v0_14 v0_15 v0_16 v0_17 v0_18 v0_19 v0_20 v0_21 v0_22 v0_23 v0_24 v0_25 v0_30 v0_31 v0_32 v0_33 v0_34 v0_35 v0_36 v0_37 routeMany0 routeCost0 route1 tried2) (fun _ => w_X10_isBetter g h0 h1 h2 v0_0 v0_1 v0_2 v0_3 v0_4 v0_5 v0_6 v0_7 v0_8 v0_9 v0_10 v0_11 v0_12 v0_13 v0_14 v0_15 v0_16 v0_17 v0_18 v0_19 v0_20 v0_21 v0_22 v0_23 v0_24 v0_25 v0_30 v0_31 v0_32 v0_33 v0_34 v0_35 v0_36 v0_37 routeMany0 routeCost0 route1 tried2) sz [.ref h0, .int p1, .int p2] r := by
  refine en_i (by decide) (Nat.le_of_ble_eq_true rfl) (fun p e s m args below meth c A ls C w hl => ?_)
  have C : Cx p s m args meth c RX10 m_X10_isBetter g A := C
  have hx := C.1
  have hb : c.code = cX10_isBetter := C.2.1
  have hl : lv_has ls 4 [(0, .ref h0), (1, .int p1), (2, .int p2)] := hl
  obtain ⟨Q, hQ⟩ : ∃ Q, Q = QI below args s g A (fun _ => w_X10_isBetter g h0 h1 h2 v0_0 v0_1 v0_2 v0_3 v0_4 v0_5 v0_6 v0_7 v0_8 v0_9 v0_10 v0_11 v0_12 v0_13 v0_14 v0_15 v0_16 v0_17 v0_18 v0_19 v0_20 v0_21 v0_22 v0_23 v0_24 v0_25 v0_30 v0_31 v0_32 v0_33 v0_34 v0_35 v0_36 v0_37 routeMany0 routeCost0 route1 tried2) r 0 0 := ⟨_, rfl⟩
  suffices hW : W p l e (rml 0 0 0) s m args below meth c s.heap [] 0 0 Q (F0 m 0 ls []) from (by rw [hQ] at hW; exact hW)
  unfold f_X10_isBetter at hf
  have L47 : ∀ (z : Int32 × Int32), f_X10_isBetter_L47 F routeMany0 routeCost0 route1 tried2 z = some r → ∀ (H : Heap) (locs : List Loc) (ls : Array Slot), Wd g A (w_X10_isBetter g h0 h1 h2 v0_0 v0_1 v0_2 v0_3 v0_4 v0_5 v0_6 v0_7 v0_8 v0_9 v0_10 v0_11 v0_12 v0_13 v0_14 v0_15 v0_16 v0_17 v0_18 v0_19 v0_20 v0_21 v0_22 v0_23 v0_24 v0_25 v0_30 v0_31 v0_32 v0_33 v0_34 v0_35 v0_36 v0_37 routeMany0 routeCost0 route1 tried2) s.heap H locs → lv_has ls 4 [(0, .ref h0), (1, .int z.1), (3, .int z.2)] → W p l e (rml 0 0 0) s m args below meth c H locs 0 0 Q (F0 m 47 ls []) := by
    intro z hf
    refine lp_W (r := r) (fun (z : Int32 × Int32) => ∀ (H : Heap) (locs : List Loc) (ls : Array Slot), Wd g A (w_X10_isBetter g h0 h1 h2 v0_0 v0_1 v0_2 v0_3 v0_4 v0_5 v0_6 v0_7 v0_8 v0_9 v0_10 v0_11 v0_12 v0_13 v0_14 v0_15 v0_16 v0_17 v0_18 v0_19 v0_20 v0_21 v0_22 v0_23 v0_24 v0_25 v0_30 v0_31 v0_32 v0_33 v0_34 v0_35 v0_36 v0_37 routeMany0 routeCost0 route1 tried2) s.heap H locs → lv_has ls 4 [(0, .ref h0), (1, .int z.1), (3, .int z.2)] → W p l e (rml 0 0 0) s m args below meth c H locs 0 0 Q (F0 m 47 ls [])) (fun k47 z ih47 hf => ?_) F z hf
    obtain ⟨x1, x3⟩ := z
    intro H locs ls w hl
    dsimp only at hf w hl ⊢
    unfold f_X10_isBetter_h47 at hf
    have b87 : ∀ (s0 : Int32) (H : Heap) (locs : List Loc) (ls : Array Slot), f_X10_isBetter_b87 F k47 routeMany0 routeCost0 route1 tried2 s0 = some r → Wd g A (w_X10_isBetter g h0 h1 h2 v0_0 v0_1 v0_2 v0_3 v0_4 v0_5 v0_6 v0_7 v0_8 v0_9 v0_10 v0_11 v0_12 v0_13 v0_14 v0_15 v0_16 v0_17 v0_18 v0_19 v0_20 v0_21 v0_22 v0_23 v0_24 v0_25 v0_30 v0_31 v0_32 v0_33 v0_34 v0_35 v0_36 v0_37 routeMany0 routeCost0 route1 tried2) s.heap H locs → lv_has ls 4 [] → W p l e (rml 0 0 0) s m args below meth c H locs 0 0 Q (F0 m 87 ls [.int s0]) := by
      intro s0 H locs ls hf w hl
      unfold f_X10_isBetter_b87 at hf
      obtain ⟨h01, hf⟩ := gd_some hf
      obtain e1 := tp1 hf
      rw [hQ]
      exact rt_z C w rfl h01 (fun _ => 0) rfl e1 dX10_isBetter_87
    refine lv_iload_n hx hb dX10_isBetter_47 rfl (lv_at hl 2 rfl) ?_
    refine lv_iload_n hx hb dX10_isBetter_48 rfl (lv_at hl 1 rfl) ?_
    refine lv_icmp_gt (tgt := 94) hx hb dX10_isBetter_49 (by decide) (fun c1 => ?_) (fun c1 => ?_)
    · replace hf := it_t c1 hf
      refine lv_iconst (v := 0) hx hb dX10_isBetter_94 (by decide) ?_
      obtain ⟨h01, hf⟩ := gd_some hf
      obtain e1 := tp1 hf
      rw [hQ]
      exact rt_z C w rfl h01 (fun _ => 0) rfl e1 dX10_isBetter_95
    · replace hf := it_f c1 hf
      refine lv_aload_n hx hb dX10_isBetter_52 rfl (lv_at hl 0 rfl) ?_
      refine g_X10_60 C w 0 rfl rfl dX10_isBetter_53 ?_
      refine lv_iload_n hx hb dX10_isBetter_56 rfl (lv_at hl 2 rfl) ?_
      obtain ⟨a2, hia2, haa2, hf⟩ := rd_some hf
      refine ial C w 2 rfl hia2 haa2 dX10_isBetter_57 ?_
      refine lv_aload_n hx hb dX10_isBetter_58 rfl (lv_at hl 0 rfl) ?_
      refine g_X10_57 C w 0 rfl rfl dX10_isBetter_59 ?_
      refine lv_iload_n hx hb dX10_isBetter_62 rfl (lv_at hl 2 rfl) ?_
      obtain ⟨a3, hia3, haa3, hf⟩ := rd_some hf
      refine ial C w 1 rfl hia3 haa3 dX10_isBetter_63 ?_
      refine lv_icmp_eq (tgt := 88) hx hb dX10_isBetter_64 (by decide) (fun c4 => ?_) (fun c4 => ?_)
      · replace hf := it_t c4 hf
        refine lv_iinc (v := x3 + 1) (lv' := [(3, .int (x3 + 1)), (0, .ref h0), (1, .int x1)]) hx hb dX10_isBetter_88 hl (k := 2) rfl rfl (by decide) rfl (fun ls hl => ?_)
        refine lv_goto (tgt := 47) hx hb dX10_isBetter_91 (by decide) ?_
        exact ih47 (x1, x3 + 1) hf _ _ _ w (lv_sub hl [1, 2, 0] rfl)
      · replace hf := it_f c4 hf
        refine lv_aload_n hx hb dX10_isBetter_67 rfl (lv_at hl 0 rfl) ?_
        refine g_X10_60 C w 0 rfl rfl dX10_isBetter_68 ?_
        refine lv_iload_n hx hb dX10_isBetter_71 rfl (lv_at hl 2 rfl) ?_
        obtain ⟨a5, hia5, haa5, hf⟩ := rd_some hf
        refine ial C w 2 rfl hia5 haa5 dX10_isBetter_72 ?_
        refine lv_aload_n hx hb dX10_isBetter_73 rfl (lv_at hl 0 rfl) ?_
        refine g_X10_57 C w 0 rfl rfl dX10_isBetter_74 ?_
        refine lv_iload_n hx hb dX10_isBetter_77 rfl (lv_at hl 2 rfl) ?_
        obtain ⟨a6, hia6, haa6, hf⟩ := rd_some hf
        refine ial C w 1 rfl hia6 haa6 dX10_isBetter_78 ?_
        refine lv_icmp_ge (tgt := 86) hx hb dX10_isBetter_79 (by decide) (fun c7 => ?_) (fun c7 => ?_)
        · replace hf := it_t c7 hf
          refine lv_iconst (v := 0) hx hb dX10_isBetter_86 (by decide) ?_
          exact b87 0 _ _ _ hf w (lv_sub hl [] rfl)
        · replace hf := it_f c7 hf
          refine lv_iconst (v := 1) hx hb dX10_isBetter_82 (by decide) ?_
          refine lv_goto (tgt := 87) hx hb dX10_isBetter_83 (by decide) ?_
          exact b87 1 _ _ _ hf w (lv_sub hl [] rfl)
  have b33 : ∀ (H : Heap) (locs : List Loc) (ls : Array Slot), f_X10_isBetter_b33 F routeMany0 routeCost0 route1 tried2 = some r → Wd g A (w_X10_isBetter g h0 h1 h2 v0_0 v0_1 v0_2 v0_3 v0_4 v0_5 v0_6 v0_7 v0_8 v0_9 v0_10 v0_11 v0_12 v0_13 v0_14 v0_15 v0_16 v0_17 v0_18 v0_19 v0_20 v0_21 v0_22 v0_23 v0_24 v0_25 v0_30 v0_31 v0_32 v0_33 v0_34 v0_35 v0_36 v0_37 routeMany0 routeCost0 route1 tried2) s.heap H locs → lv_has ls 4 [] → W p l e (rml 0 0 0) s m args below meth c H locs 0 0 Q (F0 m 33 ls []) := by
    intro  H locs ls hf w hl
    unfold f_X10_isBetter_b33 at hf
    refine lv_iconst (v := 0) hx hb dX10_isBetter_33 (by decide) ?_
    obtain ⟨h01, hf⟩ := gd_some hf
    obtain e1 := tp1 hf
    rw [hQ]
    exact rt_z C w rfl h01 (fun _ => 0) rfl e1 dX10_isBetter_34
  have b15 : ∀ (H : Heap) (locs : List Loc) (ls : Array Slot), f_X10_isBetter_b15 F routeMany0 routeCost0 route1 tried2 = some r → Wd g A (w_X10_isBetter g h0 h1 h2 v0_0 v0_1 v0_2 v0_3 v0_4 v0_5 v0_6 v0_7 v0_8 v0_9 v0_10 v0_11 v0_12 v0_13 v0_14 v0_15 v0_16 v0_17 v0_18 v0_19 v0_20 v0_21 v0_22 v0_23 v0_24 v0_25 v0_30 v0_31 v0_32 v0_33 v0_34 v0_35 v0_36 v0_37 routeMany0 routeCost0 route1 tried2) s.heap H locs → lv_has ls 4 [] → W p l e (rml 0 0 0) s m args below meth c H locs 0 0 Q (F0 m 15 ls []) := by
    intro  H locs ls hf w hl
    unfold f_X10_isBetter_b15 at hf
    refine lv_iconst (v := 1) hx hb dX10_isBetter_15 (by decide) ?_
    obtain ⟨h01, hf⟩ := gd_some hf
    obtain e1 := tp1 hf
    rw [hQ]
    exact rt_z C w rfl h01 (fun _ => 0) rfl e1 dX10_isBetter_16
  refine lv_aload_n hx hb dX10_isBetter_0 rfl (lv_at hl 0 rfl) ?_
  refine g_X10_225 C w 0 rfl rfl dX10_isBetter_1 ?_
  refine lv_if_eq (tgt := 15) hx hb dX10_isBetter_4 (by decide) (fun c8 => ?_) (fun c8 => ?_)
  · replace hf := it_t c8 hf
    exact b15  _ _ _ hf w (lv_sub hl [] rfl)
  · replace hf := it_f c8 hf
    refine lv_iload_n hx hb dX10_isBetter_7 rfl (lv_at hl 1 rfl) ?_
    refine lv_aload_n hx hb dX10_isBetter_8 rfl (lv_at hl 0 rfl) ?_
    refine g_X10_225 C w 0 rfl rfl dX10_isBetter_9 ?_
    refine lv_icmp_ge (tgt := 17) hx hb dX10_isBetter_12 (by decide) (fun c9 => ?_) (fun c9 => ?_)
    · replace hf := it_t c9 hf
      refine lv_iload_n hx hb dX10_isBetter_17 rfl (lv_at hl 1 rfl) ?_
      refine lv_aload_n hx hb dX10_isBetter_18 rfl (lv_at hl 0 rfl) ?_
      refine g_X10_225 C w 0 rfl rfl dX10_isBetter_19 ?_
      refine lv_icmp_gt (tgt := 33) hx hb dX10_isBetter_22 (by decide) (fun c10 => ?_) (fun c10 => ?_)
      · replace hf := it_t c10 hf
        exact b33  _ _ _ hf w (lv_sub hl [] rfl)
      · replace hf := it_f c10 hf
        refine lv_iload_n hx hb dX10_isBetter_25 rfl (lv_at hl 2 rfl) ?_
        refine lv_aload_n hx hb dX10_isBetter_26 rfl (lv_at hl 0 rfl) ?_
        refine g_X10_228 C w 0 rfl rfl dX10_isBetter_27 ?_
        refine lv_icmp_le (tgt := 35) hx hb dX10_isBetter_30 (by decide) (fun c11 => ?_) (fun c11 => ?_)
        · replace hf := it_t c11 hf
          refine lv_iload_n hx hb dX10_isBetter_35 rfl (lv_at hl 2 rfl) ?_
          refine lv_aload_n hx hb dX10_isBetter_36 rfl (lv_at hl 0 rfl) ?_
          refine g_X10_228 C w 0 rfl rfl dX10_isBetter_37 ?_
          refine lv_icmp_ge (tgt := 45) hx hb dX10_isBetter_40 (by decide) (fun c12 => ?_) (fun c12 => ?_)
          · replace hf := it_t c12 hf
            refine lv_iconst (v := 0) hx hb dX10_isBetter_45 (by decide) ?_
            refine lv_istore_n (lv' := [(3, .int 0), (0, .ref h0), (1, .int p1), (2, .int p2)]) hx hb dX10_isBetter_46 rfl hl (by decide) rfl (fun ls hl => ?_)
            exact L47 (p1, 0) hf _ _ _ w (lv_sub hl [1, 2, 0] rfl)
          · replace hf := it_f c12 hf
            refine lv_iconst (v := 1) hx hb dX10_isBetter_43 (by decide) ?_
            obtain ⟨h01, hf⟩ := gd_some hf
            obtain e1 := tp1 hf
            rw [hQ]
            exact rt_z C w rfl h01 (fun _ => 0) rfl e1 dX10_isBetter_44
        · replace hf := it_f c11 hf
          exact b33  _ _ _ hf w (lv_sub hl [] rfl)
    · replace hf := it_f c9 hf
      exact b15  _ _ _ hf w (lv_sub hl [] rfl)

theorem dX10_goOn_0 : decode cX10_goOn 0 = .ok (.iload_n 1, 1) := by decide +kernel
theorem dX10_goOn_1 : decode cX10_goOn 1 = .ok (.ifCond .le 69, 3) := by decide +kernel
theorem dX10_goOn_4 : decode cX10_goOn 4 = .ok (.aload_n 0, 1) := by decide +kernel
theorem dX10_goOn_5 : decode cX10_goOn 5 = .ok (.getfield 60, 3) := by decide +kernel
theorem dX10_goOn_8 : decode cX10_goOn 8 = .ok (.iload_n 1, 1) := by decide +kernel
theorem dX10_goOn_9 : decode cX10_goOn 9 = .ok (.iaload, 1) := by decide +kernel
theorem dX10_goOn_10 : decode cX10_goOn 10 = .ok (.iload_n 2, 1) := by decide +kernel
theorem dX10_goOn_11 : decode cX10_goOn 11 = .ok (.if_icmp .ne 59, 3) := by decide +kernel
theorem dX10_goOn_14 : decode cX10_goOn 14 = .ok (.iload_n 3, 1) := by decide +kernel
theorem dX10_goOn_15 : decode cX10_goOn 15 = .ok (.iload 5, 2) := by decide +kernel
theorem dX10_goOn_17 : decode cX10_goOn 17 = .ok (.if_icmp .lt 53, 3) := by decide +kernel
theorem dX10_goOn_20 : decode cX10_goOn 20 = .ok (.aload_n 0, 1) := by decide +kernel
theorem dX10_goOn_21 : decode cX10_goOn 21 = .ok (.iload_n 1, 1) := by decide +kernel
theorem dX10_goOn_22 : decode cX10_goOn 22 = .ok (.iload 4, 2) := by decide +kernel
theorem dX10_goOn_24 : decode cX10_goOn 24 = .ok (.invokevirtual 231, 3) := by decide +kernel
theorem dX10_goOn_27 : decode cX10_goOn 27 = .ok (.ifCond .eq 43, 3) := by decide +kernel
theorem dX10_goOn_30 : decode cX10_goOn 30 = .ok (.aload_n 0, 1) := by decide +kernel
theorem dX10_goOn_31 : decode cX10_goOn 31 = .ok (.iload_n 1, 1) := by decide +kernel
theorem dX10_goOn_32 : decode cX10_goOn 32 = .ok (.putfield 225, 3) := by decide +kernel
theorem dX10_goOn_35 : decode cX10_goOn 35 = .ok (.aload_n 0, 1) := by decide +kernel
theorem dX10_goOn_36 : decode cX10_goOn 36 = .ok (.iload 4, 2) := by decide +kernel
theorem dX10_goOn_38 : decode cX10_goOn 38 = .ok (.putfield 228, 3) := by decide +kernel
theorem dX10_goOn_41 : decode cX10_goOn 41 = .ok (.iconst 0, 1) := by decide +kernel
theorem dX10_goOn_42 : decode cX10_goOn 42 = .ok (.istore 6, 2) := by decide +kernel
theorem dX10_goOn_44 : decode cX10_goOn 44 = .ok (.iload 6, 2) := by decide +kernel
theorem dX10_goOn_46 : decode cX10_goOn 46 = .ok (.iload_n 1, 1) := by decide +kernel
theorem dX10_goOn_47 : decode cX10_goOn 47 = .ok (.if_icmp .gt 23, 3) := by decide +kernel
theorem dX10_goOn_50 : decode cX10_goOn 50 = .ok (.aload_n 0, 1) := by decide +kernel
theorem dX10_goOn_51 : decode cX10_goOn 51 = .ok (.getfield 57, 3) := by decide +kernel
theorem dX10_goOn_54 : decode cX10_goOn 54 = .ok (.iload 6, 2) := by decide +kernel
theorem dX10_goOn_56 : decode cX10_goOn 56 = .ok (.aload_n 0, 1) := by decide +kernel
theorem dX10_goOn_57 : decode cX10_goOn 57 = .ok (.getfield 60, 3) := by decide +kernel
theorem dX10_goOn_60 : decode cX10_goOn 60 = .ok (.iload 6, 2) := by decide +kernel
theorem dX10_goOn_62 : decode cX10_goOn 62 = .ok (.iaload, 1) := by decide +kernel
theorem dX10_goOn_63 : decode cX10_goOn 63 = .ok (.iastore, 1) := by decide +kernel
theorem dX10_goOn_64 : decode cX10_goOn 64 = .ok (.iinc 6 1, 3) := by decide +kernel
theorem dX10_goOn_67 : decode cX10_goOn 67 = .ok (.goto (-23), 3) := by decide +kernel
theorem dX10_goOn_70 : decode cX10_goOn 70 = .ok (.iload_n 1, 1) := by decide +kernel
theorem dX10_goOn_71 : decode cX10_goOn 71 = .ok (.iconst 3, 1) := by decide +kernel
theorem dX10_goOn_72 : decode cX10_goOn 72 = .ok (.if_icmp .ne 4, 3) := by decide +kernel
theorem dX10_goOn_75 : decode cX10_goOn 75 = .ok (.return_, 1) := by decide +kernel
theorem dX10_goOn_76 : decode cX10_goOn 76 = .ok (.iconst 0, 1) := by decide +kernel
theorem dX10_goOn_77 : decode cX10_goOn 77 = .ok (.istore 6, 2) := by decide +kernel
theorem dX10_goOn_79 : decode cX10_goOn 79 = .ok (.iload 6, 2) := by decide +kernel
theorem dX10_goOn_81 : decode cX10_goOn 81 = .ok (.aload_n 0, 1) := by decide +kernel
theorem dX10_goOn_82 : decode cX10_goOn 82 = .ok (.getfield 13, 3) := by decide +kernel
theorem dX10_goOn_85 : decode cX10_goOn 85 = .ok (.iconst 1, 1) := by decide +kernel
theorem dX10_goOn_86 : decode cX10_goOn 86 = .ok (.iaload, 1) := by decide +kernel
theorem dX10_goOn_87 : decode cX10_goOn 87 = .ok (.if_icmp .ge 72, 3) := by decide +kernel
theorem dX10_goOn_90 : decode cX10_goOn 90 = .ok (.aload_n 0, 1) := by decide +kernel
theorem dX10_goOn_91 : decode cX10_goOn 91 = .ok (.getfield 20, 3) := by decide +kernel
theorem dX10_goOn_94 : decode cX10_goOn 94 = .ok (.iload 6, 2) := by decide +kernel
theorem dX10_goOn_96 : decode cX10_goOn 96 = .ok (.iaload, 1) := by decide +kernel
theorem dX10_goOn_97 : decode cX10_goOn 97 = .ok (.aload_n 0, 1) := by decide +kernel
theorem dX10_goOn_98 : decode cX10_goOn 98 = .ok (.getfield 60, 3) := by decide +kernel
theorem dX10_goOn_101 : decode cX10_goOn 101 = .ok (.iload_n 1, 1) := by decide +kernel
theorem dX10_goOn_102 : decode cX10_goOn 102 = .ok (.iaload, 1) := by decide +kernel
theorem dX10_goOn_103 : decode cX10_goOn 103 = .ok (.if_icmp .eq 6, 3) := by decide +kernel
theorem dX10_goOn_106 : decode cX10_goOn 106 = .ok (.goto 47, 3) := by decide +kernel
theorem dX10_goOn_109 : decode cX10_goOn 109 = .ok (.aload_n 0, 1) := by decide +kernel
theorem dX10_goOn_110 : decode cX10_goOn 110 = .ok (.getfield 60, 3) := by decide +kernel
theorem dX10_goOn_113 : decode cX10_goOn 113 = .ok (.iload_n 1, 1) := by decide +kernel
theorem dX10_goOn_114 : decode cX10_goOn 114 = .ok (.iconst 1, 1) := by decide +kernel
theorem dX10_goOn_115 : decode cX10_goOn 115 = .ok (.iadd, 1) := by decide +kernel
theorem dX10_goOn_116 : decode cX10_goOn 116 = .ok (.aload_n 0, 1) := by decide +kernel
theorem dX10_goOn_117 : decode cX10_goOn 117 = .ok (.getfield 23, 3) := by decide +kernel
theorem dX10_goOn_120 : decode cX10_goOn 120 = .ok (.iload 6, 2) := by decide +kernel
theorem dX10_goOn_122 : decode cX10_goOn 122 = .ok (.iaload, 1) := by decide +kernel
theorem dX10_goOn_123 : decode cX10_goOn 123 = .ok (.iastore, 1) := by decide +kernel
theorem dX10_goOn_124 : decode cX10_goOn 124 = .ok (.aload_n 0, 1) := by decide +kernel
theorem dX10_goOn_125 : decode cX10_goOn 125 = .ok (.iload_n 1, 1) := by decide +kernel
theorem dX10_goOn_126 : decode cX10_goOn 126 = .ok (.iconst 1, 1) := by decide +kernel
theorem dX10_goOn_127 : decode cX10_goOn 127 = .ok (.iadd, 1) := by decide +kernel
theorem dX10_goOn_128 : decode cX10_goOn 128 = .ok (.iload_n 2, 1) := by decide +kernel
theorem dX10_goOn_129 : decode cX10_goOn 129 = .ok (.iload_n 3, 1) := by decide +kernel
theorem dX10_goOn_130 : decode cX10_goOn 130 = .ok (.aload_n 0, 1) := by decide +kernel
theorem dX10_goOn_131 : decode cX10_goOn 131 = .ok (.getfield 26, 3) := by decide +kernel
theorem dX10_goOn_134 : decode cX10_goOn 134 = .ok (.iload 6, 2) := by decide +kernel
theorem dX10_goOn_136 : decode cX10_goOn 136 = .ok (.iaload, 1) := by decide +kernel
theorem dX10_goOn_137 : decode cX10_goOn 137 = .ok (.iadd, 1) := by decide +kernel
theorem dX10_goOn_138 : decode cX10_goOn 138 = .ok (.iload 4, 2) := by decide +kernel
theorem dX10_goOn_140 : decode cX10_goOn 140 = .ok (.aload_n 0, 1) := by decide +kernel
theorem dX10_goOn_141 : decode cX10_goOn 141 = .ok (.getfield 29, 3) := by decide +kernel
theorem dX10_goOn_144 : decode cX10_goOn 144 = .ok (.iload 6, 2) := by decide +kernel
theorem dX10_goOn_146 : decode cX10_goOn 146 = .ok (.iaload, 1) := by decide +kernel
theorem dX10_goOn_147 : decode cX10_goOn 147 = .ok (.iadd, 1) := by decide +kernel
theorem dX10_goOn_148 : decode cX10_goOn 148 = .ok (.iload 5, 2) := by decide +kernel
theorem dX10_goOn_150 : decode cX10_goOn 150 = .ok (.invokevirtual 234, 3) := by decide +kernel
theorem dX10_goOn_153 : decode cX10_goOn 153 = .ok (.iinc 6 1, 3) := by decide +kernel
theorem dX10_goOn_156 : decode cX10_goOn 156 = .ok (.goto (-77), 3) := by decide +kernel
theorem dX10_goOn_159 : decode cX10_goOn 159 = .ok (.return_, 1) := by decide +kernel
abbrev m_X10_goOn : MD := (yX10_goOn, cX10_goOn, 7, none)
theorem p_X10_225 {p : Program} {l : Launch} {e : Env} {R : Room} {s : State} {m : MethodId} {args : Array Value} {below : List Frame} {meth : Method} {c : Code} {H : Heap} {locs : List Loc} {cells slots : Nat} {Q : State → Prop} {d : MD} {g : GT} {A : Nat → Prop} {ws : va_W} {pc : Nat} {ls : Array Slot} {rest : List Value} (C : Cx p s m args meth c RX10 d g A) (w : Wd g A ws s.heap H locs) (q0 : Nat) {a : Nat} {fs : List Value} {x : Int32} (he : ws[q0]? = some (a, .inr (10, fs))) (hlt : 26 < fs.length) {ws2 : va_W} (h2 : ws.set q0 (a, .inr (10, fs.set 26 (.int x))) = ws2) (hd : decode d.2.1 pc = .ok (.putfield 225, 3)) (kk : ∀ (H1 : Heap) (locs1 : List Loc), Wd g A ws2 s.heap H1 locs1 → W p l e R s m args below meth c H1 locs1 cells slots Q (F0 m (pc + 3) ls rest)) : W p l e R s m args below meth c H locs cells slots Q (F0 m pc ls (.int x :: .ref a :: rest)) := fp C w inX10s tyX10_ok nmX10 (ref := RX10) rfl 26 (by decide) (ts_t (w := Cond.fieldLink RX10 225 RX10 (TX10 26).2.1 (TX10 26).2.2.1) 1248 (by decide +kernel) (by decide +kernel)) rfl rfl q0 he rfl rfl hlt h2 hd kk
theorem p_X10_228 {p : Program} {l : Launch} {e : Env} {R : Room} {s : State} {m : MethodId} {args : Array Value} {below : List Frame} {meth : Method} {c : Code} {H : Heap} {locs : List Loc} {cells slots : Nat} {Q : State → Prop} {d : MD} {g : GT} {A : Nat → Prop} {ws : va_W} {pc : Nat} {ls : Array Slot} {rest : List Value} (C : Cx p s m args meth c RX10 d g A) (w : Wd g A ws s.heap H locs) (q0 : Nat) {a : Nat} {fs : List Value} {x : Int32} (he : ws[q0]? = some (a, .inr (10, fs))) (hlt : 27 < fs.length) {ws2 : va_W} (h2 : ws.set q0 (a, .inr (10, fs.set 27 (.int x))) = ws2) (hd : decode d.2.1 pc = .ok (.putfield 228, 3)) (kk : ∀ (H1 : Heap) (locs1 : List Loc), Wd g A ws2 s.heap H1 locs1 → W p l e R s m args below meth c H1 locs1 cells slots Q (F0 m (pc + 3) ls rest)) : W p l e R s m args below meth c H locs cells slots Q (F0 m pc ls (.int x :: .ref a :: rest)) := fp C w inX10s tyX10_ok nmX10 (ref := RX10) rfl 27 (by decide) (ts_t (w := Cond.fieldLink RX10 228 RX10 (TX10 27).2.1 (TX10 27).2.2.1) 1249 (by decide +kernel) (by decide +kernel)) rfl rfl q0 he rfl rfl hlt h2 hd kk
theorem q_1475 : Cond.code yX10_goOn cX10_goOn 7 none ∈ TS := ts_t 1475 (by decide +kernel) (by decide +kernel)
theorem q_1472 : Cond.methodLink RX10 234 yX10_goOn ∈ TS := ts_t 1472 (by decide +kernel) (by decide +kernel)
theorem q_1474 : Cond.instanceMethod yX10_goOn ∈ TS := ts_t 1474 (by decide +kernel) (by decide +kernel)
theorem qs_104 : Cond.selects yX10_goOn.cls yX10_goOn yX10_goOn ∈ TS := ts_s 104 (by decide +kernel) (by decide +kernel)
theorem k_X10_234 : LkV RX10 234 m_X10_goOn 5 := ⟨q_1472, q_1474, qs_104, ⟨q_11, q_1475, by decide, by decide, by decide +kernel⟩⟩
theorem q_1479 : Cond.code yX10_isBetter cX10_isBetter 4 (some .boolean) ∈ TS := ts_t 1479 (by decide +kernel) (by decide +kernel)
theorem q_1476 : Cond.methodLink RX10 231 yX10_isBetter ∈ TS := ts_t 1476 (by decide +kernel) (by decide +kernel)
theorem q_1478 : Cond.instanceMethod yX10_isBetter ∈ TS := ts_t 1478 (by decide +kernel) (by decide +kernel)
theorem qs_105 : Cond.selects yX10_isBetter.cls yX10_isBetter yX10_isBetter ∈ TS := ts_s 105 (by decide +kernel) (by decide +kernel)
theorem k_X10_231 : LkV RX10 231 m_X10_isBetter 2 := ⟨q_1476, q_1478, qs_105, ⟨q_11, q_1479, by decide, by decide, by decide +kernel⟩⟩
abbrev w_X10_goOn (g : GT) (h0 h1 h2 h3 h4 h5 h6 h7 : Nat) (v0_0 v0_1 v0_2 v0_3 v0_4 v0_5 v0_6 v0_7 v0_8 v0_9 v0_11 v0_16 v0_17 v0_18 v0_19 v0_20 v0_21 v0_22 v0_23 v0_24 v0_25 v0_30 v0_31 v0_32 v0_33 v0_34 v0_35 v0_36 v0_37 : Value) (routeMany0 routeCost0 : Int32) (basic1 linkFrom2 linkMinutes3 linkPrice4 linkTo5 route6 tried7 : Nat → Int32) : va_W := [(h0, .inr (10, [v0_0, v0_1, v0_2, v0_3, v0_4, v0_5, v0_6, v0_7, v0_8, v0_9, .ref h1, v0_11, .ref h2, .ref h5, .ref h3, .ref h4, v0_16, v0_17, v0_18, v0_19, v0_20, v0_21, v0_22, v0_23, v0_24, v0_25, .int routeMany0, .int routeCost0, .ref h6, .ref h7, v0_30, v0_31, v0_32, v0_33, v0_34, v0_35, v0_36, v0_37])), (h1, aI g 7 basic1), (h2, aI g 48 linkFrom2), (h3, aI g 48 linkMinutes3), (h4, aI g 48 linkPrice4), (h5, aI g 48 linkTo5), (h6, aI g 4 route6), (h7, aI g 4 tried7)]
def f_X10_goOn_b153 (F : Nat) (rec : Int32 → Int32 → Int32 → Int32 → Int32 → Int32 → Int32 → (Nat → Int32) → (Nat → Int32) → (Nat → Int32) → (Nat → Int32) → (Nat → Int32) → (Nat → Int32) → (Nat → Int32) → Option (Int32 × Int32 × (Nat → Int32) × (Nat → Int32))) (k79 : (Int32 × Int32 × Int32 × Int32 × Int32 × Int32 × Int32 × Int32 × (Nat → Int32) × (Nat → Int32)) → Option (Int32 × Int32 × (Nat → Int32) × (Nat → Int32))) (basic1 linkFrom2 linkMinutes3 linkPrice4 linkTo5 : Nat → Int32) (x1 x2 x3 x4 x5 x6 routeMany0 routeCost0 : Int32) (route6 tried7 : Nat → Int32) : Option (Int32 × Int32 × (Nat → Int32) × (Nat → Int32)) :=
  k79 (x1, x2, x3, x4, x5, x6 + 1, routeMany0, routeCost0, route6, tried7)
def f_X10_goOn_h79 (F : Nat) (rec : Int32 → Int32 → Int32 → Int32 → Int32 → Int32 → Int32 → (Nat → Int32) → (Nat → Int32) → (Nat → Int32) → (Nat → Int32) → (Nat → Int32) → (Nat → Int32) → (Nat → Int32) → Option (Int32 × Int32 × (Nat → Int32) × (Nat → Int32))) (basic1 linkFrom2 linkMinutes3 linkPrice4 linkTo5 : Nat → Int32) (k79 : (Int32 × Int32 × Int32 × Int32 × Int32 × Int32 × Int32 × Int32 × (Nat → Int32) × (Nat → Int32)) → Option (Int32 × Int32 × (Nat → Int32) × (Nat → Int32))) (x1 x2 x3 x4 x5 x6 routeMany0 routeCost0 : Int32) (route6 tried7 : Nat → Int32) : Option (Int32 × Int32 × (Nat → Int32) × (Nat → Int32)) :=
  rd basic1 7 1 fun a1 =>
  if a1 ≤ x6 then
    some (routeMany0, routeCost0, route6, tried7)
  else
    rd linkFrom2 48 x6 fun a3 =>
    rd tried7 4 x1 fun a4 =>
    if a3 = a4 then
      rd linkTo5 48 x6 fun a6 =>
      wr tried7 4 (x1 + 1) a6 fun f7 =>
      rd linkMinutes3 48 x6 fun a8 =>
      rd linkPrice4 48 x6 fun a9 =>
      bd4 (rec (x1 + 1) x2 (x3 + a8) (x4 + a9) x5 routeMany0 routeCost0 basic1 linkFrom2 linkMinutes3 linkPrice4 linkTo5 route6 f7) fun o10 o11 o12 o13 =>
      f_X10_goOn_b153 F rec k79 basic1 linkFrom2 linkMinutes3 linkPrice4 linkTo5 x1 x2 x3 x4 x5 x6 o10 o11 o12 o13
    else
      f_X10_goOn_b153 F rec k79 basic1 linkFrom2 linkMinutes3 linkPrice4 linkTo5 x1 x2 x3 x4 x5 x6 routeMany0 routeCost0 route6 tried7
def f_X10_goOn_L79 (F : Nat) (rec : Int32 → Int32 → Int32 → Int32 → Int32 → Int32 → Int32 → (Nat → Int32) → (Nat → Int32) → (Nat → Int32) → (Nat → Int32) → (Nat → Int32) → (Nat → Int32) → (Nat → Int32) → Option (Int32 × Int32 × (Nat → Int32) × (Nat → Int32))) (basic1 linkFrom2 linkMinutes3 linkPrice4 linkTo5 : Nat → Int32) (z : Int32 × Int32 × Int32 × Int32 × Int32 × Int32 × Int32 × Int32 × (Nat → Int32) × (Nat → Int32)) : Option (Int32 × Int32 × (Nat → Int32) × (Nat → Int32)) := lp (fun k z => f_X10_goOn_h79 F rec basic1 linkFrom2 linkMinutes3 linkPrice4 linkTo5 k z.1 z.2.1 z.2.2.1 z.2.2.2.1 z.2.2.2.2.1 z.2.2.2.2.2.1 z.2.2.2.2.2.2.1 z.2.2.2.2.2.2.2.1 z.2.2.2.2.2.2.2.2.1 z.2.2.2.2.2.2.2.2.2) F z
def f_X10_goOn_b70 (F : Nat) (rec : Int32 → Int32 → Int32 → Int32 → Int32 → Int32 → Int32 → (Nat → Int32) → (Nat → Int32) → (Nat → Int32) → (Nat → Int32) → (Nat → Int32) → (Nat → Int32) → (Nat → Int32) → Option (Int32 × Int32 × (Nat → Int32) × (Nat → Int32))) (basic1 linkFrom2 linkMinutes3 linkPrice4 linkTo5 : Nat → Int32) (x1 x2 x3 x4 x5 routeMany0 routeCost0 : Int32) (route6 tried7 : Nat → Int32) : Option (Int32 × Int32 × (Nat → Int32) × (Nat → Int32)) :=
  if x1 = 3 then
    some (routeMany0, routeCost0, route6, tried7)
  else
    f_X10_goOn_L79 F rec basic1 linkFrom2 linkMinutes3 linkPrice4 linkTo5 (x1, x2, x3, x4, x5, 0, routeMany0, routeCost0, route6, tried7)
def f_X10_goOn_h44 (F : Nat) (rec : Int32 → Int32 → Int32 → Int32 → Int32 → Int32 → Int32 → (Nat → Int32) → (Nat → Int32) → (Nat → Int32) → (Nat → Int32) → (Nat → Int32) → (Nat → Int32) → (Nat → Int32) → Option (Int32 × Int32 × (Nat → Int32) × (Nat → Int32))) (basic1 linkFrom2 linkMinutes3 linkPrice4 linkTo5 : Nat → Int32) (k44 : (Int32 × Int32 × Int32 × Int32 × Int32 × Int32 × Int32 × Int32 × (Nat → Int32) × (Nat → Int32)) → Option (Int32 × Int32 × (Nat → Int32) × (Nat → Int32))) (x1 x2 x3 x4 x5 x6 routeMany0 routeCost0 : Int32) (route6 tried7 : Nat → Int32) : Option (Int32 × Int32 × (Nat → Int32) × (Nat → Int32)) :=
  if x1 < x6 then
    f_X10_goOn_b70 F rec basic1 linkFrom2 linkMinutes3 linkPrice4 linkTo5 x1 x2 x3 x4 x5 routeMany0 routeCost0 route6 tried7
  else
    rd tried7 4 x6 fun a17 =>
    wr route6 4 x6 a17 fun f18 =>
    k44 (x1, x2, x3, x4, x5, x6 + 1, routeMany0, routeCost0, f18, tried7)
def f_X10_goOn_L44 (F : Nat) (rec : Int32 → Int32 → Int32 → Int32 → Int32 → Int32 → Int32 → (Nat → Int32) → (Nat → Int32) → (Nat → Int32) → (Nat → Int32) → (Nat → Int32) → (Nat → Int32) → (Nat → Int32) → Option (Int32 × Int32 × (Nat → Int32) × (Nat → Int32))) (basic1 linkFrom2 linkMinutes3 linkPrice4 linkTo5 : Nat → Int32) (z : Int32 × Int32 × Int32 × Int32 × Int32 × Int32 × Int32 × Int32 × (Nat → Int32) × (Nat → Int32)) : Option (Int32 × Int32 × (Nat → Int32) × (Nat → Int32)) := lp (fun k z => f_X10_goOn_h44 F rec basic1 linkFrom2 linkMinutes3 linkPrice4 linkTo5 k z.1 z.2.1 z.2.2.1 z.2.2.2.1 z.2.2.2.2.1 z.2.2.2.2.2.1 z.2.2.2.2.2.2.1 z.2.2.2.2.2.2.2.1 z.2.2.2.2.2.2.2.2.1 z.2.2.2.2.2.2.2.2.2) F z
def f_X10_goOn_s (F : Nat) (rec : Int32 → Int32 → Int32 → Int32 → Int32 → Int32 → Int32 → (Nat → Int32) → (Nat → Int32) → (Nat → Int32) → (Nat → Int32) → (Nat → Int32) → (Nat → Int32) → (Nat → Int32) → Option (Int32 × Int32 × (Nat → Int32) × (Nat → Int32))) (p1 p2 p3 p4 p5 routeMany0 routeCost0 : Int32) (basic1 linkFrom2 linkMinutes3 linkPrice4 linkTo5 route6 tried7 : Nat → Int32) : Option (Int32 × Int32 × (Nat → Int32) × (Nat → Int32)) :=
  if p1 ≤ 0 then
    f_X10_goOn_b70 F rec basic1 linkFrom2 linkMinutes3 linkPrice4 linkTo5 p1 p2 p3 p4 p5 routeMany0 routeCost0 route6 tried7
  else
    rd tried7 4 p1 fun a20 =>
    if a20 = p2 then
      if p3 < p5 then
        f_X10_goOn_b70 F rec basic1 linkFrom2 linkMinutes3 linkPrice4 linkTo5 p1 p2 p3 p4 p5 routeMany0 routeCost0 route6 tried7
      else
        bd1 (f_X10_isBetter F p1 p4 routeMany0 routeCost0 route6 tried7) fun r23 =>
        if r23 = 0 then
          f_X10_goOn_b70 F rec basic1 linkFrom2 linkMinutes3 linkPrice4 linkTo5 p1 p2 p3 p4 p5 routeMany0 routeCost0 route6 tried7
        else
          f_X10_goOn_L44 F rec basic1 linkFrom2 linkMinutes3 linkPrice4 linkTo5 (p1, p2, p3, p4, p5, 0, p1, p4, route6, tried7)
    else
      f_X10_goOn_b70 F rec basic1 linkFrom2 linkMinutes3 linkPrice4 linkTo5 p1 p2 p3 p4 p5 routeMany0 routeCost0 route6 tried7
def f_X10_goOn_r (F : Nat) : Nat → Int32 → Int32 → Int32 → Int32 → Int32 → Int32 → Int32 → (Nat → Int32) → (Nat → Int32) → (Nat → Int32) → (Nat → Int32) → (Nat → Int32) → (Nat → Int32) → (Nat → Int32) → Option (Int32 × Int32 × (Nat → Int32) × (Nat → Int32))
  | 0 => fun _ _ _ _ _ _ _ _ _ _ _ _ _ _ => none
  | d + 1 => f_X10_goOn_s F (f_X10_goOn_r F d)
def f_X10_goOn (F : Nat) (p1 p2 p3 p4 p5 routeMany0 routeCost0 : Int32) (basic1 linkFrom2 linkMinutes3 linkPrice4 linkTo5 route6 tried7 : Nat → Int32) : Option (Int32 × Int32 × (Nat → Int32) × (Nat → Int32)) := f_X10_goOn_r F 4 p1 p2 p3 p4 p5 routeMany0 routeCost0 basic1 linkFrom2 linkMinutes3 linkPrice4 linkTo5 route6 tried7
set_option maxHeartbeats 4000000 in
set_option maxRecDepth 100000 in
theorem cs_X10_goOn (l : Launch) (g : GT) (F : Nat) (h0 h1 h2 h3 h4 h5 h6 h7 : Nat) (v0_0 v0_1 v0_2 v0_3 v0_4 v0_5 v0_6 v0_7 v0_8 v0_9 v0_11 v0_16 v0_17 v0_18 v0_19 v0_20 v0_21 v0_22 v0_23 v0_24 v0_25 v0_30 v0_31 v0_32 v0_33 v0_34 v0_35 v0_36 v0_37 : Value) (d : Nat) (rec : Int32 → Int32 → Int32 → Int32 → Int32 → Int32 → Int32 → (Nat → Int32) → (Nat → Int32) → (Nat → Int32) → (Nat → Int32) → (Nat → Int32) → (Nat → Int32) → (Nat → Int32) → Option (Int32 × Int32 × (Nat → Int32) × (Nat → Int32))) (ihr : ∀ (p1 p2 p3 p4 p5 routeMany0 routeCost0 : Int32) (basic1 linkFrom2 linkMinutes3 linkPrice4 linkTo5 route6 tried7 : Nat → Int32) (o_routeMany0 o_routeCost0 : Int32) (o_route6 o_tried7 : Nat → Int32) (sz : Nat), rec p1 p2 p3 p4 p5 routeMany0 routeCost0 basic1 linkFrom2 linkMinutes3 linkPrice4 linkTo5 route6 tried7 = some (o_routeMany0, o_routeCost0, o_route6, o_tried7) → CV l m_X10_goOn (rml (1 + d) 0 0) g (w_X10_goOn g h0 h1 h2 h3 h4 h5 h6 h7 v0_0 v0_1 v0_2 v0_3 v0_4 v0_5 v0_6 v0_7 v0_8 v0_9 v0_11 v0_16 v0_17 v0_18 v0_19 v0_20 v0_21 v0_22 v0_23 v0_24 v0_25 v0_30 v0_31 v0_32 v0_33 v0_34 v0_35 v0_36 v0_37 routeMany0 routeCost0 basic1 linkFrom2 linkMinutes3 linkPrice4 linkTo5 route6 tried7) (fun _ => w_X10_goOn g h0 h1 h2 h3 h4 h5 h6 h7 v0_0 v0_1 v0_2 v0_3 v0_4 v0_5 v0_6 v0_7 v0_8 v0_9 v0_11 v0_16 v0_17 v0_18 v0_19 v0_20 v0_21 v0_22 v0_23 v0_24 v0_25 v0_30 v0_31 v0_32 v0_33 v0_34 v0_35 v0_36 v0_37 o_routeMany0 o_routeCost0 basic1 linkFrom2 linkMinutes3 linkPrice4 linkTo5 o_route6 o_tried7) sz [.ref h0, .int p1, .int p2, .int p3, .int p4, .int p5]) (p1 p2 p3 p4 p5 routeMany0 routeCost0 : Int32) (basic1 linkFrom2 linkMinutes3 linkPrice4 linkTo5 route6 tried7 : Nat → Int32) (o_routeMany0 o_routeCost0 : Int32) (o_route6 o_tried7 : Nat → Int32) (sz : Nat) (hf : f_X10_goOn_s F rec p1 p2 p3 p4 p5 routeMany0 routeCost0 basic1 linkFrom2 linkMinutes3 linkPrice4 linkTo5 route6 tried7 = some (o_routeMany0, o_routeCost0, o_route6, o_tried7)) : CV l m_X10_goOn (rml (1 + d + 1) 0 0) g (w_X10_goOn g h0 h1 h2 h3 h4 h5 h6 h7 v0_0 v0_1 v0_2 v0_3 v0_4 v0_5 v0_6 v0_7 v0_8 v0_9 v0_11 v0_16 v0_17 v0_18 v0_19 v0_20 v0_21 v0_22 v0_23 v0_24 v0_25 v0_30 v0_31 v0_32 v0_33 v0_34 v0_35 v0_36 v0_37 routeMany0 routeCost0 basic1 linkFrom2 linkMinutes3 linkPrice4 linkTo5 route6 tried7) (fun _ => w_X10_goOn g h0 h1 h2 h3 h4 h5 h6 h7 v0_0 v0_1 v0_2 v0_3 v0_4 v0_5 v0_6 v0_7 v0_8 v0_9 v0_11 v0_16 v0_17 v0_18 v0_19 v0_20 v0_21 v0_22 v0_23 v0_24 v0_25 v0_30 v0_31 v0_32 v0_33 v0_34 v0_35 v0_36 v0_37 o_routeMany0 o_routeCost0 basic1 linkFrom2 linkMinutes3 linkPrice4 linkTo5 o_route6 o_tried7) sz [.ref h0, .int p1, .int p2, .int p3, .int p4, .int p5] := by
  refine en_v (by decide) (Nat.le_of_ble_eq_true rfl) (fun p e s m args below meth c A ls C w hl => ?_)
  have C : Cx p s m args meth c RX10 m_X10_goOn g A := C
  have hx := C.1
  have hb : c.code = cX10_goOn := C.2.1
  have hl : lv_has ls 7 [(0, .ref h0), (1, .int p1), (2, .int p2), (3, .int p3), (4, .int p4), (5, .int p5)] := hl
  obtain ⟨Q, hQ⟩ : ∃ Q, Q = QV below args s g A (fun _ => w_X10_goOn g h0 h1 h2 h3 h4 h5 h6 h7 v0_0 v0_1 v0_2 v0_3 v0_4 v0_5 v0_6 v0_7 v0_8 v0_9 v0_11 v0_16 v0_17 v0_18 v0_19 v0_20 v0_21 v0_22 v0_23 v0_24 v0_25 v0_30 v0_31 v0_32 v0_33 v0_34 v0_35 v0_36 v0_37 o_routeMany0 o_routeCost0 basic1 linkFrom2 linkMinutes3 linkPrice4 linkTo5 o_route6 o_tried7) 0 0 := ⟨_, rfl⟩
  suffices hW : W p l e (rml (1 + d + 1) 0 0) s m args below meth c s.heap [] 0 0 Q (F0 m 0 ls []) from (by rw [hQ] at hW; exact hW)
  unfold f_X10_goOn_s at hf
  have L79 : ∀ (z : Int32 × Int32 × Int32 × Int32 × Int32 × Int32 × Int32 × Int32 × (Nat → Int32) × (Nat → Int32)), f_X10_goOn_L79 F rec basic1 linkFrom2 linkMinutes3 linkPrice4 linkTo5 z = some (o_routeMany0, o_routeCost0, o_route6, o_tried7) → ∀ (H : Heap) (locs : List Loc) (ls : Array Slot), Wd g A (w_X10_goOn g h0 h1 h2 h3 h4 h5 h6 h7 v0_0 v0_1 v0_2 v0_3 v0_4 v0_5 v0_6 v0_7 v0_8 v0_9 v0_11 v0_16 v0_17 v0_18 v0_19 v0_20 v0_21 v0_22 v0_23 v0_24 v0_25 v0_30 v0_31 v0_32 v0_33 v0_34 v0_35 v0_36 v0_37 z.2.2.2.2.2.2.1 z.2.2.2.2.2.2.2.1 basic1 linkFrom2 linkMinutes3 linkPrice4 linkTo5 z.2.2.2.2.2.2.2.2.1 z.2.2.2.2.2.2.2.2.2) s.heap H locs → lv_has ls 7 [(0, .ref h0), (1, .int z.1), (2, .int z.2.1), (3, .int z.2.2.1), (4, .int z.2.2.2.1), (5, .int z.2.2.2.2.1), (6, .int z.2.2.2.2.2.1)] → W p l e (rml (1 + d + 1) 0 0) s m args below meth c H locs 0 0 Q (F0 m 79 ls []) := by
    intro z hf
    refine lp_W (r := (o_routeMany0, o_routeCost0, o_route6, o_tried7)) (fun (z : Int32 × Int32 × Int32 × Int32 × Int32 × Int32 × Int32 × Int32 × (Nat → Int32) × (Nat → Int32)) => ∀ (H : Heap) (locs : List Loc) (ls : Array Slot), Wd g A (w_X10_goOn g h0 h1 h2 h3 h4 h5 h6 h7 v0_0 v0_1 v0_2 v0_3 v0_4 v0_5 v0_6 v0_7 v0_8 v0_9 v0_11 v0_16 v0_17 v0_18 v0_19 v0_20 v0_21 v0_22 v0_23 v0_24 v0_25 v0_30 v0_31 v0_32 v0_33 v0_34 v0_35 v0_36 v0_37 z.2.2.2.2.2.2.1 z.2.2.2.2.2.2.2.1 basic1 linkFrom2 linkMinutes3 linkPrice4 linkTo5 z.2.2.2.2.2.2.2.2.1 z.2.2.2.2.2.2.2.2.2) s.heap H locs → lv_has ls 7 [(0, .ref h0), (1, .int z.1), (2, .int z.2.1), (3, .int z.2.2.1), (4, .int z.2.2.2.1), (5, .int z.2.2.2.2.1), (6, .int z.2.2.2.2.2.1)] → W p l e (rml (1 + d + 1) 0 0) s m args below meth c H locs 0 0 Q (F0 m 79 ls [])) (fun k79 z ih79 hf => ?_) F z hf
    obtain ⟨x1, x2, x3, x4, x5, x6, routeMany0, routeCost0, route6, tried7⟩ := z
    intro H locs ls w hl
    dsimp only at hf w hl ⊢
    unfold f_X10_goOn_h79 at hf
    have b153 : ∀ (x1 x2 x3 x4 x5 x6 routeMany0 routeCost0 : Int32) (route6 tried7 : Nat → Int32) (H : Heap) (locs : List Loc) (ls : Array Slot), f_X10_goOn_b153 F rec k79 basic1 linkFrom2 linkMinutes3 linkPrice4 linkTo5 x1 x2 x3 x4 x5 x6 routeMany0 routeCost0 route6 tried7 = some (o_routeMany0, o_routeCost0, o_route6, o_tried7) → Wd g A (w_X10_goOn g h0 h1 h2 h3 h4 h5 h6 h7 v0_0 v0_1 v0_2 v0_3 v0_4 v0_5 v0_6 v0_7 v0_8 v0_9 v0_11 v0_16 v0_17 v0_18 v0_19 v0_20 v0_21 v0_22 v0_23 v0_24 v0_25 v0_30 v0_31 v0_32 v0_33 v0_34 v0_35 v0_36 v0_37 routeMany0 routeCost0 basic1 linkFrom2 linkMinutes3 linkPrice4 linkTo5 route6 tried7) s.heap H locs → lv_has ls 7 [(0, .ref h0), (1, .int x1), (2, .int x2), (3, .int x3), (4, .int x4), (5, .int x5), (6, .int x6)] → W p l e (rml (1 + d + 1) 0 0) s m args below meth c H locs 0 0 Q (F0 m 153 ls []) := by
      intro x1 x2 x3 x4 x5 x6 routeMany0 routeCost0 route6 tried7 H locs ls hf w hl
      unfold f_X10_goOn_b153 at hf
      refine lv_iinc (v := x6 + 1) (lv' := [(6, .int (x6 + 1)), (0, .ref h0), (1, .int x1), (2, .int x2), (3, .int x3), (4, .int x4), (5, .int x5)]) hx hb dX10_goOn_153 hl (k := 6) rfl rfl (by decide) rfl (fun ls hl => ?_)
      refine lv_goto (tgt := 79) hx hb dX10_goOn_156 (by decide) ?_
      exact ih79 (x1, x2, x3, x4, x5, x6 + 1, routeMany0, routeCost0, route6, tried7) hf _ _ _ w (lv_sub hl [1, 2, 3, 4, 5, 6, 0] rfl)
    refine lv_iload hx hb dX10_goOn_79 (lv_at hl 6 rfl) ?_
    refine lv_aload_n hx hb dX10_goOn_81 rfl (lv_at hl 0 rfl) ?_
    refine g_X10_13 C w 0 rfl rfl dX10_goOn_82 ?_
    refine lv_iconst (v := 1) hx hb dX10_goOn_85 (by decide) ?_
    obtain ⟨a1, hia1, haa1, hf⟩ := rd_some hf
    refine ial C w 1 rfl hia1 haa1 dX10_goOn_86 ?_
    refine lv_icmp_ge (tgt := 159) hx hb dX10_goOn_87 (by decide) (fun c2 => ?_) (fun c2 => ?_)
    · replace hf := it_t c2 hf
      obtain ⟨e1, e2, e3, e4⟩ := tp4 hf
      rw [hQ]
      exact rt_v C w rfl (fun _ => 0) (by rw [← e1, ← e2, ← e3, ← e4]) dX10_goOn_159
    · replace hf := it_f c2 hf
      refine lv_aload_n hx hb dX10_goOn_90 rfl (lv_at hl 0 rfl) ?_
      refine g_X10_20 C w 0 rfl rfl dX10_goOn_91 ?_
      refine lv_iload hx hb dX10_goOn_94 (lv_at hl 6 rfl) ?_
      obtain ⟨a3, hia3, haa3, hf⟩ := rd_some hf
      refine ial C w 2 rfl hia3 haa3 dX10_goOn_96 ?_
      refine lv_aload_n hx hb dX10_goOn_97 rfl (lv_at hl 0 rfl) ?_
      refine g_X10_60 C w 0 rfl rfl dX10_goOn_98 ?_
      refine lv_iload_n hx hb dX10_goOn_101 rfl (lv_at hl 1 rfl) ?_
      obtain ⟨a4, hia4, haa4, hf⟩ := rd_some hf
      refine ial C w 7 rfl hia4 haa4 dX10_goOn_102 ?_
      refine lv_icmp_eq (tgt := 109) hx hb dX10_goOn_103 (by decide) (fun c5 => ?_) (fun c5 => ?_)
      · replace hf := it_t c5 hf
        refine lv_aload_n hx hb dX10_goOn_109 rfl (lv_at hl 0 rfl) ?_
        refine g_X10_60 C w 0 rfl rfl dX10_goOn_110 ?_
        refine lv_iload_n hx hb dX10_goOn_113 rfl (lv_at hl 1 rfl) ?_
        refine lv_iconst (v := 1) hx hb dX10_goOn_114 (by decide) ?_
        refine lv_iadd hx hb dX10_goOn_115 ?_
        refine lv_aload_n hx hb dX10_goOn_116 rfl (lv_at hl 0 rfl) ?_
        refine g_X10_23 C w 0 rfl rfl dX10_goOn_117 ?_
        refine lv_iload hx hb dX10_goOn_120 (lv_at hl 6 rfl) ?_
        obtain ⟨a6, hia6, haa6, hf⟩ := rd_some hf
        refine ial C w 5 rfl hia6 haa6 dX10_goOn_122 ?_
        obtain ⟨f7, hif7, haf7, hf⟩ := wr_some hf
        refine ias C w 7 rfl hif7 haf7 (ws2 := w_X10_goOn g h0 h1 h2 h3 h4 h5 h6 h7 v0_0 v0_1 v0_2 v0_3 v0_4 v0_5 v0_6 v0_7 v0_8 v0_9 v0_11 v0_16 v0_17 v0_18 v0_19 v0_20 v0_21 v0_22 v0_23 v0_24 v0_25 v0_30 v0_31 v0_32 v0_33 v0_34 v0_35 v0_36 v0_37 routeMany0 routeCost0 basic1 linkFrom2 linkMinutes3 linkPrice4 linkTo5 route6 f7) rfl dX10_goOn_123 (fun H locs w => ?_)
        refine lv_aload_n hx hb dX10_goOn_124 rfl (lv_at hl 0 rfl) ?_
        refine lv_iload_n hx hb dX10_goOn_125 rfl (lv_at hl 1 rfl) ?_
        refine lv_iconst (v := 1) hx hb dX10_goOn_126 (by decide) ?_
        refine lv_iadd hx hb dX10_goOn_127 ?_
        refine lv_iload_n hx hb dX10_goOn_128 rfl (lv_at hl 2 rfl) ?_
        refine lv_iload_n hx hb dX10_goOn_129 rfl (lv_at hl 3 rfl) ?_
        refine lv_aload_n hx hb dX10_goOn_130 rfl (lv_at hl 0 rfl) ?_
        refine g_X10_26 C w 0 rfl rfl dX10_goOn_131 ?_
        refine lv_iload hx hb dX10_goOn_134 (lv_at hl 6 rfl) ?_
        obtain ⟨a8, hia8, haa8, hf⟩ := rd_some hf
        refine ial C w 3 rfl hia8 haa8 dX10_goOn_136 ?_
        refine lv_iadd hx hb dX10_goOn_137 ?_
        refine lv_iload hx hb dX10_goOn_138 (lv_at hl 4 rfl) ?_
        refine lv_aload_n hx hb dX10_goOn_140 rfl (lv_at hl 0 rfl) ?_
        refine g_X10_29 C w 0 rfl rfl dX10_goOn_141 ?_
        refine lv_iload hx hb dX10_goOn_144 (lv_at hl 6 rfl) ?_
        obtain ⟨a9, hia9, haa9, hf⟩ := rd_some hf
        refine ial C w 4 rfl hia9 haa9 dX10_goOn_146 ?_
        refine lv_iadd hx hb dX10_goOn_147 ?_
        refine lv_iload hx hb dX10_goOn_148 (lv_at hl 5 rfl) ?_
        obtain ⟨o10, o11, o12, o13, hc14, hf⟩ := bd4_some hf
        refine ca_vV C w [0, 1, 2, 3, 4, 5, 6, 7] [] [0, 1, 2, 3, 4, 5, 6, 7] (wr := pk (w_X10_goOn g h0 h1 h2 h3 h4 h5 h6 h7 v0_0 v0_1 v0_2 v0_3 v0_4 v0_5 v0_6 v0_7 v0_8 v0_9 v0_11 v0_16 v0_17 v0_18 v0_19 v0_20 v0_21 v0_22 v0_23 v0_24 v0_25 v0_30 v0_31 v0_32 v0_33 v0_34 v0_35 v0_36 v0_37 routeMany0 routeCost0 basic1 linkFrom2 linkMinutes3 linkPrice4 linkTo5 route6 f7) []) (wn := fun _ => w_X10_goOn g h0 h1 h2 h3 h4 h5 h6 h7 v0_0 v0_1 v0_2 v0_3 v0_4 v0_5 v0_6 v0_7 v0_8 v0_9 v0_11 v0_16 v0_17 v0_18 v0_19 v0_20 v0_21 v0_22 v0_23 v0_24 v0_25 v0_30 v0_31 v0_32 v0_33 v0_34 v0_35 v0_36 v0_37 o10 o11 basic1 linkFrom2 linkMinutes3 linkPrice4 linkTo5 o12 o13) ⟨rfl, rfl, rfl, rfl, by decide, rfl, fun _ => rfl⟩ (ihr (x1 + 1) x2 (x3 + a8) (x4 + a9) x5 routeMany0 routeCost0 basic1 linkFrom2 linkMinutes3 linkPrice4 linkTo5 route6 f7 o10 o11 o12 o13 _ hc14) k_X10_234 (rm_le (by omega) (by decide)) 0 10 rfl rfl rfl rfl hl.1 rfl (Nat.le_of_ble_eq_true rfl) dX10_goOn_150 ⟨Nat.le_of_ble_eq_true rfl, Nat.le_of_ble_eq_true rfl⟩ (cells2 := 0) (slots2 := 0) ⟨rfl, rfl⟩ (fun _ H locs w => ?_)
        exact b153 x1 x2 x3 x4 x5 x6 o10 o11 o12 o13 _ _ _ hf w (lv_sub hl [0, 1, 2, 3, 4, 5, 6] rfl)
      · replace hf := it_f c5 hf
        refine lv_goto (tgt := 153) hx hb dX10_goOn_106 (by decide) ?_
        exact b153 x1 x2 x3 x4 x5 x6 routeMany0 routeCost0 route6 tried7 _ _ _ hf w (lv_sub hl [0, 1, 2, 3, 4, 5, 6] rfl)
  have b70 : ∀ (x1 x2 x3 x4 x5 routeMany0 routeCost0 : Int32) (route6 tried7 : Nat → Int32) (H : Heap) (locs : List Loc) (ls : Array Slot), f_X10_goOn_b70 F rec basic1 linkFrom2 linkMinutes3 linkPrice4 linkTo5 x1 x2 x3 x4 x5 routeMany0 routeCost0 route6 tried7 = some (o_routeMany0, o_routeCost0, o_route6, o_tried7) → Wd g A (w_X10_goOn g h0 h1 h2 h3 h4 h5 h6 h7 v0_0 v0_1 v0_2 v0_3 v0_4 v0_5 v0_6 v0_7 v0_8 v0_9 v0_11 v0_16 v0_17 v0_18 v0_19 v0_20 v0_21 v0_22 v0_23 v0_24 v0_25 v0_30 v0_31 v0_32 v0_33 v0_34 v0_35 v0_36 v0_37 routeMany0 routeCost0 basic1 linkFrom2 linkMinutes3 linkPrice4 linkTo5 route6 tried7) s.heap H locs → lv_has ls 7 [(0, .ref h0), (1, .int x1), (2, .int x2), (3, .int x3), (4, .int x4), (5, .int x5)] → W p l e (rml (1 + d + 1) 0 0) s m args below meth c H locs 0 0 Q (F0 m 70 ls []) := by
    intro x1 x2 x3 x4 x5 routeMany0 routeCost0 route6 tried7 H locs ls hf w hl
    unfold f_X10_goOn_b70 at hf
    refine lv_iload_n hx hb dX10_goOn_70 rfl (lv_at hl 1 rfl) ?_
    refine lv_iconst (v := 3) hx hb dX10_goOn_71 (by decide) ?_
    refine lv_icmp_ne (tgt := 76) hx hb dX10_goOn_72 (by decide) (fun c15 => ?_) (fun c15 => ?_)
    · replace hf := it_f c15 hf
      refine lv_iconst (v := 0) hx hb dX10_goOn_76 (by decide) ?_
      refine lv_istore (lv' := [(6, .int 0), (0, .ref h0), (1, .int x1), (2, .int x2), (3, .int x3), (4, .int x4), (5, .int x5)]) hx hb dX10_goOn_77 hl (by decide) rfl (fun ls hl => ?_)
      exact L79 (x1, x2, x3, x4, x5, 0, routeMany0, routeCost0, route6, tried7) hf _ _ _ w (lv_sub hl [1, 2, 3, 4, 5, 6, 0] rfl)
    · replace hf := it_t c15 hf
      obtain ⟨e1, e2, e3, e4⟩ := tp4 hf
      rw [hQ]
      exact rt_v C w rfl (fun _ => 0) (by rw [← e1, ← e2, ← e3, ← e4]) dX10_goOn_75
  have L44 : ∀ (z : Int32 × Int32 × Int32 × Int32 × Int32 × Int32 × Int32 × Int32 × (Nat → Int32) × (Nat → Int32)), f_X10_goOn_L44 F rec basic1 linkFrom2 linkMinutes3 linkPrice4 linkTo5 z = some (o_routeMany0, o_routeCost0, o_route6, o_tried7) → ∀ (H : Heap) (locs : List Loc) (ls : Array Slot), Wd g A (w_X10_goOn g h0 h1 h2 h3 h4 h5 h6 h7 v0_0 v0_1 v0_2 v0_3 v0_4 v0_5 v0_6 v0_7 v0_8 v0_9 v0_11 v0_16 v0_17 v0_18 v0_19 v0_20 v0_21 v0_22 v0_23 v0_24 v0_25 v0_30 v0_31 v0_32 v0_33 v0_34 v0_35 v0_36 v0_37 z.2.2.2.2.2.2.1 z.2.2.2.2.2.2.2.1 basic1 linkFrom2 linkMinutes3 linkPrice4 linkTo5 z.2.2.2.2.2.2.2.2.1 z.2.2.2.2.2.2.2.2.2) s.heap H locs → lv_has ls 7 [(0, .ref h0), (1, .int z.1), (2, .int z.2.1), (3, .int z.2.2.1), (4, .int z.2.2.2.1), (5, .int z.2.2.2.2.1), (6, .int z.2.2.2.2.2.1)] → W p l e (rml (1 + d + 1) 0 0) s m args below meth c H locs 0 0 Q (F0 m 44 ls []) := by
    intro z hf
    refine lp_W (r := (o_routeMany0, o_routeCost0, o_route6, o_tried7)) (fun (z : Int32 × Int32 × Int32 × Int32 × Int32 × Int32 × Int32 × Int32 × (Nat → Int32) × (Nat → Int32)) => ∀ (H : Heap) (locs : List Loc) (ls : Array Slot), Wd g A (w_X10_goOn g h0 h1 h2 h3 h4 h5 h6 h7 v0_0 v0_1 v0_2 v0_3 v0_4 v0_5 v0_6 v0_7 v0_8 v0_9 v0_11 v0_16 v0_17 v0_18 v0_19 v0_20 v0_21 v0_22 v0_23 v0_24 v0_25 v0_30 v0_31 v0_32 v0_33 v0_34 v0_35 v0_36 v0_37 z.2.2.2.2.2.2.1 z.2.2.2.2.2.2.2.1 basic1 linkFrom2 linkMinutes3 linkPrice4 linkTo5 z.2.2.2.2.2.2.2.2.1 z.2.2.2.2.2.2.2.2.2) s.heap H locs → lv_has ls 7 [(0, .ref h0), (1, .int z.1), (2, .int z.2.1), (3, .int z.2.2.1), (4, .int z.2.2.2.1), (5, .int z.2.2.2.2.1), (6, .int z.2.2.2.2.2.1)] → W p l e (rml (1 + d + 1) 0 0) s m args below meth c H locs 0 0 Q (F0 m 44 ls [])) (fun k44 z ih44 hf => ?_) F z hf
    obtain ⟨x1, x2, x3, x4, x5, x6, routeMany0, routeCost0, route6, tried7⟩ := z
    intro H locs ls w hl
    dsimp only at hf w hl ⊢
    unfold f_X10_goOn_h44 at hf
    refine lv_iload hx hb dX10_goOn_44 (lv_at hl 6 rfl) ?_
    refine lv_iload_n hx hb dX10_goOn_46 rfl (lv_at hl 1 rfl) ?_
    refine lv_icmp_gt (tgt := 70) hx hb dX10_goOn_47 (by decide) (fun c16 => ?_) (fun c16 => ?_)
    · replace hf := it_t c16 hf
      exact b70 x1 x2 x3 x4 x5 routeMany0 routeCost0 route6 tried7 _ _ _ hf w (lv_sub hl [0, 1, 2, 3, 4, 5] rfl)
    · replace hf := it_f c16 hf
      refine lv_aload_n hx hb dX10_goOn_50 rfl (lv_at hl 0 rfl) ?_
      refine g_X10_57 C w 0 rfl rfl dX10_goOn_51 ?_
      refine lv_iload hx hb dX10_goOn_54 (lv_at hl 6 rfl) ?_
      refine lv_aload_n hx hb dX10_goOn_56 rfl (lv_at hl 0 rfl) ?_
      refine g_X10_60 C w 0 rfl rfl dX10_goOn_57 ?_
      refine lv_iload hx hb dX10_goOn_60 (lv_at hl 6 rfl) ?_
      obtain ⟨a17, hia17, haa17, hf⟩ := rd_some hf
      refine ial C w 7 rfl hia17 haa17 dX10_goOn_62 ?_
      obtain ⟨f18, hif18, haf18, hf⟩ := wr_some hf
      refine ias C w 6 rfl hif18 haf18 (ws2 := w_X10_goOn g h0 h1 h2 h3 h4 h5 h6 h7 v0_0 v0_1 v0_2 v0_3 v0_4 v0_5 v0_6 v0_7 v0_8 v0_9 v0_11 v0_16 v0_17 v0_18 v0_19 v0_20 v0_21 v0_22 v0_23 v0_24 v0_25 v0_30 v0_31 v0_32 v0_33 v0_34 v0_35 v0_36 v0_37 routeMany0 routeCost0 basic1 linkFrom2 linkMinutes3 linkPrice4 linkTo5 f18 tried7) rfl dX10_goOn_63 (fun H locs w => ?_)
      refine lv_iinc (v := x6 + 1) (lv' := [(6, .int (x6 + 1)), (0, .ref h0), (1, .int x1), (2, .int x2), (3, .int x3), (4, .int x4), (5, .int x5)]) hx hb dX10_goOn_64 hl (k := 6) rfl rfl (by decide) rfl (fun ls hl => ?_)
      refine lv_goto (tgt := 44) hx hb dX10_goOn_67 (by decide) ?_
      exact ih44 (x1, x2, x3, x4, x5, x6 + 1, routeMany0, routeCost0, f18, tried7) hf _ _ _ w (lv_sub hl [1, 2, 3, 4, 5, 6, 0] rfl)
  refine lv_iload_n hx hb dX10_goOn_0 rfl (lv_at hl 1 rfl) ?_
  refine lv_if_le (tgt := 70) hx hb dX10_goOn_1 (by decide) (fun c19 => ?_) (fun c19 => ?_)
  · replace hf := it_t c19 hf
    exact b70 p1 p2 p3 p4 p5 routeMany0 routeCost0 route6 tried7 _ _ _ hf w (lv_sub hl [0, 1, 2, 3, 4, 5] rfl)
  · replace hf := it_f c19 hf
    refine lv_aload_n hx hb dX10_goOn_4 rfl (lv_at hl 0 rfl) ?_
    refine g_X10_60 C w 0 rfl rfl dX10_goOn_5 ?_
    refine lv_iload_n hx hb dX10_goOn_8 rfl (lv_at hl 1 rfl) ?_
    obtain ⟨a20, hia20, haa20, hf⟩ := rd_some hf
    refine ial C w 7 rfl hia20 haa20 dX10_goOn_9 ?_
    refine lv_iload_n hx hb dX10_goOn_10 rfl (lv_at hl 2 rfl) ?_
    refine lv_icmp_ne (tgt := 70) hx hb dX10_goOn_11 (by decide) (fun c21 => ?_) (fun c21 => ?_)
    · replace hf := it_f c21 hf
      exact b70 p1 p2 p3 p4 p5 routeMany0 routeCost0 route6 tried7 _ _ _ hf w (lv_sub hl [0, 1, 2, 3, 4, 5] rfl)
    · replace hf := it_t c21 hf
      refine lv_iload_n hx hb dX10_goOn_14 rfl (lv_at hl 3 rfl) ?_
      refine lv_iload hx hb dX10_goOn_15 (lv_at hl 5 rfl) ?_
      refine lv_icmp_lt (tgt := 70) hx hb dX10_goOn_17 (by decide) (fun c22 => ?_) (fun c22 => ?_)
      · replace hf := it_t c22 hf
        exact b70 p1 p2 p3 p4 p5 routeMany0 routeCost0 route6 tried7 _ _ _ hf w (lv_sub hl [0, 1, 2, 3, 4, 5] rfl)
      · replace hf := it_f c22 hf
        refine lv_aload_n hx hb dX10_goOn_20 rfl (lv_at hl 0 rfl) ?_
        refine lv_iload_n hx hb dX10_goOn_21 rfl (lv_at hl 1 rfl) ?_
        refine lv_iload hx hb dX10_goOn_22 (lv_at hl 4 rfl) ?_
        obtain ⟨r23, hc24, hf⟩ := bd1_some hf
        refine ca_iV C w [0, 6, 7] [1, 2, 3, 4, 5] [5, 0, 1, 2, 3, 4, 6, 7] (wr := pk (w_X10_goOn g h0 h1 h2 h3 h4 h5 h6 h7 v0_0 v0_1 v0_2 v0_3 v0_4 v0_5 v0_6 v0_7 v0_8 v0_9 v0_11 v0_16 v0_17 v0_18 v0_19 v0_20 v0_21 v0_22 v0_23 v0_24 v0_25 v0_30 v0_31 v0_32 v0_33 v0_34 v0_35 v0_36 v0_37 routeMany0 routeCost0 basic1 linkFrom2 linkMinutes3 linkPrice4 linkTo5 route6 tried7) [1, 2, 3, 4, 5]) (wn := fun _ => w_X10_goOn g h0 h1 h2 h3 h4 h5 h6 h7 v0_0 v0_1 v0_2 v0_3 v0_4 v0_5 v0_6 v0_7 v0_8 v0_9 v0_11 v0_16 v0_17 v0_18 v0_19 v0_20 v0_21 v0_22 v0_23 v0_24 v0_25 v0_30 v0_31 v0_32 v0_33 v0_34 v0_35 v0_36 v0_37 routeMany0 routeCost0 basic1 linkFrom2 linkMinutes3 linkPrice4 linkTo5 route6 tried7) ⟨rfl, rfl, rfl, rfl, by decide, rfl, fun _ => rfl⟩ (c_X10_isBetter l g F h0 h6 h7 v0_0 v0_1 v0_2 v0_3 v0_4 v0_5 v0_6 v0_7 v0_8 v0_9 (.ref h1) v0_11 (.ref h2) (.ref h5) (.ref h3) (.ref h4) v0_16 v0_17 v0_18 v0_19 v0_20 v0_21 v0_22 v0_23 v0_24 v0_25 v0_30 v0_31 v0_32 v0_33 v0_34 v0_35 v0_36 v0_37 p1 p4 routeMany0 routeCost0 route6 tried7 r23 _ hc24) k_X10_231 (rm_le (by omega) (by decide)) 0 10 rfl rfl rfl rfl hl.1 rfl (Nat.le_of_ble_eq_true rfl) dX10_goOn_24 ⟨Nat.le_of_ble_eq_true rfl, Nat.le_of_ble_eq_true rfl⟩ (cells2 := 0) (slots2 := 0) ⟨rfl, rfl⟩ (fun _ H locs w => ?_)
        refine lv_if_eq (tgt := 70) hx hb dX10_goOn_27 (by decide) (fun c25 => ?_) (fun c25 => ?_)
        · replace hf := it_t c25 hf
          exact b70 p1 p2 p3 p4 p5 routeMany0 routeCost0 route6 tried7 _ _ _ hf w (lv_sub hl [0, 1, 2, 3, 4, 5] rfl)
        · replace hf := it_f c25 hf
          refine lv_aload_n hx hb dX10_goOn_30 rfl (lv_at hl 0 rfl) ?_
          refine lv_iload_n hx hb dX10_goOn_31 rfl (lv_at hl 1 rfl) ?_
          refine p_X10_225 C w 0 rfl (Nat.le_of_ble_eq_true rfl) (ws2 := w_X10_goOn g h0 h1 h2 h3 h4 h5 h6 h7 v0_0 v0_1 v0_2 v0_3 v0_4 v0_5 v0_6 v0_7 v0_8 v0_9 v0_11 v0_16 v0_17 v0_18 v0_19 v0_20 v0_21 v0_22 v0_23 v0_24 v0_25 v0_30 v0_31 v0_32 v0_33 v0_34 v0_35 v0_36 v0_37 p1 routeCost0 basic1 linkFrom2 linkMinutes3 linkPrice4 linkTo5 route6 tried7) rfl dX10_goOn_32 (fun H locs w => ?_)
          refine lv_aload_n hx hb dX10_goOn_35 rfl (lv_at hl 0 rfl) ?_
          refine lv_iload hx hb dX10_goOn_36 (lv_at hl 4 rfl) ?_
          refine p_X10_228 C w 0 rfl (Nat.le_of_ble_eq_true rfl) (ws2 := w_X10_goOn g h0 h1 h2 h3 h4 h5 h6 h7 v0_0 v0_1 v0_2 v0_3 v0_4 v0_5 v0_6 v0_7 v0_8 v0_9 v0_11 v0_16 v0_17 v0_18 v0_19 v0_20 v0_21 v0_22 v0_23 v0_24 v0_25 v0_30 v0_31 v0_32 v0_33 v0_34 v0_35 v0_36 v0_37 p1 p4 basic1 linkFrom2 linkMinutes3 linkPrice4 linkTo5 route6 tried7) rfl dX10_goOn_38 (fun H locs w => ?_)
          refine lv_iconst (v := 0) hx hb dX10_goOn_41 (by decide) ?_
          refine lv_istore (lv' := [(6, .int 0), (0, .ref h0), (1, .int p1), (2, .int p2), (3, .int p3), (4, .int p4), (5, .int p5)]) hx hb dX10_goOn_42 hl (by decide) rfl (fun ls hl => ?_)
          exact L44 (p1, p2, p3, p4, p5, 0, p1, p4, route6, tried7) hf _ _ _ w (lv_sub hl [1, 2, 3, 4, 5, 6, 0] rfl)
theorem cr_X10_goOn (l : Launch) (g : GT) (F : Nat) (h0 h1 h2 h3 h4 h5 h6 h7 : Nat) (v0_0 v0_1 v0_2 v0_3 v0_4 v0_5 v0_6 v0_7 v0_8 v0_9 v0_11 v0_16 v0_17 v0_18 v0_19 v0_20 v0_21 v0_22 v0_23 v0_24 v0_25 v0_30 v0_31 v0_32 v0_33 v0_34 v0_35 v0_36 v0_37 : Value) : ∀ (d : Nat) (p1 p2 p3 p4 p5 routeMany0 routeCost0 : Int32) (basic1 linkFrom2 linkMinutes3 linkPrice4 linkTo5 route6 tried7 : Nat → Int32) (o_routeMany0 o_routeCost0 : Int32) (o_route6 o_tried7 : Nat → Int32) (sz : Nat), f_X10_goOn_r F d p1 p2 p3 p4 p5 routeMany0 routeCost0 basic1 linkFrom2 linkMinutes3 linkPrice4 linkTo5 route6 tried7 = some (o_routeMany0, o_routeCost0, o_route6, o_tried7) → CV l m_X10_goOn (rml (1 + d) 0 0) g (w_X10_goOn g h0 h1 h2 h3 h4 h5 h6 h7 v0_0 v0_1 v0_2 v0_3 v0_4 v0_5 v0_6 v0_7 v0_8 v0_9 v0_11 v0_16 v0_17 v0_18 v0_19 v0_20 v0_21 v0_22 v0_23 v0_24 v0_25 v0_30 v0_31 v0_32 v0_33 v0_34 v0_35 v0_36 v0_37 routeMany0 routeCost0 basic1 linkFrom2 linkMinutes3 linkPrice4 linkTo5 route6 tried7) (fun _ => w_X10_goOn g h0 h1 h2 h3 h4 h5 h6 h7 v0_0 v0_1 v0_2 v0_3 v0_4 v0_5 v0_6 v0_7 v0_8 v0_9 v0_11 v0_16 v0_17 v0_18 v0_19 v0_20 v0_21 v0_22 v0_23 v0_24 v0_25 v0_30 v0_31 v0_32 v0_33 v0_34 v0_35 v0_36 v0_37 o_routeMany0 o_routeCost0 basic1 linkFrom2 linkMinutes3 linkPrice4 linkTo5 o_route6 o_tried7) sz [.ref h0, .int p1, .int p2, .int p3, .int p4, .int p5] := by
  intro d
  induction d with
  | zero => intro p1 p2 p3 p4 p5 routeMany0 routeCost0 basic1 linkFrom2 linkMinutes3 linkPrice4 linkTo5 route6 tried7 o_routeMany0 o_routeCost0 o_route6 o_tried7 sz hf; cases hf
  | succ d ih => intro p1 p2 p3 p4 p5 routeMany0 routeCost0 basic1 linkFrom2 linkMinutes3 linkPrice4 linkTo5 route6 tried7 o_routeMany0 o_routeCost0 o_route6 o_tried7 sz hf; exact cs_X10_goOn l g F h0 h1 h2 h3 h4 h5 h6 h7 v0_0 v0_1 v0_2 v0_3 v0_4 v0_5 v0_6 v0_7 v0_8 v0_9 v0_11 v0_16 v0_17 v0_18 v0_19 v0_20 v0_21 v0_22 v0_23 v0_24 v0_25 v0_30 v0_31 v0_32 v0_33 v0_34 v0_35 v0_36 v0_37 d (f_X10_goOn_r F d) ih p1 p2 p3 p4 p5 routeMany0 routeCost0 basic1 linkFrom2 linkMinutes3 linkPrice4 linkTo5 route6 tried7 o_routeMany0 o_routeCost0 o_route6 o_tried7 sz hf
theorem c_X10_goOn (l : Launch) (g : GT) (F : Nat) (h0 h1 h2 h3 h4 h5 h6 h7 : Nat) (v0_0 v0_1 v0_2 v0_3 v0_4 v0_5 v0_6 v0_7 v0_8 v0_9 v0_11 v0_16 v0_17 v0_18 v0_19 v0_20 v0_21 v0_22 v0_23 v0_24 v0_25 v0_30 v0_31 v0_32 v0_33 v0_34 v0_35 v0_36 v0_37 : Value) (p1 p2 p3 p4 p5 routeMany0 routeCost0 : Int32) (basic1 linkFrom2 linkMinutes3 linkPrice4 linkTo5 route6 tried7 : Nat → Int32) (o_routeMany0 o_routeCost0 : Int32) (o_route6 o_tried7 : Nat → Int32) (sz : Nat) (hf : f_X10_goOn F p1 p2 p3 p4 p5 routeMany0 routeCost0 basic1 linkFrom2 linkMinutes3 linkPrice4 linkTo5 route6 tried7 = some (o_routeMany0, o_routeCost0, o_route6, o_tried7)) : CV l m_X10_goOn (rml (1 + 4) 0 0) g (w_X10_goOn g h0 h1 h2 h3 h4 h5 h6 h7 v0_0 v0_1 v0_2 v0_3 v0_4 v0_5 v0_6 v0_7 v0_8 v0_9 v0_11 v0_16 v0_17 v0_18 v0_19 v0_20 v0_21 v0_22 v0_23 v0_24 v0_25 v0_30 v0_31 v0_32 v0_33 v0_34 v0_35 v0_36 v0_37 routeMany0 routeCost0 basic1 linkFrom2 linkMinutes3 linkPrice4 linkTo5 route6 tried7) (fun _ => w_X10_goOn g h0 h1 h2 h3 h4 h5 h6 h7 v0_0 v0_1 v0_2 v0_3 v0_4 v0_5 v0_6 v0_7 v0_8 v0_9 v0_11 v0_16 v0_17 v0_18 v0_19 v0_20 v0_21 v0_22 v0_23 v0_24 v0_25 v0_30 v0_31 v0_32 v0_33 v0_34 v0_35 v0_36 v0_37 o_routeMany0 o_routeCost0 basic1 linkFrom2 linkMinutes3 linkPrice4 linkTo5 o_route6 o_tried7) sz [.ref h0, .int p1, .int p2, .int p3, .int p4, .int p5] := cr_X10_goOn l g F h0 h1 h2 h3 h4 h5 h6 h7 v0_0 v0_1 v0_2 v0_3 v0_4 v0_5 v0_6 v0_7 v0_8 v0_9 v0_11 v0_16 v0_17 v0_18 v0_19 v0_20 v0_21 v0_22 v0_23 v0_24 v0_25 v0_30 v0_31 v0_32 v0_33 v0_34 v0_35 v0_36 v0_37 4 p1 p2 p3 p4 p5 routeMany0 routeCost0 basic1 linkFrom2 linkMinutes3 linkPrice4 linkTo5 route6 tried7 o_routeMany0 o_routeCost0 o_route6 o_tried7 sz hf
