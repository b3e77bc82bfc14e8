theorem dX5_addWord_0 : decode cX5_addWord 0 = .ok (.bipush 24, 2) := by decide +kernel
theorem dX5_addWord_2 : decode cX5_addWord 2 = .ok (.istore_n 2, 1) := by decide +kernel
theorem dX5_addWord_3 : decode cX5_addWord 3 = .ok (.iload_n 2, 1) := by decide +kernel
theorem dX5_addWord_4 : decode cX5_addWord 4 = .ok (.ifCond .lt 45, 3) := by decide +kernel
theorem dX5_addWord_7 : decode cX5_addWord 7 = .ok (.aload_n 0, 1) := by decide +kernel
theorem dX5_addWord_8 : decode cX5_addWord 8 = .ok (.getfield 15, 3) := by decide +kernel
theorem dX5_addWord_11 : decode cX5_addWord 11 = .ok (.sipush 900, 3) := by decide +kernel
theorem dX5_addWord_14 : decode cX5_addWord 14 = .ok (.if_icmp .ge 35, 3) := by decide +kernel
theorem dX5_addWord_17 : decode cX5_addWord 17 = .ok (.aload_n 0, 1) := by decide +kernel
theorem dX5_addWord_18 : decode cX5_addWord 18 = .ok (.getfield 9, 3) := by decide +kernel
theorem dX5_addWord_21 : decode cX5_addWord 21 = .ok (.aload_n 0, 1) := by decide +kernel
theorem dX5_addWord_22 : decode cX5_addWord 22 = .ok (.getfield 15, 3) := by decide +kernel
theorem dX5_addWord_25 : decode cX5_addWord 25 = .ok (.iload_n 1, 1) := by decide +kernel
theorem dX5_addWord_26 : decode cX5_addWord 26 = .ok (.iload_n 2, 1) := by decide +kernel
theorem dX5_addWord_27 : decode cX5_addWord 27 = .ok (.iushr, 1) := by decide +kernel
theorem dX5_addWord_28 : decode cX5_addWord 28 = .ok (.sipush 255, 3) := by decide +kernel
theorem dX5_addWord_31 : decode cX5_addWord 31 = .ok (.iand, 1) := by decide +kernel
theorem dX5_addWord_32 : decode cX5_addWord 32 = .ok (.iastore, 1) := by decide +kernel
theorem dX5_addWord_33 : decode cX5_addWord 33 = .ok (.aload_n 0, 1) := by decide +kernel
theorem dX5_addWord_34 : decode cX5_addWord 34 = .ok (.dup, 1) := by decide +kernel
theorem dX5_addWord_35 : decode cX5_addWord 35 = .ok (.getfield 15, 3) := by decide +kernel
theorem dX5_addWord_38 : decode cX5_addWord 38 = .ok (.iconst 1, 1) := by decide +kernel
theorem dX5_addWord_39 : decode cX5_addWord 39 = .ok (.iadd, 1) := by decide +kernel
theorem dX5_addWord_40 : decode cX5_addWord 40 = .ok (.putfield 15, 3) := by decide +kernel
theorem dX5_addWord_43 : decode cX5_addWord 43 = .ok (.iinc 2 (-8), 3) := by decide +kernel
theorem dX5_addWord_46 : decode cX5_addWord 46 = .ok (.goto (-43), 3) := by decide +kernel
theorem dX5_addWord_49 : decode cX5_addWord 49 = .ok (.return_, 1) := by decide +kernel
abbrev m_X5_addWord : MD := (yX5_addWord, cX5_addWord, 3, none)
theorem inX5s : ∀ w ∈ u_ws RX5 TX5 11, w ∈ TS := by
  show ∀ w ∈ [u_lay RX5 TX5 0, u_lay RX5 TX5 1, u_lay RX5 TX5 2, u_lay RX5 TX5 3, u_lay RX5 TX5 4, u_lay RX5 TX5 5, u_lay RX5 TX5 6, u_lay RX5 TX5 7, u_lay RX5 TX5 8, u_lay RX5 TX5 9, u_lay RX5 TX5 10], w ∈ TS
  exact List.forall_mem_cons.mpr ⟨ts_t 115 (by decide +kernel) (by decide +kernel), List.forall_mem_cons.mpr ⟨ts_t 117 (by decide +kernel) (by decide +kernel), List.forall_mem_cons.mpr ⟨ts_t 119 (by decide +kernel) (by decide +kernel), List.forall_mem_cons.mpr ⟨ts_t 121 (by decide +kernel) (by decide +kernel), List.forall_mem_cons.mpr ⟨ts_t 123 (by decide +kernel) (by decide +kernel), List.forall_mem_cons.mpr ⟨ts_t 125 (by decide +kernel) (by decide +kernel), List.forall_mem_cons.mpr ⟨ts_t 127 (by decide +kernel) (by decide +kernel), List.forall_mem_cons.mpr ⟨ts_t 129 (by decide +kernel) (by decide +kernel), List.forall_mem_cons.mpr ⟨ts_t 131 (by decide +kernel) (by decide +kernel), List.forall_mem_cons.mpr ⟨ts_t 133 (by decide +kernel) (by decide +kernel), List.forall_mem_cons.mpr ⟨ts_t 135 (by decide +kernel) (by decide +kernel), fun _ h => absurd h List.not_mem_nil⟩⟩⟩⟩⟩⟩⟩⟩⟩⟩⟩
theorem g_X5_15 {p : Program} {l : Launch} {e : Env} {R : Room} {s : State} {m : MethodId} {args : Array Value} {below : List Frame} {meth : Method} {c : Code} {H : Heap} {locs : List Loc} {cells slots : Nat} {Q : State → Prop} {d : MD} {g : GT} {A : Nat → Prop} {ws : va_W} {pc : Nat} {ls : Array Slot} {rest : List Value} (C : Cx p s m args meth c RX5 d g A) (w : Wd g A ws s.heap H locs) (q0 : Nat) {a : Nat} {fs : List Value} {v : Value} (he : ws[q0]? = some (a, .inr (5, fs))) (hv : fs[1]? = some v) (hd : decode d.2.1 pc = .ok (.getfield 15, 3)) (kk : W p l e R s m args below meth c H locs cells slots Q (F0 m (pc + 3) ls (v :: rest))) : W p l e R s m args below meth c H locs cells slots Q (F0 m pc ls (.ref a :: rest)) := fg C w inX5s (ref := RX5) rfl 1 (by decide) (ts_t (w := Cond.fieldLink RX5 15 RX5 (TX5 1).2.1 (TX5 1).2.2.1) 102 (by decide +kernel) (by decide +kernel)) rfl q0 he hv hd kk
theorem g_X5_9 {p : Program} {l : Launch} {e : Env} {R : Room} {s : State} {m : MethodId} {args : Array Value} {below : List Frame} {meth : Method} {c : Code} {H : Heap} {locs : List Loc} {cells slots : Nat} {Q : State → Prop} {d : MD} {g : GT} {A : Nat → Prop} {ws : va_W} {pc : Nat} {ls : Array Slot} {rest : List Value} (C : Cx p s m args meth c RX5 d g A) (w : Wd g A ws s.heap H locs) (q0 : Nat) {a : Nat} {fs : List Value} {v : Value} (he : ws[q0]? = some (a, .inr (5, fs))) (hv : fs[0]? = some v) (hd : decode d.2.1 pc = .ok (.getfield 9, 3)) (kk : W p l e R s m args below meth c H locs cells slots Q (F0 m (pc + 3) ls (v :: rest))) : W p l e R s m args below meth c H locs cells slots Q (F0 m pc ls (.ref a :: rest)) := fg C w inX5s (ref := RX5) rfl 0 (by decide) (ts_t (w := Cond.fieldLink RX5 9 RX5 (TX5 0).2.1 (TX5 0).2.2.1) 101 (by decide +kernel) (by decide +kernel)) rfl q0 he hv hd kk
theorem p_X5_15 {p : Program} {l : Launch} {e : Env} {R : Room} {s : State} {m : MethodId} {args : Array Value} {below : List Frame} {meth : Method} {c : Code} {H : Heap} {locs : List Loc} {cells slots : Nat} {Q : State → Prop} {d : MD} {g : GT} {A : Nat → Prop} {ws : va_W} {pc : Nat} {ls : Array Slot} {rest : List Value} (C : Cx p s m args meth c RX5 d g A) (w : Wd g A ws s.heap H locs) (q0 : Nat) {a : Nat} {fs : List Value} {x : Int32} (he : ws[q0]? = some (a, .inr (5, fs))) (hlt : 1 < fs.length) {ws2 : va_W} (h2 : ws.set q0 (a, .inr (5, fs.set 1 (.int x))) = ws2) (hd : decode d.2.1 pc = .ok (.putfield 15, 3)) (kk : ∀ (H1 : Heap) (locs1 : List Loc), Wd g A ws2 s.heap H1 locs1 → W p l e R s m args below meth c H1 locs1 cells slots Q (F0 m (pc + 3) ls rest)) : W p l e R s m args below meth c H locs cells slots Q (F0 m pc ls (.int x :: .ref a :: rest)) := fp C w inX5s tyX5_ok nmX5 (ref := RX5) rfl 1 (by decide) (ts_t (w := Cond.fieldLink RX5 15 RX5 (TX5 1).2.1 (TX5 1).2.2.1) 102 (by decide +kernel) (by decide +kernel)) rfl rfl q0 he rfl rfl hlt h2 hd kk
abbrev w_X5_addWord (g : GT) (h0 h1 : Nat) (v0_2 v0_3 v0_4 v0_5 v0_6 v0_7 v0_8 v0_9 v0_10 : Value) (held0 : Int32) (text1 : Nat → Int32) : va_W := [(h0, .inr (5, [.ref h1, .int held0, v0_2, v0_3, v0_4, v0_5, v0_6, v0_7, v0_8, v0_9, v0_10])), (h1, aI g 900 text1)]
def f_X5_addWord_b49 (F : Nat) (held0 : Int32) (text1 : Nat → Int32) : Option (Int32 × (Nat → Int32)) :=
  some (held0, text1)
def f_X5_addWord_h3 (F : Nat) (k3 : (Int32 × Int32 × Int32 × (Nat → Int32)) → Option (Int32 × (Nat → Int32))) (x1 x2 held0 : Int32) (text1 : Nat → Int32) : Option (Int32 × (Nat → Int32)) :=
  if x2 < 0 then
    f_X5_addWord_b49 F held0 text1
  else
    if 900 ≤ held0 then
      f_X5_addWord_b49 F held0 text1
    else
      wr text1 900 held0 (((x1.toUInt32 >>> (x2.toUInt32 &&& Int32.toUInt32 31)).toInt32) &&& 255) fun f3 =>
      k3 (x1, x2 + (-8), held0 + 1, f3)
def f_X5_addWord_L3 (F : Nat) (z : Int32 × Int32 × Int32 × (Nat → Int32)) : Option (Int32 × (Nat → Int32)) := lp (fun k z => f_X5_addWord_h3 F k z.1 z.2.1 z.2.2.1 z.2.2.2) F z
def f_X5_addWord (F : Nat) (p1 held0 : Int32) (text1 : Nat → Int32) : Option (Int32 × (Nat → Int32)) :=
  f_X5_addWord_L3 F (p1, 24, held0, text1)
set_option maxHeartbeats 4000000 in
set_option maxRecDepth 100000 in
theorem c_X5_addWord (l : Launch) (g : GT) (F : Nat) (h0 h1 : Nat) (v0_2 v0_3 v0_4 v0_5 v0_6 v0_7 v0_8 v0_9 v0_10 : Value) (p1 held0 : Int32) (text1 : Nat → Int32) (o_held0 : Int32) (o_text1 : Nat → Int32) (sz : Nat) (hf : f_X5_addWord F p1 held0 text1 = some (o_held0, o_text1)) : CV l m_X5_addWord (rml 0 0 0) g (w_X5_addWord g h0 h1 v0_2 v0_3 v0_4 v0_5 v0_6 v0_7 v0_8 v0_9 v0_10 held0 text1) (fun _ => w_X5_addWord g h0 h1 v0_2 v0_3 v0_4 v0_5 v0_6 v0_7 v0_8 v0_9 v0_10 o_held0 o_text1) sz [.ref h0, .int p1] := by
  refine en_v (by decide) (Nat.le_of_ble_eq_true rfl) (fun p e s m args below meth c A ls C w hl => ?_)
  have C : Cx p s m args meth c RX5 m_X5_addWord g A := C
  have hx := C.1
  have hb : c.code = cX5_addWord := C.2.1
  have hl : lv_has ls 3 [(0, .ref h0), (1, .int p1)] := hl
  obtain ⟨Q, hQ⟩ : ∃ Q, Q = QV below args s g A (fun _ => w_X5_addWord g h0 h1 v0_2 v0_3 v0_4 v0_5 v0_6 v0_7 v0_8 v0_9 v0_10 o_held0 o_text1) 0 0 := ⟨_, rfl⟩
  suffices hW : W p l e (rml 0 0 0) s m args below meth c s.heap [] 0 0 Q (F0 m 0 ls []) from (by rw [hQ] at hW; exact hW)
  unfold f_X5_addWord at hf
  have b49 : ∀ (held0 : Int32) (text1 : Nat → Int32) (H : Heap) (locs : List Loc) (ls : Array Slot), f_X5_addWord_b49 F held0 text1 = some (o_held0, o_text1) → Wd g A (w_X5_addWord g h0 h1 v0_2 v0_3 v0_4 v0_5 v0_6 v0_7 v0_8 v0_9 v0_10 held0 text1) s.heap H locs → lv_has ls 3 [] → W p l e (rml 0 0 0) s m args below meth c H locs 0 0 Q (F0 m 49 ls []) := by
    intro held0 text1 H locs ls hf w hl
    unfold f_X5_addWord_b49 at hf
    obtain ⟨e1, e2⟩ := tp2 hf
    rw [hQ]
    exact rt_v C w rfl (fun _ => 0) (by rw [← e1, ← e2]) dX5_addWord_49
  have L3 : ∀ (z : Int32 × Int32 × Int32 × (Nat → Int32)), f_X5_addWord_L3 F z = some (o_held0, o_text1) → ∀ (H : Heap) (locs : List Loc) (ls : Array Slot), Wd g A (w_X5_addWord g h0 h1 v0_2 v0_3 v0_4 v0_5 v0_6 v0_7 v0_8 v0_9 v0_10 z.2.2.1 z.2.2.2) s.heap H locs → lv_has ls 3 [(0, .ref h0), (1, .int z.1), (2, .int z.2.1)] → W p l e (rml 0 0 0) s m args below meth c H locs 0 0 Q (F0 m 3 ls []) := by
    intro z hf
    refine lp_W (r := (o_held0, o_text1)) (fun (z : Int32 × Int32 × Int32 × (Nat → Int32)) => ∀ (H : Heap) (locs : List Loc) (ls : Array Slot), Wd g A (w_X5_addWord g h0 h1 v0_2 v0_3 v0_4 v0_5 v0_6 v0_7 v0_8 v0_9 v0_10 z.2.2.1 z.2.2.2) s.heap H locs → lv_has ls 3 [(0, .ref h0), (1, .int z.1), (2, .int z.2.1)] → W p l e (rml 0 0 0) s m args below meth c H locs 0 0 Q (F0 m 3 ls [])) (fun k3 z ih3 hf => ?_) F z hf
    obtain ⟨x1, x2, held0, text1⟩ := z
    intro H locs ls w hl
    try dsimp only at hf w hl ⊢
    unfold f_X5_addWord_h3 at hf
    refine lv_iload_n hx hb dX5_addWord_3 rfl (lv_at hl 2 rfl) ?_
    refine lv_if_lt (tgt := 49) hx hb dX5_addWord_4 (by decide) (fun c1 => ?_) (fun c1 => ?_)
    · replace hf := it_t c1 hf
      exact b49 held0 text1 _ _ _ hf w (lv_sub hl [] rfl)
    · replace hf := it_f c1 hf
      refine lv_aload_n hx hb dX5_addWord_7 rfl (lv_at hl 0 rfl) ?_
      refine g_X5_15 C w 0 rfl rfl dX5_addWord_8 ?_
      refine lv_sipush (v := 900) hx hb dX5_addWord_11 (by decide) ?_
      refine lv_icmp_ge (tgt := 49) hx hb dX5_addWord_14 (by decide) (fun c2 => ?_) (fun c2 => ?_)
      · replace hf := it_t c2 hf
        exact b49 held0 text1 _ _ _ hf w (lv_sub hl [] rfl)
      · replace hf := it_f c2 hf
        refine lv_aload_n hx hb dX5_addWord_17 rfl (lv_at hl 0 rfl) ?_
        refine g_X5_9 C w 0 rfl rfl dX5_addWord_18 ?_
        refine lv_aload_n hx hb dX5_addWord_21 rfl (lv_at hl 0 rfl) ?_
        refine g_X5_15 C w 0 rfl rfl dX5_addWord_22 ?_
        refine lv_iload_n hx hb dX5_addWord_25 rfl (lv_at hl 1 rfl) ?_
        refine lv_iload_n hx hb dX5_addWord_26 rfl (lv_at hl 2 rfl) ?_
        refine lv_iushr (v := (x1.toUInt32 >>> (x2.toUInt32 &&& Int32.toUInt32 31)).toInt32) hx hb dX5_addWord_27 rfl ?_
        refine lv_sipush (v := 255) hx hb dX5_addWord_28 (by decide) ?_
        refine lv_iand hx hb dX5_addWord_31 ?_
        obtain ⟨f3, hif3, haf3, hf⟩ := wr_some hf
        refine ias C w 1 rfl hif3 haf3 (ws2 := w_X5_addWord g h0 h1 v0_2 v0_3 v0_4 v0_5 v0_6 v0_7 v0_8 v0_9 v0_10 held0 f3) rfl dX5_addWord_32 (fun H locs w => ?_)
        refine lv_aload_n hx hb dX5_addWord_33 rfl (lv_at hl 0 rfl) ?_
        refine lv_dup hx hb dX5_addWord_34 rfl ?_
        refine g_X5_15 C w 0 rfl rfl dX5_addWord_35 ?_
        refine lv_iconst (v := 1) hx hb dX5_addWord_38 (by decide) ?_
        refine lv_iadd hx hb dX5_addWord_39 ?_
        refine p_X5_15 C w 0 rfl (Nat.le_of_ble_eq_true rfl) (ws2 := w_X5_addWord g h0 h1 v0_2 v0_3 v0_4 v0_5 v0_6 v0_7 v0_8 v0_9 v0_10 (held0 + 1) f3) rfl dX5_addWord_40 (fun H locs w => ?_)
        refine lv_iinc (v := x2 + (-8)) (lv' := [(2, .int (x2 + (-8))), (0, .ref h0), (1, .int x1)]) hx hb dX5_addWord_43 hl (k := 2) rfl rfl (by decide) rfl (fun ls hl => ?_)
        refine lv_goto (tgt := 3) hx hb dX5_addWord_46 (by decide) ?_
        exact ih3 (x1, x2 + (-8), held0 + 1, f3) hf _ _ _ w (lv_sub hl [1, 2, 0] rfl)
  refine lv_bipush (v := 24) hx hb dX5_addWord_0 (by decide) ?_
  refine lv_istore_n (lv' := [(2, .int 24), (0, .ref h0), (1, .int p1)]) hx hb dX5_addWord_2 rfl hl (by decide) rfl (fun ls hl => ?_)
  exact L3 (p1, 24, held0, text1) hf _ _ _ w (lv_sub hl [1, 2, 0] rfl)

theorem dX5_kindOf_0 : decode cX5_kindOf 0 = .ok (.iload_n 0, 1) := by decide +kernel
theorem dX5_kindOf_1 : decode cX5_kindOf 1 = .ok (.bipush 97, 2) := by decide +kernel
theorem dX5_kindOf_3 : decode cX5_kindOf 3 = .ok (.if_icmp .lt 11, 3) := by decide +kernel
theorem dX5_kindOf_6 : decode cX5_kindOf 6 = .ok (.iload_n 0, 1) := by decide +kernel
theorem dX5_kindOf_7 : decode cX5_kindOf 7 = .ok (.bipush 122, 2) := by decide +kernel
theorem dX5_kindOf_9 : decode cX5_kindOf 9 = .ok (.if_icmp .gt 5, 3) := by decide +kernel
theorem dX5_kindOf_12 : decode cX5_kindOf 12 = .ok (.iconst 1, 1) := by decide +kernel
theorem dX5_kindOf_13 : decode cX5_kindOf 13 = .ok (.ireturn, 1) := by decide +kernel
theorem dX5_kindOf_14 : decode cX5_kindOf 14 = .ok (.iload_n 0, 1) := by decide +kernel
theorem dX5_kindOf_15 : decode cX5_kindOf 15 = .ok (.bipush 48, 2) := by decide +kernel
theorem dX5_kindOf_17 : decode cX5_kindOf 17 = .ok (.if_icmp .lt 11, 3) := by decide +kernel
theorem dX5_kindOf_20 : decode cX5_kindOf 20 = .ok (.iload_n 0, 1) := by decide +kernel
theorem dX5_kindOf_21 : decode cX5_kindOf 21 = .ok (.bipush 57, 2) := by decide +kernel
theorem dX5_kindOf_23 : decode cX5_kindOf 23 = .ok (.if_icmp .gt 5, 3) := by decide +kernel
theorem dX5_kindOf_26 : decode cX5_kindOf 26 = .ok (.iconst 2, 1) := by decide +kernel
theorem dX5_kindOf_27 : decode cX5_kindOf 27 = .ok (.ireturn, 1) := by decide +kernel
theorem dX5_kindOf_28 : decode cX5_kindOf 28 = .ok (.iload_n 0, 1) := by decide +kernel
theorem dX5_kindOf_29 : decode cX5_kindOf 29 = .ok (.bipush 59, 2) := by decide +kernel
theorem dX5_kindOf_31 : decode cX5_kindOf 31 = .ok (.if_icmp .ne 5, 3) := by decide +kernel
theorem dX5_kindOf_34 : decode cX5_kindOf 34 = .ok (.iconst 3, 1) := by decide +kernel
theorem dX5_kindOf_35 : decode cX5_kindOf 35 = .ok (.ireturn, 1) := by decide +kernel
theorem dX5_kindOf_36 : decode cX5_kindOf 36 = .ok (.iload_n 0, 1) := by decide +kernel
theorem dX5_kindOf_37 : decode cX5_kindOf 37 = .ok (.bipush 32, 2) := by decide +kernel
theorem dX5_kindOf_39 : decode cX5_kindOf 39 = .ok (.if_icmp .eq 9, 3) := by decide +kernel
theorem dX5_kindOf_42 : decode cX5_kindOf 42 = .ok (.iload_n 0, 1) := by decide +kernel
theorem dX5_kindOf_43 : decode cX5_kindOf 43 = .ok (.bipush 10, 2) := by decide +kernel
theorem dX5_kindOf_45 : decode cX5_kindOf 45 = .ok (.if_icmp .ne 7, 3) := by decide +kernel
theorem dX5_kindOf_48 : decode cX5_kindOf 48 = .ok (.iconst 5, 1) := by decide +kernel
theorem dX5_kindOf_49 : decode cX5_kindOf 49 = .ok (.goto 4, 3) := by decide +kernel
theorem dX5_kindOf_52 : decode cX5_kindOf 52 = .ok (.iconst 4, 1) := by decide +kernel
theorem dX5_kindOf_53 : decode cX5_kindOf 53 = .ok (.ireturn, 1) := by decide +kernel
abbrev m_X5_kindOf : MD := (yX5_kindOf, cX5_kindOf, 1, (some .int))

abbrev w_X5_kindOf (g : GT) : va_W := []
def f_X5_kindOf_b53 (F : Nat) (s0 : Int32) : Option (Int32) :=
  some s0
def f_X5_kindOf_b48 (F : Nat) : Option (Int32) :=
  f_X5_kindOf_b53 F 5
def f_X5_kindOf_b28 (F : Nat) (x0 : Int32) : Option (Int32) :=
  if x0 = 59 then
    some 3
  else
    if x0 = 32 then
      f_X5_kindOf_b48 F
    else
      if x0 = 10 then
        f_X5_kindOf_b48 F
      else
        f_X5_kindOf_b53 F 4
def f_X5_kindOf_b14 (F : Nat) (x0 : Int32) : Option (Int32) :=
  if x0 < 48 then
    f_X5_kindOf_b28 F x0
  else
    if 57 < x0 then
      f_X5_kindOf_b28 F x0
    else
      some 2
def f_X5_kindOf (F : Nat) (p0 : Int32) : Option (Int32) :=
  if p0 < 97 then
    f_X5_kindOf_b14 F p0
  else
    if 122 < p0 then
      f_X5_kindOf_b14 F p0
    else
      some 1
set_option maxHeartbeats 4000000 in
set_option maxRecDepth 100000 in
theorem c_X5_kindOf (l : Launch) (g : GT) (F : Nat) (p0 : Int32) (r : Int32) (sz : Nat) (hf : f_X5_kindOf F p0 = some r) : CI l m_X5_kindOf (rml 0 0 0) g (w_X5_kindOf g) (fun _ => w_X5_kindOf g) sz [.int p0] r := by
  refine en_i (by decide) (Nat.le_of_ble_eq_true rfl) (fun p e s m args below meth c A ls C w hl => ?_)
  have C : Cx p s m args meth c RX5 m_X5_kindOf g A := C
  have hx := C.1
  have hb : c.code = cX5_kindOf := C.2.1
  have hl : lv_has ls 1 [(0, .int p0)] := hl
  obtain ⟨Q, hQ⟩ : ∃ Q, Q = QI below args s g A (fun _ => w_X5_kindOf g) r 0 0 := ⟨_, rfl⟩
  suffices hW : W p l e (rml 0 0 0) s m args below meth c s.heap [] 0 0 Q (F0 m 0 ls []) from (by rw [hQ] at hW; exact hW)
  unfold f_X5_kindOf at hf
  have b53 : ∀ (s0 : Int32) (H : Heap) (locs : List Loc) (ls : Array Slot), f_X5_kindOf_b53 F s0 = some r → Wd g A (w_X5_kindOf g) s.heap H locs → lv_has ls 1 [] → W p l e (rml 0 0 0) s m args below meth c H locs 0 0 Q (F0 m 53 ls [.int s0]) := by
    intro s0 H locs ls hf w hl
    unfold f_X5_kindOf_b53 at hf
    obtain e1 := tp1 hf
    rw [hQ]
    exact rt_i C w rfl (fun _ => 0) rfl e1 dX5_kindOf_53
  have b48 : ∀ (H : Heap) (locs : List Loc) (ls : Array Slot), f_X5_kindOf_b48 F = some r → Wd g A (w_X5_kindOf g) s.heap H locs → lv_has ls 1 [] → W p l e (rml 0 0 0) s m args below meth c H locs 0 0 Q (F0 m 48 ls []) := by
    intro  H locs ls hf w hl
    unfold f_X5_kindOf_b48 at hf
    refine lv_iconst (v := 5) hx hb dX5_kindOf_48 (by decide) ?_
    refine lv_goto (tgt := 53) hx hb dX5_kindOf_49 (by decide) ?_
    exact b53 5 _ _ _ hf w (lv_sub hl [] rfl)
  have b28 : ∀ (x0 : Int32) (H : Heap) (locs : List Loc) (ls : Array Slot), f_X5_kindOf_b28 F x0 = some r → Wd g A (w_X5_kindOf g) s.heap H locs → lv_has ls 1 [(0, .int x0)] → W p l e (rml 0 0 0) s m args below meth c H locs 0 0 Q (F0 m 28 ls []) := by
    intro x0 H locs ls hf w hl
    unfold f_X5_kindOf_b28 at hf
    refine lv_iload_n hx hb dX5_kindOf_28 rfl (lv_at hl 0 rfl) ?_
    refine lv_bipush (v := 59) hx hb dX5_kindOf_29 (by decide) ?_
    refine lv_icmp_ne (tgt := 36) hx hb dX5_kindOf_31 (by decide) (fun c1 => ?_) (fun c1 => ?_)
    · replace hf := it_f c1 hf
      refine lv_iload_n hx hb dX5_kindOf_36 rfl (lv_at hl 0 rfl) ?_
      refine lv_bipush (v := 32) hx hb dX5_kindOf_37 (by decide) ?_
      refine lv_icmp_eq (tgt := 48) hx hb dX5_kindOf_39 (by decide) (fun c2 => ?_) (fun c2 => ?_)
      · replace hf := it_t c2 hf
        exact b48  _ _ _ hf w (lv_sub hl [] rfl)
      · replace hf := it_f c2 hf
        refine lv_iload_n hx hb dX5_kindOf_42 rfl (lv_at hl 0 rfl) ?_
        refine lv_bipush (v := 10) hx hb dX5_kindOf_43 (by decide) ?_
        refine lv_icmp_ne (tgt := 52) hx hb dX5_kindOf_45 (by decide) (fun c3 => ?_) (fun c3 => ?_)
        · replace hf := it_f c3 hf
          refine lv_iconst (v := 4) hx hb dX5_kindOf_52 (by decide) ?_
          exact b53 4 _ _ _ hf w (lv_sub hl [] rfl)
        · replace hf := it_t c3 hf
          exact b48  _ _ _ hf w (lv_sub hl [] rfl)
    · replace hf := it_t c1 hf
      refine lv_iconst (v := 3) hx hb dX5_kindOf_34 (by decide) ?_
      obtain e1 := tp1 hf
      rw [hQ]
      exact rt_i C w rfl (fun _ => 0) rfl e1 dX5_kindOf_35
  have b14 : ∀ (x0 : Int32) (H : Heap) (locs : List Loc) (ls : Array Slot), f_X5_kindOf_b14 F x0 = some r → Wd g A (w_X5_kindOf g) s.heap H locs → lv_has ls 1 [(0, .int x0)] → W p l e (rml 0 0 0) s m args below meth c H locs 0 0 Q (F0 m 14 ls []) := by
    intro x0 H locs ls hf w hl
    unfold f_X5_kindOf_b14 at hf
    refine lv_iload_n hx hb dX5_kindOf_14 rfl (lv_at hl 0 rfl) ?_
    refine lv_bipush (v := 48) hx hb dX5_kindOf_15 (by decide) ?_
    refine lv_icmp_lt (tgt := 28) hx hb dX5_kindOf_17 (by decide) (fun c4 => ?_) (fun c4 => ?_)
    · replace hf := it_t c4 hf
      exact b28 x0 _ _ _ hf w (lv_sub hl [0] rfl)
    · replace hf := it_f c4 hf
      refine lv_iload_n hx hb dX5_kindOf_20 rfl (lv_at hl 0 rfl) ?_
      refine lv_bipush (v := 57) hx hb dX5_kindOf_21 (by decide) ?_
      refine lv_icmp_gt (tgt := 28) hx hb dX5_kindOf_23 (by decide) (fun c5 => ?_) (fun c5 => ?_)
      · replace hf := it_t c5 hf
        exact b28 x0 _ _ _ hf w (lv_sub hl [0] rfl)
      · replace hf := it_f c5 hf
        refine lv_iconst (v := 2) hx hb dX5_kindOf_26 (by decide) ?_
        obtain e1 := tp1 hf
        rw [hQ]
        exact rt_i C w rfl (fun _ => 0) rfl e1 dX5_kindOf_27
  refine lv_iload_n hx hb dX5_kindOf_0 rfl (lv_at hl 0 rfl) ?_
  refine lv_bipush (v := 97) hx hb dX5_kindOf_1 (by decide) ?_
  refine lv_icmp_lt (tgt := 14) hx hb dX5_kindOf_3 (by decide) (fun c6 => ?_) (fun c6 => ?_)
  · replace hf := it_t c6 hf
    exact b14 p0 _ _ _ hf w (lv_sub hl [0] rfl)
  · replace hf := it_f c6 hf
    refine lv_iload_n hx hb dX5_kindOf_6 rfl (lv_at hl 0 rfl) ?_
    refine lv_bipush (v := 122) hx hb dX5_kindOf_7 (by decide) ?_
    refine lv_icmp_gt (tgt := 14) hx hb dX5_kindOf_9 (by decide) (fun c7 => ?_) (fun c7 => ?_)
    · replace hf := it_t c7 hf
      exact b14 p0 _ _ _ hf w (lv_sub hl [0] rfl)
    · replace hf := it_f c7 hf
      refine lv_iconst (v := 1) hx hb dX5_kindOf_12 (by decide) ?_
      obtain e1 := tp1 hf
      rw [hQ]
      exact rt_i C w rfl (fun _ => 0) rfl e1 dX5_kindOf_13

theorem dX5_advance_0 : decode cX5_advance 0 = .ok (.aload_n 0, 1) := by decide +kernel
theorem dX5_advance_1 : decode cX5_advance 1 = .ok (.aload_n 0, 1) := by decide +kernel
theorem dX5_advance_2 : decode cX5_advance 2 = .ok (.getfield 38, 3) := by decide +kernel
theorem dX5_advance_5 : decode cX5_advance 5 = .ok (.putfield 35, 3) := by decide +kernel
theorem dX5_advance_8 : decode cX5_advance 8 = .ok (.aload_n 0, 1) := by decide +kernel
theorem dX5_advance_9 : decode cX5_advance 9 = .ok (.getfield 35, 3) := by decide +kernel
theorem dX5_advance_12 : decode cX5_advance 12 = .ok (.aload_n 0, 1) := by decide +kernel
theorem dX5_advance_13 : decode cX5_advance 13 = .ok (.getfield 19, 3) := by decide +kernel
theorem dX5_advance_16 : decode cX5_advance 16 = .ok (.if_icmp .ge 32, 3) := by decide +kernel
theorem dX5_advance_19 : decode cX5_advance 19 = .ok (.aload_n 0, 1) := by decide +kernel
theorem dX5_advance_20 : decode cX5_advance 20 = .ok (.getfield 9, 3) := by decide +kernel
theorem dX5_advance_23 : decode cX5_advance 23 = .ok (.aload_n 0, 1) := by decide +kernel
theorem dX5_advance_24 : decode cX5_advance 24 = .ok (.getfield 35, 3) := by decide +kernel
theorem dX5_advance_27 : decode cX5_advance 27 = .ok (.iaload, 1) := by decide +kernel
theorem dX5_advance_28 : decode cX5_advance 28 = .ok (.invokestatic 157, 3) := by decide +kernel
theorem dX5_advance_31 : decode cX5_advance 31 = .ok (.iconst 5, 1) := by decide +kernel
theorem dX5_advance_32 : decode cX5_advance 32 = .ok (.if_icmp .ne 16, 3) := by decide +kernel
theorem dX5_advance_35 : decode cX5_advance 35 = .ok (.aload_n 0, 1) := by decide +kernel
theorem dX5_advance_36 : decode cX5_advance 36 = .ok (.dup, 1) := by decide +kernel
theorem dX5_advance_37 : decode cX5_advance 37 = .ok (.getfield 35, 3) := by decide +kernel
theorem dX5_advance_40 : decode cX5_advance 40 = .ok (.iconst 1, 1) := by decide +kernel
theorem dX5_advance_41 : decode cX5_advance 41 = .ok (.iadd, 1) := by decide +kernel
theorem dX5_advance_42 : decode cX5_advance 42 = .ok (.putfield 35, 3) := by decide +kernel
theorem dX5_advance_45 : decode cX5_advance 45 = .ok (.goto (-37), 3) := by decide +kernel
theorem dX5_advance_48 : decode cX5_advance 48 = .ok (.aload_n 0, 1) := by decide +kernel
theorem dX5_advance_49 : decode cX5_advance 49 = .ok (.aload_n 0, 1) := by decide +kernel
theorem dX5_advance_50 : decode cX5_advance 50 = .ok (.getfield 35, 3) := by decide +kernel
theorem dX5_advance_53 : decode cX5_advance 53 = .ok (.putfield 38, 3) := by decide +kernel
theorem dX5_advance_56 : decode cX5_advance 56 = .ok (.aload_n 0, 1) := by decide +kernel
theorem dX5_advance_57 : decode cX5_advance 57 = .ok (.getfield 35, 3) := by decide +kernel
theorem dX5_advance_60 : decode cX5_advance 60 = .ok (.aload_n 0, 1) := by decide +kernel
theorem dX5_advance_61 : decode cX5_advance 61 = .ok (.getfield 19, 3) := by decide +kernel
theorem dX5_advance_64 : decode cX5_advance 64 = .ok (.if_icmp .lt 9, 3) := by decide +kernel
theorem dX5_advance_67 : decode cX5_advance 67 = .ok (.aload_n 0, 1) := by decide +kernel
theorem dX5_advance_68 : decode cX5_advance 68 = .ok (.iconst 0, 1) := by decide +kernel
theorem dX5_advance_69 : decode cX5_advance 69 = .ok (.putfield 32, 3) := by decide +kernel
theorem dX5_advance_72 : decode cX5_advance 72 = .ok (.return_, 1) := by decide +kernel
theorem dX5_advance_73 : decode cX5_advance 73 = .ok (.aload_n 0, 1) := by decide +kernel
theorem dX5_advance_74 : decode cX5_advance 74 = .ok (.aload_n 0, 1) := by decide +kernel
theorem dX5_advance_75 : decode cX5_advance 75 = .ok (.getfield 9, 3) := by decide +kernel
theorem dX5_advance_78 : decode cX5_advance 78 = .ok (.aload_n 0, 1) := by decide +kernel
theorem dX5_advance_79 : decode cX5_advance 79 = .ok (.getfield 35, 3) := by decide +kernel
theorem dX5_advance_82 : decode cX5_advance 82 = .ok (.iaload, 1) := by decide +kernel
theorem dX5_advance_83 : decode cX5_advance 83 = .ok (.invokestatic 157, 3) := by decide +kernel
theorem dX5_advance_86 : decode cX5_advance 86 = .ok (.putfield 32, 3) := by decide +kernel
theorem dX5_advance_89 : decode cX5_advance 89 = .ok (.aload_n 0, 1) := by decide +kernel
theorem dX5_advance_90 : decode cX5_advance 90 = .ok (.dup, 1) := by decide +kernel
theorem dX5_advance_91 : decode cX5_advance 91 = .ok (.getfield 38, 3) := by decide +kernel
theorem dX5_advance_94 : decode cX5_advance 94 = .ok (.iconst 1, 1) := by decide +kernel
theorem dX5_advance_95 : decode cX5_advance 95 = .ok (.iadd, 1) := by decide +kernel
theorem dX5_advance_96 : decode cX5_advance 96 = .ok (.putfield 38, 3) := by decide +kernel
theorem dX5_advance_99 : decode cX5_advance 99 = .ok (.aload_n 0, 1) := by decide +kernel
theorem dX5_advance_100 : decode cX5_advance 100 = .ok (.getfield 32, 3) := by decide +kernel
theorem dX5_advance_103 : decode cX5_advance 103 = .ok (.iconst 1, 1) := by decide +kernel
theorem dX5_advance_104 : decode cX5_advance 104 = .ok (.if_icmp .eq 11, 3) := by decide +kernel
theorem dX5_advance_107 : decode cX5_advance 107 = .ok (.aload_n 0, 1) := by decide +kernel
theorem dX5_advance_108 : decode cX5_advance 108 = .ok (.getfield 32, 3) := by decide +kernel
theorem dX5_advance_111 : decode cX5_advance 111 = .ok (.iconst 2, 1) := by decide +kernel
theorem dX5_advance_112 : decode cX5_advance 112 = .ok (.if_icmp .ne 7, 3) := by decide +kernel
theorem dX5_advance_115 : decode cX5_advance 115 = .ok (.iconst 1, 1) := by decide +kernel
theorem dX5_advance_116 : decode cX5_advance 116 = .ok (.goto 4, 3) := by decide +kernel
theorem dX5_advance_119 : decode cX5_advance 119 = .ok (.iconst 0, 1) := by decide +kernel
theorem dX5_advance_120 : decode cX5_advance 120 = .ok (.istore_n 1, 1) := by decide +kernel
theorem dX5_advance_121 : decode cX5_advance 121 = .ok (.iload_n 1, 1) := by decide +kernel
theorem dX5_advance_122 : decode cX5_advance 122 = .ok (.ifCond .eq 46, 3) := by decide +kernel
theorem dX5_advance_125 : decode cX5_advance 125 = .ok (.aload_n 0, 1) := by decide +kernel
theorem dX5_advance_126 : decode cX5_advance 126 = .ok (.getfield 38, 3) := by decide +kernel
theorem dX5_advance_129 : decode cX5_advance 129 = .ok (.aload_n 0, 1) := by decide +kernel
theorem dX5_advance_130 : decode cX5_advance 130 = .ok (.getfield 19, 3) := by decide +kernel
theorem dX5_advance_133 : decode cX5_advance 133 = .ok (.if_icmp .ge 35, 3) := by decide +kernel
theorem dX5_advance_136 : decode cX5_advance 136 = .ok (.aload_n 0, 1) := by decide +kernel
theorem dX5_advance_137 : decode cX5_advance 137 = .ok (.getfield 9, 3) := by decide +kernel
theorem dX5_advance_140 : decode cX5_advance 140 = .ok (.aload_n 0, 1) := by decide +kernel
theorem dX5_advance_141 : decode cX5_advance 141 = .ok (.getfield 38, 3) := by decide +kernel
theorem dX5_advance_144 : decode cX5_advance 144 = .ok (.iaload, 1) := by decide +kernel
theorem dX5_advance_145 : decode cX5_advance 145 = .ok (.invokestatic 157, 3) := by decide +kernel
theorem dX5_advance_148 : decode cX5_advance 148 = .ok (.aload_n 0, 1) := by decide +kernel
theorem dX5_advance_149 : decode cX5_advance 149 = .ok (.getfield 32, 3) := by decide +kernel
theorem dX5_advance_152 : decode cX5_advance 152 = .ok (.if_icmp .ne 16, 3) := by decide +kernel
theorem dX5_advance_155 : decode cX5_advance 155 = .ok (.aload_n 0, 1) := by decide +kernel
theorem dX5_advance_156 : decode cX5_advance 156 = .ok (.dup, 1) := by decide +kernel
theorem dX5_advance_157 : decode cX5_advance 157 = .ok (.getfield 38, 3) := by decide +kernel
theorem dX5_advance_160 : decode cX5_advance 160 = .ok (.iconst 1, 1) := by decide +kernel
theorem dX5_advance_161 : decode cX5_advance 161 = .ok (.iadd, 1) := by decide +kernel
theorem dX5_advance_162 : decode cX5_advance 162 = .ok (.putfield 38, 3) := by decide +kernel
theorem dX5_advance_165 : decode cX5_advance 165 = .ok (.goto (-44), 3) := by decide +kernel
theorem dX5_advance_168 : decode cX5_advance 168 = .ok (.iload_n 1, 1) := by decide +kernel
theorem dX5_advance_169 : decode cX5_advance 169 = .ok (.ifCond .eq 34, 3) := by decide +kernel
theorem dX5_advance_172 : decode cX5_advance 172 = .ok (.aload_n 0, 1) := by decide +kernel
theorem dX5_advance_173 : decode cX5_advance 173 = .ok (.getfield 38, 3) := by decide +kernel
theorem dX5_advance_176 : decode cX5_advance 176 = .ok (.aload_n 0, 1) := by decide +kernel
theorem dX5_advance_177 : decode cX5_advance 177 = .ok (.getfield 35, 3) := by decide +kernel
theorem dX5_advance_180 : decode cX5_advance 180 = .ok (.isub, 1) := by decide +kernel
theorem dX5_advance_181 : decode cX5_advance 181 = .ok (.aload_n 0, 1) := by decide +kernel
theorem dX5_advance_182 : decode cX5_advance 182 = .ok (.getfield 32, 3) := by decide +kernel
theorem dX5_advance_185 : decode cX5_advance 185 = .ok (.iconst 1, 1) := by decide +kernel
theorem dX5_advance_186 : decode cX5_advance 186 = .ok (.if_icmp .ne 8, 3) := by decide +kernel
theorem dX5_advance_189 : decode cX5_advance 189 = .ok (.bipush 10, 2) := by decide +kernel
theorem dX5_advance_191 : decode cX5_advance 191 = .ok (.goto 4, 3) := by decide +kernel
theorem dX5_advance_194 : decode cX5_advance 194 = .ok (.iconst 4, 1) := by decide +kernel
theorem dX5_advance_195 : decode cX5_advance 195 = .ok (.if_icmp .le 8, 3) := by decide +kernel
theorem dX5_advance_198 : decode cX5_advance 198 = .ok (.aload_n 0, 1) := by decide +kernel
theorem dX5_advance_199 : decode cX5_advance 199 = .ok (.iconst 4, 1) := by decide +kernel
theorem dX5_advance_200 : decode cX5_advance 200 = .ok (.putfield 32, 3) := by decide +kernel
theorem dX5_advance_203 : decode cX5_advance 203 = .ok (.return_, 1) := by decide +kernel
abbrev m_X5_advance : MD := (yX5_advance, cX5_advance, 2, none)
theorem g_X5_38 {p : Program} {l : Launch} {e : Env} {R : Room} {s : State} {m : MethodId} {args : Array Value} {below : List Frame} {meth : Method} {c : Code} {H : Heap} {locs : List Loc} {cells slots : Nat} {Q : State → Prop} {d : MD} {g : GT} {A : Nat → Prop} {ws : va_W} {pc : Nat} {ls : Array Slot} {rest : List Value} (C : Cx p s m args meth c RX5 d g A) (w : Wd g A ws s.heap H locs) (q0 : Nat) {a : Nat} {fs : List Value} {v : Value} (he : ws[q0]? = some (a, .inr (5, fs))) (hv : fs[7]? = some v) (hd : decode d.2.1 pc = .ok (.getfield 38, 3)) (kk : W p l e R s m args below meth c H locs cells slots Q (F0 m (pc + 3) ls (v :: rest))) : W p l e R s m args below meth c H locs cells slots Q (F0 m pc ls (.ref a :: rest)) := fg C w inX5s (ref := RX5) rfl 7 (by decide) (ts_t (w := Cond.fieldLink RX5 38 RX5 (TX5 7).2.1 (TX5 7).2.2.1) 111 (by decide +kernel) (by decide +kernel)) rfl q0 he hv hd kk
theorem g_X5_35 {p : Program} {l : Launch} {e : Env} {R : Room} {s : State} {m : MethodId} {args : Array Value} {below : List Frame} {meth : Method} {c : Code} {H : Heap} {locs : List Loc} {cells slots : Nat} {Q : State → Prop} {d : MD} {g : GT} {A : Nat → Prop} {ws : va_W} {pc : Nat} {ls : Array Slot} {rest : List Value} (C : Cx p s m args meth c RX5 d g A) (w : Wd g A ws s.heap H locs) (q0 : Nat) {a : Nat} {fs : List Value} {v : Value} (he : ws[q0]? = some (a, .inr (5, fs))) (hv : fs[6]? = some v) (hd : decode d.2.1 pc = .ok (.getfield 35, 3)) (kk : W p l e R s m args below meth c H locs cells slots Q (F0 m (pc + 3) ls (v :: rest))) : W p l e R s m args below meth c H locs cells slots Q (F0 m pc ls (.ref a :: rest)) := fg C w inX5s (ref := RX5) rfl 6 (by decide) (ts_t (w := Cond.fieldLink RX5 35 RX5 (TX5 6).2.1 (TX5 6).2.2.1) 110 (by decide +kernel) (by decide +kernel)) rfl q0 he hv hd kk
theorem g_X5_32 {p : Program} {l : Launch} {e : Env} {R : Room} {s : State} {m : MethodId} {args : Array Value} {below : List Frame} {meth : Method} {c : Code} {H : Heap} {locs : List Loc} {cells slots : Nat} {Q : State → Prop} {d : MD} {g : GT} {A : Nat → Prop} {ws : va_W} {pc : Nat} {ls : Array Slot} {rest : List Value} (C : Cx p s m args meth c RX5 d g A) (w : Wd g A ws s.heap H locs) (q0 : Nat) {a : Nat} {fs : List Value} {v : Value} (he : ws[q0]? = some (a, .inr (5, fs))) (hv : fs[5]? = some v) (hd : decode d.2.1 pc = .ok (.getfield 32, 3)) (kk : W p l e R s m args below meth c H locs cells slots Q (F0 m (pc + 3) ls (v :: rest))) : W p l e R s m args below meth c H locs cells slots Q (F0 m pc ls (.ref a :: rest)) := fg C w inX5s (ref := RX5) rfl 5 (by decide) (ts_t (w := Cond.fieldLink RX5 32 RX5 (TX5 5).2.1 (TX5 5).2.2.1) 109 (by decide +kernel) (by decide +kernel)) rfl q0 he hv hd kk
theorem g_X5_19 {p : Program} {l : Launch} {e : Env} {R : Room} {s : State} {m : MethodId} {args : Array Value} {below : List Frame} {meth : Method} {c : Code} {H : Heap} {locs : List Loc} {cells slots : Nat} {Q : State → Prop} {d : MD} {g : GT} {A : Nat → Prop} {ws : va_W} {pc : Nat} {ls : Array Slot} {rest : List Value} (C : Cx p s m args meth c RX5 d g A) (w : Wd g A ws s.heap H locs) (q0 : Nat) {a : Nat} {fs : List Value} {v : Value} (he : ws[q0]? = some (a, .inr (5, fs))) (hv : fs[2]? = some v) (hd : decode d.2.1 pc = .ok (.getfield 19, 3)) (kk : W p l e R s m args below meth c H locs cells slots Q (F0 m (pc + 3) ls (v :: rest))) : W p l e R s m args below meth c H locs cells slots Q (F0 m pc ls (.ref a :: rest)) := fg C w inX5s (ref := RX5) rfl 2 (by decide) (ts_t (w := Cond.fieldLink RX5 19 RX5 (TX5 2).2.1 (TX5 2).2.2.1) 104 (by decide +kernel) (by decide +kernel)) rfl q0 he hv hd kk
theorem p_X5_32 {p : Program} {l : Launch} {e : Env} {R : Room} {s : State} {m : MethodId} {args : Array Value} {below : List Frame} {meth : Method} {c : Code} {H : Heap} {locs : List Loc} {cells slots : Nat} {Q : State → Prop} {d : MD} {g : GT} {A : Nat → Prop} {ws : va_W} {pc : Nat} {ls : Array Slot} {rest : List Value} (C : Cx p s m args meth c RX5 d g A) (w : Wd g A ws s.heap H locs) (q0 : Nat) {a : Nat} {fs : List Value} {x : Int32} (he : ws[q0]? = some (a, .inr (5, fs))) (hlt : 5 < fs.length) {ws2 : va_W} (h2 : ws.set q0 (a, .inr (5, fs.set 5 (.int x))) = ws2) (hd : decode d.2.1 pc = .ok (.putfield 32, 3)) (kk : ∀ (H1 : Heap) (locs1 : List Loc), Wd g A ws2 s.heap H1 locs1 → W p l e R s m args below meth c H1 locs1 cells slots Q (F0 m (pc + 3) ls rest)) : W p l e R s m args below meth c H locs cells slots Q (F0 m pc ls (.int x :: .ref a :: rest)) := fp C w inX5s tyX5_ok nmX5 (ref := RX5) rfl 5 (by decide) (ts_t (w := Cond.fieldLink RX5 32 RX5 (TX5 5).2.1 (TX5 5).2.2.1) 109 (by decide +kernel) (by decide +kernel)) rfl rfl q0 he rfl rfl hlt h2 hd kk
theorem p_X5_38 {p : Program} {l : Launch} {e : Env} {R : Room} {s : State} {m : MethodId} {args : Array Value} {below : List Frame} {meth : Method} {c : Code} {H : Heap} {locs : List Loc} {cells slots : Nat} {Q : State → Prop} {d : MD} {g : GT} {A : Nat → Prop} {ws : va_W} {pc : Nat} {ls : Array Slot} {rest : List Value} (C : Cx p s m args meth c RX5 d g A) (w : Wd g A ws s.heap H locs) (q0 : Nat) {a : Nat} {fs : List Value} {x : Int32} (he : ws[q0]? = some (a, .inr (5, fs))) (hlt : 7 < fs.length) {ws2 : va_W} (h2 : ws.set q0 (a, .inr (5, fs.set 7 (.int x))) = ws2) (hd : decode d.2.1 pc = .ok (.putfield 38, 3)) (kk : ∀ (H1 : Heap) (locs1 : List Loc), Wd g A ws2 s.heap H1 locs1 → W p l e R s m args below meth c H1 locs1 cells slots Q (F0 m (pc + 3) ls rest)) : W p l e R s m args below meth c H locs cells slots Q (F0 m pc ls (.int x :: .ref a :: rest)) := fp C w inX5s tyX5_ok nmX5 (ref := RX5) rfl 7 (by decide) (ts_t (w := Cond.fieldLink RX5 38 RX5 (TX5 7).2.1 (TX5 7).2.2.1) 111 (by decide +kernel) (by decide +kernel)) rfl rfl q0 he rfl rfl hlt h2 hd kk
theorem p_X5_35 {p : Program} {l : Launch} {e : Env} {R : Room} {s : State} {m : MethodId} {args : Array Value} {below : List Frame} {meth : Method} {c : Code} {H : Heap} {locs : List Loc} {cells slots : Nat} {Q : State → Prop} {d : MD} {g : GT} {A : Nat → Prop} {ws : va_W} {pc : Nat} {ls : Array Slot} {rest : List Value} (C : Cx p s m args meth c RX5 d g A) (w : Wd g A ws s.heap H locs) (q0 : Nat) {a : Nat} {fs : List Value} {x : Int32} (he : ws[q0]? = some (a, .inr (5, fs))) (hlt : 6 < fs.length) {ws2 : va_W} (h2 : ws.set q0 (a, .inr (5, fs.set 6 (.int x))) = ws2) (hd : decode d.2.1 pc = .ok (.putfield 35, 3)) (kk : ∀ (H1 : Heap) (locs1 : List Loc), Wd g A ws2 s.heap H1 locs1 → W p l e R s m args below meth c H1 locs1 cells slots Q (F0 m (pc + 3) ls rest)) : W p l e R s m args below meth c H locs cells slots Q (F0 m pc ls (.int x :: .ref a :: rest)) := fp C w inX5s tyX5_ok nmX5 (ref := RX5) rfl 6 (by decide) (ts_t (w := Cond.fieldLink RX5 35 RX5 (TX5 6).2.1 (TX5 6).2.2.1) 110 (by decide +kernel) (by decide +kernel)) rfl rfl q0 he rfl rfl hlt h2 hd kk
theorem q_3 : Cond.initialized RX5 ∈ TS := ts_t 3 (by decide +kernel) (by decide +kernel)
theorem q_622 : Cond.code yX5_kindOf cX5_kindOf 1 (some .int) ∈ TS := ts_t 622 (by decide +kernel) (by decide +kernel)
theorem q_620 : Cond.methodLink RX5 157 yX5_kindOf ∈ TS := ts_t 620 (by decide +kernel) (by decide +kernel)
theorem q_621 : Cond.static yX5_kindOf ∈ TS := ts_t 621 (by decide +kernel) (by decide +kernel)
theorem k_X5_157 : LkS RX5 157 m_X5_kindOf 1 := ⟨q_620, q_621, ⟨q_3, q_622, by decide, by decide, by decide +kernel⟩⟩
abbrev w_X5_advance (g : GT) (h0 h1 : Nat) (v0_1 v0_3 v0_4 v0_8 v0_9 v0_10 : Value) (length0 token0 start0 end0 : Int32) (text1 : Nat → Int32) : va_W := [(h0, .inr (5, [.ref h1, v0_1, .int length0, v0_3, v0_4, .int token0, .int start0, .int end0, v0_8, v0_9, v0_10])), (h1, aI g 900 text1)]
def f_X5_advance_b203 (F : Nat) (length0 : Int32) (text1 : Nat → Int32) (token0 start0 end0 : Int32) : Option (Int32 × Int32 × Int32) :=
  some (token0, start0, end0)
def f_X5_advance_b195 (F : Nat) (length0 : Int32) (text1 : Nat → Int32) (s0 s1 token0 start0 end0 : Int32) : Option (Int32 × Int32 × Int32) :=
  if s1 ≤ s0 then
    f_X5_advance_b203 F length0 text1 token0 start0 end0
  else
    f_X5_advance_b203 F length0 text1 4 start0 end0
def f_X5_advance_b168 (F : Nat) (length0 : Int32) (text1 : Nat → Int32) (x1 token0 start0 end0 : Int32) : Option (Int32 × Int32 × Int32) :=
  if x1 = 0 then
    f_X5_advance_b203 F length0 text1 token0 start0 end0
  else
    if token0 = 1 then
      f_X5_advance_b195 F length0 text1 10 (end0 - start0) token0 start0 end0
    else
      f_X5_advance_b195 F length0 text1 4 (end0 - start0) token0 start0 end0
def f_X5_advance_h121 (F : Nat) (length0 : Int32) (text1 : Nat → Int32) (k121 : (Int32 × Int32 × Int32 × Int32) → Option (Int32 × Int32 × Int32)) (x1 token0 start0 end0 : Int32) : Option (Int32 × Int32 × Int32) :=
  if x1 = 0 then
    f_X5_advance_b168 F length0 text1 x1 token0 start0 end0
  else
    if length0 ≤ end0 then
      f_X5_advance_b168 F length0 text1 x1 token0 start0 end0
    else
      rd text1 900 end0 fun a6 =>
      bd1 (f_X5_kindOf F a6) fun r7 =>
      if r7 = token0 then
        k121 (x1, token0, start0, end0 + 1)
      else
        f_X5_advance_b168 F length0 text1 x1 token0 start0 end0
def f_X5_advance_L121 (F : Nat) (length0 : Int32) (text1 : Nat → Int32) (z : Int32 × Int32 × Int32 × Int32) : Option (Int32 × Int32 × Int32) := lp (fun k z => f_X5_advance_h121 F length0 text1 k z.1 z.2.1 z.2.2.1 z.2.2.2) F z
def f_X5_advance_b120 (F : Nat) (length0 : Int32) (text1 : Nat → Int32) (s0 token0 start0 end0 : Int32) : Option (Int32 × Int32 × Int32) :=
  f_X5_advance_L121 F length0 text1 (s0, token0, start0, end0)
def f_X5_advance_b115 (F : Nat) (length0 : Int32) (text1 : Nat → Int32) (token0 start0 end0 : Int32) : Option (Int32 × Int32 × Int32) :=
  f_X5_advance_b120 F length0 text1 1 token0 start0 end0
def f_X5_advance_b48 (F : Nat) (length0 : Int32) (text1 : Nat → Int32) (token0 start0 end0 : Int32) : Option (Int32 × Int32 × Int32) :=
  if start0 < length0 then
    rd text1 900 start0 fun a11 =>
    bd1 (f_X5_kindOf F a11) fun r12 =>
    if r12 = 1 then
      f_X5_advance_b115 F length0 text1 r12 start0 (start0 + 1)
    else
      if r12 = 2 then
        f_X5_advance_b115 F length0 text1 r12 start0 (start0 + 1)
      else
        f_X5_advance_b120 F length0 text1 0 r12 start0 (start0 + 1)
  else
    some (0, start0, start0)
def f_X5_advance_h8 (F : Nat) (length0 : Int32) (text1 : Nat → Int32) (k8 : (Int32 × Int32 × Int32) → Option (Int32 × Int32 × Int32)) (token0 start0 end0 : Int32) : Option (Int32 × Int32 × Int32) :=
  if length0 ≤ start0 then
    f_X5_advance_b48 F length0 text1 token0 start0 end0
  else
    rd text1 900 start0 fun a17 =>
    bd1 (f_X5_kindOf F a17) fun r18 =>
    if r18 = 5 then
      k8 (token0, start0 + 1, end0)
    else
      f_X5_advance_b48 F length0 text1 token0 start0 end0
def f_X5_advance_L8 (F : Nat) (length0 : Int32) (text1 : Nat → Int32) (z : Int32 × Int32 × Int32) : Option (Int32 × Int32 × Int32) := lp (fun k z => f_X5_advance_h8 F length0 text1 k z.1 z.2.1 z.2.2) F z
def f_X5_advance (F : Nat) (length0 token0 start0 end0 : Int32) (text1 : Nat → Int32) : Option (Int32 × Int32 × Int32) :=
  f_X5_advance_L8 F length0 text1 (token0, end0, end0)
set_option maxHeartbeats 4000000 in
set_option maxRecDepth 100000 in
theorem c_X5_advance (l : Launch) (g : GT) (F : Nat) (h0 h1 : Nat) (v0_1 v0_3 v0_4 v0_8 v0_9 v0_10 : Value) (length0 token0 start0 end0 : Int32) (text1 : Nat → Int32) (o_token0 o_start0 o_end0 : Int32) (sz : Nat) (hf : f_X5_advance F length0 token0 start0 end0 text1 = some (o_token0, o_start0, o_end0)) : CV l m_X5_advance (rml 1 0 0) g (w_X5_advance g h0 h1 v0_1 v0_3 v0_4 v0_8 v0_9 v0_10 length0 token0 start0 end0 text1) (fun _ => w_X5_advance g h0 h1 v0_1 v0_3 v0_4 v0_8 v0_9 v0_10 length0 o_token0 o_start0 o_end0 text1) sz [.ref h0] := by
  refine en_v (by decide) (Nat.le_of_ble_eq_true rfl) (fun p e s m args below meth c A ls C w hl => ?_)
  have C : Cx p s m args meth c RX5 m_X5_advance g A := C
  have hx := C.1
  have hb : c.code = cX5_advance := C.2.1
  have hl : lv_has ls 2 [(0, .ref h0)] := hl
  obtain ⟨Q, hQ⟩ : ∃ Q, Q = QV below args s g A (fun _ => w_X5_advance g h0 h1 v0_1 v0_3 v0_4 v0_8 v0_9 v0_10 length0 o_token0 o_start0 o_end0 text1) 0 0 := ⟨_, rfl⟩
  suffices hW : W p l e (rml 1 0 0) s m args below meth c s.heap [] 0 0 Q (F0 m 0 ls []) from (by rw [hQ] at hW; exact hW)
  unfold f_X5_advance at hf
  have b203 : ∀ (token0 start0 end0 : Int32) (H : Heap) (locs : List Loc) (ls : Array Slot), f_X5_advance_b203 F length0 text1 token0 start0 end0 = some (o_token0, o_start0, o_end0) → Wd g A (w_X5_advance g h0 h1 v0_1 v0_3 v0_4 v0_8 v0_9 v0_10 length0 token0 start0 end0 text1) s.heap H locs → lv_has ls 2 [] → W p l e (rml 1 0 0) s m args below meth c H locs 0 0 Q (F0 m 203 ls []) := by
    intro token0 start0 end0 H locs ls hf w hl
    unfold f_X5_advance_b203 at hf
    obtain ⟨e1, e2, e3⟩ := tp3 hf
    rw [hQ]
    exact rt_v C w rfl (fun _ => 0) (by rw [← e1, ← e2, ← e3]) dX5_advance_203
  have b195 : ∀ (s0 s1 token0 start0 end0 : Int32) (H : Heap) (locs : List Loc) (ls : Array Slot), f_X5_advance_b195 F length0 text1 s0 s1 token0 start0 end0 = some (o_token0, o_start0, o_end0) → Wd g A (w_X5_advance g h0 h1 v0_1 v0_3 v0_4 v0_8 v0_9 v0_10 length0 token0 start0 end0 text1) s.heap H locs → lv_has ls 2 [(0, .ref h0)] → W p l e (rml 1 0 0) s m args below meth c H locs 0 0 Q (F0 m 195 ls [.int s0, .int s1]) := by
    intro s0 s1 token0 start0 end0 H locs ls hf w hl
    unfold f_X5_advance_b195 at hf
    refine lv_icmp_le (tgt := 203) hx hb dX5_advance_195 (by decide) (fun c1 => ?_) (fun c1 => ?_)
    · replace hf := it_t c1 hf
      exact b203 token0 start0 end0 _ _ _ hf w (lv_sub hl [] rfl)
    · replace hf := it_f c1 hf
      refine lv_aload_n hx hb dX5_advance_198 rfl (lv_at hl 0 rfl) ?_
      refine lv_iconst (v := 4) hx hb dX5_advance_199 (by decide) ?_
      refine p_X5_32 C w 0 rfl (Nat.le_of_ble_eq_true rfl) (ws2 := w_X5_advance g h0 h1 v0_1 v0_3 v0_4 v0_8 v0_9 v0_10 length0 4 start0 end0 text1) rfl dX5_advance_200 (fun H locs w => ?_)
      exact b203 4 start0 end0 _ _ _ hf w (lv_sub hl [] rfl)
  have b168 : ∀ (x1 token0 start0 end0 : Int32) (H : Heap) (locs : List Loc) (ls : Array Slot), f_X5_advance_b168 F length0 text1 x1 token0 start0 end0 = some (o_token0, o_start0, o_end0) → Wd g A (w_X5_advance g h0 h1 v0_1 v0_3 v0_4 v0_8 v0_9 v0_10 length0 token0 start0 end0 text1) s.heap H locs → lv_has ls 2 [(0, .ref h0), (1, .int x1)] → W p l e (rml 1 0 0) s m args below meth c H locs 0 0 Q (F0 m 168 ls []) := by
    intro x1 token0 start0 end0 H locs ls hf w hl
    unfold f_X5_advance_b168 at hf
    refine lv_iload_n hx hb dX5_advance_168 rfl (lv_at hl 1 rfl) ?_
    refine lv_if_eq (tgt := 203) hx hb dX5_advance_169 (by decide) (fun c2 => ?_) (fun c2 => ?_)
    · replace hf := it_t c2 hf
      exact b203 token0 start0 end0 _ _ _ hf w (lv_sub hl [] rfl)
    · replace hf := it_f c2 hf
      refine lv_aload_n hx hb dX5_advance_172 rfl (lv_at hl 0 rfl) ?_
      refine g_X5_38 C w 0 rfl rfl dX5_advance_173 ?_
      refine lv_aload_n hx hb dX5_advance_176 rfl (lv_at hl 0 rfl) ?_
      refine g_X5_35 C w 0 rfl rfl dX5_advance_177 ?_
      refine lv_isub hx hb dX5_advance_180 ?_
      refine lv_aload_n hx hb dX5_advance_181 rfl (lv_at hl 0 rfl) ?_
      refine g_X5_32 C w 0 rfl rfl dX5_advance_182 ?_
      refine lv_iconst (v := 1) hx hb dX5_advance_185 (by decide) ?_
      refine lv_icmp_ne (tgt := 194) hx hb dX5_advance_186 (by decide) (fun c3 => ?_) (fun c3 => ?_)
      · replace hf := it_f c3 hf
        refine lv_iconst (v := 4) hx hb dX5_advance_194 (by decide) ?_
        exact b195 4 (end0 - start0) token0 start0 end0 _ _ _ hf w (lv_sub hl [0] rfl)
      · replace hf := it_t c3 hf
        refine lv_bipush (v := 10) hx hb dX5_advance_189 (by decide) ?_
        refine lv_goto (tgt := 195) hx hb dX5_advance_191 (by decide) ?_
        exact b195 10 (end0 - start0) token0 start0 end0 _ _ _ hf w (lv_sub hl [0] rfl)
  have L121 : ∀ (z : Int32 × Int32 × Int32 × Int32), f_X5_advance_L121 F length0 text1 z = some (o_token0, o_start0, o_end0) → ∀ (H : Heap) (locs : List Loc) (ls : Array Slot), Wd g A (w_X5_advance g h0 h1 v0_1 v0_3 v0_4 v0_8 v0_9 v0_10 length0 z.2.1 z.2.2.1 z.2.2.2 text1) s.heap H locs → lv_has ls 2 [(0, .ref h0), (1, .int z.1)] → W p l e (rml 1 0 0) s m args below meth c H locs 0 0 Q (F0 m 121 ls []) := by
    intro z hf
    refine lp_W (r := (o_token0, o_start0, o_end0)) (fun (z : Int32 × Int32 × Int32 × Int32) => ∀ (H : Heap) (locs : List Loc) (ls : Array Slot), Wd g A (w_X5_advance g h0 h1 v0_1 v0_3 v0_4 v0_8 v0_9 v0_10 length0 z.2.1 z.2.2.1 z.2.2.2 text1) s.heap H locs → lv_has ls 2 [(0, .ref h0), (1, .int z.1)] → W p l e (rml 1 0 0) s m args below meth c H locs 0 0 Q (F0 m 121 ls [])) (fun k121 z ih121 hf => ?_) F z hf
    obtain ⟨x1, token0, start0, end0⟩ := z
    intro H locs ls w hl
    try dsimp only at hf w hl ⊢
    unfold f_X5_advance_h121 at hf
    refine lv_iload_n hx hb dX5_advance_121 rfl (lv_at hl 1 rfl) ?_
    refine lv_if_eq (tgt := 168) hx hb dX5_advance_122 (by decide) (fun c4 => ?_) (fun c4 => ?_)
    · replace hf := it_t c4 hf
      exact b168 x1 token0 start0 end0 _ _ _ hf w (lv_sub hl [0, 1] rfl)
    · replace hf := it_f c4 hf
      refine lv_aload_n hx hb dX5_advance_125 rfl (lv_at hl 0 rfl) ?_
      refine g_X5_38 C w 0 rfl rfl dX5_advance_126 ?_
      refine lv_aload_n hx hb dX5_advance_129 rfl (lv_at hl 0 rfl) ?_
      refine g_X5_19 C w 0 rfl rfl dX5_advance_130 ?_
      refine lv_icmp_ge (tgt := 168) hx hb dX5_advance_133 (by decide) (fun c5 => ?_) (fun c5 => ?_)
      · replace hf := it_t c5 hf
        exact b168 x1 token0 start0 end0 _ _ _ hf w (lv_sub hl [0, 1] rfl)
      · replace hf := it_f c5 hf
        refine lv_aload_n hx hb dX5_advance_136 rfl (lv_at hl 0 rfl) ?_
        refine g_X5_9 C w 0 rfl rfl dX5_advance_137 ?_
        refine lv_aload_n hx hb dX5_advance_140 rfl (lv_at hl 0 rfl) ?_
        refine g_X5_38 C w 0 rfl rfl dX5_advance_141 ?_
        obtain ⟨a6, hia6, haa6, hf⟩ := rd_some hf
        refine ial C w 1 rfl hia6 haa6 dX5_advance_144 ?_
        obtain ⟨r7, hc8, hf⟩ := bd1_some hf
        refine ca_iS C w (wn := fun _ => w_X5_advance g h0 h1 v0_1 v0_3 v0_4 v0_8 v0_9 v0_10 length0 token0 start0 end0 text1) (pm_k [false, false] rfl rfl (fun _ => Nat.le_of_ble_eq_true rfl) (fun _ => rfl)) (c_X5_kindOf l g F a6 r7 _ hc8) k_X5_157 (rm_le (by decide) (by decide)) rfl hl.1 rfl (Nat.le_of_ble_eq_true rfl) dX5_advance_145 ⟨Nat.le_of_ble_eq_true rfl, Nat.le_of_ble_eq_true rfl⟩ (cells2 := 0) (slots2 := 0) ⟨rfl, rfl⟩ (fun _ H locs w => ?_)
        refine lv_aload_n hx hb dX5_advance_148 rfl (lv_at hl 0 rfl) ?_
        refine g_X5_32 C w 0 rfl rfl dX5_advance_149 ?_
        refine lv_icmp_ne (tgt := 168) hx hb dX5_advance_152 (by decide) (fun c9 => ?_) (fun c9 => ?_)
        · replace hf := it_f c9 hf
          exact b168 x1 token0 start0 end0 _ _ _ hf w (lv_sub hl [0, 1] rfl)
        · replace hf := it_t c9 hf
          refine lv_aload_n hx hb dX5_advance_155 rfl (lv_at hl 0 rfl) ?_
          refine lv_dup hx hb dX5_advance_156 rfl ?_
          refine g_X5_38 C w 0 rfl rfl dX5_advance_157 ?_
          refine lv_iconst (v := 1) hx hb dX5_advance_160 (by decide) ?_
          refine lv_iadd hx hb dX5_advance_161 ?_
          refine p_X5_38 C w 0 rfl (Nat.le_of_ble_eq_true rfl) (ws2 := w_X5_advance g h0 h1 v0_1 v0_3 v0_4 v0_8 v0_9 v0_10 length0 token0 start0 (end0 + 1) text1) rfl dX5_advance_162 (fun H locs w => ?_)
          refine lv_goto (tgt := 121) hx hb dX5_advance_165 (by decide) ?_
          exact ih121 (x1, token0, start0, end0 + 1) hf _ _ _ w (lv_sub hl [0, 1] rfl)
  have b120 : ∀ (s0 token0 start0 end0 : Int32) (H : Heap) (locs : List Loc) (ls : Array Slot), f_X5_advance_b120 F length0 text1 s0 token0 start0 end0 = some (o_token0, o_start0, o_end0) → Wd g A (w_X5_advance g h0 h1 v0_1 v0_3 v0_4 v0_8 v0_9 v0_10 length0 token0 start0 end0 text1) s.heap H locs → lv_has ls 2 [(0, .ref h0)] → W p l e (rml 1 0 0) s m args below meth c H locs 0 0 Q (F0 m 120 ls [.int s0]) := by
    intro s0 token0 start0 end0 H locs ls hf w hl
    unfold f_X5_advance_b120 at hf
    refine lv_istore_n (lv' := [(1, .int s0), (0, .ref h0)]) hx hb dX5_advance_120 rfl hl (by decide) rfl (fun ls hl => ?_)
    exact L121 (s0, token0, start0, end0) hf _ _ _ w (lv_sub hl [1, 0] rfl)
  have b115 : ∀ (token0 start0 end0 : Int32) (H : Heap) (locs : List Loc) (ls : Array Slot), f_X5_advance_b115 F length0 text1 token0 start0 end0 = some (o_token0, o_start0, o_end0) → Wd g A (w_X5_advance g h0 h1 v0_1 v0_3 v0_4 v0_8 v0_9 v0_10 length0 token0 start0 end0 text1) s.heap H locs → lv_has ls 2 [(0, .ref h0)] → W p l e (rml 1 0 0) s m args below meth c H locs 0 0 Q (F0 m 115 ls []) := by
    intro token0 start0 end0 H locs ls hf w hl
    unfold f_X5_advance_b115 at hf
    refine lv_iconst (v := 1) hx hb dX5_advance_115 (by decide) ?_
    refine lv_goto (tgt := 120) hx hb dX5_advance_116 (by decide) ?_
    exact b120 1 token0 start0 end0 _ _ _ hf w (lv_sub hl [0] rfl)
  have b48 : ∀ (token0 start0 end0 : Int32) (H : Heap) (locs : List Loc) (ls : Array Slot), f_X5_advance_b48 F length0 text1 token0 start0 end0 = some (o_token0, o_start0, o_end0) → Wd g A (w_X5_advance g h0 h1 v0_1 v0_3 v0_4 v0_8 v0_9 v0_10 length0 token0 start0 end0 text1) s.heap H locs → lv_has ls 2 [(0, .ref h0)] → W p l e (rml 1 0 0) s m args below meth c H locs 0 0 Q (F0 m 48 ls []) := by
    intro token0 start0 end0 H locs ls hf w hl
    unfold f_X5_advance_b48 at hf
    refine lv_aload_n hx hb dX5_advance_48 rfl (lv_at hl 0 rfl) ?_
    refine lv_aload_n hx hb dX5_advance_49 rfl (lv_at hl 0 rfl) ?_
    refine g_X5_35 C w 0 rfl rfl dX5_advance_50 ?_
    refine p_X5_38 C w 0 rfl (Nat.le_of_ble_eq_true rfl) (ws2 := w_X5_advance g h0 h1 v0_1 v0_3 v0_4 v0_8 v0_9 v0_10 length0 token0 start0 start0 text1) rfl dX5_advance_53 (fun H locs w => ?_)
    refine lv_aload_n hx hb dX5_advance_56 rfl (lv_at hl 0 rfl) ?_
    refine g_X5_35 C w 0 rfl rfl dX5_advance_57 ?_
    refine lv_aload_n hx hb dX5_advance_60 rfl (lv_at hl 0 rfl) ?_
    refine g_X5_19 C w 0 rfl rfl dX5_advance_61 ?_
    refine lv_icmp_lt (tgt := 73) hx hb dX5_advance_64 (by decide) (fun c10 => ?_) (fun c10 => ?_)
    · replace hf := it_t c10 hf
      refine lv_aload_n hx hb dX5_advance_73 rfl (lv_at hl 0 rfl) ?_
      refine lv_aload_n hx hb dX5_advance_74 rfl (lv_at hl 0 rfl) ?_
      refine g_X5_9 C w 0 rfl rfl dX5_advance_75 ?_
      refine lv_aload_n hx hb dX5_advance_78 rfl (lv_at hl 0 rfl) ?_
      refine g_X5_35 C w 0 rfl rfl dX5_advance_79 ?_
      obtain ⟨a11, hia11, haa11, hf⟩ := rd_some hf
      refine ial C w 1 rfl hia11 haa11 dX5_advance_82 ?_
      obtain ⟨r12, hc13, hf⟩ := bd1_some hf
      refine ca_iS C w (wn := fun _ => w_X5_advance g h0 h1 v0_1 v0_3 v0_4 v0_8 v0_9 v0_10 length0 token0 start0 start0 text1) (pm_k [false, false] rfl rfl (fun _ => Nat.le_of_ble_eq_true rfl) (fun _ => rfl)) (c_X5_kindOf l g F a11 r12 _ hc13) k_X5_157 (rm_le (by decide) (by decide)) rfl hl.1 rfl (Nat.le_of_ble_eq_true rfl) dX5_advance_83 ⟨Nat.le_of_ble_eq_true rfl, Nat.le_of_ble_eq_true rfl⟩ (cells2 := 0) (slots2 := 0) ⟨rfl, rfl⟩ (fun _ H locs w => ?_)
      refine p_X5_32 C w 0 rfl (Nat.le_of_ble_eq_true rfl) (ws2 := w_X5_advance g h0 h1 v0_1 v0_3 v0_4 v0_8 v0_9 v0_10 length0 r12 start0 start0 text1) rfl dX5_advance_86 (fun H locs w => ?_)
      refine lv_aload_n hx hb dX5_advance_89 rfl (lv_at hl 0 rfl) ?_
      refine lv_dup hx hb dX5_advance_90 rfl ?_
      refine g_X5_38 C w 0 rfl rfl dX5_advance_91 ?_
      refine lv_iconst (v := 1) hx hb dX5_advance_94 (by decide) ?_
      refine lv_iadd hx hb dX5_advance_95 ?_
      refine p_X5_38 C w 0 rfl (Nat.le_of_ble_eq_true rfl) (ws2 := w_X5_advance g h0 h1 v0_1 v0_3 v0_4 v0_8 v0_9 v0_10 length0 r12 start0 (start0 + 1) text1) rfl dX5_advance_96 (fun H locs w => ?_)
      refine lv_aload_n hx hb dX5_advance_99 rfl (lv_at hl 0 rfl) ?_
      refine g_X5_32 C w 0 rfl rfl dX5_advance_100 ?_
      refine lv_iconst (v := 1) hx hb dX5_advance_103 (by decide) ?_
      refine lv_icmp_eq (tgt := 115) hx hb dX5_advance_104 (by decide) (fun c14 => ?_) (fun c14 => ?_)
      · replace hf := it_t c14 hf
        exact b115 r12 start0 (start0 + 1) _ _ _ hf w (lv_sub hl [0] rfl)
      · replace hf := it_f c14 hf
        refine lv_aload_n hx hb dX5_advance_107 rfl (lv_at hl 0 rfl) ?_
        refine g_X5_32 C w 0 rfl rfl dX5_advance_108 ?_
        refine lv_iconst (v := 2) hx hb dX5_advance_111 (by decide) ?_
        refine lv_icmp_ne (tgt := 119) hx hb dX5_advance_112 (by decide) (fun c15 => ?_) (fun c15 => ?_)
        · replace hf := it_f c15 hf
          refine lv_iconst (v := 0) hx hb dX5_advance_119 (by decide) ?_
          exact b120 0 r12 start0 (start0 + 1) _ _ _ hf w (lv_sub hl [0] rfl)
        · replace hf := it_t c15 hf
          exact b115 r12 start0 (start0 + 1) _ _ _ hf w (lv_sub hl [0] rfl)
    · replace hf := it_f c10 hf
      refine lv_aload_n hx hb dX5_advance_67 rfl (lv_at hl 0 rfl) ?_
      refine lv_iconst (v := 0) hx hb dX5_advance_68 (by decide) ?_
      refine p_X5_32 C w 0 rfl (Nat.le_of_ble_eq_true rfl) (ws2 := w_X5_advance g h0 h1 v0_1 v0_3 v0_4 v0_8 v0_9 v0_10 length0 0 start0 start0 text1) rfl dX5_advance_69 (fun H locs w => ?_)
      obtain ⟨e1, e2, e3⟩ := tp3 hf
      rw [hQ]
      exact rt_v C w rfl (fun _ => 0) (by rw [← e1, ← e2, ← e3]) dX5_advance_72
  have L8 : ∀ (z : Int32 × Int32 × Int32), f_X5_advance_L8 F length0 text1 z = some (o_token0, o_start0, o_end0) → ∀ (H : Heap) (locs : List Loc) (ls : Array Slot), Wd g A (w_X5_advance g h0 h1 v0_1 v0_3 v0_4 v0_8 v0_9 v0_10 length0 z.1 z.2.1 z.2.2 text1) s.heap H locs → lv_has ls 2 [(0, .ref h0)] → W p l e (rml 1 0 0) s m args below meth c H locs 0 0 Q (F0 m 8 ls []) := by
    intro z hf
    refine lp_W (r := (o_token0, o_start0, o_end0)) (fun (z : Int32 × Int32 × Int32) => ∀ (H : Heap) (locs : List Loc) (ls : Array Slot), Wd g A (w_X5_advance g h0 h1 v0_1 v0_3 v0_4 v0_8 v0_9 v0_10 length0 z.1 z.2.1 z.2.2 text1) s.heap H locs → lv_has ls 2 [(0, .ref h0)] → W p l e (rml 1 0 0) s m args below meth c H locs 0 0 Q (F0 m 8 ls [])) (fun k8 z ih8 hf => ?_) F z hf
    obtain ⟨token0, start0, end0⟩ := z
    intro H locs ls w hl
    try dsimp only at hf w hl ⊢
    unfold f_X5_advance_h8 at hf
    refine lv_aload_n hx hb dX5_advance_8 rfl (lv_at hl 0 rfl) ?_
    refine g_X5_35 C w 0 rfl rfl dX5_advance_9 ?_
    refine lv_aload_n hx hb dX5_advance_12 rfl (lv_at hl 0 rfl) ?_
    refine g_X5_19 C w 0 rfl rfl dX5_advance_13 ?_
    refine lv_icmp_ge (tgt := 48) hx hb dX5_advance_16 (by decide) (fun c16 => ?_) (fun c16 => ?_)
    · replace hf := it_t c16 hf
      exact b48 token0 start0 end0 _ _ _ hf w (lv_sub hl [0] rfl)
    · replace hf := it_f c16 hf
      refine lv_aload_n hx hb dX5_advance_19 rfl (lv_at hl 0 rfl) ?_
      refine g_X5_9 C w 0 rfl rfl dX5_advance_20 ?_
      refine lv_aload_n hx hb dX5_advance_23 rfl (lv_at hl 0 rfl) ?_
      refine g_X5_35 C w 0 rfl rfl dX5_advance_24 ?_
      obtain ⟨a17, hia17, haa17, hf⟩ := rd_some hf
      refine ial C w 1 rfl hia17 haa17 dX5_advance_27 ?_
      obtain ⟨r18, hc19, hf⟩ := bd1_some hf
      refine ca_iS C w (wn := fun _ => w_X5_advance g h0 h1 v0_1 v0_3 v0_4 v0_8 v0_9 v0_10 length0 token0 start0 end0 text1) (pm_k [false, false] rfl rfl (fun _ => Nat.le_of_ble_eq_true rfl) (fun _ => rfl)) (c_X5_kindOf l g F a17 r18 _ hc19) k_X5_157 (rm_le (by decide) (by decide)) rfl hl.1 rfl (Nat.le_of_ble_eq_true rfl) dX5_advance_28 ⟨Nat.le_of_ble_eq_true rfl, Nat.le_of_ble_eq_true rfl⟩ (cells2 := 0) (slots2 := 0) ⟨rfl, rfl⟩ (fun _ H locs w => ?_)
      refine lv_iconst (v := 5) hx hb dX5_advance_31 (by decide) ?_
      refine lv_icmp_ne (tgt := 48) hx hb dX5_advance_32 (by decide) (fun c20 => ?_) (fun c20 => ?_)
      · replace hf := it_f c20 hf
        exact b48 token0 start0 end0 _ _ _ hf w (lv_sub hl [0] rfl)
      · replace hf := it_t c20 hf
        refine lv_aload_n hx hb dX5_advance_35 rfl (lv_at hl 0 rfl) ?_
        refine lv_dup hx hb dX5_advance_36 rfl ?_
        refine g_X5_35 C w 0 rfl rfl dX5_advance_37 ?_
        refine lv_iconst (v := 1) hx hb dX5_advance_40 (by decide) ?_
        refine lv_iadd hx hb dX5_advance_41 ?_
        refine p_X5_35 C w 0 rfl (Nat.le_of_ble_eq_true rfl) (ws2 := w_X5_advance g h0 h1 v0_1 v0_3 v0_4 v0_8 v0_9 v0_10 length0 token0 (start0 + 1) end0 text1) rfl dX5_advance_42 (fun H locs w => ?_)
        refine lv_goto (tgt := 8) hx hb dX5_advance_45 (by decide) ?_
        exact ih8 (token0, start0 + 1, end0) hf _ _ _ w (lv_sub hl [0] rfl)
  refine lv_aload_n hx hb dX5_advance_0 rfl (lv_at hl 0 rfl) ?_
  refine lv_aload_n hx hb dX5_advance_1 rfl (lv_at hl 0 rfl) ?_
  refine g_X5_38 C w 0 rfl rfl dX5_advance_2 ?_
  refine p_X5_35 C w 0 rfl (Nat.le_of_ble_eq_true rfl) (ws2 := w_X5_advance g h0 h1 v0_1 v0_3 v0_4 v0_8 v0_9 v0_10 length0 token0 end0 end0 text1) rfl dX5_advance_5 (fun H locs w => ?_)
  exact L8 (token0, end0, end0) hf _ _ _ w (lv_sub hl [0] rfl)

theorem dX5_isWord_0 : decode cX5_isWord 0 = .ok (.aload_n 0, 1) := by decide +kernel
theorem dX5_isWord_1 : decode cX5_isWord 1 = .ok (.getfield 32, 3) := by decide +kernel
theorem dX5_isWord_4 : decode cX5_isWord 4 = .ok (.iconst 1, 1) := by decide +kernel
theorem dX5_isWord_5 : decode cX5_isWord 5 = .ok (.if_icmp .ne 19, 3) := by decide +kernel
theorem dX5_isWord_8 : decode cX5_isWord 8 = .ok (.aload_n 0, 1) := by decide +kernel
theorem dX5_isWord_9 : decode cX5_isWord 9 = .ok (.getfield 38, 3) := by decide +kernel
theorem dX5_isWord_12 : decode cX5_isWord 12 = .ok (.aload_n 0, 1) := by decide +kernel
theorem dX5_isWord_13 : decode cX5_isWord 13 = .ok (.getfield 35, 3) := by decide +kernel
theorem dX5_isWord_16 : decode cX5_isWord 16 = .ok (.isub, 1) := by decide +kernel
theorem dX5_isWord_17 : decode cX5_isWord 17 = .ok (.aload_n 1, 1) := by decide +kernel
theorem dX5_isWord_18 : decode cX5_isWord 18 = .ok (.invokevirtual 160, 3) := by decide +kernel
theorem dX5_isWord_21 : decode cX5_isWord 21 = .ok (.if_icmp .eq 5, 3) := by decide +kernel
theorem dX5_isWord_24 : decode cX5_isWord 24 = .ok (.iconst 0, 1) := by decide +kernel
theorem dX5_isWord_25 : decode cX5_isWord 25 = .ok (.ireturn, 1) := by decide +kernel
theorem dX5_isWord_26 : decode cX5_isWord 26 = .ok (.iconst 0, 1) := by decide +kernel
theorem dX5_isWord_27 : decode cX5_isWord 27 = .ok (.istore_n 2, 1) := by decide +kernel
theorem dX5_isWord_28 : decode cX5_isWord 28 = .ok (.iload_n 2, 1) := by decide +kernel
theorem dX5_isWord_29 : decode cX5_isWord 29 = .ok (.aload_n 1, 1) := by decide +kernel
theorem dX5_isWord_30 : decode cX5_isWord 30 = .ok (.invokevirtual 160, 3) := by decide +kernel
theorem dX5_isWord_33 : decode cX5_isWord 33 = .ok (.if_icmp .ge 30, 3) := by decide +kernel
theorem dX5_isWord_36 : decode cX5_isWord 36 = .ok (.aload_n 0, 1) := by decide +kernel
theorem dX5_isWord_37 : decode cX5_isWord 37 = .ok (.getfield 9, 3) := by decide +kernel
theorem dX5_isWord_40 : decode cX5_isWord 40 = .ok (.aload_n 0, 1) := by decide +kernel
theorem dX5_isWord_41 : decode cX5_isWord 41 = .ok (.getfield 35, 3) := by decide +kernel
theorem dX5_isWord_44 : decode cX5_isWord 44 = .ok (.iload_n 2, 1) := by decide +kernel
theorem dX5_isWord_45 : decode cX5_isWord 45 = .ok (.iadd, 1) := by decide +kernel
theorem dX5_isWord_46 : decode cX5_isWord 46 = .ok (.iaload, 1) := by decide +kernel
theorem dX5_isWord_47 : decode cX5_isWord 47 = .ok (.aload_n 1, 1) := by decide +kernel
theorem dX5_isWord_48 : decode cX5_isWord 48 = .ok (.iload_n 2, 1) := by decide +kernel
theorem dX5_isWord_49 : decode cX5_isWord 49 = .ok (.invokevirtual 164, 3) := by decide +kernel
theorem dX5_isWord_52 : decode cX5_isWord 52 = .ok (.if_icmp .eq 5, 3) := by decide +kernel
theorem dX5_isWord_55 : decode cX5_isWord 55 = .ok (.iconst 0, 1) := by decide +kernel
theorem dX5_isWord_56 : decode cX5_isWord 56 = .ok (.ireturn, 1) := by decide +kernel
theorem dX5_isWord_57 : decode cX5_isWord 57 = .ok (.iinc 2 1, 3) := by decide +kernel
theorem dX5_isWord_60 : decode cX5_isWord 60 = .ok (.goto (-32), 3) := by decide +kernel
theorem dX5_isWord_63 : decode cX5_isWord 63 = .ok (.iconst 1, 1) := by decide +kernel
theorem dX5_isWord_64 : decode cX5_isWord 64 = .ok (.ireturn, 1) := by decide +kernel
abbrev m_X5_isWord : MD := (yX5_isWord, cX5_isWord, 3, (some .boolean))
theorem q_631 : Cond.code yJ0_length_8abf5 cJ0_length_8abf5 1 (some .int) ∈ TS := ts_t 631 (by decide +kernel) (by decide +kernel)
theorem q_628 : Cond.methodLink RX5 160 yJ0_length_8abf5 ∈ TS := ts_t 628 (by decide +kernel) (by decide +kernel)
theorem q_629 : Cond.instanceMethod yJ0_length_8abf5 ∈ TS := ts_t 629 (by decide +kernel) (by decide +kernel)
theorem q_630 : Cond.selects yJ0_length_8abf5.cls yJ0_length_8abf5 yJ0_length_8abf5 ∈ TS := ts_t 630 (by decide +kernel) (by decide +kernel)
theorem k_X5_160 : LkV RX5 160 m_J0_length_8abf5 0 := ⟨q_628, q_629, q_630, ⟨q_18, q_631, by decide, by decide, by decide +kernel⟩⟩
theorem q_641 : Cond.code yJ0_charAt_5068e cJ0_charAt_5068e 2 (some .char) ∈ TS := ts_t 641 (by decide +kernel) (by decide +kernel)
theorem q_638 : Cond.methodLink RX5 164 yJ0_charAt_5068e ∈ TS := ts_t 638 (by decide +kernel) (by decide +kernel)
theorem q_639 : Cond.instanceMethod yJ0_charAt_5068e ∈ TS := ts_t 639 (by decide +kernel) (by decide +kernel)
theorem q_640 : Cond.selects yJ0_charAt_5068e.cls yJ0_charAt_5068e yJ0_charAt_5068e ∈ TS := ts_t 640 (by decide +kernel) (by decide +kernel)
theorem k_X5_164 : LkV RX5 164 m_J0_charAt_5068e 1 := ⟨q_638, q_639, q_640, ⟨q_18, q_641, by decide, by decide, by decide +kernel⟩⟩
abbrev w_X5_isWord (g : GT) (h0 h1 : Nat) (v0_1 v0_2 v0_3 v0_4 v0_8 v0_9 v0_10 : Value) (token0 start0 end0 : Int32) (text1 : Nat → Int32) : va_W := [(h0, .inr (5, [.ref h1, v0_1, v0_2, v0_3, v0_4, .int token0, .int start0, .int end0, v0_8, v0_9, v0_10])), (h1, aI g 900 text1)]
def f_X5_isWord_h28 (F j1 : Nat) (token0 start0 end0 : Int32) (text1 : Nat → Int32) (k28 : (Int32) → Option (Int32)) (x2 : Int32) : Option (Int32) :=
  if (nI (SLEN.getD j1 0)) ≤ x2 then
    gd ((1 : Int32) = 0 ∨ (1 : Int32) = 1) (some 1)
  else
    rd text1 900 (start0 + x2) fun a2 =>
    rd (sch j1) (SLEN.getD j1 0) x2 fun a3 =>
    if a2 = a3 then
      k28 (x2 + 1)
    else
      gd ((0 : Int32) = 0 ∨ (0 : Int32) = 1) (some 0)
def f_X5_isWord_L28 (F j1 : Nat) (token0 start0 end0 : Int32) (text1 : Nat → Int32) (z : Int32) : Option (Int32) := lp (fun k z => f_X5_isWord_h28 F j1 token0 start0 end0 text1 k z) F z
def f_X5_isWord_b24 (F j1 : Nat) (token0 start0 end0 : Int32) (text1 : Nat → Int32) : Option (Int32) :=
  gd ((0 : Int32) = 0 ∨ (0 : Int32) = 1) (some 0)
def f_X5_isWord (F j1 : Nat) (token0 start0 end0 : Int32) (text1 : Nat → Int32) : Option (Int32) :=
  if token0 = 1 then
    if (end0 - start0) = (nI (SLEN.getD j1 0)) then
      f_X5_isWord_L28 F j1 token0 start0 end0 text1 0
    else
      f_X5_isWord_b24 F j1 token0 start0 end0 text1
  else
    f_X5_isWord_b24 F j1 token0 start0 end0 text1
set_option maxHeartbeats 4000000 in
set_option maxRecDepth 100000 in
theorem c_X5_isWord (l : Launch) (g : GT) (F : Nat) (h0 h1 : Nat) (v0_1 v0_2 v0_3 v0_4 v0_8 v0_9 v0_10 : Value) (j1 : Nat) (token0 start0 end0 : Int32) (text1 : Nat → Int32) (r : Int32) (hj1 : j1 < 7) (sz : Nat) (hf : f_X5_isWord F j1 token0 start0 end0 text1 = some r) : CI l m_X5_isWord (rml 4 0 0) g (w_X5_isWord g h0 h1 v0_1 v0_2 v0_3 v0_4 v0_8 v0_9 v0_10 token0 start0 end0 text1) (fun _ => w_X5_isWord g h0 h1 v0_1 v0_2 v0_3 v0_4 v0_8 v0_9 v0_10 token0 start0 end0 text1) sz [.ref h0, .ref (sK g j1)] r := by
  refine en_i (by decide) (Nat.le_of_ble_eq_true rfl) (fun p e s m args below meth c A ls C w hl => ?_)
  have C : Cx p s m args meth c RX5 m_X5_isWord g A := C
  have hx := C.1
  have hb : c.code = cX5_isWord := C.2.1
  have hl : lv_has ls 3 [(0, .ref h0), (1, .ref (sK g j1))] := hl
  obtain ⟨Q, hQ⟩ : ∃ Q, Q = QI below args s g A (fun _ => w_X5_isWord g h0 h1 v0_1 v0_2 v0_3 v0_4 v0_8 v0_9 v0_10 token0 start0 end0 text1) r 0 0 := ⟨_, rfl⟩
  suffices hW : W p l e (rml 4 0 0) s m args below meth c s.heap [] 0 0 Q (F0 m 0 ls []) from (by rw [hQ] at hW; exact hW)
  unfold f_X5_isWord at hf
  have L28 : ∀ (z : Int32), f_X5_isWord_L28 F j1 token0 start0 end0 text1 z = some r → ∀ (H : Heap) (locs : List Loc) (ls : Array Slot), Wd g A (w_X5_isWord g h0 h1 v0_1 v0_2 v0_3 v0_4 v0_8 v0_9 v0_10 token0 start0 end0 text1) s.heap H locs → lv_has ls 3 [(0, .ref h0), (1, .ref (sK g j1)), (2, .int z)] → W p l e (rml 4 0 0) s m args below meth c H locs 0 0 Q (F0 m 28 ls []) := by
    intro z hf
    refine lp_W (r := r) (fun (z : Int32) => ∀ (H : Heap) (locs : List Loc) (ls : Array Slot), Wd g A (w_X5_isWord g h0 h1 v0_1 v0_2 v0_3 v0_4 v0_8 v0_9 v0_10 token0 start0 end0 text1) s.heap H locs → lv_has ls 3 [(0, .ref h0), (1, .ref (sK g j1)), (2, .int z)] → W p l e (rml 4 0 0) s m args below meth c H locs 0 0 Q (F0 m 28 ls [])) (fun k28 z ih28 hf => ?_) F z hf
    obtain ⟨x2, rfl⟩ : ∃ y, y = z := ⟨_, rfl⟩
    intro H locs ls w hl
    try dsimp only at hf w hl ⊢
    unfold f_X5_isWord_h28 at hf
    refine lv_iload_n hx hb dX5_isWord_28 rfl (lv_at hl 2 rfl) ?_
    refine lv_aload_n hx hb dX5_isWord_29 rfl (lv_at hl 1 rfl) ?_
    refine ca_iX C w (wn := fun _ => w_X5_isWord g h0 h1 v0_1 v0_2 v0_3 v0_4 v0_8 v0_9 v0_10 token0 start0 end0 text1) pm_e (c_J0_length_8abf5 l g j1 hj1 _) k_X5_160 (rm_le (by decide) (by decide)) (vk_recv C.2.2.2.2.2.2.2.1.2.2.2.2.1 hj1 w.2.2) rfl hl.1 rfl (Nat.le_of_ble_eq_true rfl) dX5_isWord_30 ⟨Nat.le_of_ble_eq_true rfl, Nat.le_of_ble_eq_true rfl⟩ (cells2 := 0) (slots2 := 0) ⟨rfl, rfl⟩ (fun _ H locs w => ?_)
    refine lv_icmp_ge (tgt := 63) hx hb dX5_isWord_33 (by decide) (fun c1 => ?_) (fun c1 => ?_)
    · replace hf := it_t c1 hf
      refine lv_iconst (v := 1) hx hb dX5_isWord_63 (by decide) ?_
      obtain ⟨h01, hf⟩ := gd_some hf
      obtain e1 := tp1 hf
      rw [hQ]
      exact rt_z C w rfl h01 (fun _ => 0) rfl e1 dX5_isWord_64
    · replace hf := it_f c1 hf
      refine lv_aload_n hx hb dX5_isWord_36 rfl (lv_at hl 0 rfl) ?_
      refine g_X5_9 C w 0 rfl rfl dX5_isWord_37 ?_
      refine lv_aload_n hx hb dX5_isWord_40 rfl (lv_at hl 0 rfl) ?_
      refine g_X5_35 C w 0 rfl rfl dX5_isWord_41 ?_
      refine lv_iload_n hx hb dX5_isWord_44 rfl (lv_at hl 2 rfl) ?_
      refine lv_iadd hx hb dX5_isWord_45 ?_
      obtain ⟨a2, hia2, haa2, hf⟩ := rd_some hf
      refine ial C w 1 rfl hia2 haa2 dX5_isWord_46 ?_
      refine lv_aload_n hx hb dX5_isWord_47 rfl (lv_at hl 1 rfl) ?_
      refine lv_iload_n hx hb dX5_isWord_48 rfl (lv_at hl 2 rfl) ?_
      obtain ⟨a3, hia3, haa3, hf⟩ := rd_some hf
      refine ca_iX C w (wn := fun _ => w_X5_isWord g h0 h1 v0_1 v0_2 v0_3 v0_4 v0_8 v0_9 v0_10 token0 start0 end0 text1) pm_e (c_J0_charAt_5068e l g j1 hj1 x2 hia3 _) k_X5_164 (rm_le (by decide) (by decide)) (vk_recv C.2.2.2.2.2.2.2.1.2.2.2.2.1 hj1 w.2.2) rfl hl.1 rfl (Nat.le_of_ble_eq_true rfl) dX5_isWord_49 ⟨Nat.le_of_ble_eq_true rfl, Nat.le_of_ble_eq_true rfl⟩ (cells2 := 0) (slots2 := 0) ⟨rfl, rfl⟩ (fun _ H locs w => ?_)
      rw [← haa3]
      refine lv_icmp_eq (tgt := 57) hx hb dX5_isWord_52 (by decide) (fun c4 => ?_) (fun c4 => ?_)
      · replace hf := it_t c4 hf
        refine lv_iinc (v := x2 + 1) (lv' := [(2, .int (x2 + 1)), (0, .ref h0), (1, .ref (sK g j1))]) hx hb dX5_isWord_57 hl (k := 2) rfl rfl (by decide) rfl (fun ls hl => ?_)
        refine lv_goto (tgt := 28) hx hb dX5_isWord_60 (by decide) ?_
        exact ih28 (x2 + 1) hf _ _ _ w (lv_sub hl [1, 2, 0] rfl)
      · replace hf := it_f c4 hf
        refine lv_iconst (v := 0) hx hb dX5_isWord_55 (by decide) ?_
        obtain ⟨h01, hf⟩ := gd_some hf
        obtain e1 := tp1 hf
        rw [hQ]
        exact rt_z C w rfl h01 (fun _ => 0) rfl e1 dX5_isWord_56
  have b24 : ∀ (H : Heap) (locs : List Loc) (ls : Array Slot), f_X5_isWord_b24 F j1 token0 start0 end0 text1 = some r → Wd g A (w_X5_isWord g h0 h1 v0_1 v0_2 v0_3 v0_4 v0_8 v0_9 v0_10 token0 start0 end0 text1) s.heap H locs → lv_has ls 3 [] → W p l e (rml 4 0 0) s m args below meth c H locs 0 0 Q (F0 m 24 ls []) := by
    intro  H locs ls hf w hl
    unfold f_X5_isWord_b24 at hf
    refine lv_iconst (v := 0) hx hb dX5_isWord_24 (by decide) ?_
    obtain ⟨h01, hf⟩ := gd_some hf
    obtain e1 := tp1 hf
    rw [hQ]
    exact rt_z C w rfl h01 (fun _ => 0) rfl e1 dX5_isWord_25
  refine lv_aload_n hx hb dX5_isWord_0 rfl (lv_at hl 0 rfl) ?_
  refine g_X5_32 C w 0 rfl rfl dX5_isWord_1 ?_
  refine lv_iconst (v := 1) hx hb dX5_isWord_4 (by decide) ?_
  refine lv_icmp_ne (tgt := 24) hx hb dX5_isWord_5 (by decide) (fun c5 => ?_) (fun c5 => ?_)
  · replace hf := it_f c5 hf
    exact b24  _ _ _ hf w (lv_sub hl [] rfl)
  · replace hf := it_t c5 hf
    refine lv_aload_n hx hb dX5_isWord_8 rfl (lv_at hl 0 rfl) ?_
    refine g_X5_38 C w 0 rfl rfl dX5_isWord_9 ?_
    refine lv_aload_n hx hb dX5_isWord_12 rfl (lv_at hl 0 rfl) ?_
    refine g_X5_35 C w 0 rfl rfl dX5_isWord_13 ?_
    refine lv_isub hx hb dX5_isWord_16 ?_
    refine lv_aload_n hx hb dX5_isWord_17 rfl (lv_at hl 1 rfl) ?_
    refine ca_iX C w (wn := fun _ => w_X5_isWord g h0 h1 v0_1 v0_2 v0_3 v0_4 v0_8 v0_9 v0_10 token0 start0 end0 text1) pm_e (c_J0_length_8abf5 l g j1 hj1 _) k_X5_160 (rm_le (by decide) (by decide)) (vk_recv C.2.2.2.2.2.2.2.1.2.2.2.2.1 hj1 w.2.2) rfl hl.1 rfl (Nat.le_of_ble_eq_true rfl) dX5_isWord_18 ⟨Nat.le_of_ble_eq_true rfl, Nat.le_of_ble_eq_true rfl⟩ (cells2 := 0) (slots2 := 0) ⟨rfl, rfl⟩ (fun _ H locs w => ?_)
    refine lv_icmp_eq (tgt := 26) hx hb dX5_isWord_21 (by decide) (fun c6 => ?_) (fun c6 => ?_)
    · replace hf := it_t c6 hf
      refine lv_iconst (v := 0) hx hb dX5_isWord_26 (by decide) ?_
      refine lv_istore_n (lv' := [(2, .int 0), (0, .ref h0), (1, .ref (sK g j1))]) hx hb dX5_isWord_27 rfl hl (by decide) rfl (fun ls hl => ?_)
      exact L28 0 hf _ _ _ w (lv_sub hl [1, 2, 0] rfl)
    · replace hf := it_f c6 hf
      exact b24  _ _ _ hf w (lv_sub hl [] rfl)

theorem dX5_fail_0 : decode cX5_fail 0 = .ok (.aload_n 0, 1) := by decide +kernel
theorem dX5_fail_1 : decode cX5_fail 1 = .ok (.getfield 29, 3) := by decide +kernel
theorem dX5_fail_4 : decode cX5_fail 4 = .ok (.ifCond .ne 16, 3) := by decide +kernel
theorem dX5_fail_7 : decode cX5_fail 7 = .ok (.aload_n 0, 1) := by decide +kernel
theorem dX5_fail_8 : decode cX5_fail 8 = .ok (.bipush 8, 2) := by decide +kernel
theorem dX5_fail_10 : decode cX5_fail 10 = .ok (.aload_n 0, 1) := by decide +kernel
theorem dX5_fail_11 : decode cX5_fail 11 = .ok (.getfield 35, 3) := by decide +kernel
theorem dX5_fail_14 : decode cX5_fail 14 = .ok (.imul, 1) := by decide +kernel
theorem dX5_fail_15 : decode cX5_fail 15 = .ok (.iload_n 1, 1) := by decide +kernel
theorem dX5_fail_16 : decode cX5_fail 16 = .ok (.iadd, 1) := by decide +kernel
theorem dX5_fail_17 : decode cX5_fail 17 = .ok (.putfield 29, 3) := by decide +kernel
theorem dX5_fail_20 : decode cX5_fail 20 = .ok (.return_, 1) := by decide +kernel
abbrev m_X5_fail : MD := (yX5_fail, cX5_fail, 2, none)
theorem g_X5_29 {p : Program} {l : Launch} {e : Env} {R : Room} {s : State} {m : MethodId} {args : Array Value} {below : List Frame} {meth : Method} {c : Code} {H : Heap} {locs : List Loc} {cells slots : Nat} {Q : State → Prop} {d : MD} {g : GT} {A : Nat → Prop} {ws : va_W} {pc : Nat} {ls : Array Slot} {rest : List Value} (C : Cx p s m args meth c RX5 d g A) (w : Wd g A ws s.heap H locs) (q0 : Nat) {a : Nat} {fs : List Value} {v : Value} (he : ws[q0]? = some (a, .inr (5, fs))) (hv : fs[4]? = some v) (hd : decode d.2.1 pc = .ok (.getfield 29, 3)) (kk : W p l e R s m args below meth c H locs cells slots Q (F0 m (pc + 3) ls (v :: rest))) : W p l e R s m args below meth c H locs cells slots Q (F0 m pc ls (.ref a :: rest)) := fg C w inX5s (ref := RX5) rfl 4 (by decide) (ts_t (w := Cond.fieldLink RX5 29 RX5 (TX5 4).2.1 (TX5 4).2.2.1) 107 (by decide +kernel) (by decide +kernel)) rfl q0 he hv hd kk
theorem p_X5_29 {p : Program} {l : Launch} {e : Env} {R : Room} {s : State} {m : MethodId} {args : Array Value} {below : List Frame} {meth : Method} {c : Code} {H : Heap} {locs : List Loc} {cells slots : Nat} {Q : State → Prop} {d : MD} {g : GT} {A : Nat → Prop} {ws : va_W} {pc : Nat} {ls : Array Slot} {rest : List Value} (C : Cx p s m args meth c RX5 d g A) (w : Wd g A ws s.heap H locs) (q0 : Nat) {a : Nat} {fs : List Value} {x : Int32} (he : ws[q0]? = some (a, .inr (5, fs))) (hlt : 4 < fs.length) {ws2 : va_W} (h2 : ws.set q0 (a, .inr (5, fs.set 4 (.int x))) = ws2) (hd : decode d.2.1 pc = .ok (.putfield 29, 3)) (kk : ∀ (H1 : Heap) (locs1 : List Loc), Wd g A ws2 s.heap H1 locs1 → W p l e R s m args below meth c H1 locs1 cells slots Q (F0 m (pc + 3) ls rest)) : W p l e R s m args below meth c H locs cells slots Q (F0 m pc ls (.int x :: .ref a :: rest)) := fp C w inX5s tyX5_ok nmX5 (ref := RX5) rfl 4 (by decide) (ts_t (w := Cond.fieldLink RX5 29 RX5 (TX5 4).2.1 (TX5 4).2.2.1) 107 (by decide +kernel) (by decide +kernel)) rfl rfl q0 he rfl rfl hlt h2 hd kk
abbrev w_X5_fail (g : GT) (h0 : Nat) (v0_0 v0_1 v0_2 v0_3 v0_5 v0_7 v0_8 v0_9 v0_10 : Value) (failure0 start0 : Int32) : va_W := [(h0, .inr (5, [v0_0, v0_1, v0_2, v0_3, .int failure0, v0_5, .int start0, v0_7, v0_8, v0_9, v0_10]))]
def f_X5_fail_b20 (F : Nat) (start0 failure0 : Int32) : Option (Int32) :=
  some failure0
def f_X5_fail (F : Nat) (p1 failure0 start0 : Int32) : Option (Int32) :=
  if failure0 = 0 then
    f_X5_fail_b20 F start0 ((8 * start0) + p1)
  else
    f_X5_fail_b20 F start0 failure0
set_option maxHeartbeats 4000000 in
set_option maxRecDepth 100000 in
theorem c_X5_fail (l : Launch) (g : GT) (F : Nat) (h0 : Nat) (v0_0 v0_1 v0_2 v0_3 v0_5 v0_7 v0_8 v0_9 v0_10 : Value) (p1 failure0 start0 : Int32) (o_failure0 : Int32) (sz : Nat) (hf : f_X5_fail F p1 failure0 start0 = some o_failure0) : CV l m_X5_fail (rml 0 0 0) g (w_X5_fail g h0 v0_0 v0_1 v0_2 v0_3 v0_5 v0_7 v0_8 v0_9 v0_10 failure0 start0) (fun _ => w_X5_fail g h0 v0_0 v0_1 v0_2 v0_3 v0_5 v0_7 v0_8 v0_9 v0_10 o_failure0 start0) sz [.ref h0, .int p1] := by
  refine en_v (by decide) (Nat.le_of_ble_eq_true rfl) (fun p e s m args below meth c A ls C w hl => ?_)
  have C : Cx p s m args meth c RX5 m_X5_fail g A := C
  have hx := C.1
  have hb : c.code = cX5_fail := C.2.1
  have hl : lv_has ls 2 [(0, .ref h0), (1, .int p1)] := hl
  obtain ⟨Q, hQ⟩ : ∃ Q, Q = QV below args s g A (fun _ => w_X5_fail g h0 v0_0 v0_1 v0_2 v0_3 v0_5 v0_7 v0_8 v0_9 v0_10 o_failure0 start0) 0 0 := ⟨_, rfl⟩
  suffices hW : W p l e (rml 0 0 0) s m args below meth c s.heap [] 0 0 Q (F0 m 0 ls []) from (by rw [hQ] at hW; exact hW)
  unfold f_X5_fail at hf
  have b20 : ∀ (failure0 : Int32) (H : Heap) (locs : List Loc) (ls : Array Slot), f_X5_fail_b20 F start0 failure0 = some o_failure0 → Wd g A (w_X5_fail g h0 v0_0 v0_1 v0_2 v0_3 v0_5 v0_7 v0_8 v0_9 v0_10 failure0 start0) s.heap H locs → lv_has ls 2 [] → W p l e (rml 0 0 0) s m args below meth c H locs 0 0 Q (F0 m 20 ls []) := by
    intro failure0 H locs ls hf w hl
    unfold f_X5_fail_b20 at hf
    obtain e1 := tp1 hf
    rw [hQ]
    exact rt_v C w rfl (fun _ => 0) (by rw [← e1]) dX5_fail_20
  refine lv_aload_n hx hb dX5_fail_0 rfl (lv_at hl 0 rfl) ?_
  refine g_X5_29 C w 0 rfl rfl dX5_fail_1 ?_
  refine lv_if_ne (tgt := 20) hx hb dX5_fail_4 (by decide) (fun c1 => ?_) (fun c1 => ?_)
  · replace hf := it_f c1 hf
    exact b20 failure0 _ _ _ hf w (lv_sub hl [] rfl)
  · replace hf := it_t c1 hf
    refine lv_aload_n hx hb dX5_fail_7 rfl (lv_at hl 0 rfl) ?_
    refine lv_bipush (v := 8) hx hb dX5_fail_8 (by decide) ?_
    refine lv_aload_n hx hb dX5_fail_10 rfl (lv_at hl 0 rfl) ?_
    refine g_X5_35 C w 0 rfl rfl dX5_fail_11 ?_
    refine lv_imul hx hb dX5_fail_14 ?_
    refine lv_iload_n hx hb dX5_fail_15 rfl (lv_at hl 1 rfl) ?_
    refine lv_iadd hx hb dX5_fail_16 ?_
    refine p_X5_29 C w 0 rfl (Nat.le_of_ble_eq_true rfl) (ws2 := w_X5_fail g h0 v0_0 v0_1 v0_2 v0_3 v0_5 v0_7 v0_8 v0_9 v0_10 ((8 * start0) + p1) start0) rfl dX5_fail_17 (fun H locs w => ?_)
    exact b20 ((8 * start0) + p1) _ _ _ hf w (lv_sub hl [] rfl)

theorem dX5_readNumber_0 : decode cX5_readNumber 0 = .ok (.aload_n 0, 1) := by decide +kernel
theorem dX5_readNumber_1 : decode cX5_readNumber 1 = .ok (.invokevirtual 63, 3) := by decide +kernel
theorem dX5_readNumber_4 : decode cX5_readNumber 4 = .ok (.aload_n 0, 1) := by decide +kernel
theorem dX5_readNumber_5 : decode cX5_readNumber 5 = .ok (.getfield 32, 3) := by decide +kernel
theorem dX5_readNumber_8 : decode cX5_readNumber 8 = .ok (.iconst 2, 1) := by decide +kernel
theorem dX5_readNumber_9 : decode cX5_readNumber 9 = .ok (.if_icmp .eq 10, 3) := by decide +kernel
theorem dX5_readNumber_12 : decode cX5_readNumber 12 = .ok (.aload_n 0, 1) := by decide +kernel
theorem dX5_readNumber_13 : decode cX5_readNumber 13 = .ok (.iconst 1, 1) := by decide +kernel
theorem dX5_readNumber_14 : decode cX5_readNumber 14 = .ok (.invokevirtual 78, 3) := by decide +kernel
theorem dX5_readNumber_17 : decode cX5_readNumber 17 = .ok (.iconst (-1), 1) := by decide +kernel
theorem dX5_readNumber_18 : decode cX5_readNumber 18 = .ok (.ireturn, 1) := by decide +kernel
theorem dX5_readNumber_19 : decode cX5_readNumber 19 = .ok (.iconst 0, 1) := by decide +kernel
theorem dX5_readNumber_20 : decode cX5_readNumber 20 = .ok (.istore_n 3, 1) := by decide +kernel
theorem dX5_readNumber_21 : decode cX5_readNumber 21 = .ok (.aload_n 0, 1) := by decide +kernel
theorem dX5_readNumber_22 : decode cX5_readNumber 22 = .ok (.getfield 35, 3) := by decide +kernel
theorem dX5_readNumber_25 : decode cX5_readNumber 25 = .ok (.istore 4, 2) := by decide +kernel
theorem dX5_readNumber_27 : decode cX5_readNumber 27 = .ok (.iload 4, 2) := by decide +kernel
theorem dX5_readNumber_29 : decode cX5_readNumber 29 = .ok (.aload_n 0, 1) := by decide +kernel
theorem dX5_readNumber_30 : decode cX5_readNumber 30 = .ok (.getfield 38, 3) := by decide +kernel
theorem dX5_readNumber_33 : decode cX5_readNumber 33 = .ok (.if_icmp .ge 25, 3) := by decide +kernel
theorem dX5_readNumber_36 : decode cX5_readNumber 36 = .ok (.bipush 10, 2) := by decide +kernel
theorem dX5_readNumber_38 : decode cX5_readNumber 38 = .ok (.iload_n 3, 1) := by decide +kernel
theorem dX5_readNumber_39 : decode cX5_readNumber 39 = .ok (.imul, 1) := by decide +kernel
theorem dX5_readNumber_40 : decode cX5_readNumber 40 = .ok (.aload_n 0, 1) := by decide +kernel
theorem dX5_readNumber_41 : decode cX5_readNumber 41 = .ok (.getfield 9, 3) := by decide +kernel
theorem dX5_readNumber_44 : decode cX5_readNumber 44 = .ok (.iload 4, 2) := by decide +kernel
theorem dX5_readNumber_46 : decode cX5_readNumber 46 = .ok (.iaload, 1) := by decide +kernel
theorem dX5_readNumber_47 : decode cX5_readNumber 47 = .ok (.iadd, 1) := by decide +kernel
theorem dX5_readNumber_48 : decode cX5_readNumber 48 = .ok (.bipush 48, 2) := by decide +kernel
theorem dX5_readNumber_50 : decode cX5_readNumber 50 = .ok (.isub, 1) := by decide +kernel
theorem dX5_readNumber_51 : decode cX5_readNumber 51 = .ok (.istore_n 3, 1) := by decide +kernel
theorem dX5_readNumber_52 : decode cX5_readNumber 52 = .ok (.iinc 4 1, 3) := by decide +kernel
theorem dX5_readNumber_55 : decode cX5_readNumber 55 = .ok (.goto (-28), 3) := by decide +kernel
theorem dX5_readNumber_58 : decode cX5_readNumber 58 = .ok (.iload_n 3, 1) := by decide +kernel
theorem dX5_readNumber_59 : decode cX5_readNumber 59 = .ok (.iload_n 1, 1) := by decide +kernel
theorem dX5_readNumber_60 : decode cX5_readNumber 60 = .ok (.if_icmp .lt 8, 3) := by decide +kernel
theorem dX5_readNumber_63 : decode cX5_readNumber 63 = .ok (.iload_n 3, 1) := by decide +kernel
theorem dX5_readNumber_64 : decode cX5_readNumber 64 = .ok (.iload_n 2, 1) := by decide +kernel
theorem dX5_readNumber_65 : decode cX5_readNumber 65 = .ok (.if_icmp .le 8, 3) := by decide +kernel
theorem dX5_readNumber_68 : decode cX5_readNumber 68 = .ok (.aload_n 0, 1) := by decide +kernel
theorem dX5_readNumber_69 : decode cX5_readNumber 69 = .ok (.iconst 2, 1) := by decide +kernel
theorem dX5_readNumber_70 : decode cX5_readNumber 70 = .ok (.invokevirtual 78, 3) := by decide +kernel
theorem dX5_readNumber_73 : decode cX5_readNumber 73 = .ok (.iload_n 3, 1) := by decide +kernel
theorem dX5_readNumber_74 : decode cX5_readNumber 74 = .ok (.ireturn, 1) := by decide +kernel
abbrev m_X5_readNumber : MD := (yX5_readNumber, cX5_readNumber, 5, (some .int))
theorem q_679 : Cond.code yX5_fail cX5_fail 2 none ∈ TS := ts_t 679 (by decide +kernel) (by decide +kernel)
theorem q_676 : Cond.methodLink RX5 78 yX5_fail ∈ TS := ts_t 676 (by decide +kernel) (by decide +kernel)
theorem q_678 : Cond.instanceMethod yX5_fail ∈ TS := ts_t 678 (by decide +kernel) (by decide +kernel)
theorem qs_28 : Cond.selects yX5_fail.cls yX5_fail yX5_fail ∈ TS := ts_s 28 (by decide +kernel) (by decide +kernel)
theorem k_X5_78 : LkV RX5 78 m_X5_fail 1 := ⟨q_676, q_678, qs_28, ⟨q_3, q_679, by decide, by decide, by decide +kernel⟩⟩
theorem q_619 : Cond.code yX5_advance cX5_advance 2 none ∈ TS := ts_t 619 (by decide +kernel) (by decide +kernel)
theorem q_616 : Cond.methodLink RX5 63 yX5_advance ∈ TS := ts_t 616 (by decide +kernel) (by decide +kernel)
theorem q_618 : Cond.instanceMethod yX5_advance ∈ TS := ts_t 618 (by decide +kernel) (by decide +kernel)
theorem qs_26 : Cond.selects yX5_advance.cls yX5_advance yX5_advance ∈ TS := ts_s 26 (by decide +kernel) (by decide +kernel)
theorem k_X5_63 : LkV RX5 63 m_X5_advance 0 := ⟨q_616, q_618, qs_26, ⟨q_3, q_619, by decide, by decide, by decide +kernel⟩⟩
abbrev w_X5_readNumber (g : GT) (h0 h1 : Nat) (v0_1 v0_3 v0_8 v0_9 v0_10 : Value) (length0 failure0 token0 start0 end0 : Int32) (text1 : Nat → Int32) : va_W := [(h0, .inr (5, [.ref h1, v0_1, .int length0, v0_3, .int failure0, .int token0, .int start0, .int end0, v0_8, v0_9, v0_10])), (h1, aI g 900 text1)]
def f_X5_readNumber_b73 (F : Nat) (length0 : Int32) (text1 : Nat → Int32) (x3 failure0 token0 start0 end0 : Int32) : Option (Int32 × Int32 × Int32 × Int32 × Int32) :=
  some (x3, failure0, token0, start0, end0)
def f_X5_readNumber_b68 (F : Nat) (length0 : Int32) (text1 : Nat → Int32) (x3 failure0 token0 start0 end0 : Int32) : Option (Int32 × Int32 × Int32 × Int32 × Int32) :=
  bd1 (f_X5_fail F 2 failure0 start0) fun o1 =>
  f_X5_readNumber_b73 F length0 text1 x3 o1 token0 start0 end0
def f_X5_readNumber_h27 (F : Nat) (length0 : Int32) (text1 : Nat → Int32) (k27 : (Int32 × Int32 × Int32 × Int32 × Int32 × Int32 × Int32 × Int32) → Option (Int32 × Int32 × Int32 × Int32 × Int32)) (x1 x2 x3 x4 failure0 token0 start0 end0 : Int32) : Option (Int32 × Int32 × Int32 × Int32 × Int32) :=
  if end0 ≤ x4 then
    if x3 < x1 then
      f_X5_readNumber_b68 F length0 text1 x3 failure0 token0 start0 end0
    else
      if x3 ≤ x2 then
        f_X5_readNumber_b73 F length0 text1 x3 failure0 token0 start0 end0
      else
        f_X5_readNumber_b68 F length0 text1 x3 failure0 token0 start0 end0
  else
    rd text1 900 x4 fun a6 =>
    k27 (x1, x2, ((10 * x3) + a6) - 48, x4 + 1, failure0, token0, start0, end0)
def f_X5_readNumber_L27 (F : Nat) (length0 : Int32) (text1 : Nat → Int32) (z : Int32 × Int32 × Int32 × Int32 × Int32 × Int32 × Int32 × Int32) : Option (Int32 × Int32 × Int32 × Int32 × Int32) := lp (fun k z => f_X5_readNumber_h27 F length0 text1 k z.1 z.2.1 z.2.2.1 z.2.2.2.1 z.2.2.2.2.1 z.2.2.2.2.2.1 z.2.2.2.2.2.2.1 z.2.2.2.2.2.2.2) F z
def f_X5_readNumber (F : Nat) (p1 p2 length0 failure0 token0 start0 end0 : Int32) (text1 : Nat → Int32) : Option (Int32 × Int32 × Int32 × Int32 × Int32) :=
  bd3 (f_X5_advance F length0 token0 start0 end0 text1) fun o7 o8 o9 =>
  if o7 = 2 then
    f_X5_readNumber_L27 F length0 text1 (p1, p2, 0, o8, failure0, o7, o8, o9)
  else
    bd1 (f_X5_fail F 1 failure0 o8) fun o12 =>
    some ((-1), o12, o7, o8, o9)
set_option maxHeartbeats 4000000 in
set_option maxRecDepth 100000 in
theorem c_X5_readNumber (l : Launch) (g : GT) (F : Nat) (h0 h1 : Nat) (v0_1 v0_3 v0_8 v0_9 v0_10 : Value) (p1 p2 length0 failure0 token0 start0 end0 : Int32) (text1 : Nat → Int32) (r o_failure0 o_token0 o_start0 o_end0 : Int32) (sz : Nat) (hf : f_X5_readNumber F p1 p2 length0 failure0 token0 start0 end0 text1 = some (r, o_failure0, o_token0, o_start0, o_end0)) : CI l m_X5_readNumber (rml 2 0 0) g (w_X5_readNumber g h0 h1 v0_1 v0_3 v0_8 v0_9 v0_10 length0 failure0 token0 start0 end0 text1) (fun _ => w_X5_readNumber g h0 h1 v0_1 v0_3 v0_8 v0_9 v0_10 length0 o_failure0 o_token0 o_start0 o_end0 text1) sz [.ref h0, .int p1, .int p2] r := by
  refine en_i (by decide) (Nat.le_of_ble_eq_true rfl) (fun p e s m args below meth c A ls C w hl => ?_)
  have C : Cx p s m args meth c RX5 m_X5_readNumber g A := C
  have hx := C.1
  have hb : c.code = cX5_readNumber := C.2.1
  have hl : lv_has ls 5 [(0, .ref h0), (1, .int p1), (2, .int p2)] := hl
  obtain ⟨Q, hQ⟩ : ∃ Q, Q = QI below args s g A (fun _ => w_X5_readNumber g h0 h1 v0_1 v0_3 v0_8 v0_9 v0_10 length0 o_failure0 o_token0 o_start0 o_end0 text1) r 0 0 := ⟨_, rfl⟩
  suffices hW : W p l e (rml 2 0 0) s m args below meth c s.heap [] 0 0 Q (F0 m 0 ls []) from (by rw [hQ] at hW; exact hW)
  unfold f_X5_readNumber at hf
  have b73 : ∀ (x3 failure0 token0 start0 end0 : Int32) (H : Heap) (locs : List Loc) (ls : Array Slot), f_X5_readNumber_b73 F length0 text1 x3 failure0 token0 start0 end0 = some (r, o_failure0, o_token0, o_start0, o_end0) → Wd g A (w_X5_readNumber g h0 h1 v0_1 v0_3 v0_8 v0_9 v0_10 length0 failure0 token0 start0 end0 text1) s.heap H locs → lv_has ls 5 [(3, .int x3)] → W p l e (rml 2 0 0) s m args below meth c H locs 0 0 Q (F0 m 73 ls []) := by
    intro x3 failure0 token0 start0 end0 H locs ls hf w hl
    unfold f_X5_readNumber_b73 at hf
    refine lv_iload_n hx hb dX5_readNumber_73 rfl (lv_at hl 0 rfl) ?_
    obtain ⟨e1, e2, e3, e4, e5⟩ := tp5 hf
    rw [hQ]
    exact rt_i C w rfl (fun _ => 0) (by rw [← e2, ← e3, ← e4, ← e5]) e1 dX5_readNumber_74
  have b68 : ∀ (x3 failure0 token0 start0 end0 : Int32) (H : Heap) (locs : List Loc) (ls : Array Slot), f_X5_readNumber_b68 F length0 text1 x3 failure0 token0 start0 end0 = some (r, o_failure0, o_token0, o_start0, o_end0) → Wd g A (w_X5_readNumber g h0 h1 v0_1 v0_3 v0_8 v0_9 v0_10 length0 failure0 token0 start0 end0 text1) s.heap H locs → lv_has ls 5 [(0, .ref h0), (3, .int x3)] → W p l e (rml 2 0 0) s m args below meth c H locs 0 0 Q (F0 m 68 ls []) := by
    intro x3 failure0 token0 start0 end0 H locs ls hf w hl
    unfold f_X5_readNumber_b68 at hf
    refine lv_aload_n hx hb dX5_readNumber_68 rfl (lv_at hl 0 rfl) ?_
    refine lv_iconst (v := 2) hx hb dX5_readNumber_69 (by decide) ?_
    obtain ⟨o1, hc2, hf⟩ := bd1_some hf
    refine ca_vV C w (wn := fun _ => w_X5_readNumber g h0 h1 v0_1 v0_3 v0_8 v0_9 v0_10 length0 o1 token0 start0 end0 text1) (pm_k [true, false] rfl rfl (fun _ => Nat.le_of_ble_eq_true rfl) (fun _ => rfl)) (c_X5_fail l g F h0 (.ref h1) v0_1 (.int length0) v0_3 (.int token0) (.int end0) v0_8 v0_9 v0_10 2 failure0 start0 o1 _ hc2) k_X5_78 (rm_le (by decide) (by decide)) 0 5 rfl rfl rfl rfl hl.1 rfl (Nat.le_of_ble_eq_true rfl) dX5_readNumber_70 ⟨Nat.le_of_ble_eq_true rfl, Nat.le_of_ble_eq_true rfl⟩ (cells2 := 0) (slots2 := 0) ⟨rfl, rfl⟩ (fun _ H locs w => ?_)
    exact b73 x3 o1 token0 start0 end0 _ _ _ hf w (lv_sub hl [1] rfl)
  have L27 : ∀ (z : Int32 × Int32 × Int32 × Int32 × Int32 × Int32 × Int32 × Int32), f_X5_readNumber_L27 F length0 text1 z = some (r, o_failure0, o_token0, o_start0, o_end0) → ∀ (H : Heap) (locs : List Loc) (ls : Array Slot), Wd g A (w_X5_readNumber g h0 h1 v0_1 v0_3 v0_8 v0_9 v0_10 length0 z.2.2.2.2.1 z.2.2.2.2.2.1 z.2.2.2.2.2.2.1 z.2.2.2.2.2.2.2 text1) s.heap H locs → lv_has ls 5 [(0, .ref h0), (1, .int z.1), (2, .int z.2.1), (3, .int z.2.2.1), (4, .int z.2.2.2.1)] → W p l e (rml 2 0 0) s m args below meth c H locs 0 0 Q (F0 m 27 ls []) := by
    intro z hf
    refine lp_W (r := (r, o_failure0, o_token0, o_start0, o_end0)) (fun (z : Int32 × Int32 × Int32 × Int32 × Int32 × Int32 × Int32 × Int32) => ∀ (H : Heap) (locs : List Loc) (ls : Array Slot), Wd g A (w_X5_readNumber g h0 h1 v0_1 v0_3 v0_8 v0_9 v0_10 length0 z.2.2.2.2.1 z.2.2.2.2.2.1 z.2.2.2.2.2.2.1 z.2.2.2.2.2.2.2 text1) s.heap H locs → lv_has ls 5 [(0, .ref h0), (1, .int z.1), (2, .int z.2.1), (3, .int z.2.2.1), (4, .int z.2.2.2.1)] → W p l e (rml 2 0 0) s m args below meth c H locs 0 0 Q (F0 m 27 ls [])) (fun k27 z ih27 hf => ?_) F z hf
    obtain ⟨x1, x2, x3, x4, failure0, token0, start0, end0⟩ := z
    intro H locs ls w hl
    try dsimp only at hf w hl ⊢
    unfold f_X5_readNumber_h27 at hf
    refine lv_iload hx hb dX5_readNumber_27 (lv_at hl 4 rfl) ?_
    refine lv_aload_n hx hb dX5_readNumber_29 rfl (lv_at hl 0 rfl) ?_
    refine g_X5_38 C w 0 rfl rfl dX5_readNumber_30 ?_
    refine lv_icmp_ge (tgt := 58) hx hb dX5_readNumber_33 (by decide) (fun c3 => ?_) (fun c3 => ?_)
    · replace hf := it_t c3 hf
      refine lv_iload_n hx hb dX5_readNumber_58 rfl (lv_at hl 3 rfl) ?_
      refine lv_iload_n hx hb dX5_readNumber_59 rfl (lv_at hl 1 rfl) ?_
      refine lv_icmp_lt (tgt := 68) hx hb dX5_readNumber_60 (by decide) (fun c4 => ?_) (fun c4 => ?_)
      · replace hf := it_t c4 hf
        exact b68 x3 failure0 token0 start0 end0 _ _ _ hf w (lv_sub hl [0, 3] rfl)
      · replace hf := it_f c4 hf
        refine lv_iload_n hx hb dX5_readNumber_63 rfl (lv_at hl 3 rfl) ?_
        refine lv_iload_n hx hb dX5_readNumber_64 rfl (lv_at hl 2 rfl) ?_
        refine lv_icmp_le (tgt := 73) hx hb dX5_readNumber_65 (by decide) (fun c5 => ?_) (fun c5 => ?_)
        · replace hf := it_t c5 hf
          exact b73 x3 failure0 token0 start0 end0 _ _ _ hf w (lv_sub hl [3] rfl)
        · replace hf := it_f c5 hf
          exact b68 x3 failure0 token0 start0 end0 _ _ _ hf w (lv_sub hl [0, 3] rfl)
    · replace hf := it_f c3 hf
      refine lv_bipush (v := 10) hx hb dX5_readNumber_36 (by decide) ?_
      refine lv_iload_n hx hb dX5_readNumber_38 rfl (lv_at hl 3 rfl) ?_
      refine lv_imul hx hb dX5_readNumber_39 ?_
      refine lv_aload_n hx hb dX5_readNumber_40 rfl (lv_at hl 0 rfl) ?_
      refine g_X5_9 C w 0 rfl rfl dX5_readNumber_41 ?_
      refine lv_iload hx hb dX5_readNumber_44 (lv_at hl 4 rfl) ?_
      obtain ⟨a6, hia6, haa6, hf⟩ := rd_some hf
      refine ial C w 1 rfl hia6 haa6 dX5_readNumber_46 ?_
      refine lv_iadd hx hb dX5_readNumber_47 ?_
      refine lv_bipush (v := 48) hx hb dX5_readNumber_48 (by decide) ?_
      refine lv_isub hx hb dX5_readNumber_50 ?_
      refine lv_istore_n (lv' := [(3, .int (((10 * x3) + a6) - 48)), (0, .ref h0), (1, .int x1), (2, .int x2), (4, .int x4)]) hx hb dX5_readNumber_51 rfl hl (by decide) rfl (fun ls hl => ?_)
      refine lv_iinc (v := x4 + 1) (lv' := [(4, .int (x4 + 1)), (3, .int (((10 * x3) + a6) - 48)), (0, .ref h0), (1, .int x1), (2, .int x2)]) hx hb dX5_readNumber_52 hl (k := 4) rfl rfl (by decide) rfl (fun ls hl => ?_)
      refine lv_goto (tgt := 27) hx hb dX5_readNumber_55 (by decide) ?_
      exact ih27 (x1, x2, ((10 * x3) + a6) - 48, x4 + 1, failure0, token0, start0, end0) hf _ _ _ w (lv_sub hl [2, 3, 4, 1, 0] rfl)
  refine lv_aload_n hx hb dX5_readNumber_0 rfl (lv_at hl 0 rfl) ?_
  obtain ⟨o7, o8, o9, hc10, hf⟩ := bd3_some hf
  refine ca_vV C w (wn := fun _ => w_X5_readNumber g h0 h1 v0_1 v0_3 v0_8 v0_9 v0_10 length0 failure0 o7 o8 o9 text1) (pm_k [true, true] rfl rfl (fun _ => Nat.le_of_ble_eq_true rfl) (fun _ => rfl)) (c_X5_advance l g F h0 h1 v0_1 v0_3 (.int failure0) v0_8 v0_9 v0_10 length0 token0 start0 end0 text1 o7 o8 o9 _ hc10) k_X5_63 (rm_le (by decide) (by decide)) 0 5 rfl rfl rfl rfl hl.1 rfl (Nat.le_of_ble_eq_true rfl) dX5_readNumber_1 ⟨Nat.le_of_ble_eq_true rfl, Nat.le_of_ble_eq_true rfl⟩ (cells2 := 0) (slots2 := 0) ⟨rfl, rfl⟩ (fun _ H locs w => ?_)
  refine lv_aload_n hx hb dX5_readNumber_4 rfl (lv_at hl 0 rfl) ?_
  refine g_X5_32 C w 0 rfl rfl dX5_readNumber_5 ?_
  refine lv_iconst (v := 2) hx hb dX5_readNumber_8 (by decide) ?_
  refine lv_icmp_eq (tgt := 19) hx hb dX5_readNumber_9 (by decide) (fun c11 => ?_) (fun c11 => ?_)
  · replace hf := it_t c11 hf
    refine lv_iconst (v := 0) hx hb dX5_readNumber_19 (by decide) ?_
    refine lv_istore_n (lv' := [(3, .int 0), (0, .ref h0), (1, .int p1), (2, .int p2)]) hx hb dX5_readNumber_20 rfl hl (by decide) rfl (fun ls hl => ?_)
    refine lv_aload_n hx hb dX5_readNumber_21 rfl (lv_at hl 1 rfl) ?_
    refine g_X5_35 C w 0 rfl rfl dX5_readNumber_22 ?_
    refine lv_istore (lv' := [(4, .int o8), (3, .int 0), (0, .ref h0), (1, .int p1), (2, .int p2)]) hx hb dX5_readNumber_25 hl (by decide) rfl (fun ls hl => ?_)
    exact L27 (p1, p2, 0, o8, failure0, o7, o8, o9) hf _ _ _ w (lv_sub hl [2, 3, 4, 1, 0] rfl)
  · replace hf := it_f c11 hf
    refine lv_aload_n hx hb dX5_readNumber_12 rfl (lv_at hl 0 rfl) ?_
    refine lv_iconst (v := 1) hx hb dX5_readNumber_13 (by decide) ?_
    obtain ⟨o12, hc13, hf⟩ := bd1_some hf
    refine ca_vV C w (wn := fun _ => w_X5_readNumber g h0 h1 v0_1 v0_3 v0_8 v0_9 v0_10 length0 o12 o7 o8 o9 text1) (pm_k [true, false] rfl rfl (fun _ => Nat.le_of_ble_eq_true rfl) (fun _ => rfl)) (c_X5_fail l g F h0 (.ref h1) v0_1 (.int length0) v0_3 (.int o7) (.int o9) v0_8 v0_9 v0_10 1 failure0 o8 o12 _ hc13) k_X5_78 (rm_le (by decide) (by decide)) 0 5 rfl rfl rfl rfl hl.1 rfl (Nat.le_of_ble_eq_true rfl) dX5_readNumber_14 ⟨Nat.le_of_ble_eq_true rfl, Nat.le_of_ble_eq_true rfl⟩ (cells2 := 0) (slots2 := 0) ⟨rfl, rfl⟩ (fun _ H locs w => ?_)
    refine lv_iconst (v := -1) hx hb dX5_readNumber_17 (by decide) ?_
    obtain ⟨e1, e2, e3, e4, e5⟩ := tp5 hf
    rw [hQ]
    exact rt_i C w rfl (fun _ => 0) (by rw [← e2, ← e3, ← e4, ← e5]) e1 dX5_readNumber_18

theorem dX5_readSemicolon_0 : decode cX5_readSemicolon 0 = .ok (.aload_n 0, 1) := by decide +kernel
theorem dX5_readSemicolon_1 : decode cX5_readSemicolon 1 = .ok (.invokevirtual 63, 3) := by decide +kernel
theorem dX5_readSemicolon_4 : decode cX5_readSemicolon 4 = .ok (.aload_n 0, 1) := by decide +kernel
theorem dX5_readSemicolon_5 : decode cX5_readSemicolon 5 = .ok (.getfield 32, 3) := by decide +kernel
theorem dX5_readSemicolon_8 : decode cX5_readSemicolon 8 = .ok (.iconst 3, 1) := by decide +kernel
theorem dX5_readSemicolon_9 : decode cX5_readSemicolon 9 = .ok (.if_icmp .eq 8, 3) := by decide +kernel
theorem dX5_readSemicolon_12 : decode cX5_readSemicolon 12 = .ok (.aload_n 0, 1) := by decide +kernel
theorem dX5_readSemicolon_13 : decode cX5_readSemicolon 13 = .ok (.iconst 1, 1) := by decide +kernel
theorem dX5_readSemicolon_14 : decode cX5_readSemicolon 14 = .ok (.invokevirtual 78, 3) := by decide +kernel
theorem dX5_readSemicolon_17 : decode cX5_readSemicolon 17 = .ok (.return_, 1) := by decide +kernel
abbrev m_X5_readSemicolon : MD := (yX5_readSemicolon, cX5_readSemicolon, 1, none)

abbrev w_X5_readSemicolon (g : GT) (h0 h1 : Nat) (v0_1 v0_3 v0_8 v0_9 v0_10 : Value) (length0 failure0 token0 start0 end0 : Int32) (text1 : Nat → Int32) : va_W := [(h0, .inr (5, [.ref h1, v0_1, .int length0, v0_3, .int failure0, .int token0, .int start0, .int end0, v0_8, v0_9, v0_10])), (h1, aI g 900 text1)]
def f_X5_readSemicolon_b17 (F : Nat) (length0 : Int32) (text1 : Nat → Int32) (failure0 token0 start0 end0 : Int32) : Option (Int32 × Int32 × Int32 × Int32) :=
  some (failure0, token0, start0, end0)
def f_X5_readSemicolon (F : Nat) (length0 failure0 token0 start0 end0 : Int32) (text1 : Nat → Int32) : Option (Int32 × Int32 × Int32 × Int32) :=
  bd3 (f_X5_advance F length0 token0 start0 end0 text1) fun o1 o2 o3 =>
  if o1 = 3 then
    f_X5_readSemicolon_b17 F length0 text1 failure0 o1 o2 o3
  else
    bd1 (f_X5_fail F 1 failure0 o2) fun o6 =>
    f_X5_readSemicolon_b17 F length0 text1 o6 o1 o2 o3
set_option maxHeartbeats 4000000 in
set_option maxRecDepth 100000 in
theorem c_X5_readSemicolon (l : Launch) (g : GT) (F : Nat) (h0 h1 : Nat) (v0_1 v0_3 v0_8 v0_9 v0_10 : Value) (length0 failure0 token0 start0 end0 : Int32) (text1 : Nat → Int32) (o_failure0 o_token0 o_start0 o_end0 : Int32) (sz : Nat) (hf : f_X5_readSemicolon F length0 failure0 token0 start0 end0 text1 = some (o_failure0, o_token0, o_start0, o_end0)) : CV l m_X5_readSemicolon (rml 2 0 0) g (w_X5_readSemicolon g h0 h1 v0_1 v0_3 v0_8 v0_9 v0_10 length0 failure0 token0 start0 end0 text1) (fun _ => w_X5_readSemicolon g h0 h1 v0_1 v0_3 v0_8 v0_9 v0_10 length0 o_failure0 o_token0 o_start0 o_end0 text1) sz [.ref h0] := by
  refine en_v (by decide) (Nat.le_of_ble_eq_true rfl) (fun p e s m args below meth c A ls C w hl => ?_)
  have C : Cx p s m args meth c RX5 m_X5_readSemicolon g A := C
  have hx := C.1
  have hb : c.code = cX5_readSemicolon := C.2.1
  have hl : lv_has ls 1 [(0, .ref h0)] := hl
  obtain ⟨Q, hQ⟩ : ∃ Q, Q = QV below args s g A (fun _ => w_X5_readSemicolon g h0 h1 v0_1 v0_3 v0_8 v0_9 v0_10 length0 o_failure0 o_token0 o_start0 o_end0 text1) 0 0 := ⟨_, rfl⟩
  suffices hW : W p l e (rml 2 0 0) s m args below meth c s.heap [] 0 0 Q (F0 m 0 ls []) from (by rw [hQ] at hW; exact hW)
  unfold f_X5_readSemicolon at hf
  have b17 : ∀ (failure0 token0 start0 end0 : Int32) (H : Heap) (locs : List Loc) (ls : Array Slot), f_X5_readSemicolon_b17 F length0 text1 failure0 token0 start0 end0 = some (o_failure0, o_token0, o_start0, o_end0) → Wd g A (w_X5_readSemicolon g h0 h1 v0_1 v0_3 v0_8 v0_9 v0_10 length0 failure0 token0 start0 end0 text1) s.heap H locs → lv_has ls 1 [] → W p l e (rml 2 0 0) s m args below meth c H locs 0 0 Q (F0 m 17 ls []) := by
    intro failure0 token0 start0 end0 H locs ls hf w hl
    unfold f_X5_readSemicolon_b17 at hf
    obtain ⟨e1, e2, e3, e4⟩ := tp4 hf
    rw [hQ]
    exact rt_v C w rfl (fun _ => 0) (by rw [← e1, ← e2, ← e3, ← e4]) dX5_readSemicolon_17
  refine lv_aload_n hx hb dX5_readSemicolon_0 rfl (lv_at hl 0 rfl) ?_
  obtain ⟨o1, o2, o3, hc4, hf⟩ := bd3_some hf
  refine ca_vV C w (wn := fun _ => w_X5_readSemicolon g h0 h1 v0_1 v0_3 v0_8 v0_9 v0_10 length0 failure0 o1 o2 o3 text1) (pm_k [true, true] rfl rfl (fun _ => Nat.le_of_ble_eq_true rfl) (fun _ => rfl)) (c_X5_advance l g F h0 h1 v0_1 v0_3 (.int failure0) v0_8 v0_9 v0_10 length0 token0 start0 end0 text1 o1 o2 o3 _ hc4) k_X5_63 (rm_le (by decide) (by decide)) 0 5 rfl rfl rfl rfl hl.1 rfl (Nat.le_of_ble_eq_true rfl) dX5_readSemicolon_1 ⟨Nat.le_of_ble_eq_true rfl, Nat.le_of_ble_eq_true rfl⟩ (cells2 := 0) (slots2 := 0) ⟨rfl, rfl⟩ (fun _ H locs w => ?_)
  refine lv_aload_n hx hb dX5_readSemicolon_4 rfl (lv_at hl 0 rfl) ?_
  refine g_X5_32 C w 0 rfl rfl dX5_readSemicolon_5 ?_
  refine lv_iconst (v := 3) hx hb dX5_readSemicolon_8 (by decide) ?_
  refine lv_icmp_eq (tgt := 17) hx hb dX5_readSemicolon_9 (by decide) (fun c5 => ?_) (fun c5 => ?_)
  · replace hf := it_t c5 hf
    exact b17 failure0 o1 o2 o3 _ _ _ hf w (lv_sub hl [] rfl)
  · replace hf := it_f c5 hf
    refine lv_aload_n hx hb dX5_readSemicolon_12 rfl (lv_at hl 0 rfl) ?_
    refine lv_iconst (v := 1) hx hb dX5_readSemicolon_13 (by decide) ?_
    obtain ⟨o6, hc7, hf⟩ := bd1_some hf
    refine ca_vV C w (wn := fun _ => w_X5_readSemicolon g h0 h1 v0_1 v0_3 v0_8 v0_9 v0_10 length0 o6 o1 o2 o3 text1) (pm_k [true, false] rfl rfl (fun _ => Nat.le_of_ble_eq_true rfl) (fun _ => rfl)) (c_X5_fail l g F h0 (.ref h1) v0_1 (.int length0) v0_3 (.int o1) (.int o3) v0_8 v0_9 v0_10 1 failure0 o2 o6 _ hc7) k_X5_78 (rm_le (by decide) (by decide)) 0 5 rfl rfl rfl rfl hl.1 rfl (Nat.le_of_ble_eq_true rfl) dX5_readSemicolon_14 ⟨Nat.le_of_ble_eq_true rfl, Nat.le_of_ble_eq_true rfl⟩ (cells2 := 0) (slots2 := 0) ⟨rfl, rfl⟩ (fun _ H locs w => ?_)
    exact b17 o6 o1 o2 o3 _ _ _ hf w (lv_sub hl [] rfl)

theorem dX5_readHead_0 : decode cX5_readHead 0 = .ok (.aload_n 0, 1) := by decide +kernel
theorem dX5_readHead_1 : decode cX5_readHead 1 = .ok (.invokevirtual 63, 3) := by decide +kernel
theorem dX5_readHead_4 : decode cX5_readHead 4 = .ok (.aload_n 0, 1) := by decide +kernel
theorem dX5_readHead_5 : decode cX5_readHead 5 = .ok (.ldc 72, 2) := by decide +kernel
theorem dX5_readHead_7 : decode cX5_readHead 7 = .ok (.invokevirtual 74, 3) := by decide +kernel
theorem dX5_readHead_10 : decode cX5_readHead 10 = .ok (.ifCond .ne 8, 3) := by decide +kernel
theorem dX5_readHead_13 : decode cX5_readHead 13 = .ok (.aload_n 0, 1) := by decide +kernel
theorem dX5_readHead_14 : decode cX5_readHead 14 = .ok (.iconst 1, 1) := by decide +kernel
theorem dX5_readHead_15 : decode cX5_readHead 15 = .ok (.invokevirtual 78, 3) := by decide +kernel
theorem dX5_readHead_18 : decode cX5_readHead 18 = .ok (.aload_n 0, 1) := by decide +kernel
theorem dX5_readHead_19 : decode cX5_readHead 19 = .ok (.iconst 2, 1) := by decide +kernel
theorem dX5_readHead_20 : decode cX5_readHead 20 = .ok (.bipush 10, 2) := by decide +kernel
theorem dX5_readHead_22 : decode cX5_readHead 22 = .ok (.invokevirtual 82, 3) := by decide +kernel
theorem dX5_readHead_25 : decode cX5_readHead 25 = .ok (.istore_n 1, 1) := by decide +kernel
theorem dX5_readHead_26 : decode cX5_readHead 26 = .ok (.aload_n 0, 1) := by decide +kernel
theorem dX5_readHead_27 : decode cX5_readHead 27 = .ok (.getfield 29, 3) := by decide +kernel
theorem dX5_readHead_30 : decode cX5_readHead 30 = .ok (.ifCond .ne 11, 3) := by decide +kernel
theorem dX5_readHead_33 : decode cX5_readHead 33 = .ok (.aload_n 0, 1) := by decide +kernel
theorem dX5_readHead_34 : decode cX5_readHead 34 = .ok (.getfield 25, 3) := by decide +kernel
theorem dX5_readHead_37 : decode cX5_readHead 37 = .ok (.iload_n 1, 1) := by decide +kernel
theorem dX5_readHead_38 : decode cX5_readHead 38 = .ok (.putfield 85, 3) := by decide +kernel
theorem dX5_readHead_41 : decode cX5_readHead 41 = .ok (.aload_n 0, 1) := by decide +kernel
theorem dX5_readHead_42 : decode cX5_readHead 42 = .ok (.invokevirtual 69, 3) := by decide +kernel
theorem dX5_readHead_45 : decode cX5_readHead 45 = .ok (.return_, 1) := by decide +kernel
abbrev m_X5_readHead : MD := (yX5_readHead, cX5_readHead, 2, none)
theorem g_X5_25 {p : Program} {l : Launch} {e : Env} {R : Room} {s : State} {m : MethodId} {args : Array Value} {below : List Frame} {meth : Method} {c : Code} {H : Heap} {locs : List Loc} {cells slots : Nat} {Q : State → Prop} {d : MD} {g : GT} {A : Nat → Prop} {ws : va_W} {pc : Nat} {ls : Array Slot} {rest : List Value} (C : Cx p s m args meth c RX5 d g A) (w : Wd g A ws s.heap H locs) (q0 : Nat) {a : Nat} {fs : List Value} {v : Value} (he : ws[q0]? = some (a, .inr (5, fs))) (hv : fs[3]? = some v) (hd : decode d.2.1 pc = .ok (.getfield 25, 3)) (kk : W p l e R s m args below meth c H locs cells slots Q (F0 m (pc + 3) ls (v :: rest))) : W p l e R s m args below meth c H locs cells slots Q (F0 m pc ls (.ref a :: rest)) := fg C w inX5s (ref := RX5) rfl 3 (by decide) (ts_t (w := Cond.fieldLink RX5 25 RX5 (TX5 3).2.1 (TX5 3).2.2.1) 105 (by decide +kernel) (by decide +kernel)) rfl q0 he hv hd kk
theorem p_X5_85 {p : Program} {l : Launch} {e : Env} {R : Room} {s : State} {m : MethodId} {args : Array Value} {below : List Frame} {meth : Method} {c : Code} {H : Heap} {locs : List Loc} {cells slots : Nat} {Q : State → Prop} {d : MD} {g : GT} {A : Nat → Prop} {ws : va_W} {pc : Nat} {ls : Array Slot} {rest : List Value} (C : Cx p s m args meth c RX5 d g A) (w : Wd g A ws s.heap H locs) (q0 : Nat) {a : Nat} {fs : List Value} {x : Int32} (he : ws[q0]? = some (a, .inr (4, fs))) (hlt : 0 < fs.length) {ws2 : va_W} (h2 : ws.set q0 (a, .inr (4, fs.set 0 (.int x))) = ws2) (hd : decode d.2.1 pc = .ok (.putfield 85, 3)) (kk : ∀ (H1 : Heap) (locs1 : List Loc), Wd g A ws2 s.heap H1 locs1 → W p l e R s m args below meth c H1 locs1 cells slots Q (F0 m (pc + 3) ls rest)) : W p l e R s m args below meth c H locs cells slots Q (F0 m pc ls (.int x :: .ref a :: rest)) := fpN C w inX4s tyX4_ok nmX4 (ref := RX4) rfl 0 (by decide) (nw_t (w := Cond.fieldLinkNest RX5 85 RX4 (TX4 0).2.1 (TX4 0).2.2.1 "FreeFlowToll") 41 (by decide +kernel) rfl) rfl rfl q0 he rfl rfl hlt h2 hd kk
theorem q_687 : Cond.code yX5_readSemicolon cX5_readSemicolon 1 none ∈ TS := ts_t 687 (by decide +kernel) (by decide +kernel)
theorem q_684 : Cond.methodLink RX5 69 yX5_readSemicolon ∈ TS := ts_t 684 (by decide +kernel) (by decide +kernel)
theorem q_686 : Cond.instanceMethod yX5_readSemicolon ∈ TS := ts_t 686 (by decide +kernel) (by decide +kernel)
theorem qs_30 : Cond.selects yX5_readSemicolon.cls yX5_readSemicolon yX5_readSemicolon ∈ TS := ts_s 30 (by decide +kernel) (by decide +kernel)
theorem k_X5_69 : LkV RX5 69 m_X5_readSemicolon 0 := ⟨q_684, q_686, qs_30, ⟨q_3, q_687, by decide, by decide, by decide +kernel⟩⟩
theorem q_683 : Cond.code yX5_readNumber cX5_readNumber 5 (some .int) ∈ TS := ts_t 683 (by decide +kernel) (by decide +kernel)
theorem q_680 : Cond.methodLink RX5 82 yX5_readNumber ∈ TS := ts_t 680 (by decide +kernel) (by decide +kernel)
theorem q_682 : Cond.instanceMethod yX5_readNumber ∈ TS := ts_t 682 (by decide +kernel) (by decide +kernel)
theorem qs_29 : Cond.selects yX5_readNumber.cls yX5_readNumber yX5_readNumber ∈ TS := ts_s 29 (by decide +kernel) (by decide +kernel)
theorem k_X5_82 : LkV RX5 82 m_X5_readNumber 2 := ⟨q_680, q_682, qs_29, ⟨q_3, q_683, by decide, by decide, by decide +kernel⟩⟩
theorem q_627 : Cond.code yX5_isWord cX5_isWord 3 (some .boolean) ∈ TS := ts_t 627 (by decide +kernel) (by decide +kernel)
theorem q_624 : Cond.methodLink RX5 74 yX5_isWord ∈ TS := ts_t 624 (by decide +kernel) (by decide +kernel)
theorem q_626 : Cond.instanceMethod yX5_isWord ∈ TS := ts_t 626 (by decide +kernel) (by decide +kernel)
theorem qs_27 : Cond.selects yX5_isWord.cls yX5_isWord yX5_isWord ∈ TS := ts_s 27 (by decide +kernel) (by decide +kernel)
theorem k_X5_74 : LkV RX5 74 m_X5_isWord 1 := ⟨q_624, q_626, qs_27, ⟨q_3, q_627, by decide, by decide, by decide +kernel⟩⟩
abbrev w_X5_readHead (g : GT) (h0 h1 h2 : Nat) (v0_1 v0_8 v0_9 v0_10 v1_1 v1_2 v1_3 v1_4 v1_5 v1_6 v1_7 v1_8 v1_9 v1_10 v1_11 v1_12 : Value) (length0 failure0 token0 start0 end0 gantries1 : Int32) (text2 : Nat → Int32) : va_W := [(h0, .inr (5, [.ref h2, v0_1, .int length0, .ref h1, .int failure0, .int token0, .int start0, .int end0, v0_8, v0_9, v0_10])), (h1, .inr (4, [.int gantries1, v1_1, v1_2, v1_3, v1_4, v1_5, v1_6, v1_7, v1_8, v1_9, v1_10, v1_11, v1_12])), (h2, aI g 900 text2)]
def f_X5_readHead_b41 (F : Nat) (length0 : Int32) (text2 : Nat → Int32) (failure0 token0 start0 end0 gantries1 : Int32) : Option (Int32 × Int32 × Int32 × Int32 × Int32) :=
  bd4 (f_X5_readSemicolon F length0 failure0 token0 start0 end0 text2) fun o1 o2 o3 o4 =>
  some (o1, o2, o3, o4, gantries1)
def f_X5_readHead_b18 (F : Nat) (length0 : Int32) (text2 : Nat → Int32) (failure0 token0 start0 end0 gantries1 : Int32) : Option (Int32 × Int32 × Int32 × Int32 × Int32) :=
  bd5 (f_X5_readNumber F 2 10 length0 failure0 token0 start0 end0 text2) fun r6 o7 o8 o9 o10 =>
  if o7 = 0 then
    f_X5_readHead_b41 F length0 text2 o7 o8 o9 o10 r6
  else
    f_X5_readHead_b41 F length0 text2 o7 o8 o9 o10 gantries1
def f_X5_readHead (F : Nat) (length0 failure0 token0 start0 end0 gantries1 : Int32) (text2 : Nat → Int32) : Option (Int32 × Int32 × Int32 × Int32 × Int32) :=
  bd3 (f_X5_advance F length0 token0 start0 end0 text2) fun o13 o14 o15 =>
  bd1 (f_X5_isWord F 0 o13 o14 o15 text2) fun r17 =>
  if r17 = 0 then
    bd1 (f_X5_fail F 1 failure0 o14) fun o20 =>
    f_X5_readHead_b18 F length0 text2 o20 o13 o14 o15 gantries1
  else
    f_X5_readHead_b18 F length0 text2 failure0 o13 o14 o15 gantries1
set_option maxHeartbeats 4000000 in
set_option maxRecDepth 100000 in
theorem c_X5_readHead (l : Launch) (g : GT) (F : Nat) (h0 h1 h2 : Nat) (v0_1 v0_8 v0_9 v0_10 v1_1 v1_2 v1_3 v1_4 v1_5 v1_6 v1_7 v1_8 v1_9 v1_10 v1_11 v1_12 : Value) (length0 failure0 token0 start0 end0 gantries1 : Int32) (text2 : Nat → Int32) (o_failure0 o_token0 o_start0 o_end0 o_gantries1 : Int32) (sz : Nat) (hf : f_X5_readHead F length0 failure0 token0 start0 end0 gantries1 text2 = some (o_failure0, o_token0, o_start0, o_end0, o_gantries1)) : CV l m_X5_readHead (rml 5 0 0) g (w_X5_readHead g h0 h1 h2 v0_1 v0_8 v0_9 v0_10 v1_1 v1_2 v1_3 v1_4 v1_5 v1_6 v1_7 v1_8 v1_9 v1_10 v1_11 v1_12 length0 failure0 token0 start0 end0 gantries1 text2) (fun _ => w_X5_readHead g h0 h1 h2 v0_1 v0_8 v0_9 v0_10 v1_1 v1_2 v1_3 v1_4 v1_5 v1_6 v1_7 v1_8 v1_9 v1_10 v1_11 v1_12 length0 o_failure0 o_token0 o_start0 o_end0 o_gantries1 text2) sz [.ref h0] := by
  refine en_v (by decide) (Nat.le_of_ble_eq_true rfl) (fun p e s m args below meth c A ls C w hl => ?_)
  have C : Cx p s m args meth c RX5 m_X5_readHead g A := C
  have hx := C.1
  have hb : c.code = cX5_readHead := C.2.1
  have hl : lv_has ls 2 [(0, .ref h0)] := hl
  obtain ⟨Q, hQ⟩ : ∃ Q, Q = QV below args s g A (fun _ => w_X5_readHead g h0 h1 h2 v0_1 v0_8 v0_9 v0_10 v1_1 v1_2 v1_3 v1_4 v1_5 v1_6 v1_7 v1_8 v1_9 v1_10 v1_11 v1_12 length0 o_failure0 o_token0 o_start0 o_end0 o_gantries1 text2) 0 0 := ⟨_, rfl⟩
  suffices hW : W p l e (rml 5 0 0) s m args below meth c s.heap [] 0 0 Q (F0 m 0 ls []) from (by rw [hQ] at hW; exact hW)
  unfold f_X5_readHead at hf
  have b41 : ∀ (failure0 token0 start0 end0 gantries1 : Int32) (H : Heap) (locs : List Loc) (ls : Array Slot), f_X5_readHead_b41 F length0 text2 failure0 token0 start0 end0 gantries1 = some (o_failure0, o_token0, o_start0, o_end0, o_gantries1) → Wd g A (w_X5_readHead g h0 h1 h2 v0_1 v0_8 v0_9 v0_10 v1_1 v1_2 v1_3 v1_4 v1_5 v1_6 v1_7 v1_8 v1_9 v1_10 v1_11 v1_12 length0 failure0 token0 start0 end0 gantries1 text2) s.heap H locs → lv_has ls 2 [(0, .ref h0)] → W p l e (rml 5 0 0) s m args below meth c H locs 0 0 Q (F0 m 41 ls []) := by
    intro failure0 token0 start0 end0 gantries1 H locs ls hf w hl
    unfold f_X5_readHead_b41 at hf
    refine lv_aload_n hx hb dX5_readHead_41 rfl (lv_at hl 0 rfl) ?_
    obtain ⟨o1, o2, o3, o4, hc5, hf⟩ := bd4_some hf
    refine ca_vV C w (wn := fun _ => w_X5_readHead g h0 h1 h2 v0_1 v0_8 v0_9 v0_10 v1_1 v1_2 v1_3 v1_4 v1_5 v1_6 v1_7 v1_8 v1_9 v1_10 v1_11 v1_12 length0 o1 o2 o3 o4 gantries1 text2) (pm_k [true, false, true] rfl rfl (fun _ => Nat.le_of_ble_eq_true rfl) (fun _ => rfl)) (c_X5_readSemicolon l g F h0 h2 v0_1 (.ref h1) v0_8 v0_9 v0_10 length0 failure0 token0 start0 end0 text2 o1 o2 o3 o4 _ hc5) k_X5_69 (rm_le (by decide) (by decide)) 0 5 rfl rfl rfl rfl hl.1 rfl (Nat.le_of_ble_eq_true rfl) dX5_readHead_42 ⟨Nat.le_of_ble_eq_true rfl, Nat.le_of_ble_eq_true rfl⟩ (cells2 := 0) (slots2 := 0) ⟨rfl, rfl⟩ (fun _ H locs w => ?_)
    obtain ⟨e1, e2, e3, e4, e5⟩ := tp5 hf
    rw [hQ]
    exact rt_v C w rfl (fun _ => 0) (by rw [← e1, ← e2, ← e3, ← e4, ← e5]) dX5_readHead_45
  have b18 : ∀ (failure0 token0 start0 end0 gantries1 : Int32) (H : Heap) (locs : List Loc) (ls : Array Slot), f_X5_readHead_b18 F length0 text2 failure0 token0 start0 end0 gantries1 = some (o_failure0, o_token0, o_start0, o_end0, o_gantries1) → Wd g A (w_X5_readHead g h0 h1 h2 v0_1 v0_8 v0_9 v0_10 v1_1 v1_2 v1_3 v1_4 v1_5 v1_6 v1_7 v1_8 v1_9 v1_10 v1_11 v1_12 length0 failure0 token0 start0 end0 gantries1 text2) s.heap H locs → lv_has ls 2 [(0, .ref h0)] → W p l e (rml 5 0 0) s m args below meth c H locs 0 0 Q (F0 m 18 ls []) := by
    intro failure0 token0 start0 end0 gantries1 H locs ls hf w hl
    unfold f_X5_readHead_b18 at hf
    refine lv_aload_n hx hb dX5_readHead_18 rfl (lv_at hl 0 rfl) ?_
    refine lv_iconst (v := 2) hx hb dX5_readHead_19 (by decide) ?_
    refine lv_bipush (v := 10) hx hb dX5_readHead_20 (by decide) ?_
    obtain ⟨r6, o7, o8, o9, o10, hc11, hf⟩ := bd5_some hf
    refine ca_iV C w (wn := fun _ => w_X5_readHead g h0 h1 h2 v0_1 v0_8 v0_9 v0_10 v1_1 v1_2 v1_3 v1_4 v1_5 v1_6 v1_7 v1_8 v1_9 v1_10 v1_11 v1_12 length0 o7 o8 o9 o10 gantries1 text2) (pm_k [true, false, true] rfl rfl (fun _ => Nat.le_of_ble_eq_true rfl) (fun _ => rfl)) (c_X5_readNumber l g F h0 h2 v0_1 (.ref h1) v0_8 v0_9 v0_10 2 10 length0 failure0 token0 start0 end0 text2 r6 o7 o8 o9 o10 _ hc11) k_X5_82 (rm_le (by decide) (by decide)) 0 5 rfl rfl rfl rfl hl.1 rfl (Nat.le_of_ble_eq_true rfl) dX5_readHead_22 ⟨Nat.le_of_ble_eq_true rfl, Nat.le_of_ble_eq_true rfl⟩ (cells2 := 0) (slots2 := 0) ⟨rfl, rfl⟩ (fun _ H locs w => ?_)
    refine lv_istore_n (lv' := [(1, .int r6), (0, .ref h0)]) hx hb dX5_readHead_25 rfl hl (by decide) rfl (fun ls hl => ?_)
    refine lv_aload_n hx hb dX5_readHead_26 rfl (lv_at hl 1 rfl) ?_
    refine g_X5_29 C w 0 rfl rfl dX5_readHead_27 ?_
    refine lv_if_ne (tgt := 41) hx hb dX5_readHead_30 (by decide) (fun c12 => ?_) (fun c12 => ?_)
    · replace hf := it_f c12 hf
      exact b41 o7 o8 o9 o10 gantries1 _ _ _ hf w (lv_sub hl [1] rfl)
    · replace hf := it_t c12 hf
      refine lv_aload_n hx hb dX5_readHead_33 rfl (lv_at hl 1 rfl) ?_
      refine g_X5_25 C w 0 rfl rfl dX5_readHead_34 ?_
      refine lv_iload_n hx hb dX5_readHead_37 rfl (lv_at hl 0 rfl) ?_
      refine p_X5_85 C w 1 rfl (Nat.le_of_ble_eq_true rfl) (ws2 := w_X5_readHead g h0 h1 h2 v0_1 v0_8 v0_9 v0_10 v1_1 v1_2 v1_3 v1_4 v1_5 v1_6 v1_7 v1_8 v1_9 v1_10 v1_11 v1_12 length0 o7 o8 o9 o10 r6 text2) rfl dX5_readHead_38 (fun H locs w => ?_)
      exact b41 o7 o8 o9 o10 r6 _ _ _ hf w (lv_sub hl [1] rfl)
  refine lv_aload_n hx hb dX5_readHead_0 rfl (lv_at hl 0 rfl) ?_
  obtain ⟨o13, o14, o15, hc16, hf⟩ := bd3_some hf
  refine ca_vV C w (wn := fun _ => w_X5_readHead g h0 h1 h2 v0_1 v0_8 v0_9 v0_10 v1_1 v1_2 v1_3 v1_4 v1_5 v1_6 v1_7 v1_8 v1_9 v1_10 v1_11 v1_12 length0 failure0 o13 o14 o15 gantries1 text2) (pm_k [true, false, true] rfl rfl (fun _ => Nat.le_of_ble_eq_true rfl) (fun _ => rfl)) (c_X5_advance l g F h0 h2 v0_1 (.ref h1) (.int failure0) v0_8 v0_9 v0_10 length0 token0 start0 end0 text2 o13 o14 o15 _ hc16) k_X5_63 (rm_le (by decide) (by decide)) 0 5 rfl rfl rfl rfl hl.1 rfl (Nat.le_of_ble_eq_true rfl) dX5_readHead_1 ⟨Nat.le_of_ble_eq_true rfl, Nat.le_of_ble_eq_true rfl⟩ (cells2 := 0) (slots2 := 0) ⟨rfl, rfl⟩ (fun _ H locs w => ?_)
  refine lv_aload_n hx hb dX5_readHead_4 rfl (lv_at hl 0 rfl) ?_
  refine va_ldcS hx hb C.2.2.2.1 (C.2.2.2.2.2.2.2.1.2.2.2.1 (RX5, 72, "gantries", 0) (List.mem_of_getElem? (i := 1) rfl)) dX5_readHead_5 ?_
  obtain ⟨r17, hc18, hf⟩ := bd1_some hf
  refine ca_iV C w (wn := fun _ => w_X5_readHead g h0 h1 h2 v0_1 v0_8 v0_9 v0_10 v1_1 v1_2 v1_3 v1_4 v1_5 v1_6 v1_7 v1_8 v1_9 v1_10 v1_11 v1_12 length0 failure0 o13 o14 o15 gantries1 text2) (pm_k [true, false, true] rfl rfl (fun _ => Nat.le_of_ble_eq_true rfl) (fun _ => rfl)) (c_X5_isWord l g F h0 h2 v0_1 (.int length0) (.ref h1) (.int failure0) v0_8 v0_9 v0_10 0 o13 o14 o15 text2 r17 (by decide) _ hc18) k_X5_74 (rm_le (by decide) (by decide)) 0 5 rfl rfl rfl rfl hl.1 rfl (Nat.le_of_ble_eq_true rfl) dX5_readHead_7 ⟨Nat.le_of_ble_eq_true rfl, Nat.le_of_ble_eq_true rfl⟩ (cells2 := 0) (slots2 := 0) ⟨rfl, rfl⟩ (fun _ H locs w => ?_)
  refine lv_if_ne (tgt := 18) hx hb dX5_readHead_10 (by decide) (fun c19 => ?_) (fun c19 => ?_)
  · replace hf := it_f c19 hf
    exact b18 failure0 o13 o14 o15 gantries1 _ _ _ hf w (lv_sub hl [0] rfl)
  · replace hf := it_t c19 hf
    refine lv_aload_n hx hb dX5_readHead_13 rfl (lv_at hl 0 rfl) ?_
    refine lv_iconst (v := 1) hx hb dX5_readHead_14 (by decide) ?_
    obtain ⟨o20, hc21, hf⟩ := bd1_some hf
    refine ca_vV C w (wn := fun _ => w_X5_readHead g h0 h1 h2 v0_1 v0_8 v0_9 v0_10 v1_1 v1_2 v1_3 v1_4 v1_5 v1_6 v1_7 v1_8 v1_9 v1_10 v1_11 v1_12 length0 o20 o13 o14 o15 gantries1 text2) (pm_k [true, false, false] rfl rfl (fun _ => Nat.le_of_ble_eq_true rfl) (fun _ => rfl)) (c_X5_fail l g F h0 (.ref h2) v0_1 (.int length0) (.ref h1) (.int o13) (.int o15) v0_8 v0_9 v0_10 1 failure0 o14 o20 _ hc21) k_X5_78 (rm_le (by decide) (by decide)) 0 5 rfl rfl rfl rfl hl.1 rfl (Nat.le_of_ble_eq_true rfl) dX5_readHead_15 ⟨Nat.le_of_ble_eq_true rfl, Nat.le_of_ble_eq_true rfl⟩ (cells2 := 0) (slots2 := 0) ⟨rfl, rfl⟩ (fun _ H locs w => ?_)
    exact b18 o20 o13 o14 o15 gantries1 _ _ _ hf w (lv_sub hl [0] rfl)

theorem dX5_readLink_0 : decode cX5_readLink 0 = .ok (.aload_n 0, 1) := by decide +kernel
theorem dX5_readLink_1 : decode cX5_readLink 1 = .ok (.getfield 25, 3) := by decide +kernel
theorem dX5_readLink_4 : decode cX5_readLink 4 = .ok (.getfield 117, 3) := by decide +kernel
theorem dX5_readLink_7 : decode cX5_readLink 7 = .ok (.bipush 24, 2) := by decide +kernel
theorem dX5_readLink_9 : decode cX5_readLink 9 = .ok (.if_icmp .lt 8, 3) := by decide +kernel
theorem dX5_readLink_12 : decode cX5_readLink 12 = .ok (.aload_n 0, 1) := by decide +kernel
theorem dX5_readLink_13 : decode cX5_readLink 13 = .ok (.iconst 4, 1) := by decide +kernel
theorem dX5_readLink_14 : decode cX5_readLink 14 = .ok (.invokevirtual 78, 3) := by decide +kernel
theorem dX5_readLink_17 : decode cX5_readLink 17 = .ok (.aload_n 0, 1) := by decide +kernel
theorem dX5_readLink_18 : decode cX5_readLink 18 = .ok (.iconst 0, 1) := by decide +kernel
theorem dX5_readLink_19 : decode cX5_readLink 19 = .ok (.aload_n 0, 1) := by decide +kernel
theorem dX5_readLink_20 : decode cX5_readLink 20 = .ok (.getfield 25, 3) := by decide +kernel
theorem dX5_readLink_23 : decode cX5_readLink 23 = .ok (.getfield 85, 3) := by decide +kernel
theorem dX5_readLink_26 : decode cX5_readLink 26 = .ok (.iconst 1, 1) := by decide +kernel
theorem dX5_readLink_27 : decode cX5_readLink 27 = .ok (.isub, 1) := by decide +kernel
theorem dX5_readLink_28 : decode cX5_readLink 28 = .ok (.invokevirtual 82, 3) := by decide +kernel
theorem dX5_readLink_31 : decode cX5_readLink 31 = .ok (.istore_n 1, 1) := by decide +kernel
theorem dX5_readLink_32 : decode cX5_readLink 32 = .ok (.aload_n 0, 1) := by decide +kernel
theorem dX5_readLink_33 : decode cX5_readLink 33 = .ok (.iconst 0, 1) := by decide +kernel
theorem dX5_readLink_34 : decode cX5_readLink 34 = .ok (.aload_n 0, 1) := by decide +kernel
theorem dX5_readLink_35 : decode cX5_readLink 35 = .ok (.getfield 25, 3) := by decide +kernel
theorem dX5_readLink_38 : decode cX5_readLink 38 = .ok (.getfield 85, 3) := by decide +kernel
theorem dX5_readLink_41 : decode cX5_readLink 41 = .ok (.iconst 1, 1) := by decide +kernel
theorem dX5_readLink_42 : decode cX5_readLink 42 = .ok (.isub, 1) := by decide +kernel
theorem dX5_readLink_43 : decode cX5_readLink 43 = .ok (.invokevirtual 82, 3) := by decide +kernel
theorem dX5_readLink_46 : decode cX5_readLink 46 = .ok (.istore_n 2, 1) := by decide +kernel
theorem dX5_readLink_47 : decode cX5_readLink 47 = .ok (.iload_n 1, 1) := by decide +kernel
theorem dX5_readLink_48 : decode cX5_readLink 48 = .ok (.iload_n 2, 1) := by decide +kernel
theorem dX5_readLink_49 : decode cX5_readLink 49 = .ok (.if_icmp .eq 15, 3) := by decide +kernel
theorem dX5_readLink_52 : decode cX5_readLink 52 = .ok (.aload_n 0, 1) := by decide +kernel
theorem dX5_readLink_53 : decode cX5_readLink 53 = .ok (.getfield 25, 3) := by decide +kernel
theorem dX5_readLink_56 : decode cX5_readLink 56 = .ok (.iload_n 1, 1) := by decide +kernel
theorem dX5_readLink_57 : decode cX5_readLink 57 = .ok (.iload_n 2, 1) := by decide +kernel
theorem dX5_readLink_58 : decode cX5_readLink 58 = .ok (.invokevirtual 120, 3) := by decide +kernel
theorem dX5_readLink_61 : decode cX5_readLink 61 = .ok (.ifCond .le 8, 3) := by decide +kernel
theorem dX5_readLink_64 : decode cX5_readLink 64 = .ok (.aload_n 0, 1) := by decide +kernel
theorem dX5_readLink_65 : decode cX5_readLink 65 = .ok (.iconst 3, 1) := by decide +kernel
theorem dX5_readLink_66 : decode cX5_readLink 66 = .ok (.invokevirtual 78, 3) := by decide +kernel
theorem dX5_readLink_69 : decode cX5_readLink 69 = .ok (.aload_n 0, 1) := by decide +kernel
theorem dX5_readLink_70 : decode cX5_readLink 70 = .ok (.iconst 1, 1) := by decide +kernel
theorem dX5_readLink_71 : decode cX5_readLink 71 = .ok (.bipush 120, 2) := by decide +kernel
theorem dX5_readLink_73 : decode cX5_readLink 73 = .ok (.invokevirtual 82, 3) := by decide +kernel
theorem dX5_readLink_76 : decode cX5_readLink 76 = .ok (.istore_n 3, 1) := by decide +kernel
theorem dX5_readLink_77 : decode cX5_readLink 77 = .ok (.aload_n 0, 1) := by decide +kernel
theorem dX5_readLink_78 : decode cX5_readLink 78 = .ok (.iconst 1, 1) := by decide +kernel
theorem dX5_readLink_79 : decode cX5_readLink 79 = .ok (.sipush 5000, 3) := by decide +kernel
theorem dX5_readLink_82 : decode cX5_readLink 82 = .ok (.invokevirtual 82, 3) := by decide +kernel
theorem dX5_readLink_85 : decode cX5_readLink 85 = .ok (.istore 4, 2) := by decide +kernel
theorem dX5_readLink_87 : decode cX5_readLink 87 = .ok (.aload_n 0, 1) := by decide +kernel
theorem dX5_readLink_88 : decode cX5_readLink 88 = .ok (.getfield 29, 3) := by decide +kernel
theorem dX5_readLink_91 : decode cX5_readLink 91 = .ok (.ifCond .ne 15, 3) := by decide +kernel
theorem dX5_readLink_94 : decode cX5_readLink 94 = .ok (.aload_n 0, 1) := by decide +kernel
theorem dX5_readLink_95 : decode cX5_readLink 95 = .ok (.getfield 25, 3) := by decide +kernel
theorem dX5_readLink_98 : decode cX5_readLink 98 = .ok (.iload_n 1, 1) := by decide +kernel
theorem dX5_readLink_99 : decode cX5_readLink 99 = .ok (.iload_n 2, 1) := by decide +kernel
theorem dX5_readLink_100 : decode cX5_readLink 100 = .ok (.iload_n 3, 1) := by decide +kernel
theorem dX5_readLink_101 : decode cX5_readLink 101 = .ok (.iload 4, 2) := by decide +kernel
theorem dX5_readLink_103 : decode cX5_readLink 103 = .ok (.invokevirtual 123, 3) := by decide +kernel
theorem dX5_readLink_106 : decode cX5_readLink 106 = .ok (.return_, 1) := by decide +kernel
abbrev m_X5_readLink : MD := (yX5_readLink, cX5_readLink, 5, none)
theorem g_X5_85 {p : Program} {l : Launch} {e : Env} {R : Room} {s : State} {m : MethodId} {args : Array Value} {below : List Frame} {meth : Method} {c : Code} {H : Heap} {locs : List Loc} {cells slots : Nat} {Q : State → Prop} {d : MD} {g : GT} {A : Nat → Prop} {ws : va_W} {pc : Nat} {ls : Array Slot} {rest : List Value} (C : Cx p s m args meth c RX5 d g A) (w : Wd g A ws s.heap H locs) (q0 : Nat) {a : Nat} {fs : List Value} {v : Value} (he : ws[q0]? = some (a, .inr (4, fs))) (hv : fs[0]? = some v) (hd : decode d.2.1 pc = .ok (.getfield 85, 3)) (kk : W p l e R s m args below meth c H locs cells slots Q (F0 m (pc + 3) ls (v :: rest))) : W p l e R s m args below meth c H locs cells slots Q (F0 m pc ls (.ref a :: rest)) := fgN C w inX4s (ref := RX4) rfl 0 (by decide) (nw_t (w := Cond.fieldLinkNest RX5 85 RX4 (TX4 0).2.1 (TX4 0).2.2.1 "FreeFlowToll") 41 (by decide +kernel) rfl) rfl q0 he hv hd kk
theorem g_X5_117 {p : Program} {l : Launch} {e : Env} {R : Room} {s : State} {m : MethodId} {args : Array Value} {below : List Frame} {meth : Method} {c : Code} {H : Heap} {locs : List Loc} {cells slots : Nat} {Q : State → Prop} {d : MD} {g : GT} {A : Nat → Prop} {ws : va_W} {pc : Nat} {ls : Array Slot} {rest : List Value} (C : Cx p s m args meth c RX5 d g A) (w : Wd g A ws s.heap H locs) (q0 : Nat) {a : Nat} {fs : List Value} {v : Value} (he : ws[q0]? = some (a, .inr (4, fs))) (hv : fs[1]? = some v) (hd : decode d.2.1 pc = .ok (.getfield 117, 3)) (kk : W p l e R s m args below meth c H locs cells slots Q (F0 m (pc + 3) ls (v :: rest))) : W p l e R s m args below meth c H locs cells slots Q (F0 m pc ls (.ref a :: rest)) := fgN C w inX4s (ref := RX4) rfl 1 (by decide) (nw_t (w := Cond.fieldLinkNest RX5 117 RX4 (TX4 1).2.1 (TX4 1).2.2.1 "FreeFlowToll") 45 (by decide +kernel) rfl) rfl q0 he hv hd kk
theorem q_704 : Cond.code yX4_addLink cX4_addLink 5 none ∈ TS := ts_t 704 (by decide +kernel) (by decide +kernel)
theorem q_703 : Cond.instanceMethod yX4_addLink ∈ TS := ts_t 703 (by decide +kernel) (by decide +kernel)
theorem qs_34 : Cond.selects yX4_addLink.cls yX4_addLink yX4_addLink ∈ TS := ts_s 34 (by decide +kernel) (by decide +kernel)
theorem k_X5_123 : LkN RX5 123 m_X4_addLink 4 := ⟨⟨"FreeFlowToll", nw_t 701 (by decide +kernel) rfl⟩, q_703, qs_34, ⟨q_2, q_704, by decide, by decide, by decide +kernel⟩⟩
theorem k_X5_120 : LkN RX5 120 m_X4_minutesOf 2 := ⟨⟨"FreeFlowToll", nw_t 697 (by decide +kernel) rfl⟩, q_699, qs_33, ⟨q_2, q_700, by decide, by decide, by decide +kernel⟩⟩
abbrev w_X5_readLink (g : GT) (h0 h1 h2 h3 h4 : Nat) (v0_1 v0_8 v0_9 v0_10 v1_2 v1_3 v1_4 v1_5 v1_6 v1_9 v1_10 v1_11 v1_12 : Value) (length0 failure0 token0 start0 end0 gantries1 links1 : Int32) (linkMinutes2 linkPrice3 text4 : Nat → Int32) : va_W := [(h0, .inr (5, [.ref h4, v0_1, .int length0, .ref h1, .int failure0, .int token0, .int start0, .int end0, v0_8, v0_9, v0_10])), (h1, .inr (4, [.int gantries1, .int links1, v1_2, v1_3, v1_4, v1_5, v1_6, .ref h2, .ref h3, v1_9, v1_10, v1_11, v1_12])), (h2, aI g 100 linkMinutes2), (h3, aI g 100 linkPrice3), (h4, aI g 900 text4)]
def f_X5_readLink_b106 (F : Nat) (length0 gantries1 : Int32) (text4 : Nat → Int32) (failure0 token0 start0 end0 links1 : Int32) (linkMinutes2 linkPrice3 : Nat → Int32) : Option (Int32 × Int32 × Int32 × Int32 × Int32 × (Nat → Int32) × (Nat → Int32)) :=
  some (failure0, token0, start0, end0, links1, linkMinutes2, linkPrice3)
def f_X5_readLink_b69 (F : Nat) (length0 gantries1 : Int32) (text4 : Nat → Int32) (x1 x2 failure0 token0 start0 end0 links1 : Int32) (linkMinutes2 linkPrice3 : Nat → Int32) : Option (Int32 × Int32 × Int32 × Int32 × Int32 × (Nat → Int32) × (Nat → Int32)) :=
  bd5 (f_X5_readNumber F 1 120 length0 failure0 token0 start0 end0 text4) fun r1 o2 o3 o4 o5 =>
  bd5 (f_X5_readNumber F 1 5000 length0 o2 o3 o4 o5 text4) fun r7 o8 o9 o10 o11 =>
  if o8 = 0 then
    bd3 (f_X4_addLink F x1 x2 r1 r7 gantries1 links1 linkMinutes2 linkPrice3) fun o14 o15 o16 =>
    f_X5_readLink_b106 F length0 gantries1 text4 o8 o9 o10 o11 o14 o15 o16
  else
    f_X5_readLink_b106 F length0 gantries1 text4 o8 o9 o10 o11 links1 linkMinutes2 linkPrice3
def f_X5_readLink_b64 (F : Nat) (length0 gantries1 : Int32) (text4 : Nat → Int32) (x1 x2 failure0 token0 start0 end0 links1 : Int32) (linkMinutes2 linkPrice3 : Nat → Int32) : Option (Int32 × Int32 × Int32 × Int32 × Int32 × (Nat → Int32) × (Nat → Int32)) :=
  bd1 (f_X5_fail F 3 failure0 start0) fun o18 =>
  f_X5_readLink_b69 F length0 gantries1 text4 x1 x2 o18 token0 start0 end0 links1 linkMinutes2 linkPrice3
def f_X5_readLink_b17 (F : Nat) (length0 gantries1 : Int32) (text4 : Nat → Int32) (failure0 token0 start0 end0 links1 : Int32) (linkMinutes2 linkPrice3 : Nat → Int32) : Option (Int32 × Int32 × Int32 × Int32 × Int32 × (Nat → Int32) × (Nat → Int32)) :=
  bd5 (f_X5_readNumber F 0 (gantries1 - 1) length0 failure0 token0 start0 end0 text4) fun r20 o21 o22 o23 o24 =>
  bd5 (f_X5_readNumber F 0 (gantries1 - 1) length0 o21 o22 o23 o24 text4) fun r26 o27 o28 o29 o30 =>
  if r20 = r26 then
    f_X5_readLink_b64 F length0 gantries1 text4 r20 r26 o27 o28 o29 o30 links1 linkMinutes2 linkPrice3
  else
    bd1 (f_X4_minutesOf F r20 r26 gantries1 linkMinutes2) fun r33 =>
    if r33 ≤ 0 then
      f_X5_readLink_b69 F length0 gantries1 text4 r20 r26 o27 o28 o29 o30 links1 linkMinutes2 linkPrice3
    else
      f_X5_readLink_b64 F length0 gantries1 text4 r20 r26 o27 o28 o29 o30 links1 linkMinutes2 linkPrice3
def f_X5_readLink (F : Nat) (length0 failure0 token0 start0 end0 gantries1 links1 : Int32) (linkMinutes2 linkPrice3 text4 : Nat → Int32) : Option (Int32 × Int32 × Int32 × Int32 × Int32 × (Nat → Int32) × (Nat → Int32)) :=
  if links1 < 24 then
    f_X5_readLink_b17 F length0 gantries1 text4 failure0 token0 start0 end0 links1 linkMinutes2 linkPrice3
  else
    bd1 (f_X5_fail F 4 failure0 start0) fun o37 =>
    f_X5_readLink_b17 F length0 gantries1 text4 o37 token0 start0 end0 links1 linkMinutes2 linkPrice3
set_option maxHeartbeats 4000000 in
set_option maxRecDepth 100000 in
theorem c_X5_readLink (l : Launch) (g : GT) (F : Nat) (h0 h1 h2 h3 h4 : Nat) (v0_1 v0_8 v0_9 v0_10 v1_2 v1_3 v1_4 v1_5 v1_6 v1_9 v1_10 v1_11 v1_12 : Value) (length0 failure0 token0 start0 end0 gantries1 links1 : Int32) (linkMinutes2 linkPrice3 text4 : Nat → Int32) (o_failure0 o_token0 o_start0 o_end0 o_links1 : Int32) (o_linkMinutes2 o_linkPrice3 : Nat → Int32) (sz : Nat) (hf : f_X5_readLink F length0 failure0 token0 start0 end0 gantries1 links1 linkMinutes2 linkPrice3 text4 = some (o_failure0, o_token0, o_start0, o_end0, o_links1, o_linkMinutes2, o_linkPrice3)) : CV l m_X5_readLink (rml 3 0 0) g (w_X5_readLink g h0 h1 h2 h3 h4 v0_1 v0_8 v0_9 v0_10 v1_2 v1_3 v1_4 v1_5 v1_6 v1_9 v1_10 v1_11 v1_12 length0 failure0 token0 start0 end0 gantries1 links1 linkMinutes2 linkPrice3 text4) (fun _ => w_X5_readLink g h0 h1 h2 h3 h4 v0_1 v0_8 v0_9 v0_10 v1_2 v1_3 v1_4 v1_5 v1_6 v1_9 v1_10 v1_11 v1_12 length0 o_failure0 o_token0 o_start0 o_end0 gantries1 o_links1 o_linkMinutes2 o_linkPrice3 text4) sz [.ref h0] := by
  refine en_v (by decide) (Nat.le_of_ble_eq_true rfl) (fun p e s m args below meth c A ls C w hl => ?_)
  have C : Cx p s m args meth c RX5 m_X5_readLink g A := C
  have hx := C.1
  have hb : c.code = cX5_readLink := C.2.1
  have hl : lv_has ls 5 [(0, .ref h0)] := hl
  obtain ⟨Q, hQ⟩ : ∃ Q, Q = QV below args s g A (fun _ => w_X5_readLink g h0 h1 h2 h3 h4 v0_1 v0_8 v0_9 v0_10 v1_2 v1_3 v1_4 v1_5 v1_6 v1_9 v1_10 v1_11 v1_12 length0 o_failure0 o_token0 o_start0 o_end0 gantries1 o_links1 o_linkMinutes2 o_linkPrice3 text4) 0 0 := ⟨_, rfl⟩
  suffices hW : W p l e (rml 3 0 0) s m args below meth c s.heap [] 0 0 Q (F0 m 0 ls []) from (by rw [hQ] at hW; exact hW)
  unfold f_X5_readLink at hf
  have b106 : ∀ (failure0 token0 start0 end0 links1 : Int32) (linkMinutes2 linkPrice3 : Nat → Int32) (H : Heap) (locs : List Loc) (ls : Array Slot), f_X5_readLink_b106 F length0 gantries1 text4 failure0 token0 start0 end0 links1 linkMinutes2 linkPrice3 = some (o_failure0, o_token0, o_start0, o_end0, o_links1, o_linkMinutes2, o_linkPrice3) → Wd g A (w_X5_readLink g h0 h1 h2 h3 h4 v0_1 v0_8 v0_9 v0_10 v1_2 v1_3 v1_4 v1_5 v1_6 v1_9 v1_10 v1_11 v1_12 length0 failure0 token0 start0 end0 gantries1 links1 linkMinutes2 linkPrice3 text4) s.heap H locs → lv_has ls 5 [] → W p l e (rml 3 0 0) s m args below meth c H locs 0 0 Q (F0 m 106 ls []) := by
    intro failure0 token0 start0 end0 links1 linkMinutes2 linkPrice3 H locs ls hf w hl
    unfold f_X5_readLink_b106 at hf
    obtain ⟨e1, e2, e3, e4, e5, e6, e7⟩ := tp7 hf
    rw [hQ]
    exact rt_v C w rfl (fun _ => 0) (by rw [← e1, ← e2, ← e3, ← e4, ← e5, ← e6, ← e7]) dX5_readLink_106
  have b69 : ∀ (x1 x2 failure0 token0 start0 end0 links1 : Int32) (linkMinutes2 linkPrice3 : Nat → Int32) (H : Heap) (locs : List Loc) (ls : Array Slot), f_X5_readLink_b69 F length0 gantries1 text4 x1 x2 failure0 token0 start0 end0 links1 linkMinutes2 linkPrice3 = some (o_failure0, o_token0, o_start0, o_end0, o_links1, o_linkMinutes2, o_linkPrice3) → Wd g A (w_X5_readLink g h0 h1 h2 h3 h4 v0_1 v0_8 v0_9 v0_10 v1_2 v1_3 v1_4 v1_5 v1_6 v1_9 v1_10 v1_11 v1_12 length0 failure0 token0 start0 end0 gantries1 links1 linkMinutes2 linkPrice3 text4) s.heap H locs → lv_has ls 5 [(0, .ref h0), (1, .int x1), (2, .int x2)] → W p l e (rml 3 0 0) s m args below meth c H locs 0 0 Q (F0 m 69 ls []) := by
    intro x1 x2 failure0 token0 start0 end0 links1 linkMinutes2 linkPrice3 H locs ls hf w hl
    unfold f_X5_readLink_b69 at hf
    refine lv_aload_n hx hb dX5_readLink_69 rfl (lv_at hl 0 rfl) ?_
    refine lv_iconst (v := 1) hx hb dX5_readLink_70 (by decide) ?_
    refine lv_bipush (v := 120) hx hb dX5_readLink_71 (by decide) ?_
    obtain ⟨r1, o2, o3, o4, o5, hc6, hf⟩ := bd5_some hf
    refine ca_iV C w (wn := fun _ => w_X5_readLink g h0 h1 h2 h3 h4 v0_1 v0_8 v0_9 v0_10 v1_2 v1_3 v1_4 v1_5 v1_6 v1_9 v1_10 v1_11 v1_12 length0 o2 o3 o4 o5 gantries1 links1 linkMinutes2 linkPrice3 text4) (pm_k [true, false, false, false, true] rfl rfl (fun _ => Nat.le_of_ble_eq_true rfl) (fun _ => rfl)) (c_X5_readNumber l g F h0 h4 v0_1 (.ref h1) v0_8 v0_9 v0_10 1 120 length0 failure0 token0 start0 end0 text4 r1 o2 o3 o4 o5 _ hc6) k_X5_82 (rm_le (by decide) (by decide)) 0 5 rfl rfl rfl rfl hl.1 rfl (Nat.le_of_ble_eq_true rfl) dX5_readLink_73 ⟨Nat.le_of_ble_eq_true rfl, Nat.le_of_ble_eq_true rfl⟩ (cells2 := 0) (slots2 := 0) ⟨rfl, rfl⟩ (fun _ H locs w => ?_)
    refine lv_istore_n (lv' := [(3, .int r1), (0, .ref h0), (1, .int x1), (2, .int x2)]) hx hb dX5_readLink_76 rfl hl (by decide) rfl (fun ls hl => ?_)
    refine lv_aload_n hx hb dX5_readLink_77 rfl (lv_at hl 1 rfl) ?_
    refine lv_iconst (v := 1) hx hb dX5_readLink_78 (by decide) ?_
    refine lv_sipush (v := 5000) hx hb dX5_readLink_79 (by decide) ?_
    obtain ⟨r7, o8, o9, o10, o11, hc12, hf⟩ := bd5_some hf
    refine ca_iV C w (wn := fun _ => w_X5_readLink g h0 h1 h2 h3 h4 v0_1 v0_8 v0_9 v0_10 v1_2 v1_3 v1_4 v1_5 v1_6 v1_9 v1_10 v1_11 v1_12 length0 o8 o9 o10 o11 gantries1 links1 linkMinutes2 linkPrice3 text4) (pm_k [true, false, false, false, true] rfl rfl (fun _ => Nat.le_of_ble_eq_true rfl) (fun _ => rfl)) (c_X5_readNumber l g F h0 h4 v0_1 (.ref h1) v0_8 v0_9 v0_10 1 5000 length0 o2 o3 o4 o5 text4 r7 o8 o9 o10 o11 _ hc12) k_X5_82 (rm_le (by decide) (by decide)) 0 5 rfl rfl rfl rfl hl.1 rfl (Nat.le_of_ble_eq_true rfl) dX5_readLink_82 ⟨Nat.le_of_ble_eq_true rfl, Nat.le_of_ble_eq_true rfl⟩ (cells2 := 0) (slots2 := 0) ⟨rfl, rfl⟩ (fun _ H locs w => ?_)
    refine lv_istore (lv' := [(4, .int r7), (3, .int r1), (0, .ref h0), (1, .int x1), (2, .int x2)]) hx hb dX5_readLink_85 hl (by decide) rfl (fun ls hl => ?_)
    refine lv_aload_n hx hb dX5_readLink_87 rfl (lv_at hl 2 rfl) ?_
    refine g_X5_29 C w 0 rfl rfl dX5_readLink_88 ?_
    refine lv_if_ne (tgt := 106) hx hb dX5_readLink_91 (by decide) (fun c13 => ?_) (fun c13 => ?_)
    · replace hf := it_f c13 hf
      exact b106 o8 o9 o10 o11 links1 linkMinutes2 linkPrice3 _ _ _ hf w (lv_sub hl [] rfl)
    · replace hf := it_t c13 hf
      refine lv_aload_n hx hb dX5_readLink_94 rfl (lv_at hl 2 rfl) ?_
      refine g_X5_25 C w 0 rfl rfl dX5_readLink_95 ?_
      refine lv_iload_n hx hb dX5_readLink_98 rfl (lv_at hl 3 rfl) ?_
      refine lv_iload_n hx hb dX5_readLink_99 rfl (lv_at hl 4 rfl) ?_
      refine lv_iload_n hx hb dX5_readLink_100 rfl (lv_at hl 1 rfl) ?_
      refine lv_iload hx hb dX5_readLink_101 (lv_at hl 0 rfl) ?_
      obtain ⟨o14, o15, o16, hc17, hf⟩ := bd3_some hf
      refine ca_vN C w (wn := fun _ => w_X5_readLink g h0 h1 h2 h3 h4 v0_1 v0_8 v0_9 v0_10 v1_2 v1_3 v1_4 v1_5 v1_6 v1_9 v1_10 v1_11 v1_12 length0 o8 o9 o10 o11 gantries1 o14 o15 o16 text4) (pm_k [false, true, true, true, false] rfl rfl (fun _ => Nat.le_of_ble_eq_true rfl) (fun _ => rfl)) (c_X4_addLink l g F h1 h2 h3 v1_2 v1_3 v1_4 v1_5 v1_6 v1_9 v1_10 v1_11 v1_12 x1 x2 r1 r7 gantries1 links1 linkMinutes2 linkPrice3 o14 o15 o16 _ hc17) k_X5_123 (rm_le (by decide) (by decide)) 1 4 rfl rfl rfl rfl hl.1 rfl (Nat.le_of_ble_eq_true rfl) dX5_readLink_103 ⟨Nat.le_of_ble_eq_true rfl, Nat.le_of_ble_eq_true rfl⟩ (cells2 := 0) (slots2 := 0) ⟨rfl, rfl⟩ (fun _ H locs w => ?_)
      exact b106 o8 o9 o10 o11 o14 o15 o16 _ _ _ hf w (lv_sub hl [] rfl)
  have b64 : ∀ (x1 x2 failure0 token0 start0 end0 links1 : Int32) (linkMinutes2 linkPrice3 : Nat → Int32) (H : Heap) (locs : List Loc) (ls : Array Slot), f_X5_readLink_b64 F length0 gantries1 text4 x1 x2 failure0 token0 start0 end0 links1 linkMinutes2 linkPrice3 = some (o_failure0, o_token0, o_start0, o_end0, o_links1, o_linkMinutes2, o_linkPrice3) → Wd g A (w_X5_readLink g h0 h1 h2 h3 h4 v0_1 v0_8 v0_9 v0_10 v1_2 v1_3 v1_4 v1_5 v1_6 v1_9 v1_10 v1_11 v1_12 length0 failure0 token0 start0 end0 gantries1 links1 linkMinutes2 linkPrice3 text4) s.heap H locs → lv_has ls 5 [(0, .ref h0), (1, .int x1), (2, .int x2)] → W p l e (rml 3 0 0) s m args below meth c H locs 0 0 Q (F0 m 64 ls []) := by
    intro x1 x2 failure0 token0 start0 end0 links1 linkMinutes2 linkPrice3 H locs ls hf w hl
    unfold f_X5_readLink_b64 at hf
    refine lv_aload_n hx hb dX5_readLink_64 rfl (lv_at hl 0 rfl) ?_
    refine lv_iconst (v := 3) hx hb dX5_readLink_65 (by decide) ?_
    obtain ⟨o18, hc19, hf⟩ := bd1_some hf
    refine ca_vV C w (wn := fun _ => w_X5_readLink g h0 h1 h2 h3 h4 v0_1 v0_8 v0_9 v0_10 v1_2 v1_3 v1_4 v1_5 v1_6 v1_9 v1_10 v1_11 v1_12 length0 o18 token0 start0 end0 gantries1 links1 linkMinutes2 linkPrice3 text4) (pm_k [true, false, false, false, false] rfl rfl (fun _ => Nat.le_of_ble_eq_true rfl) (fun _ => rfl)) (c_X5_fail l g F h0 (.ref h4) v0_1 (.int length0) (.ref h1) (.int token0) (.int end0) v0_8 v0_9 v0_10 3 failure0 start0 o18 _ hc19) k_X5_78 (rm_le (by decide) (by decide)) 0 5 rfl rfl rfl rfl hl.1 rfl (Nat.le_of_ble_eq_true rfl) dX5_readLink_66 ⟨Nat.le_of_ble_eq_true rfl, Nat.le_of_ble_eq_true rfl⟩ (cells2 := 0) (slots2 := 0) ⟨rfl, rfl⟩ (fun _ H locs w => ?_)
    exact b69 x1 x2 o18 token0 start0 end0 links1 linkMinutes2 linkPrice3 _ _ _ hf w (lv_sub hl [0, 1, 2] rfl)
  have b17 : ∀ (failure0 token0 start0 end0 links1 : Int32) (linkMinutes2 linkPrice3 : Nat → Int32) (H : Heap) (locs : List Loc) (ls : Array Slot), f_X5_readLink_b17 F length0 gantries1 text4 failure0 token0 start0 end0 links1 linkMinutes2 linkPrice3 = some (o_failure0, o_token0, o_start0, o_end0, o_links1, o_linkMinutes2, o_linkPrice3) → Wd g A (w_X5_readLink g h0 h1 h2 h3 h4 v0_1 v0_8 v0_9 v0_10 v1_2 v1_3 v1_4 v1_5 v1_6 v1_9 v1_10 v1_11 v1_12 length0 failure0 token0 start0 end0 gantries1 links1 linkMinutes2 linkPrice3 text4) s.heap H locs → lv_has ls 5 [(0, .ref h0)] → W p l e (rml 3 0 0) s m args below meth c H locs 0 0 Q (F0 m 17 ls []) := by
    intro failure0 token0 start0 end0 links1 linkMinutes2 linkPrice3 H locs ls hf w hl
    unfold f_X5_readLink_b17 at hf
    refine lv_aload_n hx hb dX5_readLink_17 rfl (lv_at hl 0 rfl) ?_
    refine lv_iconst (v := 0) hx hb dX5_readLink_18 (by decide) ?_
    refine lv_aload_n hx hb dX5_readLink_19 rfl (lv_at hl 0 rfl) ?_
    refine g_X5_25 C w 0 rfl rfl dX5_readLink_20 ?_
    refine g_X5_85 C w 1 rfl rfl dX5_readLink_23 ?_
    refine lv_iconst (v := 1) hx hb dX5_readLink_26 (by decide) ?_
    refine lv_isub hx hb dX5_readLink_27 ?_
    obtain ⟨r20, o21, o22, o23, o24, hc25, hf⟩ := bd5_some hf
    refine ca_iV C w (wn := fun _ => w_X5_readLink g h0 h1 h2 h3 h4 v0_1 v0_8 v0_9 v0_10 v1_2 v1_3 v1_4 v1_5 v1_6 v1_9 v1_10 v1_11 v1_12 length0 o21 o22 o23 o24 gantries1 links1 linkMinutes2 linkPrice3 text4) (pm_k [true, false, false, false, true] rfl rfl (fun _ => Nat.le_of_ble_eq_true rfl) (fun _ => rfl)) (c_X5_readNumber l g F h0 h4 v0_1 (.ref h1) v0_8 v0_9 v0_10 0 (gantries1 - 1) length0 failure0 token0 start0 end0 text4 r20 o21 o22 o23 o24 _ hc25) k_X5_82 (rm_le (by decide) (by decide)) 0 5 rfl rfl rfl rfl hl.1 rfl (Nat.le_of_ble_eq_true rfl) dX5_readLink_28 ⟨Nat.le_of_ble_eq_true rfl, Nat.le_of_ble_eq_true rfl⟩ (cells2 := 0) (slots2 := 0) ⟨rfl, rfl⟩ (fun _ H locs w => ?_)
    refine lv_istore_n (lv' := [(1, .int r20), (0, .ref h0)]) hx hb dX5_readLink_31 rfl hl (by decide) rfl (fun ls hl => ?_)
    refine lv_aload_n hx hb dX5_readLink_32 rfl (lv_at hl 1 rfl) ?_
    refine lv_iconst (v := 0) hx hb dX5_readLink_33 (by decide) ?_
    refine lv_aload_n hx hb dX5_readLink_34 rfl (lv_at hl 1 rfl) ?_
    refine g_X5_25 C w 0 rfl rfl dX5_readLink_35 ?_
    refine g_X5_85 C w 1 rfl rfl dX5_readLink_38 ?_
    refine lv_iconst (v := 1) hx hb dX5_readLink_41 (by decide) ?_
    refine lv_isub hx hb dX5_readLink_42 ?_
    obtain ⟨r26, o27, o28, o29, o30, hc31, hf⟩ := bd5_some hf
    refine ca_iV C w (wn := fun _ => w_X5_readLink g h0 h1 h2 h3 h4 v0_1 v0_8 v0_9 v0_10 v1_2 v1_3 v1_4 v1_5 v1_6 v1_9 v1_10 v1_11 v1_12 length0 o27 o28 o29 o30 gantries1 links1 linkMinutes2 linkPrice3 text4) (pm_k [true, false, false, false, true] rfl rfl (fun _ => Nat.le_of_ble_eq_true rfl) (fun _ => rfl)) (c_X5_readNumber l g F h0 h4 v0_1 (.ref h1) v0_8 v0_9 v0_10 0 (gantries1 - 1) length0 o21 o22 o23 o24 text4 r26 o27 o28 o29 o30 _ hc31) k_X5_82 (rm_le (by decide) (by decide)) 0 5 rfl rfl rfl rfl hl.1 rfl (Nat.le_of_ble_eq_true rfl) dX5_readLink_43 ⟨Nat.le_of_ble_eq_true rfl, Nat.le_of_ble_eq_true rfl⟩ (cells2 := 0) (slots2 := 0) ⟨rfl, rfl⟩ (fun _ H locs w => ?_)
    refine lv_istore_n (lv' := [(2, .int r26), (1, .int r20), (0, .ref h0)]) hx hb dX5_readLink_46 rfl hl (by decide) rfl (fun ls hl => ?_)
    refine lv_iload_n hx hb dX5_readLink_47 rfl (lv_at hl 1 rfl) ?_
    refine lv_iload_n hx hb dX5_readLink_48 rfl (lv_at hl 0 rfl) ?_
    refine lv_icmp_eq (tgt := 64) hx hb dX5_readLink_49 (by decide) (fun c32 => ?_) (fun c32 => ?_)
    · replace hf := it_t c32 hf
      exact b64 r20 r26 o27 o28 o29 o30 links1 linkMinutes2 linkPrice3 _ _ _ hf w (lv_sub hl [2, 1, 0] rfl)
    · replace hf := it_f c32 hf
      refine lv_aload_n hx hb dX5_readLink_52 rfl (lv_at hl 2 rfl) ?_
      refine g_X5_25 C w 0 rfl rfl dX5_readLink_53 ?_
      refine lv_iload_n hx hb dX5_readLink_56 rfl (lv_at hl 1 rfl) ?_
      refine lv_iload_n hx hb dX5_readLink_57 rfl (lv_at hl 0 rfl) ?_
      obtain ⟨r33, hc34, hf⟩ := bd1_some hf
      refine ca_iN C w (wn := fun _ => w_X5_readLink g h0 h1 h2 h3 h4 v0_1 v0_8 v0_9 v0_10 v1_2 v1_3 v1_4 v1_5 v1_6 v1_9 v1_10 v1_11 v1_12 length0 o27 o28 o29 o30 gantries1 links1 linkMinutes2 linkPrice3 text4) (pm_k [false, true, true, false, false] rfl rfl (fun _ => Nat.le_of_ble_eq_true rfl) (fun _ => rfl)) (c_X4_minutesOf l g F h1 h2 (.int links1) v1_2 v1_3 v1_4 v1_5 v1_6 (.ref h3) v1_9 v1_10 v1_11 v1_12 r20 r26 gantries1 linkMinutes2 r33 _ hc34) k_X5_120 (rm_le (by decide) (by decide)) 1 4 rfl rfl rfl rfl hl.1 rfl (Nat.le_of_ble_eq_true rfl) dX5_readLink_58 ⟨Nat.le_of_ble_eq_true rfl, Nat.le_of_ble_eq_true rfl⟩ (cells2 := 0) (slots2 := 0) ⟨rfl, rfl⟩ (fun _ H locs w => ?_)
      refine lv_if_le (tgt := 69) hx hb dX5_readLink_61 (by decide) (fun c35 => ?_) (fun c35 => ?_)
      · replace hf := it_t c35 hf
        exact b69 r20 r26 o27 o28 o29 o30 links1 linkMinutes2 linkPrice3 _ _ _ hf w (lv_sub hl [2, 1, 0] rfl)
      · replace hf := it_f c35 hf
        exact b64 r20 r26 o27 o28 o29 o30 links1 linkMinutes2 linkPrice3 _ _ _ hf w (lv_sub hl [2, 1, 0] rfl)
  refine lv_aload_n hx hb dX5_readLink_0 rfl (lv_at hl 0 rfl) ?_
  refine g_X5_25 C w 0 rfl rfl dX5_readLink_1 ?_
  refine g_X5_117 C w 1 rfl rfl dX5_readLink_4 ?_
  refine lv_bipush (v := 24) hx hb dX5_readLink_7 (by decide) ?_
  refine lv_icmp_lt (tgt := 17) hx hb dX5_readLink_9 (by decide) (fun c36 => ?_) (fun c36 => ?_)
  · replace hf := it_t c36 hf
    exact b17 failure0 token0 start0 end0 links1 linkMinutes2 linkPrice3 _ _ _ hf w (lv_sub hl [0] rfl)
  · replace hf := it_f c36 hf
    refine lv_aload_n hx hb dX5_readLink_12 rfl (lv_at hl 0 rfl) ?_
    refine lv_iconst (v := 4) hx hb dX5_readLink_13 (by decide) ?_
    obtain ⟨o37, hc38, hf⟩ := bd1_some hf
    refine ca_vV C w (wn := fun _ => w_X5_readLink g h0 h1 h2 h3 h4 v0_1 v0_8 v0_9 v0_10 v1_2 v1_3 v1_4 v1_5 v1_6 v1_9 v1_10 v1_11 v1_12 length0 o37 token0 start0 end0 gantries1 links1 linkMinutes2 linkPrice3 text4) (pm_k [true, false, false, false, false] rfl rfl (fun _ => Nat.le_of_ble_eq_true rfl) (fun _ => rfl)) (c_X5_fail l g F h0 (.ref h4) v0_1 (.int length0) (.ref h1) (.int token0) (.int end0) v0_8 v0_9 v0_10 4 failure0 start0 o37 _ hc38) k_X5_78 (rm_le (by decide) (by decide)) 0 5 rfl rfl rfl rfl hl.1 rfl (Nat.le_of_ble_eq_true rfl) dX5_readLink_14 ⟨Nat.le_of_ble_eq_true rfl, Nat.le_of_ble_eq_true rfl⟩ (cells2 := 0) (slots2 := 0) ⟨rfl, rfl⟩ (fun _ H locs w => ?_)
    exact b17 o37 token0 start0 end0 links1 linkMinutes2 linkPrice3 _ _ _ hf w (lv_sub hl [0] rfl)

theorem dX5_readClass_0 : decode cX5_readClass 0 = .ok (.aload_n 0, 1) := by decide +kernel
theorem dX5_readClass_1 : decode cX5_readClass 1 = .ok (.getfield 25, 3) := by decide +kernel
theorem dX5_readClass_4 : decode cX5_readClass 4 = .ok (.getfield 127, 3) := by decide +kernel
theorem dX5_readClass_7 : decode cX5_readClass 7 = .ok (.iconst 4, 1) := by decide +kernel
theorem dX5_readClass_8 : decode cX5_readClass 8 = .ok (.if_icmp .lt 8, 3) := by decide +kernel
theorem dX5_readClass_11 : decode cX5_readClass 11 = .ok (.aload_n 0, 1) := by decide +kernel
theorem dX5_readClass_12 : decode cX5_readClass 12 = .ok (.iconst 4, 1) := by decide +kernel
theorem dX5_readClass_13 : decode cX5_readClass 13 = .ok (.invokevirtual 78, 3) := by decide +kernel
theorem dX5_readClass_16 : decode cX5_readClass 16 = .ok (.aload_n 0, 1) := by decide +kernel
theorem dX5_readClass_17 : decode cX5_readClass 17 = .ok (.iconst 2, 1) := by decide +kernel
theorem dX5_readClass_18 : decode cX5_readClass 18 = .ok (.aload_n 0, 1) := by decide +kernel
theorem dX5_readClass_19 : decode cX5_readClass 19 = .ok (.getfield 25, 3) := by decide +kernel
theorem dX5_readClass_22 : decode cX5_readClass 22 = .ok (.invokevirtual 130, 3) := by decide +kernel
theorem dX5_readClass_25 : decode cX5_readClass 25 = .ok (.iconst 1, 1) := by decide +kernel
theorem dX5_readClass_26 : decode cX5_readClass 26 = .ok (.iadd, 1) := by decide +kernel
theorem dX5_readClass_27 : decode cX5_readClass 27 = .ok (.invokestatic 134, 3) := by decide +kernel
theorem dX5_readClass_30 : decode cX5_readClass 30 = .ok (.bipush 9, 2) := by decide +kernel
theorem dX5_readClass_32 : decode cX5_readClass 32 = .ok (.invokevirtual 82, 3) := by decide +kernel
theorem dX5_readClass_35 : decode cX5_readClass 35 = .ok (.istore_n 1, 1) := by decide +kernel
theorem dX5_readClass_36 : decode cX5_readClass 36 = .ok (.aload_n 0, 1) := by decide +kernel
theorem dX5_readClass_37 : decode cX5_readClass 37 = .ok (.iconst 1, 1) := by decide +kernel
theorem dX5_readClass_38 : decode cX5_readClass 38 = .ok (.sipush 900, 3) := by decide +kernel
theorem dX5_readClass_41 : decode cX5_readClass 41 = .ok (.invokevirtual 82, 3) := by decide +kernel
theorem dX5_readClass_44 : decode cX5_readClass 44 = .ok (.istore_n 2, 1) := by decide +kernel
theorem dX5_readClass_45 : decode cX5_readClass 45 = .ok (.aload_n 0, 1) := by decide +kernel
theorem dX5_readClass_46 : decode cX5_readClass 46 = .ok (.getfield 29, 3) := by decide +kernel
theorem dX5_readClass_49 : decode cX5_readClass 49 = .ok (.ifCond .ne 12, 3) := by decide +kernel
theorem dX5_readClass_52 : decode cX5_readClass 52 = .ok (.aload_n 0, 1) := by decide +kernel
theorem dX5_readClass_53 : decode cX5_readClass 53 = .ok (.getfield 25, 3) := by decide +kernel
theorem dX5_readClass_56 : decode cX5_readClass 56 = .ok (.iload_n 1, 1) := by decide +kernel
theorem dX5_readClass_57 : decode cX5_readClass 57 = .ok (.iload_n 2, 1) := by decide +kernel
theorem dX5_readClass_58 : decode cX5_readClass 58 = .ok (.invokevirtual 137, 3) := by decide +kernel
theorem dX5_readClass_61 : decode cX5_readClass 61 = .ok (.return_, 1) := by decide +kernel
abbrev m_X5_readClass : MD := (yX5_readClass, cX5_readClass, 3, none)
theorem q_718 : Cond.methodLink RX5 134 Lib.Math.max.name ∈ TS := ts_t 718 (by decide +kernel) (by decide +kernel)
theorem g_X5_127 {p : Program} {l : Launch} {e : Env} {R : Room} {s : State} {m : MethodId} {args : Array Value} {below : List Frame} {meth : Method} {c : Code} {H : Heap} {locs : List Loc} {cells slots : Nat} {Q : State → Prop} {d : MD} {g : GT} {A : Nat → Prop} {ws : va_W} {pc : Nat} {ls : Array Slot} {rest : List Value} (C : Cx p s m args meth c RX5 d g A) (w : Wd g A ws s.heap H locs) (q0 : Nat) {a : Nat} {fs : List Value} {v : Value} (he : ws[q0]? = some (a, .inr (4, fs))) (hv : fs[2]? = some v) (hd : decode d.2.1 pc = .ok (.getfield 127, 3)) (kk : W p l e R s m args below meth c H locs cells slots Q (F0 m (pc + 3) ls (v :: rest))) : W p l e R s m args below meth c H locs cells slots Q (F0 m pc ls (.ref a :: rest)) := fgN C w inX4s (ref := RX4) rfl 2 (by decide) (nw_t (w := Cond.fieldLinkNest RX5 127 RX4 (TX4 2).2.1 (TX4 2).2.2.1 "FreeFlowToll") 47 (by decide +kernel) rfl) rfl q0 he hv hd kk
theorem q_717 : Cond.code yX4_lastClassAxles cX4_lastClassAxles 1 (some .int) ∈ TS := ts_t 717 (by decide +kernel) (by decide +kernel)
theorem q_716 : Cond.instanceMethod yX4_lastClassAxles ∈ TS := ts_t 716 (by decide +kernel) (by decide +kernel)
theorem qs_37 : Cond.selects yX4_lastClassAxles.cls yX4_lastClassAxles yX4_lastClassAxles ∈ TS := ts_s 37 (by decide +kernel) (by decide +kernel)
theorem k_X5_130 : LkN RX5 130 m_X4_lastClassAxles 0 := ⟨⟨"FreeFlowToll", nw_t 714 (by decide +kernel) rfl⟩, q_716, qs_37, ⟨q_2, q_717, by decide, by decide, by decide +kernel⟩⟩
theorem q_722 : Cond.code yX4_addClass cX4_addClass 3 none ∈ TS := ts_t 722 (by decide +kernel) (by decide +kernel)
theorem q_721 : Cond.instanceMethod yX4_addClass ∈ TS := ts_t 721 (by decide +kernel) (by decide +kernel)
theorem qs_38 : Cond.selects yX4_addClass.cls yX4_addClass yX4_addClass ∈ TS := ts_s 38 (by decide +kernel) (by decide +kernel)
theorem k_X5_137 : LkN RX5 137 m_X4_addClass 2 := ⟨⟨"FreeFlowToll", nw_t 719 (by decide +kernel) rfl⟩, q_721, qs_38, ⟨q_2, q_722, by decide, by decide, by decide +kernel⟩⟩
abbrev w_X5_readClass (g : GT) (h0 h1 h2 h3 h4 : Nat) (v0_1 v0_8 v0_9 v0_10 v1_0 v1_1 v1_3 v1_4 v1_5 v1_6 v1_7 v1_8 v1_11 v1_12 : Value) (length0 failure0 token0 start0 end0 classes1 : Int32) (classAxles2 classPercent3 text4 : Nat → Int32) : va_W := [(h0, .inr (5, [.ref h4, v0_1, .int length0, .ref h1, .int failure0, .int token0, .int start0, .int end0, v0_8, v0_9, v0_10])), (h1, .inr (4, [v1_0, v1_1, .int classes1, v1_3, v1_4, v1_5, v1_6, v1_7, v1_8, .ref h2, .ref h3, v1_11, v1_12])), (h2, aI g 4 classAxles2), (h3, aI g 4 classPercent3), (h4, aI g 900 text4)]
def f_X5_readClass_b61 (F : Nat) (length0 : Int32) (text4 : Nat → Int32) (failure0 token0 start0 end0 classes1 : Int32) (classAxles2 classPercent3 : Nat → Int32) : Option (Int32 × Int32 × Int32 × Int32 × Int32 × (Nat → Int32) × (Nat → Int32)) :=
  some (failure0, token0, start0, end0, classes1, classAxles2, classPercent3)
def f_X5_readClass_b16 (F : Nat) (length0 : Int32) (text4 : Nat → Int32) (failure0 token0 start0 end0 classes1 : Int32) (classAxles2 classPercent3 : Nat → Int32) : Option (Int32 × Int32 × Int32 × Int32 × Int32 × (Nat → Int32) × (Nat → Int32)) :=
  bd1 (f_X4_lastClassAxles F classes1 classAxles2) fun r1 =>
  bd5 (f_X5_readNumber F (if (2 : Int32) < (r1 + 1) then (r1 + 1) else (2 : Int32)) 9 length0 failure0 token0 start0 end0 text4) fun r3 o4 o5 o6 o7 =>
  bd5 (f_X5_readNumber F 1 900 length0 o4 o5 o6 o7 text4) fun r9 o10 o11 o12 o13 =>
  if o10 = 0 then
    bd3 (f_X4_addClass F r3 r9 classes1 classAxles2 classPercent3) fun o16 o17 o18 =>
    f_X5_readClass_b61 F length0 text4 o10 o11 o12 o13 o16 o17 o18
  else
    f_X5_readClass_b61 F length0 text4 o10 o11 o12 o13 classes1 classAxles2 classPercent3
def f_X5_readClass (F : Nat) (length0 failure0 token0 start0 end0 classes1 : Int32) (classAxles2 classPercent3 text4 : Nat → Int32) : Option (Int32 × Int32 × Int32 × Int32 × Int32 × (Nat → Int32) × (Nat → Int32)) :=
  if classes1 < 4 then
    f_X5_readClass_b16 F length0 text4 failure0 token0 start0 end0 classes1 classAxles2 classPercent3
  else
    bd1 (f_X5_fail F 4 failure0 start0) fun o21 =>
    f_X5_readClass_b16 F length0 text4 o21 token0 start0 end0 classes1 classAxles2 classPercent3
set_option maxHeartbeats 4000000 in
set_option maxRecDepth 100000 in
theorem c_X5_readClass (l : Launch) (g : GT) (F : Nat) (h0 h1 h2 h3 h4 : Nat) (v0_1 v0_8 v0_9 v0_10 v1_0 v1_1 v1_3 v1_4 v1_5 v1_6 v1_7 v1_8 v1_11 v1_12 : Value) (length0 failure0 token0 start0 end0 classes1 : Int32) (classAxles2 classPercent3 text4 : Nat → Int32) (o_failure0 o_token0 o_start0 o_end0 o_classes1 : Int32) (o_classAxles2 o_classPercent3 : Nat → Int32) (sz : Nat) (hf : f_X5_readClass F length0 failure0 token0 start0 end0 classes1 classAxles2 classPercent3 text4 = some (o_failure0, o_token0, o_start0, o_end0, o_classes1, o_classAxles2, o_classPercent3)) : CV l m_X5_readClass (rml 3 0 0) g (w_X5_readClass g h0 h1 h2 h3 h4 v0_1 v0_8 v0_9 v0_10 v1_0 v1_1 v1_3 v1_4 v1_5 v1_6 v1_7 v1_8 v1_11 v1_12 length0 failure0 token0 start0 end0 classes1 classAxles2 classPercent3 text4) (fun _ => w_X5_readClass g h0 h1 h2 h3 h4 v0_1 v0_8 v0_9 v0_10 v1_0 v1_1 v1_3 v1_4 v1_5 v1_6 v1_7 v1_8 v1_11 v1_12 length0 o_failure0 o_token0 o_start0 o_end0 o_classes1 o_classAxles2 o_classPercent3 text4) sz [.ref h0] := by
  refine en_v (by decide) (Nat.le_of_ble_eq_true rfl) (fun p e s m args below meth c A ls C w hl => ?_)
  have C : Cx p s m args meth c RX5 m_X5_readClass g A := C
  have hx := C.1
  have hb : c.code = cX5_readClass := C.2.1
  have hl : lv_has ls 3 [(0, .ref h0)] := hl
  obtain ⟨Q, hQ⟩ : ∃ Q, Q = QV below args s g A (fun _ => w_X5_readClass g h0 h1 h2 h3 h4 v0_1 v0_8 v0_9 v0_10 v1_0 v1_1 v1_3 v1_4 v1_5 v1_6 v1_7 v1_8 v1_11 v1_12 length0 o_failure0 o_token0 o_start0 o_end0 o_classes1 o_classAxles2 o_classPercent3 text4) 0 0 := ⟨_, rfl⟩
  suffices hW : W p l e (rml 3 0 0) s m args below meth c s.heap [] 0 0 Q (F0 m 0 ls []) from (by rw [hQ] at hW; exact hW)
  unfold f_X5_readClass at hf
  have b61 : ∀ (failure0 token0 start0 end0 classes1 : Int32) (classAxles2 classPercent3 : Nat → Int32) (H : Heap) (locs : List Loc) (ls : Array Slot), f_X5_readClass_b61 F length0 text4 failure0 token0 start0 end0 classes1 classAxles2 classPercent3 = some (o_failure0, o_token0, o_start0, o_end0, o_classes1, o_classAxles2, o_classPercent3) → Wd g A (w_X5_readClass g h0 h1 h2 h3 h4 v0_1 v0_8 v0_9 v0_10 v1_0 v1_1 v1_3 v1_4 v1_5 v1_6 v1_7 v1_8 v1_11 v1_12 length0 failure0 token0 start0 end0 classes1 classAxles2 classPercent3 text4) s.heap H locs → lv_has ls 3 [] → W p l e (rml 3 0 0) s m args below meth c H locs 0 0 Q (F0 m 61 ls []) := by
    intro failure0 token0 start0 end0 classes1 classAxles2 classPercent3 H locs ls hf w hl
    unfold f_X5_readClass_b61 at hf
    obtain ⟨e1, e2, e3, e4, e5, e6, e7⟩ := tp7 hf
    rw [hQ]
    exact rt_v C w rfl (fun _ => 0) (by rw [← e1, ← e2, ← e3, ← e4, ← e5, ← e6, ← e7]) dX5_readClass_61
  have b16 : ∀ (failure0 token0 start0 end0 classes1 : Int32) (classAxles2 classPercent3 : Nat → Int32) (H : Heap) (locs : List Loc) (ls : Array Slot), f_X5_readClass_b16 F length0 text4 failure0 token0 start0 end0 classes1 classAxles2 classPercent3 = some (o_failure0, o_token0, o_start0, o_end0, o_classes1, o_classAxles2, o_classPercent3) → Wd g A (w_X5_readClass g h0 h1 h2 h3 h4 v0_1 v0_8 v0_9 v0_10 v1_0 v1_1 v1_3 v1_4 v1_5 v1_6 v1_7 v1_8 v1_11 v1_12 length0 failure0 token0 start0 end0 classes1 classAxles2 classPercent3 text4) s.heap H locs → lv_has ls 3 [(0, .ref h0)] → W p l e (rml 3 0 0) s m args below meth c H locs 0 0 Q (F0 m 16 ls []) := by
    intro failure0 token0 start0 end0 classes1 classAxles2 classPercent3 H locs ls hf w hl
    unfold f_X5_readClass_b16 at hf
    refine lv_aload_n hx hb dX5_readClass_16 rfl (lv_at hl 0 rfl) ?_
    refine lv_iconst (v := 2) hx hb dX5_readClass_17 (by decide) ?_
    refine lv_aload_n hx hb dX5_readClass_18 rfl (lv_at hl 0 rfl) ?_
    refine g_X5_25 C w 0 rfl rfl dX5_readClass_19 ?_
    obtain ⟨r1, hc2, hf⟩ := bd1_some hf
    refine ca_iN C w (wn := fun _ => w_X5_readClass g h0 h1 h2 h3 h4 v0_1 v0_8 v0_9 v0_10 v1_0 v1_1 v1_3 v1_4 v1_5 v1_6 v1_7 v1_8 v1_11 v1_12 length0 failure0 token0 start0 end0 classes1 classAxles2 classPercent3 text4) (pm_k [false, true, true, false, false] rfl rfl (fun _ => Nat.le_of_ble_eq_true rfl) (fun _ => rfl)) (c_X4_lastClassAxles l g F h1 h2 v1_0 v1_1 v1_3 v1_4 v1_5 v1_6 v1_7 v1_8 (.ref h3) v1_11 v1_12 classes1 classAxles2 r1 _ hc2) k_X5_130 (rm_le (by decide) (by decide)) 1 4 rfl rfl rfl rfl hl.1 rfl (Nat.le_of_ble_eq_true rfl) dX5_readClass_22 ⟨Nat.le_of_ble_eq_true rfl, Nat.le_of_ble_eq_true rfl⟩ (cells2 := 0) (slots2 := 0) ⟨rfl, rfl⟩ (fun _ H locs w => ?_)
    refine lv_iconst (v := 1) hx hb dX5_readClass_25 (by decide) ?_
    refine lv_iadd hx hb dX5_readClass_26 ?_
    refine mmx C hl.1 q_718 q_474 q_16 q_475 (Nat.le_of_ble_eq_true rfl) (Nat.le_of_ble_eq_true rfl) (Nat.le_of_ble_eq_true rfl) (Nat.le_of_ble_eq_true rfl) dX5_readClass_27 ?_
    refine lv_bipush (v := 9) hx hb dX5_readClass_30 (by decide) ?_
    obtain ⟨r3, o4, o5, o6, o7, hc8, hf⟩ := bd5_some hf
    refine ca_iV C w (wn := fun _ => w_X5_readClass g h0 h1 h2 h3 h4 v0_1 v0_8 v0_9 v0_10 v1_0 v1_1 v1_3 v1_4 v1_5 v1_6 v1_7 v1_8 v1_11 v1_12 length0 o4 o5 o6 o7 classes1 classAxles2 classPercent3 text4) (pm_k [true, false, false, false, true] rfl rfl (fun _ => Nat.le_of_ble_eq_true rfl) (fun _ => rfl)) (c_X5_readNumber l g F h0 h4 v0_1 (.ref h1) v0_8 v0_9 v0_10 (if (2 : Int32) < (r1 + 1) then (r1 + 1) else (2 : Int32)) 9 length0 failure0 token0 start0 end0 text4 r3 o4 o5 o6 o7 _ hc8) k_X5_82 (rm_le (by decide) (by decide)) 0 5 rfl rfl rfl rfl hl.1 rfl (Nat.le_of_ble_eq_true rfl) dX5_readClass_32 ⟨Nat.le_of_ble_eq_true rfl, Nat.le_of_ble_eq_true rfl⟩ (cells2 := 0) (slots2 := 0) ⟨rfl, rfl⟩ (fun _ H locs w => ?_)
    refine lv_istore_n (lv' := [(1, .int r3), (0, .ref h0)]) hx hb dX5_readClass_35 rfl hl (by decide) rfl (fun ls hl => ?_)
    refine lv_aload_n hx hb dX5_readClass_36 rfl (lv_at hl 1 rfl) ?_
    refine lv_iconst (v := 1) hx hb dX5_readClass_37 (by decide) ?_
    refine lv_sipush (v := 900) hx hb dX5_readClass_38 (by decide) ?_
    obtain ⟨r9, o10, o11, o12, o13, hc14, hf⟩ := bd5_some hf
    refine ca_iV C w (wn := fun _ => w_X5_readClass g h0 h1 h2 h3 h4 v0_1 v0_8 v0_9 v0_10 v1_0 v1_1 v1_3 v1_4 v1_5 v1_6 v1_7 v1_8 v1_11 v1_12 length0 o10 o11 o12 o13 classes1 classAxles2 classPercent3 text4) (pm_k [true, false, false, false, true] rfl rfl (fun _ => Nat.le_of_ble_eq_true rfl) (fun _ => rfl)) (c_X5_readNumber l g F h0 h4 v0_1 (.ref h1) v0_8 v0_9 v0_10 1 900 length0 o4 o5 o6 o7 text4 r9 o10 o11 o12 o13 _ hc14) k_X5_82 (rm_le (by decide) (by decide)) 0 5 rfl rfl rfl rfl hl.1 rfl (Nat.le_of_ble_eq_true rfl) dX5_readClass_41 ⟨Nat.le_of_ble_eq_true rfl, Nat.le_of_ble_eq_true rfl⟩ (cells2 := 0) (slots2 := 0) ⟨rfl, rfl⟩ (fun _ H locs w => ?_)
    refine lv_istore_n (lv' := [(2, .int r9), (1, .int r3), (0, .ref h0)]) hx hb dX5_readClass_44 rfl hl (by decide) rfl (fun ls hl => ?_)
    refine lv_aload_n hx hb dX5_readClass_45 rfl (lv_at hl 2 rfl) ?_
    refine g_X5_29 C w 0 rfl rfl dX5_readClass_46 ?_
    refine lv_if_ne (tgt := 61) hx hb dX5_readClass_49 (by decide) (fun c15 => ?_) (fun c15 => ?_)
    · replace hf := it_f c15 hf
      exact b61 o10 o11 o12 o13 classes1 classAxles2 classPercent3 _ _ _ hf w (lv_sub hl [] rfl)
    · replace hf := it_t c15 hf
      refine lv_aload_n hx hb dX5_readClass_52 rfl (lv_at hl 2 rfl) ?_
      refine g_X5_25 C w 0 rfl rfl dX5_readClass_53 ?_
      refine lv_iload_n hx hb dX5_readClass_56 rfl (lv_at hl 1 rfl) ?_
      refine lv_iload_n hx hb dX5_readClass_57 rfl (lv_at hl 0 rfl) ?_
      obtain ⟨o16, o17, o18, hc19, hf⟩ := bd3_some hf
      refine ca_vN C w (wn := fun _ => w_X5_readClass g h0 h1 h2 h3 h4 v0_1 v0_8 v0_9 v0_10 v1_0 v1_1 v1_3 v1_4 v1_5 v1_6 v1_7 v1_8 v1_11 v1_12 length0 o10 o11 o12 o13 o16 o17 o18 text4) (pm_k [false, true, true, true, false] rfl rfl (fun _ => Nat.le_of_ble_eq_true rfl) (fun _ => rfl)) (c_X4_addClass l g F h1 h2 h3 v1_0 v1_1 v1_3 v1_4 v1_5 v1_6 v1_7 v1_8 v1_11 v1_12 r3 r9 classes1 classAxles2 classPercent3 o16 o17 o18 _ hc19) k_X5_137 (rm_le (by decide) (by decide)) 1 4 rfl rfl rfl rfl hl.1 rfl (Nat.le_of_ble_eq_true rfl) dX5_readClass_58 ⟨Nat.le_of_ble_eq_true rfl, Nat.le_of_ble_eq_true rfl⟩ (cells2 := 0) (slots2 := 0) ⟨rfl, rfl⟩ (fun _ H locs w => ?_)
      exact b61 o10 o11 o12 o13 o16 o17 o18 _ _ _ hf w (lv_sub hl [] rfl)
  refine lv_aload_n hx hb dX5_readClass_0 rfl (lv_at hl 0 rfl) ?_
  refine g_X5_25 C w 0 rfl rfl dX5_readClass_1 ?_
  refine g_X5_127 C w 1 rfl rfl dX5_readClass_4 ?_
  refine lv_iconst (v := 4) hx hb dX5_readClass_7 (by decide) ?_
  refine lv_icmp_lt (tgt := 16) hx hb dX5_readClass_8 (by decide) (fun c20 => ?_) (fun c20 => ?_)
  · replace hf := it_t c20 hf
    exact b16 failure0 token0 start0 end0 classes1 classAxles2 classPercent3 _ _ _ hf w (lv_sub hl [0] rfl)
  · replace hf := it_f c20 hf
    refine lv_aload_n hx hb dX5_readClass_11 rfl (lv_at hl 0 rfl) ?_
    refine lv_iconst (v := 4) hx hb dX5_readClass_12 (by decide) ?_
    obtain ⟨o21, hc22, hf⟩ := bd1_some hf
    refine ca_vV C w (wn := fun _ => w_X5_readClass g h0 h1 h2 h3 h4 v0_1 v0_8 v0_9 v0_10 v1_0 v1_1 v1_3 v1_4 v1_5 v1_6 v1_7 v1_8 v1_11 v1_12 length0 o21 token0 start0 end0 classes1 classAxles2 classPercent3 text4) (pm_k [true, false, false, false, false] rfl rfl (fun _ => Nat.le_of_ble_eq_true rfl) (fun _ => rfl)) (c_X5_fail l g F h0 (.ref h4) v0_1 (.int length0) (.ref h1) (.int token0) (.int end0) v0_8 v0_9 v0_10 4 failure0 start0 o21 _ hc22) k_X5_78 (rm_le (by decide) (by decide)) 0 5 rfl rfl rfl rfl hl.1 rfl (Nat.le_of_ble_eq_true rfl) dX5_readClass_13 ⟨Nat.le_of_ble_eq_true rfl, Nat.le_of_ble_eq_true rfl⟩ (cells2 := 0) (slots2 := 0) ⟨rfl, rfl⟩ (fun _ H locs w => ?_)
    exact b16 o21 token0 start0 end0 classes1 classAxles2 classPercent3 _ _ _ hf w (lv_sub hl [0] rfl)

theorem dX5_readTagStatement_0 : decode cX5_readTagStatement 0 = .ok (.aload_n 0, 1) := by decide +kernel
theorem dX5_readTagStatement_1 : decode cX5_readTagStatement 1 = .ok (.getfield 25, 3) := by decide +kernel
theorem dX5_readTagStatement_4 : decode cX5_readTagStatement 4 = .ok (.getfield 141, 3) := by decide +kernel
theorem dX5_readTagStatement_7 : decode cX5_readTagStatement 7 = .ok (.bipush 12, 2) := by decide +kernel
theorem dX5_readTagStatement_9 : decode cX5_readTagStatement 9 = .ok (.if_icmp .lt 8, 3) := by decide +kernel
theorem dX5_readTagStatement_12 : decode cX5_readTagStatement 12 = .ok (.aload_n 0, 1) := by decide +kernel
theorem dX5_readTagStatement_13 : decode cX5_readTagStatement 13 = .ok (.iconst 4, 1) := by decide +kernel
theorem dX5_readTagStatement_14 : decode cX5_readTagStatement 14 = .ok (.invokevirtual 78, 3) := by decide +kernel
theorem dX5_readTagStatement_17 : decode cX5_readTagStatement 17 = .ok (.aload_n 0, 1) := by decide +kernel
theorem dX5_readTagStatement_18 : decode cX5_readTagStatement 18 = .ok (.iconst 1, 1) := by decide +kernel
theorem dX5_readTagStatement_19 : decode cX5_readTagStatement 19 = .ok (.sipush 9999, 3) := by decide +kernel
theorem dX5_readTagStatement_22 : decode cX5_readTagStatement 22 = .ok (.invokevirtual 82, 3) := by decide +kernel
theorem dX5_readTagStatement_25 : decode cX5_readTagStatement 25 = .ok (.istore_n 1, 1) := by decide +kernel
theorem dX5_readTagStatement_26 : decode cX5_readTagStatement 26 = .ok (.aload_n 0, 1) := by decide +kernel
theorem dX5_readTagStatement_27 : decode cX5_readTagStatement 27 = .ok (.getfield 25, 3) := by decide +kernel
theorem dX5_readTagStatement_30 : decode cX5_readTagStatement 30 = .ok (.iload_n 1, 1) := by decide +kernel
theorem dX5_readTagStatement_31 : decode cX5_readTagStatement 31 = .ok (.invokevirtual 144, 3) := by decide +kernel
theorem dX5_readTagStatement_34 : decode cX5_readTagStatement 34 = .ok (.iconst (-1), 1) := by decide +kernel
theorem dX5_readTagStatement_35 : decode cX5_readTagStatement 35 = .ok (.if_icmp .eq 8, 3) := by decide +kernel
theorem dX5_readTagStatement_38 : decode cX5_readTagStatement 38 = .ok (.aload_n 0, 1) := by decide +kernel
theorem dX5_readTagStatement_39 : decode cX5_readTagStatement 39 = .ok (.iconst 3, 1) := by decide +kernel
theorem dX5_readTagStatement_40 : decode cX5_readTagStatement 40 = .ok (.invokevirtual 78, 3) := by decide +kernel
theorem dX5_readTagStatement_43 : decode cX5_readTagStatement 43 = .ok (.aload_n 0, 1) := by decide +kernel
theorem dX5_readTagStatement_44 : decode cX5_readTagStatement 44 = .ok (.iconst 2, 1) := by decide +kernel
theorem dX5_readTagStatement_45 : decode cX5_readTagStatement 45 = .ok (.bipush 9, 2) := by decide +kernel
theorem dX5_readTagStatement_47 : decode cX5_readTagStatement 47 = .ok (.invokevirtual 82, 3) := by decide +kernel
theorem dX5_readTagStatement_50 : decode cX5_readTagStatement 50 = .ok (.istore_n 2, 1) := by decide +kernel
theorem dX5_readTagStatement_51 : decode cX5_readTagStatement 51 = .ok (.aload_n 0, 1) := by decide +kernel
theorem dX5_readTagStatement_52 : decode cX5_readTagStatement 52 = .ok (.getfield 29, 3) := by decide +kernel
theorem dX5_readTagStatement_55 : decode cX5_readTagStatement 55 = .ok (.ifCond .ne 12, 3) := by decide +kernel
theorem dX5_readTagStatement_58 : decode cX5_readTagStatement 58 = .ok (.aload_n 0, 1) := by decide +kernel
theorem dX5_readTagStatement_59 : decode cX5_readTagStatement 59 = .ok (.getfield 25, 3) := by decide +kernel
theorem dX5_readTagStatement_62 : decode cX5_readTagStatement 62 = .ok (.iload_n 1, 1) := by decide +kernel
theorem dX5_readTagStatement_63 : decode cX5_readTagStatement 63 = .ok (.iload_n 2, 1) := by decide +kernel
theorem dX5_readTagStatement_64 : decode cX5_readTagStatement 64 = .ok (.invokevirtual 148, 3) := by decide +kernel
theorem dX5_readTagStatement_67 : decode cX5_readTagStatement 67 = .ok (.return_, 1) := by decide +kernel
abbrev m_X5_readTagStatement : MD := (yX5_readTagStatement, cX5_readTagStatement, 3, none)
theorem g_X5_141 {p : Program} {l : Launch} {e : Env} {R : Room} {s : State} {m : MethodId} {args : Array Value} {below : List Frame} {meth : Method} {c : Code} {H : Heap} {locs : List Loc} {cells slots : Nat} {Q : State → Prop} {d : MD} {g : GT} {A : Nat → Prop} {ws : va_W} {pc : Nat} {ls : Array Slot} {rest : List Value} (C : Cx p s m args meth c RX5 d g A) (w : Wd g A ws s.heap H locs) (q0 : Nat) {a : Nat} {fs : List Value} {v : Value} (he : ws[q0]? = some (a, .inr (4, fs))) (hv : fs[3]? = some v) (hd : decode d.2.1 pc = .ok (.getfield 141, 3)) (kk : W p l e R s m args below meth c H locs cells slots Q (F0 m (pc + 3) ls (v :: rest))) : W p l e R s m args below meth c H locs cells slots Q (F0 m pc ls (.ref a :: rest)) := fgN C w inX4s (ref := RX4) rfl 3 (by decide) (nw_t (w := Cond.fieldLinkNest RX5 141 RX4 (TX4 3).2.1 (TX4 3).2.2.1 "FreeFlowToll") 50 (by decide +kernel) rfl) rfl q0 he hv hd kk
theorem q_732 : Cond.code yX4_addTag cX4_addTag 3 none ∈ TS := ts_t 732 (by decide +kernel) (by decide +kernel)
theorem q_731 : Cond.instanceMethod yX4_addTag ∈ TS := ts_t 731 (by decide +kernel) (by decide +kernel)
theorem qs_40 : Cond.selects yX4_addTag.cls yX4_addTag yX4_addTag ∈ TS := ts_s 40 (by decide +kernel) (by decide +kernel)
theorem k_X5_148 : LkN RX5 148 m_X4_addTag 2 := ⟨⟨"FreeFlowToll", nw_t 729 (by decide +kernel) rfl⟩, q_731, qs_40, ⟨q_2, q_732, by decide, by decide, by decide +kernel⟩⟩
theorem k_X5_144 : LkN RX5 144 m_X4_tagWithPlate 1 := ⟨⟨"FreeFlowToll", nw_t 728 (by decide +kernel) rfl⟩, q_438, qs_9, ⟨q_2, q_439, by decide, by decide, by decide +kernel⟩⟩
abbrev w_X5_readTagStatement (g : GT) (h0 h1 h2 h3 h4 : Nat) (v0_1 v0_8 v0_9 v0_10 v1_0 v1_1 v1_2 v1_4 v1_5 v1_6 v1_7 v1_8 v1_9 v1_10 : Value) (length0 failure0 token0 start0 end0 tags1 : Int32) (tagAxles2 tagPlate3 text4 : Nat → Int32) : va_W := [(h0, .inr (5, [.ref h4, v0_1, .int length0, .ref h1, .int failure0, .int token0, .int start0, .int end0, v0_8, v0_9, v0_10])), (h1, .inr (4, [v1_0, v1_1, v1_2, .int tags1, v1_4, v1_5, v1_6, v1_7, v1_8, v1_9, v1_10, .ref h3, .ref h2])), (h2, aI g 12 tagAxles2), (h3, aI g 12 tagPlate3), (h4, aI g 900 text4)]
def f_X5_readTagStatement_b67 (F : Nat) (length0 : Int32) (text4 : Nat → Int32) (failure0 token0 start0 end0 tags1 : Int32) (tagAxles2 tagPlate3 : Nat → Int32) : Option (Int32 × Int32 × Int32 × Int32 × Int32 × (Nat → Int32) × (Nat → Int32)) :=
  some (failure0, token0, start0, end0, tags1, tagAxles2, tagPlate3)
def f_X5_readTagStatement_b43 (F : Nat) (length0 : Int32) (text4 : Nat → Int32) (x1 failure0 token0 start0 end0 tags1 : Int32) (tagAxles2 tagPlate3 : Nat → Int32) : Option (Int32 × Int32 × Int32 × Int32 × Int32 × (Nat → Int32) × (Nat → Int32)) :=
  bd5 (f_X5_readNumber F 2 9 length0 failure0 token0 start0 end0 text4) fun r1 o2 o3 o4 o5 =>
  if o2 = 0 then
    bd3 (f_X4_addTag F x1 r1 tags1 tagAxles2 tagPlate3) fun o8 o9 o10 =>
    f_X5_readTagStatement_b67 F length0 text4 o2 o3 o4 o5 o8 o9 o10
  else
    f_X5_readTagStatement_b67 F length0 text4 o2 o3 o4 o5 tags1 tagAxles2 tagPlate3
def f_X5_readTagStatement_b17 (F : Nat) (length0 : Int32) (text4 : Nat → Int32) (failure0 token0 start0 end0 tags1 : Int32) (tagAxles2 tagPlate3 : Nat → Int32) : Option (Int32 × Int32 × Int32 × Int32 × Int32 × (Nat → Int32) × (Nat → Int32)) :=
  bd5 (f_X5_readNumber F 1 9999 length0 failure0 token0 start0 end0 text4) fun r12 o13 o14 o15 o16 =>
  bd1 (f_X4_tagWithPlate F r12 tags1 tagPlate3) fun r18 =>
  if r18 = (-1) then
    f_X5_readTagStatement_b43 F length0 text4 r12 o13 o14 o15 o16 tags1 tagAxles2 tagPlate3
  else
    bd1 (f_X5_fail F 3 o13 o15) fun o21 =>
    f_X5_readTagStatement_b43 F length0 text4 r12 o21 o14 o15 o16 tags1 tagAxles2 tagPlate3
def f_X5_readTagStatement (F : Nat) (length0 failure0 token0 start0 end0 tags1 : Int32) (tagAxles2 tagPlate3 text4 : Nat → Int32) : Option (Int32 × Int32 × Int32 × Int32 × Int32 × (Nat → Int32) × (Nat → Int32)) :=
  if tags1 < 12 then
    f_X5_readTagStatement_b17 F length0 text4 failure0 token0 start0 end0 tags1 tagAxles2 tagPlate3
  else
    bd1 (f_X5_fail F 4 failure0 start0) fun o24 =>
    f_X5_readTagStatement_b17 F length0 text4 o24 token0 start0 end0 tags1 tagAxles2 tagPlate3
set_option maxHeartbeats 4000000 in
set_option maxRecDepth 100000 in
theorem c_X5_readTagStatement (l : Launch) (g : GT) (F : Nat) (h0 h1 h2 h3 h4 : Nat) (v0_1 v0_8 v0_9 v0_10 v1_0 v1_1 v1_2 v1_4 v1_5 v1_6 v1_7 v1_8 v1_9 v1_10 : Value) (length0 failure0 token0 start0 end0 tags1 : Int32) (tagAxles2 tagPlate3 text4 : Nat → Int32) (o_failure0 o_token0 o_start0 o_end0 o_tags1 : Int32) (o_tagAxles2 o_tagPlate3 : Nat → Int32) (sz : Nat) (hf : f_X5_readTagStatement F length0 failure0 token0 start0 end0 tags1 tagAxles2 tagPlate3 text4 = some (o_failure0, o_token0, o_start0, o_end0, o_tags1, o_tagAxles2, o_tagPlate3)) : CV l m_X5_readTagStatement (rml 3 0 0) g (w_X5_readTagStatement g h0 h1 h2 h3 h4 v0_1 v0_8 v0_9 v0_10 v1_0 v1_1 v1_2 v1_4 v1_5 v1_6 v1_7 v1_8 v1_9 v1_10 length0 failure0 token0 start0 end0 tags1 tagAxles2 tagPlate3 text4) (fun _ => w_X5_readTagStatement g h0 h1 h2 h3 h4 v0_1 v0_8 v0_9 v0_10 v1_0 v1_1 v1_2 v1_4 v1_5 v1_6 v1_7 v1_8 v1_9 v1_10 length0 o_failure0 o_token0 o_start0 o_end0 o_tags1 o_tagAxles2 o_tagPlate3 text4) sz [.ref h0] := by
  refine en_v (by decide) (Nat.le_of_ble_eq_true rfl) (fun p e s m args below meth c A ls C w hl => ?_)
  have C : Cx p s m args meth c RX5 m_X5_readTagStatement g A := C
  have hx := C.1
  have hb : c.code = cX5_readTagStatement := C.2.1
  have hl : lv_has ls 3 [(0, .ref h0)] := hl
  obtain ⟨Q, hQ⟩ : ∃ Q, Q = QV below args s g A (fun _ => w_X5_readTagStatement g h0 h1 h2 h3 h4 v0_1 v0_8 v0_9 v0_10 v1_0 v1_1 v1_2 v1_4 v1_5 v1_6 v1_7 v1_8 v1_9 v1_10 length0 o_failure0 o_token0 o_start0 o_end0 o_tags1 o_tagAxles2 o_tagPlate3 text4) 0 0 := ⟨_, rfl⟩
  suffices hW : W p l e (rml 3 0 0) s m args below meth c s.heap [] 0 0 Q (F0 m 0 ls []) from (by rw [hQ] at hW; exact hW)
  unfold f_X5_readTagStatement at hf
  have b67 : ∀ (failure0 token0 start0 end0 tags1 : Int32) (tagAxles2 tagPlate3 : Nat → Int32) (H : Heap) (locs : List Loc) (ls : Array Slot), f_X5_readTagStatement_b67 F length0 text4 failure0 token0 start0 end0 tags1 tagAxles2 tagPlate3 = some (o_failure0, o_token0, o_start0, o_end0, o_tags1, o_tagAxles2, o_tagPlate3) → Wd g A (w_X5_readTagStatement g h0 h1 h2 h3 h4 v0_1 v0_8 v0_9 v0_10 v1_0 v1_1 v1_2 v1_4 v1_5 v1_6 v1_7 v1_8 v1_9 v1_10 length0 failure0 token0 start0 end0 tags1 tagAxles2 tagPlate3 text4) s.heap H locs → lv_has ls 3 [] → W p l e (rml 3 0 0) s m args below meth c H locs 0 0 Q (F0 m 67 ls []) := by
    intro failure0 token0 start0 end0 tags1 tagAxles2 tagPlate3 H locs ls hf w hl
    unfold f_X5_readTagStatement_b67 at hf
    obtain ⟨e1, e2, e3, e4, e5, e6, e7⟩ := tp7 hf
    rw [hQ]
    exact rt_v C w rfl (fun _ => 0) (by rw [← e1, ← e2, ← e3, ← e4, ← e5, ← e6, ← e7]) dX5_readTagStatement_67
  have b43 : ∀ (x1 failure0 token0 start0 end0 tags1 : Int32) (tagAxles2 tagPlate3 : Nat → Int32) (H : Heap) (locs : List Loc) (ls : Array Slot), f_X5_readTagStatement_b43 F length0 text4 x1 failure0 token0 start0 end0 tags1 tagAxles2 tagPlate3 = some (o_failure0, o_token0, o_start0, o_end0, o_tags1, o_tagAxles2, o_tagPlate3) → Wd g A (w_X5_readTagStatement g h0 h1 h2 h3 h4 v0_1 v0_8 v0_9 v0_10 v1_0 v1_1 v1_2 v1_4 v1_5 v1_6 v1_7 v1_8 v1_9 v1_10 length0 failure0 token0 start0 end0 tags1 tagAxles2 tagPlate3 text4) s.heap H locs → lv_has ls 3 [(0, .ref h0), (1, .int x1)] → W p l e (rml 3 0 0) s m args below meth c H locs 0 0 Q (F0 m 43 ls []) := by
    intro x1 failure0 token0 start0 end0 tags1 tagAxles2 tagPlate3 H locs ls hf w hl
    unfold f_X5_readTagStatement_b43 at hf
    refine lv_aload_n hx hb dX5_readTagStatement_43 rfl (lv_at hl 0 rfl) ?_
    refine lv_iconst (v := 2) hx hb dX5_readTagStatement_44 (by decide) ?_
    refine lv_bipush (v := 9) hx hb dX5_readTagStatement_45 (by decide) ?_
    obtain ⟨r1, o2, o3, o4, o5, hc6, hf⟩ := bd5_some hf
    refine ca_iV C w (wn := fun _ => w_X5_readTagStatement g h0 h1 h2 h3 h4 v0_1 v0_8 v0_9 v0_10 v1_0 v1_1 v1_2 v1_4 v1_5 v1_6 v1_7 v1_8 v1_9 v1_10 length0 o2 o3 o4 o5 tags1 tagAxles2 tagPlate3 text4) (pm_k [true, false, false, false, true] rfl rfl (fun _ => Nat.le_of_ble_eq_true rfl) (fun _ => rfl)) (c_X5_readNumber l g F h0 h4 v0_1 (.ref h1) v0_8 v0_9 v0_10 2 9 length0 failure0 token0 start0 end0 text4 r1 o2 o3 o4 o5 _ hc6) k_X5_82 (rm_le (by decide) (by decide)) 0 5 rfl rfl rfl rfl hl.1 rfl (Nat.le_of_ble_eq_true rfl) dX5_readTagStatement_47 ⟨Nat.le_of_ble_eq_true rfl, Nat.le_of_ble_eq_true rfl⟩ (cells2 := 0) (slots2 := 0) ⟨rfl, rfl⟩ (fun _ H locs w => ?_)
    refine lv_istore_n (lv' := [(2, .int r1), (0, .ref h0), (1, .int x1)]) hx hb dX5_readTagStatement_50 rfl hl (by decide) rfl (fun ls hl => ?_)
    refine lv_aload_n hx hb dX5_readTagStatement_51 rfl (lv_at hl 1 rfl) ?_
    refine g_X5_29 C w 0 rfl rfl dX5_readTagStatement_52 ?_
    refine lv_if_ne (tgt := 67) hx hb dX5_readTagStatement_55 (by decide) (fun c7 => ?_) (fun c7 => ?_)
    · replace hf := it_f c7 hf
      exact b67 o2 o3 o4 o5 tags1 tagAxles2 tagPlate3 _ _ _ hf w (lv_sub hl [] rfl)
    · replace hf := it_t c7 hf
      refine lv_aload_n hx hb dX5_readTagStatement_58 rfl (lv_at hl 1 rfl) ?_
      refine g_X5_25 C w 0 rfl rfl dX5_readTagStatement_59 ?_
      refine lv_iload_n hx hb dX5_readTagStatement_62 rfl (lv_at hl 2 rfl) ?_
      refine lv_iload_n hx hb dX5_readTagStatement_63 rfl (lv_at hl 0 rfl) ?_
      obtain ⟨o8, o9, o10, hc11, hf⟩ := bd3_some hf
      refine ca_vN C w (wn := fun _ => w_X5_readTagStatement g h0 h1 h2 h3 h4 v0_1 v0_8 v0_9 v0_10 v1_0 v1_1 v1_2 v1_4 v1_5 v1_6 v1_7 v1_8 v1_9 v1_10 length0 o2 o3 o4 o5 o8 o9 o10 text4) (pm_k [false, true, true, true, false] rfl rfl (fun _ => Nat.le_of_ble_eq_true rfl) (fun _ => rfl)) (c_X4_addTag l g F h1 h2 h3 v1_0 v1_1 v1_2 v1_4 v1_5 v1_6 v1_7 v1_8 v1_9 v1_10 x1 r1 tags1 tagAxles2 tagPlate3 o8 o9 o10 _ hc11) k_X5_148 (rm_le (by decide) (by decide)) 1 4 rfl rfl rfl rfl hl.1 rfl (Nat.le_of_ble_eq_true rfl) dX5_readTagStatement_64 ⟨Nat.le_of_ble_eq_true rfl, Nat.le_of_ble_eq_true rfl⟩ (cells2 := 0) (slots2 := 0) ⟨rfl, rfl⟩ (fun _ H locs w => ?_)
      exact b67 o2 o3 o4 o5 o8 o9 o10 _ _ _ hf w (lv_sub hl [] rfl)
  have b17 : ∀ (failure0 token0 start0 end0 tags1 : Int32) (tagAxles2 tagPlate3 : Nat → Int32) (H : Heap) (locs : List Loc) (ls : Array Slot), f_X5_readTagStatement_b17 F length0 text4 failure0 token0 start0 end0 tags1 tagAxles2 tagPlate3 = some (o_failure0, o_token0, o_start0, o_end0, o_tags1, o_tagAxles2, o_tagPlate3) → Wd g A (w_X5_readTagStatement g h0 h1 h2 h3 h4 v0_1 v0_8 v0_9 v0_10 v1_0 v1_1 v1_2 v1_4 v1_5 v1_6 v1_7 v1_8 v1_9 v1_10 length0 failure0 token0 start0 end0 tags1 tagAxles2 tagPlate3 text4) s.heap H locs → lv_has ls 3 [(0, .ref h0)] → W p l e (rml 3 0 0) s m args below meth c H locs 0 0 Q (F0 m 17 ls []) := by
    intro failure0 token0 start0 end0 tags1 tagAxles2 tagPlate3 H locs ls hf w hl
    unfold f_X5_readTagStatement_b17 at hf
    refine lv_aload_n hx hb dX5_readTagStatement_17 rfl (lv_at hl 0 rfl) ?_
    refine lv_iconst (v := 1) hx hb dX5_readTagStatement_18 (by decide) ?_
    refine lv_sipush (v := 9999) hx hb dX5_readTagStatement_19 (by decide) ?_
    obtain ⟨r12, o13, o14, o15, o16, hc17, hf⟩ := bd5_some hf
    refine ca_iV C w (wn := fun _ => w_X5_readTagStatement g h0 h1 h2 h3 h4 v0_1 v0_8 v0_9 v0_10 v1_0 v1_1 v1_2 v1_4 v1_5 v1_6 v1_7 v1_8 v1_9 v1_10 length0 o13 o14 o15 o16 tags1 tagAxles2 tagPlate3 text4) (pm_k [true, false, false, false, true] rfl rfl (fun _ => Nat.le_of_ble_eq_true rfl) (fun _ => rfl)) (c_X5_readNumber l g F h0 h4 v0_1 (.ref h1) v0_8 v0_9 v0_10 1 9999 length0 failure0 token0 start0 end0 text4 r12 o13 o14 o15 o16 _ hc17) k_X5_82 (rm_le (by decide) (by decide)) 0 5 rfl rfl rfl rfl hl.1 rfl (Nat.le_of_ble_eq_true rfl) dX5_readTagStatement_22 ⟨Nat.le_of_ble_eq_true rfl, Nat.le_of_ble_eq_true rfl⟩ (cells2 := 0) (slots2 := 0) ⟨rfl, rfl⟩ (fun _ H locs w => ?_)
    refine lv_istore_n (lv' := [(1, .int r12), (0, .ref h0)]) hx hb dX5_readTagStatement_25 rfl hl (by decide) rfl (fun ls hl => ?_)
    refine lv_aload_n hx hb dX5_readTagStatement_26 rfl (lv_at hl 1 rfl) ?_
    refine g_X5_25 C w 0 rfl rfl dX5_readTagStatement_27 ?_
    refine lv_iload_n hx hb dX5_readTagStatement_30 rfl (lv_at hl 0 rfl) ?_
    obtain ⟨r18, hc19, hf⟩ := bd1_some hf
    refine ca_iN C w (wn := fun _ => w_X5_readTagStatement g h0 h1 h2 h3 h4 v0_1 v0_8 v0_9 v0_10 v1_0 v1_1 v1_2 v1_4 v1_5 v1_6 v1_7 v1_8 v1_9 v1_10 length0 o13 o14 o15 o16 tags1 tagAxles2 tagPlate3 text4) (pm_k [false, true, false, true, false] rfl rfl (fun _ => Nat.le_of_ble_eq_true rfl) (fun _ => rfl)) (c_X4_tagWithPlate l g F h1 h3 v1_0 v1_1 v1_2 v1_4 v1_5 v1_6 v1_7 v1_8 v1_9 v1_10 (.ref h2) r12 tags1 tagPlate3 r18 _ hc19) k_X5_144 (rm_le (by decide) (by decide)) 1 4 rfl rfl rfl rfl hl.1 rfl (Nat.le_of_ble_eq_true rfl) dX5_readTagStatement_31 ⟨Nat.le_of_ble_eq_true rfl, Nat.le_of_ble_eq_true rfl⟩ (cells2 := 0) (slots2 := 0) ⟨rfl, rfl⟩ (fun _ H locs w => ?_)
    refine lv_iconst (v := -1) hx hb dX5_readTagStatement_34 (by decide) ?_
    refine lv_icmp_eq (tgt := 43) hx hb dX5_readTagStatement_35 (by decide) (fun c20 => ?_) (fun c20 => ?_)
    · replace hf := it_t c20 hf
      exact b43 r12 o13 o14 o15 o16 tags1 tagAxles2 tagPlate3 _ _ _ hf w (lv_sub hl [1, 0] rfl)
    · replace hf := it_f c20 hf
      refine lv_aload_n hx hb dX5_readTagStatement_38 rfl (lv_at hl 1 rfl) ?_
      refine lv_iconst (v := 3) hx hb dX5_readTagStatement_39 (by decide) ?_
      obtain ⟨o21, hc22, hf⟩ := bd1_some hf
      refine ca_vV C w (wn := fun _ => w_X5_readTagStatement g h0 h1 h2 h3 h4 v0_1 v0_8 v0_9 v0_10 v1_0 v1_1 v1_2 v1_4 v1_5 v1_6 v1_7 v1_8 v1_9 v1_10 length0 o21 o14 o15 o16 tags1 tagAxles2 tagPlate3 text4) (pm_k [true, false, false, false, false] rfl rfl (fun _ => Nat.le_of_ble_eq_true rfl) (fun _ => rfl)) (c_X5_fail l g F h0 (.ref h4) v0_1 (.int length0) (.ref h1) (.int o14) (.int o16) v0_8 v0_9 v0_10 3 o13 o15 o21 _ hc22) k_X5_78 (rm_le (by decide) (by decide)) 0 5 rfl rfl rfl rfl hl.1 rfl (Nat.le_of_ble_eq_true rfl) dX5_readTagStatement_40 ⟨Nat.le_of_ble_eq_true rfl, Nat.le_of_ble_eq_true rfl⟩ (cells2 := 0) (slots2 := 0) ⟨rfl, rfl⟩ (fun _ H locs w => ?_)
      exact b43 r12 o21 o14 o15 o16 tags1 tagAxles2 tagPlate3 _ _ _ hf w (lv_sub hl [1, 0] rfl)
  refine lv_aload_n hx hb dX5_readTagStatement_0 rfl (lv_at hl 0 rfl) ?_
  refine g_X5_25 C w 0 rfl rfl dX5_readTagStatement_1 ?_
  refine g_X5_141 C w 1 rfl rfl dX5_readTagStatement_4 ?_
  refine lv_bipush (v := 12) hx hb dX5_readTagStatement_7 (by decide) ?_
  refine lv_icmp_lt (tgt := 17) hx hb dX5_readTagStatement_9 (by decide) (fun c23 => ?_) (fun c23 => ?_)
  · replace hf := it_t c23 hf
    exact b17 failure0 token0 start0 end0 tags1 tagAxles2 tagPlate3 _ _ _ hf w (lv_sub hl [0] rfl)
  · replace hf := it_f c23 hf
    refine lv_aload_n hx hb dX5_readTagStatement_12 rfl (lv_at hl 0 rfl) ?_
    refine lv_iconst (v := 4) hx hb dX5_readTagStatement_13 (by decide) ?_
    obtain ⟨o24, hc25, hf⟩ := bd1_some hf
    refine ca_vV C w (wn := fun _ => w_X5_readTagStatement g h0 h1 h2 h3 h4 v0_1 v0_8 v0_9 v0_10 v1_0 v1_1 v1_2 v1_4 v1_5 v1_6 v1_7 v1_8 v1_9 v1_10 length0 o24 token0 start0 end0 tags1 tagAxles2 tagPlate3 text4) (pm_k [true, false, false, false, false] rfl rfl (fun _ => Nat.le_of_ble_eq_true rfl) (fun _ => rfl)) (c_X5_fail l g F h0 (.ref h4) v0_1 (.int length0) (.ref h1) (.int token0) (.int end0) v0_8 v0_9 v0_10 4 failure0 start0 o24 _ hc25) k_X5_78 (rm_le (by decide) (by decide)) 0 5 rfl rfl rfl rfl hl.1 rfl (Nat.le_of_ble_eq_true rfl) dX5_readTagStatement_14 ⟨Nat.le_of_ble_eq_true rfl, Nat.le_of_ble_eq_true rfl⟩ (cells2 := 0) (slots2 := 0) ⟨rfl, rfl⟩ (fun _ H locs w => ?_)
    exact b17 o24 token0 start0 end0 tags1 tagAxles2 tagPlate3 _ _ _ hf w (lv_sub hl [0] rfl)

theorem dX5_readWindow_0 : decode cX5_readWindow 0 = .ok (.aload_n 0, 1) := by decide +kernel
theorem dX5_readWindow_1 : decode cX5_readWindow 1 = .ok (.getfield 41, 3) := by decide +kernel
theorem dX5_readWindow_4 : decode cX5_readWindow 4 = .ok (.ifCond .eq 8, 3) := by decide +kernel
theorem dX5_readWindow_7 : decode cX5_readWindow 7 = .ok (.aload_n 0, 1) := by decide +kernel
theorem dX5_readWindow_8 : decode cX5_readWindow 8 = .ok (.iconst 3, 1) := by decide +kernel
theorem dX5_readWindow_9 : decode cX5_readWindow 9 = .ok (.invokevirtual 78, 3) := by decide +kernel
theorem dX5_readWindow_12 : decode cX5_readWindow 12 = .ok (.aload_n 0, 1) := by decide +kernel
theorem dX5_readWindow_13 : decode cX5_readWindow 13 = .ok (.iconst 1, 1) := by decide +kernel
theorem dX5_readWindow_14 : decode cX5_readWindow 14 = .ok (.putfield 41, 3) := by decide +kernel
theorem dX5_readWindow_17 : decode cX5_readWindow 17 = .ok (.aload_n 0, 1) := by decide +kernel
theorem dX5_readWindow_18 : decode cX5_readWindow 18 = .ok (.getfield 25, 3) := by decide +kernel
theorem dX5_readWindow_21 : decode cX5_readWindow 21 = .ok (.aload_n 0, 1) := by decide +kernel
theorem dX5_readWindow_22 : decode cX5_readWindow 22 = .ok (.iconst 0, 1) := by decide +kernel
theorem dX5_readWindow_23 : decode cX5_readWindow 23 = .ok (.bipush 10, 2) := by decide +kernel
theorem dX5_readWindow_25 : decode cX5_readWindow 25 = .ok (.invokevirtual 82, 3) := by decide +kernel
theorem dX5_readWindow_28 : decode cX5_readWindow 28 = .ok (.putfield 151, 3) := by decide +kernel
theorem dX5_readWindow_31 : decode cX5_readWindow 31 = .ok (.return_, 1) := by decide +kernel
abbrev m_X5_readWindow : MD := (yX5_readWindow, cX5_readWindow, 1, none)
theorem g_X5_41 {p : Program} {l : Launch} {e : Env} {R : Room} {s : State} {m : MethodId} {args : Array Value} {below : List Frame} {meth : Method} {c : Code} {H : Heap} {locs : List Loc} {cells slots : Nat} {Q : State → Prop} {d : MD} {g : GT} {A : Nat → Prop} {ws : va_W} {pc : Nat} {ls : Array Slot} {rest : List Value} (C : Cx p s m args meth c RX5 d g A) (w : Wd g A ws s.heap H locs) (q0 : Nat) {a : Nat} {fs : List Value} {v : Value} (he : ws[q0]? = some (a, .inr (5, fs))) (hv : fs[8]? = some v) (hd : decode d.2.1 pc = .ok (.getfield 41, 3)) (kk : W p l e R s m args below meth c H locs cells slots Q (F0 m (pc + 3) ls (v :: rest))) : W p l e R s m args below meth c H locs cells slots Q (F0 m pc ls (.ref a :: rest)) := fg C w inX5s (ref := RX5) rfl 8 (by decide) (ts_t (w := Cond.fieldLink RX5 41 RX5 (TX5 8).2.1 (TX5 8).2.2.1) 112 (by decide +kernel) (by decide +kernel)) rfl q0 he hv hd kk
theorem p_X5_41 {p : Program} {l : Launch} {e : Env} {R : Room} {s : State} {m : MethodId} {args : Array Value} {below : List Frame} {meth : Method} {c : Code} {H : Heap} {locs : List Loc} {cells slots : Nat} {Q : State → Prop} {d : MD} {g : GT} {A : Nat → Prop} {ws : va_W} {pc : Nat} {ls : Array Slot} {rest : List Value} (C : Cx p s m args meth c RX5 d g A) (w : Wd g A ws s.heap H locs) (q0 : Nat) {a : Nat} {fs : List Value} {x : Int32} (he : ws[q0]? = some (a, .inr (5, fs))) (hn : narrow .boolean (.int x) = .int x) (hft : fits .boolean (.int x) = true) (hlt : 8 < fs.length) {ws2 : va_W} (h2 : ws.set q0 (a, .inr (5, fs.set 8 (.int x))) = ws2) (hd : decode d.2.1 pc = .ok (.putfield 41, 3)) (kk : ∀ (H1 : Heap) (locs1 : List Loc), Wd g A ws2 s.heap H1 locs1 → W p l e R s m args below meth c H1 locs1 cells slots Q (F0 m (pc + 3) ls rest)) : W p l e R s m args below meth c H locs cells slots Q (F0 m pc ls (.int x :: .ref a :: rest)) := fp C w inX5s tyX5_ok nmX5 (ref := RX5) rfl 8 (by decide) (ts_t (w := Cond.fieldLink RX5 41 RX5 (TX5 8).2.1 (TX5 8).2.2.1) 112 (by decide +kernel) (by decide +kernel)) rfl rfl q0 he hn hft hlt h2 hd kk
theorem p_X5_151 {p : Program} {l : Launch} {e : Env} {R : Room} {s : State} {m : MethodId} {args : Array Value} {below : List Frame} {meth : Method} {c : Code} {H : Heap} {locs : List Loc} {cells slots : Nat} {Q : State → Prop} {d : MD} {g : GT} {A : Nat → Prop} {ws : va_W} {pc : Nat} {ls : Array Slot} {rest : List Value} (C : Cx p s m args meth c RX5 d g A) (w : Wd g A ws s.heap H locs) (q0 : Nat) {a : Nat} {fs : List Value} {x : Int32} (he : ws[q0]? = some (a, .inr (4, fs))) (hlt : 4 < fs.length) {ws2 : va_W} (h2 : ws.set q0 (a, .inr (4, fs.set 4 (.int x))) = ws2) (hd : decode d.2.1 pc = .ok (.putfield 151, 3)) (kk : ∀ (H1 : Heap) (locs1 : List Loc), Wd g A ws2 s.heap H1 locs1 → W p l e R s m args below meth c H1 locs1 cells slots Q (F0 m (pc + 3) ls rest)) : W p l e R s m args below meth c H locs cells slots Q (F0 m pc ls (.int x :: .ref a :: rest)) := fpN C w inX4s tyX4_ok nmX4 (ref := RX4) rfl 4 (by decide) (nw_t (w := Cond.fieldLinkNest RX5 151 RX4 (TX4 4).2.1 (TX4 4).2.2.1 "FreeFlowToll") 52 (by decide +kernel) rfl) rfl rfl q0 he rfl rfl hlt h2 hd kk
abbrev w_X5_readWindow (g : GT) (h0 h1 h2 : Nat) (v0_1 v0_9 v0_10 v1_0 v1_1 v1_2 v1_3 v1_5 v1_6 v1_7 v1_8 v1_9 v1_10 v1_11 v1_12 : Value) (length0 failure0 token0 start0 end0 windowSeen0 window1 : Int32) (text2 : Nat → Int32) : va_W := [(h0, .inr (5, [.ref h2, v0_1, .int length0, .ref h1, .int failure0, .int token0, .int start0, .int end0, .int windowSeen0, v0_9, v0_10])), (h1, .inr (4, [v1_0, v1_1, v1_2, v1_3, .int window1, v1_5, v1_6, v1_7, v1_8, v1_9, v1_10, v1_11, v1_12])), (h2, aI g 900 text2)]
def f_X5_readWindow_b12 (F : Nat) (length0 : Int32) (text2 : Nat → Int32) (failure0 token0 start0 end0 windowSeen0 window1 : Int32) : Option (Int32 × Int32 × Int32 × Int32 × Int32 × Int32) :=
  bd5 (f_X5_readNumber F 0 10 length0 failure0 token0 start0 end0 text2) fun r1 o2 o3 o4 o5 =>
  some (o2, o3, o4, o5, 1, r1)
def f_X5_readWindow (F : Nat) (length0 failure0 token0 start0 end0 windowSeen0 window1 : Int32) (text2 : Nat → Int32) : Option (Int32 × Int32 × Int32 × Int32 × Int32 × Int32) :=
  if windowSeen0 = 0 then
    f_X5_readWindow_b12 F length0 text2 failure0 token0 start0 end0 windowSeen0 window1
  else
    bd1 (f_X5_fail F 3 failure0 start0) fun o8 =>
    f_X5_readWindow_b12 F length0 text2 o8 token0 start0 end0 windowSeen0 window1
set_option maxHeartbeats 4000000 in
set_option maxRecDepth 100000 in
theorem c_X5_readWindow (l : Launch) (g : GT) (F : Nat) (h0 h1 h2 : Nat) (v0_1 v0_9 v0_10 v1_0 v1_1 v1_2 v1_3 v1_5 v1_6 v1_7 v1_8 v1_9 v1_10 v1_11 v1_12 : Value) (length0 failure0 token0 start0 end0 windowSeen0 window1 : Int32) (text2 : Nat → Int32) (o_failure0 o_token0 o_start0 o_end0 o_windowSeen0 o_window1 : Int32) (sz : Nat) (hf : f_X5_readWindow F length0 failure0 token0 start0 end0 windowSeen0 window1 text2 = some (o_failure0, o_token0, o_start0, o_end0, o_windowSeen0, o_window1)) : CV l m_X5_readWindow (rml 3 0 0) g (w_X5_readWindow g h0 h1 h2 v0_1 v0_9 v0_10 v1_0 v1_1 v1_2 v1_3 v1_5 v1_6 v1_7 v1_8 v1_9 v1_10 v1_11 v1_12 length0 failure0 token0 start0 end0 windowSeen0 window1 text2) (fun _ => w_X5_readWindow g h0 h1 h2 v0_1 v0_9 v0_10 v1_0 v1_1 v1_2 v1_3 v1_5 v1_6 v1_7 v1_8 v1_9 v1_10 v1_11 v1_12 length0 o_failure0 o_token0 o_start0 o_end0 o_windowSeen0 o_window1 text2) sz [.ref h0] := by
  refine en_v (by decide) (Nat.le_of_ble_eq_true rfl) (fun p e s m args below meth c A ls C w hl => ?_)
  have C : Cx p s m args meth c RX5 m_X5_readWindow g A := C
  have hx := C.1
  have hb : c.code = cX5_readWindow := C.2.1
  have hl : lv_has ls 1 [(0, .ref h0)] := hl
  obtain ⟨Q, hQ⟩ : ∃ Q, Q = QV below args s g A (fun _ => w_X5_readWindow g h0 h1 h2 v0_1 v0_9 v0_10 v1_0 v1_1 v1_2 v1_3 v1_5 v1_6 v1_7 v1_8 v1_9 v1_10 v1_11 v1_12 length0 o_failure0 o_token0 o_start0 o_end0 o_windowSeen0 o_window1 text2) 0 0 := ⟨_, rfl⟩
  suffices hW : W p l e (rml 3 0 0) s m args below meth c s.heap [] 0 0 Q (F0 m 0 ls []) from (by rw [hQ] at hW; exact hW)
  unfold f_X5_readWindow at hf
  have b12 : ∀ (failure0 token0 start0 end0 windowSeen0 window1 : Int32) (H : Heap) (locs : List Loc) (ls : Array Slot), f_X5_readWindow_b12 F length0 text2 failure0 token0 start0 end0 windowSeen0 window1 = some (o_failure0, o_token0, o_start0, o_end0, o_windowSeen0, o_window1) → Wd g A (w_X5_readWindow g h0 h1 h2 v0_1 v0_9 v0_10 v1_0 v1_1 v1_2 v1_3 v1_5 v1_6 v1_7 v1_8 v1_9 v1_10 v1_11 v1_12 length0 failure0 token0 start0 end0 windowSeen0 window1 text2) s.heap H locs → lv_has ls 1 [(0, .ref h0)] → W p l e (rml 3 0 0) s m args below meth c H locs 0 0 Q (F0 m 12 ls []) := by
    intro failure0 token0 start0 end0 windowSeen0 window1 H locs ls hf w hl
    unfold f_X5_readWindow_b12 at hf
    refine lv_aload_n hx hb dX5_readWindow_12 rfl (lv_at hl 0 rfl) ?_
    refine lv_iconst (v := 1) hx hb dX5_readWindow_13 (by decide) ?_
    refine p_X5_41 C w 0 rfl rfl rfl (Nat.le_of_ble_eq_true rfl) (ws2 := w_X5_readWindow g h0 h1 h2 v0_1 v0_9 v0_10 v1_0 v1_1 v1_2 v1_3 v1_5 v1_6 v1_7 v1_8 v1_9 v1_10 v1_11 v1_12 length0 failure0 token0 start0 end0 1 window1 text2) rfl dX5_readWindow_14 (fun H locs w => ?_)
    refine lv_aload_n hx hb dX5_readWindow_17 rfl (lv_at hl 0 rfl) ?_
    refine g_X5_25 C w 0 rfl rfl dX5_readWindow_18 ?_
    refine lv_aload_n hx hb dX5_readWindow_21 rfl (lv_at hl 0 rfl) ?_
    refine lv_iconst (v := 0) hx hb dX5_readWindow_22 (by decide) ?_
    refine lv_bipush (v := 10) hx hb dX5_readWindow_23 (by decide) ?_
    obtain ⟨r1, o2, o3, o4, o5, hc6, hf⟩ := bd5_some hf
    refine ca_iV C w (wn := fun _ => w_X5_readWindow g h0 h1 h2 v0_1 v0_9 v0_10 v1_0 v1_1 v1_2 v1_3 v1_5 v1_6 v1_7 v1_8 v1_9 v1_10 v1_11 v1_12 length0 o2 o3 o4 o5 1 window1 text2) (pm_k [true, false, true] rfl rfl (fun _ => Nat.le_of_ble_eq_true rfl) (fun _ => rfl)) (c_X5_readNumber l g F h0 h2 v0_1 (.ref h1) (.int 1) v0_9 v0_10 0 10 length0 failure0 token0 start0 end0 text2 r1 o2 o3 o4 o5 _ hc6) k_X5_82 (rm_le (by decide) (by decide)) 0 5 rfl rfl rfl rfl hl.1 rfl (Nat.le_of_ble_eq_true rfl) dX5_readWindow_25 ⟨Nat.le_of_ble_eq_true rfl, Nat.le_of_ble_eq_true rfl⟩ (cells2 := 0) (slots2 := 0) ⟨rfl, rfl⟩ (fun _ H locs w => ?_)
    refine p_X5_151 C w 1 rfl (Nat.le_of_ble_eq_true rfl) (ws2 := w_X5_readWindow g h0 h1 h2 v0_1 v0_9 v0_10 v1_0 v1_1 v1_2 v1_3 v1_5 v1_6 v1_7 v1_8 v1_9 v1_10 v1_11 v1_12 length0 o2 o3 o4 o5 1 r1 text2) rfl dX5_readWindow_28 (fun H locs w => ?_)
    obtain ⟨e1, e2, e3, e4, e5, e6⟩ := tp6 hf
    rw [hQ]
    exact rt_v C w rfl (fun _ => 0) (by rw [← e1, ← e2, ← e3, ← e4, ← e5, ← e6]) dX5_readWindow_31
  refine lv_aload_n hx hb dX5_readWindow_0 rfl (lv_at hl 0 rfl) ?_
  refine g_X5_41 C w 0 rfl rfl dX5_readWindow_1 ?_
  refine lv_if_eq (tgt := 12) hx hb dX5_readWindow_4 (by decide) (fun c7 => ?_) (fun c7 => ?_)
  · replace hf := it_t c7 hf
    exact b12 failure0 token0 start0 end0 windowSeen0 window1 _ _ _ hf w (lv_sub hl [0] rfl)
  · replace hf := it_f c7 hf
    refine lv_aload_n hx hb dX5_readWindow_7 rfl (lv_at hl 0 rfl) ?_
    refine lv_iconst (v := 3) hx hb dX5_readWindow_8 (by decide) ?_
    obtain ⟨o8, hc9, hf⟩ := bd1_some hf
    refine ca_vV C w (wn := fun _ => w_X5_readWindow g h0 h1 h2 v0_1 v0_9 v0_10 v1_0 v1_1 v1_2 v1_3 v1_5 v1_6 v1_7 v1_8 v1_9 v1_10 v1_11 v1_12 length0 o8 token0 start0 end0 windowSeen0 window1 text2) (pm_k [true, false, false] rfl rfl (fun _ => Nat.le_of_ble_eq_true rfl) (fun _ => rfl)) (c_X5_fail l g F h0 (.ref h2) v0_1 (.int length0) (.ref h1) (.int token0) (.int end0) (.int windowSeen0) v0_9 v0_10 3 failure0 start0 o8 _ hc9) k_X5_78 (rm_le (by decide) (by decide)) 0 5 rfl rfl rfl rfl hl.1 rfl (Nat.le_of_ble_eq_true rfl) dX5_readWindow_9 ⟨Nat.le_of_ble_eq_true rfl, Nat.le_of_ble_eq_true rfl⟩ (cells2 := 0) (slots2 := 0) ⟨rfl, rfl⟩ (fun _ H locs w => ?_)
    exact b12 o8 token0 start0 end0 windowSeen0 window1 _ _ _ hf w (lv_sub hl [0] rfl)

theorem dX5_readConfidence_0 : decode cX5_readConfidence 0 = .ok (.aload_n 0, 1) := by decide +kernel
theorem dX5_readConfidence_1 : decode cX5_readConfidence 1 = .ok (.getfield 45, 3) := by decide +kernel
theorem dX5_readConfidence_4 : decode cX5_readConfidence 4 = .ok (.ifCond .eq 8, 3) := by decide +kernel
theorem dX5_readConfidence_7 : decode cX5_readConfidence 7 = .ok (.aload_n 0, 1) := by decide +kernel
theorem dX5_readConfidence_8 : decode cX5_readConfidence 8 = .ok (.iconst 3, 1) := by decide +kernel
theorem dX5_readConfidence_9 : decode cX5_readConfidence 9 = .ok (.invokevirtual 78, 3) := by decide +kernel
theorem dX5_readConfidence_12 : decode cX5_readConfidence 12 = .ok (.aload_n 0, 1) := by decide +kernel
theorem dX5_readConfidence_13 : decode cX5_readConfidence 13 = .ok (.iconst 1, 1) := by decide +kernel
theorem dX5_readConfidence_14 : decode cX5_readConfidence 14 = .ok (.putfield 45, 3) := by decide +kernel
theorem dX5_readConfidence_17 : decode cX5_readConfidence 17 = .ok (.aload_n 0, 1) := by decide +kernel
theorem dX5_readConfidence_18 : decode cX5_readConfidence 18 = .ok (.getfield 25, 3) := by decide +kernel
theorem dX5_readConfidence_21 : decode cX5_readConfidence 21 = .ok (.aload_n 0, 1) := by decide +kernel
theorem dX5_readConfidence_22 : decode cX5_readConfidence 22 = .ok (.iconst 1, 1) := by decide +kernel
theorem dX5_readConfidence_23 : decode cX5_readConfidence 23 = .ok (.sipush 300, 3) := by decide +kernel
theorem dX5_readConfidence_26 : decode cX5_readConfidence 26 = .ok (.invokevirtual 82, 3) := by decide +kernel
theorem dX5_readConfidence_29 : decode cX5_readConfidence 29 = .ok (.putfield 153, 3) := by decide +kernel
theorem dX5_readConfidence_32 : decode cX5_readConfidence 32 = .ok (.return_, 1) := by decide +kernel
abbrev m_X5_readConfidence : MD := (yX5_readConfidence, cX5_readConfidence, 1, none)
theorem g_X5_45 {p : Program} {l : Launch} {e : Env} {R : Room} {s : State} {m : MethodId} {args : Array Value} {below : List Frame} {meth : Method} {c : Code} {H : Heap} {locs : List Loc} {cells slots : Nat} {Q : State → Prop} {d : MD} {g : GT} {A : Nat → Prop} {ws : va_W} {pc : Nat} {ls : Array Slot} {rest : List Value} (C : Cx p s m args meth c RX5 d g A) (w : Wd g A ws s.heap H locs) (q0 : Nat) {a : Nat} {fs : List Value} {v : Value} (he : ws[q0]? = some (a, .inr (5, fs))) (hv : fs[9]? = some v) (hd : decode d.2.1 pc = .ok (.getfield 45, 3)) (kk : W p l e R s m args below meth c H locs cells slots Q (F0 m (pc + 3) ls (v :: rest))) : W p l e R s m args below meth c H locs cells slots Q (F0 m pc ls (.ref a :: rest)) := fg C w inX5s (ref := RX5) rfl 9 (by decide) (ts_t (w := Cond.fieldLink RX5 45 RX5 (TX5 9).2.1 (TX5 9).2.2.1) 113 (by decide +kernel) (by decide +kernel)) rfl q0 he hv hd kk
theorem p_X5_45 {p : Program} {l : Launch} {e : Env} {R : Room} {s : State} {m : MethodId} {args : Array Value} {below : List Frame} {meth : Method} {c : Code} {H : Heap} {locs : List Loc} {cells slots : Nat} {Q : State → Prop} {d : MD} {g : GT} {A : Nat → Prop} {ws : va_W} {pc : Nat} {ls : Array Slot} {rest : List Value} (C : Cx p s m args meth c RX5 d g A) (w : Wd g A ws s.heap H locs) (q0 : Nat) {a : Nat} {fs : List Value} {x : Int32} (he : ws[q0]? = some (a, .inr (5, fs))) (hn : narrow .boolean (.int x) = .int x) (hft : fits .boolean (.int x) = true) (hlt : 9 < fs.length) {ws2 : va_W} (h2 : ws.set q0 (a, .inr (5, fs.set 9 (.int x))) = ws2) (hd : decode d.2.1 pc = .ok (.putfield 45, 3)) (kk : ∀ (H1 : Heap) (locs1 : List Loc), Wd g A ws2 s.heap H1 locs1 → W p l e R s m args below meth c H1 locs1 cells slots Q (F0 m (pc + 3) ls rest)) : W p l e R s m args below meth c H locs cells slots Q (F0 m pc ls (.int x :: .ref a :: rest)) := fp C w inX5s tyX5_ok nmX5 (ref := RX5) rfl 9 (by decide) (ts_t (w := Cond.fieldLink RX5 45 RX5 (TX5 9).2.1 (TX5 9).2.2.1) 113 (by decide +kernel) (by decide +kernel)) rfl rfl q0 he hn hft hlt h2 hd kk
theorem p_X5_153 {p : Program} {l : Launch} {e : Env} {R : Room} {s : State} {m : MethodId} {args : Array Value} {below : List Frame} {meth : Method} {c : Code} {H : Heap} {locs : List Loc} {cells slots : Nat} {Q : State → Prop} {d : MD} {g : GT} {A : Nat → Prop} {ws : va_W} {pc : Nat} {ls : Array Slot} {rest : List Value} (C : Cx p s m args meth c RX5 d g A) (w : Wd g A ws s.heap H locs) (q0 : Nat) {a : Nat} {fs : List Value} {x : Int32} (he : ws[q0]? = some (a, .inr (4, fs))) (hlt : 5 < fs.length) {ws2 : va_W} (h2 : ws.set q0 (a, .inr (4, fs.set 5 (.int x))) = ws2) (hd : decode d.2.1 pc = .ok (.putfield 153, 3)) (kk : ∀ (H1 : Heap) (locs1 : List Loc), Wd g A ws2 s.heap H1 locs1 → W p l e R s m args below meth c H1 locs1 cells slots Q (F0 m (pc + 3) ls rest)) : W p l e R s m args below meth c H locs cells slots Q (F0 m pc ls (.int x :: .ref a :: rest)) := fpN C w inX4s tyX4_ok nmX4 (ref := RX4) rfl 5 (by decide) (nw_t (w := Cond.fieldLinkNest RX5 153 RX4 (TX4 5).2.1 (TX4 5).2.2.1 "FreeFlowToll") 56 (by decide +kernel) rfl) rfl rfl q0 he rfl rfl hlt h2 hd kk
abbrev w_X5_readConfidence (g : GT) (h0 h1 h2 : Nat) (v0_1 v0_8 v0_10 v1_0 v1_1 v1_2 v1_3 v1_4 v1_6 v1_7 v1_8 v1_9 v1_10 v1_11 v1_12 : Value) (length0 failure0 token0 start0 end0 confidenceSeen0 confidence1 : Int32) (text2 : Nat → Int32) : va_W := [(h0, .inr (5, [.ref h2, v0_1, .int length0, .ref h1, .int failure0, .int token0, .int start0, .int end0, v0_8, .int confidenceSeen0, v0_10])), (h1, .inr (4, [v1_0, v1_1, v1_2, v1_3, v1_4, .int confidence1, v1_6, v1_7, v1_8, v1_9, v1_10, v1_11, v1_12])), (h2, aI g 900 text2)]
def f_X5_readConfidence_b12 (F : Nat) (length0 : Int32) (text2 : Nat → Int32) (failure0 token0 start0 end0 confidenceSeen0 confidence1 : Int32) : Option (Int32 × Int32 × Int32 × Int32 × Int32 × Int32) :=
  bd5 (f_X5_readNumber F 1 300 length0 failure0 token0 start0 end0 text2) fun r1 o2 o3 o4 o5 =>
  some (o2, o3, o4, o5, 1, r1)
def f_X5_readConfidence (F : Nat) (length0 failure0 token0 start0 end0 confidenceSeen0 confidence1 : Int32) (text2 : Nat → Int32) : Option (Int32 × Int32 × Int32 × Int32 × Int32 × Int32) :=
  if confidenceSeen0 = 0 then
    f_X5_readConfidence_b12 F length0 text2 failure0 token0 start0 end0 confidenceSeen0 confidence1
  else
    bd1 (f_X5_fail F 3 failure0 start0) fun o8 =>
    f_X5_readConfidence_b12 F length0 text2 o8 token0 start0 end0 confidenceSeen0 confidence1
set_option maxHeartbeats 4000000 in
set_option maxRecDepth 100000 in
theorem c_X5_readConfidence (l : Launch) (g : GT) (F : Nat) (h0 h1 h2 : Nat) (v0_1 v0_8 v0_10 v1_0 v1_1 v1_2 v1_3 v1_4 v1_6 v1_7 v1_8 v1_9 v1_10 v1_11 v1_12 : Value) (length0 failure0 token0 start0 end0 confidenceSeen0 confidence1 : Int32) (text2 : Nat → Int32) (o_failure0 o_token0 o_start0 o_end0 o_confidenceSeen0 o_confidence1 : Int32) (sz : Nat) (hf : f_X5_readConfidence F length0 failure0 token0 start0 end0 confidenceSeen0 confidence1 text2 = some (o_failure0, o_token0, o_start0, o_end0, o_confidenceSeen0, o_confidence1)) : CV l m_X5_readConfidence (rml 3 0 0) g (w_X5_readConfidence g h0 h1 h2 v0_1 v0_8 v0_10 v1_0 v1_1 v1_2 v1_3 v1_4 v1_6 v1_7 v1_8 v1_9 v1_10 v1_11 v1_12 length0 failure0 token0 start0 end0 confidenceSeen0 confidence1 text2) (fun _ => w_X5_readConfidence g h0 h1 h2 v0_1 v0_8 v0_10 v1_0 v1_1 v1_2 v1_3 v1_4 v1_6 v1_7 v1_8 v1_9 v1_10 v1_11 v1_12 length0 o_failure0 o_token0 o_start0 o_end0 o_confidenceSeen0 o_confidence1 text2) sz [.ref h0] := by
  refine en_v (by decide) (Nat.le_of_ble_eq_true rfl) (fun p e s m args below meth c A ls C w hl => ?_)
  have C : Cx p s m args meth c RX5 m_X5_readConfidence g A := C
  have hx := C.1
  have hb : c.code = cX5_readConfidence := C.2.1
  have hl : lv_has ls 1 [(0, .ref h0)] := hl
  obtain ⟨Q, hQ⟩ : ∃ Q, Q = QV below args s g A (fun _ => w_X5_readConfidence g h0 h1 h2 v0_1 v0_8 v0_10 v1_0 v1_1 v1_2 v1_3 v1_4 v1_6 v1_7 v1_8 v1_9 v1_10 v1_11 v1_12 length0 o_failure0 o_token0 o_start0 o_end0 o_confidenceSeen0 o_confidence1 text2) 0 0 := ⟨_, rfl⟩
  suffices hW : W p l e (rml 3 0 0) s m args below meth c s.heap [] 0 0 Q (F0 m 0 ls []) from (by rw [hQ] at hW; exact hW)
  unfold f_X5_readConfidence at hf
  have b12 : ∀ (failure0 token0 start0 end0 confidenceSeen0 confidence1 : Int32) (H : Heap) (locs : List Loc) (ls : Array Slot), f_X5_readConfidence_b12 F length0 text2 failure0 token0 start0 end0 confidenceSeen0 confidence1 = some (o_failure0, o_token0, o_start0, o_end0, o_confidenceSeen0, o_confidence1) → Wd g A (w_X5_readConfidence g h0 h1 h2 v0_1 v0_8 v0_10 v1_0 v1_1 v1_2 v1_3 v1_4 v1_6 v1_7 v1_8 v1_9 v1_10 v1_11 v1_12 length0 failure0 token0 start0 end0 confidenceSeen0 confidence1 text2) s.heap H locs → lv_has ls 1 [(0, .ref h0)] → W p l e (rml 3 0 0) s m args below meth c H locs 0 0 Q (F0 m 12 ls []) := by
    intro failure0 token0 start0 end0 confidenceSeen0 confidence1 H locs ls hf w hl
    unfold f_X5_readConfidence_b12 at hf
    refine lv_aload_n hx hb dX5_readConfidence_12 rfl (lv_at hl 0 rfl) ?_
    refine lv_iconst (v := 1) hx hb dX5_readConfidence_13 (by decide) ?_
    refine p_X5_45 C w 0 rfl rfl rfl (Nat.le_of_ble_eq_true rfl) (ws2 := w_X5_readConfidence g h0 h1 h2 v0_1 v0_8 v0_10 v1_0 v1_1 v1_2 v1_3 v1_4 v1_6 v1_7 v1_8 v1_9 v1_10 v1_11 v1_12 length0 failure0 token0 start0 end0 1 confidence1 text2) rfl dX5_readConfidence_14 (fun H locs w => ?_)
    refine lv_aload_n hx hb dX5_readConfidence_17 rfl (lv_at hl 0 rfl) ?_
    refine g_X5_25 C w 0 rfl rfl dX5_readConfidence_18 ?_
    refine lv_aload_n hx hb dX5_readConfidence_21 rfl (lv_at hl 0 rfl) ?_
    refine lv_iconst (v := 1) hx hb dX5_readConfidence_22 (by decide) ?_
    refine lv_sipush (v := 300) hx hb dX5_readConfidence_23 (by decide) ?_
    obtain ⟨r1, o2, o3, o4, o5, hc6, hf⟩ := bd5_some hf
    refine ca_iV C w (wn := fun _ => w_X5_readConfidence g h0 h1 h2 v0_1 v0_8 v0_10 v1_0 v1_1 v1_2 v1_3 v1_4 v1_6 v1_7 v1_8 v1_9 v1_10 v1_11 v1_12 length0 o2 o3 o4 o5 1 confidence1 text2) (pm_k [true, false, true] rfl rfl (fun _ => Nat.le_of_ble_eq_true rfl) (fun _ => rfl)) (c_X5_readNumber l g F h0 h2 v0_1 (.ref h1) v0_8 (.int 1) v0_10 1 300 length0 failure0 token0 start0 end0 text2 r1 o2 o3 o4 o5 _ hc6) k_X5_82 (rm_le (by decide) (by decide)) 0 5 rfl rfl rfl rfl hl.1 rfl (Nat.le_of_ble_eq_true rfl) dX5_readConfidence_26 ⟨Nat.le_of_ble_eq_true rfl, Nat.le_of_ble_eq_true rfl⟩ (cells2 := 0) (slots2 := 0) ⟨rfl, rfl⟩ (fun _ H locs w => ?_)
    refine p_X5_153 C w 1 rfl (Nat.le_of_ble_eq_true rfl) (ws2 := w_X5_readConfidence g h0 h1 h2 v0_1 v0_8 v0_10 v1_0 v1_1 v1_2 v1_3 v1_4 v1_6 v1_7 v1_8 v1_9 v1_10 v1_11 v1_12 length0 o2 o3 o4 o5 1 r1 text2) rfl dX5_readConfidence_29 (fun H locs w => ?_)
    obtain ⟨e1, e2, e3, e4, e5, e6⟩ := tp6 hf
    rw [hQ]
    exact rt_v C w rfl (fun _ => 0) (by rw [← e1, ← e2, ← e3, ← e4, ← e5, ← e6]) dX5_readConfidence_32
  refine lv_aload_n hx hb dX5_readConfidence_0 rfl (lv_at hl 0 rfl) ?_
  refine g_X5_45 C w 0 rfl rfl dX5_readConfidence_1 ?_
  refine lv_if_eq (tgt := 12) hx hb dX5_readConfidence_4 (by decide) (fun c7 => ?_) (fun c7 => ?_)
  · replace hf := it_t c7 hf
    exact b12 failure0 token0 start0 end0 confidenceSeen0 confidence1 _ _ _ hf w (lv_sub hl [0] rfl)
  · replace hf := it_f c7 hf
    refine lv_aload_n hx hb dX5_readConfidence_7 rfl (lv_at hl 0 rfl) ?_
    refine lv_iconst (v := 3) hx hb dX5_readConfidence_8 (by decide) ?_
    obtain ⟨o8, hc9, hf⟩ := bd1_some hf
    refine ca_vV C w (wn := fun _ => w_X5_readConfidence g h0 h1 h2 v0_1 v0_8 v0_10 v1_0 v1_1 v1_2 v1_3 v1_4 v1_6 v1_7 v1_8 v1_9 v1_10 v1_11 v1_12 length0 o8 token0 start0 end0 confidenceSeen0 confidence1 text2) (pm_k [true, false, false] rfl rfl (fun _ => Nat.le_of_ble_eq_true rfl) (fun _ => rfl)) (c_X5_fail l g F h0 (.ref h2) v0_1 (.int length0) (.ref h1) (.int token0) (.int end0) v0_8 (.int confidenceSeen0) v0_10 3 failure0 start0 o8 _ hc9) k_X5_78 (rm_le (by decide) (by decide)) 0 5 rfl rfl rfl rfl hl.1 rfl (Nat.le_of_ble_eq_true rfl) dX5_readConfidence_9 ⟨Nat.le_of_ble_eq_true rfl, Nat.le_of_ble_eq_true rfl⟩ (cells2 := 0) (slots2 := 0) ⟨rfl, rfl⟩ (fun _ H locs w => ?_)
    exact b12 o8 token0 start0 end0 confidenceSeen0 confidence1 _ _ _ hf w (lv_sub hl [0] rfl)

theorem dX5_readFee_0 : decode cX5_readFee 0 = .ok (.aload_n 0, 1) := by decide +kernel
theorem dX5_readFee_1 : decode cX5_readFee 1 = .ok (.getfield 48, 3) := by decide +kernel
theorem dX5_readFee_4 : decode cX5_readFee 4 = .ok (.ifCond .eq 8, 3) := by decide +kernel
theorem dX5_readFee_7 : decode cX5_readFee 7 = .ok (.aload_n 0, 1) := by decide +kernel
theorem dX5_readFee_8 : decode cX5_readFee 8 = .ok (.iconst 3, 1) := by decide +kernel
theorem dX5_readFee_9 : decode cX5_readFee 9 = .ok (.invokevirtual 78, 3) := by decide +kernel
theorem dX5_readFee_12 : decode cX5_readFee 12 = .ok (.aload_n 0, 1) := by decide +kernel
theorem dX5_readFee_13 : decode cX5_readFee 13 = .ok (.iconst 1, 1) := by decide +kernel
theorem dX5_readFee_14 : decode cX5_readFee 14 = .ok (.putfield 48, 3) := by decide +kernel
theorem dX5_readFee_17 : decode cX5_readFee 17 = .ok (.aload_n 0, 1) := by decide +kernel
theorem dX5_readFee_18 : decode cX5_readFee 18 = .ok (.getfield 25, 3) := by decide +kernel
theorem dX5_readFee_21 : decode cX5_readFee 21 = .ok (.aload_n 0, 1) := by decide +kernel
theorem dX5_readFee_22 : decode cX5_readFee 22 = .ok (.iconst 0, 1) := by decide +kernel
theorem dX5_readFee_23 : decode cX5_readFee 23 = .ok (.sipush 5000, 3) := by decide +kernel
theorem dX5_readFee_26 : decode cX5_readFee 26 = .ok (.invokevirtual 82, 3) := by decide +kernel
theorem dX5_readFee_29 : decode cX5_readFee 29 = .ok (.putfield 155, 3) := by decide +kernel
theorem dX5_readFee_32 : decode cX5_readFee 32 = .ok (.return_, 1) := by decide +kernel
abbrev m_X5_readFee : MD := (yX5_readFee, cX5_readFee, 1, none)
theorem g_X5_48 {p : Program} {l : Launch} {e : Env} {R : Room} {s : State} {m : MethodId} {args : Array Value} {below : List Frame} {meth : Method} {c : Code} {H : Heap} {locs : List Loc} {cells slots : Nat} {Q : State → Prop} {d : MD} {g : GT} {A : Nat → Prop} {ws : va_W} {pc : Nat} {ls : Array Slot} {rest : List Value} (C : Cx p s m args meth c RX5 d g A) (w : Wd g A ws s.heap H locs) (q0 : Nat) {a : Nat} {fs : List Value} {v : Value} (he : ws[q0]? = some (a, .inr (5, fs))) (hv : fs[10]? = some v) (hd : decode d.2.1 pc = .ok (.getfield 48, 3)) (kk : W p l e R s m args below meth c H locs cells slots Q (F0 m (pc + 3) ls (v :: rest))) : W p l e R s m args below meth c H locs cells slots Q (F0 m pc ls (.ref a :: rest)) := fg C w inX5s (ref := RX5) rfl 10 (by decide) (ts_t (w := Cond.fieldLink RX5 48 RX5 (TX5 10).2.1 (TX5 10).2.2.1) 114 (by decide +kernel) (by decide +kernel)) rfl q0 he hv hd kk
theorem p_X5_48 {p : Program} {l : Launch} {e : Env} {R : Room} {s : State} {m : MethodId} {args : Array Value} {below : List Frame} {meth : Method} {c : Code} {H : Heap} {locs : List Loc} {cells slots : Nat} {Q : State → Prop} {d : MD} {g : GT} {A : Nat → Prop} {ws : va_W} {pc : Nat} {ls : Array Slot} {rest : List Value} (C : Cx p s m args meth c RX5 d g A) (w : Wd g A ws s.heap H locs) (q0 : Nat) {a : Nat} {fs : List Value} {x : Int32} (he : ws[q0]? = some (a, .inr (5, fs))) (hn : narrow .boolean (.int x) = .int x) (hft : fits .boolean (.int x) = true) (hlt : 10 < fs.length) {ws2 : va_W} (h2 : ws.set q0 (a, .inr (5, fs.set 10 (.int x))) = ws2) (hd : decode d.2.1 pc = .ok (.putfield 48, 3)) (kk : ∀ (H1 : Heap) (locs1 : List Loc), Wd g A ws2 s.heap H1 locs1 → W p l e R s m args below meth c H1 locs1 cells slots Q (F0 m (pc + 3) ls rest)) : W p l e R s m args below meth c H locs cells slots Q (F0 m pc ls (.int x :: .ref a :: rest)) := fp C w inX5s tyX5_ok nmX5 (ref := RX5) rfl 10 (by decide) (ts_t (w := Cond.fieldLink RX5 48 RX5 (TX5 10).2.1 (TX5 10).2.2.1) 114 (by decide +kernel) (by decide +kernel)) rfl rfl q0 he hn hft hlt h2 hd kk
theorem p_X5_155 {p : Program} {l : Launch} {e : Env} {R : Room} {s : State} {m : MethodId} {args : Array Value} {below : List Frame} {meth : Method} {c : Code} {H : Heap} {locs : List Loc} {cells slots : Nat} {Q : State → Prop} {d : MD} {g : GT} {A : Nat → Prop} {ws : va_W} {pc : Nat} {ls : Array Slot} {rest : List Value} (C : Cx p s m args meth c RX5 d g A) (w : Wd g A ws s.heap H locs) (q0 : Nat) {a : Nat} {fs : List Value} {x : Int32} (he : ws[q0]? = some (a, .inr (4, fs))) (hlt : 6 < fs.length) {ws2 : va_W} (h2 : ws.set q0 (a, .inr (4, fs.set 6 (.int x))) = ws2) (hd : decode d.2.1 pc = .ok (.putfield 155, 3)) (kk : ∀ (H1 : Heap) (locs1 : List Loc), Wd g A ws2 s.heap H1 locs1 → W p l e R s m args below meth c H1 locs1 cells slots Q (F0 m (pc + 3) ls rest)) : W p l e R s m args below meth c H locs cells slots Q (F0 m pc ls (.int x :: .ref a :: rest)) := fpN C w inX4s tyX4_ok nmX4 (ref := RX4) rfl 6 (by decide) (nw_t (w := Cond.fieldLinkNest RX5 155 RX4 (TX4 6).2.1 (TX4 6).2.2.1 "FreeFlowToll") 58 (by decide +kernel) rfl) rfl rfl q0 he rfl rfl hlt h2 hd kk
abbrev w_X5_readFee (g : GT) (h0 h1 h2 : Nat) (v0_1 v0_8 v0_9 v1_0 v1_1 v1_2 v1_3 v1_4 v1_5 v1_7 v1_8 v1_9 v1_10 v1_11 v1_12 : Value) (length0 failure0 token0 start0 end0 feeSeen0 fee1 : Int32) (text2 : Nat → Int32) : va_W := [(h0, .inr (5, [.ref h2, v0_1, .int length0, .ref h1, .int failure0, .int token0, .int start0, .int end0, v0_8, v0_9, .int feeSeen0])), (h1, .inr (4, [v1_0, v1_1, v1_2, v1_3, v1_4, v1_5, .int fee1, v1_7, v1_8, v1_9, v1_10, v1_11, v1_12])), (h2, aI g 900 text2)]
def f_X5_readFee_b12 (F : Nat) (length0 : Int32) (text2 : Nat → Int32) (failure0 token0 start0 end0 feeSeen0 fee1 : Int32) : Option (Int32 × Int32 × Int32 × Int32 × Int32 × Int32) :=
  bd5 (f_X5_readNumber F 0 5000 length0 failure0 token0 start0 end0 text2) fun r1 o2 o3 o4 o5 =>
  some (o2, o3, o4, o5, 1, r1)
def f_X5_readFee (F : Nat) (length0 failure0 token0 start0 end0 feeSeen0 fee1 : Int32) (text2 : Nat → Int32) : Option (Int32 × Int32 × Int32 × Int32 × Int32 × Int32) :=
  if feeSeen0 = 0 then
    f_X5_readFee_b12 F length0 text2 failure0 token0 start0 end0 feeSeen0 fee1
  else
    bd1 (f_X5_fail F 3 failure0 start0) fun o8 =>
    f_X5_readFee_b12 F length0 text2 o8 token0 start0 end0 feeSeen0 fee1
set_option maxHeartbeats 4000000 in
set_option maxRecDepth 100000 in
theorem c_X5_readFee (l : Launch) (g : GT) (F : Nat) (h0 h1 h2 : Nat) (v0_1 v0_8 v0_9 v1_0 v1_1 v1_2 v1_3 v1_4 v1_5 v1_7 v1_8 v1_9 v1_10 v1_11 v1_12 : Value) (length0 failure0 token0 start0 end0 feeSeen0 fee1 : Int32) (text2 : Nat → Int32) (o_failure0 o_token0 o_start0 o_end0 o_feeSeen0 o_fee1 : Int32) (sz : Nat) (hf : f_X5_readFee F length0 failure0 token0 start0 end0 feeSeen0 fee1 text2 = some (o_failure0, o_token0, o_start0, o_end0, o_feeSeen0, o_fee1)) : CV l m_X5_readFee (rml 3 0 0) g (w_X5_readFee g h0 h1 h2 v0_1 v0_8 v0_9 v1_0 v1_1 v1_2 v1_3 v1_4 v1_5 v1_7 v1_8 v1_9 v1_10 v1_11 v1_12 length0 failure0 token0 start0 end0 feeSeen0 fee1 text2) (fun _ => w_X5_readFee g h0 h1 h2 v0_1 v0_8 v0_9 v1_0 v1_1 v1_2 v1_3 v1_4 v1_5 v1_7 v1_8 v1_9 v1_10 v1_11 v1_12 length0 o_failure0 o_token0 o_start0 o_end0 o_feeSeen0 o_fee1 text2) sz [.ref h0] := by
  refine en_v (by decide) (Nat.le_of_ble_eq_true rfl) (fun p e s m args below meth c A ls C w hl => ?_)
  have C : Cx p s m args meth c RX5 m_X5_readFee g A := C
  have hx := C.1
  have hb : c.code = cX5_readFee := C.2.1
  have hl : lv_has ls 1 [(0, .ref h0)] := hl
  obtain ⟨Q, hQ⟩ : ∃ Q, Q = QV below args s g A (fun _ => w_X5_readFee g h0 h1 h2 v0_1 v0_8 v0_9 v1_0 v1_1 v1_2 v1_3 v1_4 v1_5 v1_7 v1_8 v1_9 v1_10 v1_11 v1_12 length0 o_failure0 o_token0 o_start0 o_end0 o_feeSeen0 o_fee1 text2) 0 0 := ⟨_, rfl⟩
  suffices hW : W p l e (rml 3 0 0) s m args below meth c s.heap [] 0 0 Q (F0 m 0 ls []) from (by rw [hQ] at hW; exact hW)
  unfold f_X5_readFee at hf
  have b12 : ∀ (failure0 token0 start0 end0 feeSeen0 fee1 : Int32) (H : Heap) (locs : List Loc) (ls : Array Slot), f_X5_readFee_b12 F length0 text2 failure0 token0 start0 end0 feeSeen0 fee1 = some (o_failure0, o_token0, o_start0, o_end0, o_feeSeen0, o_fee1) → Wd g A (w_X5_readFee g h0 h1 h2 v0_1 v0_8 v0_9 v1_0 v1_1 v1_2 v1_3 v1_4 v1_5 v1_7 v1_8 v1_9 v1_10 v1_11 v1_12 length0 failure0 token0 start0 end0 feeSeen0 fee1 text2) s.heap H locs → lv_has ls 1 [(0, .ref h0)] → W p l e (rml 3 0 0) s m args below meth c H locs 0 0 Q (F0 m 12 ls []) := by
    intro failure0 token0 start0 end0 feeSeen0 fee1 H locs ls hf w hl
    unfold f_X5_readFee_b12 at hf
    refine lv_aload_n hx hb dX5_readFee_12 rfl (lv_at hl 0 rfl) ?_
    refine lv_iconst (v := 1) hx hb dX5_readFee_13 (by decide) ?_
    refine p_X5_48 C w 0 rfl rfl rfl (Nat.le_of_ble_eq_true rfl) (ws2 := w_X5_readFee g h0 h1 h2 v0_1 v0_8 v0_9 v1_0 v1_1 v1_2 v1_3 v1_4 v1_5 v1_7 v1_8 v1_9 v1_10 v1_11 v1_12 length0 failure0 token0 start0 end0 1 fee1 text2) rfl dX5_readFee_14 (fun H locs w => ?_)
    refine lv_aload_n hx hb dX5_readFee_17 rfl (lv_at hl 0 rfl) ?_
    refine g_X5_25 C w 0 rfl rfl dX5_readFee_18 ?_
    refine lv_aload_n hx hb dX5_readFee_21 rfl (lv_at hl 0 rfl) ?_
    refine lv_iconst (v := 0) hx hb dX5_readFee_22 (by decide) ?_
    refine lv_sipush (v := 5000) hx hb dX5_readFee_23 (by decide) ?_
    obtain ⟨r1, o2, o3, o4, o5, hc6, hf⟩ := bd5_some hf
    refine ca_iV C w (wn := fun _ => w_X5_readFee g h0 h1 h2 v0_1 v0_8 v0_9 v1_0 v1_1 v1_2 v1_3 v1_4 v1_5 v1_7 v1_8 v1_9 v1_10 v1_11 v1_12 length0 o2 o3 o4 o5 1 fee1 text2) (pm_k [true, false, true] rfl rfl (fun _ => Nat.le_of_ble_eq_true rfl) (fun _ => rfl)) (c_X5_readNumber l g F h0 h2 v0_1 (.ref h1) v0_8 v0_9 (.int 1) 0 5000 length0 failure0 token0 start0 end0 text2 r1 o2 o3 o4 o5 _ hc6) k_X5_82 (rm_le (by decide) (by decide)) 0 5 rfl rfl rfl rfl hl.1 rfl (Nat.le_of_ble_eq_true rfl) dX5_readFee_26 ⟨Nat.le_of_ble_eq_true rfl, Nat.le_of_ble_eq_true rfl⟩ (cells2 := 0) (slots2 := 0) ⟨rfl, rfl⟩ (fun _ H locs w => ?_)
    refine p_X5_155 C w 1 rfl (Nat.le_of_ble_eq_true rfl) (ws2 := w_X5_readFee g h0 h1 h2 v0_1 v0_8 v0_9 v1_0 v1_1 v1_2 v1_3 v1_4 v1_5 v1_7 v1_8 v1_9 v1_10 v1_11 v1_12 length0 o2 o3 o4 o5 1 r1 text2) rfl dX5_readFee_29 (fun H locs w => ?_)
    obtain ⟨e1, e2, e3, e4, e5, e6⟩ := tp6 hf
    rw [hQ]
    exact rt_v C w rfl (fun _ => 0) (by rw [← e1, ← e2, ← e3, ← e4, ← e5, ← e6]) dX5_readFee_32
  refine lv_aload_n hx hb dX5_readFee_0 rfl (lv_at hl 0 rfl) ?_
  refine g_X5_48 C w 0 rfl rfl dX5_readFee_1 ?_
  refine lv_if_eq (tgt := 12) hx hb dX5_readFee_4 (by decide) (fun c7 => ?_) (fun c7 => ?_)
  · replace hf := it_t c7 hf
    exact b12 failure0 token0 start0 end0 feeSeen0 fee1 _ _ _ hf w (lv_sub hl [0] rfl)
  · replace hf := it_f c7 hf
    refine lv_aload_n hx hb dX5_readFee_7 rfl (lv_at hl 0 rfl) ?_
    refine lv_iconst (v := 3) hx hb dX5_readFee_8 (by decide) ?_
    obtain ⟨o8, hc9, hf⟩ := bd1_some hf
    refine ca_vV C w (wn := fun _ => w_X5_readFee g h0 h1 h2 v0_1 v0_8 v0_9 v1_0 v1_1 v1_2 v1_3 v1_4 v1_5 v1_7 v1_8 v1_9 v1_10 v1_11 v1_12 length0 o8 token0 start0 end0 feeSeen0 fee1 text2) (pm_k [true, false, false] rfl rfl (fun _ => Nat.le_of_ble_eq_true rfl) (fun _ => rfl)) (c_X5_fail l g F h0 (.ref h2) v0_1 (.int length0) (.ref h1) (.int token0) (.int end0) v0_8 v0_9 (.int feeSeen0) 3 failure0 start0 o8 _ hc9) k_X5_78 (rm_le (by decide) (by decide)) 0 5 rfl rfl rfl rfl hl.1 rfl (Nat.le_of_ble_eq_true rfl) dX5_readFee_9 ⟨Nat.le_of_ble_eq_true rfl, Nat.le_of_ble_eq_true rfl⟩ (cells2 := 0) (slots2 := 0) ⟨rfl, rfl⟩ (fun _ H locs w => ?_)
    exact b12 o8 token0 start0 end0 feeSeen0 fee1 _ _ _ hf w (lv_sub hl [0] rfl)

theorem dX5_readStatement_0 : decode cX5_readStatement 0 = .ok (.aload_n 0, 1) := by decide +kernel
theorem dX5_readStatement_1 : decode cX5_readStatement 1 = .ok (.ldc 87, 2) := by decide +kernel
theorem dX5_readStatement_3 : decode cX5_readStatement 3 = .ok (.invokevirtual 74, 3) := by decide +kernel
theorem dX5_readStatement_6 : decode cX5_readStatement 6 = .ok (.ifCond .eq 10, 3) := by decide +kernel
theorem dX5_readStatement_9 : decode cX5_readStatement 9 = .ok (.aload_n 0, 1) := by decide +kernel
theorem dX5_readStatement_10 : decode cX5_readStatement 10 = .ok (.invokevirtual 89, 3) := by decide +kernel
theorem dX5_readStatement_13 : decode cX5_readStatement 13 = .ok (.goto 88, 3) := by decide +kernel
theorem dX5_readStatement_16 : decode cX5_readStatement 16 = .ok (.aload_n 0, 1) := by decide +kernel
theorem dX5_readStatement_17 : decode cX5_readStatement 17 = .ok (.ldc 92, 2) := by decide +kernel
theorem dX5_readStatement_19 : decode cX5_readStatement 19 = .ok (.invokevirtual 74, 3) := by decide +kernel
theorem dX5_readStatement_22 : decode cX5_readStatement 22 = .ok (.ifCond .eq 10, 3) := by decide +kernel
theorem dX5_readStatement_25 : decode cX5_readStatement 25 = .ok (.aload_n 0, 1) := by decide +kernel
theorem dX5_readStatement_26 : decode cX5_readStatement 26 = .ok (.invokevirtual 94, 3) := by decide +kernel
theorem dX5_readStatement_29 : decode cX5_readStatement 29 = .ok (.goto 72, 3) := by decide +kernel
theorem dX5_readStatement_32 : decode cX5_readStatement 32 = .ok (.aload_n 0, 1) := by decide +kernel
theorem dX5_readStatement_33 : decode cX5_readStatement 33 = .ok (.ldc 97, 2) := by decide +kernel
theorem dX5_readStatement_35 : decode cX5_readStatement 35 = .ok (.invokevirtual 74, 3) := by decide +kernel
theorem dX5_readStatement_38 : decode cX5_readStatement 38 = .ok (.ifCond .eq 10, 3) := by decide +kernel
theorem dX5_readStatement_41 : decode cX5_readStatement 41 = .ok (.aload_n 0, 1) := by decide +kernel
theorem dX5_readStatement_42 : decode cX5_readStatement 42 = .ok (.invokevirtual 99, 3) := by decide +kernel
theorem dX5_readStatement_45 : decode cX5_readStatement 45 = .ok (.goto 56, 3) := by decide +kernel
theorem dX5_readStatement_48 : decode cX5_readStatement 48 = .ok (.aload_n 0, 1) := by decide +kernel
theorem dX5_readStatement_49 : decode cX5_readStatement 49 = .ok (.ldc 102, 2) := by decide +kernel
theorem dX5_readStatement_51 : decode cX5_readStatement 51 = .ok (.invokevirtual 74, 3) := by decide +kernel
theorem dX5_readStatement_54 : decode cX5_readStatement 54 = .ok (.ifCond .eq 10, 3) := by decide +kernel
theorem dX5_readStatement_57 : decode cX5_readStatement 57 = .ok (.aload_n 0, 1) := by decide +kernel
theorem dX5_readStatement_58 : decode cX5_readStatement 58 = .ok (.invokevirtual 104, 3) := by decide +kernel
theorem dX5_readStatement_61 : decode cX5_readStatement 61 = .ok (.goto 40, 3) := by decide +kernel
theorem dX5_readStatement_64 : decode cX5_readStatement 64 = .ok (.aload_n 0, 1) := by decide +kernel
theorem dX5_readStatement_65 : decode cX5_readStatement 65 = .ok (.ldc 107, 2) := by decide +kernel
theorem dX5_readStatement_67 : decode cX5_readStatement 67 = .ok (.invokevirtual 74, 3) := by decide +kernel
theorem dX5_readStatement_70 : decode cX5_readStatement 70 = .ok (.ifCond .eq 10, 3) := by decide +kernel
theorem dX5_readStatement_73 : decode cX5_readStatement 73 = .ok (.aload_n 0, 1) := by decide +kernel
theorem dX5_readStatement_74 : decode cX5_readStatement 74 = .ok (.invokevirtual 109, 3) := by decide +kernel
theorem dX5_readStatement_77 : decode cX5_readStatement 77 = .ok (.goto 24, 3) := by decide +kernel
theorem dX5_readStatement_80 : decode cX5_readStatement 80 = .ok (.aload_n 0, 1) := by decide +kernel
theorem dX5_readStatement_81 : decode cX5_readStatement 81 = .ok (.ldc 112, 2) := by decide +kernel
theorem dX5_readStatement_83 : decode cX5_readStatement 83 = .ok (.invokevirtual 74, 3) := by decide +kernel
theorem dX5_readStatement_86 : decode cX5_readStatement 86 = .ok (.ifCond .eq 10, 3) := by decide +kernel
theorem dX5_readStatement_89 : decode cX5_readStatement 89 = .ok (.aload_n 0, 1) := by decide +kernel
theorem dX5_readStatement_90 : decode cX5_readStatement 90 = .ok (.invokevirtual 114, 3) := by decide +kernel
theorem dX5_readStatement_93 : decode cX5_readStatement 93 = .ok (.goto 8, 3) := by decide +kernel
theorem dX5_readStatement_96 : decode cX5_readStatement 96 = .ok (.aload_n 0, 1) := by decide +kernel
theorem dX5_readStatement_97 : decode cX5_readStatement 97 = .ok (.iconst 1, 1) := by decide +kernel
theorem dX5_readStatement_98 : decode cX5_readStatement 98 = .ok (.invokevirtual 78, 3) := by decide +kernel
theorem dX5_readStatement_101 : decode cX5_readStatement 101 = .ok (.return_, 1) := by decide +kernel
abbrev m_X5_readStatement : MD := (yX5_readStatement, cX5_readStatement, 1, none)
theorem q_747 : Cond.code yX5_readFee cX5_readFee 1 none ∈ TS := ts_t 747 (by decide +kernel) (by decide +kernel)
theorem q_744 : Cond.methodLink RX5 114 yX5_readFee ∈ TS := ts_t 744 (by decide +kernel) (by decide +kernel)
theorem q_746 : Cond.instanceMethod yX5_readFee ∈ TS := ts_t 746 (by decide +kernel) (by decide +kernel)
theorem qs_43 : Cond.selects yX5_readFee.cls yX5_readFee yX5_readFee ∈ TS := ts_s 43 (by decide +kernel) (by decide +kernel)
theorem k_X5_114 : LkV RX5 114 m_X5_readFee 0 := ⟨q_744, q_746, qs_43, ⟨q_3, q_747, by decide, by decide, by decide +kernel⟩⟩
theorem q_742 : Cond.code yX5_readConfidence cX5_readConfidence 1 none ∈ TS := ts_t 742 (by decide +kernel) (by decide +kernel)
theorem q_739 : Cond.methodLink RX5 109 yX5_readConfidence ∈ TS := ts_t 739 (by decide +kernel) (by decide +kernel)
theorem q_741 : Cond.instanceMethod yX5_readConfidence ∈ TS := ts_t 741 (by decide +kernel) (by decide +kernel)
theorem qs_42 : Cond.selects yX5_readConfidence.cls yX5_readConfidence yX5_readConfidence ∈ TS := ts_s 42 (by decide +kernel) (by decide +kernel)
theorem k_X5_109 : LkV RX5 109 m_X5_readConfidence 0 := ⟨q_739, q_741, qs_42, ⟨q_3, q_742, by decide, by decide, by decide +kernel⟩⟩
theorem q_737 : Cond.code yX5_readWindow cX5_readWindow 1 none ∈ TS := ts_t 737 (by decide +kernel) (by decide +kernel)
theorem q_734 : Cond.methodLink RX5 104 yX5_readWindow ∈ TS := ts_t 734 (by decide +kernel) (by decide +kernel)
theorem q_736 : Cond.instanceMethod yX5_readWindow ∈ TS := ts_t 736 (by decide +kernel) (by decide +kernel)
theorem qs_41 : Cond.selects yX5_readWindow.cls yX5_readWindow yX5_readWindow ∈ TS := ts_s 41 (by decide +kernel) (by decide +kernel)
theorem k_X5_104 : LkV RX5 104 m_X5_readWindow 0 := ⟨q_734, q_736, qs_41, ⟨q_3, q_737, by decide, by decide, by decide +kernel⟩⟩
theorem q_727 : Cond.code yX5_readTagStatement cX5_readTagStatement 3 none ∈ TS := ts_t 727 (by decide +kernel) (by decide +kernel)
theorem q_724 : Cond.methodLink RX5 99 yX5_readTagStatement ∈ TS := ts_t 724 (by decide +kernel) (by decide +kernel)
theorem q_726 : Cond.instanceMethod yX5_readTagStatement ∈ TS := ts_t 726 (by decide +kernel) (by decide +kernel)
theorem qs_39 : Cond.selects yX5_readTagStatement.cls yX5_readTagStatement yX5_readTagStatement ∈ TS := ts_s 39 (by decide +kernel) (by decide +kernel)
theorem k_X5_99 : LkV RX5 99 m_X5_readTagStatement 0 := ⟨q_724, q_726, qs_39, ⟨q_3, q_727, by decide, by decide, by decide +kernel⟩⟩
theorem q_713 : Cond.code yX5_readClass cX5_readClass 3 none ∈ TS := ts_t 713 (by decide +kernel) (by decide +kernel)
theorem q_710 : Cond.methodLink RX5 94 yX5_readClass ∈ TS := ts_t 710 (by decide +kernel) (by decide +kernel)
theorem q_712 : Cond.instanceMethod yX5_readClass ∈ TS := ts_t 712 (by decide +kernel) (by decide +kernel)
theorem qs_36 : Cond.selects yX5_readClass.cls yX5_readClass yX5_readClass ∈ TS := ts_s 36 (by decide +kernel) (by decide +kernel)
theorem k_X5_94 : LkV RX5 94 m_X5_readClass 0 := ⟨q_710, q_712, qs_36, ⟨q_3, q_713, by decide, by decide, by decide +kernel⟩⟩
theorem q_696 : Cond.code yX5_readLink cX5_readLink 5 none ∈ TS := ts_t 696 (by decide +kernel) (by decide +kernel)
theorem q_693 : Cond.methodLink RX5 89 yX5_readLink ∈ TS := ts_t 693 (by decide +kernel) (by decide +kernel)
theorem q_695 : Cond.instanceMethod yX5_readLink ∈ TS := ts_t 695 (by decide +kernel) (by decide +kernel)
theorem qs_32 : Cond.selects yX5_readLink.cls yX5_readLink yX5_readLink ∈ TS := ts_s 32 (by decide +kernel) (by decide +kernel)
theorem k_X5_89 : LkV RX5 89 m_X5_readLink 0 := ⟨q_693, q_695, qs_32, ⟨q_3, q_696, by decide, by decide, by decide +kernel⟩⟩
abbrev w_X5_readStatement (g : GT) (h0 h1 h2 h3 h4 h5 h6 h7 h8 : Nat) (v0_1 : Value) (length0 failure0 token0 start0 end0 windowSeen0 confidenceSeen0 feeSeen0 gantries1 links1 classes1 tags1 window1 confidence1 fee1 : Int32) (classAxles2 classPercent3 linkMinutes4 linkPrice5 tagAxles6 tagPlate7 text8 : Nat → Int32) : va_W := [(h0, .inr (5, [.ref h8, v0_1, .int length0, .ref h1, .int failure0, .int token0, .int start0, .int end0, .int windowSeen0, .int confidenceSeen0, .int feeSeen0])), (h1, .inr (4, [.int gantries1, .int links1, .int classes1, .int tags1, .int window1, .int confidence1, .int fee1, .ref h4, .ref h5, .ref h2, .ref h3, .ref h7, .ref h6])), (h2, aI g 4 classAxles2), (h3, aI g 4 classPercent3), (h4, aI g 100 linkMinutes4), (h5, aI g 100 linkPrice5), (h6, aI g 12 tagAxles6), (h7, aI g 12 tagPlate7), (h8, aI g 900 text8)]
def f_X5_readStatement_b101 (F : Nat) (length0 gantries1 : Int32) (text8 : Nat → Int32) (failure0 token0 start0 end0 windowSeen0 confidenceSeen0 feeSeen0 links1 classes1 tags1 window1 confidence1 fee1 : Int32) (classAxles2 classPercent3 linkMinutes4 linkPrice5 tagAxles6 tagPlate7 : Nat → Int32) : Option (Int32 × Int32 × Int32 × Int32 × Int32 × Int32 × Int32 × Int32 × Int32 × Int32 × Int32 × Int32 × Int32 × (Nat → Int32) × (Nat → Int32) × (Nat → Int32) × (Nat → Int32) × (Nat → Int32) × (Nat → Int32)) :=
  some (failure0, token0, start0, end0, windowSeen0, confidenceSeen0, feeSeen0, links1, classes1, tags1, window1, confidence1, fee1, classAxles2, classPercent3, linkMinutes4, linkPrice5, tagAxles6, tagPlate7)
def f_X5_readStatement (F : Nat) (length0 failure0 token0 start0 end0 windowSeen0 confidenceSeen0 feeSeen0 gantries1 links1 classes1 tags1 window1 confidence1 fee1 : Int32) (classAxles2 classPercent3 linkMinutes4 linkPrice5 tagAxles6 tagPlate7 text8 : Nat → Int32) : Option (Int32 × Int32 × Int32 × Int32 × Int32 × Int32 × Int32 × Int32 × Int32 × Int32 × Int32 × Int32 × Int32 × (Nat → Int32) × (Nat → Int32) × (Nat → Int32) × (Nat → Int32) × (Nat → Int32) × (Nat → Int32)) :=
  bd1 (f_X5_isWord F 1 token0 start0 end0 text8) fun r1 =>
  if r1 = 0 then
    bd1 (f_X5_isWord F 2 token0 start0 end0 text8) fun r4 =>
    if r4 = 0 then
      bd1 (f_X5_isWord F 3 token0 start0 end0 text8) fun r7 =>
      if r7 = 0 then
        bd1 (f_X5_isWord F 4 token0 start0 end0 text8) fun r10 =>
        if r10 = 0 then
          bd1 (f_X5_isWord F 5 token0 start0 end0 text8) fun r13 =>
          if r13 = 0 then
            bd1 (f_X5_isWord F 6 token0 start0 end0 text8) fun r16 =>
            if r16 = 0 then
              bd1 (f_X5_fail F 1 failure0 start0) fun o19 =>
              f_X5_readStatement_b101 F length0 gantries1 text8 o19 token0 start0 end0 windowSeen0 confidenceSeen0 feeSeen0 links1 classes1 tags1 window1 confidence1 fee1 classAxles2 classPercent3 linkMinutes4 linkPrice5 tagAxles6 tagPlate7
            else
              bd6 (f_X5_readFee F length0 failure0 token0 start0 end0 feeSeen0 fee1 text8) fun o21 o22 o23 o24 o25 o26 =>
              f_X5_readStatement_b101 F length0 gantries1 text8 o21 o22 o23 o24 windowSeen0 confidenceSeen0 o25 links1 classes1 tags1 window1 confidence1 o26 classAxles2 classPercent3 linkMinutes4 linkPrice5 tagAxles6 tagPlate7
          else
            bd6 (f_X5_readConfidence F length0 failure0 token0 start0 end0 confidenceSeen0 confidence1 text8) fun o28 o29 o30 o31 o32 o33 =>
            f_X5_readStatement_b101 F length0 gantries1 text8 o28 o29 o30 o31 windowSeen0 o32 feeSeen0 links1 classes1 tags1 window1 o33 fee1 classAxles2 classPercent3 linkMinutes4 linkPrice5 tagAxles6 tagPlate7
        else
          bd6 (f_X5_readWindow F length0 failure0 token0 start0 end0 windowSeen0 window1 text8) fun o35 o36 o37 o38 o39 o40 =>
          f_X5_readStatement_b101 F length0 gantries1 text8 o35 o36 o37 o38 o39 confidenceSeen0 feeSeen0 links1 classes1 tags1 o40 confidence1 fee1 classAxles2 classPercent3 linkMinutes4 linkPrice5 tagAxles6 tagPlate7
      else
        bd7 (f_X5_readTagStatement F length0 failure0 token0 start0 end0 tags1 tagAxles6 tagPlate7 text8) fun o42 o43 o44 o45 o46 o47 o48 =>
        f_X5_readStatement_b101 F length0 gantries1 text8 o42 o43 o44 o45 windowSeen0 confidenceSeen0 feeSeen0 links1 classes1 o46 window1 confidence1 fee1 classAxles2 classPercent3 linkMinutes4 linkPrice5 o47 o48
    else
      bd7 (f_X5_readClass F length0 failure0 token0 start0 end0 classes1 classAxles2 classPercent3 text8) fun o50 o51 o52 o53 o54 o55 o56 =>
      f_X5_readStatement_b101 F length0 gantries1 text8 o50 o51 o52 o53 windowSeen0 confidenceSeen0 feeSeen0 links1 o54 tags1 window1 confidence1 fee1 o55 o56 linkMinutes4 linkPrice5 tagAxles6 tagPlate7
  else
    bd7 (f_X5_readLink F length0 failure0 token0 start0 end0 gantries1 links1 linkMinutes4 linkPrice5 text8) fun o58 o59 o60 o61 o62 o63 o64 =>
    f_X5_readStatement_b101 F length0 gantries1 text8 o58 o59 o60 o61 windowSeen0 confidenceSeen0 feeSeen0 o62 classes1 tags1 window1 confidence1 fee1 classAxles2 classPercent3 o63 o64 tagAxles6 tagPlate7
set_option maxHeartbeats 4000000 in
set_option maxRecDepth 100000 in
theorem c_X5_readStatement (l : Launch) (g : GT) (F : Nat) (h0 h1 h2 h3 h4 h5 h6 h7 h8 : Nat) (v0_1 : Value) (length0 failure0 token0 start0 end0 windowSeen0 confidenceSeen0 feeSeen0 gantries1 links1 classes1 tags1 window1 confidence1 fee1 : Int32) (classAxles2 classPercent3 linkMinutes4 linkPrice5 tagAxles6 tagPlate7 text8 : Nat → Int32) (o_failure0 o_token0 o_start0 o_end0 o_windowSeen0 o_confidenceSeen0 o_feeSeen0 o_links1 o_classes1 o_tags1 o_window1 o_confidence1 o_fee1 : Int32) (o_classAxles2 o_classPercent3 o_linkMinutes4 o_linkPrice5 o_tagAxles6 o_tagPlate7 : Nat → Int32) (sz : Nat) (hf : f_X5_readStatement F length0 failure0 token0 start0 end0 windowSeen0 confidenceSeen0 feeSeen0 gantries1 links1 classes1 tags1 window1 confidence1 fee1 classAxles2 classPercent3 linkMinutes4 linkPrice5 tagAxles6 tagPlate7 text8 = some (o_failure0, o_token0, o_start0, o_end0, o_windowSeen0, o_confidenceSeen0, o_feeSeen0, o_links1, o_classes1, o_tags1, o_window1, o_confidence1, o_fee1, o_classAxles2, o_classPercent3, o_linkMinutes4, o_linkPrice5, o_tagAxles6, o_tagPlate7)) : CV l m_X5_readStatement (rml 5 0 0) g (w_X5_readStatement g h0 h1 h2 h3 h4 h5 h6 h7 h8 v0_1 length0 failure0 token0 start0 end0 windowSeen0 confidenceSeen0 feeSeen0 gantries1 links1 classes1 tags1 window1 confidence1 fee1 classAxles2 classPercent3 linkMinutes4 linkPrice5 tagAxles6 tagPlate7 text8) (fun _ => w_X5_readStatement g h0 h1 h2 h3 h4 h5 h6 h7 h8 v0_1 length0 o_failure0 o_token0 o_start0 o_end0 o_windowSeen0 o_confidenceSeen0 o_feeSeen0 gantries1 o_links1 o_classes1 o_tags1 o_window1 o_confidence1 o_fee1 o_classAxles2 o_classPercent3 o_linkMinutes4 o_linkPrice5 o_tagAxles6 o_tagPlate7 text8) sz [.ref h0] := by
  refine en_v (by decide) (Nat.le_of_ble_eq_true rfl) (fun p e s m args below meth c A ls C w hl => ?_)
  have C : Cx p s m args meth c RX5 m_X5_readStatement g A := C
  have hx := C.1
  have hb : c.code = cX5_readStatement := C.2.1
  have hl : lv_has ls 1 [(0, .ref h0)] := hl
  obtain ⟨Q, hQ⟩ : ∃ Q, Q = QV below args s g A (fun _ => w_X5_readStatement g h0 h1 h2 h3 h4 h5 h6 h7 h8 v0_1 length0 o_failure0 o_token0 o_start0 o_end0 o_windowSeen0 o_confidenceSeen0 o_feeSeen0 gantries1 o_links1 o_classes1 o_tags1 o_window1 o_confidence1 o_fee1 o_classAxles2 o_classPercent3 o_linkMinutes4 o_linkPrice5 o_tagAxles6 o_tagPlate7 text8) 0 0 := ⟨_, rfl⟩
  suffices hW : W p l e (rml 5 0 0) s m args below meth c s.heap [] 0 0 Q (F0 m 0 ls []) from (by rw [hQ] at hW; exact hW)
  unfold f_X5_readStatement at hf
  have b101 : ∀ (failure0 token0 start0 end0 windowSeen0 confidenceSeen0 feeSeen0 links1 classes1 tags1 window1 confidence1 fee1 : Int32) (classAxles2 classPercent3 linkMinutes4 linkPrice5 tagAxles6 tagPlate7 : Nat → Int32) (H : Heap) (locs : List Loc) (ls : Array Slot), f_X5_readStatement_b101 F length0 gantries1 text8 failure0 token0 start0 end0 windowSeen0 confidenceSeen0 feeSeen0 links1 classes1 tags1 window1 confidence1 fee1 classAxles2 classPercent3 linkMinutes4 linkPrice5 tagAxles6 tagPlate7 = some (o_failure0, o_token0, o_start0, o_end0, o_windowSeen0, o_confidenceSeen0, o_feeSeen0, o_links1, o_classes1, o_tags1, o_window1, o_confidence1, o_fee1, o_classAxles2, o_classPercent3, o_linkMinutes4, o_linkPrice5, o_tagAxles6, o_tagPlate7) → Wd g A (w_X5_readStatement g h0 h1 h2 h3 h4 h5 h6 h7 h8 v0_1 length0 failure0 token0 start0 end0 windowSeen0 confidenceSeen0 feeSeen0 gantries1 links1 classes1 tags1 window1 confidence1 fee1 classAxles2 classPercent3 linkMinutes4 linkPrice5 tagAxles6 tagPlate7 text8) s.heap H locs → lv_has ls 1 [] → W p l e (rml 5 0 0) s m args below meth c H locs 0 0 Q (F0 m 101 ls []) := by
    intro failure0 token0 start0 end0 windowSeen0 confidenceSeen0 feeSeen0 links1 classes1 tags1 window1 confidence1 fee1 classAxles2 classPercent3 linkMinutes4 linkPrice5 tagAxles6 tagPlate7 H locs ls hf w hl
    unfold f_X5_readStatement_b101 at hf
    obtain ⟨e1, e2, e3, e4, e5, e6, e7, e8, e9, e10, e11, e12, e13, e14, e15, e16, e17, e18, e19⟩ := tp19 hf
    rw [hQ]
    exact rt_v C w rfl (fun _ => 0) (by rw [← e1, ← e2, ← e3, ← e4, ← e5, ← e6, ← e7, ← e8, ← e9, ← e10, ← e11, ← e12, ← e13, ← e14, ← e15, ← e16, ← e17, ← e18, ← e19]) dX5_readStatement_101
  refine lv_aload_n hx hb dX5_readStatement_0 rfl (lv_at hl 0 rfl) ?_
  refine va_ldcS hx hb C.2.2.2.1 (C.2.2.2.2.2.2.2.1.2.2.2.1 (RX5, 87, "link", 1) (List.mem_of_getElem? (i := 2) rfl)) dX5_readStatement_1 ?_
  obtain ⟨r1, hc2, hf⟩ := bd1_some hf
  refine ca_iV C w (wn := fun _ => w_X5_readStatement g h0 h1 h2 h3 h4 h5 h6 h7 h8 v0_1 length0 failure0 token0 start0 end0 windowSeen0 confidenceSeen0 feeSeen0 gantries1 links1 classes1 tags1 window1 confidence1 fee1 classAxles2 classPercent3 linkMinutes4 linkPrice5 tagAxles6 tagPlate7 text8) (pm_k [true, false, false, false, false, false, false, false, true] rfl rfl (fun _ => Nat.le_of_ble_eq_true rfl) (fun _ => rfl)) (c_X5_isWord l g F h0 h8 v0_1 (.int length0) (.ref h1) (.int failure0) (.int windowSeen0) (.int confidenceSeen0) (.int feeSeen0) 1 token0 start0 end0 text8 r1 (by decide) _ hc2) k_X5_74 (rm_le (by decide) (by decide)) 0 5 rfl rfl rfl rfl hl.1 rfl (Nat.le_of_ble_eq_true rfl) dX5_readStatement_3 ⟨Nat.le_of_ble_eq_true rfl, Nat.le_of_ble_eq_true rfl⟩ (cells2 := 0) (slots2 := 0) ⟨rfl, rfl⟩ (fun _ H locs w => ?_)
  refine lv_if_eq (tgt := 16) hx hb dX5_readStatement_6 (by decide) (fun c3 => ?_) (fun c3 => ?_)
  · replace hf := it_t c3 hf
    refine lv_aload_n hx hb dX5_readStatement_16 rfl (lv_at hl 0 rfl) ?_
    refine va_ldcS hx hb C.2.2.2.1 (C.2.2.2.2.2.2.2.1.2.2.2.1 (RX5, 92, "class", 2) (List.mem_of_getElem? (i := 3) rfl)) dX5_readStatement_17 ?_
    obtain ⟨r4, hc5, hf⟩ := bd1_some hf
    refine ca_iV C w (wn := fun _ => w_X5_readStatement g h0 h1 h2 h3 h4 h5 h6 h7 h8 v0_1 length0 failure0 token0 start0 end0 windowSeen0 confidenceSeen0 feeSeen0 gantries1 links1 classes1 tags1 window1 confidence1 fee1 classAxles2 classPercent3 linkMinutes4 linkPrice5 tagAxles6 tagPlate7 text8) (pm_k [true, false, false, false, false, false, false, false, true] rfl rfl (fun _ => Nat.le_of_ble_eq_true rfl) (fun _ => rfl)) (c_X5_isWord l g F h0 h8 v0_1 (.int length0) (.ref h1) (.int failure0) (.int windowSeen0) (.int confidenceSeen0) (.int feeSeen0) 2 token0 start0 end0 text8 r4 (by decide) _ hc5) k_X5_74 (rm_le (by decide) (by decide)) 0 5 rfl rfl rfl rfl hl.1 rfl (Nat.le_of_ble_eq_true rfl) dX5_readStatement_19 ⟨Nat.le_of_ble_eq_true rfl, Nat.le_of_ble_eq_true rfl⟩ (cells2 := 0) (slots2 := 0) ⟨rfl, rfl⟩ (fun _ H locs w => ?_)
    refine lv_if_eq (tgt := 32) hx hb dX5_readStatement_22 (by decide) (fun c6 => ?_) (fun c6 => ?_)
    · replace hf := it_t c6 hf
      refine lv_aload_n hx hb dX5_readStatement_32 rfl (lv_at hl 0 rfl) ?_
      refine va_ldcS hx hb C.2.2.2.1 (C.2.2.2.2.2.2.2.1.2.2.2.1 (RX5, 97, "tag", 3) (List.mem_of_getElem? (i := 4) rfl)) dX5_readStatement_33 ?_
      obtain ⟨r7, hc8, hf⟩ := bd1_some hf
      refine ca_iV C w (wn := fun _ => w_X5_readStatement g h0 h1 h2 h3 h4 h5 h6 h7 h8 v0_1 length0 failure0 token0 start0 end0 windowSeen0 confidenceSeen0 feeSeen0 gantries1 links1 classes1 tags1 window1 confidence1 fee1 classAxles2 classPercent3 linkMinutes4 linkPrice5 tagAxles6 tagPlate7 text8) (pm_k [true, false, false, false, false, false, false, false, true] rfl rfl (fun _ => Nat.le_of_ble_eq_true rfl) (fun _ => rfl)) (c_X5_isWord l g F h0 h8 v0_1 (.int length0) (.ref h1) (.int failure0) (.int windowSeen0) (.int confidenceSeen0) (.int feeSeen0) 3 token0 start0 end0 text8 r7 (by decide) _ hc8) k_X5_74 (rm_le (by decide) (by decide)) 0 5 rfl rfl rfl rfl hl.1 rfl (Nat.le_of_ble_eq_true rfl) dX5_readStatement_35 ⟨Nat.le_of_ble_eq_true rfl, Nat.le_of_ble_eq_true rfl⟩ (cells2 := 0) (slots2 := 0) ⟨rfl, rfl⟩ (fun _ H locs w => ?_)
      refine lv_if_eq (tgt := 48) hx hb dX5_readStatement_38 (by decide) (fun c9 => ?_) (fun c9 => ?_)
      · replace hf := it_t c9 hf
        refine lv_aload_n hx hb dX5_readStatement_48 rfl (lv_at hl 0 rfl) ?_
        refine va_ldcS hx hb C.2.2.2.1 (C.2.2.2.2.2.2.2.1.2.2.2.1 (RX5, 102, "window", 4) (List.mem_of_getElem? (i := 5) rfl)) dX5_readStatement_49 ?_
        obtain ⟨r10, hc11, hf⟩ := bd1_some hf
        refine ca_iV C w (wn := fun _ => w_X5_readStatement g h0 h1 h2 h3 h4 h5 h6 h7 h8 v0_1 length0 failure0 token0 start0 end0 windowSeen0 confidenceSeen0 feeSeen0 gantries1 links1 classes1 tags1 window1 confidence1 fee1 classAxles2 classPercent3 linkMinutes4 linkPrice5 tagAxles6 tagPlate7 text8) (pm_k [true, false, false, false, false, false, false, false, true] rfl rfl (fun _ => Nat.le_of_ble_eq_true rfl) (fun _ => rfl)) (c_X5_isWord l g F h0 h8 v0_1 (.int length0) (.ref h1) (.int failure0) (.int windowSeen0) (.int confidenceSeen0) (.int feeSeen0) 4 token0 start0 end0 text8 r10 (by decide) _ hc11) k_X5_74 (rm_le (by decide) (by decide)) 0 5 rfl rfl rfl rfl hl.1 rfl (Nat.le_of_ble_eq_true rfl) dX5_readStatement_51 ⟨Nat.le_of_ble_eq_true rfl, Nat.le_of_ble_eq_true rfl⟩ (cells2 := 0) (slots2 := 0) ⟨rfl, rfl⟩ (fun _ H locs w => ?_)
        refine lv_if_eq (tgt := 64) hx hb dX5_readStatement_54 (by decide) (fun c12 => ?_) (fun c12 => ?_)
        · replace hf := it_t c12 hf
          refine lv_aload_n hx hb dX5_readStatement_64 rfl (lv_at hl 0 rfl) ?_
          refine va_ldcS hx hb C.2.2.2.1 (C.2.2.2.2.2.2.2.1.2.2.2.1 (RX5, 107, "confidence", 5) (List.mem_of_getElem? (i := 6) rfl)) dX5_readStatement_65 ?_
          obtain ⟨r13, hc14, hf⟩ := bd1_some hf
          refine ca_iV C w (wn := fun _ => w_X5_readStatement g h0 h1 h2 h3 h4 h5 h6 h7 h8 v0_1 length0 failure0 token0 start0 end0 windowSeen0 confidenceSeen0 feeSeen0 gantries1 links1 classes1 tags1 window1 confidence1 fee1 classAxles2 classPercent3 linkMinutes4 linkPrice5 tagAxles6 tagPlate7 text8) (pm_k [true, false, false, false, false, false, false, false, true] rfl rfl (fun _ => Nat.le_of_ble_eq_true rfl) (fun _ => rfl)) (c_X5_isWord l g F h0 h8 v0_1 (.int length0) (.ref h1) (.int failure0) (.int windowSeen0) (.int confidenceSeen0) (.int feeSeen0) 5 token0 start0 end0 text8 r13 (by decide) _ hc14) k_X5_74 (rm_le (by decide) (by decide)) 0 5 rfl rfl rfl rfl hl.1 rfl (Nat.le_of_ble_eq_true rfl) dX5_readStatement_67 ⟨Nat.le_of_ble_eq_true rfl, Nat.le_of_ble_eq_true rfl⟩ (cells2 := 0) (slots2 := 0) ⟨rfl, rfl⟩ (fun _ H locs w => ?_)
          refine lv_if_eq (tgt := 80) hx hb dX5_readStatement_70 (by decide) (fun c15 => ?_) (fun c15 => ?_)
          · replace hf := it_t c15 hf
            refine lv_aload_n hx hb dX5_readStatement_80 rfl (lv_at hl 0 rfl) ?_
            refine va_ldcS hx hb C.2.2.2.1 (C.2.2.2.2.2.2.2.1.2.2.2.1 (RX5, 112, "fee", 6) (List.mem_of_getElem? (i := 7) rfl)) dX5_readStatement_81 ?_
            obtain ⟨r16, hc17, hf⟩ := bd1_some hf
            refine ca_iV C w (wn := fun _ => w_X5_readStatement g h0 h1 h2 h3 h4 h5 h6 h7 h8 v0_1 length0 failure0 token0 start0 end0 windowSeen0 confidenceSeen0 feeSeen0 gantries1 links1 classes1 tags1 window1 confidence1 fee1 classAxles2 classPercent3 linkMinutes4 linkPrice5 tagAxles6 tagPlate7 text8) (pm_k [true, false, false, false, false, false, false, false, true] rfl rfl (fun _ => Nat.le_of_ble_eq_true rfl) (fun _ => rfl)) (c_X5_isWord l g F h0 h8 v0_1 (.int length0) (.ref h1) (.int failure0) (.int windowSeen0) (.int confidenceSeen0) (.int feeSeen0) 6 token0 start0 end0 text8 r16 (by decide) _ hc17) k_X5_74 (rm_le (by decide) (by decide)) 0 5 rfl rfl rfl rfl hl.1 rfl (Nat.le_of_ble_eq_true rfl) dX5_readStatement_83 ⟨Nat.le_of_ble_eq_true rfl, Nat.le_of_ble_eq_true rfl⟩ (cells2 := 0) (slots2 := 0) ⟨rfl, rfl⟩ (fun _ H locs w => ?_)
            refine lv_if_eq (tgt := 96) hx hb dX5_readStatement_86 (by decide) (fun c18 => ?_) (fun c18 => ?_)
            · replace hf := it_t c18 hf
              refine lv_aload_n hx hb dX5_readStatement_96 rfl (lv_at hl 0 rfl) ?_
              refine lv_iconst (v := 1) hx hb dX5_readStatement_97 (by decide) ?_
              obtain ⟨o19, hc20, hf⟩ := bd1_some hf
              refine ca_vV C w (wn := fun _ => w_X5_readStatement g h0 h1 h2 h3 h4 h5 h6 h7 h8 v0_1 length0 o19 token0 start0 end0 windowSeen0 confidenceSeen0 feeSeen0 gantries1 links1 classes1 tags1 window1 confidence1 fee1 classAxles2 classPercent3 linkMinutes4 linkPrice5 tagAxles6 tagPlate7 text8) (pm_k [true, false, false, false, false, false, false, false, false] rfl rfl (fun _ => Nat.le_of_ble_eq_true rfl) (fun _ => rfl)) (c_X5_fail l g F h0 (.ref h8) v0_1 (.int length0) (.ref h1) (.int token0) (.int end0) (.int windowSeen0) (.int confidenceSeen0) (.int feeSeen0) 1 failure0 start0 o19 _ hc20) k_X5_78 (rm_le (by decide) (by decide)) 0 5 rfl rfl rfl rfl hl.1 rfl (Nat.le_of_ble_eq_true rfl) dX5_readStatement_98 ⟨Nat.le_of_ble_eq_true rfl, Nat.le_of_ble_eq_true rfl⟩ (cells2 := 0) (slots2 := 0) ⟨rfl, rfl⟩ (fun _ H locs w => ?_)
              exact b101 o19 token0 start0 end0 windowSeen0 confidenceSeen0 feeSeen0 links1 classes1 tags1 window1 confidence1 fee1 classAxles2 classPercent3 linkMinutes4 linkPrice5 tagAxles6 tagPlate7 _ _ _ hf w (lv_sub hl [] rfl)
            · replace hf := it_f c18 hf
              refine lv_aload_n hx hb dX5_readStatement_89 rfl (lv_at hl 0 rfl) ?_
              obtain ⟨o21, o22, o23, o24, o25, o26, hc27, hf⟩ := bd6_some hf
              refine ca_vV C w (wn := fun _ => w_X5_readStatement g h0 h1 h2 h3 h4 h5 h6 h7 h8 v0_1 length0 o21 o22 o23 o24 windowSeen0 confidenceSeen0 o25 gantries1 links1 classes1 tags1 window1 confidence1 o26 classAxles2 classPercent3 linkMinutes4 linkPrice5 tagAxles6 tagPlate7 text8) (pm_k [true, true, false, false, false, false, false, false, true] rfl rfl (fun _ => Nat.le_of_ble_eq_true rfl) (fun _ => rfl)) (c_X5_readFee l g F h0 h1 h8 v0_1 (.int windowSeen0) (.int confidenceSeen0) (.int gantries1) (.int links1) (.int classes1) (.int tags1) (.int window1) (.int confidence1) (.ref h4) (.ref h5) (.ref h2) (.ref h3) (.ref h7) (.ref h6) length0 failure0 token0 start0 end0 feeSeen0 fee1 text8 o21 o22 o23 o24 o25 o26 _ hc27) k_X5_114 (rm_le (by decide) (by decide)) 0 5 rfl rfl rfl rfl hl.1 rfl (Nat.le_of_ble_eq_true rfl) dX5_readStatement_90 ⟨Nat.le_of_ble_eq_true rfl, Nat.le_of_ble_eq_true rfl⟩ (cells2 := 0) (slots2 := 0) ⟨rfl, rfl⟩ (fun _ H locs w => ?_)
              refine lv_goto (tgt := 101) hx hb dX5_readStatement_93 (by decide) ?_
              exact b101 o21 o22 o23 o24 windowSeen0 confidenceSeen0 o25 links1 classes1 tags1 window1 confidence1 o26 classAxles2 classPercent3 linkMinutes4 linkPrice5 tagAxles6 tagPlate7 _ _ _ hf w (lv_sub hl [] rfl)
          · replace hf := it_f c15 hf
            refine lv_aload_n hx hb dX5_readStatement_73 rfl (lv_at hl 0 rfl) ?_
            obtain ⟨o28, o29, o30, o31, o32, o33, hc34, hf⟩ := bd6_some hf
            refine ca_vV C w (wn := fun _ => w_X5_readStatement g h0 h1 h2 h3 h4 h5 h6 h7 h8 v0_1 length0 o28 o29 o30 o31 windowSeen0 o32 feeSeen0 gantries1 links1 classes1 tags1 window1 o33 fee1 classAxles2 classPercent3 linkMinutes4 linkPrice5 tagAxles6 tagPlate7 text8) (pm_k [true, true, false, false, false, false, false, false, true] rfl rfl (fun _ => Nat.le_of_ble_eq_true rfl) (fun _ => rfl)) (c_X5_readConfidence l g F h0 h1 h8 v0_1 (.int windowSeen0) (.int feeSeen0) (.int gantries1) (.int links1) (.int classes1) (.int tags1) (.int window1) (.int fee1) (.ref h4) (.ref h5) (.ref h2) (.ref h3) (.ref h7) (.ref h6) length0 failure0 token0 start0 end0 confidenceSeen0 confidence1 text8 o28 o29 o30 o31 o32 o33 _ hc34) k_X5_109 (rm_le (by decide) (by decide)) 0 5 rfl rfl rfl rfl hl.1 rfl (Nat.le_of_ble_eq_true rfl) dX5_readStatement_74 ⟨Nat.le_of_ble_eq_true rfl, Nat.le_of_ble_eq_true rfl⟩ (cells2 := 0) (slots2 := 0) ⟨rfl, rfl⟩ (fun _ H locs w => ?_)
            refine lv_goto (tgt := 101) hx hb dX5_readStatement_77 (by decide) ?_
            exact b101 o28 o29 o30 o31 windowSeen0 o32 feeSeen0 links1 classes1 tags1 window1 o33 fee1 classAxles2 classPercent3 linkMinutes4 linkPrice5 tagAxles6 tagPlate7 _ _ _ hf w (lv_sub hl [] rfl)
        · replace hf := it_f c12 hf
          refine lv_aload_n hx hb dX5_readStatement_57 rfl (lv_at hl 0 rfl) ?_
          obtain ⟨o35, o36, o37, o38, o39, o40, hc41, hf⟩ := bd6_some hf
          refine ca_vV C w (wn := fun _ => w_X5_readStatement g h0 h1 h2 h3 h4 h5 h6 h7 h8 v0_1 length0 o35 o36 o37 o38 o39 confidenceSeen0 feeSeen0 gantries1 links1 classes1 tags1 o40 confidence1 fee1 classAxles2 classPercent3 linkMinutes4 linkPrice5 tagAxles6 tagPlate7 text8) (pm_k [true, true, false, false, false, false, false, false, true] rfl rfl (fun _ => Nat.le_of_ble_eq_true rfl) (fun _ => rfl)) (c_X5_readWindow l g F h0 h1 h8 v0_1 (.int confidenceSeen0) (.int feeSeen0) (.int gantries1) (.int links1) (.int classes1) (.int tags1) (.int confidence1) (.int fee1) (.ref h4) (.ref h5) (.ref h2) (.ref h3) (.ref h7) (.ref h6) length0 failure0 token0 start0 end0 windowSeen0 window1 text8 o35 o36 o37 o38 o39 o40 _ hc41) k_X5_104 (rm_le (by decide) (by decide)) 0 5 rfl rfl rfl rfl hl.1 rfl (Nat.le_of_ble_eq_true rfl) dX5_readStatement_58 ⟨Nat.le_of_ble_eq_true rfl, Nat.le_of_ble_eq_true rfl⟩ (cells2 := 0) (slots2 := 0) ⟨rfl, rfl⟩ (fun _ H locs w => ?_)
          refine lv_goto (tgt := 101) hx hb dX5_readStatement_61 (by decide) ?_
          exact b101 o35 o36 o37 o38 o39 confidenceSeen0 feeSeen0 links1 classes1 tags1 o40 confidence1 fee1 classAxles2 classPercent3 linkMinutes4 linkPrice5 tagAxles6 tagPlate7 _ _ _ hf w (lv_sub hl [] rfl)
      · replace hf := it_f c9 hf
        refine lv_aload_n hx hb dX5_readStatement_41 rfl (lv_at hl 0 rfl) ?_
        obtain ⟨o42, o43, o44, o45, o46, o47, o48, hc49, hf⟩ := bd7_some hf
        refine ca_vV C w (wn := fun _ => w_X5_readStatement g h0 h1 h2 h3 h4 h5 h6 h7 h8 v0_1 length0 o42 o43 o44 o45 windowSeen0 confidenceSeen0 feeSeen0 gantries1 links1 classes1 o46 window1 confidence1 fee1 classAxles2 classPercent3 linkMinutes4 linkPrice5 o47 o48 text8) (pm_k [true, true, false, false, false, false, true, true, true] rfl rfl (fun _ => Nat.le_of_ble_eq_true rfl) (fun _ => rfl)) (c_X5_readTagStatement l g F h0 h1 h6 h7 h8 v0_1 (.int windowSeen0) (.int confidenceSeen0) (.int feeSeen0) (.int gantries1) (.int links1) (.int classes1) (.int window1) (.int confidence1) (.int fee1) (.ref h4) (.ref h5) (.ref h2) (.ref h3) length0 failure0 token0 start0 end0 tags1 tagAxles6 tagPlate7 text8 o42 o43 o44 o45 o46 o47 o48 _ hc49) k_X5_99 (rm_le (by decide) (by decide)) 0 5 rfl rfl rfl rfl hl.1 rfl (Nat.le_of_ble_eq_true rfl) dX5_readStatement_42 ⟨Nat.le_of_ble_eq_true rfl, Nat.le_of_ble_eq_true rfl⟩ (cells2 := 0) (slots2 := 0) ⟨rfl, rfl⟩ (fun _ H locs w => ?_)
        refine lv_goto (tgt := 101) hx hb dX5_readStatement_45 (by decide) ?_
        exact b101 o42 o43 o44 o45 windowSeen0 confidenceSeen0 feeSeen0 links1 classes1 o46 window1 confidence1 fee1 classAxles2 classPercent3 linkMinutes4 linkPrice5 o47 o48 _ _ _ hf w (lv_sub hl [] rfl)
    · replace hf := it_f c6 hf
      refine lv_aload_n hx hb dX5_readStatement_25 rfl (lv_at hl 0 rfl) ?_
      obtain ⟨o50, o51, o52, o53, o54, o55, o56, hc57, hf⟩ := bd7_some hf
      refine ca_vV C w (wn := fun _ => w_X5_readStatement g h0 h1 h2 h3 h4 h5 h6 h7 h8 v0_1 length0 o50 o51 o52 o53 windowSeen0 confidenceSeen0 feeSeen0 gantries1 links1 o54 tags1 window1 confidence1 fee1 o55 o56 linkMinutes4 linkPrice5 tagAxles6 tagPlate7 text8) (pm_k [true, true, true, true, false, false, false, false, true] rfl rfl (fun _ => Nat.le_of_ble_eq_true rfl) (fun _ => rfl)) (c_X5_readClass l g F h0 h1 h2 h3 h8 v0_1 (.int windowSeen0) (.int confidenceSeen0) (.int feeSeen0) (.int gantries1) (.int links1) (.int tags1) (.int window1) (.int confidence1) (.int fee1) (.ref h4) (.ref h5) (.ref h7) (.ref h6) length0 failure0 token0 start0 end0 classes1 classAxles2 classPercent3 text8 o50 o51 o52 o53 o54 o55 o56 _ hc57) k_X5_94 (rm_le (by decide) (by decide)) 0 5 rfl rfl rfl rfl hl.1 rfl (Nat.le_of_ble_eq_true rfl) dX5_readStatement_26 ⟨Nat.le_of_ble_eq_true rfl, Nat.le_of_ble_eq_true rfl⟩ (cells2 := 0) (slots2 := 0) ⟨rfl, rfl⟩ (fun _ H locs w => ?_)
      refine lv_goto (tgt := 101) hx hb dX5_readStatement_29 (by decide) ?_
      exact b101 o50 o51 o52 o53 windowSeen0 confidenceSeen0 feeSeen0 links1 o54 tags1 window1 confidence1 fee1 o55 o56 linkMinutes4 linkPrice5 tagAxles6 tagPlate7 _ _ _ hf w (lv_sub hl [] rfl)
  · replace hf := it_f c3 hf
    refine lv_aload_n hx hb dX5_readStatement_9 rfl (lv_at hl 0 rfl) ?_
    obtain ⟨o58, o59, o60, o61, o62, o63, o64, hc65, hf⟩ := bd7_some hf
    refine ca_vV C w (wn := fun _ => w_X5_readStatement g h0 h1 h2 h3 h4 h5 h6 h7 h8 v0_1 length0 o58 o59 o60 o61 windowSeen0 confidenceSeen0 feeSeen0 gantries1 o62 classes1 tags1 window1 confidence1 fee1 classAxles2 classPercent3 o63 o64 tagAxles6 tagPlate7 text8) (pm_k [true, true, false, false, true, true, false, false, true] rfl rfl (fun _ => Nat.le_of_ble_eq_true rfl) (fun _ => rfl)) (c_X5_readLink l g F h0 h1 h4 h5 h8 v0_1 (.int windowSeen0) (.int confidenceSeen0) (.int feeSeen0) (.int classes1) (.int tags1) (.int window1) (.int confidence1) (.int fee1) (.ref h2) (.ref h3) (.ref h7) (.ref h6) length0 failure0 token0 start0 end0 gantries1 links1 linkMinutes4 linkPrice5 text8 o58 o59 o60 o61 o62 o63 o64 _ hc65) k_X5_89 (rm_le (by decide) (by decide)) 0 5 rfl rfl rfl rfl hl.1 rfl (Nat.le_of_ble_eq_true rfl) dX5_readStatement_10 ⟨Nat.le_of_ble_eq_true rfl, Nat.le_of_ble_eq_true rfl⟩ (cells2 := 0) (slots2 := 0) ⟨rfl, rfl⟩ (fun _ H locs w => ?_)
    refine lv_goto (tgt := 101) hx hb dX5_readStatement_13 (by decide) ?_
    exact b101 o58 o59 o60 o61 windowSeen0 confidenceSeen0 feeSeen0 o62 classes1 tags1 window1 confidence1 fee1 classAxles2 classPercent3 o63 o64 tagAxles6 tagPlate7 _ _ _ hf w (lv_sub hl [] rfl)

theorem dX5_readText_0 : decode cX5_readText 0 = .ok (.aload_n 0, 1) := by decide +kernel
theorem dX5_readText_1 : decode cX5_readText 1 = .ok (.iload_n 1, 1) := by decide +kernel
theorem dX5_readText_2 : decode cX5_readText 2 = .ok (.sipush 900, 3) := by decide +kernel
theorem dX5_readText_5 : decode cX5_readText 5 = .ok (.invokestatic 51, 3) := by decide +kernel
theorem dX5_readText_8 : decode cX5_readText 8 = .ok (.putfield 19, 3) := by decide +kernel
theorem dX5_readText_11 : decode cX5_readText 11 = .ok (.aload_n 0, 1) := by decide +kernel
theorem dX5_readText_12 : decode cX5_readText 12 = .ok (.iconst 0, 1) := by decide +kernel
theorem dX5_readText_13 : decode cX5_readText 13 = .ok (.putfield 15, 3) := by decide +kernel
theorem dX5_readText_16 : decode cX5_readText 16 = .ok (.aload_n 0, 1) := by decide +kernel
theorem dX5_readText_17 : decode cX5_readText 17 = .ok (.getfield 25, 3) := by decide +kernel
theorem dX5_readText_20 : decode cX5_readText 20 = .ok (.invokevirtual 57, 3) := by decide +kernel
theorem dX5_readText_23 : decode cX5_readText 23 = .ok (.aload_n 0, 1) := by decide +kernel
theorem dX5_readText_24 : decode cX5_readText 24 = .ok (.iconst 0, 1) := by decide +kernel
theorem dX5_readText_25 : decode cX5_readText 25 = .ok (.putfield 29, 3) := by decide +kernel
theorem dX5_readText_28 : decode cX5_readText 28 = .ok (.aload_n 0, 1) := by decide +kernel
theorem dX5_readText_29 : decode cX5_readText 29 = .ok (.iconst 0, 1) := by decide +kernel
theorem dX5_readText_30 : decode cX5_readText 30 = .ok (.putfield 38, 3) := by decide +kernel
theorem dX5_readText_33 : decode cX5_readText 33 = .ok (.aload_n 0, 1) := by decide +kernel
theorem dX5_readText_34 : decode cX5_readText 34 = .ok (.iconst 0, 1) := by decide +kernel
theorem dX5_readText_35 : decode cX5_readText 35 = .ok (.putfield 41, 3) := by decide +kernel
theorem dX5_readText_38 : decode cX5_readText 38 = .ok (.aload_n 0, 1) := by decide +kernel
theorem dX5_readText_39 : decode cX5_readText 39 = .ok (.iconst 0, 1) := by decide +kernel
theorem dX5_readText_40 : decode cX5_readText 40 = .ok (.putfield 45, 3) := by decide +kernel
theorem dX5_readText_43 : decode cX5_readText 43 = .ok (.aload_n 0, 1) := by decide +kernel
theorem dX5_readText_44 : decode cX5_readText 44 = .ok (.iconst 0, 1) := by decide +kernel
theorem dX5_readText_45 : decode cX5_readText 45 = .ok (.putfield 48, 3) := by decide +kernel
theorem dX5_readText_48 : decode cX5_readText 48 = .ok (.aload_n 0, 1) := by decide +kernel
theorem dX5_readText_49 : decode cX5_readText 49 = .ok (.getfield 19, 3) := by decide +kernel
theorem dX5_readText_52 : decode cX5_readText 52 = .ok (.ifCond .le 7, 3) := by decide +kernel
theorem dX5_readText_55 : decode cX5_readText 55 = .ok (.aload_n 0, 1) := by decide +kernel
theorem dX5_readText_56 : decode cX5_readText 56 = .ok (.invokevirtual 60, 3) := by decide +kernel
theorem dX5_readText_59 : decode cX5_readText 59 = .ok (.iconst 0, 1) := by decide +kernel
theorem dX5_readText_60 : decode cX5_readText 60 = .ok (.istore_n 2, 1) := by decide +kernel
theorem dX5_readText_61 : decode cX5_readText 61 = .ok (.iload_n 2, 1) := by decide +kernel
theorem dX5_readText_62 : decode cX5_readText 62 = .ok (.aload_n 0, 1) := by decide +kernel
theorem dX5_readText_63 : decode cX5_readText 63 = .ok (.getfield 19, 3) := by decide +kernel
theorem dX5_readText_66 : decode cX5_readText 66 = .ok (.if_icmp .ge 36, 3) := by decide +kernel
theorem dX5_readText_69 : decode cX5_readText 69 = .ok (.aload_n 0, 1) := by decide +kernel
theorem dX5_readText_70 : decode cX5_readText 70 = .ok (.getfield 29, 3) := by decide +kernel
theorem dX5_readText_73 : decode cX5_readText 73 = .ok (.ifCond .ne 29, 3) := by decide +kernel
theorem dX5_readText_76 : decode cX5_readText 76 = .ok (.aload_n 0, 1) := by decide +kernel
theorem dX5_readText_77 : decode cX5_readText 77 = .ok (.invokevirtual 63, 3) := by decide +kernel
theorem dX5_readText_80 : decode cX5_readText 80 = .ok (.aload_n 0, 1) := by decide +kernel
theorem dX5_readText_81 : decode cX5_readText 81 = .ok (.getfield 32, 3) := by decide +kernel
theorem dX5_readText_84 : decode cX5_readText 84 = .ok (.ifCond .ne 4, 3) := by decide +kernel
theorem dX5_readText_87 : decode cX5_readText 87 = .ok (.return_, 1) := by decide +kernel
theorem dX5_readText_88 : decode cX5_readText 88 = .ok (.aload_n 0, 1) := by decide +kernel
theorem dX5_readText_89 : decode cX5_readText 89 = .ok (.invokevirtual 66, 3) := by decide +kernel
theorem dX5_readText_92 : decode cX5_readText 92 = .ok (.aload_n 0, 1) := by decide +kernel
theorem dX5_readText_93 : decode cX5_readText 93 = .ok (.invokevirtual 69, 3) := by decide +kernel
theorem dX5_readText_96 : decode cX5_readText 96 = .ok (.iinc 2 1, 3) := by decide +kernel
theorem dX5_readText_99 : decode cX5_readText 99 = .ok (.goto (-38), 3) := by decide +kernel
theorem dX5_readText_102 : decode cX5_readText 102 = .ok (.return_, 1) := by decide +kernel
abbrev m_X5_readText : MD := (yX5_readText, cX5_readText, 3, none)
theorem q_602 : Cond.methodLink RX5 51 Lib.Math.min.name ∈ TS := ts_t 602 (by decide +kernel) (by decide +kernel)
theorem p_X5_19 {p : Program} {l : Launch} {e : Env} {R : Room} {s : State} {m : MethodId} {args : Array Value} {below : List Frame} {meth : Method} {c : Code} {H : Heap} {locs : List Loc} {cells slots : Nat} {Q : State → Prop} {d : MD} {g : GT} {A : Nat → Prop} {ws : va_W} {pc : Nat} {ls : Array Slot} {rest : List Value} (C : Cx p s m args meth c RX5 d g A) (w : Wd g A ws s.heap H locs) (q0 : Nat) {a : Nat} {fs : List Value} {x : Int32} (he : ws[q0]? = some (a, .inr (5, fs))) (hlt : 2 < fs.length) {ws2 : va_W} (h2 : ws.set q0 (a, .inr (5, fs.set 2 (.int x))) = ws2) (hd : decode d.2.1 pc = .ok (.putfield 19, 3)) (kk : ∀ (H1 : Heap) (locs1 : List Loc), Wd g A ws2 s.heap H1 locs1 → W p l e R s m args below meth c H1 locs1 cells slots Q (F0 m (pc + 3) ls rest)) : W p l e R s m args below meth c H locs cells slots Q (F0 m pc ls (.int x :: .ref a :: rest)) := fp C w inX5s tyX5_ok nmX5 (ref := RX5) rfl 2 (by decide) (ts_t (w := Cond.fieldLink RX5 19 RX5 (TX5 2).2.1 (TX5 2).2.2.1) 104 (by decide +kernel) (by decide +kernel)) rfl rfl q0 he rfl rfl hlt h2 hd kk
theorem q_691 : Cond.code yX5_readStatement cX5_readStatement 1 none ∈ TS := ts_t 691 (by decide +kernel) (by decide +kernel)
theorem q_688 : Cond.methodLink RX5 66 yX5_readStatement ∈ TS := ts_t 688 (by decide +kernel) (by decide +kernel)
theorem q_690 : Cond.instanceMethod yX5_readStatement ∈ TS := ts_t 690 (by decide +kernel) (by decide +kernel)
theorem qs_31 : Cond.selects yX5_readStatement.cls yX5_readStatement yX5_readStatement ∈ TS := ts_s 31 (by decide +kernel) (by decide +kernel)
theorem k_X5_66 : LkV RX5 66 m_X5_readStatement 0 := ⟨q_688, q_690, qs_31, ⟨q_3, q_691, by decide, by decide, by decide +kernel⟩⟩
theorem q_608 : Cond.code yX4_reset cX4_reset 1 none ∈ TS := ts_t 608 (by decide +kernel) (by decide +kernel)
theorem q_607 : Cond.instanceMethod yX4_reset ∈ TS := ts_t 607 (by decide +kernel) (by decide +kernel)
theorem qs_24 : Cond.selects yX4_reset.cls yX4_reset yX4_reset ∈ TS := ts_s 24 (by decide +kernel) (by decide +kernel)
theorem k_X5_57 : LkN RX5 57 m_X4_reset 0 := ⟨⟨"FreeFlowToll", nw_t 605 (by decide +kernel) rfl⟩, q_607, qs_24, ⟨q_2, q_608, by decide, by decide, by decide +kernel⟩⟩
theorem q_615 : Cond.code yX5_readHead cX5_readHead 2 none ∈ TS := ts_t 615 (by decide +kernel) (by decide +kernel)
theorem q_612 : Cond.methodLink RX5 60 yX5_readHead ∈ TS := ts_t 612 (by decide +kernel) (by decide +kernel)
theorem q_614 : Cond.instanceMethod yX5_readHead ∈ TS := ts_t 614 (by decide +kernel) (by decide +kernel)
theorem qs_25 : Cond.selects yX5_readHead.cls yX5_readHead yX5_readHead ∈ TS := ts_s 25 (by decide +kernel) (by decide +kernel)
theorem k_X5_60 : LkV RX5 60 m_X5_readHead 0 := ⟨q_612, q_614, qs_25, ⟨q_3, q_615, by decide, by decide, by decide +kernel⟩⟩
abbrev w_X5_readText (g : GT) (h0 h1 h2 h3 h4 h5 h6 h7 h8 : Nat) (held0 length0 failure0 token0 start0 end0 windowSeen0 confidenceSeen0 feeSeen0 gantries1 links1 classes1 tags1 window1 confidence1 fee1 : Int32) (classAxles2 classPercent3 linkMinutes4 linkPrice5 tagAxles6 tagPlate7 text8 : Nat → Int32) : va_W := [(h0, .inr (5, [.ref h8, .int held0, .int length0, .ref h1, .int failure0, .int token0, .int start0, .int end0, .int windowSeen0, .int confidenceSeen0, .int feeSeen0])), (h1, .inr (4, [.int gantries1, .int links1, .int classes1, .int tags1, .int window1, .int confidence1, .int fee1, .ref h4, .ref h5, .ref h2, .ref h3, .ref h7, .ref h6])), (h2, aI g 4 classAxles2), (h3, aI g 4 classPercent3), (h4, aI g 100 linkMinutes4), (h5, aI g 100 linkPrice5), (h6, aI g 12 tagAxles6), (h7, aI g 12 tagPlate7), (h8, aI g 900 text8)]
def f_X5_readText_b102 (F : Nat) (text8 : Nat → Int32) (held0 length0 failure0 token0 start0 end0 windowSeen0 confidenceSeen0 feeSeen0 gantries1 links1 classes1 tags1 window1 confidence1 fee1 : Int32) (classAxles2 classPercent3 linkMinutes4 linkPrice5 tagAxles6 tagPlate7 : Nat → Int32) : Option (Int32 × Int32 × Int32 × Int32 × Int32 × Int32 × Int32 × Int32 × Int32 × Int32 × Int32 × Int32 × Int32 × Int32 × Int32 × Int32 × (Nat → Int32) × (Nat → Int32) × (Nat → Int32) × (Nat → Int32) × (Nat → Int32) × (Nat → Int32)) :=
  some (held0, length0, failure0, token0, start0, end0, windowSeen0, confidenceSeen0, feeSeen0, gantries1, links1, classes1, tags1, window1, confidence1, fee1, classAxles2, classPercent3, linkMinutes4, linkPrice5, tagAxles6, tagPlate7)
def f_X5_readText_h61 (F : Nat) (text8 : Nat → Int32) (k61 : (Int32 × Int32 × Int32 × Int32 × Int32 × Int32 × Int32 × Int32 × Int32 × Int32 × Int32 × Int32 × Int32 × Int32 × Int32 × Int32 × Int32 × (Nat → Int32) × (Nat → Int32) × (Nat → Int32) × (Nat → Int32) × (Nat → Int32) × (Nat → Int32)) → Option (Int32 × Int32 × Int32 × Int32 × Int32 × Int32 × Int32 × Int32 × Int32 × Int32 × Int32 × Int32 × Int32 × Int32 × Int32 × Int32 × (Nat → Int32) × (Nat → Int32) × (Nat → Int32) × (Nat → Int32) × (Nat → Int32) × (Nat → Int32))) (x2 held0 length0 failure0 token0 start0 end0 windowSeen0 confidenceSeen0 feeSeen0 gantries1 links1 classes1 tags1 window1 confidence1 fee1 : Int32) (classAxles2 classPercent3 linkMinutes4 linkPrice5 tagAxles6 tagPlate7 : Nat → Int32) : Option (Int32 × Int32 × Int32 × Int32 × Int32 × Int32 × Int32 × Int32 × Int32 × Int32 × Int32 × Int32 × Int32 × Int32 × Int32 × Int32 × (Nat → Int32) × (Nat → Int32) × (Nat → Int32) × (Nat → Int32) × (Nat → Int32) × (Nat → Int32)) :=
  if length0 ≤ x2 then
    f_X5_readText_b102 F text8 held0 length0 failure0 token0 start0 end0 windowSeen0 confidenceSeen0 feeSeen0 gantries1 links1 classes1 tags1 window1 confidence1 fee1 classAxles2 classPercent3 linkMinutes4 linkPrice5 tagAxles6 tagPlate7
  else
    if failure0 = 0 then
      bd3 (f_X5_advance F length0 token0 start0 end0 text8) fun o3 o4 o5 =>
      if o3 = 0 then
        some (held0, length0, failure0, o3, o4, o5, windowSeen0, confidenceSeen0, feeSeen0, gantries1, links1, classes1, tags1, window1, confidence1, fee1, classAxles2, classPercent3, linkMinutes4, linkPrice5, tagAxles6, tagPlate7)
      else
        bd19 (f_X5_readStatement F length0 failure0 o3 o4 o5 windowSeen0 confidenceSeen0 feeSeen0 gantries1 links1 classes1 tags1 window1 confidence1 fee1 classAxles2 classPercent3 linkMinutes4 linkPrice5 tagAxles6 tagPlate7 text8) fun o8 o9 o10 o11 o12 o13 o14 o15 o16 o17 o18 o19 o20 o21 o22 o23 o24 o25 o26 =>
        bd4 (f_X5_readSemicolon F length0 o8 o9 o10 o11 text8) fun o28 o29 o30 o31 =>
        k61 (x2 + 1, held0, length0, o28, o29, o30, o31, o12, o13, o14, gantries1, o15, o16, o17, o18, o19, o20, o21, o22, o23, o24, o25, o26)
    else
      f_X5_readText_b102 F text8 held0 length0 failure0 token0 start0 end0 windowSeen0 confidenceSeen0 feeSeen0 gantries1 links1 classes1 tags1 window1 confidence1 fee1 classAxles2 classPercent3 linkMinutes4 linkPrice5 tagAxles6 tagPlate7
def f_X5_readText_L61 (F : Nat) (text8 : Nat → Int32) (z : Int32 × Int32 × Int32 × Int32 × Int32 × Int32 × Int32 × Int32 × Int32 × Int32 × Int32 × Int32 × Int32 × Int32 × Int32 × Int32 × Int32 × (Nat → Int32) × (Nat → Int32) × (Nat → Int32) × (Nat → Int32) × (Nat → Int32) × (Nat → Int32)) : Option (Int32 × Int32 × Int32 × Int32 × Int32 × Int32 × Int32 × Int32 × Int32 × Int32 × Int32 × Int32 × Int32 × Int32 × Int32 × Int32 × (Nat → Int32) × (Nat → Int32) × (Nat → Int32) × (Nat → Int32) × (Nat → Int32) × (Nat → Int32)) := lp (fun k z => f_X5_readText_h61 F text8 k z.1 z.2.1 z.2.2.1 z.2.2.2.1 z.2.2.2.2.1 z.2.2.2.2.2.1 z.2.2.2.2.2.2.1 z.2.2.2.2.2.2.2.1 z.2.2.2.2.2.2.2.2.1 z.2.2.2.2.2.2.2.2.2.1 z.2.2.2.2.2.2.2.2.2.2.1 z.2.2.2.2.2.2.2.2.2.2.2.1 z.2.2.2.2.2.2.2.2.2.2.2.2.1 z.2.2.2.2.2.2.2.2.2.2.2.2.2.1 z.2.2.2.2.2.2.2.2.2.2.2.2.2.2.1 z.2.2.2.2.2.2.2.2.2.2.2.2.2.2.2.1 z.2.2.2.2.2.2.2.2.2.2.2.2.2.2.2.2.1 z.2.2.2.2.2.2.2.2.2.2.2.2.2.2.2.2.2.1 z.2.2.2.2.2.2.2.2.2.2.2.2.2.2.2.2.2.2.1 z.2.2.2.2.2.2.2.2.2.2.2.2.2.2.2.2.2.2.2.1 z.2.2.2.2.2.2.2.2.2.2.2.2.2.2.2.2.2.2.2.2.1 z.2.2.2.2.2.2.2.2.2.2.2.2.2.2.2.2.2.2.2.2.2.1 z.2.2.2.2.2.2.2.2.2.2.2.2.2.2.2.2.2.2.2.2.2.2) F z
def f_X5_readText_b59 (F : Nat) (text8 : Nat → Int32) (held0 length0 failure0 token0 start0 end0 windowSeen0 confidenceSeen0 feeSeen0 gantries1 links1 classes1 tags1 window1 confidence1 fee1 : Int32) (classAxles2 classPercent3 linkMinutes4 linkPrice5 tagAxles6 tagPlate7 : Nat → Int32) : Option (Int32 × Int32 × Int32 × Int32 × Int32 × Int32 × Int32 × Int32 × Int32 × Int32 × Int32 × Int32 × Int32 × Int32 × Int32 × Int32 × (Nat → Int32) × (Nat → Int32) × (Nat → Int32) × (Nat → Int32) × (Nat → Int32) × (Nat → Int32)) :=
  f_X5_readText_L61 F text8 (0, held0, length0, failure0, token0, start0, end0, windowSeen0, confidenceSeen0, feeSeen0, gantries1, links1, classes1, tags1, window1, confidence1, fee1, classAxles2, classPercent3, linkMinutes4, linkPrice5, tagAxles6, tagPlate7)
def f_X5_readText (F : Nat) (p1 held0 length0 failure0 token0 start0 end0 windowSeen0 confidenceSeen0 feeSeen0 gantries1 links1 classes1 tags1 window1 confidence1 fee1 : Int32) (classAxles2 classPercent3 linkMinutes4 linkPrice5 tagAxles6 tagPlate7 text8 : Nat → Int32) : Option (Int32 × Int32 × Int32 × Int32 × Int32 × Int32 × Int32 × Int32 × Int32 × Int32 × Int32 × Int32 × Int32 × Int32 × Int32 × Int32 × (Nat → Int32) × (Nat → Int32) × (Nat → Int32) × (Nat → Int32) × (Nat → Int32) × (Nat → Int32)) :=
  bd9 (f_X4_reset F gantries1 links1 classes1 tags1 window1 confidence1 fee1 linkMinutes4 linkPrice5) fun o33 o34 o35 o36 o37 o38 o39 o40 o41 =>
  if (if 900 < p1 then 900 else p1) ≤ 0 then
    f_X5_readText_b59 F text8 0 (if 900 < p1 then 900 else p1) 0 token0 start0 0 0 0 0 o33 o34 o35 o36 o37 o38 o39 classAxles2 classPercent3 o40 o41 tagAxles6 tagPlate7
  else
    bd5 (f_X5_readHead F (if 900 < p1 then 900 else p1) 0 token0 start0 0 o33 text8) fun o44 o45 o46 o47 o48 =>
    f_X5_readText_b59 F text8 0 (if 900 < p1 then 900 else p1) o44 o45 o46 o47 0 0 0 o48 o34 o35 o36 o37 o38 o39 classAxles2 classPercent3 o40 o41 tagAxles6 tagPlate7
set_option maxHeartbeats 4000000 in
set_option maxRecDepth 100000 in
theorem c_X5_readText (l : Launch) (g : GT) (F : Nat) (h0 h1 h2 h3 h4 h5 h6 h7 h8 : Nat) (p1 held0 length0 failure0 token0 start0 end0 windowSeen0 confidenceSeen0 feeSeen0 gantries1 links1 classes1 tags1 window1 confidence1 fee1 : Int32) (classAxles2 classPercent3 linkMinutes4 linkPrice5 tagAxles6 tagPlate7 text8 : Nat → Int32) (o_held0 o_length0 o_failure0 o_token0 o_start0 o_end0 o_windowSeen0 o_confidenceSeen0 o_feeSeen0 o_gantries1 o_links1 o_classes1 o_tags1 o_window1 o_confidence1 o_fee1 : Int32) (o_classAxles2 o_classPercent3 o_linkMinutes4 o_linkPrice5 o_tagAxles6 o_tagPlate7 : Nat → Int32) (sz : Nat) (hf : f_X5_readText F p1 held0 length0 failure0 token0 start0 end0 windowSeen0 confidenceSeen0 feeSeen0 gantries1 links1 classes1 tags1 window1 confidence1 fee1 classAxles2 classPercent3 linkMinutes4 linkPrice5 tagAxles6 tagPlate7 text8 = some (o_held0, o_length0, o_failure0, o_token0, o_start0, o_end0, o_windowSeen0, o_confidenceSeen0, o_feeSeen0, o_gantries1, o_links1, o_classes1, o_tags1, o_window1, o_confidence1, o_fee1, o_classAxles2, o_classPercent3, o_linkMinutes4, o_linkPrice5, o_tagAxles6, o_tagPlate7)) : CV l m_X5_readText (rml 6 0 0) g (w_X5_readText g h0 h1 h2 h3 h4 h5 h6 h7 h8 held0 length0 failure0 token0 start0 end0 windowSeen0 confidenceSeen0 feeSeen0 gantries1 links1 classes1 tags1 window1 confidence1 fee1 classAxles2 classPercent3 linkMinutes4 linkPrice5 tagAxles6 tagPlate7 text8) (fun _ => w_X5_readText g h0 h1 h2 h3 h4 h5 h6 h7 h8 o_held0 o_length0 o_failure0 o_token0 o_start0 o_end0 o_windowSeen0 o_confidenceSeen0 o_feeSeen0 o_gantries1 o_links1 o_classes1 o_tags1 o_window1 o_confidence1 o_fee1 o_classAxles2 o_classPercent3 o_linkMinutes4 o_linkPrice5 o_tagAxles6 o_tagPlate7 text8) sz [.ref h0, .int p1] := by
  refine en_v (by decide) (Nat.le_of_ble_eq_true rfl) (fun p e s m args below meth c A ls C w hl => ?_)
  have C : Cx p s m args meth c RX5 m_X5_readText g A := C
  have hx := C.1
  have hb : c.code = cX5_readText := C.2.1
  have hl : lv_has ls 3 [(0, .ref h0), (1, .int p1)] := hl
  obtain ⟨Q, hQ⟩ : ∃ Q, Q = QV below args s g A (fun _ => w_X5_readText g h0 h1 h2 h3 h4 h5 h6 h7 h8 o_held0 o_length0 o_failure0 o_token0 o_start0 o_end0 o_windowSeen0 o_confidenceSeen0 o_feeSeen0 o_gantries1 o_links1 o_classes1 o_tags1 o_window1 o_confidence1 o_fee1 o_classAxles2 o_classPercent3 o_linkMinutes4 o_linkPrice5 o_tagAxles6 o_tagPlate7 text8) 0 0 := ⟨_, rfl⟩
  suffices hW : W p l e (rml 6 0 0) s m args below meth c s.heap [] 0 0 Q (F0 m 0 ls []) from (by rw [hQ] at hW; exact hW)
  unfold f_X5_readText at hf
  have b102 : ∀ (held0 length0 failure0 token0 start0 end0 windowSeen0 confidenceSeen0 feeSeen0 gantries1 links1 classes1 tags1 window1 confidence1 fee1 : Int32) (classAxles2 classPercent3 linkMinutes4 linkPrice5 tagAxles6 tagPlate7 : Nat → Int32) (H : Heap) (locs : List Loc) (ls : Array Slot), f_X5_readText_b102 F text8 held0 length0 failure0 token0 start0 end0 windowSeen0 confidenceSeen0 feeSeen0 gantries1 links1 classes1 tags1 window1 confidence1 fee1 classAxles2 classPercent3 linkMinutes4 linkPrice5 tagAxles6 tagPlate7 = some (o_held0, o_length0, o_failure0, o_token0, o_start0, o_end0, o_windowSeen0, o_confidenceSeen0, o_feeSeen0, o_gantries1, o_links1, o_classes1, o_tags1, o_window1, o_confidence1, o_fee1, o_classAxles2, o_classPercent3, o_linkMinutes4, o_linkPrice5, o_tagAxles6, o_tagPlate7) → Wd g A (w_X5_readText g h0 h1 h2 h3 h4 h5 h6 h7 h8 held0 length0 failure0 token0 start0 end0 windowSeen0 confidenceSeen0 feeSeen0 gantries1 links1 classes1 tags1 window1 confidence1 fee1 classAxles2 classPercent3 linkMinutes4 linkPrice5 tagAxles6 tagPlate7 text8) s.heap H locs → lv_has ls 3 [] → W p l e (rml 6 0 0) s m args below meth c H locs 0 0 Q (F0 m 102 ls []) := by
    intro held0 length0 failure0 token0 start0 end0 windowSeen0 confidenceSeen0 feeSeen0 gantries1 links1 classes1 tags1 window1 confidence1 fee1 classAxles2 classPercent3 linkMinutes4 linkPrice5 tagAxles6 tagPlate7 H locs ls hf w hl
    unfold f_X5_readText_b102 at hf
    obtain ⟨e1, e2, e3, e4, e5, e6, e7, e8, e9, e10, e11, e12, e13, e14, e15, e16, e17, e18, e19, e20, e21, e22⟩ := tp22 hf
    rw [hQ]
    exact rt_v C w rfl (fun _ => 0) (by rw [← e1, ← e2, ← e3, ← e4, ← e5, ← e6, ← e7, ← e8, ← e9, ← e10, ← e11, ← e12, ← e13, ← e14, ← e15, ← e16, ← e17, ← e18, ← e19, ← e20, ← e21, ← e22]) dX5_readText_102
  have L61 : ∀ (z : Int32 × Int32 × Int32 × Int32 × Int32 × Int32 × Int32 × Int32 × Int32 × Int32 × Int32 × Int32 × Int32 × Int32 × Int32 × Int32 × Int32 × (Nat → Int32) × (Nat → Int32) × (Nat → Int32) × (Nat → Int32) × (Nat → Int32) × (Nat → Int32)), f_X5_readText_L61 F text8 z = some (o_held0, o_length0, o_failure0, o_token0, o_start0, o_end0, o_windowSeen0, o_confidenceSeen0, o_feeSeen0, o_gantries1, o_links1, o_classes1, o_tags1, o_window1, o_confidence1, o_fee1, o_classAxles2, o_classPercent3, o_linkMinutes4, o_linkPrice5, o_tagAxles6, o_tagPlate7) → ∀ (H : Heap) (locs : List Loc) (ls : Array Slot), Wd g A (w_X5_readText g h0 h1 h2 h3 h4 h5 h6 h7 h8 z.2.1 z.2.2.1 z.2.2.2.1 z.2.2.2.2.1 z.2.2.2.2.2.1 z.2.2.2.2.2.2.1 z.2.2.2.2.2.2.2.1 z.2.2.2.2.2.2.2.2.1 z.2.2.2.2.2.2.2.2.2.1 z.2.2.2.2.2.2.2.2.2.2.1 z.2.2.2.2.2.2.2.2.2.2.2.1 z.2.2.2.2.2.2.2.2.2.2.2.2.1 z.2.2.2.2.2.2.2.2.2.2.2.2.2.1 z.2.2.2.2.2.2.2.2.2.2.2.2.2.2.1 z.2.2.2.2.2.2.2.2.2.2.2.2.2.2.2.1 z.2.2.2.2.2.2.2.2.2.2.2.2.2.2.2.2.1 z.2.2.2.2.2.2.2.2.2.2.2.2.2.2.2.2.2.1 z.2.2.2.2.2.2.2.2.2.2.2.2.2.2.2.2.2.2.1 z.2.2.2.2.2.2.2.2.2.2.2.2.2.2.2.2.2.2.2.1 z.2.2.2.2.2.2.2.2.2.2.2.2.2.2.2.2.2.2.2.2.1 z.2.2.2.2.2.2.2.2.2.2.2.2.2.2.2.2.2.2.2.2.2.1 z.2.2.2.2.2.2.2.2.2.2.2.2.2.2.2.2.2.2.2.2.2.2 text8) s.heap H locs → lv_has ls 3 [(0, .ref h0), (2, .int z.1)] → W p l e (rml 6 0 0) s m args below meth c H locs 0 0 Q (F0 m 61 ls []) := by
    intro z hf
    refine lp_W (r := (o_held0, o_length0, o_failure0, o_token0, o_start0, o_end0, o_windowSeen0, o_confidenceSeen0, o_feeSeen0, o_gantries1, o_links1, o_classes1, o_tags1, o_window1, o_confidence1, o_fee1, o_classAxles2, o_classPercent3, o_linkMinutes4, o_linkPrice5, o_tagAxles6, o_tagPlate7)) (fun (z : Int32 × Int32 × Int32 × Int32 × Int32 × Int32 × Int32 × Int32 × Int32 × Int32 × Int32 × Int32 × Int32 × Int32 × Int32 × Int32 × Int32 × (Nat → Int32) × (Nat → Int32) × (Nat → Int32) × (Nat → Int32) × (Nat → Int32) × (Nat → Int32)) => ∀ (H : Heap) (locs : List Loc) (ls : Array Slot), Wd g A (w_X5_readText g h0 h1 h2 h3 h4 h5 h6 h7 h8 z.2.1 z.2.2.1 z.2.2.2.1 z.2.2.2.2.1 z.2.2.2.2.2.1 z.2.2.2.2.2.2.1 z.2.2.2.2.2.2.2.1 z.2.2.2.2.2.2.2.2.1 z.2.2.2.2.2.2.2.2.2.1 z.2.2.2.2.2.2.2.2.2.2.1 z.2.2.2.2.2.2.2.2.2.2.2.1 z.2.2.2.2.2.2.2.2.2.2.2.2.1 z.2.2.2.2.2.2.2.2.2.2.2.2.2.1 z.2.2.2.2.2.2.2.2.2.2.2.2.2.2.1 z.2.2.2.2.2.2.2.2.2.2.2.2.2.2.2.1 z.2.2.2.2.2.2.2.2.2.2.2.2.2.2.2.2.1 z.2.2.2.2.2.2.2.2.2.2.2.2.2.2.2.2.2.1 z.2.2.2.2.2.2.2.2.2.2.2.2.2.2.2.2.2.2.1 z.2.2.2.2.2.2.2.2.2.2.2.2.2.2.2.2.2.2.2.1 z.2.2.2.2.2.2.2.2.2.2.2.2.2.2.2.2.2.2.2.2.1 z.2.2.2.2.2.2.2.2.2.2.2.2.2.2.2.2.2.2.2.2.2.1 z.2.2.2.2.2.2.2.2.2.2.2.2.2.2.2.2.2.2.2.2.2.2 text8) s.heap H locs → lv_has ls 3 [(0, .ref h0), (2, .int z.1)] → W p l e (rml 6 0 0) s m args below meth c H locs 0 0 Q (F0 m 61 ls [])) (fun k61 z ih61 hf => ?_) F z hf
    obtain ⟨x2, held0, length0, failure0, token0, start0, end0, windowSeen0, confidenceSeen0, feeSeen0, gantries1, links1, classes1, tags1, window1, confidence1, fee1, classAxles2, classPercent3, linkMinutes4, linkPrice5, tagAxles6, tagPlate7⟩ := z
    intro H locs ls w hl
    try dsimp only at hf w hl ⊢
    unfold f_X5_readText_h61 at hf
    refine lv_iload_n hx hb dX5_readText_61 rfl (lv_at hl 1 rfl) ?_
    refine lv_aload_n hx hb dX5_readText_62 rfl (lv_at hl 0 rfl) ?_
    refine g_X5_19 C w 0 rfl rfl dX5_readText_63 ?_
    refine lv_icmp_ge (tgt := 102) hx hb dX5_readText_66 (by decide) (fun c1 => ?_) (fun c1 => ?_)
    · replace hf := it_t c1 hf
      exact b102 held0 length0 failure0 token0 start0 end0 windowSeen0 confidenceSeen0 feeSeen0 gantries1 links1 classes1 tags1 window1 confidence1 fee1 classAxles2 classPercent3 linkMinutes4 linkPrice5 tagAxles6 tagPlate7 _ _ _ hf w (lv_sub hl [] rfl)
    · replace hf := it_f c1 hf
      refine lv_aload_n hx hb dX5_readText_69 rfl (lv_at hl 0 rfl) ?_
      refine g_X5_29 C w 0 rfl rfl dX5_readText_70 ?_
      refine lv_if_ne (tgt := 102) hx hb dX5_readText_73 (by decide) (fun c2 => ?_) (fun c2 => ?_)
      · replace hf := it_f c2 hf
        exact b102 held0 length0 failure0 token0 start0 end0 windowSeen0 confidenceSeen0 feeSeen0 gantries1 links1 classes1 tags1 window1 confidence1 fee1 classAxles2 classPercent3 linkMinutes4 linkPrice5 tagAxles6 tagPlate7 _ _ _ hf w (lv_sub hl [] rfl)
      · replace hf := it_t c2 hf
        refine lv_aload_n hx hb dX5_readText_76 rfl (lv_at hl 0 rfl) ?_
        obtain ⟨o3, o4, o5, hc6, hf⟩ := bd3_some hf
        refine ca_vV C w (wn := fun _ => w_X5_readText g h0 h1 h2 h3 h4 h5 h6 h7 h8 held0 length0 failure0 o3 o4 o5 windowSeen0 confidenceSeen0 feeSeen0 gantries1 links1 classes1 tags1 window1 confidence1 fee1 classAxles2 classPercent3 linkMinutes4 linkPrice5 tagAxles6 tagPlate7 text8) (pm_k [true, false, false, false, false, false, false, false, true] rfl rfl (fun _ => Nat.le_of_ble_eq_true rfl) (fun _ => rfl)) (c_X5_advance l g F h0 h8 (.int held0) (.ref h1) (.int failure0) (.int windowSeen0) (.int confidenceSeen0) (.int feeSeen0) length0 token0 start0 end0 text8 o3 o4 o5 _ hc6) k_X5_63 (rm_le (by decide) (by decide)) 0 5 rfl rfl rfl rfl hl.1 rfl (Nat.le_of_ble_eq_true rfl) dX5_readText_77 ⟨Nat.le_of_ble_eq_true rfl, Nat.le_of_ble_eq_true rfl⟩ (cells2 := 0) (slots2 := 0) ⟨rfl, rfl⟩ (fun _ H locs w => ?_)
        refine lv_aload_n hx hb dX5_readText_80 rfl (lv_at hl 0 rfl) ?_
        refine g_X5_32 C w 0 rfl rfl dX5_readText_81 ?_
        refine lv_if_ne (tgt := 88) hx hb dX5_readText_84 (by decide) (fun c7 => ?_) (fun c7 => ?_)
        · replace hf := it_f c7 hf
          refine lv_aload_n hx hb dX5_readText_88 rfl (lv_at hl 0 rfl) ?_
          obtain ⟨o8, o9, o10, o11, o12, o13, o14, o15, o16, o17, o18, o19, o20, o21, o22, o23, o24, o25, o26, hc27, hf⟩ := bd19_some hf
          refine ca_vV C w (wn := fun _ => w_X5_readText g h0 h1 h2 h3 h4 h5 h6 h7 h8 held0 length0 o8 o9 o10 o11 o12 o13 o14 gantries1 o15 o16 o17 o18 o19 o20 o21 o22 o23 o24 o25 o26 text8) (pm_k [true, true, true, true, true, true, true, true, true] rfl rfl (fun _ => Nat.le_of_ble_eq_true rfl) (fun _ => rfl)) (c_X5_readStatement l g F h0 h1 h2 h3 h4 h5 h6 h7 h8 (.int held0) length0 failure0 o3 o4 o5 windowSeen0 confidenceSeen0 feeSeen0 gantries1 links1 classes1 tags1 window1 confidence1 fee1 classAxles2 classPercent3 linkMinutes4 linkPrice5 tagAxles6 tagPlate7 text8 o8 o9 o10 o11 o12 o13 o14 o15 o16 o17 o18 o19 o20 o21 o22 o23 o24 o25 o26 _ hc27) k_X5_66 (rm_le (by decide) (by decide)) 0 5 rfl rfl rfl rfl hl.1 rfl (Nat.le_of_ble_eq_true rfl) dX5_readText_89 ⟨Nat.le_of_ble_eq_true rfl, Nat.le_of_ble_eq_true rfl⟩ (cells2 := 0) (slots2 := 0) ⟨rfl, rfl⟩ (fun _ H locs w => ?_)
          refine lv_aload_n hx hb dX5_readText_92 rfl (lv_at hl 0 rfl) ?_
          obtain ⟨o28, o29, o30, o31, hc32, hf⟩ := bd4_some hf
          refine ca_vV C w (wn := fun _ => w_X5_readText g h0 h1 h2 h3 h4 h5 h6 h7 h8 held0 length0 o28 o29 o30 o31 o12 o13 o14 gantries1 o15 o16 o17 o18 o19 o20 o21 o22 o23 o24 o25 o26 text8) (pm_k [true, false, false, false, false, false, false, false, true] rfl rfl (fun _ => Nat.le_of_ble_eq_true rfl) (fun _ => rfl)) (c_X5_readSemicolon l g F h0 h8 (.int held0) (.ref h1) (.int o12) (.int o13) (.int o14) length0 o8 o9 o10 o11 text8 o28 o29 o30 o31 _ hc32) k_X5_69 (rm_le (by decide) (by decide)) 0 5 rfl rfl rfl rfl hl.1 rfl (Nat.le_of_ble_eq_true rfl) dX5_readText_93 ⟨Nat.le_of_ble_eq_true rfl, Nat.le_of_ble_eq_true rfl⟩ (cells2 := 0) (slots2 := 0) ⟨rfl, rfl⟩ (fun _ H locs w => ?_)
          refine lv_iinc (v := x2 + 1) (lv' := [(2, .int (x2 + 1)), (0, .ref h0)]) hx hb dX5_readText_96 hl (k := 1) rfl rfl (by decide) rfl (fun ls hl => ?_)
          refine lv_goto (tgt := 61) hx hb dX5_readText_99 (by decide) ?_
          exact ih61 (x2 + 1, held0, length0, o28, o29, o30, o31, o12, o13, o14, gantries1, o15, o16, o17, o18, o19, o20, o21, o22, o23, o24, o25, o26) hf _ _ _ w (lv_sub hl [1, 0] rfl)
        · replace hf := it_t c7 hf
          obtain ⟨e1, e2, e3, e4, e5, e6, e7, e8, e9, e10, e11, e12, e13, e14, e15, e16, e17, e18, e19, e20, e21, e22⟩ := tp22 hf
          rw [hQ]
          exact rt_v C w rfl (fun _ => 0) (by rw [← e1, ← e2, ← e3, ← e4, ← e5, ← e6, ← e7, ← e8, ← e9, ← e10, ← e11, ← e12, ← e13, ← e14, ← e15, ← e16, ← e17, ← e18, ← e19, ← e20, ← e21, ← e22]) dX5_readText_87
  have b59 : ∀ (held0 length0 failure0 token0 start0 end0 windowSeen0 confidenceSeen0 feeSeen0 gantries1 links1 classes1 tags1 window1 confidence1 fee1 : Int32) (classAxles2 classPercent3 linkMinutes4 linkPrice5 tagAxles6 tagPlate7 : Nat → Int32) (H : Heap) (locs : List Loc) (ls : Array Slot), f_X5_readText_b59 F text8 held0 length0 failure0 token0 start0 end0 windowSeen0 confidenceSeen0 feeSeen0 gantries1 links1 classes1 tags1 window1 confidence1 fee1 classAxles2 classPercent3 linkMinutes4 linkPrice5 tagAxles6 tagPlate7 = some (o_held0, o_length0, o_failure0, o_token0, o_start0, o_end0, o_windowSeen0, o_confidenceSeen0, o_feeSeen0, o_gantries1, o_links1, o_classes1, o_tags1, o_window1, o_confidence1, o_fee1, o_classAxles2, o_classPercent3, o_linkMinutes4, o_linkPrice5, o_tagAxles6, o_tagPlate7) → Wd g A (w_X5_readText g h0 h1 h2 h3 h4 h5 h6 h7 h8 held0 length0 failure0 token0 start0 end0 windowSeen0 confidenceSeen0 feeSeen0 gantries1 links1 classes1 tags1 window1 confidence1 fee1 classAxles2 classPercent3 linkMinutes4 linkPrice5 tagAxles6 tagPlate7 text8) s.heap H locs → lv_has ls 3 [(0, .ref h0)] → W p l e (rml 6 0 0) s m args below meth c H locs 0 0 Q (F0 m 59 ls []) := by
    intro held0 length0 failure0 token0 start0 end0 windowSeen0 confidenceSeen0 feeSeen0 gantries1 links1 classes1 tags1 window1 confidence1 fee1 classAxles2 classPercent3 linkMinutes4 linkPrice5 tagAxles6 tagPlate7 H locs ls hf w hl
    unfold f_X5_readText_b59 at hf
    refine lv_iconst (v := 0) hx hb dX5_readText_59 (by decide) ?_
    refine lv_istore_n (lv' := [(2, .int 0), (0, .ref h0)]) hx hb dX5_readText_60 rfl hl (by decide) rfl (fun ls hl => ?_)
    exact L61 (0, held0, length0, failure0, token0, start0, end0, windowSeen0, confidenceSeen0, feeSeen0, gantries1, links1, classes1, tags1, window1, confidence1, fee1, classAxles2, classPercent3, linkMinutes4, linkPrice5, tagAxles6, tagPlate7) hf _ _ _ w (lv_sub hl [1, 0] rfl)
  refine lv_aload_n hx hb dX5_readText_0 rfl (lv_at hl 0 rfl) ?_
  refine lv_iload_n hx hb dX5_readText_1 rfl (lv_at hl 1 rfl) ?_
  refine lv_sipush (v := 900) hx hb dX5_readText_2 (by decide) ?_
  refine mmn C hl.1 q_602 q_603 q_16 q_604 (Nat.le_of_ble_eq_true rfl) (Nat.le_of_ble_eq_true rfl) (Nat.le_of_ble_eq_true rfl) (Nat.le_of_ble_eq_true rfl) dX5_readText_5 ?_
  refine p_X5_19 C w 0 rfl (Nat.le_of_ble_eq_true rfl) (ws2 := w_X5_readText g h0 h1 h2 h3 h4 h5 h6 h7 h8 held0 (if 900 < p1 then 900 else p1) failure0 token0 start0 end0 windowSeen0 confidenceSeen0 feeSeen0 gantries1 links1 classes1 tags1 window1 confidence1 fee1 classAxles2 classPercent3 linkMinutes4 linkPrice5 tagAxles6 tagPlate7 text8) rfl dX5_readText_8 (fun H locs w => ?_)
  refine lv_aload_n hx hb dX5_readText_11 rfl (lv_at hl 0 rfl) ?_
  refine lv_iconst (v := 0) hx hb dX5_readText_12 (by decide) ?_
  refine p_X5_15 C w 0 rfl (Nat.le_of_ble_eq_true rfl) (ws2 := w_X5_readText g h0 h1 h2 h3 h4 h5 h6 h7 h8 0 (if 900 < p1 then 900 else p1) failure0 token0 start0 end0 windowSeen0 confidenceSeen0 feeSeen0 gantries1 links1 classes1 tags1 window1 confidence1 fee1 classAxles2 classPercent3 linkMinutes4 linkPrice5 tagAxles6 tagPlate7 text8) rfl dX5_readText_13 (fun H locs w => ?_)
  refine lv_aload_n hx hb dX5_readText_16 rfl (lv_at hl 0 rfl) ?_
  refine g_X5_25 C w 0 rfl rfl dX5_readText_17 ?_
  obtain ⟨o33, o34, o35, o36, o37, o38, o39, o40, o41, hc42, hf⟩ := bd9_some hf
  refine ca_vN C w (wn := fun _ => w_X5_readText g h0 h1 h2 h3 h4 h5 h6 h7 h8 0 (if 900 < p1 then 900 else p1) failure0 token0 start0 end0 windowSeen0 confidenceSeen0 feeSeen0 o33 o34 o35 o36 o37 o38 o39 classAxles2 classPercent3 o40 o41 tagAxles6 tagPlate7 text8) (pm_k [false, true, false, false, true, true, false, false, false] rfl rfl (fun _ => Nat.le_of_ble_eq_true rfl) (fun _ => rfl)) (c_X4_reset l g F h1 h4 h5 (.ref h2) (.ref h3) (.ref h7) (.ref h6) gantries1 links1 classes1 tags1 window1 confidence1 fee1 linkMinutes4 linkPrice5 o33 o34 o35 o36 o37 o38 o39 o40 o41 _ hc42) k_X5_57 (rm_le (by decide) (by decide)) 1 4 rfl rfl rfl rfl hl.1 rfl (Nat.le_of_ble_eq_true rfl) dX5_readText_20 ⟨Nat.le_of_ble_eq_true rfl, Nat.le_of_ble_eq_true rfl⟩ (cells2 := 0) (slots2 := 0) ⟨rfl, rfl⟩ (fun _ H locs w => ?_)
  refine lv_aload_n hx hb dX5_readText_23 rfl (lv_at hl 0 rfl) ?_
  refine lv_iconst (v := 0) hx hb dX5_readText_24 (by decide) ?_
  refine p_X5_29 C w 0 rfl (Nat.le_of_ble_eq_true rfl) (ws2 := w_X5_readText g h0 h1 h2 h3 h4 h5 h6 h7 h8 0 (if 900 < p1 then 900 else p1) 0 token0 start0 end0 windowSeen0 confidenceSeen0 feeSeen0 o33 o34 o35 o36 o37 o38 o39 classAxles2 classPercent3 o40 o41 tagAxles6 tagPlate7 text8) rfl dX5_readText_25 (fun H locs w => ?_)
  refine lv_aload_n hx hb dX5_readText_28 rfl (lv_at hl 0 rfl) ?_
  refine lv_iconst (v := 0) hx hb dX5_readText_29 (by decide) ?_
  refine p_X5_38 C w 0 rfl (Nat.le_of_ble_eq_true rfl) (ws2 := w_X5_readText g h0 h1 h2 h3 h4 h5 h6 h7 h8 0 (if 900 < p1 then 900 else p1) 0 token0 start0 0 windowSeen0 confidenceSeen0 feeSeen0 o33 o34 o35 o36 o37 o38 o39 classAxles2 classPercent3 o40 o41 tagAxles6 tagPlate7 text8) rfl dX5_readText_30 (fun H locs w => ?_)
  refine lv_aload_n hx hb dX5_readText_33 rfl (lv_at hl 0 rfl) ?_
  refine lv_iconst (v := 0) hx hb dX5_readText_34 (by decide) ?_
  refine p_X5_41 C w 0 rfl rfl rfl (Nat.le_of_ble_eq_true rfl) (ws2 := w_X5_readText g h0 h1 h2 h3 h4 h5 h6 h7 h8 0 (if 900 < p1 then 900 else p1) 0 token0 start0 0 0 confidenceSeen0 feeSeen0 o33 o34 o35 o36 o37 o38 o39 classAxles2 classPercent3 o40 o41 tagAxles6 tagPlate7 text8) rfl dX5_readText_35 (fun H locs w => ?_)
  refine lv_aload_n hx hb dX5_readText_38 rfl (lv_at hl 0 rfl) ?_
  refine lv_iconst (v := 0) hx hb dX5_readText_39 (by decide) ?_
  refine p_X5_45 C w 0 rfl rfl rfl (Nat.le_of_ble_eq_true rfl) (ws2 := w_X5_readText g h0 h1 h2 h3 h4 h5 h6 h7 h8 0 (if 900 < p1 then 900 else p1) 0 token0 start0 0 0 0 feeSeen0 o33 o34 o35 o36 o37 o38 o39 classAxles2 classPercent3 o40 o41 tagAxles6 tagPlate7 text8) rfl dX5_readText_40 (fun H locs w => ?_)
  refine lv_aload_n hx hb dX5_readText_43 rfl (lv_at hl 0 rfl) ?_
  refine lv_iconst (v := 0) hx hb dX5_readText_44 (by decide) ?_
  refine p_X5_48 C w 0 rfl rfl rfl (Nat.le_of_ble_eq_true rfl) (ws2 := w_X5_readText g h0 h1 h2 h3 h4 h5 h6 h7 h8 0 (if 900 < p1 then 900 else p1) 0 token0 start0 0 0 0 0 o33 o34 o35 o36 o37 o38 o39 classAxles2 classPercent3 o40 o41 tagAxles6 tagPlate7 text8) rfl dX5_readText_45 (fun H locs w => ?_)
  refine lv_aload_n hx hb dX5_readText_48 rfl (lv_at hl 0 rfl) ?_
  refine g_X5_19 C w 0 rfl rfl dX5_readText_49 ?_
  refine lv_if_le (tgt := 59) hx hb dX5_readText_52 (by decide) (fun c43 => ?_) (fun c43 => ?_)
  · replace hf := it_t c43 hf
    exact b59 0 (if 900 < p1 then 900 else p1) 0 token0 start0 0 0 0 0 o33 o34 o35 o36 o37 o38 o39 classAxles2 classPercent3 o40 o41 tagAxles6 tagPlate7 _ _ _ hf w (lv_sub hl [0] rfl)
  · replace hf := it_f c43 hf
    refine lv_aload_n hx hb dX5_readText_55 rfl (lv_at hl 0 rfl) ?_
    obtain ⟨o44, o45, o46, o47, o48, hc49, hf⟩ := bd5_some hf
    refine ca_vV C w (wn := fun _ => w_X5_readText g h0 h1 h2 h3 h4 h5 h6 h7 h8 0 (if 900 < p1 then 900 else p1) o44 o45 o46 o47 0 0 0 o48 o34 o35 o36 o37 o38 o39 classAxles2 classPercent3 o40 o41 tagAxles6 tagPlate7 text8) (pm_k [true, true, false, false, false, false, false, false, true] rfl rfl (fun _ => Nat.le_of_ble_eq_true rfl) (fun _ => rfl)) (c_X5_readHead l g F h0 h1 h8 (.int 0) (.int 0) (.int 0) (.int 0) (.int o34) (.int o35) (.int o36) (.int o37) (.int o38) (.int o39) (.ref h4) (.ref h5) (.ref h2) (.ref h3) (.ref h7) (.ref h6) (if 900 < p1 then 900 else p1) 0 token0 start0 0 o33 text8 o44 o45 o46 o47 o48 _ hc49) k_X5_60 (rm_le (by decide) (by decide)) 0 5 rfl rfl rfl rfl hl.1 rfl (Nat.le_of_ble_eq_true rfl) dX5_readText_56 ⟨Nat.le_of_ble_eq_true rfl, Nat.le_of_ble_eq_true rfl⟩ (cells2 := 0) (slots2 := 0) ⟨rfl, rfl⟩ (fun _ H locs w => ?_)
    exact b59 0 (if 900 < p1 then 900 else p1) o44 o45 o46 o47 0 0 0 o48 o34 o35 o36 o37 o38 o39 classAxles2 classPercent3 o40 o41 tagAxles6 tagPlate7 _ _ _ hf w (lv_sub hl [0] rfl)
