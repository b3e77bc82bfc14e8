theorem dX10_laysReading_0 : decode cX10_laysReading 0 = .ok (.aload_n 0, 1) := by decide +kernel
theorem dX10_laysReading_1 : decode cX10_laysReading 1 = .ok (.iload_n 1, 1) := by decide +kernel
theorem dX10_laysReading_2 : decode cX10_laysReading 2 = .ok (.iload_n 2, 1) := by decide +kernel
theorem dX10_laysReading_3 : decode cX10_laysReading 3 = .ok (.iload_n 3, 1) := by decide +kernel
theorem dX10_laysReading_4 : decode cX10_laysReading 4 = .ok (.iload 4, 2) := by decide +kernel
theorem dX10_laysReading_6 : decode cX10_laysReading 6 = .ok (.invokevirtual 339, 3) := by decide +kernel
theorem dX10_laysReading_9 : decode cX10_laysReading 9 = .ok (.istore 5, 2) := by decide +kernel
theorem dX10_laysReading_11 : decode cX10_laysReading 11 = .ok (.iload 5, 2) := by decide +kernel
theorem dX10_laysReading_13 : decode cX10_laysReading 13 = .ok (.ifCond .ge 21, 3) := by decide +kernel
theorem dX10_laysReading_16 : decode cX10_laysReading 16 = .ok (.aload_n 0, 1) := by decide +kernel
theorem dX10_laysReading_17 : decode cX10_laysReading 17 = .ok (.getfield 44, 3) := by decide +kernel
theorem dX10_laysReading_20 : decode cX10_laysReading 20 = .ok (.iconst 0, 1) := by decide +kernel
theorem dX10_laysReading_21 : decode cX10_laysReading 21 = .ok (.iaload, 1) := by decide +kernel
theorem dX10_laysReading_22 : decode cX10_laysReading 22 = .ok (.bipush 80, 2) := by decide +kernel
theorem dX10_laysReading_24 : decode cX10_laysReading 24 = .ok (.if_icmp .ne 10, 3) := by decide +kernel
theorem dX10_laysReading_27 : decode cX10_laysReading 27 = .ok (.aload_n 0, 1) := by decide +kernel
theorem dX10_laysReading_28 : decode cX10_laysReading 28 = .ok (.iconst 2, 1) := by decide +kernel
theorem dX10_laysReading_29 : decode cX10_laysReading 29 = .ok (.putfield 84, 3) := by decide +kernel
theorem dX10_laysReading_32 : decode cX10_laysReading 32 = .ok (.iconst (-1), 1) := by decide +kernel
theorem dX10_laysReading_33 : decode cX10_laysReading 33 = .ok (.ireturn, 1) := by decide +kernel
theorem dX10_laysReading_34 : decode cX10_laysReading 34 = .ok (.aload_n 0, 1) := by decide +kernel
theorem dX10_laysReading_35 : decode cX10_laysReading 35 = .ok (.invokevirtual 343, 3) := by decide +kernel
theorem dX10_laysReading_38 : decode cX10_laysReading 38 = .ok (.aload_n 0, 1) := by decide +kernel
theorem dX10_laysReading_39 : decode cX10_laysReading 39 = .ok (.getfield 44, 3) := by decide +kernel
theorem dX10_laysReading_42 : decode cX10_laysReading 42 = .ok (.iconst 3, 1) := by decide +kernel
theorem dX10_laysReading_43 : decode cX10_laysReading 43 = .ok (.iload_n 3, 1) := by decide +kernel
theorem dX10_laysReading_44 : decode cX10_laysReading 44 = .ok (.iastore, 1) := by decide +kernel
theorem dX10_laysReading_45 : decode cX10_laysReading 45 = .ok (.iload 5, 2) := by decide +kernel
theorem dX10_laysReading_47 : decode cX10_laysReading 47 = .ok (.ifCond .lt 6, 3) := by decide +kernel
theorem dX10_laysReading_50 : decode cX10_laysReading 50 = .ok (.iload 5, 2) := by decide +kernel
theorem dX10_laysReading_52 : decode cX10_laysReading 52 = .ok (.ireturn, 1) := by decide +kernel
theorem dX10_laysReading_53 : decode cX10_laysReading 53 = .ok (.aload_n 0, 1) := by decide +kernel
theorem dX10_laysReading_54 : decode cX10_laysReading 54 = .ok (.getfield 44, 3) := by decide +kernel
theorem dX10_laysReading_57 : decode cX10_laysReading 57 = .ok (.iconst 0, 1) := by decide +kernel
theorem dX10_laysReading_58 : decode cX10_laysReading 58 = .ok (.iaload, 1) := by decide +kernel
theorem dX10_laysReading_59 : decode cX10_laysReading 59 = .ok (.istore 5, 2) := by decide +kernel
theorem dX10_laysReading_61 : decode cX10_laysReading 61 = .ok (.iconst 0, 1) := by decide +kernel
theorem dX10_laysReading_62 : decode cX10_laysReading 62 = .ok (.istore 6, 2) := by decide +kernel
theorem dX10_laysReading_64 : decode cX10_laysReading 64 = .ok (.iload 6, 2) := by decide +kernel
theorem dX10_laysReading_66 : decode cX10_laysReading 66 = .ok (.bipush 25, 2) := by decide +kernel
theorem dX10_laysReading_68 : decode cX10_laysReading 68 = .ok (.if_icmp .ge 18, 3) := by decide +kernel
theorem dX10_laysReading_71 : decode cX10_laysReading 71 = .ok (.aload_n 0, 1) := by decide +kernel
theorem dX10_laysReading_72 : decode cX10_laysReading 72 = .ok (.iload 5, 2) := by decide +kernel
theorem dX10_laysReading_74 : decode cX10_laysReading 74 = .ok (.iload 6, 2) := by decide +kernel
theorem dX10_laysReading_76 : decode cX10_laysReading 76 = .ok (.iconst 0, 1) := by decide +kernel
theorem dX10_laysReading_77 : decode cX10_laysReading 77 = .ok (.invokevirtual 346, 3) := by decide +kernel
theorem dX10_laysReading_80 : decode cX10_laysReading 80 = .ok (.iinc 6 1, 3) := by decide +kernel
theorem dX10_laysReading_83 : decode cX10_laysReading 83 = .ok (.goto (-19), 3) := by decide +kernel
theorem dX10_laysReading_86 : decode cX10_laysReading 86 = .ok (.aload_n 0, 1) := by decide +kernel
theorem dX10_laysReading_87 : decode cX10_laysReading 87 = .ok (.iload 5, 2) := by decide +kernel
theorem dX10_laysReading_89 : decode cX10_laysReading 89 = .ok (.iconst 0, 1) := by decide +kernel
theorem dX10_laysReading_90 : decode cX10_laysReading 90 = .ok (.iload_n 1, 1) := by decide +kernel
theorem dX10_laysReading_91 : decode cX10_laysReading 91 = .ok (.invokevirtual 346, 3) := by decide +kernel
theorem dX10_laysReading_94 : decode cX10_laysReading 94 = .ok (.aload_n 0, 1) := by decide +kernel
theorem dX10_laysReading_95 : decode cX10_laysReading 95 = .ok (.iload 5, 2) := by decide +kernel
theorem dX10_laysReading_97 : decode cX10_laysReading 97 = .ok (.iconst 1, 1) := by decide +kernel
theorem dX10_laysReading_98 : decode cX10_laysReading 98 = .ok (.iload_n 2, 1) := by decide +kernel
theorem dX10_laysReading_99 : decode cX10_laysReading 99 = .ok (.invokevirtual 346, 3) := by decide +kernel
theorem dX10_laysReading_102 : decode cX10_laysReading 102 = .ok (.aload_n 0, 1) := by decide +kernel
theorem dX10_laysReading_103 : decode cX10_laysReading 103 = .ok (.iload 5, 2) := by decide +kernel
theorem dX10_laysReading_105 : decode cX10_laysReading 105 = .ok (.iconst 2, 1) := by decide +kernel
theorem dX10_laysReading_106 : decode cX10_laysReading 106 = .ok (.iload_n 3, 1) := by decide +kernel
theorem dX10_laysReading_107 : decode cX10_laysReading 107 = .ok (.invokevirtual 346, 3) := by decide +kernel
theorem dX10_laysReading_110 : decode cX10_laysReading 110 = .ok (.aload_n 0, 1) := by decide +kernel
theorem dX10_laysReading_111 : decode cX10_laysReading 111 = .ok (.getfield 44, 3) := by decide +kernel
theorem dX10_laysReading_114 : decode cX10_laysReading 114 = .ok (.iconst 0, 1) := by decide +kernel
theorem dX10_laysReading_115 : decode cX10_laysReading 115 = .ok (.dup2, 1) := by decide +kernel
theorem dX10_laysReading_116 : decode cX10_laysReading 116 = .ok (.iaload, 1) := by decide +kernel
theorem dX10_laysReading_117 : decode cX10_laysReading 117 = .ok (.iconst 1, 1) := by decide +kernel
theorem dX10_laysReading_118 : decode cX10_laysReading 118 = .ok (.iadd, 1) := by decide +kernel
theorem dX10_laysReading_119 : decode cX10_laysReading 119 = .ok (.iastore, 1) := by decide +kernel
theorem dX10_laysReading_120 : decode cX10_laysReading 120 = .ok (.iload 5, 2) := by decide +kernel
theorem dX10_laysReading_122 : decode cX10_laysReading 122 = .ok (.ireturn, 1) := by decide +kernel
abbrev m_X10_laysReading : MD := (yX10_laysReading, cX10_laysReading, 7, (some .int))
theorem q_1716 : Cond.code yX10_setPassage cX10_setPassage 4 none ∈ TS := ts_t 1716 (by decide +kernel) (by decide +kernel)
theorem q_1713 : Cond.methodLink RX10 346 yX10_setPassage ∈ TS := ts_t 1713 (by decide +kernel) (by decide +kernel)
theorem q_1715 : Cond.instanceMethod yX10_setPassage ∈ TS := ts_t 1715 (by decide +kernel) (by decide +kernel)
theorem qs_134 : Cond.selects yX10_setPassage.cls yX10_setPassage yX10_setPassage ∈ TS := ts_s 134 (by decide +kernel) (by decide +kernel)
theorem k_X10_346 : LkV RX10 346 m_X10_setPassage 3 := ⟨q_1713, q_1715, qs_134, ⟨q_11, q_1716, by decide, by decide, by decide +kernel⟩⟩
theorem q_1712 : Cond.code yX10_keep cX10_keep 2 none ∈ TS := ts_t 1712 (by decide +kernel) (by decide +kernel)
theorem q_1709 : Cond.methodLink RX10 343 yX10_keep ∈ TS := ts_t 1709 (by decide +kernel) (by decide +kernel)
theorem q_1711 : Cond.instanceMethod yX10_keep ∈ TS := ts_t 1711 (by decide +kernel) (by decide +kernel)
theorem qs_133 : Cond.selects yX10_keep.cls yX10_keep yX10_keep ∈ TS := ts_s 133 (by decide +kernel) (by decide +kernel)
theorem k_X10_343 : LkV RX10 343 m_X10_keep 0 := ⟨q_1709, q_1711, qs_133, ⟨q_11, q_1712, by decide, by decide, by decide +kernel⟩⟩
theorem q_1708 : Cond.code yX10_joins cX10_joins 7 (some .int) ∈ TS := ts_t 1708 (by decide +kernel) (by decide +kernel)
theorem q_1705 : Cond.methodLink RX10 339 yX10_joins ∈ TS := ts_t 1705 (by decide +kernel) (by decide +kernel)
theorem q_1707 : Cond.instanceMethod yX10_joins ∈ TS := ts_t 1707 (by decide +kernel) (by decide +kernel)
theorem qs_132 : Cond.selects yX10_joins.cls yX10_joins yX10_joins ∈ TS := ts_s 132 (by decide +kernel) (by decide +kernel)
theorem k_X10_339 : LkV RX10 339 m_X10_joins 4 := ⟨q_1705, q_1707, qs_132, ⟨q_11, q_1708, by decide, by decide, by decide +kernel⟩⟩
abbrev w_X10_laysReading (g : GT) (h0 h1 h2 h3 : Nat) (v0_1 v0_2 v0_3 v0_4 v0_5 v0_6 v0_7 v0_8 v0_9 v0_11 v0_12 v0_13 v0_14 v0_15 v0_16 v0_17 v0_18 v0_19 v0_20 v0_24 v0_25 v0_26 v0_27 v0_28 v0_29 v0_30 v0_31 v0_32 v0_33 v0_34 v0_35 v0_36 v0_37 : Value) (thrown0 depth0 : Int32) (basic1 history2 state3 : Nat → Int32) : va_W := [(h0, .inr (10, [.int thrown0, v0_1, v0_2, v0_3, v0_4, v0_5, v0_6, v0_7, v0_8, v0_9, .ref h1, v0_11, v0_12, v0_13, v0_14, v0_15, v0_16, v0_17, v0_18, v0_19, v0_20, .ref h3, .ref h2, .int depth0, v0_24, v0_25, v0_26, v0_27, v0_28, v0_29, v0_30, v0_31, v0_32, v0_33, v0_34, v0_35, v0_36, v0_37])), (h1, aI g 7 basic1), (h2, aI g 25240 history2), (h3, aI g 2524 state3)]
def f_X10_laysReading_h64 (F : Nat) (basic1 : Nat → Int32) (k64 : (Int32 × Int32 × Int32 × Int32 × Int32 × Int32 × Int32 × (Nat → Int32) × (Nat → Int32)) → Option (Int32 × Int32 × Int32 × (Nat → Int32) × (Nat → Int32))) (x1 x2 x3 x5 x6 thrown0 depth0 : Int32) (history2 state3 : Nat → Int32) : Option (Int32 × Int32 × Int32 × (Nat → Int32) × (Nat → Int32)) :=
  if 25 ≤ x6 then
    bd1 (f_X10_setPassage F x5 0 x1 state3) fun o2 =>
    bd1 (f_X10_setPassage F x5 1 x2 o2) fun o4 =>
    bd1 (f_X10_setPassage F x5 2 x3 o4) fun o6 =>
    rd o6 2524 0 fun a8 =>
    wr o6 2524 0 (a8 + 1) fun f9 =>
    some (x5, thrown0, depth0, history2, f9)
  else
    bd1 (f_X10_setPassage F x5 x6 0 state3) fun o10 =>
    k64 (x1, x2, x3, x5, x6 + 1, thrown0, depth0, history2, o10)
def f_X10_laysReading_L64 (F : Nat) (basic1 : Nat → Int32) (z : Int32 × Int32 × Int32 × Int32 × Int32 × Int32 × Int32 × (Nat → Int32) × (Nat → Int32)) : Option (Int32 × Int32 × Int32 × (Nat → Int32) × (Nat → Int32)) := lp (fun k z => f_X10_laysReading_h64 F basic1 k z.1 z.2.1 z.2.2.1 z.2.2.2.1 z.2.2.2.2.1 z.2.2.2.2.2.1 z.2.2.2.2.2.2.1 z.2.2.2.2.2.2.2.1 z.2.2.2.2.2.2.2.2) F z
def f_X10_laysReading_b34 (F : Nat) (basic1 : Nat → Int32) (x1 x2 x3 x5 thrown0 depth0 : Int32) (history2 state3 : Nat → Int32) : Option (Int32 × Int32 × Int32 × (Nat → Int32) × (Nat → Int32)) :=
  bd2 (f_X10_keep F depth0 history2 state3) fun o12 o13 =>
  wr state3 2524 3 x3 fun f15 =>
  if x5 < 0 then
    rd f15 2524 0 fun a17 =>
    f_X10_laysReading_L64 F basic1 (x1, x2, x3, a17, 0, thrown0, o12, o13, f15)
  else
    some (x5, thrown0, o12, o13, f15)
def f_X10_laysReading (F : Nat) (p1 p2 p3 p4 thrown0 depth0 : Int32) (basic1 history2 state3 : Nat → Int32) : Option (Int32 × Int32 × Int32 × (Nat → Int32) × (Nat → Int32)) :=
  bd1 (f_X10_joins F p1 p2 p3 p4 basic1 state3) fun r18 =>
  if 0 ≤ r18 then
    f_X10_laysReading_b34 F basic1 p1 p2 p3 r18 thrown0 depth0 history2 state3
  else
    rd state3 2524 0 fun a21 =>
    if a21 = 80 then
      some ((-1), 2, depth0, history2, state3)
    else
      f_X10_laysReading_b34 F basic1 p1 p2 p3 r18 thrown0 depth0 history2 state3
set_option maxHeartbeats 4000000 in
set_option maxRecDepth 100000 in
theorem c_X10_laysReading (l : Launch) (g : GT) (F : Nat) (h0 h1 h2 h3 : Nat) (v0_1 v0_2 v0_3 v0_4 v0_5 v0_6 v0_7 v0_8 v0_9 v0_11 v0_12 v0_13 v0_14 v0_15 v0_16 v0_17 v0_18 v0_19 v0_20 v0_24 v0_25 v0_26 v0_27 v0_28 v0_29 v0_30 v0_31 v0_32 v0_33 v0_34 v0_35 v0_36 v0_37 : Value) (p1 p2 p3 p4 thrown0 depth0 : Int32) (basic1 history2 state3 : Nat → Int32) (r o_thrown0 o_depth0 : Int32) (o_history2 o_state3 : Nat → Int32) (sz : Nat) (hf : f_X10_laysReading F p1 p2 p3 p4 thrown0 depth0 basic1 history2 state3 = some (r, o_thrown0, o_depth0, o_history2, o_state3)) : CI l m_X10_laysReading (rml 3 0 0) g (w_X10_laysReading g h0 h1 h2 h3 v0_1 v0_2 v0_3 v0_4 v0_5 v0_6 v0_7 v0_8 v0_9 v0_11 v0_12 v0_13 v0_14 v0_15 v0_16 v0_17 v0_18 v0_19 v0_20 v0_24 v0_25 v0_26 v0_27 v0_28 v0_29 v0_30 v0_31 v0_32 v0_33 v0_34 v0_35 v0_36 v0_37 thrown0 depth0 basic1 history2 state3) (fun _ => w_X10_laysReading g h0 h1 h2 h3 v0_1 v0_2 v0_3 v0_4 v0_5 v0_6 v0_7 v0_8 v0_9 v0_11 v0_12 v0_13 v0_14 v0_15 v0_16 v0_17 v0_18 v0_19 v0_20 v0_24 v0_25 v0_26 v0_27 v0_28 v0_29 v0_30 v0_31 v0_32 v0_33 v0_34 v0_35 v0_36 v0_37 o_thrown0 o_depth0 basic1 o_history2 o_state3) sz [.ref h0, .int p1, .int p2, .int p3, .int p4] r := by
  refine en_i (by decide) (Nat.le_of_ble_eq_true rfl) (fun p e s m args below meth c A ls C w hl => ?_)
  have C : Cx p s m args meth c RX10 m_X10_laysReading g A := C
  have hx := C.1
  have hb : c.code = cX10_laysReading := C.2.1
  have hl : lv_has ls 7 [(0, .ref h0), (1, .int p1), (2, .int p2), (3, .int p3), (4, .int p4)] := hl
  obtain ⟨Q, hQ⟩ : ∃ Q, Q = QI below args s g A (fun _ => w_X10_laysReading g h0 h1 h2 h3 v0_1 v0_2 v0_3 v0_4 v0_5 v0_6 v0_7 v0_8 v0_9 v0_11 v0_12 v0_13 v0_14 v0_15 v0_16 v0_17 v0_18 v0_19 v0_20 v0_24 v0_25 v0_26 v0_27 v0_28 v0_29 v0_30 v0_31 v0_32 v0_33 v0_34 v0_35 v0_36 v0_37 o_thrown0 o_depth0 basic1 o_history2 o_state3) r 0 0 := ⟨_, rfl⟩
  suffices hW : W p l e (rml 3 0 0) s m args below meth c s.heap [] 0 0 Q (F0 m 0 ls []) from (by rw [hQ] at hW; exact hW)
  unfold f_X10_laysReading at hf
  have L64 : ∀ (z : Int32 × Int32 × Int32 × Int32 × Int32 × Int32 × Int32 × (Nat → Int32) × (Nat → Int32)), f_X10_laysReading_L64 F basic1 z = some (r, o_thrown0, o_depth0, o_history2, o_state3) → ∀ (H : Heap) (locs : List Loc) (ls : Array Slot), Wd g A (w_X10_laysReading g h0 h1 h2 h3 v0_1 v0_2 v0_3 v0_4 v0_5 v0_6 v0_7 v0_8 v0_9 v0_11 v0_12 v0_13 v0_14 v0_15 v0_16 v0_17 v0_18 v0_19 v0_20 v0_24 v0_25 v0_26 v0_27 v0_28 v0_29 v0_30 v0_31 v0_32 v0_33 v0_34 v0_35 v0_36 v0_37 z.2.2.2.2.2.1 z.2.2.2.2.2.2.1 basic1 z.2.2.2.2.2.2.2.1 z.2.2.2.2.2.2.2.2) s.heap H locs → lv_has ls 7 [(0, .ref h0), (1, .int z.1), (2, .int z.2.1), (3, .int z.2.2.1), (5, .int z.2.2.2.1), (6, .int z.2.2.2.2.1)] → W p l e (rml 3 0 0) s m args below meth c H locs 0 0 Q (F0 m 64 ls []) := by
    intro z hf
    refine lp_W (r := (r, o_thrown0, o_depth0, o_history2, o_state3)) (fun (z : Int32 × Int32 × Int32 × Int32 × Int32 × Int32 × Int32 × (Nat → Int32) × (Nat → Int32)) => ∀ (H : Heap) (locs : List Loc) (ls : Array Slot), Wd g A (w_X10_laysReading g h0 h1 h2 h3 v0_1 v0_2 v0_3 v0_4 v0_5 v0_6 v0_7 v0_8 v0_9 v0_11 v0_12 v0_13 v0_14 v0_15 v0_16 v0_17 v0_18 v0_19 v0_20 v0_24 v0_25 v0_26 v0_27 v0_28 v0_29 v0_30 v0_31 v0_32 v0_33 v0_34 v0_35 v0_36 v0_37 z.2.2.2.2.2.1 z.2.2.2.2.2.2.1 basic1 z.2.2.2.2.2.2.2.1 z.2.2.2.2.2.2.2.2) s.heap H locs → lv_has ls 7 [(0, .ref h0), (1, .int z.1), (2, .int z.2.1), (3, .int z.2.2.1), (5, .int z.2.2.2.1), (6, .int z.2.2.2.2.1)] → W p l e (rml 3 0 0) s m args below meth c H locs 0 0 Q (F0 m 64 ls [])) (fun k64 z ih64 hf => ?_) F z hf
    obtain ⟨x1, x2, x3, x5, x6, thrown0, depth0, history2, state3⟩ := z
    intro H locs ls w hl
    try dsimp only at hf w hl ⊢
    unfold f_X10_laysReading_h64 at hf
    refine lv_iload hx hb dX10_laysReading_64 (lv_at hl 5 rfl) ?_
    refine lv_bipush (v := 25) hx hb dX10_laysReading_66 (by decide) ?_
    refine lv_icmp_ge (tgt := 86) hx hb dX10_laysReading_68 (by decide) (fun c1 => ?_) (fun c1 => ?_)
    · replace hf := it_t c1 hf
      refine lv_aload_n hx hb dX10_laysReading_86 rfl (lv_at hl 0 rfl) ?_
      refine lv_iload hx hb dX10_laysReading_87 (lv_at hl 4 rfl) ?_
      refine lv_iconst (v := 0) hx hb dX10_laysReading_89 (by decide) ?_
      refine lv_iload_n hx hb dX10_laysReading_90 rfl (lv_at hl 1 rfl) ?_
      obtain ⟨o2, hc3, hf⟩ := bd1_some hf
      refine ca_vV C w (wn := fun _ => w_X10_laysReading g h0 h1 h2 h3 v0_1 v0_2 v0_3 v0_4 v0_5 v0_6 v0_7 v0_8 v0_9 v0_11 v0_12 v0_13 v0_14 v0_15 v0_16 v0_17 v0_18 v0_19 v0_20 v0_24 v0_25 v0_26 v0_27 v0_28 v0_29 v0_30 v0_31 v0_32 v0_33 v0_34 v0_35 v0_36 v0_37 thrown0 depth0 basic1 history2 o2) (pm_k [true, false, false, true] rfl rfl (fun _ => Nat.le_of_ble_eq_true rfl) (fun _ => rfl)) (c_X10_setPassage l g F h0 h3 (.int thrown0) v0_1 v0_2 v0_3 v0_4 v0_5 v0_6 v0_7 v0_8 v0_9 (.ref h1) v0_11 v0_12 v0_13 v0_14 v0_15 v0_16 v0_17 v0_18 v0_19 v0_20 (.ref h2) (.int depth0) v0_24 v0_25 v0_26 v0_27 v0_28 v0_29 v0_30 v0_31 v0_32 v0_33 v0_34 v0_35 v0_36 v0_37 x5 0 x1 state3 o2 _ hc3) k_X10_346 (rm_le (by decide) (by decide)) 0 10 rfl rfl rfl rfl hl.1 rfl (Nat.le_of_ble_eq_true rfl) dX10_laysReading_91 ⟨Nat.le_of_ble_eq_true rfl, Nat.le_of_ble_eq_true rfl⟩ (cells2 := 0) (slots2 := 0) ⟨rfl, rfl⟩ (fun _ H locs w => ?_)
      refine lv_aload_n hx hb dX10_laysReading_94 rfl (lv_at hl 0 rfl) ?_
      refine lv_iload hx hb dX10_laysReading_95 (lv_at hl 4 rfl) ?_
      refine lv_iconst (v := 1) hx hb dX10_laysReading_97 (by decide) ?_
      refine lv_iload_n hx hb dX10_laysReading_98 rfl (lv_at hl 2 rfl) ?_
      obtain ⟨o4, hc5, hf⟩ := bd1_some hf
      refine ca_vV C w (wn := fun _ => w_X10_laysReading g h0 h1 h2 h3 v0_1 v0_2 v0_3 v0_4 v0_5 v0_6 v0_7 v0_8 v0_9 v0_11 v0_12 v0_13 v0_14 v0_15 v0_16 v0_17 v0_18 v0_19 v0_20 v0_24 v0_25 v0_26 v0_27 v0_28 v0_29 v0_30 v0_31 v0_32 v0_33 v0_34 v0_35 v0_36 v0_37 thrown0 depth0 basic1 history2 o4) (pm_k [true, false, false, true] rfl rfl (fun _ => Nat.le_of_ble_eq_true rfl) (fun _ => rfl)) (c_X10_setPassage l g F h0 h3 (.int thrown0) v0_1 v0_2 v0_3 v0_4 v0_5 v0_6 v0_7 v0_8 v0_9 (.ref h1) v0_11 v0_12 v0_13 v0_14 v0_15 v0_16 v0_17 v0_18 v0_19 v0_20 (.ref h2) (.int depth0) v0_24 v0_25 v0_26 v0_27 v0_28 v0_29 v0_30 v0_31 v0_32 v0_33 v0_34 v0_35 v0_36 v0_37 x5 1 x2 o2 o4 _ hc5) k_X10_346 (rm_le (by decide) (by decide)) 0 10 rfl rfl rfl rfl hl.1 rfl (Nat.le_of_ble_eq_true rfl) dX10_laysReading_99 ⟨Nat.le_of_ble_eq_true rfl, Nat.le_of_ble_eq_true rfl⟩ (cells2 := 0) (slots2 := 0) ⟨rfl, rfl⟩ (fun _ H locs w => ?_)
      refine lv_aload_n hx hb dX10_laysReading_102 rfl (lv_at hl 0 rfl) ?_
      refine lv_iload hx hb dX10_laysReading_103 (lv_at hl 4 rfl) ?_
      refine lv_iconst (v := 2) hx hb dX10_laysReading_105 (by decide) ?_
      refine lv_iload_n hx hb dX10_laysReading_106 rfl (lv_at hl 3 rfl) ?_
      obtain ⟨o6, hc7, hf⟩ := bd1_some hf
      refine ca_vV C w (wn := fun _ => w_X10_laysReading g h0 h1 h2 h3 v0_1 v0_2 v0_3 v0_4 v0_5 v0_6 v0_7 v0_8 v0_9 v0_11 v0_12 v0_13 v0_14 v0_15 v0_16 v0_17 v0_18 v0_19 v0_20 v0_24 v0_25 v0_26 v0_27 v0_28 v0_29 v0_30 v0_31 v0_32 v0_33 v0_34 v0_35 v0_36 v0_37 thrown0 depth0 basic1 history2 o6) (pm_k [true, false, false, true] rfl rfl (fun _ => Nat.le_of_ble_eq_true rfl) (fun _ => rfl)) (c_X10_setPassage l g F h0 h3 (.int thrown0) v0_1 v0_2 v0_3 v0_4 v0_5 v0_6 v0_7 v0_8 v0_9 (.ref h1) v0_11 v0_12 v0_13 v0_14 v0_15 v0_16 v0_17 v0_18 v0_19 v0_20 (.ref h2) (.int depth0) v0_24 v0_25 v0_26 v0_27 v0_28 v0_29 v0_30 v0_31 v0_32 v0_33 v0_34 v0_35 v0_36 v0_37 x5 2 x3 o4 o6 _ hc7) k_X10_346 (rm_le (by decide) (by decide)) 0 10 rfl rfl rfl rfl hl.1 rfl (Nat.le_of_ble_eq_true rfl) dX10_laysReading_107 ⟨Nat.le_of_ble_eq_true rfl, Nat.le_of_ble_eq_true rfl⟩ (cells2 := 0) (slots2 := 0) ⟨rfl, rfl⟩ (fun _ H locs w => ?_)
      refine lv_aload_n hx hb dX10_laysReading_110 rfl (lv_at hl 0 rfl) ?_
      refine g_X10_44 C w 0 rfl rfl dX10_laysReading_111 ?_
      refine lv_iconst (v := 0) hx hb dX10_laysReading_114 (by decide) ?_
      refine lv_dup2_11 hx hb dX10_laysReading_115 rfl rfl ?_
      obtain ⟨a8, hia8, haa8, hf⟩ := rd_some hf
      refine ial C w 3 rfl hia8 haa8 dX10_laysReading_116 ?_
      refine lv_iconst (v := 1) hx hb dX10_laysReading_117 (by decide) ?_
      refine lv_iadd hx hb dX10_laysReading_118 ?_
      obtain ⟨f9, hif9, haf9, hf⟩ := wr_some hf
      refine ias C w 3 rfl hif9 haf9 (ws2 := w_X10_laysReading g h0 h1 h2 h3 v0_1 v0_2 v0_3 v0_4 v0_5 v0_6 v0_7 v0_8 v0_9 v0_11 v0_12 v0_13 v0_14 v0_15 v0_16 v0_17 v0_18 v0_19 v0_20 v0_24 v0_25 v0_26 v0_27 v0_28 v0_29 v0_30 v0_31 v0_32 v0_33 v0_34 v0_35 v0_36 v0_37 thrown0 depth0 basic1 history2 f9) rfl dX10_laysReading_119 (fun H locs w => ?_)
      refine lv_iload hx hb dX10_laysReading_120 (lv_at hl 4 rfl) ?_
      obtain ⟨e1, e2, e3, e4, e5⟩ := tp5 hf
      rw [hQ]
      exact rt_i C w rfl (fun _ => 0) (by rw [← e2, ← e3, ← e4, ← e5]) e1 dX10_laysReading_122
    · replace hf := it_f c1 hf
      refine lv_aload_n hx hb dX10_laysReading_71 rfl (lv_at hl 0 rfl) ?_
      refine lv_iload hx hb dX10_laysReading_72 (lv_at hl 4 rfl) ?_
      refine lv_iload hx hb dX10_laysReading_74 (lv_at hl 5 rfl) ?_
      refine lv_iconst (v := 0) hx hb dX10_laysReading_76 (by decide) ?_
      obtain ⟨o10, hc11, hf⟩ := bd1_some hf
      refine ca_vV C w (wn := fun _ => w_X10_laysReading g h0 h1 h2 h3 v0_1 v0_2 v0_3 v0_4 v0_5 v0_6 v0_7 v0_8 v0_9 v0_11 v0_12 v0_13 v0_14 v0_15 v0_16 v0_17 v0_18 v0_19 v0_20 v0_24 v0_25 v0_26 v0_27 v0_28 v0_29 v0_30 v0_31 v0_32 v0_33 v0_34 v0_35 v0_36 v0_37 thrown0 depth0 basic1 history2 o10) (pm_k [true, false, false, true] rfl rfl (fun _ => Nat.le_of_ble_eq_true rfl) (fun _ => rfl)) (c_X10_setPassage l g F h0 h3 (.int thrown0) v0_1 v0_2 v0_3 v0_4 v0_5 v0_6 v0_7 v0_8 v0_9 (.ref h1) v0_11 v0_12 v0_13 v0_14 v0_15 v0_16 v0_17 v0_18 v0_19 v0_20 (.ref h2) (.int depth0) v0_24 v0_25 v0_26 v0_27 v0_28 v0_29 v0_30 v0_31 v0_32 v0_33 v0_34 v0_35 v0_36 v0_37 x5 x6 0 state3 o10 _ hc11) k_X10_346 (rm_le (by decide) (by decide)) 0 10 rfl rfl rfl rfl hl.1 rfl (Nat.le_of_ble_eq_true rfl) dX10_laysReading_77 ⟨Nat.le_of_ble_eq_true rfl, Nat.le_of_ble_eq_true rfl⟩ (cells2 := 0) (slots2 := 0) ⟨rfl, rfl⟩ (fun _ H locs w => ?_)
      refine lv_iinc (v := x6 + 1) (lv' := [(6, .int (x6 + 1)), (0, .ref h0), (1, .int x1), (2, .int x2), (3, .int x3), (5, .int x5)]) hx hb dX10_laysReading_80 hl (k := 5) rfl rfl (by decide) rfl (fun ls hl => ?_)
      refine lv_goto (tgt := 64) hx hb dX10_laysReading_83 (by decide) ?_
      exact ih64 (x1, x2, x3, x5, x6 + 1, thrown0, depth0, history2, o10) hf _ _ _ w (lv_sub hl [1, 2, 3, 4, 5, 0] rfl)
  have b34 : ∀ (x1 x2 x3 x5 thrown0 depth0 : Int32) (history2 state3 : Nat → Int32) (H : Heap) (locs : List Loc) (ls : Array Slot), f_X10_laysReading_b34 F basic1 x1 x2 x3 x5 thrown0 depth0 history2 state3 = some (r, o_thrown0, o_depth0, o_history2, o_state3) → Wd g A (w_X10_laysReading g h0 h1 h2 h3 v0_1 v0_2 v0_3 v0_4 v0_5 v0_6 v0_7 v0_8 v0_9 v0_11 v0_12 v0_13 v0_14 v0_15 v0_16 v0_17 v0_18 v0_19 v0_20 v0_24 v0_25 v0_26 v0_27 v0_28 v0_29 v0_30 v0_31 v0_32 v0_33 v0_34 v0_35 v0_36 v0_37 thrown0 depth0 basic1 history2 state3) s.heap H locs → lv_has ls 7 [(0, .ref h0), (1, .int x1), (2, .int x2), (3, .int x3), (5, .int x5)] → W p l e (rml 3 0 0) s m args below meth c H locs 0 0 Q (F0 m 34 ls []) := by
    intro x1 x2 x3 x5 thrown0 depth0 history2 state3 H locs ls hf w hl
    unfold f_X10_laysReading_b34 at hf
    refine lv_aload_n hx hb dX10_laysReading_34 rfl (lv_at hl 0 rfl) ?_
    obtain ⟨o12, o13, hc14, hf⟩ := bd2_some hf
    refine ca_vV C w (wn := fun _ => w_X10_laysReading g h0 h1 h2 h3 v0_1 v0_2 v0_3 v0_4 v0_5 v0_6 v0_7 v0_8 v0_9 v0_11 v0_12 v0_13 v0_14 v0_15 v0_16 v0_17 v0_18 v0_19 v0_20 v0_24 v0_25 v0_26 v0_27 v0_28 v0_29 v0_30 v0_31 v0_32 v0_33 v0_34 v0_35 v0_36 v0_37 thrown0 o12 basic1 o13 state3) (pm_k [true, false, true, true] rfl rfl (fun _ => Nat.le_of_ble_eq_true rfl) (fun _ => rfl)) (c_X10_keep l g F h0 h2 h3 (.int thrown0) v0_1 v0_2 v0_3 v0_4 v0_5 v0_6 v0_7 v0_8 v0_9 (.ref h1) v0_11 v0_12 v0_13 v0_14 v0_15 v0_16 v0_17 v0_18 v0_19 v0_20 v0_24 v0_25 v0_26 v0_27 v0_28 v0_29 v0_30 v0_31 v0_32 v0_33 v0_34 v0_35 v0_36 v0_37 depth0 history2 state3 o12 o13 _ hc14) k_X10_343 (rm_le (by decide) (by decide)) 0 10 rfl rfl rfl rfl hl.1 rfl (Nat.le_of_ble_eq_true rfl) dX10_laysReading_35 ⟨Nat.le_of_ble_eq_true rfl, Nat.le_of_ble_eq_true rfl⟩ (cells2 := 0) (slots2 := 0) ⟨rfl, rfl⟩ (fun _ H locs w => ?_)
    refine lv_aload_n hx hb dX10_laysReading_38 rfl (lv_at hl 0 rfl) ?_
    refine g_X10_44 C w 0 rfl rfl dX10_laysReading_39 ?_
    refine lv_iconst (v := 3) hx hb dX10_laysReading_42 (by decide) ?_
    refine lv_iload_n hx hb dX10_laysReading_43 rfl (lv_at hl 3 rfl) ?_
    obtain ⟨f15, hif15, haf15, hf⟩ := wr_some hf
    refine ias C w 3 rfl hif15 haf15 (ws2 := w_X10_laysReading g h0 h1 h2 h3 v0_1 v0_2 v0_3 v0_4 v0_5 v0_6 v0_7 v0_8 v0_9 v0_11 v0_12 v0_13 v0_14 v0_15 v0_16 v0_17 v0_18 v0_19 v0_20 v0_24 v0_25 v0_26 v0_27 v0_28 v0_29 v0_30 v0_31 v0_32 v0_33 v0_34 v0_35 v0_36 v0_37 thrown0 o12 basic1 o13 f15) rfl dX10_laysReading_44 (fun H locs w => ?_)
    refine lv_iload hx hb dX10_laysReading_45 (lv_at hl 4 rfl) ?_
    refine lv_if_lt (tgt := 53) hx hb dX10_laysReading_47 (by decide) (fun c16 => ?_) (fun c16 => ?_)
    · replace hf := it_t c16 hf
      refine lv_aload_n hx hb dX10_laysReading_53 rfl (lv_at hl 0 rfl) ?_
      refine g_X10_44 C w 0 rfl rfl dX10_laysReading_54 ?_
      refine lv_iconst (v := 0) hx hb dX10_laysReading_57 (by decide) ?_
      obtain ⟨a17, hia17, haa17, hf⟩ := rd_some hf
      refine ial C w 3 rfl hia17 haa17 dX10_laysReading_58 ?_
      refine lv_istore (lv' := [(5, .int a17), (0, .ref h0), (1, .int x1), (2, .int x2), (3, .int x3)]) hx hb dX10_laysReading_59 hl (by decide) rfl (fun ls hl => ?_)
      refine lv_iconst (v := 0) hx hb dX10_laysReading_61 (by decide) ?_
      refine lv_istore (lv' := [(6, .int 0), (5, .int a17), (0, .ref h0), (1, .int x1), (2, .int x2), (3, .int x3)]) hx hb dX10_laysReading_62 hl (by decide) rfl (fun ls hl => ?_)
      exact L64 (x1, x2, x3, a17, 0, thrown0, o12, o13, f15) hf _ _ _ w (lv_sub hl [2, 3, 4, 5, 1, 0] rfl)
    · replace hf := it_f c16 hf
      refine lv_iload hx hb dX10_laysReading_50 (lv_at hl 4 rfl) ?_
      obtain ⟨e1, e2, e3, e4, e5⟩ := tp5 hf
      rw [hQ]
      exact rt_i C w rfl (fun _ => 0) (by rw [← e2, ← e3, ← e4, ← e5]) e1 dX10_laysReading_52
  refine lv_aload_n hx hb dX10_laysReading_0 rfl (lv_at hl 0 rfl) ?_
  refine lv_iload_n hx hb dX10_laysReading_1 rfl (lv_at hl 1 rfl) ?_
  refine lv_iload_n hx hb dX10_laysReading_2 rfl (lv_at hl 2 rfl) ?_
  refine lv_iload_n hx hb dX10_laysReading_3 rfl (lv_at hl 3 rfl) ?_
  refine lv_iload hx hb dX10_laysReading_4 (lv_at hl 4 rfl) ?_
  obtain ⟨r18, hc19, hf⟩ := bd1_some hf
  refine ca_iV C w (wn := fun _ => w_X10_laysReading g h0 h1 h2 h3 v0_1 v0_2 v0_3 v0_4 v0_5 v0_6 v0_7 v0_8 v0_9 v0_11 v0_12 v0_13 v0_14 v0_15 v0_16 v0_17 v0_18 v0_19 v0_20 v0_24 v0_25 v0_26 v0_27 v0_28 v0_29 v0_30 v0_31 v0_32 v0_33 v0_34 v0_35 v0_36 v0_37 thrown0 depth0 basic1 history2 state3) (pm_k [true, true, false, true] rfl rfl (fun _ => Nat.le_of_ble_eq_true rfl) (fun _ => rfl)) (c_X10_joins l g F h0 h1 h3 (.int thrown0) v0_1 v0_2 v0_3 v0_4 v0_5 v0_6 v0_7 v0_8 v0_9 v0_11 v0_12 v0_13 v0_14 v0_15 v0_16 v0_17 v0_18 v0_19 v0_20 (.ref h2) (.int depth0) v0_24 v0_25 v0_26 v0_27 v0_28 v0_29 v0_30 v0_31 v0_32 v0_33 v0_34 v0_35 v0_36 v0_37 p1 p2 p3 p4 basic1 state3 r18 _ hc19) k_X10_339 (rm_le (by decide) (by decide)) 0 10 rfl rfl rfl rfl hl.1 rfl (Nat.le_of_ble_eq_true rfl) dX10_laysReading_6 ⟨Nat.le_of_ble_eq_true rfl, Nat.le_of_ble_eq_true rfl⟩ (cells2 := 0) (slots2 := 0) ⟨rfl, rfl⟩ (fun _ H locs w => ?_)
  refine lv_istore (lv' := [(5, .int r18), (0, .ref h0), (1, .int p1), (2, .int p2), (3, .int p3), (4, .int p4)]) hx hb dX10_laysReading_9 hl (by decide) rfl (fun ls hl => ?_)
  refine lv_iload hx hb dX10_laysReading_11 (lv_at hl 0 rfl) ?_
  refine lv_if_ge (tgt := 34) hx hb dX10_laysReading_13 (by decide) (fun c20 => ?_) (fun c20 => ?_)
  · replace hf := it_t c20 hf
    exact b34 p1 p2 p3 r18 thrown0 depth0 history2 state3 _ _ _ hf w (lv_sub hl [1, 2, 3, 4, 0] rfl)
  · replace hf := it_f c20 hf
    refine lv_aload_n hx hb dX10_laysReading_16 rfl (lv_at hl 1 rfl) ?_
    refine g_X10_44 C w 0 rfl rfl dX10_laysReading_17 ?_
    refine lv_iconst (v := 0) hx hb dX10_laysReading_20 (by decide) ?_
    obtain ⟨a21, hia21, haa21, hf⟩ := rd_some hf
    refine ial C w 3 rfl hia21 haa21 dX10_laysReading_21 ?_
    refine lv_bipush (v := 80) hx hb dX10_laysReading_22 (by decide) ?_
    refine lv_icmp_ne (tgt := 34) hx hb dX10_laysReading_24 (by decide) (fun c22 => ?_) (fun c22 => ?_)
    · replace hf := it_f c22 hf
      exact b34 p1 p2 p3 r18 thrown0 depth0 history2 state3 _ _ _ hf w (lv_sub hl [1, 2, 3, 4, 0] rfl)
    · replace hf := it_t c22 hf
      refine lv_aload_n hx hb dX10_laysReading_27 rfl (lv_at hl 1 rfl) ?_
      refine lv_iconst (v := 2) hx hb dX10_laysReading_28 (by decide) ?_
      refine p_X10_84 C w 0 rfl (Nat.le_of_ble_eq_true rfl) (ws2 := w_X10_laysReading g h0 h1 h2 h3 v0_1 v0_2 v0_3 v0_4 v0_5 v0_6 v0_7 v0_8 v0_9 v0_11 v0_12 v0_13 v0_14 v0_15 v0_16 v0_17 v0_18 v0_19 v0_20 v0_24 v0_25 v0_26 v0_27 v0_28 v0_29 v0_30 v0_31 v0_32 v0_33 v0_34 v0_35 v0_36 v0_37 2 depth0 basic1 history2 state3) rfl dX10_laysReading_29 (fun H locs w => ?_)
      refine lv_iconst (v := -1) hx hb dX10_laysReading_32 (by decide) ?_
      obtain ⟨e1, e2, e3, e4, e5⟩ := tp5 hf
      rw [hQ]
      exact rt_i C w rfl (fun _ => 0) (by rw [← e2, ← e3, ← e4, ← e5]) e1 dX10_laysReading_33

theorem dX10_readTag_0 : decode cX10_readTag 0 = .ok (.aload_n 0, 1) := by decide +kernel
theorem dX10_readTag_1 : decode cX10_readTag 1 = .ok (.iconst 0, 1) := by decide +kernel
theorem dX10_readTag_2 : decode cX10_readTag 2 = .ok (.putfield 84, 3) := by decide +kernel
theorem dX10_readTag_5 : decode cX10_readTag 5 = .ok (.aload_n 0, 1) := by decide +kernel
theorem dX10_readTag_6 : decode cX10_readTag 6 = .ok (.iload_n 1, 1) := by decide +kernel
theorem dX10_readTag_7 : decode cX10_readTag 7 = .ok (.iload_n 2, 1) := by decide +kernel
theorem dX10_readTag_8 : decode cX10_readTag 8 = .ok (.iload_n 3, 1) := by decide +kernel
theorem dX10_readTag_9 : decode cX10_readTag 9 = .ok (.invokevirtual 350, 3) := by decide +kernel
theorem dX10_readTag_12 : decode cX10_readTag 12 = .ok (.ifCond .eq 22, 3) := by decide +kernel
theorem dX10_readTag_15 : decode cX10_readTag 15 = .ok (.iload 4, 2) := by decide +kernel
theorem dX10_readTag_17 : decode cX10_readTag 17 = .ok (.i2l, 1) := by decide +kernel
theorem dX10_readTag_18 : decode cX10_readTag 18 = .ok (.lconst 0, 1) := by decide +kernel
theorem dX10_readTag_19 : decode cX10_readTag 19 = .ok (.aload_n 0, 1) := by decide +kernel
theorem dX10_readTag_20 : decode cX10_readTag 20 = .ok (.getfield 13, 3) := by decide +kernel
theorem dX10_readTag_23 : decode cX10_readTag 23 = .ok (.iconst 3, 1) := by decide +kernel
theorem dX10_readTag_24 : decode cX10_readTag 24 = .ok (.iaload, 1) := by decide +kernel
theorem dX10_readTag_25 : decode cX10_readTag 25 = .ok (.iconst 1, 1) := by decide +kernel
theorem dX10_readTag_26 : decode cX10_readTag 26 = .ok (.isub, 1) := by decide +kernel
theorem dX10_readTag_27 : decode cX10_readTag 27 = .ok (.i2l, 1) := by decide +kernel
theorem dX10_readTag_28 : decode cX10_readTag 28 = .ok (.invokestatic 115, 3) := by decide +kernel
theorem dX10_readTag_31 : decode cX10_readTag 31 = .ok (.ifCond .ne 9, 3) := by decide +kernel
theorem dX10_readTag_34 : decode cX10_readTag 34 = .ok (.aload_n 0, 1) := by decide +kernel
theorem dX10_readTag_35 : decode cX10_readTag 35 = .ok (.iconst 1, 1) := by decide +kernel
theorem dX10_readTag_36 : decode cX10_readTag 36 = .ok (.invokevirtual 202, 3) := by decide +kernel
theorem dX10_readTag_39 : decode cX10_readTag 39 = .ok (.ireturn, 1) := by decide +kernel
theorem dX10_readTag_40 : decode cX10_readTag 40 = .ok (.aload_n 0, 1) := by decide +kernel
theorem dX10_readTag_41 : decode cX10_readTag 41 = .ok (.iload_n 1, 1) := by decide +kernel
theorem dX10_readTag_42 : decode cX10_readTag 42 = .ok (.iload_n 2, 1) := by decide +kernel
theorem dX10_readTag_43 : decode cX10_readTag 43 = .ok (.iload_n 3, 1) := by decide +kernel
theorem dX10_readTag_44 : decode cX10_readTag 44 = .ok (.iload 4, 2) := by decide +kernel
theorem dX10_readTag_46 : decode cX10_readTag 46 = .ok (.invokevirtual 353, 3) := by decide +kernel
theorem dX10_readTag_49 : decode cX10_readTag 49 = .ok (.istore 5, 2) := by decide +kernel
theorem dX10_readTag_51 : decode cX10_readTag 51 = .ok (.iload 5, 2) := by decide +kernel
theorem dX10_readTag_53 : decode cX10_readTag 53 = .ok (.ifCond .ge 5, 3) := by decide +kernel
theorem dX10_readTag_56 : decode cX10_readTag 56 = .ok (.iconst 0, 1) := by decide +kernel
theorem dX10_readTag_57 : decode cX10_readTag 57 = .ok (.ireturn, 1) := by decide +kernel
theorem dX10_readTag_58 : decode cX10_readTag 58 = .ok (.aload_n 0, 1) := by decide +kernel
theorem dX10_readTag_59 : decode cX10_readTag 59 = .ok (.iload 5, 2) := by decide +kernel
theorem dX10_readTag_61 : decode cX10_readTag 61 = .ok (.iconst 4, 1) := by decide +kernel
theorem dX10_readTag_62 : decode cX10_readTag 62 = .ok (.iload 4, 2) := by decide +kernel
theorem dX10_readTag_64 : decode cX10_readTag 64 = .ok (.iconst 1, 1) := by decide +kernel
theorem dX10_readTag_65 : decode cX10_readTag 65 = .ok (.iadd, 1) := by decide +kernel
theorem dX10_readTag_66 : decode cX10_readTag 66 = .ok (.invokevirtual 346, 3) := by decide +kernel
theorem dX10_readTag_69 : decode cX10_readTag 69 = .ok (.iload 5, 2) := by decide +kernel
theorem dX10_readTag_71 : decode cX10_readTag 71 = .ok (.ireturn, 1) := by decide +kernel
abbrev m_X10_readTag : MD := (yX10_readTag, cX10_readTag, 6, (some .int))
theorem q_1699 : Cond.code yX10_isReading cX10_isReading 4 (some .boolean) ∈ TS := ts_t 1699 (by decide +kernel) (by decide +kernel)
theorem q_1696 : Cond.methodLink RX10 350 yX10_isReading ∈ TS := ts_t 1696 (by decide +kernel) (by decide +kernel)
theorem q_1698 : Cond.instanceMethod yX10_isReading ∈ TS := ts_t 1698 (by decide +kernel) (by decide +kernel)
theorem qs_130 : Cond.selects yX10_isReading.cls yX10_isReading yX10_isReading ∈ TS := ts_s 130 (by decide +kernel) (by decide +kernel)
theorem k_X10_350 : LkV RX10 350 m_X10_isReading 3 := ⟨q_1696, q_1698, qs_130, ⟨q_11, q_1699, by decide, by decide, by decide +kernel⟩⟩
theorem q_1704 : Cond.code yX10_laysReading cX10_laysReading 7 (some .int) ∈ TS := ts_t 1704 (by decide +kernel) (by decide +kernel)
theorem q_1701 : Cond.methodLink RX10 353 yX10_laysReading ∈ TS := ts_t 1701 (by decide +kernel) (by decide +kernel)
theorem q_1703 : Cond.instanceMethod yX10_laysReading ∈ TS := ts_t 1703 (by decide +kernel) (by decide +kernel)
theorem qs_131 : Cond.selects yX10_laysReading.cls yX10_laysReading yX10_laysReading ∈ TS := ts_s 131 (by decide +kernel) (by decide +kernel)
theorem k_X10_353 : LkV RX10 353 m_X10_laysReading 4 := ⟨q_1701, q_1703, qs_131, ⟨q_11, q_1704, by decide, by decide, by decide +kernel⟩⟩
abbrev w_X10_readTag (g : GT) (h0 h1 h2 h3 : Nat) (v0_1 v0_2 v0_3 v0_4 v0_5 v0_6 v0_7 v0_8 v0_9 v0_11 v0_12 v0_13 v0_14 v0_15 v0_16 v0_17 v0_18 v0_19 v0_20 v0_24 v0_25 v0_26 v0_27 v0_28 v0_29 v0_30 v0_31 v0_32 v0_33 v0_34 v0_35 v0_36 v0_37 : Value) (thrown0 depth0 : Int32) (basic1 history2 state3 : Nat → Int32) : va_W := [(h0, .inr (10, [.int thrown0, v0_1, v0_2, v0_3, v0_4, v0_5, v0_6, v0_7, v0_8, v0_9, .ref h1, v0_11, v0_12, v0_13, v0_14, v0_15, v0_16, v0_17, v0_18, v0_19, v0_20, .ref h3, .ref h2, .int depth0, v0_24, v0_25, v0_26, v0_27, v0_28, v0_29, v0_30, v0_31, v0_32, v0_33, v0_34, v0_35, v0_36, v0_37])), (h1, aI g 7 basic1), (h2, aI g 25240 history2), (h3, aI g 2524 state3)]
def f_X10_readTag_b34 (F : Nat) (basic1 : Nat → Int32) (thrown0 depth0 : Int32) (history2 state3 : Nat → Int32) : Option (Int32 × Int32 × Int32 × (Nat → Int32) × (Nat → Int32)) :=
  bd2 (f_X10_fail F 1 thrown0) fun r1 o2 =>
  some (r1, o2, depth0, history2, state3)
def f_X10_readTag (F : Nat) (p1 p2 p3 p4 thrown0 depth0 : Int32) (basic1 history2 state3 : Nat → Int32) : Option (Int32 × Int32 × Int32 × (Nat → Int32) × (Nat → Int32)) :=
  bd1 (f_X10_isReading F p1 p2 p3 basic1 state3) fun r4 =>
  if r4 = 0 then
    f_X10_readTag_b34 F basic1 0 depth0 history2 state3
  else
    rd basic1 7 3 fun a7 =>
    bd1 (f_X10_within F p4.toInt64 0 ((a7 - 1).toInt64)) fun r8 =>
    if r8 = 0 then
      f_X10_readTag_b34 F basic1 0 depth0 history2 state3
    else
      bd5 (f_X10_laysReading F p1 p2 p3 p4 0 depth0 basic1 history2 state3) fun r11 o12 o13 o14 o15 =>
      if 0 ≤ r11 then
        bd1 (f_X10_setPassage F r11 4 (p4 + 1) o15) fun o18 =>
        some (r11, o12, o13, o14, o18)
      else
        some (0, o12, o13, o14, o15)
set_option maxHeartbeats 4000000 in
set_option maxRecDepth 100000 in
theorem c_X10_readTag (l : Launch) (g : GT) (F : Nat) (h0 h1 h2 h3 : Nat) (v0_1 v0_2 v0_3 v0_4 v0_5 v0_6 v0_7 v0_8 v0_9 v0_11 v0_12 v0_13 v0_14 v0_15 v0_16 v0_17 v0_18 v0_19 v0_20 v0_24 v0_25 v0_26 v0_27 v0_28 v0_29 v0_30 v0_31 v0_32 v0_33 v0_34 v0_35 v0_36 v0_37 : Value) (p1 p2 p3 p4 thrown0 depth0 : Int32) (basic1 history2 state3 : Nat → Int32) (r o_thrown0 o_depth0 : Int32) (o_history2 o_state3 : Nat → Int32) (sz : Nat) (hf : f_X10_readTag F p1 p2 p3 p4 thrown0 depth0 basic1 history2 state3 = some (r, o_thrown0, o_depth0, o_history2, o_state3)) : CI l m_X10_readTag (rml 4 0 0) g (w_X10_readTag g h0 h1 h2 h3 v0_1 v0_2 v0_3 v0_4 v0_5 v0_6 v0_7 v0_8 v0_9 v0_11 v0_12 v0_13 v0_14 v0_15 v0_16 v0_17 v0_18 v0_19 v0_20 v0_24 v0_25 v0_26 v0_27 v0_28 v0_29 v0_30 v0_31 v0_32 v0_33 v0_34 v0_35 v0_36 v0_37 thrown0 depth0 basic1 history2 state3) (fun _ => w_X10_readTag g h0 h1 h2 h3 v0_1 v0_2 v0_3 v0_4 v0_5 v0_6 v0_7 v0_8 v0_9 v0_11 v0_12 v0_13 v0_14 v0_15 v0_16 v0_17 v0_18 v0_19 v0_20 v0_24 v0_25 v0_26 v0_27 v0_28 v0_29 v0_30 v0_31 v0_32 v0_33 v0_34 v0_35 v0_36 v0_37 o_thrown0 o_depth0 basic1 o_history2 o_state3) sz [.ref h0, .int p1, .int p2, .int p3, .int p4] r := by
  refine en_i (by decide) (Nat.le_of_ble_eq_true rfl) (fun p e s m args below meth c A ls C w hl => ?_)
  have C : Cx p s m args meth c RX10 m_X10_readTag g A := C
  have hx := C.1
  have hb : c.code = cX10_readTag := C.2.1
  have hl : lv_has ls 6 [(0, .ref h0), (1, .int p1), (2, .int p2), (3, .int p3), (4, .int p4)] := hl
  obtain ⟨Q, hQ⟩ : ∃ Q, Q = QI below args s g A (fun _ => w_X10_readTag g h0 h1 h2 h3 v0_1 v0_2 v0_3 v0_4 v0_5 v0_6 v0_7 v0_8 v0_9 v0_11 v0_12 v0_13 v0_14 v0_15 v0_16 v0_17 v0_18 v0_19 v0_20 v0_24 v0_25 v0_26 v0_27 v0_28 v0_29 v0_30 v0_31 v0_32 v0_33 v0_34 v0_35 v0_36 v0_37 o_thrown0 o_depth0 basic1 o_history2 o_state3) r 0 0 := ⟨_, rfl⟩
  suffices hW : W p l e (rml 4 0 0) s m args below meth c s.heap [] 0 0 Q (F0 m 0 ls []) from (by rw [hQ] at hW; exact hW)
  unfold f_X10_readTag at hf
  have b34 : ∀ (thrown0 depth0 : Int32) (history2 state3 : Nat → Int32) (H : Heap) (locs : List Loc) (ls : Array Slot), f_X10_readTag_b34 F basic1 thrown0 depth0 history2 state3 = some (r, o_thrown0, o_depth0, o_history2, o_state3) → Wd g A (w_X10_readTag g h0 h1 h2 h3 v0_1 v0_2 v0_3 v0_4 v0_5 v0_6 v0_7 v0_8 v0_9 v0_11 v0_12 v0_13 v0_14 v0_15 v0_16 v0_17 v0_18 v0_19 v0_20 v0_24 v0_25 v0_26 v0_27 v0_28 v0_29 v0_30 v0_31 v0_32 v0_33 v0_34 v0_35 v0_36 v0_37 thrown0 depth0 basic1 history2 state3) s.heap H locs → lv_has ls 6 [(0, .ref h0)] → W p l e (rml 4 0 0) s m args below meth c H locs 0 0 Q (F0 m 34 ls []) := by
    intro thrown0 depth0 history2 state3 H locs ls hf w hl
    unfold f_X10_readTag_b34 at hf
    refine lv_aload_n hx hb dX10_readTag_34 rfl (lv_at hl 0 rfl) ?_
    refine lv_iconst (v := 1) hx hb dX10_readTag_35 (by decide) ?_
    obtain ⟨r1, o2, hc3, hf⟩ := bd2_some hf
    refine ca_iV C w (wn := fun _ => w_X10_readTag g h0 h1 h2 h3 v0_1 v0_2 v0_3 v0_4 v0_5 v0_6 v0_7 v0_8 v0_9 v0_11 v0_12 v0_13 v0_14 v0_15 v0_16 v0_17 v0_18 v0_19 v0_20 v0_24 v0_25 v0_26 v0_27 v0_28 v0_29 v0_30 v0_31 v0_32 v0_33 v0_34 v0_35 v0_36 v0_37 o2 depth0 basic1 history2 state3) (pm_k [true, false, false, false] rfl rfl (fun _ => Nat.le_of_ble_eq_true rfl) (fun _ => rfl)) (c_X10_fail l g F h0 v0_1 v0_2 v0_3 v0_4 v0_5 v0_6 v0_7 v0_8 v0_9 (.ref h1) v0_11 v0_12 v0_13 v0_14 v0_15 v0_16 v0_17 v0_18 v0_19 v0_20 (.ref h3) (.ref h2) (.int depth0) v0_24 v0_25 v0_26 v0_27 v0_28 v0_29 v0_30 v0_31 v0_32 v0_33 v0_34 v0_35 v0_36 v0_37 1 thrown0 r1 o2 _ hc3) k_X10_202 (rm_le (by decide) (by decide)) 0 10 rfl rfl rfl rfl hl.1 rfl (Nat.le_of_ble_eq_true rfl) dX10_readTag_36 ⟨Nat.le_of_ble_eq_true rfl, Nat.le_of_ble_eq_true rfl⟩ (cells2 := 0) (slots2 := 0) ⟨rfl, rfl⟩ (fun _ H locs w => ?_)
    obtain ⟨e1, e2, e3, e4, e5⟩ := tp5 hf
    rw [hQ]
    exact rt_i C w rfl (fun _ => 0) (by rw [← e2, ← e3, ← e4, ← e5]) e1 dX10_readTag_39
  refine lv_aload_n hx hb dX10_readTag_0 rfl (lv_at hl 0 rfl) ?_
  refine lv_iconst (v := 0) hx hb dX10_readTag_1 (by decide) ?_
  refine p_X10_84 C w 0 rfl (Nat.le_of_ble_eq_true rfl) (ws2 := w_X10_readTag g h0 h1 h2 h3 v0_1 v0_2 v0_3 v0_4 v0_5 v0_6 v0_7 v0_8 v0_9 v0_11 v0_12 v0_13 v0_14 v0_15 v0_16 v0_17 v0_18 v0_19 v0_20 v0_24 v0_25 v0_26 v0_27 v0_28 v0_29 v0_30 v0_31 v0_32 v0_33 v0_34 v0_35 v0_36 v0_37 0 depth0 basic1 history2 state3) rfl dX10_readTag_2 (fun H locs w => ?_)
  refine lv_aload_n hx hb dX10_readTag_5 rfl (lv_at hl 0 rfl) ?_
  refine lv_iload_n hx hb dX10_readTag_6 rfl (lv_at hl 1 rfl) ?_
  refine lv_iload_n hx hb dX10_readTag_7 rfl (lv_at hl 2 rfl) ?_
  refine lv_iload_n hx hb dX10_readTag_8 rfl (lv_at hl 3 rfl) ?_
  obtain ⟨r4, hc5, hf⟩ := bd1_some hf
  refine ca_iV C w (wn := fun _ => w_X10_readTag g h0 h1 h2 h3 v0_1 v0_2 v0_3 v0_4 v0_5 v0_6 v0_7 v0_8 v0_9 v0_11 v0_12 v0_13 v0_14 v0_15 v0_16 v0_17 v0_18 v0_19 v0_20 v0_24 v0_25 v0_26 v0_27 v0_28 v0_29 v0_30 v0_31 v0_32 v0_33 v0_34 v0_35 v0_36 v0_37 0 depth0 basic1 history2 state3) (pm_k [true, true, false, true] rfl rfl (fun _ => Nat.le_of_ble_eq_true rfl) (fun _ => rfl)) (c_X10_isReading l g F h0 h1 h3 (.int 0) v0_1 v0_2 v0_3 v0_4 v0_5 v0_6 v0_7 v0_8 v0_9 v0_11 v0_12 v0_13 v0_14 v0_15 v0_16 v0_17 v0_18 v0_19 v0_20 (.ref h2) (.int depth0) v0_24 v0_25 v0_26 v0_27 v0_28 v0_29 v0_30 v0_31 v0_32 v0_33 v0_34 v0_35 v0_36 v0_37 p1 p2 p3 basic1 state3 r4 _ hc5) k_X10_350 (rm_le (by decide) (by decide)) 0 10 rfl rfl rfl rfl hl.1 rfl (Nat.le_of_ble_eq_true rfl) dX10_readTag_9 ⟨Nat.le_of_ble_eq_true rfl, Nat.le_of_ble_eq_true rfl⟩ (cells2 := 0) (slots2 := 0) ⟨rfl, rfl⟩ (fun _ H locs w => ?_)
  refine lv_if_eq (tgt := 34) hx hb dX10_readTag_12 (by decide) (fun c6 => ?_) (fun c6 => ?_)
  · replace hf := it_t c6 hf
    exact b34 0 depth0 history2 state3 _ _ _ hf w (lv_sub hl [0] rfl)
  · replace hf := it_f c6 hf
    refine lv_iload hx hb dX10_readTag_15 (lv_at hl 4 rfl) ?_
    refine lv_i2l (v := p4.toInt64) hx hb dX10_readTag_17 rfl ?_
    refine lv_lconst (v := 0) hx hb dX10_readTag_18 (by decide) ?_
    refine lv_aload_n hx hb dX10_readTag_19 rfl (lv_at hl 0 rfl) ?_
    refine g_X10_13 C w 0 rfl rfl dX10_readTag_20 ?_
    refine lv_iconst (v := 3) hx hb dX10_readTag_23 (by decide) ?_
    obtain ⟨a7, hia7, haa7, hf⟩ := rd_some hf
    refine ial C w 1 rfl hia7 haa7 dX10_readTag_24 ?_
    refine lv_iconst (v := 1) hx hb dX10_readTag_25 (by decide) ?_
    refine lv_isub hx hb dX10_readTag_26 ?_
    refine lv_i2l (v := (a7 - 1).toInt64) hx hb dX10_readTag_27 rfl ?_
    obtain ⟨r8, hc9, hf⟩ := bd1_some hf
    refine ca_iS C w (wn := fun _ => w_X10_readTag g h0 h1 h2 h3 v0_1 v0_2 v0_3 v0_4 v0_5 v0_6 v0_7 v0_8 v0_9 v0_11 v0_12 v0_13 v0_14 v0_15 v0_16 v0_17 v0_18 v0_19 v0_20 v0_24 v0_25 v0_26 v0_27 v0_28 v0_29 v0_30 v0_31 v0_32 v0_33 v0_34 v0_35 v0_36 v0_37 0 depth0 basic1 history2 state3) (pm_k [false, false, false, false] rfl rfl (fun _ => Nat.le_of_ble_eq_true rfl) (fun _ => rfl)) (c_X10_within l g F p4.toInt64 0 ((a7 - 1).toInt64) r8 _ hc9) k_X10_115 (rm_le (by decide) (by decide)) rfl hl.1 rfl (Nat.le_of_ble_eq_true rfl) dX10_readTag_28 ⟨Nat.le_of_ble_eq_true rfl, Nat.le_of_ble_eq_true rfl⟩ (cells2 := 0) (slots2 := 0) ⟨rfl, rfl⟩ (fun _ H locs w => ?_)
    refine lv_if_ne (tgt := 40) hx hb dX10_readTag_31 (by decide) (fun c10 => ?_) (fun c10 => ?_)
    · replace hf := it_f c10 hf
      refine lv_aload_n hx hb dX10_readTag_40 rfl (lv_at hl 0 rfl) ?_
      refine lv_iload_n hx hb dX10_readTag_41 rfl (lv_at hl 1 rfl) ?_
      refine lv_iload_n hx hb dX10_readTag_42 rfl (lv_at hl 2 rfl) ?_
      refine lv_iload_n hx hb dX10_readTag_43 rfl (lv_at hl 3 rfl) ?_
      refine lv_iload hx hb dX10_readTag_44 (lv_at hl 4 rfl) ?_
      obtain ⟨r11, o12, o13, o14, o15, hc16, hf⟩ := bd5_some hf
      refine ca_iV C w (wn := fun _ => w_X10_readTag g h0 h1 h2 h3 v0_1 v0_2 v0_3 v0_4 v0_5 v0_6 v0_7 v0_8 v0_9 v0_11 v0_12 v0_13 v0_14 v0_15 v0_16 v0_17 v0_18 v0_19 v0_20 v0_24 v0_25 v0_26 v0_27 v0_28 v0_29 v0_30 v0_31 v0_32 v0_33 v0_34 v0_35 v0_36 v0_37 o12 o13 basic1 o14 o15) (pm_k [true, true, true, true] rfl rfl (fun _ => Nat.le_of_ble_eq_true rfl) (fun _ => rfl)) (c_X10_laysReading l g F h0 h1 h2 h3 v0_1 v0_2 v0_3 v0_4 v0_5 v0_6 v0_7 v0_8 v0_9 v0_11 v0_12 v0_13 v0_14 v0_15 v0_16 v0_17 v0_18 v0_19 v0_20 v0_24 v0_25 v0_26 v0_27 v0_28 v0_29 v0_30 v0_31 v0_32 v0_33 v0_34 v0_35 v0_36 v0_37 p1 p2 p3 p4 0 depth0 basic1 history2 state3 r11 o12 o13 o14 o15 _ hc16) k_X10_353 (rm_le (by decide) (by decide)) 0 10 rfl rfl rfl rfl hl.1 rfl (Nat.le_of_ble_eq_true rfl) dX10_readTag_46 ⟨Nat.le_of_ble_eq_true rfl, Nat.le_of_ble_eq_true rfl⟩ (cells2 := 0) (slots2 := 0) ⟨rfl, rfl⟩ (fun _ H locs w => ?_)
      refine lv_istore (lv' := [(5, .int r11), (0, .ref h0), (1, .int p1), (2, .int p2), (3, .int p3), (4, .int p4)]) hx hb dX10_readTag_49 hl (by decide) rfl (fun ls hl => ?_)
      refine lv_iload hx hb dX10_readTag_51 (lv_at hl 0 rfl) ?_
      refine lv_if_ge (tgt := 58) hx hb dX10_readTag_53 (by decide) (fun c17 => ?_) (fun c17 => ?_)
      · replace hf := it_t c17 hf
        refine lv_aload_n hx hb dX10_readTag_58 rfl (lv_at hl 1 rfl) ?_
        refine lv_iload hx hb dX10_readTag_59 (lv_at hl 0 rfl) ?_
        refine lv_iconst (v := 4) hx hb dX10_readTag_61 (by decide) ?_
        refine lv_iload hx hb dX10_readTag_62 (lv_at hl 5 rfl) ?_
        refine lv_iconst (v := 1) hx hb dX10_readTag_64 (by decide) ?_
        refine lv_iadd hx hb dX10_readTag_65 ?_
        obtain ⟨o18, hc19, hf⟩ := bd1_some hf
        refine ca_vV C w (wn := fun _ => w_X10_readTag g h0 h1 h2 h3 v0_1 v0_2 v0_3 v0_4 v0_5 v0_6 v0_7 v0_8 v0_9 v0_11 v0_12 v0_13 v0_14 v0_15 v0_16 v0_17 v0_18 v0_19 v0_20 v0_24 v0_25 v0_26 v0_27 v0_28 v0_29 v0_30 v0_31 v0_32 v0_33 v0_34 v0_35 v0_36 v0_37 o12 o13 basic1 o14 o18) (pm_k [true, false, false, true] rfl rfl (fun _ => Nat.le_of_ble_eq_true rfl) (fun _ => rfl)) (c_X10_setPassage l g F h0 h3 (.int o12) v0_1 v0_2 v0_3 v0_4 v0_5 v0_6 v0_7 v0_8 v0_9 (.ref h1) v0_11 v0_12 v0_13 v0_14 v0_15 v0_16 v0_17 v0_18 v0_19 v0_20 (.ref h2) (.int o13) v0_24 v0_25 v0_26 v0_27 v0_28 v0_29 v0_30 v0_31 v0_32 v0_33 v0_34 v0_35 v0_36 v0_37 r11 4 (p4 + 1) o15 o18 _ hc19) k_X10_346 (rm_le (by decide) (by decide)) 0 10 rfl rfl rfl rfl hl.1 rfl (Nat.le_of_ble_eq_true rfl) dX10_readTag_66 ⟨Nat.le_of_ble_eq_true rfl, Nat.le_of_ble_eq_true rfl⟩ (cells2 := 0) (slots2 := 0) ⟨rfl, rfl⟩ (fun _ H locs w => ?_)
        refine lv_iload hx hb dX10_readTag_69 (lv_at hl 0 rfl) ?_
        obtain ⟨e1, e2, e3, e4, e5⟩ := tp5 hf
        rw [hQ]
        exact rt_i C w rfl (fun _ => 0) (by rw [← e2, ← e3, ← e4, ← e5]) e1 dX10_readTag_71
      · replace hf := it_f c17 hf
        refine lv_iconst (v := 0) hx hb dX10_readTag_56 (by decide) ?_
        obtain ⟨e1, e2, e3, e4, e5⟩ := tp5 hf
        rw [hQ]
        exact rt_i C w rfl (fun _ => 0) (by rw [← e2, ← e3, ← e4, ← e5]) e1 dX10_readTag_57
    · replace hf := it_t c10 hf
      exact b34 0 depth0 history2 state3 _ _ _ hf w (lv_sub hl [0] rfl)

theorem dX10_votesFor_0 : decode cX10_votesFor 0 = .ok (.aload_n 0, 1) := by decide +kernel
theorem dX10_votesFor_1 : decode cX10_votesFor 1 = .ok (.iload_n 1, 1) := by decide +kernel
theorem dX10_votesFor_2 : decode cX10_votesFor 2 = .ok (.iconst 5, 1) := by decide +kernel
theorem dX10_votesFor_3 : decode cX10_votesFor 3 = .ok (.invokevirtual 250, 3) := by decide +kernel
theorem dX10_votesFor_6 : decode cX10_votesFor 6 = .ok (.istore 4, 2) := by decide +kernel
theorem dX10_votesFor_8 : decode cX10_votesFor 8 = .ok (.iconst 0, 1) := by decide +kernel
theorem dX10_votesFor_9 : decode cX10_votesFor 9 = .ok (.istore 5, 2) := by decide +kernel
theorem dX10_votesFor_11 : decode cX10_votesFor 11 = .ok (.iload 5, 2) := by decide +kernel
theorem dX10_votesFor_13 : decode cX10_votesFor 13 = .ok (.iload 4, 2) := by decide +kernel
theorem dX10_votesFor_15 : decode cX10_votesFor 15 = .ok (.if_icmp .ge 49, 3) := by decide +kernel
theorem dX10_votesFor_18 : decode cX10_votesFor 18 = .ok (.aload_n 0, 1) := by decide +kernel
theorem dX10_votesFor_19 : decode cX10_votesFor 19 = .ok (.iload_n 1, 1) := by decide +kernel
theorem dX10_votesFor_20 : decode cX10_votesFor 20 = .ok (.bipush 6, 2) := by decide +kernel
theorem dX10_votesFor_22 : decode cX10_votesFor 22 = .ok (.iload 5, 2) := by decide +kernel
theorem dX10_votesFor_24 : decode cX10_votesFor 24 = .ok (.iadd, 1) := by decide +kernel
theorem dX10_votesFor_25 : decode cX10_votesFor 25 = .ok (.invokevirtual 250, 3) := by decide +kernel
theorem dX10_votesFor_28 : decode cX10_votesFor 28 = .ok (.iload_n 2, 1) := by decide +kernel
theorem dX10_votesFor_29 : decode cX10_votesFor 29 = .ok (.if_icmp .eq 6, 3) := by decide +kernel
theorem dX10_votesFor_32 : decode cX10_votesFor 32 = .ok (.goto 26, 3) := by decide +kernel
theorem dX10_votesFor_35 : decode cX10_votesFor 35 = .ok (.aload_n 0, 1) := by decide +kernel
theorem dX10_votesFor_36 : decode cX10_votesFor 36 = .ok (.iload_n 1, 1) := by decide +kernel
theorem dX10_votesFor_37 : decode cX10_votesFor 37 = .ok (.bipush 10, 2) := by decide +kernel
theorem dX10_votesFor_39 : decode cX10_votesFor 39 = .ok (.iload 5, 2) := by decide +kernel
theorem dX10_votesFor_41 : decode cX10_votesFor 41 = .ok (.iadd, 1) := by decide +kernel
theorem dX10_votesFor_42 : decode cX10_votesFor 42 = .ok (.aload_n 0, 1) := by decide +kernel
theorem dX10_votesFor_43 : decode cX10_votesFor 43 = .ok (.iload_n 1, 1) := by decide +kernel
theorem dX10_votesFor_44 : decode cX10_votesFor 44 = .ok (.bipush 10, 2) := by decide +kernel
theorem dX10_votesFor_46 : decode cX10_votesFor 46 = .ok (.iload 5, 2) := by decide +kernel
theorem dX10_votesFor_48 : decode cX10_votesFor 48 = .ok (.iadd, 1) := by decide +kernel
theorem dX10_votesFor_49 : decode cX10_votesFor 49 = .ok (.invokevirtual 250, 3) := by decide +kernel
theorem dX10_votesFor_52 : decode cX10_votesFor 52 = .ok (.iload_n 3, 1) := by decide +kernel
theorem dX10_votesFor_53 : decode cX10_votesFor 53 = .ok (.iadd, 1) := by decide +kernel
theorem dX10_votesFor_54 : decode cX10_votesFor 54 = .ok (.invokevirtual 346, 3) := by decide +kernel
theorem dX10_votesFor_57 : decode cX10_votesFor 57 = .ok (.return_, 1) := by decide +kernel
theorem dX10_votesFor_58 : decode cX10_votesFor 58 = .ok (.iinc 5 1, 3) := by decide +kernel
theorem dX10_votesFor_61 : decode cX10_votesFor 61 = .ok (.goto (-50), 3) := by decide +kernel
theorem dX10_votesFor_64 : decode cX10_votesFor 64 = .ok (.iload 4, 2) := by decide +kernel
theorem dX10_votesFor_66 : decode cX10_votesFor 66 = .ok (.iconst 4, 1) := by decide +kernel
theorem dX10_votesFor_67 : decode cX10_votesFor 67 = .ok (.if_icmp .ne 4, 3) := by decide +kernel
theorem dX10_votesFor_70 : decode cX10_votesFor 70 = .ok (.return_, 1) := by decide +kernel
theorem dX10_votesFor_71 : decode cX10_votesFor 71 = .ok (.aload_n 0, 1) := by decide +kernel
theorem dX10_votesFor_72 : decode cX10_votesFor 72 = .ok (.iload_n 1, 1) := by decide +kernel
theorem dX10_votesFor_73 : decode cX10_votesFor 73 = .ok (.bipush 6, 2) := by decide +kernel
theorem dX10_votesFor_75 : decode cX10_votesFor 75 = .ok (.iload 4, 2) := by decide +kernel
theorem dX10_votesFor_77 : decode cX10_votesFor 77 = .ok (.iadd, 1) := by decide +kernel
theorem dX10_votesFor_78 : decode cX10_votesFor 78 = .ok (.iload_n 2, 1) := by decide +kernel
theorem dX10_votesFor_79 : decode cX10_votesFor 79 = .ok (.invokevirtual 346, 3) := by decide +kernel
theorem dX10_votesFor_82 : decode cX10_votesFor 82 = .ok (.aload_n 0, 1) := by decide +kernel
theorem dX10_votesFor_83 : decode cX10_votesFor 83 = .ok (.iload_n 1, 1) := by decide +kernel
theorem dX10_votesFor_84 : decode cX10_votesFor 84 = .ok (.bipush 10, 2) := by decide +kernel
theorem dX10_votesFor_86 : decode cX10_votesFor 86 = .ok (.iload 4, 2) := by decide +kernel
theorem dX10_votesFor_88 : decode cX10_votesFor 88 = .ok (.iadd, 1) := by decide +kernel
theorem dX10_votesFor_89 : decode cX10_votesFor 89 = .ok (.iload_n 3, 1) := by decide +kernel
theorem dX10_votesFor_90 : decode cX10_votesFor 90 = .ok (.invokevirtual 346, 3) := by decide +kernel
theorem dX10_votesFor_93 : decode cX10_votesFor 93 = .ok (.aload_n 0, 1) := by decide +kernel
theorem dX10_votesFor_94 : decode cX10_votesFor 94 = .ok (.iload_n 1, 1) := by decide +kernel
theorem dX10_votesFor_95 : decode cX10_votesFor 95 = .ok (.iconst 5, 1) := by decide +kernel
theorem dX10_votesFor_96 : decode cX10_votesFor 96 = .ok (.iload 4, 2) := by decide +kernel
theorem dX10_votesFor_98 : decode cX10_votesFor 98 = .ok (.iconst 1, 1) := by decide +kernel
theorem dX10_votesFor_99 : decode cX10_votesFor 99 = .ok (.iadd, 1) := by decide +kernel
theorem dX10_votesFor_100 : decode cX10_votesFor 100 = .ok (.invokevirtual 346, 3) := by decide +kernel
theorem dX10_votesFor_103 : decode cX10_votesFor 103 = .ok (.return_, 1) := by decide +kernel
abbrev m_X10_votesFor : MD := (yX10_votesFor, cX10_votesFor, 6, none)

abbrev w_X10_votesFor (g : GT) (h0 h1 : Nat) (v0_0 v0_1 v0_2 v0_3 v0_4 v0_5 v0_6 v0_7 v0_8 v0_9 v0_10 v0_11 v0_12 v0_13 v0_14 v0_15 v0_16 v0_17 v0_18 v0_19 v0_20 v0_22 v0_23 v0_24 v0_25 v0_26 v0_27 v0_28 v0_29 v0_30 v0_31 v0_32 v0_33 v0_34 v0_35 v0_36 v0_37 : Value) (state1 : Nat → Int32) : va_W := [(h0, .inr (10, [v0_0, v0_1, v0_2, v0_3, v0_4, v0_5, v0_6, v0_7, v0_8, v0_9, v0_10, v0_11, v0_12, v0_13, v0_14, v0_15, v0_16, v0_17, v0_18, v0_19, v0_20, .ref h1, v0_22, v0_23, v0_24, v0_25, v0_26, v0_27, v0_28, v0_29, v0_30, v0_31, v0_32, v0_33, v0_34, v0_35, v0_36, v0_37])), (h1, aI g 2524 state1)]
def f_X10_votesFor_h11 (F : Nat) (k11 : (Int32 × Int32 × Int32 × Int32 × Int32 × (Nat → Int32)) → Option ((Nat → Int32))) (x1 x2 x3 x4 x5 : Int32) (state1 : Nat → Int32) : Option ((Nat → Int32)) :=
  if x4 ≤ x5 then
    if x4 = 4 then
      some state1
    else
      bd1 (f_X10_setPassage F x1 (6 + x4) x2 state1) fun o3 =>
      bd1 (f_X10_setPassage F x1 (10 + x4) x3 o3) fun o5 =>
      bd1 (f_X10_setPassage F x1 5 (x4 + 1) o5) fun o7 =>
      some o7
  else
    bd1 (f_X10_ofPassage F x1 (6 + x5) state1) fun r9 =>
    if r9 = x2 then
      bd1 (f_X10_ofPassage F x1 (10 + x5) state1) fun r12 =>
      bd1 (f_X10_setPassage F x1 (10 + x5) (r12 + x3) state1) fun o14 =>
      some o14
    else
      k11 (x1, x2, x3, x4, x5 + 1, state1)
def f_X10_votesFor_L11 (F : Nat) (z : Int32 × Int32 × Int32 × Int32 × Int32 × (Nat → Int32)) : Option ((Nat → Int32)) := lp (fun k z => f_X10_votesFor_h11 F k z.1 z.2.1 z.2.2.1 z.2.2.2.1 z.2.2.2.2.1 z.2.2.2.2.2) F z
def f_X10_votesFor (F : Nat) (p1 p2 p3 : Int32) (state1 : Nat → Int32) : Option ((Nat → Int32)) :=
  bd1 (f_X10_ofPassage F p1 5 state1) fun r16 =>
  f_X10_votesFor_L11 F (p1, p2, p3, r16, 0, state1)
set_option maxHeartbeats 4000000 in
set_option maxRecDepth 100000 in
theorem c_X10_votesFor (l : Launch) (g : GT) (F : Nat) (h0 h1 : Nat) (v0_0 v0_1 v0_2 v0_3 v0_4 v0_5 v0_6 v0_7 v0_8 v0_9 v0_10 v0_11 v0_12 v0_13 v0_14 v0_15 v0_16 v0_17 v0_18 v0_19 v0_20 v0_22 v0_23 v0_24 v0_25 v0_26 v0_27 v0_28 v0_29 v0_30 v0_31 v0_32 v0_33 v0_34 v0_35 v0_36 v0_37 : Value) (p1 p2 p3 : Int32) (state1 : Nat → Int32) (o_state1 : Nat → Int32) (sz : Nat) (hf : f_X10_votesFor F p1 p2 p3 state1 = some o_state1) : CV l m_X10_votesFor (rml 1 0 0) g (w_X10_votesFor g h0 h1 v0_0 v0_1 v0_2 v0_3 v0_4 v0_5 v0_6 v0_7 v0_8 v0_9 v0_10 v0_11 v0_12 v0_13 v0_14 v0_15 v0_16 v0_17 v0_18 v0_19 v0_20 v0_22 v0_23 v0_24 v0_25 v0_26 v0_27 v0_28 v0_29 v0_30 v0_31 v0_32 v0_33 v0_34 v0_35 v0_36 v0_37 state1) (fun _ => w_X10_votesFor g h0 h1 v0_0 v0_1 v0_2 v0_3 v0_4 v0_5 v0_6 v0_7 v0_8 v0_9 v0_10 v0_11 v0_12 v0_13 v0_14 v0_15 v0_16 v0_17 v0_18 v0_19 v0_20 v0_22 v0_23 v0_24 v0_25 v0_26 v0_27 v0_28 v0_29 v0_30 v0_31 v0_32 v0_33 v0_34 v0_35 v0_36 v0_37 o_state1) sz [.ref h0, .int p1, .int p2, .int p3] := by
  refine en_v (by decide) (Nat.le_of_ble_eq_true rfl) (fun p e s m args below meth c A ls C w hl => ?_)
  have C : Cx p s m args meth c RX10 m_X10_votesFor g A := C
  have hx := C.1
  have hb : c.code = cX10_votesFor := C.2.1
  have hl : lv_has ls 6 [(0, .ref h0), (1, .int p1), (2, .int p2), (3, .int p3)] := hl
  obtain ⟨Q, hQ⟩ : ∃ Q, Q = QV below args s g A (fun _ => w_X10_votesFor g h0 h1 v0_0 v0_1 v0_2 v0_3 v0_4 v0_5 v0_6 v0_7 v0_8 v0_9 v0_10 v0_11 v0_12 v0_13 v0_14 v0_15 v0_16 v0_17 v0_18 v0_19 v0_20 v0_22 v0_23 v0_24 v0_25 v0_26 v0_27 v0_28 v0_29 v0_30 v0_31 v0_32 v0_33 v0_34 v0_35 v0_36 v0_37 o_state1) 0 0 := ⟨_, rfl⟩
  suffices hW : W p l e (rml 1 0 0) s m args below meth c s.heap [] 0 0 Q (F0 m 0 ls []) from (by rw [hQ] at hW; exact hW)
  unfold f_X10_votesFor at hf
  have L11 : ∀ (z : Int32 × Int32 × Int32 × Int32 × Int32 × (Nat → Int32)), f_X10_votesFor_L11 F z = some o_state1 → ∀ (H : Heap) (locs : List Loc) (ls : Array Slot), Wd g A (w_X10_votesFor g h0 h1 v0_0 v0_1 v0_2 v0_3 v0_4 v0_5 v0_6 v0_7 v0_8 v0_9 v0_10 v0_11 v0_12 v0_13 v0_14 v0_15 v0_16 v0_17 v0_18 v0_19 v0_20 v0_22 v0_23 v0_24 v0_25 v0_26 v0_27 v0_28 v0_29 v0_30 v0_31 v0_32 v0_33 v0_34 v0_35 v0_36 v0_37 z.2.2.2.2.2) s.heap H locs → lv_has ls 6 [(0, .ref h0), (1, .int z.1), (2, .int z.2.1), (3, .int z.2.2.1), (4, .int z.2.2.2.1), (5, .int z.2.2.2.2.1)] → W p l e (rml 1 0 0) s m args below meth c H locs 0 0 Q (F0 m 11 ls []) := by
    intro z hf
    refine lp_W (r := o_state1) (fun (z : Int32 × Int32 × Int32 × Int32 × Int32 × (Nat → Int32)) => ∀ (H : Heap) (locs : List Loc) (ls : Array Slot), Wd g A (w_X10_votesFor g h0 h1 v0_0 v0_1 v0_2 v0_3 v0_4 v0_5 v0_6 v0_7 v0_8 v0_9 v0_10 v0_11 v0_12 v0_13 v0_14 v0_15 v0_16 v0_17 v0_18 v0_19 v0_20 v0_22 v0_23 v0_24 v0_25 v0_26 v0_27 v0_28 v0_29 v0_30 v0_31 v0_32 v0_33 v0_34 v0_35 v0_36 v0_37 z.2.2.2.2.2) s.heap H locs → lv_has ls 6 [(0, .ref h0), (1, .int z.1), (2, .int z.2.1), (3, .int z.2.2.1), (4, .int z.2.2.2.1), (5, .int z.2.2.2.2.1)] → W p l e (rml 1 0 0) s m args below meth c H locs 0 0 Q (F0 m 11 ls [])) (fun k11 z ih11 hf => ?_) F z hf
    obtain ⟨x1, x2, x3, x4, x5, state1⟩ := z
    intro H locs ls w hl
    try dsimp only at hf w hl ⊢
    unfold f_X10_votesFor_h11 at hf
    refine lv_iload hx hb dX10_votesFor_11 (lv_at hl 5 rfl) ?_
    refine lv_iload hx hb dX10_votesFor_13 (lv_at hl 4 rfl) ?_
    refine lv_icmp_ge (tgt := 64) hx hb dX10_votesFor_15 (by decide) (fun c1 => ?_) (fun c1 => ?_)
    · replace hf := it_t c1 hf
      refine lv_iload hx hb dX10_votesFor_64 (lv_at hl 4 rfl) ?_
      refine lv_iconst (v := 4) hx hb dX10_votesFor_66 (by decide) ?_
      refine lv_icmp_ne (tgt := 71) hx hb dX10_votesFor_67 (by decide) (fun c2 => ?_) (fun c2 => ?_)
      · replace hf := it_f c2 hf
        refine lv_aload_n hx hb dX10_votesFor_71 rfl (lv_at hl 0 rfl) ?_
        refine lv_iload_n hx hb dX10_votesFor_72 rfl (lv_at hl 1 rfl) ?_
        refine lv_bipush (v := 6) hx hb dX10_votesFor_73 (by decide) ?_
        refine lv_iload hx hb dX10_votesFor_75 (lv_at hl 4 rfl) ?_
        refine lv_iadd hx hb dX10_votesFor_77 ?_
        refine lv_iload_n hx hb dX10_votesFor_78 rfl (lv_at hl 2 rfl) ?_
        obtain ⟨o3, hc4, hf⟩ := bd1_some hf
        refine ca_vV C w (wn := fun _ => w_X10_votesFor g h0 h1 v0_0 v0_1 v0_2 v0_3 v0_4 v0_5 v0_6 v0_7 v0_8 v0_9 v0_10 v0_11 v0_12 v0_13 v0_14 v0_15 v0_16 v0_17 v0_18 v0_19 v0_20 v0_22 v0_23 v0_24 v0_25 v0_26 v0_27 v0_28 v0_29 v0_30 v0_31 v0_32 v0_33 v0_34 v0_35 v0_36 v0_37 o3) (pm_k [true, true] rfl rfl (fun _ => Nat.le_of_ble_eq_true rfl) (fun _ => rfl)) (c_X10_setPassage l g F h0 h1 v0_0 v0_1 v0_2 v0_3 v0_4 v0_5 v0_6 v0_7 v0_8 v0_9 v0_10 v0_11 v0_12 v0_13 v0_14 v0_15 v0_16 v0_17 v0_18 v0_19 v0_20 v0_22 v0_23 v0_24 v0_25 v0_26 v0_27 v0_28 v0_29 v0_30 v0_31 v0_32 v0_33 v0_34 v0_35 v0_36 v0_37 x1 (6 + x4) x2 state1 o3 _ hc4) k_X10_346 (rm_le (by decide) (by decide)) 0 10 rfl rfl rfl rfl hl.1 rfl (Nat.le_of_ble_eq_true rfl) dX10_votesFor_79 ⟨Nat.le_of_ble_eq_true rfl, Nat.le_of_ble_eq_true rfl⟩ (cells2 := 0) (slots2 := 0) ⟨rfl, rfl⟩ (fun _ H locs w => ?_)
        refine lv_aload_n hx hb dX10_votesFor_82 rfl (lv_at hl 0 rfl) ?_
        refine lv_iload_n hx hb dX10_votesFor_83 rfl (lv_at hl 1 rfl) ?_
        refine lv_bipush (v := 10) hx hb dX10_votesFor_84 (by decide) ?_
        refine lv_iload hx hb dX10_votesFor_86 (lv_at hl 4 rfl) ?_
        refine lv_iadd hx hb dX10_votesFor_88 ?_
        refine lv_iload_n hx hb dX10_votesFor_89 rfl (lv_at hl 3 rfl) ?_
        obtain ⟨o5, hc6, hf⟩ := bd1_some hf
        refine ca_vV C w (wn := fun _ => w_X10_votesFor g h0 h1 v0_0 v0_1 v0_2 v0_3 v0_4 v0_5 v0_6 v0_7 v0_8 v0_9 v0_10 v0_11 v0_12 v0_13 v0_14 v0_15 v0_16 v0_17 v0_18 v0_19 v0_20 v0_22 v0_23 v0_24 v0_25 v0_26 v0_27 v0_28 v0_29 v0_30 v0_31 v0_32 v0_33 v0_34 v0_35 v0_36 v0_37 o5) (pm_k [true, true] rfl rfl (fun _ => Nat.le_of_ble_eq_true rfl) (fun _ => rfl)) (c_X10_setPassage l g F h0 h1 v0_0 v0_1 v0_2 v0_3 v0_4 v0_5 v0_6 v0_7 v0_8 v0_9 v0_10 v0_11 v0_12 v0_13 v0_14 v0_15 v0_16 v0_17 v0_18 v0_19 v0_20 v0_22 v0_23 v0_24 v0_25 v0_26 v0_27 v0_28 v0_29 v0_30 v0_31 v0_32 v0_33 v0_34 v0_35 v0_36 v0_37 x1 (10 + x4) x3 o3 o5 _ hc6) k_X10_346 (rm_le (by decide) (by decide)) 0 10 rfl rfl rfl rfl hl.1 rfl (Nat.le_of_ble_eq_true rfl) dX10_votesFor_90 ⟨Nat.le_of_ble_eq_true rfl, Nat.le_of_ble_eq_true rfl⟩ (cells2 := 0) (slots2 := 0) ⟨rfl, rfl⟩ (fun _ H locs w => ?_)
        refine lv_aload_n hx hb dX10_votesFor_93 rfl (lv_at hl 0 rfl) ?_
        refine lv_iload_n hx hb dX10_votesFor_94 rfl (lv_at hl 1 rfl) ?_
        refine lv_iconst (v := 5) hx hb dX10_votesFor_95 (by decide) ?_
        refine lv_iload hx hb dX10_votesFor_96 (lv_at hl 4 rfl) ?_
        refine lv_iconst (v := 1) hx hb dX10_votesFor_98 (by decide) ?_
        refine lv_iadd hx hb dX10_votesFor_99 ?_
        obtain ⟨o7, hc8, hf⟩ := bd1_some hf
        refine ca_vV C w (wn := fun _ => w_X10_votesFor g h0 h1 v0_0 v0_1 v0_2 v0_3 v0_4 v0_5 v0_6 v0_7 v0_8 v0_9 v0_10 v0_11 v0_12 v0_13 v0_14 v0_15 v0_16 v0_17 v0_18 v0_19 v0_20 v0_22 v0_23 v0_24 v0_25 v0_26 v0_27 v0_28 v0_29 v0_30 v0_31 v0_32 v0_33 v0_34 v0_35 v0_36 v0_37 o7) (pm_k [true, true] rfl rfl (fun _ => Nat.le_of_ble_eq_true rfl) (fun _ => rfl)) (c_X10_setPassage l g F h0 h1 v0_0 v0_1 v0_2 v0_3 v0_4 v0_5 v0_6 v0_7 v0_8 v0_9 v0_10 v0_11 v0_12 v0_13 v0_14 v0_15 v0_16 v0_17 v0_18 v0_19 v0_20 v0_22 v0_23 v0_24 v0_25 v0_26 v0_27 v0_28 v0_29 v0_30 v0_31 v0_32 v0_33 v0_34 v0_35 v0_36 v0_37 x1 5 (x4 + 1) o5 o7 _ hc8) k_X10_346 (rm_le (by decide) (by decide)) 0 10 rfl rfl rfl rfl hl.1 rfl (Nat.le_of_ble_eq_true rfl) dX10_votesFor_100 ⟨Nat.le_of_ble_eq_true rfl, Nat.le_of_ble_eq_true rfl⟩ (cells2 := 0) (slots2 := 0) ⟨rfl, rfl⟩ (fun _ H locs w => ?_)
        obtain e1 := tp1 hf
        rw [hQ]
        exact rt_v C w rfl (fun _ => 0) (by rw [← e1]) dX10_votesFor_103
      · replace hf := it_t c2 hf
        obtain e1 := tp1 hf
        rw [hQ]
        exact rt_v C w rfl (fun _ => 0) (by rw [← e1]) dX10_votesFor_70
    · replace hf := it_f c1 hf
      refine lv_aload_n hx hb dX10_votesFor_18 rfl (lv_at hl 0 rfl) ?_
      refine lv_iload_n hx hb dX10_votesFor_19 rfl (lv_at hl 1 rfl) ?_
      refine lv_bipush (v := 6) hx hb dX10_votesFor_20 (by decide) ?_
      refine lv_iload hx hb dX10_votesFor_22 (lv_at hl 5 rfl) ?_
      refine lv_iadd hx hb dX10_votesFor_24 ?_
      obtain ⟨r9, hc10, hf⟩ := bd1_some hf
      refine ca_iV C w (wn := fun _ => w_X10_votesFor g h0 h1 v0_0 v0_1 v0_2 v0_3 v0_4 v0_5 v0_6 v0_7 v0_8 v0_9 v0_10 v0_11 v0_12 v0_13 v0_14 v0_15 v0_16 v0_17 v0_18 v0_19 v0_20 v0_22 v0_23 v0_24 v0_25 v0_26 v0_27 v0_28 v0_29 v0_30 v0_31 v0_32 v0_33 v0_34 v0_35 v0_36 v0_37 state1) (pm_k [true, true] rfl rfl (fun _ => Nat.le_of_ble_eq_true rfl) (fun _ => rfl)) (c_X10_ofPassage l g F h0 h1 v0_0 v0_1 v0_2 v0_3 v0_4 v0_5 v0_6 v0_7 v0_8 v0_9 v0_10 v0_11 v0_12 v0_13 v0_14 v0_15 v0_16 v0_17 v0_18 v0_19 v0_20 v0_22 v0_23 v0_24 v0_25 v0_26 v0_27 v0_28 v0_29 v0_30 v0_31 v0_32 v0_33 v0_34 v0_35 v0_36 v0_37 x1 (6 + x5) state1 r9 _ hc10) k_X10_250 (rm_le (by decide) (by decide)) 0 10 rfl rfl rfl rfl hl.1 rfl (Nat.le_of_ble_eq_true rfl) dX10_votesFor_25 ⟨Nat.le_of_ble_eq_true rfl, Nat.le_of_ble_eq_true rfl⟩ (cells2 := 0) (slots2 := 0) ⟨rfl, rfl⟩ (fun _ H locs w => ?_)
      refine lv_iload_n hx hb dX10_votesFor_28 rfl (lv_at hl 2 rfl) ?_
      refine lv_icmp_eq (tgt := 35) hx hb dX10_votesFor_29 (by decide) (fun c11 => ?_) (fun c11 => ?_)
      · replace hf := it_t c11 hf
        refine lv_aload_n hx hb dX10_votesFor_35 rfl (lv_at hl 0 rfl) ?_
        refine lv_iload_n hx hb dX10_votesFor_36 rfl (lv_at hl 1 rfl) ?_
        refine lv_bipush (v := 10) hx hb dX10_votesFor_37 (by decide) ?_
        refine lv_iload hx hb dX10_votesFor_39 (lv_at hl 5 rfl) ?_
        refine lv_iadd hx hb dX10_votesFor_41 ?_
        refine lv_aload_n hx hb dX10_votesFor_42 rfl (lv_at hl 0 rfl) ?_
        refine lv_iload_n hx hb dX10_votesFor_43 rfl (lv_at hl 1 rfl) ?_
        refine lv_bipush (v := 10) hx hb dX10_votesFor_44 (by decide) ?_
        refine lv_iload hx hb dX10_votesFor_46 (lv_at hl 5 rfl) ?_
        refine lv_iadd hx hb dX10_votesFor_48 ?_
        obtain ⟨r12, hc13, hf⟩ := bd1_some hf
        refine ca_iV C w (wn := fun _ => w_X10_votesFor g h0 h1 v0_0 v0_1 v0_2 v0_3 v0_4 v0_5 v0_6 v0_7 v0_8 v0_9 v0_10 v0_11 v0_12 v0_13 v0_14 v0_15 v0_16 v0_17 v0_18 v0_19 v0_20 v0_22 v0_23 v0_24 v0_25 v0_26 v0_27 v0_28 v0_29 v0_30 v0_31 v0_32 v0_33 v0_34 v0_35 v0_36 v0_37 state1) (pm_k [true, true] rfl rfl (fun _ => Nat.le_of_ble_eq_true rfl) (fun _ => rfl)) (c_X10_ofPassage l g F h0 h1 v0_0 v0_1 v0_2 v0_3 v0_4 v0_5 v0_6 v0_7 v0_8 v0_9 v0_10 v0_11 v0_12 v0_13 v0_14 v0_15 v0_16 v0_17 v0_18 v0_19 v0_20 v0_22 v0_23 v0_24 v0_25 v0_26 v0_27 v0_28 v0_29 v0_30 v0_31 v0_32 v0_33 v0_34 v0_35 v0_36 v0_37 x1 (10 + x5) state1 r12 _ hc13) k_X10_250 (rm_le (by decide) (by decide)) 0 10 rfl rfl rfl rfl hl.1 rfl (Nat.le_of_ble_eq_true rfl) dX10_votesFor_49 ⟨Nat.le_of_ble_eq_true rfl, Nat.le_of_ble_eq_true rfl⟩ (cells2 := 0) (slots2 := 0) ⟨rfl, rfl⟩ (fun _ H locs w => ?_)
        refine lv_iload_n hx hb dX10_votesFor_52 rfl (lv_at hl 3 rfl) ?_
        refine lv_iadd hx hb dX10_votesFor_53 ?_
        obtain ⟨o14, hc15, hf⟩ := bd1_some hf
        refine ca_vV C w (wn := fun _ => w_X10_votesFor g h0 h1 v0_0 v0_1 v0_2 v0_3 v0_4 v0_5 v0_6 v0_7 v0_8 v0_9 v0_10 v0_11 v0_12 v0_13 v0_14 v0_15 v0_16 v0_17 v0_18 v0_19 v0_20 v0_22 v0_23 v0_24 v0_25 v0_26 v0_27 v0_28 v0_29 v0_30 v0_31 v0_32 v0_33 v0_34 v0_35 v0_36 v0_37 o14) (pm_k [true, true] rfl rfl (fun _ => Nat.le_of_ble_eq_true rfl) (fun _ => rfl)) (c_X10_setPassage l g F h0 h1 v0_0 v0_1 v0_2 v0_3 v0_4 v0_5 v0_6 v0_7 v0_8 v0_9 v0_10 v0_11 v0_12 v0_13 v0_14 v0_15 v0_16 v0_17 v0_18 v0_19 v0_20 v0_22 v0_23 v0_24 v0_25 v0_26 v0_27 v0_28 v0_29 v0_30 v0_31 v0_32 v0_33 v0_34 v0_35 v0_36 v0_37 x1 (10 + x5) (r12 + x3) state1 o14 _ hc15) k_X10_346 (rm_le (by decide) (by decide)) 0 10 rfl rfl rfl rfl hl.1 rfl (Nat.le_of_ble_eq_true rfl) dX10_votesFor_54 ⟨Nat.le_of_ble_eq_true rfl, Nat.le_of_ble_eq_true rfl⟩ (cells2 := 0) (slots2 := 0) ⟨rfl, rfl⟩ (fun _ H locs w => ?_)
        obtain e1 := tp1 hf
        rw [hQ]
        exact rt_v C w rfl (fun _ => 0) (by rw [← e1]) dX10_votesFor_57
      · replace hf := it_f c11 hf
        refine lv_goto (tgt := 58) hx hb dX10_votesFor_32 (by decide) ?_
        refine lv_iinc (v := x5 + 1) (lv' := [(5, .int (x5 + 1)), (0, .ref h0), (1, .int x1), (2, .int x2), (3, .int x3), (4, .int x4)]) hx hb dX10_votesFor_58 hl (k := 5) rfl rfl (by decide) rfl (fun ls hl => ?_)
        refine lv_goto (tgt := 11) hx hb dX10_votesFor_61 (by decide) ?_
        exact ih11 (x1, x2, x3, x4, x5 + 1, state1) hf _ _ _ w (lv_sub hl [1, 2, 3, 4, 5, 0] rfl)
  refine lv_aload_n hx hb dX10_votesFor_0 rfl (lv_at hl 0 rfl) ?_
  refine lv_iload_n hx hb dX10_votesFor_1 rfl (lv_at hl 1 rfl) ?_
  refine lv_iconst (v := 5) hx hb dX10_votesFor_2 (by decide) ?_
  obtain ⟨r16, hc17, hf⟩ := bd1_some hf
  refine ca_iV C w (wn := fun _ => w_X10_votesFor g h0 h1 v0_0 v0_1 v0_2 v0_3 v0_4 v0_5 v0_6 v0_7 v0_8 v0_9 v0_10 v0_11 v0_12 v0_13 v0_14 v0_15 v0_16 v0_17 v0_18 v0_19 v0_20 v0_22 v0_23 v0_24 v0_25 v0_26 v0_27 v0_28 v0_29 v0_30 v0_31 v0_32 v0_33 v0_34 v0_35 v0_36 v0_37 state1) (pm_k [true, true] rfl rfl (fun _ => Nat.le_of_ble_eq_true rfl) (fun _ => rfl)) (c_X10_ofPassage l g F h0 h1 v0_0 v0_1 v0_2 v0_3 v0_4 v0_5 v0_6 v0_7 v0_8 v0_9 v0_10 v0_11 v0_12 v0_13 v0_14 v0_15 v0_16 v0_17 v0_18 v0_19 v0_20 v0_22 v0_23 v0_24 v0_25 v0_26 v0_27 v0_28 v0_29 v0_30 v0_31 v0_32 v0_33 v0_34 v0_35 v0_36 v0_37 p1 5 state1 r16 _ hc17) k_X10_250 (rm_le (by decide) (by decide)) 0 10 rfl rfl rfl rfl hl.1 rfl (Nat.le_of_ble_eq_true rfl) dX10_votesFor_3 ⟨Nat.le_of_ble_eq_true rfl, Nat.le_of_ble_eq_true rfl⟩ (cells2 := 0) (slots2 := 0) ⟨rfl, rfl⟩ (fun _ H locs w => ?_)
  refine lv_istore (lv' := [(4, .int r16), (0, .ref h0), (1, .int p1), (2, .int p2), (3, .int p3)]) hx hb dX10_votesFor_6 hl (by decide) rfl (fun ls hl => ?_)
  refine lv_iconst (v := 0) hx hb dX10_votesFor_8 (by decide) ?_
  refine lv_istore (lv' := [(5, .int 0), (4, .int r16), (0, .ref h0), (1, .int p1), (2, .int p2), (3, .int p3)]) hx hb dX10_votesFor_9 hl (by decide) rfl (fun ls hl => ?_)
  exact L11 (p1, p2, p3, r16, 0, state1) hf _ _ _ w (lv_sub hl [2, 3, 4, 5, 1, 0] rfl)

theorem dX10_readPlate_0 : decode cX10_readPlate 0 = .ok (.aload_n 0, 1) := by decide +kernel
theorem dX10_readPlate_1 : decode cX10_readPlate 1 = .ok (.iconst 0, 1) := by decide +kernel
theorem dX10_readPlate_2 : decode cX10_readPlate 2 = .ok (.putfield 84, 3) := by decide +kernel
theorem dX10_readPlate_5 : decode cX10_readPlate 5 = .ok (.aload_n 0, 1) := by decide +kernel
theorem dX10_readPlate_6 : decode cX10_readPlate 6 = .ok (.iload_n 1, 1) := by decide +kernel
theorem dX10_readPlate_7 : decode cX10_readPlate 7 = .ok (.iload_n 2, 1) := by decide +kernel
theorem dX10_readPlate_8 : decode cX10_readPlate 8 = .ok (.iload_n 3, 1) := by decide +kernel
theorem dX10_readPlate_9 : decode cX10_readPlate 9 = .ok (.invokevirtual 350, 3) := by decide +kernel
theorem dX10_readPlate_12 : decode cX10_readPlate 12 = .ok (.ifCond .eq 29, 3) := by decide +kernel
theorem dX10_readPlate_15 : decode cX10_readPlate 15 = .ok (.iload 4, 2) := by decide +kernel
theorem dX10_readPlate_17 : decode cX10_readPlate 17 = .ok (.i2l, 1) := by decide +kernel
theorem dX10_readPlate_18 : decode cX10_readPlate 18 = .ok (.lconst 1, 1) := by decide +kernel
theorem dX10_readPlate_19 : decode cX10_readPlate 19 = .ok (.ldc2_w 159, 3) := by decide +kernel
theorem dX10_readPlate_22 : decode cX10_readPlate 22 = .ok (.invokestatic 115, 3) := by decide +kernel
theorem dX10_readPlate_25 : decode cX10_readPlate 25 = .ok (.ifCond .eq 16, 3) := by decide +kernel
theorem dX10_readPlate_28 : decode cX10_readPlate 28 = .ok (.iload 5, 2) := by decide +kernel
theorem dX10_readPlate_30 : decode cX10_readPlate 30 = .ok (.i2l, 1) := by decide +kernel
theorem dX10_readPlate_31 : decode cX10_readPlate 31 = .ok (.lconst 1, 1) := by decide +kernel
theorem dX10_readPlate_32 : decode cX10_readPlate 32 = .ok (.ldc2_w 356, 3) := by decide +kernel
theorem dX10_readPlate_35 : decode cX10_readPlate 35 = .ok (.invokestatic 115, 3) := by decide +kernel
theorem dX10_readPlate_38 : decode cX10_readPlate 38 = .ok (.ifCond .ne 9, 3) := by decide +kernel
theorem dX10_readPlate_41 : decode cX10_readPlate 41 = .ok (.aload_n 0, 1) := by decide +kernel
theorem dX10_readPlate_42 : decode cX10_readPlate 42 = .ok (.iconst 1, 1) := by decide +kernel
theorem dX10_readPlate_43 : decode cX10_readPlate 43 = .ok (.invokevirtual 202, 3) := by decide +kernel
theorem dX10_readPlate_46 : decode cX10_readPlate 46 = .ok (.ireturn, 1) := by decide +kernel
theorem dX10_readPlate_47 : decode cX10_readPlate 47 = .ok (.aload_n 0, 1) := by decide +kernel
theorem dX10_readPlate_48 : decode cX10_readPlate 48 = .ok (.iload_n 1, 1) := by decide +kernel
theorem dX10_readPlate_49 : decode cX10_readPlate 49 = .ok (.iload_n 2, 1) := by decide +kernel
theorem dX10_readPlate_50 : decode cX10_readPlate 50 = .ok (.iload_n 3, 1) := by decide +kernel
theorem dX10_readPlate_51 : decode cX10_readPlate 51 = .ok (.iconst (-1), 1) := by decide +kernel
theorem dX10_readPlate_52 : decode cX10_readPlate 52 = .ok (.invokevirtual 353, 3) := by decide +kernel
theorem dX10_readPlate_55 : decode cX10_readPlate 55 = .ok (.istore 6, 2) := by decide +kernel
theorem dX10_readPlate_57 : decode cX10_readPlate 57 = .ok (.iload 6, 2) := by decide +kernel
theorem dX10_readPlate_59 : decode cX10_readPlate 59 = .ok (.ifCond .ge 5, 3) := by decide +kernel
theorem dX10_readPlate_62 : decode cX10_readPlate 62 = .ok (.iconst 0, 1) := by decide +kernel
theorem dX10_readPlate_63 : decode cX10_readPlate 63 = .ok (.ireturn, 1) := by decide +kernel
theorem dX10_readPlate_64 : decode cX10_readPlate 64 = .ok (.aload_n 0, 1) := by decide +kernel
theorem dX10_readPlate_65 : decode cX10_readPlate 65 = .ok (.iload 6, 2) := by decide +kernel
theorem dX10_readPlate_67 : decode cX10_readPlate 67 = .ok (.iload 4, 2) := by decide +kernel
theorem dX10_readPlate_69 : decode cX10_readPlate 69 = .ok (.iload 5, 2) := by decide +kernel
theorem dX10_readPlate_71 : decode cX10_readPlate 71 = .ok (.invokevirtual 358, 3) := by decide +kernel
theorem dX10_readPlate_74 : decode cX10_readPlate 74 = .ok (.iload 6, 2) := by decide +kernel
theorem dX10_readPlate_76 : decode cX10_readPlate 76 = .ok (.ireturn, 1) := by decide +kernel
abbrev m_X10_readPlate : MD := (yX10_readPlate, cX10_readPlate, 7, (some .int))
theorem q_1721 : Cond.constantLong RX10 356 100 ∈ TS := ts_t 1721 (by decide +kernel) (by decide +kernel)
theorem q_1725 : Cond.code yX10_votesFor cX10_votesFor 6 none ∈ TS := ts_t 1725 (by decide +kernel) (by decide +kernel)
theorem q_1722 : Cond.methodLink RX10 358 yX10_votesFor ∈ TS := ts_t 1722 (by decide +kernel) (by decide +kernel)
theorem q_1724 : Cond.instanceMethod yX10_votesFor ∈ TS := ts_t 1724 (by decide +kernel) (by decide +kernel)
theorem qs_135 : Cond.selects yX10_votesFor.cls yX10_votesFor yX10_votesFor ∈ TS := ts_s 135 (by decide +kernel) (by decide +kernel)
theorem k_X10_358 : LkV RX10 358 m_X10_votesFor 3 := ⟨q_1722, q_1724, qs_135, ⟨q_11, q_1725, by decide, by decide, by decide +kernel⟩⟩
abbrev w_X10_readPlate (g : GT) (h0 h1 h2 h3 : Nat) (v0_1 v0_2 v0_3 v0_4 v0_5 v0_6 v0_7 v0_8 v0_9 v0_11 v0_12 v0_13 v0_14 v0_15 v0_16 v0_17 v0_18 v0_19 v0_20 v0_24 v0_25 v0_26 v0_27 v0_28 v0_29 v0_30 v0_31 v0_32 v0_33 v0_34 v0_35 v0_36 v0_37 : Value) (thrown0 depth0 : Int32) (basic1 history2 state3 : Nat → Int32) : va_W := [(h0, .inr (10, [.int thrown0, v0_1, v0_2, v0_3, v0_4, v0_5, v0_6, v0_7, v0_8, v0_9, .ref h1, v0_11, v0_12, v0_13, v0_14, v0_15, v0_16, v0_17, v0_18, v0_19, v0_20, .ref h3, .ref h2, .int depth0, v0_24, v0_25, v0_26, v0_27, v0_28, v0_29, v0_30, v0_31, v0_32, v0_33, v0_34, v0_35, v0_36, v0_37])), (h1, aI g 7 basic1), (h2, aI g 25240 history2), (h3, aI g 2524 state3)]
def f_X10_readPlate_b41 (F : Nat) (basic1 : Nat → Int32) (thrown0 depth0 : Int32) (history2 state3 : Nat → Int32) : Option (Int32 × Int32 × Int32 × (Nat → Int32) × (Nat → Int32)) :=
  bd2 (f_X10_fail F 1 thrown0) fun r1 o2 =>
  some (r1, o2, depth0, history2, state3)
def f_X10_readPlate (F : Nat) (p1 p2 p3 p4 p5 thrown0 depth0 : Int32) (basic1 history2 state3 : Nat → Int32) : Option (Int32 × Int32 × Int32 × (Nat → Int32) × (Nat → Int32)) :=
  bd1 (f_X10_isReading F p1 p2 p3 basic1 state3) fun r4 =>
  if r4 = 0 then
    f_X10_readPlate_b41 F basic1 0 depth0 history2 state3
  else
    bd1 (f_X10_within F p4.toInt64 1 9999) fun r7 =>
    if r7 = 0 then
      f_X10_readPlate_b41 F basic1 0 depth0 history2 state3
    else
      bd1 (f_X10_within F p5.toInt64 1 100) fun r10 =>
      if r10 = 0 then
        f_X10_readPlate_b41 F basic1 0 depth0 history2 state3
      else
        bd5 (f_X10_laysReading F p1 p2 p3 (-1) 0 depth0 basic1 history2 state3) fun r13 o14 o15 o16 o17 =>
        if 0 ≤ r13 then
          bd1 (f_X10_votesFor F r13 p4 p5 o17) fun o20 =>
          some (r13, o14, o15, o16, o20)
        else
          some (0, o14, o15, o16, o17)
set_option maxHeartbeats 4000000 in
set_option maxRecDepth 100000 in
theorem c_X10_readPlate (l : Launch) (g : GT) (F : Nat) (h0 h1 h2 h3 : Nat) (v0_1 v0_2 v0_3 v0_4 v0_5 v0_6 v0_7 v0_8 v0_9 v0_11 v0_12 v0_13 v0_14 v0_15 v0_16 v0_17 v0_18 v0_19 v0_20 v0_24 v0_25 v0_26 v0_27 v0_28 v0_29 v0_30 v0_31 v0_32 v0_33 v0_34 v0_35 v0_36 v0_37 : Value) (p1 p2 p3 p4 p5 thrown0 depth0 : Int32) (basic1 history2 state3 : Nat → Int32) (r o_thrown0 o_depth0 : Int32) (o_history2 o_state3 : Nat → Int32) (sz : Nat) (hf : f_X10_readPlate F p1 p2 p3 p4 p5 thrown0 depth0 basic1 history2 state3 = some (r, o_thrown0, o_depth0, o_history2, o_state3)) : CI l m_X10_readPlate (rml 4 0 0) g (w_X10_readPlate g h0 h1 h2 h3 v0_1 v0_2 v0_3 v0_4 v0_5 v0_6 v0_7 v0_8 v0_9 v0_11 v0_12 v0_13 v0_14 v0_15 v0_16 v0_17 v0_18 v0_19 v0_20 v0_24 v0_25 v0_26 v0_27 v0_28 v0_29 v0_30 v0_31 v0_32 v0_33 v0_34 v0_35 v0_36 v0_37 thrown0 depth0 basic1 history2 state3) (fun _ => w_X10_readPlate g h0 h1 h2 h3 v0_1 v0_2 v0_3 v0_4 v0_5 v0_6 v0_7 v0_8 v0_9 v0_11 v0_12 v0_13 v0_14 v0_15 v0_16 v0_17 v0_18 v0_19 v0_20 v0_24 v0_25 v0_26 v0_27 v0_28 v0_29 v0_30 v0_31 v0_32 v0_33 v0_34 v0_35 v0_36 v0_37 o_thrown0 o_depth0 basic1 o_history2 o_state3) sz [.ref h0, .int p1, .int p2, .int p3, .int p4, .int p5] r := by
  refine en_i (by decide) (Nat.le_of_ble_eq_true rfl) (fun p e s m args below meth c A ls C w hl => ?_)
  have C : Cx p s m args meth c RX10 m_X10_readPlate g A := C
  have hx := C.1
  have hb : c.code = cX10_readPlate := C.2.1
  have hl : lv_has ls 7 [(0, .ref h0), (1, .int p1), (2, .int p2), (3, .int p3), (4, .int p4), (5, .int p5)] := hl
  obtain ⟨Q, hQ⟩ : ∃ Q, Q = QI below args s g A (fun _ => w_X10_readPlate g h0 h1 h2 h3 v0_1 v0_2 v0_3 v0_4 v0_5 v0_6 v0_7 v0_8 v0_9 v0_11 v0_12 v0_13 v0_14 v0_15 v0_16 v0_17 v0_18 v0_19 v0_20 v0_24 v0_25 v0_26 v0_27 v0_28 v0_29 v0_30 v0_31 v0_32 v0_33 v0_34 v0_35 v0_36 v0_37 o_thrown0 o_depth0 basic1 o_history2 o_state3) r 0 0 := ⟨_, rfl⟩
  suffices hW : W p l e (rml 4 0 0) s m args below meth c s.heap [] 0 0 Q (F0 m 0 ls []) from (by rw [hQ] at hW; exact hW)
  unfold f_X10_readPlate at hf
  have b41 : ∀ (thrown0 depth0 : Int32) (history2 state3 : Nat → Int32) (H : Heap) (locs : List Loc) (ls : Array Slot), f_X10_readPlate_b41 F basic1 thrown0 depth0 history2 state3 = some (r, o_thrown0, o_depth0, o_history2, o_state3) → Wd g A (w_X10_readPlate g h0 h1 h2 h3 v0_1 v0_2 v0_3 v0_4 v0_5 v0_6 v0_7 v0_8 v0_9 v0_11 v0_12 v0_13 v0_14 v0_15 v0_16 v0_17 v0_18 v0_19 v0_20 v0_24 v0_25 v0_26 v0_27 v0_28 v0_29 v0_30 v0_31 v0_32 v0_33 v0_34 v0_35 v0_36 v0_37 thrown0 depth0 basic1 history2 state3) s.heap H locs → lv_has ls 7 [(0, .ref h0)] → W p l e (rml 4 0 0) s m args below meth c H locs 0 0 Q (F0 m 41 ls []) := by
    intro thrown0 depth0 history2 state3 H locs ls hf w hl
    unfold f_X10_readPlate_b41 at hf
    refine lv_aload_n hx hb dX10_readPlate_41 rfl (lv_at hl 0 rfl) ?_
    refine lv_iconst (v := 1) hx hb dX10_readPlate_42 (by decide) ?_
    obtain ⟨r1, o2, hc3, hf⟩ := bd2_some hf
    refine ca_iV C w (wn := fun _ => w_X10_readPlate g h0 h1 h2 h3 v0_1 v0_2 v0_3 v0_4 v0_5 v0_6 v0_7 v0_8 v0_9 v0_11 v0_12 v0_13 v0_14 v0_15 v0_16 v0_17 v0_18 v0_19 v0_20 v0_24 v0_25 v0_26 v0_27 v0_28 v0_29 v0_30 v0_31 v0_32 v0_33 v0_34 v0_35 v0_36 v0_37 o2 depth0 basic1 history2 state3) (pm_k [true, false, false, false] rfl rfl (fun _ => Nat.le_of_ble_eq_true rfl) (fun _ => rfl)) (c_X10_fail l g F h0 v0_1 v0_2 v0_3 v0_4 v0_5 v0_6 v0_7 v0_8 v0_9 (.ref h1) v0_11 v0_12 v0_13 v0_14 v0_15 v0_16 v0_17 v0_18 v0_19 v0_20 (.ref h3) (.ref h2) (.int depth0) v0_24 v0_25 v0_26 v0_27 v0_28 v0_29 v0_30 v0_31 v0_32 v0_33 v0_34 v0_35 v0_36 v0_37 1 thrown0 r1 o2 _ hc3) k_X10_202 (rm_le (by decide) (by decide)) 0 10 rfl rfl rfl rfl hl.1 rfl (Nat.le_of_ble_eq_true rfl) dX10_readPlate_43 ⟨Nat.le_of_ble_eq_true rfl, Nat.le_of_ble_eq_true rfl⟩ (cells2 := 0) (slots2 := 0) ⟨rfl, rfl⟩ (fun _ H locs w => ?_)
    obtain ⟨e1, e2, e3, e4, e5⟩ := tp5 hf
    rw [hQ]
    exact rt_i C w rfl (fun _ => 0) (by rw [← e2, ← e3, ← e4, ← e5]) e1 dX10_readPlate_46
  refine lv_aload_n hx hb dX10_readPlate_0 rfl (lv_at hl 0 rfl) ?_
  refine lv_iconst (v := 0) hx hb dX10_readPlate_1 (by decide) ?_
  refine p_X10_84 C w 0 rfl (Nat.le_of_ble_eq_true rfl) (ws2 := w_X10_readPlate g h0 h1 h2 h3 v0_1 v0_2 v0_3 v0_4 v0_5 v0_6 v0_7 v0_8 v0_9 v0_11 v0_12 v0_13 v0_14 v0_15 v0_16 v0_17 v0_18 v0_19 v0_20 v0_24 v0_25 v0_26 v0_27 v0_28 v0_29 v0_30 v0_31 v0_32 v0_33 v0_34 v0_35 v0_36 v0_37 0 depth0 basic1 history2 state3) rfl dX10_readPlate_2 (fun H locs w => ?_)
  refine lv_aload_n hx hb dX10_readPlate_5 rfl (lv_at hl 0 rfl) ?_
  refine lv_iload_n hx hb dX10_readPlate_6 rfl (lv_at hl 1 rfl) ?_
  refine lv_iload_n hx hb dX10_readPlate_7 rfl (lv_at hl 2 rfl) ?_
  refine lv_iload_n hx hb dX10_readPlate_8 rfl (lv_at hl 3 rfl) ?_
  obtain ⟨r4, hc5, hf⟩ := bd1_some hf
  refine ca_iV C w (wn := fun _ => w_X10_readPlate g h0 h1 h2 h3 v0_1 v0_2 v0_3 v0_4 v0_5 v0_6 v0_7 v0_8 v0_9 v0_11 v0_12 v0_13 v0_14 v0_15 v0_16 v0_17 v0_18 v0_19 v0_20 v0_24 v0_25 v0_26 v0_27 v0_28 v0_29 v0_30 v0_31 v0_32 v0_33 v0_34 v0_35 v0_36 v0_37 0 depth0 basic1 history2 state3) (pm_k [true, true, false, true] rfl rfl (fun _ => Nat.le_of_ble_eq_true rfl) (fun _ => rfl)) (c_X10_isReading l g F h0 h1 h3 (.int 0) v0_1 v0_2 v0_3 v0_4 v0_5 v0_6 v0_7 v0_8 v0_9 v0_11 v0_12 v0_13 v0_14 v0_15 v0_16 v0_17 v0_18 v0_19 v0_20 (.ref h2) (.int depth0) v0_24 v0_25 v0_26 v0_27 v0_28 v0_29 v0_30 v0_31 v0_32 v0_33 v0_34 v0_35 v0_36 v0_37 p1 p2 p3 basic1 state3 r4 _ hc5) k_X10_350 (rm_le (by decide) (by decide)) 0 10 rfl rfl rfl rfl hl.1 rfl (Nat.le_of_ble_eq_true rfl) dX10_readPlate_9 ⟨Nat.le_of_ble_eq_true rfl, Nat.le_of_ble_eq_true rfl⟩ (cells2 := 0) (slots2 := 0) ⟨rfl, rfl⟩ (fun _ H locs w => ?_)
  refine lv_if_eq (tgt := 41) hx hb dX10_readPlate_12 (by decide) (fun c6 => ?_) (fun c6 => ?_)
  · replace hf := it_t c6 hf
    exact b41 0 depth0 history2 state3 _ _ _ hf w (lv_sub hl [0] rfl)
  · replace hf := it_f c6 hf
    refine lv_iload hx hb dX10_readPlate_15 (lv_at hl 4 rfl) ?_
    refine lv_i2l (v := p4.toInt64) hx hb dX10_readPlate_17 rfl ?_
    refine lv_lconst (v := 1) hx hb dX10_readPlate_18 (by decide) ?_
    refine lv_ldc2 (v := 9999) hx hb C.2.2.2.1 (C.2.2.2.2.1 _ q_1418) dX10_readPlate_19 ?_
    obtain ⟨r7, hc8, hf⟩ := bd1_some hf
    refine ca_iS C w (wn := fun _ => w_X10_readPlate g h0 h1 h2 h3 v0_1 v0_2 v0_3 v0_4 v0_5 v0_6 v0_7 v0_8 v0_9 v0_11 v0_12 v0_13 v0_14 v0_15 v0_16 v0_17 v0_18 v0_19 v0_20 v0_24 v0_25 v0_26 v0_27 v0_28 v0_29 v0_30 v0_31 v0_32 v0_33 v0_34 v0_35 v0_36 v0_37 0 depth0 basic1 history2 state3) (pm_k [false, false, false, false] rfl rfl (fun _ => Nat.le_of_ble_eq_true rfl) (fun _ => rfl)) (c_X10_within l g F p4.toInt64 1 9999 r7 _ hc8) k_X10_115 (rm_le (by decide) (by decide)) rfl hl.1 rfl (Nat.le_of_ble_eq_true rfl) dX10_readPlate_22 ⟨Nat.le_of_ble_eq_true rfl, Nat.le_of_ble_eq_true rfl⟩ (cells2 := 0) (slots2 := 0) ⟨rfl, rfl⟩ (fun _ H locs w => ?_)
    refine lv_if_eq (tgt := 41) hx hb dX10_readPlate_25 (by decide) (fun c9 => ?_) (fun c9 => ?_)
    · replace hf := it_t c9 hf
      exact b41 0 depth0 history2 state3 _ _ _ hf w (lv_sub hl [0] rfl)
    · replace hf := it_f c9 hf
      refine lv_iload hx hb dX10_readPlate_28 (lv_at hl 5 rfl) ?_
      refine lv_i2l (v := p5.toInt64) hx hb dX10_readPlate_30 rfl ?_
      refine lv_lconst (v := 1) hx hb dX10_readPlate_31 (by decide) ?_
      refine lv_ldc2 (v := 100) hx hb C.2.2.2.1 (C.2.2.2.2.1 _ q_1721) dX10_readPlate_32 ?_
      obtain ⟨r10, hc11, hf⟩ := bd1_some hf
      refine ca_iS C w (wn := fun _ => w_X10_readPlate g h0 h1 h2 h3 v0_1 v0_2 v0_3 v0_4 v0_5 v0_6 v0_7 v0_8 v0_9 v0_11 v0_12 v0_13 v0_14 v0_15 v0_16 v0_17 v0_18 v0_19 v0_20 v0_24 v0_25 v0_26 v0_27 v0_28 v0_29 v0_30 v0_31 v0_32 v0_33 v0_34 v0_35 v0_36 v0_37 0 depth0 basic1 history2 state3) (pm_k [false, false, false, false] rfl rfl (fun _ => Nat.le_of_ble_eq_true rfl) (fun _ => rfl)) (c_X10_within l g F p5.toInt64 1 100 r10 _ hc11) k_X10_115 (rm_le (by decide) (by decide)) rfl hl.1 rfl (Nat.le_of_ble_eq_true rfl) dX10_readPlate_35 ⟨Nat.le_of_ble_eq_true rfl, Nat.le_of_ble_eq_true rfl⟩ (cells2 := 0) (slots2 := 0) ⟨rfl, rfl⟩ (fun _ H locs w => ?_)
      refine lv_if_ne (tgt := 47) hx hb dX10_readPlate_38 (by decide) (fun c12 => ?_) (fun c12 => ?_)
      · replace hf := it_f c12 hf
        refine lv_aload_n hx hb dX10_readPlate_47 rfl (lv_at hl 0 rfl) ?_
        refine lv_iload_n hx hb dX10_readPlate_48 rfl (lv_at hl 1 rfl) ?_
        refine lv_iload_n hx hb dX10_readPlate_49 rfl (lv_at hl 2 rfl) ?_
        refine lv_iload_n hx hb dX10_readPlate_50 rfl (lv_at hl 3 rfl) ?_
        refine lv_iconst (v := -1) hx hb dX10_readPlate_51 (by decide) ?_
        obtain ⟨r13, o14, o15, o16, o17, hc18, hf⟩ := bd5_some hf
        refine ca_iV C w (wn := fun _ => w_X10_readPlate g h0 h1 h2 h3 v0_1 v0_2 v0_3 v0_4 v0_5 v0_6 v0_7 v0_8 v0_9 v0_11 v0_12 v0_13 v0_14 v0_15 v0_16 v0_17 v0_18 v0_19 v0_20 v0_24 v0_25 v0_26 v0_27 v0_28 v0_29 v0_30 v0_31 v0_32 v0_33 v0_34 v0_35 v0_36 v0_37 o14 o15 basic1 o16 o17) (pm_k [true, true, true, true] rfl rfl (fun _ => Nat.le_of_ble_eq_true rfl) (fun _ => rfl)) (c_X10_laysReading l g F h0 h1 h2 h3 v0_1 v0_2 v0_3 v0_4 v0_5 v0_6 v0_7 v0_8 v0_9 v0_11 v0_12 v0_13 v0_14 v0_15 v0_16 v0_17 v0_18 v0_19 v0_20 v0_24 v0_25 v0_26 v0_27 v0_28 v0_29 v0_30 v0_31 v0_32 v0_33 v0_34 v0_35 v0_36 v0_37 p1 p2 p3 (-1) 0 depth0 basic1 history2 state3 r13 o14 o15 o16 o17 _ hc18) k_X10_353 (rm_le (by decide) (by decide)) 0 10 rfl rfl rfl rfl hl.1 rfl (Nat.le_of_ble_eq_true rfl) dX10_readPlate_52 ⟨Nat.le_of_ble_eq_true rfl, Nat.le_of_ble_eq_true rfl⟩ (cells2 := 0) (slots2 := 0) ⟨rfl, rfl⟩ (fun _ H locs w => ?_)
        refine lv_istore (lv' := [(6, .int r13), (0, .ref h0), (1, .int p1), (2, .int p2), (3, .int p3), (4, .int p4), (5, .int p5)]) hx hb dX10_readPlate_55 hl (by decide) rfl (fun ls hl => ?_)
        refine lv_iload hx hb dX10_readPlate_57 (lv_at hl 0 rfl) ?_
        refine lv_if_ge (tgt := 64) hx hb dX10_readPlate_59 (by decide) (fun c19 => ?_) (fun c19 => ?_)
        · replace hf := it_t c19 hf
          refine lv_aload_n hx hb dX10_readPlate_64 rfl (lv_at hl 1 rfl) ?_
          refine lv_iload hx hb dX10_readPlate_65 (lv_at hl 0 rfl) ?_
          refine lv_iload hx hb dX10_readPlate_67 (lv_at hl 5 rfl) ?_
          refine lv_iload hx hb dX10_readPlate_69 (lv_at hl 6 rfl) ?_
          obtain ⟨o20, hc21, hf⟩ := bd1_some hf
          refine ca_vV C w (wn := fun _ => w_X10_readPlate g h0 h1 h2 h3 v0_1 v0_2 v0_3 v0_4 v0_5 v0_6 v0_7 v0_8 v0_9 v0_11 v0_12 v0_13 v0_14 v0_15 v0_16 v0_17 v0_18 v0_19 v0_20 v0_24 v0_25 v0_26 v0_27 v0_28 v0_29 v0_30 v0_31 v0_32 v0_33 v0_34 v0_35 v0_36 v0_37 o14 o15 basic1 o16 o20) (pm_k [true, false, false, true] rfl rfl (fun _ => Nat.le_of_ble_eq_true rfl) (fun _ => rfl)) (c_X10_votesFor l g F h0 h3 (.int o14) v0_1 v0_2 v0_3 v0_4 v0_5 v0_6 v0_7 v0_8 v0_9 (.ref h1) v0_11 v0_12 v0_13 v0_14 v0_15 v0_16 v0_17 v0_18 v0_19 v0_20 (.ref h2) (.int o15) v0_24 v0_25 v0_26 v0_27 v0_28 v0_29 v0_30 v0_31 v0_32 v0_33 v0_34 v0_35 v0_36 v0_37 r13 p4 p5 o17 o20 _ hc21) k_X10_358 (rm_le (by decide) (by decide)) 0 10 rfl rfl rfl rfl hl.1 rfl (Nat.le_of_ble_eq_true rfl) dX10_readPlate_71 ⟨Nat.le_of_ble_eq_true rfl, Nat.le_of_ble_eq_true rfl⟩ (cells2 := 0) (slots2 := 0) ⟨rfl, rfl⟩ (fun _ H locs w => ?_)
          refine lv_iload hx hb dX10_readPlate_74 (lv_at hl 0 rfl) ?_
          obtain ⟨e1, e2, e3, e4, e5⟩ := tp5 hf
          rw [hQ]
          exact rt_i C w rfl (fun _ => 0) (by rw [← e2, ← e3, ← e4, ← e5]) e1 dX10_readPlate_76
        · replace hf := it_f c19 hf
          refine lv_iconst (v := 0) hx hb dX10_readPlate_62 (by decide) ?_
          obtain ⟨e1, e2, e3, e4, e5⟩ := tp5 hf
          rw [hQ]
          exact rt_i C w rfl (fun _ => 0) (by rw [← e2, ← e3, ← e4, ← e5]) e1 dX10_readPlate_63
      · replace hf := it_t c12 hf
        exact b41 0 depth0 history2 state3 _ _ _ hf w (lv_sub hl [0] rfl)

theorem dX10_readAxles_0 : decode cX10_readAxles 0 = .ok (.aload_n 0, 1) := by decide +kernel
theorem dX10_readAxles_1 : decode cX10_readAxles 1 = .ok (.iconst 0, 1) := by decide +kernel
theorem dX10_readAxles_2 : decode cX10_readAxles 2 = .ok (.putfield 84, 3) := by decide +kernel
theorem dX10_readAxles_5 : decode cX10_readAxles 5 = .ok (.aload_n 0, 1) := by decide +kernel
theorem dX10_readAxles_6 : decode cX10_readAxles 6 = .ok (.iload_n 1, 1) := by decide +kernel
theorem dX10_readAxles_7 : decode cX10_readAxles 7 = .ok (.iload_n 2, 1) := by decide +kernel
theorem dX10_readAxles_8 : decode cX10_readAxles 8 = .ok (.iload_n 3, 1) := by decide +kernel
theorem dX10_readAxles_9 : decode cX10_readAxles 9 = .ok (.invokevirtual 350, 3) := by decide +kernel
theorem dX10_readAxles_12 : decode cX10_readAxles 12 = .ok (.ifCond .eq 18, 3) := by decide +kernel
theorem dX10_readAxles_15 : decode cX10_readAxles 15 = .ok (.iload 4, 2) := by decide +kernel
theorem dX10_readAxles_17 : decode cX10_readAxles 17 = .ok (.i2l, 1) := by decide +kernel
theorem dX10_readAxles_18 : decode cX10_readAxles 18 = .ok (.ldc2_w 218, 3) := by decide +kernel
theorem dX10_readAxles_21 : decode cX10_readAxles 21 = .ok (.ldc2_w 220, 3) := by decide +kernel
theorem dX10_readAxles_24 : decode cX10_readAxles 24 = .ok (.invokestatic 115, 3) := by decide +kernel
theorem dX10_readAxles_27 : decode cX10_readAxles 27 = .ok (.ifCond .ne 9, 3) := by decide +kernel
theorem dX10_readAxles_30 : decode cX10_readAxles 30 = .ok (.aload_n 0, 1) := by decide +kernel
theorem dX10_readAxles_31 : decode cX10_readAxles 31 = .ok (.iconst 1, 1) := by decide +kernel
theorem dX10_readAxles_32 : decode cX10_readAxles 32 = .ok (.invokevirtual 202, 3) := by decide +kernel
theorem dX10_readAxles_35 : decode cX10_readAxles 35 = .ok (.ireturn, 1) := by decide +kernel
theorem dX10_readAxles_36 : decode cX10_readAxles 36 = .ok (.aload_n 0, 1) := by decide +kernel
theorem dX10_readAxles_37 : decode cX10_readAxles 37 = .ok (.iload_n 1, 1) := by decide +kernel
theorem dX10_readAxles_38 : decode cX10_readAxles 38 = .ok (.iload_n 2, 1) := by decide +kernel
theorem dX10_readAxles_39 : decode cX10_readAxles 39 = .ok (.iload_n 3, 1) := by decide +kernel
theorem dX10_readAxles_40 : decode cX10_readAxles 40 = .ok (.iconst (-1), 1) := by decide +kernel
theorem dX10_readAxles_41 : decode cX10_readAxles 41 = .ok (.invokevirtual 353, 3) := by decide +kernel
theorem dX10_readAxles_44 : decode cX10_readAxles 44 = .ok (.istore 5, 2) := by decide +kernel
theorem dX10_readAxles_46 : decode cX10_readAxles 46 = .ok (.iload 5, 2) := by decide +kernel
theorem dX10_readAxles_48 : decode cX10_readAxles 48 = .ok (.ifCond .ge 5, 3) := by decide +kernel
theorem dX10_readAxles_51 : decode cX10_readAxles 51 = .ok (.iconst 0, 1) := by decide +kernel
theorem dX10_readAxles_52 : decode cX10_readAxles 52 = .ok (.ireturn, 1) := by decide +kernel
theorem dX10_readAxles_53 : decode cX10_readAxles 53 = .ok (.aload_n 0, 1) := by decide +kernel
theorem dX10_readAxles_54 : decode cX10_readAxles 54 = .ok (.iload 5, 2) := by decide +kernel
theorem dX10_readAxles_56 : decode cX10_readAxles 56 = .ok (.bipush 14, 2) := by decide +kernel
theorem dX10_readAxles_58 : decode cX10_readAxles 58 = .ok (.iload 4, 2) := by decide +kernel
theorem dX10_readAxles_60 : decode cX10_readAxles 60 = .ok (.iadd, 1) := by decide +kernel
theorem dX10_readAxles_61 : decode cX10_readAxles 61 = .ok (.iconst 2, 1) := by decide +kernel
theorem dX10_readAxles_62 : decode cX10_readAxles 62 = .ok (.isub, 1) := by decide +kernel
theorem dX10_readAxles_63 : decode cX10_readAxles 63 = .ok (.aload_n 0, 1) := by decide +kernel
theorem dX10_readAxles_64 : decode cX10_readAxles 64 = .ok (.iload 5, 2) := by decide +kernel
theorem dX10_readAxles_66 : decode cX10_readAxles 66 = .ok (.bipush 14, 2) := by decide +kernel
theorem dX10_readAxles_68 : decode cX10_readAxles 68 = .ok (.iload 4, 2) := by decide +kernel
theorem dX10_readAxles_70 : decode cX10_readAxles 70 = .ok (.iadd, 1) := by decide +kernel
theorem dX10_readAxles_71 : decode cX10_readAxles 71 = .ok (.iconst 2, 1) := by decide +kernel
theorem dX10_readAxles_72 : decode cX10_readAxles 72 = .ok (.isub, 1) := by decide +kernel
theorem dX10_readAxles_73 : decode cX10_readAxles 73 = .ok (.invokevirtual 250, 3) := by decide +kernel
theorem dX10_readAxles_76 : decode cX10_readAxles 76 = .ok (.iconst 1, 1) := by decide +kernel
theorem dX10_readAxles_77 : decode cX10_readAxles 77 = .ok (.iadd, 1) := by decide +kernel
theorem dX10_readAxles_78 : decode cX10_readAxles 78 = .ok (.invokevirtual 346, 3) := by decide +kernel
theorem dX10_readAxles_81 : decode cX10_readAxles 81 = .ok (.iload 5, 2) := by decide +kernel
theorem dX10_readAxles_83 : decode cX10_readAxles 83 = .ok (.ireturn, 1) := by decide +kernel
abbrev m_X10_readAxles : MD := (yX10_readAxles, cX10_readAxles, 6, (some .int))

abbrev w_X10_readAxles (g : GT) (h0 h1 h2 h3 : Nat) (v0_1 v0_2 v0_3 v0_4 v0_5 v0_6 v0_7 v0_8 v0_9 v0_11 v0_12 v0_13 v0_14 v0_15 v0_16 v0_17 v0_18 v0_19 v0_20 v0_24 v0_25 v0_26 v0_27 v0_28 v0_29 v0_30 v0_31 v0_32 v0_33 v0_34 v0_35 v0_36 v0_37 : Value) (thrown0 depth0 : Int32) (basic1 history2 state3 : Nat → Int32) : va_W := [(h0, .inr (10, [.int thrown0, v0_1, v0_2, v0_3, v0_4, v0_5, v0_6, v0_7, v0_8, v0_9, .ref h1, v0_11, v0_12, v0_13, v0_14, v0_15, v0_16, v0_17, v0_18, v0_19, v0_20, .ref h3, .ref h2, .int depth0, v0_24, v0_25, v0_26, v0_27, v0_28, v0_29, v0_30, v0_31, v0_32, v0_33, v0_34, v0_35, v0_36, v0_37])), (h1, aI g 7 basic1), (h2, aI g 25240 history2), (h3, aI g 2524 state3)]
def f_X10_readAxles_b30 (F : Nat) (basic1 : Nat → Int32) (thrown0 depth0 : Int32) (history2 state3 : Nat → Int32) : Option (Int32 × Int32 × Int32 × (Nat → Int32) × (Nat → Int32)) :=
  bd2 (f_X10_fail F 1 thrown0) fun r1 o2 =>
  some (r1, o2, depth0, history2, state3)
def f_X10_readAxles (F : Nat) (p1 p2 p3 p4 thrown0 depth0 : Int32) (basic1 history2 state3 : Nat → Int32) : Option (Int32 × Int32 × Int32 × (Nat → Int32) × (Nat → Int32)) :=
  bd1 (f_X10_isReading F p1 p2 p3 basic1 state3) fun r4 =>
  if r4 = 0 then
    f_X10_readAxles_b30 F basic1 0 depth0 history2 state3
  else
    bd1 (f_X10_within F p4.toInt64 2 9) fun r7 =>
    if r7 = 0 then
      f_X10_readAxles_b30 F basic1 0 depth0 history2 state3
    else
      bd5 (f_X10_laysReading F p1 p2 p3 (-1) 0 depth0 basic1 history2 state3) fun r10 o11 o12 o13 o14 =>
      if 0 ≤ r10 then
        bd1 (f_X10_ofPassage F r10 ((14 + p4) - 2) o14) fun r17 =>
        bd1 (f_X10_setPassage F r10 ((14 + p4) - 2) (r17 + 1) o14) fun o19 =>
        some (r10, o11, o12, o13, o19)
      else
        some (0, o11, o12, o13, o14)
set_option maxHeartbeats 4000000 in
set_option maxRecDepth 100000 in
theorem c_X10_readAxles (l : Launch) (g : GT) (F : Nat) (h0 h1 h2 h3 : Nat) (v0_1 v0_2 v0_3 v0_4 v0_5 v0_6 v0_7 v0_8 v0_9 v0_11 v0_12 v0_13 v0_14 v0_15 v0_16 v0_17 v0_18 v0_19 v0_20 v0_24 v0_25 v0_26 v0_27 v0_28 v0_29 v0_30 v0_31 v0_32 v0_33 v0_34 v0_35 v0_36 v0_37 : Value) (p1 p2 p3 p4 thrown0 depth0 : Int32) (basic1 history2 state3 : Nat → Int32) (r o_thrown0 o_depth0 : Int32) (o_history2 o_state3 : Nat → Int32) (sz : Nat) (hf : f_X10_readAxles F p1 p2 p3 p4 thrown0 depth0 basic1 history2 state3 = some (r, o_thrown0, o_depth0, o_history2, o_state3)) : CI l m_X10_readAxles (rml 4 0 0) g (w_X10_readAxles g h0 h1 h2 h3 v0_1 v0_2 v0_3 v0_4 v0_5 v0_6 v0_7 v0_8 v0_9 v0_11 v0_12 v0_13 v0_14 v0_15 v0_16 v0_17 v0_18 v0_19 v0_20 v0_24 v0_25 v0_26 v0_27 v0_28 v0_29 v0_30 v0_31 v0_32 v0_33 v0_34 v0_35 v0_36 v0_37 thrown0 depth0 basic1 history2 state3) (fun _ => w_X10_readAxles g h0 h1 h2 h3 v0_1 v0_2 v0_3 v0_4 v0_5 v0_6 v0_7 v0_8 v0_9 v0_11 v0_12 v0_13 v0_14 v0_15 v0_16 v0_17 v0_18 v0_19 v0_20 v0_24 v0_25 v0_26 v0_27 v0_28 v0_29 v0_30 v0_31 v0_32 v0_33 v0_34 v0_35 v0_36 v0_37 o_thrown0 o_depth0 basic1 o_history2 o_state3) sz [.ref h0, .int p1, .int p2, .int p3, .int p4] r := by
  refine en_i (by decide) (Nat.le_of_ble_eq_true rfl) (fun p e s m args below meth c A ls C w hl => ?_)
  have C : Cx p s m args meth c RX10 m_X10_readAxles g A := C
  have hx := C.1
  have hb : c.code = cX10_readAxles := C.2.1
  have hl : lv_has ls 6 [(0, .ref h0), (1, .int p1), (2, .int p2), (3, .int p3), (4, .int p4)] := hl
  obtain ⟨Q, hQ⟩ : ∃ Q, Q = QI below args s g A (fun _ => w_X10_readAxles g h0 h1 h2 h3 v0_1 v0_2 v0_3 v0_4 v0_5 v0_6 v0_7 v0_8 v0_9 v0_11 v0_12 v0_13 v0_14 v0_15 v0_16 v0_17 v0_18 v0_19 v0_20 v0_24 v0_25 v0_26 v0_27 v0_28 v0_29 v0_30 v0_31 v0_32 v0_33 v0_34 v0_35 v0_36 v0_37 o_thrown0 o_depth0 basic1 o_history2 o_state3) r 0 0 := ⟨_, rfl⟩
  suffices hW : W p l e (rml 4 0 0) s m args below meth c s.heap [] 0 0 Q (F0 m 0 ls []) from (by rw [hQ] at hW; exact hW)
  unfold f_X10_readAxles at hf
  have b30 : ∀ (thrown0 depth0 : Int32) (history2 state3 : Nat → Int32) (H : Heap) (locs : List Loc) (ls : Array Slot), f_X10_readAxles_b30 F basic1 thrown0 depth0 history2 state3 = some (r, o_thrown0, o_depth0, o_history2, o_state3) → Wd g A (w_X10_readAxles g h0 h1 h2 h3 v0_1 v0_2 v0_3 v0_4 v0_5 v0_6 v0_7 v0_8 v0_9 v0_11 v0_12 v0_13 v0_14 v0_15 v0_16 v0_17 v0_18 v0_19 v0_20 v0_24 v0_25 v0_26 v0_27 v0_28 v0_29 v0_30 v0_31 v0_32 v0_33 v0_34 v0_35 v0_36 v0_37 thrown0 depth0 basic1 history2 state3) s.heap H locs → lv_has ls 6 [(0, .ref h0)] → W p l e (rml 4 0 0) s m args below meth c H locs 0 0 Q (F0 m 30 ls []) := by
    intro thrown0 depth0 history2 state3 H locs ls hf w hl
    unfold f_X10_readAxles_b30 at hf
    refine lv_aload_n hx hb dX10_readAxles_30 rfl (lv_at hl 0 rfl) ?_
    refine lv_iconst (v := 1) hx hb dX10_readAxles_31 (by decide) ?_
    obtain ⟨r1, o2, hc3, hf⟩ := bd2_some hf
    refine ca_iV C w (wn := fun _ => w_X10_readAxles g h0 h1 h2 h3 v0_1 v0_2 v0_3 v0_4 v0_5 v0_6 v0_7 v0_8 v0_9 v0_11 v0_12 v0_13 v0_14 v0_15 v0_16 v0_17 v0_18 v0_19 v0_20 v0_24 v0_25 v0_26 v0_27 v0_28 v0_29 v0_30 v0_31 v0_32 v0_33 v0_34 v0_35 v0_36 v0_37 o2 depth0 basic1 history2 state3) (pm_k [true, false, false, false] rfl rfl (fun _ => Nat.le_of_ble_eq_true rfl) (fun _ => rfl)) (c_X10_fail l g F h0 v0_1 v0_2 v0_3 v0_4 v0_5 v0_6 v0_7 v0_8 v0_9 (.ref h1) v0_11 v0_12 v0_13 v0_14 v0_15 v0_16 v0_17 v0_18 v0_19 v0_20 (.ref h3) (.ref h2) (.int depth0) v0_24 v0_25 v0_26 v0_27 v0_28 v0_29 v0_30 v0_31 v0_32 v0_33 v0_34 v0_35 v0_36 v0_37 1 thrown0 r1 o2 _ hc3) k_X10_202 (rm_le (by decide) (by decide)) 0 10 rfl rfl rfl rfl hl.1 rfl (Nat.le_of_ble_eq_true rfl) dX10_readAxles_32 ⟨Nat.le_of_ble_eq_true rfl, Nat.le_of_ble_eq_true rfl⟩ (cells2 := 0) (slots2 := 0) ⟨rfl, rfl⟩ (fun _ H locs w => ?_)
    obtain ⟨e1, e2, e3, e4, e5⟩ := tp5 hf
    rw [hQ]
    exact rt_i C w rfl (fun _ => 0) (by rw [← e2, ← e3, ← e4, ← e5]) e1 dX10_readAxles_35
  refine lv_aload_n hx hb dX10_readAxles_0 rfl (lv_at hl 0 rfl) ?_
  refine lv_iconst (v := 0) hx hb dX10_readAxles_1 (by decide) ?_
  refine p_X10_84 C w 0 rfl (Nat.le_of_ble_eq_true rfl) (ws2 := w_X10_readAxles g h0 h1 h2 h3 v0_1 v0_2 v0_3 v0_4 v0_5 v0_6 v0_7 v0_8 v0_9 v0_11 v0_12 v0_13 v0_14 v0_15 v0_16 v0_17 v0_18 v0_19 v0_20 v0_24 v0_25 v0_26 v0_27 v0_28 v0_29 v0_30 v0_31 v0_32 v0_33 v0_34 v0_35 v0_36 v0_37 0 depth0 basic1 history2 state3) rfl dX10_readAxles_2 (fun H locs w => ?_)
  refine lv_aload_n hx hb dX10_readAxles_5 rfl (lv_at hl 0 rfl) ?_
  refine lv_iload_n hx hb dX10_readAxles_6 rfl (lv_at hl 1 rfl) ?_
  refine lv_iload_n hx hb dX10_readAxles_7 rfl (lv_at hl 2 rfl) ?_
  refine lv_iload_n hx hb dX10_readAxles_8 rfl (lv_at hl 3 rfl) ?_
  obtain ⟨r4, hc5, hf⟩ := bd1_some hf
  refine ca_iV C w (wn := fun _ => w_X10_readAxles g h0 h1 h2 h3 v0_1 v0_2 v0_3 v0_4 v0_5 v0_6 v0_7 v0_8 v0_9 v0_11 v0_12 v0_13 v0_14 v0_15 v0_16 v0_17 v0_18 v0_19 v0_20 v0_24 v0_25 v0_26 v0_27 v0_28 v0_29 v0_30 v0_31 v0_32 v0_33 v0_34 v0_35 v0_36 v0_37 0 depth0 basic1 history2 state3) (pm_k [true, true, false, true] rfl rfl (fun _ => Nat.le_of_ble_eq_true rfl) (fun _ => rfl)) (c_X10_isReading l g F h0 h1 h3 (.int 0) v0_1 v0_2 v0_3 v0_4 v0_5 v0_6 v0_7 v0_8 v0_9 v0_11 v0_12 v0_13 v0_14 v0_15 v0_16 v0_17 v0_18 v0_19 v0_20 (.ref h2) (.int depth0) v0_24 v0_25 v0_26 v0_27 v0_28 v0_29 v0_30 v0_31 v0_32 v0_33 v0_34 v0_35 v0_36 v0_37 p1 p2 p3 basic1 state3 r4 _ hc5) k_X10_350 (rm_le (by decide) (by decide)) 0 10 rfl rfl rfl rfl hl.1 rfl (Nat.le_of_ble_eq_true rfl) dX10_readAxles_9 ⟨Nat.le_of_ble_eq_true rfl, Nat.le_of_ble_eq_true rfl⟩ (cells2 := 0) (slots2 := 0) ⟨rfl, rfl⟩ (fun _ H locs w => ?_)
  refine lv_if_eq (tgt := 30) hx hb dX10_readAxles_12 (by decide) (fun c6 => ?_) (fun c6 => ?_)
  · replace hf := it_t c6 hf
    exact b30 0 depth0 history2 state3 _ _ _ hf w (lv_sub hl [0] rfl)
  · replace hf := it_f c6 hf
    refine lv_iload hx hb dX10_readAxles_15 (lv_at hl 4 rfl) ?_
    refine lv_i2l (v := p4.toInt64) hx hb dX10_readAxles_17 rfl ?_
    refine lv_ldc2 (v := 2) hx hb C.2.2.2.1 (C.2.2.2.2.1 _ q_1449) dX10_readAxles_18 ?_
    refine lv_ldc2 (v := 9) hx hb C.2.2.2.1 (C.2.2.2.2.1 _ q_1450) dX10_readAxles_21 ?_
    obtain ⟨r7, hc8, hf⟩ := bd1_some hf
    refine ca_iS C w (wn := fun _ => w_X10_readAxles g h0 h1 h2 h3 v0_1 v0_2 v0_3 v0_4 v0_5 v0_6 v0_7 v0_8 v0_9 v0_11 v0_12 v0_13 v0_14 v0_15 v0_16 v0_17 v0_18 v0_19 v0_20 v0_24 v0_25 v0_26 v0_27 v0_28 v0_29 v0_30 v0_31 v0_32 v0_33 v0_34 v0_35 v0_36 v0_37 0 depth0 basic1 history2 state3) (pm_k [false, false, false, false] rfl rfl (fun _ => Nat.le_of_ble_eq_true rfl) (fun _ => rfl)) (c_X10_within l g F p4.toInt64 2 9 r7 _ hc8) k_X10_115 (rm_le (by decide) (by decide)) rfl hl.1 rfl (Nat.le_of_ble_eq_true rfl) dX10_readAxles_24 ⟨Nat.le_of_ble_eq_true rfl, Nat.le_of_ble_eq_true rfl⟩ (cells2 := 0) (slots2 := 0) ⟨rfl, rfl⟩ (fun _ H locs w => ?_)
    refine lv_if_ne (tgt := 36) hx hb dX10_readAxles_27 (by decide) (fun c9 => ?_) (fun c9 => ?_)
    · replace hf := it_f c9 hf
      refine lv_aload_n hx hb dX10_readAxles_36 rfl (lv_at hl 0 rfl) ?_
      refine lv_iload_n hx hb dX10_readAxles_37 rfl (lv_at hl 1 rfl) ?_
      refine lv_iload_n hx hb dX10_readAxles_38 rfl (lv_at hl 2 rfl) ?_
      refine lv_iload_n hx hb dX10_readAxles_39 rfl (lv_at hl 3 rfl) ?_
      refine lv_iconst (v := -1) hx hb dX10_readAxles_40 (by decide) ?_
      obtain ⟨r10, o11, o12, o13, o14, hc15, hf⟩ := bd5_some hf
      refine ca_iV C w (wn := fun _ => w_X10_readAxles g h0 h1 h2 h3 v0_1 v0_2 v0_3 v0_4 v0_5 v0_6 v0_7 v0_8 v0_9 v0_11 v0_12 v0_13 v0_14 v0_15 v0_16 v0_17 v0_18 v0_19 v0_20 v0_24 v0_25 v0_26 v0_27 v0_28 v0_29 v0_30 v0_31 v0_32 v0_33 v0_34 v0_35 v0_36 v0_37 o11 o12 basic1 o13 o14) (pm_k [true, true, true, true] rfl rfl (fun _ => Nat.le_of_ble_eq_true rfl) (fun _ => rfl)) (c_X10_laysReading l g F h0 h1 h2 h3 v0_1 v0_2 v0_3 v0_4 v0_5 v0_6 v0_7 v0_8 v0_9 v0_11 v0_12 v0_13 v0_14 v0_15 v0_16 v0_17 v0_18 v0_19 v0_20 v0_24 v0_25 v0_26 v0_27 v0_28 v0_29 v0_30 v0_31 v0_32 v0_33 v0_34 v0_35 v0_36 v0_37 p1 p2 p3 (-1) 0 depth0 basic1 history2 state3 r10 o11 o12 o13 o14 _ hc15) k_X10_353 (rm_le (by decide) (by decide)) 0 10 rfl rfl rfl rfl hl.1 rfl (Nat.le_of_ble_eq_true rfl) dX10_readAxles_41 ⟨Nat.le_of_ble_eq_true rfl, Nat.le_of_ble_eq_true rfl⟩ (cells2 := 0) (slots2 := 0) ⟨rfl, rfl⟩ (fun _ H locs w => ?_)
      refine lv_istore (lv' := [(5, .int r10), (0, .ref h0), (1, .int p1), (2, .int p2), (3, .int p3), (4, .int p4)]) hx hb dX10_readAxles_44 hl (by decide) rfl (fun ls hl => ?_)
      refine lv_iload hx hb dX10_readAxles_46 (lv_at hl 0 rfl) ?_
      refine lv_if_ge (tgt := 53) hx hb dX10_readAxles_48 (by decide) (fun c16 => ?_) (fun c16 => ?_)
      · replace hf := it_t c16 hf
        refine lv_aload_n hx hb dX10_readAxles_53 rfl (lv_at hl 1 rfl) ?_
        refine lv_iload hx hb dX10_readAxles_54 (lv_at hl 0 rfl) ?_
        refine lv_bipush (v := 14) hx hb dX10_readAxles_56 (by decide) ?_
        refine lv_iload hx hb dX10_readAxles_58 (lv_at hl 5 rfl) ?_
        refine lv_iadd hx hb dX10_readAxles_60 ?_
        refine lv_iconst (v := 2) hx hb dX10_readAxles_61 (by decide) ?_
        refine lv_isub hx hb dX10_readAxles_62 ?_
        refine lv_aload_n hx hb dX10_readAxles_63 rfl (lv_at hl 1 rfl) ?_
        refine lv_iload hx hb dX10_readAxles_64 (lv_at hl 0 rfl) ?_
        refine lv_bipush (v := 14) hx hb dX10_readAxles_66 (by decide) ?_
        refine lv_iload hx hb dX10_readAxles_68 (lv_at hl 5 rfl) ?_
        refine lv_iadd hx hb dX10_readAxles_70 ?_
        refine lv_iconst (v := 2) hx hb dX10_readAxles_71 (by decide) ?_
        refine lv_isub hx hb dX10_readAxles_72 ?_
        obtain ⟨r17, hc18, hf⟩ := bd1_some hf
        refine ca_iV C w (wn := fun _ => w_X10_readAxles g h0 h1 h2 h3 v0_1 v0_2 v0_3 v0_4 v0_5 v0_6 v0_7 v0_8 v0_9 v0_11 v0_12 v0_13 v0_14 v0_15 v0_16 v0_17 v0_18 v0_19 v0_20 v0_24 v0_25 v0_26 v0_27 v0_28 v0_29 v0_30 v0_31 v0_32 v0_33 v0_34 v0_35 v0_36 v0_37 o11 o12 basic1 o13 o14) (pm_k [true, false, false, true] rfl rfl (fun _ => Nat.le_of_ble_eq_true rfl) (fun _ => rfl)) (c_X10_ofPassage l g F h0 h3 (.int o11) v0_1 v0_2 v0_3 v0_4 v0_5 v0_6 v0_7 v0_8 v0_9 (.ref h1) v0_11 v0_12 v0_13 v0_14 v0_15 v0_16 v0_17 v0_18 v0_19 v0_20 (.ref h2) (.int o12) v0_24 v0_25 v0_26 v0_27 v0_28 v0_29 v0_30 v0_31 v0_32 v0_33 v0_34 v0_35 v0_36 v0_37 r10 ((14 + p4) - 2) o14 r17 _ hc18) k_X10_250 (rm_le (by decide) (by decide)) 0 10 rfl rfl rfl rfl hl.1 rfl (Nat.le_of_ble_eq_true rfl) dX10_readAxles_73 ⟨Nat.le_of_ble_eq_true rfl, Nat.le_of_ble_eq_true rfl⟩ (cells2 := 0) (slots2 := 0) ⟨rfl, rfl⟩ (fun _ H locs w => ?_)
        refine lv_iconst (v := 1) hx hb dX10_readAxles_76 (by decide) ?_
        refine lv_iadd hx hb dX10_readAxles_77 ?_
        obtain ⟨o19, hc20, hf⟩ := bd1_some hf
        refine ca_vV C w (wn := fun _ => w_X10_readAxles g h0 h1 h2 h3 v0_1 v0_2 v0_3 v0_4 v0_5 v0_6 v0_7 v0_8 v0_9 v0_11 v0_12 v0_13 v0_14 v0_15 v0_16 v0_17 v0_18 v0_19 v0_20 v0_24 v0_25 v0_26 v0_27 v0_28 v0_29 v0_30 v0_31 v0_32 v0_33 v0_34 v0_35 v0_36 v0_37 o11 o12 basic1 o13 o19) (pm_k [true, false, false, true] rfl rfl (fun _ => Nat.le_of_ble_eq_true rfl) (fun _ => rfl)) (c_X10_setPassage l g F h0 h3 (.int o11) v0_1 v0_2 v0_3 v0_4 v0_5 v0_6 v0_7 v0_8 v0_9 (.ref h1) v0_11 v0_12 v0_13 v0_14 v0_15 v0_16 v0_17 v0_18 v0_19 v0_20 (.ref h2) (.int o12) v0_24 v0_25 v0_26 v0_27 v0_28 v0_29 v0_30 v0_31 v0_32 v0_33 v0_34 v0_35 v0_36 v0_37 r10 ((14 + p4) - 2) (r17 + 1) o14 o19 _ hc20) k_X10_346 (rm_le (by decide) (by decide)) 0 10 rfl rfl rfl rfl hl.1 rfl (Nat.le_of_ble_eq_true rfl) dX10_readAxles_78 ⟨Nat.le_of_ble_eq_true rfl, Nat.le_of_ble_eq_true rfl⟩ (cells2 := 0) (slots2 := 0) ⟨rfl, rfl⟩ (fun _ H locs w => ?_)
        refine lv_iload hx hb dX10_readAxles_81 (lv_at hl 0 rfl) ?_
        obtain ⟨e1, e2, e3, e4, e5⟩ := tp5 hf
        rw [hQ]
        exact rt_i C w rfl (fun _ => 0) (by rw [← e2, ← e3, ← e4, ← e5]) e1 dX10_readAxles_83
      · replace hf := it_f c16 hf
        refine lv_iconst (v := 0) hx hb dX10_readAxles_51 (by decide) ?_
        obtain ⟨e1, e2, e3, e4, e5⟩ := tp5 hf
        rw [hQ]
        exact rt_i C w rfl (fun _ => 0) (by rw [← e2, ← e3, ← e4, ← e5]) e1 dX10_readAxles_52
    · replace hf := it_t c9 hf
      exact b30 0 depth0 history2 state3 _ _ _ hf w (lv_sub hl [0] rfl)

theorem dX10_assign_0 : decode cX10_assign 0 = .ok (.aload_n 0, 1) := by decide +kernel
theorem dX10_assign_1 : decode cX10_assign 1 = .ok (.iconst 0, 1) := by decide +kernel
theorem dX10_assign_2 : decode cX10_assign 2 = .ok (.putfield 84, 3) := by decide +kernel
theorem dX10_assign_5 : decode cX10_assign 5 = .ok (.aload_n 0, 1) := by decide +kernel
theorem dX10_assign_6 : decode cX10_assign 6 = .ok (.iload_n 1, 1) := by decide +kernel
theorem dX10_assign_7 : decode cX10_assign 7 = .ok (.invokevirtual 271, 3) := by decide +kernel
theorem dX10_assign_10 : decode cX10_assign 10 = .ok (.ifCond .ne 9, 3) := by decide +kernel
theorem dX10_assign_13 : decode cX10_assign 13 = .ok (.aload_n 0, 1) := by decide +kernel
theorem dX10_assign_14 : decode cX10_assign 14 = .ok (.iconst 1, 1) := by decide +kernel
theorem dX10_assign_15 : decode cX10_assign 15 = .ok (.invokevirtual 202, 3) := by decide +kernel
theorem dX10_assign_18 : decode cX10_assign 18 = .ok (.ireturn, 1) := by decide +kernel
theorem dX10_assign_19 : decode cX10_assign 19 = .ok (.iload_n 3, 1) := by decide +kernel
theorem dX10_assign_20 : decode cX10_assign 20 = .ok (.i2l, 1) := by decide +kernel
theorem dX10_assign_21 : decode cX10_assign 21 = .ok (.iload 4, 2) := by decide +kernel
theorem dX10_assign_23 : decode cX10_assign 23 = .ok (.i2l, 1) := by decide +kernel
theorem dX10_assign_24 : decode cX10_assign 24 = .ok (.iload 5, 2) := by decide +kernel
theorem dX10_assign_26 : decode cX10_assign 26 = .ok (.i2l, 1) := by decide +kernel
theorem dX10_assign_27 : decode cX10_assign 27 = .ok (.invokestatic 115, 3) := by decide +kernel
theorem dX10_assign_30 : decode cX10_assign 30 = .ok (.ifCond .ne 9, 3) := by decide +kernel
theorem dX10_assign_33 : decode cX10_assign 33 = .ok (.aload_n 0, 1) := by decide +kernel
theorem dX10_assign_34 : decode cX10_assign 34 = .ok (.iconst 2, 1) := by decide +kernel
theorem dX10_assign_35 : decode cX10_assign 35 = .ok (.invokevirtual 202, 3) := by decide +kernel
theorem dX10_assign_38 : decode cX10_assign 38 = .ok (.ireturn, 1) := by decide +kernel
theorem dX10_assign_39 : decode cX10_assign 39 = .ok (.aload_n 0, 1) := by decide +kernel
theorem dX10_assign_40 : decode cX10_assign 40 = .ok (.iload_n 1, 1) := by decide +kernel
theorem dX10_assign_41 : decode cX10_assign 41 = .ok (.iconst 3, 1) := by decide +kernel
theorem dX10_assign_42 : decode cX10_assign 42 = .ok (.invokevirtual 250, 3) := by decide +kernel
theorem dX10_assign_45 : decode cX10_assign 45 = .ok (.ifCond .eq 9, 3) := by decide +kernel
theorem dX10_assign_48 : decode cX10_assign 48 = .ok (.aload_n 0, 1) := by decide +kernel
theorem dX10_assign_49 : decode cX10_assign 49 = .ok (.iconst 3, 1) := by decide +kernel
theorem dX10_assign_50 : decode cX10_assign 50 = .ok (.invokevirtual 202, 3) := by decide +kernel
theorem dX10_assign_53 : decode cX10_assign 53 = .ok (.ireturn, 1) := by decide +kernel
theorem dX10_assign_54 : decode cX10_assign 54 = .ok (.aload_n 0, 1) := by decide +kernel
theorem dX10_assign_55 : decode cX10_assign 55 = .ok (.invokevirtual 343, 3) := by decide +kernel
theorem dX10_assign_58 : decode cX10_assign 58 = .ok (.aload_n 0, 1) := by decide +kernel
theorem dX10_assign_59 : decode cX10_assign 59 = .ok (.iload_n 1, 1) := by decide +kernel
theorem dX10_assign_60 : decode cX10_assign 60 = .ok (.iload_n 2, 1) := by decide +kernel
theorem dX10_assign_61 : decode cX10_assign 61 = .ok (.iload_n 3, 1) := by decide +kernel
theorem dX10_assign_62 : decode cX10_assign 62 = .ok (.invokevirtual 346, 3) := by decide +kernel
theorem dX10_assign_65 : decode cX10_assign 65 = .ok (.aload_n 0, 1) := by decide +kernel
theorem dX10_assign_66 : decode cX10_assign 66 = .ok (.iload_n 1, 1) := by decide +kernel
theorem dX10_assign_67 : decode cX10_assign 67 = .ok (.invokevirtual 274, 3) := by decide +kernel
theorem dX10_assign_70 : decode cX10_assign 70 = .ok (.ireturn, 1) := by decide +kernel
abbrev m_X10_assign : MD := (yX10_assign, cX10_assign, 6, (some .int))

abbrev w_X10_assign (g : GT) (h0 h1 h2 h3 h4 h5 h6 : Nat) (v0_1 v0_2 v0_3 v0_4 v0_5 v0_6 v0_7 v0_8 v0_9 v0_11 v0_12 v0_13 v0_14 v0_15 v0_17 v0_20 v0_24 v0_25 v0_26 v0_27 v0_28 v0_29 v0_30 v0_31 v0_32 v0_33 v0_34 v0_35 v0_36 v0_37 : Value) (thrown0 depth0 : Int32) (basic1 classAxles2 history3 state4 tagAxles5 tagPlate6 : Nat → Int32) : va_W := [(h0, .inr (10, [.int thrown0, v0_1, v0_2, v0_3, v0_4, v0_5, v0_6, v0_7, v0_8, v0_9, .ref h1, v0_11, v0_12, v0_13, v0_14, v0_15, .ref h2, v0_17, .ref h6, .ref h5, v0_20, .ref h4, .ref h3, .int depth0, v0_24, v0_25, v0_26, v0_27, v0_28, v0_29, v0_30, v0_31, v0_32, v0_33, v0_34, v0_35, v0_36, v0_37])), (h1, aI g 7 basic1), (h2, aI g 8 classAxles2), (h3, aI g 25240 history3), (h4, aI g 2524 state4), (h5, aI g 24 tagAxles5), (h6, aI g 24 tagPlate6)]
def f_X10_assign (F : Nat) (p1 p2 p3 p4 p5 thrown0 depth0 : Int32) (basic1 classAxles2 history3 state4 tagAxles5 tagPlate6 : Nat → Int32) : Option (Int32 × Int32 × Int32 × (Nat → Int32) × (Nat → Int32)) :=
  bd1 (f_X10_isPassage F p1 state4) fun r1 =>
  if r1 = 0 then
    bd2 (f_X10_fail F 1 0) fun r23 o24 =>
    some (r23, o24, depth0, history3, state4)
  else
    bd1 (f_X10_within F p3.toInt64 p4.toInt64 p5.toInt64) fun r4 =>
    if r4 = 0 then
      bd2 (f_X10_fail F 2 0) fun r20 o21 =>
      some (r20, o21, depth0, history3, state4)
    else
      bd1 (f_X10_ofPassage F p1 3 state4) fun r7 =>
      if r7 = 0 then
        bd2 (f_X10_keep F depth0 history3 state4) fun o10 o11 =>
        bd1 (f_X10_setPassage F p1 p2 p3 state4) fun o13 =>
        bd1 (f_X10_exceptionsOf F p1 basic1 classAxles2 o13 tagAxles5 tagPlate6) fun r15 =>
        some (r15, 0, o10, o11, o13)
      else
        bd2 (f_X10_fail F 3 0) fun r17 o18 =>
        some (r17, o18, depth0, history3, state4)
set_option maxHeartbeats 4000000 in
set_option maxRecDepth 100000 in
theorem c_X10_assign (l : Launch) (g : GT) (F : Nat) (h0 h1 h2 h3 h4 h5 h6 : Nat) (v0_1 v0_2 v0_3 v0_4 v0_5 v0_6 v0_7 v0_8 v0_9 v0_11 v0_12 v0_13 v0_14 v0_15 v0_17 v0_20 v0_24 v0_25 v0_26 v0_27 v0_28 v0_29 v0_30 v0_31 v0_32 v0_33 v0_34 v0_35 v0_36 v0_37 : Value) (p1 p2 p3 p4 p5 thrown0 depth0 : Int32) (basic1 classAxles2 history3 state4 tagAxles5 tagPlate6 : Nat → Int32) (r o_thrown0 o_depth0 : Int32) (o_history3 o_state4 : Nat → Int32) (sz : Nat) (hf : f_X10_assign F p1 p2 p3 p4 p5 thrown0 depth0 basic1 classAxles2 history3 state4 tagAxles5 tagPlate6 = some (r, o_thrown0, o_depth0, o_history3, o_state4)) : CI l m_X10_assign (rml 4 0 0) g (w_X10_assign g h0 h1 h2 h3 h4 h5 h6 v0_1 v0_2 v0_3 v0_4 v0_5 v0_6 v0_7 v0_8 v0_9 v0_11 v0_12 v0_13 v0_14 v0_15 v0_17 v0_20 v0_24 v0_25 v0_26 v0_27 v0_28 v0_29 v0_30 v0_31 v0_32 v0_33 v0_34 v0_35 v0_36 v0_37 thrown0 depth0 basic1 classAxles2 history3 state4 tagAxles5 tagPlate6) (fun _ => w_X10_assign g h0 h1 h2 h3 h4 h5 h6 v0_1 v0_2 v0_3 v0_4 v0_5 v0_6 v0_7 v0_8 v0_9 v0_11 v0_12 v0_13 v0_14 v0_15 v0_17 v0_20 v0_24 v0_25 v0_26 v0_27 v0_28 v0_29 v0_30 v0_31 v0_32 v0_33 v0_34 v0_35 v0_36 v0_37 o_thrown0 o_depth0 basic1 classAxles2 o_history3 o_state4 tagAxles5 tagPlate6) sz [.ref h0, .int p1, .int p2, .int p3, .int p4, .int p5] r := by
  refine en_i (by decide) (Nat.le_of_ble_eq_true rfl) (fun p e s m args below meth c A ls C w hl => ?_)
  have C : Cx p s m args meth c RX10 m_X10_assign g A := C
  have hx := C.1
  have hb : c.code = cX10_assign := C.2.1
  have hl : lv_has ls 6 [(0, .ref h0), (1, .int p1), (2, .int p2), (3, .int p3), (4, .int p4), (5, .int p5)] := hl
  obtain ⟨Q, hQ⟩ : ∃ Q, Q = QI below args s g A (fun _ => w_X10_assign g h0 h1 h2 h3 h4 h5 h6 v0_1 v0_2 v0_3 v0_4 v0_5 v0_6 v0_7 v0_8 v0_9 v0_11 v0_12 v0_13 v0_14 v0_15 v0_17 v0_20 v0_24 v0_25 v0_26 v0_27 v0_28 v0_29 v0_30 v0_31 v0_32 v0_33 v0_34 v0_35 v0_36 v0_37 o_thrown0 o_depth0 basic1 classAxles2 o_history3 o_state4 tagAxles5 tagPlate6) r 0 0 := ⟨_, rfl⟩
  suffices hW : W p l e (rml 4 0 0) s m args below meth c s.heap [] 0 0 Q (F0 m 0 ls []) from (by rw [hQ] at hW; exact hW)
  unfold f_X10_assign at hf
  refine lv_aload_n hx hb dX10_assign_0 rfl (lv_at hl 0 rfl) ?_
  refine lv_iconst (v := 0) hx hb dX10_assign_1 (by decide) ?_
  refine p_X10_84 C w 0 rfl (Nat.le_of_ble_eq_true rfl) (ws2 := w_X10_assign g h0 h1 h2 h3 h4 h5 h6 v0_1 v0_2 v0_3 v0_4 v0_5 v0_6 v0_7 v0_8 v0_9 v0_11 v0_12 v0_13 v0_14 v0_15 v0_17 v0_20 v0_24 v0_25 v0_26 v0_27 v0_28 v0_29 v0_30 v0_31 v0_32 v0_33 v0_34 v0_35 v0_36 v0_37 0 depth0 basic1 classAxles2 history3 state4 tagAxles5 tagPlate6) rfl dX10_assign_2 (fun H locs w => ?_)
  refine lv_aload_n hx hb dX10_assign_5 rfl (lv_at hl 0 rfl) ?_
  refine lv_iload_n hx hb dX10_assign_6 rfl (lv_at hl 1 rfl) ?_
  obtain ⟨r1, hc2, hf⟩ := bd1_some hf
  refine ca_iV C w (wn := fun _ => w_X10_assign g h0 h1 h2 h3 h4 h5 h6 v0_1 v0_2 v0_3 v0_4 v0_5 v0_6 v0_7 v0_8 v0_9 v0_11 v0_12 v0_13 v0_14 v0_15 v0_17 v0_20 v0_24 v0_25 v0_26 v0_27 v0_28 v0_29 v0_30 v0_31 v0_32 v0_33 v0_34 v0_35 v0_36 v0_37 0 depth0 basic1 classAxles2 history3 state4 tagAxles5 tagPlate6) (pm_k [true, false, false, false, true, false, false] rfl rfl (fun _ => Nat.le_of_ble_eq_true rfl) (fun _ => rfl)) (c_X10_isPassage l g F h0 h4 (.int 0) v0_1 v0_2 v0_3 v0_4 v0_5 v0_6 v0_7 v0_8 v0_9 (.ref h1) v0_11 v0_12 v0_13 v0_14 v0_15 (.ref h2) v0_17 (.ref h6) (.ref h5) v0_20 (.ref h3) (.int depth0) v0_24 v0_25 v0_26 v0_27 v0_28 v0_29 v0_30 v0_31 v0_32 v0_33 v0_34 v0_35 v0_36 v0_37 p1 state4 r1 _ hc2) k_X10_271 (rm_le (by decide) (by decide)) 0 10 rfl rfl rfl rfl hl.1 rfl (Nat.le_of_ble_eq_true rfl) dX10_assign_7 ⟨Nat.le_of_ble_eq_true rfl, Nat.le_of_ble_eq_true rfl⟩ (cells2 := 0) (slots2 := 0) ⟨rfl, rfl⟩ (fun _ H locs w => ?_)
  refine lv_if_ne (tgt := 19) hx hb dX10_assign_10 (by decide) (fun c3 => ?_) (fun c3 => ?_)
  · replace hf := it_f c3 hf
    refine lv_iload_n hx hb dX10_assign_19 rfl (lv_at hl 3 rfl) ?_
    refine lv_i2l (v := p3.toInt64) hx hb dX10_assign_20 rfl ?_
    refine lv_iload hx hb dX10_assign_21 (lv_at hl 4 rfl) ?_
    refine lv_i2l (v := p4.toInt64) hx hb dX10_assign_23 rfl ?_
    refine lv_iload hx hb dX10_assign_24 (lv_at hl 5 rfl) ?_
    refine lv_i2l (v := p5.toInt64) hx hb dX10_assign_26 rfl ?_
    obtain ⟨r4, hc5, hf⟩ := bd1_some hf
    refine ca_iS C w (wn := fun _ => w_X10_assign g h0 h1 h2 h3 h4 h5 h6 v0_1 v0_2 v0_3 v0_4 v0_5 v0_6 v0_7 v0_8 v0_9 v0_11 v0_12 v0_13 v0_14 v0_15 v0_17 v0_20 v0_24 v0_25 v0_26 v0_27 v0_28 v0_29 v0_30 v0_31 v0_32 v0_33 v0_34 v0_35 v0_36 v0_37 0 depth0 basic1 classAxles2 history3 state4 tagAxles5 tagPlate6) (pm_k [false, false, false, false, false, false, false] rfl rfl (fun _ => Nat.le_of_ble_eq_true rfl) (fun _ => rfl)) (c_X10_within l g F p3.toInt64 p4.toInt64 p5.toInt64 r4 _ hc5) k_X10_115 (rm_le (by decide) (by decide)) rfl hl.1 rfl (Nat.le_of_ble_eq_true rfl) dX10_assign_27 ⟨Nat.le_of_ble_eq_true rfl, Nat.le_of_ble_eq_true rfl⟩ (cells2 := 0) (slots2 := 0) ⟨rfl, rfl⟩ (fun _ H locs w => ?_)
    refine lv_if_ne (tgt := 39) hx hb dX10_assign_30 (by decide) (fun c6 => ?_) (fun c6 => ?_)
    · replace hf := it_f c6 hf
      refine lv_aload_n hx hb dX10_assign_39 rfl (lv_at hl 0 rfl) ?_
      refine lv_iload_n hx hb dX10_assign_40 rfl (lv_at hl 1 rfl) ?_
      refine lv_iconst (v := 3) hx hb dX10_assign_41 (by decide) ?_
      obtain ⟨r7, hc8, hf⟩ := bd1_some hf
      refine ca_iV C w (wn := fun _ => w_X10_assign g h0 h1 h2 h3 h4 h5 h6 v0_1 v0_2 v0_3 v0_4 v0_5 v0_6 v0_7 v0_8 v0_9 v0_11 v0_12 v0_13 v0_14 v0_15 v0_17 v0_20 v0_24 v0_25 v0_26 v0_27 v0_28 v0_29 v0_30 v0_31 v0_32 v0_33 v0_34 v0_35 v0_36 v0_37 0 depth0 basic1 classAxles2 history3 state4 tagAxles5 tagPlate6) (pm_k [true, false, false, false, true, false, false] rfl rfl (fun _ => Nat.le_of_ble_eq_true rfl) (fun _ => rfl)) (c_X10_ofPassage l g F h0 h4 (.int 0) v0_1 v0_2 v0_3 v0_4 v0_5 v0_6 v0_7 v0_8 v0_9 (.ref h1) v0_11 v0_12 v0_13 v0_14 v0_15 (.ref h2) v0_17 (.ref h6) (.ref h5) v0_20 (.ref h3) (.int depth0) v0_24 v0_25 v0_26 v0_27 v0_28 v0_29 v0_30 v0_31 v0_32 v0_33 v0_34 v0_35 v0_36 v0_37 p1 3 state4 r7 _ hc8) k_X10_250 (rm_le (by decide) (by decide)) 0 10 rfl rfl rfl rfl hl.1 rfl (Nat.le_of_ble_eq_true rfl) dX10_assign_42 ⟨Nat.le_of_ble_eq_true rfl, Nat.le_of_ble_eq_true rfl⟩ (cells2 := 0) (slots2 := 0) ⟨rfl, rfl⟩ (fun _ H locs w => ?_)
      refine lv_if_eq (tgt := 54) hx hb dX10_assign_45 (by decide) (fun c9 => ?_) (fun c9 => ?_)
      · replace hf := it_t c9 hf
        refine lv_aload_n hx hb dX10_assign_54 rfl (lv_at hl 0 rfl) ?_
        obtain ⟨o10, o11, hc12, hf⟩ := bd2_some hf
        refine ca_vV C w (wn := fun _ => w_X10_assign g h0 h1 h2 h3 h4 h5 h6 v0_1 v0_2 v0_3 v0_4 v0_5 v0_6 v0_7 v0_8 v0_9 v0_11 v0_12 v0_13 v0_14 v0_15 v0_17 v0_20 v0_24 v0_25 v0_26 v0_27 v0_28 v0_29 v0_30 v0_31 v0_32 v0_33 v0_34 v0_35 v0_36 v0_37 0 o10 basic1 classAxles2 o11 state4 tagAxles5 tagPlate6) (pm_k [true, false, false, true, true, false, false] rfl rfl (fun _ => Nat.le_of_ble_eq_true rfl) (fun _ => rfl)) (c_X10_keep l g F h0 h3 h4 (.int 0) v0_1 v0_2 v0_3 v0_4 v0_5 v0_6 v0_7 v0_8 v0_9 (.ref h1) v0_11 v0_12 v0_13 v0_14 v0_15 (.ref h2) v0_17 (.ref h6) (.ref h5) v0_20 v0_24 v0_25 v0_26 v0_27 v0_28 v0_29 v0_30 v0_31 v0_32 v0_33 v0_34 v0_35 v0_36 v0_37 depth0 history3 state4 o10 o11 _ hc12) k_X10_343 (rm_le (by decide) (by decide)) 0 10 rfl rfl rfl rfl hl.1 rfl (Nat.le_of_ble_eq_true rfl) dX10_assign_55 ⟨Nat.le_of_ble_eq_true rfl, Nat.le_of_ble_eq_true rfl⟩ (cells2 := 0) (slots2 := 0) ⟨rfl, rfl⟩ (fun _ H locs w => ?_)
        refine lv_aload_n hx hb dX10_assign_58 rfl (lv_at hl 0 rfl) ?_
        refine lv_iload_n hx hb dX10_assign_59 rfl (lv_at hl 1 rfl) ?_
        refine lv_iload_n hx hb dX10_assign_60 rfl (lv_at hl 2 rfl) ?_
        refine lv_iload_n hx hb dX10_assign_61 rfl (lv_at hl 3 rfl) ?_
        obtain ⟨o13, hc14, hf⟩ := bd1_some hf
        refine ca_vV C w (wn := fun _ => w_X10_assign g h0 h1 h2 h3 h4 h5 h6 v0_1 v0_2 v0_3 v0_4 v0_5 v0_6 v0_7 v0_8 v0_9 v0_11 v0_12 v0_13 v0_14 v0_15 v0_17 v0_20 v0_24 v0_25 v0_26 v0_27 v0_28 v0_29 v0_30 v0_31 v0_32 v0_33 v0_34 v0_35 v0_36 v0_37 0 o10 basic1 classAxles2 o11 o13 tagAxles5 tagPlate6) (pm_k [true, false, false, false, true, false, false] rfl rfl (fun _ => Nat.le_of_ble_eq_true rfl) (fun _ => rfl)) (c_X10_setPassage l g F h0 h4 (.int 0) v0_1 v0_2 v0_3 v0_4 v0_5 v0_6 v0_7 v0_8 v0_9 (.ref h1) v0_11 v0_12 v0_13 v0_14 v0_15 (.ref h2) v0_17 (.ref h6) (.ref h5) v0_20 (.ref h3) (.int o10) v0_24 v0_25 v0_26 v0_27 v0_28 v0_29 v0_30 v0_31 v0_32 v0_33 v0_34 v0_35 v0_36 v0_37 p1 p2 p3 state4 o13 _ hc14) k_X10_346 (rm_le (by decide) (by decide)) 0 10 rfl rfl rfl rfl hl.1 rfl (Nat.le_of_ble_eq_true rfl) dX10_assign_62 ⟨Nat.le_of_ble_eq_true rfl, Nat.le_of_ble_eq_true rfl⟩ (cells2 := 0) (slots2 := 0) ⟨rfl, rfl⟩ (fun _ H locs w => ?_)
        refine lv_aload_n hx hb dX10_assign_65 rfl (lv_at hl 0 rfl) ?_
        refine lv_iload_n hx hb dX10_assign_66 rfl (lv_at hl 1 rfl) ?_
        obtain ⟨r15, hc16, hf⟩ := bd1_some hf
        refine ca_iV C w (wn := fun _ => w_X10_assign g h0 h1 h2 h3 h4 h5 h6 v0_1 v0_2 v0_3 v0_4 v0_5 v0_6 v0_7 v0_8 v0_9 v0_11 v0_12 v0_13 v0_14 v0_15 v0_17 v0_20 v0_24 v0_25 v0_26 v0_27 v0_28 v0_29 v0_30 v0_31 v0_32 v0_33 v0_34 v0_35 v0_36 v0_37 0 o10 basic1 classAxles2 o11 o13 tagAxles5 tagPlate6) (pm_k [true, true, true, false, true, true, true] rfl rfl (fun _ => Nat.le_of_ble_eq_true rfl) (fun _ => rfl)) (c_X10_exceptionsOf l g F h0 h1 h2 h4 h5 h6 (.int 0) v0_1 v0_2 v0_3 v0_4 v0_5 v0_6 v0_7 v0_8 v0_9 v0_11 v0_12 v0_13 v0_14 v0_15 v0_17 v0_20 (.ref h3) (.int o10) v0_24 v0_25 v0_26 v0_27 v0_28 v0_29 v0_30 v0_31 v0_32 v0_33 v0_34 v0_35 v0_36 v0_37 p1 basic1 classAxles2 o13 tagAxles5 tagPlate6 r15 _ hc16) k_X10_274 (rm_le (by decide) (by decide)) 0 10 rfl rfl rfl rfl hl.1 rfl (Nat.le_of_ble_eq_true rfl) dX10_assign_67 ⟨Nat.le_of_ble_eq_true rfl, Nat.le_of_ble_eq_true rfl⟩ (cells2 := 0) (slots2 := 0) ⟨rfl, rfl⟩ (fun _ H locs w => ?_)
        obtain ⟨e1, e2, e3, e4, e5⟩ := tp5 hf
        rw [hQ]
        exact rt_i C w rfl (fun _ => 0) (by rw [← e2, ← e3, ← e4, ← e5]) e1 dX10_assign_70
      · replace hf := it_f c9 hf
        refine lv_aload_n hx hb dX10_assign_48 rfl (lv_at hl 0 rfl) ?_
        refine lv_iconst (v := 3) hx hb dX10_assign_49 (by decide) ?_
        obtain ⟨r17, o18, hc19, hf⟩ := bd2_some hf
        refine ca_iV C w (wn := fun _ => w_X10_assign g h0 h1 h2 h3 h4 h5 h6 v0_1 v0_2 v0_3 v0_4 v0_5 v0_6 v0_7 v0_8 v0_9 v0_11 v0_12 v0_13 v0_14 v0_15 v0_17 v0_20 v0_24 v0_25 v0_26 v0_27 v0_28 v0_29 v0_30 v0_31 v0_32 v0_33 v0_34 v0_35 v0_36 v0_37 o18 depth0 basic1 classAxles2 history3 state4 tagAxles5 tagPlate6) (pm_k [true, false, false, false, false, false, false] rfl rfl (fun _ => Nat.le_of_ble_eq_true rfl) (fun _ => rfl)) (c_X10_fail l g F h0 v0_1 v0_2 v0_3 v0_4 v0_5 v0_6 v0_7 v0_8 v0_9 (.ref h1) v0_11 v0_12 v0_13 v0_14 v0_15 (.ref h2) v0_17 (.ref h6) (.ref h5) v0_20 (.ref h4) (.ref h3) (.int depth0) v0_24 v0_25 v0_26 v0_27 v0_28 v0_29 v0_30 v0_31 v0_32 v0_33 v0_34 v0_35 v0_36 v0_37 3 0 r17 o18 _ hc19) k_X10_202 (rm_le (by decide) (by decide)) 0 10 rfl rfl rfl rfl hl.1 rfl (Nat.le_of_ble_eq_true rfl) dX10_assign_50 ⟨Nat.le_of_ble_eq_true rfl, Nat.le_of_ble_eq_true rfl⟩ (cells2 := 0) (slots2 := 0) ⟨rfl, rfl⟩ (fun _ H locs w => ?_)
        obtain ⟨e1, e2, e3, e4, e5⟩ := tp5 hf
        rw [hQ]
        exact rt_i C w rfl (fun _ => 0) (by rw [← e2, ← e3, ← e4, ← e5]) e1 dX10_assign_53
    · replace hf := it_t c6 hf
      refine lv_aload_n hx hb dX10_assign_33 rfl (lv_at hl 0 rfl) ?_
      refine lv_iconst (v := 2) hx hb dX10_assign_34 (by decide) ?_
      obtain ⟨r20, o21, hc22, hf⟩ := bd2_some hf
      refine ca_iV C w (wn := fun _ => w_X10_assign g h0 h1 h2 h3 h4 h5 h6 v0_1 v0_2 v0_3 v0_4 v0_5 v0_6 v0_7 v0_8 v0_9 v0_11 v0_12 v0_13 v0_14 v0_15 v0_17 v0_20 v0_24 v0_25 v0_26 v0_27 v0_28 v0_29 v0_30 v0_31 v0_32 v0_33 v0_34 v0_35 v0_36 v0_37 o21 depth0 basic1 classAxles2 history3 state4 tagAxles5 tagPlate6) (pm_k [true, false, false, false, false, false, false] rfl rfl (fun _ => Nat.le_of_ble_eq_true rfl) (fun _ => rfl)) (c_X10_fail l g F h0 v0_1 v0_2 v0_3 v0_4 v0_5 v0_6 v0_7 v0_8 v0_9 (.ref h1) v0_11 v0_12 v0_13 v0_14 v0_15 (.ref h2) v0_17 (.ref h6) (.ref h5) v0_20 (.ref h4) (.ref h3) (.int depth0) v0_24 v0_25 v0_26 v0_27 v0_28 v0_29 v0_30 v0_31 v0_32 v0_33 v0_34 v0_35 v0_36 v0_37 2 0 r20 o21 _ hc22) k_X10_202 (rm_le (by decide) (by decide)) 0 10 rfl rfl rfl rfl hl.1 rfl (Nat.le_of_ble_eq_true rfl) dX10_assign_35 ⟨Nat.le_of_ble_eq_true rfl, Nat.le_of_ble_eq_true rfl⟩ (cells2 := 0) (slots2 := 0) ⟨rfl, rfl⟩ (fun _ H locs w => ?_)
      obtain ⟨e1, e2, e3, e4, e5⟩ := tp5 hf
      rw [hQ]
      exact rt_i C w rfl (fun _ => 0) (by rw [← e2, ← e3, ← e4, ← e5]) e1 dX10_assign_38
  · replace hf := it_t c3 hf
    refine lv_aload_n hx hb dX10_assign_13 rfl (lv_at hl 0 rfl) ?_
    refine lv_iconst (v := 1) hx hb dX10_assign_14 (by decide) ?_
    obtain ⟨r23, o24, hc25, hf⟩ := bd2_some hf
    refine ca_iV C w (wn := fun _ => w_X10_assign g h0 h1 h2 h3 h4 h5 h6 v0_1 v0_2 v0_3 v0_4 v0_5 v0_6 v0_7 v0_8 v0_9 v0_11 v0_12 v0_13 v0_14 v0_15 v0_17 v0_20 v0_24 v0_25 v0_26 v0_27 v0_28 v0_29 v0_30 v0_31 v0_32 v0_33 v0_34 v0_35 v0_36 v0_37 o24 depth0 basic1 classAxles2 history3 state4 tagAxles5 tagPlate6) (pm_k [true, false, false, false, false, false, false] rfl rfl (fun _ => Nat.le_of_ble_eq_true rfl) (fun _ => rfl)) (c_X10_fail l g F h0 v0_1 v0_2 v0_3 v0_4 v0_5 v0_6 v0_7 v0_8 v0_9 (.ref h1) v0_11 v0_12 v0_13 v0_14 v0_15 (.ref h2) v0_17 (.ref h6) (.ref h5) v0_20 (.ref h4) (.ref h3) (.int depth0) v0_24 v0_25 v0_26 v0_27 v0_28 v0_29 v0_30 v0_31 v0_32 v0_33 v0_34 v0_35 v0_36 v0_37 1 0 r23 o24 _ hc25) k_X10_202 (rm_le (by decide) (by decide)) 0 10 rfl rfl rfl rfl hl.1 rfl (Nat.le_of_ble_eq_true rfl) dX10_assign_15 ⟨Nat.le_of_ble_eq_true rfl, Nat.le_of_ble_eq_true rfl⟩ (cells2 := 0) (slots2 := 0) ⟨rfl, rfl⟩ (fun _ H locs w => ?_)
    obtain ⟨e1, e2, e3, e4, e5⟩ := tp5 hf
    rw [hQ]
    exact rt_i C w rfl (fun _ => 0) (by rw [← e2, ← e3, ← e4, ← e5]) e1 dX10_assign_18

theorem dX10_assignPlate_0 : decode cX10_assignPlate 0 = .ok (.aload_n 0, 1) := by decide +kernel
theorem dX10_assignPlate_1 : decode cX10_assignPlate 1 = .ok (.iload_n 1, 1) := by decide +kernel
theorem dX10_assignPlate_2 : decode cX10_assignPlate 2 = .ok (.bipush 22, 2) := by decide +kernel
theorem dX10_assignPlate_4 : decode cX10_assignPlate 4 = .ok (.iload_n 2, 1) := by decide +kernel
theorem dX10_assignPlate_5 : decode cX10_assignPlate 5 = .ok (.iconst 1, 1) := by decide +kernel
theorem dX10_assignPlate_6 : decode cX10_assignPlate 6 = .ok (.sipush 9999, 3) := by decide +kernel
theorem dX10_assignPlate_9 : decode cX10_assignPlate 9 = .ok (.invokevirtual 361, 3) := by decide +kernel
theorem dX10_assignPlate_12 : decode cX10_assignPlate 12 = .ok (.ireturn, 1) := by decide +kernel
abbrev m_X10_assignPlate : MD := (yX10_assignPlate, cX10_assignPlate, 3, (some .int))
theorem q_1737 : Cond.code yX10_assign cX10_assign 6 (some .int) ∈ TS := ts_t 1737 (by decide +kernel) (by decide +kernel)
theorem q_1734 : Cond.methodLink RX10 361 yX10_assign ∈ TS := ts_t 1734 (by decide +kernel) (by decide +kernel)
theorem q_1736 : Cond.instanceMethod yX10_assign ∈ TS := ts_t 1736 (by decide +kernel) (by decide +kernel)
theorem qs_136 : Cond.selects yX10_assign.cls yX10_assign yX10_assign ∈ TS := ts_s 136 (by decide +kernel) (by decide +kernel)
theorem k_X10_361 : LkV RX10 361 m_X10_assign 5 := ⟨q_1734, q_1736, qs_136, ⟨q_11, q_1737, by decide, by decide, by decide +kernel⟩⟩
abbrev w_X10_assignPlate (g : GT) (h0 h1 h2 h3 h4 h5 h6 : Nat) (v0_1 v0_2 v0_3 v0_4 v0_5 v0_6 v0_7 v0_8 v0_9 v0_11 v0_12 v0_13 v0_14 v0_15 v0_17 v0_20 v0_24 v0_25 v0_26 v0_27 v0_28 v0_29 v0_30 v0_31 v0_32 v0_33 v0_34 v0_35 v0_36 v0_37 : Value) (thrown0 depth0 : Int32) (basic1 classAxles2 history3 state4 tagAxles5 tagPlate6 : Nat → Int32) : va_W := [(h0, .inr (10, [.int thrown0, v0_1, v0_2, v0_3, v0_4, v0_5, v0_6, v0_7, v0_8, v0_9, .ref h1, v0_11, v0_12, v0_13, v0_14, v0_15, .ref h2, v0_17, .ref h6, .ref h5, v0_20, .ref h4, .ref h3, .int depth0, v0_24, v0_25, v0_26, v0_27, v0_28, v0_29, v0_30, v0_31, v0_32, v0_33, v0_34, v0_35, v0_36, v0_37])), (h1, aI g 7 basic1), (h2, aI g 8 classAxles2), (h3, aI g 25240 history3), (h4, aI g 2524 state4), (h5, aI g 24 tagAxles5), (h6, aI g 24 tagPlate6)]
def f_X10_assignPlate (F : Nat) (p1 p2 thrown0 depth0 : Int32) (basic1 classAxles2 history3 state4 tagAxles5 tagPlate6 : Nat → Int32) : Option (Int32 × Int32 × Int32 × (Nat → Int32) × (Nat → Int32)) :=
  bd5 (f_X10_assign F p1 22 p2 1 9999 thrown0 depth0 basic1 classAxles2 history3 state4 tagAxles5 tagPlate6) fun r1 o2 o3 o4 o5 =>
  some (r1, o2, o3, o4, o5)
set_option maxHeartbeats 4000000 in
set_option maxRecDepth 100000 in
theorem c_X10_assignPlate (l : Launch) (g : GT) (F : Nat) (h0 h1 h2 h3 h4 h5 h6 : Nat) (v0_1 v0_2 v0_3 v0_4 v0_5 v0_6 v0_7 v0_8 v0_9 v0_11 v0_12 v0_13 v0_14 v0_15 v0_17 v0_20 v0_24 v0_25 v0_26 v0_27 v0_28 v0_29 v0_30 v0_31 v0_32 v0_33 v0_34 v0_35 v0_36 v0_37 : Value) (p1 p2 thrown0 depth0 : Int32) (basic1 classAxles2 history3 state4 tagAxles5 tagPlate6 : Nat → Int32) (r o_thrown0 o_depth0 : Int32) (o_history3 o_state4 : Nat → Int32) (sz : Nat) (hf : f_X10_assignPlate F p1 p2 thrown0 depth0 basic1 classAxles2 history3 state4 tagAxles5 tagPlate6 = some (r, o_thrown0, o_depth0, o_history3, o_state4)) : CI l m_X10_assignPlate (rml 5 0 0) g (w_X10_assignPlate g h0 h1 h2 h3 h4 h5 h6 v0_1 v0_2 v0_3 v0_4 v0_5 v0_6 v0_7 v0_8 v0_9 v0_11 v0_12 v0_13 v0_14 v0_15 v0_17 v0_20 v0_24 v0_25 v0_26 v0_27 v0_28 v0_29 v0_30 v0_31 v0_32 v0_33 v0_34 v0_35 v0_36 v0_37 thrown0 depth0 basic1 classAxles2 history3 state4 tagAxles5 tagPlate6) (fun _ => w_X10_assignPlate g h0 h1 h2 h3 h4 h5 h6 v0_1 v0_2 v0_3 v0_4 v0_5 v0_6 v0_7 v0_8 v0_9 v0_11 v0_12 v0_13 v0_14 v0_15 v0_17 v0_20 v0_24 v0_25 v0_26 v0_27 v0_28 v0_29 v0_30 v0_31 v0_32 v0_33 v0_34 v0_35 v0_36 v0_37 o_thrown0 o_depth0 basic1 classAxles2 o_history3 o_state4 tagAxles5 tagPlate6) sz [.ref h0, .int p1, .int p2] r := by
  refine en_i (by decide) (Nat.le_of_ble_eq_true rfl) (fun p e s m args below meth c A ls C w hl => ?_)
  have C : Cx p s m args meth c RX10 m_X10_assignPlate g A := C
  have hx := C.1
  have hb : c.code = cX10_assignPlate := C.2.1
  have hl : lv_has ls 3 [(0, .ref h0), (1, .int p1), (2, .int p2)] := hl
  obtain ⟨Q, hQ⟩ : ∃ Q, Q = QI below args s g A (fun _ => w_X10_assignPlate g h0 h1 h2 h3 h4 h5 h6 v0_1 v0_2 v0_3 v0_4 v0_5 v0_6 v0_7 v0_8 v0_9 v0_11 v0_12 v0_13 v0_14 v0_15 v0_17 v0_20 v0_24 v0_25 v0_26 v0_27 v0_28 v0_29 v0_30 v0_31 v0_32 v0_33 v0_34 v0_35 v0_36 v0_37 o_thrown0 o_depth0 basic1 classAxles2 o_history3 o_state4 tagAxles5 tagPlate6) r 0 0 := ⟨_, rfl⟩
  suffices hW : W p l e (rml 5 0 0) s m args below meth c s.heap [] 0 0 Q (F0 m 0 ls []) from (by rw [hQ] at hW; exact hW)
  unfold f_X10_assignPlate at hf
  refine lv_aload_n hx hb dX10_assignPlate_0 rfl (lv_at hl 0 rfl) ?_
  refine lv_iload_n hx hb dX10_assignPlate_1 rfl (lv_at hl 1 rfl) ?_
  refine lv_bipush (v := 22) hx hb dX10_assignPlate_2 (by decide) ?_
  refine lv_iload_n hx hb dX10_assignPlate_4 rfl (lv_at hl 2 rfl) ?_
  refine lv_iconst (v := 1) hx hb dX10_assignPlate_5 (by decide) ?_
  refine lv_sipush (v := 9999) hx hb dX10_assignPlate_6 (by decide) ?_
  obtain ⟨r1, o2, o3, o4, o5, hc6, hf⟩ := bd5_some hf
  refine ca_iV C w (wn := fun _ => w_X10_assignPlate g h0 h1 h2 h3 h4 h5 h6 v0_1 v0_2 v0_3 v0_4 v0_5 v0_6 v0_7 v0_8 v0_9 v0_11 v0_12 v0_13 v0_14 v0_15 v0_17 v0_20 v0_24 v0_25 v0_26 v0_27 v0_28 v0_29 v0_30 v0_31 v0_32 v0_33 v0_34 v0_35 v0_36 v0_37 o2 o3 basic1 classAxles2 o4 o5 tagAxles5 tagPlate6) (pm_k [true, true, true, true, true, true, true] rfl rfl (fun _ => Nat.le_of_ble_eq_true rfl) (fun _ => rfl)) (c_X10_assign l g F h0 h1 h2 h3 h4 h5 h6 v0_1 v0_2 v0_3 v0_4 v0_5 v0_6 v0_7 v0_8 v0_9 v0_11 v0_12 v0_13 v0_14 v0_15 v0_17 v0_20 v0_24 v0_25 v0_26 v0_27 v0_28 v0_29 v0_30 v0_31 v0_32 v0_33 v0_34 v0_35 v0_36 v0_37 p1 22 p2 1 9999 thrown0 depth0 basic1 classAxles2 history3 state4 tagAxles5 tagPlate6 r1 o2 o3 o4 o5 _ hc6) k_X10_361 (rm_le (by decide) (by decide)) 0 10 rfl rfl rfl rfl hl.1 rfl (Nat.le_of_ble_eq_true rfl) dX10_assignPlate_9 ⟨Nat.le_of_ble_eq_true rfl, Nat.le_of_ble_eq_true rfl⟩ (cells2 := 0) (slots2 := 0) ⟨rfl, rfl⟩ (fun _ H locs w => ?_)
  obtain ⟨e1, e2, e3, e4, e5⟩ := tp5 hf
  rw [hQ]
  exact rt_i C w rfl (fun _ => 0) (by rw [← e2, ← e3, ← e4, ← e5]) e1 dX10_assignPlate_12

theorem dX10_assignAxles_0 : decode cX10_assignAxles 0 = .ok (.aload_n 0, 1) := by decide +kernel
theorem dX10_assignAxles_1 : decode cX10_assignAxles 1 = .ok (.iload_n 1, 1) := by decide +kernel
theorem dX10_assignAxles_2 : decode cX10_assignAxles 2 = .ok (.bipush 23, 2) := by decide +kernel
theorem dX10_assignAxles_4 : decode cX10_assignAxles 4 = .ok (.iload_n 2, 1) := by decide +kernel
theorem dX10_assignAxles_5 : decode cX10_assignAxles 5 = .ok (.iconst 2, 1) := by decide +kernel
theorem dX10_assignAxles_6 : decode cX10_assignAxles 6 = .ok (.bipush 9, 2) := by decide +kernel
theorem dX10_assignAxles_8 : decode cX10_assignAxles 8 = .ok (.invokevirtual 361, 3) := by decide +kernel
theorem dX10_assignAxles_11 : decode cX10_assignAxles 11 = .ok (.ireturn, 1) := by decide +kernel
abbrev m_X10_assignAxles : MD := (yX10_assignAxles, cX10_assignAxles, 3, (some .int))

abbrev w_X10_assignAxles (g : GT) (h0 h1 h2 h3 h4 h5 h6 : Nat) (v0_1 v0_2 v0_3 v0_4 v0_5 v0_6 v0_7 v0_8 v0_9 v0_11 v0_12 v0_13 v0_14 v0_15 v0_17 v0_20 v0_24 v0_25 v0_26 v0_27 v0_28 v0_29 v0_30 v0_31 v0_32 v0_33 v0_34 v0_35 v0_36 v0_37 : Value) (thrown0 depth0 : Int32) (basic1 classAxles2 history3 state4 tagAxles5 tagPlate6 : Nat → Int32) : va_W := [(h0, .inr (10, [.int thrown0, v0_1, v0_2, v0_3, v0_4, v0_5, v0_6, v0_7, v0_8, v0_9, .ref h1, v0_11, v0_12, v0_13, v0_14, v0_15, .ref h2, v0_17, .ref h6, .ref h5, v0_20, .ref h4, .ref h3, .int depth0, v0_24, v0_25, v0_26, v0_27, v0_28, v0_29, v0_30, v0_31, v0_32, v0_33, v0_34, v0_35, v0_36, v0_37])), (h1, aI g 7 basic1), (h2, aI g 8 classAxles2), (h3, aI g 25240 history3), (h4, aI g 2524 state4), (h5, aI g 24 tagAxles5), (h6, aI g 24 tagPlate6)]
def f_X10_assignAxles (F : Nat) (p1 p2 thrown0 depth0 : Int32) (basic1 classAxles2 history3 state4 tagAxles5 tagPlate6 : Nat → Int32) : Option (Int32 × Int32 × Int32 × (Nat → Int32) × (Nat → Int32)) :=
  bd5 (f_X10_assign F p1 23 p2 2 9 thrown0 depth0 basic1 classAxles2 history3 state4 tagAxles5 tagPlate6) fun r1 o2 o3 o4 o5 =>
  some (r1, o2, o3, o4, o5)
set_option maxHeartbeats 4000000 in
set_option maxRecDepth 100000 in
theorem c_X10_assignAxles (l : Launch) (g : GT) (F : Nat) (h0 h1 h2 h3 h4 h5 h6 : Nat) (v0_1 v0_2 v0_3 v0_4 v0_5 v0_6 v0_7 v0_8 v0_9 v0_11 v0_12 v0_13 v0_14 v0_15 v0_17 v0_20 v0_24 v0_25 v0_26 v0_27 v0_28 v0_29 v0_30 v0_31 v0_32 v0_33 v0_34 v0_35 v0_36 v0_37 : Value) (p1 p2 thrown0 depth0 : Int32) (basic1 classAxles2 history3 state4 tagAxles5 tagPlate6 : Nat → Int32) (r o_thrown0 o_depth0 : Int32) (o_history3 o_state4 : Nat → Int32) (sz : Nat) (hf : f_X10_assignAxles F p1 p2 thrown0 depth0 basic1 classAxles2 history3 state4 tagAxles5 tagPlate6 = some (r, o_thrown0, o_depth0, o_history3, o_state4)) : CI l m_X10_assignAxles (rml 5 0 0) g (w_X10_assignAxles g h0 h1 h2 h3 h4 h5 h6 v0_1 v0_2 v0_3 v0_4 v0_5 v0_6 v0_7 v0_8 v0_9 v0_11 v0_12 v0_13 v0_14 v0_15 v0_17 v0_20 v0_24 v0_25 v0_26 v0_27 v0_28 v0_29 v0_30 v0_31 v0_32 v0_33 v0_34 v0_35 v0_36 v0_37 thrown0 depth0 basic1 classAxles2 history3 state4 tagAxles5 tagPlate6) (fun _ => w_X10_assignAxles g h0 h1 h2 h3 h4 h5 h6 v0_1 v0_2 v0_3 v0_4 v0_5 v0_6 v0_7 v0_8 v0_9 v0_11 v0_12 v0_13 v0_14 v0_15 v0_17 v0_20 v0_24 v0_25 v0_26 v0_27 v0_28 v0_29 v0_30 v0_31 v0_32 v0_33 v0_34 v0_35 v0_36 v0_37 o_thrown0 o_depth0 basic1 classAxles2 o_history3 o_state4 tagAxles5 tagPlate6) sz [.ref h0, .int p1, .int p2] r := by
  refine en_i (by decide) (Nat.le_of_ble_eq_true rfl) (fun p e s m args below meth c A ls C w hl => ?_)
  have C : Cx p s m args meth c RX10 m_X10_assignAxles g A := C
  have hx := C.1
  have hb : c.code = cX10_assignAxles := C.2.1
  have hl : lv_has ls 3 [(0, .ref h0), (1, .int p1), (2, .int p2)] := hl
  obtain ⟨Q, hQ⟩ : ∃ Q, Q = QI below args s g A (fun _ => w_X10_assignAxles g h0 h1 h2 h3 h4 h5 h6 v0_1 v0_2 v0_3 v0_4 v0_5 v0_6 v0_7 v0_8 v0_9 v0_11 v0_12 v0_13 v0_14 v0_15 v0_17 v0_20 v0_24 v0_25 v0_26 v0_27 v0_28 v0_29 v0_30 v0_31 v0_32 v0_33 v0_34 v0_35 v0_36 v0_37 o_thrown0 o_depth0 basic1 classAxles2 o_history3 o_state4 tagAxles5 tagPlate6) r 0 0 := ⟨_, rfl⟩
  suffices hW : W p l e (rml 5 0 0) s m args below meth c s.heap [] 0 0 Q (F0 m 0 ls []) from (by rw [hQ] at hW; exact hW)
  unfold f_X10_assignAxles at hf
  refine lv_aload_n hx hb dX10_assignAxles_0 rfl (lv_at hl 0 rfl) ?_
  refine lv_iload_n hx hb dX10_assignAxles_1 rfl (lv_at hl 1 rfl) ?_
  refine lv_bipush (v := 23) hx hb dX10_assignAxles_2 (by decide) ?_
  refine lv_iload_n hx hb dX10_assignAxles_4 rfl (lv_at hl 2 rfl) ?_
  refine lv_iconst (v := 2) hx hb dX10_assignAxles_5 (by decide) ?_
  refine lv_bipush (v := 9) hx hb dX10_assignAxles_6 (by decide) ?_
  obtain ⟨r1, o2, o3, o4, o5, hc6, hf⟩ := bd5_some hf
  refine ca_iV C w (wn := fun _ => w_X10_assignAxles g h0 h1 h2 h3 h4 h5 h6 v0_1 v0_2 v0_3 v0_4 v0_5 v0_6 v0_7 v0_8 v0_9 v0_11 v0_12 v0_13 v0_14 v0_15 v0_17 v0_20 v0_24 v0_25 v0_26 v0_27 v0_28 v0_29 v0_30 v0_31 v0_32 v0_33 v0_34 v0_35 v0_36 v0_37 o2 o3 basic1 classAxles2 o4 o5 tagAxles5 tagPlate6) (pm_k [true, true, true, true, true, true, true] rfl rfl (fun _ => Nat.le_of_ble_eq_true rfl) (fun _ => rfl)) (c_X10_assign l g F h0 h1 h2 h3 h4 h5 h6 v0_1 v0_2 v0_3 v0_4 v0_5 v0_6 v0_7 v0_8 v0_9 v0_11 v0_12 v0_13 v0_14 v0_15 v0_17 v0_20 v0_24 v0_25 v0_26 v0_27 v0_28 v0_29 v0_30 v0_31 v0_32 v0_33 v0_34 v0_35 v0_36 v0_37 p1 23 p2 2 9 thrown0 depth0 basic1 classAxles2 history3 state4 tagAxles5 tagPlate6 r1 o2 o3 o4 o5 _ hc6) k_X10_361 (rm_le (by decide) (by decide)) 0 10 rfl rfl rfl rfl hl.1 rfl (Nat.le_of_ble_eq_true rfl) dX10_assignAxles_8 ⟨Nat.le_of_ble_eq_true rfl, Nat.le_of_ble_eq_true rfl⟩ (cells2 := 0) (slots2 := 0) ⟨rfl, rfl⟩ (fun _ H locs w => ?_)
  obtain ⟨e1, e2, e3, e4, e5⟩ := tp5 hf
  rw [hQ]
  exact rt_i C w rfl (fun _ => 0) (by rw [← e2, ← e3, ← e4, ← e5]) e1 dX10_assignAxles_11

theorem dX10_dismiss_0 : decode cX10_dismiss 0 = .ok (.aload_n 0, 1) := by decide +kernel
theorem dX10_dismiss_1 : decode cX10_dismiss 1 = .ok (.iconst 0, 1) := by decide +kernel
theorem dX10_dismiss_2 : decode cX10_dismiss 2 = .ok (.putfield 84, 3) := by decide +kernel
theorem dX10_dismiss_5 : decode cX10_dismiss 5 = .ok (.aload_n 0, 1) := by decide +kernel
theorem dX10_dismiss_6 : decode cX10_dismiss 6 = .ok (.iload_n 1, 1) := by decide +kernel
theorem dX10_dismiss_7 : decode cX10_dismiss 7 = .ok (.invokevirtual 271, 3) := by decide +kernel
theorem dX10_dismiss_10 : decode cX10_dismiss 10 = .ok (.ifCond .ne 9, 3) := by decide +kernel
theorem dX10_dismiss_13 : decode cX10_dismiss 13 = .ok (.aload_n 0, 1) := by decide +kernel
theorem dX10_dismiss_14 : decode cX10_dismiss 14 = .ok (.iconst 1, 1) := by decide +kernel
theorem dX10_dismiss_15 : decode cX10_dismiss 15 = .ok (.invokevirtual 202, 3) := by decide +kernel
theorem dX10_dismiss_18 : decode cX10_dismiss 18 = .ok (.ireturn, 1) := by decide +kernel
theorem dX10_dismiss_19 : decode cX10_dismiss 19 = .ok (.aload_n 0, 1) := by decide +kernel
theorem dX10_dismiss_20 : decode cX10_dismiss 20 = .ok (.iload_n 1, 1) := by decide +kernel
theorem dX10_dismiss_21 : decode cX10_dismiss 21 = .ok (.iconst 3, 1) := by decide +kernel
theorem dX10_dismiss_22 : decode cX10_dismiss 22 = .ok (.invokevirtual 250, 3) := by decide +kernel
theorem dX10_dismiss_25 : decode cX10_dismiss 25 = .ok (.ifCond .eq 9, 3) := by decide +kernel
theorem dX10_dismiss_28 : decode cX10_dismiss 28 = .ok (.aload_n 0, 1) := by decide +kernel
theorem dX10_dismiss_29 : decode cX10_dismiss 29 = .ok (.iconst 2, 1) := by decide +kernel
theorem dX10_dismiss_30 : decode cX10_dismiss 30 = .ok (.invokevirtual 202, 3) := by decide +kernel
theorem dX10_dismiss_33 : decode cX10_dismiss 33 = .ok (.ireturn, 1) := by decide +kernel
theorem dX10_dismiss_34 : decode cX10_dismiss 34 = .ok (.aload_n 0, 1) := by decide +kernel
theorem dX10_dismiss_35 : decode cX10_dismiss 35 = .ok (.invokevirtual 343, 3) := by decide +kernel
theorem dX10_dismiss_38 : decode cX10_dismiss 38 = .ok (.aload_n 0, 1) := by decide +kernel
theorem dX10_dismiss_39 : decode cX10_dismiss 39 = .ok (.iload_n 1, 1) := by decide +kernel
theorem dX10_dismiss_40 : decode cX10_dismiss 40 = .ok (.iconst 3, 1) := by decide +kernel
theorem dX10_dismiss_41 : decode cX10_dismiss 41 = .ok (.iconst 2, 1) := by decide +kernel
theorem dX10_dismiss_42 : decode cX10_dismiss 42 = .ok (.invokevirtual 346, 3) := by decide +kernel
theorem dX10_dismiss_45 : decode cX10_dismiss 45 = .ok (.aload_n 0, 1) := by decide +kernel
theorem dX10_dismiss_46 : decode cX10_dismiss 46 = .ok (.invokevirtual 280, 3) := by decide +kernel
theorem dX10_dismiss_49 : decode cX10_dismiss 49 = .ok (.ireturn, 1) := by decide +kernel
abbrev m_X10_dismiss : MD := (yX10_dismiss, cX10_dismiss, 2, (some .int))

abbrev w_X10_dismiss (g : GT) (h0 h1 h2 : Nat) (v0_1 v0_2 v0_3 v0_4 v0_5 v0_6 v0_7 v0_8 v0_9 v0_10 v0_11 v0_12 v0_13 v0_14 v0_15 v0_16 v0_17 v0_18 v0_19 v0_20 v0_24 v0_25 v0_26 v0_27 v0_28 v0_29 v0_30 v0_31 v0_32 v0_33 v0_34 v0_35 v0_36 v0_37 : Value) (thrown0 depth0 : Int32) (history1 state2 : Nat → Int32) : va_W := [(h0, .inr (10, [.int thrown0, v0_1, v0_2, v0_3, v0_4, v0_5, v0_6, v0_7, v0_8, v0_9, v0_10, v0_11, v0_12, v0_13, v0_14, v0_15, v0_16, v0_17, v0_18, v0_19, v0_20, .ref h2, .ref h1, .int depth0, v0_24, v0_25, v0_26, v0_27, v0_28, v0_29, v0_30, v0_31, v0_32, v0_33, v0_34, v0_35, v0_36, v0_37])), (h1, aI g 25240 history1), (h2, aI g 2524 state2)]
def f_X10_dismiss (F : Nat) (p1 thrown0 depth0 : Int32) (history1 state2 : Nat → Int32) : Option (Int32 × Int32 × Int32 × (Nat → Int32) × (Nat → Int32)) :=
  bd1 (f_X10_isPassage F p1 state2) fun r1 =>
  if r1 = 0 then
    bd2 (f_X10_fail F 1 0) fun r17 o18 =>
    some (r17, o18, depth0, history1, state2)
  else
    bd1 (f_X10_ofPassage F p1 3 state2) fun r4 =>
    if r4 = 0 then
      bd2 (f_X10_keep F depth0 history1 state2) fun o7 o8 =>
      bd1 (f_X10_setPassage F p1 3 2 state2) fun o10 =>
      bd1 (f_X10_openMany F o10) fun r12 =>
      some (r12, 0, o7, o8, o10)
    else
      bd2 (f_X10_fail F 2 0) fun r14 o15 =>
      some (r14, o15, depth0, history1, state2)
set_option maxHeartbeats 4000000 in
set_option maxRecDepth 100000 in
theorem c_X10_dismiss (l : Launch) (g : GT) (F : Nat) (h0 h1 h2 : Nat) (v0_1 v0_2 v0_3 v0_4 v0_5 v0_6 v0_7 v0_8 v0_9 v0_10 v0_11 v0_12 v0_13 v0_14 v0_15 v0_16 v0_17 v0_18 v0_19 v0_20 v0_24 v0_25 v0_26 v0_27 v0_28 v0_29 v0_30 v0_31 v0_32 v0_33 v0_34 v0_35 v0_36 v0_37 : Value) (p1 thrown0 depth0 : Int32) (history1 state2 : Nat → Int32) (r o_thrown0 o_depth0 : Int32) (o_history1 o_state2 : Nat → Int32) (sz : Nat) (hf : f_X10_dismiss F p1 thrown0 depth0 history1 state2 = some (r, o_thrown0, o_depth0, o_history1, o_state2)) : CI l m_X10_dismiss (rml 2 0 0) g (w_X10_dismiss g h0 h1 h2 v0_1 v0_2 v0_3 v0_4 v0_5 v0_6 v0_7 v0_8 v0_9 v0_10 v0_11 v0_12 v0_13 v0_14 v0_15 v0_16 v0_17 v0_18 v0_19 v0_20 v0_24 v0_25 v0_26 v0_27 v0_28 v0_29 v0_30 v0_31 v0_32 v0_33 v0_34 v0_35 v0_36 v0_37 thrown0 depth0 history1 state2) (fun _ => w_X10_dismiss g h0 h1 h2 v0_1 v0_2 v0_3 v0_4 v0_5 v0_6 v0_7 v0_8 v0_9 v0_10 v0_11 v0_12 v0_13 v0_14 v0_15 v0_16 v0_17 v0_18 v0_19 v0_20 v0_24 v0_25 v0_26 v0_27 v0_28 v0_29 v0_30 v0_31 v0_32 v0_33 v0_34 v0_35 v0_36 v0_37 o_thrown0 o_depth0 o_history1 o_state2) sz [.ref h0, .int p1] r := by
  refine en_i (by decide) (Nat.le_of_ble_eq_true rfl) (fun p e s m args below meth c A ls C w hl => ?_)
  have C : Cx p s m args meth c RX10 m_X10_dismiss g A := C
  have hx := C.1
  have hb : c.code = cX10_dismiss := C.2.1
  have hl : lv_has ls 2 [(0, .ref h0), (1, .int p1)] := hl
  obtain ⟨Q, hQ⟩ : ∃ Q, Q = QI below args s g A (fun _ => w_X10_dismiss g h0 h1 h2 v0_1 v0_2 v0_3 v0_4 v0_5 v0_6 v0_7 v0_8 v0_9 v0_10 v0_11 v0_12 v0_13 v0_14 v0_15 v0_16 v0_17 v0_18 v0_19 v0_20 v0_24 v0_25 v0_26 v0_27 v0_28 v0_29 v0_30 v0_31 v0_32 v0_33 v0_34 v0_35 v0_36 v0_37 o_thrown0 o_depth0 o_history1 o_state2) r 0 0 := ⟨_, rfl⟩
  suffices hW : W p l e (rml 2 0 0) s m args below meth c s.heap [] 0 0 Q (F0 m 0 ls []) from (by rw [hQ] at hW; exact hW)
  unfold f_X10_dismiss at hf
  refine lv_aload_n hx hb dX10_dismiss_0 rfl (lv_at hl 0 rfl) ?_
  refine lv_iconst (v := 0) hx hb dX10_dismiss_1 (by decide) ?_
  refine p_X10_84 C w 0 rfl (Nat.le_of_ble_eq_true rfl) (ws2 := w_X10_dismiss g h0 h1 h2 v0_1 v0_2 v0_3 v0_4 v0_5 v0_6 v0_7 v0_8 v0_9 v0_10 v0_11 v0_12 v0_13 v0_14 v0_15 v0_16 v0_17 v0_18 v0_19 v0_20 v0_24 v0_25 v0_26 v0_27 v0_28 v0_29 v0_30 v0_31 v0_32 v0_33 v0_34 v0_35 v0_36 v0_37 0 depth0 history1 state2) rfl dX10_dismiss_2 (fun H locs w => ?_)
  refine lv_aload_n hx hb dX10_dismiss_5 rfl (lv_at hl 0 rfl) ?_
  refine lv_iload_n hx hb dX10_dismiss_6 rfl (lv_at hl 1 rfl) ?_
  obtain ⟨r1, hc2, hf⟩ := bd1_some hf
  refine ca_iV C w (wn := fun _ => w_X10_dismiss g h0 h1 h2 v0_1 v0_2 v0_3 v0_4 v0_5 v0_6 v0_7 v0_8 v0_9 v0_10 v0_11 v0_12 v0_13 v0_14 v0_15 v0_16 v0_17 v0_18 v0_19 v0_20 v0_24 v0_25 v0_26 v0_27 v0_28 v0_29 v0_30 v0_31 v0_32 v0_33 v0_34 v0_35 v0_36 v0_37 0 depth0 history1 state2) (pm_k [true, false, true] rfl rfl (fun _ => Nat.le_of_ble_eq_true rfl) (fun _ => rfl)) (c_X10_isPassage l g F h0 h2 (.int 0) v0_1 v0_2 v0_3 v0_4 v0_5 v0_6 v0_7 v0_8 v0_9 v0_10 v0_11 v0_12 v0_13 v0_14 v0_15 v0_16 v0_17 v0_18 v0_19 v0_20 (.ref h1) (.int depth0) v0_24 v0_25 v0_26 v0_27 v0_28 v0_29 v0_30 v0_31 v0_32 v0_33 v0_34 v0_35 v0_36 v0_37 p1 state2 r1 _ hc2) k_X10_271 (rm_le (by decide) (by decide)) 0 10 rfl rfl rfl rfl hl.1 rfl (Nat.le_of_ble_eq_true rfl) dX10_dismiss_7 ⟨Nat.le_of_ble_eq_true rfl, Nat.le_of_ble_eq_true rfl⟩ (cells2 := 0) (slots2 := 0) ⟨rfl, rfl⟩ (fun _ H locs w => ?_)
  refine lv_if_ne (tgt := 19) hx hb dX10_dismiss_10 (by decide) (fun c3 => ?_) (fun c3 => ?_)
  · replace hf := it_f c3 hf
    refine lv_aload_n hx hb dX10_dismiss_19 rfl (lv_at hl 0 rfl) ?_
    refine lv_iload_n hx hb dX10_dismiss_20 rfl (lv_at hl 1 rfl) ?_
    refine lv_iconst (v := 3) hx hb dX10_dismiss_21 (by decide) ?_
    obtain ⟨r4, hc5, hf⟩ := bd1_some hf
    refine ca_iV C w (wn := fun _ => w_X10_dismiss g h0 h1 h2 v0_1 v0_2 v0_3 v0_4 v0_5 v0_6 v0_7 v0_8 v0_9 v0_10 v0_11 v0_12 v0_13 v0_14 v0_15 v0_16 v0_17 v0_18 v0_19 v0_20 v0_24 v0_25 v0_26 v0_27 v0_28 v0_29 v0_30 v0_31 v0_32 v0_33 v0_34 v0_35 v0_36 v0_37 0 depth0 history1 state2) (pm_k [true, false, true] rfl rfl (fun _ => Nat.le_of_ble_eq_true rfl) (fun _ => rfl)) (c_X10_ofPassage l g F h0 h2 (.int 0) v0_1 v0_2 v0_3 v0_4 v0_5 v0_6 v0_7 v0_8 v0_9 v0_10 v0_11 v0_12 v0_13 v0_14 v0_15 v0_16 v0_17 v0_18 v0_19 v0_20 (.ref h1) (.int depth0) v0_24 v0_25 v0_26 v0_27 v0_28 v0_29 v0_30 v0_31 v0_32 v0_33 v0_34 v0_35 v0_36 v0_37 p1 3 state2 r4 _ hc5) k_X10_250 (rm_le (by decide) (by decide)) 0 10 rfl rfl rfl rfl hl.1 rfl (Nat.le_of_ble_eq_true rfl) dX10_dismiss_22 ⟨Nat.le_of_ble_eq_true rfl, Nat.le_of_ble_eq_true rfl⟩ (cells2 := 0) (slots2 := 0) ⟨rfl, rfl⟩ (fun _ H locs w => ?_)
    refine lv_if_eq (tgt := 34) hx hb dX10_dismiss_25 (by decide) (fun c6 => ?_) (fun c6 => ?_)
    · replace hf := it_t c6 hf
      refine lv_aload_n hx hb dX10_dismiss_34 rfl (lv_at hl 0 rfl) ?_
      obtain ⟨o7, o8, hc9, hf⟩ := bd2_some hf
      refine ca_vV C w (wn := fun _ => w_X10_dismiss g h0 h1 h2 v0_1 v0_2 v0_3 v0_4 v0_5 v0_6 v0_7 v0_8 v0_9 v0_10 v0_11 v0_12 v0_13 v0_14 v0_15 v0_16 v0_17 v0_18 v0_19 v0_20 v0_24 v0_25 v0_26 v0_27 v0_28 v0_29 v0_30 v0_31 v0_32 v0_33 v0_34 v0_35 v0_36 v0_37 0 o7 o8 state2) (pm_k [true, true, true] rfl rfl (fun _ => Nat.le_of_ble_eq_true rfl) (fun _ => rfl)) (c_X10_keep l g F h0 h1 h2 (.int 0) v0_1 v0_2 v0_3 v0_4 v0_5 v0_6 v0_7 v0_8 v0_9 v0_10 v0_11 v0_12 v0_13 v0_14 v0_15 v0_16 v0_17 v0_18 v0_19 v0_20 v0_24 v0_25 v0_26 v0_27 v0_28 v0_29 v0_30 v0_31 v0_32 v0_33 v0_34 v0_35 v0_36 v0_37 depth0 history1 state2 o7 o8 _ hc9) k_X10_343 (rm_le (by decide) (by decide)) 0 10 rfl rfl rfl rfl hl.1 rfl (Nat.le_of_ble_eq_true rfl) dX10_dismiss_35 ⟨Nat.le_of_ble_eq_true rfl, Nat.le_of_ble_eq_true rfl⟩ (cells2 := 0) (slots2 := 0) ⟨rfl, rfl⟩ (fun _ H locs w => ?_)
      refine lv_aload_n hx hb dX10_dismiss_38 rfl (lv_at hl 0 rfl) ?_
      refine lv_iload_n hx hb dX10_dismiss_39 rfl (lv_at hl 1 rfl) ?_
      refine lv_iconst (v := 3) hx hb dX10_dismiss_40 (by decide) ?_
      refine lv_iconst (v := 2) hx hb dX10_dismiss_41 (by decide) ?_
      obtain ⟨o10, hc11, hf⟩ := bd1_some hf
      refine ca_vV C w (wn := fun _ => w_X10_dismiss g h0 h1 h2 v0_1 v0_2 v0_3 v0_4 v0_5 v0_6 v0_7 v0_8 v0_9 v0_10 v0_11 v0_12 v0_13 v0_14 v0_15 v0_16 v0_17 v0_18 v0_19 v0_20 v0_24 v0_25 v0_26 v0_27 v0_28 v0_29 v0_30 v0_31 v0_32 v0_33 v0_34 v0_35 v0_36 v0_37 0 o7 o8 o10) (pm_k [true, false, true] rfl rfl (fun _ => Nat.le_of_ble_eq_true rfl) (fun _ => rfl)) (c_X10_setPassage l g F h0 h2 (.int 0) v0_1 v0_2 v0_3 v0_4 v0_5 v0_6 v0_7 v0_8 v0_9 v0_10 v0_11 v0_12 v0_13 v0_14 v0_15 v0_16 v0_17 v0_18 v0_19 v0_20 (.ref h1) (.int o7) v0_24 v0_25 v0_26 v0_27 v0_28 v0_29 v0_30 v0_31 v0_32 v0_33 v0_34 v0_35 v0_36 v0_37 p1 3 2 state2 o10 _ hc11) k_X10_346 (rm_le (by decide) (by decide)) 0 10 rfl rfl rfl rfl hl.1 rfl (Nat.le_of_ble_eq_true rfl) dX10_dismiss_42 ⟨Nat.le_of_ble_eq_true rfl, Nat.le_of_ble_eq_true rfl⟩ (cells2 := 0) (slots2 := 0) ⟨rfl, rfl⟩ (fun _ H locs w => ?_)
      refine lv_aload_n hx hb dX10_dismiss_45 rfl (lv_at hl 0 rfl) ?_
      obtain ⟨r12, hc13, hf⟩ := bd1_some hf
      refine ca_iV C w (wn := fun _ => w_X10_dismiss g h0 h1 h2 v0_1 v0_2 v0_3 v0_4 v0_5 v0_6 v0_7 v0_8 v0_9 v0_10 v0_11 v0_12 v0_13 v0_14 v0_15 v0_16 v0_17 v0_18 v0_19 v0_20 v0_24 v0_25 v0_26 v0_27 v0_28 v0_29 v0_30 v0_31 v0_32 v0_33 v0_34 v0_35 v0_36 v0_37 0 o7 o8 o10) (pm_k [true, false, true] rfl rfl (fun _ => Nat.le_of_ble_eq_true rfl) (fun _ => rfl)) (c_X10_openMany l g F h0 h2 (.int 0) v0_1 v0_2 v0_3 v0_4 v0_5 v0_6 v0_7 v0_8 v0_9 v0_10 v0_11 v0_12 v0_13 v0_14 v0_15 v0_16 v0_17 v0_18 v0_19 v0_20 (.ref h1) (.int o7) v0_24 v0_25 v0_26 v0_27 v0_28 v0_29 v0_30 v0_31 v0_32 v0_33 v0_34 v0_35 v0_36 v0_37 o10 r12 _ hc13) k_X10_280 (rm_le (by decide) (by decide)) 0 10 rfl rfl rfl rfl hl.1 rfl (Nat.le_of_ble_eq_true rfl) dX10_dismiss_46 ⟨Nat.le_of_ble_eq_true rfl, Nat.le_of_ble_eq_true rfl⟩ (cells2 := 0) (slots2 := 0) ⟨rfl, rfl⟩ (fun _ H locs w => ?_)
      obtain ⟨e1, e2, e3, e4, e5⟩ := tp5 hf
      rw [hQ]
      exact rt_i C w rfl (fun _ => 0) (by rw [← e2, ← e3, ← e4, ← e5]) e1 dX10_dismiss_49
    · replace hf := it_f c6 hf
      refine lv_aload_n hx hb dX10_dismiss_28 rfl (lv_at hl 0 rfl) ?_
      refine lv_iconst (v := 2) hx hb dX10_dismiss_29 (by decide) ?_
      obtain ⟨r14, o15, hc16, hf⟩ := bd2_some hf
      refine ca_iV C w (wn := fun _ => w_X10_dismiss g h0 h1 h2 v0_1 v0_2 v0_3 v0_4 v0_5 v0_6 v0_7 v0_8 v0_9 v0_10 v0_11 v0_12 v0_13 v0_14 v0_15 v0_16 v0_17 v0_18 v0_19 v0_20 v0_24 v0_25 v0_26 v0_27 v0_28 v0_29 v0_30 v0_31 v0_32 v0_33 v0_34 v0_35 v0_36 v0_37 o15 depth0 history1 state2) (pm_k [true, false, false] rfl rfl (fun _ => Nat.le_of_ble_eq_true rfl) (fun _ => rfl)) (c_X10_fail l g F h0 v0_1 v0_2 v0_3 v0_4 v0_5 v0_6 v0_7 v0_8 v0_9 v0_10 v0_11 v0_12 v0_13 v0_14 v0_15 v0_16 v0_17 v0_18 v0_19 v0_20 (.ref h2) (.ref h1) (.int depth0) v0_24 v0_25 v0_26 v0_27 v0_28 v0_29 v0_30 v0_31 v0_32 v0_33 v0_34 v0_35 v0_36 v0_37 2 0 r14 o15 _ hc16) k_X10_202 (rm_le (by decide) (by decide)) 0 10 rfl rfl rfl rfl hl.1 rfl (Nat.le_of_ble_eq_true rfl) dX10_dismiss_30 ⟨Nat.le_of_ble_eq_true rfl, Nat.le_of_ble_eq_true rfl⟩ (cells2 := 0) (slots2 := 0) ⟨rfl, rfl⟩ (fun _ H locs w => ?_)
      obtain ⟨e1, e2, e3, e4, e5⟩ := tp5 hf
      rw [hQ]
      exact rt_i C w rfl (fun _ => 0) (by rw [← e2, ← e3, ← e4, ← e5]) e1 dX10_dismiss_33
  · replace hf := it_t c3 hf
    refine lv_aload_n hx hb dX10_dismiss_13 rfl (lv_at hl 0 rfl) ?_
    refine lv_iconst (v := 1) hx hb dX10_dismiss_14 (by decide) ?_
    obtain ⟨r17, o18, hc19, hf⟩ := bd2_some hf
    refine ca_iV C w (wn := fun _ => w_X10_dismiss g h0 h1 h2 v0_1 v0_2 v0_3 v0_4 v0_5 v0_6 v0_7 v0_8 v0_9 v0_10 v0_11 v0_12 v0_13 v0_14 v0_15 v0_16 v0_17 v0_18 v0_19 v0_20 v0_24 v0_25 v0_26 v0_27 v0_28 v0_29 v0_30 v0_31 v0_32 v0_33 v0_34 v0_35 v0_36 v0_37 o18 depth0 history1 state2) (pm_k [true, false, false] rfl rfl (fun _ => Nat.le_of_ble_eq_true rfl) (fun _ => rfl)) (c_X10_fail l g F h0 v0_1 v0_2 v0_3 v0_4 v0_5 v0_6 v0_7 v0_8 v0_9 v0_10 v0_11 v0_12 v0_13 v0_14 v0_15 v0_16 v0_17 v0_18 v0_19 v0_20 (.ref h2) (.ref h1) (.int depth0) v0_24 v0_25 v0_26 v0_27 v0_28 v0_29 v0_30 v0_31 v0_32 v0_33 v0_34 v0_35 v0_36 v0_37 1 0 r17 o18 _ hc19) k_X10_202 (rm_le (by decide) (by decide)) 0 10 rfl rfl rfl rfl hl.1 rfl (Nat.le_of_ble_eq_true rfl) dX10_dismiss_15 ⟨Nat.le_of_ble_eq_true rfl, Nat.le_of_ble_eq_true rfl⟩ (cells2 := 0) (slots2 := 0) ⟨rfl, rfl⟩ (fun _ H locs w => ?_)
    obtain ⟨e1, e2, e3, e4, e5⟩ := tp5 hf
    rw [hQ]
    exact rt_i C w rfl (fun _ => 0) (by rw [← e2, ← e3, ← e4, ← e5]) e1 dX10_dismiss_18

theorem dX10_bill_0 : decode cX10_bill 0 = .ok (.aload_n 0, 1) := by decide +kernel
theorem dX10_bill_1 : decode cX10_bill 1 = .ok (.iconst 0, 1) := by decide +kernel
theorem dX10_bill_2 : decode cX10_bill 2 = .ok (.putfield 84, 3) := by decide +kernel
theorem dX10_bill_5 : decode cX10_bill 5 = .ok (.iload_n 1, 1) := by decide +kernel
theorem dX10_bill_6 : decode cX10_bill 6 = .ok (.i2l, 1) := by decide +kernel
theorem dX10_bill_7 : decode cX10_bill 7 = .ok (.lconst 0, 1) := by decide +kernel
theorem dX10_bill_8 : decode cX10_bill 8 = .ok (.ldc2_w 241, 3) := by decide +kernel
theorem dX10_bill_11 : decode cX10_bill 11 = .ok (.invokestatic 115, 3) := by decide +kernel
theorem dX10_bill_14 : decode cX10_bill 14 = .ok (.ifCond .ne 9, 3) := by decide +kernel
theorem dX10_bill_17 : decode cX10_bill 17 = .ok (.aload_n 0, 1) := by decide +kernel
theorem dX10_bill_18 : decode cX10_bill 18 = .ok (.iconst 1, 1) := by decide +kernel
theorem dX10_bill_19 : decode cX10_bill 19 = .ok (.invokevirtual 202, 3) := by decide +kernel
theorem dX10_bill_22 : decode cX10_bill 22 = .ok (.ireturn, 1) := by decide +kernel
theorem dX10_bill_23 : decode cX10_bill 23 = .ok (.aload_n 0, 1) := by decide +kernel
theorem dX10_bill_24 : decode cX10_bill 24 = .ok (.iload_n 1, 1) := by decide +kernel
theorem dX10_bill_25 : decode cX10_bill 25 = .ok (.invokevirtual 313, 3) := by decide +kernel
theorem dX10_bill_28 : decode cX10_bill 28 = .ok (.aload_n 0, 1) := by decide +kernel
theorem dX10_bill_29 : decode cX10_bill 29 = .ok (.getfield 292, 3) := by decide +kernel
theorem dX10_bill_32 : decode cX10_bill 32 = .ok (.ifCond .ne 5, 3) := by decide +kernel
theorem dX10_bill_35 : decode cX10_bill 35 = .ok (.iconst 0, 1) := by decide +kernel
theorem dX10_bill_36 : decode cX10_bill 36 = .ok (.ireturn, 1) := by decide +kernel
theorem dX10_bill_37 : decode cX10_bill 37 = .ok (.aload_n 0, 1) := by decide +kernel
theorem dX10_bill_38 : decode cX10_bill 38 = .ok (.getfield 44, 3) := by decide +kernel
theorem dX10_bill_41 : decode cX10_bill 41 = .ok (.iconst 2, 1) := by decide +kernel
theorem dX10_bill_42 : decode cX10_bill 42 = .ok (.iaload, 1) := by decide +kernel
theorem dX10_bill_43 : decode cX10_bill 43 = .ok (.aload_n 0, 1) := by decide +kernel
theorem dX10_bill_44 : decode cX10_bill 44 = .ok (.getfield 283, 3) := by decide +kernel
theorem dX10_bill_47 : decode cX10_bill 47 = .ok (.iadd, 1) := by decide +kernel
theorem dX10_bill_48 : decode cX10_bill 48 = .ok (.bipush 40, 2) := by decide +kernel
theorem dX10_bill_50 : decode cX10_bill 50 = .ok (.if_icmp .le 9, 3) := by decide +kernel
theorem dX10_bill_53 : decode cX10_bill 53 = .ok (.aload_n 0, 1) := by decide +kernel
theorem dX10_bill_54 : decode cX10_bill 54 = .ok (.iconst 2, 1) := by decide +kernel
theorem dX10_bill_55 : decode cX10_bill 55 = .ok (.invokevirtual 202, 3) := by decide +kernel
theorem dX10_bill_58 : decode cX10_bill 58 = .ok (.ireturn, 1) := by decide +kernel
theorem dX10_bill_59 : decode cX10_bill 59 = .ok (.aload_n 0, 1) := by decide +kernel
theorem dX10_bill_60 : decode cX10_bill 60 = .ok (.invokevirtual 343, 3) := by decide +kernel
theorem dX10_bill_63 : decode cX10_bill 63 = .ok (.iconst 0, 1) := by decide +kernel
theorem dX10_bill_64 : decode cX10_bill 64 = .ok (.istore_n 2, 1) := by decide +kernel
theorem dX10_bill_65 : decode cX10_bill 65 = .ok (.iload_n 2, 1) := by decide +kernel
theorem dX10_bill_66 : decode cX10_bill 66 = .ok (.aload_n 0, 1) := by decide +kernel
theorem dX10_bill_67 : decode cX10_bill 67 = .ok (.getfield 44, 3) := by decide +kernel
theorem dX10_bill_70 : decode cX10_bill 70 = .ok (.iconst 0, 1) := by decide +kernel
theorem dX10_bill_71 : decode cX10_bill 71 = .ok (.iaload, 1) := by decide +kernel
theorem dX10_bill_72 : decode cX10_bill 72 = .ok (.if_icmp .ge 50, 3) := by decide +kernel
theorem dX10_bill_75 : decode cX10_bill 75 = .ok (.aload_n 0, 1) := by decide +kernel
theorem dX10_bill_76 : decode cX10_bill 76 = .ok (.getfield 78, 3) := by decide +kernel
theorem dX10_bill_79 : decode cX10_bill 79 = .ok (.iload_n 2, 1) := by decide +kernel
theorem dX10_bill_80 : decode cX10_bill 80 = .ok (.iaload, 1) := by decide +kernel
theorem dX10_bill_81 : decode cX10_bill 81 = .ok (.ifCond .ge 6, 3) := by decide +kernel
theorem dX10_bill_84 : decode cX10_bill 84 = .ok (.goto 32, 3) := by decide +kernel
theorem dX10_bill_87 : decode cX10_bill 87 = .ok (.aload_n 0, 1) := by decide +kernel
theorem dX10_bill_88 : decode cX10_bill 88 = .ok (.iload_n 2, 1) := by decide +kernel
theorem dX10_bill_89 : decode cX10_bill 89 = .ok (.iconst 3, 1) := by decide +kernel
theorem dX10_bill_90 : decode cX10_bill 90 = .ok (.iconst 1, 1) := by decide +kernel
theorem dX10_bill_91 : decode cX10_bill 91 = .ok (.invokevirtual 346, 3) := by decide +kernel
theorem dX10_bill_94 : decode cX10_bill 94 = .ok (.aload_n 0, 1) := by decide +kernel
theorem dX10_bill_95 : decode cX10_bill 95 = .ok (.iload_n 2, 1) := by decide +kernel
theorem dX10_bill_96 : decode cX10_bill 96 = .ok (.bipush 24, 2) := by decide +kernel
theorem dX10_bill_98 : decode cX10_bill 98 = .ok (.aload_n 0, 1) := by decide +kernel
theorem dX10_bill_99 : decode cX10_bill 99 = .ok (.getfield 44, 3) := by decide +kernel
theorem dX10_bill_102 : decode cX10_bill 102 = .ok (.iconst 1, 1) := by decide +kernel
theorem dX10_bill_103 : decode cX10_bill 103 = .ok (.iaload, 1) := by decide +kernel
theorem dX10_bill_104 : decode cX10_bill 104 = .ok (.aload_n 0, 1) := by decide +kernel
theorem dX10_bill_105 : decode cX10_bill 105 = .ok (.getfield 78, 3) := by decide +kernel
theorem dX10_bill_108 : decode cX10_bill 108 = .ok (.iload_n 2, 1) := by decide +kernel
theorem dX10_bill_109 : decode cX10_bill 109 = .ok (.iaload, 1) := by decide +kernel
theorem dX10_bill_110 : decode cX10_bill 110 = .ok (.iadd, 1) := by decide +kernel
theorem dX10_bill_111 : decode cX10_bill 111 = .ok (.iconst 1, 1) := by decide +kernel
theorem dX10_bill_112 : decode cX10_bill 112 = .ok (.iadd, 1) := by decide +kernel
theorem dX10_bill_113 : decode cX10_bill 113 = .ok (.invokevirtual 346, 3) := by decide +kernel
theorem dX10_bill_116 : decode cX10_bill 116 = .ok (.iinc 2 1, 3) := by decide +kernel
theorem dX10_bill_119 : decode cX10_bill 119 = .ok (.goto (-54), 3) := by decide +kernel
theorem dX10_bill_122 : decode cX10_bill 122 = .ok (.iconst 0, 1) := by decide +kernel
theorem dX10_bill_123 : decode cX10_bill 123 = .ok (.istore_n 2, 1) := by decide +kernel
theorem dX10_bill_124 : decode cX10_bill 124 = .ok (.iload_n 2, 1) := by decide +kernel
theorem dX10_bill_125 : decode cX10_bill 125 = .ok (.aload_n 0, 1) := by decide +kernel
theorem dX10_bill_126 : decode cX10_bill 126 = .ok (.getfield 292, 3) := by decide +kernel
theorem dX10_bill_129 : decode cX10_bill 129 = .ok (.if_icmp .ge 96, 3) := by decide +kernel
theorem dX10_bill_132 : decode cX10_bill 132 = .ok (.sipush 2004, 3) := by decide +kernel
theorem dX10_bill_135 : decode cX10_bill 135 = .ok (.iconst 5, 1) := by decide +kernel
theorem dX10_bill_136 : decode cX10_bill 136 = .ok (.aload_n 0, 1) := by decide +kernel
theorem dX10_bill_137 : decode cX10_bill 137 = .ok (.getfield 44, 3) := by decide +kernel
theorem dX10_bill_140 : decode cX10_bill 140 = .ok (.iconst 1, 1) := by decide +kernel
theorem dX10_bill_141 : decode cX10_bill 141 = .ok (.iaload, 1) := by decide +kernel
theorem dX10_bill_142 : decode cX10_bill 142 = .ok (.iload_n 2, 1) := by decide +kernel
theorem dX10_bill_143 : decode cX10_bill 143 = .ok (.iadd, 1) := by decide +kernel
theorem dX10_bill_144 : decode cX10_bill 144 = .ok (.imul, 1) := by decide +kernel
theorem dX10_bill_145 : decode cX10_bill 145 = .ok (.iadd, 1) := by decide +kernel
theorem dX10_bill_146 : decode cX10_bill 146 = .ok (.istore_n 3, 1) := by decide +kernel
theorem dX10_bill_147 : decode cX10_bill 147 = .ok (.aload_n 0, 1) := by decide +kernel
theorem dX10_bill_148 : decode cX10_bill 148 = .ok (.getfield 44, 3) := by decide +kernel
theorem dX10_bill_151 : decode cX10_bill 151 = .ok (.iload_n 3, 1) := by decide +kernel
theorem dX10_bill_152 : decode cX10_bill 152 = .ok (.iconst 0, 1) := by decide +kernel
theorem dX10_bill_153 : decode cX10_bill 153 = .ok (.iadd, 1) := by decide +kernel
theorem dX10_bill_154 : decode cX10_bill 154 = .ok (.aload_n 0, 1) := by decide +kernel
theorem dX10_bill_155 : decode cX10_bill 155 = .ok (.getfield 44, 3) := by decide +kernel
theorem dX10_bill_158 : decode cX10_bill 158 = .ok (.iconst 2, 1) := by decide +kernel
theorem dX10_bill_159 : decode cX10_bill 159 = .ok (.iaload, 1) := by decide +kernel
theorem dX10_bill_160 : decode cX10_bill 160 = .ok (.aload_n 0, 1) := by decide +kernel
theorem dX10_bill_161 : decode cX10_bill 161 = .ok (.getfield 63, 3) := by decide +kernel
theorem dX10_bill_164 : decode cX10_bill 164 = .ok (.iload_n 2, 1) := by decide +kernel
theorem dX10_bill_165 : decode cX10_bill 165 = .ok (.iaload, 1) := by decide +kernel
theorem dX10_bill_166 : decode cX10_bill 166 = .ok (.iadd, 1) := by decide +kernel
theorem dX10_bill_167 : decode cX10_bill 167 = .ok (.iastore, 1) := by decide +kernel
theorem dX10_bill_168 : decode cX10_bill 168 = .ok (.aload_n 0, 1) := by decide +kernel
theorem dX10_bill_169 : decode cX10_bill 169 = .ok (.getfield 44, 3) := by decide +kernel
theorem dX10_bill_172 : decode cX10_bill 172 = .ok (.iload_n 3, 1) := by decide +kernel
theorem dX10_bill_173 : decode cX10_bill 173 = .ok (.iconst 1, 1) := by decide +kernel
theorem dX10_bill_174 : decode cX10_bill 174 = .ok (.iadd, 1) := by decide +kernel
theorem dX10_bill_175 : decode cX10_bill 175 = .ok (.aload_n 0, 1) := by decide +kernel
theorem dX10_bill_176 : decode cX10_bill 176 = .ok (.getfield 66, 3) := by decide +kernel
theorem dX10_bill_179 : decode cX10_bill 179 = .ok (.iload_n 2, 1) := by decide +kernel
theorem dX10_bill_180 : decode cX10_bill 180 = .ok (.iaload, 1) := by decide +kernel
theorem dX10_bill_181 : decode cX10_bill 181 = .ok (.iastore, 1) := by decide +kernel
theorem dX10_bill_182 : decode cX10_bill 182 = .ok (.aload_n 0, 1) := by decide +kernel
theorem dX10_bill_183 : decode cX10_bill 183 = .ok (.getfield 44, 3) := by decide +kernel
theorem dX10_bill_186 : decode cX10_bill 186 = .ok (.iload_n 3, 1) := by decide +kernel
theorem dX10_bill_187 : decode cX10_bill 187 = .ok (.iconst 2, 1) := by decide +kernel
theorem dX10_bill_188 : decode cX10_bill 188 = .ok (.iadd, 1) := by decide +kernel
theorem dX10_bill_189 : decode cX10_bill 189 = .ok (.aload_n 0, 1) := by decide +kernel
theorem dX10_bill_190 : decode cX10_bill 190 = .ok (.getfield 69, 3) := by decide +kernel
theorem dX10_bill_193 : decode cX10_bill 193 = .ok (.iload_n 2, 1) := by decide +kernel
theorem dX10_bill_194 : decode cX10_bill 194 = .ok (.iaload, 1) := by decide +kernel
theorem dX10_bill_195 : decode cX10_bill 195 = .ok (.iastore, 1) := by decide +kernel
theorem dX10_bill_196 : decode cX10_bill 196 = .ok (.aload_n 0, 1) := by decide +kernel
theorem dX10_bill_197 : decode cX10_bill 197 = .ok (.getfield 44, 3) := by decide +kernel
theorem dX10_bill_200 : decode cX10_bill 200 = .ok (.iload_n 3, 1) := by decide +kernel
theorem dX10_bill_201 : decode cX10_bill 201 = .ok (.iconst 3, 1) := by decide +kernel
theorem dX10_bill_202 : decode cX10_bill 202 = .ok (.iadd, 1) := by decide +kernel
theorem dX10_bill_203 : decode cX10_bill 203 = .ok (.aload_n 0, 1) := by decide +kernel
theorem dX10_bill_204 : decode cX10_bill 204 = .ok (.getfield 72, 3) := by decide +kernel
theorem dX10_bill_207 : decode cX10_bill 207 = .ok (.iload_n 2, 1) := by decide +kernel
theorem dX10_bill_208 : decode cX10_bill 208 = .ok (.iaload, 1) := by decide +kernel
theorem dX10_bill_209 : decode cX10_bill 209 = .ok (.iastore, 1) := by decide +kernel
theorem dX10_bill_210 : decode cX10_bill 210 = .ok (.aload_n 0, 1) := by decide +kernel
theorem dX10_bill_211 : decode cX10_bill 211 = .ok (.getfield 44, 3) := by decide +kernel
theorem dX10_bill_214 : decode cX10_bill 214 = .ok (.iload_n 3, 1) := by decide +kernel
theorem dX10_bill_215 : decode cX10_bill 215 = .ok (.iconst 4, 1) := by decide +kernel
theorem dX10_bill_216 : decode cX10_bill 216 = .ok (.iadd, 1) := by decide +kernel
theorem dX10_bill_217 : decode cX10_bill 217 = .ok (.iconst 0, 1) := by decide +kernel
theorem dX10_bill_218 : decode cX10_bill 218 = .ok (.iastore, 1) := by decide +kernel
theorem dX10_bill_219 : decode cX10_bill 219 = .ok (.iinc 2 1, 3) := by decide +kernel
theorem dX10_bill_222 : decode cX10_bill 222 = .ok (.goto (-98), 3) := by decide +kernel
theorem dX10_bill_225 : decode cX10_bill 225 = .ok (.iconst 0, 1) := by decide +kernel
theorem dX10_bill_226 : decode cX10_bill 226 = .ok (.istore_n 2, 1) := by decide +kernel
theorem dX10_bill_227 : decode cX10_bill 227 = .ok (.iload_n 2, 1) := by decide +kernel
theorem dX10_bill_228 : decode cX10_bill 228 = .ok (.aload_n 0, 1) := by decide +kernel
theorem dX10_bill_229 : decode cX10_bill 229 = .ok (.getfield 283, 3) := by decide +kernel
theorem dX10_bill_232 : decode cX10_bill 232 = .ok (.if_icmp .ge 106, 3) := by decide +kernel
theorem dX10_bill_235 : decode cX10_bill 235 = .ok (.sipush 2404, 3) := by decide +kernel
theorem dX10_bill_238 : decode cX10_bill 238 = .ok (.iconst 3, 1) := by decide +kernel
theorem dX10_bill_239 : decode cX10_bill 239 = .ok (.aload_n 0, 1) := by decide +kernel
theorem dX10_bill_240 : decode cX10_bill 240 = .ok (.getfield 44, 3) := by decide +kernel
theorem dX10_bill_243 : decode cX10_bill 243 = .ok (.iconst 2, 1) := by decide +kernel
theorem dX10_bill_244 : decode cX10_bill 244 = .ok (.iaload, 1) := by decide +kernel
theorem dX10_bill_245 : decode cX10_bill 245 = .ok (.iload_n 2, 1) := by decide +kernel
theorem dX10_bill_246 : decode cX10_bill 246 = .ok (.iadd, 1) := by decide +kernel
theorem dX10_bill_247 : decode cX10_bill 247 = .ok (.imul, 1) := by decide +kernel
theorem dX10_bill_248 : decode cX10_bill 248 = .ok (.iadd, 1) := by decide +kernel
theorem dX10_bill_249 : decode cX10_bill 249 = .ok (.istore_n 3, 1) := by decide +kernel
theorem dX10_bill_250 : decode cX10_bill 250 = .ok (.aload_n 0, 1) := by decide +kernel
theorem dX10_bill_251 : decode cX10_bill 251 = .ok (.getfield 44, 3) := by decide +kernel
theorem dX10_bill_254 : decode cX10_bill 254 = .ok (.iload_n 3, 1) := by decide +kernel
theorem dX10_bill_255 : decode cX10_bill 255 = .ok (.iconst 0, 1) := by decide +kernel
theorem dX10_bill_256 : decode cX10_bill 256 = .ok (.iadd, 1) := by decide +kernel
theorem dX10_bill_257 : decode cX10_bill 257 = .ok (.aload_n 0, 1) := by decide +kernel
theorem dX10_bill_258 : decode cX10_bill 258 = .ok (.getfield 75, 3) := by decide +kernel
theorem dX10_bill_261 : decode cX10_bill 261 = .ok (.iload_n 2, 1) := by decide +kernel
theorem dX10_bill_262 : decode cX10_bill 262 = .ok (.iaload, 1) := by decide +kernel
theorem dX10_bill_263 : decode cX10_bill 263 = .ok (.invokestatic 268, 3) := by decide +kernel
theorem dX10_bill_266 : decode cX10_bill 266 = .ok (.ifCond .eq 12, 3) := by decide +kernel
theorem dX10_bill_269 : decode cX10_bill 269 = .ok (.aload_n 0, 1) := by decide +kernel
theorem dX10_bill_270 : decode cX10_bill 270 = .ok (.getfield 75, 3) := by decide +kernel
theorem dX10_bill_273 : decode cX10_bill 273 = .ok (.iload_n 2, 1) := by decide +kernel
theorem dX10_bill_274 : decode cX10_bill 274 = .ok (.iaload, 1) := by decide +kernel
theorem dX10_bill_275 : decode cX10_bill 275 = .ok (.goto 4, 3) := by decide +kernel
theorem dX10_bill_278 : decode cX10_bill 278 = .ok (.iconst (-1), 1) := by decide +kernel
theorem dX10_bill_279 : decode cX10_bill 279 = .ok (.iastore, 1) := by decide +kernel
theorem dX10_bill_280 : decode cX10_bill 280 = .ok (.aload_n 0, 1) := by decide +kernel
theorem dX10_bill_281 : decode cX10_bill 281 = .ok (.getfield 44, 3) := by decide +kernel
theorem dX10_bill_284 : decode cX10_bill 284 = .ok (.iload_n 3, 1) := by decide +kernel
theorem dX10_bill_285 : decode cX10_bill 285 = .ok (.iconst 1, 1) := by decide +kernel
theorem dX10_bill_286 : decode cX10_bill 286 = .ok (.iadd, 1) := by decide +kernel
theorem dX10_bill_287 : decode cX10_bill 287 = .ok (.aload_n 0, 1) := by decide +kernel
theorem dX10_bill_288 : decode cX10_bill 288 = .ok (.getfield 75, 3) := by decide +kernel
theorem dX10_bill_291 : decode cX10_bill 291 = .ok (.iload_n 2, 1) := by decide +kernel
theorem dX10_bill_292 : decode cX10_bill 292 = .ok (.iaload, 1) := by decide +kernel
theorem dX10_bill_293 : decode cX10_bill 293 = .ok (.invokestatic 268, 3) := by decide +kernel
theorem dX10_bill_296 : decode cX10_bill 296 = .ok (.ifCond .eq 17, 3) := by decide +kernel
theorem dX10_bill_299 : decode cX10_bill 299 = .ok (.aload_n 0, 1) := by decide +kernel
theorem dX10_bill_300 : decode cX10_bill 300 = .ok (.getfield 38, 3) := by decide +kernel
theorem dX10_bill_303 : decode cX10_bill 303 = .ok (.aload_n 0, 1) := by decide +kernel
theorem dX10_bill_304 : decode cX10_bill 304 = .ok (.getfield 75, 3) := by decide +kernel
theorem dX10_bill_307 : decode cX10_bill 307 = .ok (.iload_n 2, 1) := by decide +kernel
theorem dX10_bill_308 : decode cX10_bill 308 = .ok (.iaload, 1) := by decide +kernel
theorem dX10_bill_309 : decode cX10_bill 309 = .ok (.iaload, 1) := by decide +kernel
theorem dX10_bill_310 : decode cX10_bill 310 = .ok (.goto 12, 3) := by decide +kernel
theorem dX10_bill_313 : decode cX10_bill 313 = .ok (.aload_n 0, 1) := by decide +kernel
theorem dX10_bill_314 : decode cX10_bill 314 = .ok (.getfield 75, 3) := by decide +kernel
theorem dX10_bill_317 : decode cX10_bill 317 = .ok (.iload_n 2, 1) := by decide +kernel
theorem dX10_bill_318 : decode cX10_bill 318 = .ok (.iaload, 1) := by decide +kernel
theorem dX10_bill_319 : decode cX10_bill 319 = .ok (.bipush 100, 2) := by decide +kernel
theorem dX10_bill_321 : decode cX10_bill 321 = .ok (.isub, 1) := by decide +kernel
theorem dX10_bill_322 : decode cX10_bill 322 = .ok (.iastore, 1) := by decide +kernel
theorem dX10_bill_323 : decode cX10_bill 323 = .ok (.aload_n 0, 1) := by decide +kernel
theorem dX10_bill_324 : decode cX10_bill 324 = .ok (.getfield 44, 3) := by decide +kernel
theorem dX10_bill_327 : decode cX10_bill 327 = .ok (.iload_n 3, 1) := by decide +kernel
theorem dX10_bill_328 : decode cX10_bill 328 = .ok (.iconst 2, 1) := by decide +kernel
theorem dX10_bill_329 : decode cX10_bill 329 = .ok (.iadd, 1) := by decide +kernel
theorem dX10_bill_330 : decode cX10_bill 330 = .ok (.iconst 0, 1) := by decide +kernel
theorem dX10_bill_331 : decode cX10_bill 331 = .ok (.iastore, 1) := by decide +kernel
theorem dX10_bill_332 : decode cX10_bill 332 = .ok (.iinc 2 1, 3) := by decide +kernel
theorem dX10_bill_335 : decode cX10_bill 335 = .ok (.goto (-108), 3) := by decide +kernel
theorem dX10_bill_338 : decode cX10_bill 338 = .ok (.aload_n 0, 1) := by decide +kernel
theorem dX10_bill_339 : decode cX10_bill 339 = .ok (.getfield 44, 3) := by decide +kernel
theorem dX10_bill_342 : decode cX10_bill 342 = .ok (.iconst 1, 1) := by decide +kernel
theorem dX10_bill_343 : decode cX10_bill 343 = .ok (.dup2, 1) := by decide +kernel
theorem dX10_bill_344 : decode cX10_bill 344 = .ok (.iaload, 1) := by decide +kernel
theorem dX10_bill_345 : decode cX10_bill 345 = .ok (.aload_n 0, 1) := by decide +kernel
theorem dX10_bill_346 : decode cX10_bill 346 = .ok (.getfield 292, 3) := by decide +kernel
theorem dX10_bill_349 : decode cX10_bill 349 = .ok (.iadd, 1) := by decide +kernel
theorem dX10_bill_350 : decode cX10_bill 350 = .ok (.iastore, 1) := by decide +kernel
theorem dX10_bill_351 : decode cX10_bill 351 = .ok (.aload_n 0, 1) := by decide +kernel
theorem dX10_bill_352 : decode cX10_bill 352 = .ok (.getfield 44, 3) := by decide +kernel
theorem dX10_bill_355 : decode cX10_bill 355 = .ok (.iconst 2, 1) := by decide +kernel
theorem dX10_bill_356 : decode cX10_bill 356 = .ok (.dup2, 1) := by decide +kernel
theorem dX10_bill_357 : decode cX10_bill 357 = .ok (.iaload, 1) := by decide +kernel
theorem dX10_bill_358 : decode cX10_bill 358 = .ok (.aload_n 0, 1) := by decide +kernel
theorem dX10_bill_359 : decode cX10_bill 359 = .ok (.getfield 283, 3) := by decide +kernel
theorem dX10_bill_362 : decode cX10_bill 362 = .ok (.iadd, 1) := by decide +kernel
theorem dX10_bill_363 : decode cX10_bill 363 = .ok (.iastore, 1) := by decide +kernel
theorem dX10_bill_364 : decode cX10_bill 364 = .ok (.aload_n 0, 1) := by decide +kernel
theorem dX10_bill_365 : decode cX10_bill 365 = .ok (.getfield 292, 3) := by decide +kernel
theorem dX10_bill_368 : decode cX10_bill 368 = .ok (.ireturn, 1) := by decide +kernel
abbrev m_X10_bill : MD := (yX10_bill, cX10_bill, 4, (some .int))

abbrev w_X10_bill (g : GT) (h0 h1 h2 h3 h4 h5 h6 h7 h8 h9 h10 h11 h12 h13 h14 h15 h16 h17 h18 h19 : Nat) (v0_1 v0_2 v0_3 v0_4 v0_5 v0_6 v0_7 v0_8 v0_9 v0_11 v0_20 v0_24 v0_25 : Value) (thrown0 depth0 routeMany0 routeCost0 newTrips0 newInvoices0 : Int32) (basic1 classAxles2 classPercent3 history4 linkFrom5 linkMinutes6 linkPrice7 linkTo8 newAmount9 newClass10 newInvoice11 newPassages12 newVehicle13 route14 state15 tagAxles16 tagPlate17 tried18 tripFor19 : Nat → Int32) : va_W := [(h0, .inr (10, [.int thrown0, v0_1, v0_2, v0_3, v0_4, v0_5, v0_6, v0_7, v0_8, v0_9, .ref h1, v0_11, .ref h5, .ref h8, .ref h6, .ref h7, .ref h2, .ref h3, .ref h17, .ref h16, v0_20, .ref h15, .ref h4, .int depth0, v0_24, v0_25, .int routeMany0, .int routeCost0, .ref h14, .ref h18, .ref h11, .ref h9, .ref h10, .ref h12, .ref h13, .ref h19, .int newTrips0, .int newInvoices0])), (h1, aI g 7 basic1), (h2, aI g 8 classAxles2), (h3, aI g 8 classPercent3), (h4, aI g 25240 history4), (h5, aI g 48 linkFrom5), (h6, aI g 48 linkMinutes6), (h7, aI g 48 linkPrice7), (h8, aI g 48 linkTo8), (h9, aI g 80 newAmount9), (h10, aI g 80 newClass10), (h11, aI g 80 newInvoice11), (h12, aI g 80 newPassages12), (h13, aI g 80 newVehicle13), (h14, aI g 4 route14), (h15, aI g 2524 state15), (h16, aI g 24 tagAxles16), (h17, aI g 24 tagPlate17), (h18, aI g 4 tried18), (h19, aI g 80 tripFor19)]
def f_X10_bill_b322 (F : Nat) (k227 : (Int32 × Int32 × Int32 × Int32 × Int32 × Int32 × Int32 × (Nat → Int32) × (Nat → Int32) × (Nat → Int32) × (Nat → Int32) × (Nat → Int32) × (Nat → Int32) × (Nat → Int32) × (Nat → Int32) × (Nat → Int32) × (Nat → Int32)) → Option (Int32 × Int32 × Int32 × Int32 × Int32 × Int32 × Int32 × (Nat → Int32) × (Nat → Int32) × (Nat → Int32) × (Nat → Int32) × (Nat → Int32) × (Nat → Int32) × (Nat → Int32) × (Nat → Int32) × (Nat → Int32) × (Nat → Int32))) (basic1 classAxles2 classPercent3 linkFrom5 linkMinutes6 linkPrice7 linkTo8 tagAxles16 tagPlate17 : Nat → Int32) (x2 x3 s0 s1 thrown0 depth0 routeMany0 routeCost0 newTrips0 newInvoices0 : Int32) (history4 newAmount9 newClass10 newInvoice11 newPassages12 newVehicle13 route14 state15 tried18 tripFor19 : Nat → Int32) : Option (Int32 × Int32 × Int32 × Int32 × Int32 × Int32 × Int32 × (Nat → Int32) × (Nat → Int32) × (Nat → Int32) × (Nat → Int32) × (Nat → Int32) × (Nat → Int32) × (Nat → Int32) × (Nat → Int32) × (Nat → Int32) × (Nat → Int32)) :=
  wr state15 2524 s1 s0 fun f1 =>
  wr f1 2524 (x3 + 2) 0 fun f2 =>
  k227 (x2 + 1, thrown0, depth0, routeMany0, routeCost0, newTrips0, newInvoices0, history4, newAmount9, newClass10, newInvoice11, newPassages12, newVehicle13, route14, f2, tried18, tripFor19)
def f_X10_bill_b279 (F : Nat) (k227 : (Int32 × Int32 × Int32 × Int32 × Int32 × Int32 × Int32 × (Nat → Int32) × (Nat → Int32) × (Nat → Int32) × (Nat → Int32) × (Nat → Int32) × (Nat → Int32) × (Nat → Int32) × (Nat → Int32) × (Nat → Int32) × (Nat → Int32)) → Option (Int32 × Int32 × Int32 × Int32 × Int32 × Int32 × Int32 × (Nat → Int32) × (Nat → Int32) × (Nat → Int32) × (Nat → Int32) × (Nat → Int32) × (Nat → Int32) × (Nat → Int32) × (Nat → Int32) × (Nat → Int32) × (Nat → Int32))) (basic1 classAxles2 classPercent3 linkFrom5 linkMinutes6 linkPrice7 linkTo8 tagAxles16 tagPlate17 : Nat → Int32) (x2 x3 s0 s1 thrown0 depth0 routeMany0 routeCost0 newTrips0 newInvoices0 : Int32) (history4 newAmount9 newClass10 newInvoice11 newPassages12 newVehicle13 route14 state15 tried18 tripFor19 : Nat → Int32) : Option (Int32 × Int32 × Int32 × Int32 × Int32 × Int32 × Int32 × (Nat → Int32) × (Nat → Int32) × (Nat → Int32) × (Nat → Int32) × (Nat → Int32) × (Nat → Int32) × (Nat → Int32) × (Nat → Int32) × (Nat → Int32) × (Nat → Int32)) :=
  wr state15 2524 s1 s0 fun f3 =>
  rd newVehicle13 80 x2 fun a4 =>
  bd1 (f_X10_isTag F a4) fun r5 =>
  if r5 = 0 then
    rd newVehicle13 80 x2 fun a8 =>
    f_X10_bill_b322 F k227 basic1 classAxles2 classPercent3 linkFrom5 linkMinutes6 linkPrice7 linkTo8 tagAxles16 tagPlate17 x2 x3 (a8 - 100) (x3 + 1) thrown0 depth0 routeMany0 routeCost0 newTrips0 newInvoices0 history4 newAmount9 newClass10 newInvoice11 newPassages12 newVehicle13 route14 f3 tried18 tripFor19
  else
    rd newVehicle13 80 x2 fun a9 =>
    rd tagPlate17 24 a9 fun a10 =>
    f_X10_bill_b322 F k227 basic1 classAxles2 classPercent3 linkFrom5 linkMinutes6 linkPrice7 linkTo8 tagAxles16 tagPlate17 x2 x3 a10 (x3 + 1) thrown0 depth0 routeMany0 routeCost0 newTrips0 newInvoices0 history4 newAmount9 newClass10 newInvoice11 newPassages12 newVehicle13 route14 f3 tried18 tripFor19
def f_X10_bill_h227 (F : Nat) (basic1 classAxles2 classPercent3 linkFrom5 linkMinutes6 linkPrice7 linkTo8 tagAxles16 tagPlate17 : Nat → Int32) (k227 : (Int32 × Int32 × Int32 × Int32 × Int32 × Int32 × Int32 × (Nat → Int32) × (Nat → Int32) × (Nat → Int32) × (Nat → Int32) × (Nat → Int32) × (Nat → Int32) × (Nat → Int32) × (Nat → Int32) × (Nat → Int32) × (Nat → Int32)) → Option (Int32 × Int32 × Int32 × Int32 × Int32 × Int32 × Int32 × (Nat → Int32) × (Nat → Int32) × (Nat → Int32) × (Nat → Int32) × (Nat → Int32) × (Nat → Int32) × (Nat → Int32) × (Nat → Int32) × (Nat → Int32) × (Nat → Int32))) (x2 thrown0 depth0 routeMany0 routeCost0 newTrips0 newInvoices0 : Int32) (history4 newAmount9 newClass10 newInvoice11 newPassages12 newVehicle13 route14 state15 tried18 tripFor19 : Nat → Int32) : Option (Int32 × Int32 × Int32 × Int32 × Int32 × Int32 × Int32 × (Nat → Int32) × (Nat → Int32) × (Nat → Int32) × (Nat → Int32) × (Nat → Int32) × (Nat → Int32) × (Nat → Int32) × (Nat → Int32) × (Nat → Int32) × (Nat → Int32)) :=
  if newInvoices0 ≤ x2 then
    rd state15 2524 1 fun a12 =>
    wr state15 2524 1 (a12 + newTrips0) fun f13 =>
    rd f13 2524 2 fun a14 =>
    wr f13 2524 2 (a14 + newInvoices0) fun f15 =>
    some (newTrips0, thrown0, depth0, routeMany0, routeCost0, newTrips0, newInvoices0, history4, newAmount9, newClass10, newInvoice11, newPassages12, newVehicle13, route14, f15, tried18, tripFor19)
  else
    rd state15 2524 2 fun a16 =>
    rd newVehicle13 80 x2 fun a17 =>
    bd1 (f_X10_isTag F a17) fun r18 =>
    if r18 = 0 then
      f_X10_bill_b279 F k227 basic1 classAxles2 classPercent3 linkFrom5 linkMinutes6 linkPrice7 linkTo8 tagAxles16 tagPlate17 x2 (2404 + (3 * (a16 + x2))) (-1) ((2404 + (3 * (a16 + x2))) + 0) thrown0 depth0 routeMany0 routeCost0 newTrips0 newInvoices0 history4 newAmount9 newClass10 newInvoice11 newPassages12 newVehicle13 route14 state15 tried18 tripFor19
    else
      rd newVehicle13 80 x2 fun a21 =>
      f_X10_bill_b279 F k227 basic1 classAxles2 classPercent3 linkFrom5 linkMinutes6 linkPrice7 linkTo8 tagAxles16 tagPlate17 x2 (2404 + (3 * (a16 + x2))) a21 ((2404 + (3 * (a16 + x2))) + 0) thrown0 depth0 routeMany0 routeCost0 newTrips0 newInvoices0 history4 newAmount9 newClass10 newInvoice11 newPassages12 newVehicle13 route14 state15 tried18 tripFor19
def f_X10_bill_L227 (F : Nat) (basic1 classAxles2 classPercent3 linkFrom5 linkMinutes6 linkPrice7 linkTo8 tagAxles16 tagPlate17 : Nat → Int32) (z : Int32 × Int32 × Int32 × Int32 × Int32 × Int32 × Int32 × (Nat → Int32) × (Nat → Int32) × (Nat → Int32) × (Nat → Int32) × (Nat → Int32) × (Nat → Int32) × (Nat → Int32) × (Nat → Int32) × (Nat → Int32) × (Nat → Int32)) : Option (Int32 × Int32 × Int32 × Int32 × Int32 × Int32 × Int32 × (Nat → Int32) × (Nat → Int32) × (Nat → Int32) × (Nat → Int32) × (Nat → Int32) × (Nat → Int32) × (Nat → Int32) × (Nat → Int32) × (Nat → Int32) × (Nat → Int32)) := lp (fun k z => f_X10_bill_h227 F basic1 classAxles2 classPercent3 linkFrom5 linkMinutes6 linkPrice7 linkTo8 tagAxles16 tagPlate17 k z.1 z.2.1 z.2.2.1 z.2.2.2.1 z.2.2.2.2.1 z.2.2.2.2.2.1 z.2.2.2.2.2.2.1 z.2.2.2.2.2.2.2.1 z.2.2.2.2.2.2.2.2.1 z.2.2.2.2.2.2.2.2.2.1 z.2.2.2.2.2.2.2.2.2.2.1 z.2.2.2.2.2.2.2.2.2.2.2.1 z.2.2.2.2.2.2.2.2.2.2.2.2.1 z.2.2.2.2.2.2.2.2.2.2.2.2.2.1 z.2.2.2.2.2.2.2.2.2.2.2.2.2.2.1 z.2.2.2.2.2.2.2.2.2.2.2.2.2.2.2.1 z.2.2.2.2.2.2.2.2.2.2.2.2.2.2.2.2) F z
def f_X10_bill_h124 (F : Nat) (basic1 classAxles2 classPercent3 linkFrom5 linkMinutes6 linkPrice7 linkTo8 tagAxles16 tagPlate17 : Nat → Int32) (k124 : (Int32 × Int32 × Int32 × Int32 × Int32 × Int32 × Int32 × (Nat → Int32) × (Nat → Int32) × (Nat → Int32) × (Nat → Int32) × (Nat → Int32) × (Nat → Int32) × (Nat → Int32) × (Nat → Int32) × (Nat → Int32) × (Nat → Int32)) → Option (Int32 × Int32 × Int32 × Int32 × Int32 × Int32 × Int32 × (Nat → Int32) × (Nat → Int32) × (Nat → Int32) × (Nat → Int32) × (Nat → Int32) × (Nat → Int32) × (Nat → Int32) × (Nat → Int32) × (Nat → Int32) × (Nat → Int32))) (x2 thrown0 depth0 routeMany0 routeCost0 newTrips0 newInvoices0 : Int32) (history4 newAmount9 newClass10 newInvoice11 newPassages12 newVehicle13 route14 state15 tried18 tripFor19 : Nat → Int32) : Option (Int32 × Int32 × Int32 × Int32 × Int32 × Int32 × Int32 × (Nat → Int32) × (Nat → Int32) × (Nat → Int32) × (Nat → Int32) × (Nat → Int32) × (Nat → Int32) × (Nat → Int32) × (Nat → Int32) × (Nat → Int32) × (Nat → Int32)) :=
  if newTrips0 ≤ x2 then
    f_X10_bill_L227 F basic1 classAxles2 classPercent3 linkFrom5 linkMinutes6 linkPrice7 linkTo8 tagAxles16 tagPlate17 (0, thrown0, depth0, routeMany0, routeCost0, newTrips0, newInvoices0, history4, newAmount9, newClass10, newInvoice11, newPassages12, newVehicle13, route14, state15, tried18, tripFor19)
  else
    rd state15 2524 1 fun a23 =>
    rd state15 2524 2 fun a24 =>
    rd newInvoice11 80 x2 fun a25 =>
    wr state15 2524 ((2004 + (5 * (a23 + x2))) + 0) (a24 + a25) fun f26 =>
    rd newAmount9 80 x2 fun a27 =>
    wr f26 2524 ((2004 + (5 * (a23 + x2))) + 1) a27 fun f28 =>
    rd newClass10 80 x2 fun a29 =>
    wr f28 2524 ((2004 + (5 * (a23 + x2))) + 2) a29 fun f30 =>
    rd newPassages12 80 x2 fun a31 =>
    wr f30 2524 ((2004 + (5 * (a23 + x2))) + 3) a31 fun f32 =>
    wr f32 2524 ((2004 + (5 * (a23 + x2))) + 4) 0 fun f33 =>
    k124 (x2 + 1, thrown0, depth0, routeMany0, routeCost0, newTrips0, newInvoices0, history4, newAmount9, newClass10, newInvoice11, newPassages12, newVehicle13, route14, f33, tried18, tripFor19)
def f_X10_bill_L124 (F : Nat) (basic1 classAxles2 classPercent3 linkFrom5 linkMinutes6 linkPrice7 linkTo8 tagAxles16 tagPlate17 : Nat → Int32) (z : Int32 × Int32 × Int32 × Int32 × Int32 × Int32 × Int32 × (Nat → Int32) × (Nat → Int32) × (Nat → Int32) × (Nat → Int32) × (Nat → Int32) × (Nat → Int32) × (Nat → Int32) × (Nat → Int32) × (Nat → Int32) × (Nat → Int32)) : Option (Int32 × Int32 × Int32 × Int32 × Int32 × Int32 × Int32 × (Nat → Int32) × (Nat → Int32) × (Nat → Int32) × (Nat → Int32) × (Nat → Int32) × (Nat → Int32) × (Nat → Int32) × (Nat → Int32) × (Nat → Int32) × (Nat → Int32)) := lp (fun k z => f_X10_bill_h124 F basic1 classAxles2 classPercent3 linkFrom5 linkMinutes6 linkPrice7 linkTo8 tagAxles16 tagPlate17 k z.1 z.2.1 z.2.2.1 z.2.2.2.1 z.2.2.2.2.1 z.2.2.2.2.2.1 z.2.2.2.2.2.2.1 z.2.2.2.2.2.2.2.1 z.2.2.2.2.2.2.2.2.1 z.2.2.2.2.2.2.2.2.2.1 z.2.2.2.2.2.2.2.2.2.2.1 z.2.2.2.2.2.2.2.2.2.2.2.1 z.2.2.2.2.2.2.2.2.2.2.2.2.1 z.2.2.2.2.2.2.2.2.2.2.2.2.2.1 z.2.2.2.2.2.2.2.2.2.2.2.2.2.2.1 z.2.2.2.2.2.2.2.2.2.2.2.2.2.2.2.1 z.2.2.2.2.2.2.2.2.2.2.2.2.2.2.2.2) F z
def f_X10_bill_b116 (F : Nat) (k65 : (Int32 × Int32 × Int32 × Int32 × Int32 × Int32 × Int32 × (Nat → Int32) × (Nat → Int32) × (Nat → Int32) × (Nat → Int32) × (Nat → Int32) × (Nat → Int32) × (Nat → Int32) × (Nat → Int32) × (Nat → Int32) × (Nat → Int32)) → Option (Int32 × Int32 × Int32 × Int32 × Int32 × Int32 × Int32 × (Nat → Int32) × (Nat → Int32) × (Nat → Int32) × (Nat → Int32) × (Nat → Int32) × (Nat → Int32) × (Nat → Int32) × (Nat → Int32) × (Nat → Int32) × (Nat → Int32))) (basic1 classAxles2 classPercent3 linkFrom5 linkMinutes6 linkPrice7 linkTo8 tagAxles16 tagPlate17 : Nat → Int32) (x2 thrown0 depth0 routeMany0 routeCost0 newTrips0 newInvoices0 : Int32) (history4 newAmount9 newClass10 newInvoice11 newPassages12 newVehicle13 route14 state15 tried18 tripFor19 : Nat → Int32) : Option (Int32 × Int32 × Int32 × Int32 × Int32 × Int32 × Int32 × (Nat → Int32) × (Nat → Int32) × (Nat → Int32) × (Nat → Int32) × (Nat → Int32) × (Nat → Int32) × (Nat → Int32) × (Nat → Int32) × (Nat → Int32) × (Nat → Int32)) :=
  k65 (x2 + 1, thrown0, depth0, routeMany0, routeCost0, newTrips0, newInvoices0, history4, newAmount9, newClass10, newInvoice11, newPassages12, newVehicle13, route14, state15, tried18, tripFor19)
def f_X10_bill_h65 (F : Nat) (basic1 classAxles2 classPercent3 linkFrom5 linkMinutes6 linkPrice7 linkTo8 tagAxles16 tagPlate17 : Nat → Int32) (k65 : (Int32 × Int32 × Int32 × Int32 × Int32 × Int32 × Int32 × (Nat → Int32) × (Nat → Int32) × (Nat → Int32) × (Nat → Int32) × (Nat → Int32) × (Nat → Int32) × (Nat → Int32) × (Nat → Int32) × (Nat → Int32) × (Nat → Int32)) → Option (Int32 × Int32 × Int32 × Int32 × Int32 × Int32 × Int32 × (Nat → Int32) × (Nat → Int32) × (Nat → Int32) × (Nat → Int32) × (Nat → Int32) × (Nat → Int32) × (Nat → Int32) × (Nat → Int32) × (Nat → Int32) × (Nat → Int32))) (x2 thrown0 depth0 routeMany0 routeCost0 newTrips0 newInvoices0 : Int32) (history4 newAmount9 newClass10 newInvoice11 newPassages12 newVehicle13 route14 state15 tried18 tripFor19 : Nat → Int32) : Option (Int32 × Int32 × Int32 × Int32 × Int32 × Int32 × Int32 × (Nat → Int32) × (Nat → Int32) × (Nat → Int32) × (Nat → Int32) × (Nat → Int32) × (Nat → Int32) × (Nat → Int32) × (Nat → Int32) × (Nat → Int32) × (Nat → Int32)) :=
  rd state15 2524 0 fun a34 =>
  if a34 ≤ x2 then
    f_X10_bill_L124 F basic1 classAxles2 classPercent3 linkFrom5 linkMinutes6 linkPrice7 linkTo8 tagAxles16 tagPlate17 (0, thrown0, depth0, routeMany0, routeCost0, newTrips0, newInvoices0, history4, newAmount9, newClass10, newInvoice11, newPassages12, newVehicle13, route14, state15, tried18, tripFor19)
  else
    rd tripFor19 80 x2 fun a36 =>
    if 0 ≤ a36 then
      bd1 (f_X10_setPassage F x2 3 1 state15) fun o38 =>
      rd o38 2524 1 fun a40 =>
      rd tripFor19 80 x2 fun a41 =>
      bd1 (f_X10_setPassage F x2 24 ((a40 + a41) + 1) o38) fun o42 =>
      f_X10_bill_b116 F k65 basic1 classAxles2 classPercent3 linkFrom5 linkMinutes6 linkPrice7 linkTo8 tagAxles16 tagPlate17 x2 thrown0 depth0 routeMany0 routeCost0 newTrips0 newInvoices0 history4 newAmount9 newClass10 newInvoice11 newPassages12 newVehicle13 route14 o42 tried18 tripFor19
    else
      f_X10_bill_b116 F k65 basic1 classAxles2 classPercent3 linkFrom5 linkMinutes6 linkPrice7 linkTo8 tagAxles16 tagPlate17 x2 thrown0 depth0 routeMany0 routeCost0 newTrips0 newInvoices0 history4 newAmount9 newClass10 newInvoice11 newPassages12 newVehicle13 route14 state15 tried18 tripFor19
def f_X10_bill_L65 (F : Nat) (basic1 classAxles2 classPercent3 linkFrom5 linkMinutes6 linkPrice7 linkTo8 tagAxles16 tagPlate17 : Nat → Int32) (z : Int32 × Int32 × Int32 × Int32 × Int32 × Int32 × Int32 × (Nat → Int32) × (Nat → Int32) × (Nat → Int32) × (Nat → Int32) × (Nat → Int32) × (Nat → Int32) × (Nat → Int32) × (Nat → Int32) × (Nat → Int32) × (Nat → Int32)) : Option (Int32 × Int32 × Int32 × Int32 × Int32 × Int32 × Int32 × (Nat → Int32) × (Nat → Int32) × (Nat → Int32) × (Nat → Int32) × (Nat → Int32) × (Nat → Int32) × (Nat → Int32) × (Nat → Int32) × (Nat → Int32) × (Nat → Int32)) := lp (fun k z => f_X10_bill_h65 F basic1 classAxles2 classPercent3 linkFrom5 linkMinutes6 linkPrice7 linkTo8 tagAxles16 tagPlate17 k z.1 z.2.1 z.2.2.1 z.2.2.2.1 z.2.2.2.2.1 z.2.2.2.2.2.1 z.2.2.2.2.2.2.1 z.2.2.2.2.2.2.2.1 z.2.2.2.2.2.2.2.2.1 z.2.2.2.2.2.2.2.2.2.1 z.2.2.2.2.2.2.2.2.2.2.1 z.2.2.2.2.2.2.2.2.2.2.2.1 z.2.2.2.2.2.2.2.2.2.2.2.2.1 z.2.2.2.2.2.2.2.2.2.2.2.2.2.1 z.2.2.2.2.2.2.2.2.2.2.2.2.2.2.1 z.2.2.2.2.2.2.2.2.2.2.2.2.2.2.2.1 z.2.2.2.2.2.2.2.2.2.2.2.2.2.2.2.2) F z
def f_X10_bill (F : Nat) (p1 thrown0 depth0 routeMany0 routeCost0 newTrips0 newInvoices0 : Int32) (basic1 classAxles2 classPercent3 history4 linkFrom5 linkMinutes6 linkPrice7 linkTo8 newAmount9 newClass10 newInvoice11 newPassages12 newVehicle13 route14 state15 tagAxles16 tagPlate17 tried18 tripFor19 : Nat → Int32) : Option (Int32 × Int32 × Int32 × Int32 × Int32 × Int32 × Int32 × (Nat → Int32) × (Nat → Int32) × (Nat → Int32) × (Nat → Int32) × (Nat → Int32) × (Nat → Int32) × (Nat → Int32) × (Nat → Int32) × (Nat → Int32) × (Nat → Int32)) :=
  bd1 (f_X10_within F p1.toInt64 0 99999) fun r44 =>
  if r44 = 0 then
    bd2 (f_X10_fail F 1 0) fun r69 o70 =>
    some (r69, o70, depth0, routeMany0, routeCost0, newTrips0, newInvoices0, history4, newAmount9, newClass10, newInvoice11, newPassages12, newVehicle13, route14, state15, tried18, tripFor19)
  else
    bd12 (f_X10_layBilling F p1 routeMany0 routeCost0 newTrips0 newInvoices0 basic1 classAxles2 classPercent3 linkFrom5 linkMinutes6 linkPrice7 linkTo8 newAmount9 newClass10 newInvoice11 newPassages12 newVehicle13 route14 state15 tagAxles16 tagPlate17 tried18 tripFor19) fun o47 o48 o49 o50 o51 o52 o53 o54 o55 o56 o57 o58 =>
    if o49 = 0 then
      some (0, 0, depth0, o47, o48, o49, o50, history4, o51, o52, o53, o54, o55, o56, state15, o57, o58)
    else
      rd state15 2524 2 fun a61 =>
      if (a61 + o50) ≤ 40 then
        bd2 (f_X10_keep F depth0 history4 state15) fun o63 o64 =>
        f_X10_bill_L65 F basic1 classAxles2 classPercent3 linkFrom5 linkMinutes6 linkPrice7 linkTo8 tagAxles16 tagPlate17 (0, 0, o63, o47, o48, o49, o50, o64, o51, o52, o53, o54, o55, o56, state15, o57, o58)
      else
        bd2 (f_X10_fail F 2 0) fun r66 o67 =>
        some (r66, o67, depth0, o47, o48, o49, o50, history4, o51, o52, o53, o54, o55, o56, state15, o57, o58)
set_option maxHeartbeats 4000000 in
set_option maxRecDepth 100000 in
theorem c_X10_bill (l : Launch) (g : GT) (F : Nat) (h0 h1 h2 h3 h4 h5 h6 h7 h8 h9 h10 h11 h12 h13 h14 h15 h16 h17 h18 h19 : Nat) (v0_1 v0_2 v0_3 v0_4 v0_5 v0_6 v0_7 v0_8 v0_9 v0_11 v0_20 v0_24 v0_25 : Value) (p1 thrown0 depth0 routeMany0 routeCost0 newTrips0 newInvoices0 : Int32) (basic1 classAxles2 classPercent3 history4 linkFrom5 linkMinutes6 linkPrice7 linkTo8 newAmount9 newClass10 newInvoice11 newPassages12 newVehicle13 route14 state15 tagAxles16 tagPlate17 tried18 tripFor19 : Nat → Int32) (r o_thrown0 o_depth0 o_routeMany0 o_routeCost0 o_newTrips0 o_newInvoices0 : Int32) (o_history4 o_newAmount9 o_newClass10 o_newInvoice11 o_newPassages12 o_newVehicle13 o_route14 o_state15 o_tried18 o_tripFor19 : Nat → Int32) (sz : Nat) (hf : f_X10_bill F p1 thrown0 depth0 routeMany0 routeCost0 newTrips0 newInvoices0 basic1 classAxles2 classPercent3 history4 linkFrom5 linkMinutes6 linkPrice7 linkTo8 newAmount9 newClass10 newInvoice11 newPassages12 newVehicle13 route14 state15 tagAxles16 tagPlate17 tried18 tripFor19 = some (r, o_thrown0, o_depth0, o_routeMany0, o_routeCost0, o_newTrips0, o_newInvoices0, o_history4, o_newAmount9, o_newClass10, o_newInvoice11, o_newPassages12, o_newVehicle13, o_route14, o_state15, o_tried18, o_tripFor19)) : CI l m_X10_bill (rml 10 0 0) g (w_X10_bill g h0 h1 h2 h3 h4 h5 h6 h7 h8 h9 h10 h11 h12 h13 h14 h15 h16 h17 h18 h19 v0_1 v0_2 v0_3 v0_4 v0_5 v0_6 v0_7 v0_8 v0_9 v0_11 v0_20 v0_24 v0_25 thrown0 depth0 routeMany0 routeCost0 newTrips0 newInvoices0 basic1 classAxles2 classPercent3 history4 linkFrom5 linkMinutes6 linkPrice7 linkTo8 newAmount9 newClass10 newInvoice11 newPassages12 newVehicle13 route14 state15 tagAxles16 tagPlate17 tried18 tripFor19) (fun _ => w_X10_bill g h0 h1 h2 h3 h4 h5 h6 h7 h8 h9 h10 h11 h12 h13 h14 h15 h16 h17 h18 h19 v0_1 v0_2 v0_3 v0_4 v0_5 v0_6 v0_7 v0_8 v0_9 v0_11 v0_20 v0_24 v0_25 o_thrown0 o_depth0 o_routeMany0 o_routeCost0 o_newTrips0 o_newInvoices0 basic1 classAxles2 classPercent3 o_history4 linkFrom5 linkMinutes6 linkPrice7 linkTo8 o_newAmount9 o_newClass10 o_newInvoice11 o_newPassages12 o_newVehicle13 o_route14 o_state15 tagAxles16 tagPlate17 o_tried18 o_tripFor19) sz [.ref h0, .int p1] r := by
  refine en_i (by decide) (Nat.le_of_ble_eq_true rfl) (fun p e s m args below meth c A ls C w hl => ?_)
  have C : Cx p s m args meth c RX10 m_X10_bill g A := C
  have hx := C.1
  have hb : c.code = cX10_bill := C.2.1
  have hl : lv_has ls 4 [(0, .ref h0), (1, .int p1)] := hl
  obtain ⟨Q, hQ⟩ : ∃ Q, Q = QI below args s g A (fun _ => w_X10_bill g h0 h1 h2 h3 h4 h5 h6 h7 h8 h9 h10 h11 h12 h13 h14 h15 h16 h17 h18 h19 v0_1 v0_2 v0_3 v0_4 v0_5 v0_6 v0_7 v0_8 v0_9 v0_11 v0_20 v0_24 v0_25 o_thrown0 o_depth0 o_routeMany0 o_routeCost0 o_newTrips0 o_newInvoices0 basic1 classAxles2 classPercent3 o_history4 linkFrom5 linkMinutes6 linkPrice7 linkTo8 o_newAmount9 o_newClass10 o_newInvoice11 o_newPassages12 o_newVehicle13 o_route14 o_state15 tagAxles16 tagPlate17 o_tried18 o_tripFor19) r 0 0 := ⟨_, rfl⟩
  suffices hW : W p l e (rml 10 0 0) s m args below meth c s.heap [] 0 0 Q (F0 m 0 ls []) from (by rw [hQ] at hW; exact hW)
  unfold f_X10_bill at hf
  have L227 : ∀ (z : Int32 × Int32 × Int32 × Int32 × Int32 × Int32 × Int32 × (Nat → Int32) × (Nat → Int32) × (Nat → Int32) × (Nat → Int32) × (Nat → Int32) × (Nat → Int32) × (Nat → Int32) × (Nat → Int32) × (Nat → Int32) × (Nat → Int32)), f_X10_bill_L227 F basic1 classAxles2 classPercent3 linkFrom5 linkMinutes6 linkPrice7 linkTo8 tagAxles16 tagPlate17 z = some (r, o_thrown0, o_depth0, o_routeMany0, o_routeCost0, o_newTrips0, o_newInvoices0, o_history4, o_newAmount9, o_newClass10, o_newInvoice11, o_newPassages12, o_newVehicle13, o_route14, o_state15, o_tried18, o_tripFor19) → ∀ (H : Heap) (locs : List Loc) (ls : Array Slot), Wd g A (w_X10_bill g h0 h1 h2 h3 h4 h5 h6 h7 h8 h9 h10 h11 h12 h13 h14 h15 h16 h17 h18 h19 v0_1 v0_2 v0_3 v0_4 v0_5 v0_6 v0_7 v0_8 v0_9 v0_11 v0_20 v0_24 v0_25 z.2.1 z.2.2.1 z.2.2.2.1 z.2.2.2.2.1 z.2.2.2.2.2.1 z.2.2.2.2.2.2.1 basic1 classAxles2 classPercent3 z.2.2.2.2.2.2.2.1 linkFrom5 linkMinutes6 linkPrice7 linkTo8 z.2.2.2.2.2.2.2.2.1 z.2.2.2.2.2.2.2.2.2.1 z.2.2.2.2.2.2.2.2.2.2.1 z.2.2.2.2.2.2.2.2.2.2.2.1 z.2.2.2.2.2.2.2.2.2.2.2.2.1 z.2.2.2.2.2.2.2.2.2.2.2.2.2.1 z.2.2.2.2.2.2.2.2.2.2.2.2.2.2.1 tagAxles16 tagPlate17 z.2.2.2.2.2.2.2.2.2.2.2.2.2.2.2.1 z.2.2.2.2.2.2.2.2.2.2.2.2.2.2.2.2) s.heap H locs → lv_has ls 4 [(0, .ref h0), (2, .int z.1)] → W p l e (rml 10 0 0) s m args below meth c H locs 0 0 Q (F0 m 227 ls []) := by
    intro z hf
    refine lp_W (r := (r, o_thrown0, o_depth0, o_routeMany0, o_routeCost0, o_newTrips0, o_newInvoices0, o_history4, o_newAmount9, o_newClass10, o_newInvoice11, o_newPassages12, o_newVehicle13, o_route14, o_state15, o_tried18, o_tripFor19)) (fun (z : Int32 × Int32 × Int32 × Int32 × Int32 × Int32 × Int32 × (Nat → Int32) × (Nat → Int32) × (Nat → Int32) × (Nat → Int32) × (Nat → Int32) × (Nat → Int32) × (Nat → Int32) × (Nat → Int32) × (Nat → Int32) × (Nat → Int32)) => ∀ (H : Heap) (locs : List Loc) (ls : Array Slot), Wd g A (w_X10_bill g h0 h1 h2 h3 h4 h5 h6 h7 h8 h9 h10 h11 h12 h13 h14 h15 h16 h17 h18 h19 v0_1 v0_2 v0_3 v0_4 v0_5 v0_6 v0_7 v0_8 v0_9 v0_11 v0_20 v0_24 v0_25 z.2.1 z.2.2.1 z.2.2.2.1 z.2.2.2.2.1 z.2.2.2.2.2.1 z.2.2.2.2.2.2.1 basic1 classAxles2 classPercent3 z.2.2.2.2.2.2.2.1 linkFrom5 linkMinutes6 linkPrice7 linkTo8 z.2.2.2.2.2.2.2.2.1 z.2.2.2.2.2.2.2.2.2.1 z.2.2.2.2.2.2.2.2.2.2.1 z.2.2.2.2.2.2.2.2.2.2.2.1 z.2.2.2.2.2.2.2.2.2.2.2.2.1 z.2.2.2.2.2.2.2.2.2.2.2.2.2.1 z.2.2.2.2.2.2.2.2.2.2.2.2.2.2.1 tagAxles16 tagPlate17 z.2.2.2.2.2.2.2.2.2.2.2.2.2.2.2.1 z.2.2.2.2.2.2.2.2.2.2.2.2.2.2.2.2) s.heap H locs → lv_has ls 4 [(0, .ref h0), (2, .int z.1)] → W p l e (rml 10 0 0) s m args below meth c H locs 0 0 Q (F0 m 227 ls [])) (fun k227 z ih227 hf => ?_) F z hf
    obtain ⟨x2, thrown0, depth0, routeMany0, routeCost0, newTrips0, newInvoices0, history4, newAmount9, newClass10, newInvoice11, newPassages12, newVehicle13, route14, state15, tried18, tripFor19⟩ := z
    intro H locs ls w hl
    try dsimp only at hf w hl ⊢
    unfold f_X10_bill_h227 at hf
    have b322 : ∀ (x2 x3 s0 s1 thrown0 depth0 routeMany0 routeCost0 newTrips0 newInvoices0 : Int32) (history4 newAmount9 newClass10 newInvoice11 newPassages12 newVehicle13 route14 state15 tried18 tripFor19 : Nat → Int32) (H : Heap) (locs : List Loc) (ls : Array Slot), f_X10_bill_b322 F k227 basic1 classAxles2 classPercent3 linkFrom5 linkMinutes6 linkPrice7 linkTo8 tagAxles16 tagPlate17 x2 x3 s0 s1 thrown0 depth0 routeMany0 routeCost0 newTrips0 newInvoices0 history4 newAmount9 newClass10 newInvoice11 newPassages12 newVehicle13 route14 state15 tried18 tripFor19 = some (r, o_thrown0, o_depth0, o_routeMany0, o_routeCost0, o_newTrips0, o_newInvoices0, o_history4, o_newAmount9, o_newClass10, o_newInvoice11, o_newPassages12, o_newVehicle13, o_route14, o_state15, o_tried18, o_tripFor19) → Wd g A (w_X10_bill g h0 h1 h2 h3 h4 h5 h6 h7 h8 h9 h10 h11 h12 h13 h14 h15 h16 h17 h18 h19 v0_1 v0_2 v0_3 v0_4 v0_5 v0_6 v0_7 v0_8 v0_9 v0_11 v0_20 v0_24 v0_25 thrown0 depth0 routeMany0 routeCost0 newTrips0 newInvoices0 basic1 classAxles2 classPercent3 history4 linkFrom5 linkMinutes6 linkPrice7 linkTo8 newAmount9 newClass10 newInvoice11 newPassages12 newVehicle13 route14 state15 tagAxles16 tagPlate17 tried18 tripFor19) s.heap H locs → lv_has ls 4 [(0, .ref h0), (2, .int x2), (3, .int x3)] → W p l e (rml 10 0 0) s m args below meth c H locs 0 0 Q (F0 m 322 ls [.int s0, .int s1, .ref h15]) := by
      intro x2 x3 s0 s1 thrown0 depth0 routeMany0 routeCost0 newTrips0 newInvoices0 history4 newAmount9 newClass10 newInvoice11 newPassages12 newVehicle13 route14 state15 tried18 tripFor19 H locs ls hf w hl
      unfold f_X10_bill_b322 at hf
      obtain ⟨f1, hif1, haf1, hf⟩ := wr_some hf
      refine ias C w 15 rfl hif1 haf1 (ws2 := w_X10_bill g h0 h1 h2 h3 h4 h5 h6 h7 h8 h9 h10 h11 h12 h13 h14 h15 h16 h17 h18 h19 v0_1 v0_2 v0_3 v0_4 v0_5 v0_6 v0_7 v0_8 v0_9 v0_11 v0_20 v0_24 v0_25 thrown0 depth0 routeMany0 routeCost0 newTrips0 newInvoices0 basic1 classAxles2 classPercent3 history4 linkFrom5 linkMinutes6 linkPrice7 linkTo8 newAmount9 newClass10 newInvoice11 newPassages12 newVehicle13 route14 f1 tagAxles16 tagPlate17 tried18 tripFor19) rfl dX10_bill_322 (fun H locs w => ?_)
      refine lv_aload_n hx hb dX10_bill_323 rfl (lv_at hl 0 rfl) ?_
      refine g_X10_44 C w 0 rfl rfl dX10_bill_324 ?_
      refine lv_iload_n hx hb dX10_bill_327 rfl (lv_at hl 2 rfl) ?_
      refine lv_iconst (v := 2) hx hb dX10_bill_328 (by decide) ?_
      refine lv_iadd hx hb dX10_bill_329 ?_
      refine lv_iconst (v := 0) hx hb dX10_bill_330 (by decide) ?_
      obtain ⟨f2, hif2, haf2, hf⟩ := wr_some hf
      refine ias C w 15 rfl hif2 haf2 (ws2 := w_X10_bill g h0 h1 h2 h3 h4 h5 h6 h7 h8 h9 h10 h11 h12 h13 h14 h15 h16 h17 h18 h19 v0_1 v0_2 v0_3 v0_4 v0_5 v0_6 v0_7 v0_8 v0_9 v0_11 v0_20 v0_24 v0_25 thrown0 depth0 routeMany0 routeCost0 newTrips0 newInvoices0 basic1 classAxles2 classPercent3 history4 linkFrom5 linkMinutes6 linkPrice7 linkTo8 newAmount9 newClass10 newInvoice11 newPassages12 newVehicle13 route14 f2 tagAxles16 tagPlate17 tried18 tripFor19) rfl dX10_bill_331 (fun H locs w => ?_)
      refine lv_iinc (v := x2 + 1) (lv' := [(2, .int (x2 + 1)), (0, .ref h0), (3, .int x3)]) hx hb dX10_bill_332 hl (k := 1) rfl rfl (by decide) rfl (fun ls hl => ?_)
      refine lv_goto (tgt := 227) hx hb dX10_bill_335 (by decide) ?_
      exact ih227 (x2 + 1, thrown0, depth0, routeMany0, routeCost0, newTrips0, newInvoices0, history4, newAmount9, newClass10, newInvoice11, newPassages12, newVehicle13, route14, f2, tried18, tripFor19) hf _ _ _ w (lv_sub hl [1, 0] rfl)
    have b279 : ∀ (x2 x3 s0 s1 thrown0 depth0 routeMany0 routeCost0 newTrips0 newInvoices0 : Int32) (history4 newAmount9 newClass10 newInvoice11 newPassages12 newVehicle13 route14 state15 tried18 tripFor19 : Nat → Int32) (H : Heap) (locs : List Loc) (ls : Array Slot), f_X10_bill_b279 F k227 basic1 classAxles2 classPercent3 linkFrom5 linkMinutes6 linkPrice7 linkTo8 tagAxles16 tagPlate17 x2 x3 s0 s1 thrown0 depth0 routeMany0 routeCost0 newTrips0 newInvoices0 history4 newAmount9 newClass10 newInvoice11 newPassages12 newVehicle13 route14 state15 tried18 tripFor19 = some (r, o_thrown0, o_depth0, o_routeMany0, o_routeCost0, o_newTrips0, o_newInvoices0, o_history4, o_newAmount9, o_newClass10, o_newInvoice11, o_newPassages12, o_newVehicle13, o_route14, o_state15, o_tried18, o_tripFor19) → Wd g A (w_X10_bill g h0 h1 h2 h3 h4 h5 h6 h7 h8 h9 h10 h11 h12 h13 h14 h15 h16 h17 h18 h19 v0_1 v0_2 v0_3 v0_4 v0_5 v0_6 v0_7 v0_8 v0_9 v0_11 v0_20 v0_24 v0_25 thrown0 depth0 routeMany0 routeCost0 newTrips0 newInvoices0 basic1 classAxles2 classPercent3 history4 linkFrom5 linkMinutes6 linkPrice7 linkTo8 newAmount9 newClass10 newInvoice11 newPassages12 newVehicle13 route14 state15 tagAxles16 tagPlate17 tried18 tripFor19) s.heap H locs → lv_has ls 4 [(0, .ref h0), (2, .int x2), (3, .int x3)] → W p l e (rml 10 0 0) s m args below meth c H locs 0 0 Q (F0 m 279 ls [.int s0, .int s1, .ref h15]) := by
      intro x2 x3 s0 s1 thrown0 depth0 routeMany0 routeCost0 newTrips0 newInvoices0 history4 newAmount9 newClass10 newInvoice11 newPassages12 newVehicle13 route14 state15 tried18 tripFor19 H locs ls hf w hl
      unfold f_X10_bill_b279 at hf
      obtain ⟨f3, hif3, haf3, hf⟩ := wr_some hf
      refine ias C w 15 rfl hif3 haf3 (ws2 := w_X10_bill g h0 h1 h2 h3 h4 h5 h6 h7 h8 h9 h10 h11 h12 h13 h14 h15 h16 h17 h18 h19 v0_1 v0_2 v0_3 v0_4 v0_5 v0_6 v0_7 v0_8 v0_9 v0_11 v0_20 v0_24 v0_25 thrown0 depth0 routeMany0 routeCost0 newTrips0 newInvoices0 basic1 classAxles2 classPercent3 history4 linkFrom5 linkMinutes6 linkPrice7 linkTo8 newAmount9 newClass10 newInvoice11 newPassages12 newVehicle13 route14 f3 tagAxles16 tagPlate17 tried18 tripFor19) rfl dX10_bill_279 (fun H locs w => ?_)
      refine lv_aload_n hx hb dX10_bill_280 rfl (lv_at hl 0 rfl) ?_
      refine g_X10_44 C w 0 rfl rfl dX10_bill_281 ?_
      refine lv_iload_n hx hb dX10_bill_284 rfl (lv_at hl 2 rfl) ?_
      refine lv_iconst (v := 1) hx hb dX10_bill_285 (by decide) ?_
      refine lv_iadd hx hb dX10_bill_286 ?_
      refine lv_aload_n hx hb dX10_bill_287 rfl (lv_at hl 0 rfl) ?_
      refine g_X10_75 C w 0 rfl rfl dX10_bill_288 ?_
      refine lv_iload_n hx hb dX10_bill_291 rfl (lv_at hl 1 rfl) ?_
      obtain ⟨a4, hia4, haa4, hf⟩ := rd_some hf
      refine ial C w 13 rfl hia4 haa4 dX10_bill_292 ?_
      obtain ⟨r5, hc6, hf⟩ := bd1_some hf
      refine ca_iS C w (wn := fun _ => w_X10_bill g h0 h1 h2 h3 h4 h5 h6 h7 h8 h9 h10 h11 h12 h13 h14 h15 h16 h17 h18 h19 v0_1 v0_2 v0_3 v0_4 v0_5 v0_6 v0_7 v0_8 v0_9 v0_11 v0_20 v0_24 v0_25 thrown0 depth0 routeMany0 routeCost0 newTrips0 newInvoices0 basic1 classAxles2 classPercent3 history4 linkFrom5 linkMinutes6 linkPrice7 linkTo8 newAmount9 newClass10 newInvoice11 newPassages12 newVehicle13 route14 f3 tagAxles16 tagPlate17 tried18 tripFor19) (pm_k [false, false, false, false, false, false, false, false, false, false, false, false, false, false, false, false, false, false, false, false] rfl rfl (fun _ => Nat.le_of_ble_eq_true rfl) (fun _ => rfl)) (c_X10_isTag l g F a4 r5 _ hc6) k_X10_268 (rm_le (by decide) (by decide)) rfl hl.1 rfl (Nat.le_of_ble_eq_true rfl) dX10_bill_293 ⟨Nat.le_of_ble_eq_true rfl, Nat.le_of_ble_eq_true rfl⟩ (cells2 := 0) (slots2 := 0) ⟨rfl, rfl⟩ (fun _ H locs w => ?_)
      refine lv_if_eq (tgt := 313) hx hb dX10_bill_296 (by decide) (fun c7 => ?_) (fun c7 => ?_)
      · replace hf := it_t c7 hf
        refine lv_aload_n hx hb dX10_bill_313 rfl (lv_at hl 0 rfl) ?_
        refine g_X10_75 C w 0 rfl rfl dX10_bill_314 ?_
        refine lv_iload_n hx hb dX10_bill_317 rfl (lv_at hl 1 rfl) ?_
        obtain ⟨a8, hia8, haa8, hf⟩ := rd_some hf
        refine ial C w 13 rfl hia8 haa8 dX10_bill_318 ?_
        refine lv_bipush (v := 100) hx hb dX10_bill_319 (by decide) ?_
        refine lv_isub hx hb dX10_bill_321 ?_
        exact b322 x2 x3 (a8 - 100) (x3 + 1) thrown0 depth0 routeMany0 routeCost0 newTrips0 newInvoices0 history4 newAmount9 newClass10 newInvoice11 newPassages12 newVehicle13 route14 f3 tried18 tripFor19 _ _ _ hf w (lv_sub hl [0, 1, 2] rfl)
      · replace hf := it_f c7 hf
        refine lv_aload_n hx hb dX10_bill_299 rfl (lv_at hl 0 rfl) ?_
        refine g_X10_38 C w 0 rfl rfl dX10_bill_300 ?_
        refine lv_aload_n hx hb dX10_bill_303 rfl (lv_at hl 0 rfl) ?_
        refine g_X10_75 C w 0 rfl rfl dX10_bill_304 ?_
        refine lv_iload_n hx hb dX10_bill_307 rfl (lv_at hl 1 rfl) ?_
        obtain ⟨a9, hia9, haa9, hf⟩ := rd_some hf
        refine ial C w 13 rfl hia9 haa9 dX10_bill_308 ?_
        obtain ⟨a10, hia10, haa10, hf⟩ := rd_some hf
        refine ial C w 17 rfl hia10 haa10 dX10_bill_309 ?_
        refine lv_goto (tgt := 322) hx hb dX10_bill_310 (by decide) ?_
        exact b322 x2 x3 a10 (x3 + 1) thrown0 depth0 routeMany0 routeCost0 newTrips0 newInvoices0 history4 newAmount9 newClass10 newInvoice11 newPassages12 newVehicle13 route14 f3 tried18 tripFor19 _ _ _ hf w (lv_sub hl [0, 1, 2] rfl)
    refine lv_iload_n hx hb dX10_bill_227 rfl (lv_at hl 1 rfl) ?_
    refine lv_aload_n hx hb dX10_bill_228 rfl (lv_at hl 0 rfl) ?_
    refine g_X10_283 C w 0 rfl rfl dX10_bill_229 ?_
    refine lv_icmp_ge (tgt := 338) hx hb dX10_bill_232 (by decide) (fun c11 => ?_) (fun c11 => ?_)
    · replace hf := it_t c11 hf
      refine lv_aload_n hx hb dX10_bill_338 rfl (lv_at hl 0 rfl) ?_
      refine g_X10_44 C w 0 rfl rfl dX10_bill_339 ?_
      refine lv_iconst (v := 1) hx hb dX10_bill_342 (by decide) ?_
      refine lv_dup2_11 hx hb dX10_bill_343 rfl rfl ?_
      obtain ⟨a12, hia12, haa12, hf⟩ := rd_some hf
      refine ial C w 15 rfl hia12 haa12 dX10_bill_344 ?_
      refine lv_aload_n hx hb dX10_bill_345 rfl (lv_at hl 0 rfl) ?_
      refine g_X10_292 C w 0 rfl rfl dX10_bill_346 ?_
      refine lv_iadd hx hb dX10_bill_349 ?_
      obtain ⟨f13, hif13, haf13, hf⟩ := wr_some hf
      refine ias C w 15 rfl hif13 haf13 (ws2 := w_X10_bill g h0 h1 h2 h3 h4 h5 h6 h7 h8 h9 h10 h11 h12 h13 h14 h15 h16 h17 h18 h19 v0_1 v0_2 v0_3 v0_4 v0_5 v0_6 v0_7 v0_8 v0_9 v0_11 v0_20 v0_24 v0_25 thrown0 depth0 routeMany0 routeCost0 newTrips0 newInvoices0 basic1 classAxles2 classPercent3 history4 linkFrom5 linkMinutes6 linkPrice7 linkTo8 newAmount9 newClass10 newInvoice11 newPassages12 newVehicle13 route14 f13 tagAxles16 tagPlate17 tried18 tripFor19) rfl dX10_bill_350 (fun H locs w => ?_)
      refine lv_aload_n hx hb dX10_bill_351 rfl (lv_at hl 0 rfl) ?_
      refine g_X10_44 C w 0 rfl rfl dX10_bill_352 ?_
      refine lv_iconst (v := 2) hx hb dX10_bill_355 (by decide) ?_
      refine lv_dup2_11 hx hb dX10_bill_356 rfl rfl ?_
      obtain ⟨a14, hia14, haa14, hf⟩ := rd_some hf
      refine ial C w 15 rfl hia14 haa14 dX10_bill_357 ?_
      refine lv_aload_n hx hb dX10_bill_358 rfl (lv_at hl 0 rfl) ?_
      refine g_X10_283 C w 0 rfl rfl dX10_bill_359 ?_
      refine lv_iadd hx hb dX10_bill_362 ?_
      obtain ⟨f15, hif15, haf15, hf⟩ := wr_some hf
      refine ias C w 15 rfl hif15 haf15 (ws2 := w_X10_bill g h0 h1 h2 h3 h4 h5 h6 h7 h8 h9 h10 h11 h12 h13 h14 h15 h16 h17 h18 h19 v0_1 v0_2 v0_3 v0_4 v0_5 v0_6 v0_7 v0_8 v0_9 v0_11 v0_20 v0_24 v0_25 thrown0 depth0 routeMany0 routeCost0 newTrips0 newInvoices0 basic1 classAxles2 classPercent3 history4 linkFrom5 linkMinutes6 linkPrice7 linkTo8 newAmount9 newClass10 newInvoice11 newPassages12 newVehicle13 route14 f15 tagAxles16 tagPlate17 tried18 tripFor19) rfl dX10_bill_363 (fun H locs w => ?_)
      refine lv_aload_n hx hb dX10_bill_364 rfl (lv_at hl 0 rfl) ?_
      refine g_X10_292 C w 0 rfl rfl dX10_bill_365 ?_
      obtain ⟨e1, e2, e3, e4, e5, e6, e7, e8, e9, e10, e11, e12, e13, e14, e15, e16, e17⟩ := tp17 hf
      rw [hQ]
      exact rt_i C w rfl (fun _ => 0) (by rw [← e2, ← e3, ← e4, ← e5, ← e6, ← e7, ← e8, ← e9, ← e10, ← e11, ← e12, ← e13, ← e14, ← e15, ← e16, ← e17]) e1 dX10_bill_368
    · replace hf := it_f c11 hf
      refine lv_sipush (v := 2404) hx hb dX10_bill_235 (by decide) ?_
      refine lv_iconst (v := 3) hx hb dX10_bill_238 (by decide) ?_
      refine lv_aload_n hx hb dX10_bill_239 rfl (lv_at hl 0 rfl) ?_
      refine g_X10_44 C w 0 rfl rfl dX10_bill_240 ?_
      refine lv_iconst (v := 2) hx hb dX10_bill_243 (by decide) ?_
      obtain ⟨a16, hia16, haa16, hf⟩ := rd_some hf
      refine ial C w 15 rfl hia16 haa16 dX10_bill_244 ?_
      refine lv_iload_n hx hb dX10_bill_245 rfl (lv_at hl 1 rfl) ?_
      refine lv_iadd hx hb dX10_bill_246 ?_
      refine lv_imul hx hb dX10_bill_247 ?_
      refine lv_iadd hx hb dX10_bill_248 ?_
      refine lv_istore_n (lv' := [(3, .int (2404 + (3 * (a16 + x2)))), (0, .ref h0), (2, .int x2)]) hx hb dX10_bill_249 rfl hl (by decide) rfl (fun ls hl => ?_)
      refine lv_aload_n hx hb dX10_bill_250 rfl (lv_at hl 1 rfl) ?_
      refine g_X10_44 C w 0 rfl rfl dX10_bill_251 ?_
      refine lv_iload_n hx hb dX10_bill_254 rfl (lv_at hl 0 rfl) ?_
      refine lv_iconst (v := 0) hx hb dX10_bill_255 (by decide) ?_
      refine lv_iadd hx hb dX10_bill_256 ?_
      refine lv_aload_n hx hb dX10_bill_257 rfl (lv_at hl 1 rfl) ?_
      refine g_X10_75 C w 0 rfl rfl dX10_bill_258 ?_
      refine lv_iload_n hx hb dX10_bill_261 rfl (lv_at hl 2 rfl) ?_
      obtain ⟨a17, hia17, haa17, hf⟩ := rd_some hf
      refine ial C w 13 rfl hia17 haa17 dX10_bill_262 ?_
      obtain ⟨r18, hc19, hf⟩ := bd1_some hf
      refine ca_iS C w (wn := fun _ => w_X10_bill g h0 h1 h2 h3 h4 h5 h6 h7 h8 h9 h10 h11 h12 h13 h14 h15 h16 h17 h18 h19 v0_1 v0_2 v0_3 v0_4 v0_5 v0_6 v0_7 v0_8 v0_9 v0_11 v0_20 v0_24 v0_25 thrown0 depth0 routeMany0 routeCost0 newTrips0 newInvoices0 basic1 classAxles2 classPercent3 history4 linkFrom5 linkMinutes6 linkPrice7 linkTo8 newAmount9 newClass10 newInvoice11 newPassages12 newVehicle13 route14 state15 tagAxles16 tagPlate17 tried18 tripFor19) (pm_k [false, false, false, false, false, false, false, false, false, false, false, false, false, false, false, false, false, false, false, false] rfl rfl (fun _ => Nat.le_of_ble_eq_true rfl) (fun _ => rfl)) (c_X10_isTag l g F a17 r18 _ hc19) k_X10_268 (rm_le (by decide) (by decide)) rfl hl.1 rfl (Nat.le_of_ble_eq_true rfl) dX10_bill_263 ⟨Nat.le_of_ble_eq_true rfl, Nat.le_of_ble_eq_true rfl⟩ (cells2 := 0) (slots2 := 0) ⟨rfl, rfl⟩ (fun _ H locs w => ?_)
      refine lv_if_eq (tgt := 278) hx hb dX10_bill_266 (by decide) (fun c20 => ?_) (fun c20 => ?_)
      · replace hf := it_t c20 hf
        refine lv_iconst (v := -1) hx hb dX10_bill_278 (by decide) ?_
        exact b279 x2 (2404 + (3 * (a16 + x2))) (-1) ((2404 + (3 * (a16 + x2))) + 0) thrown0 depth0 routeMany0 routeCost0 newTrips0 newInvoices0 history4 newAmount9 newClass10 newInvoice11 newPassages12 newVehicle13 route14 state15 tried18 tripFor19 _ _ _ hf w (lv_sub hl [1, 2, 0] rfl)
      · replace hf := it_f c20 hf
        refine lv_aload_n hx hb dX10_bill_269 rfl (lv_at hl 1 rfl) ?_
        refine g_X10_75 C w 0 rfl rfl dX10_bill_270 ?_
        refine lv_iload_n hx hb dX10_bill_273 rfl (lv_at hl 2 rfl) ?_
        obtain ⟨a21, hia21, haa21, hf⟩ := rd_some hf
        refine ial C w 13 rfl hia21 haa21 dX10_bill_274 ?_
        refine lv_goto (tgt := 279) hx hb dX10_bill_275 (by decide) ?_
        exact b279 x2 (2404 + (3 * (a16 + x2))) a21 ((2404 + (3 * (a16 + x2))) + 0) thrown0 depth0 routeMany0 routeCost0 newTrips0 newInvoices0 history4 newAmount9 newClass10 newInvoice11 newPassages12 newVehicle13 route14 state15 tried18 tripFor19 _ _ _ hf w (lv_sub hl [1, 2, 0] rfl)
  have L124 : ∀ (z : Int32 × Int32 × Int32 × Int32 × Int32 × Int32 × Int32 × (Nat → Int32) × (Nat → Int32) × (Nat → Int32) × (Nat → Int32) × (Nat → Int32) × (Nat → Int32) × (Nat → Int32) × (Nat → Int32) × (Nat → Int32) × (Nat → Int32)), f_X10_bill_L124 F basic1 classAxles2 classPercent3 linkFrom5 linkMinutes6 linkPrice7 linkTo8 tagAxles16 tagPlate17 z = some (r, o_thrown0, o_depth0, o_routeMany0, o_routeCost0, o_newTrips0, o_newInvoices0, o_history4, o_newAmount9, o_newClass10, o_newInvoice11, o_newPassages12, o_newVehicle13, o_route14, o_state15, o_tried18, o_tripFor19) → ∀ (H : Heap) (locs : List Loc) (ls : Array Slot), Wd g A (w_X10_bill g h0 h1 h2 h3 h4 h5 h6 h7 h8 h9 h10 h11 h12 h13 h14 h15 h16 h17 h18 h19 v0_1 v0_2 v0_3 v0_4 v0_5 v0_6 v0_7 v0_8 v0_9 v0_11 v0_20 v0_24 v0_25 z.2.1 z.2.2.1 z.2.2.2.1 z.2.2.2.2.1 z.2.2.2.2.2.1 z.2.2.2.2.2.2.1 basic1 classAxles2 classPercent3 z.2.2.2.2.2.2.2.1 linkFrom5 linkMinutes6 linkPrice7 linkTo8 z.2.2.2.2.2.2.2.2.1 z.2.2.2.2.2.2.2.2.2.1 z.2.2.2.2.2.2.2.2.2.2.1 z.2.2.2.2.2.2.2.2.2.2.2.1 z.2.2.2.2.2.2.2.2.2.2.2.2.1 z.2.2.2.2.2.2.2.2.2.2.2.2.2.1 z.2.2.2.2.2.2.2.2.2.2.2.2.2.2.1 tagAxles16 tagPlate17 z.2.2.2.2.2.2.2.2.2.2.2.2.2.2.2.1 z.2.2.2.2.2.2.2.2.2.2.2.2.2.2.2.2) s.heap H locs → lv_has ls 4 [(0, .ref h0), (2, .int z.1)] → W p l e (rml 10 0 0) s m args below meth c H locs 0 0 Q (F0 m 124 ls []) := by
    intro z hf
    refine lp_W (r := (r, o_thrown0, o_depth0, o_routeMany0, o_routeCost0, o_newTrips0, o_newInvoices0, o_history4, o_newAmount9, o_newClass10, o_newInvoice11, o_newPassages12, o_newVehicle13, o_route14, o_state15, o_tried18, o_tripFor19)) (fun (z : Int32 × Int32 × Int32 × Int32 × Int32 × Int32 × Int32 × (Nat → Int32) × (Nat → Int32) × (Nat → Int32) × (Nat → Int32) × (Nat → Int32) × (Nat → Int32) × (Nat → Int32) × (Nat → Int32) × (Nat → Int32) × (Nat → Int32)) => ∀ (H : Heap) (locs : List Loc) (ls : Array Slot), Wd g A (w_X10_bill g h0 h1 h2 h3 h4 h5 h6 h7 h8 h9 h10 h11 h12 h13 h14 h15 h16 h17 h18 h19 v0_1 v0_2 v0_3 v0_4 v0_5 v0_6 v0_7 v0_8 v0_9 v0_11 v0_20 v0_24 v0_25 z.2.1 z.2.2.1 z.2.2.2.1 z.2.2.2.2.1 z.2.2.2.2.2.1 z.2.2.2.2.2.2.1 basic1 classAxles2 classPercent3 z.2.2.2.2.2.2.2.1 linkFrom5 linkMinutes6 linkPrice7 linkTo8 z.2.2.2.2.2.2.2.2.1 z.2.2.2.2.2.2.2.2.2.1 z.2.2.2.2.2.2.2.2.2.2.1 z.2.2.2.2.2.2.2.2.2.2.2.1 z.2.2.2.2.2.2.2.2.2.2.2.2.1 z.2.2.2.2.2.2.2.2.2.2.2.2.2.1 z.2.2.2.2.2.2.2.2.2.2.2.2.2.2.1 tagAxles16 tagPlate17 z.2.2.2.2.2.2.2.2.2.2.2.2.2.2.2.1 z.2.2.2.2.2.2.2.2.2.2.2.2.2.2.2.2) s.heap H locs → lv_has ls 4 [(0, .ref h0), (2, .int z.1)] → W p l e (rml 10 0 0) s m args below meth c H locs 0 0 Q (F0 m 124 ls [])) (fun k124 z ih124 hf => ?_) F z hf
    obtain ⟨x2, thrown0, depth0, routeMany0, routeCost0, newTrips0, newInvoices0, history4, newAmount9, newClass10, newInvoice11, newPassages12, newVehicle13, route14, state15, tried18, tripFor19⟩ := z
    intro H locs ls w hl
    try dsimp only at hf w hl ⊢
    unfold f_X10_bill_h124 at hf
    refine lv_iload_n hx hb dX10_bill_124 rfl (lv_at hl 1 rfl) ?_
    refine lv_aload_n hx hb dX10_bill_125 rfl (lv_at hl 0 rfl) ?_
    refine g_X10_292 C w 0 rfl rfl dX10_bill_126 ?_
    refine lv_icmp_ge (tgt := 225) hx hb dX10_bill_129 (by decide) (fun c22 => ?_) (fun c22 => ?_)
    · replace hf := it_t c22 hf
      refine lv_iconst (v := 0) hx hb dX10_bill_225 (by decide) ?_
      refine lv_istore_n (lv' := [(2, .int 0), (0, .ref h0)]) hx hb dX10_bill_226 rfl hl (by decide) rfl (fun ls hl => ?_)
      exact L227 (0, thrown0, depth0, routeMany0, routeCost0, newTrips0, newInvoices0, history4, newAmount9, newClass10, newInvoice11, newPassages12, newVehicle13, route14, state15, tried18, tripFor19) hf _ _ _ w (lv_sub hl [1, 0] rfl)
    · replace hf := it_f c22 hf
      refine lv_sipush (v := 2004) hx hb dX10_bill_132 (by decide) ?_
      refine lv_iconst (v := 5) hx hb dX10_bill_135 (by decide) ?_
      refine lv_aload_n hx hb dX10_bill_136 rfl (lv_at hl 0 rfl) ?_
      refine g_X10_44 C w 0 rfl rfl dX10_bill_137 ?_
      refine lv_iconst (v := 1) hx hb dX10_bill_140 (by decide) ?_
      obtain ⟨a23, hia23, haa23, hf⟩ := rd_some hf
      refine ial C w 15 rfl hia23 haa23 dX10_bill_141 ?_
      refine lv_iload_n hx hb dX10_bill_142 rfl (lv_at hl 1 rfl) ?_
      refine lv_iadd hx hb dX10_bill_143 ?_
      refine lv_imul hx hb dX10_bill_144 ?_
      refine lv_iadd hx hb dX10_bill_145 ?_
      refine lv_istore_n (lv' := [(3, .int (2004 + (5 * (a23 + x2)))), (0, .ref h0), (2, .int x2)]) hx hb dX10_bill_146 rfl hl (by decide) rfl (fun ls hl => ?_)
      refine lv_aload_n hx hb dX10_bill_147 rfl (lv_at hl 1 rfl) ?_
      refine g_X10_44 C w 0 rfl rfl dX10_bill_148 ?_
      refine lv_iload_n hx hb dX10_bill_151 rfl (lv_at hl 0 rfl) ?_
      refine lv_iconst (v := 0) hx hb dX10_bill_152 (by decide) ?_
      refine lv_iadd hx hb dX10_bill_153 ?_
      refine lv_aload_n hx hb dX10_bill_154 rfl (lv_at hl 1 rfl) ?_
      refine g_X10_44 C w 0 rfl rfl dX10_bill_155 ?_
      refine lv_iconst (v := 2) hx hb dX10_bill_158 (by decide) ?_
      obtain ⟨a24, hia24, haa24, hf⟩ := rd_some hf
      refine ial C w 15 rfl hia24 haa24 dX10_bill_159 ?_
      refine lv_aload_n hx hb dX10_bill_160 rfl (lv_at hl 1 rfl) ?_
      refine g_X10_63 C w 0 rfl rfl dX10_bill_161 ?_
      refine lv_iload_n hx hb dX10_bill_164 rfl (lv_at hl 2 rfl) ?_
      obtain ⟨a25, hia25, haa25, hf⟩ := rd_some hf
      refine ial C w 11 rfl hia25 haa25 dX10_bill_165 ?_
      refine lv_iadd hx hb dX10_bill_166 ?_
      obtain ⟨f26, hif26, haf26, hf⟩ := wr_some hf
      refine ias C w 15 rfl hif26 haf26 (ws2 := w_X10_bill g h0 h1 h2 h3 h4 h5 h6 h7 h8 h9 h10 h11 h12 h13 h14 h15 h16 h17 h18 h19 v0_1 v0_2 v0_3 v0_4 v0_5 v0_6 v0_7 v0_8 v0_9 v0_11 v0_20 v0_24 v0_25 thrown0 depth0 routeMany0 routeCost0 newTrips0 newInvoices0 basic1 classAxles2 classPercent3 history4 linkFrom5 linkMinutes6 linkPrice7 linkTo8 newAmount9 newClass10 newInvoice11 newPassages12 newVehicle13 route14 f26 tagAxles16 tagPlate17 tried18 tripFor19) rfl dX10_bill_167 (fun H locs w => ?_)
      refine lv_aload_n hx hb dX10_bill_168 rfl (lv_at hl 1 rfl) ?_
      refine g_X10_44 C w 0 rfl rfl dX10_bill_169 ?_
      refine lv_iload_n hx hb dX10_bill_172 rfl (lv_at hl 0 rfl) ?_
      refine lv_iconst (v := 1) hx hb dX10_bill_173 (by decide) ?_
      refine lv_iadd hx hb dX10_bill_174 ?_
      refine lv_aload_n hx hb dX10_bill_175 rfl (lv_at hl 1 rfl) ?_
      refine g_X10_66 C w 0 rfl rfl dX10_bill_176 ?_
      refine lv_iload_n hx hb dX10_bill_179 rfl (lv_at hl 2 rfl) ?_
      obtain ⟨a27, hia27, haa27, hf⟩ := rd_some hf
      refine ial C w 9 rfl hia27 haa27 dX10_bill_180 ?_
      obtain ⟨f28, hif28, haf28, hf⟩ := wr_some hf
      refine ias C w 15 rfl hif28 haf28 (ws2 := w_X10_bill g h0 h1 h2 h3 h4 h5 h6 h7 h8 h9 h10 h11 h12 h13 h14 h15 h16 h17 h18 h19 v0_1 v0_2 v0_3 v0_4 v0_5 v0_6 v0_7 v0_8 v0_9 v0_11 v0_20 v0_24 v0_25 thrown0 depth0 routeMany0 routeCost0 newTrips0 newInvoices0 basic1 classAxles2 classPercent3 history4 linkFrom5 linkMinutes6 linkPrice7 linkTo8 newAmount9 newClass10 newInvoice11 newPassages12 newVehicle13 route14 f28 tagAxles16 tagPlate17 tried18 tripFor19) rfl dX10_bill_181 (fun H locs w => ?_)
      refine lv_aload_n hx hb dX10_bill_182 rfl (lv_at hl 1 rfl) ?_
      refine g_X10_44 C w 0 rfl rfl dX10_bill_183 ?_
      refine lv_iload_n hx hb dX10_bill_186 rfl (lv_at hl 0 rfl) ?_
      refine lv_iconst (v := 2) hx hb dX10_bill_187 (by decide) ?_
      refine lv_iadd hx hb dX10_bill_188 ?_
      refine lv_aload_n hx hb dX10_bill_189 rfl (lv_at hl 1 rfl) ?_
      refine g_X10_69 C w 0 rfl rfl dX10_bill_190 ?_
      refine lv_iload_n hx hb dX10_bill_193 rfl (lv_at hl 2 rfl) ?_
      obtain ⟨a29, hia29, haa29, hf⟩ := rd_some hf
      refine ial C w 10 rfl hia29 haa29 dX10_bill_194 ?_
      obtain ⟨f30, hif30, haf30, hf⟩ := wr_some hf
      refine ias C w 15 rfl hif30 haf30 (ws2 := w_X10_bill g h0 h1 h2 h3 h4 h5 h6 h7 h8 h9 h10 h11 h12 h13 h14 h15 h16 h17 h18 h19 v0_1 v0_2 v0_3 v0_4 v0_5 v0_6 v0_7 v0_8 v0_9 v0_11 v0_20 v0_24 v0_25 thrown0 depth0 routeMany0 routeCost0 newTrips0 newInvoices0 basic1 classAxles2 classPercent3 history4 linkFrom5 linkMinutes6 linkPrice7 linkTo8 newAmount9 newClass10 newInvoice11 newPassages12 newVehicle13 route14 f30 tagAxles16 tagPlate17 tried18 tripFor19) rfl dX10_bill_195 (fun H locs w => ?_)
      refine lv_aload_n hx hb dX10_bill_196 rfl (lv_at hl 1 rfl) ?_
      refine g_X10_44 C w 0 rfl rfl dX10_bill_197 ?_
      refine lv_iload_n hx hb dX10_bill_200 rfl (lv_at hl 0 rfl) ?_
      refine lv_iconst (v := 3) hx hb dX10_bill_201 (by decide) ?_
      refine lv_iadd hx hb dX10_bill_202 ?_
      refine lv_aload_n hx hb dX10_bill_203 rfl (lv_at hl 1 rfl) ?_
      refine g_X10_72 C w 0 rfl rfl dX10_bill_204 ?_
      refine lv_iload_n hx hb dX10_bill_207 rfl (lv_at hl 2 rfl) ?_
      obtain ⟨a31, hia31, haa31, hf⟩ := rd_some hf
      refine ial C w 12 rfl hia31 haa31 dX10_bill_208 ?_
      obtain ⟨f32, hif32, haf32, hf⟩ := wr_some hf
      refine ias C w 15 rfl hif32 haf32 (ws2 := w_X10_bill g h0 h1 h2 h3 h4 h5 h6 h7 h8 h9 h10 h11 h12 h13 h14 h15 h16 h17 h18 h19 v0_1 v0_2 v0_3 v0_4 v0_5 v0_6 v0_7 v0_8 v0_9 v0_11 v0_20 v0_24 v0_25 thrown0 depth0 routeMany0 routeCost0 newTrips0 newInvoices0 basic1 classAxles2 classPercent3 history4 linkFrom5 linkMinutes6 linkPrice7 linkTo8 newAmount9 newClass10 newInvoice11 newPassages12 newVehicle13 route14 f32 tagAxles16 tagPlate17 tried18 tripFor19) rfl dX10_bill_209 (fun H locs w => ?_)
      refine lv_aload_n hx hb dX10_bill_210 rfl (lv_at hl 1 rfl) ?_
      refine g_X10_44 C w 0 rfl rfl dX10_bill_211 ?_
      refine lv_iload_n hx hb dX10_bill_214 rfl (lv_at hl 0 rfl) ?_
      refine lv_iconst (v := 4) hx hb dX10_bill_215 (by decide) ?_
      refine lv_iadd hx hb dX10_bill_216 ?_
      refine lv_iconst (v := 0) hx hb dX10_bill_217 (by decide) ?_
      obtain ⟨f33, hif33, haf33, hf⟩ := wr_some hf
      refine ias C w 15 rfl hif33 haf33 (ws2 := w_X10_bill g h0 h1 h2 h3 h4 h5 h6 h7 h8 h9 h10 h11 h12 h13 h14 h15 h16 h17 h18 h19 v0_1 v0_2 v0_3 v0_4 v0_5 v0_6 v0_7 v0_8 v0_9 v0_11 v0_20 v0_24 v0_25 thrown0 depth0 routeMany0 routeCost0 newTrips0 newInvoices0 basic1 classAxles2 classPercent3 history4 linkFrom5 linkMinutes6 linkPrice7 linkTo8 newAmount9 newClass10 newInvoice11 newPassages12 newVehicle13 route14 f33 tagAxles16 tagPlate17 tried18 tripFor19) rfl dX10_bill_218 (fun H locs w => ?_)
      refine lv_iinc (v := x2 + 1) (lv' := [(2, .int (x2 + 1)), (3, .int (2004 + (5 * (a23 + x2)))), (0, .ref h0)]) hx hb dX10_bill_219 hl (k := 2) rfl rfl (by decide) rfl (fun ls hl => ?_)
      refine lv_goto (tgt := 124) hx hb dX10_bill_222 (by decide) ?_
      exact ih124 (x2 + 1, thrown0, depth0, routeMany0, routeCost0, newTrips0, newInvoices0, history4, newAmount9, newClass10, newInvoice11, newPassages12, newVehicle13, route14, f33, tried18, tripFor19) hf _ _ _ w (lv_sub hl [2, 0] rfl)
  have L65 : ∀ (z : Int32 × Int32 × Int32 × Int32 × Int32 × Int32 × Int32 × (Nat → Int32) × (Nat → Int32) × (Nat → Int32) × (Nat → Int32) × (Nat → Int32) × (Nat → Int32) × (Nat → Int32) × (Nat → Int32) × (Nat → Int32) × (Nat → Int32)), f_X10_bill_L65 F basic1 classAxles2 classPercent3 linkFrom5 linkMinutes6 linkPrice7 linkTo8 tagAxles16 tagPlate17 z = some (r, o_thrown0, o_depth0, o_routeMany0, o_routeCost0, o_newTrips0, o_newInvoices0, o_history4, o_newAmount9, o_newClass10, o_newInvoice11, o_newPassages12, o_newVehicle13, o_route14, o_state15, o_tried18, o_tripFor19) → ∀ (H : Heap) (locs : List Loc) (ls : Array Slot), Wd g A (w_X10_bill g h0 h1 h2 h3 h4 h5 h6 h7 h8 h9 h10 h11 h12 h13 h14 h15 h16 h17 h18 h19 v0_1 v0_2 v0_3 v0_4 v0_5 v0_6 v0_7 v0_8 v0_9 v0_11 v0_20 v0_24 v0_25 z.2.1 z.2.2.1 z.2.2.2.1 z.2.2.2.2.1 z.2.2.2.2.2.1 z.2.2.2.2.2.2.1 basic1 classAxles2 classPercent3 z.2.2.2.2.2.2.2.1 linkFrom5 linkMinutes6 linkPrice7 linkTo8 z.2.2.2.2.2.2.2.2.1 z.2.2.2.2.2.2.2.2.2.1 z.2.2.2.2.2.2.2.2.2.2.1 z.2.2.2.2.2.2.2.2.2.2.2.1 z.2.2.2.2.2.2.2.2.2.2.2.2.1 z.2.2.2.2.2.2.2.2.2.2.2.2.2.1 z.2.2.2.2.2.2.2.2.2.2.2.2.2.2.1 tagAxles16 tagPlate17 z.2.2.2.2.2.2.2.2.2.2.2.2.2.2.2.1 z.2.2.2.2.2.2.2.2.2.2.2.2.2.2.2.2) s.heap H locs → lv_has ls 4 [(0, .ref h0), (2, .int z.1)] → W p l e (rml 10 0 0) s m args below meth c H locs 0 0 Q (F0 m 65 ls []) := by
    intro z hf
    refine lp_W (r := (r, o_thrown0, o_depth0, o_routeMany0, o_routeCost0, o_newTrips0, o_newInvoices0, o_history4, o_newAmount9, o_newClass10, o_newInvoice11, o_newPassages12, o_newVehicle13, o_route14, o_state15, o_tried18, o_tripFor19)) (fun (z : Int32 × Int32 × Int32 × Int32 × Int32 × Int32 × Int32 × (Nat → Int32) × (Nat → Int32) × (Nat → Int32) × (Nat → Int32) × (Nat → Int32) × (Nat → Int32) × (Nat → Int32) × (Nat → Int32) × (Nat → Int32) × (Nat → Int32)) => ∀ (H : Heap) (locs : List Loc) (ls : Array Slot), Wd g A (w_X10_bill g h0 h1 h2 h3 h4 h5 h6 h7 h8 h9 h10 h11 h12 h13 h14 h15 h16 h17 h18 h19 v0_1 v0_2 v0_3 v0_4 v0_5 v0_6 v0_7 v0_8 v0_9 v0_11 v0_20 v0_24 v0_25 z.2.1 z.2.2.1 z.2.2.2.1 z.2.2.2.2.1 z.2.2.2.2.2.1 z.2.2.2.2.2.2.1 basic1 classAxles2 classPercent3 z.2.2.2.2.2.2.2.1 linkFrom5 linkMinutes6 linkPrice7 linkTo8 z.2.2.2.2.2.2.2.2.1 z.2.2.2.2.2.2.2.2.2.1 z.2.2.2.2.2.2.2.2.2.2.1 z.2.2.2.2.2.2.2.2.2.2.2.1 z.2.2.2.2.2.2.2.2.2.2.2.2.1 z.2.2.2.2.2.2.2.2.2.2.2.2.2.1 z.2.2.2.2.2.2.2.2.2.2.2.2.2.2.1 tagAxles16 tagPlate17 z.2.2.2.2.2.2.2.2.2.2.2.2.2.2.2.1 z.2.2.2.2.2.2.2.2.2.2.2.2.2.2.2.2) s.heap H locs → lv_has ls 4 [(0, .ref h0), (2, .int z.1)] → W p l e (rml 10 0 0) s m args below meth c H locs 0 0 Q (F0 m 65 ls [])) (fun k65 z ih65 hf => ?_) F z hf
    obtain ⟨x2, thrown0, depth0, routeMany0, routeCost0, newTrips0, newInvoices0, history4, newAmount9, newClass10, newInvoice11, newPassages12, newVehicle13, route14, state15, tried18, tripFor19⟩ := z
    intro H locs ls w hl
    try dsimp only at hf w hl ⊢
    unfold f_X10_bill_h65 at hf
    have b116 : ∀ (x2 thrown0 depth0 routeMany0 routeCost0 newTrips0 newInvoices0 : Int32) (history4 newAmount9 newClass10 newInvoice11 newPassages12 newVehicle13 route14 state15 tried18 tripFor19 : Nat → Int32) (H : Heap) (locs : List Loc) (ls : Array Slot), f_X10_bill_b116 F k65 basic1 classAxles2 classPercent3 linkFrom5 linkMinutes6 linkPrice7 linkTo8 tagAxles16 tagPlate17 x2 thrown0 depth0 routeMany0 routeCost0 newTrips0 newInvoices0 history4 newAmount9 newClass10 newInvoice11 newPassages12 newVehicle13 route14 state15 tried18 tripFor19 = some (r, o_thrown0, o_depth0, o_routeMany0, o_routeCost0, o_newTrips0, o_newInvoices0, o_history4, o_newAmount9, o_newClass10, o_newInvoice11, o_newPassages12, o_newVehicle13, o_route14, o_state15, o_tried18, o_tripFor19) → Wd g A (w_X10_bill g h0 h1 h2 h3 h4 h5 h6 h7 h8 h9 h10 h11 h12 h13 h14 h15 h16 h17 h18 h19 v0_1 v0_2 v0_3 v0_4 v0_5 v0_6 v0_7 v0_8 v0_9 v0_11 v0_20 v0_24 v0_25 thrown0 depth0 routeMany0 routeCost0 newTrips0 newInvoices0 basic1 classAxles2 classPercent3 history4 linkFrom5 linkMinutes6 linkPrice7 linkTo8 newAmount9 newClass10 newInvoice11 newPassages12 newVehicle13 route14 state15 tagAxles16 tagPlate17 tried18 tripFor19) s.heap H locs → lv_has ls 4 [(0, .ref h0), (2, .int x2)] → W p l e (rml 10 0 0) s m args below meth c H locs 0 0 Q (F0 m 116 ls []) := by
      intro x2 thrown0 depth0 routeMany0 routeCost0 newTrips0 newInvoices0 history4 newAmount9 newClass10 newInvoice11 newPassages12 newVehicle13 route14 state15 tried18 tripFor19 H locs ls hf w hl
      unfold f_X10_bill_b116 at hf
      refine lv_iinc (v := x2 + 1) (lv' := [(2, .int (x2 + 1)), (0, .ref h0)]) hx hb dX10_bill_116 hl (k := 1) rfl rfl (by decide) rfl (fun ls hl => ?_)
      refine lv_goto (tgt := 65) hx hb dX10_bill_119 (by decide) ?_
      exact ih65 (x2 + 1, thrown0, depth0, routeMany0, routeCost0, newTrips0, newInvoices0, history4, newAmount9, newClass10, newInvoice11, newPassages12, newVehicle13, route14, state15, tried18, tripFor19) hf _ _ _ w (lv_sub hl [1, 0] rfl)
    refine lv_iload_n hx hb dX10_bill_65 rfl (lv_at hl 1 rfl) ?_
    refine lv_aload_n hx hb dX10_bill_66 rfl (lv_at hl 0 rfl) ?_
    refine g_X10_44 C w 0 rfl rfl dX10_bill_67 ?_
    refine lv_iconst (v := 0) hx hb dX10_bill_70 (by decide) ?_
    obtain ⟨a34, hia34, haa34, hf⟩ := rd_some hf
    refine ial C w 15 rfl hia34 haa34 dX10_bill_71 ?_
    refine lv_icmp_ge (tgt := 122) hx hb dX10_bill_72 (by decide) (fun c35 => ?_) (fun c35 => ?_)
    · replace hf := it_t c35 hf
      refine lv_iconst (v := 0) hx hb dX10_bill_122 (by decide) ?_
      refine lv_istore_n (lv' := [(2, .int 0), (0, .ref h0)]) hx hb dX10_bill_123 rfl hl (by decide) rfl (fun ls hl => ?_)
      exact L124 (0, thrown0, depth0, routeMany0, routeCost0, newTrips0, newInvoices0, history4, newAmount9, newClass10, newInvoice11, newPassages12, newVehicle13, route14, state15, tried18, tripFor19) hf _ _ _ w (lv_sub hl [1, 0] rfl)
    · replace hf := it_f c35 hf
      refine lv_aload_n hx hb dX10_bill_75 rfl (lv_at hl 0 rfl) ?_
      refine g_X10_78 C w 0 rfl rfl dX10_bill_76 ?_
      refine lv_iload_n hx hb dX10_bill_79 rfl (lv_at hl 1 rfl) ?_
      obtain ⟨a36, hia36, haa36, hf⟩ := rd_some hf
      refine ial C w 19 rfl hia36 haa36 dX10_bill_80 ?_
      refine lv_if_ge (tgt := 87) hx hb dX10_bill_81 (by decide) (fun c37 => ?_) (fun c37 => ?_)
      · replace hf := it_t c37 hf
        refine lv_aload_n hx hb dX10_bill_87 rfl (lv_at hl 0 rfl) ?_
        refine lv_iload_n hx hb dX10_bill_88 rfl (lv_at hl 1 rfl) ?_
        refine lv_iconst (v := 3) hx hb dX10_bill_89 (by decide) ?_
        refine lv_iconst (v := 1) hx hb dX10_bill_90 (by decide) ?_
        obtain ⟨o38, hc39, hf⟩ := bd1_some hf
        refine ca_vV C w (wn := fun _ => w_X10_bill g h0 h1 h2 h3 h4 h5 h6 h7 h8 h9 h10 h11 h12 h13 h14 h15 h16 h17 h18 h19 v0_1 v0_2 v0_3 v0_4 v0_5 v0_6 v0_7 v0_8 v0_9 v0_11 v0_20 v0_24 v0_25 thrown0 depth0 routeMany0 routeCost0 newTrips0 newInvoices0 basic1 classAxles2 classPercent3 history4 linkFrom5 linkMinutes6 linkPrice7 linkTo8 newAmount9 newClass10 newInvoice11 newPassages12 newVehicle13 route14 o38 tagAxles16 tagPlate17 tried18 tripFor19) (pm_k [true, false, false, false, false, false, false, false, false, false, false, false, false, false, false, true, false, false, false, false] rfl rfl (fun _ => Nat.le_of_ble_eq_true rfl) (fun _ => rfl)) (c_X10_setPassage l g F h0 h15 (.int thrown0) v0_1 v0_2 v0_3 v0_4 v0_5 v0_6 v0_7 v0_8 v0_9 (.ref h1) v0_11 (.ref h5) (.ref h8) (.ref h6) (.ref h7) (.ref h2) (.ref h3) (.ref h17) (.ref h16) v0_20 (.ref h4) (.int depth0) v0_24 v0_25 (.int routeMany0) (.int routeCost0) (.ref h14) (.ref h18) (.ref h11) (.ref h9) (.ref h10) (.ref h12) (.ref h13) (.ref h19) (.int newTrips0) (.int newInvoices0) x2 3 1 state15 o38 _ hc39) k_X10_346 (rm_le (by decide) (by decide)) 0 10 rfl rfl rfl rfl hl.1 rfl (Nat.le_of_ble_eq_true rfl) dX10_bill_91 ⟨Nat.le_of_ble_eq_true rfl, Nat.le_of_ble_eq_true rfl⟩ (cells2 := 0) (slots2 := 0) ⟨rfl, rfl⟩ (fun _ H locs w => ?_)
        refine lv_aload_n hx hb dX10_bill_94 rfl (lv_at hl 0 rfl) ?_
        refine lv_iload_n hx hb dX10_bill_95 rfl (lv_at hl 1 rfl) ?_
        refine lv_bipush (v := 24) hx hb dX10_bill_96 (by decide) ?_
        refine lv_aload_n hx hb dX10_bill_98 rfl (lv_at hl 0 rfl) ?_
        refine g_X10_44 C w 0 rfl rfl dX10_bill_99 ?_
        refine lv_iconst (v := 1) hx hb dX10_bill_102 (by decide) ?_
        obtain ⟨a40, hia40, haa40, hf⟩ := rd_some hf
        refine ial C w 15 rfl hia40 haa40 dX10_bill_103 ?_
        refine lv_aload_n hx hb dX10_bill_104 rfl (lv_at hl 0 rfl) ?_
        refine g_X10_78 C w 0 rfl rfl dX10_bill_105 ?_
        refine lv_iload_n hx hb dX10_bill_108 rfl (lv_at hl 1 rfl) ?_
        obtain ⟨a41, hia41, haa41, hf⟩ := rd_some hf
        refine ial C w 19 rfl hia41 haa41 dX10_bill_109 ?_
        refine lv_iadd hx hb dX10_bill_110 ?_
        refine lv_iconst (v := 1) hx hb dX10_bill_111 (by decide) ?_
        refine lv_iadd hx hb dX10_bill_112 ?_
        obtain ⟨o42, hc43, hf⟩ := bd1_some hf
        refine ca_vV C w (wn := fun _ => w_X10_bill g h0 h1 h2 h3 h4 h5 h6 h7 h8 h9 h10 h11 h12 h13 h14 h15 h16 h17 h18 h19 v0_1 v0_2 v0_3 v0_4 v0_5 v0_6 v0_7 v0_8 v0_9 v0_11 v0_20 v0_24 v0_25 thrown0 depth0 routeMany0 routeCost0 newTrips0 newInvoices0 basic1 classAxles2 classPercent3 history4 linkFrom5 linkMinutes6 linkPrice7 linkTo8 newAmount9 newClass10 newInvoice11 newPassages12 newVehicle13 route14 o42 tagAxles16 tagPlate17 tried18 tripFor19) (pm_k [true, false, false, false, false, false, false, false, false, false, false, false, false, false, false, true, false, false, false, false] rfl rfl (fun _ => Nat.le_of_ble_eq_true rfl) (fun _ => rfl)) (c_X10_setPassage l g F h0 h15 (.int thrown0) v0_1 v0_2 v0_3 v0_4 v0_5 v0_6 v0_7 v0_8 v0_9 (.ref h1) v0_11 (.ref h5) (.ref h8) (.ref h6) (.ref h7) (.ref h2) (.ref h3) (.ref h17) (.ref h16) v0_20 (.ref h4) (.int depth0) v0_24 v0_25 (.int routeMany0) (.int routeCost0) (.ref h14) (.ref h18) (.ref h11) (.ref h9) (.ref h10) (.ref h12) (.ref h13) (.ref h19) (.int newTrips0) (.int newInvoices0) x2 24 ((a40 + a41) + 1) o38 o42 _ hc43) k_X10_346 (rm_le (by decide) (by decide)) 0 10 rfl rfl rfl rfl hl.1 rfl (Nat.le_of_ble_eq_true rfl) dX10_bill_113 ⟨Nat.le_of_ble_eq_true rfl, Nat.le_of_ble_eq_true rfl⟩ (cells2 := 0) (slots2 := 0) ⟨rfl, rfl⟩ (fun _ H locs w => ?_)
        exact b116 x2 thrown0 depth0 routeMany0 routeCost0 newTrips0 newInvoices0 history4 newAmount9 newClass10 newInvoice11 newPassages12 newVehicle13 route14 o42 tried18 tripFor19 _ _ _ hf w (lv_sub hl [0, 1] rfl)
      · replace hf := it_f c37 hf
        refine lv_goto (tgt := 116) hx hb dX10_bill_84 (by decide) ?_
        exact b116 x2 thrown0 depth0 routeMany0 routeCost0 newTrips0 newInvoices0 history4 newAmount9 newClass10 newInvoice11 newPassages12 newVehicle13 route14 state15 tried18 tripFor19 _ _ _ hf w (lv_sub hl [0, 1] rfl)
  refine lv_aload_n hx hb dX10_bill_0 rfl (lv_at hl 0 rfl) ?_
  refine lv_iconst (v := 0) hx hb dX10_bill_1 (by decide) ?_
  refine p_X10_84 C w 0 rfl (Nat.le_of_ble_eq_true rfl) (ws2 := w_X10_bill g h0 h1 h2 h3 h4 h5 h6 h7 h8 h9 h10 h11 h12 h13 h14 h15 h16 h17 h18 h19 v0_1 v0_2 v0_3 v0_4 v0_5 v0_6 v0_7 v0_8 v0_9 v0_11 v0_20 v0_24 v0_25 0 depth0 routeMany0 routeCost0 newTrips0 newInvoices0 basic1 classAxles2 classPercent3 history4 linkFrom5 linkMinutes6 linkPrice7 linkTo8 newAmount9 newClass10 newInvoice11 newPassages12 newVehicle13 route14 state15 tagAxles16 tagPlate17 tried18 tripFor19) rfl dX10_bill_2 (fun H locs w => ?_)
  refine lv_iload_n hx hb dX10_bill_5 rfl (lv_at hl 1 rfl) ?_
  refine lv_i2l (v := p1.toInt64) hx hb dX10_bill_6 rfl ?_
  refine lv_lconst (v := 0) hx hb dX10_bill_7 (by decide) ?_
  refine lv_ldc2 (v := 99999) hx hb C.2.2.2.1 (C.2.2.2.2.1 _ q_1467) dX10_bill_8 ?_
  obtain ⟨r44, hc45, hf⟩ := bd1_some hf
  refine ca_iS C w (wn := fun _ => w_X10_bill g h0 h1 h2 h3 h4 h5 h6 h7 h8 h9 h10 h11 h12 h13 h14 h15 h16 h17 h18 h19 v0_1 v0_2 v0_3 v0_4 v0_5 v0_6 v0_7 v0_8 v0_9 v0_11 v0_20 v0_24 v0_25 0 depth0 routeMany0 routeCost0 newTrips0 newInvoices0 basic1 classAxles2 classPercent3 history4 linkFrom5 linkMinutes6 linkPrice7 linkTo8 newAmount9 newClass10 newInvoice11 newPassages12 newVehicle13 route14 state15 tagAxles16 tagPlate17 tried18 tripFor19) (pm_k [false, false, false, false, false, false, false, false, false, false, false, false, false, false, false, false, false, false, false, false] rfl rfl (fun _ => Nat.le_of_ble_eq_true rfl) (fun _ => rfl)) (c_X10_within l g F p1.toInt64 0 99999 r44 _ hc45) k_X10_115 (rm_le (by decide) (by decide)) rfl hl.1 rfl (Nat.le_of_ble_eq_true rfl) dX10_bill_11 ⟨Nat.le_of_ble_eq_true rfl, Nat.le_of_ble_eq_true rfl⟩ (cells2 := 0) (slots2 := 0) ⟨rfl, rfl⟩ (fun _ H locs w => ?_)
  refine lv_if_ne (tgt := 23) hx hb dX10_bill_14 (by decide) (fun c46 => ?_) (fun c46 => ?_)
  · replace hf := it_f c46 hf
    refine lv_aload_n hx hb dX10_bill_23 rfl (lv_at hl 0 rfl) ?_
    refine lv_iload_n hx hb dX10_bill_24 rfl (lv_at hl 1 rfl) ?_
    obtain ⟨o47, o48, o49, o50, o51, o52, o53, o54, o55, o56, o57, o58, hc59, hf⟩ := bd12_some hf
    refine ca_vV C w (wn := fun _ => w_X10_bill g h0 h1 h2 h3 h4 h5 h6 h7 h8 h9 h10 h11 h12 h13 h14 h15 h16 h17 h18 h19 v0_1 v0_2 v0_3 v0_4 v0_5 v0_6 v0_7 v0_8 v0_9 v0_11 v0_20 v0_24 v0_25 0 depth0 o47 o48 o49 o50 basic1 classAxles2 classPercent3 history4 linkFrom5 linkMinutes6 linkPrice7 linkTo8 o51 o52 o53 o54 o55 o56 state15 tagAxles16 tagPlate17 o57 o58) (pm_k [true, true, true, true, false, true, true, true, true, true, true, true, true, true, true, true, true, true, true, true] rfl rfl (fun _ => Nat.le_of_ble_eq_true rfl) (fun _ => rfl)) (c_X10_layBilling l g F h0 h1 h2 h3 h5 h6 h7 h8 h9 h10 h11 h12 h13 h14 h15 h16 h17 h18 h19 (.int 0) v0_1 v0_2 v0_3 v0_4 v0_5 v0_6 v0_7 v0_8 v0_9 v0_11 v0_20 (.ref h4) (.int depth0) v0_24 v0_25 p1 routeMany0 routeCost0 newTrips0 newInvoices0 basic1 classAxles2 classPercent3 linkFrom5 linkMinutes6 linkPrice7 linkTo8 newAmount9 newClass10 newInvoice11 newPassages12 newVehicle13 route14 state15 tagAxles16 tagPlate17 tried18 tripFor19 o47 o48 o49 o50 o51 o52 o53 o54 o55 o56 o57 o58 _ hc59) k_X10_313 (rm_le (by decide) (by decide)) 0 10 rfl rfl rfl rfl hl.1 rfl (Nat.le_of_ble_eq_true rfl) dX10_bill_25 ⟨Nat.le_of_ble_eq_true rfl, Nat.le_of_ble_eq_true rfl⟩ (cells2 := 0) (slots2 := 0) ⟨rfl, rfl⟩ (fun _ H locs w => ?_)
    refine lv_aload_n hx hb dX10_bill_28 rfl (lv_at hl 0 rfl) ?_
    refine g_X10_292 C w 0 rfl rfl dX10_bill_29 ?_
    refine lv_if_ne (tgt := 37) hx hb dX10_bill_32 (by decide) (fun c60 => ?_) (fun c60 => ?_)
    · replace hf := it_f c60 hf
      refine lv_aload_n hx hb dX10_bill_37 rfl (lv_at hl 0 rfl) ?_
      refine g_X10_44 C w 0 rfl rfl dX10_bill_38 ?_
      refine lv_iconst (v := 2) hx hb dX10_bill_41 (by decide) ?_
      obtain ⟨a61, hia61, haa61, hf⟩ := rd_some hf
      refine ial C w 15 rfl hia61 haa61 dX10_bill_42 ?_
      refine lv_aload_n hx hb dX10_bill_43 rfl (lv_at hl 0 rfl) ?_
      refine g_X10_283 C w 0 rfl rfl dX10_bill_44 ?_
      refine lv_iadd hx hb dX10_bill_47 ?_
      refine lv_bipush (v := 40) hx hb dX10_bill_48 (by decide) ?_
      refine lv_icmp_le (tgt := 59) hx hb dX10_bill_50 (by decide) (fun c62 => ?_) (fun c62 => ?_)
      · replace hf := it_t c62 hf
        refine lv_aload_n hx hb dX10_bill_59 rfl (lv_at hl 0 rfl) ?_
        obtain ⟨o63, o64, hc65, hf⟩ := bd2_some hf
        refine ca_vV C w (wn := fun _ => w_X10_bill g h0 h1 h2 h3 h4 h5 h6 h7 h8 h9 h10 h11 h12 h13 h14 h15 h16 h17 h18 h19 v0_1 v0_2 v0_3 v0_4 v0_5 v0_6 v0_7 v0_8 v0_9 v0_11 v0_20 v0_24 v0_25 0 o63 o47 o48 o49 o50 basic1 classAxles2 classPercent3 o64 linkFrom5 linkMinutes6 linkPrice7 linkTo8 o51 o52 o53 o54 o55 o56 state15 tagAxles16 tagPlate17 o57 o58) (pm_k [true, false, false, false, true, false, false, false, false, false, false, false, false, false, false, true, false, false, false, false] rfl rfl (fun _ => Nat.le_of_ble_eq_true rfl) (fun _ => rfl)) (c_X10_keep l g F h0 h4 h15 (.int 0) v0_1 v0_2 v0_3 v0_4 v0_5 v0_6 v0_7 v0_8 v0_9 (.ref h1) v0_11 (.ref h5) (.ref h8) (.ref h6) (.ref h7) (.ref h2) (.ref h3) (.ref h17) (.ref h16) v0_20 v0_24 v0_25 (.int o47) (.int o48) (.ref h14) (.ref h18) (.ref h11) (.ref h9) (.ref h10) (.ref h12) (.ref h13) (.ref h19) (.int o49) (.int o50) depth0 history4 state15 o63 o64 _ hc65) k_X10_343 (rm_le (by decide) (by decide)) 0 10 rfl rfl rfl rfl hl.1 rfl (Nat.le_of_ble_eq_true rfl) dX10_bill_60 ⟨Nat.le_of_ble_eq_true rfl, Nat.le_of_ble_eq_true rfl⟩ (cells2 := 0) (slots2 := 0) ⟨rfl, rfl⟩ (fun _ H locs w => ?_)
        refine lv_iconst (v := 0) hx hb dX10_bill_63 (by decide) ?_
        refine lv_istore_n (lv' := [(2, .int 0), (0, .ref h0), (1, .int p1)]) hx hb dX10_bill_64 rfl hl (by decide) rfl (fun ls hl => ?_)
        exact L65 (0, 0, o63, o47, o48, o49, o50, o64, o51, o52, o53, o54, o55, o56, state15, o57, o58) hf _ _ _ w (lv_sub hl [1, 0] rfl)
      · replace hf := it_f c62 hf
        refine lv_aload_n hx hb dX10_bill_53 rfl (lv_at hl 0 rfl) ?_
        refine lv_iconst (v := 2) hx hb dX10_bill_54 (by decide) ?_
        obtain ⟨r66, o67, hc68, hf⟩ := bd2_some hf
        refine ca_iV C w (wn := fun _ => w_X10_bill g h0 h1 h2 h3 h4 h5 h6 h7 h8 h9 h10 h11 h12 h13 h14 h15 h16 h17 h18 h19 v0_1 v0_2 v0_3 v0_4 v0_5 v0_6 v0_7 v0_8 v0_9 v0_11 v0_20 v0_24 v0_25 o67 depth0 o47 o48 o49 o50 basic1 classAxles2 classPercent3 history4 linkFrom5 linkMinutes6 linkPrice7 linkTo8 o51 o52 o53 o54 o55 o56 state15 tagAxles16 tagPlate17 o57 o58) (pm_k [true, false, false, false, false, false, false, false, false, false, false, false, false, false, false, false, false, false, false, false] rfl rfl (fun _ => Nat.le_of_ble_eq_true rfl) (fun _ => rfl)) (c_X10_fail l g F h0 v0_1 v0_2 v0_3 v0_4 v0_5 v0_6 v0_7 v0_8 v0_9 (.ref h1) v0_11 (.ref h5) (.ref h8) (.ref h6) (.ref h7) (.ref h2) (.ref h3) (.ref h17) (.ref h16) v0_20 (.ref h15) (.ref h4) (.int depth0) v0_24 v0_25 (.int o47) (.int o48) (.ref h14) (.ref h18) (.ref h11) (.ref h9) (.ref h10) (.ref h12) (.ref h13) (.ref h19) (.int o49) (.int o50) 2 0 r66 o67 _ hc68) k_X10_202 (rm_le (by decide) (by decide)) 0 10 rfl rfl rfl rfl hl.1 rfl (Nat.le_of_ble_eq_true rfl) dX10_bill_55 ⟨Nat.le_of_ble_eq_true rfl, Nat.le_of_ble_eq_true rfl⟩ (cells2 := 0) (slots2 := 0) ⟨rfl, rfl⟩ (fun _ H locs w => ?_)
        obtain ⟨e1, e2, e3, e4, e5, e6, e7, e8, e9, e10, e11, e12, e13, e14, e15, e16, e17⟩ := tp17 hf
        rw [hQ]
        exact rt_i C w rfl (fun _ => 0) (by rw [← e2, ← e3, ← e4, ← e5, ← e6, ← e7, ← e8, ← e9, ← e10, ← e11, ← e12, ← e13, ← e14, ← e15, ← e16, ← e17]) e1 dX10_bill_58
    · replace hf := it_t c60 hf
      refine lv_iconst (v := 0) hx hb dX10_bill_35 (by decide) ?_
      obtain ⟨e1, e2, e3, e4, e5, e6, e7, e8, e9, e10, e11, e12, e13, e14, e15, e16, e17⟩ := tp17 hf
      rw [hQ]
      exact rt_i C w rfl (fun _ => 0) (by rw [← e2, ← e3, ← e4, ← e5, ← e6, ← e7, ← e8, ← e9, ← e10, ← e11, ← e12, ← e13, ← e14, ← e15, ← e16, ← e17]) e1 dX10_bill_36
  · replace hf := it_t c46 hf
    refine lv_aload_n hx hb dX10_bill_17 rfl (lv_at hl 0 rfl) ?_
    refine lv_iconst (v := 1) hx hb dX10_bill_18 (by decide) ?_
    obtain ⟨r69, o70, hc71, hf⟩ := bd2_some hf
    refine ca_iV C w (wn := fun _ => w_X10_bill g h0 h1 h2 h3 h4 h5 h6 h7 h8 h9 h10 h11 h12 h13 h14 h15 h16 h17 h18 h19 v0_1 v0_2 v0_3 v0_4 v0_5 v0_6 v0_7 v0_8 v0_9 v0_11 v0_20 v0_24 v0_25 o70 depth0 routeMany0 routeCost0 newTrips0 newInvoices0 basic1 classAxles2 classPercent3 history4 linkFrom5 linkMinutes6 linkPrice7 linkTo8 newAmount9 newClass10 newInvoice11 newPassages12 newVehicle13 route14 state15 tagAxles16 tagPlate17 tried18 tripFor19) (pm_k [true, false, false, false, false, false, false, false, false, false, false, false, false, false, false, false, false, false, false, false] rfl rfl (fun _ => Nat.le_of_ble_eq_true rfl) (fun _ => rfl)) (c_X10_fail l g F h0 v0_1 v0_2 v0_3 v0_4 v0_5 v0_6 v0_7 v0_8 v0_9 (.ref h1) v0_11 (.ref h5) (.ref h8) (.ref h6) (.ref h7) (.ref h2) (.ref h3) (.ref h17) (.ref h16) v0_20 (.ref h15) (.ref h4) (.int depth0) v0_24 v0_25 (.int routeMany0) (.int routeCost0) (.ref h14) (.ref h18) (.ref h11) (.ref h9) (.ref h10) (.ref h12) (.ref h13) (.ref h19) (.int newTrips0) (.int newInvoices0) 1 0 r69 o70 _ hc71) k_X10_202 (rm_le (by decide) (by decide)) 0 10 rfl rfl rfl rfl hl.1 rfl (Nat.le_of_ble_eq_true rfl) dX10_bill_19 ⟨Nat.le_of_ble_eq_true rfl, Nat.le_of_ble_eq_true rfl⟩ (cells2 := 0) (slots2 := 0) ⟨rfl, rfl⟩ (fun _ H locs w => ?_)
    obtain ⟨e1, e2, e3, e4, e5, e6, e7, e8, e9, e10, e11, e12, e13, e14, e15, e16, e17⟩ := tp17 hf
    rw [hQ]
    exact rt_i C w rfl (fun _ => 0) (by rw [← e2, ← e3, ← e4, ← e5, ← e6, ← e7, ← e8, ← e9, ← e10, ← e11, ← e12, ← e13, ← e14, ← e15, ← e16, ← e17]) e1 dX10_bill_22

theorem dX10_pay_0 : decode cX10_pay 0 = .ok (.aload_n 0, 1) := by decide +kernel
theorem dX10_pay_1 : decode cX10_pay 1 = .ok (.iconst 0, 1) := by decide +kernel
theorem dX10_pay_2 : decode cX10_pay 2 = .ok (.putfield 84, 3) := by decide +kernel
theorem dX10_pay_5 : decode cX10_pay 5 = .ok (.aload_n 0, 1) := by decide +kernel
theorem dX10_pay_6 : decode cX10_pay 6 = .ok (.iload_n 1, 1) := by decide +kernel
theorem dX10_pay_7 : decode cX10_pay 7 = .ok (.invokevirtual 325, 3) := by decide +kernel
theorem dX10_pay_10 : decode cX10_pay 10 = .ok (.ifCond .ne 9, 3) := by decide +kernel
theorem dX10_pay_13 : decode cX10_pay 13 = .ok (.aload_n 0, 1) := by decide +kernel
theorem dX10_pay_14 : decode cX10_pay 14 = .ok (.iconst 1, 1) := by decide +kernel
theorem dX10_pay_15 : decode cX10_pay 15 = .ok (.invokevirtual 202, 3) := by decide +kernel
theorem dX10_pay_18 : decode cX10_pay 18 = .ok (.ireturn, 1) := by decide +kernel
theorem dX10_pay_19 : decode cX10_pay 19 = .ok (.iload_n 2, 1) := by decide +kernel
theorem dX10_pay_20 : decode cX10_pay 20 = .ok (.i2l, 1) := by decide +kernel
theorem dX10_pay_21 : decode cX10_pay 21 = .ok (.lconst 1, 1) := by decide +kernel
theorem dX10_pay_22 : decode cX10_pay 22 = .ok (.ldc2_w 365, 3) := by decide +kernel
theorem dX10_pay_25 : decode cX10_pay 25 = .ok (.invokestatic 115, 3) := by decide +kernel
theorem dX10_pay_28 : decode cX10_pay 28 = .ok (.ifCond .ne 9, 3) := by decide +kernel
theorem dX10_pay_31 : decode cX10_pay 31 = .ok (.aload_n 0, 1) := by decide +kernel
theorem dX10_pay_32 : decode cX10_pay 32 = .ok (.iconst 2, 1) := by decide +kernel
theorem dX10_pay_33 : decode cX10_pay 33 = .ok (.invokevirtual 202, 3) := by decide +kernel
theorem dX10_pay_36 : decode cX10_pay 36 = .ok (.ireturn, 1) := by decide +kernel
theorem dX10_pay_37 : decode cX10_pay 37 = .ok (.aload_n 0, 1) := by decide +kernel
theorem dX10_pay_38 : decode cX10_pay 38 = .ok (.invokevirtual 343, 3) := by decide +kernel
theorem dX10_pay_41 : decode cX10_pay 41 = .ok (.aload_n 0, 1) := by decide +kernel
theorem dX10_pay_42 : decode cX10_pay 42 = .ok (.getfield 44, 3) := by decide +kernel
theorem dX10_pay_45 : decode cX10_pay 45 = .ok (.sipush 2404, 3) := by decide +kernel
theorem dX10_pay_48 : decode cX10_pay 48 = .ok (.iconst 3, 1) := by decide +kernel
theorem dX10_pay_49 : decode cX10_pay 49 = .ok (.iload_n 1, 1) := by decide +kernel
theorem dX10_pay_50 : decode cX10_pay 50 = .ok (.imul, 1) := by decide +kernel
theorem dX10_pay_51 : decode cX10_pay 51 = .ok (.iadd, 1) := by decide +kernel
theorem dX10_pay_52 : decode cX10_pay 52 = .ok (.iconst 2, 1) := by decide +kernel
theorem dX10_pay_53 : decode cX10_pay 53 = .ok (.iadd, 1) := by decide +kernel
theorem dX10_pay_54 : decode cX10_pay 54 = .ok (.dup2, 1) := by decide +kernel
theorem dX10_pay_55 : decode cX10_pay 55 = .ok (.iaload, 1) := by decide +kernel
theorem dX10_pay_56 : decode cX10_pay 56 = .ok (.iload_n 2, 1) := by decide +kernel
theorem dX10_pay_57 : decode cX10_pay 57 = .ok (.iadd, 1) := by decide +kernel
theorem dX10_pay_58 : decode cX10_pay 58 = .ok (.iastore, 1) := by decide +kernel
theorem dX10_pay_59 : decode cX10_pay 59 = .ok (.aload_n 0, 1) := by decide +kernel
theorem dX10_pay_60 : decode cX10_pay 60 = .ok (.iload_n 1, 1) := by decide +kernel
theorem dX10_pay_61 : decode cX10_pay 61 = .ok (.invokevirtual 334, 3) := by decide +kernel
theorem dX10_pay_64 : decode cX10_pay 64 = .ok (.ireturn, 1) := by decide +kernel
abbrev m_X10_pay : MD := (yX10_pay, cX10_pay, 3, (some .int))
theorem q_1754 : Cond.constantLong RX10 365 100000 ∈ TS := ts_t 1754 (by decide +kernel) (by decide +kernel)
abbrev w_X10_pay (g : GT) (h0 h1 h2 h3 : Nat) (v0_1 v0_2 v0_3 v0_4 v0_5 v0_6 v0_7 v0_8 v0_9 v0_11 v0_12 v0_13 v0_14 v0_15 v0_16 v0_17 v0_18 v0_19 v0_20 v0_24 v0_25 v0_26 v0_27 v0_28 v0_29 v0_30 v0_31 v0_32 v0_33 v0_34 v0_35 v0_36 v0_37 : Value) (thrown0 depth0 : Int32) (basic1 history2 state3 : Nat → Int32) : va_W := [(h0, .inr (10, [.int thrown0, v0_1, v0_2, v0_3, v0_4, v0_5, v0_6, v0_7, v0_8, v0_9, .ref h1, v0_11, v0_12, v0_13, v0_14, v0_15, v0_16, v0_17, v0_18, v0_19, v0_20, .ref h3, .ref h2, .int depth0, v0_24, v0_25, v0_26, v0_27, v0_28, v0_29, v0_30, v0_31, v0_32, v0_33, v0_34, v0_35, v0_36, v0_37])), (h1, aI g 7 basic1), (h2, aI g 25240 history2), (h3, aI g 2524 state3)]
def f_X10_pay (F : Nat) (p1 p2 thrown0 depth0 : Int32) (basic1 history2 state3 : Nat → Int32) : Option (Int32 × Int32 × Int32 × (Nat → Int32) × (Nat → Int32)) :=
  bd1 (f_X10_isInvoice F p1 state3) fun r1 =>
  if r1 = 0 then
    bd2 (f_X10_fail F 1 0) fun r17 o18 =>
    some (r17, o18, depth0, history2, state3)
  else
    bd1 (f_X10_within F p2.toInt64 1 100000) fun r4 =>
    if r4 = 0 then
      bd2 (f_X10_fail F 2 0) fun r14 o15 =>
      some (r14, o15, depth0, history2, state3)
    else
      bd2 (f_X10_keep F depth0 history2 state3) fun o7 o8 =>
      rd state3 2524 ((2404 + (3 * p1)) + 2) fun a10 =>
      wr state3 2524 ((2404 + (3 * p1)) + 2) (a10 + p2) fun f11 =>
      bd1 (f_X10_balanceOf F p1 basic1 f11) fun r12 =>
      some (r12, 0, o7, o8, f11)
set_option maxHeartbeats 4000000 in
set_option maxRecDepth 100000 in
theorem c_X10_pay (l : Launch) (g : GT) (F : Nat) (h0 h1 h2 h3 : Nat) (v0_1 v0_2 v0_3 v0_4 v0_5 v0_6 v0_7 v0_8 v0_9 v0_11 v0_12 v0_13 v0_14 v0_15 v0_16 v0_17 v0_18 v0_19 v0_20 v0_24 v0_25 v0_26 v0_27 v0_28 v0_29 v0_30 v0_31 v0_32 v0_33 v0_34 v0_35 v0_36 v0_37 : Value) (p1 p2 thrown0 depth0 : Int32) (basic1 history2 state3 : Nat → Int32) (r o_thrown0 o_depth0 : Int32) (o_history2 o_state3 : Nat → Int32) (sz : Nat) (hf : f_X10_pay F p1 p2 thrown0 depth0 basic1 history2 state3 = some (r, o_thrown0, o_depth0, o_history2, o_state3)) : CI l m_X10_pay (rml 3 0 0) g (w_X10_pay g h0 h1 h2 h3 v0_1 v0_2 v0_3 v0_4 v0_5 v0_6 v0_7 v0_8 v0_9 v0_11 v0_12 v0_13 v0_14 v0_15 v0_16 v0_17 v0_18 v0_19 v0_20 v0_24 v0_25 v0_26 v0_27 v0_28 v0_29 v0_30 v0_31 v0_32 v0_33 v0_34 v0_35 v0_36 v0_37 thrown0 depth0 basic1 history2 state3) (fun _ => w_X10_pay g h0 h1 h2 h3 v0_1 v0_2 v0_3 v0_4 v0_5 v0_6 v0_7 v0_8 v0_9 v0_11 v0_12 v0_13 v0_14 v0_15 v0_16 v0_17 v0_18 v0_19 v0_20 v0_24 v0_25 v0_26 v0_27 v0_28 v0_29 v0_30 v0_31 v0_32 v0_33 v0_34 v0_35 v0_36 v0_37 o_thrown0 o_depth0 basic1 o_history2 o_state3) sz [.ref h0, .int p1, .int p2] r := by
  refine en_i (by decide) (Nat.le_of_ble_eq_true rfl) (fun p e s m args below meth c A ls C w hl => ?_)
  have C : Cx p s m args meth c RX10 m_X10_pay g A := C
  have hx := C.1
  have hb : c.code = cX10_pay := C.2.1
  have hl : lv_has ls 3 [(0, .ref h0), (1, .int p1), (2, .int p2)] := hl
  obtain ⟨Q, hQ⟩ : ∃ Q, Q = QI below args s g A (fun _ => w_X10_pay g h0 h1 h2 h3 v0_1 v0_2 v0_3 v0_4 v0_5 v0_6 v0_7 v0_8 v0_9 v0_11 v0_12 v0_13 v0_14 v0_15 v0_16 v0_17 v0_18 v0_19 v0_20 v0_24 v0_25 v0_26 v0_27 v0_28 v0_29 v0_30 v0_31 v0_32 v0_33 v0_34 v0_35 v0_36 v0_37 o_thrown0 o_depth0 basic1 o_history2 o_state3) r 0 0 := ⟨_, rfl⟩
  suffices hW : W p l e (rml 3 0 0) s m args below meth c s.heap [] 0 0 Q (F0 m 0 ls []) from (by rw [hQ] at hW; exact hW)
  unfold f_X10_pay at hf
  refine lv_aload_n hx hb dX10_pay_0 rfl (lv_at hl 0 rfl) ?_
  refine lv_iconst (v := 0) hx hb dX10_pay_1 (by decide) ?_
  refine p_X10_84 C w 0 rfl (Nat.le_of_ble_eq_true rfl) (ws2 := w_X10_pay g h0 h1 h2 h3 v0_1 v0_2 v0_3 v0_4 v0_5 v0_6 v0_7 v0_8 v0_9 v0_11 v0_12 v0_13 v0_14 v0_15 v0_16 v0_17 v0_18 v0_19 v0_20 v0_24 v0_25 v0_26 v0_27 v0_28 v0_29 v0_30 v0_31 v0_32 v0_33 v0_34 v0_35 v0_36 v0_37 0 depth0 basic1 history2 state3) rfl dX10_pay_2 (fun H locs w => ?_)
  refine lv_aload_n hx hb dX10_pay_5 rfl (lv_at hl 0 rfl) ?_
  refine lv_iload_n hx hb dX10_pay_6 rfl (lv_at hl 1 rfl) ?_
  obtain ⟨r1, hc2, hf⟩ := bd1_some hf
  refine ca_iV C w (wn := fun _ => w_X10_pay g h0 h1 h2 h3 v0_1 v0_2 v0_3 v0_4 v0_5 v0_6 v0_7 v0_8 v0_9 v0_11 v0_12 v0_13 v0_14 v0_15 v0_16 v0_17 v0_18 v0_19 v0_20 v0_24 v0_25 v0_26 v0_27 v0_28 v0_29 v0_30 v0_31 v0_32 v0_33 v0_34 v0_35 v0_36 v0_37 0 depth0 basic1 history2 state3) (pm_k [true, false, false, true] rfl rfl (fun _ => Nat.le_of_ble_eq_true rfl) (fun _ => rfl)) (c_X10_isInvoice l g F h0 h3 (.int 0) v0_1 v0_2 v0_3 v0_4 v0_5 v0_6 v0_7 v0_8 v0_9 (.ref h1) v0_11 v0_12 v0_13 v0_14 v0_15 v0_16 v0_17 v0_18 v0_19 v0_20 (.ref h2) (.int depth0) v0_24 v0_25 v0_26 v0_27 v0_28 v0_29 v0_30 v0_31 v0_32 v0_33 v0_34 v0_35 v0_36 v0_37 p1 state3 r1 _ hc2) k_X10_325 (rm_le (by decide) (by decide)) 0 10 rfl rfl rfl rfl hl.1 rfl (Nat.le_of_ble_eq_true rfl) dX10_pay_7 ⟨Nat.le_of_ble_eq_true rfl, Nat.le_of_ble_eq_true rfl⟩ (cells2 := 0) (slots2 := 0) ⟨rfl, rfl⟩ (fun _ H locs w => ?_)
  refine lv_if_ne (tgt := 19) hx hb dX10_pay_10 (by decide) (fun c3 => ?_) (fun c3 => ?_)
  · replace hf := it_f c3 hf
    refine lv_iload_n hx hb dX10_pay_19 rfl (lv_at hl 2 rfl) ?_
    refine lv_i2l (v := p2.toInt64) hx hb dX10_pay_20 rfl ?_
    refine lv_lconst (v := 1) hx hb dX10_pay_21 (by decide) ?_
    refine lv_ldc2 (v := 100000) hx hb C.2.2.2.1 (C.2.2.2.2.1 _ q_1754) dX10_pay_22 ?_
    obtain ⟨r4, hc5, hf⟩ := bd1_some hf
    refine ca_iS C w (wn := fun _ => w_X10_pay g h0 h1 h2 h3 v0_1 v0_2 v0_3 v0_4 v0_5 v0_6 v0_7 v0_8 v0_9 v0_11 v0_12 v0_13 v0_14 v0_15 v0_16 v0_17 v0_18 v0_19 v0_20 v0_24 v0_25 v0_26 v0_27 v0_28 v0_29 v0_30 v0_31 v0_32 v0_33 v0_34 v0_35 v0_36 v0_37 0 depth0 basic1 history2 state3) (pm_k [false, false, false, false] rfl rfl (fun _ => Nat.le_of_ble_eq_true rfl) (fun _ => rfl)) (c_X10_within l g F p2.toInt64 1 100000 r4 _ hc5) k_X10_115 (rm_le (by decide) (by decide)) rfl hl.1 rfl (Nat.le_of_ble_eq_true rfl) dX10_pay_25 ⟨Nat.le_of_ble_eq_true rfl, Nat.le_of_ble_eq_true rfl⟩ (cells2 := 0) (slots2 := 0) ⟨rfl, rfl⟩ (fun _ H locs w => ?_)
    refine lv_if_ne (tgt := 37) hx hb dX10_pay_28 (by decide) (fun c6 => ?_) (fun c6 => ?_)
    · replace hf := it_f c6 hf
      refine lv_aload_n hx hb dX10_pay_37 rfl (lv_at hl 0 rfl) ?_
      obtain ⟨o7, o8, hc9, hf⟩ := bd2_some hf
      refine ca_vV C w (wn := fun _ => w_X10_pay g h0 h1 h2 h3 v0_1 v0_2 v0_3 v0_4 v0_5 v0_6 v0_7 v0_8 v0_9 v0_11 v0_12 v0_13 v0_14 v0_15 v0_16 v0_17 v0_18 v0_19 v0_20 v0_24 v0_25 v0_26 v0_27 v0_28 v0_29 v0_30 v0_31 v0_32 v0_33 v0_34 v0_35 v0_36 v0_37 0 o7 basic1 o8 state3) (pm_k [true, false, true, true] rfl rfl (fun _ => Nat.le_of_ble_eq_true rfl) (fun _ => rfl)) (c_X10_keep l g F h0 h2 h3 (.int 0) v0_1 v0_2 v0_3 v0_4 v0_5 v0_6 v0_7 v0_8 v0_9 (.ref h1) v0_11 v0_12 v0_13 v0_14 v0_15 v0_16 v0_17 v0_18 v0_19 v0_20 v0_24 v0_25 v0_26 v0_27 v0_28 v0_29 v0_30 v0_31 v0_32 v0_33 v0_34 v0_35 v0_36 v0_37 depth0 history2 state3 o7 o8 _ hc9) k_X10_343 (rm_le (by decide) (by decide)) 0 10 rfl rfl rfl rfl hl.1 rfl (Nat.le_of_ble_eq_true rfl) dX10_pay_38 ⟨Nat.le_of_ble_eq_true rfl, Nat.le_of_ble_eq_true rfl⟩ (cells2 := 0) (slots2 := 0) ⟨rfl, rfl⟩ (fun _ H locs w => ?_)
      refine lv_aload_n hx hb dX10_pay_41 rfl (lv_at hl 0 rfl) ?_
      refine g_X10_44 C w 0 rfl rfl dX10_pay_42 ?_
      refine lv_sipush (v := 2404) hx hb dX10_pay_45 (by decide) ?_
      refine lv_iconst (v := 3) hx hb dX10_pay_48 (by decide) ?_
      refine lv_iload_n hx hb dX10_pay_49 rfl (lv_at hl 1 rfl) ?_
      refine lv_imul hx hb dX10_pay_50 ?_
      refine lv_iadd hx hb dX10_pay_51 ?_
      refine lv_iconst (v := 2) hx hb dX10_pay_52 (by decide) ?_
      refine lv_iadd hx hb dX10_pay_53 ?_
      refine lv_dup2_11 hx hb dX10_pay_54 rfl rfl ?_
      obtain ⟨a10, hia10, haa10, hf⟩ := rd_some hf
      refine ial C w 3 rfl hia10 haa10 dX10_pay_55 ?_
      refine lv_iload_n hx hb dX10_pay_56 rfl (lv_at hl 2 rfl) ?_
      refine lv_iadd hx hb dX10_pay_57 ?_
      obtain ⟨f11, hif11, haf11, hf⟩ := wr_some hf
      refine ias C w 3 rfl hif11 haf11 (ws2 := w_X10_pay g h0 h1 h2 h3 v0_1 v0_2 v0_3 v0_4 v0_5 v0_6 v0_7 v0_8 v0_9 v0_11 v0_12 v0_13 v0_14 v0_15 v0_16 v0_17 v0_18 v0_19 v0_20 v0_24 v0_25 v0_26 v0_27 v0_28 v0_29 v0_30 v0_31 v0_32 v0_33 v0_34 v0_35 v0_36 v0_37 0 o7 basic1 o8 f11) rfl dX10_pay_58 (fun H locs w => ?_)
      refine lv_aload_n hx hb dX10_pay_59 rfl (lv_at hl 0 rfl) ?_
      refine lv_iload_n hx hb dX10_pay_60 rfl (lv_at hl 1 rfl) ?_
      obtain ⟨r12, hc13, hf⟩ := bd1_some hf
      refine ca_iV C w (wn := fun _ => w_X10_pay g h0 h1 h2 h3 v0_1 v0_2 v0_3 v0_4 v0_5 v0_6 v0_7 v0_8 v0_9 v0_11 v0_12 v0_13 v0_14 v0_15 v0_16 v0_17 v0_18 v0_19 v0_20 v0_24 v0_25 v0_26 v0_27 v0_28 v0_29 v0_30 v0_31 v0_32 v0_33 v0_34 v0_35 v0_36 v0_37 0 o7 basic1 o8 f11) (pm_k [true, true, false, true] rfl rfl (fun _ => Nat.le_of_ble_eq_true rfl) (fun _ => rfl)) (c_X10_balanceOf l g F h0 h1 h3 (.int 0) v0_1 v0_2 v0_3 v0_4 v0_5 v0_6 v0_7 v0_8 v0_9 v0_11 v0_12 v0_13 v0_14 v0_15 v0_16 v0_17 v0_18 v0_19 v0_20 (.ref h2) (.int o7) v0_24 v0_25 v0_26 v0_27 v0_28 v0_29 v0_30 v0_31 v0_32 v0_33 v0_34 v0_35 v0_36 v0_37 p1 basic1 f11 r12 _ hc13) k_X10_334 (rm_le (by decide) (by decide)) 0 10 rfl rfl rfl rfl hl.1 rfl (Nat.le_of_ble_eq_true rfl) dX10_pay_61 ⟨Nat.le_of_ble_eq_true rfl, Nat.le_of_ble_eq_true rfl⟩ (cells2 := 0) (slots2 := 0) ⟨rfl, rfl⟩ (fun _ H locs w => ?_)
      obtain ⟨e1, e2, e3, e4, e5⟩ := tp5 hf
      rw [hQ]
      exact rt_i C w rfl (fun _ => 0) (by rw [← e2, ← e3, ← e4, ← e5]) e1 dX10_pay_64
    · replace hf := it_t c6 hf
      refine lv_aload_n hx hb dX10_pay_31 rfl (lv_at hl 0 rfl) ?_
      refine lv_iconst (v := 2) hx hb dX10_pay_32 (by decide) ?_
      obtain ⟨r14, o15, hc16, hf⟩ := bd2_some hf
      refine ca_iV C w (wn := fun _ => w_X10_pay g h0 h1 h2 h3 v0_1 v0_2 v0_3 v0_4 v0_5 v0_6 v0_7 v0_8 v0_9 v0_11 v0_12 v0_13 v0_14 v0_15 v0_16 v0_17 v0_18 v0_19 v0_20 v0_24 v0_25 v0_26 v0_27 v0_28 v0_29 v0_30 v0_31 v0_32 v0_33 v0_34 v0_35 v0_36 v0_37 o15 depth0 basic1 history2 state3) (pm_k [true, false, false, false] rfl rfl (fun _ => Nat.le_of_ble_eq_true rfl) (fun _ => rfl)) (c_X10_fail l g F h0 v0_1 v0_2 v0_3 v0_4 v0_5 v0_6 v0_7 v0_8 v0_9 (.ref h1) v0_11 v0_12 v0_13 v0_14 v0_15 v0_16 v0_17 v0_18 v0_19 v0_20 (.ref h3) (.ref h2) (.int depth0) v0_24 v0_25 v0_26 v0_27 v0_28 v0_29 v0_30 v0_31 v0_32 v0_33 v0_34 v0_35 v0_36 v0_37 2 0 r14 o15 _ hc16) k_X10_202 (rm_le (by decide) (by decide)) 0 10 rfl rfl rfl rfl hl.1 rfl (Nat.le_of_ble_eq_true rfl) dX10_pay_33 ⟨Nat.le_of_ble_eq_true rfl, Nat.le_of_ble_eq_true rfl⟩ (cells2 := 0) (slots2 := 0) ⟨rfl, rfl⟩ (fun _ H locs w => ?_)
      obtain ⟨e1, e2, e3, e4, e5⟩ := tp5 hf
      rw [hQ]
      exact rt_i C w rfl (fun _ => 0) (by rw [← e2, ← e3, ← e4, ← e5]) e1 dX10_pay_36
  · replace hf := it_t c3 hf
    refine lv_aload_n hx hb dX10_pay_13 rfl (lv_at hl 0 rfl) ?_
    refine lv_iconst (v := 1) hx hb dX10_pay_14 (by decide) ?_
    obtain ⟨r17, o18, hc19, hf⟩ := bd2_some hf
    refine ca_iV C w (wn := fun _ => w_X10_pay g h0 h1 h2 h3 v0_1 v0_2 v0_3 v0_4 v0_5 v0_6 v0_7 v0_8 v0_9 v0_11 v0_12 v0_13 v0_14 v0_15 v0_16 v0_17 v0_18 v0_19 v0_20 v0_24 v0_25 v0_26 v0_27 v0_28 v0_29 v0_30 v0_31 v0_32 v0_33 v0_34 v0_35 v0_36 v0_37 o18 depth0 basic1 history2 state3) (pm_k [true, false, false, false] rfl rfl (fun _ => Nat.le_of_ble_eq_true rfl) (fun _ => rfl)) (c_X10_fail l g F h0 v0_1 v0_2 v0_3 v0_4 v0_5 v0_6 v0_7 v0_8 v0_9 (.ref h1) v0_11 v0_12 v0_13 v0_14 v0_15 v0_16 v0_17 v0_18 v0_19 v0_20 (.ref h3) (.ref h2) (.int depth0) v0_24 v0_25 v0_26 v0_27 v0_28 v0_29 v0_30 v0_31 v0_32 v0_33 v0_34 v0_35 v0_36 v0_37 1 0 r17 o18 _ hc19) k_X10_202 (rm_le (by decide) (by decide)) 0 10 rfl rfl rfl rfl hl.1 rfl (Nat.le_of_ble_eq_true rfl) dX10_pay_15 ⟨Nat.le_of_ble_eq_true rfl, Nat.le_of_ble_eq_true rfl⟩ (cells2 := 0) (slots2 := 0) ⟨rfl, rfl⟩ (fun _ H locs w => ?_)
    obtain ⟨e1, e2, e3, e4, e5⟩ := tp5 hf
    rw [hQ]
    exact rt_i C w rfl (fun _ => 0) (by rw [← e2, ← e3, ← e4, ← e5]) e1 dX10_pay_18

theorem dX10_dispute_0 : decode cX10_dispute 0 = .ok (.aload_n 0, 1) := by decide +kernel
theorem dX10_dispute_1 : decode cX10_dispute 1 = .ok (.iconst 0, 1) := by decide +kernel
theorem dX10_dispute_2 : decode cX10_dispute 2 = .ok (.putfield 84, 3) := by decide +kernel
theorem dX10_dispute_5 : decode cX10_dispute 5 = .ok (.aload_n 0, 1) := by decide +kernel
theorem dX10_dispute_6 : decode cX10_dispute 6 = .ok (.iload_n 1, 1) := by decide +kernel
theorem dX10_dispute_7 : decode cX10_dispute 7 = .ok (.invokevirtual 316, 3) := by decide +kernel
theorem dX10_dispute_10 : decode cX10_dispute 10 = .ok (.ifCond .ne 9, 3) := by decide +kernel
theorem dX10_dispute_13 : decode cX10_dispute 13 = .ok (.aload_n 0, 1) := by decide +kernel
theorem dX10_dispute_14 : decode cX10_dispute 14 = .ok (.iconst 1, 1) := by decide +kernel
theorem dX10_dispute_15 : decode cX10_dispute 15 = .ok (.invokevirtual 202, 3) := by decide +kernel
theorem dX10_dispute_18 : decode cX10_dispute 18 = .ok (.ireturn, 1) := by decide +kernel
theorem dX10_dispute_19 : decode cX10_dispute 19 = .ok (.aload_n 0, 1) := by decide +kernel
theorem dX10_dispute_20 : decode cX10_dispute 20 = .ok (.iload_n 1, 1) := by decide +kernel
theorem dX10_dispute_21 : decode cX10_dispute 21 = .ok (.iconst 4, 1) := by decide +kernel
theorem dX10_dispute_22 : decode cX10_dispute 22 = .ok (.invokevirtual 319, 3) := by decide +kernel
theorem dX10_dispute_25 : decode cX10_dispute 25 = .ok (.ifCond .eq 9, 3) := by decide +kernel
theorem dX10_dispute_28 : decode cX10_dispute 28 = .ok (.aload_n 0, 1) := by decide +kernel
theorem dX10_dispute_29 : decode cX10_dispute 29 = .ok (.iconst 2, 1) := by decide +kernel
theorem dX10_dispute_30 : decode cX10_dispute 30 = .ok (.invokevirtual 202, 3) := by decide +kernel
theorem dX10_dispute_33 : decode cX10_dispute 33 = .ok (.ireturn, 1) := by decide +kernel
theorem dX10_dispute_34 : decode cX10_dispute 34 = .ok (.aload_n 0, 1) := by decide +kernel
theorem dX10_dispute_35 : decode cX10_dispute 35 = .ok (.invokevirtual 343, 3) := by decide +kernel
theorem dX10_dispute_38 : decode cX10_dispute 38 = .ok (.aload_n 0, 1) := by decide +kernel
theorem dX10_dispute_39 : decode cX10_dispute 39 = .ok (.getfield 44, 3) := by decide +kernel
theorem dX10_dispute_42 : decode cX10_dispute 42 = .ok (.sipush 2004, 3) := by decide +kernel
theorem dX10_dispute_45 : decode cX10_dispute 45 = .ok (.iconst 5, 1) := by decide +kernel
theorem dX10_dispute_46 : decode cX10_dispute 46 = .ok (.iload_n 1, 1) := by decide +kernel
theorem dX10_dispute_47 : decode cX10_dispute 47 = .ok (.imul, 1) := by decide +kernel
theorem dX10_dispute_48 : decode cX10_dispute 48 = .ok (.iadd, 1) := by decide +kernel
theorem dX10_dispute_49 : decode cX10_dispute 49 = .ok (.iconst 4, 1) := by decide +kernel
theorem dX10_dispute_50 : decode cX10_dispute 50 = .ok (.iadd, 1) := by decide +kernel
theorem dX10_dispute_51 : decode cX10_dispute 51 = .ok (.iconst 1, 1) := by decide +kernel
theorem dX10_dispute_52 : decode cX10_dispute 52 = .ok (.iastore, 1) := by decide +kernel
theorem dX10_dispute_53 : decode cX10_dispute 53 = .ok (.iconst 0, 1) := by decide +kernel
theorem dX10_dispute_54 : decode cX10_dispute 54 = .ok (.istore_n 2, 1) := by decide +kernel
theorem dX10_dispute_55 : decode cX10_dispute 55 = .ok (.iconst 0, 1) := by decide +kernel
theorem dX10_dispute_56 : decode cX10_dispute 56 = .ok (.istore_n 3, 1) := by decide +kernel
theorem dX10_dispute_57 : decode cX10_dispute 57 = .ok (.iload_n 3, 1) := by decide +kernel
theorem dX10_dispute_58 : decode cX10_dispute 58 = .ok (.aload_n 0, 1) := by decide +kernel
theorem dX10_dispute_59 : decode cX10_dispute 59 = .ok (.getfield 44, 3) := by decide +kernel
theorem dX10_dispute_62 : decode cX10_dispute 62 = .ok (.iconst 1, 1) := by decide +kernel
theorem dX10_dispute_63 : decode cX10_dispute 63 = .ok (.iaload, 1) := by decide +kernel
theorem dX10_dispute_64 : decode cX10_dispute 64 = .ok (.if_icmp .ge 27, 3) := by decide +kernel
theorem dX10_dispute_67 : decode cX10_dispute 67 = .ok (.iload_n 2, 1) := by decide +kernel
theorem dX10_dispute_68 : decode cX10_dispute 68 = .ok (.aload_n 0, 1) := by decide +kernel
theorem dX10_dispute_69 : decode cX10_dispute 69 = .ok (.iload_n 3, 1) := by decide +kernel
theorem dX10_dispute_70 : decode cX10_dispute 70 = .ok (.iconst 4, 1) := by decide +kernel
theorem dX10_dispute_71 : decode cX10_dispute 71 = .ok (.invokevirtual 319, 3) := by decide +kernel
theorem dX10_dispute_74 : decode cX10_dispute 74 = .ok (.iconst 1, 1) := by decide +kernel
theorem dX10_dispute_75 : decode cX10_dispute 75 = .ok (.if_icmp .ne 7, 3) := by decide +kernel
theorem dX10_dispute_78 : decode cX10_dispute 78 = .ok (.iconst 1, 1) := by decide +kernel
theorem dX10_dispute_79 : decode cX10_dispute 79 = .ok (.goto 4, 3) := by decide +kernel
theorem dX10_dispute_82 : decode cX10_dispute 82 = .ok (.iconst 0, 1) := by decide +kernel
theorem dX10_dispute_83 : decode cX10_dispute 83 = .ok (.iadd, 1) := by decide +kernel
theorem dX10_dispute_84 : decode cX10_dispute 84 = .ok (.istore_n 2, 1) := by decide +kernel
theorem dX10_dispute_85 : decode cX10_dispute 85 = .ok (.iinc 3 1, 3) := by decide +kernel
theorem dX10_dispute_88 : decode cX10_dispute 88 = .ok (.goto (-31), 3) := by decide +kernel
theorem dX10_dispute_91 : decode cX10_dispute 91 = .ok (.iload_n 2, 1) := by decide +kernel
theorem dX10_dispute_92 : decode cX10_dispute 92 = .ok (.ireturn, 1) := by decide +kernel
abbrev m_X10_dispute : MD := (yX10_dispute, cX10_dispute, 4, (some .int))

abbrev w_X10_dispute (g : GT) (h0 h1 h2 : Nat) (v0_1 v0_2 v0_3 v0_4 v0_5 v0_6 v0_7 v0_8 v0_9 v0_10 v0_11 v0_12 v0_13 v0_14 v0_15 v0_16 v0_17 v0_18 v0_19 v0_20 v0_24 v0_25 v0_26 v0_27 v0_28 v0_29 v0_30 v0_31 v0_32 v0_33 v0_34 v0_35 v0_36 v0_37 : Value) (thrown0 depth0 : Int32) (history1 state2 : Nat → Int32) : va_W := [(h0, .inr (10, [.int thrown0, v0_1, v0_2, v0_3, v0_4, v0_5, v0_6, v0_7, v0_8, v0_9, v0_10, v0_11, v0_12, v0_13, v0_14, v0_15, v0_16, v0_17, v0_18, v0_19, v0_20, .ref h2, .ref h1, .int depth0, v0_24, v0_25, v0_26, v0_27, v0_28, v0_29, v0_30, v0_31, v0_32, v0_33, v0_34, v0_35, v0_36, v0_37])), (h1, aI g 25240 history1), (h2, aI g 2524 state2)]
def f_X10_dispute_b83 (F : Nat) (k57 : (Int32 × Int32 × Int32 × Int32 × (Nat → Int32) × (Nat → Int32)) → Option (Int32 × Int32 × Int32 × (Nat → Int32) × (Nat → Int32))) (x3 s0 s1 thrown0 depth0 : Int32) (history1 state2 : Nat → Int32) : Option (Int32 × Int32 × Int32 × (Nat → Int32) × (Nat → Int32)) :=
  k57 (s1 + s0, x3 + 1, thrown0, depth0, history1, state2)
def f_X10_dispute_h57 (F : Nat) (k57 : (Int32 × Int32 × Int32 × Int32 × (Nat → Int32) × (Nat → Int32)) → Option (Int32 × Int32 × Int32 × (Nat → Int32) × (Nat → Int32))) (x2 x3 thrown0 depth0 : Int32) (history1 state2 : Nat → Int32) : Option (Int32 × Int32 × Int32 × (Nat → Int32) × (Nat → Int32)) :=
  rd state2 2524 1 fun a1 =>
  if a1 ≤ x3 then
    some (x2, thrown0, depth0, history1, state2)
  else
    bd1 (f_X10_ofTrip F x3 4 state2) fun r3 =>
    if r3 = 1 then
      f_X10_dispute_b83 F k57 x3 1 x2 thrown0 depth0 history1 state2
    else
      f_X10_dispute_b83 F k57 x3 0 x2 thrown0 depth0 history1 state2
def f_X10_dispute_L57 (F : Nat) (z : Int32 × Int32 × Int32 × Int32 × (Nat → Int32) × (Nat → Int32)) : Option (Int32 × Int32 × Int32 × (Nat → Int32) × (Nat → Int32)) := lp (fun k z => f_X10_dispute_h57 F k z.1 z.2.1 z.2.2.1 z.2.2.2.1 z.2.2.2.2.1 z.2.2.2.2.2) F z
def f_X10_dispute (F : Nat) (p1 thrown0 depth0 : Int32) (history1 state2 : Nat → Int32) : Option (Int32 × Int32 × Int32 × (Nat → Int32) × (Nat → Int32)) :=
  bd1 (f_X10_isTrip F p1 state2) fun r6 =>
  if r6 = 0 then
    bd2 (f_X10_fail F 1 0) fun r19 o20 =>
    some (r19, o20, depth0, history1, state2)
  else
    bd1 (f_X10_ofTrip F p1 4 state2) fun r9 =>
    if r9 = 0 then
      bd2 (f_X10_keep F depth0 history1 state2) fun o12 o13 =>
      wr state2 2524 ((2004 + (5 * p1)) + 4) 1 fun f15 =>
      f_X10_dispute_L57 F (0, 0, 0, o12, o13, f15)
    else
      bd2 (f_X10_fail F 2 0) fun r16 o17 =>
      some (r16, o17, depth0, history1, state2)
set_option maxHeartbeats 4000000 in
set_option maxRecDepth 100000 in
theorem c_X10_dispute (l : Launch) (g : GT) (F : Nat) (h0 h1 h2 : Nat) (v0_1 v0_2 v0_3 v0_4 v0_5 v0_6 v0_7 v0_8 v0_9 v0_10 v0_11 v0_12 v0_13 v0_14 v0_15 v0_16 v0_17 v0_18 v0_19 v0_20 v0_24 v0_25 v0_26 v0_27 v0_28 v0_29 v0_30 v0_31 v0_32 v0_33 v0_34 v0_35 v0_36 v0_37 : Value) (p1 thrown0 depth0 : Int32) (history1 state2 : Nat → Int32) (r o_thrown0 o_depth0 : Int32) (o_history1 o_state2 : Nat → Int32) (sz : Nat) (hf : f_X10_dispute F p1 thrown0 depth0 history1 state2 = some (r, o_thrown0, o_depth0, o_history1, o_state2)) : CI l m_X10_dispute (rml 2 0 0) g (w_X10_dispute g h0 h1 h2 v0_1 v0_2 v0_3 v0_4 v0_5 v0_6 v0_7 v0_8 v0_9 v0_10 v0_11 v0_12 v0_13 v0_14 v0_15 v0_16 v0_17 v0_18 v0_19 v0_20 v0_24 v0_25 v0_26 v0_27 v0_28 v0_29 v0_30 v0_31 v0_32 v0_33 v0_34 v0_35 v0_36 v0_37 thrown0 depth0 history1 state2) (fun _ => w_X10_dispute g h0 h1 h2 v0_1 v0_2 v0_3 v0_4 v0_5 v0_6 v0_7 v0_8 v0_9 v0_10 v0_11 v0_12 v0_13 v0_14 v0_15 v0_16 v0_17 v0_18 v0_19 v0_20 v0_24 v0_25 v0_26 v0_27 v0_28 v0_29 v0_30 v0_31 v0_32 v0_33 v0_34 v0_35 v0_36 v0_37 o_thrown0 o_depth0 o_history1 o_state2) sz [.ref h0, .int p1] r := by
  refine en_i (by decide) (Nat.le_of_ble_eq_true rfl) (fun p e s m args below meth c A ls C w hl => ?_)
  have C : Cx p s m args meth c RX10 m_X10_dispute g A := C
  have hx := C.1
  have hb : c.code = cX10_dispute := C.2.1
  have hl : lv_has ls 4 [(0, .ref h0), (1, .int p1)] := hl
  obtain ⟨Q, hQ⟩ : ∃ Q, Q = QI below args s g A (fun _ => w_X10_dispute g h0 h1 h2 v0_1 v0_2 v0_3 v0_4 v0_5 v0_6 v0_7 v0_8 v0_9 v0_10 v0_11 v0_12 v0_13 v0_14 v0_15 v0_16 v0_17 v0_18 v0_19 v0_20 v0_24 v0_25 v0_26 v0_27 v0_28 v0_29 v0_30 v0_31 v0_32 v0_33 v0_34 v0_35 v0_36 v0_37 o_thrown0 o_depth0 o_history1 o_state2) r 0 0 := ⟨_, rfl⟩
  suffices hW : W p l e (rml 2 0 0) s m args below meth c s.heap [] 0 0 Q (F0 m 0 ls []) from (by rw [hQ] at hW; exact hW)
  unfold f_X10_dispute at hf
  have L57 : ∀ (z : Int32 × Int32 × Int32 × Int32 × (Nat → Int32) × (Nat → Int32)), f_X10_dispute_L57 F z = some (r, o_thrown0, o_depth0, o_history1, o_state2) → ∀ (H : Heap) (locs : List Loc) (ls : Array Slot), Wd g A (w_X10_dispute g h0 h1 h2 v0_1 v0_2 v0_3 v0_4 v0_5 v0_6 v0_7 v0_8 v0_9 v0_10 v0_11 v0_12 v0_13 v0_14 v0_15 v0_16 v0_17 v0_18 v0_19 v0_20 v0_24 v0_25 v0_26 v0_27 v0_28 v0_29 v0_30 v0_31 v0_32 v0_33 v0_34 v0_35 v0_36 v0_37 z.2.2.1 z.2.2.2.1 z.2.2.2.2.1 z.2.2.2.2.2) s.heap H locs → lv_has ls 4 [(0, .ref h0), (2, .int z.1), (3, .int z.2.1)] → W p l e (rml 2 0 0) s m args below meth c H locs 0 0 Q (F0 m 57 ls []) := by
    intro z hf
    refine lp_W (r := (r, o_thrown0, o_depth0, o_history1, o_state2)) (fun (z : Int32 × Int32 × Int32 × Int32 × (Nat → Int32) × (Nat → Int32)) => ∀ (H : Heap) (locs : List Loc) (ls : Array Slot), Wd g A (w_X10_dispute g h0 h1 h2 v0_1 v0_2 v0_3 v0_4 v0_5 v0_6 v0_7 v0_8 v0_9 v0_10 v0_11 v0_12 v0_13 v0_14 v0_15 v0_16 v0_17 v0_18 v0_19 v0_20 v0_24 v0_25 v0_26 v0_27 v0_28 v0_29 v0_30 v0_31 v0_32 v0_33 v0_34 v0_35 v0_36 v0_37 z.2.2.1 z.2.2.2.1 z.2.2.2.2.1 z.2.2.2.2.2) s.heap H locs → lv_has ls 4 [(0, .ref h0), (2, .int z.1), (3, .int z.2.1)] → W p l e (rml 2 0 0) s m args below meth c H locs 0 0 Q (F0 m 57 ls [])) (fun k57 z ih57 hf => ?_) F z hf
    obtain ⟨x2, x3, thrown0, depth0, history1, state2⟩ := z
    intro H locs ls w hl
    try dsimp only at hf w hl ⊢
    unfold f_X10_dispute_h57 at hf
    have b83 : ∀ (x3 s0 s1 thrown0 depth0 : Int32) (history1 state2 : Nat → Int32) (H : Heap) (locs : List Loc) (ls : Array Slot), f_X10_dispute_b83 F k57 x3 s0 s1 thrown0 depth0 history1 state2 = some (r, o_thrown0, o_depth0, o_history1, o_state2) → Wd g A (w_X10_dispute g h0 h1 h2 v0_1 v0_2 v0_3 v0_4 v0_5 v0_6 v0_7 v0_8 v0_9 v0_10 v0_11 v0_12 v0_13 v0_14 v0_15 v0_16 v0_17 v0_18 v0_19 v0_20 v0_24 v0_25 v0_26 v0_27 v0_28 v0_29 v0_30 v0_31 v0_32 v0_33 v0_34 v0_35 v0_36 v0_37 thrown0 depth0 history1 state2) s.heap H locs → lv_has ls 4 [(0, .ref h0), (3, .int x3)] → W p l e (rml 2 0 0) s m args below meth c H locs 0 0 Q (F0 m 83 ls [.int s0, .int s1]) := by
      intro x3 s0 s1 thrown0 depth0 history1 state2 H locs ls hf w hl
      unfold f_X10_dispute_b83 at hf
      refine lv_iadd hx hb dX10_dispute_83 ?_
      refine lv_istore_n (lv' := [(2, .int (s1 + s0)), (0, .ref h0), (3, .int x3)]) hx hb dX10_dispute_84 rfl hl (by decide) rfl (fun ls hl => ?_)
      refine lv_iinc (v := x3 + 1) (lv' := [(3, .int (x3 + 1)), (2, .int (s1 + s0)), (0, .ref h0)]) hx hb dX10_dispute_85 hl (k := 2) rfl rfl (by decide) rfl (fun ls hl => ?_)
      refine lv_goto (tgt := 57) hx hb dX10_dispute_88 (by decide) ?_
      exact ih57 (s1 + s0, x3 + 1, thrown0, depth0, history1, state2) hf _ _ _ w (lv_sub hl [2, 1, 0] rfl)
    refine lv_iload_n hx hb dX10_dispute_57 rfl (lv_at hl 2 rfl) ?_
    refine lv_aload_n hx hb dX10_dispute_58 rfl (lv_at hl 0 rfl) ?_
    refine g_X10_44 C w 0 rfl rfl dX10_dispute_59 ?_
    refine lv_iconst (v := 1) hx hb dX10_dispute_62 (by decide) ?_
    obtain ⟨a1, hia1, haa1, hf⟩ := rd_some hf
    refine ial C w 2 rfl hia1 haa1 dX10_dispute_63 ?_
    refine lv_icmp_ge (tgt := 91) hx hb dX10_dispute_64 (by decide) (fun c2 => ?_) (fun c2 => ?_)
    · replace hf := it_t c2 hf
      refine lv_iload_n hx hb dX10_dispute_91 rfl (lv_at hl 1 rfl) ?_
      obtain ⟨e1, e2, e3, e4, e5⟩ := tp5 hf
      rw [hQ]
      exact rt_i C w rfl (fun _ => 0) (by rw [← e2, ← e3, ← e4, ← e5]) e1 dX10_dispute_92
    · replace hf := it_f c2 hf
      refine lv_iload_n hx hb dX10_dispute_67 rfl (lv_at hl 1 rfl) ?_
      refine lv_aload_n hx hb dX10_dispute_68 rfl (lv_at hl 0 rfl) ?_
      refine lv_iload_n hx hb dX10_dispute_69 rfl (lv_at hl 2 rfl) ?_
      refine lv_iconst (v := 4) hx hb dX10_dispute_70 (by decide) ?_
      obtain ⟨r3, hc4, hf⟩ := bd1_some hf
      refine ca_iV C w (wn := fun _ => w_X10_dispute g h0 h1 h2 v0_1 v0_2 v0_3 v0_4 v0_5 v0_6 v0_7 v0_8 v0_9 v0_10 v0_11 v0_12 v0_13 v0_14 v0_15 v0_16 v0_17 v0_18 v0_19 v0_20 v0_24 v0_25 v0_26 v0_27 v0_28 v0_29 v0_30 v0_31 v0_32 v0_33 v0_34 v0_35 v0_36 v0_37 thrown0 depth0 history1 state2) (pm_k [true, false, true] rfl rfl (fun _ => Nat.le_of_ble_eq_true rfl) (fun _ => rfl)) (c_X10_ofTrip l g F h0 h2 (.int thrown0) v0_1 v0_2 v0_3 v0_4 v0_5 v0_6 v0_7 v0_8 v0_9 v0_10 v0_11 v0_12 v0_13 v0_14 v0_15 v0_16 v0_17 v0_18 v0_19 v0_20 (.ref h1) (.int depth0) v0_24 v0_25 v0_26 v0_27 v0_28 v0_29 v0_30 v0_31 v0_32 v0_33 v0_34 v0_35 v0_36 v0_37 x3 4 state2 r3 _ hc4) k_X10_319 (rm_le (by decide) (by decide)) 0 10 rfl rfl rfl rfl hl.1 rfl (Nat.le_of_ble_eq_true rfl) dX10_dispute_71 ⟨Nat.le_of_ble_eq_true rfl, Nat.le_of_ble_eq_true rfl⟩ (cells2 := 0) (slots2 := 0) ⟨rfl, rfl⟩ (fun _ H locs w => ?_)
      refine lv_iconst (v := 1) hx hb dX10_dispute_74 (by decide) ?_
      refine lv_icmp_ne (tgt := 82) hx hb dX10_dispute_75 (by decide) (fun c5 => ?_) (fun c5 => ?_)
      · replace hf := it_f c5 hf
        refine lv_iconst (v := 0) hx hb dX10_dispute_82 (by decide) ?_
        exact b83 x3 0 x2 thrown0 depth0 history1 state2 _ _ _ hf w (lv_sub hl [0, 2] rfl)
      · replace hf := it_t c5 hf
        refine lv_iconst (v := 1) hx hb dX10_dispute_78 (by decide) ?_
        refine lv_goto (tgt := 83) hx hb dX10_dispute_79 (by decide) ?_
        exact b83 x3 1 x2 thrown0 depth0 history1 state2 _ _ _ hf w (lv_sub hl [0, 2] rfl)
  refine lv_aload_n hx hb dX10_dispute_0 rfl (lv_at hl 0 rfl) ?_
  refine lv_iconst (v := 0) hx hb dX10_dispute_1 (by decide) ?_
  refine p_X10_84 C w 0 rfl (Nat.le_of_ble_eq_true rfl) (ws2 := w_X10_dispute g h0 h1 h2 v0_1 v0_2 v0_3 v0_4 v0_5 v0_6 v0_7 v0_8 v0_9 v0_10 v0_11 v0_12 v0_13 v0_14 v0_15 v0_16 v0_17 v0_18 v0_19 v0_20 v0_24 v0_25 v0_26 v0_27 v0_28 v0_29 v0_30 v0_31 v0_32 v0_33 v0_34 v0_35 v0_36 v0_37 0 depth0 history1 state2) rfl dX10_dispute_2 (fun H locs w => ?_)
  refine lv_aload_n hx hb dX10_dispute_5 rfl (lv_at hl 0 rfl) ?_
  refine lv_iload_n hx hb dX10_dispute_6 rfl (lv_at hl 1 rfl) ?_
  obtain ⟨r6, hc7, hf⟩ := bd1_some hf
  refine ca_iV C w (wn := fun _ => w_X10_dispute g h0 h1 h2 v0_1 v0_2 v0_3 v0_4 v0_5 v0_6 v0_7 v0_8 v0_9 v0_10 v0_11 v0_12 v0_13 v0_14 v0_15 v0_16 v0_17 v0_18 v0_19 v0_20 v0_24 v0_25 v0_26 v0_27 v0_28 v0_29 v0_30 v0_31 v0_32 v0_33 v0_34 v0_35 v0_36 v0_37 0 depth0 history1 state2) (pm_k [true, false, true] rfl rfl (fun _ => Nat.le_of_ble_eq_true rfl) (fun _ => rfl)) (c_X10_isTrip l g F h0 h2 (.int 0) v0_1 v0_2 v0_3 v0_4 v0_5 v0_6 v0_7 v0_8 v0_9 v0_10 v0_11 v0_12 v0_13 v0_14 v0_15 v0_16 v0_17 v0_18 v0_19 v0_20 (.ref h1) (.int depth0) v0_24 v0_25 v0_26 v0_27 v0_28 v0_29 v0_30 v0_31 v0_32 v0_33 v0_34 v0_35 v0_36 v0_37 p1 state2 r6 _ hc7) k_X10_316 (rm_le (by decide) (by decide)) 0 10 rfl rfl rfl rfl hl.1 rfl (Nat.le_of_ble_eq_true rfl) dX10_dispute_7 ⟨Nat.le_of_ble_eq_true rfl, Nat.le_of_ble_eq_true rfl⟩ (cells2 := 0) (slots2 := 0) ⟨rfl, rfl⟩ (fun _ H locs w => ?_)
  refine lv_if_ne (tgt := 19) hx hb dX10_dispute_10 (by decide) (fun c8 => ?_) (fun c8 => ?_)
  · replace hf := it_f c8 hf
    refine lv_aload_n hx hb dX10_dispute_19 rfl (lv_at hl 0 rfl) ?_
    refine lv_iload_n hx hb dX10_dispute_20 rfl (lv_at hl 1 rfl) ?_
    refine lv_iconst (v := 4) hx hb dX10_dispute_21 (by decide) ?_
    obtain ⟨r9, hc10, hf⟩ := bd1_some hf
    refine ca_iV C w (wn := fun _ => w_X10_dispute g h0 h1 h2 v0_1 v0_2 v0_3 v0_4 v0_5 v0_6 v0_7 v0_8 v0_9 v0_10 v0_11 v0_12 v0_13 v0_14 v0_15 v0_16 v0_17 v0_18 v0_19 v0_20 v0_24 v0_25 v0_26 v0_27 v0_28 v0_29 v0_30 v0_31 v0_32 v0_33 v0_34 v0_35 v0_36 v0_37 0 depth0 history1 state2) (pm_k [true, false, true] rfl rfl (fun _ => Nat.le_of_ble_eq_true rfl) (fun _ => rfl)) (c_X10_ofTrip l g F h0 h2 (.int 0) v0_1 v0_2 v0_3 v0_4 v0_5 v0_6 v0_7 v0_8 v0_9 v0_10 v0_11 v0_12 v0_13 v0_14 v0_15 v0_16 v0_17 v0_18 v0_19 v0_20 (.ref h1) (.int depth0) v0_24 v0_25 v0_26 v0_27 v0_28 v0_29 v0_30 v0_31 v0_32 v0_33 v0_34 v0_35 v0_36 v0_37 p1 4 state2 r9 _ hc10) k_X10_319 (rm_le (by decide) (by decide)) 0 10 rfl rfl rfl rfl hl.1 rfl (Nat.le_of_ble_eq_true rfl) dX10_dispute_22 ⟨Nat.le_of_ble_eq_true rfl, Nat.le_of_ble_eq_true rfl⟩ (cells2 := 0) (slots2 := 0) ⟨rfl, rfl⟩ (fun _ H locs w => ?_)
    refine lv_if_eq (tgt := 34) hx hb dX10_dispute_25 (by decide) (fun c11 => ?_) (fun c11 => ?_)
    · replace hf := it_t c11 hf
      refine lv_aload_n hx hb dX10_dispute_34 rfl (lv_at hl 0 rfl) ?_
      obtain ⟨o12, o13, hc14, hf⟩ := bd2_some hf
      refine ca_vV C w (wn := fun _ => w_X10_dispute g h0 h1 h2 v0_1 v0_2 v0_3 v0_4 v0_5 v0_6 v0_7 v0_8 v0_9 v0_10 v0_11 v0_12 v0_13 v0_14 v0_15 v0_16 v0_17 v0_18 v0_19 v0_20 v0_24 v0_25 v0_26 v0_27 v0_28 v0_29 v0_30 v0_31 v0_32 v0_33 v0_34 v0_35 v0_36 v0_37 0 o12 o13 state2) (pm_k [true, true, true] rfl rfl (fun _ => Nat.le_of_ble_eq_true rfl) (fun _ => rfl)) (c_X10_keep l g F h0 h1 h2 (.int 0) v0_1 v0_2 v0_3 v0_4 v0_5 v0_6 v0_7 v0_8 v0_9 v0_10 v0_11 v0_12 v0_13 v0_14 v0_15 v0_16 v0_17 v0_18 v0_19 v0_20 v0_24 v0_25 v0_26 v0_27 v0_28 v0_29 v0_30 v0_31 v0_32 v0_33 v0_34 v0_35 v0_36 v0_37 depth0 history1 state2 o12 o13 _ hc14) k_X10_343 (rm_le (by decide) (by decide)) 0 10 rfl rfl rfl rfl hl.1 rfl (Nat.le_of_ble_eq_true rfl) dX10_dispute_35 ⟨Nat.le_of_ble_eq_true rfl, Nat.le_of_ble_eq_true rfl⟩ (cells2 := 0) (slots2 := 0) ⟨rfl, rfl⟩ (fun _ H locs w => ?_)
      refine lv_aload_n hx hb dX10_dispute_38 rfl (lv_at hl 0 rfl) ?_
      refine g_X10_44 C w 0 rfl rfl dX10_dispute_39 ?_
      refine lv_sipush (v := 2004) hx hb dX10_dispute_42 (by decide) ?_
      refine lv_iconst (v := 5) hx hb dX10_dispute_45 (by decide) ?_
      refine lv_iload_n hx hb dX10_dispute_46 rfl (lv_at hl 1 rfl) ?_
      refine lv_imul hx hb dX10_dispute_47 ?_
      refine lv_iadd hx hb dX10_dispute_48 ?_
      refine lv_iconst (v := 4) hx hb dX10_dispute_49 (by decide) ?_
      refine lv_iadd hx hb dX10_dispute_50 ?_
      refine lv_iconst (v := 1) hx hb dX10_dispute_51 (by decide) ?_
      obtain ⟨f15, hif15, haf15, hf⟩ := wr_some hf
      refine ias C w 2 rfl hif15 haf15 (ws2 := w_X10_dispute g h0 h1 h2 v0_1 v0_2 v0_3 v0_4 v0_5 v0_6 v0_7 v0_8 v0_9 v0_10 v0_11 v0_12 v0_13 v0_14 v0_15 v0_16 v0_17 v0_18 v0_19 v0_20 v0_24 v0_25 v0_26 v0_27 v0_28 v0_29 v0_30 v0_31 v0_32 v0_33 v0_34 v0_35 v0_36 v0_37 0 o12 o13 f15) rfl dX10_dispute_52 (fun H locs w => ?_)
      refine lv_iconst (v := 0) hx hb dX10_dispute_53 (by decide) ?_
      refine lv_istore_n (lv' := [(2, .int 0), (0, .ref h0), (1, .int p1)]) hx hb dX10_dispute_54 rfl hl (by decide) rfl (fun ls hl => ?_)
      refine lv_iconst (v := 0) hx hb dX10_dispute_55 (by decide) ?_
      refine lv_istore_n (lv' := [(3, .int 0), (2, .int 0), (0, .ref h0), (1, .int p1)]) hx hb dX10_dispute_56 rfl hl (by decide) rfl (fun ls hl => ?_)
      exact L57 (0, 0, 0, o12, o13, f15) hf _ _ _ w (lv_sub hl [2, 1, 0] rfl)
    · replace hf := it_f c11 hf
      refine lv_aload_n hx hb dX10_dispute_28 rfl (lv_at hl 0 rfl) ?_
      refine lv_iconst (v := 2) hx hb dX10_dispute_29 (by decide) ?_
      obtain ⟨r16, o17, hc18, hf⟩ := bd2_some hf
      refine ca_iV C w (wn := fun _ => w_X10_dispute g h0 h1 h2 v0_1 v0_2 v0_3 v0_4 v0_5 v0_6 v0_7 v0_8 v0_9 v0_10 v0_11 v0_12 v0_13 v0_14 v0_15 v0_16 v0_17 v0_18 v0_19 v0_20 v0_24 v0_25 v0_26 v0_27 v0_28 v0_29 v0_30 v0_31 v0_32 v0_33 v0_34 v0_35 v0_36 v0_37 o17 depth0 history1 state2) (pm_k [true, false, false] rfl rfl (fun _ => Nat.le_of_ble_eq_true rfl) (fun _ => rfl)) (c_X10_fail l g F h0 v0_1 v0_2 v0_3 v0_4 v0_5 v0_6 v0_7 v0_8 v0_9 v0_10 v0_11 v0_12 v0_13 v0_14 v0_15 v0_16 v0_17 v0_18 v0_19 v0_20 (.ref h2) (.ref h1) (.int depth0) v0_24 v0_25 v0_26 v0_27 v0_28 v0_29 v0_30 v0_31 v0_32 v0_33 v0_34 v0_35 v0_36 v0_37 2 0 r16 o17 _ hc18) k_X10_202 (rm_le (by decide) (by decide)) 0 10 rfl rfl rfl rfl hl.1 rfl (Nat.le_of_ble_eq_true rfl) dX10_dispute_30 ⟨Nat.le_of_ble_eq_true rfl, Nat.le_of_ble_eq_true rfl⟩ (cells2 := 0) (slots2 := 0) ⟨rfl, rfl⟩ (fun _ H locs w => ?_)
      obtain ⟨e1, e2, e3, e4, e5⟩ := tp5 hf
      rw [hQ]
      exact rt_i C w rfl (fun _ => 0) (by rw [← e2, ← e3, ← e4, ← e5]) e1 dX10_dispute_33
  · replace hf := it_t c8 hf
    refine lv_aload_n hx hb dX10_dispute_13 rfl (lv_at hl 0 rfl) ?_
    refine lv_iconst (v := 1) hx hb dX10_dispute_14 (by decide) ?_
    obtain ⟨r19, o20, hc21, hf⟩ := bd2_some hf
    refine ca_iV C w (wn := fun _ => w_X10_dispute g h0 h1 h2 v0_1 v0_2 v0_3 v0_4 v0_5 v0_6 v0_7 v0_8 v0_9 v0_10 v0_11 v0_12 v0_13 v0_14 v0_15 v0_16 v0_17 v0_18 v0_19 v0_20 v0_24 v0_25 v0_26 v0_27 v0_28 v0_29 v0_30 v0_31 v0_32 v0_33 v0_34 v0_35 v0_36 v0_37 o20 depth0 history1 state2) (pm_k [true, false, false] rfl rfl (fun _ => Nat.le_of_ble_eq_true rfl) (fun _ => rfl)) (c_X10_fail l g F h0 v0_1 v0_2 v0_3 v0_4 v0_5 v0_6 v0_7 v0_8 v0_9 v0_10 v0_11 v0_12 v0_13 v0_14 v0_15 v0_16 v0_17 v0_18 v0_19 v0_20 (.ref h2) (.ref h1) (.int depth0) v0_24 v0_25 v0_26 v0_27 v0_28 v0_29 v0_30 v0_31 v0_32 v0_33 v0_34 v0_35 v0_36 v0_37 1 0 r19 o20 _ hc21) k_X10_202 (rm_le (by decide) (by decide)) 0 10 rfl rfl rfl rfl hl.1 rfl (Nat.le_of_ble_eq_true rfl) dX10_dispute_15 ⟨Nat.le_of_ble_eq_true rfl, Nat.le_of_ble_eq_true rfl⟩ (cells2 := 0) (slots2 := 0) ⟨rfl, rfl⟩ (fun _ H locs w => ?_)
    obtain ⟨e1, e2, e3, e4, e5⟩ := tp5 hf
    rw [hQ]
    exact rt_i C w rfl (fun _ => 0) (by rw [← e2, ← e3, ← e4, ← e5]) e1 dX10_dispute_18

theorem dX10_resolve_0 : decode cX10_resolve 0 = .ok (.aload_n 0, 1) := by decide +kernel
theorem dX10_resolve_1 : decode cX10_resolve 1 = .ok (.iconst 0, 1) := by decide +kernel
theorem dX10_resolve_2 : decode cX10_resolve 2 = .ok (.putfield 84, 3) := by decide +kernel
theorem dX10_resolve_5 : decode cX10_resolve 5 = .ok (.aload_n 0, 1) := by decide +kernel
theorem dX10_resolve_6 : decode cX10_resolve 6 = .ok (.iload_n 1, 1) := by decide +kernel
theorem dX10_resolve_7 : decode cX10_resolve 7 = .ok (.invokevirtual 316, 3) := by decide +kernel
theorem dX10_resolve_10 : decode cX10_resolve 10 = .ok (.ifCond .ne 9, 3) := by decide +kernel
theorem dX10_resolve_13 : decode cX10_resolve 13 = .ok (.aload_n 0, 1) := by decide +kernel
theorem dX10_resolve_14 : decode cX10_resolve 14 = .ok (.iconst 1, 1) := by decide +kernel
theorem dX10_resolve_15 : decode cX10_resolve 15 = .ok (.invokevirtual 202, 3) := by decide +kernel
theorem dX10_resolve_18 : decode cX10_resolve 18 = .ok (.ireturn, 1) := by decide +kernel
theorem dX10_resolve_19 : decode cX10_resolve 19 = .ok (.aload_n 0, 1) := by decide +kernel
theorem dX10_resolve_20 : decode cX10_resolve 20 = .ok (.iload_n 1, 1) := by decide +kernel
theorem dX10_resolve_21 : decode cX10_resolve 21 = .ok (.iconst 4, 1) := by decide +kernel
theorem dX10_resolve_22 : decode cX10_resolve 22 = .ok (.invokevirtual 319, 3) := by decide +kernel
theorem dX10_resolve_25 : decode cX10_resolve 25 = .ok (.iconst 1, 1) := by decide +kernel
theorem dX10_resolve_26 : decode cX10_resolve 26 = .ok (.if_icmp .eq 9, 3) := by decide +kernel
theorem dX10_resolve_29 : decode cX10_resolve 29 = .ok (.aload_n 0, 1) := by decide +kernel
theorem dX10_resolve_30 : decode cX10_resolve 30 = .ok (.iconst 2, 1) := by decide +kernel
theorem dX10_resolve_31 : decode cX10_resolve 31 = .ok (.invokevirtual 202, 3) := by decide +kernel
theorem dX10_resolve_34 : decode cX10_resolve 34 = .ok (.ireturn, 1) := by decide +kernel
theorem dX10_resolve_35 : decode cX10_resolve 35 = .ok (.aload_n 0, 1) := by decide +kernel
theorem dX10_resolve_36 : decode cX10_resolve 36 = .ok (.invokevirtual 343, 3) := by decide +kernel
theorem dX10_resolve_39 : decode cX10_resolve 39 = .ok (.aload_n 0, 1) := by decide +kernel
theorem dX10_resolve_40 : decode cX10_resolve 40 = .ok (.getfield 44, 3) := by decide +kernel
theorem dX10_resolve_43 : decode cX10_resolve 43 = .ok (.sipush 2004, 3) := by decide +kernel
theorem dX10_resolve_46 : decode cX10_resolve 46 = .ok (.iconst 5, 1) := by decide +kernel
theorem dX10_resolve_47 : decode cX10_resolve 47 = .ok (.iload_n 1, 1) := by decide +kernel
theorem dX10_resolve_48 : decode cX10_resolve 48 = .ok (.imul, 1) := by decide +kernel
theorem dX10_resolve_49 : decode cX10_resolve 49 = .ok (.iadd, 1) := by decide +kernel
theorem dX10_resolve_50 : decode cX10_resolve 50 = .ok (.iconst 4, 1) := by decide +kernel
theorem dX10_resolve_51 : decode cX10_resolve 51 = .ok (.iadd, 1) := by decide +kernel
theorem dX10_resolve_52 : decode cX10_resolve 52 = .ok (.iload_n 2, 1) := by decide +kernel
theorem dX10_resolve_53 : decode cX10_resolve 53 = .ok (.ifCond .eq 7, 3) := by decide +kernel
theorem dX10_resolve_56 : decode cX10_resolve 56 = .ok (.iconst 2, 1) := by decide +kernel
theorem dX10_resolve_57 : decode cX10_resolve 57 = .ok (.goto 4, 3) := by decide +kernel
theorem dX10_resolve_60 : decode cX10_resolve 60 = .ok (.iconst 3, 1) := by decide +kernel
theorem dX10_resolve_61 : decode cX10_resolve 61 = .ok (.iastore, 1) := by decide +kernel
theorem dX10_resolve_62 : decode cX10_resolve 62 = .ok (.aload_n 0, 1) := by decide +kernel
theorem dX10_resolve_63 : decode cX10_resolve 63 = .ok (.aload_n 0, 1) := by decide +kernel
theorem dX10_resolve_64 : decode cX10_resolve 64 = .ok (.iload_n 1, 1) := by decide +kernel
theorem dX10_resolve_65 : decode cX10_resolve 65 = .ok (.iconst 0, 1) := by decide +kernel
theorem dX10_resolve_66 : decode cX10_resolve 66 = .ok (.invokevirtual 319, 3) := by decide +kernel
theorem dX10_resolve_69 : decode cX10_resolve 69 = .ok (.invokevirtual 334, 3) := by decide +kernel
theorem dX10_resolve_72 : decode cX10_resolve 72 = .ok (.ireturn, 1) := by decide +kernel
abbrev m_X10_resolve : MD := (yX10_resolve, cX10_resolve, 3, (some .int))

abbrev w_X10_resolve (g : GT) (h0 h1 h2 h3 : Nat) (v0_1 v0_2 v0_3 v0_4 v0_5 v0_6 v0_7 v0_8 v0_9 v0_11 v0_12 v0_13 v0_14 v0_15 v0_16 v0_17 v0_18 v0_19 v0_20 v0_24 v0_25 v0_26 v0_27 v0_28 v0_29 v0_30 v0_31 v0_32 v0_33 v0_34 v0_35 v0_36 v0_37 : Value) (thrown0 depth0 : Int32) (basic1 history2 state3 : Nat → Int32) : va_W := [(h0, .inr (10, [.int thrown0, v0_1, v0_2, v0_3, v0_4, v0_5, v0_6, v0_7, v0_8, v0_9, .ref h1, v0_11, v0_12, v0_13, v0_14, v0_15, v0_16, v0_17, v0_18, v0_19, v0_20, .ref h3, .ref h2, .int depth0, v0_24, v0_25, v0_26, v0_27, v0_28, v0_29, v0_30, v0_31, v0_32, v0_33, v0_34, v0_35, v0_36, v0_37])), (h1, aI g 7 basic1), (h2, aI g 25240 history2), (h3, aI g 2524 state3)]
def f_X10_resolve_b61 (F : Nat) (basic1 : Nat → Int32) (x1 s0 s1 thrown0 depth0 : Int32) (history2 state3 : Nat → Int32) : Option (Int32 × Int32 × Int32 × (Nat → Int32) × (Nat → Int32)) :=
  wr state3 2524 s1 s0 fun f1 =>
  bd1 (f_X10_ofTrip F x1 0 f1) fun r2 =>
  bd1 (f_X10_balanceOf F r2 basic1 f1) fun r4 =>
  some (r4, thrown0, depth0, history2, f1)
def f_X10_resolve (F : Nat) (p1 p2 thrown0 depth0 : Int32) (basic1 history2 state3 : Nat → Int32) : Option (Int32 × Int32 × Int32 × (Nat → Int32) × (Nat → Int32)) :=
  bd1 (f_X10_isTrip F p1 state3) fun r6 =>
  if r6 = 0 then
    bd2 (f_X10_fail F 1 0) fun r19 o20 =>
    some (r19, o20, depth0, history2, state3)
  else
    bd1 (f_X10_ofTrip F p1 4 state3) fun r9 =>
    if r9 = 1 then
      bd2 (f_X10_keep F depth0 history2 state3) fun o12 o13 =>
      if p2 = 0 then
        f_X10_resolve_b61 F basic1 p1 3 ((2004 + (5 * p1)) + 4) 0 o12 o13 state3
      else
        f_X10_resolve_b61 F basic1 p1 2 ((2004 + (5 * p1)) + 4) 0 o12 o13 state3
    else
      bd2 (f_X10_fail F 2 0) fun r16 o17 =>
      some (r16, o17, depth0, history2, state3)
set_option maxHeartbeats 4000000 in
set_option maxRecDepth 100000 in
theorem c_X10_resolve (l : Launch) (g : GT) (F : Nat) (h0 h1 h2 h3 : Nat) (v0_1 v0_2 v0_3 v0_4 v0_5 v0_6 v0_7 v0_8 v0_9 v0_11 v0_12 v0_13 v0_14 v0_15 v0_16 v0_17 v0_18 v0_19 v0_20 v0_24 v0_25 v0_26 v0_27 v0_28 v0_29 v0_30 v0_31 v0_32 v0_33 v0_34 v0_35 v0_36 v0_37 : Value) (p1 p2 thrown0 depth0 : Int32) (basic1 history2 state3 : Nat → Int32) (r o_thrown0 o_depth0 : Int32) (o_history2 o_state3 : Nat → Int32) (sz : Nat) (hf : f_X10_resolve F p1 p2 thrown0 depth0 basic1 history2 state3 = some (r, o_thrown0, o_depth0, o_history2, o_state3)) : CI l m_X10_resolve (rml 3 0 0) g (w_X10_resolve g h0 h1 h2 h3 v0_1 v0_2 v0_3 v0_4 v0_5 v0_6 v0_7 v0_8 v0_9 v0_11 v0_12 v0_13 v0_14 v0_15 v0_16 v0_17 v0_18 v0_19 v0_20 v0_24 v0_25 v0_26 v0_27 v0_28 v0_29 v0_30 v0_31 v0_32 v0_33 v0_34 v0_35 v0_36 v0_37 thrown0 depth0 basic1 history2 state3) (fun _ => w_X10_resolve g h0 h1 h2 h3 v0_1 v0_2 v0_3 v0_4 v0_5 v0_6 v0_7 v0_8 v0_9 v0_11 v0_12 v0_13 v0_14 v0_15 v0_16 v0_17 v0_18 v0_19 v0_20 v0_24 v0_25 v0_26 v0_27 v0_28 v0_29 v0_30 v0_31 v0_32 v0_33 v0_34 v0_35 v0_36 v0_37 o_thrown0 o_depth0 basic1 o_history2 o_state3) sz [.ref h0, .int p1, .int p2] r := by
  refine en_i (by decide) (Nat.le_of_ble_eq_true rfl) (fun p e s m args below meth c A ls C w hl => ?_)
  have C : Cx p s m args meth c RX10 m_X10_resolve g A := C
  have hx := C.1
  have hb : c.code = cX10_resolve := C.2.1
  have hl : lv_has ls 3 [(0, .ref h0), (1, .int p1), (2, .int p2)] := hl
  obtain ⟨Q, hQ⟩ : ∃ Q, Q = QI below args s g A (fun _ => w_X10_resolve g h0 h1 h2 h3 v0_1 v0_2 v0_3 v0_4 v0_5 v0_6 v0_7 v0_8 v0_9 v0_11 v0_12 v0_13 v0_14 v0_15 v0_16 v0_17 v0_18 v0_19 v0_20 v0_24 v0_25 v0_26 v0_27 v0_28 v0_29 v0_30 v0_31 v0_32 v0_33 v0_34 v0_35 v0_36 v0_37 o_thrown0 o_depth0 basic1 o_history2 o_state3) r 0 0 := ⟨_, rfl⟩
  suffices hW : W p l e (rml 3 0 0) s m args below meth c s.heap [] 0 0 Q (F0 m 0 ls []) from (by rw [hQ] at hW; exact hW)
  unfold f_X10_resolve at hf
  have b61 : ∀ (x1 s0 s1 thrown0 depth0 : Int32) (history2 state3 : Nat → Int32) (H : Heap) (locs : List Loc) (ls : Array Slot), f_X10_resolve_b61 F basic1 x1 s0 s1 thrown0 depth0 history2 state3 = some (r, o_thrown0, o_depth0, o_history2, o_state3) → Wd g A (w_X10_resolve g h0 h1 h2 h3 v0_1 v0_2 v0_3 v0_4 v0_5 v0_6 v0_7 v0_8 v0_9 v0_11 v0_12 v0_13 v0_14 v0_15 v0_16 v0_17 v0_18 v0_19 v0_20 v0_24 v0_25 v0_26 v0_27 v0_28 v0_29 v0_30 v0_31 v0_32 v0_33 v0_34 v0_35 v0_36 v0_37 thrown0 depth0 basic1 history2 state3) s.heap H locs → lv_has ls 3 [(0, .ref h0), (1, .int x1)] → W p l e (rml 3 0 0) s m args below meth c H locs 0 0 Q (F0 m 61 ls [.int s0, .int s1, .ref h3]) := by
    intro x1 s0 s1 thrown0 depth0 history2 state3 H locs ls hf w hl
    unfold f_X10_resolve_b61 at hf
    obtain ⟨f1, hif1, haf1, hf⟩ := wr_some hf
    refine ias C w 3 rfl hif1 haf1 (ws2 := w_X10_resolve g h0 h1 h2 h3 v0_1 v0_2 v0_3 v0_4 v0_5 v0_6 v0_7 v0_8 v0_9 v0_11 v0_12 v0_13 v0_14 v0_15 v0_16 v0_17 v0_18 v0_19 v0_20 v0_24 v0_25 v0_26 v0_27 v0_28 v0_29 v0_30 v0_31 v0_32 v0_33 v0_34 v0_35 v0_36 v0_37 thrown0 depth0 basic1 history2 f1) rfl dX10_resolve_61 (fun H locs w => ?_)
    refine lv_aload_n hx hb dX10_resolve_62 rfl (lv_at hl 0 rfl) ?_
    refine lv_aload_n hx hb dX10_resolve_63 rfl (lv_at hl 0 rfl) ?_
    refine lv_iload_n hx hb dX10_resolve_64 rfl (lv_at hl 1 rfl) ?_
    refine lv_iconst (v := 0) hx hb dX10_resolve_65 (by decide) ?_
    obtain ⟨r2, hc3, hf⟩ := bd1_some hf
    refine ca_iV C w (wn := fun _ => w_X10_resolve g h0 h1 h2 h3 v0_1 v0_2 v0_3 v0_4 v0_5 v0_6 v0_7 v0_8 v0_9 v0_11 v0_12 v0_13 v0_14 v0_15 v0_16 v0_17 v0_18 v0_19 v0_20 v0_24 v0_25 v0_26 v0_27 v0_28 v0_29 v0_30 v0_31 v0_32 v0_33 v0_34 v0_35 v0_36 v0_37 thrown0 depth0 basic1 history2 f1) (pm_k [true, false, false, true] rfl rfl (fun _ => Nat.le_of_ble_eq_true rfl) (fun _ => rfl)) (c_X10_ofTrip l g F h0 h3 (.int thrown0) v0_1 v0_2 v0_3 v0_4 v0_5 v0_6 v0_7 v0_8 v0_9 (.ref h1) v0_11 v0_12 v0_13 v0_14 v0_15 v0_16 v0_17 v0_18 v0_19 v0_20 (.ref h2) (.int depth0) v0_24 v0_25 v0_26 v0_27 v0_28 v0_29 v0_30 v0_31 v0_32 v0_33 v0_34 v0_35 v0_36 v0_37 x1 0 f1 r2 _ hc3) k_X10_319 (rm_le (by decide) (by decide)) 0 10 rfl rfl rfl rfl hl.1 rfl (Nat.le_of_ble_eq_true rfl) dX10_resolve_66 ⟨Nat.le_of_ble_eq_true rfl, Nat.le_of_ble_eq_true rfl⟩ (cells2 := 0) (slots2 := 0) ⟨rfl, rfl⟩ (fun _ H locs w => ?_)
    obtain ⟨r4, hc5, hf⟩ := bd1_some hf
    refine ca_iV C w (wn := fun _ => w_X10_resolve g h0 h1 h2 h3 v0_1 v0_2 v0_3 v0_4 v0_5 v0_6 v0_7 v0_8 v0_9 v0_11 v0_12 v0_13 v0_14 v0_15 v0_16 v0_17 v0_18 v0_19 v0_20 v0_24 v0_25 v0_26 v0_27 v0_28 v0_29 v0_30 v0_31 v0_32 v0_33 v0_34 v0_35 v0_36 v0_37 thrown0 depth0 basic1 history2 f1) (pm_k [true, true, false, true] rfl rfl (fun _ => Nat.le_of_ble_eq_true rfl) (fun _ => rfl)) (c_X10_balanceOf l g F h0 h1 h3 (.int thrown0) v0_1 v0_2 v0_3 v0_4 v0_5 v0_6 v0_7 v0_8 v0_9 v0_11 v0_12 v0_13 v0_14 v0_15 v0_16 v0_17 v0_18 v0_19 v0_20 (.ref h2) (.int depth0) v0_24 v0_25 v0_26 v0_27 v0_28 v0_29 v0_30 v0_31 v0_32 v0_33 v0_34 v0_35 v0_36 v0_37 r2 basic1 f1 r4 _ hc5) k_X10_334 (rm_le (by decide) (by decide)) 0 10 rfl rfl rfl rfl hl.1 rfl (Nat.le_of_ble_eq_true rfl) dX10_resolve_69 ⟨Nat.le_of_ble_eq_true rfl, Nat.le_of_ble_eq_true rfl⟩ (cells2 := 0) (slots2 := 0) ⟨rfl, rfl⟩ (fun _ H locs w => ?_)
    obtain ⟨e1, e2, e3, e4, e5⟩ := tp5 hf
    rw [hQ]
    exact rt_i C w rfl (fun _ => 0) (by rw [← e2, ← e3, ← e4, ← e5]) e1 dX10_resolve_72
  refine lv_aload_n hx hb dX10_resolve_0 rfl (lv_at hl 0 rfl) ?_
  refine lv_iconst (v := 0) hx hb dX10_resolve_1 (by decide) ?_
  refine p_X10_84 C w 0 rfl (Nat.le_of_ble_eq_true rfl) (ws2 := w_X10_resolve g h0 h1 h2 h3 v0_1 v0_2 v0_3 v0_4 v0_5 v0_6 v0_7 v0_8 v0_9 v0_11 v0_12 v0_13 v0_14 v0_15 v0_16 v0_17 v0_18 v0_19 v0_20 v0_24 v0_25 v0_26 v0_27 v0_28 v0_29 v0_30 v0_31 v0_32 v0_33 v0_34 v0_35 v0_36 v0_37 0 depth0 basic1 history2 state3) rfl dX10_resolve_2 (fun H locs w => ?_)
  refine lv_aload_n hx hb dX10_resolve_5 rfl (lv_at hl 0 rfl) ?_
  refine lv_iload_n hx hb dX10_resolve_6 rfl (lv_at hl 1 rfl) ?_
  obtain ⟨r6, hc7, hf⟩ := bd1_some hf
  refine ca_iV C w (wn := fun _ => w_X10_resolve g h0 h1 h2 h3 v0_1 v0_2 v0_3 v0_4 v0_5 v0_6 v0_7 v0_8 v0_9 v0_11 v0_12 v0_13 v0_14 v0_15 v0_16 v0_17 v0_18 v0_19 v0_20 v0_24 v0_25 v0_26 v0_27 v0_28 v0_29 v0_30 v0_31 v0_32 v0_33 v0_34 v0_35 v0_36 v0_37 0 depth0 basic1 history2 state3) (pm_k [true, false, false, true] rfl rfl (fun _ => Nat.le_of_ble_eq_true rfl) (fun _ => rfl)) (c_X10_isTrip l g F h0 h3 (.int 0) v0_1 v0_2 v0_3 v0_4 v0_5 v0_6 v0_7 v0_8 v0_9 (.ref h1) v0_11 v0_12 v0_13 v0_14 v0_15 v0_16 v0_17 v0_18 v0_19 v0_20 (.ref h2) (.int depth0) v0_24 v0_25 v0_26 v0_27 v0_28 v0_29 v0_30 v0_31 v0_32 v0_33 v0_34 v0_35 v0_36 v0_37 p1 state3 r6 _ hc7) k_X10_316 (rm_le (by decide) (by decide)) 0 10 rfl rfl rfl rfl hl.1 rfl (Nat.le_of_ble_eq_true rfl) dX10_resolve_7 ⟨Nat.le_of_ble_eq_true rfl, Nat.le_of_ble_eq_true rfl⟩ (cells2 := 0) (slots2 := 0) ⟨rfl, rfl⟩ (fun _ H locs w => ?_)
  refine lv_if_ne (tgt := 19) hx hb dX10_resolve_10 (by decide) (fun c8 => ?_) (fun c8 => ?_)
  · replace hf := it_f c8 hf
    refine lv_aload_n hx hb dX10_resolve_19 rfl (lv_at hl 0 rfl) ?_
    refine lv_iload_n hx hb dX10_resolve_20 rfl (lv_at hl 1 rfl) ?_
    refine lv_iconst (v := 4) hx hb dX10_resolve_21 (by decide) ?_
    obtain ⟨r9, hc10, hf⟩ := bd1_some hf
    refine ca_iV C w (wn := fun _ => w_X10_resolve g h0 h1 h2 h3 v0_1 v0_2 v0_3 v0_4 v0_5 v0_6 v0_7 v0_8 v0_9 v0_11 v0_12 v0_13 v0_14 v0_15 v0_16 v0_17 v0_18 v0_19 v0_20 v0_24 v0_25 v0_26 v0_27 v0_28 v0_29 v0_30 v0_31 v0_32 v0_33 v0_34 v0_35 v0_36 v0_37 0 depth0 basic1 history2 state3) (pm_k [true, false, false, true] rfl rfl (fun _ => Nat.le_of_ble_eq_true rfl) (fun _ => rfl)) (c_X10_ofTrip l g F h0 h3 (.int 0) v0_1 v0_2 v0_3 v0_4 v0_5 v0_6 v0_7 v0_8 v0_9 (.ref h1) v0_11 v0_12 v0_13 v0_14 v0_15 v0_16 v0_17 v0_18 v0_19 v0_20 (.ref h2) (.int depth0) v0_24 v0_25 v0_26 v0_27 v0_28 v0_29 v0_30 v0_31 v0_32 v0_33 v0_34 v0_35 v0_36 v0_37 p1 4 state3 r9 _ hc10) k_X10_319 (rm_le (by decide) (by decide)) 0 10 rfl rfl rfl rfl hl.1 rfl (Nat.le_of_ble_eq_true rfl) dX10_resolve_22 ⟨Nat.le_of_ble_eq_true rfl, Nat.le_of_ble_eq_true rfl⟩ (cells2 := 0) (slots2 := 0) ⟨rfl, rfl⟩ (fun _ H locs w => ?_)
    refine lv_iconst (v := 1) hx hb dX10_resolve_25 (by decide) ?_
    refine lv_icmp_eq (tgt := 35) hx hb dX10_resolve_26 (by decide) (fun c11 => ?_) (fun c11 => ?_)
    · replace hf := it_t c11 hf
      refine lv_aload_n hx hb dX10_resolve_35 rfl (lv_at hl 0 rfl) ?_
      obtain ⟨o12, o13, hc14, hf⟩ := bd2_some hf
      refine ca_vV C w (wn := fun _ => w_X10_resolve g h0 h1 h2 h3 v0_1 v0_2 v0_3 v0_4 v0_5 v0_6 v0_7 v0_8 v0_9 v0_11 v0_12 v0_13 v0_14 v0_15 v0_16 v0_17 v0_18 v0_19 v0_20 v0_24 v0_25 v0_26 v0_27 v0_28 v0_29 v0_30 v0_31 v0_32 v0_33 v0_34 v0_35 v0_36 v0_37 0 o12 basic1 o13 state3) (pm_k [true, false, true, true] rfl rfl (fun _ => Nat.le_of_ble_eq_true rfl) (fun _ => rfl)) (c_X10_keep l g F h0 h2 h3 (.int 0) v0_1 v0_2 v0_3 v0_4 v0_5 v0_6 v0_7 v0_8 v0_9 (.ref h1) v0_11 v0_12 v0_13 v0_14 v0_15 v0_16 v0_17 v0_18 v0_19 v0_20 v0_24 v0_25 v0_26 v0_27 v0_28 v0_29 v0_30 v0_31 v0_32 v0_33 v0_34 v0_35 v0_36 v0_37 depth0 history2 state3 o12 o13 _ hc14) k_X10_343 (rm_le (by decide) (by decide)) 0 10 rfl rfl rfl rfl hl.1 rfl (Nat.le_of_ble_eq_true rfl) dX10_resolve_36 ⟨Nat.le_of_ble_eq_true rfl, Nat.le_of_ble_eq_true rfl⟩ (cells2 := 0) (slots2 := 0) ⟨rfl, rfl⟩ (fun _ H locs w => ?_)
      refine lv_aload_n hx hb dX10_resolve_39 rfl (lv_at hl 0 rfl) ?_
      refine g_X10_44 C w 0 rfl rfl dX10_resolve_40 ?_
      refine lv_sipush (v := 2004) hx hb dX10_resolve_43 (by decide) ?_
      refine lv_iconst (v := 5) hx hb dX10_resolve_46 (by decide) ?_
      refine lv_iload_n hx hb dX10_resolve_47 rfl (lv_at hl 1 rfl) ?_
      refine lv_imul hx hb dX10_resolve_48 ?_
      refine lv_iadd hx hb dX10_resolve_49 ?_
      refine lv_iconst (v := 4) hx hb dX10_resolve_50 (by decide) ?_
      refine lv_iadd hx hb dX10_resolve_51 ?_
      refine lv_iload_n hx hb dX10_resolve_52 rfl (lv_at hl 2 rfl) ?_
      refine lv_if_eq (tgt := 60) hx hb dX10_resolve_53 (by decide) (fun c15 => ?_) (fun c15 => ?_)
      · replace hf := it_t c15 hf
        refine lv_iconst (v := 3) hx hb dX10_resolve_60 (by decide) ?_
        exact b61 p1 3 ((2004 + (5 * p1)) + 4) 0 o12 o13 state3 _ _ _ hf w (lv_sub hl [0, 1] rfl)
      · replace hf := it_f c15 hf
        refine lv_iconst (v := 2) hx hb dX10_resolve_56 (by decide) ?_
        refine lv_goto (tgt := 61) hx hb dX10_resolve_57 (by decide) ?_
        exact b61 p1 2 ((2004 + (5 * p1)) + 4) 0 o12 o13 state3 _ _ _ hf w (lv_sub hl [0, 1] rfl)
    · replace hf := it_f c11 hf
      refine lv_aload_n hx hb dX10_resolve_29 rfl (lv_at hl 0 rfl) ?_
      refine lv_iconst (v := 2) hx hb dX10_resolve_30 (by decide) ?_
      obtain ⟨r16, o17, hc18, hf⟩ := bd2_some hf
      refine ca_iV C w (wn := fun _ => w_X10_resolve g h0 h1 h2 h3 v0_1 v0_2 v0_3 v0_4 v0_5 v0_6 v0_7 v0_8 v0_9 v0_11 v0_12 v0_13 v0_14 v0_15 v0_16 v0_17 v0_18 v0_19 v0_20 v0_24 v0_25 v0_26 v0_27 v0_28 v0_29 v0_30 v0_31 v0_32 v0_33 v0_34 v0_35 v0_36 v0_37 o17 depth0 basic1 history2 state3) (pm_k [true, false, false, false] rfl rfl (fun _ => Nat.le_of_ble_eq_true rfl) (fun _ => rfl)) (c_X10_fail l g F h0 v0_1 v0_2 v0_3 v0_4 v0_5 v0_6 v0_7 v0_8 v0_9 (.ref h1) v0_11 v0_12 v0_13 v0_14 v0_15 v0_16 v0_17 v0_18 v0_19 v0_20 (.ref h3) (.ref h2) (.int depth0) v0_24 v0_25 v0_26 v0_27 v0_28 v0_29 v0_30 v0_31 v0_32 v0_33 v0_34 v0_35 v0_36 v0_37 2 0 r16 o17 _ hc18) k_X10_202 (rm_le (by decide) (by decide)) 0 10 rfl rfl rfl rfl hl.1 rfl (Nat.le_of_ble_eq_true rfl) dX10_resolve_31 ⟨Nat.le_of_ble_eq_true rfl, Nat.le_of_ble_eq_true rfl⟩ (cells2 := 0) (slots2 := 0) ⟨rfl, rfl⟩ (fun _ H locs w => ?_)
      obtain ⟨e1, e2, e3, e4, e5⟩ := tp5 hf
      rw [hQ]
      exact rt_i C w rfl (fun _ => 0) (by rw [← e2, ← e3, ← e4, ← e5]) e1 dX10_resolve_34
  · replace hf := it_t c8 hf
    refine lv_aload_n hx hb dX10_resolve_13 rfl (lv_at hl 0 rfl) ?_
    refine lv_iconst (v := 1) hx hb dX10_resolve_14 (by decide) ?_
    obtain ⟨r19, o20, hc21, hf⟩ := bd2_some hf
    refine ca_iV C w (wn := fun _ => w_X10_resolve g h0 h1 h2 h3 v0_1 v0_2 v0_3 v0_4 v0_5 v0_6 v0_7 v0_8 v0_9 v0_11 v0_12 v0_13 v0_14 v0_15 v0_16 v0_17 v0_18 v0_19 v0_20 v0_24 v0_25 v0_26 v0_27 v0_28 v0_29 v0_30 v0_31 v0_32 v0_33 v0_34 v0_35 v0_36 v0_37 o20 depth0 basic1 history2 state3) (pm_k [true, false, false, false] rfl rfl (fun _ => Nat.le_of_ble_eq_true rfl) (fun _ => rfl)) (c_X10_fail l g F h0 v0_1 v0_2 v0_3 v0_4 v0_5 v0_6 v0_7 v0_8 v0_9 (.ref h1) v0_11 v0_12 v0_13 v0_14 v0_15 v0_16 v0_17 v0_18 v0_19 v0_20 (.ref h3) (.ref h2) (.int depth0) v0_24 v0_25 v0_26 v0_27 v0_28 v0_29 v0_30 v0_31 v0_32 v0_33 v0_34 v0_35 v0_36 v0_37 1 0 r19 o20 _ hc21) k_X10_202 (rm_le (by decide) (by decide)) 0 10 rfl rfl rfl rfl hl.1 rfl (Nat.le_of_ble_eq_true rfl) dX10_resolve_15 ⟨Nat.le_of_ble_eq_true rfl, Nat.le_of_ble_eq_true rfl⟩ (cells2 := 0) (slots2 := 0) ⟨rfl, rfl⟩ (fun _ H locs w => ?_)
    obtain ⟨e1, e2, e3, e4, e5⟩ := tp5 hf
    rw [hQ]
    exact rt_i C w rfl (fun _ => 0) (by rw [← e2, ← e3, ← e4, ← e5]) e1 dX10_resolve_18

theorem dX10_undo_0 : decode cX10_undo 0 = .ok (.aload_n 0, 1) := by decide +kernel
theorem dX10_undo_1 : decode cX10_undo 1 = .ok (.iconst 0, 1) := by decide +kernel
theorem dX10_undo_2 : decode cX10_undo 2 = .ok (.putfield 84, 3) := by decide +kernel
theorem dX10_undo_5 : decode cX10_undo 5 = .ok (.aload_n 0, 1) := by decide +kernel
theorem dX10_undo_6 : decode cX10_undo 6 = .ok (.getfield 212, 3) := by decide +kernel
theorem dX10_undo_9 : decode cX10_undo 9 = .ok (.ifCond .ne 5, 3) := by decide +kernel
theorem dX10_undo_12 : decode cX10_undo 12 = .ok (.iconst (-1), 1) := by decide +kernel
theorem dX10_undo_13 : decode cX10_undo 13 = .ok (.ireturn, 1) := by decide +kernel
theorem dX10_undo_14 : decode cX10_undo 14 = .ok (.aload_n 0, 1) := by decide +kernel
theorem dX10_undo_15 : decode cX10_undo 15 = .ok (.dup, 1) := by decide +kernel
theorem dX10_undo_16 : decode cX10_undo 16 = .ok (.getfield 212, 3) := by decide +kernel
theorem dX10_undo_19 : decode cX10_undo 19 = .ok (.iconst 1, 1) := by decide +kernel
theorem dX10_undo_20 : decode cX10_undo 20 = .ok (.isub, 1) := by decide +kernel
theorem dX10_undo_21 : decode cX10_undo 21 = .ok (.putfield 212, 3) := by decide +kernel
theorem dX10_undo_24 : decode cX10_undo 24 = .ok (.iconst 0, 1) := by decide +kernel
theorem dX10_undo_25 : decode cX10_undo 25 = .ok (.istore_n 1, 1) := by decide +kernel
theorem dX10_undo_26 : decode cX10_undo 26 = .ok (.iload_n 1, 1) := by decide +kernel
theorem dX10_undo_27 : decode cX10_undo 27 = .ok (.sipush 2524, 3) := by decide +kernel
theorem dX10_undo_30 : decode cX10_undo 30 = .ok (.if_icmp .ge 30, 3) := by decide +kernel
theorem dX10_undo_33 : decode cX10_undo 33 = .ok (.aload_n 0, 1) := by decide +kernel
theorem dX10_undo_34 : decode cX10_undo 34 = .ok (.getfield 44, 3) := by decide +kernel
theorem dX10_undo_37 : decode cX10_undo 37 = .ok (.iload_n 1, 1) := by decide +kernel
theorem dX10_undo_38 : decode cX10_undo 38 = .ok (.aload_n 0, 1) := by decide +kernel
theorem dX10_undo_39 : decode cX10_undo 39 = .ok (.getfield 47, 3) := by decide +kernel
theorem dX10_undo_42 : decode cX10_undo 42 = .ok (.sipush 2524, 3) := by decide +kernel
theorem dX10_undo_45 : decode cX10_undo 45 = .ok (.aload_n 0, 1) := by decide +kernel
theorem dX10_undo_46 : decode cX10_undo 46 = .ok (.getfield 212, 3) := by decide +kernel
theorem dX10_undo_49 : decode cX10_undo 49 = .ok (.imul, 1) := by decide +kernel
theorem dX10_undo_50 : decode cX10_undo 50 = .ok (.iload_n 1, 1) := by decide +kernel
theorem dX10_undo_51 : decode cX10_undo 51 = .ok (.iadd, 1) := by decide +kernel
theorem dX10_undo_52 : decode cX10_undo 52 = .ok (.iaload, 1) := by decide +kernel
theorem dX10_undo_53 : decode cX10_undo 53 = .ok (.iastore, 1) := by decide +kernel
theorem dX10_undo_54 : decode cX10_undo 54 = .ok (.iinc 1 1, 3) := by decide +kernel
theorem dX10_undo_57 : decode cX10_undo 57 = .ok (.goto (-31), 3) := by decide +kernel
theorem dX10_undo_60 : decode cX10_undo 60 = .ok (.aload_n 0, 1) := by decide +kernel
theorem dX10_undo_61 : decode cX10_undo 61 = .ok (.getfield 212, 3) := by decide +kernel
theorem dX10_undo_64 : decode cX10_undo 64 = .ok (.ireturn, 1) := by decide +kernel
abbrev m_X10_undo : MD := (yX10_undo, cX10_undo, 2, (some .int))

abbrev w_X10_undo (g : GT) (h0 h1 h2 : Nat) (v0_1 v0_2 v0_3 v0_4 v0_5 v0_6 v0_7 v0_8 v0_9 v0_10 v0_11 v0_12 v0_13 v0_14 v0_15 v0_16 v0_17 v0_18 v0_19 v0_20 v0_24 v0_25 v0_26 v0_27 v0_28 v0_29 v0_30 v0_31 v0_32 v0_33 v0_34 v0_35 v0_36 v0_37 : Value) (thrown0 depth0 : Int32) (history1 state2 : Nat → Int32) : va_W := [(h0, .inr (10, [.int thrown0, v0_1, v0_2, v0_3, v0_4, v0_5, v0_6, v0_7, v0_8, v0_9, v0_10, v0_11, v0_12, v0_13, v0_14, v0_15, v0_16, v0_17, v0_18, v0_19, v0_20, .ref h2, .ref h1, .int depth0, v0_24, v0_25, v0_26, v0_27, v0_28, v0_29, v0_30, v0_31, v0_32, v0_33, v0_34, v0_35, v0_36, v0_37])), (h1, aI g 25240 history1), (h2, aI g 2524 state2)]
def f_X10_undo_h26 (F : Nat) (history1 : Nat → Int32) (k26 : (Int32 × Int32 × Int32 × (Nat → Int32)) → Option (Int32 × Int32 × Int32 × (Nat → Int32))) (x1 thrown0 depth0 : Int32) (state2 : Nat → Int32) : Option (Int32 × Int32 × Int32 × (Nat → Int32)) :=
  if 2524 ≤ x1 then
    some (depth0, thrown0, depth0, state2)
  else
    rd history1 25240 ((2524 * depth0) + x1) fun a2 =>
    wr state2 2524 x1 a2 fun f3 =>
    k26 (x1 + 1, thrown0, depth0, f3)
def f_X10_undo_L26 (F : Nat) (history1 : Nat → Int32) (z : Int32 × Int32 × Int32 × (Nat → Int32)) : Option (Int32 × Int32 × Int32 × (Nat → Int32)) := lp (fun k z => f_X10_undo_h26 F history1 k z.1 z.2.1 z.2.2.1 z.2.2.2) F z
def f_X10_undo (F : Nat) (thrown0 depth0 : Int32) (history1 state2 : Nat → Int32) : Option (Int32 × Int32 × Int32 × (Nat → Int32)) :=
  if depth0 = 0 then
    some ((-1), 0, depth0, state2)
  else
    f_X10_undo_L26 F history1 (0, 0, depth0 - 1, state2)
set_option maxHeartbeats 4000000 in
set_option maxRecDepth 100000 in
theorem c_X10_undo (l : Launch) (g : GT) (F : Nat) (h0 h1 h2 : Nat) (v0_1 v0_2 v0_3 v0_4 v0_5 v0_6 v0_7 v0_8 v0_9 v0_10 v0_11 v0_12 v0_13 v0_14 v0_15 v0_16 v0_17 v0_18 v0_19 v0_20 v0_24 v0_25 v0_26 v0_27 v0_28 v0_29 v0_30 v0_31 v0_32 v0_33 v0_34 v0_35 v0_36 v0_37 : Value) (thrown0 depth0 : Int32) (history1 state2 : Nat → Int32) (r o_thrown0 o_depth0 : Int32) (o_state2 : Nat → Int32) (sz : Nat) (hf : f_X10_undo F thrown0 depth0 history1 state2 = some (r, o_thrown0, o_depth0, o_state2)) : CI l m_X10_undo (rml 0 0 0) g (w_X10_undo g h0 h1 h2 v0_1 v0_2 v0_3 v0_4 v0_5 v0_6 v0_7 v0_8 v0_9 v0_10 v0_11 v0_12 v0_13 v0_14 v0_15 v0_16 v0_17 v0_18 v0_19 v0_20 v0_24 v0_25 v0_26 v0_27 v0_28 v0_29 v0_30 v0_31 v0_32 v0_33 v0_34 v0_35 v0_36 v0_37 thrown0 depth0 history1 state2) (fun _ => w_X10_undo g h0 h1 h2 v0_1 v0_2 v0_3 v0_4 v0_5 v0_6 v0_7 v0_8 v0_9 v0_10 v0_11 v0_12 v0_13 v0_14 v0_15 v0_16 v0_17 v0_18 v0_19 v0_20 v0_24 v0_25 v0_26 v0_27 v0_28 v0_29 v0_30 v0_31 v0_32 v0_33 v0_34 v0_35 v0_36 v0_37 o_thrown0 o_depth0 history1 o_state2) sz [.ref h0] r := by
  refine en_i (by decide) (Nat.le_of_ble_eq_true rfl) (fun p e s m args below meth c A ls C w hl => ?_)
  have C : Cx p s m args meth c RX10 m_X10_undo g A := C
  have hx := C.1
  have hb : c.code = cX10_undo := C.2.1
  have hl : lv_has ls 2 [(0, .ref h0)] := hl
  obtain ⟨Q, hQ⟩ : ∃ Q, Q = QI below args s g A (fun _ => w_X10_undo g h0 h1 h2 v0_1 v0_2 v0_3 v0_4 v0_5 v0_6 v0_7 v0_8 v0_9 v0_10 v0_11 v0_12 v0_13 v0_14 v0_15 v0_16 v0_17 v0_18 v0_19 v0_20 v0_24 v0_25 v0_26 v0_27 v0_28 v0_29 v0_30 v0_31 v0_32 v0_33 v0_34 v0_35 v0_36 v0_37 o_thrown0 o_depth0 history1 o_state2) r 0 0 := ⟨_, rfl⟩
  suffices hW : W p l e (rml 0 0 0) s m args below meth c s.heap [] 0 0 Q (F0 m 0 ls []) from (by rw [hQ] at hW; exact hW)
  unfold f_X10_undo at hf
  have L26 : ∀ (z : Int32 × Int32 × Int32 × (Nat → Int32)), f_X10_undo_L26 F history1 z = some (r, o_thrown0, o_depth0, o_state2) → ∀ (H : Heap) (locs : List Loc) (ls : Array Slot), Wd g A (w_X10_undo g h0 h1 h2 v0_1 v0_2 v0_3 v0_4 v0_5 v0_6 v0_7 v0_8 v0_9 v0_10 v0_11 v0_12 v0_13 v0_14 v0_15 v0_16 v0_17 v0_18 v0_19 v0_20 v0_24 v0_25 v0_26 v0_27 v0_28 v0_29 v0_30 v0_31 v0_32 v0_33 v0_34 v0_35 v0_36 v0_37 z.2.1 z.2.2.1 history1 z.2.2.2) s.heap H locs → lv_has ls 2 [(0, .ref h0), (1, .int z.1)] → W p l e (rml 0 0 0) s m args below meth c H locs 0 0 Q (F0 m 26 ls []) := by
    intro z hf
    refine lp_W (r := (r, o_thrown0, o_depth0, o_state2)) (fun (z : Int32 × Int32 × Int32 × (Nat → Int32)) => ∀ (H : Heap) (locs : List Loc) (ls : Array Slot), Wd g A (w_X10_undo g h0 h1 h2 v0_1 v0_2 v0_3 v0_4 v0_5 v0_6 v0_7 v0_8 v0_9 v0_10 v0_11 v0_12 v0_13 v0_14 v0_15 v0_16 v0_17 v0_18 v0_19 v0_20 v0_24 v0_25 v0_26 v0_27 v0_28 v0_29 v0_30 v0_31 v0_32 v0_33 v0_34 v0_35 v0_36 v0_37 z.2.1 z.2.2.1 history1 z.2.2.2) s.heap H locs → lv_has ls 2 [(0, .ref h0), (1, .int z.1)] → W p l e (rml 0 0 0) s m args below meth c H locs 0 0 Q (F0 m 26 ls [])) (fun k26 z ih26 hf => ?_) F z hf
    obtain ⟨x1, thrown0, depth0, state2⟩ := z
    intro H locs ls w hl
    try dsimp only at hf w hl ⊢
    unfold f_X10_undo_h26 at hf
    refine lv_iload_n hx hb dX10_undo_26 rfl (lv_at hl 1 rfl) ?_
    refine lv_sipush (v := 2524) hx hb dX10_undo_27 (by decide) ?_
    refine lv_icmp_ge (tgt := 60) hx hb dX10_undo_30 (by decide) (fun c1 => ?_) (fun c1 => ?_)
    · replace hf := it_t c1 hf
      refine lv_aload_n hx hb dX10_undo_60 rfl (lv_at hl 0 rfl) ?_
      refine g_X10_212 C w 0 rfl rfl dX10_undo_61 ?_
      obtain ⟨e1, e2, e3, e4⟩ := tp4 hf
      rw [hQ]
      exact rt_i C w rfl (fun _ => 0) (by rw [← e2, ← e3, ← e4]) e1 dX10_undo_64
    · replace hf := it_f c1 hf
      refine lv_aload_n hx hb dX10_undo_33 rfl (lv_at hl 0 rfl) ?_
      refine g_X10_44 C w 0 rfl rfl dX10_undo_34 ?_
      refine lv_iload_n hx hb dX10_undo_37 rfl (lv_at hl 1 rfl) ?_
      refine lv_aload_n hx hb dX10_undo_38 rfl (lv_at hl 0 rfl) ?_
      refine g_X10_47 C w 0 rfl rfl dX10_undo_39 ?_
      refine lv_sipush (v := 2524) hx hb dX10_undo_42 (by decide) ?_
      refine lv_aload_n hx hb dX10_undo_45 rfl (lv_at hl 0 rfl) ?_
      refine g_X10_212 C w 0 rfl rfl dX10_undo_46 ?_
      refine lv_imul hx hb dX10_undo_49 ?_
      refine lv_iload_n hx hb dX10_undo_50 rfl (lv_at hl 1 rfl) ?_
      refine lv_iadd hx hb dX10_undo_51 ?_
      obtain ⟨a2, hia2, haa2, hf⟩ := rd_some hf
      refine ial C w 1 rfl hia2 haa2 dX10_undo_52 ?_
      obtain ⟨f3, hif3, haf3, hf⟩ := wr_some hf
      refine ias C w 2 rfl hif3 haf3 (ws2 := w_X10_undo g h0 h1 h2 v0_1 v0_2 v0_3 v0_4 v0_5 v0_6 v0_7 v0_8 v0_9 v0_10 v0_11 v0_12 v0_13 v0_14 v0_15 v0_16 v0_17 v0_18 v0_19 v0_20 v0_24 v0_25 v0_26 v0_27 v0_28 v0_29 v0_30 v0_31 v0_32 v0_33 v0_34 v0_35 v0_36 v0_37 thrown0 depth0 history1 f3) rfl dX10_undo_53 (fun H locs w => ?_)
      refine lv_iinc (v := x1 + 1) (lv' := [(1, .int (x1 + 1)), (0, .ref h0)]) hx hb dX10_undo_54 hl (k := 1) rfl rfl (by decide) rfl (fun ls hl => ?_)
      refine lv_goto (tgt := 26) hx hb dX10_undo_57 (by decide) ?_
      exact ih26 (x1 + 1, thrown0, depth0, f3) hf _ _ _ w (lv_sub hl [1, 0] rfl)
  refine lv_aload_n hx hb dX10_undo_0 rfl (lv_at hl 0 rfl) ?_
  refine lv_iconst (v := 0) hx hb dX10_undo_1 (by decide) ?_
  refine p_X10_84 C w 0 rfl (Nat.le_of_ble_eq_true rfl) (ws2 := w_X10_undo g h0 h1 h2 v0_1 v0_2 v0_3 v0_4 v0_5 v0_6 v0_7 v0_8 v0_9 v0_10 v0_11 v0_12 v0_13 v0_14 v0_15 v0_16 v0_17 v0_18 v0_19 v0_20 v0_24 v0_25 v0_26 v0_27 v0_28 v0_29 v0_30 v0_31 v0_32 v0_33 v0_34 v0_35 v0_36 v0_37 0 depth0 history1 state2) rfl dX10_undo_2 (fun H locs w => ?_)
  refine lv_aload_n hx hb dX10_undo_5 rfl (lv_at hl 0 rfl) ?_
  refine g_X10_212 C w 0 rfl rfl dX10_undo_6 ?_
  refine lv_if_ne (tgt := 14) hx hb dX10_undo_9 (by decide) (fun c4 => ?_) (fun c4 => ?_)
  · replace hf := it_f c4 hf
    refine lv_aload_n hx hb dX10_undo_14 rfl (lv_at hl 0 rfl) ?_
    refine lv_dup hx hb dX10_undo_15 rfl ?_
    refine g_X10_212 C w 0 rfl rfl dX10_undo_16 ?_
    refine lv_iconst (v := 1) hx hb dX10_undo_19 (by decide) ?_
    refine lv_isub hx hb dX10_undo_20 ?_
    refine p_X10_212 C w 0 rfl (Nat.le_of_ble_eq_true rfl) (ws2 := w_X10_undo g h0 h1 h2 v0_1 v0_2 v0_3 v0_4 v0_5 v0_6 v0_7 v0_8 v0_9 v0_10 v0_11 v0_12 v0_13 v0_14 v0_15 v0_16 v0_17 v0_18 v0_19 v0_20 v0_24 v0_25 v0_26 v0_27 v0_28 v0_29 v0_30 v0_31 v0_32 v0_33 v0_34 v0_35 v0_36 v0_37 0 (depth0 - 1) history1 state2) rfl dX10_undo_21 (fun H locs w => ?_)
    refine lv_iconst (v := 0) hx hb dX10_undo_24 (by decide) ?_
    refine lv_istore_n (lv' := [(1, .int 0), (0, .ref h0)]) hx hb dX10_undo_25 rfl hl (by decide) rfl (fun ls hl => ?_)
    exact L26 (0, 0, depth0 - 1, state2) hf _ _ _ w (lv_sub hl [1, 0] rfl)
  · replace hf := it_t c4 hf
    refine lv_iconst (v := -1) hx hb dX10_undo_12 (by decide) ?_
    obtain ⟨e1, e2, e3, e4⟩ := tp4 hf
    rw [hQ]
    exact rt_i C w rfl (fun _ => 0) (by rw [← e2, ← e3, ← e4]) e1 dX10_undo_13

theorem dX10_saveSnapshot_0 : decode cX10_saveSnapshot 0 = .ok (.aload_n 0, 1) := by decide +kernel
theorem dX10_saveSnapshot_1 : decode cX10_saveSnapshot 1 = .ok (.iconst 0, 1) := by decide +kernel
theorem dX10_saveSnapshot_2 : decode cX10_saveSnapshot 2 = .ok (.putfield 84, 3) := by decide +kernel
theorem dX10_saveSnapshot_5 : decode cX10_saveSnapshot 5 = .ok (.iload_n 1, 1) := by decide +kernel
theorem dX10_saveSnapshot_6 : decode cX10_saveSnapshot 6 = .ok (.i2l, 1) := by decide +kernel
theorem dX10_saveSnapshot_7 : decode cX10_saveSnapshot 7 = .ok (.lconst 0, 1) := by decide +kernel
theorem dX10_saveSnapshot_8 : decode cX10_saveSnapshot 8 = .ok (.lconst 1, 1) := by decide +kernel
theorem dX10_saveSnapshot_9 : decode cX10_saveSnapshot 9 = .ok (.invokestatic 115, 3) := by decide +kernel
theorem dX10_saveSnapshot_12 : decode cX10_saveSnapshot 12 = .ok (.ifCond .ne 5, 3) := by decide +kernel
theorem dX10_saveSnapshot_15 : decode cX10_saveSnapshot 15 = .ok (.iconst 0, 1) := by decide +kernel
theorem dX10_saveSnapshot_16 : decode cX10_saveSnapshot 16 = .ok (.ireturn, 1) := by decide +kernel
theorem dX10_saveSnapshot_17 : decode cX10_saveSnapshot 17 = .ok (.iconst 0, 1) := by decide +kernel
theorem dX10_saveSnapshot_18 : decode cX10_saveSnapshot 18 = .ok (.istore_n 2, 1) := by decide +kernel
theorem dX10_saveSnapshot_19 : decode cX10_saveSnapshot 19 = .ok (.iload_n 2, 1) := by decide +kernel
theorem dX10_saveSnapshot_20 : decode cX10_saveSnapshot 20 = .ok (.sipush 2524, 3) := by decide +kernel
theorem dX10_saveSnapshot_23 : decode cX10_saveSnapshot 23 = .ok (.if_icmp .ge 27, 3) := by decide +kernel
theorem dX10_saveSnapshot_26 : decode cX10_saveSnapshot 26 = .ok (.aload_n 0, 1) := by decide +kernel
theorem dX10_saveSnapshot_27 : decode cX10_saveSnapshot 27 = .ok (.getfield 50, 3) := by decide +kernel
theorem dX10_saveSnapshot_30 : decode cX10_saveSnapshot 30 = .ok (.sipush 2524, 3) := by decide +kernel
theorem dX10_saveSnapshot_33 : decode cX10_saveSnapshot 33 = .ok (.iload_n 1, 1) := by decide +kernel
theorem dX10_saveSnapshot_34 : decode cX10_saveSnapshot 34 = .ok (.imul, 1) := by decide +kernel
theorem dX10_saveSnapshot_35 : decode cX10_saveSnapshot 35 = .ok (.iload_n 2, 1) := by decide +kernel
theorem dX10_saveSnapshot_36 : decode cX10_saveSnapshot 36 = .ok (.iadd, 1) := by decide +kernel
theorem dX10_saveSnapshot_37 : decode cX10_saveSnapshot 37 = .ok (.aload_n 0, 1) := by decide +kernel
theorem dX10_saveSnapshot_38 : decode cX10_saveSnapshot 38 = .ok (.getfield 44, 3) := by decide +kernel
theorem dX10_saveSnapshot_41 : decode cX10_saveSnapshot 41 = .ok (.iload_n 2, 1) := by decide +kernel
theorem dX10_saveSnapshot_42 : decode cX10_saveSnapshot 42 = .ok (.iaload, 1) := by decide +kernel
theorem dX10_saveSnapshot_43 : decode cX10_saveSnapshot 43 = .ok (.iastore, 1) := by decide +kernel
theorem dX10_saveSnapshot_44 : decode cX10_saveSnapshot 44 = .ok (.iinc 2 1, 3) := by decide +kernel
theorem dX10_saveSnapshot_47 : decode cX10_saveSnapshot 47 = .ok (.goto (-28), 3) := by decide +kernel
theorem dX10_saveSnapshot_50 : decode cX10_saveSnapshot 50 = .ok (.aload_n 0, 1) := by decide +kernel
theorem dX10_saveSnapshot_51 : decode cX10_saveSnapshot 51 = .ok (.getfield 53, 3) := by decide +kernel
theorem dX10_saveSnapshot_54 : decode cX10_saveSnapshot 54 = .ok (.iload_n 1, 1) := by decide +kernel
theorem dX10_saveSnapshot_55 : decode cX10_saveSnapshot 55 = .ok (.iconst 1, 1) := by decide +kernel
theorem dX10_saveSnapshot_56 : decode cX10_saveSnapshot 56 = .ok (.bastore, 1) := by decide +kernel
theorem dX10_saveSnapshot_57 : decode cX10_saveSnapshot 57 = .ok (.iconst 1, 1) := by decide +kernel
theorem dX10_saveSnapshot_58 : decode cX10_saveSnapshot 58 = .ok (.ireturn, 1) := by decide +kernel
abbrev m_X10_saveSnapshot : MD := (yX10_saveSnapshot, cX10_saveSnapshot, 3, (some .boolean))
theorem g_X10_50 {p : Program} {l : Launch} {e : Env} {R : Room} {s : State} {m : MethodId} {args : Array Value} {below : List Frame} {meth : Method} {c : Code} {H : Heap} {locs : List Loc} {cells slots : Nat} {Q : State → Prop} {d : MD} {g : GT} {A : Nat → Prop} {ws : va_W} {pc : Nat} {ls : Array Slot} {rest : List Value} (C : Cx p s m args meth c RX10 d g A) (w : Wd g A ws s.heap H locs) (q0 : Nat) {a : Nat} {fs : List Value} {v : Value} (he : ws[q0]? = some (a, .inr (10, fs))) (hv : fs[24]? = some v) (hd : decode d.2.1 pc = .ok (.getfield 50, 3)) (kk : W p l e R s m args below meth c H locs cells slots Q (F0 m (pc + 3) ls (v :: rest))) : W p l e R s m args below meth c H locs cells slots Q (F0 m pc ls (.ref a :: rest)) := fg C w inX10s (ref := RX10) rfl 24 (by decide) (ts_t (w := Cond.fieldLink RX10 50 RX10 (TX10 24).2.1 (TX10 24).2.2.1) 1246 (by decide +kernel) (by decide +kernel)) rfl q0 he hv hd kk
abbrev w_X10_saveSnapshot (g : GT) (h0 h1 h2 h3 : Nat) (v0_1 v0_2 v0_3 v0_4 v0_5 v0_6 v0_7 v0_8 v0_9 v0_10 v0_11 v0_12 v0_13 v0_14 v0_15 v0_16 v0_17 v0_18 v0_19 v0_20 v0_22 v0_23 v0_26 v0_27 v0_28 v0_29 v0_30 v0_31 v0_32 v0_33 v0_34 v0_35 v0_36 v0_37 : Value) (thrown0 : Int32) (isSaved1 slots2 state3 : Nat → Int32) : va_W := [(h0, .inr (10, [.int thrown0, v0_1, v0_2, v0_3, v0_4, v0_5, v0_6, v0_7, v0_8, v0_9, v0_10, v0_11, v0_12, v0_13, v0_14, v0_15, v0_16, v0_17, v0_18, v0_19, v0_20, .ref h3, v0_22, v0_23, .ref h2, .ref h1, v0_26, v0_27, v0_28, v0_29, v0_30, v0_31, v0_32, v0_33, v0_34, v0_35, v0_36, v0_37])), (h1, aZ g 2 isSaved1), (h2, aI g 5048 slots2), (h3, aI g 2524 state3)]
def f_X10_saveSnapshot_h19 (F : Nat) (state3 : Nat → Int32) (k19 : (Int32 × Int32 × Int32 × (Nat → Int32) × (Nat → Int32)) → Option (Int32 × Int32 × (Nat → Int32) × (Nat → Int32))) (x1 x2 thrown0 : Int32) (isSaved1 slots2 : Nat → Int32) : Option (Int32 × Int32 × (Nat → Int32) × (Nat → Int32)) :=
  if 2524 ≤ x2 then
    wr isSaved1 2 x1 (vp_nar .boolean 1) fun f2 =>
    gd ((1 : Int32) = 0 ∨ (1 : Int32) = 1) (some (1, thrown0, f2, slots2))
  else
    rd state3 2524 x2 fun a3 =>
    wr slots2 5048 ((2524 * x1) + x2) a3 fun f4 =>
    k19 (x1, x2 + 1, thrown0, isSaved1, f4)
def f_X10_saveSnapshot_L19 (F : Nat) (state3 : Nat → Int32) (z : Int32 × Int32 × Int32 × (Nat → Int32) × (Nat → Int32)) : Option (Int32 × Int32 × (Nat → Int32) × (Nat → Int32)) := lp (fun k z => f_X10_saveSnapshot_h19 F state3 k z.1 z.2.1 z.2.2.1 z.2.2.2.1 z.2.2.2.2) F z
def f_X10_saveSnapshot (F : Nat) (p1 thrown0 : Int32) (isSaved1 slots2 state3 : Nat → Int32) : Option (Int32 × Int32 × (Nat → Int32) × (Nat → Int32)) :=
  bd1 (f_X10_within F p1.toInt64 0 1) fun r5 =>
  if r5 = 0 then
    gd ((0 : Int32) = 0 ∨ (0 : Int32) = 1) (some (0, 0, isSaved1, slots2))
  else
    f_X10_saveSnapshot_L19 F state3 (p1, 0, 0, isSaved1, slots2)
set_option maxHeartbeats 4000000 in
set_option maxRecDepth 100000 in
theorem c_X10_saveSnapshot (l : Launch) (g : GT) (F : Nat) (h0 h1 h2 h3 : Nat) (v0_1 v0_2 v0_3 v0_4 v0_5 v0_6 v0_7 v0_8 v0_9 v0_10 v0_11 v0_12 v0_13 v0_14 v0_15 v0_16 v0_17 v0_18 v0_19 v0_20 v0_22 v0_23 v0_26 v0_27 v0_28 v0_29 v0_30 v0_31 v0_32 v0_33 v0_34 v0_35 v0_36 v0_37 : Value) (p1 thrown0 : Int32) (isSaved1 slots2 state3 : Nat → Int32) (r o_thrown0 : Int32) (o_isSaved1 o_slots2 : Nat → Int32) (sz : Nat) (hf : f_X10_saveSnapshot F p1 thrown0 isSaved1 slots2 state3 = some (r, o_thrown0, o_isSaved1, o_slots2)) : CI l m_X10_saveSnapshot (rml 1 0 0) g (w_X10_saveSnapshot g h0 h1 h2 h3 v0_1 v0_2 v0_3 v0_4 v0_5 v0_6 v0_7 v0_8 v0_9 v0_10 v0_11 v0_12 v0_13 v0_14 v0_15 v0_16 v0_17 v0_18 v0_19 v0_20 v0_22 v0_23 v0_26 v0_27 v0_28 v0_29 v0_30 v0_31 v0_32 v0_33 v0_34 v0_35 v0_36 v0_37 thrown0 isSaved1 slots2 state3) (fun _ => w_X10_saveSnapshot g h0 h1 h2 h3 v0_1 v0_2 v0_3 v0_4 v0_5 v0_6 v0_7 v0_8 v0_9 v0_10 v0_11 v0_12 v0_13 v0_14 v0_15 v0_16 v0_17 v0_18 v0_19 v0_20 v0_22 v0_23 v0_26 v0_27 v0_28 v0_29 v0_30 v0_31 v0_32 v0_33 v0_34 v0_35 v0_36 v0_37 o_thrown0 o_isSaved1 o_slots2 state3) sz [.ref h0, .int p1] r := by
  refine en_i (by decide) (Nat.le_of_ble_eq_true rfl) (fun p e s m args below meth c A ls C w hl => ?_)
  have C : Cx p s m args meth c RX10 m_X10_saveSnapshot g A := C
  have hx := C.1
  have hb : c.code = cX10_saveSnapshot := C.2.1
  have hl : lv_has ls 3 [(0, .ref h0), (1, .int p1)] := hl
  obtain ⟨Q, hQ⟩ : ∃ Q, Q = QI below args s g A (fun _ => w_X10_saveSnapshot g h0 h1 h2 h3 v0_1 v0_2 v0_3 v0_4 v0_5 v0_6 v0_7 v0_8 v0_9 v0_10 v0_11 v0_12 v0_13 v0_14 v0_15 v0_16 v0_17 v0_18 v0_19 v0_20 v0_22 v0_23 v0_26 v0_27 v0_28 v0_29 v0_30 v0_31 v0_32 v0_33 v0_34 v0_35 v0_36 v0_37 o_thrown0 o_isSaved1 o_slots2 state3) r 0 0 := ⟨_, rfl⟩
  suffices hW : W p l e (rml 1 0 0) s m args below meth c s.heap [] 0 0 Q (F0 m 0 ls []) from (by rw [hQ] at hW; exact hW)
  unfold f_X10_saveSnapshot at hf
  have L19 : ∀ (z : Int32 × Int32 × Int32 × (Nat → Int32) × (Nat → Int32)), f_X10_saveSnapshot_L19 F state3 z = some (r, o_thrown0, o_isSaved1, o_slots2) → ∀ (H : Heap) (locs : List Loc) (ls : Array Slot), Wd g A (w_X10_saveSnapshot g h0 h1 h2 h3 v0_1 v0_2 v0_3 v0_4 v0_5 v0_6 v0_7 v0_8 v0_9 v0_10 v0_11 v0_12 v0_13 v0_14 v0_15 v0_16 v0_17 v0_18 v0_19 v0_20 v0_22 v0_23 v0_26 v0_27 v0_28 v0_29 v0_30 v0_31 v0_32 v0_33 v0_34 v0_35 v0_36 v0_37 z.2.2.1 z.2.2.2.1 z.2.2.2.2 state3) s.heap H locs → lv_has ls 3 [(0, .ref h0), (1, .int z.1), (2, .int z.2.1)] → W p l e (rml 1 0 0) s m args below meth c H locs 0 0 Q (F0 m 19 ls []) := by
    intro z hf
    refine lp_W (r := (r, o_thrown0, o_isSaved1, o_slots2)) (fun (z : Int32 × Int32 × Int32 × (Nat → Int32) × (Nat → Int32)) => ∀ (H : Heap) (locs : List Loc) (ls : Array Slot), Wd g A (w_X10_saveSnapshot g h0 h1 h2 h3 v0_1 v0_2 v0_3 v0_4 v0_5 v0_6 v0_7 v0_8 v0_9 v0_10 v0_11 v0_12 v0_13 v0_14 v0_15 v0_16 v0_17 v0_18 v0_19 v0_20 v0_22 v0_23 v0_26 v0_27 v0_28 v0_29 v0_30 v0_31 v0_32 v0_33 v0_34 v0_35 v0_36 v0_37 z.2.2.1 z.2.2.2.1 z.2.2.2.2 state3) s.heap H locs → lv_has ls 3 [(0, .ref h0), (1, .int z.1), (2, .int z.2.1)] → W p l e (rml 1 0 0) s m args below meth c H locs 0 0 Q (F0 m 19 ls [])) (fun k19 z ih19 hf => ?_) F z hf
    obtain ⟨x1, x2, thrown0, isSaved1, slots2⟩ := z
    intro H locs ls w hl
    try dsimp only at hf w hl ⊢
    unfold f_X10_saveSnapshot_h19 at hf
    refine lv_iload_n hx hb dX10_saveSnapshot_19 rfl (lv_at hl 2 rfl) ?_
    refine lv_sipush (v := 2524) hx hb dX10_saveSnapshot_20 (by decide) ?_
    refine lv_icmp_ge (tgt := 50) hx hb dX10_saveSnapshot_23 (by decide) (fun c1 => ?_) (fun c1 => ?_)
    · replace hf := it_t c1 hf
      refine lv_aload_n hx hb dX10_saveSnapshot_50 rfl (lv_at hl 0 rfl) ?_
      refine g_X10_53 C w 0 rfl rfl dX10_saveSnapshot_51 ?_
      refine lv_iload_n hx hb dX10_saveSnapshot_54 rfl (lv_at hl 1 rfl) ?_
      refine lv_iconst (v := 1) hx hb dX10_saveSnapshot_55 (by decide) ?_
      obtain ⟨f2, hif2, haf2, hf⟩ := wr_some hf
      refine zas C w 1 rfl hif2 haf2 (ws2 := w_X10_saveSnapshot g h0 h1 h2 h3 v0_1 v0_2 v0_3 v0_4 v0_5 v0_6 v0_7 v0_8 v0_9 v0_10 v0_11 v0_12 v0_13 v0_14 v0_15 v0_16 v0_17 v0_18 v0_19 v0_20 v0_22 v0_23 v0_26 v0_27 v0_28 v0_29 v0_30 v0_31 v0_32 v0_33 v0_34 v0_35 v0_36 v0_37 thrown0 f2 slots2 state3) rfl dX10_saveSnapshot_56 (fun H locs w => ?_)
      refine lv_iconst (v := 1) hx hb dX10_saveSnapshot_57 (by decide) ?_
      obtain ⟨h01, hf⟩ := gd_some hf
      obtain ⟨e1, e2, e3, e4⟩ := tp4 hf
      rw [hQ]
      exact rt_z C w rfl h01 (fun _ => 0) (by rw [← e2, ← e3, ← e4]) e1 dX10_saveSnapshot_58
    · replace hf := it_f c1 hf
      refine lv_aload_n hx hb dX10_saveSnapshot_26 rfl (lv_at hl 0 rfl) ?_
      refine g_X10_50 C w 0 rfl rfl dX10_saveSnapshot_27 ?_
      refine lv_sipush (v := 2524) hx hb dX10_saveSnapshot_30 (by decide) ?_
      refine lv_iload_n hx hb dX10_saveSnapshot_33 rfl (lv_at hl 1 rfl) ?_
      refine lv_imul hx hb dX10_saveSnapshot_34 ?_
      refine lv_iload_n hx hb dX10_saveSnapshot_35 rfl (lv_at hl 2 rfl) ?_
      refine lv_iadd hx hb dX10_saveSnapshot_36 ?_
      refine lv_aload_n hx hb dX10_saveSnapshot_37 rfl (lv_at hl 0 rfl) ?_
      refine g_X10_44 C w 0 rfl rfl dX10_saveSnapshot_38 ?_
      refine lv_iload_n hx hb dX10_saveSnapshot_41 rfl (lv_at hl 2 rfl) ?_
      obtain ⟨a3, hia3, haa3, hf⟩ := rd_some hf
      refine ial C w 3 rfl hia3 haa3 dX10_saveSnapshot_42 ?_
      obtain ⟨f4, hif4, haf4, hf⟩ := wr_some hf
      refine ias C w 2 rfl hif4 haf4 (ws2 := w_X10_saveSnapshot g h0 h1 h2 h3 v0_1 v0_2 v0_3 v0_4 v0_5 v0_6 v0_7 v0_8 v0_9 v0_10 v0_11 v0_12 v0_13 v0_14 v0_15 v0_16 v0_17 v0_18 v0_19 v0_20 v0_22 v0_23 v0_26 v0_27 v0_28 v0_29 v0_30 v0_31 v0_32 v0_33 v0_34 v0_35 v0_36 v0_37 thrown0 isSaved1 f4 state3) rfl dX10_saveSnapshot_43 (fun H locs w => ?_)
      refine lv_iinc (v := x2 + 1) (lv' := [(2, .int (x2 + 1)), (0, .ref h0), (1, .int x1)]) hx hb dX10_saveSnapshot_44 hl (k := 2) rfl rfl (by decide) rfl (fun ls hl => ?_)
      refine lv_goto (tgt := 19) hx hb dX10_saveSnapshot_47 (by decide) ?_
      exact ih19 (x1, x2 + 1, thrown0, isSaved1, f4) hf _ _ _ w (lv_sub hl [1, 2, 0] rfl)
  refine lv_aload_n hx hb dX10_saveSnapshot_0 rfl (lv_at hl 0 rfl) ?_
  refine lv_iconst (v := 0) hx hb dX10_saveSnapshot_1 (by decide) ?_
  refine p_X10_84 C w 0 rfl (Nat.le_of_ble_eq_true rfl) (ws2 := w_X10_saveSnapshot g h0 h1 h2 h3 v0_1 v0_2 v0_3 v0_4 v0_5 v0_6 v0_7 v0_8 v0_9 v0_10 v0_11 v0_12 v0_13 v0_14 v0_15 v0_16 v0_17 v0_18 v0_19 v0_20 v0_22 v0_23 v0_26 v0_27 v0_28 v0_29 v0_30 v0_31 v0_32 v0_33 v0_34 v0_35 v0_36 v0_37 0 isSaved1 slots2 state3) rfl dX10_saveSnapshot_2 (fun H locs w => ?_)
  refine lv_iload_n hx hb dX10_saveSnapshot_5 rfl (lv_at hl 1 rfl) ?_
  refine lv_i2l (v := p1.toInt64) hx hb dX10_saveSnapshot_6 rfl ?_
  refine lv_lconst (v := 0) hx hb dX10_saveSnapshot_7 (by decide) ?_
  refine lv_lconst (v := 1) hx hb dX10_saveSnapshot_8 (by decide) ?_
  obtain ⟨r5, hc6, hf⟩ := bd1_some hf
  refine ca_iS C w (wn := fun _ => w_X10_saveSnapshot g h0 h1 h2 h3 v0_1 v0_2 v0_3 v0_4 v0_5 v0_6 v0_7 v0_8 v0_9 v0_10 v0_11 v0_12 v0_13 v0_14 v0_15 v0_16 v0_17 v0_18 v0_19 v0_20 v0_22 v0_23 v0_26 v0_27 v0_28 v0_29 v0_30 v0_31 v0_32 v0_33 v0_34 v0_35 v0_36 v0_37 0 isSaved1 slots2 state3) (pm_k [false, false, false, false] rfl rfl (fun _ => Nat.le_of_ble_eq_true rfl) (fun _ => rfl)) (c_X10_within l g F p1.toInt64 0 1 r5 _ hc6) k_X10_115 (rm_le (by decide) (by decide)) rfl hl.1 rfl (Nat.le_of_ble_eq_true rfl) dX10_saveSnapshot_9 ⟨Nat.le_of_ble_eq_true rfl, Nat.le_of_ble_eq_true rfl⟩ (cells2 := 0) (slots2 := 0) ⟨rfl, rfl⟩ (fun _ H locs w => ?_)
  refine lv_if_ne (tgt := 17) hx hb dX10_saveSnapshot_12 (by decide) (fun c7 => ?_) (fun c7 => ?_)
  · replace hf := it_f c7 hf
    refine lv_iconst (v := 0) hx hb dX10_saveSnapshot_17 (by decide) ?_
    refine lv_istore_n (lv' := [(2, .int 0), (0, .ref h0), (1, .int p1)]) hx hb dX10_saveSnapshot_18 rfl hl (by decide) rfl (fun ls hl => ?_)
    exact L19 (p1, 0, 0, isSaved1, slots2) hf _ _ _ w (lv_sub hl [1, 2, 0] rfl)
  · replace hf := it_t c7 hf
    refine lv_iconst (v := 0) hx hb dX10_saveSnapshot_15 (by decide) ?_
    obtain ⟨h01, hf⟩ := gd_some hf
    obtain ⟨e1, e2, e3, e4⟩ := tp4 hf
    rw [hQ]
    exact rt_z C w rfl h01 (fun _ => 0) (by rw [← e2, ← e3, ← e4]) e1 dX10_saveSnapshot_16

theorem dX10_restoreSnapshot_0 : decode cX10_restoreSnapshot 0 = .ok (.aload_n 0, 1) := by decide +kernel
theorem dX10_restoreSnapshot_1 : decode cX10_restoreSnapshot 1 = .ok (.iconst 0, 1) := by decide +kernel
theorem dX10_restoreSnapshot_2 : decode cX10_restoreSnapshot 2 = .ok (.putfield 84, 3) := by decide +kernel
theorem dX10_restoreSnapshot_5 : decode cX10_restoreSnapshot 5 = .ok (.iload_n 1, 1) := by decide +kernel
theorem dX10_restoreSnapshot_6 : decode cX10_restoreSnapshot 6 = .ok (.i2l, 1) := by decide +kernel
theorem dX10_restoreSnapshot_7 : decode cX10_restoreSnapshot 7 = .ok (.lconst 0, 1) := by decide +kernel
theorem dX10_restoreSnapshot_8 : decode cX10_restoreSnapshot 8 = .ok (.lconst 1, 1) := by decide +kernel
theorem dX10_restoreSnapshot_9 : decode cX10_restoreSnapshot 9 = .ok (.invokestatic 115, 3) := by decide +kernel
theorem dX10_restoreSnapshot_12 : decode cX10_restoreSnapshot 12 = .ok (.ifCond .eq 12, 3) := by decide +kernel
theorem dX10_restoreSnapshot_15 : decode cX10_restoreSnapshot 15 = .ok (.aload_n 0, 1) := by decide +kernel
theorem dX10_restoreSnapshot_16 : decode cX10_restoreSnapshot 16 = .ok (.getfield 53, 3) := by decide +kernel
theorem dX10_restoreSnapshot_19 : decode cX10_restoreSnapshot 19 = .ok (.iload_n 1, 1) := by decide +kernel
theorem dX10_restoreSnapshot_20 : decode cX10_restoreSnapshot 20 = .ok (.baload, 1) := by decide +kernel
theorem dX10_restoreSnapshot_21 : decode cX10_restoreSnapshot 21 = .ok (.ifCond .ne 5, 3) := by decide +kernel
theorem dX10_restoreSnapshot_24 : decode cX10_restoreSnapshot 24 = .ok (.iconst 0, 1) := by decide +kernel
theorem dX10_restoreSnapshot_25 : decode cX10_restoreSnapshot 25 = .ok (.ireturn, 1) := by decide +kernel
theorem dX10_restoreSnapshot_26 : decode cX10_restoreSnapshot 26 = .ok (.iconst 0, 1) := by decide +kernel
theorem dX10_restoreSnapshot_27 : decode cX10_restoreSnapshot 27 = .ok (.istore_n 2, 1) := by decide +kernel
theorem dX10_restoreSnapshot_28 : decode cX10_restoreSnapshot 28 = .ok (.iload_n 2, 1) := by decide +kernel
theorem dX10_restoreSnapshot_29 : decode cX10_restoreSnapshot 29 = .ok (.sipush 2524, 3) := by decide +kernel
theorem dX10_restoreSnapshot_32 : decode cX10_restoreSnapshot 32 = .ok (.if_icmp .ge 27, 3) := by decide +kernel
theorem dX10_restoreSnapshot_35 : decode cX10_restoreSnapshot 35 = .ok (.aload_n 0, 1) := by decide +kernel
theorem dX10_restoreSnapshot_36 : decode cX10_restoreSnapshot 36 = .ok (.getfield 44, 3) := by decide +kernel
theorem dX10_restoreSnapshot_39 : decode cX10_restoreSnapshot 39 = .ok (.iload_n 2, 1) := by decide +kernel
theorem dX10_restoreSnapshot_40 : decode cX10_restoreSnapshot 40 = .ok (.aload_n 0, 1) := by decide +kernel
theorem dX10_restoreSnapshot_41 : decode cX10_restoreSnapshot 41 = .ok (.getfield 50, 3) := by decide +kernel
theorem dX10_restoreSnapshot_44 : decode cX10_restoreSnapshot 44 = .ok (.sipush 2524, 3) := by decide +kernel
theorem dX10_restoreSnapshot_47 : decode cX10_restoreSnapshot 47 = .ok (.iload_n 1, 1) := by decide +kernel
theorem dX10_restoreSnapshot_48 : decode cX10_restoreSnapshot 48 = .ok (.imul, 1) := by decide +kernel
theorem dX10_restoreSnapshot_49 : decode cX10_restoreSnapshot 49 = .ok (.iload_n 2, 1) := by decide +kernel
theorem dX10_restoreSnapshot_50 : decode cX10_restoreSnapshot 50 = .ok (.iadd, 1) := by decide +kernel
theorem dX10_restoreSnapshot_51 : decode cX10_restoreSnapshot 51 = .ok (.iaload, 1) := by decide +kernel
theorem dX10_restoreSnapshot_52 : decode cX10_restoreSnapshot 52 = .ok (.iastore, 1) := by decide +kernel
theorem dX10_restoreSnapshot_53 : decode cX10_restoreSnapshot 53 = .ok (.iinc 2 1, 3) := by decide +kernel
theorem dX10_restoreSnapshot_56 : decode cX10_restoreSnapshot 56 = .ok (.goto (-28), 3) := by decide +kernel
theorem dX10_restoreSnapshot_59 : decode cX10_restoreSnapshot 59 = .ok (.aload_n 0, 1) := by decide +kernel
theorem dX10_restoreSnapshot_60 : decode cX10_restoreSnapshot 60 = .ok (.iconst 0, 1) := by decide +kernel
theorem dX10_restoreSnapshot_61 : decode cX10_restoreSnapshot 61 = .ok (.putfield 212, 3) := by decide +kernel
theorem dX10_restoreSnapshot_64 : decode cX10_restoreSnapshot 64 = .ok (.iconst 1, 1) := by decide +kernel
theorem dX10_restoreSnapshot_65 : decode cX10_restoreSnapshot 65 = .ok (.ireturn, 1) := by decide +kernel
abbrev m_X10_restoreSnapshot : MD := (yX10_restoreSnapshot, cX10_restoreSnapshot, 3, (some .boolean))

abbrev w_X10_restoreSnapshot (g : GT) (h0 h1 h2 h3 : Nat) (v0_1 v0_2 v0_3 v0_4 v0_5 v0_6 v0_7 v0_8 v0_9 v0_10 v0_11 v0_12 v0_13 v0_14 v0_15 v0_16 v0_17 v0_18 v0_19 v0_20 v0_22 v0_26 v0_27 v0_28 v0_29 v0_30 v0_31 v0_32 v0_33 v0_34 v0_35 v0_36 v0_37 : Value) (thrown0 depth0 : Int32) (isSaved1 slots2 state3 : Nat → Int32) : va_W := [(h0, .inr (10, [.int thrown0, v0_1, v0_2, v0_3, v0_4, v0_5, v0_6, v0_7, v0_8, v0_9, v0_10, v0_11, v0_12, v0_13, v0_14, v0_15, v0_16, v0_17, v0_18, v0_19, v0_20, .ref h3, v0_22, .int depth0, .ref h2, .ref h1, v0_26, v0_27, v0_28, v0_29, v0_30, v0_31, v0_32, v0_33, v0_34, v0_35, v0_36, v0_37])), (h1, aZ g 2 isSaved1), (h2, aI g 5048 slots2), (h3, aI g 2524 state3)]
def f_X10_restoreSnapshot_h28 (F : Nat) (isSaved1 slots2 : Nat → Int32) (k28 : (Int32 × Int32 × Int32 × Int32 × (Nat → Int32)) → Option (Int32 × Int32 × Int32 × (Nat → Int32))) (x1 x2 thrown0 depth0 : Int32) (state3 : Nat → Int32) : Option (Int32 × Int32 × Int32 × (Nat → Int32)) :=
  if 2524 ≤ x2 then
    gd ((1 : Int32) = 0 ∨ (1 : Int32) = 1) (some (1, thrown0, 0, state3))
  else
    rd slots2 5048 ((2524 * x1) + x2) fun a2 =>
    wr state3 2524 x2 a2 fun f3 =>
    k28 (x1, x2 + 1, thrown0, depth0, f3)
def f_X10_restoreSnapshot_L28 (F : Nat) (isSaved1 slots2 : Nat → Int32) (z : Int32 × Int32 × Int32 × Int32 × (Nat → Int32)) : Option (Int32 × Int32 × Int32 × (Nat → Int32)) := lp (fun k z => f_X10_restoreSnapshot_h28 F isSaved1 slots2 k z.1 z.2.1 z.2.2.1 z.2.2.2.1 z.2.2.2.2) F z
def f_X10_restoreSnapshot_b24 (F : Nat) (isSaved1 slots2 : Nat → Int32) (thrown0 depth0 : Int32) (state3 : Nat → Int32) : Option (Int32 × Int32 × Int32 × (Nat → Int32)) :=
  gd ((0 : Int32) = 0 ∨ (0 : Int32) = 1) (some (0, thrown0, depth0, state3))
def f_X10_restoreSnapshot (F : Nat) (p1 thrown0 depth0 : Int32) (isSaved1 slots2 state3 : Nat → Int32) : Option (Int32 × Int32 × Int32 × (Nat → Int32)) :=
  bd1 (f_X10_within F p1.toInt64 0 1) fun r4 =>
  if r4 = 0 then
    f_X10_restoreSnapshot_b24 F isSaved1 slots2 0 depth0 state3
  else
    rd isSaved1 2 p1 fun a7 =>
    if a7 = 0 then
      f_X10_restoreSnapshot_b24 F isSaved1 slots2 0 depth0 state3
    else
      f_X10_restoreSnapshot_L28 F isSaved1 slots2 (p1, 0, 0, depth0, state3)
set_option maxHeartbeats 4000000 in
set_option maxRecDepth 100000 in
theorem c_X10_restoreSnapshot (l : Launch) (g : GT) (F : Nat) (h0 h1 h2 h3 : Nat) (v0_1 v0_2 v0_3 v0_4 v0_5 v0_6 v0_7 v0_8 v0_9 v0_10 v0_11 v0_12 v0_13 v0_14 v0_15 v0_16 v0_17 v0_18 v0_19 v0_20 v0_22 v0_26 v0_27 v0_28 v0_29 v0_30 v0_31 v0_32 v0_33 v0_34 v0_35 v0_36 v0_37 : Value) (p1 thrown0 depth0 : Int32) (isSaved1 slots2 state3 : Nat → Int32) (r o_thrown0 o_depth0 : Int32) (o_state3 : Nat → Int32) (sz : Nat) (hf : f_X10_restoreSnapshot F p1 thrown0 depth0 isSaved1 slots2 state3 = some (r, o_thrown0, o_depth0, o_state3)) : CI l m_X10_restoreSnapshot (rml 1 0 0) g (w_X10_restoreSnapshot g h0 h1 h2 h3 v0_1 v0_2 v0_3 v0_4 v0_5 v0_6 v0_7 v0_8 v0_9 v0_10 v0_11 v0_12 v0_13 v0_14 v0_15 v0_16 v0_17 v0_18 v0_19 v0_20 v0_22 v0_26 v0_27 v0_28 v0_29 v0_30 v0_31 v0_32 v0_33 v0_34 v0_35 v0_36 v0_37 thrown0 depth0 isSaved1 slots2 state3) (fun _ => w_X10_restoreSnapshot g h0 h1 h2 h3 v0_1 v0_2 v0_3 v0_4 v0_5 v0_6 v0_7 v0_8 v0_9 v0_10 v0_11 v0_12 v0_13 v0_14 v0_15 v0_16 v0_17 v0_18 v0_19 v0_20 v0_22 v0_26 v0_27 v0_28 v0_29 v0_30 v0_31 v0_32 v0_33 v0_34 v0_35 v0_36 v0_37 o_thrown0 o_depth0 isSaved1 slots2 o_state3) sz [.ref h0, .int p1] r := by
  refine en_i (by decide) (Nat.le_of_ble_eq_true rfl) (fun p e s m args below meth c A ls C w hl => ?_)
  have C : Cx p s m args meth c RX10 m_X10_restoreSnapshot g A := C
  have hx := C.1
  have hb : c.code = cX10_restoreSnapshot := C.2.1
  have hl : lv_has ls 3 [(0, .ref h0), (1, .int p1)] := hl
  obtain ⟨Q, hQ⟩ : ∃ Q, Q = QI below args s g A (fun _ => w_X10_restoreSnapshot g h0 h1 h2 h3 v0_1 v0_2 v0_3 v0_4 v0_5 v0_6 v0_7 v0_8 v0_9 v0_10 v0_11 v0_12 v0_13 v0_14 v0_15 v0_16 v0_17 v0_18 v0_19 v0_20 v0_22 v0_26 v0_27 v0_28 v0_29 v0_30 v0_31 v0_32 v0_33 v0_34 v0_35 v0_36 v0_37 o_thrown0 o_depth0 isSaved1 slots2 o_state3) r 0 0 := ⟨_, rfl⟩
  suffices hW : W p l e (rml 1 0 0) s m args below meth c s.heap [] 0 0 Q (F0 m 0 ls []) from (by rw [hQ] at hW; exact hW)
  unfold f_X10_restoreSnapshot at hf
  have L28 : ∀ (z : Int32 × Int32 × Int32 × Int32 × (Nat → Int32)), f_X10_restoreSnapshot_L28 F isSaved1 slots2 z = some (r, o_thrown0, o_depth0, o_state3) → ∀ (H : Heap) (locs : List Loc) (ls : Array Slot), Wd g A (w_X10_restoreSnapshot g h0 h1 h2 h3 v0_1 v0_2 v0_3 v0_4 v0_5 v0_6 v0_7 v0_8 v0_9 v0_10 v0_11 v0_12 v0_13 v0_14 v0_15 v0_16 v0_17 v0_18 v0_19 v0_20 v0_22 v0_26 v0_27 v0_28 v0_29 v0_30 v0_31 v0_32 v0_33 v0_34 v0_35 v0_36 v0_37 z.2.2.1 z.2.2.2.1 isSaved1 slots2 z.2.2.2.2) s.heap H locs → lv_has ls 3 [(0, .ref h0), (1, .int z.1), (2, .int z.2.1)] → W p l e (rml 1 0 0) s m args below meth c H locs 0 0 Q (F0 m 28 ls []) := by
    intro z hf
    refine lp_W (r := (r, o_thrown0, o_depth0, o_state3)) (fun (z : Int32 × Int32 × Int32 × Int32 × (Nat → Int32)) => ∀ (H : Heap) (locs : List Loc) (ls : Array Slot), Wd g A (w_X10_restoreSnapshot g h0 h1 h2 h3 v0_1 v0_2 v0_3 v0_4 v0_5 v0_6 v0_7 v0_8 v0_9 v0_10 v0_11 v0_12 v0_13 v0_14 v0_15 v0_16 v0_17 v0_18 v0_19 v0_20 v0_22 v0_26 v0_27 v0_28 v0_29 v0_30 v0_31 v0_32 v0_33 v0_34 v0_35 v0_36 v0_37 z.2.2.1 z.2.2.2.1 isSaved1 slots2 z.2.2.2.2) s.heap H locs → lv_has ls 3 [(0, .ref h0), (1, .int z.1), (2, .int z.2.1)] → W p l e (rml 1 0 0) s m args below meth c H locs 0 0 Q (F0 m 28 ls [])) (fun k28 z ih28 hf => ?_) F z hf
    obtain ⟨x1, x2, thrown0, depth0, state3⟩ := z
    intro H locs ls w hl
    try dsimp only at hf w hl ⊢
    unfold f_X10_restoreSnapshot_h28 at hf
    refine lv_iload_n hx hb dX10_restoreSnapshot_28 rfl (lv_at hl 2 rfl) ?_
    refine lv_sipush (v := 2524) hx hb dX10_restoreSnapshot_29 (by decide) ?_
    refine lv_icmp_ge (tgt := 59) hx hb dX10_restoreSnapshot_32 (by decide) (fun c1 => ?_) (fun c1 => ?_)
    · replace hf := it_t c1 hf
      refine lv_aload_n hx hb dX10_restoreSnapshot_59 rfl (lv_at hl 0 rfl) ?_
      refine lv_iconst (v := 0) hx hb dX10_restoreSnapshot_60 (by decide) ?_
      refine p_X10_212 C w 0 rfl (Nat.le_of_ble_eq_true rfl) (ws2 := w_X10_restoreSnapshot g h0 h1 h2 h3 v0_1 v0_2 v0_3 v0_4 v0_5 v0_6 v0_7 v0_8 v0_9 v0_10 v0_11 v0_12 v0_13 v0_14 v0_15 v0_16 v0_17 v0_18 v0_19 v0_20 v0_22 v0_26 v0_27 v0_28 v0_29 v0_30 v0_31 v0_32 v0_33 v0_34 v0_35 v0_36 v0_37 thrown0 0 isSaved1 slots2 state3) rfl dX10_restoreSnapshot_61 (fun H locs w => ?_)
      refine lv_iconst (v := 1) hx hb dX10_restoreSnapshot_64 (by decide) ?_
      obtain ⟨h01, hf⟩ := gd_some hf
      obtain ⟨e1, e2, e3, e4⟩ := tp4 hf
      rw [hQ]
      exact rt_z C w rfl h01 (fun _ => 0) (by rw [← e2, ← e3, ← e4]) e1 dX10_restoreSnapshot_65
    · replace hf := it_f c1 hf
      refine lv_aload_n hx hb dX10_restoreSnapshot_35 rfl (lv_at hl 0 rfl) ?_
      refine g_X10_44 C w 0 rfl rfl dX10_restoreSnapshot_36 ?_
      refine lv_iload_n hx hb dX10_restoreSnapshot_39 rfl (lv_at hl 2 rfl) ?_
      refine lv_aload_n hx hb dX10_restoreSnapshot_40 rfl (lv_at hl 0 rfl) ?_
      refine g_X10_50 C w 0 rfl rfl dX10_restoreSnapshot_41 ?_
      refine lv_sipush (v := 2524) hx hb dX10_restoreSnapshot_44 (by decide) ?_
      refine lv_iload_n hx hb dX10_restoreSnapshot_47 rfl (lv_at hl 1 rfl) ?_
      refine lv_imul hx hb dX10_restoreSnapshot_48 ?_
      refine lv_iload_n hx hb dX10_restoreSnapshot_49 rfl (lv_at hl 2 rfl) ?_
      refine lv_iadd hx hb dX10_restoreSnapshot_50 ?_
      obtain ⟨a2, hia2, haa2, hf⟩ := rd_some hf
      refine ial C w 2 rfl hia2 haa2 dX10_restoreSnapshot_51 ?_
      obtain ⟨f3, hif3, haf3, hf⟩ := wr_some hf
      refine ias C w 3 rfl hif3 haf3 (ws2 := w_X10_restoreSnapshot g h0 h1 h2 h3 v0_1 v0_2 v0_3 v0_4 v0_5 v0_6 v0_7 v0_8 v0_9 v0_10 v0_11 v0_12 v0_13 v0_14 v0_15 v0_16 v0_17 v0_18 v0_19 v0_20 v0_22 v0_26 v0_27 v0_28 v0_29 v0_30 v0_31 v0_32 v0_33 v0_34 v0_35 v0_36 v0_37 thrown0 depth0 isSaved1 slots2 f3) rfl dX10_restoreSnapshot_52 (fun H locs w => ?_)
      refine lv_iinc (v := x2 + 1) (lv' := [(2, .int (x2 + 1)), (0, .ref h0), (1, .int x1)]) hx hb dX10_restoreSnapshot_53 hl (k := 2) rfl rfl (by decide) rfl (fun ls hl => ?_)
      refine lv_goto (tgt := 28) hx hb dX10_restoreSnapshot_56 (by decide) ?_
      exact ih28 (x1, x2 + 1, thrown0, depth0, f3) hf _ _ _ w (lv_sub hl [1, 2, 0] rfl)
  have b24 : ∀ (thrown0 depth0 : Int32) (state3 : Nat → Int32) (H : Heap) (locs : List Loc) (ls : Array Slot), f_X10_restoreSnapshot_b24 F isSaved1 slots2 thrown0 depth0 state3 = some (r, o_thrown0, o_depth0, o_state3) → Wd g A (w_X10_restoreSnapshot g h0 h1 h2 h3 v0_1 v0_2 v0_3 v0_4 v0_5 v0_6 v0_7 v0_8 v0_9 v0_10 v0_11 v0_12 v0_13 v0_14 v0_15 v0_16 v0_17 v0_18 v0_19 v0_20 v0_22 v0_26 v0_27 v0_28 v0_29 v0_30 v0_31 v0_32 v0_33 v0_34 v0_35 v0_36 v0_37 thrown0 depth0 isSaved1 slots2 state3) s.heap H locs → lv_has ls 3 [] → W p l e (rml 1 0 0) s m args below meth c H locs 0 0 Q (F0 m 24 ls []) := by
    intro thrown0 depth0 state3 H locs ls hf w hl
    unfold f_X10_restoreSnapshot_b24 at hf
    refine lv_iconst (v := 0) hx hb dX10_restoreSnapshot_24 (by decide) ?_
    obtain ⟨h01, hf⟩ := gd_some hf
    obtain ⟨e1, e2, e3, e4⟩ := tp4 hf
    rw [hQ]
    exact rt_z C w rfl h01 (fun _ => 0) (by rw [← e2, ← e3, ← e4]) e1 dX10_restoreSnapshot_25
  refine lv_aload_n hx hb dX10_restoreSnapshot_0 rfl (lv_at hl 0 rfl) ?_
  refine lv_iconst (v := 0) hx hb dX10_restoreSnapshot_1 (by decide) ?_
  refine p_X10_84 C w 0 rfl (Nat.le_of_ble_eq_true rfl) (ws2 := w_X10_restoreSnapshot g h0 h1 h2 h3 v0_1 v0_2 v0_3 v0_4 v0_5 v0_6 v0_7 v0_8 v0_9 v0_10 v0_11 v0_12 v0_13 v0_14 v0_15 v0_16 v0_17 v0_18 v0_19 v0_20 v0_22 v0_26 v0_27 v0_28 v0_29 v0_30 v0_31 v0_32 v0_33 v0_34 v0_35 v0_36 v0_37 0 depth0 isSaved1 slots2 state3) rfl dX10_restoreSnapshot_2 (fun H locs w => ?_)
  refine lv_iload_n hx hb dX10_restoreSnapshot_5 rfl (lv_at hl 1 rfl) ?_
  refine lv_i2l (v := p1.toInt64) hx hb dX10_restoreSnapshot_6 rfl ?_
  refine lv_lconst (v := 0) hx hb dX10_restoreSnapshot_7 (by decide) ?_
  refine lv_lconst (v := 1) hx hb dX10_restoreSnapshot_8 (by decide) ?_
  obtain ⟨r4, hc5, hf⟩ := bd1_some hf
  refine ca_iS C w (wn := fun _ => w_X10_restoreSnapshot g h0 h1 h2 h3 v0_1 v0_2 v0_3 v0_4 v0_5 v0_6 v0_7 v0_8 v0_9 v0_10 v0_11 v0_12 v0_13 v0_14 v0_15 v0_16 v0_17 v0_18 v0_19 v0_20 v0_22 v0_26 v0_27 v0_28 v0_29 v0_30 v0_31 v0_32 v0_33 v0_34 v0_35 v0_36 v0_37 0 depth0 isSaved1 slots2 state3) (pm_k [false, false, false, false] rfl rfl (fun _ => Nat.le_of_ble_eq_true rfl) (fun _ => rfl)) (c_X10_within l g F p1.toInt64 0 1 r4 _ hc5) k_X10_115 (rm_le (by decide) (by decide)) rfl hl.1 rfl (Nat.le_of_ble_eq_true rfl) dX10_restoreSnapshot_9 ⟨Nat.le_of_ble_eq_true rfl, Nat.le_of_ble_eq_true rfl⟩ (cells2 := 0) (slots2 := 0) ⟨rfl, rfl⟩ (fun _ H locs w => ?_)
  refine lv_if_eq (tgt := 24) hx hb dX10_restoreSnapshot_12 (by decide) (fun c6 => ?_) (fun c6 => ?_)
  · replace hf := it_t c6 hf
    exact b24 0 depth0 state3 _ _ _ hf w (lv_sub hl [] rfl)
  · replace hf := it_f c6 hf
    refine lv_aload_n hx hb dX10_restoreSnapshot_15 rfl (lv_at hl 0 rfl) ?_
    refine g_X10_53 C w 0 rfl rfl dX10_restoreSnapshot_16 ?_
    refine lv_iload_n hx hb dX10_restoreSnapshot_19 rfl (lv_at hl 1 rfl) ?_
    obtain ⟨a7, hia7, haa7, hf⟩ := rd_some hf
    refine zal C w 1 rfl hia7 haa7 dX10_restoreSnapshot_20 ?_
    refine lv_if_ne (tgt := 26) hx hb dX10_restoreSnapshot_21 (by decide) (fun c8 => ?_) (fun c8 => ?_)
    · replace hf := it_f c8 hf
      refine lv_iconst (v := 0) hx hb dX10_restoreSnapshot_26 (by decide) ?_
      refine lv_istore_n (lv' := [(2, .int 0), (0, .ref h0), (1, .int p1)]) hx hb dX10_restoreSnapshot_27 rfl hl (by decide) rfl (fun ls hl => ?_)
      exact L28 (p1, 0, 0, depth0, state3) hf _ _ _ w (lv_sub hl [1, 2, 0] rfl)
    · replace hf := it_t c8 hf
      exact b24 0 depth0 state3 _ _ _ hf w (lv_sub hl [] rfl)
